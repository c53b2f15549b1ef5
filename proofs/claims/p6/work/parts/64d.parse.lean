/-! ALL STATEMENTS READ -/
def sp (x : Int32) : Nat := 1 + sg x + dn x + 1
def pos (l : Nat → Int32) : Nat → Nat
  | 0 => 0
  | k + 1 => pos l k + sp (l (pos l k))
def FS (k : Nat) (r r' : AH) : Prop := (∀ o i, ¬ (o = 0 ∧ i = 22) → ¬ (o = 14 ∧ i = k) → ¬ (o = 15 ∧ i = k) → ¬ (o = 16 ∧ 8 * k ≤ i ∧ i < 8 * k + 8) → r'.1 o i = r.1 o i) ∧ r'.2 = r.2
def TOLD (l : Nat → Int32) (L : Nat) (r : AH) (K : Nat) : Prop := ∀ k, k < K → pos l k < L ∧ okL (l (pos l k)) ∧ r.1 14 k = l (pos l k) ∧ r.1 15 k = nI (pos l k) ∧ DG l L (pos l k + 1 + sg (l (pos l k))) (dn (l (pos l k))) ∧ pos l (k + 1) ≤ L ∧ TN l r (8 * k) (pos l k) (l (pos l k))
theorem TN.c {l : Nat → Int32} {r r' : AH} {a q : Nat} {x : Int32} (h : TN l r a q x) (e : ∀ i, i < 8 → r'.1 16 (a + i) = r.1 16 (a + i)) : TN l r' a q x := by
  have e0 : r'.1 16 a = r.1 16 a := e 0 (by omega)
  obtain ⟨h1, h2, h3, h4⟩ := h
  refine ⟨fun z => by rw [e0]; exact h1 z, fun z => by rw [e0]; exact h2 z, fun z => ?_, fun z => by rw [e0]; exact h4 z⟩
  obtain ⟨t0, t1, t2, t3, t4, t5, t6, t7⟩ := h3 z
  exact ⟨by rw [e 0 (by omega)]; exact t0, by rw [e 1 (by omega)]; exact t1, by rw [e 2 (by omega)]; exact t2, by rw [e 3 (by omega)]; exact t3, by rw [e 4 (by omega)]; exact t4, by rw [e 5 (by omega)]; exact t5, by rw [e 6 (by omega)]; exact t6, by rw [e 7 (by omega)]; exact t7⟩
section PA
variable {l : Nat → Int32} {L : Nat} {c : AH}
theorem s_let (x : Int32) (h : AH) : (okL x ∧ X10_digitsBehind x h = some (nI (dn x), h)) ∨ (¬ okL x ∧ X10_digitsBehind x h = some (-1, h)) := by
  unfold X10_digitsBehind
  rw [vl_e]
  by_cases x1 : x = 102
  · subst x1; exact Or.inl ⟨by unfold okL; decide, rfl⟩
  by_cases x2 : x = 103
  · subst x2; exact Or.inl ⟨by unfold okL; decide, rfl⟩
  by_cases x3 : x = 106
  · subst x3; exact Or.inl ⟨by unfold okL; decide, rfl⟩
  by_cases x4 : x = 110
  · subst x4; exact Or.inl ⟨by unfold okL; decide, rfl⟩
  by_cases x5 : x = 112
  · subst x5; exact Or.inl ⟨by unfold okL; decide, rfl⟩
  by_cases x6 : x = 116
  · subst x6; exact Or.inl ⟨by unfold okL; decide, rfl⟩
  by_cases x7 : x = 119
  · subst x7; exact Or.inl ⟨by unfold okL; decide, rfl⟩
  rw [if_neg x1, if_neg x2, if_neg x3, if_neg x4, if_neg x5, if_neg x6, if_neg x7]
  refine Or.inr ⟨fun h => ?_, rfl⟩
  rcases h with h | h | h | h | h | h | h
  · exact x4 h
  · exact x7 h
  · exact x2 h
  · exact x3 h
  · exact x6 h
  · exact x1 h
  · exact x5 h
theorem s_stmt (hL : L ≤ 96) (e : c.1 0 6 = nI L) (hl : ∀ k, k < L → c.1 2 k = l k) {r : AH} (e' : r.1 0 21 = nI L) (hl' : ∀ k, k < L → r.1 13 k = l k) {q k : Nat} (hq : q < L) (hk : k < 48) (e2 : r.1 0 22 = nI q) (e3 : r.1 0 23 = nI k) :
    (∃ r', X11_statement r = some (1, r') ∧ okL (l q) ∧ q + sp (l q) ≤ L ∧ DG l L (q + 1 + sg (l q)) (dn (l q)) ∧ r'.1 0 22 = nI (q + sp (l q)) ∧ r'.1 14 k = l q ∧ r'.1 15 k = nI q ∧ TN l r' (8 * k) q (l q) ∧ FS k r r' ∧ ∀ f x y, X10_firstBadLetter_l9 (f + sp (l q)) 0 x y (nI q) c = X10_firstBadLetter_l9 f 0 0 (nI 0) (nI (q + sp (l q))) c) ∨
    (∃ r' e, X11_statement r = some (0, r') ∧ e ≤ L ∧ r'.1 0 22 = nI e ∧ FS k r r' ∧ ∀ f x y, 50 ≤ f → X10_firstBadLetter_l9 f 0 x y (nI q) c = some (nI e, c)) := by
  have nx := s_next (l := l) (r := r) hL e' hl' (by omega : q ≤ L) e2
  rw [if_pos hq] at nx
  have stp : ∀ f x y, X10_firstBadLetter_l9 (f + 1) 0 x y (nI q) c = bd (X10_digitsBehind (l q) c) fun r4 h5 => if 0 ≤ r4 then (if l q = 119 then X10_firstBadLetter_j56 r4 (nI q) (X10_firstBadLetter_l9 f) 1 h5 else X10_firstBadLetter_j56 r4 (nI q) (X10_firstBadLetter_l9 f) 0 h5) else some (nI q, h5) := by
    intro f x y
    rw [X10_firstBadLetter_l9.eq_2, e, if_neg (nI_ge hq (by omega)), ck_nI _ (by omega) (by decide), nI_clamp (by omega), hl q hq, vl_e, i_0]
  rcases s_let (l q) c with ⟨ok, ed⟩ | ⟨nok, ed⟩
  · have hd13 : dn (l q) ≤ 13 := by unfold dn; repeat' split
                                    all_goals omega
    have stp2 : ∀ f x y, X10_firstBadLetter_l9 (f + 1) 0 x y (nI q) c = X10_firstBadLetter_l9 f 1 (nI (sg (l q))) (nI (dn (l q))) (nI (q + 1)) c := by
      intro f x y
      rw [stp, ed, bd_s, if_pos (nI_pos' (by omega))]
      unfold X10_firstBadLetter_j56 X10_firstBadLetter_j127 sg
      rw [vl_e, nI_1]
      by_cases z : l q = 119
      · rw [if_pos z, if_pos z]; rfl
      · rw [if_neg z, if_neg z]; rfl
    have ej : X11_statement r = X11_statement_j49 (l q) r := by
      unfold X11_statement
      rw [nx, bd_s]
      rcases ok with h | h | h | h | h | h | h <;> rw [h] <;> rfl
    obtain ⟨g, eg⟩ : ∃ g, g = sI (sI (sI r 14 k (l q)) 15 k (nI q)) 0 22 (nI (q + 1)) := ⟨_, rfl⟩
    have gF : ∀ o i, ¬ (o = 0 ∧ i = 22) → ¬ (o = 14 ∧ i = k) → ¬ (o = 15 ∧ i = k) → g.1 o i = r.1 o i := fun o i h1 h2 h3 => by rw [eg, sI_n h1, sI_n h3, sI_n h2]
    have g22 : g.1 0 22 = nI (q + 1) := by rw [eg, sI_y]
    have g2' : g.2 = r.2 := by rw [eg]; rfl
    have e8 : (8 : Int32) * nI k = nI (8 * k) := pk_mul 8 k
    have ej2 : X11_statement_j49 (l q) r = bd (X11_readsAll (l q) (nI (8 * k)) g) fun r6 h7 => if r6 = 0 then cz 0 (some (0, h7)) else bd (X11_next h7) fun r8 h9 => if r8 = 59 then vl (sI h9 0 22 (h9.1 0 22 + 1)) fun h10 => cz 1 (some (1, h10)) else cz 0 (some (0, h9)) := by
      unfold X11_statement_j49
      have q1 : (sI r 14 k (l q)).1 0 23 = nI k := by rw [sI_n (by omega)]; exact e3
      have q0 : (sI r 14 k (l q)).1 0 22 = nI q := by rw [sI_n (by omega)]; exact e2
      have q2 : (sI (sI r 14 k (l q)) 15 k (nI q)).1 0 22 = nI q := by rw [sI_n (by omega)]; exact q0
      have q3 : g.1 0 23 = nI k := by rw [gF 0 23 (by omega) (by omega) (by omega)]; exact e3
      rw [e3, ck_nI _ hk (by decide), nI_clamp (by omega)]
      simp only [vl_e]
      rw [q1, ck_nI _ hk (by decide), nI_clamp (by omega), q0, q2, nI_1, ← eg, q3, e8]
    rw [ej, ej2]
    have FSg : ∀ r', fr8 (8 * k) g r' → FS k r r' := fun r' F => ⟨fun o i h1 h2 h3 h4 => by rw [F.1 o i h1 h4]; exact gF o i h1 h2 h3, F.2.trans g2'⟩
    rcases s_reads (l := l) (r := g) (c := c) hL e hl (by rw [gF 0 21 (by omega) (by omega) (by omega)]; exact e') (fun i hi => by rw [gF 13 i (by omega) (by omega) (by omega)]; exact hl' i hi) ok (by omega : q + 1 ≤ L) (by omega : 8 * k + 8 ≤ 384) g22 with ⟨r', b1, b2, b3, b4, b5, b6, b7⟩ | ⟨r', e9, b1, b2, b3, b4, b5⟩
    · have n2 := s_next (l := l) (r := r') hL (by rw [b6.1 0 21 (by omega) (by omega), gF 0 21 (by omega) (by omega) (by omega)]; exact e') (fun i hi => by rw [b6.1 13 i (by omega) (by omega), gF 13 i (by omega) (by omega) (by omega)]; exact hl' i hi) b2 b4
      have r14 : r'.1 14 k = l q := by rw [b6.1 14 k (by omega) (by omega), eg, sI_n (by omega), sI_n (by omega), sI_y]
      have r15 : r'.1 15 k = nI q := by rw [b6.1 15 k (by omega) (by omega), eg, sI_n (by omega), sI_y]
      rw [b1, bd_s, i_10, n2, bd_s]
      have esp : q + 1 + sg (l q) + dn (l q) + 1 = q + sp (l q) := by unfold sp; omega
      rcases s_machE (l := l) (c := c) hL e hl (q := q + 1 + sg (l q) + dn (l q)) (f := 0) b2 with ⟨z1, z2, _⟩ | ⟨z1, _⟩
      · rw [if_pos z1, if_pos z2, vl_e, cz_1, b4, nI_1, esp]
        refine Or.inl ⟨_, rfl, ok, by unfold sp; omega, b3, sI_y, by rw [sI_n (by omega)]; exact r14, by rw [sI_n (by omega)]; exact r15, b5.c (fun i hi => by rw [sI_n (by omega)]), ⟨fun o i h1 h2 h3 h4 => by rw [sI_n h1]; exact (FSg r' b6).1 o i h1 h2 h3 h4, (FSg r' b6).2⟩, fun f x y => ?_⟩
        have e10 : f + sp (l q) = (f + 1 + (sg (l q) + dn (l q))) + 1 := by unfold sp; omega
        rw [e10, stp2, b7]
        rcases s_machE (l := l) (c := c) hL e hl (q := q + 1 + sg (l q) + dn (l q)) (f := f) b2 with ⟨_, _, y3⟩ | ⟨y1, _⟩
        · rw [y3, esp]
        · exact absurd ⟨z1, z2⟩ y1
      · have hz : ¬ (if q + 1 + sg (l q) + dn (l q) < L then l (q + 1 + sg (l q) + dn (l q)) else -1) = 59 := by
          by_cases d : q + 1 + sg (l q) + dn (l q) < L
          · rw [if_pos d]; exact fun h => z1 ⟨d, h⟩
          · rw [if_neg d]; decide
        rw [if_neg hz, cz_0]
        refine Or.inr ⟨r', q + 1 + sg (l q) + dn (l q), rfl, b2, b4, FSg r' b6, fun f x y hf => ?_⟩
        have hs1 : sg (l q) ≤ 1 := by unfold sg; split <;> omega
        obtain ⟨g', rfl⟩ : ∃ g', f = (g' + 1 + (sg (l q) + dn (l q))) + 1 := ⟨f - 2 - (sg (l q) + dn (l q)), by omega⟩
        rw [stp2, b7]
        rcases s_machE (l := l) (c := c) hL e hl (q := q + 1 + sg (l q) + dn (l q)) (f := g') b2 with ⟨y1, y2, _⟩ | ⟨_, y2⟩
        · exact absurd ⟨y1, y2⟩ z1
        · exact y2
    · rw [b1, bd_s, i_0, cz_0]
      refine Or.inr ⟨r', e9, rfl, b2, b3, FSg r' b4, fun f x y hf => ?_⟩
      obtain ⟨g', rfl⟩ : ∃ g', f = g' + 1 := ⟨f - 1, by omega⟩
      rw [stp2]
      exact b5 g' (by omega)
  · have ej : X11_statement r = some (0, r) := by
      unfold X11_statement
      rw [nx, bd_s, if_neg (fun h => nok (Or.inl h)), if_neg (fun h => nok (Or.inr (Or.inl h))), if_neg (fun h => nok (Or.inr (Or.inr (Or.inl h)))), if_neg (fun h => nok (Or.inr (Or.inr (Or.inr (Or.inl h))))), if_neg (fun h => nok (Or.inr (Or.inr (Or.inr (Or.inr (Or.inl h)))))), if_neg (fun h => nok (Or.inr (Or.inr (Or.inr (Or.inr (Or.inr (Or.inl h))))))), if_neg (fun h => nok (Or.inr (Or.inr (Or.inr (Or.inr (Or.inr (Or.inr h))))))), cz_0]
    rw [ej]
    refine Or.inr ⟨r, q, rfl, by omega, e2, ⟨fun _ _ _ _ _ _ => rfl, rfl⟩, fun f x y hf => ?_⟩
    obtain ⟨g', rfl⟩ : ∃ g', f = g' + 1 := ⟨f - 1, by omega⟩
    rw [stp, ed, bd_s, if_neg (by decide)]
theorem l_parse (hL : L ≤ 96) (e : c.1 0 6 = nI L) (hl : ∀ k, k < L → c.1 2 k = l k) {r : AH} (e' : r.1 0 21 = nI L) (hl' : ∀ k, k < L → r.1 13 k = l k) : ∀ (f fc k : Nat) (x y : Int32) (rt : AH), L + 3 < pos l k + f → L + 60 < pos l k + fc → pos l k ≤ L → 2 * k ≤ pos l k → rt.1 0 22 = nI (pos l k) → rt.1 0 23 = nI k → GF r rt → TOLD l L rt k →
    (∃ r' e9, X10_firstBadLetter_l9 fc 0 x y (nI (pos l k)) c = some (nI e9, c) ∧ X11_ground_l12 f 1 rt = X11_ground_j60 0 r' ∧ e9 ≤ L ∧ r'.1 0 22 = nI e9 ∧ GF r r') ∨
    (∃ r' K, X10_firstBadLetter_l9 fc 0 x y (nI (pos l k)) c = some (-1, c) ∧ X11_ground_l12 f 1 rt = X11_ground_j60 1 r' ∧ K ≤ 48 ∧ pos l K = L ∧ r'.1 0 23 = nI K ∧ TOLD l L r' K ∧ GF r r') := by
  have hs2 : ∀ x, 2 ≤ sp x := fun x => by unfold sp; omega
  have hs16 : ∀ x, sp x ≤ 20 := fun x => by
    have h1 : sg x ≤ 1 := by unfold sg; split <;> omega
    have h2 : dn x ≤ 13 := by unfold dn; repeat' split
                              all_goals omega
    unfold sp
    omega
  intro f
  induction f with
  | zero => intro fc k x y rt h1 h2 h3; omega
  | succ f ih =>
    intro fc k x y rt h1 h2 h3 h4 h22 h23 F TO
    have r21 : rt.1 0 21 = nI L := by rw [F.1 0 21 (by omega) (by omega) (by omega) (by omega)]; exact e'
    rw [X11_ground_l12.eq_2, i_10, h22, r21, h23]
    by_cases z : pos l k < L
    · rw [if_pos (nI_lt z (by omega))]
      unfold X11_ground_j34 X11_ground_j53
      rcases s_stmt (l := l) (r := rt) (c := c) hL e hl r21 (fun i hi => by rw [F.1 13 i (by omega) (by omega) (by omega) (by omega)]; exact hl' i hi) z (by omega : k < 48) h22 h23 with ⟨r', b1, b2, b3, b4, b5, b6, b7, b8, b9, b10⟩ | ⟨r', e9, b1, b2, b3, b4, b5⟩
      · have q23 : r'.1 0 23 = nI k := by rw [b9.1 0 23 (by omega) (by omega) (by omega) (by omega)]; exact h23
        rw [b1, bd_s, i_10, q23, vl_e, nI_1]
        obtain ⟨g', rfl⟩ : ∃ g', fc = g' + sp (l (pos l k)) := ⟨fc - sp (l (pos l k)), by have := hs16 (l (pos l k)); omega⟩
        rw [b10]
        have ps : pos l (k + 1) = pos l k + sp (l (pos l k)) := rfl
        rw [← ps] at b3 b5 ⊢
        have h2' := hs2 (l (pos l k))
        refine ih g' (k + 1) 0 (nI 0) (sI r' 0 23 (nI (k + 1))) (by omega) (by omega) b3 (by omega) (by rw [sI_n (by omega)]; exact b5) sI_y (F.tr ⟨fun o i o1 o2 o3 o4 => by rw [sI_n (by omega)]; exact b9.1 o i (by omega) (by omega) (by omega) (by omega), b9.2⟩) (fun i hi => ?_)
        by_cases d : i = k
        · subst d
          exact ⟨z, b2, by rw [sI_n (by omega)]; exact b6, by rw [sI_n (by omega)]; exact b7, b4, b3, b8.c (fun m hm => by rw [sI_n (by omega)])⟩
        · obtain ⟨t1, t2, t3, t4, t5, t6, t7⟩ := TO i (by omega)
          exact ⟨t1, t2, by rw [sI_n (by omega), b9.1 14 i (by omega) (by omega) (by omega) (by omega)]; exact t3, by rw [sI_n (by omega), b9.1 15 i (by omega) (by omega) (by omega) (by omega)]; exact t4, t5, t6, t7.c (fun m hm => by rw [sI_n (by omega), b9.1 16 _ (by omega) (by omega) (by omega) (by omega)])⟩
      · rw [b1, bd_s, i_0, vl_e]
        cases f with
        | zero => omega
        | succ f =>
          rw [X11_ground_l12.eq_2, i_0]
          refine Or.inl ⟨_, e9, b5 fc x y (by omega), rfl, b2, by rw [sI_n (by omega)]; exact b3, F.tr ⟨fun o i o1 o2 o3 o4 => by rw [sI_n (by omega)]; exact b4.1 o i (by omega) (by omega) (by omega) (by omega), b4.2⟩⟩
    · have hpL : pos l k = L := by omega
      rw [if_neg (nI_nlt (by omega) (by omega))]
      obtain ⟨g', rfl⟩ : ∃ g', fc = g' + 1 := ⟨fc - 1, by omega⟩
      rw [X10_firstBadLetter_l9.eq_2, e, if_pos (nI_le (by omega) (by omega)), i_0]
      by_cases zk : k = 0
      · subst zk
        have hL0 : L = 0 := hpL.symm
        subst hL0
        have nx := s_next (l := l) (r := rt) hL r21 (fun i hi => by omega) (Nat.le_refl 0) h22
        rw [if_neg (by omega)] at nx
        have ej : X11_statement rt = some (0, rt) := by
          unfold X11_statement
          rw [nx, bd_s, if_neg (by decide), if_neg (by decide), if_neg (by decide), if_neg (by decide), if_neg (by decide), if_neg (by decide), if_neg (by decide), cz_0]
        rw [if_pos (show nI 0 = 0 from rfl), if_pos (show nI 0 = 0 from rfl)]
        unfold X11_ground_j34 X11_ground_j53 X10_firstBadLetter_j144
        rw [ej, bd_s, i_0, vl_e, e]
        cases f with
        | zero => omega
        | succ f =>
          rw [X11_ground_l12.eq_2, i_0]
          exact Or.inl ⟨_, 0, rfl, rfl, Nat.le_refl 0, by rw [sI_n (by omega)]; exact h22, F.tr ⟨fun o i o1 o2 o3 o4 => by rw [sI_n (by omega)], rfl⟩⟩
      · rw [if_neg (nI_ne0 (by omega) (by omega)), if_neg (nI_ne0 (by omega) (by omega))]
        exact Or.inr ⟨rt, k, rfl, rfl, by omega, hpL, h23, TO, F⟩
end PA
