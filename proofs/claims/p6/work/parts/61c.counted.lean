/-! COUNTED: better, tried, count, jumper, leads, goOn, ranks -/
section B1
variable {o S G N T : Nat} {c r : AH}
theorem T24 (M : MR o c r S G N T) : T ≤ 24 := by
  have hN := M.1.2.2.2.2.2.2.1
  have hT := M.1.2.2.2.2.2.2.2.1
  omega
theorem l_better (M : MR 42 c r S G N T) (a : Int32) : ∀ (f t : Nat) (x y : Int32), T < t + f → t ≤ T → ∃ v, X10_better_l24 a f x y (nI t) c = some (v, c) ∧ X11_better_l21 a f x y (nI t) r = some (v, r) := by
  have h24 := T24 M
  intro f
  induction f with
  | zero => intro t x y h1 h2; omega
  | succ f ih =>
    intro t x y h1 h2
    rw [X10_better_l24.eq_2, X11_better_l21.eq_2, M.2.1.2.2.2.2, M.1.2.2.2.1]
    by_cases z : t = T
    · subst z
      rw [if_pos (Int32.le_refl _), if_pos (Int32.le_refl _)]
      exact ⟨y, rfl, rfl⟩
    · have e := M.2.2.2 t (by omega)
      have e1 : c.1 44 t = r.1 10 t := e.1
      have e2 : c.1 46 t = r.1 11 t := e.2
      rw [if_neg (nI_ge (by omega) (by omega)), if_neg (nI_ge (by omega) (by omega))]
      simp only [ck_nI _ (show t < 24 by omega) (show 24 < 2 ^ 31 by decide), nI_clamp (show t < 2 ^ 31 by omega), e1, e2]
      unfold X10_better_j78 X11_better_j66
      simp only [vl_e, nI_1]
      by_cases y1 : r.1 10 t = a
      · rw [if_pos y1, if_pos y1]
        by_cases y2 : x < r.1 11 t
        · rw [if_neg (show ¬ r.1 11 t ≤ x from Int32.not_le.mpr y2), if_pos y2]
          exact ih (t + 1) _ _ (by omega) (by omega)
        · rw [if_pos (show r.1 11 t ≤ x from Int32.not_lt.mp y2), if_neg y2]
          exact ih (t + 1) _ _ (by omega) (by omega)
      · rw [if_neg y1, if_neg y1]
        exact ih (t + 1) _ _ (by omega) (by omega)
theorem cN_step (p : Nat → Prop) [DecidablePred p] (t : Nat) : cN (fun k => decide (p k)) (t + 1) = cN (fun k => decide (p k)) t + (if p t then 1 else 0) := by
  show cN _ t + (if decide (p t) = true then 1 else 0) = _
  by_cases y : p t
  · rw [if_pos y, if_pos (decide_eq_true y)]
  · rw [if_neg y, if_neg (by rw [decide_eq_false y]; decide)]
theorem m_one (x : Int32) : x + -1 = x - nI 1 := (Int32.sub_eq_add_neg x 1).symm
theorem cN_le2 (p : Nat → Bool) {a b : Nat} (h : a ≤ b) : cN p a ≤ cN p b := by
  induction b with
  | zero => rw [Nat.le_zero.mp h]; exact Nat.le_refl _
  | succ b ih =>
    rcases Nat.lt_or_ge b a with z | z
    · have : a = b + 1 := by omega
      rw [this]
      exact Nat.le_refl _
    · exact Nat.le_trans (ih z) (Nat.le_add_right _ _)
theorem cN_lt' {p : Nat → Bool} {t n : Nat} (h : t < n) (e : p t = true) : cN p t < cN p n := by
  have h1 : cN p (t + 1) = cN p t + 1 := by show cN p t + (if p t = true then 1 else 0) = _; rw [if_pos e]
  have h2 := cN_le2 p (a := t + 1) (b := n) h
  omega
theorem s_withC (M : MR 42 c r S G N T) (a : Int32) : X5_triesWith 42 a c = some (nI (cN (fun t => decide (r.1 11 t = a)) T), c) := by
  have h24 := T24 M
  have key : ∀ (f t : Nat), T < t + f → t ≤ T → X5_triesWith_l4 42 a f (nI (cN (fun t => decide (r.1 11 t = a)) t)) (nI t) c = some (nI (cN (fun t => decide (r.1 11 t = a)) T), c) := by
    intro f
    induction f with
    | zero => intro t h1 h2; omega
    | succ f ih =>
      intro t h1 h2
      rw [X5_triesWith_l4.eq_2, M.2.1.2.2.2.2]
      by_cases z : t = T
      · subst z
        rw [if_pos (Int32.le_refl _)]
      · have nx := ih (t + 1) (by omega) (by omega)
        rw [cN_step] at nx
        have e2 : c.1 (42 + 4) t = r.1 11 t := (M.2.2.2 t (by omega)).2
        rw [if_neg (nI_ge (by omega) (by omega)), ck_nI _ (by omega) (by decide), nI_clamp (by omega), e2]
        unfold X5_triesWith_j28
        by_cases y : r.1 11 t = a
        · rw [if_pos y] at nx ⊢
          rw [vl_e, vl_e, nI_1, nI_1]
          exact nx
        · rw [if_neg y] at nx ⊢
          rw [vl_e, vl_e, nI_1, Int32.add_zero]
          exact nx
  exact key FU 0 (by unfold FU; omega) (by omega)
theorem s_withR (R : RN r S G N T) (a : Int32) : X11_triesAs a r = some (nI (cN (fun t => decide (r.1 11 t = a)) T), r) := by
  have hN := R.2.2.2.2.2.2.1
  have hT := R.2.2.2.2.2.2.2.1
  have key : ∀ (f t : Nat), T < t + f → t ≤ T → X11_triesAs_l4 a f (nI (cN (fun t => decide (r.1 11 t = a)) t)) (nI t) r = some (nI (cN (fun t => decide (r.1 11 t = a)) T), r) := by
    intro f
    induction f with
    | zero => intro t h1 h2; omega
    | succ f ih =>
      intro t h1 h2
      rw [X11_triesAs_l4.eq_2, R.2.2.2.1]
      by_cases z : t = T
      · subst z
        rw [if_pos (Int32.le_refl _)]
      · have nx := ih (t + 1) (by omega) (by omega)
        rw [cN_step] at nx
        rw [if_neg (nI_ge (by omega) (by omega)), ck_nI _ (by omega) (by decide), nI_clamp (by omega)]
        unfold X11_triesAs_j28
        by_cases y : r.1 11 t = a
        · rw [if_pos y] at nx ⊢
          rw [vl_e, vl_e, nI_1, nI_1]
          exact nx
        · rw [if_neg y] at nx ⊢
          rw [vl_e, vl_e, nI_1, Int32.add_zero]
          exact nx
  exact key FU 0 (by unfold FU; omega) (by omega)
/-- the k-th try of one, found on both sides -/
theorem l_tried (M : MR 42 c r S G N T) (a : Int32) (k : Nat) (hk : k < cN (fun t => decide (r.1 10 t = a)) T) : ∃ t0, t0 < T ∧ X5_find 42 a (nI k) c = some (nI t0, c) ∧ X11_tried_l32 a FU (nI k) 0 r = some (r.1 11 t0, r) := by
  have h24 := T24 M
  have hk24 : k < 24 := by have := cN_le (fun t => decide (r.1 10 t = a)) T; omega
  have key : ∀ (f t : Nat), T < t + f → t ≤ T → cN (fun t => decide (r.1 10 t = a)) t ≤ k → ∃ t0, t0 < T ∧ X5_find_l5 42 a (nI k) f (nI (cN (fun t => decide (r.1 10 t = a)) t)) (nI t) c = some (nI t0, c) ∧ X11_tried_l32 a f (nI (k - cN (fun t => decide (r.1 10 t = a)) t)) (nI t) r = some (r.1 11 t0, r) := by
    intro f
    induction f with
    | zero => intro t h1 h2 _; omega
    | succ f ih =>
      intro t h1 h2 h3
      rw [X5_find_l5.eq_2, X11_tried_l32.eq_2, M.2.1.2.2.2.2, M.1.2.2.2.1]
      have z : t ≠ T := fun z => by subst z; omega
      have nx := ih (t + 1) (by omega) (by omega)
      rw [cN_step] at nx
      have e1 : c.1 (42 + 2) t = r.1 10 t := (M.2.2.2 t (by omega)).1
      rw [if_neg (nI_ge (by omega) (by omega)), if_neg (nI_ge (by omega) (by omega)), ck_nI _ (by omega) (by decide), ck_nI _ (by omega) (by decide), nI_clamp (by omega), e1]
      unfold X5_find_j36 X11_tried_j70
      by_cases y : r.1 10 t = a
      · rw [if_pos y] at nx
        rw [if_pos y, if_pos y]
        by_cases x : cN (fun t => decide (r.1 10 t = a)) t = k
        · rw [if_pos (by rw [x]), x, Nat.sub_self, if_pos (by rfl), ck_nI _ (by omega) (by decide)]
          exact ⟨t, by omega, rfl, rfl⟩
        · rw [if_neg (show ¬ nI (cN (fun t => decide (r.1 10 t = a)) t) = nI k from fun q => x ((nI_eq (by omega) (by omega)).mp q)), if_neg (nI_ne0 (by omega) (by omega))]
          have e3 : nI (k - cN (fun t => decide (r.1 10 t = a)) t) + -1 = nI (k - (cN (fun t => decide (r.1 10 t = a)) t + 1)) := by
            rw [m_one, pk_sub (b := 1) (by omega), Nat.sub_sub]
          simp only [vl_e, nI_1, e3]
          exact nx (by omega)
      · rw [if_neg y] at nx
        rw [if_neg y, if_neg y]
        simp only [vl_e, nI_1]
        exact nx (by omega)
  exact key FU 0 (by unfold FU; omega) (by omega) (Nat.zero_le _)
/-- no such try -/
theorem l_none (M : MR 42 c r S G N T) (a : Int32) (v : Int32) (hv : ∀ k, k < cN (fun t => decide (r.1 10 t = a)) T → v ≠ nI k) : X5_find 42 a v c = some (-1, c) := by
  have h24 := T24 M
  have key : ∀ (f t : Nat), T < t + f → t ≤ T → X5_find_l5 42 a v f (nI (cN (fun t => decide (r.1 10 t = a)) t)) (nI t) c = some (-1, c) := by
    intro f
    induction f with
    | zero => intro t h1 h2; omega
    | succ f ih =>
      intro t h1 h2
      rw [X5_find_l5.eq_2, M.2.1.2.2.2.2]
      by_cases z : t = T
      · subst z
        rw [if_pos (Int32.le_refl _)]
      · have nx := ih (t + 1) (by omega) (by omega)
        rw [cN_step] at nx
        have e1 : c.1 (42 + 2) t = r.1 10 t := (M.2.2.2 t (by omega)).1
        rw [if_neg (nI_ge (by omega) (by omega)), ck_nI _ (by omega) (by decide), nI_clamp (by omega), e1]
        unfold X5_find_j36
        by_cases y : r.1 10 t = a
        · rw [if_pos y] at nx
          have m : cN (fun t => decide (r.1 10 t = a)) t < cN (fun t => decide (r.1 10 t = a)) T := cN_lt' (by omega) (decide_eq_true y)
          rw [if_pos y, if_neg (fun q => hv _ m q.symm)]
          simp only [vl_e, nI_1]
          exact nx
        · rw [if_neg y] at nx
          rw [if_neg y]
          simp only [vl_e, nI_1]
          exact nx
  exact key FU 0 (by unfold FU; omega) (by omega)
end B1
theorem o_better {c r : AH} {a1 : Int32} (I : Inv c r) : SimE (X10_better a1 c) (X11_better a1 r) Inv := by
  obtain ⟨⟨S, G, N, T, M⟩, hW, hL, hRow, hRF, hIM⟩ := id I
  have hN := M.1.2.2.2.2.2.2.1
  have h24 := T24 M
  unfold X10_better X11_better
  rcases jm a1 hN with hz | ⟨j, hj, rfl⟩
  · rw [nb_n M.2.1.2.2.2.1 hz, bd_s, ij_n M.1.2.2.1 hz, bd_s, i_0, i_1]
    exact rfs (x := -1) I (by decide)
  · rw [nb_y M.2.1.2.2.2.1 hN hj, bd_s, ij_y M.1.2.2.1 hN hj, bd_s, i_0, i_10]
    obtain ⟨v, e1, e2⟩ := l_better M (nI j) FU 0 0 0 (by unfold FU; omega) (by omega)
    exact SimE.mk' e1 e2 rfl I
theorem o_tried {c r : AH} {a1 a2 : Int32} (I : Inv c r) : SimE (X10_tried a1 a2 c) (X11_tried a1 a2 r) Inv := by
  obtain ⟨⟨S, G, N, T, M⟩, hW, hL, hRow, hRF, hIM⟩ := id I
  have hN := M.1.2.2.2.2.2.2.1
  have h24 := T24 M
  unfold X10_tried X11_tried
  rcases jm a1 hN with hz | ⟨j, hj, rfl⟩
  · rw [nb_n M.2.1.2.2.2.1 hz, bd_s, ij_n M.1.2.2.1 hz, bd_s, i_0, i_1]
    unfold X10_tried_j21 X11_tried_j21
    rw [if_neg (by decide)]
    exact rfs (x := -1) I (by decide)
  · have hc := cN_le (fun t => decide (r.1 10 t = nI j)) T
    rw [nb_y M.2.1.2.2.2.1 hN hj, bd_s, ij_y M.1.2.2.1 hN hj, bd_s, i_0, i_10, s_triesOfR M.1, bd_s]
    rcases pk_ix a2 (n := cN (fun t => decide (r.1 10 t = nI j)) T) (by omega) with h | h | ⟨k, hk, rfl⟩
    · rw [if_pos h, l_none M _ _ (fun k hk e => by rw [e] at h; exact absurd h (nI_pos (by omega))), bd_s]
      unfold X10_tried_j21 X11_tried_j21
      rw [if_neg (by decide)]
      exact rfs (x := -1) I (by decide)
    · rw [l_none M _ _ (fun k hk e => by rw [e] at h; exact absurd h (nI_ge hk (by omega))), bd_s]
      unfold X10_tried_j21 X11_tried_j21
      rw [if_neg (show ¬ (0 : Int32) ≤ -1 by decide), if_neg (show ¬ a2 < nI _ from Int32.not_lt.mpr h)]
      have e : ∀ (x : Option (Int32 × AH)), (if a2 < 0 then x else x) = x := fun x => by split <;> rfl
      rw [e]
      exact rfs (x := -1) I (by decide)
    · obtain ⟨t0, ht, e1, e2⟩ := l_tried M (nI j) k hk
      rw [e1, bd_s, if_neg (nI_pos (by omega)), if_pos (nI_lt hk (by omega)), e2]
      unfold X10_tried_j21
      rw [if_pos (nI_pos' (by omega)), ck_nI _ (by omega) (by decide), nI_clamp (by omega)]
      exact SimE.mk' rfl rfl (M.2.2.2 t0 ht).2 I
theorem o_leads {c r : AH} (I : Inv c r) : SimE (X10_leads c) (X11_leads r) Inv := by
  obtain ⟨⟨S, G, N, T, M⟩, hW, hL, hRow, hRF, hIM⟩ := id I
  obtain ⟨v, c', e1, f1, t1⟩ := m_leadC M (by decide)
  obtain ⟨v', r', e2, f2, t2⟩ := m_leadR M.1
  unfold X10_leads X11_leads
  rw [bd_id, bd_id]
  exact SimE.mk' e1 e2 (LV_u M.1.2.2.2.2.2.2.1 t1 t2) (Inv_f I (PC.FR f1) (fun _ _ _ => PR.FT f2))
theorem o_goOn {c r : AH} (I : Inv c r) : SimE (X10_goOn c) (X11_goOn r) Inv := by
  obtain ⟨⟨S, G, N, T, M⟩, hW, hL, hRow, hRF, hIM⟩ := id I
  have hN := M.1.2.2.2.2.2.2.1
  have hG := M.1.2.2.2.2.2.1
  have h24 := T24 M
  have hF := F_b M.1
  obtain ⟨c', a1, a2, a3, a4⟩ := m_rankC M (by decide) (n := T) (by omega)
  rw [Nat.min_self] at a2
  obtain ⟨r', b1, b2, b3⟩ := m_ranksR M.1
  have M' := MR_c (T := T) (CA.FR (by decide) a3) (MR_r (RA.FT b2) M)
  have key : ∀ (f p : Nat) (x : Int32), min G N < p + f → p ≤ min G N → ∃ v, X10_goOn_l23 f x (nI p) c' = some (v, c') ∧ X11_goOnBits_l8 f x (nI p) r' = some (v, r') := by
    intro f
    induction f with
    | zero => intro p x h1 h2; omega
    | succ f ih =>
      intro p x h1 h2
      rw [X10_goOn_l23.eq_2, X11_goOnBits_l8.eq_2, s_finC M'.2.1.2.2.2.1 M'.2.1.2.2.1 hN hG.2, s_finR M'.1.2.2.1 M'.1.2.1 hN hG.2, bd_s, bd_s]
      by_cases z : p = min G N
      · rw [if_pos (nI_le (by omega) (by omega)), if_pos (nI_le (by omega) (by omega))]
        exact ⟨x, rfl, rfl⟩
      · obtain ⟨j, hj, ej⟩ := rk_onto (B := BR r T) (p := p) hN (BR_p r _) (by omega)
        have e6 : r'.1 22 p = nI j := by rw [← ej]; exact b3 j hj
        rw [if_neg (nI_ge (by omega) (by omega)), if_neg (nI_ge (by omega) (by omega)), s_at' hN hj ej (BR_p r _) a2 a4, bd_s, ck_nI _ (by omega) (by decide), nI_clamp (by omega), e6]
        simp only [vl_e, nI_1]
        exact ih (p + 1) _ (by omega) (by omega)
  unfold X10_goOn X11_goOn X11_goOnBits
  rw [M.2.1.2.2.2.2, a1, bd_s, b1, bd_s, bd_id]
  obtain ⟨v, e1, e2⟩ := key FU 0 0 (by unfold FU; omega) (by omega)
  exact SimE.mk' e1 e2 rfl (Inv_f I (PC.FR a3) (fun _ _ _ => PR.FT b2))
