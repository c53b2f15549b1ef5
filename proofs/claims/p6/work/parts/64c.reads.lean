/-! ALL THAT A LETTER ASKS FOR -/
def okL (x : Int32) : Prop := x = 110 ∨ x = 119 ∨ x = 103 ∨ x = 106 ∨ x = 116 ∨ x = 102 ∨ x = 112
def dn (x : Int32) : Nat := if x = 106 then 13 else if x = 110 ∨ x = 116 then 2 else if x = 103 ∨ x = 119 then 1 else 0
def sg (x : Int32) : Nat := if x = 119 then 1 else 0
def TN (l : Nat → Int32) (r : AH) (a q : Nat) (x : Int32) : Prop := (x = 103 → r.1 16 a = numS l (q + 1) 1) ∧ ((x = 110 ∨ x = 116) → r.1 16 a = numS l (q + 1) 2) ∧ (x = 106 → TJ l r a (q + 1)) ∧ (x = 119 → (l (q + 1) = 43 ∧ r.1 16 a = numS l (q + 2) 1 * 1) ∨ (¬ l (q + 1) = 43 ∧ l (q + 1) = 45 ∧ r.1 16 a = numS l (q + 2) 1 * -1))
section RE
variable {l : Nat → Int32} {L : Nat} {c r : AH}
theorem dq_mach (hL : L ≤ 96) (e : c.1 0 6 = nI L) (hl : ∀ k, k < L → c.1 2 k = l k) {p n a : Nat} {V : AH → Prop} {F : Option (Int32 × AH)} (hp : p ≤ L) (hn : n ≤ 13) (h : DQ l L r p n a V F) :
    (∃ r', F = some (1, r') ∧ p + n ≤ L ∧ DG l L p n ∧ r'.1 0 22 = nI (p + n) ∧ V r' ∧ fr8 a r r' ∧ ∀ f, X10_firstBadLetter_l9 (f + n) 1 0 (nI n) (nI p) c = X10_firstBadLetter_l9 f 1 0 (nI 0) (nI (p + n)) c) ∨
    (∃ r' e, F = some (0, r') ∧ e ≤ L ∧ r'.1 0 22 = nI e ∧ fr8 a r r' ∧ ∀ f, 15 ≤ f → X10_firstBadLetter_l9 f 1 0 (nI n) (nI p) c = some (nI e, c)) := by
  have hle : ∀ m, DG l L p m → p + m ≤ L := by
    intro m h
    by_cases z : m = 0
    · omega
    · have := (h (m - 1) (by omega)).1
      omega
  rcases h with ⟨r', b1, b2, b3, b4, b5⟩ | ⟨r', m, b1, b2, b3, b4, b5, b6⟩
  · refine Or.inl ⟨r', b1, hle n b2, b2, b3, b4, b5, fun f => ?_⟩
    have h := s_mach hL e hl n n p f (Nat.le_refl _) hn b2
    rw [Nat.sub_self] at h
    exact h
  · refine Or.inr ⟨r', p + m, b1, hle m b3, b5, b6, fun f hf => ?_⟩
    obtain ⟨g, rfl⟩ : ∃ g, f = g + 1 + m := ⟨f - 1 - m, by omega⟩
    rw [s_mach hL e hl m n p (g + 1) (by omega) hn b3]
    exact s_machX hL e hl (by omega) (by omega) (hle m b3) b4
/-- the sign -/
theorem s_sign (hL : L ≤ 96) (e : c.1 0 6 = nI L) (hl : ∀ k, k < L → c.1 2 k = l k) {p : Nat} (hp : p ≤ L) (f : Nat) : X10_firstBadLetter_l9 (f + 1) 1 1 (nI 1) (nI p) c = if p < L ∧ (l p = 43 ∨ l p = 45) then X10_firstBadLetter_l9 f 1 0 (nI 1) (nI (p + 1)) c else some (nI p, c) := by
  rw [X10_firstBadLetter_l9.eq_2, e]
  by_cases z : p = L
  · rw [if_pos (nI_le (by omega) (by omega)), i_10, if_neg (by omega)]
    unfold X10_firstBadLetter_j144
    rw [e, z]
  · rw [if_neg (nI_ge (by omega) (by omega)), ck_nI _ (by omega) (by decide), nI_clamp (by omega), hl p (by omega), vl_e, i_10, i_10]
    unfold X10_firstBadLetter_j83 X10_firstBadLetter_j127
    rw [vl_e, nI_1]
    by_cases y : l p = 43
    · rw [if_pos y, if_pos ⟨by omega, Or.inl y⟩]
    · rw [if_neg y]
      by_cases u : l p = 45
      · rw [if_pos u, if_pos ⟨by omega, Or.inr u⟩]
      · rw [if_neg u, if_neg (fun h => h.2.elim y u)]
theorem s_reads (hL : L ≤ 96) (e : c.1 0 6 = nI L) (hl : ∀ k, k < L → c.1 2 k = l k) (e' : r.1 0 21 = nI L) (hl' : ∀ k, k < L → r.1 13 k = l k) {q a : Nat} {x : Int32} (hx : okL x) (hq : q + 1 ≤ L) (ha : a + 8 ≤ 384) (e2 : r.1 0 22 = nI (q + 1)) :
    (∃ r', X11_readsAll x (nI a) r = some (1, r') ∧ q + 1 + sg x + dn x ≤ L ∧ DG l L (q + 1 + sg x) (dn x) ∧ r'.1 0 22 = nI (q + 1 + sg x + dn x) ∧ TN l r' a q x ∧ fr8 a r r' ∧ ∀ f, X10_firstBadLetter_l9 (f + (sg x + dn x)) 1 (nI (sg x)) (nI (dn x)) (nI (q + 1)) c = X10_firstBadLetter_l9 f 1 0 (nI 0) (nI (q + 1 + sg x + dn x)) c) ∨
    (∃ r' e, X11_readsAll x (nI a) r = some (0, r') ∧ e ≤ L ∧ r'.1 0 22 = nI e ∧ fr8 a r r' ∧ ∀ f, 20 ≤ f → X10_firstBadLetter_l9 f 1 (nI (sg x)) (nI (dn x)) (nI (q + 1)) c = some (nI e, c)) := by
  unfold X11_readsAll
  rw [vl_e]
  have plain : ∀ (n : Nat) (V : AH → Prop) (F : Option (Int32 × AH)), n ≤ 13 → sg x = 0 → dn x = n → DQ l L r (q + 1) n a V F → (∀ r', V r' → TN l r' a q x) →
    (∃ r', (bd F fun r2 h3 => cz r2 (some (r2, h3))) = some (1, r') ∧ q + 1 + sg x + dn x ≤ L ∧ DG l L (q + 1 + sg x) (dn x) ∧ r'.1 0 22 = nI (q + 1 + sg x + dn x) ∧ TN l r' a q x ∧ fr8 a r r' ∧ ∀ f, X10_firstBadLetter_l9 (f + (sg x + dn x)) 1 (nI (sg x)) (nI (dn x)) (nI (q + 1)) c = X10_firstBadLetter_l9 f 1 0 (nI 0) (nI (q + 1 + sg x + dn x)) c) ∨
    (∃ r' e, (bd F fun r2 h3 => cz r2 (some (r2, h3))) = some (0, r') ∧ e ≤ L ∧ r'.1 0 22 = nI e ∧ fr8 a r r' ∧ ∀ f, 20 ≤ f → X10_firstBadLetter_l9 f 1 (nI (sg x)) (nI (dn x)) (nI (q + 1)) c = some (nI e, c)) := by
    intro n V F hn h1 h2 h hV
    rw [h1, h2]
    rcases dq_mach hL e hl hq hn h with ⟨r', b1, b2, b3, b4, b5, b6, b7⟩ | ⟨r', e, b1, b2, b3, b4, b5⟩
    · rw [b1, bd_s, cz_1]
      exact Or.inl ⟨r', rfl, b2, b3, b4, hV r' b5, b6, fun f => by rw [Nat.zero_add]; exact b7 f⟩
    · rw [b1, bd_s, cz_0]
      exact Or.inr ⟨r', e, rfl, b2, b3, b4, fun f hf => b5 f (by omega)⟩
  have d := fun n (hn : n ≤ 4) => d_one (l := l) (r := r) hL e' hl' (q := q + 1) (n := n) (a := a) ha hq hn e2
  by_cases x1 : x = 103
  · subst x1
    rw [if_pos rfl]
    exact plain 1 _ _ (by decide) (by decide) (by decide) (d 1 (by decide)) (fun r' hV => ⟨fun _ => hV, fun z => absurd z (by decide), fun z => absurd z (by decide), fun z => absurd z (by decide)⟩)
  rw [if_neg x1]
  by_cases x2 : x = 106
  · subst x2
    rw [if_pos rfl]
    exact plain 13 _ _ (by decide) (by decide) (by decide) (d_jump (l := l) (r := r) hL e' hl' ha hq e2) (fun r' hV => ⟨fun z => absurd z (by decide), fun z => absurd z (by decide), fun _ => hV, fun z => absurd z (by decide)⟩)
  rw [if_neg x2]
  by_cases x3 : x = 110
  · subst x3
    rw [if_pos rfl]
    exact plain 2 _ _ (by decide) (by decide) (by decide) (d 2 (by decide)) (fun r' hV => ⟨fun z => absurd z (by decide), fun _ => hV, fun z => absurd z (by decide), fun z => absurd z (by decide)⟩)
  rw [if_neg x3]
  by_cases x4 : x = 116
  · subst x4
    rw [if_pos rfl]
    exact plain 2 _ _ (by decide) (by decide) (by decide) (d 2 (by decide)) (fun r' hV => ⟨fun z => absurd z (by decide), fun _ => hV, fun z => absurd z (by decide), fun z => absurd z (by decide)⟩)
  rw [if_neg x4]
  by_cases x5 : x = 119
  · subst x5
    rw [if_pos rfl]
    have es : sg 119 = 1 := by decide
    have ed : dn 119 = 1 := by decide
    rw [es, ed]
    have nx := s_next (l := l) (r := r) hL e' hl' hq e2
    have sn : ∀ s : Int32, ¬ s = 0 → q + 1 < L → (∃ r', X11_readsWind_j27 (nI a) s r = some (1, r') ∧ q + 1 + 1 + 1 ≤ L ∧ DG l L (q + 1 + 1) 1 ∧ r'.1 0 22 = nI (q + 1 + 1 + 1) ∧ r'.1 16 a = numS l (q + 2) 1 * s ∧ fr8 a r r' ∧ ∀ f, X10_firstBadLetter_l9 (f + 1) 1 0 (nI 1) (nI (q + 1 + 1)) c = X10_firstBadLetter_l9 f 1 0 (nI 0) (nI (q + 1 + 1 + 1)) c) ∨ (∃ r' e, X11_readsWind_j27 (nI a) s r = some (0, r') ∧ e ≤ L ∧ r'.1 0 22 = nI e ∧ fr8 a r r' ∧ ∀ f, 15 ≤ f → X10_firstBadLetter_l9 f 1 0 (nI 1) (nI (q + 1 + 1)) c = some (nI e, c)) := by
      intro s hs hq1
      unfold X11_readsWind_j27
      rw [if_neg hs, vl_e, e2, nI_1]
      have F1 : fr8 a r (sI r 0 22 (nI (q + 1 + 1))) := ⟨fun o k h1 h2 => by rw [sI_n h1], rfl⟩
      have h := d_one (l := l) (r := sI r 0 22 (nI (q + 1 + 1))) hL (by rw [sI_n (by omega)]; exact e') (fun k hk => by rw [sI_n (by omega)]; exact hl' k hk) (q := q + 1 + 1) (n := 1) (a := a) ha (by omega) (by decide) sI_y
      rcases dq_mach hL e hl (by omega) (by decide) h with ⟨r', b1, b2, b3, b4, b5, b6, b7⟩ | ⟨r', e, b1, b2, b3, b4, b5⟩
      · have b1 : X11_readsDigits (nI a) 1 (sI r 0 22 (nI (q + 1 + 1))) = _ := b1
        rw [b1, bd_s, i_10, ck_nI _ (by omega) (by decide), ck_nI _ (by omega) (by decide), vl_e, cz_1, nI_clamp (by omega)]
        exact Or.inl ⟨_, rfl, b2, b3, by rw [sI_n (by omega)]; exact b4, by rw [sI_y, b5], (F1.tr b6).tr ⟨fun o k h1 h2 => by rw [sI_n (by omega)], rfl⟩, b7⟩
      · have b1 : X11_readsDigits (nI a) 1 (sI r 0 22 (nI (q + 1 + 1))) = _ := b1
        rw [b1, bd_s, i_0, cz_0]
        exact Or.inr ⟨r', e, rfl, b2, b3, F1.tr b4, b5⟩
    have wrap : ∀ s : Int32, ¬ s = 0 → X11_readsWind (nI a) r = X11_readsWind_j27 (nI a) s r → q + 1 < L → (l (q + 1) = 43 ∨ l (q + 1) = 45) → (∀ r' : AH, r'.1 16 a = numS l (q + 2) 1 * s → TN l r' a q 119) →
      (∃ r', (bd (X11_readsWind (nI a) r) fun r2 h3 => cz r2 (some (r2, h3))) = some (1, r') ∧ q + 1 + 1 + 1 ≤ L ∧ DG l L (q + 1 + 1) 1 ∧ r'.1 0 22 = nI (q + 1 + 1 + 1) ∧ TN l r' a q 119 ∧ fr8 a r r' ∧ ∀ f, X10_firstBadLetter_l9 (f + (1 + 1)) 1 (nI 1) (nI 1) (nI (q + 1)) c = X10_firstBadLetter_l9 f 1 0 (nI 0) (nI (q + 1 + 1 + 1)) c) ∨
      (∃ r' e, (bd (X11_readsWind (nI a) r) fun r2 h3 => cz r2 (some (r2, h3))) = some (0, r') ∧ e ≤ L ∧ r'.1 0 22 = nI e ∧ fr8 a r r' ∧ ∀ f, 20 ≤ f → X10_firstBadLetter_l9 f 1 (nI 1) (nI 1) (nI (q + 1)) c = some (nI e, c)) := by
      intro s hs he hq1 hsg hV
      rw [he]
      rcases sn s hs hq1 with ⟨r', b1, b2, b3, b4, b5, b6, b7⟩ | ⟨r', e9, b1, b2, b3, b4, b5⟩
      · rw [b1, bd_s, cz_1]
        refine Or.inl ⟨r', rfl, b2, b3, b4, hV r' b5, b6, fun f => ?_⟩
        have h := s_sign hL e hl (p := q + 1) (by omega) (f + 1)
        rw [if_pos ⟨hq1, hsg⟩] at h
        have h : X10_firstBadLetter_l9 (f + (1 + 1)) 1 (nI 1) (nI 1) (nI (q + 1)) c = _ := h
        rw [h]
        exact b7 f
      · rw [b1, bd_s, cz_0]
        refine Or.inr ⟨r', e9, rfl, b2, b3, b4, fun f hf => ?_⟩
        obtain ⟨g, rfl⟩ : ∃ g, f = g + 1 := ⟨f - 1, by omega⟩
        have h := s_sign hL e hl (p := q + 1) (by omega) g
        rw [if_pos ⟨hq1, hsg⟩] at h
        have h : X10_firstBadLetter_l9 (g + 1) 1 (nI 1) (nI 1) (nI (q + 1)) c = _ := h
        rw [h]
        exact b5 g (by omega)
    by_cases z : q + 1 < L
    · rw [if_pos z] at nx
      by_cases y : l (q + 1) = 43
      · refine wrap 1 (by decide) ?_ z (Or.inl y) (fun r' hV => ⟨fun z => absurd z (by decide), fun z => absurd z (by decide), fun z => absurd z (by decide), fun _ => Or.inl ⟨y, hV⟩⟩)
        unfold X11_readsWind
        rw [nx, bd_s, if_pos y]
      · by_cases u : l (q + 1) = 45
        · refine wrap (-1) (by decide) ?_ z (Or.inr u) (fun r' hV => ⟨fun z => absurd z (by decide), fun z => absurd z (by decide), fun z => absurd z (by decide), fun _ => Or.inr ⟨y, u, hV⟩⟩)
          unfold X11_readsWind
          rw [nx, bd_s, if_neg y, nx, bd_s, if_pos u]
        · unfold X11_readsWind X11_readsWind_j27
          rw [nx, bd_s, if_neg y, nx, bd_s, if_neg u, i_0, cz_0, bd_s, cz_0]
          refine Or.inr ⟨r, q + 1, rfl, hq, e2, fr8.rf, fun f hf => ?_⟩
          obtain ⟨g, rfl⟩ : ∃ g, f = g + 1 := ⟨f - 1, by omega⟩
          have h := s_sign hL e hl (p := q + 1) (by omega) g
          rw [if_neg (fun h => h.2.elim y u)] at h
          exact h
    · rw [if_neg z] at nx
      unfold X11_readsWind X11_readsWind_j27
      rw [nx, bd_s, if_neg (by decide), nx, bd_s, if_neg (by decide), i_0, cz_0, bd_s, cz_0]
      refine Or.inr ⟨r, q + 1, rfl, hq, e2, fr8.rf, fun f hf => ?_⟩
      obtain ⟨g, rfl⟩ : ∃ g, f = g + 1 := ⟨f - 1, by omega⟩
      have h := s_sign hL e hl (p := q + 1) (by omega) g
      rw [if_neg (fun h => z h.1)] at h
      exact h
  rw [if_neg x5, cz_1]
  have hz : x = 102 ∨ x = 112 := by
    rcases hx with h | h | h | h | h | h
    · exact absurd h x3
    · exact absurd h x5
    · exact absurd h x1
    · exact absurd h x2
    · exact absurd h x4
    · exact h
  have es : sg x = 0 := by rcases hz with h | h <;> subst h <;> decide
  have ed : dn x = 0 := by rcases hz with h | h <;> subst h <;> decide
  rw [es, ed]
  exact Or.inl ⟨r, rfl, hq, fun i hi => absurd hi (by omega), e2, ⟨fun z => absurd z x1, fun z => z.elim (fun z => absurd z x3) (fun z => absurd z x4), fun z => absurd z x2, fun z => absurd z x5⟩, fr8.rf, fun f => rfl⟩
end RE
