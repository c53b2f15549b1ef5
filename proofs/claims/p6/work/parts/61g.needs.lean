/-! NEEDS, FOULED, RANKS -/
section NE
variable {S G N T j : Nat} {c r : AH}
/-- enough for a place: the reference's question -/
theorem s_enough (h1 : RN r S G N T) (hj : j < N) {v : Int32} (hv : 0 ≤ v.toInt) (n : Int32) : ∃ r', X11_isEnough (nI j) v n r = some (if n ≤ nI (rk (ad (BR r T) j v) N j) then 0 else 1, r') ∧ FT r r' := by
  have hN := h1.2.2.2.2.2.2.1
  obtain ⟨ra, a1, a2, a3⟩ := m_bestR h1 (Nat.le_refl T)
  obtain ⟨rb, b1, b2, b3⟩ := s_cl (by omega : j < 4) a2 v
  have bp : BP (ad (BR r T) j v) := bp_ad (BR_p r T) hv
  have e15 : rb.1 0 15 = r.1 0 15 := by rw [b3.1 0 15 (by decide) (by decide), a3.1 0 15 (by decide) (by decide)]
  obtain ⟨rc, d1, d2, d3⟩ := m_sorts h1 bp b2 e15
  have f : FT r rc := (FT.B (a3.tr b3)).tr (FT.O d2)
  have e15c : rc.1 0 15 = nI N := by rw [f.1 0 15 (by decide) (by decide) (by decide)]; exact h1.2.2.1
  refine ⟨rc, ?_, f⟩
  unfold X11_isEnough
  rw [h1.2.2.2.1, a1, bd_s, b1, bd_s, d1, bd_s, s_rankOf hN e15c bp d3 hj, bd_s]
  split
  · rw [cz_0]
  · rw [cz_1]
theorem l_needs (M : MR 42 c r S G N T) {c' : AH} (hj : j < N) (R : RKC c' (BR r T)) (e5 : c'.1 5 0 = nI N) {n a2 : Int32} (hn : n = if a2 = 0 then 1 else nI (min G N)) : ∀ (f v : Nat) (rt : AH), 1000 < v + f → v ≤ 1000 → FT r rt → ∃ x r', X10_leastFor_l2 (nI j) n f (nI v) c' = some (x, c') ∧ X11_needs_l41 (nI j) a2 f (nI v) rt = some (x, r') ∧ FT r r' := by
  have hN := M.1.2.2.2.2.2.2.1
  have hG := M.1.2.2.2.2.2.1
  intro f
  induction f with
  | zero => intro v rt h1 h2; omega
  | succ f ih =>
    intro v rt h1 h2 q
    have Rt := RN_c (RA.FT q) M.1
    rw [X10_leastFor_l2.eq_2, X11_needs_l41.eq_2]
    by_cases z : v = 1000
    · subst z
      rw [if_pos (show (999 : Int32) < nI 1000 by decide), if_pos (show (1000 : Int32) ≤ nI 1000 by decide)]
      exact ⟨_, rt, rfl, rfl, q⟩
    · have hv : 0 ≤ (nI v).toInt := by rw [toInt_nI (by omega)]; omega
      rw [if_neg (show ¬ (999 : Int32) < nI v from nI_nlt (a := 999) (by omega) (by decide)), if_neg (show ¬ (1000 : Int32) ≤ nI v from nI_ge (b := 1000) (by omega) (by decide)), s_ahead hN hj (BR_p r T) hv R e5, bd_s]
      obtain ⟨r', a1, a2'⟩ := s_enough Rt hj hv n
      have eB : BR rt T = BR r T := BR_c (RA.FT q) (Nat.le_refl T)
      rw [eB] at a1
      have key : ∀ K : Int32 → AH → Option (Int32 × AH), (if a2 = 0 then X11_needs_j65 (nI j) a2 (nI v) K 1 (nI v) (nI j) rt else bd (X11_finalists rt) fun r5 h6 => X11_needs_j65 (nI j) a2 (nI v) K r5 (nI v) (nI j) h6) = bd (X11_isEnough (nI j) (nI v) n rt) fun r7 h8 => if r7 = 0 then K (nI v + 1) h8 else some (nI v, h8) := by
        intro K
        unfold X11_needs_j65
        by_cases y : a2 = 0
        · rw [if_pos y, hn, if_pos y]
          rfl
        · rw [if_neg y, hn, if_neg y, s_finR Rt.2.2.1 Rt.2.1 hN hG.2, bd_s]
          rfl
      rw [key, a1, bd_s]
      by_cases y : n ≤ nI (rk (ad (BR r T) j (nI v)) N j)
      · rw [if_pos y, if_pos y, i_0, vl_e, nI_1]
        exact ih (v + 1) r' (by omega) (by omega) (q.tr a2')
      · rw [if_neg y, if_neg y, i_10]
        exact ⟨_, r', rfl, rfl, q.tr a2'⟩
end NE
theorem o_needs {c r : AH} {a1 a2 : Int32} (I : Inv c r) : SimE (X10_needs a1 a2 c) (X11_needs a1 a2 r) Inv := by
  obtain ⟨⟨S, G, N, T, M⟩, hW, hL, hRow, hRF, hIM⟩ := id I
  have hN := M.1.2.2.2.2.2.2.1
  have hG := M.1.2.2.2.2.2.1
  have h24 := T24 M
  unfold X10_needs X11_needs X11_needs_j27
  rcases jm a1 hN with hz | ⟨j, hj, rfl⟩
  · rw [nb_n M.2.1.2.2.2.1 hz, bd_s, s_noSuch, bd_s, s_first, bd_s, ij_n M.1.2.2.1 hz, bd_s, i_0, i_1, i_1, i_1]
    exact rfs (x := -1) I (by decide)
  · rw [nb_y M.2.1.2.2.2.1 hN hj, bd_s, s_noSuch, bd_s, s_first, bd_s, ij_y M.1.2.2.1 hN hj, bd_s, i_10, i_0, s_isIn, bd_s]
    by_cases h0 : a2 < 0 ∨ 1 < a2
    · simp only [if_pos h0, i_2, i_0]
      exact rfs (x := -2) I (by decide)
    · simp only [if_neg h0, i_0, i_10, if_true]
      obtain ⟨c', b1, b2, b3, b4⟩ := m_rankC M (by decide) (n := T) (by omega)
      rw [Nat.min_self] at b2
      have M' := MR_c (T := T) (CA.FR (by decide) b3) M
      rw [M.2.1.2.2.2.2, b1, bd_s, s_finC M'.2.1.2.2.2.1 M'.2.1.2.2.1 hN hG.2, bd_s]
      obtain ⟨x, r', e1, e2, q⟩ := l_needs M hj b2 b4 (n := if a2 = 0 then 1 else nI (min G N)) (a2 := a2) rfl FU 0 r (by unfold FU; omega) (by omega) FT.rf
      refine SimE.mk' (v := x) (c2 := c') ?_ e2 rfl (Inv_f I (PC.FR b3) (fun _ _ _ => PR.FT q))
      rw [← e1]
      unfold X10_needs_j60 X10_leastFor
      rw [bd_id, bd_id]
      by_cases y : a2 = 0
      · rw [if_pos y, if_pos y]
        rfl
      · rw [if_neg y, if_neg y]
        rfl
section FO
variable {S G N T : Nat} {c r : AH}
theorem qm_n (r : AH) (a : Int32) : ∀ T, cN (fun t => decide ((r.1 10 t = a ∧ ¬ r.1 11 t = -8))) T + cN (fun t => decide ((r.1 10 t = a ∧ r.1 11 t = -8))) T = cN (fun t => decide (r.1 10 t = a)) T := by
  intro T
  induction T with
  | zero => rfl
  | succ T ih =>
    rw [cN_step, cN_step, cN_step]
    by_cases x : r.1 10 T = a
    · by_cases y : r.1 11 T = -8
      · rw [if_neg (show ¬ (r.1 10 T = a ∧ ¬ r.1 11 T = -8) from fun z => z.2 y), if_pos (show (r.1 10 T = a ∧ r.1 11 T = -8) from ⟨x, y⟩), if_pos x]; omega
      · rw [if_pos (show (r.1 10 T = a ∧ ¬ r.1 11 T = -8) from ⟨x, y⟩), if_neg (show ¬ (r.1 10 T = a ∧ r.1 11 T = -8) from fun z => y z.2), if_pos x]; omega
    · rw [if_neg (show ¬ (r.1 10 T = a ∧ ¬ r.1 11 T = -8) from fun z => x z.1), if_neg (show ¬ (r.1 10 T = a ∧ r.1 11 T = -8) from fun z => x z.1), if_neg x]; omega
theorem s_triesBy (R : RN r S G N T) (a b : Int32) : X11_triesBy a b r = some (nI (cN (fun t => decide (r.1 10 t = a ∧ r.1 11 t = b)) T), r) := by
  have hN := R.2.2.2.2.2.2.1
  have hT := R.2.2.2.2.2.2.2.1
  have key : ∀ (f t : Nat), T < t + f → t ≤ T → X11_triesBy_l5 a b f (nI (cN (fun t => decide (r.1 10 t = a ∧ r.1 11 t = b)) t)) (nI t) r = some (nI (cN (fun t => decide (r.1 10 t = a ∧ r.1 11 t = b)) T), r) := by
    intro f
    induction f with
    | zero => intro t h1 h2; omega
    | succ f ih =>
      intro t h1 h2
      rw [X11_triesBy_l5.eq_2, R.2.2.2.1]
      by_cases z : t = T
      · subst z
        rw [if_pos (Int32.le_refl _)]
      · have nx := ih (t + 1) (by omega) (by omega)
        rw [cN_step (fun t => r.1 10 t = a ∧ r.1 11 t = b)] at nx
        unfold X11_triesBy_j41 X11_triesBy_j42
        rw [if_neg (nI_ge (by omega) (by omega)), ck_nI _ (by omega) (by decide), ck_nI _ (by omega) (by decide), nI_clamp (by omega)]
        simp only [vl_e, nI_1, Int32.add_zero]
        by_cases x : r.1 10 t = a
        · rw [if_pos x]
          by_cases y : r.1 11 t = b
          · rw [if_pos ⟨x, y⟩] at nx
            rw [if_pos y]
            exact nx
          · rw [if_neg (fun z => y z.2)] at nx
            rw [if_neg y]
            exact nx
        · rw [if_neg (fun z => x z.1)] at nx
          rw [if_neg x]
          exact nx
  exact key FU 0 (by unfold FU; omega) (by omega)
theorem l_fouled (M : MR 42 c r S G N T) (a p : Int32) : ∀ (f t : Nat), T < t + f → t ≤ T → X10_fouled_l37 a p f (nI (cN (fun t => decide ((r.1 10 t = a ∧ r.1 11 t = -9))) t)) (nI (cN (fun t => decide ((r.1 10 t = a ∧ ¬ r.1 11 t = -8))) t)) (nI t) c = bd (X10_fraction (nI (cN (fun t => decide ((r.1 10 t = a ∧ r.1 11 t = -9))) T)).toInt64 (mx32 1 (nI (cN (fun t => decide ((r.1 10 t = a ∧ ¬ r.1 11 t = -8))) T))).toInt64 p c) fun r7 h8 => some (r7, h8) := by
  have h24 := T24 M
  intro f
  induction f with
  | zero => intro t h1 h2; omega
  | succ f ih =>
    intro t h1 h2
    rw [X10_fouled_l37.eq_2, M.2.1.2.2.2.2]
    by_cases z : t = T
    · subst z
      rw [if_pos (Int32.le_refl _)]
    · have nx := ih (t + 1) (by omega) (by omega)
      rw [cN_step (fun t => (r.1 10 t = a ∧ r.1 11 t = -9)), cN_step (fun t => (r.1 10 t = a ∧ ¬ r.1 11 t = -8))] at nx
      have e1 : c.1 44 t = r.1 10 t := (M.2.2.2 t (by omega)).1
      have e2 : c.1 46 t = r.1 11 t := (M.2.2.2 t (by omega)).2
      unfold X10_fouled_j103 X10_fouled_j106
      rw [if_neg (nI_ge (by omega) (by omega))]
      simp only [ck_nI _ (show t < 24 by omega) (show 24 < 2 ^ 31 by decide), nI_clamp (show t < 2 ^ 31 by omega), vl_e, nI_1, e1, e2, Int32.add_zero]
      by_cases x : r.1 10 t = a
      · rw [if_pos x]
        by_cases y : r.1 11 t = -8
        · rw [if_neg (show ¬ (r.1 10 t = a ∧ r.1 11 t = -9) from fun q => by have := q.2; rw [y] at this; exact absurd this (by decide)), if_neg (show ¬ (r.1 10 t = a ∧ ¬ r.1 11 t = -8) from fun q => q.2 y)] at nx
          rw [if_pos y]
          exact nx
        · rw [if_neg y]
          rw [if_pos (show (r.1 10 t = a ∧ ¬ r.1 11 t = -8) from ⟨x, y⟩)] at nx
          by_cases u : r.1 11 t = -9
          · rw [if_pos (show (r.1 10 t = a ∧ r.1 11 t = -9) from ⟨x, u⟩)] at nx
            rw [if_pos u]
            exact nx
          · rw [if_neg (show ¬ (r.1 10 t = a ∧ r.1 11 t = -9) from fun q => u q.2)] at nx
            rw [if_neg u]
            exact nx
      · rw [if_neg x]
        rw [if_neg (show ¬ (r.1 10 t = a ∧ r.1 11 t = -9) from fun q => x q.1), if_neg (show ¬ (r.1 10 t = a ∧ ¬ r.1 11 t = -8) from fun q => x q.1)] at nx
        exact nx
end FO
theorem nI_64 {n : Nat} (h : n < 2 ^ 31) : (nI n).toInt64 = lN n := by
  rw [fa_eq64, Int32.toInt_toInt64, toInt_nI h]
  exact (lN_toInt (by omega)).symm
theorem o_fouled {c r : AH} {a1 a2 : Int32} (I : Inv c r) : SimE (X10_fouled a1 a2 c) (X11_fouled a1 a2 r) Inv := by
  obtain ⟨⟨S, G, N, T, M⟩, hW, hL, hRow, hRF, hIM⟩ := id I
  have hN := M.1.2.2.2.2.2.2.1
  have h24 := T24 M
  rcases jm a1 hN with hz | ⟨j, hj, rfl⟩
  · have e1 : X10_fouled a1 a2 c = some (4000000000000000000 - (-1 : Int32).toInt64, sI c 4 1 (c.1 4 1 + 1)) := by
      simp only [X10_fouled, nb_n M.2.1.2.2.2.1 hz, s_noPart, s_first, bd_s, i_1, rf_1]
    have e2 : X11_fouled a1 a2 r = some (4000000000000000000 - (-1 : Int32).toInt64, sI r 1 1 (r.1 1 1 + 1)) := by
      simp only [X11_fouled, ij_n M.1.2.2.1 hz, bd_s, i_0, ll_1, if_true]
    exact ⟨_, _, _, e1, e2, inv_ref I (by decide)⟩
  · by_cases h0 : a2 < 0 ∨ 1 < a2
    · have e1 : X10_fouled (nI j) a2 c = some (4000000000000000000 - (-2 : Int32).toInt64, sI c 4 2 (c.1 4 2 + 1)) := by
        simp only [X10_fouled, nb_y M.2.1.2.2.2.1 hN hj, s_noPart, s_first, bd_s, if_pos h0, i_0, i_2, rf_2, if_true]
      have e2 : X11_fouled (nI j) a2 r = some (4000000000000000000 - (-2 : Int32).toInt64, sI r 1 2 (r.1 1 2 + 1)) := by
        simp only [X11_fouled, ij_y M.1.2.2.1 hN hj, bd_s, i_10, s_isIn, if_pos h0, i_0, ll_2, if_true]
      exact ⟨_, _, _, e1, e2, inv_ref I (by decide)⟩
    · unfold X10_fouled X11_fouled
      rw [nb_y M.2.1.2.2.2.1 hN hj, bd_s, s_noPart, bd_s, s_first, bd_s, i_0, if_neg h0, i_0, ij_y M.1.2.2.1 hN hj, bd_s, i_10, s_isIn, if_neg h0, bd_s, i_10, s_triesOfR M.1, bd_s, s_triesBy M.1, bd_s, vl_e]
      have e1 := l_fouled M (nI j) a2 FU 0 (by unfold FU; omega) (Nat.zero_le _)
      have e1 : X10_fouled_l37 (nI j) a2 FU 0 0 0 c = _ := e1
      rw [e1, bd_id]
      have hq := qm_n r (nI j) T
      have hle := cN_le (fun t => decide (r.1 10 t = nI j)) T
      have hf : cN (fun t => decide ((r.1 10 t = nI j ∧ r.1 11 t = -9))) T ≤ cN (fun t => decide ((r.1 10 t = nI j ∧ ¬ r.1 11 t = -8))) T := cN_mono T (fun k _ hk => by
        have h := of_decide_eq_true hk
        exact decide_eq_true (show (r.1 10 k = nI j ∧ ¬ r.1 11 k = -8) from ⟨h.1, fun z => by have := h.2; rw [z] at this; exact absurd this (by decide)⟩))
      have en : cN (fun t => decide (r.1 10 t = nI j ∧ r.1 11 t = -8)) T = cN (fun t => decide ((r.1 10 t = nI j ∧ r.1 11 t = -8))) T := rfl
      have ef : cN (fun t => decide (r.1 10 t = nI j ∧ r.1 11 t = -9)) T = cN (fun t => decide ((r.1 10 t = nI j ∧ r.1 11 t = -9))) T := rfl
      rw [en, pk_sub (by omega), ← hq, Nat.add_sub_cancel]
      by_cases z : cN (fun t => decide ((r.1 10 t = nI j ∧ ¬ r.1 11 t = -8))) T = 0
      · have zf : cN (fun t => decide ((r.1 10 t = nI j ∧ r.1 11 t = -9))) T = 0 := by omega
        rw [z, zf, if_pos (by rfl)]
        have ex : X10_fraction (nI 0).toInt64 (mx32 1 (nI 0)).toInt64 a2 c = some (a2.toInt64, c) := by
          obtain ⟨v, b1, _⟩ := s_frac (A := 0) (B := 1) (by decide) (by decide) (by decide) a2
          have b1 := b1 c
          unfold X10_fraction at b1 ⊢
          have t0 : (0 : Int32).toInt = 0 := rfl
          have t1 : (1 : Int32).toInt = 1 := rfl
          have hk : a2 = 0 ∨ a2 = 1 := by
            rw [fa_lt, fa_lt] at h0
            rw [fa_eq, fa_eq]
            omega
          rcases hk with rfl | rfl <;> rfl
        exact SimE.mk' ex rfl rfl I
      · rw [if_neg (nI_ne0 (by omega) (by omega)), s_triesBy M.1, bd_s, bd_id, ef]
        have em : mx32 1 (nI (cN (fun t => decide ((r.1 10 t = nI j ∧ ¬ r.1 11 t = -8))) T)) = nI (cN (fun t => decide ((r.1 10 t = nI j ∧ ¬ r.1 11 t = -8))) T) := by
          have := mx_nI (a := 1) (b := cN (fun t => decide ((r.1 10 t = nI j ∧ ¬ r.1 11 t = -8))) T) (by decide) (by omega)
          rw [Nat.max_eq_right (by omega)] at this
          exact this
        rw [em, nI_64 (by omega), nI_64 (by omega)]
        obtain ⟨v, b1, b2⟩ := s_frac (A := cN (fun t => decide ((r.1 10 t = nI j ∧ r.1 11 t = -9))) T) (B := cN (fun t => decide ((r.1 10 t = nI j ∧ ¬ r.1 11 t = -8))) T) (by omega) (by omega) (by omega) a2
        exact SimE.mk' (b1 c) (b2 r) rfl I
