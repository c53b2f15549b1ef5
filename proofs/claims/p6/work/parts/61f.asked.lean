/-! JUMPER, COUNT, NEEDS, FOULED -/
theorem s_long {h : AH} {B : BB} {j : Nat} (R : RKC h B) (hj : j < 4) : X6_longest (nI j) h = some (B.1 j, h) := by
  unfold X6_longest
  rw [if_neg (nI_pos (by omega)), if_pos (show nI j < 4 from nI_lt (b := 4) hj (by decide)), ck_nI _ hj (by decide), nI_clamp (by omega), (R j hj).1]
theorem s_second {h : AH} {B : BB} {j : Nat} (R : RKC h B) (hj : j < 4) : X6_secondLongest (nI j) h = some (B.2 j, h) := by
  unfold X6_secondLongest
  rw [if_neg (nI_pos (by omega)), if_pos (show nI j < 4 from nI_lt (b := 4) hj (by decide)), ck_nI _ hj (by decide), nI_clamp (by omega), (R j hj).2]
theorem o_jumper {c r : AH} {a1 a2 : Int32} (I : Inv c r) : SimE (X10_jumper a1 a2 c) (X11_jumper a1 a2 r) Inv := by
  obtain ⟨⟨S, G, N, T, M⟩, hW, hL, hRow, hRF, hIM⟩ := id I
  have hN := M.1.2.2.2.2.2.2.1
  have h24 := T24 M
  unfold X10_jumper X11_jumper
  rcases jm a1 hN with hz | ⟨j, hj, rfl⟩
  · rw [nb_n M.2.1.2.2.2.1 hz, bd_s, s_noSuch, bd_s, s_first, bd_s, ij_n M.1.2.2.1 hz, bd_s, i_0, i_1, i_1]
    exact rfs (x := -1) I (by decide)
  · have hj4 : j < 4 := by omega
    rw [nb_y M.2.1.2.2.2.1 hN hj, bd_s, s_noSuch, bd_s, s_first, bd_s, ij_y M.1.2.2.1 hN hj, bd_s, i_10, i_0]
    simp only [vl_e, hj_ck hj4, nI_clamp (show j < 2 ^ 31 by omega)]
    by_cases h0 : a2 < 0 ∨ 11 < a2
    · rw [if_pos h0, i_2]
      have n : ∀ k : Nat, k ≤ 11 → ¬ a2 = nI k := by
        intro k hk e
        rw [e] at h0
        rcases h0 with h | h
        · exact nI_pos (by omega) h
        · exact (show ¬ (11 : Int32) < nI k from nI_nlt (a := 11) (by omega) (by decide)) h
      rw [if_neg (show ¬ a2 = 0 from n 0 (by omega)), if_neg (show ¬ a2 = 1 from n 1 (by omega)), if_neg (show ¬ a2 = 2 from n 2 (by omega)), if_neg (show ¬ a2 = 3 from n 3 (by omega)), if_neg (show ¬ a2 = 4 from n 4 (by omega)), if_neg (show ¬ a2 = 5 from n 5 (by omega)), if_neg (show ¬ a2 = 6 from n 6 (by omega)), if_neg (show ¬ a2 = 7 from n 7 (by omega)), if_neg (show ¬ a2 = 8 from n 8 (by omega)), if_neg (show ¬ a2 = 9 from n 9 (by omega)), if_neg (show ¬ a2 = 10 from n 10 (by omega)), if_neg (show ¬ a2 = 11 from n 11 (by omega))]
      exact rfs (x := -2) I (by decide)
    · rw [if_neg h0, i_0]
      obtain ⟨k, hk, rfl⟩ := nI_of2 (x := a2) (M := 11) (n := 11) rfl (fun z => h0 (Or.inl z)) (Int32.not_lt.mp (fun z => h0 (Or.inr z)))
      have hJC : ∀ k, 1 ≤ k → k ≤ 8 → c.1 (48 + j) k = r.1 (k + 1) j := (M.2.2.1 j hj4).1
      have hJK := (M.2.2.1 j hj4).2
      have e5 : ∀ k, k < 9 → X5_at 42 (nI j) c = some (48 + j, c) := fun _ _ => s_at42 hj4 c
      by_cases k8 : k < 8
      · rw [if_neg (show ¬ (9 : Int32) ≤ nI k from nI_ge (b := 9) (by omega) (by decide)), s_at42 hj4, bd_s, cs_in _ (zc42 hj4), bd_id]
        have e : X2_property (48 + j) (nI k) c = some (c.1 (48 + j) (k + 1), c) := by
          unfold X2_property
          rw [vl_e]
          rcases (by omega : k = 0 ∨ k = 1 ∨ k = 2 ∨ k = 3 ∨ k = 4 ∨ k = 5 ∨ k = 6 ∨ k = 7) with q | q | q | q | q | q | q | q <;> subst q <;> rfl
        rw [e]
        refine SimE.mk' rfl (v2 := r.1 (k + 2) j) (r2 := r) ?_ (hJC (k + 1) (by omega) (by omega)) I
        rcases (by omega : k = 0 ∨ k = 1 ∨ k = 2 ∨ k = 3 ∨ k = 4 ∨ k = 5 ∨ k = 6 ∨ k = 7) with q | q | q | q | q | q | q | q <;> subst q <;> rfl
      · rcases (by omega : k = 8 ∨ k = 9 ∨ k = 10 ∨ k = 11) with q | q | q | q <;> subst q
        · rw [if_neg (show ¬ (9 : Int32) ≤ nI 8 by decide), s_at42 hj4, bd_s, cs_in _ (zc42 hj4), bd_id]
          have e : X2_property (48 + j) (nI 8) c = some (aimS (c.1 (48 + j) 1) (c.1 (48 + j) 2), c) := by
            unfold X2_property
            rw [vl_e, s_aimC hJK, bd_s]
            rfl
          rw [e]
          refine SimE.mk' rfl (v2 := aimS (r.1 2 j) (r.1 3 j)) (r2 := r) ?_ (by rw [hJC 1 (by omega) (by omega), hJC 2 (by omega) (by omega)]) I
          rw [s_aimR hj4, bd_s]
          rfl
        · obtain ⟨c', b1, b2, b3, b4⟩ := m_rankC M (by decide) (n := T) (by omega)
          rw [Nat.min_self] at b2
          obtain ⟨r', d1, d2, d3⟩ := m_bestR M.1 (Nat.le_refl T)
          rw [if_pos (show (9 : Int32) ≤ nI 9 by decide), if_neg (show ¬ nI 9 = 11 by decide), if_pos (show nI 9 = 9 by rfl), M.2.1.2.2.2.2, b1, bd_s, s_long b2 hj4, bd_s, M.1.2.2.2.1, d1]
          refine SimE.mk' rfl (v2 := (BR r T).1 j) (r2 := r') ?_ rfl (Inv_f I (PC.FR b3) (fun _ _ _ => PR.FT (FT.B d3)))
          rw [← (d2 j hj4).1]
          rfl
        · obtain ⟨c', b1, b2, b3, b4⟩ := m_rankC M (by decide) (n := T) (by omega)
          rw [Nat.min_self] at b2
          obtain ⟨r', d1, d2, d3⟩ := m_bestR M.1 (Nat.le_refl T)
          rw [if_pos (show (9 : Int32) ≤ nI 10 by decide), if_neg (show ¬ nI 10 = 11 by decide), if_neg (show ¬ nI 10 = 9 by decide), M.2.1.2.2.2.2, b1, bd_s, s_second b2 hj4, bd_s, M.1.2.2.2.1, d1]
          refine SimE.mk' rfl (v2 := (BR r T).2 j) (r2 := r') ?_ rfl (Inv_f I (PC.FR b3) (fun _ _ _ => PR.FT (FT.B d3)))
          rw [← (d2 j hj4).2]
          rfl
        · rw [if_pos (show (9 : Int32) ≤ nI 11 by decide), if_pos (show nI 11 = 11 by rfl), s_triesOfC M, bd_s, s_triesOfR M.1]
          exact SimE.mk' rfl rfl rfl I
theorem o_count {c r : AH} {a1 : Int32} (I : Inv c r) : SimE (X10_count a1 c) (X11_count a1 r) Inv := by
  obtain ⟨⟨S, G, N, T, M⟩, hW, ⟨L, l1, l2, l3, l4⟩, ⟨n, n1, n2, n3, n4⟩, hRF, hIM⟩ := id I
  have t1 : (11 : Int32).toInt = 11 := rfl
  have t2 : (16 : Int32).toInt = 16 := rfl
  have t3 : (10 : Int32).toInt = 10 := rfl
  have t4 : (7 : Int32).toInt = 7 := rfl
  unfold X10_count X11_count
  rw [vl_e, s_isIn, bd_s]
  by_cases h0 : a1 < 11 ∨ 16 < a1
  · rw [if_pos h0, i_0, vl_e]
    by_cases y0 : a1 = 0
    · rw [if_pos y0, if_pos y0]; exact SimE.mk' rfl rfl (by rw [M.2.1.2.2.2.1, M.1.2.2.1]) I
    rw [if_neg y0, if_neg y0]
    by_cases y1 : a1 = 1
    · rw [if_pos y1, if_pos y1, bd_id, bd_id]
      obtain ⟨r', e1, e2⟩ := m_roundR M.1
      exact SimE.mk' (m_roundC M) e1 rfl (Inv_f I PC.rf (fun _ _ _ => PR.FT e2))
    rw [if_neg y1, if_neg y1]
    by_cases y2 : a1 = 2
    · rw [if_pos y2, if_pos y2]; exact SimE.mk' rfl rfl (by rw [M.2.1.2.2.2.2, M.1.2.2.2.1]) I
    rw [if_neg y2, if_neg y2]
    by_cases y3 : a1 = 3
    · rw [if_pos y3, if_pos y3]; exact SimE.mk' rfl rfl (by rw [M.2.1.1, M.1.1]) I
    rw [if_neg y3, if_neg y3]
    by_cases y4 : a1 = 4
    · rw [if_pos y4, if_pos y4]; exact SimE.mk' rfl rfl (by rw [M.2.1.2.2.1, M.1.2.1]) I
    rw [if_neg y4, if_neg y4]
    by_cases y5 : a1 = 5
    · rw [if_pos y5, if_pos y5, bd_id, bd_id]; exact SimE.mk' (s_withC M _) (s_withR M.1 _) rfl I
    rw [if_neg y5, if_neg y5]
    by_cases y6 : a1 = 6
    · rw [if_pos y6, if_pos y6, bd_id, bd_id]; exact SimE.mk' (s_withC M _) (s_withR M.1 _) rfl I
    rw [if_neg y6, if_neg y6]
    by_cases y7 : a1 = 7
    · rw [if_pos y7, if_pos y7]; exact SimE.mk' rfl rfl (by rw [l2, l3]) I
    rw [if_neg y7, if_neg y7]
    by_cases y8 : a1 = 8
    · rw [if_pos y8, if_pos y8]; exact SimE.mk' rfl rfl (by rw [n2, n3]) I
    rw [if_neg y8, if_neg y8]
    by_cases y9 : a1 ≤ 10
    · rw [if_pos y9]; exact SimE.mk' rfl rfl rfl I
    · rw [if_neg y9, if_pos]
      · exact SimE.mk' rfl rfl rfl I
      · rw [fa_lt, fa_lt] at h0
        rw [fa_le] at y9
        have := fb_rng a1
        rw [fa_le, fb_subI (by omega) (by omega)]
        omega
  · rw [if_neg h0, i_10]
    rw [fa_lt, fa_lt] at h0
    have hx : (a1 - 10).toInt = a1.toInt - 10 := fb_subI (by omega) (by omega)
    obtain ⟨k, hk, ek⟩ := nI_of2 (x := a1 - 10) (M := 6) (n := 6) rfl (by rw [fa_lt, hx]; have : (0 : Int32).toInt = 0 := rfl; omega) (by rw [fa_le, hx]; have : (6 : Int32).toInt = 6 := rfl; omega)
    have nn : ∀ m : Int32, m.toInt ≤ 10 → ¬ a1 = m := fun m hm e => by rw [e] at h0; omega
    rw [if_neg (nn 0 (by decide)), if_neg (nn 1 (by decide)), if_neg (nn 2 (by decide)), if_neg (nn 3 (by decide)), if_neg (nn 4 (by decide)), if_neg (nn 5 (by decide)), if_neg (nn 6 (by decide)), if_neg (nn 7 (by decide)), if_neg (nn 8 (by decide)), if_neg (by rw [fa_le]; omega), if_neg (by rw [fa_le, hx]; omega), ek, ck_nI _ (by omega) (by decide), ck_nI _ (by omega) (by decide), nI_clamp (by omega)]
    exact SimE.mk' rfl rfl (hRF k (by omega)) I
