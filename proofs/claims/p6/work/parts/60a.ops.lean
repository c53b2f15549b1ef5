/-! THE CALLS, one by one: no chances in them -/
theorem hj_ck {β : Type} {j : Nat} (hj : j < 4) (o : Option β) : ck (nI j) 4 o = o := ck_nI o hj (by decide)
theorem SimE.mk' {α : Type} {F G : Option (α × AH)} {v v2 : α} {c2 r2 : AH} {N : AH → AH → Prop} (e1 : F = some (v, c2)) (e2 : G = some (v2, r2)) (e : v = v2) (h : N c2 r2) : SimE F G N := ⟨v, c2, r2, e1, by rw [e]; exact e2, h⟩
theorem pl_eq {c r : AH} {S G N T j : Nat} (M : MR 42 c r S G N T) (hj : j < 4) : c.1 (48 + j) 8 - pathS (c.1 (48 + j) 1) (c.1 (48 + j) 3) (c.1 (48 + j) 4) (c.1 42 1) S = r.1 9 j - pathS (r.1 2 j) (r.1 4 j) (r.1 5 j) (r.1 0 14) S := by
  have h := (M.2.2.1 j hj).1
  have e : ∀ k, 1 ≤ k → k ≤ 8 → c.1 (48 + j) k = r.1 (k + 1) j := h
  rw [e 8 (by omega) (by omega), e 1 (by omega) (by omega), e 3 (by omega) (by omega), e 4 (by omega) (by omega), M.2.1.2.1]
theorem o_mark {c r : AH} {a1 a2 : Int32} (I : Inv c r) : SimE (X10_mark a1 a2 c) (X11_mark a1 a2 r) Inv := by
  obtain ⟨⟨S, G, N, T, M⟩, hW, hL, hRow, hRF, hIM⟩ := id I
  obtain ⟨R, ⟨cS, cW, cG, cN, cT⟩, cJ, cTr⟩ := id M
  obtain ⟨rS, rG, rN, rT, hS, hG, hN, hT, hWW, hJ, hH⟩ := id R
  rcases jm a1 hN with hz | ⟨j, hj, rfl⟩
  · have e1 : X10_mark a1 a2 c = some (-1, sI c 4 1 (c.1 4 1 + 1)) := by
      simp only [X10_mark, nb_n cN hz, s_outside, s_noSuch, s_noPart, s_outsideTwo, s_first, bd_s, vl_e, i_0, i_10, i_1, i_2, i_3, i_4, i_6, if_true, if_false, rf_1]
    have e2 : X11_mark a1 a2 r = some (-1, sI r 1 1 (r.1 1 1 + 1)) := by
      simp only [X11_mark, ij_n rN hz, s_bound, s_isIn, X11_mark_j20, bd_s, vl_e, i_0, i_10, i_1, i_2, i_3, i_4, i_6, if_true, if_false, no_1]
    exact ⟨_, _, _, e1, e2, inv_ref I (by decide)⟩
  · have hj4 : j < 4 := by omega
    have hjc : (nI j).toNatClampNeg = j := nI_clamp (by omega)
    have hJC : ∀ k, 1 ≤ k → k ≤ 8 → c.1 (48 + j) k = r.1 (k + 1) j := (cJ j hj4).1
    have hJK : JK c (48 + j) := (cJ j hj4).2
    by_cases h0 : a2 < 0
    · have e1 : X10_mark (nI j) a2 c = some (-4, sI c 4 4 (c.1 4 4 + 1)) := by
        simp only [X10_mark, nb_y cN hN hj, s_at42 hj4, cs_in _ (zc42 hj4), s_outside, s_noSuch, s_noPart, s_outsideTwo, s_first, if_pos h0, bd_s, vl_e, i_0, i_10, i_1, i_2, i_3, i_4, i_6, if_true, if_false, rf_4]
      have e2 : X11_mark (nI j) a2 r = some (-4, sI r 1 4 (r.1 1 4 + 1)) := by
        simp only [X11_mark, ij_y rN hN hj, hj_ck hj4, hjc, s_bound, s_isIn, if_pos h0, X11_mark_j20, bd_s, vl_e, i_0, i_10, i_1, i_2, i_3, i_4, i_6, if_true, if_false, no_4]
      exact ⟨_, _, _, e1, e2, inv_ref I (by decide)⟩
    · by_cases h1 : 2400 < a2
      · have e1 : X10_mark (nI j) a2 c = some (-6, sI c 4 6 (c.1 4 6 + 1)) := by
          simp only [X10_mark, nb_y cN hN hj, s_at42 hj4, cs_in _ (zc42 hj4), s_outside, s_noSuch, s_noPart, s_outsideTwo, s_first, if_neg h0, if_pos h1, bd_s, vl_e, i_0, i_10, i_1, i_2, i_3, i_4, i_6, if_true, if_false, rf_6]
        have e2 : X11_mark (nI j) a2 r = some (-6, sI r 1 6 (r.1 1 6 + 1)) := by
          simp only [X11_mark, ij_y rN hN hj, hj_ck hj4, hjc, s_bound, s_isIn, if_neg h0, if_pos h1, X11_mark_j20, bd_s, vl_e, i_0, i_10, i_1, i_2, i_3, i_4, i_6, if_true, if_false, no_6]
        exact ⟨_, _, _, e1, e2, inv_ref I (by decide)⟩
      · have e1 : X10_mark (nI j) a2 c = some (c.1 (48 + j) 8, sI c (48 + j) 8 a2) := by
          simp only [X10_mark, nb_y cN hN hj, s_at42 hj4, cs_in _ (zc42 hj4), s_outside, s_noSuch, s_noPart, s_outsideTwo, s_first, if_neg h0, if_neg h1, bd_s, vl_e, i_0, i_10, i_1, i_2, i_3, i_4, i_6, if_true, if_false]
        have e2 : X11_mark (nI j) a2 r = some (r.1 9 j, sI r 9 j a2) := by
          simp only [X11_mark, ij_y rN hN hj, hj_ck hj4, hjc, s_bound, s_isIn, X11_mark_j20, if_neg h0, if_neg h1, bd_s, vl_e, i_0, i_10, i_1, i_2, i_3, i_4, i_6, if_true, if_false]
        exact SimE.mk' e1 e2 (hJC 8 (by omega) (by omega)) (inv_M I (MR_fld M hj4 ⟨by omega, by omega⟩ (nj_mark (hJ j hj4) h0 h1)) (PCx.fld c a2 (by omega)) (PRx.fld r a2 (Or.inl (by omega))))
theorem o_look {c r : AH} {a1 a2 : Int32} (I : Inv c r) : SimE (X10_look a1 a2 c) (X11_look a1 a2 r) Inv := by
  obtain ⟨⟨S, G, N, T, M⟩, hW, hL, hRow, hRF, hIM⟩ := id I
  obtain ⟨R, ⟨cS, cW, cG, cN, cT⟩, cJ, cTr⟩ := id M
  obtain ⟨rS, rG, rN, rT, hS, hG, hN, hT, hWW, hJ, hH⟩ := id R
  rcases jm a1 hN with hz | ⟨j, hj, rfl⟩
  · have e1 : X10_look a1 a2 c = some (-1, sI c 4 1 (c.1 4 1 + 1)) := by
      simp only [X10_look, nb_n cN hz, s_outside, s_noSuch, s_noPart, s_outsideTwo, s_first, bd_s, vl_e, i_0, i_10, i_1, i_2, i_3, i_4, i_6, if_true, if_false, rf_1]
    have e2 : X11_look a1 a2 r = some (-1, sI r 1 1 (r.1 1 1 + 1)) := by
      simp only [X11_look, ij_n rN hz, s_bound, s_isIn, X11_look_j18, bd_s, vl_e, i_0, i_10, i_1, i_2, i_3, i_4, i_6, if_true, if_false, no_1]
    exact ⟨_, _, _, e1, e2, inv_ref I (by decide)⟩
  · have hj4 : j < 4 := by omega
    have hjc : (nI j).toNatClampNeg = j := nI_clamp (by omega)
    have hJC : ∀ k, 1 ≤ k → k ≤ 8 → c.1 (48 + j) k = r.1 (k + 1) j := (cJ j hj4).1
    have hJK : JK c (48 + j) := (cJ j hj4).2
    by_cases h0 : a2 < 0
    · have e1 : X10_look (nI j) a2 c = some (-4, sI c 4 4 (c.1 4 4 + 1)) := by
        simp only [X10_look, nb_y cN hN hj, s_at42 hj4, cs_in _ (zc42 hj4), s_outside, s_noSuch, s_noPart, s_outsideTwo, s_first, if_pos h0, bd_s, vl_e, i_0, i_10, i_1, i_2, i_3, i_4, i_6, if_true, if_false, rf_4]
      have e2 : X11_look (nI j) a2 r = some (-4, sI r 1 4 (r.1 1 4 + 1)) := by
        simp only [X11_look, ij_y rN hN hj, hj_ck hj4, hjc, s_bound, s_isIn, if_pos h0, X11_look_j18, bd_s, vl_e, i_0, i_10, i_1, i_2, i_3, i_4, i_6, if_true, if_false, no_4]
      exact ⟨_, _, _, e1, e2, inv_ref I (by decide)⟩
    · by_cases h1 : 4 < a2
      · have e1 : X10_look (nI j) a2 c = some (-6, sI c 4 6 (c.1 4 6 + 1)) := by
          simp only [X10_look, nb_y cN hN hj, s_at42 hj4, cs_in _ (zc42 hj4), s_outside, s_noSuch, s_noPart, s_outsideTwo, s_first, if_neg h0, if_pos h1, bd_s, vl_e, i_0, i_10, i_1, i_2, i_3, i_4, i_6, if_true, if_false, rf_6]
        have e2 : X11_look (nI j) a2 r = some (-6, sI r 1 6 (r.1 1 6 + 1)) := by
          simp only [X11_look, ij_y rN hN hj, hj_ck hj4, hjc, s_bound, s_isIn, if_neg h0, if_pos h1, X11_look_j18, bd_s, vl_e, i_0, i_10, i_1, i_2, i_3, i_4, i_6, if_true, if_false, no_6]
        exact ⟨_, _, _, e1, e2, inv_ref I (by decide)⟩
      · have e1 : X10_look (nI j) a2 c = some (c.1 (48 + j) 7, sI c (48 + j) 7 a2) := by
          simp only [X10_look, nb_y cN hN hj, s_at42 hj4, cs_in _ (zc42 hj4), s_outside, s_noSuch, s_noPart, s_outsideTwo, s_first, if_neg h0, if_neg h1, bd_s, vl_e, i_0, i_10, i_1, i_2, i_3, i_4, i_6, if_true, if_false]
        have e2 : X11_look (nI j) a2 r = some (r.1 8 j, sI r 8 j a2) := by
          simp only [X11_look, ij_y rN hN hj, hj_ck hj4, hjc, s_bound, s_isIn, X11_look_j18, if_neg h0, if_neg h1, bd_s, vl_e, i_0, i_10, i_1, i_2, i_3, i_4, i_6, if_true, if_false]
        exact SimE.mk' e1 e2 (hJC 7 (by omega) (by omega)) (inv_M I (MR_fld M hj4 ⟨by omega, by omega⟩ (nj_look (hJ j hj4) h0 h1)) (PCx.fld c a2 (by omega)) (PRx.fld r a2 (Or.inl (by omega))))
theorem o_stride {c r : AH} {a1 a2 : Int32} (I : Inv c r) : SimE (X10_stride a1 a2 c) (X11_stride a1 a2 r) Inv := by
  obtain ⟨⟨S, G, N, T, M⟩, hW, hL, hRow, hRF, hIM⟩ := id I
  obtain ⟨R, ⟨cS, cW, cG, cN, cT⟩, cJ, cTr⟩ := id M
  obtain ⟨rS, rG, rN, rT, hS, hG, hN, hT, hWW, hJ, hH⟩ := id R
  rcases jm a1 hN with hz | ⟨j, hj, rfl⟩
  · have e1 : X10_stride a1 a2 c = some (-1, sI c 4 1 (c.1 4 1 + 1)) := by
      simp only [X10_stride, nb_n cN hz, s_outside, s_noSuch, s_noPart, s_outsideTwo, s_first, bd_s, vl_e, i_0, i_10, i_1, i_2, i_3, i_4, i_6, if_true, if_false, rf_1]
    have e2 : X11_stride a1 a2 r = some (-1, sI r 1 1 (r.1 1 1 + 1)) := by
      simp only [X11_stride, ij_n rN hz, s_bound, s_isIn, X11_stride_j23, bd_s, vl_e, i_0, i_10, i_1, i_2, i_3, i_4, i_6, if_true, if_false, no_1]
    exact ⟨_, _, _, e1, e2, inv_ref I (by decide)⟩
  · have hj4 : j < 4 := by omega
    have hjc : (nI j).toNatClampNeg = j := nI_clamp (by omega)
    have hJC : ∀ k, 1 ≤ k → k ≤ 8 → c.1 (48 + j) k = r.1 (k + 1) j := (cJ j hj4).1
    have hJK : JK c (48 + j) := (cJ j hj4).2
    by_cases h0 : a2 < 0
    · have e1 : X10_stride (nI j) a2 c = some (-4, sI c 4 4 (c.1 4 4 + 1)) := by
        simp only [X10_stride, nb_y cN hN hj, s_at42 hj4, cs_in _ (zc42 hj4), s_outside, s_noSuch, s_noPart, s_outsideTwo, s_first, if_pos h0, cS, bd_s, vl_e, i_0, i_10, i_1, i_2, i_3, i_4, i_6, if_true, if_false, rf_4]
      have e2 : X11_stride (nI j) a2 r = some (-4, sI r 1 4 (r.1 1 4 + 1)) := by
        simp only [X11_stride, ij_y rN hN hj, hj_ck hj4, hjc, s_bound, s_isIn, if_pos h0, X11_stride_j23, rS, bd_s, vl_e, i_0, i_10, i_1, i_2, i_3, i_4, i_6, if_true, if_false, no_4]
      exact ⟨_, _, _, e1, e2, inv_ref I (by decide)⟩
    · by_cases h1 : nI S - 1 < a2
      · have e1 : X10_stride (nI j) a2 c = some (-6, sI c 4 6 (c.1 4 6 + 1)) := by
          simp only [X10_stride, nb_y cN hN hj, s_at42 hj4, cs_in _ (zc42 hj4), s_outside, s_noSuch, s_noPart, s_outsideTwo, s_first, if_neg h0, if_pos h1, cS, bd_s, vl_e, i_0, i_10, i_1, i_2, i_3, i_4, i_6, if_true, if_false, rf_6]
        have e2 : X11_stride (nI j) a2 r = some (-6, sI r 1 6 (r.1 1 6 + 1)) := by
          simp only [X11_stride, ij_y rN hN hj, hj_ck hj4, hjc, s_bound, s_isIn, if_neg h0, if_pos h1, X11_stride_j23, rS, bd_s, vl_e, i_0, i_10, i_1, i_2, i_3, i_4, i_6, if_true, if_false, no_6]
        exact ⟨_, _, _, e1, e2, inv_ref I (by decide)⟩
      · have e1 : X10_stride (nI j) a2 c = some (strS (c.1 (48 + j) 1) (c.1 (48 + j) 3) (c.1 (48 + j) 4) (c.1 42 1) a2, c) := by
          simp only [X10_stride, nb_y cN hN hj, s_at42 hj4, cs_in _ (zc42 hj4), s_outside, s_noSuch, s_noPart, s_outsideTwo, s_first, cS, if_neg h0, if_neg h1, bd_s, vl_e, i_0, i_10, i_1, i_2, i_3, i_4, i_6, if_true, if_false, s_strC hJK]
        have e2 : X11_stride (nI j) a2 r = some (strS (r.1 2 j) (r.1 4 j) (r.1 5 j) (r.1 0 14) a2, r) := by
          simp only [X11_stride, ij_y rN hN hj, hj_ck hj4, hjc, s_bound, s_isIn, X11_stride_j23, rS, if_neg h0, if_neg h1, bd_s, vl_e, i_0, i_10, i_1, i_2, i_3, i_4, i_6, if_true, if_false, s_strR hj4]
        exact SimE.mk' e1 e2 (by rw [hJC 1 (by omega) (by omega), hJC 3 (by omega) (by omega), hJC 4 (by omega) (by omega), cW]) I
theorem o_place {c r : AH} {a1 : Int32} (I : Inv c r) : SimE (X10_place a1 c) (X11_place a1 r) Inv := by
  obtain ⟨⟨S, G, N, T, M⟩, hW, hL, hRow, hRF, hIM⟩ := id I
  obtain ⟨R, ⟨cS, cW, cG, cN, cT⟩, cJ, cTr⟩ := id M
  obtain ⟨rS, rG, rN, rT, hS, hG, hN, hT, hWW, hJ, hH⟩ := id R
  rcases jm a1 hN with hz | ⟨j, hj, rfl⟩
  · have e1 : X10_place a1 c = some (1000000000 - (-1), sI c 4 1 (c.1 4 1 + 1)) := by
      simp only [X10_place, nb_n cN hz, s_outside, s_noSuch, s_noPart, s_outsideTwo, s_first, bd_s, vl_e, i_0, i_10, i_1, i_2, i_3, i_4, i_6, if_true, if_false, rf_1]
    have e2 : X11_place a1 r = some (1000000000 - (-1), sI r 1 1 (r.1 1 1 + 1)) := by
      simp only [X11_place, ij_n rN hz, s_bound, s_isIn, bd_s, vl_e, i_0, i_10, i_1, i_2, i_3, i_4, i_6, if_true, if_false, lo_1]
    exact ⟨_, _, _, e1, e2, inv_ref I (by decide)⟩
  · have hj4 : j < 4 := by omega
    have hjc : (nI j).toNatClampNeg = j := nI_clamp (by omega)
    have hJC : ∀ k, 1 ≤ k → k ≤ 8 → c.1 (48 + j) k = r.1 (k + 1) j := (cJ j hj4).1
    have hJK : JK c (48 + j) := (cJ j hj4).2
    have e1 : X10_place (nI j) c = some (c.1 (48 + j) 8 - pathS (c.1 (48 + j) 1) (c.1 (48 + j) 3) (c.1 (48 + j) 4) (c.1 42 1) S, c) := by
      simp only [X10_place, nb_y cN hN hj, s_at42 hj4, cs_in _ (zc42 hj4), s_placeC hj4 hJK (by omega : S < 4000) cS, bd_s, vl_e, i_0, i_10, i_1, i_2, i_3, i_4, i_6, if_true, if_false]
    have e2 : X11_place (nI j) r = some (r.1 9 j - pathS (r.1 2 j) (r.1 4 j) (r.1 5 j) (r.1 0 14) S, r) := by
      simp only [X11_place, ij_y rN hN hj, hj_ck hj4, hjc, s_placeR hj4 (by omega : S < 4000) rS, bd_s, vl_e, i_0, i_10, i_1, i_2, i_3, i_4, i_6, if_true, if_false]
    exact SimE.mk' e1 e2 (pl_eq M hj4) I
theorem o_length {c r : AH} {a1 a2 a3 : Int32} (I : Inv c r) : SimE (X10_length a1 a2 a3 c) (X11_length a1 a2 a3 r) Inv := by
  obtain ⟨⟨S, G, N, T, M⟩, hW, hL, hRow, hRF, hIM⟩ := id I
  obtain ⟨R, ⟨cS, cW, cG, cN, cT⟩, cJ, cTr⟩ := id M
  obtain ⟨rS, rG, rN, rT, hS, hG, hN, hT, hWW, hJ, hH⟩ := id R
  rcases jm a1 hN with hz | ⟨j, hj, rfl⟩
  · have e1 : X10_length a1 a2 a3 c = some (-1, sI c 4 1 (c.1 4 1 + 1)) := by
      simp only [X10_length, nb_n cN hz, s_outside, s_noSuch, s_noPart, s_outsideTwo, s_first, bd_s, vl_e, i_0, i_10, i_1, i_2, i_3, i_4, i_6, if_true, if_false, rf_1]
    have e2 : X11_length a1 a2 a3 r = some (-1, sI r 1 1 (r.1 1 1 + 1)) := by
      simp only [X11_length, ij_n rN hz, s_bound, s_isIn, X11_length_j44, bd_s, vl_e, i_0, i_10, i_1, i_2, i_3, i_4, i_6, if_true, if_false, no_1]
    exact ⟨_, _, _, e1, e2, inv_ref I (by decide)⟩
  · have hj4 : j < 4 := by omega
    have hjc : (nI j).toNatClampNeg = j := nI_clamp (by omega)
    have hJC : ∀ k, 1 ≤ k → k ≤ 8 → c.1 (48 + j) k = r.1 (k + 1) j := (cJ j hj4).1
    have hJK : JK c (48 + j) := (cJ j hj4).2
    by_cases h0 : a2 < 0
    · have e1 : X10_length (nI j) a2 a3 c = some (-4, sI c 4 4 (c.1 4 4 + 1)) := by
        simp only [X10_length, nb_y cN hN hj, s_at42 hj4, cs_in _ (zc42 hj4), s_outside, s_noSuch, s_noPart, s_outsideTwo, s_first, if_pos h0, true_or, or_true, false_or, or_false, or_self, n_64, n_04, bd_s, vl_e, i_0, i_10, i_1, i_2, i_3, i_4, i_6, if_true, if_false, rf_4]
      have e2 : X11_length (nI j) a2 a3 r = some (-4, sI r 1 4 (r.1 1 4 + 1)) := by
        simp only [X11_length, ij_y rN hN hj, hj_ck hj4, hjc, X11_length_j44, if_pos h0, X11_length_j20, bd_s, vl_e, i_0, i_10, i_1, i_2, i_3, i_4, i_6, if_true, if_false, no_4]
      exact ⟨_, _, _, e1, e2, inv_ref I (by decide)⟩
    by_cases h1 : a3 < 0
    · have e1 : X10_length (nI j) a2 a3 c = some (-4, sI c 4 4 (c.1 4 4 + 1)) := by
        simp only [X10_length, nb_y cN hN hj, s_at42 hj4, cs_in _ (zc42 hj4), s_outside, s_noSuch, s_noPart, s_outsideTwo, s_first, if_neg h0, if_pos h1, true_or, or_true, false_or, or_false, or_self, n_64, n_04, bd_s, vl_e, i_0, i_10, i_1, i_2, i_3, i_4, i_6, if_true, if_false, rf_4]
      have e2 : X11_length (nI j) a2 a3 r = some (-4, sI r 1 4 (r.1 1 4 + 1)) := by
        simp only [X11_length, ij_y rN hN hj, hj_ck hj4, hjc, X11_length_j44, if_neg h0, if_neg (Int32.not_le.mpr h1), X11_length_j20, bd_s, vl_e, i_0, i_10, i_1, i_2, i_3, i_4, i_6, if_true, if_false, no_4]
      exact ⟨_, _, _, e1, e2, inv_ref I (by decide)⟩
    by_cases h2 : 300 < a2
    · by_cases h3 : 99 < a3
      · have e1 : X10_length (nI j) a2 a3 c = some (-6, sI c 4 6 (c.1 4 6 + 1)) := by
          simp only [X10_length, nb_y cN hN hj, s_at42 hj4, cs_in _ (zc42 hj4), s_outside, s_noSuch, s_noPart, s_outsideTwo, s_first, if_neg h0, if_neg h1, if_pos h2, if_pos h3, true_or, or_true, false_or, or_false, or_self, n_64, n_04, bd_s, vl_e, i_0, i_10, i_1, i_2, i_3, i_4, i_6, if_true, if_false, rf_6]
        have e2 : X11_length (nI j) a2 a3 r = some (-6, sI r 1 6 (r.1 1 6 + 1)) := by
          simp only [X11_length, ij_y rN hN hj, hj_ck hj4, hjc, X11_length_j44, if_neg h0, if_pos (Int32.not_lt.mp h1), if_pos h2, X11_length_j38, bd_s, vl_e, i_0, i_10, i_1, i_2, i_3, i_4, i_6, if_true, if_false, no_6]
        exact ⟨_, _, _, e1, e2, inv_ref I (by decide)⟩
      · have e1 : X10_length (nI j) a2 a3 c = some (-6, sI c 4 6 (c.1 4 6 + 1)) := by
          simp only [X10_length, nb_y cN hN hj, s_at42 hj4, cs_in _ (zc42 hj4), s_outside, s_noSuch, s_noPart, s_outsideTwo, s_first, if_neg h0, if_neg h1, if_pos h2, if_neg h3, true_or, or_true, false_or, or_false, or_self, n_64, n_04, bd_s, vl_e, i_0, i_10, i_1, i_2, i_3, i_4, i_6, if_true, if_false, rf_6]
        have e2 : X11_length (nI j) a2 a3 r = some (-6, sI r 1 6 (r.1 1 6 + 1)) := by
          simp only [X11_length, ij_y rN hN hj, hj_ck hj4, hjc, X11_length_j44, if_neg h0, if_pos (Int32.not_lt.mp h1), if_pos h2, X11_length_j38, bd_s, vl_e, i_0, i_10, i_1, i_2, i_3, i_4, i_6, if_true, if_false, no_6]
        exact ⟨_, _, _, e1, e2, inv_ref I (by decide)⟩
    by_cases h3 : 99 < a3
    · have e1 : X10_length (nI j) a2 a3 c = some (-6, sI c 4 6 (c.1 4 6 + 1)) := by
        simp only [X10_length, nb_y cN hN hj, s_at42 hj4, cs_in _ (zc42 hj4), s_outside, s_noSuch, s_noPart, s_outsideTwo, s_first, if_neg h0, if_neg h1, if_neg h2, if_pos h3, true_or, or_true, false_or, or_false, or_self, n_64, n_04, bd_s, vl_e, i_0, i_10, i_1, i_2, i_3, i_4, i_6, if_true, if_false, rf_6]
      have e2 : X11_length (nI j) a2 a3 r = some (-6, sI r 1 6 (r.1 1 6 + 1)) := by
        simp only [X11_length, ij_y rN hN hj, hj_ck hj4, hjc, X11_length_j44, if_neg h0, if_pos (Int32.not_lt.mp h1), if_neg h2, if_neg (Int32.not_le.mpr h3), X11_length_j38, bd_s, vl_e, i_0, i_10, i_1, i_2, i_3, i_4, i_6, if_true, if_false, no_6]
      exact ⟨_, _, _, e1, e2, inv_ref I (by decide)⟩
    have e1 : X10_length (nI j) a2 a3 c = some (lenS (c.1 (48 + j) 1) (c.1 (48 + j) 2) (c.1 (48 + j) 6) (c.1 42 1) a2 a3, c) := by
      simp only [X10_length, nb_y cN hN hj, s_at42 hj4, cs_in _ (zc42 hj4), s_outside, s_noSuch, s_noPart, s_outsideTwo, s_first, true_or, or_true, false_or, or_false, or_self, n_64, n_04, if_neg h0, if_neg h1, if_neg h2, if_neg h3, bd_s, vl_e, i_0, i_10, i_1, i_2, i_3, i_4, i_6, if_true, if_false, s_lenC hJK]
    have e2 : X11_length (nI j) a2 a3 r = some (lenS (r.1 2 j) (r.1 3 j) (r.1 7 j) (r.1 0 14) a2 a3, r) := by
      simp only [X11_length, ij_y rN hN hj, hj_ck hj4, hjc, X11_length_j44, if_neg h0, if_pos (Int32.not_lt.mp h1), if_neg h2, if_pos (Int32.not_lt.mp h3), bd_s, vl_e, i_0, i_10, i_1, i_2, i_3, i_4, i_6, if_true, if_false, s_lenR hj4]
    exact SimE.mk' e1 e2 (by rw [hJC 1 (by omega) (by omega), hJC 2 (by omega) (by omega), hJC 6 (by omega) (by omega), cW]) I
theorem o_back {c r : AH} {a1 a2 : Int32} (I : Inv c r) : SimE (X10_back a1 a2 c) (X11_back a1 a2 r) Inv := by
  obtain ⟨⟨S, G, N, T, M⟩, hW, hL, hRow, hRF, hIM⟩ := id I
  obtain ⟨R, ⟨cS, cW, cG, cN, cT⟩, cJ, cTr⟩ := id M
  obtain ⟨rS, rG, rN, rT, hS, hG, hN, hT, hWW, hJ, hH⟩ := id R
  rcases jm a1 hN with hz | ⟨j, hj, rfl⟩
  · have e1 : X10_back a1 a2 c = some (1000000000 - (-1), sI c 4 1 (c.1 4 1 + 1)) := by
      simp only [X10_back, nb_n cN hz, s_outside, s_noSuch, s_noPart, s_outsideTwo, s_first, bd_s, vl_e, i_0, i_10, i_1, i_2, i_3, i_4, i_6, if_true, if_false, rf_1]
    have e2 : X11_back a1 a2 r = some (1000000000 - (-1), sI r 1 1 (r.1 1 1 + 1)) := by
      simp only [X11_back, ij_n rN hz, s_bound, s_isIn, X11_back_j20, bd_s, vl_e, i_0, i_10, i_1, i_2, i_3, i_4, i_6, if_true, if_false, lo_1]
    exact ⟨_, _, _, e1, e2, inv_ref I (by decide)⟩
  · have hj4 : j < 4 := by omega
    have hjc : (nI j).toNatClampNeg = j := nI_clamp (by omega)
    have hJC : ∀ k, 1 ≤ k → k ≤ 8 → c.1 (48 + j) k = r.1 (k + 1) j := (cJ j hj4).1
    have hJK : JK c (48 + j) := (cJ j hj4).2
    by_cases h0 : a2 < -9
    · have e1 : X10_back (nI j) a2 c = some (1000000000 - (-4), sI c 4 4 (c.1 4 4 + 1)) := by
        simp only [X10_back, nb_y cN hN hj, s_at42 hj4, cs_in _ (zc42 hj4), s_outside, s_noSuch, s_noPart, s_outsideTwo, s_first, if_pos h0, bd_s, vl_e, i_0, i_10, i_1, i_2, i_3, i_4, i_6, if_true, if_false, rf_4]
      have e2 : X11_back (nI j) a2 r = some (1000000000 - (-4), sI r 1 4 (r.1 1 4 + 1)) := by
        simp only [X11_back, ij_y rN hN hj, hj_ck hj4, hjc, s_bound, s_isIn, if_pos h0, X11_back_j20, bd_s, vl_e, i_0, i_10, i_1, i_2, i_3, i_4, i_6, if_true, if_false, lo_4]
      exact ⟨_, _, _, e1, e2, inv_ref I (by decide)⟩
    · by_cases h1 : 9 < a2
      · have e1 : X10_back (nI j) a2 c = some (1000000000 - (-6), sI c 4 6 (c.1 4 6 + 1)) := by
          simp only [X10_back, nb_y cN hN hj, s_at42 hj4, cs_in _ (zc42 hj4), s_outside, s_noSuch, s_noPart, s_outsideTwo, s_first, if_neg h0, if_pos h1, bd_s, vl_e, i_0, i_10, i_1, i_2, i_3, i_4, i_6, if_true, if_false, rf_6]
        have e2 : X11_back (nI j) a2 r = some (1000000000 - (-6), sI r 1 6 (r.1 1 6 + 1)) := by
          simp only [X11_back, ij_y rN hN hj, hj_ck hj4, hjc, s_bound, s_isIn, if_neg h0, if_pos h1, X11_back_j20, bd_s, vl_e, i_0, i_10, i_1, i_2, i_3, i_4, i_6, if_true, if_false, lo_6]
        exact ⟨_, _, _, e1, e2, inv_ref I (by decide)⟩
      · have e1 : X10_back (nI j) a2 c = some (pathS (c.1 (48 + j) 1) (c.1 (48 + j) 3) (c.1 (48 + j) 4) a2 S - pathS (c.1 (48 + j) 1) (c.1 (48 + j) 3) (c.1 (48 + j) 4) (c.1 42 1) S, c) := by
          simp only [X10_back, nb_y cN hN hj, s_at42 hj4, cs_in _ (zc42 hj4), s_outside, s_noSuch, s_noPart, s_outsideTwo, s_first, cS, if_neg h0, if_neg h1, bd_s, vl_e, i_0, i_10, i_1, i_2, i_3, i_4, i_6, if_true, if_false, s_path hJK (by omega : S < 4000)]
        have e2 : X11_back (nI j) a2 r = some (pathS (r.1 2 j) (r.1 4 j) (r.1 5 j) a2 S - pathS (r.1 2 j) (r.1 4 j) (r.1 5 j) (r.1 0 14) S, r) := by
          simp only [X11_back, ij_y rN hN hj, hj_ck hj4, hjc, s_bound, s_isIn, X11_back_j20, if_neg h0, if_neg h1, bd_s, vl_e, i_0, i_10, i_1, i_2, i_3, i_4, i_6, if_true, if_false, s_pathR hj4 (by omega : S < 4000) rS]
        exact SimE.mk' e1 e2 (by rw [hJC 1 (by omega) (by omega), hJC 3 (by omega) (by omega), hJC 4 (by omega) (by omega), cW]) I
theorem clampE (x : Int32) (h : AH) : (if 0 ≤ x then (if x ≤ 2400 then some (x, h) else some ((2400 : Int32), h)) else some ((0 : Int32), h)) = some (mx32 0 (mn32 2400 x), h) := by
  have e0 : (0 : Int32).toInt = 0 := rfl
  have e1 : (2400 : Int32).toInt = 2400 := rfl
  unfold mx32 mn32
  by_cases a : 0 ≤ x
  · rw [if_pos a]
    by_cases b : x ≤ 2400
    · rw [if_pos b]
      by_cases d : x < 2400
      · rw [if_pos d]
        by_cases e : 0 < x
        · rw [if_pos e]
        · rw [if_neg e]
          rw [fa_le] at a
          rw [fa_lt] at e
          have : x = 0 := by rw [fa_eq]; omega
          rw [this]
      · rw [if_neg d]
        rw [fa_le] at b
        rw [fa_lt] at d
        have : x = 2400 := by rw [fa_eq]; omega
        rw [this]
        rfl
    · rw [if_neg b]
      rw [if_neg (show ¬ x < 2400 by rw [fa_le] at b; rw [fa_lt]; omega)]
      rfl
  · rw [if_neg a]
    rw [if_pos (show x < 2400 by rw [fa_le] at a; rw [fa_lt]; omega), if_neg (show ¬ 0 < x by rw [fa_le] at a; rw [fa_lt]; omega)]
theorem o_markIn {c r : AH} {a1 a2 : Int32} (I : Inv c r) : SimE (X10_markIn a1 a2 c) (X11_markIn a1 a2 r) Inv := by
  obtain ⟨⟨S, G, N, T, M⟩, hW, hL, hRow, hRF, hIM⟩ := id I
  obtain ⟨R, ⟨cS, cW, cG, cN, cT⟩, cJ, cTr⟩ := id M
  obtain ⟨rS, rG, rN, rT, hS, hG, hN, hT, hWW, hJ, hH⟩ := id R
  rcases jm a1 hN with hz | ⟨j, hj, rfl⟩
  · have e1 : X10_markIn a1 a2 c = some (-1, sI c 4 1 (c.1 4 1 + 1)) := by
      simp only [X10_markIn, nb_n cN hz, s_outside, s_noSuch, s_noPart, s_outsideTwo, s_first, bd_s, vl_e, i_0, i_10, i_1, i_2, i_3, i_4, i_6, if_true, if_false, rf_1]
    have e2 : X11_markIn a1 a2 r = some (-1, sI r 1 1 (r.1 1 1 + 1)) := by
      simp only [X11_markIn, ij_n rN hz, s_bound, s_isIn, X11_markIn_j20, bd_s, vl_e, i_0, i_10, i_1, i_2, i_3, i_4, i_6, if_true, if_false, no_1]
    exact ⟨_, _, _, e1, e2, inv_ref I (by decide)⟩
  · have hj4 : j < 4 := by omega
    have hjc : (nI j).toNatClampNeg = j := nI_clamp (by omega)
    have hJC : ∀ k, 1 ≤ k → k ≤ 8 → c.1 (48 + j) k = r.1 (k + 1) j := (cJ j hj4).1
    have hJK : JK c (48 + j) := (cJ j hj4).2
    by_cases h0 : a2 < -9
    · have e1 : X10_markIn (nI j) a2 c = some (-4, sI c 4 4 (c.1 4 4 + 1)) := by
        simp only [X10_markIn, nb_y cN hN hj, s_at42 hj4, cs_in _ (zc42 hj4), s_outside, s_noSuch, s_noPart, s_outsideTwo, s_first, if_pos h0, bd_s, vl_e, i_0, i_10, i_1, i_2, i_3, i_4, i_6, if_true, if_false, rf_4]
      have e2 : X11_markIn (nI j) a2 r = some (-4, sI r 1 4 (r.1 1 4 + 1)) := by
        simp only [X11_markIn, ij_y rN hN hj, hj_ck hj4, hjc, s_bound, s_isIn, if_pos h0, X11_markIn_j20, bd_s, vl_e, i_0, i_10, i_1, i_2, i_3, i_4, i_6, if_true, if_false, no_4]
      exact ⟨_, _, _, e1, e2, inv_ref I (by decide)⟩
    · by_cases h1 : 9 < a2
      · have e1 : X10_markIn (nI j) a2 c = some (-6, sI c 4 6 (c.1 4 6 + 1)) := by
          simp only [X10_markIn, nb_y cN hN hj, s_at42 hj4, cs_in _ (zc42 hj4), s_outside, s_noSuch, s_noPart, s_outsideTwo, s_first, if_neg h0, if_pos h1, bd_s, vl_e, i_0, i_10, i_1, i_2, i_3, i_4, i_6, if_true, if_false, rf_6]
        have e2 : X11_markIn (nI j) a2 r = some (-6, sI r 1 6 (r.1 1 6 + 1)) := by
          simp only [X11_markIn, ij_y rN hN hj, hj_ck hj4, hjc, s_bound, s_isIn, if_neg h0, if_pos h1, X11_markIn_j20, bd_s, vl_e, i_0, i_10, i_1, i_2, i_3, i_4, i_6, if_true, if_false, no_6]
        exact ⟨_, _, _, e1, e2, inv_ref I (by decide)⟩
      · have e1 : X10_markIn (nI j) a2 c = some (mx32 0 (mn32 2400 (pathS (c.1 (48 + j) 1) (c.1 (48 + j) 3) (c.1 (48 + j) 4) a2 S + aimS (c.1 (48 + j) 1) (c.1 (48 + j) 2))), c) := by
          simp only [X10_markIn, nb_y cN hN hj, s_at42 hj4, cs_in _ (zc42 hj4), s_outside, s_noSuch, s_noPart, s_outsideTwo, s_first, cS, if_neg h0, if_neg h1, bd_s, vl_e, i_0, i_10, i_1, i_2, i_3, i_4, i_6, if_true, if_false, s_path hJK (by omega : S < 4000), s_aimC hJK]
        have e2 : X11_markIn (nI j) a2 r = some (mx32 0 (mn32 2400 (pathS (r.1 2 j) (r.1 4 j) (r.1 5 j) a2 S + aimS (r.1 2 j) (r.1 3 j))), r) := by
          simp only [X11_markIn, ij_y rN hN hj, hj_ck hj4, hjc, s_bound, s_isIn, X11_markIn_j20, if_neg h0, if_neg h1, bd_s, vl_e, i_0, i_10, i_1, i_2, i_3, i_4, i_6, if_true, if_false, s_pathR hj4 (by omega : S < 4000) rS, s_aimR hj4, clampE]
        exact SimE.mk' e1 e2 (by rw [hJC 1 (by omega) (by omega), hJC 2 (by omega) (by omega), hJC 3 (by omega) (by omega), hJC 4 (by omega) (by omega)]) I
