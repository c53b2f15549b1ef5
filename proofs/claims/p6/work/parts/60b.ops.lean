/-! THE CALLS with chances -/
theorem pl_b {r : AH} {S G N T j : Nat} {wd : Int32} (R : RN r S G N T) (hj : j < 4) (hw : WW wd) : -5000 ≤ (r.1 9 j - pathS (r.1 2 j) (r.1 4 j) (r.1 5 j) wd S).toInt ∧ (r.1 9 j - pathS (r.1 2 j) (r.1 4 j) (r.1 5 j) wd S).toInt ≤ 5000 := by
  obtain ⟨rS, rG, rN, rT, hS, hG, hN, hT, hWW, hJ, hH⟩ := R
  obtain ⟨κ, f, a, g, s, p, l, m, hκ, hf, ha, hg, hs, hpp, hl, hm, e1, e2, e3, e4, e5, e6, e7, e8⟩ := hJ j hj
  have e8 : r.1 9 j = nI m := e8
  have h := path_b (kd := r.1 2 j) (st := r.1 4 j) (gr := r.1 5 j) ha hg e3 e4 hw S hS.2
  have e : (nI m).toInt = (m : Int) := nI_toInt (by omega)
  rw [e8, fb_subI (by omega) (by omega)]
  omega
/-- the class's spread, told in the reference's numbers -/
theorem k_spread {c r : AH} {S G N T j S2 : Nat} {wd pl : Int32} (b : Int32) (M : MR 42 c r S G N T) (hW : WT c) (hj : j < 4) (hw : WW wd) (h4 : 4 ≤ S2) (h20 : S2 ≤ 20) (hp : -5000 ≤ pl.toInt) (hp2 : pl.toInt ≤ 5000) :
    ∃ c', X1_spread (48 + j) (nI S2) wd pl b c = some ((), c') ∧ c'.1 = c.1 ∧ c'.2.2 = c.2.2 ∧ (∀ o, o ≠ 8 → o ≠ 31 → c'.2.1 o = c.2.1 o) ∧ c'.2.1 8 2 = lN (2 ^ (2 * S2)) ∧ (∀ a, Ph (gtI a) c' = RV (RJ r j) wd pl S2 (p3 a)) ∧ Ph lN c' = RV (RJ r j) wd pl S2 p2 ∧ c'.2.1 8 3 = RV (RJ r j) wd pl S2 p1 ∧ c'.2.1 8 4 = RV (RJ r j) wd pl S2 (p0 b) ∧ ∀ v, v < 1000 → c'.2.1 31 v = RV (RJ r j) wd pl S2 (pL v) := by
  obtain ⟨hc, hk⟩ := M.2.2.1 j hj
  have hJ := M.1.2.2.2.2.2.2.2.2.2.1 j hj
  obtain ⟨c', a1, a2, a3, a4, a5, a6, a7, a8, a9, a10⟩ := u_spread (h := c) (p := 48 + j) (S := S2) b hk (NJ_J (fun k k1 k2 => (hc k k1 k2).symm) hJ) hW hw h4 h20 hp hp2
  have e : ∀ φ, RV (c.1 (48 + j)) wd pl S2 φ = RV (RJ r j) wd pl S2 φ := fun φ => RV_J hc wd pl S2 φ
  exact ⟨c', a1, a2, a3, a4, a5, fun a => by rw [a6, e], by rw [a7, e], by rw [a8, e], by rw [a9, e], fun v hv => by rw [a10 v hv, e]⟩
theorem k_PC {c c' : AH} (h1 : c'.1 = c.1) (h2 : c'.2.2 = c.2.2) (h3 : ∀ o, o ≠ 8 → o ≠ 31 → c'.2.1 o = c.2.1 o) : PC c c' := PC.L h1 h2 (fun o o1 o2 => h3 o (by omega) (by omega))
/-- the place as it is now, on both sides -/
theorem k_now {c r : AH} {S G N T j : Nat} (b : Int32) (M : MR 42 c r S G N T) (hW : WT c) (hj : j < 4) :
    ∃ c', X10_spreadNow (nI j) b c = some ((), c') ∧ c'.1 = c.1 ∧ c'.2.2 = c.2.2 ∧ (∀ o, o ≠ 8 → o ≠ 31 → c'.2.1 o = c.2.1 o) ∧ c'.2.1 8 2 = lN (2 ^ (2 * S)) ∧ (∀ a, Ph (gtI a) c' = RV (RJ r j) (r.1 0 14) (r.1 9 j - pathS (r.1 2 j) (r.1 4 j) (r.1 5 j) (r.1 0 14) S) S (p3 a)) ∧ Ph lN c' = RV (RJ r j) (r.1 0 14) (r.1 9 j - pathS (r.1 2 j) (r.1 4 j) (r.1 5 j) (r.1 0 14) S) S p2 ∧ c'.2.1 8 3 = RV (RJ r j) (r.1 0 14) (r.1 9 j - pathS (r.1 2 j) (r.1 4 j) (r.1 5 j) (r.1 0 14) S) S p1 ∧ c'.2.1 8 4 = RV (RJ r j) (r.1 0 14) (r.1 9 j - pathS (r.1 2 j) (r.1 4 j) (r.1 5 j) (r.1 0 14) S) S (p0 b) ∧ ∀ v, v < 1000 → c'.2.1 31 v = RV (RJ r j) (r.1 0 14) (r.1 9 j - pathS (r.1 2 j) (r.1 4 j) (r.1 5 j) (r.1 0 14) S) S (pL v) := by
  have hS := M.1.2.2.2.2.1
  have hw := M.1.2.2.2.2.2.2.2.2.1
  have hb := pl_b M.1 hj hw
  obtain ⟨c', a⟩ := k_spread b M hW hj hw hS.1 hS.2 hb.1 hb.2
  refine ⟨c', ?_, a.2⟩
  unfold X10_spreadNow
  rw [s_at42 hj, bd_s, cs_in _ (zc42 hj), s_placeC hj (M.2.2.1 j hj).2 (by omega : S < 4000) M.2.1.1, bd_s, M.2.1.1, pl_eq M hj, M.2.1.2.1, a.1, bd_s]
theorem k_all {r : AH} {S : Nat} (e : r.1 0 12 = nI S) (h : S ≤ 20) : X11_allWays r = some (lN (2 ^ (2 * S)), r) := by
  unfold X11_allWays
  rw [e, sh_all h]
theorem WO.PR {T : Nat} {r r' : AH} (h : WO r r') : PR T r r' := PR.L h.1
theorem o_off {c r : AH} {a1 a2 a3 : Int32} (I : Inv c r) : SimE (X10_off a1 a2 a3 c) (X11_off a1 a2 a3 r) Inv := by
  obtain ⟨⟨S, G, N, T, M⟩, hW, hL, hRow, hRF, hIM⟩ := id I
  obtain ⟨R, ⟨cS, cW, cG, cN, cT⟩, cJ, cTr⟩ := id M
  obtain ⟨rS, rG, rN, rT, hS, hG, hN, hT, hWW, hJ, hH⟩ := id R
  rcases jm a1 hN with hz | ⟨j, hj, rfl⟩
  · have e1 : X10_off a1 a2 a3 c = some (4000000000000000000 - (-1 : Int32).toInt64, sI c 4 1 (c.1 4 1 + 1)) := by
      simp only [X10_off, nb_n cN hz, s_outside, s_noSuch, s_noPart, s_outsideTwo, s_first, bd_s, vl_e, i_0, i_10, i_1, i_2, i_3, i_4, i_6, if_true, if_false, rf_1]
    have e2 : X11_off a1 a2 a3 r = some (4000000000000000000 - (-1 : Int32).toInt64, sI r 1 1 (r.1 1 1 + 1)) := by
      simp only [X11_off, ij_n rN hz, s_bound, s_isIn, X11_off_j22, X11_off_j42, bd_s, vl_e, i_0, i_10, i_1, i_2, i_3, i_4, i_6, if_true, if_false, ll_1]
    exact ⟨_, _, _, e1, e2, inv_ref I (by decide)⟩
  · have hj4 : j < 4 := by omega
    have hjc : (nI j).toNatClampNeg = j := nI_clamp (by omega)
    have hJC : ∀ k, 1 ≤ k → k ≤ 8 → c.1 (48 + j) k = r.1 (k + 1) j := (cJ j hj4).1
    have hJK : JK c (48 + j) := (cJ j hj4).2
    have hpl := pl_b R hj4 hWW
    have hcn := u_count hj4 (hJ j hj4) rS hWW hS.1 hS.2 hpl.1 hpl.2
    have hpw := pw_b hS.2
    by_cases h0 : a2 < -300
    · have e1 : X10_off (nI j) a2 a3 c = some (4000000000000000000 - (-4 : Int32).toInt64, sI c 4 4 (c.1 4 4 + 1)) := by
        simp only [X10_off, nb_y cN hN hj, s_at42 hj4, cs_in _ (zc42 hj4), s_outside, s_noSuch, s_noPart, s_outsideTwo, s_first, if_pos h0, bd_s, vl_e, i_0, i_10, i_1, i_2, i_3, i_4, i_6, if_true, if_false, rf_4]
      have e2 : X11_off (nI j) a2 a3 r = some (4000000000000000000 - (-4 : Int32).toInt64, sI r 1 4 (r.1 1 4 + 1)) := by
        simp only [X11_off, ij_y rN hN hj, hj_ck hj4, hjc, s_bound, s_isIn, if_pos h0, X11_off_j22, X11_off_j42, bd_s, vl_e, i_0, i_10, i_1, i_2, i_3, i_4, i_6, if_true, if_false, ll_4]
      exact ⟨_, _, _, e1, e2, inv_ref I (by decide)⟩
    · by_cases h1 : 300 < a2
      · have e1 : X10_off (nI j) a2 a3 c = some (4000000000000000000 - (-6 : Int32).toInt64, sI c 4 6 (c.1 4 6 + 1)) := by
          simp only [X10_off, nb_y cN hN hj, s_at42 hj4, cs_in _ (zc42 hj4), s_outside, s_noSuch, s_noPart, s_outsideTwo, s_first, if_neg h0, if_pos h1, bd_s, vl_e, i_0, i_10, i_1, i_2, i_3, i_4, i_6, if_true, if_false, rf_6]
        have e2 : X11_off (nI j) a2 a3 r = some (4000000000000000000 - (-6 : Int32).toInt64, sI r 1 6 (r.1 1 6 + 1)) := by
          simp only [X11_off, ij_y rN hN hj, hj_ck hj4, hjc, s_bound, s_isIn, if_neg h0, if_pos h1, X11_off_j22, X11_off_j42, bd_s, vl_e, i_0, i_10, i_1, i_2, i_3, i_4, i_6, if_true, if_false, ll_6]
        exact ⟨_, _, _, e1, e2, inv_ref I (by decide)⟩
      · by_cases h2 : a3 < 0 ∨ 1 < a3
        · have e1 : X10_off (nI j) a2 a3 c = some (4000000000000000000 - (-2 : Int32).toInt64, sI c 4 2 (c.1 4 2 + 1)) := by
            simp only [X10_off, nb_y cN hN hj, s_at42 hj4, cs_in _ (zc42 hj4), s_outside, s_noSuch, s_noPart, s_outsideTwo, s_first, if_neg h0, if_neg h1, if_pos h2, bd_s, vl_e, i_0, i_10, i_1, i_2, i_3, i_4, i_6, if_true, if_false, rf_2]
          have e2 : X11_off (nI j) a2 a3 r = some (4000000000000000000 - (-2 : Int32).toInt64, sI r 1 2 (r.1 1 2 + 1)) := by
            simp only [X11_off, ij_y rN hN hj, hj_ck hj4, hjc, s_bound, s_isIn, if_neg h0, if_neg h1, if_pos h2, X11_off_j22, X11_off_j42, bd_s, vl_e, i_0, i_10, i_1, i_2, i_3, i_4, i_6, if_true, if_false, ll_2]
          exact ⟨_, _, _, e1, e2, inv_ref I (by decide)⟩
        · obtain ⟨V, v1, v2⟩ := rv_0 (hJ j hj4) hWW hS.1 hS.2 hpl.1 hpl.2 a2
          obtain ⟨c', s1, s2, s3, s4, s5, s6, s7, s8, s9, s10⟩ := k_now a2 M hW hj4
          obtain ⟨r', t1, t2⟩ := hcn.1 a2
          obtain ⟨q, q1, q2⟩ := s_frac (A := V) (B := 2 ^ (2 * S)) (by omega) hpw.2 (by omega) a3
          have e1 : X10_off (nI j) a2 a3 c = some (q, c') := by
            simp only [X10_off, nb_y cN hN hj, s_at42 hj4, cs_in _ (zc42 hj4), s_outside, s_noSuch, s_noPart, s_outsideTwo, s_first, if_neg h0, if_neg h1, if_neg h2, bd_s, vl_e, i_0, i_10, i_1, i_2, i_3, i_4, i_6, if_true, if_false, s1, s9, s5, v1, q1]
          have e2 : X11_off (nI j) a2 a3 r = some (q, r') := by
            simp only [X11_off, ij_y rN hN hj, hj_ck hj4, hjc, s_bound, s_isIn, X11_off_j22, X11_off_j42, if_neg h0, if_neg h1, if_neg h2, bd_s, vl_e, i_0, i_10, i_1, i_2, i_3, i_4, i_6, if_true, if_false, s_placeR hj4 (by omega : S < 4000) rS, t1, v1, k_all (r := r') (by rw [t2.1]; exact rS) hS.2, q2]
          exact SimE.mk' e1 e2 rfl (Inv_f I (k_PC s2 s3 s4) (fun _ _ _ => t2.PR))
theorem o_past {c r : AH} {a1 a2 a3 : Int32} (I : Inv c r) : SimE (X10_past a1 a2 a3 c) (X11_past a1 a2 a3 r) Inv := by
  obtain ⟨⟨S, G, N, T, M⟩, hW, hL, hRow, hRF, hIM⟩ := id I
  obtain ⟨R, ⟨cS, cW, cG, cN, cT⟩, cJ, cTr⟩ := id M
  obtain ⟨rS, rG, rN, rT, hS, hG, hN, hT, hWW, hJ, hH⟩ := id R
  rcases jm a1 hN with hz | ⟨j, hj, rfl⟩
  · have e1 : X10_past a1 a2 a3 c = some (4000000000000000000 - (-1 : Int32).toInt64, sI c 4 1 (c.1 4 1 + 1)) := by
      simp only [X10_past, nb_n cN hz, s_outside, s_noSuch, s_noPart, s_outsideTwo, s_first, bd_s, vl_e, i_0, i_10, i_1, i_2, i_3, i_4, i_6, if_true, if_false, rf_1]
    have e2 : X11_past a1 a2 a3 r = some (4000000000000000000 - (-1 : Int32).toInt64, sI r 1 1 (r.1 1 1 + 1)) := by
      simp only [X11_past, ij_n rN hz, s_bound, s_isIn, X11_past_j20, X11_past_j40, bd_s, vl_e, i_0, i_10, i_1, i_2, i_3, i_4, i_6, if_true, if_false, ll_1]
    exact ⟨_, _, _, e1, e2, inv_ref I (by decide)⟩
  · have hj4 : j < 4 := by omega
    have hjc : (nI j).toNatClampNeg = j := nI_clamp (by omega)
    have hJC : ∀ k, 1 ≤ k → k ≤ 8 → c.1 (48 + j) k = r.1 (k + 1) j := (cJ j hj4).1
    have hJK : JK c (48 + j) := (cJ j hj4).2
    have hpl := pl_b R hj4 hWW
    have hcn := u_count hj4 (hJ j hj4) rS hWW hS.1 hS.2 hpl.1 hpl.2
    have hpw := pw_b hS.2
    by_cases h0 : a2 < 0
    · have e1 : X10_past (nI j) a2 a3 c = some (4000000000000000000 - (-4 : Int32).toInt64, sI c 4 4 (c.1 4 4 + 1)) := by
        simp only [X10_past, nb_y cN hN hj, s_at42 hj4, cs_in _ (zc42 hj4), s_outside, s_noSuch, s_noPart, s_outsideTwo, s_first, if_pos h0, bd_s, vl_e, i_0, i_10, i_1, i_2, i_3, i_4, i_6, if_true, if_false, rf_4]
      have e2 : X11_past (nI j) a2 a3 r = some (4000000000000000000 - (-4 : Int32).toInt64, sI r 1 4 (r.1 1 4 + 1)) := by
        simp only [X11_past, ij_y rN hN hj, hj_ck hj4, hjc, s_bound, s_isIn, if_pos h0, X11_past_j20, X11_past_j40, bd_s, vl_e, i_0, i_10, i_1, i_2, i_3, i_4, i_6, if_true, if_false, ll_4]
      exact ⟨_, _, _, e1, e2, inv_ref I (by decide)⟩
    · by_cases h1 : 999 < a2
      · have e1 : X10_past (nI j) a2 a3 c = some (4000000000000000000 - (-6 : Int32).toInt64, sI c 4 6 (c.1 4 6 + 1)) := by
          simp only [X10_past, nb_y cN hN hj, s_at42 hj4, cs_in _ (zc42 hj4), s_outside, s_noSuch, s_noPart, s_outsideTwo, s_first, if_neg h0, if_pos h1, bd_s, vl_e, i_0, i_10, i_1, i_2, i_3, i_4, i_6, if_true, if_false, rf_6]
        have e2 : X11_past (nI j) a2 a3 r = some (4000000000000000000 - (-6 : Int32).toInt64, sI r 1 6 (r.1 1 6 + 1)) := by
          simp only [X11_past, ij_y rN hN hj, hj_ck hj4, hjc, s_bound, s_isIn, if_neg h0, if_pos h1, X11_past_j20, X11_past_j40, bd_s, vl_e, i_0, i_10, i_1, i_2, i_3, i_4, i_6, if_true, if_false, ll_6]
        exact ⟨_, _, _, e1, e2, inv_ref I (by decide)⟩
      · by_cases h2 : a3 < 0 ∨ 1 < a3
        · have e1 : X10_past (nI j) a2 a3 c = some (4000000000000000000 - (-2 : Int32).toInt64, sI c 4 2 (c.1 4 2 + 1)) := by
            simp only [X10_past, nb_y cN hN hj, s_at42 hj4, cs_in _ (zc42 hj4), s_outside, s_noSuch, s_noPart, s_outsideTwo, s_first, if_neg h0, if_neg h1, if_pos h2, bd_s, vl_e, i_0, i_10, i_1, i_2, i_3, i_4, i_6, if_true, if_false, rf_2]
          have e2 : X11_past (nI j) a2 a3 r = some (4000000000000000000 - (-2 : Int32).toInt64, sI r 1 2 (r.1 1 2 + 1)) := by
            simp only [X11_past, ij_y rN hN hj, hj_ck hj4, hjc, s_bound, s_isIn, if_neg h0, if_neg h1, if_pos h2, X11_past_j20, X11_past_j40, bd_s, vl_e, i_0, i_10, i_1, i_2, i_3, i_4, i_6, if_true, if_false, ll_2]
          exact ⟨_, _, _, e1, e2, inv_ref I (by decide)⟩
        · obtain ⟨x, hx, rfl⟩ := nI_of2 (M := 999) (n := 999) rfl h0 (Int32.not_lt.mp h1)
          obtain ⟨V, v1, v2⟩ := rv_3 (hJ j hj4) hWW hS.1 hS.2 hpl.1 hpl.2 x
          obtain ⟨c', s1, s2, s3, s4, s5, s6, s7, s8, s9, s10⟩ := k_now 0 M hW hj4
          obtain ⟨r', t1, t2⟩ := hcn.2.2.2 x (by omega)
          obtain ⟨q, q1, q2⟩ := s_frac (A := V) (B := 2 ^ (2 * S)) (by omega) hpw.2 (by omega) a3
          have e1 : X10_past (nI j) (nI x) a3 c = some (q, c') := by
            simp only [X10_past, nb_y cN hN hj, s_at42 hj4, cs_in _ (zc42 hj4), s_outside, s_noSuch, s_noPart, s_outsideTwo, s_first, if_neg h0, if_neg h1, if_neg h2, bd_s, vl_e, i_0, i_10, i_1, i_2, i_3, i_4, i_6, if_true, if_false, s1, s_past (by omega : x < 1000), s6, s5, v1, q1]
          have e2 : X11_past (nI j) (nI x) a3 r = some (q, r') := by
            simp only [X11_past, ij_y rN hN hj, hj_ck hj4, hjc, s_bound, s_isIn, X11_past_j20, X11_past_j40, if_neg h0, if_neg h1, if_neg h2, bd_s, vl_e, i_0, i_10, i_1, i_2, i_3, i_4, i_6, if_true, if_false, s_placeR hj4 (by omega : S < 4000) rS, t1, v1, k_all (r := r') (by rw [t2.1]; exact rS) hS.2, q2]
          exact SimE.mk' e1 e2 rfl (Inv_f I (k_PC s2 s3 s4) (fun _ _ _ => t2.PR))
theorem o_mean {c r : AH} {a1 a2 a3 : Int32} (I : Inv c r) : SimE (X10_mean a1 a2 a3 c) (X11_mean a1 a2 a3 r) Inv := by
  obtain ⟨⟨S, G, N, T, M⟩, hW, hL, hRow, hRF, hIM⟩ := id I
  obtain ⟨R, ⟨cS, cW, cG, cN, cT⟩, cJ, cTr⟩ := id M
  obtain ⟨rS, rG, rN, rT, hS, hG, hN, hT, hWW, hJ, hH⟩ := id R
  rcases jm a1 hN with hz | ⟨j, hj, rfl⟩
  · have e1 : X10_mean a1 a2 a3 c = some (4000000000000000000 - (-1 : Int32).toInt64, sI c 4 1 (c.1 4 1 + 1)) := by
      simp only [X10_mean, nb_n cN hz, s_outside, s_noSuch, s_noPart, s_outsideTwo, s_first, bd_s, vl_e, i_0, i_10, i_1, i_2, i_3, i_4, i_6, if_true, if_false, rf_1]
    have e2 : X11_mean a1 a2 a3 r = some (4000000000000000000 - (-1 : Int32).toInt64, sI r 1 1 (r.1 1 1 + 1)) := by
      simp only [X11_mean, ij_n rN hz, s_bound, s_isIn, X11_mean_j32, bd_s, vl_e, i_0, i_10, i_1, i_2, i_3, i_4, i_6, if_true, if_false, ll_1]
    exact ⟨_, _, _, e1, e2, inv_ref I (by decide)⟩
  · have hj4 : j < 4 := by omega
    have hjc : (nI j).toNatClampNeg = j := nI_clamp (by omega)
    have hJC : ∀ k, 1 ≤ k → k ≤ 8 → c.1 (48 + j) k = r.1 (k + 1) j := (cJ j hj4).1
    have hJK : JK c (48 + j) := (cJ j hj4).2
    have hpl := pl_b R hj4 hWW
    have hcn := u_count hj4 (hJ j hj4) rS hWW hS.1 hS.2 hpl.1 hpl.2
    have hpw := pw_b hS.2
    by_cases h0 : a2 < 0 ∨ 1 < a2
    · have e1 : X10_mean (nI j) a2 a3 c = some (4000000000000000000 - (-2 : Int32).toInt64, sI c 4 2 (c.1 4 2 + 1)) := by
        simp only [X10_mean, nb_y cN hN hj, s_at42 hj4, cs_in _ (zc42 hj4), s_outside, s_noSuch, s_noPart, s_outsideTwo, s_first, if_pos h0, bd_s, vl_e, i_0, i_10, i_1, i_2, i_3, i_4, i_6, if_true, if_false, rf_2]
      have e2 : X11_mean (nI j) a2 a3 r = some (4000000000000000000 - (-2 : Int32).toInt64, sI r 1 2 (r.1 1 2 + 1)) := by
        simp only [X11_mean, ij_y rN hN hj, hj_ck hj4, hjc, s_bound, s_isIn, if_pos h0, X11_mean_j32, bd_s, vl_e, i_0, i_10, i_1, i_2, i_3, i_4, i_6, if_true, if_false, ll_2]
      exact ⟨_, _, _, e1, e2, inv_ref I (by decide)⟩
    · by_cases h1 : a3 < 0 ∨ 1 < a3
      · have e1 : X10_mean (nI j) a2 a3 c = some (4000000000000000000 - (-2 : Int32).toInt64, sI c 4 2 (c.1 4 2 + 1)) := by
          simp only [X10_mean, nb_y cN hN hj, s_at42 hj4, cs_in _ (zc42 hj4), s_outside, s_noSuch, s_noPart, s_outsideTwo, s_first, if_neg h0, if_pos h1, bd_s, vl_e, i_0, i_10, i_1, i_2, i_3, i_4, i_6, if_true, if_false, rf_2]
        have e2 : X11_mean (nI j) a2 a3 r = some (4000000000000000000 - (-2 : Int32).toInt64, sI r 1 2 (r.1 1 2 + 1)) := by
          simp only [X11_mean, ij_y rN hN hj, hj_ck hj4, hjc, s_bound, s_isIn, if_neg h0, if_pos h1, X11_mean_j32, bd_s, vl_e, i_0, i_10, i_1, i_2, i_3, i_4, i_6, if_true, if_false, ll_2]
        exact ⟨_, _, _, e1, e2, inv_ref I (by decide)⟩
      · obtain ⟨c', s1, s2, s3, s4, s5, s6, s7, s8, s9, s10⟩ := k_now 0 M hW hj4
        by_cases hw0 : a2 = 0
        · obtain ⟨V, v1, v2⟩ := rv_1 (hJ j hj4) hWW hS.1 hS.2 hpl.1 hpl.2
          obtain ⟨r', t1, t2⟩ := hcn.2.1
          obtain ⟨q, q1, q2⟩ := s_frac (A := V) (B := 2 ^ (2 * S)) (by omega) hpw.2 (by omega) a3
          have e1 : X10_mean (nI j) a2 a3 c = some (q, c') := by
            simp only [X10_mean, nb_y cN hN hj, s_at42 hj4, cs_in _ (zc42 hj4), s_outside, s_noSuch, s_noPart, s_outsideTwo, s_first, if_neg h0, if_neg h1, bd_s, vl_e, i_0, i_10, i_1, i_2, i_3, i_4, i_6, if_true, if_false, s1, if_pos hw0, X10_mean_j66, s8, s5, v1, q1]
          have e2 : X11_mean (nI j) a2 a3 r = some (q, r') := by
            simp only [X11_mean, ij_y rN hN hj, hj_ck hj4, hjc, s_bound, s_isIn, X11_mean_j32, X11_mean_j63, if_neg h0, if_neg h1, bd_s, vl_e, i_0, i_10, i_1, i_2, i_3, i_4, i_6, if_true, if_false, if_pos hw0, s_placeR hj4 (by omega : S < 4000) rS, t1, v1, k_all (r := r') (by rw [t2.1]; exact rS) hS.2, q2]
          exact SimE.mk' e1 e2 rfl (Inv_f I (k_PC s2 s3 s4) (fun _ _ _ => t2.PR))
        · obtain ⟨V, v1, v2⟩ := rv_2 (hJ j hj4) hWW hS.1 hS.2 hpl.1 hpl.2
          obtain ⟨r', t1, t2⟩ := hcn.2.2.1 0
          obtain ⟨q, q1, q2⟩ := s_frac (A := V) (B := 2 ^ (2 * S)) (by omega) hpw.2 (by omega) a3
          have e1 : X10_mean (nI j) a2 a3 c = some (q, c') := by
            simp only [X10_mean, nb_y cN hN hj, s_at42 hj4, cs_in _ (zc42 hj4), s_outside, s_noSuch, s_noPart, s_outsideTwo, s_first, if_neg h0, if_neg h1, bd_s, vl_e, i_0, i_10, i_1, i_2, i_3, i_4, i_6, if_true, if_false, s1, if_neg hw0, X10_mean_j66, s_mean, s7, s5, v1, q1]
          have e2 : X11_mean (nI j) a2 a3 r = some (q, r') := by
            simp only [X11_mean, ij_y rN hN hj, hj_ck hj4, hjc, s_bound, s_isIn, X11_mean_j32, X11_mean_j63, X11_meanParts, if_neg h0, if_neg h1, bd_s, vl_e, i_0, i_10, i_1, i_2, i_3, i_4, i_6, if_true, if_false, if_neg hw0, s_placeR hj4 (by omega : S < 4000) rS, t1, v1, k_all (r := r') (by rw [t2.1]; exact rS) hS.2, q2]
          exact SimE.mk' e1 e2 rfl (Inv_f I (k_PC s2 s3 s4) (fun _ _ _ => t2.PR))
theorem o_parts {c r : AH} {a1 a2 : Int32} (I : Inv c r) : SimE (X10_parts a1 a2 c) (X11_parts a1 a2 r) Inv := by
  obtain ⟨⟨S, G, N, T, M⟩, hW, hL, hRow, hRF, hIM⟩ := id I
  obtain ⟨R, ⟨cS, cW, cG, cN, cT⟩, cJ, cTr⟩ := id M
  obtain ⟨rS, rG, rN, rT, hS, hG, hN, hT, hWW, hJ, hH⟩ := id R
  rcases jm a1 hN with hz | ⟨j, hj, rfl⟩
  · have e1 : X10_parts a1 a2 c = some (-1, sI c 4 1 (c.1 4 1 + 1)) := by
      simp only [X10_parts, nb_n cN hz, s_outside, s_noSuch, s_noPart, s_outsideTwo, s_first, bd_s, vl_e, i_0, i_10, i_1, i_2, i_3, i_4, i_6, if_true, if_false, rf_1]
    have e2 : X11_parts a1 a2 r = some (-1, sI r 1 1 (r.1 1 1 + 1)) := by
      simp only [X11_parts, ij_n rN hz, s_bound, s_isIn, X11_parts_j20, bd_s, vl_e, i_0, i_10, i_1, i_2, i_3, i_4, i_6, if_true, if_false, no_1]
    exact ⟨_, _, _, e1, e2, inv_ref I (by decide)⟩
  · have hj4 : j < 4 := by omega
    have hjc : (nI j).toNatClampNeg = j := nI_clamp (by omega)
    have hJC : ∀ k, 1 ≤ k → k ≤ 8 → c.1 (48 + j) k = r.1 (k + 1) j := (cJ j hj4).1
    have hJK : JK c (48 + j) := (cJ j hj4).2
    have hpl := pl_b R hj4 hWW
    have hcn := u_count hj4 (hJ j hj4) rS hWW hS.1 hS.2 hpl.1 hpl.2
    have hpw := pw_b hS.2
    by_cases h0 : a2 < 0
    · have e1 : X10_parts (nI j) a2 c = some (-4, sI c 4 4 (c.1 4 4 + 1)) := by
        simp only [X10_parts, nb_y cN hN hj, s_at42 hj4, cs_in _ (zc42 hj4), s_outside, s_noSuch, s_noPart, s_outsideTwo, s_first, if_pos h0, bd_s, vl_e, i_0, i_10, i_1, i_2, i_3, i_4, i_6, if_true, if_false, rf_4]
      have e2 : X11_parts (nI j) a2 r = some (-4, sI r 1 4 (r.1 1 4 + 1)) := by
        simp only [X11_parts, ij_y rN hN hj, hj_ck hj4, hjc, s_bound, s_isIn, if_pos h0, X11_parts_j20, bd_s, vl_e, i_0, i_10, i_1, i_2, i_3, i_4, i_6, if_true, if_false, no_4]
      exact ⟨_, _, _, e1, e2, inv_ref I (by decide)⟩
    · by_cases h1 : 999 < a2
      · have e1 : X10_parts (nI j) a2 c = some (-6, sI c 4 6 (c.1 4 6 + 1)) := by
          simp only [X10_parts, nb_y cN hN hj, s_at42 hj4, cs_in _ (zc42 hj4), s_outside, s_noSuch, s_noPart, s_outsideTwo, s_first, if_neg h0, if_pos h1, bd_s, vl_e, i_0, i_10, i_1, i_2, i_3, i_4, i_6, if_true, if_false, rf_6]
        have e2 : X11_parts (nI j) a2 r = some (-6, sI r 1 6 (r.1 1 6 + 1)) := by
          simp only [X11_parts, ij_y rN hN hj, hj_ck hj4, hjc, s_bound, s_isIn, if_neg h0, if_pos h1, X11_parts_j20, bd_s, vl_e, i_0, i_10, i_1, i_2, i_3, i_4, i_6, if_true, if_false, no_6]
        exact ⟨_, _, _, e1, e2, inv_ref I (by decide)⟩
      · obtain ⟨x, hx, rfl⟩ := nI_of2 (M := 999) (n := 999) rfl h0 (Int32.not_lt.mp h1)
        obtain ⟨c', s1, s2, s3, s4, s5, s6, s7, s8, s9, s10⟩ := k_now 0 M hW hj4
        obtain ⟨r', t1, t2, t3⟩ := u_lengths (p := 25) hj4 (hJ j hj4) rS hWW hS.1 hS.2 hpl.1 hpl.2 (by decide) (by decide)
        obtain ⟨y, y1, y2, y3⟩ := t3 x (by omega)
        have cx : ∀ {β : Type} (o : Option β), ck (nI x) 1000 o = o := fun o => ck_nI o (by omega) (by decide)
        have xc : (nI x).toNatClampNeg = x := nI_clamp (by omega)
        have e1 : X10_parts (nI j) (nI x) c = some (nI (sh y S), c') := by
          simp only [X10_parts, nb_y cN hN hj, s_at42 hj4, cs_in _ (zc42 hj4), s_outside, s_noSuch, s_noPart, s_outsideTwo, s_first, if_neg h0, if_neg h1, bd_s, vl_e, i_0, i_10, i_1, i_2, i_3, i_4, i_6, if_true, if_false, s1, cx, xc, s10 x (by omega), y1, s_share hS.2 y2 s5]
        have e2 : X11_parts (nI j) (nI x) r = some (nI (sh y S), r') := by
          simp only [X11_parts, ij_y rN hN hj, hj_ck hj4, hjc, s_bound, s_isIn, X11_parts_j20, if_neg h0, if_neg h1, bd_s, vl_e, i_0, i_10, i_1, i_2, i_3, i_4, i_6, if_true, if_false, s_placeR hj4 (by omega : S < 4000) rS, t1, cx, xc, y3, lN_i]
        exact SimE.mk' e1 e2 rfl (Inv_f I (k_PC s2 s3 s4) (fun _ _ _ => PR.L t2.1))
