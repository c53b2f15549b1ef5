/-! AIM -/
def lfN (s : Nat) : Nat → Nat
  | 0 => 10000
  | n + 1 => lfN s n * (10000 - s) / 10000
theorem lfN_le (s : Nat) : ∀ n, lfN s n ≤ 10000 := by
  intro n
  induction n with
  | zero => exact Nat.le_refl _
  | succ n ih =>
    show lfN s n * (10000 - s) / 10000 ≤ 10000
    have : lfN s n * (10000 - s) ≤ 10000 * 10000 := Nat.mul_le_mul ih (by omega)
    omega
theorem s_left {s n : Nat} (hs : s ≤ 10000) (hn : n ≤ 100) (h : AH) : X10_leftOf (nI s) (nI n) h = some (nI (lfN s n), h) := by
  have e1 : (10000 : Int32) - nI s = nI (10000 - s) := pk_sub (a := 10000) hs
  have key : ∀ (f v : Nat), n < v + f → v ≤ n → X10_leftOf_l6 (nI s) (nI n) f (nI (lfN s v)) (nI v) h = some (nI (lfN s n), h) := by
    intro f
    induction f with
    | zero => intro v h1 h2; omega
    | succ f ih =>
      intro v h1 h2
      rw [X10_leftOf_l6.eq_2]
      by_cases z : v = n
      · subst z
        rw [if_pos (Int32.le_refl _)]
      · have hb := lfN_le s v
        have hm : lfN s v * (10000 - s) ≤ 10000 * 10000 := Nat.mul_le_mul hb (by omega)
        have e2 : nI (lfN s v * (10000 - s)) / 10000 = nI (lfN s v * (10000 - s) / 10000) := pk_div (d := 10000) (by omega) (by omega) (by omega)
        rw [if_neg (nI_ge (by omega) (by omega)), e1, pk_mul, e2, vl_e, vl_e, nI_1]
        exact ih (v + 1) (by omega) (by omega)
  exact key FU 0 (by unfold FU; omega) (Nat.zero_le _)
section AI
variable {S G N T j : Nat} {c r : AH}
theorem s_ten (R : RN r S G N T) (hj : j < 4) {p n a : Nat} (hp : p ≤ 20) (hn : n ≤ 100) (ha : a < 1000) {rt : AH} (q : rt.1 = r.1) : ∃ w r', RV (RJ r j) (r.1 0 14) (nI p) S (p3 a) = lN w ∧ w ≤ 2 ^ (2 * S) ∧ X11_tenThousandths (nI j) (nI p) (nI n) (nI a) rt = some (nI (10000 - lfN (sh w S) n), r') ∧ r'.1 = r.1 := by
  obtain ⟨rS, rG, rN, rT, hS, hG, hN, hT, hWW, hJ, hH⟩ := id R
  have hpl : -5000 ≤ (nI p).toInt ∧ (nI p).toInt ≤ 5000 := by rw [toInt_nI (by omega)]; omega
  have hpw := pw_b hS.2
  have e14 : rt.1 0 14 = r.1 0 14 := by rw [q]
  have e12 : rt.1 0 12 = nI S := by rw [q]; exact rS
  have hRJ : ∀ k, 1 ≤ k → k ≤ 8 → RJ r j k = RJ rt j k := fun k _ _ => by unfold RJ; rw [q]
  obtain ⟨w, w1, w2⟩ := rv_3 (hJ j hj) hWW hS.1 hS.2 hpl.1 hpl.2 a
  obtain ⟨r', t1, t2⟩ := (u_count (h := rt) hj (NJ_J hRJ (hJ j hj)) e12 (by rw [e14]; exact hWW) hS.1 hS.2 hpl.1 hpl.2).2.2.2 a ha
  rw [e14, ← RV_J hRJ, w1] at t1
  have hs := sh_le w2
  have e1 : (10000 : Int64) * lN w = lN (w * 10000) := by rw [Nat.mul_comm]; exact lN_mul 10000 w
  have e2 : lN (w * 10000) / lN (2 ^ (2 * S)) = lN (sh w S) := pk_lDiv (by omega) hpw.2 (by omega)
  have e3 : (10000 : Int64) - lN (sh w S) = lN (10000 - sh w S) := lN_sub (a := 10000) hs
  have key : ∀ (f v : Nat), n < v + f → v ≤ n → X11_tenThousandths_l28 (nI n) (lN (sh w S)) f (lN (lfN (sh w S) v)) (nI v) r' = some (nI (10000 - lfN (sh w S) n), r') := by
    intro f
    induction f with
    | zero => intro v h1 h2; omega
    | succ f ih =>
      intro v h1 h2
      rw [X11_tenThousandths_l28.eq_2]
      have hb := lfN_le (sh w S) v
      by_cases z : v = n
      · subst z
        have e4 : (10000 : Int32) - nI (lfN (sh w S) v) = nI (10000 - lfN (sh w S) v) := pk_sub (a := 10000) hb
        rw [if_pos (Int32.le_refl _), lN_i, e4]
      · have hm : lfN (sh w S) v * (10000 - sh w S) ≤ 10000 * 10000 := Nat.mul_le_mul hb (by omega)
        have e5 : lN (lfN (sh w S) v * (10000 - sh w S)) / 10000 = lN (lfN (sh w S) v * (10000 - sh w S) / 10000) := pk_lDiv (b := 10000) (by omega) (by omega) (by omega)
        rw [if_neg (nI_ge (by omega) (by omega)), e3, lN_mul, e5, vl_e, vl_e, nI_1]
        exact ih (v + 1) (by omega) (by omega)
  refine ⟨w, r', w1, w2, ?_, by rw [t2.1, q]⟩
  unfold X11_tenThousandths
  rw [t1, bd_s, k_all (r := r') (by rw [t2.1]; exact e12) hS.2, bd_s, if_neg (lN_n0 hpw.2 (by omega)), e1, e2, vl_e]
  exact key FU 0 (by unfold FU; omega) (Nat.zero_le _)
theorem l_aim (M : MR 42 c r S G N T) (hW : WT c) (hj : j < 4) {n a : Nat} (hn : n ≤ 3) (ha : a < 1000) (v4 : Int32) : ∀ (f p y : Nat) (x : Int32) (ct rt : AH), 21 < p + f → p ≤ 21 → y ≤ 10001 → (p = 21 → y ≤ 10000) → PC c ct → rt.1 = r.1 →
    ∃ z c' r', X10_aim_l63 (nI j) (nI n) (nI a) v4 f x (nI y) (nI p) ct = some (z, c') ∧ X11_aim_l82 (nI j) (nI n) (nI a) v4 f x (10000 - nI y) (nI p) rt = some (z, r') ∧ PC c c' ∧ r'.1 = r.1 := by
  obtain ⟨rS, rG, rN, rT, hS, hG, hN, hT, hWW, hJ, hH⟩ := id M.1
  intro f
  induction f with
  | zero => intro p y x ct rt h1 h2; omega
  | succ f ih =>
    intro p y x ct rt h1 h2 hy hy2 pp q
    rw [X10_aim_l63.eq_2, X11_aim_l82.eq_2]
    by_cases z : p = 21
    · subst z
      rw [if_pos (show (20 : Int32) < nI 21 by decide), if_pos (show (21 : Int32) ≤ nI 21 by decide)]
      by_cases u : v4 = 0
      · rw [if_pos u, if_pos u]; exact ⟨_, _, _, rfl, rfl, pp, q⟩
      · rw [if_neg u, if_neg u]; exact ⟨_, _, _, rfl, rfl, pp, q⟩
    · have hpl : -5000 ≤ (nI p).toInt ∧ (nI p).toInt ≤ 5000 := by rw [toInt_nI (by omega)]; omega
      have Mt := pp.MR M
      obtain ⟨c', s1, s2, s3, s4, s5, s6, s7, s8, s9, s10⟩ := k_spread 0 Mt (pp.WT hW) hj hWW hS.1 hS.2 hpl.1 hpl.2
      obtain ⟨w, r', w1, w2, t1, t2⟩ := s_ten M.1 hj (p := p) (n := n) (a := a) (by omega) (by omega) ha q
      have e1 : X10_spreadAt (48 + j) (nI p) ct = some ((), c') := by
        unfold X10_spreadAt
        rw [Mt.2.1.1, Mt.2.1.2.1, s1, bd_s]
      have hs := sh_le w2
      have hl := lfN_le (sh w S) n
      rw [if_neg (show ¬ (20 : Int32) < nI p from nI_nlt (a := 20) (by omega) (by decide)), if_neg (show ¬ (21 : Int32) ≤ nI p from nI_ge (b := 21) (by omega) (by decide)), s_at42 hj, bd_s, cs_in _ (zc42 hj), e1, bd_s, s_past ha, bd_s, s6, w1, s_share hS.2 w2 s5, bd_s, s_left hs (by omega), bd_s, t1, bd_s]
      unfold X10_aim_j120 X11_aim_j118
      simp only [vl_e, nI_1]
      have p' : PC c c' := pp.tr (k_PC s2 s3 s4)
      have i1 : ((10000 : Int32) - nI y).toInt = 10000 - (y : Int) := pk_sub_toInt (a := 10000) (by omega) (by omega)
      have e2 : nI (10000 - lfN (sh w S) n) = 10000 - nI (lfN (sh w S) n) := (pk_sub (a := 10000) hl).symm
      by_cases u : y ≤ lfN (sh w S) n
      · rw [if_pos (nI_le u (by omega)), if_neg (by rw [fa_lt, i1, toInt_nI (by omega)]; omega)]
        exact ih (p + 1) y x c' r' (by omega) (by omega) hy (fun _ => by omega) p' t2
      · rw [if_neg (nI_ge (by omega) (by omega)), if_pos (by rw [fa_lt, i1, toInt_nI (by omega)]; omega), e2]
        exact ih (p + 1) _ _ c' r' (by omega) (by omega) (by omega) (fun _ => by omega) p' t2
end AI
theorem o_aim {c r : AH} {a1 a2 a3 a4 : Int32} (I : Inv c r) : SimE (X10_aim a1 a2 a3 a4 c) (X11_aim a1 a2 a3 a4 r) Inv := by
  obtain ⟨⟨S, G, N, T, M⟩, hW, hL, hRow, hRF, hIM⟩ := id I
  have hN := M.1.2.2.2.2.2.2.1
  have t0 : (0 : Int32).toInt = 0 := rfl
  have t1 : (1 : Int32).toInt = 1 := rfl
  have rfc : ∀ x : Int32, (x = -1 ∨ x = -2 ∨ x = -3 ∨ x = -4 ∨ x = -6) → ¬ x = 0 := fun x hx e => by rw [e] at hx; exact absurd hx (by decide)
  have r59 : ∀ x : Int32, (x = -1 ∨ x = -2 ∨ x = -3 ∨ x = -4 ∨ x = -6) → X11_aim_j59 a1 a2 a3 a4 x r = bd (X11_no x r) fun r7 h8 => some (r7, h8) := by
    intro x hx
    unfold X11_aim_j59
    rw [if_neg (rfc x hx)]
  unfold X10_aim X11_aim X11_aim_j21 X11_aim_j38
  rcases jm a1 hN with hz | ⟨j, hj, rfl⟩
  · rw [nb_n M.2.1.2.2.2.1 hz, ij_n M.1.2.2.1 hz, bd_s, bd_s, i_0, r59 _ (by decide)]
    simp only [s_outside, s_outsideTwo, s_noSuch, s_first, bd_s, i_1]
    exact rfs (x := -1) I (by decide)
  · have hj4 : j < 4 := by omega
    rw [nb_y M.2.1.2.2.2.1 hN hj, ij_y M.1.2.2.1 hN hj, bd_s, bd_s, i_10]
    simp only [s_outside, s_outsideTwo, s_noSuch, s_first, s_isIn, bd_s, i_0]
    by_cases h1 : a2 < 1
    · rw [if_pos h1, if_pos h1, r59 _ (by decide)]
      simp only [true_or, eq_self, if_true, i_4]
      exact rfs (x := -4) I (by decide)
    · simp only [if_neg h1]
      by_cases h2 : a3 < 0
      · rw [if_pos h2, if_neg (show ¬ 0 ≤ a3 from Int32.not_le.mpr h2), r59 _ (by decide)]
        simp only [or_true, eq_self, if_true, i_4]
        exact rfs (x := -4) I (by decide)
      · rw [if_neg h2, if_pos (show 0 ≤ a3 from Int32.not_lt.mp h2)]
        have n46 : ∀ (P Q : Prop) [Decidable P] [Decidable Q], ¬ ((if P then (-6 : Int32) else 0) = -4 ∨ (if Q then (-6 : Int32) else 0) = -4) := by
          intro P Q _ _ h
          rcases h with h | h
          · split at h <;> exact absurd h (by decide)
          · split at h <;> exact absurd h (by decide)
        rw [if_neg (n46 _ _)]
        by_cases h3 : 3 < a2
        · rw [if_pos h3, if_pos h3, r59 _ (by decide)]
          simp only [if_true, i_6]
          exact rfs (x := -6) I (by decide)
        · rw [if_neg h3, if_neg h3]
          by_cases h4 : 999 < a3
          · rw [if_pos h4, if_neg (show ¬ a3 ≤ 999 from Int32.not_le.mpr h4), r59 _ (by decide)]
            simp only [if_true, i_0, i_6]
            exact rfs (x := -6) I (by decide)
          · rw [if_neg h4, if_pos (show a3 ≤ 999 from Int32.not_lt.mp h4)]
            by_cases h5 : a4 < 0 ∨ 1 < a4
            · rw [if_pos h5, if_pos h5, i_0, r59 _ (by decide)]
              simp only [if_true, i_2]
              exact rfs (x := -2) I (by decide)
            · simp only [if_neg h5, if_true, i_0, i_10]
              obtain ⟨n, hn, rfl⟩ := nI_of2 (x := a2) (M := 3) (n := 3) rfl (by rw [fa_lt] at h1 ⊢; omega) (Int32.not_lt.mp h3)
              obtain ⟨a, ha, rfl⟩ := nI_of2 (x := a3) (M := 999) (n := 999) rfl h2 (Int32.not_lt.mp h4)
              unfold X11_aim_j59
              rw [i_0, vl_e]
              obtain ⟨z, c', r', d1, d2, d3, d4⟩ := l_aim M hW hj4 hn (a := a) (by omega) a4 FU 0 10001 0 c r (by unfold FU; omega) (by omega) (by omega) (fun h => by omega) PC.rf rfl
              exact SimE.mk' d1 d2 rfl (Inv_f I d3 (fun _ _ _ => PR.L d4))
