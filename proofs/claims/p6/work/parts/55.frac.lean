/-! fractions; shares; lengths counted by the reference -/
theorem rm_n {x y : Nat} (hx : x < 2 ^ 63) (h0 : 0 < y) (hy : y < 2 ^ 63) : rm64 (lN x) (lN y) = lN (x % y) := pk_lRem hx h0 hy
theorem lN_n0 {y : Nat} (h0 : 0 < y) (hy : y < 2 ^ 63) : lN y ≠ 0 := fun z => by
  have := (pk_lEQ (a := y) (b := 0) hy (by decide)).mp z
  omega
theorem gcd_2 {x y : Nat} (hy : 0 < y) : Nat.gcd x y = Nat.gcd y (x % y) := by
  rw [Nat.gcd_comm x y, Nat.gcd_rec y x, Nat.gcd_comm]
theorem lc_z : lcmpV (lN 0) 0 = 0 := (lc_0 (lN 0)).mpr rfl
/-- the class's loop -/
theorem s_fracL (v0 v2 : Int64) (v4 : Int32) (h : AH) : ∀ (k x y i f : Nat), x < 2 ^ 63 → y < 2 ^ k → k ≤ 62 → i + 2 * k < 1000 → 2 * k < f → X10_fraction_l9 v0 v2 v4 f (lN x) (lN y) (nI i) h = X10_fraction_j45 v0 v2 v4 (lN (Nat.gcd x y)) h := by
  intro k
  induction k with
  | zero =>
    intro x y i f hx hy hk hi hf
    obtain ⟨f, rfl⟩ : ∃ g, f = g + 1 := ⟨f - 1, by omega⟩
    have y0 : y = 0 := by omega
    subst y0
    rw [X10_fraction_l9.eq_2, if_neg (show ¬ (1000 : Int32) ≤ nI i from nI_ge (b := 1000) (by omega) (by decide)), if_pos lc_z, Nat.gcd_zero_right]
  | succ k ih =>
    intro x y i f hx hy hk hi hf
    obtain ⟨f, rfl⟩ : ∃ g, f = g + 2 := ⟨f - 2, by omega⟩
    have hp : 2 ^ (k + 1) ≤ 2 ^ 62 := Nat.pow_le_pow_right (by decide) hk
    by_cases y0 : y = 0
    · subst y0
      rw [X10_fraction_l9.eq_2, if_neg (show ¬ (1000 : Int32) ≤ nI i from nI_ge (b := 1000) (by omega) (by decide)), if_pos lc_z, Nat.gcd_zero_right]
    · have hy63 : y < 2 ^ 63 := by omega
      rw [X10_fraction_l9.eq_2, if_neg (show ¬ (1000 : Int32) ≤ nI i from nI_ge (b := 1000) (by omega) (by decide)), if_neg (fun z => lN_n0 (by omega) hy63 ((lc_0 _).mp z)), if_neg (lN_n0 (by omega) hy63), vl_e, vl_e, nI_1, rm_n hx (by omega) hy63, gcd_2 (by omega : 0 < y)]
      have hr : x % y < y := Nat.mod_lt _ (by omega)
      by_cases r0 : x % y = 0
      · rw [r0, X10_fraction_l9.eq_2, if_neg (show ¬ (1000 : Int32) ≤ nI (i + 1) from nI_ge (b := 1000) (by omega) (by decide)), if_pos lc_z, Nat.gcd_zero_right]
      · rw [X10_fraction_l9.eq_2, if_neg (show ¬ (1000 : Int32) ≤ nI (i + 1) from nI_ge (b := 1000) (by omega) (by decide)), if_neg (fun z => lN_n0 (by omega) (by omega) ((lc_0 _).mp z)), if_neg (lN_n0 (by omega) (by omega)), vl_e, vl_e, nI_1, rm_n hy63 (by omega) (by omega), gcd_2 (by omega : 0 < x % y)]
        have h2 : 2 * (y % (x % y)) < 2 ^ (k + 1) := by
          have h3 : y % (x % y) < x % y := Nat.mod_lt _ (by omega)
          have h4 := Nat.div_add_mod y (x % y)
          have h5 : 0 < y / (x % y) := Nat.div_pos (by omega) (by omega)
          have h6 : x % y ≤ (x % y) * (y / (x % y)) := Nat.le_mul_of_pos_right _ h5
          omega
        rw [Nat.pow_succ] at h2
        exact ih (x % y) (y % (x % y)) (i + 2) f (by omega) (by omega) (by omega) (by omega) (by omega)
theorem s_divL (h : AH) : ∀ (k x y f : Nat), x < 2 ^ 63 → y < 2 ^ k → k ≤ 62 → 2 * k < f → X11_divisor_l6 f (lN x) (lN y) h = some (lN (Nat.gcd x y), h) := by
  intro k
  induction k with
  | zero =>
    intro x y f hx hy hk hf
    obtain ⟨f, rfl⟩ : ∃ g, f = g + 1 := ⟨f - 1, by omega⟩
    have y0 : y = 0 := by omega
    subst y0
    rw [X11_divisor_l6.eq_2, if_pos lc_z, Nat.gcd_zero_right]
  | succ k ih =>
    intro x y f hx hy hk hf
    obtain ⟨f, rfl⟩ : ∃ g, f = g + 2 := ⟨f - 2, by omega⟩
    have hp : 2 ^ (k + 1) ≤ 2 ^ 62 := Nat.pow_le_pow_right (by decide) hk
    by_cases y0 : y = 0
    · subst y0
      rw [X11_divisor_l6.eq_2, if_pos lc_z, Nat.gcd_zero_right]
    · have hy63 : y < 2 ^ 63 := by omega
      rw [X11_divisor_l6.eq_2, if_neg (fun z => lN_n0 (by omega) hy63 ((lc_0 _).mp z)), if_neg (lN_n0 (by omega) hy63), vl_e, rm_n hx (by omega) hy63, gcd_2 (by omega : 0 < y)]
      have hr : x % y < y := Nat.mod_lt _ (by omega)
      by_cases r0 : x % y = 0
      · rw [r0, X11_divisor_l6.eq_2, if_pos lc_z, Nat.gcd_zero_right]
      · rw [X11_divisor_l6.eq_2, if_neg (fun z => lN_n0 (by omega) (by omega) ((lc_0 _).mp z)), if_neg (lN_n0 (by omega) (by omega)), vl_e, rm_n hy63 (by omega) (by omega), gcd_2 (by omega : 0 < x % y)]
        have h2 : 2 * (y % (x % y)) < 2 ^ (k + 1) := by
          have h3 : y % (x % y) < x % y := Nat.mod_lt _ (by omega)
          have h4 := Nat.div_add_mod y (x % y)
          have h5 : 0 < y / (x % y) := Nat.div_pos (by omega) (by omega)
          have h6 : x % y ≤ (x % y) * (y / (x % y)) := Nat.le_mul_of_pos_right _ h5
          omega
        rw [Nat.pow_succ] at h2
        exact ih (x % y) (y % (x % y)) f (by omega) (by omega) (by omega) (by omega)
/-- both fractions are one -/
theorem s_frac {A B : Nat} (hA : A < 2 ^ 62) (h0 : 0 < B) (hB : B < 2 ^ 62) (part : Int32) : ∃ v, (∀ h, X10_fraction (lN A) (lN B) part h = some (v, h)) ∧ ∀ h, X11_partOf (lN A) (lN B) part h = some (v, h) := by
  have hg : 0 < Nat.gcd A B := Nat.gcd_pos_of_pos_right _ h0
  have hg2 : Nat.gcd A B ≤ B := Nat.le_of_dvd h0 (Nat.gcd_dvd_right A B)
  have hgn : lN (Nat.gcd A B) ≠ 0 := lN_n0 hg (by omega)
  refine ⟨(if part = 0 then lN A else lN B) / lN (Nat.gcd A B), fun h => ?_, fun h => ?_⟩
  · have e : X10_fraction (lN A) (lN B) part h = X10_fraction_j45 (lN A) (lN B) part (lN (Nat.gcd A B)) h := s_fracL (lN A) (lN B) part h 62 A B 0 FU (by omega) hB (by decide) (by decide) (by unfold FU; omega)
    rw [e]
    unfold X10_fraction_j45 X10_fraction_j55
    split
    · rw [if_neg (fun z => hgn ((lc_0 _).mp z))]
      try rw [if_neg hgn]
    · rw [if_neg (fun z => hgn ((lc_0 _).mp z))]
      try rw [if_neg hgn]
  · have e : X11_divisor (lN A) (lN B) h = some (lN (Nat.gcd A B), h) := s_divL h 62 A B FU (by omega) hB (by decide) (by unfold FU; omega)
    unfold X11_partOf X11_partOf_j10
    split
    · rw [e, bd_s, if_neg hgn]
    · rw [e, bd_s, if_neg hgn]
/-- of ten thousand, cut -/
def sh (w S : Nat) : Nat := w * 10000 / 2 ^ (2 * S)
theorem sh_le {w S : Nat} (h : w ≤ 2 ^ (2 * S)) : sh w S ≤ 10000 := by
  unfold sh
  have h0 := Nat.two_pow_pos (2 * S)
  refine Nat.div_le_of_le_mul ?_
  rw [Nat.mul_comm w]
  exact Nat.le_trans (Nat.mul_le_mul_left _ h) (Nat.le_of_eq (Nat.mul_comm _ _))
theorem s_share {h : AH} {w S : Nat} (hS : S ≤ 20) (hw : w ≤ 2 ^ (2 * S)) (e : h.2.1 8 2 = lN (2 ^ (2 * S))) : X1_share (lN w) h = some (nI (sh w S), h) := by
  have hp := pw_b hS
  have hn : lN (2 ^ (2 * S)) ≠ 0 := lN_n0 hp.2 (by omega)
  have hl : lcmpV (lN (2 ^ (2 * S))) 0 = 1 := by
    unfold lcmpV
    rw [if_pos (show (0 : Int64) < lN (2 ^ (2 * S)) from (pk_lLT (a := 0) (by decide) (by omega)).mpr hp.2)]
  unfold X1_share
  rw [e, hl, if_pos (by decide), if_neg hn]
  have e1 : lN w * 10000 = lN (w * 10000) := lN_mul w 10000
  rw [e1, pk_lDiv (by omega) hp.2 (by omega), lN_i]
  rfl
theorem s_pow {v : AH} {w S : Nat} (hS : S ≤ 20) (hw : w ≤ 2 ^ (2 * S)) (e : v.1 0 12 = nI S) : X11_partOfWays (lN w) v = some (lN (sh w S), v) := by
  have hp := pw_b hS
  have hn : lN (2 ^ (2 * S)) ≠ 0 := lN_n0 hp.2 (by omega)
  have ea : X11_allWays v = some (lN (2 ^ (2 * S)), v) := by
    unfold X11_allWays
    rw [e, sh_all hS]
  unfold X11_partOfWays
  rw [ea, bd_s, if_neg hn, ea, bd_s, if_neg hn, ea, bd_s, if_neg hn]
  have q1 : lN w / lN (2 ^ (2 * S)) = lN (w / 2 ^ (2 * S)) := pk_lDiv (by omega) hp.2 (by omega)
  have q2 : rm64 (lN w) (lN (2 ^ (2 * S))) = lN (w % 2 ^ (2 * S)) := rm_n (by omega) hp.2 (by omega)
  have q3 : w % 2 ^ (2 * S) < 2 ^ (2 * S) := Nat.mod_lt _ hp.2
  have q4 : lN (w / 2 ^ (2 * S)) * 10000 = lN (w / 2 ^ (2 * S) * 10000) := lN_mul _ 10000
  have q5 : lN (w % 2 ^ (2 * S)) * 10000 = lN (w % 2 ^ (2 * S) * 10000) := lN_mul _ 10000
  rw [q1, q2, q4, q5, pk_lDiv (by omega) hp.2 (by omega), lN_add]
  have q6 : w * 10000 = w % 2 ^ (2 * S) * 10000 + 2 ^ (2 * S) * (w / 2 ^ (2 * S) * 10000) := by
    have := Nat.div_add_mod w (2 ^ (2 * S))
    rw [← Nat.mul_assoc, Nat.add_comm, ← Nat.add_mul, this]
  unfold sh
  rw [q6, Nat.add_mul_div_left _ _ hp.2, Nat.add_comm]
section FL
variable {p j l e : Nat} {pl : Int32}
/-- one summand for a LENGTH v -/
def fF (g : AH) (j l e : Nat) (pl : Int32) (v k : Nat) : Int64 :=
  (lN (wy e (k / 41)) * lN (wy l (k % 41))) * (if (if 0 ≤ bhR pl (g.1 6 j) (aimS (g.1 2 j) (g.1 3 j)) l (k / 41) (k % 41) then lenS (g.1 2 j) (g.1 3 j) (g.1 7 j) (g.1 0 14) (bhR pl (g.1 6 j) (aimS (g.1 2 j) (g.1 3 j)) l (k / 41) (k % 41)) (lsR pl (g.1 6 j) (aimS (g.1 2 j) (g.1 3 j)) l (k / 41)) else 0).toNatClampNeg = v then 1 else 0)
/-- the same int part, other rows of longs than p -/
theorem s_flL (hj : j < 4) (hl : l ≤ 4) (hp18 : p ≠ 18) (hp19 : p ≠ 19) {g : AH} (h18 : ∀ k, k < 41 → g.2.1 18 k = lN (wy e k)) (h19 : ∀ k, k < 41 → g.2.1 19 k = lN (wy l k))
    (hb : ∀ k, k < 1681 → lN (wy e (k / 41)) * lN (wy l (k % 41)) ≠ 0 → ∃ n, n < 1000 ∧ (if 0 ≤ bhR pl (g.1 6 j) (aimS (g.1 2 j) (g.1 3 j)) l (k / 41) (k % 41) then lenS (g.1 2 j) (g.1 3 j) (g.1 7 j) (g.1 0 14) (bhR pl (g.1 6 j) (aimS (g.1 2 j) (g.1 3 j)) l (k / 41) (k % 41)) (lsR pl (g.1 6 j) (aimS (g.1 2 j) (g.1 3 j)) l (k / 41)) else 0) = nI n) :
    ∀ (n k : Nat) (h : AH), 1681 < k + n → k ≤ 1681 → LO p g h → (∀ v, v < 1000 → h.2.1 p v = sm k (fF g j l e pl v)) →
    ∃ h', X11_findLengths_l56 p 1000 (nI j) pl (nI l) n (nI k) h = X11_findLengths_l207 p 1000 FU 0 h' ∧ LO p g h' ∧ ∀ v, v < 1000 → h'.2.1 p v = sm 1681 (fF g j l e pl v) := by
  intro n
  induction n with
  | zero => intro k h h1 h2; omega
  | succ n ih =>
    intro k h h1 h2 L A
    rw [X11_findLengths_l56.eq_2]
    by_cases c : k = 1681
    · subst c
      rw [if_pos (show (1681 : Int32) ≤ nI 1681 from Int32.le_refl _)]
      exact ⟨h, rfl, L, A⟩
    · have q1 : nI k / 41 = nI (k / 41) := pk_div (a := k) (d := 41) (by omega) (by decide) (by decide)
      have q2 : rm32 (nI k) 41 = nI (k % 41) := pk_rem (a := k) (d := 41) (by omega) (by decide) (by decide)
      rw [if_neg (show ¬ (1681 : Int32) ≤ nI k from nI_ge (b := 1681) (by omega) (by decide)), q1, q2, ck_nI _ (by omega) (by decide), ck_nI _ (by omega) (by decide), vl_e, nI_clamp (by omega), nI_clamp (by omega), L.2.2 18 (Ne.symm hp18), L.2.2 19 (Ne.symm hp19), h18 _ (by omega), h19 _ (by omega), L.1]
      by_cases d : lN (wy e (k / 41)) * lN (wy l (k % 41)) = 0
      · rw [if_pos ((lc_0 _).mpr d)]
        unfold X11_findLengths_j198
        rw [vl_e, nI_1]
        refine ih (k + 1) h (by omega) (by omega) L (fun v hv => ?_)
        rw [A v hv]
        show _ = sm k (fF g j l e pl v) + fF g j l e pl v k
        unfold fF
        rw [d, Int64.zero_mul, Int64.add_zero]
      · rw [if_neg (fun z => d ((lc_0 _).mp z)), ck_nI _ hj (by decide), vl_e, nI_clamp (by omega)]
        obtain ⟨nn, hnn, enn⟩ := hb k (by omega) d
        -- the last step, by the LENGTH
        have last : ∃ h', X11_findLengths_j192 p 1000 (nI j) pl (nI l) (nI k) (lN (wy e (k / 41)) * lN (wy l (k % 41))) (X11_findLengths_l56 p 1000 (nI j) pl (nI l) n) (nI nn) h = X11_findLengths_l207 p 1000 FU 0 h' ∧ LO p g h' ∧ ∀ v, v < 1000 → h'.2.1 p v = sm 1681 (fF g j l e pl v) := by
          unfold X11_findLengths_j192 X11_findLengths_j198
          rw [ck_nI _ hnn (by decide), ck_nI _ hnn (by decide), vl_e, vl_e, nI_1, nI_clamp (by omega)]
          refine ih (k + 1) _ (by omega) (by omega) (L.tr (LO.set h _ _)) (fun v hv => ?_)
          rw [sL_at]
          show _ = sm k (fF g j l e pl v) + fF g j l e pl v k
          unfold fF
          rw [enn, nI_clamp (by omega)]
          by_cases w : v = nn
          · subst w
            rw [if_pos ⟨rfl, rfl⟩, if_pos rfl, Int64.mul_one, A v hv]
            rfl
          · rw [if_neg (fun z => w z.2), if_neg (fun z => w z.symm), Int64.mul_zero, Int64.add_zero, A v hv]
            rfl
        have fin : ∃ h', X11_findLengths_j135 p 1000 (nI j) pl (nI l) (nI k) (lN (wy e (k / 41)) * lN (wy l (k % 41))) (bhR0 pl (g.1 6 j) (k / 41)) (X11_findLengths_l56 p 1000 (nI j) pl (nI l) n) (bkS (aimS (g.1 2 j) (g.1 3 j)) l (bhR0 pl (g.1 6 j) (k / 41))) h = X11_findLengths_l207 p 1000 FU 0 h' ∧ LO p g h' ∧ ∀ v, v < 1000 → h'.2.1 p v = sm 1681 (fF g j l e pl v) := by
          unfold X11_findLengths_j135
          rw [ck_nI _ hj (by decide), q2, nI_clamp (by omega), vl_e, L.1]
          have two : ∀ s0 : Int32, s0 = ab32 (bkS (aimS (g.1 2 j) (g.1 3 j)) l (bhR0 pl (g.1 6 j) (k / 41))) → 0 ≤ bhR pl (g.1 6 j) (aimS (g.1 2 j) (g.1 3 j)) l (k / 41) (k % 41) → ∃ h', X11_findLengths_j187 p 1000 (nI j) pl (nI l) (nI k) (lN (wy e (k / 41)) * lN (wy l (k % 41))) (X11_findLengths_l56 p 1000 (nI j) pl (nI l) n) s0 (bhR pl (g.1 6 j) (aimS (g.1 2 j) (g.1 3 j)) l (k / 41) (k % 41)) (nI j) h = X11_findLengths_l207 p 1000 FU 0 h' ∧ LO p g h' ∧ ∀ v, v < 1000 → h'.2.1 p v = sm 1681 (fF g j l e pl v) := by
            intro s0 hs0 hx
            unfold X11_findLengths_j187
            rw [if_pos hx] at enn
            rw [s_lenR hj, bd_s, L.1, hs0]
            have e2 : lenS (g.1 2 j) (g.1 3 j) (g.1 7 j) (g.1 0 14) (bhR pl (g.1 6 j) (aimS (g.1 2 j) (g.1 3 j)) l (k / 41) (k % 41)) (ab32 (bkS (aimS (g.1 2 j) (g.1 3 j)) l (bhR0 pl (g.1 6 j) (k / 41))) / 4) = nI nn := enn
            rw [e2]
            exact last
          have ea := ab_neg (bkS (aimS (g.1 2 j) (g.1 3 j)) l (bhR0 pl (g.1 6 j) (k / 41)))
          show ∃ h', (if 0 ≤ bhR pl (g.1 6 j) (aimS (g.1 2 j) (g.1 3 j)) l (k / 41) (k % 41) then _ else _) = _ ∧ _
          by_cases hx : 0 ≤ bhR pl (g.1 6 j) (aimS (g.1 2 j) (g.1 3 j)) l (k / 41) (k % 41)
          · rw [if_pos hx]
            by_cases w : 0 ≤ bkS (aimS (g.1 2 j) (g.1 3 j)) l (bhR0 pl (g.1 6 j) (k / 41))
            · rw [if_pos w]
              rw [if_pos w] at ea
              exact two _ ea hx
            · rw [if_neg w]
              rw [if_neg w] at ea
              exact two _ ea hx
          · rw [if_neg hx]
            rw [if_neg hx] at enn
            rw [← enn] at last
            exact last
        by_cases w : l = 0
        · rw [if_pos (show nI l = 0 by rw [w]; rfl)]
          have e0 : bkS (aimS (g.1 2 j) (g.1 3 j)) l (bhR0 pl (g.1 6 j) (k / 41)) = 0 := if_pos w
          rw [e0] at fin
          exact fin
        · rw [if_neg (nI_ne0 (by omega) (by omega)), s_aimR hj, bd_s, L.1]
          have e0 : bkS (aimS (g.1 2 j) (g.1 3 j)) l (bhR0 pl (g.1 6 j) (k / 41)) = (bhR0 pl (g.1 6 j) (k / 41) - aimS (g.1 2 j) (g.1 3 j)) / 2 := if_neg w
          rw [e0] at fin
          exact fin
end FL
