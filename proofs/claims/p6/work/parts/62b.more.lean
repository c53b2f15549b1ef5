/-! MORE: two rows of parts filled and counted -/
def wN (J : Nat → Int32) (wd pl : Int32) (S v : Nat) : Nat := (RV J wd pl S (pL v)).toInt.toNat
def fz (J : Nat → Int32) (wd pl : Int32) (S v : Nat) : Nat := sh (wN J wd pl S v) S
theorem wN_e {J : Nat → Int32} {wd pl : Int32} {S : Nat} (hJ : NJ J) (hw : WW wd) (h4 : 4 ≤ S) (h20 : S ≤ 20) (hp : -5000 ≤ pl.toInt) (hp2 : pl.toInt ≤ 5000) (v : Nat) : RV J wd pl S (pL v) = lN (wN J wd pl S v) ∧ wN J wd pl S v ≤ 2 ^ (2 * S) := by
  obtain ⟨V, h1, h2⟩ := rv_L hJ hw h4 h20 hp hp2 v
  have hpw := pw_b h20
  have e : wN J wd pl S v = V := by
    unfold wN
    rw [h1, pk_lT (by omega)]
    rfl
  rw [e]
  exact ⟨h1, h2⟩
theorem wN_J {J J' : Nat → Int32} (h : ∀ k, 1 ≤ k → k ≤ 8 → J k = J' k) (wd pl : Int32) (S v : Nat) : wN J wd pl S v = wN J' wd pl S v := by
  unfold wN
  rw [RV_J h]
theorem fz_J {J J' : Nat → Int32} (h : ∀ k, 1 ≤ k → k ≤ 8 → J k = J' k) (wd pl : Int32) (S v : Nat) : fz J wd pl S v = fz J' wd pl S v := by
  unfold fz
  rw [wN_J h]
section MO
variable {S G N T j : Nat} {c r : AH}
/-- the class fills a row of parts -/
theorem k_fill {q : Nat} (hq : q = 32 ∨ q = 33) {pl : Int32} (M : MR 42 c r S G N T) (hW : WT c) (hj : j < 4) (hp : -5000 ≤ pl.toInt) (hp2 : pl.toInt ≤ 5000) : ∃ c', X10_fillParts q 1000 (nI j) pl c = some ((), c') ∧ PC c c' ∧ (∀ o k, o ≠ q → c'.1 o k = c.1 o k) ∧ ∀ v, v < 1000 → fz (RJ r j) (r.1 0 14) pl S v ≤ 10000 ∧ c'.1 q v = nI (fz (RJ r j) (r.1 0 14) pl S v) := by
  have hS := M.1.2.2.2.2.1
  have hw := M.1.2.2.2.2.2.2.2.2.1
  have hJ := M.1.2.2.2.2.2.2.2.2.2.1 j hj
  obtain ⟨g, s1, s2, s3, s4, s5, s6, s7, s8, s9, s10⟩ := k_spread 0 M hW hj hw hS.1 hS.2 hp hp2
  have hv : ∀ v, v < 1000 → g.2.1 31 v = lN (wN (RJ r j) (r.1 0 14) pl S v) ∧ wN (RJ r j) (r.1 0 14) pl S v ≤ 2 ^ (2 * S) := fun v hv => by
    rw [s10 v hv]
    exact wN_e hJ hw hS.1 hS.2 hp hp2 v
  obtain ⟨c', b1, b2, b3, b4⟩ := s_fillP hS.2 hq s5 (wN (RJ r j) (r.1 0 14) pl S) hv FU 0 g (by unfold FU; omega) (Nat.zero_le _) rfl (fun _ _ _ => rfl) (fun v hv => absurd hv (by omega))
  have b1 : X10_fillParts_l34 q 1000 FU 0 g = some ((), c') := b1
  have e1 : ∀ o k, o ≠ q → c'.1 o k = c.1 o k := fun o k ho => by rw [b3 o k ho, s2]
  refine ⟨c', ?_, ⟨fun k _ => e1 0 k (by omega), fun o k h => e1 o k (by omega), fun o h => by rw [b2, s3], fun o h1 h2 => by rw [b2, s4 o (by omega) (by omega)]⟩, e1, fun v hv' => ⟨sh_le (hv v hv').2, b4 v hv'⟩⟩
  unfold X10_fillParts
  rw [s_at42 hj, bd_s, cs_in _ (zc42 hj), M.2.1.1, M.2.1.2.1, s1, bd_s, b1]
/-- the reference's two rows, and its count -/
theorem r_more {i : Nat} {A B : Int32} (R : RN r S G N T) (hi : i < 4) (hj : j < 4) (hA : -5000 ≤ A.toInt) (hA2 : A.toInt ≤ 5000) (hB : -5000 ≤ B.toInt) (hB2 : B.toInt ≤ 5000) {rt : AH} (q1 : ∀ o k, o ≠ 27 → rt.1 o k = r.1 o k) : ∃ r', X11_moreFrom (nI i) A (nI j) B rt = some (mrV (fz (RJ r i) (r.1 0 14) A S) (fz (RJ r j) (r.1 0 14) B S), r') ∧ r'.1 = rt.1 := by
  have hS := R.2.2.2.2.1
  have hw := R.2.2.2.2.2.2.2.2.1
  have hJi := R.2.2.2.2.2.2.2.2.2.1 i hi
  have hJj := R.2.2.2.2.2.2.2.2.2.1 j hj
  have e14 : rt.1 0 14 = r.1 0 14 := q1 0 14 (by decide)
  have e12 : rt.1 0 12 = nI S := by rw [q1 0 12 (by decide)]; exact R.1
  have eR : ∀ m, ∀ k, 1 ≤ k → k ≤ 8 → RJ r m k = RJ rt m k := fun m k k1 k2 => (q1 (k + 1) m (by omega)).symm
  obtain ⟨r1, a1, a2, a3⟩ := u_lengths (h := rt) (j := i) (S := S) (p := 25) (pl := A) hi (NJ_J (eR i) hJi) e12 (by rw [e14]; exact hw) hS.1 hS.2 hA hA2 (by decide) (by decide)
  have f14 : r1.1 0 14 = r.1 0 14 := by rw [a2.1]; exact e14
  have f12 : r1.1 0 12 = nI S := by rw [a2.1]; exact e12
  have eR1 : ∀ m, ∀ k, 1 ≤ k → k ≤ 8 → RJ r m k = RJ r1 m k := fun m k k1 k2 => by
    show r.1 (k + 1) m = r1.1 (k + 1) m
    rw [a2.1]
    exact (q1 (k + 1) m (by omega)).symm
  obtain ⟨r2, b1, b2, b3⟩ := u_lengths (h := r1) (j := j) (S := S) (p := 26) (pl := B) hj (NJ_J (eR1 j) hJj) f12 (by rw [f14]; exact hw) hS.1 hS.2 hB hB2 (by decide) (by decide)
  refine ⟨r2, ?_, b2.1.trans a2.1⟩
  unfold X11_moreFrom
  rw [a1, bd_s, b1, bd_s]
  have hf : ∀ v, v < 1000 → r2.2.1 25 v = lN (fz (RJ r i) (r.1 0 14) A S v) := by
    intro v hv
    obtain ⟨w, w1, w2, w3⟩ := a3 v hv
    rw [b2.2.2 25 (by decide) (by decide) (by decide), w3]
    have hz := wN_e hJi hw hS.1 hS.2 hA hA2 v
    rw [e14, ← RV_J (eR i)] at w1
    have hpw := pw_b hS.2
    have : wN (RJ r i) (r.1 0 14) A S v = w := by
      unfold wN
      rw [w1, pk_lT (by omega)]
      rfl
    unfold fz
    rw [this]
  have hg : ∀ v, v < 1000 → r2.2.1 26 v = lN (fz (RJ r j) (r.1 0 14) B S v) := by
    intro v hv
    obtain ⟨w, w1, w2, w3⟩ := b3 v hv
    rw [w3]
    rw [f14, ← RV_J (eR1 j)] at w1
    have hpw := pw_b hS.2
    have : wN (RJ r j) (r.1 0 14) B S v = w := by
      unfold wN
      rw [w1, pk_lT (by omega)]
      rfl
    unfold fz
    rw [this]
  exact s_moreR hf hg
/-- two jumpers, and not the same -/
theorem two_n {a b : Int32} (M : MR 42 c r S G N T) (h : a = b ∨ (a < 0 ∨ nI N ≤ a) ∨ (b < 0 ∨ nI N ≤ b)) : X10_nobodyOfTwo a b c = some (-1, c) ∧ X11_areTwo a b r = some (0, r) := by
  have hN := M.1.2.2.2.2.2.2.1
  unfold X10_nobodyOfTwo X11_areTwo
  by_cases z : a = b
  · subst z
    rw [if_pos rfl]
    refine ⟨rfl, ?_⟩
    rcases jm a hN with y | ⟨i, hi, rfl⟩
    · rw [ij_n M.1.2.2.1 y, bd_s, i_0, cz_0]
    · rw [ij_y M.1.2.2.1 hN hi, bd_s, i_10, ij_y M.1.2.2.1 hN hi, bd_s, i_10, if_pos rfl, cz_0]
  · rw [if_neg z]
    rcases jm a hN with y | ⟨i, hi, rfl⟩
    · rw [ij_n M.1.2.2.1 y, bd_s, i_0, cz_0, nb_n M.2.1.2.2.2.1 y, bd_s]
      refine ⟨?_, rfl⟩
      rw [s_nobody, bd_s, s_first, bd_s, i_1]
    · rw [ij_y M.1.2.2.1 hN hi, bd_s, i_10, nb_y M.2.1.2.2.2.1 hN hi, bd_s]
      rcases jm b hN with y | ⟨k, hk, rfl⟩
      · rw [ij_n M.1.2.2.1 y, bd_s, i_0, cz_0, nb_n M.2.1.2.2.2.1 y, bd_s, s_first, bd_s, i_0]
        exact ⟨rfl, rfl⟩
      · exfalso
        rcases h with h | h | h
        · exact z h
        · exact h.elim (nI_pos (by omega)) (nI_ge hi (by omega))
        · exact h.elim (nI_pos (by omega)) (nI_ge hk (by omega))
theorem two_y {i k : Nat} (M : MR 42 c r S G N T) (hi : i < N) (hk : k < N) (hik : i ≠ k) : X10_nobodyOfTwo (nI i) (nI k) c = some (0, c) ∧ X11_areTwo (nI i) (nI k) r = some (1, r) := by
  have hN := M.1.2.2.2.2.2.2.1
  unfold X10_nobodyOfTwo X11_areTwo
  have z : ¬ nI i = nI k := fun q => hik ((nI_eq (by omega) (by omega)).mp q)
  rw [if_neg z, ij_y M.1.2.2.1 hN hi, bd_s, i_10, nb_y M.2.1.2.2.2.1 hN hi, bd_s, ij_y M.1.2.2.1 hN hk, bd_s, i_10, nb_y M.2.1.2.2.2.1 hN hk, bd_s, s_first, bd_s, i_0, if_neg z, cz_1]
  exact ⟨rfl, rfl⟩
theorem two_c (M : MR 42 c r S G N T) (a b : Int32) : (a = b ∨ (a < 0 ∨ nI N ≤ a) ∨ (b < 0 ∨ nI N ≤ b)) ∨ ∃ i k, i < N ∧ k < N ∧ i ≠ k ∧ a = nI i ∧ b = nI k := by
  have hN := M.1.2.2.2.2.2.2.1
  rcases jm a hN with y | ⟨i, hi, rfl⟩
  · exact Or.inl (Or.inr (Or.inl y))
  · rcases jm b hN with y | ⟨k, hk, rfl⟩
    · exact Or.inl (Or.inr (Or.inr y))
    · by_cases z : i = k
      · exact Or.inl (Or.inl (by rw [z]))
      · exact Or.inr ⟨i, k, hi, hk, z, rfl, rfl⟩
end MO
theorem o_more {c r : AH} {a1 a2 : Int32} (I : Inv c r) : SimE (X10_more a1 a2 c) (X11_more a1 a2 r) Inv := by
  obtain ⟨⟨S, G, N, T, M⟩, hW, hL, hRow, hRF, hIM⟩ := id I
  have hN := M.1.2.2.2.2.2.2.1
  have hS := M.1.2.2.2.2.1
  have hw := M.1.2.2.2.2.2.2.2.2.1
  unfold X10_more X11_more
  rcases two_c M a1 a2 with hz | ⟨i, k, hi, hk, hik, rfl, rfl⟩
  · obtain ⟨e1, e2⟩ := two_n M hz
    rw [e1, e2, bd_s, bd_s, i_0, i_1]
    exact rfs (x := -1) I (by decide)
  · obtain ⟨e1, e2⟩ := two_y M hi hk hik
    have hi4 : i < 4 := by omega
    have hk4 : k < 4 := by omega
    rw [e1, e2, bd_s, bd_s, i_0, i_10, s_placeC hi4 (M.2.2.1 i hi4).2 (by omega : S < 4000) M.2.1.1, bd_s, pl_eq M hi4, s_placeR hi4 (by omega : S < 4000) M.1.1, bd_s, s_placeR hk4 (by omega : S < 4000) M.1.1, bd_s]
    have hA := pl_b M.1 hi4 hw
    have hB := pl_b M.1 hk4 hw
    obtain ⟨c1, f1, f2, f3, f4⟩ := k_fill (q := 32) (Or.inl rfl) M hW hi4 hA.1 hA.2
    have M1 := f2.MR M
    obtain ⟨c2, g1, g2, g3, g4⟩ := k_fill (q := 33) (Or.inr rfl) M1 (f2.WT hW) hk4 hB.1 hB.2
    obtain ⟨r', h1, h2⟩ := r_more M.1 hi4 hk4 hA.1 hA.2 hB.1 hB.2 (rt := r) (fun _ _ _ => rfl)
    rw [f1, bd_s, s_placeC hk4 (M1.2.2.1 k hk4).2 (by omega : S < 4000) M1.2.1.1, bd_s, pl_eq M1 hk4, g1, bd_s, s_moreC (fun v hv => ⟨(f4 v hv).1, by rw [g3 32 v (by decide)]; exact (f4 v hv).2⟩) g4, bd_s, h1, bd_s]
    exact SimE.mk' rfl rfl rfl (Inv_f I (f2.tr g2) (fun _ _ _ => PR.L h2))
