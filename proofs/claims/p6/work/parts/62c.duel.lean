/-! DUEL -/
theorem RV_add (J : Nat → Int32) (wd pl : Int32) (S : Nat) (φ ψ : Int32 → Int32 → Int64) : RV J wd pl S (fun x n => φ x n + ψ x n) = RV J wd pl S φ + RV J wd pl S ψ := by
  unfold RV RS
  rw [← sm_plus]
  refine sm_c (fun i _ => ?_)
  rw [← sm_plus]
  refine sm_c (fun t _ => ?_)
  rw [Int64.mul_add]
def pU (m : Nat) (_ n : Int32) : Int64 := if n.toNatClampNeg < m then 1 else 0
theorem pU_s (m : Nat) : pU (m + 1) = fun x n => pU m x n + pL m x n := by
  funext x n
  unfold pU pL
  by_cases a : n.toNatClampNeg < m
  · rw [if_pos (by omega), if_pos a, if_neg (by omega)]
    rfl
  · by_cases b : n.toNatClampNeg = m
    · rw [if_pos (by omega), if_neg a, if_pos b]
      rfl
    · rw [if_neg (by omega), if_neg a, if_neg b]
      rfl
section WS
variable {J : Nat → Int32} {wd pl : Int32} {S : Nat}
theorem rv_U (hJ : NJ J) (hw : WW wd) (h4 : 4 ≤ S) (h20 : S ≤ 20) (hp : -5000 ≤ pl.toInt) (hp2 : pl.toInt ≤ 5000) : ∀ m, RV J wd pl S (pU m) = lN (nsm m (wN J wd pl S)) := by
  intro m
  induction m with
  | zero =>
    unfold RV RS
    refine sm_z (fun i _ => sm_z (fun t _ => ?_))
    unfold pU
    rw [if_neg (by omega), Int64.mul_zero]
  | succ m ih =>
    rw [pU_s, RV_add, ih, (wN_e hJ hw h4 h20 hp hp2 m).1, lN_add]
    rfl
theorem nsm_b {f : Nat → Nat} {C : Nat} : ∀ m, (∀ k, k < m → f k ≤ C) → nsm m f ≤ m * C := by
  intro m
  induction m with
  | zero => intro _; exact Nat.zero_le _
  | succ m ih =>
    intro h
    show nsm m f + f m ≤ _
    have a := ih (fun k hk => h k (by omega))
    have b := h m (by omega)
    rw [Nat.succ_mul]
    omega
theorem wN_all (hJ : NJ J) (hw : WW wd) (h4 : 4 ≤ S) (h20 : S ≤ 20) (hp : -5000 ≤ pl.toInt) (hp2 : pl.toInt ≤ 5000) : nsm 1000 (wN J wd pl S) ≤ 2 ^ (2 * S) := by
  have hpw := pw_b h20
  obtain ⟨V, h1, h2⟩ := rv_n (M := 1) (φ := pU 1000) hJ hw h4 h20 hp hp2 (fun x n _ => if_n _)
  have hb := nsm_b (f := wN J wd pl S) (C := 2 ^ 40) 1000 (fun k _ => Nat.le_trans (wN_e hJ hw h4 h20 hp hp2 k).2 hpw.1)
  rw [rv_U hJ hw h4 h20 hp hp2] at h1
  have := (pk_lEQ (by omega) (by omega)).mp h1
  omega
theorem sh_sum (w : Nat → Nat) (S : Nat) : ∀ m, nsm m (fun v => sh (w v) S) * 2 ^ (2 * S) ≤ nsm m w * 10000 := by
  intro m
  induction m with
  | zero => show 0 * _ ≤ 0 * _; omega
  | succ m ih =>
    show (nsm m (fun v => sh (w v) S) + sh (w m) S) * 2 ^ (2 * S) ≤ (nsm m w + w m) * 10000
    have : sh (w m) S * 2 ^ (2 * S) ≤ w m * 10000 := Nat.div_mul_le_self _ _
    rw [Nat.add_mul, Nat.add_mul]
    omega
theorem fz_all (hJ : NJ J) (hw : WW wd) (h4 : 4 ≤ S) (h20 : S ≤ 20) (hp : -5000 ≤ pl.toInt) (hp2 : pl.toInt ≤ 5000) : nsm 1000 (fz J wd pl S) ≤ 10000 := by
  have hpw := pw_b h20
  have a := sh_sum (wN J wd pl S) S 1000
  have b := wN_all hJ hw h4 h20 hp hp2
  have e : (fun v => sh (wN J wd pl S v) S) = fz J wd pl S := rfl
  rw [e] at a
  have d : nsm 1000 (fz J wd pl S) * 2 ^ (2 * S) ≤ 10000 * 2 ^ (2 * S) := by
    rw [Nat.mul_comm 10000]
    exact Nat.le_trans a (Nat.mul_le_mul_right _ b)
  exact Nat.le_of_mul_le_mul_right d hpw.2
theorem mrV_b {f g : Nat → Nat} (hf : nsm 1000 f ≤ 10000) (hg : nsm 1000 g ≤ 10000) : ∃ x, x ≤ 10000 ∧ mrV f g = nI x := by
  have key : ∀ v, ∃ y, y ≤ nsm v f * nsm v g ∧ (mrS f g v).1 = lN y ∧ (mrS f g v).2 = lN (nsm v g) := by
    intro v
    induction v with
    | zero => exact ⟨0, Nat.zero_le _, rfl, rfl⟩
    | succ v ih =>
      obtain ⟨y, y1, y2, y3⟩ := ih
      refine ⟨y + f v * nsm v g, ?_, ?_, ?_⟩
      · show _ ≤ (nsm v f + f v) * (nsm v g + g v)
        have : (nsm v f + f v) * nsm v g ≤ (nsm v f + f v) * (nsm v g + g v) := Nat.mul_le_mul_left _ (Nat.le_add_right _ _)
        rw [Nat.add_mul] at this
        omega
      · show (mrS f g v).1 + lN (f v) * (mrS f g v).2 = _
        rw [y2, y3, lN_mul, lN_add]
      · show (mrS f g v).2 + lN (g v) = _
        rw [y3, lN_add]
        rfl
  obtain ⟨y, y1, y2, _⟩ := key 1000
  have hb : y ≤ 10000 * 10000 := Nat.le_trans y1 (Nat.mul_le_mul hf hg)
  refine ⟨y / 10000, by omega, ?_⟩
  unfold mrV
  have e : lN y / 10000 = lN (y / 10000) := pk_lDiv (a := y) (b := 10000) (by omega) (by omega) (by omega)
  rw [y2, e, lN_i]
end WS
