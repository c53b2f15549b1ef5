/-! THE START, and every call keeps it -/
theorem inv_0 {c r : AH} (hC : StC c) (hR : StR r) : Inv c r := by
  obtain ⟨c1, c2, c3, c4, c5, c6, c7, c8, c9, c10⟩ := hC
  obtain ⟨r1, r2, r3, r4, r5, r6, r7, r8, r9⟩ := hR
  have cj : ∀ i, i < 4 → ∀ k, c.1 (42 + 6 + i) k = 0 := by
    intro i hi k
    have h := c5 k
    rcases (by omega : i = 0 ∨ i = 1 ∨ i = 2 ∨ i = 3) with d | d | d | d <;> subst d
    · exact h.2.2.2.2.2.2.2.1
    · exact h.2.2.2.2.2.2.2.2.1
    · exact h.2.2.2.2.2.2.2.2.2.1
    · exact h.2.2.2.2.2.2.2.2.2.2
  have cw : ∀ i, i < 4 → c.2.2 (42 + 6 + i) = 0 := by
    intro i hi
    rcases (by omega : i = 0 ∨ i = 1 ∨ i = 2 ∨ i = 3) with d | d | d | d <;> subst d
    · exact c6
    · exact c7
    · exact c8
    · exact c9
  have rj : ∀ i k, 1 ≤ k → k ≤ 8 → RJ r i k = 0 := by
    intro i k h1 h2
    show r.1 (k + 1) i = 0
    have h := r9 i
    rcases (by omega : k = 1 ∨ k = 2 ∨ k = 3 ∨ k = 4 ∨ k = 5 ∨ k = 6 ∨ k = 7 ∨ k = 8) with d | d | d | d | d | d | d | d <;> subst d
    · exact h.2.1
    · exact h.2.2.1
    · exact h.2.2.2.1
    · exact h.2.2.2.2.1
    · exact h.2.2.2.2.2.1
    · exact h.2.2.2.2.2.2.1
    · exact h.2.2.2.2.2.2.2.1
    · exact h.2.2.2.2.2.2.2.2.1
  have c42 := c1 42 (Or.inl rfl)
  refine ⟨⟨10, 2, 0, 0, ⟨r1, r2, r4, r5, by omega, by omega, by omega, by omega, ?_, fun i hi => ?_, fun t ht => absurd ht (by omega)⟩, ⟨c42.1, c42.2.1.trans r3.symm, c42.2.2.1, c42.2.2.2.1, c42.2.2.2.2⟩, fun i hi => ⟨fun k k1 k2 => (cj i hi k).trans (rj i k k1 k2).symm, 0, by omega, cw i hi, cj i hi 1⟩, fun t ht => absurd ht (by omega)⟩, c10, ⟨0, by omega, c3, r6, fun k hk => absurd hk (by omega)⟩, ⟨0, by omega, c4, r8, fun k hk => absurd hk (by omega)⟩, fun k hk => (c5 k).2.2.1.trans (r9 k).1.symm, Or.inl ⟨c2, r7⟩⟩
  · rw [r3]
    exact ww_of (by decide) (by decide)
  · exact ⟨0, 0, 0, 0, 0, 0, 0, 0, by omega, by omega, by omega, by omega, by omega, by omega, by omega, by omega, rj i 1 (by omega) (by omega), rj i 2 (by omega) (by omega), rj i 3 (by omega) (by omega), rj i 4 (by omega) (by omega), rj i 5 (by omega) (by omega), rj i 6 (by omega) (by omega), rj i 7 (by omega) (by omega), rj i 8 (by omega) (by omega)⟩
theorem SimE.toA {α : Type} {F G : Option (α × AH)} {N : AH → AH → Prop} (h : SimE F G N) : SimA F G N := by
  obtain ⟨v, c2, r2, e1, e2, e3⟩ := h
  exact ⟨v, c2, v, r2, e1, e2, e3⟩
