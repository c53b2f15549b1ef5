/-! A STATEMENT READ on both sides -/
def fr8 (a : Nat) (r r' : AH) : Prop := (∀ o k, ¬ (o = 0 ∧ k = 22) → ¬ (o = 16 ∧ a ≤ k ∧ k < a + 8) → r'.1 o k = r.1 o k) ∧ r'.2 = r.2
theorem fr8.rf {a : Nat} {r : AH} : fr8 a r r := ⟨fun _ _ _ _ => rfl, rfl⟩
theorem fr8.tr {a : Nat} {r r' r2 : AH} (x : fr8 a r r') (y : fr8 a r' r2) : fr8 a r r2 := ⟨fun o k h1 h2 => (y.1 o k h1 h2).trans (x.1 o k h1 h2), y.2.trans x.2⟩
/-- digits read, with what is told -/
def DQ (l : Nat → Int32) (L : Nat) (r : AH) (q n a : Nat) (V : AH → Prop) (F : Option (Int32 × AH)) : Prop :=
  (∃ r', F = some (1, r') ∧ DG l L q n ∧ r'.1 0 22 = nI (q + n) ∧ V r' ∧ fr8 a r r') ∨ (∃ r' m, F = some (0, r') ∧ m < n ∧ DG l L q m ∧ ¬ gd l L (q + m) ∧ r'.1 0 22 = nI (q + m) ∧ fr8 a r r')
/-- the numbers of a jumper -/
def TJ (l : Nat → Int32) (r : AH) (a q : Nat) : Prop := r.1 16 (a + 0) = numS l (q + 0) 1 ∧ r.1 16 (a + 1) = numS l (q + 1) 1 ∧ r.1 16 (a + 2) = numS l (q + 2) 2 ∧ r.1 16 (a + 3) = numS l (q + 4) 1 ∧ r.1 16 (a + 4) = numS l (q + 5) 1 ∧ r.1 16 (a + 5) = numS l (q + 6) 2 ∧ r.1 16 (a + 6) = numS l (q + 8) 1 ∧ r.1 16 (a + 7) = numS l (q + 9) 4
section ST
variable {l : Nat → Int32} {L : Nat} {c r : AH}
theorem d_one (hL : L ≤ 96) (e : r.1 0 21 = nI L) (hl : ∀ k, k < L → r.1 13 k = l k) {q n a : Nat} (ha : a + 8 ≤ 384) (hq : q ≤ L) (hn : n ≤ 4) (e2 : r.1 0 22 = nI q) : DQ l L r q n a (fun r' => r'.1 16 a = numS l q n) (X11_readsDigits (nI a) (nI n) r) := by
  rcases s_rd hL e hl (a := a) (n := n) (by omega) hq hn e2 with ⟨r', b1, b2, b3, b4, b5, b6⟩ | ⟨r', m, b1, b2, b3, b4, b5, b6, b7⟩
  · exact Or.inl ⟨r', b1, b2, b3, b4, fun o k h1 h2 => b5 o k h1 (by omega), b6⟩
  · exact Or.inr ⟨r', m, b1, b2, b3, b4, b5, fun o k h1 h2 => b6 o k h1 (by omega), b7⟩
theorem d_jump (hL : L ≤ 96) (e : r.1 0 21 = nI L) (hl : ∀ k, k < L → r.1 13 k = l k) {q a : Nat} (ha : a + 8 ≤ 384) (hq : q ≤ L) (e2 : r.1 0 22 = nI q) : DQ l L r q 13 a (fun r' => TJ l r' a q) (X11_readsJumper (nI a) r) := by
  have hle : ∀ {p n : Nat}, q ≤ p → p ≤ q + 13 → DG l L q (p - q) → p ≤ L := by
    intro p n h1 h2 h
    by_cases z : p = q
    · omega
    · have := (h (p - q - 1) (by omega)).1
      omega
  unfold X11_readsJumper
  rcases s_rd (l := l) (r := r) hL e hl (q := q) (a := a + 0) (n := 1) (by omega) hq (by omega) e2 with ⟨r1, a1, b1, k1, v1, w1, u1⟩ | ⟨r9, m, x1, x2, x3, x4, x5, x6, x7⟩
  rotate_left
  · have x1 : X11_readsDigits (nI a) 1 r = _ := x1
    rw [x1, bd_s, i_0, cz_0]
    refine Or.inr ⟨r9, m, rfl, by omega, x3, ?_, ?_, fr8.rf.tr ⟨fun o k h1 h2 => x6 o k h1 (by omega), x7⟩⟩
    · exact x4
    · exact x5
  have a1 : X11_readsDigits (nI a) 1 r = _ := a1
  rw [a1, bd_s, i_10]
  have f1 : fr8 a r r1 := ⟨fun o k h1 h2 => w1 o k h1 (by omega), u1⟩
  have D1 : DG l L q 1 := b1
  have g1 : nI a + 1 = nI (a + 1) := nI_add a 1
  rw [g1]
  rcases s_rd (l := l) (r := r1) hL (by rw [f1.1 0 21 (by omega) (by omega)]; exact e) (fun k hk => by rw [f1.1 13 k (by omega) (by omega)]; exact hl k hk) (q := q + 1) (a := a + 1) (n := 1) (by omega) (hle (p := q + 1) (n := 0) (by omega) (by omega) (by rw [Nat.add_sub_cancel_left]; exact D1)) (by omega) k1 with ⟨r2, a2, b2, k2, v2, w2, u2⟩ | ⟨r9, m, x1, x2, x3, x4, x5, x6, x7⟩
  rotate_left
  · have x1 : X11_readsDigits (nI (a + 1)) 1 r1 = _ := x1
    rw [x1, bd_s, i_0, cz_0]
    refine Or.inr ⟨r9, 1 + m, rfl, by omega, (D1.app x3), ?_, ?_, f1.tr ⟨fun o k h1 h2 => x6 o k h1 (by omega), x7⟩⟩
    · rw [← Nat.add_assoc]; exact x4
    · rw [← Nat.add_assoc]; exact x5
  have a2 : X11_readsDigits (nI (a + 1)) 1 r1 = _ := a2
  rw [a2, bd_s, i_10]
  have f2 : fr8 a r r2 := f1.tr ⟨fun o k h1 h2 => w2 o k h1 (by omega), u2⟩
  have D2 : DG l L q 2 := D1.app b2
  have g2 : nI a + 2 = nI (a + 2) := nI_add a 2
  rw [g2]
  rcases s_rd (l := l) (r := r2) hL (by rw [f2.1 0 21 (by omega) (by omega)]; exact e) (fun k hk => by rw [f2.1 13 k (by omega) (by omega)]; exact hl k hk) (q := q + 2) (a := a + 2) (n := 2) (by omega) (hle (p := q + 2) (n := 0) (by omega) (by omega) (by rw [Nat.add_sub_cancel_left]; exact D2)) (by omega) k2 with ⟨r3, a3, b3, k3, v3, w3, u3⟩ | ⟨r9, m, x1, x2, x3, x4, x5, x6, x7⟩
  rotate_left
  · have x1 : X11_readsDigits (nI (a + 2)) 2 r2 = _ := x1
    rw [x1, bd_s, i_0, cz_0]
    refine Or.inr ⟨r9, 2 + m, rfl, by omega, (D2.app x3), ?_, ?_, f2.tr ⟨fun o k h1 h2 => x6 o k h1 (by omega), x7⟩⟩
    · rw [← Nat.add_assoc]; exact x4
    · rw [← Nat.add_assoc]; exact x5
  have a3 : X11_readsDigits (nI (a + 2)) 2 r2 = _ := a3
  rw [a3, bd_s, i_10]
  have f3 : fr8 a r r3 := f2.tr ⟨fun o k h1 h2 => w3 o k h1 (by omega), u3⟩
  have D3 : DG l L q 4 := D2.app b3
  have g3 : nI a + 3 = nI (a + 3) := nI_add a 3
  rw [g3]
  rcases s_rd (l := l) (r := r3) hL (by rw [f3.1 0 21 (by omega) (by omega)]; exact e) (fun k hk => by rw [f3.1 13 k (by omega) (by omega)]; exact hl k hk) (q := q + 4) (a := a + 3) (n := 1) (by omega) (hle (p := q + 4) (n := 0) (by omega) (by omega) (by rw [Nat.add_sub_cancel_left]; exact D3)) (by omega) k3 with ⟨r4, a4, b4, k4, v4, w4, u4⟩ | ⟨r9, m, x1, x2, x3, x4, x5, x6, x7⟩
  rotate_left
  · have x1 : X11_readsDigits (nI (a + 3)) 1 r3 = _ := x1
    rw [x1, bd_s, i_0, cz_0]
    refine Or.inr ⟨r9, 4 + m, rfl, by omega, (D3.app x3), ?_, ?_, f3.tr ⟨fun o k h1 h2 => x6 o k h1 (by omega), x7⟩⟩
    · rw [← Nat.add_assoc]; exact x4
    · rw [← Nat.add_assoc]; exact x5
  have a4 : X11_readsDigits (nI (a + 3)) 1 r3 = _ := a4
  rw [a4, bd_s, i_10]
  have f4 : fr8 a r r4 := f3.tr ⟨fun o k h1 h2 => w4 o k h1 (by omega), u4⟩
  have D4 : DG l L q 5 := D3.app b4
  have g4 : nI a + 4 = nI (a + 4) := nI_add a 4
  rw [g4]
  rcases s_rd (l := l) (r := r4) hL (by rw [f4.1 0 21 (by omega) (by omega)]; exact e) (fun k hk => by rw [f4.1 13 k (by omega) (by omega)]; exact hl k hk) (q := q + 5) (a := a + 4) (n := 1) (by omega) (hle (p := q + 5) (n := 0) (by omega) (by omega) (by rw [Nat.add_sub_cancel_left]; exact D4)) (by omega) k4 with ⟨r5, a5, b5, k5, v5, w5, u5⟩ | ⟨r9, m, x1, x2, x3, x4, x5, x6, x7⟩
  rotate_left
  · have x1 : X11_readsDigits (nI (a + 4)) 1 r4 = _ := x1
    rw [x1, bd_s, i_0, cz_0]
    refine Or.inr ⟨r9, 5 + m, rfl, by omega, (D4.app x3), ?_, ?_, f4.tr ⟨fun o k h1 h2 => x6 o k h1 (by omega), x7⟩⟩
    · rw [← Nat.add_assoc]; exact x4
    · rw [← Nat.add_assoc]; exact x5
  have a5 : X11_readsDigits (nI (a + 4)) 1 r4 = _ := a5
  rw [a5, bd_s, i_10]
  have f5 : fr8 a r r5 := f4.tr ⟨fun o k h1 h2 => w5 o k h1 (by omega), u5⟩
  have D5 : DG l L q 6 := D4.app b5
  have g5 : nI a + 5 = nI (a + 5) := nI_add a 5
  rw [g5]
  rcases s_rd (l := l) (r := r5) hL (by rw [f5.1 0 21 (by omega) (by omega)]; exact e) (fun k hk => by rw [f5.1 13 k (by omega) (by omega)]; exact hl k hk) (q := q + 6) (a := a + 5) (n := 2) (by omega) (hle (p := q + 6) (n := 0) (by omega) (by omega) (by rw [Nat.add_sub_cancel_left]; exact D5)) (by omega) k5 with ⟨r6, a6, b6, k6, v6, w6, u6⟩ | ⟨r9, m, x1, x2, x3, x4, x5, x6, x7⟩
  rotate_left
  · have x1 : X11_readsDigits (nI (a + 5)) 2 r5 = _ := x1
    rw [x1, bd_s, i_0, cz_0]
    refine Or.inr ⟨r9, 6 + m, rfl, by omega, (D5.app x3), ?_, ?_, f5.tr ⟨fun o k h1 h2 => x6 o k h1 (by omega), x7⟩⟩
    · rw [← Nat.add_assoc]; exact x4
    · rw [← Nat.add_assoc]; exact x5
  have a6 : X11_readsDigits (nI (a + 5)) 2 r5 = _ := a6
  rw [a6, bd_s, i_10]
  have f6 : fr8 a r r6 := f5.tr ⟨fun o k h1 h2 => w6 o k h1 (by omega), u6⟩
  have D6 : DG l L q 8 := D5.app b6
  have g6 : nI a + 6 = nI (a + 6) := nI_add a 6
  rw [g6]
  rcases s_rd (l := l) (r := r6) hL (by rw [f6.1 0 21 (by omega) (by omega)]; exact e) (fun k hk => by rw [f6.1 13 k (by omega) (by omega)]; exact hl k hk) (q := q + 8) (a := a + 6) (n := 1) (by omega) (hle (p := q + 8) (n := 0) (by omega) (by omega) (by rw [Nat.add_sub_cancel_left]; exact D6)) (by omega) k6 with ⟨r7, a7, b7, k7, v7, w7, u7⟩ | ⟨r9, m, x1, x2, x3, x4, x5, x6, x7⟩
  rotate_left
  · have x1 : X11_readsDigits (nI (a + 6)) 1 r6 = _ := x1
    rw [x1, bd_s, i_0, cz_0]
    refine Or.inr ⟨r9, 8 + m, rfl, by omega, (D6.app x3), ?_, ?_, f6.tr ⟨fun o k h1 h2 => x6 o k h1 (by omega), x7⟩⟩
    · rw [← Nat.add_assoc]; exact x4
    · rw [← Nat.add_assoc]; exact x5
  have a7 : X11_readsDigits (nI (a + 6)) 1 r6 = _ := a7
  rw [a7, bd_s, i_10]
  have f7 : fr8 a r r7 := f6.tr ⟨fun o k h1 h2 => w7 o k h1 (by omega), u7⟩
  have D7 : DG l L q 9 := D6.app b7
  have g7 : nI a + 7 = nI (a + 7) := nI_add a 7
  rw [g7]
  rcases s_rd (l := l) (r := r7) hL (by rw [f7.1 0 21 (by omega) (by omega)]; exact e) (fun k hk => by rw [f7.1 13 k (by omega) (by omega)]; exact hl k hk) (q := q + 9) (a := a + 7) (n := 4) (by omega) (hle (p := q + 9) (n := 0) (by omega) (by omega) (by rw [Nat.add_sub_cancel_left]; exact D7)) (by omega) k7 with ⟨r8, a8, b8, k8, v8, w8, u8⟩ | ⟨r9, m, x1, x2, x3, x4, x5, x6, x7⟩
  rotate_left
  · have x1 : X11_readsDigits (nI (a + 7)) 4 r7 = _ := x1
    rw [x1, bd_s, i_0, cz_0]
    refine Or.inr ⟨r9, 9 + m, rfl, by omega, (D7.app x3), ?_, ?_, f7.tr ⟨fun o k h1 h2 => x6 o k h1 (by omega), x7⟩⟩
    · rw [← Nat.add_assoc]; exact x4
    · rw [← Nat.add_assoc]; exact x5
  have a8 : X11_readsDigits (nI (a + 7)) 4 r7 = _ := a8
  rw [a8, bd_s, i_10]
  have f8 : fr8 a r r8 := f7.tr ⟨fun o k h1 h2 => w8 o k h1 (by omega), u8⟩
  have D8 : DG l L q 13 := D7.app b8
  rw [cz_1]
  refine Or.inl ⟨r8, rfl, D8, k8, ⟨?_, ?_, ?_, ?_, ?_, ?_, ?_, ?_⟩, f8⟩
  · rw [w8 16 (a + 0) (by omega) (by omega), w7 16 (a + 0) (by omega) (by omega), w6 16 (a + 0) (by omega) (by omega), w5 16 (a + 0) (by omega) (by omega), w4 16 (a + 0) (by omega) (by omega), w3 16 (a + 0) (by omega) (by omega), w2 16 (a + 0) (by omega) (by omega)]; exact v1
  · rw [w8 16 (a + 1) (by omega) (by omega), w7 16 (a + 1) (by omega) (by omega), w6 16 (a + 1) (by omega) (by omega), w5 16 (a + 1) (by omega) (by omega), w4 16 (a + 1) (by omega) (by omega), w3 16 (a + 1) (by omega) (by omega)]; exact v2
  · rw [w8 16 (a + 2) (by omega) (by omega), w7 16 (a + 2) (by omega) (by omega), w6 16 (a + 2) (by omega) (by omega), w5 16 (a + 2) (by omega) (by omega), w4 16 (a + 2) (by omega) (by omega)]; exact v3
  · rw [w8 16 (a + 3) (by omega) (by omega), w7 16 (a + 3) (by omega) (by omega), w6 16 (a + 3) (by omega) (by omega), w5 16 (a + 3) (by omega) (by omega)]; exact v4
  · rw [w8 16 (a + 4) (by omega) (by omega), w7 16 (a + 4) (by omega) (by omega), w6 16 (a + 4) (by omega) (by omega)]; exact v5
  · rw [w8 16 (a + 5) (by omega) (by omega), w7 16 (a + 5) (by omega) (by omega)]; exact v6
  · rw [w8 16 (a + 6) (by omega) (by omega)]; exact v7
  · exact v8
end ST
