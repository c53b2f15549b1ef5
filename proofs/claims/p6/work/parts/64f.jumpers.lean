/-! A JUMPER COMES -/
def CJ (v : Nat → Int32) (N T : Nat) : Prop := ¬ 5 < v 0 ∧ ¬ v 2 < 40 ∧ ¬ 6 < v 4 ∧ ¬ v 5 < 20 ∧ ¬ 4 < v 6 ∧ ¬ 2400 < v 7 ∧ N < 4 ∧ T = 0
def jR (r : AH) (N : Nat) (v : Nat → Int32) : AH := sI (sI (sI (sI (sI (sI (sI (sI (sI r 2 N (v 0)) 3 N (v 1)) 4 N (v 2)) 5 N (v 3)) 6 N (v 4)) 7 N (v 5)) 8 N (v 6)) 9 N (v 7)) 0 15 (nI (N + 1))
def jC (c : AH) (o N κ : Nat) (v : Nat → Int32) : AH := sI (sI (sI (sI (sI (sI (sI (sI (sI (sK c o κ) o 1 (v 0)) o 2 (v 1)) o 3 (v 2)) o 4 (v 3)) o 5 (v 4)) o 6 (v 5)) o 7 (v 6)) o 8 (v 7)) 52 3 (nI (N + 1))
section JU
variable {S G N T : Nat} {c r : AH}
theorem jR_at (v : Nat → Int32) (o k : Nat) : (jR r N v).1 o k = if o = 0 ∧ k = 15 then nI (N + 1) else if o = 9 ∧ k = N then v 7 else if o = 8 ∧ k = N then v 6 else if o = 7 ∧ k = N then v 5 else if o = 6 ∧ k = N then v 4 else if o = 5 ∧ k = N then v 3 else if o = 4 ∧ k = N then v 2 else if o = 3 ∧ k = N then v 1 else if o = 2 ∧ k = N then v 0 else r.1 o k := rfl
theorem jC_at (p κ : Nat) (v : Nat → Int32) (o k : Nat) : (jC c p N κ v).1 o k = if o = 52 ∧ k = 3 then nI (N + 1) else if o = p ∧ k = 8 then v 7 else if o = p ∧ k = 7 then v 6 else if o = p ∧ k = 6 then v 5 else if o = p ∧ k = 5 then v 4 else if o = p ∧ k = 4 then v 3 else if o = p ∧ k = 3 then v 2 else if o = p ∧ k = 2 then v 1 else if o = p ∧ k = 1 then v 0 else c.1 o k := rfl
theorem s_cjR (rN : r.1 0 15 = nI N) (rT : r.1 0 16 = nI T) (hN : N ≤ 4) (hT : T ≤ 24) {a : Nat} (ha : a + 8 ≤ 384) {v : Nat → Int32} (hv : ∀ i, i < 8 → r.1 16 (a + i) = v i) : (CJ v N T ∧ X11_comesJumper (nI a) r = some (1, jR r N v)) ∨ (¬ CJ v N T ∧ X11_comesJumper (nI a) r = some (0, r)) := by
  have v0 : r.1 16 a = v 0 := hv 0 (by omega)
  have g : ∀ i : Nat, nI a + nI i = nI (a + i) := fun i => nI_add a i
  have g1 : nI a + 1 = nI (a + 1) := g 1
  have g2 : nI a + 2 = nI (a + 2) := g 2
  have g3 : nI a + 3 = nI (a + 3) := g 3
  have g4 : nI a + 4 = nI (a + 4) := g 4
  have g5 : nI a + 5 = nI (a + 5) := g 5
  have g6 : nI a + 6 = nI (a + 6) := g 6
  have g7 : nI a + 7 = nI (a + 7) := g 7
  unfold X11_comesJumper
  simp only [g1, g2, g3, g4, g5, g6, g7, ck_nI _ (show a < 384 by omega) (show 384 < 2 ^ 31 by decide), ck_nI _ (show a + 1 < 384 by omega) (show 384 < 2 ^ 31 by decide), ck_nI _ (show a + 2 < 384 by omega) (show 384 < 2 ^ 31 by decide), ck_nI _ (show a + 3 < 384 by omega) (show 384 < 2 ^ 31 by decide), ck_nI _ (show a + 4 < 384 by omega) (show 384 < 2 ^ 31 by decide), ck_nI _ (show a + 5 < 384 by omega) (show 384 < 2 ^ 31 by decide), ck_nI _ (show a + 6 < 384 by omega) (show 384 < 2 ^ 31 by decide), ck_nI _ (show a + 7 < 384 by omega) (show 384 < 2 ^ 31 by decide), nI_clamp (show a < 2 ^ 31 by omega), nI_clamp (show a + 1 < 2 ^ 31 by omega), nI_clamp (show a + 2 < 2 ^ 31 by omega), nI_clamp (show a + 3 < 2 ^ 31 by omega), nI_clamp (show a + 4 < 2 ^ 31 by omega), nI_clamp (show a + 5 < 2 ^ 31 by omega), nI_clamp (show a + 6 < 2 ^ 31 by omega), nI_clamp (show a + 7 < 2 ^ 31 by omega), v0, hv 2 (by omega), hv 4 (by omega), hv 5 (by omega), hv 6 (by omega), hv 7 (by omega), rN, rT, cz_0]
  by_cases h0 : 5 < v 0
  · rw [if_pos h0]; exact Or.inr ⟨fun h => h.1 h0, rfl⟩
  rw [if_neg h0]
  by_cases h2 : v 2 < 40
  · rw [if_pos h2]; exact Or.inr ⟨fun h => h.2.1 h2, rfl⟩
  rw [if_neg h2]
  by_cases h4 : 6 < v 4
  · rw [if_pos h4]; exact Or.inr ⟨fun h => h.2.2.1 h4, rfl⟩
  rw [if_neg h4]
  by_cases h5 : v 5 < 20
  · rw [if_pos h5]; exact Or.inr ⟨fun h => h.2.2.2.1 h5, rfl⟩
  rw [if_neg h5]
  by_cases h6 : 4 < v 6
  · rw [if_pos h6]; exact Or.inr ⟨fun h => h.2.2.2.2.1 h6, rfl⟩
  rw [if_neg h6]
  by_cases h7 : 2400 < v 7
  · rw [if_pos h7]; exact Or.inr ⟨fun h => h.2.2.2.2.2.1 h7, rfl⟩
  rw [if_neg h7]
  by_cases h8 : N = 4
  · rw [if_pos (by rw [h8]; rfl)]; exact Or.inr ⟨fun h => by have := h.2.2.2.2.2.2.1; omega, rfl⟩
  rw [if_neg (show ¬ nI N = 4 from fun h => h8 ((nI_eq (b := 4) (by omega) (by decide)).mp h))]
  by_cases h9 : T = 0
  · rw [if_pos (show nI T ≤ 0 by rw [h9]; decide)]
    refine Or.inl ⟨⟨h0, h2, h4, h5, h6, h7, by omega, h9⟩, ?_⟩
    have hN4 : N < 4 := by omega

    have n1 : (sI r 2 N (v 0)).1 0 15 = nI N := by rw [sI_n (by omega)]; exact rN
    have w1 : (sI r 2 N (v 0)).1 16 (a + 1) = v 1 := by rw [sI_n (by omega)]; exact hv 1 (by omega)
    have n2 : (sI (sI r 2 N (v 0)) 3 N (v 1)).1 0 15 = nI N := by rw [sI_n (by omega), sI_n (by omega)]; exact rN
    have w2 : (sI (sI r 2 N (v 0)) 3 N (v 1)).1 16 (a + 2) = v 2 := by rw [sI_n (by omega), sI_n (by omega)]; exact hv 2 (by omega)
    have n3 : (sI (sI (sI r 2 N (v 0)) 3 N (v 1)) 4 N (v 2)).1 0 15 = nI N := by rw [sI_n (by omega), sI_n (by omega), sI_n (by omega)]; exact rN
    have w3 : (sI (sI (sI r 2 N (v 0)) 3 N (v 1)) 4 N (v 2)).1 16 (a + 3) = v 3 := by rw [sI_n (by omega), sI_n (by omega), sI_n (by omega)]; exact hv 3 (by omega)
    have n4 : (sI (sI (sI (sI r 2 N (v 0)) 3 N (v 1)) 4 N (v 2)) 5 N (v 3)).1 0 15 = nI N := by rw [sI_n (by omega), sI_n (by omega), sI_n (by omega), sI_n (by omega)]; exact rN
    have w4 : (sI (sI (sI (sI r 2 N (v 0)) 3 N (v 1)) 4 N (v 2)) 5 N (v 3)).1 16 (a + 4) = v 4 := by rw [sI_n (by omega), sI_n (by omega), sI_n (by omega), sI_n (by omega)]; exact hv 4 (by omega)
    have n5 : (sI (sI (sI (sI (sI r 2 N (v 0)) 3 N (v 1)) 4 N (v 2)) 5 N (v 3)) 6 N (v 4)).1 0 15 = nI N := by rw [sI_n (by omega), sI_n (by omega), sI_n (by omega), sI_n (by omega), sI_n (by omega)]; exact rN
    have w5 : (sI (sI (sI (sI (sI r 2 N (v 0)) 3 N (v 1)) 4 N (v 2)) 5 N (v 3)) 6 N (v 4)).1 16 (a + 5) = v 5 := by rw [sI_n (by omega), sI_n (by omega), sI_n (by omega), sI_n (by omega), sI_n (by omega)]; exact hv 5 (by omega)
    have n6 : (sI (sI (sI (sI (sI (sI r 2 N (v 0)) 3 N (v 1)) 4 N (v 2)) 5 N (v 3)) 6 N (v 4)) 7 N (v 5)).1 0 15 = nI N := by rw [sI_n (by omega), sI_n (by omega), sI_n (by omega), sI_n (by omega), sI_n (by omega), sI_n (by omega)]; exact rN
    have w6 : (sI (sI (sI (sI (sI (sI r 2 N (v 0)) 3 N (v 1)) 4 N (v 2)) 5 N (v 3)) 6 N (v 4)) 7 N (v 5)).1 16 (a + 6) = v 6 := by rw [sI_n (by omega), sI_n (by omega), sI_n (by omega), sI_n (by omega), sI_n (by omega), sI_n (by omega)]; exact hv 6 (by omega)
    have n7 : (sI (sI (sI (sI (sI (sI (sI r 2 N (v 0)) 3 N (v 1)) 4 N (v 2)) 5 N (v 3)) 6 N (v 4)) 7 N (v 5)) 8 N (v 6)).1 0 15 = nI N := by rw [sI_n (by omega), sI_n (by omega), sI_n (by omega), sI_n (by omega), sI_n (by omega), sI_n (by omega), sI_n (by omega)]; exact rN
    have w7 : (sI (sI (sI (sI (sI (sI (sI r 2 N (v 0)) 3 N (v 1)) 4 N (v 2)) 5 N (v 3)) 6 N (v 4)) 7 N (v 5)) 8 N (v 6)).1 16 (a + 7) = v 7 := by rw [sI_n (by omega), sI_n (by omega), sI_n (by omega), sI_n (by omega), sI_n (by omega), sI_n (by omega), sI_n (by omega)]; exact hv 7 (by omega)
    have n8 : (sI (sI (sI (sI (sI (sI (sI (sI r 2 N (v 0)) 3 N (v 1)) 4 N (v 2)) 5 N (v 3)) 6 N (v 4)) 7 N (v 5)) 8 N (v 6)) 9 N (v 7)).1 0 15 = nI N := by rw [sI_n (by omega), sI_n (by omega), sI_n (by omega), sI_n (by omega), sI_n (by omega), sI_n (by omega), sI_n (by omega), sI_n (by omega)]; exact rN
    simp only [vl_e, ck_nI _ hN4 (show 4 < 2 ^ 31 by decide), nI_clamp (show N < 2 ^ 31 by omega), n1, n2, n3, n4, n5, n6, n7, n8, w1, w2, w3, w4, w5, w6, w7, nI_1, cz_1]
    rfl
  · rw [if_neg (nI_nle (by omega) (by omega))]
    exact Or.inr ⟨fun h => h9 h.2.2.2.2.2.2.2, rfl⟩
theorem s_cjC {l : Nat → Int32} {L : Nat} (hL : L ≤ 96) (e : c.1 0 6 = nI L) (hl : ∀ k, k < L → c.1 2 k = l k) (cN : c.1 52 3 = nI N) (cT : c.1 52 4 = nI T) (hN : N ≤ 4) (hT : T ≤ 24) {q : Nat} (hq : q + 14 ≤ L) {v : Nat → Int32} (h0 : numS l (q + 1) 1 = v 0) (h1 : numS l (q + 2) 1 = v 1) (h2 : numS l (q + 3) 2 = v 2) (h3 : numS l (q + 5) 1 = v 3) (h4 : numS l (q + 6) 1 = v 4) (h5 : numS l (q + 7) 2 = v 5) (h6 : numS l (q + 9) 1 = v 6) (h7 : numS l (q + 10) 4 = v 7) {κ : Nat} (hκ : κ < 10) (hk : v 0 = nI κ) :
    (CJ v N T ∧ X10_jumperComes (nI q) c = some (1, jC c (58 + N) N κ v)) ∨ (¬ CJ v N T ∧ ∃ c', X10_jumperComes (nI q) c = some (0, c') ∧ JC c c') := by
  have nm : ∀ (h : AH) (k n : Nat), h.1 0 6 = c.1 0 6 → (∀ i, h.1 2 i = c.1 2 i) → q + k + n ≤ L → X10_number (nI (q + k)) (nI n) h = some (numS l (q + k) n, h) := fun h k n a1 a2 a3 => s_numC hL (by rw [a1]; exact e) (fun i hi => by rw [a2 i]; exact hl i hi) a3
  have g : ∀ i : Nat, nI q + nI i = nI (q + i) := fun i => nI_add q i
  have g1 : nI q + 1 = nI (q + 1) := g 1
  have g2 : nI q + 2 = nI (q + 2) := g 2
  have g3 : nI q + 3 = nI (q + 3) := g 3
  have g5 : nI q + 5 = nI (q + 5) := g 5
  have g6 : nI q + 6 = nI (q + 6) := g 6
  have g7 : nI q + 7 = nI (q + 7) := g 7
  have g9 : nI q + 9 = nI (q + 9) := g 9
  have g10 : nI q + 10 = nI (q + 10) := g 10
  unfold X10_jumperComes
  have x0 : X10_number (nI (q + 1)) 1 c = some (v 0, c) := by rw [← h0]; exact nm c 1 1 rfl (fun _ => rfl) (by omega)
  rw [g1, x0, bd_s, cT, cN]
  by_cases z : T = 0
  · rw [if_neg (show ¬ 0 < nI T by rw [z]; decide)]
    by_cases zN : N < 4
    · rw [if_neg (show ¬ (4 : Int32) ≤ nI N from nI_ge (b := 4) zN (by decide)), s_outside, bd_s, hk, if_neg (nI_pos (by omega))]
      by_cases zk : 5 < nI κ
      · rw [if_pos zk, i_6, cz_0]
        exact Or.inr ⟨fun h => h.1 (by rw [hk]; exact zk), c, rfl, JC.rf⟩
      · rw [if_neg zk, i_0, cN, s_at 52 zN, bd_s, cs_in _ (zc_j (o := 52) (Or.inr (Or.inl rfl)) zN)]
        have hκ6 : κ < 6 := by
          rw [fa_lt, toInt_nI (by omega)] at zk
          have t5 : (5 : Int32).toInt = 5 := rfl
          omega
        rw [ck_nI _ hκ6 (by decide), nI_clamp (by omega), ← hk]
        obtain ⟨p, hp⟩ : ∃ p, p = 52 + 6 + N := ⟨_, rfl⟩
        have hp2 : 58 ≤ p ∧ p < 62 := by omega
        rw [← hp]
        have y1 : X10_number (nI (q + 2)) 1 (sI (sK c p κ) p 1 (v 0)) = some (v 1, (sI (sK c p κ) p 1 (v 0))) := by rw [← h1]; exact nm _ 2 1 (by rw [sI_n (by omega)]; rfl) (fun _ => by rw [sI_n (by omega)]; rfl) (by omega)
        have y2 : X10_number (nI (q + 3)) 2 (sI (sI (sK c p κ) p 1 (v 0)) p 2 (v 1)) = some (v 2, (sI (sI (sK c p κ) p 1 (v 0)) p 2 (v 1))) := by rw [← h2]; exact nm _ 3 2 (by rw [sI_n (by omega), sI_n (by omega)]; rfl) (fun _ => by rw [sI_n (by omega), sI_n (by omega)]; rfl) (by omega)
        have y3 : X10_number (nI (q + 5)) 1 (sI (sI (sI (sK c p κ) p 1 (v 0)) p 2 (v 1)) p 3 (v 2)) = some (v 3, (sI (sI (sI (sK c p κ) p 1 (v 0)) p 2 (v 1)) p 3 (v 2))) := by rw [← h3]; exact nm _ 5 1 (by rw [sI_n (by omega), sI_n (by omega), sI_n (by omega)]; rfl) (fun _ => by rw [sI_n (by omega), sI_n (by omega), sI_n (by omega)]; rfl) (by omega)
        have y4 : X10_number (nI (q + 6)) 1 (sI (sI (sI (sI (sK c p κ) p 1 (v 0)) p 2 (v 1)) p 3 (v 2)) p 4 (v 3)) = some (v 4, (sI (sI (sI (sI (sK c p κ) p 1 (v 0)) p 2 (v 1)) p 3 (v 2)) p 4 (v 3))) := by rw [← h4]; exact nm _ 6 1 (by rw [sI_n (by omega), sI_n (by omega), sI_n (by omega), sI_n (by omega)]; rfl) (fun _ => by rw [sI_n (by omega), sI_n (by omega), sI_n (by omega), sI_n (by omega)]; rfl) (by omega)
        have y5 : X10_number (nI (q + 7)) 2 (sI (sI (sI (sI (sI (sK c p κ) p 1 (v 0)) p 2 (v 1)) p 3 (v 2)) p 4 (v 3)) p 5 (v 4)) = some (v 5, (sI (sI (sI (sI (sI (sK c p κ) p 1 (v 0)) p 2 (v 1)) p 3 (v 2)) p 4 (v 3)) p 5 (v 4))) := by rw [← h5]; exact nm _ 7 2 (by rw [sI_n (by omega), sI_n (by omega), sI_n (by omega), sI_n (by omega), sI_n (by omega)]; rfl) (fun _ => by rw [sI_n (by omega), sI_n (by omega), sI_n (by omega), sI_n (by omega), sI_n (by omega)]; rfl) (by omega)
        have y6 : X10_number (nI (q + 9)) 1 (sI (sI (sI (sI (sI (sI (sK c p κ) p 1 (v 0)) p 2 (v 1)) p 3 (v 2)) p 4 (v 3)) p 5 (v 4)) p 6 (v 5)) = some (v 6, (sI (sI (sI (sI (sI (sI (sK c p κ) p 1 (v 0)) p 2 (v 1)) p 3 (v 2)) p 4 (v 3)) p 5 (v 4)) p 6 (v 5))) := by rw [← h6]; exact nm _ 9 1 (by rw [sI_n (by omega), sI_n (by omega), sI_n (by omega), sI_n (by omega), sI_n (by omega), sI_n (by omega)]; rfl) (fun _ => by rw [sI_n (by omega), sI_n (by omega), sI_n (by omega), sI_n (by omega), sI_n (by omega), sI_n (by omega)]; rfl) (by omega)
        have y7 : X10_number (nI (q + 10)) 4 (sI (sI (sI (sI (sI (sI (sI (sK c p κ) p 1 (v 0)) p 2 (v 1)) p 3 (v 2)) p 4 (v 3)) p 5 (v 4)) p 6 (v 5)) p 7 (v 6)) = some (v 7, (sI (sI (sI (sI (sI (sI (sI (sK c p κ) p 1 (v 0)) p 2 (v 1)) p 3 (v 2)) p 4 (v 3)) p 5 (v 4)) p 6 (v 5)) p 7 (v 6))) := by rw [← h7]; exact nm _ 10 4 (by rw [sI_n (by omega), sI_n (by omega), sI_n (by omega), sI_n (by omega), sI_n (by omega), sI_n (by omega), sI_n (by omega)]; rfl) (fun _ => by rw [sI_n (by omega), sI_n (by omega), sI_n (by omega), sI_n (by omega), sI_n (by omega), sI_n (by omega), sI_n (by omega)]; rfl) (by omega)
        have yN : (sI (sI (sI (sI (sI (sI (sI (sI (sK c p κ) p 1 (v 0)) p 2 (v 1)) p 3 (v 2)) p 4 (v 3)) p 5 (v 4)) p 6 (v 5)) p 7 (v 6)) p 8 (v 7)).1 52 3 = nI N := by rw [sI_n (by omega), sI_n (by omega), sI_n (by omega), sI_n (by omega), sI_n (by omega), sI_n (by omega), sI_n (by omega), sI_n (by omega)]; exact cN
        simp only [vl_e, g2, g3, g5, g6, g7, g9, g10, y1, y2, y3, y4, y5, y6, y7, bd_s, yN, nI_1]
        have eh : sI (sI (sI (sI (sI (sI (sI (sI (sI (sK c p κ) p 1 (v 0)) p 2 (v 1)) p 3 (v 2)) p 4 (v 3)) p 5 (v 4)) p 6 (v 5)) p 7 (v 6)) p 8 (v 7)) 52 3 (nI (N + 1)) = jC c p N κ v := rfl
        rw [eh]
        have f3 : (jC c p N κ v).1 p 3 = v 2 := by rw [jC_at, if_neg (by omega), if_neg (by omega), if_neg (by omega), if_neg (by omega), if_neg (by omega), if_neg (by omega), if_pos ⟨rfl, rfl⟩]
        have f5 : (jC c p N κ v).1 p 5 = v 4 := by rw [jC_at, if_neg (by omega), if_neg (by omega), if_neg (by omega), if_neg (by omega), if_pos ⟨rfl, rfl⟩]
        have f6 : (jC c p N κ v).1 p 6 = v 5 := by rw [jC_at, if_neg (by omega), if_neg (by omega), if_neg (by omega), if_pos ⟨rfl, rfl⟩]
        have f7 : (jC c p N κ v).1 p 7 = v 6 := by rw [jC_at, if_neg (by omega), if_neg (by omega), if_pos ⟨rfl, rfl⟩]
        have f8 : (jC c p N κ v).1 p 8 = v 7 := by rw [jC_at, if_neg (by omega), if_pos ⟨rfl, rfl⟩]
        have jc : JC c (jC c p N κ v) := ⟨fun o k h _ => by rw [jC_at, if_neg (by omega), if_neg (by omega), if_neg (by omega), if_neg (by omega), if_neg (by omega), if_neg (by omega), if_neg (by omega), if_neg (by omega), if_neg (by omega)], fun o h => by show (if o = p then κ else c.2.2 o) = c.2.2 o; rw [if_neg (by omega)], fun _ _ _ => rfl⟩
        rw [f3, f5, f6, f7, f8, cz_0, cz_1]
        have k0 : ¬ 5 < v 0 := by rw [hk]; exact zk
        by_cases a2 : v 2 < 40
        · rw [if_pos a2]; exact Or.inr ⟨fun h => h.2.1 a2, _, rfl, jc⟩
        rw [if_neg a2]
        by_cases a4 : 6 < v 4
        · rw [if_pos a4]; exact Or.inr ⟨fun h => h.2.2.1 a4, _, rfl, jc⟩
        rw [if_neg a4]
        by_cases a5 : v 5 < 20
        · rw [if_pos a5]; exact Or.inr ⟨fun h => h.2.2.2.1 a5, _, rfl, jc⟩
        rw [if_neg a5]
        by_cases a6 : 4 < v 6
        · rw [if_pos a6]; exact Or.inr ⟨fun h => h.2.2.2.2.1 a6, _, rfl, jc⟩
        rw [if_neg a6]
        by_cases a7 : 2400 < v 7
        · rw [if_pos a7]; exact Or.inr ⟨fun h => h.2.2.2.2.2.1 a7, _, rfl, jc⟩
        rw [if_neg a7]
        exact Or.inl ⟨⟨k0, a2, a4, a5, a6, a7, zN, z⟩, rfl⟩
    · rw [if_pos (show (4 : Int32) ≤ nI N from nI_le (a := 4) (by omega) (by omega)), cz_0]
      exact Or.inr ⟨fun h => zN h.2.2.2.2.2.2.1, c, rfl, JC.rf⟩
  · rw [if_pos (show (0 : Int32) < nI T from nI_lt (a := 0) (by omega) (by omega)), cz_0]
    exact Or.inr ⟨fun h => z h.2.2.2.2.2.2.2, c, rfl, JC.rf⟩
end JU
