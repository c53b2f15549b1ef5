/-! THE MEET: class and reference alike -/
def wR (r : AH) (t : Nat) : Nat := (r.1 10 t).toNatClampNeg
def fR (r : AH) (t : Nat) : Int32 := clp (r.1 11 t)
def BR (r : AH) (n : Nat) : BB := bst (wR r) (fR r) n
def RT (r : AH) (N t : Nat) : Prop := (∃ w, w < N ∧ r.1 10 t = nI w) ∧ (r.1 11 t = -9 ∨ r.1 11 t = -8 ∨ 0 ≤ (r.1 11 t).toInt)
/-- whose try it is -/
def TA (r : AH) (N F t j : Nat) : Prop := j < N ∧ ((t < 3 * N ∧ j = t % N) ∨ (3 * N ≤ t ∧ rk (BR r (3 * N)) N j = F - 1 - (t - 3 * N) % F))
def RN (r : AH) (S G N T : Nat) : Prop := r.1 0 12 = nI S ∧ r.1 0 13 = nI G ∧ r.1 0 15 = nI N ∧ r.1 0 16 = nI T ∧ (4 ≤ S ∧ S ≤ 20) ∧ (1 ≤ G ∧ G ≤ 4) ∧ N ≤ 4 ∧ T ≤ 3 * N + 3 * min G N ∧ WW (r.1 0 14) ∧ (∀ i, i < 4 → NJ (RJ r i)) ∧ ∀ t, t < T → RT r N t ∧ TA r N (min G N) t (wR r t)
/-- the reference's own numbers, as far as the meet goes -/
def RA (T : Nat) (r r' : AH) : Prop := (∀ k, 12 ≤ k → k ≤ 16 → r'.1 0 k = r.1 0 k) ∧ (∀ o k, 2 ≤ o → o ≤ 9 → k < 4 → r'.1 o k = r.1 o k) ∧ ∀ t, t < T → r'.1 10 t = r.1 10 t ∧ r'.1 11 t = r.1 11 t
theorem RA.rf {T : Nat} {r : AH} : RA T r r := ⟨fun _ _ _ => rfl, fun _ _ _ _ _ => rfl, fun _ _ => ⟨rfl, rfl⟩⟩
theorem RA.tr {T : Nat} {r r' r2 : AH} (a : RA T r r') (b : RA T r' r2) : RA T r r2 := ⟨fun k h1 h2 => (b.1 k h1 h2).trans (a.1 k h1 h2), fun o k h1 h2 h3 => (b.2.1 o k h1 h2 h3).trans (a.2.1 o k h1 h2 h3), fun t ht => ⟨(b.2.2 t ht).1.trans (a.2.2 t ht).1, (b.2.2 t ht).2.trans (a.2.2 t ht).2⟩⟩
theorem RA.sy {T : Nat} {r r' : AH} (a : RA T r r') : RA T r' r := ⟨fun k h1 h2 => (a.1 k h1 h2).symm, fun o k h1 h2 h3 => (a.2.1 o k h1 h2 h3).symm, fun t ht => ⟨(a.2.2 t ht).1.symm, (a.2.2 t ht).2.symm⟩⟩
theorem BR_c {T n : Nat} {r r' : AH} (a : RA T r r') (hn : n ≤ T) : BR r' n = BR r n :=
  bst_c n (fun t ht => ⟨by unfold wR; rw [(a.2.2 t (by omega)).1], by unfold fR; rw [(a.2.2 t (by omega)).2]⟩)
theorem TA_c {T N F t j : Nat} {r r' : AH} (a : RA T r r') (ht : t ≤ T) (h : TA r N F t j) : TA r' N F t j := by
  refine ⟨h.1, ?_⟩
  rcases h.2 with h2 | h2
  · exact Or.inl h2
  · exact Or.inr ⟨h2.1, by rw [BR_c a (by omega)]; exact h2.2⟩
theorem RJ_c {T i : Nat} {r r' : AH} (a : RA T r r') (hi : i < 4) : ∀ k, 1 ≤ k → k ≤ 8 → RJ r i k = RJ r' i k := fun k h1 h2 => (a.2.1 (k + 1) i (by omega) (by omega) hi).symm
theorem RN_c {S G N T : Nat} {r r' : AH} (a : RA T r r') (h : RN r S G N T) : RN r' S G N T := by
  obtain ⟨h1, h2, h3, h4, h5, h6, h7, h8, h9, h10, h11⟩ := h
  refine ⟨by rw [a.1 12 (by omega) (by omega)]; exact h1, by rw [a.1 13 (by omega) (by omega)]; exact h2, by rw [a.1 15 (by omega) (by omega)]; exact h3, by rw [a.1 16 (by omega) (by omega)]; exact h4, h5, h6, h7, h8, by rw [a.1 14 (by omega) (by omega)]; exact h9, fun i hi => NJ_J (RJ_c a hi) (h10 i hi), fun t ht => ?_⟩
  obtain ⟨⟨w1, w2⟩, w3⟩ := h11 t ht
  have e := a.2.2 t ht
  refine ⟨⟨by rw [e.1]; exact w1, by rw [e.2]; exact w2⟩, ?_⟩
  have e2 : wR r' t = wR r t := by unfold wR; rw [e.1]
  rw [e2]
  exact TA_c a (by omega) w3
/-- the class's meet at o is the reference's -/
def MR (o : Nat) (c r : AH) (S G N T : Nat) : Prop := RN r S G N T ∧ (c.1 o 0 = nI S ∧ c.1 o 1 = r.1 0 14 ∧ c.1 o 2 = nI G ∧ c.1 o 3 = nI N ∧ c.1 o 4 = nI T) ∧ (∀ i, i < 4 → (∀ k, 1 ≤ k → k ≤ 8 → c.1 (o + 6 + i) k = RJ r i k) ∧ JK c (o + 6 + i)) ∧ ∀ t, t < T → c.1 (o + 2) t = r.1 10 t ∧ c.1 (o + 4) t = r.1 11 t
theorem MR_r {o S G N T : Nat} {c r r' : AH} (a : RA T r r') (h : MR o c r S G N T) : MR o c r' S G N T := by
  obtain ⟨h1, h2, h3, h4⟩ := h
  refine ⟨RN_c a h1, by rw [a.1 14 (by omega) (by omega)]; exact h2, fun i hi => ⟨fun k k1 k2 => ?_, (h3 i hi).2⟩, fun t ht => ?_⟩
  · rw [(h3 i hi).1 k k1 k2]
    exact RJ_c a hi k k1 k2
  · rw [(a.2.2 t ht).1, (a.2.2 t ht).2]
    exact h4 t ht
/-- the class's own numbers, as far as the meet at o goes -/
def CA (T o : Nat) (c c' : AH) : Prop := (∀ k, k < 5 → c'.1 o k = c.1 o k) ∧ (∀ i k, i < 4 → 1 ≤ k → k ≤ 8 → c'.1 (o + 6 + i) k = c.1 (o + 6 + i) k) ∧ (∀ i, i < 4 → c'.2.2 (o + 6 + i) = c.2.2 (o + 6 + i)) ∧ ∀ t, t < T → c'.1 (o + 2) t = c.1 (o + 2) t ∧ c'.1 (o + 4) t = c.1 (o + 4) t
theorem MR_cc {o o' S G N T : Nat} {c c' r : AH} (h : MR o c r S G N T) (a1 : ∀ k, k < 5 → c'.1 o' k = c.1 o k) (a2 : ∀ i k, i < 4 → 1 ≤ k → k ≤ 8 → c'.1 (o' + 6 + i) k = c.1 (o + 6 + i) k) (a3 : ∀ i, i < 4 → c'.2.2 (o' + 6 + i) = c.2.2 (o + 6 + i)) (a4 : ∀ t, t < T → c'.1 (o' + 2) t = c.1 (o + 2) t ∧ c'.1 (o' + 4) t = c.1 (o + 4) t) : MR o' c' r S G N T := by
  obtain ⟨h1, h2, h3, h4⟩ := h
  refine ⟨h1, ?_, fun i hi => ⟨fun k k1 k2 => ?_, ?_⟩, fun t ht => ?_⟩
  · rw [a1 0 (by omega), a1 1 (by omega), a1 2 (by omega), a1 3 (by omega), a1 4 (by omega)]
    exact h2
  · rw [a2 i k hi k1 k2]
    exact (h3 i hi).1 k k1 k2
  · obtain ⟨κ, x, y, z⟩ := (h3 i hi).2
    exact ⟨κ, x, by rw [a3 i hi]; exact y, by rw [a2 i 1 hi (by omega) (by omega)]; exact z⟩
  · rw [(a4 t ht).1, (a4 t ht).2]
    exact h4 t ht
theorem MR_c {o S G N T : Nat} {c c' r : AH} (a : CA T o c c') (h : MR o c r S G N T) : MR o c' r S G N T := MR_cc h a.1 a.2.1 a.2.2.1 a.2.2.2
theorem CA.FR {T o : Nat} {c c' : AH} (ho : 42 ≤ o) (f : FR c c') : CA T o c c' := ⟨fun k _ => f.1 o k (by omega) (by omega) (by omega), fun i k _ _ _ => f.1 _ k (by omega) (by omega) (by omega), fun i _ => by rw [f.2], fun t _ => ⟨f.1 _ t (by omega) (by omega) (by omega), f.1 _ t (by omega) (by omega) (by omega)⟩⟩
/-- what a turn asked touches in the reference -/
def FT (r r' : AH) : Prop := (∀ o k, o ≠ 20 → o ≠ 21 → o ≠ 22 → r'.1 o k = r.1 o k) ∧ r'.2 = r.2
theorem FT.rf {r : AH} : FT r r := ⟨fun _ _ _ _ _ => rfl, rfl⟩
theorem FT.tr {r r' r2 : AH} (a : FT r r') (b : FT r' r2) : FT r r2 := ⟨fun o k h1 h2 h3 => (b.1 o k h1 h2 h3).trans (a.1 o k h1 h2 h3), b.2.trans a.2⟩
theorem FT.B {r r' : AH} (a : FB r r') : FT r r' := ⟨fun o k h1 h2 _ => a.1 o k h1 h2, a.2⟩
theorem FT.O {r r' : AH} (a : FO22 r r') : FT r r' := ⟨fun o k _ _ h3 => a.1 o k h3, a.2⟩
theorem RA.FT {T : Nat} {r r' : AH} (a : FT r r') : RA T r r' := ⟨fun k _ _ => a.1 0 k (by decide) (by decide) (by decide), fun o k _ _ _ => a.1 o k (by omega) (by omega) (by omega), fun t _ => ⟨a.1 10 t (by decide) (by decide) (by decide), a.1 11 t (by decide) (by decide) (by decide)⟩⟩
section MT
variable {o S G N T : Nat} {c r : AH}
theorem RT_w (h : RN r S G N T) {t : Nat} (ht : t < T) : wR r t < N ∧ r.1 10 t = nI (wR r t) := by
  obtain ⟨⟨⟨w, hw, e⟩, -⟩, -⟩ := h.2.2.2.2.2.2.2.2.2.2 t ht
  have hN := h.2.2.2.2.2.2.1
  unfold wR
  rw [e, nI_clamp (by omega)]
  exact ⟨hw, rfl⟩
theorem RT_f (h : RN r S G N T) {t : Nat} (ht : t < T) : tas r 0 t = fR r t := by
  obtain ⟨⟨-, z⟩, -⟩ := h.2.2.2.2.2.2.2.2.2.2 t ht
  have z0 : (0 : Int32).toInt = 0 := rfl
  unfold tas fR clp
  rcases z with z | z | z
  · rw [if_pos z, if_neg (by decide), z, if_neg (by decide)]
  · rw [z, if_neg (by decide), if_pos rfl, if_neg (by decide)]
  · have n9 : ¬ r.1 11 t = -9 := fun e => by rw [e] at z; exact absurd z (by decide)
    have n8 : ¬ r.1 11 t = -8 := fun e => by rw [e] at z; exact absurd z (by decide)
    rw [if_neg n9, if_neg n8, if_neg (by decide), Int32.add_zero, if_pos (by rw [fa_le, z0]; exact z)]
theorem BR_p (r : AH) (n : Nat) : BP (BR r n) := bp_bst n (fun t _ => (clp_b _).1)
/-- the ranks taken, in the class -/
theorem m_rankC (M : MR o c r S G N T) (ho : 42 ≤ o) {n : Nat} (hn : n < 100) : ∃ c', X5_rank o 0 (nI n) c = some ((), c') ∧ RKC c' (BR r (min n T)) ∧ FR c c' ∧ c'.1 5 0 = nI N := by
  obtain ⟨h1, h2, h3, h4⟩ := M
  have hN := h1.2.2.2.2.2.2.1
  have hT := h1.2.2.2.2.2.2.2.1
  obtain ⟨c', a1, a2, a3, a4⟩ := s_rankC (h := c) (o := o) (n := n) (N := N) (T := T) 0 ho (w := wR r) (by omega) hn hN h2.2.2.2.1 h2.2.2.2.2 (fun t ht => ⟨by have := (RT_w h1 ht).1; omega, by rw [(h4 t ht).1]; exact (RT_w h1 ht).2⟩)
  refine ⟨c', a1, ?_, a3, a4⟩
  have e : BR r (min n T) = bst (wR r) (lby c o 0) (min n T) := bst_c _ (fun t ht => ⟨rfl, by rw [lby_0, (h4 t (by omega)).2]; rfl⟩)
  rw [e]
  exact a2
/-- any law: the class ranks, and ends -/
theorem m_rankA (M : MR o c r S G N T) (ho : 42 ≤ o) (law : Int32) {n : Nat} (hn : n < 100) : ∃ c' B, X5_rank o law (nI n) c = some ((), c') ∧ RKC c' B ∧ FR c c' ∧ c'.1 5 0 = nI N := by
  obtain ⟨h1, h2, h3, h4⟩ := M
  have hN := h1.2.2.2.2.2.2.1
  have hT := h1.2.2.2.2.2.2.2.1
  obtain ⟨c', a1, a2, a3, a4⟩ := s_rankC (h := c) (o := o) (n := n) (N := N) (T := T) law ho (w := wR r) (by omega) hn hN h2.2.2.2.1 h2.2.2.2.2 (fun t ht => ⟨by have := (RT_w h1 ht).1; omega, by rw [(h4 t ht).1]; exact (RT_w h1 ht).2⟩)
  exact ⟨c', _, a1, a2, a3, a4⟩
/-- the ranks taken, in the reference -/
theorem m_bestR (h1 : RN r S G N T) {n : Nat} (hn : n ≤ T) : ∃ r', X11_findBest 0 (nI n) r = some ((), r') ∧ RKR r' (BR r n) ∧ FB r r' := by
  have hN := h1.2.2.2.2.2.2.1
  have hT := h1.2.2.2.2.2.2.2.1
  obtain ⟨r', a1, a2, a3⟩ := s_bestR (h := r) (n := n) 0 (by omega) (w := wR r) (fun t ht => ⟨by have := (RT_w h1 (t := t) (by omega)).1; omega, (RT_w h1 (by omega)).2⟩)
  refine ⟨r', a1, ?_, a3⟩
  have e : BR r n = bst (wR r) (tas r 0) n := bst_c _ (fun t ht => ⟨rfl, (RT_f h1 (by omega)).symm⟩)
  rw [e]
  exact a2
theorem m_sorts (h1 : RN r S G N T) {r' : AH} {B : BB} (hB : BP B) (R : RKR r' B) (e : r'.1 0 15 = r.1 0 15) : ∃ r2, X11_sorts r' = some ((), r2) ∧ FO22 r' r2 ∧ ∀ j, j < N → r2.1 22 (rk B N j) = nI j :=
  s_sorts h1.2.2.2.2.2.2.1 (by rw [e]; exact h1.2.2.1) hB R
theorem s_finC (h3 : c.1 o 3 = nI N) (h2 : c.1 o 2 = nI G) (hN : N ≤ 4) (hG : G ≤ 4) : X5_finalists o c = some (nI (min G N), c) := by
  unfold X5_finalists
  rw [h3, h2]
  by_cases z : N ≤ G
  · rw [if_pos (nI_le z (by omega)), Nat.min_eq_right z]
  · rw [if_neg (nI_ge (by omega) (by omega)), Nat.min_eq_left (by omega)]
theorem s_finR (h3 : r.1 0 15 = nI N) (h2 : r.1 0 13 = nI G) (hN : N ≤ 4) (hG : G ≤ 4) : X11_finalists r = some (nI (min G N), r) := by
  unfold X11_finalists
  rw [h3, h2]
  by_cases z : N ≤ G
  · rw [if_pos (nI_le z (by omega)), Nat.min_eq_right z]
  · rw [if_neg (nI_ge (by omega) (by omega)), Nat.min_eq_left (by omega)]
/-- the round -/
def rd (N F T : Nat) : Nat := if N = 0 then 6 else if T < 3 * N then T / N else min 6 (3 + (T - 3 * N) / F)
theorem m_roundC (M : MR o c r S G N T) : X5_round o c = some (nI (rd N (min G N) T), c) := by
  obtain ⟨h1, h2, h3, h4⟩ := M
  have hN := h1.2.2.2.2.2.2.1
  have hT := h1.2.2.2.2.2.2.2.1
  have hG := h1.2.2.2.2.2.1
  unfold X5_round rd
  rw [s_finC h2.2.2.2.1 h2.2.2.1 hN hG.2, bd_s, h2.2.2.2.1, h2.2.2.2.2]
  by_cases z : N = 0
  · subst z
    rw [if_pos (by decide), if_pos rfl]
    rfl
  · rw [if_neg (nI_nle (by omega) (by omega)), if_neg z, if_pos (show (0 : Int32) < nI (min G N) from nI_lt (a := 0) (by omega) (by omega))]
    have e3 : (3 : Int32) * nI N = nI (3 * N) := pk_mul 3 N
    rw [e3]
    by_cases y : T < 3 * N
    · rw [if_neg (nI_ge y (by omega)), if_pos y, if_neg (nI_ne0 (by omega) (by omega)), pk_div (by omega) (by omega) (by omega)]
    · rw [if_pos (nI_le (by omega) (by omega)), if_neg y, if_neg (nI_ne0 (by omega) (by omega)), pk_sub (by omega), pk_div (by omega) (by omega) (by omega)]
      have hd : (T - 3 * N) / min G N ≤ T - 3 * N := Nat.div_le_self _ _
      generalize (T - 3 * N) / min G N = q at hd ⊢
      have e4 : (3 : Int32) + nI q = nI (3 + q) := nI_add 3 _
      rw [e4]
      unfold mn32
      by_cases x : 3 + q < 6
      · rw [if_pos (show nI (3 + q) < 6 from nI_lt (b := 6) x (by decide)), Nat.min_eq_right (by omega : 3 + q ≤ 6)]
      · rw [if_neg (show ¬ nI (3 + q) < 6 from nI_nlt (a := 3 + q) (b := 6) (by omega) (by omega)), Nat.min_eq_left (by omega : 6 ≤ 3 + q)]
        rfl
end MT
