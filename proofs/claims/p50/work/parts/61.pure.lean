section
/-! THE MEET: class and reference alike -/
def wR (r : AH) (t : Nat) : Nat := (r.1 10 t).toNatClampNeg
def fR (r : AH) (t : Nat) : Int32 := clp (r.1 11 t)
def BR (r : AH) (n : Nat) : BB := bst (wR r) (fR r) n
def RT (r : AH) (N t : Nat) : Prop := (∃ w, w < N ∧ r.1 10 t = nI w) ∧ (r.1 11 t = -9 ∨ r.1 11 t = -8 ∨ 0 ≤ (r.1 11 t).toInt)
/-- whose try it is -/
def TA (r : AH) (N F t j : Nat) : Prop := j < N ∧ ((t < 3 * N ∧ j = t % N) ∨ (3 * N ≤ t ∧ rk (BR r (3 * N)) N j = F - 1 - (t - 3 * N) % F))
def RN (r : AH) (S G N T : Nat) : Prop := r.1 0 12 = nI S ∧ r.1 0 13 = nI G ∧ r.1 0 15 = nI N ∧ r.1 0 16 = nI T ∧ (4 ≤ S ∧ S ≤ 20) ∧ (1 ≤ G ∧ G ≤ 4) ∧ N ≤ 4 ∧ T ≤ 3 * N + 3 * min G N ∧ WW (r.1 0 14) ∧ (∀ i, i < 4 → NJ (RJ r i)) ∧ ∀ t, t < T → RT r N t ∧ TA r N (min G N) t (wR r t)
/-- the reference's own numbers, as far as the meet goes -/
def RA (T : Nat) (r r' : AH) : Prop := (∀ k, 12 ≤ k → k ≤ 16 → r'.1 0 k = r.1 0 k) ∧ (∀ o k, 2 ≤ o → o ≤ 9 → k < 4 → r'.1 o k = r.1 o k) ∧ ∀ t, t < T → r'.1 10 t = r.1 10 t ∧ r'.1 11 t = r.1 11 t
theorem RA.rf {T : Nat} {r : AH} : RA T r r := ⟨fun _ _ _ => rfl, fun _ _ _ _ _ => rfl, fun _ _ => ⟨rfl, rfl⟩⟩
theorem RA.tr {T : Nat} {r r' r2 : AH} (a : RA T r r') (b : RA T r' r2) : RA T r r2 := ⟨fun k h1 h2 => (b.1 k h1 h2).trans (a.1 k h1 h2), fun o k h1 h2 h3 => (b.2.1 o k h1 h2 h3).trans (a.2.1 o k h1 h2 h3), fun t ht => ⟨(b.2.2 t ht).1.trans (a.2.2 t ht).1, (b.2.2 t ht).2.trans (a.2.2 t ht).2⟩⟩
theorem RA.sy {T : Nat} {r r' : AH} (a : RA T r r') : RA T r' r := ⟨fun k h1 h2 => (a.1 k h1 h2).symm, fun o k h1 h2 h3 => (a.2.1 o k h1 h2 h3).symm, fun t ht => ⟨(a.2.2 t ht).1.symm, (a.2.2 t ht).2.symm⟩⟩
theorem BR_c {T n : Nat} {r r' : AH} (a : RA T r r') (hn : n ≤ T) : BR r' n = BR r n :=
  bst_c n (fun t ht => ⟨by unfold wR; rw [(a.2.2 t (by omega)).1], by unfold fR; rw [(a.2.2 t (by omega)).2]⟩)
theorem TA_c {T N F t j : Nat} {r r' : AH} (a : RA T r r') (ht : t ≤ T) (h : TA r N F t j) : TA r' N F t j := by
  refine ⟨h.1, ?_⟩
  rcases h.2 with h2 | h2
  · exact Or.inl h2
  · exact Or.inr ⟨h2.1, by rw [BR_c a (by omega)]; exact h2.2⟩
theorem RJ_c {T i : Nat} {r r' : AH} (a : RA T r r') (hi : i < 4) : ∀ k, 1 ≤ k → k ≤ 8 → RJ r i k = RJ r' i k := fun k h1 h2 => (a.2.1 (k + 1) i (by omega) (by omega) hi).symm
theorem RN_c {S G N T : Nat} {r r' : AH} (a : RA T r r') (h : RN r S G N T) : RN r' S G N T := by
  obtain ⟨h1, h2, h3, h4, h5, h6, h7, h8, h9, h10, h11⟩ := h
  refine ⟨by rw [a.1 12 (by omega) (by omega)]; exact h1, by rw [a.1 13 (by omega) (by omega)]; exact h2, by rw [a.1 15 (by omega) (by omega)]; exact h3, by rw [a.1 16 (by omega) (by omega)]; exact h4, h5, h6, h7, h8, by rw [a.1 14 (by omega) (by omega)]; exact h9, fun i hi => NJ_J (RJ_c a hi) (h10 i hi), fun t ht => ?_⟩
  obtain ⟨⟨w1, w2⟩, w3⟩ := h11 t ht
  have e := a.2.2 t ht
  refine ⟨⟨by rw [e.1]; exact w1, by rw [e.2]; exact w2⟩, ?_⟩
  have e2 : wR r' t = wR r t := by unfold wR; rw [e.1]
  rw [e2]
  exact TA_c a (by omega) w3
/-- the class's meet at o is the reference's -/
def MR (o : Nat) (c r : AH) (S G N T : Nat) : Prop := RN r S G N T ∧ (c.1 o 0 = nI S ∧ c.1 o 1 = r.1 0 14 ∧ c.1 o 2 = nI G ∧ c.1 o 3 = nI N ∧ c.1 o 4 = nI T) ∧ (∀ i, i < 4 → (∀ k, 1 ≤ k → k ≤ 8 → c.1 (o + 6 + i) k = RJ r i k) ∧ JK c (o + 6 + i)) ∧ ∀ t, t < T → c.1 (o + 2) t = r.1 10 t ∧ c.1 (o + 4) t = r.1 11 t
theorem MR_r {o S G N T : Nat} {c r r' : AH} (a : RA T r r') (h : MR o c r S G N T) : MR o c r' S G N T := by
  obtain ⟨h1, h2, h3, h4⟩ := h
  refine ⟨RN_c a h1, by rw [a.1 14 (by omega) (by omega)]; exact h2, fun i hi => ⟨fun k k1 k2 => ?_, (h3 i hi).2⟩, fun t ht => ?_⟩
  · rw [(h3 i hi).1 k k1 k2]
    exact RJ_c a hi k k1 k2
  · rw [(a.2.2 t ht).1, (a.2.2 t ht).2]
    exact h4 t ht
/-- the class's own numbers, as far as the meet at o goes -/
def CA (T o : Nat) (c c' : AH) : Prop := (∀ k, k < 5 → c'.1 o k = c.1 o k) ∧ (∀ i k, i < 4 → 1 ≤ k → k ≤ 8 → c'.1 (o + 6 + i) k = c.1 (o + 6 + i) k) ∧ (∀ i, i < 4 → c'.2.2 (o + 6 + i) = c.2.2 (o + 6 + i)) ∧ ∀ t, t < T → c'.1 (o + 2) t = c.1 (o + 2) t ∧ c'.1 (o + 4) t = c.1 (o + 4) t
theorem MR_cc {o o' S G N T : Nat} {c c' r : AH} (h : MR o c r S G N T) (a1 : ∀ k, k < 5 → c'.1 o' k = c.1 o k) (a2 : ∀ i k, i < 4 → 1 ≤ k → k ≤ 8 → c'.1 (o' + 6 + i) k = c.1 (o + 6 + i) k) (a3 : ∀ i, i < 4 → c'.2.2 (o' + 6 + i) = c.2.2 (o + 6 + i)) (a4 : ∀ t, t < T → c'.1 (o' + 2) t = c.1 (o + 2) t ∧ c'.1 (o' + 4) t = c.1 (o + 4) t) : MR o' c' r S G N T := by
  obtain ⟨h1, h2, h3, h4⟩ := h
  refine ⟨h1, ?_, fun i hi => ⟨fun k k1 k2 => ?_, ?_⟩, fun t ht => ?_⟩
  · rw [a1 0 (by omega), a1 1 (by omega), a1 2 (by omega), a1 3 (by omega), a1 4 (by omega)]
    exact h2
  · rw [a2 i k hi k1 k2]
    exact (h3 i hi).1 k k1 k2
  · obtain ⟨κ, x, y, z⟩ := (h3 i hi).2
    exact ⟨κ, x, by rw [a3 i hi]; exact y, by rw [a2 i 1 hi (by omega) (by omega)]; exact z⟩
  · rw [(a4 t ht).1, (a4 t ht).2]
    exact h4 t ht
theorem MR_c {o S G N T : Nat} {c c' r : AH} (a : CA T o c c') (h : MR o c r S G N T) : MR o c' r S G N T := MR_cc h a.1 a.2.1 a.2.2.1 a.2.2.2
theorem CA.FR {T o : Nat} {c c' : AH} (ho : 42 ≤ o) (f : FR c c') : CA T o c c' := ⟨fun k _ => f.1 o k (by omega) (by omega) (by omega), fun i k _ _ _ => f.1 _ k (by omega) (by omega) (by omega), fun i _ => by rw [f.2], fun t _ => ⟨f.1 _ t (by omega) (by omega) (by omega), f.1 _ t (by omega) (by omega) (by omega)⟩⟩
/-- what a turn asked touches in the reference -/
def FT (r r' : AH) : Prop := (∀ o k, o ≠ 20 → o ≠ 21 → o ≠ 22 → r'.1 o k = r.1 o k) ∧ r'.2 = r.2
theorem FT.rf {r : AH} : FT r r := ⟨fun _ _ _ _ _ => rfl, rfl⟩
theorem FT.tr {r r' r2 : AH} (a : FT r r') (b : FT r' r2) : FT r r2 := ⟨fun o k h1 h2 h3 => (b.1 o k h1 h2 h3).trans (a.1 o k h1 h2 h3), b.2.trans a.2⟩
theorem FT.B {r r' : AH} (a : FB r r') : FT r r' := ⟨fun o k h1 h2 _ => a.1 o k h1 h2, a.2⟩
theorem FT.O {r r' : AH} (a : FO22 r r') : FT r r' := ⟨fun o k _ _ h3 => a.1 o k h3, a.2⟩
theorem RA.FT {T : Nat} {r r' : AH} (a : FT r r') : RA T r r' := ⟨fun k _ _ => a.1 0 k (by decide) (by decide) (by decide), fun o k _ _ _ => a.1 o k (by omega) (by omega) (by omega), fun t _ => ⟨a.1 10 t (by decide) (by decide) (by decide), a.1 11 t (by decide) (by decide) (by decide)⟩⟩
section MT
variable {o S G N T : Nat} {c r : AH}
theorem RT_w (h : RN r S G N T) {t : Nat} (ht : t < T) : wR r t < N ∧ r.1 10 t = nI (wR r t) := by
  obtain ⟨⟨⟨w, hw, e⟩, -⟩, -⟩ := h.2.2.2.2.2.2.2.2.2.2 t ht
  have hN := h.2.2.2.2.2.2.1
  unfold wR
  rw [e, nI_clamp (by omega)]
  exact ⟨hw, rfl⟩
theorem RT_f (h : RN r S G N T) {t : Nat} (ht : t < T) : tas r 0 t = fR r t := by
  obtain ⟨⟨-, z⟩, -⟩ := h.2.2.2.2.2.2.2.2.2.2 t ht
  have z0 : (0 : Int32).toInt = 0 := rfl
  unfold tas fR clp
  rcases z with z | z | z
  · rw [if_pos z, if_neg (by decide), z, if_neg (by decide)]
  · rw [z, if_neg (by decide), if_pos rfl, if_neg (by decide)]
  · have n9 : ¬ r.1 11 t = -9 := fun e => by rw [e] at z; exact absurd z (by decide)
    have n8 : ¬ r.1 11 t = -8 := fun e => by rw [e] at z; exact absurd z (by decide)
    rw [if_neg n9, if_neg n8, if_neg (by decide), Int32.add_zero, if_pos (by rw [fa_le, z0]; exact z)]
theorem BR_p (r : AH) (n : Nat) : BP (BR r n) := bp_bst n (fun t _ => (clp_b _).1)
/-- the ranks taken, in the class -/
theorem m_rankC (M : MR o c r S G N T) (ho : 42 ≤ o) {n : Nat} (hn : n < 100) : ∃ c', X5_rank o 0 (nI n) c = some ((), c') ∧ RKC c' (BR r (min n T)) ∧ FR c c' ∧ c'.1 5 0 = nI N := by
  obtain ⟨h1, h2, h3, h4⟩ := M
  have hN := h1.2.2.2.2.2.2.1
  have hT := h1.2.2.2.2.2.2.2.1
  obtain ⟨c', a1, a2, a3, a4⟩ := s_rankC (h := c) (o := o) (n := n) (N := N) (T := T) 0 ho (w := wR r) (by omega) hn hN h2.2.2.2.1 h2.2.2.2.2 (fun t ht => ⟨by have := (RT_w h1 ht).1; omega, by rw [(h4 t ht).1]; exact (RT_w h1 ht).2⟩)
  refine ⟨c', a1, ?_, a3, a4⟩
  have e : BR r (min n T) = bst (wR r) (lby c o 0) (min n T) := bst_c _ (fun t ht => ⟨rfl, by rw [lby_0, (h4 t (by omega)).2]; rfl⟩)
  rw [e]
  exact a2
/-- any law: the class ranks, and ends -/
theorem m_rankA (M : MR o c r S G N T) (ho : 42 ≤ o) (law : Int32) {n : Nat} (hn : n < 100) : ∃ c' B, X5_rank o law (nI n) c = some ((), c') ∧ RKC c' B ∧ FR c c' ∧ c'.1 5 0 = nI N := by
  obtain ⟨h1, h2, h3, h4⟩ := M
  have hN := h1.2.2.2.2.2.2.1
  have hT := h1.2.2.2.2.2.2.2.1
  obtain ⟨c', a1, a2, a3, a4⟩ := s_rankC (h := c) (o := o) (n := n) (N := N) (T := T) law ho (w := wR r) (by omega) hn hN h2.2.2.2.1 h2.2.2.2.2 (fun t ht => ⟨by have := (RT_w h1 ht).1; omega, by rw [(h4 t ht).1]; exact (RT_w h1 ht).2⟩)
  exact ⟨c', _, a1, a2, a3, a4⟩
/-- the ranks taken, in the reference -/
theorem m_bestR (h1 : RN r S G N T) {n : Nat} (hn : n ≤ T) : ∃ r', X11_findBest 0 (nI n) r = some ((), r') ∧ RKR r' (BR r n) ∧ FB r r' := by
  have hN := h1.2.2.2.2.2.2.1
  have hT := h1.2.2.2.2.2.2.2.1
  obtain ⟨r', a1, a2, a3⟩ := s_bestR (h := r) (n := n) 0 (by omega) (w := wR r) (fun t ht => ⟨by have := (RT_w h1 (t := t) (by omega)).1; omega, (RT_w h1 (by omega)).2⟩)
  refine ⟨r', a1, ?_, a3⟩
  have e : BR r n = bst (wR r) (tas r 0) n := bst_c _ (fun t ht => ⟨rfl, (RT_f h1 (by omega)).symm⟩)
  rw [e]
  exact a2
theorem m_sorts (h1 : RN r S G N T) {r' : AH} {B : BB} (hB : BP B) (R : RKR r' B) (e : r'.1 0 15 = r.1 0 15) : ∃ r2, X11_sorts r' = some ((), r2) ∧ FO22 r' r2 ∧ ∀ j, j < N → r2.1 22 (rk B N j) = nI j :=
  s_sorts h1.2.2.2.2.2.2.1 (by rw [e]; exact h1.2.2.1) hB R
theorem s_finC (h3 : c.1 o 3 = nI N) (h2 : c.1 o 2 = nI G) (hN : N ≤ 4) (hG : G ≤ 4) : X5_finalists o c = some (nI (min G N), c) := by
  unfold X5_finalists
  rw [h3, h2]
  by_cases z : N ≤ G
  · rw [if_pos (nI_le z (by omega)), Nat.min_eq_right z]
  · rw [if_neg (nI_ge (by omega) (by omega)), Nat.min_eq_left (by omega)]
theorem s_finR (h3 : r.1 0 15 = nI N) (h2 : r.1 0 13 = nI G) (hN : N ≤ 4) (hG : G ≤ 4) : X11_finalists r = some (nI (min G N), r) := by
  unfold X11_finalists
  rw [h3, h2]
  by_cases z : N ≤ G
  · rw [if_pos (nI_le z (by omega)), Nat.min_eq_right z]
  · rw [if_neg (nI_ge (by omega) (by omega)), Nat.min_eq_left (by omega)]
/-- the round -/
def rd (N F T : Nat) : Nat := if N = 0 then 6 else if T < 3 * N then T / N else min 6 (3 + (T - 3 * N) / F)
theorem m_roundC (M : MR o c r S G N T) : X5_round o c = some (nI (rd N (min G N) T), c) := by
  obtain ⟨h1, h2, h3, h4⟩ := M
  have hN := h1.2.2.2.2.2.2.1
  have hT := h1.2.2.2.2.2.2.2.1
  have hG := h1.2.2.2.2.2.1
  unfold X5_round rd
  rw [s_finC h2.2.2.2.1 h2.2.2.1 hN hG.2, bd_s, h2.2.2.2.1, h2.2.2.2.2]
  by_cases z : N = 0
  · subst z
    rw [if_pos (by decide), if_pos rfl]
    rfl
  · rw [if_neg (nI_nle (by omega) (by omega)), if_neg z, if_pos (show (0 : Int32) < nI (min G N) from nI_lt (a := 0) (by omega) (by omega))]
    have e3 : (3 : Int32) * nI N = nI (3 * N) := pk_mul 3 N
    rw [e3]
    by_cases y : T < 3 * N
    · rw [if_neg (nI_ge y (by omega)), if_pos y, if_neg (nI_ne0 (by omega) (by omega)), pk_div (by omega) (by omega) (by omega)]
    · rw [if_pos (nI_le (by omega) (by omega)), if_neg y, if_neg (nI_ne0 (by omega) (by omega)), pk_sub (by omega), pk_div (by omega) (by omega) (by omega)]
      have hd : (T - 3 * N) / min G N ≤ T - 3 * N := Nat.div_le_self _ _
      generalize (T - 3 * N) / min G N = q at hd ⊢
      have e4 : (3 : Int32) + nI q = nI (3 + q) := nI_add 3 _
      rw [e4]
      unfold mn32
      by_cases x : 3 + q < 6
      · rw [if_pos (show nI (3 + q) < 6 from nI_lt (b := 6) x (by decide)), Nat.min_eq_right (by omega : 3 + q ≤ 6)]
      · rw [if_neg (show ¬ nI (3 + q) < 6 from nI_nlt (a := 3 + q) (b := 6) (by omega) (by omega)), Nat.min_eq_left (by omega : 6 ≤ 3 + q)]
        rfl
end MT
end
section
/-! TURNS, ROUNDS, leaders on both sides -/
def TV (r : AH) (N F T : Nat) (v : Int32) : Prop := ((N = 0 ∨ 3 * N + 3 * F ≤ T) ∧ v = -9) ∨ (N ≠ 0 ∧ T < 3 * N + 3 * F ∧ ∃ j, v = nI j ∧ TA r N F T j)
theorem TA_u {r : AH} {N F T i j : Nat} (hN : N ≤ 4) (h1 : TA r N F T i) (h2 : TA r N F T j) : i = j := by
  obtain ⟨a1, a2⟩ := h1
  obtain ⟨b1, b2⟩ := h2
  rcases a2 with a2 | a2
  · rcases b2 with b2 | b2
    · rw [a2.2, b2.2]
    · omega
  · rcases b2 with b2 | b2
    · omega
    · exact rk_inj hN a1 b1 (BR_p r _) (by rw [a2.2, b2.2])
theorem TV_u {r : AH} {N F T : Nat} {v v' : Int32} (hN : N ≤ 4) (h1 : TV r N F T v) (h2 : TV r N F T v') : v = v' := by
  rcases h1 with ⟨a, rfl⟩ | ⟨a1, a2, i, rfl, a3⟩
  · rcases h2 with ⟨b, rfl⟩ | ⟨b1, b2, j, rfl, b3⟩
    · rfl
    · omega
  · rcases h2 with ⟨b, rfl⟩ | ⟨b1, b2, j, rfl, b3⟩
    · omega
    · rw [TA_u hN a3 b3]
theorem TV_c {r r' : AH} {N F T : Nat} {v : Int32} (a : RA T r r') (h : TV r N F T v) : TV r' N F T v := by
  rcases h with h | ⟨h1, h2, j, h3, h4⟩
  · exact Or.inl h
  · exact Or.inr ⟨h1, h2, j, h3, TA_c a (Nat.le_refl T) h4⟩
theorem TV_nn {r : AH} {N F T : Nat} {v : Int32} (hN : N ≤ 4) (h : TV r N F T v) : (0 ≤ v ↔ ∃ j, j < N ∧ v = nI j) ∧ (¬ 0 ≤ v → v = -9) := by
  rcases h with ⟨_, rfl⟩ | ⟨_, _, j, rfl, h4⟩
  · refine ⟨⟨fun z => absurd z (by decide), fun ⟨j, hj, e⟩ => ?_⟩, fun _ => rfl⟩
    rw [e]
    exact nI_pos' (by omega)
  · have hj := h4.1
    exact ⟨⟨fun _ => ⟨j, hj, rfl⟩, fun _ => nI_pos' (by omega)⟩, fun z => absurd (nI_pos' (by omega)) z⟩
theorem rd_6 {N F T : Nat} (hN : N ≤ 4) (hF : N = 0 ∨ 1 ≤ F) (hF4 : F ≤ 4) (hT : T ≤ 3 * N + 3 * F) : (rd N F T = 6 ↔ N = 0 ∨ 3 * N + 3 * F ≤ T) ∧ rd N F T ≤ 6 := by
  unfold rd
  by_cases z : N = 0
  · rw [if_pos z]
    exact ⟨⟨fun _ => Or.inl z, fun _ => rfl⟩, Nat.le_refl 6⟩
  · rw [if_neg z]
    by_cases y : T < 3 * N
    · rw [if_pos y]
      have : T / N ≤ 2 := by
        rcases (by omega : N = 1 ∨ N = 2 ∨ N = 3 ∨ N = 4) with e | e | e | e <;> subst e <;> omega
      omega
    · rw [if_neg y]
      rcases (by omega : F = 1 ∨ F = 2 ∨ F = 3 ∨ F = 4) with e | e | e | e <;> subst e <;> omega
theorem md_lt {x F : Nat} (h : 1 ≤ F) : x % F < F := Nat.mod_lt _ (by omega)
section TU
variable {o S G N T : Nat} {c r : AH}
theorem F_b (h : RN r S G N T) : (N = 0 ∨ 1 ≤ min G N) ∧ min G N ≤ N ∧ min G N ≤ 4 := by
  have hN := h.2.2.2.2.2.2.1
  have hG := h.2.2.2.2.2.1
  omega
theorem m_turnC (M : MR o c r S G N T) (ho : 42 ≤ o) : ∃ v c', X5_inTurn o c = some (v, c') ∧ FR c c' ∧ TV r N (min G N) T v := by
  have hR := m_roundC M
  obtain ⟨h1, h2, h3, h4⟩ := id M
  have hN := h1.2.2.2.2.2.2.1
  have hT := h1.2.2.2.2.2.2.2.1
  have hG := h1.2.2.2.2.2.1
  have hF := F_b h1
  have hfin := s_finC (o := o) (c := c) h2.2.2.2.1 h2.2.2.1 hN hG.2
  obtain ⟨F, eF⟩ : ∃ F, F = min G N := ⟨_, rfl⟩
  rw [← eF] at hF hT hR hfin ⊢
  have hd := rd_6 hN hF.1 hF.2.2 hT
  unfold X5_inTurn
  rw [hfin, bd_s, hR, bd_s]
  by_cases z : rd N F T = 6
  · rw [z, if_pos (by rfl)]
    exact ⟨_, _, rfl, FR.rf, Or.inl ⟨hd.1.mp z, rfl⟩⟩
  · have z2 : ¬ (N = 0 ∨ 3 * N + 3 * F ≤ T) := fun y => z (hd.1.mpr y)
    have e3 : (3 : Int32) * nI N = nI (3 * N) := pk_mul 3 N
    rw [if_neg (show ¬ nI (rd N F T) = 6 from fun y => z ((nI_eq (b := 6) (by omega) (by decide)).mp y)), h2.2.2.2.1, if_neg (nI_nle (by omega) (by omega)), if_pos (show (0 : Int32) < nI F from nI_lt (a := 0) (by omega) (by omega)), h2.2.2.2.2, e3]
    by_cases y : T < 3 * N
    · rw [if_neg (nI_ge y (by omega)), if_neg (nI_ne0 (by omega) (by omega))]
      have er : rm32 (nI T) (nI N) = nI (T % N) := pk_rem (by omega) (by omega) (by omega)
      rw [er]
      exact ⟨_, _, rfl, FR.rf, Or.inr ⟨by omega, by omega, T % N, rfl, md_lt (by omega), Or.inl ⟨y, rfl⟩⟩⟩
    · rw [if_pos (nI_le (by omega) (by omega))]
      obtain ⟨c', a1, a2, a3, a4⟩ := m_rankC M ho (n := 3 * N) (by omega)
      rw [a1, bd_s, if_neg (nI_ne0 (by omega) (by omega)), a3.1 o 4 (by omega) (by omega) (by omega), a3.1 o 3 (by omega) (by omega) (by omega), h2.2.2.2.2, h2.2.2.2.1, e3, pk_sub (by omega)]
      have hm := md_lt (x := T - 3 * N) (F := F) (by omega)
      have er : rm32 (nI (T - 3 * N)) (nI F) = nI ((T - 3 * N) % F) := pk_rem (by omega) (by omega) (by omega)
      have e5 : nI F - 1 = nI (F - 1) := pk_sub (a := F) (b := 1) (by omega)
      rw [er, e5, pk_sub (by omega)]
      rw [Nat.min_eq_left (by omega : 3 * N ≤ T)] at a2
      obtain ⟨j, hj, ej⟩ := rk_onto (B := BR r (3 * N)) (p := F - 1 - (T - 3 * N) % F) hN (BR_p r _) (by omega)
      rw [s_at' hN hj ej (BR_p r _) a2 a4, bd_s]
      exact ⟨_, _, rfl, a3, Or.inr ⟨by omega, by omega, j, rfl, hj, Or.inr ⟨by omega, ej⟩⟩⟩
theorem m_turnR (h1 : RN r S G N T) : ∃ v r', X11_turnNow r = some (v, r') ∧ FT r r' ∧ TV r N (min G N) T v := by
  obtain ⟨r1, r2, r3, r4, hS, hG, hN, hT, hW, hJ, hH⟩ := id h1
  have hF := F_b h1
  have hfin := s_finR r3 r2 hN hG.2
  obtain ⟨F, eF⟩ : ∃ F, F = min G N := ⟨_, rfl⟩
  rw [← eF] at hF hT hfin ⊢
  unfold X11_turnNow
  rw [r3]
  by_cases z : N = 0
  · subst z
    rw [if_pos (by rfl)]
    exact ⟨_, _, rfl, FT.rf, Or.inl ⟨Or.inl rfl, rfl⟩⟩
  · have e3 : (3 : Int32) * nI N = nI (3 * N) := pk_mul 3 N
    have e3F : (3 : Int32) * nI F = nI (3 * F) := pk_mul 3 F
    rw [if_neg (nI_ne0 (by omega) (by omega)), hfin, bd_s, r4, r3, e3, e3F, nI_add]
    by_cases x : T < 3 * N + 3 * F
    · rw [if_pos (nI_lt x (by omega))]
      by_cases y : T < 3 * N
      · rw [if_neg (nI_ge y (by omega)), if_neg (nI_ne0 (by omega) (by omega))]
        have er : rm32 (nI T) (nI N) = nI (T % N) := pk_rem (by omega) (by omega) (by omega)
        rw [er]
        exact ⟨_, _, rfl, FT.rf, Or.inr ⟨by omega, by omega, T % N, rfl, md_lt (by omega), Or.inl ⟨y, rfl⟩⟩⟩
      · rw [if_pos (nI_le (by omega) (by omega))]
        obtain ⟨ra, a1, a2, a3⟩ := m_bestR h1 (n := 3 * N) (by omega)
        obtain ⟨rb, b1, b2, b3⟩ := m_sorts h1 (BR_p r (3 * N)) a2 (a3.1 0 15 (by decide) (by decide))
        have fb : FT r rb := (FT.B a3).tr (FT.O b2)
        have q15 : rb.1 0 15 = nI N := by rw [fb.1 0 15 (by decide) (by decide) (by decide)]; exact r3
        have q13 : rb.1 0 13 = nI G := by rw [fb.1 0 13 (by decide) (by decide) (by decide)]; exact r2
        have q16 : rb.1 0 16 = nI T := by rw [fb.1 0 16 (by decide) (by decide) (by decide)]; exact r4
        have hfb := s_finR q15 q13 hN hG.2
        rw [← eF] at hfb
        have hm := md_lt (x := T - 3 * N) (F := F) (by omega)
        have er : rm32 (nI (T - 3 * N)) (nI F) = nI ((T - 3 * N) % F) := pk_rem (by omega) (by omega) (by omega)
        have e5 : nI F - 1 = nI (F - 1) := pk_sub (a := F) (b := 1) (by omega)
        rw [a1, bd_s, b1, bd_s, hfb, bd_s, hfb, bd_s, if_neg (nI_ne0 (by omega) (by omega)), q16, q15, e3, pk_sub (by omega), er, e5, pk_sub (by omega), ck_nI _ (by omega) (by decide), nI_clamp (by omega)]
        obtain ⟨j, hj, ej⟩ := rk_onto (B := BR r (3 * N)) (p := F - 1 - (T - 3 * N) % F) hN (BR_p r _) (by omega)
        have e6 : rb.1 22 (F - 1 - (T - 3 * N) % F) = nI j := by rw [← ej]; exact b3 j hj
        rw [e6]
        exact ⟨_, _, rfl, fb, Or.inr ⟨by omega, by omega, j, rfl, hj, Or.inr ⟨by omega, ej⟩⟩⟩
    · rw [if_neg (nI_nlt (by omega) (by omega))]
      exact ⟨_, _, rfl, FT.rf, Or.inl ⟨Or.inr (by omega), rfl⟩⟩
theorem m_roundR (h1 : RN r S G N T) : ∃ r', X11_roundNow r = some (nI (rd N (min G N) T), r') ∧ FT r r' := by
  obtain ⟨v, r', a1, a2, a3⟩ := m_turnR h1
  obtain ⟨r1, r2, r3, r4, hS, hG, hN, hT, hW, hJ, hH⟩ := id h1
  have hF := F_b h1
  have q15 : r'.1 0 15 = nI N := by rw [a2.1 0 15 (by decide) (by decide) (by decide)]; exact r3
  have q13 : r'.1 0 13 = nI G := by rw [a2.1 0 13 (by decide) (by decide) (by decide)]; exact r2
  have q16 : r'.1 0 16 = nI T := by rw [a2.1 0 16 (by decide) (by decide) (by decide)]; exact r4
  have hfb := s_finR q15 q13 hN hG.2
  obtain ⟨F, eF⟩ : ∃ F, F = min G N := ⟨_, rfl⟩
  rw [← eF] at hF hT a3 hfb ⊢
  have hd := rd_6 hN hF.1 hF.2.2 hT
  unfold X11_roundNow
  rw [a1, bd_s]
  rcases a3 with ⟨b1, rfl⟩ | ⟨b1, b2, j, rfl, b3⟩
  · rw [if_neg (by decide), hd.1.mpr b1]
    exact ⟨_, rfl, a2⟩
  · have hj := b3.1
    have e3 : (3 : Int32) * nI N = nI (3 * N) := pk_mul 3 N
    rw [if_pos (nI_pos' (by omega)), q15, q16, e3]
    unfold rd
    rw [if_neg b1]
    by_cases y : T < 3 * N
    · rw [if_neg (nI_ge y (by omega)), if_neg (nI_ne0 (by omega) (by omega)), pk_div (by omega) (by omega) (by omega), if_pos y]
      exact ⟨_, rfl, a2⟩
    · rw [if_pos (nI_le (by omega) (by omega)), hfb, bd_s, if_neg (nI_ne0 (by omega) (by omega)), pk_sub (by omega), pk_div (by omega) (by omega) (by omega), if_neg y]
      have e4 : (3 : Int32) + nI ((T - 3 * N) / F) = nI (3 + (T - 3 * N) / F) := nI_add 3 _
      have e5 : min 6 (3 + (T - 3 * N) / F) = 3 + (T - 3 * N) / F := by
        rcases (by omega : F = 1 ∨ F = 2 ∨ F = 3 ∨ F = 4) with e | e | e | e <;> subst e <;> omega
      rw [e4, e5]
      exact ⟨_, rfl, a2⟩
/-- the first in RANK -/
def LV (r : AH) (N T : Nat) (v : Int32) : Prop := (N = 0 ∧ v = -9) ∨ ∃ j, j < N ∧ v = nI j ∧ rk (BR r T) N j = 0
theorem LV_u {v v' : Int32} (hN : N ≤ 4) (h1 : LV r N T v) (h2 : LV r N T v') : v = v' := by
  rcases h1 with ⟨a, rfl⟩ | ⟨i, a1, rfl, a3⟩
  · rcases h2 with ⟨b, rfl⟩ | ⟨j, b1, rfl, b3⟩
    · rfl
    · omega
  · rcases h2 with ⟨b, rfl⟩ | ⟨j, b1, rfl, b3⟩
    · omega
    · rw [rk_inj hN a1 b1 (BR_p r _) (by rw [a3, b3])]
theorem LV_c {r' : AH} {v : Int32} (a : RA T r r') (h : LV r N T v) : LV r' N T v := by
  rcases h with h | ⟨j, h1, h2, h3⟩
  · exact Or.inl h
  · exact Or.inr ⟨j, h1, h2, by rw [BR_c a (Nat.le_refl T)]; exact h3⟩
theorem m_leadC (M : MR o c r S G N T) (ho : 42 ≤ o) : ∃ v c', X5_leader o c = some (v, c') ∧ FR c c' ∧ LV r N T v := by
  obtain ⟨h1, h2, h3, h4⟩ := id M
  have hN := h1.2.2.2.2.2.2.1
  have hT := h1.2.2.2.2.2.2.2.1
  obtain ⟨c', a1, a2, a3, a4⟩ := m_rankC M ho (n := T) (by omega)
  unfold X5_leader
  rw [h2.2.2.2.2, a1, bd_s, a3.1 o 3 (by omega) (by omega) (by omega), h2.2.2.2.1]
  rw [Nat.min_self] at a2
  by_cases z : N = 0
  · subst z
    rw [if_pos (by rfl)]
    exact ⟨_, _, rfl, a3, Or.inl ⟨rfl, rfl⟩⟩
  · rw [if_neg (nI_ne0 (by omega) (by omega))]
    obtain ⟨j, hj, ej⟩ := rk_onto (B := BR r T) (p := 0) hN (BR_p r _) (by omega)
    have e : X6_at 0 c' = some (nI j, c') := s_at' hN hj ej (BR_p r _) a2 a4
    rw [e, bd_s]
    exact ⟨_, _, rfl, a3, Or.inr ⟨j, hj, rfl, ej⟩⟩
theorem m_ranksR (h1 : RN r S G N T) : ∃ r', X11_ranksNow r = some ((), r') ∧ FT r r' ∧ ∀ j, j < N → r'.1 22 (rk (BR r T) N j) = nI j := by
  obtain ⟨ra, a1, a2, a3⟩ := m_bestR h1 (Nat.le_refl T)
  obtain ⟨rb, b1, b2, b3⟩ := m_sorts h1 (BR_p r T) a2 (a3.1 0 15 (by decide) (by decide))
  refine ⟨rb, ?_, (FT.B a3).tr (FT.O b2), b3⟩
  unfold X11_ranksNow
  rw [h1.2.2.2.1, a1, bd_s, b1, bd_s]
theorem m_leadR (h1 : RN r S G N T) : ∃ v r', X11_leader r = some (v, r') ∧ FT r r' ∧ LV r N T v := by
  have hN := h1.2.2.2.2.2.2.1
  unfold X11_leader
  rw [h1.2.2.1]
  by_cases z : N = 0
  · subst z
    rw [if_pos (by rfl)]
    exact ⟨_, _, rfl, FT.rf, Or.inl ⟨rfl, rfl⟩⟩
  · obtain ⟨r', a1, a2, a3⟩ := m_ranksR h1
    rw [if_neg (nI_ne0 (by omega) (by omega)), a1, bd_s, k_0 _ (by decide)]
    obtain ⟨j, hj, ej⟩ := rk_onto (B := BR r T) (p := 0) hN (BR_p r _) (by omega)
    have e : r'.1 22 (0 : Int32).toNatClampNeg = nI j := by
      show r'.1 22 0 = nI j
      rw [← ej]
      exact a3 j hj
    rw [e]
    exact ⟨_, _, rfl, a2, Or.inr ⟨j, hj, rfl, ej⟩⟩
end TU
end
section
/-! WHAT HOLDS BETWEEN CALLS -/
/-- the reference as it would be, put back from w -/
def rst (w : Nat) (r : AH) : AH := (fun o k => if 2 ≤ o ∧ o ≤ 9 ∧ k < 4 then r.1 17 (120 * w + (4 * (o - 2) + k)) else if 10 ≤ o ∧ o ≤ 12 ∧ k < 24 then r.1 17 (120 * w + (32 + 24 * (o - 10) + k)) else if o = 0 ∧ 12 ≤ k ∧ k ≤ 16 then r.1 17 (120 * w + (104 + (k - 12))) else r.1 o k, r.2)
def LT (c r : AH) : Prop := ∃ L, L ≤ 96 ∧ c.1 0 6 = nI L ∧ r.1 0 21 = nI L ∧ ∀ k, k < L → c.1 2 k = r.1 13 k
def RW (c r : AH) : Prop := ∃ n, n ≤ 12 ∧ c.1 0 8 = nI n ∧ r.1 0 34 = nI n ∧ ∀ k, k < n → ∃ v, v ≤ 99 ∧ c.1 3 k = nI v ∧ r.1 23 k = nI v
def RF (c r : AH) : Prop := ∀ k, k < 7 → c.1 4 k = r.1 1 k
def IM (c r : AH) : Prop := (c.1 0 4 = 0 ∧ r.1 0 25 = 0) ∨ (c.1 0 4 = 1 ∧ r.1 0 25 = 1 ∧ ∃ S G N T, MR 62 c (rst 0 r) S G N T)
def Inv (c r : AH) : Prop := (∃ S G N T, MR 42 c r S G N T) ∧ WT c ∧ LT c r ∧ RW c r ∧ RF c r ∧ IM c r
/-- what the class keeps from call to call -/
def PC (c c' : AH) : Prop := (∀ k, k ≠ 17 → c'.1 0 k = c.1 0 k) ∧ (∀ o k, (2 ≤ o ∧ o ≤ 4) ∨ (42 ≤ o ∧ o < 52) ∨ (62 ≤ o ∧ o < 72) → c'.1 o k = c.1 o k) ∧ (∀ o, (42 ≤ o ∧ o < 52) ∨ (62 ≤ o ∧ o < 72) → c'.2.2 o = c.2.2 o) ∧ ∀ o, 10 ≤ o → o ≤ 30 → c'.2.1 o = c.2.1 o
theorem PC.rf {c : AH} : PC c c := ⟨fun _ _ => rfl, fun _ _ _ => rfl, fun _ _ => rfl, fun _ _ _ => rfl⟩
theorem PC.tr {c c' c2 : AH} (a : PC c c') (b : PC c' c2) : PC c c2 := ⟨fun k h => (b.1 k h).trans (a.1 k h), fun o k h => (b.2.1 o k h).trans (a.2.1 o k h), fun o h => (b.2.2.1 o h).trans (a.2.2.1 o h), fun o h1 h2 => (b.2.2.2 o h1 h2).trans (a.2.2.2 o h1 h2)⟩
theorem PC.FR {c c' : AH} (f : FR c c') : PC c c' := ⟨fun k _ => f.1 0 k (by omega) (by omega) (by omega), fun o k h => f.1 o k (by omega) (by omega) (by omega), fun o _ => by rw [f.2], fun o _ _ => by rw [f.2]⟩
/-- int part and ways the same, the table of ways the same -/
theorem PC.L {c c' : AH} (h1 : c'.1 = c.1) (h2 : c'.2.2 = c.2.2) (h3 : ∀ o, 10 ≤ o → o ≤ 30 → c'.2.1 o = c.2.1 o) : PC c c' := ⟨fun k _ => by rw [h1], fun o k _ => by rw [h1], fun o _ => by rw [h2], h3⟩
/-- what the reference keeps from call to call -/
def PR (T : Nat) (r r' : AH) : Prop := (∀ k, (12 ≤ k ∧ k ≤ 16) ∨ k = 21 ∨ k = 25 ∨ k = 34 → r'.1 0 k = r.1 0 k) ∧ (∀ o k, 1 ≤ o → o ≤ 9 → r'.1 o k = r.1 o k) ∧ (∀ t, t < T → r'.1 10 t = r.1 10 t ∧ r'.1 11 t = r.1 11 t) ∧ (∀ k, r'.1 13 k = r.1 13 k ∧ r'.1 23 k = r.1 23 k) ∧ ∀ k, k < 120 → r'.1 17 k = r.1 17 k
theorem PR.rf {T : Nat} {r : AH} : PR T r r := ⟨fun _ _ => rfl, fun _ _ _ _ => rfl, fun _ _ => ⟨rfl, rfl⟩, fun _ => ⟨rfl, rfl⟩, fun _ _ => rfl⟩
theorem PR.tr {T : Nat} {r r' r2 : AH} (a : PR T r r') (b : PR T r' r2) : PR T r r2 := ⟨fun k h => (b.1 k h).trans (a.1 k h), fun o k h1 h2 => (b.2.1 o k h1 h2).trans (a.2.1 o k h1 h2), fun t ht => ⟨(b.2.2.1 t ht).1.trans (a.2.2.1 t ht).1, (b.2.2.1 t ht).2.trans (a.2.2.1 t ht).2⟩, fun k => ⟨(b.2.2.2.1 k).1.trans (a.2.2.2.1 k).1, (b.2.2.2.1 k).2.trans (a.2.2.2.1 k).2⟩, fun k h => (b.2.2.2.2 k h).trans (a.2.2.2.2 k h)⟩
theorem PR.FT {T : Nat} {r r' : AH} (f : FT r r') : PR T r r' := ⟨fun k _ => f.1 0 k (by omega) (by omega) (by omega), fun o k _ _ => f.1 o k (by omega) (by omega) (by omega), fun t _ => ⟨f.1 10 t (by omega) (by omega) (by omega), f.1 11 t (by omega) (by omega) (by omega)⟩, fun k => ⟨f.1 13 k (by omega) (by omega) (by omega), f.1 23 k (by omega) (by omega) (by omega)⟩, fun k _ => f.1 17 k (by omega) (by omega) (by omega)⟩
theorem PR.L {T : Nat} {r r' : AH} (h1 : r'.1 = r.1) : PR T r r' := ⟨fun k _ => by rw [h1], fun o k _ _ => by rw [h1], fun t _ => by rw [h1]; exact ⟨rfl, rfl⟩, fun k => by rw [h1]; exact ⟨rfl, rfl⟩, fun k _ => by rw [h1]⟩
theorem RA.PR {T : Nat} {r r' : AH} (p : PR T r r') : RA T r r' := ⟨fun k h1 h2 => p.1 k (Or.inl ⟨h1, h2⟩), fun o k h1 h2 _ => p.2.1 o k (by omega) h2, p.2.2.1⟩
theorem RA.rst {T : Nat} {r r' : AH} (hT : T ≤ 24) (h : ∀ k, k < 120 → r'.1 17 k = r.1 17 k) : RA T (rst 0 r) (rst 0 r') := by
  refine ⟨fun k h1 h2 => ?_, fun o k h1 h2 h3 => ?_, fun t ht => ?_⟩
  · show (if 2 ≤ 0 ∧ 0 ≤ 9 ∧ k < 4 then r'.1 17 (120 * 0 + (4 * (0 - 2) + k)) else if 10 ≤ 0 ∧ 0 ≤ 12 ∧ k < 24 then r'.1 17 (120 * 0 + (32 + 24 * (0 - 10) + k)) else if 0 = 0 ∧ 12 ≤ k ∧ k ≤ 16 then r'.1 17 (120 * 0 + (104 + (k - 12))) else r'.1 0 k) = (if 2 ≤ 0 ∧ 0 ≤ 9 ∧ k < 4 then r.1 17 (120 * 0 + (4 * (0 - 2) + k)) else if 10 ≤ 0 ∧ 0 ≤ 12 ∧ k < 24 then r.1 17 (120 * 0 + (32 + 24 * (0 - 10) + k)) else if 0 = 0 ∧ 12 ≤ k ∧ k ≤ 16 then r.1 17 (120 * 0 + (104 + (k - 12))) else r.1 0 k)
    rw [if_neg (by omega), if_neg (by omega), if_pos (by omega), if_neg (by omega), if_neg (by omega), if_pos (by omega)]
    exact h _ (by omega)
  · show (if 2 ≤ o ∧ o ≤ 9 ∧ k < 4 then r'.1 17 (120 * 0 + (4 * (o - 2) + k)) else if 10 ≤ o ∧ o ≤ 12 ∧ k < 24 then r'.1 17 (120 * 0 + (32 + 24 * (o - 10) + k)) else if o = 0 ∧ 12 ≤ k ∧ k ≤ 16 then r'.1 17 (120 * 0 + (104 + (k - 12))) else r'.1 o k) = (if 2 ≤ o ∧ o ≤ 9 ∧ k < 4 then r.1 17 (120 * 0 + (4 * (o - 2) + k)) else if 10 ≤ o ∧ o ≤ 12 ∧ k < 24 then r.1 17 (120 * 0 + (32 + 24 * (o - 10) + k)) else if o = 0 ∧ 12 ≤ k ∧ k ≤ 16 then r.1 17 (120 * 0 + (104 + (k - 12))) else r.1 o k)
    rw [if_pos (by omega), if_pos (by omega)]
    exact h _ (by omega)
  · have key : ∀ o, o = 10 ∨ o = 11 → (if 2 ≤ o ∧ o ≤ 9 ∧ t < 4 then r'.1 17 (120 * 0 + (4 * (o - 2) + t)) else if 10 ≤ o ∧ o ≤ 12 ∧ t < 24 then r'.1 17 (120 * 0 + (32 + 24 * (o - 10) + t)) else if o = 0 ∧ 12 ≤ t ∧ t ≤ 16 then r'.1 17 (120 * 0 + (104 + (t - 12))) else r'.1 o t) = (if 2 ≤ o ∧ o ≤ 9 ∧ t < 4 then r.1 17 (120 * 0 + (4 * (o - 2) + t)) else if 10 ≤ o ∧ o ≤ 12 ∧ t < 24 then r.1 17 (120 * 0 + (32 + 24 * (o - 10) + t)) else if o = 0 ∧ 12 ≤ t ∧ t ≤ 16 then r.1 17 (120 * 0 + (104 + (t - 12))) else r.1 o t) := by
      intro o ho
      rw [if_neg (by omega), if_pos (by omega), if_neg (by omega), if_pos (by omega)]
      exact h _ (by omega)
    exact ⟨key 10 (Or.inl rfl), key 11 (Or.inr rfl)⟩
/-- nothing kept is new -/
theorem Inv_f {c r c' r' : AH} (h : Inv c r) (p : PC c c') (q : ∀ T, r.1 0 16 = nI T → T ≤ 24 → PR T r r') : Inv c' r' := by
  obtain ⟨⟨S, G, N, T, M⟩, h2, ⟨L, l1, l2, l3, l4⟩, ⟨n, n1, n2, n3, n4⟩, h5, h6⟩ := h
  have hN := M.1.2.2.2.2.2.2.1
  have hT := M.1.2.2.2.2.2.2.2.1
  have q := q T M.1.2.2.2.1 (by omega)
  refine ⟨⟨S, G, N, T, MR_r (RA.PR q) (MR_cc M (fun k hk => p.2.1 42 k (by omega)) (fun i k hi _ _ => p.2.1 _ k (by omega)) (fun i hi => p.2.2.1 _ (by omega)) (fun t _ => ⟨p.2.1 _ t (by omega), p.2.1 _ t (by omega)⟩))⟩, fun m j hm => ?_, ⟨L, l1, ?_, ?_, fun k hk => ?_⟩, ⟨n, n1, ?_, ?_, fun k hk => ?_⟩, fun k hk => ?_, ?_⟩
  · rw [p.2.2.2 _ (by omega) (by omega)]
    exact h2 m j hm
  · rw [p.1 6 (by decide)]; exact l2
  · rw [q.1 21 (by omega)]; exact l3
  · rw [p.2.1 2 k (by omega), (q.2.2.2.1 k).1]; exact l4 k hk
  · rw [p.1 8 (by decide)]; exact n2
  · rw [q.1 34 (by omega)]; exact n3
  · rw [p.2.1 3 k (by omega), (q.2.2.2.1 k).2]; exact n4 k hk
  · rw [p.2.1 4 k (by omega), q.2.1 1 k (by omega) (by omega)]; exact h5 k hk
  · rcases h6 with ⟨a, b⟩ | ⟨a, b, S', G', N', T', M'⟩
    · exact Or.inl ⟨by rw [p.1 4 (by decide)]; exact a, by rw [q.1 25 (by omega)]; exact b⟩
    · exact Or.inr ⟨by rw [p.1 4 (by decide)]; exact a, by rw [q.1 25 (by omega)]; exact b, S', G', N', T', MR_r (RA.rst (by have := M'.1.2.2.2.2.2.2.2.1; have := M'.1.2.2.2.2.2.2.1; omega) q.2.2.2.2) (MR_cc M' (fun k hk => p.2.1 62 k (by omega)) (fun i k hi _ _ => p.2.1 _ k (by omega)) (fun i hi => p.2.2.1 _ (by omega)) (fun t _ => ⟨p.2.1 _ t (by omega), p.2.1 _ t (by omega)⟩))⟩

/-- a refusal counted on both sides -/
theorem inv_ref {c r : AH} (h : Inv c r) {w : Nat} (hw : w < 7) : Inv (sI c 4 w (c.1 4 w + 1)) (sI r 1 w (r.1 1 w + 1)) := by
  obtain ⟨⟨S, G, N, T, M⟩, h2, ⟨L, l1, l2, l3, l4⟩, ⟨n, n1, n2, n3, n4⟩, h5, h6⟩ := h
  refine ⟨⟨S, G, N, T, MR_r (r := r) ⟨fun k _ _ => by rw [sI_at, if_neg (by omega)], fun o k _ _ _ => by rw [sI_at, if_neg (by omega)], fun t _ => ⟨by rw [sI_at, if_neg (by omega)], by rw [sI_at, if_neg (by omega)]⟩⟩ (MR_cc M (fun k hk => by rw [sI_at, if_neg (by omega)]) (fun i k hi _ _ => by rw [sI_at, if_neg (by omega)]) (fun i hi => rfl) (fun t _ => ⟨by rw [sI_at, if_neg (by omega)], by rw [sI_at, if_neg (by omega)]⟩))⟩, h2, ⟨L, l1, ?_, ?_, fun k hk => ?_⟩, ⟨n, n1, ?_, ?_, fun k hk => ?_⟩, fun k hk => ?_, ?_⟩
  · rw [sI_at, if_neg (by omega)]; exact l2
  · rw [sI_at, if_neg (by omega)]; exact l3
  · rw [sI_at, if_neg (by omega), sI_at, if_neg (by omega)]; exact l4 k hk
  · rw [sI_at, if_neg (by omega)]; exact n2
  · rw [sI_at, if_neg (by omega)]; exact n3
  · rw [sI_at, if_neg (by omega), sI_at, if_neg (by omega)]; exact n4 k hk
  · rw [sI_at, sI_at, h5 w hw]
    by_cases e : k = w
    · rw [if_pos ⟨rfl, e⟩, if_pos ⟨rfl, e⟩]
    · rw [if_neg (fun z => e z.2), if_neg (fun z => e z.2)]
      exact h5 k hk
  · rcases h6 with ⟨a, b⟩ | ⟨a, b, S', G', N', T', M'⟩
    · exact Or.inl ⟨by rw [sI_at, if_neg (by omega)]; exact a, by rw [sI_at, if_neg (by omega)]; exact b⟩
    · exact Or.inr ⟨by rw [sI_at, if_neg (by omega)]; exact a, by rw [sI_at, if_neg (by omega)]; exact b, S', G', N', T', MR_r (RA.rst (by have := M'.1.2.2.2.2.2.2.2.1; have := M'.1.2.2.2.2.2.2.1; omega) (fun k _ => by rw [sI_at, if_neg (by omega)])) (MR_cc M' (fun k hk => by rw [sI_at, if_neg (by omega)]) (fun i k hi _ _ => by rw [sI_at, if_neg (by omega)]) (fun i hi => rfl) (fun t _ => ⟨by rw [sI_at, if_neg (by omega)], by rw [sI_at, if_neg (by omega)]⟩))⟩
/-- a jumper's number, or nobody -/
theorem jm (a : Int32) {N : Nat} (hN : N ≤ 4) : (a < 0 ∨ nI N ≤ a) ∨ ∃ j, j < N ∧ a = nI j := by
  rcases pk_ix a (n := N) (by omega) with h | h | h
  · exact Or.inl (Or.inl h)
  · exact Or.inl (Or.inr h)
  · exact Or.inr h
theorem nb_n {h : AH} {N : Nat} {a : Int32} (e : h.1 42 3 = nI N) (hz : a < 0 ∨ nI N ≤ a) : X10_nobody a h = some (-1, h) := by
  rw [s_nobody, e, if_pos hz]
theorem nb_y {h : AH} {N j : Nat} (e : h.1 42 3 = nI N) (hN : N ≤ 4) (hj : j < N) : X10_nobody (nI j) h = some (0, h) := by
  rw [s_nobody, e, if_neg]
  exact fun z => z.elim (nI_pos (by omega)) (nI_ge hj (by omega))
theorem ij_n {h : AH} {N : Nat} {a : Int32} (e : h.1 0 15 = nI N) (hz : a < 0 ∨ nI N ≤ a) : X11_isJumper a h = some (0, h) := by
  rw [s_isJumper, e, if_pos hz]
theorem ij_y {h : AH} {N j : Nat} (e : h.1 0 15 = nI N) (hN : N ≤ 4) (hj : j < N) : X11_isJumper (nI j) h = some (1, h) := by
  rw [s_isJumper, e, if_neg]
  exact fun z => z.elim (nI_pos (by omega)) (nI_ge hj (by omega))
theorem bd_id {α : Type} (F : Option (α × AH)) : (bd F fun a h => some (a, h)) = F := by
  cases F with
  | none => rfl
  | some p => rfl
end
section
theorem lo_2 (h : AH) : X11_lower (-2) h = some (1000000000 - (-2), sI h 1 2 (h.1 1 2 + 1)) := lo_g (by decide) (by decide) h
theorem ll_g {x : Int32} {w : Nat} (h3 : ¬ (-x < 0 ∨ 7 ≤ (-x).toNatClampNeg)) (h4 : (-x).toNatClampNeg = w) (h : AH) : X11_lowest x h = some (4000000000000000000 - x.toInt64, sI h 1 w (h.1 1 w + 1)) := by
  unfold X11_lowest
  rw [ck_in _ h3, ck_in _ h3, vl_e, h4]
theorem ll_2 (h : AH) : X11_lowest (-2) h = some (4000000000000000000 - (-2 : Int32).toInt64, sI h 1 2 (h.1 1 2 + 1)) := ll_g (by decide) (by decide) h
theorem ll_3 (h : AH) : X11_lowest (-3) h = some (4000000000000000000 - (-3 : Int32).toInt64, sI h 1 3 (h.1 1 3 + 1)) := ll_g (by decide) (by decide) h
theorem ll_4 (h : AH) : X11_lowest (-4) h = some (4000000000000000000 - (-4 : Int32).toInt64, sI h 1 4 (h.1 1 4 + 1)) := ll_g (by decide) (by decide) h
theorem ll_6 (h : AH) : X11_lowest (-6) h = some (4000000000000000000 - (-6 : Int32).toInt64, sI h 1 6 (h.1 1 6 + 1)) := ll_g (by decide) (by decide) h
theorem n_64 : ((-6 : Int32) = -4) = False := eq_false (by decide)
theorem n_04 : ((0 : Int32) = -4) = False := eq_false (by decide)
/-! the meet alone is new -/
def PCx (c c' : AH) : Prop := (∀ k, k ≠ 17 → c'.1 0 k = c.1 0 k) ∧ (∀ o k, (2 ≤ o ∧ o ≤ 4) ∨ (62 ≤ o ∧ o < 72) → c'.1 o k = c.1 o k) ∧ (∀ o, 62 ≤ o → o < 72 → c'.2.2 o = c.2.2 o) ∧ ∀ o, 10 ≤ o → o ≤ 30 → c'.2.1 o = c.2.1 o
def PRx (r r' : AH) : Prop := (∀ k, k = 21 ∨ k = 25 ∨ k = 34 → r'.1 0 k = r.1 0 k) ∧ (∀ k, r'.1 1 k = r.1 1 k) ∧ (∀ k, r'.1 13 k = r.1 13 k ∧ r'.1 23 k = r.1 23 k) ∧ ∀ k, k < 120 → r'.1 17 k = r.1 17 k
theorem PCx.tr {c c' c2 : AH} (a : PCx c c') (b : PCx c' c2) : PCx c c2 := ⟨fun k h => (b.1 k h).trans (a.1 k h), fun o k h => (b.2.1 o k h).trans (a.2.1 o k h), fun o h h2 => (b.2.2.1 o h h2).trans (a.2.2.1 o h h2), fun o h1 h2 => (b.2.2.2 o h1 h2).trans (a.2.2.2 o h1 h2)⟩
theorem PRx.tr {r r' r2 : AH} (a : PRx r r') (b : PRx r' r2) : PRx r r2 := ⟨fun k h => (b.1 k h).trans (a.1 k h), fun k => (b.2.1 k).trans (a.2.1 k), fun k => ⟨(b.2.2.1 k).1.trans (a.2.2.1 k).1, (b.2.2.1 k).2.trans (a.2.2.1 k).2⟩, fun k h => (b.2.2.2 k h).trans (a.2.2.2 k h)⟩
theorem PC.x {c c' : AH} (p : PC c c') : PCx c c' := ⟨p.1, fun o k h => p.2.1 o k (by omega), fun o h1 h2 => p.2.2.1 o (by omega), p.2.2.2⟩
theorem PR.x {T : Nat} {r r' : AH} (p : PR T r r') : PRx r r' := ⟨fun k h => p.1 k (by omega), fun k => p.2.1 1 k (by omega) (by omega), p.2.2.2.1, p.2.2.2.2⟩
theorem inv_M {c r c' r' : AH} (I : Inv c r) {S G N T : Nat} (M' : MR 42 c' r' S G N T) (p : PCx c c') (q : PRx r r') : Inv c' r' := by
  obtain ⟨-, h2, ⟨L, l1, l2, l3, l4⟩, ⟨n, n1, n2, n3, n4⟩, h5, h6⟩ := I
  refine ⟨⟨S, G, N, T, M'⟩, fun m j hm => ?_, ⟨L, l1, ?_, ?_, fun k hk => ?_⟩, ⟨n, n1, ?_, ?_, fun k hk => ?_⟩, fun k hk => ?_, ?_⟩
  · rw [p.2.2.2 _ (by omega) (by omega)]
    exact h2 m j hm
  · rw [p.1 6 (by decide)]; exact l2
  · rw [q.1 21 (by omega)]; exact l3
  · rw [p.2.1 2 k (by omega), (q.2.2.1 k).1]; exact l4 k hk
  · rw [p.1 8 (by decide)]; exact n2
  · rw [q.1 34 (by omega)]; exact n3
  · rw [p.2.1 3 k (by omega), (q.2.2.1 k).2]; exact n4 k hk
  · rw [p.2.1 4 k (by omega), q.2.1 k]; exact h5 k hk
  · rcases h6 with ⟨a, b⟩ | ⟨a, b, S', G', N', T', M'⟩
    · exact Or.inl ⟨by rw [p.1 4 (by decide)]; exact a, by rw [q.1 25 (by omega)]; exact b⟩
    · exact Or.inr ⟨by rw [p.1 4 (by decide)]; exact a, by rw [q.1 25 (by omega)]; exact b, S', G', N', T', MR_r (RA.rst (by have := M'.1.2.2.2.2.2.2.2.1; have := M'.1.2.2.2.2.2.2.1; omega) q.2.2.2) (MR_cc M' (fun k hk => p.2.1 62 k (by omega)) (fun i k hi _ _ => p.2.1 _ k (by omega)) (fun i hi => p.2.2.1 _ (by omega) (by omega)) (fun t _ => ⟨p.2.1 _ t (by omega), p.2.1 _ t (by omega)⟩))⟩
/-- a jumper's field is new on both sides -/
theorem MR_fld {c r : AH} {S G N T j k : Nat} {v : Int32} (M : MR 42 c r S G N T) (hj : j < 4) (hk : 2 ≤ k ∧ k ≤ 8) (hJ : NJ (fun q => if q = k then v else RJ r j q)) : MR 42 (sI c (48 + j) k v) (sI r (k + 1) j v) S G N T := by
  obtain ⟨h1, h2, h3, h4⟩ := M
  have hT := h1.2.2.2.2.2.2.2.1
  have hN := h1.2.2.2.2.2.2.1
  obtain ⟨r1, r2, r3, r4, hS, hG, hN, hT, hW, hJ4, hH⟩ := h1
  have eJ : ∀ i, i < 4 → ∀ q, 1 ≤ q → q ≤ 8 → RJ (sI r (k + 1) j v) i q = if i = j ∧ q = k then v else RJ r i q := by
    intro i hi q q1 q2
    show (sI r (k + 1) j v).1 (q + 1) i = _
    rw [sI_at]
    by_cases c0 : i = j ∧ q = k
    · rw [if_pos c0, if_pos (by omega)]
    · rw [if_neg c0, if_neg (by omega)]
      rfl
  have eB : ∀ n, BR (sI r (k + 1) j v) n = BR r n := fun n => bst_c n (fun t _ => ⟨by unfold wR; rw [sI_at, if_neg (by omega)], by unfold fR; rw [sI_at, if_neg (by omega)]⟩)
  refine ⟨⟨?_, ?_, ?_, ?_, hS, hG, hN, hT, ?_, fun i hi => ?_, fun t ht => ?_⟩, ?_, fun i hi => ⟨fun q q1 q2 => ?_, ?_⟩, fun t ht => ?_⟩
  · rw [sI_at, if_neg (by omega)]; exact r1
  · rw [sI_at, if_neg (by omega)]; exact r2
  · rw [sI_at, if_neg (by omega)]; exact r3
  · rw [sI_at, if_neg (by omega)]; exact r4
  · rw [sI_at, if_neg (by omega)]; exact hW
  · by_cases c0 : i = j
    · subst c0
      refine NJ_J (J := fun q => if q = k then v else RJ r i q) (fun q q1 q2 => ?_) hJ
      rw [eJ i hi q q1 q2]
      by_cases d : q = k
      · rw [if_pos d, if_pos ⟨rfl, d⟩]
      · rw [if_neg d, if_neg (fun z => d z.2)]
    · refine NJ_J (J := RJ r i) (fun q q1 q2 => ?_) (hJ4 i hi)
      rw [eJ i hi q q1 q2, if_neg (fun z => c0 z.1)]
  · obtain ⟨⟨w1, w2⟩, w3⟩ := hH t ht
    have e1 : (sI r (k + 1) j v).1 10 t = r.1 10 t := by rw [sI_at, if_neg (by omega)]
    have e2 : (sI r (k + 1) j v).1 11 t = r.1 11 t := by rw [sI_at, if_neg (by omega)]
    refine ⟨⟨by rw [e1]; exact w1, by rw [e2]; exact w2⟩, ?_⟩
    have e3 : wR (sI r (k + 1) j v) t = wR r t := by unfold wR; rw [e1]
    rw [e3]
    refine ⟨w3.1, ?_⟩
    rw [eB]
    exact w3.2
  · rw [sI_at, if_neg (by omega), sI_at, if_neg (by omega), sI_at, if_neg (by omega), sI_at, if_neg (by omega), sI_at, if_neg (by omega), sI_at, if_neg (by omega)]
    exact h2
  · rw [eJ i hi q q1 q2, sI_at]
    by_cases c0 : i = j ∧ q = k
    · rw [if_pos c0, if_pos (by omega)]
    · rw [if_neg c0, if_neg (by omega)]
      exact (h3 i hi).1 q q1 q2
  · obtain ⟨κ, x, y, z⟩ := (h3 i hi).2
    exact ⟨κ, x, y, by rw [sI_at, if_neg (by omega)]; exact z⟩
  · rw [sI_at, if_neg (by omega), sI_at, if_neg (by omega), sI_at, if_neg (by omega), sI_at, if_neg (by omega)]
    exact h4 t ht
theorem PCx.fld (c : AH) {o k : Nat} (v : Int32) (ho : 42 ≤ o ∧ o < 52) : PCx c (sI c o k v) := ⟨fun q _ => by rw [sI_at, if_neg (by omega)], fun p q h => by rw [sI_at, if_neg (by omega)], fun _ _ _ => rfl, fun _ _ _ => rfl⟩
theorem PRx.fld (r : AH) {o k : Nat} (v : Int32) (ho : (2 ≤ o ∧ o ≤ 12) ∨ (o = 0 ∧ 12 ≤ k ∧ k ≤ 16)) : PRx r (sI r o k v) := ⟨fun q _ => by rw [sI_at, if_neg (by omega)], fun q => by rw [sI_at, if_neg (by omega)], fun q => ⟨by rw [sI_at, if_neg (by omega)], by rw [sI_at, if_neg (by omega)]⟩, fun q _ => by rw [sI_at, if_neg (by omega)]⟩
theorem nj_mark {J : Nat → Int32} {v : Int32} (h : NJ J) (h1 : ¬ v < 0) (h2 : ¬ 2400 < v) : NJ (fun q => if q = 8 then v else J q) := by
  obtain ⟨κ, f, a, g, s, p, l, m, hκ, hf, ha, hg, hs, hpp, hl, hm, e1, e2, e3, e4, e5, e6, e7, e8⟩ := h
  obtain ⟨x, hx, rfl⟩ := nI_of2 (M := 2400) (n := 2400) rfl h1 (Int32.not_lt.mp h2)
  exact ⟨κ, f, a, g, s, p, l, x, hκ, hf, ha, hg, hs, hpp, hl, hx, e1, e2, e3, e4, e5, e6, e7, rfl⟩
theorem nj_look {J : Nat → Int32} {v : Int32} (h : NJ J) (h1 : ¬ v < 0) (h2 : ¬ 4 < v) : NJ (fun q => if q = 7 then v else J q) := by
  obtain ⟨κ, f, a, g, s, p, l, m, hκ, hf, ha, hg, hs, hpp, hl, hm, e1, e2, e3, e4, e5, e6, e7, e8⟩ := h
  obtain ⟨x, hx, rfl⟩ := nI_of2 (M := 4) (n := 4) rfl h1 (Int32.not_lt.mp h2)
  exact ⟨κ, f, a, g, s, p, x, m, hκ, hf, ha, hg, hs, hpp, hx, hm, e1, e2, e3, e4, e5, e6, rfl, e8⟩
end
section
/-! A TRY PUT DOWN; tries counted -/
theorem s_at42 {j : Nat} (hj : j < 4) (h : AH) : X5_at 42 (nI j) h = some (48 + j, h) := s_at 42 hj h
theorem zc42 {j : Nat} (hj : j < 4) : ZC.1[48 + j]? = some (.inr 2) := zc_j (o := 42) (Or.inl rfl) hj
theorem s_putsTry {r : AH} {T : Nat} {res off : Int32} {a : Int32} (e : r.1 0 16 = nI T) (hT : T < 24) : X11_putsTry a res off r = some ((), sI (sI (sI (sI r 10 T a) 11 T res) 12 T off) 0 16 (nI (T + 1))) := by
  unfold X11_putsTry
  rw [e, ck_nI _ hT (by decide), vl_e, nI_clamp (by omega), sI_at, if_neg (by omega), e, ck_nI _ hT (by decide), vl_e, nI_clamp (by omega), sI_at, if_neg (by omega), sI_at, if_neg (by omega), e, ck_nI _ hT (by decide), vl_e, nI_clamp (by omega), sI_at, if_neg (by omega), sI_at, if_neg (by omega), sI_at, if_neg (by omega), e, vl_e, nI_1]
/-- what the class's record answers -/
def told (J : Nat → Int32) (wd b loss : Int32) : Int32 := if 0 ≤ b then lenS (J 1) (J 2) (J 6) wd b loss else b
theorem s_record {c : AH} {o T j : Nat} {b loss : Int32} (ho : o = 42 ∨ o = 52 ∨ o = 62) (hj : j < 4) (hk : JK c (o + 6 + j)) (e : c.1 o 4 = nI T) (hT : T < 24) :
    ∃ c', X5_record o (nI j) b loss c = some (told (c.1 (o + 6 + j)) (c.1 o 1) b loss, c') ∧ c'.2 = c.2 ∧ c'.1 o 4 = nI (T + 1) ∧ c'.1 (o + 2) T = nI j ∧ c'.1 (o + 4) T = told (c.1 (o + 6 + j)) (c.1 o 1) b loss ∧ ∀ p q, ¬ (p = o ∧ q = 4) → ¬ (p = o + 2 ∧ q = T) → ¬ (p = o + 4 ∧ q = T) → ¬ (p = o + 3 ∧ q = T) → ¬ (p = o + 5 ∧ q = T) → c'.1 p q = c.1 p q := by
  have key : ∀ s0 : Int32, ∃ c', X5_record_j31 o (nI j) b (o + 6 + j) s0 c = some (s0, c') ∧ c'.2 = c.2 ∧ c'.1 o 4 = nI (T + 1) ∧ c'.1 (o + 2) T = nI j ∧ c'.1 (o + 4) T = s0 ∧ ∀ p q, ¬ (p = o ∧ q = 4) → ¬ (p = o + 2 ∧ q = T) → ¬ (p = o + 4 ∧ q = T) → ¬ (p = o + 3 ∧ q = T) → ¬ (p = o + 5 ∧ q = T) → c'.1 p q = c.1 p q := by
    intro s0
    unfold X5_record_j31
    rw [e, if_neg (show ¬ (24 : Int32) ≤ nI T from nI_ge (b := 24) hT (by decide)), ck_nI _ hT (by decide), vl_e, nI_clamp (by omega), sI_at, if_neg (by omega), e, ck_nI _ hT (by decide), vl_e, nI_clamp (by omega), sI_at, if_neg (by omega), sI_at, if_neg (by omega), e, ck_nI _ hT (by decide), vl_e, nI_clamp (by omega)]
    obtain ⟨h8, e8⟩ : ∃ g, g = sI (sI (sI c (o + 2) T (nI j)) (o + 3) T b) (o + 4) T s0 := ⟨_, rfl⟩
    rw [← e8]
    have q : ∀ p k, h8.1 p k = if p = o + 4 ∧ k = T then s0 else if p = o + 3 ∧ k = T then b else if p = o + 2 ∧ k = T then nI j else c.1 p k := by
      intro p k
      rw [e8, sI_at, sI_at, sI_at]
    have h82 : h8.2 = c.2 := by rw [e8]; rfl
    have k8 : JK h8 (o + 6 + j) := by
      obtain ⟨κ, x, y, z⟩ := hk
      exact ⟨κ, x, by rw [h82]; exact y, by rw [q, if_neg (by omega), if_neg (by omega), if_neg (by omega)]; exact z⟩
    have e84 : h8.1 o 4 = nI T := by rw [q, if_neg (by omega), if_neg (by omega), if_neg (by omega)]; exact e
    rw [s_lenC k8, bd_s, e84, ck_nI _ hT (by decide), vl_e, nI_clamp (by omega), sI_at, if_neg (by omega), e84, vl_e, nI_1]
    refine ⟨_, rfl, h82, ?_, ?_, ?_, fun p k n1 n2 n3 n4 n5 => ?_⟩
    · rw [sI_at, if_pos ⟨rfl, rfl⟩]
    · rw [sI_at, if_neg (by omega), sI_at, if_neg (by omega), q, if_neg (by omega), if_neg (by omega), if_pos ⟨rfl, rfl⟩]
    · rw [sI_at, if_neg (by omega), sI_at, if_neg (by omega), q, if_pos ⟨rfl, rfl⟩]
    · rw [sI_at, if_neg n1, sI_at, if_neg n5, q, if_neg n3, if_neg n4, if_neg n2]
  unfold X5_record
  rw [s_at o hj, bd_s, cs_in _ (zc_j ho hj)]
  unfold told
  by_cases h : 0 ≤ b
  · rw [if_pos h, if_pos h, s_lenC hk, bd_s]
    exact key _
  · rw [if_neg h, if_neg h]
    exact key _
/-- a try put down on both sides -/
theorem m_rec {o S G N T j : Nat} {c c' r r' : AH} {res : Int32} (M : MR o c r S G N T) (hT : T < 3 * N + 3 * min G N) (hA : TA r N (min G N) T j) (hres : res = -9 ∨ res = -8 ∨ 0 ≤ res.toInt)
    (c1 : c'.2.2 = c.2.2) (c2 : c'.1 o 4 = nI (T + 1)) (c3 : c'.1 (o + 2) T = nI j) (c4 : c'.1 (o + 4) T = res) (c5 : ∀ p q, ¬ (p = o ∧ q = 4) → ¬ (p = o + 2 ∧ q = T) → ¬ (p = o + 4 ∧ q = T) → ¬ (p = o + 3 ∧ q = T) → ¬ (p = o + 5 ∧ q = T) → c'.1 p q = c.1 p q)
    (d2 : r'.1 0 16 = nI (T + 1)) (d3 : r'.1 10 T = nI j) (d4 : r'.1 11 T = res) (d5 : ∀ p q, ¬ (p = 0 ∧ q = 16) → ¬ (p = 10 ∧ q = T) → ¬ (p = 11 ∧ q = T) → ¬ (p = 12 ∧ q = T) → p ≤ 12 → r'.1 p q = r.1 p q) : MR o c' r' S G N (T + 1) := by
  obtain ⟨h1, h2, h3, h4⟩ := M
  obtain ⟨r1, r2, r3, r4, hS, hG, hN, hT', hW, hJ, hH⟩ := h1
  have hj := hA.1
  have eB : ∀ n, n ≤ T → BR r' n = BR r n := fun n hn => bst_c n (fun t ht => ⟨by unfold wR; rw [d5 10 t (by omega) (by omega) (by omega) (by omega) (by omega)], by unfold fR; rw [d5 11 t (by omega) (by omega) (by omega) (by omega) (by omega)]⟩)
  have eJ : ∀ i, i < 4 → ∀ k, 1 ≤ k → k ≤ 8 → RJ r' i k = RJ r i k := fun i hi k k1 k2 => d5 (k + 1) i (by omega) (by omega) (by omega) (by omega) (by omega)
  have eT : ∀ t i, t ≤ T → TA r N (min G N) t i → TA r' N (min G N) t i := by
    intro t i ht ha
    refine ⟨ha.1, ?_⟩
    rcases ha.2 with z | z
    · exact Or.inl z
    · exact Or.inr ⟨z.1, by rw [eB _ (by omega)]; exact z.2⟩
  refine ⟨⟨?_, ?_, ?_, d2, hS, hG, hN, by omega, ?_, fun i hi => ?_, fun t ht => ?_⟩, ⟨?_, ?_, ?_, ?_, c2⟩, fun i hi => ⟨fun k k1 k2 => ?_, ?_⟩, fun t ht => ?_⟩
  · rw [d5 0 12 (by omega) (by omega) (by omega) (by omega) (by omega)]; exact r1
  · rw [d5 0 13 (by omega) (by omega) (by omega) (by omega) (by omega)]; exact r2
  · rw [d5 0 15 (by omega) (by omega) (by omega) (by omega) (by omega)]; exact r3
  · rw [d5 0 14 (by omega) (by omega) (by omega) (by omega) (by omega)]; exact hW
  · exact NJ_J (fun k k1 k2 => (eJ i hi k k1 k2).symm) (hJ i hi)
  · by_cases z : t = T
    · subst z
      refine ⟨⟨⟨j, hj, d3⟩, by rw [d4]; exact hres⟩, ?_⟩
      have e : wR r' t = j := by unfold wR; rw [d3, nI_clamp (by omega)]
      rw [e]
      exact eT t j (Nat.le_refl t) hA
    · obtain ⟨⟨w1, w2⟩, w3⟩ := hH t (by omega)
      have e1 := d5 10 t (by omega) (by omega) (by omega) (by omega) (by omega)
      have e2 := d5 11 t (by omega) (by omega) (by omega) (by omega) (by omega)
      refine ⟨⟨by rw [e1]; exact w1, by rw [e2]; exact w2⟩, ?_⟩
      have e : wR r' t = wR r t := by unfold wR; rw [e1]
      rw [e]
      exact eT t _ (by omega) w3
  · rw [c5 o 0 (by omega) (by omega) (by omega) (by omega) (by omega)]; exact h2.1
  · rw [c5 o 1 (by omega) (by omega) (by omega) (by omega) (by omega), d5 0 14 (by omega) (by omega) (by omega) (by omega) (by omega)]; exact h2.2.1
  · rw [c5 o 2 (by omega) (by omega) (by omega) (by omega) (by omega)]; exact h2.2.2.1
  · rw [c5 o 3 (by omega) (by omega) (by omega) (by omega) (by omega)]; exact h2.2.2.2.1
  · rw [c5 _ k (by omega) (by omega) (by omega) (by omega) (by omega), eJ i hi k k1 k2]
    exact (h3 i hi).1 k k1 k2
  · obtain ⟨κ, x, y, z⟩ := (h3 i hi).2
    exact ⟨κ, x, by rw [c1]; exact y, by rw [c5 _ 1 (by omega) (by omega) (by omega) (by omega) (by omega)]; exact z⟩
  · by_cases z : t = T
    · subst z
      exact ⟨by rw [c3, d3], by rw [c4, d4]⟩
    · rw [c5 (o + 2) t (by omega) (by omega) (by omega) (by omega) (by omega), c5 (o + 4) t (by omega) (by omega) (by omega) (by omega) (by omega), d5 10 t (by omega) (by omega) (by omega) (by omega) (by omega), d5 11 t (by omega) (by omega) (by omega) (by omega) (by omega)]
      exact h4 t (by omega)
/-- the whole of it: the class records, the reference puts the same -/
theorem m_try {o S G N T j : Nat} {c r : AH} {b loss off : Int32} (M : MR o c r S G N T) (ho : o = 42 ∨ o = 52 ∨ o = 62) (hT : T < 3 * N + 3 * min G N) (hA : TA r N (min G N) T j) (hres : told (RJ r j) (r.1 0 14) b loss = -9 ∨ told (RJ r j) (r.1 0 14) b loss = -8 ∨ 0 ≤ (told (RJ r j) (r.1 0 14) b loss).toInt) :
    ∃ c' r', X5_record o (nI j) b loss c = some (told (RJ r j) (r.1 0 14) b loss, c') ∧ X11_putsTry (nI j) (told (RJ r j) (r.1 0 14) b loss) off r = some ((), r') ∧ MR o c' r' S G N (T + 1) ∧ c'.2 = c.2 ∧ r'.2 = r.2 ∧ (∀ p q, (p < o ∨ o + 6 ≤ p) → c'.1 p q = c.1 p q) ∧ (∀ p q, p ≠ 10 → p ≠ 11 → p ≠ 12 → ¬ (p = 0 ∧ q = 16) → r'.1 p q = r.1 p q) ∧ r'.1 11 T = told (RJ r j) (r.1 0 14) b loss ∧ r'.1 0 16 = nI (T + 1) ∧ ∀ t, t < T → r'.1 10 t = r.1 10 t ∧ r'.1 11 t = r.1 11 t := by
  have hN := M.1.2.2.2.2.2.2.1
  have hj := hA.1
  obtain ⟨hc, hk⟩ := M.2.2.1 j (by omega)
  have e0 : told (c.1 (o + 6 + j)) (c.1 o 1) b loss = told (RJ r j) (r.1 0 14) b loss := by
    unfold told
    rw [hc 1 (by omega) (by omega), hc 2 (by omega) (by omega), hc 6 (by omega) (by omega), M.2.1.2.1]
  obtain ⟨c', a1, a2, a3, a4, a5, a6⟩ := s_record (c := c) (o := o) (T := T) (b := b) (loss := loss) ho (by omega : j < 4) hk M.2.1.2.2.2.2 (by omega)
  rw [e0] at a1 a5
  have p1 := s_putsTry (r := r) (T := T) (res := told (RJ r j) (r.1 0 14) b loss) (off := off) (a := nI j) M.1.2.2.2.1 (by omega)
  refine ⟨c', _, a1, p1, ?_, a2, rfl, fun p q h => a6 p q (by omega) (by omega) (by omega) (by omega) (by omega), fun p q h1 h2 h3 h4 => ?_, ?_, ?_, fun t ht => ?_⟩
  · refine m_rec M hT hA hres (by rw [a2]) a3 a4 a5 a6 ?_ ?_ ?_ (fun p q h1 h2 h3 h4 _ => ?_)
    · rw [sI_at, if_pos ⟨rfl, rfl⟩]
    · rw [sI_at, if_neg (by omega), sI_at, if_neg (by omega), sI_at, if_neg (by omega), sI_at, if_pos ⟨rfl, rfl⟩]
    · rw [sI_at, if_neg (by omega), sI_at, if_neg (by omega), sI_at, if_pos ⟨rfl, rfl⟩]
    · rw [sI_at, if_neg h1, sI_at, if_neg h4, sI_at, if_neg h3, sI_at, if_neg h2]
  · rw [sI_at, if_neg h4, sI_at, if_neg (by omega), sI_at, if_neg (by omega), sI_at, if_neg (by omega)]
  · rw [sI_at, if_neg (by omega), sI_at, if_neg (by omega), sI_at, if_pos ⟨rfl, rfl⟩]
  · rw [sI_at, if_pos ⟨rfl, rfl⟩]
  · rw [sI_at, if_neg (by omega), sI_at, if_neg (by omega), sI_at, if_neg (by omega), sI_at, if_neg (by omega), sI_at, if_neg (by omega), sI_at, if_neg (by omega), sI_at, if_neg (by omega), sI_at, if_neg (by omega)]
    exact ⟨rfl, rfl⟩
/-- a LENGTH that is told is not below 0 -/
theorem told_nn {r : AH} {j : Nat} {b loss : Int32} (hJ : NJ (RJ r j)) (hw : WW (r.1 0 14)) (hb : 0 ≤ b.toInt) (hb2 : b.toInt ≤ 100000) (hl : 0 ≤ loss.toInt) (hl2 : loss.toInt ≤ 100000) : 0 ≤ (told (RJ r j) (r.1 0 14) b loss).toInt := by
  obtain ⟨κ, f, a, g, s, p, l, m, hκ, hf, ha, hg, hs, hpp, hl', hm, e1, e2, e3, e4, e5, e6, e7, e8⟩ := hJ
  have z0 : (0 : Int32).toInt = 0 := rfl
  unfold told
  rw [if_pos (by rw [fa_le, z0]; exact hb)]
  exact (len_b hf hpp e2 e6 hw hb hb2 hl hl2).1
/-- tries of one, counted -/
def nby (r : AH) (p : Nat → Bool) (n : Nat) : Int32 := nI (cN p n)
theorem s_triesOfC {o S G N T : Nat} {c r : AH} (M : MR o c r S G N T) (a : Int32) : X5_triesOf o a c = some (nI (cN (fun t => decide (r.1 10 t = a)) T), c) := by
  have hN := M.1.2.2.2.2.2.2.1
  have hT := M.1.2.2.2.2.2.2.2.1
  have key : ∀ (f t : Nat), T < t + f → t ≤ T → X5_triesOf_l4 o a f (nI (cN (fun t => decide (r.1 10 t = a)) t)) (nI t) c = some (nI (cN (fun t => decide (r.1 10 t = a)) T), c) := by
    intro f
    induction f with
    | zero => intro t h1 h2; omega
    | succ f ih =>
      intro t h1 h2
      rw [X5_triesOf_l4.eq_2, M.2.1.2.2.2.2]
      by_cases z : t = T
      · subst z
        rw [if_pos (Int32.le_refl _)]
      · have nx := ih (t + 1) (by omega) (by omega)
        have e : cN (fun t => decide (r.1 10 t = a)) (t + 1) = cN (fun t => decide (r.1 10 t = a)) t + (if r.1 10 t = a then 1 else 0) := by
          show cN _ t + (if decide (r.1 10 t = a) = true then 1 else 0) = _
          by_cases y : r.1 10 t = a
          · rw [if_pos y, if_pos (decide_eq_true y)]
          · rw [if_neg y, if_neg (by rw [decide_eq_false y]; decide)]
        rw [if_neg (nI_ge (by omega) (by omega)), ck_nI _ (by omega) (by decide), nI_clamp (by omega), (M.2.2.2 t (by omega)).1]
        unfold X5_triesOf_j28
        rw [e] at nx
        by_cases y : r.1 10 t = a
        · rw [if_pos y] at nx ⊢
          rw [vl_e, vl_e, nI_1, nI_1]
          exact nx
        · rw [if_neg y] at nx ⊢
          rw [vl_e, vl_e, nI_1, Int32.add_zero]
          exact nx
  exact key FU 0 (by unfold FU; omega) (by omega)
theorem s_triesOfR {S G N T : Nat} {r : AH} (R : RN r S G N T) (a : Int32) : X11_triesOf a r = some (nI (cN (fun t => decide (r.1 10 t = a)) T), r) := by
  have hN := R.2.2.2.2.2.2.1
  have hT := R.2.2.2.2.2.2.2.1
  have key : ∀ (f t : Nat), T < t + f → t ≤ T → X11_triesOf_l4 a f (nI (cN (fun t => decide (r.1 10 t = a)) t)) (nI t) r = some (nI (cN (fun t => decide (r.1 10 t = a)) T), r) := by
    intro f
    induction f with
    | zero => intro t h1 h2; omega
    | succ f ih =>
      intro t h1 h2
      rw [X11_triesOf_l4.eq_2, R.2.2.2.1]
      by_cases z : t = T
      · subst z
        rw [if_pos (Int32.le_refl _)]
      · have nx := ih (t + 1) (by omega) (by omega)
        have e : cN (fun t => decide (r.1 10 t = a)) (t + 1) = cN (fun t => decide (r.1 10 t = a)) t + (if r.1 10 t = a then 1 else 0) := by
          show cN _ t + (if decide (r.1 10 t = a) = true then 1 else 0) = _
          by_cases y : r.1 10 t = a
          · rw [if_pos y, if_pos (decide_eq_true y)]
          · rw [if_neg y, if_neg (by rw [decide_eq_false y]; decide)]
        rw [if_neg (nI_ge (by omega) (by omega)), ck_nI _ (by omega) (by decide), nI_clamp (by omega)]
        unfold X11_triesOf_j28
        rw [e] at nx
        by_cases y : r.1 10 t = a
        · rw [if_pos y] at nx ⊢
          rw [vl_e, vl_e, nI_1, nI_1]
          exact nx
        · rw [if_neg y] at nx ⊢
          rw [vl_e, vl_e, nI_1, Int32.add_zero]
          exact nx
  exact key FU 0 (by unfold FU; omega) (by omega)
end
section
/-! THE CALLS, one by one: no chances in them -/
theorem hj_ck {β : Type} {j : Nat} (hj : j < 4) (o : Option β) : ck (nI j) 4 o = o := ck_nI o hj (by decide)
theorem SimE.mk' {α : Type} {F G : Option (α × AH)} {v v2 : α} {c2 r2 : AH} {N : AH → AH → Prop} (e1 : F = some (v, c2)) (e2 : G = some (v2, r2)) (e : v = v2) (h : N c2 r2) : SimE F G N := ⟨v, c2, r2, e1, by rw [e]; exact e2, h⟩
theorem pl_eq {c r : AH} {S G N T j : Nat} (M : MR 42 c r S G N T) (hj : j < 4) : c.1 (48 + j) 8 - pathS (c.1 (48 + j) 1) (c.1 (48 + j) 3) (c.1 (48 + j) 4) (c.1 42 1) S = r.1 9 j - pathS (r.1 2 j) (r.1 4 j) (r.1 5 j) (r.1 0 14) S := by
  have h := (M.2.2.1 j hj).1
  have e : ∀ k, 1 ≤ k → k ≤ 8 → c.1 (48 + j) k = r.1 (k + 1) j := h
  rw [e 8 (by omega) (by omega), e 1 (by omega) (by omega), e 3 (by omega) (by omega), e 4 (by omega) (by omega), M.2.1.2.1]
theorem o_mark {c r : AH} {a1 a2 : Int32} (I : Inv c r) : SimE (X10_mark a1 a2 c) (X11_mark a1 a2 r) Inv := by
  obtain ⟨⟨S, G, N, T, M⟩, hW, hL, hRow, hRF, hIM⟩ := id I
  obtain ⟨R, ⟨cS, cW, cG, cN, cT⟩, cJ, cTr⟩ := id M
  obtain ⟨rS, rG, rN, rT, hS, hG, hN, hT, hWW, hJ, hH⟩ := id R
  rcases jm a1 hN with hz | ⟨j, hj, rfl⟩
  · have e1 : X10_mark a1 a2 c = some (-1, sI c 4 1 (c.1 4 1 + 1)) := by
      simp only [X10_mark, nb_n cN hz, s_outside, s_noSuch, s_noPart, s_outsideTwo, s_first, bd_s, vl_e, i_0, i_10, i_1, i_2, i_3, i_4, i_6, if_true, if_false, rf_1]
    have e2 : X11_mark a1 a2 r = some (-1, sI r 1 1 (r.1 1 1 + 1)) := by
      simp only [X11_mark, ij_n rN hz, s_bound, s_isIn, X11_mark_j20, bd_s, vl_e, i_0, i_10, i_1, i_2, i_3, i_4, i_6, if_true, if_false, no_1]
    exact ⟨_, _, _, e1, e2, inv_ref I (by decide)⟩
  · have hj4 : j < 4 := by omega
    have hjc : (nI j).toNatClampNeg = j := nI_clamp (by omega)
    have hJC : ∀ k, 1 ≤ k → k ≤ 8 → c.1 (48 + j) k = r.1 (k + 1) j := (cJ j hj4).1
    have hJK : JK c (48 + j) := (cJ j hj4).2
    by_cases h0 : a2 < 0
    · have e1 : X10_mark (nI j) a2 c = some (-4, sI c 4 4 (c.1 4 4 + 1)) := by
        simp only [X10_mark, nb_y cN hN hj, s_at42 hj4, cs_in _ (zc42 hj4), s_outside, s_noSuch, s_noPart, s_outsideTwo, s_first, if_pos h0, bd_s, vl_e, i_0, i_10, i_1, i_2, i_3, i_4, i_6, if_true, if_false, rf_4]
      have e2 : X11_mark (nI j) a2 r = some (-4, sI r 1 4 (r.1 1 4 + 1)) := by
        simp only [X11_mark, ij_y rN hN hj, hj_ck hj4, hjc, s_bound, s_isIn, if_pos h0, X11_mark_j20, bd_s, vl_e, i_0, i_10, i_1, i_2, i_3, i_4, i_6, if_true, if_false, no_4]
      exact ⟨_, _, _, e1, e2, inv_ref I (by decide)⟩
    · by_cases h1 : 2400 < a2
      · have e1 : X10_mark (nI j) a2 c = some (-6, sI c 4 6 (c.1 4 6 + 1)) := by
          simp only [X10_mark, nb_y cN hN hj, s_at42 hj4, cs_in _ (zc42 hj4), s_outside, s_noSuch, s_noPart, s_outsideTwo, s_first, if_neg h0, if_pos h1, bd_s, vl_e, i_0, i_10, i_1, i_2, i_3, i_4, i_6, if_true, if_false, rf_6]
        have e2 : X11_mark (nI j) a2 r = some (-6, sI r 1 6 (r.1 1 6 + 1)) := by
          simp only [X11_mark, ij_y rN hN hj, hj_ck hj4, hjc, s_bound, s_isIn, if_neg h0, if_pos h1, X11_mark_j20, bd_s, vl_e, i_0, i_10, i_1, i_2, i_3, i_4, i_6, if_true, if_false, no_6]
        exact ⟨_, _, _, e1, e2, inv_ref I (by decide)⟩
      · have e1 : X10_mark (nI j) a2 c = some (c.1 (48 + j) 8, sI c (48 + j) 8 a2) := by
          simp only [X10_mark, nb_y cN hN hj, s_at42 hj4, cs_in _ (zc42 hj4), s_outside, s_noSuch, s_noPart, s_outsideTwo, s_first, if_neg h0, if_neg h1, bd_s, vl_e, i_0, i_10, i_1, i_2, i_3, i_4, i_6, if_true, if_false]
        have e2 : X11_mark (nI j) a2 r = some (r.1 9 j, sI r 9 j a2) := by
          simp only [X11_mark, ij_y rN hN hj, hj_ck hj4, hjc, s_bound, s_isIn, X11_mark_j20, if_neg h0, if_neg h1, bd_s, vl_e, i_0, i_10, i_1, i_2, i_3, i_4, i_6, if_true, if_false]
        exact SimE.mk' e1 e2 (hJC 8 (by omega) (by omega)) (inv_M I (MR_fld M hj4 ⟨by omega, by omega⟩ (nj_mark (hJ j hj4) h0 h1)) (PCx.fld c a2 (by omega)) (PRx.fld r a2 (Or.inl (by omega))))
theorem o_look {c r : AH} {a1 a2 : Int32} (I : Inv c r) : SimE (X10_look a1 a2 c) (X11_look a1 a2 r) Inv := by
  obtain ⟨⟨S, G, N, T, M⟩, hW, hL, hRow, hRF, hIM⟩ := id I
  obtain ⟨R, ⟨cS, cW, cG, cN, cT⟩, cJ, cTr⟩ := id M
  obtain ⟨rS, rG, rN, rT, hS, hG, hN, hT, hWW, hJ, hH⟩ := id R
  rcases jm a1 hN with hz | ⟨j, hj, rfl⟩
  · have e1 : X10_look a1 a2 c = some (-1, sI c 4 1 (c.1 4 1 + 1)) := by
      simp only [X10_look, nb_n cN hz, s_outside, s_noSuch, s_noPart, s_outsideTwo, s_first, bd_s, vl_e, i_0, i_10, i_1, i_2, i_3, i_4, i_6, if_true, if_false, rf_1]
    have e2 : X11_look a1 a2 r = some (-1, sI r 1 1 (r.1 1 1 + 1)) := by
      simp only [X11_look, ij_n rN hz, s_bound, s_isIn, X11_look_j18, bd_s, vl_e, i_0, i_10, i_1, i_2, i_3, i_4, i_6, if_true, if_false, no_1]
    exact ⟨_, _, _, e1, e2, inv_ref I (by decide)⟩
  · have hj4 : j < 4 := by omega
    have hjc : (nI j).toNatClampNeg = j := nI_clamp (by omega)
    have hJC : ∀ k, 1 ≤ k → k ≤ 8 → c.1 (48 + j) k = r.1 (k + 1) j := (cJ j hj4).1
    have hJK : JK c (48 + j) := (cJ j hj4).2
    by_cases h0 : a2 < 0
    · have e1 : X10_look (nI j) a2 c = some (-4, sI c 4 4 (c.1 4 4 + 1)) := by
        simp only [X10_look, nb_y cN hN hj, s_at42 hj4, cs_in _ (zc42 hj4), s_outside, s_noSuch, s_noPart, s_outsideTwo, s_first, if_pos h0, bd_s, vl_e, i_0, i_10, i_1, i_2, i_3, i_4, i_6, if_true, if_false, rf_4]
      have e2 : X11_look (nI j) a2 r = some (-4, sI r 1 4 (r.1 1 4 + 1)) := by
        simp only [X11_look, ij_y rN hN hj, hj_ck hj4, hjc, s_bound, s_isIn, if_pos h0, X11_look_j18, bd_s, vl_e, i_0, i_10, i_1, i_2, i_3, i_4, i_6, if_true, if_false, no_4]
      exact ⟨_, _, _, e1, e2, inv_ref I (by decide)⟩
    · by_cases h1 : 4 < a2
      · have e1 : X10_look (nI j) a2 c = some (-6, sI c 4 6 (c.1 4 6 + 1)) := by
          simp only [X10_look, nb_y cN hN hj, s_at42 hj4, cs_in _ (zc42 hj4), s_outside, s_noSuch, s_noPart, s_outsideTwo, s_first, if_neg h0, if_pos h1, bd_s, vl_e, i_0, i_10, i_1, i_2, i_3, i_4, i_6, if_true, if_false, rf_6]
        have e2 : X11_look (nI j) a2 r = some (-6, sI r 1 6 (r.1 1 6 + 1)) := by
          simp only [X11_look, ij_y rN hN hj, hj_ck hj4, hjc, s_bound, s_isIn, if_neg h0, if_pos h1, X11_look_j18, bd_s, vl_e, i_0, i_10, i_1, i_2, i_3, i_4, i_6, if_true, if_false, no_6]
        exact ⟨_, _, _, e1, e2, inv_ref I (by decide)⟩
      · have e1 : X10_look (nI j) a2 c = some (c.1 (48 + j) 7, sI c (48 + j) 7 a2) := by
          simp only [X10_look, nb_y cN hN hj, s_at42 hj4, cs_in _ (zc42 hj4), s_outside, s_noSuch, s_noPart, s_outsideTwo, s_first, if_neg h0, if_neg h1, bd_s, vl_e, i_0, i_10, i_1, i_2, i_3, i_4, i_6, if_true, if_false]
        have e2 : X11_look (nI j) a2 r = some (r.1 8 j, sI r 8 j a2) := by
          simp only [X11_look, ij_y rN hN hj, hj_ck hj4, hjc, s_bound, s_isIn, X11_look_j18, if_neg h0, if_neg h1, bd_s, vl_e, i_0, i_10, i_1, i_2, i_3, i_4, i_6, if_true, if_false]
        exact SimE.mk' e1 e2 (hJC 7 (by omega) (by omega)) (inv_M I (MR_fld M hj4 ⟨by omega, by omega⟩ (nj_look (hJ j hj4) h0 h1)) (PCx.fld c a2 (by omega)) (PRx.fld r a2 (Or.inl (by omega))))
theorem o_stride {c r : AH} {a1 a2 : Int32} (I : Inv c r) : SimE (X10_stride a1 a2 c) (X11_stride a1 a2 r) Inv := by
  obtain ⟨⟨S, G, N, T, M⟩, hW, hL, hRow, hRF, hIM⟩ := id I
  obtain ⟨R, ⟨cS, cW, cG, cN, cT⟩, cJ, cTr⟩ := id M
  obtain ⟨rS, rG, rN, rT, hS, hG, hN, hT, hWW, hJ, hH⟩ := id R
  rcases jm a1 hN with hz | ⟨j, hj, rfl⟩
  · have e1 : X10_stride a1 a2 c = some (-1, sI c 4 1 (c.1 4 1 + 1)) := by
      simp only [X10_stride, nb_n cN hz, s_outside, s_noSuch, s_noPart, s_outsideTwo, s_first, bd_s, vl_e, i_0, i_10, i_1, i_2, i_3, i_4, i_6, if_true, if_false, rf_1]
    have e2 : X11_stride a1 a2 r = some (-1, sI r 1 1 (r.1 1 1 + 1)) := by
      simp only [X11_stride, ij_n rN hz, s_bound, s_isIn, X11_stride_j23, bd_s, vl_e, i_0, i_10, i_1, i_2, i_3, i_4, i_6, if_true, if_false, no_1]
    exact ⟨_, _, _, e1, e2, inv_ref I (by decide)⟩
  · have hj4 : j < 4 := by omega
    have hjc : (nI j).toNatClampNeg = j := nI_clamp (by omega)
    have hJC : ∀ k, 1 ≤ k → k ≤ 8 → c.1 (48 + j) k = r.1 (k + 1) j := (cJ j hj4).1
    have hJK : JK c (48 + j) := (cJ j hj4).2
    by_cases h0 : a2 < 0
    · have e1 : X10_stride (nI j) a2 c = some (-4, sI c 4 4 (c.1 4 4 + 1)) := by
        simp only [X10_stride, nb_y cN hN hj, s_at42 hj4, cs_in _ (zc42 hj4), s_outside, s_noSuch, s_noPart, s_outsideTwo, s_first, if_pos h0, cS, bd_s, vl_e, i_0, i_10, i_1, i_2, i_3, i_4, i_6, if_true, if_false, rf_4]
      have e2 : X11_stride (nI j) a2 r = some (-4, sI r 1 4 (r.1 1 4 + 1)) := by
        simp only [X11_stride, ij_y rN hN hj, hj_ck hj4, hjc, s_bound, s_isIn, if_pos h0, X11_stride_j23, rS, bd_s, vl_e, i_0, i_10, i_1, i_2, i_3, i_4, i_6, if_true, if_false, no_4]
      exact ⟨_, _, _, e1, e2, inv_ref I (by decide)⟩
    · by_cases h1 : nI S - 1 < a2
      · have e1 : X10_stride (nI j) a2 c = some (-6, sI c 4 6 (c.1 4 6 + 1)) := by
          simp only [X10_stride, nb_y cN hN hj, s_at42 hj4, cs_in _ (zc42 hj4), s_outside, s_noSuch, s_noPart, s_outsideTwo, s_first, if_neg h0, if_pos h1, cS, bd_s, vl_e, i_0, i_10, i_1, i_2, i_3, i_4, i_6, if_true, if_false, rf_6]
        have e2 : X11_stride (nI j) a2 r = some (-6, sI r 1 6 (r.1 1 6 + 1)) := by
          simp only [X11_stride, ij_y rN hN hj, hj_ck hj4, hjc, s_bound, s_isIn, if_neg h0, if_pos h1, X11_stride_j23, rS, bd_s, vl_e, i_0, i_10, i_1, i_2, i_3, i_4, i_6, if_true, if_false, no_6]
        exact ⟨_, _, _, e1, e2, inv_ref I (by decide)⟩
      · have e1 : X10_stride (nI j) a2 c = some (strS (c.1 (48 + j) 1) (c.1 (48 + j) 3) (c.1 (48 + j) 4) (c.1 42 1) a2, c) := by
          simp only [X10_stride, nb_y cN hN hj, s_at42 hj4, cs_in _ (zc42 hj4), s_outside, s_noSuch, s_noPart, s_outsideTwo, s_first, cS, if_neg h0, if_neg h1, bd_s, vl_e, i_0, i_10, i_1, i_2, i_3, i_4, i_6, if_true, if_false, s_strC hJK]
        have e2 : X11_stride (nI j) a2 r = some (strS (r.1 2 j) (r.1 4 j) (r.1 5 j) (r.1 0 14) a2, r) := by
          simp only [X11_stride, ij_y rN hN hj, hj_ck hj4, hjc, s_bound, s_isIn, X11_stride_j23, rS, if_neg h0, if_neg h1, bd_s, vl_e, i_0, i_10, i_1, i_2, i_3, i_4, i_6, if_true, if_false, s_strR hj4]
        exact SimE.mk' e1 e2 (by rw [hJC 1 (by omega) (by omega), hJC 3 (by omega) (by omega), hJC 4 (by omega) (by omega), cW]) I
theorem o_place {c r : AH} {a1 : Int32} (I : Inv c r) : SimE (X10_place a1 c) (X11_place a1 r) Inv := by
  obtain ⟨⟨S, G, N, T, M⟩, hW, hL, hRow, hRF, hIM⟩ := id I
  obtain ⟨R, ⟨cS, cW, cG, cN, cT⟩, cJ, cTr⟩ := id M
  obtain ⟨rS, rG, rN, rT, hS, hG, hN, hT, hWW, hJ, hH⟩ := id R
  rcases jm a1 hN with hz | ⟨j, hj, rfl⟩
  · have e1 : X10_place a1 c = some (1000000000 - (-1), sI c 4 1 (c.1 4 1 + 1)) := by
      simp only [X10_place, nb_n cN hz, s_outside, s_noSuch, s_noPart, s_outsideTwo, s_first, bd_s, vl_e, i_0, i_10, i_1, i_2, i_3, i_4, i_6, if_true, if_false, rf_1]
    have e2 : X11_place a1 r = some (1000000000 - (-1), sI r 1 1 (r.1 1 1 + 1)) := by
      simp only [X11_place, ij_n rN hz, s_bound, s_isIn, bd_s, vl_e, i_0, i_10, i_1, i_2, i_3, i_4, i_6, if_true, if_false, lo_1]
    exact ⟨_, _, _, e1, e2, inv_ref I (by decide)⟩
  · have hj4 : j < 4 := by omega
    have hjc : (nI j).toNatClampNeg = j := nI_clamp (by omega)
    have hJC : ∀ k, 1 ≤ k → k ≤ 8 → c.1 (48 + j) k = r.1 (k + 1) j := (cJ j hj4).1
    have hJK : JK c (48 + j) := (cJ j hj4).2
    have e1 : X10_place (nI j) c = some (c.1 (48 + j) 8 - pathS (c.1 (48 + j) 1) (c.1 (48 + j) 3) (c.1 (48 + j) 4) (c.1 42 1) S, c) := by
      simp only [X10_place, nb_y cN hN hj, s_at42 hj4, cs_in _ (zc42 hj4), s_placeC hj4 hJK (by omega : S < 4000) cS, bd_s, vl_e, i_0, i_10, i_1, i_2, i_3, i_4, i_6, if_true, if_false]
    have e2 : X11_place (nI j) r = some (r.1 9 j - pathS (r.1 2 j) (r.1 4 j) (r.1 5 j) (r.1 0 14) S, r) := by
      simp only [X11_place, ij_y rN hN hj, hj_ck hj4, hjc, s_placeR hj4 (by omega : S < 4000) rS, bd_s, vl_e, i_0, i_10, i_1, i_2, i_3, i_4, i_6, if_true, if_false]
    exact SimE.mk' e1 e2 (pl_eq M hj4) I
theorem o_length {c r : AH} {a1 a2 a3 : Int32} (I : Inv c r) : SimE (X10_length a1 a2 a3 c) (X11_length a1 a2 a3 r) Inv := by
  obtain ⟨⟨S, G, N, T, M⟩, hW, hL, hRow, hRF, hIM⟩ := id I
  obtain ⟨R, ⟨cS, cW, cG, cN, cT⟩, cJ, cTr⟩ := id M
  obtain ⟨rS, rG, rN, rT, hS, hG, hN, hT, hWW, hJ, hH⟩ := id R
  rcases jm a1 hN with hz | ⟨j, hj, rfl⟩
  · have e1 : X10_length a1 a2 a3 c = some (-1, sI c 4 1 (c.1 4 1 + 1)) := by
      simp only [X10_length, nb_n cN hz, s_outside, s_noSuch, s_noPart, s_outsideTwo, s_first, bd_s, vl_e, i_0, i_10, i_1, i_2, i_3, i_4, i_6, if_true, if_false, rf_1]
    have e2 : X11_length a1 a2 a3 r = some (-1, sI r 1 1 (r.1 1 1 + 1)) := by
      simp only [X11_length, ij_n rN hz, s_bound, s_isIn, X11_length_j44, bd_s, vl_e, i_0, i_10, i_1, i_2, i_3, i_4, i_6, if_true, if_false, no_1]
    exact ⟨_, _, _, e1, e2, inv_ref I (by decide)⟩
  · have hj4 : j < 4 := by omega
    have hjc : (nI j).toNatClampNeg = j := nI_clamp (by omega)
    have hJC : ∀ k, 1 ≤ k → k ≤ 8 → c.1 (48 + j) k = r.1 (k + 1) j := (cJ j hj4).1
    have hJK : JK c (48 + j) := (cJ j hj4).2
    by_cases h0 : a2 < 0
    · have e1 : X10_length (nI j) a2 a3 c = some (-4, sI c 4 4 (c.1 4 4 + 1)) := by
        simp only [X10_length, nb_y cN hN hj, s_at42 hj4, cs_in _ (zc42 hj4), s_outside, s_noSuch, s_noPart, s_outsideTwo, s_first, if_pos h0, true_or, or_true, false_or, or_false, or_self, n_64, n_04, bd_s, vl_e, i_0, i_10, i_1, i_2, i_3, i_4, i_6, if_true, if_false, rf_4]
      have e2 : X11_length (nI j) a2 a3 r = some (-4, sI r 1 4 (r.1 1 4 + 1)) := by
        simp only [X11_length, ij_y rN hN hj, hj_ck hj4, hjc, X11_length_j44, if_pos h0, X11_length_j20, bd_s, vl_e, i_0, i_10, i_1, i_2, i_3, i_4, i_6, if_true, if_false, no_4]
      exact ⟨_, _, _, e1, e2, inv_ref I (by decide)⟩
    by_cases h1 : a3 < 0
    · have e1 : X10_length (nI j) a2 a3 c = some (-4, sI c 4 4 (c.1 4 4 + 1)) := by
        simp only [X10_length, nb_y cN hN hj, s_at42 hj4, cs_in _ (zc42 hj4), s_outside, s_noSuch, s_noPart, s_outsideTwo, s_first, if_neg h0, if_pos h1, true_or, or_true, false_or, or_false, or_self, n_64, n_04, bd_s, vl_e, i_0, i_10, i_1, i_2, i_3, i_4, i_6, if_true, if_false, rf_4]
      have e2 : X11_length (nI j) a2 a3 r = some (-4, sI r 1 4 (r.1 1 4 + 1)) := by
        simp only [X11_length, ij_y rN hN hj, hj_ck hj4, hjc, X11_length_j44, if_neg h0, if_neg (Int32.not_le.mpr h1), X11_length_j20, bd_s, vl_e, i_0, i_10, i_1, i_2, i_3, i_4, i_6, if_true, if_false, no_4]
      exact ⟨_, _, _, e1, e2, inv_ref I (by decide)⟩
    by_cases h2 : 300 < a2
    · by_cases h3 : 99 < a3
      · have e1 : X10_length (nI j) a2 a3 c = some (-6, sI c 4 6 (c.1 4 6 + 1)) := by
          simp only [X10_length, nb_y cN hN hj, s_at42 hj4, cs_in _ (zc42 hj4), s_outside, s_noSuch, s_noPart, s_outsideTwo, s_first, if_neg h0, if_neg h1, if_pos h2, if_pos h3, true_or, or_true, false_or, or_false, or_self, n_64, n_04, bd_s, vl_e, i_0, i_10, i_1, i_2, i_3, i_4, i_6, if_true, if_false, rf_6]
        have e2 : X11_length (nI j) a2 a3 r = some (-6, sI r 1 6 (r.1 1 6 + 1)) := by
          simp only [X11_length, ij_y rN hN hj, hj_ck hj4, hjc, X11_length_j44, if_neg h0, if_pos (Int32.not_lt.mp h1), if_pos h2, X11_length_j38, bd_s, vl_e, i_0, i_10, i_1, i_2, i_3, i_4, i_6, if_true, if_false, no_6]
        exact ⟨_, _, _, e1, e2, inv_ref I (by decide)⟩
      · have e1 : X10_length (nI j) a2 a3 c = some (-6, sI c 4 6 (c.1 4 6 + 1)) := by
          simp only [X10_length, nb_y cN hN hj, s_at42 hj4, cs_in _ (zc42 hj4), s_outside, s_noSuch, s_noPart, s_outsideTwo, s_first, if_neg h0, if_neg h1, if_pos h2, if_neg h3, true_or, or_true, false_or, or_false, or_self, n_64, n_04, bd_s, vl_e, i_0, i_10, i_1, i_2, i_3, i_4, i_6, if_true, if_false, rf_6]
        have e2 : X11_length (nI j) a2 a3 r = some (-6, sI r 1 6 (r.1 1 6 + 1)) := by
          simp only [X11_length, ij_y rN hN hj, hj_ck hj4, hjc, X11_length_j44, if_neg h0, if_pos (Int32.not_lt.mp h1), if_pos h2, X11_length_j38, bd_s, vl_e, i_0, i_10, i_1, i_2, i_3, i_4, i_6, if_true, if_false, no_6]
        exact ⟨_, _, _, e1, e2, inv_ref I (by decide)⟩
    by_cases h3 : 99 < a3
    · have e1 : X10_length (nI j) a2 a3 c = some (-6, sI c 4 6 (c.1 4 6 + 1)) := by
        simp only [X10_length, nb_y cN hN hj, s_at42 hj4, cs_in _ (zc42 hj4), s_outside, s_noSuch, s_noPart, s_outsideTwo, s_first, if_neg h0, if_neg h1, if_neg h2, if_pos h3, true_or, or_true, false_or, or_false, or_self, n_64, n_04, bd_s, vl_e, i_0, i_10, i_1, i_2, i_3, i_4, i_6, if_true, if_false, rf_6]
      have e2 : X11_length (nI j) a2 a3 r = some (-6, sI r 1 6 (r.1 1 6 + 1)) := by
        simp only [X11_length, ij_y rN hN hj, hj_ck hj4, hjc, X11_length_j44, if_neg h0, if_pos (Int32.not_lt.mp h1), if_neg h2, if_neg (Int32.not_le.mpr h3), X11_length_j38, bd_s, vl_e, i_0, i_10, i_1, i_2, i_3, i_4, i_6, if_true, if_false, no_6]
      exact ⟨_, _, _, e1, e2, inv_ref I (by decide)⟩
    have e1 : X10_length (nI j) a2 a3 c = some (lenS (c.1 (48 + j) 1) (c.1 (48 + j) 2) (c.1 (48 + j) 6) (c.1 42 1) a2 a3, c) := by
      simp only [X10_length, nb_y cN hN hj, s_at42 hj4, cs_in _ (zc42 hj4), s_outside, s_noSuch, s_noPart, s_outsideTwo, s_first, true_or, or_true, false_or, or_false, or_self, n_64, n_04, if_neg h0, if_neg h1, if_neg h2, if_neg h3, bd_s, vl_e, i_0, i_10, i_1, i_2, i_3, i_4, i_6, if_true, if_false, s_lenC hJK]
    have e2 : X11_length (nI j) a2 a3 r = some (lenS (r.1 2 j) (r.1 3 j) (r.1 7 j) (r.1 0 14) a2 a3, r) := by
      simp only [X11_length, ij_y rN hN hj, hj_ck hj4, hjc, X11_length_j44, if_neg h0, if_pos (Int32.not_lt.mp h1), if_neg h2, if_pos (Int32.not_lt.mp h3), bd_s, vl_e, i_0, i_10, i_1, i_2, i_3, i_4, i_6, if_true, if_false, s_lenR hj4]
    exact SimE.mk' e1 e2 (by rw [hJC 1 (by omega) (by omega), hJC 2 (by omega) (by omega), hJC 6 (by omega) (by omega), cW]) I
theorem o_back {c r : AH} {a1 a2 : Int32} (I : Inv c r) : SimE (X10_back a1 a2 c) (X11_back a1 a2 r) Inv := by
  obtain ⟨⟨S, G, N, T, M⟩, hW, hL, hRow, hRF, hIM⟩ := id I
  obtain ⟨R, ⟨cS, cW, cG, cN, cT⟩, cJ, cTr⟩ := id M
  obtain ⟨rS, rG, rN, rT, hS, hG, hN, hT, hWW, hJ, hH⟩ := id R
  rcases jm a1 hN with hz | ⟨j, hj, rfl⟩
  · have e1 : X10_back a1 a2 c = some (1000000000 - (-1), sI c 4 1 (c.1 4 1 + 1)) := by
      simp only [X10_back, nb_n cN hz, s_outside, s_noSuch, s_noPart, s_outsideTwo, s_first, bd_s, vl_e, i_0, i_10, i_1, i_2, i_3, i_4, i_6, if_true, if_false, rf_1]
    have e2 : X11_back a1 a2 r = some (1000000000 - (-1), sI r 1 1 (r.1 1 1 + 1)) := by
      simp only [X11_back, ij_n rN hz, s_bound, s_isIn, X11_back_j20, bd_s, vl_e, i_0, i_10, i_1, i_2, i_3, i_4, i_6, if_true, if_false, lo_1]
    exact ⟨_, _, _, e1, e2, inv_ref I (by decide)⟩
  · have hj4 : j < 4 := by omega
    have hjc : (nI j).toNatClampNeg = j := nI_clamp (by omega)
    have hJC : ∀ k, 1 ≤ k → k ≤ 8 → c.1 (48 + j) k = r.1 (k + 1) j := (cJ j hj4).1
    have hJK : JK c (48 + j) := (cJ j hj4).2
    by_cases h0 : a2 < -9
    · have e1 : X10_back (nI j) a2 c = some (1000000000 - (-4), sI c 4 4 (c.1 4 4 + 1)) := by
        simp only [X10_back, nb_y cN hN hj, s_at42 hj4, cs_in _ (zc42 hj4), s_outside, s_noSuch, s_noPart, s_outsideTwo, s_first, if_pos h0, bd_s, vl_e, i_0, i_10, i_1, i_2, i_3, i_4, i_6, if_true, if_false, rf_4]
      have e2 : X11_back (nI j) a2 r = some (1000000000 - (-4), sI r 1 4 (r.1 1 4 + 1)) := by
        simp only [X11_back, ij_y rN hN hj, hj_ck hj4, hjc, s_bound, s_isIn, if_pos h0, X11_back_j20, bd_s, vl_e, i_0, i_10, i_1, i_2, i_3, i_4, i_6, if_true, if_false, lo_4]
      exact ⟨_, _, _, e1, e2, inv_ref I (by decide)⟩
    · by_cases h1 : 9 < a2
      · have e1 : X10_back (nI j) a2 c = some (1000000000 - (-6), sI c 4 6 (c.1 4 6 + 1)) := by
          simp only [X10_back, nb_y cN hN hj, s_at42 hj4, cs_in _ (zc42 hj4), s_outside, s_noSuch, s_noPart, s_outsideTwo, s_first, if_neg h0, if_pos h1, bd_s, vl_e, i_0, i_10, i_1, i_2, i_3, i_4, i_6, if_true, if_false, rf_6]
        have e2 : X11_back (nI j) a2 r = some (1000000000 - (-6), sI r 1 6 (r.1 1 6 + 1)) := by
          simp only [X11_back, ij_y rN hN hj, hj_ck hj4, hjc, s_bound, s_isIn, if_neg h0, if_pos h1, X11_back_j20, bd_s, vl_e, i_0, i_10, i_1, i_2, i_3, i_4, i_6, if_true, if_false, lo_6]
        exact ⟨_, _, _, e1, e2, inv_ref I (by decide)⟩
      · have e1 : X10_back (nI j) a2 c = some (pathS (c.1 (48 + j) 1) (c.1 (48 + j) 3) (c.1 (48 + j) 4) a2 S - pathS (c.1 (48 + j) 1) (c.1 (48 + j) 3) (c.1 (48 + j) 4) (c.1 42 1) S, c) := by
          simp only [X10_back, nb_y cN hN hj, s_at42 hj4, cs_in _ (zc42 hj4), s_outside, s_noSuch, s_noPart, s_outsideTwo, s_first, cS, if_neg h0, if_neg h1, bd_s, vl_e, i_0, i_10, i_1, i_2, i_3, i_4, i_6, if_true, if_false, s_path hJK (by omega : S < 4000)]
        have e2 : X11_back (nI j) a2 r = some (pathS (r.1 2 j) (r.1 4 j) (r.1 5 j) a2 S - pathS (r.1 2 j) (r.1 4 j) (r.1 5 j) (r.1 0 14) S, r) := by
          simp only [X11_back, ij_y rN hN hj, hj_ck hj4, hjc, s_bound, s_isIn, X11_back_j20, if_neg h0, if_neg h1, bd_s, vl_e, i_0, i_10, i_1, i_2, i_3, i_4, i_6, if_true, if_false, s_pathR hj4 (by omega : S < 4000) rS]
        exact SimE.mk' e1 e2 (by rw [hJC 1 (by omega) (by omega), hJC 3 (by omega) (by omega), hJC 4 (by omega) (by omega), cW]) I
theorem clampE (x : Int32) (h : AH) : (if 0 ≤ x then (if x ≤ 2400 then some (x, h) else some ((2400 : Int32), h)) else some ((0 : Int32), h)) = some (mx32 0 (mn32 2400 x), h) := by
  have e0 : (0 : Int32).toInt = 0 := rfl
  have e1 : (2400 : Int32).toInt = 2400 := rfl
  unfold mx32 mn32
  by_cases a : 0 ≤ x
  · rw [if_pos a]
    by_cases b : x ≤ 2400
    · rw [if_pos b]
      by_cases d : x < 2400
      · rw [if_pos d]
        by_cases e : 0 < x
        · rw [if_pos e]
        · rw [if_neg e]
          rw [fa_le] at a
          rw [fa_lt] at e
          have : x = 0 := by rw [fa_eq]; omega
          rw [this]
      · rw [if_neg d]
        rw [fa_le] at b
        rw [fa_lt] at d
        have : x = 2400 := by rw [fa_eq]; omega
        rw [this]
        rfl
    · rw [if_neg b]
      rw [if_neg (show ¬ x < 2400 by rw [fa_le] at b; rw [fa_lt]; omega)]
      rfl
  · rw [if_neg a]
    rw [if_pos (show x < 2400 by rw [fa_le] at a; rw [fa_lt]; omega), if_neg (show ¬ 0 < x by rw [fa_le] at a; rw [fa_lt]; omega)]
theorem o_markIn {c r : AH} {a1 a2 : Int32} (I : Inv c r) : SimE (X10_markIn a1 a2 c) (X11_markIn a1 a2 r) Inv := by
  obtain ⟨⟨S, G, N, T, M⟩, hW, hL, hRow, hRF, hIM⟩ := id I
  obtain ⟨R, ⟨cS, cW, cG, cN, cT⟩, cJ, cTr⟩ := id M
  obtain ⟨rS, rG, rN, rT, hS, hG, hN, hT, hWW, hJ, hH⟩ := id R
  rcases jm a1 hN with hz | ⟨j, hj, rfl⟩
  · have e1 : X10_markIn a1 a2 c = some (-1, sI c 4 1 (c.1 4 1 + 1)) := by
      simp only [X10_markIn, nb_n cN hz, s_outside, s_noSuch, s_noPart, s_outsideTwo, s_first, bd_s, vl_e, i_0, i_10, i_1, i_2, i_3, i_4, i_6, if_true, if_false, rf_1]
    have e2 : X11_markIn a1 a2 r = some (-1, sI r 1 1 (r.1 1 1 + 1)) := by
      simp only [X11_markIn, ij_n rN hz, s_bound, s_isIn, X11_markIn_j20, bd_s, vl_e, i_0, i_10, i_1, i_2, i_3, i_4, i_6, if_true, if_false, no_1]
    exact ⟨_, _, _, e1, e2, inv_ref I (by decide)⟩
  · have hj4 : j < 4 := by omega
    have hjc : (nI j).toNatClampNeg = j := nI_clamp (by omega)
    have hJC : ∀ k, 1 ≤ k → k ≤ 8 → c.1 (48 + j) k = r.1 (k + 1) j := (cJ j hj4).1
    have hJK : JK c (48 + j) := (cJ j hj4).2
    by_cases h0 : a2 < -9
    · have e1 : X10_markIn (nI j) a2 c = some (-4, sI c 4 4 (c.1 4 4 + 1)) := by
        simp only [X10_markIn, nb_y cN hN hj, s_at42 hj4, cs_in _ (zc42 hj4), s_outside, s_noSuch, s_noPart, s_outsideTwo, s_first, if_pos h0, bd_s, vl_e, i_0, i_10, i_1, i_2, i_3, i_4, i_6, if_true, if_false, rf_4]
      have e2 : X11_markIn (nI j) a2 r = some (-4, sI r 1 4 (r.1 1 4 + 1)) := by
        simp only [X11_markIn, ij_y rN hN hj, hj_ck hj4, hjc, s_bound, s_isIn, if_pos h0, X11_markIn_j20, bd_s, vl_e, i_0, i_10, i_1, i_2, i_3, i_4, i_6, if_true, if_false, no_4]
      exact ⟨_, _, _, e1, e2, inv_ref I (by decide)⟩
    · by_cases h1 : 9 < a2
      · have e1 : X10_markIn (nI j) a2 c = some (-6, sI c 4 6 (c.1 4 6 + 1)) := by
          simp only [X10_markIn, nb_y cN hN hj, s_at42 hj4, cs_in _ (zc42 hj4), s_outside, s_noSuch, s_noPart, s_outsideTwo, s_first, if_neg h0, if_pos h1, bd_s, vl_e, i_0, i_10, i_1, i_2, i_3, i_4, i_6, if_true, if_false, rf_6]
        have e2 : X11_markIn (nI j) a2 r = some (-6, sI r 1 6 (r.1 1 6 + 1)) := by
          simp only [X11_markIn, ij_y rN hN hj, hj_ck hj4, hjc, s_bound, s_isIn, if_neg h0, if_pos h1, X11_markIn_j20, bd_s, vl_e, i_0, i_10, i_1, i_2, i_3, i_4, i_6, if_true, if_false, no_6]
        exact ⟨_, _, _, e1, e2, inv_ref I (by decide)⟩
      · have e1 : X10_markIn (nI j) a2 c = some (mx32 0 (mn32 2400 (pathS (c.1 (48 + j) 1) (c.1 (48 + j) 3) (c.1 (48 + j) 4) a2 S + aimS (c.1 (48 + j) 1) (c.1 (48 + j) 2))), c) := by
          simp only [X10_markIn, nb_y cN hN hj, s_at42 hj4, cs_in _ (zc42 hj4), s_outside, s_noSuch, s_noPart, s_outsideTwo, s_first, cS, if_neg h0, if_neg h1, bd_s, vl_e, i_0, i_10, i_1, i_2, i_3, i_4, i_6, if_true, if_false, s_path hJK (by omega : S < 4000), s_aimC hJK]
        have e2 : X11_markIn (nI j) a2 r = some (mx32 0 (mn32 2400 (pathS (r.1 2 j) (r.1 4 j) (r.1 5 j) a2 S + aimS (r.1 2 j) (r.1 3 j))), r) := by
          simp only [X11_markIn, ij_y rN hN hj, hj_ck hj4, hjc, s_bound, s_isIn, X11_markIn_j20, if_neg h0, if_neg h1, bd_s, vl_e, i_0, i_10, i_1, i_2, i_3, i_4, i_6, if_true, if_false, s_pathR hj4 (by omega : S < 4000) rS, s_aimR hj4, clampE]
        exact SimE.mk' e1 e2 (by rw [hJC 1 (by omega) (by omega), hJC 2 (by omega) (by omega), hJC 3 (by omega) (by omega), hJC 4 (by omega) (by omega)]) I
end
section
/-! THE CALLS with chances -/
theorem pl_b {r : AH} {S G N T j : Nat} {wd : Int32} (R : RN r S G N T) (hj : j < 4) (hw : WW wd) : -5000 ≤ (r.1 9 j - pathS (r.1 2 j) (r.1 4 j) (r.1 5 j) wd S).toInt ∧ (r.1 9 j - pathS (r.1 2 j) (r.1 4 j) (r.1 5 j) wd S).toInt ≤ 5000 := by
  obtain ⟨rS, rG, rN, rT, hS, hG, hN, hT, hWW, hJ, hH⟩ := R
  obtain ⟨κ, f, a, g, s, p, l, m, hκ, hf, ha, hg, hs, hpp, hl, hm, e1, e2, e3, e4, e5, e6, e7, e8⟩ := hJ j hj
  have e8 : r.1 9 j = nI m := e8
  have h := path_b (kd := r.1 2 j) (st := r.1 4 j) (gr := r.1 5 j) ha hg e3 e4 hw S hS.2
  have e : (nI m).toInt = (m : Int) := nI_toInt (by omega)
  rw [e8, fb_subI (by omega) (by omega)]
  omega
/-- the class's spread, told in the reference's numbers -/
theorem k_spread {c r : AH} {S G N T j S2 : Nat} {wd pl : Int32} (b : Int32) (M : MR 42 c r S G N T) (hW : WT c) (hj : j < 4) (hw : WW wd) (h4 : 4 ≤ S2) (h20 : S2 ≤ 20) (hp : -5000 ≤ pl.toInt) (hp2 : pl.toInt ≤ 5000) :
    ∃ c', X1_spread (48 + j) (nI S2) wd pl b c = some ((), c') ∧ c'.1 = c.1 ∧ c'.2.2 = c.2.2 ∧ (∀ o, o ≠ 8 → o ≠ 31 → c'.2.1 o = c.2.1 o) ∧ c'.2.1 8 2 = lN (2 ^ (2 * S2)) ∧ (∀ a, Ph (gtI a) c' = RV (RJ r j) wd pl S2 (p3 a)) ∧ Ph lN c' = RV (RJ r j) wd pl S2 p2 ∧ c'.2.1 8 3 = RV (RJ r j) wd pl S2 p1 ∧ c'.2.1 8 4 = RV (RJ r j) wd pl S2 (p0 b) ∧ ∀ v, v < 1000 → c'.2.1 31 v = RV (RJ r j) wd pl S2 (pL v) := by
  obtain ⟨hc, hk⟩ := M.2.2.1 j hj
  have hJ := M.1.2.2.2.2.2.2.2.2.2.1 j hj
  obtain ⟨c', a1, a2, a3, a4, a5, a6, a7, a8, a9, a10⟩ := u_spread (h := c) (p := 48 + j) (S := S2) b hk (NJ_J (fun k k1 k2 => (hc k k1 k2).symm) hJ) hW hw h4 h20 hp hp2
  have e : ∀ φ, RV (c.1 (48 + j)) wd pl S2 φ = RV (RJ r j) wd pl S2 φ := fun φ => RV_J hc wd pl S2 φ
  exact ⟨c', a1, a2, a3, a4, a5, fun a => by rw [a6, e], by rw [a7, e], by rw [a8, e], by rw [a9, e], fun v hv => by rw [a10 v hv, e]⟩
theorem k_PC {c c' : AH} (h1 : c'.1 = c.1) (h2 : c'.2.2 = c.2.2) (h3 : ∀ o, o ≠ 8 → o ≠ 31 → c'.2.1 o = c.2.1 o) : PC c c' := PC.L h1 h2 (fun o o1 o2 => h3 o (by omega) (by omega))
/-- the place as it is now, on both sides -/
theorem k_now {c r : AH} {S G N T j : Nat} (b : Int32) (M : MR 42 c r S G N T) (hW : WT c) (hj : j < 4) :
    ∃ c', X10_spreadNow (nI j) b c = some ((), c') ∧ c'.1 = c.1 ∧ c'.2.2 = c.2.2 ∧ (∀ o, o ≠ 8 → o ≠ 31 → c'.2.1 o = c.2.1 o) ∧ c'.2.1 8 2 = lN (2 ^ (2 * S)) ∧ (∀ a, Ph (gtI a) c' = RV (RJ r j) (r.1 0 14) (r.1 9 j - pathS (r.1 2 j) (r.1 4 j) (r.1 5 j) (r.1 0 14) S) S (p3 a)) ∧ Ph lN c' = RV (RJ r j) (r.1 0 14) (r.1 9 j - pathS (r.1 2 j) (r.1 4 j) (r.1 5 j) (r.1 0 14) S) S p2 ∧ c'.2.1 8 3 = RV (RJ r j) (r.1 0 14) (r.1 9 j - pathS (r.1 2 j) (r.1 4 j) (r.1 5 j) (r.1 0 14) S) S p1 ∧ c'.2.1 8 4 = RV (RJ r j) (r.1 0 14) (r.1 9 j - pathS (r.1 2 j) (r.1 4 j) (r.1 5 j) (r.1 0 14) S) S (p0 b) ∧ ∀ v, v < 1000 → c'.2.1 31 v = RV (RJ r j) (r.1 0 14) (r.1 9 j - pathS (r.1 2 j) (r.1 4 j) (r.1 5 j) (r.1 0 14) S) S (pL v) := by
  have hS := M.1.2.2.2.2.1
  have hw := M.1.2.2.2.2.2.2.2.2.1
  have hb := pl_b M.1 hj hw
  obtain ⟨c', a⟩ := k_spread b M hW hj hw hS.1 hS.2 hb.1 hb.2
  refine ⟨c', ?_, a.2⟩
  unfold X10_spreadNow
  rw [s_at42 hj, bd_s, cs_in _ (zc42 hj), s_placeC hj (M.2.2.1 j hj).2 (by omega : S < 4000) M.2.1.1, bd_s, M.2.1.1, pl_eq M hj, M.2.1.2.1, a.1, bd_s]
theorem k_all {r : AH} {S : Nat} (e : r.1 0 12 = nI S) (h : S ≤ 20) : X11_allWays r = some (lN (2 ^ (2 * S)), r) := by
  unfold X11_allWays
  rw [e, sh_all h]
theorem WO.PR {T : Nat} {r r' : AH} (h : WO r r') : PR T r r' := PR.L h.1
theorem o_off {c r : AH} {a1 a2 a3 : Int32} (I : Inv c r) : SimE (X10_off a1 a2 a3 c) (X11_off a1 a2 a3 r) Inv := by
  obtain ⟨⟨S, G, N, T, M⟩, hW, hL, hRow, hRF, hIM⟩ := id I
  obtain ⟨R, ⟨cS, cW, cG, cN, cT⟩, cJ, cTr⟩ := id M
  obtain ⟨rS, rG, rN, rT, hS, hG, hN, hT, hWW, hJ, hH⟩ := id R
  rcases jm a1 hN with hz | ⟨j, hj, rfl⟩
  · have e1 : X10_off a1 a2 a3 c = some (4000000000000000000 - (-1 : Int32).toInt64, sI c 4 1 (c.1 4 1 + 1)) := by
      simp only [X10_off, nb_n cN hz, s_outside, s_noSuch, s_noPart, s_outsideTwo, s_first, bd_s, vl_e, i_0, i_10, i_1, i_2, i_3, i_4, i_6, if_true, if_false, rf_1]
    have e2 : X11_off a1 a2 a3 r = some (4000000000000000000 - (-1 : Int32).toInt64, sI r 1 1 (r.1 1 1 + 1)) := by
      simp only [X11_off, ij_n rN hz, s_bound, s_isIn, X11_off_j22, X11_off_j42, bd_s, vl_e, i_0, i_10, i_1, i_2, i_3, i_4, i_6, if_true, if_false, ll_1]
    exact ⟨_, _, _, e1, e2, inv_ref I (by decide)⟩
  · have hj4 : j < 4 := by omega
    have hjc : (nI j).toNatClampNeg = j := nI_clamp (by omega)
    have hJC : ∀ k, 1 ≤ k → k ≤ 8 → c.1 (48 + j) k = r.1 (k + 1) j := (cJ j hj4).1
    have hJK : JK c (48 + j) := (cJ j hj4).2
    have hpl := pl_b R hj4 hWW
    have hcn := u_count hj4 (hJ j hj4) rS hWW hS.1 hS.2 hpl.1 hpl.2
    have hpw := pw_b hS.2
    by_cases h0 : a2 < -300
    · have e1 : X10_off (nI j) a2 a3 c = some (4000000000000000000 - (-4 : Int32).toInt64, sI c 4 4 (c.1 4 4 + 1)) := by
        simp only [X10_off, nb_y cN hN hj, s_at42 hj4, cs_in _ (zc42 hj4), s_outside, s_noSuch, s_noPart, s_outsideTwo, s_first, if_pos h0, bd_s, vl_e, i_0, i_10, i_1, i_2, i_3, i_4, i_6, if_true, if_false, rf_4]
      have e2 : X11_off (nI j) a2 a3 r = some (4000000000000000000 - (-4 : Int32).toInt64, sI r 1 4 (r.1 1 4 + 1)) := by
        simp only [X11_off, ij_y rN hN hj, hj_ck hj4, hjc, s_bound, s_isIn, if_pos h0, X11_off_j22, X11_off_j42, bd_s, vl_e, i_0, i_10, i_1, i_2, i_3, i_4, i_6, if_true, if_false, ll_4]
      exact ⟨_, _, _, e1, e2, inv_ref I (by decide)⟩
    · by_cases h1 : 300 < a2
      · have e1 : X10_off (nI j) a2 a3 c = some (4000000000000000000 - (-6 : Int32).toInt64, sI c 4 6 (c.1 4 6 + 1)) := by
          simp only [X10_off, nb_y cN hN hj, s_at42 hj4, cs_in _ (zc42 hj4), s_outside, s_noSuch, s_noPart, s_outsideTwo, s_first, if_neg h0, if_pos h1, bd_s, vl_e, i_0, i_10, i_1, i_2, i_3, i_4, i_6, if_true, if_false, rf_6]
        have e2 : X11_off (nI j) a2 a3 r = some (4000000000000000000 - (-6 : Int32).toInt64, sI r 1 6 (r.1 1 6 + 1)) := by
          simp only [X11_off, ij_y rN hN hj, hj_ck hj4, hjc, s_bound, s_isIn, if_neg h0, if_pos h1, X11_off_j22, X11_off_j42, bd_s, vl_e, i_0, i_10, i_1, i_2, i_3, i_4, i_6, if_true, if_false, ll_6]
        exact ⟨_, _, _, e1, e2, inv_ref I (by decide)⟩
      · by_cases h2 : a3 < 0 ∨ 1 < a3
        · have e1 : X10_off (nI j) a2 a3 c = some (4000000000000000000 - (-2 : Int32).toInt64, sI c 4 2 (c.1 4 2 + 1)) := by
            simp only [X10_off, nb_y cN hN hj, s_at42 hj4, cs_in _ (zc42 hj4), s_outside, s_noSuch, s_noPart, s_outsideTwo, s_first, if_neg h0, if_neg h1, if_pos h2, bd_s, vl_e, i_0, i_10, i_1, i_2, i_3, i_4, i_6, if_true, if_false, rf_2]
          have e2 : X11_off (nI j) a2 a3 r = some (4000000000000000000 - (-2 : Int32).toInt64, sI r 1 2 (r.1 1 2 + 1)) := by
            simp only [X11_off, ij_y rN hN hj, hj_ck hj4, hjc, s_bound, s_isIn, if_neg h0, if_neg h1, if_pos h2, X11_off_j22, X11_off_j42, bd_s, vl_e, i_0, i_10, i_1, i_2, i_3, i_4, i_6, if_true, if_false, ll_2]
          exact ⟨_, _, _, e1, e2, inv_ref I (by decide)⟩
        · obtain ⟨V, v1, v2⟩ := rv_0 (hJ j hj4) hWW hS.1 hS.2 hpl.1 hpl.2 a2
          obtain ⟨c', s1, s2, s3, s4, s5, s6, s7, s8, s9, s10⟩ := k_now a2 M hW hj4
          obtain ⟨r', t1, t2⟩ := hcn.1 a2
          obtain ⟨q, q1, q2⟩ := s_frac (A := V) (B := 2 ^ (2 * S)) (by omega) hpw.2 (by omega) a3
          have e1 : X10_off (nI j) a2 a3 c = some (q, c') := by
            simp only [X10_off, nb_y cN hN hj, s_at42 hj4, cs_in _ (zc42 hj4), s_outside, s_noSuch, s_noPart, s_outsideTwo, s_first, if_neg h0, if_neg h1, if_neg h2, bd_s, vl_e, i_0, i_10, i_1, i_2, i_3, i_4, i_6, if_true, if_false, s1, s9, s5, v1, q1]
          have e2 : X11_off (nI j) a2 a3 r = some (q, r') := by
            simp only [X11_off, ij_y rN hN hj, hj_ck hj4, hjc, s_bound, s_isIn, X11_off_j22, X11_off_j42, if_neg h0, if_neg h1, if_neg h2, bd_s, vl_e, i_0, i_10, i_1, i_2, i_3, i_4, i_6, if_true, if_false, s_placeR hj4 (by omega : S < 4000) rS, t1, v1, k_all (r := r') (by rw [t2.1]; exact rS) hS.2, q2]
          exact SimE.mk' e1 e2 rfl (Inv_f I (k_PC s2 s3 s4) (fun _ _ _ => t2.PR))
theorem o_past {c r : AH} {a1 a2 a3 : Int32} (I : Inv c r) : SimE (X10_past a1 a2 a3 c) (X11_past a1 a2 a3 r) Inv := by
  obtain ⟨⟨S, G, N, T, M⟩, hW, hL, hRow, hRF, hIM⟩ := id I
  obtain ⟨R, ⟨cS, cW, cG, cN, cT⟩, cJ, cTr⟩ := id M
  obtain ⟨rS, rG, rN, rT, hS, hG, hN, hT, hWW, hJ, hH⟩ := id R
  rcases jm a1 hN with hz | ⟨j, hj, rfl⟩
  · have e1 : X10_past a1 a2 a3 c = some (4000000000000000000 - (-1 : Int32).toInt64, sI c 4 1 (c.1 4 1 + 1)) := by
      simp only [X10_past, nb_n cN hz, s_outside, s_noSuch, s_noPart, s_outsideTwo, s_first, bd_s, vl_e, i_0, i_10, i_1, i_2, i_3, i_4, i_6, if_true, if_false, rf_1]
    have e2 : X11_past a1 a2 a3 r = some (4000000000000000000 - (-1 : Int32).toInt64, sI r 1 1 (r.1 1 1 + 1)) := by
      simp only [X11_past, ij_n rN hz, s_bound, s_isIn, X11_past_j20, X11_past_j40, bd_s, vl_e, i_0, i_10, i_1, i_2, i_3, i_4, i_6, if_true, if_false, ll_1]
    exact ⟨_, _, _, e1, e2, inv_ref I (by decide)⟩
  · have hj4 : j < 4 := by omega
    have hjc : (nI j).toNatClampNeg = j := nI_clamp (by omega)
    have hJC : ∀ k, 1 ≤ k → k ≤ 8 → c.1 (48 + j) k = r.1 (k + 1) j := (cJ j hj4).1
    have hJK : JK c (48 + j) := (cJ j hj4).2
    have hpl := pl_b R hj4 hWW
    have hcn := u_count hj4 (hJ j hj4) rS hWW hS.1 hS.2 hpl.1 hpl.2
    have hpw := pw_b hS.2
    by_cases h0 : a2 < 0
    · have e1 : X10_past (nI j) a2 a3 c = some (4000000000000000000 - (-4 : Int32).toInt64, sI c 4 4 (c.1 4 4 + 1)) := by
        simp only [X10_past, nb_y cN hN hj, s_at42 hj4, cs_in _ (zc42 hj4), s_outside, s_noSuch, s_noPart, s_outsideTwo, s_first, if_pos h0, bd_s, vl_e, i_0, i_10, i_1, i_2, i_3, i_4, i_6, if_true, if_false, rf_4]
      have e2 : X11_past (nI j) a2 a3 r = some (4000000000000000000 - (-4 : Int32).toInt64, sI r 1 4 (r.1 1 4 + 1)) := by
        simp only [X11_past, ij_y rN hN hj, hj_ck hj4, hjc, s_bound, s_isIn, if_pos h0, X11_past_j20, X11_past_j40, bd_s, vl_e, i_0, i_10, i_1, i_2, i_3, i_4, i_6, if_true, if_false, ll_4]
      exact ⟨_, _, _, e1, e2, inv_ref I (by decide)⟩
    · by_cases h1 : 999 < a2
      · have e1 : X10_past (nI j) a2 a3 c = some (4000000000000000000 - (-6 : Int32).toInt64, sI c 4 6 (c.1 4 6 + 1)) := by
          simp only [X10_past, nb_y cN hN hj, s_at42 hj4, cs_in _ (zc42 hj4), s_outside, s_noSuch, s_noPart, s_outsideTwo, s_first, if_neg h0, if_pos h1, bd_s, vl_e, i_0, i_10, i_1, i_2, i_3, i_4, i_6, if_true, if_false, rf_6]
        have e2 : X11_past (nI j) a2 a3 r = some (4000000000000000000 - (-6 : Int32).toInt64, sI r 1 6 (r.1 1 6 + 1)) := by
          simp only [X11_past, ij_y rN hN hj, hj_ck hj4, hjc, s_bound, s_isIn, if_neg h0, if_pos h1, X11_past_j20, X11_past_j40, bd_s, vl_e, i_0, i_10, i_1, i_2, i_3, i_4, i_6, if_true, if_false, ll_6]
        exact ⟨_, _, _, e1, e2, inv_ref I (by decide)⟩
      · by_cases h2 : a3 < 0 ∨ 1 < a3
        · have e1 : X10_past (nI j) a2 a3 c = some (4000000000000000000 - (-2 : Int32).toInt64, sI c 4 2 (c.1 4 2 + 1)) := by
            simp only [X10_past, nb_y cN hN hj, s_at42 hj4, cs_in _ (zc42 hj4), s_outside, s_noSuch, s_noPart, s_outsideTwo, s_first, if_neg h0, if_neg h1, if_pos h2, bd_s, vl_e, i_0, i_10, i_1, i_2, i_3, i_4, i_6, if_true, if_false, rf_2]
          have e2 : X11_past (nI j) a2 a3 r = some (4000000000000000000 - (-2 : Int32).toInt64, sI r 1 2 (r.1 1 2 + 1)) := by
            simp only [X11_past, ij_y rN hN hj, hj_ck hj4, hjc, s_bound, s_isIn, if_neg h0, if_neg h1, if_pos h2, X11_past_j20, X11_past_j40, bd_s, vl_e, i_0, i_10, i_1, i_2, i_3, i_4, i_6, if_true, if_false, ll_2]
          exact ⟨_, _, _, e1, e2, inv_ref I (by decide)⟩
        · obtain ⟨x, hx, rfl⟩ := nI_of2 (M := 999) (n := 999) rfl h0 (Int32.not_lt.mp h1)
          obtain ⟨V, v1, v2⟩ := rv_3 (hJ j hj4) hWW hS.1 hS.2 hpl.1 hpl.2 x
          obtain ⟨c', s1, s2, s3, s4, s5, s6, s7, s8, s9, s10⟩ := k_now 0 M hW hj4
          obtain ⟨r', t1, t2⟩ := hcn.2.2.2 x (by omega)
          obtain ⟨q, q1, q2⟩ := s_frac (A := V) (B := 2 ^ (2 * S)) (by omega) hpw.2 (by omega) a3
          have e1 : X10_past (nI j) (nI x) a3 c = some (q, c') := by
            simp only [X10_past, nb_y cN hN hj, s_at42 hj4, cs_in _ (zc42 hj4), s_outside, s_noSuch, s_noPart, s_outsideTwo, s_first, if_neg h0, if_neg h1, if_neg h2, bd_s, vl_e, i_0, i_10, i_1, i_2, i_3, i_4, i_6, if_true, if_false, s1, s_past (by omega : x < 1000), s6, s5, v1, q1]
          have e2 : X11_past (nI j) (nI x) a3 r = some (q, r') := by
            simp only [X11_past, ij_y rN hN hj, hj_ck hj4, hjc, s_bound, s_isIn, X11_past_j20, X11_past_j40, if_neg h0, if_neg h1, if_neg h2, bd_s, vl_e, i_0, i_10, i_1, i_2, i_3, i_4, i_6, if_true, if_false, s_placeR hj4 (by omega : S < 4000) rS, t1, v1, k_all (r := r') (by rw [t2.1]; exact rS) hS.2, q2]
          exact SimE.mk' e1 e2 rfl (Inv_f I (k_PC s2 s3 s4) (fun _ _ _ => t2.PR))
theorem o_mean {c r : AH} {a1 a2 a3 : Int32} (I : Inv c r) : SimE (X10_mean a1 a2 a3 c) (X11_mean a1 a2 a3 r) Inv := by
  obtain ⟨⟨S, G, N, T, M⟩, hW, hL, hRow, hRF, hIM⟩ := id I
  obtain ⟨R, ⟨cS, cW, cG, cN, cT⟩, cJ, cTr⟩ := id M
  obtain ⟨rS, rG, rN, rT, hS, hG, hN, hT, hWW, hJ, hH⟩ := id R
  rcases jm a1 hN with hz | ⟨j, hj, rfl⟩
  · have e1 : X10_mean a1 a2 a3 c = some (4000000000000000000 - (-1 : Int32).toInt64, sI c 4 1 (c.1 4 1 + 1)) := by
      simp only [X10_mean, nb_n cN hz, s_outside, s_noSuch, s_noPart, s_outsideTwo, s_first, bd_s, vl_e, i_0, i_10, i_1, i_2, i_3, i_4, i_6, if_true, if_false, rf_1]
    have e2 : X11_mean a1 a2 a3 r = some (4000000000000000000 - (-1 : Int32).toInt64, sI r 1 1 (r.1 1 1 + 1)) := by
      simp only [X11_mean, ij_n rN hz, s_bound, s_isIn, X11_mean_j32, bd_s, vl_e, i_0, i_10, i_1, i_2, i_3, i_4, i_6, if_true, if_false, ll_1]
    exact ⟨_, _, _, e1, e2, inv_ref I (by decide)⟩
  · have hj4 : j < 4 := by omega
    have hjc : (nI j).toNatClampNeg = j := nI_clamp (by omega)
    have hJC : ∀ k, 1 ≤ k → k ≤ 8 → c.1 (48 + j) k = r.1 (k + 1) j := (cJ j hj4).1
    have hJK : JK c (48 + j) := (cJ j hj4).2
    have hpl := pl_b R hj4 hWW
    have hcn := u_count hj4 (hJ j hj4) rS hWW hS.1 hS.2 hpl.1 hpl.2
    have hpw := pw_b hS.2
    by_cases h0 : a2 < 0 ∨ 1 < a2
    · have e1 : X10_mean (nI j) a2 a3 c = some (4000000000000000000 - (-2 : Int32).toInt64, sI c 4 2 (c.1 4 2 + 1)) := by
        simp only [X10_mean, nb_y cN hN hj, s_at42 hj4, cs_in _ (zc42 hj4), s_outside, s_noSuch, s_noPart, s_outsideTwo, s_first, if_pos h0, bd_s, vl_e, i_0, i_10, i_1, i_2, i_3, i_4, i_6, if_true, if_false, rf_2]
      have e2 : X11_mean (nI j) a2 a3 r = some (4000000000000000000 - (-2 : Int32).toInt64, sI r 1 2 (r.1 1 2 + 1)) := by
        simp only [X11_mean, ij_y rN hN hj, hj_ck hj4, hjc, s_bound, s_isIn, if_pos h0, X11_mean_j32, bd_s, vl_e, i_0, i_10, i_1, i_2, i_3, i_4, i_6, if_true, if_false, ll_2]
      exact ⟨_, _, _, e1, e2, inv_ref I (by decide)⟩
    · by_cases h1 : a3 < 0 ∨ 1 < a3
      · have e1 : X10_mean (nI j) a2 a3 c = some (4000000000000000000 - (-2 : Int32).toInt64, sI c 4 2 (c.1 4 2 + 1)) := by
          simp only [X10_mean, nb_y cN hN hj, s_at42 hj4, cs_in _ (zc42 hj4), s_outside, s_noSuch, s_noPart, s_outsideTwo, s_first, if_neg h0, if_pos h1, bd_s, vl_e, i_0, i_10, i_1, i_2, i_3, i_4, i_6, if_true, if_false, rf_2]
        have e2 : X11_mean (nI j) a2 a3 r = some (4000000000000000000 - (-2 : Int32).toInt64, sI r 1 2 (r.1 1 2 + 1)) := by
          simp only [X11_mean, ij_y rN hN hj, hj_ck hj4, hjc, s_bound, s_isIn, if_neg h0, if_pos h1, X11_mean_j32, bd_s, vl_e, i_0, i_10, i_1, i_2, i_3, i_4, i_6, if_true, if_false, ll_2]
        exact ⟨_, _, _, e1, e2, inv_ref I (by decide)⟩
      · obtain ⟨c', s1, s2, s3, s4, s5, s6, s7, s8, s9, s10⟩ := k_now 0 M hW hj4
        by_cases hw0 : a2 = 0
        · obtain ⟨V, v1, v2⟩ := rv_1 (hJ j hj4) hWW hS.1 hS.2 hpl.1 hpl.2
          obtain ⟨r', t1, t2⟩ := hcn.2.1
          obtain ⟨q, q1, q2⟩ := s_frac (A := V) (B := 2 ^ (2 * S)) (by omega) hpw.2 (by omega) a3
          have e1 : X10_mean (nI j) a2 a3 c = some (q, c') := by
            simp only [X10_mean, nb_y cN hN hj, s_at42 hj4, cs_in _ (zc42 hj4), s_outside, s_noSuch, s_noPart, s_outsideTwo, s_first, if_neg h0, if_neg h1, bd_s, vl_e, i_0, i_10, i_1, i_2, i_3, i_4, i_6, if_true, if_false, s1, if_pos hw0, X10_mean_j66, s8, s5, v1, q1]
          have e2 : X11_mean (nI j) a2 a3 r = some (q, r') := by
            simp only [X11_mean, ij_y rN hN hj, hj_ck hj4, hjc, s_bound, s_isIn, X11_mean_j32, X11_mean_j63, if_neg h0, if_neg h1, bd_s, vl_e, i_0, i_10, i_1, i_2, i_3, i_4, i_6, if_true, if_false, if_pos hw0, s_placeR hj4 (by omega : S < 4000) rS, t1, v1, k_all (r := r') (by rw [t2.1]; exact rS) hS.2, q2]
          exact SimE.mk' e1 e2 rfl (Inv_f I (k_PC s2 s3 s4) (fun _ _ _ => t2.PR))
        · obtain ⟨V, v1, v2⟩ := rv_2 (hJ j hj4) hWW hS.1 hS.2 hpl.1 hpl.2
          obtain ⟨r', t1, t2⟩ := hcn.2.2.1 0
          obtain ⟨q, q1, q2⟩ := s_frac (A := V) (B := 2 ^ (2 * S)) (by omega) hpw.2 (by omega) a3
          have e1 : X10_mean (nI j) a2 a3 c = some (q, c') := by
            simp only [X10_mean, nb_y cN hN hj, s_at42 hj4, cs_in _ (zc42 hj4), s_outside, s_noSuch, s_noPart, s_outsideTwo, s_first, if_neg h0, if_neg h1, bd_s, vl_e, i_0, i_10, i_1, i_2, i_3, i_4, i_6, if_true, if_false, s1, if_neg hw0, X10_mean_j66, s_mean, s7, s5, v1, q1]
          have e2 : X11_mean (nI j) a2 a3 r = some (q, r') := by
            simp only [X11_mean, ij_y rN hN hj, hj_ck hj4, hjc, s_bound, s_isIn, X11_mean_j32, X11_mean_j63, X11_meanParts, if_neg h0, if_neg h1, bd_s, vl_e, i_0, i_10, i_1, i_2, i_3, i_4, i_6, if_true, if_false, if_neg hw0, s_placeR hj4 (by omega : S < 4000) rS, t1, v1, k_all (r := r') (by rw [t2.1]; exact rS) hS.2, q2]
          exact SimE.mk' e1 e2 rfl (Inv_f I (k_PC s2 s3 s4) (fun _ _ _ => t2.PR))
theorem o_parts {c r : AH} {a1 a2 : Int32} (I : Inv c r) : SimE (X10_parts a1 a2 c) (X11_parts a1 a2 r) Inv := by
  obtain ⟨⟨S, G, N, T, M⟩, hW, hL, hRow, hRF, hIM⟩ := id I
  obtain ⟨R, ⟨cS, cW, cG, cN, cT⟩, cJ, cTr⟩ := id M
  obtain ⟨rS, rG, rN, rT, hS, hG, hN, hT, hWW, hJ, hH⟩ := id R
  rcases jm a1 hN with hz | ⟨j, hj, rfl⟩
  · have e1 : X10_parts a1 a2 c = some (-1, sI c 4 1 (c.1 4 1 + 1)) := by
      simp only [X10_parts, nb_n cN hz, s_outside, s_noSuch, s_noPart, s_outsideTwo, s_first, bd_s, vl_e, i_0, i_10, i_1, i_2, i_3, i_4, i_6, if_true, if_false, rf_1]
    have e2 : X11_parts a1 a2 r = some (-1, sI r 1 1 (r.1 1 1 + 1)) := by
      simp only [X11_parts, ij_n rN hz, s_bound, s_isIn, X11_parts_j20, bd_s, vl_e, i_0, i_10, i_1, i_2, i_3, i_4, i_6, if_true, if_false, no_1]
    exact ⟨_, _, _, e1, e2, inv_ref I (by decide)⟩
  · have hj4 : j < 4 := by omega
    have hjc : (nI j).toNatClampNeg = j := nI_clamp (by omega)
    have hJC : ∀ k, 1 ≤ k → k ≤ 8 → c.1 (48 + j) k = r.1 (k + 1) j := (cJ j hj4).1
    have hJK : JK c (48 + j) := (cJ j hj4).2
    have hpl := pl_b R hj4 hWW
    have hcn := u_count hj4 (hJ j hj4) rS hWW hS.1 hS.2 hpl.1 hpl.2
    have hpw := pw_b hS.2
    by_cases h0 : a2 < 0
    · have e1 : X10_parts (nI j) a2 c = some (-4, sI c 4 4 (c.1 4 4 + 1)) := by
        simp only [X10_parts, nb_y cN hN hj, s_at42 hj4, cs_in _ (zc42 hj4), s_outside, s_noSuch, s_noPart, s_outsideTwo, s_first, if_pos h0, bd_s, vl_e, i_0, i_10, i_1, i_2, i_3, i_4, i_6, if_true, if_false, rf_4]
      have e2 : X11_parts (nI j) a2 r = some (-4, sI r 1 4 (r.1 1 4 + 1)) := by
        simp only [X11_parts, ij_y rN hN hj, hj_ck hj4, hjc, s_bound, s_isIn, if_pos h0, X11_parts_j20, bd_s, vl_e, i_0, i_10, i_1, i_2, i_3, i_4, i_6, if_true, if_false, no_4]
      exact ⟨_, _, _, e1, e2, inv_ref I (by decide)⟩
    · by_cases h1 : 999 < a2
      · have e1 : X10_parts (nI j) a2 c = some (-6, sI c 4 6 (c.1 4 6 + 1)) := by
          simp only [X10_parts, nb_y cN hN hj, s_at42 hj4, cs_in _ (zc42 hj4), s_outside, s_noSuch, s_noPart, s_outsideTwo, s_first, if_neg h0, if_pos h1, bd_s, vl_e, i_0, i_10, i_1, i_2, i_3, i_4, i_6, if_true, if_false, rf_6]
        have e2 : X11_parts (nI j) a2 r = some (-6, sI r 1 6 (r.1 1 6 + 1)) := by
          simp only [X11_parts, ij_y rN hN hj, hj_ck hj4, hjc, s_bound, s_isIn, if_neg h0, if_pos h1, X11_parts_j20, bd_s, vl_e, i_0, i_10, i_1, i_2, i_3, i_4, i_6, if_true, if_false, no_6]
        exact ⟨_, _, _, e1, e2, inv_ref I (by decide)⟩
      · obtain ⟨x, hx, rfl⟩ := nI_of2 (M := 999) (n := 999) rfl h0 (Int32.not_lt.mp h1)
        obtain ⟨c', s1, s2, s3, s4, s5, s6, s7, s8, s9, s10⟩ := k_now 0 M hW hj4
        obtain ⟨r', t1, t2, t3⟩ := u_lengths (p := 25) hj4 (hJ j hj4) rS hWW hS.1 hS.2 hpl.1 hpl.2 (by decide) (by decide)
        obtain ⟨y, y1, y2, y3⟩ := t3 x (by omega)
        have cx : ∀ {β : Type} (o : Option β), ck (nI x) 1000 o = o := fun o => ck_nI o (by omega) (by decide)
        have xc : (nI x).toNatClampNeg = x := nI_clamp (by omega)
        have e1 : X10_parts (nI j) (nI x) c = some (nI (sh y S), c') := by
          simp only [X10_parts, nb_y cN hN hj, s_at42 hj4, cs_in _ (zc42 hj4), s_outside, s_noSuch, s_noPart, s_outsideTwo, s_first, if_neg h0, if_neg h1, bd_s, vl_e, i_0, i_10, i_1, i_2, i_3, i_4, i_6, if_true, if_false, s1, cx, xc, s10 x (by omega), y1, s_share hS.2 y2 s5]
        have e2 : X11_parts (nI j) (nI x) r = some (nI (sh y S), r') := by
          simp only [X11_parts, ij_y rN hN hj, hj_ck hj4, hjc, s_bound, s_isIn, X11_parts_j20, if_neg h0, if_neg h1, bd_s, vl_e, i_0, i_10, i_1, i_2, i_3, i_4, i_6, if_true, if_false, s_placeR hj4 (by omega : S < 4000) rS, t1, cx, xc, y3, lN_i]
        exact SimE.mk' e1 e2 rfl (Inv_f I (k_PC s2 s3 s4) (fun _ _ _ => PR.L t2.1))
end
section
/-! THE CALLS that look for the best -/
theorem lc_gt (x y : Int64) : (lcmpV x y ≤ 0 ↔ ¬ y < x) ∧ (0 < lcmpV x y ↔ y < x) := by
  unfold lcmpV
  by_cases h : y < x
  · rw [if_pos h]
    exact ⟨⟨fun z => absurd z (by decide), fun z => absurd h z⟩, ⟨fun _ => h, fun _ => by decide⟩⟩
  · rw [if_neg h]
    by_cases e : x = y
    · rw [if_pos e]
      exact ⟨⟨fun _ => h, fun _ => by decide⟩, ⟨fun z => absurd z (by decide), fun z => absurd z h⟩⟩
    · rw [if_neg e]
      exact ⟨⟨fun _ => h, fun _ => by decide⟩, ⟨fun z => absurd z (by decide), fun z => absurd z h⟩⟩
/-- the class's spare jumper is the reference's jumper but for the fields in X -/
def SPJ (h : AH) (J : Nat → Int32) : Prop := (∀ k, 1 ≤ k → k ≤ 8 → h.1 72 k = J k) ∧ JK h 72
theorem PC.sp (c : AH) {k : Nat} (v : Int32) : PC c (sI c 72 k v) := ⟨fun q _ => by rw [sI_at, if_neg (by omega)], fun p q h => by rw [sI_at, if_neg (by omega)], fun _ _ => rfl, fun _ _ _ => rfl⟩
theorem PC.WT {c c' : AH} (p : PC c c') (h : WT c) : WT c' := fun n j hn => by rw [p.2.2.2 _ (by omega) (by omega)]; exact h n j hn
theorem PC.MR {c c' r : AH} {S G N T : Nat} (p : PC c c') (M : MR 42 c r S G N T) : MR 42 c' r S G N T := MR_cc M (fun k hk => p.2.1 42 k (by omega)) (fun i k hi _ _ => p.2.1 _ k (by omega)) (fun i hi => p.2.2.1 _ (by omega)) (fun t _ => ⟨p.2.1 _ t (by omega), p.2.1 _ t (by omega)⟩)
/-- the spare copied -/
theorem sp_copy {c r : AH} {S G N T j : Nat} (M : MR 42 c r S G N T) (hj : j < 4) : ∃ c', X2_copyFrom 72 (48 + j) c = some ((), c') ∧ PC c c' ∧ SPJ c' (RJ r j) := by
  obtain ⟨hc, κ, k1, k2, k3⟩ := M.2.2.1 j hj
  refine ⟨jcp 72 (48 + j) c, s_jcp (by omega) c, ⟨fun k _ => by rw [jcp_at, if_neg (by omega)], fun o k h => by rw [jcp_at, if_neg (by omega)], fun o h => by rw [jcp_22, if_neg (by omega)], fun _ _ _ => rfl⟩, fun k h1 h2 => ?_, κ, k1, ?_, ?_⟩
  · rw [jcp_at, if_pos ⟨rfl, h1, h2⟩]
    exact hc k h1 h2
  · rw [jcp_22, if_pos rfl]
    exact k2
  · rw [jcp_at, if_pos ⟨rfl, by omega, by omega⟩]
    exact k3
/-- a spread of the spare, told in the reference's numbers -/
theorem sp_spread {h : AH} {J : Nat → Int32} {S2 : Nat} {wd pl : Int32} (hs : SPJ h J) (hJ : NJ J) (hW : WT h) (hw : WW wd) (h4 : 4 ≤ S2) (h20 : S2 ≤ 20) (hp : -5000 ≤ pl.toInt) (hp2 : pl.toInt ≤ 5000) :
    ∃ c', X1_spread 72 (nI S2) wd pl 0 h = some ((), c') ∧ c'.1 = h.1 ∧ c'.2.2 = h.2.2 ∧ PC h c' ∧ Ph lN c' = RV J wd pl S2 p2 := by
  obtain ⟨c', a1, a2, a3, a4, a5, a6, a7, a8, a9, a10⟩ := u_spread (h := h) (p := 72) (S := S2) 0 hs.2 (NJ_J (fun k k1 k2 => (hs.1 k k1 k2).symm) hJ) hW hw h4 h20 hp hp2
  exact ⟨c', a1, a2, a3, k_PC a2 a3 a4, by rw [a7]; exact RV_J hs.1 wd pl S2 p2⟩
theorem bl_loop {c r : AH} {S G N T j : Nat} {pl : Int32} (M : MR 42 c r S G N T) (hW : WT c) (hj : j < 4) (epl : pl = r.1 9 j - pathS (r.1 2 j) (r.1 4 j) (r.1 5 j) (r.1 0 14) S) : ∀ (n v : Nat) (best : Int32) (most : Int64) (h g : AH), 5 < v + n → v ≤ 5 → PC c h → (∃ x, SPJ h (fun q => if q = 7 then x else RJ r j q)) → (∀ o k, ¬ (o = 8 ∧ k = j) → g.1 o k = r.1 o k) →
    ∃ b c' r', X10_bestLook_l48 pl n best most (nI v) h = some (b, c') ∧ X11_bestLook_l31 (nI j) (r.1 8 j) n best most (nI v) g = some (b, r') ∧ PC c c' ∧ PR T r r' := by
  have hR := M.1
  obtain ⟨rS, rG, rN, rT, hS, hG, hN, hT, hWW, hJ, hH⟩ := id hR
  have hpl := pl_b hR hj hWW
  rw [← epl] at hpl
  intro n
  induction n with
  | zero => intro v best most h g h1; omega
  | succ n ih =>
    intro v best most h g h1 h2 P hs hg
    obtain ⟨x, hs⟩ := hs
    rw [X10_bestLook_l48.eq_2, X11_bestLook_l31.eq_2]
    by_cases z : v = 5
    · subst z
      rw [if_pos (show (4 : Int32) < nI 5 from nI_lt (a := 4) (by decide) (by decide)), if_pos (show (5 : Int32) ≤ nI 5 from Int32.le_refl _), ck_nI _ hj (by decide), vl_e, nI_clamp (by omega)]
      refine ⟨_, _, _, rfl, rfl, P, ?_⟩
      have e : ∀ o k, (sI g 8 j (r.1 8 j)).1 o k = r.1 o k := by
        intro o k
        rw [sI_at]
        by_cases y : o = 8 ∧ k = j
        · rw [if_pos y, y.1, y.2]
        · rw [if_neg y, hg o k y]
      exact ⟨fun k _ => e 0 k, fun o k _ _ => e o k, fun t _ => ⟨e 10 t, e 11 t⟩, fun k => ⟨e 13 k, e 23 k⟩, fun k _ => e 17 k⟩
    · rw [if_neg (show ¬ (4 : Int32) < nI v from nI_nlt (a := 4) (by omega) (by decide)), if_neg (show ¬ (5 : Int32) ≤ nI v from nI_ge (b := 5) (by omega) (by decide)), vl_e, ck_nI _ hj (by decide), vl_e, nI_clamp (by omega)]
      have hJv : NJ (fun q => if q = 7 then nI v else RJ r j q) := nj_look (hJ j hj) (nI_pos (by omega)) (show ¬ (4 : Int32) < nI v from nI_nlt (a := 4) (by omega) (by decide))
      -- the class
      obtain ⟨h1', e1'⟩ : ∃ q, q = sI h 72 7 (nI v) := ⟨_, rfl⟩
      have P1 : PC c h1' := by rw [e1']; exact P.tr (PC.sp h (nI v))
      have s1 : SPJ h1' (fun q => if q = 7 then nI v else RJ r j q) := by
        rw [e1']
        refine ⟨fun k k1 k2 => ?_, ?_⟩
        · have e7 : h.1 72 k = if k = 7 then x else RJ r j k := hs.1 k k1 k2
          show (sI h 72 7 (nI v)).1 72 k = if k = 7 then nI v else RJ r j k
          rw [sI_at]
          by_cases y : k = 7
          · rw [if_pos ⟨rfl, y⟩, if_pos y]
          · rw [if_neg (fun q => y q.2), if_neg y, e7, if_neg y]
        · obtain ⟨κ, a, b, d⟩ := hs.2
          exact ⟨κ, a, b, by rw [sI_at, if_neg (by omega)]; exact d⟩
      have M1 := P1.MR M
      obtain ⟨h2', b1, b2, b3, b4, b5⟩ := sp_spread (wd := r.1 0 14) (S2 := S) s1 hJv (P1.WT hW) hWW hS.1 hS.2 hpl.1 hpl.2
      have b1' : X10_spreadAt 72 pl h1' = some ((), h2') := by
        unfold X10_spreadAt
        rw [M1.2.1.1, M1.2.1.2.1, b1, bd_s]
      -- the reference
      obtain ⟨g1, eg1⟩ : ∃ q, q = sI g 8 j (nI v) := ⟨_, rfl⟩
      have q1 : ∀ o k, ¬ (o = 8 ∧ k = j) → g1.1 o k = r.1 o k := fun o k y => by rw [eg1, sI_at, if_neg y, hg o k y]
      have q8 : g1.1 8 j = nI v := by rw [eg1, sI_at, if_pos ⟨rfl, rfl⟩]
      have eJ : ∀ k, 1 ≤ k → k ≤ 8 → RJ g1 j k = (fun q => if q = 7 then nI v else RJ r j q) k := by
        intro k k1 k2
        show g1.1 (k + 1) j = if k = 7 then nI v else r.1 (k + 1) j
        by_cases y : k = 7
        · rw [if_pos y, y]; exact q8
        · rw [if_neg y]; exact q1 _ _ (by omega)
      have q12 : g1.1 0 12 = nI S := by rw [q1 0 12 (by omega)]; exact rS
      have q14 : g1.1 0 14 = r.1 0 14 := q1 0 14 (by omega)
      have ep : g1.1 9 j - pathS (g1.1 2 j) (g1.1 4 j) (g1.1 5 j) (g1.1 0 14) S = pl := by
        rw [q1 9 j (by omega), q1 2 j (by omega), q1 4 j (by omega), q1 5 j (by omega), q14, epl]
      obtain ⟨g2, t1, t2⟩ := (u_count (h := g1) hj (NJ_J (fun k k1 k2 => (eJ k k1 k2).symm) hJv) q12 (by rw [q14]; exact hWW) hS.1 hS.2 hpl.1 hpl.2).2.2.1 0
      have t1' : X11_meanParts (nI j) g1 = some (RV (fun q => if q = 7 then nI v else RJ r j q) (r.1 0 14) pl S p2, g2) := by
        unfold X11_meanParts
        rw [s_placeR hj (by omega : S < 4000) q12, bd_s, ep, t1, bd_s, q14, RV_J eJ]
      rw [← e1', ← eg1, b1', bd_s, s_mean, bd_s, b5, t1', bd_s]
      have hq2 : ∀ o k, ¬ (o = 8 ∧ k = j) → g2.1 o k = r.1 o k := fun o k y => by rw [t2.1]; exact q1 o k y
      have hs2 : SPJ h2' (fun q => if q = 7 then nI v else RJ r j q) := ⟨fun k k1 k2 => by rw [b2]; exact s1.1 k k1 k2, s1.2.of b2 b3⟩
      have lc := lc_gt (RV (fun q => if q = 7 then nI v else RJ r j q) (r.1 0 14) pl S p2) most
      unfold X10_bestLook_j97 X11_bestLook_j70
      by_cases y : most < RV (fun q => if q = 7 then nI v else RJ r j q) (r.1 0 14) pl S p2
      · rw [if_neg (fun q => lc.1.mp q y), if_pos (lc.2.mpr y), vl_e, vl_e, nI_1]
        exact ih (v + 1) _ _ h2' g2 (by omega) (by omega) (P1.tr b4) ⟨_, hs2⟩ hq2
      · rw [if_pos (lc.1.mpr y), if_neg (fun q => y (lc.2.mp q)), vl_e, vl_e, nI_1]
        exact ih (v + 1) _ _ h2' g2 (by omega) (by omega) (P1.tr b4) ⟨_, hs2⟩ hq2
theorem o_bestLook {c r : AH} {a1 : Int32} (I : Inv c r) : SimE (X10_bestLook a1 c) (X11_bestLook a1 r) Inv := by
  obtain ⟨⟨S, G, N, T, M⟩, hW, hL, hRow, hRF, hIM⟩ := id I
  obtain ⟨R, ⟨cS, cW, cG, cN, cT⟩, cJ, cTr⟩ := id M
  obtain ⟨rS, rG, rN, rT, hS, hG, hN, hT, hWW, hJ, hH⟩ := id R
  rcases jm a1 hN with hz | ⟨j, hj, rfl⟩
  · have e1 : X10_bestLook a1 c = some (-1, sI c 4 1 (c.1 4 1 + 1)) := by
      simp only [X10_bestLook, nb_n cN hz, s_outside, s_noSuch, s_noPart, s_outsideTwo, s_first, bd_s, vl_e, i_0, i_10, i_1, i_2, i_3, i_4, i_6, if_true, if_false, rf_1]
    have e2 : X11_bestLook a1 r = some (-1, sI r 1 1 (r.1 1 1 + 1)) := by
      simp only [X11_bestLook, ij_n rN hz, s_bound, s_isIn, bd_s, vl_e, i_0, i_10, i_1, i_2, i_3, i_4, i_6, if_true, if_false, no_1]
    exact ⟨_, _, _, e1, e2, inv_ref I (by decide)⟩
  · have hj4 : j < 4 := by omega
    have hjc : (nI j).toNatClampNeg = j := nI_clamp (by omega)
    have hJC : ∀ k, 1 ≤ k → k ≤ 8 → c.1 (48 + j) k = r.1 (k + 1) j := (cJ j hj4).1
    have hJK : JK c (48 + j) := (cJ j hj4).2
    obtain ⟨c1, p1, p2', p3'⟩ := sp_copy M hj4
    have M1 := p2'.MR M
    obtain ⟨b, c', r', q1, q2, q3, q4⟩ := bl_loop (pl := r.1 9 j - pathS (r.1 2 j) (r.1 4 j) (r.1 5 j) (r.1 0 14) S) M1 (p2'.WT hW) hj4 rfl FU 0 0 (-1) c1 r (by unfold FU; omega) (by omega) PC.rf ⟨RJ r j 7, ⟨fun k k1 k2 => by
      show c1.1 72 k = if k = 7 then RJ r j 7 else RJ r j k
      rw [p3'.1 k k1 k2]
      by_cases y : k = 7
      · rw [if_pos y, y]
      · rw [if_neg y], p3'.2⟩⟩ (fun _ _ _ => rfl)
    have hpc : X10_placeOf (nI j) c1 = some (r.1 9 j - pathS (r.1 2 j) (r.1 4 j) (r.1 5 j) (r.1 0 14) S, c1) := by
      rw [s_placeC hj4 (M1.2.2.1 j hj4).2 (by omega : S < 4000) M1.2.1.1, pl_eq M1 hj4]
    have q1 : X10_bestLook_l48 (r.1 9 j - pathS (r.1 2 j) (r.1 4 j) (r.1 5 j) (r.1 0 14) S) FU 0 (-1) 0 c1 = some (b, c') := q1
    have q2 : X11_bestLook_l31 (nI j) (r.1 8 j) FU 0 (-1) 0 r = some (b, r') := q2
    have e1 : X10_bestLook (nI j) c = some (b, c') := by
      simp only [X10_bestLook, nb_y cN hN hj, s_at42 hj4, cs_in _ (zc42 hj4), s_outside, s_noSuch, s_noPart, s_outsideTwo, s_first, bd_s, vl_e, i_0, i_10, i_1, i_2, i_3, i_4, i_6, if_true, if_false, p1, hpc, q1]
    have e2 : X11_bestLook (nI j) r = some (b, r') := by
      simp only [X11_bestLook, ij_y rN hN hj, hj_ck hj4, hjc, bd_s, vl_e, i_0, i_10, i_1, i_2, i_3, i_4, i_6, if_true, if_false, q2]
    exact SimE.mk' e1 e2 rfl (Inv_f I (p2'.tr q3) (fun T' h1 h2 => by
      have e : T' = T := by rw [rT] at h1; exact ((nI_eq (by omega) (by omega)).mp h1).symm
      rw [e]; exact q4))
end
section
/-! the best MARK -/
def stp (f : Nat → Int64) (s : Int32 × Int64) (m : Nat) : Int32 × Int64 := if s.2 < f m then (nI m, f m) else s
def fld (f : Nat → Int64) (b0 : Int32) (lo : Nat) : Nat → Int32 × Int64
  | 0 => (b0, -1)
  | k + 1 => stp f (fld f b0 lo k) (lo + k)
theorem stp_ge (f : Nat → Int64) (s : Int32 × Int64) (m : Nat) : ¬ (stp f s m).2 < f m := by
  unfold stp
  by_cases h : s.2 < f m
  · rw [if_pos h]
    exact Int64.lt_irrefl
  · rw [if_neg h]
    exact h
theorem fld_b {f : Nat → Int64} {b0 b1 : Int32} {lo : Nat} (h : -1 < f lo) : ∀ k, fld f b0 lo (k + 1) = fld f b1 lo (k + 1)
  | 0 => by
    show stp f (b0, -1) (lo + 0) = stp f (b1, -1) (lo + 0)
    unfold stp
    rw [Nat.add_zero, if_pos h, if_pos h]
  | k + 1 => by
    show stp f (fld f b0 lo (k + 1)) (lo + (k + 1)) = stp f (fld f b1 lo (k + 1)) (lo + (k + 1))
    rw [fld_b h k]
/-- what is asked: the mean, or past v -/
def phA (v : Int32) : Int32 → Int32 → Int64 := if v < 0 then p2 else p3 v.toNatClampNeg
theorem bm_class {c r : AH} {S G N T j m : Nat} {v path : Int32} (M : MR 42 c r S G N T) (hW : WT c) (hj : j < 4) (hv : v < 0 ∨ ∃ x, x < 1000 ∧ v = nI x) (hm : m ≤ 2400) (em : r.1 9 j = nI m) (hpa : -800 ≤ path.toInt) (hpa2 : path.toInt ≤ 3200) (b0 : Int32) : ∀ (n k : Nat) (h : AH), min 2400 (m + 40) + 1 < (m - 40) + k + n → (m - 40) + k ≤ min 2400 (m + 40) + 1 → PC c h →
    ∃ c', X10_bestMark_l84 v (48 + j) path n (fld (fun μ => RV (RJ r j) (r.1 0 14) (nI μ - path) S (phA v)) b0 (m - 40) k).1 (fld (fun μ => RV (RJ r j) (r.1 0 14) (nI μ - path) S (phA v)) b0 (m - 40) k).2 (nI ((m - 40) + k)) h = some ((fld (fun μ => RV (RJ r j) (r.1 0 14) (nI μ - path) S (phA v)) b0 (m - 40) (min 2400 (m + 40) + 1 - (m - 40))).1, c') ∧ PC c c' := by
  obtain ⟨rS, rG, rN, rT, hS, hG, hN, hT, hWW, hJ, hH⟩ := id M.1
  intro n
  induction n with
  | zero => intro k h h1 h2; omega
  | succ n ih =>
    intro k h h1 h2 P
    have Mh := P.MR M
    have e8 : h.1 (48 + j) 8 = nI m := by
      have : h.1 (48 + j) 8 = r.1 9 j := (Mh.2.2.1 j hj).1 8 (by omega) (by omega)
      rw [this]; exact em
    have ehi : mn32 2400 (nI m + 40) = nI (min 2400 (m + 40)) := by
      have e1 : nI m + 40 = nI (m + 40) := nI_add m 40
      unfold mn32
      rw [e1]
      by_cases y : m + 40 < 2400
      · rw [if_pos (show nI (m + 40) < 2400 from nI_lt (b := 2400) y (by decide)), Nat.min_eq_right (by omega)]
      · rw [if_neg (show ¬ nI (m + 40) < 2400 from nI_nlt (b := 2400) (by omega) (by omega)), Nat.min_eq_left (by omega)]
        rfl
    rw [X10_bestMark_l84.eq_2, e8, ehi]
    by_cases z : (m - 40) + k = min 2400 (m + 40) + 1
    · rw [if_pos (nI_lt (by omega) (by omega)), show min 2400 (m + 40) + 1 - (m - 40) = k from by omega]
      exact ⟨h, rfl, P⟩
    · rw [if_neg (nI_nlt (by omega) (by omega))]
      have hk : (m - 40) + k ≤ 2400 := by omega
      have epl : (nI ((m - 40) + k) - path).toInt = (((m - 40) + k : Nat) : Int) - path.toInt := by
        have e1 : (nI ((m - 40) + k)).toInt = (((m - 40) + k : Nat) : Int) := nI_toInt (by omega)
        rw [fb_subI (by omega) (by omega), e1]
      obtain ⟨h1', a1, a2, a3, a4, a5, a6, a7, -⟩ := k_spread (wd := r.1 0 14) (S2 := S) (pl := nI ((m - 40) + k) - path) 0 Mh (P.WT hW) hj hWW hS.1 hS.2 (by omega) (by omega)
      have a1' : X10_spreadAt (48 + j) (nI ((m - 40) + k) - path) h = some ((), h1') := by
        unfold X10_spreadAt
        rw [Mh.2.1.1, Mh.2.1.2.1, a1, bd_s]
      have P1 := P.tr (k_PC a2 a3 a4)
      rw [a1', bd_s]
      have fin : X10_bestMark_j136 v (48 + j) path (fld (fun μ => RV (RJ r j) (r.1 0 14) (nI μ - path) S (phA v)) b0 (m - 40) k).1 (fld (fun μ => RV (RJ r j) (r.1 0 14) (nI μ - path) S (phA v)) b0 (m - 40) k).2 (nI ((m - 40) + k)) (X10_bestMark_l84 v (48 + j) path n) (RV (RJ r j) (r.1 0 14) (nI ((m - 40) + k) - path) S (phA v)) h1' = X10_bestMark_l84 v (48 + j) path n (fld (fun μ => RV (RJ r j) (r.1 0 14) (nI μ - path) S (phA v)) b0 (m - 40) (k + 1)).1 (fld (fun μ => RV (RJ r j) (r.1 0 14) (nI μ - path) S (phA v)) b0 (m - 40) (k + 1)).2 (nI ((m - 40) + (k + 1))) h1' := by
        unfold X10_bestMark_j136 X10_bestMark_j154
        have lc := lc_gt (RV (RJ r j) (r.1 0 14) (nI ((m - 40) + k) - path) S (phA v)) (fld (fun μ => RV (RJ r j) (r.1 0 14) (nI μ - path) S (phA v)) b0 (m - 40) k).2
        have ef : fld (fun μ => RV (RJ r j) (r.1 0 14) (nI μ - path) S (phA v)) b0 (m - 40) (k + 1) = if (fld (fun μ => RV (RJ r j) (r.1 0 14) (nI μ - path) S (phA v)) b0 (m - 40) k).2 < RV (RJ r j) (r.1 0 14) (nI ((m - 40) + k) - path) S (phA v) then (nI ((m - 40) + k), RV (RJ r j) (r.1 0 14) (nI ((m - 40) + k) - path) S (phA v)) else fld (fun μ => RV (RJ r j) (r.1 0 14) (nI μ - path) S (phA v)) b0 (m - 40) k := rfl
        rw [ef]
        by_cases y : (fld (fun μ => RV (RJ r j) (r.1 0 14) (nI μ - path) S (phA v)) b0 (m - 40) k).2 < RV (RJ r j) (r.1 0 14) (nI ((m - 40) + k) - path) S (phA v)
        · rw [if_neg (fun q => lc.1.mp q y), if_pos y, vl_e, nI_1]
          rfl
        · rw [if_pos (lc.1.mpr y), if_neg y, vl_e, nI_1]
          rfl
      obtain ⟨c', b1, b2⟩ := ih (k + 1) h1' (by omega) (by omega) P1
      rw [← fin] at b1
      rcases hv with hv | ⟨x, hx, rfl⟩
      · rw [if_neg (Int32.not_le.mpr hv), s_mean, bd_s, a7]
        have ep : phA v = p2 := if_pos hv
        rw [ep] at b1 ⊢
        exact ⟨c', b1, b2⟩
      · rw [if_pos (nI_pos' (by omega)), s_past hx, bd_s, a6 x]
        have ep : phA (nI x) = p3 x := by
          unfold phA
          rw [if_neg (nI_pos (by omega)), nI_clamp (by omega)]
        rw [ep] at b1 ⊢
        exact ⟨c', b1, b2⟩
def mkI (m i : Nat) : Nat := if m + i < 40 then 0 else min 2400 (m + i - 40)
def cnI (m : Nat) : Nat → Nat
  | 0 => 0
  | i + 1 => mkI m i - (m - 40) + 1
theorem cn_case (m i : Nat) : (cnI m i = mkI m i - (m - 40)) ∨ (cnI m i = mkI m i - (m - 40) + 1) := by
  cases i with
  | zero =>
    refine Or.inl ?_
    show 0 = mkI m 0 - (m - 40)
    unfold mkI
    split <;> omega
  | succ i =>
    show mkI m i - (m - 40) + 1 = mkI m (i + 1) - (m - 40) ∨ mkI m i - (m - 40) + 1 = mkI m (i + 1) - (m - 40) + 1
    unfold mkI
    split <;> split <;> omega
theorem bm_ref {c r : AH} {S G N T j m : Nat} {v path : Int32} (M : MR 42 c r S G N T) (hj : j < 4) (hv : v < 0 ∨ ∃ x, x < 1000 ∧ v = nI x) (hm : m ≤ 2400) (em : r.1 9 j = nI m) (epa : path = pathS (r.1 2 j) (r.1 4 j) (r.1 5 j) (r.1 0 14) S) (hpa : -800 ≤ path.toInt) (hpa2 : path.toInt ≤ 3200) (b0 : Int32) : ∀ (n i : Nat) (g : AH), 81 < i + n → i ≤ 81 → (∀ o k, ¬ (o = 9 ∧ k = j) → g.1 o k = r.1 o k) →
    ∃ r', X11_bestMark_l51 (nI j) v (nI m) n (fld (fun μ => RV (RJ r j) (r.1 0 14) (nI μ - path) S (phA v)) b0 (m - 40) (cnI m i)).1 (fld (fun μ => RV (RJ r j) (r.1 0 14) (nI μ - path) S (phA v)) b0 (m - 40) (cnI m i)).2 (nI i - 40) g = some ((fld (fun μ => RV (RJ r j) (r.1 0 14) (nI μ - path) S (phA v)) b0 (m - 40) (cnI m 81)).1, r') ∧ PR T r r' := by
  obtain ⟨rS, rG, rN, rT, hS, hG, hN, hT, hWW, hJ, hH⟩ := id M.1
  intro n
  induction n with
  | zero => intro i g h1 h2; omega
  | succ n ih =>
    intro i g h1 h2 hg
    have ti : (nI i - 40).toInt = (i : Int) - 40 := pk_sub_toInt (a := i) (b := 40) (by omega) (by decide)
    have t41 : (41 : Int32).toInt = 41 := rfl
    rw [X11_bestMark_l51.eq_2]
    by_cases z : i = 81
    · subst z
      rw [if_pos (show (41 : Int32) ≤ nI 81 - 40 by decide), ck_nI _ hj (by decide), vl_e, nI_clamp (by omega)]
      refine ⟨_, rfl, ?_⟩
      have e : ∀ o k, (sI g 9 j (nI m)).1 o k = r.1 o k := by
        intro o k
        rw [sI_at]
        by_cases y : o = 9 ∧ k = j
        · rw [if_pos y, y.1, y.2, em]
        · rw [if_neg y, hg o k y]
      exact ⟨fun k _ => e 0 k, fun o k _ _ => e o k, fun t _ => ⟨e 10 t, e 11 t⟩, fun k => ⟨e 13 k, e 23 k⟩, fun k _ => e 17 k⟩
    · rw [if_neg (show ¬ (41 : Int32) ≤ nI i - 40 by rw [fa_le, ti, t41]; omega)]
      -- one step at the mark μ
      have step : ∃ r', X11_bestMark_j97 (nI j) v (nI m) (fld (fun μ => RV (RJ r j) (r.1 0 14) (nI μ - path) S (phA v)) b0 (m - 40) (cnI m i)).1 (fld (fun μ => RV (RJ r j) (r.1 0 14) (nI μ - path) S (phA v)) b0 (m - 40) (cnI m i)).2 (nI i - 40) (X11_bestMark_l51 (nI j) v (nI m) n) (nI (mkI m i)) (nI j) g = some ((fld (fun μ => RV (RJ r j) (r.1 0 14) (nI μ - path) S (phA v)) b0 (m - 40) (cnI m 81)).1, r') ∧ PR T r r' := by
        have hmk : mkI m i ≤ 2400 := by unfold mkI; split <;> omega
        unfold X11_bestMark_j97
        rw [ck_nI _ hj (by decide), nI_clamp (by omega), vl_e]
        obtain ⟨g1, eg1⟩ : ∃ q, q = sI g 9 j (nI (mkI m i)) := ⟨_, rfl⟩
        rw [← eg1]
        have q1 : ∀ o k, ¬ (o = 9 ∧ k = j) → g1.1 o k = r.1 o k := fun o k y => by rw [eg1, sI_at, if_neg y, hg o k y]
        have q9 : g1.1 9 j = nI (mkI m i) := by rw [eg1, sI_at, if_pos ⟨rfl, rfl⟩]
        have eJ : ∀ k, 1 ≤ k → k ≤ 8 → (fun q => if q = 8 then nI (mkI m i) else RJ r j q) k = RJ g1 j k := by
          intro k k1 k2
          show (if k = 8 then nI (mkI m i) else r.1 (k + 1) j) = g1.1 (k + 1) j
          by_cases y : k = 8
          · rw [if_pos y, y]; exact q9.symm
          · rw [if_neg y]; exact (q1 _ _ (by omega)).symm
        have hJv : NJ (RJ g1 j) := NJ_J eJ (nj_mark (hJ j hj) (nI_pos (by omega)) (show ¬ (2400 : Int32) < nI (mkI m i) from nI_nlt (a := 2400) (by omega) (by decide)))
        have q12 : g1.1 0 12 = nI S := by rw [q1 0 12 (by omega)]; exact rS
        have q14 : g1.1 0 14 = r.1 0 14 := q1 0 14 (by omega)
        have ep : g1.1 9 j - pathS (g1.1 2 j) (g1.1 4 j) (g1.1 5 j) (g1.1 0 14) S = nI (mkI m i) - path := by
          rw [q9, q1 2 j (by omega), q1 4 j (by omega), q1 5 j (by omega), q14, epa]
        have epl : (nI (mkI m i) - path).toInt = ((mkI m i : Nat) : Int) - path.toInt := by
          have e1 : (nI (mkI m i)).toInt = ((mkI m i : Nat) : Int) := nI_toInt (by omega)
          rw [fb_subI (by omega) (by omega), e1]
        have ec := u_count (h := g1) hj hJv q12 (by rw [q14]; exact hWW) hS.1 hS.2 (pl := nI (mkI m i) - path) (by omega) (by omega)
        have eRV : ∀ φ, RV (RJ g1 j) (g1.1 0 14) (nI (mkI m i) - path) S φ = RV (RJ r j) (r.1 0 14) (nI (mkI m i) - path) S φ := by
          intro φ
          rw [q14]
          unfold RV
          have w1 : RJ g1 j 1 = RJ r j 1 := q1 2 j (by omega)
          have w2 : RJ g1 j 2 = RJ r j 2 := q1 3 j (by omega)
          have w5 : RJ g1 j 5 = RJ r j 5 := q1 6 j (by omega)
          have w6 : RJ g1 j 6 = RJ r j 6 := q1 7 j (by omega)
          have w7 : RJ g1 j 7 = RJ r j 7 := q1 8 j (by omega)
          rw [w1, w2, w5, w6, w7]
        -- the counting, whichever is asked
        have cnt : ∃ g2, (∀ (s0 : Int32), (s0 = if v < 0 then 2 else 3) → X11_counted (nI j) (nI (mkI m i) - path) s0 v g1 = some (RV (RJ r j) (r.1 0 14) (nI (mkI m i) - path) S (phA v), g2)) ∧ WO g1 g2 := by
          rcases hv with hv | ⟨x, hx, rfl⟩
          · obtain ⟨g2, t1, t2⟩ := ec.2.2.1 v
            refine ⟨g2, fun s0 h0 => ?_, t2⟩
            have e2 : phA v = p2 := if_pos hv
            rw [h0, if_pos hv, t1, eRV, e2]
          · obtain ⟨g2, t1, t2⟩ := ec.2.2.2 x hx
            refine ⟨g2, fun s0 h0 => ?_, t2⟩
            have e2 : phA (nI x) = p3 x := by
              unfold phA
              rw [if_neg (nI_pos (by omega)), nI_clamp (by omega)]
            rw [h0, if_neg (nI_pos (by omega)), t1, eRV, e2]
        obtain ⟨g2, t1, t2⟩ := cnt
        rw [s_placeR hj (by omega : S < 4000) q12, bd_s, ep]
        have hq2 : ∀ o k, ¬ (o = 9 ∧ k = j) → g2.1 o k = r.1 o k := fun o k y => by rw [t2.1]; exact q1 o k y
        have q29 : g2.1 9 j = nI (mkI m i) := by rw [t2.1]; exact q9
        -- how the fold goes on
        have hcn : cnI m (i + 1) = mkI m i - (m - 40) + 1 := rfl
        have hlo : m - 40 ≤ mkI m i := by unfold mkI; split <;> omega
        have hcase := cn_case m i
        have ef : fld (fun μ => RV (RJ r j) (r.1 0 14) (nI μ - path) S (phA v)) b0 (m - 40) (cnI m (i + 1)) = if (fld (fun μ => RV (RJ r j) (r.1 0 14) (nI μ - path) S (phA v)) b0 (m - 40) (cnI m i)).2 < RV (RJ r j) (r.1 0 14) (nI (mkI m i) - path) S (phA v) then (nI (mkI m i), RV (RJ r j) (r.1 0 14) (nI (mkI m i) - path) S (phA v)) else fld (fun μ => RV (RJ r j) (r.1 0 14) (nI μ - path) S (phA v)) b0 (m - 40) (cnI m i) := by
          have e1 : fld (fun μ => RV (RJ r j) (r.1 0 14) (nI μ - path) S (phA v)) b0 (m - 40) (mkI m i - (m - 40) + 1) = stp (fun μ => RV (RJ r j) (r.1 0 14) (nI μ - path) S (phA v)) (fld (fun μ => RV (RJ r j) (r.1 0 14) (nI μ - path) S (phA v)) b0 (m - 40) (mkI m i - (m - 40))) (mkI m i) := by
            show stp _ (fld _ b0 (m - 40) (mkI m i - (m - 40))) ((m - 40) + (mkI m i - (m - 40))) = _
            rw [show (m - 40) + (mkI m i - (m - 40)) = mkI m i from by omega]
          rw [hcn]
          rcases hcase with w0 | w0
          · rw [w0, e1]
            rfl
          · rw [w0, if_neg]
            rw [e1]
            exact stp_ge _ _ _
        obtain ⟨r', f1, f2⟩ := ih (i + 1) g2 (by omega) (by omega) hq2
        refine ⟨r', ?_, f2⟩
        have e40 : nI i - 40 + 1 = nI (i + 1) - 40 := sg_next i 40
        have tail : ∀ s0 : Int32, (s0 = if v < 0 then 2 else 3) → X11_bestMark_j114 (nI j) v (nI m) (fld (fun μ => RV (RJ r j) (r.1 0 14) (nI μ - path) S (phA v)) b0 (m - 40) (cnI m i)).1 (fld (fun μ => RV (RJ r j) (r.1 0 14) (nI μ - path) S (phA v)) b0 (m - 40) (cnI m i)).2 (nI i - 40) (X11_bestMark_l51 (nI j) v (nI m) n) s0 (nI (mkI m i) - path) (nI j) g1 = some ((fld (fun μ => RV (RJ r j) (r.1 0 14) (nI μ - path) S (phA v)) b0 (m - 40) (cnI m 81)).1, r') := by
          intro s0 h0
          unfold X11_bestMark_j114 X11_bestMark_j143
          have lc := lc_gt (RV (RJ r j) (r.1 0 14) (nI (mkI m i) - path) S (phA v)) (fld (fun μ => RV (RJ r j) (r.1 0 14) (nI μ - path) S (phA v)) b0 (m - 40) (cnI m i)).2
          rw [t1 s0 h0, bd_s, ck_nI _ hj (by decide), nI_clamp (by omega), q29, vl_e, vl_e, vl_e, e40]
          rw [ef] at f1
          by_cases y : (fld (fun μ => RV (RJ r j) (r.1 0 14) (nI μ - path) S (phA v)) b0 (m - 40) (cnI m i)).2 < RV (RJ r j) (r.1 0 14) (nI (mkI m i) - path) S (phA v)
          · rw [if_pos (lc.2.mpr y)]
            rw [if_pos y] at f1
            exact f1
          · rw [if_neg (fun q => y (lc.2.mp q))]
            rw [if_neg y] at f1
            exact f1
        by_cases y : 0 ≤ v
        · rw [if_pos y]
          exact tail 3 (by rw [if_neg (Int32.not_lt.mpr y)])
        · rw [if_neg y]
          exact tail 2 (by rw [if_pos (Int32.not_le.mp y)])
      have es : (nI m + (nI i - 40)).toInt = (m : Int) + i - 40 := by
        have e1 : (nI m).toInt = (m : Int) := nI_toInt (by omega)
        rw [fb_addI (by omega) (by omega), e1, ti]
        omega
      have t0 : (0 : Int32).toInt = 0 := rfl
      have t24 : (2400 : Int32).toInt = 2400 := rfl
      by_cases y : m + i < 40
      · have emk : mkI m i = 0 := if_pos y
        rw [emk] at step
        rw [if_neg (show ¬ (0 : Int32) ≤ nI m + (nI i - 40) by rw [fa_le, es, t0]; omega)]
        exact step
      · rw [if_pos (show (0 : Int32) ≤ nI m + (nI i - 40) by rw [fa_le, es, t0]; omega)]
        by_cases x : m + i - 40 ≤ 2400
        · have emk : mkI m i = m + i - 40 := by
            unfold mkI
            rw [if_neg y, Nat.min_eq_right x]
          have ev : nI m + (nI i - 40) = nI (m + i - 40) := by
            rw [fa_eq, es, nI_toInt (by omega)]
            omega
          rw [emk] at step
          rw [if_pos (show nI m + (nI i - 40) ≤ 2400 by rw [fa_le, es, t24]; omega), ev]
          exact step
        · have emk : mkI m i = 2400 := by
            unfold mkI
            rw [if_neg y, Nat.min_eq_left (by omega)]
          rw [emk] at step
          rw [if_neg (show ¬ nI m + (nI i - 40) ≤ 2400 by rw [fa_le, es, t24]; omega)]
          exact step
theorem o_bestMark {c r : AH} {a1 a2 : Int32} (I : Inv c r) : SimE (X10_bestMark a1 a2 c) (X11_bestMark a1 a2 r) Inv := by
  obtain ⟨⟨S, G, N, T, M⟩, hW, hL, hRow, hRF, hIM⟩ := id I
  obtain ⟨R, ⟨cS, cW, cG, cN, cT⟩, cJ, cTr⟩ := id M
  obtain ⟨rS, rG, rN, rT, hS, hG, hN, hT, hWW, hJ, hH⟩ := id R
  rcases jm a1 hN with hz | ⟨j, hj, rfl⟩
  · have e1 : X10_bestMark a1 a2 c = some (-1, sI c 4 1 (c.1 4 1 + 1)) := by
      simp only [X10_bestMark, nb_n cN hz, s_outside, s_noSuch, s_noPart, s_outsideTwo, s_first, bd_s, vl_e, i_0, i_10, i_1, i_2, i_3, i_4, i_6, if_true, if_false, rf_1]
    have e2 : X11_bestMark a1 a2 r = some (-1, sI r 1 1 (r.1 1 1 + 1)) := by
      simp only [X11_bestMark, ij_n rN hz, s_bound, s_isIn, X11_bestMark_j20, bd_s, vl_e, i_0, i_10, i_1, i_2, i_3, i_4, i_6, if_true, if_false, no_1]
    exact ⟨_, _, _, e1, e2, inv_ref I (by decide)⟩
  · have hj4 : j < 4 := by omega
    have hjc : (nI j).toNatClampNeg = j := nI_clamp (by omega)
    have hJC : ∀ k, 1 ≤ k → k ≤ 8 → c.1 (48 + j) k = r.1 (k + 1) j := (cJ j hj4).1
    have hJK : JK c (48 + j) := (cJ j hj4).2
    by_cases h0 : a2 < -1
    · have e1 : X10_bestMark (nI j) a2 c = some (-4, sI c 4 4 (c.1 4 4 + 1)) := by
        simp only [X10_bestMark, nb_y cN hN hj, s_at42 hj4, cs_in _ (zc42 hj4), s_outside, s_noSuch, s_noPart, s_outsideTwo, s_first, if_pos h0, bd_s, vl_e, i_0, i_10, i_1, i_2, i_3, i_4, i_6, if_true, if_false, rf_4]
      have e2 : X11_bestMark (nI j) a2 r = some (-4, sI r 1 4 (r.1 1 4 + 1)) := by
        simp only [X11_bestMark, ij_y rN hN hj, hj_ck hj4, hjc, s_bound, s_isIn, if_pos h0, X11_bestMark_j20, bd_s, vl_e, i_0, i_10, i_1, i_2, i_3, i_4, i_6, if_true, if_false, no_4]
      exact ⟨_, _, _, e1, e2, inv_ref I (by decide)⟩
    · by_cases h1 : 999 < a2
      · have e1 : X10_bestMark (nI j) a2 c = some (-6, sI c 4 6 (c.1 4 6 + 1)) := by
          simp only [X10_bestMark, nb_y cN hN hj, s_at42 hj4, cs_in _ (zc42 hj4), s_outside, s_noSuch, s_noPart, s_outsideTwo, s_first, if_neg h0, if_pos h1, bd_s, vl_e, i_0, i_10, i_1, i_2, i_3, i_4, i_6, if_true, if_false, rf_6]
        have e2 : X11_bestMark (nI j) a2 r = some (-6, sI r 1 6 (r.1 1 6 + 1)) := by
          simp only [X11_bestMark, ij_y rN hN hj, hj_ck hj4, hjc, s_bound, s_isIn, if_neg h0, if_pos h1, X11_bestMark_j20, bd_s, vl_e, i_0, i_10, i_1, i_2, i_3, i_4, i_6, if_true, if_false, no_6]
        exact ⟨_, _, _, e1, e2, inv_ref I (by decide)⟩
      · obtain ⟨κ, f, a, g, s, p, l, m, hκ, hf, ha, hg, hs, hpp, hl, hm, e1, e2, e3, e4, e5, e6, e7, e8⟩ := hJ j hj4
        have em : r.1 9 j = nI m := e8
        have hpa := path_b (kd := r.1 2 j) (st := r.1 4 j) (gr := r.1 5 j) ha hg e3 e4 hWW S hS.2
        have hv : a2 < 0 ∨ ∃ x, x < 1000 ∧ a2 = nI x := by
          by_cases y : a2 < 0
          · exact Or.inl y
          · obtain ⟨x, hx, ex⟩ := nI_of2 (M := 999) (n := 999) rfl y (Int32.not_lt.mp h1)
            exact Or.inr ⟨x, by omega, ex⟩
        have c8 : c.1 (48 + j) 8 = nI m := by rw [hJC 8 (by omega) (by omega)]; exact em
        have elo : mx32 0 (nI m - 40) = nI (m - 40) := by
          have e1 : (nI m - 40).toInt = (m : Int) - 40 := pk_sub_toInt (a := m) (b := 40) (by omega) (by decide)
          have t0 : (0 : Int32).toInt = 0 := rfl
          unfold mx32
          by_cases y : 40 < m
          · rw [if_pos (by rw [fa_lt, e1, t0]; omega)]
            exact pk_sub (a := m) (b := 40) (by omega)
          · rw [if_neg (by rw [fa_lt, e1, t0]; omega), show m - 40 = 0 from by omega]
            rfl
        obtain ⟨c', q1, q2⟩ := bm_class (path := pathS (r.1 2 j) (r.1 4 j) (r.1 5 j) (r.1 0 14) S) M hW hj4 hv hm em (by omega) (by omega) (nI m) FU 0 c (by unfold FU; omega) (by omega) PC.rf
        obtain ⟨r', t1, t2⟩ := bm_ref (path := pathS (r.1 2 j) (r.1 4 j) (r.1 5 j) (r.1 0 14) S) M hj4 hv hm em rfl (by omega) (by omega) 0 FU 0 r (by unfold FU; omega) (by omega) (fun _ _ _ => rfl)
        have q1 : X10_bestMark_l84 a2 (48 + j) (pathS (r.1 2 j) (r.1 4 j) (r.1 5 j) (r.1 0 14) S) FU (nI m) (-1) (nI (m - 40)) c = _ := q1
        have t1 : X11_bestMark_l51 (nI j) a2 (nI m) FU 0 (-1) (-40) r = _ := t1
        have epc : pathS (c.1 (48 + j) 1) (c.1 (48 + j) 3) (c.1 (48 + j) 4) (c.1 42 1) S = pathS (r.1 2 j) (r.1 4 j) (r.1 5 j) (r.1 0 14) S := by
          rw [hJC 1 (by omega) (by omega), hJC 3 (by omega) (by omega), hJC 4 (by omega) (by omega), cW]
        have d1 : X10_bestMark (nI j) a2 c = X10_bestMark_l84 a2 (48 + j) (pathS (r.1 2 j) (r.1 4 j) (r.1 5 j) (r.1 0 14) S) FU (nI m) (-1) (nI (m - 40)) c := by
          simp only [X10_bestMark, nb_y cN hN hj, s_at42 hj4, cs_in _ (zc42 hj4), s_outside, s_noSuch, s_noPart, s_outsideTwo, s_first, if_neg h0, if_neg h1, bd_s, vl_e, i_0, i_10, i_1, i_2, i_3, i_4, i_6, if_true, if_false, cS, s_path hJK (by omega : S < 4000), epc, c8, elo]
        have d2 : X11_bestMark (nI j) a2 r = X11_bestMark_l51 (nI j) a2 (nI m) FU 0 (-1) (-40) r := by
          simp only [X11_bestMark, ij_y rN hN hj, hj_ck hj4, hjc, s_bound, s_isIn, X11_bestMark_j20, if_neg h0, if_neg h1, bd_s, vl_e, i_0, i_10, i_1, i_2, i_3, i_4, i_6, if_true, if_false, em]
        have hlast : cnI m 81 = min 2400 (m + 40) + 1 - (m - 40) := by
          show mkI m 80 - (m - 40) + 1 = _
          unfold mkI
          rw [if_neg (by omega)]
          omega
        refine SimE.mk' (d1.trans q1) (d2.trans t1) ?_ (Inv_f I q2 (fun T' h1 h2 => by
          have e : T' = T := by rw [rT] at h1; exact ((nI_eq (by omega) (by omega)).mp h1).symm
          rw [e]; exact t2))
        rw [hlast, show min 2400 (m + 40) + 1 - (m - 40) = (min 2400 (m + 40) - (m - 40)) + 1 from by omega]
        rw [fld_b (b1 := 0)]
        -- the first one is above -1
        have hlo : (nI (m - 40) - pathS (r.1 2 j) (r.1 4 j) (r.1 5 j) (r.1 0 14) S).toInt = ((m - 40 : Nat) : Int) - (pathS (r.1 2 j) (r.1 4 j) (r.1 5 j) (r.1 0 14) S).toInt := by
          have e1 : (nI (m - 40)).toInt = ((m - 40 : Nat) : Int) := nI_toInt (by omega)
          rw [fb_subI (by omega) (by omega), e1]
        have pos : ∃ V, RV (RJ r j) (r.1 0 14) (nI (m - 40) - pathS (r.1 2 j) (r.1 4 j) (r.1 5 j) (r.1 0 14) S) S (phA a2) = lN V ∧ V < 2 ^ 62 := by
          have hpw := pw_b hS.2
          rcases hv with y | ⟨x, hx, rfl⟩
          · obtain ⟨V, v1, v2⟩ := rv_2 (hJ j hj4) hWW hS.1 hS.2 (pl := nI (m - 40) - pathS (r.1 2 j) (r.1 4 j) (r.1 5 j) (r.1 0 14) S) (by omega) (by omega)
            have e2 : phA a2 = p2 := if_pos y
            exact ⟨V, by rw [e2]; exact v1, by omega⟩
          · obtain ⟨V, v1, v2⟩ := rv_3 (hJ j hj4) hWW hS.1 hS.2 (pl := nI (m - 40) - pathS (r.1 2 j) (r.1 4 j) (r.1 5 j) (r.1 0 14) S) (by omega) (by omega) x
            have e2 : phA (nI x) = p3 x := by
              unfold phA
              rw [if_neg (nI_pos (by omega)), nI_clamp (by omega)]
            exact ⟨V, by rw [e2]; exact v1, by omega⟩
        obtain ⟨V, v1, v2⟩ := pos
        show (-1 : Int64) < RV (RJ r j) (r.1 0 14) (nI (m - 40) - pathS (r.1 2 j) (r.1 4 j) (r.1 5 j) (r.1 0 14) S) S (phA a2)
        rw [v1, Int64.lt_iff_toInt_lt, pk_lT (by omega)]
        have tm : (-1 : Int64).toInt = -1 := rfl
        rw [tm]
        omega
end
section
/-! CALLS THAT CHANGE ONE THING -/
theorem sI_n {h : AH} {o k : Nat} {v : Int32} {q j : Nat} (z : ¬ (q = o ∧ j = k)) : (sI h o k v).1 q j = h.1 q j := by rw [sI_at, if_neg z]
theorem sI_y {h : AH} {o k : Nat} {v : Int32} : (sI h o k v).1 o k = v := by rw [sI_at, if_pos ⟨rfl, rfl⟩]
/-- refusals on both sides -/
theorem rfs {c r : AH} {x : Int32} (I : Inv c r) (hx : x = -1 ∨ x = -2 ∨ x = -3 ∨ x = -4 ∨ x = -6) : SimE (bd (X10_refuse x c) fun a h => some (a, h)) (bd (X11_no x r) fun a h => some (a, h)) Inv := by
  obtain ⟨w, hw, e⟩ := s_ref hx
  rw [(e c).1, (e r).2.1, bd_s, bd_s]
  exact ⟨_, _, _, rfl, rfl, inv_ref I hw⟩
theorem rfsL {c r : AH} {x : Int32} (I : Inv c r) (hx : x = -1 ∨ x = -2 ∨ x = -3 ∨ x = -4 ∨ x = -6) : SimE (bd (X10_refuse x c) fun a h => some (1000000000 - a, h)) (bd (X11_lower x r) fun a h => some (a, h)) Inv := by
  obtain ⟨w, hw, e⟩ := s_ref hx
  rw [(e c).1, (e r).2.2.1, bd_s, bd_s]
  exact ⟨_, _, _, rfl, rfl, inv_ref I hw⟩
/-- what is kept anyway -/
def PCi (c c' : AH) : Prop := c'.1 0 4 = c.1 0 4 ∧ (∀ k, c'.1 4 k = c.1 4 k) ∧ (∀ o k, 62 ≤ o → o < 72 → c'.1 o k = c.1 o k) ∧ (∀ o, 62 ≤ o → o < 72 → c'.2.2 o = c.2.2 o) ∧ ∀ o, 10 ≤ o → o ≤ 30 → c'.2.1 o = c.2.1 o
def PRi (r r' : AH) : Prop := r'.1 0 25 = r.1 0 25 ∧ (∀ k, r'.1 1 k = r.1 1 k) ∧ ∀ k, k < 120 → r'.1 17 k = r.1 17 k
theorem inv_g {c r c' r' : AH} (I : Inv c r) (m : ∃ S G N T, MR 42 c' r' S G N T) (l : LT c' r') (w : RW c' r') (p : PCi c c') (q : PRi r r') : Inv c' r' := by
  obtain ⟨-, h2, -, -, h5, h6⟩ := I
  refine ⟨m, fun m j hm => ?_, l, w, fun k hk => ?_, ?_⟩
  · rw [p.2.2.2.2 _ (by omega) (by omega)]
    exact h2 m j hm
  · rw [p.2.1 k, q.2.1 k]; exact h5 k hk
  · rcases h6 with ⟨a, b⟩ | ⟨a, b, S', G', N', T', M'⟩
    · exact Or.inl ⟨by rw [p.1]; exact a, by rw [q.1]; exact b⟩
    · exact Or.inr ⟨by rw [p.1]; exact a, by rw [q.1]; exact b, S', G', N', T', MR_r (RA.rst (by have := M'.1.2.2.2.2.2.2.2.1; have := M'.1.2.2.2.2.2.2.1; omega) q.2.2) (MR_cc M' (fun k hk => p.2.2.1 62 k (by omega) (by omega)) (fun i k hi _ _ => p.2.2.1 _ k (by omega) (by omega)) (fun i hi => p.2.2.2.1 _ (by omega) (by omega)) (fun t _ => ⟨p.2.2.1 _ t (by omega) (by omega), p.2.2.1 _ t (by omega) (by omega)⟩))⟩
theorem MR_k {S G N T : Nat} {c c' r r' : AH} (M : MR 42 c r S G N T) (p : ∀ o k, 42 ≤ o → o < 52 → c'.1 o k = c.1 o k) (p2 : ∀ o, 42 ≤ o → o < 52 → c'.2.2 o = c.2.2 o) (q : RA T r r') : MR 42 c' r' S G N T :=
  MR_r q (MR_cc M (fun k _ => p 42 k (by omega) (by omega)) (fun i k _ _ _ => p _ k (by omega) (by omega)) (fun i _ => p2 _ (by omega) (by omega)) (fun t _ => ⟨p _ t (by omega) (by omega), p _ t (by omega) (by omega)⟩))
/-- the meet's own numbers are new -/
theorem MR_0 {o S G N T S' G' T' : Nat} {c c' r r' : AH} (M : MR o c r S G N T) (hT : T' ≤ T) (hG : G' = G ∨ T' = 0) (b1 : 4 ≤ S' ∧ S' ≤ 20) (b2 : 1 ≤ G' ∧ G' ≤ 4) (b3 : WW (r'.1 0 14))
    (c0 : c'.1 o 0 = nI S') (c1 : c'.1 o 1 = r'.1 0 14) (c2 : c'.1 o 2 = nI G') (c3 : c'.1 o 3 = c.1 o 3) (c4 : c'.1 o 4 = nI T') (c5 : ∀ p k, p ≠ o → c'.1 p k = c.1 p k) (c6 : c'.2 = c.2)
    (d0 : r'.1 0 12 = nI S') (d1 : r'.1 0 13 = nI G') (d2 : r'.1 0 15 = r.1 0 15) (d3 : r'.1 0 16 = nI T') (d4 : ∀ p k, p ≠ 0 → r'.1 p k = r.1 p k) : MR o c' r' S' G' N T' := by
  obtain ⟨⟨r1, r2, r3, r4, hS, hG1, hN, hT', hW, hJ, hH⟩, h2, h3, h4⟩ := M
  have eB : ∀ n, BR r' n = BR r n := fun n => bst_c n (fun t _ => ⟨by unfold wR; rw [d4 10 t (by decide)], by unfold fR; rw [d4 11 t (by decide)]⟩)
  refine ⟨⟨d0, d1, by rw [d2]; exact r3, d3, b1, b2, hN, ?_, b3, fun i hi => ?_, fun t ht => ?_⟩, ⟨c0, c1, c2, by rw [c3]; exact h2.2.2.2.1, c4⟩, fun i hi => ⟨fun k k1 k2 => ?_, ?_⟩, fun t ht => ?_⟩
  · rcases hG with rfl | rfl
    · omega
    · omega
  · exact NJ_J (fun k k1 k2 => (d4 (k + 1) i (by omega)).symm) (hJ i hi)
  · obtain ⟨⟨w1, w2⟩, w3⟩ := hH t (by omega)
    refine ⟨⟨by rw [d4 10 t (by decide)]; exact w1, by rw [d4 11 t (by decide)]; exact w2⟩, ?_⟩
    have e : wR r' t = wR r t := by unfold wR; rw [d4 10 t (by decide)]
    rw [e]
    have hG : G' = G := hG.resolve_right (by omega)
    rw [hG]
    refine ⟨w3.1, ?_⟩
    rw [eB]
    exact w3.2
  · rw [c5 _ k (by omega)]
    exact ((h3 i hi).1 k k1 k2).trans (d4 (k + 1) i (by omega)).symm
  · obtain ⟨κ, x, y, z⟩ := (h3 i hi).2
    exact ⟨κ, x, by rw [c6]; exact y, by rw [c5 _ 1 (by omega)]; exact z⟩
  · rw [c5 _ t (by omega), c5 _ t (by omega), d4 10 t (by decide), d4 11 t (by decide)]
    exact h4 t (by omega)
theorem o_wind {c r : AH} {a1 : Int32} (I : Inv c r) : SimE (X10_wind a1 c) (X11_wind a1 r) Inv := by
  obtain ⟨⟨S, G, N, T, M⟩, hW, hL, hRow, hRF, hIM⟩ := id I
  obtain ⟨R, ⟨cS, cW, cG, cN, cT⟩, cJ, cTr⟩ := id M
  obtain ⟨rS, rG, rN, rT, hS, hG, hN, hT, hWW, hJ, hH⟩ := id R
  unfold X10_wind X11_wind
  rw [s_outside, s_bound, bd_s, bd_s]
  by_cases h0 : a1 < -9
  · rw [if_pos h0, i_4, i_4]
    exact rfsL I (by decide)
  · rw [if_neg h0]
    by_cases h1 : 9 < a1
    · rw [if_pos h1, i_6, i_6]
      exact rfsL I (by decide)
    · rw [if_neg h1, i_0, i_0, vl_e, vl_e, vl_e, vl_e]
      refine SimE.mk' rfl rfl cW (inv_M (S := S) (G := G) (N := N) (T := T) I (MR_0 M (Nat.le_refl T) (Or.inl rfl) hS hG ?_ ?_ ?_ ?_ ?_ ?_ (fun p k hp => ?_) rfl ?_ ?_ ?_ ?_ (fun p k hp => ?_)) (PCx.fld c a1 (by omega)) (PRx.fld r a1 (Or.inr (by omega))))
      · rw [sI_y]
        rw [fa_lt] at h0 h1
        have : (-9 : Int32).toInt = -9 := rfl
        have : (9 : Int32).toInt = 9 := rfl
        exact ww_of (by omega) (by omega)
      · rw [sI_n (by omega)]; exact cS
      · rw [sI_y, sI_y]
      · rw [sI_n (by omega)]; exact cG
      · rw [sI_n (by omega)]
      · rw [sI_n (by omega)]; exact cT
      · rw [sI_n (by omega)]
      · rw [sI_n (by omega)]; exact rS
      · rw [sI_n (by omega)]; exact rG
      · rw [sI_n (by omega)]
      · rw [sI_n (by omega)]; exact rT
      · rw [sI_n (by omega)]
theorem o_undo {c r : AH} (I : Inv c r) : SimE (X10_undo c) (X11_undo r) Inv := by
  obtain ⟨⟨S, G, N, T, M⟩, hW, hL, hRow, hRF, hIM⟩ := id I
  obtain ⟨R, ⟨cS, cW, cG, cN, cT⟩, cJ, cTr⟩ := id M
  obtain ⟨rS, rG, rN, rT, hS, hG, hN, hT, hWW, hJ, hH⟩ := id R
  unfold X10_undo X11_undo
  rw [cT, rT]
  by_cases z : T = 0
  · subst z
    rw [if_neg (by decide), if_pos (by rfl)]
    exact rfs I (by decide)
  · have e1 : nI T - 1 = nI (T - 1) := pk_sub (a := T) (b := 1) (by omega)
    rw [if_pos (show (0 : Int32) < nI T from nI_lt (a := 0) (by omega) (by omega)), if_neg (nI_ne0 (by omega) (by omega)), vl_e, vl_e, sI_y, sI_y, e1, ck_nI _ (by omega) (by decide), ck_nI _ (by omega) (by decide), nI_clamp (by omega), sI_n (by omega), sI_n (by omega)]
    refine SimE.mk' rfl rfl (cTr (T - 1) (by omega)).1 (inv_M (S := S) (G := G) (N := N) (T := T - 1) I (MR_0 M (by omega) (Or.inl rfl) hS hG ?_ ?_ ?_ ?_ ?_ ?_ (fun p k hp => ?_) rfl ?_ ?_ ?_ ?_ (fun p k hp => ?_)) (PCx.fld c _ (by omega)) (PRx.fld r _ (Or.inr (by omega))))
    · rw [sI_n (by omega)]; exact hWW
    · rw [sI_n (by omega)]; exact cS
    · rw [sI_n (by omega), sI_n (by omega)]; exact cW
    · rw [sI_n (by omega)]; exact cG
    · rw [sI_n (by omega)]
    · rw [sI_y]
    · rw [sI_n (by omega)]
    · rw [sI_n (by omega)]; exact rS
    · rw [sI_n (by omega)]; exact rG
    · rw [sI_n (by omega)]
    · rw [sI_y]
    · rw [sI_n (by omega)]
theorem o_feed {c r : AH} {a1 : Int32} (I : Inv c r) : SimE (X10_feed a1 c) (X11_feed a1 r) Inv := by
  obtain ⟨⟨S, G, N, T, M⟩, hW, ⟨L, l1, l2, l3, l4⟩, ⟨n, n1, n2, n3, n4⟩, hRF, hIM⟩ := id I
  unfold X10_feed X11_feed X11_feed_j25
  rw [s_outside, s_bound, bd_s, bd_s, s_outside, bd_s, s_first, bd_s, l2, l3]
  by_cases h0 : a1 < 0
  · rw [if_pos h0, i_4, i_4, i_4, i_4]
    exact rfs I (by decide)
  · rw [if_neg h0]
    by_cases h1 : 255 < a1
    · rw [if_pos h1, i_6, i_6, i_6, i_6]
      exact rfs I (by decide)
    · rw [if_neg h1, i_0, i_0]
      by_cases z : L = 96
      · subst z
        have e : (if nI 96 < 0 then (-4 : Int32) else if 95 < nI 96 then -6 else 0) = -6 := by decide
        simp only [e, if_pos (show nI 96 = 96 from rfl), vl_e, i_6]
        exact rfs I (by decide)
      · rw [if_neg (nI_pos (by omega)), if_neg (show ¬ (95 : Int32) < nI L from nI_nlt (a := 95) (by omega) (by omega)), if_neg (show ¬ nI L = 96 from fun y => z ((nI_eq (b := 96) (by omega) (by decide)).mp y)), i_0, i_0, ck_nI _ (by omega) (by decide), ck_nI _ (by omega) (by decide), nI_clamp (by omega)]
        simp only [vl_e, sI_y]
        rw [sI_n (h := c) (by omega), sI_n (h := r) (by omega), l2, l3, nI_1]
        refine SimE.mk' rfl rfl rfl (inv_g I ⟨S, G, N, T, MR_k M (fun o k h1 h2 => ?_) (fun _ _ _ => rfl) ⟨fun k h1 h2 => ?_, fun o k h1 h2 _ => ?_, fun t _ => ⟨?_, ?_⟩⟩⟩ ⟨L + 1, by omega, sI_y, sI_y, fun k hk => ?_⟩ ⟨n, n1, ?_, ?_, fun k hk => ?_⟩ ⟨?_, fun k => ?_, fun o k h1 h2 => ?_, fun _ _ _ => rfl, fun _ _ _ => rfl⟩ ⟨?_, fun k => ?_, fun k _ => ?_⟩)
        case refine_6 =>
          rw [sI_n (h := sI c 2 L a1) (by omega), sI_n (h := sI r 13 L a1) (by omega), sI_at, sI_at]
          by_cases y : k = L
          · rw [if_pos ⟨rfl, y⟩, if_pos ⟨rfl, y⟩]
          · rw [if_neg (fun q => y q.2), if_neg (fun q => y q.2)]
            exact l4 k (by omega)
        case refine_7 => rw [sI_n (by omega), sI_n (by omega)]; exact n2
        case refine_8 => rw [sI_n (by omega), sI_n (by omega)]; exact n3
        case refine_9 => rw [sI_n (by omega), sI_n (by omega), sI_n (by omega), sI_n (by omega)]; exact n4 k hk
        all_goals rw [sI_n (by omega), sI_n (by omega)]
theorem o_row {c r : AH} {a1 : Int32} (I : Inv c r) : SimE (X10_row a1 c) (X11_row a1 r) Inv := by
  obtain ⟨⟨S, G, N, T, M⟩, hW, ⟨L, l1, l2, l3, l4⟩, ⟨n, n1, n2, n3, n4⟩, hRF, hIM⟩ := id I
  unfold X10_row X11_row X11_row_j24
  rw [s_outside, s_bound, bd_s, bd_s, s_outside, bd_s, s_first, bd_s, n2, n3]
  by_cases h0 : a1 < 0
  · rw [if_pos h0, i_4, i_4, i_4, i_4]
    exact rfs I (by decide)
  · rw [if_neg h0]
    by_cases h1 : 99 < a1
    · rw [if_pos h1, i_6, i_6, i_6, i_6]
      exact rfs I (by decide)
    · rw [if_neg h1, i_0, i_0]
      by_cases z : n = 12
      · subst z
        have e : (if nI 12 < 0 then (-4 : Int32) else if 11 < nI 12 then -6 else 0) = -6 := by decide
        simp only [e, if_pos (show nI 12 = 12 from rfl), vl_e, i_6]
        exact rfs I (by decide)
      · rw [if_neg (nI_pos (by omega)), if_neg (show ¬ (11 : Int32) < nI n from nI_nlt (a := 11) (by omega) (by omega)), if_neg (show ¬ nI n = 12 from fun y => z ((nI_eq (b := 12) (by omega) (by decide)).mp y)), i_0, i_0, ck_nI _ (by omega) (by decide), ck_nI _ (by omega) (by decide), nI_clamp (by omega)]
        simp only [vl_e, sI_y]
        rw [sI_n (h := c) (by omega), sI_n (h := r) (by omega), n2, n3, nI_1]
        refine SimE.mk' rfl rfl rfl (inv_g I ⟨S, G, N, T, MR_k M (fun o k h1 h2 => ?_) (fun _ _ _ => rfl) ⟨fun k h1 h2 => ?_, fun o k h1 h2 _ => ?_, fun t _ => ⟨?_, ?_⟩⟩⟩ ⟨L, l1, ?_, ?_, fun k hk => ?_⟩ ⟨n + 1, by omega, sI_y, sI_y, fun k hk => ?_⟩ ⟨?_, fun k => ?_, fun o k h1 h2 => ?_, fun _ _ _ => rfl, fun _ _ _ => rfl⟩ ⟨?_, fun k => ?_, fun k _ => ?_⟩)
        case refine_6 => rw [sI_n (by omega), sI_n (by omega)]; exact l2
        case refine_7 => rw [sI_n (by omega), sI_n (by omega)]; exact l3
        case refine_8 => rw [sI_n (by omega), sI_n (by omega), sI_n (by omega), sI_n (by omega)]; exact l4 k hk
        case refine_9 =>
          rw [sI_n (h := sI c 3 n a1) (by omega), sI_n (h := sI r 23 n a1) (by omega), sI_at, sI_at]
          by_cases y : k = n
          · rw [if_pos ⟨rfl, y⟩, if_pos ⟨rfl, y⟩]
            obtain ⟨x, hx, e⟩ := nI_of2 (x := a1) (M := 99) (n := 99) rfl h0 (Int32.not_lt.mp h1)
            exact ⟨x, hx, e, e⟩
          · rw [if_neg (fun q => y q.2), if_neg (fun q => y q.2)]
            exact n4 k (by omega)
        all_goals rw [sI_n (by omega), sI_n (by omega)]
theorem o_clear {c r : AH} (I : Inv c r) : SimE (X10_clear c) (X11_clear r) Inv := by
  obtain ⟨⟨S, G, N, T, M⟩, hW, ⟨L, l1, l2, l3, l4⟩, ⟨n, n1, n2, n3, n4⟩, hRF, hIM⟩ := id I
  unfold X10_clear X11_clear
  rw [vl_e, vl_e, vl_e, vl_e]
  refine SimE.mk' rfl rfl (by rw [n2, n3]) (inv_g I ⟨S, G, N, T, MR_k M (fun o k h1 h2 => ?_) (fun _ _ _ => rfl) ⟨fun k h1 h2 => ?_, fun o k h1 h2 _ => ?_, fun t _ => ⟨?_, ?_⟩⟩⟩ ⟨L, l1, ?_, ?_, fun k hk => ?_⟩ ⟨0, by omega, sI_y, sI_y, fun k hk => absurd hk (by omega)⟩ ⟨?_, fun k => ?_, fun o k h1 h2 => ?_, fun _ _ _ => rfl, fun _ _ _ => rfl⟩ ⟨?_, fun k => ?_, fun k _ => ?_⟩)
  case refine_6 => rw [sI_n (by omega)]; exact l2
  case refine_7 => rw [sI_n (by omega)]; exact l3
  case refine_8 => rw [sI_n (by omega), sI_n (by omega)]; exact l4 k hk
  all_goals rw [sI_n (by omega)]
end
section
/-! SET; TURN, JUMP, NONE -/
theorem o_set {c r : AH} {a1 a2 : Int32} (I : Inv c r) : SimE (X10_set a1 a2 c) (X11_set a1 a2 r) Inv := by
  obtain ⟨⟨S, G, N, T, M⟩, hW, hL, hRow, hRF, hIM⟩ := id I
  obtain ⟨R, ⟨cS, cW, cG, cN, cT⟩, cJ, cTr⟩ := id M
  obtain ⟨rS, rG, rN, rT, hS, hG, hN, hT, hWW, hJ, hH⟩ := id R
  unfold X10_set X11_set X10_set_j30 X11_set_j24 X11_set_j34 X11_set_j37
  rw [s_noSuch, s_isIn, bd_s, bd_s]
  have key : ∀ x : Int32, (x = 0 ∨ x = -2 ∨ x = -4 ∨ x = -6) → (x = 0 → (a1 = 0 ∧ ∃ S' : Nat, 4 ≤ S' ∧ S' ≤ 20 ∧ a2 = nI S') ∨ (¬ a1 = 0 ∧ a1 = 1 ∧ ∃ G' : Nat, 1 ≤ G' ∧ G' ≤ 4 ∧ a2 = nI G')) →
      SimE (X10_set_j31 a1 a2 x c) (if x = 0 then (if r.1 0 16 ≤ 0 then X11_set_j52 a1 a2 x r else vl (-3) fun x9 => X11_set_j52 a1 a2 x9 r) else X11_set_j52 a1 a2 x r) Inv := by
    intro x hx hg
    unfold X10_set_j31 X10_set_j48
    rw [cT, rT]
    by_cases z : T = 0
    · subst z
      rw [if_pos (show nI 0 ≤ 0 by decide), if_pos (show nI 0 ≤ 0 by decide), s_first, bd_s]
      by_cases y : x = 0
      · rw [if_pos y, if_pos y, y]
        unfold X11_set_j52 X11_set_j77 X11_set_j92 X11_set_j109 X10_set_j83
        rcases hg y with ⟨e, S', b1, b2, rfl⟩ | ⟨e, e1, G', b1, b2, rfl⟩
        · rw [e]
          simp only [i_0, vl_e, show ((0 : Int32) = 1) = False from eq_false (by decide), if_false]
          refine SimE.mk' rfl rfl (by rw [cS, rS]) (inv_M (S := S') (G := G) (N := N) (T := 0) I (MR_0 M (Nat.le_refl 0) (Or.inl rfl) ⟨b1, b2⟩ hG ?_ ?_ ?_ ?_ ?_ ?_ (fun p k hp => ?_) rfl ?_ ?_ ?_ ?_ (fun p k hp => ?_)) (PCx.fld c _ (by omega)) ((PRx.fld r _ (Or.inr (by omega))).tr (PRx.fld _ _ (Or.inr (by omega)))))
          · rw [sI_n (by omega), sI_n (by omega)]; exact hWW
          · rw [sI_y]
          · rw [sI_n (h := c) (by omega), sI_n (by omega), sI_n (by omega)]; exact cW
          · rw [sI_n (by omega)]; exact cG
          · rw [sI_n (by omega)]
          · rw [sI_n (by omega)]; exact cT
          · rw [sI_n (by omega)]
          · rw [sI_n (by omega), sI_y]
          · rw [sI_y, sI_n (by omega)]; exact rG
          · rw [sI_n (by omega), sI_n (by omega)]
          · rw [sI_n (by omega), sI_n (by omega)]; exact rT
          · rw [sI_n (by omega), sI_n (by omega)]
        · rw [e1]
          simp only [i_10, vl_e, if_true]
          refine SimE.mk' rfl rfl (by rw [cG, rG]) (inv_M (S := S) (G := G') (N := N) (T := 0) I (MR_0 M (Nat.le_refl 0) (Or.inr rfl) hS ⟨b1, b2⟩ ?_ ?_ ?_ ?_ ?_ ?_ (fun p k hp => ?_) rfl ?_ ?_ ?_ ?_ (fun p k hp => ?_)) (PCx.fld c _ (by omega)) ((PRx.fld r _ (Or.inr (by omega))).tr (PRx.fld _ _ (Or.inr (by omega)))))
          · rw [sI_n (by omega), sI_n (by omega)]; exact hWW
          · rw [sI_n (by omega)]; exact cS
          · rw [sI_n (h := c) (by omega), sI_n (by omega), sI_n (by omega)]; exact cW
          · rw [sI_y]
          · rw [sI_n (by omega)]
          · rw [sI_n (by omega)]; exact cT
          · rw [sI_n (by omega)]
          · rw [sI_n (by omega), sI_y]; exact rS
          · rw [sI_y]
          · rw [sI_n (by omega), sI_n (by omega)]
          · rw [sI_n (by omega), sI_n (by omega)]; exact rT
          · rw [sI_n (by omega), sI_n (by omega)]
      · rw [if_neg y, if_neg y, if_neg y]
        unfold X11_set_j52
        rw [if_neg y]
        exact rfs I (by rcases hx with h | h | h | h <;> simp only [h] <;> first | exact absurd h y | decide)
    · rw [if_neg (nI_nle (by omega) (by omega)), if_neg (nI_nle (by omega) (by omega)), s_first, bd_s]
      unfold X11_set_j52
      by_cases y : x = 0
      · simp only [if_pos y, i_3, vl_e]
        exact rfs I (by decide)
      · simp only [if_neg y]
        exact rfs I (by rcases hx with h | h | h | h <;> simp only [h] <;> first | exact absurd h y | decide)
  by_cases h0 : a1 < 0 ∨ 1 < a1
  · rw [if_pos h0, if_pos h0, i_2, i_0]
    exact key (-2) (Or.inr (Or.inl rfl)) (fun z => absurd z (by decide))
  · rw [if_neg h0, if_neg h0, i_0, i_10]
    have t0 : (0 : Int32).toInt = 0 := rfl
    have t1 : (1 : Int32).toInt = 1 := rfl
    have t4 : (4 : Int32).toInt = 4 := rfl
    have t20 : (20 : Int32).toInt = 20 := rfl
    have three : ∀ (P Q : Prop) [Decidable P] [Decidable Q], ((if P then (-4 : Int32) else if Q then -6 else 0) = 0 ∨ (if P then (-4 : Int32) else if Q then -6 else 0) = -2 ∨ (if P then (-4 : Int32) else if Q then -6 else 0) = -4 ∨ (if P then (-4 : Int32) else if Q then -6 else 0) = -6) ∧ ((if P then (-4 : Int32) else if Q then -6 else 0) = 0 → ¬ P ∧ ¬ Q) := by
      intro P Q _ _
      by_cases p : P
      · rw [if_pos p]; exact ⟨by decide, fun z => absurd z (by decide)⟩
      · rw [if_neg p]
        by_cases q : Q
        · rw [if_pos q]; exact ⟨by decide, fun z => absurd z (by decide)⟩
        · rw [if_neg q]; exact ⟨by decide, fun _ => ⟨p, q⟩⟩
    by_cases h1 : a1 = 0
    · simp only [if_pos h1, s_outside, s_bound, bd_s]
      refine key _ (three _ _).1 (fun z => Or.inl ⟨h1, ?_⟩)
      obtain ⟨p, q⟩ := (three _ _).2 z
      obtain ⟨x, hx, e⟩ := nI_of2 (x := a2) (M := 20) (n := 20) rfl (by rw [fa_lt] at p ⊢; omega) (Int32.not_lt.mp q)
      refine ⟨x, ?_, hx, e⟩
      rw [e, fa_lt, toInt_nI (by omega)] at p
      omega
    · simp only [if_neg h1, s_outside, s_bound, bd_s]
      have e1 : a1 = 1 := by
        rw [fa_eq] at h1 ⊢
        rw [fa_lt, fa_lt] at h0
        omega
      refine key _ (three _ _).1 (fun z => Or.inr ⟨h1, e1, ?_⟩)
      obtain ⟨p, q⟩ := (three _ _).2 z
      obtain ⟨x, hx, e⟩ := nI_of2 (x := a2) (M := 4) (n := 4) rfl (by rw [fa_lt] at p ⊢; omega) (Int32.not_lt.mp q)
      refine ⟨x, ?_, hx, e⟩
      rw [e, fa_lt, toInt_nI (by omega)] at p
      omega
theorem o_turn {c r : AH} (I : Inv c r) : SimE (X10_turn c) (X11_turn r) Inv := by
  obtain ⟨⟨S, G, N, T, M⟩, hW, hL, hRow, hRF, hIM⟩ := id I
  obtain ⟨v, c', e1, f1, t1⟩ := m_turnC M (by decide)
  obtain ⟨v', r', e2, f2, t2⟩ := m_turnR M.1
  unfold X10_turn X11_turn
  rw [bd_id, bd_id]
  exact SimE.mk' e1 e2 (TV_u M.1.2.2.2.2.2.2.1 t1 t2) (Inv_f I (PC.FR f1) (fun _ _ _ => PR.FT f2))
/-- whose turn it is, on both sides, and what both keep -/
theorem m_turns {c r : AH} {S G N T : Nat} (I : Inv c r) (M : MR 42 c r S G N T) : ∃ v c' r', X5_inTurn 42 c = some (v, c') ∧ X11_turnNow r = some (v, r') ∧ FR c c' ∧ FT r r' ∧ TV r' N (min G N) T v ∧ MR 42 c' r' S G N T ∧ Inv c' r' ∧ Inv c' r := by
  obtain ⟨v, c', e1, f1, t1⟩ := m_turnC M (by decide)
  obtain ⟨v', r', e2, f2, t2⟩ := m_turnR M.1
  have ev := TV_u M.1.2.2.2.2.2.2.1 t1 t2
  subst ev
  exact ⟨v, c', r', e1, e2, f1, f2, TV_c (RA.FT f2) t1, MR_c (CA.FR (by decide) f1) (MR_r (RA.FT f2) M), Inv_f I (PC.FR f1) (fun _ _ _ => PR.FT f2), Inv_f I (PC.FR f1) (fun _ _ _ => PR.rf)⟩
theorem TV_j {r : AH} {N F T j : Nat} (hN : N ≤ 4) (hj : j < N) (h : TV r N F T (nI j)) : T < 3 * N + 3 * F ∧ TA r N F T j := by
  rcases h with ⟨_, e⟩ | ⟨_, h2, i, e, h4⟩
  · have : (nI j).toInt = (-9 : Int32).toInt := by rw [e]
    rw [toInt_nI (by omega)] at this
    have t9 : (-9 : Int32).toInt = -9 := rfl
    omega
  · have hi := h4.1
    have := (nI_eq (by omega) (by omega)).mp e
    subst this
    exact ⟨h2, h4⟩
/-- a try put down keeps the rest -/
theorem inv_T {c r c' r' : AH} (I : Inv c r) {S G N T : Nat} (M' : MR 42 c' r' S G N T) (a1 : c'.2 = c.2) (a2 : ∀ p q, (p < 42 ∨ 48 ≤ p) → c'.1 p q = c.1 p q) (b : ∀ p q, p ≠ 10 → p ≠ 11 → p ≠ 12 → ¬ (p = 0 ∧ q = 16) → r'.1 p q = r.1 p q) : Inv c' r' :=
  inv_M I M' ⟨fun k _ => a2 0 k (by omega), fun o k h => a2 o k (by omega), fun o _ _ => by rw [a1], fun o _ _ => by rw [a1]⟩ ⟨fun k h => b 0 k (by omega) (by omega) (by omega) (by omega), fun k => b 1 k (by omega) (by omega) (by omega) (by omega), fun k => ⟨b 13 k (by omega) (by omega) (by omega) (by omega), b 23 k (by omega) (by omega) (by omega) (by omega)⟩, fun k _ => b 17 k (by omega) (by omega) (by omega) (by omega)⟩
theorem o_jump {c r : AH} {a1 a2 : Int32} (I : Inv c r) : SimE (X10_jump a1 a2 c) (X11_jump a1 a2 r) Inv := by
  obtain ⟨⟨S, G, N, T, M⟩, hW, hL, hRow, hRF, hIM⟩ := id I
  obtain ⟨v, c1, r1, e1, e2, f1, f2, tv, M1, I1, I2⟩ := m_turns I M
  have hN := M.1.2.2.2.2.2.2.1
  have hT := M.1.2.2.2.2.2.2.2.1
  rcases jm a1 hN with hz | ⟨j, hj, rfl⟩
  · unfold X10_jump X11_jump X11_jump_j33 X10_notInTurn
    rw [nb_n M.2.1.2.2.2.1 hz, bd_s, e1, bd_s, ij_n M.1.2.2.1 hz, bd_s, i_0, i_1]
    have q : ∀ x : Int32, (bd (X10_outside a2 0 300 c1) fun r5 h6 => bd (X10_first x r5 h6) fun r7 h8 => bd (X10_first (-1) r7 h8) fun r9 h10 => if r9 = 0 then (bd (X5_record 42 a1 a2 0 h10) fun r11 h12 => some (r11, h12)) else (bd (X10_refuse r9 h10) fun r13 h14 => some (r13, h14))) = bd (X10_refuse (-1) c1) fun r13 h14 => some (r13, h14) := by
      intro x
      simp only [s_outside, s_first, bd_s, i_1]
    by_cases y : v = a1
    · rw [if_pos y, bd_s, q]
      exact rfs I2 (by decide)
    · rw [if_neg y, bd_s, q]
      exact rfs I2 (by decide)
  · have hj4 : j < 4 := by omega
    unfold X10_jump X11_jump X11_jump_j33 X10_notInTurn
    rw [nb_y M.2.1.2.2.2.1 hN hj, bd_s, e1, bd_s, ij_y M.1.2.2.1 hN hj, bd_s, i_10, e2, bd_s]
    by_cases y : v = nI j
    · subst y
      simp only [if_true, bd_s, s_outside, s_bound, s_first, i_0]
      by_cases h0 : a2 < 0
      · simp only [if_pos h0, i_4]
        exact rfs I1 (by decide)
      · by_cases h1 : 300 < a2
        · simp only [if_neg h0, if_pos h1, i_6]
          exact rfs I1 (by decide)
        · simp only [if_neg h0, if_neg h1, i_0]
          obtain ⟨b, hb, rfl⟩ := nI_of2 (x := a2) (M := 300) (n := 300) rfl h0 (Int32.not_lt.mp h1)
          obtain ⟨tT, tA⟩ := TV_j hN hj tv
          have et : told (RJ r1 j) (r1.1 0 14) (nI b) 0 = lenS (r1.1 2 j) (r1.1 3 j) (r1.1 7 j) (r1.1 0 14) (nI b) 0 := by
            unfold told
            rw [if_pos (nI_pos' (by omega))]
            rfl
          have nn := told_nn (r := r1) (j := j) (b := nI b) (loss := 0) (M1.1.2.2.2.2.2.2.2.2.2.1 j hj4) M1.1.2.2.2.2.2.2.2.2.1 (by rw [toInt_nI (by omega)]; omega) (by rw [toInt_nI (by omega)]; omega) (by decide) (by decide)
          obtain ⟨c2, r2, g1, g2, M2, g3, g4, g5, g6, g7, g8, g9⟩ := m_try (off := nI b) (b := nI b) (loss := 0) M1 (Or.inl rfl) tT tA (Or.inr (Or.inr nn))
          rw [g1, bd_s, s_lenR hj4, bd_s, ← et, g2, bd_s, g8]
          have e3 : nI (T + 1) - 1 = nI T := pk_sub (a := T + 1) (b := 1) (by omega)
          rw [e3, ck_nI _ (by omega) (by decide), nI_clamp (by omega), g7]
          exact SimE.mk' rfl rfl rfl (inv_T I1 M2 g3 (fun p q h => g5 p q (by omega)) g6)
    · simp only [if_neg y, bd_s, s_outside, s_first, i_0, i_3]
      exact rfs (x := -3) I1 (by decide)
theorem o_none {c r : AH} {a1 a2 : Int32} (I : Inv c r) : SimE (X10_none a1 a2 c) (X11_none a1 a2 r) Inv := by
  obtain ⟨⟨S, G, N, T, M⟩, hW, hL, hRow, hRF, hIM⟩ := id I
  obtain ⟨v, c1, r1, e1, e2, f1, f2, tv, M1, I1, I2⟩ := m_turns I M
  have hN := M.1.2.2.2.2.2.2.1
  have hT := M.1.2.2.2.2.2.2.2.1
  have q : ∀ x y : Int32, (x = 0 ∨ x = -3) → (y = -1 ∨ y = -2) → (if (if y = 0 then x else y) = 0 then (if a2 = 0 then X10_none_j48 a1 (-9) a1 c1 else X10_none_j48 a1 (-8) a1 c1) else (bd (X10_refuse (if y = 0 then x else y) c1) fun r15 h16 => some (r15, h16))) = bd (X10_refuse y c1) fun r13 h14 => some (r13, h14) := by
    intro x y _ hy
    rcases hy with rfl | rfl
    · simp only [i_1]
    · simp only [i_2]
  have q2 : ((if v = a1 then some ((0 : Int32), c1) else some (-3, c1)) : Option (Int32 × AH)) = some (if v = a1 then 0 else -3, c1) := by
    by_cases y : v = a1
    · rw [if_pos y, if_pos y]
    · rw [if_neg y, if_neg y]
  rcases jm a1 hN with hz | ⟨j, hj, rfl⟩
  · unfold X10_none X11_none X11_none_j40 X10_notInTurn
    rw [nb_n M.2.1.2.2.2.1 hz, bd_s, s_noSuch, bd_s, e1, bd_s, q2, bd_s, s_first, bd_s, s_first, bd_s, ij_n M.1.2.2.1 hz, bd_s, i_0, i_1]
    simp only [i_1]
    exact rfs (x := -1) I2 (by decide)
  · have hj4 : j < 4 := by omega
    unfold X10_none X11_none X11_none_j40 X10_notInTurn
    rw [nb_y M.2.1.2.2.2.1 hN hj, bd_s, s_noSuch, bd_s, e1, bd_s, q2, bd_s, s_first, bd_s, s_first, bd_s, ij_y M.1.2.2.1 hN hj, bd_s, i_10, s_isIn, bd_s]
    by_cases h0 : a2 < 0 ∨ 1 < a2
    · simp only [if_pos h0, i_0, i_2]
      exact rfs (x := -2) I2 (by decide)
    · simp only [if_neg h0, i_0, i_10]
      rw [e2, bd_s]
      by_cases y : v = nI j
      · subst y
        simp only [if_true, i_0]
        obtain ⟨tT, tA⟩ := TV_j hN hj tv
        have main : ∀ x : Int32, (x = -9 ∨ x = -8) → SimE (X10_none_j48 (nI j) x (nI j) c1) (X11_none_j64 (nI j) x (nI j) r1) Inv := by
          intro x hx
          have et : told (RJ r1 j) (r1.1 0 14) x 0 = x := by
            unfold told
            rw [if_neg (by rcases hx with rfl | rfl <;> decide)]
          obtain ⟨c2, r2, g1, g2, M2, g3, g4, g5, g6, g7, g8, g9⟩ := m_try (off := 0) (b := x) (loss := 0) M1 (Or.inl rfl) tT tA (by rw [et]; rcases hx with h | h; exact Or.inl h; exact Or.inr (Or.inl h))
          rw [et] at g2
          unfold X10_none_j48 X11_none_j64
          rw [g1, bd_s, g2, bd_s, s_triesOfC M2, s_triesOfR M2.1, bd_s, bd_s]
          exact SimE.mk' rfl rfl rfl (inv_T I1 M2 g3 (fun p q h => g5 p q (by omega)) g6)
        by_cases h1 : a2 = 0
        · rw [if_pos h1, if_pos h1]
          exact main _ (Or.inl rfl)
        · rw [if_neg h1, if_neg h1]
          exact main _ (Or.inr rfl)
      · simp only [if_neg y, i_3, i_0]
        exact rfs (x := -3) I1 (by decide)
end
section
/-! COUNTED: better, tried, count, jumper, leads, goOn, ranks -/
section B1
variable {o S G N T : Nat} {c r : AH}
theorem T24 (M : MR o c r S G N T) : T ≤ 24 := by
  have hN := M.1.2.2.2.2.2.2.1
  have hT := M.1.2.2.2.2.2.2.2.1
  omega
theorem l_better (M : MR 42 c r S G N T) (a : Int32) : ∀ (f t : Nat) (x y : Int32), T < t + f → t ≤ T → ∃ v, X10_better_l24 a f x y (nI t) c = some (v, c) ∧ X11_better_l21 a f x y (nI t) r = some (v, r) := by
  have h24 := T24 M
  intro f
  induction f with
  | zero => intro t x y h1 h2; omega
  | succ f ih =>
    intro t x y h1 h2
    rw [X10_better_l24.eq_2, X11_better_l21.eq_2, M.2.1.2.2.2.2, M.1.2.2.2.1]
    by_cases z : t = T
    · subst z
      rw [if_pos (Int32.le_refl _), if_pos (Int32.le_refl _)]
      exact ⟨y, rfl, rfl⟩
    · have e := M.2.2.2 t (by omega)
      have e1 : c.1 44 t = r.1 10 t := e.1
      have e2 : c.1 46 t = r.1 11 t := e.2
      rw [if_neg (nI_ge (by omega) (by omega)), if_neg (nI_ge (by omega) (by omega))]
      simp only [ck_nI _ (show t < 24 by omega) (show 24 < 2 ^ 31 by decide), nI_clamp (show t < 2 ^ 31 by omega), e1, e2]
      unfold X10_better_j78 X11_better_j66
      simp only [vl_e, nI_1]
      by_cases y1 : r.1 10 t = a
      · rw [if_pos y1, if_pos y1]
        by_cases y2 : x < r.1 11 t
        · rw [if_neg (show ¬ r.1 11 t ≤ x from Int32.not_le.mpr y2), if_pos y2]
          exact ih (t + 1) _ _ (by omega) (by omega)
        · rw [if_pos (show r.1 11 t ≤ x from Int32.not_lt.mp y2), if_neg y2]
          exact ih (t + 1) _ _ (by omega) (by omega)
      · rw [if_neg y1, if_neg y1]
        exact ih (t + 1) _ _ (by omega) (by omega)
theorem cN_step (p : Nat → Prop) [DecidablePred p] (t : Nat) : cN (fun k => decide (p k)) (t + 1) = cN (fun k => decide (p k)) t + (if p t then 1 else 0) := by
  show cN _ t + (if decide (p t) = true then 1 else 0) = _
  by_cases y : p t
  · rw [if_pos y, if_pos (decide_eq_true y)]
  · rw [if_neg y, if_neg (by rw [decide_eq_false y]; decide)]
theorem m_one (x : Int32) : x + -1 = x - nI 1 := (Int32.sub_eq_add_neg x 1).symm
theorem cN_le2 (p : Nat → Bool) {a b : Nat} (h : a ≤ b) : cN p a ≤ cN p b := by
  induction b with
  | zero => rw [Nat.le_zero.mp h]; exact Nat.le_refl _
  | succ b ih =>
    rcases Nat.lt_or_ge b a with z | z
    · have : a = b + 1 := by omega
      rw [this]
      exact Nat.le_refl _
    · exact Nat.le_trans (ih z) (Nat.le_add_right _ _)
theorem cN_lt' {p : Nat → Bool} {t n : Nat} (h : t < n) (e : p t = true) : cN p t < cN p n := by
  have h1 : cN p (t + 1) = cN p t + 1 := by show cN p t + (if p t = true then 1 else 0) = _; rw [if_pos e]
  have h2 := cN_le2 p (a := t + 1) (b := n) h
  omega
theorem s_withC (M : MR 42 c r S G N T) (a : Int32) : X5_triesWith 42 a c = some (nI (cN (fun t => decide (r.1 11 t = a)) T), c) := by
  have h24 := T24 M
  have key : ∀ (f t : Nat), T < t + f → t ≤ T → X5_triesWith_l4 42 a f (nI (cN (fun t => decide (r.1 11 t = a)) t)) (nI t) c = some (nI (cN (fun t => decide (r.1 11 t = a)) T), c) := by
    intro f
    induction f with
    | zero => intro t h1 h2; omega
    | succ f ih =>
      intro t h1 h2
      rw [X5_triesWith_l4.eq_2, M.2.1.2.2.2.2]
      by_cases z : t = T
      · subst z
        rw [if_pos (Int32.le_refl _)]
      · have nx := ih (t + 1) (by omega) (by omega)
        rw [cN_step] at nx
        have e2 : c.1 (42 + 4) t = r.1 11 t := (M.2.2.2 t (by omega)).2
        rw [if_neg (nI_ge (by omega) (by omega)), ck_nI _ (by omega) (by decide), nI_clamp (by omega), e2]
        unfold X5_triesWith_j28
        by_cases y : r.1 11 t = a
        · rw [if_pos y] at nx ⊢
          rw [vl_e, vl_e, nI_1, nI_1]
          exact nx
        · rw [if_neg y] at nx ⊢
          rw [vl_e, vl_e, nI_1, Int32.add_zero]
          exact nx
  exact key FU 0 (by unfold FU; omega) (by omega)
theorem s_withR (R : RN r S G N T) (a : Int32) : X11_triesAs a r = some (nI (cN (fun t => decide (r.1 11 t = a)) T), r) := by
  have hN := R.2.2.2.2.2.2.1
  have hT := R.2.2.2.2.2.2.2.1
  have key : ∀ (f t : Nat), T < t + f → t ≤ T → X11_triesAs_l4 a f (nI (cN (fun t => decide (r.1 11 t = a)) t)) (nI t) r = some (nI (cN (fun t => decide (r.1 11 t = a)) T), r) := by
    intro f
    induction f with
    | zero => intro t h1 h2; omega
    | succ f ih =>
      intro t h1 h2
      rw [X11_triesAs_l4.eq_2, R.2.2.2.1]
      by_cases z : t = T
      · subst z
        rw [if_pos (Int32.le_refl _)]
      · have nx := ih (t + 1) (by omega) (by omega)
        rw [cN_step] at nx
        rw [if_neg (nI_ge (by omega) (by omega)), ck_nI _ (by omega) (by decide), nI_clamp (by omega)]
        unfold X11_triesAs_j28
        by_cases y : r.1 11 t = a
        · rw [if_pos y] at nx ⊢
          rw [vl_e, vl_e, nI_1, nI_1]
          exact nx
        · rw [if_neg y] at nx ⊢
          rw [vl_e, vl_e, nI_1, Int32.add_zero]
          exact nx
  exact key FU 0 (by unfold FU; omega) (by omega)
/-- the k-th try of one, found on both sides -/
theorem l_tried (M : MR 42 c r S G N T) (a : Int32) (k : Nat) (hk : k < cN (fun t => decide (r.1 10 t = a)) T) : ∃ t0, t0 < T ∧ X5_find 42 a (nI k) c = some (nI t0, c) ∧ X11_tried_l32 a FU (nI k) 0 r = some (r.1 11 t0, r) := by
  have h24 := T24 M
  have hk24 : k < 24 := by have := cN_le (fun t => decide (r.1 10 t = a)) T; omega
  have key : ∀ (f t : Nat), T < t + f → t ≤ T → cN (fun t => decide (r.1 10 t = a)) t ≤ k → ∃ t0, t0 < T ∧ X5_find_l5 42 a (nI k) f (nI (cN (fun t => decide (r.1 10 t = a)) t)) (nI t) c = some (nI t0, c) ∧ X11_tried_l32 a f (nI (k - cN (fun t => decide (r.1 10 t = a)) t)) (nI t) r = some (r.1 11 t0, r) := by
    intro f
    induction f with
    | zero => intro t h1 h2 _; omega
    | succ f ih =>
      intro t h1 h2 h3
      rw [X5_find_l5.eq_2, X11_tried_l32.eq_2, M.2.1.2.2.2.2, M.1.2.2.2.1]
      have z : t ≠ T := fun z => by subst z; omega
      have nx := ih (t + 1) (by omega) (by omega)
      rw [cN_step] at nx
      have e1 : c.1 (42 + 2) t = r.1 10 t := (M.2.2.2 t (by omega)).1
      rw [if_neg (nI_ge (by omega) (by omega)), if_neg (nI_ge (by omega) (by omega)), ck_nI _ (by omega) (by decide), ck_nI _ (by omega) (by decide), nI_clamp (by omega), e1]
      unfold X5_find_j36 X11_tried_j70
      by_cases y : r.1 10 t = a
      · rw [if_pos y] at nx
        rw [if_pos y, if_pos y]
        by_cases x : cN (fun t => decide (r.1 10 t = a)) t = k
        · rw [if_pos (by rw [x]), x, Nat.sub_self, if_pos (by rfl), ck_nI _ (by omega) (by decide)]
          exact ⟨t, by omega, rfl, rfl⟩
        · rw [if_neg (show ¬ nI (cN (fun t => decide (r.1 10 t = a)) t) = nI k from fun q => x ((nI_eq (by omega) (by omega)).mp q)), if_neg (nI_ne0 (by omega) (by omega))]
          have e3 : nI (k - cN (fun t => decide (r.1 10 t = a)) t) + -1 = nI (k - (cN (fun t => decide (r.1 10 t = a)) t + 1)) := by
            rw [m_one, pk_sub (b := 1) (by omega), Nat.sub_sub]
          simp only [vl_e, nI_1, e3]
          exact nx (by omega)
      · rw [if_neg y] at nx
        rw [if_neg y, if_neg y]
        simp only [vl_e, nI_1]
        exact nx (by omega)
  exact key FU 0 (by unfold FU; omega) (by omega) (Nat.zero_le _)
/-- no such try -/
theorem l_none (M : MR 42 c r S G N T) (a : Int32) (v : Int32) (hv : ∀ k, k < cN (fun t => decide (r.1 10 t = a)) T → v ≠ nI k) : X5_find 42 a v c = some (-1, c) := by
  have h24 := T24 M
  have key : ∀ (f t : Nat), T < t + f → t ≤ T → X5_find_l5 42 a v f (nI (cN (fun t => decide (r.1 10 t = a)) t)) (nI t) c = some (-1, c) := by
    intro f
    induction f with
    | zero => intro t h1 h2; omega
    | succ f ih =>
      intro t h1 h2
      rw [X5_find_l5.eq_2, M.2.1.2.2.2.2]
      by_cases z : t = T
      · subst z
        rw [if_pos (Int32.le_refl _)]
      · have nx := ih (t + 1) (by omega) (by omega)
        rw [cN_step] at nx
        have e1 : c.1 (42 + 2) t = r.1 10 t := (M.2.2.2 t (by omega)).1
        rw [if_neg (nI_ge (by omega) (by omega)), ck_nI _ (by omega) (by decide), nI_clamp (by omega), e1]
        unfold X5_find_j36
        by_cases y : r.1 10 t = a
        · rw [if_pos y] at nx
          have m : cN (fun t => decide (r.1 10 t = a)) t < cN (fun t => decide (r.1 10 t = a)) T := cN_lt' (by omega) (decide_eq_true y)
          rw [if_pos y, if_neg (fun q => hv _ m q.symm)]
          simp only [vl_e, nI_1]
          exact nx
        · rw [if_neg y] at nx
          rw [if_neg y]
          simp only [vl_e, nI_1]
          exact nx
  exact key FU 0 (by unfold FU; omega) (by omega)
end B1
theorem o_better {c r : AH} {a1 : Int32} (I : Inv c r) : SimE (X10_better a1 c) (X11_better a1 r) Inv := by
  obtain ⟨⟨S, G, N, T, M⟩, hW, hL, hRow, hRF, hIM⟩ := id I
  have hN := M.1.2.2.2.2.2.2.1
  have h24 := T24 M
  unfold X10_better X11_better
  rcases jm a1 hN with hz | ⟨j, hj, rfl⟩
  · rw [nb_n M.2.1.2.2.2.1 hz, bd_s, ij_n M.1.2.2.1 hz, bd_s, i_0, i_1]
    exact rfs (x := -1) I (by decide)
  · rw [nb_y M.2.1.2.2.2.1 hN hj, bd_s, ij_y M.1.2.2.1 hN hj, bd_s, i_0, i_10]
    obtain ⟨v, e1, e2⟩ := l_better M (nI j) FU 0 0 0 (by unfold FU; omega) (by omega)
    exact SimE.mk' e1 e2 rfl I
theorem o_tried {c r : AH} {a1 a2 : Int32} (I : Inv c r) : SimE (X10_tried a1 a2 c) (X11_tried a1 a2 r) Inv := by
  obtain ⟨⟨S, G, N, T, M⟩, hW, hL, hRow, hRF, hIM⟩ := id I
  have hN := M.1.2.2.2.2.2.2.1
  have h24 := T24 M
  unfold X10_tried X11_tried
  rcases jm a1 hN with hz | ⟨j, hj, rfl⟩
  · rw [nb_n M.2.1.2.2.2.1 hz, bd_s, ij_n M.1.2.2.1 hz, bd_s, i_0, i_1]
    unfold X10_tried_j21 X11_tried_j21
    rw [if_neg (by decide)]
    exact rfs (x := -1) I (by decide)
  · have hc := cN_le (fun t => decide (r.1 10 t = nI j)) T
    rw [nb_y M.2.1.2.2.2.1 hN hj, bd_s, ij_y M.1.2.2.1 hN hj, bd_s, i_0, i_10, s_triesOfR M.1, bd_s]
    rcases pk_ix a2 (n := cN (fun t => decide (r.1 10 t = nI j)) T) (by omega) with h | h | ⟨k, hk, rfl⟩
    · rw [if_pos h, l_none M _ _ (fun k hk e => by rw [e] at h; exact absurd h (nI_pos (by omega))), bd_s]
      unfold X10_tried_j21 X11_tried_j21
      rw [if_neg (by decide)]
      exact rfs (x := -1) I (by decide)
    · rw [l_none M _ _ (fun k hk e => by rw [e] at h; exact absurd h (nI_ge hk (by omega))), bd_s]
      unfold X10_tried_j21 X11_tried_j21
      rw [if_neg (show ¬ (0 : Int32) ≤ -1 by decide), if_neg (show ¬ a2 < nI _ from Int32.not_lt.mpr h)]
      have e : ∀ (x : Option (Int32 × AH)), (if a2 < 0 then x else x) = x := fun x => by split <;> rfl
      rw [e]
      exact rfs (x := -1) I (by decide)
    · obtain ⟨t0, ht, e1, e2⟩ := l_tried M (nI j) k hk
      rw [e1, bd_s, if_neg (nI_pos (by omega)), if_pos (nI_lt hk (by omega)), e2]
      unfold X10_tried_j21
      rw [if_pos (nI_pos' (by omega)), ck_nI _ (by omega) (by decide), nI_clamp (by omega)]
      exact SimE.mk' rfl rfl (M.2.2.2 t0 ht).2 I
theorem o_leads {c r : AH} (I : Inv c r) : SimE (X10_leads c) (X11_leads r) Inv := by
  obtain ⟨⟨S, G, N, T, M⟩, hW, hL, hRow, hRF, hIM⟩ := id I
  obtain ⟨v, c', e1, f1, t1⟩ := m_leadC M (by decide)
  obtain ⟨v', r', e2, f2, t2⟩ := m_leadR M.1
  unfold X10_leads X11_leads
  rw [bd_id, bd_id]
  exact SimE.mk' e1 e2 (LV_u M.1.2.2.2.2.2.2.1 t1 t2) (Inv_f I (PC.FR f1) (fun _ _ _ => PR.FT f2))
theorem o_goOn {c r : AH} (I : Inv c r) : SimE (X10_goOn c) (X11_goOn r) Inv := by
  obtain ⟨⟨S, G, N, T, M⟩, hW, hL, hRow, hRF, hIM⟩ := id I
  have hN := M.1.2.2.2.2.2.2.1
  have hG := M.1.2.2.2.2.2.1
  have h24 := T24 M
  have hF := F_b M.1
  obtain ⟨c', a1, a2, a3, a4⟩ := m_rankC M (by decide) (n := T) (by omega)
  rw [Nat.min_self] at a2
  obtain ⟨r', b1, b2, b3⟩ := m_ranksR M.1
  have M' := MR_c (T := T) (CA.FR (by decide) a3) (MR_r (RA.FT b2) M)
  have key : ∀ (f p : Nat) (x : Int32), min G N < p + f → p ≤ min G N → ∃ v, X10_goOn_l23 f x (nI p) c' = some (v, c') ∧ X11_goOnBits_l8 f x (nI p) r' = some (v, r') := by
    intro f
    induction f with
    | zero => intro p x h1 h2; omega
    | succ f ih =>
      intro p x h1 h2
      rw [X10_goOn_l23.eq_2, X11_goOnBits_l8.eq_2, s_finC M'.2.1.2.2.2.1 M'.2.1.2.2.1 hN hG.2, s_finR M'.1.2.2.1 M'.1.2.1 hN hG.2, bd_s, bd_s]
      by_cases z : p = min G N
      · rw [if_pos (nI_le (by omega) (by omega)), if_pos (nI_le (by omega) (by omega))]
        exact ⟨x, rfl, rfl⟩
      · obtain ⟨j, hj, ej⟩ := rk_onto (B := BR r T) (p := p) hN (BR_p r _) (by omega)
        have e6 : r'.1 22 p = nI j := by rw [← ej]; exact b3 j hj
        rw [if_neg (nI_ge (by omega) (by omega)), if_neg (nI_ge (by omega) (by omega)), s_at' hN hj ej (BR_p r _) a2 a4, bd_s, ck_nI _ (by omega) (by decide), nI_clamp (by omega), e6]
        simp only [vl_e, nI_1]
        exact ih (p + 1) _ (by omega) (by omega)
  unfold X10_goOn X11_goOn X11_goOnBits
  rw [M.2.1.2.2.2.2, a1, bd_s, b1, bd_s, bd_id]
  obtain ⟨v, e1, e2⟩ := key FU 0 0 (by unfold FU; omega) (by omega)
  exact SimE.mk' e1 e2 rfl (Inv_f I (PC.FR a3) (fun _ _ _ => PR.FT b2))
end
section
/-! THE ROW: tooLong, unlike, moved, gusts -/
theorem RW_w {c r : AH} (h : RW c r) : ∃ (n : Nat) (w : Nat → Nat), n ≤ 12 ∧ c.1 0 8 = nI n ∧ r.1 0 34 = nI n ∧ ∀ k, k < n → w k ≤ 99 ∧ c.1 3 k = nI (w k) ∧ r.1 23 k = nI (w k) := by
  obtain ⟨n, h1, h2, h3, h4⟩ := h
  refine ⟨n, fun k => (c.1 3 k).toNatClampNeg, h1, h2, h3, fun k hk => ?_⟩
  obtain ⟨v, v1, v2, v3⟩ := h4 k hk
  show (c.1 3 k).toNatClampNeg ≤ 99 ∧ c.1 3 k = nI (c.1 3 k).toNatClampNeg ∧ r.1 23 k = nI (c.1 3 k).toNatClampNeg
  rw [v2, v3, nI_clamp (by omega)]
  exact ⟨v1, rfl, rfl⟩
def pmx (w : Nat → Nat) : Nat → Nat
  | 0 => 0
  | n + 1 => max (pmx w n) (w n)
def pmn (w : Nat → Nat) : Nat → Nat
  | 0 => 99
  | n + 1 => min (pmn w n) (w n)
theorem pmx_le {w : Nat → Nat} {x : Nat} : ∀ n, (∀ k, k < n → w k ≤ x) → pmx w n ≤ x := by
  intro n
  induction n with
  | zero => intro _; exact Nat.zero_le _
  | succ n ih => intro h; exact Nat.max_le.mpr ⟨ih (fun k hk => h k (by omega)), h n (by omega)⟩
theorem le_pmx {w : Nat → Nat} {k : Nat} : ∀ n, k < n → w k ≤ pmx w n := by
  intro n
  induction n with
  | zero => intro h; omega
  | succ n ih =>
    intro h
    show w k ≤ max (pmx w n) (w n)
    by_cases e : k = n
    · rw [e]; exact Nat.le_max_right _ _
    · exact Nat.le_trans (ih (by omega)) (Nat.le_max_left _ _)
theorem pmn_le {w : Nat → Nat} {k : Nat} : ∀ n, k < n → pmn w n ≤ w k := by
  intro n
  induction n with
  | zero => intro h; omega
  | succ n ih =>
    intro h
    show min (pmn w n) (w n) ≤ w k
    by_cases e : k = n
    · rw [e]; exact Nat.min_le_right _ _
    · exact Nat.le_trans (Nat.min_le_left _ _) (ih (by omega))
theorem pmn_99 {w : Nat → Nat} : ∀ n, pmn w n ≤ 99 := by
  intro n
  induction n with
  | zero => exact Nat.le_refl _
  | succ n ih => exact Nat.le_trans (Nat.min_le_left _ _) ih
theorem pmn_at {w : Nat → Nat} : ∀ n, 0 < n → (∀ k, k < n → w k ≤ 99) → ∃ k, k < n ∧ pmn w n = w k := by
  intro n
  induction n with
  | zero => intro h; omega
  | succ n ih =>
    intro _ hw
    by_cases e : n = 0
    · subst e
      refine ⟨0, by omega, ?_⟩
      show min 99 (w 0) = w 0
      have := hw 0 (by omega)
      omega
    · obtain ⟨k, k1, k2⟩ := ih (by omega) (fun k hk => hw k (by omega))
      by_cases d : pmn w n ≤ w n
      · exact ⟨k, by omega, by show min (pmn w n) (w n) = w k; omega⟩
      · exact ⟨n, by omega, by show min (pmn w n) (w n) = w n; omega⟩
theorem mx_nI {a b : Nat} (ha : a < 2 ^ 31) (hb : b < 2 ^ 31) : mx32 (nI a) (nI b) = nI (max a b) := by
  unfold mx32
  by_cases z : a < b
  · rw [if_pos (nI_lt z hb), Nat.max_eq_right (by omega)]
  · rw [if_neg (nI_nlt (by omega) (by omega)), Nat.max_eq_left (by omega)]
theorem mn_nI {a b : Nat} (ha : a < 2 ^ 31) (hb : b < 2 ^ 31) : mn32 (nI a) (nI b) = nI (min a b) := by
  unfold mn32
  by_cases z : b < a
  · rw [if_pos (nI_lt z ha), Nat.min_eq_right (by omega)]
  · rw [if_neg (nI_nlt (by omega) (by omega)), Nat.min_eq_left (by omega)]
section RO
variable {c r : AH} {n : Nat} {w : Nat → Nat}
theorem s_gr (hn : n ≤ 12) (e : c.1 0 8 = nI n) (hw : ∀ k, k < n → w k ≤ 99 ∧ c.1 3 k = nI (w k)) {p : Nat} (hp : p ≤ n) : X10_greatestFrom (nI p) c = some (nI (pmx (fun k => if p ≤ k then w k else 0) n), c) := by
  have h0 : pmx (fun k => if p ≤ k then w k else 0) p = 0 := Nat.le_zero.mp (pmx_le p (fun k hk => by show (if p ≤ k then w k else 0) ≤ 0; rw [if_neg (by omega)]; exact Nat.le_refl 0))
  have key : ∀ (f t : Nat), n < t + f → p ≤ t → t ≤ n → X10_greatestFrom_l4 f (nI (pmx (fun k => if p ≤ k then w k else 0) t)) (nI t) c = some (nI (pmx (fun k => if p ≤ k then w k else 0) n), c) := by
    intro f
    induction f with
    | zero => intro t h1 h2 h3; omega
    | succ f ih =>
      intro t h1 h2 h3
      rw [X10_greatestFrom_l4.eq_2, e]
      by_cases z : t = n
      · subst z
        rw [if_pos (Int32.le_refl _)]
      · have hb : pmx (fun k => if p ≤ k then w k else 0) t ≤ 99 := pmx_le t (fun k hk => by show (if p ≤ k then w k else 0) ≤ 99; have := (hw k (by omega)).1; split <;> omega)
        have h99 := (hw t (by omega)).1
        rw [if_neg (nI_ge (by omega) (by omega)), ck_nI _ (by omega) (by decide), nI_clamp (by omega), (hw t (by omega)).2, vl_e, vl_e, nI_1, mx_nI (by omega) (by omega)]
        have nx := ih (t + 1) (by omega) (by omega) (by omega)
        have e1 : pmx (fun k => if p ≤ k then w k else 0) (t + 1) = max (pmx (fun k => if p ≤ k then w k else 0) t) (w t) := by
          show max _ (if p ≤ t then w t else 0) = _
          rw [if_pos h2]
        rw [e1] at nx
        exact nx
  have k := key FU p (by unfold FU; omega) (Nat.le_refl _) hp
  rw [h0] at k
  exact k
theorem s_la (hn : n ≤ 12) (e : c.1 0 8 = nI n) (hw : ∀ k, k < n → w k ≤ 99 ∧ c.1 3 k = nI (w k)) {p : Nat} (hp : p ≤ n) : X10_leastAhead (nI p) c = some (nI (pmn w p), c) := by
  have key : ∀ (f t : Nat), p < t + f → t ≤ p → X10_leastAhead_l5 (nI p) f (nI (pmn w t)) (nI t) c = some (nI (pmn w p), c) := by
    intro f
    induction f with
    | zero => intro t h1 h2; omega
    | succ f ih =>
      intro t h1 h2
      rw [X10_leastAhead_l5.eq_2, e]
      by_cases z : t = p
      · subst z
        rw [if_pos (Int32.le_refl _)]
      · have hb := pmn_99 (w := w) t
        have h99 := (hw t (by omega)).1
        rw [if_neg (nI_ge (by omega) (by omega)), if_neg (nI_ge (by omega) (by omega)), ck_nI _ (by omega) (by decide), nI_clamp (by omega), (hw t (by omega)).2, vl_e, vl_e, nI_1, mn_nI (by omega) (by omega)]
        exact ih (t + 1) (by omega) (by omega)
  exact key FU 0 (by unfold FU; omega) (Nat.zero_le _)
theorem l_long (hn : n ≤ 12) (e : c.1 0 8 = nI n) (e' : r.1 0 34 = nI n) (hw : ∀ k, k < n → w k ≤ 99 ∧ c.1 3 k = nI (w k) ∧ r.1 23 k = nI (w k)) : ∀ (f t : Nat) (x : Int32), n < t + f → t ≤ n → ∃ v, X10_tooLong_l18 f x (nI t) c = some (v, c) ∧ X11_tooLong_l18 f x (nI t) r = some (v, r) := by
  intro f
  induction f with
  | zero => intro t x h1 h2; omega
  | succ f ih =>
    intro t x h1 h2
    rw [X10_tooLong_l18.eq_2, X11_tooLong_l18.eq_2, e, e']
    by_cases z : t = n
    · subst z
      rw [if_pos (Int32.le_refl _), if_pos (Int32.le_refl _)]
      by_cases y : x ≤ 0
      · rw [if_pos y, if_pos y]
        by_cases y2 : 0 ≤ x
        · rw [if_pos y2, if_pos y2]; exact ⟨_, rfl, rfl⟩
        · rw [if_neg y2, if_neg y2]; exact ⟨_, rfl, rfl⟩
      · rw [if_neg y, if_neg y]; exact ⟨_, rfl, rfl⟩
    · rw [if_neg (nI_ge (by omega) (by omega)), if_neg (nI_ge (by omega) (by omega)), ck_nI _ (by omega) (by decide), ck_nI _ (by omega) (by decide), nI_clamp (by omega), (hw t (by omega)).2.1, (hw t (by omega)).2.2]
      simp only [vl_e, nI_1]
      exact ih (t + 1) _ (by omega) (by omega)
theorem l_unR (hn : n ≤ 12) (e' : r.1 0 34 = nI n) (hw : ∀ k, k < n → w k ≤ 99 ∧ r.1 23 k = nI (w k)) : ∀ (f t : Nat), n < t + f → t ≤ n → X11_unlike_l21 f (nI (pmn w t)) (nI (pmx w t)) (nI t) r = some (nI (pmx w n) - nI (pmn w n), r) := by
  intro f
  induction f with
  | zero => intro t h1 h2; omega
  | succ f ih =>
    intro t h1 h2
    rw [X11_unlike_l21.eq_2, e']
    by_cases z : t = n
    · subst z
      rw [if_pos (Int32.le_refl _)]
    · have hb := pmn_99 (w := w) t
      have hb2 : pmx w t ≤ 99 := pmx_le t (fun k hk => (hw k (by omega)).1)
      have h99 := (hw t (by omega)).1
      have nx := ih (t + 1) (by omega) (by omega)
      have e1 : pmx w (t + 1) = max (pmx w t) (w t) := rfl
      have e2 : pmn w (t + 1) = min (pmn w t) (w t) := rfl
      rw [e1, e2] at nx
      unfold X11_unlike_j49 X11_unlike_j70
      rw [if_neg (nI_ge (by omega) (by omega))]
      simp only [ck_nI _ (show t < 12 by omega) (show 12 < 2 ^ 31 by decide), nI_clamp (show t < 2 ^ 31 by omega), (hw t (by omega)).2, vl_e, nI_1]
      by_cases y : pmn w t ≤ w t
      · rw [if_pos (nI_le y (by omega))]
        rw [Nat.min_eq_left y] at nx
        by_cases y2 : w t ≤ pmx w t
        · rw [if_pos (nI_le y2 (by omega))]
          rw [Nat.max_eq_left y2] at nx
          exact nx
        · rw [if_neg (nI_ge (by omega) (by omega))]
          rw [Nat.max_eq_right (by omega)] at nx
          exact nx
      · rw [if_neg (nI_ge (by omega) (by omega))]
        rw [Nat.min_eq_right (by omega)] at nx
        by_cases y2 : w t ≤ pmx w t
        · rw [if_pos (nI_le y2 (by omega))]
          rw [Nat.max_eq_left y2] at nx
          exact nx
        · rw [if_neg (nI_ge (by omega) (by omega))]
          rw [Nat.max_eq_right (by omega)] at nx
          exact nx
/-- from p on all are s under all ahead -/
def mvd (w : Nat → Nat) (n p s : Nat) : Prop := ∀ k, p ≤ k → k < n → ∀ m, m < p → (w k : Int) ≤ (w m : Int) - s
theorem l_mvR {p s : Nat} (hn : n ≤ 12) (e' : r.1 0 34 = nI n) (hw : ∀ k, k < n → w k ≤ 99 ∧ r.1 23 k = nI (w k)) (hp : p ≤ n) (hs : s ≤ 99) : (mvd w n p s ∧ X11_isMovedFrom (nI p) (nI s) r = some (1, r)) ∨ (¬ mvd w n p s ∧ X11_isMovedFrom (nI p) (nI s) r = some (0, r)) := by
  have inner : ∀ (k : Nat) (K : Int32 → AH → Option (Int32 × AH)), k < n → ∀ (f t : Nat), p < t + f → t ≤ p → (∀ m, m < t → (w k : Int) ≤ (w m : Int) - s) → ((∀ m, m < p → (w k : Int) ≤ (w m : Int) - s) ∧ X11_isMovedFrom_l13 (nI p) (nI s) (nI k) K f (nI t) r = K (nI (k + 1)) r) ∨ ((¬ ∀ m, m < p → (w k : Int) ≤ (w m : Int) - s) ∧ X11_isMovedFrom_l13 (nI p) (nI s) (nI k) K f (nI t) r = some (0, r)) := by
    intro k K hk f
    induction f with
    | zero => intro t h1 h2; omega
    | succ f ih =>
      intro t h1 h2 h3
      rw [X11_isMovedFrom_l13.eq_2]
      by_cases z : t = p
      · subst z
        rw [if_pos (Int32.le_refl _), vl_e, nI_1]
        exact Or.inl ⟨h3, rfl⟩
      · have k1 := (hw k hk).1
        have t1 := (hw t (by omega)).1
        rw [if_neg (nI_ge (by omega) (by omega)), ck_nI _ (by omega) (by decide), ck_nI _ (by omega) (by decide), nI_clamp (by omega), nI_clamp (by omega), (hw k hk).2, (hw t (by omega)).2]
        by_cases y : (w k : Int) ≤ (w t : Int) - s
        · rw [if_pos (by rw [fa_le, pk_sub_toInt (by omega) (by omega), toInt_nI (by omega)]; exact y), vl_e, nI_1]
          exact ih (t + 1) (by omega) (by omega) (fun m hm => by
            by_cases d : m = t
            · rw [d]; exact y
            · exact h3 m (by omega))
        · rw [if_neg (by rw [fa_le, pk_sub_toInt (by omega) (by omega), toInt_nI (by omega)]; exact y), cz_0]
          exact Or.inr ⟨fun q => y (q t (by omega)), rfl⟩
  have outer : ∀ (f k : Nat), n < k + f → p ≤ k → k ≤ n → ((∀ q, k ≤ q → q < n → ∀ m, m < p → (w q : Int) ≤ (w m : Int) - s) ∧ X11_isMovedFrom_l2 (nI p) (nI s) f (nI k) r = some (1, r)) ∨ ((¬ ∀ q, k ≤ q → q < n → ∀ m, m < p → (w q : Int) ≤ (w m : Int) - s) ∧ X11_isMovedFrom_l2 (nI p) (nI s) f (nI k) r = some (0, r)) := by
    intro f
    induction f with
    | zero => intro k h1 h2 h3; omega
    | succ f ih =>
      intro k h1 h2 h3
      rw [X11_isMovedFrom_l2.eq_2, e']
      by_cases z : k = n
      · subst z
        rw [if_pos (Int32.le_refl _), cz_1]
        exact Or.inl ⟨fun q q1 q2 => by omega, rfl⟩
      · rw [if_neg (nI_ge (by omega) (by omega))]
        rcases inner k (X11_isMovedFrom_l2 (nI p) (nI s) f) (by omega) FU 0 (by unfold FU; omega) (Nat.zero_le _) (fun m hm => by omega) with ⟨a1, a2⟩ | ⟨a1, a2⟩
        · have a2 : X11_isMovedFrom_l13 (nI p) (nI s) (nI k) (X11_isMovedFrom_l2 (nI p) (nI s) f) FU 0 r = X11_isMovedFrom_l2 (nI p) (nI s) f (nI (k + 1)) r := a2
          rw [a2]
          rcases ih (k + 1) (by omega) (by omega) (by omega) with ⟨b1, b2⟩ | ⟨b1, b2⟩
          · refine Or.inl ⟨fun q q1 q2 => ?_, b2⟩
            by_cases d : q = k
            · rw [d]; exact a1
            · exact b1 q (by omega) q2
          · exact Or.inr ⟨fun q => b1 (fun q' q1 q2 => q q' (by omega) q2), b2⟩
        · have a2 : X11_isMovedFrom_l13 (nI p) (nI s) (nI k) (X11_isMovedFrom_l2 (nI p) (nI s) f) FU 0 r = some (0, r) := a2
          rw [a2]
          exact Or.inr ⟨fun q => a1 (q k (Nat.le_refl _) (by omega)), rfl⟩
  exact outer FU p (by unfold FU; omega) (Nat.le_refl _) hp
theorem mvd_iff {p s : Nat} (hw : ∀ k, k < n → w k ≤ 99) (h0 : 0 < p) (hp : p < n) : mvd w n p s ↔ ¬ ((pmn w p : Int) - s < (pmx (fun k => if p ≤ k then w k else 0) n : Int)) := by
  have key : ∀ k, p ≤ k → k < n → w k ≤ pmx (fun k => if p ≤ k then w k else 0) n := by
    intro k k1 k2
    have := le_pmx (w := fun k => if p ≤ k then w k else 0) n k2
    have this : (if p ≤ k then w k else 0) ≤ pmx (fun k => if p ≤ k then w k else 0) n := this
    rw [if_pos k1] at this
    exact this
  constructor
  · intro h
    obtain ⟨m, m1, m2⟩ := pmn_at (w := w) p h0 (fun k hk => hw k (by omega))
    have hX : (w p : Int) ≤ (pmn w p : Int) - s := by rw [m2]; exact h p (Nat.le_refl _) hp m m1
    have : pmx (fun k => if p ≤ k then w k else 0) n ≤ pmn w p - s := by
      refine pmx_le n (fun k hk => ?_)
      show (if p ≤ k then w k else 0) ≤ _
      by_cases z : p ≤ k
      · rw [if_pos z]
        have := h k z hk m m1
        rw [← m2] at this
        omega
      · rw [if_neg z]; exact Nat.zero_le _
    omega
  · intro h k k1 k2 m m1
    have a := key k k1 k2
    have b := pmn_le (w := w) p m1
    omega
theorem l_moved {s : Nat} (hn : n ≤ 12) (e : c.1 0 8 = nI n) (e' : r.1 0 34 = nI n) (hw : ∀ k, k < n → w k ≤ 99 ∧ c.1 3 k = nI (w k) ∧ r.1 23 k = nI (w k)) (hs : s ≤ 99) : ∀ (f p : Nat), n + 1 < p + f → p ≤ n + 1 → 0 < p → ∃ v, X10_moved_l20 (nI s) f (nI p) c = some (v, c) ∧ X11_moved_l20 (nI s) f (nI p) r = some (v, r) := by
  intro f
  induction f with
  | zero => intro p h1 h2; omega
  | succ f ih =>
    intro p h1 h2 h3
    rw [X10_moved_l20.eq_2, X11_moved_l20.eq_2, e, e']
    by_cases z : n ≤ p
    · rw [if_pos (nI_le z (by omega)), if_pos (nI_le z (by omega))]
      exact ⟨_, rfl, rfl⟩
    · have hwc : ∀ k, k < n → w k ≤ 99 ∧ c.1 3 k = nI (w k) := fun k hk => ⟨(hw k hk).1, (hw k hk).2.1⟩
      have hb := pmn_99 (w := w) p
      have hb2 : pmx (fun k => if p ≤ k then w k else 0) n ≤ 99 := pmx_le n (fun k hk => by show (if p ≤ k then w k else 0) ≤ 99; have := (hw k hk).1; split <;> omega)
      have hm := mvd_iff (n := n) (w := w) (p := p) (s := s) (fun k hk => (hw k hk).1) h3 (by omega)
      have hc : nI (pmn w p) - nI s < nI (pmx (fun k => if p ≤ k then w k else 0) n) ↔ ((pmn w p : Int) - s < (pmx (fun k => if p ≤ k then w k else 0) n : Int)) := by
        rw [fa_lt, pk_sub_toInt (by omega) (by omega), toInt_nI (by omega)]
      rw [if_neg (nI_ge (by omega) (by omega)), if_neg (nI_ge (by omega) (by omega)), s_gr hn e hwc (by omega), bd_s, s_la hn e hwc (by omega), bd_s]
      rcases l_mvR hn e' (fun k hk => ⟨(hw k hk).1, (hw k hk).2.2⟩) (p := p) (by omega) hs with ⟨a1, a2⟩ | ⟨a1, a2⟩
      · rw [a2, bd_s, if_neg (fun q => hm.mp a1 (hc.mp q)), i_10]
        exact ⟨_, rfl, rfl⟩
      · rw [a2, bd_s, if_pos (hc.mpr (Decidable.not_not.mp (fun q => a1 (hm.mpr q)))), i_0, vl_e, vl_e, nI_1]
        exact ih (p + 1) (by omega) (by omega) (by omega)
end RO
theorem o_tooLong {c r : AH} (I : Inv c r) : SimE (X10_tooLong c) (X11_tooLong r) Inv := by
  obtain ⟨n, w, hn, e, e', hw⟩ := RW_w I.2.2.2.1
  unfold X10_tooLong X11_tooLong
  rw [e, e']
  by_cases z : n = 0
  · subst z
    rw [if_pos (by rfl), if_pos (by rfl)]
    exact rfs (x := -3) I (by decide)
  · rw [if_neg (nI_ne0 (by omega) (by omega)), if_neg (nI_ne0 (by omega) (by omega))]
    obtain ⟨v, e1, e2⟩ := l_long hn e e' hw FU 0 0 (by unfold FU; omega) (Nat.zero_le _)
    exact SimE.mk' e1 e2 rfl I
theorem o_unlike {c r : AH} (I : Inv c r) : SimE (X10_unlike c) (X11_unlike r) Inv := by
  obtain ⟨n, w, hn, e, e', hw⟩ := RW_w I.2.2.2.1
  unfold X10_unlike X11_unlike
  rw [e, e']
  by_cases z : n = 0
  · subst z
    rw [if_pos (by rfl), if_pos (by rfl)]
    exact rfs (x := -3) I (by decide)
  · have hwc : ∀ k, k < n → w k ≤ 99 ∧ c.1 3 k = nI (w k) := fun k hk => ⟨(hw k hk).1, (hw k hk).2.1⟩
    have g : X10_greatestFrom 0 c = some (nI (pmx w n), c) := by
      have h := s_gr hn e hwc (p := 0) (Nat.zero_le _)
      have e0 : (fun k => if 0 ≤ k then w k else 0) = w := by funext k; exact if_pos (Nat.zero_le _)
      rw [e0] at h
      exact h
    rw [if_neg (nI_ne0 (by omega) (by omega)), if_neg (nI_ne0 (by omega) (by omega)), g, bd_s, e, s_la hn e hwc (Nat.le_refl _), bd_s]
    exact SimE.mk' rfl (l_unR hn e' (fun k hk => ⟨(hw k hk).1, (hw k hk).2.2⟩) FU 0 (by unfold FU; omega) (Nat.zero_le _)) rfl I
theorem o_moved {c r : AH} {a1 : Int32} (I : Inv c r) : SimE (X10_moved a1 c) (X11_moved a1 r) Inv := by
  obtain ⟨n, w, hn, e, e', hw⟩ := RW_w I.2.2.2.1
  unfold X10_moved X11_moved
  rw [s_outside, s_bound, bd_s, bd_s]
  by_cases h0 : a1 < 1
  · rw [if_pos h0, i_4, i_4]
    exact rfs (x := -4) I (by decide)
  · rw [if_neg h0]
    by_cases h1 : 99 < a1
    · rw [if_pos h1, i_6, i_6]
      exact rfs (x := -6) I (by decide)
    · rw [if_neg h1, i_0, i_0]
      have t1 : (1 : Int32).toInt = 1 := rfl
      have t0 : (0 : Int32).toInt = 0 := rfl
      obtain ⟨s, hs, rfl⟩ := nI_of2 (x := a1) (M := 99) (n := 99) rfl (by rw [fa_lt] at h0 ⊢; omega) (Int32.not_lt.mp h1)
      obtain ⟨v, e1, e2⟩ := l_moved hn e e' hw hs FU 1 (by unfold FU; omega) (by omega) (by omega)
      exact SimE.mk' e1 e2 rfl I
end
section
/-! GUSTS -/
section GU
variable {c r : AH} {S G N T n j : Nat} {w : Nat → Nat}
theorem ww_n {x : Nat} (h : x ≤ 18) : WW (nI x - 9) := ⟨x, by omega, rfl⟩
theorem l_gusts (I : Inv c r) (M : MR 42 c r S G N T) (hj : j < N) (hn : n ≤ 12) (e : c.1 0 8 = nI n) (e' : r.1 0 34 = nI n) (hw : ∀ k, k < n → w k ≤ 99 ∧ c.1 3 k = nI (w k) ∧ r.1 23 k = nI (w k)) (h18 : ∀ k, k < n → w k ≤ 18) :
    ∀ (f t : Nat) (x : Int32) (m : Int64) (ct rt : AH), n < t + f → t ≤ n → PC c ct → (∀ o k, ¬ (o = 0 ∧ k = 14) → rt.1 o k = r.1 o k) → ∃ v c' r', X10_gusts_l56 (48 + j) f x m (nI t) ct = some (v, c') ∧ X11_gusts_l79 (nI j) (r.1 0 14) f x m (nI t) rt = some (v, r') ∧ PC c c' ∧ r'.1 = r.1 := by
  obtain ⟨R, ⟨cS, cW, cG, cN, cT⟩, cJ, cTr⟩ := id M
  obtain ⟨rS, rG, rN, rT, hS, hG, hN, hT, hWW, hJ, hH⟩ := id R
  have hj4 : j < 4 := by omega
  have hJC : ∀ k, 1 ≤ k → k ≤ 8 → c.1 (48 + j) k = r.1 (k + 1) j := (cJ j hj4).1
  intro f
  induction f with
  | zero => intro t x m ct rt h1 h2; omega
  | succ f ih =>
    intro t x m ct rt h1 h2 p q
    have e8 : ct.1 0 8 = nI n := by rw [p.1 8 (by decide)]; exact e
    have e34 : rt.1 0 34 = nI n := by rw [q 0 34 (by omega)]; exact e'
    rw [X10_gusts_l56.eq_2, X11_gusts_l79.eq_2, e8, e34]
    by_cases z : t = n
    · subst z
      rw [if_pos (Int32.le_refl _), if_pos (Int32.le_refl _), vl_e]
      refine ⟨x, ct, _, rfl, rfl, p, ?_⟩
      funext o k
      rw [sI_at]
      by_cases y : o = 0 ∧ k = 14
      · rw [if_pos y, y.1, y.2]
      · rw [if_neg y]; exact q o k y
    · have It := Inv_f I p (fun _ _ _ => PR.rf)
      have Mt : MR 42 ct r S G N T := MR_k M (fun o k h1 h2 => p.2.1 o k (by omega)) (fun o h1 h2 => p.2.2.1 o (by omega)) RA.rf
      have hww : WW (nI (w t) - 9) := ww_n (h18 t (by omega))
      have hpl := pl_b R hj4 hww
      have hcj : ∀ k, 1 ≤ k → k ≤ 8 → ct.1 (48 + j) k = r.1 (k + 1) j := (Mt.2.2.1 j hj4).1
      obtain ⟨c', s1, s2, s3, s4, s5, s6, s7, s8, s9, s10⟩ := k_spread 0 Mt It.2.1 hj4 hww hS.1 hS.2 hpl.1 hpl.2
      obtain ⟨g, eg⟩ : ∃ g, g = sI rt 0 14 (nI (w t) - 9) := ⟨_, rfl⟩
      have qg : ∀ o k, ¬ (o = 0 ∧ k = 14) → g.1 o k = r.1 o k := fun o k h => by rw [eg, sI_n h]; exact q o k h
      have g14 : g.1 0 14 = nI (w t) - 9 := by rw [eg, sI_y]
      have hRJ : ∀ k, 1 ≤ k → k ≤ 8 → RJ r j k = RJ g j k := fun k k1 k2 => (qg (k + 1) j (by omega)).symm
      have gS : g.1 0 12 = nI S := by rw [qg 0 12 (by omega)]; exact rS
      have hcn := u_count (h := g) (j := j) (S := S) hj4 (NJ_J hRJ (hJ j hj4)) gS (by rw [g14]; exact hww) hS.1 hS.2 hpl.1 hpl.2
      obtain ⟨r', t1, t2⟩ := hcn.2.2.1 0
      have ep : X11_placeOf (nI j) g = some (r.1 9 j - pathS (r.1 2 j) (r.1 4 j) (r.1 5 j) (nI (w t) - 9) S, g) := by
        rw [s_placeR hj4 (by omega : S < 4000) gS, g14, qg 9 j (by omega), qg 2 j (by omega), qg 4 j (by omega), qg 5 j (by omega)]
      have ev : RV (RJ g j) (g.1 0 14) (r.1 9 j - pathS (r.1 2 j) (r.1 4 j) (r.1 5 j) (nI (w t) - 9) S) S p2 = RV (RJ r j) (nI (w t) - 9) (r.1 9 j - pathS (r.1 2 j) (r.1 4 j) (r.1 5 j) (nI (w t) - 9) S) S p2 := by
        rw [g14, RV_J hRJ]
      rw [ev] at t1
      have hw99 := hw t (by omega)
      have k3 : ct.1 3 t = nI (w t) := by rw [p.2.1 3 t (by omega)]; exact hw99.2.1
      have k23 : rt.1 23 t = nI (w t) := by rw [q 23 t (by omega)]; exact hw99.2.2
      rw [if_neg (nI_ge (by omega) (by omega)), if_neg (nI_ge (by omega) (by omega)), ck_nI _ (by omega) (by decide), ck_nI _ (by omega) (by decide), nI_clamp (by omega), k3, k23, vl_e, vl_e, ← eg]
      unfold X11_meanParts
      rw [Mt.2.1.1, s_path (Mt.2.2.1 j hj4).2 (by omega : S < 4000), bd_s, hcj 1 (by omega) (by omega), hcj 3 (by omega) (by omega), hcj 4 (by omega) (by omega), hcj 8 (by omega) (by omega), s1, bd_s, s_mean, bd_s, s7, ep, bd_s, t1, bd_s, bd_s]
      unfold X10_gusts_j138 X11_gusts_j128
      have p' : PC c c' := p.tr (k_PC s2 s3 s4)
      have q' : ∀ o k, ¬ (o = 0 ∧ k = 14) → r'.1 o k = r.1 o k := fun o k h => by rw [t2.1]; exact qg o k h
      simp only [vl_e, nI_1]
      by_cases y : lcmpV (RV (RJ r j) (nI (w t) - 9) (r.1 9 j - pathS (r.1 2 j) (r.1 4 j) (r.1 5 j) (nI (w t) - 9) S) S p2) m ≤ 0
      · rw [if_pos y, if_neg (show ¬ (0 : Int32) < _ from Int32.not_lt.mpr y)]
        exact ih (t + 1) _ _ c' r' (by omega) (by omega) p' q'
      · rw [if_neg y, if_pos (show (0 : Int32) < _ from Int32.not_le.mp y)]
        exact ih (t + 1) _ _ c' r' (by omega) (by omega) p' q'
/-- no minute over the bound: class asks for the greatest, the reference one by one -/
theorem l_g16 (hn : n ≤ 12) (e' : r.1 0 34 = nI n) (hw : ∀ k, k < n → w k ≤ 99 ∧ r.1 23 k = nI (w k)) (a : Int32) : ∀ (f t : Nat), n < t + f → t ≤ n → (∀ k, k < t → w k ≤ 18) → ((∀ k, k < n → w k ≤ 18) ∧ X11_gusts_l16 a f 0 (nI t) r = X11_gusts_j52 a 0 r) ∨ ((¬ ∀ k, k < n → w k ≤ 18) ∧ X11_gusts_l16 a f 0 (nI t) r = X11_gusts_j52 a (-3) r) := by
  intro f
  induction f with
  | zero => intro t h1 h2; omega
  | succ f ih =>
    intro t h1 h2 h3
    rw [X11_gusts_l16.eq_2, e']
    by_cases z : t = n
    · subst z
      rw [if_pos (Int32.le_refl _)]
      exact Or.inl ⟨h3, rfl⟩
    · rw [if_neg (nI_ge (by omega) (by omega)), i_0, ck_nI _ (by omega) (by decide), nI_clamp (by omega), (hw t (by omega)).2]
      unfold X11_gusts_j45
      simp only [vl_e, nI_1]
      have h99 := (hw t (by omega)).1
      by_cases y : w t ≤ 18
      · rw [if_pos (show nI (w t) ≤ 18 from nI_le (b := 18) y (by decide))]
        exact ih (t + 1) (by omega) (by omega) (fun k hk => by
          by_cases d : k = t
          · rw [d]; exact y
          · exact h3 k (by omega))
      · rw [if_neg (show ¬ nI (w t) ≤ 18 from nI_ge (a := 18) (by omega) (by omega))]
        refine Or.inr ⟨fun q => y (q t (by omega)), ?_⟩
        cases f with
        | zero => omega
        | succ f =>
          rw [X11_gusts_l16.eq_2, e', i_3]
          split <;> rfl
end GU
theorem o_gusts {c r : AH} {a1 : Int32} (I : Inv c r) : SimE (X10_gusts a1 c) (X11_gusts a1 r) Inv := by
  obtain ⟨⟨S, G, N, T, M⟩, hW, hL, hRow, hRF, hIM⟩ := id I
  have hN := M.1.2.2.2.2.2.2.1
  obtain ⟨n, w, hn, e, e', hw⟩ := RW_w hRow
  have hwc : ∀ k, k < n → w k ≤ 99 ∧ c.1 3 k = nI (w k) := fun k hk => ⟨(hw k hk).1, (hw k hk).2.1⟩
  have g : X10_greatestFrom 0 c = some (nI (pmx w n), c) := by
    have h := s_gr hn e hwc (p := 0) (Nat.zero_le _)
    have e0 : (fun k => if 0 ≤ k then w k else 0) = w := by funext k; exact if_pos (Nat.zero_le _)
    rw [e0] at h
    exact h
  have hb2 : pmx w n ≤ 99 := pmx_le n (fun k hk => (hw k hk).1)
  have j52 : ∀ (a x : Int32), (x = -1 ∨ x = -3) → X11_gusts_j52 a x r = bd (X11_no x r) fun r11 h12 => some (r11, h12) := by
    intro a x hx
    unfold X11_gusts_j52
    rw [if_neg (by rcases hx with h | h <;> rw [h] <;> decide)]
  have j21 : ∀ (a x : Int32), (x = 0 ∨ x = -3) → X10_gusts_j21 a x (-1) c = bd (X10_refuse (-1) c) fun r11 h12 => some (r11, h12) := by
    intro a x hx
    unfold X10_gusts_j21
    rw [s_first, bd_s, i_1, i_1]
  unfold X10_gusts X11_gusts X11_gusts_j13
  rcases jm a1 hN with hz | ⟨j, hj, rfl⟩
  · rw [nb_n M.2.1.2.2.2.1 hz, bd_s, g, bd_s, ij_n M.1.2.2.1 hz, bd_s, i_0, j21 _ _ (Or.inl rfl), j21 _ _ (Or.inr rfl)]
    have e1 : ∀ (x : Option (Int32 × AH)) (P : Prop) [Decidable P], (if P then x else x) = x := fun x P _ => by split <;> rfl
    have e2 : X11_gusts_l16 a1 FU (-1) 0 r = X11_gusts_j52 a1 (-1) r := by
      unfold FU
      rw [X11_gusts_l16.eq_2, i_1, e1]
    rw [e1, e2, j52 _ _ (Or.inl rfl)]
    exact rfs (x := -1) I (by decide)
  · rw [nb_y M.2.1.2.2.2.1 hN hj, bd_s, g, bd_s, ij_y M.1.2.2.1 hN hj, bd_s, i_10]
    have hj4 : j < 4 := by omega
    rcases l_g16 hn e' (fun k hk => ⟨(hw k hk).1, (hw k hk).2.2⟩) (nI j) FU 0 (by unfold FU; omega) (Nat.zero_le _) (fun k hk => by omega) with ⟨a1, a2⟩ | ⟨a1, a2⟩
    · have a2 : X11_gusts_l16 (nI j) FU 0 0 r = X11_gusts_j52 (nI j) 0 r := a2
      have hp : pmx w n ≤ 18 := pmx_le n a1
      rw [a2, if_pos (show nI (pmx w n) ≤ 18 from nI_le (b := 18) hp (by decide))]
      unfold X10_gusts_j21 X11_gusts_j52
      rw [s_first, bd_s, i_0, i_0, i_0, s_at42 hj4, bd_s, cs_in _ (zc42 hj4)]
      simp only [vl_e]
      obtain ⟨v, c', r', e1, e2, p, q⟩ := l_gusts I M hj hn e e' hw a1 FU 0 (-9) (-1) c r (by unfold FU; omega) (Nat.zero_le _) PC.rf (fun _ _ _ => rfl)
      exact SimE.mk' e1 e2 rfl (Inv_f I p (fun _ _ _ => PR.L q))
    · have a2 : X11_gusts_l16 (nI j) FU 0 0 r = X11_gusts_j52 (nI j) (-3) r := a2
      have hp : ¬ pmx w n ≤ 18 := fun q => a1 (fun k hk => Nat.le_trans (le_pmx n hk) q)
      rw [a2, if_neg (show ¬ nI (pmx w n) ≤ 18 from nI_ge (a := 18) (by omega) (by omega)), j52 _ _ (Or.inr rfl)]
      unfold X10_gusts_j21
      rw [s_first, bd_s, i_0, i_3]
      exact rfs (x := -3) I (by decide)
end
section
/-! JUMPER, COUNT, NEEDS, FOULED -/
theorem s_long {h : AH} {B : BB} {j : Nat} (R : RKC h B) (hj : j < 4) : X6_longest (nI j) h = some (B.1 j, h) := by
  unfold X6_longest
  rw [if_neg (nI_pos (by omega)), if_pos (show nI j < 4 from nI_lt (b := 4) hj (by decide)), ck_nI _ hj (by decide), nI_clamp (by omega), (R j hj).1]
theorem s_second {h : AH} {B : BB} {j : Nat} (R : RKC h B) (hj : j < 4) : X6_secondLongest (nI j) h = some (B.2 j, h) := by
  unfold X6_secondLongest
  rw [if_neg (nI_pos (by omega)), if_pos (show nI j < 4 from nI_lt (b := 4) hj (by decide)), ck_nI _ hj (by decide), nI_clamp (by omega), (R j hj).2]
theorem o_jumper {c r : AH} {a1 a2 : Int32} (I : Inv c r) : SimE (X10_jumper a1 a2 c) (X11_jumper a1 a2 r) Inv := by
  obtain ⟨⟨S, G, N, T, M⟩, hW, hL, hRow, hRF, hIM⟩ := id I
  have hN := M.1.2.2.2.2.2.2.1
  have h24 := T24 M
  unfold X10_jumper X11_jumper
  rcases jm a1 hN with hz | ⟨j, hj, rfl⟩
  · rw [nb_n M.2.1.2.2.2.1 hz, bd_s, s_noSuch, bd_s, s_first, bd_s, ij_n M.1.2.2.1 hz, bd_s, i_0, i_1, i_1]
    exact rfs (x := -1) I (by decide)
  · have hj4 : j < 4 := by omega
    rw [nb_y M.2.1.2.2.2.1 hN hj, bd_s, s_noSuch, bd_s, s_first, bd_s, ij_y M.1.2.2.1 hN hj, bd_s, i_10, i_0]
    simp only [vl_e, hj_ck hj4, nI_clamp (show j < 2 ^ 31 by omega)]
    by_cases h0 : a2 < 0 ∨ 11 < a2
    · rw [if_pos h0, i_2]
      have n : ∀ k : Nat, k ≤ 11 → ¬ a2 = nI k := by
        intro k hk e
        rw [e] at h0
        rcases h0 with h | h
        · exact nI_pos (by omega) h
        · exact (show ¬ (11 : Int32) < nI k from nI_nlt (a := 11) (by omega) (by decide)) h
      rw [if_neg (show ¬ a2 = 0 from n 0 (by omega)), if_neg (show ¬ a2 = 1 from n 1 (by omega)), if_neg (show ¬ a2 = 2 from n 2 (by omega)), if_neg (show ¬ a2 = 3 from n 3 (by omega)), if_neg (show ¬ a2 = 4 from n 4 (by omega)), if_neg (show ¬ a2 = 5 from n 5 (by omega)), if_neg (show ¬ a2 = 6 from n 6 (by omega)), if_neg (show ¬ a2 = 7 from n 7 (by omega)), if_neg (show ¬ a2 = 8 from n 8 (by omega)), if_neg (show ¬ a2 = 9 from n 9 (by omega)), if_neg (show ¬ a2 = 10 from n 10 (by omega)), if_neg (show ¬ a2 = 11 from n 11 (by omega))]
      exact rfs (x := -2) I (by decide)
    · rw [if_neg h0, i_0]
      obtain ⟨k, hk, rfl⟩ := nI_of2 (x := a2) (M := 11) (n := 11) rfl (fun z => h0 (Or.inl z)) (Int32.not_lt.mp (fun z => h0 (Or.inr z)))
      have hJC : ∀ k, 1 ≤ k → k ≤ 8 → c.1 (48 + j) k = r.1 (k + 1) j := (M.2.2.1 j hj4).1
      have hJK := (M.2.2.1 j hj4).2
      have e5 : ∀ k, k < 9 → X5_at 42 (nI j) c = some (48 + j, c) := fun _ _ => s_at42 hj4 c
      by_cases k8 : k < 8
      · rw [if_neg (show ¬ (9 : Int32) ≤ nI k from nI_ge (b := 9) (by omega) (by decide)), s_at42 hj4, bd_s, cs_in _ (zc42 hj4), bd_id]
        have e : X2_property (48 + j) (nI k) c = some (c.1 (48 + j) (k + 1), c) := by
          unfold X2_property
          rw [vl_e]
          rcases (by omega : k = 0 ∨ k = 1 ∨ k = 2 ∨ k = 3 ∨ k = 4 ∨ k = 5 ∨ k = 6 ∨ k = 7) with q | q | q | q | q | q | q | q <;> subst q <;> rfl
        rw [e]
        refine SimE.mk' rfl (v2 := r.1 (k + 2) j) (r2 := r) ?_ (hJC (k + 1) (by omega) (by omega)) I
        rcases (by omega : k = 0 ∨ k = 1 ∨ k = 2 ∨ k = 3 ∨ k = 4 ∨ k = 5 ∨ k = 6 ∨ k = 7) with q | q | q | q | q | q | q | q <;> subst q <;> rfl
      · rcases (by omega : k = 8 ∨ k = 9 ∨ k = 10 ∨ k = 11) with q | q | q | q <;> subst q
        · rw [if_neg (show ¬ (9 : Int32) ≤ nI 8 by decide), s_at42 hj4, bd_s, cs_in _ (zc42 hj4), bd_id]
          have e : X2_property (48 + j) (nI 8) c = some (aimS (c.1 (48 + j) 1) (c.1 (48 + j) 2), c) := by
            unfold X2_property
            rw [vl_e, s_aimC hJK, bd_s]
            rfl
          rw [e]
          refine SimE.mk' rfl (v2 := aimS (r.1 2 j) (r.1 3 j)) (r2 := r) ?_ (by rw [hJC 1 (by omega) (by omega), hJC 2 (by omega) (by omega)]) I
          rw [s_aimR hj4, bd_s]
          rfl
        · obtain ⟨c', b1, b2, b3, b4⟩ := m_rankC M (by decide) (n := T) (by omega)
          rw [Nat.min_self] at b2
          obtain ⟨r', d1, d2, d3⟩ := m_bestR M.1 (Nat.le_refl T)
          rw [if_pos (show (9 : Int32) ≤ nI 9 by decide), if_neg (show ¬ nI 9 = 11 by decide), if_pos (show nI 9 = 9 by rfl), M.2.1.2.2.2.2, b1, bd_s, s_long b2 hj4, bd_s, M.1.2.2.2.1, d1]
          refine SimE.mk' rfl (v2 := (BR r T).1 j) (r2 := r') ?_ rfl (Inv_f I (PC.FR b3) (fun _ _ _ => PR.FT (FT.B d3)))
          rw [← (d2 j hj4).1]
          rfl
        · obtain ⟨c', b1, b2, b3, b4⟩ := m_rankC M (by decide) (n := T) (by omega)
          rw [Nat.min_self] at b2
          obtain ⟨r', d1, d2, d3⟩ := m_bestR M.1 (Nat.le_refl T)
          rw [if_pos (show (9 : Int32) ≤ nI 10 by decide), if_neg (show ¬ nI 10 = 11 by decide), if_neg (show ¬ nI 10 = 9 by decide), M.2.1.2.2.2.2, b1, bd_s, s_second b2 hj4, bd_s, M.1.2.2.2.1, d1]
          refine SimE.mk' rfl (v2 := (BR r T).2 j) (r2 := r') ?_ rfl (Inv_f I (PC.FR b3) (fun _ _ _ => PR.FT (FT.B d3)))
          rw [← (d2 j hj4).2]
          rfl
        · rw [if_pos (show (9 : Int32) ≤ nI 11 by decide), if_pos (show nI 11 = 11 by rfl), s_triesOfC M, bd_s, s_triesOfR M.1]
          exact SimE.mk' rfl rfl rfl I
theorem o_count {c r : AH} {a1 : Int32} (I : Inv c r) : SimE (X10_count a1 c) (X11_count a1 r) Inv := by
  obtain ⟨⟨S, G, N, T, M⟩, hW, ⟨L, l1, l2, l3, l4⟩, ⟨n, n1, n2, n3, n4⟩, hRF, hIM⟩ := id I
  have t1 : (11 : Int32).toInt = 11 := rfl
  have t2 : (16 : Int32).toInt = 16 := rfl
  have t3 : (10 : Int32).toInt = 10 := rfl
  have t4 : (7 : Int32).toInt = 7 := rfl
  unfold X10_count X11_count
  rw [vl_e, s_isIn, bd_s]
  by_cases h0 : a1 < 11 ∨ 16 < a1
  · rw [if_pos h0, i_0, vl_e]
    by_cases y0 : a1 = 0
    · rw [if_pos y0, if_pos y0]; exact SimE.mk' rfl rfl (by rw [M.2.1.2.2.2.1, M.1.2.2.1]) I
    rw [if_neg y0, if_neg y0]
    by_cases y1 : a1 = 1
    · rw [if_pos y1, if_pos y1, bd_id, bd_id]
      obtain ⟨r', e1, e2⟩ := m_roundR M.1
      exact SimE.mk' (m_roundC M) e1 rfl (Inv_f I PC.rf (fun _ _ _ => PR.FT e2))
    rw [if_neg y1, if_neg y1]
    by_cases y2 : a1 = 2
    · rw [if_pos y2, if_pos y2]; exact SimE.mk' rfl rfl (by rw [M.2.1.2.2.2.2, M.1.2.2.2.1]) I
    rw [if_neg y2, if_neg y2]
    by_cases y3 : a1 = 3
    · rw [if_pos y3, if_pos y3]; exact SimE.mk' rfl rfl (by rw [M.2.1.1, M.1.1]) I
    rw [if_neg y3, if_neg y3]
    by_cases y4 : a1 = 4
    · rw [if_pos y4, if_pos y4]; exact SimE.mk' rfl rfl (by rw [M.2.1.2.2.1, M.1.2.1]) I
    rw [if_neg y4, if_neg y4]
    by_cases y5 : a1 = 5
    · rw [if_pos y5, if_pos y5, bd_id, bd_id]; exact SimE.mk' (s_withC M _) (s_withR M.1 _) rfl I
    rw [if_neg y5, if_neg y5]
    by_cases y6 : a1 = 6
    · rw [if_pos y6, if_pos y6, bd_id, bd_id]; exact SimE.mk' (s_withC M _) (s_withR M.1 _) rfl I
    rw [if_neg y6, if_neg y6]
    by_cases y7 : a1 = 7
    · rw [if_pos y7, if_pos y7]; exact SimE.mk' rfl rfl (by rw [l2, l3]) I
    rw [if_neg y7, if_neg y7]
    by_cases y8 : a1 = 8
    · rw [if_pos y8, if_pos y8]; exact SimE.mk' rfl rfl (by rw [n2, n3]) I
    rw [if_neg y8, if_neg y8]
    by_cases y9 : a1 ≤ 10
    · rw [if_pos y9]; exact SimE.mk' rfl rfl rfl I
    · rw [if_neg y9, if_pos]
      · exact SimE.mk' rfl rfl rfl I
      · rw [fa_lt, fa_lt] at h0
        rw [fa_le] at y9
        have := fb_rng a1
        rw [fa_le, fb_subI (by omega) (by omega)]
        omega
  · rw [if_neg h0, i_10]
    rw [fa_lt, fa_lt] at h0
    have hx : (a1 - 10).toInt = a1.toInt - 10 := fb_subI (by omega) (by omega)
    obtain ⟨k, hk, ek⟩ := nI_of2 (x := a1 - 10) (M := 6) (n := 6) rfl (by rw [fa_lt, hx]; have : (0 : Int32).toInt = 0 := rfl; omega) (by rw [fa_le, hx]; have : (6 : Int32).toInt = 6 := rfl; omega)
    have nn : ∀ m : Int32, m.toInt ≤ 10 → ¬ a1 = m := fun m hm e => by rw [e] at h0; omega
    rw [if_neg (nn 0 (by decide)), if_neg (nn 1 (by decide)), if_neg (nn 2 (by decide)), if_neg (nn 3 (by decide)), if_neg (nn 4 (by decide)), if_neg (nn 5 (by decide)), if_neg (nn 6 (by decide)), if_neg (nn 7 (by decide)), if_neg (nn 8 (by decide)), if_neg (by rw [fa_le]; omega), if_neg (by rw [fa_le, hx]; omega), ek, ck_nI _ (by omega) (by decide), ck_nI _ (by omega) (by decide), nI_clamp (by omega)]
    exact SimE.mk' rfl rfl (hRF k (by omega)) I
end
section
/-! NEEDS, FOULED, RANKS -/
section NE
variable {S G N T j : Nat} {c r : AH}
/-- enough for a place: the reference's question -/
theorem s_enough (h1 : RN r S G N T) (hj : j < N) {v : Int32} (hv : 0 ≤ v.toInt) (n : Int32) : ∃ r', X11_isEnough (nI j) v n r = some (if n ≤ nI (rk (ad (BR r T) j v) N j) then 0 else 1, r') ∧ FT r r' := by
  have hN := h1.2.2.2.2.2.2.1
  obtain ⟨ra, a1, a2, a3⟩ := m_bestR h1 (Nat.le_refl T)
  obtain ⟨rb, b1, b2, b3⟩ := s_cl (by omega : j < 4) a2 v
  have bp : BP (ad (BR r T) j v) := bp_ad (BR_p r T) hv
  have e15 : rb.1 0 15 = r.1 0 15 := by rw [b3.1 0 15 (by decide) (by decide), a3.1 0 15 (by decide) (by decide)]
  obtain ⟨rc, d1, d2, d3⟩ := m_sorts h1 bp b2 e15
  have f : FT r rc := (FT.B (a3.tr b3)).tr (FT.O d2)
  have e15c : rc.1 0 15 = nI N := by rw [f.1 0 15 (by decide) (by decide) (by decide)]; exact h1.2.2.1
  refine ⟨rc, ?_, f⟩
  unfold X11_isEnough
  rw [h1.2.2.2.1, a1, bd_s, b1, bd_s, d1, bd_s, s_rankOf hN e15c bp d3 hj, bd_s]
  split
  · rw [cz_0]
  · rw [cz_1]
theorem l_needs (M : MR 42 c r S G N T) {c' : AH} (hj : j < N) (R : RKC c' (BR r T)) (e5 : c'.1 5 0 = nI N) {n a2 : Int32} (hn : n = if a2 = 0 then 1 else nI (min G N)) : ∀ (f v : Nat) (rt : AH), 1000 < v + f → v ≤ 1000 → FT r rt → ∃ x r', X10_leastFor_l2 (nI j) n f (nI v) c' = some (x, c') ∧ X11_needs_l41 (nI j) a2 f (nI v) rt = some (x, r') ∧ FT r r' := by
  have hN := M.1.2.2.2.2.2.2.1
  have hG := M.1.2.2.2.2.2.1
  intro f
  induction f with
  | zero => intro v rt h1 h2; omega
  | succ f ih =>
    intro v rt h1 h2 q
    have Rt := RN_c (RA.FT q) M.1
    rw [X10_leastFor_l2.eq_2, X11_needs_l41.eq_2]
    by_cases z : v = 1000
    · subst z
      rw [if_pos (show (999 : Int32) < nI 1000 by decide), if_pos (show (1000 : Int32) ≤ nI 1000 by decide)]
      exact ⟨_, rt, rfl, rfl, q⟩
    · have hv : 0 ≤ (nI v).toInt := by rw [toInt_nI (by omega)]; omega
      rw [if_neg (show ¬ (999 : Int32) < nI v from nI_nlt (a := 999) (by omega) (by decide)), if_neg (show ¬ (1000 : Int32) ≤ nI v from nI_ge (b := 1000) (by omega) (by decide)), s_ahead hN hj (BR_p r T) hv R e5, bd_s]
      obtain ⟨r', a1, a2'⟩ := s_enough Rt hj hv n
      have eB : BR rt T = BR r T := BR_c (RA.FT q) (Nat.le_refl T)
      rw [eB] at a1
      have key : ∀ K : Int32 → AH → Option (Int32 × AH), (if a2 = 0 then X11_needs_j65 (nI j) a2 (nI v) K 1 (nI v) (nI j) rt else bd (X11_finalists rt) fun r5 h6 => X11_needs_j65 (nI j) a2 (nI v) K r5 (nI v) (nI j) h6) = bd (X11_isEnough (nI j) (nI v) n rt) fun r7 h8 => if r7 = 0 then K (nI v + 1) h8 else some (nI v, h8) := by
        intro K
        unfold X11_needs_j65
        by_cases y : a2 = 0
        · rw [if_pos y, hn, if_pos y]
          rfl
        · rw [if_neg y, hn, if_neg y, s_finR Rt.2.2.1 Rt.2.1 hN hG.2, bd_s]
          rfl
      rw [key, a1, bd_s]
      by_cases y : n ≤ nI (rk (ad (BR r T) j (nI v)) N j)
      · rw [if_pos y, if_pos y, i_0, vl_e, nI_1]
        exact ih (v + 1) r' (by omega) (by omega) (q.tr a2')
      · rw [if_neg y, if_neg y, i_10]
        exact ⟨_, r', rfl, rfl, q.tr a2'⟩
end NE
theorem o_needs {c r : AH} {a1 a2 : Int32} (I : Inv c r) : SimE (X10_needs a1 a2 c) (X11_needs a1 a2 r) Inv := by
  obtain ⟨⟨S, G, N, T, M⟩, hW, hL, hRow, hRF, hIM⟩ := id I
  have hN := M.1.2.2.2.2.2.2.1
  have hG := M.1.2.2.2.2.2.1
  have h24 := T24 M
  unfold X10_needs X11_needs X11_needs_j27
  rcases jm a1 hN with hz | ⟨j, hj, rfl⟩
  · rw [nb_n M.2.1.2.2.2.1 hz, bd_s, s_noSuch, bd_s, s_first, bd_s, ij_n M.1.2.2.1 hz, bd_s, i_0, i_1, i_1, i_1]
    exact rfs (x := -1) I (by decide)
  · rw [nb_y M.2.1.2.2.2.1 hN hj, bd_s, s_noSuch, bd_s, s_first, bd_s, ij_y M.1.2.2.1 hN hj, bd_s, i_10, i_0, s_isIn, bd_s]
    by_cases h0 : a2 < 0 ∨ 1 < a2
    · simp only [if_pos h0, i_2, i_0]
      exact rfs (x := -2) I (by decide)
    · simp only [if_neg h0, i_0, i_10, if_true]
      obtain ⟨c', b1, b2, b3, b4⟩ := m_rankC M (by decide) (n := T) (by omega)
      rw [Nat.min_self] at b2
      have M' := MR_c (T := T) (CA.FR (by decide) b3) M
      rw [M.2.1.2.2.2.2, b1, bd_s, s_finC M'.2.1.2.2.2.1 M'.2.1.2.2.1 hN hG.2, bd_s]
      obtain ⟨x, r', e1, e2, q⟩ := l_needs M hj b2 b4 (n := if a2 = 0 then 1 else nI (min G N)) (a2 := a2) rfl FU 0 r (by unfold FU; omega) (by omega) FT.rf
      refine SimE.mk' (v := x) (c2 := c') ?_ e2 rfl (Inv_f I (PC.FR b3) (fun _ _ _ => PR.FT q))
      rw [← e1]
      unfold X10_needs_j60 X10_leastFor
      rw [bd_id, bd_id]
      by_cases y : a2 = 0
      · rw [if_pos y, if_pos y]
        rfl
      · rw [if_neg y, if_neg y]
        rfl
section FO
variable {S G N T : Nat} {c r : AH}
theorem qm_n (r : AH) (a : Int32) : ∀ T, cN (fun t => decide ((r.1 10 t = a ∧ ¬ r.1 11 t = -8))) T + cN (fun t => decide ((r.1 10 t = a ∧ r.1 11 t = -8))) T = cN (fun t => decide (r.1 10 t = a)) T := by
  intro T
  induction T with
  | zero => rfl
  | succ T ih =>
    rw [cN_step, cN_step, cN_step]
    by_cases x : r.1 10 T = a
    · by_cases y : r.1 11 T = -8
      · rw [if_neg (show ¬ (r.1 10 T = a ∧ ¬ r.1 11 T = -8) from fun z => z.2 y), if_pos (show (r.1 10 T = a ∧ r.1 11 T = -8) from ⟨x, y⟩), if_pos x]; omega
      · rw [if_pos (show (r.1 10 T = a ∧ ¬ r.1 11 T = -8) from ⟨x, y⟩), if_neg (show ¬ (r.1 10 T = a ∧ r.1 11 T = -8) from fun z => y z.2), if_pos x]; omega
    · rw [if_neg (show ¬ (r.1 10 T = a ∧ ¬ r.1 11 T = -8) from fun z => x z.1), if_neg (show ¬ (r.1 10 T = a ∧ r.1 11 T = -8) from fun z => x z.1), if_neg x]; omega
theorem s_triesBy (R : RN r S G N T) (a b : Int32) : X11_triesBy a b r = some (nI (cN (fun t => decide (r.1 10 t = a ∧ r.1 11 t = b)) T), r) := by
  have hN := R.2.2.2.2.2.2.1
  have hT := R.2.2.2.2.2.2.2.1
  have key : ∀ (f t : Nat), T < t + f → t ≤ T → X11_triesBy_l5 a b f (nI (cN (fun t => decide (r.1 10 t = a ∧ r.1 11 t = b)) t)) (nI t) r = some (nI (cN (fun t => decide (r.1 10 t = a ∧ r.1 11 t = b)) T), r) := by
    intro f
    induction f with
    | zero => intro t h1 h2; omega
    | succ f ih =>
      intro t h1 h2
      rw [X11_triesBy_l5.eq_2, R.2.2.2.1]
      by_cases z : t = T
      · subst z
        rw [if_pos (Int32.le_refl _)]
      · have nx := ih (t + 1) (by omega) (by omega)
        rw [cN_step (fun t => r.1 10 t = a ∧ r.1 11 t = b)] at nx
        unfold X11_triesBy_j41 X11_triesBy_j42
        rw [if_neg (nI_ge (by omega) (by omega)), ck_nI _ (by omega) (by decide), ck_nI _ (by omega) (by decide), nI_clamp (by omega)]
        simp only [vl_e, nI_1, Int32.add_zero]
        by_cases x : r.1 10 t = a
        · rw [if_pos x]
          by_cases y : r.1 11 t = b
          · rw [if_pos ⟨x, y⟩] at nx
            rw [if_pos y]
            exact nx
          · rw [if_neg (fun z => y z.2)] at nx
            rw [if_neg y]
            exact nx
        · rw [if_neg (fun z => x z.1)] at nx
          rw [if_neg x]
          exact nx
  exact key FU 0 (by unfold FU; omega) (by omega)
theorem l_fouled (M : MR 42 c r S G N T) (a p : Int32) : ∀ (f t : Nat), T < t + f → t ≤ T → X10_fouled_l37 a p f (nI (cN (fun t => decide ((r.1 10 t = a ∧ r.1 11 t = -9))) t)) (nI (cN (fun t => decide ((r.1 10 t = a ∧ ¬ r.1 11 t = -8))) t)) (nI t) c = bd (X10_fraction (nI (cN (fun t => decide ((r.1 10 t = a ∧ r.1 11 t = -9))) T)).toInt64 (mx32 1 (nI (cN (fun t => decide ((r.1 10 t = a ∧ ¬ r.1 11 t = -8))) T))).toInt64 p c) fun r7 h8 => some (r7, h8) := by
  have h24 := T24 M
  intro f
  induction f with
  | zero => intro t h1 h2; omega
  | succ f ih =>
    intro t h1 h2
    rw [X10_fouled_l37.eq_2, M.2.1.2.2.2.2]
    by_cases z : t = T
    · subst z
      rw [if_pos (Int32.le_refl _)]
    · have nx := ih (t + 1) (by omega) (by omega)
      rw [cN_step (fun t => (r.1 10 t = a ∧ r.1 11 t = -9)), cN_step (fun t => (r.1 10 t = a ∧ ¬ r.1 11 t = -8))] at nx
      have e1 : c.1 44 t = r.1 10 t := (M.2.2.2 t (by omega)).1
      have e2 : c.1 46 t = r.1 11 t := (M.2.2.2 t (by omega)).2
      unfold X10_fouled_j103 X10_fouled_j106
      rw [if_neg (nI_ge (by omega) (by omega))]
      simp only [ck_nI _ (show t < 24 by omega) (show 24 < 2 ^ 31 by decide), nI_clamp (show t < 2 ^ 31 by omega), vl_e, nI_1, e1, e2, Int32.add_zero]
      by_cases x : r.1 10 t = a
      · rw [if_pos x]
        by_cases y : r.1 11 t = -8
        · rw [if_neg (show ¬ (r.1 10 t = a ∧ r.1 11 t = -9) from fun q => by have := q.2; rw [y] at this; exact absurd this (by decide)), if_neg (show ¬ (r.1 10 t = a ∧ ¬ r.1 11 t = -8) from fun q => q.2 y)] at nx
          rw [if_pos y]
          exact nx
        · rw [if_neg y]
          rw [if_pos (show (r.1 10 t = a ∧ ¬ r.1 11 t = -8) from ⟨x, y⟩)] at nx
          by_cases u : r.1 11 t = -9
          · rw [if_pos (show (r.1 10 t = a ∧ r.1 11 t = -9) from ⟨x, u⟩)] at nx
            rw [if_pos u]
            exact nx
          · rw [if_neg (show ¬ (r.1 10 t = a ∧ r.1 11 t = -9) from fun q => u q.2)] at nx
            rw [if_neg u]
            exact nx
      · rw [if_neg x]
        rw [if_neg (show ¬ (r.1 10 t = a ∧ r.1 11 t = -9) from fun q => x q.1), if_neg (show ¬ (r.1 10 t = a ∧ ¬ r.1 11 t = -8) from fun q => x q.1)] at nx
        exact nx
end FO
theorem nI_64 {n : Nat} (h : n < 2 ^ 31) : (nI n).toInt64 = lN n := by
  rw [fa_eq64, Int32.toInt_toInt64, toInt_nI h]
  exact (lN_toInt (by omega)).symm
theorem o_fouled {c r : AH} {a1 a2 : Int32} (I : Inv c r) : SimE (X10_fouled a1 a2 c) (X11_fouled a1 a2 r) Inv := by
  obtain ⟨⟨S, G, N, T, M⟩, hW, hL, hRow, hRF, hIM⟩ := id I
  have hN := M.1.2.2.2.2.2.2.1
  have h24 := T24 M
  rcases jm a1 hN with hz | ⟨j, hj, rfl⟩
  · have e1 : X10_fouled a1 a2 c = some (4000000000000000000 - (-1 : Int32).toInt64, sI c 4 1 (c.1 4 1 + 1)) := by
      simp only [X10_fouled, nb_n M.2.1.2.2.2.1 hz, s_noPart, s_first, bd_s, i_1, rf_1]
    have e2 : X11_fouled a1 a2 r = some (4000000000000000000 - (-1 : Int32).toInt64, sI r 1 1 (r.1 1 1 + 1)) := by
      simp only [X11_fouled, ij_n M.1.2.2.1 hz, bd_s, i_0, ll_1, if_true]
    exact ⟨_, _, _, e1, e2, inv_ref I (by decide)⟩
  · by_cases h0 : a2 < 0 ∨ 1 < a2
    · have e1 : X10_fouled (nI j) a2 c = some (4000000000000000000 - (-2 : Int32).toInt64, sI c 4 2 (c.1 4 2 + 1)) := by
        simp only [X10_fouled, nb_y M.2.1.2.2.2.1 hN hj, s_noPart, s_first, bd_s, if_pos h0, i_0, i_2, rf_2, if_true]
      have e2 : X11_fouled (nI j) a2 r = some (4000000000000000000 - (-2 : Int32).toInt64, sI r 1 2 (r.1 1 2 + 1)) := by
        simp only [X11_fouled, ij_y M.1.2.2.1 hN hj, bd_s, i_10, s_isIn, if_pos h0, i_0, ll_2, if_true]
      exact ⟨_, _, _, e1, e2, inv_ref I (by decide)⟩
    · unfold X10_fouled X11_fouled
      rw [nb_y M.2.1.2.2.2.1 hN hj, bd_s, s_noPart, bd_s, s_first, bd_s, i_0, if_neg h0, i_0, ij_y M.1.2.2.1 hN hj, bd_s, i_10, s_isIn, if_neg h0, bd_s, i_10, s_triesOfR M.1, bd_s, s_triesBy M.1, bd_s, vl_e]
      have e1 := l_fouled M (nI j) a2 FU 0 (by unfold FU; omega) (Nat.zero_le _)
      have e1 : X10_fouled_l37 (nI j) a2 FU 0 0 0 c = _ := e1
      rw [e1, bd_id]
      have hq := qm_n r (nI j) T
      have hle := cN_le (fun t => decide (r.1 10 t = nI j)) T
      have hf : cN (fun t => decide ((r.1 10 t = nI j ∧ r.1 11 t = -9))) T ≤ cN (fun t => decide ((r.1 10 t = nI j ∧ ¬ r.1 11 t = -8))) T := cN_mono T (fun k _ hk => by
        have h := of_decide_eq_true hk
        exact decide_eq_true (show (r.1 10 k = nI j ∧ ¬ r.1 11 k = -8) from ⟨h.1, fun z => by have := h.2; rw [z] at this; exact absurd this (by decide)⟩))
      have en : cN (fun t => decide (r.1 10 t = nI j ∧ r.1 11 t = -8)) T = cN (fun t => decide ((r.1 10 t = nI j ∧ r.1 11 t = -8))) T := rfl
      have ef : cN (fun t => decide (r.1 10 t = nI j ∧ r.1 11 t = -9)) T = cN (fun t => decide ((r.1 10 t = nI j ∧ r.1 11 t = -9))) T := rfl
      rw [en, pk_sub (by omega), ← hq, Nat.add_sub_cancel]
      by_cases z : cN (fun t => decide ((r.1 10 t = nI j ∧ ¬ r.1 11 t = -8))) T = 0
      · have zf : cN (fun t => decide ((r.1 10 t = nI j ∧ r.1 11 t = -9))) T = 0 := by omega
        rw [z, zf, if_pos (by rfl)]
        have ex : X10_fraction (nI 0).toInt64 (mx32 1 (nI 0)).toInt64 a2 c = some (a2.toInt64, c) := by
          obtain ⟨v, b1, _⟩ := s_frac (A := 0) (B := 1) (by decide) (by decide) (by decide) a2
          have b1 := b1 c
          unfold X10_fraction at b1 ⊢
          have t0 : (0 : Int32).toInt = 0 := rfl
          have t1 : (1 : Int32).toInt = 1 := rfl
          have hk : a2 = 0 ∨ a2 = 1 := by
            rw [fa_lt, fa_lt] at h0
            rw [fa_eq, fa_eq]
            omega
          rcases hk with rfl | rfl <;> rfl
        exact SimE.mk' ex rfl rfl I
      · rw [if_neg (nI_ne0 (by omega) (by omega)), s_triesBy M.1, bd_s, bd_id, ef]
        have em : mx32 1 (nI (cN (fun t => decide ((r.1 10 t = nI j ∧ ¬ r.1 11 t = -8))) T)) = nI (cN (fun t => decide ((r.1 10 t = nI j ∧ ¬ r.1 11 t = -8))) T) := by
          have := mx_nI (a := 1) (b := cN (fun t => decide ((r.1 10 t = nI j ∧ ¬ r.1 11 t = -8))) T) (by decide) (by omega)
          rw [Nat.max_eq_right (by omega)] at this
          exact this
        rw [em, nI_64 (by omega), nI_64 (by omega)]
        obtain ⟨v, b1, b2⟩ := s_frac (A := cN (fun t => decide ((r.1 10 t = nI j ∧ r.1 11 t = -9))) T) (B := cN (fun t => decide ((r.1 10 t = nI j ∧ ¬ r.1 11 t = -8))) T) (by omega) (by omega) (by omega) a2
        exact SimE.mk' (b1 c) (b2 r) rfl I
end
section
/-! RANKS, SAFE, MAYSTILL, HALF -/
theorem s_atA {h : AH} {N : Nat} (hN : N ≤ 4) (e5 : h.1 5 0 = nI N) (p : Int32) : ∃ v, X6_at p h = some (v, h) := by
  have R : RKC h (fun i => h.1 6 i, fun i => h.1 7 i) := fun i _ => ⟨rfl, rfl⟩
  have hk : ∀ k, k < N → ∃ v, X6_ahead (nI k) 0 h = some (v, h) := by
    intro k hk
    unfold X6_ahead
    rw [if_neg (nI_pos (by omega)), e5, if_pos (nI_lt hk (by omega)), ck_nI _ (show k < 4 by omega) (by decide)]
    simp only [vl_e, ck_nI _ (show k < 4 by omega) (show 4 < 2 ^ 31 by decide)]
    exact ⟨_, s_aheadL hN (by omega) R e5 FU 0 (by unfold FU; omega) (Nat.zero_le _)⟩
  have key : ∀ (f k : Nat), N < k + f → k ≤ N → ∃ v, X6_at_l2 p f (nI k) h = some (v, h) := by
    intro f
    induction f with
    | zero => intro k h1 h2; omega
    | succ f ih =>
      intro k h1 h2
      rw [X6_at_l2.eq_2, e5]
      by_cases z : k = N
      · rw [if_pos (nI_le (by omega) (by omega))]
        exact ⟨_, rfl⟩
      · obtain ⟨v, ev⟩ := hk k (by omega)
        rw [if_neg (nI_ge (by omega) (by omega)), ev, bd_s]
        by_cases y : v = p
        · rw [if_pos y]; exact ⟨_, rfl⟩
        · rw [if_neg y, vl_e, nI_1]
          exact ih (k + 1) (by omega) (by omega)
  exact key FU 0 (by unfold FU; omega) (Nat.zero_le _)
theorem s_isAheadA {h : AH} {a b : Nat} (ha : a < 4) (hb : b < 4) : ∃ x, X11_isAhead (nI a) (nI b) h = some (x, h) := by
  unfold X11_isAhead
  simp only [ck_nI _ ha (show 4 < 2 ^ 31 by decide), ck_nI _ hb (show 4 < 2 ^ 31 by decide), cz_0, cz_1]
  split
  · split
    · split <;> exact ⟨_, rfl⟩
    · split <;> exact ⟨_, rfl⟩
  · split <;> exact ⟨_, rfl⟩
/-- any order: the reference's insertion ends -/
theorem s_sortsA {h : AH} {N : Nat} (hN : N ≤ 4) (eN : h.1 0 15 = nI N) : ∃ h', X11_sorts h = some ((), h') ∧ FO22 h h' := by
  have inner : ∀ (m : Nat) (K : Int32 → AH → Option (Unit × AH)), m < 4 → ∀ (f q : Nat) (g : AH), q < f → q ≤ m → FO22 h g → (∀ x, x ≤ m → x ≠ q → ∃ j, j < 4 ∧ g.1 22 x = nI j) → ∃ g', X11_sorts_l12 (nI m) K f (nI q) g = K (nI (m + 1)) g' ∧ FO22 h g' ∧ ∀ x, x ≤ m → ∃ j, j < 4 ∧ g'.1 22 x = nI j := by
    intro m K hm f
    induction f with
    | zero => intro q g h1; omega
    | succ f ih =>
      intro q g h1 h2 hF hO
      have fin : X11_sorts_j52 (nI m) (nI q) K g = K (nI (m + 1)) (sI g 22 q (nI m)) ∧ FO22 h (sI g 22 q (nI m)) ∧ ∀ x, x ≤ m → ∃ j, j < 4 ∧ (sI g 22 q (nI m)).1 22 x = nI j := by
        unfold X11_sorts_j52
        rw [ck_nI _ (by omega) (by decide), vl_e, vl_e, nI_1, nI_clamp (by omega)]
        refine ⟨rfl, ⟨fun o k ho => by rw [sI_n (by omega)]; exact hF.1 o k ho, hF.2⟩, fun x hx => ?_⟩
        rw [sI_at]
        by_cases y : x = q
        · rw [if_pos ⟨rfl, y⟩]; exact ⟨m, hm, rfl⟩
        · rw [if_neg (fun z => y z.2)]; exact hO x hx y
      rw [X11_sorts_l12.eq_2]
      by_cases z : q = 0
      · subst z
        rw [if_pos (show nI 0 ≤ 0 by decide)]
        exact ⟨_, fin⟩
      · have e1 : nI q - 1 = nI (q - 1) := pk_sub (a := q) (b := 1) (by omega)
        obtain ⟨j, hj, ej⟩ := hO (q - 1) (by omega) (by omega)
        obtain ⟨x, ex⟩ := s_isAheadA (h := g) hm hj
        rw [if_neg (nI_nle (by omega) (by omega)), e1, ck_nI _ (by omega) (by decide), nI_clamp (by omega), ej, ex, bd_s]
        by_cases y : x = 0
        · rw [if_pos y]
          exact ⟨_, fin⟩
        · rw [if_neg y, ck_nI _ (by omega) (by decide), ck_nI _ (by omega) (by decide), nI_clamp (by omega), vl_e, vl_e, m_one, pk_sub (by omega)]
          refine ih (q - 1) _ (by omega) (by omega) ⟨fun o k ho => by rw [sI_n (by omega)]; exact hF.1 o k ho, hF.2⟩ (fun x hx hq => ?_)
          rw [sI_at]
          by_cases u : x = q
          · rw [if_pos ⟨rfl, u⟩]; exact ⟨j, hj, ej⟩
          · rw [if_neg (fun z => u z.2)]; exact hO x hx u
  have outer : ∀ (f m : Nat) (g : AH), N < m + f → m ≤ N → FO22 h g → (∀ x, x < m → ∃ j, j < 4 ∧ g.1 22 x = nI j) → ∃ g', X11_sorts_l2 f (nI m) g = some ((), g') ∧ FO22 h g' := by
    intro f
    induction f with
    | zero => intro m g h1 h2; omega
    | succ f ih =>
      intro m g h1 h2 hF hO
      rw [X11_sorts_l2.eq_2, hF.1 0 15 (by decide), eN]
      by_cases z : m = N
      · rw [if_pos (nI_le (by omega) (by omega))]
        exact ⟨g, rfl, hF⟩
      · rw [if_neg (nI_ge (by omega) (by omega))]
        obtain ⟨g', a1, a2, a3⟩ := inner m (X11_sorts_l2 f) (by omega) FU m g (by unfold FU; omega) (Nat.le_refl _) hF (fun x hx hq => hO x (by omega))
        rw [a1]
        exact ih (m + 1) g' (by omega) (by omega) a2 (fun x hx => a3 x (by omega))
  exact outer FU 0 h (by unfold FU; omega) (Nat.zero_le _) ⟨fun _ _ _ => rfl, rfl⟩ (fun x hx => absurd hx (by omega))
theorem o_ranks {c r : AH} {a1 : Int32} (I : Inv c r) : SimA (X10_ranks a1 c) (X11_ranks a1 r) Inv := by
  obtain ⟨⟨S, G, N, T, M⟩, hW, hL, hRow, hRF, hIM⟩ := id I
  have hN := M.1.2.2.2.2.2.2.1
  have h24 := T24 M
  unfold X10_ranks X11_ranks
  rw [s_noSuch, s_isIn, bd_s, bd_s]
  by_cases h0 : a1 < 0 ∨ 2 < a1
  · rw [if_pos h0, if_pos h0, i_2, i_0]
    obtain ⟨v, c2, r2, e1, e2, e3⟩ := rfs (x := -2) I (by decide)
    exact ⟨v, c2, v, r2, e1, e2, e3⟩
  · rw [if_neg h0, if_neg h0, i_0, i_10]
    obtain ⟨c', B, b1, b2, b3, b4⟩ := m_rankA M (by decide) a1 (n := T) (by omega)
    obtain ⟨ra, d1, d2, d3⟩ := s_bestR (h := r) (n := T) a1 (by omega) (w := wR r) (fun t ht => ⟨by have := (RT_w M.1 (t := t) (by omega)).1; omega, (RT_w M.1 (by omega)).2⟩)
    obtain ⟨rb, f1, f2⟩ := s_sortsA (h := ra) hN (by rw [d3.1 0 15 (by decide) (by decide)]; exact M.1.2.2.1)
    have F := (FT.B d3).tr (FT.O f2)
    have e15 : rb.1 0 15 = nI N := by rw [F.1 0 15 (by decide) (by decide) (by decide)]; exact M.1.2.2.1
    have e3 : c'.1 42 3 = nI N := by rw [b3.1 42 3 (by decide) (by decide) (by decide)]; exact M.2.1.2.2.2.1
    have lC : ∀ (f k : Nat) (x : Int32), k < f → k ≤ 4 → ∃ v, X10_ranks_l48 f x (nI k - nI 1) c' = some (v, c') := by
      intro f
      induction f with
      | zero => intro k x h1; omega
      | succ f ih =>
        intro k x h1 h2
        rw [X10_ranks_l48.eq_2]
        by_cases z : k = 0
        · subst z
          rw [if_pos (show nI 0 - nI 1 < 0 by decide)]
          exact ⟨_, rfl⟩
        · obtain ⟨v, ev⟩ := s_atA hN b4 (nI (k - 1))
          rw [pk_sub (by omega), if_neg (nI_pos (by omega)), ev, bd_s, vl_e, vl_e, m_one]
          exact ih (k - 1) _ (by omega) (by omega)
    have lR : ∀ (f k : Nat) (x : Int32), k < f → k ≤ 4 → ∃ v, X11_ranks_l38 f x (nI k - nI 1) rb = some (v, rb) := by
      intro f
      induction f with
      | zero => intro k x h1; omega
      | succ f ih =>
        intro k x h1 h2
        rw [X11_ranks_l38.eq_2]
        by_cases z : k = 0
        · subst z
          rw [if_pos (show nI 0 - nI 1 < 0 by decide)]
          exact ⟨_, rfl⟩
        · rw [pk_sub (by omega), if_neg (nI_pos (by omega)), ck_nI _ (by omega) (by decide), vl_e, vl_e, m_one]
          exact ih (k - 1) _ (by omega) (by omega)
    obtain ⟨v, ev⟩ := lC FU N 0 (by unfold FU; omega) hN
    obtain ⟨u, eu⟩ := lR FU N 0 (by unfold FU; omega) hN
    refine ⟨v, c', u, rb, ?_, ?_, Inv_f I (PC.FR b3) (fun _ _ _ => PR.FT F)⟩
    · rw [M.2.1.2.2.2.2, b1, bd_s, e3, vl_e]
      exact ev
    · rw [M.1.2.2.2.1, d1, bd_s, f1, bd_s, e15, vl_e]
      exact eu
/-- one LENGTH more for each of the first n -/
def fo (B : BB) (x : Nat → Int32) : Nat → BB
  | 0 => B
  | n + 1 => ad (fo B x n) n (x n)
theorem fo_bp {B : BB} {x : Nat → Int32} (h : BP B) : ∀ n, (∀ k, k < n → 0 ≤ (x k).toInt) → BP (fo B x n) := by
  intro n
  induction n with
  | zero => intro _; exact h
  | succ n ih => intro hx; exact bp_ad (ih (fun k hk => hx k (by omega))) (hx n (by omega))
theorem ad_eq {B B' : BB} {j i : Nat} {v : Int32} (h1 : B.1 i = B'.1 i) (h2 : B.2 i = B'.2 i) : (ad B j v).1 i = (ad B' j v).1 i ∧ (ad B j v).2 i = (ad B' j v).2 i := by
  unfold ad
  by_cases z : i = j
  · subst z
    simp only [if_true, h1, h2]
    exact ⟨trivial, trivial⟩
  · simp only [if_neg z, h1, h2]
    exact ⟨trivial, trivial⟩
theorem ad_ne {B : BB} {j i : Nat} {v : Int32} (h : i ≠ j) : (ad B j v).1 i = B.1 i ∧ (ad B j v).2 i = B.2 i := by
  unfold ad
  simp only [if_neg h]
  exact ⟨trivial, trivial⟩
theorem fo_at {B : BB} {x : Nat → Int32} (i : Nat) : ∀ n, (n ≤ i → (fo B x n).1 i = B.1 i ∧ (fo B x n).2 i = B.2 i) ∧ (i < n → (fo B x n).1 i = (ad B i (x i)).1 i ∧ (fo B x n).2 i = (ad B i (x i)).2 i) := by
  intro n
  induction n with
  | zero => exact ⟨fun _ => ⟨rfl, rfl⟩, fun h => absurd h (by omega)⟩
  | succ n ih =>
    constructor
    · intro h
      have a := ad_ne (B := fo B x n) (j := n) (v := x n) (show i ≠ n by omega)
      have b := ih.1 (by omega)
      exact ⟨a.1.trans b.1, a.2.trans b.2⟩
    · intro h
      by_cases e : i = n
      · subst e
        have b := ih.1 (Nat.le_refl _)
        exact ad_eq (j := i) (v := x i) b.1 b.2
      · have a := ad_ne (B := fo B x n) (j := n) (v := x n) e
        have b := ih.2 (by omega)
        exact ⟨a.1.trans b.1, a.2.trans b.2⟩
/-- one left out, and put in later -/
theorem fo_j {B : BB} {x y : Nat → Int32} {N j : Nat} (hB : BP B) (hj : j < N) (h0 : x j = 0) (h : ∀ k, k ≠ j → x k = y k) : ad (fo B x N) j (y j) = fo B y N := by
  have key : ∀ i, (ad (fo B x N) j (y j)).1 i = (fo B y N).1 i ∧ (ad (fo B x N) j (y j)).2 i = (fo B y N).2 i := by
    intro i
    by_cases e : i = j
    · subst e
      have a := (fo_at (B := B) (x := x) i N).2 hj
      rw [h0, ad_0 hB] at a
      have b := ad_eq (j := i) (v := y i) a.1 a.2
      have d := (fo_at (B := B) (x := y) i N).2 hj
      exact ⟨b.1.trans d.1.symm, b.2.trans d.2.symm⟩
    · have a := ad_ne (B := fo B x N) (j := j) (v := y j) e
      by_cases z : i < N
      · have b := (fo_at (B := B) (x := x) i N).2 z
        have d := (fo_at (B := B) (x := y) i N).2 z
        rw [h i e] at b
        exact ⟨a.1.trans (b.1.trans d.1.symm), a.2.trans (b.2.trans d.2.symm)⟩
      · have b := (fo_at (B := B) (x := x) i N).1 (by omega)
        have d := (fo_at (B := B) (x := y) i N).1 (by omega)
        exact ⟨a.1.trans (b.1.trans d.1.symm), a.2.trans (b.2.trans d.2.symm)⟩
  exact Prod.ext (funext fun i => (key i).1) (funext fun i => (key i).2)
section SF
variable {S G N T j : Nat} {c r : AH}
/-- the LENGTH from the BOARD's middle, nothing lost -/
def fl (r : AH) (k : Nat) : Int32 := lenS (r.1 2 k) (r.1 3 k) (r.1 7 k) (r.1 0 14) 0 0
theorem fl_nn (R : RN r S G N T) {k : Nat} (hk : k < 4) : 0 ≤ (fl r k).toInt := by
  obtain ⟨κ, f, a, g, s, p, l, m, hκ, hf, ha, hg, hs, hpp, hl, hm, e1, e2, e3, e4, e5, e6, e7, e8⟩ := R.2.2.2.2.2.2.2.2.2.1 k hk
  exact (len_b (kd := r.1 2 k) hf hpp e2 e6 R.2.2.2.2.2.2.2.2.1 (by decide) (by decide) (by decide) (by decide)).1
theorem s_full (M : MR 42 c r S G N T) {k : Nat} (hk : k < 4) : X10_fullLength (nI k) c = some (fl r k, c) := by
  have hc : ∀ q, 1 ≤ q → q ≤ 8 → c.1 (48 + k) q = r.1 (q + 1) k := (M.2.2.1 k hk).1
  have hK : JK c (48 + k) := (M.2.2.1 k hk).2
  unfold X10_fullLength fl
  rw [s_at42 hk, bd_s, cs_in _ (zc42 hk), s_lenC hK, bd_s, hc 1 (by omega) (by omega), hc 2 (by omega) (by omega), hc 6 (by omega) (by omega), M.2.1.2.1]
def fx (r : AH) (j : Nat) (v : Int32) (k : Nat) : Int32 := if k = j then v else fl r k
theorem fx_nn (R : RN r S G N T) {v : Int32} (hv : 0 ≤ v.toInt) {k : Nat} (hk : k < 4) : 0 ≤ (fx r j v k).toInt := by
  unfold fx
  by_cases z : k = j
  · rw [if_pos z]; exact hv
  · rw [if_neg z]; exact fl_nn R hk
/-- the class: all others add theirs -/
theorem l_safeC (M : MR 42 c r S G N T) (hj : j < N) : ∀ (f k : Nat) (h : AH), N < k + f → k ≤ N → FR c h → RKC h (fo (BR r T) (fx r j 0) k) → h.1 5 0 = nI N → ∃ h', X10_safe_l37 (nI j) f (nI k) h = (bd (X10_leastFor (nI j) (nI (min G N)) h') fun r7 h8 => some (r7, h8)) ∧ FR c h' ∧ RKC h' (fo (BR r T) (fx r j 0) N) ∧ h'.1 5 0 = nI N := by
  have hN := M.1.2.2.2.2.2.2.1
  have hG := M.1.2.2.2.2.2.1
  intro f
  induction f with
  | zero => intro k h h1 h2; omega
  | succ f ih =>
    intro k h h1 h2 F R e5
    have Mh := MR_c (T := T) (CA.FR (by decide) F) M
    rw [X10_safe_l37.eq_2, Mh.2.1.2.2.2.1]
    by_cases z : k = N
    · subst z
      rw [if_pos (Int32.le_refl _), s_finC Mh.2.1.2.2.2.1 Mh.2.1.2.2.1 hN hG.2, bd_s]
      exact ⟨h, rfl, F, R, e5⟩
    · rw [if_neg (nI_ge (by omega) (by omega))]
      unfold X10_safe_j66
      by_cases y : k = j
      · rw [if_pos (by rw [y]), vl_e, nI_1]
        refine ih (k + 1) h (by omega) (by omega) F ?_ e5
        have e : fo (BR r T) (fx r j 0) (k + 1) = fo (BR r T) (fx r j 0) k := by
          show ad (fo (BR r T) (fx r j 0) k) k (fx r j 0 k) = _
          have e0 : fx r j 0 k = 0 := if_pos y
          rw [e0]
          exact ad_0 (fo_bp (BR_p r T) k (fun i hi => fx_nn M.1 (by decide) (by omega)))
        rw [e]
        exact R
      · rw [if_neg (fun q => y ((nI_eq (by omega) (by omega)).mp q)), s_full Mh (by omega), bd_s]
        obtain ⟨h', a1, a2, a3, a4⟩ := s_add (by omega : k < 4) R (fl r k)
        rw [a1, bd_s, vl_e, nI_1]
        refine ih (k + 1) h' (by omega) (by omega) (F.tr a3) ?_ (by rw [a4]; exact e5)
        show RKC h' (ad (fo (BR r T) (fx r j 0) k) k (fx r j 0 k))
        have e0 : fx r j 0 k = fl r k := if_neg y
        rw [e0]
        exact a2
/-- the reference: each of all comes, the one asked for with v -/
theorem l_safeR (R0 : RN r S G N T) (hj : j < N) {v : Nat} (hv : v < 1000) (K : Int32 → AH → Option (Int32 × AH)) : ∀ (f k : Nat) (h : AH), N < k + f → k ≤ N → FT r h → RKR h (fo (BR r T) (fx r j (nI v)) k) → ∃ h', X11_safe_l34 (nI j) (nI v) K f (nI k) h = (if nI (min G N) ≤ nI (rk (fo (BR r T) (fx r j (nI v)) N) N j) then K (nI (v + 1)) h' else some (nI v, h')) ∧ FT r h' := by
  have hN := R0.2.2.2.2.2.2.1
  have hG := R0.2.2.2.2.2.1
  intro f
  induction f with
  | zero => intro k h h1 h2; omega
  | succ f ih =>
    intro k h h1 h2 F R
    have Rh := RN_c (RA.FT F) R0
    have hvi : 0 ≤ (nI v).toInt := by rw [toInt_nI (by omega)]; omega
    rw [X11_safe_l34.eq_2, Rh.2.2.1]
    by_cases z : k = N
    · subst z
      have bp : BP (fo (BR r T) (fx r j (nI v)) k) := fo_bp (BR_p r T) k (fun i hi => fx_nn R0 hvi (by omega))
      obtain ⟨h', b1, b2, b3⟩ := s_sorts hN Rh.2.2.1 bp R
      have F' := F.tr (FT.O b2)
      have Rh' := RN_c (RA.FT F') R0
      rw [if_pos (Int32.le_refl _), b1, bd_s, s_rankOf hN Rh'.2.2.1 bp b3 hj, bd_s, s_finR Rh'.2.2.1 Rh'.2.1 hN hG.2, bd_s, vl_e, nI_1]
      exact ⟨h', rfl, F'⟩
    · rw [if_neg (nI_ge (by omega) (by omega))]
      unfold X11_safe_j60
      have go : ∀ y, y = fx r j (nI v) k → ∃ h', (bd (X11_comesLength (nI k) y h) fun _ h15 => vl (nI k + 1) fun x16 => X11_safe_l34 (nI j) (nI v) K f x16 h15) = (if nI (min G N) ≤ nI (rk (fo (BR r T) (fx r j (nI v)) N) N j) then K (nI (v + 1)) h' else some (nI v, h')) ∧ FT r h' := by
        intro y hy
        obtain ⟨h', a1, a2, a3⟩ := s_cl (by omega : k < 4) R y
        rw [a1, bd_s, vl_e, nI_1]
        refine ih (k + 1) h' (by omega) (by omega) (F.tr (FT.B a3)) ?_
        show RKR h' (ad (fo (BR r T) (fx r j (nI v)) k) k (fx r j (nI v) k))
        rw [← hy]
        exact a2
      by_cases y : k = j
      · rw [if_pos (by rw [y])]
        exact go (nI v) (by unfold fx; rw [if_pos y])
      · rw [if_neg (fun q => y ((nI_eq (by omega) (by omega)).mp q)), s_lenR (by omega : k < 4), bd_s]
        refine go _ ?_
        unfold fx fl
        rw [if_neg y, F.1 2 k (by decide) (by decide) (by decide), F.1 3 k (by decide) (by decide) (by decide), F.1 7 k (by decide) (by decide) (by decide), F.1 0 14 (by decide) (by decide) (by decide)]
theorem l_safe (R0 : RN r S G N T) (hj : j < N) {c' : AH} (R : RKC c' (fo (BR r T) (fx r j 0) N)) (e5 : c'.1 5 0 = nI N) : ∀ (f v : Nat) (rt : AH), 1000 < v + f → v ≤ 1000 → FT r rt → ∃ x r', X10_leastFor_l2 (nI j) (nI (min G N)) f (nI v) c' = some (x, c') ∧ X11_safe_l16 (nI j) f (nI v) rt = some (x, r') ∧ FT r r' := by
  have hN := R0.2.2.2.2.2.2.1
  intro f
  induction f with
  | zero => intro v rt h1 h2; omega
  | succ f ih =>
    intro v rt h1 h2 q
    have Rt := RN_c (RA.FT q) R0
    rw [X10_leastFor_l2.eq_2, X11_safe_l16.eq_2]
    by_cases z : v = 1000
    · subst z
      rw [if_pos (show (999 : Int32) < nI 1000 by decide), if_pos (show (1000 : Int32) ≤ nI 1000 by decide)]
      exact ⟨_, rt, rfl, rfl, q⟩
    · have hv : 0 ≤ (nI v).toInt := by rw [toInt_nI (by omega)]; omega
      have bp : BP (fo (BR r T) (fx r j 0) N) := fo_bp (BR_p r T) N (fun i hi => fx_nn R0 (by decide) (by omega))
      obtain ⟨ra, a1, a2, a3⟩ := m_bestR Rt (Nat.le_refl T)
      rw [BR_c (RA.FT q) (Nat.le_refl T)] at a2
      rw [if_neg (show ¬ (999 : Int32) < nI v from nI_nlt (a := 999) (by omega) (by decide)), if_neg (show ¬ (1000 : Int32) ≤ nI v from nI_ge (b := 1000) (by omega) (by decide)), s_ahead hN hj bp hv R e5, bd_s, Rt.2.2.2.1, a1, bd_s]
      obtain ⟨rb, b1, b2⟩ := l_safeR R0 hj (v := v) (by omega) (X11_safe_l16 (nI j) f) FU 0 ra (by unfold FU; omega) (Nat.zero_le _) (q.tr (FT.B a3)) a2
      have b1 : X11_safe_l34 (nI j) (nI v) (X11_safe_l16 (nI j) f) FU 0 ra = _ := b1
      have ej : ad (fo (BR r T) (fx r j 0) N) j (nI v) = fo (BR r T) (fx r j (nI v)) N := by
        have h := fo_j (B := BR r T) (x := fx r j 0) (y := fx r j (nI v)) (BR_p r T) hj (by unfold fx; rw [if_pos rfl]) (fun k hk => by unfold fx; rw [if_neg hk, if_neg hk])
        have e : fx r j (nI v) j = nI v := if_pos rfl
        rw [e] at h
        exact h
      rw [b1, ej]
      by_cases y : nI (min G N) ≤ nI (rk (fo (BR r T) (fx r j (nI v)) N) N j)
      · rw [if_pos y, if_pos y, vl_e, nI_1]
        exact ih (v + 1) rb (by omega) (by omega) b2
      · rw [if_neg y, if_neg y]
        exact ⟨_, rb, rfl, rfl, b2⟩
end SF
theorem o_safe {c r : AH} {a1 : Int32} (I : Inv c r) : SimE (X10_safe a1 c) (X11_safe a1 r) Inv := by
  obtain ⟨⟨S, G, N, T, M⟩, hW, hL, hRow, hRF, hIM⟩ := id I
  have hN := M.1.2.2.2.2.2.2.1
  have hG := M.1.2.2.2.2.2.1
  have h24 := T24 M
  unfold X10_safe X11_safe
  rcases jm a1 hN with hz | ⟨j, hj, rfl⟩
  · rw [nb_n M.2.1.2.2.2.1 hz, bd_s, ij_n M.1.2.2.1 hz, bd_s, i_0, i_1]
    exact rfs (x := -1) I (by decide)
  · rw [nb_y M.2.1.2.2.2.1 hN hj, bd_s, ij_y M.1.2.2.1 hN hj, bd_s, i_10, i_0]
    obtain ⟨c', b1, b2, b3, b4⟩ := m_rankC M (by decide) (n := T) (by omega)
    rw [Nat.min_self] at b2
    obtain ⟨c2, d1, d2, d3, d4⟩ := l_safeC M hj FU 0 c' (by unfold FU; omega) (Nat.zero_le _) b3 b2 b4
    have d1 : X10_safe_l37 (nI j) FU 0 c' = _ := d1
    rw [M.2.1.2.2.2.2, b1, bd_s, d1, bd_id]
    obtain ⟨x, r', e1, e2, q⟩ := l_safe M.1 hj d3 d4 FU 0 r (by unfold FU; omega) (by omega) FT.rf
    exact SimE.mk' e1 e2 rfl (Inv_f I (PC.FR d2) (fun _ _ _ => PR.FT q))
end
section
/-! MAYSTILL, HALF -/
section MS
variable {S G N T : Nat} {c r : AH}
theorem l_still (M : MR 42 c r S G N T) : ∀ (f k : Nat) (x : Int32) (h rt : AH), N < k + f → k ≤ N → FR c h → RKC h (BR r T) → h.1 5 0 = nI N → FT r rt → ∃ v r', X10_mayStill_l41 0 f x (nI k) h = some (v, h) ∧ X11_mayStill_l28 f x (nI k) rt = some (v, r') ∧ FT r r' := by
  have hN := M.1.2.2.2.2.2.2.1
  intro f
  induction f with
  | zero => intro k x h rt h1 h2; omega
  | succ f ih =>
    intro k x h rt h1 h2 F R e5 q
    have Mh := MR_c (T := T) (CA.FR (by decide) F) M
    have Rt := RN_c (RA.FT q) M.1
    rw [X10_mayStill_l41.eq_2, X11_mayStill_l28.eq_2, Mh.2.1.2.2.2.1, Rt.2.2.1]
    by_cases z : k = N
    · rw [if_pos (nI_le (by omega) (by omega)), if_pos (nI_le (by omega) (by omega))]
      exact ⟨x, rt, rfl, rfl, q⟩
    · have hk4 : k < 4 := by omega
      have hv := fl_nn M.1 hk4
      have el : lenS (rt.1 2 k) (rt.1 3 k) (rt.1 7 k) (rt.1 0 14) 0 0 = fl r k := by
        unfold fl
        rw [q.1 2 k (by decide) (by decide) (by decide), q.1 3 k (by decide) (by decide) (by decide), q.1 7 k (by decide) (by decide) (by decide), q.1 0 14 (by decide) (by decide) (by decide)]
      obtain ⟨r', a1, a2⟩ := s_enough Rt (by omega : k < N) hv 1
      rw [BR_c (RA.FT q) (Nat.le_refl T)] at a1
      rw [if_neg (nI_ge (by omega) (by omega)), if_neg (nI_ge (by omega) (by omega)), i_0, s_full Mh hk4, bd_s, s_lenR hk4, bd_s, el, a1, bd_s]
      unfold X10_mayStill_j70 X10_mayStill_j82 X11_mayStill_j60
      rw [s_ahead hN (by omega) (BR_p r T) hv R e5, bd_s]
      have hr : rk (ad (BR r T) k (fl r k)) N k < 4 := by have := rk_lt (B := ad (BR r T) k (fl r k)) (n := N) (j := k) (by omega); omega
      simp only [vl_e, nI_1]
      by_cases y : rk (ad (BR r T) k (fl r k)) N k = 0
      · have e1 : nI (rk (ad (BR r T) k (fl r k)) N k) = 0 := by rw [y]; rfl
        rw [if_pos e1, if_neg (show ¬ (1 : Int32) ≤ nI (rk (ad (BR r T) k (fl r k)) N k) by rw [e1]; decide), i_10]
        exact ih (k + 1) _ h r' (by omega) (by omega) F R e5 (q.tr a2)
      · rw [if_neg (show ¬ nI (rk (ad (BR r T) k (fl r k)) N k) = 0 from fun z => y ((nI_eq (b := 0) (by omega) (by decide)).mp z)), if_pos (show (1 : Int32) ≤ nI (rk (ad (BR r T) k (fl r k)) N k) from nI_le (a := 1) (by omega) (by omega)), i_0, Int32.or_zero]
        exact ih (k + 1) _ h r' (by omega) (by omega) F R e5 (q.tr a2)
/-- no turn left: the leader alone -/
theorem l_stillE (M : MR 42 c r S G N T) {h : AH} (F : FR c h) (R : RKC h (BR r T)) (e5 : h.1 5 0 = nI N) {j : Nat} (hj : j < N) (ej : rk (BR r T) N j = 0) : ∀ (f k : Nat), N < k + f → k ≤ N → X10_mayStill_l41 1 f (if j < k then shl32 1 (nI j) else 0) (nI k) h = some (shl32 1 (nI j), h) := by
  have hN := M.1.2.2.2.2.2.2.1
  have Mh := MR_c (T := T) (CA.FR (by decide) F) M
  intro f
  induction f with
  | zero => intro k h1 h2; omega
  | succ f ih =>
    intro k h1 h2
    rw [X10_mayStill_l41.eq_2, Mh.2.1.2.2.2.1]
    by_cases z : k = N
    · rw [if_pos (nI_le (by omega) (by omega)), if_pos (by omega)]
    · have z0 : (0 : Int32).toInt = 0 := rfl
      rw [if_neg (nI_ge (by omega) (by omega)), i_10]
      unfold X10_mayStill_j70 X10_mayStill_j82
      rw [s_ahead hN (by omega) (BR_p r T) (by rw [z0]; omega) R e5, bd_s, ad_0 (BR_p r T)]
      have hr : rk (BR r T) N k < 4 := by have := rk_lt (B := BR r T) (n := N) (j := k) (by omega); omega
      simp only [vl_e, nI_1]
      have nx := ih (k + 1) (by omega) (by omega)
      by_cases y : k = j
      · subst y
        rw [if_pos (by rw [ej]; rfl), if_neg (show ¬ k < k by omega)]
        rw [if_pos (by omega)] at nx
        have e0 : ∀ x : Int32, 0 ||| x = x := fun x => Int32.zero_or
        rw [e0]
        exact nx
      · rw [if_neg (show ¬ nI (rk (BR r T) N k) = 0 from fun q => y (rk_inj hN (by omega) hj (BR_p r T) (by rw [ej]; exact (nI_eq (b := 0) (by omega) (by decide)).mp q)))]
        by_cases u : j < k
        · rw [if_pos u]
          rw [if_pos (by omega)] at nx
          exact nx
        · rw [if_neg u]
          rw [if_neg (by omega)] at nx
          exact nx
end MS
theorem o_mayStill {c r : AH} (I : Inv c r) : SimE (X10_mayStill c) (X11_mayStill r) Inv := by
  obtain ⟨⟨S, G, N, T, M⟩, hW, hL, hRow, hRF, hIM⟩ := id I
  have hN := M.1.2.2.2.2.2.2.1
  have hG := M.1.2.2.2.2.2.1
  have hT := M.1.2.2.2.2.2.2.2.1
  have h24 := T24 M
  have hF := F_b M.1
  obtain ⟨c', b1, b2, b3, b4⟩ := m_rankC M (by decide) (n := T) (by omega)
  rw [Nat.min_self] at b2
  obtain ⟨lv, ra, a1, a2, a3⟩ := m_leadR M.1
  have Ra := RN_c (RA.FT a2) M.1
  obtain ⟨v, rb, d1, d2, d3⟩ := m_turnR Ra
  have F := a2.tr d2
  have hd := rd_6 (N := N) (F := min G N) (T := T) hN hF.1 hF.2.2 hT
  unfold X10_mayStill X11_mayStill X10_mayStill_j17
  rw [m_roundC M, bd_s, M.2.1.2.2.2.2, b1, bd_s, bd_s, a1, bd_s, d1, bd_s]
  rcases d3 with ⟨o1, rfl⟩ | ⟨o1, o2, i, rfl, o3⟩
  · rw [if_pos (by rw [hd.1.mpr o1]; rfl), if_neg (show ¬ (0 : Int32) ≤ -9 by decide)]
    rcases a3 with ⟨u1, rfl⟩ | ⟨j, u1, rfl, u2⟩
    · rw [if_neg (show ¬ (0 : Int32) ≤ -9 by decide)]
      subst u1
      refine SimE.mk' (v := 0) (c2 := c') ?_ rfl rfl (Inv_f I (PC.FR b3) (fun _ _ _ => PR.FT F))
      have e3 : c'.1 42 3 = nI 0 := by rw [b3.1 42 3 (by decide) (by decide) (by decide)]; exact M.2.1.2.2.2.1
      unfold FU
      rw [X10_mayStill_l41.eq_2, e3, if_pos (show nI 0 ≤ 0 by decide)]
    · rw [if_pos (nI_pos' (by omega))]
      have e := l_stillE M b3 b2 b4 u1 u2 FU 0 (by unfold FU; omega) (Nat.zero_le _)
      rw [if_neg (by omega)] at e
      exact SimE.mk' e rfl rfl (Inv_f I (PC.FR b3) (fun _ _ _ => PR.FT F))
  · have n6 : rd N (min G N) T ≠ 6 := fun z => by have := hd.1.mp z; omega
    have hi := o3.1
    rw [if_neg (show ¬ nI (rd N (min G N) T) = 6 from fun z => n6 ((nI_eq (b := 6) (by omega) (by decide)).mp z)), if_pos (nI_pos' (by omega))]
    obtain ⟨x, r', e1, e2, q⟩ := l_still M FU 0 0 c' rb (by unfold FU; omega) (Nat.zero_le _) b3 b2 b4 F
    exact SimE.mk' e1 e2 rfl (Inv_f I (PC.FR b3) (fun _ _ _ => PR.FT q))
/-! HALF: at most six tries a jumper -/
def pT (N F j ρ t : Nat) : Bool := decide ((t < 3 * N ∧ j = t % N) ∨ (3 * N ≤ t ∧ ρ = F - 1 - (t - 3 * N) % F))
theorem pT_6 : ∀ N, N < 5 → ∀ F, F < 5 → (1 ≤ F ∧ F ≤ N) → ∀ j, j < 4 → ∀ ρ, ρ < 4 → cN (pT N F j ρ) (3 * N + 3 * F) ≤ 6 := by decide +kernel
section HF
variable {S G N T j : Nat} {c r : AH}
theorem tries_6 (R : RN r S G N T) (hj : j < N) : cN (fun t => decide (r.1 10 t = nI j)) T ≤ 6 := by
  have hN := R.2.2.2.2.2.2.1
  have hG := R.2.2.2.2.2.1
  have hT := R.2.2.2.2.2.2.2.1
  have hr : rk (BR r (3 * N)) N j < 4 := by have := rk_lt (B := BR r (3 * N)) hj; omega
  have h1 : cN (fun t => decide (r.1 10 t = nI j)) T ≤ cN (pT N (min G N) j (rk (BR r (3 * N)) N j)) T := cN_mono T (fun t ht h => by
    have h := of_decide_eq_true h
    obtain ⟨-, w3⟩ := R.2.2.2.2.2.2.2.2.2.2 t ht
    have ew : wR r t = j := by unfold wR; rw [h, nI_clamp (by omega)]
    rw [ew] at w3
    exact decide_eq_true w3.2)
  have h2 := cN_le2 (pT N (min G N) j (rk (BR r (3 * N)) N j)) hT
  have h3 := pT_6 N (by omega) (min G N) (by omega) (by omega) j (by omega) _ hr
  omega
/-- what the class's list leaves alone, and the reference's -/
def C73 (c c' : AH) : Prop := (∀ o k, o ≠ 73 → c'.1 o k = c.1 o k) ∧ (∀ o, o ≠ 73 → c'.2.1 o = c.2.1 o) ∧ ∀ o, o ≠ 73 → c'.2.2 o = c.2.2 o
def R28 (r r' : AH) : Prop := (∀ o k, o ≠ 28 → r'.1 o k = r.1 o k) ∧ r'.2 = r.2
/-- one more LENGTH put in its place, on both sides -/
theorem l_ins {m : Nat} (hm : m < 6) (a t v : Int32) (K : Int32 → Int32 → AH → Option (Int32 × AH)) : ∀ (f q : Nat) (hc hr : AH), q < f → q ≤ m → C73 c hc → R28 r hr → (∀ x, x ≤ m → x ≠ q → hc.1 73 x = hr.1 28 x) → ∃ hc' hr', X10_insert_l2 73 6 v f (nI q) hc = some ((), hc') ∧ X11_half_l64 a (nI m) t v K f (nI q) hr = K (nI (m + 1)) (t + 1) hr' ∧ C73 c hc' ∧ R28 r hr' ∧ ∀ x, x < m + 1 → hc'.1 73 x = hr'.1 28 x := by
  intro f
  induction f with
  | zero => intro q hc hr h1; omega
  | succ f ih =>
    intro q hc hr h1 h2 F1 F2 E
    have wr : ∀ (y : Int32), C73 c (sI hc 73 q y) ∧ R28 r (sI hr 28 q y) := fun y => ⟨⟨fun o k ho => by rw [sI_n (by omega)]; exact F1.1 o k ho, F1.2⟩, ⟨fun o k ho => by rw [sI_n (by omega)]; exact F2.1 o k ho, F2.2⟩⟩
    have wq : ∀ (y : Int32) x, x ≤ m → (x ≠ q → hc.1 73 x = hr.1 28 x) → (sI hc 73 q y).1 73 x = (sI hr 28 q y).1 28 x := by
      intro y x hx hh
      rw [sI_at, sI_at]
      by_cases u : x = q
      · rw [if_pos ⟨rfl, u⟩, if_pos ⟨rfl, u⟩]
      · rw [if_neg (fun z => u z.2), if_neg (fun z => u z.2)]
        exact hh u
    have fin : ∃ hc' hr', (some ((), sI hc 73 q v) : Option (Unit × AH)) = some ((), hc') ∧ X11_half_j105 a (nI m) t v (nI q) K hr = K (nI (m + 1)) (t + 1) hr' ∧ C73 c hc' ∧ R28 r hr' ∧ ∀ x, x < m + 1 → hc'.1 73 x = hr'.1 28 x := by
      unfold X11_half_j105 X11_half_j117
      rw [ck_nI _ (by omega) (by decide), vl_e, vl_e, vl_e, nI_1, nI_clamp (by omega)]
      exact ⟨_, _, rfl, rfl, (wr v).1, (wr v).2, fun x hx => wq v x (by omega) (E x (by omega))⟩
    rw [X10_insert_l2.eq_2, X11_half_l64.eq_2]
    by_cases z : q = 0
    · rw [if_pos (show nI q ≤ 0 by rw [z]; decide), if_pos (show nI q ≤ 0 by rw [z]; decide), ck_nI _ (by omega) (by decide), vl_e, nI_clamp (by omega)]
      exact fin
    · have e1 : nI q - 1 = nI (q - 1) := pk_sub (a := q) (b := 1) (by omega)
      have eq := E (q - 1) (by omega) (by omega)
      rw [if_neg (nI_nle (by omega) (by omega)), if_neg (nI_nle (by omega) (by omega)), e1]
      simp only [ck_nI _ (show q - 1 < 6 by omega) (show 6 < 2 ^ 31 by decide), ck_nI _ (show q < 6 by omega) (show 6 < 2 ^ 31 by decide), nI_clamp (show q - 1 < 2 ^ 31 by omega), nI_clamp (show q < 2 ^ 31 by omega), eq, vl_e]
      by_cases y : hr.1 28 (q - 1) ≤ v
      · rw [if_pos y, if_pos y]
        exact fin
      · rw [if_neg y, if_neg y, m_one, pk_sub (by omega)]
        exact ih (q - 1) _ _ (by omega) (by omega) (wr _).1 (wr _).2 (fun x hx hq => wq _ x hx (fun u => E x hx u))
theorem mx_clp (x : Int32) : mx32 0 x = clp x := by
  have z : (0 : Int32).toInt = 0 := rfl
  unfold mx32 clp
  by_cases a : 0 < x
  · rw [if_pos a, if_pos (show (0 : Int32) ≤ x by rw [fa_lt] at a; rw [fa_le]; omega)]
  · rw [if_neg a]
    by_cases b : 0 ≤ x
    · rw [if_pos b]
      rw [fa_lt] at a
      rw [fa_le] at b
      rw [fa_eq]
      omega
    · rw [if_neg b]
theorem l_half (M : MR 42 c r S G N T) (hj : j < N) : ∀ (f t m : Nat) (hc hr : AH), T < t + f → t ≤ T → m ≤ cN (fun t => decide (r.1 10 t = nI j)) t → C73 c hc → R28 r hr → (∀ x, x < m → hc.1 73 x = hr.1 28 x) → ∃ v c' r', X10_half_l27 (nI j) f (nI m) (nI t) hc = some (v, c') ∧ X11_half_l18 (nI j) f (nI m) (nI t) hr = some (v, r') ∧ C73 c c' ∧ R28 r r' := by
  have h24 := T24 M
  have h6 := tries_6 M.1 hj
  intro f
  induction f with
  | zero => intro t m hc hr h1 h2; omega
  | succ f ih =>
    intro t m hc hr h1 h2 hm F1 F2 E
    have hmT := cN_le2 (fun t => decide (r.1 10 t = nI j)) h2
    rw [X10_half_l27.eq_2, X11_half_l18.eq_2, F1.1 42 4 (by decide), F2.1 0 16 (by decide), M.2.1.2.2.2.2, M.1.2.2.2.1]
    by_cases z : t = T
    · subst z
      rw [if_pos (Int32.le_refl _), if_pos (Int32.le_refl _)]
      by_cases y : m = 0
      · rw [if_pos (by rw [y]; rfl), if_pos (by rw [y]; rfl)]
        exact ⟨_, _, _, rfl, rfl, F1, F2⟩
      · have e1 : nI m - 1 = nI (m - 1) := pk_sub (a := m) (b := 1) (by omega)
        have e2 : nI (m - 1) / 2 = nI ((m - 1) / 2) := pk_div (a := m - 1) (d := 2) (by omega) (by omega) (by omega)
        rw [if_neg (nI_ne0 (by omega) (by omega)), if_neg (nI_ne0 (by omega) (by omega)), e1, e2, ck_nI _ (by omega) (by decide), ck_nI _ (by omega) (by decide), nI_clamp (by omega), E _ (by omega)]
        exact ⟨_, _, _, rfl, rfl, F1, F2⟩
    · have e1 : hc.1 44 t = r.1 10 t := by rw [F1.1 44 t (by decide)]; exact (M.2.2.2 t (by omega)).1
      have e2 : hc.1 46 t = r.1 11 t := by rw [F1.1 46 t (by decide)]; exact (M.2.2.2 t (by omega)).2
      have d1 : hr.1 10 t = r.1 10 t := F2.1 10 t (by decide)
      have d2 : hr.1 11 t = r.1 11 t := F2.1 11 t (by decide)
      have st := cN_step (fun t => r.1 10 t = nI j) t
      rw [if_neg (nI_ge (by omega) (by omega)), if_neg (nI_ge (by omega) (by omega))]
      simp only [ck_nI _ (show t < 24 by omega) (show 24 < 2 ^ 31 by decide), nI_clamp (show t < 2 ^ 31 by omega), e1, e2, d1, d2]
      have nx : ∀ hc hr, C73 c hc → R28 r hr → (∀ x, x < m → hc.1 73 x = hr.1 28 x) → ∃ v c' r', X10_half_j98 (nI j) (nI m) (nI t) (X10_half_l27 (nI j) f) hc = some (v, c') ∧ X11_half_j117 (nI j) (nI m) (nI t) (X11_half_l18 (nI j) f) hr = some (v, r') ∧ C73 c c' ∧ R28 r r' := by
        intro hc hr F1 F2 E
        unfold X10_half_j98 X11_half_j117
        rw [vl_e, vl_e, nI_1]
        exact ih (t + 1) m hc hr (by omega) (by omega) (by omega) F1 F2 E
      by_cases y : r.1 10 t = nI j
      · rw [if_pos y, if_pos y]
        rw [if_pos y] at st
        by_cases u : r.1 11 t = -8
        · rw [if_pos u, if_pos u]
          exact nx hc hr F1 F2 E
        · have hm6 : m < 6 := by
            have := cN_le2 (fun t => decide (r.1 10 t = nI j)) (show t + 1 ≤ T by omega)
            omega
          rw [if_neg u, if_neg u, if_neg (show ¬ (6 : Int32) ≤ nI m from nI_ge (b := 6) hm6 (by decide)), s_al0, bd_s, mx_clp]
          obtain ⟨hc', hr', a1, a2, a3, a4, a5⟩ := l_ins (c := c) (r := r) hm6 (nI j) (nI t) (clp (r.1 11 t)) (X11_half_l18 (nI j) f) FU m hc hr (by unfold FU; omega) (Nat.le_refl _) F1 F2 (fun x hx hq => E x (by omega))
          unfold X10_insert X10_half_j98
          rw [a1, bd_s, a2, vl_e, vl_e, nI_1, nI_1]
          exact ih (t + 1) (m + 1) hc' hr' (by omega) (by omega) (by omega) a3 a4 a5
      · rw [if_neg y, if_neg y]
        exact nx hc hr F1 F2 E
end HF
theorem o_half {c r : AH} {a1 : Int32} (I : Inv c r) : SimE (X10_half a1 c) (X11_half a1 r) Inv := by
  obtain ⟨⟨S, G, N, T, M⟩, hW, hL, hRow, hRF, hIM⟩ := id I
  have hN := M.1.2.2.2.2.2.2.1
  have h24 := T24 M
  unfold X10_half X11_half
  rcases jm a1 hN with hz | ⟨j, hj, rfl⟩
  · rw [nb_n M.2.1.2.2.2.1 hz, bd_s, ij_n M.1.2.2.1 hz, bd_s, i_0, i_1]
    exact rfs (x := -1) I (by decide)
  · rw [nb_y M.2.1.2.2.2.1 hN hj, bd_s, ij_y M.1.2.2.1 hN hj, bd_s, i_10, i_0, vl_e]
    have F0 : C73 c (zN c 73) := ⟨fun o k ho => by rw [zN_1, if_neg ho], fun o ho => by funext k; rw [zN_21, if_neg ho], fun o ho => by rw [zN_22, if_neg ho]⟩
    obtain ⟨v, c', r', e1, e2, f1, f2⟩ := l_half M hj FU 0 0 (zN c 73) r (by unfold FU; omega) (Nat.zero_le _) (Nat.zero_le _) F0 ⟨fun _ _ _ => rfl, rfl⟩ (fun x hx => absurd hx (by omega))
    refine SimE.mk' e1 e2 rfl (Inv_f I ⟨fun k _ => f1.1 0 k (by decide), fun o k h => f1.1 o k (by omega), fun o h => f1.2.2 o (by omega), fun o h1 h2 => f1.2.1 o (by omega)⟩ (fun T' _ _ => ⟨fun k _ => f2.1 0 k (by decide), fun o k h1 h2 => f2.1 o k (by omega), fun t _ => ⟨f2.1 10 t (by decide), f2.1 11 t (by decide)⟩, fun k => ⟨f2.1 13 k (by decide), f2.1 23 k (by decide)⟩, fun k _ => f2.1 17 k (by decide)⟩))
end
