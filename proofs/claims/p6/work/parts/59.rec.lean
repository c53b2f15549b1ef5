/-! A TRY PUT DOWN; tries counted -/
theorem s_at42 {j : Nat} (hj : j < 4) (h : AH) : X5_at 42 (nI j) h = some (48 + j, h) := s_at 42 hj h
theorem zc42 {j : Nat} (hj : j < 4) : ZC.1[48 + j]? = some (.inr 2) := zc_j (o := 42) (Or.inl rfl) hj
theorem s_putsTry {r : AH} {T : Nat} {res off : Int32} {a : Int32} (e : r.1 0 16 = nI T) (hT : T < 24) : X11_putsTry a res off r = some ((), sI (sI (sI (sI r 10 T a) 11 T res) 12 T off) 0 16 (nI (T + 1))) := by
  unfold X11_putsTry
  rw [e, ck_nI _ hT (by decide), vl_e, nI_clamp (by omega), sI_at, if_neg (by omega), e, ck_nI _ hT (by decide), vl_e, nI_clamp (by omega), sI_at, if_neg (by omega), sI_at, if_neg (by omega), e, ck_nI _ hT (by decide), vl_e, nI_clamp (by omega), sI_at, if_neg (by omega), sI_at, if_neg (by omega), sI_at, if_neg (by omega), e, vl_e, nI_1]
/-- what the class's record answers -/
def told (J : Nat → Int32) (wd b loss : Int32) : Int32 := if 0 ≤ b then lenS (J 1) (J 2) (J 6) wd b loss else b
theorem s_record {c : AH} {o T j : Nat} {b loss : Int32} (ho : o = 42 ∨ o = 52 ∨ o = 62) (hj : j < 4) (hk : JK c (o + 6 + j)) (e : c.1 o 4 = nI T) (hT : T < 24) :
    ∃ c', X5_record o (nI j) b loss c = some (told (c.1 (o + 6 + j)) (c.1 o 1) b loss, c') ∧ c'.2 = c.2 ∧ c'.1 o 4 = nI (T + 1) ∧ c'.1 (o + 2) T = nI j ∧ c'.1 (o + 4) T = told (c.1 (o + 6 + j)) (c.1 o 1) b loss ∧ ∀ p q, ¬ (p = o ∧ q = 4) → ¬ (p = o + 2 ∧ q = T) → ¬ (p = o + 4 ∧ q = T) → ¬ (p = o + 3 ∧ q = T) → ¬ (p = o + 5 ∧ q = T) → c'.1 p q = c.1 p q := by
  have key : ∀ s0 : Int32, ∃ c', X5_record_j31 o (nI j) b (o + 6 + j) s0 c = some (s0, c') ∧ c'.2 = c.2 ∧ c'.1 o 4 = nI (T + 1) ∧ c'.1 (o + 2) T = nI j ∧ c'.1 (o + 4) T = s0 ∧ ∀ p q, ¬ (p = o ∧ q = 4) → ¬ (p = o + 2 ∧ q = T) → ¬ (p = o + 4 ∧ q = T) → ¬ (p = o + 3 ∧ q = T) → ¬ (p = o + 5 ∧ q = T) → c'.1 p q = c.1 p q := by
    intro s0
    unfold X5_record_j31
    rw [e, if_neg (show ¬ (24 : Int32) ≤ nI T from nI_ge (b := 24) hT (by decide)), ck_nI _ hT (by decide), vl_e, nI_clamp (by omega), sI_at, if_neg (by omega), e, ck_nI _ hT (by decide), vl_e, nI_clamp (by omega), sI_at, if_neg (by omega), sI_at, if_neg (by omega), e, ck_nI _ hT (by decide), vl_e, nI_clamp (by omega)]
    obtain ⟨h8, e8⟩ : ∃ g, g = sI (sI (sI c (o + 2) T (nI j)) (o + 3) T b) (o + 4) T s0 := ⟨_, rfl⟩
    rw [← e8]
    have q : ∀ p k, h8.1 p k = if p = o + 4 ∧ k = T then s0 else if p = o + 3 ∧ k = T then b else if p = o + 2 ∧ k = T then nI j else c.1 p k := by
      intro p k
      rw [e8, sI_at, sI_at, sI_at]
    have h82 : h8.2 = c.2 := by rw [e8]; rfl
    have k8 : JK h8 (o + 6 + j) := by
      obtain ⟨κ, x, y, z⟩ := hk
      exact ⟨κ, x, by rw [h82]; exact y, by rw [q, if_neg (by omega), if_neg (by omega), if_neg (by omega)]; exact z⟩
    have e84 : h8.1 o 4 = nI T := by rw [q, if_neg (by omega), if_neg (by omega), if_neg (by omega)]; exact e
    rw [s_lenC k8, bd_s, e84, ck_nI _ hT (by decide), vl_e, nI_clamp (by omega), sI_at, if_neg (by omega), e84, vl_e, nI_1]
    refine ⟨_, rfl, h82, ?_, ?_, ?_, fun p k n1 n2 n3 n4 n5 => ?_⟩
    · rw [sI_at, if_pos ⟨rfl, rfl⟩]
    · rw [sI_at, if_neg (by omega), sI_at, if_neg (by omega), q, if_neg (by omega), if_neg (by omega), if_pos ⟨rfl, rfl⟩]
    · rw [sI_at, if_neg (by omega), sI_at, if_neg (by omega), q, if_pos ⟨rfl, rfl⟩]
    · rw [sI_at, if_neg n1, sI_at, if_neg n5, q, if_neg n3, if_neg n4, if_neg n2]
  unfold X5_record
  rw [s_at o hj, bd_s, cs_in _ (zc_j ho hj)]
  unfold told
  by_cases h : 0 ≤ b
  · rw [if_pos h, if_pos h, s_lenC hk, bd_s]
    exact key _
  · rw [if_neg h, if_neg h]
    exact key _
/-- a try put down on both sides -/
theorem m_rec {o S G N T j : Nat} {c c' r r' : AH} {res : Int32} (M : MR o c r S G N T) (hT : T < 3 * N + 3 * min G N) (hA : TA r N (min G N) T j) (hres : res = -9 ∨ res = -8 ∨ 0 ≤ res.toInt)
    (c1 : c'.2.2 = c.2.2) (c2 : c'.1 o 4 = nI (T + 1)) (c3 : c'.1 (o + 2) T = nI j) (c4 : c'.1 (o + 4) T = res) (c5 : ∀ p q, ¬ (p = o ∧ q = 4) → ¬ (p = o + 2 ∧ q = T) → ¬ (p = o + 4 ∧ q = T) → ¬ (p = o + 3 ∧ q = T) → ¬ (p = o + 5 ∧ q = T) → c'.1 p q = c.1 p q)
    (d2 : r'.1 0 16 = nI (T + 1)) (d3 : r'.1 10 T = nI j) (d4 : r'.1 11 T = res) (d5 : ∀ p q, ¬ (p = 0 ∧ q = 16) → ¬ (p = 10 ∧ q = T) → ¬ (p = 11 ∧ q = T) → ¬ (p = 12 ∧ q = T) → p ≤ 12 → r'.1 p q = r.1 p q) : MR o c' r' S G N (T + 1) := by
  obtain ⟨h1, h2, h3, h4⟩ := M
  obtain ⟨r1, r2, r3, r4, hS, hG, hN, hT', hW, hJ, hH⟩ := h1
  have hj := hA.1
  have eB : ∀ n, n ≤ T → BR r' n = BR r n := fun n hn => bst_c n (fun t ht => ⟨by unfold wR; rw [d5 10 t (by omega) (by omega) (by omega) (by omega) (by omega)], by unfold fR; rw [d5 11 t (by omega) (by omega) (by omega) (by omega) (by omega)]⟩)
  have eJ : ∀ i, i < 4 → ∀ k, 1 ≤ k → k ≤ 8 → RJ r' i k = RJ r i k := fun i hi k k1 k2 => d5 (k + 1) i (by omega) (by omega) (by omega) (by omega) (by omega)
  have eT : ∀ t i, t ≤ T → TA r N (min G N) t i → TA r' N (min G N) t i := by
    intro t i ht ha
    refine ⟨ha.1, ?_⟩
    rcases ha.2 with z | z
    · exact Or.inl z
    · exact Or.inr ⟨z.1, by rw [eB _ (by omega)]; exact z.2⟩
  refine ⟨⟨?_, ?_, ?_, d2, hS, hG, hN, by omega, ?_, fun i hi => ?_, fun t ht => ?_⟩, ⟨?_, ?_, ?_, ?_, c2⟩, fun i hi => ⟨fun k k1 k2 => ?_, ?_⟩, fun t ht => ?_⟩
  · rw [d5 0 12 (by omega) (by omega) (by omega) (by omega) (by omega)]; exact r1
  · rw [d5 0 13 (by omega) (by omega) (by omega) (by omega) (by omega)]; exact r2
  · rw [d5 0 15 (by omega) (by omega) (by omega) (by omega) (by omega)]; exact r3
  · rw [d5 0 14 (by omega) (by omega) (by omega) (by omega) (by omega)]; exact hW
  · exact NJ_J (fun k k1 k2 => (eJ i hi k k1 k2).symm) (hJ i hi)
  · by_cases z : t = T
    · subst z
      refine ⟨⟨⟨j, hj, d3⟩, by rw [d4]; exact hres⟩, ?_⟩
      have e : wR r' t = j := by unfold wR; rw [d3, nI_clamp (by omega)]
      rw [e]
      exact eT t j (Nat.le_refl t) hA
    · obtain ⟨⟨w1, w2⟩, w3⟩ := hH t (by omega)
      have e1 := d5 10 t (by omega) (by omega) (by omega) (by omega) (by omega)
      have e2 := d5 11 t (by omega) (by omega) (by omega) (by omega) (by omega)
      refine ⟨⟨by rw [e1]; exact w1, by rw [e2]; exact w2⟩, ?_⟩
      have e : wR r' t = wR r t := by unfold wR; rw [e1]
      rw [e]
      exact eT t _ (by omega) w3
  · rw [c5 o 0 (by omega) (by omega) (by omega) (by omega) (by omega)]; exact h2.1
  · rw [c5 o 1 (by omega) (by omega) (by omega) (by omega) (by omega), d5 0 14 (by omega) (by omega) (by omega) (by omega) (by omega)]; exact h2.2.1
  · rw [c5 o 2 (by omega) (by omega) (by omega) (by omega) (by omega)]; exact h2.2.2.1
  · rw [c5 o 3 (by omega) (by omega) (by omega) (by omega) (by omega)]; exact h2.2.2.2.1
  · rw [c5 _ k (by omega) (by omega) (by omega) (by omega) (by omega), eJ i hi k k1 k2]
    exact (h3 i hi).1 k k1 k2
  · obtain ⟨κ, x, y, z⟩ := (h3 i hi).2
    exact ⟨κ, x, by rw [c1]; exact y, by rw [c5 _ 1 (by omega) (by omega) (by omega) (by omega) (by omega)]; exact z⟩
  · by_cases z : t = T
    · subst z
      exact ⟨by rw [c3, d3], by rw [c4, d4]⟩
    · rw [c5 (o + 2) t (by omega) (by omega) (by omega) (by omega) (by omega), c5 (o + 4) t (by omega) (by omega) (by omega) (by omega) (by omega), d5 10 t (by omega) (by omega) (by omega) (by omega) (by omega), d5 11 t (by omega) (by omega) (by omega) (by omega) (by omega)]
      exact h4 t (by omega)
/-- the whole of it: the class records, the reference puts the same -/
theorem m_try {o S G N T j : Nat} {c r : AH} {b loss off : Int32} (M : MR o c r S G N T) (ho : o = 42 ∨ o = 52 ∨ o = 62) (hT : T < 3 * N + 3 * min G N) (hA : TA r N (min G N) T j) (hres : told (RJ r j) (r.1 0 14) b loss = -9 ∨ told (RJ r j) (r.1 0 14) b loss = -8 ∨ 0 ≤ (told (RJ r j) (r.1 0 14) b loss).toInt) :
    ∃ c' r', X5_record o (nI j) b loss c = some (told (RJ r j) (r.1 0 14) b loss, c') ∧ X11_putsTry (nI j) (told (RJ r j) (r.1 0 14) b loss) off r = some ((), r') ∧ MR o c' r' S G N (T + 1) ∧ c'.2 = c.2 ∧ r'.2 = r.2 ∧ (∀ p q, (p < o ∨ o + 6 ≤ p) → c'.1 p q = c.1 p q) ∧ (∀ p q, p ≠ 10 → p ≠ 11 → p ≠ 12 → ¬ (p = 0 ∧ q = 16) → r'.1 p q = r.1 p q) ∧ r'.1 11 T = told (RJ r j) (r.1 0 14) b loss ∧ r'.1 0 16 = nI (T + 1) ∧ ∀ t, t < T → r'.1 10 t = r.1 10 t ∧ r'.1 11 t = r.1 11 t := by
  have hN := M.1.2.2.2.2.2.2.1
  have hj := hA.1
  obtain ⟨hc, hk⟩ := M.2.2.1 j (by omega)
  have e0 : told (c.1 (o + 6 + j)) (c.1 o 1) b loss = told (RJ r j) (r.1 0 14) b loss := by
    unfold told
    rw [hc 1 (by omega) (by omega), hc 2 (by omega) (by omega), hc 6 (by omega) (by omega), M.2.1.2.1]
  obtain ⟨c', a1, a2, a3, a4, a5, a6⟩ := s_record (c := c) (o := o) (T := T) (b := b) (loss := loss) ho (by omega : j < 4) hk M.2.1.2.2.2.2 (by omega)
  rw [e0] at a1 a5
  have p1 := s_putsTry (r := r) (T := T) (res := told (RJ r j) (r.1 0 14) b loss) (off := off) (a := nI j) M.1.2.2.2.1 (by omega)
  refine ⟨c', _, a1, p1, ?_, a2, rfl, fun p q h => a6 p q (by omega) (by omega) (by omega) (by omega) (by omega), fun p q h1 h2 h3 h4 => ?_, ?_, ?_, fun t ht => ?_⟩
  · refine m_rec M hT hA hres (by rw [a2]) a3 a4 a5 a6 ?_ ?_ ?_ (fun p q h1 h2 h3 h4 _ => ?_)
    · rw [sI_at, if_pos ⟨rfl, rfl⟩]
    · rw [sI_at, if_neg (by omega), sI_at, if_neg (by omega), sI_at, if_neg (by omega), sI_at, if_pos ⟨rfl, rfl⟩]
    · rw [sI_at, if_neg (by omega), sI_at, if_neg (by omega), sI_at, if_pos ⟨rfl, rfl⟩]
    · rw [sI_at, if_neg h1, sI_at, if_neg h4, sI_at, if_neg h3, sI_at, if_neg h2]
  · rw [sI_at, if_neg h4, sI_at, if_neg (by omega), sI_at, if_neg (by omega), sI_at, if_neg (by omega)]
  · rw [sI_at, if_neg (by omega), sI_at, if_neg (by omega), sI_at, if_pos ⟨rfl, rfl⟩]
  · rw [sI_at, if_pos ⟨rfl, rfl⟩]
  · rw [sI_at, if_neg (by omega), sI_at, if_neg (by omega), sI_at, if_neg (by omega), sI_at, if_neg (by omega), sI_at, if_neg (by omega), sI_at, if_neg (by omega), sI_at, if_neg (by omega), sI_at, if_neg (by omega)]
    exact ⟨rfl, rfl⟩
/-- a LENGTH that is told is not below 0 -/
theorem told_nn {r : AH} {j : Nat} {b loss : Int32} (hJ : NJ (RJ r j)) (hw : WW (r.1 0 14)) (hb : 0 ≤ b.toInt) (hb2 : b.toInt ≤ 100000) (hl : 0 ≤ loss.toInt) (hl2 : loss.toInt ≤ 100000) : 0 ≤ (told (RJ r j) (r.1 0 14) b loss).toInt := by
  obtain ⟨κ, f, a, g, s, p, l, m, hκ, hf, ha, hg, hs, hpp, hl', hm, e1, e2, e3, e4, e5, e6, e7, e8⟩ := hJ
  have z0 : (0 : Int32).toInt = 0 := rfl
  unfold told
  rw [if_pos (by rw [fa_le, z0]; exact hb)]
  exact (len_b hf hpp e2 e6 hw hb hb2 hl hl2).1
/-- tries of one, counted -/
def nby (r : AH) (p : Nat → Bool) (n : Nat) : Int32 := nI (cN p n)
theorem s_triesOfC {o S G N T : Nat} {c r : AH} (M : MR o c r S G N T) (a : Int32) : X5_triesOf o a c = some (nI (cN (fun t => decide (r.1 10 t = a)) T), c) := by
  have hN := M.1.2.2.2.2.2.2.1
  have hT := M.1.2.2.2.2.2.2.2.1
  have key : ∀ (f t : Nat), T < t + f → t ≤ T → X5_triesOf_l4 o a f (nI (cN (fun t => decide (r.1 10 t = a)) t)) (nI t) c = some (nI (cN (fun t => decide (r.1 10 t = a)) T), c) := by
    intro f
    induction f with
    | zero => intro t h1 h2; omega
    | succ f ih =>
      intro t h1 h2
      rw [X5_triesOf_l4.eq_2, M.2.1.2.2.2.2]
      by_cases z : t = T
      · subst z
        rw [if_pos (Int32.le_refl _)]
      · have nx := ih (t + 1) (by omega) (by omega)
        have e : cN (fun t => decide (r.1 10 t = a)) (t + 1) = cN (fun t => decide (r.1 10 t = a)) t + (if r.1 10 t = a then 1 else 0) := by
          show cN _ t + (if decide (r.1 10 t = a) = true then 1 else 0) = _
          by_cases y : r.1 10 t = a
          · rw [if_pos y, if_pos (decide_eq_true y)]
          · rw [if_neg y, if_neg (by rw [decide_eq_false y]; decide)]
        rw [if_neg (nI_ge (by omega) (by omega)), ck_nI _ (by omega) (by decide), nI_clamp (by omega), (M.2.2.2 t (by omega)).1]
        unfold X5_triesOf_j28
        rw [e] at nx
        by_cases y : r.1 10 t = a
        · rw [if_pos y] at nx ⊢
          rw [vl_e, vl_e, nI_1, nI_1]
          exact nx
        · rw [if_neg y] at nx ⊢
          rw [vl_e, vl_e, nI_1, Int32.add_zero]
          exact nx
  exact key FU 0 (by unfold FU; omega) (by omega)
theorem s_triesOfR {S G N T : Nat} {r : AH} (R : RN r S G N T) (a : Int32) : X11_triesOf a r = some (nI (cN (fun t => decide (r.1 10 t = a)) T), r) := by
  have hN := R.2.2.2.2.2.2.1
  have hT := R.2.2.2.2.2.2.2.1
  have key : ∀ (f t : Nat), T < t + f → t ≤ T → X11_triesOf_l4 a f (nI (cN (fun t => decide (r.1 10 t = a)) t)) (nI t) r = some (nI (cN (fun t => decide (r.1 10 t = a)) T), r) := by
    intro f
    induction f with
    | zero => intro t h1 h2; omega
    | succ f ih =>
      intro t h1 h2
      rw [X11_triesOf_l4.eq_2, R.2.2.2.1]
      by_cases z : t = T
      · subst z
        rw [if_pos (Int32.le_refl _)]
      · have nx := ih (t + 1) (by omega) (by omega)
        have e : cN (fun t => decide (r.1 10 t = a)) (t + 1) = cN (fun t => decide (r.1 10 t = a)) t + (if r.1 10 t = a then 1 else 0) := by
          show cN _ t + (if decide (r.1 10 t = a) = true then 1 else 0) = _
          by_cases y : r.1 10 t = a
          · rw [if_pos y, if_pos (decide_eq_true y)]
          · rw [if_neg y, if_neg (by rw [decide_eq_false y]; decide)]
        rw [if_neg (nI_ge (by omega) (by omega)), ck_nI _ (by omega) (by decide), nI_clamp (by omega)]
        unfold X11_triesOf_j28
        rw [e] at nx
        by_cases y : r.1 10 t = a
        · rw [if_pos y] at nx ⊢
          rw [vl_e, vl_e, nI_1, nI_1]
          exact nx
        · rw [if_neg y] at nx ⊢
          rw [vl_e, vl_e, nI_1, Int32.add_zero]
          exact nx
  exact key FU 0 (by unfold FU; omega) (by omega)
