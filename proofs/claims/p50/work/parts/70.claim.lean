section
/-! LETTERS AND NUMBERS -/
def numS (l : Nat → Int32) (p : Nat) : Nat → Int32
  | 0 => 0
  | n + 1 => 10 * numS l p n + l (p + n) - 48
def gd (l : Nat → Int32) (L p : Nat) : Prop := p < L ∧ 48 ≤ (l p).toInt ∧ (l p).toInt ≤ 57
def DG (l : Nat → Int32) (L p n : Nat) : Prop := ∀ i, i < n → gd l L (p + i)
theorem DG.sub {l : Nat → Int32} {L p n m : Nat} (h : DG l L p n) (hm : m ≤ n) : DG l L p m := fun i hi => h i (by omega)
theorem DG.at {l : Nat → Int32} {L p n k m : Nat} (h : DG l L p n) (hm : k + m ≤ n) : DG l L (p + k) m := fun i hi => by
  have := h (k + i) (by omega)
  rw [← Nat.add_assoc] at this
  exact this
theorem DG.app {l : Nat → Int32} {L p n m : Nat} (h : DG l L p n) (h2 : DG l L (p + n) m) : DG l L p (n + m) := fun i hi => by
  by_cases z : i < n
  · exact h i z
  · have := h2 (i - n) (by omega)
    have e : p + n + (i - n) = p + i := by omega
    rw [e] at this
    exact this
/-- a number of n digits -/
theorem num_b {l : Nat → Int32} {L p : Nat} : ∀ n, n ≤ 4 → DG l L p n → ∃ x, x < 10 ^ n ∧ numS l p n = nI x := by
  intro n
  induction n with
  | zero => intro _ _; exact ⟨0, by decide, rfl⟩
  | succ n ih =>
    intro hn h
    obtain ⟨x, hx, e⟩ := ih (by omega) (h.sub (by omega))
    obtain ⟨h1, h2, h3⟩ := h n (by omega)
    have hp : 10 ^ n ≤ 10 ^ 3 := Nat.pow_le_pow_right (by decide) (by omega)
    have e2 : 10 ^ (n + 1) = 10 * 10 ^ n := by rw [Nat.pow_succ, Nat.mul_comm]
    obtain ⟨d, hd⟩ : ∃ d : Nat, (d : Int) = (l (p + n)).toInt - 48 := ⟨((l (p + n)).toInt - 48).toNat, by omega⟩
    refine ⟨10 * x + d, by omega, ?_⟩
    show 10 * numS l p n + l (p + n) - 48 = _
    have e3 : (10 : Int32) * nI x = nI (10 * x) := pk_mul 10 x
    have t48 : (48 : Int32).toInt = 48 := rfl
    have tx : (nI (10 * x)).toInt = (10 * x : Nat) := toInt_nI (by omega)
    have ts : (nI (10 * x) + l (p + n)).toInt = (10 * x : Nat) + (l (p + n)).toInt := by rw [fb_addI (by omega) (by omega), tx]
    rw [e, e3, fa_eq, fb_subI (by omega) (by omega), ts, t48, toInt_nI (by omega)]
    omega
section LE
variable {l : Nat → Int32} {L : Nat} {c r : AH}
/-- the class's number -/
theorem s_numC (hL : L ≤ 96) (e : c.1 0 6 = nI L) (hl : ∀ k, k < L → c.1 2 k = l k) {p n : Nat} (hp : p + n ≤ L) : X10_number (nI p) (nI n) c = some (numS l p n, c) := by
  have key : ∀ (f t : Nat), n < t + f → t ≤ n → X10_number_l5 (nI p) (nI n) f (numS l p t) (nI (p + t)) c = some (numS l p n, c) := by
    intro f
    induction f with
    | zero => intro t h1 h2; omega
    | succ f ih =>
      intro t h1 h2
      rw [X10_number_l5.eq_2, nI_add, e]
      by_cases z : t = n
      · subst z
        rw [if_pos (Int32.le_refl _)]
      · rw [if_neg (nI_ge (by omega) (by omega)), if_neg (nI_ge (by omega) (by omega)), ck_nI _ (by omega) (by decide), nI_clamp (by omega), hl _ (by omega), vl_e, vl_e, nI_1]
        exact ih (t + 1) (by omega) (by omega)
  have h := key FU 0 (by unfold FU; omega) (Nat.zero_le _)
  exact h
theorem s_next (hL : L ≤ 96) (e : r.1 0 21 = nI L) (hl : ∀ k, k < L → r.1 13 k = l k) {p : Nat} (hp : p ≤ L) (e2 : r.1 0 22 = nI p) : X11_next r = some (if p < L then l p else -1, r) := by
  unfold X11_next
  rw [e, e2]
  by_cases z : p < L
  · rw [if_neg (nI_ge z (by omega)), if_pos z, ck_nI _ (by omega) (by decide), nI_clamp (by omega), hl p z]
  · rw [if_pos (nI_le (by omega) (by omega)), if_neg z]
/-- what reading touches -/
def GF (r r' : AH) : Prop := (∀ o k, o ≠ 14 → o ≠ 15 → o ≠ 16 → ¬ (o = 0 ∧ (k = 22 ∨ k = 23)) → r'.1 o k = r.1 o k) ∧ r'.2 = r.2
theorem GF.rf {r : AH} : GF r r := ⟨fun _ _ _ _ _ _ => rfl, rfl⟩
theorem GF.tr {r r' r2 : AH} (a : GF r r') (b : GF r' r2) : GF r r2 := ⟨fun o k h1 h2 h3 h4 => (b.1 o k h1 h2 h3 h4).trans (a.1 o k h1 h2 h3 h4), b.2.trans a.2⟩
/-- reading digits: all of them, or up to the first bad letter -/
def RD (l : Nat → Int32) (L : Nat) (r : AH) (q n a w : Nat) (F : Option (Int32 × AH)) : Prop :=
  (∃ r', F = some (1, r') ∧ DG l L q n ∧ r'.1 0 22 = nI (q + n) ∧ (∀ o k, ¬ (o = 0 ∧ k = 22) → ¬ (o = 16 ∧ a ≤ k ∧ k < a + w) → r'.1 o k = r.1 o k) ∧ r'.2 = r.2) ∨
  (∃ r' m, F = some (0, r') ∧ m < n ∧ DG l L q m ∧ ¬ gd l L (q + m) ∧ r'.1 0 22 = nI (q + m) ∧ (∀ o k, ¬ (o = 0 ∧ k = 22) → ¬ (o = 16 ∧ a ≤ k ∧ k < a + w) → r'.1 o k = r.1 o k) ∧ r'.2 = r.2)
theorem s_rd (hL : L ≤ 96) (e : r.1 0 21 = nI L) (hl : ∀ k, k < L → r.1 13 k = l k) {q n a : Nat} (ha : a < 384) (hq : q ≤ L) (hn : n ≤ 4) (e2 : r.1 0 22 = nI q) :
    (∃ r', X11_readsDigits (nI a) (nI n) r = some (1, r') ∧ DG l L q n ∧ r'.1 0 22 = nI (q + n) ∧ r'.1 16 a = numS l q n ∧ (∀ o k, ¬ (o = 0 ∧ k = 22) → ¬ (o = 16 ∧ k = a) → r'.1 o k = r.1 o k) ∧ r'.2 = r.2) ∨
    (∃ r' m, X11_readsDigits (nI a) (nI n) r = some (0, r') ∧ m < n ∧ DG l L q m ∧ ¬ gd l L (q + m) ∧ r'.1 0 22 = nI (q + m) ∧ (∀ o k, ¬ (o = 0 ∧ k = 22) → ¬ (o = 16 ∧ k = a) → r'.1 o k = r.1 o k) ∧ r'.2 = r.2) := by
  have t48 : (48 : Int32).toInt = 48 := rfl
  have t57 : (57 : Int32).toInt = 57 := rfl
  have key : ∀ (f t : Nat) (g : AH), n < t + f → t ≤ n → DG l L q t → g.1 0 22 = nI (q + t) → (∀ o k, ¬ (o = 0 ∧ k = 22) → g.1 o k = r.1 o k) → g.2 = r.2 →
    (∃ r', X11_readsDigits_l5 (nI a) (nI n) f (numS l q t) (nI t) g = some (1, r') ∧ DG l L q n ∧ r'.1 0 22 = nI (q + n) ∧ r'.1 16 a = numS l q n ∧ (∀ o k, ¬ (o = 0 ∧ k = 22) → ¬ (o = 16 ∧ k = a) → r'.1 o k = r.1 o k) ∧ r'.2 = r.2) ∨
    (∃ r' m, X11_readsDigits_l5 (nI a) (nI n) f (numS l q t) (nI t) g = some (0, r') ∧ m < n ∧ DG l L q m ∧ ¬ gd l L (q + m) ∧ r'.1 0 22 = nI (q + m) ∧ (∀ o k, ¬ (o = 0 ∧ k = 22) → ¬ (o = 16 ∧ k = a) → r'.1 o k = r.1 o k) ∧ r'.2 = r.2) := by
    intro f
    induction f with
    | zero => intro t g h1 h2; omega
    | succ f ih =>
      intro t g h1 h2 hD h22 F F2
      rw [X11_readsDigits_l5.eq_2]
      by_cases z : t = n
      · subst z
        rw [if_pos (Int32.le_refl _), ck_nI _ ha (by decide), vl_e, cz_1, nI_clamp (by omega)]
        exact Or.inl ⟨_, rfl, hD, by rw [sI_n (by omega)]; exact h22, by rw [sI_y], fun o k h1 h2 => by rw [sI_n h2]; exact F o k h1, F2⟩
      · have hqt : q + t ≤ L := by
          by_cases y : t = 0
          · omega
          · have := (hD (t - 1) (by omega)).1; omega
        have hn := s_next (l := l) (r := g) hL (by rw [F 0 21 (by omega)]; exact e) (fun k hk => by rw [F 13 k (by omega)]; exact hl k hk) hqt h22
        rw [if_neg (nI_ge (by omega) (by omega)), hn, bd_s, s_isIn, bd_s]
        by_cases y : gd l L (q + t)
        · have hz : ¬ (l (q + t) < 48 ∨ 57 < l (q + t)) := by rw [fa_lt, fa_lt]; have := y.2; omega
          rw [if_pos y.1, if_neg hz, i_10, hn, bd_s, if_pos y.1, vl_e, vl_e, h22, vl_e, nI_1, nI_1]
          have D1 : DG l L q (t + 1) := fun i hi => by
            by_cases d : i = t
            · rw [d]; exact y
            · exact hD i (by omega)
          exact ih (t + 1) _ (by omega) (by omega) D1 (by rw [sI_y]; rfl) (fun o k h => by rw [sI_n h]; exact F o k h) F2
        · have hz : ((if q + t < L then l (q + t) else -1) < 48 ∨ 57 < (if q + t < L then l (q + t) else -1)) := by
            by_cases d : q + t < L
            · rw [if_pos d, fa_lt, fa_lt, t48, t57]
              by_cases u : (l (q + t)).toInt < 48
              · exact Or.inl u
              · refine Or.inr ?_
                by_cases v : 57 < (l (q + t)).toInt
                · exact v
                · exact absurd ⟨d, by omega, by omega⟩ y
            · rw [if_neg d]; exact Or.inl (by decide)
          rw [if_pos hz, i_0, cz_0]
          exact Or.inr ⟨g, t, rfl, by omega, hD, y, h22, fun o k h _ => F o k h, F2⟩
  exact key FU 0 r (by unfold FU; omega) (Nat.zero_le _) (fun i hi => absurd hi (by omega)) e2 (fun _ _ _ => rfl) rfl
/-- the class's machine inside a statement's digits -/
theorem s_mach (hL : L ≤ 96) (e : c.1 0 6 = nI L) (hl : ∀ k, k < L → c.1 2 k = l k) : ∀ (m d q f : Nat), m ≤ d → d ≤ 13 → DG l L q m → X10_firstBadLetter_l9 (f + m) 1 0 (nI d) (nI q) c = X10_firstBadLetter_l9 f 1 0 (nI (d - m)) (nI (q + m)) c := by
  have t48 : (48 : Int32).toInt = 48 := rfl
  have t57 : (57 : Int32).toInt = 57 := rfl
  intro m
  induction m with
  | zero => intro d q f _ _ _; rfl
  | succ m ih =>
    intro d q f h1 h2 hD
    obtain ⟨g1, g2, g3⟩ := hD 0 (by omega)
    have g1 : q < L := g1
    have g2 : 48 ≤ (l q).toInt := g2
    have g3 : (l q).toInt ≤ 57 := g3
    have e1 : f + (m + 1) = (f + m) + 1 := by omega
    rw [e1, X10_firstBadLetter_l9.eq_2, e, if_neg (nI_ge g1 (by omega)), ck_nI _ (by omega) (by decide), nI_clamp (by omega), hl q g1, vl_e, i_10, i_0, if_neg (nI_nle (by omega) (by omega)), if_neg (by rw [fa_lt]; omega), if_pos (by rw [fa_le]; omega), vl_e]
    unfold X10_firstBadLetter_j127
    rw [vl_e, nI_1, m_one, pk_sub (by omega)]
    have e2 : d - (m + 1) = d - 1 - m := by omega
    have e3 : q + (m + 1) = q + 1 + m := by omega
    rw [e2, e3]
    exact ih (d - 1) (q + 1) f (by omega) (by omega) (fun i hi => by
      have := hD (i + 1) (by omega)
      have e4 : q + (i + 1) = q + 1 + i := by omega
      rw [e4] at this
      exact this)
/-- it stops at a letter that is no digit -/
theorem s_machX (hL : L ≤ 96) (e : c.1 0 6 = nI L) (hl : ∀ k, k < L → c.1 2 k = l k) {d q f : Nat} (hd : 0 < d) (hd2 : d ≤ 13) (hq : q ≤ L) (hg : ¬ gd l L q) : X10_firstBadLetter_l9 (f + 1) 1 0 (nI d) (nI q) c = some (nI q, c) := by
  have t48 : (48 : Int32).toInt = 48 := rfl
  have t57 : (57 : Int32).toInt = 57 := rfl
  rw [X10_firstBadLetter_l9.eq_2, e]
  by_cases z : q = L
  · rw [if_pos (nI_le (by omega) (by omega)), i_10]
    unfold X10_firstBadLetter_j144
    rw [e, z]
  · rw [if_neg (nI_ge (by omega) (by omega)), ck_nI _ (by omega) (by decide), nI_clamp (by omega), hl q (by omega), vl_e, i_10, i_0, if_neg (nI_nle (by omega) (by omega))]
    by_cases y : l q < 48
    · rw [if_pos y]
    · rw [if_neg y]
      by_cases y2 : l q ≤ 57
      · rw [fa_lt, t48] at y
        rw [fa_le, t57] at y2
        exact absurd ⟨by omega, by omega, y2⟩ hg
      · rw [if_neg y2]
/-- behind the digits: the mark of the end -/
theorem s_machE (hL : L ≤ 96) (e : c.1 0 6 = nI L) (hl : ∀ k, k < L → c.1 2 k = l k) {q f : Nat} (hq : q ≤ L) : (q < L ∧ l q = 59 ∧ X10_firstBadLetter_l9 (f + 1) 1 0 (nI 0) (nI q) c = X10_firstBadLetter_l9 f 0 0 (nI 0) (nI (q + 1)) c) ∨ (¬ (q < L ∧ l q = 59) ∧ X10_firstBadLetter_l9 (f + 1) 1 0 (nI 0) (nI q) c = some (nI q, c)) := by
  rw [X10_firstBadLetter_l9.eq_2, e]
  by_cases z : q = L
  · rw [if_pos (nI_le (by omega) (by omega)), i_10]
    unfold X10_firstBadLetter_j144
    rw [e, z]
    exact Or.inr ⟨fun h => by omega, rfl⟩
  · rw [if_neg (nI_ge (by omega) (by omega)), ck_nI _ (by omega) (by decide), nI_clamp (by omega), hl q (by omega), vl_e, i_10, i_0, if_pos (show nI 0 ≤ 0 by decide)]
    by_cases y : l q = 59
    · rw [if_pos y]
      unfold X10_firstBadLetter_j127
      rw [vl_e, nI_1]
      exact Or.inl ⟨by omega, y, rfl⟩
    · rw [if_neg y]
      exact Or.inr ⟨fun h => y h.2, rfl⟩
end LE
end
section
/-! A STATEMENT READ on both sides -/
def fr8 (a : Nat) (r r' : AH) : Prop := (∀ o k, ¬ (o = 0 ∧ k = 22) → ¬ (o = 16 ∧ a ≤ k ∧ k < a + 8) → r'.1 o k = r.1 o k) ∧ r'.2 = r.2
theorem fr8.rf {a : Nat} {r : AH} : fr8 a r r := ⟨fun _ _ _ _ => rfl, rfl⟩
theorem fr8.tr {a : Nat} {r r' r2 : AH} (x : fr8 a r r') (y : fr8 a r' r2) : fr8 a r r2 := ⟨fun o k h1 h2 => (y.1 o k h1 h2).trans (x.1 o k h1 h2), y.2.trans x.2⟩
/-- digits read, with what is told -/
def DQ (l : Nat → Int32) (L : Nat) (r : AH) (q n a : Nat) (V : AH → Prop) (F : Option (Int32 × AH)) : Prop :=
  (∃ r', F = some (1, r') ∧ DG l L q n ∧ r'.1 0 22 = nI (q + n) ∧ V r' ∧ fr8 a r r') ∨ (∃ r' m, F = some (0, r') ∧ m < n ∧ DG l L q m ∧ ¬ gd l L (q + m) ∧ r'.1 0 22 = nI (q + m) ∧ fr8 a r r')
/-- the numbers of a jumper -/
def TJ (l : Nat → Int32) (r : AH) (a q : Nat) : Prop := r.1 16 (a + 0) = numS l (q + 0) 1 ∧ r.1 16 (a + 1) = numS l (q + 1) 1 ∧ r.1 16 (a + 2) = numS l (q + 2) 2 ∧ r.1 16 (a + 3) = numS l (q + 4) 1 ∧ r.1 16 (a + 4) = numS l (q + 5) 1 ∧ r.1 16 (a + 5) = numS l (q + 6) 2 ∧ r.1 16 (a + 6) = numS l (q + 8) 1 ∧ r.1 16 (a + 7) = numS l (q + 9) 4
section ST
variable {l : Nat → Int32} {L : Nat} {c r : AH}
theorem d_one (hL : L ≤ 96) (e : r.1 0 21 = nI L) (hl : ∀ k, k < L → r.1 13 k = l k) {q n a : Nat} (ha : a + 8 ≤ 384) (hq : q ≤ L) (hn : n ≤ 4) (e2 : r.1 0 22 = nI q) : DQ l L r q n a (fun r' => r'.1 16 a = numS l q n) (X11_readsDigits (nI a) (nI n) r) := by
  rcases s_rd hL e hl (a := a) (n := n) (by omega) hq hn e2 with ⟨r', b1, b2, b3, b4, b5, b6⟩ | ⟨r', m, b1, b2, b3, b4, b5, b6, b7⟩
  · exact Or.inl ⟨r', b1, b2, b3, b4, fun o k h1 h2 => b5 o k h1 (by omega), b6⟩
  · exact Or.inr ⟨r', m, b1, b2, b3, b4, b5, fun o k h1 h2 => b6 o k h1 (by omega), b7⟩
theorem d_jump (hL : L ≤ 96) (e : r.1 0 21 = nI L) (hl : ∀ k, k < L → r.1 13 k = l k) {q a : Nat} (ha : a + 8 ≤ 384) (hq : q ≤ L) (e2 : r.1 0 22 = nI q) : DQ l L r q 13 a (fun r' => TJ l r' a q) (X11_readsJumper (nI a) r) := by
  have hle : ∀ {p n : Nat}, q ≤ p → p ≤ q + 13 → DG l L q (p - q) → p ≤ L := by
    intro p n h1 h2 h
    by_cases z : p = q
    · omega
    · have := (h (p - q - 1) (by omega)).1
      omega
  unfold X11_readsJumper
  rcases s_rd (l := l) (r := r) hL e hl (q := q) (a := a + 0) (n := 1) (by omega) hq (by omega) e2 with ⟨r1, a1, b1, k1, v1, w1, u1⟩ | ⟨r9, m, x1, x2, x3, x4, x5, x6, x7⟩
  rotate_left
  · have x1 : X11_readsDigits (nI a) 1 r = _ := x1
    rw [x1, bd_s, i_0, cz_0]
    refine Or.inr ⟨r9, m, rfl, by omega, x3, ?_, ?_, fr8.rf.tr ⟨fun o k h1 h2 => x6 o k h1 (by omega), x7⟩⟩
    · exact x4
    · exact x5
  have a1 : X11_readsDigits (nI a) 1 r = _ := a1
  rw [a1, bd_s, i_10]
  have f1 : fr8 a r r1 := ⟨fun o k h1 h2 => w1 o k h1 (by omega), u1⟩
  have D1 : DG l L q 1 := b1
  have g1 : nI a + 1 = nI (a + 1) := nI_add a 1
  rw [g1]
  rcases s_rd (l := l) (r := r1) hL (by rw [f1.1 0 21 (by omega) (by omega)]; exact e) (fun k hk => by rw [f1.1 13 k (by omega) (by omega)]; exact hl k hk) (q := q + 1) (a := a + 1) (n := 1) (by omega) (hle (p := q + 1) (n := 0) (by omega) (by omega) (by rw [Nat.add_sub_cancel_left]; exact D1)) (by omega) k1 with ⟨r2, a2, b2, k2, v2, w2, u2⟩ | ⟨r9, m, x1, x2, x3, x4, x5, x6, x7⟩
  rotate_left
  · have x1 : X11_readsDigits (nI (a + 1)) 1 r1 = _ := x1
    rw [x1, bd_s, i_0, cz_0]
    refine Or.inr ⟨r9, 1 + m, rfl, by omega, (D1.app x3), ?_, ?_, f1.tr ⟨fun o k h1 h2 => x6 o k h1 (by omega), x7⟩⟩
    · rw [← Nat.add_assoc]; exact x4
    · rw [← Nat.add_assoc]; exact x5
  have a2 : X11_readsDigits (nI (a + 1)) 1 r1 = _ := a2
  rw [a2, bd_s, i_10]
  have f2 : fr8 a r r2 := f1.tr ⟨fun o k h1 h2 => w2 o k h1 (by omega), u2⟩
  have D2 : DG l L q 2 := D1.app b2
  have g2 : nI a + 2 = nI (a + 2) := nI_add a 2
  rw [g2]
  rcases s_rd (l := l) (r := r2) hL (by rw [f2.1 0 21 (by omega) (by omega)]; exact e) (fun k hk => by rw [f2.1 13 k (by omega) (by omega)]; exact hl k hk) (q := q + 2) (a := a + 2) (n := 2) (by omega) (hle (p := q + 2) (n := 0) (by omega) (by omega) (by rw [Nat.add_sub_cancel_left]; exact D2)) (by omega) k2 with ⟨r3, a3, b3, k3, v3, w3, u3⟩ | ⟨r9, m, x1, x2, x3, x4, x5, x6, x7⟩
  rotate_left
  · have x1 : X11_readsDigits (nI (a + 2)) 2 r2 = _ := x1
    rw [x1, bd_s, i_0, cz_0]
    refine Or.inr ⟨r9, 2 + m, rfl, by omega, (D2.app x3), ?_, ?_, f2.tr ⟨fun o k h1 h2 => x6 o k h1 (by omega), x7⟩⟩
    · rw [← Nat.add_assoc]; exact x4
    · rw [← Nat.add_assoc]; exact x5
  have a3 : X11_readsDigits (nI (a + 2)) 2 r2 = _ := a3
  rw [a3, bd_s, i_10]
  have f3 : fr8 a r r3 := f2.tr ⟨fun o k h1 h2 => w3 o k h1 (by omega), u3⟩
  have D3 : DG l L q 4 := D2.app b3
  have g3 : nI a + 3 = nI (a + 3) := nI_add a 3
  rw [g3]
  rcases s_rd (l := l) (r := r3) hL (by rw [f3.1 0 21 (by omega) (by omega)]; exact e) (fun k hk => by rw [f3.1 13 k (by omega) (by omega)]; exact hl k hk) (q := q + 4) (a := a + 3) (n := 1) (by omega) (hle (p := q + 4) (n := 0) (by omega) (by omega) (by rw [Nat.add_sub_cancel_left]; exact D3)) (by omega) k3 with ⟨r4, a4, b4, k4, v4, w4, u4⟩ | ⟨r9, m, x1, x2, x3, x4, x5, x6, x7⟩
  rotate_left
  · have x1 : X11_readsDigits (nI (a + 3)) 1 r3 = _ := x1
    rw [x1, bd_s, i_0, cz_0]
    refine Or.inr ⟨r9, 4 + m, rfl, by omega, (D3.app x3), ?_, ?_, f3.tr ⟨fun o k h1 h2 => x6 o k h1 (by omega), x7⟩⟩
    · rw [← Nat.add_assoc]; exact x4
    · rw [← Nat.add_assoc]; exact x5
  have a4 : X11_readsDigits (nI (a + 3)) 1 r3 = _ := a4
  rw [a4, bd_s, i_10]
  have f4 : fr8 a r r4 := f3.tr ⟨fun o k h1 h2 => w4 o k h1 (by omega), u4⟩
  have D4 : DG l L q 5 := D3.app b4
  have g4 : nI a + 4 = nI (a + 4) := nI_add a 4
  rw [g4]
  rcases s_rd (l := l) (r := r4) hL (by rw [f4.1 0 21 (by omega) (by omega)]; exact e) (fun k hk => by rw [f4.1 13 k (by omega) (by omega)]; exact hl k hk) (q := q + 5) (a := a + 4) (n := 1) (by omega) (hle (p := q + 5) (n := 0) (by omega) (by omega) (by rw [Nat.add_sub_cancel_left]; exact D4)) (by omega) k4 with ⟨r5, a5, b5, k5, v5, w5, u5⟩ | ⟨r9, m, x1, x2, x3, x4, x5, x6, x7⟩
  rotate_left
  · have x1 : X11_readsDigits (nI (a + 4)) 1 r4 = _ := x1
    rw [x1, bd_s, i_0, cz_0]
    refine Or.inr ⟨r9, 5 + m, rfl, by omega, (D4.app x3), ?_, ?_, f4.tr ⟨fun o k h1 h2 => x6 o k h1 (by omega), x7⟩⟩
    · rw [← Nat.add_assoc]; exact x4
    · rw [← Nat.add_assoc]; exact x5
  have a5 : X11_readsDigits (nI (a + 4)) 1 r4 = _ := a5
  rw [a5, bd_s, i_10]
  have f5 : fr8 a r r5 := f4.tr ⟨fun o k h1 h2 => w5 o k h1 (by omega), u5⟩
  have D5 : DG l L q 6 := D4.app b5
  have g5 : nI a + 5 = nI (a + 5) := nI_add a 5
  rw [g5]
  rcases s_rd (l := l) (r := r5) hL (by rw [f5.1 0 21 (by omega) (by omega)]; exact e) (fun k hk => by rw [f5.1 13 k (by omega) (by omega)]; exact hl k hk) (q := q + 6) (a := a + 5) (n := 2) (by omega) (hle (p := q + 6) (n := 0) (by omega) (by omega) (by rw [Nat.add_sub_cancel_left]; exact D5)) (by omega) k5 with ⟨r6, a6, b6, k6, v6, w6, u6⟩ | ⟨r9, m, x1, x2, x3, x4, x5, x6, x7⟩
  rotate_left
  · have x1 : X11_readsDigits (nI (a + 5)) 2 r5 = _ := x1
    rw [x1, bd_s, i_0, cz_0]
    refine Or.inr ⟨r9, 6 + m, rfl, by omega, (D5.app x3), ?_, ?_, f5.tr ⟨fun o k h1 h2 => x6 o k h1 (by omega), x7⟩⟩
    · rw [← Nat.add_assoc]; exact x4
    · rw [← Nat.add_assoc]; exact x5
  have a6 : X11_readsDigits (nI (a + 5)) 2 r5 = _ := a6
  rw [a6, bd_s, i_10]
  have f6 : fr8 a r r6 := f5.tr ⟨fun o k h1 h2 => w6 o k h1 (by omega), u6⟩
  have D6 : DG l L q 8 := D5.app b6
  have g6 : nI a + 6 = nI (a + 6) := nI_add a 6
  rw [g6]
  rcases s_rd (l := l) (r := r6) hL (by rw [f6.1 0 21 (by omega) (by omega)]; exact e) (fun k hk => by rw [f6.1 13 k (by omega) (by omega)]; exact hl k hk) (q := q + 8) (a := a + 6) (n := 1) (by omega) (hle (p := q + 8) (n := 0) (by omega) (by omega) (by rw [Nat.add_sub_cancel_left]; exact D6)) (by omega) k6 with ⟨r7, a7, b7, k7, v7, w7, u7⟩ | ⟨r9, m, x1, x2, x3, x4, x5, x6, x7⟩
  rotate_left
  · have x1 : X11_readsDigits (nI (a + 6)) 1 r6 = _ := x1
    rw [x1, bd_s, i_0, cz_0]
    refine Or.inr ⟨r9, 8 + m, rfl, by omega, (D6.app x3), ?_, ?_, f6.tr ⟨fun o k h1 h2 => x6 o k h1 (by omega), x7⟩⟩
    · rw [← Nat.add_assoc]; exact x4
    · rw [← Nat.add_assoc]; exact x5
  have a7 : X11_readsDigits (nI (a + 6)) 1 r6 = _ := a7
  rw [a7, bd_s, i_10]
  have f7 : fr8 a r r7 := f6.tr ⟨fun o k h1 h2 => w7 o k h1 (by omega), u7⟩
  have D7 : DG l L q 9 := D6.app b7
  have g7 : nI a + 7 = nI (a + 7) := nI_add a 7
  rw [g7]
  rcases s_rd (l := l) (r := r7) hL (by rw [f7.1 0 21 (by omega) (by omega)]; exact e) (fun k hk => by rw [f7.1 13 k (by omega) (by omega)]; exact hl k hk) (q := q + 9) (a := a + 7) (n := 4) (by omega) (hle (p := q + 9) (n := 0) (by omega) (by omega) (by rw [Nat.add_sub_cancel_left]; exact D7)) (by omega) k7 with ⟨r8, a8, b8, k8, v8, w8, u8⟩ | ⟨r9, m, x1, x2, x3, x4, x5, x6, x7⟩
  rotate_left
  · have x1 : X11_readsDigits (nI (a + 7)) 4 r7 = _ := x1
    rw [x1, bd_s, i_0, cz_0]
    refine Or.inr ⟨r9, 9 + m, rfl, by omega, (D7.app x3), ?_, ?_, f7.tr ⟨fun o k h1 h2 => x6 o k h1 (by omega), x7⟩⟩
    · rw [← Nat.add_assoc]; exact x4
    · rw [← Nat.add_assoc]; exact x5
  have a8 : X11_readsDigits (nI (a + 7)) 4 r7 = _ := a8
  rw [a8, bd_s, i_10]
  have f8 : fr8 a r r8 := f7.tr ⟨fun o k h1 h2 => w8 o k h1 (by omega), u8⟩
  have D8 : DG l L q 13 := D7.app b8
  rw [cz_1]
  refine Or.inl ⟨r8, rfl, D8, k8, ⟨?_, ?_, ?_, ?_, ?_, ?_, ?_, ?_⟩, f8⟩
  · rw [w8 16 (a + 0) (by omega) (by omega), w7 16 (a + 0) (by omega) (by omega), w6 16 (a + 0) (by omega) (by omega), w5 16 (a + 0) (by omega) (by omega), w4 16 (a + 0) (by omega) (by omega), w3 16 (a + 0) (by omega) (by omega), w2 16 (a + 0) (by omega) (by omega)]; exact v1
  · rw [w8 16 (a + 1) (by omega) (by omega), w7 16 (a + 1) (by omega) (by omega), w6 16 (a + 1) (by omega) (by omega), w5 16 (a + 1) (by omega) (by omega), w4 16 (a + 1) (by omega) (by omega), w3 16 (a + 1) (by omega) (by omega)]; exact v2
  · rw [w8 16 (a + 2) (by omega) (by omega), w7 16 (a + 2) (by omega) (by omega), w6 16 (a + 2) (by omega) (by omega), w5 16 (a + 2) (by omega) (by omega), w4 16 (a + 2) (by omega) (by omega)]; exact v3
  · rw [w8 16 (a + 3) (by omega) (by omega), w7 16 (a + 3) (by omega) (by omega), w6 16 (a + 3) (by omega) (by omega), w5 16 (a + 3) (by omega) (by omega)]; exact v4
  · rw [w8 16 (a + 4) (by omega) (by omega), w7 16 (a + 4) (by omega) (by omega), w6 16 (a + 4) (by omega) (by omega)]; exact v5
  · rw [w8 16 (a + 5) (by omega) (by omega), w7 16 (a + 5) (by omega) (by omega)]; exact v6
  · rw [w8 16 (a + 6) (by omega) (by omega)]; exact v7
  · exact v8
end ST
end
section
/-! ALL THAT A LETTER ASKS FOR -/
def okL (x : Int32) : Prop := x = 110 ∨ x = 119 ∨ x = 103 ∨ x = 106 ∨ x = 116 ∨ x = 102 ∨ x = 112
def dn (x : Int32) : Nat := if x = 106 then 13 else if x = 110 ∨ x = 116 then 2 else if x = 103 ∨ x = 119 then 1 else 0
def sg (x : Int32) : Nat := if x = 119 then 1 else 0
def TN (l : Nat → Int32) (r : AH) (a q : Nat) (x : Int32) : Prop := (x = 103 → r.1 16 a = numS l (q + 1) 1) ∧ ((x = 110 ∨ x = 116) → r.1 16 a = numS l (q + 1) 2) ∧ (x = 106 → TJ l r a (q + 1)) ∧ (x = 119 → (l (q + 1) = 43 ∧ r.1 16 a = numS l (q + 2) 1 * 1) ∨ (¬ l (q + 1) = 43 ∧ l (q + 1) = 45 ∧ r.1 16 a = numS l (q + 2) 1 * -1))
section RE
variable {l : Nat → Int32} {L : Nat} {c r : AH}
theorem dq_mach (hL : L ≤ 96) (e : c.1 0 6 = nI L) (hl : ∀ k, k < L → c.1 2 k = l k) {p n a : Nat} {V : AH → Prop} {F : Option (Int32 × AH)} (hp : p ≤ L) (hn : n ≤ 13) (h : DQ l L r p n a V F) :
    (∃ r', F = some (1, r') ∧ p + n ≤ L ∧ DG l L p n ∧ r'.1 0 22 = nI (p + n) ∧ V r' ∧ fr8 a r r' ∧ ∀ f, X10_firstBadLetter_l9 (f + n) 1 0 (nI n) (nI p) c = X10_firstBadLetter_l9 f 1 0 (nI 0) (nI (p + n)) c) ∨
    (∃ r' e, F = some (0, r') ∧ e ≤ L ∧ r'.1 0 22 = nI e ∧ fr8 a r r' ∧ ∀ f, 15 ≤ f → X10_firstBadLetter_l9 f 1 0 (nI n) (nI p) c = some (nI e, c)) := by
  have hle : ∀ m, DG l L p m → p + m ≤ L := by
    intro m h
    by_cases z : m = 0
    · omega
    · have := (h (m - 1) (by omega)).1
      omega
  rcases h with ⟨r', b1, b2, b3, b4, b5⟩ | ⟨r', m, b1, b2, b3, b4, b5, b6⟩
  · refine Or.inl ⟨r', b1, hle n b2, b2, b3, b4, b5, fun f => ?_⟩
    have h := s_mach hL e hl n n p f (Nat.le_refl _) hn b2
    rw [Nat.sub_self] at h
    exact h
  · refine Or.inr ⟨r', p + m, b1, hle m b3, b5, b6, fun f hf => ?_⟩
    obtain ⟨g, rfl⟩ : ∃ g, f = g + 1 + m := ⟨f - 1 - m, by omega⟩
    rw [s_mach hL e hl m n p (g + 1) (by omega) hn b3]
    exact s_machX hL e hl (by omega) (by omega) (hle m b3) b4
/-- the sign -/
theorem s_sign (hL : L ≤ 96) (e : c.1 0 6 = nI L) (hl : ∀ k, k < L → c.1 2 k = l k) {p : Nat} (hp : p ≤ L) (f : Nat) : X10_firstBadLetter_l9 (f + 1) 1 1 (nI 1) (nI p) c = if p < L ∧ (l p = 43 ∨ l p = 45) then X10_firstBadLetter_l9 f 1 0 (nI 1) (nI (p + 1)) c else some (nI p, c) := by
  rw [X10_firstBadLetter_l9.eq_2, e]
  by_cases z : p = L
  · rw [if_pos (nI_le (by omega) (by omega)), i_10, if_neg (by omega)]
    unfold X10_firstBadLetter_j144
    rw [e, z]
  · rw [if_neg (nI_ge (by omega) (by omega)), ck_nI _ (by omega) (by decide), nI_clamp (by omega), hl p (by omega), vl_e, i_10, i_10]
    unfold X10_firstBadLetter_j83 X10_firstBadLetter_j127
    rw [vl_e, nI_1]
    by_cases y : l p = 43
    · rw [if_pos y, if_pos ⟨by omega, Or.inl y⟩]
    · rw [if_neg y]
      by_cases u : l p = 45
      · rw [if_pos u, if_pos ⟨by omega, Or.inr u⟩]
      · rw [if_neg u, if_neg (fun h => h.2.elim y u)]
theorem s_reads (hL : L ≤ 96) (e : c.1 0 6 = nI L) (hl : ∀ k, k < L → c.1 2 k = l k) (e' : r.1 0 21 = nI L) (hl' : ∀ k, k < L → r.1 13 k = l k) {q a : Nat} {x : Int32} (hx : okL x) (hq : q + 1 ≤ L) (ha : a + 8 ≤ 384) (e2 : r.1 0 22 = nI (q + 1)) :
    (∃ r', X11_readsAll x (nI a) r = some (1, r') ∧ q + 1 + sg x + dn x ≤ L ∧ DG l L (q + 1 + sg x) (dn x) ∧ r'.1 0 22 = nI (q + 1 + sg x + dn x) ∧ TN l r' a q x ∧ fr8 a r r' ∧ ∀ f, X10_firstBadLetter_l9 (f + (sg x + dn x)) 1 (nI (sg x)) (nI (dn x)) (nI (q + 1)) c = X10_firstBadLetter_l9 f 1 0 (nI 0) (nI (q + 1 + sg x + dn x)) c) ∨
    (∃ r' e, X11_readsAll x (nI a) r = some (0, r') ∧ e ≤ L ∧ r'.1 0 22 = nI e ∧ fr8 a r r' ∧ ∀ f, 20 ≤ f → X10_firstBadLetter_l9 f 1 (nI (sg x)) (nI (dn x)) (nI (q + 1)) c = some (nI e, c)) := by
  unfold X11_readsAll
  rw [vl_e]
  have plain : ∀ (n : Nat) (V : AH → Prop) (F : Option (Int32 × AH)), n ≤ 13 → sg x = 0 → dn x = n → DQ l L r (q + 1) n a V F → (∀ r', V r' → TN l r' a q x) →
    (∃ r', (bd F fun r2 h3 => cz r2 (some (r2, h3))) = some (1, r') ∧ q + 1 + sg x + dn x ≤ L ∧ DG l L (q + 1 + sg x) (dn x) ∧ r'.1 0 22 = nI (q + 1 + sg x + dn x) ∧ TN l r' a q x ∧ fr8 a r r' ∧ ∀ f, X10_firstBadLetter_l9 (f + (sg x + dn x)) 1 (nI (sg x)) (nI (dn x)) (nI (q + 1)) c = X10_firstBadLetter_l9 f 1 0 (nI 0) (nI (q + 1 + sg x + dn x)) c) ∨
    (∃ r' e, (bd F fun r2 h3 => cz r2 (some (r2, h3))) = some (0, r') ∧ e ≤ L ∧ r'.1 0 22 = nI e ∧ fr8 a r r' ∧ ∀ f, 20 ≤ f → X10_firstBadLetter_l9 f 1 (nI (sg x)) (nI (dn x)) (nI (q + 1)) c = some (nI e, c)) := by
    intro n V F hn h1 h2 h hV
    rw [h1, h2]
    rcases dq_mach hL e hl hq hn h with ⟨r', b1, b2, b3, b4, b5, b6, b7⟩ | ⟨r', e, b1, b2, b3, b4, b5⟩
    · rw [b1, bd_s, cz_1]
      exact Or.inl ⟨r', rfl, b2, b3, b4, hV r' b5, b6, fun f => by rw [Nat.zero_add]; exact b7 f⟩
    · rw [b1, bd_s, cz_0]
      exact Or.inr ⟨r', e, rfl, b2, b3, b4, fun f hf => b5 f (by omega)⟩
  have d := fun n (hn : n ≤ 4) => d_one (l := l) (r := r) hL e' hl' (q := q + 1) (n := n) (a := a) ha hq hn e2
  by_cases x1 : x = 103
  · subst x1
    rw [if_pos rfl]
    exact plain 1 _ _ (by decide) (by decide) (by decide) (d 1 (by decide)) (fun r' hV => ⟨fun _ => hV, fun z => absurd z (by decide), fun z => absurd z (by decide), fun z => absurd z (by decide)⟩)
  rw [if_neg x1]
  by_cases x2 : x = 106
  · subst x2
    rw [if_pos rfl]
    exact plain 13 _ _ (by decide) (by decide) (by decide) (d_jump (l := l) (r := r) hL e' hl' ha hq e2) (fun r' hV => ⟨fun z => absurd z (by decide), fun z => absurd z (by decide), fun _ => hV, fun z => absurd z (by decide)⟩)
  rw [if_neg x2]
  by_cases x3 : x = 110
  · subst x3
    rw [if_pos rfl]
    exact plain 2 _ _ (by decide) (by decide) (by decide) (d 2 (by decide)) (fun r' hV => ⟨fun z => absurd z (by decide), fun _ => hV, fun z => absurd z (by decide), fun z => absurd z (by decide)⟩)
  rw [if_neg x3]
  by_cases x4 : x = 116
  · subst x4
    rw [if_pos rfl]
    exact plain 2 _ _ (by decide) (by decide) (by decide) (d 2 (by decide)) (fun r' hV => ⟨fun z => absurd z (by decide), fun _ => hV, fun z => absurd z (by decide), fun z => absurd z (by decide)⟩)
  rw [if_neg x4]
  by_cases x5 : x = 119
  · subst x5
    rw [if_pos rfl]
    have es : sg 119 = 1 := by decide
    have ed : dn 119 = 1 := by decide
    rw [es, ed]
    have nx := s_next (l := l) (r := r) hL e' hl' hq e2
    have sn : ∀ s : Int32, ¬ s = 0 → q + 1 < L → (∃ r', X11_readsWind_j27 (nI a) s r = some (1, r') ∧ q + 1 + 1 + 1 ≤ L ∧ DG l L (q + 1 + 1) 1 ∧ r'.1 0 22 = nI (q + 1 + 1 + 1) ∧ r'.1 16 a = numS l (q + 2) 1 * s ∧ fr8 a r r' ∧ ∀ f, X10_firstBadLetter_l9 (f + 1) 1 0 (nI 1) (nI (q + 1 + 1)) c = X10_firstBadLetter_l9 f 1 0 (nI 0) (nI (q + 1 + 1 + 1)) c) ∨ (∃ r' e, X11_readsWind_j27 (nI a) s r = some (0, r') ∧ e ≤ L ∧ r'.1 0 22 = nI e ∧ fr8 a r r' ∧ ∀ f, 15 ≤ f → X10_firstBadLetter_l9 f 1 0 (nI 1) (nI (q + 1 + 1)) c = some (nI e, c)) := by
      intro s hs hq1
      unfold X11_readsWind_j27
      rw [if_neg hs, vl_e, e2, nI_1]
      have F1 : fr8 a r (sI r 0 22 (nI (q + 1 + 1))) := ⟨fun o k h1 h2 => by rw [sI_n h1], rfl⟩
      have h := d_one (l := l) (r := sI r 0 22 (nI (q + 1 + 1))) hL (by rw [sI_n (by omega)]; exact e') (fun k hk => by rw [sI_n (by omega)]; exact hl' k hk) (q := q + 1 + 1) (n := 1) (a := a) ha (by omega) (by decide) sI_y
      rcases dq_mach hL e hl (by omega) (by decide) h with ⟨r', b1, b2, b3, b4, b5, b6, b7⟩ | ⟨r', e, b1, b2, b3, b4, b5⟩
      · have b1 : X11_readsDigits (nI a) 1 (sI r 0 22 (nI (q + 1 + 1))) = _ := b1
        rw [b1, bd_s, i_10, ck_nI _ (by omega) (by decide), ck_nI _ (by omega) (by decide), vl_e, cz_1, nI_clamp (by omega)]
        exact Or.inl ⟨_, rfl, b2, b3, by rw [sI_n (by omega)]; exact b4, by rw [sI_y, b5], (F1.tr b6).tr ⟨fun o k h1 h2 => by rw [sI_n (by omega)], rfl⟩, b7⟩
      · have b1 : X11_readsDigits (nI a) 1 (sI r 0 22 (nI (q + 1 + 1))) = _ := b1
        rw [b1, bd_s, i_0, cz_0]
        exact Or.inr ⟨r', e, rfl, b2, b3, F1.tr b4, b5⟩
    have wrap : ∀ s : Int32, ¬ s = 0 → X11_readsWind (nI a) r = X11_readsWind_j27 (nI a) s r → q + 1 < L → (l (q + 1) = 43 ∨ l (q + 1) = 45) → (∀ r' : AH, r'.1 16 a = numS l (q + 2) 1 * s → TN l r' a q 119) →
      (∃ r', (bd (X11_readsWind (nI a) r) fun r2 h3 => cz r2 (some (r2, h3))) = some (1, r') ∧ q + 1 + 1 + 1 ≤ L ∧ DG l L (q + 1 + 1) 1 ∧ r'.1 0 22 = nI (q + 1 + 1 + 1) ∧ TN l r' a q 119 ∧ fr8 a r r' ∧ ∀ f, X10_firstBadLetter_l9 (f + (1 + 1)) 1 (nI 1) (nI 1) (nI (q + 1)) c = X10_firstBadLetter_l9 f 1 0 (nI 0) (nI (q + 1 + 1 + 1)) c) ∨
      (∃ r' e, (bd (X11_readsWind (nI a) r) fun r2 h3 => cz r2 (some (r2, h3))) = some (0, r') ∧ e ≤ L ∧ r'.1 0 22 = nI e ∧ fr8 a r r' ∧ ∀ f, 20 ≤ f → X10_firstBadLetter_l9 f 1 (nI 1) (nI 1) (nI (q + 1)) c = some (nI e, c)) := by
      intro s hs he hq1 hsg hV
      rw [he]
      rcases sn s hs hq1 with ⟨r', b1, b2, b3, b4, b5, b6, b7⟩ | ⟨r', e9, b1, b2, b3, b4, b5⟩
      · rw [b1, bd_s, cz_1]
        refine Or.inl ⟨r', rfl, b2, b3, b4, hV r' b5, b6, fun f => ?_⟩
        have h := s_sign hL e hl (p := q + 1) (by omega) (f + 1)
        rw [if_pos ⟨hq1, hsg⟩] at h
        have h : X10_firstBadLetter_l9 (f + (1 + 1)) 1 (nI 1) (nI 1) (nI (q + 1)) c = _ := h
        rw [h]
        exact b7 f
      · rw [b1, bd_s, cz_0]
        refine Or.inr ⟨r', e9, rfl, b2, b3, b4, fun f hf => ?_⟩
        obtain ⟨g, rfl⟩ : ∃ g, f = g + 1 := ⟨f - 1, by omega⟩
        have h := s_sign hL e hl (p := q + 1) (by omega) g
        rw [if_pos ⟨hq1, hsg⟩] at h
        have h : X10_firstBadLetter_l9 (g + 1) 1 (nI 1) (nI 1) (nI (q + 1)) c = _ := h
        rw [h]
        exact b5 g (by omega)
    by_cases z : q + 1 < L
    · rw [if_pos z] at nx
      by_cases y : l (q + 1) = 43
      · refine wrap 1 (by decide) ?_ z (Or.inl y) (fun r' hV => ⟨fun z => absurd z (by decide), fun z => absurd z (by decide), fun z => absurd z (by decide), fun _ => Or.inl ⟨y, hV⟩⟩)
        unfold X11_readsWind
        rw [nx, bd_s, if_pos y]
      · by_cases u : l (q + 1) = 45
        · refine wrap (-1) (by decide) ?_ z (Or.inr u) (fun r' hV => ⟨fun z => absurd z (by decide), fun z => absurd z (by decide), fun z => absurd z (by decide), fun _ => Or.inr ⟨y, u, hV⟩⟩)
          unfold X11_readsWind
          rw [nx, bd_s, if_neg y, nx, bd_s, if_pos u]
        · unfold X11_readsWind X11_readsWind_j27
          rw [nx, bd_s, if_neg y, nx, bd_s, if_neg u, i_0, cz_0, bd_s, cz_0]
          refine Or.inr ⟨r, q + 1, rfl, hq, e2, fr8.rf, fun f hf => ?_⟩
          obtain ⟨g, rfl⟩ : ∃ g, f = g + 1 := ⟨f - 1, by omega⟩
          have h := s_sign hL e hl (p := q + 1) (by omega) g
          rw [if_neg (fun h => h.2.elim y u)] at h
          exact h
    · rw [if_neg z] at nx
      unfold X11_readsWind X11_readsWind_j27
      rw [nx, bd_s, if_neg (by decide), nx, bd_s, if_neg (by decide), i_0, cz_0, bd_s, cz_0]
      refine Or.inr ⟨r, q + 1, rfl, hq, e2, fr8.rf, fun f hf => ?_⟩
      obtain ⟨g, rfl⟩ : ∃ g, f = g + 1 := ⟨f - 1, by omega⟩
      have h := s_sign hL e hl (p := q + 1) (by omega) g
      rw [if_neg (fun h => z h.1)] at h
      exact h
  rw [if_neg x5, cz_1]
  have hz : x = 102 ∨ x = 112 := by
    rcases hx with h | h | h | h | h | h
    · exact absurd h x3
    · exact absurd h x5
    · exact absurd h x1
    · exact absurd h x2
    · exact absurd h x4
    · exact h
  have es : sg x = 0 := by rcases hz with h | h <;> subst h <;> decide
  have ed : dn x = 0 := by rcases hz with h | h <;> subst h <;> decide
  rw [es, ed]
  exact Or.inl ⟨r, rfl, hq, fun i hi => absurd hi (by omega), e2, ⟨fun z => absurd z x1, fun z => z.elim (fun z => absurd z x3) (fun z => absurd z x4), fun z => absurd z x2, fun z => absurd z x5⟩, fr8.rf, fun f => rfl⟩
end RE
end
section
/-! ALL STATEMENTS READ -/
def sp (x : Int32) : Nat := 1 + sg x + dn x + 1
def pos (l : Nat → Int32) : Nat → Nat
  | 0 => 0
  | k + 1 => pos l k + sp (l (pos l k))
def FS (k : Nat) (r r' : AH) : Prop := (∀ o i, ¬ (o = 0 ∧ i = 22) → ¬ (o = 14 ∧ i = k) → ¬ (o = 15 ∧ i = k) → ¬ (o = 16 ∧ 8 * k ≤ i ∧ i < 8 * k + 8) → r'.1 o i = r.1 o i) ∧ r'.2 = r.2
def TOLD (l : Nat → Int32) (L : Nat) (r : AH) (K : Nat) : Prop := ∀ k, k < K → pos l k < L ∧ okL (l (pos l k)) ∧ r.1 14 k = l (pos l k) ∧ r.1 15 k = nI (pos l k) ∧ DG l L (pos l k + 1 + sg (l (pos l k))) (dn (l (pos l k))) ∧ pos l (k + 1) ≤ L ∧ TN l r (8 * k) (pos l k) (l (pos l k))
theorem TN.c {l : Nat → Int32} {r r' : AH} {a q : Nat} {x : Int32} (h : TN l r a q x) (e : ∀ i, i < 8 → r'.1 16 (a + i) = r.1 16 (a + i)) : TN l r' a q x := by
  have e0 : r'.1 16 a = r.1 16 a := e 0 (by omega)
  obtain ⟨h1, h2, h3, h4⟩ := h
  refine ⟨fun z => by rw [e0]; exact h1 z, fun z => by rw [e0]; exact h2 z, fun z => ?_, fun z => by rw [e0]; exact h4 z⟩
  obtain ⟨t0, t1, t2, t3, t4, t5, t6, t7⟩ := h3 z
  exact ⟨by rw [e 0 (by omega)]; exact t0, by rw [e 1 (by omega)]; exact t1, by rw [e 2 (by omega)]; exact t2, by rw [e 3 (by omega)]; exact t3, by rw [e 4 (by omega)]; exact t4, by rw [e 5 (by omega)]; exact t5, by rw [e 6 (by omega)]; exact t6, by rw [e 7 (by omega)]; exact t7⟩
section PA
variable {l : Nat → Int32} {L : Nat} {c : AH}
theorem s_let (x : Int32) (h : AH) : (okL x ∧ X10_digitsBehind x h = some (nI (dn x), h)) ∨ (¬ okL x ∧ X10_digitsBehind x h = some (-1, h)) := by
  unfold X10_digitsBehind
  rw [vl_e]
  by_cases x1 : x = 102
  · subst x1; exact Or.inl ⟨by unfold okL; decide, rfl⟩
  by_cases x2 : x = 103
  · subst x2; exact Or.inl ⟨by unfold okL; decide, rfl⟩
  by_cases x3 : x = 106
  · subst x3; exact Or.inl ⟨by unfold okL; decide, rfl⟩
  by_cases x4 : x = 110
  · subst x4; exact Or.inl ⟨by unfold okL; decide, rfl⟩
  by_cases x5 : x = 112
  · subst x5; exact Or.inl ⟨by unfold okL; decide, rfl⟩
  by_cases x6 : x = 116
  · subst x6; exact Or.inl ⟨by unfold okL; decide, rfl⟩
  by_cases x7 : x = 119
  · subst x7; exact Or.inl ⟨by unfold okL; decide, rfl⟩
  rw [if_neg x1, if_neg x2, if_neg x3, if_neg x4, if_neg x5, if_neg x6, if_neg x7]
  refine Or.inr ⟨fun h => ?_, rfl⟩
  rcases h with h | h | h | h | h | h | h
  · exact x4 h
  · exact x7 h
  · exact x2 h
  · exact x3 h
  · exact x6 h
  · exact x1 h
  · exact x5 h
theorem s_stmt (hL : L ≤ 96) (e : c.1 0 6 = nI L) (hl : ∀ k, k < L → c.1 2 k = l k) {r : AH} (e' : r.1 0 21 = nI L) (hl' : ∀ k, k < L → r.1 13 k = l k) {q k : Nat} (hq : q < L) (hk : k < 48) (e2 : r.1 0 22 = nI q) (e3 : r.1 0 23 = nI k) :
    (∃ r', X11_statement r = some (1, r') ∧ okL (l q) ∧ q + sp (l q) ≤ L ∧ DG l L (q + 1 + sg (l q)) (dn (l q)) ∧ r'.1 0 22 = nI (q + sp (l q)) ∧ r'.1 14 k = l q ∧ r'.1 15 k = nI q ∧ TN l r' (8 * k) q (l q) ∧ FS k r r' ∧ ∀ f x y, X10_firstBadLetter_l9 (f + sp (l q)) 0 x y (nI q) c = X10_firstBadLetter_l9 f 0 0 (nI 0) (nI (q + sp (l q))) c) ∨
    (∃ r' e, X11_statement r = some (0, r') ∧ e ≤ L ∧ r'.1 0 22 = nI e ∧ FS k r r' ∧ ∀ f x y, 50 ≤ f → X10_firstBadLetter_l9 f 0 x y (nI q) c = some (nI e, c)) := by
  have nx := s_next (l := l) (r := r) hL e' hl' (by omega : q ≤ L) e2
  rw [if_pos hq] at nx
  have stp : ∀ f x y, X10_firstBadLetter_l9 (f + 1) 0 x y (nI q) c = bd (X10_digitsBehind (l q) c) fun r4 h5 => if 0 ≤ r4 then (if l q = 119 then X10_firstBadLetter_j56 r4 (nI q) (X10_firstBadLetter_l9 f) 1 h5 else X10_firstBadLetter_j56 r4 (nI q) (X10_firstBadLetter_l9 f) 0 h5) else some (nI q, h5) := by
    intro f x y
    rw [X10_firstBadLetter_l9.eq_2, e, if_neg (nI_ge hq (by omega)), ck_nI _ (by omega) (by decide), nI_clamp (by omega), hl q hq, vl_e, i_0]
  rcases s_let (l q) c with ⟨ok, ed⟩ | ⟨nok, ed⟩
  · have hd13 : dn (l q) ≤ 13 := by unfold dn; repeat' split
                                    all_goals omega
    have stp2 : ∀ f x y, X10_firstBadLetter_l9 (f + 1) 0 x y (nI q) c = X10_firstBadLetter_l9 f 1 (nI (sg (l q))) (nI (dn (l q))) (nI (q + 1)) c := by
      intro f x y
      rw [stp, ed, bd_s, if_pos (nI_pos' (by omega))]
      unfold X10_firstBadLetter_j56 X10_firstBadLetter_j127 sg
      rw [vl_e, nI_1]
      by_cases z : l q = 119
      · rw [if_pos z, if_pos z]; rfl
      · rw [if_neg z, if_neg z]; rfl
    have ej : X11_statement r = X11_statement_j49 (l q) r := by
      unfold X11_statement
      rw [nx, bd_s]
      rcases ok with h | h | h | h | h | h | h <;> rw [h] <;> rfl
    obtain ⟨g, eg⟩ : ∃ g, g = sI (sI (sI r 14 k (l q)) 15 k (nI q)) 0 22 (nI (q + 1)) := ⟨_, rfl⟩
    have gF : ∀ o i, ¬ (o = 0 ∧ i = 22) → ¬ (o = 14 ∧ i = k) → ¬ (o = 15 ∧ i = k) → g.1 o i = r.1 o i := fun o i h1 h2 h3 => by rw [eg, sI_n h1, sI_n h3, sI_n h2]
    have g22 : g.1 0 22 = nI (q + 1) := by rw [eg, sI_y]
    have g2' : g.2 = r.2 := by rw [eg]; rfl
    have e8 : (8 : Int32) * nI k = nI (8 * k) := pk_mul 8 k
    have ej2 : X11_statement_j49 (l q) r = bd (X11_readsAll (l q) (nI (8 * k)) g) fun r6 h7 => if r6 = 0 then cz 0 (some (0, h7)) else bd (X11_next h7) fun r8 h9 => if r8 = 59 then vl (sI h9 0 22 (h9.1 0 22 + 1)) fun h10 => cz 1 (some (1, h10)) else cz 0 (some (0, h9)) := by
      unfold X11_statement_j49
      have q1 : (sI r 14 k (l q)).1 0 23 = nI k := by rw [sI_n (by omega)]; exact e3
      have q0 : (sI r 14 k (l q)).1 0 22 = nI q := by rw [sI_n (by omega)]; exact e2
      have q2 : (sI (sI r 14 k (l q)) 15 k (nI q)).1 0 22 = nI q := by rw [sI_n (by omega)]; exact q0
      have q3 : g.1 0 23 = nI k := by rw [gF 0 23 (by omega) (by omega) (by omega)]; exact e3
      rw [e3, ck_nI _ hk (by decide), nI_clamp (by omega)]
      simp only [vl_e]
      rw [q1, ck_nI _ hk (by decide), nI_clamp (by omega), q0, q2, nI_1, ← eg, q3, e8]
    rw [ej, ej2]
    have FSg : ∀ r', fr8 (8 * k) g r' → FS k r r' := fun r' F => ⟨fun o i h1 h2 h3 h4 => by rw [F.1 o i h1 h4]; exact gF o i h1 h2 h3, F.2.trans g2'⟩
    rcases s_reads (l := l) (r := g) (c := c) hL e hl (by rw [gF 0 21 (by omega) (by omega) (by omega)]; exact e') (fun i hi => by rw [gF 13 i (by omega) (by omega) (by omega)]; exact hl' i hi) ok (by omega : q + 1 ≤ L) (by omega : 8 * k + 8 ≤ 384) g22 with ⟨r', b1, b2, b3, b4, b5, b6, b7⟩ | ⟨r', e9, b1, b2, b3, b4, b5⟩
    · have n2 := s_next (l := l) (r := r') hL (by rw [b6.1 0 21 (by omega) (by omega), gF 0 21 (by omega) (by omega) (by omega)]; exact e') (fun i hi => by rw [b6.1 13 i (by omega) (by omega), gF 13 i (by omega) (by omega) (by omega)]; exact hl' i hi) b2 b4
      have r14 : r'.1 14 k = l q := by rw [b6.1 14 k (by omega) (by omega), eg, sI_n (by omega), sI_n (by omega), sI_y]
      have r15 : r'.1 15 k = nI q := by rw [b6.1 15 k (by omega) (by omega), eg, sI_n (by omega), sI_y]
      rw [b1, bd_s, i_10, n2, bd_s]
      have esp : q + 1 + sg (l q) + dn (l q) + 1 = q + sp (l q) := by unfold sp; omega
      rcases s_machE (l := l) (c := c) hL e hl (q := q + 1 + sg (l q) + dn (l q)) (f := 0) b2 with ⟨z1, z2, _⟩ | ⟨z1, _⟩
      · rw [if_pos z1, if_pos z2, vl_e, cz_1, b4, nI_1, esp]
        refine Or.inl ⟨_, rfl, ok, by unfold sp; omega, b3, sI_y, by rw [sI_n (by omega)]; exact r14, by rw [sI_n (by omega)]; exact r15, b5.c (fun i hi => by rw [sI_n (by omega)]), ⟨fun o i h1 h2 h3 h4 => by rw [sI_n h1]; exact (FSg r' b6).1 o i h1 h2 h3 h4, (FSg r' b6).2⟩, fun f x y => ?_⟩
        have e10 : f + sp (l q) = (f + 1 + (sg (l q) + dn (l q))) + 1 := by unfold sp; omega
        rw [e10, stp2, b7]
        rcases s_machE (l := l) (c := c) hL e hl (q := q + 1 + sg (l q) + dn (l q)) (f := f) b2 with ⟨_, _, y3⟩ | ⟨y1, _⟩
        · rw [y3, esp]
        · exact absurd ⟨z1, z2⟩ y1
      · have hz : ¬ (if q + 1 + sg (l q) + dn (l q) < L then l (q + 1 + sg (l q) + dn (l q)) else -1) = 59 := by
          by_cases d : q + 1 + sg (l q) + dn (l q) < L
          · rw [if_pos d]; exact fun h => z1 ⟨d, h⟩
          · rw [if_neg d]; decide
        rw [if_neg hz, cz_0]
        refine Or.inr ⟨r', q + 1 + sg (l q) + dn (l q), rfl, b2, b4, FSg r' b6, fun f x y hf => ?_⟩
        have hs1 : sg (l q) ≤ 1 := by unfold sg; split <;> omega
        obtain ⟨g', rfl⟩ : ∃ g', f = (g' + 1 + (sg (l q) + dn (l q))) + 1 := ⟨f - 2 - (sg (l q) + dn (l q)), by omega⟩
        rw [stp2, b7]
        rcases s_machE (l := l) (c := c) hL e hl (q := q + 1 + sg (l q) + dn (l q)) (f := g') b2 with ⟨y1, y2, _⟩ | ⟨_, y2⟩
        · exact absurd ⟨y1, y2⟩ z1
        · exact y2
    · rw [b1, bd_s, i_0, cz_0]
      refine Or.inr ⟨r', e9, rfl, b2, b3, FSg r' b4, fun f x y hf => ?_⟩
      obtain ⟨g', rfl⟩ : ∃ g', f = g' + 1 := ⟨f - 1, by omega⟩
      rw [stp2]
      exact b5 g' (by omega)
  · have ej : X11_statement r = some (0, r) := by
      unfold X11_statement
      rw [nx, bd_s, if_neg (fun h => nok (Or.inl h)), if_neg (fun h => nok (Or.inr (Or.inl h))), if_neg (fun h => nok (Or.inr (Or.inr (Or.inl h)))), if_neg (fun h => nok (Or.inr (Or.inr (Or.inr (Or.inl h))))), if_neg (fun h => nok (Or.inr (Or.inr (Or.inr (Or.inr (Or.inl h)))))), if_neg (fun h => nok (Or.inr (Or.inr (Or.inr (Or.inr (Or.inr (Or.inl h))))))), if_neg (fun h => nok (Or.inr (Or.inr (Or.inr (Or.inr (Or.inr (Or.inr h))))))), cz_0]
    rw [ej]
    refine Or.inr ⟨r, q, rfl, by omega, e2, ⟨fun _ _ _ _ _ _ => rfl, rfl⟩, fun f x y hf => ?_⟩
    obtain ⟨g', rfl⟩ : ∃ g', f = g' + 1 := ⟨f - 1, by omega⟩
    rw [stp, ed, bd_s, if_neg (by decide)]
theorem l_parse (hL : L ≤ 96) (e : c.1 0 6 = nI L) (hl : ∀ k, k < L → c.1 2 k = l k) {r : AH} (e' : r.1 0 21 = nI L) (hl' : ∀ k, k < L → r.1 13 k = l k) : ∀ (f fc k : Nat) (x y : Int32) (rt : AH), L + 3 < pos l k + f → L + 60 < pos l k + fc → pos l k ≤ L → 2 * k ≤ pos l k → rt.1 0 22 = nI (pos l k) → rt.1 0 23 = nI k → GF r rt → TOLD l L rt k →
    (∃ r' e9, X10_firstBadLetter_l9 fc 0 x y (nI (pos l k)) c = some (nI e9, c) ∧ X11_ground_l12 f 1 rt = X11_ground_j60 0 r' ∧ e9 ≤ L ∧ r'.1 0 22 = nI e9 ∧ GF r r') ∨
    (∃ r' K, X10_firstBadLetter_l9 fc 0 x y (nI (pos l k)) c = some (-1, c) ∧ X11_ground_l12 f 1 rt = X11_ground_j60 1 r' ∧ K ≤ 48 ∧ pos l K = L ∧ r'.1 0 23 = nI K ∧ TOLD l L r' K ∧ GF r r') := by
  have hs2 : ∀ x, 2 ≤ sp x := fun x => by unfold sp; omega
  have hs16 : ∀ x, sp x ≤ 20 := fun x => by
    have h1 : sg x ≤ 1 := by unfold sg; split <;> omega
    have h2 : dn x ≤ 13 := by unfold dn; repeat' split
                              all_goals omega
    unfold sp
    omega
  intro f
  induction f with
  | zero => intro fc k x y rt h1 h2 h3; omega
  | succ f ih =>
    intro fc k x y rt h1 h2 h3 h4 h22 h23 F TO
    have r21 : rt.1 0 21 = nI L := by rw [F.1 0 21 (by omega) (by omega) (by omega) (by omega)]; exact e'
    rw [X11_ground_l12.eq_2, i_10, h22, r21, h23]
    by_cases z : pos l k < L
    · rw [if_pos (nI_lt z (by omega))]
      unfold X11_ground_j34 X11_ground_j53
      rcases s_stmt (l := l) (r := rt) (c := c) hL e hl r21 (fun i hi => by rw [F.1 13 i (by omega) (by omega) (by omega) (by omega)]; exact hl' i hi) z (by omega : k < 48) h22 h23 with ⟨r', b1, b2, b3, b4, b5, b6, b7, b8, b9, b10⟩ | ⟨r', e9, b1, b2, b3, b4, b5⟩
      · have q23 : r'.1 0 23 = nI k := by rw [b9.1 0 23 (by omega) (by omega) (by omega) (by omega)]; exact h23
        rw [b1, bd_s, i_10, q23, vl_e, nI_1]
        obtain ⟨g', rfl⟩ : ∃ g', fc = g' + sp (l (pos l k)) := ⟨fc - sp (l (pos l k)), by have := hs16 (l (pos l k)); omega⟩
        rw [b10]
        have ps : pos l (k + 1) = pos l k + sp (l (pos l k)) := rfl
        rw [← ps] at b3 b5 ⊢
        have h2' := hs2 (l (pos l k))
        refine ih g' (k + 1) 0 (nI 0) (sI r' 0 23 (nI (k + 1))) (by omega) (by omega) b3 (by omega) (by rw [sI_n (by omega)]; exact b5) sI_y (F.tr ⟨fun o i o1 o2 o3 o4 => by rw [sI_n (by omega)]; exact b9.1 o i (by omega) (by omega) (by omega) (by omega), b9.2⟩) (fun i hi => ?_)
        by_cases d : i = k
        · subst d
          exact ⟨z, b2, by rw [sI_n (by omega)]; exact b6, by rw [sI_n (by omega)]; exact b7, b4, b3, b8.c (fun m hm => by rw [sI_n (by omega)])⟩
        · obtain ⟨t1, t2, t3, t4, t5, t6, t7⟩ := TO i (by omega)
          exact ⟨t1, t2, by rw [sI_n (by omega), b9.1 14 i (by omega) (by omega) (by omega) (by omega)]; exact t3, by rw [sI_n (by omega), b9.1 15 i (by omega) (by omega) (by omega) (by omega)]; exact t4, t5, t6, t7.c (fun m hm => by rw [sI_n (by omega), b9.1 16 _ (by omega) (by omega) (by omega) (by omega)])⟩
      · rw [b1, bd_s, i_0, vl_e]
        cases f with
        | zero => omega
        | succ f =>
          rw [X11_ground_l12.eq_2, i_0]
          refine Or.inl ⟨_, e9, b5 fc x y (by omega), rfl, b2, by rw [sI_n (by omega)]; exact b3, F.tr ⟨fun o i o1 o2 o3 o4 => by rw [sI_n (by omega)]; exact b4.1 o i (by omega) (by omega) (by omega) (by omega), b4.2⟩⟩
    · have hpL : pos l k = L := by omega
      rw [if_neg (nI_nlt (by omega) (by omega))]
      obtain ⟨g', rfl⟩ : ∃ g', fc = g' + 1 := ⟨fc - 1, by omega⟩
      rw [X10_firstBadLetter_l9.eq_2, e, if_pos (nI_le (by omega) (by omega)), i_0]
      by_cases zk : k = 0
      · subst zk
        have hL0 : L = 0 := hpL.symm
        subst hL0
        have nx := s_next (l := l) (r := rt) hL r21 (fun i hi => by omega) (Nat.le_refl 0) h22
        rw [if_neg (by omega)] at nx
        have ej : X11_statement rt = some (0, rt) := by
          unfold X11_statement
          rw [nx, bd_s, if_neg (by decide), if_neg (by decide), if_neg (by decide), if_neg (by decide), if_neg (by decide), if_neg (by decide), if_neg (by decide), cz_0]
        rw [if_pos (show nI 0 = 0 from rfl), if_pos (show nI 0 = 0 from rfl)]
        unfold X11_ground_j34 X11_ground_j53 X10_firstBadLetter_j144
        rw [ej, bd_s, i_0, vl_e, e]
        cases f with
        | zero => omega
        | succ f =>
          rw [X11_ground_l12.eq_2, i_0]
          exact Or.inl ⟨_, 0, rfl, rfl, Nat.le_refl 0, by rw [sI_n (by omega)]; exact h22, F.tr ⟨fun o i o1 o2 o3 o4 => by rw [sI_n (by omega)], rfl⟩⟩
      · rw [if_neg (nI_ne0 (by omega) (by omega)), if_neg (nI_ne0 (by omega) (by omega))]
        exact Or.inr ⟨rt, k, rfl, rfl, by omega, hpL, h23, TO, F⟩
end PA
end
section
/-! WHAT COMES, in mind and in place -/
def KR (r r' : AH) : Prop := (∀ k, ¬ (12 ≤ k ∧ k ≤ 16) → r'.1 0 k = r.1 0 k) ∧ ∀ o k, o = 1 ∨ (13 ≤ o ∧ o ≤ 19) ∨ 23 ≤ o → r'.1 o k = r.1 o k
theorem KR.rf {r : AH} : KR r r := ⟨fun _ _ => rfl, fun _ _ _ => rfl⟩
theorem KR.tr {r r' r2 : AH} (a : KR r r') (b : KR r' r2) : KR r r2 := ⟨fun k h => (b.1 k h).trans (a.1 k h), fun o k h => (b.2 o k h).trans (a.2 o k h)⟩
theorem KR.FT {r r' : AH} (f : FT r r') : KR r r' := ⟨fun k _ => f.1 0 k (by omega) (by omega) (by omega), fun o k h => f.1 o k (by omega) (by omega) (by omega)⟩
theorem KR.T {r r' : AH} (h1 : ∀ p q, p ≠ 10 → p ≠ 11 → p ≠ 12 → ¬ (p = 0 ∧ q = 16) → r'.1 p q = r.1 p q) : KR r r' := ⟨fun k h => h1 0 k (by omega) (by omega) (by omega) (by omega), fun o k h => h1 o k (by omega) (by omega) (by omega) (by omega)⟩
theorem KR.s {r : AH} {o k : Nat} {v : Int32} (h : (o = 0 ∧ 12 ≤ k ∧ k ≤ 16) ∨ (2 ≤ o ∧ o ≤ 9)) : KR r (sI r o k v) := ⟨fun k' h' => by rw [sI_n (by omega)], fun o' k' h' => by rw [sI_n (by omega)]⟩
theorem JC.s {c : AH} {o k : Nat} {v : Int32} (h : 52 ≤ o ∧ o < 62) : JC c (sI c o k v) := ⟨fun o' k' h' _ => by rw [sI_n (by omega)], fun _ _ => rfl, fun _ _ _ => rfl⟩
theorem JC.k {c : AH} {o v : Nat} (h : 52 ≤ o ∧ o < 62) : JC c (sK c o v) := ⟨fun o' k' h' _ => rfl, fun o' h' => by rw [sK_at, if_neg (by omega)], fun _ _ _ => rfl⟩
/-- both take it, or both refuse -/
def CO (c r : AH) (F G : Option (Int32 × AH)) : Prop := (∃ c' r' S G' N T, F = some (1, c') ∧ G = some (1, r') ∧ MR 52 c' r' S G' N T ∧ JC c c' ∧ KR r r') ∨ (∃ c' r', F = some (0, c') ∧ G = some (0, r') ∧ JC c c' ∧ KR r r')
section CM
variable {S G N T : Nat} {c r : AH}
theorem s_ct (M : MR 52 c r S G N T) {b off res : Int32} (hres : ∀ j, TA r N (min G N) T j → T < 3 * N + 3 * min G N → told (RJ r j) (r.1 0 14) b 0 = res ∧ (res = -9 ∨ res = -8 ∨ 0 ≤ res.toInt)) : CO c r (X10_tryComes b c) (X11_comesTry res off r) := by
  have hN := M.1.2.2.2.2.2.2.1
  obtain ⟨v, c1, r1, a1, a2, a3, a4, a5, M1⟩ := t_turn M (by omega)
  unfold X10_tryComes X11_comesTry
  rw [a1, bd_s, a2, bd_s]
  rcases a5 with ⟨o1, rfl⟩ | ⟨o1, o2, j, rfl, o3⟩
  · rw [if_neg (show ¬ (0 : Int32) ≤ -9 by decide), if_neg (show ¬ (0 : Int32) ≤ -9 by decide), cz_0, cz_0]
    exact Or.inr ⟨c1, r1, rfl, rfl, JC.FR a3, KR.FT a4⟩
  · have hj := o3.1
    obtain ⟨v2, r2, b1, b2, b3⟩ := m_turnR M1.1
    have ev : v2 = nI j := TV_u hN b3 (Or.inr ⟨o1, o2, j, rfl, o3⟩)
    subst ev
    have M2 : MR 52 c1 r2 S G N T := MR_r (RA.FT b2) M1
    have F2 : FT r r2 := a4.tr b2
    have hA2 : TA r2 N (min G N) T j := TA_c (RA.FT b2) (Nat.le_refl _) o3
    have hA0 : TA r N (min G N) T j := TA_c (RA.FT F2).sy (Nat.le_refl _) hA2
    obtain ⟨h1, h2⟩ := hres j hA0 o2
    have et : told (RJ r2 j) (r2.1 0 14) b 0 = res := by
      rw [← h1]
      unfold told RJ
      rw [F2.1 0 14 (by omega) (by omega) (by omega), F2.1 _ j (by omega) (by omega) (by omega), F2.1 _ j (by omega) (by omega) (by omega), F2.1 _ j (by omega) (by omega) (by omega)]
    obtain ⟨c4, r4, g1, g2, M4, g3, g4, g5, g6, g7, g8, g9⟩ := m_try (off := off) (b := b) (loss := 0) M2 (Or.inr (Or.inl rfl)) o2 hA2 (by rw [et]; exact h2)
    rw [et] at g2
    rw [if_pos (nI_pos' (by omega)), if_pos (nI_pos' (by omega)), g1, bd_s, cz_1, b1, bd_s, g2, bd_s, cz_1]
    exact Or.inl ⟨c4, r4, S, G, N, T + 1, rfl, rfl, M4, (JC.FR a3).tr (JC.T g3 g5), (KR.FT F2).tr (KR.T g6)⟩
theorem CO.pre {r0 : AH} {F H : Option (Int32 × AH)} (h : CO c r F H) (k : KR r0 r) : CO c r0 F H := by
  rcases h with ⟨c', r', S, G', N, T, h1, h2, h3, h4, h5⟩ | ⟨c', r', h1, h2, h4, h5⟩
  · exact Or.inl ⟨c', r', S, G', N, T, h1, h2, h3, h4, k.tr h5⟩
  · exact Or.inr ⟨c', r', h1, h2, h4, k.tr h5⟩
theorem CO.cz {F H : Option (Int32 × AH)} (h : CO c r F H) : CO c r (bd F fun a h => cz a (some (a, h))) (bd H fun a h => cz a (some (a, h))) := by
  rcases h with ⟨c', r', S, G', N, T, h1, h2, h3, h4, h5⟩ | ⟨c', r', h1, h2, h4, h5⟩
  · rw [h1, h2, bd_s, bd_s, cz_1, cz_1]
    exact Or.inl ⟨c', r', S, G', N, T, rfl, rfl, h3, h4, h5⟩
  · rw [h1, h2, bd_s, bd_s, cz_0, cz_0]
    exact Or.inr ⟨c', r', rfl, rfl, h4, h5⟩
/-- a try of LENGTH from b -/
theorem s_tt (M : MR 52 c r S G N T) {b : Nat} (hb : b < 1000) : CO c r (X10_tryComes (nI b) c) (bd (X11_turnNow r) fun r18 h19 => if 0 ≤ r18 then bd (X11_turnNow h19) fun r20 h21 => bd (X11_lengthOf r20 (nI b) 0 h21) fun r22 h23 => X11_comes_j194 (nI b) r22 h23 else X11_comes_j194 (nI b) 0 h19) := by
  have hN := M.1.2.2.2.2.2.2.1
  obtain ⟨v, r1, a1, a2, a3⟩ := m_turnR M.1
  have M1 : MR 52 c r1 S G N T := MR_r (RA.FT a2) M
  have a3 := TV_c (RA.FT a2) a3
  have j194 : ∀ (x : Int32) (g : AH), X11_comes_j194 (nI b) x g = bd (X11_comesTry x (nI b) g) fun a h => cz a (some (a, h)) := fun _ _ => rfl
  have wr : ∀ {r0 : AH} {F H : Option (Int32 × AH)}, CO c r0 F H → CO c r0 F (bd H fun a h => cz a (some (a, h))) := by
    intro r0 F H h
    rcases h with ⟨c', r', S, G', N, T, h1, h2, h3, h4, h5⟩ | ⟨c', r', h1, h2, h4, h5⟩
    · rw [h2, bd_s, cz_1]
      exact Or.inl ⟨c', r', S, G', N, T, h1, rfl, h3, h4, h5⟩
    · rw [h2, bd_s, cz_0]
      exact Or.inr ⟨c', r', h1, rfl, h4, h5⟩
  rw [a1, bd_s]
  rcases a3 with ⟨o1, rfl⟩ | ⟨o1, o2, j, rfl, o3⟩
  · rw [if_neg (show ¬ (0 : Int32) ≤ -9 by decide), j194]
    refine (wr (s_ct M1 (fun j hA hT => ?_))).pre (KR.FT a2)
    have := hA.1
    omega
  · have hj := o3.1
    have hj4 : j < 4 := by omega
    obtain ⟨v2, r2, b1, b2, b3⟩ := m_turnR M1.1
    have ev : v2 = nI j := TV_u hN b3 (Or.inr ⟨o1, o2, j, rfl, o3⟩)
    subst ev
    have M2 : MR 52 c r2 S G N T := MR_r (RA.FT b2) M1
    have hA2 : TA r2 N (min G N) T j := TA_c (RA.FT b2) (Nat.le_refl _) o3
    rw [if_pos (nI_pos' (by omega)), b1, bd_s, s_lenR hj4, bd_s, j194]
    refine (wr (s_ct M2 (fun i hA hT => ?_))).pre ((KR.FT a2).tr (KR.FT b2))
    have ei := TA_u hN hA hA2
    subst ei
    have nn := told_nn (r := r2) (j := i) (b := nI b) (loss := 0) (M2.1.2.2.2.2.2.2.2.2.2.1 i hj4) M2.1.2.2.2.2.2.2.2.2.1 (by rw [toInt_nI (by omega)]; omega) (by rw [toInt_nI (by omega)]; omega) (by decide) (by decide)
    have et : told (RJ r2 i) (r2.1 0 14) (nI b) 0 = lenS (r2.1 2 i) (r2.1 3 i) (r2.1 7 i) (r2.1 0 14) (nI b) 0 := by
      unfold told
      rw [if_pos (nI_pos' (by omega))]
      rfl
    rw [et] at nn
    exact ⟨et, Or.inr (Or.inr nn)⟩
/-- STRIDES, GO ON, WIND come -/
theorem s_cn (M : MR 52 c r S G N T) {v : Nat} (hv : v < 1000) : CO c r (X10_stridesCome (nI v) c) (vl (sI r 0 12 (nI v)) fun h14 => bd (X11_isIn (nI v) 4 20 h14) fun r15 h16 => if r15 = 0 then cz 0 (some (0, h16)) else if h16.1 0 16 = 0 then cz 1 (some (1, h16)) else cz 0 (some (0, h16))) := by
  obtain ⟨rS, rG, rN, rT, hS, hG, hN, hT, hWW, hJ, hH⟩ := id M.1
  have kr : KR r (sI r 0 12 (nI v)) := KR.s (Or.inl (by omega))
  have r16 : (sI r 0 12 (nI v)).1 0 16 = nI T := by rw [sI_n (by omega)]; exact rT
  unfold X10_stridesCome X10_stridesCome_j24 X10_stridesCome_j25
  show CO c r _ (bd (X11_isIn (nI v) 4 20 (sI r 0 12 (nI v))) fun r15 h16 => if r15 = 0 then cz 0 (some (0, h16)) else if h16.1 0 16 = 0 then cz 1 (some (1, h16)) else cz 0 (some (0, h16)))
  rw [s_isIn, bd_s, M.2.1.2.2.2.2, s_outside, bd_s, r16]
  have t4 : (4 : Int32).toInt = 4 := rfl
  have t20 : (20 : Int32).toInt = 20 := rfl
  by_cases z : T = 0
  · subst z
    rw [if_pos (show nI 0 = 0 from rfl), if_pos (show nI 0 = 0 from rfl)]
    by_cases h1 : nI v < 4
    · rw [if_pos h1, if_pos (Or.inl h1), i_4, i_0, i_0, cz_0, cz_0]
      exact Or.inr ⟨c, _, rfl, rfl, JC.rf, kr⟩
    · by_cases h2 : 20 < nI v
      · rw [if_neg h1, if_pos h2, if_pos (Or.inr h2), i_6, i_0, i_0, cz_0, cz_0]
        exact Or.inr ⟨c, _, rfl, rfl, JC.rf, kr⟩
      · have h12 : ¬ (nI v < 4 ∨ 20 < nI v) := fun h => h.elim h1 h2
        rw [if_neg h1, if_neg h2, if_neg h12, i_0, i_10, i_10, vl_e, cz_1, cz_1]
        rw [fa_lt, toInt_nI (by omega)] at h1 h2
        refine Or.inl ⟨_, _, v, G, N, 0, rfl, rfl, MR_0 M (Nat.le_refl 0) (Or.inl rfl) ⟨by omega, by omega⟩ hG ?_ sI_y ?_ ?_ ?_ ?_ (fun p k hp => by rw [sI_n (by omega)]) rfl sI_y ?_ ?_ ?_ (fun p k hp => by rw [sI_n (by omega)]), JC.s (by omega), kr⟩
        · rw [sI_n (by omega)]; exact hWW
        · rw [sI_n (by omega), sI_n (by omega)]; exact M.2.1.2.1
        · rw [sI_n (by omega)]; exact M.2.1.2.2.1
        · rw [sI_n (by omega)]
        · rw [sI_n (by omega)]; exact M.2.1.2.2.2.2
        · rw [sI_n (by omega)]; exact rG
        · rw [sI_n (by omega)]
        · rw [sI_n (by omega)]; exact rT
  · rw [if_neg (nI_ne0 (by omega) (by omega)), if_neg (nI_ne0 (by omega) (by omega)), i_0, cz_0, cz_0]
    have e : ∀ (P : Prop) [Decidable P] (x : Option (Int32 × AH)), (if P then x else x) = x := fun P _ x => by split <;> rfl
    rw [e]
    exact Or.inr ⟨c, _, rfl, rfl, JC.rf, kr⟩
theorem s_cg (M : MR 52 c r S G N T) {v : Nat} (hv : v < 1000) : CO c r (X10_goOnComes (nI v) c) (vl (sI r 0 13 (nI v)) fun h14 => bd (X11_isIn (nI v) 1 4 h14) fun r15 h16 => if r15 = 0 then cz 0 (some (0, h16)) else if h16.1 0 16 = 0 then cz 1 (some (1, h16)) else cz 0 (some (0, h16))) := by
  obtain ⟨rS, rG, rN, rT, hS, hG, hN, hT, hWW, hJ, hH⟩ := id M.1
  have kr : KR r (sI r 0 13 (nI v)) := KR.s (Or.inl (by omega))
  have r16 : (sI r 0 13 (nI v)).1 0 16 = nI T := by rw [sI_n (by omega)]; exact rT
  unfold X10_goOnComes X10_goOnComes_j23 X10_goOnComes_j24
  show CO c r _ (bd (X11_isIn (nI v) 1 4 (sI r 0 13 (nI v))) fun r15 h16 => if r15 = 0 then cz 0 (some (0, h16)) else if h16.1 0 16 = 0 then cz 1 (some (1, h16)) else cz 0 (some (0, h16)))
  rw [s_isIn, bd_s, M.2.1.2.2.2.2, s_outside, bd_s, r16]
  have t4 : (4 : Int32).toInt = 4 := rfl
  have t1 : (1 : Int32).toInt = 1 := rfl
  by_cases z : T = 0
  · subst z
    rw [if_pos (show nI 0 = 0 from rfl), if_pos (show nI 0 = 0 from rfl)]
    by_cases h1 : nI v < 1
    · rw [if_pos h1, if_pos (Or.inl h1), i_4, i_0, i_0, cz_0, cz_0]
      exact Or.inr ⟨c, _, rfl, rfl, JC.rf, kr⟩
    · by_cases h2 : 4 < nI v
      · rw [if_neg h1, if_pos h2, if_pos (Or.inr h2), i_6, i_0, i_0, cz_0, cz_0]
        exact Or.inr ⟨c, _, rfl, rfl, JC.rf, kr⟩
      · have h12 : ¬ (nI v < 1 ∨ 4 < nI v) := fun h => h.elim h1 h2
        rw [if_neg h1, if_neg h2, if_neg h12, i_0, i_10, i_10, vl_e, cz_1, cz_1]
        rw [fa_lt, toInt_nI (by omega)] at h1 h2
        refine Or.inl ⟨_, _, S, v, N, 0, rfl, rfl, MR_0 M (Nat.le_refl 0) (Or.inr rfl) hS ⟨by omega, by omega⟩ ?_ ?_ ?_ sI_y ?_ ?_ (fun p k hp => by rw [sI_n (by omega)]) rfl ?_ sI_y ?_ ?_ (fun p k hp => by rw [sI_n (by omega)]), JC.s (by omega), kr⟩
        · rw [sI_n (by omega)]; exact hWW
        · rw [sI_n (by omega)]; exact M.2.1.1
        · rw [sI_n (by omega), sI_n (by omega)]; exact M.2.1.2.1
        · rw [sI_n (by omega)]
        · rw [sI_n (by omega)]; exact M.2.1.2.2.2.2
        · rw [sI_n (by omega)]; exact rS
        · rw [sI_n (by omega)]
        · rw [sI_n (by omega)]; exact rT
  · rw [if_neg (nI_ne0 (by omega) (by omega)), if_neg (nI_ne0 (by omega) (by omega)), i_0, cz_0, cz_0]
    have e : ∀ (P : Prop) [Decidable P] (x : Option (Int32 × AH)), (if P then x else x) = x := fun P _ x => by split <;> rfl
    rw [e]
    exact Or.inr ⟨c, _, rfl, rfl, JC.rf, kr⟩
theorem s_cw (M : MR 52 c r S G N T) {x : Int32} (hx : WW x) : CO c r (vl (sI c 52 1 x) fun h1 => cz 1 (some (1, h1))) (vl (sI r 0 14 x) fun h27 => cz 1 (some (1, h27))) := by
  obtain ⟨rS, rG, rN, rT, hS, hG, hN, hT, hWW, hJ, hH⟩ := id M.1
  rw [vl_e, vl_e, cz_1, cz_1]
  refine Or.inl ⟨_, _, S, G, N, T, rfl, rfl, MR_0 M (Nat.le_refl T) (Or.inl rfl) hS hG ?_ ?_ ?_ ?_ ?_ ?_ (fun p k hp => by rw [sI_n (by omega)]) rfl ?_ ?_ ?_ ?_ (fun p k hp => by rw [sI_n (by omega)]), JC.s (by omega), KR.s (Or.inl (by omega))⟩
  · rw [sI_y]; exact hx
  · rw [sI_n (by omega)]; exact M.2.1.1
  · rw [sI_y, sI_y]
  · rw [sI_n (by omega)]; exact M.2.1.2.2.1
  · rw [sI_n (by omega)]
  · rw [sI_n (by omega)]; exact M.2.1.2.2.2.2
  · rw [sI_n (by omega)]; exact rS
  · rw [sI_n (by omega)]; exact rG
  · rw [sI_n (by omega)]
  · rw [sI_n (by omega)]; exact rT
end CM
end
section
/-! A JUMPER COMES -/
def CJ (v : Nat → Int32) (N T : Nat) : Prop := ¬ 5 < v 0 ∧ ¬ v 2 < 40 ∧ ¬ 6 < v 4 ∧ ¬ v 5 < 20 ∧ ¬ 4 < v 6 ∧ ¬ 2400 < v 7 ∧ N < 4 ∧ T = 0
def jR (r : AH) (N : Nat) (v : Nat → Int32) : AH := sI (sI (sI (sI (sI (sI (sI (sI (sI r 2 N (v 0)) 3 N (v 1)) 4 N (v 2)) 5 N (v 3)) 6 N (v 4)) 7 N (v 5)) 8 N (v 6)) 9 N (v 7)) 0 15 (nI (N + 1))
def jC (c : AH) (o N κ : Nat) (v : Nat → Int32) : AH := sI (sI (sI (sI (sI (sI (sI (sI (sI (sK c o κ) o 1 (v 0)) o 2 (v 1)) o 3 (v 2)) o 4 (v 3)) o 5 (v 4)) o 6 (v 5)) o 7 (v 6)) o 8 (v 7)) 52 3 (nI (N + 1))
section JU
variable {S G N T : Nat} {c r : AH}
theorem jR_at (v : Nat → Int32) (o k : Nat) : (jR r N v).1 o k = if o = 0 ∧ k = 15 then nI (N + 1) else if o = 9 ∧ k = N then v 7 else if o = 8 ∧ k = N then v 6 else if o = 7 ∧ k = N then v 5 else if o = 6 ∧ k = N then v 4 else if o = 5 ∧ k = N then v 3 else if o = 4 ∧ k = N then v 2 else if o = 3 ∧ k = N then v 1 else if o = 2 ∧ k = N then v 0 else r.1 o k := rfl
theorem jC_at (p κ : Nat) (v : Nat → Int32) (o k : Nat) : (jC c p N κ v).1 o k = if o = 52 ∧ k = 3 then nI (N + 1) else if o = p ∧ k = 8 then v 7 else if o = p ∧ k = 7 then v 6 else if o = p ∧ k = 6 then v 5 else if o = p ∧ k = 5 then v 4 else if o = p ∧ k = 4 then v 3 else if o = p ∧ k = 3 then v 2 else if o = p ∧ k = 2 then v 1 else if o = p ∧ k = 1 then v 0 else c.1 o k := rfl
theorem s_cjR (rN : r.1 0 15 = nI N) (rT : r.1 0 16 = nI T) (hN : N ≤ 4) (hT : T ≤ 24) {a : Nat} (ha : a + 8 ≤ 384) {v : Nat → Int32} (hv : ∀ i, i < 8 → r.1 16 (a + i) = v i) : (CJ v N T ∧ X11_comesJumper (nI a) r = some (1, jR r N v)) ∨ (¬ CJ v N T ∧ X11_comesJumper (nI a) r = some (0, r)) := by
  have v0 : r.1 16 a = v 0 := hv 0 (by omega)
  have g : ∀ i : Nat, nI a + nI i = nI (a + i) := fun i => nI_add a i
  have g1 : nI a + 1 = nI (a + 1) := g 1
  have g2 : nI a + 2 = nI (a + 2) := g 2
  have g3 : nI a + 3 = nI (a + 3) := g 3
  have g4 : nI a + 4 = nI (a + 4) := g 4
  have g5 : nI a + 5 = nI (a + 5) := g 5
  have g6 : nI a + 6 = nI (a + 6) := g 6
  have g7 : nI a + 7 = nI (a + 7) := g 7
  unfold X11_comesJumper
  simp only [g1, g2, g3, g4, g5, g6, g7, ck_nI _ (show a < 384 by omega) (show 384 < 2 ^ 31 by decide), ck_nI _ (show a + 1 < 384 by omega) (show 384 < 2 ^ 31 by decide), ck_nI _ (show a + 2 < 384 by omega) (show 384 < 2 ^ 31 by decide), ck_nI _ (show a + 3 < 384 by omega) (show 384 < 2 ^ 31 by decide), ck_nI _ (show a + 4 < 384 by omega) (show 384 < 2 ^ 31 by decide), ck_nI _ (show a + 5 < 384 by omega) (show 384 < 2 ^ 31 by decide), ck_nI _ (show a + 6 < 384 by omega) (show 384 < 2 ^ 31 by decide), ck_nI _ (show a + 7 < 384 by omega) (show 384 < 2 ^ 31 by decide), nI_clamp (show a < 2 ^ 31 by omega), nI_clamp (show a + 1 < 2 ^ 31 by omega), nI_clamp (show a + 2 < 2 ^ 31 by omega), nI_clamp (show a + 3 < 2 ^ 31 by omega), nI_clamp (show a + 4 < 2 ^ 31 by omega), nI_clamp (show a + 5 < 2 ^ 31 by omega), nI_clamp (show a + 6 < 2 ^ 31 by omega), nI_clamp (show a + 7 < 2 ^ 31 by omega), v0, hv 2 (by omega), hv 4 (by omega), hv 5 (by omega), hv 6 (by omega), hv 7 (by omega), rN, rT, cz_0]
  by_cases h0 : 5 < v 0
  · rw [if_pos h0]; exact Or.inr ⟨fun h => h.1 h0, rfl⟩
  rw [if_neg h0]
  by_cases h2 : v 2 < 40
  · rw [if_pos h2]; exact Or.inr ⟨fun h => h.2.1 h2, rfl⟩
  rw [if_neg h2]
  by_cases h4 : 6 < v 4
  · rw [if_pos h4]; exact Or.inr ⟨fun h => h.2.2.1 h4, rfl⟩
  rw [if_neg h4]
  by_cases h5 : v 5 < 20
  · rw [if_pos h5]; exact Or.inr ⟨fun h => h.2.2.2.1 h5, rfl⟩
  rw [if_neg h5]
  by_cases h6 : 4 < v 6
  · rw [if_pos h6]; exact Or.inr ⟨fun h => h.2.2.2.2.1 h6, rfl⟩
  rw [if_neg h6]
  by_cases h7 : 2400 < v 7
  · rw [if_pos h7]; exact Or.inr ⟨fun h => h.2.2.2.2.2.1 h7, rfl⟩
  rw [if_neg h7]
  by_cases h8 : N = 4
  · rw [if_pos (by rw [h8]; rfl)]; exact Or.inr ⟨fun h => by have := h.2.2.2.2.2.2.1; omega, rfl⟩
  rw [if_neg (show ¬ nI N = 4 from fun h => h8 ((nI_eq (b := 4) (by omega) (by decide)).mp h))]
  by_cases h9 : T = 0
  · rw [if_pos (show nI T ≤ 0 by rw [h9]; decide)]
    refine Or.inl ⟨⟨h0, h2, h4, h5, h6, h7, by omega, h9⟩, ?_⟩
    have hN4 : N < 4 := by omega

    have n1 : (sI r 2 N (v 0)).1 0 15 = nI N := by rw [sI_n (by omega)]; exact rN
    have w1 : (sI r 2 N (v 0)).1 16 (a + 1) = v 1 := by rw [sI_n (by omega)]; exact hv 1 (by omega)
    have n2 : (sI (sI r 2 N (v 0)) 3 N (v 1)).1 0 15 = nI N := by rw [sI_n (by omega), sI_n (by omega)]; exact rN
    have w2 : (sI (sI r 2 N (v 0)) 3 N (v 1)).1 16 (a + 2) = v 2 := by rw [sI_n (by omega), sI_n (by omega)]; exact hv 2 (by omega)
    have n3 : (sI (sI (sI r 2 N (v 0)) 3 N (v 1)) 4 N (v 2)).1 0 15 = nI N := by rw [sI_n (by omega), sI_n (by omega), sI_n (by omega)]; exact rN
    have w3 : (sI (sI (sI r 2 N (v 0)) 3 N (v 1)) 4 N (v 2)).1 16 (a + 3) = v 3 := by rw [sI_n (by omega), sI_n (by omega), sI_n (by omega)]; exact hv 3 (by omega)
    have n4 : (sI (sI (sI (sI r 2 N (v 0)) 3 N (v 1)) 4 N (v 2)) 5 N (v 3)).1 0 15 = nI N := by rw [sI_n (by omega), sI_n (by omega), sI_n (by omega), sI_n (by omega)]; exact rN
    have w4 : (sI (sI (sI (sI r 2 N (v 0)) 3 N (v 1)) 4 N (v 2)) 5 N (v 3)).1 16 (a + 4) = v 4 := by rw [sI_n (by omega), sI_n (by omega), sI_n (by omega), sI_n (by omega)]; exact hv 4 (by omega)
    have n5 : (sI (sI (sI (sI (sI r 2 N (v 0)) 3 N (v 1)) 4 N (v 2)) 5 N (v 3)) 6 N (v 4)).1 0 15 = nI N := by rw [sI_n (by omega), sI_n (by omega), sI_n (by omega), sI_n (by omega), sI_n (by omega)]; exact rN
    have w5 : (sI (sI (sI (sI (sI r 2 N (v 0)) 3 N (v 1)) 4 N (v 2)) 5 N (v 3)) 6 N (v 4)).1 16 (a + 5) = v 5 := by rw [sI_n (by omega), sI_n (by omega), sI_n (by omega), sI_n (by omega), sI_n (by omega)]; exact hv 5 (by omega)
    have n6 : (sI (sI (sI (sI (sI (sI r 2 N (v 0)) 3 N (v 1)) 4 N (v 2)) 5 N (v 3)) 6 N (v 4)) 7 N (v 5)).1 0 15 = nI N := by rw [sI_n (by omega), sI_n (by omega), sI_n (by omega), sI_n (by omega), sI_n (by omega), sI_n (by omega)]; exact rN
    have w6 : (sI (sI (sI (sI (sI (sI r 2 N (v 0)) 3 N (v 1)) 4 N (v 2)) 5 N (v 3)) 6 N (v 4)) 7 N (v 5)).1 16 (a + 6) = v 6 := by rw [sI_n (by omega), sI_n (by omega), sI_n (by omega), sI_n (by omega), sI_n (by omega), sI_n (by omega)]; exact hv 6 (by omega)
    have n7 : (sI (sI (sI (sI (sI (sI (sI r 2 N (v 0)) 3 N (v 1)) 4 N (v 2)) 5 N (v 3)) 6 N (v 4)) 7 N (v 5)) 8 N (v 6)).1 0 15 = nI N := by rw [sI_n (by omega), sI_n (by omega), sI_n (by omega), sI_n (by omega), sI_n (by omega), sI_n (by omega), sI_n (by omega)]; exact rN
    have w7 : (sI (sI (sI (sI (sI (sI (sI r 2 N (v 0)) 3 N (v 1)) 4 N (v 2)) 5 N (v 3)) 6 N (v 4)) 7 N (v 5)) 8 N (v 6)).1 16 (a + 7) = v 7 := by rw [sI_n (by omega), sI_n (by omega), sI_n (by omega), sI_n (by omega), sI_n (by omega), sI_n (by omega), sI_n (by omega)]; exact hv 7 (by omega)
    have n8 : (sI (sI (sI (sI (sI (sI (sI (sI r 2 N (v 0)) 3 N (v 1)) 4 N (v 2)) 5 N (v 3)) 6 N (v 4)) 7 N (v 5)) 8 N (v 6)) 9 N (v 7)).1 0 15 = nI N := by rw [sI_n (by omega), sI_n (by omega), sI_n (by omega), sI_n (by omega), sI_n (by omega), sI_n (by omega), sI_n (by omega), sI_n (by omega)]; exact rN
    simp only [vl_e, ck_nI _ hN4 (show 4 < 2 ^ 31 by decide), nI_clamp (show N < 2 ^ 31 by omega), n1, n2, n3, n4, n5, n6, n7, n8, w1, w2, w3, w4, w5, w6, w7, nI_1, cz_1]
    rfl
  · rw [if_neg (nI_nle (by omega) (by omega))]
    exact Or.inr ⟨fun h => h9 h.2.2.2.2.2.2.2, rfl⟩
theorem s_cjC {l : Nat → Int32} {L : Nat} (hL : L ≤ 96) (e : c.1 0 6 = nI L) (hl : ∀ k, k < L → c.1 2 k = l k) (cN : c.1 52 3 = nI N) (cT : c.1 52 4 = nI T) (hN : N ≤ 4) (hT : T ≤ 24) {q : Nat} (hq : q + 14 ≤ L) {v : Nat → Int32} (h0 : numS l (q + 1) 1 = v 0) (h1 : numS l (q + 2) 1 = v 1) (h2 : numS l (q + 3) 2 = v 2) (h3 : numS l (q + 5) 1 = v 3) (h4 : numS l (q + 6) 1 = v 4) (h5 : numS l (q + 7) 2 = v 5) (h6 : numS l (q + 9) 1 = v 6) (h7 : numS l (q + 10) 4 = v 7) {κ : Nat} (hκ : κ < 10) (hk : v 0 = nI κ) :
    (CJ v N T ∧ X10_jumperComes (nI q) c = some (1, jC c (58 + N) N κ v)) ∨ (¬ CJ v N T ∧ ∃ c', X10_jumperComes (nI q) c = some (0, c') ∧ JC c c') := by
  have nm : ∀ (h : AH) (k n : Nat), h.1 0 6 = c.1 0 6 → (∀ i, h.1 2 i = c.1 2 i) → q + k + n ≤ L → X10_number (nI (q + k)) (nI n) h = some (numS l (q + k) n, h) := fun h k n a1 a2 a3 => s_numC hL (by rw [a1]; exact e) (fun i hi => by rw [a2 i]; exact hl i hi) a3
  have g : ∀ i : Nat, nI q + nI i = nI (q + i) := fun i => nI_add q i
  have g1 : nI q + 1 = nI (q + 1) := g 1
  have g2 : nI q + 2 = nI (q + 2) := g 2
  have g3 : nI q + 3 = nI (q + 3) := g 3
  have g5 : nI q + 5 = nI (q + 5) := g 5
  have g6 : nI q + 6 = nI (q + 6) := g 6
  have g7 : nI q + 7 = nI (q + 7) := g 7
  have g9 : nI q + 9 = nI (q + 9) := g 9
  have g10 : nI q + 10 = nI (q + 10) := g 10
  unfold X10_jumperComes
  have x0 : X10_number (nI (q + 1)) 1 c = some (v 0, c) := by rw [← h0]; exact nm c 1 1 rfl (fun _ => rfl) (by omega)
  rw [g1, x0, bd_s, cT, cN]
  by_cases z : T = 0
  · rw [if_neg (show ¬ 0 < nI T by rw [z]; decide)]
    by_cases zN : N < 4
    · rw [if_neg (show ¬ (4 : Int32) ≤ nI N from nI_ge (b := 4) zN (by decide)), s_outside, bd_s, hk, if_neg (nI_pos (by omega))]
      by_cases zk : 5 < nI κ
      · rw [if_pos zk, i_6, cz_0]
        exact Or.inr ⟨fun h => h.1 (by rw [hk]; exact zk), c, rfl, JC.rf⟩
      · rw [if_neg zk, i_0, cN, s_at 52 zN, bd_s, cs_in _ (zc_j (o := 52) (Or.inr (Or.inl rfl)) zN)]
        have hκ6 : κ < 6 := by
          rw [fa_lt, toInt_nI (by omega)] at zk
          have t5 : (5 : Int32).toInt = 5 := rfl
          omega
        rw [ck_nI _ hκ6 (by decide), nI_clamp (by omega), ← hk]
        obtain ⟨p, hp⟩ : ∃ p, p = 52 + 6 + N := ⟨_, rfl⟩
        have hp2 : 58 ≤ p ∧ p < 62 := by omega
        rw [← hp]
        have y1 : X10_number (nI (q + 2)) 1 (sI (sK c p κ) p 1 (v 0)) = some (v 1, (sI (sK c p κ) p 1 (v 0))) := by rw [← h1]; exact nm _ 2 1 (by rw [sI_n (by omega)]; rfl) (fun _ => by rw [sI_n (by omega)]; rfl) (by omega)
        have y2 : X10_number (nI (q + 3)) 2 (sI (sI (sK c p κ) p 1 (v 0)) p 2 (v 1)) = some (v 2, (sI (sI (sK c p κ) p 1 (v 0)) p 2 (v 1))) := by rw [← h2]; exact nm _ 3 2 (by rw [sI_n (by omega), sI_n (by omega)]; rfl) (fun _ => by rw [sI_n (by omega), sI_n (by omega)]; rfl) (by omega)
        have y3 : X10_number (nI (q + 5)) 1 (sI (sI (sI (sK c p κ) p 1 (v 0)) p 2 (v 1)) p 3 (v 2)) = some (v 3, (sI (sI (sI (sK c p κ) p 1 (v 0)) p 2 (v 1)) p 3 (v 2))) := by rw [← h3]; exact nm _ 5 1 (by rw [sI_n (by omega), sI_n (by omega), sI_n (by omega)]; rfl) (fun _ => by rw [sI_n (by omega), sI_n (by omega), sI_n (by omega)]; rfl) (by omega)
        have y4 : X10_number (nI (q + 6)) 1 (sI (sI (sI (sI (sK c p κ) p 1 (v 0)) p 2 (v 1)) p 3 (v 2)) p 4 (v 3)) = some (v 4, (sI (sI (sI (sI (sK c p κ) p 1 (v 0)) p 2 (v 1)) p 3 (v 2)) p 4 (v 3))) := by rw [← h4]; exact nm _ 6 1 (by rw [sI_n (by omega), sI_n (by omega), sI_n (by omega), sI_n (by omega)]; rfl) (fun _ => by rw [sI_n (by omega), sI_n (by omega), sI_n (by omega), sI_n (by omega)]; rfl) (by omega)
        have y5 : X10_number (nI (q + 7)) 2 (sI (sI (sI (sI (sI (sK c p κ) p 1 (v 0)) p 2 (v 1)) p 3 (v 2)) p 4 (v 3)) p 5 (v 4)) = some (v 5, (sI (sI (sI (sI (sI (sK c p κ) p 1 (v 0)) p 2 (v 1)) p 3 (v 2)) p 4 (v 3)) p 5 (v 4))) := by rw [← h5]; exact nm _ 7 2 (by rw [sI_n (by omega), sI_n (by omega), sI_n (by omega), sI_n (by omega), sI_n (by omega)]; rfl) (fun _ => by rw [sI_n (by omega), sI_n (by omega), sI_n (by omega), sI_n (by omega), sI_n (by omega)]; rfl) (by omega)
        have y6 : X10_number (nI (q + 9)) 1 (sI (sI (sI (sI (sI (sI (sK c p κ) p 1 (v 0)) p 2 (v 1)) p 3 (v 2)) p 4 (v 3)) p 5 (v 4)) p 6 (v 5)) = some (v 6, (sI (sI (sI (sI (sI (sI (sK c p κ) p 1 (v 0)) p 2 (v 1)) p 3 (v 2)) p 4 (v 3)) p 5 (v 4)) p 6 (v 5))) := by rw [← h6]; exact nm _ 9 1 (by rw [sI_n (by omega), sI_n (by omega), sI_n (by omega), sI_n (by omega), sI_n (by omega), sI_n (by omega)]; rfl) (fun _ => by rw [sI_n (by omega), sI_n (by omega), sI_n (by omega), sI_n (by omega), sI_n (by omega), sI_n (by omega)]; rfl) (by omega)
        have y7 : X10_number (nI (q + 10)) 4 (sI (sI (sI (sI (sI (sI (sI (sK c p κ) p 1 (v 0)) p 2 (v 1)) p 3 (v 2)) p 4 (v 3)) p 5 (v 4)) p 6 (v 5)) p 7 (v 6)) = some (v 7, (sI (sI (sI (sI (sI (sI (sI (sK c p κ) p 1 (v 0)) p 2 (v 1)) p 3 (v 2)) p 4 (v 3)) p 5 (v 4)) p 6 (v 5)) p 7 (v 6))) := by rw [← h7]; exact nm _ 10 4 (by rw [sI_n (by omega), sI_n (by omega), sI_n (by omega), sI_n (by omega), sI_n (by omega), sI_n (by omega), sI_n (by omega)]; rfl) (fun _ => by rw [sI_n (by omega), sI_n (by omega), sI_n (by omega), sI_n (by omega), sI_n (by omega), sI_n (by omega), sI_n (by omega)]; rfl) (by omega)
        have yN : (sI (sI (sI (sI (sI (sI (sI (sI (sK c p κ) p 1 (v 0)) p 2 (v 1)) p 3 (v 2)) p 4 (v 3)) p 5 (v 4)) p 6 (v 5)) p 7 (v 6)) p 8 (v 7)).1 52 3 = nI N := by rw [sI_n (by omega), sI_n (by omega), sI_n (by omega), sI_n (by omega), sI_n (by omega), sI_n (by omega), sI_n (by omega), sI_n (by omega)]; exact cN
        simp only [vl_e, g2, g3, g5, g6, g7, g9, g10, y1, y2, y3, y4, y5, y6, y7, bd_s, yN, nI_1]
        have eh : sI (sI (sI (sI (sI (sI (sI (sI (sI (sK c p κ) p 1 (v 0)) p 2 (v 1)) p 3 (v 2)) p 4 (v 3)) p 5 (v 4)) p 6 (v 5)) p 7 (v 6)) p 8 (v 7)) 52 3 (nI (N + 1)) = jC c p N κ v := rfl
        rw [eh]
        have f3 : (jC c p N κ v).1 p 3 = v 2 := by rw [jC_at, if_neg (by omega), if_neg (by omega), if_neg (by omega), if_neg (by omega), if_neg (by omega), if_neg (by omega), if_pos ⟨rfl, rfl⟩]
        have f5 : (jC c p N κ v).1 p 5 = v 4 := by rw [jC_at, if_neg (by omega), if_neg (by omega), if_neg (by omega), if_neg (by omega), if_pos ⟨rfl, rfl⟩]
        have f6 : (jC c p N κ v).1 p 6 = v 5 := by rw [jC_at, if_neg (by omega), if_neg (by omega), if_neg (by omega), if_pos ⟨rfl, rfl⟩]
        have f7 : (jC c p N κ v).1 p 7 = v 6 := by rw [jC_at, if_neg (by omega), if_neg (by omega), if_pos ⟨rfl, rfl⟩]
        have f8 : (jC c p N κ v).1 p 8 = v 7 := by rw [jC_at, if_neg (by omega), if_pos ⟨rfl, rfl⟩]
        have jc : JC c (jC c p N κ v) := ⟨fun o k h _ => by rw [jC_at, if_neg (by omega), if_neg (by omega), if_neg (by omega), if_neg (by omega), if_neg (by omega), if_neg (by omega), if_neg (by omega), if_neg (by omega), if_neg (by omega)], fun o h => by show (if o = p then κ else c.2.2 o) = c.2.2 o; rw [if_neg (by omega)], fun _ _ _ => rfl⟩
        rw [f3, f5, f6, f7, f8, cz_0, cz_1]
        have k0 : ¬ 5 < v 0 := by rw [hk]; exact zk
        by_cases a2 : v 2 < 40
        · rw [if_pos a2]; exact Or.inr ⟨fun h => h.2.1 a2, _, rfl, jc⟩
        rw [if_neg a2]
        by_cases a4 : 6 < v 4
        · rw [if_pos a4]; exact Or.inr ⟨fun h => h.2.2.1 a4, _, rfl, jc⟩
        rw [if_neg a4]
        by_cases a5 : v 5 < 20
        · rw [if_pos a5]; exact Or.inr ⟨fun h => h.2.2.2.1 a5, _, rfl, jc⟩
        rw [if_neg a5]
        by_cases a6 : 4 < v 6
        · rw [if_pos a6]; exact Or.inr ⟨fun h => h.2.2.2.2.1 a6, _, rfl, jc⟩
        rw [if_neg a6]
        by_cases a7 : 2400 < v 7
        · rw [if_pos a7]; exact Or.inr ⟨fun h => h.2.2.2.2.2.1 a7, _, rfl, jc⟩
        rw [if_neg a7]
        exact Or.inl ⟨⟨k0, a2, a4, a5, a6, a7, zN, z⟩, rfl⟩
    · rw [if_pos (show (4 : Int32) ≤ nI N from nI_le (a := 4) (by omega) (by omega)), cz_0]
      exact Or.inr ⟨fun h => zN h.2.2.2.2.2.2.1, c, rfl, JC.rf⟩
  · rw [if_pos (show (0 : Int32) < nI T from nI_lt (a := 0) (by omega) (by omega)), cz_0]
    exact Or.inr ⟨fun h => z h.2.2.2.2.2.2.2, c, rfl, JC.rf⟩
end JU
end
section
/-! ONE STATEMENT COMES, on both sides -/
section MJ
variable {S G N T : Nat} {c r : AH}
theorem MR_J (M : MR 52 c r S G N 0) (hN : N < 4) {v : Nat → Int32} {κ : Nat} (hκ : κ < 6) (hk : v 0 = nI κ) (hJ : NJ (fun k => v (k - 1))) : MR 52 (jC c (58 + N) N κ v) (jR r N v) S G (N + 1) 0 := by
  obtain ⟨⟨r1, r2, r3, r4, hS, hG, hN', hT', hW, hJ4, hH⟩, h2, h3, h4⟩ := M
  have eR : ∀ i, i < 4 → ∀ k, 1 ≤ k → k ≤ 8 → RJ (jR r N v) i k = if i = N then v (k - 1) else RJ r i k := by
    intro i hi k k1 k2
    show (jR r N v).1 (k + 1) i = if i = N then v (k - 1) else r.1 (k + 1) i
    rw [jR_at, if_neg (by omega)]
    by_cases y : i = N
    · subst y
      rw [if_pos rfl]
      rcases (by omega : k = 1 ∨ k = 2 ∨ k = 3 ∨ k = 4 ∨ k = 5 ∨ k = 6 ∨ k = 7 ∨ k = 8) with d | d | d | d | d | d | d | d <;> subst d <;> simp
    · rw [if_neg y, if_neg (by omega), if_neg (by omega), if_neg (by omega), if_neg (by omega), if_neg (by omega), if_neg (by omega), if_neg (by omega), if_neg (by omega)]
  have eC : ∀ i, i < 4 → ∀ k, 1 ≤ k → k ≤ 8 → (jC c (58 + N) N κ v).1 (52 + 6 + i) k = if i = N then v (k - 1) else c.1 (52 + 6 + i) k := by
    intro i hi k k1 k2
    rw [jC_at, if_neg (by omega)]
    by_cases y : i = N
    · subst y
      rw [if_pos rfl]
      rcases (by omega : k = 1 ∨ k = 2 ∨ k = 3 ∨ k = 4 ∨ k = 5 ∨ k = 6 ∨ k = 7 ∨ k = 8) with d | d | d | d | d | d | d | d <;> subst d <;> simp
    · rw [if_neg y, if_neg (by omega), if_neg (by omega), if_neg (by omega), if_neg (by omega), if_neg (by omega), if_neg (by omega), if_neg (by omega), if_neg (by omega)]
  have cr : ∀ k, 10 < k ∧ k < 15 ∨ k = 16 → (jR r N v).1 0 k = r.1 0 k := fun k hk => by rw [jR_at, if_neg (by omega), if_neg (by omega), if_neg (by omega), if_neg (by omega), if_neg (by omega), if_neg (by omega), if_neg (by omega), if_neg (by omega), if_neg (by omega)]
  have cc : ∀ k, k < 5 → k ≠ 3 → (jC c (58 + N) N κ v).1 52 k = c.1 52 k := fun k h1 h2 => by rw [jC_at, if_neg (by omega), if_neg (by omega), if_neg (by omega), if_neg (by omega), if_neg (by omega), if_neg (by omega), if_neg (by omega), if_neg (by omega), if_neg (by omega)]
  refine ⟨⟨by rw [cr 12 (by omega)]; exact r1, by rw [cr 13 (by omega)]; exact r2, by rw [jR_at, if_pos ⟨rfl, rfl⟩], by rw [cr 16 (by omega)]; exact r4, hS, hG, by omega, by omega, by rw [cr 14 (by omega)]; exact hW, fun i hi => ?_, fun t ht => absurd ht (by omega)⟩, ⟨by rw [cc 0 (by omega) (by omega)]; exact h2.1, by rw [cc 1 (by omega) (by omega), cr 14 (by omega)]; exact h2.2.1, by rw [cc 2 (by omega) (by omega)]; exact h2.2.2.1, by rw [jC_at, if_pos ⟨rfl, rfl⟩], by rw [cc 4 (by omega) (by omega)]; exact h2.2.2.2.2⟩, fun i hi => ⟨fun k k1 k2 => ?_, ?_⟩, fun t ht => absurd ht (by omega)⟩
  · by_cases y : i = N
    · refine NJ_J (fun k k1 k2 => ?_) hJ
      rw [eR i hi k k1 k2, if_pos y]
    · refine NJ_J (fun k k1 k2 => ?_) (hJ4 i hi)
      rw [eR i hi k k1 k2, if_neg y]
  · rw [eC i hi k k1 k2, eR i hi k k1 k2]
    by_cases y : i = N
    · rw [if_pos y, if_pos y]
    · rw [if_neg y, if_neg y]
      exact (h3 i hi).1 k k1 k2
  · by_cases y : i = N
    · refine ⟨κ, hκ, ?_, ?_⟩
      · show (if 52 + 6 + i = 58 + N then κ else c.2.2 (52 + 6 + i)) = κ
        rw [if_pos (by omega)]
      · rw [eC i hi 1 (by omega) (by omega), if_pos y]
        exact hk
    · obtain ⟨κ', x, y', w⟩ := (h3 i hi).2
      refine ⟨κ', x, ?_, ?_⟩
      · show (if 52 + 6 + i = 58 + N then κ else c.2.2 (52 + 6 + i)) = κ'
        rw [if_neg (by omega)]
        exact y'
      · rw [eC i hi 1 (by omega) (by omega), if_neg y]
        exact w
theorem s_comes (M : MR 52 c r S G N T) {l : Nat → Int32} {L : Nat} (hL : L ≤ 96) (e : c.1 0 6 = nI L) (hl : ∀ k, k < L → c.1 2 k = l k) {q k : Nat} (hk : k < 48) (hq : q < L) (ok : okL (l q)) (h14 : r.1 14 k = l q) (hD : DG l L (q + 1 + sg (l q)) (dn (l q))) (hend : q + sp (l q) ≤ L) (hTN : TN l r (8 * k) q (l q)) : CO c r (X10_comes (nI q) c) (X11_comes (nI k) r) := by
  have hT24 := T24' M
  have hN4 := M.1.2.2.2.2.2.2.1
  have e8 : (8 : Int32) * nI k = nI (8 * k) := pk_mul 8 k
  have g1 : nI q + 1 = nI (q + 1) := nI_1 q
  have g2 : nI q + 2 = nI (q + 2) := nI_add q 2
  unfold X10_comes X11_comes
  rw [ck_nI _ (by omega) (by decide), nI_clamp (by omega), hl q hq, vl_e, vl_e, e8, ck_nI _ (by omega) (by decide), vl_e, ck_nI _ (by omega) (by decide), vl_e, nI_clamp (by omega), nI_clamp (by omega), h14]
  obtain ⟨tg, tn, tj, tw⟩ := hTN
  rcases ok with h | h | h | h | h | h | h
  · -- n
    rw [h] at hD hend tn ⊢
    have D2 : DG l L (q + 1) 2 := hD
    obtain ⟨x, hx, ex⟩ := num_b 2 (by decide) D2
    have nm := s_numC (l := l) hL e hl (p := q + 1) (n := 2) (by have : sp 110 = 4 := by decide
                                                                 omega)
    have nm : X10_number (nI (q + 1)) 2 c = _ := nm
    have t := tn (Or.inl rfl)
    rw [ex] at t nm
    have H := (s_cn M (v := x) (by omega)).cz
    rw [t]
    simp only [show ((110 : Int32) = 102) = False from eq_false (by decide), show ((110 : Int32) = 103) = False from eq_false (by decide), show ((110 : Int32) = 106) = False from eq_false (by decide), if_false, if_true, g1, nm, bd_s]
    rcases s_cn M (v := x) (by omega) with ⟨c', r', S, G', N, T, h1, h2, h3, h4, h5⟩ | ⟨c', r', h1, h2, h4, h5⟩
    · rw [h1, bd_s, cz_1]
      exact Or.inl ⟨c', r', S, G', N, T, rfl, h2, h3, h4, h5⟩
    · rw [h1, bd_s, cz_0]
      exact Or.inr ⟨c', r', rfl, h2, h4, h5⟩
  · -- w
    rw [h] at hD hend tw ⊢
    have D1 : DG l L (q + 2) 1 := hD
    obtain ⟨x, hx, ex⟩ := num_b 1 (by decide) D1
    have nm := s_numC (l := l) hL e hl (p := q + 2) (n := 1) (by have : sp 119 = 4 := by decide
                                                                 omega)
    have nm : X10_number (nI (q + 2)) 1 c = _ := nm
    rw [ex] at nm
    have hq1 : q + 1 < L := by have : sp 119 = 4 := by decide
                               omega
    have mi : X10_isMinus (nI (q + 1)) c = some (if l (q + 1) = 45 then 1 else 0, c) := by
      unfold X10_isMinus
      rw [e, if_neg (nI_ge hq1 (by omega)), ck_nI _ (by omega) (by decide), nI_clamp (by omega), hl _ hq1]
      split
      · rw [cz_1]
      · rw [cz_0]
    simp only [show ((119 : Int32) = 102) = False from eq_false (by decide), show ((119 : Int32) = 103) = False from eq_false (by decide), show ((119 : Int32) = 106) = False from eq_false (by decide), show ((119 : Int32) = 110) = False from eq_false (by decide), show ((119 : Int32) = 112) = False from eq_false (by decide), show ((119 : Int32) = 116) = False from eq_false (by decide), if_false, if_true, g1, g2, mi, nm, bd_s]
    unfold X10_windComes X10_windComes_j14
    have tx : (nI x).toInt = x := toInt_nI (by omega)
    have nx : (-nI x).toInt = -(x : Int) := by rw [fb_negI (by rw [tx]; omega), tx]
    have w : ∀ y : Int32, WW y → r.1 16 (8 * k) = y → CO c r (bd (vl (sI c 52 1 y) fun h1 => cz 1 (some (1, h1))) fun a h => cz a (some (a, h))) (vl (sI r 0 14 (r.1 16 (8 * k))) fun h27 => cz 1 (some (1, h27))) := by
      intro y hy ey
      rw [ey]
      rcases s_cw M hy with ⟨c', r', S, G', N, T, h1, h2, h3, h4, h5⟩ | ⟨c', r', h1, h2, h4, h5⟩
      · rw [h1, bd_s, cz_1]
        exact Or.inl ⟨c', r', S, G', N, T, rfl, h2, h3, h4, h5⟩
      · rw [h1, bd_s, cz_0]
        exact Or.inr ⟨c', r', rfl, h2, h4, h5⟩
    rcases tw rfl with ⟨a1, a2⟩ | ⟨a1, a2, a3⟩
    · rw [if_neg (show ¬ l (q + 1) = 45 by rw [a1]; decide), if_pos rfl]
      exact w (nI x) (ww_of (by omega) (by omega)) (by rw [a2, ex, Int32.mul_one])
    · rw [if_pos a2, if_neg (by decide)]
      exact w (-nI x) (ww_of (by omega) (by omega)) (by rw [a3, ex, Int32.mul_neg, Int32.mul_one])
  · -- g
    rw [h] at hD hend tg ⊢
    have D2 : DG l L (q + 1) 1 := hD
    obtain ⟨x, hx, ex⟩ := num_b 1 (by decide) D2
    have nm := s_numC (l := l) hL e hl (p := q + 1) (n := 1) (by have : sp 103 = 3 := by decide
                                                                 omega)
    have nm : X10_number (nI (q + 1)) 1 c = _ := nm
    have t := tg rfl
    rw [ex] at t nm
    rw [t]
    simp only [show ((103 : Int32) = 102) = False from eq_false (by decide), if_false, if_true, g1, nm, bd_s]
    rcases s_cg M (v := x) (by omega) with ⟨c', r', S, G', N, T, h1, h2, h3, h4, h5⟩ | ⟨c', r', h1, h2, h4, h5⟩
    · rw [h1, bd_s, cz_1]
      exact Or.inl ⟨c', r', S, G', N, T, rfl, h2, h3, h4, h5⟩
    · rw [h1, bd_s, cz_0]
      exact Or.inr ⟨c', r', rfl, h2, h4, h5⟩
  · -- j
    rw [h] at hD hend tj ⊢
    have D13 : DG l L (q + 1) 13 := hD
    obtain ⟨t0, t1, t2, t3, t4, t5, t6, t7⟩ := tj rfl
    have es : sp 106 = 15 := by decide
    have hq14 : q + 14 ≤ L := by omega
    obtain ⟨κ, x0, y0⟩ := num_b 1 (by decide) (D13.sub (m := 1) (by decide))
    obtain ⟨b1, x1, y1⟩ := num_b 1 (by decide) (D13.at (k := 1) (m := 1) (by decide))
    obtain ⟨b2, x2, y2⟩ := num_b 2 (by decide) (D13.at (k := 2) (m := 2) (by decide))
    obtain ⟨b3, x3, y3⟩ := num_b 1 (by decide) (D13.at (k := 4) (m := 1) (by decide))
    obtain ⟨b4, x4, y4⟩ := num_b 1 (by decide) (D13.at (k := 5) (m := 1) (by decide))
    obtain ⟨b5, x5, y5⟩ := num_b 2 (by decide) (D13.at (k := 6) (m := 2) (by decide))
    obtain ⟨b6, x6, y6⟩ := num_b 1 (by decide) (D13.at (k := 8) (m := 1) (by decide))
    obtain ⟨b7, x7, y7⟩ := num_b 4 (by decide) (D13.at (k := 9) (m := 4) (by decide))
    simp only [show ((106 : Int32) = 102) = False from eq_false (by decide), show ((106 : Int32) = 103) = False from eq_false (by decide), if_false, if_true]
    obtain ⟨v, ev⟩ : ∃ v : Nat → Int32, v = fun i => r.1 16 (8 * k + i) := ⟨_, rfl⟩
    have hv : ∀ i, i < 8 → r.1 16 (8 * k + i) = v i := fun i _ => by rw [ev]
    have w0 : v 0 = nI κ := by rw [← hv 0 (by omega), t0]; exact y0
    have w1 : v 1 = nI b1 := by rw [← hv 1 (by omega), t1]; exact y1
    have w2 : v 2 = nI b2 := by rw [← hv 2 (by omega), t2]; exact y2
    have w3 : v 3 = nI b3 := by rw [← hv 3 (by omega), t3]; exact y3
    have w4 : v 4 = nI b4 := by rw [← hv 4 (by omega), t4]; exact y4
    have w5 : v 5 = nI b5 := by rw [← hv 5 (by omega), t5]; exact y5
    have w6 : v 6 = nI b6 := by rw [← hv 6 (by omega), t6]; exact y6
    have w7 : v 7 = nI b7 := by rw [← hv 7 (by omega), t7]; exact y7
    refine CO.cz ?_
    have C := s_cjC (c := c) (N := N) (T := T) (v := v) (κ := κ) hL e hl M.2.1.2.2.2.1 M.2.1.2.2.2.2 hN4 hT24 hq14 (by rw [← hv 0 (by omega), t0]) (by rw [← hv 1 (by omega), t1]) (by rw [← hv 2 (by omega), t2]) (by rw [← hv 3 (by omega), t3]) (by rw [← hv 4 (by omega), t4]) (by rw [← hv 5 (by omega), t5]) (by rw [← hv 6 (by omega), t6]) (by rw [← hv 7 (by omega), t7]) (by omega) w0
    have R := s_cjR (r := r) (N := N) (T := T) (a := 8 * k) (v := v) M.1.2.2.1 M.1.2.2.2.1 hN4 hT24 (by omega) hv
    rcases C with ⟨C1, C2⟩ | ⟨C1, c', C2, C3⟩
    · rcases R with ⟨R1, R2⟩ | ⟨R1, R2⟩
      · obtain ⟨k0, k2, k4, k5, k6, k7, kN, kT⟩ := C1
        subst kT
        rw [w0, fa_lt, toInt_nI (by omega)] at k0
        rw [w4, fa_lt, toInt_nI (by omega)] at k4
        rw [w6, fa_lt, toInt_nI (by omega)] at k6
        rw [w7, fa_lt, toInt_nI (by omega)] at k7
        have q5 : (5 : Int32).toInt = 5 := rfl
        have q6 : (6 : Int32).toInt = 6 := rfl
        have q4 : (4 : Int32).toInt = 4 := rfl
        have q24 : (2400 : Int32).toInt = 2400 := rfl
        have hJ : NJ (fun k => v (k - 1)) := ⟨κ, b1, b2, b3, b4, b5, b6, b7, by omega, by omega, by omega, by omega, by omega, by omega, by omega, by omega, w0, w1, w2, w3, w4, w5, w6, w7⟩
        refine Or.inl ⟨_, _, S, G, N + 1, 0, C2, R2, MR_J M kN (by omega) w0 hJ, ⟨fun o i ho _ => ?_, fun o ho => ?_, fun _ _ _ => rfl⟩, ⟨fun i hi => ?_, fun o i ho => ?_⟩⟩
        · rw [jC_at, if_neg (by omega), if_neg (by omega), if_neg (by omega), if_neg (by omega), if_neg (by omega), if_neg (by omega), if_neg (by omega), if_neg (by omega), if_neg (by omega)]
        · show (if o = 58 + N then κ else c.2.2 o) = c.2.2 o
          rw [if_neg (by omega)]
        · rw [jR_at, if_neg (by omega), if_neg (by omega), if_neg (by omega), if_neg (by omega), if_neg (by omega), if_neg (by omega), if_neg (by omega), if_neg (by omega), if_neg (by omega)]
        · rw [jR_at, if_neg (by omega), if_neg (by omega), if_neg (by omega), if_neg (by omega), if_neg (by omega), if_neg (by omega), if_neg (by omega), if_neg (by omega), if_neg (by omega)]
      · exact absurd C1 R1
    · rcases R with ⟨R1, R2⟩ | ⟨R1, R2⟩
      · exact absurd R1 C1
      · exact Or.inr ⟨c', r, C2, R2, C3, KR.rf⟩
  · -- t
    rw [h] at hD hend tn ⊢
    have D2 : DG l L (q + 1) 2 := hD
    obtain ⟨x, hx, ex⟩ := num_b 2 (by decide) D2
    have nm := s_numC (l := l) hL e hl (p := q + 1) (n := 2) (by have : sp 116 = 4 := by decide
                                                                 omega)
    have nm : X10_number (nI (q + 1)) 2 c = _ := nm
    have t := tn (Or.inr rfl)
    rw [ex] at t nm
    rw [t]
    simp only [show ((116 : Int32) = 102) = False from eq_false (by decide), show ((116 : Int32) = 103) = False from eq_false (by decide), show ((116 : Int32) = 106) = False from eq_false (by decide), show ((116 : Int32) = 110) = False from eq_false (by decide), show ((116 : Int32) = 112) = False from eq_false (by decide), if_false, if_true, g1, nm, bd_s]
    rcases s_tt M (b := x) (by omega) with ⟨c', r', S, G', N, T, h1, h2, h3, h4, h5⟩ | ⟨c', r', h1, h2, h4, h5⟩
    · rw [h1, bd_s, cz_1]
      exact Or.inl ⟨c', r', S, G', N, T, rfl, h2, h3, h4, h5⟩
    · rw [h1, bd_s, cz_0]
      exact Or.inr ⟨c', r', rfl, h2, h4, h5⟩
  · -- f
    rw [h]
    simp only [if_true]
    exact (s_ct M (b := -9) (off := 0) (res := -9) (fun j _ _ => ⟨by unfold told; rw [if_neg (by decide)], Or.inl rfl⟩)).cz
  · -- p
    rw [h]
    simp only [show ((112 : Int32) = 102) = False from eq_false (by decide), show ((112 : Int32) = 103) = False from eq_false (by decide), show ((112 : Int32) = 106) = False from eq_false (by decide), show ((112 : Int32) = 110) = False from eq_false (by decide), show ((112 : Int32) = 116) = False from eq_false (by decide), show ((112 : Int32) = 119) = False from eq_false (by decide), if_false, if_true]
    exact (s_ct M (b := -8) (off := 0) (res := -8) (fun j _ _ => ⟨by unfold told; rw [if_neg (by decide)], Or.inr (Or.inl rfl)⟩)).cz
end MJ
end
section
/-! GROUND -/
theorem inv_end {c r c' r' : AH} (I : Inv c r) (m : ∃ S G N T, MR 42 c' r' S G N T) (h6 : c'.1 0 6 = 0) (h21 : r'.1 0 21 = 0) (h8 : c'.1 0 8 = c.1 0 8) (h34 : r'.1 0 34 = r.1 0 34) (h3 : ∀ k, c'.1 3 k = c.1 3 k) (h23 : ∀ k, r'.1 23 k = r.1 23 k) (p : PCi c c') (q : PRi r r') : Inv c' r' := by
  obtain ⟨n, n1, n2, n3, n4⟩ := I.2.2.2.1
  exact inv_g I m ⟨0, by omega, h6, h21, fun k hk => absurd hk (by omega)⟩ ⟨n, n1, by rw [h8]; exact n2, by rw [h34]; exact n3, fun k hk => by rw [h3, h23]; exact n4 k hk⟩ p q
section GR
variable {S G N T : Nat} {c r : AH} {l : Nat → Int32} {L : Nat}
theorem s_span {x : Int32} (ok : okL x) (h : AH) : X10_span x h = some (nI (sp x), h) := by
  unfold X10_span X10_span_j14
  rcases s_let x h with ⟨_, e⟩ | ⟨n, _⟩
  · rw [e, bd_s, if_pos (nI_pos' (by have : dn x ≤ 13 := by unfold dn; repeat' split
                                                            all_goals omega
                                     omega))]
    unfold sp sg
    by_cases z : x = 119
    · rw [if_pos z, if_pos z]
      have e3 : nI (dn x) + 3 = nI (dn x + 3) := nI_add _ 3
      rw [e3]
      congr 3
      omega
    · rw [if_neg z, if_neg z]
      have e3 : nI (dn x) + 2 = nI (dn x + 2) := nI_add _ 2
      rw [e3]
      congr 3
      omega
  · exact absurd ok n
theorem l_mind {c1 r1 : AH} (hL : L ≤ 96) (e : c1.1 0 6 = nI L) (hl : ∀ k, k < L → c1.1 2 k = l k) {K : Nat} (hK : K ≤ 48) (hp : pos l K = L) (hT : TOLD l L r1 K) (h23 : r1.1 0 23 = nI K) : ∀ (f k : Nat) (ct rt : AH) (S G N T : Nat), K < k + f → k ≤ K → MR 52 ct rt S G N T → JC c1 ct → KR r1 rt →
    (∃ c' r' S' G' N' T', X10_statementsInMind_l15 f (nI k) (nI (pos l k)) ct = some (nI K, c') ∧ X11_ground_l86 f (nI k) rt = some (nI K, r') ∧ MR 52 c' r' S' G' N' T' ∧ JC c1 c' ∧ KR r1 r') ∨
    (∃ c' r' q, q ≤ L ∧ X10_statementsInMind_l15 f (nI k) (nI (pos l k)) ct = some (-2000 - nI q, c') ∧ X11_ground_l86 f (nI k) rt = (bd (X11_passesAll 1 0 r') fun _ h9 => some (-2000 - nI q, h9)) ∧ JC c1 c' ∧ KR r1 r') := by
  intro f
  induction f with
  | zero => intro k ct rt S G N T h1 h2; omega
  | succ f ih =>
    intro k ct rt S G N T h1 h2 M p q
    have e6 : ct.1 0 6 = nI L := by rw [p.1 0 6 (by omega) (by omega)]; exact e
    have r23 : rt.1 0 23 = nI K := by rw [q.1 23 (by omega)]; exact h23
    rw [X10_statementsInMind_l15.eq_2, X11_ground_l86.eq_2, e6, r23]
    by_cases z : k = K
    · subst z
      rw [hp, if_pos (Int32.le_refl _), if_pos (Int32.le_refl _)]
      exact Or.inl ⟨ct, rt, S, G, N, T, rfl, rfl, M, p, q⟩
    · obtain ⟨t1, t2, t3, t4, t5, t6, t7⟩ := hT k (by omega)
      have hlc : ∀ i, i < L → ct.1 2 i = l i := fun i hi => by rw [p.1 2 i (by omega) (by omega)]; exact hl i hi
      have C := s_comes M (l := l) (L := L) hL e6 hlc (q := pos l k) (k := k) (by omega) t1 t2 (by rw [q.2 14 k (by omega)]; exact t3) t5 t6 (t7.c (fun i hi => q.2 16 _ (by omega)))
      rw [if_neg (nI_ge t1 (by omega)), if_neg (nI_ge (by omega) (by omega))]
      rcases C with ⟨c', r', S', G', N', T', a1, a2, a3, a4, a5⟩ | ⟨c', r', a1, a2, a4, a5⟩
      · have p' := p.tr a4
        have q' := q.tr a5
        have ps : nI (pos l k) + nI (sp (l (pos l k))) = nI (pos l (k + 1)) := nI_add _ _
        have c2 : c'.1 2 (pos l k) = l (pos l k) := by rw [p'.1 2 _ (by omega) (by omega)]; exact hl _ t1
        rw [a1, bd_s, i_10, vl_e, ck_nI _ (by omega) (by decide), nI_clamp (by omega), c2, s_span t2, bd_s, vl_e, ps, nI_1, a2, bd_s, i_10, vl_e]
        exact ih (k + 1) c' r' S' G' N' T' (by omega) (by omega) a3 p' q'
      · have q' := q.tr a5
        have r15 : r'.1 15 k = nI (pos l k) := by rw [q'.2 15 k (by omega)]; exact t4
        rw [a1, bd_s, i_0, a2, bd_s, i_0]
        refine Or.inr ⟨c', r', pos l k, by omega, rfl, ?_, p.tr a4, q'⟩
        obtain ⟨h9, b1, b2, b3⟩ := s_backAll (h := r') (w := 1) (by omega)
        have b1 : X11_passesAll 1 0 r' = some ((), h9) := b1
        rw [b1, bd_s, bd_s, ck_nI _ (by omega) (by decide), nI_clamp (by omega), b2 15 k (by omega) (by omega), r15]
end GR
theorem RA_rst1 {T : Nat} {r r' : AH} (hT : T ≤ 24) (h : ∀ k, r'.1 17 k = r.1 17 k) : RA T (rst 1 r) (rst 1 r') := by
  refine ⟨fun k h1 h2 => ?_, fun o k h1 h2 h3 => ?_, fun t ht => ?_⟩
  · rw [rst_at, rst_at, if_neg (by omega), if_neg (by omega), if_pos (by omega), if_neg (by omega), if_neg (by omega), if_pos (by omega)]
    exact h _
  · rw [rst_at, rst_at, if_pos (by omega), if_pos (by omega)]
    exact h _
  · have key : ∀ o, o = 10 ∨ o = 11 → (rst 1 r').1 o t = (rst 1 r).1 o t := by
      intro o ho
      rw [rst_at, rst_at, if_neg (by omega), if_pos (by omega), if_neg (by omega), if_pos (by omega)]
      exact h _
    exact ⟨key 10 (Or.inl rfl), key 11 (Or.inr rfl)⟩
theorem o_ground {c r : AH} (I : Inv c r) : SimE (X10_ground c) (X11_ground r) Inv := by
  obtain ⟨⟨S, G, N, T, M⟩, hW, ⟨L, l1, l2, l3, l4⟩, ⟨n, n1, n2, n3, n4⟩, hRF, hIM⟩ := id I
  have h24 := T24 M
  obtain ⟨l, el⟩ : ∃ l : Nat → Int32, l = fun k => c.1 2 k := ⟨_, rfl⟩
  have hl : ∀ k, k < L → c.1 2 k = l k := fun k _ => by rw [el]
  have hl' : ∀ k, k < L → r.1 13 k = l k := fun k hk => by rw [← hl k hk]; exact (l4 k hk).symm
  obtain ⟨r0, er0⟩ : ∃ r0, r0 = sI (sI r 0 22 0) 0 23 0 := ⟨_, rfl⟩
  have F0 : GF r r0 := by
    rw [er0]
    exact ⟨fun o k _ _ _ h => by rw [sI_n (by omega), sI_n (by omega)], rfl⟩
  have P := l_parse (l := l) (c := c) (r := r) l1 l2 hl l3 hl' FU FU 0 0 0 r0 (by show L + 3 < 0 + FU; unfold FU; omega) (by show L + 60 < 0 + FU; unfold FU; omega) (Nat.zero_le _) (Nat.le_refl _) (by rw [er0, sI_n (by omega), sI_y]; rfl) (by rw [er0, sI_y]; rfl) F0 (fun k hk => absurd hk (by omega))
  have eC : X10_ground c = bd (X10_firstBadLetter_l9 FU 0 0 0 (nI 0) c) fun r1 h2 => if r1 = -1 then bd (X10_statementsInMind h2) fun r3 h4 => X10_ground_j22 r3 h4 else X10_ground_j22 (-1000 - r1) h2 := rfl
  have eR : X11_ground r = X11_ground_l12 FU 1 r0 := by rw [er0]; rfl
  rw [eC, eR]
  rcases P with ⟨r', e9, b1, b2, b3, b4, b5⟩ | ⟨r', K, b1, b2, b3, b4, b5, b6, b7⟩
  · have b1 : X10_firstBadLetter_l9 FU 0 0 0 (nI 0) c = _ := b1
    have ne : ¬ nI e9 = -1 := fun h => by
      have : (nI e9).toInt = (-1 : Int32).toInt := by rw [h]
      rw [toInt_nI (by omega)] at this
      have t1 : (-1 : Int32).toInt = -1 := rfl
      omega
    have t1000 : (-1000 : Int32).toInt = -1000 := rfl
    have t0 : (0 : Int32).toInt = 0 := rfl
    have neg : -1000 - nI e9 < 0 := by
      rw [fa_lt, fb_subI (by rw [toInt_nI (by omega)]; omega) (by rw [toInt_nI (by omega)]; omega), toInt_nI (by omega)]
      omega
    rw [b1, bd_s, if_neg ne, b2]
    unfold X10_ground_j22 X11_ground_j60
    rw [vl_e, if_pos neg, vl_e, i_0, sI_n (by omega), b4]
    have gk : ∀ o k, o ≠ 14 → o ≠ 15 → o ≠ 16 → ¬ (o = 0 ∧ (k = 21 ∨ k = 22 ∨ k = 23)) → (sI r' 0 21 0).1 o k = r.1 o k := fun o k h1 h2 h3 h4 => by rw [sI_n (by omega)]; exact b5.1 o k h1 h2 h3 (by omega)
    refine SimE.mk' rfl rfl rfl (inv_end I ⟨S, G, N, T, MR_k M (fun o k h1 h2 => by rw [sI_n (by omega)]) (fun _ _ _ => rfl) ⟨fun k h1 h2 => gk 0 k (by omega) (by omega) (by omega) (by omega), fun o k h1 h2 _ => gk o k (by omega) (by omega) (by omega) (by omega), fun t _ => ⟨gk 10 t (by omega) (by omega) (by omega) (by omega), gk 11 t (by omega) (by omega) (by omega) (by omega)⟩⟩⟩ sI_y sI_y (by rw [sI_n (by omega)]) (gk 0 34 (by omega) (by omega) (by omega) (by omega)) (fun k => by rw [sI_n (by omega)]) (fun k => gk 23 k (by omega) (by omega) (by omega) (by omega)) ⟨by rw [sI_n (by omega)], fun k => by rw [sI_n (by omega)], fun o k h1 h2 => by rw [sI_n (by omega)], fun _ _ _ => rfl, fun _ _ _ => rfl⟩ ⟨gk 0 25 (by omega) (by omega) (by omega) (by omega), fun k => gk 1 k (by omega) (by omega) (by omega) (by omega), fun k _ => gk 17 k (by omega) (by omega) (by omega) (by omega)⟩)
  · have b1 : X10_firstBadLetter_l9 FU 0 0 0 (nI 0) c = _ := b1
    obtain ⟨ra, era⟩ : ∃ ra, ra = sI r' 0 21 0 := ⟨_, rfl⟩
    have ga : ∀ o k, o ≠ 14 → o ≠ 15 → o ≠ 16 → ¬ (o = 0 ∧ (k = 21 ∨ k = 22 ∨ k = 23)) → ra.1 o k = r.1 o k := fun o k h1 h2 h3 h4 => by rw [era, sI_n (by omega)]; exact b7.1 o k h1 h2 h3 (by omega)
    obtain ⟨rb, k1, k2, k3, k4, k5⟩ := s_keepAll (h := ra) (w := 1) (by omega)
    have k1 : X11_passesAll 1 1 ra = some ((), rb) := k1
    have gb : ∀ o k, o ≠ 14 → o ≠ 15 → o ≠ 16 → o ≠ 17 → ¬ (o = 0 ∧ (k = 21 ∨ k = 22 ∨ k = 23 ∨ k = 26 ∨ k = 27)) → rb.1 o k = r.1 o k := fun o k h1 h2 h3 h5 h4 => by rw [k2 o k h5 (by omega)]; exact ga o k h1 h2 h3 (by omega)
    have rab : RA T r rb := ⟨fun k h1 h2 => gb 0 k (by omega) (by omega) (by omega) (by omega) (by omega), fun o k h1 h2 _ => gb o k (by omega) (by omega) (by omega) (by omega) (by omega), fun t _ => ⟨gb 10 t (by omega) (by omega) (by omega) (by omega) (by omega), gb 11 t (by omega) (by omega) (by omega) (by omega) (by omega)⟩⟩
    have M1 : MR 52 (mcp 52 42 c) rb S G N T := MR_mcp (MR_r rab M) h24
    have kt : ∀ o k, o = 14 ∨ o = 15 ∨ o = 16 → rb.1 o k = r'.1 o k := fun o k h => by rw [k2 o k (by omega) (by omega), era, sI_n (by omega)]
    have T1 : TOLD l L rb K := fun k hk => by
      obtain ⟨t1, t2, t3, t4, t5, t6, t7⟩ := b6 k hk
      exact ⟨t1, t2, by rw [kt 14 k (by omega)]; exact t3, by rw [kt 15 k (by omega)]; exact t4, t5, t6, t7.c (fun i hi => kt 16 _ (by omega))⟩
    have r23 : rb.1 0 23 = nI K := by rw [k2 0 23 (by omega) (by omega), era, sI_n (by omega)]; exact b5
    have Q := l_mind (l := l) (c1 := mcp 52 42 c) (r1 := rb) l1 (by rw [mcp_ne (by omega)]; exact l2) (fun k hk => by rw [mcp_ne (by omega)]; exact hl k hk) b3 b4 T1 r23 FU 0 (mcp 52 42 c) rb S G N T (by unfold FU; omega) (Nat.zero_le _) M1 JC.rf KR.rf
    have e60 : X11_ground_j60 1 r' = X11_ground_l86 FU 0 rb := by
      unfold X11_ground_j60
      rw [vl_e, i_10, ← era, k1, bd_s]
    have eM : X10_statementsInMind c = X10_statementsInMind_l15 FU 0 0 (mcp 52 42 c) := by
      unfold X10_statementsInMind
      rw [s_mcp (by omega) c, bd_s]
    have pc : ∀ c', JC (mcp 52 42 c) c' → JC c c' := fun c' h => JC.cp.tr h
    rw [b1, bd_s, if_pos rfl, b2, e60, eM]
    rcases Q with ⟨c', r2, S', G', N', T', a1, a2, a3, a4, a5⟩ | ⟨c', r2, q, hq, a1, a2, a4, a5⟩
    · have a1 : X10_statementsInMind_l15 FU 0 0 (mcp 52 42 c) = _ := a1
      have a2 : X11_ground_l86 FU 0 rb = _ := a2
      have p := pc c' a4
      have h24' := T24' a3
      rw [a1, a2, bd_s]
      unfold X10_ground_j22
      rw [vl_e, if_neg (nI_pos (by omega)), s_mcp (by omega) _, bd_s]
      have M2 : MR 52 (sI c' 0 6 0) r2 S' G' N' T' := MR_cc a3 (fun k _ => by rw [sI_n (by omega)]) (fun i k _ _ _ => by rw [sI_n (by omega)]) (fun _ _ => rfl) (fun t _ => ⟨by rw [sI_n (by omega)], by rw [sI_n (by omega)]⟩)
      have cc : ∀ o k, (o < 5 ∨ (62 ≤ o ∧ o < 72)) → ¬ (o = 0 ∧ (k = 6 ∨ k = 17)) → (mcp 42 52 (sI c' 0 6 0)).1 o k = c.1 o k := fun o k h1 h2 => by rw [mcp_ne (by omega), sI_n (by omega)]; exact p.1 o k (by omega) (by omega)
      refine SimE.mk' rfl rfl rfl (inv_end I ⟨S', G', N', T', MR_mcp M2 h24'⟩ (by rw [mcp_ne (by omega), sI_y]) ?_ (cc 0 8 (by omega) (by omega)) ?_ (fun k => cc 3 k (by omega) (by omega)) (fun k => ?_) ⟨cc 0 4 (by omega) (by omega), fun k => cc 4 k (by omega) (by omega), fun o k h1 h2 => cc o k (by omega) (by omega), fun o h1 h2 => by rw [mcp_ne2 (by omega)]; exact p.2.1 o (by omega), fun o h1 h2 => p.2.2 o h1 h2⟩ ⟨?_, fun k => ?_, fun k hk => ?_⟩)
      · rw [a5.1 21 (by omega), k2 0 21 (by omega) (by omega), era, sI_y]
      · rw [a5.1 34 (by omega)]; exact gb 0 34 (by omega) (by omega) (by omega) (by omega) (by omega)
      · rw [a5.2 23 k (by omega)]; exact gb 23 k (by omega) (by omega) (by omega) (by omega) (by omega)
      · rw [a5.1 25 (by omega)]; exact gb 0 25 (by omega) (by omega) (by omega) (by omega) (by omega)
      · rw [a5.2 1 k (by omega)]; exact gb 1 k (by omega) (by omega) (by omega) (by omega) (by omega)
      · rw [a5.2 17 k (by omega), k4 k (by omega)]; exact ga 17 k (by omega) (by omega) (by omega) (by omega)
    · have a1 : X10_statementsInMind_l15 FU 0 0 (mcp 52 42 c) = _ := a1
      have a2 : X11_ground_l86 FU 0 rb = _ := a2
      have p := pc c' a4
      obtain ⟨r3, d1, d2, d3, d4, d5⟩ := s_backAll (h := r2) (w := 1) (by omega)
      have d1 : X11_passesAll 1 0 r2 = some ((), r3) := d1
      have neg : -2000 - nI q < 0 := by
        have t2 : (-2000 : Int32).toInt = -2000 := rfl
        have t0 : (0 : Int32).toInt = 0 := rfl
        rw [fa_lt, fb_subI (by rw [toInt_nI (by omega)]; omega) (by rw [toInt_nI (by omega)]; omega), toInt_nI (by omega)]
        omega
      rw [a1, a2, bd_s, d1, bd_s]
      unfold X10_ground_j22
      rw [vl_e, if_pos neg]
      have ra2 : RA T r r3 := by
        have x1 : RA T r ra := ⟨fun k h1 h2 => ga 0 k (by omega) (by omega) (by omega) (by omega), fun o k h1 h2 _ => ga o k (by omega) (by omega) (by omega) (by omega), fun t _ => ⟨ga 10 t (by omega) (by omega) (by omega) (by omega), ga 11 t (by omega) (by omega) (by omega) (by omega)⟩⟩
        have x2 : RA T ra (rst 1 rb) := RA_keep h24 k5
        have x3 : RA T (rst 1 rb) (rst 1 r2) := RA_rst1 h24 (fun k => a5.2 17 k (by omega))
        have x4 : RA T (rst 1 r2) r3 := RA_back h24 d5
        exact ((x1.tr x2).tr x3).tr x4
      refine SimE.mk' rfl rfl rfl (inv_end I ⟨S, G, N, T, MR_k M (fun o k h1 h2 => by rw [sI_n (by omega)]; exact p.1 o k (by omega) (by omega)) (fun o h1 h2 => p.2.1 o (by omega)) ra2⟩ sI_y ?_ ?_ ?_ (fun k => ?_) (fun k => ?_) ⟨?_, fun k => ?_, fun o k h1 h2 => ?_, fun o h1 h2 => p.2.1 o (by omega), fun o h1 h2 => p.2.2 o h1 h2⟩ ⟨?_, fun k => ?_, fun k hk => ?_⟩)
      · rw [d2 0 21 (by omega) (by omega), a5.1 21 (by omega), k2 0 21 (by omega) (by omega), era, sI_y]
      · rw [sI_n (by omega)]; exact p.1 0 8 (by omega) (by omega)
      · rw [d2 0 34 (by omega) (by omega), a5.1 34 (by omega)]; exact gb 0 34 (by omega) (by omega) (by omega) (by omega) (by omega)
      · rw [sI_n (by omega)]; exact p.1 3 k (by omega) (by omega)
      · rw [d2 23 k (by omega) (by omega), a5.2 23 k (by omega)]; exact gb 23 k (by omega) (by omega) (by omega) (by omega) (by omega)
      · rw [sI_n (by omega)]; exact p.1 0 4 (by omega) (by omega)
      · rw [sI_n (by omega)]; exact p.1 4 k (by omega) (by omega)
      · rw [sI_n (by omega)]; exact p.1 o k (by omega) (by omega)
      · rw [d2 0 25 (by omega) (by omega), a5.1 25 (by omega)]; exact gb 0 25 (by omega) (by omega) (by omega) (by omega) (by omega)
      · rw [d2 1 k (by omega) (by omega), a5.2 1 k (by omega)]; exact gb 1 k (by omega) (by omega) (by omega) (by omega) (by omega)
      · rw [d2 17 k (by omega) (by omega), a5.2 17 k (by omega), k4 k (by omega)]; exact ga 17 k (by omega) (by omega) (by omega) (by omega)
end
section
/-! THE START, and every call keeps it -/
theorem inv_0 {c r : AH} (hC : StC c) (hR : StR r) : Inv c r := by
  obtain ⟨c1, c2, c3, c4, c5, c6, c7, c8, c9, c10⟩ := hC
  obtain ⟨r1, r2, r3, r4, r5, r6, r7, r8, r9⟩ := hR
  have cj : ∀ i, i < 4 → ∀ k, c.1 (42 + 6 + i) k = 0 := by
    intro i hi k
    have h := c5 k
    rcases (by omega : i = 0 ∨ i = 1 ∨ i = 2 ∨ i = 3) with d | d | d | d <;> subst d
    · exact h.2.2.2.2.2.2.2.1
    · exact h.2.2.2.2.2.2.2.2.1
    · exact h.2.2.2.2.2.2.2.2.2.1
    · exact h.2.2.2.2.2.2.2.2.2.2
  have cw : ∀ i, i < 4 → c.2.2 (42 + 6 + i) = 0 := by
    intro i hi
    rcases (by omega : i = 0 ∨ i = 1 ∨ i = 2 ∨ i = 3) with d | d | d | d <;> subst d
    · exact c6
    · exact c7
    · exact c8
    · exact c9
  have rj : ∀ i k, 1 ≤ k → k ≤ 8 → RJ r i k = 0 := by
    intro i k h1 h2
    show r.1 (k + 1) i = 0
    have h := r9 i
    rcases (by omega : k = 1 ∨ k = 2 ∨ k = 3 ∨ k = 4 ∨ k = 5 ∨ k = 6 ∨ k = 7 ∨ k = 8) with d | d | d | d | d | d | d | d <;> subst d
    · exact h.2.1
    · exact h.2.2.1
    · exact h.2.2.2.1
    · exact h.2.2.2.2.1
    · exact h.2.2.2.2.2.1
    · exact h.2.2.2.2.2.2.1
    · exact h.2.2.2.2.2.2.2.1
    · exact h.2.2.2.2.2.2.2.2.1
  have c42 := c1 42 (Or.inl rfl)
  refine ⟨⟨10, 2, 0, 0, ⟨r1, r2, r4, r5, by omega, by omega, by omega, by omega, ?_, fun i hi => ?_, fun t ht => absurd ht (by omega)⟩, ⟨c42.1, c42.2.1.trans r3.symm, c42.2.2.1, c42.2.2.2.1, c42.2.2.2.2⟩, fun i hi => ⟨fun k k1 k2 => (cj i hi k).trans (rj i k k1 k2).symm, 0, by omega, cw i hi, cj i hi 1⟩, fun t ht => absurd ht (by omega)⟩, c10, ⟨0, by omega, c3, r6, fun k hk => absurd hk (by omega)⟩, ⟨0, by omega, c4, r8, fun k hk => absurd hk (by omega)⟩, fun k hk => (c5 k).2.2.1.trans (r9 k).1.symm, Or.inl ⟨c2, r7⟩⟩
  · rw [r3]
    exact ww_of (by decide) (by decide)
  · exact ⟨0, 0, 0, 0, 0, 0, 0, 0, by omega, by omega, by omega, by omega, by omega, by omega, by omega, by omega, rj i 1 (by omega) (by omega), rj i 2 (by omega) (by omega), rj i 3 (by omega) (by omega), rj i 4 (by omega) (by omega), rj i 5 (by omega) (by omega), rj i 6 (by omega) (by omega), rj i 7 (by omega) (by omega), rj i 8 (by omega) (by omega)⟩
theorem SimE.toA {α : Type} {F G : Option (α × AH)} {N : AH → AH → Prop} (h : SimE F G N) : SimA F G N := by
  obtain ⟨v, c2, r2, e1, e2, e3⟩ := h
  exact ⟨v, c2, v, r2, e1, e2, e3⟩
end
section
theorem op_ok {x a1 a2 a3 a4 : Int32} {c r : AH} (I : Inv c r) : OpOK x a1 a2 a3 a4 c r Inv := by
  unfold OpOK
  refine ⟨fun _ => ?_, fun _ => ?_, fun _ => ?_, fun _ => ?_, fun _ => ?_, fun _ => ?_, fun _ => ?_, fun _ => ?_, fun _ => ?_, fun _ => ?_, fun _ => ?_, fun _ => ?_, fun _ => ?_, fun _ => ?_, fun _ => ?_, fun _ => ?_, fun _ => ?_, fun _ => ?_, fun _ => ?_, fun _ => ?_, fun _ => ?_, fun _ => ?_, fun _ => ?_, fun _ => ?_, fun _ => ?_, fun _ => ?_, fun _ => ?_, fun _ => ?_, fun _ => ?_, fun _ => ?_, fun _ => ?_, fun _ => ?_, fun _ => ?_, fun _ => ?_, fun _ => ?_, fun _ => ?_, fun _ => ?_, fun _ => ?_, fun _ => ?_, fun _ => ?_, fun _ => ?_, fun _ => ?_, fun _ => ?_, fun _ => ?_, fun _ => ?_, fun _ => ?_, fun _ => ?_, fun _ => ?_, fun _ => ?_, fun _ => I⟩
  · first | exact o_feed I | exact (o_feed I).toA
  · first | exact o_ground I | exact (o_ground I).toA
  · first | exact o_jumper I | exact (o_jumper I).toA
  · first | exact o_mark I | exact (o_mark I).toA
  · first | exact o_look I | exact (o_look I).toA
  · first | exact o_set I | exact (o_set I).toA
  · first | exact o_wind I | exact (o_wind I).toA
  · first | exact o_stride I | exact (o_stride I).toA
  · first | exact o_place I | exact (o_place I).toA
  · first | exact o_length I | exact (o_length I).toA
  · first | exact o_off I | exact (o_off I).toA
  · first | exact o_mean I | exact (o_mean I).toA
  · first | exact o_past I | exact (o_past I).toA
  · first | exact o_bestLook I | exact (o_bestLook I).toA
  · first | exact o_bestMark I | exact (o_bestMark I).toA
  · first | exact o_back I | exact (o_back I).toA
  · first | exact o_turn I | exact (o_turn I).toA
  · first | exact o_jump I | exact (o_jump I).toA
  · first | exact o_none I | exact (o_none I).toA
  · first | exact o_undo I | exact (o_undo I).toA
  · first | exact o_tried I | exact (o_tried I).toA
  · first | exact o_needs I | exact (o_needs I).toA
  · exact o_ranks I
  · first | exact o_leads I | exact (o_leads I).toA
  · first | exact o_goOn I | exact (o_goOn I).toA
  · first | exact o_aim I | exact (o_aim I).toA
  · first | exact o_tooLong I | exact (o_tooLong I).toA
  · first | exact o_unlike I | exact (o_unlike I).toA
  · first | exact o_moved I | exact (o_moved I).toA
  · first | exact o_gusts I | exact (o_gusts I).toA
  · first | exact o_on I | exact (o_on I).toA
  · first | exact o_row I | exact (o_row I).toA
  · first | exact o_judge I | exact (o_judge I).toA
  · first | exact o_clear I | exact (o_clear I).toA
  · first | exact o_seeds I | exact (o_seeds I).toA
  · first | exact o_parts I | exact (o_parts I).toA
  · first | exact o_more I | exact (o_more I).toA
  · first | exact o_duel I | exact (o_duel I).toA
  · first | exact o_practice I | exact (o_practice I).toA
  · first | exact o_bestRun I | exact (o_bestRun I).toA
  · first | exact o_markIn I | exact (o_markIn I).toA
  · first | exact o_fouled I | exact (o_fouled I).toA
  · first | exact o_better I | exact (o_better I).toA
  · first | exact o_half I | exact (o_half I).toA
  · first | exact o_safe I | exact (o_safe I).toA
  · first | exact o_mayStill I | exact (o_mayStill I).toA
  · first | exact o_image I | exact (o_image I).toA
  · first | exact o_restore I | exact (o_restore I).toA
  · first | exact o_count I | exact (o_count I).toA
end
section
/-! THE CLAIM OUT OF ONE WALK OF THE LAW'S BODY. Your part is whole_start (and what it stands on); all else here is the same for every law, but numbers. -/
def R_law : String := "MarkToBoardLaw"
def lw_P (b : Addr) (xs : List Int32) (args : Array Value) (s : State) : Prop := args = #[.ref b] ∧ s.IntsAt b xs ∧ xs.length ≤ 2560 ∧ (Jvm.Cond.and given_1 narrow_1).before args s = true
def lw_Q (_ : Array Value) (s : State) (o : Outcome) (t : State) : Prop := o = .returned (some (.int 1)) ∧ Framed s o t [] 600000 7302249
def lw_Z (below : List Frame) (a : Array Value) (s : State) : State → Prop := fun t => ∃ o, t.status = .running ∧ Ended t below o ∧ lw_Q a s o t
/-- the law's own end, with 1 on the stack, nothing written that was there before, its room as the claim has it -/
theorem lw_ret {p : Program} {l : Launch} {e : Env} {s : State} {m : MethodId} {below : List Frame} {meth : Method} {c : Code} {b : Nat} (hx : p.tables.exec = Jvm.exec) (hb : c.code = code) (hr : meth.sig.returnType = ret) (hlocks : meth.locks = false) {pc : Nat} {H : Heap} {ls : Array Slot} (hdg : decode code pc = .ok (.ireturn, 1)) : W p l e room_1 s m #[Value.ref b] below meth c H [] 600000 7302249 (lw_Z below #[Value.ref b] s) (F0 m pc ls [.int 1]) := by
  intro T hT X
  obtain ⟨fs, hret, hrun, hended, hW, hframe⟩ := X.leave (v := some (.int 1)) (hlocks := hlocks) (fun h => by rw [hr] at h; cases h)
  have hmeth' : T.vm.method? m = some meth := X.method'
  refine ⟨T.setFrames fs, ?_, .returned (some (.int 1)), hrun, hended, rfl, ⟨_, rfl⟩, hW, hframe⟩
  jvm_step X.here [X.here.top, hx, hb, hdg, hmeth', hr, ret, narrow_b1]
  (try refine ⟨rfl, ?_⟩); (try refine ⟨rfl, ?_⟩)
  first | (intro acts; rw [hret _ acts rfl rfl rfl]) | rw [hret _ _ rfl rfl rfl]
  exact Steps.refl _
/-- what holds at the law's entry: the machine, the code, the tables' words (any of lw_tbl by 'hts w (by decide +kernel)'), the script of L ints xs at the cell b, what the Statement gives of the start (any of its parts by flat_of_before) -/
def lw_At (p : Program) (s : State) (m : MethodId) (meth : Method) (c : Code) (b L : Nat) (xs : Nat → Int32) : Prop :=
  p.tables.exec = Jvm.exec ∧ c.code = code ∧ meth.sig.returnType = ret ∧ c.maxLocals = 4 ∧ s.vm.findClass R_law = some m.cls ∧ (∀ w ∈ lw_tbl, w.before #[Value.ref b] s = true) ∧ va_X b L xs s s.heap ∧ b < s.heap.size ∧ meth.locks = false ∧ (Jvm.Cond.and given_1 narrow_1).before #[Value.ref b] s = true
theorem whole_start {p : Program} {e : Env} {s : State} {m : MethodId} {below : List Frame} {meth : Method} {c : Code} (l : Launch) (hflags : l.flags = flags0) {b L : Nat} {xs : Nat → Int32} (hL : L ≤ 2560) (C0 : lw_At p s m meth c b L xs) : W p l e room_1 s m #[Value.ref b] below meth c s.heap [] 0 0 (lw_Z below #[Value.ref b] s) (entryFrame m ([Value.ref b] : List Value).toArray 4) := by
  obtain ⟨hx, hb, hr, hml, hown, hts, hX, hbl, hlocks, hgv⟩ := C0
  obtain ⟨c0, hc0, hC⟩ := init_C
  obtain ⟨r0, hr0, hR⟩ := init_R
  exact whole_gen (Inv := fun _ c r => Inv c r) l (by omega) ⟨hx, hb, hr, hml, hown, hts, hX, hbl, hlocks⟩ hc0 hr0 (inv_0 hC hR) (fun j c r _ hI => op_ok hI) (fun ls H => lw_ret hx hb hr hlocks dK_l_132.2.2.1)
set_option maxHeartbeats 4000000 in
theorem lw_walk (l : Launch) (hflags : l.flags = flags0) (b : Addr) (xs : List Int32) : MetFree l x (headSpec (Jvm.Cond.code x code maxLocals ret :: tables_1) room_1) (lw_P b xs) (fun _ _ _ _ _ => True) lw_Q := by
  refine MetFree.of_bodyS (code := code) (maxLocals := maxLocals) (ret := ret) (by decide) ?_ ?_
  · intro args s m h hn
    obtain ⟨meth, c, h1, h2, h3, h4, h5, h6, -, -⟩ := Cond.code_spec hn (atoms_spec (ws := Jvm.Cond.code x code maxLocals ret :: tables_1) h _ List.mem_cons_self)
    exact ⟨meth, c, h1, h2, h3, h4, h5, h6⟩
  · intro p e s m args below meth c s₁ B hml0 hP _
    obtain ⟨rfl, hx, hbd, hgv⟩ := hP
    obtain ⟨scr, harrAt, hlist, hof, hsmall⟩ := hx
    obtain ⟨hcb, hkn, -, -⟩ := State.arrayAt?_spec harrAt
    have hown : s.vm.findClass R_law = some m.cls := findClass_of_methodNamed B.named
    have hts0 : ∀ c ∈ (Jvm.Cond.code x code maxLocals ret :: tables_1), c.before #[Value.ref b] s = true := atoms_spec (ws := Jvm.Cond.code x code maxLocals ret :: tables_1) B.pre
    have hts : ∀ w ∈ lw_tbl, w.before #[Value.ref b] s = true := k2_hts_sels lw_privs (fun w hw => hts0 w (List.mem_cons_of_mem _ hw)) lw_privs_ok
    have hml : c.maxLocals = 4 := B.maxLocals_eq (hts0 _ List.mem_cons_self)
    have X₀ : Stand p l e room_1 s m #[Value.ref b] below meth c s₁ [] 0 0 := Stand.of_body B
    have hh0 : s₁.heap = s.heap := by rw [B.state]; rfl
    have hsz : scr.slots.size = xs.length := by rw [← Array.length_toList, hlist, List.length_map]
    have hval : ∀ j : Nat, j < xs.length → scr.slots[j]? = some (.int (xs.getD j 0)) := fun j hj => by
      rw [← Array.getElem?_toList, hlist]
      simp [hj]
    have hbl : b < s.heap.size := (Array.getElem?_eq_some_iff.mp hcb).1
    have hX : va_X b xs.length (fun j => xs.getD j 0) s s.heap := ⟨scr, hcb, hof, hkn, hsz, hval⟩
    have K : W p l e room_1 s m #[Value.ref b] below meth c s₁.heap [] 0 0 (lw_Z below #[Value.ref b] s) (entryFrame m ([Value.ref b] : List Value).toArray 4) := by
      rw [hh0]
      exact whole_start l hflags hbd ⟨B.exec, B.bytes, B.returns, hml, hown, hts, hX, hbl, B.notSynchronized, hgv⟩
    obtain ⟨t, a1, o, b1, b2, b3⟩ := K s₁ rfl X₀
    exact ⟨t, o, a1, b1, b2, b3⟩
theorem lw_pre_spec {args : Array Value} {s : State} (h : (Jvm.Cond.and given_1 narrow_1).before args s = true) (hr : rest_1_c.before args s = true) : ∃ (b : Addr) (xs : List Int32), lw_P b xs args s := by
  have hs := flat_of_before _ h
  have hq := flat_of_before _ hr
  have hc : (Cond.count 1).before args s = true := hs _ (by decide +kernel)
  have harr : (Cond.arrayOf (.arg 0) .int).before args s = true := hs _ (by decide +kernel)
  have hle : (Cond.le (.length (.arg 0)) (.int 2560)).before args s = true := hs _ (by decide +kernel)
  have hlen : (Cond.isInt (.length (.arg 0))).before args s = true := hq _ (by decide +kernel)
  have hall : (Cond.all (.arg 0) (.isInt (.elem (.arg 0) (.index 0)))).before args s = true := hq _ (by decide +kernel)
  obtain ⟨b, xs, hb, hx⟩ := State.ints_of_pre rfl harr hlen hall
  have hsm : xs.length < 2 ^ 31 := hx.choose_spec.2.2.2
  have hev : (Term.length (.arg 0)).eval args s none [] s = some (.int xs.length.toInt32) := hx.length_eval hb
  have hv := Cond.le_ints hev (show (Term.int 2560).eval args s none [] s = some (.int 2560) from rfl)
  have hd : xs.length.toInt32 ≤ 2560 := by
    simpa [Cond.before, Cond.holds, hv] using hle
  have hN : xs.length ≤ 2560 := (Int32.ofNat_le_ofNat hsm (by decide)).mp (show Int32.ofNat xs.length ≤ Int32.ofNat 2560 from hd)
  exact ⟨b, xs, Cond.one_arg hc (show args[0]? = some (.ref b) from hb), hx, hN, h⟩
theorem lw_comes (l : Launch) (hflags : l.flags = flags0) : Comes l x (Jvm.Cond.code x code maxLocals ret :: tables_1) room_1 (fun tb e args s => Calls_1 tb e args s ∧ rest_1 tb e args s ∧ Pre_1 tb e args s)
    (fun _ _ args s o t => lw_Q args s o t) := by
  intro p e ha hc hk s m args below hf hfit hheap happ hpre
  obtain ⟨b, xs, hP⟩ := lw_pre_spec hpre.2.2 hpre.2.1
  obtain ⟨k, o, h1, h2, h3, hQ⟩ := lw_walk l hflags b xs p e ha hc hk s m args below hf ((Spec.applies_iff_loose hf).mp happ).1 hP trivial
  exact ⟨k, o, h1, h2, h3, hQ⟩
theorem lw_frame {s t : State} {o : Outcome} {args : Array Value} (h : Framed s o t [] 600000 7302249) :
    Framed s o t (fieldLocs frame_1_writes args s ++ arrayLocs frame_1_arrays args s ++ staticLocs frame_1_statics s) 600000 7302249 := h
theorem lw_limb (L : Cond) (hL : ∀ (args : Array Value) (s t : State), L.after args s (.returned (some (.int 1))) t = true) :
    ArmFor flags0 classFile x code maxLocals ret World_1 tables_1 room_1 Calls_1 rest_1 Pre_1
      (fun tb e a s o t => postC L tb e a s o t ∧ Framed s o t (fieldLocs frame_1_writes a s ++ arrayLocs frame_1_arrays a s ++ staticLocs frame_1_statics s) 600000 7302249) := by
  intro l hflags _ _ p e ha hc hk s m args below hf hfit hheap happ hpre
  obtain ⟨k, o, h1, h2, h3, rfl, hF⟩ := lw_comes l hflags p e ha hc hk s m args below hf hfit hheap happ hpre
  exact ⟨k, _, h1, h2, h3, hL args s _, lw_frame hF⟩
theorem i_vc : Claimed_1_1 ∧ Claimed_1_2 := ⟨lw_limb limb_1_1 (fun args s t => by simp [limb_1_1, Cond.after, Cond.holds, Cond.value]), lw_limb limb_1_2 (fun args s t => Cond.after_iff.mpr (by
  first | (rw [show limb_1_2 = Cond.eq .result (.int 1) from rfl, Cond.eq_ints (x := 1) (y := 1) rfl rfl]; simp; done) | (simp [limb_1_2, Cond.value, Term.eval]; done)))⟩
end
