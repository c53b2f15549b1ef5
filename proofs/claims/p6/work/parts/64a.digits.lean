/-! LETTERS AND NUMBERS -/
def numS (l : Nat → Int32) (p : Nat) : Nat → Int32
  | 0 => 0
  | n + 1 => 10 * numS l p n + l (p + n) - 48
def gd (l : Nat → Int32) (L p : Nat) : Prop := p < L ∧ 48 ≤ (l p).toInt ∧ (l p).toInt ≤ 57
def DG (l : Nat → Int32) (L p n : Nat) : Prop := ∀ i, i < n → gd l L (p + i)
theorem DG.sub {l : Nat → Int32} {L p n m : Nat} (h : DG l L p n) (hm : m ≤ n) : DG l L p m := fun i hi => h i (by omega)
theorem DG.at {l : Nat → Int32} {L p n k m : Nat} (h : DG l L p n) (hm : k + m ≤ n) : DG l L (p + k) m := fun i hi => by
  have := h (k + i) (by omega)
  rw [← Nat.add_assoc] at this
  exact this
theorem DG.app {l : Nat → Int32} {L p n m : Nat} (h : DG l L p n) (h2 : DG l L (p + n) m) : DG l L p (n + m) := fun i hi => by
  by_cases z : i < n
  · exact h i z
  · have := h2 (i - n) (by omega)
    have e : p + n + (i - n) = p + i := by omega
    rw [e] at this
    exact this
/-- a number of n digits -/
theorem num_b {l : Nat → Int32} {L p : Nat} : ∀ n, n ≤ 4 → DG l L p n → ∃ x, x < 10 ^ n ∧ numS l p n = nI x := by
  intro n
  induction n with
  | zero => intro _ _; exact ⟨0, by decide, rfl⟩
  | succ n ih =>
    intro hn h
    obtain ⟨x, hx, e⟩ := ih (by omega) (h.sub (by omega))
    obtain ⟨h1, h2, h3⟩ := h n (by omega)
    have hp : 10 ^ n ≤ 10 ^ 3 := Nat.pow_le_pow_right (by decide) (by omega)
    have e2 : 10 ^ (n + 1) = 10 * 10 ^ n := by rw [Nat.pow_succ, Nat.mul_comm]
    obtain ⟨d, hd⟩ : ∃ d : Nat, (d : Int) = (l (p + n)).toInt - 48 := ⟨((l (p + n)).toInt - 48).toNat, by omega⟩
    refine ⟨10 * x + d, by omega, ?_⟩
    show 10 * numS l p n + l (p + n) - 48 = _
    have e3 : (10 : Int32) * nI x = nI (10 * x) := pk_mul 10 x
    have t48 : (48 : Int32).toInt = 48 := rfl
    have tx : (nI (10 * x)).toInt = (10 * x : Nat) := toInt_nI (by omega)
    have ts : (nI (10 * x) + l (p + n)).toInt = (10 * x : Nat) + (l (p + n)).toInt := by rw [fb_addI (by omega) (by omega), tx]
    rw [e, e3, fa_eq, fb_subI (by omega) (by omega), ts, t48, toInt_nI (by omega)]
    omega
section LE
variable {l : Nat → Int32} {L : Nat} {c r : AH}
/-- the class's number -/
theorem s_numC (hL : L ≤ 96) (e : c.1 0 6 = nI L) (hl : ∀ k, k < L → c.1 2 k = l k) {p n : Nat} (hp : p + n ≤ L) : X10_number (nI p) (nI n) c = some (numS l p n, c) := by
  have key : ∀ (f t : Nat), n < t + f → t ≤ n → X10_number_l5 (nI p) (nI n) f (numS l p t) (nI (p + t)) c = some (numS l p n, c) := by
    intro f
    induction f with
    | zero => intro t h1 h2; omega
    | succ f ih =>
      intro t h1 h2
      rw [X10_number_l5.eq_2, nI_add, e]
      by_cases z : t = n
      · subst z
        rw [if_pos (Int32.le_refl _)]
      · rw [if_neg (nI_ge (by omega) (by omega)), if_neg (nI_ge (by omega) (by omega)), ck_nI _ (by omega) (by decide), nI_clamp (by omega), hl _ (by omega), vl_e, vl_e, nI_1]
        exact ih (t + 1) (by omega) (by omega)
  have h := key FU 0 (by unfold FU; omega) (Nat.zero_le _)
  exact h
theorem s_next (hL : L ≤ 96) (e : r.1 0 21 = nI L) (hl : ∀ k, k < L → r.1 13 k = l k) {p : Nat} (hp : p ≤ L) (e2 : r.1 0 22 = nI p) : X11_next r = some (if p < L then l p else -1, r) := by
  unfold X11_next
  rw [e, e2]
  by_cases z : p < L
  · rw [if_neg (nI_ge z (by omega)), if_pos z, ck_nI _ (by omega) (by decide), nI_clamp (by omega), hl p z]
  · rw [if_pos (nI_le (by omega) (by omega)), if_neg z]
/-- what reading touches -/
def GF (r r' : AH) : Prop := (∀ o k, o ≠ 14 → o ≠ 15 → o ≠ 16 → ¬ (o = 0 ∧ (k = 22 ∨ k = 23)) → r'.1 o k = r.1 o k) ∧ r'.2 = r.2
theorem GF.rf {r : AH} : GF r r := ⟨fun _ _ _ _ _ _ => rfl, rfl⟩
theorem GF.tr {r r' r2 : AH} (a : GF r r') (b : GF r' r2) : GF r r2 := ⟨fun o k h1 h2 h3 h4 => (b.1 o k h1 h2 h3 h4).trans (a.1 o k h1 h2 h3 h4), b.2.trans a.2⟩
/-- reading digits: all of them, or up to the first bad letter -/
def RD (l : Nat → Int32) (L : Nat) (r : AH) (q n a w : Nat) (F : Option (Int32 × AH)) : Prop :=
  (∃ r', F = some (1, r') ∧ DG l L q n ∧ r'.1 0 22 = nI (q + n) ∧ (∀ o k, ¬ (o = 0 ∧ k = 22) → ¬ (o = 16 ∧ a ≤ k ∧ k < a + w) → r'.1 o k = r.1 o k) ∧ r'.2 = r.2) ∨
  (∃ r' m, F = some (0, r') ∧ m < n ∧ DG l L q m ∧ ¬ gd l L (q + m) ∧ r'.1 0 22 = nI (q + m) ∧ (∀ o k, ¬ (o = 0 ∧ k = 22) → ¬ (o = 16 ∧ a ≤ k ∧ k < a + w) → r'.1 o k = r.1 o k) ∧ r'.2 = r.2)
theorem s_rd (hL : L ≤ 96) (e : r.1 0 21 = nI L) (hl : ∀ k, k < L → r.1 13 k = l k) {q n a : Nat} (ha : a < 384) (hq : q ≤ L) (hn : n ≤ 4) (e2 : r.1 0 22 = nI q) :
    (∃ r', X11_readsDigits (nI a) (nI n) r = some (1, r') ∧ DG l L q n ∧ r'.1 0 22 = nI (q + n) ∧ r'.1 16 a = numS l q n ∧ (∀ o k, ¬ (o = 0 ∧ k = 22) → ¬ (o = 16 ∧ k = a) → r'.1 o k = r.1 o k) ∧ r'.2 = r.2) ∨
    (∃ r' m, X11_readsDigits (nI a) (nI n) r = some (0, r') ∧ m < n ∧ DG l L q m ∧ ¬ gd l L (q + m) ∧ r'.1 0 22 = nI (q + m) ∧ (∀ o k, ¬ (o = 0 ∧ k = 22) → ¬ (o = 16 ∧ k = a) → r'.1 o k = r.1 o k) ∧ r'.2 = r.2) := by
  have t48 : (48 : Int32).toInt = 48 := rfl
  have t57 : (57 : Int32).toInt = 57 := rfl
  have key : ∀ (f t : Nat) (g : AH), n < t + f → t ≤ n → DG l L q t → g.1 0 22 = nI (q + t) → (∀ o k, ¬ (o = 0 ∧ k = 22) → g.1 o k = r.1 o k) → g.2 = r.2 →
    (∃ r', X11_readsDigits_l5 (nI a) (nI n) f (numS l q t) (nI t) g = some (1, r') ∧ DG l L q n ∧ r'.1 0 22 = nI (q + n) ∧ r'.1 16 a = numS l q n ∧ (∀ o k, ¬ (o = 0 ∧ k = 22) → ¬ (o = 16 ∧ k = a) → r'.1 o k = r.1 o k) ∧ r'.2 = r.2) ∨
    (∃ r' m, X11_readsDigits_l5 (nI a) (nI n) f (numS l q t) (nI t) g = some (0, r') ∧ m < n ∧ DG l L q m ∧ ¬ gd l L (q + m) ∧ r'.1 0 22 = nI (q + m) ∧ (∀ o k, ¬ (o = 0 ∧ k = 22) → ¬ (o = 16 ∧ k = a) → r'.1 o k = r.1 o k) ∧ r'.2 = r.2) := by
    intro f
    induction f with
    | zero => intro t g h1 h2; omega
    | succ f ih =>
      intro t g h1 h2 hD h22 F F2
      rw [X11_readsDigits_l5.eq_2]
      by_cases z : t = n
      · subst z
        rw [if_pos (Int32.le_refl _), ck_nI _ ha (by decide), vl_e, cz_1, nI_clamp (by omega)]
        exact Or.inl ⟨_, rfl, hD, by rw [sI_n (by omega)]; exact h22, by rw [sI_y], fun o k h1 h2 => by rw [sI_n h2]; exact F o k h1, F2⟩
      · have hqt : q + t ≤ L := by
          by_cases y : t = 0
          · omega
          · have := (hD (t - 1) (by omega)).1; omega
        have hn := s_next (l := l) (r := g) hL (by rw [F 0 21 (by omega)]; exact e) (fun k hk => by rw [F 13 k (by omega)]; exact hl k hk) hqt h22
        rw [if_neg (nI_ge (by omega) (by omega)), hn, bd_s, s_isIn, bd_s]
        by_cases y : gd l L (q + t)
        · have hz : ¬ (l (q + t) < 48 ∨ 57 < l (q + t)) := by rw [fa_lt, fa_lt]; have := y.2; omega
          rw [if_pos y.1, if_neg hz, i_10, hn, bd_s, if_pos y.1, vl_e, vl_e, h22, vl_e, nI_1, nI_1]
          have D1 : DG l L q (t + 1) := fun i hi => by
            by_cases d : i = t
            · rw [d]; exact y
            · exact hD i (by omega)
          exact ih (t + 1) _ (by omega) (by omega) D1 (by rw [sI_y]; rfl) (fun o k h => by rw [sI_n h]; exact F o k h) F2
        · have hz : ((if q + t < L then l (q + t) else -1) < 48 ∨ 57 < (if q + t < L then l (q + t) else -1)) := by
            by_cases d : q + t < L
            · rw [if_pos d, fa_lt, fa_lt, t48, t57]
              by_cases u : (l (q + t)).toInt < 48
              · exact Or.inl u
              · refine Or.inr ?_
                by_cases v : 57 < (l (q + t)).toInt
                · exact v
                · exact absurd ⟨d, by omega, by omega⟩ y
            · rw [if_neg d]; exact Or.inl (by decide)
          rw [if_pos hz, i_0, cz_0]
          exact Or.inr ⟨g, t, rfl, by omega, hD, y, h22, fun o k h _ => F o k h, F2⟩
  exact key FU 0 r (by unfold FU; omega) (Nat.zero_le _) (fun i hi => absurd hi (by omega)) e2 (fun _ _ _ => rfl) rfl
/-- the class's machine inside a statement's digits -/
theorem s_mach (hL : L ≤ 96) (e : c.1 0 6 = nI L) (hl : ∀ k, k < L → c.1 2 k = l k) : ∀ (m d q f : Nat), m ≤ d → d ≤ 13 → DG l L q m → X10_firstBadLetter_l9 (f + m) 1 0 (nI d) (nI q) c = X10_firstBadLetter_l9 f 1 0 (nI (d - m)) (nI (q + m)) c := by
  have t48 : (48 : Int32).toInt = 48 := rfl
  have t57 : (57 : Int32).toInt = 57 := rfl
  intro m
  induction m with
  | zero => intro d q f _ _ _; rfl
  | succ m ih =>
    intro d q f h1 h2 hD
    obtain ⟨g1, g2, g3⟩ := hD 0 (by omega)
    have g1 : q < L := g1
    have g2 : 48 ≤ (l q).toInt := g2
    have g3 : (l q).toInt ≤ 57 := g3
    have e1 : f + (m + 1) = (f + m) + 1 := by omega
    rw [e1, X10_firstBadLetter_l9.eq_2, e, if_neg (nI_ge g1 (by omega)), ck_nI _ (by omega) (by decide), nI_clamp (by omega), hl q g1, vl_e, i_10, i_0, if_neg (nI_nle (by omega) (by omega)), if_neg (by rw [fa_lt]; omega), if_pos (by rw [fa_le]; omega), vl_e]
    unfold X10_firstBadLetter_j127
    rw [vl_e, nI_1, m_one, pk_sub (by omega)]
    have e2 : d - (m + 1) = d - 1 - m := by omega
    have e3 : q + (m + 1) = q + 1 + m := by omega
    rw [e2, e3]
    exact ih (d - 1) (q + 1) f (by omega) (by omega) (fun i hi => by
      have := hD (i + 1) (by omega)
      have e4 : q + (i + 1) = q + 1 + i := by omega
      rw [e4] at this
      exact this)
/-- it stops at a letter that is no digit -/
theorem s_machX (hL : L ≤ 96) (e : c.1 0 6 = nI L) (hl : ∀ k, k < L → c.1 2 k = l k) {d q f : Nat} (hd : 0 < d) (hd2 : d ≤ 13) (hq : q ≤ L) (hg : ¬ gd l L q) : X10_firstBadLetter_l9 (f + 1) 1 0 (nI d) (nI q) c = some (nI q, c) := by
  have t48 : (48 : Int32).toInt = 48 := rfl
  have t57 : (57 : Int32).toInt = 57 := rfl
  rw [X10_firstBadLetter_l9.eq_2, e]
  by_cases z : q = L
  · rw [if_pos (nI_le (by omega) (by omega)), i_10]
    unfold X10_firstBadLetter_j144
    rw [e, z]
  · rw [if_neg (nI_ge (by omega) (by omega)), ck_nI _ (by omega) (by decide), nI_clamp (by omega), hl q (by omega), vl_e, i_10, i_0, if_neg (nI_nle (by omega) (by omega))]
    by_cases y : l q < 48
    · rw [if_pos y]
    · rw [if_neg y]
      by_cases y2 : l q ≤ 57
      · rw [fa_lt, t48] at y
        rw [fa_le, t57] at y2
        exact absurd ⟨by omega, by omega, y2⟩ hg
      · rw [if_neg y2]
/-- behind the digits: the mark of the end -/
theorem s_machE (hL : L ≤ 96) (e : c.1 0 6 = nI L) (hl : ∀ k, k < L → c.1 2 k = l k) {q f : Nat} (hq : q ≤ L) : (q < L ∧ l q = 59 ∧ X10_firstBadLetter_l9 (f + 1) 1 0 (nI 0) (nI q) c = X10_firstBadLetter_l9 f 0 0 (nI 0) (nI (q + 1)) c) ∨ (¬ (q < L ∧ l q = 59) ∧ X10_firstBadLetter_l9 (f + 1) 1 0 (nI 0) (nI q) c = some (nI q, c)) := by
  rw [X10_firstBadLetter_l9.eq_2, e]
  by_cases z : q = L
  · rw [if_pos (nI_le (by omega) (by omega)), i_10]
    unfold X10_firstBadLetter_j144
    rw [e, z]
    exact Or.inr ⟨fun h => by omega, rfl⟩
  · rw [if_neg (nI_ge (by omega) (by omega)), ck_nI _ (by omega) (by decide), nI_clamp (by omega), hl q (by omega), vl_e, i_10, i_0, if_pos (show nI 0 ≤ 0 by decide)]
    by_cases y : l q = 59
    · rw [if_pos y]
      unfold X10_firstBadLetter_j127
      rw [vl_e, nI_1]
      exact Or.inl ⟨by omega, y, rfl⟩
    · rw [if_neg y]
      exact Or.inr ⟨fun h => y h.2, rfl⟩
end LE
