/-! THE ROW: tooLong, unlike, moved, gusts -/
theorem RW_w {c r : AH} (h : RW c r) : ∃ (n : Nat) (w : Nat → Nat), n ≤ 12 ∧ c.1 0 8 = nI n ∧ r.1 0 34 = nI n ∧ ∀ k, k < n → w k ≤ 99 ∧ c.1 3 k = nI (w k) ∧ r.1 23 k = nI (w k) := by
  obtain ⟨n, h1, h2, h3, h4⟩ := h
  refine ⟨n, fun k => (c.1 3 k).toNatClampNeg, h1, h2, h3, fun k hk => ?_⟩
  obtain ⟨v, v1, v2, v3⟩ := h4 k hk
  show (c.1 3 k).toNatClampNeg ≤ 99 ∧ c.1 3 k = nI (c.1 3 k).toNatClampNeg ∧ r.1 23 k = nI (c.1 3 k).toNatClampNeg
  rw [v2, v3, nI_clamp (by omega)]
  exact ⟨v1, rfl, rfl⟩
def pmx (w : Nat → Nat) : Nat → Nat
  | 0 => 0
  | n + 1 => max (pmx w n) (w n)
def pmn (w : Nat → Nat) : Nat → Nat
  | 0 => 99
  | n + 1 => min (pmn w n) (w n)
theorem pmx_le {w : Nat → Nat} {x : Nat} : ∀ n, (∀ k, k < n → w k ≤ x) → pmx w n ≤ x := by
  intro n
  induction n with
  | zero => intro _; exact Nat.zero_le _
  | succ n ih => intro h; exact Nat.max_le.mpr ⟨ih (fun k hk => h k (by omega)), h n (by omega)⟩
theorem le_pmx {w : Nat → Nat} {k : Nat} : ∀ n, k < n → w k ≤ pmx w n := by
  intro n
  induction n with
  | zero => intro h; omega
  | succ n ih =>
    intro h
    show w k ≤ max (pmx w n) (w n)
    by_cases e : k = n
    · rw [e]; exact Nat.le_max_right _ _
    · exact Nat.le_trans (ih (by omega)) (Nat.le_max_left _ _)
theorem pmn_le {w : Nat → Nat} {k : Nat} : ∀ n, k < n → pmn w n ≤ w k := by
  intro n
  induction n with
  | zero => intro h; omega
  | succ n ih =>
    intro h
    show min (pmn w n) (w n) ≤ w k
    by_cases e : k = n
    · rw [e]; exact Nat.min_le_right _ _
    · exact Nat.le_trans (Nat.min_le_left _ _) (ih (by omega))
theorem pmn_99 {w : Nat → Nat} : ∀ n, pmn w n ≤ 99 := by
  intro n
  induction n with
  | zero => exact Nat.le_refl _
  | succ n ih => exact Nat.le_trans (Nat.min_le_left _ _) ih
theorem pmn_at {w : Nat → Nat} : ∀ n, 0 < n → (∀ k, k < n → w k ≤ 99) → ∃ k, k < n ∧ pmn w n = w k := by
  intro n
  induction n with
  | zero => intro h; omega
  | succ n ih =>
    intro _ hw
    by_cases e : n = 0
    · subst e
      refine ⟨0, by omega, ?_⟩
      show min 99 (w 0) = w 0
      have := hw 0 (by omega)
      omega
    · obtain ⟨k, k1, k2⟩ := ih (by omega) (fun k hk => hw k (by omega))
      by_cases d : pmn w n ≤ w n
      · exact ⟨k, by omega, by show min (pmn w n) (w n) = w k; omega⟩
      · exact ⟨n, by omega, by show min (pmn w n) (w n) = w n; omega⟩
theorem mx_nI {a b : Nat} (ha : a < 2 ^ 31) (hb : b < 2 ^ 31) : mx32 (nI a) (nI b) = nI (max a b) := by
  unfold mx32
  by_cases z : a < b
  · rw [if_pos (nI_lt z hb), Nat.max_eq_right (by omega)]
  · rw [if_neg (nI_nlt (by omega) (by omega)), Nat.max_eq_left (by omega)]
theorem mn_nI {a b : Nat} (ha : a < 2 ^ 31) (hb : b < 2 ^ 31) : mn32 (nI a) (nI b) = nI (min a b) := by
  unfold mn32
  by_cases z : b < a
  · rw [if_pos (nI_lt z ha), Nat.min_eq_right (by omega)]
  · rw [if_neg (nI_nlt (by omega) (by omega)), Nat.min_eq_left (by omega)]
section RO
variable {c r : AH} {n : Nat} {w : Nat → Nat}
theorem s_gr (hn : n ≤ 12) (e : c.1 0 8 = nI n) (hw : ∀ k, k < n → w k ≤ 99 ∧ c.1 3 k = nI (w k)) {p : Nat} (hp : p ≤ n) : X10_greatestFrom (nI p) c = some (nI (pmx (fun k => if p ≤ k then w k else 0) n), c) := by
  have h0 : pmx (fun k => if p ≤ k then w k else 0) p = 0 := Nat.le_zero.mp (pmx_le p (fun k hk => by show (if p ≤ k then w k else 0) ≤ 0; rw [if_neg (by omega)]; exact Nat.le_refl 0))
  have key : ∀ (f t : Nat), n < t + f → p ≤ t → t ≤ n → X10_greatestFrom_l4 f (nI (pmx (fun k => if p ≤ k then w k else 0) t)) (nI t) c = some (nI (pmx (fun k => if p ≤ k then w k else 0) n), c) := by
    intro f
    induction f with
    | zero => intro t h1 h2 h3; omega
    | succ f ih =>
      intro t h1 h2 h3
      rw [X10_greatestFrom_l4.eq_2, e]
      by_cases z : t = n
      · subst z
        rw [if_pos (Int32.le_refl _)]
      · have hb : pmx (fun k => if p ≤ k then w k else 0) t ≤ 99 := pmx_le t (fun k hk => by show (if p ≤ k then w k else 0) ≤ 99; have := (hw k (by omega)).1; split <;> omega)
        have h99 := (hw t (by omega)).1
        rw [if_neg (nI_ge (by omega) (by omega)), ck_nI _ (by omega) (by decide), nI_clamp (by omega), (hw t (by omega)).2, vl_e, vl_e, nI_1, mx_nI (by omega) (by omega)]
        have nx := ih (t + 1) (by omega) (by omega) (by omega)
        have e1 : pmx (fun k => if p ≤ k then w k else 0) (t + 1) = max (pmx (fun k => if p ≤ k then w k else 0) t) (w t) := by
          show max _ (if p ≤ t then w t else 0) = _
          rw [if_pos h2]
        rw [e1] at nx
        exact nx
  have k := key FU p (by unfold FU; omega) (Nat.le_refl _) hp
  rw [h0] at k
  exact k
theorem s_la (hn : n ≤ 12) (e : c.1 0 8 = nI n) (hw : ∀ k, k < n → w k ≤ 99 ∧ c.1 3 k = nI (w k)) {p : Nat} (hp : p ≤ n) : X10_leastAhead (nI p) c = some (nI (pmn w p), c) := by
  have key : ∀ (f t : Nat), p < t + f → t ≤ p → X10_leastAhead_l5 (nI p) f (nI (pmn w t)) (nI t) c = some (nI (pmn w p), c) := by
    intro f
    induction f with
    | zero => intro t h1 h2; omega
    | succ f ih =>
      intro t h1 h2
      rw [X10_leastAhead_l5.eq_2, e]
      by_cases z : t = p
      · subst z
        rw [if_pos (Int32.le_refl _)]
      · have hb := pmn_99 (w := w) t
        have h99 := (hw t (by omega)).1
        rw [if_neg (nI_ge (by omega) (by omega)), if_neg (nI_ge (by omega) (by omega)), ck_nI _ (by omega) (by decide), nI_clamp (by omega), (hw t (by omega)).2, vl_e, vl_e, nI_1, mn_nI (by omega) (by omega)]
        exact ih (t + 1) (by omega) (by omega)
  exact key FU 0 (by unfold FU; omega) (Nat.zero_le _)
theorem l_long (hn : n ≤ 12) (e : c.1 0 8 = nI n) (e' : r.1 0 34 = nI n) (hw : ∀ k, k < n → w k ≤ 99 ∧ c.1 3 k = nI (w k) ∧ r.1 23 k = nI (w k)) : ∀ (f t : Nat) (x : Int32), n < t + f → t ≤ n → ∃ v, X10_tooLong_l18 f x (nI t) c = some (v, c) ∧ X11_tooLong_l18 f x (nI t) r = some (v, r) := by
  intro f
  induction f with
  | zero => intro t x h1 h2; omega
  | succ f ih =>
    intro t x h1 h2
    rw [X10_tooLong_l18.eq_2, X11_tooLong_l18.eq_2, e, e']
    by_cases z : t = n
    · subst z
      rw [if_pos (Int32.le_refl _), if_pos (Int32.le_refl _)]
      by_cases y : x ≤ 0
      · rw [if_pos y, if_pos y]
        by_cases y2 : 0 ≤ x
        · rw [if_pos y2, if_pos y2]; exact ⟨_, rfl, rfl⟩
        · rw [if_neg y2, if_neg y2]; exact ⟨_, rfl, rfl⟩
      · rw [if_neg y, if_neg y]; exact ⟨_, rfl, rfl⟩
    · rw [if_neg (nI_ge (by omega) (by omega)), if_neg (nI_ge (by omega) (by omega)), ck_nI _ (by omega) (by decide), ck_nI _ (by omega) (by decide), nI_clamp (by omega), (hw t (by omega)).2.1, (hw t (by omega)).2.2]
      simp only [vl_e, nI_1]
      exact ih (t + 1) _ (by omega) (by omega)
theorem l_unR (hn : n ≤ 12) (e' : r.1 0 34 = nI n) (hw : ∀ k, k < n → w k ≤ 99 ∧ r.1 23 k = nI (w k)) : ∀ (f t : Nat), n < t + f → t ≤ n → X11_unlike_l21 f (nI (pmn w t)) (nI (pmx w t)) (nI t) r = some (nI (pmx w n) - nI (pmn w n), r) := by
  intro f
  induction f with
  | zero => intro t h1 h2; omega
  | succ f ih =>
    intro t h1 h2
    rw [X11_unlike_l21.eq_2, e']
    by_cases z : t = n
    · subst z
      rw [if_pos (Int32.le_refl _)]
    · have hb := pmn_99 (w := w) t
      have hb2 : pmx w t ≤ 99 := pmx_le t (fun k hk => (hw k (by omega)).1)
      have h99 := (hw t (by omega)).1
      have nx := ih (t + 1) (by omega) (by omega)
      have e1 : pmx w (t + 1) = max (pmx w t) (w t) := rfl
      have e2 : pmn w (t + 1) = min (pmn w t) (w t) := rfl
      rw [e1, e2] at nx
      unfold X11_unlike_j49 X11_unlike_j70
      rw [if_neg (nI_ge (by omega) (by omega))]
      simp only [ck_nI _ (show t < 12 by omega) (show 12 < 2 ^ 31 by decide), nI_clamp (show t < 2 ^ 31 by omega), (hw t (by omega)).2, vl_e, nI_1]
      by_cases y : pmn w t ≤ w t
      · rw [if_pos (nI_le y (by omega))]
        rw [Nat.min_eq_left y] at nx
        by_cases y2 : w t ≤ pmx w t
        · rw [if_pos (nI_le y2 (by omega))]
          rw [Nat.max_eq_left y2] at nx
          exact nx
        · rw [if_neg (nI_ge (by omega) (by omega))]
          rw [Nat.max_eq_right (by omega)] at nx
          exact nx
      · rw [if_neg (nI_ge (by omega) (by omega))]
        rw [Nat.min_eq_right (by omega)] at nx
        by_cases y2 : w t ≤ pmx w t
        · rw [if_pos (nI_le y2 (by omega))]
          rw [Nat.max_eq_left y2] at nx
          exact nx
        · rw [if_neg (nI_ge (by omega) (by omega))]
          rw [Nat.max_eq_right (by omega)] at nx
          exact nx
/-- from p on all are s under all ahead -/
def mvd (w : Nat → Nat) (n p s : Nat) : Prop := ∀ k, p ≤ k → k < n → ∀ m, m < p → (w k : Int) ≤ (w m : Int) - s
theorem l_mvR {p s : Nat} (hn : n ≤ 12) (e' : r.1 0 34 = nI n) (hw : ∀ k, k < n → w k ≤ 99 ∧ r.1 23 k = nI (w k)) (hp : p ≤ n) (hs : s ≤ 99) : (mvd w n p s ∧ X11_isMovedFrom (nI p) (nI s) r = some (1, r)) ∨ (¬ mvd w n p s ∧ X11_isMovedFrom (nI p) (nI s) r = some (0, r)) := by
  have inner : ∀ (k : Nat) (K : Int32 → AH → Option (Int32 × AH)), k < n → ∀ (f t : Nat), p < t + f → t ≤ p → (∀ m, m < t → (w k : Int) ≤ (w m : Int) - s) → ((∀ m, m < p → (w k : Int) ≤ (w m : Int) - s) ∧ X11_isMovedFrom_l13 (nI p) (nI s) (nI k) K f (nI t) r = K (nI (k + 1)) r) ∨ ((¬ ∀ m, m < p → (w k : Int) ≤ (w m : Int) - s) ∧ X11_isMovedFrom_l13 (nI p) (nI s) (nI k) K f (nI t) r = some (0, r)) := by
    intro k K hk f
    induction f with
    | zero => intro t h1 h2; omega
    | succ f ih =>
      intro t h1 h2 h3
      rw [X11_isMovedFrom_l13.eq_2]
      by_cases z : t = p
      · subst z
        rw [if_pos (Int32.le_refl _), vl_e, nI_1]
        exact Or.inl ⟨h3, rfl⟩
      · have k1 := (hw k hk).1
        have t1 := (hw t (by omega)).1
        rw [if_neg (nI_ge (by omega) (by omega)), ck_nI _ (by omega) (by decide), ck_nI _ (by omega) (by decide), nI_clamp (by omega), nI_clamp (by omega), (hw k hk).2, (hw t (by omega)).2]
        by_cases y : (w k : Int) ≤ (w t : Int) - s
        · rw [if_pos (by rw [fa_le, pk_sub_toInt (by omega) (by omega), toInt_nI (by omega)]; exact y), vl_e, nI_1]
          exact ih (t + 1) (by omega) (by omega) (fun m hm => by
            by_cases d : m = t
            · rw [d]; exact y
            · exact h3 m (by omega))
        · rw [if_neg (by rw [fa_le, pk_sub_toInt (by omega) (by omega), toInt_nI (by omega)]; exact y), cz_0]
          exact Or.inr ⟨fun q => y (q t (by omega)), rfl⟩
  have outer : ∀ (f k : Nat), n < k + f → p ≤ k → k ≤ n → ((∀ q, k ≤ q → q < n → ∀ m, m < p → (w q : Int) ≤ (w m : Int) - s) ∧ X11_isMovedFrom_l2 (nI p) (nI s) f (nI k) r = some (1, r)) ∨ ((¬ ∀ q, k ≤ q → q < n → ∀ m, m < p → (w q : Int) ≤ (w m : Int) - s) ∧ X11_isMovedFrom_l2 (nI p) (nI s) f (nI k) r = some (0, r)) := by
    intro f
    induction f with
    | zero => intro k h1 h2 h3; omega
    | succ f ih =>
      intro k h1 h2 h3
      rw [X11_isMovedFrom_l2.eq_2, e']
      by_cases z : k = n
      · subst z
        rw [if_pos (Int32.le_refl _), cz_1]
        exact Or.inl ⟨fun q q1 q2 => by omega, rfl⟩
      · rw [if_neg (nI_ge (by omega) (by omega))]
        rcases inner k (X11_isMovedFrom_l2 (nI p) (nI s) f) (by omega) FU 0 (by unfold FU; omega) (Nat.zero_le _) (fun m hm => by omega) with ⟨a1, a2⟩ | ⟨a1, a2⟩
        · have a2 : X11_isMovedFrom_l13 (nI p) (nI s) (nI k) (X11_isMovedFrom_l2 (nI p) (nI s) f) FU 0 r = X11_isMovedFrom_l2 (nI p) (nI s) f (nI (k + 1)) r := a2
          rw [a2]
          rcases ih (k + 1) (by omega) (by omega) (by omega) with ⟨b1, b2⟩ | ⟨b1, b2⟩
          · refine Or.inl ⟨fun q q1 q2 => ?_, b2⟩
            by_cases d : q = k
            · rw [d]; exact a1
            · exact b1 q (by omega) q2
          · exact Or.inr ⟨fun q => b1 (fun q' q1 q2 => q q' (by omega) q2), b2⟩
        · have a2 : X11_isMovedFrom_l13 (nI p) (nI s) (nI k) (X11_isMovedFrom_l2 (nI p) (nI s) f) FU 0 r = some (0, r) := a2
          rw [a2]
          exact Or.inr ⟨fun q => a1 (q k (Nat.le_refl _) (by omega)), rfl⟩
  exact outer FU p (by unfold FU; omega) (Nat.le_refl _) hp
theorem mvd_iff {p s : Nat} (hw : ∀ k, k < n → w k ≤ 99) (h0 : 0 < p) (hp : p < n) : mvd w n p s ↔ ¬ ((pmn w p : Int) - s < (pmx (fun k => if p ≤ k then w k else 0) n : Int)) := by
  have key : ∀ k, p ≤ k → k < n → w k ≤ pmx (fun k => if p ≤ k then w k else 0) n := by
    intro k k1 k2
    have := le_pmx (w := fun k => if p ≤ k then w k else 0) n k2
    have this : (if p ≤ k then w k else 0) ≤ pmx (fun k => if p ≤ k then w k else 0) n := this
    rw [if_pos k1] at this
    exact this
  constructor
  · intro h
    obtain ⟨m, m1, m2⟩ := pmn_at (w := w) p h0 (fun k hk => hw k (by omega))
    have hX : (w p : Int) ≤ (pmn w p : Int) - s := by rw [m2]; exact h p (Nat.le_refl _) hp m m1
    have : pmx (fun k => if p ≤ k then w k else 0) n ≤ pmn w p - s := by
      refine pmx_le n (fun k hk => ?_)
      show (if p ≤ k then w k else 0) ≤ _
      by_cases z : p ≤ k
      · rw [if_pos z]
        have := h k z hk m m1
        rw [← m2] at this
        omega
      · rw [if_neg z]; exact Nat.zero_le _
    omega
  · intro h k k1 k2 m m1
    have a := key k k1 k2
    have b := pmn_le (w := w) p m1
    omega
theorem l_moved {s : Nat} (hn : n ≤ 12) (e : c.1 0 8 = nI n) (e' : r.1 0 34 = nI n) (hw : ∀ k, k < n → w k ≤ 99 ∧ c.1 3 k = nI (w k) ∧ r.1 23 k = nI (w k)) (hs : s ≤ 99) : ∀ (f p : Nat), n + 1 < p + f → p ≤ n + 1 → 0 < p → ∃ v, X10_moved_l20 (nI s) f (nI p) c = some (v, c) ∧ X11_moved_l20 (nI s) f (nI p) r = some (v, r) := by
  intro f
  induction f with
  | zero => intro p h1 h2; omega
  | succ f ih =>
    intro p h1 h2 h3
    rw [X10_moved_l20.eq_2, X11_moved_l20.eq_2, e, e']
    by_cases z : n ≤ p
    · rw [if_pos (nI_le z (by omega)), if_pos (nI_le z (by omega))]
      exact ⟨_, rfl, rfl⟩
    · have hwc : ∀ k, k < n → w k ≤ 99 ∧ c.1 3 k = nI (w k) := fun k hk => ⟨(hw k hk).1, (hw k hk).2.1⟩
      have hb := pmn_99 (w := w) p
      have hb2 : pmx (fun k => if p ≤ k then w k else 0) n ≤ 99 := pmx_le n (fun k hk => by show (if p ≤ k then w k else 0) ≤ 99; have := (hw k hk).1; split <;> omega)
      have hm := mvd_iff (n := n) (w := w) (p := p) (s := s) (fun k hk => (hw k hk).1) h3 (by omega)
      have hc : nI (pmn w p) - nI s < nI (pmx (fun k => if p ≤ k then w k else 0) n) ↔ ((pmn w p : Int) - s < (pmx (fun k => if p ≤ k then w k else 0) n : Int)) := by
        rw [fa_lt, pk_sub_toInt (by omega) (by omega), toInt_nI (by omega)]
      rw [if_neg (nI_ge (by omega) (by omega)), if_neg (nI_ge (by omega) (by omega)), s_gr hn e hwc (by omega), bd_s, s_la hn e hwc (by omega), bd_s]
      rcases l_mvR hn e' (fun k hk => ⟨(hw k hk).1, (hw k hk).2.2⟩) (p := p) (by omega) hs with ⟨a1, a2⟩ | ⟨a1, a2⟩
      · rw [a2, bd_s, if_neg (fun q => hm.mp a1 (hc.mp q)), i_10]
        exact ⟨_, rfl, rfl⟩
      · rw [a2, bd_s, if_pos (hc.mpr (Decidable.not_not.mp (fun q => a1 (hm.mpr q)))), i_0, vl_e, vl_e, nI_1]
        exact ih (p + 1) (by omega) (by omega) (by omega)
end RO
theorem o_tooLong {c r : AH} (I : Inv c r) : SimE (X10_tooLong c) (X11_tooLong r) Inv := by
  obtain ⟨n, w, hn, e, e', hw⟩ := RW_w I.2.2.2.1
  unfold X10_tooLong X11_tooLong
  rw [e, e']
  by_cases z : n = 0
  · subst z
    rw [if_pos (by rfl), if_pos (by rfl)]
    exact rfs (x := -3) I (by decide)
  · rw [if_neg (nI_ne0 (by omega) (by omega)), if_neg (nI_ne0 (by omega) (by omega))]
    obtain ⟨v, e1, e2⟩ := l_long hn e e' hw FU 0 0 (by unfold FU; omega) (Nat.zero_le _)
    exact SimE.mk' e1 e2 rfl I
theorem o_unlike {c r : AH} (I : Inv c r) : SimE (X10_unlike c) (X11_unlike r) Inv := by
  obtain ⟨n, w, hn, e, e', hw⟩ := RW_w I.2.2.2.1
  unfold X10_unlike X11_unlike
  rw [e, e']
  by_cases z : n = 0
  · subst z
    rw [if_pos (by rfl), if_pos (by rfl)]
    exact rfs (x := -3) I (by decide)
  · have hwc : ∀ k, k < n → w k ≤ 99 ∧ c.1 3 k = nI (w k) := fun k hk => ⟨(hw k hk).1, (hw k hk).2.1⟩
    have g : X10_greatestFrom 0 c = some (nI (pmx w n), c) := by
      have h := s_gr hn e hwc (p := 0) (Nat.zero_le _)
      have e0 : (fun k => if 0 ≤ k then w k else 0) = w := by funext k; exact if_pos (Nat.zero_le _)
      rw [e0] at h
      exact h
    rw [if_neg (nI_ne0 (by omega) (by omega)), if_neg (nI_ne0 (by omega) (by omega)), g, bd_s, e, s_la hn e hwc (Nat.le_refl _), bd_s]
    exact SimE.mk' rfl (l_unR hn e' (fun k hk => ⟨(hw k hk).1, (hw k hk).2.2⟩) FU 0 (by unfold FU; omega) (Nat.zero_le _)) rfl I
theorem o_moved {c r : AH} {a1 : Int32} (I : Inv c r) : SimE (X10_moved a1 c) (X11_moved a1 r) Inv := by
  obtain ⟨n, w, hn, e, e', hw⟩ := RW_w I.2.2.2.1
  unfold X10_moved X11_moved
  rw [s_outside, s_bound, bd_s, bd_s]
  by_cases h0 : a1 < 1
  · rw [if_pos h0, i_4, i_4]
    exact rfs (x := -4) I (by decide)
  · rw [if_neg h0]
    by_cases h1 : 99 < a1
    · rw [if_pos h1, i_6, i_6]
      exact rfs (x := -6) I (by decide)
    · rw [if_neg h1, i_0, i_0]
      have t1 : (1 : Int32).toInt = 1 := rfl
      have t0 : (0 : Int32).toInt = 0 := rfl
      obtain ⟨s, hs, rfl⟩ := nI_of2 (x := a1) (M := 99) (n := 99) rfl (by rw [fa_lt] at h0 ⊢; omega) (Int32.not_lt.mp h1)
      obtain ⟨v, e1, e2⟩ := l_moved hn e e' hw hs FU 1 (by unfold FU; omega) (by omega) (by omega)
      exact SimE.mk' e1 e2 rfl I
