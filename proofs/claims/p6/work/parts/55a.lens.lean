/-! the reference's lengths, said whole; sums of two -/
def FO (p : Nat) (h h' : AH) : Prop := h'.1 = h.1 ∧ h'.2.2 = h.2.2 ∧ ∀ o, o ≠ 18 → o ≠ 19 → o ≠ p → h'.2.1 o = h.2.1 o
theorem fF_RS {g : AH} {j l e v : Nat} {pl : Int32} (he : e ≤ 20) (hl : l ≤ 4) : sm 1681 (fF g j l e pl v) = RS (g.1 2 j) (g.1 3 j) (g.1 6 j) (g.1 7 j) (g.1 0 14) pl (aimS (g.1 2 j) (g.1 3 j)) e l (pL v) := by
  rw [show 1681 = 41 * 41 from rfl, sm_sq, sm_win he]
  · unfold RS
    refine sm_c (fun i hi => ?_)
    rw [sm_win (e := l) (by omega)]
    · refine sm_c (fun t ht => ?_)
      unfold fF
      rw [show (41 * (20 - e + i) + (20 - l + t)) / 41 = 20 - e + i from by omega, show (41 * (20 - e + i) + (20 - l + t)) % 41 = 20 - l + t from by omega, wy_in he, wy_in (by omega), bh_eq he hl (by omega) (by omega)]
      unfold pL lnS lsS lsR
      rw [bh0_eq he (by omega)]
    · intro k hk ho
      unfold fF
      rw [show (41 * (20 - e + i) + k) % 41 = k from by omega, wy_out (n := l) ho]
      show lN _ * 0 * _ = 0
      rw [Int64.mul_zero, Int64.zero_mul]
  · intro k hk ho
    refine sm_z (fun c hc => ?_)
    unfold fF
    rw [show (41 * k + c) / 41 = k from by omega, wy_out (n := e) ho]
    show 0 * _ * _ = 0
    rw [Int64.zero_mul, Int64.zero_mul]
theorem fl_zero {p : Nat} (v1 v2 : Int32) (g : AH) : ∀ (n i : Nat) (h : AH), 1000 < i + n → i ≤ 1000 → LO p g h → (∀ v, v < i → h.2.1 p v = 0) → ∃ h', X11_findLengths_l3 p 1000 v1 v2 n (nI i) h = (ck v1 4 (vl (h'.1 8 v1.toNatClampNeg) fun x1 => bd (X11_findWays 18 41 ((h'.1 0 12) - x1) h') fun _ h3 => bd (X11_findWays 19 41 x1 h3) fun _ h5 => X11_findLengths_l56 p 1000 v1 v2 x1 FU 0 h5)) ∧ LO p g h' ∧ ∀ v, v < 1000 → h'.2.1 p v = 0 := by
  intro n
  induction n with
  | zero => intro i h h1 h2; omega
  | succ n ih =>
    intro i h h1 h2 L A
    rw [X11_findLengths_l3.eq_2]
    by_cases c : i = 1000
    · subst c
      rw [if_pos (show (1000 : Int32) ≤ nI 1000 from Int32.le_refl _)]
      exact ⟨h, rfl, L, A⟩
    · rw [if_neg (show ¬ (1000 : Int32) ≤ nI i from nI_ge (b := 1000) (by omega) (by decide)), ck_nI _ (by omega) (by decide), vl_e, vl_e, nI_1, nI_clamp (by omega)]
      refine ih (i + 1) _ (by omega) (by omega) (L.tr (LO.set h _ _)) (fun v hv => ?_)
      rw [sL_at]
      by_cases d : v = i
      · rw [if_pos ⟨rfl, d⟩]
      · rw [if_neg (fun z => d z.2)]
        exact A v (by omega)
theorem fl_end {p S : Nat} (hS : S ≤ 20) {g : AH} (e12 : g.1 0 12 = nI S) (w : Nat → Nat) (hw : ∀ v, v < 1000 → w v ≤ 2 ^ (2 * S)) : ∀ (n i : Nat) (h : AH), 1000 < i + n → i ≤ 1000 → LO p g h → (∀ v, v < 1000 → h.2.1 p v = if v < i then lN (sh (w v) S) else lN (w v)) → ∃ h', X11_findLengths_l207 p 1000 n (nI i) h = some ((), h') ∧ LO p g h' ∧ ∀ v, v < 1000 → h'.2.1 p v = lN (sh (w v) S) := by
  intro n
  induction n with
  | zero => intro i h h1 h2; omega
  | succ n ih =>
    intro i h h1 h2 L A
    rw [X11_findLengths_l207.eq_2]
    by_cases c : i = 1000
    · subst c
      rw [if_pos (show (1000 : Int32) ≤ nI 1000 from Int32.le_refl _)]
      exact ⟨h, rfl, L, fun v hv => by rw [A v hv, if_pos hv]⟩
    · rw [if_neg (show ¬ (1000 : Int32) ≤ nI i from nI_ge (b := 1000) (by omega) (by decide)), ck_nI _ (by omega) (by decide), nI_clamp (by omega), A i (by omega), if_neg (by omega), s_pow hS (hw i (by omega)) (by rw [L.1]; exact e12), bd_s, ck_nI _ (by omega) (by decide), vl_e, vl_e, nI_1]
      refine ih (i + 1) _ (by omega) (by omega) (L.tr (LO.set h _ _)) (fun v hv => ?_)
      rw [sL_at]
      by_cases d : v = i
      · rw [if_pos ⟨rfl, d⟩, if_pos (by omega), d]
      · rw [if_neg (fun z => d z.2), A v hv]
        by_cases x : v < i
        · rw [if_pos x, if_pos (by omega)]
        · rw [if_neg x, if_neg (by omega)]
theorem u_lengths {h : AH} {j S p : Nat} (hj : j < 4) (hJ : NJ (RJ h j)) (e12 : h.1 0 12 = nI S) (hw : WW (h.1 0 14)) (h4 : 4 ≤ S) (h20 : S ≤ 20) {pl : Int32} (hp : -5000 ≤ pl.toInt) (hp2 : pl.toInt ≤ 5000) (hp18 : p ≠ 18) (hp19 : p ≠ 19) :
    ∃ h', X11_findLengths (nI j) pl p 1000 h = some ((), h') ∧ FO p h h' ∧ ∀ v, v < 1000 → ∃ w, RV (RJ h j) (h.1 0 14) pl S (pL v) = lN w ∧ w ≤ 2 ^ (2 * S) ∧ h'.2.1 p v = lN (sh w S) := by
  have hz := rv_ln hJ hw h4 h20 hp hp2
  obtain ⟨hl, el, hn⟩ := hz
  have el : h.1 8 j = nI (RJ h j 7).toNatClampNeg := el
  obtain ⟨l, el2⟩ : ∃ l, l = (RJ h j 7).toNatClampNeg := ⟨_, rfl⟩
  rw [← el2] at hl el hn
  obtain ⟨h1, a1, a2, a3⟩ := fl_zero (p := p) (nI j) pl h FU 0 h (by unfold FU; omega) (by omega) LO.rf (fun v hv => by omega)
  have a1 : X11_findLengths (nI j) pl p 1000 h = _ := a1
  rw [ck_nI _ hj (by decide), vl_e, nI_clamp (by omega), a2.1, el, e12, pk_sub (by omega : l ≤ S)] at a1
  obtain ⟨h2, b1, b2, b3, b4⟩ := s_two (h := h1) (l := l) (S := S) (by omega) h20 (X11_findLengths_l56 p 1000 (nI j) pl (nI l) FU 0)
  have q1 : h2.1 = h.1 := b2.1.trans a2.1
  have q2 : h2.2.2 = h.2.2 := b2.2.1.trans a2.2.1
  obtain ⟨h3, c1, c2, c3⟩ := s_flL (p := p) (j := j) (l := l) (e := S - l) (pl := pl) hj hl hp18 hp19 (g := h2) b3 b4 (fun k hk d => by
    have d1 : ¬ (k / 41 + (S - l) < 20 ∨ 20 + (S - l) < k / 41) := fun z => d (by rw [wy_out z]; exact Int64.zero_mul)
    have d2 : ¬ (k % 41 + l < 20 ∨ 20 + l < k % 41) := fun z => d (by rw [wy_out (n := l) z]; exact Int64.mul_zero)
    obtain ⟨n, hn1, hn2⟩ := hn (k / 41 - (20 - (S - l))) (k % 41 - (20 - l)) (by omega) (by omega)
    refine ⟨n, by omega, ?_⟩
    rw [← hn2, q1]
    have f1 : k / 41 = 20 - (S - l) + (k / 41 - (20 - (S - l))) := by omega
    have f2 : k % 41 = 20 - l + (k % 41 - (20 - l)) := by omega
    generalize k / 41 - (20 - (S - l)) = i at f1 ⊢
    generalize k % 41 - (20 - l) = t at f2 ⊢
    rw [f1, f2]
    show (if 0 ≤ bhR pl (RJ h j 5) (aimS (RJ h j 1) (RJ h j 2)) l (20 - (S - l) + i) (20 - l + t) then lenS (RJ h j 1) (RJ h j 2) (RJ h j 6) (h.1 0 14) (bhR pl (RJ h j 5) (aimS (RJ h j 1) (RJ h j 2)) l (20 - (S - l) + i) (20 - l + t)) (lsR pl (RJ h j 5) (aimS (RJ h j 1) (RJ h j 2)) l (20 - (S - l) + i)) else 0) = _
    rw [bh_eq (by omega) hl (by omega) (by omega)]
    unfold lnS lsS lsR
    rw [bh0_eq (by omega) (by omega)]) FU 0 h2 (by unfold FU; omega) (by omega) LO.rf (fun v hv => by
      have : h2.2.1 p = h1.2.1 p := b2.2.2 p hp18 hp19
      rw [this]
      exact a3 v hv)
  have c1 : X11_findLengths_l56 p 1000 (nI j) pl (nI l) FU 0 h2 = X11_findLengths_l207 p 1000 FU 0 h3 := c1
  have w1 : ∀ v, ∃ w, (v < 1000 → RV (RJ h j) (h.1 0 14) pl S (pL v) = lN w ∧ w ≤ 2 ^ (2 * S)) := fun v => by
    obtain ⟨w, z1, z2⟩ := rv_L hJ hw h4 h20 hp hp2 v
    exact ⟨w, fun _ => ⟨z1, z2⟩⟩
  obtain ⟨h4', d1, d2, d3⟩ := fl_end (p := p) (S := S) h20 (g := h3) (by rw [c2.1, q1]; exact e12) (fun v => (w1 v).choose) (fun v hv => ((w1 v).choose_spec hv).2) FU 0 h3 (by unfold FU; omega) (by omega) LO.rf (fun v hv => by
    rw [if_neg (by omega), c3 v hv, fF_RS (by omega) hl, ← ((w1 v).choose_spec hv).1, q1]
    unfold RV
    rw [← el2]
    rfl)
  have d1 : X11_findLengths_l207 p 1000 FU 0 h3 = some ((), h4') := d1
  refine ⟨h4', ?_, ⟨d2.1.trans (c2.1.trans q1), d2.2.1.trans (c2.2.1.trans q2), fun o o1 o2 o3 => ?_⟩, fun v hv => ⟨(w1 v).choose, ((w1 v).choose_spec hv).1, ((w1 v).choose_spec hv).2, d3 v hv⟩⟩
  · rw [a1, b1, c1, d1]
  · rw [d2.2.2 o o3, c2.2.2 o o3, b2.2.2 o o1 o2, a2.2.2 o o3]
/-- the class's parts, filled -/
theorem s_fillP {q S : Nat} (hS : S ≤ 20) (hq : q = 32 ∨ q = 33) {g : AH} (e82 : g.2.1 8 2 = lN (2 ^ (2 * S))) (w : Nat → Nat) (hw : ∀ v, v < 1000 → g.2.1 31 v = lN (w v) ∧ w v ≤ 2 ^ (2 * S)) : ∀ (n i : Nat) (h : AH), 1000 < i + n → i ≤ 1000 → h.2 = g.2 → (∀ o k, o ≠ q → h.1 o k = g.1 o k) → (∀ v, v < i → h.1 q v = nI (sh (w v) S)) → ∃ h', X10_fillParts_l34 q 1000 n (nI i) h = some ((), h') ∧ h'.2 = g.2 ∧ (∀ o k, o ≠ q → h'.1 o k = g.1 o k) ∧ ∀ v, v < 1000 → h'.1 q v = nI (sh (w v) S) := by
  intro n
  induction n with
  | zero => intro i h h1 h2; omega
  | succ n ih =>
    intro i h h1 h2 E L A
    rw [X10_fillParts_l34.eq_2]
    by_cases c : i = 1000
    · subst c
      rw [if_pos (show Int32.ofNat 1000 ≤ nI 1000 from Int32.le_refl _)]
      exact ⟨h, rfl, E, L, A⟩
    · rw [if_neg (show ¬ Int32.ofNat 1000 ≤ nI i from nI_ge (b := 1000) (by omega) (by decide)), if_neg (show ¬ (999 : Int32) < nI i from nI_nlt (a := 999) (by omega) (by decide)), ck_nI _ (by omega) (by decide), nI_clamp (by omega), E, (hw i (by omega)).1, s_share hS (hw i (by omega)).2 (by rw [E]; exact e82), bd_s, ck_nI _ (by omega) (by decide), vl_e, vl_e, nI_1]
      refine ih (i + 1) _ (by omega) (by omega) E (fun o k ho => ?_) (fun v hv => ?_)
      · rw [sI_at, if_neg (fun z => ho z.1)]
        exact L o k ho
      · rw [sI_at]
        by_cases d : v = i
        · rw [if_pos ⟨rfl, d⟩, d]
        · rw [if_neg (fun z => d z.2)]
          exact A v (by omega)
/-- MORE LIKELY of two rows of parts -/
def mrS (f g : Nat → Nat) : Nat → Int64 × Int64
  | 0 => (0, 0)
  | v + 1 => ((mrS f g v).1 + lN (f v) * (mrS f g v).2, (mrS f g v).2 + lN (g v))
def mrV (f g : Nat → Nat) : Int32 := ((mrS f g 1000).1 / 10000).toInt32
theorem s_moreC {h : AH} {f g : Nat → Nat} (hf : ∀ v, v < 1000 → f v ≤ 10000 ∧ h.1 32 v = nI (f v)) (hg : ∀ v, v < 1000 → g v ≤ 10000 ∧ h.1 33 v = nI (g v)) : X10_moreByParts h = some (mrV f g, h) := by
  have key : ∀ (n v : Nat), 1000 < v + n → v ≤ 1000 → X10_moreByParts_l7 n (mrS f g v).1 (mrS f g v).2 (nI v) h = some (mrV f g, h) := by
    intro n
    induction n with
    | zero => intro v h1 h2; omega
    | succ n ih =>
      intro v h1 h2
      rw [X10_moreByParts_l7.eq_2]
      by_cases c : v = 1000
      · subst c
        rw [if_pos (show (999 : Int32) < nI 1000 from nI_lt (a := 999) (by decide) (by decide))]
        rfl
      · have f1 := hf v (by omega)
        have g1 := hg v (by omega)
        rw [if_neg (show ¬ (999 : Int32) < nI v from nI_nlt (a := 999) (by omega) (by decide)), ck_nI _ (by omega) (by decide), vl_e, ck_nI _ (by omega) (by decide), vl_e, vl_e, nI_clamp (by omega), nI_1, f1.2, g1.2, nI_l (by omega), nI_l (by omega)]
        exact ih (v + 1) (by omega) (by omega)
  exact key FU 0 (by unfold FU; omega) (by omega)
theorem s_moreR {h : AH} {f g : Nat → Nat} (hf : ∀ v, v < 1000 → h.2.1 25 v = lN (f v)) (hg : ∀ v, v < 1000 → h.2.1 26 v = lN (g v)) : X11_moreFrom_l30 FU 0 0 0 h = some (mrV f g, h) := by
  have key : ∀ (n v : Nat), 1000 < v + n → v ≤ 1000 → X11_moreFrom_l30 n (mrS f g v).1 (mrS f g v).2 (nI v) h = some (mrV f g, h) := by
    intro n
    induction n with
    | zero => intro v h1 h2; omega
    | succ n ih =>
      intro v h1 h2
      rw [X11_moreFrom_l30.eq_2]
      by_cases c : v = 1000
      · subst c
        rw [if_pos (show (1000 : Int32) ≤ nI 1000 from Int32.le_refl _)]
        rfl
      · rw [if_neg (show ¬ (1000 : Int32) ≤ nI v from nI_ge (b := 1000) (by omega) (by decide)), ck_nI _ (by omega) (by decide), vl_e, ck_nI _ (by omega) (by decide), vl_e, vl_e, nI_clamp (by omega), nI_1, hf v (by omega), hg v (by omega)]
        exact ih (v + 1) (by omega) (by omega)
  exact key FU 0 (by unfold FU; omega) (by omega)
