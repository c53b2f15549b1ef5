/-! RANKS in the reference -/
def RKR (h : AH) (B : BB) : Prop := ∀ i, i < 4 → h.1 20 i = B.1 i ∧ h.1 21 i = B.2 i
def FB (h h' : AH) : Prop := (∀ o k, o ≠ 20 → o ≠ 21 → h'.1 o k = h.1 o k) ∧ h'.2 = h.2
theorem FB.rf {h : AH} : FB h h := ⟨fun _ _ _ _ => rfl, rfl⟩
theorem FB.tr {h h' h2 : AH} (a : FB h h') (b : FB h' h2) : FB h h2 := ⟨fun o k h1 h2 => (b.1 o k h1 h2).trans (a.1 o k h1 h2), b.2.trans a.2⟩
theorem s_cl {h : AH} {B : BB} {j : Nat} (hj : j < 4) (R : RKR h B) (v : Int32) : ∃ h', X11_comesLength (nI j) v h = some ((), h') ∧ RKR h' (ad B j v) ∧ FB h h' := by
  unfold X11_comesLength
  rw [ck_nI _ hj (by decide), nI_clamp (by omega), (R j hj).1, (R j hj).2]
  by_cases c : B.1 j < v
  · have c2 : ¬ v ≤ B.1 j := Int32.not_le.mpr c
    rw [if_neg c2, ck_nI _ hj (by decide), ck_nI _ hj (by decide), vl_e, ck_nI _ hj (by decide), vl_e]
    refine ⟨_, rfl, fun i hi => ?_, ⟨fun o k h1 h2 => ?_, rfl⟩⟩
    · rw [sI_at, sI_at, sI_at, sI_at]
      show _ = (if i = j then (if B.1 j < v then v else B.1 j) else B.1 i) ∧ _ = (if i = j then (if B.1 j < v then B.1 j else if B.2 j < v then v else B.2 j) else B.2 i)
      by_cases d : i = j
      · rw [if_pos d, if_pos d, if_pos c, if_pos c, if_pos ⟨rfl, d⟩, if_neg (by omega), if_pos ⟨rfl, d⟩]
        exact ⟨rfl, rfl⟩
      · rw [if_neg d, if_neg d, if_neg (by omega), if_neg (by omega), if_neg (by omega), if_neg (by omega)]
        exact R i hi
    · rw [sI_at, if_neg (by omega), sI_at, if_neg (by omega)]
  · have c2 : v ≤ B.1 j := Int32.not_lt.mp c
    rw [if_pos c2, ck_nI _ hj (by decide)]
    by_cases e : B.2 j < v
    · have e2 : ¬ v ≤ B.2 j := Int32.not_le.mpr e
      rw [if_neg e2, ck_nI _ hj (by decide), vl_e]
      refine ⟨_, rfl, fun i hi => ?_, ⟨fun o k h1 h2 => ?_, rfl⟩⟩
      · rw [sI_at, sI_at]
        show _ = (if i = j then (if B.1 j < v then v else B.1 j) else B.1 i) ∧ _ = (if i = j then (if B.1 j < v then B.1 j else if B.2 j < v then v else B.2 j) else B.2 i)
        by_cases d : i = j
        · rw [if_pos d, if_pos d, if_neg c, if_neg c, if_pos e, if_neg (by omega), if_pos ⟨rfl, d⟩, d]
          exact ⟨(R j hj).1, rfl⟩
        · rw [if_neg d, if_neg d, if_neg (by omega), if_neg (by omega)]
          exact R i hi
      · rw [sI_at, if_neg (by omega)]
    · have e2 : v ≤ B.2 j := Int32.not_lt.mp e
      rw [if_pos e2]
      refine ⟨_, rfl, fun i hi => ?_, FB.rf⟩
      show _ = (if i = j then (if B.1 j < v then v else B.1 j) else B.1 i) ∧ _ = (if i = j then (if B.1 j < v then B.1 j else if B.2 j < v then v else B.2 j) else B.2 i)
      by_cases d : i = j
      · rw [if_pos d, if_pos d, if_neg c, if_neg c, if_neg e, d]
        exact R j hj
      · rw [if_neg d, if_neg d]
        exact R i hi
/-- the LENGTH of a try by a mode, as the reference says it -/
def tas (h : AH) (mode : Int32) (t : Nat) : Int32 :=
  if h.1 11 t = -9 then (if mode = 2 then lenS (h.1 2 (h.1 10 t).toNatClampNeg) (h.1 3 (h.1 10 t).toNatClampNeg) (h.1 7 (h.1 10 t).toNatClampNeg) (h.1 0 14) 0 0 else 0) else if h.1 11 t = -8 then 0 else h.1 11 t + (if mode = 1 then h.1 12 t else 0)
theorem s_tas {h : AH} {t w : Nat} (mode : Int32) (ht : t < 24) (hw : w < 4) (ew : h.1 10 t = nI w) : X11_triedAs (nI t) mode h = some (tas h mode t, h) := by
  unfold X11_triedAs tas
  rw [ck_nI _ ht (by decide), ck_nI _ ht (by decide), ck_nI _ ht (by decide), ck_nI _ ht (by decide), ck_nI _ ht (by decide), nI_clamp (by omega), ew, s_lenR hw, bd_s, nI_clamp (by omega)]
  repeat (first | rfl | split)
theorem s_bestL {g : AH} {n : Nat} {mode : Int32} (hn : n ≤ 24) {w : Nat → Nat} (hw : ∀ t, t < n → w t < 4 ∧ g.1 10 t = nI (w t)) : ∀ (f t : Nat) (h : AH), n < t + f → t ≤ n → FB g h → RKR h (bst w (tas g mode) t) → ∃ h', X11_findBest_l29 mode (nI n) f (nI t) h = some ((), h') ∧ RKR h' (bst w (tas g mode) n) ∧ FB g h' := by
  intro f
  induction f with
  | zero => intro t h h1 h2; omega
  | succ f ih =>
    intro t h h1 h2 F R
    rw [X11_findBest_l29.eq_2]
    by_cases c : t = n
    · subst c
      rw [if_pos (Int32.le_refl _)]
      exact ⟨h, rfl, R, F⟩
    · have hw1 := hw t (by omega)
      have e10 : h.1 10 t = nI (w t) := by rw [F.1 10 t (by decide) (by decide)]; exact hw1.2
      have et : tas h mode t = tas g mode t := by
        unfold tas
        rw [F.1 11 t (by decide) (by decide), F.1 10 t (by decide) (by decide), F.1 12 t (by decide) (by decide), F.1 2 _ (by decide) (by decide), F.1 3 _ (by decide) (by decide), F.1 7 _ (by decide) (by decide), F.1 0 14 (by decide) (by decide)]
      rw [if_neg (nI_ge (by omega) (by omega)), ck_nI _ (by omega) (by decide), s_tas mode (by omega) hw1.1 e10, bd_s, nI_clamp (by omega), e10, et]
      obtain ⟨h1', a1, a2, a3⟩ := s_cl hw1.1 R (tas g mode t)
      rw [a1, bd_s, vl_e, nI_1]
      exact ih (t + 1) h1' (by omega) (by omega) (F.tr a3) a2
theorem s_bestR {h : AH} {n : Nat} (mode : Int32) (hn : n ≤ 24) {w : Nat → Nat} (hw : ∀ t, t < n → w t < 4 ∧ h.1 10 t = nI (w t)) : ∃ h', X11_findBest mode (nI n) h = some ((), h') ∧ RKR h' (bst w (tas h mode) n) ∧ FB h h' := by
  have step : ∀ (i f : Nat) (h : AH), i < 4 → X11_findBest_l2 mode (nI n) (f + 1) (nI i) h = X11_findBest_l2 mode (nI n) f (nI (i + 1)) (sI (sI h 20 i 0) 21 i 0) := by
    intro i f h hi
    rw [X11_findBest_l2.eq_2, if_neg (show ¬ (4 : Int32) ≤ nI i from nI_ge (a := i) (b := 4) hi (by decide)), ck_nI _ hi (by decide), vl_e, ck_nI _ hi (by decide), vl_e, vl_e, nI_clamp (by omega), nI_1]
  obtain ⟨g, eg⟩ : ∃ g, g = sI (sI (sI (sI (sI (sI (sI (sI h 20 0 0) 21 0 0) 20 1 0) 21 1 0) 20 2 0) 21 2 0) 20 3 0) 21 3 0 := ⟨_, rfl⟩
  have e0 : X11_findBest mode (nI n) h = X11_findBest_l29 mode (nI n) FU 0 g := by
    show X11_findBest_l2 mode (nI n) (4995 + 1 + 1 + 1 + 1 + 1) (nI 0) h = _
    rw [step 0 _ _ (by decide), step 1 _ _ (by decide), step 2 _ _ (by decide), step 3 _ _ (by decide), X11_findBest_l2.eq_2, if_pos (show (4 : Int32) ≤ nI 4 from nI_le (Nat.le_refl 4) (by decide)), eg]
  have F0 : FB h g := by
    refine ⟨fun o k h1 h2 => ?_, by rw [eg]; rfl⟩
    rw [eg]
    simp only [sI_at]
    repeat (first | rw [if_neg (by omega)])
  have R0 : RKR g (fun _ => 0, fun _ => 0) := by
    intro i hi
    rw [eg]
    simp only [sI_at]
    match i, hi with
    | 0, _ => exact ⟨rfl, rfl⟩
    | 1, _ => exact ⟨rfl, rfl⟩
    | 2, _ => exact ⟨rfl, rfl⟩
    | 3, _ => exact ⟨rfl, rfl⟩
  have eT : tas g mode = tas h mode := by
    funext t
    unfold tas
    rw [F0.1 11 t (by decide) (by decide), F0.1 10 t (by decide) (by decide), F0.1 12 t (by decide) (by decide), F0.1 2 _ (by decide) (by decide), F0.1 3 _ (by decide) (by decide), F0.1 7 _ (by decide) (by decide), F0.1 0 14 (by decide) (by decide)]
  obtain ⟨h', a1, a2, a3⟩ := s_bestL (g := g) (mode := mode) hn (w := w) (fun t ht => ⟨(hw t ht).1, by rw [F0.1 10 t (by decide) (by decide)]; exact (hw t ht).2⟩) FU 0 g (by unfold FU; omega) (by omega) FB.rf R0
  have a1 : X11_findBest_l29 mode (nI n) FU 0 g = some ((), h') := a1
  refine ⟨h', by rw [e0, a1], ?_, F0.tr a3⟩
  rw [← eT]
  exact a2
theorem s_isAhead {h : AH} {B : BB} {a b : Nat} (ha : a < 4) (hb : b < 4) (hB : BP B) (R : RKR h B) : X11_isAhead (nI a) (nI b) h = some (if ky B b < ky B a then 1 else 0, h) := by
  have q1 := hB a
  have q2 := hB b
  have r1 := fb_rng (B.1 a)
  have r2 := fb_rng (B.1 b)
  unfold X11_isAhead
  rw [ck_nI _ ha (by decide), ck_nI _ hb (by decide), ck_nI _ ha (by decide), ck_nI _ hb (by decide), ck_nI _ ha (by decide), ck_nI _ hb (by decide), ck_nI _ ha (by decide), ck_nI _ hb (by decide), nI_clamp (by omega), nI_clamp (by omega), (R a ha).1, (R a ha).2, (R b hb).1, (R b hb).2, cz_0, cz_1]
  by_cases d1 : B.1 a = B.1 b
  · rw [if_pos d1]
    by_cases d2 : B.2 a = B.2 b
    · rw [if_pos d2]
      by_cases d3 : b ≤ a
      · rw [if_pos (nI_le d3 (by omega)), if_neg (by unfold ky; rw [d1, d2]; omega)]
      · rw [if_neg (nI_ge (by omega) (by omega)), if_pos (by unfold ky; rw [d1, d2]; omega)]
    · have d2' : (B.2 a).toInt ≠ (B.2 b).toInt := fun z => d2 ((fa_eq _ _).mpr z)
      rw [if_neg d2]
      by_cases d3 : B.2 a ≤ B.2 b
      · rw [if_pos d3]
        rw [fa_le] at d3
        rw [if_neg (by unfold ky; rw [d1]; omega)]
      · rw [if_neg d3]
        rw [fa_le] at d3
        rw [if_pos (by unfold ky; rw [d1]; omega)]
  · have d1' : (B.1 a).toInt ≠ (B.1 b).toInt := fun z => d1 ((fa_eq _ _).mpr z)
    rw [if_neg d1]
    by_cases d3 : B.1 a ≤ B.1 b
    · rw [if_pos d3]
      rw [fa_le] at d3
      rw [if_neg (by unfold ky; omega)]
    · rw [if_neg d3]
      rw [fa_le] at d3
      rw [if_pos (by unfold ky; omega)]
def FO22 (h h' : AH) : Prop := (∀ o k, o ≠ 22 → h'.1 o k = h.1 o k) ∧ h'.2 = h.2
theorem rk_s (B : BB) (m j : Nat) : rk B (m + 1) j = rk B m j + (if ky B j < ky B m then 1 else 0) := by
  show cN _ m + (if decide (ky B j < ky B m) = true then 1 else 0) = _
  unfold rk
  congr 1
  by_cases c : ky B j < ky B m
  · rw [if_pos c, if_pos (decide_eq_true c)]
  · rw [if_neg c, if_neg (by rw [decide_eq_false c]; decide)]
theorem s_ins {B : BB} {m : Nat} (hm : m < 4) (hB : BP B) {g : AH} (R : RKR g B) (hO : ∀ j, j < m → g.1 22 (rk B m j) = nI j) (K : Int32 → AH → Option (Unit × AH)) : ∀ (f q : Nat) (h : AH), q < f → rk B m m ≤ q → q ≤ m → FO22 g h → (∀ x, x ≤ q → x < m → h.1 22 x = g.1 22 x) → (∀ x, q < x → x ≤ m → h.1 22 x = g.1 22 (x - 1)) →
    ∃ h', X11_sorts_l12 (nI m) K f (nI q) h = K (nI (m + 1)) h' ∧ FO22 g h' ∧ ∀ j, j < m + 1 → h'.1 22 (rk B (m + 1) j) = nI j := by
  intro f
  induction f with
  | zero => intro q h h1; omega
  | succ f ih =>
    intro q h h1 h2 h3 F A1 A2
    have Rh : RKR h B := fun i hi => by rw [F.1 20 i (by decide), F.1 21 i (by decide)]; exact R i hi
    -- the end at the right place
    have fin : q = rk B m m → ∃ h', X11_sorts_j52 (nI m) (nI q) K h = K (nI (m + 1)) h' ∧ FO22 g h' ∧ ∀ j, j < m + 1 → h'.1 22 (rk B (m + 1) j) = nI j := by
      intro e
      unfold X11_sorts_j52
      rw [ck_nI _ (by omega) (by decide), vl_e, vl_e, nI_1, nI_clamp (by omega)]
      refine ⟨_, rfl, ⟨fun o k ho => ?_, F.2⟩, fun j hj => ?_⟩
      · rw [sI_at, if_neg (fun z => ho z.1)]
        exact F.1 o k ho
      · rw [sI_at, rk_s]
        by_cases c : j = m
        · subst c
          rw [if_neg (Int.lt_irrefl _), Nat.add_zero, if_pos ⟨rfl, e.symm⟩]
        · have hjm : j < m := by omega
          have hr := rk_lt (B := B) hjm
          by_cases d : ky B j < ky B m
          · have h4 : rk B m m ≤ rk B m j := by
              refine cN_mono m (fun k _ hk => ?_)
              have := of_decide_eq_true hk
              exact decide_eq_true (by omega)
            rw [if_pos d, if_neg (by omega), A2 _ (by omega) (by omega), Nat.add_sub_cancel]
            exact hO j hjm
          · have hne := ky_ne (B := B) (by omega : j < 4) hm hB c
            have h4 : rk B m j < rk B m m := by
              refine cN_lt m (fun k _ hk => ?_) ⟨j, hjm, decide_eq_true (by omega), by simp⟩
              have := of_decide_eq_true hk
              exact decide_eq_true (by omega)
            rw [if_neg d, Nat.add_zero, if_neg (by omega), A1 _ (by omega) (by omega)]
            exact hO j hjm
    rw [X11_sorts_l12.eq_2]
    by_cases c : q = 0
    · rw [if_pos (by rw [c]; exact Int32.le_refl _)]
      exact fin (by omega)
    · have e1 : nI q - 1 = nI (q - 1) := by
        rw [show q = q - 1 + 1 from by omega]
        exact nI_pred (q - 1)
      have e2 : nI q + (-1) = nI (q - 1) := by
        rw [show q = q - 1 + 1 from by omega]
        exact pk_m1 (q - 1)
      obtain ⟨j, hj, ej⟩ := rk_onto (B := B) (n := m) (p := q - 1) (by omega) hB (by omega)
      have e3 : h.1 22 (q - 1) = nI j := by
        rw [A1 (q - 1) (by omega) (by omega), ← ej]
        exact hO j hj
      rw [if_neg (nI_nle (by omega) (by omega)), e1, ck_nI _ (by omega) (by decide), nI_clamp (by omega), e3, s_isAhead hm (by omega) hB Rh, bd_s]
      have hne := ky_ne (B := B) (by omega : j < 4) hm hB (by omega)
      by_cases d : ky B j < ky B m
      · have h4 : rk B m m ≤ q - 1 := by
          rw [← ej]
          refine cN_mono m (fun k _ hk => ?_)
          have := of_decide_eq_true hk
          exact decide_eq_true (by omega)
        rw [if_pos d, if_neg (by decide), ck_nI _ (by omega) (by decide), ck_nI _ (by omega) (by decide), vl_e, vl_e, e2, nI_clamp (by omega), e3]
        refine ih (q - 1) _ (by omega) h4 (by omega) ⟨fun o k ho => ?_, F.2⟩ (fun x hx hxm => ?_) (fun x hx hxm => ?_)
        · rw [sI_at, if_neg (fun z => ho z.1)]
          exact F.1 o k ho
        · rw [sI_at, if_neg (by omega)]
          exact A1 x (by omega) hxm
        · rw [sI_at]
          by_cases w : x = q
          · rw [if_pos ⟨rfl, w⟩, w, ← A1 (q - 1) (by omega) (by omega), e3]
          · rw [if_neg (fun z => w z.2)]
            exact A2 x (by omega) hxm
      · have h4 : q - 1 < rk B m m := by
          rw [← ej]
          refine cN_lt m (fun k _ hk => ?_) ⟨j, hj, decide_eq_true (by omega), by simp⟩
          have := of_decide_eq_true hk
          exact decide_eq_true (by omega)
        rw [if_neg d, if_pos (by rfl)]
        exact fin (by omega)
theorem s_sorts {h : AH} {B : BB} {N : Nat} (hN : N ≤ 4) (eN : h.1 0 15 = nI N) (hB : BP B) (R : RKR h B) : ∃ h', X11_sorts h = some ((), h') ∧ FO22 h h' ∧ ∀ j, j < N → h'.1 22 (rk B N j) = nI j := by
  have key : ∀ (f m : Nat) (g : AH), N < m + f → m ≤ N → FO22 h g → (∀ j, j < m → g.1 22 (rk B m j) = nI j) → ∃ h', X11_sorts_l2 f (nI m) g = some ((), h') ∧ FO22 h h' ∧ ∀ j, j < N → h'.1 22 (rk B N j) = nI j := by
    intro f
    induction f with
    | zero => intro m g h1 h2; omega
    | succ f ih =>
      intro m g h1 h2 F hO
      rw [X11_sorts_l2.eq_2, F.1 0 15 (by decide), eN]
      by_cases c : m = N
      · subst c
        rw [if_pos (Int32.le_refl _)]
        exact ⟨g, rfl, F, hO⟩
      · rw [if_neg (nI_ge (by omega) (by omega))]
        have Rg : RKR g B := fun i hi => by rw [F.1 20 i (by decide), F.1 21 i (by decide)]; exact R i hi
        obtain ⟨g2, a1, a2, a3⟩ := s_ins (m := m) (by omega) hB Rg hO (X11_sorts_l2 f) FU m g (by unfold FU; omega) (cN_le _ m) (Nat.le_refl m) ⟨fun _ _ _ => rfl, rfl⟩ (fun x _ _ => rfl) (fun x h4 h5 => by omega)
        rw [a1]
        exact ih (m + 1) g2 (by omega) (by omega) ⟨fun o k ho => (a2.1 o k ho).trans (F.1 o k ho), a2.2.trans F.2⟩ a3
  exact key FU 0 h (by unfold FU; omega) (by omega) ⟨fun _ _ _ => rfl, rfl⟩ (fun j hj => by omega)
theorem s_rankOf {h : AH} {B : BB} {N j : Nat} (hN : N ≤ 4) (eN : h.1 0 15 = nI N) (hB : BP B) (hO : ∀ j, j < N → h.1 22 (rk B N j) = nI j) (hj : j < N) : X11_rankOf (nI j) h = some (nI (rk B N j), h) := by
  have hr := rk_lt (B := B) hj
  have key : ∀ (f k : Nat), N < k + f → k ≤ rk B N j → X11_rankOf_l2 (nI j) f (nI k) h = some (nI (rk B N j), h) := by
    intro f
    induction f with
    | zero => intro k h1 h2; omega
    | succ f ih =>
      intro k h1 h2
      rw [X11_rankOf_l2.eq_2, eN, if_neg (nI_ge (by omega) (by omega)), ck_nI _ (by omega) (by decide), nI_clamp (by omega)]
      by_cases c : k = rk B N j
      · rw [c, hO j hj, if_pos rfl]
      · obtain ⟨i, hi, ei⟩ := rk_onto (B := B) (p := k) hN hB (by omega)
        have e : h.1 22 k = nI i := by rw [← ei]; exact hO i hi
        rw [e, if_neg (fun z => c (by rw [(nI_eq (by omega) (by omega)).mp z] at ei; exact ei.symm)), vl_e, nI_1]
        exact ih (k + 1) (by omega) (by omega)
  exact key FU 0 (by unfold FU; omega) (by omega)
