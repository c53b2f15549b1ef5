/-! p1: the first call on a fresh object -/
theorem rf_1 (h : AH) : X10_refuse (-1) h = some (-1, sI h 4 1 (h.1 4 1 + 1)) := by
  unfold X10_refuse
  rw [if_neg (by decide), if_neg (by decide), ck_in _ (by decide), ck_in _ (by decide), vl_e]
  rfl
theorem rf_2 (h : AH) : X10_refuse (-2) h = some (-2, sI h 4 2 (h.1 4 2 + 1)) := by
  unfold X10_refuse
  rw [if_neg (by decide), if_neg (by decide), ck_in _ (by decide), ck_in _ (by decide), vl_e]
  rfl
theorem rf_3 (h : AH) : X10_refuse (-3) h = some (-3, sI h 4 3 (h.1 4 3 + 1)) := by
  unfold X10_refuse
  rw [if_neg (by decide), if_neg (by decide), ck_in _ (by decide), ck_in _ (by decide), vl_e]
  rfl
theorem rf_4 (h : AH) : X10_refuse (-4) h = some (-4, sI h 4 4 (h.1 4 4 + 1)) := by
  unfold X10_refuse
  rw [if_neg (by decide), if_neg (by decide), ck_in _ (by decide), ck_in _ (by decide), vl_e]
  rfl
theorem rf_6 (h : AH) : X10_refuse (-6) h = some (-6, sI h 4 6 (h.1 4 6 + 1)) := by
  unfold X10_refuse
  rw [if_neg (by decide), if_neg (by decide), ck_in _ (by decide), ck_in _ (by decide), vl_e]
  rfl
theorem no_g {x : Int32} {w : Nat} (h3 : ¬ (-x < 0 ∨ 7 ≤ (-x).toNatClampNeg)) (h4 : (-x).toNatClampNeg = w) (h : AH) : X11_no x h = some (x, sI h 1 w (h.1 1 w + 1)) := by
  unfold X11_no
  rw [ck_in _ h3, ck_in _ h3, vl_e, h4]
theorem no_1 (h : AH) : X11_no (-1) h = some (-1, sI h 1 1 (h.1 1 1 + 1)) := no_g (by decide) (by decide) h
theorem no_2 (h : AH) : X11_no (-2) h = some (-2, sI h 1 2 (h.1 1 2 + 1)) := no_g (by decide) (by decide) h
theorem no_3 (h : AH) : X11_no (-3) h = some (-3, sI h 1 3 (h.1 1 3 + 1)) := no_g (by decide) (by decide) h
theorem no_4 (h : AH) : X11_no (-4) h = some (-4, sI h 1 4 (h.1 1 4 + 1)) := no_g (by decide) (by decide) h
theorem no_6 (h : AH) : X11_no (-6) h = some (-6, sI h 1 6 (h.1 1 6 + 1)) := no_g (by decide) (by decide) h
theorem lo_g {x : Int32} {w : Nat} (h3 : ¬ (-x < 0 ∨ 7 ≤ (-x).toNatClampNeg)) (h4 : (-x).toNatClampNeg = w) (h : AH) : X11_lower x h = some (1000000000 - x, sI h 1 w (h.1 1 w + 1)) := by
  unfold X11_lower
  rw [ck_in _ h3, ck_in _ h3, vl_e, h4]
theorem lo_1 (h : AH) : X11_lower (-1) h = some (1000000000 - (-1), sI h 1 1 (h.1 1 1 + 1)) := lo_g (by decide) (by decide) h
theorem lo_4 (h : AH) : X11_lower (-4) h = some (1000000000 - (-4), sI h 1 4 (h.1 1 4 + 1)) := lo_g (by decide) (by decide) h
theorem lo_6 (h : AH) : X11_lower (-6) h = some (1000000000 - (-6), sI h 1 6 (h.1 1 6 + 1)) := lo_g (by decide) (by decide) h
theorem ll_1 (h : AH) : X11_lowest (-1) h = some (4000000000000000000 - (-1 : Int32).toInt64, sI h 1 1 (h.1 1 1 + 1)) := by
  unfold X11_lowest
  rw [ck_in _ (by decide), ck_in _ (by decide), vl_e]
  rfl
theorem i_0 {α : Type} (a b : α) : (if (0 : Int32) = 0 then a else b) = a := if_pos rfl
theorem i_le {α : Type} (a b : α) : (if (0 : Int32) ≤ 0 then a else b) = a := if_pos (Int32.le_refl 0)
theorem k_0 {β : Type} {n : Nat} (o : Option β) (hn : 0 < n) : ck 0 n o = o := ck_in o (fun z => z.elim (fun z => absurd z (by decide)) (fun z => absurd z (by show ¬ n ≤ 0; omega)))
theorem i_10 {α : Type} (a b : α) : (if (1 : Int32) = 0 then a else b) = b := if_neg (by decide)
theorem i_1 {α : Type} (a b : α) : (if (-1 : Int32) = 0 then a else b) = b := if_neg (by decide)
theorem i_2 {α : Type} (a b : α) : (if (-2 : Int32) = 0 then a else b) = b := if_neg (by decide)
theorem i_3 {α : Type} (a b : α) : (if (-3 : Int32) = 0 then a else b) = b := if_neg (by decide)
theorem i_4 {α : Type} (a b : α) : (if (-4 : Int32) = 0 then a else b) = b := if_neg (by decide)
theorem i_6 {α : Type} (a b : α) : (if (-6 : Int32) = 0 then a else b) = b := if_neg (by decide)
theorem simT {N : AH → AH → Prop} (hN : ∀ a b : AH, N a b) {α : Type} {F G : Option (α × AH)} (v : α) (h1 : F.map (·.1) = some v) (h2 : G.map (·.1) = some v) : SimE F G N := by
  cases F with
  | none => cases h1
  | some p =>
    cases G with
    | none => cases h2
    | some q =>
      obtain ⟨a, c2⟩ := p
      obtain ⟨b, r2⟩ := q
      have e1 : a = v := Option.some.inj h1
      have e2 : b = v := Option.some.inj h2
      subst e1
      subst e2
      exact ⟨b, c2, r2, rfl, rfl, hN c2 r2⟩
section ST
variable {c r : AH} {a1 a2 a3 a4 : Int32}
theorem z_nobody (hc : StC c) (v : Int32) : X10_nobody v c = some (-1, c) := by
  rw [s_nobody, (hc.1 42 (Or.inl rfl)).2.2.2.1, if_pos]
  by_cases h : v < 0
  · exact Or.inl h
  · exact Or.inr (Int32.not_lt.mp h)
theorem z_isJ (hr : StR r) (v : Int32) : X11_isJumper v r = some (0, r) := by
  rw [s_isJumper, hr.2.2.2.1, if_pos]
  by_cases h : v < 0
  · exact Or.inl h
  · exact Or.inr (Int32.not_lt.mp h)
theorem z_fin (hc : StC c) : X5_finalists 42 c = some (0, c) := by
  unfold X5_finalists
  rw [(hc.1 42 (Or.inl rfl)).2.2.2.1, (hc.1 42 (Or.inl rfl)).2.2.1, if_pos (by decide)]
theorem z_round (hc : StC c) : X5_round 42 c = some (6, c) := by
  unfold X5_round
  rw [z_fin hc, bd_s, (hc.1 42 (Or.inl rfl)).2.2.2.1, if_pos (by decide)]
theorem z_inTurn (hc : StC c) : X5_inTurn 42 c = some (-9, c) := by
  unfold X5_inTurn
  rw [z_fin hc, bd_s, z_round hc, bd_s, if_pos rfl]
theorem z_notIn (hc : StC c) (v : Int32) : X10_notInTurn v c = some (if (-9) = v then 0 else -3, c) := by
  unfold X10_notInTurn
  rw [z_inTurn hc, bd_s]
  split <;> rfl
theorem z_turn (hr : StR r) : X11_turnNow r = some (-9, r) := by
  unfold X11_turnNow
  rw [hr.2.2.2.1, if_pos rfl]
theorem z_rowC (hc : StC c) (v : Int32) (hv : 0 ≤ v) : X10_greatestFrom v c = some (0, c) := by
  show X10_greatestFrom_l4 (4999 + 1) 0 v c = _
  rw [X10_greatestFrom_l4.eq_2, hc.2.2.2.1, if_pos hv]
theorem z_rank (hc : StC c) (law : Int32) : X5_rank 42 law 0 c = some ((), rk0 c (mx32 0 (mn32 4 0))) := by
  unfold X5_rank
  rw [(hc.1 42 (Or.inl rfl)).2.2.2.1, s_start, bd_s]
  show X5_rank_l11 42 law 0 (4999 + 1) 0 _ = _
  rw [X5_rank_l11.eq_2, if_pos (by decide)]
theorem rk0_at (h : AH) (n : Int32) (o k : Nat) (ho : o ≠ 5 ∧ o ≠ 6 ∧ o ≠ 7) : (rk0 h n).1 o k = h.1 o k := by
  show (if o = 7 ∧ k < 4 then 0 else if o = 6 ∧ k < 4 then 0 else if o = 5 ∧ k = 0 then n else h.1 o k) = _
  rw [if_neg (by omega), if_neg (by omega), if_neg (by omega)]
theorem z_best (hr : StR r) (mode : Int32) : ∃ h', X11_findBest mode 0 r = some ((), h') ∧ ∀ o k, o ≠ 20 → o ≠ 21 → h'.1 o k = r.1 o k := by
  have step : ∀ (i n : Nat) (h : AH), i < 4 → X11_findBest_l2 mode 0 (n + 1) (nI i) h = X11_findBest_l2 mode 0 n (nI (i + 1)) (sI (sI h 20 i 0) 21 i 0) := by
    intro i n h hi
    rw [X11_findBest_l2.eq_2, if_neg (show ¬ (4 : Int32) ≤ nI i from nI_ge (a := i) (b := 4) hi (by decide)), ck_nI _ hi (by decide), vl_e, ck_nI _ hi (by decide), vl_e, vl_e, nI_clamp (by omega), nI_1]
  refine ⟨_, by
    show X11_findBest_l2 mode 0 (4995 + 1 + 1 + 1 + 1 + 1) (nI 0) r = _
    rw [step 0 _ _ (by decide), step 1 _ _ (by decide), step 2 _ _ (by decide), step 3 _ _ (by decide), X11_findBest_l2.eq_2, if_pos (show (4 : Int32) ≤ nI 4 from nI_le (Nat.le_refl 4) (by decide))]
    show X11_findBest_l29 mode 0 (4999 + 1) 0 _ = _
    rw [X11_findBest_l29.eq_2, if_pos (Int32.le_refl _)], ?_⟩
  intro o k h20 h21
  simp only [sI_at]
  repeat (first | rw [if_neg (by omega)])
theorem z_sorts {h : AH} (h0 : h.1 0 15 = 0) : X11_sorts h = some ((), h) := by
  show X11_sorts_l2 (4999 + 1) 0 h = _
  rw [X11_sorts_l2.eq_2, h0, if_pos (Int32.le_refl _)]

theorem p_jumper (hc : StC c) (hr : StR r) {N : AH → AH → Prop} (hN : ∀ a b : AH, N a b) : SimE (X10_jumper a1 a2 c) (X11_jumper a1 a2 r) N := by
  refine simT hN (-1) ?_ ?_
  · simp only [X10_jumper, z_nobody hc, s_outside, s_first, s_noSuch, s_noPart, s_outsideTwo, bd_s, vl_e, i_0, i_1, i_2, i_3, i_4, i_6, rf_1, rf_2, rf_3, rf_4, rf_6, if_true, if_false, Option.map_some]
  · simp only [X11_jumper, z_isJ hr, s_bound, s_isIn, bd_s, vl_e, i_0, i_10, i_1, i_2, i_3, i_4, i_6, no_1, no_2, no_3, no_4, no_6, lo_1, lo_4, lo_6, ll_1, if_true, if_false, Option.map_some]
theorem p_mark (hc : StC c) (hr : StR r) {N : AH → AH → Prop} (hN : ∀ a b : AH, N a b) : SimE (X10_mark a1 a2 c) (X11_mark a1 a2 r) N := by
  refine simT hN (-1) ?_ ?_
  · simp only [X10_mark, z_nobody hc, s_outside, s_first, s_noSuch, s_noPart, s_outsideTwo, bd_s, vl_e, i_0, i_1, i_2, i_3, i_4, i_6, rf_1, rf_2, rf_3, rf_4, rf_6, if_true, if_false, Option.map_some]
  · simp only [X11_mark, z_isJ hr, s_bound, s_isIn, bd_s, vl_e, i_0, i_10, i_1, i_2, i_3, i_4, i_6, no_1, no_2, no_3, no_4, no_6, lo_1, lo_4, lo_6, ll_1, X11_mark_j20, if_true, if_false, Option.map_some]
theorem p_look (hc : StC c) (hr : StR r) {N : AH → AH → Prop} (hN : ∀ a b : AH, N a b) : SimE (X10_look a1 a2 c) (X11_look a1 a2 r) N := by
  refine simT hN (-1) ?_ ?_
  · simp only [X10_look, z_nobody hc, s_outside, s_first, s_noSuch, s_noPart, s_outsideTwo, bd_s, vl_e, i_0, i_1, i_2, i_3, i_4, i_6, rf_1, rf_2, rf_3, rf_4, rf_6, if_true, if_false, Option.map_some]
  · simp only [X11_look, z_isJ hr, s_bound, s_isIn, bd_s, vl_e, i_0, i_10, i_1, i_2, i_3, i_4, i_6, no_1, no_2, no_3, no_4, no_6, lo_1, lo_4, lo_6, ll_1, X11_look_j18, if_true, if_false, Option.map_some]
theorem p_stride (hc : StC c) (hr : StR r) {N : AH → AH → Prop} (hN : ∀ a b : AH, N a b) : SimE (X10_stride a1 a2 c) (X11_stride a1 a2 r) N := by
  refine simT hN (-1) ?_ ?_
  · simp only [X10_stride, z_nobody hc, s_outside, s_first, s_noSuch, s_noPart, s_outsideTwo, bd_s, vl_e, i_0, i_1, i_2, i_3, i_4, i_6, rf_1, rf_2, rf_3, rf_4, rf_6, if_true, if_false, Option.map_some]
  · simp only [X11_stride, z_isJ hr, s_bound, s_isIn, bd_s, vl_e, i_0, i_10, i_1, i_2, i_3, i_4, i_6, no_1, no_2, no_3, no_4, no_6, lo_1, lo_4, lo_6, ll_1, X11_stride_j23, if_true, if_false, Option.map_some]
theorem p_place (hc : StC c) (hr : StR r) {N : AH → AH → Prop} (hN : ∀ a b : AH, N a b) : SimE (X10_place a1 c) (X11_place a1 r) N := by
  refine simT hN (1000000000 - (-1)) ?_ ?_
  · simp only [X10_place, z_nobody hc, s_outside, s_first, s_noSuch, s_noPart, s_outsideTwo, bd_s, vl_e, i_0, i_1, i_2, i_3, i_4, i_6, rf_1, rf_2, rf_3, rf_4, rf_6, if_true, if_false, Option.map_some]
  · simp only [X11_place, z_isJ hr, s_bound, s_isIn, bd_s, vl_e, i_0, i_10, i_1, i_2, i_3, i_4, i_6, no_1, no_2, no_3, no_4, no_6, lo_1, lo_4, lo_6, ll_1, if_true, if_false, Option.map_some]
theorem p_length (hc : StC c) (hr : StR r) {N : AH → AH → Prop} (hN : ∀ a b : AH, N a b) : SimE (X10_length a1 a2 a3 c) (X11_length a1 a2 a3 r) N := by
  refine simT hN (-1) ?_ ?_
  · simp only [X10_length, z_nobody hc, s_outside, s_first, s_noSuch, s_noPart, s_outsideTwo, bd_s, vl_e, i_0, i_1, i_2, i_3, i_4, i_6, rf_1, rf_2, rf_3, rf_4, rf_6, if_true, if_false, Option.map_some]
  · simp only [X11_length, z_isJ hr, s_bound, s_isIn, bd_s, vl_e, i_0, i_10, i_1, i_2, i_3, i_4, i_6, no_1, no_2, no_3, no_4, no_6, lo_1, lo_4, lo_6, ll_1, X11_length_j44, if_true, if_false, Option.map_some]
theorem p_off (hc : StC c) (hr : StR r) {N : AH → AH → Prop} (hN : ∀ a b : AH, N a b) : SimE (X10_off a1 a2 a3 c) (X11_off a1 a2 a3 r) N := by
  refine simT hN (4000000000000000000 - (-1 : Int32).toInt64) ?_ ?_
  · simp only [X10_off, z_nobody hc, s_outside, s_first, s_noSuch, s_noPart, s_outsideTwo, bd_s, vl_e, i_0, i_1, i_2, i_3, i_4, i_6, rf_1, rf_2, rf_3, rf_4, rf_6, if_true, if_false, Option.map_some]
  · simp only [X11_off, z_isJ hr, s_bound, s_isIn, bd_s, vl_e, i_0, i_10, i_1, i_2, i_3, i_4, i_6, no_1, no_2, no_3, no_4, no_6, lo_1, lo_4, lo_6, ll_1, X11_off_j22, X11_off_j42, if_true, if_false, Option.map_some]
theorem p_mean (hc : StC c) (hr : StR r) {N : AH → AH → Prop} (hN : ∀ a b : AH, N a b) : SimE (X10_mean a1 a2 a3 c) (X11_mean a1 a2 a3 r) N := by
  refine simT hN (4000000000000000000 - (-1 : Int32).toInt64) ?_ ?_
  · simp only [X10_mean, z_nobody hc, s_outside, s_first, s_noSuch, s_noPart, s_outsideTwo, bd_s, vl_e, i_0, i_1, i_2, i_3, i_4, i_6, rf_1, rf_2, rf_3, rf_4, rf_6, if_true, if_false, Option.map_some]
  · simp only [X11_mean, z_isJ hr, s_bound, s_isIn, bd_s, vl_e, i_0, i_10, i_1, i_2, i_3, i_4, i_6, no_1, no_2, no_3, no_4, no_6, lo_1, lo_4, lo_6, ll_1, if_true, if_false, Option.map_some]
theorem p_past (hc : StC c) (hr : StR r) {N : AH → AH → Prop} (hN : ∀ a b : AH, N a b) : SimE (X10_past a1 a2 a3 c) (X11_past a1 a2 a3 r) N := by
  refine simT hN (4000000000000000000 - (-1 : Int32).toInt64) ?_ ?_
  · simp only [X10_past, z_nobody hc, s_outside, s_first, s_noSuch, s_noPart, s_outsideTwo, bd_s, vl_e, i_0, i_1, i_2, i_3, i_4, i_6, rf_1, rf_2, rf_3, rf_4, rf_6, if_true, if_false, Option.map_some]
  · simp only [X11_past, z_isJ hr, s_bound, s_isIn, bd_s, vl_e, i_0, i_10, i_1, i_2, i_3, i_4, i_6, no_1, no_2, no_3, no_4, no_6, lo_1, lo_4, lo_6, ll_1, X11_past_j20, X11_past_j40, if_true, if_false, Option.map_some]
theorem p_bestLook (hc : StC c) (hr : StR r) {N : AH → AH → Prop} (hN : ∀ a b : AH, N a b) : SimE (X10_bestLook a1 c) (X11_bestLook a1 r) N := by
  refine simT hN (-1) ?_ ?_
  · simp only [X10_bestLook, z_nobody hc, s_outside, s_first, s_noSuch, s_noPart, s_outsideTwo, bd_s, vl_e, i_0, i_1, i_2, i_3, i_4, i_6, rf_1, rf_2, rf_3, rf_4, rf_6, if_true, if_false, Option.map_some]
  · simp only [X11_bestLook, z_isJ hr, s_bound, s_isIn, bd_s, vl_e, i_0, i_10, i_1, i_2, i_3, i_4, i_6, no_1, no_2, no_3, no_4, no_6, lo_1, lo_4, lo_6, ll_1, if_true, if_false, Option.map_some]
theorem p_bestMark (hc : StC c) (hr : StR r) {N : AH → AH → Prop} (hN : ∀ a b : AH, N a b) : SimE (X10_bestMark a1 a2 c) (X11_bestMark a1 a2 r) N := by
  refine simT hN (-1) ?_ ?_
  · simp only [X10_bestMark, z_nobody hc, s_outside, s_first, s_noSuch, s_noPart, s_outsideTwo, bd_s, vl_e, i_0, i_1, i_2, i_3, i_4, i_6, rf_1, rf_2, rf_3, rf_4, rf_6, if_true, if_false, Option.map_some]
  · simp only [X11_bestMark, z_isJ hr, s_bound, s_isIn, bd_s, vl_e, i_0, i_10, i_1, i_2, i_3, i_4, i_6, no_1, no_2, no_3, no_4, no_6, lo_1, lo_4, lo_6, ll_1, X11_bestMark_j20, if_true, if_false, Option.map_some]
theorem p_back (hc : StC c) (hr : StR r) {N : AH → AH → Prop} (hN : ∀ a b : AH, N a b) : SimE (X10_back a1 a2 c) (X11_back a1 a2 r) N := by
  refine simT hN (1000000000 - (-1)) ?_ ?_
  · simp only [X10_back, z_nobody hc, s_outside, s_first, s_noSuch, s_noPart, s_outsideTwo, bd_s, vl_e, i_0, i_1, i_2, i_3, i_4, i_6, rf_1, rf_2, rf_3, rf_4, rf_6, if_true, if_false, Option.map_some]
  · simp only [X11_back, z_isJ hr, s_bound, s_isIn, bd_s, vl_e, i_0, i_10, i_1, i_2, i_3, i_4, i_6, no_1, no_2, no_3, no_4, no_6, lo_1, lo_4, lo_6, ll_1, X11_back_j20, if_true, if_false, Option.map_some]
theorem p_turn (hc : StC c) (hr : StR r) {N : AH → AH → Prop} (hN : ∀ a b : AH, N a b) : SimE (X10_turn c) (X11_turn r) N := by
  refine simT hN (-9) ?_ ?_
  · simp only [X10_turn, z_nobody hc, s_outside, s_first, s_noSuch, s_noPart, s_outsideTwo, bd_s, vl_e, i_0, i_1, i_2, i_3, i_4, i_6, rf_1, rf_2, rf_3, rf_4, rf_6, z_inTurn hc, if_true, if_false, Option.map_some]
  · simp only [X11_turn, z_isJ hr, s_bound, s_isIn, bd_s, vl_e, i_0, i_10, i_1, i_2, i_3, i_4, i_6, no_1, no_2, no_3, no_4, no_6, lo_1, lo_4, lo_6, ll_1, z_turn hr, if_true, if_false, Option.map_some]
theorem p_jump (hc : StC c) (hr : StR r) {N : AH → AH → Prop} (hN : ∀ a b : AH, N a b) : SimE (X10_jump a1 a2 c) (X11_jump a1 a2 r) N := by
  refine simT hN (-1) ?_ ?_
  · simp only [X10_jump, z_nobody hc, s_outside, s_first, s_noSuch, s_noPart, s_outsideTwo, bd_s, vl_e, i_0, i_1, i_2, i_3, i_4, i_6, rf_1, rf_2, rf_3, rf_4, rf_6, z_notIn hc, if_true, if_false, Option.map_some]
  · simp only [X11_jump, z_isJ hr, s_bound, s_isIn, bd_s, vl_e, i_0, i_10, i_1, i_2, i_3, i_4, i_6, no_1, no_2, no_3, no_4, no_6, lo_1, lo_4, lo_6, ll_1, X11_jump_j33, if_true, if_false, Option.map_some]
theorem p_none (hc : StC c) (hr : StR r) {N : AH → AH → Prop} (hN : ∀ a b : AH, N a b) : SimE (X10_none a1 a2 c) (X11_none a1 a2 r) N := by
  refine simT hN (-1) ?_ ?_
  · simp only [X10_none, z_nobody hc, s_outside, s_first, s_noSuch, s_noPart, s_outsideTwo, bd_s, vl_e, i_0, i_1, i_2, i_3, i_4, i_6, rf_1, rf_2, rf_3, rf_4, rf_6, z_notIn hc, if_true, if_false, Option.map_some]
  · simp only [X11_none, z_isJ hr, s_bound, s_isIn, bd_s, vl_e, i_0, i_10, i_1, i_2, i_3, i_4, i_6, no_1, no_2, no_3, no_4, no_6, lo_1, lo_4, lo_6, ll_1, X11_none_j40, if_true, if_false, Option.map_some]
theorem p_needs (hc : StC c) (hr : StR r) {N : AH → AH → Prop} (hN : ∀ a b : AH, N a b) : SimE (X10_needs a1 a2 c) (X11_needs a1 a2 r) N := by
  refine simT hN (-1) ?_ ?_
  · simp only [X10_needs, z_nobody hc, s_outside, s_first, s_noSuch, s_noPart, s_outsideTwo, bd_s, vl_e, i_0, i_1, i_2, i_3, i_4, i_6, rf_1, rf_2, rf_3, rf_4, rf_6, if_true, if_false, Option.map_some]
  · simp only [X11_needs, z_isJ hr, s_bound, s_isIn, bd_s, vl_e, i_0, i_10, i_1, i_2, i_3, i_4, i_6, no_1, no_2, no_3, no_4, no_6, lo_1, lo_4, lo_6, ll_1, X11_needs_j27, if_true, if_false, Option.map_some]
theorem p_aim (hc : StC c) (hr : StR r) {N : AH → AH → Prop} (hN : ∀ a b : AH, N a b) : SimE (X10_aim a1 a2 a3 a4 c) (X11_aim a1 a2 a3 a4 r) N := by
  refine simT hN (-1) ?_ ?_
  · simp only [X10_aim, z_nobody hc, s_outside, s_first, s_noSuch, s_noPart, s_outsideTwo, bd_s, vl_e, i_0, i_1, i_2, i_3, i_4, i_6, rf_1, rf_2, rf_3, rf_4, rf_6, if_true, if_false, Option.map_some]
  · simp only [X11_aim, z_isJ hr, s_bound, s_isIn, bd_s, vl_e, i_0, i_10, i_1, i_2, i_3, i_4, i_6, no_1, no_2, no_3, no_4, no_6, lo_1, lo_4, lo_6, ll_1, X11_aim_j59, if_true, if_false, Option.map_some]
theorem p_seeds (hc : StC c) (hr : StR r) {N : AH → AH → Prop} (hN : ∀ a b : AH, N a b) : SimE (X10_seeds a1 a2 a3 a4 c) (X11_seeds a1 a2 a3 a4 r) N := by
  refine simT hN (-1) ?_ ?_
  · simp only [X10_seeds, z_nobody hc, s_outside, s_first, s_noSuch, s_noPart, s_outsideTwo, bd_s, vl_e, i_0, i_1, i_2, i_3, i_4, i_6, rf_1, rf_2, rf_3, rf_4, rf_6, if_true, if_false, Option.map_some]
  · simp only [X11_seeds, z_isJ hr, s_bound, s_isIn, bd_s, vl_e, i_0, i_10, i_1, i_2, i_3, i_4, i_6, no_1, no_2, no_3, no_4, no_6, lo_1, lo_4, lo_6, ll_1, X11_seeds_j19, X11_seeds_j40, if_true, if_false, Option.map_some]
theorem p_parts (hc : StC c) (hr : StR r) {N : AH → AH → Prop} (hN : ∀ a b : AH, N a b) : SimE (X10_parts a1 a2 c) (X11_parts a1 a2 r) N := by
  refine simT hN (-1) ?_ ?_
  · simp only [X10_parts, z_nobody hc, s_outside, s_first, s_noSuch, s_noPart, s_outsideTwo, bd_s, vl_e, i_0, i_1, i_2, i_3, i_4, i_6, rf_1, rf_2, rf_3, rf_4, rf_6, if_true, if_false, Option.map_some]
  · simp only [X11_parts, z_isJ hr, s_bound, s_isIn, bd_s, vl_e, i_0, i_10, i_1, i_2, i_3, i_4, i_6, no_1, no_2, no_3, no_4, no_6, lo_1, lo_4, lo_6, ll_1, X11_parts_j20, if_true, if_false, Option.map_some]
theorem p_practice (hc : StC c) (hr : StR r) {N : AH → AH → Prop} (hN : ∀ a b : AH, N a b) : SimE (X10_practice a1 c) (X11_practice a1 r) N := by
  refine simT hN (-1) ?_ ?_
  · simp only [X10_practice, z_nobody hc, s_outside, s_first, s_noSuch, s_noPart, s_outsideTwo, bd_s, vl_e, i_0, i_1, i_2, i_3, i_4, i_6, rf_1, rf_2, rf_3, rf_4, rf_6, if_true, if_false, Option.map_some]
  · simp only [X11_practice, z_isJ hr, s_bound, s_isIn, bd_s, vl_e, i_0, i_10, i_1, i_2, i_3, i_4, i_6, no_1, no_2, no_3, no_4, no_6, lo_1, lo_4, lo_6, ll_1, if_true, if_false, Option.map_some]
theorem p_bestRun (hc : StC c) (hr : StR r) {N : AH → AH → Prop} (hN : ∀ a b : AH, N a b) : SimE (X10_bestRun a1 c) (X11_bestRun a1 r) N := by
  refine simT hN (-1) ?_ ?_
  · simp only [X10_bestRun, z_nobody hc, s_outside, s_first, s_noSuch, s_noPart, s_outsideTwo, bd_s, vl_e, i_0, i_1, i_2, i_3, i_4, i_6, rf_1, rf_2, rf_3, rf_4, rf_6, if_true, if_false, Option.map_some]
  · simp only [X11_bestRun, z_isJ hr, s_bound, s_isIn, bd_s, vl_e, i_0, i_10, i_1, i_2, i_3, i_4, i_6, no_1, no_2, no_3, no_4, no_6, lo_1, lo_4, lo_6, ll_1, if_true, if_false, Option.map_some]
theorem p_markIn (hc : StC c) (hr : StR r) {N : AH → AH → Prop} (hN : ∀ a b : AH, N a b) : SimE (X10_markIn a1 a2 c) (X11_markIn a1 a2 r) N := by
  refine simT hN (-1) ?_ ?_
  · simp only [X10_markIn, z_nobody hc, s_outside, s_first, s_noSuch, s_noPart, s_outsideTwo, bd_s, vl_e, i_0, i_1, i_2, i_3, i_4, i_6, rf_1, rf_2, rf_3, rf_4, rf_6, if_true, if_false, Option.map_some]
  · simp only [X11_markIn, z_isJ hr, s_bound, s_isIn, bd_s, vl_e, i_0, i_10, i_1, i_2, i_3, i_4, i_6, no_1, no_2, no_3, no_4, no_6, lo_1, lo_4, lo_6, ll_1, X11_markIn_j20, if_true, if_false, Option.map_some]
theorem p_fouled (hc : StC c) (hr : StR r) {N : AH → AH → Prop} (hN : ∀ a b : AH, N a b) : SimE (X10_fouled a1 a2 c) (X11_fouled a1 a2 r) N := by
  refine simT hN (4000000000000000000 - (-1 : Int32).toInt64) ?_ ?_
  · simp only [X10_fouled, z_nobody hc, s_outside, s_first, s_noSuch, s_noPart, s_outsideTwo, bd_s, vl_e, i_0, i_1, i_2, i_3, i_4, i_6, rf_1, rf_2, rf_3, rf_4, rf_6, if_true, if_false, Option.map_some]
  · simp only [X11_fouled, z_isJ hr, s_bound, s_isIn, bd_s, vl_e, i_0, i_10, i_1, i_2, i_3, i_4, i_6, no_1, no_2, no_3, no_4, no_6, lo_1, lo_4, lo_6, ll_1, if_true, if_false, Option.map_some]
theorem p_better (hc : StC c) (hr : StR r) {N : AH → AH → Prop} (hN : ∀ a b : AH, N a b) : SimE (X10_better a1 c) (X11_better a1 r) N := by
  refine simT hN (-1) ?_ ?_
  · simp only [X10_better, z_nobody hc, s_outside, s_first, s_noSuch, s_noPart, s_outsideTwo, bd_s, vl_e, i_0, i_1, i_2, i_3, i_4, i_6, rf_1, rf_2, rf_3, rf_4, rf_6, if_true, if_false, Option.map_some]
  · simp only [X11_better, z_isJ hr, s_bound, s_isIn, bd_s, vl_e, i_0, i_10, i_1, i_2, i_3, i_4, i_6, no_1, no_2, no_3, no_4, no_6, lo_1, lo_4, lo_6, ll_1, if_true, if_false, Option.map_some]
theorem p_half (hc : StC c) (hr : StR r) {N : AH → AH → Prop} (hN : ∀ a b : AH, N a b) : SimE (X10_half a1 c) (X11_half a1 r) N := by
  refine simT hN (-1) ?_ ?_
  · simp only [X10_half, z_nobody hc, s_outside, s_first, s_noSuch, s_noPart, s_outsideTwo, bd_s, vl_e, i_0, i_1, i_2, i_3, i_4, i_6, rf_1, rf_2, rf_3, rf_4, rf_6, if_true, if_false, Option.map_some]
  · simp only [X11_half, z_isJ hr, s_bound, s_isIn, bd_s, vl_e, i_0, i_10, i_1, i_2, i_3, i_4, i_6, no_1, no_2, no_3, no_4, no_6, lo_1, lo_4, lo_6, ll_1, if_true, if_false, Option.map_some]
theorem p_safe (hc : StC c) (hr : StR r) {N : AH → AH → Prop} (hN : ∀ a b : AH, N a b) : SimE (X10_safe a1 c) (X11_safe a1 r) N := by
  refine simT hN (-1) ?_ ?_
  · simp only [X10_safe, z_nobody hc, s_outside, s_first, s_noSuch, s_noPart, s_outsideTwo, bd_s, vl_e, i_0, i_1, i_2, i_3, i_4, i_6, rf_1, rf_2, rf_3, rf_4, rf_6, if_true, if_false, Option.map_some]
  · simp only [X11_safe, z_isJ hr, s_bound, s_isIn, bd_s, vl_e, i_0, i_10, i_1, i_2, i_3, i_4, i_6, no_1, no_2, no_3, no_4, no_6, lo_1, lo_4, lo_6, ll_1, if_true, if_false, Option.map_some]
theorem p_clear (hc : StC c) (hr : StR r) {N : AH → AH → Prop} (hN : ∀ a b : AH, N a b) : SimE (X10_clear c) (X11_clear r) N := by
  refine simT hN (0) ?_ ?_
  · simp only [X10_clear, z_nobody hc, s_outside, s_first, s_noSuch, s_noPart, s_outsideTwo, bd_s, vl_e, i_0, i_1, i_2, i_3, i_4, i_6, rf_1, rf_2, rf_3, rf_4, rf_6, hc.2.2.2.1, if_true, if_false, Option.map_some]
  · simp only [X11_clear, z_isJ hr, s_bound, s_isIn, bd_s, vl_e, i_0, i_10, i_1, i_2, i_3, i_4, i_6, no_1, no_2, no_3, no_4, no_6, lo_1, lo_4, lo_6, ll_1, hr.2.2.2.2.2.2.2.1, if_true, if_false, Option.map_some]
theorem p_tried (hc : StC c) (hr : StR r) {N : AH → AH → Prop} (hN : ∀ a b : AH, N a b) : SimE (X10_tried a1 a2 c) (X11_tried a1 a2 r) N := by
  refine simT hN (-1) ?_ ?_
  · simp only [X10_tried, z_nobody hc, bd_s, i_1, X10_tried_j21]
    rw [if_neg (by decide), rf_1]
    rfl
  · simp only [X11_tried, z_isJ hr, bd_s, i_0, X11_tried_j21, no_1, if_true, if_false, Option.map_some]
theorem p_gusts (hc : StC c) (hr : StR r) {N : AH → AH → Prop} (hN : ∀ a b : AH, N a b) : SimE (X10_gusts a1 c) (X11_gusts a1 r) N := by
  refine simT hN (-1) ?_ ?_
  · simp only [X10_gusts, z_nobody hc, bd_s, z_rowC hc 0 (by decide)]
    rw [if_pos (by decide)]
    simp only [X10_gusts_j21, s_first, bd_s, i_1, rf_1, if_true, if_false, Option.map_some]
  · simp only [X11_gusts, z_isJ hr, bd_s, i_0, X11_gusts_j13]
    show Option.map _ (X11_gusts_l16 a1 (4999 + 1) (-1) 0 r) = _
    rw [X11_gusts_l16.eq_2, hr.2.2.2.2.2.2.2.1, if_pos (by decide)]
    simp only [X11_gusts_j52, i_1, no_1, bd_s, if_true, if_false, Option.map_some]
theorem p_on (hc : StC c) (hr : StR r) {N : AH → AH → Prop} (hN : ∀ a b : AH, N a b) : SimE (X10_on a1 a2 c) (X11_on a1 a2 r) N := by
  refine simT hN (4000000000000000000 - (-1 : Int32).toInt64) ?_ ?_
  · simp only [X10_on, z_nobody hc, s_noPart, z_round hc, bd_s]
    rw [if_neg (by decide)]
    simp only [X10_on_j26, s_first, bd_s, i_1, rf_1, if_true, if_false, Option.map_some]
  · simp only [X11_on, z_isJ hr, bd_s, i_0, X11_on_j40, i_1, ll_1, if_true, if_false, Option.map_some]
theorem p_more (hc : StC c) (hr : StR r) {N : AH → AH → Prop} (hN : ∀ a b : AH, N a b) : SimE (X10_more a1 a2 c) (X11_more a1 a2 r) N := by
  refine simT hN (-1) ?_ ?_
  · simp only [X10_more, X10_nobodyOfTwo]
    by_cases e : a1 = a2
    · rw [if_pos e]
      simp only [bd_s, i_1, rf_1, if_true, if_false, Option.map_some]
    · rw [if_neg e]
      simp only [z_nobody hc, s_first, bd_s, i_1, rf_1, if_true, if_false, Option.map_some]
  · simp only [X11_more, X11_areTwo, z_isJ hr, bd_s, i_0, cz_0, no_1, if_true, if_false, Option.map_some]
theorem p_duel (hc : StC c) (hr : StR r) {N : AH → AH → Prop} (hN : ∀ a b : AH, N a b) : SimE (X10_duel a1 a2 a3 c) (X11_duel a1 a2 a3 r) N := by
  refine simT hN (-1) ?_ ?_
  · simp only [X10_duel, X10_nobodyOfTwo]
    by_cases e : a1 = a2
    · rw [if_pos e]
      simp only [bd_s, s_noSuch, s_first, i_1, rf_1, if_true, if_false, Option.map_some]
    · rw [if_neg e]
      simp only [z_nobody hc, s_noSuch, s_first, bd_s, i_1, rf_1, if_true, if_false, Option.map_some]
  · simp only [X11_duel, X11_areTwo, z_isJ hr, bd_s, i_0, cz_0, X11_duel_j28, i_1, no_1, if_true, if_false, Option.map_some]
theorem p_feed (hc : StC c) (hr : StR r) {N : AH → AH → Prop} (hN : ∀ a b : AH, N a b) : SimE (X10_feed a1 c) (X11_feed a1 r) N := by
  have hb : (if (0 : Int32) < 0 then (-4 : Int32) else if (95 : Int32) < 0 then -6 else 0) = 0 := by decide
  by_cases h1 : a1 < 0
  · refine simT hN (-4) ?_ ?_
    · simp only [X10_feed, s_outside, if_pos h1, hc.2.2.1, hb, s_first, bd_s, i_4, rf_4, if_true, if_false, Option.map_some]
    · simp only [X11_feed, s_bound, if_pos h1, bd_s, i_4, X11_feed_j25, no_4, if_true, if_false, Option.map_some]
  · by_cases h2 : 255 < a1
    · refine simT hN (-6) ?_ ?_
      · simp only [X10_feed, s_outside, if_neg h1, if_pos h2, hc.2.2.1, hb, s_first, bd_s, i_6, rf_6, if_true, if_false, Option.map_some]
      · simp only [X11_feed, s_bound, if_neg h1, if_pos h2, bd_s, i_6, X11_feed_j25, no_6, if_true, if_false, Option.map_some]
    · refine simT hN 1 ?_ ?_
      · have q : (sI c 2 0 a1).1 0 6 = 0 := by rw [sI_at, if_neg (by omega), hc.2.2.1]
        unfold X10_feed
        rw [s_outside, if_neg h1, if_neg h2, bd_s, s_outside, hc.2.2.1, hb, bd_s, s_first, i_0, bd_s, i_0, hc.2.2.1, k_0 _ (by decide), vl_e, vl_e]
        show some ((sI (sI c 2 0 a1) 0 6 ((sI c 2 0 a1).1 0 6 + 1)).1 0 6) = some 1
        rw [q]
        rfl
      · have q : (sI r 13 0 a1).1 0 21 = 0 := by rw [sI_at, if_neg (by omega), hr.2.2.2.2.2.1]
        unfold X11_feed X11_feed_j25
        rw [s_bound, if_neg h1, if_neg h2, bd_s, i_0, hr.2.2.2.2.2.1, if_neg (by decide), i_0, k_0 _ (by decide), vl_e, vl_e]
        show some ((sI (sI r 13 0 a1) 0 21 ((sI r 13 0 a1).1 0 21 + 1)).1 0 21) = some 1
        rw [q]
        rfl
theorem p_ground (hc : StC c) (hr : StR r) {N : AH → AH → Prop} (hN : ∀ a b : AH, N a b) : SimE (X10_ground c) (X11_ground r) N := by
  refine simT hN (-1000 - 0) ?_ ?_
  · have e : X10_firstBadLetter c = some (0, c) := by
      show X10_firstBadLetter_l9 (4999 + 1) 0 0 0 0 c = _
      rw [X10_firstBadLetter_l9.eq_2, hc.2.2.1, if_pos (by decide), if_pos rfl, if_pos rfl]
      unfold X10_firstBadLetter_j144
      rw [hc.2.2.1]
    simp only [X10_ground, e, bd_s]
    rw [if_neg (by decide)]
    simp only [X10_ground_j22, vl_e]
    rw [if_pos (by decide)]
    rfl
  · have n1 : ∀ h : AH, h.1 0 21 = 0 → h.1 0 22 = 0 → X11_statement h = some (0, h) := by
      intro h h1 h2
      simp only [X11_statement, X11_next, h1, h2]
      rw [if_pos (by decide), bd_s]
      simp only [cz_0]
      rw [if_neg (by decide), if_neg (by decide), if_neg (by decide), if_neg (by decide), if_neg (by decide), if_neg (by decide), if_neg (by decide)]
    have q21 : (sI (sI r 0 22 0) 0 23 0).1 0 21 = 0 := by
      rw [sI_at, sI_at, if_neg (by omega), if_neg (by omega), hr.2.2.2.2.2.1]
    have q22 : (sI (sI r 0 22 0) 0 23 0).1 0 22 = 0 := by
      rw [sI_at, sI_at, if_neg (by omega), if_pos ⟨rfl, rfl⟩]
    have q23 : (sI (sI r 0 22 0) 0 23 0).1 0 23 = 0 := by
      rw [sI_at, if_pos ⟨rfl, rfl⟩]
    unfold X11_ground
    simp only [vl_e]
    generalize sI (sI r 0 22 0) 0 23 0 = h at q21 q22 q23
    show Option.map _ (X11_ground_l12 (4998 + 1 + 1) 1 h) = _
    rw [X11_ground_l12.eq_2, if_neg (by decide), q21, q22, if_neg (by decide), q23, if_pos rfl]
    simp only [X11_ground_j34, n1 h q21 q22, bd_s, i_0, X11_ground_j53, vl_e]
    rw [X11_ground_l12.eq_2, if_pos rfl]
    simp only [X11_ground_j60, vl_e, i_0, sI_at, if_true, if_false, Option.map_some]
    rw [if_neg (by omega), if_neg (by omega), q22]
theorem p_set (hc : StC c) (hr : StR r) {N : AH → AH → Prop} (hN : ∀ a b : AH, N a b) : SimE (X10_set a1 a2 c) (X11_set a1 a2 r) N := by
  have ct : c.1 42 4 = 0 := (hc.1 42 (Or.inl rfl)).2.2.2.2
  have c0 : c.1 42 0 = 10 := (hc.1 42 (Or.inl rfl)).1
  have c2 : c.1 42 2 = 2 := (hc.1 42 (Or.inl rfl)).2.2.1
  by_cases h0 : a1 < 0 ∨ 1 < a1
  · refine simT hN (-2) ?_ ?_
    · simp only [X10_set, s_noSuch, if_pos h0, bd_s, i_2, X10_set_j31, ct, i_le, X10_set_j48, s_first, i_2, bd_s, rf_2, if_true, if_false, Option.map_some]
    · simp only [X11_set, s_isIn, if_pos h0, bd_s, i_0, X11_set_j37, i_2, X11_set_j52, no_2, if_true, if_false, Option.map_some]
  · by_cases hz : a1 = 0
    · subst hz
      by_cases h1 : a2 < 4
      · refine simT hN (-4) ?_ ?_
        · simp only [X10_set, s_noSuch, if_neg h0, bd_s, i_0, s_outside, if_pos h1, X10_set_j30, X10_set_j31, ct, i_le, X10_set_j48, s_first, i_4, bd_s, rf_4, if_true, if_false, Option.map_some]
        · simp only [X11_set, s_isIn, if_neg h0, bd_s, i_0, i_10, X11_set_j24, X11_set_j34, s_bound, if_pos h1, X11_set_j37, i_4, X11_set_j52, no_4, if_true, if_false, Option.map_some]
      · by_cases h2 : 20 < a2
        · refine simT hN (-6) ?_ ?_
          · simp only [X10_set, s_noSuch, if_neg h0, bd_s, i_0, s_outside, if_neg h1, if_pos h2, X10_set_j30, X10_set_j31, ct, i_le, X10_set_j48, s_first, i_6, bd_s, rf_6, if_true, if_false, Option.map_some]
          · simp only [X11_set, s_isIn, if_neg h0, bd_s, i_0, i_10, X11_set_j24, X11_set_j34, s_bound, if_neg h1, if_pos h2, X11_set_j37, i_6, X11_set_j52, no_6, if_true, if_false, Option.map_some]
        · refine simT hN 10 ?_ ?_
          · simp only [X10_set, s_noSuch, if_neg h0, bd_s, i_0, s_outside, if_neg h1, if_neg h2, X10_set_j30, X10_set_j31, ct, i_le, X10_set_j48, s_first, i_0, bd_s, X10_set_j83, vl_e, c0, if_true, if_false, Option.map_some]
          · simp only [X11_set, s_isIn, if_neg h0, bd_s, i_0, i_10, X11_set_j24, X11_set_j34, s_bound, if_neg h1, if_neg h2, X11_set_j37, hr.2.2.2.2.1, i_le, X11_set_j52, i_0, X11_set_j77, X11_set_j92, vl_e, hr.1, if_neg (show ¬ (0 : Int32) = 1 by decide), X11_set_j109, if_true, if_false, Option.map_some]
    · by_cases h1 : a2 < 1
      · refine simT hN (-4) ?_ ?_
        · simp only [X10_set, s_noSuch, if_neg h0, bd_s, i_0, if_neg hz, s_outside, if_pos h1, X10_set_j30, X10_set_j31, ct, i_le, X10_set_j48, s_first, i_4, bd_s, rf_4, if_true, if_false, Option.map_some]
        · simp only [X11_set, s_isIn, if_neg h0, bd_s, i_0, i_10, if_neg hz, X11_set_j24, X11_set_j34, s_bound, if_pos h1, X11_set_j37, i_4, X11_set_j52, no_4, if_true, if_false, Option.map_some]
      · by_cases h2 : 4 < a2
        · refine simT hN (-6) ?_ ?_
          · simp only [X10_set, s_noSuch, if_neg h0, bd_s, i_0, if_neg hz, s_outside, if_neg h1, if_pos h2, X10_set_j30, X10_set_j31, ct, i_le, X10_set_j48, s_first, i_6, bd_s, rf_6, if_true, if_false, Option.map_some]
          · simp only [X11_set, s_isIn, if_neg h0, bd_s, i_0, i_10, if_neg hz, X11_set_j24, X11_set_j34, s_bound, if_neg h1, if_pos h2, X11_set_j37, i_6, X11_set_j52, no_6, if_true, if_false, Option.map_some]
        · refine simT hN 2 ?_ ?_
          · simp only [X10_set, s_noSuch, if_neg h0, bd_s, i_0, if_neg hz, s_outside, if_neg h1, if_neg h2, X10_set_j30, X10_set_j31, ct, i_le, X10_set_j48, s_first, i_0, bd_s, if_neg hz, X10_set_j83, vl_e, c2, if_true, if_false, Option.map_some]
          · simp only [X11_set, s_isIn, if_neg h0, bd_s, i_0, i_10, if_neg hz, X11_set_j24, X11_set_j34, s_bound, if_neg h1, if_neg h2, X11_set_j37, hr.2.2.2.2.1, i_le, X11_set_j52, i_0, if_neg hz, X11_set_j77, X11_set_j92, vl_e, hr.2.1, if_true]
            split
            · unfold X11_set_j109
              rfl
            · unfold X11_set_j109
              rfl
theorem p_wind (hc : StC c) (hr : StR r) {N : AH → AH → Prop} (hN : ∀ a b : AH, N a b) : SimE (X10_wind a1 c) (X11_wind a1 r) N := by
  have cw : c.1 42 1 = 0 := (hc.1 42 (Or.inl rfl)).2.1
  by_cases h1 : a1 < -9
  · refine simT hN (1000000000 - (-4)) ?_ ?_
    · simp only [X10_wind, s_outside, if_pos h1, bd_s, i_4, rf_4, if_true, if_false, Option.map_some]
    · simp only [X11_wind, s_bound, if_pos h1, bd_s, i_4, lo_4, if_true, if_false, Option.map_some]
  · by_cases h2 : 9 < a1
    · refine simT hN (1000000000 - (-6)) ?_ ?_
      · simp only [X10_wind, s_outside, if_neg h1, if_pos h2, bd_s, i_6, rf_6, if_true, if_false, Option.map_some]
      · simp only [X11_wind, s_bound, if_neg h1, if_pos h2, bd_s, i_6, lo_6, if_true, if_false, Option.map_some]
    · refine simT hN 0 ?_ ?_
      · simp only [X10_wind, s_outside, if_neg h1, if_neg h2, bd_s, i_0, vl_e, cw, if_true, if_false, Option.map_some]
      · simp only [X11_wind, s_bound, if_neg h1, if_neg h2, bd_s, i_0, vl_e, hr.2.2.1, if_true, if_false, Option.map_some]
theorem p_undo (hc : StC c) (hr : StR r) {N : AH → AH → Prop} (hN : ∀ a b : AH, N a b) : SimE (X10_undo c) (X11_undo r) N := by
  refine simT hN (-3) ?_ ?_
  · simp only [X10_undo, (hc.1 42 (Or.inl rfl)).2.2.2.2]
    rw [if_neg (by decide), rf_3]
    rfl
  · simp only [X11_undo, hr.2.2.2.2.1, i_0, no_3, bd_s, if_true, if_false, Option.map_some]
theorem p_ranks (hc : StC c) (hr : StR r) {N : AH → AH → Prop} (hN : ∀ a b : AH, N a b) : SimE (X10_ranks a1 c) (X11_ranks a1 r) N := by
  by_cases h0 : a1 < 0 ∨ 2 < a1
  · refine simT hN (-2) ?_ ?_
    · simp only [X10_ranks, s_noSuch, if_pos h0, bd_s, i_2, rf_2, if_true, if_false, Option.map_some]
    · simp only [X11_ranks, s_isIn, if_pos h0, bd_s, i_0, no_2, if_true, if_false, Option.map_some]
  · refine simT hN 0 ?_ ?_
    · simp only [X10_ranks, s_noSuch, if_neg h0, bd_s, i_0, (hc.1 42 (Or.inl rfl)).2.2.2.2, z_rank hc, vl_e]
      rw [rk0_at _ _ _ _ (by decide), (hc.1 42 (Or.inl rfl)).2.2.2.1]
      show Option.map _ (X10_ranks_l48 (4999 + 1) 0 (0 - 1) _) = _
      rw [X10_ranks_l48.eq_2, if_pos (by decide)]
      rfl
    · obtain ⟨h', e, he⟩ := z_best hr a1
      have e15 : h'.1 0 15 = 0 := by rw [he 0 15 (by decide) (by decide), hr.2.2.2.1]
      simp only [X11_ranks, s_isIn, if_neg h0, bd_s, i_10, hr.2.2.2.2.1, e, z_sorts e15, vl_e, e15]
      show Option.map _ (X11_ranks_l38 (4999 + 1) 0 (0 - 1) _) = _
      rw [X11_ranks_l38.eq_2, if_pos (by decide)]
      rfl
theorem p_leads (hc : StC c) (hr : StR r) {N : AH → AH → Prop} (hN : ∀ a b : AH, N a b) : SimE (X10_leads c) (X11_leads r) N := by
  refine simT hN (-9) ?_ ?_
  · simp only [X10_leads, X5_leader, (hc.1 42 (Or.inl rfl)).2.2.2.2, z_rank hc, bd_s]
    rw [rk0_at _ _ _ _ (by decide), (hc.1 42 (Or.inl rfl)).2.2.2.1, if_pos rfl]
    rfl
  · simp only [X11_leads, X11_leader, hr.2.2.2.1, i_0, bd_s, if_true, if_false, Option.map_some]
theorem p_goOn (hc : StC c) (hr : StR r) {N : AH → AH → Prop} (hN : ∀ a b : AH, N a b) : SimE (X10_goOn c) (X11_goOn r) N := by
  refine simT hN 0 ?_ ?_
  · simp only [X10_goOn, (hc.1 42 (Or.inl rfl)).2.2.2.2, z_rank hc, bd_s]
    show Option.map _ (X10_goOn_l23 (4999 + 1) 0 0 _) = _
    rw [X10_goOn_l23.eq_2]
    unfold X5_finalists
    rw [rk0_at _ _ _ _ (by decide), rk0_at _ _ _ _ (by decide), (hc.1 42 (Or.inl rfl)).2.2.2.1, (hc.1 42 (Or.inl rfl)).2.2.1, if_pos (by decide), bd_s, if_pos (by decide)]
    rfl
  · obtain ⟨h', e, he⟩ := z_best hr 0
    have e15 : h'.1 0 15 = 0 := by rw [he 0 15 (by decide) (by decide), hr.2.2.2.1]
    have e13 : h'.1 0 13 = 2 := by rw [he 0 13 (by decide) (by decide), hr.2.1]
    simp only [X11_goOn, X11_goOnBits, X11_ranksNow, hr.2.2.2.2.1, e, bd_s, z_sorts e15]
    show Option.map _ (bd (X11_goOnBits_l8 (4999 + 1) 0 0 _) _) = _
    rw [X11_goOnBits_l8.eq_2]
    unfold X11_finalists
    rw [e15, e13, if_pos (by decide), bd_s, if_pos (by decide), bd_s]
    rfl
theorem p_tooLong (hc : StC c) (hr : StR r) {N : AH → AH → Prop} (hN : ∀ a b : AH, N a b) : SimE (X10_tooLong c) (X11_tooLong r) N := by
  refine simT hN (-3) ?_ ?_
  · simp only [X10_tooLong, hc.2.2.2.1, i_0, rf_3, bd_s, if_true, if_false, Option.map_some]
  · simp only [X11_tooLong, hr.2.2.2.2.2.2.2.1, i_0, no_3, bd_s, if_true, if_false, Option.map_some]
theorem p_unlike (hc : StC c) (hr : StR r) {N : AH → AH → Prop} (hN : ∀ a b : AH, N a b) : SimE (X10_unlike c) (X11_unlike r) N := by
  refine simT hN (-3) ?_ ?_
  · simp only [X10_unlike, hc.2.2.2.1, i_0, rf_3, bd_s, if_true, if_false, Option.map_some]
  · simp only [X11_unlike, hr.2.2.2.2.2.2.2.1, i_0, no_3, bd_s, if_true, if_false, Option.map_some]
theorem p_moved (hc : StC c) (hr : StR r) {N : AH → AH → Prop} (hN : ∀ a b : AH, N a b) : SimE (X10_moved a1 c) (X11_moved a1 r) N := by
  by_cases h1 : a1 < 1
  · refine simT hN (-4) ?_ ?_
    · simp only [X10_moved, s_outside, if_pos h1, bd_s, i_4, rf_4, if_true, if_false, Option.map_some]
    · simp only [X11_moved, s_bound, if_pos h1, bd_s, i_4, no_4, if_true, if_false, Option.map_some]
  · by_cases h2 : 99 < a1
    · refine simT hN (-6) ?_ ?_
      · simp only [X10_moved, s_outside, if_neg h1, if_pos h2, bd_s, i_6, rf_6, if_true, if_false, Option.map_some]
      · simp only [X11_moved, s_bound, if_neg h1, if_pos h2, bd_s, i_6, no_6, if_true, if_false, Option.map_some]
    · refine simT hN (-9) ?_ ?_
      · simp only [X10_moved, s_outside, if_neg h1, if_neg h2, bd_s, i_0]
        show Option.map _ (X10_moved_l20 a1 (4999 + 1) 1 c) = _
        rw [X10_moved_l20.eq_2, hc.2.2.2.1, if_pos (by decide)]
        rfl
      · simp only [X11_moved, s_bound, if_neg h1, if_neg h2, bd_s, i_0]
        show Option.map _ (X11_moved_l20 a1 (4999 + 1) 1 r) = _
        rw [X11_moved_l20.eq_2, hr.2.2.2.2.2.2.2.1, if_pos (by decide)]
        rfl
theorem p_row (hc : StC c) (hr : StR r) {N : AH → AH → Prop} (hN : ∀ a b : AH, N a b) : SimE (X10_row a1 c) (X11_row a1 r) N := by
  have hb : (if (0 : Int32) < 0 then (-4 : Int32) else if (11 : Int32) < 0 then -6 else 0) = 0 := by decide
  by_cases h1 : a1 < 0
  · refine simT hN (-4) ?_ ?_
    · simp only [X10_row, s_outside, if_pos h1, hc.2.2.2.1, hb, s_first, bd_s, i_4, rf_4, if_true, if_false, Option.map_some]
    · simp only [X11_row, s_bound, if_pos h1, bd_s, i_4, X11_row_j24, no_4, if_true, if_false, Option.map_some]
  · by_cases h2 : 99 < a1
    · refine simT hN (-6) ?_ ?_
      · simp only [X10_row, s_outside, if_neg h1, if_pos h2, hc.2.2.2.1, hb, s_first, bd_s, i_6, rf_6, if_true, if_false, Option.map_some]
      · simp only [X11_row, s_bound, if_neg h1, if_pos h2, bd_s, i_6, X11_row_j24, no_6, if_true, if_false, Option.map_some]
    · refine simT hN 1 ?_ ?_
      · have q : (sI c 3 0 a1).1 0 8 = 0 := by rw [sI_at, if_neg (by omega), hc.2.2.2.1]
        unfold X10_row
        rw [s_outside, if_neg h1, if_neg h2, bd_s, s_outside, hc.2.2.2.1, hb, bd_s, s_first, i_0, bd_s, i_0, hc.2.2.2.1, k_0 _ (by decide), vl_e, vl_e]
        show some ((sI (sI c 3 0 a1) 0 8 ((sI c 3 0 a1).1 0 8 + 1)).1 0 8) = some 1
        rw [q]
        rfl
      · have q : (sI r 23 0 a1).1 0 34 = 0 := by rw [sI_at, if_neg (by omega), hr.2.2.2.2.2.2.2.1]
        unfold X11_row X11_row_j24
        rw [s_bound, if_neg h1, if_neg h2, bd_s, i_0, hr.2.2.2.2.2.2.2.1, if_neg (by decide), i_0, k_0 _ (by decide), vl_e, vl_e]
        show some ((sI (sI r 23 0 a1) 0 34 ((sI r 23 0 a1).1 0 34 + 1)).1 0 34) = some 1
        rw [q]
        rfl
theorem p_judge (hc : StC c) (hr : StR r) {N : AH → AH → Prop} (hN : ∀ a b : AH, N a b) : SimE (X10_judge c) (X11_judge r) N := by
  refine simT hN (-9) ?_ ?_
  · simp only [X10_judge, X10_judged]
    rw [s_mcp (by decide), bd_s]
    show Option.map _ (bd (X10_judged_l13 (4999 + 1) 0 _) _) = _
    rw [X10_judged_l13.eq_2]
    have e : (mcp 52 42 c).1 0 8 = 0 := by
      show (if 0 = 52 ∧ 8 < 5 then c.1 42 8 else if 52 + 2 ≤ 0 ∧ 0 < 52 + 6 ∧ 8 < 24 then c.1 (42 + (0 - 52)) 8 else if 52 + 6 ≤ 0 ∧ 0 < 52 + 10 ∧ 1 ≤ 8 ∧ 8 ≤ 8 then c.1 (42 + (0 - 52)) 8 else c.1 0 8) = 0
      rw [if_neg (by omega), if_neg (by omega), if_neg (by omega), hc.2.2.2.1]
    rw [e, if_pos (by decide), bd_s, vl_e]
    rfl
  · simp only [X11_judge, vl_e, hr.2.2.2.2.2.2.2.1]
    show Option.map _ (X11_judge_l21 0 _ (4999 + 1) (-9) 0 _) = _
    rw [X11_judge_l21.eq_2, if_pos (by decide)]
    rfl
theorem p_mayStill (hc : StC c) (hr : StR r) {N : AH → AH → Prop} (hN : ∀ a b : AH, N a b) : SimE (X10_mayStill c) (X11_mayStill r) N := by
  refine simT hN 0 ?_ ?_
  · unfold X10_mayStill
    rw [z_round hc, bd_s, if_pos rfl]
    simp only [X10_mayStill_j17, (hc.1 42 (Or.inl rfl)).2.2.2.2, z_rank hc, bd_s]
    show Option.map _ (X10_mayStill_l41 1 (4999 + 1) 0 0 _) = _
    rw [X10_mayStill_l41.eq_2, rk0_at _ _ _ _ (by decide), (hc.1 42 (Or.inl rfl)).2.2.2.1, if_pos (by decide)]
    rfl
  · unfold X11_mayStill X11_leader
    rw [hr.2.2.2.1, i_0, bd_s, z_turn hr, bd_s, if_neg (by decide), if_neg (by decide)]
    rfl
theorem p_restore (hc : StC c) (hr : StR r) {N : AH → AH → Prop} (hN : ∀ a b : AH, N a b) : SimE (X10_restore c) (X11_restore r) N := by
  refine simT hN (-3) ?_ ?_
  · simp only [X10_restore, hc.2.1, i_0, rf_3, bd_s, if_true, if_false, Option.map_some]
  · simp only [X11_restore, hr.2.2.2.2.2.2.1, i_0, no_3, bd_s, if_true, if_false, Option.map_some]
theorem p_image (hc : StC c) (hr : StR r) {N : AH → AH → Prop} (hN : ∀ a b : AH, N a b) : SimE (X10_image c) (X11_image r) N := by
  refine simT hN 0 ?_ ?_
  · simp only [X10_image]
    rw [s_mcp (by decide), bd_s, cz_1, vl_e]
    show some ((sI (mcp 62 42 c) 0 4 1).1 42 4) = some 0
    rw [sI_at, if_neg (by omega)]
    show some (if 42 = 62 ∧ 4 < 5 then c.1 42 4 else if 62 + 2 ≤ 42 ∧ 42 < 62 + 6 ∧ 4 < 24 then c.1 (42 + (42 - 62)) 4 else if 62 + 6 ≤ 42 ∧ 42 < 62 + 10 ∧ 1 ≤ 4 ∧ 4 ≤ 8 then c.1 (42 + (42 - 62)) 4 else c.1 42 4) = some 0
    rw [if_neg (by omega), if_neg (by omega), if_neg (by omega), (hc.1 42 (Or.inl rfl)).2.2.2.2]
  · simp only [X11_image, cz_1, vl_e]
    obtain ⟨h', e, he, -⟩ := s_keepAll (h := sI r 0 25 1) (w := 0) (by decide)
    have e : X11_passesAll 0 1 (sI r 0 25 1) = some ((), h') := e
    rw [e, bd_s]
    show some (h'.1 0 16) = some 0
    rw [he 0 16 (by decide) (by decide), sI_at, if_neg (by omega), hr.2.2.2.2.1]
theorem p_count (hc : StC c) (hr : StR r) {N : AH → AH → Prop} (hN : ∀ a b : AH, N a b) : SimE (X10_count a1 c) (X11_count a1 r) N := by
  have cs : c.1 42 3 = 0 := (hc.1 42 (Or.inl rfl)).2.2.2.1
  have ct : c.1 42 4 = 0 := (hc.1 42 (Or.inl rfl)).2.2.2.2
  have c0 : c.1 42 0 = 10 := (hc.1 42 (Or.inl rfl)).1
  have c2 : c.1 42 2 = 2 := (hc.1 42 (Or.inl rfl)).2.2.1
  have tw : ∀ v, X5_triesWith 42 v c = some (0, c) := by
    intro v
    show X5_triesWith_l4 42 v (4999 + 1) 0 0 c = _
    rw [X5_triesWith_l4.eq_2, ct, if_pos (by decide)]
  have ta : ∀ v, X11_triesAs v r = some (0, r) := by
    intro v
    show X11_triesAs_l4 v (4999 + 1) 0 0 r = _
    rw [X11_triesAs_l4.eq_2, hr.2.2.2.2.1, if_pos (by decide)]
  have rn : X11_roundNow r = some (6, r) := by
    unfold X11_roundNow
    rw [z_turn hr, bd_s, if_neg (by decide)]
  by_cases k0 : a1 = 0
  · subst k0; exact simT hN 0 (by simp only [X10_count, vl_e, cs]; rfl) (by simp only [X11_count, s_isIn, bd_s, vl_e, hr.2.2.2.1]; rfl)
  by_cases k1 : a1 = 1
  · subst k1; exact simT hN 6 (by simp only [X10_count, vl_e, z_round hc, bd_s]; rfl) (by simp only [X11_count, s_isIn, bd_s, vl_e, rn]; rfl)
  by_cases k2 : a1 = 2
  · subst k2; exact simT hN 0 (by simp only [X10_count, vl_e, ct]; rfl) (by simp only [X11_count, s_isIn, bd_s, vl_e, hr.2.2.2.2.1]; rfl)
  by_cases k3 : a1 = 3
  · subst k3; exact simT hN 10 (by simp only [X10_count, vl_e, c0]; rfl) (by simp only [X11_count, s_isIn, bd_s, vl_e, hr.1]; rfl)
  by_cases k4 : a1 = 4
  · subst k4; exact simT hN 2 (by simp only [X10_count, vl_e, c2]; rfl) (by simp only [X11_count, s_isIn, bd_s, vl_e, hr.2.1]; rfl)
  by_cases k5 : a1 = 5
  · subst k5; exact simT hN 0 (by simp only [X10_count, vl_e, tw, bd_s]; rfl) (by simp only [X11_count, s_isIn, bd_s, vl_e, ta]; rfl)
  by_cases k6 : a1 = 6
  · subst k6; exact simT hN 0 (by simp only [X10_count, vl_e, tw, bd_s]; rfl) (by simp only [X11_count, s_isIn, bd_s, vl_e, ta]; rfl)
  by_cases k7 : a1 = 7
  · subst k7; exact simT hN 0 (by simp only [X10_count, vl_e, hc.2.2.1]; rfl) (by simp only [X11_count, s_isIn, bd_s, vl_e, hr.2.2.2.2.2.1]; rfl)
  by_cases k8 : a1 = 8
  · subst k8; exact simT hN 0 (by simp only [X10_count, vl_e, hc.2.2.2.1]; rfl) (by simp only [X11_count, s_isIn, bd_s, vl_e, hr.2.2.2.2.2.2.2.1]; rfl)
  have hrng := fb_rng a1
  by_cases h1 : a1 ≤ 10
  · refine simT hN (-9) ?_ ?_
    · simp only [X10_count, vl_e, if_neg k0, if_neg k1, if_neg k2, if_neg k3, if_neg k4, if_neg k5, if_neg k6, if_neg k7, if_neg k8, if_pos h1, if_true, if_false, Option.map_some]
    · have h2 : a1 < 11 ∨ 16 < a1 := Or.inl (by rw [fa_lt]; rw [fa_le] at h1; have e1 : (10 : Int32).toInt = 10 := rfl; have e2 : (11 : Int32).toInt = 11 := rfl; omega)
      simp only [X11_count, s_isIn, if_pos h2, bd_s, i_0, vl_e, if_neg k0, if_neg k1, if_neg k2, if_neg k3, if_neg k4, if_neg k5, if_neg k6, if_neg k7, if_neg k8, if_true, if_false, Option.map_some]
  · have hb : 10 < a1.toInt := by rw [fa_le] at h1; have e1 : (10 : Int32).toInt = 10 := rfl; omega
    have e10 : (10 : Int32).toInt = 10 := rfl
    have hs : (a1 - 10).toInt = a1.toInt - 10 := by rw [fb_subI (by rw [e10]; omega) (by rw [e10]; omega), e10]
    by_cases h3 : 7 ≤ a1 - 10
    · have h4 : 16 < a1.toInt := by rw [fa_le, hs] at h3; have e1 : (7 : Int32).toInt = 7 := rfl; omega
      refine simT hN (-9) ?_ ?_
      · simp only [X10_count, vl_e, if_neg k0, if_neg k1, if_neg k2, if_neg k3, if_neg k4, if_neg k5, if_neg k6, if_neg k7, if_neg k8, if_neg h1, if_pos h3, if_true, if_false, Option.map_some]
      · have h2 : a1 < 11 ∨ 16 < a1 := Or.inr (by rw [fa_lt]; exact h4)
        simp only [X11_count, s_isIn, if_pos h2, bd_s, i_0, vl_e, if_neg k0, if_neg k1, if_neg k2, if_neg k3, if_neg k4, if_neg k5, if_neg k6, if_neg k7, if_neg k8, if_true, if_false, Option.map_some]
    · have h4 : a1.toInt ≤ 16 := by rw [fa_le, hs] at h3; have e1 : (7 : Int32).toInt = 7 := rfl; omega
      have hin : ¬ (a1 - 10 < 0 ∨ 7 ≤ (a1 - 10).toNatClampNeg) := vp_in_iff.mpr ⟨by omega, by omega⟩
      refine simT hN 0 ?_ ?_
      · simp only [X10_count, vl_e, if_neg k0, if_neg k1, if_neg k2, if_neg k3, if_neg k4, if_neg k5, if_neg k6, if_neg k7, if_neg k8, if_neg h1, if_neg h3]
        rw [ck_in _ hin, (hc.2.2.2.2.1 _).2.2.1]
        rfl
      · have h2 : ¬ (a1 < 11 ∨ 16 < a1) := by
          rw [fa_lt, fa_lt]
          have e1 : (11 : Int32).toInt = 11 := rfl
          have e2 : (16 : Int32).toInt = 16 := rfl
          omega
        simp only [X11_count, s_isIn, if_neg h2, bd_s, i_10]
        rw [ck_in _ hin, (hr.2.2.2.2.2.2.2.2 _).1]
        rfl
end ST
theorem p_all {c r : AH} {x a1 a2 a3 a4 : Int32} (hc : StC c) (hr : StR r) {N : AH → AH → Prop} (hN : ∀ a b : AH, N a b) : OpOK x a1 a2 a3 a4 c r N := by
  unfold OpOK
  exact ⟨fun _ => p_feed hc hr hN, fun _ => p_ground hc hr hN, fun _ => p_jumper hc hr hN, fun _ => p_mark hc hr hN, fun _ => p_look hc hr hN, fun _ => p_set hc hr hN, fun _ => p_wind hc hr hN, fun _ => p_stride hc hr hN, fun _ => p_place hc hr hN, fun _ => p_length hc hr hN, fun _ => p_off hc hr hN, fun _ => p_mean hc hr hN, fun _ => p_past hc hr hN, fun _ => p_bestLook hc hr hN, fun _ => p_bestMark hc hr hN, fun _ => p_back hc hr hN, fun _ => p_turn hc hr hN, fun _ => p_jump hc hr hN, fun _ => p_none hc hr hN, fun _ => p_undo hc hr hN, fun _ => p_tried hc hr hN, fun _ => p_needs hc hr hN, fun _ => p_ranks hc hr hN, fun _ => p_leads hc hr hN, fun _ => p_goOn hc hr hN, fun _ => p_aim hc hr hN, fun _ => p_tooLong hc hr hN, fun _ => p_unlike hc hr hN, fun _ => p_moved hc hr hN, fun _ => p_gusts hc hr hN, fun _ => p_on hc hr hN, fun _ => p_row hc hr hN, fun _ => p_judge hc hr hN, fun _ => p_clear hc hr hN, fun _ => p_seeds hc hr hN, fun _ => p_parts hc hr hN, fun _ => p_more hc hr hN, fun _ => p_duel hc hr hN, fun _ => p_practice hc hr hN, fun _ => p_bestRun hc hr hN, fun _ => p_markIn hc hr hN, fun _ => p_fouled hc hr hN, fun _ => p_better hc hr hN, fun _ => p_half hc hr hN, fun _ => p_safe hc hr hN, fun _ => p_mayStill hc hr hN, fun _ => p_image hc hr hN, fun _ => p_restore hc hr hN, fun _ => p_count hc hr hN, fun _ => hN _ _⟩
