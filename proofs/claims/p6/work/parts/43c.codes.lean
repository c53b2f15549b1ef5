/-! a refusal's numbers one by one -/
theorem rf_1 (h : AH) : X10_refuse (-1) h = some (-1, sI h 4 1 (h.1 4 1 + 1)) := by
  unfold X10_refuse
  rw [if_neg (by decide), if_neg (by decide), ck_in _ (by decide), ck_in _ (by decide), vl_e]
  rfl
theorem rf_2 (h : AH) : X10_refuse (-2) h = some (-2, sI h 4 2 (h.1 4 2 + 1)) := by
  unfold X10_refuse
  rw [if_neg (by decide), if_neg (by decide), ck_in _ (by decide), ck_in _ (by decide), vl_e]
  rfl
theorem rf_3 (h : AH) : X10_refuse (-3) h = some (-3, sI h 4 3 (h.1 4 3 + 1)) := by
  unfold X10_refuse
  rw [if_neg (by decide), if_neg (by decide), ck_in _ (by decide), ck_in _ (by decide), vl_e]
  rfl
theorem rf_4 (h : AH) : X10_refuse (-4) h = some (-4, sI h 4 4 (h.1 4 4 + 1)) := by
  unfold X10_refuse
  rw [if_neg (by decide), if_neg (by decide), ck_in _ (by decide), ck_in _ (by decide), vl_e]
  rfl
theorem rf_6 (h : AH) : X10_refuse (-6) h = some (-6, sI h 4 6 (h.1 4 6 + 1)) := by
  unfold X10_refuse
  rw [if_neg (by decide), if_neg (by decide), ck_in _ (by decide), ck_in _ (by decide), vl_e]
  rfl
theorem no_g {x : Int32} {w : Nat} (h3 : ¬ (-x < 0 ∨ 7 ≤ (-x).toNatClampNeg)) (h4 : (-x).toNatClampNeg = w) (h : AH) : X11_no x h = some (x, sI h 1 w (h.1 1 w + 1)) := by
  unfold X11_no
  rw [ck_in _ h3, ck_in _ h3, vl_e, h4]
theorem no_1 (h : AH) : X11_no (-1) h = some (-1, sI h 1 1 (h.1 1 1 + 1)) := no_g (by decide) (by decide) h
theorem no_2 (h : AH) : X11_no (-2) h = some (-2, sI h 1 2 (h.1 1 2 + 1)) := no_g (by decide) (by decide) h
theorem no_3 (h : AH) : X11_no (-3) h = some (-3, sI h 1 3 (h.1 1 3 + 1)) := no_g (by decide) (by decide) h
theorem no_4 (h : AH) : X11_no (-4) h = some (-4, sI h 1 4 (h.1 1 4 + 1)) := no_g (by decide) (by decide) h
theorem no_6 (h : AH) : X11_no (-6) h = some (-6, sI h 1 6 (h.1 1 6 + 1)) := no_g (by decide) (by decide) h
theorem lo_g {x : Int32} {w : Nat} (h3 : ¬ (-x < 0 ∨ 7 ≤ (-x).toNatClampNeg)) (h4 : (-x).toNatClampNeg = w) (h : AH) : X11_lower x h = some (1000000000 - x, sI h 1 w (h.1 1 w + 1)) := by
  unfold X11_lower
  rw [ck_in _ h3, ck_in _ h3, vl_e, h4]
theorem lo_1 (h : AH) : X11_lower (-1) h = some (1000000000 - (-1), sI h 1 1 (h.1 1 1 + 1)) := lo_g (by decide) (by decide) h
theorem lo_4 (h : AH) : X11_lower (-4) h = some (1000000000 - (-4), sI h 1 4 (h.1 1 4 + 1)) := lo_g (by decide) (by decide) h
theorem lo_6 (h : AH) : X11_lower (-6) h = some (1000000000 - (-6), sI h 1 6 (h.1 1 6 + 1)) := lo_g (by decide) (by decide) h
theorem ll_1 (h : AH) : X11_lowest (-1) h = some (4000000000000000000 - (-1 : Int32).toInt64, sI h 1 1 (h.1 1 1 + 1)) := by
  unfold X11_lowest
  rw [ck_in _ (by decide), ck_in _ (by decide), vl_e]
  rfl
theorem i_0 {α : Type} (a b : α) : (if (0 : Int32) = 0 then a else b) = a := if_pos rfl
theorem i_le {α : Type} (a b : α) : (if (0 : Int32) ≤ 0 then a else b) = a := if_pos (Int32.le_refl 0)
theorem k_0 {β : Type} {n : Nat} (o : Option β) (hn : 0 < n) : ck 0 n o = o := ck_in o (fun z => z.elim (fun z => absurd z (by decide)) (fun z => absurd z (by show ¬ n ≤ 0; omega)))
theorem i_10 {α : Type} (a b : α) : (if (1 : Int32) = 0 then a else b) = b := if_neg (by decide)
theorem i_1 {α : Type} (a b : α) : (if (-1 : Int32) = 0 then a else b) = b := if_neg (by decide)
theorem i_2 {α : Type} (a b : α) : (if (-2 : Int32) = 0 then a else b) = b := if_neg (by decide)
theorem i_3 {α : Type} (a b : α) : (if (-3 : Int32) = 0 then a else b) = b := if_neg (by decide)
theorem i_4 {α : Type} (a b : α) : (if (-4 : Int32) = 0 then a else b) = b := if_neg (by decide)
theorem i_6 {α : Type} (a b : α) : (if (-6 : Int32) = 0 then a else b) = b := if_neg (by decide)
theorem rk0_at (h : AH) (n : Int32) (o k : Nat) (ho : o ≠ 5 ∧ o ≠ 6 ∧ o ≠ 7) : (rk0 h n).1 o k = h.1 o k := by
  show (if o = 7 ∧ k < 4 then 0 else if o = 6 ∧ k < 4 then 0 else if o = 5 ∧ k = 0 then n else h.1 o k) = _
  rw [if_neg (by omega), if_neg (by omega), if_neg (by omega)]
