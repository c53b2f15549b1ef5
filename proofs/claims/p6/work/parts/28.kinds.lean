abbrev rmX0_aimOf : Room := { frames := 0, cells := 0, slots := 0, locals := 0 }
def X0_aimOf (p1 : Nat) (h : AH) : Option (Int32 × AH) :=
    some (1, h)
set_option maxRecDepth 100000 in
theorem c_X0_aimOf (l : Launch) (b : Nat) (ci : Nat) (qc : vw_C) (hB0 : ZC.1[b]? = some (.inr ci)) (hB1 : vwCl[ci]? = some qc) (p1 : Nat) (hJ1 : ZC.1[p1]? = some (.inr 2)) : MC l yX0_aimOf cX0_aimOf 2 (some .int) rmX0_aimOf ZC [.ref b, .ref p1] rvI (X0_aimOf p1) :=
  MC.of (own := RX0) (by decide +kernel) rfl (Nat.le_of_ble_eq_true rfl) fun X yd A h _ C =>
    aw_iconst (pc := 0) C (v := 1) dX0_aimOf_0 rfl <|
    aw_iret (pc := 1) C dX0_aimOf_1 rfl rfl

abbrev rmX3_strideOf : Room := { frames := 0, cells := 0, slots := 0, locals := 0 }
def X3_strideOf (p1 : Nat) (v2 : Int32) (v3 : Int32) (h : AH) : Option (Int32 × AH) :=
    some ((((h.1 p1 3) + (((h.1 p1 4) * v2) / 10)) + ((v3 * v2) / 10)), h)
set_option maxRecDepth 100000 in
theorem c_X3_strideOf (l : Launch) (b : Nat) (ci : Nat) (qc : vw_C) (hB0 : ZC.1[b]? = some (.inr ci)) (hB1 : vwCl[ci]? = some qc) (p1 : Nat) (hJ1 : ZC.1[p1]? = some (.inr 2)) (v2 : Int32) (v3 : Int32) : MC l yX3_strideOf cX3_strideOf 4 (some .int) rmX3_strideOf ZC [.ref b, .ref p1, .int v2, .int v3] rvI (X3_strideOf p1 v2 v3) :=
  MC.of (own := RX3) (by decide +kernel) rfl (Nat.le_of_ble_eq_true rfl) fun X yd A h _ C =>
    aw_aload_n (pc := 0) C (i := 1) dX3_strideOf_0 rfl rfl <|
    aw_getI (pc := 1) C dX3_strideOf_1 fl_X3_7 hJ1 rfl <|
    aw_aload_n (pc := 4) C (i := 1) dX3_strideOf_4 rfl rfl <|
    aw_getI (pc := 5) C dX3_strideOf_5 fl_X3_13 hJ1 rfl <|
    aw_iload_n (pc := 8) C (i := 2) dX3_strideOf_8 rfl rfl <|
    aw_imul (pc := 9) C dX3_strideOf_9 <|
    aw_bipush (pc := 10) C (v := 10) dX3_strideOf_10 rfl <|
    aw_idivK (pc := 12) C dX3_strideOf_12 (by decide) <|
    aw_iadd (pc := 13) C dX3_strideOf_13 <|
    aw_iload_n (pc := 14) C (i := 3) dX3_strideOf_14 rfl rfl <|
    aw_iload_n (pc := 15) C (i := 2) dX3_strideOf_15 rfl rfl <|
    aw_imul (pc := 16) C dX3_strideOf_16 <|
    aw_bipush (pc := 17) C (v := 10) dX3_strideOf_17 rfl <|
    aw_idivK (pc := 19) C dX3_strideOf_19 (by decide) <|
    aw_iadd (pc := 20) C dX3_strideOf_20 <|
    aw_iret (pc := 21) C dX3_strideOf_21 rfl rfl

abbrev rmX0_strideOf : Room := { frames := 1, cells := 0, slots := 0, locals := 23 }
def X0_strideOf (p1 : Nat) (v2 : Int32) (v3 : Int32) (h : AH) : Option (Int32 × AH) :=
    bd (X3_strideOf p1 v2 v3 h) fun r1 h2 =>
    some ((r1 + (rm32 v2 2)), h2)
set_option maxRecDepth 100000 in
theorem c_X0_strideOf (l : Launch) (b : Nat) (ci : Nat) (qc : vw_C) (hB0 : ZC.1[b]? = some (.inr ci)) (hB1 : vwCl[ci]? = some qc) (p1 : Nat) (hJ1 : ZC.1[p1]? = some (.inr 2)) (v2 : Int32) (v3 : Int32) : MC l yX0_strideOf cX0_strideOf 4 (some .int) rmX0_strideOf ZC [.ref b, .ref p1, .int v2, .int v3] rvI (X0_strideOf p1 v2 v3) :=
  MC.of (own := RX0) (by decide +kernel) rfl (Nat.le_of_ble_eq_true rfl) fun X yd A h _ C =>
    aw_aload_n (pc := 0) C (i := 0) dX0_strideOf_0 rfl rfl <|
    aw_aload_n (pc := 1) C (i := 1) dX0_strideOf_1 rfl rfl <|
    aw_iload_n (pc := 2) C (i := 2) dX0_strideOf_2 rfl rfl <|
    aw_iload_n (pc := 3) C (i := 3) dX0_strideOf_3 rfl rfl <|
    aw_callF (pc := 4) C (cr_SU (rest := []) (F := (X3_strideOf p1 v2 v3)) C (c_X3_strideOf X.2.1 b _ _ hB0 hB1 p1 hJ1 v2 v3) dX0_strideOf_4 mf_X3_strideOf ml_X0_7 sm_Kind_Kind_strideOf su_X0_X3 im_X3_strideOf (by decide +kernel) hB0 hB1 ⟨(Nat.le_of_ble_eq_true rfl), (Nat.le_of_ble_eq_true rfl)⟩ rfl rfl (Nat.le_of_ble_eq_true rfl)) rfl rfl rfl (Nat.zero_le _) (Nat.zero_le _) fun r1 h2 =>
    aw_iload_n (pc := 7) C (i := 2) dX0_strideOf_7 rfl rfl <|
    aw_iconst (pc := 8) C (v := 2) dX0_strideOf_8 rfl <|
    aw_iremK (pc := 9) C dX0_strideOf_9 (by decide) <|
    aw_iadd (pc := 10) C dX0_strideOf_10 <|
    aw_iret (pc := 11) C dX0_strideOf_11 rfl rfl

abbrev rmX3_lengthOf : Room := { frames := 0, cells := 0, slots := 0, locals := 0 }
def X3_lengthOf (p1 : Nat) (v2 : Int32) (v3 : Int32) (v4 : Int32) (h : AH) : Option (Int32 × AH) :=
    vl (((((4 * (h.1 p1 6)) + (2 * v4)) + (h.1 p1 2)) - v2) - (2 * v3)) fun x1 =>
    if 0 ≤ x1 then (some (x1, h))
    else (some (0, h))
set_option maxRecDepth 100000 in
theorem c_X3_lengthOf (l : Launch) (b : Nat) (ci : Nat) (qc : vw_C) (hB0 : ZC.1[b]? = some (.inr ci)) (hB1 : vwCl[ci]? = some qc) (p1 : Nat) (hJ1 : ZC.1[p1]? = some (.inr 2)) (v2 : Int32) (v3 : Int32) (v4 : Int32) : MC l yX3_lengthOf cX3_lengthOf 6 (some .int) rmX3_lengthOf ZC [.ref b, .ref p1, .int v2, .int v3, .int v4] rvI (X3_lengthOf p1 v2 v3 v4) :=
  MC.of (own := RX3) (by decide +kernel) rfl (Nat.le_of_ble_eq_true rfl) fun X yd A h _ C =>
    aw_iconst (pc := 0) C (v := 4) dX3_lengthOf_0 rfl <|
    aw_aload_n (pc := 1) C (i := 1) dX3_lengthOf_1 rfl rfl <|
    aw_getI (pc := 2) C dX3_lengthOf_2 fl_X3_16 hJ1 rfl <|
    aw_imul (pc := 5) C dX3_lengthOf_5 <|
    aw_iconst (pc := 6) C (v := 2) dX3_lengthOf_6 rfl <|
    aw_iload (pc := 7) C (i := 4) dX3_lengthOf_7 rfl <|
    aw_imul (pc := 9) C dX3_lengthOf_9 <|
    aw_iadd (pc := 10) C dX3_lengthOf_10 <|
    aw_aload_n (pc := 11) C (i := 1) dX3_lengthOf_11 rfl rfl <|
    aw_getI (pc := 12) C dX3_lengthOf_12 fl_X3_19 hJ1 rfl <|
    aw_iadd (pc := 15) C dX3_lengthOf_15 <|
    aw_iload_n (pc := 16) C (i := 2) dX3_lengthOf_16 rfl rfl <|
    aw_isub (pc := 17) C dX3_lengthOf_17 <|
    aw_iconst (pc := 18) C (v := 2) dX3_lengthOf_18 rfl <|
    aw_iload_n (pc := 19) C (i := 3) dX3_lengthOf_19 rfl rfl <|
    aw_imul (pc := 20) C dX3_lengthOf_20 <|
    aw_isub (pc := 21) C dX3_lengthOf_21 <|
    aw_istoreV (pc := 22) C (i := 5) (fun x1 => [(0, .ref b), (1, .ref p1), (2, .int v2), (3, .int v3), (4, .int v4), (5, .int x1)]) dX3_lengthOf_22 (by decide) (fun _ => rfl) fun x1 =>
    aw_iload (pc := 24) C (i := 5) dX3_lengthOf_24 rfl <|
    aw_if_ge (pc := 26) C (tgt := 33) dX3_lengthOf_26 rfl (fun _ =>
    aw_iload (pc := 33) C (i := 5) dX3_lengthOf_33 rfl <|
    aw_iret (pc := 35) C dX3_lengthOf_35 rfl rfl) (fun _ =>
    aw_iconst (pc := 29) C (v := 0) dX3_lengthOf_29 rfl <|
    aw_goto (pc := 30) C (tgt := 35) dX3_lengthOf_30 rfl <|
    aw_iret (pc := 35) C dX3_lengthOf_35 rfl rfl)

abbrev rmX0_lengthOf : Room := { frames := 1, cells := 0, slots := 0, locals := 25 }
def X0_lengthOf (p1 : Nat) (v2 : Int32) (v3 : Int32) (v4 : Int32) (h : AH) : Option (Int32 × AH) :=
    bd (X3_lengthOf p1 v2 v3 v4 h) fun r1 h2 =>
    some ((r1 + 3), h2)
set_option maxRecDepth 100000 in
theorem c_X0_lengthOf (l : Launch) (b : Nat) (ci : Nat) (qc : vw_C) (hB0 : ZC.1[b]? = some (.inr ci)) (hB1 : vwCl[ci]? = some qc) (p1 : Nat) (hJ1 : ZC.1[p1]? = some (.inr 2)) (v2 : Int32) (v3 : Int32) (v4 : Int32) : MC l yX0_lengthOf cX0_lengthOf 5 (some .int) rmX0_lengthOf ZC [.ref b, .ref p1, .int v2, .int v3, .int v4] rvI (X0_lengthOf p1 v2 v3 v4) :=
  MC.of (own := RX0) (by decide +kernel) rfl (Nat.le_of_ble_eq_true rfl) fun X yd A h _ C =>
    aw_aload_n (pc := 0) C (i := 0) dX0_lengthOf_0 rfl rfl <|
    aw_aload_n (pc := 1) C (i := 1) dX0_lengthOf_1 rfl rfl <|
    aw_iload_n (pc := 2) C (i := 2) dX0_lengthOf_2 rfl rfl <|
    aw_iload_n (pc := 3) C (i := 3) dX0_lengthOf_3 rfl rfl <|
    aw_iload (pc := 4) C (i := 4) dX0_lengthOf_4 rfl <|
    aw_callF (pc := 6) C (cr_SU (rest := []) (F := (X3_lengthOf p1 v2 v3 v4)) C (c_X3_lengthOf X.2.1 b _ _ hB0 hB1 p1 hJ1 v2 v3 v4) dX0_lengthOf_6 mf_X3_lengthOf ml_X0_11 sm_Kind_Kind_lengthOf su_X0_X3 im_X3_lengthOf (by decide +kernel) hB0 hB1 ⟨(Nat.le_of_ble_eq_true rfl), (Nat.le_of_ble_eq_true rfl)⟩ rfl rfl (Nat.le_of_ble_eq_true rfl)) rfl rfl rfl (Nat.zero_le _) (Nat.zero_le _) fun r1 h2 =>
    aw_iconst (pc := 9) C (v := 3) dX0_lengthOf_9 rfl <|
    aw_iadd (pc := 10) C dX0_lengthOf_10 <|
    aw_iret (pc := 11) C dX0_lengthOf_11 rfl rfl

abbrev rmX3_aimOf : Room := { frames := 0, cells := 0, slots := 0, locals := 0 }
def X3_aimOf (p1 : Nat) (h : AH) : Option (Int32 × AH) :=
    some (0, h)
set_option maxRecDepth 100000 in
theorem c_X3_aimOf (l : Launch) (b : Nat) (ci : Nat) (qc : vw_C) (hB0 : ZC.1[b]? = some (.inr ci)) (hB1 : vwCl[ci]? = some qc) (p1 : Nat) (hJ1 : ZC.1[p1]? = some (.inr 2)) : MC l yX3_aimOf cX3_aimOf 2 (some .int) rmX3_aimOf ZC [.ref b, .ref p1] rvI (X3_aimOf p1) :=
  MC.of (own := RX3) (by decide +kernel) rfl (Nat.le_of_ble_eq_true rfl) fun X yd A h _ C =>
    aw_iconst (pc := 0) C (v := 0) dX3_aimOf_0 rfl <|
    aw_iret (pc := 1) C dX3_aimOf_1 rfl rfl

abbrev rmX7_aimOf : Room := { frames := 0, cells := 0, slots := 0, locals := 0 }
def X7_aimOf (p1 : Nat) (h : AH) : Option (Int32 × AH) :=
    some (((h.1 p1 2) + 2), h)
set_option maxRecDepth 100000 in
theorem c_X7_aimOf (l : Launch) (b : Nat) (ci : Nat) (qc : vw_C) (hB0 : ZC.1[b]? = some (.inr ci)) (hB1 : vwCl[ci]? = some qc) (p1 : Nat) (hJ1 : ZC.1[p1]? = some (.inr 2)) : MC l yX7_aimOf cX7_aimOf 2 (some .int) rmX7_aimOf ZC [.ref b, .ref p1] rvI (X7_aimOf p1) :=
  MC.of (own := RX7) (by decide +kernel) rfl (Nat.le_of_ble_eq_true rfl) fun X yd A h _ C =>
    aw_aload_n (pc := 0) C (i := 1) dX7_aimOf_0 rfl rfl <|
    aw_getI (pc := 1) C dX7_aimOf_1 fl_X7_7 hJ1 rfl <|
    aw_iconst (pc := 4) C (v := 2) dX7_aimOf_4 rfl <|
    aw_iadd (pc := 5) C dX7_aimOf_5 <|
    aw_iret (pc := 6) C dX7_aimOf_6 rfl rfl

abbrev rmX4_aimOf : Room := { frames := 1, cells := 0, slots := 0, locals := 21 }
def X4_aimOf (p1 : Nat) (h : AH) : Option (Int32 × AH) :=
    bd (X7_aimOf p1 h) fun r1 h2 =>
    some ((r1 / 2), h2)
set_option maxRecDepth 100000 in
theorem c_X4_aimOf (l : Launch) (b : Nat) (ci : Nat) (qc : vw_C) (hB0 : ZC.1[b]? = some (.inr ci)) (hB1 : vwCl[ci]? = some qc) (p1 : Nat) (hJ1 : ZC.1[p1]? = some (.inr 2)) : MC l yX4_aimOf cX4_aimOf 2 (some .int) rmX4_aimOf ZC [.ref b, .ref p1] rvI (X4_aimOf p1) :=
  MC.of (own := RX4) (by decide +kernel) rfl (Nat.le_of_ble_eq_true rfl) fun X yd A h _ C =>
    aw_aload_n (pc := 0) C (i := 0) dX4_aimOf_0 rfl rfl <|
    aw_aload_n (pc := 1) C (i := 1) dX4_aimOf_1 rfl rfl <|
    aw_callF (pc := 2) C (cr_SU (rest := []) (F := (X7_aimOf p1)) C (c_X7_aimOf X.2.1 b _ _ hB0 hB1 p1 hJ1) dX4_aimOf_2 mf_X7_aimOf ml_X4_7 sm_Safe_Safe_aimOf su_X4_X7 im_X7_aimOf (by decide +kernel) hB0 hB1 ⟨(Nat.le_of_ble_eq_true rfl), (Nat.le_of_ble_eq_true rfl)⟩ rfl rfl (Nat.le_of_ble_eq_true rfl)) rfl rfl rfl (Nat.zero_le _) (Nat.zero_le _) fun r1 h2 =>
    aw_iconst (pc := 5) C (v := 2) dX4_aimOf_5 rfl <|
    aw_idivK (pc := 6) C dX4_aimOf_6 (by decide) <|
    aw_iret (pc := 7) C dX4_aimOf_7 rfl rfl

abbrev rmX8_aimOf : Room := { frames := 2, cells := 0, slots := 0, locals := 42 }
def X8_aimOf (p1 : Nat) (h : AH) : Option (Int32 × AH) :=
    bd (X4_aimOf p1 h) fun r1 h2 =>
    some ((r1 + 1), h2)
set_option maxRecDepth 100000 in
theorem c_X8_aimOf (l : Launch) (b : Nat) (ci : Nat) (qc : vw_C) (hB0 : ZC.1[b]? = some (.inr ci)) (hB1 : vwCl[ci]? = some qc) (p1 : Nat) (hJ1 : ZC.1[p1]? = some (.inr 2)) : MC l yX8_aimOf cX8_aimOf 2 (some .int) rmX8_aimOf ZC [.ref b, .ref p1] rvI (X8_aimOf p1) :=
  MC.of (own := RX8) (by decide +kernel) rfl (Nat.le_of_ble_eq_true rfl) fun X yd A h _ C =>
    aw_aload_n (pc := 0) C (i := 0) dX8_aimOf_0 rfl rfl <|
    aw_aload_n (pc := 1) C (i := 1) dX8_aimOf_1 rfl rfl <|
    aw_callF (pc := 2) C (cr_SU (rest := []) (F := (X4_aimOf p1)) C (c_X4_aimOf X.2.1 b _ _ hB0 hB1 p1 hJ1) dX8_aimOf_2 mf_X4_aimOf ml_X8_7 sm_Looker_Looker_aimOf su_X8_X4 im_X4_aimOf (by decide +kernel) hB0 hB1 ⟨(Nat.le_of_ble_eq_true rfl), (Nat.le_of_ble_eq_true rfl)⟩ rfl rfl (Nat.le_of_ble_eq_true rfl)) rfl rfl rfl (Nat.zero_le _) (Nat.zero_le _) fun r1 h2 =>
    aw_iconst (pc := 5) C (v := 1) dX8_aimOf_5 rfl <|
    aw_iadd (pc := 6) C dX8_aimOf_6 <|
    aw_iret (pc := 7) C dX8_aimOf_7 rfl rfl

abbrev rmX7_lengthOf : Room := { frames := 1, cells := 0, slots := 0, locals := 25 }
def X7_lengthOf (p1 : Nat) (v2 : Int32) (v3 : Int32) (v4 : Int32) (h : AH) : Option (Int32 × AH) :=
    bd (X3_lengthOf p1 v2 v3 v4 h) fun r1 h2 =>
    vl (r1 - 3) fun x3 =>
    if 0 ≤ x3 then (some (x3, h2))
    else (some (0, h2))
set_option maxRecDepth 100000 in
theorem c_X7_lengthOf (l : Launch) (b : Nat) (ci : Nat) (qc : vw_C) (hB0 : ZC.1[b]? = some (.inr ci)) (hB1 : vwCl[ci]? = some qc) (p1 : Nat) (hJ1 : ZC.1[p1]? = some (.inr 2)) (v2 : Int32) (v3 : Int32) (v4 : Int32) : MC l yX7_lengthOf cX7_lengthOf 6 (some .int) rmX7_lengthOf ZC [.ref b, .ref p1, .int v2, .int v3, .int v4] rvI (X7_lengthOf p1 v2 v3 v4) :=
  MC.of (own := RX7) (by decide +kernel) rfl (Nat.le_of_ble_eq_true rfl) fun X yd A h _ C =>
    aw_aload_n (pc := 0) C (i := 0) dX7_lengthOf_0 rfl rfl <|
    aw_aload_n (pc := 1) C (i := 1) dX7_lengthOf_1 rfl rfl <|
    aw_iload_n (pc := 2) C (i := 2) dX7_lengthOf_2 rfl rfl <|
    aw_iload_n (pc := 3) C (i := 3) dX7_lengthOf_3 rfl rfl <|
    aw_iload (pc := 4) C (i := 4) dX7_lengthOf_4 rfl <|
    aw_callF (pc := 6) C (cr_SU (rest := []) (F := (X3_lengthOf p1 v2 v3 v4)) C (c_X3_lengthOf X.2.1 b _ _ hB0 hB1 p1 hJ1 v2 v3 v4) dX7_lengthOf_6 mf_X3_lengthOf ml_X7_13 sm_Kind_Kind_lengthOf su_X7_X3 im_X3_lengthOf (by decide +kernel) hB0 hB1 ⟨(Nat.le_of_ble_eq_true rfl), (Nat.le_of_ble_eq_true rfl)⟩ rfl rfl (Nat.le_of_ble_eq_true rfl)) rfl rfl rfl (Nat.zero_le _) (Nat.zero_le _) fun r1 h2 =>
    aw_iconst (pc := 9) C (v := 3) dX7_lengthOf_9 rfl <|
    aw_isub (pc := 10) C dX7_lengthOf_10 <|
    aw_istoreV (pc := 11) C (i := 5) (fun x3 => [(0, .ref b), (1, .ref p1), (2, .int v2), (3, .int v3), (4, .int v4), (5, .int x3)]) dX7_lengthOf_11 (by decide) (fun _ => rfl) fun x3 =>
    aw_iload (pc := 13) C (i := 5) dX7_lengthOf_13 rfl <|
    aw_if_ge (pc := 15) C (tgt := 22) dX7_lengthOf_15 rfl (fun _ =>
    aw_iload (pc := 22) C (i := 5) dX7_lengthOf_22 rfl <|
    aw_iret (pc := 24) C dX7_lengthOf_24 rfl rfl) (fun _ =>
    aw_iconst (pc := 18) C (v := 0) dX7_lengthOf_18 rfl <|
    aw_goto (pc := 19) C (tgt := 24) dX7_lengthOf_19 rfl <|
    aw_iret (pc := 24) C dX7_lengthOf_24 rfl rfl)

abbrev rmX9_lengthOf : Room := { frames := 2, cells := 0, slots := 0, locals := 49 }
def X9_lengthOf (p1 : Nat) (v2 : Int32) (v3 : Int32) (v4 : Int32) (h : AH) : Option (Int32 × AH) :=
    bd (X0_lengthOf p1 v2 v3 v4 h) fun r1 h2 =>
    vl (r1 + v4) fun x3 =>
    if 0 ≤ x3 then (some (x3, h2))
    else (some (0, h2))
set_option maxRecDepth 100000 in
theorem c_X9_lengthOf (l : Launch) (b : Nat) (ci : Nat) (qc : vw_C) (hB0 : ZC.1[b]? = some (.inr ci)) (hB1 : vwCl[ci]? = some qc) (p1 : Nat) (hJ1 : ZC.1[p1]? = some (.inr 2)) (v2 : Int32) (v3 : Int32) (v4 : Int32) : MC l yX9_lengthOf cX9_lengthOf 6 (some .int) rmX9_lengthOf ZC [.ref b, .ref p1, .int v2, .int v3, .int v4] rvI (X9_lengthOf p1 v2 v3 v4) :=
  MC.of (own := RX9) (by decide +kernel) rfl (Nat.le_of_ble_eq_true rfl) fun X yd A h _ C =>
    aw_aload_n (pc := 0) C (i := 0) dX9_lengthOf_0 rfl rfl <|
    aw_aload_n (pc := 1) C (i := 1) dX9_lengthOf_1 rfl rfl <|
    aw_iload_n (pc := 2) C (i := 2) dX9_lengthOf_2 rfl rfl <|
    aw_iload_n (pc := 3) C (i := 3) dX9_lengthOf_3 rfl rfl <|
    aw_iload (pc := 4) C (i := 4) dX9_lengthOf_4 rfl <|
    aw_callF (pc := 6) C (cr_SU (rest := []) (F := (X0_lengthOf p1 v2 v3 v4)) C (c_X0_lengthOf X.2.1 b _ _ hB0 hB1 p1 hJ1 v2 v3 v4) dX9_lengthOf_6 mf_X0_lengthOf ml_X9_11 sm_Bold_Bold_lengthOf su_X9_X0 im_X0_lengthOf (by decide +kernel) hB0 hB1 ⟨(Nat.le_of_ble_eq_true rfl), (Nat.le_of_ble_eq_true rfl)⟩ rfl rfl (Nat.le_of_ble_eq_true rfl)) rfl rfl rfl (Nat.zero_le _) (Nat.zero_le _) fun r1 h2 =>
    aw_iload (pc := 9) C (i := 4) dX9_lengthOf_9 rfl <|
    aw_iadd (pc := 11) C dX9_lengthOf_11 <|
    aw_istoreV (pc := 12) C (i := 5) (fun x3 => [(0, .ref b), (1, .ref p1), (2, .int v2), (3, .int v3), (4, .int v4), (5, .int x3)]) dX9_lengthOf_12 (by decide) (fun _ => rfl) fun x3 =>
    aw_iload (pc := 14) C (i := 5) dX9_lengthOf_14 rfl <|
    aw_if_ge (pc := 16) C (tgt := 23) dX9_lengthOf_16 rfl (fun _ =>
    aw_iload (pc := 23) C (i := 5) dX9_lengthOf_23 rfl <|
    aw_iret (pc := 25) C dX9_lengthOf_25 rfl rfl) (fun _ =>
    aw_iconst (pc := 19) C (v := 0) dX9_lengthOf_19 rfl <|
    aw_goto (pc := 20) C (tgt := 25) dX9_lengthOf_20 rfl <|
    aw_iret (pc := 25) C dX9_lengthOf_25 rfl rfl)

abbrev rmX8_lengthOf : Room := { frames := 2, cells := 0, slots := 0, locals := 50 }
def X8_lengthOf (p1 : Nat) (v2 : Int32) (v3 : Int32) (v4 : Int32) (h : AH) : Option (Int32 × AH) :=
    bd (X7_lengthOf p1 v2 v3 v4 h) fun r1 h2 =>
    some ((r1 + 1), h2)
set_option maxRecDepth 100000 in
theorem c_X8_lengthOf (l : Launch) (b : Nat) (ci : Nat) (qc : vw_C) (hB0 : ZC.1[b]? = some (.inr ci)) (hB1 : vwCl[ci]? = some qc) (p1 : Nat) (hJ1 : ZC.1[p1]? = some (.inr 2)) (v2 : Int32) (v3 : Int32) (v4 : Int32) : MC l yX8_lengthOf cX8_lengthOf 5 (some .int) rmX8_lengthOf ZC [.ref b, .ref p1, .int v2, .int v3, .int v4] rvI (X8_lengthOf p1 v2 v3 v4) :=
  MC.of (own := RX8) (by decide +kernel) rfl (Nat.le_of_ble_eq_true rfl) fun X yd A h _ C =>
    aw_aload_n (pc := 0) C (i := 0) dX8_lengthOf_0 rfl rfl <|
    aw_aload_n (pc := 1) C (i := 1) dX8_lengthOf_1 rfl rfl <|
    aw_iload_n (pc := 2) C (i := 2) dX8_lengthOf_2 rfl rfl <|
    aw_iload_n (pc := 3) C (i := 3) dX8_lengthOf_3 rfl rfl <|
    aw_iload (pc := 4) C (i := 4) dX8_lengthOf_4 rfl <|
    aw_callF (pc := 6) C (cr_SUP (rest := []) (F := (X7_lengthOf p1 v2 v3 v4)) C (c_X7_lengthOf X.2.1 b _ _ hB0 hB1 p1 hJ1 v2 v3 v4) dX8_lengthOf_6 mf_X7_lengthOf ml_X8_15 rfl sm_Looker_Safe_lengthOf su_X8_X4 so_X4_X7 im_X7_lengthOf (by decide +kernel) hB0 hB1 ⟨(Nat.le_of_ble_eq_true rfl), (Nat.le_of_ble_eq_true rfl)⟩ rfl rfl (Nat.le_of_ble_eq_true rfl)) rfl rfl rfl (Nat.zero_le _) (Nat.zero_le _) fun r1 h2 =>
    aw_iconst (pc := 9) C (v := 1) dX8_lengthOf_9 rfl <|
    aw_iadd (pc := 10) C dX8_lengthOf_10 <|
    aw_iret (pc := 11) C dX8_lengthOf_11 rfl rfl

abbrev rmX9_strideOf : Room := { frames := 2, cells := 0, slots := 0, locals := 46 }
def X9_strideOf (p1 : Nat) (v2 : Int32) (v3 : Int32) (h : AH) : Option (Int32 × AH) :=
    bd (X0_strideOf p1 v2 v3 h) fun r1 h2 =>
    some ((r1 + ((v3 * v2) / 10)), h2)
set_option maxRecDepth 100000 in
theorem c_X9_strideOf (l : Launch) (b : Nat) (ci : Nat) (qc : vw_C) (hB0 : ZC.1[b]? = some (.inr ci)) (hB1 : vwCl[ci]? = some qc) (p1 : Nat) (hJ1 : ZC.1[p1]? = some (.inr 2)) (v2 : Int32) (v3 : Int32) : MC l yX9_strideOf cX9_strideOf 4 (some .int) rmX9_strideOf ZC [.ref b, .ref p1, .int v2, .int v3] rvI (X9_strideOf p1 v2 v3) :=
  MC.of (own := RX9) (by decide +kernel) rfl (Nat.le_of_ble_eq_true rfl) fun X yd A h _ C =>
    aw_aload_n (pc := 0) C (i := 0) dX9_strideOf_0 rfl rfl <|
    aw_aload_n (pc := 1) C (i := 1) dX9_strideOf_1 rfl rfl <|
    aw_iload_n (pc := 2) C (i := 2) dX9_strideOf_2 rfl rfl <|
    aw_iload_n (pc := 3) C (i := 3) dX9_strideOf_3 rfl rfl <|
    aw_callF (pc := 4) C (cr_SU (rest := []) (F := (X0_strideOf p1 v2 v3)) C (c_X0_strideOf X.2.1 b _ _ hB0 hB1 p1 hJ1 v2 v3) dX9_strideOf_4 mf_X0_strideOf ml_X9_7 sm_Bold_Bold_strideOf su_X9_X0 im_X0_strideOf (by decide +kernel) hB0 hB1 ⟨(Nat.le_of_ble_eq_true rfl), (Nat.le_of_ble_eq_true rfl)⟩ rfl rfl (Nat.le_of_ble_eq_true rfl)) rfl rfl rfl (Nat.zero_le _) (Nat.zero_le _) fun r1 h2 =>
    aw_iload_n (pc := 7) C (i := 3) dX9_strideOf_7 rfl rfl <|
    aw_iload_n (pc := 8) C (i := 2) dX9_strideOf_8 rfl rfl <|
    aw_imul (pc := 9) C dX9_strideOf_9 <|
    aw_bipush (pc := 10) C (v := 10) dX9_strideOf_10 rfl <|
    aw_idivK (pc := 12) C dX9_strideOf_12 (by decide) <|
    aw_iadd (pc := 13) C dX9_strideOf_13 <|
    aw_iret (pc := 14) C dX9_strideOf_14 rfl rfl

abbrev rmX8_strideOf : Room := { frames := 1, cells := 0, slots := 0, locals := 23 }
def X8_strideOf (p1 : Nat) (v2 : Int32) (v3 : Int32) (h : AH) : Option (Int32 × AH) :=
    bd (X3_strideOf p1 v2 v3 h) fun r1 h2 =>
    some ((r1 - ((v3 * v2) / 10)), h2)
set_option maxRecDepth 100000 in
theorem c_X8_strideOf (l : Launch) (b : Nat) (ci : Nat) (qc : vw_C) (hB0 : ZC.1[b]? = some (.inr ci)) (hB1 : vwCl[ci]? = some qc) (p1 : Nat) (hJ1 : ZC.1[p1]? = some (.inr 2)) (v2 : Int32) (v3 : Int32) : MC l yX8_strideOf cX8_strideOf 4 (some .int) rmX8_strideOf ZC [.ref b, .ref p1, .int v2, .int v3] rvI (X8_strideOf p1 v2 v3) :=
  MC.of (own := RX8) (by decide +kernel) rfl (Nat.le_of_ble_eq_true rfl) fun X yd A h _ C =>
    aw_aload_n (pc := 0) C (i := 0) dX8_strideOf_0 rfl rfl <|
    aw_aload_n (pc := 1) C (i := 1) dX8_strideOf_1 rfl rfl <|
    aw_iload_n (pc := 2) C (i := 2) dX8_strideOf_2 rfl rfl <|
    aw_iload_n (pc := 3) C (i := 3) dX8_strideOf_3 rfl rfl <|
    aw_callF (pc := 4) C (cr_SUP (rest := []) (F := (X3_strideOf p1 v2 v3)) C (c_X3_strideOf X.2.1 b _ _ hB0 hB1 p1 hJ1 v2 v3) dX8_strideOf_4 mf_X3_strideOf ml_X8_11 rfl sm_Looker_Kind_strideOf su_X8_X4 so_X4_X3 im_X3_strideOf (by decide +kernel) hB0 hB1 ⟨(Nat.le_of_ble_eq_true rfl), (Nat.le_of_ble_eq_true rfl)⟩ rfl rfl (Nat.le_of_ble_eq_true rfl)) rfl rfl rfl (Nat.zero_le _) (Nat.zero_le _) fun r1 h2 =>
    aw_iload_n (pc := 7) C (i := 3) dX8_strideOf_7 rfl rfl <|
    aw_iload_n (pc := 8) C (i := 2) dX8_strideOf_8 rfl rfl <|
    aw_imul (pc := 9) C dX8_strideOf_9 <|
    aw_bipush (pc := 10) C (v := 10) dX8_strideOf_10 rfl <|
    aw_idivK (pc := 12) C dX8_strideOf_12 (by decide) <|
    aw_isub (pc := 13) C dX8_strideOf_13 <|
    aw_iret (pc := 14) C dX8_strideOf_14 rfl rfl
