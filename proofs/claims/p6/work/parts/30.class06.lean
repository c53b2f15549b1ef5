abbrev rmX10_row : Room := { frames := 1, cells := 0, slots := 0, locals := 22 }
def X10_row (v1 : Int32) (h : AH) : Option (Int32 × AH) :=
    bd (X10_outside v1 0 99 h) fun r1 h2 =>
    bd (X10_outside (h2.1 0 8) 0 11 h2) fun r3 h4 =>
    bd (X10_first r1 r3 h4) fun r5 h6 =>
    if r5 = 0 then (ck (h6.1 0 8) 12 (vl (sI h6 3 (h6.1 0 8).toNatClampNeg v1) fun h7 =>
    vl (sI h7 0 8 ((h7.1 0 8) + 1)) fun h8 =>
    some ((h8.1 0 8), h8)))
    else (bd (X10_refuse r5 h6) fun r9 h10 =>
    some (r9, h10))
set_option maxRecDepth 100000 in
theorem c_X10_row (l : Launch) (v1 : Int32) : MC l yX10_row cX10_row 3 (some .int) rmX10_row ZC [.ref 0, .int v1] rvI (X10_row v1) :=
  MC.of (own := RX10) (by decide +kernel) rfl (Nat.le_of_ble_eq_true rfl) fun X yd A h _ C =>
    aw_iload_n (pc := 0) C (i := 1) dX10_row_0 rfl rfl <|
    aw_iconst (pc := 1) C (v := 0) dX10_row_1 rfl <|
    aw_bipush (pc := 2) C (v := 99) dX10_row_2 rfl <|
    aw_callF (pc := 4) C (cr_S (rest := []) (F := (X10_outside v1 0 99)) C (c_X10_outside X.2.1 v1 0 99) dX10_row_4 mf_X10_outside ml_X10_104 st_X10_outside ⟨(Nat.le_of_ble_eq_true rfl), (Nat.le_of_ble_eq_true rfl)⟩ rfl rfl (Nat.le_of_ble_eq_true rfl)) rfl rfl rfl (Nat.zero_le _) (Nat.zero_le _) fun r1 h2 =>
    aw_aload_n (pc := 7) C (i := 0) dX10_row_7 rfl rfl <|
    aw_getI (pc := 8) C dX10_row_8 fl_X10_327 sC_0 rfl <|
    aw_iconst (pc := 11) C (v := 0) dX10_row_11 rfl <|
    aw_bipush (pc := 12) C (v := 11) dX10_row_12 rfl <|
    aw_callF (pc := 14) C (cr_S (rest := [.int r1]) (F := (X10_outside (h2.1 0 8) 0 11)) C (c_X10_outside X.2.1 (h2.1 0 8) 0 11) dX10_row_14 mf_X10_outside ml_X10_104 st_X10_outside ⟨(Nat.le_of_ble_eq_true rfl), (Nat.le_of_ble_eq_true rfl)⟩ rfl rfl (Nat.le_of_ble_eq_true rfl)) rfl rfl rfl (Nat.zero_le _) (Nat.zero_le _) fun r3 h4 =>
    aw_callF (pc := 17) C (cr_S (rest := []) (F := (X10_first r1 r3)) C (c_X10_first X.2.1 r1 r3) dX10_row_17 mf_X10_first ml_X10_97 st_X10_first ⟨(Nat.le_of_ble_eq_true rfl), (Nat.le_of_ble_eq_true rfl)⟩ rfl rfl (Nat.le_of_ble_eq_true rfl)) rfl rfl rfl (Nat.zero_le _) (Nat.zero_le _) fun r5 h6 =>
    aw_istore_n (pc := 20) C (i := 2) (lv' := [(0, .ref 0), (1, .int v1), (2, .int r5)]) dX10_row_20 rfl (by decide) rfl <|
    aw_iload_n (pc := 21) C (i := 2) dX10_row_21 rfl rfl <|
    aw_if_eq (pc := 22) C (tgt := 31) dX10_row_22 rfl (fun _ =>
    aw_aload_n (pc := 31) C (i := 0) dX10_row_31 rfl rfl <|
    aw_getR (pc := 32) C (b := 3) dX10_row_32 fl_X10_19 sC_0 rfl rC_0_7 <|
    aw_aload_n (pc := 35) C (i := 0) dX10_row_35 rfl rfl <|
    aw_getI (pc := 36) C dX10_row_36 fl_X10_327 sC_0 rfl <|
    aw_iload_n (pc := 39) C (i := 1) dX10_row_39 rfl rfl <|
    aw_iast (pc := 40) C dX10_row_40 sC_3 rfl fun h7 =>
    aw_aload_n (pc := 41) C (i := 0) dX10_row_41 rfl rfl <|
    aw_dup (pc := 42) C dX10_row_42 rfl <|
    aw_getI (pc := 43) C dX10_row_43 fl_X10_327 sC_0 rfl <|
    aw_iconst (pc := 46) C (v := 1) dX10_row_46 rfl <|
    aw_iadd (pc := 47) C dX10_row_47 <|
    aw_putI (pc := 48) C dX10_row_48 fp_X10_327 sC_0 rfl fun h8 =>
    aw_aload_n (pc := 51) C (i := 0) dX10_row_51 rfl rfl <|
    aw_getI (pc := 52) C dX10_row_52 fl_X10_327 sC_0 rfl <|
    aw_iret (pc := 55) C dX10_row_55 rfl rfl) (fun _ =>
    aw_aload_n (pc := 25) C (i := 0) dX10_row_25 rfl rfl <|
    aw_iload_n (pc := 26) C (i := 2) dX10_row_26 rfl rfl <|
    aw_callF (pc := 27) C (cr_V (rest := []) (F := (X10_refuse r5)) C (c_X10_refuse X.2.1 r5) dX10_row_27 mf_X10_refuse ml_X10_111 im_X10_refuse se_X10_refuse sC_0 rfl ⟨(Nat.le_of_ble_eq_true rfl), (Nat.le_of_ble_eq_true rfl)⟩ rfl rfl (Nat.le_of_ble_eq_true rfl)) rfl rfl rfl (Nat.zero_le _) (Nat.zero_le _) fun r9 h10 =>
    aw_iret (pc := 30) C dX10_row_30 rfl rfl)

abbrev rmX10_judged : Room := { frames := 5, cells := 0, slots := 0, locals := 138 }
def X10_judged_j54  (v1 : Int32) (v2 : Int32) (K13 : Int32 → AH → Option (Int32 × AH)) (s0 : Int32) (h : AH) : Option (Int32 × AH) :=
    bd (X10_tryComes s0 h) fun r6 h7 =>
    if r6 = 0 then (some (v1, h7))
    else (bd (X5_leader 52 h7) fun r8 h9 =>
    if r8 = v2 then (vl (v1 + 1) fun x10 =>
    K13 x10 h9)
    else (some (v1, h9)))
set_option maxRecDepth 100000 in
theorem aX10_judged_j54 {X : MCx} {yd : Dyn} {A : Nat → Prop} (C : OK X cX10_judged RX10 4 (some .int) rmX10_judged A)  (v1 : Int32) (v2 : Int32) (K13 : Int32 → AH → Option (Int32 × AH)) (hK13 : ∀ (w1 : Int32) (h : AH), AW X 4 ZC yd A 0 0 (QF X rmX10_judged ZC yd rvI A) 13 [(0, .ref 0), (1, .int w1)] [] h (K13 w1 h)) (s0 : Int32) (h : AH) : AW X 4 ZC yd A 0 0 (QF X rmX10_judged ZC yd rvI A) 54 [(0, .ref 0), (1, .int v1), (2, .int v2)] [.int s0, .ref 0] h (X10_judged_j54 v1 v2 K13 s0 h) := by
    exact aw_callF (pc := 54) C (cr_V (rest := []) (F := (X10_tryComes s0)) C (c_X10_tryComes X.2.1 s0) dX10_judged_54 mf_X10_tryComes ml_X10_154 im_X10_tryComes se_X10_tryComes sC_0 rfl ⟨(Nat.le_of_ble_eq_true rfl), (Nat.le_of_ble_eq_true rfl)⟩ rfl rfl (Nat.le_of_ble_eq_true rfl)) rfl rfl rfl (Nat.zero_le _) (Nat.zero_le _) fun r6 h7 =>
    aw_if_eq (pc := 57) C (tgt := 75) dX10_judged_57 rfl (fun _ =>
    aw_iload_n (pc := 75) C (i := 1) dX10_judged_75 rfl rfl <|
    aw_iret (pc := 76) C dX10_judged_76 rfl rfl) (fun _ =>
    aw_aload_n (pc := 60) C (i := 0) dX10_judged_60 rfl rfl <|
    aw_getR (pc := 61) C (b := 52) dX10_judged_61 fl_X10_76 sC_0 rfl rC_0_2 <|
    aw_aload_n (pc := 64) C (i := 0) dX10_judged_64 rfl rfl <|
    aw_getR (pc := 65) C (b := 5) dX10_judged_65 fl_X10_28 sC_0 rfl rC_0_10 <|
    aw_callF (pc := 68) C (cr_V (rest := []) (F := (X5_leader 52)) C (c_X5_leader X.2.1 52 (Or.inr (Or.inl rfl))) dX10_judged_68 mf_X5_leader ml_X10_317 im_X5_leader se_X5_leader (mt_s (Or.inr (Or.inl rfl))) rfl ⟨(Nat.le_of_ble_eq_true rfl), (Nat.le_of_ble_eq_true rfl)⟩ rfl rfl (Nat.le_of_ble_eq_true rfl)) rfl rfl rfl (Nat.zero_le _) (Nat.zero_le _) fun r8 h9 =>
    aw_iload_n (pc := 71) C (i := 2) dX10_judged_71 rfl rfl <|
    aw_icmp_eq (pc := 72) C (tgt := 77) dX10_judged_72 rfl (fun _ =>
    aw_iincV (pc := 77) C (i := 1) (cst := 1) (fun x10 => [(0, .ref 0), (1, .int x10), (2, .int v2)]) dX10_judged_77 rfl rfl (by decide) (fun _ => rfl) fun x10 =>
    aw_goto (pc := 80) C (tgt := 13) dX10_judged_80 rfl <|
    aw_drop [0, 1] (hK13 x10 h9)) (fun _ =>
    aw_iload_n (pc := 75) C (i := 1) dX10_judged_75 rfl rfl <|
    aw_iret (pc := 76) C dX10_judged_76 rfl rfl))
def X10_judged_l13  : Nat → Int32 → AH → Option (Int32 × AH)
  | 0, _, _ => none
  | n + 1, v1, h =>
    if (h.1 0 8) ≤ v1 then (some ((-9), h))
    else (bd (X5_leader 52 h) fun r3 h4 =>
    ck v1 12 (vl ((h4.1 3 v1.toNatClampNeg) - 50) fun x5 =>
    if 0 ≤ x5 then (X10_judged_j54 v1 r3 (X10_judged_l13 n) x5 h4)
    else (X10_judged_j54 v1 r3 (X10_judged_l13 n) (-9) h4)))
set_option maxRecDepth 100000 in
theorem aX10_judged_l13 {X : MCx} {yd : Dyn} {A : Nat → Prop} (C : OK X cX10_judged RX10 4 (some .int) rmX10_judged A)  : ∀ (n : Nat) (v1 : Int32) (h : AH), AW X 4 ZC yd A 0 0 (QF X rmX10_judged ZC yd rvI A) 13 [(0, .ref 0), (1, .int v1)] [] h (X10_judged_l13 n v1 h) := by
  intro n
  induction n with
  | zero => intro v1 h; exact aw_none
  | succ n ih =>
    intro v1 h
    exact aw_iload_n (pc := 13) C (i := 1) dX10_judged_13 rfl rfl <|
    aw_aload_n (pc := 14) C (i := 0) dX10_judged_14 rfl rfl <|
    aw_getI (pc := 15) C dX10_judged_15 fl_X10_327 sC_0 rfl <|
    aw_icmp_ge (pc := 18) C (tgt := 83) dX10_judged_18 rfl (fun _ =>
    aw_bipush (pc := 83) C (v := (-9)) dX10_judged_83 rfl <|
    aw_iret (pc := 85) C dX10_judged_85 rfl rfl) (fun _ =>
    aw_aload_n (pc := 21) C (i := 0) dX10_judged_21 rfl rfl <|
    aw_getR (pc := 22) C (b := 52) dX10_judged_22 fl_X10_76 sC_0 rfl rC_0_2 <|
    aw_aload_n (pc := 25) C (i := 0) dX10_judged_25 rfl rfl <|
    aw_getR (pc := 26) C (b := 5) dX10_judged_26 fl_X10_28 sC_0 rfl rC_0_10 <|
    aw_callF (pc := 29) C (cr_V (rest := []) (F := (X5_leader 52)) C (c_X5_leader X.2.1 52 (Or.inr (Or.inl rfl))) dX10_judged_29 mf_X5_leader ml_X10_317 im_X5_leader se_X5_leader (mt_s (Or.inr (Or.inl rfl))) rfl ⟨(Nat.le_of_ble_eq_true rfl), (Nat.le_of_ble_eq_true rfl)⟩ rfl rfl (Nat.le_of_ble_eq_true rfl)) rfl rfl rfl (Nat.zero_le _) (Nat.zero_le _) fun r3 h4 =>
    aw_istore_n (pc := 32) C (i := 2) (lv' := [(0, .ref 0), (1, .int v1), (2, .int r3)]) dX10_judged_32 rfl (by decide) rfl <|
    aw_aload_n (pc := 33) C (i := 0) dX10_judged_33 rfl rfl <|
    aw_getR (pc := 34) C (b := 3) dX10_judged_34 fl_X10_19 sC_0 rfl rC_0_7 <|
    aw_iload_n (pc := 37) C (i := 1) dX10_judged_37 rfl rfl <|
    aw_iald (pc := 38) C dX10_judged_38 sC_3 rfl <|
    aw_bipush (pc := 39) C (v := 50) dX10_judged_39 rfl <|
    aw_isub (pc := 41) C dX10_judged_41 <|
    aw_istoreV_n (pc := 42) C (i := 3) (fun x5 => [(0, .ref 0), (1, .int v1), (2, .int r3), (3, .int x5)]) dX10_judged_42 rfl (by decide) (fun _ => rfl) fun x5 =>
    aw_aload_n (pc := 43) C (i := 0) dX10_judged_43 rfl rfl <|
    aw_iload_n (pc := 44) C (i := 3) dX10_judged_44 rfl rfl <|
    aw_if_ge (pc := 45) C (tgt := 53) dX10_judged_45 rfl (fun _ =>
    aw_iload_n (pc := 53) C (i := 3) dX10_judged_53 rfl rfl <|
    aw_drop [0, 1, 2] (aX10_judged_j54 C v1 r3 (X10_judged_l13 n) ih x5 h4)) (fun _ =>
    aw_bipush (pc := 48) C (v := (-9)) dX10_judged_48 rfl <|
    aw_goto (pc := 50) C (tgt := 54) dX10_judged_50 rfl <|
    aw_drop [0, 1, 2] (aX10_judged_j54 C v1 r3 (X10_judged_l13 n) ih (-9) h4)))
def X10_judged  (h : AH) : Option (Int32 × AH) :=
    bd (X5_copyFrom 52 42 h) fun _ h2 =>
    X10_judged_l13 FU 0 h2
set_option maxRecDepth 100000 in
theorem c_X10_judged (l : Launch)  : MC l yX10_judged cX10_judged 4 (some .int) rmX10_judged ZC [.ref 0] rvI (X10_judged) :=
  MC.of (own := RX10) (by decide +kernel) rfl (Nat.le_of_ble_eq_true rfl) fun X yd A h _ C =>
    aw_aload_n (pc := 0) C (i := 0) dX10_judged_0 rfl rfl <|
    aw_getR (pc := 1) C (b := 52) dX10_judged_1 fl_X10_76 sC_0 rfl rC_0_2 <|
    aw_aload_n (pc := 4) C (i := 0) dX10_judged_4 rfl rfl <|
    aw_getR (pc := 5) C (b := 42) dX10_judged_5 fl_X10_72 sC_0 rfl rC_0_1 <|
    aw_callF (pc := 8) C (cr_V (rest := []) (F := (X5_copyFrom 52 42)) C (c_X5_copyFrom X.2.1 52 (Or.inr (Or.inl rfl)) 42 (Or.inl rfl)) dX10_judged_8 mf_X5_copyFrom ml_X10_121 im_X5_copyFrom se_X5_copyFrom (mt_s (Or.inr (Or.inl rfl))) rfl ⟨(Nat.le_of_ble_eq_true rfl), (Nat.le_of_ble_eq_true rfl)⟩ rfl rfl (Nat.le_of_ble_eq_true rfl)) rfl rfl rfl (Nat.zero_le _) (Nat.zero_le _) fun _ h2 =>
    aw_iconst (pc := 11) C (v := 0) dX10_judged_11 rfl <|
    aw_istore_n (pc := 12) C (i := 1) (lv' := [(0, .ref 0), (1, .int 0)]) dX10_judged_12 rfl (by decide) rfl <|
    (aX10_judged_l13 C FU 0 h2)

abbrev rmX10_judge : Room := { frames := 6, cells := 0, slots := 0, locals := 161 }
def X10_judge  (h : AH) : Option (Int32 × AH) :=
    bd (X10_judged h) fun r1 h2 =>
    vl (sI h2 0 8 0) fun h3 =>
    some (r1, h3)
set_option maxRecDepth 100000 in
theorem c_X10_judge (l : Launch)  : MC l yX10_judge cX10_judge 2 (some .int) rmX10_judge ZC [.ref 0] rvI (X10_judge) :=
  MC.of (own := RX10) (by decide +kernel) rfl (Nat.le_of_ble_eq_true rfl) fun X yd A h _ C =>
    aw_aload_n (pc := 0) C (i := 0) dX10_judge_0 rfl rfl <|
    aw_callF (pc := 1) C (cr_V (rest := []) (F := X10_judged) C (c_X10_judged X.2.1 ) dX10_judge_1 mf_X10_judged ml_X10_342 im_X10_judged se_X10_judged sC_0 rfl ⟨(Nat.le_of_ble_eq_true rfl), (Nat.le_of_ble_eq_true rfl)⟩ rfl rfl (Nat.le_of_ble_eq_true rfl)) rfl rfl rfl (Nat.zero_le _) (Nat.zero_le _) fun r1 h2 =>
    aw_istore_n (pc := 4) C (i := 1) (lv' := [(0, .ref 0), (1, .int r1)]) dX10_judge_4 rfl (by decide) rfl <|
    aw_aload_n (pc := 5) C (i := 0) dX10_judge_5 rfl rfl <|
    aw_iconst (pc := 6) C (v := 0) dX10_judge_6 rfl <|
    aw_putI (pc := 7) C dX10_judge_7 fp_X10_327 sC_0 rfl fun h3 =>
    aw_iload_n (pc := 10) C (i := 1) dX10_judge_10 rfl rfl <|
    aw_iret (pc := 11) C dX10_judge_11 rfl rfl

abbrev rmX10_clear : Room := { frames := 0, cells := 0, slots := 0, locals := 0 }
def X10_clear  (h : AH) : Option (Int32 × AH) :=
    vl (h.1 0 8) fun x1 =>
    vl (sI h 0 8 0) fun h2 =>
    some (x1, h2)
set_option maxRecDepth 100000 in
theorem c_X10_clear (l : Launch)  : MC l yX10_clear cX10_clear 2 (some .int) rmX10_clear ZC [.ref 0] rvI (X10_clear) :=
  MC.of (own := RX10) (by decide +kernel) rfl (Nat.le_of_ble_eq_true rfl) fun X yd A h _ C =>
    aw_aload_n (pc := 0) C (i := 0) dX10_clear_0 rfl rfl <|
    aw_getI (pc := 1) C dX10_clear_1 fl_X10_327 sC_0 rfl <|
    aw_istoreV_n (pc := 4) C (i := 1) (fun x1 => [(0, .ref 0), (1, .int x1)]) dX10_clear_4 rfl (by decide) (fun _ => rfl) fun x1 =>
    aw_aload_n (pc := 5) C (i := 0) dX10_clear_5 rfl rfl <|
    aw_iconst (pc := 6) C (v := 0) dX10_clear_6 rfl <|
    aw_putI (pc := 7) C dX10_clear_7 fp_X10_327 sC_0 rfl fun h2 =>
    aw_iload_n (pc := 10) C (i := 1) dX10_clear_10 rfl rfl <|
    aw_iret (pc := 11) C dX10_clear_11 rfl rfl

abbrev rmX10_drawBelow : Room := { frames := 0, cells := 0, slots := 0, locals := 0 }
def X10_drawBelow (v1 : Int32) (h : AH) : Option (Int32 × AH) :=
    vl (sI h 0 17 (((h.1 0 17) * 1103515245) + 12345)) fun h1 =>
    if 0 < v1 then (if v1 = 0 then none else (some ((rm32 (((h1.1 0 17) &&& 2147483647) / 65536) v1), h1)))
    else (some (0, h1))
set_option maxRecDepth 100000 in
theorem c_X10_drawBelow (l : Launch) (v1 : Int32) : MC l yX10_drawBelow cX10_drawBelow 2 (some .int) rmX10_drawBelow ZC [.ref 0, .int v1] rvI (X10_drawBelow v1) :=
  MC.of (own := RX10) (by decide +kernel) rfl (Nat.le_of_ble_eq_true rfl) fun X yd A h _ C =>
    aw_aload_n (pc := 0) C (i := 0) dX10_drawBelow_0 rfl rfl <|
    aw_aload_n (pc := 1) C (i := 0) dX10_drawBelow_1 rfl rfl <|
    aw_getI (pc := 2) C dX10_drawBelow_2 fl_X10_345 sC_0 rfl <|
    aw_ldc_w (pc := 5) C (v := 1103515245) dX10_drawBelow_5 kc_X10_364 <|
    aw_imul (pc := 8) C dX10_drawBelow_8 <|
    aw_sipush (pc := 9) C (v := 12345) dX10_drawBelow_9 rfl <|
    aw_iadd (pc := 12) C dX10_drawBelow_12 <|
    aw_putI (pc := 13) C dX10_drawBelow_13 fp_X10_345 sC_0 rfl fun h1 =>
    aw_iload_n (pc := 16) C (i := 1) dX10_drawBelow_16 rfl rfl <|
    aw_if_gt (pc := 17) C (tgt := 24) dX10_drawBelow_17 rfl (fun _ =>
    aw_aload_n (pc := 24) C (i := 0) dX10_drawBelow_24 rfl rfl <|
    aw_getI (pc := 25) C dX10_drawBelow_25 fl_X10_345 sC_0 rfl <|
    aw_ldc_w (pc := 28) C (v := 2147483647) dX10_drawBelow_28 kc_X10_365 <|
    aw_iand (pc := 31) C dX10_drawBelow_31 <|
    aw_ldc_w (pc := 32) C (v := 65536) dX10_drawBelow_32 kc_X10_366 <|
    aw_idivK (pc := 35) C dX10_drawBelow_35 (by decide) <|
    aw_iload_n (pc := 36) C (i := 1) dX10_drawBelow_36 rfl rfl <|
    aw_irem (pc := 37) C dX10_drawBelow_37 <|
    aw_iret (pc := 38) C dX10_drawBelow_38 rfl rfl) (fun _ =>
    aw_iconst (pc := 20) C (v := 0) dX10_drawBelow_20 rfl <|
    aw_goto (pc := 21) C (tgt := 38) dX10_drawBelow_21 rfl <|
    aw_iret (pc := 38) C dX10_drawBelow_38 rfl rfl)

abbrev rmX10_runByDraws : Room := { frames := 4, cells := 0, slots := 0, locals := 99 }
def X10_runByDraws_j154  (v4 : Int32) (s0 : Int32) (s1 : Int32) (h : AH) : Option (Int32 × AH) :=
    bd (X5_record 52 s1 s0 v4 h) fun r7 h8 =>
    some (r7, h8)
set_option maxRecDepth 100000 in
theorem aX10_runByDraws_j154 {X : MCx} {yd : Dyn} {A : Nat → Prop} (C : OK X cX10_runByDraws RX10 7 (some .int) rmX10_runByDraws A)  (v4 : Int32) (s0 : Int32) (s1 : Int32) (h : AH) : AW X 7 ZC yd A 0 0 (QF X rmX10_runByDraws ZC yd rvI A) 154 [(4, .int v4)] [.int s0, .int s1, .ref 52] h (X10_runByDraws_j154 v4 s0 s1 h) := by
    exact aw_iload (pc := 154) C (i := 4) dX10_runByDraws_154 rfl <|
    aw_callF (pc := 156) C (cr_V (rest := []) (F := (X5_record 52 s1 s0 v4)) C (c_X5_record X.2.1 52 (Or.inr (Or.inl rfl)) s1 s0 v4) dX10_runByDraws_156 mf_X5_record ml_X10_205 im_X5_record se_X5_record (mt_s (Or.inr (Or.inl rfl))) rfl ⟨(Nat.le_of_ble_eq_true rfl), (Nat.le_of_ble_eq_true rfl)⟩ rfl rfl (Nat.le_of_ble_eq_true rfl)) rfl rfl rfl (Nat.zero_le _) (Nat.zero_le _) fun r7 h8 =>
    aw_iret (pc := 159) C dX10_runByDraws_159 rfl rfl
def X10_runByDraws_j131  (v1 : Int32) (v2 : Nat) (v4 : Int32) (v5 : Int32) (K39 : Int32 → Int32 → Int32 → AH → Option (Int32 × AH)) (s0 : Int32) (s1 : Int32) (h : AH) : Option (Int32 × AH) :=
    vl (s1 - s0) fun x11 =>
    vl (v5 + 1) fun x12 =>
    K39 x11 v4 x12 h
set_option maxRecDepth 100000 in
theorem aX10_runByDraws_j131 {X : MCx} {yd : Dyn} {A : Nat → Prop} (C : OK X cX10_runByDraws RX10 7 (some .int) rmX10_runByDraws A)  (v1 : Int32) (v2 : Nat) (hs2 : ZC.1[v2]? = some (.inr 2)) (v4 : Int32) (v5 : Int32) (K39 : Int32 → Int32 → Int32 → AH → Option (Int32 × AH)) (hK39 : ∀ (w3 : Int32) (w4 : Int32) (w5 : Int32) (h : AH), AW X 7 ZC yd A 0 0 (QF X rmX10_runByDraws ZC yd rvI A) 39 [(0, .ref 0), (1, .int v1), (2, .ref v2), (3, .int w3), (4, .int w4), (5, .int w5)] [] h (K39 w3 w4 w5 h)) (s0 : Int32) (s1 : Int32) (h : AH) : AW X 7 ZC yd A 0 0 (QF X rmX10_runByDraws ZC yd rvI A) 131 [(0, .ref 0), (1, .int v1), (2, .ref v2), (4, .int v4), (5, .int v5)] [.int s0, .int s1] h (X10_runByDraws_j131 v1 v2 v4 v5 K39 s0 s1 h) := by
    exact aw_isub (pc := 131) C dX10_runByDraws_131 <|
    aw_istoreV_n (pc := 132) C (i := 3) (fun x11 => [(0, .ref 0), (1, .int v1), (2, .ref v2), (3, .int x11), (4, .int v4), (5, .int v5)]) dX10_runByDraws_132 rfl (by decide) (fun _ => rfl) fun x11 =>
    aw_iincV (pc := 133) C (i := 5) (cst := 1) (fun x12 => [(0, .ref 0), (1, .int v1), (2, .ref v2), (3, .int x11), (4, .int v4), (5, .int x12)]) dX10_runByDraws_133 rfl rfl (by decide) (fun _ => rfl) fun x12 =>
    aw_goto (pc := 136) C (tgt := 39) dX10_runByDraws_136 rfl <|
    (hK39 x11 v4 x12 h)
def X10_runByDraws_j96  (v1 : Int32) (v2 : Nat) (v3 : Int32) (v4 : Int32) (v5 : Int32) (K39 : Int32 → Int32 → Int32 → AH → Option (Int32 × AH)) (h : AH) : Option (Int32 × AH) :=
    bd (X10_drawBelow 4 h) fun r9 h10 =>
    if r9 = 0 then (X10_runByDraws_j131 v1 v2 v4 v5 K39 (h10.1 v2 5) v3 h10)
    else (if r9 = 3 then (X10_runByDraws_j131 v1 v2 v4 v5 K39 (-(h10.1 v2 5)) v3 h10)
    else (X10_runByDraws_j131 v1 v2 v4 v5 K39 0 v3 h10))
set_option maxRecDepth 100000 in
theorem aX10_runByDraws_j96 {X : MCx} {yd : Dyn} {A : Nat → Prop} (C : OK X cX10_runByDraws RX10 7 (some .int) rmX10_runByDraws A)  (v1 : Int32) (v2 : Nat) (hs2 : ZC.1[v2]? = some (.inr 2)) (v3 : Int32) (v4 : Int32) (v5 : Int32) (K39 : Int32 → Int32 → Int32 → AH → Option (Int32 × AH)) (hK39 : ∀ (w3 : Int32) (w4 : Int32) (w5 : Int32) (h : AH), AW X 7 ZC yd A 0 0 (QF X rmX10_runByDraws ZC yd rvI A) 39 [(0, .ref 0), (1, .int v1), (2, .ref v2), (3, .int w3), (4, .int w4), (5, .int w5)] [] h (K39 w3 w4 w5 h)) (h : AH) : AW X 7 ZC yd A 0 0 (QF X rmX10_runByDraws ZC yd rvI A) 96 [(0, .ref 0), (1, .int v1), (2, .ref v2), (3, .int v3), (4, .int v4), (5, .int v5)] [] h (X10_runByDraws_j96 v1 v2 v3 v4 v5 K39 h) := by
    exact aw_aload_n (pc := 96) C (i := 0) dX10_runByDraws_96 rfl rfl <|
    aw_iconst (pc := 97) C (v := 4) dX10_runByDraws_97 rfl <|
    aw_callF (pc := 98) C (cr_V (rest := []) (F := (X10_drawBelow 4)) C (c_X10_drawBelow X.2.1 4) dX10_runByDraws_98 mf_X10_drawBelow ml_X10_361 im_X10_drawBelow se_X10_drawBelow sC_0 rfl ⟨(Nat.le_of_ble_eq_true rfl), (Nat.le_of_ble_eq_true rfl)⟩ rfl rfl (Nat.le_of_ble_eq_true rfl)) rfl rfl rfl (Nat.zero_le _) (Nat.zero_le _) fun r9 h10 =>
    aw_istore (pc := 101) C (i := 6) (lv' := [(0, .ref 0), (1, .int v1), (2, .ref v2), (3, .int v3), (4, .int v4), (5, .int v5), (6, .int r9)]) dX10_runByDraws_101 (by decide) rfl <|
    aw_iload_n (pc := 103) C (i := 3) dX10_runByDraws_103 rfl rfl <|
    aw_iload (pc := 104) C (i := 6) dX10_runByDraws_104 rfl <|
    aw_if_ne (pc := 106) C (tgt := 116) dX10_runByDraws_106 rfl (fun _ =>
    aw_aload_n (pc := 109) C (i := 2) dX10_runByDraws_109 rfl rfl <|
    aw_getI (pc := 110) C dX10_runByDraws_110 fl_X10_189 hs2 rfl <|
    aw_goto (pc := 113) C (tgt := 131) dX10_runByDraws_113 rfl <|
    aw_drop [0, 1, 2, 4, 5] (aX10_runByDraws_j131 C v1 v2 hs2 v4 v5 K39 hK39 (h10.1 v2 5) v3 h10)) (fun _ =>
    aw_iload (pc := 116) C (i := 6) dX10_runByDraws_116 rfl <|
    aw_iconst (pc := 118) C (v := 3) dX10_runByDraws_118 rfl <|
    aw_icmp_ne (pc := 119) C (tgt := 130) dX10_runByDraws_119 rfl (fun _ =>
    aw_aload_n (pc := 122) C (i := 2) dX10_runByDraws_122 rfl rfl <|
    aw_getI (pc := 123) C dX10_runByDraws_123 fl_X10_189 hs2 rfl <|
    aw_ineg (pc := 126) C dX10_runByDraws_126 <|
    aw_goto (pc := 127) C (tgt := 131) dX10_runByDraws_127 rfl <|
    aw_drop [0, 1, 2, 4, 5] (aX10_runByDraws_j131 C v1 v2 hs2 v4 v5 K39 hK39 (-(h10.1 v2 5)) v3 h10)) (fun _ =>
    aw_iconst (pc := 130) C (v := 0) dX10_runByDraws_130 rfl <|
    aw_drop [0, 1, 2, 4, 5] (aX10_runByDraws_j131 C v1 v2 hs2 v4 v5 K39 hK39 0 v3 h10)))
def X10_runByDraws_l39  (v1 : Int32) (v2 : Nat) : Nat → Int32 → Int32 → Int32 → AH → Option (Int32 × AH)
  | 0, _, _, _, _ => none
  | n + 1, v3, v4, v5, h =>
    if (h.1 52 0) ≤ v5 then (if 0 ≤ v3 then (X10_runByDraws_j154 v4 v3 v1 h)
    else (X10_runByDraws_j154 v4 (-9) v1 h))
    else (if ((h.1 52 0) - v5) = (h.1 v2 7) then (bd (kd (h.2.2 v2) (X3_aimOf v2 h) (X7_aimOf v2 h) (X0_aimOf v2 h) (X4_aimOf v2 h) (X0_aimOf v2 h) (X8_aimOf v2 h)) fun r13 h14 =>
    vl ((v3 - r13) / 2) fun x15 =>
    vl (v3 - x15) fun x16 =>
    vl ((ab32 x15) / 4) fun x17 =>
    X10_runByDraws_j96 v1 v2 x16 x17 v5 (X10_runByDraws_l39 v1 v2 n) h14)
    else (X10_runByDraws_j96 v1 v2 v3 v4 v5 (X10_runByDraws_l39 v1 v2 n) h))
set_option maxRecDepth 100000 in
theorem aX10_runByDraws_l39 {X : MCx} {yd : Dyn} {A : Nat → Prop} (C : OK X cX10_runByDraws RX10 7 (some .int) rmX10_runByDraws A)  (v1 : Int32) (v2 : Nat) (hs2 : ZC.1[v2]? = some (.inr 2)) : ∀ (n : Nat) (v3 : Int32) (v4 : Int32) (v5 : Int32) (h : AH), AW X 7 ZC yd A 0 0 (QF X rmX10_runByDraws ZC yd rvI A) 39 [(0, .ref 0), (1, .int v1), (2, .ref v2), (3, .int v3), (4, .int v4), (5, .int v5)] [] h (X10_runByDraws_l39 v1 v2 n v3 v4 v5 h) := by
  intro n
  induction n with
  | zero => intro v3 v4 v5 h; exact aw_none
  | succ n ih =>
    intro v3 v4 v5 h
    exact aw_iload (pc := 39) C (i := 5) dX10_runByDraws_39 rfl <|
    aw_aload_n (pc := 41) C (i := 0) dX10_runByDraws_41 rfl rfl <|
    aw_getR (pc := 42) C (b := 52) dX10_runByDraws_42 fl_X10_76 sC_0 rfl rC_0_2 <|
    aw_getI (pc := 45) C dX10_runByDraws_45 fl_X10_163 (mt_s (Or.inr (Or.inl rfl))) rfl <|
    aw_icmp_ge (pc := 48) C (tgt := 139) dX10_runByDraws_48 rfl (fun _ =>
    aw_aload_n (pc := 139) C (i := 0) dX10_runByDraws_139 rfl rfl <|
    aw_getR (pc := 140) C (b := 52) dX10_runByDraws_140 fl_X10_76 sC_0 rfl rC_0_2 <|
    aw_iload_n (pc := 143) C (i := 1) dX10_runByDraws_143 rfl rfl <|
    aw_iload_n (pc := 144) C (i := 3) dX10_runByDraws_144 rfl rfl <|
    aw_if_ge (pc := 145) C (tgt := 153) dX10_runByDraws_145 rfl (fun _ =>
    aw_iload_n (pc := 153) C (i := 3) dX10_runByDraws_153 rfl rfl <|
    aw_drop [4] (aX10_runByDraws_j154 C v4 v3 v1 h)) (fun _ =>
    aw_bipush (pc := 148) C (v := (-9)) dX10_runByDraws_148 rfl <|
    aw_goto (pc := 150) C (tgt := 154) dX10_runByDraws_150 rfl <|
    aw_drop [4] (aX10_runByDraws_j154 C v4 (-9) v1 h))) (fun _ =>
    aw_aload_n (pc := 51) C (i := 0) dX10_runByDraws_51 rfl rfl <|
    aw_getR (pc := 52) C (b := 52) dX10_runByDraws_52 fl_X10_76 sC_0 rfl rC_0_2 <|
    aw_getI (pc := 55) C dX10_runByDraws_55 fl_X10_163 (mt_s (Or.inr (Or.inl rfl))) rfl <|
    aw_iload (pc := 58) C (i := 5) dX10_runByDraws_58 rfl <|
    aw_isub (pc := 60) C dX10_runByDraws_60 <|
    aw_aload_n (pc := 61) C (i := 2) dX10_runByDraws_61 rfl rfl <|
    aw_getI (pc := 62) C dX10_runByDraws_62 fl_X10_195 hs2 rfl <|
    aw_icmp_ne (pc := 65) C (tgt := 96) dX10_runByDraws_65 rfl (fun _ =>
    aw_iload_n (pc := 68) C (i := 3) dX10_runByDraws_68 rfl rfl <|
    aw_aload_n (pc := 69) C (i := 2) dX10_runByDraws_69 rfl rfl <|
    aw_getW (pc := 70) C (b := (36 + h.2.2 v2 % 6)) dX10_runByDraws_70 fl_X10_173 hs2 rfl rfl <|
    aw_aload_n (pc := 73) C (i := 2) dX10_runByDraws_73 rfl rfl <|
    aw_callF (pc := 74) C (kdA_aimOf C dX10_runByDraws_74 ml_X10_354 (h.2.2 v2) v2 hs2  [.int v3] ⟨⟨(Nat.le_of_ble_eq_true rfl), (Nat.le_of_ble_eq_true rfl)⟩, ⟨(Nat.le_of_ble_eq_true rfl), (Nat.le_of_ble_eq_true rfl)⟩, ⟨(Nat.le_of_ble_eq_true rfl), (Nat.le_of_ble_eq_true rfl)⟩, ⟨(Nat.le_of_ble_eq_true rfl), (Nat.le_of_ble_eq_true rfl)⟩, ⟨(Nat.le_of_ble_eq_true rfl), (Nat.le_of_ble_eq_true rfl)⟩, ⟨(Nat.le_of_ble_eq_true rfl), (Nat.le_of_ble_eq_true rfl)⟩⟩ (Nat.le_of_ble_eq_true rfl)) rfl rfl rfl (Nat.zero_le _) (Nat.zero_le _) fun r13 h14 =>
    aw_isub (pc := 77) C dX10_runByDraws_77 <|
    aw_iconst (pc := 78) C (v := 2) dX10_runByDraws_78 rfl <|
    aw_idivK (pc := 79) C dX10_runByDraws_79 (by decide) <|
    aw_istoreV (pc := 80) C (i := 6) (fun x15 => [(0, .ref 0), (1, .int v1), (2, .ref v2), (3, .int v3), (4, .int v4), (5, .int v5), (6, .int x15)]) dX10_runByDraws_80 (by decide) (fun _ => rfl) fun x15 =>
    aw_iload_n (pc := 82) C (i := 3) dX10_runByDraws_82 rfl rfl <|
    aw_iload (pc := 83) C (i := 6) dX10_runByDraws_83 rfl <|
    aw_isub (pc := 85) C dX10_runByDraws_85 <|
    aw_istoreV_n (pc := 86) C (i := 3) (fun x16 => [(0, .ref 0), (1, .int v1), (2, .ref v2), (3, .int x16), (4, .int v4), (5, .int v5), (6, .int x15)]) dX10_runByDraws_86 rfl (by decide) (fun _ => rfl) fun x16 =>
    aw_iload (pc := 87) C (i := 6) dX10_runByDraws_87 rfl <|
    aw_mabs (pc := 89) C dX10_runByDraws_89 ml_X10_358 w_mabsS w_mI w_mabsC ⟨(Nat.le_of_ble_eq_true rfl), (Nat.le_of_ble_eq_true rfl)⟩ (Nat.zero_le _) (Nat.zero_le _) <|
    aw_iconst (pc := 92) C (v := 4) dX10_runByDraws_92 rfl <|
    aw_idivK (pc := 93) C dX10_runByDraws_93 (by decide) <|
    aw_istoreV (pc := 94) C (i := 4) (fun x17 => [(0, .ref 0), (1, .int v1), (2, .ref v2), (3, .int x16), (4, .int x17), (5, .int v5), (6, .int x15)]) dX10_runByDraws_94 (by decide) (fun _ => rfl) fun x17 =>
    aw_drop [0, 1, 2, 3, 4, 5] (aX10_runByDraws_j96 C v1 v2 hs2 x16 x17 v5 (X10_runByDraws_l39 v1 v2 n) ih h14)) (fun _ =>
    (aX10_runByDraws_j96 C v1 v2 hs2 v3 v4 v5 (X10_runByDraws_l39 v1 v2 n) ih h)))
def X10_runByDraws (v1 : Int32) (h : AH) : Option (Int32 × AH) :=
    bd (X5_at 52 v1 h) fun r1 h2 =>
    cs ZC r1 (.inr 2) (bd (X2_path r1 (h2.1 52 0) (h2.1 52 1) h2) fun r4 h5 =>
    vl ((h2.1 r1 8) - r4) fun x6 =>
    X10_runByDraws_l39 v1 r1 FU x6 0 0 h5)
set_option maxRecDepth 100000 in
theorem c_X10_runByDraws (l : Launch) (v1 : Int32) : MC l yX10_runByDraws cX10_runByDraws 7 (some .int) rmX10_runByDraws ZC [.ref 0, .int v1] rvI (X10_runByDraws v1) :=
  MC.of (own := RX10) (by decide +kernel) rfl (Nat.le_of_ble_eq_true rfl) fun X yd A h _ C =>
    aw_aload_n (pc := 0) C (i := 0) dX10_runByDraws_0 rfl rfl <|
    aw_getR (pc := 1) C (b := 52) dX10_runByDraws_1 fl_X10_76 sC_0 rfl rC_0_2 <|
    aw_iload_n (pc := 4) C (i := 1) dX10_runByDraws_4 rfl rfl <|
    aw_callF (pc := 5) C (cr_V (rest := []) (F := (X5_at 52 v1)) C (c_X5_at X.2.1 52 (Or.inr (Or.inl rfl)) v1) dX10_runByDraws_5 mf_X5_at ml_X10_169 im_X5_at se_X5_at (mt_s (Or.inr (Or.inl rfl))) rfl ⟨(Nat.le_of_ble_eq_true rfl), (Nat.le_of_ble_eq_true rfl)⟩ rfl rfl (Nat.le_of_ble_eq_true rfl)) rfl rfl rfl (Nat.zero_le _) (Nat.zero_le _) fun r1 h2 =>
    aw_cs fun hs3 =>
    aw_astore_n (pc := 8) C (i := 2) (lv' := [(0, .ref 0), (1, .int v1), (2, .ref r1)]) dX10_runByDraws_8 rfl (by decide) rfl <|
    aw_aload_n (pc := 9) C (i := 2) dX10_runByDraws_9 rfl rfl <|
    aw_getI (pc := 10) C dX10_runByDraws_10 fl_X10_198 hs3 rfl <|
    aw_aload_n (pc := 13) C (i := 2) dX10_runByDraws_13 rfl rfl <|
    aw_aload_n (pc := 14) C (i := 0) dX10_runByDraws_14 rfl rfl <|
    aw_getR (pc := 15) C (b := 52) dX10_runByDraws_15 fl_X10_76 sC_0 rfl rC_0_2 <|
    aw_getI (pc := 18) C dX10_runByDraws_18 fl_X10_163 (mt_s (Or.inr (Or.inl rfl))) rfl <|
    aw_aload_n (pc := 21) C (i := 0) dX10_runByDraws_21 rfl rfl <|
    aw_getR (pc := 22) C (b := 52) dX10_runByDraws_22 fl_X10_76 sC_0 rfl rC_0_2 <|
    aw_getI (pc := 25) C dX10_runByDraws_25 fl_X10_157 (mt_s (Or.inr (Or.inl rfl))) rfl <|
    aw_callF (pc := 28) C (cr_V (rest := [.int (h2.1 r1 8)]) (F := (X2_path r1 (h2.1 52 0) (h2.1 52 1))) C (c_X2_path X.2.1 r1 hs3 (h2.1 52 0) (h2.1 52 1)) dX10_runByDraws_28 mf_X2_path ml_X10_232 im_X2_path se_X2_path hs3 rfl ⟨(Nat.le_of_ble_eq_true rfl), (Nat.le_of_ble_eq_true rfl)⟩ rfl rfl (Nat.le_of_ble_eq_true rfl)) rfl rfl rfl (Nat.zero_le _) (Nat.zero_le _) fun r4 h5 =>
    aw_isub (pc := 31) C dX10_runByDraws_31 <|
    aw_istoreV_n (pc := 32) C (i := 3) (fun x6 => [(0, .ref 0), (1, .int v1), (2, .ref r1), (3, .int x6)]) dX10_runByDraws_32 rfl (by decide) (fun _ => rfl) fun x6 =>
    aw_iconst (pc := 33) C (v := 0) dX10_runByDraws_33 rfl <|
    aw_istore (pc := 34) C (i := 4) (lv' := [(0, .ref 0), (1, .int v1), (2, .ref r1), (3, .int x6), (4, .int 0)]) dX10_runByDraws_34 (by decide) rfl <|
    aw_iconst (pc := 36) C (v := 0) dX10_runByDraws_36 rfl <|
    aw_istore (pc := 37) C (i := 5) (lv' := [(0, .ref 0), (1, .int v1), (2, .ref r1), (3, .int x6), (4, .int 0), (5, .int 0)]) dX10_runByDraws_37 (by decide) rfl <|
    (aX10_runByDraws_l39 C v1 r1 hs3 FU x6 0 0 h5)

abbrev rmX10_playToTheEnd : Room := { frames := 5, cells := 0, slots := 0, locals := 125 }
def X10_playToTheEnd_j55  (v1 : Int32) (v3 : Int32) (K4 : Int32 → Int32 → AH → Option (Int32 × AH)) (s0 : Int32) (s1 : Int32) (h : AH) : Option (Int32 × AH) :=
    vl (s1 + s0) fun x6 =>
    vl (v3 + 1) fun x7 =>
    K4 x6 x7 h
set_option maxRecDepth 100000 in
theorem aX10_playToTheEnd_j55 {X : MCx} {yd : Dyn} {A : Nat → Prop} (C : OK X cX10_playToTheEnd RX10 6 (some .int) rmX10_playToTheEnd A)  (v1 : Int32) (v3 : Int32) (K4 : Int32 → Int32 → AH → Option (Int32 × AH)) (hK4 : ∀ (w2 : Int32) (w3 : Int32) (h : AH), AW X 6 ZC yd A 0 0 (QF X rmX10_playToTheEnd ZC yd rvI A) 4 [(0, .ref 0), (1, .int v1), (2, .int w2), (3, .int w3)] [] h (K4 w2 w3 h)) (s0 : Int32) (s1 : Int32) (h : AH) : AW X 6 ZC yd A 0 0 (QF X rmX10_playToTheEnd ZC yd rvI A) 55 [(0, .ref 0), (1, .int v1), (3, .int v3)] [.int s0, .int s1] h (X10_playToTheEnd_j55 v1 v3 K4 s0 s1 h) := by
    exact aw_iadd (pc := 55) C dX10_playToTheEnd_55 <|
    aw_istoreV_n (pc := 56) C (i := 2) (fun x6 => [(0, .ref 0), (1, .int v1), (2, .int x6), (3, .int v3)]) dX10_playToTheEnd_56 rfl (by decide) (fun _ => rfl) fun x6 =>
    aw_iincV (pc := 57) C (i := 3) (cst := 1) (fun x7 => [(0, .ref 0), (1, .int v1), (2, .int x6), (3, .int x7)]) dX10_playToTheEnd_57 rfl rfl (by decide) (fun _ => rfl) fun x7 =>
    aw_goto (pc := 60) C (tgt := 4) dX10_playToTheEnd_60 rfl <|
    (hK4 x6 x7 h)
def X10_playToTheEnd_l4  (v1 : Int32) : Nat → Int32 → Int32 → AH → Option (Int32 × AH)
  | 0, _, _, _ => none
  | n + 1, v2, v3, h =>
    if 24 ≤ v3 then (some (v2, h))
    else (bd (X5_inTurn 52 h) fun r1 h2 =>
    if 0 ≤ r1 then (bd (X10_runByDraws r1 h2) fun r3 h4 =>
    vl (mx32 0 r3) fun x5 =>
    if r1 = v1 then (X10_playToTheEnd_j55 v1 v3 (X10_playToTheEnd_l4 v1 n) x5 v2 h4)
    else (X10_playToTheEnd_j55 v1 v3 (X10_playToTheEnd_l4 v1 n) 0 v2 h4))
    else (some (v2, h2)))
set_option maxRecDepth 100000 in
theorem aX10_playToTheEnd_l4 {X : MCx} {yd : Dyn} {A : Nat → Prop} (C : OK X cX10_playToTheEnd RX10 6 (some .int) rmX10_playToTheEnd A)  (v1 : Int32) : ∀ (n : Nat) (v2 : Int32) (v3 : Int32) (h : AH), AW X 6 ZC yd A 0 0 (QF X rmX10_playToTheEnd ZC yd rvI A) 4 [(0, .ref 0), (1, .int v1), (2, .int v2), (3, .int v3)] [] h (X10_playToTheEnd_l4 v1 n v2 v3 h) := by
  intro n
  induction n with
  | zero => intro v2 v3 h; exact aw_none
  | succ n ih =>
    intro v2 v3 h
    exact aw_iload_n (pc := 4) C (i := 3) dX10_playToTheEnd_4 rfl rfl <|
    aw_bipush (pc := 5) C (v := 24) dX10_playToTheEnd_5 rfl <|
    aw_icmp_ge (pc := 7) C (tgt := 63) dX10_playToTheEnd_7 rfl (fun _ =>
    aw_iload_n (pc := 63) C (i := 2) dX10_playToTheEnd_63 rfl rfl <|
    aw_iret (pc := 64) C dX10_playToTheEnd_64 rfl rfl) (fun _ =>
    aw_aload_n (pc := 10) C (i := 0) dX10_playToTheEnd_10 rfl rfl <|
    aw_getR (pc := 11) C (b := 52) dX10_playToTheEnd_11 fl_X10_76 sC_0 rfl rC_0_2 <|
    aw_aload_n (pc := 14) C (i := 0) dX10_playToTheEnd_14 rfl rfl <|
    aw_getR (pc := 15) C (b := 5) dX10_playToTheEnd_15 fl_X10_28 sC_0 rfl rC_0_10 <|
    aw_callF (pc := 18) C (cr_V (rest := []) (F := (X5_inTurn 52)) C (c_X5_inTurn X.2.1 52 (Or.inr (Or.inl rfl))) dX10_playToTheEnd_18 mf_X5_inTurn ml_X10_201 im_X5_inTurn se_X5_inTurn (mt_s (Or.inr (Or.inl rfl))) rfl ⟨(Nat.le_of_ble_eq_true rfl), (Nat.le_of_ble_eq_true rfl)⟩ rfl rfl (Nat.le_of_ble_eq_true rfl)) rfl rfl rfl (Nat.zero_le _) (Nat.zero_le _) fun r1 h2 =>
    aw_istore (pc := 21) C (i := 4) (lv' := [(0, .ref 0), (1, .int v1), (2, .int v2), (3, .int v3), (4, .int r1)]) dX10_playToTheEnd_21 (by decide) rfl <|
    aw_iload (pc := 23) C (i := 4) dX10_playToTheEnd_23 rfl <|
    aw_if_ge (pc := 25) C (tgt := 30) dX10_playToTheEnd_25 rfl (fun _ =>
    aw_iconst (pc := 30) C (v := 0) dX10_playToTheEnd_30 rfl <|
    aw_aload_n (pc := 31) C (i := 0) dX10_playToTheEnd_31 rfl rfl <|
    aw_iload (pc := 32) C (i := 4) dX10_playToTheEnd_32 rfl <|
    aw_callF (pc := 34) C (cr_V (rest := [.int 0]) (F := (X10_runByDraws r1)) C (c_X10_runByDraws X.2.1 r1) dX10_playToTheEnd_34 mf_X10_runByDraws ml_X10_351 im_X10_runByDraws se_X10_runByDraws sC_0 rfl ⟨(Nat.le_of_ble_eq_true rfl), (Nat.le_of_ble_eq_true rfl)⟩ rfl rfl (Nat.le_of_ble_eq_true rfl)) rfl rfl rfl (Nat.zero_le _) (Nat.zero_le _) fun r3 h4 =>
    aw_mmax (pc := 37) C dX10_playToTheEnd_37 ml_X10_286 w_mmaxS w_mI w_mmaxC ⟨(Nat.le_of_ble_eq_true rfl), (Nat.le_of_ble_eq_true rfl)⟩ (Nat.zero_le _) (Nat.zero_le _) <|
    aw_istoreV (pc := 40) C (i := 5) (fun x5 => [(0, .ref 0), (1, .int v1), (2, .int v2), (3, .int v3), (4, .int r1), (5, .int x5)]) dX10_playToTheEnd_40 (by decide) (fun _ => rfl) fun x5 =>
    aw_iload_n (pc := 42) C (i := 2) dX10_playToTheEnd_42 rfl rfl <|
    aw_iload (pc := 43) C (i := 4) dX10_playToTheEnd_43 rfl <|
    aw_iload_n (pc := 45) C (i := 1) dX10_playToTheEnd_45 rfl rfl <|
    aw_icmp_ne (pc := 46) C (tgt := 54) dX10_playToTheEnd_46 rfl (fun _ =>
    aw_iload (pc := 49) C (i := 5) dX10_playToTheEnd_49 rfl <|
    aw_goto (pc := 51) C (tgt := 55) dX10_playToTheEnd_51 rfl <|
    aw_drop [0, 1, 3] (aX10_playToTheEnd_j55 C v1 v3 (X10_playToTheEnd_l4 v1 n) ih x5 v2 h4)) (fun _ =>
    aw_iconst (pc := 54) C (v := 0) dX10_playToTheEnd_54 rfl <|
    aw_drop [0, 1, 3] (aX10_playToTheEnd_j55 C v1 v3 (X10_playToTheEnd_l4 v1 n) ih 0 v2 h4))) (fun _ =>
    aw_iload_n (pc := 28) C (i := 2) dX10_playToTheEnd_28 rfl rfl <|
    aw_iret (pc := 29) C dX10_playToTheEnd_29 rfl rfl))
def X10_playToTheEnd (v1 : Int32) (h : AH) : Option (Int32 × AH) :=
    X10_playToTheEnd_l4 v1 FU 0 0 h
set_option maxRecDepth 100000 in
theorem c_X10_playToTheEnd (l : Launch) (v1 : Int32) : MC l yX10_playToTheEnd cX10_playToTheEnd 6 (some .int) rmX10_playToTheEnd ZC [.ref 0, .int v1] rvI (X10_playToTheEnd v1) :=
  MC.of (own := RX10) (by decide +kernel) rfl (Nat.le_of_ble_eq_true rfl) fun X yd A h _ C =>
    aw_iconst (pc := 0) C (v := 0) dX10_playToTheEnd_0 rfl <|
    aw_istore_n (pc := 1) C (i := 2) (lv' := [(0, .ref 0), (1, .int v1), (2, .int 0)]) dX10_playToTheEnd_1 rfl (by decide) rfl <|
    aw_iconst (pc := 2) C (v := 0) dX10_playToTheEnd_2 rfl <|
    aw_istore_n (pc := 3) C (i := 3) (lv' := [(0, .ref 0), (1, .int v1), (2, .int 0), (3, .int 0)]) dX10_playToTheEnd_3 rfl (by decide) rfl <|
    (aX10_playToTheEnd_l4 C v1 FU 0 0 h)

abbrev rmX10_seeds : Room := { frames := 6, cells := 0, slots := 0, locals := 150 }
def X10_seeds_j101  (v1 : Int32) (v2 : Int32) (v4 : Int32) (v7 : Int32) (v8 : Int32) (K52 : Int32 → Int32 → Int32 → AH → Option (Int32 × AH)) (s0 : Int32) (s1 : Int32) (h : AH) : Option (Int32 × AH) :=
    vl (s1 + s0) fun x19 =>
    vl (v8 + 1) fun x20 =>
    K52 x19 v7 x20 h
set_option maxRecDepth 100000 in
theorem aX10_seeds_j101 {X : MCx} {yd : Dyn} {A : Nat → Prop} (C : OK X cX10_seeds RX10 9 (some .int) rmX10_seeds A)  (v1 : Int32) (v2 : Int32) (v4 : Int32) (v7 : Int32) (v8 : Int32) (K52 : Int32 → Int32 → Int32 → AH → Option (Int32 × AH)) (hK52 : ∀ (w6 : Int32) (w7 : Int32) (w8 : Int32) (h : AH), AW X 9 ZC yd A 0 0 (QF X rmX10_seeds ZC yd rvI A) 52 [(0, .ref 0), (1, .int v1), (2, .int v2), (4, .int v4), (6, .int w6), (7, .int w7), (8, .int w8)] [] h (K52 w6 w7 w8 h)) (s0 : Int32) (s1 : Int32) (h : AH) : AW X 9 ZC yd A 0 0 (QF X rmX10_seeds ZC yd rvI A) 101 [(0, .ref 0), (1, .int v1), (2, .int v2), (4, .int v4), (7, .int v7), (8, .int v8)] [.int s0, .int s1] h (X10_seeds_j101 v1 v2 v4 v7 v8 K52 s0 s1 h) := by
    exact aw_iadd (pc := 101) C dX10_seeds_101 <|
    aw_istoreV (pc := 102) C (i := 6) (fun x19 => [(0, .ref 0), (1, .int v1), (2, .int v2), (4, .int v4), (6, .int x19), (7, .int v7), (8, .int v8)]) dX10_seeds_102 (by decide) (fun _ => rfl) fun x19 =>
    aw_iincV (pc := 104) C (i := 8) (cst := 1) (fun x20 => [(0, .ref 0), (1, .int v1), (2, .int v2), (4, .int v4), (6, .int x19), (7, .int v7), (8, .int x20)]) dX10_seeds_104 rfl rfl (by decide) (fun _ => rfl) fun x20 =>
    aw_goto (pc := 107) C (tgt := 52) dX10_seeds_107 rfl <|
    (hK52 x19 v7 x20 h)
def X10_seeds_l52  (v1 : Int32) (v2 : Int32) (v4 : Int32) : Nat → Int32 → Int32 → Int32 → AH → Option (Int32 × AH)
  | 0, _, _, _, _ => none
  | n + 1, v6, v7, v8, h =>
    if v2 ≤ v8 then (if v4 = 0 then (some (v6, h))
    else (some (v7, h)))
    else (bd (X5_copyFrom 52 42 h) fun _ h13 =>
    bd (X10_playToTheEnd v1 h13) fun r14 h15 =>
    vl (v7 + r14) fun x16 =>
    bd (X5_leader 52 h15) fun r17 h18 =>
    if r17 = v1 then (X10_seeds_j101 v1 v2 v4 x16 v8 (X10_seeds_l52 v1 v2 v4 n) 1 v6 h18)
    else (X10_seeds_j101 v1 v2 v4 x16 v8 (X10_seeds_l52 v1 v2 v4 n) 0 v6 h18))
set_option maxRecDepth 100000 in
theorem aX10_seeds_l52 {X : MCx} {yd : Dyn} {A : Nat → Prop} (C : OK X cX10_seeds RX10 9 (some .int) rmX10_seeds A)  (v1 : Int32) (v2 : Int32) (v4 : Int32) : ∀ (n : Nat) (v6 : Int32) (v7 : Int32) (v8 : Int32) (h : AH), AW X 9 ZC yd A 0 0 (QF X rmX10_seeds ZC yd rvI A) 52 [(0, .ref 0), (1, .int v1), (2, .int v2), (4, .int v4), (6, .int v6), (7, .int v7), (8, .int v8)] [] h (X10_seeds_l52 v1 v2 v4 n v6 v7 v8 h) := by
  intro n
  induction n with
  | zero => intro v6 v7 v8 h; exact aw_none
  | succ n ih =>
    intro v6 v7 v8 h
    exact aw_iload (pc := 52) C (i := 8) dX10_seeds_52 rfl <|
    aw_iload_n (pc := 54) C (i := 2) dX10_seeds_54 rfl rfl <|
    aw_icmp_ge (pc := 55) C (tgt := 110) dX10_seeds_55 rfl (fun _ =>
    aw_iload (pc := 110) C (i := 4) dX10_seeds_110 rfl <|
    aw_if_ne (pc := 112) C (tgt := 120) dX10_seeds_112 rfl (fun _ =>
    aw_iload (pc := 115) C (i := 6) dX10_seeds_115 rfl <|
    aw_goto (pc := 117) C (tgt := 122) dX10_seeds_117 rfl <|
    aw_iret (pc := 122) C dX10_seeds_122 rfl rfl) (fun _ =>
    aw_iload (pc := 120) C (i := 7) dX10_seeds_120 rfl <|
    aw_iret (pc := 122) C dX10_seeds_122 rfl rfl)) (fun _ =>
    aw_aload_n (pc := 58) C (i := 0) dX10_seeds_58 rfl rfl <|
    aw_getR (pc := 59) C (b := 52) dX10_seeds_59 fl_X10_76 sC_0 rfl rC_0_2 <|
    aw_aload_n (pc := 62) C (i := 0) dX10_seeds_62 rfl rfl <|
    aw_getR (pc := 63) C (b := 42) dX10_seeds_63 fl_X10_72 sC_0 rfl rC_0_1 <|
    aw_callF (pc := 66) C (cr_V (rest := []) (F := (X5_copyFrom 52 42)) C (c_X5_copyFrom X.2.1 52 (Or.inr (Or.inl rfl)) 42 (Or.inl rfl)) dX10_seeds_66 mf_X5_copyFrom ml_X10_121 im_X5_copyFrom se_X5_copyFrom (mt_s (Or.inr (Or.inl rfl))) rfl ⟨(Nat.le_of_ble_eq_true rfl), (Nat.le_of_ble_eq_true rfl)⟩ rfl rfl (Nat.le_of_ble_eq_true rfl)) rfl rfl rfl (Nat.zero_le _) (Nat.zero_le _) fun _ h13 =>
    aw_iload (pc := 69) C (i := 7) dX10_seeds_69 rfl <|
    aw_aload_n (pc := 71) C (i := 0) dX10_seeds_71 rfl rfl <|
    aw_iload_n (pc := 72) C (i := 1) dX10_seeds_72 rfl rfl <|
    aw_callF (pc := 73) C (cr_V (rest := [.int v7]) (F := (X10_playToTheEnd v1)) C (c_X10_playToTheEnd X.2.1 v1) dX10_seeds_73 mf_X10_playToTheEnd ml_X10_348 im_X10_playToTheEnd se_X10_playToTheEnd sC_0 rfl ⟨(Nat.le_of_ble_eq_true rfl), (Nat.le_of_ble_eq_true rfl)⟩ rfl rfl (Nat.le_of_ble_eq_true rfl)) rfl rfl rfl (Nat.zero_le _) (Nat.zero_le _) fun r14 h15 =>
    aw_iadd (pc := 76) C dX10_seeds_76 <|
    aw_istoreV (pc := 77) C (i := 7) (fun x16 => [(0, .ref 0), (1, .int v1), (2, .int v2), (4, .int v4), (6, .int v6), (7, .int x16), (8, .int v8)]) dX10_seeds_77 (by decide) (fun _ => rfl) fun x16 =>
    aw_iload (pc := 79) C (i := 6) dX10_seeds_79 rfl <|
    aw_aload_n (pc := 81) C (i := 0) dX10_seeds_81 rfl rfl <|
    aw_getR (pc := 82) C (b := 52) dX10_seeds_82 fl_X10_76 sC_0 rfl rC_0_2 <|
    aw_aload_n (pc := 85) C (i := 0) dX10_seeds_85 rfl rfl <|
    aw_getR (pc := 86) C (b := 5) dX10_seeds_86 fl_X10_28 sC_0 rfl rC_0_10 <|
    aw_callF (pc := 89) C (cr_V (rest := [.int v6]) (F := (X5_leader 52)) C (c_X5_leader X.2.1 52 (Or.inr (Or.inl rfl))) dX10_seeds_89 mf_X5_leader ml_X10_317 im_X5_leader se_X5_leader (mt_s (Or.inr (Or.inl rfl))) rfl ⟨(Nat.le_of_ble_eq_true rfl), (Nat.le_of_ble_eq_true rfl)⟩ rfl rfl (Nat.le_of_ble_eq_true rfl)) rfl rfl rfl (Nat.zero_le _) (Nat.zero_le _) fun r17 h18 =>
    aw_iload_n (pc := 92) C (i := 1) dX10_seeds_92 rfl rfl <|
    aw_icmp_ne (pc := 93) C (tgt := 100) dX10_seeds_93 rfl (fun _ =>
    aw_iconst (pc := 96) C (v := 1) dX10_seeds_96 rfl <|
    aw_goto (pc := 97) C (tgt := 101) dX10_seeds_97 rfl <|
    aw_drop [0, 1, 2, 3, 5, 6] (aX10_seeds_j101 C v1 v2 v4 x16 v8 (X10_seeds_l52 v1 v2 v4 n) ih 1 v6 h18)) (fun _ =>
    aw_iconst (pc := 100) C (v := 0) dX10_seeds_100 rfl <|
    aw_drop [0, 1, 2, 3, 5, 6] (aX10_seeds_j101 C v1 v2 v4 x16 v8 (X10_seeds_l52 v1 v2 v4 n) ih 0 v6 h18)))
def X10_seeds (v1 : Int32) (v2 : Int32) (v3 : Int32) (v4 : Int32) (h : AH) : Option (Int32 × AH) :=
    bd (X10_nobody v1 h) fun r1 h2 =>
    bd (X10_outside v2 1 20 h2) fun r3 h4 =>
    bd (X10_first r1 r3 h4) fun r5 h6 =>
    bd (X10_noSuch v4 1 h6) fun r7 h8 =>
    bd (X10_first r5 r7 h8) fun r9 h10 =>
    if r9 = 0 then (vl (sI h10 0 17 v3) fun h11 =>
    X10_seeds_l52 v1 v2 v4 FU 0 0 0 h11)
    else (bd (X10_refuse r9 h10) fun r21 h22 =>
    some (r21, h22))
set_option maxRecDepth 100000 in
theorem c_X10_seeds (l : Launch) (v1 : Int32) (v2 : Int32) (v3 : Int32) (v4 : Int32) : MC l yX10_seeds cX10_seeds 9 (some .int) rmX10_seeds ZC [.ref 0, .int v1, .int v2, .int v3, .int v4] rvI (X10_seeds v1 v2 v3 v4) :=
  MC.of (own := RX10) (by decide +kernel) rfl (Nat.le_of_ble_eq_true rfl) fun X yd A h _ C =>
    aw_aload_n (pc := 0) C (i := 0) dX10_seeds_0 rfl rfl <|
    aw_iload_n (pc := 1) C (i := 1) dX10_seeds_1 rfl rfl <|
    aw_callF (pc := 2) C (cr_V (rest := []) (F := (X10_nobody v1)) C (c_X10_nobody X.2.1 v1) dX10_seeds_2 mf_X10_nobody ml_X10_93 im_X10_nobody se_X10_nobody sC_0 rfl ⟨(Nat.le_of_ble_eq_true rfl), (Nat.le_of_ble_eq_true rfl)⟩ rfl rfl (Nat.le_of_ble_eq_true rfl)) rfl rfl rfl (Nat.zero_le _) (Nat.zero_le _) fun r1 h2 =>
    aw_iload_n (pc := 5) C (i := 2) dX10_seeds_5 rfl rfl <|
    aw_iconst (pc := 6) C (v := 1) dX10_seeds_6 rfl <|
    aw_bipush (pc := 7) C (v := 20) dX10_seeds_7 rfl <|
    aw_callF (pc := 9) C (cr_S (rest := [.int r1]) (F := (X10_outside v2 1 20)) C (c_X10_outside X.2.1 v2 1 20) dX10_seeds_9 mf_X10_outside ml_X10_104 st_X10_outside ⟨(Nat.le_of_ble_eq_true rfl), (Nat.le_of_ble_eq_true rfl)⟩ rfl rfl (Nat.le_of_ble_eq_true rfl)) rfl rfl rfl (Nat.zero_le _) (Nat.zero_le _) fun r3 h4 =>
    aw_callF (pc := 12) C (cr_S (rest := []) (F := (X10_first r1 r3)) C (c_X10_first X.2.1 r1 r3) dX10_seeds_12 mf_X10_first ml_X10_97 st_X10_first ⟨(Nat.le_of_ble_eq_true rfl), (Nat.le_of_ble_eq_true rfl)⟩ rfl rfl (Nat.le_of_ble_eq_true rfl)) rfl rfl rfl (Nat.zero_le _) (Nat.zero_le _) fun r5 h6 =>
    aw_iload (pc := 15) C (i := 4) dX10_seeds_15 rfl <|
    aw_iconst (pc := 17) C (v := 1) dX10_seeds_17 rfl <|
    aw_callF (pc := 18) C (cr_S (rest := [.int r5]) (F := (X10_noSuch v4 1)) C (c_X10_noSuch X.2.1 v4 1) dX10_seeds_18 mf_X10_noSuch ml_X10_101 st_X10_noSuch ⟨(Nat.le_of_ble_eq_true rfl), (Nat.le_of_ble_eq_true rfl)⟩ rfl rfl (Nat.le_of_ble_eq_true rfl)) rfl rfl rfl (Nat.zero_le _) (Nat.zero_le _) fun r7 h8 =>
    aw_callF (pc := 21) C (cr_S (rest := []) (F := (X10_first r5 r7)) C (c_X10_first X.2.1 r5 r7) dX10_seeds_21 mf_X10_first ml_X10_97 st_X10_first ⟨(Nat.le_of_ble_eq_true rfl), (Nat.le_of_ble_eq_true rfl)⟩ rfl rfl (Nat.le_of_ble_eq_true rfl)) rfl rfl rfl (Nat.zero_le _) (Nat.zero_le _) fun r9 h10 =>
    aw_istore (pc := 24) C (i := 5) (lv' := [(0, .ref 0), (1, .int v1), (2, .int v2), (3, .int v3), (4, .int v4), (5, .int r9)]) dX10_seeds_24 (by decide) rfl <|
    aw_iload (pc := 26) C (i := 5) dX10_seeds_26 rfl <|
    aw_if_eq (pc := 28) C (tgt := 38) dX10_seeds_28 rfl (fun _ =>
    aw_aload_n (pc := 38) C (i := 0) dX10_seeds_38 rfl rfl <|
    aw_iload_n (pc := 39) C (i := 3) dX10_seeds_39 rfl rfl <|
    aw_putI (pc := 40) C dX10_seeds_40 fp_X10_345 sC_0 rfl fun h11 =>
    aw_iconst (pc := 43) C (v := 0) dX10_seeds_43 rfl <|
    aw_istore (pc := 44) C (i := 6) (lv' := [(0, .ref 0), (1, .int v1), (2, .int v2), (3, .int v3), (4, .int v4), (5, .int r9), (6, .int 0)]) dX10_seeds_44 (by decide) rfl <|
    aw_iconst (pc := 46) C (v := 0) dX10_seeds_46 rfl <|
    aw_istore (pc := 47) C (i := 7) (lv' := [(0, .ref 0), (1, .int v1), (2, .int v2), (3, .int v3), (4, .int v4), (5, .int r9), (6, .int 0), (7, .int 0)]) dX10_seeds_47 (by decide) rfl <|
    aw_iconst (pc := 49) C (v := 0) dX10_seeds_49 rfl <|
    aw_istore (pc := 50) C (i := 8) (lv' := [(0, .ref 0), (1, .int v1), (2, .int v2), (3, .int v3), (4, .int v4), (5, .int r9), (6, .int 0), (7, .int 0), (8, .int 0)]) dX10_seeds_50 (by decide) rfl <|
    aw_drop [0, 1, 2, 4, 6, 7, 8] (aX10_seeds_l52 C v1 v2 v4 FU 0 0 0 h11)) (fun _ =>
    aw_aload_n (pc := 31) C (i := 0) dX10_seeds_31 rfl rfl <|
    aw_iload (pc := 32) C (i := 5) dX10_seeds_32 rfl <|
    aw_callF (pc := 34) C (cr_V (rest := []) (F := (X10_refuse r9)) C (c_X10_refuse X.2.1 r9) dX10_seeds_34 mf_X10_refuse ml_X10_111 im_X10_refuse se_X10_refuse sC_0 rfl ⟨(Nat.le_of_ble_eq_true rfl), (Nat.le_of_ble_eq_true rfl)⟩ rfl rfl (Nat.le_of_ble_eq_true rfl)) rfl rfl rfl (Nat.zero_le _) (Nat.zero_le _) fun r21 h22 =>
    aw_iret (pc := 37) C dX10_seeds_37 rfl rfl)

abbrev rmX10_parts : Room := { frames := 6, cells := 0, slots := 0, locals := 158 }
def X10_parts (v1 : Int32) (v2 : Int32) (h : AH) : Option (Int32 × AH) :=
    bd (X10_nobody v1 h) fun r1 h2 =>
    bd (X10_outside v2 0 999 h2) fun r3 h4 =>
    bd (X10_first r1 r3 h4) fun r5 h6 =>
    if r5 = 0 then (bd (X10_spreadNow v1 0 h6) fun _ h8 =>
    ck v2 1000 (bd (X1_share (h8.2.1 31 v2.toNatClampNeg) h8) fun r9 h10 =>
    some (r9, h10)))
    else (bd (X10_refuse r5 h6) fun r11 h12 =>
    some (r11, h12))
set_option maxRecDepth 100000 in
theorem c_X10_parts (l : Launch) (v1 : Int32) (v2 : Int32) : MC l yX10_parts cX10_parts 4 (some .int) rmX10_parts ZC [.ref 0, .int v1, .int v2] rvI (X10_parts v1 v2) :=
  MC.of (own := RX10) (by decide +kernel) rfl (Nat.le_of_ble_eq_true rfl) fun X yd A h _ C =>
    aw_aload_n (pc := 0) C (i := 0) dX10_parts_0 rfl rfl <|
    aw_iload_n (pc := 1) C (i := 1) dX10_parts_1 rfl rfl <|
    aw_callF (pc := 2) C (cr_V (rest := []) (F := (X10_nobody v1)) C (c_X10_nobody X.2.1 v1) dX10_parts_2 mf_X10_nobody ml_X10_93 im_X10_nobody se_X10_nobody sC_0 rfl ⟨(Nat.le_of_ble_eq_true rfl), (Nat.le_of_ble_eq_true rfl)⟩ rfl rfl (Nat.le_of_ble_eq_true rfl)) rfl rfl rfl (Nat.zero_le _) (Nat.zero_le _) fun r1 h2 =>
    aw_iload_n (pc := 5) C (i := 2) dX10_parts_5 rfl rfl <|
    aw_iconst (pc := 6) C (v := 0) dX10_parts_6 rfl <|
    aw_sipush (pc := 7) C (v := 999) dX10_parts_7 rfl <|
    aw_callF (pc := 10) C (cr_S (rest := [.int r1]) (F := (X10_outside v2 0 999)) C (c_X10_outside X.2.1 v2 0 999) dX10_parts_10 mf_X10_outside ml_X10_104 st_X10_outside ⟨(Nat.le_of_ble_eq_true rfl), (Nat.le_of_ble_eq_true rfl)⟩ rfl rfl (Nat.le_of_ble_eq_true rfl)) rfl rfl rfl (Nat.zero_le _) (Nat.zero_le _) fun r3 h4 =>
    aw_callF (pc := 13) C (cr_S (rest := []) (F := (X10_first r1 r3)) C (c_X10_first X.2.1 r1 r3) dX10_parts_13 mf_X10_first ml_X10_97 st_X10_first ⟨(Nat.le_of_ble_eq_true rfl), (Nat.le_of_ble_eq_true rfl)⟩ rfl rfl (Nat.le_of_ble_eq_true rfl)) rfl rfl rfl (Nat.zero_le _) (Nat.zero_le _) fun r5 h6 =>
    aw_istore_n (pc := 16) C (i := 3) (lv' := [(0, .ref 0), (1, .int v1), (2, .int v2), (3, .int r5)]) dX10_parts_16 rfl (by decide) rfl <|
    aw_iload_n (pc := 17) C (i := 3) dX10_parts_17 rfl rfl <|
    aw_if_eq (pc := 18) C (tgt := 27) dX10_parts_18 rfl (fun _ =>
    aw_aload_n (pc := 27) C (i := 0) dX10_parts_27 rfl rfl <|
    aw_iload_n (pc := 28) C (i := 1) dX10_parts_28 rfl rfl <|
    aw_iconst (pc := 29) C (v := 0) dX10_parts_29 rfl <|
    aw_callF (pc := 30) C (cr_V (rest := []) (F := (X10_spreadNow v1 0)) C (c_X10_spreadNow X.2.1 v1 0) dX10_parts_30 mf_X10_spreadNow ml_X10_251 im_X10_spreadNow se_X10_spreadNow sC_0 rfl ⟨(Nat.le_of_ble_eq_true rfl), (Nat.le_of_ble_eq_true rfl)⟩ rfl rfl (Nat.le_of_ble_eq_true rfl)) rfl rfl rfl (Nat.zero_le _) (Nat.zero_le _) fun _ h8 =>
    aw_aload_n (pc := 33) C (i := 0) dX10_parts_33 rfl rfl <|
    aw_getR (pc := 34) C (b := 8) dX10_parts_34 fl_X10_35 sC_0 rfl rC_0_11 <|
    aw_aload_n (pc := 37) C (i := 0) dX10_parts_37 rfl rfl <|
    aw_getR (pc := 38) C (b := 8) dX10_parts_38 fl_X10_35 sC_0 rfl rC_0_11 <|
    aw_getR (pc := 41) C (b := 31) dX10_parts_41 fl_X10_367 sC_8 rfl rC_8_1 <|
    aw_iload_n (pc := 44) C (i := 2) dX10_parts_44 rfl rfl <|
    aw_lald (pc := 45) C dX10_parts_45 sC_31 rfl <|
    aw_callF (pc := 46) C (cr_V (rest := []) (F := (X1_share (h8.2.1 31 v2.toNatClampNeg))) C (c_X1_share X.2.1 (h8.2.1 31 v2.toNatClampNeg)) dX10_parts_46 mf_X1_share ml_X10_320 im_X1_share se_X1_share sC_8 rfl ⟨(Nat.le_of_ble_eq_true rfl), (Nat.le_of_ble_eq_true rfl)⟩ rfl rfl (Nat.le_of_ble_eq_true rfl)) rfl rfl rfl (Nat.zero_le _) (Nat.zero_le _) fun r9 h10 =>
    aw_iret (pc := 49) C dX10_parts_49 rfl rfl) (fun _ =>
    aw_aload_n (pc := 21) C (i := 0) dX10_parts_21 rfl rfl <|
    aw_iload_n (pc := 22) C (i := 3) dX10_parts_22 rfl rfl <|
    aw_callF (pc := 23) C (cr_V (rest := []) (F := (X10_refuse r5)) C (c_X10_refuse X.2.1 r5) dX10_parts_23 mf_X10_refuse ml_X10_111 im_X10_refuse se_X10_refuse sC_0 rfl ⟨(Nat.le_of_ble_eq_true rfl), (Nat.le_of_ble_eq_true rfl)⟩ rfl rfl (Nat.le_of_ble_eq_true rfl)) rfl rfl rfl (Nat.zero_le _) (Nat.zero_le _) fun r11 h12 =>
    aw_iret (pc := 26) C dX10_parts_26 rfl rfl)

abbrev rmX10_fillParts : Room := { frames := 5, cells := 0, slots := 0, locals := 136 }
def X10_fillParts_l34 (p1 : Nat) (n1 : Nat) : Nat → Int32 → AH → Option (Unit × AH)
  | 0, _, _ => none
  | n + 1, v4, h =>
    if (Int32.ofNat n1) ≤ v4 then (some ((), h))
    else (if 999 < v4 then (some ((), h))
    else (ck v4 1000 (bd (X1_share (h.2.1 31 v4.toNatClampNeg) h) fun r6 h7 =>
    ck v4 n1 (vl (sI h7 p1 v4.toNatClampNeg r6) fun h8 =>
    vl (v4 + 1) fun x9 =>
    (X10_fillParts_l34 p1 n1 n) x9 h8))))
set_option maxRecDepth 100000 in
theorem aX10_fillParts_l34 {X : MCx} {yd : Dyn} {A : Nat → Prop} (C : OK X cX10_fillParts RX10 5 none rmX10_fillParts A) (p1 : Nat) (n1 : Nat) (hA1 : ZC.1[p1]? = some (.inl (0, 0, n1))) : ∀ (n : Nat) (v4 : Int32) (h : AH), AW X 5 ZC yd A 0 0 (QF X rmX10_fillParts ZC yd rvV A) 34 [(0, .ref 0), (1, .ref p1), (4, .int v4)] [] h (X10_fillParts_l34 p1 n1 n v4 h) := by
  intro n
  induction n with
  | zero => intro v4 h; exact aw_none
  | succ n ih =>
    intro v4 h
    exact aw_iload (pc := 34) C (i := 4) dX10_fillParts_34 rfl <|
    aw_aload_n (pc := 36) C (i := 1) dX10_fillParts_36 rfl rfl <|
    aw_alenI (pc := 37) C (v := (Int32.ofNat n1)) (by decide) dX10_fillParts_37 hA1 rfl rfl <|
    aw_icmp_ge (pc := 38) C (tgt := 76) dX10_fillParts_38 rfl (fun _ =>
    aw_vret (pc := 76) C dX10_fillParts_76 rfl rfl) (fun _ =>
    aw_iload (pc := 41) C (i := 4) dX10_fillParts_41 rfl <|
    aw_sipush (pc := 43) C (v := 999) dX10_fillParts_43 rfl <|
    aw_icmp_gt (pc := 46) C (tgt := 76) dX10_fillParts_46 rfl (fun _ =>
    aw_vret (pc := 76) C dX10_fillParts_76 rfl rfl) (fun _ =>
    aw_aload_n (pc := 49) C (i := 1) dX10_fillParts_49 rfl rfl <|
    aw_iload (pc := 50) C (i := 4) dX10_fillParts_50 rfl <|
    aw_aload_n (pc := 52) C (i := 0) dX10_fillParts_52 rfl rfl <|
    aw_getR (pc := 53) C (b := 8) dX10_fillParts_53 fl_X10_35 sC_0 rfl rC_0_11 <|
    aw_aload_n (pc := 56) C (i := 0) dX10_fillParts_56 rfl rfl <|
    aw_getR (pc := 57) C (b := 8) dX10_fillParts_57 fl_X10_35 sC_0 rfl rC_0_11 <|
    aw_getR (pc := 60) C (b := 31) dX10_fillParts_60 fl_X10_367 sC_8 rfl rC_8_1 <|
    aw_iload (pc := 63) C (i := 4) dX10_fillParts_63 rfl <|
    aw_lald (pc := 65) C dX10_fillParts_65 sC_31 rfl <|
    aw_callF (pc := 66) C (cr_V (rest := [.int v4, .ref p1]) (F := (X1_share (h.2.1 31 v4.toNatClampNeg))) C (c_X1_share X.2.1 (h.2.1 31 v4.toNatClampNeg)) dX10_fillParts_66 mf_X1_share ml_X10_320 im_X1_share se_X1_share sC_8 rfl ⟨(Nat.le_of_ble_eq_true rfl), (Nat.le_of_ble_eq_true rfl)⟩ rfl rfl (Nat.le_of_ble_eq_true rfl)) rfl rfl rfl (Nat.zero_le _) (Nat.zero_le _) fun r6 h7 =>
    aw_iast (pc := 69) C dX10_fillParts_69 hA1 rfl fun h8 =>
    aw_iincV (pc := 70) C (i := 4) (cst := 1) (fun x9 => [(0, .ref 0), (1, .ref p1), (4, .int x9)]) dX10_fillParts_70 rfl rfl (by decide) (fun _ => rfl) fun x9 =>
    aw_goto (pc := 73) C (tgt := 34) dX10_fillParts_73 rfl <|
    (ih x9 h8)))
def X10_fillParts (p1 : Nat) (n1 : Nat) (v2 : Int32) (v3 : Int32) (h : AH) : Option (Unit × AH) :=
    bd (X5_at 42 v2 h) fun r1 h2 =>
    cs ZC r1 (.inr 2) (bd (X1_spread r1 (h2.1 42 0) (h2.1 42 1) v3 0 h2) fun _ h5 =>
    X10_fillParts_l34 p1 n1 FU 0 h5)
set_option maxRecDepth 100000 in
theorem c_X10_fillParts (l : Launch) (p1 : Nat) (n1 : Nat) (hA1 : ZC.1[p1]? = some (.inl (0, 0, n1))) (v2 : Int32) (v3 : Int32) : MC l yX10_fillParts cX10_fillParts 5 none rmX10_fillParts ZC [.ref 0, .ref p1, .int v2, .int v3] rvV (X10_fillParts p1 n1 v2 v3) :=
  MC.of (own := RX10) (by decide +kernel) rfl (Nat.le_of_ble_eq_true rfl) fun X yd A h _ C =>
    aw_aload_n (pc := 0) C (i := 0) dX10_fillParts_0 rfl rfl <|
    aw_getR (pc := 1) C (b := 8) dX10_fillParts_1 fl_X10_35 sC_0 rfl rC_0_11 <|
    aw_aload_n (pc := 4) C (i := 0) dX10_fillParts_4 rfl rfl <|
    aw_getR (pc := 5) C (b := 42) dX10_fillParts_5 fl_X10_72 sC_0 rfl rC_0_1 <|
    aw_iload_n (pc := 8) C (i := 2) dX10_fillParts_8 rfl rfl <|
    aw_callF (pc := 9) C (cr_V (rest := [.ref 8]) (F := (X5_at 42 v2)) C (c_X5_at X.2.1 42 (Or.inl rfl) v2) dX10_fillParts_9 mf_X5_at ml_X10_169 im_X5_at se_X5_at (mt_s (Or.inl rfl)) rfl ⟨(Nat.le_of_ble_eq_true rfl), (Nat.le_of_ble_eq_true rfl)⟩ rfl rfl (Nat.le_of_ble_eq_true rfl)) rfl rfl rfl (Nat.zero_le _) (Nat.zero_le _) fun r1 h2 =>
    aw_cs fun hs3 =>
    aw_aload_n (pc := 12) C (i := 0) dX10_fillParts_12 rfl rfl <|
    aw_getR (pc := 13) C (b := 42) dX10_fillParts_13 fl_X10_72 sC_0 rfl rC_0_1 <|
    aw_getI (pc := 16) C dX10_fillParts_16 fl_X10_163 (mt_s (Or.inl rfl)) rfl <|
    aw_aload_n (pc := 19) C (i := 0) dX10_fillParts_19 rfl rfl <|
    aw_getR (pc := 20) C (b := 42) dX10_fillParts_20 fl_X10_72 sC_0 rfl rC_0_1 <|
    aw_getI (pc := 23) C dX10_fillParts_23 fl_X10_157 (mt_s (Or.inl rfl)) rfl <|
    aw_iload_n (pc := 26) C (i := 3) dX10_fillParts_26 rfl rfl <|
    aw_iconst (pc := 27) C (v := 0) dX10_fillParts_27 rfl <|
    aw_callF (pc := 28) C (cr_V (rest := []) (F := (X1_spread r1 (h2.1 42 0) (h2.1 42 1) v3 0)) C (c_X1_spread X.2.1 r1 hs3 (h2.1 42 0) (h2.1 42 1) v3 0) dX10_fillParts_28 mf_X1_spread ml_X10_242 im_X1_spread se_X1_spread sC_8 rfl ⟨(Nat.le_of_ble_eq_true rfl), (Nat.le_of_ble_eq_true rfl)⟩ rfl rfl (Nat.le_of_ble_eq_true rfl)) rfl rfl rfl (Nat.zero_le _) (Nat.zero_le _) fun _ h5 =>
    aw_iconst (pc := 31) C (v := 0) dX10_fillParts_31 rfl <|
    aw_istore (pc := 32) C (i := 4) (lv' := [(0, .ref 0), (1, .ref p1), (2, .int v2), (3, .int v3), (4, .int 0)]) dX10_fillParts_32 (by decide) rfl <|
    aw_drop [0, 1, 4] (aX10_fillParts_l34 C p1 n1 hA1 FU 0 h5)

abbrev rmX10_moreByParts : Room := { frames := 0, cells := 0, slots := 0, locals := 0 }
def X10_moreByParts_l7  : Nat → Int64 → Int64 → Int32 → AH → Option (Int32 × AH)
  | 0, _, _, _, _ => none
  | n + 1, v1, v3, v5, h =>
    if 999 < v5 then (some ((v1 / 10000).toInt32, h))
    else (ck v5 1000 (vl (v1 + (((h.1 32 v5.toNatClampNeg).toInt64) * v3)) fun x1 =>
    ck v5 1000 (vl (v3 + ((h.1 33 v5.toNatClampNeg).toInt64)) fun x2 =>
    vl (v5 + 1) fun x3 =>
    (X10_moreByParts_l7 n) x1 x2 x3 h)))
set_option maxRecDepth 100000 in
theorem aX10_moreByParts_l7 {X : MCx} {yd : Dyn} {A : Nat → Prop} (C : OK X cX10_moreByParts RX10 6 (some .int) rmX10_moreByParts A)  : ∀ (n : Nat) (v1 : Int64) (v3 : Int64) (v5 : Int32) (h : AH), AW X 6 ZC yd A 0 0 (QF X rmX10_moreByParts ZC yd rvI A) 7 [(0, .ref 0), (1, .long v1), (3, .long v3), (5, .int v5)] [] h (X10_moreByParts_l7 n v1 v3 v5 h) := by
  intro n
  induction n with
  | zero => intro v1 v3 v5 h; exact aw_none
  | succ n ih =>
    intro v1 v3 v5 h
    exact aw_iload (pc := 7) C (i := 5) dX10_moreByParts_7 rfl <|
    aw_sipush (pc := 9) C (v := 999) dX10_moreByParts_9 rfl <|
    aw_icmp_gt (pc := 12) C (tgt := 45) dX10_moreByParts_12 rfl (fun _ =>
    aw_lload_n (pc := 45) C (i := 1) dX10_moreByParts_45 rfl rfl <|
    aw_ldc2_w (pc := 46) C (v := 10000) dX10_moreByParts_46 kc_X10_371 <|
    aw_ldivK (pc := 49) C dX10_moreByParts_49 (by decide) <|
    aw_l2i (pc := 50) C dX10_moreByParts_50 <|
    aw_iret (pc := 51) C dX10_moreByParts_51 rfl rfl) (fun _ =>
    aw_lload_n (pc := 15) C (i := 1) dX10_moreByParts_15 rfl rfl <|
    aw_aload_n (pc := 16) C (i := 0) dX10_moreByParts_16 rfl rfl <|
    aw_getR (pc := 17) C (b := 32) dX10_moreByParts_17 fl_X10_39 sC_0 rfl rC_0_13 <|
    aw_iload (pc := 20) C (i := 5) dX10_moreByParts_20 rfl <|
    aw_iald (pc := 22) C dX10_moreByParts_22 sC_32 rfl <|
    aw_i2l (pc := 23) C dX10_moreByParts_23 <|
    aw_lload_n (pc := 24) C (i := 3) dX10_moreByParts_24 rfl rfl <|
    aw_lmul (pc := 25) C dX10_moreByParts_25 <|
    aw_ladd (pc := 26) C dX10_moreByParts_26 <|
    aw_lstoreV_n (pc := 27) C (i := 1) (fun x1 => [(0, .ref 0), (1, .long x1), (3, .long v3), (5, .int v5)]) dX10_moreByParts_27 rfl (by decide) (fun _ => rfl) fun x1 =>
    aw_lload_n (pc := 28) C (i := 3) dX10_moreByParts_28 rfl rfl <|
    aw_aload_n (pc := 29) C (i := 0) dX10_moreByParts_29 rfl rfl <|
    aw_getR (pc := 30) C (b := 33) dX10_moreByParts_30 fl_X10_42 sC_0 rfl rC_0_14 <|
    aw_iload (pc := 33) C (i := 5) dX10_moreByParts_33 rfl <|
    aw_iald (pc := 35) C dX10_moreByParts_35 sC_33 rfl <|
    aw_i2l (pc := 36) C dX10_moreByParts_36 <|
    aw_ladd (pc := 37) C dX10_moreByParts_37 <|
    aw_lstoreV_n (pc := 38) C (i := 3) (fun x2 => [(0, .ref 0), (1, .long x1), (3, .long x2), (5, .int v5)]) dX10_moreByParts_38 rfl (by decide) (fun _ => rfl) fun x2 =>
    aw_iincV (pc := 39) C (i := 5) (cst := 1) (fun x3 => [(0, .ref 0), (1, .long x1), (3, .long x2), (5, .int x3)]) dX10_moreByParts_39 rfl rfl (by decide) (fun _ => rfl) fun x3 =>
    aw_goto (pc := 42) C (tgt := 7) dX10_moreByParts_42 rfl <|
    (ih x1 x2 x3 h))
def X10_moreByParts  (h : AH) : Option (Int32 × AH) :=
    X10_moreByParts_l7 FU 0 0 0 h
set_option maxRecDepth 100000 in
theorem c_X10_moreByParts (l : Launch)  : MC l yX10_moreByParts cX10_moreByParts 6 (some .int) rmX10_moreByParts ZC [.ref 0] rvI (X10_moreByParts) :=
  MC.of (own := RX10) (by decide +kernel) rfl (Nat.le_of_ble_eq_true rfl) fun X yd A h _ C =>
    aw_lconst (pc := 0) C (v := 0) dX10_moreByParts_0 rfl <|
    aw_lstore_n (pc := 1) C (i := 1) (lv' := [(0, .ref 0), (1, .long 0)]) dX10_moreByParts_1 rfl (by decide) rfl <|
    aw_lconst (pc := 2) C (v := 0) dX10_moreByParts_2 rfl <|
    aw_lstore_n (pc := 3) C (i := 3) (lv' := [(0, .ref 0), (1, .long 0), (3, .long 0)]) dX10_moreByParts_3 rfl (by decide) rfl <|
    aw_iconst (pc := 4) C (v := 0) dX10_moreByParts_4 rfl <|
    aw_istore (pc := 5) C (i := 5) (lv' := [(0, .ref 0), (1, .long 0), (3, .long 0), (5, .int 0)]) dX10_moreByParts_5 (by decide) rfl <|
    (aX10_moreByParts_l7 C FU 0 0 0 h)

abbrev rmX10_more : Room := { frames := 6, cells := 0, slots := 0, locals := 160 }
def X10_more (v1 : Int32) (v2 : Int32) (h : AH) : Option (Int32 × AH) :=
    bd (X10_nobodyOfTwo v1 v2 h) fun r1 h2 =>
    if r1 = 0 then (bd (X10_placeOf v1 h2) fun r3 h4 =>
    bd (X10_fillParts 32 1000 v1 r3 h4) fun _ h6 =>
    bd (X10_placeOf v2 h6) fun r7 h8 =>
    bd (X10_fillParts 33 1000 v2 r7 h8) fun _ h10 =>
    bd (X10_moreByParts h10) fun r11 h12 =>
    some (r11, h12))
    else (bd (X10_refuse r1 h2) fun r13 h14 =>
    some (r13, h14))
set_option maxRecDepth 100000 in
theorem c_X10_more (l : Launch) (v1 : Int32) (v2 : Int32) : MC l yX10_more cX10_more 4 (some .int) rmX10_more ZC [.ref 0, .int v1, .int v2] rvI (X10_more v1 v2) :=
  MC.of (own := RX10) (by decide +kernel) rfl (Nat.le_of_ble_eq_true rfl) fun X yd A h _ C =>
    aw_aload_n (pc := 0) C (i := 0) dX10_more_0 rfl rfl <|
    aw_iload_n (pc := 1) C (i := 1) dX10_more_1 rfl rfl <|
    aw_iload_n (pc := 2) C (i := 2) dX10_more_2 rfl rfl <|
    aw_callF (pc := 3) C (cr_V (rest := []) (F := (X10_nobodyOfTwo v1 v2)) C (c_X10_nobodyOfTwo X.2.1 v1 v2) dX10_more_3 mf_X10_nobodyOfTwo ml_X10_373 im_X10_nobodyOfTwo se_X10_nobodyOfTwo sC_0 rfl ⟨(Nat.le_of_ble_eq_true rfl), (Nat.le_of_ble_eq_true rfl)⟩ rfl rfl (Nat.le_of_ble_eq_true rfl)) rfl rfl rfl (Nat.zero_le _) (Nat.zero_le _) fun r1 h2 =>
    aw_istore_n (pc := 6) C (i := 3) (lv' := [(0, .ref 0), (1, .int v1), (2, .int v2), (3, .int r1)]) dX10_more_6 rfl (by decide) rfl <|
    aw_iload_n (pc := 7) C (i := 3) dX10_more_7 rfl rfl <|
    aw_if_eq (pc := 8) C (tgt := 17) dX10_more_8 rfl (fun _ =>
    aw_aload_n (pc := 17) C (i := 0) dX10_more_17 rfl rfl <|
    aw_aload_n (pc := 18) C (i := 0) dX10_more_18 rfl rfl <|
    aw_getR (pc := 19) C (b := 32) dX10_more_19 fl_X10_39 sC_0 rfl rC_0_13 <|
    aw_iload_n (pc := 22) C (i := 1) dX10_more_22 rfl rfl <|
    aw_aload_n (pc := 23) C (i := 0) dX10_more_23 rfl rfl <|
    aw_iload_n (pc := 24) C (i := 1) dX10_more_24 rfl rfl <|
    aw_callF (pc := 25) C (cr_V (rest := [.int v1, .ref 32, .ref 0]) (F := (X10_placeOf v1)) C (c_X10_placeOf X.2.1 v1) dX10_more_25 mf_X10_placeOf ml_X10_229 im_X10_placeOf se_X10_placeOf sC_0 rfl ⟨(Nat.le_of_ble_eq_true rfl), (Nat.le_of_ble_eq_true rfl)⟩ rfl rfl (Nat.le_of_ble_eq_true rfl)) rfl rfl rfl (Nat.zero_le _) (Nat.zero_le _) fun r3 h4 =>
    aw_callF (pc := 28) C (cr_V (rest := []) (F := (X10_fillParts 32 1000 v1 r3)) C (c_X10_fillParts X.2.1 32 1000 sC_32 v1 r3) dX10_more_28 mf_X10_fillParts ml_X10_376 im_X10_fillParts se_X10_fillParts sC_0 rfl ⟨(Nat.le_of_ble_eq_true rfl), (Nat.le_of_ble_eq_true rfl)⟩ rfl rfl (Nat.le_of_ble_eq_true rfl)) rfl rfl rfl (Nat.zero_le _) (Nat.zero_le _) fun _ h6 =>
    aw_aload_n (pc := 31) C (i := 0) dX10_more_31 rfl rfl <|
    aw_aload_n (pc := 32) C (i := 0) dX10_more_32 rfl rfl <|
    aw_getR (pc := 33) C (b := 33) dX10_more_33 fl_X10_42 sC_0 rfl rC_0_14 <|
    aw_iload_n (pc := 36) C (i := 2) dX10_more_36 rfl rfl <|
    aw_aload_n (pc := 37) C (i := 0) dX10_more_37 rfl rfl <|
    aw_iload_n (pc := 38) C (i := 2) dX10_more_38 rfl rfl <|
    aw_callF (pc := 39) C (cr_V (rest := [.int v2, .ref 33, .ref 0]) (F := (X10_placeOf v2)) C (c_X10_placeOf X.2.1 v2) dX10_more_39 mf_X10_placeOf ml_X10_229 im_X10_placeOf se_X10_placeOf sC_0 rfl ⟨(Nat.le_of_ble_eq_true rfl), (Nat.le_of_ble_eq_true rfl)⟩ rfl rfl (Nat.le_of_ble_eq_true rfl)) rfl rfl rfl (Nat.zero_le _) (Nat.zero_le _) fun r7 h8 =>
    aw_callF (pc := 42) C (cr_V (rest := []) (F := (X10_fillParts 33 1000 v2 r7)) C (c_X10_fillParts X.2.1 33 1000 sC_33 v2 r7) dX10_more_42 mf_X10_fillParts ml_X10_376 im_X10_fillParts se_X10_fillParts sC_0 rfl ⟨(Nat.le_of_ble_eq_true rfl), (Nat.le_of_ble_eq_true rfl)⟩ rfl rfl (Nat.le_of_ble_eq_true rfl)) rfl rfl rfl (Nat.zero_le _) (Nat.zero_le _) fun _ h10 =>
    aw_aload_n (pc := 45) C (i := 0) dX10_more_45 rfl rfl <|
    aw_callF (pc := 46) C (cr_V (rest := []) (F := X10_moreByParts) C (c_X10_moreByParts X.2.1 ) dX10_more_46 mf_X10_moreByParts ml_X10_380 im_X10_moreByParts se_X10_moreByParts sC_0 rfl ⟨(Nat.le_of_ble_eq_true rfl), (Nat.le_of_ble_eq_true rfl)⟩ rfl rfl (Nat.le_of_ble_eq_true rfl)) rfl rfl rfl (Nat.zero_le _) (Nat.zero_le _) fun r11 h12 =>
    aw_iret (pc := 49) C dX10_more_49 rfl rfl) (fun _ =>
    aw_aload_n (pc := 11) C (i := 0) dX10_more_11 rfl rfl <|
    aw_iload_n (pc := 12) C (i := 3) dX10_more_12 rfl rfl <|
    aw_callF (pc := 13) C (cr_V (rest := []) (F := (X10_refuse r1)) C (c_X10_refuse X.2.1 r1) dX10_more_13 mf_X10_refuse ml_X10_111 im_X10_refuse se_X10_refuse sC_0 rfl ⟨(Nat.le_of_ble_eq_true rfl), (Nat.le_of_ble_eq_true rfl)⟩ rfl rfl (Nat.le_of_ble_eq_true rfl)) rfl rfl rfl (Nat.zero_le _) (Nat.zero_le _) fun r13 h14 =>
    aw_iret (pc := 16) C dX10_more_16 rfl rfl)

abbrev rmX10_leastOfRow : Room := { frames := 1, cells := 0, slots := 0, locals := 45 }
def X10_leastOfRow (v1 : Int32) (h : AH) : Option (Int32 × AH) :=
    ck (3 * v1) 9 (ck ((3 * v1) + 1) 9 (ck ((3 * v1) + 2) 9 (some ((mn32 (h.1 34 (3 * v1).toNatClampNeg) (mn32 (h.1 34 ((3 * v1) + 1).toNatClampNeg) (h.1 34 ((3 * v1) + 2).toNatClampNeg))), h))))
set_option maxRecDepth 100000 in
theorem c_X10_leastOfRow (l : Launch) (v1 : Int32) : MC l yX10_leastOfRow cX10_leastOfRow 2 (some .int) rmX10_leastOfRow ZC [.ref 0, .int v1] rvI (X10_leastOfRow v1) :=
  MC.of (own := RX10) (by decide +kernel) rfl (Nat.le_of_ble_eq_true rfl) fun X yd A h _ C =>
    aw_aload_n (pc := 0) C (i := 0) dX10_leastOfRow_0 rfl rfl <|
    aw_getR (pc := 1) C (b := 34) dX10_leastOfRow_1 fl_X10_45 sC_0 rfl rC_0_15 <|
    aw_iconst (pc := 4) C (v := 3) dX10_leastOfRow_4 rfl <|
    aw_iload_n (pc := 5) C (i := 1) dX10_leastOfRow_5 rfl rfl <|
    aw_imul (pc := 6) C dX10_leastOfRow_6 <|
    aw_iald (pc := 7) C dX10_leastOfRow_7 sC_34 rfl <|
    aw_aload_n (pc := 8) C (i := 0) dX10_leastOfRow_8 rfl rfl <|
    aw_getR (pc := 9) C (b := 34) dX10_leastOfRow_9 fl_X10_45 sC_0 rfl rC_0_15 <|
    aw_iconst (pc := 12) C (v := 3) dX10_leastOfRow_12 rfl <|
    aw_iload_n (pc := 13) C (i := 1) dX10_leastOfRow_13 rfl rfl <|
    aw_imul (pc := 14) C dX10_leastOfRow_14 <|
    aw_iconst (pc := 15) C (v := 1) dX10_leastOfRow_15 rfl <|
    aw_iadd (pc := 16) C dX10_leastOfRow_16 <|
    aw_iald (pc := 17) C dX10_leastOfRow_17 sC_34 rfl <|
    aw_aload_n (pc := 18) C (i := 0) dX10_leastOfRow_18 rfl rfl <|
    aw_getR (pc := 19) C (b := 34) dX10_leastOfRow_19 fl_X10_45 sC_0 rfl rC_0_15 <|
    aw_iconst (pc := 22) C (v := 3) dX10_leastOfRow_22 rfl <|
    aw_iload_n (pc := 23) C (i := 1) dX10_leastOfRow_23 rfl rfl <|
    aw_imul (pc := 24) C dX10_leastOfRow_24 <|
    aw_iconst (pc := 25) C (v := 2) dX10_leastOfRow_25 rfl <|
    aw_iadd (pc := 26) C dX10_leastOfRow_26 <|
    aw_iald (pc := 27) C dX10_leastOfRow_27 sC_34 rfl <|
    aw_mmin (pc := 28) C dX10_leastOfRow_28 ml_X10_291 w_mminS w_mI w_mminC ⟨(Nat.le_of_ble_eq_true rfl), (Nat.le_of_ble_eq_true rfl)⟩ (Nat.zero_le _) (Nat.zero_le _) <|
    aw_mmin (pc := 31) C dX10_leastOfRow_31 ml_X10_291 w_mminS w_mI w_mminC ⟨(Nat.le_of_ble_eq_true rfl), (Nat.le_of_ble_eq_true rfl)⟩ (Nat.zero_le _) (Nat.zero_le _) <|
    aw_iret (pc := 34) C dX10_leastOfRow_34 rfl rfl
