section
abbrev rmX11_no : Room := { frames := 0, cells := 0, slots := 0, locals := 0 }
def X11_no (v1 : Int32) (h : AH) : Option (Int32 × AH) :=
    ck (-v1) 7 (ck (-v1) 7 (vl (sI h 1 (-v1).toNatClampNeg ((h.1 1 (-v1).toNatClampNeg) + 1)) fun h1 =>
    some (v1, h1)))
set_option maxRecDepth 100000 in
theorem c_X11_no (l : Launch) (v1 : Int32) : MC l yX11_no cX11_no 2 (some .int) rmX11_no ZR [.ref 0, .int v1] rvI (X11_no v1) :=
  MC.of (own := RX11) (by decide +kernel) rfl (Nat.le_of_ble_eq_true rfl) fun X yd A h _ C =>
    aw_aload_n (pc := 0) C (i := 0) dX11_no_0 rfl rfl <|
    aw_getR (pc := 1) C (b := 1) dX11_no_1 fl_X11_7 sR_0 rfl rR_0_0 <|
    aw_iload_n (pc := 4) C (i := 1) dX11_no_4 rfl rfl <|
    aw_ineg (pc := 5) C dX11_no_5 <|
    aw_dup2 (pc := 6) C dX11_no_6 rfl rfl <|
    aw_iald (pc := 7) C dX11_no_7 sR_1 rfl <|
    aw_iconst (pc := 8) C (v := 1) dX11_no_8 rfl <|
    aw_iadd (pc := 9) C dX11_no_9 <|
    aw_iast (pc := 10) C dX11_no_10 sR_1 rfl fun h1 =>
    aw_iload_n (pc := 11) C (i := 1) dX11_no_11 rfl rfl <|
    aw_iret (pc := 12) C dX11_no_12 rfl rfl

abbrev rmX11_lower : Room := { frames := 0, cells := 0, slots := 0, locals := 0 }
def X11_lower (v1 : Int32) (h : AH) : Option (Int32 × AH) :=
    ck (-v1) 7 (ck (-v1) 7 (vl (sI h 1 (-v1).toNatClampNeg ((h.1 1 (-v1).toNatClampNeg) + 1)) fun h1 =>
    some ((1000000000 - v1), h1)))
set_option maxRecDepth 100000 in
theorem c_X11_lower (l : Launch) (v1 : Int32) : MC l yX11_lower cX11_lower 2 (some .int) rmX11_lower ZR [.ref 0, .int v1] rvI (X11_lower v1) :=
  MC.of (own := RX11) (by decide +kernel) rfl (Nat.le_of_ble_eq_true rfl) fun X yd A h _ C =>
    aw_aload_n (pc := 0) C (i := 0) dX11_lower_0 rfl rfl <|
    aw_getR (pc := 1) C (b := 1) dX11_lower_1 fl_X11_7 sR_0 rfl rR_0_0 <|
    aw_iload_n (pc := 4) C (i := 1) dX11_lower_4 rfl rfl <|
    aw_ineg (pc := 5) C dX11_lower_5 <|
    aw_dup2 (pc := 6) C dX11_lower_6 rfl rfl <|
    aw_iald (pc := 7) C dX11_lower_7 sR_1 rfl <|
    aw_iconst (pc := 8) C (v := 1) dX11_lower_8 rfl <|
    aw_iadd (pc := 9) C dX11_lower_9 <|
    aw_iast (pc := 10) C dX11_lower_10 sR_1 rfl fun h1 =>
    aw_ldc (pc := 11) C (v := 1000000000) dX11_lower_11 kc_X11_102 <|
    aw_iload_n (pc := 13) C (i := 1) dX11_lower_13 rfl rfl <|
    aw_isub (pc := 14) C dX11_lower_14 <|
    aw_iret (pc := 15) C dX11_lower_15 rfl rfl

abbrev rmX11_lowest : Room := { frames := 0, cells := 0, slots := 0, locals := 0 }
def X11_lowest (v1 : Int32) (h : AH) : Option (Int64 × AH) :=
    ck (-v1) 7 (ck (-v1) 7 (vl (sI h 1 (-v1).toNatClampNeg ((h.1 1 (-v1).toNatClampNeg) + 1)) fun h1 =>
    some ((4000000000000000000 - v1.toInt64), h1)))
set_option maxRecDepth 100000 in
theorem c_X11_lowest (l : Launch) (v1 : Int32) : MC l yX11_lowest cX11_lowest 2 (some .long) rmX11_lowest ZR [.ref 0, .int v1] rvL (X11_lowest v1) :=
  MC.of (own := RX11) (by decide +kernel) rfl (Nat.le_of_ble_eq_true rfl) fun X yd A h _ C =>
    aw_aload_n (pc := 0) C (i := 0) dX11_lowest_0 rfl rfl <|
    aw_getR (pc := 1) C (b := 1) dX11_lowest_1 fl_X11_7 sR_0 rfl rR_0_0 <|
    aw_iload_n (pc := 4) C (i := 1) dX11_lowest_4 rfl rfl <|
    aw_ineg (pc := 5) C dX11_lowest_5 <|
    aw_dup2 (pc := 6) C dX11_lowest_6 rfl rfl <|
    aw_iald (pc := 7) C dX11_lowest_7 sR_1 rfl <|
    aw_iconst (pc := 8) C (v := 1) dX11_lowest_8 rfl <|
    aw_iadd (pc := 9) C dX11_lowest_9 <|
    aw_iast (pc := 10) C dX11_lowest_10 sR_1 rfl fun h1 =>
    aw_ldc2_w (pc := 11) C (v := 4000000000000000000) dX11_lowest_11 kc_X11_103 <|
    aw_iload_n (pc := 14) C (i := 1) dX11_lowest_14 rfl rfl <|
    aw_i2l (pc := 15) C dX11_lowest_15 <|
    aw_lsub (pc := 16) C dX11_lowest_16 <|
    aw_lret (pc := 17) C dX11_lowest_17 rfl rfl

abbrev rmX11_isIn : Room := { frames := 0, cells := 0, slots := 0, locals := 0 }
def X11_isIn (v0 : Int32) (v1 : Int32) (v2 : Int32) (h : AH) : Option (Int32 × AH) :=
    if v0 < v1 then (cz 0 (some (0, h)))
    else (if v2 < v0 then (cz 0 (some (0, h)))
    else (cz 1 (some (1, h))))
set_option maxRecDepth 100000 in
theorem c_X11_isIn (l : Launch) (v0 : Int32) (v1 : Int32) (v2 : Int32) : MC l yX11_isIn cX11_isIn 3 (some .boolean) rmX11_isIn ZR [.int v0, .int v1, .int v2] rvI (X11_isIn v0 v1 v2) :=
  MC.of (own := RX11) (by decide +kernel) rfl (Nat.le_of_ble_eq_true rfl) fun X yd A h _ C =>
    aw_iload_n (pc := 0) C (i := 0) dX11_isIn_0 rfl rfl <|
    aw_iload_n (pc := 1) C (i := 1) dX11_isIn_1 rfl rfl <|
    aw_icmp_lt (pc := 2) C (tgt := 14) dX11_isIn_2 rfl (fun _ =>
    aw_iconst (pc := 14) C (v := 0) dX11_isIn_14 rfl <|
    aw_zret (pc := 15) C dX11_isIn_15 rfl rfl) (fun _ =>
    aw_iload_n (pc := 5) C (i := 0) dX11_isIn_5 rfl rfl <|
    aw_iload_n (pc := 6) C (i := 2) dX11_isIn_6 rfl rfl <|
    aw_icmp_gt (pc := 7) C (tgt := 14) dX11_isIn_7 rfl (fun _ =>
    aw_iconst (pc := 14) C (v := 0) dX11_isIn_14 rfl <|
    aw_zret (pc := 15) C dX11_isIn_15 rfl rfl) (fun _ =>
    aw_iconst (pc := 10) C (v := 1) dX11_isIn_10 rfl <|
    aw_goto (pc := 11) C (tgt := 15) dX11_isIn_11 rfl <|
    aw_zret (pc := 15) C dX11_isIn_15 rfl rfl))

abbrev rmX11_bound : Room := { frames := 0, cells := 0, slots := 0, locals := 0 }
def X11_bound (v0 : Int32) (v1 : Int32) (v2 : Int32) (h : AH) : Option (Int32 × AH) :=
    if v1 ≤ v0 then (if v0 ≤ v2 then (some (0, h))
    else (some ((-6), h)))
    else (some ((-4), h))
set_option maxRecDepth 100000 in
theorem c_X11_bound (l : Launch) (v0 : Int32) (v1 : Int32) (v2 : Int32) : MC l yX11_bound cX11_bound 3 (some .int) rmX11_bound ZR [.int v0, .int v1, .int v2] rvI (X11_bound v0 v1 v2) :=
  MC.of (own := RX11) (by decide +kernel) rfl (Nat.le_of_ble_eq_true rfl) fun X yd A h _ C =>
    aw_iload_n (pc := 0) C (i := 0) dX11_bound_0 rfl rfl <|
    aw_iload_n (pc := 1) C (i := 1) dX11_bound_1 rfl rfl <|
    aw_icmp_ge (pc := 2) C (tgt := 10) dX11_bound_2 rfl (fun _ =>
    aw_iload_n (pc := 10) C (i := 0) dX11_bound_10 rfl rfl <|
    aw_iload_n (pc := 11) C (i := 2) dX11_bound_11 rfl rfl <|
    aw_icmp_le (pc := 12) C (tgt := 20) dX11_bound_12 rfl (fun _ =>
    aw_iconst (pc := 20) C (v := 0) dX11_bound_20 rfl <|
    aw_iret (pc := 21) C dX11_bound_21 rfl rfl) (fun _ =>
    aw_bipush (pc := 15) C (v := (-6)) dX11_bound_15 rfl <|
    aw_goto (pc := 17) C (tgt := 21) dX11_bound_17 rfl <|
    aw_iret (pc := 21) C dX11_bound_21 rfl rfl)) (fun _ =>
    aw_bipush (pc := 5) C (v := (-4)) dX11_bound_5 rfl <|
    aw_goto (pc := 7) C (tgt := 21) dX11_bound_7 rfl <|
    aw_iret (pc := 21) C dX11_bound_21 rfl rfl)

abbrev rmX11_atLeast0 : Room := { frames := 0, cells := 0, slots := 0, locals := 0 }
def X11_atLeast0 (v0 : Int32) (h : AH) : Option (Int32 × AH) :=
    if 0 ≤ v0 then (some (v0, h))
    else (some (0, h))
set_option maxRecDepth 100000 in
theorem c_X11_atLeast0 (l : Launch) (v0 : Int32) : MC l yX11_atLeast0 cX11_atLeast0 1 (some .int) rmX11_atLeast0 ZR [.int v0] rvI (X11_atLeast0 v0) :=
  MC.of (own := RX11) (by decide +kernel) rfl (Nat.le_of_ble_eq_true rfl) fun X yd A h _ C =>
    aw_iload_n (pc := 0) C (i := 0) dX11_atLeast0_0 rfl rfl <|
    aw_if_ge (pc := 1) C (tgt := 8) dX11_atLeast0_1 rfl (fun _ =>
    aw_iload_n (pc := 8) C (i := 0) dX11_atLeast0_8 rfl rfl <|
    aw_iret (pc := 9) C dX11_atLeast0_9 rfl rfl) (fun _ =>
    aw_iconst (pc := 4) C (v := 0) dX11_atLeast0_4 rfl <|
    aw_goto (pc := 5) C (tgt := 9) dX11_atLeast0_5 rfl <|
    aw_iret (pc := 9) C dX11_atLeast0_9 rfl rfl)

abbrev rmX11_isJumper : Room := { frames := 0, cells := 0, slots := 0, locals := 0 }
def X11_isJumper (v1 : Int32) (h : AH) : Option (Int32 × AH) :=
    if v1 < 0 then (cz 0 (some (0, h)))
    else (if (h.1 0 15) ≤ v1 then (cz 0 (some (0, h)))
    else (cz 1 (some (1, h))))
set_option maxRecDepth 100000 in
theorem c_X11_isJumper (l : Launch) (v1 : Int32) : MC l yX11_isJumper cX11_isJumper 2 (some .boolean) rmX11_isJumper ZR [.ref 0, .int v1] rvI (X11_isJumper v1) :=
  MC.of (own := RX11) (by decide +kernel) rfl (Nat.le_of_ble_eq_true rfl) fun X yd A h _ C =>
    aw_iload_n (pc := 0) C (i := 1) dX11_isJumper_0 rfl rfl <|
    aw_if_lt (pc := 1) C (tgt := 16) dX11_isJumper_1 rfl (fun _ =>
    aw_iconst (pc := 16) C (v := 0) dX11_isJumper_16 rfl <|
    aw_zret (pc := 17) C dX11_isJumper_17 rfl rfl) (fun _ =>
    aw_iload_n (pc := 4) C (i := 1) dX11_isJumper_4 rfl rfl <|
    aw_aload_n (pc := 5) C (i := 0) dX11_isJumper_5 rfl rfl <|
    aw_getI (pc := 6) C dX11_isJumper_6 fl_X11_105 sR_0 rfl <|
    aw_icmp_ge (pc := 9) C (tgt := 16) dX11_isJumper_9 rfl (fun _ =>
    aw_iconst (pc := 16) C (v := 0) dX11_isJumper_16 rfl <|
    aw_zret (pc := 17) C dX11_isJumper_17 rfl rfl) (fun _ =>
    aw_iconst (pc := 12) C (v := 1) dX11_isJumper_12 rfl <|
    aw_goto (pc := 13) C (tgt := 17) dX11_isJumper_13 rfl <|
    aw_zret (pc := 17) C dX11_isJumper_17 rfl rfl))

abbrev rmX11_feed : Room := { frames := 1, cells := 0, slots := 0, locals := 22 }
def X11_feed_j25  (v1 : Int32) (v2 : Int32) (h : AH) : Option (Int32 × AH) :=
    if v2 = 0 then (ck (h.1 0 21) 96 (vl (sI h 13 (h.1 0 21).toNatClampNeg v1) fun h3 =>
    vl (sI h3 0 21 ((h3.1 0 21) + 1)) fun h4 =>
    some ((h4.1 0 21), h4)))
    else (bd (X11_no v2 h) fun r5 h6 =>
    some (r5, h6))
set_option maxRecDepth 100000 in
theorem aX11_feed_j25 {X : MCx} {yd : Dyn} {A : Nat → Prop} (C : OK X cX11_feed RX11 3 (some .int) rmX11_feed A)  (v1 : Int32) (v2 : Int32) (h : AH) : AW X 3 ZR yd A 0 0 (QF X rmX11_feed ZR yd rvI A) 25 [(0, .ref 0), (1, .int v1), (2, .int v2)] [] h (X11_feed_j25 v1 v2 h) := by
    exact aw_iload_n (pc := 25) C (i := 2) dX11_feed_25 rfl rfl <|
    aw_if_eq (pc := 26) C (tgt := 35) dX11_feed_26 rfl (fun _ =>
    aw_aload_n (pc := 35) C (i := 0) dX11_feed_35 rfl rfl <|
    aw_getR (pc := 36) C (b := 13) dX11_feed_36 fl_X11_46 sR_0 rfl rR_0_17 <|
    aw_aload_n (pc := 39) C (i := 0) dX11_feed_39 rfl rfl <|
    aw_getI (pc := 40) C dX11_feed_40 fl_X11_112 sR_0 rfl <|
    aw_iload_n (pc := 43) C (i := 1) dX11_feed_43 rfl rfl <|
    aw_iast (pc := 44) C dX11_feed_44 sR_13 rfl fun h3 =>
    aw_aload_n (pc := 45) C (i := 0) dX11_feed_45 rfl rfl <|
    aw_dup (pc := 46) C dX11_feed_46 rfl <|
    aw_getI (pc := 47) C dX11_feed_47 fl_X11_112 sR_0 rfl <|
    aw_iconst (pc := 50) C (v := 1) dX11_feed_50 rfl <|
    aw_iadd (pc := 51) C dX11_feed_51 <|
    aw_putI (pc := 52) C dX11_feed_52 fp_X11_112 sR_0 rfl fun h4 =>
    aw_aload_n (pc := 55) C (i := 0) dX11_feed_55 rfl rfl <|
    aw_getI (pc := 56) C dX11_feed_56 fl_X11_112 sR_0 rfl <|
    aw_iret (pc := 59) C dX11_feed_59 rfl rfl) (fun _ =>
    aw_aload_n (pc := 29) C (i := 0) dX11_feed_29 rfl rfl <|
    aw_iload_n (pc := 30) C (i := 2) dX11_feed_30 rfl rfl <|
    aw_callF (pc := 31) C (cr_V (rest := []) (F := (X11_no v2)) C (c_X11_no X.2.1 v2) dX11_feed_31 mf_X11_no ml_X11_115 im_X11_no se_X11_no sR_0 rfl ⟨(Nat.le_of_ble_eq_true rfl), (Nat.le_of_ble_eq_true rfl)⟩ rfl rfl (Nat.le_of_ble_eq_true rfl)) rfl rfl rfl (Nat.zero_le _) (Nat.zero_le _) fun r5 h6 =>
    aw_iret (pc := 34) C dX11_feed_34 rfl rfl)
def X11_feed (v1 : Int32) (h : AH) : Option (Int32 × AH) :=
    bd (X11_bound v1 0 255 h) fun r1 h2 =>
    if r1 = 0 then (if (h2.1 0 21) = 96 then (vl (-6) fun x7 =>
    X11_feed_j25 v1 x7 h2)
    else (X11_feed_j25 v1 r1 h2))
    else (X11_feed_j25 v1 r1 h2)
set_option maxRecDepth 100000 in
theorem c_X11_feed (l : Launch) (v1 : Int32) : MC l yX11_feed cX11_feed 3 (some .int) rmX11_feed ZR [.ref 0, .int v1] rvI (X11_feed v1) :=
  MC.of (own := RX11) (by decide +kernel) rfl (Nat.le_of_ble_eq_true rfl) fun X yd A h _ C =>
    aw_iload_n (pc := 0) C (i := 1) dX11_feed_0 rfl rfl <|
    aw_iconst (pc := 1) C (v := 0) dX11_feed_1 rfl <|
    aw_sipush (pc := 2) C (v := 255) dX11_feed_2 rfl <|
    aw_callF (pc := 5) C (cr_S (rest := []) (F := (X11_bound v1 0 255)) C (c_X11_bound X.2.1 v1 0 255) dX11_feed_5 mf_X11_bound ml_X11_108 st_X11_bound ⟨(Nat.le_of_ble_eq_true rfl), (Nat.le_of_ble_eq_true rfl)⟩ rfl rfl (Nat.le_of_ble_eq_true rfl)) rfl rfl rfl (Nat.zero_le _) (Nat.zero_le _) fun r1 h2 =>
    aw_istore_n (pc := 8) C (i := 2) (lv' := [(0, .ref 0), (1, .int v1), (2, .int r1)]) dX11_feed_8 rfl (by decide) rfl <|
    aw_iload_n (pc := 9) C (i := 2) dX11_feed_9 rfl rfl <|
    aw_if_ne (pc := 10) C (tgt := 25) dX11_feed_10 rfl (fun _ =>
    aw_aload_n (pc := 13) C (i := 0) dX11_feed_13 rfl rfl <|
    aw_getI (pc := 14) C dX11_feed_14 fl_X11_112 sR_0 rfl <|
    aw_bipush (pc := 17) C (v := 96) dX11_feed_17 rfl <|
    aw_icmp_ne (pc := 19) C (tgt := 25) dX11_feed_19 rfl (fun _ =>
    aw_bipush (pc := 22) C (v := (-6)) dX11_feed_22 rfl <|
    aw_istoreV_n (pc := 24) C (i := 2) (fun x7 => [(0, .ref 0), (1, .int v1), (2, .int x7)]) dX11_feed_24 rfl (by decide) (fun _ => rfl) fun x7 =>
    (aX11_feed_j25 C v1 x7 h2)) (fun _ =>
    (aX11_feed_j25 C v1 r1 h2))) (fun _ =>
    (aX11_feed_j25 C v1 r1 h2))

abbrev rmX11_next : Room := { frames := 0, cells := 0, slots := 0, locals := 0 }
def X11_next  (h : AH) : Option (Int32 × AH) :=
    if (h.1 0 21) ≤ (h.1 0 22) then (some ((-1), h))
    else (ck (h.1 0 22) 96 (some ((h.1 13 (h.1 0 22).toNatClampNeg), h)))
set_option maxRecDepth 100000 in
theorem c_X11_next (l : Launch)  : MC l yX11_next cX11_next 1 (some .int) rmX11_next ZR [.ref 0] rvI (X11_next) :=
  MC.of (own := RX11) (by decide +kernel) rfl (Nat.le_of_ble_eq_true rfl) fun X yd A h _ C =>
    aw_aload_n (pc := 0) C (i := 0) dX11_next_0 rfl rfl <|
    aw_getI (pc := 1) C dX11_next_1 fl_X11_119 sR_0 rfl <|
    aw_aload_n (pc := 4) C (i := 0) dX11_next_4 rfl rfl <|
    aw_getI (pc := 5) C dX11_next_5 fl_X11_112 sR_0 rfl <|
    aw_icmp_ge (pc := 8) C (tgt := 23) dX11_next_8 rfl (fun _ =>
    aw_iconst (pc := 23) C (v := (-1)) dX11_next_23 rfl <|
    aw_iret (pc := 24) C dX11_next_24 rfl rfl) (fun _ =>
    aw_aload_n (pc := 11) C (i := 0) dX11_next_11 rfl rfl <|
    aw_getR (pc := 12) C (b := 13) dX11_next_12 fl_X11_46 sR_0 rfl rR_0_17 <|
    aw_aload_n (pc := 15) C (i := 0) dX11_next_15 rfl rfl <|
    aw_getI (pc := 16) C dX11_next_16 fl_X11_119 sR_0 rfl <|
    aw_iald (pc := 19) C dX11_next_19 sR_13 rfl <|
    aw_goto (pc := 20) C (tgt := 24) dX11_next_20 rfl <|
    aw_iret (pc := 24) C dX11_next_24 rfl rfl)

abbrev rmX11_readsDigits : Room := { frames := 1, cells := 0, slots := 0, locals := 22 }
def X11_readsDigits_l5  (v1 : Int32) (v2 : Int32) : Nat → Int32 → Int32 → AH → Option (Int32 × AH)
  | 0, _, _, _ => none
  | n + 1, v3, v4, h =>
    if v2 ≤ v4 then (ck v1 384 (vl (sI h 16 v1.toNatClampNeg v3) fun h1 =>
    cz 1 (some (1, h1))))
    else (bd (X11_next h) fun r2 h3 =>
    bd (X11_isIn r2 48 57 h3) fun r4 h5 =>
    if r4 = 0 then (cz 0 (some (0, h5)))
    else (bd (X11_next h5) fun r6 h7 =>
    vl (((10 * v3) + r6) - 48) fun x8 =>
    vl (sI h7 0 22 ((h7.1 0 22) + 1)) fun h9 =>
    vl (v4 + 1) fun x10 =>
    (X11_readsDigits_l5 v1 v2 n) x8 x10 h9))
set_option maxRecDepth 100000 in
theorem aX11_readsDigits_l5 {X : MCx} {yd : Dyn} {A : Nat → Prop} (C : OK X cX11_readsDigits RX11 5 (some .boolean) rmX11_readsDigits A)  (v1 : Int32) (v2 : Int32) : ∀ (n : Nat) (v3 : Int32) (v4 : Int32) (h : AH), AW X 5 ZR yd A 0 0 (QF X rmX11_readsDigits ZR yd rvI A) 5 [(0, .ref 0), (1, .int v1), (2, .int v2), (3, .int v3), (4, .int v4)] [] h (X11_readsDigits_l5 v1 v2 n v3 v4 h) := by
  intro n
  induction n with
  | zero => intro v3 v4 h; exact aw_none
  | succ n ih =>
    intro v3 v4 h
    exact aw_iload (pc := 5) C (i := 4) dX11_readsDigits_5 rfl <|
    aw_iload_n (pc := 7) C (i := 2) dX11_readsDigits_7 rfl rfl <|
    aw_icmp_ge (pc := 8) C (tgt := 56) dX11_readsDigits_8 rfl (fun _ =>
    aw_aload_n (pc := 56) C (i := 0) dX11_readsDigits_56 rfl rfl <|
    aw_getR (pc := 57) C (b := 16) dX11_readsDigits_57 fl_X11_55 sR_0 rfl rR_0_20 <|
    aw_iload_n (pc := 60) C (i := 1) dX11_readsDigits_60 rfl rfl <|
    aw_iload_n (pc := 61) C (i := 3) dX11_readsDigits_61 rfl rfl <|
    aw_iast (pc := 62) C dX11_readsDigits_62 sR_16 rfl fun h1 =>
    aw_iconst (pc := 63) C (v := 1) dX11_readsDigits_63 rfl <|
    aw_zret (pc := 64) C dX11_readsDigits_64 rfl rfl) (fun _ =>
    aw_aload_n (pc := 11) C (i := 0) dX11_readsDigits_11 rfl rfl <|
    aw_callF (pc := 12) C (cr_V (rest := []) (F := X11_next) C (c_X11_next X.2.1 ) dX11_readsDigits_12 mf_X11_next ml_X11_122 im_X11_next se_X11_next sR_0 rfl ⟨(Nat.le_of_ble_eq_true rfl), (Nat.le_of_ble_eq_true rfl)⟩ rfl rfl (Nat.le_of_ble_eq_true rfl)) rfl rfl rfl (Nat.zero_le _) (Nat.zero_le _) fun r2 h3 =>
    aw_bipush (pc := 15) C (v := 48) dX11_readsDigits_15 rfl <|
    aw_bipush (pc := 17) C (v := 57) dX11_readsDigits_17 rfl <|
    aw_callF (pc := 19) C (cr_S (rest := []) (F := (X11_isIn r2 48 57)) C (c_X11_isIn X.2.1 r2 48 57) dX11_readsDigits_19 mf_X11_isIn ml_X11_126 st_X11_isIn ⟨(Nat.le_of_ble_eq_true rfl), (Nat.le_of_ble_eq_true rfl)⟩ rfl rfl (Nat.le_of_ble_eq_true rfl)) rfl rfl rfl (Nat.zero_le _) (Nat.zero_le _) fun r4 h5 =>
    aw_if_ne (pc := 22) C (tgt := 27) dX11_readsDigits_22 rfl (fun _ =>
    aw_iconst (pc := 25) C (v := 0) dX11_readsDigits_25 rfl <|
    aw_zret (pc := 26) C dX11_readsDigits_26 rfl rfl) (fun _ =>
    aw_bipush (pc := 27) C (v := 10) dX11_readsDigits_27 rfl <|
    aw_iload_n (pc := 29) C (i := 3) dX11_readsDigits_29 rfl rfl <|
    aw_imul (pc := 30) C dX11_readsDigits_30 <|
    aw_aload_n (pc := 31) C (i := 0) dX11_readsDigits_31 rfl rfl <|
    aw_callF (pc := 32) C (cr_V (rest := [.int (10 * v3)]) (F := X11_next) C (c_X11_next X.2.1 ) dX11_readsDigits_32 mf_X11_next ml_X11_122 im_X11_next se_X11_next sR_0 rfl ⟨(Nat.le_of_ble_eq_true rfl), (Nat.le_of_ble_eq_true rfl)⟩ rfl rfl (Nat.le_of_ble_eq_true rfl)) rfl rfl rfl (Nat.zero_le _) (Nat.zero_le _) fun r6 h7 =>
    aw_iadd (pc := 35) C dX11_readsDigits_35 <|
    aw_bipush (pc := 36) C (v := 48) dX11_readsDigits_36 rfl <|
    aw_isub (pc := 38) C dX11_readsDigits_38 <|
    aw_istoreV_n (pc := 39) C (i := 3) (fun x8 => [(0, .ref 0), (1, .int v1), (2, .int v2), (3, .int x8), (4, .int v4)]) dX11_readsDigits_39 rfl (by decide) (fun _ => rfl) fun x8 =>
    aw_aload_n (pc := 40) C (i := 0) dX11_readsDigits_40 rfl rfl <|
    aw_dup (pc := 41) C dX11_readsDigits_41 rfl <|
    aw_getI (pc := 42) C dX11_readsDigits_42 fl_X11_119 sR_0 rfl <|
    aw_iconst (pc := 45) C (v := 1) dX11_readsDigits_45 rfl <|
    aw_iadd (pc := 46) C dX11_readsDigits_46 <|
    aw_putI (pc := 47) C dX11_readsDigits_47 fp_X11_119 sR_0 rfl fun h9 =>
    aw_iincV (pc := 50) C (i := 4) (cst := 1) (fun x10 => [(0, .ref 0), (1, .int v1), (2, .int v2), (3, .int x8), (4, .int x10)]) dX11_readsDigits_50 rfl rfl (by decide) (fun _ => rfl) fun x10 =>
    aw_goto (pc := 53) C (tgt := 5) dX11_readsDigits_53 rfl <|
    (ih x8 x10 h9)))
def X11_readsDigits (v1 : Int32) (v2 : Int32) (h : AH) : Option (Int32 × AH) :=
    X11_readsDigits_l5 v1 v2 FU 0 0 h
set_option maxRecDepth 100000 in
theorem c_X11_readsDigits (l : Launch) (v1 : Int32) (v2 : Int32) : MC l yX11_readsDigits cX11_readsDigits 5 (some .boolean) rmX11_readsDigits ZR [.ref 0, .int v1, .int v2] rvI (X11_readsDigits v1 v2) :=
  MC.of (own := RX11) (by decide +kernel) rfl (Nat.le_of_ble_eq_true rfl) fun X yd A h _ C =>
    aw_iconst (pc := 0) C (v := 0) dX11_readsDigits_0 rfl <|
    aw_istore_n (pc := 1) C (i := 3) (lv' := [(0, .ref 0), (1, .int v1), (2, .int v2), (3, .int 0)]) dX11_readsDigits_1 rfl (by decide) rfl <|
    aw_iconst (pc := 2) C (v := 0) dX11_readsDigits_2 rfl <|
    aw_istore (pc := 3) C (i := 4) (lv' := [(0, .ref 0), (1, .int v1), (2, .int v2), (3, .int 0), (4, .int 0)]) dX11_readsDigits_3 (by decide) rfl <|
    (aX11_readsDigits_l5 C v1 v2 FU 0 0 h)

abbrev rmX11_readsWind : Room := { frames := 2, cells := 0, slots := 0, locals := 46 }
def X11_readsWind_j27  (v1 : Int32) (s0 : Int32) (h : AH) : Option (Int32 × AH) :=
    if s0 = 0 then (cz 0 (some (0, h)))
    else (vl (sI h 0 22 ((h.1 0 22) + 1)) fun h5 =>
    bd (X11_readsDigits v1 1 h5) fun r6 h7 =>
    if r6 = 0 then (cz 0 (some (0, h7)))
    else (ck v1 384 (ck v1 384 (vl (sI h7 16 v1.toNatClampNeg ((h7.1 16 v1.toNatClampNeg) * s0)) fun h8 =>
    cz 1 (some (1, h8))))))
set_option maxRecDepth 100000 in
theorem aX11_readsWind_j27 {X : MCx} {yd : Dyn} {A : Nat → Prop} (C : OK X cX11_readsWind RX11 3 (some .boolean) rmX11_readsWind A)  (v1 : Int32) (s0 : Int32) (h : AH) : AW X 3 ZR yd A 0 0 (QF X rmX11_readsWind ZR yd rvI A) 27 [(0, .ref 0), (1, .int v1)] [.int s0] h (X11_readsWind_j27 v1 s0 h) := by
    exact aw_istore_n (pc := 27) C (i := 2) (lv' := [(0, .ref 0), (1, .int v1), (2, .int s0)]) dX11_readsWind_27 rfl (by decide) rfl <|
    aw_iload_n (pc := 28) C (i := 2) dX11_readsWind_28 rfl rfl <|
    aw_if_ne (pc := 29) C (tgt := 34) dX11_readsWind_29 rfl (fun _ =>
    aw_iconst (pc := 32) C (v := 0) dX11_readsWind_32 rfl <|
    aw_zret (pc := 33) C dX11_readsWind_33 rfl rfl) (fun _ =>
    aw_aload_n (pc := 34) C (i := 0) dX11_readsWind_34 rfl rfl <|
    aw_dup (pc := 35) C dX11_readsWind_35 rfl <|
    aw_getI (pc := 36) C dX11_readsWind_36 fl_X11_119 sR_0 rfl <|
    aw_iconst (pc := 39) C (v := 1) dX11_readsWind_39 rfl <|
    aw_iadd (pc := 40) C dX11_readsWind_40 <|
    aw_putI (pc := 41) C dX11_readsWind_41 fp_X11_119 sR_0 rfl fun h5 =>
    aw_aload_n (pc := 44) C (i := 0) dX11_readsWind_44 rfl rfl <|
    aw_iload_n (pc := 45) C (i := 1) dX11_readsWind_45 rfl rfl <|
    aw_iconst (pc := 46) C (v := 1) dX11_readsWind_46 rfl <|
    aw_callF (pc := 47) C (cr_V (rest := []) (F := (X11_readsDigits v1 1)) C (c_X11_readsDigits X.2.1 v1 1) dX11_readsWind_47 mf_X11_readsDigits ml_X11_130 im_X11_readsDigits se_X11_readsDigits sR_0 rfl ⟨(Nat.le_of_ble_eq_true rfl), (Nat.le_of_ble_eq_true rfl)⟩ rfl rfl (Nat.le_of_ble_eq_true rfl)) rfl rfl rfl (Nat.zero_le _) (Nat.zero_le _) fun r6 h7 =>
    aw_if_ne (pc := 50) C (tgt := 55) dX11_readsWind_50 rfl (fun _ =>
    aw_iconst (pc := 53) C (v := 0) dX11_readsWind_53 rfl <|
    aw_zret (pc := 54) C dX11_readsWind_54 rfl rfl) (fun _ =>
    aw_aload_n (pc := 55) C (i := 0) dX11_readsWind_55 rfl rfl <|
    aw_getR (pc := 56) C (b := 16) dX11_readsWind_56 fl_X11_55 sR_0 rfl rR_0_20 <|
    aw_iload_n (pc := 59) C (i := 1) dX11_readsWind_59 rfl rfl <|
    aw_dup2 (pc := 60) C dX11_readsWind_60 rfl rfl <|
    aw_iald (pc := 61) C dX11_readsWind_61 sR_16 rfl <|
    aw_iload_n (pc := 62) C (i := 2) dX11_readsWind_62 rfl rfl <|
    aw_imul (pc := 63) C dX11_readsWind_63 <|
    aw_iast (pc := 64) C dX11_readsWind_64 sR_16 rfl fun h8 =>
    aw_iconst (pc := 65) C (v := 1) dX11_readsWind_65 rfl <|
    aw_zret (pc := 66) C dX11_readsWind_66 rfl rfl))
def X11_readsWind (v1 : Int32) (h : AH) : Option (Int32 × AH) :=
    bd (X11_next h) fun r1 h2 =>
    if r1 = 43 then (X11_readsWind_j27 v1 1 h2)
    else (bd (X11_next h2) fun r3 h4 =>
    if r3 = 45 then (X11_readsWind_j27 v1 (-1) h4)
    else (X11_readsWind_j27 v1 0 h4))
set_option maxRecDepth 100000 in
theorem c_X11_readsWind (l : Launch) (v1 : Int32) : MC l yX11_readsWind cX11_readsWind 3 (some .boolean) rmX11_readsWind ZR [.ref 0, .int v1] rvI (X11_readsWind v1) :=
  MC.of (own := RX11) (by decide +kernel) rfl (Nat.le_of_ble_eq_true rfl) fun X yd A h _ C =>
    aw_aload_n (pc := 0) C (i := 0) dX11_readsWind_0 rfl rfl <|
    aw_callF (pc := 1) C (cr_V (rest := []) (F := X11_next) C (c_X11_next X.2.1 ) dX11_readsWind_1 mf_X11_next ml_X11_122 im_X11_next se_X11_next sR_0 rfl ⟨(Nat.le_of_ble_eq_true rfl), (Nat.le_of_ble_eq_true rfl)⟩ rfl rfl (Nat.le_of_ble_eq_true rfl)) rfl rfl rfl (Nat.zero_le _) (Nat.zero_le _) fun r1 h2 =>
    aw_bipush (pc := 4) C (v := 43) dX11_readsWind_4 rfl <|
    aw_icmp_ne (pc := 6) C (tgt := 13) dX11_readsWind_6 rfl (fun _ =>
    aw_iconst (pc := 9) C (v := 1) dX11_readsWind_9 rfl <|
    aw_goto (pc := 10) C (tgt := 27) dX11_readsWind_10 rfl <|
    (aX11_readsWind_j27 C v1 1 h2)) (fun _ =>
    aw_aload_n (pc := 13) C (i := 0) dX11_readsWind_13 rfl rfl <|
    aw_callF (pc := 14) C (cr_V (rest := []) (F := X11_next) C (c_X11_next X.2.1 ) dX11_readsWind_14 mf_X11_next ml_X11_122 im_X11_next se_X11_next sR_0 rfl ⟨(Nat.le_of_ble_eq_true rfl), (Nat.le_of_ble_eq_true rfl)⟩ rfl rfl (Nat.le_of_ble_eq_true rfl)) rfl rfl rfl (Nat.zero_le _) (Nat.zero_le _) fun r3 h4 =>
    aw_bipush (pc := 17) C (v := 45) dX11_readsWind_17 rfl <|
    aw_icmp_ne (pc := 19) C (tgt := 26) dX11_readsWind_19 rfl (fun _ =>
    aw_iconst (pc := 22) C (v := (-1)) dX11_readsWind_22 rfl <|
    aw_goto (pc := 23) C (tgt := 27) dX11_readsWind_23 rfl <|
    (aX11_readsWind_j27 C v1 (-1) h4)) (fun _ =>
    aw_iconst (pc := 26) C (v := 0) dX11_readsWind_26 rfl <|
    (aX11_readsWind_j27 C v1 0 h4)))

abbrev rmX11_readsJumper : Room := { frames := 2, cells := 0, slots := 0, locals := 46 }
def X11_readsJumper (v1 : Int32) (h : AH) : Option (Int32 × AH) :=
    bd (X11_readsDigits v1 1 h) fun r1 h2 =>
    if r1 = 0 then (cz 0 (some (0, h2)))
    else (bd (X11_readsDigits (v1 + 1) 1 h2) fun r3 h4 =>
    if r3 = 0 then (cz 0 (some (0, h4)))
    else (bd (X11_readsDigits (v1 + 2) 2 h4) fun r5 h6 =>
    if r5 = 0 then (cz 0 (some (0, h6)))
    else (bd (X11_readsDigits (v1 + 3) 1 h6) fun r7 h8 =>
    if r7 = 0 then (cz 0 (some (0, h8)))
    else (bd (X11_readsDigits (v1 + 4) 1 h8) fun r9 h10 =>
    if r9 = 0 then (cz 0 (some (0, h10)))
    else (bd (X11_readsDigits (v1 + 5) 2 h10) fun r11 h12 =>
    if r11 = 0 then (cz 0 (some (0, h12)))
    else (bd (X11_readsDigits (v1 + 6) 1 h12) fun r13 h14 =>
    if r13 = 0 then (cz 0 (some (0, h14)))
    else (bd (X11_readsDigits (v1 + 7) 4 h14) fun r15 h16 =>
    if r15 = 0 then (cz 0 (some (0, h16)))
    else (cz 1 (some (1, h16))))))))))
set_option maxRecDepth 100000 in
theorem c_X11_readsJumper (l : Launch) (v1 : Int32) : MC l yX11_readsJumper cX11_readsJumper 2 (some .boolean) rmX11_readsJumper ZR [.ref 0, .int v1] rvI (X11_readsJumper v1) :=
  MC.of (own := RX11) (by decide +kernel) rfl (Nat.le_of_ble_eq_true rfl) fun X yd A h _ C =>
    aw_aload_n (pc := 0) C (i := 0) dX11_readsJumper_0 rfl rfl <|
    aw_iload_n (pc := 1) C (i := 1) dX11_readsJumper_1 rfl rfl <|
    aw_iconst (pc := 2) C (v := 1) dX11_readsJumper_2 rfl <|
    aw_callF (pc := 3) C (cr_V (rest := []) (F := (X11_readsDigits v1 1)) C (c_X11_readsDigits X.2.1 v1 1) dX11_readsJumper_3 mf_X11_readsDigits ml_X11_130 im_X11_readsDigits se_X11_readsDigits sR_0 rfl ⟨(Nat.le_of_ble_eq_true rfl), (Nat.le_of_ble_eq_true rfl)⟩ rfl rfl (Nat.le_of_ble_eq_true rfl)) rfl rfl rfl (Nat.zero_le _) (Nat.zero_le _) fun r1 h2 =>
    aw_if_eq (pc := 6) C (tgt := 92) dX11_readsJumper_6 rfl (fun _ =>
    aw_iconst (pc := 92) C (v := 0) dX11_readsJumper_92 rfl <|
    aw_zret (pc := 93) C dX11_readsJumper_93 rfl rfl) (fun _ =>
    aw_aload_n (pc := 9) C (i := 0) dX11_readsJumper_9 rfl rfl <|
    aw_iload_n (pc := 10) C (i := 1) dX11_readsJumper_10 rfl rfl <|
    aw_iconst (pc := 11) C (v := 1) dX11_readsJumper_11 rfl <|
    aw_iadd (pc := 12) C dX11_readsJumper_12 <|
    aw_iconst (pc := 13) C (v := 1) dX11_readsJumper_13 rfl <|
    aw_callF (pc := 14) C (cr_V (rest := []) (F := (X11_readsDigits (v1 + 1) 1)) C (c_X11_readsDigits X.2.1 (v1 + 1) 1) dX11_readsJumper_14 mf_X11_readsDigits ml_X11_130 im_X11_readsDigits se_X11_readsDigits sR_0 rfl ⟨(Nat.le_of_ble_eq_true rfl), (Nat.le_of_ble_eq_true rfl)⟩ rfl rfl (Nat.le_of_ble_eq_true rfl)) rfl rfl rfl (Nat.zero_le _) (Nat.zero_le _) fun r3 h4 =>
    aw_if_eq (pc := 17) C (tgt := 92) dX11_readsJumper_17 rfl (fun _ =>
    aw_iconst (pc := 92) C (v := 0) dX11_readsJumper_92 rfl <|
    aw_zret (pc := 93) C dX11_readsJumper_93 rfl rfl) (fun _ =>
    aw_aload_n (pc := 20) C (i := 0) dX11_readsJumper_20 rfl rfl <|
    aw_iload_n (pc := 21) C (i := 1) dX11_readsJumper_21 rfl rfl <|
    aw_iconst (pc := 22) C (v := 2) dX11_readsJumper_22 rfl <|
    aw_iadd (pc := 23) C dX11_readsJumper_23 <|
    aw_iconst (pc := 24) C (v := 2) dX11_readsJumper_24 rfl <|
    aw_callF (pc := 25) C (cr_V (rest := []) (F := (X11_readsDigits (v1 + 2) 2)) C (c_X11_readsDigits X.2.1 (v1 + 2) 2) dX11_readsJumper_25 mf_X11_readsDigits ml_X11_130 im_X11_readsDigits se_X11_readsDigits sR_0 rfl ⟨(Nat.le_of_ble_eq_true rfl), (Nat.le_of_ble_eq_true rfl)⟩ rfl rfl (Nat.le_of_ble_eq_true rfl)) rfl rfl rfl (Nat.zero_le _) (Nat.zero_le _) fun r5 h6 =>
    aw_if_eq (pc := 28) C (tgt := 92) dX11_readsJumper_28 rfl (fun _ =>
    aw_iconst (pc := 92) C (v := 0) dX11_readsJumper_92 rfl <|
    aw_zret (pc := 93) C dX11_readsJumper_93 rfl rfl) (fun _ =>
    aw_aload_n (pc := 31) C (i := 0) dX11_readsJumper_31 rfl rfl <|
    aw_iload_n (pc := 32) C (i := 1) dX11_readsJumper_32 rfl rfl <|
    aw_iconst (pc := 33) C (v := 3) dX11_readsJumper_33 rfl <|
    aw_iadd (pc := 34) C dX11_readsJumper_34 <|
    aw_iconst (pc := 35) C (v := 1) dX11_readsJumper_35 rfl <|
    aw_callF (pc := 36) C (cr_V (rest := []) (F := (X11_readsDigits (v1 + 3) 1)) C (c_X11_readsDigits X.2.1 (v1 + 3) 1) dX11_readsJumper_36 mf_X11_readsDigits ml_X11_130 im_X11_readsDigits se_X11_readsDigits sR_0 rfl ⟨(Nat.le_of_ble_eq_true rfl), (Nat.le_of_ble_eq_true rfl)⟩ rfl rfl (Nat.le_of_ble_eq_true rfl)) rfl rfl rfl (Nat.zero_le _) (Nat.zero_le _) fun r7 h8 =>
    aw_if_eq (pc := 39) C (tgt := 92) dX11_readsJumper_39 rfl (fun _ =>
    aw_iconst (pc := 92) C (v := 0) dX11_readsJumper_92 rfl <|
    aw_zret (pc := 93) C dX11_readsJumper_93 rfl rfl) (fun _ =>
    aw_aload_n (pc := 42) C (i := 0) dX11_readsJumper_42 rfl rfl <|
    aw_iload_n (pc := 43) C (i := 1) dX11_readsJumper_43 rfl rfl <|
    aw_iconst (pc := 44) C (v := 4) dX11_readsJumper_44 rfl <|
    aw_iadd (pc := 45) C dX11_readsJumper_45 <|
    aw_iconst (pc := 46) C (v := 1) dX11_readsJumper_46 rfl <|
    aw_callF (pc := 47) C (cr_V (rest := []) (F := (X11_readsDigits (v1 + 4) 1)) C (c_X11_readsDigits X.2.1 (v1 + 4) 1) dX11_readsJumper_47 mf_X11_readsDigits ml_X11_130 im_X11_readsDigits se_X11_readsDigits sR_0 rfl ⟨(Nat.le_of_ble_eq_true rfl), (Nat.le_of_ble_eq_true rfl)⟩ rfl rfl (Nat.le_of_ble_eq_true rfl)) rfl rfl rfl (Nat.zero_le _) (Nat.zero_le _) fun r9 h10 =>
    aw_if_eq (pc := 50) C (tgt := 92) dX11_readsJumper_50 rfl (fun _ =>
    aw_iconst (pc := 92) C (v := 0) dX11_readsJumper_92 rfl <|
    aw_zret (pc := 93) C dX11_readsJumper_93 rfl rfl) (fun _ =>
    aw_aload_n (pc := 53) C (i := 0) dX11_readsJumper_53 rfl rfl <|
    aw_iload_n (pc := 54) C (i := 1) dX11_readsJumper_54 rfl rfl <|
    aw_iconst (pc := 55) C (v := 5) dX11_readsJumper_55 rfl <|
    aw_iadd (pc := 56) C dX11_readsJumper_56 <|
    aw_iconst (pc := 57) C (v := 2) dX11_readsJumper_57 rfl <|
    aw_callF (pc := 58) C (cr_V (rest := []) (F := (X11_readsDigits (v1 + 5) 2)) C (c_X11_readsDigits X.2.1 (v1 + 5) 2) dX11_readsJumper_58 mf_X11_readsDigits ml_X11_130 im_X11_readsDigits se_X11_readsDigits sR_0 rfl ⟨(Nat.le_of_ble_eq_true rfl), (Nat.le_of_ble_eq_true rfl)⟩ rfl rfl (Nat.le_of_ble_eq_true rfl)) rfl rfl rfl (Nat.zero_le _) (Nat.zero_le _) fun r11 h12 =>
    aw_if_eq (pc := 61) C (tgt := 92) dX11_readsJumper_61 rfl (fun _ =>
    aw_iconst (pc := 92) C (v := 0) dX11_readsJumper_92 rfl <|
    aw_zret (pc := 93) C dX11_readsJumper_93 rfl rfl) (fun _ =>
    aw_aload_n (pc := 64) C (i := 0) dX11_readsJumper_64 rfl rfl <|
    aw_iload_n (pc := 65) C (i := 1) dX11_readsJumper_65 rfl rfl <|
    aw_bipush (pc := 66) C (v := 6) dX11_readsJumper_66 rfl <|
    aw_iadd (pc := 68) C dX11_readsJumper_68 <|
    aw_iconst (pc := 69) C (v := 1) dX11_readsJumper_69 rfl <|
    aw_callF (pc := 70) C (cr_V (rest := []) (F := (X11_readsDigits (v1 + 6) 1)) C (c_X11_readsDigits X.2.1 (v1 + 6) 1) dX11_readsJumper_70 mf_X11_readsDigits ml_X11_130 im_X11_readsDigits se_X11_readsDigits sR_0 rfl ⟨(Nat.le_of_ble_eq_true rfl), (Nat.le_of_ble_eq_true rfl)⟩ rfl rfl (Nat.le_of_ble_eq_true rfl)) rfl rfl rfl (Nat.zero_le _) (Nat.zero_le _) fun r13 h14 =>
    aw_if_eq (pc := 73) C (tgt := 92) dX11_readsJumper_73 rfl (fun _ =>
    aw_iconst (pc := 92) C (v := 0) dX11_readsJumper_92 rfl <|
    aw_zret (pc := 93) C dX11_readsJumper_93 rfl rfl) (fun _ =>
    aw_aload_n (pc := 76) C (i := 0) dX11_readsJumper_76 rfl rfl <|
    aw_iload_n (pc := 77) C (i := 1) dX11_readsJumper_77 rfl rfl <|
    aw_bipush (pc := 78) C (v := 7) dX11_readsJumper_78 rfl <|
    aw_iadd (pc := 80) C dX11_readsJumper_80 <|
    aw_iconst (pc := 81) C (v := 4) dX11_readsJumper_81 rfl <|
    aw_callF (pc := 82) C (cr_V (rest := []) (F := (X11_readsDigits (v1 + 7) 4)) C (c_X11_readsDigits X.2.1 (v1 + 7) 4) dX11_readsJumper_82 mf_X11_readsDigits ml_X11_130 im_X11_readsDigits se_X11_readsDigits sR_0 rfl ⟨(Nat.le_of_ble_eq_true rfl), (Nat.le_of_ble_eq_true rfl)⟩ rfl rfl (Nat.le_of_ble_eq_true rfl)) rfl rfl rfl (Nat.zero_le _) (Nat.zero_le _) fun r15 h16 =>
    aw_if_eq (pc := 85) C (tgt := 92) dX11_readsJumper_85 rfl (fun _ =>
    aw_iconst (pc := 92) C (v := 0) dX11_readsJumper_92 rfl <|
    aw_zret (pc := 93) C dX11_readsJumper_93 rfl rfl) (fun _ =>
    aw_iconst (pc := 88) C (v := 1) dX11_readsJumper_88 rfl <|
    aw_goto (pc := 89) C (tgt := 93) dX11_readsJumper_89 rfl <|
    aw_zret (pc := 93) C dX11_readsJumper_93 rfl rfl))))))))

abbrev rmX11_readsAll : Room := { frames := 3, cells := 0, slots := 0, locals := 68 }
def X11_readsAll (v1 : Int32) (v2 : Int32) (h : AH) : Option (Int32 × AH) :=
    vl v1 fun y1 =>
    if y1 = 103 then (bd (X11_readsDigits v2 1 h) fun r2 h3 =>
    cz r2 (some (r2, h3)))
    else if y1 = 106 then (bd (X11_readsJumper v2 h) fun r5 h6 =>
    cz r5 (some (r5, h6)))
    else if y1 = 110 then (bd (X11_readsDigits v2 2 h) fun r8 h9 =>
    cz r8 (some (r8, h9)))
    else if y1 = 116 then (bd (X11_readsDigits v2 2 h) fun r11 h12 =>
    cz r11 (some (r11, h12)))
    else if y1 = 119 then (bd (X11_readsWind v2 h) fun r14 h15 =>
    cz r14 (some (r14, h15)))
    else (cz 1 (some (1, h)))
set_option maxRecDepth 100000 in
theorem c_X11_readsAll (l : Launch) (v1 : Int32) (v2 : Int32) : MC l yX11_readsAll cX11_readsAll 3 (some .boolean) rmX11_readsAll ZR [.ref 0, .int v1, .int v2] rvI (X11_readsAll v1 v2) :=
  MC.of (own := RX11) (by decide +kernel) rfl (Nat.le_of_ble_eq_true rfl) fun X yd A h _ C =>
    aw_iload_n (pc := 0) C (i := 1) dX11_readsAll_0 rfl rfl <|
    aw_vlI fun y1 =>
    aw_if (fun c4 => aw_lsw (pc := 1) C (off := 64) (tg := 65) dX11_readsAll_1 (by decide) (by rw [c4]; rfl) rfl (aw_aload_n (pc := 65) C (i := 0) dX11_readsAll_65 rfl rfl <|
    aw_iload_n (pc := 66) C (i := 2) dX11_readsAll_66 rfl rfl <|
    aw_iconst (pc := 67) C (v := 1) dX11_readsAll_67 rfl <|
    aw_callF (pc := 68) C (cr_V (rest := []) (F := (X11_readsDigits v2 1)) C (c_X11_readsDigits X.2.1 v2 1) dX11_readsAll_68 mf_X11_readsDigits ml_X11_130 im_X11_readsDigits se_X11_readsDigits sR_0 rfl ⟨(Nat.le_of_ble_eq_true rfl), (Nat.le_of_ble_eq_true rfl)⟩ rfl rfl (Nat.le_of_ble_eq_true rfl)) rfl rfl rfl (Nat.zero_le _) (Nat.zero_le _) fun r2 h3 =>
    aw_zret (pc := 71) C dX11_readsAll_71 rfl rfl)) (fun c4 =>
    aw_if (fun c7 => aw_lsw (pc := 1) C (off := 71) (tg := 72) dX11_readsAll_1 (by decide) (by rw [c7]; rfl) rfl (aw_aload_n (pc := 72) C (i := 0) dX11_readsAll_72 rfl rfl <|
    aw_iload_n (pc := 73) C (i := 2) dX11_readsAll_73 rfl rfl <|
    aw_callF (pc := 74) C (cr_V (rest := []) (F := (X11_readsJumper v2)) C (c_X11_readsJumper X.2.1 v2) dX11_readsAll_74 mf_X11_readsJumper ml_X11_138 im_X11_readsJumper se_X11_readsJumper sR_0 rfl ⟨(Nat.le_of_ble_eq_true rfl), (Nat.le_of_ble_eq_true rfl)⟩ rfl rfl (Nat.le_of_ble_eq_true rfl)) rfl rfl rfl (Nat.zero_le _) (Nat.zero_le _) fun r5 h6 =>
    aw_zret (pc := 77) C dX11_readsAll_77 rfl rfl)) (fun c7 =>
    aw_if (fun c10 => aw_lsw (pc := 1) C (off := 51) (tg := 52) dX11_readsAll_1 (by decide) (by rw [c10]; rfl) rfl (aw_aload_n (pc := 52) C (i := 0) dX11_readsAll_52 rfl rfl <|
    aw_iload_n (pc := 53) C (i := 2) dX11_readsAll_53 rfl rfl <|
    aw_iconst (pc := 54) C (v := 2) dX11_readsAll_54 rfl <|
    aw_callF (pc := 55) C (cr_V (rest := []) (F := (X11_readsDigits v2 2)) C (c_X11_readsDigits X.2.1 v2 2) dX11_readsAll_55 mf_X11_readsDigits ml_X11_130 im_X11_readsDigits se_X11_readsDigits sR_0 rfl ⟨(Nat.le_of_ble_eq_true rfl), (Nat.le_of_ble_eq_true rfl)⟩ rfl rfl (Nat.le_of_ble_eq_true rfl)) rfl rfl rfl (Nat.zero_le _) (Nat.zero_le _) fun r8 h9 =>
    aw_zret (pc := 58) C dX11_readsAll_58 rfl rfl)) (fun c10 =>
    aw_if (fun c13 => aw_lsw (pc := 1) C (off := 51) (tg := 52) dX11_readsAll_1 (by decide) (by rw [c13]; rfl) rfl (aw_aload_n (pc := 52) C (i := 0) dX11_readsAll_52 rfl rfl <|
    aw_iload_n (pc := 53) C (i := 2) dX11_readsAll_53 rfl rfl <|
    aw_iconst (pc := 54) C (v := 2) dX11_readsAll_54 rfl <|
    aw_callF (pc := 55) C (cr_V (rest := []) (F := (X11_readsDigits v2 2)) C (c_X11_readsDigits X.2.1 v2 2) dX11_readsAll_55 mf_X11_readsDigits ml_X11_130 im_X11_readsDigits se_X11_readsDigits sR_0 rfl ⟨(Nat.le_of_ble_eq_true rfl), (Nat.le_of_ble_eq_true rfl)⟩ rfl rfl (Nat.le_of_ble_eq_true rfl)) rfl rfl rfl (Nat.zero_le _) (Nat.zero_le _) fun r11 h12 =>
    aw_zret (pc := 58) C dX11_readsAll_58 rfl rfl)) (fun c13 =>
    aw_if (fun c16 => aw_lsw (pc := 1) C (off := 58) (tg := 59) dX11_readsAll_1 (by decide) (by rw [c16]; rfl) rfl (aw_aload_n (pc := 59) C (i := 0) dX11_readsAll_59 rfl rfl <|
    aw_iload_n (pc := 60) C (i := 2) dX11_readsAll_60 rfl rfl <|
    aw_callF (pc := 61) C (cr_V (rest := []) (F := (X11_readsWind v2)) C (c_X11_readsWind X.2.1 v2) dX11_readsAll_61 mf_X11_readsWind ml_X11_134 im_X11_readsWind se_X11_readsWind sR_0 rfl ⟨(Nat.le_of_ble_eq_true rfl), (Nat.le_of_ble_eq_true rfl)⟩ rfl rfl (Nat.le_of_ble_eq_true rfl)) rfl rfl rfl (Nat.zero_le _) (Nat.zero_le _) fun r14 h15 =>
    aw_zret (pc := 64) C dX11_readsAll_64 rfl rfl)) (fun c16 =>
    aw_lsw (pc := 1) C (off := 77) (tg := 78) dX11_readsAll_1 (by decide) (by exact lswD [103, 106, 110, 116, 119] (List.forall_mem_cons.mpr ⟨ti_ne c4 rfl, List.forall_mem_cons.mpr ⟨ti_ne c7 rfl, List.forall_mem_cons.mpr ⟨ti_ne c10 rfl, List.forall_mem_cons.mpr ⟨ti_ne c13 rfl, List.forall_mem_cons.mpr ⟨ti_ne c16 rfl, fun _ hz => by cases hz⟩⟩⟩⟩⟩) (by decide)) rfl (aw_iconst (pc := 78) C (v := 1) dX11_readsAll_78 rfl <|
    aw_zret (pc := 79) C dX11_readsAll_79 rfl rfl))))))

abbrev rmX11_statement : Room := { frames := 4, cells := 0, slots := 0, locals := 90 }
def X11_statement_j49  (v1 : Int32) (h : AH) : Option (Int32 × AH) :=
    ck (h.1 0 23) 48 (vl (sI h 14 (h.1 0 23).toNatClampNeg v1) fun h3 =>
    ck (h3.1 0 23) 48 (vl (sI h3 15 (h3.1 0 23).toNatClampNeg (h3.1 0 22)) fun h4 =>
    vl (sI h4 0 22 ((h4.1 0 22) + 1)) fun h5 =>
    bd (X11_readsAll v1 (8 * (h5.1 0 23)) h5) fun r6 h7 =>
    if r6 = 0 then (cz 0 (some (0, h7)))
    else (bd (X11_next h7) fun r8 h9 =>
    if r8 = 59 then (vl (sI h9 0 22 ((h9.1 0 22) + 1)) fun h10 =>
    cz 1 (some (1, h10)))
    else (cz 0 (some (0, h9))))))
set_option maxRecDepth 100000 in
theorem aX11_statement_j49 {X : MCx} {yd : Dyn} {A : Nat → Prop} (C : OK X cX11_statement RX11 2 (some .boolean) rmX11_statement A)  (v1 : Int32) (h : AH) : AW X 2 ZR yd A 0 0 (QF X rmX11_statement ZR yd rvI A) 49 [(0, .ref 0), (1, .int v1)] [] h (X11_statement_j49 v1 h) := by
    exact aw_aload_n (pc := 49) C (i := 0) dX11_statement_49 rfl rfl <|
    aw_getR (pc := 50) C (b := 14) dX11_statement_50 fl_X11_49 sR_0 rfl rR_0_18 <|
    aw_aload_n (pc := 53) C (i := 0) dX11_statement_53 rfl rfl <|
    aw_getI (pc := 54) C dX11_statement_54 fl_X11_141 sR_0 rfl <|
    aw_iload_n (pc := 57) C (i := 1) dX11_statement_57 rfl rfl <|
    aw_iast (pc := 58) C dX11_statement_58 sR_14 rfl fun h3 =>
    aw_aload_n (pc := 59) C (i := 0) dX11_statement_59 rfl rfl <|
    aw_getR (pc := 60) C (b := 15) dX11_statement_60 fl_X11_52 sR_0 rfl rR_0_19 <|
    aw_aload_n (pc := 63) C (i := 0) dX11_statement_63 rfl rfl <|
    aw_getI (pc := 64) C dX11_statement_64 fl_X11_141 sR_0 rfl <|
    aw_aload_n (pc := 67) C (i := 0) dX11_statement_67 rfl rfl <|
    aw_getI (pc := 68) C dX11_statement_68 fl_X11_119 sR_0 rfl <|
    aw_iast (pc := 71) C dX11_statement_71 sR_15 rfl fun h4 =>
    aw_aload_n (pc := 72) C (i := 0) dX11_statement_72 rfl rfl <|
    aw_dup (pc := 73) C dX11_statement_73 rfl <|
    aw_getI (pc := 74) C dX11_statement_74 fl_X11_119 sR_0 rfl <|
    aw_iconst (pc := 77) C (v := 1) dX11_statement_77 rfl <|
    aw_iadd (pc := 78) C dX11_statement_78 <|
    aw_putI (pc := 79) C dX11_statement_79 fp_X11_119 sR_0 rfl fun h5 =>
    aw_aload_n (pc := 82) C (i := 0) dX11_statement_82 rfl rfl <|
    aw_iload_n (pc := 83) C (i := 1) dX11_statement_83 rfl rfl <|
    aw_bipush (pc := 84) C (v := 8) dX11_statement_84 rfl <|
    aw_aload_n (pc := 86) C (i := 0) dX11_statement_86 rfl rfl <|
    aw_getI (pc := 87) C dX11_statement_87 fl_X11_141 sR_0 rfl <|
    aw_imul (pc := 90) C dX11_statement_90 <|
    aw_callF (pc := 91) C (cr_V (rest := []) (F := (X11_readsAll v1 (8 * (h5.1 0 23)))) C (c_X11_readsAll X.2.1 v1 (8 * (h5.1 0 23))) dX11_statement_91 mf_X11_readsAll ml_X11_144 im_X11_readsAll se_X11_readsAll sR_0 rfl ⟨(Nat.le_of_ble_eq_true rfl), (Nat.le_of_ble_eq_true rfl)⟩ rfl rfl (Nat.le_of_ble_eq_true rfl)) rfl rfl rfl (Nat.zero_le _) (Nat.zero_le _) fun r6 h7 =>
    aw_if_eq (pc := 94) C (tgt := 106) dX11_statement_94 rfl (fun _ =>
    aw_iconst (pc := 106) C (v := 0) dX11_statement_106 rfl <|
    aw_zret (pc := 107) C dX11_statement_107 rfl rfl) (fun _ =>
    aw_aload_n (pc := 97) C (i := 0) dX11_statement_97 rfl rfl <|
    aw_callF (pc := 98) C (cr_V (rest := []) (F := X11_next) C (c_X11_next X.2.1 ) dX11_statement_98 mf_X11_next ml_X11_122 im_X11_next se_X11_next sR_0 rfl ⟨(Nat.le_of_ble_eq_true rfl), (Nat.le_of_ble_eq_true rfl)⟩ rfl rfl (Nat.le_of_ble_eq_true rfl)) rfl rfl rfl (Nat.zero_le _) (Nat.zero_le _) fun r8 h9 =>
    aw_bipush (pc := 101) C (v := 59) dX11_statement_101 rfl <|
    aw_icmp_eq (pc := 103) C (tgt := 108) dX11_statement_103 rfl (fun _ =>
    aw_aload_n (pc := 108) C (i := 0) dX11_statement_108 rfl rfl <|
    aw_dup (pc := 109) C dX11_statement_109 rfl <|
    aw_getI (pc := 110) C dX11_statement_110 fl_X11_119 sR_0 rfl <|
    aw_iconst (pc := 113) C (v := 1) dX11_statement_113 rfl <|
    aw_iadd (pc := 114) C dX11_statement_114 <|
    aw_putI (pc := 115) C dX11_statement_115 fp_X11_119 sR_0 rfl fun h10 =>
    aw_iconst (pc := 118) C (v := 1) dX11_statement_118 rfl <|
    aw_zret (pc := 119) C dX11_statement_119 rfl rfl) (fun _ =>
    aw_iconst (pc := 106) C (v := 0) dX11_statement_106 rfl <|
    aw_zret (pc := 107) C dX11_statement_107 rfl rfl))
def X11_statement  (h : AH) : Option (Int32 × AH) :=
    bd (X11_next h) fun r1 h2 =>
    if r1 = 110 then (X11_statement_j49 r1 h2)
    else (if r1 = 119 then (X11_statement_j49 r1 h2)
    else (if r1 = 103 then (X11_statement_j49 r1 h2)
    else (if r1 = 106 then (X11_statement_j49 r1 h2)
    else (if r1 = 116 then (X11_statement_j49 r1 h2)
    else (if r1 = 102 then (X11_statement_j49 r1 h2)
    else (if r1 = 112 then (X11_statement_j49 r1 h2)
    else (cz 0 (some (0, h2)))))))))
set_option maxRecDepth 100000 in
theorem c_X11_statement (l : Launch)  : MC l yX11_statement cX11_statement 2 (some .boolean) rmX11_statement ZR [.ref 0] rvI (X11_statement) :=
  MC.of (own := RX11) (by decide +kernel) rfl (Nat.le_of_ble_eq_true rfl) fun X yd A h _ C =>
    aw_aload_n (pc := 0) C (i := 0) dX11_statement_0 rfl rfl <|
    aw_callF (pc := 1) C (cr_V (rest := []) (F := X11_next) C (c_X11_next X.2.1 ) dX11_statement_1 mf_X11_next ml_X11_122 im_X11_next se_X11_next sR_0 rfl ⟨(Nat.le_of_ble_eq_true rfl), (Nat.le_of_ble_eq_true rfl)⟩ rfl rfl (Nat.le_of_ble_eq_true rfl)) rfl rfl rfl (Nat.zero_le _) (Nat.zero_le _) fun r1 h2 =>
    aw_istore_n (pc := 4) C (i := 1) (lv' := [(0, .ref 0), (1, .int r1)]) dX11_statement_4 rfl (by decide) rfl <|
    aw_iload_n (pc := 5) C (i := 1) dX11_statement_5 rfl rfl <|
    aw_bipush (pc := 6) C (v := 110) dX11_statement_6 rfl <|
    aw_icmp_eq (pc := 8) C (tgt := 49) dX11_statement_8 rfl (fun _ =>
    (aX11_statement_j49 C r1 h2)) (fun _ =>
    aw_iload_n (pc := 11) C (i := 1) dX11_statement_11 rfl rfl <|
    aw_bipush (pc := 12) C (v := 119) dX11_statement_12 rfl <|
    aw_icmp_eq (pc := 14) C (tgt := 49) dX11_statement_14 rfl (fun _ =>
    (aX11_statement_j49 C r1 h2)) (fun _ =>
    aw_iload_n (pc := 17) C (i := 1) dX11_statement_17 rfl rfl <|
    aw_bipush (pc := 18) C (v := 103) dX11_statement_18 rfl <|
    aw_icmp_eq (pc := 20) C (tgt := 49) dX11_statement_20 rfl (fun _ =>
    (aX11_statement_j49 C r1 h2)) (fun _ =>
    aw_iload_n (pc := 23) C (i := 1) dX11_statement_23 rfl rfl <|
    aw_bipush (pc := 24) C (v := 106) dX11_statement_24 rfl <|
    aw_icmp_eq (pc := 26) C (tgt := 49) dX11_statement_26 rfl (fun _ =>
    (aX11_statement_j49 C r1 h2)) (fun _ =>
    aw_iload_n (pc := 29) C (i := 1) dX11_statement_29 rfl rfl <|
    aw_bipush (pc := 30) C (v := 116) dX11_statement_30 rfl <|
    aw_icmp_eq (pc := 32) C (tgt := 49) dX11_statement_32 rfl (fun _ =>
    (aX11_statement_j49 C r1 h2)) (fun _ =>
    aw_iload_n (pc := 35) C (i := 1) dX11_statement_35 rfl rfl <|
    aw_bipush (pc := 36) C (v := 102) dX11_statement_36 rfl <|
    aw_icmp_eq (pc := 38) C (tgt := 49) dX11_statement_38 rfl (fun _ =>
    (aX11_statement_j49 C r1 h2)) (fun _ =>
    aw_iload_n (pc := 41) C (i := 1) dX11_statement_41 rfl rfl <|
    aw_bipush (pc := 42) C (v := 112) dX11_statement_42 rfl <|
    aw_icmp_eq (pc := 44) C (tgt := 49) dX11_statement_44 rfl (fun _ =>
    (aX11_statement_j49 C r1 h2)) (fun _ =>
    aw_iconst (pc := 47) C (v := 0) dX11_statement_47 rfl <|
    aw_zret (pc := 48) C dX11_statement_48 rfl rfl)))))))

abbrev rmX11_comesJumper : Room := { frames := 0, cells := 0, slots := 0, locals := 0 }
def X11_comesJumper (v1 : Int32) (h : AH) : Option (Int32 × AH) :=
    ck v1 384 (if 5 < (h.1 16 v1.toNatClampNeg) then (cz 0 (some (0, h)))
    else (ck (v1 + 2) 384 (if (h.1 16 (v1 + 2).toNatClampNeg) < 40 then (cz 0 (some (0, h)))
    else (ck (v1 + 4) 384 (if 6 < (h.1 16 (v1 + 4).toNatClampNeg) then (cz 0 (some (0, h)))
    else (ck (v1 + 5) 384 (if (h.1 16 (v1 + 5).toNatClampNeg) < 20 then (cz 0 (some (0, h)))
    else (ck (v1 + 6) 384 (if 4 < (h.1 16 (v1 + 6).toNatClampNeg) then (cz 0 (some (0, h)))
    else (ck (v1 + 7) 384 (if 2400 < (h.1 16 (v1 + 7).toNatClampNeg) then (cz 0 (some (0, h)))
    else (if (h.1 0 15) = 4 then (cz 0 (some (0, h)))
    else (if (h.1 0 16) ≤ 0 then (ck v1 384 (ck (h.1 0 15) 4 (vl (sI h 2 (h.1 0 15).toNatClampNeg (h.1 16 v1.toNatClampNeg)) fun h1 =>
    ck (v1 + 1) 384 (ck (h1.1 0 15) 4 (vl (sI h1 3 (h1.1 0 15).toNatClampNeg (h1.1 16 (v1 + 1).toNatClampNeg)) fun h2 =>
    ck (v1 + 2) 384 (ck (h2.1 0 15) 4 (vl (sI h2 4 (h2.1 0 15).toNatClampNeg (h2.1 16 (v1 + 2).toNatClampNeg)) fun h3 =>
    ck (v1 + 3) 384 (ck (h3.1 0 15) 4 (vl (sI h3 5 (h3.1 0 15).toNatClampNeg (h3.1 16 (v1 + 3).toNatClampNeg)) fun h4 =>
    ck (v1 + 4) 384 (ck (h4.1 0 15) 4 (vl (sI h4 6 (h4.1 0 15).toNatClampNeg (h4.1 16 (v1 + 4).toNatClampNeg)) fun h5 =>
    ck (v1 + 5) 384 (ck (h5.1 0 15) 4 (vl (sI h5 7 (h5.1 0 15).toNatClampNeg (h5.1 16 (v1 + 5).toNatClampNeg)) fun h6 =>
    ck (v1 + 6) 384 (ck (h6.1 0 15) 4 (vl (sI h6 8 (h6.1 0 15).toNatClampNeg (h6.1 16 (v1 + 6).toNatClampNeg)) fun h7 =>
    ck (v1 + 7) 384 (ck (h7.1 0 15) 4 (vl (sI h7 9 (h7.1 0 15).toNatClampNeg (h7.1 16 (v1 + 7).toNatClampNeg)) fun h8 =>
    vl (sI h8 0 15 ((h8.1 0 15) + 1)) fun h9 =>
    cz 1 (some (1, h9)))))))))))))))))))
    else (cz 0 (some (0, h))))))))))))))))
set_option maxRecDepth 100000 in
theorem c_X11_comesJumper (l : Launch) (v1 : Int32) : MC l yX11_comesJumper cX11_comesJumper 2 (some .boolean) rmX11_comesJumper ZR [.ref 0, .int v1] rvI (X11_comesJumper v1) :=
  MC.of (own := RX11) (by decide +kernel) rfl (Nat.le_of_ble_eq_true rfl) fun X yd A h _ C =>
    aw_aload_n (pc := 0) C (i := 0) dX11_comesJumper_0 rfl rfl <|
    aw_getR (pc := 1) C (b := 16) dX11_comesJumper_1 fl_X11_55 sR_0 rfl rR_0_20 <|
    aw_iload_n (pc := 4) C (i := 1) dX11_comesJumper_4 rfl rfl <|
    aw_iald (pc := 5) C dX11_comesJumper_5 sR_16 rfl <|
    aw_iconst (pc := 6) C (v := 5) dX11_comesJumper_6 rfl <|
    aw_icmp_gt (pc := 7) C (tgt := 92) dX11_comesJumper_7 rfl (fun _ =>
    aw_iconst (pc := 92) C (v := 0) dX11_comesJumper_92 rfl <|
    aw_zret (pc := 93) C dX11_comesJumper_93 rfl rfl) (fun _ =>
    aw_aload_n (pc := 10) C (i := 0) dX11_comesJumper_10 rfl rfl <|
    aw_getR (pc := 11) C (b := 16) dX11_comesJumper_11 fl_X11_55 sR_0 rfl rR_0_20 <|
    aw_iload_n (pc := 14) C (i := 1) dX11_comesJumper_14 rfl rfl <|
    aw_iconst (pc := 15) C (v := 2) dX11_comesJumper_15 rfl <|
    aw_iadd (pc := 16) C dX11_comesJumper_16 <|
    aw_iald (pc := 17) C dX11_comesJumper_17 sR_16 rfl <|
    aw_bipush (pc := 18) C (v := 40) dX11_comesJumper_18 rfl <|
    aw_icmp_lt (pc := 20) C (tgt := 92) dX11_comesJumper_20 rfl (fun _ =>
    aw_iconst (pc := 92) C (v := 0) dX11_comesJumper_92 rfl <|
    aw_zret (pc := 93) C dX11_comesJumper_93 rfl rfl) (fun _ =>
    aw_aload_n (pc := 23) C (i := 0) dX11_comesJumper_23 rfl rfl <|
    aw_getR (pc := 24) C (b := 16) dX11_comesJumper_24 fl_X11_55 sR_0 rfl rR_0_20 <|
    aw_iload_n (pc := 27) C (i := 1) dX11_comesJumper_27 rfl rfl <|
    aw_iconst (pc := 28) C (v := 4) dX11_comesJumper_28 rfl <|
    aw_iadd (pc := 29) C dX11_comesJumper_29 <|
    aw_iald (pc := 30) C dX11_comesJumper_30 sR_16 rfl <|
    aw_bipush (pc := 31) C (v := 6) dX11_comesJumper_31 rfl <|
    aw_icmp_gt (pc := 33) C (tgt := 92) dX11_comesJumper_33 rfl (fun _ =>
    aw_iconst (pc := 92) C (v := 0) dX11_comesJumper_92 rfl <|
    aw_zret (pc := 93) C dX11_comesJumper_93 rfl rfl) (fun _ =>
    aw_aload_n (pc := 36) C (i := 0) dX11_comesJumper_36 rfl rfl <|
    aw_getR (pc := 37) C (b := 16) dX11_comesJumper_37 fl_X11_55 sR_0 rfl rR_0_20 <|
    aw_iload_n (pc := 40) C (i := 1) dX11_comesJumper_40 rfl rfl <|
    aw_iconst (pc := 41) C (v := 5) dX11_comesJumper_41 rfl <|
    aw_iadd (pc := 42) C dX11_comesJumper_42 <|
    aw_iald (pc := 43) C dX11_comesJumper_43 sR_16 rfl <|
    aw_bipush (pc := 44) C (v := 20) dX11_comesJumper_44 rfl <|
    aw_icmp_lt (pc := 46) C (tgt := 92) dX11_comesJumper_46 rfl (fun _ =>
    aw_iconst (pc := 92) C (v := 0) dX11_comesJumper_92 rfl <|
    aw_zret (pc := 93) C dX11_comesJumper_93 rfl rfl) (fun _ =>
    aw_aload_n (pc := 49) C (i := 0) dX11_comesJumper_49 rfl rfl <|
    aw_getR (pc := 50) C (b := 16) dX11_comesJumper_50 fl_X11_55 sR_0 rfl rR_0_20 <|
    aw_iload_n (pc := 53) C (i := 1) dX11_comesJumper_53 rfl rfl <|
    aw_bipush (pc := 54) C (v := 6) dX11_comesJumper_54 rfl <|
    aw_iadd (pc := 56) C dX11_comesJumper_56 <|
    aw_iald (pc := 57) C dX11_comesJumper_57 sR_16 rfl <|
    aw_iconst (pc := 58) C (v := 4) dX11_comesJumper_58 rfl <|
    aw_icmp_gt (pc := 59) C (tgt := 92) dX11_comesJumper_59 rfl (fun _ =>
    aw_iconst (pc := 92) C (v := 0) dX11_comesJumper_92 rfl <|
    aw_zret (pc := 93) C dX11_comesJumper_93 rfl rfl) (fun _ =>
    aw_aload_n (pc := 62) C (i := 0) dX11_comesJumper_62 rfl rfl <|
    aw_getR (pc := 63) C (b := 16) dX11_comesJumper_63 fl_X11_55 sR_0 rfl rR_0_20 <|
    aw_iload_n (pc := 66) C (i := 1) dX11_comesJumper_66 rfl rfl <|
    aw_bipush (pc := 67) C (v := 7) dX11_comesJumper_67 rfl <|
    aw_iadd (pc := 69) C dX11_comesJumper_69 <|
    aw_iald (pc := 70) C dX11_comesJumper_70 sR_16 rfl <|
    aw_sipush (pc := 71) C (v := 2400) dX11_comesJumper_71 rfl <|
    aw_icmp_gt (pc := 74) C (tgt := 92) dX11_comesJumper_74 rfl (fun _ =>
    aw_iconst (pc := 92) C (v := 0) dX11_comesJumper_92 rfl <|
    aw_zret (pc := 93) C dX11_comesJumper_93 rfl rfl) (fun _ =>
    aw_aload_n (pc := 77) C (i := 0) dX11_comesJumper_77 rfl rfl <|
    aw_getI (pc := 78) C dX11_comesJumper_78 fl_X11_105 sR_0 rfl <|
    aw_iconst (pc := 81) C (v := 4) dX11_comesJumper_81 rfl <|
    aw_icmp_eq (pc := 82) C (tgt := 92) dX11_comesJumper_82 rfl (fun _ =>
    aw_iconst (pc := 92) C (v := 0) dX11_comesJumper_92 rfl <|
    aw_zret (pc := 93) C dX11_comesJumper_93 rfl rfl) (fun _ =>
    aw_aload_n (pc := 85) C (i := 0) dX11_comesJumper_85 rfl rfl <|
    aw_getI (pc := 86) C dX11_comesJumper_86 fl_X11_147 sR_0 rfl <|
    aw_if_le (pc := 89) C (tgt := 94) dX11_comesJumper_89 rfl (fun _ =>
    aw_aload_n (pc := 94) C (i := 0) dX11_comesJumper_94 rfl rfl <|
    aw_getR (pc := 95) C (b := 2) dX11_comesJumper_95 fl_X11_13 sR_0 rfl rR_0_1 <|
    aw_aload_n (pc := 98) C (i := 0) dX11_comesJumper_98 rfl rfl <|
    aw_getI (pc := 99) C dX11_comesJumper_99 fl_X11_105 sR_0 rfl <|
    aw_aload_n (pc := 102) C (i := 0) dX11_comesJumper_102 rfl rfl <|
    aw_getR (pc := 103) C (b := 16) dX11_comesJumper_103 fl_X11_55 sR_0 rfl rR_0_20 <|
    aw_iload_n (pc := 106) C (i := 1) dX11_comesJumper_106 rfl rfl <|
    aw_iald (pc := 107) C dX11_comesJumper_107 sR_16 rfl <|
    aw_iast (pc := 108) C dX11_comesJumper_108 sR_2 rfl fun h1 =>
    aw_aload_n (pc := 109) C (i := 0) dX11_comesJumper_109 rfl rfl <|
    aw_getR (pc := 110) C (b := 3) dX11_comesJumper_110 fl_X11_16 sR_0 rfl rR_0_2 <|
    aw_aload_n (pc := 113) C (i := 0) dX11_comesJumper_113 rfl rfl <|
    aw_getI (pc := 114) C dX11_comesJumper_114 fl_X11_105 sR_0 rfl <|
    aw_aload_n (pc := 117) C (i := 0) dX11_comesJumper_117 rfl rfl <|
    aw_getR (pc := 118) C (b := 16) dX11_comesJumper_118 fl_X11_55 sR_0 rfl rR_0_20 <|
    aw_iload_n (pc := 121) C (i := 1) dX11_comesJumper_121 rfl rfl <|
    aw_iconst (pc := 122) C (v := 1) dX11_comesJumper_122 rfl <|
    aw_iadd (pc := 123) C dX11_comesJumper_123 <|
    aw_iald (pc := 124) C dX11_comesJumper_124 sR_16 rfl <|
    aw_iast (pc := 125) C dX11_comesJumper_125 sR_3 rfl fun h2 =>
    aw_aload_n (pc := 126) C (i := 0) dX11_comesJumper_126 rfl rfl <|
    aw_getR (pc := 127) C (b := 4) dX11_comesJumper_127 fl_X11_19 sR_0 rfl rR_0_3 <|
    aw_aload_n (pc := 130) C (i := 0) dX11_comesJumper_130 rfl rfl <|
    aw_getI (pc := 131) C dX11_comesJumper_131 fl_X11_105 sR_0 rfl <|
    aw_aload_n (pc := 134) C (i := 0) dX11_comesJumper_134 rfl rfl <|
    aw_getR (pc := 135) C (b := 16) dX11_comesJumper_135 fl_X11_55 sR_0 rfl rR_0_20 <|
    aw_iload_n (pc := 138) C (i := 1) dX11_comesJumper_138 rfl rfl <|
    aw_iconst (pc := 139) C (v := 2) dX11_comesJumper_139 rfl <|
    aw_iadd (pc := 140) C dX11_comesJumper_140 <|
    aw_iald (pc := 141) C dX11_comesJumper_141 sR_16 rfl <|
    aw_iast (pc := 142) C dX11_comesJumper_142 sR_4 rfl fun h3 =>
    aw_aload_n (pc := 143) C (i := 0) dX11_comesJumper_143 rfl rfl <|
    aw_getR (pc := 144) C (b := 5) dX11_comesJumper_144 fl_X11_22 sR_0 rfl rR_0_4 <|
    aw_aload_n (pc := 147) C (i := 0) dX11_comesJumper_147 rfl rfl <|
    aw_getI (pc := 148) C dX11_comesJumper_148 fl_X11_105 sR_0 rfl <|
    aw_aload_n (pc := 151) C (i := 0) dX11_comesJumper_151 rfl rfl <|
    aw_getR (pc := 152) C (b := 16) dX11_comesJumper_152 fl_X11_55 sR_0 rfl rR_0_20 <|
    aw_iload_n (pc := 155) C (i := 1) dX11_comesJumper_155 rfl rfl <|
    aw_iconst (pc := 156) C (v := 3) dX11_comesJumper_156 rfl <|
    aw_iadd (pc := 157) C dX11_comesJumper_157 <|
    aw_iald (pc := 158) C dX11_comesJumper_158 sR_16 rfl <|
    aw_iast (pc := 159) C dX11_comesJumper_159 sR_5 rfl fun h4 =>
    aw_aload_n (pc := 160) C (i := 0) dX11_comesJumper_160 rfl rfl <|
    aw_getR (pc := 161) C (b := 6) dX11_comesJumper_161 fl_X11_25 sR_0 rfl rR_0_5 <|
    aw_aload_n (pc := 164) C (i := 0) dX11_comesJumper_164 rfl rfl <|
    aw_getI (pc := 165) C dX11_comesJumper_165 fl_X11_105 sR_0 rfl <|
    aw_aload_n (pc := 168) C (i := 0) dX11_comesJumper_168 rfl rfl <|
    aw_getR (pc := 169) C (b := 16) dX11_comesJumper_169 fl_X11_55 sR_0 rfl rR_0_20 <|
    aw_iload_n (pc := 172) C (i := 1) dX11_comesJumper_172 rfl rfl <|
    aw_iconst (pc := 173) C (v := 4) dX11_comesJumper_173 rfl <|
    aw_iadd (pc := 174) C dX11_comesJumper_174 <|
    aw_iald (pc := 175) C dX11_comesJumper_175 sR_16 rfl <|
    aw_iast (pc := 176) C dX11_comesJumper_176 sR_6 rfl fun h5 =>
    aw_aload_n (pc := 177) C (i := 0) dX11_comesJumper_177 rfl rfl <|
    aw_getR (pc := 178) C (b := 7) dX11_comesJumper_178 fl_X11_28 sR_0 rfl rR_0_6 <|
    aw_aload_n (pc := 181) C (i := 0) dX11_comesJumper_181 rfl rfl <|
    aw_getI (pc := 182) C dX11_comesJumper_182 fl_X11_105 sR_0 rfl <|
    aw_aload_n (pc := 185) C (i := 0) dX11_comesJumper_185 rfl rfl <|
    aw_getR (pc := 186) C (b := 16) dX11_comesJumper_186 fl_X11_55 sR_0 rfl rR_0_20 <|
    aw_iload_n (pc := 189) C (i := 1) dX11_comesJumper_189 rfl rfl <|
    aw_iconst (pc := 190) C (v := 5) dX11_comesJumper_190 rfl <|
    aw_iadd (pc := 191) C dX11_comesJumper_191 <|
    aw_iald (pc := 192) C dX11_comesJumper_192 sR_16 rfl <|
    aw_iast (pc := 193) C dX11_comesJumper_193 sR_7 rfl fun h6 =>
    aw_aload_n (pc := 194) C (i := 0) dX11_comesJumper_194 rfl rfl <|
    aw_getR (pc := 195) C (b := 8) dX11_comesJumper_195 fl_X11_31 sR_0 rfl rR_0_7 <|
    aw_aload_n (pc := 198) C (i := 0) dX11_comesJumper_198 rfl rfl <|
    aw_getI (pc := 199) C dX11_comesJumper_199 fl_X11_105 sR_0 rfl <|
    aw_aload_n (pc := 202) C (i := 0) dX11_comesJumper_202 rfl rfl <|
    aw_getR (pc := 203) C (b := 16) dX11_comesJumper_203 fl_X11_55 sR_0 rfl rR_0_20 <|
    aw_iload_n (pc := 206) C (i := 1) dX11_comesJumper_206 rfl rfl <|
    aw_bipush (pc := 207) C (v := 6) dX11_comesJumper_207 rfl <|
    aw_iadd (pc := 209) C dX11_comesJumper_209 <|
    aw_iald (pc := 210) C dX11_comesJumper_210 sR_16 rfl <|
    aw_iast (pc := 211) C dX11_comesJumper_211 sR_8 rfl fun h7 =>
    aw_aload_n (pc := 212) C (i := 0) dX11_comesJumper_212 rfl rfl <|
    aw_getR (pc := 213) C (b := 9) dX11_comesJumper_213 fl_X11_34 sR_0 rfl rR_0_8 <|
    aw_aload_n (pc := 216) C (i := 0) dX11_comesJumper_216 rfl rfl <|
    aw_getI (pc := 217) C dX11_comesJumper_217 fl_X11_105 sR_0 rfl <|
    aw_aload_n (pc := 220) C (i := 0) dX11_comesJumper_220 rfl rfl <|
    aw_getR (pc := 221) C (b := 16) dX11_comesJumper_221 fl_X11_55 sR_0 rfl rR_0_20 <|
    aw_iload_n (pc := 224) C (i := 1) dX11_comesJumper_224 rfl rfl <|
    aw_bipush (pc := 225) C (v := 7) dX11_comesJumper_225 rfl <|
    aw_iadd (pc := 227) C dX11_comesJumper_227 <|
    aw_iald (pc := 228) C dX11_comesJumper_228 sR_16 rfl <|
    aw_iast (pc := 229) C dX11_comesJumper_229 sR_9 rfl fun h8 =>
    aw_aload_n (pc := 230) C (i := 0) dX11_comesJumper_230 rfl rfl <|
    aw_dup (pc := 231) C dX11_comesJumper_231 rfl <|
    aw_getI (pc := 232) C dX11_comesJumper_232 fl_X11_105 sR_0 rfl <|
    aw_iconst (pc := 235) C (v := 1) dX11_comesJumper_235 rfl <|
    aw_iadd (pc := 236) C dX11_comesJumper_236 <|
    aw_putI (pc := 237) C dX11_comesJumper_237 fp_X11_105 sR_0 rfl fun h9 =>
    aw_iconst (pc := 240) C (v := 1) dX11_comesJumper_240 rfl <|
    aw_zret (pc := 241) C dX11_comesJumper_241 rfl rfl) (fun _ =>
    aw_iconst (pc := 92) C (v := 0) dX11_comesJumper_92 rfl <|
    aw_zret (pc := 93) C dX11_comesJumper_93 rfl rfl))))))))
end
section
abbrev rmX11_finalists : Room := { frames := 0, cells := 0, slots := 0, locals := 0 }
def X11_finalists  (h : AH) : Option (Int32 × AH) :=
    if (h.1 0 15) ≤ (h.1 0 13) then (some ((h.1 0 15), h))
    else (some ((h.1 0 13), h))
set_option maxRecDepth 100000 in
theorem c_X11_finalists (l : Launch)  : MC l yX11_finalists cX11_finalists 1 (some .int) rmX11_finalists ZR [.ref 0] rvI (X11_finalists) :=
  MC.of (own := RX11) (by decide +kernel) rfl (Nat.le_of_ble_eq_true rfl) fun X yd A h _ C =>
    aw_aload_n (pc := 0) C (i := 0) dX11_finalists_0 rfl rfl <|
    aw_getI (pc := 1) C dX11_finalists_1 fl_X11_99 sR_0 rfl <|
    aw_aload_n (pc := 4) C (i := 0) dX11_finalists_4 rfl rfl <|
    aw_getI (pc := 5) C dX11_finalists_5 fl_X11_105 sR_0 rfl <|
    aw_icmp_ge (pc := 8) C (tgt := 18) dX11_finalists_8 rfl (fun _ =>
    aw_aload_n (pc := 18) C (i := 0) dX11_finalists_18 rfl rfl <|
    aw_getI (pc := 19) C dX11_finalists_19 fl_X11_105 sR_0 rfl <|
    aw_iret (pc := 22) C dX11_finalists_22 rfl rfl) (fun _ =>
    aw_aload_n (pc := 11) C (i := 0) dX11_finalists_11 rfl rfl <|
    aw_getI (pc := 12) C dX11_finalists_12 fl_X11_99 sR_0 rfl <|
    aw_goto (pc := 15) C (tgt := 22) dX11_finalists_15 rfl <|
    aw_iret (pc := 22) C dX11_finalists_22 rfl rfl)

abbrev rmX11_lengthOf : Room := { frames := 1, cells := 0, slots := 0, locals := 20 }
def X11_lengthOf (v1 : Int32) (v2 : Int32) (v3 : Int32) (h : AH) : Option (Int32 × AH) :=
    ck v1 4 (ck v1 4 (bd (X11_atLeast0 (((((4 * (h.1 7 v1.toNatClampNeg)) + (2 * (h.1 0 14))) + (h.1 3 v1.toNatClampNeg)) - v2) - (2 * v3)) h) fun r1 h2 =>
    bd (X11_atLeast0 (r1 - 3) h2) fun r3 h4 =>
    ck v1 4 (vl (h4.1 2 v1.toNatClampNeg) fun y5 =>
    if y5 = 1 then (some (r3, h4))
    else if y5 = 2 then (some ((r1 + 3), h4))
    else if y5 = 3 then (some (r3, h4))
    else if y5 = 4 then (bd (X11_atLeast0 ((r1 + 3) + (h4.1 0 14)) h4) fun r9 h10 =>
    some (r9, h10))
    else if y5 = 5 then (some ((r3 + 1), h4))
    else (some (r1, h4)))))
set_option maxRecDepth 100000 in
theorem c_X11_lengthOf (l : Launch) (v1 : Int32) (v2 : Int32) (v3 : Int32) : MC l yX11_lengthOf cX11_lengthOf 6 (some .int) rmX11_lengthOf ZR [.ref 0, .int v1, .int v2, .int v3] rvI (X11_lengthOf v1 v2 v3) :=
  MC.of (own := RX11) (by decide +kernel) rfl (Nat.le_of_ble_eq_true rfl) fun X yd A h _ C =>
    aw_iconst (pc := 0) C (v := 4) dX11_lengthOf_0 rfl <|
    aw_aload_n (pc := 1) C (i := 0) dX11_lengthOf_1 rfl rfl <|
    aw_getR (pc := 2) C (b := 7) dX11_lengthOf_2 fl_X11_28 sR_0 rfl rR_0_6 <|
    aw_iload_n (pc := 5) C (i := 1) dX11_lengthOf_5 rfl rfl <|
    aw_iald (pc := 6) C dX11_lengthOf_6 sR_7 rfl <|
    aw_imul (pc := 7) C dX11_lengthOf_7 <|
    aw_iconst (pc := 8) C (v := 2) dX11_lengthOf_8 rfl <|
    aw_aload_n (pc := 9) C (i := 0) dX11_lengthOf_9 rfl rfl <|
    aw_getI (pc := 10) C dX11_lengthOf_10 fl_X11_157 sR_0 rfl <|
    aw_imul (pc := 13) C dX11_lengthOf_13 <|
    aw_iadd (pc := 14) C dX11_lengthOf_14 <|
    aw_aload_n (pc := 15) C (i := 0) dX11_lengthOf_15 rfl rfl <|
    aw_getR (pc := 16) C (b := 3) dX11_lengthOf_16 fl_X11_16 sR_0 rfl rR_0_2 <|
    aw_iload_n (pc := 19) C (i := 1) dX11_lengthOf_19 rfl rfl <|
    aw_iald (pc := 20) C dX11_lengthOf_20 sR_3 rfl <|
    aw_iadd (pc := 21) C dX11_lengthOf_21 <|
    aw_iload_n (pc := 22) C (i := 2) dX11_lengthOf_22 rfl rfl <|
    aw_isub (pc := 23) C dX11_lengthOf_23 <|
    aw_iconst (pc := 24) C (v := 2) dX11_lengthOf_24 rfl <|
    aw_iload_n (pc := 25) C (i := 3) dX11_lengthOf_25 rfl rfl <|
    aw_imul (pc := 26) C dX11_lengthOf_26 <|
    aw_isub (pc := 27) C dX11_lengthOf_27 <|
    aw_callF (pc := 28) C (cr_S (rest := []) (F := (X11_atLeast0 (((((4 * (h.1 7 v1.toNatClampNeg)) + (2 * (h.1 0 14))) + (h.1 3 v1.toNatClampNeg)) - v2) - (2 * v3)))) C (c_X11_atLeast0 X.2.1 (((((4 * (h.1 7 v1.toNatClampNeg)) + (2 * (h.1 0 14))) + (h.1 3 v1.toNatClampNeg)) - v2) - (2 * v3))) dX11_lengthOf_28 mf_X11_atLeast0 ml_X11_204 st_X11_atLeast0 ⟨(Nat.le_of_ble_eq_true rfl), (Nat.le_of_ble_eq_true rfl)⟩ rfl rfl (Nat.le_of_ble_eq_true rfl)) rfl rfl rfl (Nat.zero_le _) (Nat.zero_le _) fun r1 h2 =>
    aw_istore (pc := 31) C (i := 4) (lv' := [(0, .ref 0), (1, .int v1), (2, .int v2), (3, .int v3), (4, .int r1)]) dX11_lengthOf_31 (by decide) rfl <|
    aw_iload (pc := 33) C (i := 4) dX11_lengthOf_33 rfl <|
    aw_iconst (pc := 35) C (v := 3) dX11_lengthOf_35 rfl <|
    aw_isub (pc := 36) C dX11_lengthOf_36 <|
    aw_callF (pc := 37) C (cr_S (rest := []) (F := (X11_atLeast0 (r1 - 3))) C (c_X11_atLeast0 X.2.1 (r1 - 3)) dX11_lengthOf_37 mf_X11_atLeast0 ml_X11_204 st_X11_atLeast0 ⟨(Nat.le_of_ble_eq_true rfl), (Nat.le_of_ble_eq_true rfl)⟩ rfl rfl (Nat.le_of_ble_eq_true rfl)) rfl rfl rfl (Nat.zero_le _) (Nat.zero_le _) fun r3 h4 =>
    aw_istore (pc := 40) C (i := 5) (lv' := [(0, .ref 0), (1, .int v1), (2, .int v2), (3, .int v3), (4, .int r1), (5, .int r3)]) dX11_lengthOf_40 (by decide) rfl <|
    aw_aload_n (pc := 42) C (i := 0) dX11_lengthOf_42 rfl rfl <|
    aw_getR (pc := 43) C (b := 2) dX11_lengthOf_43 fl_X11_13 sR_0 rfl rR_0_1 <|
    aw_iload_n (pc := 46) C (i := 1) dX11_lengthOf_46 rfl rfl <|
    aw_iald (pc := 47) C dX11_lengthOf_47 sR_2 rfl <|
    aw_vlI fun y5 =>
    aw_if (fun c6 => aw_tswA (pc := 48) C (off := 36) (tg := 84) 1 dX11_lengthOf_48 (by rw [c6]; rfl) (by decide) (by decide) rfl rfl (aw_iload (pc := 84) C (i := 5) dX11_lengthOf_84 rfl <|
    aw_iret (pc := 86) C dX11_lengthOf_86 rfl rfl)) (fun c6 =>
    aw_if (fun c7 => aw_tswA (pc := 48) C (off := 39) (tg := 87) 2 dX11_lengthOf_48 (by rw [c7]; rfl) (by decide) (by decide) rfl rfl (aw_iload (pc := 87) C (i := 4) dX11_lengthOf_87 rfl <|
    aw_iconst (pc := 89) C (v := 3) dX11_lengthOf_89 rfl <|
    aw_iadd (pc := 90) C dX11_lengthOf_90 <|
    aw_iret (pc := 91) C dX11_lengthOf_91 rfl rfl)) (fun c7 =>
    aw_if (fun c8 => aw_tswA (pc := 48) C (off := 36) (tg := 84) 3 dX11_lengthOf_48 (by rw [c8]; rfl) (by decide) (by decide) rfl rfl (aw_iload (pc := 84) C (i := 5) dX11_lengthOf_84 rfl <|
    aw_iret (pc := 86) C dX11_lengthOf_86 rfl rfl)) (fun c8 =>
    aw_if (fun c11 => aw_tswA (pc := 48) C (off := 44) (tg := 92) 4 dX11_lengthOf_48 (by rw [c11]; rfl) (by decide) (by decide) rfl rfl (aw_iload (pc := 92) C (i := 4) dX11_lengthOf_92 rfl <|
    aw_iconst (pc := 94) C (v := 3) dX11_lengthOf_94 rfl <|
    aw_iadd (pc := 95) C dX11_lengthOf_95 <|
    aw_aload_n (pc := 96) C (i := 0) dX11_lengthOf_96 rfl rfl <|
    aw_getI (pc := 97) C dX11_lengthOf_97 fl_X11_157 sR_0 rfl <|
    aw_iadd (pc := 100) C dX11_lengthOf_100 <|
    aw_callF (pc := 101) C (cr_S (rest := []) (F := (X11_atLeast0 ((r1 + 3) + (h4.1 0 14)))) C (c_X11_atLeast0 X.2.1 ((r1 + 3) + (h4.1 0 14))) dX11_lengthOf_101 mf_X11_atLeast0 ml_X11_204 st_X11_atLeast0 ⟨(Nat.le_of_ble_eq_true rfl), (Nat.le_of_ble_eq_true rfl)⟩ rfl rfl (Nat.le_of_ble_eq_true rfl)) rfl rfl rfl (Nat.zero_le _) (Nat.zero_le _) fun r9 h10 =>
    aw_iret (pc := 104) C dX11_lengthOf_104 rfl rfl)) (fun c11 =>
    aw_if (fun c12 => aw_tswA (pc := 48) C (off := 57) (tg := 105) 5 dX11_lengthOf_48 (by rw [c12]; rfl) (by decide) (by decide) rfl rfl (aw_iload (pc := 105) C (i := 5) dX11_lengthOf_105 rfl <|
    aw_iconst (pc := 107) C (v := 1) dX11_lengthOf_107 rfl <|
    aw_iadd (pc := 108) C dX11_lengthOf_108 <|
    aw_iret (pc := 109) C dX11_lengthOf_109 rfl rfl)) (fun c12 =>
    aw_tswD (pc := 48) C (N := 5) (td := 110) [1, 2, 3, 4, 5] dX11_lengthOf_48 (List.forall_mem_cons.mpr ⟨ti_ne c6 rfl, List.forall_mem_cons.mpr ⟨ti_ne c7 rfl, List.forall_mem_cons.mpr ⟨ti_ne c8 rfl, List.forall_mem_cons.mpr ⟨ti_ne c11 rfl, List.forall_mem_cons.mpr ⟨ti_ne c12 rfl, fun _ hz => by cases hz⟩⟩⟩⟩⟩) rfl (by decide) rfl (aw_iload (pc := 110) C (i := 4) dX11_lengthOf_110 rfl <|
    aw_iret (pc := 112) C dX11_lengthOf_112 rfl rfl))))))

abbrev rmX11_triedAs : Room := { frames := 2, cells := 0, slots := 0, locals := 45 }
def X11_triedAs (v1 : Int32) (v2 : Int32) (h : AH) : Option (Int32 × AH) :=
    ck v1 24 (if (h.1 11 v1.toNatClampNeg) = (-9) then (if v2 = 2 then (ck v1 24 (bd (X11_lengthOf (h.1 10 v1.toNatClampNeg) 0 0 h) fun r1 h2 =>
    some (r1, h2)))
    else (some (0, h)))
    else (ck v1 24 (if (h.1 11 v1.toNatClampNeg) = (-8) then (some (0, h))
    else (ck v1 24 (if v2 = 1 then (ck v1 24 (some (((h.1 11 v1.toNatClampNeg) + (h.1 12 v1.toNatClampNeg)), h)))
    else (some (((h.1 11 v1.toNatClampNeg) + 0), h)))))))
set_option maxRecDepth 100000 in
theorem c_X11_triedAs (l : Launch) (v1 : Int32) (v2 : Int32) : MC l yX11_triedAs cX11_triedAs 3 (some .int) rmX11_triedAs ZR [.ref 0, .int v1, .int v2] rvI (X11_triedAs v1 v2) :=
  MC.of (own := RX11) (by decide +kernel) rfl (Nat.le_of_ble_eq_true rfl) fun X yd A h _ C =>
    aw_aload_n (pc := 0) C (i := 0) dX11_triedAs_0 rfl rfl <|
    aw_getR (pc := 1) C (b := 11) dX11_triedAs_1 fl_X11_40 sR_0 rfl rR_0_10 <|
    aw_iload_n (pc := 4) C (i := 1) dX11_triedAs_4 rfl rfl <|
    aw_iald (pc := 5) C dX11_triedAs_5 sR_11 rfl <|
    aw_bipush (pc := 6) C (v := (-9)) dX11_triedAs_6 rfl <|
    aw_icmp_ne (pc := 8) C (tgt := 33) dX11_triedAs_8 rfl (fun _ =>
    aw_iload_n (pc := 11) C (i := 2) dX11_triedAs_11 rfl rfl <|
    aw_iconst (pc := 12) C (v := 2) dX11_triedAs_12 rfl <|
    aw_icmp_ne (pc := 13) C (tgt := 31) dX11_triedAs_13 rfl (fun _ =>
    aw_aload_n (pc := 16) C (i := 0) dX11_triedAs_16 rfl rfl <|
    aw_aload_n (pc := 17) C (i := 0) dX11_triedAs_17 rfl rfl <|
    aw_getR (pc := 18) C (b := 10) dX11_triedAs_18 fl_X11_37 sR_0 rfl rR_0_9 <|
    aw_iload_n (pc := 21) C (i := 1) dX11_triedAs_21 rfl rfl <|
    aw_iald (pc := 22) C dX11_triedAs_22 sR_10 rfl <|
    aw_iconst (pc := 23) C (v := 0) dX11_triedAs_23 rfl <|
    aw_iconst (pc := 24) C (v := 0) dX11_triedAs_24 rfl <|
    aw_callF (pc := 25) C (cr_V (rest := []) (F := (X11_lengthOf (h.1 10 v1.toNatClampNeg) 0 0)) C (c_X11_lengthOf X.2.1 (h.1 10 v1.toNatClampNeg) 0 0) dX11_triedAs_25 mf_X11_lengthOf ml_X11_163 im_X11_lengthOf se_X11_lengthOf sR_0 rfl ⟨(Nat.le_of_ble_eq_true rfl), (Nat.le_of_ble_eq_true rfl)⟩ rfl rfl (Nat.le_of_ble_eq_true rfl)) rfl rfl rfl (Nat.zero_le _) (Nat.zero_le _) fun r1 h2 =>
    aw_goto (pc := 28) C (tgt := 32) dX11_triedAs_28 rfl <|
    aw_iret (pc := 32) C dX11_triedAs_32 rfl rfl) (fun _ =>
    aw_iconst (pc := 31) C (v := 0) dX11_triedAs_31 rfl <|
    aw_iret (pc := 32) C dX11_triedAs_32 rfl rfl)) (fun _ =>
    aw_aload_n (pc := 33) C (i := 0) dX11_triedAs_33 rfl rfl <|
    aw_getR (pc := 34) C (b := 11) dX11_triedAs_34 fl_X11_40 sR_0 rfl rR_0_10 <|
    aw_iload_n (pc := 37) C (i := 1) dX11_triedAs_37 rfl rfl <|
    aw_iald (pc := 38) C dX11_triedAs_38 sR_11 rfl <|
    aw_bipush (pc := 39) C (v := (-8)) dX11_triedAs_39 rfl <|
    aw_icmp_ne (pc := 41) C (tgt := 46) dX11_triedAs_41 rfl (fun _ =>
    aw_iconst (pc := 44) C (v := 0) dX11_triedAs_44 rfl <|
    aw_iret (pc := 45) C dX11_triedAs_45 rfl rfl) (fun _ =>
    aw_aload_n (pc := 46) C (i := 0) dX11_triedAs_46 rfl rfl <|
    aw_getR (pc := 47) C (b := 11) dX11_triedAs_47 fl_X11_40 sR_0 rfl rR_0_10 <|
    aw_iload_n (pc := 50) C (i := 1) dX11_triedAs_50 rfl rfl <|
    aw_iald (pc := 51) C dX11_triedAs_51 sR_11 rfl <|
    aw_iload_n (pc := 52) C (i := 2) dX11_triedAs_52 rfl rfl <|
    aw_iconst (pc := 53) C (v := 1) dX11_triedAs_53 rfl <|
    aw_icmp_ne (pc := 54) C (tgt := 66) dX11_triedAs_54 rfl (fun _ =>
    aw_aload_n (pc := 57) C (i := 0) dX11_triedAs_57 rfl rfl <|
    aw_getR (pc := 58) C (b := 12) dX11_triedAs_58 fl_X11_43 sR_0 rfl rR_0_11 <|
    aw_iload_n (pc := 61) C (i := 1) dX11_triedAs_61 rfl rfl <|
    aw_iald (pc := 62) C dX11_triedAs_62 sR_12 rfl <|
    aw_goto (pc := 63) C (tgt := 67) dX11_triedAs_63 rfl <|
    aw_iadd (pc := 67) C dX11_triedAs_67 <|
    aw_iret (pc := 68) C dX11_triedAs_68 rfl rfl) (fun _ =>
    aw_iconst (pc := 66) C (v := 0) dX11_triedAs_66 rfl <|
    aw_iadd (pc := 67) C dX11_triedAs_67 <|
    aw_iret (pc := 68) C dX11_triedAs_68 rfl rfl)))

abbrev rmX11_comesLength : Room := { frames := 0, cells := 0, slots := 0, locals := 0 }
def X11_comesLength (v1 : Int32) (v2 : Int32) (h : AH) : Option (Unit × AH) :=
    ck v1 4 (if v2 ≤ (h.1 20 v1.toNatClampNeg) then (ck v1 4 (if v2 ≤ (h.1 21 v1.toNatClampNeg) then (some ((), h))
    else (ck v1 4 (vl (sI h 21 v1.toNatClampNeg v2) fun h1 =>
    some ((), h1)))))
    else (ck v1 4 (ck v1 4 (vl (sI h 21 v1.toNatClampNeg (h.1 20 v1.toNatClampNeg)) fun h2 =>
    ck v1 4 (vl (sI h2 20 v1.toNatClampNeg v2) fun h3 =>
    some ((), h3))))))
set_option maxRecDepth 100000 in
theorem c_X11_comesLength (l : Launch) (v1 : Int32) (v2 : Int32) : MC l yX11_comesLength cX11_comesLength 3 none rmX11_comesLength ZR [.ref 0, .int v1, .int v2] rvV (X11_comesLength v1 v2) :=
  MC.of (own := RX11) (by decide +kernel) rfl (Nat.le_of_ble_eq_true rfl) fun X yd A h _ C =>
    aw_iload_n (pc := 0) C (i := 2) dX11_comesLength_0 rfl rfl <|
    aw_aload_n (pc := 1) C (i := 0) dX11_comesLength_1 rfl rfl <|
    aw_getR (pc := 2) C (b := 20) dX11_comesLength_2 fl_X11_68 sR_0 rfl rR_0_30 <|
    aw_iload_n (pc := 5) C (i := 1) dX11_comesLength_5 rfl rfl <|
    aw_iald (pc := 6) C dX11_comesLength_6 sR_20 rfl <|
    aw_icmp_le (pc := 7) C (tgt := 32) dX11_comesLength_7 rfl (fun _ =>
    aw_iload_n (pc := 32) C (i := 2) dX11_comesLength_32 rfl rfl <|
    aw_aload_n (pc := 33) C (i := 0) dX11_comesLength_33 rfl rfl <|
    aw_getR (pc := 34) C (b := 21) dX11_comesLength_34 fl_X11_71 sR_0 rfl rR_0_31 <|
    aw_iload_n (pc := 37) C (i := 1) dX11_comesLength_37 rfl rfl <|
    aw_iald (pc := 38) C dX11_comesLength_38 sR_21 rfl <|
    aw_icmp_le (pc := 39) C (tgt := 49) dX11_comesLength_39 rfl (fun _ =>
    aw_vret (pc := 49) C dX11_comesLength_49 rfl rfl) (fun _ =>
    aw_aload_n (pc := 42) C (i := 0) dX11_comesLength_42 rfl rfl <|
    aw_getR (pc := 43) C (b := 21) dX11_comesLength_43 fl_X11_71 sR_0 rfl rR_0_31 <|
    aw_iload_n (pc := 46) C (i := 1) dX11_comesLength_46 rfl rfl <|
    aw_iload_n (pc := 47) C (i := 2) dX11_comesLength_47 rfl rfl <|
    aw_iast (pc := 48) C dX11_comesLength_48 sR_21 rfl fun h1 =>
    aw_vret (pc := 49) C dX11_comesLength_49 rfl rfl)) (fun _ =>
    aw_aload_n (pc := 10) C (i := 0) dX11_comesLength_10 rfl rfl <|
    aw_getR (pc := 11) C (b := 21) dX11_comesLength_11 fl_X11_71 sR_0 rfl rR_0_31 <|
    aw_iload_n (pc := 14) C (i := 1) dX11_comesLength_14 rfl rfl <|
    aw_aload_n (pc := 15) C (i := 0) dX11_comesLength_15 rfl rfl <|
    aw_getR (pc := 16) C (b := 20) dX11_comesLength_16 fl_X11_68 sR_0 rfl rR_0_30 <|
    aw_iload_n (pc := 19) C (i := 1) dX11_comesLength_19 rfl rfl <|
    aw_iald (pc := 20) C dX11_comesLength_20 sR_20 rfl <|
    aw_iast (pc := 21) C dX11_comesLength_21 sR_21 rfl fun h2 =>
    aw_aload_n (pc := 22) C (i := 0) dX11_comesLength_22 rfl rfl <|
    aw_getR (pc := 23) C (b := 20) dX11_comesLength_23 fl_X11_68 sR_0 rfl rR_0_30 <|
    aw_iload_n (pc := 26) C (i := 1) dX11_comesLength_26 rfl rfl <|
    aw_iload_n (pc := 27) C (i := 2) dX11_comesLength_27 rfl rfl <|
    aw_iast (pc := 28) C dX11_comesLength_28 sR_20 rfl fun h3 =>
    aw_goto (pc := 29) C (tgt := 49) dX11_comesLength_29 rfl <|
    aw_vret (pc := 49) C dX11_comesLength_49 rfl rfl)

abbrev rmX11_findBest : Room := { frames := 3, cells := 0, slots := 0, locals := 67 }
def X11_findBest_l29  (v1 : Int32) (v2 : Int32) : Nat → Int32 → AH → Option (Unit × AH)
  | 0, _, _ => none
  | n + 1, v3, h =>
    if v2 ≤ v3 then (some ((), h))
    else (ck v3 24 (bd (X11_triedAs v3 v1 h) fun r1 h2 =>
    bd (X11_comesLength (h.1 10 v3.toNatClampNeg) r1 h2) fun _ h4 =>
    vl (v3 + 1) fun x5 =>
    (X11_findBest_l29 v1 v2 n) x5 h4))
set_option maxRecDepth 100000 in
theorem aX11_findBest_l29 {X : MCx} {yd : Dyn} {A : Nat → Prop} (C : OK X cX11_findBest RX11 4 none rmX11_findBest A)  (v1 : Int32) (v2 : Int32) : ∀ (n : Nat) (v3 : Int32) (h : AH), AW X 4 ZR yd A 0 0 (QF X rmX11_findBest ZR yd rvV A) 29 [(0, .ref 0), (1, .int v1), (2, .int v2), (3, .int v3)] [] h (X11_findBest_l29 v1 v2 n v3 h) := by
  intro n
  induction n with
  | zero => intro v3 h; exact aw_none
  | succ n ih =>
    intro v3 h
    exact aw_iload_n (pc := 29) C (i := 3) dX11_findBest_29 rfl rfl <|
    aw_iload_n (pc := 30) C (i := 2) dX11_findBest_30 rfl rfl <|
    aw_icmp_ge (pc := 31) C (tgt := 56) dX11_findBest_31 rfl (fun _ =>
    aw_vret (pc := 56) C dX11_findBest_56 rfl rfl) (fun _ =>
    aw_aload_n (pc := 34) C (i := 0) dX11_findBest_34 rfl rfl <|
    aw_aload_n (pc := 35) C (i := 0) dX11_findBest_35 rfl rfl <|
    aw_getR (pc := 36) C (b := 10) dX11_findBest_36 fl_X11_37 sR_0 rfl rR_0_9 <|
    aw_iload_n (pc := 39) C (i := 3) dX11_findBest_39 rfl rfl <|
    aw_iald (pc := 40) C dX11_findBest_40 sR_10 rfl <|
    aw_aload_n (pc := 41) C (i := 0) dX11_findBest_41 rfl rfl <|
    aw_iload_n (pc := 42) C (i := 3) dX11_findBest_42 rfl rfl <|
    aw_iload_n (pc := 43) C (i := 1) dX11_findBest_43 rfl rfl <|
    aw_callF (pc := 44) C (cr_V (rest := [.int (h.1 10 v3.toNatClampNeg), .ref 0]) (F := (X11_triedAs v3 v1)) C (c_X11_triedAs X.2.1 v3 v1) dX11_findBest_44 mf_X11_triedAs ml_X11_259 im_X11_triedAs se_X11_triedAs sR_0 rfl ⟨(Nat.le_of_ble_eq_true rfl), (Nat.le_of_ble_eq_true rfl)⟩ rfl rfl (Nat.le_of_ble_eq_true rfl)) rfl rfl rfl (Nat.zero_le _) (Nat.zero_le _) fun r1 h2 =>
    aw_callF (pc := 47) C (cr_V (rest := []) (F := (X11_comesLength (h.1 10 v3.toNatClampNeg) r1)) C (c_X11_comesLength X.2.1 (h.1 10 v3.toNatClampNeg) r1) dX11_findBest_47 mf_X11_comesLength ml_X11_262 im_X11_comesLength se_X11_comesLength sR_0 rfl ⟨(Nat.le_of_ble_eq_true rfl), (Nat.le_of_ble_eq_true rfl)⟩ rfl rfl (Nat.le_of_ble_eq_true rfl)) rfl rfl rfl (Nat.zero_le _) (Nat.zero_le _) fun _ h4 =>
    aw_iincV (pc := 50) C (i := 3) (cst := 1) (fun x5 => [(0, .ref 0), (1, .int v1), (2, .int v2), (3, .int x5)]) dX11_findBest_50 rfl rfl (by decide) (fun _ => rfl) fun x5 =>
    aw_goto (pc := 53) C (tgt := 29) dX11_findBest_53 rfl <|
    (ih x5 h4))
def X11_findBest_l2  (v1 : Int32) (v2 : Int32) : Nat → Int32 → AH → Option (Unit × AH)
  | 0, _, _ => none
  | n + 1, v3, h =>
    if 4 ≤ v3 then (X11_findBest_l29 v1 v2 FU 0 h)
    else (ck v3 4 (vl (sI h 20 v3.toNatClampNeg 0) fun h6 =>
    ck v3 4 (vl (sI h6 21 v3.toNatClampNeg 0) fun h7 =>
    vl (v3 + 1) fun x8 =>
    (X11_findBest_l2 v1 v2 n) x8 h7)))
set_option maxRecDepth 100000 in
theorem aX11_findBest_l2 {X : MCx} {yd : Dyn} {A : Nat → Prop} (C : OK X cX11_findBest RX11 4 none rmX11_findBest A)  (v1 : Int32) (v2 : Int32) : ∀ (n : Nat) (v3 : Int32) (h : AH), AW X 4 ZR yd A 0 0 (QF X rmX11_findBest ZR yd rvV A) 2 [(0, .ref 0), (1, .int v1), (2, .int v2), (3, .int v3)] [] h (X11_findBest_l2 v1 v2 n v3 h) := by
  intro n
  induction n with
  | zero => intro v3 h; exact aw_none
  | succ n ih =>
    intro v3 h
    exact aw_iload_n (pc := 2) C (i := 3) dX11_findBest_2 rfl rfl <|
    aw_iconst (pc := 3) C (v := 4) dX11_findBest_3 rfl <|
    aw_icmp_ge (pc := 4) C (tgt := 27) dX11_findBest_4 rfl (fun _ =>
    aw_iconst (pc := 27) C (v := 0) dX11_findBest_27 rfl <|
    aw_istore_n (pc := 28) C (i := 3) (lv' := [(0, .ref 0), (1, .int v1), (2, .int v2), (3, .int 0)]) dX11_findBest_28 rfl (by decide) rfl <|
    (aX11_findBest_l29 C v1 v2 FU 0 h)) (fun _ =>
    aw_aload_n (pc := 7) C (i := 0) dX11_findBest_7 rfl rfl <|
    aw_getR (pc := 8) C (b := 20) dX11_findBest_8 fl_X11_68 sR_0 rfl rR_0_30 <|
    aw_iload_n (pc := 11) C (i := 3) dX11_findBest_11 rfl rfl <|
    aw_iconst (pc := 12) C (v := 0) dX11_findBest_12 rfl <|
    aw_iast (pc := 13) C dX11_findBest_13 sR_20 rfl fun h6 =>
    aw_aload_n (pc := 14) C (i := 0) dX11_findBest_14 rfl rfl <|
    aw_getR (pc := 15) C (b := 21) dX11_findBest_15 fl_X11_71 sR_0 rfl rR_0_31 <|
    aw_iload_n (pc := 18) C (i := 3) dX11_findBest_18 rfl rfl <|
    aw_iconst (pc := 19) C (v := 0) dX11_findBest_19 rfl <|
    aw_iast (pc := 20) C dX11_findBest_20 sR_21 rfl fun h7 =>
    aw_iincV (pc := 21) C (i := 3) (cst := 1) (fun x8 => [(0, .ref 0), (1, .int v1), (2, .int v2), (3, .int x8)]) dX11_findBest_21 rfl rfl (by decide) (fun _ => rfl) fun x8 =>
    aw_goto (pc := 24) C (tgt := 2) dX11_findBest_24 rfl <|
    (ih x8 h7))
def X11_findBest (v1 : Int32) (v2 : Int32) (h : AH) : Option (Unit × AH) :=
    X11_findBest_l2 v1 v2 FU 0 h
set_option maxRecDepth 100000 in
theorem c_X11_findBest (l : Launch) (v1 : Int32) (v2 : Int32) : MC l yX11_findBest cX11_findBest 4 none rmX11_findBest ZR [.ref 0, .int v1, .int v2] rvV (X11_findBest v1 v2) :=
  MC.of (own := RX11) (by decide +kernel) rfl (Nat.le_of_ble_eq_true rfl) fun X yd A h _ C =>
    aw_iconst (pc := 0) C (v := 0) dX11_findBest_0 rfl <|
    aw_istore_n (pc := 1) C (i := 3) (lv' := [(0, .ref 0), (1, .int v1), (2, .int v2), (3, .int 0)]) dX11_findBest_1 rfl (by decide) rfl <|
    (aX11_findBest_l2 C v1 v2 FU 0 h)

abbrev rmX11_isAhead : Room := { frames := 0, cells := 0, slots := 0, locals := 0 }
def X11_isAhead (v1 : Int32) (v2 : Int32) (h : AH) : Option (Int32 × AH) :=
    ck v1 4 (ck v2 4 (if (h.1 20 v1.toNatClampNeg) = (h.1 20 v2.toNatClampNeg) then (ck v1 4 (ck v2 4 (if (h.1 21 v1.toNatClampNeg) = (h.1 21 v2.toNatClampNeg) then (if v2 ≤ v1 then (cz 0 (some (0, h)))
    else (cz 1 (some (1, h))))
    else (ck v1 4 (ck v2 4 (if (h.1 21 v1.toNatClampNeg) ≤ (h.1 21 v2.toNatClampNeg) then (cz 0 (some (0, h)))
    else (cz 1 (some (1, h)))))))))
    else (ck v1 4 (ck v2 4 (if (h.1 20 v1.toNatClampNeg) ≤ (h.1 20 v2.toNatClampNeg) then (cz 0 (some (0, h)))
    else (cz 1 (some (1, h))))))))
set_option maxRecDepth 100000 in
theorem c_X11_isAhead (l : Launch) (v1 : Int32) (v2 : Int32) : MC l yX11_isAhead cX11_isAhead 3 (some .boolean) rmX11_isAhead ZR [.ref 0, .int v1, .int v2] rvI (X11_isAhead v1 v2) :=
  MC.of (own := RX11) (by decide +kernel) rfl (Nat.le_of_ble_eq_true rfl) fun X yd A h _ C =>
    aw_aload_n (pc := 0) C (i := 0) dX11_isAhead_0 rfl rfl <|
    aw_getR (pc := 1) C (b := 20) dX11_isAhead_1 fl_X11_68 sR_0 rfl rR_0_30 <|
    aw_iload_n (pc := 4) C (i := 1) dX11_isAhead_4 rfl rfl <|
    aw_iald (pc := 5) C dX11_isAhead_5 sR_20 rfl <|
    aw_aload_n (pc := 6) C (i := 0) dX11_isAhead_6 rfl rfl <|
    aw_getR (pc := 7) C (b := 20) dX11_isAhead_7 fl_X11_68 sR_0 rfl rR_0_30 <|
    aw_iload_n (pc := 10) C (i := 2) dX11_isAhead_10 rfl rfl <|
    aw_iald (pc := 11) C dX11_isAhead_11 sR_20 rfl <|
    aw_icmp_eq (pc := 12) C (tgt := 36) dX11_isAhead_12 rfl (fun _ =>
    aw_aload_n (pc := 36) C (i := 0) dX11_isAhead_36 rfl rfl <|
    aw_getR (pc := 37) C (b := 21) dX11_isAhead_37 fl_X11_71 sR_0 rfl rR_0_31 <|
    aw_iload_n (pc := 40) C (i := 1) dX11_isAhead_40 rfl rfl <|
    aw_iald (pc := 41) C dX11_isAhead_41 sR_21 rfl <|
    aw_aload_n (pc := 42) C (i := 0) dX11_isAhead_42 rfl rfl <|
    aw_getR (pc := 43) C (b := 21) dX11_isAhead_43 fl_X11_71 sR_0 rfl rR_0_31 <|
    aw_iload_n (pc := 46) C (i := 2) dX11_isAhead_46 rfl rfl <|
    aw_iald (pc := 47) C dX11_isAhead_47 sR_21 rfl <|
    aw_icmp_eq (pc := 48) C (tgt := 74) dX11_isAhead_48 rfl (fun _ =>
    aw_iload_n (pc := 74) C (i := 1) dX11_isAhead_74 rfl rfl <|
    aw_iload_n (pc := 75) C (i := 2) dX11_isAhead_75 rfl rfl <|
    aw_icmp_ge (pc := 76) C (tgt := 83) dX11_isAhead_76 rfl (fun _ =>
    aw_iconst (pc := 83) C (v := 0) dX11_isAhead_83 rfl <|
    aw_zret (pc := 84) C dX11_isAhead_84 rfl rfl) (fun _ =>
    aw_iconst (pc := 79) C (v := 1) dX11_isAhead_79 rfl <|
    aw_goto (pc := 80) C (tgt := 84) dX11_isAhead_80 rfl <|
    aw_zret (pc := 84) C dX11_isAhead_84 rfl rfl)) (fun _ =>
    aw_aload_n (pc := 51) C (i := 0) dX11_isAhead_51 rfl rfl <|
    aw_getR (pc := 52) C (b := 21) dX11_isAhead_52 fl_X11_71 sR_0 rfl rR_0_31 <|
    aw_iload_n (pc := 55) C (i := 1) dX11_isAhead_55 rfl rfl <|
    aw_iald (pc := 56) C dX11_isAhead_56 sR_21 rfl <|
    aw_aload_n (pc := 57) C (i := 0) dX11_isAhead_57 rfl rfl <|
    aw_getR (pc := 58) C (b := 21) dX11_isAhead_58 fl_X11_71 sR_0 rfl rR_0_31 <|
    aw_iload_n (pc := 61) C (i := 2) dX11_isAhead_61 rfl rfl <|
    aw_iald (pc := 62) C dX11_isAhead_62 sR_21 rfl <|
    aw_icmp_le (pc := 63) C (tgt := 70) dX11_isAhead_63 rfl (fun _ =>
    aw_iconst (pc := 70) C (v := 0) dX11_isAhead_70 rfl <|
    aw_goto (pc := 71) C (tgt := 84) dX11_isAhead_71 rfl <|
    aw_zret (pc := 84) C dX11_isAhead_84 rfl rfl) (fun _ =>
    aw_iconst (pc := 66) C (v := 1) dX11_isAhead_66 rfl <|
    aw_goto (pc := 67) C (tgt := 84) dX11_isAhead_67 rfl <|
    aw_zret (pc := 84) C dX11_isAhead_84 rfl rfl))) (fun _ =>
    aw_aload_n (pc := 15) C (i := 0) dX11_isAhead_15 rfl rfl <|
    aw_getR (pc := 16) C (b := 20) dX11_isAhead_16 fl_X11_68 sR_0 rfl rR_0_30 <|
    aw_iload_n (pc := 19) C (i := 1) dX11_isAhead_19 rfl rfl <|
    aw_iald (pc := 20) C dX11_isAhead_20 sR_20 rfl <|
    aw_aload_n (pc := 21) C (i := 0) dX11_isAhead_21 rfl rfl <|
    aw_getR (pc := 22) C (b := 20) dX11_isAhead_22 fl_X11_68 sR_0 rfl rR_0_30 <|
    aw_iload_n (pc := 25) C (i := 2) dX11_isAhead_25 rfl rfl <|
    aw_iald (pc := 26) C dX11_isAhead_26 sR_20 rfl <|
    aw_icmp_le (pc := 27) C (tgt := 34) dX11_isAhead_27 rfl (fun _ =>
    aw_iconst (pc := 34) C (v := 0) dX11_isAhead_34 rfl <|
    aw_zret (pc := 35) C dX11_isAhead_35 rfl rfl) (fun _ =>
    aw_iconst (pc := 30) C (v := 1) dX11_isAhead_30 rfl <|
    aw_goto (pc := 31) C (tgt := 35) dX11_isAhead_31 rfl <|
    aw_zret (pc := 35) C dX11_isAhead_35 rfl rfl))

abbrev rmX11_sorts : Room := { frames := 1, cells := 0, slots := 0, locals := 22 }
def X11_sorts_j52  (v1 : Int32) (v2 : Int32) (K2 : Int32 → AH → Option (Unit × AH)) (h : AH) : Option (Unit × AH) :=
    ck v2 4 (vl (sI h 22 v2.toNatClampNeg v1) fun h1 =>
    vl (v1 + 1) fun x2 =>
    K2 x2 h1)
set_option maxRecDepth 100000 in
theorem aX11_sorts_j52 {X : MCx} {yd : Dyn} {A : Nat → Prop} (C : OK X cX11_sorts RX11 3 none rmX11_sorts A)  (v1 : Int32) (v2 : Int32) (K2 : Int32 → AH → Option (Unit × AH)) (hK2 : ∀ (w1 : Int32) (h : AH), AW X 3 ZR yd A 0 0 (QF X rmX11_sorts ZR yd rvV A) 2 [(0, .ref 0), (1, .int w1)] [] h (K2 w1 h)) (h : AH) : AW X 3 ZR yd A 0 0 (QF X rmX11_sorts ZR yd rvV A) 52 [(0, .ref 0), (1, .int v1), (2, .int v2)] [] h (X11_sorts_j52 v1 v2 K2 h) := by
    exact aw_aload_n (pc := 52) C (i := 0) dX11_sorts_52 rfl rfl <|
    aw_getR (pc := 53) C (b := 22) dX11_sorts_53 fl_X11_74 sR_0 rfl rR_0_32 <|
    aw_iload_n (pc := 56) C (i := 2) dX11_sorts_56 rfl rfl <|
    aw_iload_n (pc := 57) C (i := 1) dX11_sorts_57 rfl rfl <|
    aw_iast (pc := 58) C dX11_sorts_58 sR_22 rfl fun h1 =>
    aw_iincV (pc := 59) C (i := 1) (cst := 1) (fun x2 => [(0, .ref 0), (1, .int x2), (2, .int v2)]) dX11_sorts_59 rfl rfl (by decide) (fun _ => rfl) fun x2 =>
    aw_goto (pc := 62) C (tgt := 2) dX11_sorts_62 rfl <|
    aw_drop [0, 1] (hK2 x2 h1)
def X11_sorts_l12  (v1 : Int32) (K2 : Int32 → AH → Option (Unit × AH)) : Nat → Int32 → AH → Option (Unit × AH)
  | 0, _, _ => none
  | n + 1, v2, h =>
    if v2 ≤ 0 then (X11_sorts_j52 v1 v2 K2 h)
    else (ck (v2 - 1) 4 (bd (X11_isAhead v1 (h.1 22 (v2 - 1).toNatClampNeg) h) fun r3 h4 =>
    if r3 = 0 then (X11_sorts_j52 v1 v2 K2 h4)
    else (ck (v2 - 1) 4 (ck v2 4 (vl (sI h4 22 v2.toNatClampNeg (h4.1 22 (v2 - 1).toNatClampNeg)) fun h5 =>
    vl (v2 + (-1)) fun x6 =>
    (X11_sorts_l12 v1 K2 n) x6 h5)))))
set_option maxRecDepth 100000 in
theorem aX11_sorts_l12 {X : MCx} {yd : Dyn} {A : Nat → Prop} (C : OK X cX11_sorts RX11 3 none rmX11_sorts A)  (v1 : Int32) (K2 : Int32 → AH → Option (Unit × AH)) (hK2 : ∀ (w1 : Int32) (h : AH), AW X 3 ZR yd A 0 0 (QF X rmX11_sorts ZR yd rvV A) 2 [(0, .ref 0), (1, .int w1)] [] h (K2 w1 h)) : ∀ (n : Nat) (v2 : Int32) (h : AH), AW X 3 ZR yd A 0 0 (QF X rmX11_sorts ZR yd rvV A) 12 [(0, .ref 0), (1, .int v1), (2, .int v2)] [] h (X11_sorts_l12 v1 K2 n v2 h) := by
  intro n
  induction n with
  | zero => intro v2 h; exact aw_none
  | succ n ih =>
    intro v2 h
    exact aw_iload_n (pc := 12) C (i := 2) dX11_sorts_12 rfl rfl <|
    aw_if_le (pc := 13) C (tgt := 52) dX11_sorts_13 rfl (fun _ =>
    (aX11_sorts_j52 C v1 v2 K2 hK2 h)) (fun _ =>
    aw_aload_n (pc := 16) C (i := 0) dX11_sorts_16 rfl rfl <|
    aw_iload_n (pc := 17) C (i := 1) dX11_sorts_17 rfl rfl <|
    aw_aload_n (pc := 18) C (i := 0) dX11_sorts_18 rfl rfl <|
    aw_getR (pc := 19) C (b := 22) dX11_sorts_19 fl_X11_74 sR_0 rfl rR_0_32 <|
    aw_iload_n (pc := 22) C (i := 2) dX11_sorts_22 rfl rfl <|
    aw_iconst (pc := 23) C (v := 1) dX11_sorts_23 rfl <|
    aw_isub (pc := 24) C dX11_sorts_24 <|
    aw_iald (pc := 25) C dX11_sorts_25 sR_22 rfl <|
    aw_callF (pc := 26) C (cr_V (rest := []) (F := (X11_isAhead v1 (h.1 22 (v2 - 1).toNatClampNeg))) C (c_X11_isAhead X.2.1 v1 (h.1 22 (v2 - 1).toNatClampNeg)) dX11_sorts_26 mf_X11_isAhead ml_X11_265 im_X11_isAhead se_X11_isAhead sR_0 rfl ⟨(Nat.le_of_ble_eq_true rfl), (Nat.le_of_ble_eq_true rfl)⟩ rfl rfl (Nat.le_of_ble_eq_true rfl)) rfl rfl rfl (Nat.zero_le _) (Nat.zero_le _) fun r3 h4 =>
    aw_if_eq (pc := 29) C (tgt := 52) dX11_sorts_29 rfl (fun _ =>
    (aX11_sorts_j52 C v1 v2 K2 hK2 h4)) (fun _ =>
    aw_aload_n (pc := 32) C (i := 0) dX11_sorts_32 rfl rfl <|
    aw_getR (pc := 33) C (b := 22) dX11_sorts_33 fl_X11_74 sR_0 rfl rR_0_32 <|
    aw_iload_n (pc := 36) C (i := 2) dX11_sorts_36 rfl rfl <|
    aw_aload_n (pc := 37) C (i := 0) dX11_sorts_37 rfl rfl <|
    aw_getR (pc := 38) C (b := 22) dX11_sorts_38 fl_X11_74 sR_0 rfl rR_0_32 <|
    aw_iload_n (pc := 41) C (i := 2) dX11_sorts_41 rfl rfl <|
    aw_iconst (pc := 42) C (v := 1) dX11_sorts_42 rfl <|
    aw_isub (pc := 43) C dX11_sorts_43 <|
    aw_iald (pc := 44) C dX11_sorts_44 sR_22 rfl <|
    aw_iast (pc := 45) C dX11_sorts_45 sR_22 rfl fun h5 =>
    aw_iincV (pc := 46) C (i := 2) (cst := (-1)) (fun x6 => [(0, .ref 0), (1, .int v1), (2, .int x6)]) dX11_sorts_46 rfl rfl (by decide) (fun _ => rfl) fun x6 =>
    aw_goto (pc := 49) C (tgt := 12) dX11_sorts_49 rfl <|
    (ih x6 h5)))
def X11_sorts_l2  : Nat → Int32 → AH → Option (Unit × AH)
  | 0, _, _ => none
  | n + 1, v1, h =>
    if (h.1 0 15) ≤ v1 then (some ((), h))
    else (X11_sorts_l12 v1 (X11_sorts_l2 n) FU v1 h)
set_option maxRecDepth 100000 in
theorem aX11_sorts_l2 {X : MCx} {yd : Dyn} {A : Nat → Prop} (C : OK X cX11_sorts RX11 3 none rmX11_sorts A)  : ∀ (n : Nat) (v1 : Int32) (h : AH), AW X 3 ZR yd A 0 0 (QF X rmX11_sorts ZR yd rvV A) 2 [(0, .ref 0), (1, .int v1)] [] h (X11_sorts_l2 n v1 h) := by
  intro n
  induction n with
  | zero => intro v1 h; exact aw_none
  | succ n ih =>
    intro v1 h
    exact aw_iload_n (pc := 2) C (i := 1) dX11_sorts_2 rfl rfl <|
    aw_aload_n (pc := 3) C (i := 0) dX11_sorts_3 rfl rfl <|
    aw_getI (pc := 4) C dX11_sorts_4 fl_X11_105 sR_0 rfl <|
    aw_icmp_ge (pc := 7) C (tgt := 65) dX11_sorts_7 rfl (fun _ =>
    aw_vret (pc := 65) C dX11_sorts_65 rfl rfl) (fun _ =>
    aw_iload_n (pc := 10) C (i := 1) dX11_sorts_10 rfl rfl <|
    aw_istore_n (pc := 11) C (i := 2) (lv' := [(0, .ref 0), (1, .int v1), (2, .int v1)]) dX11_sorts_11 rfl (by decide) rfl <|
    (aX11_sorts_l12 C v1 (X11_sorts_l2 n) ih FU v1 h))
def X11_sorts  (h : AH) : Option (Unit × AH) :=
    X11_sorts_l2 FU 0 h
set_option maxRecDepth 100000 in
theorem c_X11_sorts (l : Launch)  : MC l yX11_sorts cX11_sorts 3 none rmX11_sorts ZR [.ref 0] rvV (X11_sorts) :=
  MC.of (own := RX11) (by decide +kernel) rfl (Nat.le_of_ble_eq_true rfl) fun X yd A h _ C =>
    aw_iconst (pc := 0) C (v := 0) dX11_sorts_0 rfl <|
    aw_istore_n (pc := 1) C (i := 1) (lv' := [(0, .ref 0), (1, .int 0)]) dX11_sorts_1 rfl (by decide) rfl <|
    (aX11_sorts_l2 C FU 0 h)

abbrev rmX11_turnNow : Room := { frames := 4, cells := 0, slots := 0, locals := 90 }
def X11_turnNow  (h : AH) : Option (Int32 × AH) :=
    if (h.1 0 15) = 0 then (some ((-9), h))
    else (bd (X11_finalists h) fun r1 h2 =>
    if (h.1 0 16) < ((3 * (h.1 0 15)) + (3 * r1)) then (if (3 * (h2.1 0 15)) ≤ (h2.1 0 16) then (bd (X11_findBest 0 (3 * (h2.1 0 15)) h2) fun _ h4 =>
    bd (X11_sorts h4) fun _ h6 =>
    bd (X11_finalists h6) fun r7 h8 =>
    bd (X11_finalists h8) fun r9 h10 =>
    if r9 = 0 then none else (ck ((r7 - 1) - (rm32 ((h8.1 0 16) - (3 * (h8.1 0 15))) r9)) 4 (some ((h10.1 22 ((r7 - 1) - (rm32 ((h8.1 0 16) - (3 * (h8.1 0 15))) r9)).toNatClampNeg), h10))))
    else (if (h2.1 0 15) = 0 then none else (some ((rm32 (h2.1 0 16) (h2.1 0 15)), h2))))
    else (some ((-9), h2)))
set_option maxRecDepth 100000 in
theorem c_X11_turnNow (l : Launch)  : MC l yX11_turnNow cX11_turnNow 1 (some .int) rmX11_turnNow ZR [.ref 0] rvI (X11_turnNow) :=
  MC.of (own := RX11) (by decide +kernel) rfl (Nat.le_of_ble_eq_true rfl) fun X yd A h _ C =>
    aw_aload_n (pc := 0) C (i := 0) dX11_turnNow_0 rfl rfl <|
    aw_getI (pc := 1) C dX11_turnNow_1 fl_X11_105 sR_0 rfl <|
    aw_if_eq (pc := 4) C (tgt := 27) dX11_turnNow_4 rfl (fun _ =>
    aw_bipush (pc := 27) C (v := (-9)) dX11_turnNow_27 rfl <|
    aw_iret (pc := 29) C dX11_turnNow_29 rfl rfl) (fun _ =>
    aw_aload_n (pc := 7) C (i := 0) dX11_turnNow_7 rfl rfl <|
    aw_getI (pc := 8) C dX11_turnNow_8 fl_X11_147 sR_0 rfl <|
    aw_iconst (pc := 11) C (v := 3) dX11_turnNow_11 rfl <|
    aw_aload_n (pc := 12) C (i := 0) dX11_turnNow_12 rfl rfl <|
    aw_getI (pc := 13) C dX11_turnNow_13 fl_X11_105 sR_0 rfl <|
    aw_imul (pc := 16) C dX11_turnNow_16 <|
    aw_iconst (pc := 17) C (v := 3) dX11_turnNow_17 rfl <|
    aw_aload_n (pc := 18) C (i := 0) dX11_turnNow_18 rfl rfl <|
    aw_callF (pc := 19) C (cr_V (rest := [.int 3, .int (3 * (h.1 0 15)), .int (h.1 0 16)]) (F := X11_finalists) C (c_X11_finalists X.2.1 ) dX11_turnNow_19 mf_X11_finalists ml_X11_271 im_X11_finalists se_X11_finalists sR_0 rfl ⟨(Nat.le_of_ble_eq_true rfl), (Nat.le_of_ble_eq_true rfl)⟩ rfl rfl (Nat.le_of_ble_eq_true rfl)) rfl rfl rfl (Nat.zero_le _) (Nat.zero_le _) fun r1 h2 =>
    aw_imul (pc := 22) C dX11_turnNow_22 <|
    aw_iadd (pc := 23) C dX11_turnNow_23 <|
    aw_icmp_lt (pc := 24) C (tgt := 30) dX11_turnNow_24 rfl (fun _ =>
    aw_aload_n (pc := 30) C (i := 0) dX11_turnNow_30 rfl rfl <|
    aw_getI (pc := 31) C dX11_turnNow_31 fl_X11_147 sR_0 rfl <|
    aw_iconst (pc := 34) C (v := 3) dX11_turnNow_34 rfl <|
    aw_aload_n (pc := 35) C (i := 0) dX11_turnNow_35 rfl rfl <|
    aw_getI (pc := 36) C dX11_turnNow_36 fl_X11_105 sR_0 rfl <|
    aw_imul (pc := 39) C dX11_turnNow_39 <|
    aw_icmp_ge (pc := 40) C (tgt := 53) dX11_turnNow_40 rfl (fun _ =>
    aw_aload_n (pc := 53) C (i := 0) dX11_turnNow_53 rfl rfl <|
    aw_iconst (pc := 54) C (v := 0) dX11_turnNow_54 rfl <|
    aw_iconst (pc := 55) C (v := 3) dX11_turnNow_55 rfl <|
    aw_aload_n (pc := 56) C (i := 0) dX11_turnNow_56 rfl rfl <|
    aw_getI (pc := 57) C dX11_turnNow_57 fl_X11_105 sR_0 rfl <|
    aw_imul (pc := 60) C dX11_turnNow_60 <|
    aw_callF (pc := 61) C (cr_V (rest := []) (F := (X11_findBest 0 (3 * (h2.1 0 15)))) C (c_X11_findBest X.2.1 0 (3 * (h2.1 0 15))) dX11_turnNow_61 mf_X11_findBest ml_X11_213 im_X11_findBest se_X11_findBest sR_0 rfl ⟨(Nat.le_of_ble_eq_true rfl), (Nat.le_of_ble_eq_true rfl)⟩ rfl rfl (Nat.le_of_ble_eq_true rfl)) rfl rfl rfl (Nat.zero_le _) (Nat.zero_le _) fun _ h4 =>
    aw_aload_n (pc := 64) C (i := 0) dX11_turnNow_64 rfl rfl <|
    aw_callF (pc := 65) C (cr_V (rest := []) (F := X11_sorts) C (c_X11_sorts X.2.1 ) dX11_turnNow_65 mf_X11_sorts ml_X11_268 im_X11_sorts se_X11_sorts sR_0 rfl ⟨(Nat.le_of_ble_eq_true rfl), (Nat.le_of_ble_eq_true rfl)⟩ rfl rfl (Nat.le_of_ble_eq_true rfl)) rfl rfl rfl (Nat.zero_le _) (Nat.zero_le _) fun _ h6 =>
    aw_aload_n (pc := 68) C (i := 0) dX11_turnNow_68 rfl rfl <|
    aw_getR (pc := 69) C (b := 22) dX11_turnNow_69 fl_X11_74 sR_0 rfl rR_0_32 <|
    aw_aload_n (pc := 72) C (i := 0) dX11_turnNow_72 rfl rfl <|
    aw_callF (pc := 73) C (cr_V (rest := [.ref 22]) (F := X11_finalists) C (c_X11_finalists X.2.1 ) dX11_turnNow_73 mf_X11_finalists ml_X11_271 im_X11_finalists se_X11_finalists sR_0 rfl ⟨(Nat.le_of_ble_eq_true rfl), (Nat.le_of_ble_eq_true rfl)⟩ rfl rfl (Nat.le_of_ble_eq_true rfl)) rfl rfl rfl (Nat.zero_le _) (Nat.zero_le _) fun r7 h8 =>
    aw_iconst (pc := 76) C (v := 1) dX11_turnNow_76 rfl <|
    aw_isub (pc := 77) C dX11_turnNow_77 <|
    aw_aload_n (pc := 78) C (i := 0) dX11_turnNow_78 rfl rfl <|
    aw_getI (pc := 79) C dX11_turnNow_79 fl_X11_147 sR_0 rfl <|
    aw_iconst (pc := 82) C (v := 3) dX11_turnNow_82 rfl <|
    aw_aload_n (pc := 83) C (i := 0) dX11_turnNow_83 rfl rfl <|
    aw_getI (pc := 84) C dX11_turnNow_84 fl_X11_105 sR_0 rfl <|
    aw_imul (pc := 87) C dX11_turnNow_87 <|
    aw_isub (pc := 88) C dX11_turnNow_88 <|
    aw_aload_n (pc := 89) C (i := 0) dX11_turnNow_89 rfl rfl <|
    aw_callF (pc := 90) C (cr_V (rest := [.int ((h8.1 0 16) - (3 * (h8.1 0 15))), .int (r7 - 1), .ref 22]) (F := X11_finalists) C (c_X11_finalists X.2.1 ) dX11_turnNow_90 mf_X11_finalists ml_X11_271 im_X11_finalists se_X11_finalists sR_0 rfl ⟨(Nat.le_of_ble_eq_true rfl), (Nat.le_of_ble_eq_true rfl)⟩ rfl rfl (Nat.le_of_ble_eq_true rfl)) rfl rfl rfl (Nat.zero_le _) (Nat.zero_le _) fun r9 h10 =>
    aw_irem (pc := 93) C dX11_turnNow_93 <|
    aw_isub (pc := 94) C dX11_turnNow_94 <|
    aw_iald (pc := 95) C dX11_turnNow_95 sR_22 rfl <|
    aw_iret (pc := 96) C dX11_turnNow_96 rfl rfl) (fun _ =>
    aw_aload_n (pc := 43) C (i := 0) dX11_turnNow_43 rfl rfl <|
    aw_getI (pc := 44) C dX11_turnNow_44 fl_X11_147 sR_0 rfl <|
    aw_aload_n (pc := 47) C (i := 0) dX11_turnNow_47 rfl rfl <|
    aw_getI (pc := 48) C dX11_turnNow_48 fl_X11_105 sR_0 rfl <|
    aw_irem (pc := 51) C dX11_turnNow_51 <|
    aw_iret (pc := 52) C dX11_turnNow_52 rfl rfl)) (fun _ =>
    aw_bipush (pc := 27) C (v := (-9)) dX11_turnNow_27 rfl <|
    aw_iret (pc := 29) C dX11_turnNow_29 rfl rfl))

abbrev rmX11_putsTry : Room := { frames := 0, cells := 0, slots := 0, locals := 0 }
def X11_putsTry (v1 : Int32) (v2 : Int32) (v3 : Int32) (h : AH) : Option (Unit × AH) :=
    ck (h.1 0 16) 24 (vl (sI h 10 (h.1 0 16).toNatClampNeg v1) fun h1 =>
    ck (h1.1 0 16) 24 (vl (sI h1 11 (h1.1 0 16).toNatClampNeg v2) fun h2 =>
    ck (h2.1 0 16) 24 (vl (sI h2 12 (h2.1 0 16).toNatClampNeg v3) fun h3 =>
    vl (sI h3 0 16 ((h3.1 0 16) + 1)) fun h4 =>
    some ((), h4))))
set_option maxRecDepth 100000 in
theorem c_X11_putsTry (l : Launch) (v1 : Int32) (v2 : Int32) (v3 : Int32) : MC l yX11_putsTry cX11_putsTry 4 none rmX11_putsTry ZR [.ref 0, .int v1, .int v2, .int v3] rvV (X11_putsTry v1 v2 v3) :=
  MC.of (own := RX11) (by decide +kernel) rfl (Nat.le_of_ble_eq_true rfl) fun X yd A h _ C =>
    aw_aload_n (pc := 0) C (i := 0) dX11_putsTry_0 rfl rfl <|
    aw_getR (pc := 1) C (b := 10) dX11_putsTry_1 fl_X11_37 sR_0 rfl rR_0_9 <|
    aw_aload_n (pc := 4) C (i := 0) dX11_putsTry_4 rfl rfl <|
    aw_getI (pc := 5) C dX11_putsTry_5 fl_X11_147 sR_0 rfl <|
    aw_iload_n (pc := 8) C (i := 1) dX11_putsTry_8 rfl rfl <|
    aw_iast (pc := 9) C dX11_putsTry_9 sR_10 rfl fun h1 =>
    aw_aload_n (pc := 10) C (i := 0) dX11_putsTry_10 rfl rfl <|
    aw_getR (pc := 11) C (b := 11) dX11_putsTry_11 fl_X11_40 sR_0 rfl rR_0_10 <|
    aw_aload_n (pc := 14) C (i := 0) dX11_putsTry_14 rfl rfl <|
    aw_getI (pc := 15) C dX11_putsTry_15 fl_X11_147 sR_0 rfl <|
    aw_iload_n (pc := 18) C (i := 2) dX11_putsTry_18 rfl rfl <|
    aw_iast (pc := 19) C dX11_putsTry_19 sR_11 rfl fun h2 =>
    aw_aload_n (pc := 20) C (i := 0) dX11_putsTry_20 rfl rfl <|
    aw_getR (pc := 21) C (b := 12) dX11_putsTry_21 fl_X11_43 sR_0 rfl rR_0_11 <|
    aw_aload_n (pc := 24) C (i := 0) dX11_putsTry_24 rfl rfl <|
    aw_getI (pc := 25) C dX11_putsTry_25 fl_X11_147 sR_0 rfl <|
    aw_iload_n (pc := 28) C (i := 3) dX11_putsTry_28 rfl rfl <|
    aw_iast (pc := 29) C dX11_putsTry_29 sR_12 rfl fun h3 =>
    aw_aload_n (pc := 30) C (i := 0) dX11_putsTry_30 rfl rfl <|
    aw_dup (pc := 31) C dX11_putsTry_31 rfl <|
    aw_getI (pc := 32) C dX11_putsTry_32 fl_X11_147 sR_0 rfl <|
    aw_iconst (pc := 35) C (v := 1) dX11_putsTry_35 rfl <|
    aw_iadd (pc := 36) C dX11_putsTry_36 <|
    aw_putI (pc := 37) C dX11_putsTry_37 fp_X11_147 sR_0 rfl fun h4 =>
    aw_vret (pc := 40) C dX11_putsTry_40 rfl rfl

abbrev rmX11_comesTry : Room := { frames := 5, cells := 0, slots := 0, locals := 110 }
def X11_comesTry (v1 : Int32) (v2 : Int32) (h : AH) : Option (Int32 × AH) :=
    bd (X11_turnNow h) fun r1 h2 =>
    if 0 ≤ r1 then (bd (X11_turnNow h2) fun r3 h4 =>
    bd (X11_putsTry r3 v1 v2 h4) fun _ h6 =>
    cz 1 (some (1, h6)))
    else (cz 0 (some (0, h2)))
set_option maxRecDepth 100000 in
theorem c_X11_comesTry (l : Launch) (v1 : Int32) (v2 : Int32) : MC l yX11_comesTry cX11_comesTry 3 (some .boolean) rmX11_comesTry ZR [.ref 0, .int v1, .int v2] rvI (X11_comesTry v1 v2) :=
  MC.of (own := RX11) (by decide +kernel) rfl (Nat.le_of_ble_eq_true rfl) fun X yd A h _ C =>
    aw_aload_n (pc := 0) C (i := 0) dX11_comesTry_0 rfl rfl <|
    aw_callF (pc := 1) C (cr_V (rest := []) (F := X11_turnNow) C (c_X11_turnNow X.2.1 ) dX11_comesTry_1 mf_X11_turnNow ml_X11_150 im_X11_turnNow se_X11_turnNow sR_0 rfl ⟨(Nat.le_of_ble_eq_true rfl), (Nat.le_of_ble_eq_true rfl)⟩ rfl rfl (Nat.le_of_ble_eq_true rfl)) rfl rfl rfl (Nat.zero_le _) (Nat.zero_le _) fun r1 h2 =>
    aw_if_ge (pc := 4) C (tgt := 9) dX11_comesTry_4 rfl (fun _ =>
    aw_aload_n (pc := 9) C (i := 0) dX11_comesTry_9 rfl rfl <|
    aw_aload_n (pc := 10) C (i := 0) dX11_comesTry_10 rfl rfl <|
    aw_callF (pc := 11) C (cr_V (rest := [.ref 0]) (F := X11_turnNow) C (c_X11_turnNow X.2.1 ) dX11_comesTry_11 mf_X11_turnNow ml_X11_150 im_X11_turnNow se_X11_turnNow sR_0 rfl ⟨(Nat.le_of_ble_eq_true rfl), (Nat.le_of_ble_eq_true rfl)⟩ rfl rfl (Nat.le_of_ble_eq_true rfl)) rfl rfl rfl (Nat.zero_le _) (Nat.zero_le _) fun r3 h4 =>
    aw_iload_n (pc := 14) C (i := 1) dX11_comesTry_14 rfl rfl <|
    aw_iload_n (pc := 15) C (i := 2) dX11_comesTry_15 rfl rfl <|
    aw_callF (pc := 16) C (cr_V (rest := []) (F := (X11_putsTry r3 v1 v2)) C (c_X11_putsTry X.2.1 r3 v1 v2) dX11_comesTry_16 mf_X11_putsTry ml_X11_153 im_X11_putsTry se_X11_putsTry sR_0 rfl ⟨(Nat.le_of_ble_eq_true rfl), (Nat.le_of_ble_eq_true rfl)⟩ rfl rfl (Nat.le_of_ble_eq_true rfl)) rfl rfl rfl (Nat.zero_le _) (Nat.zero_le _) fun _ h6 =>
    aw_iconst (pc := 19) C (v := 1) dX11_comesTry_19 rfl <|
    aw_zret (pc := 20) C dX11_comesTry_20 rfl rfl) (fun _ =>
    aw_iconst (pc := 7) C (v := 0) dX11_comesTry_7 rfl <|
    aw_zret (pc := 8) C dX11_comesTry_8 rfl rfl)

abbrev rmX11_comes : Room := { frames := 6, cells := 0, slots := 0, locals := 132 }
def X11_comes_j194  (v3 : Int32) (s0 : Int32) (h : AH) : Option (Int32 × AH) :=
    bd (X11_comesTry s0 v3 h) fun r24 h25 =>
    cz r24 (some (r24, h25))
set_option maxRecDepth 100000 in
theorem aX11_comes_j194 {X : MCx} {yd : Dyn} {A : Nat → Prop} (C : OK X cX11_comes RX11 4 (some .boolean) rmX11_comes A)  (v3 : Int32) (s0 : Int32) (h : AH) : AW X 4 ZR yd A 0 0 (QF X rmX11_comes ZR yd rvI A) 194 [(3, .int v3)] [.int s0, .ref 0] h (X11_comes_j194 v3 s0 h) := by
    exact aw_iload_n (pc := 194) C (i := 3) dX11_comes_194 rfl rfl <|
    aw_callF (pc := 195) C (cr_V (rest := []) (F := (X11_comesTry s0 v3)) C (c_X11_comesTry X.2.1 s0 v3) dX11_comes_195 mf_X11_comesTry ml_X11_166 im_X11_comesTry se_X11_comesTry sR_0 rfl ⟨(Nat.le_of_ble_eq_true rfl), (Nat.le_of_ble_eq_true rfl)⟩ rfl rfl (Nat.le_of_ble_eq_true rfl)) rfl rfl rfl (Nat.zero_le _) (Nat.zero_le _) fun r24 h25 =>
    aw_zret (pc := 198) C dX11_comes_198 rfl rfl
def X11_comes (v1 : Int32) (h : AH) : Option (Int32 × AH) :=
    vl (8 * v1) fun x1 =>
    ck x1 384 (vl (h.1 16 x1.toNatClampNeg) fun x2 =>
    ck v1 48 (vl (h.1 14 v1.toNatClampNeg) fun y3 =>
    if y3 = 102 then (bd (X11_comesTry (-9) 0 h) fun r4 h5 =>
    cz r4 (some (r4, h5)))
    else if y3 = 103 then (vl (sI h 0 13 x2) fun h7 =>
    bd (X11_isIn x2 1 4 h7) fun r8 h9 =>
    if r8 = 0 then (cz 0 (some (0, h9)))
    else (if (h9.1 0 16) = 0 then (cz 1 (some (1, h9)))
    else (cz 0 (some (0, h9)))))
    else if y3 = 106 then (bd (X11_comesJumper x1 h) fun r11 h12 =>
    cz r11 (some (r11, h12)))
    else if y3 = 110 then (vl (sI h 0 12 x2) fun h14 =>
    bd (X11_isIn x2 4 20 h14) fun r15 h16 =>
    if r15 = 0 then (cz 0 (some (0, h16)))
    else (if (h16.1 0 16) = 0 then (cz 1 (some (1, h16)))
    else (cz 0 (some (0, h16)))))
    else if y3 = 116 then (bd (X11_turnNow h) fun r18 h19 =>
    if 0 ≤ r18 then (bd (X11_turnNow h19) fun r20 h21 =>
    bd (X11_lengthOf r20 x2 0 h21) fun r22 h23 =>
    X11_comes_j194 x2 r22 h23)
    else (X11_comes_j194 x2 0 h19))
    else if y3 = 119 then (vl (sI h 0 14 x2) fun h27 =>
    cz 1 (some (1, h27)))
    else (bd (X11_comesTry (-8) 0 h) fun r29 h30 =>
    cz r29 (some (r29, h30)))))
set_option maxRecDepth 100000 in
theorem c_X11_comes (l : Launch) (v1 : Int32) : MC l yX11_comes cX11_comes 4 (some .boolean) rmX11_comes ZR [.ref 0, .int v1] rvI (X11_comes v1) :=
  MC.of (own := RX11) (by decide +kernel) rfl (Nat.le_of_ble_eq_true rfl) fun X yd A h _ C =>
    aw_bipush (pc := 0) C (v := 8) dX11_comes_0 rfl <|
    aw_iload_n (pc := 2) C (i := 1) dX11_comes_2 rfl rfl <|
    aw_imul (pc := 3) C dX11_comes_3 <|
    aw_istoreV_n (pc := 4) C (i := 2) (fun x1 => [(0, .ref 0), (1, .int v1), (2, .int x1)]) dX11_comes_4 rfl (by decide) (fun _ => rfl) fun x1 =>
    aw_aload_n (pc := 5) C (i := 0) dX11_comes_5 rfl rfl <|
    aw_getR (pc := 6) C (b := 16) dX11_comes_6 fl_X11_55 sR_0 rfl rR_0_20 <|
    aw_iload_n (pc := 9) C (i := 2) dX11_comes_9 rfl rfl <|
    aw_iald (pc := 10) C dX11_comes_10 sR_16 rfl <|
    aw_istoreV_n (pc := 11) C (i := 3) (fun x2 => [(0, .ref 0), (1, .int v1), (2, .int x1), (3, .int x2)]) dX11_comes_11 rfl (by decide) (fun _ => rfl) fun x2 =>
    aw_aload_n (pc := 12) C (i := 0) dX11_comes_12 rfl rfl <|
    aw_getR (pc := 13) C (b := 14) dX11_comes_13 fl_X11_49 sR_0 rfl rR_0_18 <|
    aw_iload_n (pc := 16) C (i := 1) dX11_comes_16 rfl rfl <|
    aw_iald (pc := 17) C dX11_comes_17 sR_14 rfl <|
    aw_vlI fun y3 =>
    aw_if (fun c6 => aw_tswA (pc := 18) C (off := 181) (tg := 199) 102 dX11_comes_18 (by rw [c6]; rfl) (by decide) (by decide) rfl rfl (aw_aload_n (pc := 199) C (i := 0) dX11_comes_199 rfl rfl <|
    aw_bipush (pc := 200) C (v := (-9)) dX11_comes_200 rfl <|
    aw_iconst (pc := 202) C (v := 0) dX11_comes_202 rfl <|
    aw_callF (pc := 203) C (cr_V (rest := []) (F := (X11_comesTry (-9) 0)) C (c_X11_comesTry X.2.1 (-9) 0) dX11_comes_203 mf_X11_comesTry ml_X11_166 im_X11_comesTry se_X11_comesTry sR_0 rfl ⟨(Nat.le_of_ble_eq_true rfl), (Nat.le_of_ble_eq_true rfl)⟩ rfl rfl (Nat.le_of_ble_eq_true rfl)) rfl rfl rfl (Nat.zero_le _) (Nat.zero_le _) fun r4 h5 =>
    aw_zret (pc := 206) C dX11_comes_206 rfl rfl)) (fun c6 =>
    aw_if (fun c10 => aw_tswA (pc := 18) C (off := 121) (tg := 139) 103 dX11_comes_18 (by rw [c10]; rfl) (by decide) (by decide) rfl rfl (aw_aload_n (pc := 139) C (i := 0) dX11_comes_139 rfl rfl <|
    aw_iload_n (pc := 140) C (i := 3) dX11_comes_140 rfl rfl <|
    aw_putI (pc := 141) C dX11_comes_141 fp_X11_99 sR_0 rfl fun h7 =>
    aw_iload_n (pc := 144) C (i := 3) dX11_comes_144 rfl rfl <|
    aw_iconst (pc := 145) C (v := 1) dX11_comes_145 rfl <|
    aw_iconst (pc := 146) C (v := 4) dX11_comes_146 rfl <|
    aw_callF (pc := 147) C (cr_S (rest := []) (F := (X11_isIn x2 1 4)) C (c_X11_isIn X.2.1 x2 1 4) dX11_comes_147 mf_X11_isIn ml_X11_126 st_X11_isIn ⟨(Nat.le_of_ble_eq_true rfl), (Nat.le_of_ble_eq_true rfl)⟩ rfl rfl (Nat.le_of_ble_eq_true rfl)) rfl rfl rfl (Nat.zero_le _) (Nat.zero_le _) fun r8 h9 =>
    aw_if_eq (pc := 150) C (tgt := 164) dX11_comes_150 rfl (fun _ =>
    aw_iconst (pc := 164) C (v := 0) dX11_comes_164 rfl <|
    aw_zret (pc := 165) C dX11_comes_165 rfl rfl) (fun _ =>
    aw_aload_n (pc := 153) C (i := 0) dX11_comes_153 rfl rfl <|
    aw_getI (pc := 154) C dX11_comes_154 fl_X11_147 sR_0 rfl <|
    aw_if_ne (pc := 157) C (tgt := 164) dX11_comes_157 rfl (fun _ =>
    aw_iconst (pc := 160) C (v := 1) dX11_comes_160 rfl <|
    aw_goto (pc := 161) C (tgt := 165) dX11_comes_161 rfl <|
    aw_zret (pc := 165) C dX11_comes_165 rfl rfl) (fun _ =>
    aw_iconst (pc := 164) C (v := 0) dX11_comes_164 rfl <|
    aw_zret (pc := 165) C dX11_comes_165 rfl rfl)))) (fun c10 =>
    aw_if (fun c13 => aw_tswA (pc := 18) C (off := 148) (tg := 166) 106 dX11_comes_18 (by rw [c13]; rfl) (by decide) (by decide) rfl rfl (aw_aload_n (pc := 166) C (i := 0) dX11_comes_166 rfl rfl <|
    aw_iload_n (pc := 167) C (i := 2) dX11_comes_167 rfl rfl <|
    aw_callF (pc := 168) C (cr_V (rest := []) (F := (X11_comesJumper x1)) C (c_X11_comesJumper X.2.1 x1) dX11_comes_168 mf_X11_comesJumper ml_X11_160 im_X11_comesJumper se_X11_comesJumper sR_0 rfl ⟨(Nat.le_of_ble_eq_true rfl), (Nat.le_of_ble_eq_true rfl)⟩ rfl rfl (Nat.le_of_ble_eq_true rfl)) rfl rfl rfl (Nat.zero_le _) (Nat.zero_le _) fun r11 h12 =>
    aw_zret (pc := 171) C dX11_comes_171 rfl rfl)) (fun c13 =>
    aw_if (fun c17 => aw_tswA (pc := 18) C (off := 86) (tg := 104) 110 dX11_comes_18 (by rw [c17]; rfl) (by decide) (by decide) rfl rfl (aw_aload_n (pc := 104) C (i := 0) dX11_comes_104 rfl rfl <|
    aw_iload_n (pc := 105) C (i := 3) dX11_comes_105 rfl rfl <|
    aw_putI (pc := 106) C dX11_comes_106 fp_X11_95 sR_0 rfl fun h14 =>
    aw_iload_n (pc := 109) C (i := 3) dX11_comes_109 rfl rfl <|
    aw_iconst (pc := 110) C (v := 4) dX11_comes_110 rfl <|
    aw_bipush (pc := 111) C (v := 20) dX11_comes_111 rfl <|
    aw_callF (pc := 113) C (cr_S (rest := []) (F := (X11_isIn x2 4 20)) C (c_X11_isIn X.2.1 x2 4 20) dX11_comes_113 mf_X11_isIn ml_X11_126 st_X11_isIn ⟨(Nat.le_of_ble_eq_true rfl), (Nat.le_of_ble_eq_true rfl)⟩ rfl rfl (Nat.le_of_ble_eq_true rfl)) rfl rfl rfl (Nat.zero_le _) (Nat.zero_le _) fun r15 h16 =>
    aw_if_eq (pc := 116) C (tgt := 130) dX11_comes_116 rfl (fun _ =>
    aw_iconst (pc := 130) C (v := 0) dX11_comes_130 rfl <|
    aw_zret (pc := 131) C dX11_comes_131 rfl rfl) (fun _ =>
    aw_aload_n (pc := 119) C (i := 0) dX11_comes_119 rfl rfl <|
    aw_getI (pc := 120) C dX11_comes_120 fl_X11_147 sR_0 rfl <|
    aw_if_ne (pc := 123) C (tgt := 130) dX11_comes_123 rfl (fun _ =>
    aw_iconst (pc := 126) C (v := 1) dX11_comes_126 rfl <|
    aw_goto (pc := 127) C (tgt := 131) dX11_comes_127 rfl <|
    aw_zret (pc := 131) C dX11_comes_131 rfl rfl) (fun _ =>
    aw_iconst (pc := 130) C (v := 0) dX11_comes_130 rfl <|
    aw_zret (pc := 131) C dX11_comes_131 rfl rfl)))) (fun c17 =>
    aw_if (fun c26 => aw_tswA (pc := 18) C (off := 154) (tg := 172) 116 dX11_comes_18 (by rw [c26]; rfl) (by decide) (by decide) rfl rfl (aw_aload_n (pc := 172) C (i := 0) dX11_comes_172 rfl rfl <|
    aw_aload_n (pc := 173) C (i := 0) dX11_comes_173 rfl rfl <|
    aw_callF (pc := 174) C (cr_V (rest := [.ref 0]) (F := X11_turnNow) C (c_X11_turnNow X.2.1 ) dX11_comes_174 mf_X11_turnNow ml_X11_150 im_X11_turnNow se_X11_turnNow sR_0 rfl ⟨(Nat.le_of_ble_eq_true rfl), (Nat.le_of_ble_eq_true rfl)⟩ rfl rfl (Nat.le_of_ble_eq_true rfl)) rfl rfl rfl (Nat.zero_le _) (Nat.zero_le _) fun r18 h19 =>
    aw_if_ge (pc := 177) C (tgt := 184) dX11_comes_177 rfl (fun _ =>
    aw_aload_n (pc := 184) C (i := 0) dX11_comes_184 rfl rfl <|
    aw_aload_n (pc := 185) C (i := 0) dX11_comes_185 rfl rfl <|
    aw_callF (pc := 186) C (cr_V (rest := [.ref 0, .ref 0]) (F := X11_turnNow) C (c_X11_turnNow X.2.1 ) dX11_comes_186 mf_X11_turnNow ml_X11_150 im_X11_turnNow se_X11_turnNow sR_0 rfl ⟨(Nat.le_of_ble_eq_true rfl), (Nat.le_of_ble_eq_true rfl)⟩ rfl rfl (Nat.le_of_ble_eq_true rfl)) rfl rfl rfl (Nat.zero_le _) (Nat.zero_le _) fun r20 h21 =>
    aw_iload_n (pc := 189) C (i := 3) dX11_comes_189 rfl rfl <|
    aw_iconst (pc := 190) C (v := 0) dX11_comes_190 rfl <|
    aw_callF (pc := 191) C (cr_V (rest := [.ref 0]) (F := (X11_lengthOf r20 x2 0)) C (c_X11_lengthOf X.2.1 r20 x2 0) dX11_comes_191 mf_X11_lengthOf ml_X11_163 im_X11_lengthOf se_X11_lengthOf sR_0 rfl ⟨(Nat.le_of_ble_eq_true rfl), (Nat.le_of_ble_eq_true rfl)⟩ rfl rfl (Nat.le_of_ble_eq_true rfl)) rfl rfl rfl (Nat.zero_le _) (Nat.zero_le _) fun r22 h23 =>
    aw_drop [3] (aX11_comes_j194 C x2 r22 h23)) (fun _ =>
    aw_iconst (pc := 180) C (v := 0) dX11_comes_180 rfl <|
    aw_goto (pc := 181) C (tgt := 194) dX11_comes_181 rfl <|
    aw_drop [3] (aX11_comes_j194 C x2 0 h19)))) (fun c26 =>
    aw_if (fun c28 => aw_tswA (pc := 18) C (off := 114) (tg := 132) 119 dX11_comes_18 (by rw [c28]; rfl) (by decide) (by decide) rfl rfl (aw_aload_n (pc := 132) C (i := 0) dX11_comes_132 rfl rfl <|
    aw_iload_n (pc := 133) C (i := 3) dX11_comes_133 rfl rfl <|
    aw_putI (pc := 134) C dX11_comes_134 fp_X11_157 sR_0 rfl fun h27 =>
    aw_iconst (pc := 137) C (v := 1) dX11_comes_137 rfl <|
    aw_zret (pc := 138) C dX11_comes_138 rfl rfl)) (fun c28 =>
    aw_tswD (pc := 18) C (N := 18) (td := 207) [102, 103, 106, 110, 116, 119] dX11_comes_18 (List.forall_mem_cons.mpr ⟨ti_ne c6 rfl, List.forall_mem_cons.mpr ⟨ti_ne c10 rfl, List.forall_mem_cons.mpr ⟨ti_ne c13 rfl, List.forall_mem_cons.mpr ⟨ti_ne c17 rfl, List.forall_mem_cons.mpr ⟨ti_ne c26 rfl, List.forall_mem_cons.mpr ⟨ti_ne c28 rfl, fun _ hz => by cases hz⟩⟩⟩⟩⟩⟩) rfl (by decide) rfl (aw_aload_n (pc := 207) C (i := 0) dX11_comes_207 rfl rfl <|
    aw_bipush (pc := 208) C (v := (-8)) dX11_comes_208 rfl <|
    aw_iconst (pc := 210) C (v := 0) dX11_comes_210 rfl <|
    aw_callF (pc := 211) C (cr_V (rest := []) (F := (X11_comesTry (-8) 0)) C (c_X11_comesTry X.2.1 (-8) 0) dX11_comes_211 mf_X11_comesTry ml_X11_166 im_X11_comesTry se_X11_comesTry sR_0 rfl ⟨(Nat.le_of_ble_eq_true rfl), (Nat.le_of_ble_eq_true rfl)⟩ rfl rfl (Nat.le_of_ble_eq_true rfl)) rfl rfl rfl (Nat.zero_le _) (Nat.zero_le _) fun r29 h30 =>
    aw_zret (pc := 214) C dX11_comes_214 rfl rfl)))))))

abbrev rmX11_passes : Room := { frames := 0, cells := 0, slots := 0, locals := 0 }
def X11_passes_j42 (p1 : Nat) (n1 : Nat) (v2 : Int32) (K2 : Int32 → AH → Option (Unit × AH)) (h : AH) : Option (Unit × AH) :=
    vl (sI h 0 27 ((h.1 0 27) + 1)) fun h2 =>
    vl (v2 + 1) fun x3 =>
    K2 x3 h2
set_option maxRecDepth 100000 in
theorem aX11_passes_j42 {X : MCx} {yd : Dyn} {A : Nat → Prop} (C : OK X cX11_passes RX11 3 none rmX11_passes A) (p1 : Nat) (n1 : Nat) (hA1 : ZR.1[p1]? = some (.inl (0, 0, n1))) (v2 : Int32) (K2 : Int32 → AH → Option (Unit × AH)) (hK2 : ∀ (w2 : Int32) (h : AH), AW X 3 ZR yd A 0 0 (QF X rmX11_passes ZR yd rvV A) 2 [(0, .ref 0), (1, .ref p1), (2, .int w2)] [] h (K2 w2 h)) (h : AH) : AW X 3 ZR yd A 0 0 (QF X rmX11_passes ZR yd rvV A) 42 [(0, .ref 0), (1, .ref p1), (2, .int v2)] [] h (X11_passes_j42 p1 n1 v2 K2 h) := by
    exact aw_aload_n (pc := 42) C (i := 0) dX11_passes_42 rfl rfl <|
    aw_dup (pc := 43) C dX11_passes_43 rfl <|
    aw_getI (pc := 44) C dX11_passes_44 fl_X11_184 sR_0 rfl <|
    aw_iconst (pc := 47) C (v := 1) dX11_passes_47 rfl <|
    aw_iadd (pc := 48) C dX11_passes_48 <|
    aw_putI (pc := 49) C dX11_passes_49 fp_X11_184 sR_0 rfl fun h2 =>
    aw_iincV (pc := 52) C (i := 2) (cst := 1) (fun x3 => [(0, .ref 0), (1, .ref p1), (2, .int x3)]) dX11_passes_52 rfl rfl (by decide) (fun _ => rfl) fun x3 =>
    aw_goto (pc := 55) C (tgt := 2) dX11_passes_55 rfl <|
    (hK2 x3 h2)
def X11_passes_l2 (p1 : Nat) (n1 : Nat) : Nat → Int32 → AH → Option (Unit × AH)
  | 0, _, _ => none
  | n + 1, v2, h =>
    if (Int32.ofNat n1) ≤ v2 then (some ((), h))
    else (if (h.1 0 26) = 0 then (ck (h.1 0 27) 240 (ck v2 n1 (vl (sI h p1 v2.toNatClampNeg (h.1 17 (h.1 0 27).toNatClampNeg)) fun h1 =>
    X11_passes_j42 p1 n1 v2 (X11_passes_l2 p1 n1 n) h1)))
    else (ck v2 n1 (ck (h.1 0 27) 240 (vl (sI h 17 (h.1 0 27).toNatClampNeg (h.1 p1 v2.toNatClampNeg)) fun h4 =>
    X11_passes_j42 p1 n1 v2 (X11_passes_l2 p1 n1 n) h4))))
set_option maxRecDepth 100000 in
theorem aX11_passes_l2 {X : MCx} {yd : Dyn} {A : Nat → Prop} (C : OK X cX11_passes RX11 3 none rmX11_passes A) (p1 : Nat) (n1 : Nat) (hA1 : ZR.1[p1]? = some (.inl (0, 0, n1))) : ∀ (n : Nat) (v2 : Int32) (h : AH), AW X 3 ZR yd A 0 0 (QF X rmX11_passes ZR yd rvV A) 2 [(0, .ref 0), (1, .ref p1), (2, .int v2)] [] h (X11_passes_l2 p1 n1 n v2 h) := by
  intro n
  induction n with
  | zero => intro v2 h; exact aw_none
  | succ n ih =>
    intro v2 h
    exact aw_iload_n (pc := 2) C (i := 2) dX11_passes_2 rfl rfl <|
    aw_aload_n (pc := 3) C (i := 1) dX11_passes_3 rfl rfl <|
    aw_alenI (pc := 4) C (v := (Int32.ofNat n1)) (by decide) dX11_passes_4 hA1 rfl rfl <|
    aw_icmp_ge (pc := 5) C (tgt := 58) dX11_passes_5 rfl (fun _ =>
    aw_vret (pc := 58) C dX11_passes_58 rfl rfl) (fun _ =>
    aw_aload_n (pc := 8) C (i := 0) dX11_passes_8 rfl rfl <|
    aw_getI (pc := 9) C dX11_passes_9 fl_X11_180 sR_0 rfl <|
    aw_if_eq (pc := 12) C (tgt := 30) dX11_passes_12 rfl (fun _ =>
    aw_aload_n (pc := 30) C (i := 1) dX11_passes_30 rfl rfl <|
    aw_iload_n (pc := 31) C (i := 2) dX11_passes_31 rfl rfl <|
    aw_aload_n (pc := 32) C (i := 0) dX11_passes_32 rfl rfl <|
    aw_getR (pc := 33) C (b := 17) dX11_passes_33 fl_X11_58 sR_0 rfl rR_0_24 <|
    aw_aload_n (pc := 36) C (i := 0) dX11_passes_36 rfl rfl <|
    aw_getI (pc := 37) C dX11_passes_37 fl_X11_184 sR_0 rfl <|
    aw_iald (pc := 40) C dX11_passes_40 sR_17 rfl <|
    aw_iast (pc := 41) C dX11_passes_41 hA1 rfl fun h1 =>
    (aX11_passes_j42 C p1 n1 hA1 v2 (X11_passes_l2 p1 n1 n) ih h1)) (fun _ =>
    aw_aload_n (pc := 15) C (i := 0) dX11_passes_15 rfl rfl <|
    aw_getR (pc := 16) C (b := 17) dX11_passes_16 fl_X11_58 sR_0 rfl rR_0_24 <|
    aw_aload_n (pc := 19) C (i := 0) dX11_passes_19 rfl rfl <|
    aw_getI (pc := 20) C dX11_passes_20 fl_X11_184 sR_0 rfl <|
    aw_aload_n (pc := 23) C (i := 1) dX11_passes_23 rfl rfl <|
    aw_iload_n (pc := 24) C (i := 2) dX11_passes_24 rfl rfl <|
    aw_iald (pc := 25) C dX11_passes_25 hA1 rfl <|
    aw_iast (pc := 26) C dX11_passes_26 sR_17 rfl fun h4 =>
    aw_goto (pc := 27) C (tgt := 42) dX11_passes_27 rfl <|
    (aX11_passes_j42 C p1 n1 hA1 v2 (X11_passes_l2 p1 n1 n) ih h4)))
def X11_passes (p1 : Nat) (n1 : Nat) (h : AH) : Option (Unit × AH) :=
    X11_passes_l2 p1 n1 FU 0 h
set_option maxRecDepth 100000 in
theorem c_X11_passes (l : Launch) (p1 : Nat) (n1 : Nat) (hA1 : ZR.1[p1]? = some (.inl (0, 0, n1))) : MC l yX11_passes cX11_passes 3 none rmX11_passes ZR [.ref 0, .ref p1] rvV (X11_passes p1 n1) :=
  MC.of (own := RX11) (by decide +kernel) rfl (Nat.le_of_ble_eq_true rfl) fun X yd A h _ C =>
    aw_iconst (pc := 0) C (v := 0) dX11_passes_0 rfl <|
    aw_istore_n (pc := 1) C (i := 2) (lv' := [(0, .ref 0), (1, .ref p1), (2, .int 0)]) dX11_passes_1 rfl (by decide) rfl <|
    (aX11_passes_l2 C p1 n1 hA1 FU 0 h)
end
section
abbrev rmX11_passOne : Room := { frames := 0, cells := 0, slots := 0, locals := 0 }
def X11_passOne_j38  (v2 : Int32) (h : AH) : Option (Int32 × AH) :=
    vl (sI h 0 27 ((h.1 0 27) + 1)) fun h1 =>
    some (v2, h1)
set_option maxRecDepth 100000 in
theorem aX11_passOne_j38 {X : MCx} {yd : Dyn} {A : Nat → Prop} (C : OK X cX11_passOne RX11 3 (some .int) rmX11_passOne A)  (v2 : Int32) (h : AH) : AW X 3 ZR yd A 0 0 (QF X rmX11_passOne ZR yd rvI A) 38 [(0, .ref 0), (2, .int v2)] [] h (X11_passOne_j38 v2 h) := by
    exact aw_aload_n (pc := 38) C (i := 0) dX11_passOne_38 rfl rfl <|
    aw_dup (pc := 39) C dX11_passOne_39 rfl <|
    aw_getI (pc := 40) C dX11_passOne_40 fl_X11_184 sR_0 rfl <|
    aw_iconst (pc := 43) C (v := 1) dX11_passOne_43 rfl <|
    aw_iadd (pc := 44) C dX11_passOne_44 <|
    aw_putI (pc := 45) C dX11_passOne_45 fp_X11_184 sR_0 rfl fun h1 =>
    aw_iload_n (pc := 48) C (i := 2) dX11_passOne_48 rfl rfl <|
    aw_iret (pc := 49) C dX11_passOne_49 rfl rfl
def X11_passOne_j20  (v1 : Int32) (s0 : Int32) (h : AH) : Option (Int32 × AH) :=
    if (h.1 0 26) = 0 then (X11_passOne_j38 s0 h)
    else (ck (h.1 0 27) 240 (vl (sI h 17 (h.1 0 27).toNatClampNeg v1) fun h2 =>
    X11_passOne_j38 s0 h2))
set_option maxRecDepth 100000 in
theorem aX11_passOne_j20 {X : MCx} {yd : Dyn} {A : Nat → Prop} (C : OK X cX11_passOne RX11 3 (some .int) rmX11_passOne A)  (v1 : Int32) (s0 : Int32) (h : AH) : AW X 3 ZR yd A 0 0 (QF X rmX11_passOne ZR yd rvI A) 20 [(0, .ref 0), (1, .int v1)] [.int s0] h (X11_passOne_j20 v1 s0 h) := by
    exact aw_istore_n (pc := 20) C (i := 2) (lv' := [(0, .ref 0), (1, .int v1), (2, .int s0)]) dX11_passOne_20 rfl (by decide) rfl <|
    aw_aload_n (pc := 21) C (i := 0) dX11_passOne_21 rfl rfl <|
    aw_getI (pc := 22) C dX11_passOne_22 fl_X11_180 sR_0 rfl <|
    aw_if_eq (pc := 25) C (tgt := 38) dX11_passOne_25 rfl (fun _ =>
    aw_drop [0, 2] (aX11_passOne_j38 C s0 h)) (fun _ =>
    aw_aload_n (pc := 28) C (i := 0) dX11_passOne_28 rfl rfl <|
    aw_getR (pc := 29) C (b := 17) dX11_passOne_29 fl_X11_58 sR_0 rfl rR_0_24 <|
    aw_aload_n (pc := 32) C (i := 0) dX11_passOne_32 rfl rfl <|
    aw_getI (pc := 33) C dX11_passOne_33 fl_X11_184 sR_0 rfl <|
    aw_iload_n (pc := 36) C (i := 1) dX11_passOne_36 rfl rfl <|
    aw_iast (pc := 37) C dX11_passOne_37 sR_17 rfl fun h2 =>
    aw_drop [0, 2] (aX11_passOne_j38 C s0 h2))
def X11_passOne (v1 : Int32) (h : AH) : Option (Int32 × AH) :=
    if (h.1 0 26) = 0 then (ck (h.1 0 27) 240 (X11_passOne_j20 v1 (h.1 17 (h.1 0 27).toNatClampNeg) h))
    else (X11_passOne_j20 v1 v1 h)
set_option maxRecDepth 100000 in
theorem c_X11_passOne (l : Launch) (v1 : Int32) : MC l yX11_passOne cX11_passOne 3 (some .int) rmX11_passOne ZR [.ref 0, .int v1] rvI (X11_passOne v1) :=
  MC.of (own := RX11) (by decide +kernel) rfl (Nat.le_of_ble_eq_true rfl) fun X yd A h _ C =>
    aw_aload_n (pc := 0) C (i := 0) dX11_passOne_0 rfl rfl <|
    aw_getI (pc := 1) C dX11_passOne_1 fl_X11_180 sR_0 rfl <|
    aw_if_eq (pc := 4) C (tgt := 11) dX11_passOne_4 rfl (fun _ =>
    aw_aload_n (pc := 11) C (i := 0) dX11_passOne_11 rfl rfl <|
    aw_getR (pc := 12) C (b := 17) dX11_passOne_12 fl_X11_58 sR_0 rfl rR_0_24 <|
    aw_aload_n (pc := 15) C (i := 0) dX11_passOne_15 rfl rfl <|
    aw_getI (pc := 16) C dX11_passOne_16 fl_X11_184 sR_0 rfl <|
    aw_iald (pc := 19) C dX11_passOne_19 sR_17 rfl <|
    (aX11_passOne_j20 C v1 (h.1 17 (h.1 0 27).toNatClampNeg) h)) (fun _ =>
    aw_iload_n (pc := 7) C (i := 1) dX11_passOne_7 rfl rfl <|
    aw_goto (pc := 8) C (tgt := 20) dX11_passOne_8 rfl <|
    (aX11_passOne_j20 C v1 v1 h))

abbrev rmX11_passesAll : Room := { frames := 1, cells := 0, slots := 0, locals := 22 }
def X11_passesAll (v1 : Int32) (v2 : Int32) (h : AH) : Option (Unit × AH) :=
    vl (sI h 0 27 (120 * v1)) fun h1 =>
    cz v2 (vl (sI h1 0 26 v2) fun h2 =>
    bd (X11_passes 2 4 h2) fun _ h4 =>
    bd (X11_passes 3 4 h4) fun _ h6 =>
    bd (X11_passes 4 4 h6) fun _ h8 =>
    bd (X11_passes 5 4 h8) fun _ h10 =>
    bd (X11_passes 6 4 h10) fun _ h12 =>
    bd (X11_passes 7 4 h12) fun _ h14 =>
    bd (X11_passes 8 4 h14) fun _ h16 =>
    bd (X11_passes 9 4 h16) fun _ h18 =>
    bd (X11_passes 10 24 h18) fun _ h20 =>
    bd (X11_passes 11 24 h20) fun _ h22 =>
    bd (X11_passes 12 24 h22) fun _ h24 =>
    bd (X11_passOne (h24.1 0 12) h24) fun r25 h26 =>
    vl (sI h26 0 12 r25) fun h27 =>
    bd (X11_passOne (h27.1 0 13) h27) fun r28 h29 =>
    vl (sI h29 0 13 r28) fun h30 =>
    bd (X11_passOne (h30.1 0 14) h30) fun r31 h32 =>
    vl (sI h32 0 14 r31) fun h33 =>
    bd (X11_passOne (h33.1 0 15) h33) fun r34 h35 =>
    vl (sI h35 0 15 r34) fun h36 =>
    bd (X11_passOne (h36.1 0 16) h36) fun r37 h38 =>
    vl (sI h38 0 16 r37) fun h39 =>
    some ((), h39))
set_option maxRecDepth 100000 in
theorem c_X11_passesAll (l : Launch) (v1 : Int32) (v2 : Int32) : MC l yX11_passesAll cX11_passesAll 3 none rmX11_passesAll ZR [.ref 0, .int v1, .int v2] rvV (X11_passesAll v1 v2) :=
  MC.of (own := RX11) (by decide +kernel) rfl (Nat.le_of_ble_eq_true rfl) fun X yd A h _ C =>
    aw_aload_n (pc := 0) C (i := 0) dX11_passesAll_0 rfl rfl <|
    aw_bipush (pc := 1) C (v := 120) dX11_passesAll_1 rfl <|
    aw_iload_n (pc := 3) C (i := 1) dX11_passesAll_3 rfl rfl <|
    aw_imul (pc := 4) C dX11_passesAll_4 <|
    aw_putI (pc := 5) C dX11_passesAll_5 fp_X11_184 sR_0 rfl fun h1 =>
    aw_aload_n (pc := 8) C (i := 0) dX11_passesAll_8 rfl rfl <|
    aw_iload_n (pc := 9) C (i := 2) dX11_passesAll_9 rfl rfl <|
    aw_putZ (pc := 10) C dX11_passesAll_10 fp_X11_180 sR_0 rfl fun h2 =>
    aw_aload_n (pc := 13) C (i := 0) dX11_passesAll_13 rfl rfl <|
    aw_aload_n (pc := 14) C (i := 0) dX11_passesAll_14 rfl rfl <|
    aw_getR (pc := 15) C (b := 2) dX11_passesAll_15 fl_X11_13 sR_0 rfl rR_0_1 <|
    aw_callF (pc := 18) C (cr_V (rest := []) (F := (X11_passes 2 4)) C (c_X11_passes X.2.1 2 4 sR_2) dX11_passesAll_18 mf_X11_passes ml_X11_187 im_X11_passes se_X11_passes sR_0 rfl ⟨(Nat.le_of_ble_eq_true rfl), (Nat.le_of_ble_eq_true rfl)⟩ rfl rfl (Nat.le_of_ble_eq_true rfl)) rfl rfl rfl (Nat.zero_le _) (Nat.zero_le _) fun _ h4 =>
    aw_aload_n (pc := 21) C (i := 0) dX11_passesAll_21 rfl rfl <|
    aw_aload_n (pc := 22) C (i := 0) dX11_passesAll_22 rfl rfl <|
    aw_getR (pc := 23) C (b := 3) dX11_passesAll_23 fl_X11_16 sR_0 rfl rR_0_2 <|
    aw_callF (pc := 26) C (cr_V (rest := []) (F := (X11_passes 3 4)) C (c_X11_passes X.2.1 3 4 sR_3) dX11_passesAll_26 mf_X11_passes ml_X11_187 im_X11_passes se_X11_passes sR_0 rfl ⟨(Nat.le_of_ble_eq_true rfl), (Nat.le_of_ble_eq_true rfl)⟩ rfl rfl (Nat.le_of_ble_eq_true rfl)) rfl rfl rfl (Nat.zero_le _) (Nat.zero_le _) fun _ h6 =>
    aw_aload_n (pc := 29) C (i := 0) dX11_passesAll_29 rfl rfl <|
    aw_aload_n (pc := 30) C (i := 0) dX11_passesAll_30 rfl rfl <|
    aw_getR (pc := 31) C (b := 4) dX11_passesAll_31 fl_X11_19 sR_0 rfl rR_0_3 <|
    aw_callF (pc := 34) C (cr_V (rest := []) (F := (X11_passes 4 4)) C (c_X11_passes X.2.1 4 4 sR_4) dX11_passesAll_34 mf_X11_passes ml_X11_187 im_X11_passes se_X11_passes sR_0 rfl ⟨(Nat.le_of_ble_eq_true rfl), (Nat.le_of_ble_eq_true rfl)⟩ rfl rfl (Nat.le_of_ble_eq_true rfl)) rfl rfl rfl (Nat.zero_le _) (Nat.zero_le _) fun _ h8 =>
    aw_aload_n (pc := 37) C (i := 0) dX11_passesAll_37 rfl rfl <|
    aw_aload_n (pc := 38) C (i := 0) dX11_passesAll_38 rfl rfl <|
    aw_getR (pc := 39) C (b := 5) dX11_passesAll_39 fl_X11_22 sR_0 rfl rR_0_4 <|
    aw_callF (pc := 42) C (cr_V (rest := []) (F := (X11_passes 5 4)) C (c_X11_passes X.2.1 5 4 sR_5) dX11_passesAll_42 mf_X11_passes ml_X11_187 im_X11_passes se_X11_passes sR_0 rfl ⟨(Nat.le_of_ble_eq_true rfl), (Nat.le_of_ble_eq_true rfl)⟩ rfl rfl (Nat.le_of_ble_eq_true rfl)) rfl rfl rfl (Nat.zero_le _) (Nat.zero_le _) fun _ h10 =>
    aw_aload_n (pc := 45) C (i := 0) dX11_passesAll_45 rfl rfl <|
    aw_aload_n (pc := 46) C (i := 0) dX11_passesAll_46 rfl rfl <|
    aw_getR (pc := 47) C (b := 6) dX11_passesAll_47 fl_X11_25 sR_0 rfl rR_0_5 <|
    aw_callF (pc := 50) C (cr_V (rest := []) (F := (X11_passes 6 4)) C (c_X11_passes X.2.1 6 4 sR_6) dX11_passesAll_50 mf_X11_passes ml_X11_187 im_X11_passes se_X11_passes sR_0 rfl ⟨(Nat.le_of_ble_eq_true rfl), (Nat.le_of_ble_eq_true rfl)⟩ rfl rfl (Nat.le_of_ble_eq_true rfl)) rfl rfl rfl (Nat.zero_le _) (Nat.zero_le _) fun _ h12 =>
    aw_aload_n (pc := 53) C (i := 0) dX11_passesAll_53 rfl rfl <|
    aw_aload_n (pc := 54) C (i := 0) dX11_passesAll_54 rfl rfl <|
    aw_getR (pc := 55) C (b := 7) dX11_passesAll_55 fl_X11_28 sR_0 rfl rR_0_6 <|
    aw_callF (pc := 58) C (cr_V (rest := []) (F := (X11_passes 7 4)) C (c_X11_passes X.2.1 7 4 sR_7) dX11_passesAll_58 mf_X11_passes ml_X11_187 im_X11_passes se_X11_passes sR_0 rfl ⟨(Nat.le_of_ble_eq_true rfl), (Nat.le_of_ble_eq_true rfl)⟩ rfl rfl (Nat.le_of_ble_eq_true rfl)) rfl rfl rfl (Nat.zero_le _) (Nat.zero_le _) fun _ h14 =>
    aw_aload_n (pc := 61) C (i := 0) dX11_passesAll_61 rfl rfl <|
    aw_aload_n (pc := 62) C (i := 0) dX11_passesAll_62 rfl rfl <|
    aw_getR (pc := 63) C (b := 8) dX11_passesAll_63 fl_X11_31 sR_0 rfl rR_0_7 <|
    aw_callF (pc := 66) C (cr_V (rest := []) (F := (X11_passes 8 4)) C (c_X11_passes X.2.1 8 4 sR_8) dX11_passesAll_66 mf_X11_passes ml_X11_187 im_X11_passes se_X11_passes sR_0 rfl ⟨(Nat.le_of_ble_eq_true rfl), (Nat.le_of_ble_eq_true rfl)⟩ rfl rfl (Nat.le_of_ble_eq_true rfl)) rfl rfl rfl (Nat.zero_le _) (Nat.zero_le _) fun _ h16 =>
    aw_aload_n (pc := 69) C (i := 0) dX11_passesAll_69 rfl rfl <|
    aw_aload_n (pc := 70) C (i := 0) dX11_passesAll_70 rfl rfl <|
    aw_getR (pc := 71) C (b := 9) dX11_passesAll_71 fl_X11_34 sR_0 rfl rR_0_8 <|
    aw_callF (pc := 74) C (cr_V (rest := []) (F := (X11_passes 9 4)) C (c_X11_passes X.2.1 9 4 sR_9) dX11_passesAll_74 mf_X11_passes ml_X11_187 im_X11_passes se_X11_passes sR_0 rfl ⟨(Nat.le_of_ble_eq_true rfl), (Nat.le_of_ble_eq_true rfl)⟩ rfl rfl (Nat.le_of_ble_eq_true rfl)) rfl rfl rfl (Nat.zero_le _) (Nat.zero_le _) fun _ h18 =>
    aw_aload_n (pc := 77) C (i := 0) dX11_passesAll_77 rfl rfl <|
    aw_aload_n (pc := 78) C (i := 0) dX11_passesAll_78 rfl rfl <|
    aw_getR (pc := 79) C (b := 10) dX11_passesAll_79 fl_X11_37 sR_0 rfl rR_0_9 <|
    aw_callF (pc := 82) C (cr_V (rest := []) (F := (X11_passes 10 24)) C (c_X11_passes X.2.1 10 24 sR_10) dX11_passesAll_82 mf_X11_passes ml_X11_187 im_X11_passes se_X11_passes sR_0 rfl ⟨(Nat.le_of_ble_eq_true rfl), (Nat.le_of_ble_eq_true rfl)⟩ rfl rfl (Nat.le_of_ble_eq_true rfl)) rfl rfl rfl (Nat.zero_le _) (Nat.zero_le _) fun _ h20 =>
    aw_aload_n (pc := 85) C (i := 0) dX11_passesAll_85 rfl rfl <|
    aw_aload_n (pc := 86) C (i := 0) dX11_passesAll_86 rfl rfl <|
    aw_getR (pc := 87) C (b := 11) dX11_passesAll_87 fl_X11_40 sR_0 rfl rR_0_10 <|
    aw_callF (pc := 90) C (cr_V (rest := []) (F := (X11_passes 11 24)) C (c_X11_passes X.2.1 11 24 sR_11) dX11_passesAll_90 mf_X11_passes ml_X11_187 im_X11_passes se_X11_passes sR_0 rfl ⟨(Nat.le_of_ble_eq_true rfl), (Nat.le_of_ble_eq_true rfl)⟩ rfl rfl (Nat.le_of_ble_eq_true rfl)) rfl rfl rfl (Nat.zero_le _) (Nat.zero_le _) fun _ h22 =>
    aw_aload_n (pc := 93) C (i := 0) dX11_passesAll_93 rfl rfl <|
    aw_aload_n (pc := 94) C (i := 0) dX11_passesAll_94 rfl rfl <|
    aw_getR (pc := 95) C (b := 12) dX11_passesAll_95 fl_X11_43 sR_0 rfl rR_0_11 <|
    aw_callF (pc := 98) C (cr_V (rest := []) (F := (X11_passes 12 24)) C (c_X11_passes X.2.1 12 24 sR_12) dX11_passesAll_98 mf_X11_passes ml_X11_187 im_X11_passes se_X11_passes sR_0 rfl ⟨(Nat.le_of_ble_eq_true rfl), (Nat.le_of_ble_eq_true rfl)⟩ rfl rfl (Nat.le_of_ble_eq_true rfl)) rfl rfl rfl (Nat.zero_le _) (Nat.zero_le _) fun _ h24 =>
    aw_aload_n (pc := 101) C (i := 0) dX11_passesAll_101 rfl rfl <|
    aw_aload_n (pc := 102) C (i := 0) dX11_passesAll_102 rfl rfl <|
    aw_aload_n (pc := 103) C (i := 0) dX11_passesAll_103 rfl rfl <|
    aw_getI (pc := 104) C dX11_passesAll_104 fl_X11_95 sR_0 rfl <|
    aw_callF (pc := 107) C (cr_V (rest := [.ref 0]) (F := (X11_passOne (h24.1 0 12))) C (c_X11_passOne X.2.1 (h24.1 0 12)) dX11_passesAll_107 mf_X11_passOne ml_X11_191 im_X11_passOne se_X11_passOne sR_0 rfl ⟨(Nat.le_of_ble_eq_true rfl), (Nat.le_of_ble_eq_true rfl)⟩ rfl rfl (Nat.le_of_ble_eq_true rfl)) rfl rfl rfl (Nat.zero_le _) (Nat.zero_le _) fun r25 h26 =>
    aw_putI (pc := 110) C dX11_passesAll_110 fp_X11_95 sR_0 rfl fun h27 =>
    aw_aload_n (pc := 113) C (i := 0) dX11_passesAll_113 rfl rfl <|
    aw_aload_n (pc := 114) C (i := 0) dX11_passesAll_114 rfl rfl <|
    aw_aload_n (pc := 115) C (i := 0) dX11_passesAll_115 rfl rfl <|
    aw_getI (pc := 116) C dX11_passesAll_116 fl_X11_99 sR_0 rfl <|
    aw_callF (pc := 119) C (cr_V (rest := [.ref 0]) (F := (X11_passOne (h27.1 0 13))) C (c_X11_passOne X.2.1 (h27.1 0 13)) dX11_passesAll_119 mf_X11_passOne ml_X11_191 im_X11_passOne se_X11_passOne sR_0 rfl ⟨(Nat.le_of_ble_eq_true rfl), (Nat.le_of_ble_eq_true rfl)⟩ rfl rfl (Nat.le_of_ble_eq_true rfl)) rfl rfl rfl (Nat.zero_le _) (Nat.zero_le _) fun r28 h29 =>
    aw_putI (pc := 122) C dX11_passesAll_122 fp_X11_99 sR_0 rfl fun h30 =>
    aw_aload_n (pc := 125) C (i := 0) dX11_passesAll_125 rfl rfl <|
    aw_aload_n (pc := 126) C (i := 0) dX11_passesAll_126 rfl rfl <|
    aw_aload_n (pc := 127) C (i := 0) dX11_passesAll_127 rfl rfl <|
    aw_getI (pc := 128) C dX11_passesAll_128 fl_X11_157 sR_0 rfl <|
    aw_callF (pc := 131) C (cr_V (rest := [.ref 0]) (F := (X11_passOne (h30.1 0 14))) C (c_X11_passOne X.2.1 (h30.1 0 14)) dX11_passesAll_131 mf_X11_passOne ml_X11_191 im_X11_passOne se_X11_passOne sR_0 rfl ⟨(Nat.le_of_ble_eq_true rfl), (Nat.le_of_ble_eq_true rfl)⟩ rfl rfl (Nat.le_of_ble_eq_true rfl)) rfl rfl rfl (Nat.zero_le _) (Nat.zero_le _) fun r31 h32 =>
    aw_putI (pc := 134) C dX11_passesAll_134 fp_X11_157 sR_0 rfl fun h33 =>
    aw_aload_n (pc := 137) C (i := 0) dX11_passesAll_137 rfl rfl <|
    aw_aload_n (pc := 138) C (i := 0) dX11_passesAll_138 rfl rfl <|
    aw_aload_n (pc := 139) C (i := 0) dX11_passesAll_139 rfl rfl <|
    aw_getI (pc := 140) C dX11_passesAll_140 fl_X11_105 sR_0 rfl <|
    aw_callF (pc := 143) C (cr_V (rest := [.ref 0]) (F := (X11_passOne (h33.1 0 15))) C (c_X11_passOne X.2.1 (h33.1 0 15)) dX11_passesAll_143 mf_X11_passOne ml_X11_191 im_X11_passOne se_X11_passOne sR_0 rfl ⟨(Nat.le_of_ble_eq_true rfl), (Nat.le_of_ble_eq_true rfl)⟩ rfl rfl (Nat.le_of_ble_eq_true rfl)) rfl rfl rfl (Nat.zero_le _) (Nat.zero_le _) fun r34 h35 =>
    aw_putI (pc := 146) C dX11_passesAll_146 fp_X11_105 sR_0 rfl fun h36 =>
    aw_aload_n (pc := 149) C (i := 0) dX11_passesAll_149 rfl rfl <|
    aw_aload_n (pc := 150) C (i := 0) dX11_passesAll_150 rfl rfl <|
    aw_aload_n (pc := 151) C (i := 0) dX11_passesAll_151 rfl rfl <|
    aw_getI (pc := 152) C dX11_passesAll_152 fl_X11_147 sR_0 rfl <|
    aw_callF (pc := 155) C (cr_V (rest := [.ref 0]) (F := (X11_passOne (h36.1 0 16))) C (c_X11_passOne X.2.1 (h36.1 0 16)) dX11_passesAll_155 mf_X11_passOne ml_X11_191 im_X11_passOne se_X11_passOne sR_0 rfl ⟨(Nat.le_of_ble_eq_true rfl), (Nat.le_of_ble_eq_true rfl)⟩ rfl rfl (Nat.le_of_ble_eq_true rfl)) rfl rfl rfl (Nat.zero_le _) (Nat.zero_le _) fun r37 h38 =>
    aw_putI (pc := 158) C dX11_passesAll_158 fp_X11_147 sR_0 rfl fun h39 =>
    aw_vret (pc := 161) C dX11_passesAll_161 rfl rfl

abbrev rmX11_ground : Room := { frames := 7, cells := 0, slots := 0, locals := 155 }
def X11_ground_l86  : Nat → Int32 → AH → Option (Int32 × AH)
  | 0, _, _ => none
  | n + 1, v2, h =>
    if (h.1 0 23) ≤ v2 then (some ((h.1 0 23), h))
    else (bd (X11_comes v2 h) fun r6 h7 =>
    if r6 = 0 then (bd (X11_passesAll 1 0 h7) fun _ h9 =>
    ck v2 48 (some (((-2000) - (h9.1 15 v2.toNatClampNeg)), h9)))
    else (vl (v2 + 1) fun x10 =>
    (X11_ground_l86 n) x10 h7))
set_option maxRecDepth 100000 in
theorem aX11_ground_l86 {X : MCx} {yd : Dyn} {A : Nat → Prop} (C : OK X cX11_ground RX11 3 (some .int) rmX11_ground A)  : ∀ (n : Nat) (v2 : Int32) (h : AH), AW X 3 ZR yd A 0 0 (QF X rmX11_ground ZR yd rvI A) 86 [(0, .ref 0), (2, .int v2)] [] h (X11_ground_l86 n v2 h) := by
  intro n
  induction n with
  | zero => intro v2 h; exact aw_none
  | succ n ih =>
    intro v2 h
    exact aw_iload_n (pc := 86) C (i := 2) dX11_ground_86 rfl rfl <|
    aw_aload_n (pc := 87) C (i := 0) dX11_ground_87 rfl rfl <|
    aw_getI (pc := 88) C dX11_ground_88 fl_X11_141 sR_0 rfl <|
    aw_icmp_ge (pc := 91) C (tgt := 128) dX11_ground_91 rfl (fun _ =>
    aw_aload_n (pc := 128) C (i := 0) dX11_ground_128 rfl rfl <|
    aw_getI (pc := 129) C dX11_ground_129 fl_X11_141 sR_0 rfl <|
    aw_iret (pc := 132) C dX11_ground_132 rfl rfl) (fun _ =>
    aw_aload_n (pc := 94) C (i := 0) dX11_ground_94 rfl rfl <|
    aw_iload_n (pc := 95) C (i := 2) dX11_ground_95 rfl rfl <|
    aw_callF (pc := 96) C (cr_V (rest := []) (F := (X11_comes v2)) C (c_X11_comes X.2.1 v2) dX11_ground_96 mf_X11_comes ml_X11_177 im_X11_comes se_X11_comes sR_0 rfl ⟨(Nat.le_of_ble_eq_true rfl), (Nat.le_of_ble_eq_true rfl)⟩ rfl rfl (Nat.le_of_ble_eq_true rfl)) rfl rfl rfl (Nat.zero_le _) (Nat.zero_le _) fun r6 h7 =>
    aw_if_eq (pc := 99) C (tgt := 105) dX11_ground_99 rfl (fun _ =>
    aw_aload_n (pc := 105) C (i := 0) dX11_ground_105 rfl rfl <|
    aw_iconst (pc := 106) C (v := 1) dX11_ground_106 rfl <|
    aw_iconst (pc := 107) C (v := 0) dX11_ground_107 rfl <|
    aw_callF (pc := 108) C (cr_V (rest := []) (F := (X11_passesAll 1 0)) C (c_X11_passesAll X.2.1 1 0) dX11_ground_108 mf_X11_passesAll ml_X11_173 im_X11_passesAll se_X11_passesAll sR_0 rfl ⟨(Nat.le_of_ble_eq_true rfl), (Nat.le_of_ble_eq_true rfl)⟩ rfl rfl (Nat.le_of_ble_eq_true rfl)) rfl rfl rfl (Nat.zero_le _) (Nat.zero_le _) fun _ h9 =>
    aw_sipush (pc := 111) C (v := (-2000)) dX11_ground_111 rfl <|
    aw_aload_n (pc := 114) C (i := 0) dX11_ground_114 rfl rfl <|
    aw_getR (pc := 115) C (b := 15) dX11_ground_115 fl_X11_52 sR_0 rfl rR_0_19 <|
    aw_iload_n (pc := 118) C (i := 2) dX11_ground_118 rfl rfl <|
    aw_iald (pc := 119) C dX11_ground_119 sR_15 rfl <|
    aw_isub (pc := 120) C dX11_ground_120 <|
    aw_iret (pc := 121) C dX11_ground_121 rfl rfl) (fun _ =>
    aw_goto (pc := 102) C (tgt := 122) dX11_ground_102 rfl <|
    aw_iincV (pc := 122) C (i := 2) (cst := 1) (fun x10 => [(0, .ref 0), (2, .int x10)]) dX11_ground_122 rfl rfl (by decide) (fun _ => rfl) fun x10 =>
    aw_goto (pc := 125) C (tgt := 86) dX11_ground_125 rfl <|
    (ih x10 h7)))
def X11_ground_j60  (v1 : Int32) (h : AH) : Option (Int32 × AH) :=
    vl (sI h 0 21 0) fun h3 =>
    if v1 = 0 then (some (((-1000) - (h3.1 0 22)), h3))
    else (bd (X11_passesAll 1 1 h3) fun _ h5 =>
    X11_ground_l86 FU 0 h5)
set_option maxRecDepth 100000 in
theorem aX11_ground_j60 {X : MCx} {yd : Dyn} {A : Nat → Prop} (C : OK X cX11_ground RX11 3 (some .int) rmX11_ground A)  (v1 : Int32) (h : AH) : AW X 3 ZR yd A 0 0 (QF X rmX11_ground ZR yd rvI A) 60 [(0, .ref 0), (1, .int v1)] [] h (X11_ground_j60 v1 h) := by
    exact aw_aload_n (pc := 60) C (i := 0) dX11_ground_60 rfl rfl <|
    aw_iconst (pc := 61) C (v := 0) dX11_ground_61 rfl <|
    aw_putI (pc := 62) C dX11_ground_62 fp_X11_112 sR_0 rfl fun h3 =>
    aw_iload_n (pc := 65) C (i := 1) dX11_ground_65 rfl rfl <|
    aw_if_ne (pc := 66) C (tgt := 78) dX11_ground_66 rfl (fun _ =>
    aw_sipush (pc := 69) C (v := (-1000)) dX11_ground_69 rfl <|
    aw_aload_n (pc := 72) C (i := 0) dX11_ground_72 rfl rfl <|
    aw_getI (pc := 73) C dX11_ground_73 fl_X11_119 sR_0 rfl <|
    aw_isub (pc := 76) C dX11_ground_76 <|
    aw_iret (pc := 77) C dX11_ground_77 rfl rfl) (fun _ =>
    aw_aload_n (pc := 78) C (i := 0) dX11_ground_78 rfl rfl <|
    aw_iconst (pc := 79) C (v := 1) dX11_ground_79 rfl <|
    aw_iconst (pc := 80) C (v := 1) dX11_ground_80 rfl <|
    aw_callF (pc := 81) C (cr_V (rest := []) (F := (X11_passesAll 1 1)) C (c_X11_passesAll X.2.1 1 1) dX11_ground_81 mf_X11_passesAll ml_X11_173 im_X11_passesAll se_X11_passesAll sR_0 rfl ⟨(Nat.le_of_ble_eq_true rfl), (Nat.le_of_ble_eq_true rfl)⟩ rfl rfl (Nat.le_of_ble_eq_true rfl)) rfl rfl rfl (Nat.zero_le _) (Nat.zero_le _) fun _ h5 =>
    aw_iconst (pc := 84) C (v := 0) dX11_ground_84 rfl <|
    aw_istore_n (pc := 85) C (i := 2) (lv' := [(0, .ref 0), (1, .int v1), (2, .int 0)]) dX11_ground_85 rfl (by decide) rfl <|
    aw_drop [0, 2] (aX11_ground_l86 C FU 0 h5))
def X11_ground_j53  (v1 : Int32) (K12 : Int32 → AH → Option (Int32 × AH)) (s0 : Int32) (s1 : Int32) (h : AH) : Option (Int32 × AH) :=
    vl (sI h 0 23 (s1 + s0)) fun h13 =>
    K12 v1 h13
set_option maxRecDepth 100000 in
theorem aX11_ground_j53 {X : MCx} {yd : Dyn} {A : Nat → Prop} (C : OK X cX11_ground RX11 3 (some .int) rmX11_ground A)  (v1 : Int32) (K12 : Int32 → AH → Option (Int32 × AH)) (hK12 : ∀ (w1 : Int32) (h : AH), AW X 3 ZR yd A 0 0 (QF X rmX11_ground ZR yd rvI A) 12 [(0, .ref 0), (1, .int w1)] [] h (K12 w1 h)) (s0 : Int32) (s1 : Int32) (h : AH) : AW X 3 ZR yd A 0 0 (QF X rmX11_ground ZR yd rvI A) 53 [(0, .ref 0), (1, .int v1)] [.int s0, .int s1, .ref 0] h (X11_ground_j53 v1 K12 s0 s1 h) := by
    exact aw_iadd (pc := 53) C dX11_ground_53 <|
    aw_putI (pc := 54) C dX11_ground_54 fp_X11_141 sR_0 rfl fun h13 =>
    aw_goto (pc := 57) C (tgt := 12) dX11_ground_57 rfl <|
    (hK12 v1 h13)
def X11_ground_j34  (K12 : Int32 → AH → Option (Int32 × AH)) (h : AH) : Option (Int32 × AH) :=
    bd (X11_statement h) fun r11 h12 =>
    if r11 = 0 then (X11_ground_j53 r11 K12 0 (h12.1 0 23) h12)
    else (X11_ground_j53 r11 K12 1 (h12.1 0 23) h12)
set_option maxRecDepth 100000 in
theorem aX11_ground_j34 {X : MCx} {yd : Dyn} {A : Nat → Prop} (C : OK X cX11_ground RX11 3 (some .int) rmX11_ground A)  (K12 : Int32 → AH → Option (Int32 × AH)) (hK12 : ∀ (w1 : Int32) (h : AH), AW X 3 ZR yd A 0 0 (QF X rmX11_ground ZR yd rvI A) 12 [(0, .ref 0), (1, .int w1)] [] h (K12 w1 h)) (h : AH) : AW X 3 ZR yd A 0 0 (QF X rmX11_ground ZR yd rvI A) 34 [(0, .ref 0)] [] h (X11_ground_j34 K12 h) := by
    exact aw_aload_n (pc := 34) C (i := 0) dX11_ground_34 rfl rfl <|
    aw_callF (pc := 35) C (cr_V (rest := []) (F := X11_statement) C (c_X11_statement X.2.1 ) dX11_ground_35 mf_X11_statement ml_X11_169 im_X11_statement se_X11_statement sR_0 rfl ⟨(Nat.le_of_ble_eq_true rfl), (Nat.le_of_ble_eq_true rfl)⟩ rfl rfl (Nat.le_of_ble_eq_true rfl)) rfl rfl rfl (Nat.zero_le _) (Nat.zero_le _) fun r11 h12 =>
    aw_istore_n (pc := 38) C (i := 1) (lv' := [(0, .ref 0), (1, .int r11)]) dX11_ground_38 rfl (by decide) rfl <|
    aw_aload_n (pc := 39) C (i := 0) dX11_ground_39 rfl rfl <|
    aw_dup (pc := 40) C dX11_ground_40 rfl <|
    aw_getI (pc := 41) C dX11_ground_41 fl_X11_141 sR_0 rfl <|
    aw_iload_n (pc := 44) C (i := 1) dX11_ground_44 rfl rfl <|
    aw_if_eq (pc := 45) C (tgt := 52) dX11_ground_45 rfl (fun _ =>
    aw_iconst (pc := 52) C (v := 0) dX11_ground_52 rfl <|
    (aX11_ground_j53 C r11 K12 hK12 0 (h12.1 0 23) h12)) (fun _ =>
    aw_iconst (pc := 48) C (v := 1) dX11_ground_48 rfl <|
    aw_goto (pc := 49) C (tgt := 53) dX11_ground_49 rfl <|
    (aX11_ground_j53 C r11 K12 hK12 1 (h12.1 0 23) h12))
def X11_ground_l12  : Nat → Int32 → AH → Option (Int32 × AH)
  | 0, _, _ => none
  | n + 1, v1, h =>
    if v1 = 0 then (X11_ground_j60 v1 h)
    else (if (h.1 0 22) < (h.1 0 21) then (X11_ground_j34 (X11_ground_l12 n) h)
    else (if (h.1 0 23) = 0 then (X11_ground_j34 (X11_ground_l12 n) h)
    else (X11_ground_j60 v1 h)))
set_option maxRecDepth 100000 in
theorem aX11_ground_l12 {X : MCx} {yd : Dyn} {A : Nat → Prop} (C : OK X cX11_ground RX11 3 (some .int) rmX11_ground A)  : ∀ (n : Nat) (v1 : Int32) (h : AH), AW X 3 ZR yd A 0 0 (QF X rmX11_ground ZR yd rvI A) 12 [(0, .ref 0), (1, .int v1)] [] h (X11_ground_l12 n v1 h) := by
  intro n
  induction n with
  | zero => intro v1 h; exact aw_none
  | succ n ih =>
    intro v1 h
    exact aw_iload_n (pc := 12) C (i := 1) dX11_ground_12 rfl rfl <|
    aw_if_eq (pc := 13) C (tgt := 60) dX11_ground_13 rfl (fun _ =>
    (aX11_ground_j60 C v1 h)) (fun _ =>
    aw_aload_n (pc := 16) C (i := 0) dX11_ground_16 rfl rfl <|
    aw_getI (pc := 17) C dX11_ground_17 fl_X11_119 sR_0 rfl <|
    aw_aload_n (pc := 20) C (i := 0) dX11_ground_20 rfl rfl <|
    aw_getI (pc := 21) C dX11_ground_21 fl_X11_112 sR_0 rfl <|
    aw_icmp_lt (pc := 24) C (tgt := 34) dX11_ground_24 rfl (fun _ =>
    aw_drop [0] (aX11_ground_j34 C (X11_ground_l12 n) ih h)) (fun _ =>
    aw_aload_n (pc := 27) C (i := 0) dX11_ground_27 rfl rfl <|
    aw_getI (pc := 28) C dX11_ground_28 fl_X11_141 sR_0 rfl <|
    aw_if_ne (pc := 31) C (tgt := 60) dX11_ground_31 rfl (fun _ =>
    aw_drop [0] (aX11_ground_j34 C (X11_ground_l12 n) ih h)) (fun _ =>
    (aX11_ground_j60 C v1 h))))
def X11_ground  (h : AH) : Option (Int32 × AH) :=
    vl (sI h 0 22 0) fun h1 =>
    vl (sI h1 0 23 0) fun h2 =>
    X11_ground_l12 FU 1 h2
set_option maxRecDepth 100000 in
theorem c_X11_ground (l : Launch)  : MC l yX11_ground cX11_ground 3 (some .int) rmX11_ground ZR [.ref 0] rvI (X11_ground) :=
  MC.of (own := RX11) (by decide +kernel) rfl (Nat.le_of_ble_eq_true rfl) fun X yd A h _ C =>
    aw_aload_n (pc := 0) C (i := 0) dX11_ground_0 rfl rfl <|
    aw_iconst (pc := 1) C (v := 0) dX11_ground_1 rfl <|
    aw_putI (pc := 2) C dX11_ground_2 fp_X11_119 sR_0 rfl fun h1 =>
    aw_aload_n (pc := 5) C (i := 0) dX11_ground_5 rfl rfl <|
    aw_iconst (pc := 6) C (v := 0) dX11_ground_6 rfl <|
    aw_putI (pc := 7) C dX11_ground_7 fp_X11_141 sR_0 rfl fun h2 =>
    aw_iconst (pc := 10) C (v := 1) dX11_ground_10 rfl <|
    aw_istore_n (pc := 11) C (i := 1) (lv' := [(0, .ref 0), (1, .int 1)]) dX11_ground_11 rfl (by decide) rfl <|
    (aX11_ground_l12 C FU 1 h2)

abbrev rmX11_image : Room := { frames := 2, cells := 0, slots := 0, locals := 44 }
def X11_image  (h : AH) : Option (Int32 × AH) :=
    cz 1 (vl (sI h 0 25 1) fun h1 =>
    bd (X11_passesAll 0 1 h1) fun _ h3 =>
    some ((h3.1 0 16), h3))
set_option maxRecDepth 100000 in
theorem c_X11_image (l : Launch)  : MC l yX11_image cX11_image 1 (some .int) rmX11_image ZR [.ref 0] rvI (X11_image) :=
  MC.of (own := RX11) (by decide +kernel) rfl (Nat.le_of_ble_eq_true rfl) fun X yd A h _ C =>
    aw_aload_n (pc := 0) C (i := 0) dX11_image_0 rfl rfl <|
    aw_iconst (pc := 1) C (v := 1) dX11_image_1 rfl <|
    aw_putZ (pc := 2) C dX11_image_2 fp_X11_194 sR_0 rfl fun h1 =>
    aw_aload_n (pc := 5) C (i := 0) dX11_image_5 rfl rfl <|
    aw_iconst (pc := 6) C (v := 0) dX11_image_6 rfl <|
    aw_iconst (pc := 7) C (v := 1) dX11_image_7 rfl <|
    aw_callF (pc := 8) C (cr_V (rest := []) (F := (X11_passesAll 0 1)) C (c_X11_passesAll X.2.1 0 1) dX11_image_8 mf_X11_passesAll ml_X11_173 im_X11_passesAll se_X11_passesAll sR_0 rfl ⟨(Nat.le_of_ble_eq_true rfl), (Nat.le_of_ble_eq_true rfl)⟩ rfl rfl (Nat.le_of_ble_eq_true rfl)) rfl rfl rfl (Nat.zero_le _) (Nat.zero_le _) fun _ h3 =>
    aw_aload_n (pc := 11) C (i := 0) dX11_image_11 rfl rfl <|
    aw_getI (pc := 12) C dX11_image_12 fl_X11_147 sR_0 rfl <|
    aw_iret (pc := 15) C dX11_image_15 rfl rfl

abbrev rmX11_restore : Room := { frames := 2, cells := 0, slots := 0, locals := 44 }
def X11_restore  (h : AH) : Option (Int32 × AH) :=
    if (h.1 0 25) = 0 then (bd (X11_no (-3) h) fun r3 h4 =>
    some (r3, h4))
    else (bd (X11_passesAll 0 0 h) fun _ h2 =>
    some ((h2.1 0 16), h2))
set_option maxRecDepth 100000 in
theorem c_X11_restore (l : Launch)  : MC l yX11_restore cX11_restore 1 (some .int) rmX11_restore ZR [.ref 0] rvI (X11_restore) :=
  MC.of (own := RX11) (by decide +kernel) rfl (Nat.le_of_ble_eq_true rfl) fun X yd A h _ C =>
    aw_aload_n (pc := 0) C (i := 0) dX11_restore_0 rfl rfl <|
    aw_getI (pc := 1) C dX11_restore_1 fl_X11_194 sR_0 rfl <|
    aw_if_ne (pc := 4) C (tgt := 14) dX11_restore_4 rfl (fun _ =>
    aw_aload_n (pc := 7) C (i := 0) dX11_restore_7 rfl rfl <|
    aw_bipush (pc := 8) C (v := (-3)) dX11_restore_8 rfl <|
    aw_callF (pc := 10) C (cr_V (rest := []) (F := (X11_no (-3))) C (c_X11_no X.2.1 (-3)) dX11_restore_10 mf_X11_no ml_X11_115 im_X11_no se_X11_no sR_0 rfl ⟨(Nat.le_of_ble_eq_true rfl), (Nat.le_of_ble_eq_true rfl)⟩ rfl rfl (Nat.le_of_ble_eq_true rfl)) rfl rfl rfl (Nat.zero_le _) (Nat.zero_le _) fun r3 h4 =>
    aw_iret (pc := 13) C dX11_restore_13 rfl rfl) (fun _ =>
    aw_aload_n (pc := 14) C (i := 0) dX11_restore_14 rfl rfl <|
    aw_iconst (pc := 15) C (v := 0) dX11_restore_15 rfl <|
    aw_iconst (pc := 16) C (v := 0) dX11_restore_16 rfl <|
    aw_callF (pc := 17) C (cr_V (rest := []) (F := (X11_passesAll 0 0)) C (c_X11_passesAll X.2.1 0 0) dX11_restore_17 mf_X11_passesAll ml_X11_173 im_X11_passesAll se_X11_passesAll sR_0 rfl ⟨(Nat.le_of_ble_eq_true rfl), (Nat.le_of_ble_eq_true rfl)⟩ rfl rfl (Nat.le_of_ble_eq_true rfl)) rfl rfl rfl (Nat.zero_le _) (Nat.zero_le _) fun _ h2 =>
    aw_aload_n (pc := 20) C (i := 0) dX11_restore_20 rfl rfl <|
    aw_getI (pc := 21) C dX11_restore_21 fl_X11_147 sR_0 rfl <|
    aw_iret (pc := 24) C dX11_restore_24 rfl rfl)

abbrev rmX11_strideIn : Room := { frames := 0, cells := 0, slots := 0, locals := 0 }
def X11_strideIn (v1 : Int32) (v2 : Int32) (v3 : Int32) (h : AH) : Option (Int32 × AH) :=
    ck v1 4 (ck v1 4 (vl (((h.1 4 v1.toNatClampNeg) + (((h.1 5 v1.toNatClampNeg) * v2) / 10)) + ((v3 * v2) / 10)) fun x1 =>
    ck v1 4 (vl (h.1 2 v1.toNatClampNeg) fun y2 =>
    if y2 = 2 then (some ((x1 + (rm32 v2 2)), h))
    else if y2 = 4 then (some (((x1 + (rm32 v2 2)) + ((v3 * v2) / 10)), h))
    else if y2 = 5 then (ck v1 4 (ck v1 4 (some (((h.1 4 v1.toNatClampNeg) + (((h.1 5 v1.toNatClampNeg) * v2) / 10)), h))))
    else (some (x1, h)))))
set_option maxRecDepth 100000 in
theorem c_X11_strideIn (l : Launch) (v1 : Int32) (v2 : Int32) (v3 : Int32) : MC l yX11_strideIn cX11_strideIn 5 (some .int) rmX11_strideIn ZR [.ref 0, .int v1, .int v2, .int v3] rvI (X11_strideIn v1 v2 v3) :=
  MC.of (own := RX11) (by decide +kernel) rfl (Nat.le_of_ble_eq_true rfl) fun X yd A h _ C =>
    aw_aload_n (pc := 0) C (i := 0) dX11_strideIn_0 rfl rfl <|
    aw_getR (pc := 1) C (b := 4) dX11_strideIn_1 fl_X11_19 sR_0 rfl rR_0_3 <|
    aw_iload_n (pc := 4) C (i := 1) dX11_strideIn_4 rfl rfl <|
    aw_iald (pc := 5) C dX11_strideIn_5 sR_4 rfl <|
    aw_aload_n (pc := 6) C (i := 0) dX11_strideIn_6 rfl rfl <|
    aw_getR (pc := 7) C (b := 5) dX11_strideIn_7 fl_X11_22 sR_0 rfl rR_0_4 <|
    aw_iload_n (pc := 10) C (i := 1) dX11_strideIn_10 rfl rfl <|
    aw_iald (pc := 11) C dX11_strideIn_11 sR_5 rfl <|
    aw_iload_n (pc := 12) C (i := 2) dX11_strideIn_12 rfl rfl <|
    aw_imul (pc := 13) C dX11_strideIn_13 <|
    aw_bipush (pc := 14) C (v := 10) dX11_strideIn_14 rfl <|
    aw_idivK (pc := 16) C dX11_strideIn_16 (by decide) <|
    aw_iadd (pc := 17) C dX11_strideIn_17 <|
    aw_iload_n (pc := 18) C (i := 3) dX11_strideIn_18 rfl rfl <|
    aw_iload_n (pc := 19) C (i := 2) dX11_strideIn_19 rfl rfl <|
    aw_imul (pc := 20) C dX11_strideIn_20 <|
    aw_bipush (pc := 21) C (v := 10) dX11_strideIn_21 rfl <|
    aw_idivK (pc := 23) C dX11_strideIn_23 (by decide) <|
    aw_iadd (pc := 24) C dX11_strideIn_24 <|
    aw_istoreV (pc := 25) C (i := 4) (fun x1 => [(0, .ref 0), (1, .int v1), (2, .int v2), (3, .int v3), (4, .int x1)]) dX11_strideIn_25 (by decide) (fun _ => rfl) fun x1 =>
    aw_aload_n (pc := 27) C (i := 0) dX11_strideIn_27 rfl rfl <|
    aw_getR (pc := 28) C (b := 2) dX11_strideIn_28 fl_X11_13 sR_0 rfl rR_0_1 <|
    aw_iload_n (pc := 31) C (i := 1) dX11_strideIn_31 rfl rfl <|
    aw_iald (pc := 32) C dX11_strideIn_32 sR_2 rfl <|
    aw_vlI fun y2 =>
    aw_if (fun c3 => aw_tswA (pc := 33) C (off := 31) (tg := 64) 2 dX11_strideIn_33 (by rw [c3]; rfl) (by decide) (by decide) rfl rfl (aw_iload (pc := 64) C (i := 4) dX11_strideIn_64 rfl <|
    aw_iload_n (pc := 66) C (i := 2) dX11_strideIn_66 rfl rfl <|
    aw_iconst (pc := 67) C (v := 2) dX11_strideIn_67 rfl <|
    aw_iremK (pc := 68) C dX11_strideIn_68 (by decide) <|
    aw_iadd (pc := 69) C dX11_strideIn_69 <|
    aw_iret (pc := 70) C dX11_strideIn_70 rfl rfl)) (fun c3 =>
    aw_if (fun c4 => aw_tswA (pc := 33) C (off := 38) (tg := 71) 4 dX11_strideIn_33 (by rw [c4]; rfl) (by decide) (by decide) rfl rfl (aw_iload (pc := 71) C (i := 4) dX11_strideIn_71 rfl <|
    aw_iload_n (pc := 73) C (i := 2) dX11_strideIn_73 rfl rfl <|
    aw_iconst (pc := 74) C (v := 2) dX11_strideIn_74 rfl <|
    aw_iremK (pc := 75) C dX11_strideIn_75 (by decide) <|
    aw_iadd (pc := 76) C dX11_strideIn_76 <|
    aw_iload_n (pc := 77) C (i := 3) dX11_strideIn_77 rfl rfl <|
    aw_iload_n (pc := 78) C (i := 2) dX11_strideIn_78 rfl rfl <|
    aw_imul (pc := 79) C dX11_strideIn_79 <|
    aw_bipush (pc := 80) C (v := 10) dX11_strideIn_80 rfl <|
    aw_idivK (pc := 82) C dX11_strideIn_82 (by decide) <|
    aw_iadd (pc := 83) C dX11_strideIn_83 <|
    aw_iret (pc := 84) C dX11_strideIn_84 rfl rfl)) (fun c4 =>
    aw_if (fun c5 => aw_tswA (pc := 33) C (off := 52) (tg := 85) 5 dX11_strideIn_33 (by rw [c5]; rfl) (by decide) (by decide) rfl rfl (aw_aload_n (pc := 85) C (i := 0) dX11_strideIn_85 rfl rfl <|
    aw_getR (pc := 86) C (b := 4) dX11_strideIn_86 fl_X11_19 sR_0 rfl rR_0_3 <|
    aw_iload_n (pc := 89) C (i := 1) dX11_strideIn_89 rfl rfl <|
    aw_iald (pc := 90) C dX11_strideIn_90 sR_4 rfl <|
    aw_aload_n (pc := 91) C (i := 0) dX11_strideIn_91 rfl rfl <|
    aw_getR (pc := 92) C (b := 5) dX11_strideIn_92 fl_X11_22 sR_0 rfl rR_0_4 <|
    aw_iload_n (pc := 95) C (i := 1) dX11_strideIn_95 rfl rfl <|
    aw_iald (pc := 96) C dX11_strideIn_96 sR_5 rfl <|
    aw_iload_n (pc := 97) C (i := 2) dX11_strideIn_97 rfl rfl <|
    aw_imul (pc := 98) C dX11_strideIn_98 <|
    aw_bipush (pc := 99) C (v := 10) dX11_strideIn_99 rfl <|
    aw_idivK (pc := 101) C dX11_strideIn_101 (by decide) <|
    aw_iadd (pc := 102) C dX11_strideIn_102 <|
    aw_iret (pc := 103) C dX11_strideIn_103 rfl rfl)) (fun c5 =>
    aw_tswD (pc := 33) C (N := 4) (td := 104) [2, 4, 5] dX11_strideIn_33 (List.forall_mem_cons.mpr ⟨ti_ne c3 rfl, List.forall_mem_cons.mpr ⟨ti_ne c4 rfl, List.forall_mem_cons.mpr ⟨ti_ne c5 rfl, fun _ hz => by cases hz⟩⟩⟩) rfl (by decide) rfl (aw_iload (pc := 104) C (i := 4) dX11_strideIn_104 rfl <|
    aw_iret (pc := 106) C dX11_strideIn_106 rfl rfl))))

abbrev rmX11_allStrides : Room := { frames := 1, cells := 0, slots := 0, locals := 24 }
def X11_allStrides_l5  (v1 : Int32) (v2 : Int32) : Nat → Int32 → Int32 → AH → Option (Int32 × AH)
  | 0, _, _, _ => none
  | n + 1, v3, v4, h =>
    if (h.1 0 12) ≤ v4 then (some (v3, h))
    else (bd (X11_strideIn v1 v4 v2 h) fun r1 h2 =>
    vl (v3 + r1) fun x3 =>
    vl (v4 + 1) fun x4 =>
    (X11_allStrides_l5 v1 v2 n) x3 x4 h2)
set_option maxRecDepth 100000 in
theorem aX11_allStrides_l5 {X : MCx} {yd : Dyn} {A : Nat → Prop} (C : OK X cX11_allStrides RX11 5 (some .int) rmX11_allStrides A)  (v1 : Int32) (v2 : Int32) : ∀ (n : Nat) (v3 : Int32) (v4 : Int32) (h : AH), AW X 5 ZR yd A 0 0 (QF X rmX11_allStrides ZR yd rvI A) 5 [(0, .ref 0), (1, .int v1), (2, .int v2), (3, .int v3), (4, .int v4)] [] h (X11_allStrides_l5 v1 v2 n v3 v4 h) := by
  intro n
  induction n with
  | zero => intro v3 v4 h; exact aw_none
  | succ n ih =>
    intro v3 v4 h
    exact aw_iload (pc := 5) C (i := 4) dX11_allStrides_5 rfl <|
    aw_aload_n (pc := 7) C (i := 0) dX11_allStrides_7 rfl rfl <|
    aw_getI (pc := 8) C dX11_allStrides_8 fl_X11_95 sR_0 rfl <|
    aw_icmp_ge (pc := 11) C (tgt := 31) dX11_allStrides_11 rfl (fun _ =>
    aw_iload_n (pc := 31) C (i := 3) dX11_allStrides_31 rfl rfl <|
    aw_iret (pc := 32) C dX11_allStrides_32 rfl rfl) (fun _ =>
    aw_iload_n (pc := 14) C (i := 3) dX11_allStrides_14 rfl rfl <|
    aw_aload_n (pc := 15) C (i := 0) dX11_allStrides_15 rfl rfl <|
    aw_iload_n (pc := 16) C (i := 1) dX11_allStrides_16 rfl rfl <|
    aw_iload (pc := 17) C (i := 4) dX11_allStrides_17 rfl <|
    aw_iload_n (pc := 19) C (i := 2) dX11_allStrides_19 rfl rfl <|
    aw_callF (pc := 20) C (cr_V (rest := [.int v3]) (F := (X11_strideIn v1 v4 v2)) C (c_X11_strideIn X.2.1 v1 v4 v2) dX11_allStrides_20 mf_X11_strideIn ml_X11_197 im_X11_strideIn se_X11_strideIn sR_0 rfl ⟨(Nat.le_of_ble_eq_true rfl), (Nat.le_of_ble_eq_true rfl)⟩ rfl rfl (Nat.le_of_ble_eq_true rfl)) rfl rfl rfl (Nat.zero_le _) (Nat.zero_le _) fun r1 h2 =>
    aw_iadd (pc := 23) C dX11_allStrides_23 <|
    aw_istoreV_n (pc := 24) C (i := 3) (fun x3 => [(0, .ref 0), (1, .int v1), (2, .int v2), (3, .int x3), (4, .int v4)]) dX11_allStrides_24 rfl (by decide) (fun _ => rfl) fun x3 =>
    aw_iincV (pc := 25) C (i := 4) (cst := 1) (fun x4 => [(0, .ref 0), (1, .int v1), (2, .int v2), (3, .int x3), (4, .int x4)]) dX11_allStrides_25 rfl rfl (by decide) (fun _ => rfl) fun x4 =>
    aw_goto (pc := 28) C (tgt := 5) dX11_allStrides_28 rfl <|
    (ih x3 x4 h2))
def X11_allStrides (v1 : Int32) (v2 : Int32) (h : AH) : Option (Int32 × AH) :=
    X11_allStrides_l5 v1 v2 FU 0 0 h
set_option maxRecDepth 100000 in
theorem c_X11_allStrides (l : Launch) (v1 : Int32) (v2 : Int32) : MC l yX11_allStrides cX11_allStrides 5 (some .int) rmX11_allStrides ZR [.ref 0, .int v1, .int v2] rvI (X11_allStrides v1 v2) :=
  MC.of (own := RX11) (by decide +kernel) rfl (Nat.le_of_ble_eq_true rfl) fun X yd A h _ C =>
    aw_iconst (pc := 0) C (v := 0) dX11_allStrides_0 rfl <|
    aw_istore_n (pc := 1) C (i := 3) (lv' := [(0, .ref 0), (1, .int v1), (2, .int v2), (3, .int 0)]) dX11_allStrides_1 rfl (by decide) rfl <|
    aw_iconst (pc := 2) C (v := 0) dX11_allStrides_2 rfl <|
    aw_istore (pc := 3) C (i := 4) (lv' := [(0, .ref 0), (1, .int v1), (2, .int v2), (3, .int 0), (4, .int 0)]) dX11_allStrides_3 (by decide) rfl <|
    (aX11_allStrides_l5 C v1 v2 FU 0 0 h)

abbrev rmX11_placeOf : Room := { frames := 2, cells := 0, slots := 0, locals := 48 }
def X11_placeOf (v1 : Int32) (h : AH) : Option (Int32 × AH) :=
    ck v1 4 (bd (X11_allStrides v1 (h.1 0 14) h) fun r1 h2 =>
    some (((h.1 9 v1.toNatClampNeg) - r1), h2))
set_option maxRecDepth 100000 in
theorem c_X11_placeOf (l : Launch) (v1 : Int32) : MC l yX11_placeOf cX11_placeOf 2 (some .int) rmX11_placeOf ZR [.ref 0, .int v1] rvI (X11_placeOf v1) :=
  MC.of (own := RX11) (by decide +kernel) rfl (Nat.le_of_ble_eq_true rfl) fun X yd A h _ C =>
    aw_aload_n (pc := 0) C (i := 0) dX11_placeOf_0 rfl rfl <|
    aw_getR (pc := 1) C (b := 9) dX11_placeOf_1 fl_X11_34 sR_0 rfl rR_0_8 <|
    aw_iload_n (pc := 4) C (i := 1) dX11_placeOf_4 rfl rfl <|
    aw_iald (pc := 5) C dX11_placeOf_5 sR_9 rfl <|
    aw_aload_n (pc := 6) C (i := 0) dX11_placeOf_6 rfl rfl <|
    aw_iload_n (pc := 7) C (i := 1) dX11_placeOf_7 rfl rfl <|
    aw_aload_n (pc := 8) C (i := 0) dX11_placeOf_8 rfl rfl <|
    aw_getI (pc := 9) C dX11_placeOf_9 fl_X11_157 sR_0 rfl <|
    aw_callF (pc := 12) C (cr_V (rest := [.int (h.1 9 v1.toNatClampNeg)]) (F := (X11_allStrides v1 (h.1 0 14))) C (c_X11_allStrides X.2.1 v1 (h.1 0 14)) dX11_placeOf_12 mf_X11_allStrides ml_X11_200 im_X11_allStrides se_X11_allStrides sR_0 rfl ⟨(Nat.le_of_ble_eq_true rfl), (Nat.le_of_ble_eq_true rfl)⟩ rfl rfl (Nat.le_of_ble_eq_true rfl)) rfl rfl rfl (Nat.zero_le _) (Nat.zero_le _) fun r1 h2 =>
    aw_isub (pc := 15) C dX11_placeOf_15 <|
    aw_iret (pc := 16) C dX11_placeOf_16 rfl rfl

abbrev rmX11_aimOf : Room := { frames := 0, cells := 0, slots := 0, locals := 0 }
def X11_aimOf (v1 : Int32) (h : AH) : Option (Int32 × AH) :=
    ck v1 4 (vl ((h.1 3 v1.toNatClampNeg) + 2) fun x1 =>
    ck v1 4 (vl (h.1 2 v1.toNatClampNeg) fun y2 =>
    if y2 = 1 then (some (x1, h))
    else if y2 = 2 then (some (1, h))
    else if y2 = 3 then (some ((x1 / 2), h))
    else if y2 = 4 then (some (1, h))
    else if y2 = 5 then (some (((x1 / 2) + 1), h))
    else (some (0, h))))
set_option maxRecDepth 100000 in
theorem c_X11_aimOf (l : Launch) (v1 : Int32) : MC l yX11_aimOf cX11_aimOf 3 (some .int) rmX11_aimOf ZR [.ref 0, .int v1] rvI (X11_aimOf v1) :=
  MC.of (own := RX11) (by decide +kernel) rfl (Nat.le_of_ble_eq_true rfl) fun X yd A h _ C =>
    aw_aload_n (pc := 0) C (i := 0) dX11_aimOf_0 rfl rfl <|
    aw_getR (pc := 1) C (b := 3) dX11_aimOf_1 fl_X11_16 sR_0 rfl rR_0_2 <|
    aw_iload_n (pc := 4) C (i := 1) dX11_aimOf_4 rfl rfl <|
    aw_iald (pc := 5) C dX11_aimOf_5 sR_3 rfl <|
    aw_iconst (pc := 6) C (v := 2) dX11_aimOf_6 rfl <|
    aw_iadd (pc := 7) C dX11_aimOf_7 <|
    aw_istoreV_n (pc := 8) C (i := 2) (fun x1 => [(0, .ref 0), (1, .int v1), (2, .int x1)]) dX11_aimOf_8 rfl (by decide) (fun _ => rfl) fun x1 =>
    aw_aload_n (pc := 9) C (i := 0) dX11_aimOf_9 rfl rfl <|
    aw_getR (pc := 10) C (b := 2) dX11_aimOf_10 fl_X11_13 sR_0 rfl rR_0_1 <|
    aw_iload_n (pc := 13) C (i := 1) dX11_aimOf_13 rfl rfl <|
    aw_iald (pc := 14) C dX11_aimOf_14 sR_2 rfl <|
    aw_vlI fun y2 =>
    aw_if (fun c3 => aw_tswA (pc := 15) C (off := 33) (tg := 48) 1 dX11_aimOf_15 (by rw [c3]; rfl) (by decide) (by decide) rfl rfl (aw_iload_n (pc := 48) C (i := 2) dX11_aimOf_48 rfl rfl <|
    aw_iret (pc := 49) C dX11_aimOf_49 rfl rfl)) (fun c3 =>
    aw_if (fun c4 => aw_tswA (pc := 15) C (off := 35) (tg := 50) 2 dX11_aimOf_15 (by rw [c4]; rfl) (by decide) (by decide) rfl rfl (aw_iconst (pc := 50) C (v := 1) dX11_aimOf_50 rfl <|
    aw_iret (pc := 51) C dX11_aimOf_51 rfl rfl)) (fun c4 =>
    aw_if (fun c5 => aw_tswA (pc := 15) C (off := 37) (tg := 52) 3 dX11_aimOf_15 (by rw [c5]; rfl) (by decide) (by decide) rfl rfl (aw_iload_n (pc := 52) C (i := 2) dX11_aimOf_52 rfl rfl <|
    aw_iconst (pc := 53) C (v := 2) dX11_aimOf_53 rfl <|
    aw_idivK (pc := 54) C dX11_aimOf_54 (by decide) <|
    aw_iret (pc := 55) C dX11_aimOf_55 rfl rfl)) (fun c5 =>
    aw_if (fun c6 => aw_tswA (pc := 15) C (off := 35) (tg := 50) 4 dX11_aimOf_15 (by rw [c6]; rfl) (by decide) (by decide) rfl rfl (aw_iconst (pc := 50) C (v := 1) dX11_aimOf_50 rfl <|
    aw_iret (pc := 51) C dX11_aimOf_51 rfl rfl)) (fun c6 =>
    aw_if (fun c7 => aw_tswA (pc := 15) C (off := 41) (tg := 56) 5 dX11_aimOf_15 (by rw [c7]; rfl) (by decide) (by decide) rfl rfl (aw_iload_n (pc := 56) C (i := 2) dX11_aimOf_56 rfl rfl <|
    aw_iconst (pc := 57) C (v := 2) dX11_aimOf_57 rfl <|
    aw_idivK (pc := 58) C dX11_aimOf_58 (by decide) <|
    aw_iconst (pc := 59) C (v := 1) dX11_aimOf_59 rfl <|
    aw_iadd (pc := 60) C dX11_aimOf_60 <|
    aw_iret (pc := 61) C dX11_aimOf_61 rfl rfl)) (fun c7 =>
    aw_tswD (pc := 15) C (N := 5) (td := 62) [1, 2, 3, 4, 5] dX11_aimOf_15 (List.forall_mem_cons.mpr ⟨ti_ne c3 rfl, List.forall_mem_cons.mpr ⟨ti_ne c4 rfl, List.forall_mem_cons.mpr ⟨ti_ne c5 rfl, List.forall_mem_cons.mpr ⟨ti_ne c6 rfl, List.forall_mem_cons.mpr ⟨ti_ne c7 rfl, fun _ hz => by cases hz⟩⟩⟩⟩⟩) rfl (by decide) rfl (aw_iconst (pc := 62) C (v := 0) dX11_aimOf_62 rfl <|
    aw_iret (pc := 63) C dX11_aimOf_63 rfl rfl))))))

abbrev rmX11_triesOf : Room := { frames := 0, cells := 0, slots := 0, locals := 0 }
def X11_triesOf_j28  (v1 : Int32) (v3 : Int32) (K4 : Int32 → Int32 → AH → Option (Int32 × AH)) (s0 : Int32) (s1 : Int32) (h : AH) : Option (Int32 × AH) :=
    vl (s1 + s0) fun x1 =>
    vl (v3 + 1) fun x2 =>
    K4 x1 x2 h
set_option maxRecDepth 100000 in
theorem aX11_triesOf_j28 {X : MCx} {yd : Dyn} {A : Nat → Prop} (C : OK X cX11_triesOf RX11 4 (some .int) rmX11_triesOf A)  (v1 : Int32) (v3 : Int32) (K4 : Int32 → Int32 → AH → Option (Int32 × AH)) (hK4 : ∀ (w2 : Int32) (w3 : Int32) (h : AH), AW X 4 ZR yd A 0 0 (QF X rmX11_triesOf ZR yd rvI A) 4 [(0, .ref 0), (1, .int v1), (2, .int w2), (3, .int w3)] [] h (K4 w2 w3 h)) (s0 : Int32) (s1 : Int32) (h : AH) : AW X 4 ZR yd A 0 0 (QF X rmX11_triesOf ZR yd rvI A) 28 [(0, .ref 0), (1, .int v1), (3, .int v3)] [.int s0, .int s1] h (X11_triesOf_j28 v1 v3 K4 s0 s1 h) := by
    exact aw_iadd (pc := 28) C dX11_triesOf_28 <|
    aw_istoreV_n (pc := 29) C (i := 2) (fun x1 => [(0, .ref 0), (1, .int v1), (2, .int x1), (3, .int v3)]) dX11_triesOf_29 rfl (by decide) (fun _ => rfl) fun x1 =>
    aw_iincV (pc := 30) C (i := 3) (cst := 1) (fun x2 => [(0, .ref 0), (1, .int v1), (2, .int x1), (3, .int x2)]) dX11_triesOf_30 rfl rfl (by decide) (fun _ => rfl) fun x2 =>
    aw_goto (pc := 33) C (tgt := 4) dX11_triesOf_33 rfl <|
    (hK4 x1 x2 h)
def X11_triesOf_l4  (v1 : Int32) : Nat → Int32 → Int32 → AH → Option (Int32 × AH)
  | 0, _, _, _ => none
  | n + 1, v2, v3, h =>
    if (h.1 0 16) ≤ v3 then (some (v2, h))
    else (ck v3 24 (if (h.1 10 v3.toNatClampNeg) = v1 then (X11_triesOf_j28 v1 v3 (X11_triesOf_l4 v1 n) 1 v2 h)
    else (X11_triesOf_j28 v1 v3 (X11_triesOf_l4 v1 n) 0 v2 h)))
set_option maxRecDepth 100000 in
theorem aX11_triesOf_l4 {X : MCx} {yd : Dyn} {A : Nat → Prop} (C : OK X cX11_triesOf RX11 4 (some .int) rmX11_triesOf A)  (v1 : Int32) : ∀ (n : Nat) (v2 : Int32) (v3 : Int32) (h : AH), AW X 4 ZR yd A 0 0 (QF X rmX11_triesOf ZR yd rvI A) 4 [(0, .ref 0), (1, .int v1), (2, .int v2), (3, .int v3)] [] h (X11_triesOf_l4 v1 n v2 v3 h) := by
  intro n
  induction n with
  | zero => intro v2 v3 h; exact aw_none
  | succ n ih =>
    intro v2 v3 h
    exact aw_iload_n (pc := 4) C (i := 3) dX11_triesOf_4 rfl rfl <|
    aw_aload_n (pc := 5) C (i := 0) dX11_triesOf_5 rfl rfl <|
    aw_getI (pc := 6) C dX11_triesOf_6 fl_X11_147 sR_0 rfl <|
    aw_icmp_ge (pc := 9) C (tgt := 36) dX11_triesOf_9 rfl (fun _ =>
    aw_iload_n (pc := 36) C (i := 2) dX11_triesOf_36 rfl rfl <|
    aw_iret (pc := 37) C dX11_triesOf_37 rfl rfl) (fun _ =>
    aw_iload_n (pc := 12) C (i := 2) dX11_triesOf_12 rfl rfl <|
    aw_aload_n (pc := 13) C (i := 0) dX11_triesOf_13 rfl rfl <|
    aw_getR (pc := 14) C (b := 10) dX11_triesOf_14 fl_X11_37 sR_0 rfl rR_0_9 <|
    aw_iload_n (pc := 17) C (i := 3) dX11_triesOf_17 rfl rfl <|
    aw_iald (pc := 18) C dX11_triesOf_18 sR_10 rfl <|
    aw_iload_n (pc := 19) C (i := 1) dX11_triesOf_19 rfl rfl <|
    aw_icmp_ne (pc := 20) C (tgt := 27) dX11_triesOf_20 rfl (fun _ =>
    aw_iconst (pc := 23) C (v := 1) dX11_triesOf_23 rfl <|
    aw_goto (pc := 24) C (tgt := 28) dX11_triesOf_24 rfl <|
    aw_drop [0, 1, 3] (aX11_triesOf_j28 C v1 v3 (X11_triesOf_l4 v1 n) ih 1 v2 h)) (fun _ =>
    aw_iconst (pc := 27) C (v := 0) dX11_triesOf_27 rfl <|
    aw_drop [0, 1, 3] (aX11_triesOf_j28 C v1 v3 (X11_triesOf_l4 v1 n) ih 0 v2 h)))
def X11_triesOf (v1 : Int32) (h : AH) : Option (Int32 × AH) :=
    X11_triesOf_l4 v1 FU 0 0 h
set_option maxRecDepth 100000 in
theorem c_X11_triesOf (l : Launch) (v1 : Int32) : MC l yX11_triesOf cX11_triesOf 4 (some .int) rmX11_triesOf ZR [.ref 0, .int v1] rvI (X11_triesOf v1) :=
  MC.of (own := RX11) (by decide +kernel) rfl (Nat.le_of_ble_eq_true rfl) fun X yd A h _ C =>
    aw_iconst (pc := 0) C (v := 0) dX11_triesOf_0 rfl <|
    aw_istore_n (pc := 1) C (i := 2) (lv' := [(0, .ref 0), (1, .int v1), (2, .int 0)]) dX11_triesOf_1 rfl (by decide) rfl <|
    aw_iconst (pc := 2) C (v := 0) dX11_triesOf_2 rfl <|
    aw_istore_n (pc := 3) C (i := 3) (lv' := [(0, .ref 0), (1, .int v1), (2, .int 0), (3, .int 0)]) dX11_triesOf_3 rfl (by decide) rfl <|
    (aX11_triesOf_l4 C v1 FU 0 0 h)

abbrev rmX11_jumper : Room := { frames := 4, cells := 0, slots := 0, locals := 90 }
def X11_jumper (v1 : Int32) (v2 : Int32) (h : AH) : Option (Int32 × AH) :=
    bd (X11_isJumper v1 h) fun r1 h2 =>
    if r1 = 0 then (bd (X11_no (-1) h2) fun r26 h27 =>
    some (r26, h27))
    else (vl v2 fun y3 =>
    if y3 = 0 then (ck v1 4 (some ((h2.1 2 v1.toNatClampNeg), h2)))
    else if y3 = 1 then (ck v1 4 (some ((h2.1 3 v1.toNatClampNeg), h2)))
    else if y3 = 2 then (ck v1 4 (some ((h2.1 4 v1.toNatClampNeg), h2)))
    else if y3 = 3 then (ck v1 4 (some ((h2.1 5 v1.toNatClampNeg), h2)))
    else if y3 = 4 then (ck v1 4 (some ((h2.1 6 v1.toNatClampNeg), h2)))
    else if y3 = 5 then (ck v1 4 (some ((h2.1 7 v1.toNatClampNeg), h2)))
    else if y3 = 6 then (ck v1 4 (some ((h2.1 8 v1.toNatClampNeg), h2)))
    else if y3 = 7 then (ck v1 4 (some ((h2.1 9 v1.toNatClampNeg), h2)))
    else if y3 = 8 then (bd (X11_aimOf v1 h2) fun r12 h13 =>
    some (r12, h13))
    else if y3 = 9 then (bd (X11_findBest 0 (h2.1 0 16) h2) fun _ h16 =>
    ck v1 4 (some ((h16.1 20 v1.toNatClampNeg), h16)))
    else if y3 = 10 then (bd (X11_findBest 0 (h2.1 0 16) h2) fun _ h19 =>
    ck v1 4 (some ((h19.1 21 v1.toNatClampNeg), h19)))
    else if y3 = 11 then (bd (X11_triesOf v1 h2) fun r21 h22 =>
    some (r21, h22))
    else (bd (X11_no (-2) h2) fun r24 h25 =>
    some (r24, h25)))
set_option maxRecDepth 100000 in
theorem c_X11_jumper (l : Launch) (v1 : Int32) (v2 : Int32) : MC l yX11_jumper cX11_jumper 3 (some .int) rmX11_jumper ZR [.ref 0, .int v1, .int v2] rvI (X11_jumper v1 v2) :=
  MC.of (own := RX11) (by decide +kernel) rfl (Nat.le_of_ble_eq_true rfl) fun X yd A h _ C =>
    aw_aload_n (pc := 0) C (i := 0) dX11_jumper_0 rfl rfl <|
    aw_iload_n (pc := 1) C (i := 1) dX11_jumper_1 rfl rfl <|
    aw_callF (pc := 2) C (cr_V (rest := []) (F := (X11_isJumper v1)) C (c_X11_isJumper X.2.1 v1) dX11_jumper_2 mf_X11_isJumper ml_X11_207 im_X11_isJumper se_X11_isJumper sR_0 rfl ⟨(Nat.le_of_ble_eq_true rfl), (Nat.le_of_ble_eq_true rfl)⟩ rfl rfl (Nat.le_of_ble_eq_true rfl)) rfl rfl rfl (Nat.zero_le _) (Nat.zero_le _) fun r1 h2 =>
    aw_if_ne (pc := 5) C (tgt := 14) dX11_jumper_5 rfl (fun _ =>
    aw_aload_n (pc := 8) C (i := 0) dX11_jumper_8 rfl rfl <|
    aw_iconst (pc := 9) C (v := (-1)) dX11_jumper_9 rfl <|
    aw_callF (pc := 10) C (cr_V (rest := []) (F := (X11_no (-1))) C (c_X11_no X.2.1 (-1)) dX11_jumper_10 mf_X11_no ml_X11_115 im_X11_no se_X11_no sR_0 rfl ⟨(Nat.le_of_ble_eq_true rfl), (Nat.le_of_ble_eq_true rfl)⟩ rfl rfl (Nat.le_of_ble_eq_true rfl)) rfl rfl rfl (Nat.zero_le _) (Nat.zero_le _) fun r26 h27 =>
    aw_iret (pc := 13) C dX11_jumper_13 rfl rfl) (fun _ =>
    aw_iload_n (pc := 14) C (i := 2) dX11_jumper_14 rfl rfl <|
    aw_vlI fun y3 =>
    aw_if (fun c4 => aw_tswA (pc := 15) C (off := 61) (tg := 76) 0 dX11_jumper_15 (by rw [c4]; rfl) (by decide) (by decide) rfl rfl (aw_aload_n (pc := 76) C (i := 0) dX11_jumper_76 rfl rfl <|
    aw_getR (pc := 77) C (b := 2) dX11_jumper_77 fl_X11_13 sR_0 rfl rR_0_1 <|
    aw_iload_n (pc := 80) C (i := 1) dX11_jumper_80 rfl rfl <|
    aw_iald (pc := 81) C dX11_jumper_81 sR_2 rfl <|
    aw_iret (pc := 82) C dX11_jumper_82 rfl rfl)) (fun c4 =>
    aw_if (fun c5 => aw_tswA (pc := 15) C (off := 68) (tg := 83) 1 dX11_jumper_15 (by rw [c5]; rfl) (by decide) (by decide) rfl rfl (aw_aload_n (pc := 83) C (i := 0) dX11_jumper_83 rfl rfl <|
    aw_getR (pc := 84) C (b := 3) dX11_jumper_84 fl_X11_16 sR_0 rfl rR_0_2 <|
    aw_iload_n (pc := 87) C (i := 1) dX11_jumper_87 rfl rfl <|
    aw_iald (pc := 88) C dX11_jumper_88 sR_3 rfl <|
    aw_iret (pc := 89) C dX11_jumper_89 rfl rfl)) (fun c5 =>
    aw_if (fun c6 => aw_tswA (pc := 15) C (off := 75) (tg := 90) 2 dX11_jumper_15 (by rw [c6]; rfl) (by decide) (by decide) rfl rfl (aw_aload_n (pc := 90) C (i := 0) dX11_jumper_90 rfl rfl <|
    aw_getR (pc := 91) C (b := 4) dX11_jumper_91 fl_X11_19 sR_0 rfl rR_0_3 <|
    aw_iload_n (pc := 94) C (i := 1) dX11_jumper_94 rfl rfl <|
    aw_iald (pc := 95) C dX11_jumper_95 sR_4 rfl <|
    aw_iret (pc := 96) C dX11_jumper_96 rfl rfl)) (fun c6 =>
    aw_if (fun c7 => aw_tswA (pc := 15) C (off := 82) (tg := 97) 3 dX11_jumper_15 (by rw [c7]; rfl) (by decide) (by decide) rfl rfl (aw_aload_n (pc := 97) C (i := 0) dX11_jumper_97 rfl rfl <|
    aw_getR (pc := 98) C (b := 5) dX11_jumper_98 fl_X11_22 sR_0 rfl rR_0_4 <|
    aw_iload_n (pc := 101) C (i := 1) dX11_jumper_101 rfl rfl <|
    aw_iald (pc := 102) C dX11_jumper_102 sR_5 rfl <|
    aw_iret (pc := 103) C dX11_jumper_103 rfl rfl)) (fun c7 =>
    aw_if (fun c8 => aw_tswA (pc := 15) C (off := 89) (tg := 104) 4 dX11_jumper_15 (by rw [c8]; rfl) (by decide) (by decide) rfl rfl (aw_aload_n (pc := 104) C (i := 0) dX11_jumper_104 rfl rfl <|
    aw_getR (pc := 105) C (b := 6) dX11_jumper_105 fl_X11_25 sR_0 rfl rR_0_5 <|
    aw_iload_n (pc := 108) C (i := 1) dX11_jumper_108 rfl rfl <|
    aw_iald (pc := 109) C dX11_jumper_109 sR_6 rfl <|
    aw_iret (pc := 110) C dX11_jumper_110 rfl rfl)) (fun c8 =>
    aw_if (fun c9 => aw_tswA (pc := 15) C (off := 96) (tg := 111) 5 dX11_jumper_15 (by rw [c9]; rfl) (by decide) (by decide) rfl rfl (aw_aload_n (pc := 111) C (i := 0) dX11_jumper_111 rfl rfl <|
    aw_getR (pc := 112) C (b := 7) dX11_jumper_112 fl_X11_28 sR_0 rfl rR_0_6 <|
    aw_iload_n (pc := 115) C (i := 1) dX11_jumper_115 rfl rfl <|
    aw_iald (pc := 116) C dX11_jumper_116 sR_7 rfl <|
    aw_iret (pc := 117) C dX11_jumper_117 rfl rfl)) (fun c9 =>
    aw_if (fun c10 => aw_tswA (pc := 15) C (off := 103) (tg := 118) 6 dX11_jumper_15 (by rw [c10]; rfl) (by decide) (by decide) rfl rfl (aw_aload_n (pc := 118) C (i := 0) dX11_jumper_118 rfl rfl <|
    aw_getR (pc := 119) C (b := 8) dX11_jumper_119 fl_X11_31 sR_0 rfl rR_0_7 <|
    aw_iload_n (pc := 122) C (i := 1) dX11_jumper_122 rfl rfl <|
    aw_iald (pc := 123) C dX11_jumper_123 sR_8 rfl <|
    aw_iret (pc := 124) C dX11_jumper_124 rfl rfl)) (fun c10 =>
    aw_if (fun c11 => aw_tswA (pc := 15) C (off := 110) (tg := 125) 7 dX11_jumper_15 (by rw [c11]; rfl) (by decide) (by decide) rfl rfl (aw_aload_n (pc := 125) C (i := 0) dX11_jumper_125 rfl rfl <|
    aw_getR (pc := 126) C (b := 9) dX11_jumper_126 fl_X11_34 sR_0 rfl rR_0_8 <|
    aw_iload_n (pc := 129) C (i := 1) dX11_jumper_129 rfl rfl <|
    aw_iald (pc := 130) C dX11_jumper_130 sR_9 rfl <|
    aw_iret (pc := 131) C dX11_jumper_131 rfl rfl)) (fun c11 =>
    aw_if (fun c14 => aw_tswA (pc := 15) C (off := 117) (tg := 132) 8 dX11_jumper_15 (by rw [c14]; rfl) (by decide) (by decide) rfl rfl (aw_aload_n (pc := 132) C (i := 0) dX11_jumper_132 rfl rfl <|
    aw_iload_n (pc := 133) C (i := 1) dX11_jumper_133 rfl rfl <|
    aw_callF (pc := 134) C (cr_V (rest := []) (F := (X11_aimOf v1)) C (c_X11_aimOf X.2.1 v1) dX11_jumper_134 mf_X11_aimOf ml_X11_210 im_X11_aimOf se_X11_aimOf sR_0 rfl ⟨(Nat.le_of_ble_eq_true rfl), (Nat.le_of_ble_eq_true rfl)⟩ rfl rfl (Nat.le_of_ble_eq_true rfl)) rfl rfl rfl (Nat.zero_le _) (Nat.zero_le _) fun r12 h13 =>
    aw_iret (pc := 137) C dX11_jumper_137 rfl rfl)) (fun c14 =>
    aw_if (fun c17 => aw_tswA (pc := 15) C (off := 123) (tg := 138) 9 dX11_jumper_15 (by rw [c17]; rfl) (by decide) (by decide) rfl rfl (aw_aload_n (pc := 138) C (i := 0) dX11_jumper_138 rfl rfl <|
    aw_iconst (pc := 139) C (v := 0) dX11_jumper_139 rfl <|
    aw_aload_n (pc := 140) C (i := 0) dX11_jumper_140 rfl rfl <|
    aw_getI (pc := 141) C dX11_jumper_141 fl_X11_147 sR_0 rfl <|
    aw_callF (pc := 144) C (cr_V (rest := []) (F := (X11_findBest 0 (h2.1 0 16))) C (c_X11_findBest X.2.1 0 (h2.1 0 16)) dX11_jumper_144 mf_X11_findBest ml_X11_213 im_X11_findBest se_X11_findBest sR_0 rfl ⟨(Nat.le_of_ble_eq_true rfl), (Nat.le_of_ble_eq_true rfl)⟩ rfl rfl (Nat.le_of_ble_eq_true rfl)) rfl rfl rfl (Nat.zero_le _) (Nat.zero_le _) fun _ h16 =>
    aw_aload_n (pc := 147) C (i := 0) dX11_jumper_147 rfl rfl <|
    aw_getR (pc := 148) C (b := 20) dX11_jumper_148 fl_X11_68 sR_0 rfl rR_0_30 <|
    aw_iload_n (pc := 151) C (i := 1) dX11_jumper_151 rfl rfl <|
    aw_iald (pc := 152) C dX11_jumper_152 sR_20 rfl <|
    aw_iret (pc := 153) C dX11_jumper_153 rfl rfl)) (fun c17 =>
    aw_if (fun c20 => aw_tswA (pc := 15) C (off := 139) (tg := 154) 10 dX11_jumper_15 (by rw [c20]; rfl) (by decide) (by decide) rfl rfl (aw_aload_n (pc := 154) C (i := 0) dX11_jumper_154 rfl rfl <|
    aw_iconst (pc := 155) C (v := 0) dX11_jumper_155 rfl <|
    aw_aload_n (pc := 156) C (i := 0) dX11_jumper_156 rfl rfl <|
    aw_getI (pc := 157) C dX11_jumper_157 fl_X11_147 sR_0 rfl <|
    aw_callF (pc := 160) C (cr_V (rest := []) (F := (X11_findBest 0 (h2.1 0 16))) C (c_X11_findBest X.2.1 0 (h2.1 0 16)) dX11_jumper_160 mf_X11_findBest ml_X11_213 im_X11_findBest se_X11_findBest sR_0 rfl ⟨(Nat.le_of_ble_eq_true rfl), (Nat.le_of_ble_eq_true rfl)⟩ rfl rfl (Nat.le_of_ble_eq_true rfl)) rfl rfl rfl (Nat.zero_le _) (Nat.zero_le _) fun _ h19 =>
    aw_aload_n (pc := 163) C (i := 0) dX11_jumper_163 rfl rfl <|
    aw_getR (pc := 164) C (b := 21) dX11_jumper_164 fl_X11_71 sR_0 rfl rR_0_31 <|
    aw_iload_n (pc := 167) C (i := 1) dX11_jumper_167 rfl rfl <|
    aw_iald (pc := 168) C dX11_jumper_168 sR_21 rfl <|
    aw_iret (pc := 169) C dX11_jumper_169 rfl rfl)) (fun c20 =>
    aw_if (fun c23 => aw_tswA (pc := 15) C (off := 155) (tg := 170) 11 dX11_jumper_15 (by rw [c23]; rfl) (by decide) (by decide) rfl rfl (aw_aload_n (pc := 170) C (i := 0) dX11_jumper_170 rfl rfl <|
    aw_iload_n (pc := 171) C (i := 1) dX11_jumper_171 rfl rfl <|
    aw_callF (pc := 172) C (cr_V (rest := []) (F := (X11_triesOf v1)) C (c_X11_triesOf X.2.1 v1) dX11_jumper_172 mf_X11_triesOf ml_X11_217 im_X11_triesOf se_X11_triesOf sR_0 rfl ⟨(Nat.le_of_ble_eq_true rfl), (Nat.le_of_ble_eq_true rfl)⟩ rfl rfl (Nat.le_of_ble_eq_true rfl)) rfl rfl rfl (Nat.zero_le _) (Nat.zero_le _) fun r21 h22 =>
    aw_iret (pc := 175) C dX11_jumper_175 rfl rfl)) (fun c23 =>
    aw_tswD (pc := 15) C (N := 12) (td := 176) [0, 1, 2, 3, 4, 5, 6, 7, 8, 9, 10, 11] dX11_jumper_15 (List.forall_mem_cons.mpr ⟨ti_ne c4 rfl, List.forall_mem_cons.mpr ⟨ti_ne c5 rfl, List.forall_mem_cons.mpr ⟨ti_ne c6 rfl, List.forall_mem_cons.mpr ⟨ti_ne c7 rfl, List.forall_mem_cons.mpr ⟨ti_ne c8 rfl, List.forall_mem_cons.mpr ⟨ti_ne c9 rfl, List.forall_mem_cons.mpr ⟨ti_ne c10 rfl, List.forall_mem_cons.mpr ⟨ti_ne c11 rfl, List.forall_mem_cons.mpr ⟨ti_ne c14 rfl, List.forall_mem_cons.mpr ⟨ti_ne c17 rfl, List.forall_mem_cons.mpr ⟨ti_ne c20 rfl, List.forall_mem_cons.mpr ⟨ti_ne c23 rfl, fun _ hz => by cases hz⟩⟩⟩⟩⟩⟩⟩⟩⟩⟩⟩⟩) rfl (by decide) rfl (aw_aload_n (pc := 176) C (i := 0) dX11_jumper_176 rfl rfl <|
    aw_bipush (pc := 177) C (v := (-2)) dX11_jumper_177 rfl <|
    aw_callF (pc := 179) C (cr_V (rest := []) (F := (X11_no (-2))) C (c_X11_no X.2.1 (-2)) dX11_jumper_179 mf_X11_no ml_X11_115 im_X11_no se_X11_no sR_0 rfl ⟨(Nat.le_of_ble_eq_true rfl), (Nat.le_of_ble_eq_true rfl)⟩ rfl rfl (Nat.le_of_ble_eq_true rfl)) rfl rfl rfl (Nat.zero_le _) (Nat.zero_le _) fun r24 h25 =>
    aw_iret (pc := 182) C dX11_jumper_182 rfl rfl))))))))))))))

abbrev rmX11_mark : Room := { frames := 1, cells := 0, slots := 0, locals := 22 }
def X11_mark_j20  (v1 : Int32) (v2 : Int32) (s0 : Int32) (h : AH) : Option (Int32 × AH) :=
    if s0 = 0 then (ck v1 4 (vl (h.1 9 v1.toNatClampNeg) fun x5 =>
    ck v1 4 (vl (sI h 9 v1.toNatClampNeg v2) fun h6 =>
    some (x5, h6))))
    else (bd (X11_no s0 h) fun r7 h8 =>
    some (r7, h8))
set_option maxRecDepth 100000 in
theorem aX11_mark_j20 {X : MCx} {yd : Dyn} {A : Nat → Prop} (C : OK X cX11_mark RX11 5 (some .int) rmX11_mark A)  (v1 : Int32) (v2 : Int32) (s0 : Int32) (h : AH) : AW X 5 ZR yd A 0 0 (QF X rmX11_mark ZR yd rvI A) 20 [(0, .ref 0), (1, .int v1), (2, .int v2)] [.int s0] h (X11_mark_j20 v1 v2 s0 h) := by
    exact aw_istore_n (pc := 20) C (i := 3) (lv' := [(0, .ref 0), (1, .int v1), (2, .int v2), (3, .int s0)]) dX11_mark_20 rfl (by decide) rfl <|
    aw_iload_n (pc := 21) C (i := 3) dX11_mark_21 rfl rfl <|
    aw_if_eq (pc := 22) C (tgt := 31) dX11_mark_22 rfl (fun _ =>
    aw_aload_n (pc := 31) C (i := 0) dX11_mark_31 rfl rfl <|
    aw_getR (pc := 32) C (b := 9) dX11_mark_32 fl_X11_34 sR_0 rfl rR_0_8 <|
    aw_iload_n (pc := 35) C (i := 1) dX11_mark_35 rfl rfl <|
    aw_iald (pc := 36) C dX11_mark_36 sR_9 rfl <|
    aw_istoreV (pc := 37) C (i := 4) (fun x5 => [(0, .ref 0), (1, .int v1), (2, .int v2), (3, .int s0), (4, .int x5)]) dX11_mark_37 (by decide) (fun _ => rfl) fun x5 =>
    aw_aload_n (pc := 39) C (i := 0) dX11_mark_39 rfl rfl <|
    aw_getR (pc := 40) C (b := 9) dX11_mark_40 fl_X11_34 sR_0 rfl rR_0_8 <|
    aw_iload_n (pc := 43) C (i := 1) dX11_mark_43 rfl rfl <|
    aw_iload_n (pc := 44) C (i := 2) dX11_mark_44 rfl rfl <|
    aw_iast (pc := 45) C dX11_mark_45 sR_9 rfl fun h6 =>
    aw_iload (pc := 46) C (i := 4) dX11_mark_46 rfl <|
    aw_iret (pc := 48) C dX11_mark_48 rfl rfl) (fun _ =>
    aw_aload_n (pc := 25) C (i := 0) dX11_mark_25 rfl rfl <|
    aw_iload_n (pc := 26) C (i := 3) dX11_mark_26 rfl rfl <|
    aw_callF (pc := 27) C (cr_V (rest := []) (F := (X11_no s0)) C (c_X11_no X.2.1 s0) dX11_mark_27 mf_X11_no ml_X11_115 im_X11_no se_X11_no sR_0 rfl ⟨(Nat.le_of_ble_eq_true rfl), (Nat.le_of_ble_eq_true rfl)⟩ rfl rfl (Nat.le_of_ble_eq_true rfl)) rfl rfl rfl (Nat.zero_le _) (Nat.zero_le _) fun r7 h8 =>
    aw_iret (pc := 30) C dX11_mark_30 rfl rfl)
def X11_mark (v1 : Int32) (v2 : Int32) (h : AH) : Option (Int32 × AH) :=
    bd (X11_isJumper v1 h) fun r1 h2 =>
    if r1 = 0 then (X11_mark_j20 v1 v2 (-1) h2)
    else (bd (X11_bound v2 0 2400 h2) fun r3 h4 =>
    X11_mark_j20 v1 v2 r3 h4)
set_option maxRecDepth 100000 in
theorem c_X11_mark (l : Launch) (v1 : Int32) (v2 : Int32) : MC l yX11_mark cX11_mark 5 (some .int) rmX11_mark ZR [.ref 0, .int v1, .int v2] rvI (X11_mark v1 v2) :=
  MC.of (own := RX11) (by decide +kernel) rfl (Nat.le_of_ble_eq_true rfl) fun X yd A h _ C =>
    aw_aload_n (pc := 0) C (i := 0) dX11_mark_0 rfl rfl <|
    aw_iload_n (pc := 1) C (i := 1) dX11_mark_1 rfl rfl <|
    aw_callF (pc := 2) C (cr_V (rest := []) (F := (X11_isJumper v1)) C (c_X11_isJumper X.2.1 v1) dX11_mark_2 mf_X11_isJumper ml_X11_207 im_X11_isJumper se_X11_isJumper sR_0 rfl ⟨(Nat.le_of_ble_eq_true rfl), (Nat.le_of_ble_eq_true rfl)⟩ rfl rfl (Nat.le_of_ble_eq_true rfl)) rfl rfl rfl (Nat.zero_le _) (Nat.zero_le _) fun r1 h2 =>
    aw_if_ne (pc := 5) C (tgt := 12) dX11_mark_5 rfl (fun _ =>
    aw_iconst (pc := 8) C (v := (-1)) dX11_mark_8 rfl <|
    aw_goto (pc := 9) C (tgt := 20) dX11_mark_9 rfl <|
    (aX11_mark_j20 C v1 v2 (-1) h2)) (fun _ =>
    aw_iload_n (pc := 12) C (i := 2) dX11_mark_12 rfl rfl <|
    aw_iconst (pc := 13) C (v := 0) dX11_mark_13 rfl <|
    aw_sipush (pc := 14) C (v := 2400) dX11_mark_14 rfl <|
    aw_callF (pc := 17) C (cr_S (rest := []) (F := (X11_bound v2 0 2400)) C (c_X11_bound X.2.1 v2 0 2400) dX11_mark_17 mf_X11_bound ml_X11_108 st_X11_bound ⟨(Nat.le_of_ble_eq_true rfl), (Nat.le_of_ble_eq_true rfl)⟩ rfl rfl (Nat.le_of_ble_eq_true rfl)) rfl rfl rfl (Nat.zero_le _) (Nat.zero_le _) fun r3 h4 =>
    (aX11_mark_j20 C v1 v2 r3 h4))
end
section
abbrev rmX11_look : Room := { frames := 1, cells := 0, slots := 0, locals := 22 }
def X11_look_j18  (v1 : Int32) (v2 : Int32) (s0 : Int32) (h : AH) : Option (Int32 × AH) :=
    if s0 = 0 then (ck v1 4 (vl (h.1 8 v1.toNatClampNeg) fun x5 =>
    ck v1 4 (vl (sI h 8 v1.toNatClampNeg v2) fun h6 =>
    some (x5, h6))))
    else (bd (X11_no s0 h) fun r7 h8 =>
    some (r7, h8))
set_option maxRecDepth 100000 in
theorem aX11_look_j18 {X : MCx} {yd : Dyn} {A : Nat → Prop} (C : OK X cX11_look RX11 5 (some .int) rmX11_look A)  (v1 : Int32) (v2 : Int32) (s0 : Int32) (h : AH) : AW X 5 ZR yd A 0 0 (QF X rmX11_look ZR yd rvI A) 18 [(0, .ref 0), (1, .int v1), (2, .int v2)] [.int s0] h (X11_look_j18 v1 v2 s0 h) := by
    exact aw_istore_n (pc := 18) C (i := 3) (lv' := [(0, .ref 0), (1, .int v1), (2, .int v2), (3, .int s0)]) dX11_look_18 rfl (by decide) rfl <|
    aw_iload_n (pc := 19) C (i := 3) dX11_look_19 rfl rfl <|
    aw_if_eq (pc := 20) C (tgt := 29) dX11_look_20 rfl (fun _ =>
    aw_aload_n (pc := 29) C (i := 0) dX11_look_29 rfl rfl <|
    aw_getR (pc := 30) C (b := 8) dX11_look_30 fl_X11_31 sR_0 rfl rR_0_7 <|
    aw_iload_n (pc := 33) C (i := 1) dX11_look_33 rfl rfl <|
    aw_iald (pc := 34) C dX11_look_34 sR_8 rfl <|
    aw_istoreV (pc := 35) C (i := 4) (fun x5 => [(0, .ref 0), (1, .int v1), (2, .int v2), (3, .int s0), (4, .int x5)]) dX11_look_35 (by decide) (fun _ => rfl) fun x5 =>
    aw_aload_n (pc := 37) C (i := 0) dX11_look_37 rfl rfl <|
    aw_getR (pc := 38) C (b := 8) dX11_look_38 fl_X11_31 sR_0 rfl rR_0_7 <|
    aw_iload_n (pc := 41) C (i := 1) dX11_look_41 rfl rfl <|
    aw_iload_n (pc := 42) C (i := 2) dX11_look_42 rfl rfl <|
    aw_iast (pc := 43) C dX11_look_43 sR_8 rfl fun h6 =>
    aw_iload (pc := 44) C (i := 4) dX11_look_44 rfl <|
    aw_iret (pc := 46) C dX11_look_46 rfl rfl) (fun _ =>
    aw_aload_n (pc := 23) C (i := 0) dX11_look_23 rfl rfl <|
    aw_iload_n (pc := 24) C (i := 3) dX11_look_24 rfl rfl <|
    aw_callF (pc := 25) C (cr_V (rest := []) (F := (X11_no s0)) C (c_X11_no X.2.1 s0) dX11_look_25 mf_X11_no ml_X11_115 im_X11_no se_X11_no sR_0 rfl ⟨(Nat.le_of_ble_eq_true rfl), (Nat.le_of_ble_eq_true rfl)⟩ rfl rfl (Nat.le_of_ble_eq_true rfl)) rfl rfl rfl (Nat.zero_le _) (Nat.zero_le _) fun r7 h8 =>
    aw_iret (pc := 28) C dX11_look_28 rfl rfl)
def X11_look (v1 : Int32) (v2 : Int32) (h : AH) : Option (Int32 × AH) :=
    bd (X11_isJumper v1 h) fun r1 h2 =>
    if r1 = 0 then (X11_look_j18 v1 v2 (-1) h2)
    else (bd (X11_bound v2 0 4 h2) fun r3 h4 =>
    X11_look_j18 v1 v2 r3 h4)
set_option maxRecDepth 100000 in
theorem c_X11_look (l : Launch) (v1 : Int32) (v2 : Int32) : MC l yX11_look cX11_look 5 (some .int) rmX11_look ZR [.ref 0, .int v1, .int v2] rvI (X11_look v1 v2) :=
  MC.of (own := RX11) (by decide +kernel) rfl (Nat.le_of_ble_eq_true rfl) fun X yd A h _ C =>
    aw_aload_n (pc := 0) C (i := 0) dX11_look_0 rfl rfl <|
    aw_iload_n (pc := 1) C (i := 1) dX11_look_1 rfl rfl <|
    aw_callF (pc := 2) C (cr_V (rest := []) (F := (X11_isJumper v1)) C (c_X11_isJumper X.2.1 v1) dX11_look_2 mf_X11_isJumper ml_X11_207 im_X11_isJumper se_X11_isJumper sR_0 rfl ⟨(Nat.le_of_ble_eq_true rfl), (Nat.le_of_ble_eq_true rfl)⟩ rfl rfl (Nat.le_of_ble_eq_true rfl)) rfl rfl rfl (Nat.zero_le _) (Nat.zero_le _) fun r1 h2 =>
    aw_if_ne (pc := 5) C (tgt := 12) dX11_look_5 rfl (fun _ =>
    aw_iconst (pc := 8) C (v := (-1)) dX11_look_8 rfl <|
    aw_goto (pc := 9) C (tgt := 18) dX11_look_9 rfl <|
    (aX11_look_j18 C v1 v2 (-1) h2)) (fun _ =>
    aw_iload_n (pc := 12) C (i := 2) dX11_look_12 rfl rfl <|
    aw_iconst (pc := 13) C (v := 0) dX11_look_13 rfl <|
    aw_iconst (pc := 14) C (v := 4) dX11_look_14 rfl <|
    aw_callF (pc := 15) C (cr_S (rest := []) (F := (X11_bound v2 0 4)) C (c_X11_bound X.2.1 v2 0 4) dX11_look_15 mf_X11_bound ml_X11_108 st_X11_bound ⟨(Nat.le_of_ble_eq_true rfl), (Nat.le_of_ble_eq_true rfl)⟩ rfl rfl (Nat.le_of_ble_eq_true rfl)) rfl rfl rfl (Nat.zero_le _) (Nat.zero_le _) fun r3 h4 =>
    (aX11_look_j18 C v1 v2 r3 h4))

abbrev rmX11_set : Room := { frames := 1, cells := 0, slots := 0, locals := 22 }
def X11_set_j109  (v4 : Int32) (s0 : Int32) (h : AH) : Option (Int32 × AH) :=
    vl (sI h 0 13 s0) fun h6 =>
    some (v4, h6)
set_option maxRecDepth 100000 in
theorem aX11_set_j109 {X : MCx} {yd : Dyn} {A : Nat → Prop} (C : OK X cX11_set RX11 5 (some .int) rmX11_set A)  (v4 : Int32) (s0 : Int32) (h : AH) : AW X 5 ZR yd A 0 0 (QF X rmX11_set ZR yd rvI A) 109 [(4, .int v4)] [.int s0, .ref 0] h (X11_set_j109 v4 s0 h) := by
    exact aw_putI (pc := 109) C dX11_set_109 fp_X11_99 sR_0 rfl fun h6 =>
    aw_iload (pc := 112) C (i := 4) dX11_set_112 rfl <|
    aw_iret (pc := 114) C dX11_set_114 rfl rfl
def X11_set_j92  (v1 : Int32) (v2 : Int32) (v4 : Int32) (s0 : Int32) (h : AH) : Option (Int32 × AH) :=
    vl (sI h 0 12 s0) fun h5 =>
    if v1 = 1 then (X11_set_j109 v4 v2 h5)
    else (X11_set_j109 v4 (h5.1 0 13) h5)
set_option maxRecDepth 100000 in
theorem aX11_set_j92 {X : MCx} {yd : Dyn} {A : Nat → Prop} (C : OK X cX11_set RX11 5 (some .int) rmX11_set A)  (v1 : Int32) (v2 : Int32) (v4 : Int32) (s0 : Int32) (h : AH) : AW X 5 ZR yd A 0 0 (QF X rmX11_set ZR yd rvI A) 92 [(0, .ref 0), (1, .int v1), (2, .int v2), (4, .int v4)] [.int s0, .ref 0] h (X11_set_j92 v1 v2 v4 s0 h) := by
    exact aw_putI (pc := 92) C dX11_set_92 fp_X11_95 sR_0 rfl fun h5 =>
    aw_aload_n (pc := 95) C (i := 0) dX11_set_95 rfl rfl <|
    aw_iload_n (pc := 96) C (i := 1) dX11_set_96 rfl rfl <|
    aw_iconst (pc := 97) C (v := 1) dX11_set_97 rfl <|
    aw_icmp_ne (pc := 98) C (tgt := 105) dX11_set_98 rfl (fun _ =>
    aw_iload_n (pc := 101) C (i := 2) dX11_set_101 rfl rfl <|
    aw_goto (pc := 102) C (tgt := 109) dX11_set_102 rfl <|
    aw_drop [3] (aX11_set_j109 C v4 v2 h5)) (fun _ =>
    aw_aload_n (pc := 105) C (i := 0) dX11_set_105 rfl rfl <|
    aw_getI (pc := 106) C dX11_set_106 fl_X11_99 sR_0 rfl <|
    aw_drop [3] (aX11_set_j109 C v4 (h5.1 0 13) h5))
def X11_set_j77  (v1 : Int32) (v2 : Int32) (s0 : Int32) (h : AH) : Option (Int32 × AH) :=
    if v1 = 0 then (X11_set_j92 v1 v2 s0 v2 h)
    else (X11_set_j92 v1 v2 s0 (h.1 0 12) h)
set_option maxRecDepth 100000 in
theorem aX11_set_j77 {X : MCx} {yd : Dyn} {A : Nat → Prop} (C : OK X cX11_set RX11 5 (some .int) rmX11_set A)  (v1 : Int32) (v2 : Int32) (s0 : Int32) (h : AH) : AW X 5 ZR yd A 0 0 (QF X rmX11_set ZR yd rvI A) 77 [(0, .ref 0), (1, .int v1), (2, .int v2)] [.int s0] h (X11_set_j77 v1 v2 s0 h) := by
    exact aw_istore (pc := 77) C (i := 4) (lv' := [(0, .ref 0), (1, .int v1), (2, .int v2), (4, .int s0)]) dX11_set_77 (by decide) rfl <|
    aw_aload_n (pc := 79) C (i := 0) dX11_set_79 rfl rfl <|
    aw_iload_n (pc := 80) C (i := 1) dX11_set_80 rfl rfl <|
    aw_if_ne (pc := 81) C (tgt := 88) dX11_set_81 rfl (fun _ =>
    aw_iload_n (pc := 84) C (i := 2) dX11_set_84 rfl rfl <|
    aw_goto (pc := 85) C (tgt := 92) dX11_set_85 rfl <|
    (aX11_set_j92 C v1 v2 s0 v2 h)) (fun _ =>
    aw_aload_n (pc := 88) C (i := 0) dX11_set_88 rfl rfl <|
    aw_getI (pc := 89) C dX11_set_89 fl_X11_95 sR_0 rfl <|
    (aX11_set_j92 C v1 v2 s0 (h.1 0 12) h))
def X11_set_j52  (v1 : Int32) (v2 : Int32) (v3 : Int32) (h : AH) : Option (Int32 × AH) :=
    if v3 = 0 then (if v1 = 0 then (X11_set_j77 v1 v2 (h.1 0 12) h)
    else (X11_set_j77 v1 v2 (h.1 0 13) h))
    else (bd (X11_no v3 h) fun r7 h8 =>
    some (r7, h8))
set_option maxRecDepth 100000 in
theorem aX11_set_j52 {X : MCx} {yd : Dyn} {A : Nat → Prop} (C : OK X cX11_set RX11 5 (some .int) rmX11_set A)  (v1 : Int32) (v2 : Int32) (v3 : Int32) (h : AH) : AW X 5 ZR yd A 0 0 (QF X rmX11_set ZR yd rvI A) 52 [(0, .ref 0), (1, .int v1), (2, .int v2), (3, .int v3)] [] h (X11_set_j52 v1 v2 v3 h) := by
    exact aw_iload_n (pc := 52) C (i := 3) dX11_set_52 rfl rfl <|
    aw_if_eq (pc := 53) C (tgt := 62) dX11_set_53 rfl (fun _ =>
    aw_iload_n (pc := 62) C (i := 1) dX11_set_62 rfl rfl <|
    aw_if_ne (pc := 63) C (tgt := 73) dX11_set_63 rfl (fun _ =>
    aw_aload_n (pc := 66) C (i := 0) dX11_set_66 rfl rfl <|
    aw_getI (pc := 67) C dX11_set_67 fl_X11_95 sR_0 rfl <|
    aw_goto (pc := 70) C (tgt := 77) dX11_set_70 rfl <|
    aw_drop [0, 1, 2] (aX11_set_j77 C v1 v2 (h.1 0 12) h)) (fun _ =>
    aw_aload_n (pc := 73) C (i := 0) dX11_set_73 rfl rfl <|
    aw_getI (pc := 74) C dX11_set_74 fl_X11_99 sR_0 rfl <|
    aw_drop [0, 1, 2] (aX11_set_j77 C v1 v2 (h.1 0 13) h))) (fun _ =>
    aw_aload_n (pc := 56) C (i := 0) dX11_set_56 rfl rfl <|
    aw_iload_n (pc := 57) C (i := 3) dX11_set_57 rfl rfl <|
    aw_callF (pc := 58) C (cr_V (rest := []) (F := (X11_no v3)) C (c_X11_no X.2.1 v3) dX11_set_58 mf_X11_no ml_X11_115 im_X11_no se_X11_no sR_0 rfl ⟨(Nat.le_of_ble_eq_true rfl), (Nat.le_of_ble_eq_true rfl)⟩ rfl rfl (Nat.le_of_ble_eq_true rfl)) rfl rfl rfl (Nat.zero_le _) (Nat.zero_le _) fun r7 h8 =>
    aw_iret (pc := 61) C dX11_set_61 rfl rfl)
def X11_set_j37  (v1 : Int32) (v2 : Int32) (s0 : Int32) (h : AH) : Option (Int32 × AH) :=
    if s0 = 0 then (if (h.1 0 16) ≤ 0 then (X11_set_j52 v1 v2 s0 h)
    else (vl (-3) fun x9 =>
    X11_set_j52 v1 v2 x9 h))
    else (X11_set_j52 v1 v2 s0 h)
set_option maxRecDepth 100000 in
theorem aX11_set_j37 {X : MCx} {yd : Dyn} {A : Nat → Prop} (C : OK X cX11_set RX11 5 (some .int) rmX11_set A)  (v1 : Int32) (v2 : Int32) (s0 : Int32) (h : AH) : AW X 5 ZR yd A 0 0 (QF X rmX11_set ZR yd rvI A) 37 [(0, .ref 0), (1, .int v1), (2, .int v2)] [.int s0] h (X11_set_j37 v1 v2 s0 h) := by
    exact aw_istore_n (pc := 37) C (i := 3) (lv' := [(0, .ref 0), (1, .int v1), (2, .int v2), (3, .int s0)]) dX11_set_37 rfl (by decide) rfl <|
    aw_iload_n (pc := 38) C (i := 3) dX11_set_38 rfl rfl <|
    aw_if_ne (pc := 39) C (tgt := 52) dX11_set_39 rfl (fun _ =>
    aw_aload_n (pc := 42) C (i := 0) dX11_set_42 rfl rfl <|
    aw_getI (pc := 43) C dX11_set_43 fl_X11_147 sR_0 rfl <|
    aw_if_le (pc := 46) C (tgt := 52) dX11_set_46 rfl (fun _ =>
    (aX11_set_j52 C v1 v2 s0 h)) (fun _ =>
    aw_bipush (pc := 49) C (v := (-3)) dX11_set_49 rfl <|
    aw_istoreV_n (pc := 51) C (i := 3) (fun x9 => [(0, .ref 0), (1, .int v1), (2, .int v2), (3, .int x9)]) dX11_set_51 rfl (by decide) (fun _ => rfl) fun x9 =>
    (aX11_set_j52 C v1 v2 x9 h))) (fun _ =>
    (aX11_set_j52 C v1 v2 s0 h))
def X11_set_j34  (v1 : Int32) (v2 : Int32) (s0 : Int32) (s1 : Int32) (s2 : Int32) (h : AH) : Option (Int32 × AH) :=
    bd (X11_bound s2 s1 s0 h) fun r3 h4 =>
    X11_set_j37 v1 v2 r3 h4
set_option maxRecDepth 100000 in
theorem aX11_set_j34 {X : MCx} {yd : Dyn} {A : Nat → Prop} (C : OK X cX11_set RX11 5 (some .int) rmX11_set A)  (v1 : Int32) (v2 : Int32) (s0 : Int32) (s1 : Int32) (s2 : Int32) (h : AH) : AW X 5 ZR yd A 0 0 (QF X rmX11_set ZR yd rvI A) 34 [(0, .ref 0), (1, .int v1), (2, .int v2)] [.int s0, .int s1, .int s2] h (X11_set_j34 v1 v2 s0 s1 s2 h) := by
    exact aw_callF (pc := 34) C (cr_S (rest := []) (F := (X11_bound s2 s1 s0)) C (c_X11_bound X.2.1 s2 s1 s0) dX11_set_34 mf_X11_bound ml_X11_108 st_X11_bound ⟨(Nat.le_of_ble_eq_true rfl), (Nat.le_of_ble_eq_true rfl)⟩ rfl rfl (Nat.le_of_ble_eq_true rfl)) rfl rfl rfl (Nat.zero_le _) (Nat.zero_le _) fun r3 h4 =>
    (aX11_set_j37 C v1 v2 r3 h4)
def X11_set_j24  (v1 : Int32) (v2 : Int32) (s0 : Int32) (s1 : Int32) (h : AH) : Option (Int32 × AH) :=
    if v1 = 0 then (X11_set_j34 v1 v2 20 s0 s1 h)
    else (X11_set_j34 v1 v2 4 s0 s1 h)
set_option maxRecDepth 100000 in
theorem aX11_set_j24 {X : MCx} {yd : Dyn} {A : Nat → Prop} (C : OK X cX11_set RX11 5 (some .int) rmX11_set A)  (v1 : Int32) (v2 : Int32) (s0 : Int32) (s1 : Int32) (h : AH) : AW X 5 ZR yd A 0 0 (QF X rmX11_set ZR yd rvI A) 24 [(0, .ref 0), (1, .int v1), (2, .int v2)] [.int s0, .int s1] h (X11_set_j24 v1 v2 s0 s1 h) := by
    exact aw_iload_n (pc := 24) C (i := 1) dX11_set_24 rfl rfl <|
    aw_if_ne (pc := 25) C (tgt := 33) dX11_set_25 rfl (fun _ =>
    aw_bipush (pc := 28) C (v := 20) dX11_set_28 rfl <|
    aw_goto (pc := 30) C (tgt := 34) dX11_set_30 rfl <|
    (aX11_set_j34 C v1 v2 20 s0 s1 h)) (fun _ =>
    aw_iconst (pc := 33) C (v := 4) dX11_set_33 rfl <|
    (aX11_set_j34 C v1 v2 4 s0 s1 h))
def X11_set (v1 : Int32) (v2 : Int32) (h : AH) : Option (Int32 × AH) :=
    bd (X11_isIn v1 0 1 h) fun r1 h2 =>
    if r1 = 0 then (X11_set_j37 v1 v2 (-2) h2)
    else (if v1 = 0 then (X11_set_j24 v1 v2 4 v2 h2)
    else (X11_set_j24 v1 v2 1 v2 h2))
set_option maxRecDepth 100000 in
theorem c_X11_set (l : Launch) (v1 : Int32) (v2 : Int32) : MC l yX11_set cX11_set 5 (some .int) rmX11_set ZR [.ref 0, .int v1, .int v2] rvI (X11_set v1 v2) :=
  MC.of (own := RX11) (by decide +kernel) rfl (Nat.le_of_ble_eq_true rfl) fun X yd A h _ C =>
    aw_iload_n (pc := 0) C (i := 1) dX11_set_0 rfl rfl <|
    aw_iconst (pc := 1) C (v := 0) dX11_set_1 rfl <|
    aw_iconst (pc := 2) C (v := 1) dX11_set_2 rfl <|
    aw_callF (pc := 3) C (cr_S (rest := []) (F := (X11_isIn v1 0 1)) C (c_X11_isIn X.2.1 v1 0 1) dX11_set_3 mf_X11_isIn ml_X11_126 st_X11_isIn ⟨(Nat.le_of_ble_eq_true rfl), (Nat.le_of_ble_eq_true rfl)⟩ rfl rfl (Nat.le_of_ble_eq_true rfl)) rfl rfl rfl (Nat.zero_le _) (Nat.zero_le _) fun r1 h2 =>
    aw_if_ne (pc := 6) C (tgt := 14) dX11_set_6 rfl (fun _ =>
    aw_bipush (pc := 9) C (v := (-2)) dX11_set_9 rfl <|
    aw_goto (pc := 11) C (tgt := 37) dX11_set_11 rfl <|
    (aX11_set_j37 C v1 v2 (-2) h2)) (fun _ =>
    aw_iload_n (pc := 14) C (i := 2) dX11_set_14 rfl rfl <|
    aw_iload_n (pc := 15) C (i := 1) dX11_set_15 rfl rfl <|
    aw_if_ne (pc := 16) C (tgt := 23) dX11_set_16 rfl (fun _ =>
    aw_iconst (pc := 19) C (v := 4) dX11_set_19 rfl <|
    aw_goto (pc := 20) C (tgt := 24) dX11_set_20 rfl <|
    (aX11_set_j24 C v1 v2 4 v2 h2)) (fun _ =>
    aw_iconst (pc := 23) C (v := 1) dX11_set_23 rfl <|
    (aX11_set_j24 C v1 v2 1 v2 h2)))

abbrev rmX11_wind : Room := { frames := 1, cells := 0, slots := 0, locals := 22 }
def X11_wind (v1 : Int32) (h : AH) : Option (Int32 × AH) :=
    bd (X11_bound v1 (-9) 9 h) fun r1 h2 =>
    if r1 = 0 then (vl (h2.1 0 14) fun x3 =>
    vl (sI h2 0 14 v1) fun h4 =>
    some (x3, h4))
    else (bd (X11_lower r1 h2) fun r5 h6 =>
    some (r5, h6))
set_option maxRecDepth 100000 in
theorem c_X11_wind (l : Launch) (v1 : Int32) : MC l yX11_wind cX11_wind 4 (some .int) rmX11_wind ZR [.ref 0, .int v1] rvI (X11_wind v1) :=
  MC.of (own := RX11) (by decide +kernel) rfl (Nat.le_of_ble_eq_true rfl) fun X yd A h _ C =>
    aw_iload_n (pc := 0) C (i := 1) dX11_wind_0 rfl rfl <|
    aw_bipush (pc := 1) C (v := (-9)) dX11_wind_1 rfl <|
    aw_bipush (pc := 3) C (v := 9) dX11_wind_3 rfl <|
    aw_callF (pc := 5) C (cr_S (rest := []) (F := (X11_bound v1 (-9) 9)) C (c_X11_bound X.2.1 v1 (-9) 9) dX11_wind_5 mf_X11_bound ml_X11_108 st_X11_bound ⟨(Nat.le_of_ble_eq_true rfl), (Nat.le_of_ble_eq_true rfl)⟩ rfl rfl (Nat.le_of_ble_eq_true rfl)) rfl rfl rfl (Nat.zero_le _) (Nat.zero_le _) fun r1 h2 =>
    aw_istore_n (pc := 8) C (i := 2) (lv' := [(0, .ref 0), (1, .int v1), (2, .int r1)]) dX11_wind_8 rfl (by decide) rfl <|
    aw_iload_n (pc := 9) C (i := 2) dX11_wind_9 rfl rfl <|
    aw_if_eq (pc := 10) C (tgt := 19) dX11_wind_10 rfl (fun _ =>
    aw_aload_n (pc := 19) C (i := 0) dX11_wind_19 rfl rfl <|
    aw_getI (pc := 20) C dX11_wind_20 fl_X11_157 sR_0 rfl <|
    aw_istoreV_n (pc := 23) C (i := 3) (fun x3 => [(0, .ref 0), (1, .int v1), (2, .int r1), (3, .int x3)]) dX11_wind_23 rfl (by decide) (fun _ => rfl) fun x3 =>
    aw_aload_n (pc := 24) C (i := 0) dX11_wind_24 rfl rfl <|
    aw_iload_n (pc := 25) C (i := 1) dX11_wind_25 rfl rfl <|
    aw_putI (pc := 26) C dX11_wind_26 fp_X11_157 sR_0 rfl fun h4 =>
    aw_iload_n (pc := 29) C (i := 3) dX11_wind_29 rfl rfl <|
    aw_iret (pc := 30) C dX11_wind_30 rfl rfl) (fun _ =>
    aw_aload_n (pc := 13) C (i := 0) dX11_wind_13 rfl rfl <|
    aw_iload_n (pc := 14) C (i := 2) dX11_wind_14 rfl rfl <|
    aw_callF (pc := 15) C (cr_V (rest := []) (F := (X11_lower r1)) C (c_X11_lower X.2.1 r1) dX11_wind_15 mf_X11_lower ml_X11_220 im_X11_lower se_X11_lower sR_0 rfl ⟨(Nat.le_of_ble_eq_true rfl), (Nat.le_of_ble_eq_true rfl)⟩ rfl rfl (Nat.le_of_ble_eq_true rfl)) rfl rfl rfl (Nat.zero_le _) (Nat.zero_le _) fun r5 h6 =>
    aw_iret (pc := 18) C dX11_wind_18 rfl rfl)

abbrev rmX11_stride : Room := { frames := 1, cells := 0, slots := 0, locals := 24 }
def X11_stride_j23  (v1 : Int32) (v2 : Int32) (s0 : Int32) (h : AH) : Option (Int32 × AH) :=
    if s0 = 0 then (bd (X11_strideIn v1 v2 (h.1 0 14) h) fun r5 h6 =>
    some (r5, h6))
    else (bd (X11_no s0 h) fun r7 h8 =>
    some (r7, h8))
set_option maxRecDepth 100000 in
theorem aX11_stride_j23 {X : MCx} {yd : Dyn} {A : Nat → Prop} (C : OK X cX11_stride RX11 4 (some .int) rmX11_stride A)  (v1 : Int32) (v2 : Int32) (s0 : Int32) (h : AH) : AW X 4 ZR yd A 0 0 (QF X rmX11_stride ZR yd rvI A) 23 [(0, .ref 0), (1, .int v1), (2, .int v2)] [.int s0] h (X11_stride_j23 v1 v2 s0 h) := by
    exact aw_istore_n (pc := 23) C (i := 3) (lv' := [(0, .ref 0), (1, .int v1), (2, .int v2), (3, .int s0)]) dX11_stride_23 rfl (by decide) rfl <|
    aw_iload_n (pc := 24) C (i := 3) dX11_stride_24 rfl rfl <|
    aw_if_eq (pc := 25) C (tgt := 36) dX11_stride_25 rfl (fun _ =>
    aw_aload_n (pc := 36) C (i := 0) dX11_stride_36 rfl rfl <|
    aw_iload_n (pc := 37) C (i := 1) dX11_stride_37 rfl rfl <|
    aw_iload_n (pc := 38) C (i := 2) dX11_stride_38 rfl rfl <|
    aw_aload_n (pc := 39) C (i := 0) dX11_stride_39 rfl rfl <|
    aw_getI (pc := 40) C dX11_stride_40 fl_X11_157 sR_0 rfl <|
    aw_callF (pc := 43) C (cr_V (rest := []) (F := (X11_strideIn v1 v2 (h.1 0 14))) C (c_X11_strideIn X.2.1 v1 v2 (h.1 0 14)) dX11_stride_43 mf_X11_strideIn ml_X11_197 im_X11_strideIn se_X11_strideIn sR_0 rfl ⟨(Nat.le_of_ble_eq_true rfl), (Nat.le_of_ble_eq_true rfl)⟩ rfl rfl (Nat.le_of_ble_eq_true rfl)) rfl rfl rfl (Nat.zero_le _) (Nat.zero_le _) fun r5 h6 =>
    aw_iret (pc := 46) C dX11_stride_46 rfl rfl) (fun _ =>
    aw_aload_n (pc := 28) C (i := 0) dX11_stride_28 rfl rfl <|
    aw_iload_n (pc := 29) C (i := 3) dX11_stride_29 rfl rfl <|
    aw_callF (pc := 30) C (cr_V (rest := []) (F := (X11_no s0)) C (c_X11_no X.2.1 s0) dX11_stride_30 mf_X11_no ml_X11_115 im_X11_no se_X11_no sR_0 rfl ⟨(Nat.le_of_ble_eq_true rfl), (Nat.le_of_ble_eq_true rfl)⟩ rfl rfl (Nat.le_of_ble_eq_true rfl)) rfl rfl rfl (Nat.zero_le _) (Nat.zero_le _) fun r7 h8 =>
    aw_goto (pc := 33) C (tgt := 46) dX11_stride_33 rfl <|
    aw_iret (pc := 46) C dX11_stride_46 rfl rfl)
def X11_stride (v1 : Int32) (v2 : Int32) (h : AH) : Option (Int32 × AH) :=
    bd (X11_isJumper v1 h) fun r1 h2 =>
    if r1 = 0 then (X11_stride_j23 v1 v2 (-1) h2)
    else (bd (X11_bound v2 0 ((h2.1 0 12) - 1) h2) fun r3 h4 =>
    X11_stride_j23 v1 v2 r3 h4)
set_option maxRecDepth 100000 in
theorem c_X11_stride (l : Launch) (v1 : Int32) (v2 : Int32) : MC l yX11_stride cX11_stride 4 (some .int) rmX11_stride ZR [.ref 0, .int v1, .int v2] rvI (X11_stride v1 v2) :=
  MC.of (own := RX11) (by decide +kernel) rfl (Nat.le_of_ble_eq_true rfl) fun X yd A h _ C =>
    aw_aload_n (pc := 0) C (i := 0) dX11_stride_0 rfl rfl <|
    aw_iload_n (pc := 1) C (i := 1) dX11_stride_1 rfl rfl <|
    aw_callF (pc := 2) C (cr_V (rest := []) (F := (X11_isJumper v1)) C (c_X11_isJumper X.2.1 v1) dX11_stride_2 mf_X11_isJumper ml_X11_207 im_X11_isJumper se_X11_isJumper sR_0 rfl ⟨(Nat.le_of_ble_eq_true rfl), (Nat.le_of_ble_eq_true rfl)⟩ rfl rfl (Nat.le_of_ble_eq_true rfl)) rfl rfl rfl (Nat.zero_le _) (Nat.zero_le _) fun r1 h2 =>
    aw_if_ne (pc := 5) C (tgt := 12) dX11_stride_5 rfl (fun _ =>
    aw_iconst (pc := 8) C (v := (-1)) dX11_stride_8 rfl <|
    aw_goto (pc := 9) C (tgt := 23) dX11_stride_9 rfl <|
    (aX11_stride_j23 C v1 v2 (-1) h2)) (fun _ =>
    aw_iload_n (pc := 12) C (i := 2) dX11_stride_12 rfl rfl <|
    aw_iconst (pc := 13) C (v := 0) dX11_stride_13 rfl <|
    aw_aload_n (pc := 14) C (i := 0) dX11_stride_14 rfl rfl <|
    aw_getI (pc := 15) C dX11_stride_15 fl_X11_95 sR_0 rfl <|
    aw_iconst (pc := 18) C (v := 1) dX11_stride_18 rfl <|
    aw_isub (pc := 19) C dX11_stride_19 <|
    aw_callF (pc := 20) C (cr_S (rest := []) (F := (X11_bound v2 0 ((h2.1 0 12) - 1))) C (c_X11_bound X.2.1 v2 0 ((h2.1 0 12) - 1)) dX11_stride_20 mf_X11_bound ml_X11_108 st_X11_bound ⟨(Nat.le_of_ble_eq_true rfl), (Nat.le_of_ble_eq_true rfl)⟩ rfl rfl (Nat.le_of_ble_eq_true rfl)) rfl rfl rfl (Nat.zero_le _) (Nat.zero_le _) fun r3 h4 =>
    (aX11_stride_j23 C v1 v2 r3 h4))

abbrev rmX11_place : Room := { frames := 3, cells := 0, slots := 0, locals := 69 }
def X11_place (v1 : Int32) (h : AH) : Option (Int32 × AH) :=
    bd (X11_isJumper v1 h) fun r1 h2 =>
    if r1 = 0 then (bd (X11_lower (-1) h2) fun r3 h4 =>
    some (r3, h4))
    else (bd (X11_placeOf v1 h2) fun r5 h6 =>
    some (r5, h6))
set_option maxRecDepth 100000 in
theorem c_X11_place (l : Launch) (v1 : Int32) : MC l yX11_place cX11_place 2 (some .int) rmX11_place ZR [.ref 0, .int v1] rvI (X11_place v1) :=
  MC.of (own := RX11) (by decide +kernel) rfl (Nat.le_of_ble_eq_true rfl) fun X yd A h _ C =>
    aw_aload_n (pc := 0) C (i := 0) dX11_place_0 rfl rfl <|
    aw_iload_n (pc := 1) C (i := 1) dX11_place_1 rfl rfl <|
    aw_callF (pc := 2) C (cr_V (rest := []) (F := (X11_isJumper v1)) C (c_X11_isJumper X.2.1 v1) dX11_place_2 mf_X11_isJumper ml_X11_207 im_X11_isJumper se_X11_isJumper sR_0 rfl ⟨(Nat.le_of_ble_eq_true rfl), (Nat.le_of_ble_eq_true rfl)⟩ rfl rfl (Nat.le_of_ble_eq_true rfl)) rfl rfl rfl (Nat.zero_le _) (Nat.zero_le _) fun r1 h2 =>
    aw_if_eq (pc := 5) C (tgt := 16) dX11_place_5 rfl (fun _ =>
    aw_aload_n (pc := 16) C (i := 0) dX11_place_16 rfl rfl <|
    aw_iconst (pc := 17) C (v := (-1)) dX11_place_17 rfl <|
    aw_callF (pc := 18) C (cr_V (rest := []) (F := (X11_lower (-1))) C (c_X11_lower X.2.1 (-1)) dX11_place_18 mf_X11_lower ml_X11_220 im_X11_lower se_X11_lower sR_0 rfl ⟨(Nat.le_of_ble_eq_true rfl), (Nat.le_of_ble_eq_true rfl)⟩ rfl rfl (Nat.le_of_ble_eq_true rfl)) rfl rfl rfl (Nat.zero_le _) (Nat.zero_le _) fun r3 h4 =>
    aw_iret (pc := 21) C dX11_place_21 rfl rfl) (fun _ =>
    aw_aload_n (pc := 8) C (i := 0) dX11_place_8 rfl rfl <|
    aw_iload_n (pc := 9) C (i := 1) dX11_place_9 rfl rfl <|
    aw_callF (pc := 10) C (cr_V (rest := []) (F := (X11_placeOf v1)) C (c_X11_placeOf X.2.1 v1) dX11_place_10 mf_X11_placeOf ml_X11_223 im_X11_placeOf se_X11_placeOf sR_0 rfl ⟨(Nat.le_of_ble_eq_true rfl), (Nat.le_of_ble_eq_true rfl)⟩ rfl rfl (Nat.le_of_ble_eq_true rfl)) rfl rfl rfl (Nat.zero_le _) (Nat.zero_le _) fun r5 h6 =>
    aw_goto (pc := 13) C (tgt := 21) dX11_place_13 rfl <|
    aw_iret (pc := 21) C dX11_place_21 rfl rfl)

abbrev rmX11_length : Room := { frames := 2, cells := 0, slots := 0, locals := 45 }
def X11_length_j44  (v1 : Int32) (v2 : Int32) (v3 : Int32) (s0 : Int32) (h : AH) : Option (Int32 × AH) :=
    if s0 = 0 then (bd (X11_lengthOf v1 v2 v3 h) fun r3 h4 =>
    some (r3, h4))
    else (bd (X11_no s0 h) fun r5 h6 =>
    some (r5, h6))
set_option maxRecDepth 100000 in
theorem aX11_length_j44 {X : MCx} {yd : Dyn} {A : Nat → Prop} (C : OK X cX11_length RX11 5 (some .int) rmX11_length A)  (v1 : Int32) (v2 : Int32) (v3 : Int32) (s0 : Int32) (h : AH) : AW X 5 ZR yd A 0 0 (QF X rmX11_length ZR yd rvI A) 44 [(0, .ref 0), (1, .int v1), (2, .int v2), (3, .int v3)] [.int s0] h (X11_length_j44 v1 v2 v3 s0 h) := by
    exact aw_istore (pc := 44) C (i := 4) (lv' := [(0, .ref 0), (1, .int v1), (2, .int v2), (3, .int v3), (4, .int s0)]) dX11_length_44 (by decide) rfl <|
    aw_iload (pc := 46) C (i := 4) dX11_length_46 rfl <|
    aw_if_eq (pc := 48) C (tgt := 60) dX11_length_48 rfl (fun _ =>
    aw_aload_n (pc := 60) C (i := 0) dX11_length_60 rfl rfl <|
    aw_iload_n (pc := 61) C (i := 1) dX11_length_61 rfl rfl <|
    aw_iload_n (pc := 62) C (i := 2) dX11_length_62 rfl rfl <|
    aw_iload_n (pc := 63) C (i := 3) dX11_length_63 rfl rfl <|
    aw_callF (pc := 64) C (cr_V (rest := []) (F := (X11_lengthOf v1 v2 v3)) C (c_X11_lengthOf X.2.1 v1 v2 v3) dX11_length_64 mf_X11_lengthOf ml_X11_163 im_X11_lengthOf se_X11_lengthOf sR_0 rfl ⟨(Nat.le_of_ble_eq_true rfl), (Nat.le_of_ble_eq_true rfl)⟩ rfl rfl (Nat.le_of_ble_eq_true rfl)) rfl rfl rfl (Nat.zero_le _) (Nat.zero_le _) fun r3 h4 =>
    aw_iret (pc := 67) C dX11_length_67 rfl rfl) (fun _ =>
    aw_aload_n (pc := 51) C (i := 0) dX11_length_51 rfl rfl <|
    aw_iload (pc := 52) C (i := 4) dX11_length_52 rfl <|
    aw_callF (pc := 54) C (cr_V (rest := []) (F := (X11_no s0)) C (c_X11_no X.2.1 s0) dX11_length_54 mf_X11_no ml_X11_115 im_X11_no se_X11_no sR_0 rfl ⟨(Nat.le_of_ble_eq_true rfl), (Nat.le_of_ble_eq_true rfl)⟩ rfl rfl (Nat.le_of_ble_eq_true rfl)) rfl rfl rfl (Nat.zero_le _) (Nat.zero_le _) fun r5 h6 =>
    aw_goto (pc := 57) C (tgt := 67) dX11_length_57 rfl <|
    aw_iret (pc := 67) C dX11_length_67 rfl rfl)
def X11_length_j20  (v1 : Int32) (v2 : Int32) (v3 : Int32) (h : AH) : Option (Int32 × AH) :=
    X11_length_j44 v1 v2 v3 (-4) h
set_option maxRecDepth 100000 in
theorem aX11_length_j20 {X : MCx} {yd : Dyn} {A : Nat → Prop} (C : OK X cX11_length RX11 5 (some .int) rmX11_length A)  (v1 : Int32) (v2 : Int32) (v3 : Int32) (h : AH) : AW X 5 ZR yd A 0 0 (QF X rmX11_length ZR yd rvI A) 20 [(0, .ref 0), (1, .int v1), (2, .int v2), (3, .int v3)] [] h (X11_length_j20 v1 v2 v3 h) := by
    exact aw_bipush (pc := 20) C (v := (-4)) dX11_length_20 rfl <|
    aw_goto (pc := 22) C (tgt := 44) dX11_length_22 rfl <|
    (aX11_length_j44 C v1 v2 v3 (-4) h)
def X11_length_j38  (v1 : Int32) (v2 : Int32) (v3 : Int32) (h : AH) : Option (Int32 × AH) :=
    X11_length_j44 v1 v2 v3 (-6) h
set_option maxRecDepth 100000 in
theorem aX11_length_j38 {X : MCx} {yd : Dyn} {A : Nat → Prop} (C : OK X cX11_length RX11 5 (some .int) rmX11_length A)  (v1 : Int32) (v2 : Int32) (v3 : Int32) (h : AH) : AW X 5 ZR yd A 0 0 (QF X rmX11_length ZR yd rvI A) 38 [(0, .ref 0), (1, .int v1), (2, .int v2), (3, .int v3)] [] h (X11_length_j38 v1 v2 v3 h) := by
    exact aw_bipush (pc := 38) C (v := (-6)) dX11_length_38 rfl <|
    aw_goto (pc := 40) C (tgt := 44) dX11_length_40 rfl <|
    (aX11_length_j44 C v1 v2 v3 (-6) h)
def X11_length (v1 : Int32) (v2 : Int32) (v3 : Int32) (h : AH) : Option (Int32 × AH) :=
    bd (X11_isJumper v1 h) fun r1 h2 =>
    if r1 = 0 then (X11_length_j44 v1 v2 v3 (-1) h2)
    else (if v2 < 0 then (X11_length_j20 v1 v2 v3 h2)
    else (if 0 ≤ v3 then (if 300 < v2 then (X11_length_j38 v1 v2 v3 h2)
    else (if v3 ≤ 99 then (X11_length_j44 v1 v2 v3 0 h2)
    else (X11_length_j38 v1 v2 v3 h2)))
    else (X11_length_j20 v1 v2 v3 h2)))
set_option maxRecDepth 100000 in
theorem c_X11_length (l : Launch) (v1 : Int32) (v2 : Int32) (v3 : Int32) : MC l yX11_length cX11_length 5 (some .int) rmX11_length ZR [.ref 0, .int v1, .int v2, .int v3] rvI (X11_length v1 v2 v3) :=
  MC.of (own := RX11) (by decide +kernel) rfl (Nat.le_of_ble_eq_true rfl) fun X yd A h _ C =>
    aw_aload_n (pc := 0) C (i := 0) dX11_length_0 rfl rfl <|
    aw_iload_n (pc := 1) C (i := 1) dX11_length_1 rfl rfl <|
    aw_callF (pc := 2) C (cr_V (rest := []) (F := (X11_isJumper v1)) C (c_X11_isJumper X.2.1 v1) dX11_length_2 mf_X11_isJumper ml_X11_207 im_X11_isJumper se_X11_isJumper sR_0 rfl ⟨(Nat.le_of_ble_eq_true rfl), (Nat.le_of_ble_eq_true rfl)⟩ rfl rfl (Nat.le_of_ble_eq_true rfl)) rfl rfl rfl (Nat.zero_le _) (Nat.zero_le _) fun r1 h2 =>
    aw_if_ne (pc := 5) C (tgt := 12) dX11_length_5 rfl (fun _ =>
    aw_iconst (pc := 8) C (v := (-1)) dX11_length_8 rfl <|
    aw_goto (pc := 9) C (tgt := 44) dX11_length_9 rfl <|
    (aX11_length_j44 C v1 v2 v3 (-1) h2)) (fun _ =>
    aw_iload_n (pc := 12) C (i := 2) dX11_length_12 rfl rfl <|
    aw_if_lt (pc := 13) C (tgt := 20) dX11_length_13 rfl (fun _ =>
    (aX11_length_j20 C v1 v2 v3 h2)) (fun _ =>
    aw_iload_n (pc := 16) C (i := 3) dX11_length_16 rfl rfl <|
    aw_if_ge (pc := 17) C (tgt := 25) dX11_length_17 rfl (fun _ =>
    aw_iload_n (pc := 25) C (i := 2) dX11_length_25 rfl rfl <|
    aw_sipush (pc := 26) C (v := 300) dX11_length_26 rfl <|
    aw_icmp_gt (pc := 29) C (tgt := 38) dX11_length_29 rfl (fun _ =>
    (aX11_length_j38 C v1 v2 v3 h2)) (fun _ =>
    aw_iload_n (pc := 32) C (i := 3) dX11_length_32 rfl rfl <|
    aw_bipush (pc := 33) C (v := 99) dX11_length_33 rfl <|
    aw_icmp_le (pc := 35) C (tgt := 43) dX11_length_35 rfl (fun _ =>
    aw_iconst (pc := 43) C (v := 0) dX11_length_43 rfl <|
    (aX11_length_j44 C v1 v2 v3 0 h2)) (fun _ =>
    (aX11_length_j38 C v1 v2 v3 h2)))) (fun _ =>
    (aX11_length_j20 C v1 v2 v3 h2))))

abbrev rmX11_findWays : Room := { frames := 0, cells := 0, slots := 0, locals := 0 }
def X11_findWays_j106 (p0 : Nat) (n0 : Nat) (v1 : Int32) (v2 : Int32) (v3 : Int32) (v4 : Int32) (K30 : Int32 → AH → Option (Unit × AH)) (K52 : Int32 → AH → Option (Unit × AH)) (h : AH) : Option (Unit × AH) :=
    vl (v4 + 1) fun x3 =>
    K52 x3 h
set_option maxRecDepth 100000 in
theorem aX11_findWays_j106 {X : MCx} {yd : Dyn} {A : Nat → Prop} (C : OK X cX11_findWays RX11 7 none rmX11_findWays A) (p0 : Nat) (n0 : Nat) (hA0 : ZR.1[p0]? = some (.inl (1, 1, n0))) (v1 : Int32) (v2 : Int32) (v3 : Int32) (v4 : Int32) (K30 : Int32 → AH → Option (Unit × AH)) (hK30 : ∀ (w2 : Int32) (h : AH), AW X 7 ZR yd A 0 0 (QF X rmX11_findWays ZR yd rvV A) 30 [(0, .ref p0), (1, .int v1), (2, .int w2)] [] h (K30 w2 h)) (K52 : Int32 → AH → Option (Unit × AH)) (hK52 : ∀ (w4 : Int32) (h : AH), AW X 7 ZR yd A 0 0 (QF X rmX11_findWays ZR yd rvV A) 52 [(0, .ref p0), (1, .int v1), (2, .int v2), (3, .int v3), (4, .int w4)] [] h (K52 w4 h)) (h : AH) : AW X 7 ZR yd A 0 0 (QF X rmX11_findWays ZR yd rvV A) 106 [(0, .ref p0), (1, .int v1), (2, .int v2), (3, .int v3), (4, .int v4)] [] h (X11_findWays_j106 p0 n0 v1 v2 v3 v4 K30 K52 h) := by
    exact aw_iincV (pc := 106) C (i := 4) (cst := 1) (fun x3 => [(0, .ref p0), (1, .int v1), (2, .int v2), (3, .int v3), (4, .int x3)]) dX11_findWays_106 rfl rfl (by decide) (fun _ => rfl) fun x3 =>
    aw_goto (pc := 109) C (tgt := 52) dX11_findWays_109 rfl <|
    (hK52 x3 h)
def X11_findWays_j75 (p0 : Nat) (n0 : Nat) (v1 : Int32) (v2 : Int32) (v3 : Int32) (v4 : Int32) (K30 : Int32 → AH → Option (Unit × AH)) (K52 : Int32 → AH → Option (Unit × AH)) (s0 : Int32) (h : AH) : Option (Unit × AH) :=
    vl (s0 - v3) fun x2 =>
    if x2 < 0 then (X11_findWays_j106 p0 n0 v1 v2 v3 v4 K30 K52 h)
    else (if (Int32.ofNat n0) ≤ x2 then (X11_findWays_j106 p0 n0 v1 v2 v3 v4 K30 K52 h)
    else (ck s0 n0 (ck x2 n0 (ck s0 n0 (vl (sL h p0 s0.toNatClampNeg ((h.2.1 p0 s0.toNatClampNeg) + (h.2.1 p0 x2.toNatClampNeg))) fun h4 =>
    X11_findWays_j106 p0 n0 v1 v2 v3 v4 K30 K52 h4)))))
set_option maxRecDepth 100000 in
theorem aX11_findWays_j75 {X : MCx} {yd : Dyn} {A : Nat → Prop} (C : OK X cX11_findWays RX11 7 none rmX11_findWays A) (p0 : Nat) (n0 : Nat) (hA0 : ZR.1[p0]? = some (.inl (1, 1, n0))) (v1 : Int32) (v2 : Int32) (v3 : Int32) (v4 : Int32) (K30 : Int32 → AH → Option (Unit × AH)) (hK30 : ∀ (w2 : Int32) (h : AH), AW X 7 ZR yd A 0 0 (QF X rmX11_findWays ZR yd rvV A) 30 [(0, .ref p0), (1, .int v1), (2, .int w2)] [] h (K30 w2 h)) (K52 : Int32 → AH → Option (Unit × AH)) (hK52 : ∀ (w4 : Int32) (h : AH), AW X 7 ZR yd A 0 0 (QF X rmX11_findWays ZR yd rvV A) 52 [(0, .ref p0), (1, .int v1), (2, .int v2), (3, .int v3), (4, .int w4)] [] h (K52 w4 h)) (s0 : Int32) (h : AH) : AW X 7 ZR yd A 0 0 (QF X rmX11_findWays ZR yd rvV A) 75 [(0, .ref p0), (1, .int v1), (2, .int v2), (3, .int v3), (4, .int v4)] [.int s0] h (X11_findWays_j75 p0 n0 v1 v2 v3 v4 K30 K52 s0 h) := by
    exact aw_istore (pc := 75) C (i := 5) (lv' := [(0, .ref p0), (1, .int v1), (2, .int v2), (3, .int v3), (4, .int v4), (5, .int s0)]) dX11_findWays_75 (by decide) rfl <|
    aw_iload (pc := 77) C (i := 5) dX11_findWays_77 rfl <|
    aw_iload_n (pc := 79) C (i := 3) dX11_findWays_79 rfl rfl <|
    aw_isub (pc := 80) C dX11_findWays_80 <|
    aw_istoreV (pc := 81) C (i := 6) (fun x2 => [(0, .ref p0), (1, .int v1), (2, .int v2), (3, .int v3), (4, .int v4), (5, .int s0), (6, .int x2)]) dX11_findWays_81 (by decide) (fun _ => rfl) fun x2 =>
    aw_iload (pc := 83) C (i := 6) dX11_findWays_83 rfl <|
    aw_if_lt (pc := 85) C (tgt := 106) dX11_findWays_85 rfl (fun _ =>
    aw_drop [0, 1, 2, 3, 4] (aX11_findWays_j106 C p0 n0 hA0 v1 v2 v3 v4 K30 hK30 K52 hK52 h)) (fun _ =>
    aw_iload (pc := 88) C (i := 6) dX11_findWays_88 rfl <|
    aw_aload_n (pc := 90) C (i := 0) dX11_findWays_90 rfl rfl <|
    aw_alenI (pc := 91) C (v := (Int32.ofNat n0)) (by decide) dX11_findWays_91 hA0 rfl rfl <|
    aw_icmp_ge (pc := 92) C (tgt := 106) dX11_findWays_92 rfl (fun _ =>
    aw_drop [0, 1, 2, 3, 4] (aX11_findWays_j106 C p0 n0 hA0 v1 v2 v3 v4 K30 hK30 K52 hK52 h)) (fun _ =>
    aw_aload_n (pc := 95) C (i := 0) dX11_findWays_95 rfl rfl <|
    aw_iload (pc := 96) C (i := 5) dX11_findWays_96 rfl <|
    aw_dup2 (pc := 98) C dX11_findWays_98 rfl rfl <|
    aw_lald (pc := 99) C dX11_findWays_99 hA0 rfl <|
    aw_aload_n (pc := 100) C (i := 0) dX11_findWays_100 rfl rfl <|
    aw_iload (pc := 101) C (i := 6) dX11_findWays_101 rfl <|
    aw_lald (pc := 103) C dX11_findWays_103 hA0 rfl <|
    aw_ladd (pc := 104) C dX11_findWays_104 <|
    aw_last (pc := 105) C dX11_findWays_105 hA0 rfl fun h4 =>
    aw_drop [0, 1, 2, 3, 4] (aX11_findWays_j106 C p0 n0 hA0 v1 v2 v3 v4 K30 hK30 K52 hK52 h4)))
def X11_findWays_l52 (p0 : Nat) (n0 : Nat) (v1 : Int32) (v2 : Int32) (v3 : Int32) (K30 : Int32 → AH → Option (Unit × AH)) : Nat → Int32 → AH → Option (Unit × AH)
  | 0, _, _ => none
  | n + 1, v4, h =>
    if (Int32.ofNat n0) ≤ v4 then (vl (v2 + 1) fun x1 =>
    K30 x1 h)
    else (if v3 ≤ 0 then (X11_findWays_j75 p0 n0 v1 v2 v3 v4 K30 (X11_findWays_l52 p0 n0 v1 v2 v3 K30 n) v4 h)
    else (X11_findWays_j75 p0 n0 v1 v2 v3 v4 K30 (X11_findWays_l52 p0 n0 v1 v2 v3 K30 n) (((Int32.ofNat n0) - 1) - v4) h))
set_option maxRecDepth 100000 in
theorem aX11_findWays_l52 {X : MCx} {yd : Dyn} {A : Nat → Prop} (C : OK X cX11_findWays RX11 7 none rmX11_findWays A) (p0 : Nat) (n0 : Nat) (hA0 : ZR.1[p0]? = some (.inl (1, 1, n0))) (v1 : Int32) (v2 : Int32) (v3 : Int32) (K30 : Int32 → AH → Option (Unit × AH)) (hK30 : ∀ (w2 : Int32) (h : AH), AW X 7 ZR yd A 0 0 (QF X rmX11_findWays ZR yd rvV A) 30 [(0, .ref p0), (1, .int v1), (2, .int w2)] [] h (K30 w2 h)) : ∀ (n : Nat) (v4 : Int32) (h : AH), AW X 7 ZR yd A 0 0 (QF X rmX11_findWays ZR yd rvV A) 52 [(0, .ref p0), (1, .int v1), (2, .int v2), (3, .int v3), (4, .int v4)] [] h (X11_findWays_l52 p0 n0 v1 v2 v3 K30 n v4 h) := by
  intro n
  induction n with
  | zero => intro v4 h; exact aw_none
  | succ n ih =>
    intro v4 h
    exact aw_iload (pc := 52) C (i := 4) dX11_findWays_52 rfl <|
    aw_aload_n (pc := 54) C (i := 0) dX11_findWays_54 rfl rfl <|
    aw_alenI (pc := 55) C (v := (Int32.ofNat n0)) (by decide) dX11_findWays_55 hA0 rfl rfl <|
    aw_icmp_ge (pc := 56) C (tgt := 112) dX11_findWays_56 rfl (fun _ =>
    aw_iincV (pc := 112) C (i := 2) (cst := 1) (fun x1 => [(0, .ref p0), (1, .int v1), (2, .int x1), (3, .int v3), (4, .int v4)]) dX11_findWays_112 rfl rfl (by decide) (fun _ => rfl) fun x1 =>
    aw_goto (pc := 115) C (tgt := 30) dX11_findWays_115 rfl <|
    aw_drop [0, 1, 2] (hK30 x1 h)) (fun _ =>
    aw_iload_n (pc := 59) C (i := 3) dX11_findWays_59 rfl rfl <|
    aw_if_le (pc := 60) C (tgt := 73) dX11_findWays_60 rfl (fun _ =>
    aw_iload (pc := 73) C (i := 4) dX11_findWays_73 rfl <|
    (aX11_findWays_j75 C p0 n0 hA0 v1 v2 v3 v4 K30 hK30 (X11_findWays_l52 p0 n0 v1 v2 v3 K30 n) ih v4 h)) (fun _ =>
    aw_aload_n (pc := 63) C (i := 0) dX11_findWays_63 rfl rfl <|
    aw_alenI (pc := 64) C (v := (Int32.ofNat n0)) (by decide) dX11_findWays_64 hA0 rfl rfl <|
    aw_iconst (pc := 65) C (v := 1) dX11_findWays_65 rfl <|
    aw_isub (pc := 66) C dX11_findWays_66 <|
    aw_iload (pc := 67) C (i := 4) dX11_findWays_67 rfl <|
    aw_isub (pc := 69) C dX11_findWays_69 <|
    aw_goto (pc := 70) C (tgt := 75) dX11_findWays_70 rfl <|
    (aX11_findWays_j75 C p0 n0 hA0 v1 v2 v3 v4 K30 hK30 (X11_findWays_l52 p0 n0 v1 v2 v3 K30 n) ih (((Int32.ofNat n0) - 1) - v4) h)))
def X11_findWays_j48 (p0 : Nat) (n0 : Nat) (v1 : Int32) (v2 : Int32) (K30 : Int32 → AH → Option (Unit × AH)) (s0 : Int32) (h : AH) : Option (Unit × AH) :=
    X11_findWays_l52 p0 n0 v1 v2 s0 K30 FU 0 h
set_option maxRecDepth 100000 in
theorem aX11_findWays_j48 {X : MCx} {yd : Dyn} {A : Nat → Prop} (C : OK X cX11_findWays RX11 7 none rmX11_findWays A) (p0 : Nat) (n0 : Nat) (hA0 : ZR.1[p0]? = some (.inl (1, 1, n0))) (v1 : Int32) (v2 : Int32) (K30 : Int32 → AH → Option (Unit × AH)) (hK30 : ∀ (w2 : Int32) (h : AH), AW X 7 ZR yd A 0 0 (QF X rmX11_findWays ZR yd rvV A) 30 [(0, .ref p0), (1, .int v1), (2, .int w2)] [] h (K30 w2 h)) (s0 : Int32) (h : AH) : AW X 7 ZR yd A 0 0 (QF X rmX11_findWays ZR yd rvV A) 48 [(0, .ref p0), (1, .int v1), (2, .int v2)] [.int s0] h (X11_findWays_j48 p0 n0 v1 v2 K30 s0 h) := by
    exact aw_istore_n (pc := 48) C (i := 3) (lv' := [(0, .ref p0), (1, .int v1), (2, .int v2), (3, .int s0)]) dX11_findWays_48 rfl (by decide) rfl <|
    aw_iconst (pc := 49) C (v := 0) dX11_findWays_49 rfl <|
    aw_istore (pc := 50) C (i := 4) (lv' := [(0, .ref p0), (1, .int v1), (2, .int v2), (3, .int s0), (4, .int 0)]) dX11_findWays_50 (by decide) rfl <|
    (aX11_findWays_l52 C p0 n0 hA0 v1 v2 s0 K30 hK30 FU 0 h)
def X11_findWays_l30 (p0 : Nat) (n0 : Nat) (v1 : Int32) : Nat → Int32 → AH → Option (Unit × AH)
  | 0, _, _ => none
  | n + 1, v2, h =>
    if (2 * v1) ≤ v2 then (some ((), h))
    else (if (rm32 v2 2) = 0 then (X11_findWays_j48 p0 n0 v1 v2 (X11_findWays_l30 p0 n0 v1 n) 1 h)
    else (X11_findWays_j48 p0 n0 v1 v2 (X11_findWays_l30 p0 n0 v1 n) (-1) h))
set_option maxRecDepth 100000 in
theorem aX11_findWays_l30 {X : MCx} {yd : Dyn} {A : Nat → Prop} (C : OK X cX11_findWays RX11 7 none rmX11_findWays A) (p0 : Nat) (n0 : Nat) (hA0 : ZR.1[p0]? = some (.inl (1, 1, n0))) (v1 : Int32) : ∀ (n : Nat) (v2 : Int32) (h : AH), AW X 7 ZR yd A 0 0 (QF X rmX11_findWays ZR yd rvV A) 30 [(0, .ref p0), (1, .int v1), (2, .int v2)] [] h (X11_findWays_l30 p0 n0 v1 n v2 h) := by
  intro n
  induction n with
  | zero => intro v2 h; exact aw_none
  | succ n ih =>
    intro v2 h
    exact aw_iload_n (pc := 30) C (i := 2) dX11_findWays_30 rfl rfl <|
    aw_iconst (pc := 31) C (v := 2) dX11_findWays_31 rfl <|
    aw_iload_n (pc := 32) C (i := 1) dX11_findWays_32 rfl rfl <|
    aw_imul (pc := 33) C dX11_findWays_33 <|
    aw_icmp_ge (pc := 34) C (tgt := 118) dX11_findWays_34 rfl (fun _ =>
    aw_vret (pc := 118) C dX11_findWays_118 rfl rfl) (fun _ =>
    aw_iload_n (pc := 37) C (i := 2) dX11_findWays_37 rfl rfl <|
    aw_iconst (pc := 38) C (v := 2) dX11_findWays_38 rfl <|
    aw_iremK (pc := 39) C dX11_findWays_39 (by decide) <|
    aw_if_ne (pc := 40) C (tgt := 47) dX11_findWays_40 rfl (fun _ =>
    aw_iconst (pc := 43) C (v := 1) dX11_findWays_43 rfl <|
    aw_goto (pc := 44) C (tgt := 48) dX11_findWays_44 rfl <|
    (aX11_findWays_j48 C p0 n0 hA0 v1 v2 (X11_findWays_l30 p0 n0 v1 n) ih 1 h)) (fun _ =>
    aw_iconst (pc := 47) C (v := (-1)) dX11_findWays_47 rfl <|
    (aX11_findWays_j48 C p0 n0 hA0 v1 v2 (X11_findWays_l30 p0 n0 v1 n) ih (-1) h)))
def X11_findWays_j21 (p0 : Nat) (n0 : Nat) (v1 : Int32) (v2 : Int32) (K2 : Int32 → AH → Option (Unit × AH)) (s0 : Int64) (s1 : Int32) (h : AH) : Option (Unit × AH) :=
    ck s1 n0 (vl (sL h p0 s1.toNatClampNeg s0) fun h5 =>
    vl (v2 + 1) fun x6 =>
    K2 x6 h5)
set_option maxRecDepth 100000 in
theorem aX11_findWays_j21 {X : MCx} {yd : Dyn} {A : Nat → Prop} (C : OK X cX11_findWays RX11 7 none rmX11_findWays A) (p0 : Nat) (n0 : Nat) (hA0 : ZR.1[p0]? = some (.inl (1, 1, n0))) (v1 : Int32) (v2 : Int32) (K2 : Int32 → AH → Option (Unit × AH)) (hK2 : ∀ (w2 : Int32) (h : AH), AW X 7 ZR yd A 0 0 (QF X rmX11_findWays ZR yd rvV A) 2 [(0, .ref p0), (1, .int v1), (2, .int w2)] [] h (K2 w2 h)) (s0 : Int64) (s1 : Int32) (h : AH) : AW X 7 ZR yd A 0 0 (QF X rmX11_findWays ZR yd rvV A) 21 [(0, .ref p0), (1, .int v1), (2, .int v2)] [.long s0, .int s1, .ref p0] h (X11_findWays_j21 p0 n0 v1 v2 K2 s0 s1 h) := by
    exact aw_last (pc := 21) C dX11_findWays_21 hA0 rfl fun h5 =>
    aw_iincV (pc := 22) C (i := 2) (cst := 1) (fun x6 => [(0, .ref p0), (1, .int v1), (2, .int x6)]) dX11_findWays_22 rfl rfl (by decide) (fun _ => rfl) fun x6 =>
    aw_goto (pc := 25) C (tgt := 2) dX11_findWays_25 rfl <|
    (hK2 x6 h5)
def X11_findWays_l2 (p0 : Nat) (n0 : Nat) (v1 : Int32) : Nat → Int32 → AH → Option (Unit × AH)
  | 0, _, _ => none
  | n + 1, v2, h =>
    if (Int32.ofNat n0) ≤ v2 then (X11_findWays_l30 p0 n0 v1 FU 0 h)
    else (if v2 = 20 then (X11_findWays_j21 p0 n0 v1 v2 (X11_findWays_l2 p0 n0 v1 n) 1 v2 h)
    else (X11_findWays_j21 p0 n0 v1 v2 (X11_findWays_l2 p0 n0 v1 n) 0 v2 h))
set_option maxRecDepth 100000 in
theorem aX11_findWays_l2 {X : MCx} {yd : Dyn} {A : Nat → Prop} (C : OK X cX11_findWays RX11 7 none rmX11_findWays A) (p0 : Nat) (n0 : Nat) (hA0 : ZR.1[p0]? = some (.inl (1, 1, n0))) (v1 : Int32) : ∀ (n : Nat) (v2 : Int32) (h : AH), AW X 7 ZR yd A 0 0 (QF X rmX11_findWays ZR yd rvV A) 2 [(0, .ref p0), (1, .int v1), (2, .int v2)] [] h (X11_findWays_l2 p0 n0 v1 n v2 h) := by
  intro n
  induction n with
  | zero => intro v2 h; exact aw_none
  | succ n ih =>
    intro v2 h
    exact aw_iload_n (pc := 2) C (i := 2) dX11_findWays_2 rfl rfl <|
    aw_aload_n (pc := 3) C (i := 0) dX11_findWays_3 rfl rfl <|
    aw_alenI (pc := 4) C (v := (Int32.ofNat n0)) (by decide) dX11_findWays_4 hA0 rfl rfl <|
    aw_icmp_ge (pc := 5) C (tgt := 28) dX11_findWays_5 rfl (fun _ =>
    aw_iconst (pc := 28) C (v := 0) dX11_findWays_28 rfl <|
    aw_istore_n (pc := 29) C (i := 2) (lv' := [(0, .ref p0), (1, .int v1), (2, .int 0)]) dX11_findWays_29 rfl (by decide) rfl <|
    (aX11_findWays_l30 C p0 n0 hA0 v1 FU 0 h)) (fun _ =>
    aw_aload_n (pc := 8) C (i := 0) dX11_findWays_8 rfl rfl <|
    aw_iload_n (pc := 9) C (i := 2) dX11_findWays_9 rfl rfl <|
    aw_iload_n (pc := 10) C (i := 2) dX11_findWays_10 rfl rfl <|
    aw_bipush (pc := 11) C (v := 20) dX11_findWays_11 rfl <|
    aw_icmp_ne (pc := 13) C (tgt := 20) dX11_findWays_13 rfl (fun _ =>
    aw_lconst (pc := 16) C (v := 1) dX11_findWays_16 rfl <|
    aw_goto (pc := 17) C (tgt := 21) dX11_findWays_17 rfl <|
    (aX11_findWays_j21 C p0 n0 hA0 v1 v2 (X11_findWays_l2 p0 n0 v1 n) ih 1 v2 h)) (fun _ =>
    aw_lconst (pc := 20) C (v := 0) dX11_findWays_20 rfl <|
    (aX11_findWays_j21 C p0 n0 hA0 v1 v2 (X11_findWays_l2 p0 n0 v1 n) ih 0 v2 h)))
def X11_findWays (p0 : Nat) (n0 : Nat) (v1 : Int32) (h : AH) : Option (Unit × AH) :=
    X11_findWays_l2 p0 n0 v1 FU 0 h
set_option maxRecDepth 100000 in
theorem c_X11_findWays (l : Launch) (p0 : Nat) (n0 : Nat) (hA0 : ZR.1[p0]? = some (.inl (1, 1, n0))) (v1 : Int32) : MC l yX11_findWays cX11_findWays 7 none rmX11_findWays ZR [.ref p0, .int v1] rvV (X11_findWays p0 n0 v1) :=
  MC.of (own := RX11) (by decide +kernel) rfl (Nat.le_of_ble_eq_true rfl) fun X yd A h _ C =>
    aw_iconst (pc := 0) C (v := 0) dX11_findWays_0 rfl <|
    aw_istore_n (pc := 1) C (i := 2) (lv' := [(0, .ref p0), (1, .int v1), (2, .int 0)]) dX11_findWays_1 rfl (by decide) rfl <|
    (aX11_findWays_l2 C p0 n0 hA0 v1 FU 0 h)

abbrev rmX11_countedOne : Room := { frames := 2, cells := 0, slots := 0, locals := 45 }
def X11_countedOne (v1 : Int32) (v2 : Int32) (v3 : Int32) (v4 : Int32) (v5 : Int32) (h : AH) : Option (Int32 × AH) :=
    vl v4 fun y1 =>
    if y1 = 0 then (if v2 = v5 then (some (1, h))
    else (some (0, h)))
    else if y1 = 1 then (if 0 ≤ v2 then (some (0, h))
    else (some (1, h)))
    else if y1 = 2 then (if 0 ≤ v2 then (bd (X11_lengthOf v1 v2 v3 h) fun r4 h5 =>
    some (r4, h5))
    else (some (0, h)))
    else (if v2 < 0 then (some (0, h))
    else (bd (X11_lengthOf v1 v2 v3 h) fun r7 h8 =>
    if r7 ≤ v5 then (some (0, h8))
    else (some (1, h8))))
set_option maxRecDepth 100000 in
theorem c_X11_countedOne (l : Launch) (v1 : Int32) (v2 : Int32) (v3 : Int32) (v4 : Int32) (v5 : Int32) : MC l yX11_countedOne cX11_countedOne 6 (some .int) rmX11_countedOne ZR [.ref 0, .int v1, .int v2, .int v3, .int v4, .int v5] rvI (X11_countedOne v1 v2 v3 v4 v5) :=
  MC.of (own := RX11) (by decide +kernel) rfl (Nat.le_of_ble_eq_true rfl) fun X yd A h _ C =>
    aw_iload (pc := 0) C (i := 4) dX11_countedOne_0 rfl <|
    aw_vlI fun y1 =>
    aw_if (fun c2 => aw_tswA (pc := 2) C (off := 26) (tg := 28) 0 dX11_countedOne_2 (by rw [c2]; rfl) (by decide) (by decide) rfl rfl (aw_iload_n (pc := 28) C (i := 2) dX11_countedOne_28 rfl rfl <|
    aw_iload (pc := 29) C (i := 5) dX11_countedOne_29 rfl <|
    aw_icmp_ne (pc := 31) C (tgt := 38) dX11_countedOne_31 rfl (fun _ =>
    aw_iconst (pc := 34) C (v := 1) dX11_countedOne_34 rfl <|
    aw_goto (pc := 35) C (tgt := 39) dX11_countedOne_35 rfl <|
    aw_iret (pc := 39) C dX11_countedOne_39 rfl rfl) (fun _ =>
    aw_iconst (pc := 38) C (v := 0) dX11_countedOne_38 rfl <|
    aw_iret (pc := 39) C dX11_countedOne_39 rfl rfl))) (fun c2 =>
    aw_if (fun c3 => aw_tswA (pc := 2) C (off := 38) (tg := 40) 1 dX11_countedOne_2 (by rw [c3]; rfl) (by decide) (by decide) rfl rfl (aw_iload_n (pc := 40) C (i := 2) dX11_countedOne_40 rfl rfl <|
    aw_if_ge (pc := 41) C (tgt := 48) dX11_countedOne_41 rfl (fun _ =>
    aw_iconst (pc := 48) C (v := 0) dX11_countedOne_48 rfl <|
    aw_iret (pc := 49) C dX11_countedOne_49 rfl rfl) (fun _ =>
    aw_iconst (pc := 44) C (v := 1) dX11_countedOne_44 rfl <|
    aw_goto (pc := 45) C (tgt := 49) dX11_countedOne_45 rfl <|
    aw_iret (pc := 49) C dX11_countedOne_49 rfl rfl))) (fun c3 =>
    aw_if (fun c6 => aw_tswA (pc := 2) C (off := 48) (tg := 50) 2 dX11_countedOne_2 (by rw [c6]; rfl) (by decide) (by decide) rfl rfl (aw_iload_n (pc := 50) C (i := 2) dX11_countedOne_50 rfl rfl <|
    aw_if_ge (pc := 51) C (tgt := 58) dX11_countedOne_51 rfl (fun _ =>
    aw_aload_n (pc := 58) C (i := 0) dX11_countedOne_58 rfl rfl <|
    aw_iload_n (pc := 59) C (i := 1) dX11_countedOne_59 rfl rfl <|
    aw_iload_n (pc := 60) C (i := 2) dX11_countedOne_60 rfl rfl <|
    aw_iload_n (pc := 61) C (i := 3) dX11_countedOne_61 rfl rfl <|
    aw_callF (pc := 62) C (cr_V (rest := []) (F := (X11_lengthOf v1 v2 v3)) C (c_X11_lengthOf X.2.1 v1 v2 v3) dX11_countedOne_62 mf_X11_lengthOf ml_X11_163 im_X11_lengthOf se_X11_lengthOf sR_0 rfl ⟨(Nat.le_of_ble_eq_true rfl), (Nat.le_of_ble_eq_true rfl)⟩ rfl rfl (Nat.le_of_ble_eq_true rfl)) rfl rfl rfl (Nat.zero_le _) (Nat.zero_le _) fun r4 h5 =>
    aw_iret (pc := 65) C dX11_countedOne_65 rfl rfl) (fun _ =>
    aw_iconst (pc := 54) C (v := 0) dX11_countedOne_54 rfl <|
    aw_goto (pc := 55) C (tgt := 65) dX11_countedOne_55 rfl <|
    aw_iret (pc := 65) C dX11_countedOne_65 rfl rfl))) (fun c6 =>
    aw_tswD (pc := 2) C (N := 3) (td := 66) [0, 1, 2] dX11_countedOne_2 (List.forall_mem_cons.mpr ⟨ti_ne c2 rfl, List.forall_mem_cons.mpr ⟨ti_ne c3 rfl, List.forall_mem_cons.mpr ⟨ti_ne c6 rfl, fun _ hz => by cases hz⟩⟩⟩) rfl (by decide) rfl (aw_iload_n (pc := 66) C (i := 2) dX11_countedOne_66 rfl rfl <|
    aw_if_lt (pc := 67) C (tgt := 86) dX11_countedOne_67 rfl (fun _ =>
    aw_iconst (pc := 86) C (v := 0) dX11_countedOne_86 rfl <|
    aw_iret (pc := 87) C dX11_countedOne_87 rfl rfl) (fun _ =>
    aw_aload_n (pc := 70) C (i := 0) dX11_countedOne_70 rfl rfl <|
    aw_iload_n (pc := 71) C (i := 1) dX11_countedOne_71 rfl rfl <|
    aw_iload_n (pc := 72) C (i := 2) dX11_countedOne_72 rfl rfl <|
    aw_iload_n (pc := 73) C (i := 3) dX11_countedOne_73 rfl rfl <|
    aw_callF (pc := 74) C (cr_V (rest := []) (F := (X11_lengthOf v1 v2 v3)) C (c_X11_lengthOf X.2.1 v1 v2 v3) dX11_countedOne_74 mf_X11_lengthOf ml_X11_163 im_X11_lengthOf se_X11_lengthOf sR_0 rfl ⟨(Nat.le_of_ble_eq_true rfl), (Nat.le_of_ble_eq_true rfl)⟩ rfl rfl (Nat.le_of_ble_eq_true rfl)) rfl rfl rfl (Nat.zero_le _) (Nat.zero_le _) fun r7 h8 =>
    aw_iload (pc := 77) C (i := 5) dX11_countedOne_77 rfl <|
    aw_icmp_le (pc := 79) C (tgt := 86) dX11_countedOne_79 rfl (fun _ =>
    aw_iconst (pc := 86) C (v := 0) dX11_countedOne_86 rfl <|
    aw_iret (pc := 87) C dX11_countedOne_87 rfl rfl) (fun _ =>
    aw_iconst (pc := 82) C (v := 1) dX11_countedOne_82 rfl <|
    aw_goto (pc := 83) C (tgt := 87) dX11_countedOne_83 rfl <|
    aw_iret (pc := 87) C dX11_countedOne_87 rfl rfl))))))

abbrev rmX11_counted : Room := { frames := 3, cells := 0, slots := 0, locals := 70 }
def X11_counted_j175  (v1 : Int32) (v2 : Int32) (v3 : Int32) (v4 : Int32) (v5 : Int32) (v6 : Int64) (v8 : Int32) (K37 : Int64 → Int32 → AH → Option (Int64 × AH)) (h : AH) : Option (Int64 × AH) :=
    vl (v8 + 1) fun x14 =>
    K37 v6 x14 h
set_option maxRecDepth 100000 in
theorem aX11_counted_j175 {X : MCx} {yd : Dyn} {A : Nat → Prop} (C : OK X cX11_counted RX11 13 (some .long) rmX11_counted A)  (v1 : Int32) (v2 : Int32) (v3 : Int32) (v4 : Int32) (v5 : Int32) (v6 : Int64) (v8 : Int32) (K37 : Int64 → Int32 → AH → Option (Int64 × AH)) (hK37 : ∀ (w6 : Int64) (w8 : Int32) (h : AH), AW X 13 ZR yd A 0 0 (QF X rmX11_counted ZR yd rvL A) 37 [(0, .ref 0), (1, .int v1), (2, .int v2), (3, .int v3), (4, .int v4), (5, .int v5), (6, .long w6), (8, .int w8)] [] h (K37 w6 w8 h)) (h : AH) : AW X 13 ZR yd A 0 0 (QF X rmX11_counted ZR yd rvL A) 175 [(0, .ref 0), (1, .int v1), (2, .int v2), (3, .int v3), (4, .int v4), (5, .int v5), (6, .long v6), (8, .int v8)] [] h (X11_counted_j175 v1 v2 v3 v4 v5 v6 v8 K37 h) := by
    exact aw_iincV (pc := 175) C (i := 8) (cst := 1) (fun x14 => [(0, .ref 0), (1, .int v1), (2, .int v2), (3, .int v3), (4, .int v4), (5, .int v5), (6, .long v6), (8, .int x14)]) dX11_counted_175 rfl rfl (by decide) (fun _ => rfl) fun x14 =>
    aw_goto (pc := 178) C (tgt := 37) dX11_counted_178 rfl <|
    (hK37 v6 x14 h)
def X11_counted_j162  (v1 : Int32) (v2 : Int32) (v3 : Int32) (v4 : Int32) (v5 : Int32) (v8 : Int32) (K37 : Int64 → Int32 → AH → Option (Int64 × AH)) (s0 : Int32) (s1 : Int32) (s2 : Int32) (s4 : Int64) (s5 : Int64) (h : AH) : Option (Int64 × AH) :=
    bd (X11_countedOne s2 s1 (s0 / 4) v3 v4 h) fun r11 h12 =>
    vl (s5 + (s4 * r11.toInt64)) fun x13 =>
    X11_counted_j175 v1 v2 v3 v4 v5 x13 v8 K37 h12
set_option maxRecDepth 100000 in
theorem aX11_counted_j162 {X : MCx} {yd : Dyn} {A : Nat → Prop} (C : OK X cX11_counted RX11 13 (some .long) rmX11_counted A)  (v1 : Int32) (v2 : Int32) (v3 : Int32) (v4 : Int32) (v5 : Int32) (v8 : Int32) (K37 : Int64 → Int32 → AH → Option (Int64 × AH)) (hK37 : ∀ (w6 : Int64) (w8 : Int32) (h : AH), AW X 13 ZR yd A 0 0 (QF X rmX11_counted ZR yd rvL A) 37 [(0, .ref 0), (1, .int v1), (2, .int v2), (3, .int v3), (4, .int v4), (5, .int v5), (6, .long w6), (8, .int w8)] [] h (K37 w6 w8 h)) (s0 : Int32) (s1 : Int32) (s2 : Int32) (s4 : Int64) (s5 : Int64) (h : AH) : AW X 13 ZR yd A 0 0 (QF X rmX11_counted ZR yd rvL A) 162 [(0, .ref 0), (1, .int v1), (2, .int v2), (3, .int v3), (4, .int v4), (5, .int v5), (8, .int v8)] [.int s0, .int s1, .int s2, .ref 0, .long s4, .long s5] h (X11_counted_j162 v1 v2 v3 v4 v5 v8 K37 s0 s1 s2 s4 s5 h) := by
    exact aw_iconst (pc := 162) C (v := 4) dX11_counted_162 rfl <|
    aw_idivK (pc := 163) C dX11_counted_163 (by decide) <|
    aw_iload_n (pc := 164) C (i := 3) dX11_counted_164 rfl rfl <|
    aw_iload (pc := 165) C (i := 4) dX11_counted_165 rfl <|
    aw_callF (pc := 167) C (cr_V (rest := [.long s4, .long s5]) (F := (X11_countedOne s2 s1 (s0 / 4) v3 v4)) C (c_X11_countedOne X.2.1 s2 s1 (s0 / 4) v3 v4) dX11_counted_167 mf_X11_countedOne ml_X11_230 im_X11_countedOne se_X11_countedOne sR_0 rfl ⟨(Nat.le_of_ble_eq_true rfl), (Nat.le_of_ble_eq_true rfl)⟩ rfl rfl (Nat.le_of_ble_eq_true rfl)) rfl rfl rfl (Nat.zero_le _) (Nat.zero_le _) fun r11 h12 =>
    aw_i2l (pc := 170) C dX11_counted_170 <|
    aw_lmul (pc := 171) C dX11_counted_171 <|
    aw_ladd (pc := 172) C dX11_counted_172 <|
    aw_lstoreV (pc := 173) C (i := 6) (fun x13 => [(0, .ref 0), (1, .int v1), (2, .int v2), (3, .int v3), (4, .int v4), (5, .int v5), (6, .long x13), (8, .int v8)]) dX11_counted_173 (by decide) (fun _ => rfl) fun x13 =>
    (aX11_counted_j175 C v1 v2 v3 v4 v5 x13 v8 K37 hK37 h12)
def X11_counted_j116  (v1 : Int32) (v2 : Int32) (v3 : Int32) (v4 : Int32) (v5 : Int32) (v6 : Int64) (v8 : Int32) (v9 : Int64) (v11 : Int32) (K37 : Int64 → Int32 → AH → Option (Int64 × AH)) (s0 : Int32) (h : AH) : Option (Int64 × AH) :=
    ck v1 4 (vl (v11 - (s0 + ((h.1 6 v1.toNatClampNeg) * ((rm32 v8 41) - 20)))) fun x10 =>
    if 0 ≤ s0 then (X11_counted_j162 v1 v2 v3 v4 v5 v8 K37 s0 x10 v1 v9 v6 h)
    else (X11_counted_j162 v1 v2 v3 v4 v5 v8 K37 (-s0) x10 v1 v9 v6 h))
set_option maxRecDepth 100000 in
theorem aX11_counted_j116 {X : MCx} {yd : Dyn} {A : Nat → Prop} (C : OK X cX11_counted RX11 13 (some .long) rmX11_counted A)  (v1 : Int32) (v2 : Int32) (v3 : Int32) (v4 : Int32) (v5 : Int32) (v6 : Int64) (v8 : Int32) (v9 : Int64) (v11 : Int32) (K37 : Int64 → Int32 → AH → Option (Int64 × AH)) (hK37 : ∀ (w6 : Int64) (w8 : Int32) (h : AH), AW X 13 ZR yd A 0 0 (QF X rmX11_counted ZR yd rvL A) 37 [(0, .ref 0), (1, .int v1), (2, .int v2), (3, .int v3), (4, .int v4), (5, .int v5), (6, .long w6), (8, .int w8)] [] h (K37 w6 w8 h)) (s0 : Int32) (h : AH) : AW X 13 ZR yd A 0 0 (QF X rmX11_counted ZR yd rvL A) 116 [(0, .ref 0), (1, .int v1), (2, .int v2), (3, .int v3), (4, .int v4), (5, .int v5), (6, .long v6), (8, .int v8), (9, .long v9), (11, .int v11)] [.int s0] h (X11_counted_j116 v1 v2 v3 v4 v5 v6 v8 v9 v11 K37 s0 h) := by
    exact aw_istore (pc := 116) C (i := 12) (lv' := [(0, .ref 0), (1, .int v1), (2, .int v2), (3, .int v3), (4, .int v4), (5, .int v5), (6, .long v6), (8, .int v8), (9, .long v9), (11, .int v11), (12, .int s0)]) dX11_counted_116 (by decide) rfl <|
    aw_iload (pc := 118) C (i := 11) dX11_counted_118 rfl <|
    aw_iload (pc := 120) C (i := 12) dX11_counted_120 rfl <|
    aw_aload_n (pc := 122) C (i := 0) dX11_counted_122 rfl rfl <|
    aw_getR (pc := 123) C (b := 6) dX11_counted_123 fl_X11_25 sR_0 rfl rR_0_5 <|
    aw_iload_n (pc := 126) C (i := 1) dX11_counted_126 rfl rfl <|
    aw_iald (pc := 127) C dX11_counted_127 sR_6 rfl <|
    aw_iload (pc := 128) C (i := 8) dX11_counted_128 rfl <|
    aw_bipush (pc := 130) C (v := 41) dX11_counted_130 rfl <|
    aw_iremK (pc := 132) C dX11_counted_132 (by decide) <|
    aw_bipush (pc := 133) C (v := 20) dX11_counted_133 rfl <|
    aw_isub (pc := 135) C dX11_counted_135 <|
    aw_imul (pc := 136) C dX11_counted_136 <|
    aw_iadd (pc := 137) C dX11_counted_137 <|
    aw_isub (pc := 138) C dX11_counted_138 <|
    aw_istoreV (pc := 139) C (i := 11) (fun x10 => [(0, .ref 0), (1, .int v1), (2, .int v2), (3, .int v3), (4, .int v4), (5, .int v5), (6, .long v6), (8, .int v8), (9, .long v9), (11, .int x10), (12, .int s0)]) dX11_counted_139 (by decide) (fun _ => rfl) fun x10 =>
    aw_lload (pc := 141) C (i := 6) dX11_counted_141 rfl <|
    aw_lload (pc := 143) C (i := 9) dX11_counted_143 rfl <|
    aw_aload_n (pc := 145) C (i := 0) dX11_counted_145 rfl rfl <|
    aw_iload_n (pc := 146) C (i := 1) dX11_counted_146 rfl rfl <|
    aw_iload (pc := 147) C (i := 11) dX11_counted_147 rfl <|
    aw_iload (pc := 149) C (i := 12) dX11_counted_149 rfl <|
    aw_if_ge (pc := 151) C (tgt := 160) dX11_counted_151 rfl (fun _ =>
    aw_iload (pc := 160) C (i := 12) dX11_counted_160 rfl <|
    aw_drop [0, 1, 2, 3, 4, 5, 7] (aX11_counted_j162 C v1 v2 v3 v4 v5 v8 K37 hK37 s0 x10 v1 v9 v6 h)) (fun _ =>
    aw_iload (pc := 154) C (i := 12) dX11_counted_154 rfl <|
    aw_ineg (pc := 156) C dX11_counted_156 <|
    aw_goto (pc := 157) C (tgt := 162) dX11_counted_157 rfl <|
    aw_drop [0, 1, 2, 3, 4, 5, 7] (aX11_counted_j162 C v1 v2 v3 v4 v5 v8 K37 hK37 (-s0) x10 v1 v9 v6 h))
def X11_counted_l37  (v1 : Int32) (v2 : Int32) (v3 : Int32) (v4 : Int32) (v5 : Int32) : Nat → Int64 → Int32 → AH → Option (Int64 × AH)
  | 0, _, _, _ => none
  | n + 1, v6, v8, h =>
    if 1681 ≤ v8 then (some (v6, h))
    else (ck (v8 / 41) 41 (ck (rm32 v8 41) 41 (vl ((h.2.1 18 (v8 / 41).toNatClampNeg) * (h.2.1 19 (rm32 v8 41).toNatClampNeg)) fun x6 =>
    if (lcmpV x6 0) = 0 then (X11_counted_j175 v1 v2 v3 v4 v5 v6 v8 (X11_counted_l37 v1 v2 v3 v4 v5 n) h)
    else (ck v1 4 (vl (v2 - ((h.1 6 v1.toNatClampNeg) * ((v8 / 41) - 20))) fun x7 =>
    if v5 = 0 then (X11_counted_j116 v1 v2 v3 v4 v5 v6 v8 x6 x7 (X11_counted_l37 v1 v2 v3 v4 v5 n) 0 h)
    else (bd (X11_aimOf v1 h) fun r8 h9 =>
    X11_counted_j116 v1 v2 v3 v4 v5 v6 v8 x6 x7 (X11_counted_l37 v1 v2 v3 v4 v5 n) ((x7 - r8) / 2) h9))))))
set_option maxRecDepth 100000 in
theorem aX11_counted_l37 {X : MCx} {yd : Dyn} {A : Nat → Prop} (C : OK X cX11_counted RX11 13 (some .long) rmX11_counted A)  (v1 : Int32) (v2 : Int32) (v3 : Int32) (v4 : Int32) (v5 : Int32) : ∀ (n : Nat) (v6 : Int64) (v8 : Int32) (h : AH), AW X 13 ZR yd A 0 0 (QF X rmX11_counted ZR yd rvL A) 37 [(0, .ref 0), (1, .int v1), (2, .int v2), (3, .int v3), (4, .int v4), (5, .int v5), (6, .long v6), (8, .int v8)] [] h (X11_counted_l37 v1 v2 v3 v4 v5 n v6 v8 h) := by
  intro n
  induction n with
  | zero => intro v6 v8 h; exact aw_none
  | succ n ih =>
    intro v6 v8 h
    exact aw_iload (pc := 37) C (i := 8) dX11_counted_37 rfl <|
    aw_sipush (pc := 39) C (v := 1681) dX11_counted_39 rfl <|
    aw_icmp_ge (pc := 42) C (tgt := 181) dX11_counted_42 rfl (fun _ =>
    aw_lload (pc := 181) C (i := 6) dX11_counted_181 rfl <|
    aw_lret (pc := 183) C dX11_counted_183 rfl rfl) (fun _ =>
    aw_aload_n (pc := 45) C (i := 0) dX11_counted_45 rfl rfl <|
    aw_getR (pc := 46) C (b := 18) dX11_counted_46 fl_X11_61 sR_0 rfl rR_0_28 <|
    aw_iload (pc := 49) C (i := 8) dX11_counted_49 rfl <|
    aw_bipush (pc := 51) C (v := 41) dX11_counted_51 rfl <|
    aw_idivK (pc := 53) C dX11_counted_53 (by decide) <|
    aw_lald (pc := 54) C dX11_counted_54 sR_18 rfl <|
    aw_aload_n (pc := 55) C (i := 0) dX11_counted_55 rfl rfl <|
    aw_getR (pc := 56) C (b := 19) dX11_counted_56 fl_X11_65 sR_0 rfl rR_0_29 <|
    aw_iload (pc := 59) C (i := 8) dX11_counted_59 rfl <|
    aw_bipush (pc := 61) C (v := 41) dX11_counted_61 rfl <|
    aw_iremK (pc := 63) C dX11_counted_63 (by decide) <|
    aw_lald (pc := 64) C dX11_counted_64 sR_19 rfl <|
    aw_lmul (pc := 65) C dX11_counted_65 <|
    aw_lstoreV (pc := 66) C (i := 9) (fun x6 => [(0, .ref 0), (1, .int v1), (2, .int v2), (3, .int v3), (4, .int v4), (5, .int v5), (6, .long v6), (8, .int v8), (9, .long x6)]) dX11_counted_66 (by decide) (fun _ => rfl) fun x6 =>
    aw_lload (pc := 68) C (i := 9) dX11_counted_68 rfl <|
    aw_lconst (pc := 70) C (v := 0) dX11_counted_70 rfl <|
    aw_lcmp (pc := 71) C dX11_counted_71 <|
    aw_if_ne (pc := 72) C (tgt := 78) dX11_counted_72 rfl (fun _ =>
    aw_goto (pc := 75) C (tgt := 175) dX11_counted_75 rfl <|
    aw_drop [0, 1, 2, 3, 4, 5, 6, 7] (aX11_counted_j175 C v1 v2 v3 v4 v5 v6 v8 (X11_counted_l37 v1 v2 v3 v4 v5 n) ih h)) (fun _ =>
    aw_iload_n (pc := 78) C (i := 2) dX11_counted_78 rfl rfl <|
    aw_aload_n (pc := 79) C (i := 0) dX11_counted_79 rfl rfl <|
    aw_getR (pc := 80) C (b := 6) dX11_counted_80 fl_X11_25 sR_0 rfl rR_0_5 <|
    aw_iload_n (pc := 83) C (i := 1) dX11_counted_83 rfl rfl <|
    aw_iald (pc := 84) C dX11_counted_84 sR_6 rfl <|
    aw_iload (pc := 85) C (i := 8) dX11_counted_85 rfl <|
    aw_bipush (pc := 87) C (v := 41) dX11_counted_87 rfl <|
    aw_idivK (pc := 89) C dX11_counted_89 (by decide) <|
    aw_bipush (pc := 90) C (v := 20) dX11_counted_90 rfl <|
    aw_isub (pc := 92) C dX11_counted_92 <|
    aw_imul (pc := 93) C dX11_counted_93 <|
    aw_isub (pc := 94) C dX11_counted_94 <|
    aw_istoreV (pc := 95) C (i := 11) (fun x7 => [(0, .ref 0), (1, .int v1), (2, .int v2), (3, .int v3), (4, .int v4), (5, .int v5), (6, .long v6), (8, .int v8), (9, .long x6), (11, .int x7)]) dX11_counted_95 (by decide) (fun _ => rfl) fun x7 =>
    aw_iload (pc := 97) C (i := 5) dX11_counted_97 rfl <|
    aw_if_ne (pc := 99) C (tgt := 106) dX11_counted_99 rfl (fun _ =>
    aw_iconst (pc := 102) C (v := 0) dX11_counted_102 rfl <|
    aw_goto (pc := 103) C (tgt := 116) dX11_counted_103 rfl <|
    (aX11_counted_j116 C v1 v2 v3 v4 v5 v6 v8 x6 x7 (X11_counted_l37 v1 v2 v3 v4 v5 n) ih 0 h)) (fun _ =>
    aw_iload (pc := 106) C (i := 11) dX11_counted_106 rfl <|
    aw_aload_n (pc := 108) C (i := 0) dX11_counted_108 rfl rfl <|
    aw_iload_n (pc := 109) C (i := 1) dX11_counted_109 rfl rfl <|
    aw_callF (pc := 110) C (cr_V (rest := [.int x7]) (F := (X11_aimOf v1)) C (c_X11_aimOf X.2.1 v1) dX11_counted_110 mf_X11_aimOf ml_X11_210 im_X11_aimOf se_X11_aimOf sR_0 rfl ⟨(Nat.le_of_ble_eq_true rfl), (Nat.le_of_ble_eq_true rfl)⟩ rfl rfl (Nat.le_of_ble_eq_true rfl)) rfl rfl rfl (Nat.zero_le _) (Nat.zero_le _) fun r8 h9 =>
    aw_isub (pc := 113) C dX11_counted_113 <|
    aw_iconst (pc := 114) C (v := 2) dX11_counted_114 rfl <|
    aw_idivK (pc := 115) C dX11_counted_115 (by decide) <|
    (aX11_counted_j116 C v1 v2 v3 v4 v5 v6 v8 x6 x7 (X11_counted_l37 v1 v2 v3 v4 v5 n) ih ((x7 - r8) / 2) h9))))
def X11_counted (v1 : Int32) (v2 : Int32) (v3 : Int32) (v4 : Int32) (h : AH) : Option (Int64 × AH) :=
    ck v1 4 (vl (h.1 8 v1.toNatClampNeg) fun x1 =>
    bd (X11_findWays 18 41 ((h.1 0 12) - x1) h) fun _ h3 =>
    bd (X11_findWays 19 41 x1 h3) fun _ h5 =>
    X11_counted_l37 v1 v2 v3 v4 x1 FU 0 0 h5)
set_option maxRecDepth 100000 in
theorem c_X11_counted (l : Launch) (v1 : Int32) (v2 : Int32) (v3 : Int32) (v4 : Int32) : MC l yX11_counted cX11_counted 13 (some .long) rmX11_counted ZR [.ref 0, .int v1, .int v2, .int v3, .int v4] rvL (X11_counted v1 v2 v3 v4) :=
  MC.of (own := RX11) (by decide +kernel) rfl (Nat.le_of_ble_eq_true rfl) fun X yd A h _ C =>
    aw_aload_n (pc := 0) C (i := 0) dX11_counted_0 rfl rfl <|
    aw_getR (pc := 1) C (b := 8) dX11_counted_1 fl_X11_31 sR_0 rfl rR_0_7 <|
    aw_iload_n (pc := 4) C (i := 1) dX11_counted_4 rfl rfl <|
    aw_iald (pc := 5) C dX11_counted_5 sR_8 rfl <|
    aw_istoreV (pc := 6) C (i := 5) (fun x1 => [(0, .ref 0), (1, .int v1), (2, .int v2), (3, .int v3), (4, .int v4), (5, .int x1)]) dX11_counted_6 (by decide) (fun _ => rfl) fun x1 =>
    aw_aload_n (pc := 8) C (i := 0) dX11_counted_8 rfl rfl <|
    aw_getR (pc := 9) C (b := 18) dX11_counted_9 fl_X11_61 sR_0 rfl rR_0_28 <|
    aw_aload_n (pc := 12) C (i := 0) dX11_counted_12 rfl rfl <|
    aw_getI (pc := 13) C dX11_counted_13 fl_X11_95 sR_0 rfl <|
    aw_iload (pc := 16) C (i := 5) dX11_counted_16 rfl <|
    aw_isub (pc := 18) C dX11_counted_18 <|
    aw_callF (pc := 19) C (cr_S (rest := []) (F := (X11_findWays 18 41 ((h.1 0 12) - x1))) C (c_X11_findWays X.2.1 18 41 sR_18 ((h.1 0 12) - x1)) dX11_counted_19 mf_X11_findWays ml_X11_226 st_X11_findWays ⟨(Nat.le_of_ble_eq_true rfl), (Nat.le_of_ble_eq_true rfl)⟩ rfl rfl (Nat.le_of_ble_eq_true rfl)) rfl rfl rfl (Nat.zero_le _) (Nat.zero_le _) fun _ h3 =>
    aw_aload_n (pc := 22) C (i := 0) dX11_counted_22 rfl rfl <|
    aw_getR (pc := 23) C (b := 19) dX11_counted_23 fl_X11_65 sR_0 rfl rR_0_29 <|
    aw_iload (pc := 26) C (i := 5) dX11_counted_26 rfl <|
    aw_callF (pc := 28) C (cr_S (rest := []) (F := (X11_findWays 19 41 x1)) C (c_X11_findWays X.2.1 19 41 sR_19 x1) dX11_counted_28 mf_X11_findWays ml_X11_226 st_X11_findWays ⟨(Nat.le_of_ble_eq_true rfl), (Nat.le_of_ble_eq_true rfl)⟩ rfl rfl (Nat.le_of_ble_eq_true rfl)) rfl rfl rfl (Nat.zero_le _) (Nat.zero_le _) fun _ h5 =>
    aw_lconst (pc := 31) C (v := 0) dX11_counted_31 rfl <|
    aw_lstore (pc := 32) C (i := 6) (lv' := [(0, .ref 0), (1, .int v1), (2, .int v2), (3, .int v3), (4, .int v4), (5, .int x1), (6, .long 0)]) dX11_counted_32 (by decide) rfl <|
    aw_iconst (pc := 34) C (v := 0) dX11_counted_34 rfl <|
    aw_istore (pc := 35) C (i := 8) (lv' := [(0, .ref 0), (1, .int v1), (2, .int v2), (3, .int v3), (4, .int v4), (5, .int x1), (6, .long 0), (8, .int 0)]) dX11_counted_35 (by decide) rfl <|
    (aX11_counted_l37 C v1 v2 v3 v4 x1 FU 0 0 h5)

abbrev rmX11_allWays : Room := { frames := 0, cells := 0, slots := 0, locals := 0 }
def X11_allWays  (h : AH) : Option (Int64 × AH) :=
    some ((shl64 1 (2 * (h.1 0 12))), h)
set_option maxRecDepth 100000 in
theorem c_X11_allWays (l : Launch)  : MC l yX11_allWays cX11_allWays 1 (some .long) rmX11_allWays ZR [.ref 0] rvL (X11_allWays) :=
  MC.of (own := RX11) (by decide +kernel) rfl (Nat.le_of_ble_eq_true rfl) fun X yd A h _ C =>
    aw_lconst (pc := 0) C (v := 1) dX11_allWays_0 rfl <|
    aw_iconst (pc := 1) C (v := 2) dX11_allWays_1 rfl <|
    aw_aload_n (pc := 2) C (i := 0) dX11_allWays_2 rfl rfl <|
    aw_getI (pc := 3) C dX11_allWays_3 fl_X11_95 sR_0 rfl <|
    aw_imul (pc := 6) C dX11_allWays_6 <|
    aw_lshl (pc := 7) C dX11_allWays_7 <|
    aw_lret (pc := 8) C dX11_allWays_8 rfl rfl

abbrev rmX11_divisor : Room := { frames := 0, cells := 0, slots := 0, locals := 0 }
def X11_divisor_l6  : Nat → Int64 → Int64 → AH → Option (Int64 × AH)
  | 0, _, _, _ => none
  | n + 1, v4, v6, h =>
    if (lcmpV v6 0) = 0 then (some (v4, h))
    else (if v6 = 0 then none else (vl (rm64 v4 v6) fun x1 =>
    (X11_divisor_l6 n) v6 x1 h))
set_option maxRecDepth 100000 in
theorem aX11_divisor_l6 {X : MCx} {yd : Dyn} {A : Nat → Prop} (C : OK X cX11_divisor RX11 10 (some .long) rmX11_divisor A)  : ∀ (n : Nat) (v4 : Int64) (v6 : Int64) (h : AH), AW X 10 ZR yd A 0 0 (QF X rmX11_divisor ZR yd rvL A) 6 [(4, .long v4), (6, .long v6)] [] h (X11_divisor_l6 n v4 v6 h) := by
  intro n
  induction n with
  | zero => intro v4 v6 h; exact aw_none
  | succ n ih =>
    intro v4 v6 h
    exact aw_lload (pc := 6) C (i := 6) dX11_divisor_6 rfl <|
    aw_lconst (pc := 8) C (v := 0) dX11_divisor_8 rfl <|
    aw_lcmp (pc := 9) C dX11_divisor_9 <|
    aw_if_eq (pc := 10) C (tgt := 31) dX11_divisor_10 rfl (fun _ =>
    aw_lload (pc := 31) C (i := 4) dX11_divisor_31 rfl <|
    aw_lret (pc := 33) C dX11_divisor_33 rfl rfl) (fun _ =>
    aw_lload (pc := 13) C (i := 4) dX11_divisor_13 rfl <|
    aw_lload (pc := 15) C (i := 6) dX11_divisor_15 rfl <|
    aw_lrem (pc := 17) C dX11_divisor_17 <|
    aw_lstoreV (pc := 18) C (i := 8) (fun x1 => [(4, .long v4), (6, .long v6), (8, .long x1)]) dX11_divisor_18 (by decide) (fun _ => rfl) fun x1 =>
    aw_lload (pc := 20) C (i := 6) dX11_divisor_20 rfl <|
    aw_lstore (pc := 22) C (i := 4) (lv' := [(4, .long v6), (6, .long v6), (8, .long x1)]) dX11_divisor_22 (by decide) rfl <|
    aw_lload (pc := 24) C (i := 8) dX11_divisor_24 rfl <|
    aw_lstore (pc := 26) C (i := 6) (lv' := [(4, .long v6), (6, .long x1), (8, .long x1)]) dX11_divisor_26 (by decide) rfl <|
    aw_goto (pc := 28) C (tgt := 6) dX11_divisor_28 rfl <|
    aw_drop [0, 1] (ih v6 x1 h))
def X11_divisor (v0 : Int64) (v2 : Int64) (h : AH) : Option (Int64 × AH) :=
    X11_divisor_l6 FU v0 v2 h
set_option maxRecDepth 100000 in
theorem c_X11_divisor (l : Launch) (v0 : Int64) (v2 : Int64) : MC l yX11_divisor cX11_divisor 10 (some .long) rmX11_divisor ZR [.long v0, .long v2] rvL (X11_divisor v0 v2) :=
  MC.of (own := RX11) (by decide +kernel) rfl (Nat.le_of_ble_eq_true rfl) fun X yd A h _ C =>
    aw_lload_n (pc := 0) C (i := 0) dX11_divisor_0 rfl rfl <|
    aw_lstore (pc := 1) C (i := 4) (lv' := [(0, .long v0), (2, .long v2), (4, .long v0)]) dX11_divisor_1 (by decide) rfl <|
    aw_lload_n (pc := 3) C (i := 2) dX11_divisor_3 rfl rfl <|
    aw_lstore (pc := 4) C (i := 6) (lv' := [(0, .long v0), (2, .long v2), (4, .long v0), (6, .long v2)]) dX11_divisor_4 (by decide) rfl <|
    aw_drop [2, 3] (aX11_divisor_l6 C FU v0 v2 h)

abbrev rmX11_partOf : Room := { frames := 1, cells := 0, slots := 0, locals := 29 }
def X11_partOf_j10  (v0 : Int64) (v2 : Int64) (s0 : Int64) (h : AH) : Option (Int64 × AH) :=
    bd (X11_divisor v0 v2 h) fun r1 h2 =>
    if r1 = 0 then none else (some ((s0 / r1), h2))
set_option maxRecDepth 100000 in
theorem aX11_partOf_j10 {X : MCx} {yd : Dyn} {A : Nat → Prop} (C : OK X cX11_partOf RX11 5 (some .long) rmX11_partOf A)  (v0 : Int64) (v2 : Int64) (s0 : Int64) (h : AH) : AW X 5 ZR yd A 0 0 (QF X rmX11_partOf ZR yd rvL A) 10 [(0, .long v0), (2, .long v2)] [.long s0] h (X11_partOf_j10 v0 v2 s0 h) := by
    exact aw_lload_n (pc := 10) C (i := 0) dX11_partOf_10 rfl rfl <|
    aw_lload_n (pc := 11) C (i := 2) dX11_partOf_11 rfl rfl <|
    aw_callF (pc := 12) C (cr_S (rest := [.long s0]) (F := (X11_divisor v0 v2)) C (c_X11_divisor X.2.1 v0 v2) dX11_partOf_12 mf_X11_divisor ml_X11_234 st_X11_divisor ⟨(Nat.le_of_ble_eq_true rfl), (Nat.le_of_ble_eq_true rfl)⟩ rfl rfl (Nat.le_of_ble_eq_true rfl)) rfl rfl rfl (Nat.zero_le _) (Nat.zero_le _) fun r1 h2 =>
    aw_ldiv (pc := 15) C dX11_partOf_15 <|
    aw_lret (pc := 16) C dX11_partOf_16 rfl rfl
def X11_partOf (v0 : Int64) (v2 : Int64) (v4 : Int32) (h : AH) : Option (Int64 × AH) :=
    if v4 = 0 then (X11_partOf_j10 v0 v2 v0 h)
    else (X11_partOf_j10 v0 v2 v2 h)
set_option maxRecDepth 100000 in
theorem c_X11_partOf (l : Launch) (v0 : Int64) (v2 : Int64) (v4 : Int32) : MC l yX11_partOf cX11_partOf 5 (some .long) rmX11_partOf ZR [.long v0, .long v2, .int v4] rvL (X11_partOf v0 v2 v4) :=
  MC.of (own := RX11) (by decide +kernel) rfl (Nat.le_of_ble_eq_true rfl) fun X yd A h _ C =>
    aw_iload (pc := 0) C (i := 4) dX11_partOf_0 rfl <|
    aw_if_ne (pc := 2) C (tgt := 9) dX11_partOf_2 rfl (fun _ =>
    aw_lload_n (pc := 5) C (i := 0) dX11_partOf_5 rfl rfl <|
    aw_goto (pc := 6) C (tgt := 10) dX11_partOf_6 rfl <|
    aw_drop [0, 1] (aX11_partOf_j10 C v0 v2 v0 h)) (fun _ =>
    aw_lload_n (pc := 9) C (i := 2) dX11_partOf_9 rfl rfl <|
    aw_drop [0, 1] (aX11_partOf_j10 C v0 v2 v2 h))

abbrev rmX11_off : Room := { frames := 4, cells := 0, slots := 0, locals := 102 }
def X11_off_j42  (v1 : Int32) (v2 : Int32) (v3 : Int32) (v4 : Int32) (h : AH) : Option (Int64 × AH) :=
    if v4 = 0 then (bd (X11_placeOf v1 h) fun r5 h6 =>
    bd (X11_counted v1 r5 0 v2 h6) fun r7 h8 =>
    bd (X11_allWays h8) fun r9 h10 =>
    bd (X11_partOf r7 r9 v3 h10) fun r11 h12 =>
    some (r11, h12))
    else (bd (X11_lowest v4 h) fun r13 h14 =>
    some (r13, h14))
set_option maxRecDepth 100000 in
theorem aX11_off_j42 {X : MCx} {yd : Dyn} {A : Nat → Prop} (C : OK X cX11_off RX11 5 (some .long) rmX11_off A)  (v1 : Int32) (v2 : Int32) (v3 : Int32) (v4 : Int32) (h : AH) : AW X 5 ZR yd A 0 0 (QF X rmX11_off ZR yd rvL A) 42 [(0, .ref 0), (1, .int v1), (2, .int v2), (3, .int v3), (4, .int v4)] [] h (X11_off_j42 v1 v2 v3 v4 h) := by
    exact aw_iload (pc := 42) C (i := 4) dX11_off_42 rfl <|
    aw_if_eq (pc := 44) C (tgt := 56) dX11_off_44 rfl (fun _ =>
    aw_aload_n (pc := 56) C (i := 0) dX11_off_56 rfl rfl <|
    aw_iload_n (pc := 57) C (i := 1) dX11_off_57 rfl rfl <|
    aw_aload_n (pc := 58) C (i := 0) dX11_off_58 rfl rfl <|
    aw_iload_n (pc := 59) C (i := 1) dX11_off_59 rfl rfl <|
    aw_callF (pc := 60) C (cr_V (rest := [.int v1, .ref 0]) (F := (X11_placeOf v1)) C (c_X11_placeOf X.2.1 v1) dX11_off_60 mf_X11_placeOf ml_X11_223 im_X11_placeOf se_X11_placeOf sR_0 rfl ⟨(Nat.le_of_ble_eq_true rfl), (Nat.le_of_ble_eq_true rfl)⟩ rfl rfl (Nat.le_of_ble_eq_true rfl)) rfl rfl rfl (Nat.zero_le _) (Nat.zero_le _) fun r5 h6 =>
    aw_iconst (pc := 63) C (v := 0) dX11_off_63 rfl <|
    aw_iload_n (pc := 64) C (i := 2) dX11_off_64 rfl rfl <|
    aw_callF (pc := 65) C (cr_V (rest := []) (F := (X11_counted v1 r5 0 v2)) C (c_X11_counted X.2.1 v1 r5 0 v2) dX11_off_65 mf_X11_counted ml_X11_242 im_X11_counted se_X11_counted sR_0 rfl ⟨(Nat.le_of_ble_eq_true rfl), (Nat.le_of_ble_eq_true rfl)⟩ rfl rfl (Nat.le_of_ble_eq_true rfl)) rfl rfl rfl (Nat.zero_le _) (Nat.zero_le _) fun r7 h8 =>
    aw_aload_n (pc := 68) C (i := 0) dX11_off_68 rfl rfl <|
    aw_callF (pc := 69) C (cr_V (rest := [.long r7]) (F := X11_allWays) C (c_X11_allWays X.2.1 ) dX11_off_69 mf_X11_allWays ml_X11_246 im_X11_allWays se_X11_allWays sR_0 rfl ⟨(Nat.le_of_ble_eq_true rfl), (Nat.le_of_ble_eq_true rfl)⟩ rfl rfl (Nat.le_of_ble_eq_true rfl)) rfl rfl rfl (Nat.zero_le _) (Nat.zero_le _) fun r9 h10 =>
    aw_iload_n (pc := 72) C (i := 3) dX11_off_72 rfl rfl <|
    aw_callF (pc := 73) C (cr_S (rest := []) (F := (X11_partOf r7 r9 v3)) C (c_X11_partOf X.2.1 r7 r9 v3) dX11_off_73 mf_X11_partOf ml_X11_250 st_X11_partOf ⟨(Nat.le_of_ble_eq_true rfl), (Nat.le_of_ble_eq_true rfl)⟩ rfl rfl (Nat.le_of_ble_eq_true rfl)) rfl rfl rfl (Nat.zero_le _) (Nat.zero_le _) fun r11 h12 =>
    aw_lret (pc := 76) C dX11_off_76 rfl rfl) (fun _ =>
    aw_aload_n (pc := 47) C (i := 0) dX11_off_47 rfl rfl <|
    aw_iload (pc := 48) C (i := 4) dX11_off_48 rfl <|
    aw_callF (pc := 50) C (cr_V (rest := []) (F := (X11_lowest v4)) C (c_X11_lowest X.2.1 v4) dX11_off_50 mf_X11_lowest ml_X11_238 im_X11_lowest se_X11_lowest sR_0 rfl ⟨(Nat.le_of_ble_eq_true rfl), (Nat.le_of_ble_eq_true rfl)⟩ rfl rfl (Nat.le_of_ble_eq_true rfl)) rfl rfl rfl (Nat.zero_le _) (Nat.zero_le _) fun r13 h14 =>
    aw_goto (pc := 53) C (tgt := 76) dX11_off_53 rfl <|
    aw_lret (pc := 76) C dX11_off_76 rfl rfl)
def X11_off_j22  (v1 : Int32) (v2 : Int32) (v3 : Int32) (s0 : Int32) (h : AH) : Option (Int64 × AH) :=
    if s0 = 0 then (bd (X11_isIn v3 0 1 h) fun r15 h16 =>
    if r15 = 0 then (vl (-2) fun x17 =>
    X11_off_j42 v1 v2 v3 x17 h16)
    else (X11_off_j42 v1 v2 v3 s0 h16))
    else (X11_off_j42 v1 v2 v3 s0 h)
set_option maxRecDepth 100000 in
theorem aX11_off_j22 {X : MCx} {yd : Dyn} {A : Nat → Prop} (C : OK X cX11_off RX11 5 (some .long) rmX11_off A)  (v1 : Int32) (v2 : Int32) (v3 : Int32) (s0 : Int32) (h : AH) : AW X 5 ZR yd A 0 0 (QF X rmX11_off ZR yd rvL A) 22 [(0, .ref 0), (1, .int v1), (2, .int v2), (3, .int v3)] [.int s0] h (X11_off_j22 v1 v2 v3 s0 h) := by
    exact aw_istore (pc := 22) C (i := 4) (lv' := [(0, .ref 0), (1, .int v1), (2, .int v2), (3, .int v3), (4, .int s0)]) dX11_off_22 (by decide) rfl <|
    aw_iload (pc := 24) C (i := 4) dX11_off_24 rfl <|
    aw_if_ne (pc := 26) C (tgt := 42) dX11_off_26 rfl (fun _ =>
    aw_iload_n (pc := 29) C (i := 3) dX11_off_29 rfl rfl <|
    aw_iconst (pc := 30) C (v := 0) dX11_off_30 rfl <|
    aw_iconst (pc := 31) C (v := 1) dX11_off_31 rfl <|
    aw_callF (pc := 32) C (cr_S (rest := []) (F := (X11_isIn v3 0 1)) C (c_X11_isIn X.2.1 v3 0 1) dX11_off_32 mf_X11_isIn ml_X11_126 st_X11_isIn ⟨(Nat.le_of_ble_eq_true rfl), (Nat.le_of_ble_eq_true rfl)⟩ rfl rfl (Nat.le_of_ble_eq_true rfl)) rfl rfl rfl (Nat.zero_le _) (Nat.zero_le _) fun r15 h16 =>
    aw_if_ne (pc := 35) C (tgt := 42) dX11_off_35 rfl (fun _ =>
    aw_bipush (pc := 38) C (v := (-2)) dX11_off_38 rfl <|
    aw_istoreV (pc := 40) C (i := 4) (fun x17 => [(0, .ref 0), (1, .int v1), (2, .int v2), (3, .int v3), (4, .int x17)]) dX11_off_40 (by decide) (fun _ => rfl) fun x17 =>
    (aX11_off_j42 C v1 v2 v3 x17 h16)) (fun _ =>
    (aX11_off_j42 C v1 v2 v3 s0 h16))) (fun _ =>
    (aX11_off_j42 C v1 v2 v3 s0 h))
def X11_off (v1 : Int32) (v2 : Int32) (v3 : Int32) (h : AH) : Option (Int64 × AH) :=
    bd (X11_isJumper v1 h) fun r1 h2 =>
    if r1 = 0 then (X11_off_j22 v1 v2 v3 (-1) h2)
    else (bd (X11_bound v2 (-300) 300 h2) fun r3 h4 =>
    X11_off_j22 v1 v2 v3 r3 h4)
set_option maxRecDepth 100000 in
theorem c_X11_off (l : Launch) (v1 : Int32) (v2 : Int32) (v3 : Int32) : MC l yX11_off cX11_off 5 (some .long) rmX11_off ZR [.ref 0, .int v1, .int v2, .int v3] rvL (X11_off v1 v2 v3) :=
  MC.of (own := RX11) (by decide +kernel) rfl (Nat.le_of_ble_eq_true rfl) fun X yd A h _ C =>
    aw_aload_n (pc := 0) C (i := 0) dX11_off_0 rfl rfl <|
    aw_iload_n (pc := 1) C (i := 1) dX11_off_1 rfl rfl <|
    aw_callF (pc := 2) C (cr_V (rest := []) (F := (X11_isJumper v1)) C (c_X11_isJumper X.2.1 v1) dX11_off_2 mf_X11_isJumper ml_X11_207 im_X11_isJumper se_X11_isJumper sR_0 rfl ⟨(Nat.le_of_ble_eq_true rfl), (Nat.le_of_ble_eq_true rfl)⟩ rfl rfl (Nat.le_of_ble_eq_true rfl)) rfl rfl rfl (Nat.zero_le _) (Nat.zero_le _) fun r1 h2 =>
    aw_if_ne (pc := 5) C (tgt := 12) dX11_off_5 rfl (fun _ =>
    aw_iconst (pc := 8) C (v := (-1)) dX11_off_8 rfl <|
    aw_goto (pc := 9) C (tgt := 22) dX11_off_9 rfl <|
    (aX11_off_j22 C v1 v2 v3 (-1) h2)) (fun _ =>
    aw_iload_n (pc := 12) C (i := 2) dX11_off_12 rfl rfl <|
    aw_sipush (pc := 13) C (v := (-300)) dX11_off_13 rfl <|
    aw_sipush (pc := 16) C (v := 300) dX11_off_16 rfl <|
    aw_callF (pc := 19) C (cr_S (rest := []) (F := (X11_bound v2 (-300) 300)) C (c_X11_bound X.2.1 v2 (-300) 300) dX11_off_19 mf_X11_bound ml_X11_108 st_X11_bound ⟨(Nat.le_of_ble_eq_true rfl), (Nat.le_of_ble_eq_true rfl)⟩ rfl rfl (Nat.le_of_ble_eq_true rfl)) rfl rfl rfl (Nat.zero_le _) (Nat.zero_le _) fun r3 h4 =>
    (aX11_off_j22 C v1 v2 v3 r3 h4))
end
section
abbrev rmX11_meanParts : Room := { frames := 4, cells := 0, slots := 0, locals := 102 }
def X11_meanParts (v1 : Int32) (h : AH) : Option (Int64 × AH) :=
    bd (X11_placeOf v1 h) fun r1 h2 =>
    bd (X11_counted v1 r1 2 0 h2) fun r3 h4 =>
    some (r3, h4)
set_option maxRecDepth 100000 in
theorem c_X11_meanParts (l : Launch) (v1 : Int32) : MC l yX11_meanParts cX11_meanParts 2 (some .long) rmX11_meanParts ZR [.ref 0, .int v1] rvL (X11_meanParts v1) :=
  MC.of (own := RX11) (by decide +kernel) rfl (Nat.le_of_ble_eq_true rfl) fun X yd A h _ C =>
    aw_aload_n (pc := 0) C (i := 0) dX11_meanParts_0 rfl rfl <|
    aw_iload_n (pc := 1) C (i := 1) dX11_meanParts_1 rfl rfl <|
    aw_aload_n (pc := 2) C (i := 0) dX11_meanParts_2 rfl rfl <|
    aw_iload_n (pc := 3) C (i := 1) dX11_meanParts_3 rfl rfl <|
    aw_callF (pc := 4) C (cr_V (rest := [.int v1, .ref 0]) (F := (X11_placeOf v1)) C (c_X11_placeOf X.2.1 v1) dX11_meanParts_4 mf_X11_placeOf ml_X11_223 im_X11_placeOf se_X11_placeOf sR_0 rfl ⟨(Nat.le_of_ble_eq_true rfl), (Nat.le_of_ble_eq_true rfl)⟩ rfl rfl (Nat.le_of_ble_eq_true rfl)) rfl rfl rfl (Nat.zero_le _) (Nat.zero_le _) fun r1 h2 =>
    aw_iconst (pc := 7) C (v := 2) dX11_meanParts_7 rfl <|
    aw_iconst (pc := 8) C (v := 0) dX11_meanParts_8 rfl <|
    aw_callF (pc := 9) C (cr_V (rest := []) (F := (X11_counted v1 r1 2 0)) C (c_X11_counted X.2.1 v1 r1 2 0) dX11_meanParts_9 mf_X11_counted ml_X11_242 im_X11_counted se_X11_counted sR_0 rfl ⟨(Nat.le_of_ble_eq_true rfl), (Nat.le_of_ble_eq_true rfl)⟩ rfl rfl (Nat.le_of_ble_eq_true rfl)) rfl rfl rfl (Nat.zero_le _) (Nat.zero_le _) fun r3 h4 =>
    aw_lret (pc := 12) C dX11_meanParts_12 rfl rfl

abbrev rmX11_mean : Room := { frames := 5, cells := 0, slots := 0, locals := 123 }
def X11_mean_j32  (h : AH) : Option (Int64 × AH) :=
    bd (X11_lowest (-2) h) fun r5 h6 =>
    some (r5, h6)
set_option maxRecDepth 100000 in
theorem aX11_mean_j32 {X : MCx} {yd : Dyn} {A : Nat → Prop} (C : OK X cX11_mean RX11 4 (some .long) rmX11_mean A)  (h : AH) : AW X 4 ZR yd A 0 0 (QF X rmX11_mean ZR yd rvL A) 32 [(0, .ref 0)] [] h (X11_mean_j32 h) := by
    exact aw_aload_n (pc := 32) C (i := 0) dX11_mean_32 rfl rfl <|
    aw_bipush (pc := 33) C (v := (-2)) dX11_mean_33 rfl <|
    aw_callF (pc := 35) C (cr_V (rest := []) (F := (X11_lowest (-2))) C (c_X11_lowest X.2.1 (-2)) dX11_mean_35 mf_X11_lowest ml_X11_238 im_X11_lowest se_X11_lowest sR_0 rfl ⟨(Nat.le_of_ble_eq_true rfl), (Nat.le_of_ble_eq_true rfl)⟩ rfl rfl (Nat.le_of_ble_eq_true rfl)) rfl rfl rfl (Nat.zero_le _) (Nat.zero_le _) fun r5 h6 =>
    aw_lret (pc := 38) C dX11_mean_38 rfl rfl
def X11_mean_j63  (v3 : Int32) (s0 : Int64) (h : AH) : Option (Int64 × AH) :=
    bd (X11_allWays h) fun r11 h12 =>
    bd (X11_partOf s0 r11 v3 h12) fun r13 h14 =>
    some (r13, h14)
set_option maxRecDepth 100000 in
theorem aX11_mean_j63 {X : MCx} {yd : Dyn} {A : Nat → Prop} (C : OK X cX11_mean RX11 4 (some .long) rmX11_mean A)  (v3 : Int32) (s0 : Int64) (h : AH) : AW X 4 ZR yd A 0 0 (QF X rmX11_mean ZR yd rvL A) 63 [(0, .ref 0), (3, .int v3)] [.long s0] h (X11_mean_j63 v3 s0 h) := by
    exact aw_aload_n (pc := 63) C (i := 0) dX11_mean_63 rfl rfl <|
    aw_callF (pc := 64) C (cr_V (rest := [.long s0]) (F := X11_allWays) C (c_X11_allWays X.2.1 ) dX11_mean_64 mf_X11_allWays ml_X11_246 im_X11_allWays se_X11_allWays sR_0 rfl ⟨(Nat.le_of_ble_eq_true rfl), (Nat.le_of_ble_eq_true rfl)⟩ rfl rfl (Nat.le_of_ble_eq_true rfl)) rfl rfl rfl (Nat.zero_le _) (Nat.zero_le _) fun r11 h12 =>
    aw_iload_n (pc := 67) C (i := 3) dX11_mean_67 rfl rfl <|
    aw_callF (pc := 68) C (cr_S (rest := []) (F := (X11_partOf s0 r11 v3)) C (c_X11_partOf X.2.1 s0 r11 v3) dX11_mean_68 mf_X11_partOf ml_X11_250 st_X11_partOf ⟨(Nat.le_of_ble_eq_true rfl), (Nat.le_of_ble_eq_true rfl)⟩ rfl rfl (Nat.le_of_ble_eq_true rfl)) rfl rfl rfl (Nat.zero_le _) (Nat.zero_le _) fun r13 h14 =>
    aw_lret (pc := 71) C dX11_mean_71 rfl rfl
def X11_mean (v1 : Int32) (v2 : Int32) (v3 : Int32) (h : AH) : Option (Int64 × AH) :=
    bd (X11_isJumper v1 h) fun r1 h2 =>
    if r1 = 0 then (bd (X11_lowest (-1) h2) fun r19 h20 =>
    some (r19, h20))
    else (bd (X11_isIn v2 0 1 h2) fun r3 h4 =>
    if r3 = 0 then (X11_mean_j32 h4)
    else (bd (X11_isIn v3 0 1 h4) fun r7 h8 =>
    if r7 = 0 then (X11_mean_j32 h8)
    else (if v2 = 0 then (bd (X11_placeOf v1 h8) fun r15 h16 =>
    bd (X11_counted v1 r15 1 0 h16) fun r17 h18 =>
    X11_mean_j63 v3 r17 h18)
    else (bd (X11_meanParts v1 h8) fun r9 h10 =>
    X11_mean_j63 v3 r9 h10))))
set_option maxRecDepth 100000 in
theorem c_X11_mean (l : Launch) (v1 : Int32) (v2 : Int32) (v3 : Int32) : MC l yX11_mean cX11_mean 4 (some .long) rmX11_mean ZR [.ref 0, .int v1, .int v2, .int v3] rvL (X11_mean v1 v2 v3) :=
  MC.of (own := RX11) (by decide +kernel) rfl (Nat.le_of_ble_eq_true rfl) fun X yd A h _ C =>
    aw_aload_n (pc := 0) C (i := 0) dX11_mean_0 rfl rfl <|
    aw_iload_n (pc := 1) C (i := 1) dX11_mean_1 rfl rfl <|
    aw_callF (pc := 2) C (cr_V (rest := []) (F := (X11_isJumper v1)) C (c_X11_isJumper X.2.1 v1) dX11_mean_2 mf_X11_isJumper ml_X11_207 im_X11_isJumper se_X11_isJumper sR_0 rfl ⟨(Nat.le_of_ble_eq_true rfl), (Nat.le_of_ble_eq_true rfl)⟩ rfl rfl (Nat.le_of_ble_eq_true rfl)) rfl rfl rfl (Nat.zero_le _) (Nat.zero_le _) fun r1 h2 =>
    aw_if_ne (pc := 5) C (tgt := 14) dX11_mean_5 rfl (fun _ =>
    aw_aload_n (pc := 8) C (i := 0) dX11_mean_8 rfl rfl <|
    aw_iconst (pc := 9) C (v := (-1)) dX11_mean_9 rfl <|
    aw_callF (pc := 10) C (cr_V (rest := []) (F := (X11_lowest (-1))) C (c_X11_lowest X.2.1 (-1)) dX11_mean_10 mf_X11_lowest ml_X11_238 im_X11_lowest se_X11_lowest sR_0 rfl ⟨(Nat.le_of_ble_eq_true rfl), (Nat.le_of_ble_eq_true rfl)⟩ rfl rfl (Nat.le_of_ble_eq_true rfl)) rfl rfl rfl (Nat.zero_le _) (Nat.zero_le _) fun r19 h20 =>
    aw_lret (pc := 13) C dX11_mean_13 rfl rfl) (fun _ =>
    aw_iload_n (pc := 14) C (i := 2) dX11_mean_14 rfl rfl <|
    aw_iconst (pc := 15) C (v := 0) dX11_mean_15 rfl <|
    aw_iconst (pc := 16) C (v := 1) dX11_mean_16 rfl <|
    aw_callF (pc := 17) C (cr_S (rest := []) (F := (X11_isIn v2 0 1)) C (c_X11_isIn X.2.1 v2 0 1) dX11_mean_17 mf_X11_isIn ml_X11_126 st_X11_isIn ⟨(Nat.le_of_ble_eq_true rfl), (Nat.le_of_ble_eq_true rfl)⟩ rfl rfl (Nat.le_of_ble_eq_true rfl)) rfl rfl rfl (Nat.zero_le _) (Nat.zero_le _) fun r3 h4 =>
    aw_if_eq (pc := 20) C (tgt := 32) dX11_mean_20 rfl (fun _ =>
    aw_drop [0] (aX11_mean_j32 C h4)) (fun _ =>
    aw_iload_n (pc := 23) C (i := 3) dX11_mean_23 rfl rfl <|
    aw_iconst (pc := 24) C (v := 0) dX11_mean_24 rfl <|
    aw_iconst (pc := 25) C (v := 1) dX11_mean_25 rfl <|
    aw_callF (pc := 26) C (cr_S (rest := []) (F := (X11_isIn v3 0 1)) C (c_X11_isIn X.2.1 v3 0 1) dX11_mean_26 mf_X11_isIn ml_X11_126 st_X11_isIn ⟨(Nat.le_of_ble_eq_true rfl), (Nat.le_of_ble_eq_true rfl)⟩ rfl rfl (Nat.le_of_ble_eq_true rfl)) rfl rfl rfl (Nat.zero_le _) (Nat.zero_le _) fun r7 h8 =>
    aw_if_ne (pc := 29) C (tgt := 39) dX11_mean_29 rfl (fun _ =>
    aw_drop [0] (aX11_mean_j32 C h8)) (fun _ =>
    aw_iload_n (pc := 39) C (i := 2) dX11_mean_39 rfl rfl <|
    aw_if_ne (pc := 40) C (tgt := 58) dX11_mean_40 rfl (fun _ =>
    aw_aload_n (pc := 43) C (i := 0) dX11_mean_43 rfl rfl <|
    aw_iload_n (pc := 44) C (i := 1) dX11_mean_44 rfl rfl <|
    aw_aload_n (pc := 45) C (i := 0) dX11_mean_45 rfl rfl <|
    aw_iload_n (pc := 46) C (i := 1) dX11_mean_46 rfl rfl <|
    aw_callF (pc := 47) C (cr_V (rest := [.int v1, .ref 0]) (F := (X11_placeOf v1)) C (c_X11_placeOf X.2.1 v1) dX11_mean_47 mf_X11_placeOf ml_X11_223 im_X11_placeOf se_X11_placeOf sR_0 rfl ⟨(Nat.le_of_ble_eq_true rfl), (Nat.le_of_ble_eq_true rfl)⟩ rfl rfl (Nat.le_of_ble_eq_true rfl)) rfl rfl rfl (Nat.zero_le _) (Nat.zero_le _) fun r15 h16 =>
    aw_iconst (pc := 50) C (v := 1) dX11_mean_50 rfl <|
    aw_iconst (pc := 51) C (v := 0) dX11_mean_51 rfl <|
    aw_callF (pc := 52) C (cr_V (rest := []) (F := (X11_counted v1 r15 1 0)) C (c_X11_counted X.2.1 v1 r15 1 0) dX11_mean_52 mf_X11_counted ml_X11_242 im_X11_counted se_X11_counted sR_0 rfl ⟨(Nat.le_of_ble_eq_true rfl), (Nat.le_of_ble_eq_true rfl)⟩ rfl rfl (Nat.le_of_ble_eq_true rfl)) rfl rfl rfl (Nat.zero_le _) (Nat.zero_le _) fun r17 h18 =>
    aw_goto (pc := 55) C (tgt := 63) dX11_mean_55 rfl <|
    aw_drop [0, 3] (aX11_mean_j63 C v3 r17 h18)) (fun _ =>
    aw_aload_n (pc := 58) C (i := 0) dX11_mean_58 rfl rfl <|
    aw_iload_n (pc := 59) C (i := 1) dX11_mean_59 rfl rfl <|
    aw_callF (pc := 60) C (cr_V (rest := []) (F := (X11_meanParts v1)) C (c_X11_meanParts X.2.1 v1) dX11_mean_60 mf_X11_meanParts ml_X11_254 im_X11_meanParts se_X11_meanParts sR_0 rfl ⟨(Nat.le_of_ble_eq_true rfl), (Nat.le_of_ble_eq_true rfl)⟩ rfl rfl (Nat.le_of_ble_eq_true rfl)) rfl rfl rfl (Nat.zero_le _) (Nat.zero_le _) fun r9 h10 =>
    aw_drop [0, 3] (aX11_mean_j63 C v3 r9 h10)))))

abbrev rmX11_past : Room := { frames := 4, cells := 0, slots := 0, locals := 102 }
def X11_past_j40  (v1 : Int32) (v2 : Int32) (v3 : Int32) (v4 : Int32) (h : AH) : Option (Int64 × AH) :=
    if v4 = 0 then (bd (X11_placeOf v1 h) fun r5 h6 =>
    bd (X11_counted v1 r5 3 v2 h6) fun r7 h8 =>
    bd (X11_allWays h8) fun r9 h10 =>
    bd (X11_partOf r7 r9 v3 h10) fun r11 h12 =>
    some (r11, h12))
    else (bd (X11_lowest v4 h) fun r13 h14 =>
    some (r13, h14))
set_option maxRecDepth 100000 in
theorem aX11_past_j40 {X : MCx} {yd : Dyn} {A : Nat → Prop} (C : OK X cX11_past RX11 5 (some .long) rmX11_past A)  (v1 : Int32) (v2 : Int32) (v3 : Int32) (v4 : Int32) (h : AH) : AW X 5 ZR yd A 0 0 (QF X rmX11_past ZR yd rvL A) 40 [(0, .ref 0), (1, .int v1), (2, .int v2), (3, .int v3), (4, .int v4)] [] h (X11_past_j40 v1 v2 v3 v4 h) := by
    exact aw_iload (pc := 40) C (i := 4) dX11_past_40 rfl <|
    aw_if_eq (pc := 42) C (tgt := 54) dX11_past_42 rfl (fun _ =>
    aw_aload_n (pc := 54) C (i := 0) dX11_past_54 rfl rfl <|
    aw_iload_n (pc := 55) C (i := 1) dX11_past_55 rfl rfl <|
    aw_aload_n (pc := 56) C (i := 0) dX11_past_56 rfl rfl <|
    aw_iload_n (pc := 57) C (i := 1) dX11_past_57 rfl rfl <|
    aw_callF (pc := 58) C (cr_V (rest := [.int v1, .ref 0]) (F := (X11_placeOf v1)) C (c_X11_placeOf X.2.1 v1) dX11_past_58 mf_X11_placeOf ml_X11_223 im_X11_placeOf se_X11_placeOf sR_0 rfl ⟨(Nat.le_of_ble_eq_true rfl), (Nat.le_of_ble_eq_true rfl)⟩ rfl rfl (Nat.le_of_ble_eq_true rfl)) rfl rfl rfl (Nat.zero_le _) (Nat.zero_le _) fun r5 h6 =>
    aw_iconst (pc := 61) C (v := 3) dX11_past_61 rfl <|
    aw_iload_n (pc := 62) C (i := 2) dX11_past_62 rfl rfl <|
    aw_callF (pc := 63) C (cr_V (rest := []) (F := (X11_counted v1 r5 3 v2)) C (c_X11_counted X.2.1 v1 r5 3 v2) dX11_past_63 mf_X11_counted ml_X11_242 im_X11_counted se_X11_counted sR_0 rfl ⟨(Nat.le_of_ble_eq_true rfl), (Nat.le_of_ble_eq_true rfl)⟩ rfl rfl (Nat.le_of_ble_eq_true rfl)) rfl rfl rfl (Nat.zero_le _) (Nat.zero_le _) fun r7 h8 =>
    aw_aload_n (pc := 66) C (i := 0) dX11_past_66 rfl rfl <|
    aw_callF (pc := 67) C (cr_V (rest := [.long r7]) (F := X11_allWays) C (c_X11_allWays X.2.1 ) dX11_past_67 mf_X11_allWays ml_X11_246 im_X11_allWays se_X11_allWays sR_0 rfl ⟨(Nat.le_of_ble_eq_true rfl), (Nat.le_of_ble_eq_true rfl)⟩ rfl rfl (Nat.le_of_ble_eq_true rfl)) rfl rfl rfl (Nat.zero_le _) (Nat.zero_le _) fun r9 h10 =>
    aw_iload_n (pc := 70) C (i := 3) dX11_past_70 rfl rfl <|
    aw_callF (pc := 71) C (cr_S (rest := []) (F := (X11_partOf r7 r9 v3)) C (c_X11_partOf X.2.1 r7 r9 v3) dX11_past_71 mf_X11_partOf ml_X11_250 st_X11_partOf ⟨(Nat.le_of_ble_eq_true rfl), (Nat.le_of_ble_eq_true rfl)⟩ rfl rfl (Nat.le_of_ble_eq_true rfl)) rfl rfl rfl (Nat.zero_le _) (Nat.zero_le _) fun r11 h12 =>
    aw_lret (pc := 74) C dX11_past_74 rfl rfl) (fun _ =>
    aw_aload_n (pc := 45) C (i := 0) dX11_past_45 rfl rfl <|
    aw_iload (pc := 46) C (i := 4) dX11_past_46 rfl <|
    aw_callF (pc := 48) C (cr_V (rest := []) (F := (X11_lowest v4)) C (c_X11_lowest X.2.1 v4) dX11_past_48 mf_X11_lowest ml_X11_238 im_X11_lowest se_X11_lowest sR_0 rfl ⟨(Nat.le_of_ble_eq_true rfl), (Nat.le_of_ble_eq_true rfl)⟩ rfl rfl (Nat.le_of_ble_eq_true rfl)) rfl rfl rfl (Nat.zero_le _) (Nat.zero_le _) fun r13 h14 =>
    aw_goto (pc := 51) C (tgt := 74) dX11_past_51 rfl <|
    aw_lret (pc := 74) C dX11_past_74 rfl rfl)
def X11_past_j20  (v1 : Int32) (v2 : Int32) (v3 : Int32) (s0 : Int32) (h : AH) : Option (Int64 × AH) :=
    if s0 = 0 then (bd (X11_isIn v3 0 1 h) fun r15 h16 =>
    if r15 = 0 then (vl (-2) fun x17 =>
    X11_past_j40 v1 v2 v3 x17 h16)
    else (X11_past_j40 v1 v2 v3 s0 h16))
    else (X11_past_j40 v1 v2 v3 s0 h)
set_option maxRecDepth 100000 in
theorem aX11_past_j20 {X : MCx} {yd : Dyn} {A : Nat → Prop} (C : OK X cX11_past RX11 5 (some .long) rmX11_past A)  (v1 : Int32) (v2 : Int32) (v3 : Int32) (s0 : Int32) (h : AH) : AW X 5 ZR yd A 0 0 (QF X rmX11_past ZR yd rvL A) 20 [(0, .ref 0), (1, .int v1), (2, .int v2), (3, .int v3)] [.int s0] h (X11_past_j20 v1 v2 v3 s0 h) := by
    exact aw_istore (pc := 20) C (i := 4) (lv' := [(0, .ref 0), (1, .int v1), (2, .int v2), (3, .int v3), (4, .int s0)]) dX11_past_20 (by decide) rfl <|
    aw_iload (pc := 22) C (i := 4) dX11_past_22 rfl <|
    aw_if_ne (pc := 24) C (tgt := 40) dX11_past_24 rfl (fun _ =>
    aw_iload_n (pc := 27) C (i := 3) dX11_past_27 rfl rfl <|
    aw_iconst (pc := 28) C (v := 0) dX11_past_28 rfl <|
    aw_iconst (pc := 29) C (v := 1) dX11_past_29 rfl <|
    aw_callF (pc := 30) C (cr_S (rest := []) (F := (X11_isIn v3 0 1)) C (c_X11_isIn X.2.1 v3 0 1) dX11_past_30 mf_X11_isIn ml_X11_126 st_X11_isIn ⟨(Nat.le_of_ble_eq_true rfl), (Nat.le_of_ble_eq_true rfl)⟩ rfl rfl (Nat.le_of_ble_eq_true rfl)) rfl rfl rfl (Nat.zero_le _) (Nat.zero_le _) fun r15 h16 =>
    aw_if_ne (pc := 33) C (tgt := 40) dX11_past_33 rfl (fun _ =>
    aw_bipush (pc := 36) C (v := (-2)) dX11_past_36 rfl <|
    aw_istoreV (pc := 38) C (i := 4) (fun x17 => [(0, .ref 0), (1, .int v1), (2, .int v2), (3, .int v3), (4, .int x17)]) dX11_past_38 (by decide) (fun _ => rfl) fun x17 =>
    (aX11_past_j40 C v1 v2 v3 x17 h16)) (fun _ =>
    (aX11_past_j40 C v1 v2 v3 s0 h16))) (fun _ =>
    (aX11_past_j40 C v1 v2 v3 s0 h))
def X11_past (v1 : Int32) (v2 : Int32) (v3 : Int32) (h : AH) : Option (Int64 × AH) :=
    bd (X11_isJumper v1 h) fun r1 h2 =>
    if r1 = 0 then (X11_past_j20 v1 v2 v3 (-1) h2)
    else (bd (X11_bound v2 0 999 h2) fun r3 h4 =>
    X11_past_j20 v1 v2 v3 r3 h4)
set_option maxRecDepth 100000 in
theorem c_X11_past (l : Launch) (v1 : Int32) (v2 : Int32) (v3 : Int32) : MC l yX11_past cX11_past 5 (some .long) rmX11_past ZR [.ref 0, .int v1, .int v2, .int v3] rvL (X11_past v1 v2 v3) :=
  MC.of (own := RX11) (by decide +kernel) rfl (Nat.le_of_ble_eq_true rfl) fun X yd A h _ C =>
    aw_aload_n (pc := 0) C (i := 0) dX11_past_0 rfl rfl <|
    aw_iload_n (pc := 1) C (i := 1) dX11_past_1 rfl rfl <|
    aw_callF (pc := 2) C (cr_V (rest := []) (F := (X11_isJumper v1)) C (c_X11_isJumper X.2.1 v1) dX11_past_2 mf_X11_isJumper ml_X11_207 im_X11_isJumper se_X11_isJumper sR_0 rfl ⟨(Nat.le_of_ble_eq_true rfl), (Nat.le_of_ble_eq_true rfl)⟩ rfl rfl (Nat.le_of_ble_eq_true rfl)) rfl rfl rfl (Nat.zero_le _) (Nat.zero_le _) fun r1 h2 =>
    aw_if_ne (pc := 5) C (tgt := 12) dX11_past_5 rfl (fun _ =>
    aw_iconst (pc := 8) C (v := (-1)) dX11_past_8 rfl <|
    aw_goto (pc := 9) C (tgt := 20) dX11_past_9 rfl <|
    (aX11_past_j20 C v1 v2 v3 (-1) h2)) (fun _ =>
    aw_iload_n (pc := 12) C (i := 2) dX11_past_12 rfl rfl <|
    aw_iconst (pc := 13) C (v := 0) dX11_past_13 rfl <|
    aw_sipush (pc := 14) C (v := 999) dX11_past_14 rfl <|
    aw_callF (pc := 17) C (cr_S (rest := []) (F := (X11_bound v2 0 999)) C (c_X11_bound X.2.1 v2 0 999) dX11_past_17 mf_X11_bound ml_X11_108 st_X11_bound ⟨(Nat.le_of_ble_eq_true rfl), (Nat.le_of_ble_eq_true rfl)⟩ rfl rfl (Nat.le_of_ble_eq_true rfl)) rfl rfl rfl (Nat.zero_le _) (Nat.zero_le _) fun r3 h4 =>
    (aX11_past_j20 C v1 v2 v3 r3 h4))

abbrev rmX11_bestLook : Room := { frames := 5, cells := 0, slots := 0, locals := 123 }
def X11_bestLook_j70  (v1 : Int32) (v2 : Int32) (v3 : Int32) (v4 : Int64) (v6 : Int32) (K31 : Int32 → Int64 → Int32 → AH → Option (Int32 × AH)) (h : AH) : Option (Int32 × AH) :=
    vl (v6 + 1) fun x9 =>
    K31 v3 v4 x9 h
set_option maxRecDepth 100000 in
theorem aX11_bestLook_j70 {X : MCx} {yd : Dyn} {A : Nat → Prop} (C : OK X cX11_bestLook RX11 9 (some .int) rmX11_bestLook A)  (v1 : Int32) (v2 : Int32) (v3 : Int32) (v4 : Int64) (v6 : Int32) (K31 : Int32 → Int64 → Int32 → AH → Option (Int32 × AH)) (hK31 : ∀ (w3 : Int32) (w4 : Int64) (w6 : Int32) (h : AH), AW X 9 ZR yd A 0 0 (QF X rmX11_bestLook ZR yd rvI A) 31 [(0, .ref 0), (1, .int v1), (2, .int v2), (3, .int w3), (4, .long w4), (6, .int w6)] [] h (K31 w3 w4 w6 h)) (h : AH) : AW X 9 ZR yd A 0 0 (QF X rmX11_bestLook ZR yd rvI A) 70 [(0, .ref 0), (1, .int v1), (2, .int v2), (3, .int v3), (4, .long v4), (6, .int v6)] [] h (X11_bestLook_j70 v1 v2 v3 v4 v6 K31 h) := by
    exact aw_iincV (pc := 70) C (i := 6) (cst := 1) (fun x9 => [(0, .ref 0), (1, .int v1), (2, .int v2), (3, .int v3), (4, .long v4), (6, .int x9)]) dX11_bestLook_70 rfl rfl (by decide) (fun _ => rfl) fun x9 =>
    aw_goto (pc := 73) C (tgt := 31) dX11_bestLook_73 rfl <|
    (hK31 v3 v4 x9 h)
def X11_bestLook_l31  (v1 : Int32) (v2 : Int32) : Nat → Int32 → Int64 → Int32 → AH → Option (Int32 × AH)
  | 0, _, _, _, _ => none
  | n + 1, v3, v4, v6, h =>
    if 5 ≤ v6 then (ck v1 4 (vl (sI h 8 v1.toNatClampNeg v2) fun h5 =>
    some (v3, h5)))
    else (ck v1 4 (vl (sI h 8 v1.toNatClampNeg v6) fun h6 =>
    bd (X11_meanParts v1 h6) fun r7 h8 =>
    if 0 < (lcmpV r7 v4) then (X11_bestLook_j70 v1 v2 v6 r7 v6 (X11_bestLook_l31 v1 v2 n) h8)
    else (X11_bestLook_j70 v1 v2 v3 v4 v6 (X11_bestLook_l31 v1 v2 n) h8)))
set_option maxRecDepth 100000 in
theorem aX11_bestLook_l31 {X : MCx} {yd : Dyn} {A : Nat → Prop} (C : OK X cX11_bestLook RX11 9 (some .int) rmX11_bestLook A)  (v1 : Int32) (v2 : Int32) : ∀ (n : Nat) (v3 : Int32) (v4 : Int64) (v6 : Int32) (h : AH), AW X 9 ZR yd A 0 0 (QF X rmX11_bestLook ZR yd rvI A) 31 [(0, .ref 0), (1, .int v1), (2, .int v2), (3, .int v3), (4, .long v4), (6, .int v6)] [] h (X11_bestLook_l31 v1 v2 n v3 v4 v6 h) := by
  intro n
  induction n with
  | zero => intro v3 v4 v6 h; exact aw_none
  | succ n ih =>
    intro v3 v4 v6 h
    exact aw_iload (pc := 31) C (i := 6) dX11_bestLook_31 rfl <|
    aw_iconst (pc := 33) C (v := 5) dX11_bestLook_33 rfl <|
    aw_icmp_ge (pc := 34) C (tgt := 76) dX11_bestLook_34 rfl (fun _ =>
    aw_aload_n (pc := 76) C (i := 0) dX11_bestLook_76 rfl rfl <|
    aw_getR (pc := 77) C (b := 8) dX11_bestLook_77 fl_X11_31 sR_0 rfl rR_0_7 <|
    aw_iload_n (pc := 80) C (i := 1) dX11_bestLook_80 rfl rfl <|
    aw_iload_n (pc := 81) C (i := 2) dX11_bestLook_81 rfl rfl <|
    aw_iast (pc := 82) C dX11_bestLook_82 sR_8 rfl fun h5 =>
    aw_iload_n (pc := 83) C (i := 3) dX11_bestLook_83 rfl rfl <|
    aw_iret (pc := 84) C dX11_bestLook_84 rfl rfl) (fun _ =>
    aw_aload_n (pc := 37) C (i := 0) dX11_bestLook_37 rfl rfl <|
    aw_getR (pc := 38) C (b := 8) dX11_bestLook_38 fl_X11_31 sR_0 rfl rR_0_7 <|
    aw_iload_n (pc := 41) C (i := 1) dX11_bestLook_41 rfl rfl <|
    aw_iload (pc := 42) C (i := 6) dX11_bestLook_42 rfl <|
    aw_iast (pc := 44) C dX11_bestLook_44 sR_8 rfl fun h6 =>
    aw_aload_n (pc := 45) C (i := 0) dX11_bestLook_45 rfl rfl <|
    aw_iload_n (pc := 46) C (i := 1) dX11_bestLook_46 rfl rfl <|
    aw_callF (pc := 47) C (cr_V (rest := []) (F := (X11_meanParts v1)) C (c_X11_meanParts X.2.1 v1) dX11_bestLook_47 mf_X11_meanParts ml_X11_254 im_X11_meanParts se_X11_meanParts sR_0 rfl ⟨(Nat.le_of_ble_eq_true rfl), (Nat.le_of_ble_eq_true rfl)⟩ rfl rfl (Nat.le_of_ble_eq_true rfl)) rfl rfl rfl (Nat.zero_le _) (Nat.zero_le _) fun r7 h8 =>
    aw_lstore (pc := 50) C (i := 7) (lv' := [(0, .ref 0), (1, .int v1), (2, .int v2), (3, .int v3), (4, .long v4), (6, .int v6), (7, .long r7)]) dX11_bestLook_50 (by decide) rfl <|
    aw_lload (pc := 52) C (i := 7) dX11_bestLook_52 rfl <|
    aw_lload (pc := 54) C (i := 4) dX11_bestLook_54 rfl <|
    aw_lcmp (pc := 56) C dX11_bestLook_56 <|
    aw_if_gt (pc := 57) C (tgt := 63) dX11_bestLook_57 rfl (fun _ =>
    aw_iload (pc := 63) C (i := 6) dX11_bestLook_63 rfl <|
    aw_istore_n (pc := 65) C (i := 3) (lv' := [(0, .ref 0), (1, .int v1), (2, .int v2), (3, .int v6), (4, .long v4), (6, .int v6), (7, .long r7)]) dX11_bestLook_65 rfl (by decide) rfl <|
    aw_lload (pc := 66) C (i := 7) dX11_bestLook_66 rfl <|
    aw_lstore (pc := 68) C (i := 4) (lv' := [(0, .ref 0), (1, .int v1), (2, .int v2), (3, .int v6), (4, .long r7), (6, .int v6), (7, .long r7)]) dX11_bestLook_68 (by decide) rfl <|
    aw_drop [0, 1, 2, 3, 4, 5] (aX11_bestLook_j70 C v1 v2 v6 r7 v6 (X11_bestLook_l31 v1 v2 n) ih h8)) (fun _ =>
    aw_goto (pc := 60) C (tgt := 70) dX11_bestLook_60 rfl <|
    aw_drop [0, 1, 2, 3, 4, 5] (aX11_bestLook_j70 C v1 v2 v3 v4 v6 (X11_bestLook_l31 v1 v2 n) ih h8)))
def X11_bestLook (v1 : Int32) (h : AH) : Option (Int32 × AH) :=
    bd (X11_isJumper v1 h) fun r1 h2 =>
    if r1 = 0 then (bd (X11_no (-1) h2) fun r10 h11 =>
    some (r10, h11))
    else (ck v1 4 (vl (h2.1 8 v1.toNatClampNeg) fun x3 =>
    vl (-1) fun x4 =>
    X11_bestLook_l31 v1 x3 FU 0 x4 0 h2))
set_option maxRecDepth 100000 in
theorem c_X11_bestLook (l : Launch) (v1 : Int32) : MC l yX11_bestLook cX11_bestLook 9 (some .int) rmX11_bestLook ZR [.ref 0, .int v1] rvI (X11_bestLook v1) :=
  MC.of (own := RX11) (by decide +kernel) rfl (Nat.le_of_ble_eq_true rfl) fun X yd A h _ C =>
    aw_aload_n (pc := 0) C (i := 0) dX11_bestLook_0 rfl rfl <|
    aw_iload_n (pc := 1) C (i := 1) dX11_bestLook_1 rfl rfl <|
    aw_callF (pc := 2) C (cr_V (rest := []) (F := (X11_isJumper v1)) C (c_X11_isJumper X.2.1 v1) dX11_bestLook_2 mf_X11_isJumper ml_X11_207 im_X11_isJumper se_X11_isJumper sR_0 rfl ⟨(Nat.le_of_ble_eq_true rfl), (Nat.le_of_ble_eq_true rfl)⟩ rfl rfl (Nat.le_of_ble_eq_true rfl)) rfl rfl rfl (Nat.zero_le _) (Nat.zero_le _) fun r1 h2 =>
    aw_if_ne (pc := 5) C (tgt := 14) dX11_bestLook_5 rfl (fun _ =>
    aw_aload_n (pc := 8) C (i := 0) dX11_bestLook_8 rfl rfl <|
    aw_iconst (pc := 9) C (v := (-1)) dX11_bestLook_9 rfl <|
    aw_callF (pc := 10) C (cr_V (rest := []) (F := (X11_no (-1))) C (c_X11_no X.2.1 (-1)) dX11_bestLook_10 mf_X11_no ml_X11_115 im_X11_no se_X11_no sR_0 rfl ⟨(Nat.le_of_ble_eq_true rfl), (Nat.le_of_ble_eq_true rfl)⟩ rfl rfl (Nat.le_of_ble_eq_true rfl)) rfl rfl rfl (Nat.zero_le _) (Nat.zero_le _) fun r10 h11 =>
    aw_iret (pc := 13) C dX11_bestLook_13 rfl rfl) (fun _ =>
    aw_aload_n (pc := 14) C (i := 0) dX11_bestLook_14 rfl rfl <|
    aw_getR (pc := 15) C (b := 8) dX11_bestLook_15 fl_X11_31 sR_0 rfl rR_0_7 <|
    aw_iload_n (pc := 18) C (i := 1) dX11_bestLook_18 rfl rfl <|
    aw_iald (pc := 19) C dX11_bestLook_19 sR_8 rfl <|
    aw_istoreV_n (pc := 20) C (i := 2) (fun x3 => [(0, .ref 0), (1, .int v1), (2, .int x3)]) dX11_bestLook_20 rfl (by decide) (fun _ => rfl) fun x3 =>
    aw_iconst (pc := 21) C (v := 0) dX11_bestLook_21 rfl <|
    aw_istore_n (pc := 22) C (i := 3) (lv' := [(0, .ref 0), (1, .int v1), (2, .int x3), (3, .int 0)]) dX11_bestLook_22 rfl (by decide) rfl <|
    aw_ldc2_w (pc := 23) C (v := (-1)) dX11_bestLook_23 kc_X11_257 <|
    aw_lstoreV (pc := 26) C (i := 4) (fun x4 => [(0, .ref 0), (1, .int v1), (2, .int x3), (3, .int 0), (4, .long x4)]) dX11_bestLook_26 (by decide) (fun _ => rfl) fun x4 =>
    aw_iconst (pc := 28) C (v := 0) dX11_bestLook_28 rfl <|
    aw_istore (pc := 29) C (i := 6) (lv' := [(0, .ref 0), (1, .int v1), (2, .int x3), (3, .int 0), (4, .long x4), (6, .int 0)]) dX11_bestLook_29 (by decide) rfl <|
    (aX11_bestLook_l31 C v1 x3 FU 0 x4 0 h2))

abbrev rmX11_bestMark : Room := { frames := 4, cells := 0, slots := 0, locals := 102 }
def X11_bestMark_j143  (v1 : Int32) (v2 : Int32) (v4 : Int32) (v5 : Int32) (v6 : Int64) (v8 : Int32) (K51 : Int32 → Int64 → Int32 → AH → Option (Int32 × AH)) (h : AH) : Option (Int32 × AH) :=
    vl (v8 + 1) fun x15 =>
    K51 v5 v6 x15 h
set_option maxRecDepth 100000 in
theorem aX11_bestMark_j143 {X : MCx} {yd : Dyn} {A : Nat → Prop} (C : OK X cX11_bestMark RX11 11 (some .int) rmX11_bestMark A)  (v1 : Int32) (v2 : Int32) (v4 : Int32) (v5 : Int32) (v6 : Int64) (v8 : Int32) (K51 : Int32 → Int64 → Int32 → AH → Option (Int32 × AH)) (hK51 : ∀ (w5 : Int32) (w6 : Int64) (w8 : Int32) (h : AH), AW X 11 ZR yd A 0 0 (QF X rmX11_bestMark ZR yd rvI A) 51 [(0, .ref 0), (1, .int v1), (2, .int v2), (4, .int v4), (5, .int w5), (6, .long w6), (8, .int w8)] [] h (K51 w5 w6 w8 h)) (h : AH) : AW X 11 ZR yd A 0 0 (QF X rmX11_bestMark ZR yd rvI A) 143 [(0, .ref 0), (1, .int v1), (2, .int v2), (4, .int v4), (5, .int v5), (6, .long v6), (8, .int v8)] [] h (X11_bestMark_j143 v1 v2 v4 v5 v6 v8 K51 h) := by
    exact aw_iincV (pc := 143) C (i := 8) (cst := 1) (fun x15 => [(0, .ref 0), (1, .int v1), (2, .int v2), (4, .int v4), (5, .int v5), (6, .long v6), (8, .int x15)]) dX11_bestMark_143 rfl rfl (by decide) (fun _ => rfl) fun x15 =>
    aw_goto (pc := 146) C (tgt := 51) dX11_bestMark_146 rfl <|
    (hK51 v5 v6 x15 h)
def X11_bestMark_j114  (v1 : Int32) (v2 : Int32) (v4 : Int32) (v5 : Int32) (v6 : Int64) (v8 : Int32) (K51 : Int32 → Int64 → Int32 → AH → Option (Int32 × AH)) (s0 : Int32) (s1 : Int32) (s2 : Int32) (h : AH) : Option (Int32 × AH) :=
    bd (X11_counted s2 s1 s0 v2 h) fun r12 h13 =>
    if 0 < (lcmpV r12 v6) then (ck v1 4 (vl (h13.1 9 v1.toNatClampNeg) fun x14 =>
    X11_bestMark_j143 v1 v2 v4 x14 r12 v8 K51 h13))
    else (X11_bestMark_j143 v1 v2 v4 v5 v6 v8 K51 h13)
set_option maxRecDepth 100000 in
theorem aX11_bestMark_j114 {X : MCx} {yd : Dyn} {A : Nat → Prop} (C : OK X cX11_bestMark RX11 11 (some .int) rmX11_bestMark A)  (v1 : Int32) (v2 : Int32) (v4 : Int32) (v5 : Int32) (v6 : Int64) (v8 : Int32) (K51 : Int32 → Int64 → Int32 → AH → Option (Int32 × AH)) (hK51 : ∀ (w5 : Int32) (w6 : Int64) (w8 : Int32) (h : AH), AW X 11 ZR yd A 0 0 (QF X rmX11_bestMark ZR yd rvI A) 51 [(0, .ref 0), (1, .int v1), (2, .int v2), (4, .int v4), (5, .int w5), (6, .long w6), (8, .int w8)] [] h (K51 w5 w6 w8 h)) (s0 : Int32) (s1 : Int32) (s2 : Int32) (h : AH) : AW X 11 ZR yd A 0 0 (QF X rmX11_bestMark ZR yd rvI A) 114 [(0, .ref 0), (1, .int v1), (2, .int v2), (4, .int v4), (5, .int v5), (6, .long v6), (8, .int v8)] [.int s0, .int s1, .int s2, .ref 0] h (X11_bestMark_j114 v1 v2 v4 v5 v6 v8 K51 s0 s1 s2 h) := by
    exact aw_iload_n (pc := 114) C (i := 2) dX11_bestMark_114 rfl rfl <|
    aw_callF (pc := 115) C (cr_V (rest := []) (F := (X11_counted s2 s1 s0 v2)) C (c_X11_counted X.2.1 s2 s1 s0 v2) dX11_bestMark_115 mf_X11_counted ml_X11_242 im_X11_counted se_X11_counted sR_0 rfl ⟨(Nat.le_of_ble_eq_true rfl), (Nat.le_of_ble_eq_true rfl)⟩ rfl rfl (Nat.le_of_ble_eq_true rfl)) rfl rfl rfl (Nat.zero_le _) (Nat.zero_le _) fun r12 h13 =>
    aw_lstore (pc := 118) C (i := 9) (lv' := [(0, .ref 0), (1, .int v1), (2, .int v2), (4, .int v4), (5, .int v5), (6, .long v6), (8, .int v8), (9, .long r12)]) dX11_bestMark_118 (by decide) rfl <|
    aw_lload (pc := 120) C (i := 9) dX11_bestMark_120 rfl <|
    aw_lload (pc := 122) C (i := 6) dX11_bestMark_122 rfl <|
    aw_lcmp (pc := 124) C dX11_bestMark_124 <|
    aw_if_gt (pc := 125) C (tgt := 131) dX11_bestMark_125 rfl (fun _ =>
    aw_aload_n (pc := 131) C (i := 0) dX11_bestMark_131 rfl rfl <|
    aw_getR (pc := 132) C (b := 9) dX11_bestMark_132 fl_X11_34 sR_0 rfl rR_0_8 <|
    aw_iload_n (pc := 135) C (i := 1) dX11_bestMark_135 rfl rfl <|
    aw_iald (pc := 136) C dX11_bestMark_136 sR_9 rfl <|
    aw_istoreV (pc := 137) C (i := 5) (fun x14 => [(0, .ref 0), (1, .int v1), (2, .int v2), (4, .int v4), (5, .int x14), (6, .long v6), (8, .int v8), (9, .long r12)]) dX11_bestMark_137 (by decide) (fun _ => rfl) fun x14 =>
    aw_lload (pc := 139) C (i := 9) dX11_bestMark_139 rfl <|
    aw_lstore (pc := 141) C (i := 6) (lv' := [(0, .ref 0), (1, .int v1), (2, .int v2), (4, .int v4), (5, .int x14), (6, .long r12), (8, .int v8), (9, .long r12)]) dX11_bestMark_141 (by decide) rfl <|
    aw_drop [0, 1, 2, 3, 4, 5, 6] (aX11_bestMark_j143 C v1 v2 v4 x14 r12 v8 K51 hK51 h13)) (fun _ =>
    aw_goto (pc := 128) C (tgt := 143) dX11_bestMark_128 rfl <|
    aw_drop [0, 1, 2, 3, 4, 5, 6] (aX11_bestMark_j143 C v1 v2 v4 v5 v6 v8 K51 hK51 h13))
def X11_bestMark_j97  (v1 : Int32) (v2 : Int32) (v4 : Int32) (v5 : Int32) (v6 : Int64) (v8 : Int32) (K51 : Int32 → Int64 → Int32 → AH → Option (Int32 × AH)) (s0 : Int32) (s1 : Int32) (h : AH) : Option (Int32 × AH) :=
    ck s1 4 (vl (sI h 9 s1.toNatClampNeg s0) fun h9 =>
    bd (X11_placeOf v1 h9) fun r10 h11 =>
    if 0 ≤ v2 then (X11_bestMark_j114 v1 v2 v4 v5 v6 v8 K51 3 r10 v1 h11)
    else (X11_bestMark_j114 v1 v2 v4 v5 v6 v8 K51 2 r10 v1 h11))
set_option maxRecDepth 100000 in
theorem aX11_bestMark_j97 {X : MCx} {yd : Dyn} {A : Nat → Prop} (C : OK X cX11_bestMark RX11 11 (some .int) rmX11_bestMark A)  (v1 : Int32) (v2 : Int32) (v4 : Int32) (v5 : Int32) (v6 : Int64) (v8 : Int32) (K51 : Int32 → Int64 → Int32 → AH → Option (Int32 × AH)) (hK51 : ∀ (w5 : Int32) (w6 : Int64) (w8 : Int32) (h : AH), AW X 11 ZR yd A 0 0 (QF X rmX11_bestMark ZR yd rvI A) 51 [(0, .ref 0), (1, .int v1), (2, .int v2), (4, .int v4), (5, .int w5), (6, .long w6), (8, .int w8)] [] h (K51 w5 w6 w8 h)) (s0 : Int32) (s1 : Int32) (h : AH) : AW X 11 ZR yd A 0 0 (QF X rmX11_bestMark ZR yd rvI A) 97 [(0, .ref 0), (1, .int v1), (2, .int v2), (4, .int v4), (5, .int v5), (6, .long v6), (8, .int v8)] [.int s0, .int s1, .ref 9] h (X11_bestMark_j97 v1 v2 v4 v5 v6 v8 K51 s0 s1 h) := by
    exact aw_iast (pc := 97) C dX11_bestMark_97 sR_9 rfl fun h9 =>
    aw_aload_n (pc := 98) C (i := 0) dX11_bestMark_98 rfl rfl <|
    aw_iload_n (pc := 99) C (i := 1) dX11_bestMark_99 rfl rfl <|
    aw_aload_n (pc := 100) C (i := 0) dX11_bestMark_100 rfl rfl <|
    aw_iload_n (pc := 101) C (i := 1) dX11_bestMark_101 rfl rfl <|
    aw_callF (pc := 102) C (cr_V (rest := [.int v1, .ref 0]) (F := (X11_placeOf v1)) C (c_X11_placeOf X.2.1 v1) dX11_bestMark_102 mf_X11_placeOf ml_X11_223 im_X11_placeOf se_X11_placeOf sR_0 rfl ⟨(Nat.le_of_ble_eq_true rfl), (Nat.le_of_ble_eq_true rfl)⟩ rfl rfl (Nat.le_of_ble_eq_true rfl)) rfl rfl rfl (Nat.zero_le _) (Nat.zero_le _) fun r10 h11 =>
    aw_iload_n (pc := 105) C (i := 2) dX11_bestMark_105 rfl rfl <|
    aw_if_ge (pc := 106) C (tgt := 113) dX11_bestMark_106 rfl (fun _ =>
    aw_iconst (pc := 113) C (v := 3) dX11_bestMark_113 rfl <|
    (aX11_bestMark_j114 C v1 v2 v4 v5 v6 v8 K51 hK51 3 r10 v1 h11)) (fun _ =>
    aw_iconst (pc := 109) C (v := 2) dX11_bestMark_109 rfl <|
    aw_goto (pc := 110) C (tgt := 114) dX11_bestMark_110 rfl <|
    (aX11_bestMark_j114 C v1 v2 v4 v5 v6 v8 K51 hK51 2 r10 v1 h11))
def X11_bestMark_l51  (v1 : Int32) (v2 : Int32) (v4 : Int32) : Nat → Int32 → Int64 → Int32 → AH → Option (Int32 × AH)
  | 0, _, _, _, _ => none
  | n + 1, v5, v6, v8, h =>
    if 41 ≤ v8 then (ck v1 4 (vl (sI h 9 v1.toNatClampNeg v4) fun h8 =>
    some (v5, h8)))
    else (if 0 ≤ (v4 + v8) then (if (v4 + v8) ≤ 2400 then (X11_bestMark_j97 v1 v2 v4 v5 v6 v8 (X11_bestMark_l51 v1 v2 v4 n) (v4 + v8) v1 h)
    else (X11_bestMark_j97 v1 v2 v4 v5 v6 v8 (X11_bestMark_l51 v1 v2 v4 n) 2400 v1 h))
    else (X11_bestMark_j97 v1 v2 v4 v5 v6 v8 (X11_bestMark_l51 v1 v2 v4 n) 0 v1 h))
set_option maxRecDepth 100000 in
theorem aX11_bestMark_l51 {X : MCx} {yd : Dyn} {A : Nat → Prop} (C : OK X cX11_bestMark RX11 11 (some .int) rmX11_bestMark A)  (v1 : Int32) (v2 : Int32) (v4 : Int32) : ∀ (n : Nat) (v5 : Int32) (v6 : Int64) (v8 : Int32) (h : AH), AW X 11 ZR yd A 0 0 (QF X rmX11_bestMark ZR yd rvI A) 51 [(0, .ref 0), (1, .int v1), (2, .int v2), (4, .int v4), (5, .int v5), (6, .long v6), (8, .int v8)] [] h (X11_bestMark_l51 v1 v2 v4 n v5 v6 v8 h) := by
  intro n
  induction n with
  | zero => intro v5 v6 v8 h; exact aw_none
  | succ n ih =>
    intro v5 v6 v8 h
    exact aw_iload (pc := 51) C (i := 8) dX11_bestMark_51 rfl <|
    aw_bipush (pc := 53) C (v := 41) dX11_bestMark_53 rfl <|
    aw_icmp_ge (pc := 55) C (tgt := 149) dX11_bestMark_55 rfl (fun _ =>
    aw_aload_n (pc := 149) C (i := 0) dX11_bestMark_149 rfl rfl <|
    aw_getR (pc := 150) C (b := 9) dX11_bestMark_150 fl_X11_34 sR_0 rfl rR_0_8 <|
    aw_iload_n (pc := 153) C (i := 1) dX11_bestMark_153 rfl rfl <|
    aw_iload (pc := 154) C (i := 4) dX11_bestMark_154 rfl <|
    aw_iast (pc := 156) C dX11_bestMark_156 sR_9 rfl fun h8 =>
    aw_iload (pc := 157) C (i := 5) dX11_bestMark_157 rfl <|
    aw_iret (pc := 159) C dX11_bestMark_159 rfl rfl) (fun _ =>
    aw_aload_n (pc := 58) C (i := 0) dX11_bestMark_58 rfl rfl <|
    aw_getR (pc := 59) C (b := 9) dX11_bestMark_59 fl_X11_34 sR_0 rfl rR_0_8 <|
    aw_iload_n (pc := 62) C (i := 1) dX11_bestMark_62 rfl rfl <|
    aw_iload (pc := 63) C (i := 4) dX11_bestMark_63 rfl <|
    aw_iload (pc := 65) C (i := 8) dX11_bestMark_65 rfl <|
    aw_iadd (pc := 67) C dX11_bestMark_67 <|
    aw_if_ge (pc := 68) C (tgt := 75) dX11_bestMark_68 rfl (fun _ =>
    aw_iload (pc := 75) C (i := 4) dX11_bestMark_75 rfl <|
    aw_iload (pc := 77) C (i := 8) dX11_bestMark_77 rfl <|
    aw_iadd (pc := 79) C dX11_bestMark_79 <|
    aw_sipush (pc := 80) C (v := 2400) dX11_bestMark_80 rfl <|
    aw_icmp_le (pc := 83) C (tgt := 92) dX11_bestMark_83 rfl (fun _ =>
    aw_iload (pc := 92) C (i := 4) dX11_bestMark_92 rfl <|
    aw_iload (pc := 94) C (i := 8) dX11_bestMark_94 rfl <|
    aw_iadd (pc := 96) C dX11_bestMark_96 <|
    (aX11_bestMark_j97 C v1 v2 v4 v5 v6 v8 (X11_bestMark_l51 v1 v2 v4 n) ih (v4 + v8) v1 h)) (fun _ =>
    aw_sipush (pc := 86) C (v := 2400) dX11_bestMark_86 rfl <|
    aw_goto (pc := 89) C (tgt := 97) dX11_bestMark_89 rfl <|
    (aX11_bestMark_j97 C v1 v2 v4 v5 v6 v8 (X11_bestMark_l51 v1 v2 v4 n) ih 2400 v1 h))) (fun _ =>
    aw_iconst (pc := 71) C (v := 0) dX11_bestMark_71 rfl <|
    aw_goto (pc := 72) C (tgt := 97) dX11_bestMark_72 rfl <|
    (aX11_bestMark_j97 C v1 v2 v4 v5 v6 v8 (X11_bestMark_l51 v1 v2 v4 n) ih 0 v1 h)))
def X11_bestMark_j20  (v1 : Int32) (v2 : Int32) (s0 : Int32) (h : AH) : Option (Int32 × AH) :=
    if s0 = 0 then (ck v1 4 (vl (h.1 9 v1.toNatClampNeg) fun x5 =>
    vl (-1) fun x6 =>
    vl (-40) fun x7 =>
    X11_bestMark_l51 v1 v2 x5 FU 0 x6 x7 h))
    else (bd (X11_no s0 h) fun r16 h17 =>
    some (r16, h17))
set_option maxRecDepth 100000 in
theorem aX11_bestMark_j20 {X : MCx} {yd : Dyn} {A : Nat → Prop} (C : OK X cX11_bestMark RX11 11 (some .int) rmX11_bestMark A)  (v1 : Int32) (v2 : Int32) (s0 : Int32) (h : AH) : AW X 11 ZR yd A 0 0 (QF X rmX11_bestMark ZR yd rvI A) 20 [(0, .ref 0), (1, .int v1), (2, .int v2)] [.int s0] h (X11_bestMark_j20 v1 v2 s0 h) := by
    exact aw_istore_n (pc := 20) C (i := 3) (lv' := [(0, .ref 0), (1, .int v1), (2, .int v2), (3, .int s0)]) dX11_bestMark_20 rfl (by decide) rfl <|
    aw_iload_n (pc := 21) C (i := 3) dX11_bestMark_21 rfl rfl <|
    aw_if_eq (pc := 22) C (tgt := 31) dX11_bestMark_22 rfl (fun _ =>
    aw_aload_n (pc := 31) C (i := 0) dX11_bestMark_31 rfl rfl <|
    aw_getR (pc := 32) C (b := 9) dX11_bestMark_32 fl_X11_34 sR_0 rfl rR_0_8 <|
    aw_iload_n (pc := 35) C (i := 1) dX11_bestMark_35 rfl rfl <|
    aw_iald (pc := 36) C dX11_bestMark_36 sR_9 rfl <|
    aw_istoreV (pc := 37) C (i := 4) (fun x5 => [(0, .ref 0), (1, .int v1), (2, .int v2), (3, .int s0), (4, .int x5)]) dX11_bestMark_37 (by decide) (fun _ => rfl) fun x5 =>
    aw_iconst (pc := 39) C (v := 0) dX11_bestMark_39 rfl <|
    aw_istore (pc := 40) C (i := 5) (lv' := [(0, .ref 0), (1, .int v1), (2, .int v2), (3, .int s0), (4, .int x5), (5, .int 0)]) dX11_bestMark_40 (by decide) rfl <|
    aw_ldc2_w (pc := 42) C (v := (-1)) dX11_bestMark_42 kc_X11_257 <|
    aw_lstoreV (pc := 45) C (i := 6) (fun x6 => [(0, .ref 0), (1, .int v1), (2, .int v2), (3, .int s0), (4, .int x5), (5, .int 0), (6, .long x6)]) dX11_bestMark_45 (by decide) (fun _ => rfl) fun x6 =>
    aw_bipush (pc := 47) C (v := (-40)) dX11_bestMark_47 rfl <|
    aw_istoreV (pc := 49) C (i := 8) (fun x7 => [(0, .ref 0), (1, .int v1), (2, .int v2), (3, .int s0), (4, .int x5), (5, .int 0), (6, .long x6), (8, .int x7)]) dX11_bestMark_49 (by decide) (fun _ => rfl) fun x7 =>
    aw_drop [0, 1, 2, 4, 5, 6, 7] (aX11_bestMark_l51 C v1 v2 x5 FU 0 x6 x7 h)) (fun _ =>
    aw_aload_n (pc := 25) C (i := 0) dX11_bestMark_25 rfl rfl <|
    aw_iload_n (pc := 26) C (i := 3) dX11_bestMark_26 rfl rfl <|
    aw_callF (pc := 27) C (cr_V (rest := []) (F := (X11_no s0)) C (c_X11_no X.2.1 s0) dX11_bestMark_27 mf_X11_no ml_X11_115 im_X11_no se_X11_no sR_0 rfl ⟨(Nat.le_of_ble_eq_true rfl), (Nat.le_of_ble_eq_true rfl)⟩ rfl rfl (Nat.le_of_ble_eq_true rfl)) rfl rfl rfl (Nat.zero_le _) (Nat.zero_le _) fun r16 h17 =>
    aw_iret (pc := 30) C dX11_bestMark_30 rfl rfl)
def X11_bestMark (v1 : Int32) (v2 : Int32) (h : AH) : Option (Int32 × AH) :=
    bd (X11_isJumper v1 h) fun r1 h2 =>
    if r1 = 0 then (X11_bestMark_j20 v1 v2 (-1) h2)
    else (bd (X11_bound v2 (-1) 999 h2) fun r3 h4 =>
    X11_bestMark_j20 v1 v2 r3 h4)
set_option maxRecDepth 100000 in
theorem c_X11_bestMark (l : Launch) (v1 : Int32) (v2 : Int32) : MC l yX11_bestMark cX11_bestMark 11 (some .int) rmX11_bestMark ZR [.ref 0, .int v1, .int v2] rvI (X11_bestMark v1 v2) :=
  MC.of (own := RX11) (by decide +kernel) rfl (Nat.le_of_ble_eq_true rfl) fun X yd A h _ C =>
    aw_aload_n (pc := 0) C (i := 0) dX11_bestMark_0 rfl rfl <|
    aw_iload_n (pc := 1) C (i := 1) dX11_bestMark_1 rfl rfl <|
    aw_callF (pc := 2) C (cr_V (rest := []) (F := (X11_isJumper v1)) C (c_X11_isJumper X.2.1 v1) dX11_bestMark_2 mf_X11_isJumper ml_X11_207 im_X11_isJumper se_X11_isJumper sR_0 rfl ⟨(Nat.le_of_ble_eq_true rfl), (Nat.le_of_ble_eq_true rfl)⟩ rfl rfl (Nat.le_of_ble_eq_true rfl)) rfl rfl rfl (Nat.zero_le _) (Nat.zero_le _) fun r1 h2 =>
    aw_if_ne (pc := 5) C (tgt := 12) dX11_bestMark_5 rfl (fun _ =>
    aw_iconst (pc := 8) C (v := (-1)) dX11_bestMark_8 rfl <|
    aw_goto (pc := 9) C (tgt := 20) dX11_bestMark_9 rfl <|
    (aX11_bestMark_j20 C v1 v2 (-1) h2)) (fun _ =>
    aw_iload_n (pc := 12) C (i := 2) dX11_bestMark_12 rfl rfl <|
    aw_iconst (pc := 13) C (v := (-1)) dX11_bestMark_13 rfl <|
    aw_sipush (pc := 14) C (v := 999) dX11_bestMark_14 rfl <|
    aw_callF (pc := 17) C (cr_S (rest := []) (F := (X11_bound v2 (-1) 999)) C (c_X11_bound X.2.1 v2 (-1) 999) dX11_bestMark_17 mf_X11_bound ml_X11_108 st_X11_bound ⟨(Nat.le_of_ble_eq_true rfl), (Nat.le_of_ble_eq_true rfl)⟩ rfl rfl (Nat.le_of_ble_eq_true rfl)) rfl rfl rfl (Nat.zero_le _) (Nat.zero_le _) fun r3 h4 =>
    (aX11_bestMark_j20 C v1 v2 r3 h4))

abbrev rmX11_back : Room := { frames := 2, cells := 0, slots := 0, locals := 48 }
def X11_back_j20  (v1 : Int32) (v2 : Int32) (s0 : Int32) (h : AH) : Option (Int32 × AH) :=
    if s0 = 0 then (bd (X11_allStrides v1 v2 h) fun r5 h6 =>
    bd (X11_allStrides v1 (h6.1 0 14) h6) fun r7 h8 =>
    some ((r5 - r7), h8))
    else (bd (X11_lower s0 h) fun r9 h10 =>
    some (r9, h10))
set_option maxRecDepth 100000 in
theorem aX11_back_j20 {X : MCx} {yd : Dyn} {A : Nat → Prop} (C : OK X cX11_back RX11 4 (some .int) rmX11_back A)  (v1 : Int32) (v2 : Int32) (s0 : Int32) (h : AH) : AW X 4 ZR yd A 0 0 (QF X rmX11_back ZR yd rvI A) 20 [(0, .ref 0), (1, .int v1), (2, .int v2)] [.int s0] h (X11_back_j20 v1 v2 s0 h) := by
    exact aw_istore_n (pc := 20) C (i := 3) (lv' := [(0, .ref 0), (1, .int v1), (2, .int v2), (3, .int s0)]) dX11_back_20 rfl (by decide) rfl <|
    aw_iload_n (pc := 21) C (i := 3) dX11_back_21 rfl rfl <|
    aw_if_eq (pc := 22) C (tgt := 33) dX11_back_22 rfl (fun _ =>
    aw_aload_n (pc := 33) C (i := 0) dX11_back_33 rfl rfl <|
    aw_iload_n (pc := 34) C (i := 1) dX11_back_34 rfl rfl <|
    aw_iload_n (pc := 35) C (i := 2) dX11_back_35 rfl rfl <|
    aw_callF (pc := 36) C (cr_V (rest := []) (F := (X11_allStrides v1 v2)) C (c_X11_allStrides X.2.1 v1 v2) dX11_back_36 mf_X11_allStrides ml_X11_200 im_X11_allStrides se_X11_allStrides sR_0 rfl ⟨(Nat.le_of_ble_eq_true rfl), (Nat.le_of_ble_eq_true rfl)⟩ rfl rfl (Nat.le_of_ble_eq_true rfl)) rfl rfl rfl (Nat.zero_le _) (Nat.zero_le _) fun r5 h6 =>
    aw_aload_n (pc := 39) C (i := 0) dX11_back_39 rfl rfl <|
    aw_iload_n (pc := 40) C (i := 1) dX11_back_40 rfl rfl <|
    aw_aload_n (pc := 41) C (i := 0) dX11_back_41 rfl rfl <|
    aw_getI (pc := 42) C dX11_back_42 fl_X11_157 sR_0 rfl <|
    aw_callF (pc := 45) C (cr_V (rest := [.int r5]) (F := (X11_allStrides v1 (h6.1 0 14))) C (c_X11_allStrides X.2.1 v1 (h6.1 0 14)) dX11_back_45 mf_X11_allStrides ml_X11_200 im_X11_allStrides se_X11_allStrides sR_0 rfl ⟨(Nat.le_of_ble_eq_true rfl), (Nat.le_of_ble_eq_true rfl)⟩ rfl rfl (Nat.le_of_ble_eq_true rfl)) rfl rfl rfl (Nat.zero_le _) (Nat.zero_le _) fun r7 h8 =>
    aw_isub (pc := 48) C dX11_back_48 <|
    aw_iret (pc := 49) C dX11_back_49 rfl rfl) (fun _ =>
    aw_aload_n (pc := 25) C (i := 0) dX11_back_25 rfl rfl <|
    aw_iload_n (pc := 26) C (i := 3) dX11_back_26 rfl rfl <|
    aw_callF (pc := 27) C (cr_V (rest := []) (F := (X11_lower s0)) C (c_X11_lower X.2.1 s0) dX11_back_27 mf_X11_lower ml_X11_220 im_X11_lower se_X11_lower sR_0 rfl ⟨(Nat.le_of_ble_eq_true rfl), (Nat.le_of_ble_eq_true rfl)⟩ rfl rfl (Nat.le_of_ble_eq_true rfl)) rfl rfl rfl (Nat.zero_le _) (Nat.zero_le _) fun r9 h10 =>
    aw_goto (pc := 30) C (tgt := 49) dX11_back_30 rfl <|
    aw_iret (pc := 49) C dX11_back_49 rfl rfl)
def X11_back (v1 : Int32) (v2 : Int32) (h : AH) : Option (Int32 × AH) :=
    bd (X11_isJumper v1 h) fun r1 h2 =>
    if r1 = 0 then (X11_back_j20 v1 v2 (-1) h2)
    else (bd (X11_bound v2 (-9) 9 h2) fun r3 h4 =>
    X11_back_j20 v1 v2 r3 h4)
set_option maxRecDepth 100000 in
theorem c_X11_back (l : Launch) (v1 : Int32) (v2 : Int32) : MC l yX11_back cX11_back 4 (some .int) rmX11_back ZR [.ref 0, .int v1, .int v2] rvI (X11_back v1 v2) :=
  MC.of (own := RX11) (by decide +kernel) rfl (Nat.le_of_ble_eq_true rfl) fun X yd A h _ C =>
    aw_aload_n (pc := 0) C (i := 0) dX11_back_0 rfl rfl <|
    aw_iload_n (pc := 1) C (i := 1) dX11_back_1 rfl rfl <|
    aw_callF (pc := 2) C (cr_V (rest := []) (F := (X11_isJumper v1)) C (c_X11_isJumper X.2.1 v1) dX11_back_2 mf_X11_isJumper ml_X11_207 im_X11_isJumper se_X11_isJumper sR_0 rfl ⟨(Nat.le_of_ble_eq_true rfl), (Nat.le_of_ble_eq_true rfl)⟩ rfl rfl (Nat.le_of_ble_eq_true rfl)) rfl rfl rfl (Nat.zero_le _) (Nat.zero_le _) fun r1 h2 =>
    aw_if_ne (pc := 5) C (tgt := 12) dX11_back_5 rfl (fun _ =>
    aw_iconst (pc := 8) C (v := (-1)) dX11_back_8 rfl <|
    aw_goto (pc := 9) C (tgt := 20) dX11_back_9 rfl <|
    (aX11_back_j20 C v1 v2 (-1) h2)) (fun _ =>
    aw_iload_n (pc := 12) C (i := 2) dX11_back_12 rfl rfl <|
    aw_bipush (pc := 13) C (v := (-9)) dX11_back_13 rfl <|
    aw_bipush (pc := 15) C (v := 9) dX11_back_15 rfl <|
    aw_callF (pc := 17) C (cr_S (rest := []) (F := (X11_bound v2 (-9) 9)) C (c_X11_bound X.2.1 v2 (-9) 9) dX11_back_17 mf_X11_bound ml_X11_108 st_X11_bound ⟨(Nat.le_of_ble_eq_true rfl), (Nat.le_of_ble_eq_true rfl)⟩ rfl rfl (Nat.le_of_ble_eq_true rfl)) rfl rfl rfl (Nat.zero_le _) (Nat.zero_le _) fun r3 h4 =>
    (aX11_back_j20 C v1 v2 r3 h4))

abbrev rmX11_ranksNow : Room := { frames := 4, cells := 0, slots := 0, locals := 90 }
def X11_ranksNow  (h : AH) : Option (Unit × AH) :=
    bd (X11_findBest 0 (h.1 0 16) h) fun _ h2 =>
    bd (X11_sorts h2) fun _ h4 =>
    some ((), h4)
set_option maxRecDepth 100000 in
theorem c_X11_ranksNow (l : Launch)  : MC l yX11_ranksNow cX11_ranksNow 1 none rmX11_ranksNow ZR [.ref 0] rvV (X11_ranksNow) :=
  MC.of (own := RX11) (by decide +kernel) rfl (Nat.le_of_ble_eq_true rfl) fun X yd A h _ C =>
    aw_aload_n (pc := 0) C (i := 0) dX11_ranksNow_0 rfl rfl <|
    aw_iconst (pc := 1) C (v := 0) dX11_ranksNow_1 rfl <|
    aw_aload_n (pc := 2) C (i := 0) dX11_ranksNow_2 rfl rfl <|
    aw_getI (pc := 3) C dX11_ranksNow_3 fl_X11_147 sR_0 rfl <|
    aw_callF (pc := 6) C (cr_V (rest := []) (F := (X11_findBest 0 (h.1 0 16))) C (c_X11_findBest X.2.1 0 (h.1 0 16)) dX11_ranksNow_6 mf_X11_findBest ml_X11_213 im_X11_findBest se_X11_findBest sR_0 rfl ⟨(Nat.le_of_ble_eq_true rfl), (Nat.le_of_ble_eq_true rfl)⟩ rfl rfl (Nat.le_of_ble_eq_true rfl)) rfl rfl rfl (Nat.zero_le _) (Nat.zero_le _) fun _ h2 =>
    aw_aload_n (pc := 9) C (i := 0) dX11_ranksNow_9 rfl rfl <|
    aw_callF (pc := 10) C (cr_V (rest := []) (F := X11_sorts) C (c_X11_sorts X.2.1 ) dX11_ranksNow_10 mf_X11_sorts ml_X11_268 im_X11_sorts se_X11_sorts sR_0 rfl ⟨(Nat.le_of_ble_eq_true rfl), (Nat.le_of_ble_eq_true rfl)⟩ rfl rfl (Nat.le_of_ble_eq_true rfl)) rfl rfl rfl (Nat.zero_le _) (Nat.zero_le _) fun _ h4 =>
    aw_vret (pc := 13) C dX11_ranksNow_13 rfl rfl

abbrev rmX11_roundNow : Room := { frames := 5, cells := 0, slots := 0, locals := 110 }
def X11_roundNow  (h : AH) : Option (Int32 × AH) :=
    bd (X11_turnNow h) fun r1 h2 =>
    if 0 ≤ r1 then (if (3 * (h2.1 0 15)) ≤ (h2.1 0 16) then (bd (X11_finalists h2) fun r3 h4 =>
    if r3 = 0 then none else (some ((3 + (((h2.1 0 16) - (3 * (h2.1 0 15))) / r3)), h4)))
    else (if (h2.1 0 15) = 0 then none else (some (((h2.1 0 16) / (h2.1 0 15)), h2))))
    else (some (6, h2))
set_option maxRecDepth 100000 in
theorem c_X11_roundNow (l : Launch)  : MC l yX11_roundNow cX11_roundNow 1 (some .int) rmX11_roundNow ZR [.ref 0] rvI (X11_roundNow) :=
  MC.of (own := RX11) (by decide +kernel) rfl (Nat.le_of_ble_eq_true rfl) fun X yd A h _ C =>
    aw_aload_n (pc := 0) C (i := 0) dX11_roundNow_0 rfl rfl <|
    aw_callF (pc := 1) C (cr_V (rest := []) (F := X11_turnNow) C (c_X11_turnNow X.2.1 ) dX11_roundNow_1 mf_X11_turnNow ml_X11_150 im_X11_turnNow se_X11_turnNow sR_0 rfl ⟨(Nat.le_of_ble_eq_true rfl), (Nat.le_of_ble_eq_true rfl)⟩ rfl rfl (Nat.le_of_ble_eq_true rfl)) rfl rfl rfl (Nat.zero_le _) (Nat.zero_le _) fun r1 h2 =>
    aw_if_ge (pc := 4) C (tgt := 10) dX11_roundNow_4 rfl (fun _ =>
    aw_aload_n (pc := 10) C (i := 0) dX11_roundNow_10 rfl rfl <|
    aw_getI (pc := 11) C dX11_roundNow_11 fl_X11_147 sR_0 rfl <|
    aw_iconst (pc := 14) C (v := 3) dX11_roundNow_14 rfl <|
    aw_aload_n (pc := 15) C (i := 0) dX11_roundNow_15 rfl rfl <|
    aw_getI (pc := 16) C dX11_roundNow_16 fl_X11_105 sR_0 rfl <|
    aw_imul (pc := 19) C dX11_roundNow_19 <|
    aw_icmp_ge (pc := 20) C (tgt := 35) dX11_roundNow_20 rfl (fun _ =>
    aw_iconst (pc := 35) C (v := 3) dX11_roundNow_35 rfl <|
    aw_aload_n (pc := 36) C (i := 0) dX11_roundNow_36 rfl rfl <|
    aw_getI (pc := 37) C dX11_roundNow_37 fl_X11_147 sR_0 rfl <|
    aw_iconst (pc := 40) C (v := 3) dX11_roundNow_40 rfl <|
    aw_aload_n (pc := 41) C (i := 0) dX11_roundNow_41 rfl rfl <|
    aw_getI (pc := 42) C dX11_roundNow_42 fl_X11_105 sR_0 rfl <|
    aw_imul (pc := 45) C dX11_roundNow_45 <|
    aw_isub (pc := 46) C dX11_roundNow_46 <|
    aw_aload_n (pc := 47) C (i := 0) dX11_roundNow_47 rfl rfl <|
    aw_callF (pc := 48) C (cr_V (rest := [.int ((h2.1 0 16) - (3 * (h2.1 0 15))), .int 3]) (F := X11_finalists) C (c_X11_finalists X.2.1 ) dX11_roundNow_48 mf_X11_finalists ml_X11_271 im_X11_finalists se_X11_finalists sR_0 rfl ⟨(Nat.le_of_ble_eq_true rfl), (Nat.le_of_ble_eq_true rfl)⟩ rfl rfl (Nat.le_of_ble_eq_true rfl)) rfl rfl rfl (Nat.zero_le _) (Nat.zero_le _) fun r3 h4 =>
    aw_idiv (pc := 51) C dX11_roundNow_51 <|
    aw_iadd (pc := 52) C dX11_roundNow_52 <|
    aw_iret (pc := 53) C dX11_roundNow_53 rfl rfl) (fun _ =>
    aw_aload_n (pc := 23) C (i := 0) dX11_roundNow_23 rfl rfl <|
    aw_getI (pc := 24) C dX11_roundNow_24 fl_X11_147 sR_0 rfl <|
    aw_aload_n (pc := 27) C (i := 0) dX11_roundNow_27 rfl rfl <|
    aw_getI (pc := 28) C dX11_roundNow_28 fl_X11_105 sR_0 rfl <|
    aw_idiv (pc := 31) C dX11_roundNow_31 <|
    aw_goto (pc := 32) C (tgt := 53) dX11_roundNow_32 rfl <|
    aw_iret (pc := 53) C dX11_roundNow_53 rfl rfl)) (fun _ =>
    aw_bipush (pc := 7) C (v := 6) dX11_roundNow_7 rfl <|
    aw_iret (pc := 9) C dX11_roundNow_9 rfl rfl)

abbrev rmX11_turn : Room := { frames := 5, cells := 0, slots := 0, locals := 110 }
def X11_turn  (h : AH) : Option (Int32 × AH) :=
    bd (X11_turnNow h) fun r1 h2 =>
    some (r1, h2)
set_option maxRecDepth 100000 in
theorem c_X11_turn (l : Launch)  : MC l yX11_turn cX11_turn 1 (some .int) rmX11_turn ZR [.ref 0] rvI (X11_turn) :=
  MC.of (own := RX11) (by decide +kernel) rfl (Nat.le_of_ble_eq_true rfl) fun X yd A h _ C =>
    aw_aload_n (pc := 0) C (i := 0) dX11_turn_0 rfl rfl <|
    aw_callF (pc := 1) C (cr_V (rest := []) (F := X11_turnNow) C (c_X11_turnNow X.2.1 ) dX11_turn_1 mf_X11_turnNow ml_X11_150 im_X11_turnNow se_X11_turnNow sR_0 rfl ⟨(Nat.le_of_ble_eq_true rfl), (Nat.le_of_ble_eq_true rfl)⟩ rfl rfl (Nat.le_of_ble_eq_true rfl)) rfl rfl rfl (Nat.zero_le _) (Nat.zero_le _) fun r1 h2 =>
    aw_iret (pc := 4) C dX11_turn_4 rfl rfl

abbrev rmX11_jump : Room := { frames := 5, cells := 0, slots := 0, locals := 110 }
def X11_jump_j33  (v1 : Int32) (v2 : Int32) (s0 : Int32) (h : AH) : Option (Int32 × AH) :=
    if s0 = 0 then (bd (X11_lengthOf v1 v2 0 h) fun r7 h8 =>
    bd (X11_putsTry v1 r7 v2 h8) fun _ h10 =>
    ck ((h10.1 0 16) - 1) 24 (some ((h10.1 11 ((h10.1 0 16) - 1).toNatClampNeg), h10)))
    else (bd (X11_no s0 h) fun r11 h12 =>
    some (r11, h12))
set_option maxRecDepth 100000 in
theorem aX11_jump_j33 {X : MCx} {yd : Dyn} {A : Nat → Prop} (C : OK X cX11_jump RX11 4 (some .int) rmX11_jump A)  (v1 : Int32) (v2 : Int32) (s0 : Int32) (h : AH) : AW X 4 ZR yd A 0 0 (QF X rmX11_jump ZR yd rvI A) 33 [(0, .ref 0), (1, .int v1), (2, .int v2)] [.int s0] h (X11_jump_j33 v1 v2 s0 h) := by
    exact aw_istore_n (pc := 33) C (i := 3) (lv' := [(0, .ref 0), (1, .int v1), (2, .int v2), (3, .int s0)]) dX11_jump_33 rfl (by decide) rfl <|
    aw_iload_n (pc := 34) C (i := 3) dX11_jump_34 rfl rfl <|
    aw_if_eq (pc := 35) C (tgt := 44) dX11_jump_35 rfl (fun _ =>
    aw_aload_n (pc := 44) C (i := 0) dX11_jump_44 rfl rfl <|
    aw_iload_n (pc := 45) C (i := 1) dX11_jump_45 rfl rfl <|
    aw_aload_n (pc := 46) C (i := 0) dX11_jump_46 rfl rfl <|
    aw_iload_n (pc := 47) C (i := 1) dX11_jump_47 rfl rfl <|
    aw_iload_n (pc := 48) C (i := 2) dX11_jump_48 rfl rfl <|
    aw_iconst (pc := 49) C (v := 0) dX11_jump_49 rfl <|
    aw_callF (pc := 50) C (cr_V (rest := [.int v1, .ref 0]) (F := (X11_lengthOf v1 v2 0)) C (c_X11_lengthOf X.2.1 v1 v2 0) dX11_jump_50 mf_X11_lengthOf ml_X11_163 im_X11_lengthOf se_X11_lengthOf sR_0 rfl ⟨(Nat.le_of_ble_eq_true rfl), (Nat.le_of_ble_eq_true rfl)⟩ rfl rfl (Nat.le_of_ble_eq_true rfl)) rfl rfl rfl (Nat.zero_le _) (Nat.zero_le _) fun r7 h8 =>
    aw_iload_n (pc := 53) C (i := 2) dX11_jump_53 rfl rfl <|
    aw_callF (pc := 54) C (cr_V (rest := []) (F := (X11_putsTry v1 r7 v2)) C (c_X11_putsTry X.2.1 v1 r7 v2) dX11_jump_54 mf_X11_putsTry ml_X11_153 im_X11_putsTry se_X11_putsTry sR_0 rfl ⟨(Nat.le_of_ble_eq_true rfl), (Nat.le_of_ble_eq_true rfl)⟩ rfl rfl (Nat.le_of_ble_eq_true rfl)) rfl rfl rfl (Nat.zero_le _) (Nat.zero_le _) fun _ h10 =>
    aw_aload_n (pc := 57) C (i := 0) dX11_jump_57 rfl rfl <|
    aw_getR (pc := 58) C (b := 11) dX11_jump_58 fl_X11_40 sR_0 rfl rR_0_10 <|
    aw_aload_n (pc := 61) C (i := 0) dX11_jump_61 rfl rfl <|
    aw_getI (pc := 62) C dX11_jump_62 fl_X11_147 sR_0 rfl <|
    aw_iconst (pc := 65) C (v := 1) dX11_jump_65 rfl <|
    aw_isub (pc := 66) C dX11_jump_66 <|
    aw_iald (pc := 67) C dX11_jump_67 sR_11 rfl <|
    aw_iret (pc := 68) C dX11_jump_68 rfl rfl) (fun _ =>
    aw_aload_n (pc := 38) C (i := 0) dX11_jump_38 rfl rfl <|
    aw_iload_n (pc := 39) C (i := 3) dX11_jump_39 rfl rfl <|
    aw_callF (pc := 40) C (cr_V (rest := []) (F := (X11_no s0)) C (c_X11_no X.2.1 s0) dX11_jump_40 mf_X11_no ml_X11_115 im_X11_no se_X11_no sR_0 rfl ⟨(Nat.le_of_ble_eq_true rfl), (Nat.le_of_ble_eq_true rfl)⟩ rfl rfl (Nat.le_of_ble_eq_true rfl)) rfl rfl rfl (Nat.zero_le _) (Nat.zero_le _) fun r11 h12 =>
    aw_iret (pc := 43) C dX11_jump_43 rfl rfl)
def X11_jump (v1 : Int32) (v2 : Int32) (h : AH) : Option (Int32 × AH) :=
    bd (X11_isJumper v1 h) fun r1 h2 =>
    if r1 = 0 then (X11_jump_j33 v1 v2 (-1) h2)
    else (bd (X11_turnNow h2) fun r3 h4 =>
    if r3 = v1 then (bd (X11_bound v2 0 300 h4) fun r5 h6 =>
    X11_jump_j33 v1 v2 r5 h6)
    else (X11_jump_j33 v1 v2 (-3) h4))
set_option maxRecDepth 100000 in
theorem c_X11_jump (l : Launch) (v1 : Int32) (v2 : Int32) : MC l yX11_jump cX11_jump 4 (some .int) rmX11_jump ZR [.ref 0, .int v1, .int v2] rvI (X11_jump v1 v2) :=
  MC.of (own := RX11) (by decide +kernel) rfl (Nat.le_of_ble_eq_true rfl) fun X yd A h _ C =>
    aw_aload_n (pc := 0) C (i := 0) dX11_jump_0 rfl rfl <|
    aw_iload_n (pc := 1) C (i := 1) dX11_jump_1 rfl rfl <|
    aw_callF (pc := 2) C (cr_V (rest := []) (F := (X11_isJumper v1)) C (c_X11_isJumper X.2.1 v1) dX11_jump_2 mf_X11_isJumper ml_X11_207 im_X11_isJumper se_X11_isJumper sR_0 rfl ⟨(Nat.le_of_ble_eq_true rfl), (Nat.le_of_ble_eq_true rfl)⟩ rfl rfl (Nat.le_of_ble_eq_true rfl)) rfl rfl rfl (Nat.zero_le _) (Nat.zero_le _) fun r1 h2 =>
    aw_if_ne (pc := 5) C (tgt := 12) dX11_jump_5 rfl (fun _ =>
    aw_iconst (pc := 8) C (v := (-1)) dX11_jump_8 rfl <|
    aw_goto (pc := 9) C (tgt := 33) dX11_jump_9 rfl <|
    (aX11_jump_j33 C v1 v2 (-1) h2)) (fun _ =>
    aw_aload_n (pc := 12) C (i := 0) dX11_jump_12 rfl rfl <|
    aw_callF (pc := 13) C (cr_V (rest := []) (F := X11_turnNow) C (c_X11_turnNow X.2.1 ) dX11_jump_13 mf_X11_turnNow ml_X11_150 im_X11_turnNow se_X11_turnNow sR_0 rfl ⟨(Nat.le_of_ble_eq_true rfl), (Nat.le_of_ble_eq_true rfl)⟩ rfl rfl (Nat.le_of_ble_eq_true rfl)) rfl rfl rfl (Nat.zero_le _) (Nat.zero_le _) fun r3 h4 =>
    aw_iload_n (pc := 16) C (i := 1) dX11_jump_16 rfl rfl <|
    aw_icmp_eq (pc := 17) C (tgt := 25) dX11_jump_17 rfl (fun _ =>
    aw_iload_n (pc := 25) C (i := 2) dX11_jump_25 rfl rfl <|
    aw_iconst (pc := 26) C (v := 0) dX11_jump_26 rfl <|
    aw_sipush (pc := 27) C (v := 300) dX11_jump_27 rfl <|
    aw_callF (pc := 30) C (cr_S (rest := []) (F := (X11_bound v2 0 300)) C (c_X11_bound X.2.1 v2 0 300) dX11_jump_30 mf_X11_bound ml_X11_108 st_X11_bound ⟨(Nat.le_of_ble_eq_true rfl), (Nat.le_of_ble_eq_true rfl)⟩ rfl rfl (Nat.le_of_ble_eq_true rfl)) rfl rfl rfl (Nat.zero_le _) (Nat.zero_le _) fun r5 h6 =>
    (aX11_jump_j33 C v1 v2 r5 h6)) (fun _ =>
    aw_bipush (pc := 20) C (v := (-3)) dX11_jump_20 rfl <|
    aw_goto (pc := 22) C (tgt := 33) dX11_jump_22 rfl <|
    (aX11_jump_j33 C v1 v2 (-3) h4)))

abbrev rmX11_none : Room := { frames := 5, cells := 0, slots := 0, locals := 110 }
def X11_none_j64  (v1 : Int32) (s0 : Int32) (s1 : Int32) (h : AH) : Option (Int32 × AH) :=
    bd (X11_putsTry s1 s0 0 h) fun _ h8 =>
    bd (X11_triesOf v1 h8) fun r9 h10 =>
    some (r9, h10)
set_option maxRecDepth 100000 in
theorem aX11_none_j64 {X : MCx} {yd : Dyn} {A : Nat → Prop} (C : OK X cX11_none RX11 4 (some .int) rmX11_none A)  (v1 : Int32) (s0 : Int32) (s1 : Int32) (h : AH) : AW X 4 ZR yd A 0 0 (QF X rmX11_none ZR yd rvI A) 64 [(0, .ref 0), (1, .int v1)] [.int s0, .int s1, .ref 0] h (X11_none_j64 v1 s0 s1 h) := by
    exact aw_iconst (pc := 64) C (v := 0) dX11_none_64 rfl <|
    aw_callF (pc := 65) C (cr_V (rest := []) (F := (X11_putsTry s1 s0 0)) C (c_X11_putsTry X.2.1 s1 s0 0) dX11_none_65 mf_X11_putsTry ml_X11_153 im_X11_putsTry se_X11_putsTry sR_0 rfl ⟨(Nat.le_of_ble_eq_true rfl), (Nat.le_of_ble_eq_true rfl)⟩ rfl rfl (Nat.le_of_ble_eq_true rfl)) rfl rfl rfl (Nat.zero_le _) (Nat.zero_le _) fun _ h8 =>
    aw_aload_n (pc := 68) C (i := 0) dX11_none_68 rfl rfl <|
    aw_iload_n (pc := 69) C (i := 1) dX11_none_69 rfl rfl <|
    aw_callF (pc := 70) C (cr_V (rest := []) (F := (X11_triesOf v1)) C (c_X11_triesOf X.2.1 v1) dX11_none_70 mf_X11_triesOf ml_X11_217 im_X11_triesOf se_X11_triesOf sR_0 rfl ⟨(Nat.le_of_ble_eq_true rfl), (Nat.le_of_ble_eq_true rfl)⟩ rfl rfl (Nat.le_of_ble_eq_true rfl)) rfl rfl rfl (Nat.zero_le _) (Nat.zero_le _) fun r9 h10 =>
    aw_iret (pc := 73) C dX11_none_73 rfl rfl
def X11_none_j40  (v1 : Int32) (v2 : Int32) (s0 : Int32) (h : AH) : Option (Int32 × AH) :=
    if s0 = 0 then (if v2 = 0 then (X11_none_j64 v1 (-9) v1 h)
    else (X11_none_j64 v1 (-8) v1 h))
    else (bd (X11_no s0 h) fun r11 h12 =>
    some (r11, h12))
set_option maxRecDepth 100000 in
theorem aX11_none_j40 {X : MCx} {yd : Dyn} {A : Nat → Prop} (C : OK X cX11_none RX11 4 (some .int) rmX11_none A)  (v1 : Int32) (v2 : Int32) (s0 : Int32) (h : AH) : AW X 4 ZR yd A 0 0 (QF X rmX11_none ZR yd rvI A) 40 [(0, .ref 0), (1, .int v1), (2, .int v2)] [.int s0] h (X11_none_j40 v1 v2 s0 h) := by
    exact aw_istore_n (pc := 40) C (i := 3) (lv' := [(0, .ref 0), (1, .int v1), (2, .int v2), (3, .int s0)]) dX11_none_40 rfl (by decide) rfl <|
    aw_iload_n (pc := 41) C (i := 3) dX11_none_41 rfl rfl <|
    aw_if_eq (pc := 42) C (tgt := 51) dX11_none_42 rfl (fun _ =>
    aw_aload_n (pc := 51) C (i := 0) dX11_none_51 rfl rfl <|
    aw_iload_n (pc := 52) C (i := 1) dX11_none_52 rfl rfl <|
    aw_iload_n (pc := 53) C (i := 2) dX11_none_53 rfl rfl <|
    aw_if_ne (pc := 54) C (tgt := 62) dX11_none_54 rfl (fun _ =>
    aw_bipush (pc := 57) C (v := (-9)) dX11_none_57 rfl <|
    aw_goto (pc := 59) C (tgt := 64) dX11_none_59 rfl <|
    aw_drop [0, 1] (aX11_none_j64 C v1 (-9) v1 h)) (fun _ =>
    aw_bipush (pc := 62) C (v := (-8)) dX11_none_62 rfl <|
    aw_drop [0, 1] (aX11_none_j64 C v1 (-8) v1 h))) (fun _ =>
    aw_aload_n (pc := 45) C (i := 0) dX11_none_45 rfl rfl <|
    aw_iload_n (pc := 46) C (i := 3) dX11_none_46 rfl rfl <|
    aw_callF (pc := 47) C (cr_V (rest := []) (F := (X11_no s0)) C (c_X11_no X.2.1 s0) dX11_none_47 mf_X11_no ml_X11_115 im_X11_no se_X11_no sR_0 rfl ⟨(Nat.le_of_ble_eq_true rfl), (Nat.le_of_ble_eq_true rfl)⟩ rfl rfl (Nat.le_of_ble_eq_true rfl)) rfl rfl rfl (Nat.zero_le _) (Nat.zero_le _) fun r11 h12 =>
    aw_iret (pc := 50) C dX11_none_50 rfl rfl)
def X11_none (v1 : Int32) (v2 : Int32) (h : AH) : Option (Int32 × AH) :=
    bd (X11_isJumper v1 h) fun r1 h2 =>
    if r1 = 0 then (X11_none_j40 v1 v2 (-1) h2)
    else (bd (X11_isIn v2 0 1 h2) fun r3 h4 =>
    if r3 = 0 then (X11_none_j40 v1 v2 (-2) h4)
    else (bd (X11_turnNow h4) fun r5 h6 =>
    if r5 = v1 then (X11_none_j40 v1 v2 0 h6)
    else (X11_none_j40 v1 v2 (-3) h6)))
set_option maxRecDepth 100000 in
theorem c_X11_none (l : Launch) (v1 : Int32) (v2 : Int32) : MC l yX11_none cX11_none 4 (some .int) rmX11_none ZR [.ref 0, .int v1, .int v2] rvI (X11_none v1 v2) :=
  MC.of (own := RX11) (by decide +kernel) rfl (Nat.le_of_ble_eq_true rfl) fun X yd A h _ C =>
    aw_aload_n (pc := 0) C (i := 0) dX11_none_0 rfl rfl <|
    aw_iload_n (pc := 1) C (i := 1) dX11_none_1 rfl rfl <|
    aw_callF (pc := 2) C (cr_V (rest := []) (F := (X11_isJumper v1)) C (c_X11_isJumper X.2.1 v1) dX11_none_2 mf_X11_isJumper ml_X11_207 im_X11_isJumper se_X11_isJumper sR_0 rfl ⟨(Nat.le_of_ble_eq_true rfl), (Nat.le_of_ble_eq_true rfl)⟩ rfl rfl (Nat.le_of_ble_eq_true rfl)) rfl rfl rfl (Nat.zero_le _) (Nat.zero_le _) fun r1 h2 =>
    aw_if_ne (pc := 5) C (tgt := 12) dX11_none_5 rfl (fun _ =>
    aw_iconst (pc := 8) C (v := (-1)) dX11_none_8 rfl <|
    aw_goto (pc := 9) C (tgt := 40) dX11_none_9 rfl <|
    (aX11_none_j40 C v1 v2 (-1) h2)) (fun _ =>
    aw_iload_n (pc := 12) C (i := 2) dX11_none_12 rfl rfl <|
    aw_iconst (pc := 13) C (v := 0) dX11_none_13 rfl <|
    aw_iconst (pc := 14) C (v := 1) dX11_none_14 rfl <|
    aw_callF (pc := 15) C (cr_S (rest := []) (F := (X11_isIn v2 0 1)) C (c_X11_isIn X.2.1 v2 0 1) dX11_none_15 mf_X11_isIn ml_X11_126 st_X11_isIn ⟨(Nat.le_of_ble_eq_true rfl), (Nat.le_of_ble_eq_true rfl)⟩ rfl rfl (Nat.le_of_ble_eq_true rfl)) rfl rfl rfl (Nat.zero_le _) (Nat.zero_le _) fun r3 h4 =>
    aw_if_ne (pc := 18) C (tgt := 26) dX11_none_18 rfl (fun _ =>
    aw_bipush (pc := 21) C (v := (-2)) dX11_none_21 rfl <|
    aw_goto (pc := 23) C (tgt := 40) dX11_none_23 rfl <|
    (aX11_none_j40 C v1 v2 (-2) h4)) (fun _ =>
    aw_aload_n (pc := 26) C (i := 0) dX11_none_26 rfl rfl <|
    aw_callF (pc := 27) C (cr_V (rest := []) (F := X11_turnNow) C (c_X11_turnNow X.2.1 ) dX11_none_27 mf_X11_turnNow ml_X11_150 im_X11_turnNow se_X11_turnNow sR_0 rfl ⟨(Nat.le_of_ble_eq_true rfl), (Nat.le_of_ble_eq_true rfl)⟩ rfl rfl (Nat.le_of_ble_eq_true rfl)) rfl rfl rfl (Nat.zero_le _) (Nat.zero_le _) fun r5 h6 =>
    aw_iload_n (pc := 30) C (i := 1) dX11_none_30 rfl rfl <|
    aw_icmp_eq (pc := 31) C (tgt := 39) dX11_none_31 rfl (fun _ =>
    aw_iconst (pc := 39) C (v := 0) dX11_none_39 rfl <|
    (aX11_none_j40 C v1 v2 0 h6)) (fun _ =>
    aw_bipush (pc := 34) C (v := (-3)) dX11_none_34 rfl <|
    aw_goto (pc := 36) C (tgt := 40) dX11_none_36 rfl <|
    (aX11_none_j40 C v1 v2 (-3) h6))))

abbrev rmX11_undo : Room := { frames := 1, cells := 0, slots := 0, locals := 21 }
def X11_undo  (h : AH) : Option (Int32 × AH) :=
    if (h.1 0 16) = 0 then (bd (X11_no (-3) h) fun r2 h3 =>
    some (r2, h3))
    else (vl (sI h 0 16 ((h.1 0 16) - 1)) fun h1 =>
    ck (h1.1 0 16) 24 (some ((h1.1 10 (h1.1 0 16).toNatClampNeg), h1)))
set_option maxRecDepth 100000 in
theorem c_X11_undo (l : Launch)  : MC l yX11_undo cX11_undo 1 (some .int) rmX11_undo ZR [.ref 0] rvI (X11_undo) :=
  MC.of (own := RX11) (by decide +kernel) rfl (Nat.le_of_ble_eq_true rfl) fun X yd A h _ C =>
    aw_aload_n (pc := 0) C (i := 0) dX11_undo_0 rfl rfl <|
    aw_getI (pc := 1) C dX11_undo_1 fl_X11_147 sR_0 rfl <|
    aw_if_ne (pc := 4) C (tgt := 14) dX11_undo_4 rfl (fun _ =>
    aw_aload_n (pc := 7) C (i := 0) dX11_undo_7 rfl rfl <|
    aw_bipush (pc := 8) C (v := (-3)) dX11_undo_8 rfl <|
    aw_callF (pc := 10) C (cr_V (rest := []) (F := (X11_no (-3))) C (c_X11_no X.2.1 (-3)) dX11_undo_10 mf_X11_no ml_X11_115 im_X11_no se_X11_no sR_0 rfl ⟨(Nat.le_of_ble_eq_true rfl), (Nat.le_of_ble_eq_true rfl)⟩ rfl rfl (Nat.le_of_ble_eq_true rfl)) rfl rfl rfl (Nat.zero_le _) (Nat.zero_le _) fun r2 h3 =>
    aw_iret (pc := 13) C dX11_undo_13 rfl rfl) (fun _ =>
    aw_aload_n (pc := 14) C (i := 0) dX11_undo_14 rfl rfl <|
    aw_dup (pc := 15) C dX11_undo_15 rfl <|
    aw_getI (pc := 16) C dX11_undo_16 fl_X11_147 sR_0 rfl <|
    aw_iconst (pc := 19) C (v := 1) dX11_undo_19 rfl <|
    aw_isub (pc := 20) C dX11_undo_20 <|
    aw_putI (pc := 21) C dX11_undo_21 fp_X11_147 sR_0 rfl fun h1 =>
    aw_aload_n (pc := 24) C (i := 0) dX11_undo_24 rfl rfl <|
    aw_getR (pc := 25) C (b := 10) dX11_undo_25 fl_X11_37 sR_0 rfl rR_0_9 <|
    aw_aload_n (pc := 28) C (i := 0) dX11_undo_28 rfl rfl <|
    aw_getI (pc := 29) C dX11_undo_29 fl_X11_147 sR_0 rfl <|
    aw_iald (pc := 32) C dX11_undo_32 sR_10 rfl <|
    aw_iret (pc := 33) C dX11_undo_33 rfl rfl)

abbrev rmX11_tried : Room := { frames := 1, cells := 0, slots := 0, locals := 23 }
def X11_tried_j21  (h : AH) : Option (Int32 × AH) :=
    bd (X11_no (-1) h) fun r3 h4 =>
    some (r3, h4)
set_option maxRecDepth 100000 in
theorem aX11_tried_j21 {X : MCx} {yd : Dyn} {A : Nat → Prop} (C : OK X cX11_tried RX11 5 (some .int) rmX11_tried A)  (h : AH) : AW X 5 ZR yd A 0 0 (QF X rmX11_tried ZR yd rvI A) 21 [(0, .ref 0)] [] h (X11_tried_j21 h) := by
    exact aw_aload_n (pc := 21) C (i := 0) dX11_tried_21 rfl rfl <|
    aw_iconst (pc := 22) C (v := (-1)) dX11_tried_22 rfl <|
    aw_callF (pc := 23) C (cr_V (rest := []) (F := (X11_no (-1))) C (c_X11_no X.2.1 (-1)) dX11_tried_23 mf_X11_no ml_X11_115 im_X11_no se_X11_no sR_0 rfl ⟨(Nat.le_of_ble_eq_true rfl), (Nat.le_of_ble_eq_true rfl)⟩ rfl rfl (Nat.le_of_ble_eq_true rfl)) rfl rfl rfl (Nat.zero_le _) (Nat.zero_le _) fun r3 h4 =>
    aw_iret (pc := 26) C dX11_tried_26 rfl rfl
def X11_tried_j70  (v1 : Int32) (v3 : Int32) (v4 : Int32) (K32 : Int32 → Int32 → AH → Option (Int32 × AH)) (h : AH) : Option (Int32 × AH) :=
    vl (v4 + 1) fun x8 =>
    K32 v3 x8 h
set_option maxRecDepth 100000 in
theorem aX11_tried_j70 {X : MCx} {yd : Dyn} {A : Nat → Prop} (C : OK X cX11_tried RX11 5 (some .int) rmX11_tried A)  (v1 : Int32) (v3 : Int32) (v4 : Int32) (K32 : Int32 → Int32 → AH → Option (Int32 × AH)) (hK32 : ∀ (w3 : Int32) (w4 : Int32) (h : AH), AW X 5 ZR yd A 0 0 (QF X rmX11_tried ZR yd rvI A) 32 [(0, .ref 0), (1, .int v1), (3, .int w3), (4, .int w4)] [] h (K32 w3 w4 h)) (h : AH) : AW X 5 ZR yd A 0 0 (QF X rmX11_tried ZR yd rvI A) 70 [(0, .ref 0), (1, .int v1), (3, .int v3), (4, .int v4)] [] h (X11_tried_j70 v1 v3 v4 K32 h) := by
    exact aw_iincV (pc := 70) C (i := 4) (cst := 1) (fun x8 => [(0, .ref 0), (1, .int v1), (3, .int v3), (4, .int x8)]) dX11_tried_70 rfl rfl (by decide) (fun _ => rfl) fun x8 =>
    aw_goto (pc := 73) C (tgt := 32) dX11_tried_73 rfl <|
    (hK32 v3 x8 h)
def X11_tried_l32  (v1 : Int32) : Nat → Int32 → Int32 → AH → Option (Int32 × AH)
  | 0, _, _, _ => none
  | n + 1, v3, v4, h =>
    if (h.1 0 16) ≤ v4 then (some ((-9), h))
    else (ck v4 24 (if (h.1 10 v4.toNatClampNeg) = v1 then (if v3 = 0 then (ck v4 24 (some ((h.1 11 v4.toNatClampNeg), h)))
    else (vl (v3 + (-1)) fun x7 =>
    X11_tried_j70 v1 x7 v4 (X11_tried_l32 v1 n) h))
    else (X11_tried_j70 v1 v3 v4 (X11_tried_l32 v1 n) h)))
set_option maxRecDepth 100000 in
theorem aX11_tried_l32 {X : MCx} {yd : Dyn} {A : Nat → Prop} (C : OK X cX11_tried RX11 5 (some .int) rmX11_tried A)  (v1 : Int32) : ∀ (n : Nat) (v3 : Int32) (v4 : Int32) (h : AH), AW X 5 ZR yd A 0 0 (QF X rmX11_tried ZR yd rvI A) 32 [(0, .ref 0), (1, .int v1), (3, .int v3), (4, .int v4)] [] h (X11_tried_l32 v1 n v3 v4 h) := by
  intro n
  induction n with
  | zero => intro v3 v4 h; exact aw_none
  | succ n ih =>
    intro v3 v4 h
    exact aw_iload (pc := 32) C (i := 4) dX11_tried_32 rfl <|
    aw_aload_n (pc := 34) C (i := 0) dX11_tried_34 rfl rfl <|
    aw_getI (pc := 35) C dX11_tried_35 fl_X11_147 sR_0 rfl <|
    aw_icmp_ge (pc := 38) C (tgt := 76) dX11_tried_38 rfl (fun _ =>
    aw_bipush (pc := 76) C (v := (-9)) dX11_tried_76 rfl <|
    aw_iret (pc := 78) C dX11_tried_78 rfl rfl) (fun _ =>
    aw_aload_n (pc := 41) C (i := 0) dX11_tried_41 rfl rfl <|
    aw_getR (pc := 42) C (b := 10) dX11_tried_42 fl_X11_37 sR_0 rfl rR_0_9 <|
    aw_iload (pc := 45) C (i := 4) dX11_tried_45 rfl <|
    aw_iald (pc := 47) C dX11_tried_47 sR_10 rfl <|
    aw_iload_n (pc := 48) C (i := 1) dX11_tried_48 rfl rfl <|
    aw_icmp_eq (pc := 49) C (tgt := 55) dX11_tried_49 rfl (fun _ =>
    aw_iload_n (pc := 55) C (i := 3) dX11_tried_55 rfl rfl <|
    aw_if_ne (pc := 56) C (tgt := 67) dX11_tried_56 rfl (fun _ =>
    aw_aload_n (pc := 59) C (i := 0) dX11_tried_59 rfl rfl <|
    aw_getR (pc := 60) C (b := 11) dX11_tried_60 fl_X11_40 sR_0 rfl rR_0_10 <|
    aw_iload (pc := 63) C (i := 4) dX11_tried_63 rfl <|
    aw_iald (pc := 65) C dX11_tried_65 sR_11 rfl <|
    aw_iret (pc := 66) C dX11_tried_66 rfl rfl) (fun _ =>
    aw_iincV (pc := 67) C (i := 3) (cst := (-1)) (fun x7 => [(0, .ref 0), (1, .int v1), (3, .int x7), (4, .int v4)]) dX11_tried_67 rfl rfl (by decide) (fun _ => rfl) fun x7 =>
    (aX11_tried_j70 C v1 x7 v4 (X11_tried_l32 v1 n) ih h))) (fun _ =>
    aw_goto (pc := 52) C (tgt := 70) dX11_tried_52 rfl <|
    (aX11_tried_j70 C v1 v3 v4 (X11_tried_l32 v1 n) ih h)))
def X11_tried (v1 : Int32) (v2 : Int32) (h : AH) : Option (Int32 × AH) :=
    bd (X11_isJumper v1 h) fun r1 h2 =>
    if r1 = 0 then (X11_tried_j21 h2)
    else (if v2 < 0 then (X11_tried_j21 h2)
    else (bd (X11_triesOf v1 h2) fun r5 h6 =>
    if v2 < r5 then (X11_tried_l32 v1 FU v2 0 h6)
    else (X11_tried_j21 h6)))
set_option maxRecDepth 100000 in
theorem c_X11_tried (l : Launch) (v1 : Int32) (v2 : Int32) : MC l yX11_tried cX11_tried 5 (some .int) rmX11_tried ZR [.ref 0, .int v1, .int v2] rvI (X11_tried v1 v2) :=
  MC.of (own := RX11) (by decide +kernel) rfl (Nat.le_of_ble_eq_true rfl) fun X yd A h _ C =>
    aw_aload_n (pc := 0) C (i := 0) dX11_tried_0 rfl rfl <|
    aw_iload_n (pc := 1) C (i := 1) dX11_tried_1 rfl rfl <|
    aw_callF (pc := 2) C (cr_V (rest := []) (F := (X11_isJumper v1)) C (c_X11_isJumper X.2.1 v1) dX11_tried_2 mf_X11_isJumper ml_X11_207 im_X11_isJumper se_X11_isJumper sR_0 rfl ⟨(Nat.le_of_ble_eq_true rfl), (Nat.le_of_ble_eq_true rfl)⟩ rfl rfl (Nat.le_of_ble_eq_true rfl)) rfl rfl rfl (Nat.zero_le _) (Nat.zero_le _) fun r1 h2 =>
    aw_if_eq (pc := 5) C (tgt := 21) dX11_tried_5 rfl (fun _ =>
    aw_drop [0] (aX11_tried_j21 C h2)) (fun _ =>
    aw_iload_n (pc := 8) C (i := 2) dX11_tried_8 rfl rfl <|
    aw_if_lt (pc := 9) C (tgt := 21) dX11_tried_9 rfl (fun _ =>
    aw_drop [0] (aX11_tried_j21 C h2)) (fun _ =>
    aw_iload_n (pc := 12) C (i := 2) dX11_tried_12 rfl rfl <|
    aw_aload_n (pc := 13) C (i := 0) dX11_tried_13 rfl rfl <|
    aw_iload_n (pc := 14) C (i := 1) dX11_tried_14 rfl rfl <|
    aw_callF (pc := 15) C (cr_V (rest := [.int v2]) (F := (X11_triesOf v1)) C (c_X11_triesOf X.2.1 v1) dX11_tried_15 mf_X11_triesOf ml_X11_217 im_X11_triesOf se_X11_triesOf sR_0 rfl ⟨(Nat.le_of_ble_eq_true rfl), (Nat.le_of_ble_eq_true rfl)⟩ rfl rfl (Nat.le_of_ble_eq_true rfl)) rfl rfl rfl (Nat.zero_le _) (Nat.zero_le _) fun r5 h6 =>
    aw_icmp_lt (pc := 18) C (tgt := 27) dX11_tried_18 rfl (fun _ =>
    aw_iload_n (pc := 27) C (i := 2) dX11_tried_27 rfl rfl <|
    aw_istore_n (pc := 28) C (i := 3) (lv' := [(0, .ref 0), (1, .int v1), (2, .int v2), (3, .int v2)]) dX11_tried_28 rfl (by decide) rfl <|
    aw_iconst (pc := 29) C (v := 0) dX11_tried_29 rfl <|
    aw_istore (pc := 30) C (i := 4) (lv' := [(0, .ref 0), (1, .int v1), (2, .int v2), (3, .int v2), (4, .int 0)]) dX11_tried_30 (by decide) rfl <|
    aw_drop [0, 1, 3, 4] (aX11_tried_l32 C v1 FU v2 0 h6)) (fun _ =>
    aw_drop [0] (aX11_tried_j21 C h6))))

abbrev rmX11_rankOf : Room := { frames := 0, cells := 0, slots := 0, locals := 0 }
def X11_rankOf_l2  (v1 : Int32) : Nat → Int32 → AH → Option (Int32 × AH)
  | 0, _, _ => none
  | n + 1, v2, h =>
    if (h.1 0 15) ≤ v2 then (some ((-9), h))
    else (ck v2 4 (if (h.1 22 v2.toNatClampNeg) = v1 then (some (v2, h))
    else (vl (v2 + 1) fun x1 =>
    (X11_rankOf_l2 v1 n) x1 h)))
set_option maxRecDepth 100000 in
theorem aX11_rankOf_l2 {X : MCx} {yd : Dyn} {A : Nat → Prop} (C : OK X cX11_rankOf RX11 3 (some .int) rmX11_rankOf A)  (v1 : Int32) : ∀ (n : Nat) (v2 : Int32) (h : AH), AW X 3 ZR yd A 0 0 (QF X rmX11_rankOf ZR yd rvI A) 2 [(0, .ref 0), (1, .int v1), (2, .int v2)] [] h (X11_rankOf_l2 v1 n v2 h) := by
  intro n
  induction n with
  | zero => intro v2 h; exact aw_none
  | succ n ih =>
    intro v2 h
    exact aw_iload_n (pc := 2) C (i := 2) dX11_rankOf_2 rfl rfl <|
    aw_aload_n (pc := 3) C (i := 0) dX11_rankOf_3 rfl rfl <|
    aw_getI (pc := 4) C dX11_rankOf_4 fl_X11_105 sR_0 rfl <|
    aw_icmp_ge (pc := 7) C (tgt := 28) dX11_rankOf_7 rfl (fun _ =>
    aw_bipush (pc := 28) C (v := (-9)) dX11_rankOf_28 rfl <|
    aw_iret (pc := 30) C dX11_rankOf_30 rfl rfl) (fun _ =>
    aw_aload_n (pc := 10) C (i := 0) dX11_rankOf_10 rfl rfl <|
    aw_getR (pc := 11) C (b := 22) dX11_rankOf_11 fl_X11_74 sR_0 rfl rR_0_32 <|
    aw_iload_n (pc := 14) C (i := 2) dX11_rankOf_14 rfl rfl <|
    aw_iald (pc := 15) C dX11_rankOf_15 sR_22 rfl <|
    aw_iload_n (pc := 16) C (i := 1) dX11_rankOf_16 rfl rfl <|
    aw_icmp_ne (pc := 17) C (tgt := 22) dX11_rankOf_17 rfl (fun _ =>
    aw_iload_n (pc := 20) C (i := 2) dX11_rankOf_20 rfl rfl <|
    aw_iret (pc := 21) C dX11_rankOf_21 rfl rfl) (fun _ =>
    aw_iincV (pc := 22) C (i := 2) (cst := 1) (fun x1 => [(0, .ref 0), (1, .int v1), (2, .int x1)]) dX11_rankOf_22 rfl rfl (by decide) (fun _ => rfl) fun x1 =>
    aw_goto (pc := 25) C (tgt := 2) dX11_rankOf_25 rfl <|
    (ih x1 h)))
def X11_rankOf (v1 : Int32) (h : AH) : Option (Int32 × AH) :=
    X11_rankOf_l2 v1 FU 0 h
set_option maxRecDepth 100000 in
theorem c_X11_rankOf (l : Launch) (v1 : Int32) : MC l yX11_rankOf cX11_rankOf 3 (some .int) rmX11_rankOf ZR [.ref 0, .int v1] rvI (X11_rankOf v1) :=
  MC.of (own := RX11) (by decide +kernel) rfl (Nat.le_of_ble_eq_true rfl) fun X yd A h _ C =>
    aw_iconst (pc := 0) C (v := 0) dX11_rankOf_0 rfl <|
    aw_istore_n (pc := 1) C (i := 2) (lv' := [(0, .ref 0), (1, .int v1), (2, .int 0)]) dX11_rankOf_1 rfl (by decide) rfl <|
    (aX11_rankOf_l2 C v1 FU 0 h)
end
section
abbrev rmX11_isEnough : Room := { frames := 4, cells := 0, slots := 0, locals := 90 }
def X11_isEnough (v1 : Int32) (v2 : Int32) (v3 : Int32) (h : AH) : Option (Int32 × AH) :=
    bd (X11_findBest 0 (h.1 0 16) h) fun _ h2 =>
    bd (X11_comesLength v1 v2 h2) fun _ h4 =>
    bd (X11_sorts h4) fun _ h6 =>
    bd (X11_rankOf v1 h6) fun r7 h8 =>
    if v3 ≤ r7 then (cz 0 (some (0, h8)))
    else (cz 1 (some (1, h8)))
set_option maxRecDepth 100000 in
theorem c_X11_isEnough (l : Launch) (v1 : Int32) (v2 : Int32) (v3 : Int32) : MC l yX11_isEnough cX11_isEnough 4 (some .boolean) rmX11_isEnough ZR [.ref 0, .int v1, .int v2, .int v3] rvI (X11_isEnough v1 v2 v3) :=
  MC.of (own := RX11) (by decide +kernel) rfl (Nat.le_of_ble_eq_true rfl) fun X yd A h _ C =>
    aw_aload_n (pc := 0) C (i := 0) dX11_isEnough_0 rfl rfl <|
    aw_iconst (pc := 1) C (v := 0) dX11_isEnough_1 rfl <|
    aw_aload_n (pc := 2) C (i := 0) dX11_isEnough_2 rfl rfl <|
    aw_getI (pc := 3) C dX11_isEnough_3 fl_X11_147 sR_0 rfl <|
    aw_callF (pc := 6) C (cr_V (rest := []) (F := (X11_findBest 0 (h.1 0 16))) C (c_X11_findBest X.2.1 0 (h.1 0 16)) dX11_isEnough_6 mf_X11_findBest ml_X11_213 im_X11_findBest se_X11_findBest sR_0 rfl ⟨(Nat.le_of_ble_eq_true rfl), (Nat.le_of_ble_eq_true rfl)⟩ rfl rfl (Nat.le_of_ble_eq_true rfl)) rfl rfl rfl (Nat.zero_le _) (Nat.zero_le _) fun _ h2 =>
    aw_aload_n (pc := 9) C (i := 0) dX11_isEnough_9 rfl rfl <|
    aw_iload_n (pc := 10) C (i := 1) dX11_isEnough_10 rfl rfl <|
    aw_iload_n (pc := 11) C (i := 2) dX11_isEnough_11 rfl rfl <|
    aw_callF (pc := 12) C (cr_V (rest := []) (F := (X11_comesLength v1 v2)) C (c_X11_comesLength X.2.1 v1 v2) dX11_isEnough_12 mf_X11_comesLength ml_X11_262 im_X11_comesLength se_X11_comesLength sR_0 rfl ⟨(Nat.le_of_ble_eq_true rfl), (Nat.le_of_ble_eq_true rfl)⟩ rfl rfl (Nat.le_of_ble_eq_true rfl)) rfl rfl rfl (Nat.zero_le _) (Nat.zero_le _) fun _ h4 =>
    aw_aload_n (pc := 15) C (i := 0) dX11_isEnough_15 rfl rfl <|
    aw_callF (pc := 16) C (cr_V (rest := []) (F := X11_sorts) C (c_X11_sorts X.2.1 ) dX11_isEnough_16 mf_X11_sorts ml_X11_268 im_X11_sorts se_X11_sorts sR_0 rfl ⟨(Nat.le_of_ble_eq_true rfl), (Nat.le_of_ble_eq_true rfl)⟩ rfl rfl (Nat.le_of_ble_eq_true rfl)) rfl rfl rfl (Nat.zero_le _) (Nat.zero_le _) fun _ h6 =>
    aw_aload_n (pc := 19) C (i := 0) dX11_isEnough_19 rfl rfl <|
    aw_iload_n (pc := 20) C (i := 1) dX11_isEnough_20 rfl rfl <|
    aw_callF (pc := 21) C (cr_V (rest := []) (F := (X11_rankOf v1)) C (c_X11_rankOf X.2.1 v1) dX11_isEnough_21 mf_X11_rankOf ml_X11_274 im_X11_rankOf se_X11_rankOf sR_0 rfl ⟨(Nat.le_of_ble_eq_true rfl), (Nat.le_of_ble_eq_true rfl)⟩ rfl rfl (Nat.le_of_ble_eq_true rfl)) rfl rfl rfl (Nat.zero_le _) (Nat.zero_le _) fun r7 h8 =>
    aw_iload_n (pc := 24) C (i := 3) dX11_isEnough_24 rfl rfl <|
    aw_icmp_ge (pc := 25) C (tgt := 32) dX11_isEnough_25 rfl (fun _ =>
    aw_iconst (pc := 32) C (v := 0) dX11_isEnough_32 rfl <|
    aw_zret (pc := 33) C dX11_isEnough_33 rfl rfl) (fun _ =>
    aw_iconst (pc := 28) C (v := 1) dX11_isEnough_28 rfl <|
    aw_goto (pc := 29) C (tgt := 33) dX11_isEnough_29 rfl <|
    aw_zret (pc := 33) C dX11_isEnough_33 rfl rfl)

abbrev rmX11_needs : Room := { frames := 5, cells := 0, slots := 0, locals := 113 }
def X11_needs_j65  (v1 : Int32) (v2 : Int32) (v4 : Int32) (K41 : Int32 → AH → Option (Int32 × AH)) (s0 : Int32) (s1 : Int32) (s2 : Int32) (h : AH) : Option (Int32 × AH) :=
    bd (X11_isEnough s2 s1 s0 h) fun r7 h8 =>
    if r7 = 0 then (vl (v4 + 1) fun x9 =>
    K41 x9 h8)
    else (some (v4, h8))
set_option maxRecDepth 100000 in
theorem aX11_needs_j65 {X : MCx} {yd : Dyn} {A : Nat → Prop} (C : OK X cX11_needs RX11 5 (some .int) rmX11_needs A)  (v1 : Int32) (v2 : Int32) (v4 : Int32) (K41 : Int32 → AH → Option (Int32 × AH)) (hK41 : ∀ (w4 : Int32) (h : AH), AW X 5 ZR yd A 0 0 (QF X rmX11_needs ZR yd rvI A) 41 [(0, .ref 0), (1, .int v1), (2, .int v2), (4, .int w4)] [] h (K41 w4 h)) (s0 : Int32) (s1 : Int32) (s2 : Int32) (h : AH) : AW X 5 ZR yd A 0 0 (QF X rmX11_needs ZR yd rvI A) 65 [(0, .ref 0), (1, .int v1), (2, .int v2), (4, .int v4)] [.int s0, .int s1, .int s2, .ref 0] h (X11_needs_j65 v1 v2 v4 K41 s0 s1 s2 h) := by
    exact aw_callF (pc := 65) C (cr_V (rest := []) (F := (X11_isEnough s2 s1 s0)) C (c_X11_isEnough X.2.1 s2 s1 s0) dX11_needs_65 mf_X11_isEnough ml_X11_277 im_X11_isEnough se_X11_isEnough sR_0 rfl ⟨(Nat.le_of_ble_eq_true rfl), (Nat.le_of_ble_eq_true rfl)⟩ rfl rfl (Nat.le_of_ble_eq_true rfl)) rfl rfl rfl (Nat.zero_le _) (Nat.zero_le _) fun r7 h8 =>
    aw_if_eq (pc := 68) C (tgt := 74) dX11_needs_68 rfl (fun _ =>
    aw_iincV (pc := 74) C (i := 4) (cst := 1) (fun x9 => [(0, .ref 0), (1, .int v1), (2, .int v2), (4, .int x9)]) dX11_needs_74 rfl rfl (by decide) (fun _ => rfl) fun x9 =>
    aw_goto (pc := 77) C (tgt := 41) dX11_needs_77 rfl <|
    (hK41 x9 h8)) (fun _ =>
    aw_iload (pc := 71) C (i := 4) dX11_needs_71 rfl <|
    aw_iret (pc := 73) C dX11_needs_73 rfl rfl)
def X11_needs_l41  (v1 : Int32) (v2 : Int32) : Nat → Int32 → AH → Option (Int32 × AH)
  | 0, _, _ => none
  | n + 1, v4, h =>
    if 1000 ≤ v4 then (some ((-9), h))
    else (if v2 = 0 then (X11_needs_j65 v1 v2 v4 (X11_needs_l41 v1 v2 n) 1 v4 v1 h)
    else (bd (X11_finalists h) fun r5 h6 =>
    X11_needs_j65 v1 v2 v4 (X11_needs_l41 v1 v2 n) r5 v4 v1 h6))
set_option maxRecDepth 100000 in
theorem aX11_needs_l41 {X : MCx} {yd : Dyn} {A : Nat → Prop} (C : OK X cX11_needs RX11 5 (some .int) rmX11_needs A)  (v1 : Int32) (v2 : Int32) : ∀ (n : Nat) (v4 : Int32) (h : AH), AW X 5 ZR yd A 0 0 (QF X rmX11_needs ZR yd rvI A) 41 [(0, .ref 0), (1, .int v1), (2, .int v2), (4, .int v4)] [] h (X11_needs_l41 v1 v2 n v4 h) := by
  intro n
  induction n with
  | zero => intro v4 h; exact aw_none
  | succ n ih =>
    intro v4 h
    exact aw_iload (pc := 41) C (i := 4) dX11_needs_41 rfl <|
    aw_sipush (pc := 43) C (v := 1000) dX11_needs_43 rfl <|
    aw_icmp_ge (pc := 46) C (tgt := 80) dX11_needs_46 rfl (fun _ =>
    aw_bipush (pc := 80) C (v := (-9)) dX11_needs_80 rfl <|
    aw_iret (pc := 82) C dX11_needs_82 rfl rfl) (fun _ =>
    aw_aload_n (pc := 49) C (i := 0) dX11_needs_49 rfl rfl <|
    aw_iload_n (pc := 50) C (i := 1) dX11_needs_50 rfl rfl <|
    aw_iload (pc := 51) C (i := 4) dX11_needs_51 rfl <|
    aw_iload_n (pc := 53) C (i := 2) dX11_needs_53 rfl rfl <|
    aw_if_ne (pc := 54) C (tgt := 61) dX11_needs_54 rfl (fun _ =>
    aw_iconst (pc := 57) C (v := 1) dX11_needs_57 rfl <|
    aw_goto (pc := 58) C (tgt := 65) dX11_needs_58 rfl <|
    (aX11_needs_j65 C v1 v2 v4 (X11_needs_l41 v1 v2 n) ih 1 v4 v1 h)) (fun _ =>
    aw_aload_n (pc := 61) C (i := 0) dX11_needs_61 rfl rfl <|
    aw_callF (pc := 62) C (cr_V (rest := [.int v4, .int v1, .ref 0]) (F := X11_finalists) C (c_X11_finalists X.2.1 ) dX11_needs_62 mf_X11_finalists ml_X11_271 im_X11_finalists se_X11_finalists sR_0 rfl ⟨(Nat.le_of_ble_eq_true rfl), (Nat.le_of_ble_eq_true rfl)⟩ rfl rfl (Nat.le_of_ble_eq_true rfl)) rfl rfl rfl (Nat.zero_le _) (Nat.zero_le _) fun r5 h6 =>
    (aX11_needs_j65 C v1 v2 v4 (X11_needs_l41 v1 v2 n) ih r5 v4 v1 h6)))
def X11_needs_j27  (v1 : Int32) (v2 : Int32) (s0 : Int32) (h : AH) : Option (Int32 × AH) :=
    if s0 = 0 then (X11_needs_l41 v1 v2 FU 0 h)
    else (bd (X11_no s0 h) fun r10 h11 =>
    some (r10, h11))
set_option maxRecDepth 100000 in
theorem aX11_needs_j27 {X : MCx} {yd : Dyn} {A : Nat → Prop} (C : OK X cX11_needs RX11 5 (some .int) rmX11_needs A)  (v1 : Int32) (v2 : Int32) (s0 : Int32) (h : AH) : AW X 5 ZR yd A 0 0 (QF X rmX11_needs ZR yd rvI A) 27 [(0, .ref 0), (1, .int v1), (2, .int v2)] [.int s0] h (X11_needs_j27 v1 v2 s0 h) := by
    exact aw_istore_n (pc := 27) C (i := 3) (lv' := [(0, .ref 0), (1, .int v1), (2, .int v2), (3, .int s0)]) dX11_needs_27 rfl (by decide) rfl <|
    aw_iload_n (pc := 28) C (i := 3) dX11_needs_28 rfl rfl <|
    aw_if_eq (pc := 29) C (tgt := 38) dX11_needs_29 rfl (fun _ =>
    aw_iconst (pc := 38) C (v := 0) dX11_needs_38 rfl <|
    aw_istore (pc := 39) C (i := 4) (lv' := [(0, .ref 0), (1, .int v1), (2, .int v2), (3, .int s0), (4, .int 0)]) dX11_needs_39 (by decide) rfl <|
    aw_drop [0, 1, 2, 4] (aX11_needs_l41 C v1 v2 FU 0 h)) (fun _ =>
    aw_aload_n (pc := 32) C (i := 0) dX11_needs_32 rfl rfl <|
    aw_iload_n (pc := 33) C (i := 3) dX11_needs_33 rfl rfl <|
    aw_callF (pc := 34) C (cr_V (rest := []) (F := (X11_no s0)) C (c_X11_no X.2.1 s0) dX11_needs_34 mf_X11_no ml_X11_115 im_X11_no se_X11_no sR_0 rfl ⟨(Nat.le_of_ble_eq_true rfl), (Nat.le_of_ble_eq_true rfl)⟩ rfl rfl (Nat.le_of_ble_eq_true rfl)) rfl rfl rfl (Nat.zero_le _) (Nat.zero_le _) fun r10 h11 =>
    aw_iret (pc := 37) C dX11_needs_37 rfl rfl)
def X11_needs (v1 : Int32) (v2 : Int32) (h : AH) : Option (Int32 × AH) :=
    bd (X11_isJumper v1 h) fun r1 h2 =>
    if r1 = 0 then (X11_needs_j27 v1 v2 (-1) h2)
    else (bd (X11_isIn v2 0 1 h2) fun r3 h4 =>
    if r3 = 0 then (X11_needs_j27 v1 v2 (-2) h4)
    else (X11_needs_j27 v1 v2 0 h4))
set_option maxRecDepth 100000 in
theorem c_X11_needs (l : Launch) (v1 : Int32) (v2 : Int32) : MC l yX11_needs cX11_needs 5 (some .int) rmX11_needs ZR [.ref 0, .int v1, .int v2] rvI (X11_needs v1 v2) :=
  MC.of (own := RX11) (by decide +kernel) rfl (Nat.le_of_ble_eq_true rfl) fun X yd A h _ C =>
    aw_aload_n (pc := 0) C (i := 0) dX11_needs_0 rfl rfl <|
    aw_iload_n (pc := 1) C (i := 1) dX11_needs_1 rfl rfl <|
    aw_callF (pc := 2) C (cr_V (rest := []) (F := (X11_isJumper v1)) C (c_X11_isJumper X.2.1 v1) dX11_needs_2 mf_X11_isJumper ml_X11_207 im_X11_isJumper se_X11_isJumper sR_0 rfl ⟨(Nat.le_of_ble_eq_true rfl), (Nat.le_of_ble_eq_true rfl)⟩ rfl rfl (Nat.le_of_ble_eq_true rfl)) rfl rfl rfl (Nat.zero_le _) (Nat.zero_le _) fun r1 h2 =>
    aw_if_ne (pc := 5) C (tgt := 12) dX11_needs_5 rfl (fun _ =>
    aw_iconst (pc := 8) C (v := (-1)) dX11_needs_8 rfl <|
    aw_goto (pc := 9) C (tgt := 27) dX11_needs_9 rfl <|
    (aX11_needs_j27 C v1 v2 (-1) h2)) (fun _ =>
    aw_iload_n (pc := 12) C (i := 2) dX11_needs_12 rfl rfl <|
    aw_iconst (pc := 13) C (v := 0) dX11_needs_13 rfl <|
    aw_iconst (pc := 14) C (v := 1) dX11_needs_14 rfl <|
    aw_callF (pc := 15) C (cr_S (rest := []) (F := (X11_isIn v2 0 1)) C (c_X11_isIn X.2.1 v2 0 1) dX11_needs_15 mf_X11_isIn ml_X11_126 st_X11_isIn ⟨(Nat.le_of_ble_eq_true rfl), (Nat.le_of_ble_eq_true rfl)⟩ rfl rfl (Nat.le_of_ble_eq_true rfl)) rfl rfl rfl (Nat.zero_le _) (Nat.zero_le _) fun r3 h4 =>
    aw_if_ne (pc := 18) C (tgt := 26) dX11_needs_18 rfl (fun _ =>
    aw_bipush (pc := 21) C (v := (-2)) dX11_needs_21 rfl <|
    aw_goto (pc := 23) C (tgt := 27) dX11_needs_23 rfl <|
    (aX11_needs_j27 C v1 v2 (-2) h4)) (fun _ =>
    aw_iconst (pc := 26) C (v := 0) dX11_needs_26 rfl <|
    (aX11_needs_j27 C v1 v2 0 h4)))

abbrev rmX11_ranks : Room := { frames := 4, cells := 0, slots := 0, locals := 90 }
def X11_ranks_l38  : Nat → Int32 → Int32 → AH → Option (Int32 × AH)
  | 0, _, _, _ => none
  | n + 1, v2, v3, h =>
    if v3 < 0 then (some (v2, h))
    else (ck v3 4 (vl ((10 * v2) + (h.1 22 v3.toNatClampNeg)) fun x8 =>
    vl (v3 + (-1)) fun x9 =>
    (X11_ranks_l38 n) x8 x9 h))
set_option maxRecDepth 100000 in
theorem aX11_ranks_l38 {X : MCx} {yd : Dyn} {A : Nat → Prop} (C : OK X cX11_ranks RX11 4 (some .int) rmX11_ranks A)  : ∀ (n : Nat) (v2 : Int32) (v3 : Int32) (h : AH), AW X 4 ZR yd A 0 0 (QF X rmX11_ranks ZR yd rvI A) 38 [(0, .ref 0), (2, .int v2), (3, .int v3)] [] h (X11_ranks_l38 n v2 v3 h) := by
  intro n
  induction n with
  | zero => intro v2 v3 h; exact aw_none
  | succ n ih =>
    intro v2 v3 h
    exact aw_iload_n (pc := 38) C (i := 3) dX11_ranks_38 rfl rfl <|
    aw_if_lt (pc := 39) C (tgt := 60) dX11_ranks_39 rfl (fun _ =>
    aw_iload_n (pc := 60) C (i := 2) dX11_ranks_60 rfl rfl <|
    aw_iret (pc := 61) C dX11_ranks_61 rfl rfl) (fun _ =>
    aw_bipush (pc := 42) C (v := 10) dX11_ranks_42 rfl <|
    aw_iload_n (pc := 44) C (i := 2) dX11_ranks_44 rfl rfl <|
    aw_imul (pc := 45) C dX11_ranks_45 <|
    aw_aload_n (pc := 46) C (i := 0) dX11_ranks_46 rfl rfl <|
    aw_getR (pc := 47) C (b := 22) dX11_ranks_47 fl_X11_74 sR_0 rfl rR_0_32 <|
    aw_iload_n (pc := 50) C (i := 3) dX11_ranks_50 rfl rfl <|
    aw_iald (pc := 51) C dX11_ranks_51 sR_22 rfl <|
    aw_iadd (pc := 52) C dX11_ranks_52 <|
    aw_istoreV_n (pc := 53) C (i := 2) (fun x8 => [(0, .ref 0), (2, .int x8), (3, .int v3)]) dX11_ranks_53 rfl (by decide) (fun _ => rfl) fun x8 =>
    aw_iincV (pc := 54) C (i := 3) (cst := (-1)) (fun x9 => [(0, .ref 0), (2, .int x8), (3, .int x9)]) dX11_ranks_54 rfl rfl (by decide) (fun _ => rfl) fun x9 =>
    aw_goto (pc := 57) C (tgt := 38) dX11_ranks_57 rfl <|
    (ih x8 x9 h))
def X11_ranks (v1 : Int32) (h : AH) : Option (Int32 × AH) :=
    bd (X11_isIn v1 0 2 h) fun r1 h2 =>
    if r1 = 0 then (bd (X11_no (-2) h2) fun r10 h11 =>
    some (r10, h11))
    else (bd (X11_findBest v1 (h2.1 0 16) h2) fun _ h4 =>
    bd (X11_sorts h4) fun _ h6 =>
    vl ((h6.1 0 15) - 1) fun x7 =>
    X11_ranks_l38 FU 0 x7 h6)
set_option maxRecDepth 100000 in
theorem c_X11_ranks (l : Launch) (v1 : Int32) : MC l yX11_ranks cX11_ranks 4 (some .int) rmX11_ranks ZR [.ref 0, .int v1] rvI (X11_ranks v1) :=
  MC.of (own := RX11) (by decide +kernel) rfl (Nat.le_of_ble_eq_true rfl) fun X yd A h _ C =>
    aw_iload_n (pc := 0) C (i := 1) dX11_ranks_0 rfl rfl <|
    aw_iconst (pc := 1) C (v := 0) dX11_ranks_1 rfl <|
    aw_iconst (pc := 2) C (v := 2) dX11_ranks_2 rfl <|
    aw_callF (pc := 3) C (cr_S (rest := []) (F := (X11_isIn v1 0 2)) C (c_X11_isIn X.2.1 v1 0 2) dX11_ranks_3 mf_X11_isIn ml_X11_126 st_X11_isIn ⟨(Nat.le_of_ble_eq_true rfl), (Nat.le_of_ble_eq_true rfl)⟩ rfl rfl (Nat.le_of_ble_eq_true rfl)) rfl rfl rfl (Nat.zero_le _) (Nat.zero_le _) fun r1 h2 =>
    aw_if_ne (pc := 6) C (tgt := 16) dX11_ranks_6 rfl (fun _ =>
    aw_aload_n (pc := 9) C (i := 0) dX11_ranks_9 rfl rfl <|
    aw_bipush (pc := 10) C (v := (-2)) dX11_ranks_10 rfl <|
    aw_callF (pc := 12) C (cr_V (rest := []) (F := (X11_no (-2))) C (c_X11_no X.2.1 (-2)) dX11_ranks_12 mf_X11_no ml_X11_115 im_X11_no se_X11_no sR_0 rfl ⟨(Nat.le_of_ble_eq_true rfl), (Nat.le_of_ble_eq_true rfl)⟩ rfl rfl (Nat.le_of_ble_eq_true rfl)) rfl rfl rfl (Nat.zero_le _) (Nat.zero_le _) fun r10 h11 =>
    aw_iret (pc := 15) C dX11_ranks_15 rfl rfl) (fun _ =>
    aw_aload_n (pc := 16) C (i := 0) dX11_ranks_16 rfl rfl <|
    aw_iload_n (pc := 17) C (i := 1) dX11_ranks_17 rfl rfl <|
    aw_aload_n (pc := 18) C (i := 0) dX11_ranks_18 rfl rfl <|
    aw_getI (pc := 19) C dX11_ranks_19 fl_X11_147 sR_0 rfl <|
    aw_callF (pc := 22) C (cr_V (rest := []) (F := (X11_findBest v1 (h2.1 0 16))) C (c_X11_findBest X.2.1 v1 (h2.1 0 16)) dX11_ranks_22 mf_X11_findBest ml_X11_213 im_X11_findBest se_X11_findBest sR_0 rfl ⟨(Nat.le_of_ble_eq_true rfl), (Nat.le_of_ble_eq_true rfl)⟩ rfl rfl (Nat.le_of_ble_eq_true rfl)) rfl rfl rfl (Nat.zero_le _) (Nat.zero_le _) fun _ h4 =>
    aw_aload_n (pc := 25) C (i := 0) dX11_ranks_25 rfl rfl <|
    aw_callF (pc := 26) C (cr_V (rest := []) (F := X11_sorts) C (c_X11_sorts X.2.1 ) dX11_ranks_26 mf_X11_sorts ml_X11_268 im_X11_sorts se_X11_sorts sR_0 rfl ⟨(Nat.le_of_ble_eq_true rfl), (Nat.le_of_ble_eq_true rfl)⟩ rfl rfl (Nat.le_of_ble_eq_true rfl)) rfl rfl rfl (Nat.zero_le _) (Nat.zero_le _) fun _ h6 =>
    aw_iconst (pc := 29) C (v := 0) dX11_ranks_29 rfl <|
    aw_istore_n (pc := 30) C (i := 2) (lv' := [(0, .ref 0), (1, .int v1), (2, .int 0)]) dX11_ranks_30 rfl (by decide) rfl <|
    aw_aload_n (pc := 31) C (i := 0) dX11_ranks_31 rfl rfl <|
    aw_getI (pc := 32) C dX11_ranks_32 fl_X11_105 sR_0 rfl <|
    aw_iconst (pc := 35) C (v := 1) dX11_ranks_35 rfl <|
    aw_isub (pc := 36) C dX11_ranks_36 <|
    aw_istoreV_n (pc := 37) C (i := 3) (fun x7 => [(0, .ref 0), (1, .int v1), (2, .int 0), (3, .int x7)]) dX11_ranks_37 rfl (by decide) (fun _ => rfl) fun x7 =>
    aw_drop [0, 2, 3] (aX11_ranks_l38 C FU 0 x7 h6))

abbrev rmX11_leader : Room := { frames := 5, cells := 0, slots := 0, locals := 110 }
def X11_leader  (h : AH) : Option (Int32 × AH) :=
    if (h.1 0 15) = 0 then (some ((-9), h))
    else (bd (X11_ranksNow h) fun _ h2 =>
    ck 0 4 (some ((h2.1 22 (0 : Int32).toNatClampNeg), h2)))
set_option maxRecDepth 100000 in
theorem c_X11_leader (l : Launch)  : MC l yX11_leader cX11_leader 1 (some .int) rmX11_leader ZR [.ref 0] rvI (X11_leader) :=
  MC.of (own := RX11) (by decide +kernel) rfl (Nat.le_of_ble_eq_true rfl) fun X yd A h _ C =>
    aw_aload_n (pc := 0) C (i := 0) dX11_leader_0 rfl rfl <|
    aw_getI (pc := 1) C dX11_leader_1 fl_X11_105 sR_0 rfl <|
    aw_if_ne (pc := 4) C (tgt := 10) dX11_leader_4 rfl (fun _ =>
    aw_bipush (pc := 7) C (v := (-9)) dX11_leader_7 rfl <|
    aw_iret (pc := 9) C dX11_leader_9 rfl rfl) (fun _ =>
    aw_aload_n (pc := 10) C (i := 0) dX11_leader_10 rfl rfl <|
    aw_callF (pc := 11) C (cr_V (rest := []) (F := X11_ranksNow) C (c_X11_ranksNow X.2.1 ) dX11_leader_11 mf_X11_ranksNow ml_X11_280 im_X11_ranksNow se_X11_ranksNow sR_0 rfl ⟨(Nat.le_of_ble_eq_true rfl), (Nat.le_of_ble_eq_true rfl)⟩ rfl rfl (Nat.le_of_ble_eq_true rfl)) rfl rfl rfl (Nat.zero_le _) (Nat.zero_le _) fun _ h2 =>
    aw_aload_n (pc := 14) C (i := 0) dX11_leader_14 rfl rfl <|
    aw_getR (pc := 15) C (b := 22) dX11_leader_15 fl_X11_74 sR_0 rfl rR_0_32 <|
    aw_iconst (pc := 18) C (v := 0) dX11_leader_18 rfl <|
    aw_iald (pc := 19) C dX11_leader_19 sR_22 rfl <|
    aw_iret (pc := 20) C dX11_leader_20 rfl rfl)

abbrev rmX11_leads : Room := { frames := 6, cells := 0, slots := 0, locals := 130 }
def X11_leads  (h : AH) : Option (Int32 × AH) :=
    bd (X11_leader h) fun r1 h2 =>
    some (r1, h2)
set_option maxRecDepth 100000 in
theorem c_X11_leads (l : Launch)  : MC l yX11_leads cX11_leads 1 (some .int) rmX11_leads ZR [.ref 0] rvI (X11_leads) :=
  MC.of (own := RX11) (by decide +kernel) rfl (Nat.le_of_ble_eq_true rfl) fun X yd A h _ C =>
    aw_aload_n (pc := 0) C (i := 0) dX11_leads_0 rfl rfl <|
    aw_callF (pc := 1) C (cr_V (rest := []) (F := X11_leader) C (c_X11_leader X.2.1 ) dX11_leads_1 mf_X11_leader ml_X11_283 im_X11_leader se_X11_leader sR_0 rfl ⟨(Nat.le_of_ble_eq_true rfl), (Nat.le_of_ble_eq_true rfl)⟩ rfl rfl (Nat.le_of_ble_eq_true rfl)) rfl rfl rfl (Nat.zero_le _) (Nat.zero_le _) fun r1 h2 =>
    aw_iret (pc := 4) C dX11_leads_4 rfl rfl

abbrev rmX11_goOnBits : Room := { frames := 5, cells := 0, slots := 0, locals := 110 }
def X11_goOnBits_l8  : Nat → Int32 → Int32 → AH → Option (Int32 × AH)
  | 0, _, _, _ => none
  | n + 1, v1, v2, h =>
    bd (X11_finalists h) fun r3 h4 =>
    if r3 ≤ v2 then (some (v1, h4))
    else (ck v2 4 (vl (v1 ||| (shl32 1 (h4.1 22 v2.toNatClampNeg))) fun x5 =>
    vl (v2 + 1) fun x6 =>
    (X11_goOnBits_l8 n) x5 x6 h4))
set_option maxRecDepth 100000 in
theorem aX11_goOnBits_l8 {X : MCx} {yd : Dyn} {A : Nat → Prop} (C : OK X cX11_goOnBits RX11 3 (some .int) rmX11_goOnBits A)  : ∀ (n : Nat) (v1 : Int32) (v2 : Int32) (h : AH), AW X 3 ZR yd A 0 0 (QF X rmX11_goOnBits ZR yd rvI A) 8 [(0, .ref 0), (1, .int v1), (2, .int v2)] [] h (X11_goOnBits_l8 n v1 v2 h) := by
  intro n
  induction n with
  | zero => intro v1 v2 h; exact aw_none
  | succ n ih =>
    intro v1 v2 h
    exact aw_iload_n (pc := 8) C (i := 2) dX11_goOnBits_8 rfl rfl <|
    aw_aload_n (pc := 9) C (i := 0) dX11_goOnBits_9 rfl rfl <|
    aw_callF (pc := 10) C (cr_V (rest := [.int v2]) (F := X11_finalists) C (c_X11_finalists X.2.1 ) dX11_goOnBits_10 mf_X11_finalists ml_X11_271 im_X11_finalists se_X11_finalists sR_0 rfl ⟨(Nat.le_of_ble_eq_true rfl), (Nat.le_of_ble_eq_true rfl)⟩ rfl rfl (Nat.le_of_ble_eq_true rfl)) rfl rfl rfl (Nat.zero_le _) (Nat.zero_le _) fun r3 h4 =>
    aw_icmp_ge (pc := 13) C (tgt := 33) dX11_goOnBits_13 rfl (fun _ =>
    aw_iload_n (pc := 33) C (i := 1) dX11_goOnBits_33 rfl rfl <|
    aw_iret (pc := 34) C dX11_goOnBits_34 rfl rfl) (fun _ =>
    aw_iload_n (pc := 16) C (i := 1) dX11_goOnBits_16 rfl rfl <|
    aw_iconst (pc := 17) C (v := 1) dX11_goOnBits_17 rfl <|
    aw_aload_n (pc := 18) C (i := 0) dX11_goOnBits_18 rfl rfl <|
    aw_getR (pc := 19) C (b := 22) dX11_goOnBits_19 fl_X11_74 sR_0 rfl rR_0_32 <|
    aw_iload_n (pc := 22) C (i := 2) dX11_goOnBits_22 rfl rfl <|
    aw_iald (pc := 23) C dX11_goOnBits_23 sR_22 rfl <|
    aw_ishl (pc := 24) C dX11_goOnBits_24 <|
    aw_ior (pc := 25) C dX11_goOnBits_25 <|
    aw_istoreV_n (pc := 26) C (i := 1) (fun x5 => [(0, .ref 0), (1, .int x5), (2, .int v2)]) dX11_goOnBits_26 rfl (by decide) (fun _ => rfl) fun x5 =>
    aw_iincV (pc := 27) C (i := 2) (cst := 1) (fun x6 => [(0, .ref 0), (1, .int x5), (2, .int x6)]) dX11_goOnBits_27 rfl rfl (by decide) (fun _ => rfl) fun x6 =>
    aw_goto (pc := 30) C (tgt := 8) dX11_goOnBits_30 rfl <|
    (ih x5 x6 h4))
def X11_goOnBits  (h : AH) : Option (Int32 × AH) :=
    bd (X11_ranksNow h) fun _ h2 =>
    X11_goOnBits_l8 FU 0 0 h2
set_option maxRecDepth 100000 in
theorem c_X11_goOnBits (l : Launch)  : MC l yX11_goOnBits cX11_goOnBits 3 (some .int) rmX11_goOnBits ZR [.ref 0] rvI (X11_goOnBits) :=
  MC.of (own := RX11) (by decide +kernel) rfl (Nat.le_of_ble_eq_true rfl) fun X yd A h _ C =>
    aw_aload_n (pc := 0) C (i := 0) dX11_goOnBits_0 rfl rfl <|
    aw_callF (pc := 1) C (cr_V (rest := []) (F := X11_ranksNow) C (c_X11_ranksNow X.2.1 ) dX11_goOnBits_1 mf_X11_ranksNow ml_X11_280 im_X11_ranksNow se_X11_ranksNow sR_0 rfl ⟨(Nat.le_of_ble_eq_true rfl), (Nat.le_of_ble_eq_true rfl)⟩ rfl rfl (Nat.le_of_ble_eq_true rfl)) rfl rfl rfl (Nat.zero_le _) (Nat.zero_le _) fun _ h2 =>
    aw_iconst (pc := 4) C (v := 0) dX11_goOnBits_4 rfl <|
    aw_istore_n (pc := 5) C (i := 1) (lv' := [(0, .ref 0), (1, .int 0)]) dX11_goOnBits_5 rfl (by decide) rfl <|
    aw_iconst (pc := 6) C (v := 0) dX11_goOnBits_6 rfl <|
    aw_istore_n (pc := 7) C (i := 2) (lv' := [(0, .ref 0), (1, .int 0), (2, .int 0)]) dX11_goOnBits_7 rfl (by decide) rfl <|
    (aX11_goOnBits_l8 C FU 0 0 h2)

abbrev rmX11_goOn : Room := { frames := 6, cells := 0, slots := 0, locals := 132 }
def X11_goOn  (h : AH) : Option (Int32 × AH) :=
    bd (X11_goOnBits h) fun r1 h2 =>
    some (r1, h2)
set_option maxRecDepth 100000 in
theorem c_X11_goOn (l : Launch)  : MC l yX11_goOn cX11_goOn 1 (some .int) rmX11_goOn ZR [.ref 0] rvI (X11_goOn) :=
  MC.of (own := RX11) (by decide +kernel) rfl (Nat.le_of_ble_eq_true rfl) fun X yd A h _ C =>
    aw_aload_n (pc := 0) C (i := 0) dX11_goOn_0 rfl rfl <|
    aw_callF (pc := 1) C (cr_V (rest := []) (F := X11_goOnBits) C (c_X11_goOnBits X.2.1 ) dX11_goOn_1 mf_X11_goOnBits ml_X11_286 im_X11_goOnBits se_X11_goOnBits sR_0 rfl ⟨(Nat.le_of_ble_eq_true rfl), (Nat.le_of_ble_eq_true rfl)⟩ rfl rfl (Nat.le_of_ble_eq_true rfl)) rfl rfl rfl (Nat.zero_le _) (Nat.zero_le _) fun r1 h2 =>
    aw_iret (pc := 4) C dX11_goOn_4 rfl rfl

abbrev rmX11_tenThousandths : Room := { frames := 4, cells := 0, slots := 0, locals := 102 }
def X11_tenThousandths_l28  (v3 : Int32) (v5 : Int64) : Nat → Int64 → Int32 → AH → Option (Int32 × AH)
  | 0, _, _, _ => none
  | n + 1, v7, v9, h =>
    if v3 ≤ v9 then (some ((10000 - v7.toInt32), h))
    else (vl ((v7 * (10000 - v5)) / 10000) fun x6 =>
    vl (v9 + 1) fun x7 =>
    (X11_tenThousandths_l28 v3 v5 n) x6 x7 h)
set_option maxRecDepth 100000 in
theorem aX11_tenThousandths_l28 {X : MCx} {yd : Dyn} {A : Nat → Prop} (C : OK X cX11_tenThousandths RX11 10 (some .int) rmX11_tenThousandths A)  (v3 : Int32) (v5 : Int64) : ∀ (n : Nat) (v7 : Int64) (v9 : Int32) (h : AH), AW X 10 ZR yd A 0 0 (QF X rmX11_tenThousandths ZR yd rvI A) 28 [(3, .int v3), (5, .long v5), (7, .long v7), (9, .int v9)] [] h (X11_tenThousandths_l28 v3 v5 n v7 v9 h) := by
  intro n
  induction n with
  | zero => intro v7 v9 h; exact aw_none
  | succ n ih =>
    intro v7 v9 h
    exact aw_iload (pc := 28) C (i := 9) dX11_tenThousandths_28 rfl <|
    aw_iload_n (pc := 30) C (i := 3) dX11_tenThousandths_30 rfl rfl <|
    aw_icmp_ge (pc := 31) C (tgt := 55) dX11_tenThousandths_31 rfl (fun _ =>
    aw_sipush (pc := 55) C (v := 10000) dX11_tenThousandths_55 rfl <|
    aw_lload (pc := 58) C (i := 7) dX11_tenThousandths_58 rfl <|
    aw_l2i (pc := 60) C dX11_tenThousandths_60 <|
    aw_isub (pc := 61) C dX11_tenThousandths_61 <|
    aw_iret (pc := 62) C dX11_tenThousandths_62 rfl rfl) (fun _ =>
    aw_lload (pc := 34) C (i := 7) dX11_tenThousandths_34 rfl <|
    aw_ldc2_w (pc := 36) C (v := 10000) dX11_tenThousandths_36 kc_X11_289 <|
    aw_lload (pc := 39) C (i := 5) dX11_tenThousandths_39 rfl <|
    aw_lsub (pc := 41) C dX11_tenThousandths_41 <|
    aw_lmul (pc := 42) C dX11_tenThousandths_42 <|
    aw_ldc2_w (pc := 43) C (v := 10000) dX11_tenThousandths_43 kc_X11_289 <|
    aw_ldivK (pc := 46) C dX11_tenThousandths_46 (by decide) <|
    aw_lstoreV (pc := 47) C (i := 7) (fun x6 => [(3, .int v3), (5, .long v5), (7, .long x6), (9, .int v9)]) dX11_tenThousandths_47 (by decide) (fun _ => rfl) fun x6 =>
    aw_iincV (pc := 49) C (i := 9) (cst := 1) (fun x7 => [(3, .int v3), (5, .long v5), (7, .long x6), (9, .int x7)]) dX11_tenThousandths_49 rfl rfl (by decide) (fun _ => rfl) fun x7 =>
    aw_goto (pc := 52) C (tgt := 28) dX11_tenThousandths_52 rfl <|
    (ih x6 x7 h))
def X11_tenThousandths (v1 : Int32) (v2 : Int32) (v3 : Int32) (v4 : Int32) (h : AH) : Option (Int32 × AH) :=
    bd (X11_counted v1 v2 3 v4 h) fun r1 h2 =>
    bd (X11_allWays h2) fun r3 h4 =>
    if r3 = 0 then none else (vl ((10000 * r1) / r3) fun x5 =>
    X11_tenThousandths_l28 v3 x5 FU 10000 0 h4)
set_option maxRecDepth 100000 in
theorem c_X11_tenThousandths (l : Launch) (v1 : Int32) (v2 : Int32) (v3 : Int32) (v4 : Int32) : MC l yX11_tenThousandths cX11_tenThousandths 10 (some .int) rmX11_tenThousandths ZR [.ref 0, .int v1, .int v2, .int v3, .int v4] rvI (X11_tenThousandths v1 v2 v3 v4) :=
  MC.of (own := RX11) (by decide +kernel) rfl (Nat.le_of_ble_eq_true rfl) fun X yd A h _ C =>
    aw_ldc2_w (pc := 0) C (v := 10000) dX11_tenThousandths_0 kc_X11_289 <|
    aw_aload_n (pc := 3) C (i := 0) dX11_tenThousandths_3 rfl rfl <|
    aw_iload_n (pc := 4) C (i := 1) dX11_tenThousandths_4 rfl rfl <|
    aw_iload_n (pc := 5) C (i := 2) dX11_tenThousandths_5 rfl rfl <|
    aw_iconst (pc := 6) C (v := 3) dX11_tenThousandths_6 rfl <|
    aw_iload (pc := 7) C (i := 4) dX11_tenThousandths_7 rfl <|
    aw_callF (pc := 9) C (cr_V (rest := [.long 10000]) (F := (X11_counted v1 v2 3 v4)) C (c_X11_counted X.2.1 v1 v2 3 v4) dX11_tenThousandths_9 mf_X11_counted ml_X11_242 im_X11_counted se_X11_counted sR_0 rfl ⟨(Nat.le_of_ble_eq_true rfl), (Nat.le_of_ble_eq_true rfl)⟩ rfl rfl (Nat.le_of_ble_eq_true rfl)) rfl rfl rfl (Nat.zero_le _) (Nat.zero_le _) fun r1 h2 =>
    aw_lmul (pc := 12) C dX11_tenThousandths_12 <|
    aw_aload_n (pc := 13) C (i := 0) dX11_tenThousandths_13 rfl rfl <|
    aw_callF (pc := 14) C (cr_V (rest := [.long (10000 * r1)]) (F := X11_allWays) C (c_X11_allWays X.2.1 ) dX11_tenThousandths_14 mf_X11_allWays ml_X11_246 im_X11_allWays se_X11_allWays sR_0 rfl ⟨(Nat.le_of_ble_eq_true rfl), (Nat.le_of_ble_eq_true rfl)⟩ rfl rfl (Nat.le_of_ble_eq_true rfl)) rfl rfl rfl (Nat.zero_le _) (Nat.zero_le _) fun r3 h4 =>
    aw_ldiv (pc := 17) C dX11_tenThousandths_17 <|
    aw_lstoreV (pc := 18) C (i := 5) (fun x5 => [(0, .ref 0), (1, .int v1), (2, .int v2), (3, .int v3), (4, .int v4), (5, .long x5)]) dX11_tenThousandths_18 (by decide) (fun _ => rfl) fun x5 =>
    aw_ldc2_w (pc := 20) C (v := 10000) dX11_tenThousandths_20 kc_X11_289 <|
    aw_lstore (pc := 23) C (i := 7) (lv' := [(0, .ref 0), (1, .int v1), (2, .int v2), (3, .int v3), (4, .int v4), (5, .long x5), (7, .long 10000)]) dX11_tenThousandths_23 (by decide) rfl <|
    aw_iconst (pc := 25) C (v := 0) dX11_tenThousandths_25 rfl <|
    aw_istore (pc := 26) C (i := 9) (lv' := [(0, .ref 0), (1, .int v1), (2, .int v2), (3, .int v3), (4, .int v4), (5, .long x5), (7, .long 10000), (9, .int 0)]) dX11_tenThousandths_26 (by decide) rfl <|
    aw_drop [3, 5, 6, 7] (aX11_tenThousandths_l28 C v3 x5 FU 10000 0 h4)

abbrev rmX11_aim : Room := { frames := 5, cells := 0, slots := 0, locals := 131 }
def X11_aim_j118  (v1 : Int32) (v2 : Int32) (v3 : Int32) (v4 : Int32) (v6 : Int32) (v7 : Int32) (v8 : Int32) (K82 : Int32 → Int32 → Int32 → AH → Option (Int32 × AH)) (h : AH) : Option (Int32 × AH) :=
    vl (v8 + 1) fun x6 =>
    K82 v6 v7 x6 h
set_option maxRecDepth 100000 in
theorem aX11_aim_j118 {X : MCx} {yd : Dyn} {A : Nat → Prop} (C : OK X cX11_aim RX11 10 (some .int) rmX11_aim A)  (v1 : Int32) (v2 : Int32) (v3 : Int32) (v4 : Int32) (v6 : Int32) (v7 : Int32) (v8 : Int32) (K82 : Int32 → Int32 → Int32 → AH → Option (Int32 × AH)) (hK82 : ∀ (w6 : Int32) (w7 : Int32) (w8 : Int32) (h : AH), AW X 10 ZR yd A 0 0 (QF X rmX11_aim ZR yd rvI A) 82 [(0, .ref 0), (1, .int v1), (2, .int v2), (3, .int v3), (4, .int v4), (6, .int w6), (7, .int w7), (8, .int w8)] [] h (K82 w6 w7 w8 h)) (h : AH) : AW X 10 ZR yd A 0 0 (QF X rmX11_aim ZR yd rvI A) 118 [(0, .ref 0), (1, .int v1), (2, .int v2), (3, .int v3), (4, .int v4), (6, .int v6), (7, .int v7), (8, .int v8)] [] h (X11_aim_j118 v1 v2 v3 v4 v6 v7 v8 K82 h) := by
    exact aw_iincV (pc := 118) C (i := 8) (cst := 1) (fun x6 => [(0, .ref 0), (1, .int v1), (2, .int v2), (3, .int v3), (4, .int v4), (6, .int v6), (7, .int v7), (8, .int x6)]) dX11_aim_118 rfl rfl (by decide) (fun _ => rfl) fun x6 =>
    aw_goto (pc := 121) C (tgt := 82) dX11_aim_121 rfl <|
    (hK82 v6 v7 x6 h)
def X11_aim_l82  (v1 : Int32) (v2 : Int32) (v3 : Int32) (v4 : Int32) : Nat → Int32 → Int32 → Int32 → AH → Option (Int32 × AH)
  | 0, _, _, _, _ => none
  | n + 1, v6, v7, v8, h =>
    if 21 ≤ v8 then (if v4 = 0 then (some (v6, h))
    else (some (v7, h)))
    else (bd (X11_tenThousandths v1 v8 v2 v3 h) fun r4 h5 =>
    if v7 < r4 then (X11_aim_j118 v1 v2 v3 v4 v8 r4 v8 (X11_aim_l82 v1 v2 v3 v4 n) h5)
    else (X11_aim_j118 v1 v2 v3 v4 v6 v7 v8 (X11_aim_l82 v1 v2 v3 v4 n) h5))
set_option maxRecDepth 100000 in
theorem aX11_aim_l82 {X : MCx} {yd : Dyn} {A : Nat → Prop} (C : OK X cX11_aim RX11 10 (some .int) rmX11_aim A)  (v1 : Int32) (v2 : Int32) (v3 : Int32) (v4 : Int32) : ∀ (n : Nat) (v6 : Int32) (v7 : Int32) (v8 : Int32) (h : AH), AW X 10 ZR yd A 0 0 (QF X rmX11_aim ZR yd rvI A) 82 [(0, .ref 0), (1, .int v1), (2, .int v2), (3, .int v3), (4, .int v4), (6, .int v6), (7, .int v7), (8, .int v8)] [] h (X11_aim_l82 v1 v2 v3 v4 n v6 v7 v8 h) := by
  intro n
  induction n with
  | zero => intro v6 v7 v8 h; exact aw_none
  | succ n ih =>
    intro v6 v7 v8 h
    exact aw_iload (pc := 82) C (i := 8) dX11_aim_82 rfl <|
    aw_bipush (pc := 84) C (v := 21) dX11_aim_84 rfl <|
    aw_icmp_ge (pc := 86) C (tgt := 124) dX11_aim_86 rfl (fun _ =>
    aw_iload (pc := 124) C (i := 4) dX11_aim_124 rfl <|
    aw_if_ne (pc := 126) C (tgt := 134) dX11_aim_126 rfl (fun _ =>
    aw_iload (pc := 129) C (i := 6) dX11_aim_129 rfl <|
    aw_goto (pc := 131) C (tgt := 136) dX11_aim_131 rfl <|
    aw_iret (pc := 136) C dX11_aim_136 rfl rfl) (fun _ =>
    aw_iload (pc := 134) C (i := 7) dX11_aim_134 rfl <|
    aw_iret (pc := 136) C dX11_aim_136 rfl rfl)) (fun _ =>
    aw_aload_n (pc := 89) C (i := 0) dX11_aim_89 rfl rfl <|
    aw_iload_n (pc := 90) C (i := 1) dX11_aim_90 rfl rfl <|
    aw_iload (pc := 91) C (i := 8) dX11_aim_91 rfl <|
    aw_iload_n (pc := 93) C (i := 2) dX11_aim_93 rfl rfl <|
    aw_iload_n (pc := 94) C (i := 3) dX11_aim_94 rfl rfl <|
    aw_callF (pc := 95) C (cr_V (rest := []) (F := (X11_tenThousandths v1 v8 v2 v3)) C (c_X11_tenThousandths X.2.1 v1 v8 v2 v3) dX11_aim_95 mf_X11_tenThousandths ml_X11_291 im_X11_tenThousandths se_X11_tenThousandths sR_0 rfl ⟨(Nat.le_of_ble_eq_true rfl), (Nat.le_of_ble_eq_true rfl)⟩ rfl rfl (Nat.le_of_ble_eq_true rfl)) rfl rfl rfl (Nat.zero_le _) (Nat.zero_le _) fun r4 h5 =>
    aw_istore (pc := 98) C (i := 9) (lv' := [(0, .ref 0), (1, .int v1), (2, .int v2), (3, .int v3), (4, .int v4), (6, .int v6), (7, .int v7), (8, .int v8), (9, .int r4)]) dX11_aim_98 (by decide) rfl <|
    aw_iload (pc := 100) C (i := 9) dX11_aim_100 rfl <|
    aw_iload (pc := 102) C (i := 7) dX11_aim_102 rfl <|
    aw_icmp_gt (pc := 104) C (tgt := 110) dX11_aim_104 rfl (fun _ =>
    aw_iload (pc := 110) C (i := 8) dX11_aim_110 rfl <|
    aw_istore (pc := 112) C (i := 6) (lv' := [(0, .ref 0), (1, .int v1), (2, .int v2), (3, .int v3), (4, .int v4), (6, .int v8), (7, .int v7), (8, .int v8), (9, .int r4)]) dX11_aim_112 (by decide) rfl <|
    aw_iload (pc := 114) C (i := 9) dX11_aim_114 rfl <|
    aw_istore (pc := 116) C (i := 7) (lv' := [(0, .ref 0), (1, .int v1), (2, .int v2), (3, .int v3), (4, .int v4), (6, .int v8), (7, .int r4), (8, .int v8), (9, .int r4)]) dX11_aim_116 (by decide) rfl <|
    aw_drop [0, 1, 2, 3, 4, 5, 6, 7] (aX11_aim_j118 C v1 v2 v3 v4 v8 r4 v8 (X11_aim_l82 v1 v2 v3 v4 n) ih h5)) (fun _ =>
    aw_goto (pc := 107) C (tgt := 118) dX11_aim_107 rfl <|
    aw_drop [0, 1, 2, 3, 4, 5, 6, 7] (aX11_aim_j118 C v1 v2 v3 v4 v6 v7 v8 (X11_aim_l82 v1 v2 v3 v4 n) ih h5)))
def X11_aim_j59  (v1 : Int32) (v2 : Int32) (v3 : Int32) (v4 : Int32) (s0 : Int32) (h : AH) : Option (Int32 × AH) :=
    if s0 = 0 then (vl (-1) fun x3 =>
    X11_aim_l82 v1 v2 v3 v4 FU 0 x3 0 h)
    else (bd (X11_no s0 h) fun r7 h8 =>
    some (r7, h8))
set_option maxRecDepth 100000 in
theorem aX11_aim_j59 {X : MCx} {yd : Dyn} {A : Nat → Prop} (C : OK X cX11_aim RX11 10 (some .int) rmX11_aim A)  (v1 : Int32) (v2 : Int32) (v3 : Int32) (v4 : Int32) (s0 : Int32) (h : AH) : AW X 10 ZR yd A 0 0 (QF X rmX11_aim ZR yd rvI A) 59 [(0, .ref 0), (1, .int v1), (2, .int v2), (3, .int v3), (4, .int v4)] [.int s0] h (X11_aim_j59 v1 v2 v3 v4 s0 h) := by
    exact aw_istore (pc := 59) C (i := 5) (lv' := [(0, .ref 0), (1, .int v1), (2, .int v2), (3, .int v3), (4, .int v4), (5, .int s0)]) dX11_aim_59 (by decide) rfl <|
    aw_iload (pc := 61) C (i := 5) dX11_aim_61 rfl <|
    aw_if_eq (pc := 63) C (tgt := 73) dX11_aim_63 rfl (fun _ =>
    aw_iconst (pc := 73) C (v := 0) dX11_aim_73 rfl <|
    aw_istore (pc := 74) C (i := 6) (lv' := [(0, .ref 0), (1, .int v1), (2, .int v2), (3, .int v3), (4, .int v4), (5, .int s0), (6, .int 0)]) dX11_aim_74 (by decide) rfl <|
    aw_iconst (pc := 76) C (v := (-1)) dX11_aim_76 rfl <|
    aw_istoreV (pc := 77) C (i := 7) (fun x3 => [(0, .ref 0), (1, .int v1), (2, .int v2), (3, .int v3), (4, .int v4), (5, .int s0), (6, .int 0), (7, .int x3)]) dX11_aim_77 (by decide) (fun _ => rfl) fun x3 =>
    aw_iconst (pc := 79) C (v := 0) dX11_aim_79 rfl <|
    aw_istore (pc := 80) C (i := 8) (lv' := [(0, .ref 0), (1, .int v1), (2, .int v2), (3, .int v3), (4, .int v4), (5, .int s0), (6, .int 0), (7, .int x3), (8, .int 0)]) dX11_aim_80 (by decide) rfl <|
    aw_drop [0, 1, 2, 3, 4, 6, 7, 8] (aX11_aim_l82 C v1 v2 v3 v4 FU 0 x3 0 h)) (fun _ =>
    aw_aload_n (pc := 66) C (i := 0) dX11_aim_66 rfl rfl <|
    aw_iload (pc := 67) C (i := 5) dX11_aim_67 rfl <|
    aw_callF (pc := 69) C (cr_V (rest := []) (F := (X11_no s0)) C (c_X11_no X.2.1 s0) dX11_aim_69 mf_X11_no ml_X11_115 im_X11_no se_X11_no sR_0 rfl ⟨(Nat.le_of_ble_eq_true rfl), (Nat.le_of_ble_eq_true rfl)⟩ rfl rfl (Nat.le_of_ble_eq_true rfl)) rfl rfl rfl (Nat.zero_le _) (Nat.zero_le _) fun r7 h8 =>
    aw_iret (pc := 72) C dX11_aim_72 rfl rfl)
def X11_aim_j21  (v1 : Int32) (v2 : Int32) (v3 : Int32) (v4 : Int32) (h : AH) : Option (Int32 × AH) :=
    X11_aim_j59 v1 v2 v3 v4 (-4) h
set_option maxRecDepth 100000 in
theorem aX11_aim_j21 {X : MCx} {yd : Dyn} {A : Nat → Prop} (C : OK X cX11_aim RX11 10 (some .int) rmX11_aim A)  (v1 : Int32) (v2 : Int32) (v3 : Int32) (v4 : Int32) (h : AH) : AW X 10 ZR yd A 0 0 (QF X rmX11_aim ZR yd rvI A) 21 [(0, .ref 0), (1, .int v1), (2, .int v2), (3, .int v3), (4, .int v4)] [] h (X11_aim_j21 v1 v2 v3 v4 h) := by
    exact aw_bipush (pc := 21) C (v := (-4)) dX11_aim_21 rfl <|
    aw_goto (pc := 23) C (tgt := 59) dX11_aim_23 rfl <|
    (aX11_aim_j59 C v1 v2 v3 v4 (-4) h)
def X11_aim_j38  (v1 : Int32) (v2 : Int32) (v3 : Int32) (v4 : Int32) (h : AH) : Option (Int32 × AH) :=
    X11_aim_j59 v1 v2 v3 v4 (-6) h
set_option maxRecDepth 100000 in
theorem aX11_aim_j38 {X : MCx} {yd : Dyn} {A : Nat → Prop} (C : OK X cX11_aim RX11 10 (some .int) rmX11_aim A)  (v1 : Int32) (v2 : Int32) (v3 : Int32) (v4 : Int32) (h : AH) : AW X 10 ZR yd A 0 0 (QF X rmX11_aim ZR yd rvI A) 38 [(0, .ref 0), (1, .int v1), (2, .int v2), (3, .int v3), (4, .int v4)] [] h (X11_aim_j38 v1 v2 v3 v4 h) := by
    exact aw_bipush (pc := 38) C (v := (-6)) dX11_aim_38 rfl <|
    aw_goto (pc := 40) C (tgt := 59) dX11_aim_40 rfl <|
    (aX11_aim_j59 C v1 v2 v3 v4 (-6) h)
def X11_aim (v1 : Int32) (v2 : Int32) (v3 : Int32) (v4 : Int32) (h : AH) : Option (Int32 × AH) :=
    bd (X11_isJumper v1 h) fun r1 h2 =>
    if r1 = 0 then (X11_aim_j59 v1 v2 v3 v4 (-1) h2)
    else (if v2 < 1 then (X11_aim_j21 v1 v2 v3 v4 h2)
    else (if 0 ≤ v3 then (if 3 < v2 then (X11_aim_j38 v1 v2 v3 v4 h2)
    else (if v3 ≤ 999 then (bd (X11_isIn v4 0 1 h2) fun r9 h10 =>
    if r9 = 0 then (X11_aim_j59 v1 v2 v3 v4 (-2) h10)
    else (X11_aim_j59 v1 v2 v3 v4 0 h10))
    else (X11_aim_j38 v1 v2 v3 v4 h2)))
    else (X11_aim_j21 v1 v2 v3 v4 h2)))
set_option maxRecDepth 100000 in
theorem c_X11_aim (l : Launch) (v1 : Int32) (v2 : Int32) (v3 : Int32) (v4 : Int32) : MC l yX11_aim cX11_aim 10 (some .int) rmX11_aim ZR [.ref 0, .int v1, .int v2, .int v3, .int v4] rvI (X11_aim v1 v2 v3 v4) :=
  MC.of (own := RX11) (by decide +kernel) rfl (Nat.le_of_ble_eq_true rfl) fun X yd A h _ C =>
    aw_aload_n (pc := 0) C (i := 0) dX11_aim_0 rfl rfl <|
    aw_iload_n (pc := 1) C (i := 1) dX11_aim_1 rfl rfl <|
    aw_callF (pc := 2) C (cr_V (rest := []) (F := (X11_isJumper v1)) C (c_X11_isJumper X.2.1 v1) dX11_aim_2 mf_X11_isJumper ml_X11_207 im_X11_isJumper se_X11_isJumper sR_0 rfl ⟨(Nat.le_of_ble_eq_true rfl), (Nat.le_of_ble_eq_true rfl)⟩ rfl rfl (Nat.le_of_ble_eq_true rfl)) rfl rfl rfl (Nat.zero_le _) (Nat.zero_le _) fun r1 h2 =>
    aw_if_ne (pc := 5) C (tgt := 12) dX11_aim_5 rfl (fun _ =>
    aw_iconst (pc := 8) C (v := (-1)) dX11_aim_8 rfl <|
    aw_goto (pc := 9) C (tgt := 59) dX11_aim_9 rfl <|
    (aX11_aim_j59 C v1 v2 v3 v4 (-1) h2)) (fun _ =>
    aw_iload_n (pc := 12) C (i := 2) dX11_aim_12 rfl rfl <|
    aw_iconst (pc := 13) C (v := 1) dX11_aim_13 rfl <|
    aw_icmp_lt (pc := 14) C (tgt := 21) dX11_aim_14 rfl (fun _ =>
    (aX11_aim_j21 C v1 v2 v3 v4 h2)) (fun _ =>
    aw_iload_n (pc := 17) C (i := 3) dX11_aim_17 rfl rfl <|
    aw_if_ge (pc := 18) C (tgt := 26) dX11_aim_18 rfl (fun _ =>
    aw_iload_n (pc := 26) C (i := 2) dX11_aim_26 rfl rfl <|
    aw_iconst (pc := 27) C (v := 3) dX11_aim_27 rfl <|
    aw_icmp_gt (pc := 28) C (tgt := 38) dX11_aim_28 rfl (fun _ =>
    (aX11_aim_j38 C v1 v2 v3 v4 h2)) (fun _ =>
    aw_iload_n (pc := 31) C (i := 3) dX11_aim_31 rfl rfl <|
    aw_sipush (pc := 32) C (v := 999) dX11_aim_32 rfl <|
    aw_icmp_le (pc := 35) C (tgt := 43) dX11_aim_35 rfl (fun _ =>
    aw_iload (pc := 43) C (i := 4) dX11_aim_43 rfl <|
    aw_iconst (pc := 45) C (v := 0) dX11_aim_45 rfl <|
    aw_iconst (pc := 46) C (v := 1) dX11_aim_46 rfl <|
    aw_callF (pc := 47) C (cr_S (rest := []) (F := (X11_isIn v4 0 1)) C (c_X11_isIn X.2.1 v4 0 1) dX11_aim_47 mf_X11_isIn ml_X11_126 st_X11_isIn ⟨(Nat.le_of_ble_eq_true rfl), (Nat.le_of_ble_eq_true rfl)⟩ rfl rfl (Nat.le_of_ble_eq_true rfl)) rfl rfl rfl (Nat.zero_le _) (Nat.zero_le _) fun r9 h10 =>
    aw_if_ne (pc := 50) C (tgt := 58) dX11_aim_50 rfl (fun _ =>
    aw_bipush (pc := 53) C (v := (-2)) dX11_aim_53 rfl <|
    aw_goto (pc := 55) C (tgt := 59) dX11_aim_55 rfl <|
    (aX11_aim_j59 C v1 v2 v3 v4 (-2) h10)) (fun _ =>
    aw_iconst (pc := 58) C (v := 0) dX11_aim_58 rfl <|
    (aX11_aim_j59 C v1 v2 v3 v4 0 h10))) (fun _ =>
    (aX11_aim_j38 C v1 v2 v3 v4 h2)))) (fun _ =>
    (aX11_aim_j21 C v1 v2 v3 v4 h2))))

abbrev rmX11_tooLong : Room := { frames := 1, cells := 0, slots := 0, locals := 21 }
def X11_tooLong_l18  : Nat → Int32 → Int32 → AH → Option (Int32 × AH)
  | 0, _, _, _ => none
  | n + 1, v1, v2, h =>
    if (h.1 0 34) ≤ v2 then (if v1 ≤ 0 then (if 0 ≤ v1 then (some (0, h))
    else (some (2, h)))
    else (some (1, h)))
    else (ck v2 12 (vl (v1 + ((h.1 23 v2.toNatClampNeg) - 50)) fun x1 =>
    vl (v2 + 1) fun x2 =>
    (X11_tooLong_l18 n) x1 x2 h))
set_option maxRecDepth 100000 in
theorem aX11_tooLong_l18 {X : MCx} {yd : Dyn} {A : Nat → Prop} (C : OK X cX11_tooLong RX11 3 (some .int) rmX11_tooLong A)  : ∀ (n : Nat) (v1 : Int32) (v2 : Int32) (h : AH), AW X 3 ZR yd A 0 0 (QF X rmX11_tooLong ZR yd rvI A) 18 [(0, .ref 0), (1, .int v1), (2, .int v2)] [] h (X11_tooLong_l18 n v1 v2 h) := by
  intro n
  induction n with
  | zero => intro v1 v2 h; exact aw_none
  | succ n ih =>
    intro v1 v2 h
    exact aw_iload_n (pc := 18) C (i := 2) dX11_tooLong_18 rfl rfl <|
    aw_aload_n (pc := 19) C (i := 0) dX11_tooLong_19 rfl rfl <|
    aw_getI (pc := 20) C dX11_tooLong_20 fl_X11_295 sR_0 rfl <|
    aw_icmp_ge (pc := 23) C (tgt := 44) dX11_tooLong_23 rfl (fun _ =>
    aw_iload_n (pc := 44) C (i := 1) dX11_tooLong_44 rfl rfl <|
    aw_if_le (pc := 45) C (tgt := 52) dX11_tooLong_45 rfl (fun _ =>
    aw_iload_n (pc := 52) C (i := 1) dX11_tooLong_52 rfl rfl <|
    aw_if_ge (pc := 53) C (tgt := 60) dX11_tooLong_53 rfl (fun _ =>
    aw_iconst (pc := 60) C (v := 0) dX11_tooLong_60 rfl <|
    aw_iret (pc := 61) C dX11_tooLong_61 rfl rfl) (fun _ =>
    aw_iconst (pc := 56) C (v := 2) dX11_tooLong_56 rfl <|
    aw_goto (pc := 57) C (tgt := 61) dX11_tooLong_57 rfl <|
    aw_iret (pc := 61) C dX11_tooLong_61 rfl rfl)) (fun _ =>
    aw_iconst (pc := 48) C (v := 1) dX11_tooLong_48 rfl <|
    aw_goto (pc := 49) C (tgt := 61) dX11_tooLong_49 rfl <|
    aw_iret (pc := 61) C dX11_tooLong_61 rfl rfl)) (fun _ =>
    aw_iload_n (pc := 26) C (i := 1) dX11_tooLong_26 rfl rfl <|
    aw_aload_n (pc := 27) C (i := 0) dX11_tooLong_27 rfl rfl <|
    aw_getR (pc := 28) C (b := 23) dX11_tooLong_28 fl_X11_77 sR_0 rfl rR_0_33 <|
    aw_iload_n (pc := 31) C (i := 2) dX11_tooLong_31 rfl rfl <|
    aw_iald (pc := 32) C dX11_tooLong_32 sR_23 rfl <|
    aw_bipush (pc := 33) C (v := 50) dX11_tooLong_33 rfl <|
    aw_isub (pc := 35) C dX11_tooLong_35 <|
    aw_iadd (pc := 36) C dX11_tooLong_36 <|
    aw_istoreV_n (pc := 37) C (i := 1) (fun x1 => [(0, .ref 0), (1, .int x1), (2, .int v2)]) dX11_tooLong_37 rfl (by decide) (fun _ => rfl) fun x1 =>
    aw_iincV (pc := 38) C (i := 2) (cst := 1) (fun x2 => [(0, .ref 0), (1, .int x1), (2, .int x2)]) dX11_tooLong_38 rfl rfl (by decide) (fun _ => rfl) fun x2 =>
    aw_goto (pc := 41) C (tgt := 18) dX11_tooLong_41 rfl <|
    (ih x1 x2 h))
def X11_tooLong  (h : AH) : Option (Int32 × AH) :=
    if (h.1 0 34) = 0 then (bd (X11_no (-3) h) fun r3 h4 =>
    some (r3, h4))
    else (X11_tooLong_l18 FU 0 0 h)
set_option maxRecDepth 100000 in
theorem c_X11_tooLong (l : Launch)  : MC l yX11_tooLong cX11_tooLong 3 (some .int) rmX11_tooLong ZR [.ref 0] rvI (X11_tooLong) :=
  MC.of (own := RX11) (by decide +kernel) rfl (Nat.le_of_ble_eq_true rfl) fun X yd A h _ C =>
    aw_aload_n (pc := 0) C (i := 0) dX11_tooLong_0 rfl rfl <|
    aw_getI (pc := 1) C dX11_tooLong_1 fl_X11_295 sR_0 rfl <|
    aw_if_ne (pc := 4) C (tgt := 14) dX11_tooLong_4 rfl (fun _ =>
    aw_aload_n (pc := 7) C (i := 0) dX11_tooLong_7 rfl rfl <|
    aw_bipush (pc := 8) C (v := (-3)) dX11_tooLong_8 rfl <|
    aw_callF (pc := 10) C (cr_V (rest := []) (F := (X11_no (-3))) C (c_X11_no X.2.1 (-3)) dX11_tooLong_10 mf_X11_no ml_X11_115 im_X11_no se_X11_no sR_0 rfl ⟨(Nat.le_of_ble_eq_true rfl), (Nat.le_of_ble_eq_true rfl)⟩ rfl rfl (Nat.le_of_ble_eq_true rfl)) rfl rfl rfl (Nat.zero_le _) (Nat.zero_le _) fun r3 h4 =>
    aw_iret (pc := 13) C dX11_tooLong_13 rfl rfl) (fun _ =>
    aw_iconst (pc := 14) C (v := 0) dX11_tooLong_14 rfl <|
    aw_istore_n (pc := 15) C (i := 1) (lv' := [(0, .ref 0), (1, .int 0)]) dX11_tooLong_15 rfl (by decide) rfl <|
    aw_iconst (pc := 16) C (v := 0) dX11_tooLong_16 rfl <|
    aw_istore_n (pc := 17) C (i := 2) (lv' := [(0, .ref 0), (1, .int 0), (2, .int 0)]) dX11_tooLong_17 rfl (by decide) rfl <|
    (aX11_tooLong_l18 C FU 0 0 h))

abbrev rmX11_unlike : Room := { frames := 1, cells := 0, slots := 0, locals := 21 }
def X11_unlike_j70  (v1 : Int32) (v3 : Int32) (K21 : Int32 → Int32 → Int32 → AH → Option (Int32 × AH)) (s0 : Int32) (h : AH) : Option (Int32 × AH) :=
    vl (v3 + 1) fun x1 =>
    K21 v1 s0 x1 h
set_option maxRecDepth 100000 in
theorem aX11_unlike_j70 {X : MCx} {yd : Dyn} {A : Nat → Prop} (C : OK X cX11_unlike RX11 4 (some .int) rmX11_unlike A)  (v1 : Int32) (v3 : Int32) (K21 : Int32 → Int32 → Int32 → AH → Option (Int32 × AH)) (hK21 : ∀ (w1 : Int32) (w2 : Int32) (w3 : Int32) (h : AH), AW X 4 ZR yd A 0 0 (QF X rmX11_unlike ZR yd rvI A) 21 [(0, .ref 0), (1, .int w1), (2, .int w2), (3, .int w3)] [] h (K21 w1 w2 w3 h)) (s0 : Int32) (h : AH) : AW X 4 ZR yd A 0 0 (QF X rmX11_unlike ZR yd rvI A) 70 [(0, .ref 0), (1, .int v1), (3, .int v3)] [.int s0] h (X11_unlike_j70 v1 v3 K21 s0 h) := by
    exact aw_istore_n (pc := 70) C (i := 2) (lv' := [(0, .ref 0), (1, .int v1), (2, .int s0), (3, .int v3)]) dX11_unlike_70 rfl (by decide) rfl <|
    aw_iincV (pc := 71) C (i := 3) (cst := 1) (fun x1 => [(0, .ref 0), (1, .int v1), (2, .int s0), (3, .int x1)]) dX11_unlike_71 rfl rfl (by decide) (fun _ => rfl) fun x1 =>
    aw_goto (pc := 74) C (tgt := 21) dX11_unlike_74 rfl <|
    (hK21 v1 s0 x1 h)
def X11_unlike_j49  (v2 : Int32) (v3 : Int32) (K21 : Int32 → Int32 → Int32 → AH → Option (Int32 × AH)) (s0 : Int32) (h : AH) : Option (Int32 × AH) :=
    ck v3 12 (if (h.1 23 v3.toNatClampNeg) ≤ v2 then (X11_unlike_j70 s0 v3 K21 v2 h)
    else (ck v3 12 (X11_unlike_j70 s0 v3 K21 (h.1 23 v3.toNatClampNeg) h)))
set_option maxRecDepth 100000 in
theorem aX11_unlike_j49 {X : MCx} {yd : Dyn} {A : Nat → Prop} (C : OK X cX11_unlike RX11 4 (some .int) rmX11_unlike A)  (v2 : Int32) (v3 : Int32) (K21 : Int32 → Int32 → Int32 → AH → Option (Int32 × AH)) (hK21 : ∀ (w1 : Int32) (w2 : Int32) (w3 : Int32) (h : AH), AW X 4 ZR yd A 0 0 (QF X rmX11_unlike ZR yd rvI A) 21 [(0, .ref 0), (1, .int w1), (2, .int w2), (3, .int w3)] [] h (K21 w1 w2 w3 h)) (s0 : Int32) (h : AH) : AW X 4 ZR yd A 0 0 (QF X rmX11_unlike ZR yd rvI A) 49 [(0, .ref 0), (2, .int v2), (3, .int v3)] [.int s0] h (X11_unlike_j49 v2 v3 K21 s0 h) := by
    exact aw_istore_n (pc := 49) C (i := 1) (lv' := [(0, .ref 0), (1, .int s0), (2, .int v2), (3, .int v3)]) dX11_unlike_49 rfl (by decide) rfl <|
    aw_aload_n (pc := 50) C (i := 0) dX11_unlike_50 rfl rfl <|
    aw_getR (pc := 51) C (b := 23) dX11_unlike_51 fl_X11_77 sR_0 rfl rR_0_33 <|
    aw_iload_n (pc := 54) C (i := 3) dX11_unlike_54 rfl rfl <|
    aw_iald (pc := 55) C dX11_unlike_55 sR_23 rfl <|
    aw_iload_n (pc := 56) C (i := 2) dX11_unlike_56 rfl rfl <|
    aw_icmp_le (pc := 57) C (tgt := 69) dX11_unlike_57 rfl (fun _ =>
    aw_iload_n (pc := 69) C (i := 2) dX11_unlike_69 rfl rfl <|
    aw_drop [0, 1, 3] (aX11_unlike_j70 C s0 v3 K21 hK21 v2 h)) (fun _ =>
    aw_aload_n (pc := 60) C (i := 0) dX11_unlike_60 rfl rfl <|
    aw_getR (pc := 61) C (b := 23) dX11_unlike_61 fl_X11_77 sR_0 rfl rR_0_33 <|
    aw_iload_n (pc := 64) C (i := 3) dX11_unlike_64 rfl rfl <|
    aw_iald (pc := 65) C dX11_unlike_65 sR_23 rfl <|
    aw_goto (pc := 66) C (tgt := 70) dX11_unlike_66 rfl <|
    aw_drop [0, 1, 3] (aX11_unlike_j70 C s0 v3 K21 hK21 (h.1 23 v3.toNatClampNeg) h))
def X11_unlike_l21  : Nat → Int32 → Int32 → Int32 → AH → Option (Int32 × AH)
  | 0, _, _, _, _ => none
  | n + 1, v1, v2, v3, h =>
    if (h.1 0 34) ≤ v3 then (some ((v2 - v1), h))
    else (ck v3 12 (if v1 ≤ (h.1 23 v3.toNatClampNeg) then (X11_unlike_j49 v2 v3 (X11_unlike_l21 n) v1 h)
    else (ck v3 12 (X11_unlike_j49 v2 v3 (X11_unlike_l21 n) (h.1 23 v3.toNatClampNeg) h))))
set_option maxRecDepth 100000 in
theorem aX11_unlike_l21 {X : MCx} {yd : Dyn} {A : Nat → Prop} (C : OK X cX11_unlike RX11 4 (some .int) rmX11_unlike A)  : ∀ (n : Nat) (v1 : Int32) (v2 : Int32) (v3 : Int32) (h : AH), AW X 4 ZR yd A 0 0 (QF X rmX11_unlike ZR yd rvI A) 21 [(0, .ref 0), (1, .int v1), (2, .int v2), (3, .int v3)] [] h (X11_unlike_l21 n v1 v2 v3 h) := by
  intro n
  induction n with
  | zero => intro v1 v2 v3 h; exact aw_none
  | succ n ih =>
    intro v1 v2 v3 h
    exact aw_iload_n (pc := 21) C (i := 3) dX11_unlike_21 rfl rfl <|
    aw_aload_n (pc := 22) C (i := 0) dX11_unlike_22 rfl rfl <|
    aw_getI (pc := 23) C dX11_unlike_23 fl_X11_295 sR_0 rfl <|
    aw_icmp_ge (pc := 26) C (tgt := 77) dX11_unlike_26 rfl (fun _ =>
    aw_iload_n (pc := 77) C (i := 2) dX11_unlike_77 rfl rfl <|
    aw_iload_n (pc := 78) C (i := 1) dX11_unlike_78 rfl rfl <|
    aw_isub (pc := 79) C dX11_unlike_79 <|
    aw_iret (pc := 80) C dX11_unlike_80 rfl rfl) (fun _ =>
    aw_aload_n (pc := 29) C (i := 0) dX11_unlike_29 rfl rfl <|
    aw_getR (pc := 30) C (b := 23) dX11_unlike_30 fl_X11_77 sR_0 rfl rR_0_33 <|
    aw_iload_n (pc := 33) C (i := 3) dX11_unlike_33 rfl rfl <|
    aw_iald (pc := 34) C dX11_unlike_34 sR_23 rfl <|
    aw_iload_n (pc := 35) C (i := 1) dX11_unlike_35 rfl rfl <|
    aw_icmp_ge (pc := 36) C (tgt := 48) dX11_unlike_36 rfl (fun _ =>
    aw_iload_n (pc := 48) C (i := 1) dX11_unlike_48 rfl rfl <|
    aw_drop [0, 2, 3] (aX11_unlike_j49 C v2 v3 (X11_unlike_l21 n) ih v1 h)) (fun _ =>
    aw_aload_n (pc := 39) C (i := 0) dX11_unlike_39 rfl rfl <|
    aw_getR (pc := 40) C (b := 23) dX11_unlike_40 fl_X11_77 sR_0 rfl rR_0_33 <|
    aw_iload_n (pc := 43) C (i := 3) dX11_unlike_43 rfl rfl <|
    aw_iald (pc := 44) C dX11_unlike_44 sR_23 rfl <|
    aw_goto (pc := 45) C (tgt := 49) dX11_unlike_45 rfl <|
    aw_drop [0, 2, 3] (aX11_unlike_j49 C v2 v3 (X11_unlike_l21 n) ih (h.1 23 v3.toNatClampNeg) h)))
def X11_unlike  (h : AH) : Option (Int32 × AH) :=
    if (h.1 0 34) = 0 then (bd (X11_no (-3) h) fun r2 h3 =>
    some (r2, h3))
    else (X11_unlike_l21 FU 99 0 0 h)
set_option maxRecDepth 100000 in
theorem c_X11_unlike (l : Launch)  : MC l yX11_unlike cX11_unlike 4 (some .int) rmX11_unlike ZR [.ref 0] rvI (X11_unlike) :=
  MC.of (own := RX11) (by decide +kernel) rfl (Nat.le_of_ble_eq_true rfl) fun X yd A h _ C =>
    aw_aload_n (pc := 0) C (i := 0) dX11_unlike_0 rfl rfl <|
    aw_getI (pc := 1) C dX11_unlike_1 fl_X11_295 sR_0 rfl <|
    aw_if_ne (pc := 4) C (tgt := 14) dX11_unlike_4 rfl (fun _ =>
    aw_aload_n (pc := 7) C (i := 0) dX11_unlike_7 rfl rfl <|
    aw_bipush (pc := 8) C (v := (-3)) dX11_unlike_8 rfl <|
    aw_callF (pc := 10) C (cr_V (rest := []) (F := (X11_no (-3))) C (c_X11_no X.2.1 (-3)) dX11_unlike_10 mf_X11_no ml_X11_115 im_X11_no se_X11_no sR_0 rfl ⟨(Nat.le_of_ble_eq_true rfl), (Nat.le_of_ble_eq_true rfl)⟩ rfl rfl (Nat.le_of_ble_eq_true rfl)) rfl rfl rfl (Nat.zero_le _) (Nat.zero_le _) fun r2 h3 =>
    aw_iret (pc := 13) C dX11_unlike_13 rfl rfl) (fun _ =>
    aw_bipush (pc := 14) C (v := 99) dX11_unlike_14 rfl <|
    aw_istore_n (pc := 16) C (i := 1) (lv' := [(0, .ref 0), (1, .int 99)]) dX11_unlike_16 rfl (by decide) rfl <|
    aw_iconst (pc := 17) C (v := 0) dX11_unlike_17 rfl <|
    aw_istore_n (pc := 18) C (i := 2) (lv' := [(0, .ref 0), (1, .int 99), (2, .int 0)]) dX11_unlike_18 rfl (by decide) rfl <|
    aw_iconst (pc := 19) C (v := 0) dX11_unlike_19 rfl <|
    aw_istore_n (pc := 20) C (i := 3) (lv' := [(0, .ref 0), (1, .int 99), (2, .int 0), (3, .int 0)]) dX11_unlike_20 rfl (by decide) rfl <|
    (aX11_unlike_l21 C FU 99 0 0 h))

abbrev rmX11_isMovedFrom : Room := { frames := 0, cells := 0, slots := 0, locals := 0 }
def X11_isMovedFrom_l13  (v1 : Int32) (v2 : Int32) (v3 : Int32) (K2 : Int32 → AH → Option (Int32 × AH)) : Nat → Int32 → AH → Option (Int32 × AH)
  | 0, _, _ => none
  | n + 1, v4, h =>
    if v1 ≤ v4 then (vl (v3 + 1) fun x1 =>
    K2 x1 h)
    else (ck v3 12 (ck v4 12 (if (h.1 23 v3.toNatClampNeg) ≤ ((h.1 23 v4.toNatClampNeg) - v2) then (vl (v4 + 1) fun x2 =>
    (X11_isMovedFrom_l13 v1 v2 v3 K2 n) x2 h)
    else (cz 0 (some (0, h))))))
set_option maxRecDepth 100000 in
theorem aX11_isMovedFrom_l13 {X : MCx} {yd : Dyn} {A : Nat → Prop} (C : OK X cX11_isMovedFrom RX11 5 (some .boolean) rmX11_isMovedFrom A)  (v1 : Int32) (v2 : Int32) (v3 : Int32) (K2 : Int32 → AH → Option (Int32 × AH)) (hK2 : ∀ (w3 : Int32) (h : AH), AW X 5 ZR yd A 0 0 (QF X rmX11_isMovedFrom ZR yd rvI A) 2 [(0, .ref 0), (1, .int v1), (2, .int v2), (3, .int w3)] [] h (K2 w3 h)) : ∀ (n : Nat) (v4 : Int32) (h : AH), AW X 5 ZR yd A 0 0 (QF X rmX11_isMovedFrom ZR yd rvI A) 13 [(0, .ref 0), (1, .int v1), (2, .int v2), (3, .int v3), (4, .int v4)] [] h (X11_isMovedFrom_l13 v1 v2 v3 K2 n v4 h) := by
  intro n
  induction n with
  | zero => intro v4 h; exact aw_none
  | succ n ih =>
    intro v4 h
    exact aw_iload (pc := 13) C (i := 4) dX11_isMovedFrom_13 rfl <|
    aw_iload_n (pc := 15) C (i := 1) dX11_isMovedFrom_15 rfl rfl <|
    aw_icmp_ge (pc := 16) C (tgt := 45) dX11_isMovedFrom_16 rfl (fun _ =>
    aw_iincV (pc := 45) C (i := 3) (cst := 1) (fun x1 => [(0, .ref 0), (1, .int v1), (2, .int v2), (3, .int x1), (4, .int v4)]) dX11_isMovedFrom_45 rfl rfl (by decide) (fun _ => rfl) fun x1 =>
    aw_goto (pc := 48) C (tgt := 2) dX11_isMovedFrom_48 rfl <|
    aw_drop [0, 1, 2, 3] (hK2 x1 h)) (fun _ =>
    aw_aload_n (pc := 19) C (i := 0) dX11_isMovedFrom_19 rfl rfl <|
    aw_getR (pc := 20) C (b := 23) dX11_isMovedFrom_20 fl_X11_77 sR_0 rfl rR_0_33 <|
    aw_iload_n (pc := 23) C (i := 3) dX11_isMovedFrom_23 rfl rfl <|
    aw_iald (pc := 24) C dX11_isMovedFrom_24 sR_23 rfl <|
    aw_aload_n (pc := 25) C (i := 0) dX11_isMovedFrom_25 rfl rfl <|
    aw_getR (pc := 26) C (b := 23) dX11_isMovedFrom_26 fl_X11_77 sR_0 rfl rR_0_33 <|
    aw_iload (pc := 29) C (i := 4) dX11_isMovedFrom_29 rfl <|
    aw_iald (pc := 31) C dX11_isMovedFrom_31 sR_23 rfl <|
    aw_iload_n (pc := 32) C (i := 2) dX11_isMovedFrom_32 rfl rfl <|
    aw_isub (pc := 33) C dX11_isMovedFrom_33 <|
    aw_icmp_le (pc := 34) C (tgt := 39) dX11_isMovedFrom_34 rfl (fun _ =>
    aw_iincV (pc := 39) C (i := 4) (cst := 1) (fun x2 => [(0, .ref 0), (1, .int v1), (2, .int v2), (3, .int v3), (4, .int x2)]) dX11_isMovedFrom_39 rfl rfl (by decide) (fun _ => rfl) fun x2 =>
    aw_goto (pc := 42) C (tgt := 13) dX11_isMovedFrom_42 rfl <|
    (ih x2 h)) (fun _ =>
    aw_iconst (pc := 37) C (v := 0) dX11_isMovedFrom_37 rfl <|
    aw_zret (pc := 38) C dX11_isMovedFrom_38 rfl rfl))
def X11_isMovedFrom_l2  (v1 : Int32) (v2 : Int32) : Nat → Int32 → AH → Option (Int32 × AH)
  | 0, _, _ => none
  | n + 1, v3, h =>
    if (h.1 0 34) ≤ v3 then (cz 1 (some (1, h)))
    else (X11_isMovedFrom_l13 v1 v2 v3 (X11_isMovedFrom_l2 v1 v2 n) FU 0 h)
set_option maxRecDepth 100000 in
theorem aX11_isMovedFrom_l2 {X : MCx} {yd : Dyn} {A : Nat → Prop} (C : OK X cX11_isMovedFrom RX11 5 (some .boolean) rmX11_isMovedFrom A)  (v1 : Int32) (v2 : Int32) : ∀ (n : Nat) (v3 : Int32) (h : AH), AW X 5 ZR yd A 0 0 (QF X rmX11_isMovedFrom ZR yd rvI A) 2 [(0, .ref 0), (1, .int v1), (2, .int v2), (3, .int v3)] [] h (X11_isMovedFrom_l2 v1 v2 n v3 h) := by
  intro n
  induction n with
  | zero => intro v3 h; exact aw_none
  | succ n ih =>
    intro v3 h
    exact aw_iload_n (pc := 2) C (i := 3) dX11_isMovedFrom_2 rfl rfl <|
    aw_aload_n (pc := 3) C (i := 0) dX11_isMovedFrom_3 rfl rfl <|
    aw_getI (pc := 4) C dX11_isMovedFrom_4 fl_X11_295 sR_0 rfl <|
    aw_icmp_ge (pc := 7) C (tgt := 51) dX11_isMovedFrom_7 rfl (fun _ =>
    aw_iconst (pc := 51) C (v := 1) dX11_isMovedFrom_51 rfl <|
    aw_zret (pc := 52) C dX11_isMovedFrom_52 rfl rfl) (fun _ =>
    aw_iconst (pc := 10) C (v := 0) dX11_isMovedFrom_10 rfl <|
    aw_istore (pc := 11) C (i := 4) (lv' := [(0, .ref 0), (1, .int v1), (2, .int v2), (3, .int v3), (4, .int 0)]) dX11_isMovedFrom_11 (by decide) rfl <|
    (aX11_isMovedFrom_l13 C v1 v2 v3 (X11_isMovedFrom_l2 v1 v2 n) ih FU 0 h))
def X11_isMovedFrom (v1 : Int32) (v2 : Int32) (h : AH) : Option (Int32 × AH) :=
    X11_isMovedFrom_l2 v1 v2 FU v1 h
set_option maxRecDepth 100000 in
theorem c_X11_isMovedFrom (l : Launch) (v1 : Int32) (v2 : Int32) : MC l yX11_isMovedFrom cX11_isMovedFrom 5 (some .boolean) rmX11_isMovedFrom ZR [.ref 0, .int v1, .int v2] rvI (X11_isMovedFrom v1 v2) :=
  MC.of (own := RX11) (by decide +kernel) rfl (Nat.le_of_ble_eq_true rfl) fun X yd A h _ C =>
    aw_iload_n (pc := 0) C (i := 1) dX11_isMovedFrom_0 rfl rfl <|
    aw_istore_n (pc := 1) C (i := 3) (lv' := [(0, .ref 0), (1, .int v1), (2, .int v2), (3, .int v1)]) dX11_isMovedFrom_1 rfl (by decide) rfl <|
    (aX11_isMovedFrom_l2 C v1 v2 FU v1 h)

abbrev rmX11_moved : Room := { frames := 1, cells := 0, slots := 0, locals := 24 }
def X11_moved_l20  (v1 : Int32) : Nat → Int32 → AH → Option (Int32 × AH)
  | 0, _, _ => none
  | n + 1, v3, h =>
    if (h.1 0 34) ≤ v3 then (some ((-9), h))
    else (bd (X11_isMovedFrom v3 v1 h) fun r3 h4 =>
    if r3 = 0 then (vl (v3 + 1) fun x5 =>
    (X11_moved_l20 v1 n) x5 h4)
    else (some (v3, h4)))
set_option maxRecDepth 100000 in
theorem aX11_moved_l20 {X : MCx} {yd : Dyn} {A : Nat → Prop} (C : OK X cX11_moved RX11 4 (some .int) rmX11_moved A)  (v1 : Int32) : ∀ (n : Nat) (v3 : Int32) (h : AH), AW X 4 ZR yd A 0 0 (QF X rmX11_moved ZR yd rvI A) 20 [(0, .ref 0), (1, .int v1), (3, .int v3)] [] h (X11_moved_l20 v1 n v3 h) := by
  intro n
  induction n with
  | zero => intro v3 h; exact aw_none
  | succ n ih =>
    intro v3 h
    exact aw_iload_n (pc := 20) C (i := 3) dX11_moved_20 rfl rfl <|
    aw_aload_n (pc := 21) C (i := 0) dX11_moved_21 rfl rfl <|
    aw_getI (pc := 22) C dX11_moved_22 fl_X11_295 sR_0 rfl <|
    aw_icmp_ge (pc := 25) C (tgt := 45) dX11_moved_25 rfl (fun _ =>
    aw_bipush (pc := 45) C (v := (-9)) dX11_moved_45 rfl <|
    aw_iret (pc := 47) C dX11_moved_47 rfl rfl) (fun _ =>
    aw_aload_n (pc := 28) C (i := 0) dX11_moved_28 rfl rfl <|
    aw_iload_n (pc := 29) C (i := 3) dX11_moved_29 rfl rfl <|
    aw_iload_n (pc := 30) C (i := 1) dX11_moved_30 rfl rfl <|
    aw_callF (pc := 31) C (cr_V (rest := []) (F := (X11_isMovedFrom v3 v1)) C (c_X11_isMovedFrom X.2.1 v3 v1) dX11_moved_31 mf_X11_isMovedFrom ml_X11_298 im_X11_isMovedFrom se_X11_isMovedFrom sR_0 rfl ⟨(Nat.le_of_ble_eq_true rfl), (Nat.le_of_ble_eq_true rfl)⟩ rfl rfl (Nat.le_of_ble_eq_true rfl)) rfl rfl rfl (Nat.zero_le _) (Nat.zero_le _) fun r3 h4 =>
    aw_if_eq (pc := 34) C (tgt := 39) dX11_moved_34 rfl (fun _ =>
    aw_iincV (pc := 39) C (i := 3) (cst := 1) (fun x5 => [(0, .ref 0), (1, .int v1), (3, .int x5)]) dX11_moved_39 rfl rfl (by decide) (fun _ => rfl) fun x5 =>
    aw_goto (pc := 42) C (tgt := 20) dX11_moved_42 rfl <|
    (ih x5 h4)) (fun _ =>
    aw_iload_n (pc := 37) C (i := 3) dX11_moved_37 rfl rfl <|
    aw_iret (pc := 38) C dX11_moved_38 rfl rfl))
def X11_moved (v1 : Int32) (h : AH) : Option (Int32 × AH) :=
    bd (X11_bound v1 1 99 h) fun r1 h2 =>
    if r1 = 0 then (X11_moved_l20 v1 FU 1 h2)
    else (bd (X11_no r1 h2) fun r6 h7 =>
    some (r6, h7))
set_option maxRecDepth 100000 in
theorem c_X11_moved (l : Launch) (v1 : Int32) : MC l yX11_moved cX11_moved 4 (some .int) rmX11_moved ZR [.ref 0, .int v1] rvI (X11_moved v1) :=
  MC.of (own := RX11) (by decide +kernel) rfl (Nat.le_of_ble_eq_true rfl) fun X yd A h _ C =>
    aw_iload_n (pc := 0) C (i := 1) dX11_moved_0 rfl rfl <|
    aw_iconst (pc := 1) C (v := 1) dX11_moved_1 rfl <|
    aw_bipush (pc := 2) C (v := 99) dX11_moved_2 rfl <|
    aw_callF (pc := 4) C (cr_S (rest := []) (F := (X11_bound v1 1 99)) C (c_X11_bound X.2.1 v1 1 99) dX11_moved_4 mf_X11_bound ml_X11_108 st_X11_bound ⟨(Nat.le_of_ble_eq_true rfl), (Nat.le_of_ble_eq_true rfl)⟩ rfl rfl (Nat.le_of_ble_eq_true rfl)) rfl rfl rfl (Nat.zero_le _) (Nat.zero_le _) fun r1 h2 =>
    aw_istore_n (pc := 7) C (i := 2) (lv' := [(0, .ref 0), (1, .int v1), (2, .int r1)]) dX11_moved_7 rfl (by decide) rfl <|
    aw_iload_n (pc := 8) C (i := 2) dX11_moved_8 rfl rfl <|
    aw_if_eq (pc := 9) C (tgt := 18) dX11_moved_9 rfl (fun _ =>
    aw_iconst (pc := 18) C (v := 1) dX11_moved_18 rfl <|
    aw_istore_n (pc := 19) C (i := 3) (lv' := [(0, .ref 0), (1, .int v1), (2, .int r1), (3, .int 1)]) dX11_moved_19 rfl (by decide) rfl <|
    aw_drop [0, 1, 3] (aX11_moved_l20 C v1 FU 1 h2)) (fun _ =>
    aw_aload_n (pc := 12) C (i := 0) dX11_moved_12 rfl rfl <|
    aw_iload_n (pc := 13) C (i := 2) dX11_moved_13 rfl rfl <|
    aw_callF (pc := 14) C (cr_V (rest := []) (F := (X11_no r1)) C (c_X11_no X.2.1 r1) dX11_moved_14 mf_X11_no ml_X11_115 im_X11_no se_X11_no sR_0 rfl ⟨(Nat.le_of_ble_eq_true rfl), (Nat.le_of_ble_eq_true rfl)⟩ rfl rfl (Nat.le_of_ble_eq_true rfl)) rfl rfl rfl (Nat.zero_le _) (Nat.zero_le _) fun r6 h7 =>
    aw_iret (pc := 17) C dX11_moved_17 rfl rfl)

abbrev rmX11_gusts : Room := { frames := 5, cells := 0, slots := 0, locals := 123 }
def X11_gusts_j128  (v1 : Int32) (v3 : Int32) (v4 : Int32) (v5 : Int64) (v7 : Int32) (K79 : Int32 → Int64 → Int32 → AH → Option (Int32 × AH)) (h : AH) : Option (Int32 × AH) :=
    vl (v7 + 1) fun x10 =>
    K79 v4 v5 x10 h
set_option maxRecDepth 100000 in
theorem aX11_gusts_j128 {X : MCx} {yd : Dyn} {A : Nat → Prop} (C : OK X cX11_gusts RX11 10 (some .int) rmX11_gusts A)  (v1 : Int32) (v3 : Int32) (v4 : Int32) (v5 : Int64) (v7 : Int32) (K79 : Int32 → Int64 → Int32 → AH → Option (Int32 × AH)) (hK79 : ∀ (w4 : Int32) (w5 : Int64) (w7 : Int32) (h : AH), AW X 10 ZR yd A 0 0 (QF X rmX11_gusts ZR yd rvI A) 79 [(0, .ref 0), (1, .int v1), (3, .int v3), (4, .int w4), (5, .long w5), (7, .int w7)] [] h (K79 w4 w5 w7 h)) (h : AH) : AW X 10 ZR yd A 0 0 (QF X rmX11_gusts ZR yd rvI A) 128 [(0, .ref 0), (1, .int v1), (3, .int v3), (4, .int v4), (5, .long v5), (7, .int v7)] [] h (X11_gusts_j128 v1 v3 v4 v5 v7 K79 h) := by
    exact aw_iincV (pc := 128) C (i := 7) (cst := 1) (fun x10 => [(0, .ref 0), (1, .int v1), (3, .int v3), (4, .int v4), (5, .long v5), (7, .int x10)]) dX11_gusts_128 rfl rfl (by decide) (fun _ => rfl) fun x10 =>
    aw_goto (pc := 131) C (tgt := 79) dX11_gusts_131 rfl <|
    (hK79 v4 v5 x10 h)
def X11_gusts_l79  (v1 : Int32) (v3 : Int32) : Nat → Int32 → Int64 → Int32 → AH → Option (Int32 × AH)
  | 0, _, _, _, _ => none
  | n + 1, v4, v5, v7, h =>
    if (h.1 0 34) ≤ v7 then (vl (sI h 0 14 v3) fun h6 =>
    some (v4, h6))
    else (ck v7 12 (vl (sI h 0 14 ((h.1 23 v7.toNatClampNeg) - 9)) fun h7 =>
    bd (X11_meanParts v1 h7) fun r8 h9 =>
    if 0 < (lcmpV r8 v5) then (X11_gusts_j128 v1 v3 v7 r8 v7 (X11_gusts_l79 v1 v3 n) h9)
    else (X11_gusts_j128 v1 v3 v4 v5 v7 (X11_gusts_l79 v1 v3 n) h9)))
set_option maxRecDepth 100000 in
theorem aX11_gusts_l79 {X : MCx} {yd : Dyn} {A : Nat → Prop} (C : OK X cX11_gusts RX11 10 (some .int) rmX11_gusts A)  (v1 : Int32) (v3 : Int32) : ∀ (n : Nat) (v4 : Int32) (v5 : Int64) (v7 : Int32) (h : AH), AW X 10 ZR yd A 0 0 (QF X rmX11_gusts ZR yd rvI A) 79 [(0, .ref 0), (1, .int v1), (3, .int v3), (4, .int v4), (5, .long v5), (7, .int v7)] [] h (X11_gusts_l79 v1 v3 n v4 v5 v7 h) := by
  intro n
  induction n with
  | zero => intro v4 v5 v7 h; exact aw_none
  | succ n ih =>
    intro v4 v5 v7 h
    exact aw_iload (pc := 79) C (i := 7) dX11_gusts_79 rfl <|
    aw_aload_n (pc := 81) C (i := 0) dX11_gusts_81 rfl rfl <|
    aw_getI (pc := 82) C dX11_gusts_82 fl_X11_295 sR_0 rfl <|
    aw_icmp_ge (pc := 85) C (tgt := 134) dX11_gusts_85 rfl (fun _ =>
    aw_aload_n (pc := 134) C (i := 0) dX11_gusts_134 rfl rfl <|
    aw_iload_n (pc := 135) C (i := 3) dX11_gusts_135 rfl rfl <|
    aw_putI (pc := 136) C dX11_gusts_136 fp_X11_157 sR_0 rfl fun h6 =>
    aw_iload (pc := 139) C (i := 4) dX11_gusts_139 rfl <|
    aw_iret (pc := 141) C dX11_gusts_141 rfl rfl) (fun _ =>
    aw_aload_n (pc := 88) C (i := 0) dX11_gusts_88 rfl rfl <|
    aw_aload_n (pc := 89) C (i := 0) dX11_gusts_89 rfl rfl <|
    aw_getR (pc := 90) C (b := 23) dX11_gusts_90 fl_X11_77 sR_0 rfl rR_0_33 <|
    aw_iload (pc := 93) C (i := 7) dX11_gusts_93 rfl <|
    aw_iald (pc := 95) C dX11_gusts_95 sR_23 rfl <|
    aw_bipush (pc := 96) C (v := 9) dX11_gusts_96 rfl <|
    aw_isub (pc := 98) C dX11_gusts_98 <|
    aw_putI (pc := 99) C dX11_gusts_99 fp_X11_157 sR_0 rfl fun h7 =>
    aw_aload_n (pc := 102) C (i := 0) dX11_gusts_102 rfl rfl <|
    aw_iload_n (pc := 103) C (i := 1) dX11_gusts_103 rfl rfl <|
    aw_callF (pc := 104) C (cr_V (rest := []) (F := (X11_meanParts v1)) C (c_X11_meanParts X.2.1 v1) dX11_gusts_104 mf_X11_meanParts ml_X11_254 im_X11_meanParts se_X11_meanParts sR_0 rfl ⟨(Nat.le_of_ble_eq_true rfl), (Nat.le_of_ble_eq_true rfl)⟩ rfl rfl (Nat.le_of_ble_eq_true rfl)) rfl rfl rfl (Nat.zero_le _) (Nat.zero_le _) fun r8 h9 =>
    aw_lstore (pc := 107) C (i := 8) (lv' := [(0, .ref 0), (1, .int v1), (3, .int v3), (4, .int v4), (5, .long v5), (7, .int v7), (8, .long r8)]) dX11_gusts_107 (by decide) rfl <|
    aw_lload (pc := 109) C (i := 8) dX11_gusts_109 rfl <|
    aw_lload (pc := 111) C (i := 5) dX11_gusts_111 rfl <|
    aw_lcmp (pc := 113) C dX11_gusts_113 <|
    aw_if_gt (pc := 114) C (tgt := 120) dX11_gusts_114 rfl (fun _ =>
    aw_iload (pc := 120) C (i := 7) dX11_gusts_120 rfl <|
    aw_istore (pc := 122) C (i := 4) (lv' := [(0, .ref 0), (1, .int v1), (3, .int v3), (4, .int v7), (5, .long v5), (7, .int v7), (8, .long r8)]) dX11_gusts_122 (by decide) rfl <|
    aw_lload (pc := 124) C (i := 8) dX11_gusts_124 rfl <|
    aw_lstore (pc := 126) C (i := 5) (lv' := [(0, .ref 0), (1, .int v1), (3, .int v3), (4, .int v7), (5, .long r8), (7, .int v7), (8, .long r8)]) dX11_gusts_126 (by decide) rfl <|
    aw_drop [0, 1, 2, 3, 4, 5] (aX11_gusts_j128 C v1 v3 v7 r8 v7 (X11_gusts_l79 v1 v3 n) ih h9)) (fun _ =>
    aw_goto (pc := 117) C (tgt := 128) dX11_gusts_117 rfl <|
    aw_drop [0, 1, 2, 3, 4, 5] (aX11_gusts_j128 C v1 v3 v4 v5 v7 (X11_gusts_l79 v1 v3 n) ih h9)))
def X11_gusts_j52  (v1 : Int32) (v2 : Int32) (h : AH) : Option (Int32 × AH) :=
    if v2 = 0 then (vl (h.1 0 14) fun x3 =>
    vl (-9) fun x4 =>
    vl (-1) fun x5 =>
    X11_gusts_l79 v1 x3 FU x4 x5 0 h)
    else (bd (X11_no v2 h) fun r11 h12 =>
    some (r11, h12))
set_option maxRecDepth 100000 in
theorem aX11_gusts_j52 {X : MCx} {yd : Dyn} {A : Nat → Prop} (C : OK X cX11_gusts RX11 10 (some .int) rmX11_gusts A)  (v1 : Int32) (v2 : Int32) (h : AH) : AW X 10 ZR yd A 0 0 (QF X rmX11_gusts ZR yd rvI A) 52 [(0, .ref 0), (1, .int v1), (2, .int v2)] [] h (X11_gusts_j52 v1 v2 h) := by
    exact aw_iload_n (pc := 52) C (i := 2) dX11_gusts_52 rfl rfl <|
    aw_if_eq (pc := 53) C (tgt := 62) dX11_gusts_53 rfl (fun _ =>
    aw_aload_n (pc := 62) C (i := 0) dX11_gusts_62 rfl rfl <|
    aw_getI (pc := 63) C dX11_gusts_63 fl_X11_157 sR_0 rfl <|
    aw_istoreV_n (pc := 66) C (i := 3) (fun x3 => [(0, .ref 0), (1, .int v1), (2, .int v2), (3, .int x3)]) dX11_gusts_66 rfl (by decide) (fun _ => rfl) fun x3 =>
    aw_bipush (pc := 67) C (v := (-9)) dX11_gusts_67 rfl <|
    aw_istoreV (pc := 69) C (i := 4) (fun x4 => [(0, .ref 0), (1, .int v1), (2, .int v2), (3, .int x3), (4, .int x4)]) dX11_gusts_69 (by decide) (fun _ => rfl) fun x4 =>
    aw_ldc2_w (pc := 71) C (v := (-1)) dX11_gusts_71 kc_X11_257 <|
    aw_lstoreV (pc := 74) C (i := 5) (fun x5 => [(0, .ref 0), (1, .int v1), (2, .int v2), (3, .int x3), (4, .int x4), (5, .long x5)]) dX11_gusts_74 (by decide) (fun _ => rfl) fun x5 =>
    aw_iconst (pc := 76) C (v := 0) dX11_gusts_76 rfl <|
    aw_istore (pc := 77) C (i := 7) (lv' := [(0, .ref 0), (1, .int v1), (2, .int v2), (3, .int x3), (4, .int x4), (5, .long x5), (7, .int 0)]) dX11_gusts_77 (by decide) rfl <|
    aw_drop [0, 1, 3, 4, 5, 6] (aX11_gusts_l79 C v1 x3 FU x4 x5 0 h)) (fun _ =>
    aw_aload_n (pc := 56) C (i := 0) dX11_gusts_56 rfl rfl <|
    aw_iload_n (pc := 57) C (i := 2) dX11_gusts_57 rfl rfl <|
    aw_callF (pc := 58) C (cr_V (rest := []) (F := (X11_no v2)) C (c_X11_no X.2.1 v2) dX11_gusts_58 mf_X11_no ml_X11_115 im_X11_no se_X11_no sR_0 rfl ⟨(Nat.le_of_ble_eq_true rfl), (Nat.le_of_ble_eq_true rfl)⟩ rfl rfl (Nat.le_of_ble_eq_true rfl)) rfl rfl rfl (Nat.zero_le _) (Nat.zero_le _) fun r11 h12 =>
    aw_iret (pc := 61) C dX11_gusts_61 rfl rfl)
def X11_gusts_j45  (v1 : Int32) (v3 : Int32) (K16 : Int32 → Int32 → AH → Option (Int32 × AH)) (s0 : Int32) (h : AH) : Option (Int32 × AH) :=
    vl (v3 + 1) fun x13 =>
    K16 s0 x13 h
set_option maxRecDepth 100000 in
theorem aX11_gusts_j45 {X : MCx} {yd : Dyn} {A : Nat → Prop} (C : OK X cX11_gusts RX11 10 (some .int) rmX11_gusts A)  (v1 : Int32) (v3 : Int32) (K16 : Int32 → Int32 → AH → Option (Int32 × AH)) (hK16 : ∀ (w2 : Int32) (w3 : Int32) (h : AH), AW X 10 ZR yd A 0 0 (QF X rmX11_gusts ZR yd rvI A) 16 [(0, .ref 0), (1, .int v1), (2, .int w2), (3, .int w3)] [] h (K16 w2 w3 h)) (s0 : Int32) (h : AH) : AW X 10 ZR yd A 0 0 (QF X rmX11_gusts ZR yd rvI A) 45 [(0, .ref 0), (1, .int v1), (3, .int v3)] [.int s0] h (X11_gusts_j45 v1 v3 K16 s0 h) := by
    exact aw_istore_n (pc := 45) C (i := 2) (lv' := [(0, .ref 0), (1, .int v1), (2, .int s0), (3, .int v3)]) dX11_gusts_45 rfl (by decide) rfl <|
    aw_iincV (pc := 46) C (i := 3) (cst := 1) (fun x13 => [(0, .ref 0), (1, .int v1), (2, .int s0), (3, .int x13)]) dX11_gusts_46 rfl rfl (by decide) (fun _ => rfl) fun x13 =>
    aw_goto (pc := 49) C (tgt := 16) dX11_gusts_49 rfl <|
    (hK16 s0 x13 h)
def X11_gusts_l16  (v1 : Int32) : Nat → Int32 → Int32 → AH → Option (Int32 × AH)
  | 0, _, _, _ => none
  | n + 1, v2, v3, h =>
    if (h.1 0 34) ≤ v3 then (X11_gusts_j52 v1 v2 h)
    else (if v2 = 0 then (ck v3 12 (if (h.1 23 v3.toNatClampNeg) ≤ 18 then (X11_gusts_j45 v1 v3 (X11_gusts_l16 v1 n) 0 h)
    else (X11_gusts_j45 v1 v3 (X11_gusts_l16 v1 n) (-3) h)))
    else (X11_gusts_j52 v1 v2 h))
set_option maxRecDepth 100000 in
theorem aX11_gusts_l16 {X : MCx} {yd : Dyn} {A : Nat → Prop} (C : OK X cX11_gusts RX11 10 (some .int) rmX11_gusts A)  (v1 : Int32) : ∀ (n : Nat) (v2 : Int32) (v3 : Int32) (h : AH), AW X 10 ZR yd A 0 0 (QF X rmX11_gusts ZR yd rvI A) 16 [(0, .ref 0), (1, .int v1), (2, .int v2), (3, .int v3)] [] h (X11_gusts_l16 v1 n v2 v3 h) := by
  intro n
  induction n with
  | zero => intro v2 v3 h; exact aw_none
  | succ n ih =>
    intro v2 v3 h
    exact aw_iload_n (pc := 16) C (i := 3) dX11_gusts_16 rfl rfl <|
    aw_aload_n (pc := 17) C (i := 0) dX11_gusts_17 rfl rfl <|
    aw_getI (pc := 18) C dX11_gusts_18 fl_X11_295 sR_0 rfl <|
    aw_icmp_ge (pc := 21) C (tgt := 52) dX11_gusts_21 rfl (fun _ =>
    aw_drop [0, 1, 2] (aX11_gusts_j52 C v1 v2 h)) (fun _ =>
    aw_iload_n (pc := 24) C (i := 2) dX11_gusts_24 rfl rfl <|
    aw_if_ne (pc := 25) C (tgt := 52) dX11_gusts_25 rfl (fun _ =>
    aw_aload_n (pc := 28) C (i := 0) dX11_gusts_28 rfl rfl <|
    aw_getR (pc := 29) C (b := 23) dX11_gusts_29 fl_X11_77 sR_0 rfl rR_0_33 <|
    aw_iload_n (pc := 32) C (i := 3) dX11_gusts_32 rfl rfl <|
    aw_iald (pc := 33) C dX11_gusts_33 sR_23 rfl <|
    aw_bipush (pc := 34) C (v := 18) dX11_gusts_34 rfl <|
    aw_icmp_le (pc := 36) C (tgt := 44) dX11_gusts_36 rfl (fun _ =>
    aw_iconst (pc := 44) C (v := 0) dX11_gusts_44 rfl <|
    aw_drop [0, 1, 3] (aX11_gusts_j45 C v1 v3 (X11_gusts_l16 v1 n) ih 0 h)) (fun _ =>
    aw_bipush (pc := 39) C (v := (-3)) dX11_gusts_39 rfl <|
    aw_goto (pc := 41) C (tgt := 45) dX11_gusts_41 rfl <|
    aw_drop [0, 1, 3] (aX11_gusts_j45 C v1 v3 (X11_gusts_l16 v1 n) ih (-3) h))) (fun _ =>
    aw_drop [0, 1, 2] (aX11_gusts_j52 C v1 v2 h)))
def X11_gusts_j13  (v1 : Int32) (s0 : Int32) (h : AH) : Option (Int32 × AH) :=
    X11_gusts_l16 v1 FU s0 0 h
set_option maxRecDepth 100000 in
theorem aX11_gusts_j13 {X : MCx} {yd : Dyn} {A : Nat → Prop} (C : OK X cX11_gusts RX11 10 (some .int) rmX11_gusts A)  (v1 : Int32) (s0 : Int32) (h : AH) : AW X 10 ZR yd A 0 0 (QF X rmX11_gusts ZR yd rvI A) 13 [(0, .ref 0), (1, .int v1)] [.int s0] h (X11_gusts_j13 v1 s0 h) := by
    exact aw_istore_n (pc := 13) C (i := 2) (lv' := [(0, .ref 0), (1, .int v1), (2, .int s0)]) dX11_gusts_13 rfl (by decide) rfl <|
    aw_iconst (pc := 14) C (v := 0) dX11_gusts_14 rfl <|
    aw_istore_n (pc := 15) C (i := 3) (lv' := [(0, .ref 0), (1, .int v1), (2, .int s0), (3, .int 0)]) dX11_gusts_15 rfl (by decide) rfl <|
    (aX11_gusts_l16 C v1 FU s0 0 h)
def X11_gusts (v1 : Int32) (h : AH) : Option (Int32 × AH) :=
    bd (X11_isJumper v1 h) fun r1 h2 =>
    if r1 = 0 then (X11_gusts_j13 v1 (-1) h2)
    else (X11_gusts_j13 v1 0 h2)
set_option maxRecDepth 100000 in
theorem c_X11_gusts (l : Launch) (v1 : Int32) : MC l yX11_gusts cX11_gusts 10 (some .int) rmX11_gusts ZR [.ref 0, .int v1] rvI (X11_gusts v1) :=
  MC.of (own := RX11) (by decide +kernel) rfl (Nat.le_of_ble_eq_true rfl) fun X yd A h _ C =>
    aw_aload_n (pc := 0) C (i := 0) dX11_gusts_0 rfl rfl <|
    aw_iload_n (pc := 1) C (i := 1) dX11_gusts_1 rfl rfl <|
    aw_callF (pc := 2) C (cr_V (rest := []) (F := (X11_isJumper v1)) C (c_X11_isJumper X.2.1 v1) dX11_gusts_2 mf_X11_isJumper ml_X11_207 im_X11_isJumper se_X11_isJumper sR_0 rfl ⟨(Nat.le_of_ble_eq_true rfl), (Nat.le_of_ble_eq_true rfl)⟩ rfl rfl (Nat.le_of_ble_eq_true rfl)) rfl rfl rfl (Nat.zero_le _) (Nat.zero_le _) fun r1 h2 =>
    aw_if_ne (pc := 5) C (tgt := 12) dX11_gusts_5 rfl (fun _ =>
    aw_iconst (pc := 8) C (v := (-1)) dX11_gusts_8 rfl <|
    aw_goto (pc := 9) C (tgt := 13) dX11_gusts_9 rfl <|
    (aX11_gusts_j13 C v1 (-1) h2)) (fun _ =>
    aw_iconst (pc := 12) C (v := 0) dX11_gusts_12 rfl <|
    (aX11_gusts_j13 C v1 0 h2))
end
section
abbrev rmX11_on : Room := { frames := 6, cells := 0, slots := 0, locals := 130 }
def X11_on_j205  (v1 : Int32) (v2 : Int32) (v4 : Int32) (v5 : Int32) (v8 : Int32) (K114 : Int64 → Int32 → AH → Option (Int64 × AH)) (s0 : Int64) (s1 : Int64) (h : AH) : Option (Int64 × AH) :=
    vl (s1 + s0) fun x19 =>
    vl (v8 + 1) fun x20 =>
    K114 x19 x20 h
set_option maxRecDepth 100000 in
theorem aX11_on_j205 {X : MCx} {yd : Dyn} {A : Nat → Prop} (C : OK X cX11_on RX11 10 (some .long) rmX11_on A)  (v1 : Int32) (v2 : Int32) (v4 : Int32) (v5 : Int32) (v8 : Int32) (K114 : Int64 → Int32 → AH → Option (Int64 × AH)) (hK114 : ∀ (w6 : Int64) (w8 : Int32) (h : AH), AW X 10 ZR yd A 0 0 (QF X rmX11_on ZR yd rvL A) 114 [(0, .ref 0), (1, .int v1), (2, .int v2), (4, .int v4), (5, .int v5), (6, .long w6), (8, .int w8)] [] h (K114 w6 w8 h)) (s0 : Int64) (s1 : Int64) (h : AH) : AW X 10 ZR yd A 0 0 (QF X rmX11_on ZR yd rvL A) 205 [(0, .ref 0), (1, .int v1), (2, .int v2), (4, .int v4), (5, .int v5), (8, .int v8)] [.long s0, .long s1] h (X11_on_j205 v1 v2 v4 v5 v8 K114 s0 s1 h) := by
    exact aw_ladd (pc := 205) C dX11_on_205 <|
    aw_lstoreV (pc := 206) C (i := 6) (fun x19 => [(0, .ref 0), (1, .int v1), (2, .int v2), (4, .int v4), (5, .int v5), (6, .long x19), (8, .int v8)]) dX11_on_206 (by decide) (fun _ => rfl) fun x19 =>
    aw_iincV (pc := 208) C (i := 8) (cst := 1) (fun x20 => [(0, .ref 0), (1, .int v1), (2, .int v2), (4, .int v4), (5, .int v5), (6, .long x19), (8, .int x20)]) dX11_on_208 rfl rfl (by decide) (fun _ => rfl) fun x20 =>
    aw_goto (pc := 211) C (tgt := 114) dX11_on_211 rfl <|
    (hK114 x19 x20 h)
def X11_on_j173  (v1 : Int32) (v2 : Int32) (v4 : Int32) (v5 : Int32) (v6 : Int64) (v8 : Int32) (v9 : Int32) (K114 : Int64 → Int32 → AH → Option (Int64 × AH)) (K135 : Int32 → AH → Option (Int64 × AH)) (s0 : Int32) (s1 : Int32) (h : AH) : Option (Int64 × AH) :=
    bd (X11_comesLength s1 s0 h) fun _ h22 =>
    vl (v9 + 1) fun x23 =>
    K135 x23 h22
set_option maxRecDepth 100000 in
theorem aX11_on_j173 {X : MCx} {yd : Dyn} {A : Nat → Prop} (C : OK X cX11_on RX11 10 (some .long) rmX11_on A)  (v1 : Int32) (v2 : Int32) (v4 : Int32) (v5 : Int32) (v6 : Int64) (v8 : Int32) (v9 : Int32) (K114 : Int64 → Int32 → AH → Option (Int64 × AH)) (hK114 : ∀ (w6 : Int64) (w8 : Int32) (h : AH), AW X 10 ZR yd A 0 0 (QF X rmX11_on ZR yd rvL A) 114 [(0, .ref 0), (1, .int v1), (2, .int v2), (4, .int v4), (5, .int v5), (6, .long w6), (8, .int w8)] [] h (K114 w6 w8 h)) (K135 : Int32 → AH → Option (Int64 × AH)) (hK135 : ∀ (w9 : Int32) (h : AH), AW X 10 ZR yd A 0 0 (QF X rmX11_on ZR yd rvL A) 135 [(0, .ref 0), (1, .int v1), (2, .int v2), (4, .int v4), (5, .int v5), (6, .long v6), (8, .int v8), (9, .int w9)] [] h (K135 w9 h)) (s0 : Int32) (s1 : Int32) (h : AH) : AW X 10 ZR yd A 0 0 (QF X rmX11_on ZR yd rvL A) 173 [(0, .ref 0), (1, .int v1), (2, .int v2), (4, .int v4), (5, .int v5), (6, .long v6), (8, .int v8), (9, .int v9)] [.int s0, .int s1, .ref 0] h (X11_on_j173 v1 v2 v4 v5 v6 v8 v9 K114 K135 s0 s1 h) := by
    exact aw_callF (pc := 173) C (cr_V (rest := []) (F := (X11_comesLength s1 s0)) C (c_X11_comesLength X.2.1 s1 s0) dX11_on_173 mf_X11_comesLength ml_X11_262 im_X11_comesLength se_X11_comesLength sR_0 rfl ⟨(Nat.le_of_ble_eq_true rfl), (Nat.le_of_ble_eq_true rfl)⟩ rfl rfl (Nat.le_of_ble_eq_true rfl)) rfl rfl rfl (Nat.zero_le _) (Nat.zero_le _) fun _ h22 =>
    aw_iincV (pc := 176) C (i := 9) (cst := 1) (fun x23 => [(0, .ref 0), (1, .int v1), (2, .int v2), (4, .int v4), (5, .int v5), (6, .long v6), (8, .int v8), (9, .int x23)]) dX11_on_176 rfl rfl (by decide) (fun _ => rfl) fun x23 =>
    aw_goto (pc := 179) C (tgt := 135) dX11_on_179 rfl <|
    (hK135 x23 h22)
def X11_on_l135  (v1 : Int32) (v2 : Int32) (v4 : Int32) (v5 : Int32) (v6 : Int64) (v8 : Int32) (K114 : Int64 → Int32 → AH → Option (Int64 × AH)) : Nat → Int32 → AH → Option (Int64 × AH)
  | 0, _, _ => none
  | n + 1, v9, h =>
    if v5 ≤ v9 then (bd (X11_sorts h) fun _ h14 =>
    bd (X11_rankOf v1 h14) fun r15 h16 =>
    bd (X11_finalists h16) fun r17 h18 =>
    if r17 ≤ r15 then (X11_on_j205 v1 v2 v4 v5 v8 K114 0 v6 h18)
    else (X11_on_j205 v1 v2 v4 v5 v8 K114 1 v6 h18))
    else (if ((sar32 v8 v9) &&& 1) = 1 then (ck (v4 + v9) 4 (X11_on_j173 v1 v2 v4 v5 v6 v8 v9 K114 (X11_on_l135 v1 v2 v4 v5 v6 v8 K114 n) (h.1 24 (v4 + v9).toNatClampNeg) (v4 + v9) h))
    else (X11_on_j173 v1 v2 v4 v5 v6 v8 v9 K114 (X11_on_l135 v1 v2 v4 v5 v6 v8 K114 n) 0 (v4 + v9) h))
set_option maxRecDepth 100000 in
theorem aX11_on_l135 {X : MCx} {yd : Dyn} {A : Nat → Prop} (C : OK X cX11_on RX11 10 (some .long) rmX11_on A)  (v1 : Int32) (v2 : Int32) (v4 : Int32) (v5 : Int32) (v6 : Int64) (v8 : Int32) (K114 : Int64 → Int32 → AH → Option (Int64 × AH)) (hK114 : ∀ (w6 : Int64) (w8 : Int32) (h : AH), AW X 10 ZR yd A 0 0 (QF X rmX11_on ZR yd rvL A) 114 [(0, .ref 0), (1, .int v1), (2, .int v2), (4, .int v4), (5, .int v5), (6, .long w6), (8, .int w8)] [] h (K114 w6 w8 h)) : ∀ (n : Nat) (v9 : Int32) (h : AH), AW X 10 ZR yd A 0 0 (QF X rmX11_on ZR yd rvL A) 135 [(0, .ref 0), (1, .int v1), (2, .int v2), (4, .int v4), (5, .int v5), (6, .long v6), (8, .int v8), (9, .int v9)] [] h (X11_on_l135 v1 v2 v4 v5 v6 v8 K114 n v9 h) := by
  intro n
  induction n with
  | zero => intro v9 h; exact aw_none
  | succ n ih =>
    intro v9 h
    exact aw_iload (pc := 135) C (i := 9) dX11_on_135 rfl <|
    aw_iload (pc := 137) C (i := 5) dX11_on_137 rfl <|
    aw_icmp_ge (pc := 139) C (tgt := 182) dX11_on_139 rfl (fun _ =>
    aw_aload_n (pc := 182) C (i := 0) dX11_on_182 rfl rfl <|
    aw_callF (pc := 183) C (cr_V (rest := []) (F := X11_sorts) C (c_X11_sorts X.2.1 ) dX11_on_183 mf_X11_sorts ml_X11_268 im_X11_sorts se_X11_sorts sR_0 rfl ⟨(Nat.le_of_ble_eq_true rfl), (Nat.le_of_ble_eq_true rfl)⟩ rfl rfl (Nat.le_of_ble_eq_true rfl)) rfl rfl rfl (Nat.zero_le _) (Nat.zero_le _) fun _ h14 =>
    aw_lload (pc := 186) C (i := 6) dX11_on_186 rfl <|
    aw_aload_n (pc := 188) C (i := 0) dX11_on_188 rfl rfl <|
    aw_iload_n (pc := 189) C (i := 1) dX11_on_189 rfl rfl <|
    aw_callF (pc := 190) C (cr_V (rest := [.long v6]) (F := (X11_rankOf v1)) C (c_X11_rankOf X.2.1 v1) dX11_on_190 mf_X11_rankOf ml_X11_274 im_X11_rankOf se_X11_rankOf sR_0 rfl ⟨(Nat.le_of_ble_eq_true rfl), (Nat.le_of_ble_eq_true rfl)⟩ rfl rfl (Nat.le_of_ble_eq_true rfl)) rfl rfl rfl (Nat.zero_le _) (Nat.zero_le _) fun r15 h16 =>
    aw_aload_n (pc := 193) C (i := 0) dX11_on_193 rfl rfl <|
    aw_callF (pc := 194) C (cr_V (rest := [.int r15, .long v6]) (F := X11_finalists) C (c_X11_finalists X.2.1 ) dX11_on_194 mf_X11_finalists ml_X11_271 im_X11_finalists se_X11_finalists sR_0 rfl ⟨(Nat.le_of_ble_eq_true rfl), (Nat.le_of_ble_eq_true rfl)⟩ rfl rfl (Nat.le_of_ble_eq_true rfl)) rfl rfl rfl (Nat.zero_le _) (Nat.zero_le _) fun r17 h18 =>
    aw_icmp_ge (pc := 197) C (tgt := 204) dX11_on_197 rfl (fun _ =>
    aw_lconst (pc := 204) C (v := 0) dX11_on_204 rfl <|
    aw_drop [0, 1, 2, 3, 4, 6] (aX11_on_j205 C v1 v2 v4 v5 v8 K114 hK114 0 v6 h18)) (fun _ =>
    aw_lconst (pc := 200) C (v := 1) dX11_on_200 rfl <|
    aw_goto (pc := 201) C (tgt := 205) dX11_on_201 rfl <|
    aw_drop [0, 1, 2, 3, 4, 6] (aX11_on_j205 C v1 v2 v4 v5 v8 K114 hK114 1 v6 h18))) (fun _ =>
    aw_aload_n (pc := 142) C (i := 0) dX11_on_142 rfl rfl <|
    aw_iload (pc := 143) C (i := 4) dX11_on_143 rfl <|
    aw_iload (pc := 145) C (i := 9) dX11_on_145 rfl <|
    aw_iadd (pc := 147) C dX11_on_147 <|
    aw_iload (pc := 148) C (i := 8) dX11_on_148 rfl <|
    aw_iload (pc := 150) C (i := 9) dX11_on_150 rfl <|
    aw_ishr (pc := 152) C dX11_on_152 <|
    aw_iconst (pc := 153) C (v := 1) dX11_on_153 rfl <|
    aw_iand (pc := 154) C dX11_on_154 <|
    aw_iconst (pc := 155) C (v := 1) dX11_on_155 rfl <|
    aw_icmp_ne (pc := 156) C (tgt := 172) dX11_on_156 rfl (fun _ =>
    aw_aload_n (pc := 159) C (i := 0) dX11_on_159 rfl rfl <|
    aw_getR (pc := 160) C (b := 24) dX11_on_160 fl_X11_80 sR_0 rfl rR_0_35 <|
    aw_iload (pc := 163) C (i := 4) dX11_on_163 rfl <|
    aw_iload (pc := 165) C (i := 9) dX11_on_165 rfl <|
    aw_iadd (pc := 167) C dX11_on_167 <|
    aw_iald (pc := 168) C dX11_on_168 sR_24 rfl <|
    aw_goto (pc := 169) C (tgt := 173) dX11_on_169 rfl <|
    (aX11_on_j173 C v1 v2 v4 v5 v6 v8 v9 K114 hK114 (X11_on_l135 v1 v2 v4 v5 v6 v8 K114 n) ih (h.1 24 (v4 + v9).toNatClampNeg) (v4 + v9) h)) (fun _ =>
    aw_iconst (pc := 172) C (v := 0) dX11_on_172 rfl <|
    (aX11_on_j173 C v1 v2 v4 v5 v6 v8 v9 K114 hK114 (X11_on_l135 v1 v2 v4 v5 v6 v8 K114 n) ih 0 (v4 + v9) h)))
def X11_on_l114  (v1 : Int32) (v2 : Int32) (v4 : Int32) (v5 : Int32) : Nat → Int64 → Int32 → AH → Option (Int64 × AH)
  | 0, _, _, _ => none
  | n + 1, v6, v8, h =>
    if (shl32 1 v5) ≤ v8 then (bd (X11_partOf v6 (shl64 1 v5) v2 h) fun r9 h10 =>
    some (r9, h10))
    else (bd (X11_findBest 0 (h.1 0 16) h) fun _ h12 =>
    X11_on_l135 v1 v2 v4 v5 v6 v8 (X11_on_l114 v1 v2 v4 v5 n) FU 0 h12)
set_option maxRecDepth 100000 in
theorem aX11_on_l114 {X : MCx} {yd : Dyn} {A : Nat → Prop} (C : OK X cX11_on RX11 10 (some .long) rmX11_on A)  (v1 : Int32) (v2 : Int32) (v4 : Int32) (v5 : Int32) : ∀ (n : Nat) (v6 : Int64) (v8 : Int32) (h : AH), AW X 10 ZR yd A 0 0 (QF X rmX11_on ZR yd rvL A) 114 [(0, .ref 0), (1, .int v1), (2, .int v2), (4, .int v4), (5, .int v5), (6, .long v6), (8, .int v8)] [] h (X11_on_l114 v1 v2 v4 v5 n v6 v8 h) := by
  intro n
  induction n with
  | zero => intro v6 v8 h; exact aw_none
  | succ n ih =>
    intro v6 v8 h
    exact aw_iload (pc := 114) C (i := 8) dX11_on_114 rfl <|
    aw_iconst (pc := 116) C (v := 1) dX11_on_116 rfl <|
    aw_iload (pc := 117) C (i := 5) dX11_on_117 rfl <|
    aw_ishl (pc := 119) C dX11_on_119 <|
    aw_icmp_ge (pc := 120) C (tgt := 214) dX11_on_120 rfl (fun _ =>
    aw_lload (pc := 214) C (i := 6) dX11_on_214 rfl <|
    aw_lconst (pc := 216) C (v := 1) dX11_on_216 rfl <|
    aw_iload (pc := 217) C (i := 5) dX11_on_217 rfl <|
    aw_lshl (pc := 219) C dX11_on_219 <|
    aw_iload_n (pc := 220) C (i := 2) dX11_on_220 rfl rfl <|
    aw_callF (pc := 221) C (cr_S (rest := []) (F := (X11_partOf v6 (shl64 1 v5) v2)) C (c_X11_partOf X.2.1 v6 (shl64 1 v5) v2) dX11_on_221 mf_X11_partOf ml_X11_250 st_X11_partOf ⟨(Nat.le_of_ble_eq_true rfl), (Nat.le_of_ble_eq_true rfl)⟩ rfl rfl (Nat.le_of_ble_eq_true rfl)) rfl rfl rfl (Nat.zero_le _) (Nat.zero_le _) fun r9 h10 =>
    aw_lret (pc := 224) C dX11_on_224 rfl rfl) (fun _ =>
    aw_aload_n (pc := 123) C (i := 0) dX11_on_123 rfl rfl <|
    aw_iconst (pc := 124) C (v := 0) dX11_on_124 rfl <|
    aw_aload_n (pc := 125) C (i := 0) dX11_on_125 rfl rfl <|
    aw_getI (pc := 126) C dX11_on_126 fl_X11_147 sR_0 rfl <|
    aw_callF (pc := 129) C (cr_V (rest := []) (F := (X11_findBest 0 (h.1 0 16))) C (c_X11_findBest X.2.1 0 (h.1 0 16)) dX11_on_129 mf_X11_findBest ml_X11_213 im_X11_findBest se_X11_findBest sR_0 rfl ⟨(Nat.le_of_ble_eq_true rfl), (Nat.le_of_ble_eq_true rfl)⟩ rfl rfl (Nat.le_of_ble_eq_true rfl)) rfl rfl rfl (Nat.zero_le _) (Nat.zero_le _) fun _ h12 =>
    aw_iconst (pc := 132) C (v := 0) dX11_on_132 rfl <|
    aw_istore (pc := 133) C (i := 9) (lv' := [(0, .ref 0), (1, .int v1), (2, .int v2), (4, .int v4), (5, .int v5), (6, .long v6), (8, .int v8), (9, .int 0)]) dX11_on_133 (by decide) rfl <|
    (aX11_on_l135 C v1 v2 v4 v5 v6 v8 (X11_on_l114 v1 v2 v4 v5 n) ih FU 0 h12))
def X11_on_l74  (v1 : Int32) (v2 : Int32) (v4 : Int32) (v5 : Int32) : Nat → Int32 → AH → Option (Int64 × AH)
  | 0, _, _ => none
  | n + 1, v6, h =>
    if (h.1 0 15) ≤ v6 then (X11_on_l114 v1 v2 v4 v5 FU 0 0 h)
    else (bd (X11_meanParts v6 h) fun r24 h25 =>
    bd (X11_allWays h25) fun r26 h27 =>
    if r26 = 0 then none else (ck v6 4 (vl (sI h27 24 v6.toNatClampNeg ((r24 / r26).toInt32)) fun h28 =>
    vl (v6 + 1) fun x29 =>
    (X11_on_l74 v1 v2 v4 v5 n) x29 h28)))
set_option maxRecDepth 100000 in
theorem aX11_on_l74 {X : MCx} {yd : Dyn} {A : Nat → Prop} (C : OK X cX11_on RX11 10 (some .long) rmX11_on A)  (v1 : Int32) (v2 : Int32) (v4 : Int32) (v5 : Int32) : ∀ (n : Nat) (v6 : Int32) (h : AH), AW X 10 ZR yd A 0 0 (QF X rmX11_on ZR yd rvL A) 74 [(0, .ref 0), (1, .int v1), (2, .int v2), (4, .int v4), (5, .int v5), (6, .int v6)] [] h (X11_on_l74 v1 v2 v4 v5 n v6 h) := by
  intro n
  induction n with
  | zero => intro v6 h; exact aw_none
  | succ n ih =>
    intro v6 h
    exact aw_iload (pc := 74) C (i := 6) dX11_on_74 rfl <|
    aw_aload_n (pc := 76) C (i := 0) dX11_on_76 rfl rfl <|
    aw_getI (pc := 77) C dX11_on_77 fl_X11_105 sR_0 rfl <|
    aw_icmp_ge (pc := 80) C (tgt := 108) dX11_on_80 rfl (fun _ =>
    aw_lconst (pc := 108) C (v := 0) dX11_on_108 rfl <|
    aw_lstore (pc := 109) C (i := 6) (lv' := [(0, .ref 0), (1, .int v1), (2, .int v2), (4, .int v4), (5, .int v5), (6, .long 0)]) dX11_on_109 (by decide) rfl <|
    aw_iconst (pc := 111) C (v := 0) dX11_on_111 rfl <|
    aw_istore (pc := 112) C (i := 8) (lv' := [(0, .ref 0), (1, .int v1), (2, .int v2), (4, .int v4), (5, .int v5), (6, .long 0), (8, .int 0)]) dX11_on_112 (by decide) rfl <|
    (aX11_on_l114 C v1 v2 v4 v5 FU 0 0 h)) (fun _ =>
    aw_aload_n (pc := 83) C (i := 0) dX11_on_83 rfl rfl <|
    aw_getR (pc := 84) C (b := 24) dX11_on_84 fl_X11_80 sR_0 rfl rR_0_35 <|
    aw_iload (pc := 87) C (i := 6) dX11_on_87 rfl <|
    aw_aload_n (pc := 89) C (i := 0) dX11_on_89 rfl rfl <|
    aw_iload (pc := 90) C (i := 6) dX11_on_90 rfl <|
    aw_callF (pc := 92) C (cr_V (rest := [.int v6, .ref 24]) (F := (X11_meanParts v6)) C (c_X11_meanParts X.2.1 v6) dX11_on_92 mf_X11_meanParts ml_X11_254 im_X11_meanParts se_X11_meanParts sR_0 rfl ⟨(Nat.le_of_ble_eq_true rfl), (Nat.le_of_ble_eq_true rfl)⟩ rfl rfl (Nat.le_of_ble_eq_true rfl)) rfl rfl rfl (Nat.zero_le _) (Nat.zero_le _) fun r24 h25 =>
    aw_aload_n (pc := 95) C (i := 0) dX11_on_95 rfl rfl <|
    aw_callF (pc := 96) C (cr_V (rest := [.long r24, .int v6, .ref 24]) (F := X11_allWays) C (c_X11_allWays X.2.1 ) dX11_on_96 mf_X11_allWays ml_X11_246 im_X11_allWays se_X11_allWays sR_0 rfl ⟨(Nat.le_of_ble_eq_true rfl), (Nat.le_of_ble_eq_true rfl)⟩ rfl rfl (Nat.le_of_ble_eq_true rfl)) rfl rfl rfl (Nat.zero_le _) (Nat.zero_le _) fun r26 h27 =>
    aw_ldiv (pc := 99) C dX11_on_99 <|
    aw_l2i (pc := 100) C dX11_on_100 <|
    aw_iast (pc := 101) C dX11_on_101 sR_24 rfl fun h28 =>
    aw_iincV (pc := 102) C (i := 6) (cst := 1) (fun x29 => [(0, .ref 0), (1, .int v1), (2, .int v2), (4, .int v4), (5, .int v5), (6, .int x29)]) dX11_on_102 rfl rfl (by decide) (fun _ => rfl) fun x29 =>
    aw_goto (pc := 105) C (tgt := 74) dX11_on_105 rfl <|
    (ih x29 h28))
def X11_on_j40  (v1 : Int32) (v2 : Int32) (s0 : Int32) (h : AH) : Option (Int64 × AH) :=
    if s0 = 0 then (if (h.1 0 15) = 0 then none else (vl (rm32 (h.1 0 16) (h.1 0 15)) fun x7 =>
    vl ((h.1 0 15) - x7) fun x8 =>
    X11_on_l74 v1 v2 x7 x8 FU 0 h))
    else (bd (X11_lowest s0 h) fun r30 h31 =>
    some (r30, h31))
set_option maxRecDepth 100000 in
theorem aX11_on_j40 {X : MCx} {yd : Dyn} {A : Nat → Prop} (C : OK X cX11_on RX11 10 (some .long) rmX11_on A)  (v1 : Int32) (v2 : Int32) (s0 : Int32) (h : AH) : AW X 10 ZR yd A 0 0 (QF X rmX11_on ZR yd rvL A) 40 [(0, .ref 0), (1, .int v1), (2, .int v2)] [.int s0] h (X11_on_j40 v1 v2 s0 h) := by
    exact aw_istore_n (pc := 40) C (i := 3) (lv' := [(0, .ref 0), (1, .int v1), (2, .int v2), (3, .int s0)]) dX11_on_40 rfl (by decide) rfl <|
    aw_iload_n (pc := 41) C (i := 3) dX11_on_41 rfl rfl <|
    aw_if_eq (pc := 42) C (tgt := 51) dX11_on_42 rfl (fun _ =>
    aw_aload_n (pc := 51) C (i := 0) dX11_on_51 rfl rfl <|
    aw_getI (pc := 52) C dX11_on_52 fl_X11_147 sR_0 rfl <|
    aw_aload_n (pc := 55) C (i := 0) dX11_on_55 rfl rfl <|
    aw_getI (pc := 56) C dX11_on_56 fl_X11_105 sR_0 rfl <|
    aw_irem (pc := 59) C dX11_on_59 <|
    aw_istoreV (pc := 60) C (i := 4) (fun x7 => [(0, .ref 0), (1, .int v1), (2, .int v2), (3, .int s0), (4, .int x7)]) dX11_on_60 (by decide) (fun _ => rfl) fun x7 =>
    aw_aload_n (pc := 62) C (i := 0) dX11_on_62 rfl rfl <|
    aw_getI (pc := 63) C dX11_on_63 fl_X11_105 sR_0 rfl <|
    aw_iload (pc := 66) C (i := 4) dX11_on_66 rfl <|
    aw_isub (pc := 68) C dX11_on_68 <|
    aw_istoreV (pc := 69) C (i := 5) (fun x8 => [(0, .ref 0), (1, .int v1), (2, .int v2), (3, .int s0), (4, .int x7), (5, .int x8)]) dX11_on_69 (by decide) (fun _ => rfl) fun x8 =>
    aw_iconst (pc := 71) C (v := 0) dX11_on_71 rfl <|
    aw_istore (pc := 72) C (i := 6) (lv' := [(0, .ref 0), (1, .int v1), (2, .int v2), (3, .int s0), (4, .int x7), (5, .int x8), (6, .int 0)]) dX11_on_72 (by decide) rfl <|
    aw_drop [0, 1, 2, 4, 5, 6] (aX11_on_l74 C v1 v2 x7 x8 FU 0 h)) (fun _ =>
    aw_aload_n (pc := 45) C (i := 0) dX11_on_45 rfl rfl <|
    aw_iload_n (pc := 46) C (i := 3) dX11_on_46 rfl rfl <|
    aw_callF (pc := 47) C (cr_V (rest := []) (F := (X11_lowest s0)) C (c_X11_lowest X.2.1 s0) dX11_on_47 mf_X11_lowest ml_X11_238 im_X11_lowest se_X11_lowest sR_0 rfl ⟨(Nat.le_of_ble_eq_true rfl), (Nat.le_of_ble_eq_true rfl)⟩ rfl rfl (Nat.le_of_ble_eq_true rfl)) rfl rfl rfl (Nat.zero_le _) (Nat.zero_le _) fun r30 h31 =>
    aw_lret (pc := 50) C dX11_on_50 rfl rfl)
def X11_on (v1 : Int32) (v2 : Int32) (h : AH) : Option (Int64 × AH) :=
    bd (X11_isJumper v1 h) fun r1 h2 =>
    if r1 = 0 then (X11_on_j40 v1 v2 (-1) h2)
    else (bd (X11_isIn v2 0 1 h2) fun r3 h4 =>
    if r3 = 0 then (X11_on_j40 v1 v2 (-2) h4)
    else (bd (X11_roundNow h4) fun r5 h6 =>
    if r5 ≤ 2 then (X11_on_j40 v1 v2 0 h6)
    else (X11_on_j40 v1 v2 (-3) h6)))
set_option maxRecDepth 100000 in
theorem c_X11_on (l : Launch) (v1 : Int32) (v2 : Int32) : MC l yX11_on cX11_on 10 (some .long) rmX11_on ZR [.ref 0, .int v1, .int v2] rvL (X11_on v1 v2) :=
  MC.of (own := RX11) (by decide +kernel) rfl (Nat.le_of_ble_eq_true rfl) fun X yd A h _ C =>
    aw_aload_n (pc := 0) C (i := 0) dX11_on_0 rfl rfl <|
    aw_iload_n (pc := 1) C (i := 1) dX11_on_1 rfl rfl <|
    aw_callF (pc := 2) C (cr_V (rest := []) (F := (X11_isJumper v1)) C (c_X11_isJumper X.2.1 v1) dX11_on_2 mf_X11_isJumper ml_X11_207 im_X11_isJumper se_X11_isJumper sR_0 rfl ⟨(Nat.le_of_ble_eq_true rfl), (Nat.le_of_ble_eq_true rfl)⟩ rfl rfl (Nat.le_of_ble_eq_true rfl)) rfl rfl rfl (Nat.zero_le _) (Nat.zero_le _) fun r1 h2 =>
    aw_if_ne (pc := 5) C (tgt := 12) dX11_on_5 rfl (fun _ =>
    aw_iconst (pc := 8) C (v := (-1)) dX11_on_8 rfl <|
    aw_goto (pc := 9) C (tgt := 40) dX11_on_9 rfl <|
    (aX11_on_j40 C v1 v2 (-1) h2)) (fun _ =>
    aw_iload_n (pc := 12) C (i := 2) dX11_on_12 rfl rfl <|
    aw_iconst (pc := 13) C (v := 0) dX11_on_13 rfl <|
    aw_iconst (pc := 14) C (v := 1) dX11_on_14 rfl <|
    aw_callF (pc := 15) C (cr_S (rest := []) (F := (X11_isIn v2 0 1)) C (c_X11_isIn X.2.1 v2 0 1) dX11_on_15 mf_X11_isIn ml_X11_126 st_X11_isIn ⟨(Nat.le_of_ble_eq_true rfl), (Nat.le_of_ble_eq_true rfl)⟩ rfl rfl (Nat.le_of_ble_eq_true rfl)) rfl rfl rfl (Nat.zero_le _) (Nat.zero_le _) fun r3 h4 =>
    aw_if_ne (pc := 18) C (tgt := 26) dX11_on_18 rfl (fun _ =>
    aw_bipush (pc := 21) C (v := (-2)) dX11_on_21 rfl <|
    aw_goto (pc := 23) C (tgt := 40) dX11_on_23 rfl <|
    (aX11_on_j40 C v1 v2 (-2) h4)) (fun _ =>
    aw_aload_n (pc := 26) C (i := 0) dX11_on_26 rfl rfl <|
    aw_callF (pc := 27) C (cr_V (rest := []) (F := X11_roundNow) C (c_X11_roundNow X.2.1 ) dX11_on_27 mf_X11_roundNow ml_X11_301 im_X11_roundNow se_X11_roundNow sR_0 rfl ⟨(Nat.le_of_ble_eq_true rfl), (Nat.le_of_ble_eq_true rfl)⟩ rfl rfl (Nat.le_of_ble_eq_true rfl)) rfl rfl rfl (Nat.zero_le _) (Nat.zero_le _) fun r5 h6 =>
    aw_iconst (pc := 30) C (v := 2) dX11_on_30 rfl <|
    aw_icmp_le (pc := 31) C (tgt := 39) dX11_on_31 rfl (fun _ =>
    aw_iconst (pc := 39) C (v := 0) dX11_on_39 rfl <|
    (aX11_on_j40 C v1 v2 0 h6)) (fun _ =>
    aw_bipush (pc := 34) C (v := (-3)) dX11_on_34 rfl <|
    aw_goto (pc := 36) C (tgt := 40) dX11_on_36 rfl <|
    (aX11_on_j40 C v1 v2 (-3) h6))))

abbrev rmX11_row : Room := { frames := 1, cells := 0, slots := 0, locals := 22 }
def X11_row_j24  (v1 : Int32) (v2 : Int32) (h : AH) : Option (Int32 × AH) :=
    if v2 = 0 then (ck (h.1 0 34) 12 (vl (sI h 23 (h.1 0 34).toNatClampNeg v1) fun h3 =>
    vl (sI h3 0 34 ((h3.1 0 34) + 1)) fun h4 =>
    some ((h4.1 0 34), h4)))
    else (bd (X11_no v2 h) fun r5 h6 =>
    some (r5, h6))
set_option maxRecDepth 100000 in
theorem aX11_row_j24 {X : MCx} {yd : Dyn} {A : Nat → Prop} (C : OK X cX11_row RX11 3 (some .int) rmX11_row A)  (v1 : Int32) (v2 : Int32) (h : AH) : AW X 3 ZR yd A 0 0 (QF X rmX11_row ZR yd rvI A) 24 [(0, .ref 0), (1, .int v1), (2, .int v2)] [] h (X11_row_j24 v1 v2 h) := by
    exact aw_iload_n (pc := 24) C (i := 2) dX11_row_24 rfl rfl <|
    aw_if_eq (pc := 25) C (tgt := 34) dX11_row_25 rfl (fun _ =>
    aw_aload_n (pc := 34) C (i := 0) dX11_row_34 rfl rfl <|
    aw_getR (pc := 35) C (b := 23) dX11_row_35 fl_X11_77 sR_0 rfl rR_0_33 <|
    aw_aload_n (pc := 38) C (i := 0) dX11_row_38 rfl rfl <|
    aw_getI (pc := 39) C dX11_row_39 fl_X11_295 sR_0 rfl <|
    aw_iload_n (pc := 42) C (i := 1) dX11_row_42 rfl rfl <|
    aw_iast (pc := 43) C dX11_row_43 sR_23 rfl fun h3 =>
    aw_aload_n (pc := 44) C (i := 0) dX11_row_44 rfl rfl <|
    aw_dup (pc := 45) C dX11_row_45 rfl <|
    aw_getI (pc := 46) C dX11_row_46 fl_X11_295 sR_0 rfl <|
    aw_iconst (pc := 49) C (v := 1) dX11_row_49 rfl <|
    aw_iadd (pc := 50) C dX11_row_50 <|
    aw_putI (pc := 51) C dX11_row_51 fp_X11_295 sR_0 rfl fun h4 =>
    aw_aload_n (pc := 54) C (i := 0) dX11_row_54 rfl rfl <|
    aw_getI (pc := 55) C dX11_row_55 fl_X11_295 sR_0 rfl <|
    aw_iret (pc := 58) C dX11_row_58 rfl rfl) (fun _ =>
    aw_aload_n (pc := 28) C (i := 0) dX11_row_28 rfl rfl <|
    aw_iload_n (pc := 29) C (i := 2) dX11_row_29 rfl rfl <|
    aw_callF (pc := 30) C (cr_V (rest := []) (F := (X11_no v2)) C (c_X11_no X.2.1 v2) dX11_row_30 mf_X11_no ml_X11_115 im_X11_no se_X11_no sR_0 rfl ⟨(Nat.le_of_ble_eq_true rfl), (Nat.le_of_ble_eq_true rfl)⟩ rfl rfl (Nat.le_of_ble_eq_true rfl)) rfl rfl rfl (Nat.zero_le _) (Nat.zero_le _) fun r5 h6 =>
    aw_iret (pc := 33) C dX11_row_33 rfl rfl)
def X11_row (v1 : Int32) (h : AH) : Option (Int32 × AH) :=
    bd (X11_bound v1 0 99 h) fun r1 h2 =>
    if r1 = 0 then (if (h2.1 0 34) = 12 then (vl (-6) fun x7 =>
    X11_row_j24 v1 x7 h2)
    else (X11_row_j24 v1 r1 h2))
    else (X11_row_j24 v1 r1 h2)
set_option maxRecDepth 100000 in
theorem c_X11_row (l : Launch) (v1 : Int32) : MC l yX11_row cX11_row 3 (some .int) rmX11_row ZR [.ref 0, .int v1] rvI (X11_row v1) :=
  MC.of (own := RX11) (by decide +kernel) rfl (Nat.le_of_ble_eq_true rfl) fun X yd A h _ C =>
    aw_iload_n (pc := 0) C (i := 1) dX11_row_0 rfl rfl <|
    aw_iconst (pc := 1) C (v := 0) dX11_row_1 rfl <|
    aw_bipush (pc := 2) C (v := 99) dX11_row_2 rfl <|
    aw_callF (pc := 4) C (cr_S (rest := []) (F := (X11_bound v1 0 99)) C (c_X11_bound X.2.1 v1 0 99) dX11_row_4 mf_X11_bound ml_X11_108 st_X11_bound ⟨(Nat.le_of_ble_eq_true rfl), (Nat.le_of_ble_eq_true rfl)⟩ rfl rfl (Nat.le_of_ble_eq_true rfl)) rfl rfl rfl (Nat.zero_le _) (Nat.zero_le _) fun r1 h2 =>
    aw_istore_n (pc := 7) C (i := 2) (lv' := [(0, .ref 0), (1, .int v1), (2, .int r1)]) dX11_row_7 rfl (by decide) rfl <|
    aw_iload_n (pc := 8) C (i := 2) dX11_row_8 rfl rfl <|
    aw_if_ne (pc := 9) C (tgt := 24) dX11_row_9 rfl (fun _ =>
    aw_aload_n (pc := 12) C (i := 0) dX11_row_12 rfl rfl <|
    aw_getI (pc := 13) C dX11_row_13 fl_X11_295 sR_0 rfl <|
    aw_bipush (pc := 16) C (v := 12) dX11_row_16 rfl <|
    aw_icmp_ne (pc := 18) C (tgt := 24) dX11_row_18 rfl (fun _ =>
    aw_bipush (pc := 21) C (v := (-6)) dX11_row_21 rfl <|
    aw_istoreV_n (pc := 23) C (i := 2) (fun x7 => [(0, .ref 0), (1, .int v1), (2, .int x7)]) dX11_row_23 rfl (by decide) (fun _ => rfl) fun x7 =>
    (aX11_row_j24 C v1 x7 h2)) (fun _ =>
    (aX11_row_j24 C v1 r1 h2))) (fun _ =>
    (aX11_row_j24 C v1 r1 h2))

abbrev rmX11_isOther : Room := { frames := 6, cells := 0, slots := 0, locals := 130 }
def X11_isOther_j34  (v1 : Int32) (v3 : Int32) (s0 : Int32) (s1 : Int32) (h : AH) : Option (Int32 × AH) :=
    bd (X11_putsTry s1 s0 v1 h) fun _ h8 =>
    bd (X11_leader h8) fun r9 h10 =>
    if r9 = v3 then (cz 0 (some (0, h10)))
    else (cz 1 (some (1, h10)))
set_option maxRecDepth 100000 in
theorem aX11_isOther_j34 {X : MCx} {yd : Dyn} {A : Nat → Prop} (C : OK X cX11_isOther RX11 4 (some .boolean) rmX11_isOther A)  (v1 : Int32) (v3 : Int32) (s0 : Int32) (s1 : Int32) (h : AH) : AW X 4 ZR yd A 0 0 (QF X rmX11_isOther ZR yd rvI A) 34 [(0, .ref 0), (1, .int v1), (3, .int v3)] [.int s0, .int s1, .ref 0] h (X11_isOther_j34 v1 v3 s0 s1 h) := by
    exact aw_iload_n (pc := 34) C (i := 1) dX11_isOther_34 rfl rfl <|
    aw_callF (pc := 35) C (cr_V (rest := []) (F := (X11_putsTry s1 s0 v1)) C (c_X11_putsTry X.2.1 s1 s0 v1) dX11_isOther_35 mf_X11_putsTry ml_X11_153 im_X11_putsTry se_X11_putsTry sR_0 rfl ⟨(Nat.le_of_ble_eq_true rfl), (Nat.le_of_ble_eq_true rfl)⟩ rfl rfl (Nat.le_of_ble_eq_true rfl)) rfl rfl rfl (Nat.zero_le _) (Nat.zero_le _) fun _ h8 =>
    aw_aload_n (pc := 38) C (i := 0) dX11_isOther_38 rfl rfl <|
    aw_callF (pc := 39) C (cr_V (rest := []) (F := X11_leader) C (c_X11_leader X.2.1 ) dX11_isOther_39 mf_X11_leader ml_X11_283 im_X11_leader se_X11_leader sR_0 rfl ⟨(Nat.le_of_ble_eq_true rfl), (Nat.le_of_ble_eq_true rfl)⟩ rfl rfl (Nat.le_of_ble_eq_true rfl)) rfl rfl rfl (Nat.zero_le _) (Nat.zero_le _) fun r9 h10 =>
    aw_iload_n (pc := 42) C (i := 3) dX11_isOther_42 rfl rfl <|
    aw_icmp_eq (pc := 43) C (tgt := 50) dX11_isOther_43 rfl (fun _ =>
    aw_iconst (pc := 50) C (v := 0) dX11_isOther_50 rfl <|
    aw_zret (pc := 51) C dX11_isOther_51 rfl rfl) (fun _ =>
    aw_iconst (pc := 46) C (v := 1) dX11_isOther_46 rfl <|
    aw_goto (pc := 47) C (tgt := 51) dX11_isOther_47 rfl <|
    aw_zret (pc := 51) C dX11_isOther_51 rfl rfl)
def X11_isOther (v1 : Int32) (h : AH) : Option (Int32 × AH) :=
    bd (X11_turnNow h) fun r1 h2 =>
    if 0 ≤ r1 then (bd (X11_leader h2) fun r3 h4 =>
    if 0 ≤ v1 then (bd (X11_lengthOf r1 v1 0 h4) fun r5 h6 =>
    X11_isOther_j34 v1 r3 r5 r1 h6)
    else (X11_isOther_j34 v1 r3 (-9) r1 h4))
    else (cz 1 (some (1, h2)))
set_option maxRecDepth 100000 in
theorem c_X11_isOther (l : Launch) (v1 : Int32) : MC l yX11_isOther cX11_isOther 4 (some .boolean) rmX11_isOther ZR [.ref 0, .int v1] rvI (X11_isOther v1) :=
  MC.of (own := RX11) (by decide +kernel) rfl (Nat.le_of_ble_eq_true rfl) fun X yd A h _ C =>
    aw_aload_n (pc := 0) C (i := 0) dX11_isOther_0 rfl rfl <|
    aw_callF (pc := 1) C (cr_V (rest := []) (F := X11_turnNow) C (c_X11_turnNow X.2.1 ) dX11_isOther_1 mf_X11_turnNow ml_X11_150 im_X11_turnNow se_X11_turnNow sR_0 rfl ⟨(Nat.le_of_ble_eq_true rfl), (Nat.le_of_ble_eq_true rfl)⟩ rfl rfl (Nat.le_of_ble_eq_true rfl)) rfl rfl rfl (Nat.zero_le _) (Nat.zero_le _) fun r1 h2 =>
    aw_istore_n (pc := 4) C (i := 2) (lv' := [(0, .ref 0), (1, .int v1), (2, .int r1)]) dX11_isOther_4 rfl (by decide) rfl <|
    aw_iload_n (pc := 5) C (i := 2) dX11_isOther_5 rfl rfl <|
    aw_if_ge (pc := 6) C (tgt := 11) dX11_isOther_6 rfl (fun _ =>
    aw_aload_n (pc := 11) C (i := 0) dX11_isOther_11 rfl rfl <|
    aw_callF (pc := 12) C (cr_V (rest := []) (F := X11_leader) C (c_X11_leader X.2.1 ) dX11_isOther_12 mf_X11_leader ml_X11_283 im_X11_leader se_X11_leader sR_0 rfl ⟨(Nat.le_of_ble_eq_true rfl), (Nat.le_of_ble_eq_true rfl)⟩ rfl rfl (Nat.le_of_ble_eq_true rfl)) rfl rfl rfl (Nat.zero_le _) (Nat.zero_le _) fun r3 h4 =>
    aw_istore_n (pc := 15) C (i := 3) (lv' := [(0, .ref 0), (1, .int v1), (2, .int r1), (3, .int r3)]) dX11_isOther_15 rfl (by decide) rfl <|
    aw_aload_n (pc := 16) C (i := 0) dX11_isOther_16 rfl rfl <|
    aw_iload_n (pc := 17) C (i := 2) dX11_isOther_17 rfl rfl <|
    aw_iload_n (pc := 18) C (i := 1) dX11_isOther_18 rfl rfl <|
    aw_if_ge (pc := 19) C (tgt := 27) dX11_isOther_19 rfl (fun _ =>
    aw_aload_n (pc := 27) C (i := 0) dX11_isOther_27 rfl rfl <|
    aw_iload_n (pc := 28) C (i := 2) dX11_isOther_28 rfl rfl <|
    aw_iload_n (pc := 29) C (i := 1) dX11_isOther_29 rfl rfl <|
    aw_iconst (pc := 30) C (v := 0) dX11_isOther_30 rfl <|
    aw_callF (pc := 31) C (cr_V (rest := [.int r1, .ref 0]) (F := (X11_lengthOf r1 v1 0)) C (c_X11_lengthOf X.2.1 r1 v1 0) dX11_isOther_31 mf_X11_lengthOf ml_X11_163 im_X11_lengthOf se_X11_lengthOf sR_0 rfl ⟨(Nat.le_of_ble_eq_true rfl), (Nat.le_of_ble_eq_true rfl)⟩ rfl rfl (Nat.le_of_ble_eq_true rfl)) rfl rfl rfl (Nat.zero_le _) (Nat.zero_le _) fun r5 h6 =>
    aw_drop [0, 1, 3] (aX11_isOther_j34 C v1 r3 r5 r1 h6)) (fun _ =>
    aw_bipush (pc := 22) C (v := (-9)) dX11_isOther_22 rfl <|
    aw_goto (pc := 24) C (tgt := 34) dX11_isOther_24 rfl <|
    aw_drop [0, 1, 3] (aX11_isOther_j34 C v1 r3 (-9) r1 h4))) (fun _ =>
    aw_iconst (pc := 9) C (v := 1) dX11_isOther_9 rfl <|
    aw_zret (pc := 10) C dX11_isOther_10 rfl rfl)

abbrev rmX11_judge : Room := { frames := 7, cells := 0, slots := 0, locals := 153 }
def X11_judge_j62  (v2 : Int32) (v3 : Int32) (h : AH) : Option (Int32 × AH) :=
    vl (sI h 0 16 v2) fun h5 =>
    some (v3, h5)
set_option maxRecDepth 100000 in
theorem aX11_judge_j62 {X : MCx} {yd : Dyn} {A : Nat → Prop} (C : OK X cX11_judge RX11 5 (some .int) rmX11_judge A)  (v2 : Int32) (v3 : Int32) (h : AH) : AW X 5 ZR yd A 0 0 (QF X rmX11_judge ZR yd rvI A) 62 [(0, .ref 0), (2, .int v2), (3, .int v3)] [] h (X11_judge_j62 v2 v3 h) := by
    exact aw_aload_n (pc := 62) C (i := 0) dX11_judge_62 rfl rfl <|
    aw_iload_n (pc := 63) C (i := 2) dX11_judge_63 rfl rfl <|
    aw_putI (pc := 64) C dX11_judge_64 fp_X11_147 sR_0 rfl fun h5 =>
    aw_iload_n (pc := 67) C (i := 3) dX11_judge_67 rfl rfl <|
    aw_iret (pc := 68) C dX11_judge_68 rfl rfl
def X11_judge_j55  (v1 : Int32) (v2 : Int32) (v4 : Int32) (K21 : Int32 → Int32 → AH → Option (Int32 × AH)) (s0 : Int32) (h : AH) : Option (Int32 × AH) :=
    vl (v4 + 1) fun x8 =>
    K21 s0 x8 h
set_option maxRecDepth 100000 in
theorem aX11_judge_j55 {X : MCx} {yd : Dyn} {A : Nat → Prop} (C : OK X cX11_judge RX11 5 (some .int) rmX11_judge A)  (v1 : Int32) (v2 : Int32) (v4 : Int32) (K21 : Int32 → Int32 → AH → Option (Int32 × AH)) (hK21 : ∀ (w3 : Int32) (w4 : Int32) (h : AH), AW X 5 ZR yd A 0 0 (QF X rmX11_judge ZR yd rvI A) 21 [(0, .ref 0), (1, .int v1), (2, .int v2), (3, .int w3), (4, .int w4)] [] h (K21 w3 w4 h)) (s0 : Int32) (h : AH) : AW X 5 ZR yd A 0 0 (QF X rmX11_judge ZR yd rvI A) 55 [(0, .ref 0), (1, .int v1), (2, .int v2), (4, .int v4)] [.int s0] h (X11_judge_j55 v1 v2 v4 K21 s0 h) := by
    exact aw_istore_n (pc := 55) C (i := 3) (lv' := [(0, .ref 0), (1, .int v1), (2, .int v2), (3, .int s0), (4, .int v4)]) dX11_judge_55 rfl (by decide) rfl <|
    aw_iincV (pc := 56) C (i := 4) (cst := 1) (fun x8 => [(0, .ref 0), (1, .int v1), (2, .int v2), (3, .int s0), (4, .int x8)]) dX11_judge_56 rfl rfl (by decide) (fun _ => rfl) fun x8 =>
    aw_goto (pc := 59) C (tgt := 21) dX11_judge_59 rfl <|
    (hK21 s0 x8 h)
def X11_judge_l21  (v1 : Int32) (v2 : Int32) : Nat → Int32 → Int32 → AH → Option (Int32 × AH)
  | 0, _, _, _ => none
  | n + 1, v3, v4, h =>
    if v1 ≤ v4 then (X11_judge_j62 v2 v3 h)
    else (if 0 ≤ v3 then (X11_judge_j62 v2 v3 h)
    else (ck v4 12 (bd (X11_isOther ((h.1 23 v4.toNatClampNeg) - 50) h) fun r6 h7 =>
    if r6 = 0 then (X11_judge_j55 v1 v2 v4 (X11_judge_l21 v1 v2 n) (-9) h7)
    else (X11_judge_j55 v1 v2 v4 (X11_judge_l21 v1 v2 n) v4 h7))))
set_option maxRecDepth 100000 in
theorem aX11_judge_l21 {X : MCx} {yd : Dyn} {A : Nat → Prop} (C : OK X cX11_judge RX11 5 (some .int) rmX11_judge A)  (v1 : Int32) (v2 : Int32) : ∀ (n : Nat) (v3 : Int32) (v4 : Int32) (h : AH), AW X 5 ZR yd A 0 0 (QF X rmX11_judge ZR yd rvI A) 21 [(0, .ref 0), (1, .int v1), (2, .int v2), (3, .int v3), (4, .int v4)] [] h (X11_judge_l21 v1 v2 n v3 v4 h) := by
  intro n
  induction n with
  | zero => intro v3 v4 h; exact aw_none
  | succ n ih =>
    intro v3 v4 h
    exact aw_iload (pc := 21) C (i := 4) dX11_judge_21 rfl <|
    aw_iload_n (pc := 23) C (i := 1) dX11_judge_23 rfl rfl <|
    aw_icmp_ge (pc := 24) C (tgt := 62) dX11_judge_24 rfl (fun _ =>
    aw_drop [0, 2, 3] (aX11_judge_j62 C v2 v3 h)) (fun _ =>
    aw_iload_n (pc := 27) C (i := 3) dX11_judge_27 rfl rfl <|
    aw_if_ge (pc := 28) C (tgt := 62) dX11_judge_28 rfl (fun _ =>
    aw_drop [0, 2, 3] (aX11_judge_j62 C v2 v3 h)) (fun _ =>
    aw_aload_n (pc := 31) C (i := 0) dX11_judge_31 rfl rfl <|
    aw_aload_n (pc := 32) C (i := 0) dX11_judge_32 rfl rfl <|
    aw_getR (pc := 33) C (b := 23) dX11_judge_33 fl_X11_77 sR_0 rfl rR_0_33 <|
    aw_iload (pc := 36) C (i := 4) dX11_judge_36 rfl <|
    aw_iald (pc := 38) C dX11_judge_38 sR_23 rfl <|
    aw_bipush (pc := 39) C (v := 50) dX11_judge_39 rfl <|
    aw_isub (pc := 41) C dX11_judge_41 <|
    aw_callF (pc := 42) C (cr_V (rest := []) (F := (X11_isOther ((h.1 23 v4.toNatClampNeg) - 50))) C (c_X11_isOther X.2.1 ((h.1 23 v4.toNatClampNeg) - 50)) dX11_judge_42 mf_X11_isOther ml_X11_304 im_X11_isOther se_X11_isOther sR_0 rfl ⟨(Nat.le_of_ble_eq_true rfl), (Nat.le_of_ble_eq_true rfl)⟩ rfl rfl (Nat.le_of_ble_eq_true rfl)) rfl rfl rfl (Nat.zero_le _) (Nat.zero_le _) fun r6 h7 =>
    aw_if_eq (pc := 45) C (tgt := 53) dX11_judge_45 rfl (fun _ =>
    aw_bipush (pc := 53) C (v := (-9)) dX11_judge_53 rfl <|
    aw_drop [0, 1, 2, 4] (aX11_judge_j55 C v1 v2 v4 (X11_judge_l21 v1 v2 n) ih (-9) h7)) (fun _ =>
    aw_iload (pc := 48) C (i := 4) dX11_judge_48 rfl <|
    aw_goto (pc := 50) C (tgt := 55) dX11_judge_50 rfl <|
    aw_drop [0, 1, 2, 4] (aX11_judge_j55 C v1 v2 v4 (X11_judge_l21 v1 v2 n) ih v4 h7))))
def X11_judge  (h : AH) : Option (Int32 × AH) :=
    vl (h.1 0 34) fun x1 =>
    vl (h.1 0 16) fun x2 =>
    vl (sI h 0 34 0) fun h3 =>
    vl (-9) fun x4 =>
    X11_judge_l21 x1 x2 FU x4 0 h3
set_option maxRecDepth 100000 in
theorem c_X11_judge (l : Launch)  : MC l yX11_judge cX11_judge 5 (some .int) rmX11_judge ZR [.ref 0] rvI (X11_judge) :=
  MC.of (own := RX11) (by decide +kernel) rfl (Nat.le_of_ble_eq_true rfl) fun X yd A h _ C =>
    aw_aload_n (pc := 0) C (i := 0) dX11_judge_0 rfl rfl <|
    aw_getI (pc := 1) C dX11_judge_1 fl_X11_295 sR_0 rfl <|
    aw_istoreV_n (pc := 4) C (i := 1) (fun x1 => [(0, .ref 0), (1, .int x1)]) dX11_judge_4 rfl (by decide) (fun _ => rfl) fun x1 =>
    aw_aload_n (pc := 5) C (i := 0) dX11_judge_5 rfl rfl <|
    aw_getI (pc := 6) C dX11_judge_6 fl_X11_147 sR_0 rfl <|
    aw_istoreV_n (pc := 9) C (i := 2) (fun x2 => [(0, .ref 0), (1, .int x1), (2, .int x2)]) dX11_judge_9 rfl (by decide) (fun _ => rfl) fun x2 =>
    aw_aload_n (pc := 10) C (i := 0) dX11_judge_10 rfl rfl <|
    aw_iconst (pc := 11) C (v := 0) dX11_judge_11 rfl <|
    aw_putI (pc := 12) C dX11_judge_12 fp_X11_295 sR_0 rfl fun h3 =>
    aw_bipush (pc := 15) C (v := (-9)) dX11_judge_15 rfl <|
    aw_istoreV_n (pc := 17) C (i := 3) (fun x4 => [(0, .ref 0), (1, .int x1), (2, .int x2), (3, .int x4)]) dX11_judge_17 rfl (by decide) (fun _ => rfl) fun x4 =>
    aw_iconst (pc := 18) C (v := 0) dX11_judge_18 rfl <|
    aw_istore (pc := 19) C (i := 4) (lv' := [(0, .ref 0), (1, .int x1), (2, .int x2), (3, .int x4), (4, .int 0)]) dX11_judge_19 (by decide) rfl <|
    (aX11_judge_l21 C x1 x2 FU x4 0 h3)

abbrev rmX11_clear : Room := { frames := 0, cells := 0, slots := 0, locals := 0 }
def X11_clear  (h : AH) : Option (Int32 × AH) :=
    vl (h.1 0 34) fun x1 =>
    vl (sI h 0 34 0) fun h2 =>
    some (x1, h2)
set_option maxRecDepth 100000 in
theorem c_X11_clear (l : Launch)  : MC l yX11_clear cX11_clear 2 (some .int) rmX11_clear ZR [.ref 0] rvI (X11_clear) :=
  MC.of (own := RX11) (by decide +kernel) rfl (Nat.le_of_ble_eq_true rfl) fun X yd A h _ C =>
    aw_aload_n (pc := 0) C (i := 0) dX11_clear_0 rfl rfl <|
    aw_getI (pc := 1) C dX11_clear_1 fl_X11_295 sR_0 rfl <|
    aw_istoreV_n (pc := 4) C (i := 1) (fun x1 => [(0, .ref 0), (1, .int x1)]) dX11_clear_4 rfl (by decide) (fun _ => rfl) fun x1 =>
    aw_aload_n (pc := 5) C (i := 0) dX11_clear_5 rfl rfl <|
    aw_iconst (pc := 6) C (v := 0) dX11_clear_6 rfl <|
    aw_putI (pc := 7) C dX11_clear_7 fp_X11_295 sR_0 rfl fun h2 =>
    aw_iload_n (pc := 10) C (i := 1) dX11_clear_10 rfl rfl <|
    aw_iret (pc := 11) C dX11_clear_11 rfl rfl

abbrev rmX11_partOfWays : Room := { frames := 1, cells := 0, slots := 0, locals := 20 }
def X11_partOfWays (v1 : Int64) (h : AH) : Option (Int64 × AH) :=
    bd (X11_allWays h) fun r1 h2 =>
    if r1 = 0 then none else (bd (X11_allWays h2) fun r3 h4 =>
    if r3 = 0 then none else (bd (X11_allWays h4) fun r5 h6 =>
    if r5 = 0 then none else (some ((((v1 / r1) * 10000) + (((rm64 v1 r3) * 10000) / r5)), h6))))
set_option maxRecDepth 100000 in
theorem c_X11_partOfWays (l : Launch) (v1 : Int64) : MC l yX11_partOfWays cX11_partOfWays 3 (some .long) rmX11_partOfWays ZR [.ref 0, .long v1] rvL (X11_partOfWays v1) :=
  MC.of (own := RX11) (by decide +kernel) rfl (Nat.le_of_ble_eq_true rfl) fun X yd A h _ C =>
    aw_lload_n (pc := 0) C (i := 1) dX11_partOfWays_0 rfl rfl <|
    aw_aload_n (pc := 1) C (i := 0) dX11_partOfWays_1 rfl rfl <|
    aw_callF (pc := 2) C (cr_V (rest := [.long v1]) (F := X11_allWays) C (c_X11_allWays X.2.1 ) dX11_partOfWays_2 mf_X11_allWays ml_X11_246 im_X11_allWays se_X11_allWays sR_0 rfl ⟨(Nat.le_of_ble_eq_true rfl), (Nat.le_of_ble_eq_true rfl)⟩ rfl rfl (Nat.le_of_ble_eq_true rfl)) rfl rfl rfl (Nat.zero_le _) (Nat.zero_le _) fun r1 h2 =>
    aw_ldiv (pc := 5) C dX11_partOfWays_5 <|
    aw_ldc2_w (pc := 6) C (v := 10000) dX11_partOfWays_6 kc_X11_289 <|
    aw_lmul (pc := 9) C dX11_partOfWays_9 <|
    aw_lload_n (pc := 10) C (i := 1) dX11_partOfWays_10 rfl rfl <|
    aw_aload_n (pc := 11) C (i := 0) dX11_partOfWays_11 rfl rfl <|
    aw_callF (pc := 12) C (cr_V (rest := [.long v1, .long ((v1 / r1) * 10000)]) (F := X11_allWays) C (c_X11_allWays X.2.1 ) dX11_partOfWays_12 mf_X11_allWays ml_X11_246 im_X11_allWays se_X11_allWays sR_0 rfl ⟨(Nat.le_of_ble_eq_true rfl), (Nat.le_of_ble_eq_true rfl)⟩ rfl rfl (Nat.le_of_ble_eq_true rfl)) rfl rfl rfl (Nat.zero_le _) (Nat.zero_le _) fun r3 h4 =>
    aw_lrem (pc := 15) C dX11_partOfWays_15 <|
    aw_ldc2_w (pc := 16) C (v := 10000) dX11_partOfWays_16 kc_X11_289 <|
    aw_lmul (pc := 19) C dX11_partOfWays_19 <|
    aw_aload_n (pc := 20) C (i := 0) dX11_partOfWays_20 rfl rfl <|
    aw_callF (pc := 21) C (cr_V (rest := [.long ((rm64 v1 r3) * 10000), .long ((v1 / r1) * 10000)]) (F := X11_allWays) C (c_X11_allWays X.2.1 ) dX11_partOfWays_21 mf_X11_allWays ml_X11_246 im_X11_allWays se_X11_allWays sR_0 rfl ⟨(Nat.le_of_ble_eq_true rfl), (Nat.le_of_ble_eq_true rfl)⟩ rfl rfl (Nat.le_of_ble_eq_true rfl)) rfl rfl rfl (Nat.zero_le _) (Nat.zero_le _) fun r5 h6 =>
    aw_ldiv (pc := 24) C dX11_partOfWays_24 <|
    aw_ladd (pc := 25) C dX11_partOfWays_25 <|
    aw_lret (pc := 26) C dX11_partOfWays_26 rfl rfl

abbrev rmX11_findLengths : Room := { frames := 2, cells := 0, slots := 0, locals := 45 }
def X11_findLengths_l207 (p3 : Nat) (n3 : Nat) : Nat → Int32 → AH → Option (Unit × AH)
  | 0, _, _ => none
  | n + 1, v5, h =>
    if 1000 ≤ v5 then (some ((), h))
    else (ck v5 n3 (bd (X11_partOfWays (h.2.1 p3 v5.toNatClampNeg) h) fun r6 h7 =>
    ck v5 n3 (vl (sL h7 p3 v5.toNatClampNeg r6) fun h8 =>
    vl (v5 + 1) fun x9 =>
    (X11_findLengths_l207 p3 n3 n) x9 h8)))
set_option maxRecDepth 100000 in
theorem aX11_findLengths_l207 {X : MCx} {yd : Dyn} {A : Nat → Prop} (C : OK X cX11_findLengths RX11 10 none rmX11_findLengths A) (p3 : Nat) (n3 : Nat) (hA3 : ZR.1[p3]? = some (.inl (1, 1, n3))) : ∀ (n : Nat) (v5 : Int32) (h : AH), AW X 10 ZR yd A 0 0 (QF X rmX11_findLengths ZR yd rvV A) 207 [(0, .ref 0), (3, .ref p3), (5, .int v5)] [] h (X11_findLengths_l207 p3 n3 n v5 h) := by
  intro n
  induction n with
  | zero => intro v5 h; exact aw_none
  | succ n ih =>
    intro v5 h
    exact aw_iload (pc := 207) C (i := 5) dX11_findLengths_207 rfl <|
    aw_sipush (pc := 209) C (v := 1000) dX11_findLengths_209 rfl <|
    aw_icmp_ge (pc := 212) C (tgt := 233) dX11_findLengths_212 rfl (fun _ =>
    aw_vret (pc := 233) C dX11_findLengths_233 rfl rfl) (fun _ =>
    aw_aload_n (pc := 215) C (i := 3) dX11_findLengths_215 rfl rfl <|
    aw_iload (pc := 216) C (i := 5) dX11_findLengths_216 rfl <|
    aw_aload_n (pc := 218) C (i := 0) dX11_findLengths_218 rfl rfl <|
    aw_aload_n (pc := 219) C (i := 3) dX11_findLengths_219 rfl rfl <|
    aw_iload (pc := 220) C (i := 5) dX11_findLengths_220 rfl <|
    aw_lald (pc := 222) C dX11_findLengths_222 hA3 rfl <|
    aw_callF (pc := 223) C (cr_V (rest := [.int v5, .ref p3]) (F := (X11_partOfWays (h.2.1 p3 v5.toNatClampNeg))) C (c_X11_partOfWays X.2.1 (h.2.1 p3 v5.toNatClampNeg)) dX11_findLengths_223 mf_X11_partOfWays ml_X11_307 im_X11_partOfWays se_X11_partOfWays sR_0 rfl ⟨(Nat.le_of_ble_eq_true rfl), (Nat.le_of_ble_eq_true rfl)⟩ rfl rfl (Nat.le_of_ble_eq_true rfl)) rfl rfl rfl (Nat.zero_le _) (Nat.zero_le _) fun r6 h7 =>
    aw_last (pc := 226) C dX11_findLengths_226 hA3 rfl fun h8 =>
    aw_iincV (pc := 227) C (i := 5) (cst := 1) (fun x9 => [(0, .ref 0), (3, .ref p3), (5, .int x9)]) dX11_findLengths_227 rfl rfl (by decide) (fun _ => rfl) fun x9 =>
    aw_goto (pc := 230) C (tgt := 207) dX11_findLengths_230 rfl <|
    (ih x9 h8))
def X11_findLengths_j198 (p3 : Nat) (n3 : Nat) (v1 : Int32) (v2 : Int32) (v4 : Int32) (v5 : Int32) (K56 : Int32 → AH → Option (Unit × AH)) (h : AH) : Option (Unit × AH) :=
    vl (v5 + 1) fun x18 =>
    K56 x18 h
set_option maxRecDepth 100000 in
theorem aX11_findLengths_j198 {X : MCx} {yd : Dyn} {A : Nat → Prop} (C : OK X cX11_findLengths RX11 10 none rmX11_findLengths A) (p3 : Nat) (n3 : Nat) (hA3 : ZR.1[p3]? = some (.inl (1, 1, n3))) (v1 : Int32) (v2 : Int32) (v4 : Int32) (v5 : Int32) (K56 : Int32 → AH → Option (Unit × AH)) (hK56 : ∀ (w5 : Int32) (h : AH), AW X 10 ZR yd A 0 0 (QF X rmX11_findLengths ZR yd rvV A) 56 [(0, .ref 0), (1, .int v1), (2, .int v2), (3, .ref p3), (4, .int v4), (5, .int w5)] [] h (K56 w5 h)) (h : AH) : AW X 10 ZR yd A 0 0 (QF X rmX11_findLengths ZR yd rvV A) 198 [(0, .ref 0), (1, .int v1), (2, .int v2), (3, .ref p3), (4, .int v4), (5, .int v5)] [] h (X11_findLengths_j198 p3 n3 v1 v2 v4 v5 K56 h) := by
    exact aw_iincV (pc := 198) C (i := 5) (cst := 1) (fun x18 => [(0, .ref 0), (1, .int v1), (2, .int v2), (3, .ref p3), (4, .int v4), (5, .int x18)]) dX11_findLengths_198 rfl rfl (by decide) (fun _ => rfl) fun x18 =>
    aw_goto (pc := 201) C (tgt := 56) dX11_findLengths_201 rfl <|
    (hK56 x18 h)
def X11_findLengths_j192 (p3 : Nat) (n3 : Nat) (v1 : Int32) (v2 : Int32) (v4 : Int32) (v5 : Int32) (v6 : Int64) (K56 : Int32 → AH → Option (Unit × AH)) (s0 : Int32) (h : AH) : Option (Unit × AH) :=
    ck s0 n3 (ck s0 n3 (vl (sL h p3 s0.toNatClampNeg ((h.2.1 p3 s0.toNatClampNeg) + v6)) fun h17 =>
    X11_findLengths_j198 p3 n3 v1 v2 v4 v5 K56 h17))
set_option maxRecDepth 100000 in
theorem aX11_findLengths_j192 {X : MCx} {yd : Dyn} {A : Nat → Prop} (C : OK X cX11_findLengths RX11 10 none rmX11_findLengths A) (p3 : Nat) (n3 : Nat) (hA3 : ZR.1[p3]? = some (.inl (1, 1, n3))) (v1 : Int32) (v2 : Int32) (v4 : Int32) (v5 : Int32) (v6 : Int64) (K56 : Int32 → AH → Option (Unit × AH)) (hK56 : ∀ (w5 : Int32) (h : AH), AW X 10 ZR yd A 0 0 (QF X rmX11_findLengths ZR yd rvV A) 56 [(0, .ref 0), (1, .int v1), (2, .int v2), (3, .ref p3), (4, .int v4), (5, .int w5)] [] h (K56 w5 h)) (s0 : Int32) (h : AH) : AW X 10 ZR yd A 0 0 (QF X rmX11_findLengths ZR yd rvV A) 192 [(0, .ref 0), (1, .int v1), (2, .int v2), (3, .ref p3), (4, .int v4), (5, .int v5), (6, .long v6)] [.int s0, .ref p3] h (X11_findLengths_j192 p3 n3 v1 v2 v4 v5 v6 K56 s0 h) := by
    exact aw_dup2 (pc := 192) C dX11_findLengths_192 rfl rfl <|
    aw_lald (pc := 193) C dX11_findLengths_193 hA3 rfl <|
    aw_lload (pc := 194) C (i := 6) dX11_findLengths_194 rfl <|
    aw_ladd (pc := 196) C dX11_findLengths_196 <|
    aw_last (pc := 197) C dX11_findLengths_197 hA3 rfl fun h17 =>
    aw_drop [0, 1, 2, 3, 4, 5] (aX11_findLengths_j198 C p3 n3 hA3 v1 v2 v4 v5 K56 hK56 h17)
def X11_findLengths_j187 (p3 : Nat) (n3 : Nat) (v1 : Int32) (v2 : Int32) (v4 : Int32) (v5 : Int32) (v6 : Int64) (K56 : Int32 → AH → Option (Unit × AH)) (s0 : Int32) (s1 : Int32) (s2 : Int32) (h : AH) : Option (Unit × AH) :=
    bd (X11_lengthOf s2 s1 (s0 / 4) h) fun r15 h16 =>
    X11_findLengths_j192 p3 n3 v1 v2 v4 v5 v6 K56 r15 h16
set_option maxRecDepth 100000 in
theorem aX11_findLengths_j187 {X : MCx} {yd : Dyn} {A : Nat → Prop} (C : OK X cX11_findLengths RX11 10 none rmX11_findLengths A) (p3 : Nat) (n3 : Nat) (hA3 : ZR.1[p3]? = some (.inl (1, 1, n3))) (v1 : Int32) (v2 : Int32) (v4 : Int32) (v5 : Int32) (v6 : Int64) (K56 : Int32 → AH → Option (Unit × AH)) (hK56 : ∀ (w5 : Int32) (h : AH), AW X 10 ZR yd A 0 0 (QF X rmX11_findLengths ZR yd rvV A) 56 [(0, .ref 0), (1, .int v1), (2, .int v2), (3, .ref p3), (4, .int v4), (5, .int w5)] [] h (K56 w5 h)) (s0 : Int32) (s1 : Int32) (s2 : Int32) (h : AH) : AW X 10 ZR yd A 0 0 (QF X rmX11_findLengths ZR yd rvV A) 187 [(0, .ref 0), (1, .int v1), (2, .int v2), (3, .ref p3), (4, .int v4), (5, .int v5), (6, .long v6)] [.int s0, .int s1, .int s2, .ref 0, .ref p3] h (X11_findLengths_j187 p3 n3 v1 v2 v4 v5 v6 K56 s0 s1 s2 h) := by
    exact aw_iconst (pc := 187) C (v := 4) dX11_findLengths_187 rfl <|
    aw_idivK (pc := 188) C dX11_findLengths_188 (by decide) <|
    aw_callF (pc := 189) C (cr_V (rest := [.ref p3]) (F := (X11_lengthOf s2 s1 (s0 / 4))) C (c_X11_lengthOf X.2.1 s2 s1 (s0 / 4)) dX11_findLengths_189 mf_X11_lengthOf ml_X11_163 im_X11_lengthOf se_X11_lengthOf sR_0 rfl ⟨(Nat.le_of_ble_eq_true rfl), (Nat.le_of_ble_eq_true rfl)⟩ rfl rfl (Nat.le_of_ble_eq_true rfl)) rfl rfl rfl (Nat.zero_le _) (Nat.zero_le _) fun r15 h16 =>
    (aX11_findLengths_j192 C p3 n3 hA3 v1 v2 v4 v5 v6 K56 hK56 r15 h16)
def X11_findLengths_j135 (p3 : Nat) (n3 : Nat) (v1 : Int32) (v2 : Int32) (v4 : Int32) (v5 : Int32) (v6 : Int64) (v8 : Int32) (K56 : Int32 → AH → Option (Unit × AH)) (s0 : Int32) (h : AH) : Option (Unit × AH) :=
    ck v1 4 (vl (v8 - (s0 + ((h.1 6 v1.toNatClampNeg) * ((rm32 v5 41) - 20)))) fun x14 =>
    if 0 ≤ x14 then (if 0 ≤ s0 then (X11_findLengths_j187 p3 n3 v1 v2 v4 v5 v6 K56 s0 x14 v1 h)
    else (X11_findLengths_j187 p3 n3 v1 v2 v4 v5 v6 K56 (-s0) x14 v1 h))
    else (X11_findLengths_j192 p3 n3 v1 v2 v4 v5 v6 K56 0 h))
set_option maxRecDepth 100000 in
theorem aX11_findLengths_j135 {X : MCx} {yd : Dyn} {A : Nat → Prop} (C : OK X cX11_findLengths RX11 10 none rmX11_findLengths A) (p3 : Nat) (n3 : Nat) (hA3 : ZR.1[p3]? = some (.inl (1, 1, n3))) (v1 : Int32) (v2 : Int32) (v4 : Int32) (v5 : Int32) (v6 : Int64) (v8 : Int32) (K56 : Int32 → AH → Option (Unit × AH)) (hK56 : ∀ (w5 : Int32) (h : AH), AW X 10 ZR yd A 0 0 (QF X rmX11_findLengths ZR yd rvV A) 56 [(0, .ref 0), (1, .int v1), (2, .int v2), (3, .ref p3), (4, .int v4), (5, .int w5)] [] h (K56 w5 h)) (s0 : Int32) (h : AH) : AW X 10 ZR yd A 0 0 (QF X rmX11_findLengths ZR yd rvV A) 135 [(0, .ref 0), (1, .int v1), (2, .int v2), (3, .ref p3), (4, .int v4), (5, .int v5), (6, .long v6), (8, .int v8)] [.int s0] h (X11_findLengths_j135 p3 n3 v1 v2 v4 v5 v6 v8 K56 s0 h) := by
    exact aw_istore (pc := 135) C (i := 9) (lv' := [(0, .ref 0), (1, .int v1), (2, .int v2), (3, .ref p3), (4, .int v4), (5, .int v5), (6, .long v6), (8, .int v8), (9, .int s0)]) dX11_findLengths_135 (by decide) rfl <|
    aw_iload (pc := 137) C (i := 8) dX11_findLengths_137 rfl <|
    aw_iload (pc := 139) C (i := 9) dX11_findLengths_139 rfl <|
    aw_aload_n (pc := 141) C (i := 0) dX11_findLengths_141 rfl rfl <|
    aw_getR (pc := 142) C (b := 6) dX11_findLengths_142 fl_X11_25 sR_0 rfl rR_0_5 <|
    aw_iload_n (pc := 145) C (i := 1) dX11_findLengths_145 rfl rfl <|
    aw_iald (pc := 146) C dX11_findLengths_146 sR_6 rfl <|
    aw_iload (pc := 147) C (i := 5) dX11_findLengths_147 rfl <|
    aw_bipush (pc := 149) C (v := 41) dX11_findLengths_149 rfl <|
    aw_iremK (pc := 151) C dX11_findLengths_151 (by decide) <|
    aw_bipush (pc := 152) C (v := 20) dX11_findLengths_152 rfl <|
    aw_isub (pc := 154) C dX11_findLengths_154 <|
    aw_imul (pc := 155) C dX11_findLengths_155 <|
    aw_iadd (pc := 156) C dX11_findLengths_156 <|
    aw_isub (pc := 157) C dX11_findLengths_157 <|
    aw_istoreV (pc := 158) C (i := 8) (fun x14 => [(0, .ref 0), (1, .int v1), (2, .int v2), (3, .ref p3), (4, .int v4), (5, .int v5), (6, .long v6), (8, .int x14), (9, .int s0)]) dX11_findLengths_158 (by decide) (fun _ => rfl) fun x14 =>
    aw_aload_n (pc := 160) C (i := 3) dX11_findLengths_160 rfl rfl <|
    aw_iload (pc := 161) C (i := 8) dX11_findLengths_161 rfl <|
    aw_if_ge (pc := 163) C (tgt := 170) dX11_findLengths_163 rfl (fun _ =>
    aw_aload_n (pc := 170) C (i := 0) dX11_findLengths_170 rfl rfl <|
    aw_iload_n (pc := 171) C (i := 1) dX11_findLengths_171 rfl rfl <|
    aw_iload (pc := 172) C (i := 8) dX11_findLengths_172 rfl <|
    aw_iload (pc := 174) C (i := 9) dX11_findLengths_174 rfl <|
    aw_if_ge (pc := 176) C (tgt := 185) dX11_findLengths_176 rfl (fun _ =>
    aw_iload (pc := 185) C (i := 9) dX11_findLengths_185 rfl <|
    aw_drop [0, 1, 2, 3, 4, 5, 6] (aX11_findLengths_j187 C p3 n3 hA3 v1 v2 v4 v5 v6 K56 hK56 s0 x14 v1 h)) (fun _ =>
    aw_iload (pc := 179) C (i := 9) dX11_findLengths_179 rfl <|
    aw_ineg (pc := 181) C dX11_findLengths_181 <|
    aw_goto (pc := 182) C (tgt := 187) dX11_findLengths_182 rfl <|
    aw_drop [0, 1, 2, 3, 4, 5, 6] (aX11_findLengths_j187 C p3 n3 hA3 v1 v2 v4 v5 v6 K56 hK56 (-s0) x14 v1 h))) (fun _ =>
    aw_iconst (pc := 166) C (v := 0) dX11_findLengths_166 rfl <|
    aw_goto (pc := 167) C (tgt := 192) dX11_findLengths_167 rfl <|
    aw_drop [0, 1, 2, 3, 4, 5, 6] (aX11_findLengths_j192 C p3 n3 hA3 v1 v2 v4 v5 v6 K56 hK56 0 h))
def X11_findLengths_l56 (p3 : Nat) (n3 : Nat) (v1 : Int32) (v2 : Int32) (v4 : Int32) : Nat → Int32 → AH → Option (Unit × AH)
  | 0, _, _ => none
  | n + 1, v5, h =>
    if 1681 ≤ v5 then (X11_findLengths_l207 p3 n3 FU 0 h)
    else (ck (v5 / 41) 41 (ck (rm32 v5 41) 41 (vl ((h.2.1 18 (v5 / 41).toNatClampNeg) * (h.2.1 19 (rm32 v5 41).toNatClampNeg)) fun x10 =>
    if (lcmpV x10 0) = 0 then (X11_findLengths_j198 p3 n3 v1 v2 v4 v5 (X11_findLengths_l56 p3 n3 v1 v2 v4 n) h)
    else (ck v1 4 (vl (v2 - ((h.1 6 v1.toNatClampNeg) * ((v5 / 41) - 20))) fun x11 =>
    if v4 = 0 then (X11_findLengths_j135 p3 n3 v1 v2 v4 v5 x10 x11 (X11_findLengths_l56 p3 n3 v1 v2 v4 n) 0 h)
    else (bd (X11_aimOf v1 h) fun r12 h13 =>
    X11_findLengths_j135 p3 n3 v1 v2 v4 v5 x10 x11 (X11_findLengths_l56 p3 n3 v1 v2 v4 n) ((x11 - r12) / 2) h13))))))
set_option maxRecDepth 100000 in
theorem aX11_findLengths_l56 {X : MCx} {yd : Dyn} {A : Nat → Prop} (C : OK X cX11_findLengths RX11 10 none rmX11_findLengths A) (p3 : Nat) (n3 : Nat) (hA3 : ZR.1[p3]? = some (.inl (1, 1, n3))) (v1 : Int32) (v2 : Int32) (v4 : Int32) : ∀ (n : Nat) (v5 : Int32) (h : AH), AW X 10 ZR yd A 0 0 (QF X rmX11_findLengths ZR yd rvV A) 56 [(0, .ref 0), (1, .int v1), (2, .int v2), (3, .ref p3), (4, .int v4), (5, .int v5)] [] h (X11_findLengths_l56 p3 n3 v1 v2 v4 n v5 h) := by
  intro n
  induction n with
  | zero => intro v5 h; exact aw_none
  | succ n ih =>
    intro v5 h
    exact aw_iload (pc := 56) C (i := 5) dX11_findLengths_56 rfl <|
    aw_sipush (pc := 58) C (v := 1681) dX11_findLengths_58 rfl <|
    aw_icmp_ge (pc := 61) C (tgt := 204) dX11_findLengths_61 rfl (fun _ =>
    aw_iconst (pc := 204) C (v := 0) dX11_findLengths_204 rfl <|
    aw_istore (pc := 205) C (i := 5) (lv' := [(0, .ref 0), (1, .int v1), (2, .int v2), (3, .ref p3), (4, .int v4), (5, .int 0)]) dX11_findLengths_205 (by decide) rfl <|
    aw_drop [0, 3, 5] (aX11_findLengths_l207 C p3 n3 hA3 FU 0 h)) (fun _ =>
    aw_aload_n (pc := 64) C (i := 0) dX11_findLengths_64 rfl rfl <|
    aw_getR (pc := 65) C (b := 18) dX11_findLengths_65 fl_X11_61 sR_0 rfl rR_0_28 <|
    aw_iload (pc := 68) C (i := 5) dX11_findLengths_68 rfl <|
    aw_bipush (pc := 70) C (v := 41) dX11_findLengths_70 rfl <|
    aw_idivK (pc := 72) C dX11_findLengths_72 (by decide) <|
    aw_lald (pc := 73) C dX11_findLengths_73 sR_18 rfl <|
    aw_aload_n (pc := 74) C (i := 0) dX11_findLengths_74 rfl rfl <|
    aw_getR (pc := 75) C (b := 19) dX11_findLengths_75 fl_X11_65 sR_0 rfl rR_0_29 <|
    aw_iload (pc := 78) C (i := 5) dX11_findLengths_78 rfl <|
    aw_bipush (pc := 80) C (v := 41) dX11_findLengths_80 rfl <|
    aw_iremK (pc := 82) C dX11_findLengths_82 (by decide) <|
    aw_lald (pc := 83) C dX11_findLengths_83 sR_19 rfl <|
    aw_lmul (pc := 84) C dX11_findLengths_84 <|
    aw_lstoreV (pc := 85) C (i := 6) (fun x10 => [(0, .ref 0), (1, .int v1), (2, .int v2), (3, .ref p3), (4, .int v4), (5, .int v5), (6, .long x10)]) dX11_findLengths_85 (by decide) (fun _ => rfl) fun x10 =>
    aw_lload (pc := 87) C (i := 6) dX11_findLengths_87 rfl <|
    aw_lconst (pc := 89) C (v := 0) dX11_findLengths_89 rfl <|
    aw_lcmp (pc := 90) C dX11_findLengths_90 <|
    aw_if_ne (pc := 91) C (tgt := 97) dX11_findLengths_91 rfl (fun _ =>
    aw_goto (pc := 94) C (tgt := 198) dX11_findLengths_94 rfl <|
    aw_drop [0, 1, 2, 3, 4, 5] (aX11_findLengths_j198 C p3 n3 hA3 v1 v2 v4 v5 (X11_findLengths_l56 p3 n3 v1 v2 v4 n) ih h)) (fun _ =>
    aw_iload_n (pc := 97) C (i := 2) dX11_findLengths_97 rfl rfl <|
    aw_aload_n (pc := 98) C (i := 0) dX11_findLengths_98 rfl rfl <|
    aw_getR (pc := 99) C (b := 6) dX11_findLengths_99 fl_X11_25 sR_0 rfl rR_0_5 <|
    aw_iload_n (pc := 102) C (i := 1) dX11_findLengths_102 rfl rfl <|
    aw_iald (pc := 103) C dX11_findLengths_103 sR_6 rfl <|
    aw_iload (pc := 104) C (i := 5) dX11_findLengths_104 rfl <|
    aw_bipush (pc := 106) C (v := 41) dX11_findLengths_106 rfl <|
    aw_idivK (pc := 108) C dX11_findLengths_108 (by decide) <|
    aw_bipush (pc := 109) C (v := 20) dX11_findLengths_109 rfl <|
    aw_isub (pc := 111) C dX11_findLengths_111 <|
    aw_imul (pc := 112) C dX11_findLengths_112 <|
    aw_isub (pc := 113) C dX11_findLengths_113 <|
    aw_istoreV (pc := 114) C (i := 8) (fun x11 => [(0, .ref 0), (1, .int v1), (2, .int v2), (3, .ref p3), (4, .int v4), (5, .int v5), (6, .long x10), (8, .int x11)]) dX11_findLengths_114 (by decide) (fun _ => rfl) fun x11 =>
    aw_iload (pc := 116) C (i := 4) dX11_findLengths_116 rfl <|
    aw_if_ne (pc := 118) C (tgt := 125) dX11_findLengths_118 rfl (fun _ =>
    aw_iconst (pc := 121) C (v := 0) dX11_findLengths_121 rfl <|
    aw_goto (pc := 122) C (tgt := 135) dX11_findLengths_122 rfl <|
    (aX11_findLengths_j135 C p3 n3 hA3 v1 v2 v4 v5 x10 x11 (X11_findLengths_l56 p3 n3 v1 v2 v4 n) ih 0 h)) (fun _ =>
    aw_iload (pc := 125) C (i := 8) dX11_findLengths_125 rfl <|
    aw_aload_n (pc := 127) C (i := 0) dX11_findLengths_127 rfl rfl <|
    aw_iload_n (pc := 128) C (i := 1) dX11_findLengths_128 rfl rfl <|
    aw_callF (pc := 129) C (cr_V (rest := [.int x11]) (F := (X11_aimOf v1)) C (c_X11_aimOf X.2.1 v1) dX11_findLengths_129 mf_X11_aimOf ml_X11_210 im_X11_aimOf se_X11_aimOf sR_0 rfl ⟨(Nat.le_of_ble_eq_true rfl), (Nat.le_of_ble_eq_true rfl)⟩ rfl rfl (Nat.le_of_ble_eq_true rfl)) rfl rfl rfl (Nat.zero_le _) (Nat.zero_le _) fun r12 h13 =>
    aw_isub (pc := 132) C dX11_findLengths_132 <|
    aw_iconst (pc := 133) C (v := 2) dX11_findLengths_133 rfl <|
    aw_idivK (pc := 134) C dX11_findLengths_134 (by decide) <|
    (aX11_findLengths_j135 C p3 n3 hA3 v1 v2 v4 v5 x10 x11 (X11_findLengths_l56 p3 n3 v1 v2 v4 n) ih ((x11 - r12) / 2) h13))))
def X11_findLengths_l3 (p3 : Nat) (n3 : Nat) (v1 : Int32) (v2 : Int32) : Nat → Int32 → AH → Option (Unit × AH)
  | 0, _, _ => none
  | n + 1, v4, h =>
    if 1000 ≤ v4 then (ck v1 4 (vl (h.1 8 v1.toNatClampNeg) fun x1 =>
    bd (X11_findWays 18 41 ((h.1 0 12) - x1) h) fun _ h3 =>
    bd (X11_findWays 19 41 x1 h3) fun _ h5 =>
    X11_findLengths_l56 p3 n3 v1 v2 x1 FU 0 h5))
    else (ck v4 n3 (vl (sL h p3 v4.toNatClampNeg 0) fun h19 =>
    vl (v4 + 1) fun x20 =>
    (X11_findLengths_l3 p3 n3 v1 v2 n) x20 h19))
set_option maxRecDepth 100000 in
theorem aX11_findLengths_l3 {X : MCx} {yd : Dyn} {A : Nat → Prop} (C : OK X cX11_findLengths RX11 10 none rmX11_findLengths A) (p3 : Nat) (n3 : Nat) (hA3 : ZR.1[p3]? = some (.inl (1, 1, n3))) (v1 : Int32) (v2 : Int32) : ∀ (n : Nat) (v4 : Int32) (h : AH), AW X 10 ZR yd A 0 0 (QF X rmX11_findLengths ZR yd rvV A) 3 [(0, .ref 0), (1, .int v1), (2, .int v2), (3, .ref p3), (4, .int v4)] [] h (X11_findLengths_l3 p3 n3 v1 v2 n v4 h) := by
  intro n
  induction n with
  | zero => intro v4 h; exact aw_none
  | succ n ih =>
    intro v4 h
    exact aw_iload (pc := 3) C (i := 4) dX11_findLengths_3 rfl <|
    aw_sipush (pc := 5) C (v := 1000) dX11_findLengths_5 rfl <|
    aw_icmp_ge (pc := 8) C (tgt := 22) dX11_findLengths_8 rfl (fun _ =>
    aw_aload_n (pc := 22) C (i := 0) dX11_findLengths_22 rfl rfl <|
    aw_getR (pc := 23) C (b := 8) dX11_findLengths_23 fl_X11_31 sR_0 rfl rR_0_7 <|
    aw_iload_n (pc := 26) C (i := 1) dX11_findLengths_26 rfl rfl <|
    aw_iald (pc := 27) C dX11_findLengths_27 sR_8 rfl <|
    aw_istoreV (pc := 28) C (i := 4) (fun x1 => [(0, .ref 0), (1, .int v1), (2, .int v2), (3, .ref p3), (4, .int x1)]) dX11_findLengths_28 (by decide) (fun _ => rfl) fun x1 =>
    aw_aload_n (pc := 30) C (i := 0) dX11_findLengths_30 rfl rfl <|
    aw_getR (pc := 31) C (b := 18) dX11_findLengths_31 fl_X11_61 sR_0 rfl rR_0_28 <|
    aw_aload_n (pc := 34) C (i := 0) dX11_findLengths_34 rfl rfl <|
    aw_getI (pc := 35) C dX11_findLengths_35 fl_X11_95 sR_0 rfl <|
    aw_iload (pc := 38) C (i := 4) dX11_findLengths_38 rfl <|
    aw_isub (pc := 40) C dX11_findLengths_40 <|
    aw_callF (pc := 41) C (cr_S (rest := []) (F := (X11_findWays 18 41 ((h.1 0 12) - x1))) C (c_X11_findWays X.2.1 18 41 sR_18 ((h.1 0 12) - x1)) dX11_findLengths_41 mf_X11_findWays ml_X11_226 st_X11_findWays ⟨(Nat.le_of_ble_eq_true rfl), (Nat.le_of_ble_eq_true rfl)⟩ rfl rfl (Nat.le_of_ble_eq_true rfl)) rfl rfl rfl (Nat.zero_le _) (Nat.zero_le _) fun _ h3 =>
    aw_aload_n (pc := 44) C (i := 0) dX11_findLengths_44 rfl rfl <|
    aw_getR (pc := 45) C (b := 19) dX11_findLengths_45 fl_X11_65 sR_0 rfl rR_0_29 <|
    aw_iload (pc := 48) C (i := 4) dX11_findLengths_48 rfl <|
    aw_callF (pc := 50) C (cr_S (rest := []) (F := (X11_findWays 19 41 x1)) C (c_X11_findWays X.2.1 19 41 sR_19 x1) dX11_findLengths_50 mf_X11_findWays ml_X11_226 st_X11_findWays ⟨(Nat.le_of_ble_eq_true rfl), (Nat.le_of_ble_eq_true rfl)⟩ rfl rfl (Nat.le_of_ble_eq_true rfl)) rfl rfl rfl (Nat.zero_le _) (Nat.zero_le _) fun _ h5 =>
    aw_iconst (pc := 53) C (v := 0) dX11_findLengths_53 rfl <|
    aw_istore (pc := 54) C (i := 5) (lv' := [(0, .ref 0), (1, .int v1), (2, .int v2), (3, .ref p3), (4, .int x1), (5, .int 0)]) dX11_findLengths_54 (by decide) rfl <|
    (aX11_findLengths_l56 C p3 n3 hA3 v1 v2 x1 FU 0 h5)) (fun _ =>
    aw_aload_n (pc := 11) C (i := 3) dX11_findLengths_11 rfl rfl <|
    aw_iload (pc := 12) C (i := 4) dX11_findLengths_12 rfl <|
    aw_lconst (pc := 14) C (v := 0) dX11_findLengths_14 rfl <|
    aw_last (pc := 15) C dX11_findLengths_15 hA3 rfl fun h19 =>
    aw_iincV (pc := 16) C (i := 4) (cst := 1) (fun x20 => [(0, .ref 0), (1, .int v1), (2, .int v2), (3, .ref p3), (4, .int x20)]) dX11_findLengths_16 rfl rfl (by decide) (fun _ => rfl) fun x20 =>
    aw_goto (pc := 19) C (tgt := 3) dX11_findLengths_19 rfl <|
    (ih x20 h19))
def X11_findLengths (v1 : Int32) (v2 : Int32) (p3 : Nat) (n3 : Nat) (h : AH) : Option (Unit × AH) :=
    X11_findLengths_l3 p3 n3 v1 v2 FU 0 h
set_option maxRecDepth 100000 in
theorem c_X11_findLengths (l : Launch) (v1 : Int32) (v2 : Int32) (p3 : Nat) (n3 : Nat) (hA3 : ZR.1[p3]? = some (.inl (1, 1, n3))) : MC l yX11_findLengths cX11_findLengths 10 none rmX11_findLengths ZR [.ref 0, .int v1, .int v2, .ref p3] rvV (X11_findLengths v1 v2 p3 n3) :=
  MC.of (own := RX11) (by decide +kernel) rfl (Nat.le_of_ble_eq_true rfl) fun X yd A h _ C =>
    aw_iconst (pc := 0) C (v := 0) dX11_findLengths_0 rfl <|
    aw_istore (pc := 1) C (i := 4) (lv' := [(0, .ref 0), (1, .int v1), (2, .int v2), (3, .ref p3), (4, .int 0)]) dX11_findLengths_1 (by decide) rfl <|
    (aX11_findLengths_l3 C p3 n3 hA3 v1 v2 FU 0 h)

abbrev rmX11_parts : Room := { frames := 3, cells := 0, slots := 0, locals := 74 }
def X11_parts_j20  (v1 : Int32) (v2 : Int32) (s0 : Int32) (h : AH) : Option (Int32 × AH) :=
    if s0 = 0 then (bd (X11_placeOf v1 h) fun r5 h6 =>
    bd (X11_findLengths v1 r5 25 1000 h6) fun _ h8 =>
    ck v2 1000 (some ((h8.2.1 25 v2.toNatClampNeg).toInt32, h8)))
    else (bd (X11_no s0 h) fun r9 h10 =>
    some (r9, h10))
set_option maxRecDepth 100000 in
theorem aX11_parts_j20 {X : MCx} {yd : Dyn} {A : Nat → Prop} (C : OK X cX11_parts RX11 4 (some .int) rmX11_parts A)  (v1 : Int32) (v2 : Int32) (s0 : Int32) (h : AH) : AW X 4 ZR yd A 0 0 (QF X rmX11_parts ZR yd rvI A) 20 [(0, .ref 0), (1, .int v1), (2, .int v2)] [.int s0] h (X11_parts_j20 v1 v2 s0 h) := by
    exact aw_istore_n (pc := 20) C (i := 3) (lv' := [(0, .ref 0), (1, .int v1), (2, .int v2), (3, .int s0)]) dX11_parts_20 rfl (by decide) rfl <|
    aw_iload_n (pc := 21) C (i := 3) dX11_parts_21 rfl rfl <|
    aw_if_eq (pc := 22) C (tgt := 31) dX11_parts_22 rfl (fun _ =>
    aw_aload_n (pc := 31) C (i := 0) dX11_parts_31 rfl rfl <|
    aw_iload_n (pc := 32) C (i := 1) dX11_parts_32 rfl rfl <|
    aw_aload_n (pc := 33) C (i := 0) dX11_parts_33 rfl rfl <|
    aw_iload_n (pc := 34) C (i := 1) dX11_parts_34 rfl rfl <|
    aw_callF (pc := 35) C (cr_V (rest := [.int v1, .ref 0]) (F := (X11_placeOf v1)) C (c_X11_placeOf X.2.1 v1) dX11_parts_35 mf_X11_placeOf ml_X11_223 im_X11_placeOf se_X11_placeOf sR_0 rfl ⟨(Nat.le_of_ble_eq_true rfl), (Nat.le_of_ble_eq_true rfl)⟩ rfl rfl (Nat.le_of_ble_eq_true rfl)) rfl rfl rfl (Nat.zero_le _) (Nat.zero_le _) fun r5 h6 =>
    aw_aload_n (pc := 38) C (i := 0) dX11_parts_38 rfl rfl <|
    aw_getR (pc := 39) C (b := 25) dX11_parts_39 fl_X11_83 sR_0 rfl rR_0_36 <|
    aw_callF (pc := 42) C (cr_V (rest := []) (F := (X11_findLengths v1 r5 25 1000)) C (c_X11_findLengths X.2.1 v1 r5 25 1000 sR_25) dX11_parts_42 mf_X11_findLengths ml_X11_311 im_X11_findLengths se_X11_findLengths sR_0 rfl ⟨(Nat.le_of_ble_eq_true rfl), (Nat.le_of_ble_eq_true rfl)⟩ rfl rfl (Nat.le_of_ble_eq_true rfl)) rfl rfl rfl (Nat.zero_le _) (Nat.zero_le _) fun _ h8 =>
    aw_aload_n (pc := 45) C (i := 0) dX11_parts_45 rfl rfl <|
    aw_getR (pc := 46) C (b := 25) dX11_parts_46 fl_X11_83 sR_0 rfl rR_0_36 <|
    aw_iload_n (pc := 49) C (i := 2) dX11_parts_49 rfl rfl <|
    aw_lald (pc := 50) C dX11_parts_50 sR_25 rfl <|
    aw_l2i (pc := 51) C dX11_parts_51 <|
    aw_iret (pc := 52) C dX11_parts_52 rfl rfl) (fun _ =>
    aw_aload_n (pc := 25) C (i := 0) dX11_parts_25 rfl rfl <|
    aw_iload_n (pc := 26) C (i := 3) dX11_parts_26 rfl rfl <|
    aw_callF (pc := 27) C (cr_V (rest := []) (F := (X11_no s0)) C (c_X11_no X.2.1 s0) dX11_parts_27 mf_X11_no ml_X11_115 im_X11_no se_X11_no sR_0 rfl ⟨(Nat.le_of_ble_eq_true rfl), (Nat.le_of_ble_eq_true rfl)⟩ rfl rfl (Nat.le_of_ble_eq_true rfl)) rfl rfl rfl (Nat.zero_le _) (Nat.zero_le _) fun r9 h10 =>
    aw_iret (pc := 30) C dX11_parts_30 rfl rfl)
def X11_parts (v1 : Int32) (v2 : Int32) (h : AH) : Option (Int32 × AH) :=
    bd (X11_isJumper v1 h) fun r1 h2 =>
    if r1 = 0 then (X11_parts_j20 v1 v2 (-1) h2)
    else (bd (X11_bound v2 0 999 h2) fun r3 h4 =>
    X11_parts_j20 v1 v2 r3 h4)
set_option maxRecDepth 100000 in
theorem c_X11_parts (l : Launch) (v1 : Int32) (v2 : Int32) : MC l yX11_parts cX11_parts 4 (some .int) rmX11_parts ZR [.ref 0, .int v1, .int v2] rvI (X11_parts v1 v2) :=
  MC.of (own := RX11) (by decide +kernel) rfl (Nat.le_of_ble_eq_true rfl) fun X yd A h _ C =>
    aw_aload_n (pc := 0) C (i := 0) dX11_parts_0 rfl rfl <|
    aw_iload_n (pc := 1) C (i := 1) dX11_parts_1 rfl rfl <|
    aw_callF (pc := 2) C (cr_V (rest := []) (F := (X11_isJumper v1)) C (c_X11_isJumper X.2.1 v1) dX11_parts_2 mf_X11_isJumper ml_X11_207 im_X11_isJumper se_X11_isJumper sR_0 rfl ⟨(Nat.le_of_ble_eq_true rfl), (Nat.le_of_ble_eq_true rfl)⟩ rfl rfl (Nat.le_of_ble_eq_true rfl)) rfl rfl rfl (Nat.zero_le _) (Nat.zero_le _) fun r1 h2 =>
    aw_if_ne (pc := 5) C (tgt := 12) dX11_parts_5 rfl (fun _ =>
    aw_iconst (pc := 8) C (v := (-1)) dX11_parts_8 rfl <|
    aw_goto (pc := 9) C (tgt := 20) dX11_parts_9 rfl <|
    (aX11_parts_j20 C v1 v2 (-1) h2)) (fun _ =>
    aw_iload_n (pc := 12) C (i := 2) dX11_parts_12 rfl rfl <|
    aw_iconst (pc := 13) C (v := 0) dX11_parts_13 rfl <|
    aw_sipush (pc := 14) C (v := 999) dX11_parts_14 rfl <|
    aw_callF (pc := 17) C (cr_S (rest := []) (F := (X11_bound v2 0 999)) C (c_X11_bound X.2.1 v2 0 999) dX11_parts_17 mf_X11_bound ml_X11_108 st_X11_bound ⟨(Nat.le_of_ble_eq_true rfl), (Nat.le_of_ble_eq_true rfl)⟩ rfl rfl (Nat.le_of_ble_eq_true rfl)) rfl rfl rfl (Nat.zero_le _) (Nat.zero_le _) fun r3 h4 =>
    (aX11_parts_j20 C v1 v2 r3 h4))

abbrev rmX11_areTwo : Room := { frames := 1, cells := 0, slots := 0, locals := 21 }
def X11_areTwo (v1 : Int32) (v2 : Int32) (h : AH) : Option (Int32 × AH) :=
    bd (X11_isJumper v1 h) fun r1 h2 =>
    if r1 = 0 then (cz 0 (some (0, h2)))
    else (bd (X11_isJumper v2 h2) fun r3 h4 =>
    if r3 = 0 then (cz 0 (some (0, h4)))
    else (if v1 = v2 then (cz 0 (some (0, h4)))
    else (cz 1 (some (1, h4)))))
set_option maxRecDepth 100000 in
theorem c_X11_areTwo (l : Launch) (v1 : Int32) (v2 : Int32) : MC l yX11_areTwo cX11_areTwo 3 (some .boolean) rmX11_areTwo ZR [.ref 0, .int v1, .int v2] rvI (X11_areTwo v1 v2) :=
  MC.of (own := RX11) (by decide +kernel) rfl (Nat.le_of_ble_eq_true rfl) fun X yd A h _ C =>
    aw_aload_n (pc := 0) C (i := 0) dX11_areTwo_0 rfl rfl <|
    aw_iload_n (pc := 1) C (i := 1) dX11_areTwo_1 rfl rfl <|
    aw_callF (pc := 2) C (cr_V (rest := []) (F := (X11_isJumper v1)) C (c_X11_isJumper X.2.1 v1) dX11_areTwo_2 mf_X11_isJumper ml_X11_207 im_X11_isJumper se_X11_isJumper sR_0 rfl ⟨(Nat.le_of_ble_eq_true rfl), (Nat.le_of_ble_eq_true rfl)⟩ rfl rfl (Nat.le_of_ble_eq_true rfl)) rfl rfl rfl (Nat.zero_le _) (Nat.zero_le _) fun r1 h2 =>
    aw_if_eq (pc := 5) C (tgt := 25) dX11_areTwo_5 rfl (fun _ =>
    aw_iconst (pc := 25) C (v := 0) dX11_areTwo_25 rfl <|
    aw_zret (pc := 26) C dX11_areTwo_26 rfl rfl) (fun _ =>
    aw_aload_n (pc := 8) C (i := 0) dX11_areTwo_8 rfl rfl <|
    aw_iload_n (pc := 9) C (i := 2) dX11_areTwo_9 rfl rfl <|
    aw_callF (pc := 10) C (cr_V (rest := []) (F := (X11_isJumper v2)) C (c_X11_isJumper X.2.1 v2) dX11_areTwo_10 mf_X11_isJumper ml_X11_207 im_X11_isJumper se_X11_isJumper sR_0 rfl ⟨(Nat.le_of_ble_eq_true rfl), (Nat.le_of_ble_eq_true rfl)⟩ rfl rfl (Nat.le_of_ble_eq_true rfl)) rfl rfl rfl (Nat.zero_le _) (Nat.zero_le _) fun r3 h4 =>
    aw_if_eq (pc := 13) C (tgt := 25) dX11_areTwo_13 rfl (fun _ =>
    aw_iconst (pc := 25) C (v := 0) dX11_areTwo_25 rfl <|
    aw_zret (pc := 26) C dX11_areTwo_26 rfl rfl) (fun _ =>
    aw_iload_n (pc := 16) C (i := 1) dX11_areTwo_16 rfl rfl <|
    aw_iload_n (pc := 17) C (i := 2) dX11_areTwo_17 rfl rfl <|
    aw_icmp_eq (pc := 18) C (tgt := 25) dX11_areTwo_18 rfl (fun _ =>
    aw_iconst (pc := 25) C (v := 0) dX11_areTwo_25 rfl <|
    aw_zret (pc := 26) C dX11_areTwo_26 rfl rfl) (fun _ =>
    aw_iconst (pc := 21) C (v := 1) dX11_areTwo_21 rfl <|
    aw_goto (pc := 22) C (tgt := 26) dX11_areTwo_22 rfl <|
    aw_zret (pc := 26) C dX11_areTwo_26 rfl rfl)))

abbrev rmX11_moreFrom : Room := { frames := 3, cells := 0, slots := 0, locals := 74 }
def X11_moreFrom_l30  : Nat → Int64 → Int64 → Int32 → AH → Option (Int32 × AH)
  | 0, _, _, _, _ => none
  | n + 1, v5, v7, v9, h =>
    if 1000 ≤ v9 then (some ((v5 / 10000).toInt32, h))
    else (ck v9 1000 (vl (v5 + ((h.2.1 25 v9.toNatClampNeg) * v7)) fun x5 =>
    ck v9 1000 (vl (v7 + (h.2.1 26 v9.toNatClampNeg)) fun x6 =>
    vl (v9 + 1) fun x7 =>
    (X11_moreFrom_l30 n) x5 x6 x7 h)))
set_option maxRecDepth 100000 in
theorem aX11_moreFrom_l30 {X : MCx} {yd : Dyn} {A : Nat → Prop} (C : OK X cX11_moreFrom RX11 10 (some .int) rmX11_moreFrom A)  : ∀ (n : Nat) (v5 : Int64) (v7 : Int64) (v9 : Int32) (h : AH), AW X 10 ZR yd A 0 0 (QF X rmX11_moreFrom ZR yd rvI A) 30 [(0, .ref 0), (5, .long v5), (7, .long v7), (9, .int v9)] [] h (X11_moreFrom_l30 n v5 v7 v9 h) := by
  intro n
  induction n with
  | zero => intro v5 v7 v9 h; exact aw_none
  | succ n ih =>
    intro v5 v7 v9 h
    exact aw_iload (pc := 30) C (i := 9) dX11_moreFrom_30 rfl <|
    aw_sipush (pc := 32) C (v := 1000) dX11_moreFrom_32 rfl <|
    aw_icmp_ge (pc := 35) C (tgt := 71) dX11_moreFrom_35 rfl (fun _ =>
    aw_lload (pc := 71) C (i := 5) dX11_moreFrom_71 rfl <|
    aw_ldc2_w (pc := 73) C (v := 10000) dX11_moreFrom_73 kc_X11_289 <|
    aw_ldivK (pc := 76) C dX11_moreFrom_76 (by decide) <|
    aw_l2i (pc := 77) C dX11_moreFrom_77 <|
    aw_iret (pc := 78) C dX11_moreFrom_78 rfl rfl) (fun _ =>
    aw_lload (pc := 38) C (i := 5) dX11_moreFrom_38 rfl <|
    aw_aload_n (pc := 40) C (i := 0) dX11_moreFrom_40 rfl rfl <|
    aw_getR (pc := 41) C (b := 25) dX11_moreFrom_41 fl_X11_83 sR_0 rfl rR_0_36 <|
    aw_iload (pc := 44) C (i := 9) dX11_moreFrom_44 rfl <|
    aw_lald (pc := 46) C dX11_moreFrom_46 sR_25 rfl <|
    aw_lload (pc := 47) C (i := 7) dX11_moreFrom_47 rfl <|
    aw_lmul (pc := 49) C dX11_moreFrom_49 <|
    aw_ladd (pc := 50) C dX11_moreFrom_50 <|
    aw_lstoreV (pc := 51) C (i := 5) (fun x5 => [(0, .ref 0), (5, .long x5), (7, .long v7), (9, .int v9)]) dX11_moreFrom_51 (by decide) (fun _ => rfl) fun x5 =>
    aw_lload (pc := 53) C (i := 7) dX11_moreFrom_53 rfl <|
    aw_aload_n (pc := 55) C (i := 0) dX11_moreFrom_55 rfl rfl <|
    aw_getR (pc := 56) C (b := 26) dX11_moreFrom_56 fl_X11_86 sR_0 rfl rR_0_37 <|
    aw_iload (pc := 59) C (i := 9) dX11_moreFrom_59 rfl <|
    aw_lald (pc := 61) C dX11_moreFrom_61 sR_26 rfl <|
    aw_ladd (pc := 62) C dX11_moreFrom_62 <|
    aw_lstoreV (pc := 63) C (i := 7) (fun x6 => [(0, .ref 0), (5, .long x5), (7, .long x6), (9, .int v9)]) dX11_moreFrom_63 (by decide) (fun _ => rfl) fun x6 =>
    aw_iincV (pc := 65) C (i := 9) (cst := 1) (fun x7 => [(0, .ref 0), (5, .long x5), (7, .long x6), (9, .int x7)]) dX11_moreFrom_65 rfl rfl (by decide) (fun _ => rfl) fun x7 =>
    aw_goto (pc := 68) C (tgt := 30) dX11_moreFrom_68 rfl <|
    (ih x5 x6 x7 h))
def X11_moreFrom (v1 : Int32) (v2 : Int32) (v3 : Int32) (v4 : Int32) (h : AH) : Option (Int32 × AH) :=
    bd (X11_findLengths v1 v2 25 1000 h) fun _ h2 =>
    bd (X11_findLengths v3 v4 26 1000 h2) fun _ h4 =>
    X11_moreFrom_l30 FU 0 0 0 h4
set_option maxRecDepth 100000 in
theorem c_X11_moreFrom (l : Launch) (v1 : Int32) (v2 : Int32) (v3 : Int32) (v4 : Int32) : MC l yX11_moreFrom cX11_moreFrom 10 (some .int) rmX11_moreFrom ZR [.ref 0, .int v1, .int v2, .int v3, .int v4] rvI (X11_moreFrom v1 v2 v3 v4) :=
  MC.of (own := RX11) (by decide +kernel) rfl (Nat.le_of_ble_eq_true rfl) fun X yd A h _ C =>
    aw_aload_n (pc := 0) C (i := 0) dX11_moreFrom_0 rfl rfl <|
    aw_iload_n (pc := 1) C (i := 1) dX11_moreFrom_1 rfl rfl <|
    aw_iload_n (pc := 2) C (i := 2) dX11_moreFrom_2 rfl rfl <|
    aw_aload_n (pc := 3) C (i := 0) dX11_moreFrom_3 rfl rfl <|
    aw_getR (pc := 4) C (b := 25) dX11_moreFrom_4 fl_X11_83 sR_0 rfl rR_0_36 <|
    aw_callF (pc := 7) C (cr_V (rest := []) (F := (X11_findLengths v1 v2 25 1000)) C (c_X11_findLengths X.2.1 v1 v2 25 1000 sR_25) dX11_moreFrom_7 mf_X11_findLengths ml_X11_311 im_X11_findLengths se_X11_findLengths sR_0 rfl ⟨(Nat.le_of_ble_eq_true rfl), (Nat.le_of_ble_eq_true rfl)⟩ rfl rfl (Nat.le_of_ble_eq_true rfl)) rfl rfl rfl (Nat.zero_le _) (Nat.zero_le _) fun _ h2 =>
    aw_aload_n (pc := 10) C (i := 0) dX11_moreFrom_10 rfl rfl <|
    aw_iload_n (pc := 11) C (i := 3) dX11_moreFrom_11 rfl rfl <|
    aw_iload (pc := 12) C (i := 4) dX11_moreFrom_12 rfl <|
    aw_aload_n (pc := 14) C (i := 0) dX11_moreFrom_14 rfl rfl <|
    aw_getR (pc := 15) C (b := 26) dX11_moreFrom_15 fl_X11_86 sR_0 rfl rR_0_37 <|
    aw_callF (pc := 18) C (cr_V (rest := []) (F := (X11_findLengths v3 v4 26 1000)) C (c_X11_findLengths X.2.1 v3 v4 26 1000 sR_26) dX11_moreFrom_18 mf_X11_findLengths ml_X11_311 im_X11_findLengths se_X11_findLengths sR_0 rfl ⟨(Nat.le_of_ble_eq_true rfl), (Nat.le_of_ble_eq_true rfl)⟩ rfl rfl (Nat.le_of_ble_eq_true rfl)) rfl rfl rfl (Nat.zero_le _) (Nat.zero_le _) fun _ h4 =>
    aw_lconst (pc := 21) C (v := 0) dX11_moreFrom_21 rfl <|
    aw_lstore (pc := 22) C (i := 5) (lv' := [(0, .ref 0), (1, .int v1), (2, .int v2), (3, .int v3), (4, .int v4), (5, .long 0)]) dX11_moreFrom_22 (by decide) rfl <|
    aw_lconst (pc := 24) C (v := 0) dX11_moreFrom_24 rfl <|
    aw_lstore (pc := 25) C (i := 7) (lv' := [(0, .ref 0), (1, .int v1), (2, .int v2), (3, .int v3), (4, .int v4), (5, .long 0), (7, .long 0)]) dX11_moreFrom_25 (by decide) rfl <|
    aw_iconst (pc := 27) C (v := 0) dX11_moreFrom_27 rfl <|
    aw_istore (pc := 28) C (i := 9) (lv' := [(0, .ref 0), (1, .int v1), (2, .int v2), (3, .int v3), (4, .int v4), (5, .long 0), (7, .long 0), (9, .int 0)]) dX11_moreFrom_28 (by decide) rfl <|
    aw_drop [0, 5, 6, 7] (aX11_moreFrom_l30 C FU 0 0 0 h4)
end
section
abbrev rmX11_more : Room := { frames := 4, cells := 0, slots := 0, locals := 103 }
def X11_more (v1 : Int32) (v2 : Int32) (h : AH) : Option (Int32 × AH) :=
    bd (X11_areTwo v1 v2 h) fun r1 h2 =>
    if r1 = 0 then (bd (X11_no (-1) h2) fun r3 h4 =>
    some (r3, h4))
    else (bd (X11_placeOf v1 h2) fun r5 h6 =>
    bd (X11_placeOf v2 h6) fun r7 h8 =>
    bd (X11_moreFrom v1 r5 v2 r7 h8) fun r9 h10 =>
    some (r9, h10))
set_option maxRecDepth 100000 in
theorem c_X11_more (l : Launch) (v1 : Int32) (v2 : Int32) : MC l yX11_more cX11_more 3 (some .int) rmX11_more ZR [.ref 0, .int v1, .int v2] rvI (X11_more v1 v2) :=
  MC.of (own := RX11) (by decide +kernel) rfl (Nat.le_of_ble_eq_true rfl) fun X yd A h _ C =>
    aw_aload_n (pc := 0) C (i := 0) dX11_more_0 rfl rfl <|
    aw_iload_n (pc := 1) C (i := 1) dX11_more_1 rfl rfl <|
    aw_iload_n (pc := 2) C (i := 2) dX11_more_2 rfl rfl <|
    aw_callF (pc := 3) C (cr_V (rest := []) (F := (X11_areTwo v1 v2)) C (c_X11_areTwo X.2.1 v1 v2) dX11_more_3 mf_X11_areTwo ml_X11_315 im_X11_areTwo se_X11_areTwo sR_0 rfl ⟨(Nat.le_of_ble_eq_true rfl), (Nat.le_of_ble_eq_true rfl)⟩ rfl rfl (Nat.le_of_ble_eq_true rfl)) rfl rfl rfl (Nat.zero_le _) (Nat.zero_le _) fun r1 h2 =>
    aw_if_eq (pc := 6) C (tgt := 28) dX11_more_6 rfl (fun _ =>
    aw_aload_n (pc := 28) C (i := 0) dX11_more_28 rfl rfl <|
    aw_iconst (pc := 29) C (v := (-1)) dX11_more_29 rfl <|
    aw_callF (pc := 30) C (cr_V (rest := []) (F := (X11_no (-1))) C (c_X11_no X.2.1 (-1)) dX11_more_30 mf_X11_no ml_X11_115 im_X11_no se_X11_no sR_0 rfl ⟨(Nat.le_of_ble_eq_true rfl), (Nat.le_of_ble_eq_true rfl)⟩ rfl rfl (Nat.le_of_ble_eq_true rfl)) rfl rfl rfl (Nat.zero_le _) (Nat.zero_le _) fun r3 h4 =>
    aw_iret (pc := 33) C dX11_more_33 rfl rfl) (fun _ =>
    aw_aload_n (pc := 9) C (i := 0) dX11_more_9 rfl rfl <|
    aw_iload_n (pc := 10) C (i := 1) dX11_more_10 rfl rfl <|
    aw_aload_n (pc := 11) C (i := 0) dX11_more_11 rfl rfl <|
    aw_iload_n (pc := 12) C (i := 1) dX11_more_12 rfl rfl <|
    aw_callF (pc := 13) C (cr_V (rest := [.int v1, .ref 0]) (F := (X11_placeOf v1)) C (c_X11_placeOf X.2.1 v1) dX11_more_13 mf_X11_placeOf ml_X11_223 im_X11_placeOf se_X11_placeOf sR_0 rfl ⟨(Nat.le_of_ble_eq_true rfl), (Nat.le_of_ble_eq_true rfl)⟩ rfl rfl (Nat.le_of_ble_eq_true rfl)) rfl rfl rfl (Nat.zero_le _) (Nat.zero_le _) fun r5 h6 =>
    aw_iload_n (pc := 16) C (i := 2) dX11_more_16 rfl rfl <|
    aw_aload_n (pc := 17) C (i := 0) dX11_more_17 rfl rfl <|
    aw_iload_n (pc := 18) C (i := 2) dX11_more_18 rfl rfl <|
    aw_callF (pc := 19) C (cr_V (rest := [.int v2, .int r5, .int v1, .ref 0]) (F := (X11_placeOf v2)) C (c_X11_placeOf X.2.1 v2) dX11_more_19 mf_X11_placeOf ml_X11_223 im_X11_placeOf se_X11_placeOf sR_0 rfl ⟨(Nat.le_of_ble_eq_true rfl), (Nat.le_of_ble_eq_true rfl)⟩ rfl rfl (Nat.le_of_ble_eq_true rfl)) rfl rfl rfl (Nat.zero_le _) (Nat.zero_le _) fun r7 h8 =>
    aw_callF (pc := 22) C (cr_V (rest := []) (F := (X11_moreFrom v1 r5 v2 r7)) C (c_X11_moreFrom X.2.1 v1 r5 v2 r7) dX11_more_22 mf_X11_moreFrom ml_X11_318 im_X11_moreFrom se_X11_moreFrom sR_0 rfl ⟨(Nat.le_of_ble_eq_true rfl), (Nat.le_of_ble_eq_true rfl)⟩ rfl rfl (Nat.le_of_ble_eq_true rfl)) rfl rfl rfl (Nat.zero_le _) (Nat.zero_le _) fun r9 h10 =>
    aw_goto (pc := 25) C (tgt := 33) dX11_more_25 rfl <|
    aw_iret (pc := 33) C dX11_more_33 rfl rfl)

abbrev rmX11_rests : Room := { frames := 0, cells := 0, slots := 0, locals := 0 }
def X11_rests_l2  (v1 : Int32) : Nat → Int32 → AH → Option (Int32 × AH)
  | 0, _, _ => none
  | n + 1, v2, h =>
    if 3 ≤ v2 then (cz 1 (some (1, h)))
    else (ck ((3 * v2) + (rm32 v1 3)) 9 (ck v1 9 (if (h.1 27 v1.toNatClampNeg) < (h.1 27 ((3 * v2) + (rm32 v1 3)).toNatClampNeg) then (cz 0 (some (0, h)))
    else (ck (((v1 / 3) * 3) + v2) 9 (ck v1 9 (if (h.1 27 v1.toNatClampNeg) ≤ (h.1 27 (((v1 / 3) * 3) + v2).toNatClampNeg) then (vl (v2 + 1) fun x1 =>
    (X11_rests_l2 v1 n) x1 h)
    else (cz 0 (some (0, h)))))))))
set_option maxRecDepth 100000 in
theorem aX11_rests_l2 {X : MCx} {yd : Dyn} {A : Nat → Prop} (C : OK X cX11_rests RX11 3 (some .boolean) rmX11_rests A)  (v1 : Int32) : ∀ (n : Nat) (v2 : Int32) (h : AH), AW X 3 ZR yd A 0 0 (QF X rmX11_rests ZR yd rvI A) 2 [(0, .ref 0), (1, .int v1), (2, .int v2)] [] h (X11_rests_l2 v1 n v2 h) := by
  intro n
  induction n with
  | zero => intro v2 h; exact aw_none
  | succ n ih =>
    intro v2 h
    exact aw_iload_n (pc := 2) C (i := 2) dX11_rests_2 rfl rfl <|
    aw_iconst (pc := 3) C (v := 3) dX11_rests_3 rfl <|
    aw_icmp_ge (pc := 4) C (tgt := 57) dX11_rests_4 rfl (fun _ =>
    aw_iconst (pc := 57) C (v := 1) dX11_rests_57 rfl <|
    aw_zret (pc := 58) C dX11_rests_58 rfl rfl) (fun _ =>
    aw_aload_n (pc := 7) C (i := 0) dX11_rests_7 rfl rfl <|
    aw_getR (pc := 8) C (b := 27) dX11_rests_8 fl_X11_89 sR_0 rfl rR_0_38 <|
    aw_iconst (pc := 11) C (v := 3) dX11_rests_11 rfl <|
    aw_iload_n (pc := 12) C (i := 2) dX11_rests_12 rfl rfl <|
    aw_imul (pc := 13) C dX11_rests_13 <|
    aw_iload_n (pc := 14) C (i := 1) dX11_rests_14 rfl rfl <|
    aw_iconst (pc := 15) C (v := 3) dX11_rests_15 rfl <|
    aw_iremK (pc := 16) C dX11_rests_16 (by decide) <|
    aw_iadd (pc := 17) C dX11_rests_17 <|
    aw_iald (pc := 18) C dX11_rests_18 sR_27 rfl <|
    aw_aload_n (pc := 19) C (i := 0) dX11_rests_19 rfl rfl <|
    aw_getR (pc := 20) C (b := 27) dX11_rests_20 fl_X11_89 sR_0 rfl rR_0_38 <|
    aw_iload_n (pc := 23) C (i := 1) dX11_rests_23 rfl rfl <|
    aw_iald (pc := 24) C dX11_rests_24 sR_27 rfl <|
    aw_icmp_gt (pc := 25) C (tgt := 49) dX11_rests_25 rfl (fun _ =>
    aw_iconst (pc := 49) C (v := 0) dX11_rests_49 rfl <|
    aw_zret (pc := 50) C dX11_rests_50 rfl rfl) (fun _ =>
    aw_aload_n (pc := 28) C (i := 0) dX11_rests_28 rfl rfl <|
    aw_getR (pc := 29) C (b := 27) dX11_rests_29 fl_X11_89 sR_0 rfl rR_0_38 <|
    aw_iload_n (pc := 32) C (i := 1) dX11_rests_32 rfl rfl <|
    aw_iconst (pc := 33) C (v := 3) dX11_rests_33 rfl <|
    aw_idivK (pc := 34) C dX11_rests_34 (by decide) <|
    aw_iconst (pc := 35) C (v := 3) dX11_rests_35 rfl <|
    aw_imul (pc := 36) C dX11_rests_36 <|
    aw_iload_n (pc := 37) C (i := 2) dX11_rests_37 rfl rfl <|
    aw_iadd (pc := 38) C dX11_rests_38 <|
    aw_iald (pc := 39) C dX11_rests_39 sR_27 rfl <|
    aw_aload_n (pc := 40) C (i := 0) dX11_rests_40 rfl rfl <|
    aw_getR (pc := 41) C (b := 27) dX11_rests_41 fl_X11_89 sR_0 rfl rR_0_38 <|
    aw_iload_n (pc := 44) C (i := 1) dX11_rests_44 rfl rfl <|
    aw_iald (pc := 45) C dX11_rests_45 sR_27 rfl <|
    aw_icmp_ge (pc := 46) C (tgt := 51) dX11_rests_46 rfl (fun _ =>
    aw_iincV (pc := 51) C (i := 2) (cst := 1) (fun x1 => [(0, .ref 0), (1, .int v1), (2, .int x1)]) dX11_rests_51 rfl rfl (by decide) (fun _ => rfl) fun x1 =>
    aw_goto (pc := 54) C (tgt := 2) dX11_rests_54 rfl <|
    (ih x1 h)) (fun _ =>
    aw_iconst (pc := 49) C (v := 0) dX11_rests_49 rfl <|
    aw_zret (pc := 50) C dX11_rests_50 rfl rfl)))
def X11_rests (v1 : Int32) (h : AH) : Option (Int32 × AH) :=
    X11_rests_l2 v1 FU 0 h
set_option maxRecDepth 100000 in
theorem c_X11_rests (l : Launch) (v1 : Int32) : MC l yX11_rests cX11_rests 3 (some .boolean) rmX11_rests ZR [.ref 0, .int v1] rvI (X11_rests v1) :=
  MC.of (own := RX11) (by decide +kernel) rfl (Nat.le_of_ble_eq_true rfl) fun X yd A h _ C =>
    aw_iconst (pc := 0) C (v := 0) dX11_rests_0 rfl <|
    aw_istore_n (pc := 1) C (i := 2) (lv' := [(0, .ref 0), (1, .int v1), (2, .int 0)]) dX11_rests_1 rfl (by decide) rfl <|
    (aX11_rests_l2 C v1 FU 0 h)

abbrev rmX11_sureMore : Room := { frames := 0, cells := 0, slots := 0, locals := 0 }
def X11_sureMore_j69  (v2 : Int32) (K4 : Int32 → Int32 → AH → Option (Int32 × AH)) (s0 : Int32) (h : AH) : Option (Int32 × AH) :=
    vl (v2 + 1) fun x1 =>
    K4 s0 x1 h
set_option maxRecDepth 100000 in
theorem aX11_sureMore_j69 {X : MCx} {yd : Dyn} {A : Nat → Prop} (C : OK X cX11_sureMore RX11 5 (some .int) rmX11_sureMore A)  (v2 : Int32) (K4 : Int32 → Int32 → AH → Option (Int32 × AH)) (hK4 : ∀ (w1 : Int32) (w2 : Int32) (h : AH), AW X 5 ZR yd A 0 0 (QF X rmX11_sureMore ZR yd rvI A) 4 [(0, .ref 0), (1, .int w1), (2, .int w2)] [] h (K4 w1 w2 h)) (s0 : Int32) (h : AH) : AW X 5 ZR yd A 0 0 (QF X rmX11_sureMore ZR yd rvI A) 69 [(0, .ref 0), (2, .int v2)] [.int s0] h (X11_sureMore_j69 v2 K4 s0 h) := by
    exact aw_istore_n (pc := 69) C (i := 1) (lv' := [(0, .ref 0), (1, .int s0), (2, .int v2)]) dX11_sureMore_69 rfl (by decide) rfl <|
    aw_iincV (pc := 70) C (i := 2) (cst := 1) (fun x1 => [(0, .ref 0), (1, .int s0), (2, .int x1)]) dX11_sureMore_70 rfl rfl (by decide) (fun _ => rfl) fun x1 =>
    aw_goto (pc := 73) C (tgt := 4) dX11_sureMore_73 rfl <|
    (hK4 s0 x1 h)
def X11_sureMore_j52  (v1 : Int32) (v2 : Int32) (v4 : Int32) (K4 : Int32 → Int32 → AH → Option (Int32 × AH)) (K16 : Int32 → Int32 → AH → Option (Int32 × AH)) (s0 : Int32) (h : AH) : Option (Int32 × AH) :=
    vl (v4 + 1) fun x2 =>
    K16 s0 x2 h
set_option maxRecDepth 100000 in
theorem aX11_sureMore_j52 {X : MCx} {yd : Dyn} {A : Nat → Prop} (C : OK X cX11_sureMore RX11 5 (some .int) rmX11_sureMore A)  (v1 : Int32) (v2 : Int32) (v4 : Int32) (K4 : Int32 → Int32 → AH → Option (Int32 × AH)) (hK4 : ∀ (w1 : Int32) (w2 : Int32) (h : AH), AW X 5 ZR yd A 0 0 (QF X rmX11_sureMore ZR yd rvI A) 4 [(0, .ref 0), (1, .int w1), (2, .int w2)] [] h (K4 w1 w2 h)) (K16 : Int32 → Int32 → AH → Option (Int32 × AH)) (hK16 : ∀ (w3 : Int32) (w4 : Int32) (h : AH), AW X 5 ZR yd A 0 0 (QF X rmX11_sureMore ZR yd rvI A) 16 [(0, .ref 0), (1, .int v1), (2, .int v2), (3, .int w3), (4, .int w4)] [] h (K16 w3 w4 h)) (s0 : Int32) (h : AH) : AW X 5 ZR yd A 0 0 (QF X rmX11_sureMore ZR yd rvI A) 52 [(0, .ref 0), (1, .int v1), (2, .int v2), (4, .int v4)] [.int s0] h (X11_sureMore_j52 v1 v2 v4 K4 K16 s0 h) := by
    exact aw_istore_n (pc := 52) C (i := 3) (lv' := [(0, .ref 0), (1, .int v1), (2, .int v2), (3, .int s0), (4, .int v4)]) dX11_sureMore_52 rfl (by decide) rfl <|
    aw_iincV (pc := 53) C (i := 4) (cst := 1) (fun x2 => [(0, .ref 0), (1, .int v1), (2, .int v2), (3, .int s0), (4, .int x2)]) dX11_sureMore_53 rfl rfl (by decide) (fun _ => rfl) fun x2 =>
    aw_goto (pc := 56) C (tgt := 16) dX11_sureMore_56 rfl <|
    (hK16 s0 x2 h)
def X11_sureMore_l16  (v1 : Int32) (v2 : Int32) (K4 : Int32 → Int32 → AH → Option (Int32 × AH)) : Nat → Int32 → Int32 → AH → Option (Int32 × AH)
  | 0, _, _, _ => none
  | n + 1, v3, v4, h =>
    if 3 ≤ v4 then (if v3 ≤ v1 then (X11_sureMore_j69 v2 K4 v1 h)
    else (X11_sureMore_j69 v2 K4 v3 h))
    else (ck ((3 * v2) + v4) 9 (if v3 ≤ (h.1 27 ((3 * v2) + v4).toNatClampNeg) then (X11_sureMore_j52 v1 v2 v4 K4 (X11_sureMore_l16 v1 v2 K4 n) v3 h)
    else (ck ((3 * v2) + v4) 9 (X11_sureMore_j52 v1 v2 v4 K4 (X11_sureMore_l16 v1 v2 K4 n) (h.1 27 ((3 * v2) + v4).toNatClampNeg) h))))
set_option maxRecDepth 100000 in
theorem aX11_sureMore_l16 {X : MCx} {yd : Dyn} {A : Nat → Prop} (C : OK X cX11_sureMore RX11 5 (some .int) rmX11_sureMore A)  (v1 : Int32) (v2 : Int32) (K4 : Int32 → Int32 → AH → Option (Int32 × AH)) (hK4 : ∀ (w1 : Int32) (w2 : Int32) (h : AH), AW X 5 ZR yd A 0 0 (QF X rmX11_sureMore ZR yd rvI A) 4 [(0, .ref 0), (1, .int w1), (2, .int w2)] [] h (K4 w1 w2 h)) : ∀ (n : Nat) (v3 : Int32) (v4 : Int32) (h : AH), AW X 5 ZR yd A 0 0 (QF X rmX11_sureMore ZR yd rvI A) 16 [(0, .ref 0), (1, .int v1), (2, .int v2), (3, .int v3), (4, .int v4)] [] h (X11_sureMore_l16 v1 v2 K4 n v3 v4 h) := by
  intro n
  induction n with
  | zero => intro v3 v4 h; exact aw_none
  | succ n ih =>
    intro v3 v4 h
    exact aw_iload (pc := 16) C (i := 4) dX11_sureMore_16 rfl <|
    aw_iconst (pc := 18) C (v := 3) dX11_sureMore_18 rfl <|
    aw_icmp_ge (pc := 19) C (tgt := 59) dX11_sureMore_19 rfl (fun _ =>
    aw_iload_n (pc := 59) C (i := 3) dX11_sureMore_59 rfl rfl <|
    aw_iload_n (pc := 60) C (i := 1) dX11_sureMore_60 rfl rfl <|
    aw_icmp_le (pc := 61) C (tgt := 68) dX11_sureMore_61 rfl (fun _ =>
    aw_iload_n (pc := 68) C (i := 1) dX11_sureMore_68 rfl rfl <|
    aw_drop [0, 2] (aX11_sureMore_j69 C v2 K4 hK4 v1 h)) (fun _ =>
    aw_iload_n (pc := 64) C (i := 3) dX11_sureMore_64 rfl rfl <|
    aw_goto (pc := 65) C (tgt := 69) dX11_sureMore_65 rfl <|
    aw_drop [0, 2] (aX11_sureMore_j69 C v2 K4 hK4 v3 h))) (fun _ =>
    aw_aload_n (pc := 22) C (i := 0) dX11_sureMore_22 rfl rfl <|
    aw_getR (pc := 23) C (b := 27) dX11_sureMore_23 fl_X11_89 sR_0 rfl rR_0_38 <|
    aw_iconst (pc := 26) C (v := 3) dX11_sureMore_26 rfl <|
    aw_iload_n (pc := 27) C (i := 2) dX11_sureMore_27 rfl rfl <|
    aw_imul (pc := 28) C dX11_sureMore_28 <|
    aw_iload (pc := 29) C (i := 4) dX11_sureMore_29 rfl <|
    aw_iadd (pc := 31) C dX11_sureMore_31 <|
    aw_iald (pc := 32) C dX11_sureMore_32 sR_27 rfl <|
    aw_iload_n (pc := 33) C (i := 3) dX11_sureMore_33 rfl rfl <|
    aw_icmp_ge (pc := 34) C (tgt := 51) dX11_sureMore_34 rfl (fun _ =>
    aw_iload_n (pc := 51) C (i := 3) dX11_sureMore_51 rfl rfl <|
    aw_drop [0, 1, 2, 4] (aX11_sureMore_j52 C v1 v2 v4 K4 hK4 (X11_sureMore_l16 v1 v2 K4 n) ih v3 h)) (fun _ =>
    aw_aload_n (pc := 37) C (i := 0) dX11_sureMore_37 rfl rfl <|
    aw_getR (pc := 38) C (b := 27) dX11_sureMore_38 fl_X11_89 sR_0 rfl rR_0_38 <|
    aw_iconst (pc := 41) C (v := 3) dX11_sureMore_41 rfl <|
    aw_iload_n (pc := 42) C (i := 2) dX11_sureMore_42 rfl rfl <|
    aw_imul (pc := 43) C dX11_sureMore_43 <|
    aw_iload (pc := 44) C (i := 4) dX11_sureMore_44 rfl <|
    aw_iadd (pc := 46) C dX11_sureMore_46 <|
    aw_iald (pc := 47) C dX11_sureMore_47 sR_27 rfl <|
    aw_goto (pc := 48) C (tgt := 52) dX11_sureMore_48 rfl <|
    aw_drop [0, 1, 2, 4] (aX11_sureMore_j52 C v1 v2 v4 K4 hK4 (X11_sureMore_l16 v1 v2 K4 n) ih (h.1 27 ((3 * v2) + v4).toNatClampNeg) h)))
def X11_sureMore_l4  : Nat → Int32 → Int32 → AH → Option (Int32 × AH)
  | 0, _, _, _ => none
  | n + 1, v1, v2, h =>
    if 3 ≤ v2 then (some (v1, h))
    else (X11_sureMore_l16 v1 v2 (X11_sureMore_l4 n) FU 10000 0 h)
set_option maxRecDepth 100000 in
theorem aX11_sureMore_l4 {X : MCx} {yd : Dyn} {A : Nat → Prop} (C : OK X cX11_sureMore RX11 5 (some .int) rmX11_sureMore A)  : ∀ (n : Nat) (v1 : Int32) (v2 : Int32) (h : AH), AW X 5 ZR yd A 0 0 (QF X rmX11_sureMore ZR yd rvI A) 4 [(0, .ref 0), (1, .int v1), (2, .int v2)] [] h (X11_sureMore_l4 n v1 v2 h) := by
  intro n
  induction n with
  | zero => intro v1 v2 h; exact aw_none
  | succ n ih =>
    intro v1 v2 h
    exact aw_iload_n (pc := 4) C (i := 2) dX11_sureMore_4 rfl rfl <|
    aw_iconst (pc := 5) C (v := 3) dX11_sureMore_5 rfl <|
    aw_icmp_ge (pc := 6) C (tgt := 76) dX11_sureMore_6 rfl (fun _ =>
    aw_iload_n (pc := 76) C (i := 1) dX11_sureMore_76 rfl rfl <|
    aw_iret (pc := 77) C dX11_sureMore_77 rfl rfl) (fun _ =>
    aw_sipush (pc := 9) C (v := 10000) dX11_sureMore_9 rfl <|
    aw_istore_n (pc := 12) C (i := 3) (lv' := [(0, .ref 0), (1, .int v1), (2, .int v2), (3, .int 10000)]) dX11_sureMore_12 rfl (by decide) rfl <|
    aw_iconst (pc := 13) C (v := 0) dX11_sureMore_13 rfl <|
    aw_istore (pc := 14) C (i := 4) (lv' := [(0, .ref 0), (1, .int v1), (2, .int v2), (3, .int 10000), (4, .int 0)]) dX11_sureMore_14 (by decide) rfl <|
    (aX11_sureMore_l16 C v1 v2 (X11_sureMore_l4 n) ih FU 10000 0 h))
def X11_sureMore  (h : AH) : Option (Int32 × AH) :=
    X11_sureMore_l4 FU 0 0 h
set_option maxRecDepth 100000 in
theorem c_X11_sureMore (l : Launch)  : MC l yX11_sureMore cX11_sureMore 5 (some .int) rmX11_sureMore ZR [.ref 0] rvI (X11_sureMore) :=
  MC.of (own := RX11) (by decide +kernel) rfl (Nat.le_of_ble_eq_true rfl) fun X yd A h _ C =>
    aw_iconst (pc := 0) C (v := 0) dX11_sureMore_0 rfl <|
    aw_istore_n (pc := 1) C (i := 1) (lv' := [(0, .ref 0), (1, .int 0)]) dX11_sureMore_1 rfl (by decide) rfl <|
    aw_iconst (pc := 2) C (v := 0) dX11_sureMore_2 rfl <|
    aw_istore_n (pc := 3) C (i := 2) (lv' := [(0, .ref 0), (1, .int 0), (2, .int 0)]) dX11_sureMore_3 rfl (by decide) rfl <|
    (aX11_sureMore_l4 C FU 0 0 h)

abbrev rmX11_duel : Room := { frames := 4, cells := 0, slots := 0, locals := 103 }
def X11_duel_l98  (v3 : Int32) : Nat → Int32 → AH → Option (Int32 × AH)
  | 0, _, _ => none
  | n + 1, v5, h =>
    if 9 ≤ v5 then (some ((-9), h))
    else (bd (X11_rests v5 h) fun r5 h6 =>
    if r5 = 0 then (vl (v5 + 1) fun x7 =>
    (X11_duel_l98 v3 n) x7 h6)
    else (if v3 = 0 then (some (((10 * (v5 / 3)) + (rm32 v5 3)), h6))
    else (ck v5 9 (some ((h6.1 27 v5.toNatClampNeg), h6)))))
set_option maxRecDepth 100000 in
theorem aX11_duel_l98 {X : MCx} {yd : Dyn} {A : Nat → Prop} (C : OK X cX11_duel RX11 6 (some .int) rmX11_duel A)  (v3 : Int32) : ∀ (n : Nat) (v5 : Int32) (h : AH), AW X 6 ZR yd A 0 0 (QF X rmX11_duel ZR yd rvI A) 98 [(0, .ref 0), (3, .int v3), (5, .int v5)] [] h (X11_duel_l98 v3 n v5 h) := by
  intro n
  induction n with
  | zero => intro v5 h; exact aw_none
  | succ n ih =>
    intro v5 h
    exact aw_iload (pc := 98) C (i := 5) dX11_duel_98 rfl <|
    aw_bipush (pc := 100) C (v := 9) dX11_duel_100 rfl <|
    aw_icmp_ge (pc := 102) C (tgt := 147) dX11_duel_102 rfl (fun _ =>
    aw_bipush (pc := 147) C (v := (-9)) dX11_duel_147 rfl <|
    aw_iret (pc := 149) C dX11_duel_149 rfl rfl) (fun _ =>
    aw_aload_n (pc := 105) C (i := 0) dX11_duel_105 rfl rfl <|
    aw_iload (pc := 106) C (i := 5) dX11_duel_106 rfl <|
    aw_callF (pc := 108) C (cr_V (rest := []) (F := (X11_rests v5)) C (c_X11_rests X.2.1 v5) dX11_duel_108 mf_X11_rests ml_X11_324 im_X11_rests se_X11_rests sR_0 rfl ⟨(Nat.le_of_ble_eq_true rfl), (Nat.le_of_ble_eq_true rfl)⟩ rfl rfl (Nat.le_of_ble_eq_true rfl)) rfl rfl rfl (Nat.zero_le _) (Nat.zero_le _) fun r5 h6 =>
    aw_if_eq (pc := 111) C (tgt := 141) dX11_duel_111 rfl (fun _ =>
    aw_iincV (pc := 141) C (i := 5) (cst := 1) (fun x7 => [(0, .ref 0), (3, .int v3), (5, .int x7)]) dX11_duel_141 rfl rfl (by decide) (fun _ => rfl) fun x7 =>
    aw_goto (pc := 144) C (tgt := 98) dX11_duel_144 rfl <|
    (ih x7 h6)) (fun _ =>
    aw_iload_n (pc := 114) C (i := 3) dX11_duel_114 rfl rfl <|
    aw_if_ne (pc := 115) C (tgt := 133) dX11_duel_115 rfl (fun _ =>
    aw_bipush (pc := 118) C (v := 10) dX11_duel_118 rfl <|
    aw_iload (pc := 120) C (i := 5) dX11_duel_120 rfl <|
    aw_iconst (pc := 122) C (v := 3) dX11_duel_122 rfl <|
    aw_idivK (pc := 123) C dX11_duel_123 (by decide) <|
    aw_imul (pc := 124) C dX11_duel_124 <|
    aw_iload (pc := 125) C (i := 5) dX11_duel_125 rfl <|
    aw_iconst (pc := 127) C (v := 3) dX11_duel_127 rfl <|
    aw_iremK (pc := 128) C dX11_duel_128 (by decide) <|
    aw_iadd (pc := 129) C dX11_duel_129 <|
    aw_goto (pc := 130) C (tgt := 140) dX11_duel_130 rfl <|
    aw_iret (pc := 140) C dX11_duel_140 rfl rfl) (fun _ =>
    aw_aload_n (pc := 133) C (i := 0) dX11_duel_133 rfl rfl <|
    aw_getR (pc := 134) C (b := 27) dX11_duel_134 fl_X11_89 sR_0 rfl rR_0_38 <|
    aw_iload (pc := 137) C (i := 5) dX11_duel_137 rfl <|
    aw_iald (pc := 139) C dX11_duel_139 sR_27 rfl <|
    aw_iret (pc := 140) C dX11_duel_140 rfl rfl)))
def X11_duel_l45  (v1 : Int32) (v2 : Int32) (v3 : Int32) : Nat → Int32 → AH → Option (Int32 × AH)
  | 0, _, _ => none
  | n + 1, v5, h =>
    if 9 ≤ v5 then (if v3 = 2 then (bd (X11_sureMore h) fun r8 h9 =>
    some (r8, h9))
    else (X11_duel_l98 v3 FU 0 h))
    else (bd (X11_moreFrom v1 (6 * (v5 / 3)) v2 (6 * (rm32 v5 3)) h) fun r10 h11 =>
    ck v5 9 (vl (sI h11 27 v5.toNatClampNeg r10) fun h12 =>
    vl (v5 + 1) fun x13 =>
    (X11_duel_l45 v1 v2 v3 n) x13 h12))
set_option maxRecDepth 100000 in
theorem aX11_duel_l45 {X : MCx} {yd : Dyn} {A : Nat → Prop} (C : OK X cX11_duel RX11 6 (some .int) rmX11_duel A)  (v1 : Int32) (v2 : Int32) (v3 : Int32) : ∀ (n : Nat) (v5 : Int32) (h : AH), AW X 6 ZR yd A 0 0 (QF X rmX11_duel ZR yd rvI A) 45 [(0, .ref 0), (1, .int v1), (2, .int v2), (3, .int v3), (5, .int v5)] [] h (X11_duel_l45 v1 v2 v3 n v5 h) := by
  intro n
  induction n with
  | zero => intro v5 h; exact aw_none
  | succ n ih =>
    intro v5 h
    exact aw_iload (pc := 45) C (i := 5) dX11_duel_45 rfl <|
    aw_bipush (pc := 47) C (v := 9) dX11_duel_47 rfl <|
    aw_icmp_ge (pc := 49) C (tgt := 85) dX11_duel_49 rfl (fun _ =>
    aw_iload_n (pc := 85) C (i := 3) dX11_duel_85 rfl rfl <|
    aw_iconst (pc := 86) C (v := 2) dX11_duel_86 rfl <|
    aw_icmp_ne (pc := 87) C (tgt := 95) dX11_duel_87 rfl (fun _ =>
    aw_aload_n (pc := 90) C (i := 0) dX11_duel_90 rfl rfl <|
    aw_callF (pc := 91) C (cr_V (rest := []) (F := X11_sureMore) C (c_X11_sureMore X.2.1 ) dX11_duel_91 mf_X11_sureMore ml_X11_321 im_X11_sureMore se_X11_sureMore sR_0 rfl ⟨(Nat.le_of_ble_eq_true rfl), (Nat.le_of_ble_eq_true rfl)⟩ rfl rfl (Nat.le_of_ble_eq_true rfl)) rfl rfl rfl (Nat.zero_le _) (Nat.zero_le _) fun r8 h9 =>
    aw_iret (pc := 94) C dX11_duel_94 rfl rfl) (fun _ =>
    aw_iconst (pc := 95) C (v := 0) dX11_duel_95 rfl <|
    aw_istore (pc := 96) C (i := 5) (lv' := [(0, .ref 0), (1, .int v1), (2, .int v2), (3, .int v3), (5, .int 0)]) dX11_duel_96 (by decide) rfl <|
    aw_drop [0, 3, 4] (aX11_duel_l98 C v3 FU 0 h))) (fun _ =>
    aw_aload_n (pc := 52) C (i := 0) dX11_duel_52 rfl rfl <|
    aw_getR (pc := 53) C (b := 27) dX11_duel_53 fl_X11_89 sR_0 rfl rR_0_38 <|
    aw_iload (pc := 56) C (i := 5) dX11_duel_56 rfl <|
    aw_aload_n (pc := 58) C (i := 0) dX11_duel_58 rfl rfl <|
    aw_iload_n (pc := 59) C (i := 1) dX11_duel_59 rfl rfl <|
    aw_bipush (pc := 60) C (v := 6) dX11_duel_60 rfl <|
    aw_iload (pc := 62) C (i := 5) dX11_duel_62 rfl <|
    aw_iconst (pc := 64) C (v := 3) dX11_duel_64 rfl <|
    aw_idivK (pc := 65) C dX11_duel_65 (by decide) <|
    aw_imul (pc := 66) C dX11_duel_66 <|
    aw_iload_n (pc := 67) C (i := 2) dX11_duel_67 rfl rfl <|
    aw_bipush (pc := 68) C (v := 6) dX11_duel_68 rfl <|
    aw_iload (pc := 70) C (i := 5) dX11_duel_70 rfl <|
    aw_iconst (pc := 72) C (v := 3) dX11_duel_72 rfl <|
    aw_iremK (pc := 73) C dX11_duel_73 (by decide) <|
    aw_imul (pc := 74) C dX11_duel_74 <|
    aw_callF (pc := 75) C (cr_V (rest := [.int v5, .ref 27]) (F := (X11_moreFrom v1 (6 * (v5 / 3)) v2 (6 * (rm32 v5 3)))) C (c_X11_moreFrom X.2.1 v1 (6 * (v5 / 3)) v2 (6 * (rm32 v5 3))) dX11_duel_75 mf_X11_moreFrom ml_X11_318 im_X11_moreFrom se_X11_moreFrom sR_0 rfl ⟨(Nat.le_of_ble_eq_true rfl), (Nat.le_of_ble_eq_true rfl)⟩ rfl rfl (Nat.le_of_ble_eq_true rfl)) rfl rfl rfl (Nat.zero_le _) (Nat.zero_le _) fun r10 h11 =>
    aw_iast (pc := 78) C dX11_duel_78 sR_27 rfl fun h12 =>
    aw_iincV (pc := 79) C (i := 5) (cst := 1) (fun x13 => [(0, .ref 0), (1, .int v1), (2, .int v2), (3, .int v3), (5, .int x13)]) dX11_duel_79 rfl rfl (by decide) (fun _ => rfl) fun x13 =>
    aw_goto (pc := 82) C (tgt := 45) dX11_duel_82 rfl <|
    (ih x13 h12))
def X11_duel_j28  (v1 : Int32) (v2 : Int32) (v3 : Int32) (s0 : Int32) (h : AH) : Option (Int32 × AH) :=
    if s0 = 0 then (X11_duel_l45 v1 v2 v3 FU 0 h)
    else (bd (X11_no s0 h) fun r14 h15 =>
    some (r14, h15))
set_option maxRecDepth 100000 in
theorem aX11_duel_j28 {X : MCx} {yd : Dyn} {A : Nat → Prop} (C : OK X cX11_duel RX11 6 (some .int) rmX11_duel A)  (v1 : Int32) (v2 : Int32) (v3 : Int32) (s0 : Int32) (h : AH) : AW X 6 ZR yd A 0 0 (QF X rmX11_duel ZR yd rvI A) 28 [(0, .ref 0), (1, .int v1), (2, .int v2), (3, .int v3)] [.int s0] h (X11_duel_j28 v1 v2 v3 s0 h) := by
    exact aw_istore (pc := 28) C (i := 4) (lv' := [(0, .ref 0), (1, .int v1), (2, .int v2), (3, .int v3), (4, .int s0)]) dX11_duel_28 (by decide) rfl <|
    aw_iload (pc := 30) C (i := 4) dX11_duel_30 rfl <|
    aw_if_eq (pc := 32) C (tgt := 42) dX11_duel_32 rfl (fun _ =>
    aw_iconst (pc := 42) C (v := 0) dX11_duel_42 rfl <|
    aw_istore (pc := 43) C (i := 5) (lv' := [(0, .ref 0), (1, .int v1), (2, .int v2), (3, .int v3), (4, .int s0), (5, .int 0)]) dX11_duel_43 (by decide) rfl <|
    aw_drop [0, 1, 2, 3, 5] (aX11_duel_l45 C v1 v2 v3 FU 0 h)) (fun _ =>
    aw_aload_n (pc := 35) C (i := 0) dX11_duel_35 rfl rfl <|
    aw_iload (pc := 36) C (i := 4) dX11_duel_36 rfl <|
    aw_callF (pc := 38) C (cr_V (rest := []) (F := (X11_no s0)) C (c_X11_no X.2.1 s0) dX11_duel_38 mf_X11_no ml_X11_115 im_X11_no se_X11_no sR_0 rfl ⟨(Nat.le_of_ble_eq_true rfl), (Nat.le_of_ble_eq_true rfl)⟩ rfl rfl (Nat.le_of_ble_eq_true rfl)) rfl rfl rfl (Nat.zero_le _) (Nat.zero_le _) fun r14 h15 =>
    aw_iret (pc := 41) C dX11_duel_41 rfl rfl)
def X11_duel (v1 : Int32) (v2 : Int32) (v3 : Int32) (h : AH) : Option (Int32 × AH) :=
    bd (X11_areTwo v1 v2 h) fun r1 h2 =>
    if r1 = 0 then (X11_duel_j28 v1 v2 v3 (-1) h2)
    else (bd (X11_isIn v3 0 2 h2) fun r3 h4 =>
    if r3 = 0 then (X11_duel_j28 v1 v2 v3 (-2) h4)
    else (X11_duel_j28 v1 v2 v3 0 h4))
set_option maxRecDepth 100000 in
theorem c_X11_duel (l : Launch) (v1 : Int32) (v2 : Int32) (v3 : Int32) : MC l yX11_duel cX11_duel 6 (some .int) rmX11_duel ZR [.ref 0, .int v1, .int v2, .int v3] rvI (X11_duel v1 v2 v3) :=
  MC.of (own := RX11) (by decide +kernel) rfl (Nat.le_of_ble_eq_true rfl) fun X yd A h _ C =>
    aw_aload_n (pc := 0) C (i := 0) dX11_duel_0 rfl rfl <|
    aw_iload_n (pc := 1) C (i := 1) dX11_duel_1 rfl rfl <|
    aw_iload_n (pc := 2) C (i := 2) dX11_duel_2 rfl rfl <|
    aw_callF (pc := 3) C (cr_V (rest := []) (F := (X11_areTwo v1 v2)) C (c_X11_areTwo X.2.1 v1 v2) dX11_duel_3 mf_X11_areTwo ml_X11_315 im_X11_areTwo se_X11_areTwo sR_0 rfl ⟨(Nat.le_of_ble_eq_true rfl), (Nat.le_of_ble_eq_true rfl)⟩ rfl rfl (Nat.le_of_ble_eq_true rfl)) rfl rfl rfl (Nat.zero_le _) (Nat.zero_le _) fun r1 h2 =>
    aw_if_ne (pc := 6) C (tgt := 13) dX11_duel_6 rfl (fun _ =>
    aw_iconst (pc := 9) C (v := (-1)) dX11_duel_9 rfl <|
    aw_goto (pc := 10) C (tgt := 28) dX11_duel_10 rfl <|
    (aX11_duel_j28 C v1 v2 v3 (-1) h2)) (fun _ =>
    aw_iload_n (pc := 13) C (i := 3) dX11_duel_13 rfl rfl <|
    aw_iconst (pc := 14) C (v := 0) dX11_duel_14 rfl <|
    aw_iconst (pc := 15) C (v := 2) dX11_duel_15 rfl <|
    aw_callF (pc := 16) C (cr_S (rest := []) (F := (X11_isIn v3 0 2)) C (c_X11_isIn X.2.1 v3 0 2) dX11_duel_16 mf_X11_isIn ml_X11_126 st_X11_isIn ⟨(Nat.le_of_ble_eq_true rfl), (Nat.le_of_ble_eq_true rfl)⟩ rfl rfl (Nat.le_of_ble_eq_true rfl)) rfl rfl rfl (Nat.zero_le _) (Nat.zero_le _) fun r3 h4 =>
    aw_if_ne (pc := 19) C (tgt := 27) dX11_duel_19 rfl (fun _ =>
    aw_bipush (pc := 22) C (v := (-2)) dX11_duel_22 rfl <|
    aw_goto (pc := 24) C (tgt := 28) dX11_duel_24 rfl <|
    (aX11_duel_j28 C v1 v2 v3 (-2) h4)) (fun _ =>
    aw_iconst (pc := 27) C (v := 0) dX11_duel_27 rfl <|
    (aX11_duel_j28 C v1 v2 v3 0 h4)))

abbrev rmX11_canPractise : Room := { frames := 0, cells := 0, slots := 0, locals := 0 }
def X11_canPractise (v1 : Int32) (v2 : Int32) (h : AH) : Option (Int32 × AH) :=
    vl v2 fun y1 =>
    if y1 = 0 then (ck v1 4 (if (h.1 6 v1.toNatClampNeg) ≤ 0 then (cz 0 (some (0, h)))
    else (cz 1 (some (1, h)))))
    else if y1 = 1 then (ck v1 4 (if (h.1 5 v1.toNatClampNeg) ≤ 0 then (cz 0 (some (0, h)))
    else (cz 1 (some (1, h)))))
    else if y1 = 2 then (ck v1 4 (if 99 ≤ (h.1 7 v1.toNatClampNeg) then (cz 0 (some (0, h)))
    else (cz 1 (some (1, h)))))
    else if y1 = 3 then (ck v1 4 (if 4 ≤ (h.1 8 v1.toNatClampNeg) then (cz 0 (some (0, h)))
    else (cz 1 (some (1, h)))))
    else (ck v1 4 (if (h.1 8 v1.toNatClampNeg) ≤ 0 then (cz 0 (some (0, h)))
    else (cz 1 (some (1, h)))))
set_option maxRecDepth 100000 in
theorem c_X11_canPractise (l : Launch) (v1 : Int32) (v2 : Int32) : MC l yX11_canPractise cX11_canPractise 3 (some .boolean) rmX11_canPractise ZR [.ref 0, .int v1, .int v2] rvI (X11_canPractise v1 v2) :=
  MC.of (own := RX11) (by decide +kernel) rfl (Nat.le_of_ble_eq_true rfl) fun X yd A h _ C =>
    aw_iload_n (pc := 0) C (i := 2) dX11_canPractise_0 rfl rfl <|
    aw_vlI fun y1 =>
    aw_if (fun c2 => aw_tswA (pc := 1) C (off := 31) (tg := 32) 0 dX11_canPractise_1 (by rw [c2]; rfl) (by decide) (by decide) rfl rfl (aw_aload_n (pc := 32) C (i := 0) dX11_canPractise_32 rfl rfl <|
    aw_getR (pc := 33) C (b := 6) dX11_canPractise_33 fl_X11_25 sR_0 rfl rR_0_5 <|
    aw_iload_n (pc := 36) C (i := 1) dX11_canPractise_36 rfl rfl <|
    aw_iald (pc := 37) C dX11_canPractise_37 sR_6 rfl <|
    aw_if_le (pc := 38) C (tgt := 45) dX11_canPractise_38 rfl (fun _ =>
    aw_iconst (pc := 45) C (v := 0) dX11_canPractise_45 rfl <|
    aw_zret (pc := 46) C dX11_canPractise_46 rfl rfl) (fun _ =>
    aw_iconst (pc := 41) C (v := 1) dX11_canPractise_41 rfl <|
    aw_goto (pc := 42) C (tgt := 46) dX11_canPractise_42 rfl <|
    aw_zret (pc := 46) C dX11_canPractise_46 rfl rfl))) (fun c2 =>
    aw_if (fun c3 => aw_tswA (pc := 1) C (off := 46) (tg := 47) 1 dX11_canPractise_1 (by rw [c3]; rfl) (by decide) (by decide) rfl rfl (aw_aload_n (pc := 47) C (i := 0) dX11_canPractise_47 rfl rfl <|
    aw_getR (pc := 48) C (b := 5) dX11_canPractise_48 fl_X11_22 sR_0 rfl rR_0_4 <|
    aw_iload_n (pc := 51) C (i := 1) dX11_canPractise_51 rfl rfl <|
    aw_iald (pc := 52) C dX11_canPractise_52 sR_5 rfl <|
    aw_if_le (pc := 53) C (tgt := 60) dX11_canPractise_53 rfl (fun _ =>
    aw_iconst (pc := 60) C (v := 0) dX11_canPractise_60 rfl <|
    aw_zret (pc := 61) C dX11_canPractise_61 rfl rfl) (fun _ =>
    aw_iconst (pc := 56) C (v := 1) dX11_canPractise_56 rfl <|
    aw_goto (pc := 57) C (tgt := 61) dX11_canPractise_57 rfl <|
    aw_zret (pc := 61) C dX11_canPractise_61 rfl rfl))) (fun c3 =>
    aw_if (fun c4 => aw_tswA (pc := 1) C (off := 61) (tg := 62) 2 dX11_canPractise_1 (by rw [c4]; rfl) (by decide) (by decide) rfl rfl (aw_aload_n (pc := 62) C (i := 0) dX11_canPractise_62 rfl rfl <|
    aw_getR (pc := 63) C (b := 7) dX11_canPractise_63 fl_X11_28 sR_0 rfl rR_0_6 <|
    aw_iload_n (pc := 66) C (i := 1) dX11_canPractise_66 rfl rfl <|
    aw_iald (pc := 67) C dX11_canPractise_67 sR_7 rfl <|
    aw_bipush (pc := 68) C (v := 99) dX11_canPractise_68 rfl <|
    aw_icmp_ge (pc := 70) C (tgt := 77) dX11_canPractise_70 rfl (fun _ =>
    aw_iconst (pc := 77) C (v := 0) dX11_canPractise_77 rfl <|
    aw_zret (pc := 78) C dX11_canPractise_78 rfl rfl) (fun _ =>
    aw_iconst (pc := 73) C (v := 1) dX11_canPractise_73 rfl <|
    aw_goto (pc := 74) C (tgt := 78) dX11_canPractise_74 rfl <|
    aw_zret (pc := 78) C dX11_canPractise_78 rfl rfl))) (fun c4 =>
    aw_if (fun c5 => aw_tswA (pc := 1) C (off := 78) (tg := 79) 3 dX11_canPractise_1 (by rw [c5]; rfl) (by decide) (by decide) rfl rfl (aw_aload_n (pc := 79) C (i := 0) dX11_canPractise_79 rfl rfl <|
    aw_getR (pc := 80) C (b := 8) dX11_canPractise_80 fl_X11_31 sR_0 rfl rR_0_7 <|
    aw_iload_n (pc := 83) C (i := 1) dX11_canPractise_83 rfl rfl <|
    aw_iald (pc := 84) C dX11_canPractise_84 sR_8 rfl <|
    aw_iconst (pc := 85) C (v := 4) dX11_canPractise_85 rfl <|
    aw_icmp_ge (pc := 86) C (tgt := 93) dX11_canPractise_86 rfl (fun _ =>
    aw_iconst (pc := 93) C (v := 0) dX11_canPractise_93 rfl <|
    aw_zret (pc := 94) C dX11_canPractise_94 rfl rfl) (fun _ =>
    aw_iconst (pc := 89) C (v := 1) dX11_canPractise_89 rfl <|
    aw_goto (pc := 90) C (tgt := 94) dX11_canPractise_90 rfl <|
    aw_zret (pc := 94) C dX11_canPractise_94 rfl rfl))) (fun c5 =>
    aw_tswD (pc := 1) C (N := 4) (td := 95) [0, 1, 2, 3] dX11_canPractise_1 (List.forall_mem_cons.mpr ⟨ti_ne c2 rfl, List.forall_mem_cons.mpr ⟨ti_ne c3 rfl, List.forall_mem_cons.mpr ⟨ti_ne c4 rfl, List.forall_mem_cons.mpr ⟨ti_ne c5 rfl, fun _ hz => by cases hz⟩⟩⟩⟩) rfl (by decide) rfl (aw_aload_n (pc := 95) C (i := 0) dX11_canPractise_95 rfl rfl <|
    aw_getR (pc := 96) C (b := 8) dX11_canPractise_96 fl_X11_31 sR_0 rfl rR_0_7 <|
    aw_iload_n (pc := 99) C (i := 1) dX11_canPractise_99 rfl rfl <|
    aw_iald (pc := 100) C dX11_canPractise_100 sR_8 rfl <|
    aw_if_le (pc := 101) C (tgt := 108) dX11_canPractise_101 rfl (fun _ =>
    aw_iconst (pc := 108) C (v := 0) dX11_canPractise_108 rfl <|
    aw_zret (pc := 109) C dX11_canPractise_109 rfl rfl) (fun _ =>
    aw_iconst (pc := 104) C (v := 1) dX11_canPractise_104 rfl <|
    aw_goto (pc := 105) C (tgt := 109) dX11_canPractise_105 rfl <|
    aw_zret (pc := 109) C dX11_canPractise_109 rfl rfl))))))

abbrev rmX11_practises : Room := { frames := 0, cells := 0, slots := 0, locals := 0 }
def X11_practises (v1 : Int32) (v2 : Int32) (v3 : Int32) (h : AH) : Option (Unit × AH) :=
    vl v2 fun y1 =>
    if y1 = 0 then (ck v1 4 (ck v1 4 (vl (sI h 6 v1.toNatClampNeg ((h.1 6 v1.toNatClampNeg) - v3)) fun h2 =>
    some ((), h2))))
    else if y1 = 1 then (ck v1 4 (ck v1 4 (vl (sI h 5 v1.toNatClampNeg ((h.1 5 v1.toNatClampNeg) - v3)) fun h4 =>
    some ((), h4))))
    else if y1 = 2 then (ck v1 4 (ck v1 4 (vl (sI h 7 v1.toNatClampNeg ((h.1 7 v1.toNatClampNeg) + v3)) fun h6 =>
    some ((), h6))))
    else if y1 = 3 then (ck v1 4 (ck v1 4 (vl (sI h 8 v1.toNatClampNeg ((h.1 8 v1.toNatClampNeg) + v3)) fun h8 =>
    some ((), h8))))
    else (ck v1 4 (ck v1 4 (vl (sI h 8 v1.toNatClampNeg ((h.1 8 v1.toNatClampNeg) - v3)) fun h10 =>
    some ((), h10))))
set_option maxRecDepth 100000 in
theorem c_X11_practises (l : Launch) (v1 : Int32) (v2 : Int32) (v3 : Int32) : MC l yX11_practises cX11_practises 4 none rmX11_practises ZR [.ref 0, .int v1, .int v2, .int v3] rvV (X11_practises v1 v2 v3) :=
  MC.of (own := RX11) (by decide +kernel) rfl (Nat.le_of_ble_eq_true rfl) fun X yd A h _ C =>
    aw_iload_n (pc := 0) C (i := 2) dX11_practises_0 rfl rfl <|
    aw_vlI fun y1 =>
    aw_if (fun c3 => aw_tswA (pc := 1) C (off := 31) (tg := 32) 0 dX11_practises_1 (by rw [c3]; rfl) (by decide) (by decide) rfl rfl (aw_aload_n (pc := 32) C (i := 0) dX11_practises_32 rfl rfl <|
    aw_getR (pc := 33) C (b := 6) dX11_practises_33 fl_X11_25 sR_0 rfl rR_0_5 <|
    aw_iload_n (pc := 36) C (i := 1) dX11_practises_36 rfl rfl <|
    aw_dup2 (pc := 37) C dX11_practises_37 rfl rfl <|
    aw_iald (pc := 38) C dX11_practises_38 sR_6 rfl <|
    aw_iload_n (pc := 39) C (i := 3) dX11_practises_39 rfl rfl <|
    aw_isub (pc := 40) C dX11_practises_40 <|
    aw_iast (pc := 41) C dX11_practises_41 sR_6 rfl fun h2 =>
    aw_goto (pc := 42) C (tgt := 94) dX11_practises_42 rfl <|
    aw_vret (pc := 94) C dX11_practises_94 rfl rfl)) (fun c3 =>
    aw_if (fun c5 => aw_tswA (pc := 1) C (off := 44) (tg := 45) 1 dX11_practises_1 (by rw [c5]; rfl) (by decide) (by decide) rfl rfl (aw_aload_n (pc := 45) C (i := 0) dX11_practises_45 rfl rfl <|
    aw_getR (pc := 46) C (b := 5) dX11_practises_46 fl_X11_22 sR_0 rfl rR_0_4 <|
    aw_iload_n (pc := 49) C (i := 1) dX11_practises_49 rfl rfl <|
    aw_dup2 (pc := 50) C dX11_practises_50 rfl rfl <|
    aw_iald (pc := 51) C dX11_practises_51 sR_5 rfl <|
    aw_iload_n (pc := 52) C (i := 3) dX11_practises_52 rfl rfl <|
    aw_isub (pc := 53) C dX11_practises_53 <|
    aw_iast (pc := 54) C dX11_practises_54 sR_5 rfl fun h4 =>
    aw_goto (pc := 55) C (tgt := 94) dX11_practises_55 rfl <|
    aw_vret (pc := 94) C dX11_practises_94 rfl rfl)) (fun c5 =>
    aw_if (fun c7 => aw_tswA (pc := 1) C (off := 57) (tg := 58) 2 dX11_practises_1 (by rw [c7]; rfl) (by decide) (by decide) rfl rfl (aw_aload_n (pc := 58) C (i := 0) dX11_practises_58 rfl rfl <|
    aw_getR (pc := 59) C (b := 7) dX11_practises_59 fl_X11_28 sR_0 rfl rR_0_6 <|
    aw_iload_n (pc := 62) C (i := 1) dX11_practises_62 rfl rfl <|
    aw_dup2 (pc := 63) C dX11_practises_63 rfl rfl <|
    aw_iald (pc := 64) C dX11_practises_64 sR_7 rfl <|
    aw_iload_n (pc := 65) C (i := 3) dX11_practises_65 rfl rfl <|
    aw_iadd (pc := 66) C dX11_practises_66 <|
    aw_iast (pc := 67) C dX11_practises_67 sR_7 rfl fun h6 =>
    aw_goto (pc := 68) C (tgt := 94) dX11_practises_68 rfl <|
    aw_vret (pc := 94) C dX11_practises_94 rfl rfl)) (fun c7 =>
    aw_if (fun c9 => aw_tswA (pc := 1) C (off := 70) (tg := 71) 3 dX11_practises_1 (by rw [c9]; rfl) (by decide) (by decide) rfl rfl (aw_aload_n (pc := 71) C (i := 0) dX11_practises_71 rfl rfl <|
    aw_getR (pc := 72) C (b := 8) dX11_practises_72 fl_X11_31 sR_0 rfl rR_0_7 <|
    aw_iload_n (pc := 75) C (i := 1) dX11_practises_75 rfl rfl <|
    aw_dup2 (pc := 76) C dX11_practises_76 rfl rfl <|
    aw_iald (pc := 77) C dX11_practises_77 sR_8 rfl <|
    aw_iload_n (pc := 78) C (i := 3) dX11_practises_78 rfl rfl <|
    aw_iadd (pc := 79) C dX11_practises_79 <|
    aw_iast (pc := 80) C dX11_practises_80 sR_8 rfl fun h8 =>
    aw_goto (pc := 81) C (tgt := 94) dX11_practises_81 rfl <|
    aw_vret (pc := 94) C dX11_practises_94 rfl rfl)) (fun c9 =>
    aw_tswD (pc := 1) C (N := 4) (td := 84) [0, 1, 2, 3] dX11_practises_1 (List.forall_mem_cons.mpr ⟨ti_ne c3 rfl, List.forall_mem_cons.mpr ⟨ti_ne c5 rfl, List.forall_mem_cons.mpr ⟨ti_ne c7 rfl, List.forall_mem_cons.mpr ⟨ti_ne c9 rfl, fun _ hz => by cases hz⟩⟩⟩⟩) rfl (by decide) rfl (aw_aload_n (pc := 84) C (i := 0) dX11_practises_84 rfl rfl <|
    aw_getR (pc := 85) C (b := 8) dX11_practises_85 fl_X11_31 sR_0 rfl rR_0_7 <|
    aw_iload_n (pc := 88) C (i := 1) dX11_practises_88 rfl rfl <|
    aw_dup2 (pc := 89) C dX11_practises_89 rfl rfl <|
    aw_iald (pc := 90) C dX11_practises_90 sR_8 rfl <|
    aw_iload_n (pc := 91) C (i := 3) dX11_practises_91 rfl rfl <|
    aw_isub (pc := 92) C dX11_practises_92 <|
    aw_iast (pc := 93) C dX11_practises_93 sR_8 rfl fun h10 =>
    aw_vret (pc := 94) C dX11_practises_94 rfl rfl)))))

abbrev rmX11_practice : Room := { frames := 5, cells := 0, slots := 0, locals := 123 }
def X11_practice_j95  (v1 : Int32) (v2 : Int32) (v3 : Int64) (v5 : Int32) (v6 : Int32) (K33 : Int64 → Int32 → Int32 → AH → Option (Int32 × AH)) (h : AH) : Option (Int32 × AH) :=
    vl (v6 + 1) fun x16 =>
    K33 v3 v5 x16 h
set_option maxRecDepth 100000 in
theorem aX11_practice_j95 {X : MCx} {yd : Dyn} {A : Nat → Prop} (C : OK X cX11_practice RX11 9 (some .int) rmX11_practice A)  (v1 : Int32) (v2 : Int32) (v3 : Int64) (v5 : Int32) (v6 : Int32) (K33 : Int64 → Int32 → Int32 → AH → Option (Int32 × AH)) (hK33 : ∀ (w3 : Int64) (w5 : Int32) (w6 : Int32) (h : AH), AW X 9 ZR yd A 0 0 (QF X rmX11_practice ZR yd rvI A) 33 [(0, .ref 0), (1, .int v1), (2, .int v2), (3, .long w3), (5, .int w5), (6, .int w6)] [] h (K33 w3 w5 w6 h)) (h : AH) : AW X 9 ZR yd A 0 0 (QF X rmX11_practice ZR yd rvI A) 95 [(0, .ref 0), (1, .int v1), (2, .int v2), (3, .long v3), (5, .int v5), (6, .int v6)] [] h (X11_practice_j95 v1 v2 v3 v5 v6 K33 h) := by
    exact aw_iincV (pc := 95) C (i := 6) (cst := 1) (fun x16 => [(0, .ref 0), (1, .int v1), (2, .int v2), (3, .long v3), (5, .int v5), (6, .int x16)]) dX11_practice_95 rfl rfl (by decide) (fun _ => rfl) fun x16 =>
    aw_goto (pc := 98) C (tgt := 33) dX11_practice_98 rfl <|
    (hK33 v3 v5 x16 h)
def X11_practice_l33  (v1 : Int32) (v2 : Int32) : Nat → Int64 → Int32 → Int32 → AH → Option (Int32 × AH)
  | 0, _, _, _, _ => none
  | n + 1, v3, v5, v6, h =>
    if 5 ≤ v6 then (some (v5, h))
    else (bd (X11_canPractise v1 v6 h) fun r8 h9 =>
    if r8 = 0 then (X11_practice_j95 v1 v2 v3 v5 v6 (X11_practice_l33 v1 v2 n) h9)
    else (bd (X11_practises v1 v6 1 h9) fun _ h11 =>
    bd (X11_counted v1 v2 2 0 h11) fun r12 h13 =>
    bd (X11_practises v1 v6 (-1) h13) fun _ h15 =>
    if 0 < (lcmpV r12 v3) then (X11_practice_j95 v1 v2 r12 v6 v6 (X11_practice_l33 v1 v2 n) h15)
    else (X11_practice_j95 v1 v2 v3 v5 v6 (X11_practice_l33 v1 v2 n) h15)))
set_option maxRecDepth 100000 in
theorem aX11_practice_l33 {X : MCx} {yd : Dyn} {A : Nat → Prop} (C : OK X cX11_practice RX11 9 (some .int) rmX11_practice A)  (v1 : Int32) (v2 : Int32) : ∀ (n : Nat) (v3 : Int64) (v5 : Int32) (v6 : Int32) (h : AH), AW X 9 ZR yd A 0 0 (QF X rmX11_practice ZR yd rvI A) 33 [(0, .ref 0), (1, .int v1), (2, .int v2), (3, .long v3), (5, .int v5), (6, .int v6)] [] h (X11_practice_l33 v1 v2 n v3 v5 v6 h) := by
  intro n
  induction n with
  | zero => intro v3 v5 v6 h; exact aw_none
  | succ n ih =>
    intro v3 v5 v6 h
    exact aw_iload (pc := 33) C (i := 6) dX11_practice_33 rfl <|
    aw_iconst (pc := 35) C (v := 5) dX11_practice_35 rfl <|
    aw_icmp_ge (pc := 36) C (tgt := 101) dX11_practice_36 rfl (fun _ =>
    aw_iload (pc := 101) C (i := 5) dX11_practice_101 rfl <|
    aw_iret (pc := 103) C dX11_practice_103 rfl rfl) (fun _ =>
    aw_aload_n (pc := 39) C (i := 0) dX11_practice_39 rfl rfl <|
    aw_iload_n (pc := 40) C (i := 1) dX11_practice_40 rfl rfl <|
    aw_iload (pc := 41) C (i := 6) dX11_practice_41 rfl <|
    aw_callF (pc := 43) C (cr_V (rest := []) (F := (X11_canPractise v1 v6)) C (c_X11_canPractise X.2.1 v1 v6) dX11_practice_43 mf_X11_canPractise ml_X11_327 im_X11_canPractise se_X11_canPractise sR_0 rfl ⟨(Nat.le_of_ble_eq_true rfl), (Nat.le_of_ble_eq_true rfl)⟩ rfl rfl (Nat.le_of_ble_eq_true rfl)) rfl rfl rfl (Nat.zero_le _) (Nat.zero_le _) fun r8 h9 =>
    aw_if_ne (pc := 46) C (tgt := 52) dX11_practice_46 rfl (fun _ =>
    aw_goto (pc := 49) C (tgt := 95) dX11_practice_49 rfl <|
    (aX11_practice_j95 C v1 v2 v3 v5 v6 (X11_practice_l33 v1 v2 n) ih h9)) (fun _ =>
    aw_aload_n (pc := 52) C (i := 0) dX11_practice_52 rfl rfl <|
    aw_iload_n (pc := 53) C (i := 1) dX11_practice_53 rfl rfl <|
    aw_iload (pc := 54) C (i := 6) dX11_practice_54 rfl <|
    aw_iconst (pc := 56) C (v := 1) dX11_practice_56 rfl <|
    aw_callF (pc := 57) C (cr_V (rest := []) (F := (X11_practises v1 v6 1)) C (c_X11_practises X.2.1 v1 v6 1) dX11_practice_57 mf_X11_practises ml_X11_330 im_X11_practises se_X11_practises sR_0 rfl ⟨(Nat.le_of_ble_eq_true rfl), (Nat.le_of_ble_eq_true rfl)⟩ rfl rfl (Nat.le_of_ble_eq_true rfl)) rfl rfl rfl (Nat.zero_le _) (Nat.zero_le _) fun _ h11 =>
    aw_aload_n (pc := 60) C (i := 0) dX11_practice_60 rfl rfl <|
    aw_iload_n (pc := 61) C (i := 1) dX11_practice_61 rfl rfl <|
    aw_iload_n (pc := 62) C (i := 2) dX11_practice_62 rfl rfl <|
    aw_iconst (pc := 63) C (v := 2) dX11_practice_63 rfl <|
    aw_iconst (pc := 64) C (v := 0) dX11_practice_64 rfl <|
    aw_callF (pc := 65) C (cr_V (rest := []) (F := (X11_counted v1 v2 2 0)) C (c_X11_counted X.2.1 v1 v2 2 0) dX11_practice_65 mf_X11_counted ml_X11_242 im_X11_counted se_X11_counted sR_0 rfl ⟨(Nat.le_of_ble_eq_true rfl), (Nat.le_of_ble_eq_true rfl)⟩ rfl rfl (Nat.le_of_ble_eq_true rfl)) rfl rfl rfl (Nat.zero_le _) (Nat.zero_le _) fun r12 h13 =>
    aw_lstore (pc := 68) C (i := 7) (lv' := [(0, .ref 0), (1, .int v1), (2, .int v2), (3, .long v3), (5, .int v5), (6, .int v6), (7, .long r12)]) dX11_practice_68 (by decide) rfl <|
    aw_aload_n (pc := 70) C (i := 0) dX11_practice_70 rfl rfl <|
    aw_iload_n (pc := 71) C (i := 1) dX11_practice_71 rfl rfl <|
    aw_iload (pc := 72) C (i := 6) dX11_practice_72 rfl <|
    aw_iconst (pc := 74) C (v := (-1)) dX11_practice_74 rfl <|
    aw_callF (pc := 75) C (cr_V (rest := []) (F := (X11_practises v1 v6 (-1))) C (c_X11_practises X.2.1 v1 v6 (-1)) dX11_practice_75 mf_X11_practises ml_X11_330 im_X11_practises se_X11_practises sR_0 rfl ⟨(Nat.le_of_ble_eq_true rfl), (Nat.le_of_ble_eq_true rfl)⟩ rfl rfl (Nat.le_of_ble_eq_true rfl)) rfl rfl rfl (Nat.zero_le _) (Nat.zero_le _) fun _ h15 =>
    aw_lload (pc := 78) C (i := 7) dX11_practice_78 rfl <|
    aw_lload_n (pc := 80) C (i := 3) dX11_practice_80 rfl rfl <|
    aw_lcmp (pc := 81) C dX11_practice_81 <|
    aw_if_gt (pc := 82) C (tgt := 88) dX11_practice_82 rfl (fun _ =>
    aw_iload (pc := 88) C (i := 6) dX11_practice_88 rfl <|
    aw_istore (pc := 90) C (i := 5) (lv' := [(0, .ref 0), (1, .int v1), (2, .int v2), (3, .long v3), (5, .int v6), (6, .int v6), (7, .long r12)]) dX11_practice_90 (by decide) rfl <|
    aw_lload (pc := 92) C (i := 7) dX11_practice_92 rfl <|
    aw_lstore_n (pc := 94) C (i := 3) (lv' := [(0, .ref 0), (1, .int v1), (2, .int v2), (3, .long r12), (5, .int v6), (6, .int v6), (7, .long r12)]) dX11_practice_94 rfl (by decide) rfl <|
    aw_drop [0, 1, 2, 3, 4, 5] (aX11_practice_j95 C v1 v2 r12 v6 v6 (X11_practice_l33 v1 v2 n) ih h15)) (fun _ =>
    aw_goto (pc := 85) C (tgt := 95) dX11_practice_85 rfl <|
    aw_drop [0, 1, 2, 3, 4, 5] (aX11_practice_j95 C v1 v2 v3 v5 v6 (X11_practice_l33 v1 v2 n) ih h15))))
def X11_practice (v1 : Int32) (h : AH) : Option (Int32 × AH) :=
    bd (X11_isJumper v1 h) fun r1 h2 =>
    if r1 = 0 then (bd (X11_no (-1) h2) fun r17 h18 =>
    some (r17, h18))
    else (bd (X11_placeOf v1 h2) fun r3 h4 =>
    bd (X11_meanParts v1 h4) fun r5 h6 =>
    vl (-9) fun x7 =>
    X11_practice_l33 v1 r3 FU r5 x7 0 h6)
set_option maxRecDepth 100000 in
theorem c_X11_practice (l : Launch) (v1 : Int32) : MC l yX11_practice cX11_practice 9 (some .int) rmX11_practice ZR [.ref 0, .int v1] rvI (X11_practice v1) :=
  MC.of (own := RX11) (by decide +kernel) rfl (Nat.le_of_ble_eq_true rfl) fun X yd A h _ C =>
    aw_aload_n (pc := 0) C (i := 0) dX11_practice_0 rfl rfl <|
    aw_iload_n (pc := 1) C (i := 1) dX11_practice_1 rfl rfl <|
    aw_callF (pc := 2) C (cr_V (rest := []) (F := (X11_isJumper v1)) C (c_X11_isJumper X.2.1 v1) dX11_practice_2 mf_X11_isJumper ml_X11_207 im_X11_isJumper se_X11_isJumper sR_0 rfl ⟨(Nat.le_of_ble_eq_true rfl), (Nat.le_of_ble_eq_true rfl)⟩ rfl rfl (Nat.le_of_ble_eq_true rfl)) rfl rfl rfl (Nat.zero_le _) (Nat.zero_le _) fun r1 h2 =>
    aw_if_ne (pc := 5) C (tgt := 14) dX11_practice_5 rfl (fun _ =>
    aw_aload_n (pc := 8) C (i := 0) dX11_practice_8 rfl rfl <|
    aw_iconst (pc := 9) C (v := (-1)) dX11_practice_9 rfl <|
    aw_callF (pc := 10) C (cr_V (rest := []) (F := (X11_no (-1))) C (c_X11_no X.2.1 (-1)) dX11_practice_10 mf_X11_no ml_X11_115 im_X11_no se_X11_no sR_0 rfl ⟨(Nat.le_of_ble_eq_true rfl), (Nat.le_of_ble_eq_true rfl)⟩ rfl rfl (Nat.le_of_ble_eq_true rfl)) rfl rfl rfl (Nat.zero_le _) (Nat.zero_le _) fun r17 h18 =>
    aw_iret (pc := 13) C dX11_practice_13 rfl rfl) (fun _ =>
    aw_aload_n (pc := 14) C (i := 0) dX11_practice_14 rfl rfl <|
    aw_iload_n (pc := 15) C (i := 1) dX11_practice_15 rfl rfl <|
    aw_callF (pc := 16) C (cr_V (rest := []) (F := (X11_placeOf v1)) C (c_X11_placeOf X.2.1 v1) dX11_practice_16 mf_X11_placeOf ml_X11_223 im_X11_placeOf se_X11_placeOf sR_0 rfl ⟨(Nat.le_of_ble_eq_true rfl), (Nat.le_of_ble_eq_true rfl)⟩ rfl rfl (Nat.le_of_ble_eq_true rfl)) rfl rfl rfl (Nat.zero_le _) (Nat.zero_le _) fun r3 h4 =>
    aw_istore_n (pc := 19) C (i := 2) (lv' := [(0, .ref 0), (1, .int v1), (2, .int r3)]) dX11_practice_19 rfl (by decide) rfl <|
    aw_aload_n (pc := 20) C (i := 0) dX11_practice_20 rfl rfl <|
    aw_iload_n (pc := 21) C (i := 1) dX11_practice_21 rfl rfl <|
    aw_callF (pc := 22) C (cr_V (rest := []) (F := (X11_meanParts v1)) C (c_X11_meanParts X.2.1 v1) dX11_practice_22 mf_X11_meanParts ml_X11_254 im_X11_meanParts se_X11_meanParts sR_0 rfl ⟨(Nat.le_of_ble_eq_true rfl), (Nat.le_of_ble_eq_true rfl)⟩ rfl rfl (Nat.le_of_ble_eq_true rfl)) rfl rfl rfl (Nat.zero_le _) (Nat.zero_le _) fun r5 h6 =>
    aw_lstore_n (pc := 25) C (i := 3) (lv' := [(0, .ref 0), (1, .int v1), (2, .int r3), (3, .long r5)]) dX11_practice_25 rfl (by decide) rfl <|
    aw_bipush (pc := 26) C (v := (-9)) dX11_practice_26 rfl <|
    aw_istoreV (pc := 28) C (i := 5) (fun x7 => [(0, .ref 0), (1, .int v1), (2, .int r3), (3, .long r5), (5, .int x7)]) dX11_practice_28 (by decide) (fun _ => rfl) fun x7 =>
    aw_iconst (pc := 30) C (v := 0) dX11_practice_30 rfl <|
    aw_istore (pc := 31) C (i := 6) (lv' := [(0, .ref 0), (1, .int v1), (2, .int r3), (3, .long r5), (5, .int x7), (6, .int 0)]) dX11_practice_31 (by decide) rfl <|
    (aX11_practice_l33 C v1 r3 FU r5 x7 0 h6))

abbrev rmX11_bestRun : Room := { frames := 4, cells := 0, slots := 0, locals := 102 }
def X11_bestRun_j94  (v1 : Int32) (v2 : Int32) (v3 : Int32) (v4 : Int64) (v6 : Int32) (K29 : Int32 → Int64 → Int32 → AH → Option (Int32 × AH)) (h : AH) : Option (Int32 × AH) :=
    vl (v6 + 1) fun x12 =>
    K29 v3 v4 x12 h
set_option maxRecDepth 100000 in
theorem aX11_bestRun_j94 {X : MCx} {yd : Dyn} {A : Nat → Prop} (C : OK X cX11_bestRun RX11 11 (some .int) rmX11_bestRun A)  (v1 : Int32) (v2 : Int32) (v3 : Int32) (v4 : Int64) (v6 : Int32) (K29 : Int32 → Int64 → Int32 → AH → Option (Int32 × AH)) (hK29 : ∀ (w3 : Int32) (w4 : Int64) (w6 : Int32) (h : AH), AW X 11 ZR yd A 0 0 (QF X rmX11_bestRun ZR yd rvI A) 29 [(0, .ref 0), (1, .int v1), (2, .int v2), (3, .int w3), (4, .long w4), (6, .int w6)] [] h (K29 w3 w4 w6 h)) (h : AH) : AW X 11 ZR yd A 0 0 (QF X rmX11_bestRun ZR yd rvI A) 94 [(0, .ref 0), (1, .int v1), (2, .int v2), (3, .int v3), (4, .long v4), (6, .int v6)] [] h (X11_bestRun_j94 v1 v2 v3 v4 v6 K29 h) := by
    exact aw_iincV (pc := 94) C (i := 6) (cst := 1) (fun x12 => [(0, .ref 0), (1, .int v1), (2, .int v2), (3, .int v3), (4, .long v4), (6, .int x12)]) dX11_bestRun_94 rfl rfl (by decide) (fun _ => rfl) fun x12 =>
    aw_goto (pc := 97) C (tgt := 29) dX11_bestRun_97 rfl <|
    (hK29 v3 v4 x12 h)
def X11_bestRun_j87  (v1 : Int32) (v2 : Int32) (v6 : Int32) (v7 : Int64) (K29 : Int32 → Int64 → Int32 → AH → Option (Int32 × AH)) (h : AH) : Option (Int32 × AH) :=
    X11_bestRun_j94 v1 v2 v6 v7 v6 K29 h
set_option maxRecDepth 100000 in
theorem aX11_bestRun_j87 {X : MCx} {yd : Dyn} {A : Nat → Prop} (C : OK X cX11_bestRun RX11 11 (some .int) rmX11_bestRun A)  (v1 : Int32) (v2 : Int32) (v6 : Int32) (v7 : Int64) (K29 : Int32 → Int64 → Int32 → AH → Option (Int32 × AH)) (hK29 : ∀ (w3 : Int32) (w4 : Int64) (w6 : Int32) (h : AH), AW X 11 ZR yd A 0 0 (QF X rmX11_bestRun ZR yd rvI A) 29 [(0, .ref 0), (1, .int v1), (2, .int v2), (3, .int w3), (4, .long w4), (6, .int w6)] [] h (K29 w3 w4 w6 h)) (h : AH) : AW X 11 ZR yd A 0 0 (QF X rmX11_bestRun ZR yd rvI A) 87 [(0, .ref 0), (1, .int v1), (2, .int v2), (6, .int v6), (7, .long v7)] [] h (X11_bestRun_j87 v1 v2 v6 v7 K29 h) := by
    exact aw_iload (pc := 87) C (i := 6) dX11_bestRun_87 rfl <|
    aw_istore_n (pc := 89) C (i := 3) (lv' := [(0, .ref 0), (1, .int v1), (2, .int v2), (3, .int v6), (6, .int v6), (7, .long v7)]) dX11_bestRun_89 rfl (by decide) rfl <|
    aw_lload (pc := 90) C (i := 7) dX11_bestRun_90 rfl <|
    aw_lstore (pc := 92) C (i := 4) (lv' := [(0, .ref 0), (1, .int v1), (2, .int v2), (3, .int v6), (4, .long v7), (6, .int v6), (7, .long v7)]) dX11_bestRun_92 (by decide) rfl <|
    aw_drop [0, 1, 2, 3, 4, 5] (aX11_bestRun_j94 C v1 v2 v6 v7 v6 K29 hK29 h)
def X11_bestRun_l29  (v1 : Int32) (v2 : Int32) : Nat → Int32 → Int64 → Int32 → AH → Option (Int32 × AH)
  | 0, _, _, _, _ => none
  | n + 1, v3, v4, v6, h =>
    if 20 < v6 then (vl (sI h 0 12 v2) fun h5 =>
    some (v3, h5))
    else (vl (sI h 0 12 v6) fun h6 =>
    bd (X11_aimOf v1 h6) fun r7 h8 =>
    bd (X11_counted v1 r7 2 0 h8) fun r9 h10 =>
    vl (shl64 1 (2 * (v6 - v3))) fun x11 =>
    if (lcmpV v4 0) < 0 then (X11_bestRun_j87 v1 v2 v6 r9 (X11_bestRun_l29 v1 v2 n) h10)
    else (if 0 < (lcmpV r9 (v4 * x11)) then (X11_bestRun_j87 v1 v2 v6 r9 (X11_bestRun_l29 v1 v2 n) h10)
    else (X11_bestRun_j94 v1 v2 v3 v4 v6 (X11_bestRun_l29 v1 v2 n) h10)))
set_option maxRecDepth 100000 in
theorem aX11_bestRun_l29 {X : MCx} {yd : Dyn} {A : Nat → Prop} (C : OK X cX11_bestRun RX11 11 (some .int) rmX11_bestRun A)  (v1 : Int32) (v2 : Int32) : ∀ (n : Nat) (v3 : Int32) (v4 : Int64) (v6 : Int32) (h : AH), AW X 11 ZR yd A 0 0 (QF X rmX11_bestRun ZR yd rvI A) 29 [(0, .ref 0), (1, .int v1), (2, .int v2), (3, .int v3), (4, .long v4), (6, .int v6)] [] h (X11_bestRun_l29 v1 v2 n v3 v4 v6 h) := by
  intro n
  induction n with
  | zero => intro v3 v4 v6 h; exact aw_none
  | succ n ih =>
    intro v3 v4 v6 h
    exact aw_iload (pc := 29) C (i := 6) dX11_bestRun_29 rfl <|
    aw_bipush (pc := 31) C (v := 20) dX11_bestRun_31 rfl <|
    aw_icmp_gt (pc := 33) C (tgt := 100) dX11_bestRun_33 rfl (fun _ =>
    aw_aload_n (pc := 100) C (i := 0) dX11_bestRun_100 rfl rfl <|
    aw_iload_n (pc := 101) C (i := 2) dX11_bestRun_101 rfl rfl <|
    aw_putI (pc := 102) C dX11_bestRun_102 fp_X11_95 sR_0 rfl fun h5 =>
    aw_iload_n (pc := 105) C (i := 3) dX11_bestRun_105 rfl rfl <|
    aw_iret (pc := 106) C dX11_bestRun_106 rfl rfl) (fun _ =>
    aw_aload_n (pc := 36) C (i := 0) dX11_bestRun_36 rfl rfl <|
    aw_iload (pc := 37) C (i := 6) dX11_bestRun_37 rfl <|
    aw_putI (pc := 39) C dX11_bestRun_39 fp_X11_95 sR_0 rfl fun h6 =>
    aw_aload_n (pc := 42) C (i := 0) dX11_bestRun_42 rfl rfl <|
    aw_iload_n (pc := 43) C (i := 1) dX11_bestRun_43 rfl rfl <|
    aw_aload_n (pc := 44) C (i := 0) dX11_bestRun_44 rfl rfl <|
    aw_iload_n (pc := 45) C (i := 1) dX11_bestRun_45 rfl rfl <|
    aw_callF (pc := 46) C (cr_V (rest := [.int v1, .ref 0]) (F := (X11_aimOf v1)) C (c_X11_aimOf X.2.1 v1) dX11_bestRun_46 mf_X11_aimOf ml_X11_210 im_X11_aimOf se_X11_aimOf sR_0 rfl ⟨(Nat.le_of_ble_eq_true rfl), (Nat.le_of_ble_eq_true rfl)⟩ rfl rfl (Nat.le_of_ble_eq_true rfl)) rfl rfl rfl (Nat.zero_le _) (Nat.zero_le _) fun r7 h8 =>
    aw_iconst (pc := 49) C (v := 2) dX11_bestRun_49 rfl <|
    aw_iconst (pc := 50) C (v := 0) dX11_bestRun_50 rfl <|
    aw_callF (pc := 51) C (cr_V (rest := []) (F := (X11_counted v1 r7 2 0)) C (c_X11_counted X.2.1 v1 r7 2 0) dX11_bestRun_51 mf_X11_counted ml_X11_242 im_X11_counted se_X11_counted sR_0 rfl ⟨(Nat.le_of_ble_eq_true rfl), (Nat.le_of_ble_eq_true rfl)⟩ rfl rfl (Nat.le_of_ble_eq_true rfl)) rfl rfl rfl (Nat.zero_le _) (Nat.zero_le _) fun r9 h10 =>
    aw_lstore (pc := 54) C (i := 7) (lv' := [(0, .ref 0), (1, .int v1), (2, .int v2), (3, .int v3), (4, .long v4), (6, .int v6), (7, .long r9)]) dX11_bestRun_54 (by decide) rfl <|
    aw_lconst (pc := 56) C (v := 1) dX11_bestRun_56 rfl <|
    aw_iconst (pc := 57) C (v := 2) dX11_bestRun_57 rfl <|
    aw_iload (pc := 58) C (i := 6) dX11_bestRun_58 rfl <|
    aw_iload_n (pc := 60) C (i := 3) dX11_bestRun_60 rfl rfl <|
    aw_isub (pc := 61) C dX11_bestRun_61 <|
    aw_imul (pc := 62) C dX11_bestRun_62 <|
    aw_lshl (pc := 63) C dX11_bestRun_63 <|
    aw_lstoreV (pc := 64) C (i := 9) (fun x11 => [(0, .ref 0), (1, .int v1), (2, .int v2), (3, .int v3), (4, .long v4), (6, .int v6), (7, .long r9), (9, .long x11)]) dX11_bestRun_64 (by decide) (fun _ => rfl) fun x11 =>
    aw_lload (pc := 66) C (i := 4) dX11_bestRun_66 rfl <|
    aw_lconst (pc := 68) C (v := 0) dX11_bestRun_68 rfl <|
    aw_lcmp (pc := 69) C dX11_bestRun_69 <|
    aw_if_lt (pc := 70) C (tgt := 87) dX11_bestRun_70 rfl (fun _ =>
    aw_drop [0, 1, 2, 5, 6] (aX11_bestRun_j87 C v1 v2 v6 r9 (X11_bestRun_l29 v1 v2 n) ih h10)) (fun _ =>
    aw_lload (pc := 73) C (i := 7) dX11_bestRun_73 rfl <|
    aw_lload (pc := 75) C (i := 4) dX11_bestRun_75 rfl <|
    aw_lload (pc := 77) C (i := 9) dX11_bestRun_77 rfl <|
    aw_lmul (pc := 79) C dX11_bestRun_79 <|
    aw_lcmp (pc := 80) C dX11_bestRun_80 <|
    aw_if_gt (pc := 81) C (tgt := 87) dX11_bestRun_81 rfl (fun _ =>
    aw_drop [0, 1, 2, 5, 6] (aX11_bestRun_j87 C v1 v2 v6 r9 (X11_bestRun_l29 v1 v2 n) ih h10)) (fun _ =>
    aw_goto (pc := 84) C (tgt := 94) dX11_bestRun_84 rfl <|
    aw_drop [0, 1, 2, 3, 4, 5] (aX11_bestRun_j94 C v1 v2 v3 v4 v6 (X11_bestRun_l29 v1 v2 n) ih h10))))
def X11_bestRun (v1 : Int32) (h : AH) : Option (Int32 × AH) :=
    bd (X11_isJumper v1 h) fun r1 h2 =>
    if r1 = 0 then (bd (X11_no (-1) h2) fun r13 h14 =>
    some (r13, h14))
    else (vl (h2.1 0 12) fun x3 =>
    vl (-1) fun x4 =>
    X11_bestRun_l29 v1 x3 FU 4 x4 4 h2)
set_option maxRecDepth 100000 in
theorem c_X11_bestRun (l : Launch) (v1 : Int32) : MC l yX11_bestRun cX11_bestRun 11 (some .int) rmX11_bestRun ZR [.ref 0, .int v1] rvI (X11_bestRun v1) :=
  MC.of (own := RX11) (by decide +kernel) rfl (Nat.le_of_ble_eq_true rfl) fun X yd A h _ C =>
    aw_aload_n (pc := 0) C (i := 0) dX11_bestRun_0 rfl rfl <|
    aw_iload_n (pc := 1) C (i := 1) dX11_bestRun_1 rfl rfl <|
    aw_callF (pc := 2) C (cr_V (rest := []) (F := (X11_isJumper v1)) C (c_X11_isJumper X.2.1 v1) dX11_bestRun_2 mf_X11_isJumper ml_X11_207 im_X11_isJumper se_X11_isJumper sR_0 rfl ⟨(Nat.le_of_ble_eq_true rfl), (Nat.le_of_ble_eq_true rfl)⟩ rfl rfl (Nat.le_of_ble_eq_true rfl)) rfl rfl rfl (Nat.zero_le _) (Nat.zero_le _) fun r1 h2 =>
    aw_if_ne (pc := 5) C (tgt := 14) dX11_bestRun_5 rfl (fun _ =>
    aw_aload_n (pc := 8) C (i := 0) dX11_bestRun_8 rfl rfl <|
    aw_iconst (pc := 9) C (v := (-1)) dX11_bestRun_9 rfl <|
    aw_callF (pc := 10) C (cr_V (rest := []) (F := (X11_no (-1))) C (c_X11_no X.2.1 (-1)) dX11_bestRun_10 mf_X11_no ml_X11_115 im_X11_no se_X11_no sR_0 rfl ⟨(Nat.le_of_ble_eq_true rfl), (Nat.le_of_ble_eq_true rfl)⟩ rfl rfl (Nat.le_of_ble_eq_true rfl)) rfl rfl rfl (Nat.zero_le _) (Nat.zero_le _) fun r13 h14 =>
    aw_iret (pc := 13) C dX11_bestRun_13 rfl rfl) (fun _ =>
    aw_aload_n (pc := 14) C (i := 0) dX11_bestRun_14 rfl rfl <|
    aw_getI (pc := 15) C dX11_bestRun_15 fl_X11_95 sR_0 rfl <|
    aw_istoreV_n (pc := 18) C (i := 2) (fun x3 => [(0, .ref 0), (1, .int v1), (2, .int x3)]) dX11_bestRun_18 rfl (by decide) (fun _ => rfl) fun x3 =>
    aw_iconst (pc := 19) C (v := 4) dX11_bestRun_19 rfl <|
    aw_istore_n (pc := 20) C (i := 3) (lv' := [(0, .ref 0), (1, .int v1), (2, .int x3), (3, .int 4)]) dX11_bestRun_20 rfl (by decide) rfl <|
    aw_ldc2_w (pc := 21) C (v := (-1)) dX11_bestRun_21 kc_X11_257 <|
    aw_lstoreV (pc := 24) C (i := 4) (fun x4 => [(0, .ref 0), (1, .int v1), (2, .int x3), (3, .int 4), (4, .long x4)]) dX11_bestRun_24 (by decide) (fun _ => rfl) fun x4 =>
    aw_iconst (pc := 26) C (v := 4) dX11_bestRun_26 rfl <|
    aw_istore (pc := 27) C (i := 6) (lv' := [(0, .ref 0), (1, .int v1), (2, .int x3), (3, .int 4), (4, .long x4), (6, .int 4)]) dX11_bestRun_27 (by decide) rfl <|
    (aX11_bestRun_l29 C v1 x3 FU 4 x4 4 h2))

abbrev rmX11_markIn : Room := { frames := 2, cells := 0, slots := 0, locals := 48 }
def X11_markIn_j20  (v1 : Int32) (v2 : Int32) (s0 : Int32) (h : AH) : Option (Int32 × AH) :=
    if s0 = 0 then (bd (X11_allStrides v1 v2 h) fun r5 h6 =>
    bd (X11_aimOf v1 h6) fun r7 h8 =>
    vl (r5 + r7) fun x9 =>
    if 0 ≤ x9 then (if x9 ≤ 2400 then (some (x9, h8))
    else (some (2400, h8)))
    else (some (0, h8)))
    else (bd (X11_no s0 h) fun r10 h11 =>
    some (r10, h11))
set_option maxRecDepth 100000 in
theorem aX11_markIn_j20 {X : MCx} {yd : Dyn} {A : Nat → Prop} (C : OK X cX11_markIn RX11 5 (some .int) rmX11_markIn A)  (v1 : Int32) (v2 : Int32) (s0 : Int32) (h : AH) : AW X 5 ZR yd A 0 0 (QF X rmX11_markIn ZR yd rvI A) 20 [(0, .ref 0), (1, .int v1), (2, .int v2)] [.int s0] h (X11_markIn_j20 v1 v2 s0 h) := by
    exact aw_istore_n (pc := 20) C (i := 3) (lv' := [(0, .ref 0), (1, .int v1), (2, .int v2), (3, .int s0)]) dX11_markIn_20 rfl (by decide) rfl <|
    aw_iload_n (pc := 21) C (i := 3) dX11_markIn_21 rfl rfl <|
    aw_if_eq (pc := 22) C (tgt := 31) dX11_markIn_22 rfl (fun _ =>
    aw_aload_n (pc := 31) C (i := 0) dX11_markIn_31 rfl rfl <|
    aw_iload_n (pc := 32) C (i := 1) dX11_markIn_32 rfl rfl <|
    aw_iload_n (pc := 33) C (i := 2) dX11_markIn_33 rfl rfl <|
    aw_callF (pc := 34) C (cr_V (rest := []) (F := (X11_allStrides v1 v2)) C (c_X11_allStrides X.2.1 v1 v2) dX11_markIn_34 mf_X11_allStrides ml_X11_200 im_X11_allStrides se_X11_allStrides sR_0 rfl ⟨(Nat.le_of_ble_eq_true rfl), (Nat.le_of_ble_eq_true rfl)⟩ rfl rfl (Nat.le_of_ble_eq_true rfl)) rfl rfl rfl (Nat.zero_le _) (Nat.zero_le _) fun r5 h6 =>
    aw_aload_n (pc := 37) C (i := 0) dX11_markIn_37 rfl rfl <|
    aw_iload_n (pc := 38) C (i := 1) dX11_markIn_38 rfl rfl <|
    aw_callF (pc := 39) C (cr_V (rest := [.int r5]) (F := (X11_aimOf v1)) C (c_X11_aimOf X.2.1 v1) dX11_markIn_39 mf_X11_aimOf ml_X11_210 im_X11_aimOf se_X11_aimOf sR_0 rfl ⟨(Nat.le_of_ble_eq_true rfl), (Nat.le_of_ble_eq_true rfl)⟩ rfl rfl (Nat.le_of_ble_eq_true rfl)) rfl rfl rfl (Nat.zero_le _) (Nat.zero_le _) fun r7 h8 =>
    aw_iadd (pc := 42) C dX11_markIn_42 <|
    aw_istoreV (pc := 43) C (i := 4) (fun x9 => [(0, .ref 0), (1, .int v1), (2, .int v2), (3, .int s0), (4, .int x9)]) dX11_markIn_43 (by decide) (fun _ => rfl) fun x9 =>
    aw_iload (pc := 45) C (i := 4) dX11_markIn_45 rfl <|
    aw_if_ge (pc := 47) C (tgt := 54) dX11_markIn_47 rfl (fun _ =>
    aw_iload (pc := 54) C (i := 4) dX11_markIn_54 rfl <|
    aw_sipush (pc := 56) C (v := 2400) dX11_markIn_56 rfl <|
    aw_icmp_le (pc := 59) C (tgt := 68) dX11_markIn_59 rfl (fun _ =>
    aw_iload (pc := 68) C (i := 4) dX11_markIn_68 rfl <|
    aw_iret (pc := 70) C dX11_markIn_70 rfl rfl) (fun _ =>
    aw_sipush (pc := 62) C (v := 2400) dX11_markIn_62 rfl <|
    aw_goto (pc := 65) C (tgt := 70) dX11_markIn_65 rfl <|
    aw_iret (pc := 70) C dX11_markIn_70 rfl rfl)) (fun _ =>
    aw_iconst (pc := 50) C (v := 0) dX11_markIn_50 rfl <|
    aw_goto (pc := 51) C (tgt := 70) dX11_markIn_51 rfl <|
    aw_iret (pc := 70) C dX11_markIn_70 rfl rfl)) (fun _ =>
    aw_aload_n (pc := 25) C (i := 0) dX11_markIn_25 rfl rfl <|
    aw_iload_n (pc := 26) C (i := 3) dX11_markIn_26 rfl rfl <|
    aw_callF (pc := 27) C (cr_V (rest := []) (F := (X11_no s0)) C (c_X11_no X.2.1 s0) dX11_markIn_27 mf_X11_no ml_X11_115 im_X11_no se_X11_no sR_0 rfl ⟨(Nat.le_of_ble_eq_true rfl), (Nat.le_of_ble_eq_true rfl)⟩ rfl rfl (Nat.le_of_ble_eq_true rfl)) rfl rfl rfl (Nat.zero_le _) (Nat.zero_le _) fun r10 h11 =>
    aw_iret (pc := 30) C dX11_markIn_30 rfl rfl)
def X11_markIn (v1 : Int32) (v2 : Int32) (h : AH) : Option (Int32 × AH) :=
    bd (X11_isJumper v1 h) fun r1 h2 =>
    if r1 = 0 then (X11_markIn_j20 v1 v2 (-1) h2)
    else (bd (X11_bound v2 (-9) 9 h2) fun r3 h4 =>
    X11_markIn_j20 v1 v2 r3 h4)
set_option maxRecDepth 100000 in
theorem c_X11_markIn (l : Launch) (v1 : Int32) (v2 : Int32) : MC l yX11_markIn cX11_markIn 5 (some .int) rmX11_markIn ZR [.ref 0, .int v1, .int v2] rvI (X11_markIn v1 v2) :=
  MC.of (own := RX11) (by decide +kernel) rfl (Nat.le_of_ble_eq_true rfl) fun X yd A h _ C =>
    aw_aload_n (pc := 0) C (i := 0) dX11_markIn_0 rfl rfl <|
    aw_iload_n (pc := 1) C (i := 1) dX11_markIn_1 rfl rfl <|
    aw_callF (pc := 2) C (cr_V (rest := []) (F := (X11_isJumper v1)) C (c_X11_isJumper X.2.1 v1) dX11_markIn_2 mf_X11_isJumper ml_X11_207 im_X11_isJumper se_X11_isJumper sR_0 rfl ⟨(Nat.le_of_ble_eq_true rfl), (Nat.le_of_ble_eq_true rfl)⟩ rfl rfl (Nat.le_of_ble_eq_true rfl)) rfl rfl rfl (Nat.zero_le _) (Nat.zero_le _) fun r1 h2 =>
    aw_if_ne (pc := 5) C (tgt := 12) dX11_markIn_5 rfl (fun _ =>
    aw_iconst (pc := 8) C (v := (-1)) dX11_markIn_8 rfl <|
    aw_goto (pc := 9) C (tgt := 20) dX11_markIn_9 rfl <|
    (aX11_markIn_j20 C v1 v2 (-1) h2)) (fun _ =>
    aw_iload_n (pc := 12) C (i := 2) dX11_markIn_12 rfl rfl <|
    aw_bipush (pc := 13) C (v := (-9)) dX11_markIn_13 rfl <|
    aw_bipush (pc := 15) C (v := 9) dX11_markIn_15 rfl <|
    aw_callF (pc := 17) C (cr_S (rest := []) (F := (X11_bound v2 (-9) 9)) C (c_X11_bound X.2.1 v2 (-9) 9) dX11_markIn_17 mf_X11_bound ml_X11_108 st_X11_bound ⟨(Nat.le_of_ble_eq_true rfl), (Nat.le_of_ble_eq_true rfl)⟩ rfl rfl (Nat.le_of_ble_eq_true rfl)) rfl rfl rfl (Nat.zero_le _) (Nat.zero_le _) fun r3 h4 =>
    (aX11_markIn_j20 C v1 v2 r3 h4))

abbrev rmX11_triesBy : Room := { frames := 0, cells := 0, slots := 0, locals := 0 }
def X11_triesBy_j42  (v1 : Int32) (v2 : Int32) (v4 : Int32) (K5 : Int32 → Int32 → AH → Option (Int32 × AH)) (s0 : Int32) (s1 : Int32) (h : AH) : Option (Int32 × AH) :=
    vl (s1 + s0) fun x1 =>
    vl (v4 + 1) fun x2 =>
    K5 x1 x2 h
set_option maxRecDepth 100000 in
theorem aX11_triesBy_j42 {X : MCx} {yd : Dyn} {A : Nat → Prop} (C : OK X cX11_triesBy RX11 5 (some .int) rmX11_triesBy A)  (v1 : Int32) (v2 : Int32) (v4 : Int32) (K5 : Int32 → Int32 → AH → Option (Int32 × AH)) (hK5 : ∀ (w3 : Int32) (w4 : Int32) (h : AH), AW X 5 ZR yd A 0 0 (QF X rmX11_triesBy ZR yd rvI A) 5 [(0, .ref 0), (1, .int v1), (2, .int v2), (3, .int w3), (4, .int w4)] [] h (K5 w3 w4 h)) (s0 : Int32) (s1 : Int32) (h : AH) : AW X 5 ZR yd A 0 0 (QF X rmX11_triesBy ZR yd rvI A) 42 [(0, .ref 0), (1, .int v1), (2, .int v2), (4, .int v4)] [.int s0, .int s1] h (X11_triesBy_j42 v1 v2 v4 K5 s0 s1 h) := by
    exact aw_iadd (pc := 42) C dX11_triesBy_42 <|
    aw_istoreV_n (pc := 43) C (i := 3) (fun x1 => [(0, .ref 0), (1, .int v1), (2, .int v2), (3, .int x1), (4, .int v4)]) dX11_triesBy_43 rfl (by decide) (fun _ => rfl) fun x1 =>
    aw_iincV (pc := 44) C (i := 4) (cst := 1) (fun x2 => [(0, .ref 0), (1, .int v1), (2, .int v2), (3, .int x1), (4, .int x2)]) dX11_triesBy_44 rfl rfl (by decide) (fun _ => rfl) fun x2 =>
    aw_goto (pc := 47) C (tgt := 5) dX11_triesBy_47 rfl <|
    (hK5 x1 x2 h)
def X11_triesBy_j41  (v1 : Int32) (v2 : Int32) (v4 : Int32) (K5 : Int32 → Int32 → AH → Option (Int32 × AH)) (s0 : Int32) (h : AH) : Option (Int32 × AH) :=
    X11_triesBy_j42 v1 v2 v4 K5 0 s0 h
set_option maxRecDepth 100000 in
theorem aX11_triesBy_j41 {X : MCx} {yd : Dyn} {A : Nat → Prop} (C : OK X cX11_triesBy RX11 5 (some .int) rmX11_triesBy A)  (v1 : Int32) (v2 : Int32) (v4 : Int32) (K5 : Int32 → Int32 → AH → Option (Int32 × AH)) (hK5 : ∀ (w3 : Int32) (w4 : Int32) (h : AH), AW X 5 ZR yd A 0 0 (QF X rmX11_triesBy ZR yd rvI A) 5 [(0, .ref 0), (1, .int v1), (2, .int v2), (3, .int w3), (4, .int w4)] [] h (K5 w3 w4 h)) (s0 : Int32) (h : AH) : AW X 5 ZR yd A 0 0 (QF X rmX11_triesBy ZR yd rvI A) 41 [(0, .ref 0), (1, .int v1), (2, .int v2), (4, .int v4)] [.int s0] h (X11_triesBy_j41 v1 v2 v4 K5 s0 h) := by
    exact aw_iconst (pc := 41) C (v := 0) dX11_triesBy_41 rfl <|
    (aX11_triesBy_j42 C v1 v2 v4 K5 hK5 0 s0 h)
def X11_triesBy_l5  (v1 : Int32) (v2 : Int32) : Nat → Int32 → Int32 → AH → Option (Int32 × AH)
  | 0, _, _, _ => none
  | n + 1, v3, v4, h =>
    if (h.1 0 16) ≤ v4 then (some (v3, h))
    else (ck v4 24 (if (h.1 10 v4.toNatClampNeg) = v1 then (ck v4 24 (if (h.1 11 v4.toNatClampNeg) = v2 then (X11_triesBy_j42 v1 v2 v4 (X11_triesBy_l5 v1 v2 n) 1 v3 h)
    else (X11_triesBy_j41 v1 v2 v4 (X11_triesBy_l5 v1 v2 n) v3 h)))
    else (X11_triesBy_j41 v1 v2 v4 (X11_triesBy_l5 v1 v2 n) v3 h)))
set_option maxRecDepth 100000 in
theorem aX11_triesBy_l5 {X : MCx} {yd : Dyn} {A : Nat → Prop} (C : OK X cX11_triesBy RX11 5 (some .int) rmX11_triesBy A)  (v1 : Int32) (v2 : Int32) : ∀ (n : Nat) (v3 : Int32) (v4 : Int32) (h : AH), AW X 5 ZR yd A 0 0 (QF X rmX11_triesBy ZR yd rvI A) 5 [(0, .ref 0), (1, .int v1), (2, .int v2), (3, .int v3), (4, .int v4)] [] h (X11_triesBy_l5 v1 v2 n v3 v4 h) := by
  intro n
  induction n with
  | zero => intro v3 v4 h; exact aw_none
  | succ n ih =>
    intro v3 v4 h
    exact aw_iload (pc := 5) C (i := 4) dX11_triesBy_5 rfl <|
    aw_aload_n (pc := 7) C (i := 0) dX11_triesBy_7 rfl rfl <|
    aw_getI (pc := 8) C dX11_triesBy_8 fl_X11_147 sR_0 rfl <|
    aw_icmp_ge (pc := 11) C (tgt := 50) dX11_triesBy_11 rfl (fun _ =>
    aw_iload_n (pc := 50) C (i := 3) dX11_triesBy_50 rfl rfl <|
    aw_iret (pc := 51) C dX11_triesBy_51 rfl rfl) (fun _ =>
    aw_iload_n (pc := 14) C (i := 3) dX11_triesBy_14 rfl rfl <|
    aw_aload_n (pc := 15) C (i := 0) dX11_triesBy_15 rfl rfl <|
    aw_getR (pc := 16) C (b := 10) dX11_triesBy_16 fl_X11_37 sR_0 rfl rR_0_9 <|
    aw_iload (pc := 19) C (i := 4) dX11_triesBy_19 rfl <|
    aw_iald (pc := 21) C dX11_triesBy_21 sR_10 rfl <|
    aw_iload_n (pc := 22) C (i := 1) dX11_triesBy_22 rfl rfl <|
    aw_icmp_ne (pc := 23) C (tgt := 41) dX11_triesBy_23 rfl (fun _ =>
    aw_aload_n (pc := 26) C (i := 0) dX11_triesBy_26 rfl rfl <|
    aw_getR (pc := 27) C (b := 11) dX11_triesBy_27 fl_X11_40 sR_0 rfl rR_0_10 <|
    aw_iload (pc := 30) C (i := 4) dX11_triesBy_30 rfl <|
    aw_iald (pc := 32) C dX11_triesBy_32 sR_11 rfl <|
    aw_iload_n (pc := 33) C (i := 2) dX11_triesBy_33 rfl rfl <|
    aw_icmp_ne (pc := 34) C (tgt := 41) dX11_triesBy_34 rfl (fun _ =>
    aw_iconst (pc := 37) C (v := 1) dX11_triesBy_37 rfl <|
    aw_goto (pc := 38) C (tgt := 42) dX11_triesBy_38 rfl <|
    aw_drop [0, 1, 2, 4] (aX11_triesBy_j42 C v1 v2 v4 (X11_triesBy_l5 v1 v2 n) ih 1 v3 h)) (fun _ =>
    aw_drop [0, 1, 2, 4] (aX11_triesBy_j41 C v1 v2 v4 (X11_triesBy_l5 v1 v2 n) ih v3 h))) (fun _ =>
    aw_drop [0, 1, 2, 4] (aX11_triesBy_j41 C v1 v2 v4 (X11_triesBy_l5 v1 v2 n) ih v3 h)))
def X11_triesBy (v1 : Int32) (v2 : Int32) (h : AH) : Option (Int32 × AH) :=
    X11_triesBy_l5 v1 v2 FU 0 0 h
set_option maxRecDepth 100000 in
theorem c_X11_triesBy (l : Launch) (v1 : Int32) (v2 : Int32) : MC l yX11_triesBy cX11_triesBy 5 (some .int) rmX11_triesBy ZR [.ref 0, .int v1, .int v2] rvI (X11_triesBy v1 v2) :=
  MC.of (own := RX11) (by decide +kernel) rfl (Nat.le_of_ble_eq_true rfl) fun X yd A h _ C =>
    aw_iconst (pc := 0) C (v := 0) dX11_triesBy_0 rfl <|
    aw_istore_n (pc := 1) C (i := 3) (lv' := [(0, .ref 0), (1, .int v1), (2, .int v2), (3, .int 0)]) dX11_triesBy_1 rfl (by decide) rfl <|
    aw_iconst (pc := 2) C (v := 0) dX11_triesBy_2 rfl <|
    aw_istore (pc := 3) C (i := 4) (lv' := [(0, .ref 0), (1, .int v1), (2, .int v2), (3, .int 0), (4, .int 0)]) dX11_triesBy_3 (by decide) rfl <|
    (aX11_triesBy_l5 C v1 v2 FU 0 0 h)
end
section
abbrev rmX11_fouled : Room := { frames := 2, cells := 0, slots := 0, locals := 53 }
def X11_fouled (v1 : Int32) (v2 : Int32) (h : AH) : Option (Int64 × AH) :=
    bd (X11_isJumper v1 h) fun r1 h2 =>
    if r1 = 0 then (bd (X11_lowest (-1) h2) fun r16 h17 =>
    some (r16, h17))
    else (bd (X11_isIn v2 0 1 h2) fun r3 h4 =>
    if r3 = 0 then (bd (X11_lowest (-2) h4) fun r14 h15 =>
    some (r14, h15))
    else (bd (X11_triesOf v1 h4) fun r5 h6 =>
    bd (X11_triesBy v1 (-8) h6) fun r7 h8 =>
    vl (r5 - r7) fun x9 =>
    if x9 = 0 then (some (v2.toInt64, h8))
    else (bd (X11_triesBy v1 (-9) h8) fun r10 h11 =>
    bd (X11_partOf r10.toInt64 x9.toInt64 v2 h11) fun r12 h13 =>
    some (r12, h13))))
set_option maxRecDepth 100000 in
theorem c_X11_fouled (l : Launch) (v1 : Int32) (v2 : Int32) : MC l yX11_fouled cX11_fouled 4 (some .long) rmX11_fouled ZR [.ref 0, .int v1, .int v2] rvL (X11_fouled v1 v2) :=
  MC.of (own := RX11) (by decide +kernel) rfl (Nat.le_of_ble_eq_true rfl) fun X yd A h _ C =>
    aw_aload_n (pc := 0) C (i := 0) dX11_fouled_0 rfl rfl <|
    aw_iload_n (pc := 1) C (i := 1) dX11_fouled_1 rfl rfl <|
    aw_callF (pc := 2) C (cr_V (rest := []) (F := (X11_isJumper v1)) C (c_X11_isJumper X.2.1 v1) dX11_fouled_2 mf_X11_isJumper ml_X11_207 im_X11_isJumper se_X11_isJumper sR_0 rfl ⟨(Nat.le_of_ble_eq_true rfl), (Nat.le_of_ble_eq_true rfl)⟩ rfl rfl (Nat.le_of_ble_eq_true rfl)) rfl rfl rfl (Nat.zero_le _) (Nat.zero_le _) fun r1 h2 =>
    aw_if_ne (pc := 5) C (tgt := 14) dX11_fouled_5 rfl (fun _ =>
    aw_aload_n (pc := 8) C (i := 0) dX11_fouled_8 rfl rfl <|
    aw_iconst (pc := 9) C (v := (-1)) dX11_fouled_9 rfl <|
    aw_callF (pc := 10) C (cr_V (rest := []) (F := (X11_lowest (-1))) C (c_X11_lowest X.2.1 (-1)) dX11_fouled_10 mf_X11_lowest ml_X11_238 im_X11_lowest se_X11_lowest sR_0 rfl ⟨(Nat.le_of_ble_eq_true rfl), (Nat.le_of_ble_eq_true rfl)⟩ rfl rfl (Nat.le_of_ble_eq_true rfl)) rfl rfl rfl (Nat.zero_le _) (Nat.zero_le _) fun r16 h17 =>
    aw_lret (pc := 13) C dX11_fouled_13 rfl rfl) (fun _ =>
    aw_iload_n (pc := 14) C (i := 2) dX11_fouled_14 rfl rfl <|
    aw_iconst (pc := 15) C (v := 0) dX11_fouled_15 rfl <|
    aw_iconst (pc := 16) C (v := 1) dX11_fouled_16 rfl <|
    aw_callF (pc := 17) C (cr_S (rest := []) (F := (X11_isIn v2 0 1)) C (c_X11_isIn X.2.1 v2 0 1) dX11_fouled_17 mf_X11_isIn ml_X11_126 st_X11_isIn ⟨(Nat.le_of_ble_eq_true rfl), (Nat.le_of_ble_eq_true rfl)⟩ rfl rfl (Nat.le_of_ble_eq_true rfl)) rfl rfl rfl (Nat.zero_le _) (Nat.zero_le _) fun r3 h4 =>
    aw_if_ne (pc := 20) C (tgt := 30) dX11_fouled_20 rfl (fun _ =>
    aw_aload_n (pc := 23) C (i := 0) dX11_fouled_23 rfl rfl <|
    aw_bipush (pc := 24) C (v := (-2)) dX11_fouled_24 rfl <|
    aw_callF (pc := 26) C (cr_V (rest := []) (F := (X11_lowest (-2))) C (c_X11_lowest X.2.1 (-2)) dX11_fouled_26 mf_X11_lowest ml_X11_238 im_X11_lowest se_X11_lowest sR_0 rfl ⟨(Nat.le_of_ble_eq_true rfl), (Nat.le_of_ble_eq_true rfl)⟩ rfl rfl (Nat.le_of_ble_eq_true rfl)) rfl rfl rfl (Nat.zero_le _) (Nat.zero_le _) fun r14 h15 =>
    aw_lret (pc := 29) C dX11_fouled_29 rfl rfl) (fun _ =>
    aw_aload_n (pc := 30) C (i := 0) dX11_fouled_30 rfl rfl <|
    aw_iload_n (pc := 31) C (i := 1) dX11_fouled_31 rfl rfl <|
    aw_callF (pc := 32) C (cr_V (rest := []) (F := (X11_triesOf v1)) C (c_X11_triesOf X.2.1 v1) dX11_fouled_32 mf_X11_triesOf ml_X11_217 im_X11_triesOf se_X11_triesOf sR_0 rfl ⟨(Nat.le_of_ble_eq_true rfl), (Nat.le_of_ble_eq_true rfl)⟩ rfl rfl (Nat.le_of_ble_eq_true rfl)) rfl rfl rfl (Nat.zero_le _) (Nat.zero_le _) fun r5 h6 =>
    aw_aload_n (pc := 35) C (i := 0) dX11_fouled_35 rfl rfl <|
    aw_iload_n (pc := 36) C (i := 1) dX11_fouled_36 rfl rfl <|
    aw_bipush (pc := 37) C (v := (-8)) dX11_fouled_37 rfl <|
    aw_callF (pc := 39) C (cr_V (rest := [.int r5]) (F := (X11_triesBy v1 (-8))) C (c_X11_triesBy X.2.1 v1 (-8)) dX11_fouled_39 mf_X11_triesBy ml_X11_333 im_X11_triesBy se_X11_triesBy sR_0 rfl ⟨(Nat.le_of_ble_eq_true rfl), (Nat.le_of_ble_eq_true rfl)⟩ rfl rfl (Nat.le_of_ble_eq_true rfl)) rfl rfl rfl (Nat.zero_le _) (Nat.zero_le _) fun r7 h8 =>
    aw_isub (pc := 42) C dX11_fouled_42 <|
    aw_istoreV_n (pc := 43) C (i := 3) (fun x9 => [(0, .ref 0), (1, .int v1), (2, .int v2), (3, .int x9)]) dX11_fouled_43 rfl (by decide) (fun _ => rfl) fun x9 =>
    aw_iload_n (pc := 44) C (i := 3) dX11_fouled_44 rfl rfl <|
    aw_if_ne (pc := 45) C (tgt := 53) dX11_fouled_45 rfl (fun _ =>
    aw_iload_n (pc := 48) C (i := 2) dX11_fouled_48 rfl rfl <|
    aw_i2l (pc := 49) C dX11_fouled_49 <|
    aw_goto (pc := 50) C (tgt := 67) dX11_fouled_50 rfl <|
    aw_lret (pc := 67) C dX11_fouled_67 rfl rfl) (fun _ =>
    aw_aload_n (pc := 53) C (i := 0) dX11_fouled_53 rfl rfl <|
    aw_iload_n (pc := 54) C (i := 1) dX11_fouled_54 rfl rfl <|
    aw_bipush (pc := 55) C (v := (-9)) dX11_fouled_55 rfl <|
    aw_callF (pc := 57) C (cr_V (rest := []) (F := (X11_triesBy v1 (-9))) C (c_X11_triesBy X.2.1 v1 (-9)) dX11_fouled_57 mf_X11_triesBy ml_X11_333 im_X11_triesBy se_X11_triesBy sR_0 rfl ⟨(Nat.le_of_ble_eq_true rfl), (Nat.le_of_ble_eq_true rfl)⟩ rfl rfl (Nat.le_of_ble_eq_true rfl)) rfl rfl rfl (Nat.zero_le _) (Nat.zero_le _) fun r10 h11 =>
    aw_i2l (pc := 60) C dX11_fouled_60 <|
    aw_iload_n (pc := 61) C (i := 3) dX11_fouled_61 rfl rfl <|
    aw_i2l (pc := 62) C dX11_fouled_62 <|
    aw_iload_n (pc := 63) C (i := 2) dX11_fouled_63 rfl rfl <|
    aw_callF (pc := 64) C (cr_S (rest := []) (F := (X11_partOf r10.toInt64 x9.toInt64 v2)) C (c_X11_partOf X.2.1 r10.toInt64 x9.toInt64 v2) dX11_fouled_64 mf_X11_partOf ml_X11_250 st_X11_partOf ⟨(Nat.le_of_ble_eq_true rfl), (Nat.le_of_ble_eq_true rfl)⟩ rfl rfl (Nat.le_of_ble_eq_true rfl)) rfl rfl rfl (Nat.zero_le _) (Nat.zero_le _) fun r12 h13 =>
    aw_lret (pc := 67) C dX11_fouled_67 rfl rfl)))

abbrev rmX11_better : Room := { frames := 1, cells := 0, slots := 0, locals := 21 }
def X11_better_j66  (v1 : Int32) (v2 : Int32) (v3 : Int32) (v4 : Int32) (K21 : Int32 → Int32 → Int32 → AH → Option (Int32 × AH)) (h : AH) : Option (Int32 × AH) :=
    vl (v4 + 1) fun x3 =>
    K21 v2 v3 x3 h
set_option maxRecDepth 100000 in
theorem aX11_better_j66 {X : MCx} {yd : Dyn} {A : Nat → Prop} (C : OK X cX11_better RX11 5 (some .int) rmX11_better A)  (v1 : Int32) (v2 : Int32) (v3 : Int32) (v4 : Int32) (K21 : Int32 → Int32 → Int32 → AH → Option (Int32 × AH)) (hK21 : ∀ (w2 : Int32) (w3 : Int32) (w4 : Int32) (h : AH), AW X 5 ZR yd A 0 0 (QF X rmX11_better ZR yd rvI A) 21 [(0, .ref 0), (1, .int v1), (2, .int w2), (3, .int w3), (4, .int w4)] [] h (K21 w2 w3 w4 h)) (h : AH) : AW X 5 ZR yd A 0 0 (QF X rmX11_better ZR yd rvI A) 66 [(0, .ref 0), (1, .int v1), (2, .int v2), (3, .int v3), (4, .int v4)] [] h (X11_better_j66 v1 v2 v3 v4 K21 h) := by
    exact aw_iincV (pc := 66) C (i := 4) (cst := 1) (fun x3 => [(0, .ref 0), (1, .int v1), (2, .int v2), (3, .int v3), (4, .int x3)]) dX11_better_66 rfl rfl (by decide) (fun _ => rfl) fun x3 =>
    aw_goto (pc := 69) C (tgt := 21) dX11_better_69 rfl <|
    (hK21 v2 v3 x3 h)
def X11_better_l21  (v1 : Int32) : Nat → Int32 → Int32 → Int32 → AH → Option (Int32 × AH)
  | 0, _, _, _, _ => none
  | n + 1, v2, v3, v4, h =>
    if (h.1 0 16) ≤ v4 then (some (v3, h))
    else (ck v4 24 (if (h.1 10 v4.toNatClampNeg) = v1 then (ck v4 24 (if v2 < (h.1 11 v4.toNatClampNeg) then (ck v4 24 (vl (h.1 11 v4.toNatClampNeg) fun x4 =>
    vl (v3 + 1) fun x5 =>
    X11_better_j66 v1 x4 x5 v4 (X11_better_l21 v1 n) h))
    else (X11_better_j66 v1 v2 v3 v4 (X11_better_l21 v1 n) h)))
    else (X11_better_j66 v1 v2 v3 v4 (X11_better_l21 v1 n) h)))
set_option maxRecDepth 100000 in
theorem aX11_better_l21 {X : MCx} {yd : Dyn} {A : Nat → Prop} (C : OK X cX11_better RX11 5 (some .int) rmX11_better A)  (v1 : Int32) : ∀ (n : Nat) (v2 : Int32) (v3 : Int32) (v4 : Int32) (h : AH), AW X 5 ZR yd A 0 0 (QF X rmX11_better ZR yd rvI A) 21 [(0, .ref 0), (1, .int v1), (2, .int v2), (3, .int v3), (4, .int v4)] [] h (X11_better_l21 v1 n v2 v3 v4 h) := by
  intro n
  induction n with
  | zero => intro v2 v3 v4 h; exact aw_none
  | succ n ih =>
    intro v2 v3 v4 h
    exact aw_iload (pc := 21) C (i := 4) dX11_better_21 rfl <|
    aw_aload_n (pc := 23) C (i := 0) dX11_better_23 rfl rfl <|
    aw_getI (pc := 24) C dX11_better_24 fl_X11_147 sR_0 rfl <|
    aw_icmp_ge (pc := 27) C (tgt := 72) dX11_better_27 rfl (fun _ =>
    aw_iload_n (pc := 72) C (i := 3) dX11_better_72 rfl rfl <|
    aw_iret (pc := 73) C dX11_better_73 rfl rfl) (fun _ =>
    aw_aload_n (pc := 30) C (i := 0) dX11_better_30 rfl rfl <|
    aw_getR (pc := 31) C (b := 10) dX11_better_31 fl_X11_37 sR_0 rfl rR_0_9 <|
    aw_iload (pc := 34) C (i := 4) dX11_better_34 rfl <|
    aw_iald (pc := 36) C dX11_better_36 sR_10 rfl <|
    aw_iload_n (pc := 37) C (i := 1) dX11_better_37 rfl rfl <|
    aw_icmp_ne (pc := 38) C (tgt := 66) dX11_better_38 rfl (fun _ =>
    aw_aload_n (pc := 41) C (i := 0) dX11_better_41 rfl rfl <|
    aw_getR (pc := 42) C (b := 11) dX11_better_42 fl_X11_40 sR_0 rfl rR_0_10 <|
    aw_iload (pc := 45) C (i := 4) dX11_better_45 rfl <|
    aw_iald (pc := 47) C dX11_better_47 sR_11 rfl <|
    aw_iload_n (pc := 48) C (i := 2) dX11_better_48 rfl rfl <|
    aw_icmp_gt (pc := 49) C (tgt := 55) dX11_better_49 rfl (fun _ =>
    aw_aload_n (pc := 55) C (i := 0) dX11_better_55 rfl rfl <|
    aw_getR (pc := 56) C (b := 11) dX11_better_56 fl_X11_40 sR_0 rfl rR_0_10 <|
    aw_iload (pc := 59) C (i := 4) dX11_better_59 rfl <|
    aw_iald (pc := 61) C dX11_better_61 sR_11 rfl <|
    aw_istoreV_n (pc := 62) C (i := 2) (fun x4 => [(0, .ref 0), (1, .int v1), (2, .int x4), (3, .int v3), (4, .int v4)]) dX11_better_62 rfl (by decide) (fun _ => rfl) fun x4 =>
    aw_iincV (pc := 63) C (i := 3) (cst := 1) (fun x5 => [(0, .ref 0), (1, .int v1), (2, .int x4), (3, .int x5), (4, .int v4)]) dX11_better_63 rfl rfl (by decide) (fun _ => rfl) fun x5 =>
    (aX11_better_j66 C v1 x4 x5 v4 (X11_better_l21 v1 n) ih h)) (fun _ =>
    aw_goto (pc := 52) C (tgt := 66) dX11_better_52 rfl <|
    (aX11_better_j66 C v1 v2 v3 v4 (X11_better_l21 v1 n) ih h))) (fun _ =>
    (aX11_better_j66 C v1 v2 v3 v4 (X11_better_l21 v1 n) ih h)))
def X11_better (v1 : Int32) (h : AH) : Option (Int32 × AH) :=
    bd (X11_isJumper v1 h) fun r1 h2 =>
    if r1 = 0 then (bd (X11_no (-1) h2) fun r6 h7 =>
    some (r6, h7))
    else (X11_better_l21 v1 FU 0 0 0 h2)
set_option maxRecDepth 100000 in
theorem c_X11_better (l : Launch) (v1 : Int32) : MC l yX11_better cX11_better 5 (some .int) rmX11_better ZR [.ref 0, .int v1] rvI (X11_better v1) :=
  MC.of (own := RX11) (by decide +kernel) rfl (Nat.le_of_ble_eq_true rfl) fun X yd A h _ C =>
    aw_aload_n (pc := 0) C (i := 0) dX11_better_0 rfl rfl <|
    aw_iload_n (pc := 1) C (i := 1) dX11_better_1 rfl rfl <|
    aw_callF (pc := 2) C (cr_V (rest := []) (F := (X11_isJumper v1)) C (c_X11_isJumper X.2.1 v1) dX11_better_2 mf_X11_isJumper ml_X11_207 im_X11_isJumper se_X11_isJumper sR_0 rfl ⟨(Nat.le_of_ble_eq_true rfl), (Nat.le_of_ble_eq_true rfl)⟩ rfl rfl (Nat.le_of_ble_eq_true rfl)) rfl rfl rfl (Nat.zero_le _) (Nat.zero_le _) fun r1 h2 =>
    aw_if_ne (pc := 5) C (tgt := 14) dX11_better_5 rfl (fun _ =>
    aw_aload_n (pc := 8) C (i := 0) dX11_better_8 rfl rfl <|
    aw_iconst (pc := 9) C (v := (-1)) dX11_better_9 rfl <|
    aw_callF (pc := 10) C (cr_V (rest := []) (F := (X11_no (-1))) C (c_X11_no X.2.1 (-1)) dX11_better_10 mf_X11_no ml_X11_115 im_X11_no se_X11_no sR_0 rfl ⟨(Nat.le_of_ble_eq_true rfl), (Nat.le_of_ble_eq_true rfl)⟩ rfl rfl (Nat.le_of_ble_eq_true rfl)) rfl rfl rfl (Nat.zero_le _) (Nat.zero_le _) fun r6 h7 =>
    aw_iret (pc := 13) C dX11_better_13 rfl rfl) (fun _ =>
    aw_iconst (pc := 14) C (v := 0) dX11_better_14 rfl <|
    aw_istore_n (pc := 15) C (i := 2) (lv' := [(0, .ref 0), (1, .int v1), (2, .int 0)]) dX11_better_15 rfl (by decide) rfl <|
    aw_iconst (pc := 16) C (v := 0) dX11_better_16 rfl <|
    aw_istore_n (pc := 17) C (i := 3) (lv' := [(0, .ref 0), (1, .int v1), (2, .int 0), (3, .int 0)]) dX11_better_17 rfl (by decide) rfl <|
    aw_iconst (pc := 18) C (v := 0) dX11_better_18 rfl <|
    aw_istore (pc := 19) C (i := 4) (lv' := [(0, .ref 0), (1, .int v1), (2, .int 0), (3, .int 0), (4, .int 0)]) dX11_better_19 (by decide) rfl <|
    (aX11_better_l21 C v1 FU 0 0 0 h2))

abbrev rmX11_half : Room := { frames := 1, cells := 0, slots := 0, locals := 21 }
def X11_half_j117  (v1 : Int32) (v2 : Int32) (v3 : Int32) (K18 : Int32 → Int32 → AH → Option (Int32 × AH)) (h : AH) : Option (Int32 × AH) :=
    vl (v3 + 1) fun x3 =>
    K18 v2 x3 h
set_option maxRecDepth 100000 in
theorem aX11_half_j117 {X : MCx} {yd : Dyn} {A : Nat → Prop} (C : OK X cX11_half RX11 6 (some .int) rmX11_half A)  (v1 : Int32) (v2 : Int32) (v3 : Int32) (K18 : Int32 → Int32 → AH → Option (Int32 × AH)) (hK18 : ∀ (w2 : Int32) (w3 : Int32) (h : AH), AW X 6 ZR yd A 0 0 (QF X rmX11_half ZR yd rvI A) 18 [(0, .ref 0), (1, .int v1), (2, .int w2), (3, .int w3)] [] h (K18 w2 w3 h)) (h : AH) : AW X 6 ZR yd A 0 0 (QF X rmX11_half ZR yd rvI A) 117 [(0, .ref 0), (1, .int v1), (2, .int v2), (3, .int v3)] [] h (X11_half_j117 v1 v2 v3 K18 h) := by
    exact aw_iincV (pc := 117) C (i := 3) (cst := 1) (fun x3 => [(0, .ref 0), (1, .int v1), (2, .int v2), (3, .int x3)]) dX11_half_117 rfl rfl (by decide) (fun _ => rfl) fun x3 =>
    aw_goto (pc := 120) C (tgt := 18) dX11_half_120 rfl <|
    (hK18 v2 x3 h)
def X11_half_j105  (v1 : Int32) (v2 : Int32) (v3 : Int32) (v4 : Int32) (v5 : Int32) (K18 : Int32 → Int32 → AH → Option (Int32 × AH)) (h : AH) : Option (Int32 × AH) :=
    ck v5 6 (vl (sI h 28 v5.toNatClampNeg v4) fun h6 =>
    vl (v2 + 1) fun x7 =>
    X11_half_j117 v1 x7 v3 K18 h6)
set_option maxRecDepth 100000 in
theorem aX11_half_j105 {X : MCx} {yd : Dyn} {A : Nat → Prop} (C : OK X cX11_half RX11 6 (some .int) rmX11_half A)  (v1 : Int32) (v2 : Int32) (v3 : Int32) (v4 : Int32) (v5 : Int32) (K18 : Int32 → Int32 → AH → Option (Int32 × AH)) (hK18 : ∀ (w2 : Int32) (w3 : Int32) (h : AH), AW X 6 ZR yd A 0 0 (QF X rmX11_half ZR yd rvI A) 18 [(0, .ref 0), (1, .int v1), (2, .int w2), (3, .int w3)] [] h (K18 w2 w3 h)) (h : AH) : AW X 6 ZR yd A 0 0 (QF X rmX11_half ZR yd rvI A) 105 [(0, .ref 0), (1, .int v1), (2, .int v2), (3, .int v3), (4, .int v4), (5, .int v5)] [] h (X11_half_j105 v1 v2 v3 v4 v5 K18 h) := by
    exact aw_aload_n (pc := 105) C (i := 0) dX11_half_105 rfl rfl <|
    aw_getR (pc := 106) C (b := 28) dX11_half_106 fl_X11_92 sR_0 rfl rR_0_39 <|
    aw_iload (pc := 109) C (i := 5) dX11_half_109 rfl <|
    aw_iload (pc := 111) C (i := 4) dX11_half_111 rfl <|
    aw_iast (pc := 113) C dX11_half_113 sR_28 rfl fun h6 =>
    aw_iincV (pc := 114) C (i := 2) (cst := 1) (fun x7 => [(0, .ref 0), (1, .int v1), (2, .int x7), (3, .int v3), (4, .int v4), (5, .int v5)]) dX11_half_114 rfl rfl (by decide) (fun _ => rfl) fun x7 =>
    aw_drop [0, 1, 2, 3] (aX11_half_j117 C v1 x7 v3 K18 hK18 h6)
def X11_half_l64  (v1 : Int32) (v2 : Int32) (v3 : Int32) (v4 : Int32) (K18 : Int32 → Int32 → AH → Option (Int32 × AH)) : Nat → Int32 → AH → Option (Int32 × AH)
  | 0, _, _ => none
  | n + 1, v5, h =>
    if v5 ≤ 0 then (X11_half_j105 v1 v2 v3 v4 v5 K18 h)
    else (ck (v5 - 1) 6 (if (h.1 28 (v5 - 1).toNatClampNeg) ≤ v4 then (X11_half_j105 v1 v2 v3 v4 v5 K18 h)
    else (ck (v5 - 1) 6 (ck v5 6 (vl (sI h 28 v5.toNatClampNeg (h.1 28 (v5 - 1).toNatClampNeg)) fun h8 =>
    vl (v5 + (-1)) fun x9 =>
    (X11_half_l64 v1 v2 v3 v4 K18 n) x9 h8)))))
set_option maxRecDepth 100000 in
theorem aX11_half_l64 {X : MCx} {yd : Dyn} {A : Nat → Prop} (C : OK X cX11_half RX11 6 (some .int) rmX11_half A)  (v1 : Int32) (v2 : Int32) (v3 : Int32) (v4 : Int32) (K18 : Int32 → Int32 → AH → Option (Int32 × AH)) (hK18 : ∀ (w2 : Int32) (w3 : Int32) (h : AH), AW X 6 ZR yd A 0 0 (QF X rmX11_half ZR yd rvI A) 18 [(0, .ref 0), (1, .int v1), (2, .int w2), (3, .int w3)] [] h (K18 w2 w3 h)) : ∀ (n : Nat) (v5 : Int32) (h : AH), AW X 6 ZR yd A 0 0 (QF X rmX11_half ZR yd rvI A) 64 [(0, .ref 0), (1, .int v1), (2, .int v2), (3, .int v3), (4, .int v4), (5, .int v5)] [] h (X11_half_l64 v1 v2 v3 v4 K18 n v5 h) := by
  intro n
  induction n with
  | zero => intro v5 h; exact aw_none
  | succ n ih =>
    intro v5 h
    exact aw_iload (pc := 64) C (i := 5) dX11_half_64 rfl <|
    aw_if_le (pc := 66) C (tgt := 105) dX11_half_66 rfl (fun _ =>
    (aX11_half_j105 C v1 v2 v3 v4 v5 K18 hK18 h)) (fun _ =>
    aw_aload_n (pc := 69) C (i := 0) dX11_half_69 rfl rfl <|
    aw_getR (pc := 70) C (b := 28) dX11_half_70 fl_X11_92 sR_0 rfl rR_0_39 <|
    aw_iload (pc := 73) C (i := 5) dX11_half_73 rfl <|
    aw_iconst (pc := 75) C (v := 1) dX11_half_75 rfl <|
    aw_isub (pc := 76) C dX11_half_76 <|
    aw_iald (pc := 77) C dX11_half_77 sR_28 rfl <|
    aw_iload (pc := 78) C (i := 4) dX11_half_78 rfl <|
    aw_icmp_le (pc := 80) C (tgt := 105) dX11_half_80 rfl (fun _ =>
    (aX11_half_j105 C v1 v2 v3 v4 v5 K18 hK18 h)) (fun _ =>
    aw_aload_n (pc := 83) C (i := 0) dX11_half_83 rfl rfl <|
    aw_getR (pc := 84) C (b := 28) dX11_half_84 fl_X11_92 sR_0 rfl rR_0_39 <|
    aw_iload (pc := 87) C (i := 5) dX11_half_87 rfl <|
    aw_aload_n (pc := 89) C (i := 0) dX11_half_89 rfl rfl <|
    aw_getR (pc := 90) C (b := 28) dX11_half_90 fl_X11_92 sR_0 rfl rR_0_39 <|
    aw_iload (pc := 93) C (i := 5) dX11_half_93 rfl <|
    aw_iconst (pc := 95) C (v := 1) dX11_half_95 rfl <|
    aw_isub (pc := 96) C dX11_half_96 <|
    aw_iald (pc := 97) C dX11_half_97 sR_28 rfl <|
    aw_iast (pc := 98) C dX11_half_98 sR_28 rfl fun h8 =>
    aw_iincV (pc := 99) C (i := 5) (cst := (-1)) (fun x9 => [(0, .ref 0), (1, .int v1), (2, .int v2), (3, .int v3), (4, .int v4), (5, .int x9)]) dX11_half_99 rfl rfl (by decide) (fun _ => rfl) fun x9 =>
    aw_goto (pc := 102) C (tgt := 64) dX11_half_102 rfl <|
    (ih x9 h8)))
def X11_half_l18  (v1 : Int32) : Nat → Int32 → Int32 → AH → Option (Int32 × AH)
  | 0, _, _, _ => none
  | n + 1, v2, v3, h =>
    if (h.1 0 16) ≤ v3 then (if v2 = 0 then (some ((-9), h))
    else (ck ((v2 - 1) / 2) 6 (some ((h.1 28 ((v2 - 1) / 2).toNatClampNeg), h))))
    else (ck v3 24 (if (h.1 10 v3.toNatClampNeg) = v1 then (ck v3 24 (if (h.1 11 v3.toNatClampNeg) = (-8) then (X11_half_j117 v1 v2 v3 (X11_half_l18 v1 n) h)
    else (ck v3 24 (bd (X11_atLeast0 (h.1 11 v3.toNatClampNeg) h) fun r4 h5 =>
    X11_half_l64 v1 v2 v3 r4 (X11_half_l18 v1 n) FU v2 h5))))
    else (X11_half_j117 v1 v2 v3 (X11_half_l18 v1 n) h)))
set_option maxRecDepth 100000 in
theorem aX11_half_l18 {X : MCx} {yd : Dyn} {A : Nat → Prop} (C : OK X cX11_half RX11 6 (some .int) rmX11_half A)  (v1 : Int32) : ∀ (n : Nat) (v2 : Int32) (v3 : Int32) (h : AH), AW X 6 ZR yd A 0 0 (QF X rmX11_half ZR yd rvI A) 18 [(0, .ref 0), (1, .int v1), (2, .int v2), (3, .int v3)] [] h (X11_half_l18 v1 n v2 v3 h) := by
  intro n
  induction n with
  | zero => intro v2 v3 h; exact aw_none
  | succ n ih =>
    intro v2 v3 h
    exact aw_iload_n (pc := 18) C (i := 3) dX11_half_18 rfl rfl <|
    aw_aload_n (pc := 19) C (i := 0) dX11_half_19 rfl rfl <|
    aw_getI (pc := 20) C dX11_half_20 fl_X11_147 sR_0 rfl <|
    aw_icmp_ge (pc := 23) C (tgt := 123) dX11_half_23 rfl (fun _ =>
    aw_iload_n (pc := 123) C (i := 2) dX11_half_123 rfl rfl <|
    aw_if_ne (pc := 124) C (tgt := 132) dX11_half_124 rfl (fun _ =>
    aw_bipush (pc := 127) C (v := (-9)) dX11_half_127 rfl <|
    aw_goto (pc := 129) C (tgt := 142) dX11_half_129 rfl <|
    aw_iret (pc := 142) C dX11_half_142 rfl rfl) (fun _ =>
    aw_aload_n (pc := 132) C (i := 0) dX11_half_132 rfl rfl <|
    aw_getR (pc := 133) C (b := 28) dX11_half_133 fl_X11_92 sR_0 rfl rR_0_39 <|
    aw_iload_n (pc := 136) C (i := 2) dX11_half_136 rfl rfl <|
    aw_iconst (pc := 137) C (v := 1) dX11_half_137 rfl <|
    aw_isub (pc := 138) C dX11_half_138 <|
    aw_iconst (pc := 139) C (v := 2) dX11_half_139 rfl <|
    aw_idivK (pc := 140) C dX11_half_140 (by decide) <|
    aw_iald (pc := 141) C dX11_half_141 sR_28 rfl <|
    aw_iret (pc := 142) C dX11_half_142 rfl rfl)) (fun _ =>
    aw_aload_n (pc := 26) C (i := 0) dX11_half_26 rfl rfl <|
    aw_getR (pc := 27) C (b := 10) dX11_half_27 fl_X11_37 sR_0 rfl rR_0_9 <|
    aw_iload_n (pc := 30) C (i := 3) dX11_half_30 rfl rfl <|
    aw_iald (pc := 31) C dX11_half_31 sR_10 rfl <|
    aw_iload_n (pc := 32) C (i := 1) dX11_half_32 rfl rfl <|
    aw_icmp_ne (pc := 33) C (tgt := 117) dX11_half_33 rfl (fun _ =>
    aw_aload_n (pc := 36) C (i := 0) dX11_half_36 rfl rfl <|
    aw_getR (pc := 37) C (b := 11) dX11_half_37 fl_X11_40 sR_0 rfl rR_0_10 <|
    aw_iload_n (pc := 40) C (i := 3) dX11_half_40 rfl rfl <|
    aw_iald (pc := 41) C dX11_half_41 sR_11 rfl <|
    aw_bipush (pc := 42) C (v := (-8)) dX11_half_42 rfl <|
    aw_icmp_ne (pc := 44) C (tgt := 50) dX11_half_44 rfl (fun _ =>
    aw_goto (pc := 47) C (tgt := 117) dX11_half_47 rfl <|
    (aX11_half_j117 C v1 v2 v3 (X11_half_l18 v1 n) ih h)) (fun _ =>
    aw_aload_n (pc := 50) C (i := 0) dX11_half_50 rfl rfl <|
    aw_getR (pc := 51) C (b := 11) dX11_half_51 fl_X11_40 sR_0 rfl rR_0_10 <|
    aw_iload_n (pc := 54) C (i := 3) dX11_half_54 rfl rfl <|
    aw_iald (pc := 55) C dX11_half_55 sR_11 rfl <|
    aw_callF (pc := 56) C (cr_S (rest := []) (F := (X11_atLeast0 (h.1 11 v3.toNatClampNeg))) C (c_X11_atLeast0 X.2.1 (h.1 11 v3.toNatClampNeg)) dX11_half_56 mf_X11_atLeast0 ml_X11_204 st_X11_atLeast0 ⟨(Nat.le_of_ble_eq_true rfl), (Nat.le_of_ble_eq_true rfl)⟩ rfl rfl (Nat.le_of_ble_eq_true rfl)) rfl rfl rfl (Nat.zero_le _) (Nat.zero_le _) fun r4 h5 =>
    aw_istore (pc := 59) C (i := 4) (lv' := [(0, .ref 0), (1, .int v1), (2, .int v2), (3, .int v3), (4, .int r4)]) dX11_half_59 (by decide) rfl <|
    aw_iload_n (pc := 61) C (i := 2) dX11_half_61 rfl rfl <|
    aw_istore (pc := 62) C (i := 5) (lv' := [(0, .ref 0), (1, .int v1), (2, .int v2), (3, .int v3), (4, .int r4), (5, .int v2)]) dX11_half_62 (by decide) rfl <|
    (aX11_half_l64 C v1 v2 v3 r4 (X11_half_l18 v1 n) ih FU v2 h5))) (fun _ =>
    (aX11_half_j117 C v1 v2 v3 (X11_half_l18 v1 n) ih h)))
def X11_half (v1 : Int32) (h : AH) : Option (Int32 × AH) :=
    bd (X11_isJumper v1 h) fun r1 h2 =>
    if r1 = 0 then (bd (X11_no (-1) h2) fun r10 h11 =>
    some (r10, h11))
    else (X11_half_l18 v1 FU 0 0 h2)
set_option maxRecDepth 100000 in
theorem c_X11_half (l : Launch) (v1 : Int32) : MC l yX11_half cX11_half 6 (some .int) rmX11_half ZR [.ref 0, .int v1] rvI (X11_half v1) :=
  MC.of (own := RX11) (by decide +kernel) rfl (Nat.le_of_ble_eq_true rfl) fun X yd A h _ C =>
    aw_aload_n (pc := 0) C (i := 0) dX11_half_0 rfl rfl <|
    aw_iload_n (pc := 1) C (i := 1) dX11_half_1 rfl rfl <|
    aw_callF (pc := 2) C (cr_V (rest := []) (F := (X11_isJumper v1)) C (c_X11_isJumper X.2.1 v1) dX11_half_2 mf_X11_isJumper ml_X11_207 im_X11_isJumper se_X11_isJumper sR_0 rfl ⟨(Nat.le_of_ble_eq_true rfl), (Nat.le_of_ble_eq_true rfl)⟩ rfl rfl (Nat.le_of_ble_eq_true rfl)) rfl rfl rfl (Nat.zero_le _) (Nat.zero_le _) fun r1 h2 =>
    aw_if_ne (pc := 5) C (tgt := 14) dX11_half_5 rfl (fun _ =>
    aw_aload_n (pc := 8) C (i := 0) dX11_half_8 rfl rfl <|
    aw_iconst (pc := 9) C (v := (-1)) dX11_half_9 rfl <|
    aw_callF (pc := 10) C (cr_V (rest := []) (F := (X11_no (-1))) C (c_X11_no X.2.1 (-1)) dX11_half_10 mf_X11_no ml_X11_115 im_X11_no se_X11_no sR_0 rfl ⟨(Nat.le_of_ble_eq_true rfl), (Nat.le_of_ble_eq_true rfl)⟩ rfl rfl (Nat.le_of_ble_eq_true rfl)) rfl rfl rfl (Nat.zero_le _) (Nat.zero_le _) fun r10 h11 =>
    aw_iret (pc := 13) C dX11_half_13 rfl rfl) (fun _ =>
    aw_iconst (pc := 14) C (v := 0) dX11_half_14 rfl <|
    aw_istore_n (pc := 15) C (i := 2) (lv' := [(0, .ref 0), (1, .int v1), (2, .int 0)]) dX11_half_15 rfl (by decide) rfl <|
    aw_iconst (pc := 16) C (v := 0) dX11_half_16 rfl <|
    aw_istore_n (pc := 17) C (i := 3) (lv' := [(0, .ref 0), (1, .int v1), (2, .int 0), (3, .int 0)]) dX11_half_17 rfl (by decide) rfl <|
    (aX11_half_l18 C v1 FU 0 0 h2))

abbrev rmX11_safe : Room := { frames := 4, cells := 0, slots := 0, locals := 90 }
def X11_safe_j60  (v1 : Int32) (v2 : Int32) (v3 : Int32) (K16 : Int32 → AH → Option (Int32 × AH)) (K34 : Int32 → AH → Option (Int32 × AH)) (s0 : Int32) (s1 : Int32) (h : AH) : Option (Int32 × AH) :=
    bd (X11_comesLength s1 s0 h) fun _ h15 =>
    vl (v3 + 1) fun x16 =>
    K34 x16 h15
set_option maxRecDepth 100000 in
theorem aX11_safe_j60 {X : MCx} {yd : Dyn} {A : Nat → Prop} (C : OK X cX11_safe RX11 4 (some .int) rmX11_safe A)  (v1 : Int32) (v2 : Int32) (v3 : Int32) (K16 : Int32 → AH → Option (Int32 × AH)) (hK16 : ∀ (w2 : Int32) (h : AH), AW X 4 ZR yd A 0 0 (QF X rmX11_safe ZR yd rvI A) 16 [(0, .ref 0), (1, .int v1), (2, .int w2)] [] h (K16 w2 h)) (K34 : Int32 → AH → Option (Int32 × AH)) (hK34 : ∀ (w3 : Int32) (h : AH), AW X 4 ZR yd A 0 0 (QF X rmX11_safe ZR yd rvI A) 34 [(0, .ref 0), (1, .int v1), (2, .int v2), (3, .int w3)] [] h (K34 w3 h)) (s0 : Int32) (s1 : Int32) (h : AH) : AW X 4 ZR yd A 0 0 (QF X rmX11_safe ZR yd rvI A) 60 [(0, .ref 0), (1, .int v1), (2, .int v2), (3, .int v3)] [.int s0, .int s1, .ref 0] h (X11_safe_j60 v1 v2 v3 K16 K34 s0 s1 h) := by
    exact aw_callF (pc := 60) C (cr_V (rest := []) (F := (X11_comesLength s1 s0)) C (c_X11_comesLength X.2.1 s1 s0) dX11_safe_60 mf_X11_comesLength ml_X11_262 im_X11_comesLength se_X11_comesLength sR_0 rfl ⟨(Nat.le_of_ble_eq_true rfl), (Nat.le_of_ble_eq_true rfl)⟩ rfl rfl (Nat.le_of_ble_eq_true rfl)) rfl rfl rfl (Nat.zero_le _) (Nat.zero_le _) fun _ h15 =>
    aw_iincV (pc := 63) C (i := 3) (cst := 1) (fun x16 => [(0, .ref 0), (1, .int v1), (2, .int v2), (3, .int x16)]) dX11_safe_63 rfl rfl (by decide) (fun _ => rfl) fun x16 =>
    aw_goto (pc := 66) C (tgt := 34) dX11_safe_66 rfl <|
    (hK34 x16 h15)
def X11_safe_l34  (v1 : Int32) (v2 : Int32) (K16 : Int32 → AH → Option (Int32 × AH)) : Nat → Int32 → AH → Option (Int32 × AH)
  | 0, _, _ => none
  | n + 1, v3, h =>
    if (h.1 0 15) ≤ v3 then (bd (X11_sorts h) fun _ h6 =>
    bd (X11_rankOf v1 h6) fun r7 h8 =>
    bd (X11_finalists h8) fun r9 h10 =>
    if r9 ≤ r7 then (vl (v2 + 1) fun x11 =>
    K16 x11 h10)
    else (some (v2, h10)))
    else (if v3 = v1 then (X11_safe_j60 v1 v2 v3 K16 (X11_safe_l34 v1 v2 K16 n) v2 v3 h)
    else (bd (X11_lengthOf v3 0 0 h) fun r12 h13 =>
    X11_safe_j60 v1 v2 v3 K16 (X11_safe_l34 v1 v2 K16 n) r12 v3 h13))
set_option maxRecDepth 100000 in
theorem aX11_safe_l34 {X : MCx} {yd : Dyn} {A : Nat → Prop} (C : OK X cX11_safe RX11 4 (some .int) rmX11_safe A)  (v1 : Int32) (v2 : Int32) (K16 : Int32 → AH → Option (Int32 × AH)) (hK16 : ∀ (w2 : Int32) (h : AH), AW X 4 ZR yd A 0 0 (QF X rmX11_safe ZR yd rvI A) 16 [(0, .ref 0), (1, .int v1), (2, .int w2)] [] h (K16 w2 h)) : ∀ (n : Nat) (v3 : Int32) (h : AH), AW X 4 ZR yd A 0 0 (QF X rmX11_safe ZR yd rvI A) 34 [(0, .ref 0), (1, .int v1), (2, .int v2), (3, .int v3)] [] h (X11_safe_l34 v1 v2 K16 n v3 h) := by
  intro n
  induction n with
  | zero => intro v3 h; exact aw_none
  | succ n ih =>
    intro v3 h
    exact aw_iload_n (pc := 34) C (i := 3) dX11_safe_34 rfl rfl <|
    aw_aload_n (pc := 35) C (i := 0) dX11_safe_35 rfl rfl <|
    aw_getI (pc := 36) C dX11_safe_36 fl_X11_105 sR_0 rfl <|
    aw_icmp_ge (pc := 39) C (tgt := 69) dX11_safe_39 rfl (fun _ =>
    aw_aload_n (pc := 69) C (i := 0) dX11_safe_69 rfl rfl <|
    aw_callF (pc := 70) C (cr_V (rest := []) (F := X11_sorts) C (c_X11_sorts X.2.1 ) dX11_safe_70 mf_X11_sorts ml_X11_268 im_X11_sorts se_X11_sorts sR_0 rfl ⟨(Nat.le_of_ble_eq_true rfl), (Nat.le_of_ble_eq_true rfl)⟩ rfl rfl (Nat.le_of_ble_eq_true rfl)) rfl rfl rfl (Nat.zero_le _) (Nat.zero_le _) fun _ h6 =>
    aw_aload_n (pc := 73) C (i := 0) dX11_safe_73 rfl rfl <|
    aw_iload_n (pc := 74) C (i := 1) dX11_safe_74 rfl rfl <|
    aw_callF (pc := 75) C (cr_V (rest := []) (F := (X11_rankOf v1)) C (c_X11_rankOf X.2.1 v1) dX11_safe_75 mf_X11_rankOf ml_X11_274 im_X11_rankOf se_X11_rankOf sR_0 rfl ⟨(Nat.le_of_ble_eq_true rfl), (Nat.le_of_ble_eq_true rfl)⟩ rfl rfl (Nat.le_of_ble_eq_true rfl)) rfl rfl rfl (Nat.zero_le _) (Nat.zero_le _) fun r7 h8 =>
    aw_aload_n (pc := 78) C (i := 0) dX11_safe_78 rfl rfl <|
    aw_callF (pc := 79) C (cr_V (rest := [.int r7]) (F := X11_finalists) C (c_X11_finalists X.2.1 ) dX11_safe_79 mf_X11_finalists ml_X11_271 im_X11_finalists se_X11_finalists sR_0 rfl ⟨(Nat.le_of_ble_eq_true rfl), (Nat.le_of_ble_eq_true rfl)⟩ rfl rfl (Nat.le_of_ble_eq_true rfl)) rfl rfl rfl (Nat.zero_le _) (Nat.zero_le _) fun r9 h10 =>
    aw_icmp_ge (pc := 82) C (tgt := 87) dX11_safe_82 rfl (fun _ =>
    aw_iincV (pc := 87) C (i := 2) (cst := 1) (fun x11 => [(0, .ref 0), (1, .int v1), (2, .int x11), (3, .int v3)]) dX11_safe_87 rfl rfl (by decide) (fun _ => rfl) fun x11 =>
    aw_goto (pc := 90) C (tgt := 16) dX11_safe_90 rfl <|
    aw_drop [0, 1, 2] (hK16 x11 h10)) (fun _ =>
    aw_iload_n (pc := 85) C (i := 2) dX11_safe_85 rfl rfl <|
    aw_iret (pc := 86) C dX11_safe_86 rfl rfl)) (fun _ =>
    aw_aload_n (pc := 42) C (i := 0) dX11_safe_42 rfl rfl <|
    aw_iload_n (pc := 43) C (i := 3) dX11_safe_43 rfl rfl <|
    aw_iload_n (pc := 44) C (i := 3) dX11_safe_44 rfl rfl <|
    aw_iload_n (pc := 45) C (i := 1) dX11_safe_45 rfl rfl <|
    aw_icmp_ne (pc := 46) C (tgt := 53) dX11_safe_46 rfl (fun _ =>
    aw_iload_n (pc := 49) C (i := 2) dX11_safe_49 rfl rfl <|
    aw_goto (pc := 50) C (tgt := 60) dX11_safe_50 rfl <|
    (aX11_safe_j60 C v1 v2 v3 K16 hK16 (X11_safe_l34 v1 v2 K16 n) ih v2 v3 h)) (fun _ =>
    aw_aload_n (pc := 53) C (i := 0) dX11_safe_53 rfl rfl <|
    aw_iload_n (pc := 54) C (i := 3) dX11_safe_54 rfl rfl <|
    aw_iconst (pc := 55) C (v := 0) dX11_safe_55 rfl <|
    aw_iconst (pc := 56) C (v := 0) dX11_safe_56 rfl <|
    aw_callF (pc := 57) C (cr_V (rest := [.int v3, .ref 0]) (F := (X11_lengthOf v3 0 0)) C (c_X11_lengthOf X.2.1 v3 0 0) dX11_safe_57 mf_X11_lengthOf ml_X11_163 im_X11_lengthOf se_X11_lengthOf sR_0 rfl ⟨(Nat.le_of_ble_eq_true rfl), (Nat.le_of_ble_eq_true rfl)⟩ rfl rfl (Nat.le_of_ble_eq_true rfl)) rfl rfl rfl (Nat.zero_le _) (Nat.zero_le _) fun r12 h13 =>
    (aX11_safe_j60 C v1 v2 v3 K16 hK16 (X11_safe_l34 v1 v2 K16 n) ih r12 v3 h13)))
def X11_safe_l16  (v1 : Int32) : Nat → Int32 → AH → Option (Int32 × AH)
  | 0, _, _ => none
  | n + 1, v2, h =>
    if 1000 ≤ v2 then (some ((-9), h))
    else (bd (X11_findBest 0 (h.1 0 16) h) fun _ h4 =>
    X11_safe_l34 v1 v2 (X11_safe_l16 v1 n) FU 0 h4)
set_option maxRecDepth 100000 in
theorem aX11_safe_l16 {X : MCx} {yd : Dyn} {A : Nat → Prop} (C : OK X cX11_safe RX11 4 (some .int) rmX11_safe A)  (v1 : Int32) : ∀ (n : Nat) (v2 : Int32) (h : AH), AW X 4 ZR yd A 0 0 (QF X rmX11_safe ZR yd rvI A) 16 [(0, .ref 0), (1, .int v1), (2, .int v2)] [] h (X11_safe_l16 v1 n v2 h) := by
  intro n
  induction n with
  | zero => intro v2 h; exact aw_none
  | succ n ih =>
    intro v2 h
    exact aw_iload_n (pc := 16) C (i := 2) dX11_safe_16 rfl rfl <|
    aw_sipush (pc := 17) C (v := 1000) dX11_safe_17 rfl <|
    aw_icmp_ge (pc := 20) C (tgt := 93) dX11_safe_20 rfl (fun _ =>
    aw_bipush (pc := 93) C (v := (-9)) dX11_safe_93 rfl <|
    aw_iret (pc := 95) C dX11_safe_95 rfl rfl) (fun _ =>
    aw_aload_n (pc := 23) C (i := 0) dX11_safe_23 rfl rfl <|
    aw_iconst (pc := 24) C (v := 0) dX11_safe_24 rfl <|
    aw_aload_n (pc := 25) C (i := 0) dX11_safe_25 rfl rfl <|
    aw_getI (pc := 26) C dX11_safe_26 fl_X11_147 sR_0 rfl <|
    aw_callF (pc := 29) C (cr_V (rest := []) (F := (X11_findBest 0 (h.1 0 16))) C (c_X11_findBest X.2.1 0 (h.1 0 16)) dX11_safe_29 mf_X11_findBest ml_X11_213 im_X11_findBest se_X11_findBest sR_0 rfl ⟨(Nat.le_of_ble_eq_true rfl), (Nat.le_of_ble_eq_true rfl)⟩ rfl rfl (Nat.le_of_ble_eq_true rfl)) rfl rfl rfl (Nat.zero_le _) (Nat.zero_le _) fun _ h4 =>
    aw_iconst (pc := 32) C (v := 0) dX11_safe_32 rfl <|
    aw_istore_n (pc := 33) C (i := 3) (lv' := [(0, .ref 0), (1, .int v1), (2, .int v2), (3, .int 0)]) dX11_safe_33 rfl (by decide) rfl <|
    (aX11_safe_l34 C v1 v2 (X11_safe_l16 v1 n) ih FU 0 h4))
def X11_safe (v1 : Int32) (h : AH) : Option (Int32 × AH) :=
    bd (X11_isJumper v1 h) fun r1 h2 =>
    if r1 = 0 then (bd (X11_no (-1) h2) fun r17 h18 =>
    some (r17, h18))
    else (X11_safe_l16 v1 FU 0 h2)
set_option maxRecDepth 100000 in
theorem c_X11_safe (l : Launch) (v1 : Int32) : MC l yX11_safe cX11_safe 4 (some .int) rmX11_safe ZR [.ref 0, .int v1] rvI (X11_safe v1) :=
  MC.of (own := RX11) (by decide +kernel) rfl (Nat.le_of_ble_eq_true rfl) fun X yd A h _ C =>
    aw_aload_n (pc := 0) C (i := 0) dX11_safe_0 rfl rfl <|
    aw_iload_n (pc := 1) C (i := 1) dX11_safe_1 rfl rfl <|
    aw_callF (pc := 2) C (cr_V (rest := []) (F := (X11_isJumper v1)) C (c_X11_isJumper X.2.1 v1) dX11_safe_2 mf_X11_isJumper ml_X11_207 im_X11_isJumper se_X11_isJumper sR_0 rfl ⟨(Nat.le_of_ble_eq_true rfl), (Nat.le_of_ble_eq_true rfl)⟩ rfl rfl (Nat.le_of_ble_eq_true rfl)) rfl rfl rfl (Nat.zero_le _) (Nat.zero_le _) fun r1 h2 =>
    aw_if_ne (pc := 5) C (tgt := 14) dX11_safe_5 rfl (fun _ =>
    aw_aload_n (pc := 8) C (i := 0) dX11_safe_8 rfl rfl <|
    aw_iconst (pc := 9) C (v := (-1)) dX11_safe_9 rfl <|
    aw_callF (pc := 10) C (cr_V (rest := []) (F := (X11_no (-1))) C (c_X11_no X.2.1 (-1)) dX11_safe_10 mf_X11_no ml_X11_115 im_X11_no se_X11_no sR_0 rfl ⟨(Nat.le_of_ble_eq_true rfl), (Nat.le_of_ble_eq_true rfl)⟩ rfl rfl (Nat.le_of_ble_eq_true rfl)) rfl rfl rfl (Nat.zero_le _) (Nat.zero_le _) fun r17 h18 =>
    aw_iret (pc := 13) C dX11_safe_13 rfl rfl) (fun _ =>
    aw_iconst (pc := 14) C (v := 0) dX11_safe_14 rfl <|
    aw_istore_n (pc := 15) C (i := 2) (lv' := [(0, .ref 0), (1, .int v1), (2, .int 0)]) dX11_safe_15 rfl (by decide) rfl <|
    (aX11_safe_l16 C v1 FU 0 h2))

abbrev rmX11_mayStill : Room := { frames := 6, cells := 0, slots := 0, locals := 130 }
def X11_mayStill_j60  (v3 : Int32) (K28 : Int32 → Int32 → AH → Option (Int32 × AH)) (s0 : Int32) (s1 : Int32) (h : AH) : Option (Int32 × AH) :=
    vl (s1 ||| s0) fun x9 =>
    vl (v3 + 1) fun x10 =>
    K28 x9 x10 h
set_option maxRecDepth 100000 in
theorem aX11_mayStill_j60 {X : MCx} {yd : Dyn} {A : Nat → Prop} (C : OK X cX11_mayStill RX11 4 (some .int) rmX11_mayStill A)  (v3 : Int32) (K28 : Int32 → Int32 → AH → Option (Int32 × AH)) (hK28 : ∀ (w2 : Int32) (w3 : Int32) (h : AH), AW X 4 ZR yd A 0 0 (QF X rmX11_mayStill ZR yd rvI A) 28 [(0, .ref 0), (2, .int w2), (3, .int w3)] [] h (K28 w2 w3 h)) (s0 : Int32) (s1 : Int32) (h : AH) : AW X 4 ZR yd A 0 0 (QF X rmX11_mayStill ZR yd rvI A) 60 [(0, .ref 0), (3, .int v3)] [.int s0, .int s1] h (X11_mayStill_j60 v3 K28 s0 s1 h) := by
    exact aw_ior (pc := 60) C dX11_mayStill_60 <|
    aw_istoreV_n (pc := 61) C (i := 2) (fun x9 => [(0, .ref 0), (2, .int x9), (3, .int v3)]) dX11_mayStill_61 rfl (by decide) (fun _ => rfl) fun x9 =>
    aw_iincV (pc := 62) C (i := 3) (cst := 1) (fun x10 => [(0, .ref 0), (2, .int x9), (3, .int x10)]) dX11_mayStill_62 rfl rfl (by decide) (fun _ => rfl) fun x10 =>
    aw_goto (pc := 65) C (tgt := 28) dX11_mayStill_65 rfl <|
    (hK28 x9 x10 h)
def X11_mayStill_l28  : Nat → Int32 → Int32 → AH → Option (Int32 × AH)
  | 0, _, _, _ => none
  | n + 1, v2, v3, h =>
    if (h.1 0 15) ≤ v3 then (some (v2, h))
    else (bd (X11_lengthOf v3 0 0 h) fun r5 h6 =>
    bd (X11_isEnough v3 r5 1 h6) fun r7 h8 =>
    if r7 = 0 then (X11_mayStill_j60 v3 (X11_mayStill_l28 n) 0 v2 h8)
    else (X11_mayStill_j60 v3 (X11_mayStill_l28 n) (shl32 1 v3) v2 h8))
set_option maxRecDepth 100000 in
theorem aX11_mayStill_l28 {X : MCx} {yd : Dyn} {A : Nat → Prop} (C : OK X cX11_mayStill RX11 4 (some .int) rmX11_mayStill A)  : ∀ (n : Nat) (v2 : Int32) (v3 : Int32) (h : AH), AW X 4 ZR yd A 0 0 (QF X rmX11_mayStill ZR yd rvI A) 28 [(0, .ref 0), (2, .int v2), (3, .int v3)] [] h (X11_mayStill_l28 n v2 v3 h) := by
  intro n
  induction n with
  | zero => intro v2 v3 h; exact aw_none
  | succ n ih =>
    intro v2 v3 h
    exact aw_iload_n (pc := 28) C (i := 3) dX11_mayStill_28 rfl rfl <|
    aw_aload_n (pc := 29) C (i := 0) dX11_mayStill_29 rfl rfl <|
    aw_getI (pc := 30) C dX11_mayStill_30 fl_X11_105 sR_0 rfl <|
    aw_icmp_ge (pc := 33) C (tgt := 68) dX11_mayStill_33 rfl (fun _ =>
    aw_iload_n (pc := 68) C (i := 2) dX11_mayStill_68 rfl rfl <|
    aw_iret (pc := 69) C dX11_mayStill_69 rfl rfl) (fun _ =>
    aw_iload_n (pc := 36) C (i := 2) dX11_mayStill_36 rfl rfl <|
    aw_aload_n (pc := 37) C (i := 0) dX11_mayStill_37 rfl rfl <|
    aw_iload_n (pc := 38) C (i := 3) dX11_mayStill_38 rfl rfl <|
    aw_aload_n (pc := 39) C (i := 0) dX11_mayStill_39 rfl rfl <|
    aw_iload_n (pc := 40) C (i := 3) dX11_mayStill_40 rfl rfl <|
    aw_iconst (pc := 41) C (v := 0) dX11_mayStill_41 rfl <|
    aw_iconst (pc := 42) C (v := 0) dX11_mayStill_42 rfl <|
    aw_callF (pc := 43) C (cr_V (rest := [.int v3, .ref 0, .int v2]) (F := (X11_lengthOf v3 0 0)) C (c_X11_lengthOf X.2.1 v3 0 0) dX11_mayStill_43 mf_X11_lengthOf ml_X11_163 im_X11_lengthOf se_X11_lengthOf sR_0 rfl ⟨(Nat.le_of_ble_eq_true rfl), (Nat.le_of_ble_eq_true rfl)⟩ rfl rfl (Nat.le_of_ble_eq_true rfl)) rfl rfl rfl (Nat.zero_le _) (Nat.zero_le _) fun r5 h6 =>
    aw_iconst (pc := 46) C (v := 1) dX11_mayStill_46 rfl <|
    aw_callF (pc := 47) C (cr_V (rest := [.int v2]) (F := (X11_isEnough v3 r5 1)) C (c_X11_isEnough X.2.1 v3 r5 1) dX11_mayStill_47 mf_X11_isEnough ml_X11_277 im_X11_isEnough se_X11_isEnough sR_0 rfl ⟨(Nat.le_of_ble_eq_true rfl), (Nat.le_of_ble_eq_true rfl)⟩ rfl rfl (Nat.le_of_ble_eq_true rfl)) rfl rfl rfl (Nat.zero_le _) (Nat.zero_le _) fun r7 h8 =>
    aw_if_eq (pc := 50) C (tgt := 59) dX11_mayStill_50 rfl (fun _ =>
    aw_iconst (pc := 59) C (v := 0) dX11_mayStill_59 rfl <|
    aw_drop [0, 2] (aX11_mayStill_j60 C v3 (X11_mayStill_l28 n) ih 0 v2 h8)) (fun _ =>
    aw_iconst (pc := 53) C (v := 1) dX11_mayStill_53 rfl <|
    aw_iload_n (pc := 54) C (i := 3) dX11_mayStill_54 rfl rfl <|
    aw_ishl (pc := 55) C dX11_mayStill_55 <|
    aw_goto (pc := 56) C (tgt := 60) dX11_mayStill_56 rfl <|
    aw_drop [0, 2] (aX11_mayStill_j60 C v3 (X11_mayStill_l28 n) ih (shl32 1 v3) v2 h8)))
def X11_mayStill  (h : AH) : Option (Int32 × AH) :=
    bd (X11_leader h) fun r1 h2 =>
    bd (X11_turnNow h2) fun r3 h4 =>
    if 0 ≤ r3 then (X11_mayStill_l28 FU 0 0 h4)
    else (if 0 ≤ r1 then (some ((shl32 1 r1), h4))
    else (some (0, h4)))
set_option maxRecDepth 100000 in
theorem c_X11_mayStill (l : Launch)  : MC l yX11_mayStill cX11_mayStill 4 (some .int) rmX11_mayStill ZR [.ref 0] rvI (X11_mayStill) :=
  MC.of (own := RX11) (by decide +kernel) rfl (Nat.le_of_ble_eq_true rfl) fun X yd A h _ C =>
    aw_aload_n (pc := 0) C (i := 0) dX11_mayStill_0 rfl rfl <|
    aw_callF (pc := 1) C (cr_V (rest := []) (F := X11_leader) C (c_X11_leader X.2.1 ) dX11_mayStill_1 mf_X11_leader ml_X11_283 im_X11_leader se_X11_leader sR_0 rfl ⟨(Nat.le_of_ble_eq_true rfl), (Nat.le_of_ble_eq_true rfl)⟩ rfl rfl (Nat.le_of_ble_eq_true rfl)) rfl rfl rfl (Nat.zero_le _) (Nat.zero_le _) fun r1 h2 =>
    aw_istore_n (pc := 4) C (i := 1) (lv' := [(0, .ref 0), (1, .int r1)]) dX11_mayStill_4 rfl (by decide) rfl <|
    aw_aload_n (pc := 5) C (i := 0) dX11_mayStill_5 rfl rfl <|
    aw_callF (pc := 6) C (cr_V (rest := []) (F := X11_turnNow) C (c_X11_turnNow X.2.1 ) dX11_mayStill_6 mf_X11_turnNow ml_X11_150 im_X11_turnNow se_X11_turnNow sR_0 rfl ⟨(Nat.le_of_ble_eq_true rfl), (Nat.le_of_ble_eq_true rfl)⟩ rfl rfl (Nat.le_of_ble_eq_true rfl)) rfl rfl rfl (Nat.zero_le _) (Nat.zero_le _) fun r3 h4 =>
    aw_if_ge (pc := 9) C (tgt := 24) dX11_mayStill_9 rfl (fun _ =>
    aw_iconst (pc := 24) C (v := 0) dX11_mayStill_24 rfl <|
    aw_istore_n (pc := 25) C (i := 2) (lv' := [(0, .ref 0), (1, .int r1), (2, .int 0)]) dX11_mayStill_25 rfl (by decide) rfl <|
    aw_iconst (pc := 26) C (v := 0) dX11_mayStill_26 rfl <|
    aw_istore_n (pc := 27) C (i := 3) (lv' := [(0, .ref 0), (1, .int r1), (2, .int 0), (3, .int 0)]) dX11_mayStill_27 rfl (by decide) rfl <|
    aw_drop [0, 2, 3] (aX11_mayStill_l28 C FU 0 0 h4)) (fun _ =>
    aw_iload_n (pc := 12) C (i := 1) dX11_mayStill_12 rfl rfl <|
    aw_if_ge (pc := 13) C (tgt := 20) dX11_mayStill_13 rfl (fun _ =>
    aw_iconst (pc := 20) C (v := 1) dX11_mayStill_20 rfl <|
    aw_iload_n (pc := 21) C (i := 1) dX11_mayStill_21 rfl rfl <|
    aw_ishl (pc := 22) C dX11_mayStill_22 <|
    aw_iret (pc := 23) C dX11_mayStill_23 rfl rfl) (fun _ =>
    aw_iconst (pc := 16) C (v := 0) dX11_mayStill_16 rfl <|
    aw_goto (pc := 17) C (tgt := 23) dX11_mayStill_17 rfl <|
    aw_iret (pc := 23) C dX11_mayStill_23 rfl rfl))

abbrev rmX11_drawnSlip : Room := { frames := 0, cells := 0, slots := 0, locals := 0 }
def X11_drawnSlip (v1 : Int32) (h : AH) : Option (Int32 × AH) :=
    vl (sI h 0 40 (((h.1 0 40) * 1103515245) + 12345)) fun h1 =>
    vl (rm32 (((h1.1 0 40) &&& 2147483647) / 65536) 4) fun x2 =>
    if x2 = 0 then (ck v1 4 (some ((h1.1 6 v1.toNatClampNeg), h1)))
    else (if x2 = 3 then (ck v1 4 (some ((-(h1.1 6 v1.toNatClampNeg)), h1)))
    else (some (0, h1)))
set_option maxRecDepth 100000 in
theorem c_X11_drawnSlip (l : Launch) (v1 : Int32) : MC l yX11_drawnSlip cX11_drawnSlip 3 (some .int) rmX11_drawnSlip ZR [.ref 0, .int v1] rvI (X11_drawnSlip v1) :=
  MC.of (own := RX11) (by decide +kernel) rfl (Nat.le_of_ble_eq_true rfl) fun X yd A h _ C =>
    aw_aload_n (pc := 0) C (i := 0) dX11_drawnSlip_0 rfl rfl <|
    aw_aload_n (pc := 1) C (i := 0) dX11_drawnSlip_1 rfl rfl <|
    aw_getI (pc := 2) C dX11_drawnSlip_2 fl_X11_336 sR_0 rfl <|
    aw_ldc_w (pc := 5) C (v := 1103515245) dX11_drawnSlip_5 kc_X11_339 <|
    aw_imul (pc := 8) C dX11_drawnSlip_8 <|
    aw_sipush (pc := 9) C (v := 12345) dX11_drawnSlip_9 rfl <|
    aw_iadd (pc := 12) C dX11_drawnSlip_12 <|
    aw_putI (pc := 13) C dX11_drawnSlip_13 fp_X11_336 sR_0 rfl fun h1 =>
    aw_aload_n (pc := 16) C (i := 0) dX11_drawnSlip_16 rfl rfl <|
    aw_getI (pc := 17) C dX11_drawnSlip_17 fl_X11_336 sR_0 rfl <|
    aw_ldc_w (pc := 20) C (v := 2147483647) dX11_drawnSlip_20 kc_X11_340 <|
    aw_iand (pc := 23) C dX11_drawnSlip_23 <|
    aw_ldc_w (pc := 24) C (v := 65536) dX11_drawnSlip_24 kc_X11_341 <|
    aw_idivK (pc := 27) C dX11_drawnSlip_27 (by decide) <|
    aw_iconst (pc := 28) C (v := 4) dX11_drawnSlip_28 rfl <|
    aw_iremK (pc := 29) C dX11_drawnSlip_29 (by decide) <|
    aw_istoreV_n (pc := 30) C (i := 2) (fun x2 => [(0, .ref 0), (1, .int v1), (2, .int x2)]) dX11_drawnSlip_30 rfl (by decide) (fun _ => rfl) fun x2 =>
    aw_iload_n (pc := 31) C (i := 2) dX11_drawnSlip_31 rfl rfl <|
    aw_if_ne (pc := 32) C (tgt := 44) dX11_drawnSlip_32 rfl (fun _ =>
    aw_aload_n (pc := 35) C (i := 0) dX11_drawnSlip_35 rfl rfl <|
    aw_getR (pc := 36) C (b := 6) dX11_drawnSlip_36 fl_X11_25 sR_0 rfl rR_0_5 <|
    aw_iload_n (pc := 39) C (i := 1) dX11_drawnSlip_39 rfl rfl <|
    aw_iald (pc := 40) C dX11_drawnSlip_40 sR_6 rfl <|
    aw_goto (pc := 41) C (tgt := 60) dX11_drawnSlip_41 rfl <|
    aw_iret (pc := 60) C dX11_drawnSlip_60 rfl rfl) (fun _ =>
    aw_iload_n (pc := 44) C (i := 2) dX11_drawnSlip_44 rfl rfl <|
    aw_iconst (pc := 45) C (v := 3) dX11_drawnSlip_45 rfl <|
    aw_icmp_ne (pc := 46) C (tgt := 59) dX11_drawnSlip_46 rfl (fun _ =>
    aw_aload_n (pc := 49) C (i := 0) dX11_drawnSlip_49 rfl rfl <|
    aw_getR (pc := 50) C (b := 6) dX11_drawnSlip_50 fl_X11_25 sR_0 rfl rR_0_5 <|
    aw_iload_n (pc := 53) C (i := 1) dX11_drawnSlip_53 rfl rfl <|
    aw_iald (pc := 54) C dX11_drawnSlip_54 sR_6 rfl <|
    aw_ineg (pc := 55) C dX11_drawnSlip_55 <|
    aw_goto (pc := 56) C (tgt := 60) dX11_drawnSlip_56 rfl <|
    aw_iret (pc := 60) C dX11_drawnSlip_60 rfl rfl) (fun _ =>
    aw_iconst (pc := 59) C (v := 0) dX11_drawnSlip_59 rfl <|
    aw_iret (pc := 60) C dX11_drawnSlip_60 rfl rfl))

abbrev rmX11_triesByLot : Room := { frames := 3, cells := 0, slots := 0, locals := 69 }
def X11_triesByLot_j109  (v2 : Int32) (s0 : Int32) (s1 : Int32) (h : AH) : Option (Unit × AH) :=
    bd (X11_putsTry s1 s0 v2 h) fun _ h6 =>
    some ((), h6)
set_option maxRecDepth 100000 in
theorem aX11_triesByLot_j109 {X : MCx} {yd : Dyn} {A : Nat → Prop} (C : OK X cX11_triesByLot RX11 6 none rmX11_triesByLot A)  (v2 : Int32) (s0 : Int32) (s1 : Int32) (h : AH) : AW X 6 ZR yd A 0 0 (QF X rmX11_triesByLot ZR yd rvV A) 109 [(2, .int v2)] [.int s0, .int s1, .ref 0] h (X11_triesByLot_j109 v2 s0 s1 h) := by
    exact aw_iload_n (pc := 109) C (i := 2) dX11_triesByLot_109 rfl rfl <|
    aw_callF (pc := 110) C (cr_V (rest := []) (F := (X11_putsTry s1 s0 v2)) C (c_X11_putsTry X.2.1 s1 s0 v2) dX11_triesByLot_110 mf_X11_putsTry ml_X11_153 im_X11_putsTry se_X11_putsTry sR_0 rfl ⟨(Nat.le_of_ble_eq_true rfl), (Nat.le_of_ble_eq_true rfl)⟩ rfl rfl (Nat.le_of_ble_eq_true rfl)) rfl rfl rfl (Nat.zero_le _) (Nat.zero_le _) fun _ h6 =>
    aw_vret (pc := 113) C dX11_triesByLot_113 rfl rfl
def X11_triesByLot_j77  (v1 : Int32) (v2 : Int32) (v3 : Int32) (v4 : Int32) (K11 : Int32 → Int32 → Int32 → AH → Option (Unit × AH)) (h : AH) : Option (Unit × AH) :=
    bd (X11_drawnSlip v1 h) fun r7 h8 =>
    vl (v2 - r7) fun x9 =>
    vl (v4 + 1) fun x10 =>
    K11 x9 v3 x10 h8
set_option maxRecDepth 100000 in
theorem aX11_triesByLot_j77 {X : MCx} {yd : Dyn} {A : Nat → Prop} (C : OK X cX11_triesByLot RX11 6 none rmX11_triesByLot A)  (v1 : Int32) (v2 : Int32) (v3 : Int32) (v4 : Int32) (K11 : Int32 → Int32 → Int32 → AH → Option (Unit × AH)) (hK11 : ∀ (w2 : Int32) (w3 : Int32) (w4 : Int32) (h : AH), AW X 6 ZR yd A 0 0 (QF X rmX11_triesByLot ZR yd rvV A) 11 [(0, .ref 0), (1, .int v1), (2, .int w2), (3, .int w3), (4, .int w4)] [] h (K11 w2 w3 w4 h)) (h : AH) : AW X 6 ZR yd A 0 0 (QF X rmX11_triesByLot ZR yd rvV A) 77 [(0, .ref 0), (1, .int v1), (2, .int v2), (3, .int v3), (4, .int v4)] [] h (X11_triesByLot_j77 v1 v2 v3 v4 K11 h) := by
    exact aw_iload_n (pc := 77) C (i := 2) dX11_triesByLot_77 rfl rfl <|
    aw_aload_n (pc := 78) C (i := 0) dX11_triesByLot_78 rfl rfl <|
    aw_iload_n (pc := 79) C (i := 1) dX11_triesByLot_79 rfl rfl <|
    aw_callF (pc := 80) C (cr_V (rest := [.int v2]) (F := (X11_drawnSlip v1)) C (c_X11_drawnSlip X.2.1 v1) dX11_triesByLot_80 mf_X11_drawnSlip ml_X11_342 im_X11_drawnSlip se_X11_drawnSlip sR_0 rfl ⟨(Nat.le_of_ble_eq_true rfl), (Nat.le_of_ble_eq_true rfl)⟩ rfl rfl (Nat.le_of_ble_eq_true rfl)) rfl rfl rfl (Nat.zero_le _) (Nat.zero_le _) fun r7 h8 =>
    aw_isub (pc := 83) C dX11_triesByLot_83 <|
    aw_istoreV_n (pc := 84) C (i := 2) (fun x9 => [(0, .ref 0), (1, .int v1), (2, .int x9), (3, .int v3), (4, .int v4)]) dX11_triesByLot_84 rfl (by decide) (fun _ => rfl) fun x9 =>
    aw_iincV (pc := 85) C (i := 4) (cst := 1) (fun x10 => [(0, .ref 0), (1, .int v1), (2, .int x9), (3, .int v3), (4, .int x10)]) dX11_triesByLot_85 rfl rfl (by decide) (fun _ => rfl) fun x10 =>
    aw_goto (pc := 88) C (tgt := 11) dX11_triesByLot_88 rfl <|
    (hK11 x9 v3 x10 h8)
def X11_triesByLot_j74  (v1 : Int32) (v2 : Int32) (v4 : Int32) (K11 : Int32 → Int32 → Int32 → AH → Option (Unit × AH)) (s0 : Int32) (h : AH) : Option (Unit × AH) :=
    vl (s0 / 4) fun x15 =>
    X11_triesByLot_j77 v1 v2 x15 v4 K11 h
set_option maxRecDepth 100000 in
theorem aX11_triesByLot_j74 {X : MCx} {yd : Dyn} {A : Nat → Prop} (C : OK X cX11_triesByLot RX11 6 none rmX11_triesByLot A)  (v1 : Int32) (v2 : Int32) (v4 : Int32) (K11 : Int32 → Int32 → Int32 → AH → Option (Unit × AH)) (hK11 : ∀ (w2 : Int32) (w3 : Int32) (w4 : Int32) (h : AH), AW X 6 ZR yd A 0 0 (QF X rmX11_triesByLot ZR yd rvV A) 11 [(0, .ref 0), (1, .int v1), (2, .int w2), (3, .int w3), (4, .int w4)] [] h (K11 w2 w3 w4 h)) (s0 : Int32) (h : AH) : AW X 6 ZR yd A 0 0 (QF X rmX11_triesByLot ZR yd rvV A) 74 [(0, .ref 0), (1, .int v1), (2, .int v2), (4, .int v4)] [.int s0] h (X11_triesByLot_j74 v1 v2 v4 K11 s0 h) := by
    exact aw_iconst (pc := 74) C (v := 4) dX11_triesByLot_74 rfl <|
    aw_idivK (pc := 75) C dX11_triesByLot_75 (by decide) <|
    aw_istoreV_n (pc := 76) C (i := 3) (fun x15 => [(0, .ref 0), (1, .int v1), (2, .int v2), (3, .int x15), (4, .int v4)]) dX11_triesByLot_76 rfl (by decide) (fun _ => rfl) fun x15 =>
    (aX11_triesByLot_j77 C v1 v2 x15 v4 K11 hK11 h)
def X11_triesByLot_l11  (v1 : Int32) : Nat → Int32 → Int32 → Int32 → AH → Option (Unit × AH)
  | 0, _, _, _, _ => none
  | n + 1, v2, v3, v4, h =>
    if (h.1 0 12) ≤ v4 then (if 0 ≤ v2 then (bd (X11_lengthOf v1 v2 v3 h) fun r3 h4 =>
    X11_triesByLot_j109 v2 r3 v1 h4)
    else (X11_triesByLot_j109 v2 (-9) v1 h))
    else (ck v1 4 (if (h.1 8 v1.toNatClampNeg) ≤ 0 then (X11_triesByLot_j77 v1 v2 v3 v4 (X11_triesByLot_l11 v1 n) h)
    else (ck v1 4 (if v4 = ((h.1 0 12) - (h.1 8 v1.toNatClampNeg)) then (bd (X11_aimOf v1 h) fun r11 h12 =>
    vl ((v2 - r11) / 2) fun x13 =>
    vl (v2 - x13) fun x14 =>
    if 0 ≤ x13 then (X11_triesByLot_j74 v1 x14 v4 (X11_triesByLot_l11 v1 n) x13 h12)
    else (X11_triesByLot_j74 v1 x14 v4 (X11_triesByLot_l11 v1 n) (-x13) h12))
    else (X11_triesByLot_j77 v1 v2 v3 v4 (X11_triesByLot_l11 v1 n) h)))))
set_option maxRecDepth 100000 in
theorem aX11_triesByLot_l11 {X : MCx} {yd : Dyn} {A : Nat → Prop} (C : OK X cX11_triesByLot RX11 6 none rmX11_triesByLot A)  (v1 : Int32) : ∀ (n : Nat) (v2 : Int32) (v3 : Int32) (v4 : Int32) (h : AH), AW X 6 ZR yd A 0 0 (QF X rmX11_triesByLot ZR yd rvV A) 11 [(0, .ref 0), (1, .int v1), (2, .int v2), (3, .int v3), (4, .int v4)] [] h (X11_triesByLot_l11 v1 n v2 v3 v4 h) := by
  intro n
  induction n with
  | zero => intro v2 v3 v4 h; exact aw_none
  | succ n ih =>
    intro v2 v3 v4 h
    exact aw_iload (pc := 11) C (i := 4) dX11_triesByLot_11 rfl <|
    aw_aload_n (pc := 13) C (i := 0) dX11_triesByLot_13 rfl rfl <|
    aw_getI (pc := 14) C dX11_triesByLot_14 fl_X11_95 sR_0 rfl <|
    aw_icmp_ge (pc := 17) C (tgt := 91) dX11_triesByLot_17 rfl (fun _ =>
    aw_aload_n (pc := 91) C (i := 0) dX11_triesByLot_91 rfl rfl <|
    aw_iload_n (pc := 92) C (i := 1) dX11_triesByLot_92 rfl rfl <|
    aw_iload_n (pc := 93) C (i := 2) dX11_triesByLot_93 rfl rfl <|
    aw_if_ge (pc := 94) C (tgt := 102) dX11_triesByLot_94 rfl (fun _ =>
    aw_aload_n (pc := 102) C (i := 0) dX11_triesByLot_102 rfl rfl <|
    aw_iload_n (pc := 103) C (i := 1) dX11_triesByLot_103 rfl rfl <|
    aw_iload_n (pc := 104) C (i := 2) dX11_triesByLot_104 rfl rfl <|
    aw_iload_n (pc := 105) C (i := 3) dX11_triesByLot_105 rfl rfl <|
    aw_callF (pc := 106) C (cr_V (rest := [.int v1, .ref 0]) (F := (X11_lengthOf v1 v2 v3)) C (c_X11_lengthOf X.2.1 v1 v2 v3) dX11_triesByLot_106 mf_X11_lengthOf ml_X11_163 im_X11_lengthOf se_X11_lengthOf sR_0 rfl ⟨(Nat.le_of_ble_eq_true rfl), (Nat.le_of_ble_eq_true rfl)⟩ rfl rfl (Nat.le_of_ble_eq_true rfl)) rfl rfl rfl (Nat.zero_le _) (Nat.zero_le _) fun r3 h4 =>
    aw_drop [2] (aX11_triesByLot_j109 C v2 r3 v1 h4)) (fun _ =>
    aw_bipush (pc := 97) C (v := (-9)) dX11_triesByLot_97 rfl <|
    aw_goto (pc := 99) C (tgt := 109) dX11_triesByLot_99 rfl <|
    aw_drop [2] (aX11_triesByLot_j109 C v2 (-9) v1 h))) (fun _ =>
    aw_aload_n (pc := 20) C (i := 0) dX11_triesByLot_20 rfl rfl <|
    aw_getR (pc := 21) C (b := 8) dX11_triesByLot_21 fl_X11_31 sR_0 rfl rR_0_7 <|
    aw_iload_n (pc := 24) C (i := 1) dX11_triesByLot_24 rfl rfl <|
    aw_iald (pc := 25) C dX11_triesByLot_25 sR_8 rfl <|
    aw_if_le (pc := 26) C (tgt := 77) dX11_triesByLot_26 rfl (fun _ =>
    (aX11_triesByLot_j77 C v1 v2 v3 v4 (X11_triesByLot_l11 v1 n) ih h)) (fun _ =>
    aw_iload (pc := 29) C (i := 4) dX11_triesByLot_29 rfl <|
    aw_aload_n (pc := 31) C (i := 0) dX11_triesByLot_31 rfl rfl <|
    aw_getI (pc := 32) C dX11_triesByLot_32 fl_X11_95 sR_0 rfl <|
    aw_aload_n (pc := 35) C (i := 0) dX11_triesByLot_35 rfl rfl <|
    aw_getR (pc := 36) C (b := 8) dX11_triesByLot_36 fl_X11_31 sR_0 rfl rR_0_7 <|
    aw_iload_n (pc := 39) C (i := 1) dX11_triesByLot_39 rfl rfl <|
    aw_iald (pc := 40) C dX11_triesByLot_40 sR_8 rfl <|
    aw_isub (pc := 41) C dX11_triesByLot_41 <|
    aw_icmp_ne (pc := 42) C (tgt := 77) dX11_triesByLot_42 rfl (fun _ =>
    aw_iload_n (pc := 45) C (i := 2) dX11_triesByLot_45 rfl rfl <|
    aw_aload_n (pc := 46) C (i := 0) dX11_triesByLot_46 rfl rfl <|
    aw_iload_n (pc := 47) C (i := 1) dX11_triesByLot_47 rfl rfl <|
    aw_callF (pc := 48) C (cr_V (rest := [.int v2]) (F := (X11_aimOf v1)) C (c_X11_aimOf X.2.1 v1) dX11_triesByLot_48 mf_X11_aimOf ml_X11_210 im_X11_aimOf se_X11_aimOf sR_0 rfl ⟨(Nat.le_of_ble_eq_true rfl), (Nat.le_of_ble_eq_true rfl)⟩ rfl rfl (Nat.le_of_ble_eq_true rfl)) rfl rfl rfl (Nat.zero_le _) (Nat.zero_le _) fun r11 h12 =>
    aw_isub (pc := 51) C dX11_triesByLot_51 <|
    aw_iconst (pc := 52) C (v := 2) dX11_triesByLot_52 rfl <|
    aw_idivK (pc := 53) C dX11_triesByLot_53 (by decide) <|
    aw_istoreV (pc := 54) C (i := 5) (fun x13 => [(0, .ref 0), (1, .int v1), (2, .int v2), (3, .int v3), (4, .int v4), (5, .int x13)]) dX11_triesByLot_54 (by decide) (fun _ => rfl) fun x13 =>
    aw_iload_n (pc := 56) C (i := 2) dX11_triesByLot_56 rfl rfl <|
    aw_iload (pc := 57) C (i := 5) dX11_triesByLot_57 rfl <|
    aw_isub (pc := 59) C dX11_triesByLot_59 <|
    aw_istoreV_n (pc := 60) C (i := 2) (fun x14 => [(0, .ref 0), (1, .int v1), (2, .int x14), (3, .int v3), (4, .int v4), (5, .int x13)]) dX11_triesByLot_60 rfl (by decide) (fun _ => rfl) fun x14 =>
    aw_iload (pc := 61) C (i := 5) dX11_triesByLot_61 rfl <|
    aw_if_ge (pc := 63) C (tgt := 72) dX11_triesByLot_63 rfl (fun _ =>
    aw_iload (pc := 72) C (i := 5) dX11_triesByLot_72 rfl <|
    aw_drop [0, 1, 2, 4] (aX11_triesByLot_j74 C v1 x14 v4 (X11_triesByLot_l11 v1 n) ih x13 h12)) (fun _ =>
    aw_iload (pc := 66) C (i := 5) dX11_triesByLot_66 rfl <|
    aw_ineg (pc := 68) C dX11_triesByLot_68 <|
    aw_goto (pc := 69) C (tgt := 74) dX11_triesByLot_69 rfl <|
    aw_drop [0, 1, 2, 4] (aX11_triesByLot_j74 C v1 x14 v4 (X11_triesByLot_l11 v1 n) ih (-x13) h12))) (fun _ =>
    (aX11_triesByLot_j77 C v1 v2 v3 v4 (X11_triesByLot_l11 v1 n) ih h))))
def X11_triesByLot (v1 : Int32) (h : AH) : Option (Unit × AH) :=
    bd (X11_placeOf v1 h) fun r1 h2 =>
    X11_triesByLot_l11 v1 FU r1 0 0 h2
set_option maxRecDepth 100000 in
theorem c_X11_triesByLot (l : Launch) (v1 : Int32) : MC l yX11_triesByLot cX11_triesByLot 6 none rmX11_triesByLot ZR [.ref 0, .int v1] rvV (X11_triesByLot v1) :=
  MC.of (own := RX11) (by decide +kernel) rfl (Nat.le_of_ble_eq_true rfl) fun X yd A h _ C =>
    aw_aload_n (pc := 0) C (i := 0) dX11_triesByLot_0 rfl rfl <|
    aw_iload_n (pc := 1) C (i := 1) dX11_triesByLot_1 rfl rfl <|
    aw_callF (pc := 2) C (cr_V (rest := []) (F := (X11_placeOf v1)) C (c_X11_placeOf X.2.1 v1) dX11_triesByLot_2 mf_X11_placeOf ml_X11_223 im_X11_placeOf se_X11_placeOf sR_0 rfl ⟨(Nat.le_of_ble_eq_true rfl), (Nat.le_of_ble_eq_true rfl)⟩ rfl rfl (Nat.le_of_ble_eq_true rfl)) rfl rfl rfl (Nat.zero_le _) (Nat.zero_le _) fun r1 h2 =>
    aw_istore_n (pc := 5) C (i := 2) (lv' := [(0, .ref 0), (1, .int v1), (2, .int r1)]) dX11_triesByLot_5 rfl (by decide) rfl <|
    aw_iconst (pc := 6) C (v := 0) dX11_triesByLot_6 rfl <|
    aw_istore_n (pc := 7) C (i := 3) (lv' := [(0, .ref 0), (1, .int v1), (2, .int r1), (3, .int 0)]) dX11_triesByLot_7 rfl (by decide) rfl <|
    aw_iconst (pc := 8) C (v := 0) dX11_triesByLot_8 rfl <|
    aw_istore (pc := 9) C (i := 4) (lv' := [(0, .ref 0), (1, .int v1), (2, .int r1), (3, .int 0), (4, .int 0)]) dX11_triesByLot_9 (by decide) rfl <|
    (aX11_triesByLot_l11 C v1 FU r1 0 0 h2)

abbrev rmX11_seeds : Room := { frames := 6, cells := 0, slots := 0, locals := 130 }
def X11_seeds_j175  (v1 : Int32) (v2 : Int32) (v4 : Int32) (v6 : Int32) (v7 : Int32) (v9 : Int32) (v10 : Int32) (K72 : Int32 → Int32 → Int32 → AH → Option (Int32 × AH)) (K132 : Int32 → Int32 → AH → Option (Int32 × AH)) (s0 : Int32) (s1 : Int32) (h : AH) : Option (Int32 × AH) :=
    vl (s1 + s0) fun x15 =>
    vl (v10 + 1) fun x16 =>
    K132 x15 x16 h
set_option maxRecDepth 100000 in
theorem aX11_seeds_j175 {X : MCx} {yd : Dyn} {A : Nat → Prop} (C : OK X cX11_seeds RX11 11 (some .int) rmX11_seeds A)  (v1 : Int32) (v2 : Int32) (v4 : Int32) (v6 : Int32) (v7 : Int32) (v9 : Int32) (v10 : Int32) (K72 : Int32 → Int32 → Int32 → AH → Option (Int32 × AH)) (hK72 : ∀ (w7 : Int32) (w8 : Int32) (w9 : Int32) (h : AH), AW X 11 ZR yd A 0 0 (QF X rmX11_seeds ZR yd rvI A) 72 [(0, .ref 0), (1, .int v1), (2, .int v2), (4, .int v4), (6, .int v6), (7, .int w7), (8, .int w8), (9, .int w9)] [] h (K72 w7 w8 w9 h)) (K132 : Int32 → Int32 → AH → Option (Int32 × AH)) (hK132 : ∀ (w8 : Int32) (w10 : Int32) (h : AH), AW X 11 ZR yd A 0 0 (QF X rmX11_seeds ZR yd rvI A) 132 [(0, .ref 0), (1, .int v1), (2, .int v2), (4, .int v4), (6, .int v6), (7, .int v7), (8, .int w8), (9, .int v9), (10, .int w10)] [] h (K132 w8 w10 h)) (s0 : Int32) (s1 : Int32) (h : AH) : AW X 11 ZR yd A 0 0 (QF X rmX11_seeds ZR yd rvI A) 175 [(0, .ref 0), (1, .int v1), (2, .int v2), (4, .int v4), (6, .int v6), (7, .int v7), (9, .int v9), (10, .int v10)] [.int s0, .int s1] h (X11_seeds_j175 v1 v2 v4 v6 v7 v9 v10 K72 K132 s0 s1 h) := by
    exact aw_iadd (pc := 175) C dX11_seeds_175 <|
    aw_istoreV (pc := 176) C (i := 8) (fun x15 => [(0, .ref 0), (1, .int v1), (2, .int v2), (4, .int v4), (6, .int v6), (7, .int v7), (8, .int x15), (9, .int v9), (10, .int v10)]) dX11_seeds_176 (by decide) (fun _ => rfl) fun x15 =>
    aw_iincV (pc := 178) C (i := 10) (cst := 1) (fun x16 => [(0, .ref 0), (1, .int v1), (2, .int v2), (4, .int v4), (6, .int v6), (7, .int v7), (8, .int x15), (9, .int v9), (10, .int x16)]) dX11_seeds_178 rfl rfl (by decide) (fun _ => rfl) fun x16 =>
    aw_goto (pc := 181) C (tgt := 132) dX11_seeds_181 rfl <|
    (hK132 x15 x16 h)
def X11_seeds_j174  (v1 : Int32) (v2 : Int32) (v4 : Int32) (v6 : Int32) (v7 : Int32) (v9 : Int32) (v10 : Int32) (K72 : Int32 → Int32 → Int32 → AH → Option (Int32 × AH)) (K132 : Int32 → Int32 → AH → Option (Int32 × AH)) (s0 : Int32) (h : AH) : Option (Int32 × AH) :=
    X11_seeds_j175 v1 v2 v4 v6 v7 v9 v10 K72 K132 0 s0 h
set_option maxRecDepth 100000 in
theorem aX11_seeds_j174 {X : MCx} {yd : Dyn} {A : Nat → Prop} (C : OK X cX11_seeds RX11 11 (some .int) rmX11_seeds A)  (v1 : Int32) (v2 : Int32) (v4 : Int32) (v6 : Int32) (v7 : Int32) (v9 : Int32) (v10 : Int32) (K72 : Int32 → Int32 → Int32 → AH → Option (Int32 × AH)) (hK72 : ∀ (w7 : Int32) (w8 : Int32) (w9 : Int32) (h : AH), AW X 11 ZR yd A 0 0 (QF X rmX11_seeds ZR yd rvI A) 72 [(0, .ref 0), (1, .int v1), (2, .int v2), (4, .int v4), (6, .int v6), (7, .int w7), (8, .int w8), (9, .int w9)] [] h (K72 w7 w8 w9 h)) (K132 : Int32 → Int32 → AH → Option (Int32 × AH)) (hK132 : ∀ (w8 : Int32) (w10 : Int32) (h : AH), AW X 11 ZR yd A 0 0 (QF X rmX11_seeds ZR yd rvI A) 132 [(0, .ref 0), (1, .int v1), (2, .int v2), (4, .int v4), (6, .int v6), (7, .int v7), (8, .int w8), (9, .int v9), (10, .int w10)] [] h (K132 w8 w10 h)) (s0 : Int32) (h : AH) : AW X 11 ZR yd A 0 0 (QF X rmX11_seeds ZR yd rvI A) 174 [(0, .ref 0), (1, .int v1), (2, .int v2), (4, .int v4), (6, .int v6), (7, .int v7), (9, .int v9), (10, .int v10)] [.int s0] h (X11_seeds_j174 v1 v2 v4 v6 v7 v9 v10 K72 K132 s0 h) := by
    exact aw_iconst (pc := 174) C (v := 0) dX11_seeds_174 rfl <|
    (aX11_seeds_j175 C v1 v2 v4 v6 v7 v9 v10 K72 hK72 K132 hK132 0 s0 h)
def X11_seeds_l132  (v1 : Int32) (v2 : Int32) (v4 : Int32) (v6 : Int32) (v7 : Int32) (v9 : Int32) (K72 : Int32 → Int32 → Int32 → AH → Option (Int32 × AH)) : Nat → Int32 → Int32 → AH → Option (Int32 × AH)
  | 0, _, _, _ => none
  | n + 1, v8, v10, h =>
    if (h.1 0 16) ≤ v10 then (vl (v9 + 1) fun x14 =>
    K72 v7 v8 x14 h)
    else (ck v10 24 (if (h.1 10 v10.toNatClampNeg) = v1 then (ck v10 24 (if (h.1 11 v10.toNatClampNeg) ≤ 0 then (X11_seeds_j174 v1 v2 v4 v6 v7 v9 v10 K72 (X11_seeds_l132 v1 v2 v4 v6 v7 v9 K72 n) v8 h)
    else (ck v10 24 (X11_seeds_j175 v1 v2 v4 v6 v7 v9 v10 K72 (X11_seeds_l132 v1 v2 v4 v6 v7 v9 K72 n) (h.1 11 v10.toNatClampNeg) v8 h))))
    else (X11_seeds_j174 v1 v2 v4 v6 v7 v9 v10 K72 (X11_seeds_l132 v1 v2 v4 v6 v7 v9 K72 n) v8 h)))
set_option maxRecDepth 100000 in
theorem aX11_seeds_l132 {X : MCx} {yd : Dyn} {A : Nat → Prop} (C : OK X cX11_seeds RX11 11 (some .int) rmX11_seeds A)  (v1 : Int32) (v2 : Int32) (v4 : Int32) (v6 : Int32) (v7 : Int32) (v9 : Int32) (K72 : Int32 → Int32 → Int32 → AH → Option (Int32 × AH)) (hK72 : ∀ (w7 : Int32) (w8 : Int32) (w9 : Int32) (h : AH), AW X 11 ZR yd A 0 0 (QF X rmX11_seeds ZR yd rvI A) 72 [(0, .ref 0), (1, .int v1), (2, .int v2), (4, .int v4), (6, .int v6), (7, .int w7), (8, .int w8), (9, .int w9)] [] h (K72 w7 w8 w9 h)) : ∀ (n : Nat) (v8 : Int32) (v10 : Int32) (h : AH), AW X 11 ZR yd A 0 0 (QF X rmX11_seeds ZR yd rvI A) 132 [(0, .ref 0), (1, .int v1), (2, .int v2), (4, .int v4), (6, .int v6), (7, .int v7), (8, .int v8), (9, .int v9), (10, .int v10)] [] h (X11_seeds_l132 v1 v2 v4 v6 v7 v9 K72 n v8 v10 h) := by
  intro n
  induction n with
  | zero => intro v8 v10 h; exact aw_none
  | succ n ih =>
    intro v8 v10 h
    exact aw_iload (pc := 132) C (i := 10) dX11_seeds_132 rfl <|
    aw_aload_n (pc := 134) C (i := 0) dX11_seeds_134 rfl rfl <|
    aw_getI (pc := 135) C dX11_seeds_135 fl_X11_147 sR_0 rfl <|
    aw_icmp_ge (pc := 138) C (tgt := 184) dX11_seeds_138 rfl (fun _ =>
    aw_iincV (pc := 184) C (i := 9) (cst := 1) (fun x14 => [(0, .ref 0), (1, .int v1), (2, .int v2), (4, .int v4), (6, .int v6), (7, .int v7), (8, .int v8), (9, .int x14), (10, .int v10)]) dX11_seeds_184 rfl rfl (by decide) (fun _ => rfl) fun x14 =>
    aw_goto (pc := 187) C (tgt := 72) dX11_seeds_187 rfl <|
    aw_drop [0, 1, 2, 3, 4, 5, 6, 7] (hK72 v7 v8 x14 h)) (fun _ =>
    aw_iload (pc := 141) C (i := 8) dX11_seeds_141 rfl <|
    aw_aload_n (pc := 143) C (i := 0) dX11_seeds_143 rfl rfl <|
    aw_getR (pc := 144) C (b := 10) dX11_seeds_144 fl_X11_37 sR_0 rfl rR_0_9 <|
    aw_iload (pc := 147) C (i := 10) dX11_seeds_147 rfl <|
    aw_iald (pc := 149) C dX11_seeds_149 sR_10 rfl <|
    aw_iload_n (pc := 150) C (i := 1) dX11_seeds_150 rfl rfl <|
    aw_icmp_ne (pc := 151) C (tgt := 174) dX11_seeds_151 rfl (fun _ =>
    aw_aload_n (pc := 154) C (i := 0) dX11_seeds_154 rfl rfl <|
    aw_getR (pc := 155) C (b := 11) dX11_seeds_155 fl_X11_40 sR_0 rfl rR_0_10 <|
    aw_iload (pc := 158) C (i := 10) dX11_seeds_158 rfl <|
    aw_iald (pc := 160) C dX11_seeds_160 sR_11 rfl <|
    aw_if_le (pc := 161) C (tgt := 174) dX11_seeds_161 rfl (fun _ =>
    aw_drop [0, 1, 2, 3, 4, 5, 7, 8] (aX11_seeds_j174 C v1 v2 v4 v6 v7 v9 v10 K72 hK72 (X11_seeds_l132 v1 v2 v4 v6 v7 v9 K72 n) ih v8 h)) (fun _ =>
    aw_aload_n (pc := 164) C (i := 0) dX11_seeds_164 rfl rfl <|
    aw_getR (pc := 165) C (b := 11) dX11_seeds_165 fl_X11_40 sR_0 rfl rR_0_10 <|
    aw_iload (pc := 168) C (i := 10) dX11_seeds_168 rfl <|
    aw_iald (pc := 170) C dX11_seeds_170 sR_11 rfl <|
    aw_goto (pc := 171) C (tgt := 175) dX11_seeds_171 rfl <|
    aw_drop [0, 1, 2, 3, 4, 5, 7, 8] (aX11_seeds_j175 C v1 v2 v4 v6 v7 v9 v10 K72 hK72 (X11_seeds_l132 v1 v2 v4 v6 v7 v9 K72 n) ih (h.1 11 v10.toNatClampNeg) v8 h))) (fun _ =>
    aw_drop [0, 1, 2, 3, 4, 5, 7, 8] (aX11_seeds_j174 C v1 v2 v4 v6 v7 v9 v10 K72 hK72 (X11_seeds_l132 v1 v2 v4 v6 v7 v9 K72 n) ih v8 h)))
def X11_seeds_j125  (v1 : Int32) (v2 : Int32) (v4 : Int32) (v6 : Int32) (v8 : Int32) (v9 : Int32) (K72 : Int32 → Int32 → Int32 → AH → Option (Int32 × AH)) (s0 : Int32) (s1 : Int32) (h : AH) : Option (Int32 × AH) :=
    vl (s1 + s0) fun x13 =>
    X11_seeds_l132 v1 v2 v4 v6 x13 v9 K72 FU v8 v6 h
set_option maxRecDepth 100000 in
theorem aX11_seeds_j125 {X : MCx} {yd : Dyn} {A : Nat → Prop} (C : OK X cX11_seeds RX11 11 (some .int) rmX11_seeds A)  (v1 : Int32) (v2 : Int32) (v4 : Int32) (v6 : Int32) (v8 : Int32) (v9 : Int32) (K72 : Int32 → Int32 → Int32 → AH → Option (Int32 × AH)) (hK72 : ∀ (w7 : Int32) (w8 : Int32) (w9 : Int32) (h : AH), AW X 11 ZR yd A 0 0 (QF X rmX11_seeds ZR yd rvI A) 72 [(0, .ref 0), (1, .int v1), (2, .int v2), (4, .int v4), (6, .int v6), (7, .int w7), (8, .int w8), (9, .int w9)] [] h (K72 w7 w8 w9 h)) (s0 : Int32) (s1 : Int32) (h : AH) : AW X 11 ZR yd A 0 0 (QF X rmX11_seeds ZR yd rvI A) 125 [(0, .ref 0), (1, .int v1), (2, .int v2), (4, .int v4), (6, .int v6), (8, .int v8), (9, .int v9)] [.int s0, .int s1] h (X11_seeds_j125 v1 v2 v4 v6 v8 v9 K72 s0 s1 h) := by
    exact aw_iadd (pc := 125) C dX11_seeds_125 <|
    aw_istoreV (pc := 126) C (i := 7) (fun x13 => [(0, .ref 0), (1, .int v1), (2, .int v2), (4, .int v4), (6, .int v6), (7, .int x13), (8, .int v8), (9, .int v9)]) dX11_seeds_126 (by decide) (fun _ => rfl) fun x13 =>
    aw_iload (pc := 128) C (i := 6) dX11_seeds_128 rfl <|
    aw_istore (pc := 130) C (i := 10) (lv' := [(0, .ref 0), (1, .int v1), (2, .int v2), (4, .int v4), (6, .int v6), (7, .int x13), (8, .int v8), (9, .int v9), (10, .int v6)]) dX11_seeds_130 (by decide) rfl <|
    (aX11_seeds_l132 C v1 v2 v4 v6 x13 v9 K72 hK72 FU v8 v6 h)
def X11_seeds_l90  (v1 : Int32) (v2 : Int32) (v4 : Int32) (v6 : Int32) (v7 : Int32) (v8 : Int32) (v9 : Int32) (K72 : Int32 → Int32 → Int32 → AH → Option (Int32 × AH)) : Nat → Int32 → AH → Option (Int32 × AH)
  | 0, _, _ => none
  | n + 1, v10, h =>
    if v10 < 0 then (bd (X11_leader h) fun r11 h12 =>
    if r11 = v1 then (X11_seeds_j125 v1 v2 v4 v6 v8 v9 K72 1 v7 h12)
    else (X11_seeds_j125 v1 v2 v4 v6 v8 v9 K72 0 v7 h12))
    else (bd (X11_triesByLot v10 h) fun _ h18 =>
    bd (X11_turnNow h18) fun r19 h20 =>
    (X11_seeds_l90 v1 v2 v4 v6 v7 v8 v9 K72 n) r19 h20)
set_option maxRecDepth 100000 in
theorem aX11_seeds_l90 {X : MCx} {yd : Dyn} {A : Nat → Prop} (C : OK X cX11_seeds RX11 11 (some .int) rmX11_seeds A)  (v1 : Int32) (v2 : Int32) (v4 : Int32) (v6 : Int32) (v7 : Int32) (v8 : Int32) (v9 : Int32) (K72 : Int32 → Int32 → Int32 → AH → Option (Int32 × AH)) (hK72 : ∀ (w7 : Int32) (w8 : Int32) (w9 : Int32) (h : AH), AW X 11 ZR yd A 0 0 (QF X rmX11_seeds ZR yd rvI A) 72 [(0, .ref 0), (1, .int v1), (2, .int v2), (4, .int v4), (6, .int v6), (7, .int w7), (8, .int w8), (9, .int w9)] [] h (K72 w7 w8 w9 h)) : ∀ (n : Nat) (v10 : Int32) (h : AH), AW X 11 ZR yd A 0 0 (QF X rmX11_seeds ZR yd rvI A) 90 [(0, .ref 0), (1, .int v1), (2, .int v2), (4, .int v4), (6, .int v6), (7, .int v7), (8, .int v8), (9, .int v9), (10, .int v10)] [] h (X11_seeds_l90 v1 v2 v4 v6 v7 v8 v9 K72 n v10 h) := by
  intro n
  induction n with
  | zero => intro v10 h; exact aw_none
  | succ n ih =>
    intro v10 h
    exact aw_iload (pc := 90) C (i := 10) dX11_seeds_90 rfl <|
    aw_if_lt (pc := 92) C (tgt := 110) dX11_seeds_92 rfl (fun _ =>
    aw_iload (pc := 110) C (i := 7) dX11_seeds_110 rfl <|
    aw_aload_n (pc := 112) C (i := 0) dX11_seeds_112 rfl rfl <|
    aw_callF (pc := 113) C (cr_V (rest := [.int v7]) (F := X11_leader) C (c_X11_leader X.2.1 ) dX11_seeds_113 mf_X11_leader ml_X11_283 im_X11_leader se_X11_leader sR_0 rfl ⟨(Nat.le_of_ble_eq_true rfl), (Nat.le_of_ble_eq_true rfl)⟩ rfl rfl (Nat.le_of_ble_eq_true rfl)) rfl rfl rfl (Nat.zero_le _) (Nat.zero_le _) fun r11 h12 =>
    aw_iload_n (pc := 116) C (i := 1) dX11_seeds_116 rfl rfl <|
    aw_icmp_ne (pc := 117) C (tgt := 124) dX11_seeds_117 rfl (fun _ =>
    aw_iconst (pc := 120) C (v := 1) dX11_seeds_120 rfl <|
    aw_goto (pc := 121) C (tgt := 125) dX11_seeds_121 rfl <|
    aw_drop [0, 1, 2, 3, 4, 6, 7] (aX11_seeds_j125 C v1 v2 v4 v6 v8 v9 K72 hK72 1 v7 h12)) (fun _ =>
    aw_iconst (pc := 124) C (v := 0) dX11_seeds_124 rfl <|
    aw_drop [0, 1, 2, 3, 4, 6, 7] (aX11_seeds_j125 C v1 v2 v4 v6 v8 v9 K72 hK72 0 v7 h12))) (fun _ =>
    aw_aload_n (pc := 95) C (i := 0) dX11_seeds_95 rfl rfl <|
    aw_iload (pc := 96) C (i := 10) dX11_seeds_96 rfl <|
    aw_callF (pc := 98) C (cr_V (rest := []) (F := (X11_triesByLot v10)) C (c_X11_triesByLot X.2.1 v10) dX11_seeds_98 mf_X11_triesByLot ml_X11_345 im_X11_triesByLot se_X11_triesByLot sR_0 rfl ⟨(Nat.le_of_ble_eq_true rfl), (Nat.le_of_ble_eq_true rfl)⟩ rfl rfl (Nat.le_of_ble_eq_true rfl)) rfl rfl rfl (Nat.zero_le _) (Nat.zero_le _) fun _ h18 =>
    aw_aload_n (pc := 101) C (i := 0) dX11_seeds_101 rfl rfl <|
    aw_callF (pc := 102) C (cr_V (rest := []) (F := X11_turnNow) C (c_X11_turnNow X.2.1 ) dX11_seeds_102 mf_X11_turnNow ml_X11_150 im_X11_turnNow se_X11_turnNow sR_0 rfl ⟨(Nat.le_of_ble_eq_true rfl), (Nat.le_of_ble_eq_true rfl)⟩ rfl rfl (Nat.le_of_ble_eq_true rfl)) rfl rfl rfl (Nat.zero_le _) (Nat.zero_le _) fun r19 h20 =>
    aw_istore (pc := 105) C (i := 10) (lv' := [(0, .ref 0), (1, .int v1), (2, .int v2), (4, .int v4), (6, .int v6), (7, .int v7), (8, .int v8), (9, .int v9), (10, .int r19)]) dX11_seeds_105 (by decide) rfl <|
    aw_goto (pc := 107) C (tgt := 90) dX11_seeds_107 rfl <|
    (ih r19 h20))
def X11_seeds_l72  (v1 : Int32) (v2 : Int32) (v4 : Int32) (v6 : Int32) : Nat → Int32 → Int32 → Int32 → AH → Option (Int32 × AH)
  | 0, _, _, _, _ => none
  | n + 1, v7, v8, v9, h =>
    if v2 ≤ v9 then (vl (sI h 0 16 v6) fun h7 =>
    if v4 = 0 then (some (v7, h7))
    else (some (v8, h7)))
    else (vl (sI h 0 16 v6) fun h8 =>
    bd (X11_turnNow h8) fun r9 h10 =>
    X11_seeds_l90 v1 v2 v4 v6 v7 v8 v9 (X11_seeds_l72 v1 v2 v4 v6 n) FU r9 h10)
set_option maxRecDepth 100000 in
theorem aX11_seeds_l72 {X : MCx} {yd : Dyn} {A : Nat → Prop} (C : OK X cX11_seeds RX11 11 (some .int) rmX11_seeds A)  (v1 : Int32) (v2 : Int32) (v4 : Int32) (v6 : Int32) : ∀ (n : Nat) (v7 : Int32) (v8 : Int32) (v9 : Int32) (h : AH), AW X 11 ZR yd A 0 0 (QF X rmX11_seeds ZR yd rvI A) 72 [(0, .ref 0), (1, .int v1), (2, .int v2), (4, .int v4), (6, .int v6), (7, .int v7), (8, .int v8), (9, .int v9)] [] h (X11_seeds_l72 v1 v2 v4 v6 n v7 v8 v9 h) := by
  intro n
  induction n with
  | zero => intro v7 v8 v9 h; exact aw_none
  | succ n ih =>
    intro v7 v8 v9 h
    exact aw_iload (pc := 72) C (i := 9) dX11_seeds_72 rfl <|
    aw_iload_n (pc := 74) C (i := 2) dX11_seeds_74 rfl rfl <|
    aw_icmp_ge (pc := 75) C (tgt := 190) dX11_seeds_75 rfl (fun _ =>
    aw_aload_n (pc := 190) C (i := 0) dX11_seeds_190 rfl rfl <|
    aw_iload (pc := 191) C (i := 6) dX11_seeds_191 rfl <|
    aw_putI (pc := 193) C dX11_seeds_193 fp_X11_147 sR_0 rfl fun h7 =>
    aw_iload (pc := 196) C (i := 4) dX11_seeds_196 rfl <|
    aw_if_ne (pc := 198) C (tgt := 206) dX11_seeds_198 rfl (fun _ =>
    aw_iload (pc := 201) C (i := 7) dX11_seeds_201 rfl <|
    aw_goto (pc := 203) C (tgt := 208) dX11_seeds_203 rfl <|
    aw_iret (pc := 208) C dX11_seeds_208 rfl rfl) (fun _ =>
    aw_iload (pc := 206) C (i := 8) dX11_seeds_206 rfl <|
    aw_iret (pc := 208) C dX11_seeds_208 rfl rfl)) (fun _ =>
    aw_aload_n (pc := 78) C (i := 0) dX11_seeds_78 rfl rfl <|
    aw_iload (pc := 79) C (i := 6) dX11_seeds_79 rfl <|
    aw_putI (pc := 81) C dX11_seeds_81 fp_X11_147 sR_0 rfl fun h8 =>
    aw_aload_n (pc := 84) C (i := 0) dX11_seeds_84 rfl rfl <|
    aw_callF (pc := 85) C (cr_V (rest := []) (F := X11_turnNow) C (c_X11_turnNow X.2.1 ) dX11_seeds_85 mf_X11_turnNow ml_X11_150 im_X11_turnNow se_X11_turnNow sR_0 rfl ⟨(Nat.le_of_ble_eq_true rfl), (Nat.le_of_ble_eq_true rfl)⟩ rfl rfl (Nat.le_of_ble_eq_true rfl)) rfl rfl rfl (Nat.zero_le _) (Nat.zero_le _) fun r9 h10 =>
    aw_istore (pc := 88) C (i := 10) (lv' := [(0, .ref 0), (1, .int v1), (2, .int v2), (4, .int v4), (6, .int v6), (7, .int v7), (8, .int v8), (9, .int v9), (10, .int r9)]) dX11_seeds_88 (by decide) rfl <|
    (aX11_seeds_l90 C v1 v2 v4 v6 v7 v8 v9 (X11_seeds_l72 v1 v2 v4 v6 n) ih FU r9 h10))
def X11_seeds_j40  (v1 : Int32) (v2 : Int32) (v3 : Int32) (v4 : Int32) (v5 : Int32) (h : AH) : Option (Int32 × AH) :=
    if v5 = 0 then (vl (h.1 0 16) fun x5 =>
    vl (sI h 0 40 v3) fun h6 =>
    X11_seeds_l72 v1 v2 v4 x5 FU 0 0 0 h6)
    else (bd (X11_no v5 h) fun r21 h22 =>
    some (r21, h22))
set_option maxRecDepth 100000 in
theorem aX11_seeds_j40 {X : MCx} {yd : Dyn} {A : Nat → Prop} (C : OK X cX11_seeds RX11 11 (some .int) rmX11_seeds A)  (v1 : Int32) (v2 : Int32) (v3 : Int32) (v4 : Int32) (v5 : Int32) (h : AH) : AW X 11 ZR yd A 0 0 (QF X rmX11_seeds ZR yd rvI A) 40 [(0, .ref 0), (1, .int v1), (2, .int v2), (3, .int v3), (4, .int v4), (5, .int v5)] [] h (X11_seeds_j40 v1 v2 v3 v4 v5 h) := by
    exact aw_iload (pc := 40) C (i := 5) dX11_seeds_40 rfl <|
    aw_if_eq (pc := 42) C (tgt := 52) dX11_seeds_42 rfl (fun _ =>
    aw_aload_n (pc := 52) C (i := 0) dX11_seeds_52 rfl rfl <|
    aw_getI (pc := 53) C dX11_seeds_53 fl_X11_147 sR_0 rfl <|
    aw_istoreV (pc := 56) C (i := 6) (fun x5 => [(0, .ref 0), (1, .int v1), (2, .int v2), (3, .int v3), (4, .int v4), (5, .int v5), (6, .int x5)]) dX11_seeds_56 (by decide) (fun _ => rfl) fun x5 =>
    aw_iconst (pc := 58) C (v := 0) dX11_seeds_58 rfl <|
    aw_istore (pc := 59) C (i := 7) (lv' := [(0, .ref 0), (1, .int v1), (2, .int v2), (3, .int v3), (4, .int v4), (5, .int v5), (6, .int x5), (7, .int 0)]) dX11_seeds_59 (by decide) rfl <|
    aw_iconst (pc := 61) C (v := 0) dX11_seeds_61 rfl <|
    aw_istore (pc := 62) C (i := 8) (lv' := [(0, .ref 0), (1, .int v1), (2, .int v2), (3, .int v3), (4, .int v4), (5, .int v5), (6, .int x5), (7, .int 0), (8, .int 0)]) dX11_seeds_62 (by decide) rfl <|
    aw_aload_n (pc := 64) C (i := 0) dX11_seeds_64 rfl rfl <|
    aw_iload_n (pc := 65) C (i := 3) dX11_seeds_65 rfl rfl <|
    aw_putI (pc := 66) C dX11_seeds_66 fp_X11_336 sR_0 rfl fun h6 =>
    aw_iconst (pc := 69) C (v := 0) dX11_seeds_69 rfl <|
    aw_istore (pc := 70) C (i := 9) (lv' := [(0, .ref 0), (1, .int v1), (2, .int v2), (3, .int v3), (4, .int v4), (5, .int v5), (6, .int x5), (7, .int 0), (8, .int 0), (9, .int 0)]) dX11_seeds_70 (by decide) rfl <|
    aw_drop [0, 1, 2, 4, 6, 7, 8, 9] (aX11_seeds_l72 C v1 v2 v4 x5 FU 0 0 0 h6)) (fun _ =>
    aw_aload_n (pc := 45) C (i := 0) dX11_seeds_45 rfl rfl <|
    aw_iload (pc := 46) C (i := 5) dX11_seeds_46 rfl <|
    aw_callF (pc := 48) C (cr_V (rest := []) (F := (X11_no v5)) C (c_X11_no X.2.1 v5) dX11_seeds_48 mf_X11_no ml_X11_115 im_X11_no se_X11_no sR_0 rfl ⟨(Nat.le_of_ble_eq_true rfl), (Nat.le_of_ble_eq_true rfl)⟩ rfl rfl (Nat.le_of_ble_eq_true rfl)) rfl rfl rfl (Nat.zero_le _) (Nat.zero_le _) fun r21 h22 =>
    aw_iret (pc := 51) C dX11_seeds_51 rfl rfl)
def X11_seeds_j19  (v1 : Int32) (v2 : Int32) (v3 : Int32) (v4 : Int32) (s0 : Int32) (h : AH) : Option (Int32 × AH) :=
    if s0 = 0 then (bd (X11_isIn v4 0 1 h) fun r23 h24 =>
    if r23 = 0 then (vl (-2) fun x25 =>
    X11_seeds_j40 v1 v2 v3 v4 x25 h24)
    else (X11_seeds_j40 v1 v2 v3 v4 s0 h24))
    else (X11_seeds_j40 v1 v2 v3 v4 s0 h)
set_option maxRecDepth 100000 in
theorem aX11_seeds_j19 {X : MCx} {yd : Dyn} {A : Nat → Prop} (C : OK X cX11_seeds RX11 11 (some .int) rmX11_seeds A)  (v1 : Int32) (v2 : Int32) (v3 : Int32) (v4 : Int32) (s0 : Int32) (h : AH) : AW X 11 ZR yd A 0 0 (QF X rmX11_seeds ZR yd rvI A) 19 [(0, .ref 0), (1, .int v1), (2, .int v2), (3, .int v3), (4, .int v4)] [.int s0] h (X11_seeds_j19 v1 v2 v3 v4 s0 h) := by
    exact aw_istore (pc := 19) C (i := 5) (lv' := [(0, .ref 0), (1, .int v1), (2, .int v2), (3, .int v3), (4, .int v4), (5, .int s0)]) dX11_seeds_19 (by decide) rfl <|
    aw_iload (pc := 21) C (i := 5) dX11_seeds_21 rfl <|
    aw_if_ne (pc := 23) C (tgt := 40) dX11_seeds_23 rfl (fun _ =>
    aw_iload (pc := 26) C (i := 4) dX11_seeds_26 rfl <|
    aw_iconst (pc := 28) C (v := 0) dX11_seeds_28 rfl <|
    aw_iconst (pc := 29) C (v := 1) dX11_seeds_29 rfl <|
    aw_callF (pc := 30) C (cr_S (rest := []) (F := (X11_isIn v4 0 1)) C (c_X11_isIn X.2.1 v4 0 1) dX11_seeds_30 mf_X11_isIn ml_X11_126 st_X11_isIn ⟨(Nat.le_of_ble_eq_true rfl), (Nat.le_of_ble_eq_true rfl)⟩ rfl rfl (Nat.le_of_ble_eq_true rfl)) rfl rfl rfl (Nat.zero_le _) (Nat.zero_le _) fun r23 h24 =>
    aw_if_ne (pc := 33) C (tgt := 40) dX11_seeds_33 rfl (fun _ =>
    aw_bipush (pc := 36) C (v := (-2)) dX11_seeds_36 rfl <|
    aw_istoreV (pc := 38) C (i := 5) (fun x25 => [(0, .ref 0), (1, .int v1), (2, .int v2), (3, .int v3), (4, .int v4), (5, .int x25)]) dX11_seeds_38 (by decide) (fun _ => rfl) fun x25 =>
    (aX11_seeds_j40 C v1 v2 v3 v4 x25 h24)) (fun _ =>
    (aX11_seeds_j40 C v1 v2 v3 v4 s0 h24))) (fun _ =>
    (aX11_seeds_j40 C v1 v2 v3 v4 s0 h))
def X11_seeds (v1 : Int32) (v2 : Int32) (v3 : Int32) (v4 : Int32) (h : AH) : Option (Int32 × AH) :=
    bd (X11_isJumper v1 h) fun r1 h2 =>
    if r1 = 0 then (X11_seeds_j19 v1 v2 v3 v4 (-1) h2)
    else (bd (X11_bound v2 1 20 h2) fun r3 h4 =>
    X11_seeds_j19 v1 v2 v3 v4 r3 h4)
set_option maxRecDepth 100000 in
theorem c_X11_seeds (l : Launch) (v1 : Int32) (v2 : Int32) (v3 : Int32) (v4 : Int32) : MC l yX11_seeds cX11_seeds 11 (some .int) rmX11_seeds ZR [.ref 0, .int v1, .int v2, .int v3, .int v4] rvI (X11_seeds v1 v2 v3 v4) :=
  MC.of (own := RX11) (by decide +kernel) rfl (Nat.le_of_ble_eq_true rfl) fun X yd A h _ C =>
    aw_aload_n (pc := 0) C (i := 0) dX11_seeds_0 rfl rfl <|
    aw_iload_n (pc := 1) C (i := 1) dX11_seeds_1 rfl rfl <|
    aw_callF (pc := 2) C (cr_V (rest := []) (F := (X11_isJumper v1)) C (c_X11_isJumper X.2.1 v1) dX11_seeds_2 mf_X11_isJumper ml_X11_207 im_X11_isJumper se_X11_isJumper sR_0 rfl ⟨(Nat.le_of_ble_eq_true rfl), (Nat.le_of_ble_eq_true rfl)⟩ rfl rfl (Nat.le_of_ble_eq_true rfl)) rfl rfl rfl (Nat.zero_le _) (Nat.zero_le _) fun r1 h2 =>
    aw_if_ne (pc := 5) C (tgt := 12) dX11_seeds_5 rfl (fun _ =>
    aw_iconst (pc := 8) C (v := (-1)) dX11_seeds_8 rfl <|
    aw_goto (pc := 9) C (tgt := 19) dX11_seeds_9 rfl <|
    (aX11_seeds_j19 C v1 v2 v3 v4 (-1) h2)) (fun _ =>
    aw_iload_n (pc := 12) C (i := 2) dX11_seeds_12 rfl rfl <|
    aw_iconst (pc := 13) C (v := 1) dX11_seeds_13 rfl <|
    aw_bipush (pc := 14) C (v := 20) dX11_seeds_14 rfl <|
    aw_callF (pc := 16) C (cr_S (rest := []) (F := (X11_bound v2 1 20)) C (c_X11_bound X.2.1 v2 1 20) dX11_seeds_16 mf_X11_bound ml_X11_108 st_X11_bound ⟨(Nat.le_of_ble_eq_true rfl), (Nat.le_of_ble_eq_true rfl)⟩ rfl rfl (Nat.le_of_ble_eq_true rfl)) rfl rfl rfl (Nat.zero_le _) (Nat.zero_le _) fun r3 h4 =>
    (aX11_seeds_j19 C v1 v2 v3 v4 r3 h4))
end
section
abbrev rmX11_triesAs : Room := { frames := 0, cells := 0, slots := 0, locals := 0 }
def X11_triesAs_j28  (v1 : Int32) (v3 : Int32) (K4 : Int32 → Int32 → AH → Option (Int32 × AH)) (s0 : Int32) (s1 : Int32) (h : AH) : Option (Int32 × AH) :=
    vl (s1 + s0) fun x1 =>
    vl (v3 + 1) fun x2 =>
    K4 x1 x2 h
set_option maxRecDepth 100000 in
theorem aX11_triesAs_j28 {X : MCx} {yd : Dyn} {A : Nat → Prop} (C : OK X cX11_triesAs RX11 4 (some .int) rmX11_triesAs A)  (v1 : Int32) (v3 : Int32) (K4 : Int32 → Int32 → AH → Option (Int32 × AH)) (hK4 : ∀ (w2 : Int32) (w3 : Int32) (h : AH), AW X 4 ZR yd A 0 0 (QF X rmX11_triesAs ZR yd rvI A) 4 [(0, .ref 0), (1, .int v1), (2, .int w2), (3, .int w3)] [] h (K4 w2 w3 h)) (s0 : Int32) (s1 : Int32) (h : AH) : AW X 4 ZR yd A 0 0 (QF X rmX11_triesAs ZR yd rvI A) 28 [(0, .ref 0), (1, .int v1), (3, .int v3)] [.int s0, .int s1] h (X11_triesAs_j28 v1 v3 K4 s0 s1 h) := by
    exact aw_iadd (pc := 28) C dX11_triesAs_28 <|
    aw_istoreV_n (pc := 29) C (i := 2) (fun x1 => [(0, .ref 0), (1, .int v1), (2, .int x1), (3, .int v3)]) dX11_triesAs_29 rfl (by decide) (fun _ => rfl) fun x1 =>
    aw_iincV (pc := 30) C (i := 3) (cst := 1) (fun x2 => [(0, .ref 0), (1, .int v1), (2, .int x1), (3, .int x2)]) dX11_triesAs_30 rfl rfl (by decide) (fun _ => rfl) fun x2 =>
    aw_goto (pc := 33) C (tgt := 4) dX11_triesAs_33 rfl <|
    (hK4 x1 x2 h)
def X11_triesAs_l4  (v1 : Int32) : Nat → Int32 → Int32 → AH → Option (Int32 × AH)
  | 0, _, _, _ => none
  | n + 1, v2, v3, h =>
    if (h.1 0 16) ≤ v3 then (some (v2, h))
    else (ck v3 24 (if (h.1 11 v3.toNatClampNeg) = v1 then (X11_triesAs_j28 v1 v3 (X11_triesAs_l4 v1 n) 1 v2 h)
    else (X11_triesAs_j28 v1 v3 (X11_triesAs_l4 v1 n) 0 v2 h)))
set_option maxRecDepth 100000 in
theorem aX11_triesAs_l4 {X : MCx} {yd : Dyn} {A : Nat → Prop} (C : OK X cX11_triesAs RX11 4 (some .int) rmX11_triesAs A)  (v1 : Int32) : ∀ (n : Nat) (v2 : Int32) (v3 : Int32) (h : AH), AW X 4 ZR yd A 0 0 (QF X rmX11_triesAs ZR yd rvI A) 4 [(0, .ref 0), (1, .int v1), (2, .int v2), (3, .int v3)] [] h (X11_triesAs_l4 v1 n v2 v3 h) := by
  intro n
  induction n with
  | zero => intro v2 v3 h; exact aw_none
  | succ n ih =>
    intro v2 v3 h
    exact aw_iload_n (pc := 4) C (i := 3) dX11_triesAs_4 rfl rfl <|
    aw_aload_n (pc := 5) C (i := 0) dX11_triesAs_5 rfl rfl <|
    aw_getI (pc := 6) C dX11_triesAs_6 fl_X11_147 sR_0 rfl <|
    aw_icmp_ge (pc := 9) C (tgt := 36) dX11_triesAs_9 rfl (fun _ =>
    aw_iload_n (pc := 36) C (i := 2) dX11_triesAs_36 rfl rfl <|
    aw_iret (pc := 37) C dX11_triesAs_37 rfl rfl) (fun _ =>
    aw_iload_n (pc := 12) C (i := 2) dX11_triesAs_12 rfl rfl <|
    aw_aload_n (pc := 13) C (i := 0) dX11_triesAs_13 rfl rfl <|
    aw_getR (pc := 14) C (b := 11) dX11_triesAs_14 fl_X11_40 sR_0 rfl rR_0_10 <|
    aw_iload_n (pc := 17) C (i := 3) dX11_triesAs_17 rfl rfl <|
    aw_iald (pc := 18) C dX11_triesAs_18 sR_11 rfl <|
    aw_iload_n (pc := 19) C (i := 1) dX11_triesAs_19 rfl rfl <|
    aw_icmp_ne (pc := 20) C (tgt := 27) dX11_triesAs_20 rfl (fun _ =>
    aw_iconst (pc := 23) C (v := 1) dX11_triesAs_23 rfl <|
    aw_goto (pc := 24) C (tgt := 28) dX11_triesAs_24 rfl <|
    aw_drop [0, 1, 3] (aX11_triesAs_j28 C v1 v3 (X11_triesAs_l4 v1 n) ih 1 v2 h)) (fun _ =>
    aw_iconst (pc := 27) C (v := 0) dX11_triesAs_27 rfl <|
    aw_drop [0, 1, 3] (aX11_triesAs_j28 C v1 v3 (X11_triesAs_l4 v1 n) ih 0 v2 h)))
def X11_triesAs (v1 : Int32) (h : AH) : Option (Int32 × AH) :=
    X11_triesAs_l4 v1 FU 0 0 h
set_option maxRecDepth 100000 in
theorem c_X11_triesAs (l : Launch) (v1 : Int32) : MC l yX11_triesAs cX11_triesAs 4 (some .int) rmX11_triesAs ZR [.ref 0, .int v1] rvI (X11_triesAs v1) :=
  MC.of (own := RX11) (by decide +kernel) rfl (Nat.le_of_ble_eq_true rfl) fun X yd A h _ C =>
    aw_iconst (pc := 0) C (v := 0) dX11_triesAs_0 rfl <|
    aw_istore_n (pc := 1) C (i := 2) (lv' := [(0, .ref 0), (1, .int v1), (2, .int 0)]) dX11_triesAs_1 rfl (by decide) rfl <|
    aw_iconst (pc := 2) C (v := 0) dX11_triesAs_2 rfl <|
    aw_istore_n (pc := 3) C (i := 3) (lv' := [(0, .ref 0), (1, .int v1), (2, .int 0), (3, .int 0)]) dX11_triesAs_3 rfl (by decide) rfl <|
    (aX11_triesAs_l4 C v1 FU 0 0 h)

abbrev rmX11_count : Room := { frames := 6, cells := 0, slots := 0, locals := 130 }
def X11_count (v1 : Int32) (h : AH) : Option (Int32 × AH) :=
    bd (X11_isIn v1 11 16 h) fun r1 h2 =>
    if r1 = 0 then (vl v1 fun y3 =>
    if y3 = 0 then (some ((h2.1 0 15), h2))
    else if y3 = 1 then (bd (X11_roundNow h2) fun r5 h6 =>
    some (r5, h6))
    else if y3 = 2 then (some ((h2.1 0 16), h2))
    else if y3 = 3 then (some ((h2.1 0 12), h2))
    else if y3 = 4 then (some ((h2.1 0 13), h2))
    else if y3 = 5 then (bd (X11_triesAs (-9) h2) fun r11 h12 =>
    some (r11, h12))
    else if y3 = 6 then (bd (X11_triesAs (-8) h2) fun r14 h15 =>
    some (r14, h15))
    else if y3 = 7 then (some ((h2.1 0 21), h2))
    else if y3 = 8 then (some ((h2.1 0 34), h2))
    else (some ((-9), h2)))
    else (ck (v1 - 10) 7 (some ((h2.1 1 (v1 - 10).toNatClampNeg), h2)))
set_option maxRecDepth 100000 in
theorem c_X11_count (l : Launch) (v1 : Int32) : MC l yX11_count cX11_count 2 (some .int) rmX11_count ZR [.ref 0, .int v1] rvI (X11_count v1) :=
  MC.of (own := RX11) (by decide +kernel) rfl (Nat.le_of_ble_eq_true rfl) fun X yd A h _ C =>
    aw_iload_n (pc := 0) C (i := 1) dX11_count_0 rfl rfl <|
    aw_bipush (pc := 1) C (v := 11) dX11_count_1 rfl <|
    aw_bipush (pc := 3) C (v := 16) dX11_count_3 rfl <|
    aw_callF (pc := 5) C (cr_S (rest := []) (F := (X11_isIn v1 11 16)) C (c_X11_isIn X.2.1 v1 11 16) dX11_count_5 mf_X11_isIn ml_X11_126 st_X11_isIn ⟨(Nat.le_of_ble_eq_true rfl), (Nat.le_of_ble_eq_true rfl)⟩ rfl rfl (Nat.le_of_ble_eq_true rfl)) rfl rfl rfl (Nat.zero_le _) (Nat.zero_le _) fun r1 h2 =>
    aw_if_eq (pc := 8) C (tgt := 21) dX11_count_8 rfl (fun _ =>
    aw_iload_n (pc := 21) C (i := 1) dX11_count_21 rfl rfl <|
    aw_vlI fun y3 =>
    aw_if (fun c4 => aw_tswA (pc := 22) C (off := 50) (tg := 72) 0 dX11_count_22 (by rw [c4]; rfl) (by decide) (by decide) rfl rfl (aw_aload_n (pc := 72) C (i := 0) dX11_count_72 rfl rfl <|
    aw_getI (pc := 73) C dX11_count_73 fl_X11_105 sR_0 rfl <|
    aw_iret (pc := 76) C dX11_count_76 rfl rfl)) (fun c4 =>
    aw_if (fun c7 => aw_tswA (pc := 22) C (off := 55) (tg := 77) 1 dX11_count_22 (by rw [c7]; rfl) (by decide) (by decide) rfl rfl (aw_aload_n (pc := 77) C (i := 0) dX11_count_77 rfl rfl <|
    aw_callF (pc := 78) C (cr_V (rest := []) (F := X11_roundNow) C (c_X11_roundNow X.2.1 ) dX11_count_78 mf_X11_roundNow ml_X11_301 im_X11_roundNow se_X11_roundNow sR_0 rfl ⟨(Nat.le_of_ble_eq_true rfl), (Nat.le_of_ble_eq_true rfl)⟩ rfl rfl (Nat.le_of_ble_eq_true rfl)) rfl rfl rfl (Nat.zero_le _) (Nat.zero_le _) fun r5 h6 =>
    aw_iret (pc := 81) C dX11_count_81 rfl rfl)) (fun c7 =>
    aw_if (fun c8 => aw_tswA (pc := 22) C (off := 60) (tg := 82) 2 dX11_count_22 (by rw [c8]; rfl) (by decide) (by decide) rfl rfl (aw_aload_n (pc := 82) C (i := 0) dX11_count_82 rfl rfl <|
    aw_getI (pc := 83) C dX11_count_83 fl_X11_147 sR_0 rfl <|
    aw_iret (pc := 86) C dX11_count_86 rfl rfl)) (fun c8 =>
    aw_if (fun c9 => aw_tswA (pc := 22) C (off := 65) (tg := 87) 3 dX11_count_22 (by rw [c9]; rfl) (by decide) (by decide) rfl rfl (aw_aload_n (pc := 87) C (i := 0) dX11_count_87 rfl rfl <|
    aw_getI (pc := 88) C dX11_count_88 fl_X11_95 sR_0 rfl <|
    aw_iret (pc := 91) C dX11_count_91 rfl rfl)) (fun c9 =>
    aw_if (fun c10 => aw_tswA (pc := 22) C (off := 70) (tg := 92) 4 dX11_count_22 (by rw [c10]; rfl) (by decide) (by decide) rfl rfl (aw_aload_n (pc := 92) C (i := 0) dX11_count_92 rfl rfl <|
    aw_getI (pc := 93) C dX11_count_93 fl_X11_99 sR_0 rfl <|
    aw_iret (pc := 96) C dX11_count_96 rfl rfl)) (fun c10 =>
    aw_if (fun c13 => aw_tswA (pc := 22) C (off := 75) (tg := 97) 5 dX11_count_22 (by rw [c13]; rfl) (by decide) (by decide) rfl rfl (aw_aload_n (pc := 97) C (i := 0) dX11_count_97 rfl rfl <|
    aw_bipush (pc := 98) C (v := (-9)) dX11_count_98 rfl <|
    aw_callF (pc := 100) C (cr_V (rest := []) (F := (X11_triesAs (-9))) C (c_X11_triesAs X.2.1 (-9)) dX11_count_100 mf_X11_triesAs ml_X11_349 im_X11_triesAs se_X11_triesAs sR_0 rfl ⟨(Nat.le_of_ble_eq_true rfl), (Nat.le_of_ble_eq_true rfl)⟩ rfl rfl (Nat.le_of_ble_eq_true rfl)) rfl rfl rfl (Nat.zero_le _) (Nat.zero_le _) fun r11 h12 =>
    aw_iret (pc := 103) C dX11_count_103 rfl rfl)) (fun c13 =>
    aw_if (fun c16 => aw_tswA (pc := 22) C (off := 82) (tg := 104) 6 dX11_count_22 (by rw [c16]; rfl) (by decide) (by decide) rfl rfl (aw_aload_n (pc := 104) C (i := 0) dX11_count_104 rfl rfl <|
    aw_bipush (pc := 105) C (v := (-8)) dX11_count_105 rfl <|
    aw_callF (pc := 107) C (cr_V (rest := []) (F := (X11_triesAs (-8))) C (c_X11_triesAs X.2.1 (-8)) dX11_count_107 mf_X11_triesAs ml_X11_349 im_X11_triesAs se_X11_triesAs sR_0 rfl ⟨(Nat.le_of_ble_eq_true rfl), (Nat.le_of_ble_eq_true rfl)⟩ rfl rfl (Nat.le_of_ble_eq_true rfl)) rfl rfl rfl (Nat.zero_le _) (Nat.zero_le _) fun r14 h15 =>
    aw_iret (pc := 110) C dX11_count_110 rfl rfl)) (fun c16 =>
    aw_if (fun c17 => aw_tswA (pc := 22) C (off := 89) (tg := 111) 7 dX11_count_22 (by rw [c17]; rfl) (by decide) (by decide) rfl rfl (aw_aload_n (pc := 111) C (i := 0) dX11_count_111 rfl rfl <|
    aw_getI (pc := 112) C dX11_count_112 fl_X11_112 sR_0 rfl <|
    aw_iret (pc := 115) C dX11_count_115 rfl rfl)) (fun c17 =>
    aw_if (fun c18 => aw_tswA (pc := 22) C (off := 94) (tg := 116) 8 dX11_count_22 (by rw [c18]; rfl) (by decide) (by decide) rfl rfl (aw_aload_n (pc := 116) C (i := 0) dX11_count_116 rfl rfl <|
    aw_getI (pc := 117) C dX11_count_117 fl_X11_295 sR_0 rfl <|
    aw_iret (pc := 120) C dX11_count_120 rfl rfl)) (fun c18 =>
    aw_tswD (pc := 22) C (N := 9) (td := 121) [0, 1, 2, 3, 4, 5, 6, 7, 8] dX11_count_22 (List.forall_mem_cons.mpr ⟨ti_ne c4 rfl, List.forall_mem_cons.mpr ⟨ti_ne c7 rfl, List.forall_mem_cons.mpr ⟨ti_ne c8 rfl, List.forall_mem_cons.mpr ⟨ti_ne c9 rfl, List.forall_mem_cons.mpr ⟨ti_ne c10 rfl, List.forall_mem_cons.mpr ⟨ti_ne c13 rfl, List.forall_mem_cons.mpr ⟨ti_ne c16 rfl, List.forall_mem_cons.mpr ⟨ti_ne c17 rfl, List.forall_mem_cons.mpr ⟨ti_ne c18 rfl, fun _ hz => by cases hz⟩⟩⟩⟩⟩⟩⟩⟩⟩) rfl (by decide) rfl (aw_bipush (pc := 121) C (v := (-9)) dX11_count_121 rfl <|
    aw_iret (pc := 123) C dX11_count_123 rfl rfl))))))))))) (fun _ =>
    aw_aload_n (pc := 11) C (i := 0) dX11_count_11 rfl rfl <|
    aw_getR (pc := 12) C (b := 1) dX11_count_12 fl_X11_7 sR_0 rfl rR_0_0 <|
    aw_iload_n (pc := 15) C (i := 1) dX11_count_15 rfl rfl <|
    aw_bipush (pc := 16) C (v := 10) dX11_count_16 rfl <|
    aw_isub (pc := 18) C dX11_count_18 <|
    aw_iald (pc := 19) C dX11_count_19 sR_1 rfl <|
    aw_iret (pc := 20) C dX11_count_20 rfl rfl)
end
section
/-! two worlds at a time: class and reference, beside the law's script -/
theorem arrV_congr {cI : ClassId} {N : Nat} {f g : Nat → Value} (h : ∀ j, j < N → f j = g j) : arrV cI N f = arrV cI N g := by
  have e : (fun j : Fin N => f j.val) = (fun j : Fin N => g j.val) := funext fun j => h j.val j.isLt
  unfold arrV
  rw [e]
def agr (Z Z' : Stc) : Bool := (List.range Z.1.length).all fun o => match Z.1[o]? with
  | some (.inr ci) => (List.range (fty ci).length).all fun k => !((fty ci)[k]? == some 2) || (Z.2.1 o k == Z'.2.1 o k)
  | some (.inl (_, kd, n)) => kd == 0 || kd == 1 || (kd == 2 && (List.range n).all fun k => Z.2.1 o k == Z'.2.1 o k)
  | none => true
theorem wld_like {Z Z' : Stc} {yd : Dyn} {h : AH} {D : va_G} {cl : List vw_C} {H : Heap} (e1 : Z.1 = Z'.1) (e3 : Z.2.2.1 = Z'.2.2.1) (ha : agr Z Z' = true) (hP : va_P D cl (wld Z yd h) H) : va_P D cl (wld Z' yd h) H := by
  intro o q hk
  have hl : o < Z'.1.length := by
    have := (List.getElem?_eq_some_iff.mp hk).1
    rwa [wld_len] at this
  obtain ⟨s, hs⟩ : ∃ s, Z'.1[o]? = some s := ⟨_, List.getElem?_eq_getElem hl⟩
  have hs0 : Z.1[o]? = some s := by rw [e1]; exact hs
  rw [wld_at hs] at hk
  cases hk
  have h0 := hP o _ (wld_at (yd := yd) (h := h) hs0)
  have ha1 := List.all_eq_true.mp ha o (List.mem_range.mpr (by rw [e1]; exact hl))
  rw [hs0] at ha1
  cases s with
  | inr ci =>
    have he : ent Z' yd h o (.inr ci) = ent Z yd h o (.inr ci) := by
      show Sum.inr (ci, _) = Sum.inr (ci, _)
      congr 2
      refine eFs_congr _ _ (fun i t ht => ?_)
      rw [Nat.zero_add]
      match t, ht with
      | 0, _ => rfl
      | 1, _ => rfl
      | 2, ht =>
        have hi : i < (fty ci).length := (List.getElem?_eq_some_iff.mp ht).1
        have h2 := List.all_eq_true.mp ha1 i (List.mem_range.mpr hi)
        rw [ht] at h2
        have h3 : Z.2.1 o i = Z'.2.1 o i := by simpa using h2
        show va_rf ((Z'.2.1 o i).map yd.1) = va_rf ((Z.2.1 o i).map yd.1)
        rw [h3]
      | 3, _ =>
        show Value.ref (yd.1 (Z'.2.2.1 + h.2.2 o % 6)) = Value.ref (yd.1 (Z.2.2.1 + h.2.2 o % 6))
        rw [e3]
      | t + 4, _ => rfl
    rw [he]
    exact h0
  | inl x =>
    obtain ⟨t, kd, n⟩ := x
    simp only [Bool.or_eq_true, Bool.and_eq_true, beq_iff_eq] at ha1
    rcases ha1 with (e | e) | ⟨e, h2⟩
    · subst e; exact h0
    · subst e; exact h0
    · subst e
      have h3 := List.all_eq_true.mp h2
      show H[yd.1 o]? = some (arrV (tcl yd t) n (fun j => va_rf ((Z'.2.1 o j).map yd.1)))
      have h4 : H[yd.1 o]? = some (arrV (tcl yd t) n (fun j => va_rf ((Z.2.1 o j).map yd.1))) := h0
      rw [h4]
      refine congrArg some (arrV_congr (fun j hj => ?_))
      have h5 : Z.2.1 o j = Z'.2.1 o j := by simpa using h3 j (List.mem_range.mpr hj)
      rw [h5]
theorem wld_likeD {Z Z' : Stc} {yd : Dyn} {h : AH} {A : Nat → Prop} (e1 : Z.1 = Z'.1) (hD : va_D A (wld Z yd h)) : va_D A (wld Z' yd h) := by
  have key : ∀ (k : Nat) (q : Nat × va_E), (wld Z' yd h)[k]? = some q → ∃ e, (wld Z yd h)[k]? = some (q.1, e) := by
    intro k q hk
    have hl : k < Z'.1.length := by
      have := (List.getElem?_eq_some_iff.mp hk).1
      rwa [wld_len] at this
    obtain ⟨t, ht⟩ : ∃ t, Z'.1[k]? = some t := ⟨_, List.getElem?_eq_getElem hl⟩
    rw [wld_at ht] at hk
    cases hk
    exact ⟨_, wld_at (by rw [e1]; exact ht)⟩
  refine ⟨fun i j p q hi hj e => ?_, fun k q hk => ?_⟩
  · obtain ⟨a1, h1⟩ := key i p hi
    obtain ⟨a2, h2⟩ := key j q hj
    exact hD.1 i j _ _ h1 h2 e
  · obtain ⟨a1, h1⟩ := key k q hk
    exact hD.2 k (q.1, a1) h1
theorem YR_sh : YR56.1 = ZR.1 := by decide +kernel
theorem YR_ag : agr YR56 ZR = true := by decide +kernel
theorem YC_sh : YC115.1 = ZC.1 := by decide +kernel
theorem YC_ag : agr YC115 ZC = true := by decide +kernel
/-- the addresses of two worlds are apart -/
def Apt (Z1 Z2 : Stc) (y1 y2 : Dyn) : Prop := ∀ o o', o < Z1.1.length → o' < Z2.1.length → y1.1 o ≠ y2.1 o'
theorem Apt.symm {Z1 Z2 : Stc} {y1 y2 : Dyn} (h : Apt Z1 Z2 y1 y2) : Apt Z2 Z1 y2 y1 := fun o o' h1 h2 e => h o' o h2 h1 e.symm
section L2
variable {X : MCx} {cc : ByteArray} {own : String} {nL : Nat} {ret : Option FieldType} {rm : Room} {Z1 Z2 Z' : Stc} {y1 y2 : Dyn} {A : Nat → Prop} {k n : Nat} {β : Type} {pc : Nat} {st rest : List Value} {c1 c2 c1' : AH} {rv : β → Option Value} {F : AH → Option (β × AH)} {v : β} {mc ms : Nat} {Q : State → Prop}
theorem l2_at {Z : Stc} {yd : Dyn} {h : AH} {j : Nat} {q : Nat × va_E} (hk : (wld Z yd h)[j]? = some q) : j < Z.1.length ∧ q.1 = yd.1 j := by
  have hl : j < Z.1.length := by
    have := (List.getElem?_eq_some_iff.mp hk).1
    rwa [wld_len] at this
  obtain ⟨s, hs⟩ : ∃ s, Z.1[j]? = some s := ⟨_, List.getElem?_eq_getElem hl⟩
  rw [wld_at hs] at hk
  cases hk
  exact ⟨hl, rfl⟩
theorem l2_lt {H : Heap} {locs : List Loc} (h2 : WR X Z2 y2 A c2 H locs) {o : Nat} (ho : o < Z2.1.length) : y2.1 o < H.size := by
  obtain ⟨s, hs⟩ : ∃ s, Z2.1[o]? = some s := ⟨_, List.getElem?_eq_getElem ho⟩
  exact (h2.1 o _ (wld_at hs)).lt
theorem l2_keep {H H' : Heap} {locs : List Loc} (hap : Apt Z1 Z2 y1 y2) (h2 : WR X Z2 y2 A c2 H locs) (hk : ∀ q : Nat, q < H.size → ¬ AA y1 Z1 H.size q → H'[q]? = H[q]?) : va_P y2.2.1 vwCl (wld Z2 y2 c2) H' := by
  refine h2.1.kept (fun j q hq => ?_)
  have hlt := (h2.1 j q hq).lt
  obtain ⟨hj, e⟩ := l2_at hq
  refine hk q.1 hlt (fun hz => ?_)
  rcases hz with ⟨o, ho, e2⟩ | hz
  · exact hap o j ho hj (by rw [← e2, e])
  · omega
theorem l2_call (C : OK X cc own nL ret rm A) (hap : Apt Z1 Z2 y1 y2) (R : CR X nL Z1 y1 A mc ms pc st rest rv F) (hF : F c1 = some (v, c1')) (hc : k + mc ≤ rm.cells) (hs : n + ms ≤ rm.slots) {ls : Array Slot} {H : Heap} {locs : List Loc} (hls : ls.size = nL) (h1 : WR X Z1 y1 A c1 H locs) (h2 : WR X Z2 y2 A c2 H locs)
    (q : ∀ H' locs', WR X Z1 y1 A c1' H' locs' → WR X Z2 y2 A c2 H' locs' → WX X H' locs' (k + mc) (n + ms) Q (F0 (xM X) (pc + 3) ls (((rv v).map (cv y1.1)).toList ++ rest.map (cv y1.1)))) : WX X H locs k n Q (F0 (xM X) pc ls (st.map (cv y1.1))) := by
  have run := R c1 v c1' hF ls H locs k n hls h1 (by rw [C.2.2.2.2.2.2.2.2]; exact ⟨hc, hs⟩)
  intro T hT XX
  obtain ⟨v', st₀, t, T', L, h0, X', hL, e1, e2, ⟨hv, hP1, hz, hk⟩, stp⟩ := run T hT XX
  cases hv
  rw [h0] at hz hk
  have hin := AA_in h1 C.2.2.2.2.2.2.2.1
  have hS : va_S A (xS X).heap T'.heap (locs ++ L) := ⟨Nat.le_trans h1.2.2.1.1 (by rw [e1]; exact hz), fun q h3 h4 => by rw [e1, hk q (Nat.lt_of_lt_of_le h3 h1.2.2.1.1) (fun z => h4 (hin q z))]; exact h1.2.2.1.2.1 q h3 h4, fun q hq => by
    rcases List.mem_append.mp hq with h | h
    · exact h1.2.2.1.2.2 q h
    · exact hin _ (hL q h)⟩
  obtain ⟨t2, a1, b1⟩ := q T'.heap (locs ++ L) ⟨by rw [e1]; exact hP1, wld_D h1.2.1, hS, h1.2.2.2⟩ ⟨by rw [e1]; exact l2_keep hap h2 hk, h2.2.1, hS, h2.2.2.2⟩ T' rfl X'
  exact ⟨t2, stp t2 a1, b1⟩
theorem l2_callN (C : OK X cc own nL ret rm A) (hap : Apt Z1 Z2 y1 y2) {ls : Array Slot} {H : Heap} {locs : List Loc} (h1 : WR X Z1 y1 A c1 H locs) (h2 : WR X Z2 y2 A c2 H locs) (hTl : Z'.2.2.2 = Z1.2.2.2)
    (run : va_Run X.1 X.2.1 X.2.2.1 X.2.2.2.1 (xS X) (xM X) X.2.2.2.2.2.2.1 X.2.2.2.2.2.2.2.1 X.2.2.2.2.2.2.2.2.1 X.2.2.2.2.2.2.2.2.2 H locs k n mc ms (F0 (xM X) pc ls (st.map (cv y1.1))) (rest.map (cv y1.1)) (PostN Z1 Z' y1 (AA y1 Z1 H.size) c1' #[]) (AA y1 Z1 H.size))
    (q : ∀ (ad' : Nat → Nat) H' locs', (∀ o, o < Z1.1.length → ad' o = y1.1 o) → Apt Z' Z2 (ad', y1.2) y2 → WR X Z' (ad', y1.2) A c1' H' locs' → WR X Z2 y2 A c2 H' locs' → WX X H' locs' (k + mc) (n + ms) Q (F0 (xM X) (pc + 3) ls (rest.map (cv y1.1)))) : WX X H locs k n Q (F0 (xM X) pc ls (st.map (cv y1.1))) := by
  intro T hT XX
  obtain ⟨v', st₀, t, T', L, h0, X', hL, e1, e2, ⟨hv, ⟨ad', ha, hP1, hD1⟩, hz, hk⟩, stp⟩ := run T hT XX
  cases hv
  rw [h0] at hz hk
  have hin := AA_in h1 C.2.2.2.2.2.2.2.1
  have hS : va_S A (xS X).heap T'.heap (locs ++ L) := ⟨Nat.le_trans h1.2.2.1.1 (by rw [e1]; exact hz), fun q h3 h4 => by rw [e1, hk q (Nat.lt_of_lt_of_le h3 h1.2.2.1.1) (fun z => h4 (hin q z))]; exact h1.2.2.1.2.1 q h3 h4, fun q hq => by
    rcases List.mem_append.mp hq with h | h
    · exact h1.2.2.1.2.2 q h
    · exact hin _ (hL q h)⟩
  have hap2 : Apt Z' Z2 (ad', y1.2) y2 := by
    intro o o' ho ho' e
    obtain ⟨s, hs⟩ : ∃ s, Z'.1[o]? = some s := ⟨_, List.getElem?_eq_getElem ho⟩
    have hA2 : AA y1 Z1 H.size (ad' o) := hD1.2 o _ (wld_at hs)
    have hlt := l2_lt h2 ho'
    have e' : ad' o = y2.1 o' := e
    rcases hA2 with ⟨o2, h3, h4⟩ | h3
    · exact hap o2 o' h3 ho' (by rw [← h4, e'])
    · omega
  obtain ⟨t2, a1, b1⟩ := q ad' T'.heap (locs ++ L) ha hap2 ⟨by rw [e1]; exact hP1, hD1.weaken (fun _ _ _ hz => hin _ hz), hS, h1.2.2.2.1, by rw [hTl]; exact h1.2.2.2.2⟩ ⟨by rw [e1]; exact l2_keep hap h2 hk, h2.2.1, hS, h2.2.2.2⟩ T' rfl X'
  exact ⟨t2, stp t2 a1, b1⟩
end L2
/-! what is known of classes and arrays at the law's entry -/
theorem u_all {s : State} {args : Array Value} (hts : ∀ w ∈ TB, w.before args s = true) (h10 : Cond.instantiable RX10 18 ∈ TB) (h11 : Cond.instantiable RX11 41 ∈ TB) : ∃ D : va_G, ∀ (k : Nat) (q : vw_C), vwCl[k]? = some q → u_Kn s q.1 q.2.1 q.2.2 (D.1 k) (D.2 k) := by
  have each : ∀ k : Nat, ∃ z : ClassId × (Nat → Nat), ∀ q : vw_C, vwCl[k]? = some q → u_Kn s q.1 q.2.1 q.2.2 z.1 z.2 := by
    intro k
    match k with
    | 0 => obtain ⟨a, b, h⟩ := u_known hts wsin_X0 (hts _ ki_X0); exact ⟨(a, b), fun q hq => by cases hq; exact h⟩
    | 1 => obtain ⟨a, b, h⟩ := u_known hts wsin_X1 (hts _ ki_X1); exact ⟨(a, b), fun q hq => by cases hq; exact h⟩
    | 2 => obtain ⟨a, b, h⟩ := u_known hts wsin_X2 (hts _ ki_X2); exact ⟨(a, b), fun q hq => by cases hq; exact h⟩
    | 3 => obtain ⟨a, b, h⟩ := u_known hts wsin_X3 (hts _ ki_X3); exact ⟨(a, b), fun q hq => by cases hq; exact h⟩
    | 4 => obtain ⟨a, b, h⟩ := u_known hts wsin_X4 (hts _ ki_X4); exact ⟨(a, b), fun q hq => by cases hq; exact h⟩
    | 5 => obtain ⟨a, b, h⟩ := u_known hts wsin_X5 (hts _ ki_X5); exact ⟨(a, b), fun q hq => by cases hq; exact h⟩
    | 6 => obtain ⟨a, b, h⟩ := u_known hts wsin_X6 (hts _ ki_X6); exact ⟨(a, b), fun q hq => by cases hq; exact h⟩
    | 7 => obtain ⟨a, b, h⟩ := u_known hts wsin_X7 (hts _ ki_X7); exact ⟨(a, b), fun q hq => by cases hq; exact h⟩
    | 8 => obtain ⟨a, b, h⟩ := u_known hts wsin_X8 (hts _ ki_X8); exact ⟨(a, b), fun q hq => by cases hq; exact h⟩
    | 9 => obtain ⟨a, b, h⟩ := u_known hts wsin_X9 (hts _ ki_X9); exact ⟨(a, b), fun q hq => by cases hq; exact h⟩
    | 10 => obtain ⟨a, b, h⟩ := u_known hts wsin_X10 (hts _ h10); exact ⟨(a, b), fun q hq => by cases hq; exact h⟩
    | 11 => obtain ⟨a, b, h⟩ := u_known hts wsin_X11 (hts _ h11); exact ⟨(a, b), fun q hq => by cases hq; exact h⟩
    | k + 12 => exact ⟨(0, fun _ => 0), fun q hq => by simp at hq⟩
  exact ⟨(fun k => (each k).choose.1, fun k => (each k).choose.2), fun k q hq => (each k).choose_spec q hq⟩
theorem ty_prim {s : State} {args : Array Value} {ty : FieldType} (h : (Cond.arrayClass ty).before args s = true) (hn : ∀ C, ty ≠ .object C) : ∃ cA : ClassId, ArrOfT s cA ty ∧ va_RA s cA ty := by
  obtain ⟨cA, kA, comp, h1, h2, h3⟩ := Cond.arrayClass_spec h
  refine ⟨cA, fun n z => ⟨fun k h => (by cases h), kA, h2, comp, h3⟩, ?_⟩
  cases ty with
  | object C => exact absurd rfl (hn C)
  | _ => exact h1
theorem ty_obj {s : State} {C : String} (h : va_AO C s) : ∃ cA : ClassId, ArrOfT s cA (.object C) ∧ va_RA s cA (.object C) := by
  obtain ⟨comp, cA, kA, h1, h2, h3, h4, h5⟩ := Cond.arrayOver_spec h
  exact ⟨cA, fun n z => ⟨fun k h => (by cases h), kA, h3, comp, h4⟩, kA, comp, h3, h4, h1, h5⟩
theorem ty_arr {s : State} {ty : FieldType} (h : va_AOA ty s) : ∃ cA : ClassId, ArrOfT s cA (.array ty) ∧ va_RA s cA (.array ty) := by
  obtain ⟨comp, cA, kA, h1, h2, h3, h4, h5⟩ := va_AOA.spec h
  exact ⟨cA, fun n z => ⟨fun k h => (by cases h), kA, h3, comp, h4⟩, h5⟩
theorem tys_all {s : State} {args : Array Value} (hI : (Cond.arrayClass .int).before args s = true) (hJ : (Cond.arrayClass .long).before args s = true) (hA : va_AO "MarkToBoard$Jumper" s) (hB : va_AO "MarkToBoard$Kind" s) (hC : va_AOA .long s) :
    ∃ tC tR : List (ClassId × FieldType), tC.map (·.2) = tlC ∧ tR.map (·.2) = tlR ∧ (∀ (k : Nat) (q : ClassId × FieldType), tC[k]? = some q → ArrOfT s q.1 q.2 ∧ va_RA s q.1 q.2) ∧ (∀ (k : Nat) (q : ClassId × FieldType), tR[k]? = some q → ArrOfT s q.1 q.2 ∧ va_RA s q.1 q.2) := by
  obtain ⟨a0, h0⟩ := ty_prim hI (fun C e => by cases e)
  obtain ⟨a1, h1⟩ := ty_prim hJ (fun C e => by cases e)
  obtain ⟨a2, h2⟩ := ty_obj hA
  obtain ⟨a3, h3⟩ := ty_obj hB
  obtain ⟨a4, h4⟩ := ty_arr hC
  refine ⟨[(a0, .int), (a1, .long), (a2, .object "MarkToBoard$Jumper"), (a3, .object "MarkToBoard$Kind"), (a4, .array .long)], [(a0, .int), (a1, .long)], rfl, rfl, fun k q hq => ?_, fun k q hq => ?_⟩
  · match k, hq with
    | 0, hq => cases hq; exact h0
    | 1, hq => cases hq; exact h1
    | 2, hq => cases hq; exact h2
    | 3, hq => cases hq; exact h3
    | 4, hq => cases hq; exact h4
    | k + 5, hq => simp at hq
  · match k, hq with
    | 0, hq => cases hq; exact h0
    | 1, hq => cases hq; exact h1
    | k + 2, hq => simp at hq
end
