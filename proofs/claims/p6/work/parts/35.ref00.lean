abbrev rmX11_no : Room := { frames := 0, cells := 0, slots := 0, locals := 0 }
def X11_no (v1 : Int32) (h : AH) : Option (Int32 × AH) :=
    ck (-v1) 7 (ck (-v1) 7 (vl (sI h 1 (-v1).toNatClampNeg ((h.1 1 (-v1).toNatClampNeg) + 1)) fun h1 =>
    some (v1, h1)))
set_option maxRecDepth 100000 in
theorem c_X11_no (l : Launch) (v1 : Int32) : MC l yX11_no cX11_no 2 (some .int) rmX11_no ZR [.ref 0, .int v1] rvI (X11_no v1) :=
  MC.of (own := RX11) (by decide +kernel) rfl (Nat.le_of_ble_eq_true rfl) fun X yd A h _ C =>
    aw_aload_n (pc := 0) C (i := 0) dX11_no_0 rfl rfl <|
    aw_getR (pc := 1) C (b := 1) dX11_no_1 fl_X11_7 sR_0 rfl rR_0_0 <|
    aw_iload_n (pc := 4) C (i := 1) dX11_no_4 rfl rfl <|
    aw_ineg (pc := 5) C dX11_no_5 <|
    aw_dup2 (pc := 6) C dX11_no_6 rfl rfl <|
    aw_iald (pc := 7) C dX11_no_7 sR_1 rfl <|
    aw_iconst (pc := 8) C (v := 1) dX11_no_8 rfl <|
    aw_iadd (pc := 9) C dX11_no_9 <|
    aw_iast (pc := 10) C dX11_no_10 sR_1 rfl fun h1 =>
    aw_iload_n (pc := 11) C (i := 1) dX11_no_11 rfl rfl <|
    aw_iret (pc := 12) C dX11_no_12 rfl rfl

abbrev rmX11_lower : Room := { frames := 0, cells := 0, slots := 0, locals := 0 }
def X11_lower (v1 : Int32) (h : AH) : Option (Int32 × AH) :=
    ck (-v1) 7 (ck (-v1) 7 (vl (sI h 1 (-v1).toNatClampNeg ((h.1 1 (-v1).toNatClampNeg) + 1)) fun h1 =>
    some ((1000000000 - v1), h1)))
set_option maxRecDepth 100000 in
theorem c_X11_lower (l : Launch) (v1 : Int32) : MC l yX11_lower cX11_lower 2 (some .int) rmX11_lower ZR [.ref 0, .int v1] rvI (X11_lower v1) :=
  MC.of (own := RX11) (by decide +kernel) rfl (Nat.le_of_ble_eq_true rfl) fun X yd A h _ C =>
    aw_aload_n (pc := 0) C (i := 0) dX11_lower_0 rfl rfl <|
    aw_getR (pc := 1) C (b := 1) dX11_lower_1 fl_X11_7 sR_0 rfl rR_0_0 <|
    aw_iload_n (pc := 4) C (i := 1) dX11_lower_4 rfl rfl <|
    aw_ineg (pc := 5) C dX11_lower_5 <|
    aw_dup2 (pc := 6) C dX11_lower_6 rfl rfl <|
    aw_iald (pc := 7) C dX11_lower_7 sR_1 rfl <|
    aw_iconst (pc := 8) C (v := 1) dX11_lower_8 rfl <|
    aw_iadd (pc := 9) C dX11_lower_9 <|
    aw_iast (pc := 10) C dX11_lower_10 sR_1 rfl fun h1 =>
    aw_ldc (pc := 11) C (v := 1000000000) dX11_lower_11 kc_X11_102 <|
    aw_iload_n (pc := 13) C (i := 1) dX11_lower_13 rfl rfl <|
    aw_isub (pc := 14) C dX11_lower_14 <|
    aw_iret (pc := 15) C dX11_lower_15 rfl rfl

abbrev rmX11_lowest : Room := { frames := 0, cells := 0, slots := 0, locals := 0 }
def X11_lowest (v1 : Int32) (h : AH) : Option (Int64 × AH) :=
    ck (-v1) 7 (ck (-v1) 7 (vl (sI h 1 (-v1).toNatClampNeg ((h.1 1 (-v1).toNatClampNeg) + 1)) fun h1 =>
    some ((4000000000000000000 - v1.toInt64), h1)))
set_option maxRecDepth 100000 in
theorem c_X11_lowest (l : Launch) (v1 : Int32) : MC l yX11_lowest cX11_lowest 2 (some .long) rmX11_lowest ZR [.ref 0, .int v1] rvL (X11_lowest v1) :=
  MC.of (own := RX11) (by decide +kernel) rfl (Nat.le_of_ble_eq_true rfl) fun X yd A h _ C =>
    aw_aload_n (pc := 0) C (i := 0) dX11_lowest_0 rfl rfl <|
    aw_getR (pc := 1) C (b := 1) dX11_lowest_1 fl_X11_7 sR_0 rfl rR_0_0 <|
    aw_iload_n (pc := 4) C (i := 1) dX11_lowest_4 rfl rfl <|
    aw_ineg (pc := 5) C dX11_lowest_5 <|
    aw_dup2 (pc := 6) C dX11_lowest_6 rfl rfl <|
    aw_iald (pc := 7) C dX11_lowest_7 sR_1 rfl <|
    aw_iconst (pc := 8) C (v := 1) dX11_lowest_8 rfl <|
    aw_iadd (pc := 9) C dX11_lowest_9 <|
    aw_iast (pc := 10) C dX11_lowest_10 sR_1 rfl fun h1 =>
    aw_ldc2_w (pc := 11) C (v := 4000000000000000000) dX11_lowest_11 kc_X11_103 <|
    aw_iload_n (pc := 14) C (i := 1) dX11_lowest_14 rfl rfl <|
    aw_i2l (pc := 15) C dX11_lowest_15 <|
    aw_lsub (pc := 16) C dX11_lowest_16 <|
    aw_lret (pc := 17) C dX11_lowest_17 rfl rfl

abbrev rmX11_isIn : Room := { frames := 0, cells := 0, slots := 0, locals := 0 }
def X11_isIn (v0 : Int32) (v1 : Int32) (v2 : Int32) (h : AH) : Option (Int32 × AH) :=
    if v0 < v1 then (cz 0 (some (0, h)))
    else (if v2 < v0 then (cz 0 (some (0, h)))
    else (cz 1 (some (1, h))))
set_option maxRecDepth 100000 in
theorem c_X11_isIn (l : Launch) (v0 : Int32) (v1 : Int32) (v2 : Int32) : MC l yX11_isIn cX11_isIn 3 (some .boolean) rmX11_isIn ZR [.int v0, .int v1, .int v2] rvI (X11_isIn v0 v1 v2) :=
  MC.of (own := RX11) (by decide +kernel) rfl (Nat.le_of_ble_eq_true rfl) fun X yd A h _ C =>
    aw_iload_n (pc := 0) C (i := 0) dX11_isIn_0 rfl rfl <|
    aw_iload_n (pc := 1) C (i := 1) dX11_isIn_1 rfl rfl <|
    aw_icmp_lt (pc := 2) C (tgt := 14) dX11_isIn_2 rfl (fun _ =>
    aw_iconst (pc := 14) C (v := 0) dX11_isIn_14 rfl <|
    aw_zret (pc := 15) C dX11_isIn_15 rfl rfl) (fun _ =>
    aw_iload_n (pc := 5) C (i := 0) dX11_isIn_5 rfl rfl <|
    aw_iload_n (pc := 6) C (i := 2) dX11_isIn_6 rfl rfl <|
    aw_icmp_gt (pc := 7) C (tgt := 14) dX11_isIn_7 rfl (fun _ =>
    aw_iconst (pc := 14) C (v := 0) dX11_isIn_14 rfl <|
    aw_zret (pc := 15) C dX11_isIn_15 rfl rfl) (fun _ =>
    aw_iconst (pc := 10) C (v := 1) dX11_isIn_10 rfl <|
    aw_goto (pc := 11) C (tgt := 15) dX11_isIn_11 rfl <|
    aw_zret (pc := 15) C dX11_isIn_15 rfl rfl))

abbrev rmX11_bound : Room := { frames := 0, cells := 0, slots := 0, locals := 0 }
def X11_bound (v0 : Int32) (v1 : Int32) (v2 : Int32) (h : AH) : Option (Int32 × AH) :=
    if v1 ≤ v0 then (if v0 ≤ v2 then (some (0, h))
    else (some ((-6), h)))
    else (some ((-4), h))
set_option maxRecDepth 100000 in
theorem c_X11_bound (l : Launch) (v0 : Int32) (v1 : Int32) (v2 : Int32) : MC l yX11_bound cX11_bound 3 (some .int) rmX11_bound ZR [.int v0, .int v1, .int v2] rvI (X11_bound v0 v1 v2) :=
  MC.of (own := RX11) (by decide +kernel) rfl (Nat.le_of_ble_eq_true rfl) fun X yd A h _ C =>
    aw_iload_n (pc := 0) C (i := 0) dX11_bound_0 rfl rfl <|
    aw_iload_n (pc := 1) C (i := 1) dX11_bound_1 rfl rfl <|
    aw_icmp_ge (pc := 2) C (tgt := 10) dX11_bound_2 rfl (fun _ =>
    aw_iload_n (pc := 10) C (i := 0) dX11_bound_10 rfl rfl <|
    aw_iload_n (pc := 11) C (i := 2) dX11_bound_11 rfl rfl <|
    aw_icmp_le (pc := 12) C (tgt := 20) dX11_bound_12 rfl (fun _ =>
    aw_iconst (pc := 20) C (v := 0) dX11_bound_20 rfl <|
    aw_iret (pc := 21) C dX11_bound_21 rfl rfl) (fun _ =>
    aw_bipush (pc := 15) C (v := (-6)) dX11_bound_15 rfl <|
    aw_goto (pc := 17) C (tgt := 21) dX11_bound_17 rfl <|
    aw_iret (pc := 21) C dX11_bound_21 rfl rfl)) (fun _ =>
    aw_bipush (pc := 5) C (v := (-4)) dX11_bound_5 rfl <|
    aw_goto (pc := 7) C (tgt := 21) dX11_bound_7 rfl <|
    aw_iret (pc := 21) C dX11_bound_21 rfl rfl)

abbrev rmX11_atLeast0 : Room := { frames := 0, cells := 0, slots := 0, locals := 0 }
def X11_atLeast0 (v0 : Int32) (h : AH) : Option (Int32 × AH) :=
    if 0 ≤ v0 then (some (v0, h))
    else (some (0, h))
set_option maxRecDepth 100000 in
theorem c_X11_atLeast0 (l : Launch) (v0 : Int32) : MC l yX11_atLeast0 cX11_atLeast0 1 (some .int) rmX11_atLeast0 ZR [.int v0] rvI (X11_atLeast0 v0) :=
  MC.of (own := RX11) (by decide +kernel) rfl (Nat.le_of_ble_eq_true rfl) fun X yd A h _ C =>
    aw_iload_n (pc := 0) C (i := 0) dX11_atLeast0_0 rfl rfl <|
    aw_if_ge (pc := 1) C (tgt := 8) dX11_atLeast0_1 rfl (fun _ =>
    aw_iload_n (pc := 8) C (i := 0) dX11_atLeast0_8 rfl rfl <|
    aw_iret (pc := 9) C dX11_atLeast0_9 rfl rfl) (fun _ =>
    aw_iconst (pc := 4) C (v := 0) dX11_atLeast0_4 rfl <|
    aw_goto (pc := 5) C (tgt := 9) dX11_atLeast0_5 rfl <|
    aw_iret (pc := 9) C dX11_atLeast0_9 rfl rfl)

abbrev rmX11_isJumper : Room := { frames := 0, cells := 0, slots := 0, locals := 0 }
def X11_isJumper (v1 : Int32) (h : AH) : Option (Int32 × AH) :=
    if v1 < 0 then (cz 0 (some (0, h)))
    else (if (h.1 0 15) ≤ v1 then (cz 0 (some (0, h)))
    else (cz 1 (some (1, h))))
set_option maxRecDepth 100000 in
theorem c_X11_isJumper (l : Launch) (v1 : Int32) : MC l yX11_isJumper cX11_isJumper 2 (some .boolean) rmX11_isJumper ZR [.ref 0, .int v1] rvI (X11_isJumper v1) :=
  MC.of (own := RX11) (by decide +kernel) rfl (Nat.le_of_ble_eq_true rfl) fun X yd A h _ C =>
    aw_iload_n (pc := 0) C (i := 1) dX11_isJumper_0 rfl rfl <|
    aw_if_lt (pc := 1) C (tgt := 16) dX11_isJumper_1 rfl (fun _ =>
    aw_iconst (pc := 16) C (v := 0) dX11_isJumper_16 rfl <|
    aw_zret (pc := 17) C dX11_isJumper_17 rfl rfl) (fun _ =>
    aw_iload_n (pc := 4) C (i := 1) dX11_isJumper_4 rfl rfl <|
    aw_aload_n (pc := 5) C (i := 0) dX11_isJumper_5 rfl rfl <|
    aw_getI (pc := 6) C dX11_isJumper_6 fl_X11_105 sR_0 rfl <|
    aw_icmp_ge (pc := 9) C (tgt := 16) dX11_isJumper_9 rfl (fun _ =>
    aw_iconst (pc := 16) C (v := 0) dX11_isJumper_16 rfl <|
    aw_zret (pc := 17) C dX11_isJumper_17 rfl rfl) (fun _ =>
    aw_iconst (pc := 12) C (v := 1) dX11_isJumper_12 rfl <|
    aw_goto (pc := 13) C (tgt := 17) dX11_isJumper_13 rfl <|
    aw_zret (pc := 17) C dX11_isJumper_17 rfl rfl))

abbrev rmX11_feed : Room := { frames := 1, cells := 0, slots := 0, locals := 22 }
def X11_feed_j25  (v1 : Int32) (v2 : Int32) (h : AH) : Option (Int32 × AH) :=
    if v2 = 0 then (ck (h.1 0 21) 96 (vl (sI h 13 (h.1 0 21).toNatClampNeg v1) fun h3 =>
    vl (sI h3 0 21 ((h3.1 0 21) + 1)) fun h4 =>
    some ((h4.1 0 21), h4)))
    else (bd (X11_no v2 h) fun r5 h6 =>
    some (r5, h6))
set_option maxRecDepth 100000 in
theorem aX11_feed_j25 {X : MCx} {yd : Dyn} {A : Nat → Prop} (C : OK X cX11_feed RX11 3 (some .int) rmX11_feed A)  (v1 : Int32) (v2 : Int32) (h : AH) : AW X 3 ZR yd A 0 0 (QF X rmX11_feed ZR yd rvI A) 25 [(0, .ref 0), (1, .int v1), (2, .int v2)] [] h (X11_feed_j25 v1 v2 h) := by
    exact aw_iload_n (pc := 25) C (i := 2) dX11_feed_25 rfl rfl <|
    aw_if_eq (pc := 26) C (tgt := 35) dX11_feed_26 rfl (fun _ =>
    aw_aload_n (pc := 35) C (i := 0) dX11_feed_35 rfl rfl <|
    aw_getR (pc := 36) C (b := 13) dX11_feed_36 fl_X11_46 sR_0 rfl rR_0_17 <|
    aw_aload_n (pc := 39) C (i := 0) dX11_feed_39 rfl rfl <|
    aw_getI (pc := 40) C dX11_feed_40 fl_X11_112 sR_0 rfl <|
    aw_iload_n (pc := 43) C (i := 1) dX11_feed_43 rfl rfl <|
    aw_iast (pc := 44) C dX11_feed_44 sR_13 rfl fun h3 =>
    aw_aload_n (pc := 45) C (i := 0) dX11_feed_45 rfl rfl <|
    aw_dup (pc := 46) C dX11_feed_46 rfl <|
    aw_getI (pc := 47) C dX11_feed_47 fl_X11_112 sR_0 rfl <|
    aw_iconst (pc := 50) C (v := 1) dX11_feed_50 rfl <|
    aw_iadd (pc := 51) C dX11_feed_51 <|
    aw_putI (pc := 52) C dX11_feed_52 fp_X11_112 sR_0 rfl fun h4 =>
    aw_aload_n (pc := 55) C (i := 0) dX11_feed_55 rfl rfl <|
    aw_getI (pc := 56) C dX11_feed_56 fl_X11_112 sR_0 rfl <|
    aw_iret (pc := 59) C dX11_feed_59 rfl rfl) (fun _ =>
    aw_aload_n (pc := 29) C (i := 0) dX11_feed_29 rfl rfl <|
    aw_iload_n (pc := 30) C (i := 2) dX11_feed_30 rfl rfl <|
    aw_callF (pc := 31) C (cr_V (rest := []) (F := (X11_no v2)) C (c_X11_no X.2.1 v2) dX11_feed_31 mf_X11_no ml_X11_115 im_X11_no se_X11_no sR_0 rfl ⟨(Nat.le_of_ble_eq_true rfl), (Nat.le_of_ble_eq_true rfl)⟩ rfl rfl (Nat.le_of_ble_eq_true rfl)) rfl rfl rfl (Nat.zero_le _) (Nat.zero_le _) fun r5 h6 =>
    aw_iret (pc := 34) C dX11_feed_34 rfl rfl)
def X11_feed (v1 : Int32) (h : AH) : Option (Int32 × AH) :=
    bd (X11_bound v1 0 255 h) fun r1 h2 =>
    if r1 = 0 then (if (h2.1 0 21) = 96 then (vl (-6) fun x7 =>
    X11_feed_j25 v1 x7 h2)
    else (X11_feed_j25 v1 r1 h2))
    else (X11_feed_j25 v1 r1 h2)
set_option maxRecDepth 100000 in
theorem c_X11_feed (l : Launch) (v1 : Int32) : MC l yX11_feed cX11_feed 3 (some .int) rmX11_feed ZR [.ref 0, .int v1] rvI (X11_feed v1) :=
  MC.of (own := RX11) (by decide +kernel) rfl (Nat.le_of_ble_eq_true rfl) fun X yd A h _ C =>
    aw_iload_n (pc := 0) C (i := 1) dX11_feed_0 rfl rfl <|
    aw_iconst (pc := 1) C (v := 0) dX11_feed_1 rfl <|
    aw_sipush (pc := 2) C (v := 255) dX11_feed_2 rfl <|
    aw_callF (pc := 5) C (cr_S (rest := []) (F := (X11_bound v1 0 255)) C (c_X11_bound X.2.1 v1 0 255) dX11_feed_5 mf_X11_bound ml_X11_108 st_X11_bound ⟨(Nat.le_of_ble_eq_true rfl), (Nat.le_of_ble_eq_true rfl)⟩ rfl rfl (Nat.le_of_ble_eq_true rfl)) rfl rfl rfl (Nat.zero_le _) (Nat.zero_le _) fun r1 h2 =>
    aw_istore_n (pc := 8) C (i := 2) (lv' := [(0, .ref 0), (1, .int v1), (2, .int r1)]) dX11_feed_8 rfl (by decide) rfl <|
    aw_iload_n (pc := 9) C (i := 2) dX11_feed_9 rfl rfl <|
    aw_if_ne (pc := 10) C (tgt := 25) dX11_feed_10 rfl (fun _ =>
    aw_aload_n (pc := 13) C (i := 0) dX11_feed_13 rfl rfl <|
    aw_getI (pc := 14) C dX11_feed_14 fl_X11_112 sR_0 rfl <|
    aw_bipush (pc := 17) C (v := 96) dX11_feed_17 rfl <|
    aw_icmp_ne (pc := 19) C (tgt := 25) dX11_feed_19 rfl (fun _ =>
    aw_bipush (pc := 22) C (v := (-6)) dX11_feed_22 rfl <|
    aw_istoreV_n (pc := 24) C (i := 2) (fun x7 => [(0, .ref 0), (1, .int v1), (2, .int x7)]) dX11_feed_24 rfl (by decide) (fun _ => rfl) fun x7 =>
    (aX11_feed_j25 C v1 x7 h2)) (fun _ =>
    (aX11_feed_j25 C v1 r1 h2))) (fun _ =>
    (aX11_feed_j25 C v1 r1 h2))

abbrev rmX11_next : Room := { frames := 0, cells := 0, slots := 0, locals := 0 }
def X11_next  (h : AH) : Option (Int32 × AH) :=
    if (h.1 0 21) ≤ (h.1 0 22) then (some ((-1), h))
    else (ck (h.1 0 22) 96 (some ((h.1 13 (h.1 0 22).toNatClampNeg), h)))
set_option maxRecDepth 100000 in
theorem c_X11_next (l : Launch)  : MC l yX11_next cX11_next 1 (some .int) rmX11_next ZR [.ref 0] rvI (X11_next) :=
  MC.of (own := RX11) (by decide +kernel) rfl (Nat.le_of_ble_eq_true rfl) fun X yd A h _ C =>
    aw_aload_n (pc := 0) C (i := 0) dX11_next_0 rfl rfl <|
    aw_getI (pc := 1) C dX11_next_1 fl_X11_119 sR_0 rfl <|
    aw_aload_n (pc := 4) C (i := 0) dX11_next_4 rfl rfl <|
    aw_getI (pc := 5) C dX11_next_5 fl_X11_112 sR_0 rfl <|
    aw_icmp_ge (pc := 8) C (tgt := 23) dX11_next_8 rfl (fun _ =>
    aw_iconst (pc := 23) C (v := (-1)) dX11_next_23 rfl <|
    aw_iret (pc := 24) C dX11_next_24 rfl rfl) (fun _ =>
    aw_aload_n (pc := 11) C (i := 0) dX11_next_11 rfl rfl <|
    aw_getR (pc := 12) C (b := 13) dX11_next_12 fl_X11_46 sR_0 rfl rR_0_17 <|
    aw_aload_n (pc := 15) C (i := 0) dX11_next_15 rfl rfl <|
    aw_getI (pc := 16) C dX11_next_16 fl_X11_119 sR_0 rfl <|
    aw_iald (pc := 19) C dX11_next_19 sR_13 rfl <|
    aw_goto (pc := 20) C (tgt := 24) dX11_next_20 rfl <|
    aw_iret (pc := 24) C dX11_next_24 rfl rfl)

abbrev rmX11_readsDigits : Room := { frames := 1, cells := 0, slots := 0, locals := 22 }
def X11_readsDigits_l5  (v1 : Int32) (v2 : Int32) : Nat → Int32 → Int32 → AH → Option (Int32 × AH)
  | 0, _, _, _ => none
  | n + 1, v3, v4, h =>
    if v2 ≤ v4 then (ck v1 384 (vl (sI h 16 v1.toNatClampNeg v3) fun h1 =>
    cz 1 (some (1, h1))))
    else (bd (X11_next h) fun r2 h3 =>
    bd (X11_isIn r2 48 57 h3) fun r4 h5 =>
    if r4 = 0 then (cz 0 (some (0, h5)))
    else (bd (X11_next h5) fun r6 h7 =>
    vl (((10 * v3) + r6) - 48) fun x8 =>
    vl (sI h7 0 22 ((h7.1 0 22) + 1)) fun h9 =>
    vl (v4 + 1) fun x10 =>
    (X11_readsDigits_l5 v1 v2 n) x8 x10 h9))
set_option maxRecDepth 100000 in
theorem aX11_readsDigits_l5 {X : MCx} {yd : Dyn} {A : Nat → Prop} (C : OK X cX11_readsDigits RX11 5 (some .boolean) rmX11_readsDigits A)  (v1 : Int32) (v2 : Int32) : ∀ (n : Nat) (v3 : Int32) (v4 : Int32) (h : AH), AW X 5 ZR yd A 0 0 (QF X rmX11_readsDigits ZR yd rvI A) 5 [(0, .ref 0), (1, .int v1), (2, .int v2), (3, .int v3), (4, .int v4)] [] h (X11_readsDigits_l5 v1 v2 n v3 v4 h) := by
  intro n
  induction n with
  | zero => intro v3 v4 h; exact aw_none
  | succ n ih =>
    intro v3 v4 h
    exact aw_iload (pc := 5) C (i := 4) dX11_readsDigits_5 rfl <|
    aw_iload_n (pc := 7) C (i := 2) dX11_readsDigits_7 rfl rfl <|
    aw_icmp_ge (pc := 8) C (tgt := 56) dX11_readsDigits_8 rfl (fun _ =>
    aw_aload_n (pc := 56) C (i := 0) dX11_readsDigits_56 rfl rfl <|
    aw_getR (pc := 57) C (b := 16) dX11_readsDigits_57 fl_X11_55 sR_0 rfl rR_0_20 <|
    aw_iload_n (pc := 60) C (i := 1) dX11_readsDigits_60 rfl rfl <|
    aw_iload_n (pc := 61) C (i := 3) dX11_readsDigits_61 rfl rfl <|
    aw_iast (pc := 62) C dX11_readsDigits_62 sR_16 rfl fun h1 =>
    aw_iconst (pc := 63) C (v := 1) dX11_readsDigits_63 rfl <|
    aw_zret (pc := 64) C dX11_readsDigits_64 rfl rfl) (fun _ =>
    aw_aload_n (pc := 11) C (i := 0) dX11_readsDigits_11 rfl rfl <|
    aw_callF (pc := 12) C (cr_V (rest := []) (F := X11_next) C (c_X11_next X.2.1 ) dX11_readsDigits_12 mf_X11_next ml_X11_122 im_X11_next se_X11_next sR_0 rfl ⟨(Nat.le_of_ble_eq_true rfl), (Nat.le_of_ble_eq_true rfl)⟩ rfl rfl (Nat.le_of_ble_eq_true rfl)) rfl rfl rfl (Nat.zero_le _) (Nat.zero_le _) fun r2 h3 =>
    aw_bipush (pc := 15) C (v := 48) dX11_readsDigits_15 rfl <|
    aw_bipush (pc := 17) C (v := 57) dX11_readsDigits_17 rfl <|
    aw_callF (pc := 19) C (cr_S (rest := []) (F := (X11_isIn r2 48 57)) C (c_X11_isIn X.2.1 r2 48 57) dX11_readsDigits_19 mf_X11_isIn ml_X11_126 st_X11_isIn ⟨(Nat.le_of_ble_eq_true rfl), (Nat.le_of_ble_eq_true rfl)⟩ rfl rfl (Nat.le_of_ble_eq_true rfl)) rfl rfl rfl (Nat.zero_le _) (Nat.zero_le _) fun r4 h5 =>
    aw_if_ne (pc := 22) C (tgt := 27) dX11_readsDigits_22 rfl (fun _ =>
    aw_iconst (pc := 25) C (v := 0) dX11_readsDigits_25 rfl <|
    aw_zret (pc := 26) C dX11_readsDigits_26 rfl rfl) (fun _ =>
    aw_bipush (pc := 27) C (v := 10) dX11_readsDigits_27 rfl <|
    aw_iload_n (pc := 29) C (i := 3) dX11_readsDigits_29 rfl rfl <|
    aw_imul (pc := 30) C dX11_readsDigits_30 <|
    aw_aload_n (pc := 31) C (i := 0) dX11_readsDigits_31 rfl rfl <|
    aw_callF (pc := 32) C (cr_V (rest := [.int (10 * v3)]) (F := X11_next) C (c_X11_next X.2.1 ) dX11_readsDigits_32 mf_X11_next ml_X11_122 im_X11_next se_X11_next sR_0 rfl ⟨(Nat.le_of_ble_eq_true rfl), (Nat.le_of_ble_eq_true rfl)⟩ rfl rfl (Nat.le_of_ble_eq_true rfl)) rfl rfl rfl (Nat.zero_le _) (Nat.zero_le _) fun r6 h7 =>
    aw_iadd (pc := 35) C dX11_readsDigits_35 <|
    aw_bipush (pc := 36) C (v := 48) dX11_readsDigits_36 rfl <|
    aw_isub (pc := 38) C dX11_readsDigits_38 <|
    aw_istoreV_n (pc := 39) C (i := 3) (fun x8 => [(0, .ref 0), (1, .int v1), (2, .int v2), (3, .int x8), (4, .int v4)]) dX11_readsDigits_39 rfl (by decide) (fun _ => rfl) fun x8 =>
    aw_aload_n (pc := 40) C (i := 0) dX11_readsDigits_40 rfl rfl <|
    aw_dup (pc := 41) C dX11_readsDigits_41 rfl <|
    aw_getI (pc := 42) C dX11_readsDigits_42 fl_X11_119 sR_0 rfl <|
    aw_iconst (pc := 45) C (v := 1) dX11_readsDigits_45 rfl <|
    aw_iadd (pc := 46) C dX11_readsDigits_46 <|
    aw_putI (pc := 47) C dX11_readsDigits_47 fp_X11_119 sR_0 rfl fun h9 =>
    aw_iincV (pc := 50) C (i := 4) (cst := 1) (fun x10 => [(0, .ref 0), (1, .int v1), (2, .int v2), (3, .int x8), (4, .int x10)]) dX11_readsDigits_50 rfl rfl (by decide) (fun _ => rfl) fun x10 =>
    aw_goto (pc := 53) C (tgt := 5) dX11_readsDigits_53 rfl <|
    (ih x8 x10 h9)))
def X11_readsDigits (v1 : Int32) (v2 : Int32) (h : AH) : Option (Int32 × AH) :=
    X11_readsDigits_l5 v1 v2 FU 0 0 h
set_option maxRecDepth 100000 in
theorem c_X11_readsDigits (l : Launch) (v1 : Int32) (v2 : Int32) : MC l yX11_readsDigits cX11_readsDigits 5 (some .boolean) rmX11_readsDigits ZR [.ref 0, .int v1, .int v2] rvI (X11_readsDigits v1 v2) :=
  MC.of (own := RX11) (by decide +kernel) rfl (Nat.le_of_ble_eq_true rfl) fun X yd A h _ C =>
    aw_iconst (pc := 0) C (v := 0) dX11_readsDigits_0 rfl <|
    aw_istore_n (pc := 1) C (i := 3) (lv' := [(0, .ref 0), (1, .int v1), (2, .int v2), (3, .int 0)]) dX11_readsDigits_1 rfl (by decide) rfl <|
    aw_iconst (pc := 2) C (v := 0) dX11_readsDigits_2 rfl <|
    aw_istore (pc := 3) C (i := 4) (lv' := [(0, .ref 0), (1, .int v1), (2, .int v2), (3, .int 0), (4, .int 0)]) dX11_readsDigits_3 (by decide) rfl <|
    (aX11_readsDigits_l5 C v1 v2 FU 0 0 h)

abbrev rmX11_readsWind : Room := { frames := 2, cells := 0, slots := 0, locals := 46 }
def X11_readsWind_j27  (v1 : Int32) (s0 : Int32) (h : AH) : Option (Int32 × AH) :=
    if s0 = 0 then (cz 0 (some (0, h)))
    else (vl (sI h 0 22 ((h.1 0 22) + 1)) fun h5 =>
    bd (X11_readsDigits v1 1 h5) fun r6 h7 =>
    if r6 = 0 then (cz 0 (some (0, h7)))
    else (ck v1 384 (ck v1 384 (vl (sI h7 16 v1.toNatClampNeg ((h7.1 16 v1.toNatClampNeg) * s0)) fun h8 =>
    cz 1 (some (1, h8))))))
set_option maxRecDepth 100000 in
theorem aX11_readsWind_j27 {X : MCx} {yd : Dyn} {A : Nat → Prop} (C : OK X cX11_readsWind RX11 3 (some .boolean) rmX11_readsWind A)  (v1 : Int32) (s0 : Int32) (h : AH) : AW X 3 ZR yd A 0 0 (QF X rmX11_readsWind ZR yd rvI A) 27 [(0, .ref 0), (1, .int v1)] [.int s0] h (X11_readsWind_j27 v1 s0 h) := by
    exact aw_istore_n (pc := 27) C (i := 2) (lv' := [(0, .ref 0), (1, .int v1), (2, .int s0)]) dX11_readsWind_27 rfl (by decide) rfl <|
    aw_iload_n (pc := 28) C (i := 2) dX11_readsWind_28 rfl rfl <|
    aw_if_ne (pc := 29) C (tgt := 34) dX11_readsWind_29 rfl (fun _ =>
    aw_iconst (pc := 32) C (v := 0) dX11_readsWind_32 rfl <|
    aw_zret (pc := 33) C dX11_readsWind_33 rfl rfl) (fun _ =>
    aw_aload_n (pc := 34) C (i := 0) dX11_readsWind_34 rfl rfl <|
    aw_dup (pc := 35) C dX11_readsWind_35 rfl <|
    aw_getI (pc := 36) C dX11_readsWind_36 fl_X11_119 sR_0 rfl <|
    aw_iconst (pc := 39) C (v := 1) dX11_readsWind_39 rfl <|
    aw_iadd (pc := 40) C dX11_readsWind_40 <|
    aw_putI (pc := 41) C dX11_readsWind_41 fp_X11_119 sR_0 rfl fun h5 =>
    aw_aload_n (pc := 44) C (i := 0) dX11_readsWind_44 rfl rfl <|
    aw_iload_n (pc := 45) C (i := 1) dX11_readsWind_45 rfl rfl <|
    aw_iconst (pc := 46) C (v := 1) dX11_readsWind_46 rfl <|
    aw_callF (pc := 47) C (cr_V (rest := []) (F := (X11_readsDigits v1 1)) C (c_X11_readsDigits X.2.1 v1 1) dX11_readsWind_47 mf_X11_readsDigits ml_X11_130 im_X11_readsDigits se_X11_readsDigits sR_0 rfl ⟨(Nat.le_of_ble_eq_true rfl), (Nat.le_of_ble_eq_true rfl)⟩ rfl rfl (Nat.le_of_ble_eq_true rfl)) rfl rfl rfl (Nat.zero_le _) (Nat.zero_le _) fun r6 h7 =>
    aw_if_ne (pc := 50) C (tgt := 55) dX11_readsWind_50 rfl (fun _ =>
    aw_iconst (pc := 53) C (v := 0) dX11_readsWind_53 rfl <|
    aw_zret (pc := 54) C dX11_readsWind_54 rfl rfl) (fun _ =>
    aw_aload_n (pc := 55) C (i := 0) dX11_readsWind_55 rfl rfl <|
    aw_getR (pc := 56) C (b := 16) dX11_readsWind_56 fl_X11_55 sR_0 rfl rR_0_20 <|
    aw_iload_n (pc := 59) C (i := 1) dX11_readsWind_59 rfl rfl <|
    aw_dup2 (pc := 60) C dX11_readsWind_60 rfl rfl <|
    aw_iald (pc := 61) C dX11_readsWind_61 sR_16 rfl <|
    aw_iload_n (pc := 62) C (i := 2) dX11_readsWind_62 rfl rfl <|
    aw_imul (pc := 63) C dX11_readsWind_63 <|
    aw_iast (pc := 64) C dX11_readsWind_64 sR_16 rfl fun h8 =>
    aw_iconst (pc := 65) C (v := 1) dX11_readsWind_65 rfl <|
    aw_zret (pc := 66) C dX11_readsWind_66 rfl rfl))
def X11_readsWind (v1 : Int32) (h : AH) : Option (Int32 × AH) :=
    bd (X11_next h) fun r1 h2 =>
    if r1 = 43 then (X11_readsWind_j27 v1 1 h2)
    else (bd (X11_next h2) fun r3 h4 =>
    if r3 = 45 then (X11_readsWind_j27 v1 (-1) h4)
    else (X11_readsWind_j27 v1 0 h4))
set_option maxRecDepth 100000 in
theorem c_X11_readsWind (l : Launch) (v1 : Int32) : MC l yX11_readsWind cX11_readsWind 3 (some .boolean) rmX11_readsWind ZR [.ref 0, .int v1] rvI (X11_readsWind v1) :=
  MC.of (own := RX11) (by decide +kernel) rfl (Nat.le_of_ble_eq_true rfl) fun X yd A h _ C =>
    aw_aload_n (pc := 0) C (i := 0) dX11_readsWind_0 rfl rfl <|
    aw_callF (pc := 1) C (cr_V (rest := []) (F := X11_next) C (c_X11_next X.2.1 ) dX11_readsWind_1 mf_X11_next ml_X11_122 im_X11_next se_X11_next sR_0 rfl ⟨(Nat.le_of_ble_eq_true rfl), (Nat.le_of_ble_eq_true rfl)⟩ rfl rfl (Nat.le_of_ble_eq_true rfl)) rfl rfl rfl (Nat.zero_le _) (Nat.zero_le _) fun r1 h2 =>
    aw_bipush (pc := 4) C (v := 43) dX11_readsWind_4 rfl <|
    aw_icmp_ne (pc := 6) C (tgt := 13) dX11_readsWind_6 rfl (fun _ =>
    aw_iconst (pc := 9) C (v := 1) dX11_readsWind_9 rfl <|
    aw_goto (pc := 10) C (tgt := 27) dX11_readsWind_10 rfl <|
    (aX11_readsWind_j27 C v1 1 h2)) (fun _ =>
    aw_aload_n (pc := 13) C (i := 0) dX11_readsWind_13 rfl rfl <|
    aw_callF (pc := 14) C (cr_V (rest := []) (F := X11_next) C (c_X11_next X.2.1 ) dX11_readsWind_14 mf_X11_next ml_X11_122 im_X11_next se_X11_next sR_0 rfl ⟨(Nat.le_of_ble_eq_true rfl), (Nat.le_of_ble_eq_true rfl)⟩ rfl rfl (Nat.le_of_ble_eq_true rfl)) rfl rfl rfl (Nat.zero_le _) (Nat.zero_le _) fun r3 h4 =>
    aw_bipush (pc := 17) C (v := 45) dX11_readsWind_17 rfl <|
    aw_icmp_ne (pc := 19) C (tgt := 26) dX11_readsWind_19 rfl (fun _ =>
    aw_iconst (pc := 22) C (v := (-1)) dX11_readsWind_22 rfl <|
    aw_goto (pc := 23) C (tgt := 27) dX11_readsWind_23 rfl <|
    (aX11_readsWind_j27 C v1 (-1) h4)) (fun _ =>
    aw_iconst (pc := 26) C (v := 0) dX11_readsWind_26 rfl <|
    (aX11_readsWind_j27 C v1 0 h4)))

abbrev rmX11_readsJumper : Room := { frames := 2, cells := 0, slots := 0, locals := 46 }
def X11_readsJumper (v1 : Int32) (h : AH) : Option (Int32 × AH) :=
    bd (X11_readsDigits v1 1 h) fun r1 h2 =>
    if r1 = 0 then (cz 0 (some (0, h2)))
    else (bd (X11_readsDigits (v1 + 1) 1 h2) fun r3 h4 =>
    if r3 = 0 then (cz 0 (some (0, h4)))
    else (bd (X11_readsDigits (v1 + 2) 2 h4) fun r5 h6 =>
    if r5 = 0 then (cz 0 (some (0, h6)))
    else (bd (X11_readsDigits (v1 + 3) 1 h6) fun r7 h8 =>
    if r7 = 0 then (cz 0 (some (0, h8)))
    else (bd (X11_readsDigits (v1 + 4) 1 h8) fun r9 h10 =>
    if r9 = 0 then (cz 0 (some (0, h10)))
    else (bd (X11_readsDigits (v1 + 5) 2 h10) fun r11 h12 =>
    if r11 = 0 then (cz 0 (some (0, h12)))
    else (bd (X11_readsDigits (v1 + 6) 1 h12) fun r13 h14 =>
    if r13 = 0 then (cz 0 (some (0, h14)))
    else (bd (X11_readsDigits (v1 + 7) 4 h14) fun r15 h16 =>
    if r15 = 0 then (cz 0 (some (0, h16)))
    else (cz 1 (some (1, h16))))))))))
set_option maxRecDepth 100000 in
theorem c_X11_readsJumper (l : Launch) (v1 : Int32) : MC l yX11_readsJumper cX11_readsJumper 2 (some .boolean) rmX11_readsJumper ZR [.ref 0, .int v1] rvI (X11_readsJumper v1) :=
  MC.of (own := RX11) (by decide +kernel) rfl (Nat.le_of_ble_eq_true rfl) fun X yd A h _ C =>
    aw_aload_n (pc := 0) C (i := 0) dX11_readsJumper_0 rfl rfl <|
    aw_iload_n (pc := 1) C (i := 1) dX11_readsJumper_1 rfl rfl <|
    aw_iconst (pc := 2) C (v := 1) dX11_readsJumper_2 rfl <|
    aw_callF (pc := 3) C (cr_V (rest := []) (F := (X11_readsDigits v1 1)) C (c_X11_readsDigits X.2.1 v1 1) dX11_readsJumper_3 mf_X11_readsDigits ml_X11_130 im_X11_readsDigits se_X11_readsDigits sR_0 rfl ⟨(Nat.le_of_ble_eq_true rfl), (Nat.le_of_ble_eq_true rfl)⟩ rfl rfl (Nat.le_of_ble_eq_true rfl)) rfl rfl rfl (Nat.zero_le _) (Nat.zero_le _) fun r1 h2 =>
    aw_if_eq (pc := 6) C (tgt := 92) dX11_readsJumper_6 rfl (fun _ =>
    aw_iconst (pc := 92) C (v := 0) dX11_readsJumper_92 rfl <|
    aw_zret (pc := 93) C dX11_readsJumper_93 rfl rfl) (fun _ =>
    aw_aload_n (pc := 9) C (i := 0) dX11_readsJumper_9 rfl rfl <|
    aw_iload_n (pc := 10) C (i := 1) dX11_readsJumper_10 rfl rfl <|
    aw_iconst (pc := 11) C (v := 1) dX11_readsJumper_11 rfl <|
    aw_iadd (pc := 12) C dX11_readsJumper_12 <|
    aw_iconst (pc := 13) C (v := 1) dX11_readsJumper_13 rfl <|
    aw_callF (pc := 14) C (cr_V (rest := []) (F := (X11_readsDigits (v1 + 1) 1)) C (c_X11_readsDigits X.2.1 (v1 + 1) 1) dX11_readsJumper_14 mf_X11_readsDigits ml_X11_130 im_X11_readsDigits se_X11_readsDigits sR_0 rfl ⟨(Nat.le_of_ble_eq_true rfl), (Nat.le_of_ble_eq_true rfl)⟩ rfl rfl (Nat.le_of_ble_eq_true rfl)) rfl rfl rfl (Nat.zero_le _) (Nat.zero_le _) fun r3 h4 =>
    aw_if_eq (pc := 17) C (tgt := 92) dX11_readsJumper_17 rfl (fun _ =>
    aw_iconst (pc := 92) C (v := 0) dX11_readsJumper_92 rfl <|
    aw_zret (pc := 93) C dX11_readsJumper_93 rfl rfl) (fun _ =>
    aw_aload_n (pc := 20) C (i := 0) dX11_readsJumper_20 rfl rfl <|
    aw_iload_n (pc := 21) C (i := 1) dX11_readsJumper_21 rfl rfl <|
    aw_iconst (pc := 22) C (v := 2) dX11_readsJumper_22 rfl <|
    aw_iadd (pc := 23) C dX11_readsJumper_23 <|
    aw_iconst (pc := 24) C (v := 2) dX11_readsJumper_24 rfl <|
    aw_callF (pc := 25) C (cr_V (rest := []) (F := (X11_readsDigits (v1 + 2) 2)) C (c_X11_readsDigits X.2.1 (v1 + 2) 2) dX11_readsJumper_25 mf_X11_readsDigits ml_X11_130 im_X11_readsDigits se_X11_readsDigits sR_0 rfl ⟨(Nat.le_of_ble_eq_true rfl), (Nat.le_of_ble_eq_true rfl)⟩ rfl rfl (Nat.le_of_ble_eq_true rfl)) rfl rfl rfl (Nat.zero_le _) (Nat.zero_le _) fun r5 h6 =>
    aw_if_eq (pc := 28) C (tgt := 92) dX11_readsJumper_28 rfl (fun _ =>
    aw_iconst (pc := 92) C (v := 0) dX11_readsJumper_92 rfl <|
    aw_zret (pc := 93) C dX11_readsJumper_93 rfl rfl) (fun _ =>
    aw_aload_n (pc := 31) C (i := 0) dX11_readsJumper_31 rfl rfl <|
    aw_iload_n (pc := 32) C (i := 1) dX11_readsJumper_32 rfl rfl <|
    aw_iconst (pc := 33) C (v := 3) dX11_readsJumper_33 rfl <|
    aw_iadd (pc := 34) C dX11_readsJumper_34 <|
    aw_iconst (pc := 35) C (v := 1) dX11_readsJumper_35 rfl <|
    aw_callF (pc := 36) C (cr_V (rest := []) (F := (X11_readsDigits (v1 + 3) 1)) C (c_X11_readsDigits X.2.1 (v1 + 3) 1) dX11_readsJumper_36 mf_X11_readsDigits ml_X11_130 im_X11_readsDigits se_X11_readsDigits sR_0 rfl ⟨(Nat.le_of_ble_eq_true rfl), (Nat.le_of_ble_eq_true rfl)⟩ rfl rfl (Nat.le_of_ble_eq_true rfl)) rfl rfl rfl (Nat.zero_le _) (Nat.zero_le _) fun r7 h8 =>
    aw_if_eq (pc := 39) C (tgt := 92) dX11_readsJumper_39 rfl (fun _ =>
    aw_iconst (pc := 92) C (v := 0) dX11_readsJumper_92 rfl <|
    aw_zret (pc := 93) C dX11_readsJumper_93 rfl rfl) (fun _ =>
    aw_aload_n (pc := 42) C (i := 0) dX11_readsJumper_42 rfl rfl <|
    aw_iload_n (pc := 43) C (i := 1) dX11_readsJumper_43 rfl rfl <|
    aw_iconst (pc := 44) C (v := 4) dX11_readsJumper_44 rfl <|
    aw_iadd (pc := 45) C dX11_readsJumper_45 <|
    aw_iconst (pc := 46) C (v := 1) dX11_readsJumper_46 rfl <|
    aw_callF (pc := 47) C (cr_V (rest := []) (F := (X11_readsDigits (v1 + 4) 1)) C (c_X11_readsDigits X.2.1 (v1 + 4) 1) dX11_readsJumper_47 mf_X11_readsDigits ml_X11_130 im_X11_readsDigits se_X11_readsDigits sR_0 rfl ⟨(Nat.le_of_ble_eq_true rfl), (Nat.le_of_ble_eq_true rfl)⟩ rfl rfl (Nat.le_of_ble_eq_true rfl)) rfl rfl rfl (Nat.zero_le _) (Nat.zero_le _) fun r9 h10 =>
    aw_if_eq (pc := 50) C (tgt := 92) dX11_readsJumper_50 rfl (fun _ =>
    aw_iconst (pc := 92) C (v := 0) dX11_readsJumper_92 rfl <|
    aw_zret (pc := 93) C dX11_readsJumper_93 rfl rfl) (fun _ =>
    aw_aload_n (pc := 53) C (i := 0) dX11_readsJumper_53 rfl rfl <|
    aw_iload_n (pc := 54) C (i := 1) dX11_readsJumper_54 rfl rfl <|
    aw_iconst (pc := 55) C (v := 5) dX11_readsJumper_55 rfl <|
    aw_iadd (pc := 56) C dX11_readsJumper_56 <|
    aw_iconst (pc := 57) C (v := 2) dX11_readsJumper_57 rfl <|
    aw_callF (pc := 58) C (cr_V (rest := []) (F := (X11_readsDigits (v1 + 5) 2)) C (c_X11_readsDigits X.2.1 (v1 + 5) 2) dX11_readsJumper_58 mf_X11_readsDigits ml_X11_130 im_X11_readsDigits se_X11_readsDigits sR_0 rfl ⟨(Nat.le_of_ble_eq_true rfl), (Nat.le_of_ble_eq_true rfl)⟩ rfl rfl (Nat.le_of_ble_eq_true rfl)) rfl rfl rfl (Nat.zero_le _) (Nat.zero_le _) fun r11 h12 =>
    aw_if_eq (pc := 61) C (tgt := 92) dX11_readsJumper_61 rfl (fun _ =>
    aw_iconst (pc := 92) C (v := 0) dX11_readsJumper_92 rfl <|
    aw_zret (pc := 93) C dX11_readsJumper_93 rfl rfl) (fun _ =>
    aw_aload_n (pc := 64) C (i := 0) dX11_readsJumper_64 rfl rfl <|
    aw_iload_n (pc := 65) C (i := 1) dX11_readsJumper_65 rfl rfl <|
    aw_bipush (pc := 66) C (v := 6) dX11_readsJumper_66 rfl <|
    aw_iadd (pc := 68) C dX11_readsJumper_68 <|
    aw_iconst (pc := 69) C (v := 1) dX11_readsJumper_69 rfl <|
    aw_callF (pc := 70) C (cr_V (rest := []) (F := (X11_readsDigits (v1 + 6) 1)) C (c_X11_readsDigits X.2.1 (v1 + 6) 1) dX11_readsJumper_70 mf_X11_readsDigits ml_X11_130 im_X11_readsDigits se_X11_readsDigits sR_0 rfl ⟨(Nat.le_of_ble_eq_true rfl), (Nat.le_of_ble_eq_true rfl)⟩ rfl rfl (Nat.le_of_ble_eq_true rfl)) rfl rfl rfl (Nat.zero_le _) (Nat.zero_le _) fun r13 h14 =>
    aw_if_eq (pc := 73) C (tgt := 92) dX11_readsJumper_73 rfl (fun _ =>
    aw_iconst (pc := 92) C (v := 0) dX11_readsJumper_92 rfl <|
    aw_zret (pc := 93) C dX11_readsJumper_93 rfl rfl) (fun _ =>
    aw_aload_n (pc := 76) C (i := 0) dX11_readsJumper_76 rfl rfl <|
    aw_iload_n (pc := 77) C (i := 1) dX11_readsJumper_77 rfl rfl <|
    aw_bipush (pc := 78) C (v := 7) dX11_readsJumper_78 rfl <|
    aw_iadd (pc := 80) C dX11_readsJumper_80 <|
    aw_iconst (pc := 81) C (v := 4) dX11_readsJumper_81 rfl <|
    aw_callF (pc := 82) C (cr_V (rest := []) (F := (X11_readsDigits (v1 + 7) 4)) C (c_X11_readsDigits X.2.1 (v1 + 7) 4) dX11_readsJumper_82 mf_X11_readsDigits ml_X11_130 im_X11_readsDigits se_X11_readsDigits sR_0 rfl ⟨(Nat.le_of_ble_eq_true rfl), (Nat.le_of_ble_eq_true rfl)⟩ rfl rfl (Nat.le_of_ble_eq_true rfl)) rfl rfl rfl (Nat.zero_le _) (Nat.zero_le _) fun r15 h16 =>
    aw_if_eq (pc := 85) C (tgt := 92) dX11_readsJumper_85 rfl (fun _ =>
    aw_iconst (pc := 92) C (v := 0) dX11_readsJumper_92 rfl <|
    aw_zret (pc := 93) C dX11_readsJumper_93 rfl rfl) (fun _ =>
    aw_iconst (pc := 88) C (v := 1) dX11_readsJumper_88 rfl <|
    aw_goto (pc := 89) C (tgt := 93) dX11_readsJumper_89 rfl <|
    aw_zret (pc := 93) C dX11_readsJumper_93 rfl rfl))))))))

abbrev rmX11_readsAll : Room := { frames := 3, cells := 0, slots := 0, locals := 68 }
def X11_readsAll (v1 : Int32) (v2 : Int32) (h : AH) : Option (Int32 × AH) :=
    vl v1 fun y1 =>
    if y1 = 103 then (bd (X11_readsDigits v2 1 h) fun r2 h3 =>
    cz r2 (some (r2, h3)))
    else if y1 = 106 then (bd (X11_readsJumper v2 h) fun r5 h6 =>
    cz r5 (some (r5, h6)))
    else if y1 = 110 then (bd (X11_readsDigits v2 2 h) fun r8 h9 =>
    cz r8 (some (r8, h9)))
    else if y1 = 116 then (bd (X11_readsDigits v2 2 h) fun r11 h12 =>
    cz r11 (some (r11, h12)))
    else if y1 = 119 then (bd (X11_readsWind v2 h) fun r14 h15 =>
    cz r14 (some (r14, h15)))
    else (cz 1 (some (1, h)))
set_option maxRecDepth 100000 in
theorem c_X11_readsAll (l : Launch) (v1 : Int32) (v2 : Int32) : MC l yX11_readsAll cX11_readsAll 3 (some .boolean) rmX11_readsAll ZR [.ref 0, .int v1, .int v2] rvI (X11_readsAll v1 v2) :=
  MC.of (own := RX11) (by decide +kernel) rfl (Nat.le_of_ble_eq_true rfl) fun X yd A h _ C =>
    aw_iload_n (pc := 0) C (i := 1) dX11_readsAll_0 rfl rfl <|
    aw_vlI fun y1 =>
    aw_if (fun c4 => aw_lsw (pc := 1) C (off := 64) (tg := 65) dX11_readsAll_1 (by decide) (by rw [c4]; rfl) rfl (aw_aload_n (pc := 65) C (i := 0) dX11_readsAll_65 rfl rfl <|
    aw_iload_n (pc := 66) C (i := 2) dX11_readsAll_66 rfl rfl <|
    aw_iconst (pc := 67) C (v := 1) dX11_readsAll_67 rfl <|
    aw_callF (pc := 68) C (cr_V (rest := []) (F := (X11_readsDigits v2 1)) C (c_X11_readsDigits X.2.1 v2 1) dX11_readsAll_68 mf_X11_readsDigits ml_X11_130 im_X11_readsDigits se_X11_readsDigits sR_0 rfl ⟨(Nat.le_of_ble_eq_true rfl), (Nat.le_of_ble_eq_true rfl)⟩ rfl rfl (Nat.le_of_ble_eq_true rfl)) rfl rfl rfl (Nat.zero_le _) (Nat.zero_le _) fun r2 h3 =>
    aw_zret (pc := 71) C dX11_readsAll_71 rfl rfl)) (fun c4 =>
    aw_if (fun c7 => aw_lsw (pc := 1) C (off := 71) (tg := 72) dX11_readsAll_1 (by decide) (by rw [c7]; rfl) rfl (aw_aload_n (pc := 72) C (i := 0) dX11_readsAll_72 rfl rfl <|
    aw_iload_n (pc := 73) C (i := 2) dX11_readsAll_73 rfl rfl <|
    aw_callF (pc := 74) C (cr_V (rest := []) (F := (X11_readsJumper v2)) C (c_X11_readsJumper X.2.1 v2) dX11_readsAll_74 mf_X11_readsJumper ml_X11_138 im_X11_readsJumper se_X11_readsJumper sR_0 rfl ⟨(Nat.le_of_ble_eq_true rfl), (Nat.le_of_ble_eq_true rfl)⟩ rfl rfl (Nat.le_of_ble_eq_true rfl)) rfl rfl rfl (Nat.zero_le _) (Nat.zero_le _) fun r5 h6 =>
    aw_zret (pc := 77) C dX11_readsAll_77 rfl rfl)) (fun c7 =>
    aw_if (fun c10 => aw_lsw (pc := 1) C (off := 51) (tg := 52) dX11_readsAll_1 (by decide) (by rw [c10]; rfl) rfl (aw_aload_n (pc := 52) C (i := 0) dX11_readsAll_52 rfl rfl <|
    aw_iload_n (pc := 53) C (i := 2) dX11_readsAll_53 rfl rfl <|
    aw_iconst (pc := 54) C (v := 2) dX11_readsAll_54 rfl <|
    aw_callF (pc := 55) C (cr_V (rest := []) (F := (X11_readsDigits v2 2)) C (c_X11_readsDigits X.2.1 v2 2) dX11_readsAll_55 mf_X11_readsDigits ml_X11_130 im_X11_readsDigits se_X11_readsDigits sR_0 rfl ⟨(Nat.le_of_ble_eq_true rfl), (Nat.le_of_ble_eq_true rfl)⟩ rfl rfl (Nat.le_of_ble_eq_true rfl)) rfl rfl rfl (Nat.zero_le _) (Nat.zero_le _) fun r8 h9 =>
    aw_zret (pc := 58) C dX11_readsAll_58 rfl rfl)) (fun c10 =>
    aw_if (fun c13 => aw_lsw (pc := 1) C (off := 51) (tg := 52) dX11_readsAll_1 (by decide) (by rw [c13]; rfl) rfl (aw_aload_n (pc := 52) C (i := 0) dX11_readsAll_52 rfl rfl <|
    aw_iload_n (pc := 53) C (i := 2) dX11_readsAll_53 rfl rfl <|
    aw_iconst (pc := 54) C (v := 2) dX11_readsAll_54 rfl <|
    aw_callF (pc := 55) C (cr_V (rest := []) (F := (X11_readsDigits v2 2)) C (c_X11_readsDigits X.2.1 v2 2) dX11_readsAll_55 mf_X11_readsDigits ml_X11_130 im_X11_readsDigits se_X11_readsDigits sR_0 rfl ⟨(Nat.le_of_ble_eq_true rfl), (Nat.le_of_ble_eq_true rfl)⟩ rfl rfl (Nat.le_of_ble_eq_true rfl)) rfl rfl rfl (Nat.zero_le _) (Nat.zero_le _) fun r11 h12 =>
    aw_zret (pc := 58) C dX11_readsAll_58 rfl rfl)) (fun c13 =>
    aw_if (fun c16 => aw_lsw (pc := 1) C (off := 58) (tg := 59) dX11_readsAll_1 (by decide) (by rw [c16]; rfl) rfl (aw_aload_n (pc := 59) C (i := 0) dX11_readsAll_59 rfl rfl <|
    aw_iload_n (pc := 60) C (i := 2) dX11_readsAll_60 rfl rfl <|
    aw_callF (pc := 61) C (cr_V (rest := []) (F := (X11_readsWind v2)) C (c_X11_readsWind X.2.1 v2) dX11_readsAll_61 mf_X11_readsWind ml_X11_134 im_X11_readsWind se_X11_readsWind sR_0 rfl ⟨(Nat.le_of_ble_eq_true rfl), (Nat.le_of_ble_eq_true rfl)⟩ rfl rfl (Nat.le_of_ble_eq_true rfl)) rfl rfl rfl (Nat.zero_le _) (Nat.zero_le _) fun r14 h15 =>
    aw_zret (pc := 64) C dX11_readsAll_64 rfl rfl)) (fun c16 =>
    aw_lsw (pc := 1) C (off := 77) (tg := 78) dX11_readsAll_1 (by decide) (by exact lswD [103, 106, 110, 116, 119] (List.forall_mem_cons.mpr ⟨ti_ne c4 rfl, List.forall_mem_cons.mpr ⟨ti_ne c7 rfl, List.forall_mem_cons.mpr ⟨ti_ne c10 rfl, List.forall_mem_cons.mpr ⟨ti_ne c13 rfl, List.forall_mem_cons.mpr ⟨ti_ne c16 rfl, fun _ hz => by cases hz⟩⟩⟩⟩⟩) (by decide)) rfl (aw_iconst (pc := 78) C (v := 1) dX11_readsAll_78 rfl <|
    aw_zret (pc := 79) C dX11_readsAll_79 rfl rfl))))))

abbrev rmX11_statement : Room := { frames := 4, cells := 0, slots := 0, locals := 90 }
def X11_statement_j49  (v1 : Int32) (h : AH) : Option (Int32 × AH) :=
    ck (h.1 0 23) 48 (vl (sI h 14 (h.1 0 23).toNatClampNeg v1) fun h3 =>
    ck (h3.1 0 23) 48 (vl (sI h3 15 (h3.1 0 23).toNatClampNeg (h3.1 0 22)) fun h4 =>
    vl (sI h4 0 22 ((h4.1 0 22) + 1)) fun h5 =>
    bd (X11_readsAll v1 (8 * (h5.1 0 23)) h5) fun r6 h7 =>
    if r6 = 0 then (cz 0 (some (0, h7)))
    else (bd (X11_next h7) fun r8 h9 =>
    if r8 = 59 then (vl (sI h9 0 22 ((h9.1 0 22) + 1)) fun h10 =>
    cz 1 (some (1, h10)))
    else (cz 0 (some (0, h9))))))
set_option maxRecDepth 100000 in
theorem aX11_statement_j49 {X : MCx} {yd : Dyn} {A : Nat → Prop} (C : OK X cX11_statement RX11 2 (some .boolean) rmX11_statement A)  (v1 : Int32) (h : AH) : AW X 2 ZR yd A 0 0 (QF X rmX11_statement ZR yd rvI A) 49 [(0, .ref 0), (1, .int v1)] [] h (X11_statement_j49 v1 h) := by
    exact aw_aload_n (pc := 49) C (i := 0) dX11_statement_49 rfl rfl <|
    aw_getR (pc := 50) C (b := 14) dX11_statement_50 fl_X11_49 sR_0 rfl rR_0_18 <|
    aw_aload_n (pc := 53) C (i := 0) dX11_statement_53 rfl rfl <|
    aw_getI (pc := 54) C dX11_statement_54 fl_X11_141 sR_0 rfl <|
    aw_iload_n (pc := 57) C (i := 1) dX11_statement_57 rfl rfl <|
    aw_iast (pc := 58) C dX11_statement_58 sR_14 rfl fun h3 =>
    aw_aload_n (pc := 59) C (i := 0) dX11_statement_59 rfl rfl <|
    aw_getR (pc := 60) C (b := 15) dX11_statement_60 fl_X11_52 sR_0 rfl rR_0_19 <|
    aw_aload_n (pc := 63) C (i := 0) dX11_statement_63 rfl rfl <|
    aw_getI (pc := 64) C dX11_statement_64 fl_X11_141 sR_0 rfl <|
    aw_aload_n (pc := 67) C (i := 0) dX11_statement_67 rfl rfl <|
    aw_getI (pc := 68) C dX11_statement_68 fl_X11_119 sR_0 rfl <|
    aw_iast (pc := 71) C dX11_statement_71 sR_15 rfl fun h4 =>
    aw_aload_n (pc := 72) C (i := 0) dX11_statement_72 rfl rfl <|
    aw_dup (pc := 73) C dX11_statement_73 rfl <|
    aw_getI (pc := 74) C dX11_statement_74 fl_X11_119 sR_0 rfl <|
    aw_iconst (pc := 77) C (v := 1) dX11_statement_77 rfl <|
    aw_iadd (pc := 78) C dX11_statement_78 <|
    aw_putI (pc := 79) C dX11_statement_79 fp_X11_119 sR_0 rfl fun h5 =>
    aw_aload_n (pc := 82) C (i := 0) dX11_statement_82 rfl rfl <|
    aw_iload_n (pc := 83) C (i := 1) dX11_statement_83 rfl rfl <|
    aw_bipush (pc := 84) C (v := 8) dX11_statement_84 rfl <|
    aw_aload_n (pc := 86) C (i := 0) dX11_statement_86 rfl rfl <|
    aw_getI (pc := 87) C dX11_statement_87 fl_X11_141 sR_0 rfl <|
    aw_imul (pc := 90) C dX11_statement_90 <|
    aw_callF (pc := 91) C (cr_V (rest := []) (F := (X11_readsAll v1 (8 * (h5.1 0 23)))) C (c_X11_readsAll X.2.1 v1 (8 * (h5.1 0 23))) dX11_statement_91 mf_X11_readsAll ml_X11_144 im_X11_readsAll se_X11_readsAll sR_0 rfl ⟨(Nat.le_of_ble_eq_true rfl), (Nat.le_of_ble_eq_true rfl)⟩ rfl rfl (Nat.le_of_ble_eq_true rfl)) rfl rfl rfl (Nat.zero_le _) (Nat.zero_le _) fun r6 h7 =>
    aw_if_eq (pc := 94) C (tgt := 106) dX11_statement_94 rfl (fun _ =>
    aw_iconst (pc := 106) C (v := 0) dX11_statement_106 rfl <|
    aw_zret (pc := 107) C dX11_statement_107 rfl rfl) (fun _ =>
    aw_aload_n (pc := 97) C (i := 0) dX11_statement_97 rfl rfl <|
    aw_callF (pc := 98) C (cr_V (rest := []) (F := X11_next) C (c_X11_next X.2.1 ) dX11_statement_98 mf_X11_next ml_X11_122 im_X11_next se_X11_next sR_0 rfl ⟨(Nat.le_of_ble_eq_true rfl), (Nat.le_of_ble_eq_true rfl)⟩ rfl rfl (Nat.le_of_ble_eq_true rfl)) rfl rfl rfl (Nat.zero_le _) (Nat.zero_le _) fun r8 h9 =>
    aw_bipush (pc := 101) C (v := 59) dX11_statement_101 rfl <|
    aw_icmp_eq (pc := 103) C (tgt := 108) dX11_statement_103 rfl (fun _ =>
    aw_aload_n (pc := 108) C (i := 0) dX11_statement_108 rfl rfl <|
    aw_dup (pc := 109) C dX11_statement_109 rfl <|
    aw_getI (pc := 110) C dX11_statement_110 fl_X11_119 sR_0 rfl <|
    aw_iconst (pc := 113) C (v := 1) dX11_statement_113 rfl <|
    aw_iadd (pc := 114) C dX11_statement_114 <|
    aw_putI (pc := 115) C dX11_statement_115 fp_X11_119 sR_0 rfl fun h10 =>
    aw_iconst (pc := 118) C (v := 1) dX11_statement_118 rfl <|
    aw_zret (pc := 119) C dX11_statement_119 rfl rfl) (fun _ =>
    aw_iconst (pc := 106) C (v := 0) dX11_statement_106 rfl <|
    aw_zret (pc := 107) C dX11_statement_107 rfl rfl))
def X11_statement  (h : AH) : Option (Int32 × AH) :=
    bd (X11_next h) fun r1 h2 =>
    if r1 = 110 then (X11_statement_j49 r1 h2)
    else (if r1 = 119 then (X11_statement_j49 r1 h2)
    else (if r1 = 103 then (X11_statement_j49 r1 h2)
    else (if r1 = 106 then (X11_statement_j49 r1 h2)
    else (if r1 = 116 then (X11_statement_j49 r1 h2)
    else (if r1 = 102 then (X11_statement_j49 r1 h2)
    else (if r1 = 112 then (X11_statement_j49 r1 h2)
    else (cz 0 (some (0, h2)))))))))
set_option maxRecDepth 100000 in
theorem c_X11_statement (l : Launch)  : MC l yX11_statement cX11_statement 2 (some .boolean) rmX11_statement ZR [.ref 0] rvI (X11_statement) :=
  MC.of (own := RX11) (by decide +kernel) rfl (Nat.le_of_ble_eq_true rfl) fun X yd A h _ C =>
    aw_aload_n (pc := 0) C (i := 0) dX11_statement_0 rfl rfl <|
    aw_callF (pc := 1) C (cr_V (rest := []) (F := X11_next) C (c_X11_next X.2.1 ) dX11_statement_1 mf_X11_next ml_X11_122 im_X11_next se_X11_next sR_0 rfl ⟨(Nat.le_of_ble_eq_true rfl), (Nat.le_of_ble_eq_true rfl)⟩ rfl rfl (Nat.le_of_ble_eq_true rfl)) rfl rfl rfl (Nat.zero_le _) (Nat.zero_le _) fun r1 h2 =>
    aw_istore_n (pc := 4) C (i := 1) (lv' := [(0, .ref 0), (1, .int r1)]) dX11_statement_4 rfl (by decide) rfl <|
    aw_iload_n (pc := 5) C (i := 1) dX11_statement_5 rfl rfl <|
    aw_bipush (pc := 6) C (v := 110) dX11_statement_6 rfl <|
    aw_icmp_eq (pc := 8) C (tgt := 49) dX11_statement_8 rfl (fun _ =>
    (aX11_statement_j49 C r1 h2)) (fun _ =>
    aw_iload_n (pc := 11) C (i := 1) dX11_statement_11 rfl rfl <|
    aw_bipush (pc := 12) C (v := 119) dX11_statement_12 rfl <|
    aw_icmp_eq (pc := 14) C (tgt := 49) dX11_statement_14 rfl (fun _ =>
    (aX11_statement_j49 C r1 h2)) (fun _ =>
    aw_iload_n (pc := 17) C (i := 1) dX11_statement_17 rfl rfl <|
    aw_bipush (pc := 18) C (v := 103) dX11_statement_18 rfl <|
    aw_icmp_eq (pc := 20) C (tgt := 49) dX11_statement_20 rfl (fun _ =>
    (aX11_statement_j49 C r1 h2)) (fun _ =>
    aw_iload_n (pc := 23) C (i := 1) dX11_statement_23 rfl rfl <|
    aw_bipush (pc := 24) C (v := 106) dX11_statement_24 rfl <|
    aw_icmp_eq (pc := 26) C (tgt := 49) dX11_statement_26 rfl (fun _ =>
    (aX11_statement_j49 C r1 h2)) (fun _ =>
    aw_iload_n (pc := 29) C (i := 1) dX11_statement_29 rfl rfl <|
    aw_bipush (pc := 30) C (v := 116) dX11_statement_30 rfl <|
    aw_icmp_eq (pc := 32) C (tgt := 49) dX11_statement_32 rfl (fun _ =>
    (aX11_statement_j49 C r1 h2)) (fun _ =>
    aw_iload_n (pc := 35) C (i := 1) dX11_statement_35 rfl rfl <|
    aw_bipush (pc := 36) C (v := 102) dX11_statement_36 rfl <|
    aw_icmp_eq (pc := 38) C (tgt := 49) dX11_statement_38 rfl (fun _ =>
    (aX11_statement_j49 C r1 h2)) (fun _ =>
    aw_iload_n (pc := 41) C (i := 1) dX11_statement_41 rfl rfl <|
    aw_bipush (pc := 42) C (v := 112) dX11_statement_42 rfl <|
    aw_icmp_eq (pc := 44) C (tgt := 49) dX11_statement_44 rfl (fun _ =>
    (aX11_statement_j49 C r1 h2)) (fun _ =>
    aw_iconst (pc := 47) C (v := 0) dX11_statement_47 rfl <|
    aw_zret (pc := 48) C dX11_statement_48 rfl rfl)))))))

abbrev rmX11_comesJumper : Room := { frames := 0, cells := 0, slots := 0, locals := 0 }
def X11_comesJumper (v1 : Int32) (h : AH) : Option (Int32 × AH) :=
    ck v1 384 (if 5 < (h.1 16 v1.toNatClampNeg) then (cz 0 (some (0, h)))
    else (ck (v1 + 2) 384 (if (h.1 16 (v1 + 2).toNatClampNeg) < 40 then (cz 0 (some (0, h)))
    else (ck (v1 + 4) 384 (if 6 < (h.1 16 (v1 + 4).toNatClampNeg) then (cz 0 (some (0, h)))
    else (ck (v1 + 5) 384 (if (h.1 16 (v1 + 5).toNatClampNeg) < 20 then (cz 0 (some (0, h)))
    else (ck (v1 + 6) 384 (if 4 < (h.1 16 (v1 + 6).toNatClampNeg) then (cz 0 (some (0, h)))
    else (ck (v1 + 7) 384 (if 2400 < (h.1 16 (v1 + 7).toNatClampNeg) then (cz 0 (some (0, h)))
    else (if (h.1 0 15) = 4 then (cz 0 (some (0, h)))
    else (if (h.1 0 16) ≤ 0 then (ck v1 384 (ck (h.1 0 15) 4 (vl (sI h 2 (h.1 0 15).toNatClampNeg (h.1 16 v1.toNatClampNeg)) fun h1 =>
    ck (v1 + 1) 384 (ck (h1.1 0 15) 4 (vl (sI h1 3 (h1.1 0 15).toNatClampNeg (h1.1 16 (v1 + 1).toNatClampNeg)) fun h2 =>
    ck (v1 + 2) 384 (ck (h2.1 0 15) 4 (vl (sI h2 4 (h2.1 0 15).toNatClampNeg (h2.1 16 (v1 + 2).toNatClampNeg)) fun h3 =>
    ck (v1 + 3) 384 (ck (h3.1 0 15) 4 (vl (sI h3 5 (h3.1 0 15).toNatClampNeg (h3.1 16 (v1 + 3).toNatClampNeg)) fun h4 =>
    ck (v1 + 4) 384 (ck (h4.1 0 15) 4 (vl (sI h4 6 (h4.1 0 15).toNatClampNeg (h4.1 16 (v1 + 4).toNatClampNeg)) fun h5 =>
    ck (v1 + 5) 384 (ck (h5.1 0 15) 4 (vl (sI h5 7 (h5.1 0 15).toNatClampNeg (h5.1 16 (v1 + 5).toNatClampNeg)) fun h6 =>
    ck (v1 + 6) 384 (ck (h6.1 0 15) 4 (vl (sI h6 8 (h6.1 0 15).toNatClampNeg (h6.1 16 (v1 + 6).toNatClampNeg)) fun h7 =>
    ck (v1 + 7) 384 (ck (h7.1 0 15) 4 (vl (sI h7 9 (h7.1 0 15).toNatClampNeg (h7.1 16 (v1 + 7).toNatClampNeg)) fun h8 =>
    vl (sI h8 0 15 ((h8.1 0 15) + 1)) fun h9 =>
    cz 1 (some (1, h9)))))))))))))))))))
    else (cz 0 (some (0, h))))))))))))))))
set_option maxRecDepth 100000 in
theorem c_X11_comesJumper (l : Launch) (v1 : Int32) : MC l yX11_comesJumper cX11_comesJumper 2 (some .boolean) rmX11_comesJumper ZR [.ref 0, .int v1] rvI (X11_comesJumper v1) :=
  MC.of (own := RX11) (by decide +kernel) rfl (Nat.le_of_ble_eq_true rfl) fun X yd A h _ C =>
    aw_aload_n (pc := 0) C (i := 0) dX11_comesJumper_0 rfl rfl <|
    aw_getR (pc := 1) C (b := 16) dX11_comesJumper_1 fl_X11_55 sR_0 rfl rR_0_20 <|
    aw_iload_n (pc := 4) C (i := 1) dX11_comesJumper_4 rfl rfl <|
    aw_iald (pc := 5) C dX11_comesJumper_5 sR_16 rfl <|
    aw_iconst (pc := 6) C (v := 5) dX11_comesJumper_6 rfl <|
    aw_icmp_gt (pc := 7) C (tgt := 92) dX11_comesJumper_7 rfl (fun _ =>
    aw_iconst (pc := 92) C (v := 0) dX11_comesJumper_92 rfl <|
    aw_zret (pc := 93) C dX11_comesJumper_93 rfl rfl) (fun _ =>
    aw_aload_n (pc := 10) C (i := 0) dX11_comesJumper_10 rfl rfl <|
    aw_getR (pc := 11) C (b := 16) dX11_comesJumper_11 fl_X11_55 sR_0 rfl rR_0_20 <|
    aw_iload_n (pc := 14) C (i := 1) dX11_comesJumper_14 rfl rfl <|
    aw_iconst (pc := 15) C (v := 2) dX11_comesJumper_15 rfl <|
    aw_iadd (pc := 16) C dX11_comesJumper_16 <|
    aw_iald (pc := 17) C dX11_comesJumper_17 sR_16 rfl <|
    aw_bipush (pc := 18) C (v := 40) dX11_comesJumper_18 rfl <|
    aw_icmp_lt (pc := 20) C (tgt := 92) dX11_comesJumper_20 rfl (fun _ =>
    aw_iconst (pc := 92) C (v := 0) dX11_comesJumper_92 rfl <|
    aw_zret (pc := 93) C dX11_comesJumper_93 rfl rfl) (fun _ =>
    aw_aload_n (pc := 23) C (i := 0) dX11_comesJumper_23 rfl rfl <|
    aw_getR (pc := 24) C (b := 16) dX11_comesJumper_24 fl_X11_55 sR_0 rfl rR_0_20 <|
    aw_iload_n (pc := 27) C (i := 1) dX11_comesJumper_27 rfl rfl <|
    aw_iconst (pc := 28) C (v := 4) dX11_comesJumper_28 rfl <|
    aw_iadd (pc := 29) C dX11_comesJumper_29 <|
    aw_iald (pc := 30) C dX11_comesJumper_30 sR_16 rfl <|
    aw_bipush (pc := 31) C (v := 6) dX11_comesJumper_31 rfl <|
    aw_icmp_gt (pc := 33) C (tgt := 92) dX11_comesJumper_33 rfl (fun _ =>
    aw_iconst (pc := 92) C (v := 0) dX11_comesJumper_92 rfl <|
    aw_zret (pc := 93) C dX11_comesJumper_93 rfl rfl) (fun _ =>
    aw_aload_n (pc := 36) C (i := 0) dX11_comesJumper_36 rfl rfl <|
    aw_getR (pc := 37) C (b := 16) dX11_comesJumper_37 fl_X11_55 sR_0 rfl rR_0_20 <|
    aw_iload_n (pc := 40) C (i := 1) dX11_comesJumper_40 rfl rfl <|
    aw_iconst (pc := 41) C (v := 5) dX11_comesJumper_41 rfl <|
    aw_iadd (pc := 42) C dX11_comesJumper_42 <|
    aw_iald (pc := 43) C dX11_comesJumper_43 sR_16 rfl <|
    aw_bipush (pc := 44) C (v := 20) dX11_comesJumper_44 rfl <|
    aw_icmp_lt (pc := 46) C (tgt := 92) dX11_comesJumper_46 rfl (fun _ =>
    aw_iconst (pc := 92) C (v := 0) dX11_comesJumper_92 rfl <|
    aw_zret (pc := 93) C dX11_comesJumper_93 rfl rfl) (fun _ =>
    aw_aload_n (pc := 49) C (i := 0) dX11_comesJumper_49 rfl rfl <|
    aw_getR (pc := 50) C (b := 16) dX11_comesJumper_50 fl_X11_55 sR_0 rfl rR_0_20 <|
    aw_iload_n (pc := 53) C (i := 1) dX11_comesJumper_53 rfl rfl <|
    aw_bipush (pc := 54) C (v := 6) dX11_comesJumper_54 rfl <|
    aw_iadd (pc := 56) C dX11_comesJumper_56 <|
    aw_iald (pc := 57) C dX11_comesJumper_57 sR_16 rfl <|
    aw_iconst (pc := 58) C (v := 4) dX11_comesJumper_58 rfl <|
    aw_icmp_gt (pc := 59) C (tgt := 92) dX11_comesJumper_59 rfl (fun _ =>
    aw_iconst (pc := 92) C (v := 0) dX11_comesJumper_92 rfl <|
    aw_zret (pc := 93) C dX11_comesJumper_93 rfl rfl) (fun _ =>
    aw_aload_n (pc := 62) C (i := 0) dX11_comesJumper_62 rfl rfl <|
    aw_getR (pc := 63) C (b := 16) dX11_comesJumper_63 fl_X11_55 sR_0 rfl rR_0_20 <|
    aw_iload_n (pc := 66) C (i := 1) dX11_comesJumper_66 rfl rfl <|
    aw_bipush (pc := 67) C (v := 7) dX11_comesJumper_67 rfl <|
    aw_iadd (pc := 69) C dX11_comesJumper_69 <|
    aw_iald (pc := 70) C dX11_comesJumper_70 sR_16 rfl <|
    aw_sipush (pc := 71) C (v := 2400) dX11_comesJumper_71 rfl <|
    aw_icmp_gt (pc := 74) C (tgt := 92) dX11_comesJumper_74 rfl (fun _ =>
    aw_iconst (pc := 92) C (v := 0) dX11_comesJumper_92 rfl <|
    aw_zret (pc := 93) C dX11_comesJumper_93 rfl rfl) (fun _ =>
    aw_aload_n (pc := 77) C (i := 0) dX11_comesJumper_77 rfl rfl <|
    aw_getI (pc := 78) C dX11_comesJumper_78 fl_X11_105 sR_0 rfl <|
    aw_iconst (pc := 81) C (v := 4) dX11_comesJumper_81 rfl <|
    aw_icmp_eq (pc := 82) C (tgt := 92) dX11_comesJumper_82 rfl (fun _ =>
    aw_iconst (pc := 92) C (v := 0) dX11_comesJumper_92 rfl <|
    aw_zret (pc := 93) C dX11_comesJumper_93 rfl rfl) (fun _ =>
    aw_aload_n (pc := 85) C (i := 0) dX11_comesJumper_85 rfl rfl <|
    aw_getI (pc := 86) C dX11_comesJumper_86 fl_X11_147 sR_0 rfl <|
    aw_if_le (pc := 89) C (tgt := 94) dX11_comesJumper_89 rfl (fun _ =>
    aw_aload_n (pc := 94) C (i := 0) dX11_comesJumper_94 rfl rfl <|
    aw_getR (pc := 95) C (b := 2) dX11_comesJumper_95 fl_X11_13 sR_0 rfl rR_0_1 <|
    aw_aload_n (pc := 98) C (i := 0) dX11_comesJumper_98 rfl rfl <|
    aw_getI (pc := 99) C dX11_comesJumper_99 fl_X11_105 sR_0 rfl <|
    aw_aload_n (pc := 102) C (i := 0) dX11_comesJumper_102 rfl rfl <|
    aw_getR (pc := 103) C (b := 16) dX11_comesJumper_103 fl_X11_55 sR_0 rfl rR_0_20 <|
    aw_iload_n (pc := 106) C (i := 1) dX11_comesJumper_106 rfl rfl <|
    aw_iald (pc := 107) C dX11_comesJumper_107 sR_16 rfl <|
    aw_iast (pc := 108) C dX11_comesJumper_108 sR_2 rfl fun h1 =>
    aw_aload_n (pc := 109) C (i := 0) dX11_comesJumper_109 rfl rfl <|
    aw_getR (pc := 110) C (b := 3) dX11_comesJumper_110 fl_X11_16 sR_0 rfl rR_0_2 <|
    aw_aload_n (pc := 113) C (i := 0) dX11_comesJumper_113 rfl rfl <|
    aw_getI (pc := 114) C dX11_comesJumper_114 fl_X11_105 sR_0 rfl <|
    aw_aload_n (pc := 117) C (i := 0) dX11_comesJumper_117 rfl rfl <|
    aw_getR (pc := 118) C (b := 16) dX11_comesJumper_118 fl_X11_55 sR_0 rfl rR_0_20 <|
    aw_iload_n (pc := 121) C (i := 1) dX11_comesJumper_121 rfl rfl <|
    aw_iconst (pc := 122) C (v := 1) dX11_comesJumper_122 rfl <|
    aw_iadd (pc := 123) C dX11_comesJumper_123 <|
    aw_iald (pc := 124) C dX11_comesJumper_124 sR_16 rfl <|
    aw_iast (pc := 125) C dX11_comesJumper_125 sR_3 rfl fun h2 =>
    aw_aload_n (pc := 126) C (i := 0) dX11_comesJumper_126 rfl rfl <|
    aw_getR (pc := 127) C (b := 4) dX11_comesJumper_127 fl_X11_19 sR_0 rfl rR_0_3 <|
    aw_aload_n (pc := 130) C (i := 0) dX11_comesJumper_130 rfl rfl <|
    aw_getI (pc := 131) C dX11_comesJumper_131 fl_X11_105 sR_0 rfl <|
    aw_aload_n (pc := 134) C (i := 0) dX11_comesJumper_134 rfl rfl <|
    aw_getR (pc := 135) C (b := 16) dX11_comesJumper_135 fl_X11_55 sR_0 rfl rR_0_20 <|
    aw_iload_n (pc := 138) C (i := 1) dX11_comesJumper_138 rfl rfl <|
    aw_iconst (pc := 139) C (v := 2) dX11_comesJumper_139 rfl <|
    aw_iadd (pc := 140) C dX11_comesJumper_140 <|
    aw_iald (pc := 141) C dX11_comesJumper_141 sR_16 rfl <|
    aw_iast (pc := 142) C dX11_comesJumper_142 sR_4 rfl fun h3 =>
    aw_aload_n (pc := 143) C (i := 0) dX11_comesJumper_143 rfl rfl <|
    aw_getR (pc := 144) C (b := 5) dX11_comesJumper_144 fl_X11_22 sR_0 rfl rR_0_4 <|
    aw_aload_n (pc := 147) C (i := 0) dX11_comesJumper_147 rfl rfl <|
    aw_getI (pc := 148) C dX11_comesJumper_148 fl_X11_105 sR_0 rfl <|
    aw_aload_n (pc := 151) C (i := 0) dX11_comesJumper_151 rfl rfl <|
    aw_getR (pc := 152) C (b := 16) dX11_comesJumper_152 fl_X11_55 sR_0 rfl rR_0_20 <|
    aw_iload_n (pc := 155) C (i := 1) dX11_comesJumper_155 rfl rfl <|
    aw_iconst (pc := 156) C (v := 3) dX11_comesJumper_156 rfl <|
    aw_iadd (pc := 157) C dX11_comesJumper_157 <|
    aw_iald (pc := 158) C dX11_comesJumper_158 sR_16 rfl <|
    aw_iast (pc := 159) C dX11_comesJumper_159 sR_5 rfl fun h4 =>
    aw_aload_n (pc := 160) C (i := 0) dX11_comesJumper_160 rfl rfl <|
    aw_getR (pc := 161) C (b := 6) dX11_comesJumper_161 fl_X11_25 sR_0 rfl rR_0_5 <|
    aw_aload_n (pc := 164) C (i := 0) dX11_comesJumper_164 rfl rfl <|
    aw_getI (pc := 165) C dX11_comesJumper_165 fl_X11_105 sR_0 rfl <|
    aw_aload_n (pc := 168) C (i := 0) dX11_comesJumper_168 rfl rfl <|
    aw_getR (pc := 169) C (b := 16) dX11_comesJumper_169 fl_X11_55 sR_0 rfl rR_0_20 <|
    aw_iload_n (pc := 172) C (i := 1) dX11_comesJumper_172 rfl rfl <|
    aw_iconst (pc := 173) C (v := 4) dX11_comesJumper_173 rfl <|
    aw_iadd (pc := 174) C dX11_comesJumper_174 <|
    aw_iald (pc := 175) C dX11_comesJumper_175 sR_16 rfl <|
    aw_iast (pc := 176) C dX11_comesJumper_176 sR_6 rfl fun h5 =>
    aw_aload_n (pc := 177) C (i := 0) dX11_comesJumper_177 rfl rfl <|
    aw_getR (pc := 178) C (b := 7) dX11_comesJumper_178 fl_X11_28 sR_0 rfl rR_0_6 <|
    aw_aload_n (pc := 181) C (i := 0) dX11_comesJumper_181 rfl rfl <|
    aw_getI (pc := 182) C dX11_comesJumper_182 fl_X11_105 sR_0 rfl <|
    aw_aload_n (pc := 185) C (i := 0) dX11_comesJumper_185 rfl rfl <|
    aw_getR (pc := 186) C (b := 16) dX11_comesJumper_186 fl_X11_55 sR_0 rfl rR_0_20 <|
    aw_iload_n (pc := 189) C (i := 1) dX11_comesJumper_189 rfl rfl <|
    aw_iconst (pc := 190) C (v := 5) dX11_comesJumper_190 rfl <|
    aw_iadd (pc := 191) C dX11_comesJumper_191 <|
    aw_iald (pc := 192) C dX11_comesJumper_192 sR_16 rfl <|
    aw_iast (pc := 193) C dX11_comesJumper_193 sR_7 rfl fun h6 =>
    aw_aload_n (pc := 194) C (i := 0) dX11_comesJumper_194 rfl rfl <|
    aw_getR (pc := 195) C (b := 8) dX11_comesJumper_195 fl_X11_31 sR_0 rfl rR_0_7 <|
    aw_aload_n (pc := 198) C (i := 0) dX11_comesJumper_198 rfl rfl <|
    aw_getI (pc := 199) C dX11_comesJumper_199 fl_X11_105 sR_0 rfl <|
    aw_aload_n (pc := 202) C (i := 0) dX11_comesJumper_202 rfl rfl <|
    aw_getR (pc := 203) C (b := 16) dX11_comesJumper_203 fl_X11_55 sR_0 rfl rR_0_20 <|
    aw_iload_n (pc := 206) C (i := 1) dX11_comesJumper_206 rfl rfl <|
    aw_bipush (pc := 207) C (v := 6) dX11_comesJumper_207 rfl <|
    aw_iadd (pc := 209) C dX11_comesJumper_209 <|
    aw_iald (pc := 210) C dX11_comesJumper_210 sR_16 rfl <|
    aw_iast (pc := 211) C dX11_comesJumper_211 sR_8 rfl fun h7 =>
    aw_aload_n (pc := 212) C (i := 0) dX11_comesJumper_212 rfl rfl <|
    aw_getR (pc := 213) C (b := 9) dX11_comesJumper_213 fl_X11_34 sR_0 rfl rR_0_8 <|
    aw_aload_n (pc := 216) C (i := 0) dX11_comesJumper_216 rfl rfl <|
    aw_getI (pc := 217) C dX11_comesJumper_217 fl_X11_105 sR_0 rfl <|
    aw_aload_n (pc := 220) C (i := 0) dX11_comesJumper_220 rfl rfl <|
    aw_getR (pc := 221) C (b := 16) dX11_comesJumper_221 fl_X11_55 sR_0 rfl rR_0_20 <|
    aw_iload_n (pc := 224) C (i := 1) dX11_comesJumper_224 rfl rfl <|
    aw_bipush (pc := 225) C (v := 7) dX11_comesJumper_225 rfl <|
    aw_iadd (pc := 227) C dX11_comesJumper_227 <|
    aw_iald (pc := 228) C dX11_comesJumper_228 sR_16 rfl <|
    aw_iast (pc := 229) C dX11_comesJumper_229 sR_9 rfl fun h8 =>
    aw_aload_n (pc := 230) C (i := 0) dX11_comesJumper_230 rfl rfl <|
    aw_dup (pc := 231) C dX11_comesJumper_231 rfl <|
    aw_getI (pc := 232) C dX11_comesJumper_232 fl_X11_105 sR_0 rfl <|
    aw_iconst (pc := 235) C (v := 1) dX11_comesJumper_235 rfl <|
    aw_iadd (pc := 236) C dX11_comesJumper_236 <|
    aw_putI (pc := 237) C dX11_comesJumper_237 fp_X11_105 sR_0 rfl fun h9 =>
    aw_iconst (pc := 240) C (v := 1) dX11_comesJumper_240 rfl <|
    aw_zret (pc := 241) C dX11_comesJumper_241 rfl rfl) (fun _ =>
    aw_iconst (pc := 92) C (v := 0) dX11_comesJumper_92 rfl <|
    aw_zret (pc := 93) C dX11_comesJumper_93 rfl rfl))))))))
