section
abbrev rmX11_no : Room := { frames := 0, cells := 0, slots := 0, locals := 0 }
def X11_no (v1 : Int32) (h : AH) : Option (Int32 × AH) :=
    ck (-v1) 7 (ck (-v1) 7 (vl (sI h 1 (-v1).toNatClampNeg ((h.1 1 (-v1).toNatClampNeg) + 1)) fun h1 =>
    some (v1, h1)))
set_option maxRecDepth 100000 in
theorem c_X11_no (l : Launch) (v1 : Int32) : MC l yX11_no cX11_no 2 (some .int) rmX11_no ZR [.ref 0, .int v1] rvI (X11_no v1) :=
  MC.of (own := RX11) pn_RX11 rfl (Nat.le_of_ble_eq_true rfl) fun X yd A h _ C =>
    aw_aload_n (pc := 0) C (i := 0) dK_c_16.1 rfl rfl <|
    aw_getR (pc := 1) C (b := 1) dK_c_16.2.1 fl_X11_7 sR_0 rfl rR_0_0 <|
    aw_iload_n (pc := 4) C (i := 1) dK_c_16.2.2.1 rfl rfl <|
    aw_ineg (pc := 5) C dK_c_16.2.2.2.1 <|
    aw_dup2 (pc := 6) C dK_c_16.2.2.2.2.1 rfl rfl <|
    aw_iald (pc := 7) C dK_c_16.2.2.2.2.2.1 sR_1 rfl <|
    aw_iconst (pc := 8) C (v := 1) dK_c_16.2.2.2.2.2.2.1 rfl <|
    aw_iadd (pc := 9) C dK_c_16.2.2.2.2.2.2.2.1 <|
    aw_iast (pc := 10) C dK_c_17.1 sR_1 rfl fun h1 =>
    aw_iload_n (pc := 11) C (i := 1) dK_c_17.2.1 rfl rfl <|
    aw_iret (pc := 12) C dK_c_17.2.2.1 rfl rfl

abbrev rmX11_lower : Room := { frames := 0, cells := 0, slots := 0, locals := 0 }
def X11_lower (v1 : Int32) (h : AH) : Option (Int32 × AH) :=
    ck (-v1) 7 (ck (-v1) 7 (vl (sI h 1 (-v1).toNatClampNeg ((h.1 1 (-v1).toNatClampNeg) + 1)) fun h1 =>
    some ((1000000000 - v1), h1)))
set_option maxRecDepth 100000 in
theorem c_X11_lower (l : Launch) (v1 : Int32) : MC l yX11_lower cX11_lower 2 (some .int) rmX11_lower ZR [.ref 0, .int v1] rvI (X11_lower v1) :=
  MC.of (own := RX11) pn_RX11 rfl (Nat.le_of_ble_eq_true rfl) fun X yd A h _ C =>
    aw_aload_n (pc := 0) C (i := 0) dK_c_18.1 rfl rfl <|
    aw_getR (pc := 1) C (b := 1) dK_c_18.2.1 fl_X11_7 sR_0 rfl rR_0_0 <|
    aw_iload_n (pc := 4) C (i := 1) dK_c_18.2.2.1 rfl rfl <|
    aw_ineg (pc := 5) C dK_c_18.2.2.2.1 <|
    aw_dup2 (pc := 6) C dK_c_18.2.2.2.2.1 rfl rfl <|
    aw_iald (pc := 7) C dK_c_18.2.2.2.2.2.1 sR_1 rfl <|
    aw_iconst (pc := 8) C (v := 1) dK_c_18.2.2.2.2.2.2.1 rfl <|
    aw_iadd (pc := 9) C dK_c_18.2.2.2.2.2.2.2.1 <|
    aw_iast (pc := 10) C dK_c_19.1 sR_1 rfl fun h1 =>
    aw_ldc (pc := 11) C (v := 1000000000) dK_c_19.2.1 kc_X11_102 <|
    aw_iload_n (pc := 13) C (i := 1) dK_c_19.2.2.1 rfl rfl <|
    aw_isub (pc := 14) C dK_c_19.2.2.2.1 <|
    aw_iret (pc := 15) C dK_c_19.2.2.2.2.1 rfl rfl

abbrev rmX11_lowest : Room := { frames := 0, cells := 0, slots := 0, locals := 0 }
def X11_lowest (v1 : Int32) (h : AH) : Option (Int64 × AH) :=
    ck (-v1) 7 (ck (-v1) 7 (vl (sI h 1 (-v1).toNatClampNeg ((h.1 1 (-v1).toNatClampNeg) + 1)) fun h1 =>
    some ((4000000000000000000 - v1.toInt64), h1)))
set_option maxRecDepth 100000 in
theorem c_X11_lowest (l : Launch) (v1 : Int32) : MC l yX11_lowest cX11_lowest 2 (some .long) rmX11_lowest ZR [.ref 0, .int v1] rvL (X11_lowest v1) :=
  MC.of (own := RX11) pn_RX11 rfl (Nat.le_of_ble_eq_true rfl) fun X yd A h _ C =>
    aw_aload_n (pc := 0) C (i := 0) dK_c_20.1 rfl rfl <|
    aw_getR (pc := 1) C (b := 1) dK_c_20.2.1 fl_X11_7 sR_0 rfl rR_0_0 <|
    aw_iload_n (pc := 4) C (i := 1) dK_c_20.2.2.1 rfl rfl <|
    aw_ineg (pc := 5) C dK_c_20.2.2.2.1 <|
    aw_dup2 (pc := 6) C dK_c_20.2.2.2.2.1 rfl rfl <|
    aw_iald (pc := 7) C dK_c_20.2.2.2.2.2.1 sR_1 rfl <|
    aw_iconst (pc := 8) C (v := 1) dK_c_20.2.2.2.2.2.2.1 rfl <|
    aw_iadd (pc := 9) C dK_c_20.2.2.2.2.2.2.2.1 <|
    aw_iast (pc := 10) C dK_c_21.1 sR_1 rfl fun h1 =>
    aw_ldc2_w (pc := 11) C (v := 4000000000000000000) dK_c_21.2.1 kc_X11_103 <|
    aw_iload_n (pc := 14) C (i := 1) dK_c_21.2.2.1 rfl rfl <|
    aw_i2l (pc := 15) C dK_c_21.2.2.2.1 <|
    aw_lsub (pc := 16) C dK_c_21.2.2.2.2.1 <|
    aw_lret (pc := 17) C dK_c_21.2.2.2.2.2.1 rfl rfl

abbrev rmX11_isIn : Room := { frames := 0, cells := 0, slots := 0, locals := 0 }
def X11_isIn (v0 : Int32) (v1 : Int32) (v2 : Int32) (h : AH) : Option (Int32 × AH) :=
    if v0 < v1 then (cz 0 (some (0, h)))
    else (if v2 < v0 then (cz 0 (some (0, h)))
    else (cz 1 (some (1, h))))
set_option maxRecDepth 100000 in
theorem c_X11_isIn (l : Launch) (v0 : Int32) (v1 : Int32) (v2 : Int32) : MC l yX11_isIn cX11_isIn 3 (some .boolean) rmX11_isIn ZR [.int v0, .int v1, .int v2] rvI (X11_isIn v0 v1 v2) :=
  MC.of (own := RX11) pn_RX11 rfl (Nat.le_of_ble_eq_true rfl) fun X yd A h _ C =>
    aw_iload_n (pc := 0) C (i := 0) dK_c_22.1 rfl rfl <|
    aw_iload_n (pc := 1) C (i := 1) dK_c_22.2.1 rfl rfl <|
    aw_icmp_lt (pc := 2) C (tgt := 14) dK_c_22.2.2.1 rfl (fun _ =>
    aw_iconst (pc := 14) C (v := 0) dK_c_23.1 rfl <|
    aw_zret (pc := 15) C dK_c_23.2.1 rfl rfl) (fun _ =>
    aw_iload_n (pc := 5) C (i := 0) dK_c_22.2.2.2.1 rfl rfl <|
    aw_iload_n (pc := 6) C (i := 2) dK_c_22.2.2.2.2.1 rfl rfl <|
    aw_icmp_gt (pc := 7) C (tgt := 14) dK_c_22.2.2.2.2.2.1 rfl (fun _ =>
    aw_iconst (pc := 14) C (v := 0) dK_c_23.1 rfl <|
    aw_zret (pc := 15) C dK_c_23.2.1 rfl rfl) (fun _ =>
    aw_iconst (pc := 10) C (v := 1) dK_c_22.2.2.2.2.2.2.1 rfl <|
    aw_goto (pc := 11) C (tgt := 15) dK_c_22.2.2.2.2.2.2.2.1 rfl <|
    aw_zret (pc := 15) C dK_c_23.2.1 rfl rfl))

abbrev rmX11_bound : Room := { frames := 0, cells := 0, slots := 0, locals := 0 }
def X11_bound (v0 : Int32) (v1 : Int32) (v2 : Int32) (h : AH) : Option (Int32 × AH) :=
    if v1 ≤ v0 then (if v0 ≤ v2 then (some (0, h))
    else (some ((-6), h)))
    else (some ((-4), h))
set_option maxRecDepth 100000 in
theorem c_X11_bound (l : Launch) (v0 : Int32) (v1 : Int32) (v2 : Int32) : MC l yX11_bound cX11_bound 3 (some .int) rmX11_bound ZR [.int v0, .int v1, .int v2] rvI (X11_bound v0 v1 v2) :=
  MC.of (own := RX11) pn_RX11 rfl (Nat.le_of_ble_eq_true rfl) fun X yd A h _ C =>
    aw_iload_n (pc := 0) C (i := 0) dK_c_24.1 rfl rfl <|
    aw_iload_n (pc := 1) C (i := 1) dK_c_24.2.1 rfl rfl <|
    aw_icmp_ge (pc := 2) C (tgt := 10) dK_c_24.2.2.1 rfl (fun _ =>
    aw_iload_n (pc := 10) C (i := 0) dK_c_24.2.2.2.2.2.1 rfl rfl <|
    aw_iload_n (pc := 11) C (i := 2) dK_c_24.2.2.2.2.2.2.1 rfl rfl <|
    aw_icmp_le (pc := 12) C (tgt := 20) dK_c_24.2.2.2.2.2.2.2.1 rfl (fun _ =>
    aw_iconst (pc := 20) C (v := 0) dK_c_25.2.2.1 rfl <|
    aw_iret (pc := 21) C dK_c_25.2.2.2.1 rfl rfl) (fun _ =>
    aw_bipush (pc := 15) C (v := (-6)) dK_c_25.1 rfl <|
    aw_goto (pc := 17) C (tgt := 21) dK_c_25.2.1 rfl <|
    aw_iret (pc := 21) C dK_c_25.2.2.2.1 rfl rfl)) (fun _ =>
    aw_bipush (pc := 5) C (v := (-4)) dK_c_24.2.2.2.1 rfl <|
    aw_goto (pc := 7) C (tgt := 21) dK_c_24.2.2.2.2.1 rfl <|
    aw_iret (pc := 21) C dK_c_25.2.2.2.1 rfl rfl)

abbrev rmX11_atLeast0 : Room := { frames := 0, cells := 0, slots := 0, locals := 0 }
def X11_atLeast0 (v0 : Int32) (h : AH) : Option (Int32 × AH) :=
    if 0 ≤ v0 then (some (v0, h))
    else (some (0, h))
set_option maxRecDepth 100000 in
theorem c_X11_atLeast0 (l : Launch) (v0 : Int32) : MC l yX11_atLeast0 cX11_atLeast0 1 (some .int) rmX11_atLeast0 ZR [.int v0] rvI (X11_atLeast0 v0) :=
  MC.of (own := RX11) pn_RX11 rfl (Nat.le_of_ble_eq_true rfl) fun X yd A h _ C =>
    aw_iload_n (pc := 0) C (i := 0) dK_c_26.1 rfl rfl <|
    aw_if_ge (pc := 1) C (tgt := 8) dK_c_26.2.1 rfl (fun _ =>
    aw_iload_n (pc := 8) C (i := 0) dK_c_26.2.2.2.2.1 rfl rfl <|
    aw_iret (pc := 9) C dK_c_26.2.2.2.2.2.1 rfl rfl) (fun _ =>
    aw_iconst (pc := 4) C (v := 0) dK_c_26.2.2.1 rfl <|
    aw_goto (pc := 5) C (tgt := 9) dK_c_26.2.2.2.1 rfl <|
    aw_iret (pc := 9) C dK_c_26.2.2.2.2.2.1 rfl rfl)

abbrev rmX11_isJumper : Room := { frames := 0, cells := 0, slots := 0, locals := 0 }
def X11_isJumper (v1 : Int32) (h : AH) : Option (Int32 × AH) :=
    if v1 < 0 then (cz 0 (some (0, h)))
    else (if (h.1 0 15) ≤ v1 then (cz 0 (some (0, h)))
    else (cz 1 (some (1, h))))
set_option maxRecDepth 100000 in
theorem c_X11_isJumper (l : Launch) (v1 : Int32) : MC l yX11_isJumper cX11_isJumper 2 (some .boolean) rmX11_isJumper ZR [.ref 0, .int v1] rvI (X11_isJumper v1) :=
  MC.of (own := RX11) pn_RX11 rfl (Nat.le_of_ble_eq_true rfl) fun X yd A h _ C =>
    aw_iload_n (pc := 0) C (i := 1) dK_c_27.1 rfl rfl <|
    aw_if_lt (pc := 1) C (tgt := 16) dK_c_27.2.1 rfl (fun _ =>
    aw_iconst (pc := 16) C (v := 0) dK_c_28.1 rfl <|
    aw_zret (pc := 17) C dK_c_28.2.1 rfl rfl) (fun _ =>
    aw_iload_n (pc := 4) C (i := 1) dK_c_27.2.2.1 rfl rfl <|
    aw_aload_n (pc := 5) C (i := 0) dK_c_27.2.2.2.1 rfl rfl <|
    aw_getI (pc := 6) C dK_c_27.2.2.2.2.1 fl_X11_105 sR_0 rfl <|
    aw_icmp_ge (pc := 9) C (tgt := 16) dK_c_27.2.2.2.2.2.1 rfl (fun _ =>
    aw_iconst (pc := 16) C (v := 0) dK_c_28.1 rfl <|
    aw_zret (pc := 17) C dK_c_28.2.1 rfl rfl) (fun _ =>
    aw_iconst (pc := 12) C (v := 1) dK_c_27.2.2.2.2.2.2.1 rfl <|
    aw_goto (pc := 13) C (tgt := 17) dK_c_27.2.2.2.2.2.2.2.1 rfl <|
    aw_zret (pc := 17) C dK_c_28.2.1 rfl rfl))

abbrev rmX11_feed : Room := { frames := 1, cells := 0, slots := 0, locals := 22 }
def X11_feed_j25  (v1 : Int32) (v2 : Int32) (h : AH) : Option (Int32 × AH) :=
    if v2 = 0 then (ck (h.1 0 21) 96 (vl (sI h 13 (h.1 0 21).toNatClampNeg v1) fun h3 =>
    vl (sI h3 0 21 ((h3.1 0 21) + 1)) fun h4 =>
    some ((h4.1 0 21), h4)))
    else (bd (X11_no v2 h) fun r5 h6 =>
    some (r5, h6))
set_option maxRecDepth 100000 in
theorem aX11_feed_j25 {X : MCx} {yd : Dyn} {A : Nat → Prop} (C : OK X cX11_feed RX11 3 (some .int) rmX11_feed A)  (v1 : Int32) (v2 : Int32) (h : AH) : AW X 3 ZR yd A 0 0 (QF X rmX11_feed ZR yd rvI A) 25 [(0, .ref 0), (1, .int v1), (2, .int v2)] [] h (X11_feed_j25 v1 v2 h) := by
    exact aw_iload_n (pc := 25) C (i := 2) dK_c_30.2.2.2.2.2.1 rfl rfl <|
    aw_if_eq (pc := 26) C (tgt := 35) dK_c_30.2.2.2.2.2.2.1 rfl (fun _ =>
    aw_aload_n (pc := 35) C (i := 0) dK_c_31.2.2.2.1 rfl rfl <|
    aw_getR (pc := 36) C (b := 13) dK_c_31.2.2.2.2.1 fl_X11_46 sR_0 rfl rR_0_17 <|
    aw_aload_n (pc := 39) C (i := 0) dK_c_31.2.2.2.2.2.1 rfl rfl <|
    aw_getI (pc := 40) C dK_c_31.2.2.2.2.2.2.1 fl_X11_112 sR_0 rfl <|
    aw_iload_n (pc := 43) C (i := 1) dK_c_31.2.2.2.2.2.2.2.1 rfl rfl <|
    aw_iast (pc := 44) C dK_c_32.1 sR_13 rfl fun h3 =>
    aw_aload_n (pc := 45) C (i := 0) dK_c_32.2.1 rfl rfl <|
    aw_dup (pc := 46) C dK_c_32.2.2.1 rfl <|
    aw_getI (pc := 47) C dK_c_32.2.2.2.1 fl_X11_112 sR_0 rfl <|
    aw_iconst (pc := 50) C (v := 1) dK_c_32.2.2.2.2.1 rfl <|
    aw_iadd (pc := 51) C dK_c_32.2.2.2.2.2.1 <|
    aw_putI (pc := 52) C dK_c_32.2.2.2.2.2.2.1 fp_X11_112 sR_0 rfl fun h4 =>
    aw_aload_n (pc := 55) C (i := 0) dK_c_32.2.2.2.2.2.2.2.1 rfl rfl <|
    aw_getI (pc := 56) C dK_c_33.1 fl_X11_112 sR_0 rfl <|
    aw_iret (pc := 59) C dK_c_33.2.1 rfl rfl) (fun _ =>
    aw_aload_n (pc := 29) C (i := 0) dK_c_30.2.2.2.2.2.2.2.1 rfl rfl <|
    aw_iload_n (pc := 30) C (i := 2) dK_c_31.1 rfl rfl <|
    aw_callF (pc := 31) C (cr_V (rest := []) (F := (X11_no v2)) C (c_X11_no X.2.1 v2) dK_c_31.2.1 mf_X11_no ml_X11_115 im_X11_no se_X11_no sR_0 rfl ⟨(Nat.le_of_ble_eq_true rfl), (Nat.le_of_ble_eq_true rfl)⟩ rfl rfl (Nat.le_of_ble_eq_true rfl)) rfl rfl rfl (Nat.zero_le _) (Nat.zero_le _) fun r5 h6 =>
    aw_iret (pc := 34) C dK_c_31.2.2.1 rfl rfl)
def X11_feed (v1 : Int32) (h : AH) : Option (Int32 × AH) :=
    bd (X11_bound v1 0 255 h) fun r1 h2 =>
    if r1 = 0 then (if (h2.1 0 21) = 96 then (vl (-6) fun x7 =>
    X11_feed_j25 v1 x7 h2)
    else (X11_feed_j25 v1 r1 h2))
    else (X11_feed_j25 v1 r1 h2)
set_option maxRecDepth 100000 in
theorem c_X11_feed (l : Launch) (v1 : Int32) : MC l yX11_feed cX11_feed 3 (some .int) rmX11_feed ZR [.ref 0, .int v1] rvI (X11_feed v1) :=
  MC.of (own := RX11) pn_RX11 rfl (Nat.le_of_ble_eq_true rfl) fun X yd A h _ C =>
    aw_iload_n (pc := 0) C (i := 1) dK_c_29.1 rfl rfl <|
    aw_iconst (pc := 1) C (v := 0) dK_c_29.2.1 rfl <|
    aw_sipush (pc := 2) C (v := 255) dK_c_29.2.2.1 rfl <|
    aw_callF (pc := 5) C (cr_S (rest := []) (F := (X11_bound v1 0 255)) C (c_X11_bound X.2.1 v1 0 255) dK_c_29.2.2.2.1 mf_X11_bound ml_X11_108 st_X11_bound ⟨(Nat.le_of_ble_eq_true rfl), (Nat.le_of_ble_eq_true rfl)⟩ rfl rfl (Nat.le_of_ble_eq_true rfl)) rfl rfl rfl (Nat.zero_le _) (Nat.zero_le _) fun r1 h2 =>
    aw_istore_n (pc := 8) C (i := 2) (lv' := [(0, .ref 0), (1, .int v1), (2, .int r1)]) dK_c_29.2.2.2.2.1 rfl (by decide) rfl <|
    aw_iload_n (pc := 9) C (i := 2) dK_c_29.2.2.2.2.2.1 rfl rfl <|
    aw_if_ne (pc := 10) C (tgt := 25) dK_c_29.2.2.2.2.2.2.1 rfl (fun _ =>
    aw_aload_n (pc := 13) C (i := 0) dK_c_29.2.2.2.2.2.2.2.1 rfl rfl <|
    aw_getI (pc := 14) C dK_c_30.1 fl_X11_112 sR_0 rfl <|
    aw_bipush (pc := 17) C (v := 96) dK_c_30.2.1 rfl <|
    aw_icmp_ne (pc := 19) C (tgt := 25) dK_c_30.2.2.1 rfl (fun _ =>
    aw_bipush (pc := 22) C (v := (-6)) dK_c_30.2.2.2.1 rfl <|
    aw_istoreV_n (pc := 24) C (i := 2) (fun x7 => [(0, .ref 0), (1, .int v1), (2, .int x7)]) dK_c_30.2.2.2.2.1 rfl (by decide) (fun _ => rfl) fun x7 =>
    (aX11_feed_j25 C v1 x7 h2)) (fun _ =>
    (aX11_feed_j25 C v1 r1 h2))) (fun _ =>
    (aX11_feed_j25 C v1 r1 h2))

abbrev rmX11_next : Room := { frames := 0, cells := 0, slots := 0, locals := 0 }
def X11_next  (h : AH) : Option (Int32 × AH) :=
    if (h.1 0 21) ≤ (h.1 0 22) then (some ((-1), h))
    else (ck (h.1 0 22) 96 (some ((h.1 13 (h.1 0 22).toNatClampNeg), h)))
set_option maxRecDepth 100000 in
theorem c_X11_next (l : Launch)  : MC l yX11_next cX11_next 1 (some .int) rmX11_next ZR [.ref 0] rvI (X11_next) :=
  MC.of (own := RX11) pn_RX11 rfl (Nat.le_of_ble_eq_true rfl) fun X yd A h _ C =>
    aw_aload_n (pc := 0) C (i := 0) dK_c_34.1 rfl rfl <|
    aw_getI (pc := 1) C dK_c_34.2.1 fl_X11_119 sR_0 rfl <|
    aw_aload_n (pc := 4) C (i := 0) dK_c_34.2.2.1 rfl rfl <|
    aw_getI (pc := 5) C dK_c_34.2.2.2.1 fl_X11_112 sR_0 rfl <|
    aw_icmp_ge (pc := 8) C (tgt := 23) dK_c_34.2.2.2.2.1 rfl (fun _ =>
    aw_iconst (pc := 23) C (v := (-1)) dK_c_35.2.2.2.1 rfl <|
    aw_iret (pc := 24) C dK_c_35.2.2.2.2.1 rfl rfl) (fun _ =>
    aw_aload_n (pc := 11) C (i := 0) dK_c_34.2.2.2.2.2.1 rfl rfl <|
    aw_getR (pc := 12) C (b := 13) dK_c_34.2.2.2.2.2.2.1 fl_X11_46 sR_0 rfl rR_0_17 <|
    aw_aload_n (pc := 15) C (i := 0) dK_c_34.2.2.2.2.2.2.2.1 rfl rfl <|
    aw_getI (pc := 16) C dK_c_35.1 fl_X11_119 sR_0 rfl <|
    aw_iald (pc := 19) C dK_c_35.2.1 sR_13 rfl <|
    aw_goto (pc := 20) C (tgt := 24) dK_c_35.2.2.1 rfl <|
    aw_iret (pc := 24) C dK_c_35.2.2.2.2.1 rfl rfl)

abbrev rmX11_readsDigits : Room := { frames := 1, cells := 0, slots := 0, locals := 22 }
def X11_readsDigits_l5  (v1 : Int32) (v2 : Int32) : Nat → Int32 → Int32 → AH → Option (Int32 × AH)
  | 0, _, _, _ => none
  | n + 1, v3, v4, h =>
    if v2 ≤ v4 then (ck v1 384 (vl (sI h 16 v1.toNatClampNeg v3) fun h1 =>
    cz 1 (some (1, h1))))
    else (bd (X11_next h) fun r2 h3 =>
    bd (X11_isIn r2 48 57 h3) fun r4 h5 =>
    if r4 = 0 then (cz 0 (some (0, h5)))
    else (bd (X11_next h5) fun r6 h7 =>
    vl (((10 * v3) + r6) - 48) fun x8 =>
    vl (sI h7 0 22 ((h7.1 0 22) + 1)) fun h9 =>
    vl (v4 + 1) fun x10 =>
    (X11_readsDigits_l5 v1 v2 n) x8 x10 h9))
set_option maxRecDepth 100000 in
theorem aX11_readsDigits_l5 {X : MCx} {yd : Dyn} {A : Nat → Prop} (C : OK X cX11_readsDigits RX11 5 (some .boolean) rmX11_readsDigits A)  (v1 : Int32) (v2 : Int32) : ∀ (n : Nat) (v3 : Int32) (v4 : Int32) (h : AH), AW X 5 ZR yd A 0 0 (QF X rmX11_readsDigits ZR yd rvI A) 5 [(0, .ref 0), (1, .int v1), (2, .int v2), (3, .int v3), (4, .int v4)] [] h (X11_readsDigits_l5 v1 v2 n v3 v4 h) := by
  intro n
  induction n with
  | zero => intro v3 v4 h; exact aw_none
  | succ n ih =>
    intro v3 v4 h
    exact aw_iload (pc := 5) C (i := 4) dK_c_36.2.2.2.2.1 rfl <|
    aw_iload_n (pc := 7) C (i := 2) dK_c_36.2.2.2.2.2.1 rfl rfl <|
    aw_icmp_ge (pc := 8) C (tgt := 56) dK_c_36.2.2.2.2.2.2.1 rfl (fun _ =>
    aw_aload_n (pc := 56) C (i := 0) dK_c_40.1 rfl rfl <|
    aw_getR (pc := 57) C (b := 16) dK_c_40.2.1 fl_X11_55 sR_0 rfl rR_0_20 <|
    aw_iload_n (pc := 60) C (i := 1) dK_c_40.2.2.1 rfl rfl <|
    aw_iload_n (pc := 61) C (i := 3) dK_c_40.2.2.2.1 rfl rfl <|
    aw_iast (pc := 62) C dK_c_40.2.2.2.2.1 sR_16 rfl fun h1 =>
    aw_iconst (pc := 63) C (v := 1) dK_c_40.2.2.2.2.2.1 rfl <|
    aw_zret (pc := 64) C dK_c_40.2.2.2.2.2.2.1 rfl rfl) (fun _ =>
    aw_aload_n (pc := 11) C (i := 0) dK_c_36.2.2.2.2.2.2.2.1 rfl rfl <|
    aw_callF (pc := 12) C (cr_V (rest := []) (F := X11_next) C (c_X11_next X.2.1 ) dK_c_37.1 mf_X11_next ml_X11_122 im_X11_next se_X11_next sR_0 rfl ⟨(Nat.le_of_ble_eq_true rfl), (Nat.le_of_ble_eq_true rfl)⟩ rfl rfl (Nat.le_of_ble_eq_true rfl)) rfl rfl rfl (Nat.zero_le _) (Nat.zero_le _) fun r2 h3 =>
    aw_bipush (pc := 15) C (v := 48) dK_c_37.2.1 rfl <|
    aw_bipush (pc := 17) C (v := 57) dK_c_37.2.2.1 rfl <|
    aw_callF (pc := 19) C (cr_S (rest := []) (F := (X11_isIn r2 48 57)) C (c_X11_isIn X.2.1 r2 48 57) dK_c_37.2.2.2.1 mf_X11_isIn ml_X11_126 st_X11_isIn ⟨(Nat.le_of_ble_eq_true rfl), (Nat.le_of_ble_eq_true rfl)⟩ rfl rfl (Nat.le_of_ble_eq_true rfl)) rfl rfl rfl (Nat.zero_le _) (Nat.zero_le _) fun r4 h5 =>
    aw_if_ne (pc := 22) C (tgt := 27) dK_c_37.2.2.2.2.1 rfl (fun _ =>
    aw_iconst (pc := 25) C (v := 0) dK_c_37.2.2.2.2.2.1 rfl <|
    aw_zret (pc := 26) C dK_c_37.2.2.2.2.2.2.1 rfl rfl) (fun _ =>
    aw_bipush (pc := 27) C (v := 10) dK_c_37.2.2.2.2.2.2.2.1 rfl <|
    aw_iload_n (pc := 29) C (i := 3) dK_c_38.1 rfl rfl <|
    aw_imul (pc := 30) C dK_c_38.2.1 <|
    aw_aload_n (pc := 31) C (i := 0) dK_c_38.2.2.1 rfl rfl <|
    aw_callF (pc := 32) C (cr_V (rest := [.int (10 * v3)]) (F := X11_next) C (c_X11_next X.2.1 ) dK_c_38.2.2.2.1 mf_X11_next ml_X11_122 im_X11_next se_X11_next sR_0 rfl ⟨(Nat.le_of_ble_eq_true rfl), (Nat.le_of_ble_eq_true rfl)⟩ rfl rfl (Nat.le_of_ble_eq_true rfl)) rfl rfl rfl (Nat.zero_le _) (Nat.zero_le _) fun r6 h7 =>
    aw_iadd (pc := 35) C dK_c_38.2.2.2.2.1 <|
    aw_bipush (pc := 36) C (v := 48) dK_c_38.2.2.2.2.2.1 rfl <|
    aw_isub (pc := 38) C dK_c_38.2.2.2.2.2.2.1 <|
    aw_istoreV_n (pc := 39) C (i := 3) (fun x8 => [(0, .ref 0), (1, .int v1), (2, .int v2), (3, .int x8), (4, .int v4)]) dK_c_38.2.2.2.2.2.2.2.1 rfl (by decide) (fun _ => rfl) fun x8 =>
    aw_aload_n (pc := 40) C (i := 0) dK_c_39.1 rfl rfl <|
    aw_dup (pc := 41) C dK_c_39.2.1 rfl <|
    aw_getI (pc := 42) C dK_c_39.2.2.1 fl_X11_119 sR_0 rfl <|
    aw_iconst (pc := 45) C (v := 1) dK_c_39.2.2.2.1 rfl <|
    aw_iadd (pc := 46) C dK_c_39.2.2.2.2.1 <|
    aw_putI (pc := 47) C dK_c_39.2.2.2.2.2.1 fp_X11_119 sR_0 rfl fun h9 =>
    aw_iincV (pc := 50) C (i := 4) (cst := 1) (fun x10 => [(0, .ref 0), (1, .int v1), (2, .int v2), (3, .int x8), (4, .int x10)]) dK_c_39.2.2.2.2.2.2.1 rfl rfl (by decide) (fun _ => rfl) fun x10 =>
    aw_goto (pc := 53) C (tgt := 5) dK_c_39.2.2.2.2.2.2.2.1 rfl <|
    (ih x8 x10 h9)))
def X11_readsDigits (v1 : Int32) (v2 : Int32) (h : AH) : Option (Int32 × AH) :=
    X11_readsDigits_l5 v1 v2 FU 0 0 h
set_option maxRecDepth 100000 in
theorem c_X11_readsDigits (l : Launch) (v1 : Int32) (v2 : Int32) : MC l yX11_readsDigits cX11_readsDigits 5 (some .boolean) rmX11_readsDigits ZR [.ref 0, .int v1, .int v2] rvI (X11_readsDigits v1 v2) :=
  MC.of (own := RX11) pn_RX11 rfl (Nat.le_of_ble_eq_true rfl) fun X yd A h _ C =>
    aw_iconst (pc := 0) C (v := 0) dK_c_36.1 rfl <|
    aw_istore_n (pc := 1) C (i := 3) (lv' := [(0, .ref 0), (1, .int v1), (2, .int v2), (3, .int 0)]) dK_c_36.2.1 rfl (by decide) rfl <|
    aw_iconst (pc := 2) C (v := 0) dK_c_36.2.2.1 rfl <|
    aw_istore (pc := 3) C (i := 4) (lv' := [(0, .ref 0), (1, .int v1), (2, .int v2), (3, .int 0), (4, .int 0)]) dK_c_36.2.2.2.1 (by decide) rfl <|
    (aX11_readsDigits_l5 C v1 v2 FU 0 0 h)

abbrev rmX11_readsWind : Room := { frames := 2, cells := 0, slots := 0, locals := 46 }
def X11_readsWind_j27  (v1 : Int32) (s0 : Int32) (h : AH) : Option (Int32 × AH) :=
    if s0 = 0 then (cz 0 (some (0, h)))
    else (vl (sI h 0 22 ((h.1 0 22) + 1)) fun h5 =>
    bd (X11_readsDigits v1 1 h5) fun r6 h7 =>
    if r6 = 0 then (cz 0 (some (0, h7)))
    else (ck v1 384 (ck v1 384 (vl (sI h7 16 v1.toNatClampNeg ((h7.1 16 v1.toNatClampNeg) * s0)) fun h8 =>
    cz 1 (some (1, h8))))))
set_option maxRecDepth 100000 in
theorem aX11_readsWind_j27 {X : MCx} {yd : Dyn} {A : Nat → Prop} (C : OK X cX11_readsWind RX11 3 (some .boolean) rmX11_readsWind A)  (v1 : Int32) (s0 : Int32) (h : AH) : AW X 3 ZR yd A 0 0 (QF X rmX11_readsWind ZR yd rvI A) 27 [(0, .ref 0), (1, .int v1)] [.int s0] h (X11_readsWind_j27 v1 s0 h) := by
    exact aw_istore_n (pc := 27) C (i := 2) (lv' := [(0, .ref 0), (1, .int v1), (2, .int s0)]) dK_c_42.2.2.2.2.2.1 rfl (by decide) rfl <|
    aw_iload_n (pc := 28) C (i := 2) dK_c_42.2.2.2.2.2.2.1 rfl rfl <|
    aw_if_ne (pc := 29) C (tgt := 34) dK_c_42.2.2.2.2.2.2.2.1 rfl (fun _ =>
    aw_iconst (pc := 32) C (v := 0) dK_c_43.1 rfl <|
    aw_zret (pc := 33) C dK_c_43.2.1 rfl rfl) (fun _ =>
    aw_aload_n (pc := 34) C (i := 0) dK_c_43.2.2.1 rfl rfl <|
    aw_dup (pc := 35) C dK_c_43.2.2.2.1 rfl <|
    aw_getI (pc := 36) C dK_c_43.2.2.2.2.1 fl_X11_119 sR_0 rfl <|
    aw_iconst (pc := 39) C (v := 1) dK_c_43.2.2.2.2.2.1 rfl <|
    aw_iadd (pc := 40) C dK_c_43.2.2.2.2.2.2.1 <|
    aw_putI (pc := 41) C dK_c_43.2.2.2.2.2.2.2.1 fp_X11_119 sR_0 rfl fun h5 =>
    aw_aload_n (pc := 44) C (i := 0) dK_c_44.1 rfl rfl <|
    aw_iload_n (pc := 45) C (i := 1) dK_c_44.2.1 rfl rfl <|
    aw_iconst (pc := 46) C (v := 1) dK_c_44.2.2.1 rfl <|
    aw_callF (pc := 47) C (cr_V (rest := []) (F := (X11_readsDigits v1 1)) C (c_X11_readsDigits X.2.1 v1 1) dK_c_44.2.2.2.1 mf_X11_readsDigits ml_X11_130 im_X11_readsDigits se_X11_readsDigits sR_0 rfl ⟨(Nat.le_of_ble_eq_true rfl), (Nat.le_of_ble_eq_true rfl)⟩ rfl rfl (Nat.le_of_ble_eq_true rfl)) rfl rfl rfl (Nat.zero_le _) (Nat.zero_le _) fun r6 h7 =>
    aw_if_ne (pc := 50) C (tgt := 55) dK_c_44.2.2.2.2.1 rfl (fun _ =>
    aw_iconst (pc := 53) C (v := 0) dK_c_44.2.2.2.2.2.1 rfl <|
    aw_zret (pc := 54) C dK_c_44.2.2.2.2.2.2.1 rfl rfl) (fun _ =>
    aw_aload_n (pc := 55) C (i := 0) dK_c_44.2.2.2.2.2.2.2.1 rfl rfl <|
    aw_getR (pc := 56) C (b := 16) dK_c_45.1 fl_X11_55 sR_0 rfl rR_0_20 <|
    aw_iload_n (pc := 59) C (i := 1) dK_c_45.2.1 rfl rfl <|
    aw_dup2 (pc := 60) C dK_c_45.2.2.1 rfl rfl <|
    aw_iald (pc := 61) C dK_c_45.2.2.2.1 sR_16 rfl <|
    aw_iload_n (pc := 62) C (i := 2) dK_c_45.2.2.2.2.1 rfl rfl <|
    aw_imul (pc := 63) C dK_c_45.2.2.2.2.2.1 <|
    aw_iast (pc := 64) C dK_c_45.2.2.2.2.2.2.1 sR_16 rfl fun h8 =>
    aw_iconst (pc := 65) C (v := 1) dK_c_45.2.2.2.2.2.2.2.1 rfl <|
    aw_zret (pc := 66) C dK_c_46.1 rfl rfl))
def X11_readsWind (v1 : Int32) (h : AH) : Option (Int32 × AH) :=
    bd (X11_next h) fun r1 h2 =>
    if r1 = 43 then (X11_readsWind_j27 v1 1 h2)
    else (bd (X11_next h2) fun r3 h4 =>
    if r3 = 45 then (X11_readsWind_j27 v1 (-1) h4)
    else (X11_readsWind_j27 v1 0 h4))
set_option maxRecDepth 100000 in
theorem c_X11_readsWind (l : Launch) (v1 : Int32) : MC l yX11_readsWind cX11_readsWind 3 (some .boolean) rmX11_readsWind ZR [.ref 0, .int v1] rvI (X11_readsWind v1) :=
  MC.of (own := RX11) pn_RX11 rfl (Nat.le_of_ble_eq_true rfl) fun X yd A h _ C =>
    aw_aload_n (pc := 0) C (i := 0) dK_c_41.1 rfl rfl <|
    aw_callF (pc := 1) C (cr_V (rest := []) (F := X11_next) C (c_X11_next X.2.1 ) dK_c_41.2.1 mf_X11_next ml_X11_122 im_X11_next se_X11_next sR_0 rfl ⟨(Nat.le_of_ble_eq_true rfl), (Nat.le_of_ble_eq_true rfl)⟩ rfl rfl (Nat.le_of_ble_eq_true rfl)) rfl rfl rfl (Nat.zero_le _) (Nat.zero_le _) fun r1 h2 =>
    aw_bipush (pc := 4) C (v := 43) dK_c_41.2.2.1 rfl <|
    aw_icmp_ne (pc := 6) C (tgt := 13) dK_c_41.2.2.2.1 rfl (fun _ =>
    aw_iconst (pc := 9) C (v := 1) dK_c_41.2.2.2.2.1 rfl <|
    aw_goto (pc := 10) C (tgt := 27) dK_c_41.2.2.2.2.2.1 rfl <|
    (aX11_readsWind_j27 C v1 1 h2)) (fun _ =>
    aw_aload_n (pc := 13) C (i := 0) dK_c_41.2.2.2.2.2.2.1 rfl rfl <|
    aw_callF (pc := 14) C (cr_V (rest := []) (F := X11_next) C (c_X11_next X.2.1 ) dK_c_41.2.2.2.2.2.2.2.1 mf_X11_next ml_X11_122 im_X11_next se_X11_next sR_0 rfl ⟨(Nat.le_of_ble_eq_true rfl), (Nat.le_of_ble_eq_true rfl)⟩ rfl rfl (Nat.le_of_ble_eq_true rfl)) rfl rfl rfl (Nat.zero_le _) (Nat.zero_le _) fun r3 h4 =>
    aw_bipush (pc := 17) C (v := 45) dK_c_42.1 rfl <|
    aw_icmp_ne (pc := 19) C (tgt := 26) dK_c_42.2.1 rfl (fun _ =>
    aw_iconst (pc := 22) C (v := (-1)) dK_c_42.2.2.1 rfl <|
    aw_goto (pc := 23) C (tgt := 27) dK_c_42.2.2.2.1 rfl <|
    (aX11_readsWind_j27 C v1 (-1) h4)) (fun _ =>
    aw_iconst (pc := 26) C (v := 0) dK_c_42.2.2.2.2.1 rfl <|
    (aX11_readsWind_j27 C v1 0 h4)))

abbrev rmX11_readsJumper : Room := { frames := 2, cells := 0, slots := 0, locals := 46 }
def X11_readsJumper (v1 : Int32) (h : AH) : Option (Int32 × AH) :=
    bd (X11_readsDigits v1 1 h) fun r1 h2 =>
    if r1 = 0 then (cz 0 (some (0, h2)))
    else (bd (X11_readsDigits (v1 + 1) 1 h2) fun r3 h4 =>
    if r3 = 0 then (cz 0 (some (0, h4)))
    else (bd (X11_readsDigits (v1 + 2) 2 h4) fun r5 h6 =>
    if r5 = 0 then (cz 0 (some (0, h6)))
    else (bd (X11_readsDigits (v1 + 3) 1 h6) fun r7 h8 =>
    if r7 = 0 then (cz 0 (some (0, h8)))
    else (bd (X11_readsDigits (v1 + 4) 1 h8) fun r9 h10 =>
    if r9 = 0 then (cz 0 (some (0, h10)))
    else (bd (X11_readsDigits (v1 + 5) 2 h10) fun r11 h12 =>
    if r11 = 0 then (cz 0 (some (0, h12)))
    else (bd (X11_readsDigits (v1 + 6) 1 h12) fun r13 h14 =>
    if r13 = 0 then (cz 0 (some (0, h14)))
    else (bd (X11_readsDigits (v1 + 7) 4 h14) fun r15 h16 =>
    if r15 = 0 then (cz 0 (some (0, h16)))
    else (cz 1 (some (1, h16))))))))))
set_option maxRecDepth 100000 in
theorem c_X11_readsJumper (l : Launch) (v1 : Int32) : MC l yX11_readsJumper cX11_readsJumper 2 (some .boolean) rmX11_readsJumper ZR [.ref 0, .int v1] rvI (X11_readsJumper v1) :=
  MC.of (own := RX11) pn_RX11 rfl (Nat.le_of_ble_eq_true rfl) fun X yd A h _ C =>
    aw_aload_n (pc := 0) C (i := 0) dK_c_47.1 rfl rfl <|
    aw_iload_n (pc := 1) C (i := 1) dK_c_47.2.1 rfl rfl <|
    aw_iconst (pc := 2) C (v := 1) dK_c_47.2.2.1 rfl <|
    aw_callF (pc := 3) C (cr_V (rest := []) (F := (X11_readsDigits v1 1)) C (c_X11_readsDigits X.2.1 v1 1) dK_c_47.2.2.2.1 mf_X11_readsDigits ml_X11_130 im_X11_readsDigits se_X11_readsDigits sR_0 rfl ⟨(Nat.le_of_ble_eq_true rfl), (Nat.le_of_ble_eq_true rfl)⟩ rfl rfl (Nat.le_of_ble_eq_true rfl)) rfl rfl rfl (Nat.zero_le _) (Nat.zero_le _) fun r1 h2 =>
    aw_if_eq (pc := 6) C (tgt := 92) dK_c_47.2.2.2.2.1 rfl (fun _ =>
    aw_iconst (pc := 92) C (v := 0) dK_c_54.1 rfl <|
    aw_zret (pc := 93) C dK_c_54.2.1 rfl rfl) (fun _ =>
    aw_aload_n (pc := 9) C (i := 0) dK_c_47.2.2.2.2.2.1 rfl rfl <|
    aw_iload_n (pc := 10) C (i := 1) dK_c_47.2.2.2.2.2.2.1 rfl rfl <|
    aw_iconst (pc := 11) C (v := 1) dK_c_47.2.2.2.2.2.2.2.1 rfl <|
    aw_iadd (pc := 12) C dK_c_48.1 <|
    aw_iconst (pc := 13) C (v := 1) dK_c_48.2.1 rfl <|
    aw_callF (pc := 14) C (cr_V (rest := []) (F := (X11_readsDigits (v1 + 1) 1)) C (c_X11_readsDigits X.2.1 (v1 + 1) 1) dK_c_48.2.2.1 mf_X11_readsDigits ml_X11_130 im_X11_readsDigits se_X11_readsDigits sR_0 rfl ⟨(Nat.le_of_ble_eq_true rfl), (Nat.le_of_ble_eq_true rfl)⟩ rfl rfl (Nat.le_of_ble_eq_true rfl)) rfl rfl rfl (Nat.zero_le _) (Nat.zero_le _) fun r3 h4 =>
    aw_if_eq (pc := 17) C (tgt := 92) dK_c_48.2.2.2.1 rfl (fun _ =>
    aw_iconst (pc := 92) C (v := 0) dK_c_54.1 rfl <|
    aw_zret (pc := 93) C dK_c_54.2.1 rfl rfl) (fun _ =>
    aw_aload_n (pc := 20) C (i := 0) dK_c_48.2.2.2.2.1 rfl rfl <|
    aw_iload_n (pc := 21) C (i := 1) dK_c_48.2.2.2.2.2.1 rfl rfl <|
    aw_iconst (pc := 22) C (v := 2) dK_c_48.2.2.2.2.2.2.1 rfl <|
    aw_iadd (pc := 23) C dK_c_48.2.2.2.2.2.2.2.1 <|
    aw_iconst (pc := 24) C (v := 2) dK_c_49.1 rfl <|
    aw_callF (pc := 25) C (cr_V (rest := []) (F := (X11_readsDigits (v1 + 2) 2)) C (c_X11_readsDigits X.2.1 (v1 + 2) 2) dK_c_49.2.1 mf_X11_readsDigits ml_X11_130 im_X11_readsDigits se_X11_readsDigits sR_0 rfl ⟨(Nat.le_of_ble_eq_true rfl), (Nat.le_of_ble_eq_true rfl)⟩ rfl rfl (Nat.le_of_ble_eq_true rfl)) rfl rfl rfl (Nat.zero_le _) (Nat.zero_le _) fun r5 h6 =>
    aw_if_eq (pc := 28) C (tgt := 92) dK_c_49.2.2.1 rfl (fun _ =>
    aw_iconst (pc := 92) C (v := 0) dK_c_54.1 rfl <|
    aw_zret (pc := 93) C dK_c_54.2.1 rfl rfl) (fun _ =>
    aw_aload_n (pc := 31) C (i := 0) dK_c_49.2.2.2.1 rfl rfl <|
    aw_iload_n (pc := 32) C (i := 1) dK_c_49.2.2.2.2.1 rfl rfl <|
    aw_iconst (pc := 33) C (v := 3) dK_c_49.2.2.2.2.2.1 rfl <|
    aw_iadd (pc := 34) C dK_c_49.2.2.2.2.2.2.1 <|
    aw_iconst (pc := 35) C (v := 1) dK_c_49.2.2.2.2.2.2.2.1 rfl <|
    aw_callF (pc := 36) C (cr_V (rest := []) (F := (X11_readsDigits (v1 + 3) 1)) C (c_X11_readsDigits X.2.1 (v1 + 3) 1) dK_c_50.1 mf_X11_readsDigits ml_X11_130 im_X11_readsDigits se_X11_readsDigits sR_0 rfl ⟨(Nat.le_of_ble_eq_true rfl), (Nat.le_of_ble_eq_true rfl)⟩ rfl rfl (Nat.le_of_ble_eq_true rfl)) rfl rfl rfl (Nat.zero_le _) (Nat.zero_le _) fun r7 h8 =>
    aw_if_eq (pc := 39) C (tgt := 92) dK_c_50.2.1 rfl (fun _ =>
    aw_iconst (pc := 92) C (v := 0) dK_c_54.1 rfl <|
    aw_zret (pc := 93) C dK_c_54.2.1 rfl rfl) (fun _ =>
    aw_aload_n (pc := 42) C (i := 0) dK_c_50.2.2.1 rfl rfl <|
    aw_iload_n (pc := 43) C (i := 1) dK_c_50.2.2.2.1 rfl rfl <|
    aw_iconst (pc := 44) C (v := 4) dK_c_50.2.2.2.2.1 rfl <|
    aw_iadd (pc := 45) C dK_c_50.2.2.2.2.2.1 <|
    aw_iconst (pc := 46) C (v := 1) dK_c_50.2.2.2.2.2.2.1 rfl <|
    aw_callF (pc := 47) C (cr_V (rest := []) (F := (X11_readsDigits (v1 + 4) 1)) C (c_X11_readsDigits X.2.1 (v1 + 4) 1) dK_c_50.2.2.2.2.2.2.2.1 mf_X11_readsDigits ml_X11_130 im_X11_readsDigits se_X11_readsDigits sR_0 rfl ⟨(Nat.le_of_ble_eq_true rfl), (Nat.le_of_ble_eq_true rfl)⟩ rfl rfl (Nat.le_of_ble_eq_true rfl)) rfl rfl rfl (Nat.zero_le _) (Nat.zero_le _) fun r9 h10 =>
    aw_if_eq (pc := 50) C (tgt := 92) dK_c_51.1 rfl (fun _ =>
    aw_iconst (pc := 92) C (v := 0) dK_c_54.1 rfl <|
    aw_zret (pc := 93) C dK_c_54.2.1 rfl rfl) (fun _ =>
    aw_aload_n (pc := 53) C (i := 0) dK_c_51.2.1 rfl rfl <|
    aw_iload_n (pc := 54) C (i := 1) dK_c_51.2.2.1 rfl rfl <|
    aw_iconst (pc := 55) C (v := 5) dK_c_51.2.2.2.1 rfl <|
    aw_iadd (pc := 56) C dK_c_51.2.2.2.2.1 <|
    aw_iconst (pc := 57) C (v := 2) dK_c_51.2.2.2.2.2.1 rfl <|
    aw_callF (pc := 58) C (cr_V (rest := []) (F := (X11_readsDigits (v1 + 5) 2)) C (c_X11_readsDigits X.2.1 (v1 + 5) 2) dK_c_51.2.2.2.2.2.2.1 mf_X11_readsDigits ml_X11_130 im_X11_readsDigits se_X11_readsDigits sR_0 rfl ⟨(Nat.le_of_ble_eq_true rfl), (Nat.le_of_ble_eq_true rfl)⟩ rfl rfl (Nat.le_of_ble_eq_true rfl)) rfl rfl rfl (Nat.zero_le _) (Nat.zero_le _) fun r11 h12 =>
    aw_if_eq (pc := 61) C (tgt := 92) dK_c_51.2.2.2.2.2.2.2.1 rfl (fun _ =>
    aw_iconst (pc := 92) C (v := 0) dK_c_54.1 rfl <|
    aw_zret (pc := 93) C dK_c_54.2.1 rfl rfl) (fun _ =>
    aw_aload_n (pc := 64) C (i := 0) dK_c_52.1 rfl rfl <|
    aw_iload_n (pc := 65) C (i := 1) dK_c_52.2.1 rfl rfl <|
    aw_bipush (pc := 66) C (v := 6) dK_c_52.2.2.1 rfl <|
    aw_iadd (pc := 68) C dK_c_52.2.2.2.1 <|
    aw_iconst (pc := 69) C (v := 1) dK_c_52.2.2.2.2.1 rfl <|
    aw_callF (pc := 70) C (cr_V (rest := []) (F := (X11_readsDigits (v1 + 6) 1)) C (c_X11_readsDigits X.2.1 (v1 + 6) 1) dK_c_52.2.2.2.2.2.1 mf_X11_readsDigits ml_X11_130 im_X11_readsDigits se_X11_readsDigits sR_0 rfl ⟨(Nat.le_of_ble_eq_true rfl), (Nat.le_of_ble_eq_true rfl)⟩ rfl rfl (Nat.le_of_ble_eq_true rfl)) rfl rfl rfl (Nat.zero_le _) (Nat.zero_le _) fun r13 h14 =>
    aw_if_eq (pc := 73) C (tgt := 92) dK_c_52.2.2.2.2.2.2.1 rfl (fun _ =>
    aw_iconst (pc := 92) C (v := 0) dK_c_54.1 rfl <|
    aw_zret (pc := 93) C dK_c_54.2.1 rfl rfl) (fun _ =>
    aw_aload_n (pc := 76) C (i := 0) dK_c_52.2.2.2.2.2.2.2.1 rfl rfl <|
    aw_iload_n (pc := 77) C (i := 1) dK_c_53.1 rfl rfl <|
    aw_bipush (pc := 78) C (v := 7) dK_c_53.2.1 rfl <|
    aw_iadd (pc := 80) C dK_c_53.2.2.1 <|
    aw_iconst (pc := 81) C (v := 4) dK_c_53.2.2.2.1 rfl <|
    aw_callF (pc := 82) C (cr_V (rest := []) (F := (X11_readsDigits (v1 + 7) 4)) C (c_X11_readsDigits X.2.1 (v1 + 7) 4) dK_c_53.2.2.2.2.1 mf_X11_readsDigits ml_X11_130 im_X11_readsDigits se_X11_readsDigits sR_0 rfl ⟨(Nat.le_of_ble_eq_true rfl), (Nat.le_of_ble_eq_true rfl)⟩ rfl rfl (Nat.le_of_ble_eq_true rfl)) rfl rfl rfl (Nat.zero_le _) (Nat.zero_le _) fun r15 h16 =>
    aw_if_eq (pc := 85) C (tgt := 92) dK_c_53.2.2.2.2.2.1 rfl (fun _ =>
    aw_iconst (pc := 92) C (v := 0) dK_c_54.1 rfl <|
    aw_zret (pc := 93) C dK_c_54.2.1 rfl rfl) (fun _ =>
    aw_iconst (pc := 88) C (v := 1) dK_c_53.2.2.2.2.2.2.1 rfl <|
    aw_goto (pc := 89) C (tgt := 93) dK_c_53.2.2.2.2.2.2.2.1 rfl <|
    aw_zret (pc := 93) C dK_c_54.2.1 rfl rfl))))))))

abbrev rmX11_readsAll : Room := { frames := 3, cells := 0, slots := 0, locals := 68 }
def X11_readsAll (v1 : Int32) (v2 : Int32) (h : AH) : Option (Int32 × AH) :=
    vl v1 fun y1 =>
    if y1 = 103 then (bd (X11_readsDigits v2 1 h) fun r2 h3 =>
    cz r2 (some (r2, h3)))
    else if y1 = 106 then (bd (X11_readsJumper v2 h) fun r5 h6 =>
    cz r5 (some (r5, h6)))
    else if y1 = 110 then (bd (X11_readsDigits v2 2 h) fun r8 h9 =>
    cz r8 (some (r8, h9)))
    else if y1 = 116 then (bd (X11_readsDigits v2 2 h) fun r11 h12 =>
    cz r11 (some (r11, h12)))
    else if y1 = 119 then (bd (X11_readsWind v2 h) fun r14 h15 =>
    cz r14 (some (r14, h15)))
    else (cz 1 (some (1, h)))
set_option maxRecDepth 100000 in
theorem c_X11_readsAll (l : Launch) (v1 : Int32) (v2 : Int32) : MC l yX11_readsAll cX11_readsAll 3 (some .boolean) rmX11_readsAll ZR [.ref 0, .int v1, .int v2] rvI (X11_readsAll v1 v2) :=
  MC.of (own := RX11) pn_RX11 rfl (Nat.le_of_ble_eq_true rfl) fun X yd A h _ C =>
    aw_iload_n (pc := 0) C (i := 1) dK_c_55.1 rfl rfl <|
    aw_vlI fun y1 =>
    aw_if (fun c4 => aw_lsw (pc := 1) C (off := 64) (tg := 65) dK_c_55.2.1 (by decide) (by rw [c4]; rfl) rfl (aw_aload_n (pc := 65) C (i := 0) dK_c_56.2.2.2.1 rfl rfl <|
    aw_iload_n (pc := 66) C (i := 2) dK_c_56.2.2.2.2.1 rfl rfl <|
    aw_iconst (pc := 67) C (v := 1) dK_c_56.2.2.2.2.2.1 rfl <|
    aw_callF (pc := 68) C (cr_V (rest := []) (F := (X11_readsDigits v2 1)) C (c_X11_readsDigits X.2.1 v2 1) dK_c_56.2.2.2.2.2.2.1 mf_X11_readsDigits ml_X11_130 im_X11_readsDigits se_X11_readsDigits sR_0 rfl ⟨(Nat.le_of_ble_eq_true rfl), (Nat.le_of_ble_eq_true rfl)⟩ rfl rfl (Nat.le_of_ble_eq_true rfl)) rfl rfl rfl (Nat.zero_le _) (Nat.zero_le _) fun r2 h3 =>
    aw_zret (pc := 71) C dK_c_56.2.2.2.2.2.2.2.1 rfl rfl)) (fun c4 =>
    aw_if (fun c7 => aw_lsw (pc := 1) C (off := 71) (tg := 72) dK_c_55.2.1 (by decide) (by rw [c7]; rfl) rfl (aw_aload_n (pc := 72) C (i := 0) dK_c_57.1 rfl rfl <|
    aw_iload_n (pc := 73) C (i := 2) dK_c_57.2.1 rfl rfl <|
    aw_callF (pc := 74) C (cr_V (rest := []) (F := (X11_readsJumper v2)) C (c_X11_readsJumper X.2.1 v2) dK_c_57.2.2.1 mf_X11_readsJumper ml_X11_138 im_X11_readsJumper se_X11_readsJumper sR_0 rfl ⟨(Nat.le_of_ble_eq_true rfl), (Nat.le_of_ble_eq_true rfl)⟩ rfl rfl (Nat.le_of_ble_eq_true rfl)) rfl rfl rfl (Nat.zero_le _) (Nat.zero_le _) fun r5 h6 =>
    aw_zret (pc := 77) C dK_c_57.2.2.2.1 rfl rfl)) (fun c7 =>
    aw_if (fun c10 => aw_lsw (pc := 1) C (off := 51) (tg := 52) dK_c_55.2.1 (by decide) (by rw [c10]; rfl) rfl (aw_aload_n (pc := 52) C (i := 0) dK_c_55.2.2.1 rfl rfl <|
    aw_iload_n (pc := 53) C (i := 2) dK_c_55.2.2.2.1 rfl rfl <|
    aw_iconst (pc := 54) C (v := 2) dK_c_55.2.2.2.2.1 rfl <|
    aw_callF (pc := 55) C (cr_V (rest := []) (F := (X11_readsDigits v2 2)) C (c_X11_readsDigits X.2.1 v2 2) dK_c_55.2.2.2.2.2.1 mf_X11_readsDigits ml_X11_130 im_X11_readsDigits se_X11_readsDigits sR_0 rfl ⟨(Nat.le_of_ble_eq_true rfl), (Nat.le_of_ble_eq_true rfl)⟩ rfl rfl (Nat.le_of_ble_eq_true rfl)) rfl rfl rfl (Nat.zero_le _) (Nat.zero_le _) fun r8 h9 =>
    aw_zret (pc := 58) C dK_c_55.2.2.2.2.2.2.1 rfl rfl)) (fun c10 =>
    aw_if (fun c13 => aw_lsw (pc := 1) C (off := 51) (tg := 52) dK_c_55.2.1 (by decide) (by rw [c13]; rfl) rfl (aw_aload_n (pc := 52) C (i := 0) dK_c_55.2.2.1 rfl rfl <|
    aw_iload_n (pc := 53) C (i := 2) dK_c_55.2.2.2.1 rfl rfl <|
    aw_iconst (pc := 54) C (v := 2) dK_c_55.2.2.2.2.1 rfl <|
    aw_callF (pc := 55) C (cr_V (rest := []) (F := (X11_readsDigits v2 2)) C (c_X11_readsDigits X.2.1 v2 2) dK_c_55.2.2.2.2.2.1 mf_X11_readsDigits ml_X11_130 im_X11_readsDigits se_X11_readsDigits sR_0 rfl ⟨(Nat.le_of_ble_eq_true rfl), (Nat.le_of_ble_eq_true rfl)⟩ rfl rfl (Nat.le_of_ble_eq_true rfl)) rfl rfl rfl (Nat.zero_le _) (Nat.zero_le _) fun r11 h12 =>
    aw_zret (pc := 58) C dK_c_55.2.2.2.2.2.2.1 rfl rfl)) (fun c13 =>
    aw_if (fun c16 => aw_lsw (pc := 1) C (off := 58) (tg := 59) dK_c_55.2.1 (by decide) (by rw [c16]; rfl) rfl (aw_aload_n (pc := 59) C (i := 0) dK_c_55.2.2.2.2.2.2.2.1 rfl rfl <|
    aw_iload_n (pc := 60) C (i := 2) dK_c_56.1 rfl rfl <|
    aw_callF (pc := 61) C (cr_V (rest := []) (F := (X11_readsWind v2)) C (c_X11_readsWind X.2.1 v2) dK_c_56.2.1 mf_X11_readsWind ml_X11_134 im_X11_readsWind se_X11_readsWind sR_0 rfl ⟨(Nat.le_of_ble_eq_true rfl), (Nat.le_of_ble_eq_true rfl)⟩ rfl rfl (Nat.le_of_ble_eq_true rfl)) rfl rfl rfl (Nat.zero_le _) (Nat.zero_le _) fun r14 h15 =>
    aw_zret (pc := 64) C dK_c_56.2.2.1 rfl rfl)) (fun c16 =>
    aw_lsw (pc := 1) C (off := 77) (tg := 78) dK_c_55.2.1 (by decide) (by exact lswD [103, 106, 110, 116, 119] (List.forall_mem_cons.mpr ⟨ti_ne c4 rfl, List.forall_mem_cons.mpr ⟨ti_ne c7 rfl, List.forall_mem_cons.mpr ⟨ti_ne c10 rfl, List.forall_mem_cons.mpr ⟨ti_ne c13 rfl, List.forall_mem_cons.mpr ⟨ti_ne c16 rfl, fun _ hz => by cases hz⟩⟩⟩⟩⟩) (by decide)) rfl (aw_iconst (pc := 78) C (v := 1) dK_c_57.2.2.2.2.1 rfl <|
    aw_zret (pc := 79) C dK_c_57.2.2.2.2.2.1 rfl rfl))))))

abbrev rmX11_statement : Room := { frames := 4, cells := 0, slots := 0, locals := 90 }
def X11_statement_j49  (v1 : Int32) (h : AH) : Option (Int32 × AH) :=
    ck (h.1 0 23) 48 (vl (sI h 14 (h.1 0 23).toNatClampNeg v1) fun h3 =>
    ck (h3.1 0 23) 48 (vl (sI h3 15 (h3.1 0 23).toNatClampNeg (h3.1 0 22)) fun h4 =>
    vl (sI h4 0 22 ((h4.1 0 22) + 1)) fun h5 =>
    bd (X11_readsAll v1 (8 * (h5.1 0 23)) h5) fun r6 h7 =>
    if r6 = 0 then (cz 0 (some (0, h7)))
    else (bd (X11_next h7) fun r8 h9 =>
    if r8 = 59 then (vl (sI h9 0 22 ((h9.1 0 22) + 1)) fun h10 =>
    cz 1 (some (1, h10)))
    else (cz 0 (some (0, h9))))))
set_option maxRecDepth 100000 in
theorem aX11_statement_j49 {X : MCx} {yd : Dyn} {A : Nat → Prop} (C : OK X cX11_statement RX11 2 (some .boolean) rmX11_statement A)  (v1 : Int32) (h : AH) : AW X 2 ZR yd A 0 0 (QF X rmX11_statement ZR yd rvI A) 49 [(0, .ref 0), (1, .int v1)] [] h (X11_statement_j49 v1 h) := by
    exact aw_aload_n (pc := 49) C (i := 0) dK_c_61.2.2.1 rfl rfl <|
    aw_getR (pc := 50) C (b := 14) dK_c_61.2.2.2.1 fl_X11_49 sR_0 rfl rR_0_18 <|
    aw_aload_n (pc := 53) C (i := 0) dK_c_61.2.2.2.2.1 rfl rfl <|
    aw_getI (pc := 54) C dK_c_61.2.2.2.2.2.1 fl_X11_141 sR_0 rfl <|
    aw_iload_n (pc := 57) C (i := 1) dK_c_61.2.2.2.2.2.2.1 rfl rfl <|
    aw_iast (pc := 58) C dK_c_61.2.2.2.2.2.2.2.1 sR_14 rfl fun h3 =>
    aw_aload_n (pc := 59) C (i := 0) dK_c_62.1 rfl rfl <|
    aw_getR (pc := 60) C (b := 15) dK_c_62.2.1 fl_X11_52 sR_0 rfl rR_0_19 <|
    aw_aload_n (pc := 63) C (i := 0) dK_c_62.2.2.1 rfl rfl <|
    aw_getI (pc := 64) C dK_c_62.2.2.2.1 fl_X11_141 sR_0 rfl <|
    aw_aload_n (pc := 67) C (i := 0) dK_c_62.2.2.2.2.1 rfl rfl <|
    aw_getI (pc := 68) C dK_c_62.2.2.2.2.2.1 fl_X11_119 sR_0 rfl <|
    aw_iast (pc := 71) C dK_c_62.2.2.2.2.2.2.1 sR_15 rfl fun h4 =>
    aw_aload_n (pc := 72) C (i := 0) dK_c_62.2.2.2.2.2.2.2.1 rfl rfl <|
    aw_dup (pc := 73) C dK_c_63.1 rfl <|
    aw_getI (pc := 74) C dK_c_63.2.1 fl_X11_119 sR_0 rfl <|
    aw_iconst (pc := 77) C (v := 1) dK_c_63.2.2.1 rfl <|
    aw_iadd (pc := 78) C dK_c_63.2.2.2.1 <|
    aw_putI (pc := 79) C dK_c_63.2.2.2.2.1 fp_X11_119 sR_0 rfl fun h5 =>
    aw_aload_n (pc := 82) C (i := 0) dK_c_63.2.2.2.2.2.1 rfl rfl <|
    aw_iload_n (pc := 83) C (i := 1) dK_c_63.2.2.2.2.2.2.1 rfl rfl <|
    aw_bipush (pc := 84) C (v := 8) dK_c_63.2.2.2.2.2.2.2.1 rfl <|
    aw_aload_n (pc := 86) C (i := 0) dK_c_64.1 rfl rfl <|
    aw_getI (pc := 87) C dK_c_64.2.1 fl_X11_141 sR_0 rfl <|
    aw_imul (pc := 90) C dK_c_64.2.2.1 <|
    aw_callF (pc := 91) C (cr_V (rest := []) (F := (X11_readsAll v1 (8 * (h5.1 0 23)))) C (c_X11_readsAll X.2.1 v1 (8 * (h5.1 0 23))) dK_c_64.2.2.2.1 mf_X11_readsAll ml_X11_144 im_X11_readsAll se_X11_readsAll sR_0 rfl ⟨(Nat.le_of_ble_eq_true rfl), (Nat.le_of_ble_eq_true rfl)⟩ rfl rfl (Nat.le_of_ble_eq_true rfl)) rfl rfl rfl (Nat.zero_le _) (Nat.zero_le _) fun r6 h7 =>
    aw_if_eq (pc := 94) C (tgt := 106) dK_c_64.2.2.2.2.1 rfl (fun _ =>
    aw_iconst (pc := 106) C (v := 0) dK_c_65.2.1 rfl <|
    aw_zret (pc := 107) C dK_c_65.2.2.1 rfl rfl) (fun _ =>
    aw_aload_n (pc := 97) C (i := 0) dK_c_64.2.2.2.2.2.1 rfl rfl <|
    aw_callF (pc := 98) C (cr_V (rest := []) (F := X11_next) C (c_X11_next X.2.1 ) dK_c_64.2.2.2.2.2.2.1 mf_X11_next ml_X11_122 im_X11_next se_X11_next sR_0 rfl ⟨(Nat.le_of_ble_eq_true rfl), (Nat.le_of_ble_eq_true rfl)⟩ rfl rfl (Nat.le_of_ble_eq_true rfl)) rfl rfl rfl (Nat.zero_le _) (Nat.zero_le _) fun r8 h9 =>
    aw_bipush (pc := 101) C (v := 59) dK_c_64.2.2.2.2.2.2.2.1 rfl <|
    aw_icmp_eq (pc := 103) C (tgt := 108) dK_c_65.1 rfl (fun _ =>
    aw_aload_n (pc := 108) C (i := 0) dK_c_65.2.2.2.1 rfl rfl <|
    aw_dup (pc := 109) C dK_c_65.2.2.2.2.1 rfl <|
    aw_getI (pc := 110) C dK_c_65.2.2.2.2.2.1 fl_X11_119 sR_0 rfl <|
    aw_iconst (pc := 113) C (v := 1) dK_c_65.2.2.2.2.2.2.1 rfl <|
    aw_iadd (pc := 114) C dK_c_65.2.2.2.2.2.2.2.1 <|
    aw_putI (pc := 115) C dK_c_66.1 fp_X11_119 sR_0 rfl fun h10 =>
    aw_iconst (pc := 118) C (v := 1) dK_c_66.2.1 rfl <|
    aw_zret (pc := 119) C dK_c_66.2.2.1 rfl rfl) (fun _ =>
    aw_iconst (pc := 106) C (v := 0) dK_c_65.2.1 rfl <|
    aw_zret (pc := 107) C dK_c_65.2.2.1 rfl rfl))
def X11_statement  (h : AH) : Option (Int32 × AH) :=
    bd (X11_next h) fun r1 h2 =>
    if r1 = 110 then (X11_statement_j49 r1 h2)
    else (if r1 = 119 then (X11_statement_j49 r1 h2)
    else (if r1 = 103 then (X11_statement_j49 r1 h2)
    else (if r1 = 106 then (X11_statement_j49 r1 h2)
    else (if r1 = 116 then (X11_statement_j49 r1 h2)
    else (if r1 = 102 then (X11_statement_j49 r1 h2)
    else (if r1 = 112 then (X11_statement_j49 r1 h2)
    else (cz 0 (some (0, h2)))))))))
set_option maxRecDepth 100000 in
theorem c_X11_statement (l : Launch)  : MC l yX11_statement cX11_statement 2 (some .boolean) rmX11_statement ZR [.ref 0] rvI (X11_statement) :=
  MC.of (own := RX11) pn_RX11 rfl (Nat.le_of_ble_eq_true rfl) fun X yd A h _ C =>
    aw_aload_n (pc := 0) C (i := 0) dK_c_58.1 rfl rfl <|
    aw_callF (pc := 1) C (cr_V (rest := []) (F := X11_next) C (c_X11_next X.2.1 ) dK_c_58.2.1 mf_X11_next ml_X11_122 im_X11_next se_X11_next sR_0 rfl ⟨(Nat.le_of_ble_eq_true rfl), (Nat.le_of_ble_eq_true rfl)⟩ rfl rfl (Nat.le_of_ble_eq_true rfl)) rfl rfl rfl (Nat.zero_le _) (Nat.zero_le _) fun r1 h2 =>
    aw_istore_n (pc := 4) C (i := 1) (lv' := [(0, .ref 0), (1, .int r1)]) dK_c_58.2.2.1 rfl (by decide) rfl <|
    aw_iload_n (pc := 5) C (i := 1) dK_c_58.2.2.2.1 rfl rfl <|
    aw_bipush (pc := 6) C (v := 110) dK_c_58.2.2.2.2.1 rfl <|
    aw_icmp_eq (pc := 8) C (tgt := 49) dK_c_58.2.2.2.2.2.1 rfl (fun _ =>
    (aX11_statement_j49 C r1 h2)) (fun _ =>
    aw_iload_n (pc := 11) C (i := 1) dK_c_58.2.2.2.2.2.2.1 rfl rfl <|
    aw_bipush (pc := 12) C (v := 119) dK_c_58.2.2.2.2.2.2.2.1 rfl <|
    aw_icmp_eq (pc := 14) C (tgt := 49) dK_c_59.1 rfl (fun _ =>
    (aX11_statement_j49 C r1 h2)) (fun _ =>
    aw_iload_n (pc := 17) C (i := 1) dK_c_59.2.1 rfl rfl <|
    aw_bipush (pc := 18) C (v := 103) dK_c_59.2.2.1 rfl <|
    aw_icmp_eq (pc := 20) C (tgt := 49) dK_c_59.2.2.2.1 rfl (fun _ =>
    (aX11_statement_j49 C r1 h2)) (fun _ =>
    aw_iload_n (pc := 23) C (i := 1) dK_c_59.2.2.2.2.1 rfl rfl <|
    aw_bipush (pc := 24) C (v := 106) dK_c_59.2.2.2.2.2.1 rfl <|
    aw_icmp_eq (pc := 26) C (tgt := 49) dK_c_59.2.2.2.2.2.2.1 rfl (fun _ =>
    (aX11_statement_j49 C r1 h2)) (fun _ =>
    aw_iload_n (pc := 29) C (i := 1) dK_c_59.2.2.2.2.2.2.2.1 rfl rfl <|
    aw_bipush (pc := 30) C (v := 116) dK_c_60.1 rfl <|
    aw_icmp_eq (pc := 32) C (tgt := 49) dK_c_60.2.1 rfl (fun _ =>
    (aX11_statement_j49 C r1 h2)) (fun _ =>
    aw_iload_n (pc := 35) C (i := 1) dK_c_60.2.2.1 rfl rfl <|
    aw_bipush (pc := 36) C (v := 102) dK_c_60.2.2.2.1 rfl <|
    aw_icmp_eq (pc := 38) C (tgt := 49) dK_c_60.2.2.2.2.1 rfl (fun _ =>
    (aX11_statement_j49 C r1 h2)) (fun _ =>
    aw_iload_n (pc := 41) C (i := 1) dK_c_60.2.2.2.2.2.1 rfl rfl <|
    aw_bipush (pc := 42) C (v := 112) dK_c_60.2.2.2.2.2.2.1 rfl <|
    aw_icmp_eq (pc := 44) C (tgt := 49) dK_c_60.2.2.2.2.2.2.2.1 rfl (fun _ =>
    (aX11_statement_j49 C r1 h2)) (fun _ =>
    aw_iconst (pc := 47) C (v := 0) dK_c_61.1 rfl <|
    aw_zret (pc := 48) C dK_c_61.2.1 rfl rfl)))))))

abbrev rmX11_comesJumper : Room := { frames := 0, cells := 0, slots := 0, locals := 0 }
def X11_comesJumper (v1 : Int32) (h : AH) : Option (Int32 × AH) :=
    ck v1 384 (if 5 < (h.1 16 v1.toNatClampNeg) then (cz 0 (some (0, h)))
    else (ck (v1 + 2) 384 (if (h.1 16 (v1 + 2).toNatClampNeg) < 40 then (cz 0 (some (0, h)))
    else (ck (v1 + 4) 384 (if 6 < (h.1 16 (v1 + 4).toNatClampNeg) then (cz 0 (some (0, h)))
    else (ck (v1 + 5) 384 (if (h.1 16 (v1 + 5).toNatClampNeg) < 20 then (cz 0 (some (0, h)))
    else (ck (v1 + 6) 384 (if 4 < (h.1 16 (v1 + 6).toNatClampNeg) then (cz 0 (some (0, h)))
    else (ck (v1 + 7) 384 (if 2400 < (h.1 16 (v1 + 7).toNatClampNeg) then (cz 0 (some (0, h)))
    else (if (h.1 0 15) = 4 then (cz 0 (some (0, h)))
    else (if (h.1 0 16) ≤ 0 then (ck v1 384 (ck (h.1 0 15) 4 (vl (sI h 2 (h.1 0 15).toNatClampNeg (h.1 16 v1.toNatClampNeg)) fun h1 =>
    ck (v1 + 1) 384 (ck (h1.1 0 15) 4 (vl (sI h1 3 (h1.1 0 15).toNatClampNeg (h1.1 16 (v1 + 1).toNatClampNeg)) fun h2 =>
    ck (v1 + 2) 384 (ck (h2.1 0 15) 4 (vl (sI h2 4 (h2.1 0 15).toNatClampNeg (h2.1 16 (v1 + 2).toNatClampNeg)) fun h3 =>
    ck (v1 + 3) 384 (ck (h3.1 0 15) 4 (vl (sI h3 5 (h3.1 0 15).toNatClampNeg (h3.1 16 (v1 + 3).toNatClampNeg)) fun h4 =>
    ck (v1 + 4) 384 (ck (h4.1 0 15) 4 (vl (sI h4 6 (h4.1 0 15).toNatClampNeg (h4.1 16 (v1 + 4).toNatClampNeg)) fun h5 =>
    ck (v1 + 5) 384 (ck (h5.1 0 15) 4 (vl (sI h5 7 (h5.1 0 15).toNatClampNeg (h5.1 16 (v1 + 5).toNatClampNeg)) fun h6 =>
    ck (v1 + 6) 384 (ck (h6.1 0 15) 4 (vl (sI h6 8 (h6.1 0 15).toNatClampNeg (h6.1 16 (v1 + 6).toNatClampNeg)) fun h7 =>
    ck (v1 + 7) 384 (ck (h7.1 0 15) 4 (vl (sI h7 9 (h7.1 0 15).toNatClampNeg (h7.1 16 (v1 + 7).toNatClampNeg)) fun h8 =>
    vl (sI h8 0 15 ((h8.1 0 15) + 1)) fun h9 =>
    cz 1 (some (1, h9)))))))))))))))))))
    else (cz 0 (some (0, h))))))))))))))))
set_option maxRecDepth 100000 in
theorem c_X11_comesJumper (l : Launch) (v1 : Int32) : MC l yX11_comesJumper cX11_comesJumper 2 (some .boolean) rmX11_comesJumper ZR [.ref 0, .int v1] rvI (X11_comesJumper v1) :=
  MC.of (own := RX11) pn_RX11 rfl (Nat.le_of_ble_eq_true rfl) fun X yd A h _ C =>
    aw_aload_n (pc := 0) C (i := 0) dK_c_67.1 rfl rfl <|
    aw_getR (pc := 1) C (b := 16) dK_c_67.2.1 fl_X11_55 sR_0 rfl rR_0_20 <|
    aw_iload_n (pc := 4) C (i := 1) dK_c_67.2.2.1 rfl rfl <|
    aw_iald (pc := 5) C dK_c_67.2.2.2.1 sR_16 rfl <|
    aw_iconst (pc := 6) C (v := 5) dK_c_67.2.2.2.2.1 rfl <|
    aw_icmp_gt (pc := 7) C (tgt := 92) dK_c_67.2.2.2.2.2.1 rfl (fun _ =>
    aw_iconst (pc := 92) C (v := 0) dK_c_73.2.2.2.2.2.1 rfl <|
    aw_zret (pc := 93) C dK_c_73.2.2.2.2.2.2.1 rfl rfl) (fun _ =>
    aw_aload_n (pc := 10) C (i := 0) dK_c_67.2.2.2.2.2.2.1 rfl rfl <|
    aw_getR (pc := 11) C (b := 16) dK_c_67.2.2.2.2.2.2.2.1 fl_X11_55 sR_0 rfl rR_0_20 <|
    aw_iload_n (pc := 14) C (i := 1) dK_c_68.1 rfl rfl <|
    aw_iconst (pc := 15) C (v := 2) dK_c_68.2.1 rfl <|
    aw_iadd (pc := 16) C dK_c_68.2.2.1 <|
    aw_iald (pc := 17) C dK_c_68.2.2.2.1 sR_16 rfl <|
    aw_bipush (pc := 18) C (v := 40) dK_c_68.2.2.2.2.1 rfl <|
    aw_icmp_lt (pc := 20) C (tgt := 92) dK_c_68.2.2.2.2.2.1 rfl (fun _ =>
    aw_iconst (pc := 92) C (v := 0) dK_c_73.2.2.2.2.2.1 rfl <|
    aw_zret (pc := 93) C dK_c_73.2.2.2.2.2.2.1 rfl rfl) (fun _ =>
    aw_aload_n (pc := 23) C (i := 0) dK_c_68.2.2.2.2.2.2.1 rfl rfl <|
    aw_getR (pc := 24) C (b := 16) dK_c_68.2.2.2.2.2.2.2.1 fl_X11_55 sR_0 rfl rR_0_20 <|
    aw_iload_n (pc := 27) C (i := 1) dK_c_69.1 rfl rfl <|
    aw_iconst (pc := 28) C (v := 4) dK_c_69.2.1 rfl <|
    aw_iadd (pc := 29) C dK_c_69.2.2.1 <|
    aw_iald (pc := 30) C dK_c_69.2.2.2.1 sR_16 rfl <|
    aw_bipush (pc := 31) C (v := 6) dK_c_69.2.2.2.2.1 rfl <|
    aw_icmp_gt (pc := 33) C (tgt := 92) dK_c_69.2.2.2.2.2.1 rfl (fun _ =>
    aw_iconst (pc := 92) C (v := 0) dK_c_73.2.2.2.2.2.1 rfl <|
    aw_zret (pc := 93) C dK_c_73.2.2.2.2.2.2.1 rfl rfl) (fun _ =>
    aw_aload_n (pc := 36) C (i := 0) dK_c_69.2.2.2.2.2.2.1 rfl rfl <|
    aw_getR (pc := 37) C (b := 16) dK_c_69.2.2.2.2.2.2.2.1 fl_X11_55 sR_0 rfl rR_0_20 <|
    aw_iload_n (pc := 40) C (i := 1) dK_c_70.1 rfl rfl <|
    aw_iconst (pc := 41) C (v := 5) dK_c_70.2.1 rfl <|
    aw_iadd (pc := 42) C dK_c_70.2.2.1 <|
    aw_iald (pc := 43) C dK_c_70.2.2.2.1 sR_16 rfl <|
    aw_bipush (pc := 44) C (v := 20) dK_c_70.2.2.2.2.1 rfl <|
    aw_icmp_lt (pc := 46) C (tgt := 92) dK_c_70.2.2.2.2.2.1 rfl (fun _ =>
    aw_iconst (pc := 92) C (v := 0) dK_c_73.2.2.2.2.2.1 rfl <|
    aw_zret (pc := 93) C dK_c_73.2.2.2.2.2.2.1 rfl rfl) (fun _ =>
    aw_aload_n (pc := 49) C (i := 0) dK_c_70.2.2.2.2.2.2.1 rfl rfl <|
    aw_getR (pc := 50) C (b := 16) dK_c_70.2.2.2.2.2.2.2.1 fl_X11_55 sR_0 rfl rR_0_20 <|
    aw_iload_n (pc := 53) C (i := 1) dK_c_71.1 rfl rfl <|
    aw_bipush (pc := 54) C (v := 6) dK_c_71.2.1 rfl <|
    aw_iadd (pc := 56) C dK_c_71.2.2.1 <|
    aw_iald (pc := 57) C dK_c_71.2.2.2.1 sR_16 rfl <|
    aw_iconst (pc := 58) C (v := 4) dK_c_71.2.2.2.2.1 rfl <|
    aw_icmp_gt (pc := 59) C (tgt := 92) dK_c_71.2.2.2.2.2.1 rfl (fun _ =>
    aw_iconst (pc := 92) C (v := 0) dK_c_73.2.2.2.2.2.1 rfl <|
    aw_zret (pc := 93) C dK_c_73.2.2.2.2.2.2.1 rfl rfl) (fun _ =>
    aw_aload_n (pc := 62) C (i := 0) dK_c_71.2.2.2.2.2.2.1 rfl rfl <|
    aw_getR (pc := 63) C (b := 16) dK_c_71.2.2.2.2.2.2.2.1 fl_X11_55 sR_0 rfl rR_0_20 <|
    aw_iload_n (pc := 66) C (i := 1) dK_c_72.1 rfl rfl <|
    aw_bipush (pc := 67) C (v := 7) dK_c_72.2.1 rfl <|
    aw_iadd (pc := 69) C dK_c_72.2.2.1 <|
    aw_iald (pc := 70) C dK_c_72.2.2.2.1 sR_16 rfl <|
    aw_sipush (pc := 71) C (v := 2400) dK_c_72.2.2.2.2.1 rfl <|
    aw_icmp_gt (pc := 74) C (tgt := 92) dK_c_72.2.2.2.2.2.1 rfl (fun _ =>
    aw_iconst (pc := 92) C (v := 0) dK_c_73.2.2.2.2.2.1 rfl <|
    aw_zret (pc := 93) C dK_c_73.2.2.2.2.2.2.1 rfl rfl) (fun _ =>
    aw_aload_n (pc := 77) C (i := 0) dK_c_72.2.2.2.2.2.2.1 rfl rfl <|
    aw_getI (pc := 78) C dK_c_72.2.2.2.2.2.2.2.1 fl_X11_105 sR_0 rfl <|
    aw_iconst (pc := 81) C (v := 4) dK_c_73.1 rfl <|
    aw_icmp_eq (pc := 82) C (tgt := 92) dK_c_73.2.1 rfl (fun _ =>
    aw_iconst (pc := 92) C (v := 0) dK_c_73.2.2.2.2.2.1 rfl <|
    aw_zret (pc := 93) C dK_c_73.2.2.2.2.2.2.1 rfl rfl) (fun _ =>
    aw_aload_n (pc := 85) C (i := 0) dK_c_73.2.2.1 rfl rfl <|
    aw_getI (pc := 86) C dK_c_73.2.2.2.1 fl_X11_147 sR_0 rfl <|
    aw_if_le (pc := 89) C (tgt := 94) dK_c_73.2.2.2.2.1 rfl (fun _ =>
    aw_aload_n (pc := 94) C (i := 0) dK_c_73.2.2.2.2.2.2.2.1 rfl rfl <|
    aw_getR (pc := 95) C (b := 2) dK_c_74.1 fl_X11_13 sR_0 rfl rR_0_1 <|
    aw_aload_n (pc := 98) C (i := 0) dK_c_74.2.1 rfl rfl <|
    aw_getI (pc := 99) C dK_c_74.2.2.1 fl_X11_105 sR_0 rfl <|
    aw_aload_n (pc := 102) C (i := 0) dK_c_74.2.2.2.1 rfl rfl <|
    aw_getR (pc := 103) C (b := 16) dK_c_74.2.2.2.2.1 fl_X11_55 sR_0 rfl rR_0_20 <|
    aw_iload_n (pc := 106) C (i := 1) dK_c_74.2.2.2.2.2.1 rfl rfl <|
    aw_iald (pc := 107) C dK_c_74.2.2.2.2.2.2.1 sR_16 rfl <|
    aw_iast (pc := 108) C dK_c_74.2.2.2.2.2.2.2.1 sR_2 rfl fun h1 =>
    aw_aload_n (pc := 109) C (i := 0) dK_c_75.1 rfl rfl <|
    aw_getR (pc := 110) C (b := 3) dK_c_75.2.1 fl_X11_16 sR_0 rfl rR_0_2 <|
    aw_aload_n (pc := 113) C (i := 0) dK_c_75.2.2.1 rfl rfl <|
    aw_getI (pc := 114) C dK_c_75.2.2.2.1 fl_X11_105 sR_0 rfl <|
    aw_aload_n (pc := 117) C (i := 0) dK_c_75.2.2.2.2.1 rfl rfl <|
    aw_getR (pc := 118) C (b := 16) dK_c_75.2.2.2.2.2.1 fl_X11_55 sR_0 rfl rR_0_20 <|
    aw_iload_n (pc := 121) C (i := 1) dK_c_75.2.2.2.2.2.2.1 rfl rfl <|
    aw_iconst (pc := 122) C (v := 1) dK_c_75.2.2.2.2.2.2.2.1 rfl <|
    aw_iadd (pc := 123) C dK_c_76.1 <|
    aw_iald (pc := 124) C dK_c_76.2.1 sR_16 rfl <|
    aw_iast (pc := 125) C dK_c_76.2.2.1 sR_3 rfl fun h2 =>
    aw_aload_n (pc := 126) C (i := 0) dK_c_76.2.2.2.1 rfl rfl <|
    aw_getR (pc := 127) C (b := 4) dK_c_76.2.2.2.2.1 fl_X11_19 sR_0 rfl rR_0_3 <|
    aw_aload_n (pc := 130) C (i := 0) dK_c_76.2.2.2.2.2.1 rfl rfl <|
    aw_getI (pc := 131) C dK_c_76.2.2.2.2.2.2.1 fl_X11_105 sR_0 rfl <|
    aw_aload_n (pc := 134) C (i := 0) dK_c_76.2.2.2.2.2.2.2.1 rfl rfl <|
    aw_getR (pc := 135) C (b := 16) dK_c_77.1 fl_X11_55 sR_0 rfl rR_0_20 <|
    aw_iload_n (pc := 138) C (i := 1) dK_c_77.2.1 rfl rfl <|
    aw_iconst (pc := 139) C (v := 2) dK_c_77.2.2.1 rfl <|
    aw_iadd (pc := 140) C dK_c_77.2.2.2.1 <|
    aw_iald (pc := 141) C dK_c_77.2.2.2.2.1 sR_16 rfl <|
    aw_iast (pc := 142) C dK_c_77.2.2.2.2.2.1 sR_4 rfl fun h3 =>
    aw_aload_n (pc := 143) C (i := 0) dK_c_77.2.2.2.2.2.2.1 rfl rfl <|
    aw_getR (pc := 144) C (b := 5) dK_c_77.2.2.2.2.2.2.2.1 fl_X11_22 sR_0 rfl rR_0_4 <|
    aw_aload_n (pc := 147) C (i := 0) dK_c_78.1 rfl rfl <|
    aw_getI (pc := 148) C dK_c_78.2.1 fl_X11_105 sR_0 rfl <|
    aw_aload_n (pc := 151) C (i := 0) dK_c_78.2.2.1 rfl rfl <|
    aw_getR (pc := 152) C (b := 16) dK_c_78.2.2.2.1 fl_X11_55 sR_0 rfl rR_0_20 <|
    aw_iload_n (pc := 155) C (i := 1) dK_c_78.2.2.2.2.1 rfl rfl <|
    aw_iconst (pc := 156) C (v := 3) dK_c_78.2.2.2.2.2.1 rfl <|
    aw_iadd (pc := 157) C dK_c_78.2.2.2.2.2.2.1 <|
    aw_iald (pc := 158) C dK_c_78.2.2.2.2.2.2.2.1 sR_16 rfl <|
    aw_iast (pc := 159) C dK_c_79.1 sR_5 rfl fun h4 =>
    aw_aload_n (pc := 160) C (i := 0) dK_c_79.2.1 rfl rfl <|
    aw_getR (pc := 161) C (b := 6) dK_c_79.2.2.1 fl_X11_25 sR_0 rfl rR_0_5 <|
    aw_aload_n (pc := 164) C (i := 0) dK_c_79.2.2.2.1 rfl rfl <|
    aw_getI (pc := 165) C dK_c_79.2.2.2.2.1 fl_X11_105 sR_0 rfl <|
    aw_aload_n (pc := 168) C (i := 0) dK_c_79.2.2.2.2.2.1 rfl rfl <|
    aw_getR (pc := 169) C (b := 16) dK_c_79.2.2.2.2.2.2.1 fl_X11_55 sR_0 rfl rR_0_20 <|
    aw_iload_n (pc := 172) C (i := 1) dK_c_79.2.2.2.2.2.2.2.1 rfl rfl <|
    aw_iconst (pc := 173) C (v := 4) dK_c_80.1 rfl <|
    aw_iadd (pc := 174) C dK_c_80.2.1 <|
    aw_iald (pc := 175) C dK_c_80.2.2.1 sR_16 rfl <|
    aw_iast (pc := 176) C dK_c_80.2.2.2.1 sR_6 rfl fun h5 =>
    aw_aload_n (pc := 177) C (i := 0) dK_c_80.2.2.2.2.1 rfl rfl <|
    aw_getR (pc := 178) C (b := 7) dK_c_80.2.2.2.2.2.1 fl_X11_28 sR_0 rfl rR_0_6 <|
    aw_aload_n (pc := 181) C (i := 0) dK_c_80.2.2.2.2.2.2.1 rfl rfl <|
    aw_getI (pc := 182) C dK_c_80.2.2.2.2.2.2.2.1 fl_X11_105 sR_0 rfl <|
    aw_aload_n (pc := 185) C (i := 0) dK_c_81.1 rfl rfl <|
    aw_getR (pc := 186) C (b := 16) dK_c_81.2.1 fl_X11_55 sR_0 rfl rR_0_20 <|
    aw_iload_n (pc := 189) C (i := 1) dK_c_81.2.2.1 rfl rfl <|
    aw_iconst (pc := 190) C (v := 5) dK_c_81.2.2.2.1 rfl <|
    aw_iadd (pc := 191) C dK_c_81.2.2.2.2.1 <|
    aw_iald (pc := 192) C dK_c_81.2.2.2.2.2.1 sR_16 rfl <|
    aw_iast (pc := 193) C dK_c_81.2.2.2.2.2.2.1 sR_7 rfl fun h6 =>
    aw_aload_n (pc := 194) C (i := 0) dK_c_81.2.2.2.2.2.2.2.1 rfl rfl <|
    aw_getR (pc := 195) C (b := 8) dK_c_82.1 fl_X11_31 sR_0 rfl rR_0_7 <|
    aw_aload_n (pc := 198) C (i := 0) dK_c_82.2.1 rfl rfl <|
    aw_getI (pc := 199) C dK_c_82.2.2.1 fl_X11_105 sR_0 rfl <|
    aw_aload_n (pc := 202) C (i := 0) dK_c_82.2.2.2.1 rfl rfl <|
    aw_getR (pc := 203) C (b := 16) dK_c_82.2.2.2.2.1 fl_X11_55 sR_0 rfl rR_0_20 <|
    aw_iload_n (pc := 206) C (i := 1) dK_c_82.2.2.2.2.2.1 rfl rfl <|
    aw_bipush (pc := 207) C (v := 6) dK_c_82.2.2.2.2.2.2.1 rfl <|
    aw_iadd (pc := 209) C dK_c_82.2.2.2.2.2.2.2.1 <|
    aw_iald (pc := 210) C dK_c_83.1 sR_16 rfl <|
    aw_iast (pc := 211) C dK_c_83.2.1 sR_8 rfl fun h7 =>
    aw_aload_n (pc := 212) C (i := 0) dK_c_83.2.2.1 rfl rfl <|
    aw_getR (pc := 213) C (b := 9) dK_c_83.2.2.2.1 fl_X11_34 sR_0 rfl rR_0_8 <|
    aw_aload_n (pc := 216) C (i := 0) dK_c_83.2.2.2.2.1 rfl rfl <|
    aw_getI (pc := 217) C dK_c_83.2.2.2.2.2.1 fl_X11_105 sR_0 rfl <|
    aw_aload_n (pc := 220) C (i := 0) dK_c_83.2.2.2.2.2.2.1 rfl rfl <|
    aw_getR (pc := 221) C (b := 16) dK_c_83.2.2.2.2.2.2.2.1 fl_X11_55 sR_0 rfl rR_0_20 <|
    aw_iload_n (pc := 224) C (i := 1) dK_c_84.1 rfl rfl <|
    aw_bipush (pc := 225) C (v := 7) dK_c_84.2.1 rfl <|
    aw_iadd (pc := 227) C dK_c_84.2.2.1 <|
    aw_iald (pc := 228) C dK_c_84.2.2.2.1 sR_16 rfl <|
    aw_iast (pc := 229) C dK_c_84.2.2.2.2.1 sR_9 rfl fun h8 =>
    aw_aload_n (pc := 230) C (i := 0) dK_c_84.2.2.2.2.2.1 rfl rfl <|
    aw_dup (pc := 231) C dK_c_84.2.2.2.2.2.2.1 rfl <|
    aw_getI (pc := 232) C dK_c_84.2.2.2.2.2.2.2.1 fl_X11_105 sR_0 rfl <|
    aw_iconst (pc := 235) C (v := 1) dK_c_85.1 rfl <|
    aw_iadd (pc := 236) C dK_c_85.2.1 <|
    aw_putI (pc := 237) C dK_c_85.2.2.1 fp_X11_105 sR_0 rfl fun h9 =>
    aw_iconst (pc := 240) C (v := 1) dK_c_85.2.2.2.1 rfl <|
    aw_zret (pc := 241) C dK_c_85.2.2.2.2.1 rfl rfl) (fun _ =>
    aw_iconst (pc := 92) C (v := 0) dK_c_73.2.2.2.2.2.1 rfl <|
    aw_zret (pc := 93) C dK_c_73.2.2.2.2.2.2.1 rfl rfl))))))))
end
section
abbrev rmX11_finalists : Room := { frames := 0, cells := 0, slots := 0, locals := 0 }
def X11_finalists  (h : AH) : Option (Int32 × AH) :=
    if (h.1 0 15) ≤ (h.1 0 13) then (some ((h.1 0 15), h))
    else (some ((h.1 0 13), h))
set_option maxRecDepth 100000 in
theorem c_X11_finalists (l : Launch)  : MC l yX11_finalists cX11_finalists 1 (some .int) rmX11_finalists ZR [.ref 0] rvI (X11_finalists) :=
  MC.of (own := RX11) pn_RX11 rfl (Nat.le_of_ble_eq_true rfl) fun X yd A h _ C =>
    aw_aload_n (pc := 0) C (i := 0) dK_c_300.1 rfl rfl <|
    aw_getI (pc := 1) C dK_c_300.2.1 fl_X11_99 sR_0 rfl <|
    aw_aload_n (pc := 4) C (i := 0) dK_c_300.2.2.1 rfl rfl <|
    aw_getI (pc := 5) C dK_c_300.2.2.2.1 fl_X11_105 sR_0 rfl <|
    aw_icmp_ge (pc := 8) C (tgt := 18) dK_c_300.2.2.2.2.1 rfl (fun _ =>
    aw_aload_n (pc := 18) C (i := 0) dK_c_301.1 rfl rfl <|
    aw_getI (pc := 19) C dK_c_301.2.1 fl_X11_105 sR_0 rfl <|
    aw_iret (pc := 22) C dK_c_301.2.2.1 rfl rfl) (fun _ =>
    aw_aload_n (pc := 11) C (i := 0) dK_c_300.2.2.2.2.2.1 rfl rfl <|
    aw_getI (pc := 12) C dK_c_300.2.2.2.2.2.2.1 fl_X11_99 sR_0 rfl <|
    aw_goto (pc := 15) C (tgt := 22) dK_c_300.2.2.2.2.2.2.2.1 rfl <|
    aw_iret (pc := 22) C dK_c_301.2.2.1 rfl rfl)

abbrev rmX11_lengthOf : Room := { frames := 1, cells := 0, slots := 0, locals := 20 }
def X11_lengthOf (v1 : Int32) (v2 : Int32) (v3 : Int32) (h : AH) : Option (Int32 × AH) :=
    ck v1 4 (ck v1 4 (bd (X11_atLeast0 (((((4 * (h.1 7 v1.toNatClampNeg)) + (2 * (h.1 0 14))) + (h.1 3 v1.toNatClampNeg)) - v2) - (2 * v3)) h) fun r1 h2 =>
    bd (X11_atLeast0 (r1 - 3) h2) fun r3 h4 =>
    ck v1 4 (vl (h4.1 2 v1.toNatClampNeg) fun y5 =>
    if y5 = 1 then (some (r3, h4))
    else if y5 = 2 then (some ((r1 + 3), h4))
    else if y5 = 3 then (some (r3, h4))
    else if y5 = 4 then (bd (X11_atLeast0 ((r1 + 3) + (h4.1 0 14)) h4) fun r9 h10 =>
    some (r9, h10))
    else if y5 = 5 then (some ((r3 + 1), h4))
    else (some (r1, h4)))))
set_option maxRecDepth 100000 in
theorem c_X11_lengthOf (l : Launch) (v1 : Int32) (v2 : Int32) (v3 : Int32) : MC l yX11_lengthOf cX11_lengthOf 6 (some .int) rmX11_lengthOf ZR [.ref 0, .int v1, .int v2, .int v3] rvI (X11_lengthOf v1 v2 v3) :=
  MC.of (own := RX11) pn_RX11 rfl (Nat.le_of_ble_eq_true rfl) fun X yd A h _ C =>
    aw_iconst (pc := 0) C (v := 4) dK_c_149.1 rfl <|
    aw_aload_n (pc := 1) C (i := 0) dK_c_149.2.1 rfl rfl <|
    aw_getR (pc := 2) C (b := 7) dK_c_149.2.2.1 fl_X11_28 sR_0 rfl rR_0_6 <|
    aw_iload_n (pc := 5) C (i := 1) dK_c_149.2.2.2.1 rfl rfl <|
    aw_iald (pc := 6) C dK_c_149.2.2.2.2.1 sR_7 rfl <|
    aw_imul (pc := 7) C dK_c_149.2.2.2.2.2.1 <|
    aw_iconst (pc := 8) C (v := 2) dK_c_149.2.2.2.2.2.2.1 rfl <|
    aw_aload_n (pc := 9) C (i := 0) dK_c_149.2.2.2.2.2.2.2.1 rfl rfl <|
    aw_getI (pc := 10) C dK_c_150.1 fl_X11_157 sR_0 rfl <|
    aw_imul (pc := 13) C dK_c_150.2.1 <|
    aw_iadd (pc := 14) C dK_c_150.2.2.1 <|
    aw_aload_n (pc := 15) C (i := 0) dK_c_150.2.2.2.1 rfl rfl <|
    aw_getR (pc := 16) C (b := 3) dK_c_150.2.2.2.2.1 fl_X11_16 sR_0 rfl rR_0_2 <|
    aw_iload_n (pc := 19) C (i := 1) dK_c_150.2.2.2.2.2.1 rfl rfl <|
    aw_iald (pc := 20) C dK_c_150.2.2.2.2.2.2.1 sR_3 rfl <|
    aw_iadd (pc := 21) C dK_c_150.2.2.2.2.2.2.2.1 <|
    aw_iload_n (pc := 22) C (i := 2) dK_c_151.1 rfl rfl <|
    aw_isub (pc := 23) C dK_c_151.2.1 <|
    aw_iconst (pc := 24) C (v := 2) dK_c_151.2.2.1 rfl <|
    aw_iload_n (pc := 25) C (i := 3) dK_c_151.2.2.2.1 rfl rfl <|
    aw_imul (pc := 26) C dK_c_151.2.2.2.2.1 <|
    aw_isub (pc := 27) C dK_c_151.2.2.2.2.2.1 <|
    aw_callF (pc := 28) C (cr_S (rest := []) (F := (X11_atLeast0 (((((4 * (h.1 7 v1.toNatClampNeg)) + (2 * (h.1 0 14))) + (h.1 3 v1.toNatClampNeg)) - v2) - (2 * v3)))) C (c_X11_atLeast0 X.2.1 (((((4 * (h.1 7 v1.toNatClampNeg)) + (2 * (h.1 0 14))) + (h.1 3 v1.toNatClampNeg)) - v2) - (2 * v3))) dK_c_151.2.2.2.2.2.2.1 mf_X11_atLeast0 ml_X11_204 st_X11_atLeast0 ⟨(Nat.le_of_ble_eq_true rfl), (Nat.le_of_ble_eq_true rfl)⟩ rfl rfl (Nat.le_of_ble_eq_true rfl)) rfl rfl rfl (Nat.zero_le _) (Nat.zero_le _) fun r1 h2 =>
    aw_istore (pc := 31) C (i := 4) (lv' := [(0, .ref 0), (1, .int v1), (2, .int v2), (3, .int v3), (4, .int r1)]) dK_c_151.2.2.2.2.2.2.2.1 (by decide) rfl <|
    aw_iload (pc := 33) C (i := 4) dK_c_152.1 rfl <|
    aw_iconst (pc := 35) C (v := 3) dK_c_152.2.1 rfl <|
    aw_isub (pc := 36) C dK_c_152.2.2.1 <|
    aw_callF (pc := 37) C (cr_S (rest := []) (F := (X11_atLeast0 (r1 - 3))) C (c_X11_atLeast0 X.2.1 (r1 - 3)) dK_c_152.2.2.2.1 mf_X11_atLeast0 ml_X11_204 st_X11_atLeast0 ⟨(Nat.le_of_ble_eq_true rfl), (Nat.le_of_ble_eq_true rfl)⟩ rfl rfl (Nat.le_of_ble_eq_true rfl)) rfl rfl rfl (Nat.zero_le _) (Nat.zero_le _) fun r3 h4 =>
    aw_istore (pc := 40) C (i := 5) (lv' := [(0, .ref 0), (1, .int v1), (2, .int v2), (3, .int v3), (4, .int r1), (5, .int r3)]) dK_c_152.2.2.2.2.1 (by decide) rfl <|
    aw_aload_n (pc := 42) C (i := 0) dK_c_152.2.2.2.2.2.1 rfl rfl <|
    aw_getR (pc := 43) C (b := 2) dK_c_152.2.2.2.2.2.2.1 fl_X11_13 sR_0 rfl rR_0_1 <|
    aw_iload_n (pc := 46) C (i := 1) dK_c_152.2.2.2.2.2.2.2.1 rfl rfl <|
    aw_iald (pc := 47) C dK_c_153.1 sR_2 rfl <|
    aw_vlI fun y5 =>
    aw_if (fun c6 => aw_tswA (pc := 48) C (off := 36) (tg := 84) 1 dK_c_153.2.1 (by rw [c6]; rfl) (by decide) (by decide) rfl rfl (aw_iload (pc := 84) C (i := 5) dK_c_153.2.2.1 rfl <|
    aw_iret (pc := 86) C dK_c_153.2.2.2.1 rfl rfl)) (fun c6 =>
    aw_if (fun c7 => aw_tswA (pc := 48) C (off := 39) (tg := 87) 2 dK_c_153.2.1 (by rw [c7]; rfl) (by decide) (by decide) rfl rfl (aw_iload (pc := 87) C (i := 4) dK_c_153.2.2.2.2.1 rfl <|
    aw_iconst (pc := 89) C (v := 3) dK_c_153.2.2.2.2.2.1 rfl <|
    aw_iadd (pc := 90) C dK_c_153.2.2.2.2.2.2.1 <|
    aw_iret (pc := 91) C dK_c_153.2.2.2.2.2.2.2.1 rfl rfl)) (fun c7 =>
    aw_if (fun c8 => aw_tswA (pc := 48) C (off := 36) (tg := 84) 3 dK_c_153.2.1 (by rw [c8]; rfl) (by decide) (by decide) rfl rfl (aw_iload (pc := 84) C (i := 5) dK_c_153.2.2.1 rfl <|
    aw_iret (pc := 86) C dK_c_153.2.2.2.1 rfl rfl)) (fun c8 =>
    aw_if (fun c11 => aw_tswA (pc := 48) C (off := 44) (tg := 92) 4 dK_c_153.2.1 (by rw [c11]; rfl) (by decide) (by decide) rfl rfl (aw_iload (pc := 92) C (i := 4) dK_c_154.1 rfl <|
    aw_iconst (pc := 94) C (v := 3) dK_c_154.2.1 rfl <|
    aw_iadd (pc := 95) C dK_c_154.2.2.1 <|
    aw_aload_n (pc := 96) C (i := 0) dK_c_154.2.2.2.1 rfl rfl <|
    aw_getI (pc := 97) C dK_c_154.2.2.2.2.1 fl_X11_157 sR_0 rfl <|
    aw_iadd (pc := 100) C dK_c_154.2.2.2.2.2.1 <|
    aw_callF (pc := 101) C (cr_S (rest := []) (F := (X11_atLeast0 ((r1 + 3) + (h4.1 0 14)))) C (c_X11_atLeast0 X.2.1 ((r1 + 3) + (h4.1 0 14))) dK_c_154.2.2.2.2.2.2.1 mf_X11_atLeast0 ml_X11_204 st_X11_atLeast0 ⟨(Nat.le_of_ble_eq_true rfl), (Nat.le_of_ble_eq_true rfl)⟩ rfl rfl (Nat.le_of_ble_eq_true rfl)) rfl rfl rfl (Nat.zero_le _) (Nat.zero_le _) fun r9 h10 =>
    aw_iret (pc := 104) C dK_c_154.2.2.2.2.2.2.2.1 rfl rfl)) (fun c11 =>
    aw_if (fun c12 => aw_tswA (pc := 48) C (off := 57) (tg := 105) 5 dK_c_153.2.1 (by rw [c12]; rfl) (by decide) (by decide) rfl rfl (aw_iload (pc := 105) C (i := 5) dK_c_155.1 rfl <|
    aw_iconst (pc := 107) C (v := 1) dK_c_155.2.1 rfl <|
    aw_iadd (pc := 108) C dK_c_155.2.2.1 <|
    aw_iret (pc := 109) C dK_c_155.2.2.2.1 rfl rfl)) (fun c12 =>
    aw_tswD (pc := 48) C (N := 5) (td := 110) [1, 2, 3, 4, 5] dK_c_153.2.1 (List.forall_mem_cons.mpr ⟨ti_ne c6 rfl, List.forall_mem_cons.mpr ⟨ti_ne c7 rfl, List.forall_mem_cons.mpr ⟨ti_ne c8 rfl, List.forall_mem_cons.mpr ⟨ti_ne c11 rfl, List.forall_mem_cons.mpr ⟨ti_ne c12 rfl, fun _ hz => by cases hz⟩⟩⟩⟩⟩) rfl (by decide) rfl (aw_iload (pc := 110) C (i := 4) dK_c_155.2.2.2.2.1 rfl <|
    aw_iret (pc := 112) C dK_c_155.2.2.2.2.2.1 rfl rfl))))))

abbrev rmX11_triedAs : Room := { frames := 2, cells := 0, slots := 0, locals := 45 }
def X11_triedAs (v1 : Int32) (v2 : Int32) (h : AH) : Option (Int32 × AH) :=
    ck v1 24 (if (h.1 11 v1.toNatClampNeg) = (-9) then (if v2 = 2 then (ck v1 24 (bd (X11_lengthOf (h.1 10 v1.toNatClampNeg) 0 0 h) fun r1 h2 =>
    some (r1, h2)))
    else (some (0, h)))
    else (ck v1 24 (if (h.1 11 v1.toNatClampNeg) = (-8) then (some (0, h))
    else (ck v1 24 (if v2 = 1 then (ck v1 24 (some (((h.1 11 v1.toNatClampNeg) + (h.1 12 v1.toNatClampNeg)), h)))
    else (some (((h.1 11 v1.toNatClampNeg) + 0), h)))))))
set_option maxRecDepth 100000 in
theorem c_X11_triedAs (l : Launch) (v1 : Int32) (v2 : Int32) : MC l yX11_triedAs cX11_triedAs 3 (some .int) rmX11_triedAs ZR [.ref 0, .int v1, .int v2] rvI (X11_triedAs v1 v2) :=
  MC.of (own := RX11) pn_RX11 rfl (Nat.le_of_ble_eq_true rfl) fun X yd A h _ C =>
    aw_aload_n (pc := 0) C (i := 0) dK_c_272.1 rfl rfl <|
    aw_getR (pc := 1) C (b := 11) dK_c_272.2.1 fl_X11_40 sR_0 rfl rR_0_10 <|
    aw_iload_n (pc := 4) C (i := 1) dK_c_272.2.2.1 rfl rfl <|
    aw_iald (pc := 5) C dK_c_272.2.2.2.1 sR_11 rfl <|
    aw_bipush (pc := 6) C (v := (-9)) dK_c_272.2.2.2.2.1 rfl <|
    aw_icmp_ne (pc := 8) C (tgt := 33) dK_c_272.2.2.2.2.2.1 rfl (fun _ =>
    aw_iload_n (pc := 11) C (i := 2) dK_c_272.2.2.2.2.2.2.1 rfl rfl <|
    aw_iconst (pc := 12) C (v := 2) dK_c_272.2.2.2.2.2.2.2.1 rfl <|
    aw_icmp_ne (pc := 13) C (tgt := 31) dK_c_273.1 rfl (fun _ =>
    aw_aload_n (pc := 16) C (i := 0) dK_c_273.2.1 rfl rfl <|
    aw_aload_n (pc := 17) C (i := 0) dK_c_273.2.2.1 rfl rfl <|
    aw_getR (pc := 18) C (b := 10) dK_c_273.2.2.2.1 fl_X11_37 sR_0 rfl rR_0_9 <|
    aw_iload_n (pc := 21) C (i := 1) dK_c_273.2.2.2.2.1 rfl rfl <|
    aw_iald (pc := 22) C dK_c_273.2.2.2.2.2.1 sR_10 rfl <|
    aw_iconst (pc := 23) C (v := 0) dK_c_273.2.2.2.2.2.2.1 rfl <|
    aw_iconst (pc := 24) C (v := 0) dK_c_273.2.2.2.2.2.2.2.1 rfl <|
    aw_callF (pc := 25) C (cr_V (rest := []) (F := (X11_lengthOf (h.1 10 v1.toNatClampNeg) 0 0)) C (c_X11_lengthOf X.2.1 (h.1 10 v1.toNatClampNeg) 0 0) dK_c_274.1 mf_X11_lengthOf ml_X11_163 im_X11_lengthOf se_X11_lengthOf sR_0 rfl ⟨(Nat.le_of_ble_eq_true rfl), (Nat.le_of_ble_eq_true rfl)⟩ rfl rfl (Nat.le_of_ble_eq_true rfl)) rfl rfl rfl (Nat.zero_le _) (Nat.zero_le _) fun r1 h2 =>
    aw_goto (pc := 28) C (tgt := 32) dK_c_274.2.1 rfl <|
    aw_iret (pc := 32) C dK_c_274.2.2.2.1 rfl rfl) (fun _ =>
    aw_iconst (pc := 31) C (v := 0) dK_c_274.2.2.1 rfl <|
    aw_iret (pc := 32) C dK_c_274.2.2.2.1 rfl rfl)) (fun _ =>
    aw_aload_n (pc := 33) C (i := 0) dK_c_274.2.2.2.2.1 rfl rfl <|
    aw_getR (pc := 34) C (b := 11) dK_c_274.2.2.2.2.2.1 fl_X11_40 sR_0 rfl rR_0_10 <|
    aw_iload_n (pc := 37) C (i := 1) dK_c_274.2.2.2.2.2.2.1 rfl rfl <|
    aw_iald (pc := 38) C dK_c_274.2.2.2.2.2.2.2.1 sR_11 rfl <|
    aw_bipush (pc := 39) C (v := (-8)) dK_c_275.1 rfl <|
    aw_icmp_ne (pc := 41) C (tgt := 46) dK_c_275.2.1 rfl (fun _ =>
    aw_iconst (pc := 44) C (v := 0) dK_c_275.2.2.1 rfl <|
    aw_iret (pc := 45) C dK_c_275.2.2.2.1 rfl rfl) (fun _ =>
    aw_aload_n (pc := 46) C (i := 0) dK_c_275.2.2.2.2.1 rfl rfl <|
    aw_getR (pc := 47) C (b := 11) dK_c_275.2.2.2.2.2.1 fl_X11_40 sR_0 rfl rR_0_10 <|
    aw_iload_n (pc := 50) C (i := 1) dK_c_275.2.2.2.2.2.2.1 rfl rfl <|
    aw_iald (pc := 51) C dK_c_275.2.2.2.2.2.2.2.1 sR_11 rfl <|
    aw_iload_n (pc := 52) C (i := 2) dK_c_276.1 rfl rfl <|
    aw_iconst (pc := 53) C (v := 1) dK_c_276.2.1 rfl <|
    aw_icmp_ne (pc := 54) C (tgt := 66) dK_c_276.2.2.1 rfl (fun _ =>
    aw_aload_n (pc := 57) C (i := 0) dK_c_276.2.2.2.1 rfl rfl <|
    aw_getR (pc := 58) C (b := 12) dK_c_276.2.2.2.2.1 fl_X11_43 sR_0 rfl rR_0_11 <|
    aw_iload_n (pc := 61) C (i := 1) dK_c_276.2.2.2.2.2.1 rfl rfl <|
    aw_iald (pc := 62) C dK_c_276.2.2.2.2.2.2.1 sR_12 rfl <|
    aw_goto (pc := 63) C (tgt := 67) dK_c_276.2.2.2.2.2.2.2.1 rfl <|
    aw_iadd (pc := 67) C dK_c_277.2.1 <|
    aw_iret (pc := 68) C dK_c_277.2.2.1 rfl rfl) (fun _ =>
    aw_iconst (pc := 66) C (v := 0) dK_c_277.1 rfl <|
    aw_iadd (pc := 67) C dK_c_277.2.1 <|
    aw_iret (pc := 68) C dK_c_277.2.2.1 rfl rfl)))

abbrev rmX11_comesLength : Room := { frames := 0, cells := 0, slots := 0, locals := 0 }
def X11_comesLength (v1 : Int32) (v2 : Int32) (h : AH) : Option (Unit × AH) :=
    ck v1 4 (if v2 ≤ (h.1 20 v1.toNatClampNeg) then (ck v1 4 (if v2 ≤ (h.1 21 v1.toNatClampNeg) then (some ((), h))
    else (ck v1 4 (vl (sI h 21 v1.toNatClampNeg v2) fun h1 =>
    some ((), h1)))))
    else (ck v1 4 (ck v1 4 (vl (sI h 21 v1.toNatClampNeg (h.1 20 v1.toNatClampNeg)) fun h2 =>
    ck v1 4 (vl (sI h2 20 v1.toNatClampNeg v2) fun h3 =>
    some ((), h3))))))
set_option maxRecDepth 100000 in
theorem c_X11_comesLength (l : Launch) (v1 : Int32) (v2 : Int32) : MC l yX11_comesLength cX11_comesLength 3 none rmX11_comesLength ZR [.ref 0, .int v1, .int v2] rvV (X11_comesLength v1 v2) :=
  MC.of (own := RX11) pn_RX11 rfl (Nat.le_of_ble_eq_true rfl) fun X yd A h _ C =>
    aw_iload_n (pc := 0) C (i := 2) dK_c_283.1 rfl rfl <|
    aw_aload_n (pc := 1) C (i := 0) dK_c_283.2.1 rfl rfl <|
    aw_getR (pc := 2) C (b := 20) dK_c_283.2.2.1 fl_X11_68 sR_0 rfl rR_0_30 <|
    aw_iload_n (pc := 5) C (i := 1) dK_c_283.2.2.2.1 rfl rfl <|
    aw_iald (pc := 6) C dK_c_283.2.2.2.2.1 sR_20 rfl <|
    aw_icmp_le (pc := 7) C (tgt := 32) dK_c_283.2.2.2.2.2.1 rfl (fun _ =>
    aw_iload_n (pc := 32) C (i := 2) dK_c_285.2.2.2.2.1 rfl rfl <|
    aw_aload_n (pc := 33) C (i := 0) dK_c_285.2.2.2.2.2.1 rfl rfl <|
    aw_getR (pc := 34) C (b := 21) dK_c_285.2.2.2.2.2.2.1 fl_X11_71 sR_0 rfl rR_0_31 <|
    aw_iload_n (pc := 37) C (i := 1) dK_c_285.2.2.2.2.2.2.2.1 rfl rfl <|
    aw_iald (pc := 38) C dK_c_286.1 sR_21 rfl <|
    aw_icmp_le (pc := 39) C (tgt := 49) dK_c_286.2.1 rfl (fun _ =>
    aw_vret (pc := 49) C dK_c_286.2.2.2.2.2.2.2.1 rfl rfl) (fun _ =>
    aw_aload_n (pc := 42) C (i := 0) dK_c_286.2.2.1 rfl rfl <|
    aw_getR (pc := 43) C (b := 21) dK_c_286.2.2.2.1 fl_X11_71 sR_0 rfl rR_0_31 <|
    aw_iload_n (pc := 46) C (i := 1) dK_c_286.2.2.2.2.1 rfl rfl <|
    aw_iload_n (pc := 47) C (i := 2) dK_c_286.2.2.2.2.2.1 rfl rfl <|
    aw_iast (pc := 48) C dK_c_286.2.2.2.2.2.2.1 sR_21 rfl fun h1 =>
    aw_vret (pc := 49) C dK_c_286.2.2.2.2.2.2.2.1 rfl rfl)) (fun _ =>
    aw_aload_n (pc := 10) C (i := 0) dK_c_283.2.2.2.2.2.2.1 rfl rfl <|
    aw_getR (pc := 11) C (b := 21) dK_c_283.2.2.2.2.2.2.2.1 fl_X11_71 sR_0 rfl rR_0_31 <|
    aw_iload_n (pc := 14) C (i := 1) dK_c_284.1 rfl rfl <|
    aw_aload_n (pc := 15) C (i := 0) dK_c_284.2.1 rfl rfl <|
    aw_getR (pc := 16) C (b := 20) dK_c_284.2.2.1 fl_X11_68 sR_0 rfl rR_0_30 <|
    aw_iload_n (pc := 19) C (i := 1) dK_c_284.2.2.2.1 rfl rfl <|
    aw_iald (pc := 20) C dK_c_284.2.2.2.2.1 sR_20 rfl <|
    aw_iast (pc := 21) C dK_c_284.2.2.2.2.2.1 sR_21 rfl fun h2 =>
    aw_aload_n (pc := 22) C (i := 0) dK_c_284.2.2.2.2.2.2.1 rfl rfl <|
    aw_getR (pc := 23) C (b := 20) dK_c_284.2.2.2.2.2.2.2.1 fl_X11_68 sR_0 rfl rR_0_30 <|
    aw_iload_n (pc := 26) C (i := 1) dK_c_285.1 rfl rfl <|
    aw_iload_n (pc := 27) C (i := 2) dK_c_285.2.1 rfl rfl <|
    aw_iast (pc := 28) C dK_c_285.2.2.1 sR_20 rfl fun h3 =>
    aw_goto (pc := 29) C (tgt := 49) dK_c_285.2.2.2.1 rfl <|
    aw_vret (pc := 49) C dK_c_286.2.2.2.2.2.2.2.1 rfl rfl)

abbrev rmX11_findBest : Room := { frames := 3, cells := 0, slots := 0, locals := 67 }
def X11_findBest_l29  (v1 : Int32) (v2 : Int32) : Nat → Int32 → AH → Option (Unit × AH)
  | 0, _, _ => none
  | n + 1, v3, h =>
    if v2 ≤ v3 then (some ((), h))
    else (ck v3 24 (bd (X11_triedAs v3 v1 h) fun r1 h2 =>
    bd (X11_comesLength (h.1 10 v3.toNatClampNeg) r1 h2) fun _ h4 =>
    vl (v3 + 1) fun x5 =>
    (X11_findBest_l29 v1 v2 n) x5 h4))
set_option maxRecDepth 100000 in
theorem aX11_findBest_l29 {X : MCx} {yd : Dyn} {A : Nat → Prop} (C : OK X cX11_findBest RX11 4 none rmX11_findBest A)  (v1 : Int32) (v2 : Int32) : ∀ (n : Nat) (v3 : Int32) (h : AH), AW X 4 ZR yd A 0 0 (QF X rmX11_findBest ZR yd rvV A) 29 [(0, .ref 0), (1, .int v1), (2, .int v2), (3, .int v3)] [] h (X11_findBest_l29 v1 v2 n v3 h) := by
  intro n
  induction n with
  | zero => intro v3 h; exact aw_none
  | succ n ih =>
    intro v3 h
    exact aw_iload_n (pc := 29) C (i := 3) dK_c_280.2.2.2.1 rfl rfl <|
    aw_iload_n (pc := 30) C (i := 2) dK_c_280.2.2.2.2.1 rfl rfl <|
    aw_icmp_ge (pc := 31) C (tgt := 56) dK_c_280.2.2.2.2.2.1 rfl (fun _ =>
    aw_vret (pc := 56) C dK_c_282.2.2.1 rfl rfl) (fun _ =>
    aw_aload_n (pc := 34) C (i := 0) dK_c_280.2.2.2.2.2.2.1 rfl rfl <|
    aw_aload_n (pc := 35) C (i := 0) dK_c_280.2.2.2.2.2.2.2.1 rfl rfl <|
    aw_getR (pc := 36) C (b := 10) dK_c_281.1 fl_X11_37 sR_0 rfl rR_0_9 <|
    aw_iload_n (pc := 39) C (i := 3) dK_c_281.2.1 rfl rfl <|
    aw_iald (pc := 40) C dK_c_281.2.2.1 sR_10 rfl <|
    aw_aload_n (pc := 41) C (i := 0) dK_c_281.2.2.2.1 rfl rfl <|
    aw_iload_n (pc := 42) C (i := 3) dK_c_281.2.2.2.2.1 rfl rfl <|
    aw_iload_n (pc := 43) C (i := 1) dK_c_281.2.2.2.2.2.1 rfl rfl <|
    aw_callF (pc := 44) C (cr_V (rest := [.int (h.1 10 v3.toNatClampNeg), .ref 0]) (F := (X11_triedAs v3 v1)) C (c_X11_triedAs X.2.1 v3 v1) dK_c_281.2.2.2.2.2.2.1 mf_X11_triedAs ml_X11_259 im_X11_triedAs se_X11_triedAs sR_0 rfl ⟨(Nat.le_of_ble_eq_true rfl), (Nat.le_of_ble_eq_true rfl)⟩ rfl rfl (Nat.le_of_ble_eq_true rfl)) rfl rfl rfl (Nat.zero_le _) (Nat.zero_le _) fun r1 h2 =>
    aw_callF (pc := 47) C (cr_V (rest := []) (F := (X11_comesLength (h.1 10 v3.toNatClampNeg) r1)) C (c_X11_comesLength X.2.1 (h.1 10 v3.toNatClampNeg) r1) dK_c_281.2.2.2.2.2.2.2.1 mf_X11_comesLength ml_X11_262 im_X11_comesLength se_X11_comesLength sR_0 rfl ⟨(Nat.le_of_ble_eq_true rfl), (Nat.le_of_ble_eq_true rfl)⟩ rfl rfl (Nat.le_of_ble_eq_true rfl)) rfl rfl rfl (Nat.zero_le _) (Nat.zero_le _) fun _ h4 =>
    aw_iincV (pc := 50) C (i := 3) (cst := 1) (fun x5 => [(0, .ref 0), (1, .int v1), (2, .int v2), (3, .int x5)]) dK_c_282.1 rfl rfl (by decide) (fun _ => rfl) fun x5 =>
    aw_goto (pc := 53) C (tgt := 29) dK_c_282.2.1 rfl <|
    (ih x5 h4))
def X11_findBest_l2  (v1 : Int32) (v2 : Int32) : Nat → Int32 → AH → Option (Unit × AH)
  | 0, _, _ => none
  | n + 1, v3, h =>
    if 4 ≤ v3 then (X11_findBest_l29 v1 v2 FU 0 h)
    else (ck v3 4 (vl (sI h 20 v3.toNatClampNeg 0) fun h6 =>
    ck v3 4 (vl (sI h6 21 v3.toNatClampNeg 0) fun h7 =>
    vl (v3 + 1) fun x8 =>
    (X11_findBest_l2 v1 v2 n) x8 h7)))
set_option maxRecDepth 100000 in
theorem aX11_findBest_l2 {X : MCx} {yd : Dyn} {A : Nat → Prop} (C : OK X cX11_findBest RX11 4 none rmX11_findBest A)  (v1 : Int32) (v2 : Int32) : ∀ (n : Nat) (v3 : Int32) (h : AH), AW X 4 ZR yd A 0 0 (QF X rmX11_findBest ZR yd rvV A) 2 [(0, .ref 0), (1, .int v1), (2, .int v2), (3, .int v3)] [] h (X11_findBest_l2 v1 v2 n v3 h) := by
  intro n
  induction n with
  | zero => intro v3 h; exact aw_none
  | succ n ih =>
    intro v3 h
    exact aw_iload_n (pc := 2) C (i := 3) dK_c_278.2.2.1 rfl rfl <|
    aw_iconst (pc := 3) C (v := 4) dK_c_278.2.2.2.1 rfl <|
    aw_icmp_ge (pc := 4) C (tgt := 27) dK_c_278.2.2.2.2.1 rfl (fun _ =>
    aw_iconst (pc := 27) C (v := 0) dK_c_280.2.1 rfl <|
    aw_istore_n (pc := 28) C (i := 3) (lv' := [(0, .ref 0), (1, .int v1), (2, .int v2), (3, .int 0)]) dK_c_280.2.2.1 rfl (by decide) rfl <|
    (aX11_findBest_l29 C v1 v2 FU 0 h)) (fun _ =>
    aw_aload_n (pc := 7) C (i := 0) dK_c_278.2.2.2.2.2.1 rfl rfl <|
    aw_getR (pc := 8) C (b := 20) dK_c_278.2.2.2.2.2.2.1 fl_X11_68 sR_0 rfl rR_0_30 <|
    aw_iload_n (pc := 11) C (i := 3) dK_c_278.2.2.2.2.2.2.2.1 rfl rfl <|
    aw_iconst (pc := 12) C (v := 0) dK_c_279.1 rfl <|
    aw_iast (pc := 13) C dK_c_279.2.1 sR_20 rfl fun h6 =>
    aw_aload_n (pc := 14) C (i := 0) dK_c_279.2.2.1 rfl rfl <|
    aw_getR (pc := 15) C (b := 21) dK_c_279.2.2.2.1 fl_X11_71 sR_0 rfl rR_0_31 <|
    aw_iload_n (pc := 18) C (i := 3) dK_c_279.2.2.2.2.1 rfl rfl <|
    aw_iconst (pc := 19) C (v := 0) dK_c_279.2.2.2.2.2.1 rfl <|
    aw_iast (pc := 20) C dK_c_279.2.2.2.2.2.2.1 sR_21 rfl fun h7 =>
    aw_iincV (pc := 21) C (i := 3) (cst := 1) (fun x8 => [(0, .ref 0), (1, .int v1), (2, .int v2), (3, .int x8)]) dK_c_279.2.2.2.2.2.2.2.1 rfl rfl (by decide) (fun _ => rfl) fun x8 =>
    aw_goto (pc := 24) C (tgt := 2) dK_c_280.1 rfl <|
    (ih x8 h7))
def X11_findBest (v1 : Int32) (v2 : Int32) (h : AH) : Option (Unit × AH) :=
    X11_findBest_l2 v1 v2 FU 0 h
set_option maxRecDepth 100000 in
theorem c_X11_findBest (l : Launch) (v1 : Int32) (v2 : Int32) : MC l yX11_findBest cX11_findBest 4 none rmX11_findBest ZR [.ref 0, .int v1, .int v2] rvV (X11_findBest v1 v2) :=
  MC.of (own := RX11) pn_RX11 rfl (Nat.le_of_ble_eq_true rfl) fun X yd A h _ C =>
    aw_iconst (pc := 0) C (v := 0) dK_c_278.1 rfl <|
    aw_istore_n (pc := 1) C (i := 3) (lv' := [(0, .ref 0), (1, .int v1), (2, .int v2), (3, .int 0)]) dK_c_278.2.1 rfl (by decide) rfl <|
    (aX11_findBest_l2 C v1 v2 FU 0 h)

abbrev rmX11_isAhead : Room := { frames := 0, cells := 0, slots := 0, locals := 0 }
def X11_isAhead (v1 : Int32) (v2 : Int32) (h : AH) : Option (Int32 × AH) :=
    ck v1 4 (ck v2 4 (if (h.1 20 v1.toNatClampNeg) = (h.1 20 v2.toNatClampNeg) then (ck v1 4 (ck v2 4 (if (h.1 21 v1.toNatClampNeg) = (h.1 21 v2.toNatClampNeg) then (if v2 ≤ v1 then (cz 0 (some (0, h)))
    else (cz 1 (some (1, h))))
    else (ck v1 4 (ck v2 4 (if (h.1 21 v1.toNatClampNeg) ≤ (h.1 21 v2.toNatClampNeg) then (cz 0 (some (0, h)))
    else (cz 1 (some (1, h)))))))))
    else (ck v1 4 (ck v2 4 (if (h.1 20 v1.toNatClampNeg) ≤ (h.1 20 v2.toNatClampNeg) then (cz 0 (some (0, h)))
    else (cz 1 (some (1, h))))))))
set_option maxRecDepth 100000 in
theorem c_X11_isAhead (l : Launch) (v1 : Int32) (v2 : Int32) : MC l yX11_isAhead cX11_isAhead 3 (some .boolean) rmX11_isAhead ZR [.ref 0, .int v1, .int v2] rvI (X11_isAhead v1 v2) :=
  MC.of (own := RX11) pn_RX11 rfl (Nat.le_of_ble_eq_true rfl) fun X yd A h _ C =>
    aw_aload_n (pc := 0) C (i := 0) dK_c_287.1 rfl rfl <|
    aw_getR (pc := 1) C (b := 20) dK_c_287.2.1 fl_X11_68 sR_0 rfl rR_0_30 <|
    aw_iload_n (pc := 4) C (i := 1) dK_c_287.2.2.1 rfl rfl <|
    aw_iald (pc := 5) C dK_c_287.2.2.2.1 sR_20 rfl <|
    aw_aload_n (pc := 6) C (i := 0) dK_c_287.2.2.2.2.1 rfl rfl <|
    aw_getR (pc := 7) C (b := 20) dK_c_287.2.2.2.2.2.1 fl_X11_68 sR_0 rfl rR_0_30 <|
    aw_iload_n (pc := 10) C (i := 2) dK_c_287.2.2.2.2.2.2.1 rfl rfl <|
    aw_iald (pc := 11) C dK_c_287.2.2.2.2.2.2.2.1 sR_20 rfl <|
    aw_icmp_eq (pc := 12) C (tgt := 36) dK_c_288.1 rfl (fun _ =>
    aw_aload_n (pc := 36) C (i := 0) dK_c_289.2.2.2.2.2.2.1 rfl rfl <|
    aw_getR (pc := 37) C (b := 21) dK_c_289.2.2.2.2.2.2.2.1 fl_X11_71 sR_0 rfl rR_0_31 <|
    aw_iload_n (pc := 40) C (i := 1) dK_c_290.1 rfl rfl <|
    aw_iald (pc := 41) C dK_c_290.2.1 sR_21 rfl <|
    aw_aload_n (pc := 42) C (i := 0) dK_c_290.2.2.1 rfl rfl <|
    aw_getR (pc := 43) C (b := 21) dK_c_290.2.2.2.1 fl_X11_71 sR_0 rfl rR_0_31 <|
    aw_iload_n (pc := 46) C (i := 2) dK_c_290.2.2.2.2.1 rfl rfl <|
    aw_iald (pc := 47) C dK_c_290.2.2.2.2.2.1 sR_21 rfl <|
    aw_icmp_eq (pc := 48) C (tgt := 74) dK_c_290.2.2.2.2.2.2.1 rfl (fun _ =>
    aw_iload_n (pc := 74) C (i := 1) dK_c_292.2.2.2.2.1 rfl rfl <|
    aw_iload_n (pc := 75) C (i := 2) dK_c_292.2.2.2.2.2.1 rfl rfl <|
    aw_icmp_ge (pc := 76) C (tgt := 83) dK_c_292.2.2.2.2.2.2.1 rfl (fun _ =>
    aw_iconst (pc := 83) C (v := 0) dK_c_293.2.1 rfl <|
    aw_zret (pc := 84) C dK_c_293.2.2.1 rfl rfl) (fun _ =>
    aw_iconst (pc := 79) C (v := 1) dK_c_292.2.2.2.2.2.2.2.1 rfl <|
    aw_goto (pc := 80) C (tgt := 84) dK_c_293.1 rfl <|
    aw_zret (pc := 84) C dK_c_293.2.2.1 rfl rfl)) (fun _ =>
    aw_aload_n (pc := 51) C (i := 0) dK_c_290.2.2.2.2.2.2.2.1 rfl rfl <|
    aw_getR (pc := 52) C (b := 21) dK_c_291.1 fl_X11_71 sR_0 rfl rR_0_31 <|
    aw_iload_n (pc := 55) C (i := 1) dK_c_291.2.1 rfl rfl <|
    aw_iald (pc := 56) C dK_c_291.2.2.1 sR_21 rfl <|
    aw_aload_n (pc := 57) C (i := 0) dK_c_291.2.2.2.1 rfl rfl <|
    aw_getR (pc := 58) C (b := 21) dK_c_291.2.2.2.2.1 fl_X11_71 sR_0 rfl rR_0_31 <|
    aw_iload_n (pc := 61) C (i := 2) dK_c_291.2.2.2.2.2.1 rfl rfl <|
    aw_iald (pc := 62) C dK_c_291.2.2.2.2.2.2.1 sR_21 rfl <|
    aw_icmp_le (pc := 63) C (tgt := 70) dK_c_291.2.2.2.2.2.2.2.1 rfl (fun _ =>
    aw_iconst (pc := 70) C (v := 0) dK_c_292.2.2.1 rfl <|
    aw_goto (pc := 71) C (tgt := 84) dK_c_292.2.2.2.1 rfl <|
    aw_zret (pc := 84) C dK_c_293.2.2.1 rfl rfl) (fun _ =>
    aw_iconst (pc := 66) C (v := 1) dK_c_292.1 rfl <|
    aw_goto (pc := 67) C (tgt := 84) dK_c_292.2.1 rfl <|
    aw_zret (pc := 84) C dK_c_293.2.2.1 rfl rfl))) (fun _ =>
    aw_aload_n (pc := 15) C (i := 0) dK_c_288.2.1 rfl rfl <|
    aw_getR (pc := 16) C (b := 20) dK_c_288.2.2.1 fl_X11_68 sR_0 rfl rR_0_30 <|
    aw_iload_n (pc := 19) C (i := 1) dK_c_288.2.2.2.1 rfl rfl <|
    aw_iald (pc := 20) C dK_c_288.2.2.2.2.1 sR_20 rfl <|
    aw_aload_n (pc := 21) C (i := 0) dK_c_288.2.2.2.2.2.1 rfl rfl <|
    aw_getR (pc := 22) C (b := 20) dK_c_288.2.2.2.2.2.2.1 fl_X11_68 sR_0 rfl rR_0_30 <|
    aw_iload_n (pc := 25) C (i := 2) dK_c_288.2.2.2.2.2.2.2.1 rfl rfl <|
    aw_iald (pc := 26) C dK_c_289.1 sR_20 rfl <|
    aw_icmp_le (pc := 27) C (tgt := 34) dK_c_289.2.1 rfl (fun _ =>
    aw_iconst (pc := 34) C (v := 0) dK_c_289.2.2.2.2.1 rfl <|
    aw_zret (pc := 35) C dK_c_289.2.2.2.2.2.1 rfl rfl) (fun _ =>
    aw_iconst (pc := 30) C (v := 1) dK_c_289.2.2.1 rfl <|
    aw_goto (pc := 31) C (tgt := 35) dK_c_289.2.2.2.1 rfl <|
    aw_zret (pc := 35) C dK_c_289.2.2.2.2.2.1 rfl rfl))

abbrev rmX11_sorts : Room := { frames := 1, cells := 0, slots := 0, locals := 22 }
def X11_sorts_j52  (v1 : Int32) (v2 : Int32) (K2 : Int32 → AH → Option (Unit × AH)) (h : AH) : Option (Unit × AH) :=
    ck v2 4 (vl (sI h 22 v2.toNatClampNeg v1) fun h1 =>
    vl (v1 + 1) fun x2 =>
    K2 x2 h1)
set_option maxRecDepth 100000 in
theorem aX11_sorts_j52 {X : MCx} {yd : Dyn} {A : Nat → Prop} (C : OK X cX11_sorts RX11 3 none rmX11_sorts A)  (v1 : Int32) (v2 : Int32) (K2 : Int32 → AH → Option (Unit × AH)) (hK2 : ∀ (w1 : Int32) (h : AH), AW X 3 ZR yd A 0 0 (QF X rmX11_sorts ZR yd rvV A) 2 [(0, .ref 0), (1, .int w1)] [] h (K2 w1 h)) (h : AH) : AW X 3 ZR yd A 0 0 (QF X rmX11_sorts ZR yd rvV A) 52 [(0, .ref 0), (1, .int v1), (2, .int v2)] [] h (X11_sorts_j52 v1 v2 K2 h) := by
    exact aw_aload_n (pc := 52) C (i := 0) dK_c_298.1 rfl rfl <|
    aw_getR (pc := 53) C (b := 22) dK_c_298.2.1 fl_X11_74 sR_0 rfl rR_0_32 <|
    aw_iload_n (pc := 56) C (i := 2) dK_c_298.2.2.1 rfl rfl <|
    aw_iload_n (pc := 57) C (i := 1) dK_c_298.2.2.2.1 rfl rfl <|
    aw_iast (pc := 58) C dK_c_298.2.2.2.2.1 sR_22 rfl fun h1 =>
    aw_iincV (pc := 59) C (i := 1) (cst := 1) (fun x2 => [(0, .ref 0), (1, .int x2), (2, .int v2)]) dK_c_298.2.2.2.2.2.1 rfl rfl (by decide) (fun _ => rfl) fun x2 =>
    aw_goto (pc := 62) C (tgt := 2) dK_c_298.2.2.2.2.2.2.1 rfl <|
    aw_drop [0, 1] (hK2 x2 h1)
def X11_sorts_l12  (v1 : Int32) (K2 : Int32 → AH → Option (Unit × AH)) : Nat → Int32 → AH → Option (Unit × AH)
  | 0, _, _ => none
  | n + 1, v2, h =>
    if v2 ≤ 0 then (X11_sorts_j52 v1 v2 K2 h)
    else (ck (v2 - 1) 4 (bd (X11_isAhead v1 (h.1 22 (v2 - 1).toNatClampNeg) h) fun r3 h4 =>
    if r3 = 0 then (X11_sorts_j52 v1 v2 K2 h4)
    else (ck (v2 - 1) 4 (ck v2 4 (vl (sI h4 22 v2.toNatClampNeg (h4.1 22 (v2 - 1).toNatClampNeg)) fun h5 =>
    vl (v2 + (-1)) fun x6 =>
    (X11_sorts_l12 v1 K2 n) x6 h5)))))
set_option maxRecDepth 100000 in
theorem aX11_sorts_l12 {X : MCx} {yd : Dyn} {A : Nat → Prop} (C : OK X cX11_sorts RX11 3 none rmX11_sorts A)  (v1 : Int32) (K2 : Int32 → AH → Option (Unit × AH)) (hK2 : ∀ (w1 : Int32) (h : AH), AW X 3 ZR yd A 0 0 (QF X rmX11_sorts ZR yd rvV A) 2 [(0, .ref 0), (1, .int w1)] [] h (K2 w1 h)) : ∀ (n : Nat) (v2 : Int32) (h : AH), AW X 3 ZR yd A 0 0 (QF X rmX11_sorts ZR yd rvV A) 12 [(0, .ref 0), (1, .int v1), (2, .int v2)] [] h (X11_sorts_l12 v1 K2 n v2 h) := by
  intro n
  induction n with
  | zero => intro v2 h; exact aw_none
  | succ n ih =>
    intro v2 h
    exact aw_iload_n (pc := 12) C (i := 2) dK_c_295.1 rfl rfl <|
    aw_if_le (pc := 13) C (tgt := 52) dK_c_295.2.1 rfl (fun _ =>
    (aX11_sorts_j52 C v1 v2 K2 hK2 h)) (fun _ =>
    aw_aload_n (pc := 16) C (i := 0) dK_c_295.2.2.1 rfl rfl <|
    aw_iload_n (pc := 17) C (i := 1) dK_c_295.2.2.2.1 rfl rfl <|
    aw_aload_n (pc := 18) C (i := 0) dK_c_295.2.2.2.2.1 rfl rfl <|
    aw_getR (pc := 19) C (b := 22) dK_c_295.2.2.2.2.2.1 fl_X11_74 sR_0 rfl rR_0_32 <|
    aw_iload_n (pc := 22) C (i := 2) dK_c_295.2.2.2.2.2.2.1 rfl rfl <|
    aw_iconst (pc := 23) C (v := 1) dK_c_295.2.2.2.2.2.2.2.1 rfl <|
    aw_isub (pc := 24) C dK_c_296.1 <|
    aw_iald (pc := 25) C dK_c_296.2.1 sR_22 rfl <|
    aw_callF (pc := 26) C (cr_V (rest := []) (F := (X11_isAhead v1 (h.1 22 (v2 - 1).toNatClampNeg))) C (c_X11_isAhead X.2.1 v1 (h.1 22 (v2 - 1).toNatClampNeg)) dK_c_296.2.2.1 mf_X11_isAhead ml_X11_265 im_X11_isAhead se_X11_isAhead sR_0 rfl ⟨(Nat.le_of_ble_eq_true rfl), (Nat.le_of_ble_eq_true rfl)⟩ rfl rfl (Nat.le_of_ble_eq_true rfl)) rfl rfl rfl (Nat.zero_le _) (Nat.zero_le _) fun r3 h4 =>
    aw_if_eq (pc := 29) C (tgt := 52) dK_c_296.2.2.2.1 rfl (fun _ =>
    (aX11_sorts_j52 C v1 v2 K2 hK2 h4)) (fun _ =>
    aw_aload_n (pc := 32) C (i := 0) dK_c_296.2.2.2.2.1 rfl rfl <|
    aw_getR (pc := 33) C (b := 22) dK_c_296.2.2.2.2.2.1 fl_X11_74 sR_0 rfl rR_0_32 <|
    aw_iload_n (pc := 36) C (i := 2) dK_c_296.2.2.2.2.2.2.1 rfl rfl <|
    aw_aload_n (pc := 37) C (i := 0) dK_c_296.2.2.2.2.2.2.2.1 rfl rfl <|
    aw_getR (pc := 38) C (b := 22) dK_c_297.1 fl_X11_74 sR_0 rfl rR_0_32 <|
    aw_iload_n (pc := 41) C (i := 2) dK_c_297.2.1 rfl rfl <|
    aw_iconst (pc := 42) C (v := 1) dK_c_297.2.2.1 rfl <|
    aw_isub (pc := 43) C dK_c_297.2.2.2.1 <|
    aw_iald (pc := 44) C dK_c_297.2.2.2.2.1 sR_22 rfl <|
    aw_iast (pc := 45) C dK_c_297.2.2.2.2.2.1 sR_22 rfl fun h5 =>
    aw_iincV (pc := 46) C (i := 2) (cst := (-1)) (fun x6 => [(0, .ref 0), (1, .int v1), (2, .int x6)]) dK_c_297.2.2.2.2.2.2.1 rfl rfl (by decide) (fun _ => rfl) fun x6 =>
    aw_goto (pc := 49) C (tgt := 12) dK_c_297.2.2.2.2.2.2.2.1 rfl <|
    (ih x6 h5)))
def X11_sorts_l2  : Nat → Int32 → AH → Option (Unit × AH)
  | 0, _, _ => none
  | n + 1, v1, h =>
    if (h.1 0 15) ≤ v1 then (some ((), h))
    else (X11_sorts_l12 v1 (X11_sorts_l2 n) FU v1 h)
set_option maxRecDepth 100000 in
theorem aX11_sorts_l2 {X : MCx} {yd : Dyn} {A : Nat → Prop} (C : OK X cX11_sorts RX11 3 none rmX11_sorts A)  : ∀ (n : Nat) (v1 : Int32) (h : AH), AW X 3 ZR yd A 0 0 (QF X rmX11_sorts ZR yd rvV A) 2 [(0, .ref 0), (1, .int v1)] [] h (X11_sorts_l2 n v1 h) := by
  intro n
  induction n with
  | zero => intro v1 h; exact aw_none
  | succ n ih =>
    intro v1 h
    exact aw_iload_n (pc := 2) C (i := 1) dK_c_294.2.2.1 rfl rfl <|
    aw_aload_n (pc := 3) C (i := 0) dK_c_294.2.2.2.1 rfl rfl <|
    aw_getI (pc := 4) C dK_c_294.2.2.2.2.1 fl_X11_105 sR_0 rfl <|
    aw_icmp_ge (pc := 7) C (tgt := 65) dK_c_294.2.2.2.2.2.1 rfl (fun _ =>
    aw_vret (pc := 65) C dK_c_298.2.2.2.2.2.2.2.1 rfl rfl) (fun _ =>
    aw_iload_n (pc := 10) C (i := 1) dK_c_294.2.2.2.2.2.2.1 rfl rfl <|
    aw_istore_n (pc := 11) C (i := 2) (lv' := [(0, .ref 0), (1, .int v1), (2, .int v1)]) dK_c_294.2.2.2.2.2.2.2.1 rfl (by decide) rfl <|
    (aX11_sorts_l12 C v1 (X11_sorts_l2 n) ih FU v1 h))
def X11_sorts  (h : AH) : Option (Unit × AH) :=
    X11_sorts_l2 FU 0 h
set_option maxRecDepth 100000 in
theorem c_X11_sorts (l : Launch)  : MC l yX11_sorts cX11_sorts 3 none rmX11_sorts ZR [.ref 0] rvV (X11_sorts) :=
  MC.of (own := RX11) pn_RX11 rfl (Nat.le_of_ble_eq_true rfl) fun X yd A h _ C =>
    aw_iconst (pc := 0) C (v := 0) dK_c_294.1 rfl <|
    aw_istore_n (pc := 1) C (i := 1) (lv' := [(0, .ref 0), (1, .int 0)]) dK_c_294.2.1 rfl (by decide) rfl <|
    (aX11_sorts_l2 C FU 0 h)

abbrev rmX11_turnNow : Room := { frames := 4, cells := 0, slots := 0, locals := 90 }
def X11_turnNow  (h : AH) : Option (Int32 × AH) :=
    if (h.1 0 15) = 0 then (some ((-9), h))
    else (bd (X11_finalists h) fun r1 h2 =>
    if (h.1 0 16) < ((3 * (h.1 0 15)) + (3 * r1)) then (if (3 * (h2.1 0 15)) ≤ (h2.1 0 16) then (bd (X11_findBest 0 (3 * (h2.1 0 15)) h2) fun _ h4 =>
    bd (X11_sorts h4) fun _ h6 =>
    bd (X11_finalists h6) fun r7 h8 =>
    bd (X11_finalists h8) fun r9 h10 =>
    if r9 = 0 then none else (ck ((r7 - 1) - (rm32 ((h8.1 0 16) - (3 * (h8.1 0 15))) r9)) 4 (some ((h10.1 22 ((r7 - 1) - (rm32 ((h8.1 0 16) - (3 * (h8.1 0 15))) r9)).toNatClampNeg), h10))))
    else (if (h2.1 0 15) = 0 then none else (some ((rm32 (h2.1 0 16) (h2.1 0 15)), h2))))
    else (some ((-9), h2)))
set_option maxRecDepth 100000 in
theorem c_X11_turnNow (l : Launch)  : MC l yX11_turnNow cX11_turnNow 1 (some .int) rmX11_turnNow ZR [.ref 0] rvI (X11_turnNow) :=
  MC.of (own := RX11) pn_RX11 rfl (Nat.le_of_ble_eq_true rfl) fun X yd A h _ C =>
    aw_aload_n (pc := 0) C (i := 0) dK_c_302.1 rfl rfl <|
    aw_getI (pc := 1) C dK_c_302.2.1 fl_X11_105 sR_0 rfl <|
    aw_if_eq (pc := 4) C (tgt := 27) dK_c_302.2.2.1 rfl (fun _ =>
    aw_bipush (pc := 27) C (v := (-9)) dK_c_303.2.2.2.2.2.2.2.1 rfl <|
    aw_iret (pc := 29) C dK_c_304.1 rfl rfl) (fun _ =>
    aw_aload_n (pc := 7) C (i := 0) dK_c_302.2.2.2.1 rfl rfl <|
    aw_getI (pc := 8) C dK_c_302.2.2.2.2.1 fl_X11_147 sR_0 rfl <|
    aw_iconst (pc := 11) C (v := 3) dK_c_302.2.2.2.2.2.1 rfl <|
    aw_aload_n (pc := 12) C (i := 0) dK_c_302.2.2.2.2.2.2.1 rfl rfl <|
    aw_getI (pc := 13) C dK_c_302.2.2.2.2.2.2.2.1 fl_X11_105 sR_0 rfl <|
    aw_imul (pc := 16) C dK_c_303.1 <|
    aw_iconst (pc := 17) C (v := 3) dK_c_303.2.1 rfl <|
    aw_aload_n (pc := 18) C (i := 0) dK_c_303.2.2.1 rfl rfl <|
    aw_callF (pc := 19) C (cr_V (rest := [.int 3, .int (3 * (h.1 0 15)), .int (h.1 0 16)]) (F := X11_finalists) C (c_X11_finalists X.2.1 ) dK_c_303.2.2.2.1 mf_X11_finalists ml_X11_271 im_X11_finalists se_X11_finalists sR_0 rfl ⟨(Nat.le_of_ble_eq_true rfl), (Nat.le_of_ble_eq_true rfl)⟩ rfl rfl (Nat.le_of_ble_eq_true rfl)) rfl rfl rfl (Nat.zero_le _) (Nat.zero_le _) fun r1 h2 =>
    aw_imul (pc := 22) C dK_c_303.2.2.2.2.1 <|
    aw_iadd (pc := 23) C dK_c_303.2.2.2.2.2.1 <|
    aw_icmp_lt (pc := 24) C (tgt := 30) dK_c_303.2.2.2.2.2.2.1 rfl (fun _ =>
    aw_aload_n (pc := 30) C (i := 0) dK_c_304.2.1 rfl rfl <|
    aw_getI (pc := 31) C dK_c_304.2.2.1 fl_X11_147 sR_0 rfl <|
    aw_iconst (pc := 34) C (v := 3) dK_d_0.1 rfl <|
    aw_aload_n (pc := 35) C (i := 0) dK_d_0.2.1 rfl rfl <|
    aw_getI (pc := 36) C dK_d_0.2.2.1 fl_X11_105 sR_0 rfl <|
    aw_imul (pc := 39) C dK_d_0.2.2.2.1 <|
    aw_icmp_ge (pc := 40) C (tgt := 53) dK_d_0.2.2.2.2.1 rfl (fun _ =>
    aw_aload_n (pc := 53) C (i := 0) dK_d_1.2.2.2.1 rfl rfl <|
    aw_iconst (pc := 54) C (v := 0) dK_d_1.2.2.2.2.1 rfl <|
    aw_iconst (pc := 55) C (v := 3) dK_d_1.2.2.2.2.2.1 rfl <|
    aw_aload_n (pc := 56) C (i := 0) dK_d_1.2.2.2.2.2.2.1 rfl rfl <|
    aw_getI (pc := 57) C dK_d_1.2.2.2.2.2.2.2.1 fl_X11_105 sR_0 rfl <|
    aw_imul (pc := 60) C dK_d_2.1 <|
    aw_callF (pc := 61) C (cr_V (rest := []) (F := (X11_findBest 0 (3 * (h2.1 0 15)))) C (c_X11_findBest X.2.1 0 (3 * (h2.1 0 15))) dK_d_2.2.1 mf_X11_findBest ml_X11_213 im_X11_findBest se_X11_findBest sR_0 rfl ⟨(Nat.le_of_ble_eq_true rfl), (Nat.le_of_ble_eq_true rfl)⟩ rfl rfl (Nat.le_of_ble_eq_true rfl)) rfl rfl rfl (Nat.zero_le _) (Nat.zero_le _) fun _ h4 =>
    aw_aload_n (pc := 64) C (i := 0) dK_d_2.2.2.1 rfl rfl <|
    aw_callF (pc := 65) C (cr_V (rest := []) (F := X11_sorts) C (c_X11_sorts X.2.1 ) dK_d_2.2.2.2.1 mf_X11_sorts ml_X11_268 im_X11_sorts se_X11_sorts sR_0 rfl ⟨(Nat.le_of_ble_eq_true rfl), (Nat.le_of_ble_eq_true rfl)⟩ rfl rfl (Nat.le_of_ble_eq_true rfl)) rfl rfl rfl (Nat.zero_le _) (Nat.zero_le _) fun _ h6 =>
    aw_aload_n (pc := 68) C (i := 0) dK_d_2.2.2.2.2.1 rfl rfl <|
    aw_getR (pc := 69) C (b := 22) dK_d_2.2.2.2.2.2.1 fl_X11_74 sR_0 rfl rR_0_32 <|
    aw_aload_n (pc := 72) C (i := 0) dK_d_2.2.2.2.2.2.2.1 rfl rfl <|
    aw_callF (pc := 73) C (cr_V (rest := [.ref 22]) (F := X11_finalists) C (c_X11_finalists X.2.1 ) dK_d_2.2.2.2.2.2.2.2.1 mf_X11_finalists ml_X11_271 im_X11_finalists se_X11_finalists sR_0 rfl ⟨(Nat.le_of_ble_eq_true rfl), (Nat.le_of_ble_eq_true rfl)⟩ rfl rfl (Nat.le_of_ble_eq_true rfl)) rfl rfl rfl (Nat.zero_le _) (Nat.zero_le _) fun r7 h8 =>
    aw_iconst (pc := 76) C (v := 1) dK_d_3.1 rfl <|
    aw_isub (pc := 77) C dK_d_3.2.1 <|
    aw_aload_n (pc := 78) C (i := 0) dK_d_3.2.2.1 rfl rfl <|
    aw_getI (pc := 79) C dK_d_3.2.2.2.1 fl_X11_147 sR_0 rfl <|
    aw_iconst (pc := 82) C (v := 3) dK_d_3.2.2.2.2.1 rfl <|
    aw_aload_n (pc := 83) C (i := 0) dK_d_3.2.2.2.2.2.1 rfl rfl <|
    aw_getI (pc := 84) C dK_d_3.2.2.2.2.2.2.1 fl_X11_105 sR_0 rfl <|
    aw_imul (pc := 87) C dK_d_3.2.2.2.2.2.2.2.1 <|
    aw_isub (pc := 88) C dK_d_4.1 <|
    aw_aload_n (pc := 89) C (i := 0) dK_d_4.2.1 rfl rfl <|
    aw_callF (pc := 90) C (cr_V (rest := [.int ((h8.1 0 16) - (3 * (h8.1 0 15))), .int (r7 - 1), .ref 22]) (F := X11_finalists) C (c_X11_finalists X.2.1 ) dK_d_4.2.2.1 mf_X11_finalists ml_X11_271 im_X11_finalists se_X11_finalists sR_0 rfl ⟨(Nat.le_of_ble_eq_true rfl), (Nat.le_of_ble_eq_true rfl)⟩ rfl rfl (Nat.le_of_ble_eq_true rfl)) rfl rfl rfl (Nat.zero_le _) (Nat.zero_le _) fun r9 h10 =>
    aw_irem (pc := 93) C dK_d_4.2.2.2.1 <|
    aw_isub (pc := 94) C dK_d_4.2.2.2.2.1 <|
    aw_iald (pc := 95) C dK_d_4.2.2.2.2.2.1 sR_22 rfl <|
    aw_iret (pc := 96) C dK_d_4.2.2.2.2.2.2.1 rfl rfl) (fun _ =>
    aw_aload_n (pc := 43) C (i := 0) dK_d_0.2.2.2.2.2.1 rfl rfl <|
    aw_getI (pc := 44) C dK_d_0.2.2.2.2.2.2.1 fl_X11_147 sR_0 rfl <|
    aw_aload_n (pc := 47) C (i := 0) dK_d_0.2.2.2.2.2.2.2.1 rfl rfl <|
    aw_getI (pc := 48) C dK_d_1.1 fl_X11_105 sR_0 rfl <|
    aw_irem (pc := 51) C dK_d_1.2.1 <|
    aw_iret (pc := 52) C dK_d_1.2.2.1 rfl rfl)) (fun _ =>
    aw_bipush (pc := 27) C (v := (-9)) dK_c_303.2.2.2.2.2.2.2.1 rfl <|
    aw_iret (pc := 29) C dK_c_304.1 rfl rfl))

abbrev rmX11_putsTry : Room := { frames := 0, cells := 0, slots := 0, locals := 0 }
def X11_putsTry (v1 : Int32) (v2 : Int32) (v3 : Int32) (h : AH) : Option (Unit × AH) :=
    ck (h.1 0 16) 24 (vl (sI h 10 (h.1 0 16).toNatClampNeg v1) fun h1 =>
    ck (h1.1 0 16) 24 (vl (sI h1 11 (h1.1 0 16).toNatClampNeg v2) fun h2 =>
    ck (h2.1 0 16) 24 (vl (sI h2 12 (h2.1 0 16).toNatClampNeg v3) fun h3 =>
    vl (sI h3 0 16 ((h3.1 0 16) + 1)) fun h4 =>
    some ((), h4))))
set_option maxRecDepth 100000 in
theorem c_X11_putsTry (l : Launch) (v1 : Int32) (v2 : Int32) (v3 : Int32) : MC l yX11_putsTry cX11_putsTry 4 none rmX11_putsTry ZR [.ref 0, .int v1, .int v2, .int v3] rvV (X11_putsTry v1 v2 v3) :=
  MC.of (own := RX11) pn_RX11 rfl (Nat.le_of_ble_eq_true rfl) fun X yd A h _ C =>
    aw_aload_n (pc := 0) C (i := 0) dK_d_9.1 rfl rfl <|
    aw_getR (pc := 1) C (b := 10) dK_d_9.2.1 fl_X11_37 sR_0 rfl rR_0_9 <|
    aw_aload_n (pc := 4) C (i := 0) dK_d_9.2.2.1 rfl rfl <|
    aw_getI (pc := 5) C dK_d_9.2.2.2.1 fl_X11_147 sR_0 rfl <|
    aw_iload_n (pc := 8) C (i := 1) dK_d_9.2.2.2.2.1 rfl rfl <|
    aw_iast (pc := 9) C dK_d_9.2.2.2.2.2.1 sR_10 rfl fun h1 =>
    aw_aload_n (pc := 10) C (i := 0) dK_d_9.2.2.2.2.2.2.1 rfl rfl <|
    aw_getR (pc := 11) C (b := 11) dK_d_9.2.2.2.2.2.2.2.1 fl_X11_40 sR_0 rfl rR_0_10 <|
    aw_aload_n (pc := 14) C (i := 0) dK_d_10.1 rfl rfl <|
    aw_getI (pc := 15) C dK_d_10.2.1 fl_X11_147 sR_0 rfl <|
    aw_iload_n (pc := 18) C (i := 2) dK_d_10.2.2.1 rfl rfl <|
    aw_iast (pc := 19) C dK_d_10.2.2.2.1 sR_11 rfl fun h2 =>
    aw_aload_n (pc := 20) C (i := 0) dK_d_10.2.2.2.2.1 rfl rfl <|
    aw_getR (pc := 21) C (b := 12) dK_d_10.2.2.2.2.2.1 fl_X11_43 sR_0 rfl rR_0_11 <|
    aw_aload_n (pc := 24) C (i := 0) dK_d_10.2.2.2.2.2.2.1 rfl rfl <|
    aw_getI (pc := 25) C dK_d_10.2.2.2.2.2.2.2.1 fl_X11_147 sR_0 rfl <|
    aw_iload_n (pc := 28) C (i := 3) dK_d_11.1 rfl rfl <|
    aw_iast (pc := 29) C dK_d_11.2.1 sR_12 rfl fun h3 =>
    aw_aload_n (pc := 30) C (i := 0) dK_d_11.2.2.1 rfl rfl <|
    aw_dup (pc := 31) C dK_d_11.2.2.2.1 rfl <|
    aw_getI (pc := 32) C dK_d_11.2.2.2.2.1 fl_X11_147 sR_0 rfl <|
    aw_iconst (pc := 35) C (v := 1) dK_d_11.2.2.2.2.2.1 rfl <|
    aw_iadd (pc := 36) C dK_d_11.2.2.2.2.2.2.1 <|
    aw_putI (pc := 37) C dK_d_11.2.2.2.2.2.2.2.1 fp_X11_147 sR_0 rfl fun h4 =>
    aw_vret (pc := 40) C dK_d_12.1 rfl rfl

abbrev rmX11_comesTry : Room := { frames := 5, cells := 0, slots := 0, locals := 110 }
def X11_comesTry (v1 : Int32) (v2 : Int32) (h : AH) : Option (Int32 × AH) :=
    bd (X11_turnNow h) fun r1 h2 =>
    if 0 ≤ r1 then (bd (X11_turnNow h2) fun r3 h4 =>
    bd (X11_putsTry r3 v1 v2 h4) fun _ h6 =>
    cz 1 (some (1, h6)))
    else (cz 0 (some (0, h2)))
set_option maxRecDepth 100000 in
theorem c_X11_comesTry (l : Launch) (v1 : Int32) (v2 : Int32) : MC l yX11_comesTry cX11_comesTry 3 (some .boolean) rmX11_comesTry ZR [.ref 0, .int v1, .int v2] rvI (X11_comesTry v1 v2) :=
  MC.of (own := RX11) pn_RX11 rfl (Nat.le_of_ble_eq_true rfl) fun X yd A h _ C =>
    aw_aload_n (pc := 0) C (i := 0) dK_c_86.1 rfl rfl <|
    aw_callF (pc := 1) C (cr_V (rest := []) (F := X11_turnNow) C (c_X11_turnNow X.2.1 ) dK_c_86.2.1 mf_X11_turnNow ml_X11_150 im_X11_turnNow se_X11_turnNow sR_0 rfl ⟨(Nat.le_of_ble_eq_true rfl), (Nat.le_of_ble_eq_true rfl)⟩ rfl rfl (Nat.le_of_ble_eq_true rfl)) rfl rfl rfl (Nat.zero_le _) (Nat.zero_le _) fun r1 h2 =>
    aw_if_ge (pc := 4) C (tgt := 9) dK_c_86.2.2.1 rfl (fun _ =>
    aw_aload_n (pc := 9) C (i := 0) dK_c_86.2.2.2.2.2.1 rfl rfl <|
    aw_aload_n (pc := 10) C (i := 0) dK_c_86.2.2.2.2.2.2.1 rfl rfl <|
    aw_callF (pc := 11) C (cr_V (rest := [.ref 0]) (F := X11_turnNow) C (c_X11_turnNow X.2.1 ) dK_c_86.2.2.2.2.2.2.2.1 mf_X11_turnNow ml_X11_150 im_X11_turnNow se_X11_turnNow sR_0 rfl ⟨(Nat.le_of_ble_eq_true rfl), (Nat.le_of_ble_eq_true rfl)⟩ rfl rfl (Nat.le_of_ble_eq_true rfl)) rfl rfl rfl (Nat.zero_le _) (Nat.zero_le _) fun r3 h4 =>
    aw_iload_n (pc := 14) C (i := 1) dK_c_87.1 rfl rfl <|
    aw_iload_n (pc := 15) C (i := 2) dK_c_87.2.1 rfl rfl <|
    aw_callF (pc := 16) C (cr_V (rest := []) (F := (X11_putsTry r3 v1 v2)) C (c_X11_putsTry X.2.1 r3 v1 v2) dK_c_87.2.2.1 mf_X11_putsTry ml_X11_153 im_X11_putsTry se_X11_putsTry sR_0 rfl ⟨(Nat.le_of_ble_eq_true rfl), (Nat.le_of_ble_eq_true rfl)⟩ rfl rfl (Nat.le_of_ble_eq_true rfl)) rfl rfl rfl (Nat.zero_le _) (Nat.zero_le _) fun _ h6 =>
    aw_iconst (pc := 19) C (v := 1) dK_c_87.2.2.2.1 rfl <|
    aw_zret (pc := 20) C dK_c_87.2.2.2.2.1 rfl rfl) (fun _ =>
    aw_iconst (pc := 7) C (v := 0) dK_c_86.2.2.2.1 rfl <|
    aw_zret (pc := 8) C dK_c_86.2.2.2.2.1 rfl rfl)

abbrev rmX11_comes : Room := { frames := 6, cells := 0, slots := 0, locals := 132 }
def X11_comes_j194  (v3 : Int32) (s0 : Int32) (h : AH) : Option (Int32 × AH) :=
    bd (X11_comesTry s0 v3 h) fun r24 h25 =>
    cz r24 (some (r24, h25))
set_option maxRecDepth 100000 in
theorem aX11_comes_j194 {X : MCx} {yd : Dyn} {A : Nat → Prop} (C : OK X cX11_comes RX11 4 (some .boolean) rmX11_comes A)  (v3 : Int32) (s0 : Int32) (h : AH) : AW X 4 ZR yd A 0 0 (QF X rmX11_comes ZR yd rvI A) 194 [(3, .int v3)] [.int s0, .ref 0] h (X11_comes_j194 v3 s0 h) := by
    exact aw_iload_n (pc := 194) C (i := 3) dK_c_96.2.1 rfl rfl <|
    aw_callF (pc := 195) C (cr_V (rest := []) (F := (X11_comesTry s0 v3)) C (c_X11_comesTry X.2.1 s0 v3) dK_c_96.2.2.1 mf_X11_comesTry ml_X11_166 im_X11_comesTry se_X11_comesTry sR_0 rfl ⟨(Nat.le_of_ble_eq_true rfl), (Nat.le_of_ble_eq_true rfl)⟩ rfl rfl (Nat.le_of_ble_eq_true rfl)) rfl rfl rfl (Nat.zero_le _) (Nat.zero_le _) fun r24 h25 =>
    aw_zret (pc := 198) C dK_c_96.2.2.2.1 rfl rfl
def X11_comes (v1 : Int32) (h : AH) : Option (Int32 × AH) :=
    vl (8 * v1) fun x1 =>
    ck x1 384 (vl (h.1 16 x1.toNatClampNeg) fun x2 =>
    ck v1 48 (vl (h.1 14 v1.toNatClampNeg) fun y3 =>
    if y3 = 102 then (bd (X11_comesTry (-9) 0 h) fun r4 h5 =>
    cz r4 (some (r4, h5)))
    else if y3 = 103 then (vl (sI h 0 13 x2) fun h7 =>
    bd (X11_isIn x2 1 4 h7) fun r8 h9 =>
    if r8 = 0 then (cz 0 (some (0, h9)))
    else (if (h9.1 0 16) = 0 then (cz 1 (some (1, h9)))
    else (cz 0 (some (0, h9)))))
    else if y3 = 106 then (bd (X11_comesJumper x1 h) fun r11 h12 =>
    cz r11 (some (r11, h12)))
    else if y3 = 110 then (vl (sI h 0 12 x2) fun h14 =>
    bd (X11_isIn x2 4 20 h14) fun r15 h16 =>
    if r15 = 0 then (cz 0 (some (0, h16)))
    else (if (h16.1 0 16) = 0 then (cz 1 (some (1, h16)))
    else (cz 0 (some (0, h16)))))
    else if y3 = 116 then (bd (X11_turnNow h) fun r18 h19 =>
    if 0 ≤ r18 then (bd (X11_turnNow h19) fun r20 h21 =>
    bd (X11_lengthOf r20 x2 0 h21) fun r22 h23 =>
    X11_comes_j194 x2 r22 h23)
    else (X11_comes_j194 x2 0 h19))
    else if y3 = 119 then (vl (sI h 0 14 x2) fun h27 =>
    cz 1 (some (1, h27)))
    else (bd (X11_comesTry (-8) 0 h) fun r29 h30 =>
    cz r29 (some (r29, h30)))))
set_option maxRecDepth 100000 in
theorem c_X11_comes (l : Launch) (v1 : Int32) : MC l yX11_comes cX11_comes 4 (some .boolean) rmX11_comes ZR [.ref 0, .int v1] rvI (X11_comes v1) :=
  MC.of (own := RX11) pn_RX11 rfl (Nat.le_of_ble_eq_true rfl) fun X yd A h _ C =>
    aw_bipush (pc := 0) C (v := 8) dK_c_88.1 rfl <|
    aw_iload_n (pc := 2) C (i := 1) dK_c_88.2.1 rfl rfl <|
    aw_imul (pc := 3) C dK_c_88.2.2.1 <|
    aw_istoreV_n (pc := 4) C (i := 2) (fun x1 => [(0, .ref 0), (1, .int v1), (2, .int x1)]) dK_c_88.2.2.2.1 rfl (by decide) (fun _ => rfl) fun x1 =>
    aw_aload_n (pc := 5) C (i := 0) dK_c_88.2.2.2.2.1 rfl rfl <|
    aw_getR (pc := 6) C (b := 16) dK_c_88.2.2.2.2.2.1 fl_X11_55 sR_0 rfl rR_0_20 <|
    aw_iload_n (pc := 9) C (i := 2) dK_c_88.2.2.2.2.2.2.1 rfl rfl <|
    aw_iald (pc := 10) C dK_c_88.2.2.2.2.2.2.2.1 sR_16 rfl <|
    aw_istoreV_n (pc := 11) C (i := 3) (fun x2 => [(0, .ref 0), (1, .int v1), (2, .int x1), (3, .int x2)]) dK_c_89.1 rfl (by decide) (fun _ => rfl) fun x2 =>
    aw_aload_n (pc := 12) C (i := 0) dK_c_89.2.1 rfl rfl <|
    aw_getR (pc := 13) C (b := 14) dK_c_89.2.2.1 fl_X11_49 sR_0 rfl rR_0_18 <|
    aw_iload_n (pc := 16) C (i := 1) dK_c_89.2.2.2.1 rfl rfl <|
    aw_iald (pc := 17) C dK_c_89.2.2.2.2.1 sR_14 rfl <|
    aw_vlI fun y3 =>
    aw_if (fun c6 => aw_tswA (pc := 18) C (off := 181) (tg := 199) 102 dK_c_89.2.2.2.2.2.1 (by rw [c6]; rfl) (by decide) (by decide) rfl rfl (aw_aload_n (pc := 199) C (i := 0) dK_c_96.2.2.2.2.1 rfl rfl <|
    aw_bipush (pc := 200) C (v := (-9)) dK_c_96.2.2.2.2.2.1 rfl <|
    aw_iconst (pc := 202) C (v := 0) dK_c_96.2.2.2.2.2.2.1 rfl <|
    aw_callF (pc := 203) C (cr_V (rest := []) (F := (X11_comesTry (-9) 0)) C (c_X11_comesTry X.2.1 (-9) 0) dK_c_96.2.2.2.2.2.2.2.1 mf_X11_comesTry ml_X11_166 im_X11_comesTry se_X11_comesTry sR_0 rfl ⟨(Nat.le_of_ble_eq_true rfl), (Nat.le_of_ble_eq_true rfl)⟩ rfl rfl (Nat.le_of_ble_eq_true rfl)) rfl rfl rfl (Nat.zero_le _) (Nat.zero_le _) fun r4 h5 =>
    aw_zret (pc := 206) C dK_c_97.1 rfl rfl)) (fun c6 =>
    aw_if (fun c10 => aw_tswA (pc := 18) C (off := 121) (tg := 139) 103 dK_c_89.2.2.2.2.2.1 (by rw [c10]; rfl) (by decide) (by decide) rfl rfl (aw_aload_n (pc := 139) C (i := 0) dK_c_92.2.2.1 rfl rfl <|
    aw_iload_n (pc := 140) C (i := 3) dK_c_92.2.2.2.1 rfl rfl <|
    aw_putI (pc := 141) C dK_c_92.2.2.2.2.1 fp_X11_99 sR_0 rfl fun h7 =>
    aw_iload_n (pc := 144) C (i := 3) dK_c_92.2.2.2.2.2.1 rfl rfl <|
    aw_iconst (pc := 145) C (v := 1) dK_c_92.2.2.2.2.2.2.1 rfl <|
    aw_iconst (pc := 146) C (v := 4) dK_c_92.2.2.2.2.2.2.2.1 rfl <|
    aw_callF (pc := 147) C (cr_S (rest := []) (F := (X11_isIn x2 1 4)) C (c_X11_isIn X.2.1 x2 1 4) dK_c_93.1 mf_X11_isIn ml_X11_126 st_X11_isIn ⟨(Nat.le_of_ble_eq_true rfl), (Nat.le_of_ble_eq_true rfl)⟩ rfl rfl (Nat.le_of_ble_eq_true rfl)) rfl rfl rfl (Nat.zero_le _) (Nat.zero_le _) fun r8 h9 =>
    aw_if_eq (pc := 150) C (tgt := 164) dK_c_93.2.1 rfl (fun _ =>
    aw_iconst (pc := 164) C (v := 0) dK_c_93.2.2.2.2.2.2.2.1 rfl <|
    aw_zret (pc := 165) C dK_c_94.1 rfl rfl) (fun _ =>
    aw_aload_n (pc := 153) C (i := 0) dK_c_93.2.2.1 rfl rfl <|
    aw_getI (pc := 154) C dK_c_93.2.2.2.1 fl_X11_147 sR_0 rfl <|
    aw_if_ne (pc := 157) C (tgt := 164) dK_c_93.2.2.2.2.1 rfl (fun _ =>
    aw_iconst (pc := 160) C (v := 1) dK_c_93.2.2.2.2.2.1 rfl <|
    aw_goto (pc := 161) C (tgt := 165) dK_c_93.2.2.2.2.2.2.1 rfl <|
    aw_zret (pc := 165) C dK_c_94.1 rfl rfl) (fun _ =>
    aw_iconst (pc := 164) C (v := 0) dK_c_93.2.2.2.2.2.2.2.1 rfl <|
    aw_zret (pc := 165) C dK_c_94.1 rfl rfl)))) (fun c10 =>
    aw_if (fun c13 => aw_tswA (pc := 18) C (off := 148) (tg := 166) 106 dK_c_89.2.2.2.2.2.1 (by rw [c13]; rfl) (by decide) (by decide) rfl rfl (aw_aload_n (pc := 166) C (i := 0) dK_c_94.2.1 rfl rfl <|
    aw_iload_n (pc := 167) C (i := 2) dK_c_94.2.2.1 rfl rfl <|
    aw_callF (pc := 168) C (cr_V (rest := []) (F := (X11_comesJumper x1)) C (c_X11_comesJumper X.2.1 x1) dK_c_94.2.2.2.1 mf_X11_comesJumper ml_X11_160 im_X11_comesJumper se_X11_comesJumper sR_0 rfl ⟨(Nat.le_of_ble_eq_true rfl), (Nat.le_of_ble_eq_true rfl)⟩ rfl rfl (Nat.le_of_ble_eq_true rfl)) rfl rfl rfl (Nat.zero_le _) (Nat.zero_le _) fun r11 h12 =>
    aw_zret (pc := 171) C dK_c_94.2.2.2.2.1 rfl rfl)) (fun c13 =>
    aw_if (fun c17 => aw_tswA (pc := 18) C (off := 86) (tg := 104) 110 dK_c_89.2.2.2.2.2.1 (by rw [c17]; rfl) (by decide) (by decide) rfl rfl (aw_aload_n (pc := 104) C (i := 0) dK_c_89.2.2.2.2.2.2.1 rfl rfl <|
    aw_iload_n (pc := 105) C (i := 3) dK_c_89.2.2.2.2.2.2.2.1 rfl rfl <|
    aw_putI (pc := 106) C dK_c_90.1 fp_X11_95 sR_0 rfl fun h14 =>
    aw_iload_n (pc := 109) C (i := 3) dK_c_90.2.1 rfl rfl <|
    aw_iconst (pc := 110) C (v := 4) dK_c_90.2.2.1 rfl <|
    aw_bipush (pc := 111) C (v := 20) dK_c_90.2.2.2.1 rfl <|
    aw_callF (pc := 113) C (cr_S (rest := []) (F := (X11_isIn x2 4 20)) C (c_X11_isIn X.2.1 x2 4 20) dK_c_90.2.2.2.2.1 mf_X11_isIn ml_X11_126 st_X11_isIn ⟨(Nat.le_of_ble_eq_true rfl), (Nat.le_of_ble_eq_true rfl)⟩ rfl rfl (Nat.le_of_ble_eq_true rfl)) rfl rfl rfl (Nat.zero_le _) (Nat.zero_le _) fun r15 h16 =>
    aw_if_eq (pc := 116) C (tgt := 130) dK_c_90.2.2.2.2.2.1 rfl (fun _ =>
    aw_iconst (pc := 130) C (v := 0) dK_c_91.2.2.2.1 rfl <|
    aw_zret (pc := 131) C dK_c_91.2.2.2.2.1 rfl rfl) (fun _ =>
    aw_aload_n (pc := 119) C (i := 0) dK_c_90.2.2.2.2.2.2.1 rfl rfl <|
    aw_getI (pc := 120) C dK_c_90.2.2.2.2.2.2.2.1 fl_X11_147 sR_0 rfl <|
    aw_if_ne (pc := 123) C (tgt := 130) dK_c_91.1 rfl (fun _ =>
    aw_iconst (pc := 126) C (v := 1) dK_c_91.2.1 rfl <|
    aw_goto (pc := 127) C (tgt := 131) dK_c_91.2.2.1 rfl <|
    aw_zret (pc := 131) C dK_c_91.2.2.2.2.1 rfl rfl) (fun _ =>
    aw_iconst (pc := 130) C (v := 0) dK_c_91.2.2.2.1 rfl <|
    aw_zret (pc := 131) C dK_c_91.2.2.2.2.1 rfl rfl)))) (fun c17 =>
    aw_if (fun c26 => aw_tswA (pc := 18) C (off := 154) (tg := 172) 116 dK_c_89.2.2.2.2.2.1 (by rw [c26]; rfl) (by decide) (by decide) rfl rfl (aw_aload_n (pc := 172) C (i := 0) dK_c_94.2.2.2.2.2.1 rfl rfl <|
    aw_aload_n (pc := 173) C (i := 0) dK_c_94.2.2.2.2.2.2.1 rfl rfl <|
    aw_callF (pc := 174) C (cr_V (rest := [.ref 0]) (F := X11_turnNow) C (c_X11_turnNow X.2.1 ) dK_c_94.2.2.2.2.2.2.2.1 mf_X11_turnNow ml_X11_150 im_X11_turnNow se_X11_turnNow sR_0 rfl ⟨(Nat.le_of_ble_eq_true rfl), (Nat.le_of_ble_eq_true rfl)⟩ rfl rfl (Nat.le_of_ble_eq_true rfl)) rfl rfl rfl (Nat.zero_le _) (Nat.zero_le _) fun r18 h19 =>
    aw_if_ge (pc := 177) C (tgt := 184) dK_c_95.1 rfl (fun _ =>
    aw_aload_n (pc := 184) C (i := 0) dK_c_95.2.2.2.1 rfl rfl <|
    aw_aload_n (pc := 185) C (i := 0) dK_c_95.2.2.2.2.1 rfl rfl <|
    aw_callF (pc := 186) C (cr_V (rest := [.ref 0, .ref 0]) (F := X11_turnNow) C (c_X11_turnNow X.2.1 ) dK_c_95.2.2.2.2.2.1 mf_X11_turnNow ml_X11_150 im_X11_turnNow se_X11_turnNow sR_0 rfl ⟨(Nat.le_of_ble_eq_true rfl), (Nat.le_of_ble_eq_true rfl)⟩ rfl rfl (Nat.le_of_ble_eq_true rfl)) rfl rfl rfl (Nat.zero_le _) (Nat.zero_le _) fun r20 h21 =>
    aw_iload_n (pc := 189) C (i := 3) dK_c_95.2.2.2.2.2.2.1 rfl rfl <|
    aw_iconst (pc := 190) C (v := 0) dK_c_95.2.2.2.2.2.2.2.1 rfl <|
    aw_callF (pc := 191) C (cr_V (rest := [.ref 0]) (F := (X11_lengthOf r20 x2 0)) C (c_X11_lengthOf X.2.1 r20 x2 0) dK_c_96.1 mf_X11_lengthOf ml_X11_163 im_X11_lengthOf se_X11_lengthOf sR_0 rfl ⟨(Nat.le_of_ble_eq_true rfl), (Nat.le_of_ble_eq_true rfl)⟩ rfl rfl (Nat.le_of_ble_eq_true rfl)) rfl rfl rfl (Nat.zero_le _) (Nat.zero_le _) fun r22 h23 =>
    aw_drop [3] (aX11_comes_j194 C x2 r22 h23)) (fun _ =>
    aw_iconst (pc := 180) C (v := 0) dK_c_95.2.1 rfl <|
    aw_goto (pc := 181) C (tgt := 194) dK_c_95.2.2.1 rfl <|
    aw_drop [3] (aX11_comes_j194 C x2 0 h19)))) (fun c26 =>
    aw_if (fun c28 => aw_tswA (pc := 18) C (off := 114) (tg := 132) 119 dK_c_89.2.2.2.2.2.1 (by rw [c28]; rfl) (by decide) (by decide) rfl rfl (aw_aload_n (pc := 132) C (i := 0) dK_c_91.2.2.2.2.2.1 rfl rfl <|
    aw_iload_n (pc := 133) C (i := 3) dK_c_91.2.2.2.2.2.2.1 rfl rfl <|
    aw_putI (pc := 134) C dK_c_91.2.2.2.2.2.2.2.1 fp_X11_157 sR_0 rfl fun h27 =>
    aw_iconst (pc := 137) C (v := 1) dK_c_92.1 rfl <|
    aw_zret (pc := 138) C dK_c_92.2.1 rfl rfl)) (fun c28 =>
    aw_tswD (pc := 18) C (N := 18) (td := 207) [102, 103, 106, 110, 116, 119] dK_c_89.2.2.2.2.2.1 (List.forall_mem_cons.mpr ⟨ti_ne c6 rfl, List.forall_mem_cons.mpr ⟨ti_ne c10 rfl, List.forall_mem_cons.mpr ⟨ti_ne c13 rfl, List.forall_mem_cons.mpr ⟨ti_ne c17 rfl, List.forall_mem_cons.mpr ⟨ti_ne c26 rfl, List.forall_mem_cons.mpr ⟨ti_ne c28 rfl, fun _ hz => by cases hz⟩⟩⟩⟩⟩⟩) rfl (by decide) rfl (aw_aload_n (pc := 207) C (i := 0) dK_c_97.2.1 rfl rfl <|
    aw_bipush (pc := 208) C (v := (-8)) dK_c_97.2.2.1 rfl <|
    aw_iconst (pc := 210) C (v := 0) dK_c_97.2.2.2.1 rfl <|
    aw_callF (pc := 211) C (cr_V (rest := []) (F := (X11_comesTry (-8) 0)) C (c_X11_comesTry X.2.1 (-8) 0) dK_c_97.2.2.2.2.1 mf_X11_comesTry ml_X11_166 im_X11_comesTry se_X11_comesTry sR_0 rfl ⟨(Nat.le_of_ble_eq_true rfl), (Nat.le_of_ble_eq_true rfl)⟩ rfl rfl (Nat.le_of_ble_eq_true rfl)) rfl rfl rfl (Nat.zero_le _) (Nat.zero_le _) fun r29 h30 =>
    aw_zret (pc := 214) C dK_c_97.2.2.2.2.2.1 rfl rfl)))))))

abbrev rmX11_passes : Room := { frames := 0, cells := 0, slots := 0, locals := 0 }
def X11_passes_j42 (p1 : Nat) (n1 : Nat) (v2 : Int32) (K2 : Int32 → AH → Option (Unit × AH)) (h : AH) : Option (Unit × AH) :=
    vl (sI h 0 27 ((h.1 0 27) + 1)) fun h2 =>
    vl (v2 + 1) fun x3 =>
    K2 x3 h2
set_option maxRecDepth 100000 in
theorem aX11_passes_j42 {X : MCx} {yd : Dyn} {A : Nat → Prop} (C : OK X cX11_passes RX11 3 none rmX11_passes A) (p1 : Nat) (n1 : Nat) (hA1 : ZR.1[p1]? = some (.inl (0, 0, n1))) (v2 : Int32) (K2 : Int32 → AH → Option (Unit × AH)) (hK2 : ∀ (w2 : Int32) (h : AH), AW X 3 ZR yd A 0 0 (QF X rmX11_passes ZR yd rvV A) 2 [(0, .ref 0), (1, .ref p1), (2, .int w2)] [] h (K2 w2 h)) (h : AH) : AW X 3 ZR yd A 0 0 (QF X rmX11_passes ZR yd rvV A) 42 [(0, .ref 0), (1, .ref p1), (2, .int v2)] [] h (X11_passes_j42 p1 n1 v2 K2 h) := by
    exact aw_aload_n (pc := 42) C (i := 0) dK_c_111.2.2.1 rfl rfl <|
    aw_dup (pc := 43) C dK_c_111.2.2.2.1 rfl <|
    aw_getI (pc := 44) C dK_c_111.2.2.2.2.1 fl_X11_184 sR_0 rfl <|
    aw_iconst (pc := 47) C (v := 1) dK_c_111.2.2.2.2.2.1 rfl <|
    aw_iadd (pc := 48) C dK_c_111.2.2.2.2.2.2.1 <|
    aw_putI (pc := 49) C dK_c_111.2.2.2.2.2.2.2.1 fp_X11_184 sR_0 rfl fun h2 =>
    aw_iincV (pc := 52) C (i := 2) (cst := 1) (fun x3 => [(0, .ref 0), (1, .ref p1), (2, .int x3)]) dK_c_112.1 rfl rfl (by decide) (fun _ => rfl) fun x3 =>
    aw_goto (pc := 55) C (tgt := 2) dK_c_112.2.1 rfl <|
    (hK2 x3 h2)
def X11_passes_l2 (p1 : Nat) (n1 : Nat) : Nat → Int32 → AH → Option (Unit × AH)
  | 0, _, _ => none
  | n + 1, v2, h =>
    if (Int32.ofNat n1) ≤ v2 then (some ((), h))
    else (if (h.1 0 26) = 0 then (ck (h.1 0 27) 240 (ck v2 n1 (vl (sI h p1 v2.toNatClampNeg (h.1 17 (h.1 0 27).toNatClampNeg)) fun h1 =>
    X11_passes_j42 p1 n1 v2 (X11_passes_l2 p1 n1 n) h1)))
    else (ck v2 n1 (ck (h.1 0 27) 240 (vl (sI h 17 (h.1 0 27).toNatClampNeg (h.1 p1 v2.toNatClampNeg)) fun h4 =>
    X11_passes_j42 p1 n1 v2 (X11_passes_l2 p1 n1 n) h4))))
set_option maxRecDepth 100000 in
theorem aX11_passes_l2 {X : MCx} {yd : Dyn} {A : Nat → Prop} (C : OK X cX11_passes RX11 3 none rmX11_passes A) (p1 : Nat) (n1 : Nat) (hA1 : ZR.1[p1]? = some (.inl (0, 0, n1))) : ∀ (n : Nat) (v2 : Int32) (h : AH), AW X 3 ZR yd A 0 0 (QF X rmX11_passes ZR yd rvV A) 2 [(0, .ref 0), (1, .ref p1), (2, .int v2)] [] h (X11_passes_l2 p1 n1 n v2 h) := by
  intro n
  induction n with
  | zero => intro v2 h; exact aw_none
  | succ n ih =>
    intro v2 h
    exact aw_iload_n (pc := 2) C (i := 2) dK_c_108.2.2.1 rfl rfl <|
    aw_aload_n (pc := 3) C (i := 1) dK_c_108.2.2.2.1 rfl rfl <|
    aw_alenI (pc := 4) C (v := (Int32.ofNat n1)) (by decide) dK_c_108.2.2.2.2.1 hA1 rfl rfl <|
    aw_icmp_ge (pc := 5) C (tgt := 58) dK_c_108.2.2.2.2.2.1 rfl (fun _ =>
    aw_vret (pc := 58) C dK_c_112.2.2.1 rfl rfl) (fun _ =>
    aw_aload_n (pc := 8) C (i := 0) dK_c_108.2.2.2.2.2.2.1 rfl rfl <|
    aw_getI (pc := 9) C dK_c_108.2.2.2.2.2.2.2.1 fl_X11_180 sR_0 rfl <|
    aw_if_eq (pc := 12) C (tgt := 30) dK_c_109.1 rfl (fun _ =>
    aw_aload_n (pc := 30) C (i := 1) dK_c_110.2.2.1 rfl rfl <|
    aw_iload_n (pc := 31) C (i := 2) dK_c_110.2.2.2.1 rfl rfl <|
    aw_aload_n (pc := 32) C (i := 0) dK_c_110.2.2.2.2.1 rfl rfl <|
    aw_getR (pc := 33) C (b := 17) dK_c_110.2.2.2.2.2.1 fl_X11_58 sR_0 rfl rR_0_24 <|
    aw_aload_n (pc := 36) C (i := 0) dK_c_110.2.2.2.2.2.2.1 rfl rfl <|
    aw_getI (pc := 37) C dK_c_110.2.2.2.2.2.2.2.1 fl_X11_184 sR_0 rfl <|
    aw_iald (pc := 40) C dK_c_111.1 sR_17 rfl <|
    aw_iast (pc := 41) C dK_c_111.2.1 hA1 rfl fun h1 =>
    (aX11_passes_j42 C p1 n1 hA1 v2 (X11_passes_l2 p1 n1 n) ih h1)) (fun _ =>
    aw_aload_n (pc := 15) C (i := 0) dK_c_109.2.1 rfl rfl <|
    aw_getR (pc := 16) C (b := 17) dK_c_109.2.2.1 fl_X11_58 sR_0 rfl rR_0_24 <|
    aw_aload_n (pc := 19) C (i := 0) dK_c_109.2.2.2.1 rfl rfl <|
    aw_getI (pc := 20) C dK_c_109.2.2.2.2.1 fl_X11_184 sR_0 rfl <|
    aw_aload_n (pc := 23) C (i := 1) dK_c_109.2.2.2.2.2.1 rfl rfl <|
    aw_iload_n (pc := 24) C (i := 2) dK_c_109.2.2.2.2.2.2.1 rfl rfl <|
    aw_iald (pc := 25) C dK_c_109.2.2.2.2.2.2.2.1 hA1 rfl <|
    aw_iast (pc := 26) C dK_c_110.1 sR_17 rfl fun h4 =>
    aw_goto (pc := 27) C (tgt := 42) dK_c_110.2.1 rfl <|
    (aX11_passes_j42 C p1 n1 hA1 v2 (X11_passes_l2 p1 n1 n) ih h4)))
def X11_passes (p1 : Nat) (n1 : Nat) (h : AH) : Option (Unit × AH) :=
    X11_passes_l2 p1 n1 FU 0 h
set_option maxRecDepth 100000 in
theorem c_X11_passes (l : Launch) (p1 : Nat) (n1 : Nat) (hA1 : ZR.1[p1]? = some (.inl (0, 0, n1))) : MC l yX11_passes cX11_passes 3 none rmX11_passes ZR [.ref 0, .ref p1] rvV (X11_passes p1 n1) :=
  MC.of (own := RX11) pn_RX11 rfl (Nat.le_of_ble_eq_true rfl) fun X yd A h _ C =>
    aw_iconst (pc := 0) C (v := 0) dK_c_108.1 rfl <|
    aw_istore_n (pc := 1) C (i := 2) (lv' := [(0, .ref 0), (1, .ref p1), (2, .int 0)]) dK_c_108.2.1 rfl (by decide) rfl <|
    (aX11_passes_l2 C p1 n1 hA1 FU 0 h)
end
section
abbrev rmX11_passOne : Room := { frames := 0, cells := 0, slots := 0, locals := 0 }
def X11_passOne_j38  (v2 : Int32) (h : AH) : Option (Int32 × AH) :=
    vl (sI h 0 27 ((h.1 0 27) + 1)) fun h1 =>
    some (v2, h1)
set_option maxRecDepth 100000 in
theorem aX11_passOne_j38 {X : MCx} {yd : Dyn} {A : Nat → Prop} (C : OK X cX11_passOne RX11 3 (some .int) rmX11_passOne A)  (v2 : Int32) (h : AH) : AW X 3 ZR yd A 0 0 (QF X rmX11_passOne ZR yd rvI A) 38 [(0, .ref 0), (2, .int v2)] [] h (X11_passOne_j38 v2 h) := by
    exact aw_aload_n (pc := 38) C (i := 0) dK_c_115.2.2.2.2.1 rfl rfl <|
    aw_dup (pc := 39) C dK_c_115.2.2.2.2.2.1 rfl <|
    aw_getI (pc := 40) C dK_c_115.2.2.2.2.2.2.1 fl_X11_184 sR_0 rfl <|
    aw_iconst (pc := 43) C (v := 1) dK_c_115.2.2.2.2.2.2.2.1 rfl <|
    aw_iadd (pc := 44) C dK_c_116.1 <|
    aw_putI (pc := 45) C dK_c_116.2.1 fp_X11_184 sR_0 rfl fun h1 =>
    aw_iload_n (pc := 48) C (i := 2) dK_c_116.2.2.1 rfl rfl <|
    aw_iret (pc := 49) C dK_c_116.2.2.2.1 rfl rfl
def X11_passOne_j20  (v1 : Int32) (s0 : Int32) (h : AH) : Option (Int32 × AH) :=
    if (h.1 0 26) = 0 then (X11_passOne_j38 s0 h)
    else (ck (h.1 0 27) 240 (vl (sI h 17 (h.1 0 27).toNatClampNeg v1) fun h2 =>
    X11_passOne_j38 s0 h2))
set_option maxRecDepth 100000 in
theorem aX11_passOne_j20 {X : MCx} {yd : Dyn} {A : Nat → Prop} (C : OK X cX11_passOne RX11 3 (some .int) rmX11_passOne A)  (v1 : Int32) (s0 : Int32) (h : AH) : AW X 3 ZR yd A 0 0 (QF X rmX11_passOne ZR yd rvI A) 20 [(0, .ref 0), (1, .int v1)] [.int s0] h (X11_passOne_j20 v1 s0 h) := by
    exact aw_istore_n (pc := 20) C (i := 2) (lv' := [(0, .ref 0), (1, .int v1), (2, .int s0)]) dK_c_114.2.2.1 rfl (by decide) rfl <|
    aw_aload_n (pc := 21) C (i := 0) dK_c_114.2.2.2.1 rfl rfl <|
    aw_getI (pc := 22) C dK_c_114.2.2.2.2.1 fl_X11_180 sR_0 rfl <|
    aw_if_eq (pc := 25) C (tgt := 38) dK_c_114.2.2.2.2.2.1 rfl (fun _ =>
    aw_drop [0, 2] (aX11_passOne_j38 C s0 h)) (fun _ =>
    aw_aload_n (pc := 28) C (i := 0) dK_c_114.2.2.2.2.2.2.1 rfl rfl <|
    aw_getR (pc := 29) C (b := 17) dK_c_114.2.2.2.2.2.2.2.1 fl_X11_58 sR_0 rfl rR_0_24 <|
    aw_aload_n (pc := 32) C (i := 0) dK_c_115.1 rfl rfl <|
    aw_getI (pc := 33) C dK_c_115.2.1 fl_X11_184 sR_0 rfl <|
    aw_iload_n (pc := 36) C (i := 1) dK_c_115.2.2.1 rfl rfl <|
    aw_iast (pc := 37) C dK_c_115.2.2.2.1 sR_17 rfl fun h2 =>
    aw_drop [0, 2] (aX11_passOne_j38 C s0 h2))
def X11_passOne (v1 : Int32) (h : AH) : Option (Int32 × AH) :=
    if (h.1 0 26) = 0 then (ck (h.1 0 27) 240 (X11_passOne_j20 v1 (h.1 17 (h.1 0 27).toNatClampNeg) h))
    else (X11_passOne_j20 v1 v1 h)
set_option maxRecDepth 100000 in
theorem c_X11_passOne (l : Launch) (v1 : Int32) : MC l yX11_passOne cX11_passOne 3 (some .int) rmX11_passOne ZR [.ref 0, .int v1] rvI (X11_passOne v1) :=
  MC.of (own := RX11) pn_RX11 rfl (Nat.le_of_ble_eq_true rfl) fun X yd A h _ C =>
    aw_aload_n (pc := 0) C (i := 0) dK_c_113.1 rfl rfl <|
    aw_getI (pc := 1) C dK_c_113.2.1 fl_X11_180 sR_0 rfl <|
    aw_if_eq (pc := 4) C (tgt := 11) dK_c_113.2.2.1 rfl (fun _ =>
    aw_aload_n (pc := 11) C (i := 0) dK_c_113.2.2.2.2.2.1 rfl rfl <|
    aw_getR (pc := 12) C (b := 17) dK_c_113.2.2.2.2.2.2.1 fl_X11_58 sR_0 rfl rR_0_24 <|
    aw_aload_n (pc := 15) C (i := 0) dK_c_113.2.2.2.2.2.2.2.1 rfl rfl <|
    aw_getI (pc := 16) C dK_c_114.1 fl_X11_184 sR_0 rfl <|
    aw_iald (pc := 19) C dK_c_114.2.1 sR_17 rfl <|
    (aX11_passOne_j20 C v1 (h.1 17 (h.1 0 27).toNatClampNeg) h)) (fun _ =>
    aw_iload_n (pc := 7) C (i := 1) dK_c_113.2.2.2.1 rfl rfl <|
    aw_goto (pc := 8) C (tgt := 20) dK_c_113.2.2.2.2.1 rfl <|
    (aX11_passOne_j20 C v1 v1 h))

abbrev rmX11_passesAll : Room := { frames := 1, cells := 0, slots := 0, locals := 22 }
def X11_passesAll (v1 : Int32) (v2 : Int32) (h : AH) : Option (Unit × AH) :=
    vl (sI h 0 27 (120 * v1)) fun h1 =>
    cz v2 (vl (sI h1 0 26 v2) fun h2 =>
    bd (X11_passes 2 4 h2) fun _ h4 =>
    bd (X11_passes 3 4 h4) fun _ h6 =>
    bd (X11_passes 4 4 h6) fun _ h8 =>
    bd (X11_passes 5 4 h8) fun _ h10 =>
    bd (X11_passes 6 4 h10) fun _ h12 =>
    bd (X11_passes 7 4 h12) fun _ h14 =>
    bd (X11_passes 8 4 h14) fun _ h16 =>
    bd (X11_passes 9 4 h16) fun _ h18 =>
    bd (X11_passes 10 24 h18) fun _ h20 =>
    bd (X11_passes 11 24 h20) fun _ h22 =>
    bd (X11_passes 12 24 h22) fun _ h24 =>
    bd (X11_passOne (h24.1 0 12) h24) fun r25 h26 =>
    vl (sI h26 0 12 r25) fun h27 =>
    bd (X11_passOne (h27.1 0 13) h27) fun r28 h29 =>
    vl (sI h29 0 13 r28) fun h30 =>
    bd (X11_passOne (h30.1 0 14) h30) fun r31 h32 =>
    vl (sI h32 0 14 r31) fun h33 =>
    bd (X11_passOne (h33.1 0 15) h33) fun r34 h35 =>
    vl (sI h35 0 15 r34) fun h36 =>
    bd (X11_passOne (h36.1 0 16) h36) fun r37 h38 =>
    vl (sI h38 0 16 r37) fun h39 =>
    some ((), h39))
set_option maxRecDepth 100000 in
theorem c_X11_passesAll (l : Launch) (v1 : Int32) (v2 : Int32) : MC l yX11_passesAll cX11_passesAll 3 none rmX11_passesAll ZR [.ref 0, .int v1, .int v2] rvV (X11_passesAll v1 v2) :=
  MC.of (own := RX11) pn_RX11 rfl (Nat.le_of_ble_eq_true rfl) fun X yd A h _ C =>
    aw_aload_n (pc := 0) C (i := 0) dK_c_117.1 rfl rfl <|
    aw_bipush (pc := 1) C (v := 120) dK_c_117.2.1 rfl <|
    aw_iload_n (pc := 3) C (i := 1) dK_c_117.2.2.1 rfl rfl <|
    aw_imul (pc := 4) C dK_c_117.2.2.2.1 <|
    aw_putI (pc := 5) C dK_c_117.2.2.2.2.1 fp_X11_184 sR_0 rfl fun h1 =>
    aw_aload_n (pc := 8) C (i := 0) dK_c_117.2.2.2.2.2.1 rfl rfl <|
    aw_iload_n (pc := 9) C (i := 2) dK_c_117.2.2.2.2.2.2.1 rfl rfl <|
    aw_putZ (pc := 10) C dK_c_117.2.2.2.2.2.2.2.1 fp_X11_180 sR_0 rfl fun h2 =>
    aw_aload_n (pc := 13) C (i := 0) dK_c_118.1 rfl rfl <|
    aw_aload_n (pc := 14) C (i := 0) dK_c_118.2.1 rfl rfl <|
    aw_getR (pc := 15) C (b := 2) dK_c_118.2.2.1 fl_X11_13 sR_0 rfl rR_0_1 <|
    aw_callF (pc := 18) C (cr_V (rest := []) (F := (X11_passes 2 4)) C (c_X11_passes X.2.1 2 4 sR_2) dK_c_118.2.2.2.1 mf_X11_passes ml_X11_187 im_X11_passes se_X11_passes sR_0 rfl ⟨(Nat.le_of_ble_eq_true rfl), (Nat.le_of_ble_eq_true rfl)⟩ rfl rfl (Nat.le_of_ble_eq_true rfl)) rfl rfl rfl (Nat.zero_le _) (Nat.zero_le _) fun _ h4 =>
    aw_aload_n (pc := 21) C (i := 0) dK_c_118.2.2.2.2.1 rfl rfl <|
    aw_aload_n (pc := 22) C (i := 0) dK_c_118.2.2.2.2.2.1 rfl rfl <|
    aw_getR (pc := 23) C (b := 3) dK_c_118.2.2.2.2.2.2.1 fl_X11_16 sR_0 rfl rR_0_2 <|
    aw_callF (pc := 26) C (cr_V (rest := []) (F := (X11_passes 3 4)) C (c_X11_passes X.2.1 3 4 sR_3) dK_c_118.2.2.2.2.2.2.2.1 mf_X11_passes ml_X11_187 im_X11_passes se_X11_passes sR_0 rfl ⟨(Nat.le_of_ble_eq_true rfl), (Nat.le_of_ble_eq_true rfl)⟩ rfl rfl (Nat.le_of_ble_eq_true rfl)) rfl rfl rfl (Nat.zero_le _) (Nat.zero_le _) fun _ h6 =>
    aw_aload_n (pc := 29) C (i := 0) dK_c_119.1 rfl rfl <|
    aw_aload_n (pc := 30) C (i := 0) dK_c_119.2.1 rfl rfl <|
    aw_getR (pc := 31) C (b := 4) dK_c_119.2.2.1 fl_X11_19 sR_0 rfl rR_0_3 <|
    aw_callF (pc := 34) C (cr_V (rest := []) (F := (X11_passes 4 4)) C (c_X11_passes X.2.1 4 4 sR_4) dK_c_119.2.2.2.1 mf_X11_passes ml_X11_187 im_X11_passes se_X11_passes sR_0 rfl ⟨(Nat.le_of_ble_eq_true rfl), (Nat.le_of_ble_eq_true rfl)⟩ rfl rfl (Nat.le_of_ble_eq_true rfl)) rfl rfl rfl (Nat.zero_le _) (Nat.zero_le _) fun _ h8 =>
    aw_aload_n (pc := 37) C (i := 0) dK_c_119.2.2.2.2.1 rfl rfl <|
    aw_aload_n (pc := 38) C (i := 0) dK_c_119.2.2.2.2.2.1 rfl rfl <|
    aw_getR (pc := 39) C (b := 5) dK_c_119.2.2.2.2.2.2.1 fl_X11_22 sR_0 rfl rR_0_4 <|
    aw_callF (pc := 42) C (cr_V (rest := []) (F := (X11_passes 5 4)) C (c_X11_passes X.2.1 5 4 sR_5) dK_c_119.2.2.2.2.2.2.2.1 mf_X11_passes ml_X11_187 im_X11_passes se_X11_passes sR_0 rfl ⟨(Nat.le_of_ble_eq_true rfl), (Nat.le_of_ble_eq_true rfl)⟩ rfl rfl (Nat.le_of_ble_eq_true rfl)) rfl rfl rfl (Nat.zero_le _) (Nat.zero_le _) fun _ h10 =>
    aw_aload_n (pc := 45) C (i := 0) dK_c_120.1 rfl rfl <|
    aw_aload_n (pc := 46) C (i := 0) dK_c_120.2.1 rfl rfl <|
    aw_getR (pc := 47) C (b := 6) dK_c_120.2.2.1 fl_X11_25 sR_0 rfl rR_0_5 <|
    aw_callF (pc := 50) C (cr_V (rest := []) (F := (X11_passes 6 4)) C (c_X11_passes X.2.1 6 4 sR_6) dK_c_120.2.2.2.1 mf_X11_passes ml_X11_187 im_X11_passes se_X11_passes sR_0 rfl ⟨(Nat.le_of_ble_eq_true rfl), (Nat.le_of_ble_eq_true rfl)⟩ rfl rfl (Nat.le_of_ble_eq_true rfl)) rfl rfl rfl (Nat.zero_le _) (Nat.zero_le _) fun _ h12 =>
    aw_aload_n (pc := 53) C (i := 0) dK_c_120.2.2.2.2.1 rfl rfl <|
    aw_aload_n (pc := 54) C (i := 0) dK_c_120.2.2.2.2.2.1 rfl rfl <|
    aw_getR (pc := 55) C (b := 7) dK_c_120.2.2.2.2.2.2.1 fl_X11_28 sR_0 rfl rR_0_6 <|
    aw_callF (pc := 58) C (cr_V (rest := []) (F := (X11_passes 7 4)) C (c_X11_passes X.2.1 7 4 sR_7) dK_c_120.2.2.2.2.2.2.2.1 mf_X11_passes ml_X11_187 im_X11_passes se_X11_passes sR_0 rfl ⟨(Nat.le_of_ble_eq_true rfl), (Nat.le_of_ble_eq_true rfl)⟩ rfl rfl (Nat.le_of_ble_eq_true rfl)) rfl rfl rfl (Nat.zero_le _) (Nat.zero_le _) fun _ h14 =>
    aw_aload_n (pc := 61) C (i := 0) dK_c_121.1 rfl rfl <|
    aw_aload_n (pc := 62) C (i := 0) dK_c_121.2.1 rfl rfl <|
    aw_getR (pc := 63) C (b := 8) dK_c_121.2.2.1 fl_X11_31 sR_0 rfl rR_0_7 <|
    aw_callF (pc := 66) C (cr_V (rest := []) (F := (X11_passes 8 4)) C (c_X11_passes X.2.1 8 4 sR_8) dK_c_121.2.2.2.1 mf_X11_passes ml_X11_187 im_X11_passes se_X11_passes sR_0 rfl ⟨(Nat.le_of_ble_eq_true rfl), (Nat.le_of_ble_eq_true rfl)⟩ rfl rfl (Nat.le_of_ble_eq_true rfl)) rfl rfl rfl (Nat.zero_le _) (Nat.zero_le _) fun _ h16 =>
    aw_aload_n (pc := 69) C (i := 0) dK_c_121.2.2.2.2.1 rfl rfl <|
    aw_aload_n (pc := 70) C (i := 0) dK_c_121.2.2.2.2.2.1 rfl rfl <|
    aw_getR (pc := 71) C (b := 9) dK_c_121.2.2.2.2.2.2.1 fl_X11_34 sR_0 rfl rR_0_8 <|
    aw_callF (pc := 74) C (cr_V (rest := []) (F := (X11_passes 9 4)) C (c_X11_passes X.2.1 9 4 sR_9) dK_c_121.2.2.2.2.2.2.2.1 mf_X11_passes ml_X11_187 im_X11_passes se_X11_passes sR_0 rfl ⟨(Nat.le_of_ble_eq_true rfl), (Nat.le_of_ble_eq_true rfl)⟩ rfl rfl (Nat.le_of_ble_eq_true rfl)) rfl rfl rfl (Nat.zero_le _) (Nat.zero_le _) fun _ h18 =>
    aw_aload_n (pc := 77) C (i := 0) dK_c_122.1 rfl rfl <|
    aw_aload_n (pc := 78) C (i := 0) dK_c_122.2.1 rfl rfl <|
    aw_getR (pc := 79) C (b := 10) dK_c_122.2.2.1 fl_X11_37 sR_0 rfl rR_0_9 <|
    aw_callF (pc := 82) C (cr_V (rest := []) (F := (X11_passes 10 24)) C (c_X11_passes X.2.1 10 24 sR_10) dK_c_122.2.2.2.1 mf_X11_passes ml_X11_187 im_X11_passes se_X11_passes sR_0 rfl ⟨(Nat.le_of_ble_eq_true rfl), (Nat.le_of_ble_eq_true rfl)⟩ rfl rfl (Nat.le_of_ble_eq_true rfl)) rfl rfl rfl (Nat.zero_le _) (Nat.zero_le _) fun _ h20 =>
    aw_aload_n (pc := 85) C (i := 0) dK_c_122.2.2.2.2.1 rfl rfl <|
    aw_aload_n (pc := 86) C (i := 0) dK_c_122.2.2.2.2.2.1 rfl rfl <|
    aw_getR (pc := 87) C (b := 11) dK_c_122.2.2.2.2.2.2.1 fl_X11_40 sR_0 rfl rR_0_10 <|
    aw_callF (pc := 90) C (cr_V (rest := []) (F := (X11_passes 11 24)) C (c_X11_passes X.2.1 11 24 sR_11) dK_c_122.2.2.2.2.2.2.2.1 mf_X11_passes ml_X11_187 im_X11_passes se_X11_passes sR_0 rfl ⟨(Nat.le_of_ble_eq_true rfl), (Nat.le_of_ble_eq_true rfl)⟩ rfl rfl (Nat.le_of_ble_eq_true rfl)) rfl rfl rfl (Nat.zero_le _) (Nat.zero_le _) fun _ h22 =>
    aw_aload_n (pc := 93) C (i := 0) dK_c_123.1 rfl rfl <|
    aw_aload_n (pc := 94) C (i := 0) dK_c_123.2.1 rfl rfl <|
    aw_getR (pc := 95) C (b := 12) dK_c_123.2.2.1 fl_X11_43 sR_0 rfl rR_0_11 <|
    aw_callF (pc := 98) C (cr_V (rest := []) (F := (X11_passes 12 24)) C (c_X11_passes X.2.1 12 24 sR_12) dK_c_123.2.2.2.1 mf_X11_passes ml_X11_187 im_X11_passes se_X11_passes sR_0 rfl ⟨(Nat.le_of_ble_eq_true rfl), (Nat.le_of_ble_eq_true rfl)⟩ rfl rfl (Nat.le_of_ble_eq_true rfl)) rfl rfl rfl (Nat.zero_le _) (Nat.zero_le _) fun _ h24 =>
    aw_aload_n (pc := 101) C (i := 0) dK_c_123.2.2.2.2.1 rfl rfl <|
    aw_aload_n (pc := 102) C (i := 0) dK_c_123.2.2.2.2.2.1 rfl rfl <|
    aw_aload_n (pc := 103) C (i := 0) dK_c_123.2.2.2.2.2.2.1 rfl rfl <|
    aw_getI (pc := 104) C dK_c_123.2.2.2.2.2.2.2.1 fl_X11_95 sR_0 rfl <|
    aw_callF (pc := 107) C (cr_V (rest := [.ref 0]) (F := (X11_passOne (h24.1 0 12))) C (c_X11_passOne X.2.1 (h24.1 0 12)) dK_c_124.1 mf_X11_passOne ml_X11_191 im_X11_passOne se_X11_passOne sR_0 rfl ⟨(Nat.le_of_ble_eq_true rfl), (Nat.le_of_ble_eq_true rfl)⟩ rfl rfl (Nat.le_of_ble_eq_true rfl)) rfl rfl rfl (Nat.zero_le _) (Nat.zero_le _) fun r25 h26 =>
    aw_putI (pc := 110) C dK_c_124.2.1 fp_X11_95 sR_0 rfl fun h27 =>
    aw_aload_n (pc := 113) C (i := 0) dK_c_124.2.2.1 rfl rfl <|
    aw_aload_n (pc := 114) C (i := 0) dK_c_124.2.2.2.1 rfl rfl <|
    aw_aload_n (pc := 115) C (i := 0) dK_c_124.2.2.2.2.1 rfl rfl <|
    aw_getI (pc := 116) C dK_c_124.2.2.2.2.2.1 fl_X11_99 sR_0 rfl <|
    aw_callF (pc := 119) C (cr_V (rest := [.ref 0]) (F := (X11_passOne (h27.1 0 13))) C (c_X11_passOne X.2.1 (h27.1 0 13)) dK_c_124.2.2.2.2.2.2.1 mf_X11_passOne ml_X11_191 im_X11_passOne se_X11_passOne sR_0 rfl ⟨(Nat.le_of_ble_eq_true rfl), (Nat.le_of_ble_eq_true rfl)⟩ rfl rfl (Nat.le_of_ble_eq_true rfl)) rfl rfl rfl (Nat.zero_le _) (Nat.zero_le _) fun r28 h29 =>
    aw_putI (pc := 122) C dK_c_124.2.2.2.2.2.2.2.1 fp_X11_99 sR_0 rfl fun h30 =>
    aw_aload_n (pc := 125) C (i := 0) dK_c_125.1 rfl rfl <|
    aw_aload_n (pc := 126) C (i := 0) dK_c_125.2.1 rfl rfl <|
    aw_aload_n (pc := 127) C (i := 0) dK_c_125.2.2.1 rfl rfl <|
    aw_getI (pc := 128) C dK_c_125.2.2.2.1 fl_X11_157 sR_0 rfl <|
    aw_callF (pc := 131) C (cr_V (rest := [.ref 0]) (F := (X11_passOne (h30.1 0 14))) C (c_X11_passOne X.2.1 (h30.1 0 14)) dK_c_125.2.2.2.2.1 mf_X11_passOne ml_X11_191 im_X11_passOne se_X11_passOne sR_0 rfl ⟨(Nat.le_of_ble_eq_true rfl), (Nat.le_of_ble_eq_true rfl)⟩ rfl rfl (Nat.le_of_ble_eq_true rfl)) rfl rfl rfl (Nat.zero_le _) (Nat.zero_le _) fun r31 h32 =>
    aw_putI (pc := 134) C dK_c_125.2.2.2.2.2.1 fp_X11_157 sR_0 rfl fun h33 =>
    aw_aload_n (pc := 137) C (i := 0) dK_c_125.2.2.2.2.2.2.1 rfl rfl <|
    aw_aload_n (pc := 138) C (i := 0) dK_c_125.2.2.2.2.2.2.2.1 rfl rfl <|
    aw_aload_n (pc := 139) C (i := 0) dK_c_126.1 rfl rfl <|
    aw_getI (pc := 140) C dK_c_126.2.1 fl_X11_105 sR_0 rfl <|
    aw_callF (pc := 143) C (cr_V (rest := [.ref 0]) (F := (X11_passOne (h33.1 0 15))) C (c_X11_passOne X.2.1 (h33.1 0 15)) dK_c_126.2.2.1 mf_X11_passOne ml_X11_191 im_X11_passOne se_X11_passOne sR_0 rfl ⟨(Nat.le_of_ble_eq_true rfl), (Nat.le_of_ble_eq_true rfl)⟩ rfl rfl (Nat.le_of_ble_eq_true rfl)) rfl rfl rfl (Nat.zero_le _) (Nat.zero_le _) fun r34 h35 =>
    aw_putI (pc := 146) C dK_c_126.2.2.2.1 fp_X11_105 sR_0 rfl fun h36 =>
    aw_aload_n (pc := 149) C (i := 0) dK_c_126.2.2.2.2.1 rfl rfl <|
    aw_aload_n (pc := 150) C (i := 0) dK_c_126.2.2.2.2.2.1 rfl rfl <|
    aw_aload_n (pc := 151) C (i := 0) dK_c_126.2.2.2.2.2.2.1 rfl rfl <|
    aw_getI (pc := 152) C dK_c_126.2.2.2.2.2.2.2.1 fl_X11_147 sR_0 rfl <|
    aw_callF (pc := 155) C (cr_V (rest := [.ref 0]) (F := (X11_passOne (h36.1 0 16))) C (c_X11_passOne X.2.1 (h36.1 0 16)) dK_c_127.1 mf_X11_passOne ml_X11_191 im_X11_passOne se_X11_passOne sR_0 rfl ⟨(Nat.le_of_ble_eq_true rfl), (Nat.le_of_ble_eq_true rfl)⟩ rfl rfl (Nat.le_of_ble_eq_true rfl)) rfl rfl rfl (Nat.zero_le _) (Nat.zero_le _) fun r37 h38 =>
    aw_putI (pc := 158) C dK_c_127.2.1 fp_X11_147 sR_0 rfl fun h39 =>
    aw_vret (pc := 161) C dK_c_127.2.2.1 rfl rfl

abbrev rmX11_ground : Room := { frames := 7, cells := 0, slots := 0, locals := 155 }
def X11_ground_l86  : Nat → Int32 → AH → Option (Int32 × AH)
  | 0, _, _ => none
  | n + 1, v2, h =>
    if (h.1 0 23) ≤ v2 then (some ((h.1 0 23), h))
    else (bd (X11_comes v2 h) fun r6 h7 =>
    if r6 = 0 then (bd (X11_passesAll 1 0 h7) fun _ h9 =>
    ck v2 48 (some (((-2000) - (h9.1 15 v2.toNatClampNeg)), h9)))
    else (vl (v2 + 1) fun x10 =>
    (X11_ground_l86 n) x10 h7))
set_option maxRecDepth 100000 in
theorem aX11_ground_l86 {X : MCx} {yd : Dyn} {A : Nat → Prop} (C : OK X cX11_ground RX11 3 (some .int) rmX11_ground A)  : ∀ (n : Nat) (v2 : Int32) (h : AH), AW X 3 ZR yd A 0 0 (QF X rmX11_ground ZR yd rvI A) 86 [(0, .ref 0), (2, .int v2)] [] h (X11_ground_l86 n v2 h) := by
  intro n
  induction n with
  | zero => intro v2 h; exact aw_none
  | succ n ih =>
    intro v2 h
    exact aw_iload_n (pc := 86) C (i := 2) dK_c_104.1 rfl rfl <|
    aw_aload_n (pc := 87) C (i := 0) dK_c_104.2.1 rfl rfl <|
    aw_getI (pc := 88) C dK_c_104.2.2.1 fl_X11_141 sR_0 rfl <|
    aw_icmp_ge (pc := 91) C (tgt := 128) dK_c_104.2.2.2.1 rfl (fun _ =>
    aw_aload_n (pc := 128) C (i := 0) dK_c_106.2.2.2.2.2.2.1 rfl rfl <|
    aw_getI (pc := 129) C dK_c_106.2.2.2.2.2.2.2.1 fl_X11_141 sR_0 rfl <|
    aw_iret (pc := 132) C dK_c_107.1 rfl rfl) (fun _ =>
    aw_aload_n (pc := 94) C (i := 0) dK_c_104.2.2.2.2.1 rfl rfl <|
    aw_iload_n (pc := 95) C (i := 2) dK_c_104.2.2.2.2.2.1 rfl rfl <|
    aw_callF (pc := 96) C (cr_V (rest := []) (F := (X11_comes v2)) C (c_X11_comes X.2.1 v2) dK_c_104.2.2.2.2.2.2.1 mf_X11_comes ml_X11_177 im_X11_comes se_X11_comes sR_0 rfl ⟨(Nat.le_of_ble_eq_true rfl), (Nat.le_of_ble_eq_true rfl)⟩ rfl rfl (Nat.le_of_ble_eq_true rfl)) rfl rfl rfl (Nat.zero_le _) (Nat.zero_le _) fun r6 h7 =>
    aw_if_eq (pc := 99) C (tgt := 105) dK_c_104.2.2.2.2.2.2.2.1 rfl (fun _ =>
    aw_aload_n (pc := 105) C (i := 0) dK_c_105.2.1 rfl rfl <|
    aw_iconst (pc := 106) C (v := 1) dK_c_105.2.2.1 rfl <|
    aw_iconst (pc := 107) C (v := 0) dK_c_105.2.2.2.1 rfl <|
    aw_callF (pc := 108) C (cr_V (rest := []) (F := (X11_passesAll 1 0)) C (c_X11_passesAll X.2.1 1 0) dK_c_105.2.2.2.2.1 mf_X11_passesAll ml_X11_173 im_X11_passesAll se_X11_passesAll sR_0 rfl ⟨(Nat.le_of_ble_eq_true rfl), (Nat.le_of_ble_eq_true rfl)⟩ rfl rfl (Nat.le_of_ble_eq_true rfl)) rfl rfl rfl (Nat.zero_le _) (Nat.zero_le _) fun _ h9 =>
    aw_sipush (pc := 111) C (v := (-2000)) dK_c_105.2.2.2.2.2.1 rfl <|
    aw_aload_n (pc := 114) C (i := 0) dK_c_105.2.2.2.2.2.2.1 rfl rfl <|
    aw_getR (pc := 115) C (b := 15) dK_c_105.2.2.2.2.2.2.2.1 fl_X11_52 sR_0 rfl rR_0_19 <|
    aw_iload_n (pc := 118) C (i := 2) dK_c_106.1 rfl rfl <|
    aw_iald (pc := 119) C dK_c_106.2.1 sR_15 rfl <|
    aw_isub (pc := 120) C dK_c_106.2.2.1 <|
    aw_iret (pc := 121) C dK_c_106.2.2.2.1 rfl rfl) (fun _ =>
    aw_goto (pc := 102) C (tgt := 122) dK_c_105.1 rfl <|
    aw_iincV (pc := 122) C (i := 2) (cst := 1) (fun x10 => [(0, .ref 0), (2, .int x10)]) dK_c_106.2.2.2.2.1 rfl rfl (by decide) (fun _ => rfl) fun x10 =>
    aw_goto (pc := 125) C (tgt := 86) dK_c_106.2.2.2.2.2.1 rfl <|
    (ih x10 h7)))
def X11_ground_j60  (v1 : Int32) (h : AH) : Option (Int32 × AH) :=
    vl (sI h 0 21 0) fun h3 =>
    if v1 = 0 then (some (((-1000) - (h3.1 0 22)), h3))
    else (bd (X11_passesAll 1 1 h3) fun _ h5 =>
    X11_ground_l86 FU 0 h5)
set_option maxRecDepth 100000 in
theorem aX11_ground_j60 {X : MCx} {yd : Dyn} {A : Nat → Prop} (C : OK X cX11_ground RX11 3 (some .int) rmX11_ground A)  (v1 : Int32) (h : AH) : AW X 3 ZR yd A 0 0 (QF X rmX11_ground ZR yd rvI A) 60 [(0, .ref 0), (1, .int v1)] [] h (X11_ground_j60 v1 h) := by
    exact aw_aload_n (pc := 60) C (i := 0) dK_c_102.1 rfl rfl <|
    aw_iconst (pc := 61) C (v := 0) dK_c_102.2.1 rfl <|
    aw_putI (pc := 62) C dK_c_102.2.2.1 fp_X11_112 sR_0 rfl fun h3 =>
    aw_iload_n (pc := 65) C (i := 1) dK_c_102.2.2.2.1 rfl rfl <|
    aw_if_ne (pc := 66) C (tgt := 78) dK_c_102.2.2.2.2.1 rfl (fun _ =>
    aw_sipush (pc := 69) C (v := (-1000)) dK_c_102.2.2.2.2.2.1 rfl <|
    aw_aload_n (pc := 72) C (i := 0) dK_c_102.2.2.2.2.2.2.1 rfl rfl <|
    aw_getI (pc := 73) C dK_c_102.2.2.2.2.2.2.2.1 fl_X11_119 sR_0 rfl <|
    aw_isub (pc := 76) C dK_c_103.1 <|
    aw_iret (pc := 77) C dK_c_103.2.1 rfl rfl) (fun _ =>
    aw_aload_n (pc := 78) C (i := 0) dK_c_103.2.2.1 rfl rfl <|
    aw_iconst (pc := 79) C (v := 1) dK_c_103.2.2.2.1 rfl <|
    aw_iconst (pc := 80) C (v := 1) dK_c_103.2.2.2.2.1 rfl <|
    aw_callF (pc := 81) C (cr_V (rest := []) (F := (X11_passesAll 1 1)) C (c_X11_passesAll X.2.1 1 1) dK_c_103.2.2.2.2.2.1 mf_X11_passesAll ml_X11_173 im_X11_passesAll se_X11_passesAll sR_0 rfl ⟨(Nat.le_of_ble_eq_true rfl), (Nat.le_of_ble_eq_true rfl)⟩ rfl rfl (Nat.le_of_ble_eq_true rfl)) rfl rfl rfl (Nat.zero_le _) (Nat.zero_le _) fun _ h5 =>
    aw_iconst (pc := 84) C (v := 0) dK_c_103.2.2.2.2.2.2.1 rfl <|
    aw_istore_n (pc := 85) C (i := 2) (lv' := [(0, .ref 0), (1, .int v1), (2, .int 0)]) dK_c_103.2.2.2.2.2.2.2.1 rfl (by decide) rfl <|
    aw_drop [0, 2] (aX11_ground_l86 C FU 0 h5))
def X11_ground_j53  (v1 : Int32) (K12 : Int32 → AH → Option (Int32 × AH)) (s0 : Int32) (s1 : Int32) (h : AH) : Option (Int32 × AH) :=
    vl (sI h 0 23 (s1 + s0)) fun h13 =>
    K12 v1 h13
set_option maxRecDepth 100000 in
theorem aX11_ground_j53 {X : MCx} {yd : Dyn} {A : Nat → Prop} (C : OK X cX11_ground RX11 3 (some .int) rmX11_ground A)  (v1 : Int32) (K12 : Int32 → AH → Option (Int32 × AH)) (hK12 : ∀ (w1 : Int32) (h : AH), AW X 3 ZR yd A 0 0 (QF X rmX11_ground ZR yd rvI A) 12 [(0, .ref 0), (1, .int w1)] [] h (K12 w1 h)) (s0 : Int32) (s1 : Int32) (h : AH) : AW X 3 ZR yd A 0 0 (QF X rmX11_ground ZR yd rvI A) 53 [(0, .ref 0), (1, .int v1)] [.int s0, .int s1, .ref 0] h (X11_ground_j53 v1 K12 s0 s1 h) := by
    exact aw_iadd (pc := 53) C dK_c_101.2.2.2.2.2.1 <|
    aw_putI (pc := 54) C dK_c_101.2.2.2.2.2.2.1 fp_X11_141 sR_0 rfl fun h13 =>
    aw_goto (pc := 57) C (tgt := 12) dK_c_101.2.2.2.2.2.2.2.1 rfl <|
    (hK12 v1 h13)
def X11_ground_j34  (K12 : Int32 → AH → Option (Int32 × AH)) (h : AH) : Option (Int32 × AH) :=
    bd (X11_statement h) fun r11 h12 =>
    if r11 = 0 then (X11_ground_j53 r11 K12 0 (h12.1 0 23) h12)
    else (X11_ground_j53 r11 K12 1 (h12.1 0 23) h12)
set_option maxRecDepth 100000 in
theorem aX11_ground_j34 {X : MCx} {yd : Dyn} {A : Nat → Prop} (C : OK X cX11_ground RX11 3 (some .int) rmX11_ground A)  (K12 : Int32 → AH → Option (Int32 × AH)) (hK12 : ∀ (w1 : Int32) (h : AH), AW X 3 ZR yd A 0 0 (QF X rmX11_ground ZR yd rvI A) 12 [(0, .ref 0), (1, .int w1)] [] h (K12 w1 h)) (h : AH) : AW X 3 ZR yd A 0 0 (QF X rmX11_ground ZR yd rvI A) 34 [(0, .ref 0)] [] h (X11_ground_j34 K12 h) := by
    exact aw_aload_n (pc := 34) C (i := 0) dK_c_100.2.2.1 rfl rfl <|
    aw_callF (pc := 35) C (cr_V (rest := []) (F := X11_statement) C (c_X11_statement X.2.1 ) dK_c_100.2.2.2.1 mf_X11_statement ml_X11_169 im_X11_statement se_X11_statement sR_0 rfl ⟨(Nat.le_of_ble_eq_true rfl), (Nat.le_of_ble_eq_true rfl)⟩ rfl rfl (Nat.le_of_ble_eq_true rfl)) rfl rfl rfl (Nat.zero_le _) (Nat.zero_le _) fun r11 h12 =>
    aw_istore_n (pc := 38) C (i := 1) (lv' := [(0, .ref 0), (1, .int r11)]) dK_c_100.2.2.2.2.1 rfl (by decide) rfl <|
    aw_aload_n (pc := 39) C (i := 0) dK_c_100.2.2.2.2.2.1 rfl rfl <|
    aw_dup (pc := 40) C dK_c_100.2.2.2.2.2.2.1 rfl <|
    aw_getI (pc := 41) C dK_c_100.2.2.2.2.2.2.2.1 fl_X11_141 sR_0 rfl <|
    aw_iload_n (pc := 44) C (i := 1) dK_c_101.1 rfl rfl <|
    aw_if_eq (pc := 45) C (tgt := 52) dK_c_101.2.1 rfl (fun _ =>
    aw_iconst (pc := 52) C (v := 0) dK_c_101.2.2.2.2.1 rfl <|
    (aX11_ground_j53 C r11 K12 hK12 0 (h12.1 0 23) h12)) (fun _ =>
    aw_iconst (pc := 48) C (v := 1) dK_c_101.2.2.1 rfl <|
    aw_goto (pc := 49) C (tgt := 53) dK_c_101.2.2.2.1 rfl <|
    (aX11_ground_j53 C r11 K12 hK12 1 (h12.1 0 23) h12))
def X11_ground_l12  : Nat → Int32 → AH → Option (Int32 × AH)
  | 0, _, _ => none
  | n + 1, v1, h =>
    if v1 = 0 then (X11_ground_j60 v1 h)
    else (if (h.1 0 22) < (h.1 0 21) then (X11_ground_j34 (X11_ground_l12 n) h)
    else (if (h.1 0 23) = 0 then (X11_ground_j34 (X11_ground_l12 n) h)
    else (X11_ground_j60 v1 h)))
set_option maxRecDepth 100000 in
theorem aX11_ground_l12 {X : MCx} {yd : Dyn} {A : Nat → Prop} (C : OK X cX11_ground RX11 3 (some .int) rmX11_ground A)  : ∀ (n : Nat) (v1 : Int32) (h : AH), AW X 3 ZR yd A 0 0 (QF X rmX11_ground ZR yd rvI A) 12 [(0, .ref 0), (1, .int v1)] [] h (X11_ground_l12 n v1 h) := by
  intro n
  induction n with
  | zero => intro v1 h; exact aw_none
  | succ n ih =>
    intro v1 h
    exact aw_iload_n (pc := 12) C (i := 1) dK_c_99.1 rfl rfl <|
    aw_if_eq (pc := 13) C (tgt := 60) dK_c_99.2.1 rfl (fun _ =>
    (aX11_ground_j60 C v1 h)) (fun _ =>
    aw_aload_n (pc := 16) C (i := 0) dK_c_99.2.2.1 rfl rfl <|
    aw_getI (pc := 17) C dK_c_99.2.2.2.1 fl_X11_119 sR_0 rfl <|
    aw_aload_n (pc := 20) C (i := 0) dK_c_99.2.2.2.2.1 rfl rfl <|
    aw_getI (pc := 21) C dK_c_99.2.2.2.2.2.1 fl_X11_112 sR_0 rfl <|
    aw_icmp_lt (pc := 24) C (tgt := 34) dK_c_99.2.2.2.2.2.2.1 rfl (fun _ =>
    aw_drop [0] (aX11_ground_j34 C (X11_ground_l12 n) ih h)) (fun _ =>
    aw_aload_n (pc := 27) C (i := 0) dK_c_99.2.2.2.2.2.2.2.1 rfl rfl <|
    aw_getI (pc := 28) C dK_c_100.1 fl_X11_141 sR_0 rfl <|
    aw_if_ne (pc := 31) C (tgt := 60) dK_c_100.2.1 rfl (fun _ =>
    aw_drop [0] (aX11_ground_j34 C (X11_ground_l12 n) ih h)) (fun _ =>
    (aX11_ground_j60 C v1 h))))
def X11_ground  (h : AH) : Option (Int32 × AH) :=
    vl (sI h 0 22 0) fun h1 =>
    vl (sI h1 0 23 0) fun h2 =>
    X11_ground_l12 FU 1 h2
set_option maxRecDepth 100000 in
theorem c_X11_ground (l : Launch)  : MC l yX11_ground cX11_ground 3 (some .int) rmX11_ground ZR [.ref 0] rvI (X11_ground) :=
  MC.of (own := RX11) pn_RX11 rfl (Nat.le_of_ble_eq_true rfl) fun X yd A h _ C =>
    aw_aload_n (pc := 0) C (i := 0) dK_c_98.1 rfl rfl <|
    aw_iconst (pc := 1) C (v := 0) dK_c_98.2.1 rfl <|
    aw_putI (pc := 2) C dK_c_98.2.2.1 fp_X11_119 sR_0 rfl fun h1 =>
    aw_aload_n (pc := 5) C (i := 0) dK_c_98.2.2.2.1 rfl rfl <|
    aw_iconst (pc := 6) C (v := 0) dK_c_98.2.2.2.2.1 rfl <|
    aw_putI (pc := 7) C dK_c_98.2.2.2.2.2.1 fp_X11_141 sR_0 rfl fun h2 =>
    aw_iconst (pc := 10) C (v := 1) dK_c_98.2.2.2.2.2.2.1 rfl <|
    aw_istore_n (pc := 11) C (i := 1) (lv' := [(0, .ref 0), (1, .int 1)]) dK_c_98.2.2.2.2.2.2.2.1 rfl (by decide) rfl <|
    (aX11_ground_l12 C FU 1 h2)

abbrev rmX11_image : Room := { frames := 2, cells := 0, slots := 0, locals := 44 }
def X11_image  (h : AH) : Option (Int32 × AH) :=
    cz 1 (vl (sI h 0 25 1) fun h1 =>
    bd (X11_passesAll 0 1 h1) fun _ h3 =>
    some ((h3.1 0 16), h3))
set_option maxRecDepth 100000 in
theorem c_X11_image (l : Launch)  : MC l yX11_image cX11_image 1 (some .int) rmX11_image ZR [.ref 0] rvI (X11_image) :=
  MC.of (own := RX11) pn_RX11 rfl (Nat.le_of_ble_eq_true rfl) fun X yd A h _ C =>
    aw_aload_n (pc := 0) C (i := 0) dK_c_128.1 rfl rfl <|
    aw_iconst (pc := 1) C (v := 1) dK_c_128.2.1 rfl <|
    aw_putZ (pc := 2) C dK_c_128.2.2.1 fp_X11_194 sR_0 rfl fun h1 =>
    aw_aload_n (pc := 5) C (i := 0) dK_c_128.2.2.2.1 rfl rfl <|
    aw_iconst (pc := 6) C (v := 0) dK_c_128.2.2.2.2.1 rfl <|
    aw_iconst (pc := 7) C (v := 1) dK_c_128.2.2.2.2.2.1 rfl <|
    aw_callF (pc := 8) C (cr_V (rest := []) (F := (X11_passesAll 0 1)) C (c_X11_passesAll X.2.1 0 1) dK_c_128.2.2.2.2.2.2.1 mf_X11_passesAll ml_X11_173 im_X11_passesAll se_X11_passesAll sR_0 rfl ⟨(Nat.le_of_ble_eq_true rfl), (Nat.le_of_ble_eq_true rfl)⟩ rfl rfl (Nat.le_of_ble_eq_true rfl)) rfl rfl rfl (Nat.zero_le _) (Nat.zero_le _) fun _ h3 =>
    aw_aload_n (pc := 11) C (i := 0) dK_c_128.2.2.2.2.2.2.2.1 rfl rfl <|
    aw_getI (pc := 12) C dK_c_129.1 fl_X11_147 sR_0 rfl <|
    aw_iret (pc := 15) C dK_c_129.2.1 rfl rfl

abbrev rmX11_restore : Room := { frames := 2, cells := 0, slots := 0, locals := 44 }
def X11_restore  (h : AH) : Option (Int32 × AH) :=
    if (h.1 0 25) = 0 then (bd (X11_no (-3) h) fun r3 h4 =>
    some (r3, h4))
    else (bd (X11_passesAll 0 0 h) fun _ h2 =>
    some ((h2.1 0 16), h2))
set_option maxRecDepth 100000 in
theorem c_X11_restore (l : Launch)  : MC l yX11_restore cX11_restore 1 (some .int) rmX11_restore ZR [.ref 0] rvI (X11_restore) :=
  MC.of (own := RX11) pn_RX11 rfl (Nat.le_of_ble_eq_true rfl) fun X yd A h _ C =>
    aw_aload_n (pc := 0) C (i := 0) dK_c_130.1 rfl rfl <|
    aw_getI (pc := 1) C dK_c_130.2.1 fl_X11_194 sR_0 rfl <|
    aw_if_ne (pc := 4) C (tgt := 14) dK_c_130.2.2.1 rfl (fun _ =>
    aw_aload_n (pc := 7) C (i := 0) dK_c_130.2.2.2.1 rfl rfl <|
    aw_bipush (pc := 8) C (v := (-3)) dK_c_130.2.2.2.2.1 rfl <|
    aw_callF (pc := 10) C (cr_V (rest := []) (F := (X11_no (-3))) C (c_X11_no X.2.1 (-3)) dK_c_130.2.2.2.2.2.1 mf_X11_no ml_X11_115 im_X11_no se_X11_no sR_0 rfl ⟨(Nat.le_of_ble_eq_true rfl), (Nat.le_of_ble_eq_true rfl)⟩ rfl rfl (Nat.le_of_ble_eq_true rfl)) rfl rfl rfl (Nat.zero_le _) (Nat.zero_le _) fun r3 h4 =>
    aw_iret (pc := 13) C dK_c_130.2.2.2.2.2.2.1 rfl rfl) (fun _ =>
    aw_aload_n (pc := 14) C (i := 0) dK_c_130.2.2.2.2.2.2.2.1 rfl rfl <|
    aw_iconst (pc := 15) C (v := 0) dK_c_131.1 rfl <|
    aw_iconst (pc := 16) C (v := 0) dK_c_131.2.1 rfl <|
    aw_callF (pc := 17) C (cr_V (rest := []) (F := (X11_passesAll 0 0)) C (c_X11_passesAll X.2.1 0 0) dK_c_131.2.2.1 mf_X11_passesAll ml_X11_173 im_X11_passesAll se_X11_passesAll sR_0 rfl ⟨(Nat.le_of_ble_eq_true rfl), (Nat.le_of_ble_eq_true rfl)⟩ rfl rfl (Nat.le_of_ble_eq_true rfl)) rfl rfl rfl (Nat.zero_le _) (Nat.zero_le _) fun _ h2 =>
    aw_aload_n (pc := 20) C (i := 0) dK_c_131.2.2.2.1 rfl rfl <|
    aw_getI (pc := 21) C dK_c_131.2.2.2.2.1 fl_X11_147 sR_0 rfl <|
    aw_iret (pc := 24) C dK_c_131.2.2.2.2.2.1 rfl rfl)

abbrev rmX11_strideIn : Room := { frames := 0, cells := 0, slots := 0, locals := 0 }
def X11_strideIn (v1 : Int32) (v2 : Int32) (v3 : Int32) (h : AH) : Option (Int32 × AH) :=
    ck v1 4 (ck v1 4 (vl (((h.1 4 v1.toNatClampNeg) + (((h.1 5 v1.toNatClampNeg) * v2) / 10)) + ((v3 * v2) / 10)) fun x1 =>
    ck v1 4 (vl (h.1 2 v1.toNatClampNeg) fun y2 =>
    if y2 = 2 then (some ((x1 + (rm32 v2 2)), h))
    else if y2 = 4 then (some (((x1 + (rm32 v2 2)) + ((v3 * v2) / 10)), h))
    else if y2 = 5 then (ck v1 4 (ck v1 4 (some (((h.1 4 v1.toNatClampNeg) + (((h.1 5 v1.toNatClampNeg) * v2) / 10)), h))))
    else (some (x1, h)))))
set_option maxRecDepth 100000 in
theorem c_X11_strideIn (l : Launch) (v1 : Int32) (v2 : Int32) (v3 : Int32) : MC l yX11_strideIn cX11_strideIn 5 (some .int) rmX11_strideIn ZR [.ref 0, .int v1, .int v2, .int v3] rvI (X11_strideIn v1 v2 v3) :=
  MC.of (own := RX11) pn_RX11 rfl (Nat.le_of_ble_eq_true rfl) fun X yd A h _ C =>
    aw_aload_n (pc := 0) C (i := 0) dK_c_132.1 rfl rfl <|
    aw_getR (pc := 1) C (b := 4) dK_c_132.2.1 fl_X11_19 sR_0 rfl rR_0_3 <|
    aw_iload_n (pc := 4) C (i := 1) dK_c_132.2.2.1 rfl rfl <|
    aw_iald (pc := 5) C dK_c_132.2.2.2.1 sR_4 rfl <|
    aw_aload_n (pc := 6) C (i := 0) dK_c_132.2.2.2.2.1 rfl rfl <|
    aw_getR (pc := 7) C (b := 5) dK_c_132.2.2.2.2.2.1 fl_X11_22 sR_0 rfl rR_0_4 <|
    aw_iload_n (pc := 10) C (i := 1) dK_c_132.2.2.2.2.2.2.1 rfl rfl <|
    aw_iald (pc := 11) C dK_c_132.2.2.2.2.2.2.2.1 sR_5 rfl <|
    aw_iload_n (pc := 12) C (i := 2) dK_c_133.1 rfl rfl <|
    aw_imul (pc := 13) C dK_c_133.2.1 <|
    aw_bipush (pc := 14) C (v := 10) dK_c_133.2.2.1 rfl <|
    aw_idivK (pc := 16) C dK_c_133.2.2.2.1 (by decide) <|
    aw_iadd (pc := 17) C dK_c_133.2.2.2.2.1 <|
    aw_iload_n (pc := 18) C (i := 3) dK_c_133.2.2.2.2.2.1 rfl rfl <|
    aw_iload_n (pc := 19) C (i := 2) dK_c_133.2.2.2.2.2.2.1 rfl rfl <|
    aw_imul (pc := 20) C dK_c_133.2.2.2.2.2.2.2.1 <|
    aw_bipush (pc := 21) C (v := 10) dK_c_134.1 rfl <|
    aw_idivK (pc := 23) C dK_c_134.2.1 (by decide) <|
    aw_iadd (pc := 24) C dK_c_134.2.2.1 <|
    aw_istoreV (pc := 25) C (i := 4) (fun x1 => [(0, .ref 0), (1, .int v1), (2, .int v2), (3, .int v3), (4, .int x1)]) dK_c_134.2.2.2.1 (by decide) (fun _ => rfl) fun x1 =>
    aw_aload_n (pc := 27) C (i := 0) dK_c_134.2.2.2.2.1 rfl rfl <|
    aw_getR (pc := 28) C (b := 2) dK_c_134.2.2.2.2.2.1 fl_X11_13 sR_0 rfl rR_0_1 <|
    aw_iload_n (pc := 31) C (i := 1) dK_c_134.2.2.2.2.2.2.1 rfl rfl <|
    aw_iald (pc := 32) C dK_c_134.2.2.2.2.2.2.2.1 sR_2 rfl <|
    aw_vlI fun y2 =>
    aw_if (fun c3 => aw_tswA (pc := 33) C (off := 31) (tg := 64) 2 dK_c_135.1 (by rw [c3]; rfl) (by decide) (by decide) rfl rfl (aw_iload (pc := 64) C (i := 4) dK_c_135.2.1 rfl <|
    aw_iload_n (pc := 66) C (i := 2) dK_c_135.2.2.1 rfl rfl <|
    aw_iconst (pc := 67) C (v := 2) dK_c_135.2.2.2.1 rfl <|
    aw_iremK (pc := 68) C dK_c_135.2.2.2.2.1 (by decide) <|
    aw_iadd (pc := 69) C dK_c_135.2.2.2.2.2.1 <|
    aw_iret (pc := 70) C dK_c_135.2.2.2.2.2.2.1 rfl rfl)) (fun c3 =>
    aw_if (fun c4 => aw_tswA (pc := 33) C (off := 38) (tg := 71) 4 dK_c_135.1 (by rw [c4]; rfl) (by decide) (by decide) rfl rfl (aw_iload (pc := 71) C (i := 4) dK_c_135.2.2.2.2.2.2.2.1 rfl <|
    aw_iload_n (pc := 73) C (i := 2) dK_c_136.1 rfl rfl <|
    aw_iconst (pc := 74) C (v := 2) dK_c_136.2.1 rfl <|
    aw_iremK (pc := 75) C dK_c_136.2.2.1 (by decide) <|
    aw_iadd (pc := 76) C dK_c_136.2.2.2.1 <|
    aw_iload_n (pc := 77) C (i := 3) dK_c_136.2.2.2.2.1 rfl rfl <|
    aw_iload_n (pc := 78) C (i := 2) dK_c_136.2.2.2.2.2.1 rfl rfl <|
    aw_imul (pc := 79) C dK_c_136.2.2.2.2.2.2.1 <|
    aw_bipush (pc := 80) C (v := 10) dK_c_136.2.2.2.2.2.2.2.1 rfl <|
    aw_idivK (pc := 82) C dK_c_137.1 (by decide) <|
    aw_iadd (pc := 83) C dK_c_137.2.1 <|
    aw_iret (pc := 84) C dK_c_137.2.2.1 rfl rfl)) (fun c4 =>
    aw_if (fun c5 => aw_tswA (pc := 33) C (off := 52) (tg := 85) 5 dK_c_135.1 (by rw [c5]; rfl) (by decide) (by decide) rfl rfl (aw_aload_n (pc := 85) C (i := 0) dK_c_137.2.2.2.1 rfl rfl <|
    aw_getR (pc := 86) C (b := 4) dK_c_137.2.2.2.2.1 fl_X11_19 sR_0 rfl rR_0_3 <|
    aw_iload_n (pc := 89) C (i := 1) dK_c_137.2.2.2.2.2.1 rfl rfl <|
    aw_iald (pc := 90) C dK_c_137.2.2.2.2.2.2.1 sR_4 rfl <|
    aw_aload_n (pc := 91) C (i := 0) dK_c_137.2.2.2.2.2.2.2.1 rfl rfl <|
    aw_getR (pc := 92) C (b := 5) dK_c_138.1 fl_X11_22 sR_0 rfl rR_0_4 <|
    aw_iload_n (pc := 95) C (i := 1) dK_c_138.2.1 rfl rfl <|
    aw_iald (pc := 96) C dK_c_138.2.2.1 sR_5 rfl <|
    aw_iload_n (pc := 97) C (i := 2) dK_c_138.2.2.2.1 rfl rfl <|
    aw_imul (pc := 98) C dK_c_138.2.2.2.2.1 <|
    aw_bipush (pc := 99) C (v := 10) dK_c_138.2.2.2.2.2.1 rfl <|
    aw_idivK (pc := 101) C dK_c_138.2.2.2.2.2.2.1 (by decide) <|
    aw_iadd (pc := 102) C dK_c_138.2.2.2.2.2.2.2.1 <|
    aw_iret (pc := 103) C dK_c_139.1 rfl rfl)) (fun c5 =>
    aw_tswD (pc := 33) C (N := 4) (td := 104) [2, 4, 5] dK_c_135.1 (List.forall_mem_cons.mpr ⟨ti_ne c3 rfl, List.forall_mem_cons.mpr ⟨ti_ne c4 rfl, List.forall_mem_cons.mpr ⟨ti_ne c5 rfl, fun _ hz => by cases hz⟩⟩⟩) rfl (by decide) rfl (aw_iload (pc := 104) C (i := 4) dK_c_139.2.1 rfl <|
    aw_iret (pc := 106) C dK_c_139.2.2.1 rfl rfl))))

abbrev rmX11_allStrides : Room := { frames := 1, cells := 0, slots := 0, locals := 24 }
def X11_allStrides_l5  (v1 : Int32) (v2 : Int32) : Nat → Int32 → Int32 → AH → Option (Int32 × AH)
  | 0, _, _, _ => none
  | n + 1, v3, v4, h =>
    if (h.1 0 12) ≤ v4 then (some (v3, h))
    else (bd (X11_strideIn v1 v4 v2 h) fun r1 h2 =>
    vl (v3 + r1) fun x3 =>
    vl (v4 + 1) fun x4 =>
    (X11_allStrides_l5 v1 v2 n) x3 x4 h2)
set_option maxRecDepth 100000 in
theorem aX11_allStrides_l5 {X : MCx} {yd : Dyn} {A : Nat → Prop} (C : OK X cX11_allStrides RX11 5 (some .int) rmX11_allStrides A)  (v1 : Int32) (v2 : Int32) : ∀ (n : Nat) (v3 : Int32) (v4 : Int32) (h : AH), AW X 5 ZR yd A 0 0 (QF X rmX11_allStrides ZR yd rvI A) 5 [(0, .ref 0), (1, .int v1), (2, .int v2), (3, .int v3), (4, .int v4)] [] h (X11_allStrides_l5 v1 v2 n v3 v4 h) := by
  intro n
  induction n with
  | zero => intro v3 v4 h; exact aw_none
  | succ n ih =>
    intro v3 v4 h
    exact aw_iload (pc := 5) C (i := 4) dK_c_140.2.2.2.2.1 rfl <|
    aw_aload_n (pc := 7) C (i := 0) dK_c_140.2.2.2.2.2.1 rfl rfl <|
    aw_getI (pc := 8) C dK_c_140.2.2.2.2.2.2.1 fl_X11_95 sR_0 rfl <|
    aw_icmp_ge (pc := 11) C (tgt := 31) dK_c_140.2.2.2.2.2.2.2.1 rfl (fun _ =>
    aw_iload_n (pc := 31) C (i := 3) dK_c_142.2.2.1 rfl rfl <|
    aw_iret (pc := 32) C dK_c_142.2.2.2.1 rfl rfl) (fun _ =>
    aw_iload_n (pc := 14) C (i := 3) dK_c_141.1 rfl rfl <|
    aw_aload_n (pc := 15) C (i := 0) dK_c_141.2.1 rfl rfl <|
    aw_iload_n (pc := 16) C (i := 1) dK_c_141.2.2.1 rfl rfl <|
    aw_iload (pc := 17) C (i := 4) dK_c_141.2.2.2.1 rfl <|
    aw_iload_n (pc := 19) C (i := 2) dK_c_141.2.2.2.2.1 rfl rfl <|
    aw_callF (pc := 20) C (cr_V (rest := [.int v3]) (F := (X11_strideIn v1 v4 v2)) C (c_X11_strideIn X.2.1 v1 v4 v2) dK_c_141.2.2.2.2.2.1 mf_X11_strideIn ml_X11_197 im_X11_strideIn se_X11_strideIn sR_0 rfl ⟨(Nat.le_of_ble_eq_true rfl), (Nat.le_of_ble_eq_true rfl)⟩ rfl rfl (Nat.le_of_ble_eq_true rfl)) rfl rfl rfl (Nat.zero_le _) (Nat.zero_le _) fun r1 h2 =>
    aw_iadd (pc := 23) C dK_c_141.2.2.2.2.2.2.1 <|
    aw_istoreV_n (pc := 24) C (i := 3) (fun x3 => [(0, .ref 0), (1, .int v1), (2, .int v2), (3, .int x3), (4, .int v4)]) dK_c_141.2.2.2.2.2.2.2.1 rfl (by decide) (fun _ => rfl) fun x3 =>
    aw_iincV (pc := 25) C (i := 4) (cst := 1) (fun x4 => [(0, .ref 0), (1, .int v1), (2, .int v2), (3, .int x3), (4, .int x4)]) dK_c_142.1 rfl rfl (by decide) (fun _ => rfl) fun x4 =>
    aw_goto (pc := 28) C (tgt := 5) dK_c_142.2.1 rfl <|
    (ih x3 x4 h2))
def X11_allStrides (v1 : Int32) (v2 : Int32) (h : AH) : Option (Int32 × AH) :=
    X11_allStrides_l5 v1 v2 FU 0 0 h
set_option maxRecDepth 100000 in
theorem c_X11_allStrides (l : Launch) (v1 : Int32) (v2 : Int32) : MC l yX11_allStrides cX11_allStrides 5 (some .int) rmX11_allStrides ZR [.ref 0, .int v1, .int v2] rvI (X11_allStrides v1 v2) :=
  MC.of (own := RX11) pn_RX11 rfl (Nat.le_of_ble_eq_true rfl) fun X yd A h _ C =>
    aw_iconst (pc := 0) C (v := 0) dK_c_140.1 rfl <|
    aw_istore_n (pc := 1) C (i := 3) (lv' := [(0, .ref 0), (1, .int v1), (2, .int v2), (3, .int 0)]) dK_c_140.2.1 rfl (by decide) rfl <|
    aw_iconst (pc := 2) C (v := 0) dK_c_140.2.2.1 rfl <|
    aw_istore (pc := 3) C (i := 4) (lv' := [(0, .ref 0), (1, .int v1), (2, .int v2), (3, .int 0), (4, .int 0)]) dK_c_140.2.2.2.1 (by decide) rfl <|
    (aX11_allStrides_l5 C v1 v2 FU 0 0 h)

abbrev rmX11_placeOf : Room := { frames := 2, cells := 0, slots := 0, locals := 48 }
def X11_placeOf (v1 : Int32) (h : AH) : Option (Int32 × AH) :=
    ck v1 4 (bd (X11_allStrides v1 (h.1 0 14) h) fun r1 h2 =>
    some (((h.1 9 v1.toNatClampNeg) - r1), h2))
set_option maxRecDepth 100000 in
theorem c_X11_placeOf (l : Launch) (v1 : Int32) : MC l yX11_placeOf cX11_placeOf 2 (some .int) rmX11_placeOf ZR [.ref 0, .int v1] rvI (X11_placeOf v1) :=
  MC.of (own := RX11) pn_RX11 rfl (Nat.le_of_ble_eq_true rfl) fun X yd A h _ C =>
    aw_aload_n (pc := 0) C (i := 0) dK_c_143.1 rfl rfl <|
    aw_getR (pc := 1) C (b := 9) dK_c_143.2.1 fl_X11_34 sR_0 rfl rR_0_8 <|
    aw_iload_n (pc := 4) C (i := 1) dK_c_143.2.2.1 rfl rfl <|
    aw_iald (pc := 5) C dK_c_143.2.2.2.1 sR_9 rfl <|
    aw_aload_n (pc := 6) C (i := 0) dK_c_143.2.2.2.2.1 rfl rfl <|
    aw_iload_n (pc := 7) C (i := 1) dK_c_143.2.2.2.2.2.1 rfl rfl <|
    aw_aload_n (pc := 8) C (i := 0) dK_c_143.2.2.2.2.2.2.1 rfl rfl <|
    aw_getI (pc := 9) C dK_c_143.2.2.2.2.2.2.2.1 fl_X11_157 sR_0 rfl <|
    aw_callF (pc := 12) C (cr_V (rest := [.int (h.1 9 v1.toNatClampNeg)]) (F := (X11_allStrides v1 (h.1 0 14))) C (c_X11_allStrides X.2.1 v1 (h.1 0 14)) dK_c_144.1 mf_X11_allStrides ml_X11_200 im_X11_allStrides se_X11_allStrides sR_0 rfl ⟨(Nat.le_of_ble_eq_true rfl), (Nat.le_of_ble_eq_true rfl)⟩ rfl rfl (Nat.le_of_ble_eq_true rfl)) rfl rfl rfl (Nat.zero_le _) (Nat.zero_le _) fun r1 h2 =>
    aw_isub (pc := 15) C dK_c_144.2.1 <|
    aw_iret (pc := 16) C dK_c_144.2.2.1 rfl rfl

abbrev rmX11_aimOf : Room := { frames := 0, cells := 0, slots := 0, locals := 0 }
def X11_aimOf (v1 : Int32) (h : AH) : Option (Int32 × AH) :=
    ck v1 4 (vl ((h.1 3 v1.toNatClampNeg) + 2) fun x1 =>
    ck v1 4 (vl (h.1 2 v1.toNatClampNeg) fun y2 =>
    if y2 = 1 then (some (x1, h))
    else if y2 = 2 then (some (1, h))
    else if y2 = 3 then (some ((x1 / 2), h))
    else if y2 = 4 then (some (1, h))
    else if y2 = 5 then (some (((x1 / 2) + 1), h))
    else (some (0, h))))
set_option maxRecDepth 100000 in
theorem c_X11_aimOf (l : Launch) (v1 : Int32) : MC l yX11_aimOf cX11_aimOf 3 (some .int) rmX11_aimOf ZR [.ref 0, .int v1] rvI (X11_aimOf v1) :=
  MC.of (own := RX11) pn_RX11 rfl (Nat.le_of_ble_eq_true rfl) fun X yd A h _ C =>
    aw_aload_n (pc := 0) C (i := 0) dK_c_145.1 rfl rfl <|
    aw_getR (pc := 1) C (b := 3) dK_c_145.2.1 fl_X11_16 sR_0 rfl rR_0_2 <|
    aw_iload_n (pc := 4) C (i := 1) dK_c_145.2.2.1 rfl rfl <|
    aw_iald (pc := 5) C dK_c_145.2.2.2.1 sR_3 rfl <|
    aw_iconst (pc := 6) C (v := 2) dK_c_145.2.2.2.2.1 rfl <|
    aw_iadd (pc := 7) C dK_c_145.2.2.2.2.2.1 <|
    aw_istoreV_n (pc := 8) C (i := 2) (fun x1 => [(0, .ref 0), (1, .int v1), (2, .int x1)]) dK_c_145.2.2.2.2.2.2.1 rfl (by decide) (fun _ => rfl) fun x1 =>
    aw_aload_n (pc := 9) C (i := 0) dK_c_145.2.2.2.2.2.2.2.1 rfl rfl <|
    aw_getR (pc := 10) C (b := 2) dK_c_146.1 fl_X11_13 sR_0 rfl rR_0_1 <|
    aw_iload_n (pc := 13) C (i := 1) dK_c_146.2.1 rfl rfl <|
    aw_iald (pc := 14) C dK_c_146.2.2.1 sR_2 rfl <|
    aw_vlI fun y2 =>
    aw_if (fun c3 => aw_tswA (pc := 15) C (off := 33) (tg := 48) 1 dK_c_146.2.2.2.1 (by rw [c3]; rfl) (by decide) (by decide) rfl rfl (aw_iload_n (pc := 48) C (i := 2) dK_c_146.2.2.2.2.1 rfl rfl <|
    aw_iret (pc := 49) C dK_c_146.2.2.2.2.2.1 rfl rfl)) (fun c3 =>
    aw_if (fun c4 => aw_tswA (pc := 15) C (off := 35) (tg := 50) 2 dK_c_146.2.2.2.1 (by rw [c4]; rfl) (by decide) (by decide) rfl rfl (aw_iconst (pc := 50) C (v := 1) dK_c_146.2.2.2.2.2.2.1 rfl <|
    aw_iret (pc := 51) C dK_c_146.2.2.2.2.2.2.2.1 rfl rfl)) (fun c4 =>
    aw_if (fun c5 => aw_tswA (pc := 15) C (off := 37) (tg := 52) 3 dK_c_146.2.2.2.1 (by rw [c5]; rfl) (by decide) (by decide) rfl rfl (aw_iload_n (pc := 52) C (i := 2) dK_c_147.1 rfl rfl <|
    aw_iconst (pc := 53) C (v := 2) dK_c_147.2.1 rfl <|
    aw_idivK (pc := 54) C dK_c_147.2.2.1 (by decide) <|
    aw_iret (pc := 55) C dK_c_147.2.2.2.1 rfl rfl)) (fun c5 =>
    aw_if (fun c6 => aw_tswA (pc := 15) C (off := 35) (tg := 50) 4 dK_c_146.2.2.2.1 (by rw [c6]; rfl) (by decide) (by decide) rfl rfl (aw_iconst (pc := 50) C (v := 1) dK_c_146.2.2.2.2.2.2.1 rfl <|
    aw_iret (pc := 51) C dK_c_146.2.2.2.2.2.2.2.1 rfl rfl)) (fun c6 =>
    aw_if (fun c7 => aw_tswA (pc := 15) C (off := 41) (tg := 56) 5 dK_c_146.2.2.2.1 (by rw [c7]; rfl) (by decide) (by decide) rfl rfl (aw_iload_n (pc := 56) C (i := 2) dK_c_147.2.2.2.2.1 rfl rfl <|
    aw_iconst (pc := 57) C (v := 2) dK_c_147.2.2.2.2.2.1 rfl <|
    aw_idivK (pc := 58) C dK_c_147.2.2.2.2.2.2.1 (by decide) <|
    aw_iconst (pc := 59) C (v := 1) dK_c_147.2.2.2.2.2.2.2.1 rfl <|
    aw_iadd (pc := 60) C dK_c_148.1 <|
    aw_iret (pc := 61) C dK_c_148.2.1 rfl rfl)) (fun c7 =>
    aw_tswD (pc := 15) C (N := 5) (td := 62) [1, 2, 3, 4, 5] dK_c_146.2.2.2.1 (List.forall_mem_cons.mpr ⟨ti_ne c3 rfl, List.forall_mem_cons.mpr ⟨ti_ne c4 rfl, List.forall_mem_cons.mpr ⟨ti_ne c5 rfl, List.forall_mem_cons.mpr ⟨ti_ne c6 rfl, List.forall_mem_cons.mpr ⟨ti_ne c7 rfl, fun _ hz => by cases hz⟩⟩⟩⟩⟩) rfl (by decide) rfl (aw_iconst (pc := 62) C (v := 0) dK_c_148.2.2.1 rfl <|
    aw_iret (pc := 63) C dK_c_148.2.2.2.1 rfl rfl))))))

abbrev rmX11_triesOf : Room := { frames := 0, cells := 0, slots := 0, locals := 0 }
def X11_triesOf_j28  (v1 : Int32) (v3 : Int32) (K4 : Int32 → Int32 → AH → Option (Int32 × AH)) (s0 : Int32) (s1 : Int32) (h : AH) : Option (Int32 × AH) :=
    vl (s1 + s0) fun x1 =>
    vl (v3 + 1) fun x2 =>
    K4 x1 x2 h
set_option maxRecDepth 100000 in
theorem aX11_triesOf_j28 {X : MCx} {yd : Dyn} {A : Nat → Prop} (C : OK X cX11_triesOf RX11 4 (some .int) rmX11_triesOf A)  (v1 : Int32) (v3 : Int32) (K4 : Int32 → Int32 → AH → Option (Int32 × AH)) (hK4 : ∀ (w2 : Int32) (w3 : Int32) (h : AH), AW X 4 ZR yd A 0 0 (QF X rmX11_triesOf ZR yd rvI A) 4 [(0, .ref 0), (1, .int v1), (2, .int w2), (3, .int w3)] [] h (K4 w2 w3 h)) (s0 : Int32) (s1 : Int32) (h : AH) : AW X 4 ZR yd A 0 0 (QF X rmX11_triesOf ZR yd rvI A) 28 [(0, .ref 0), (1, .int v1), (3, .int v3)] [.int s0, .int s1] h (X11_triesOf_j28 v1 v3 K4 s0 s1 h) := by
    exact aw_iadd (pc := 28) C dK_d_15.2.2.1 <|
    aw_istoreV_n (pc := 29) C (i := 2) (fun x1 => [(0, .ref 0), (1, .int v1), (2, .int x1), (3, .int v3)]) dK_d_15.2.2.2.1 rfl (by decide) (fun _ => rfl) fun x1 =>
    aw_iincV (pc := 30) C (i := 3) (cst := 1) (fun x2 => [(0, .ref 0), (1, .int v1), (2, .int x1), (3, .int x2)]) dK_d_15.2.2.2.2.1 rfl rfl (by decide) (fun _ => rfl) fun x2 =>
    aw_goto (pc := 33) C (tgt := 4) dK_d_15.2.2.2.2.2.1 rfl <|
    (hK4 x1 x2 h)
def X11_triesOf_l4  (v1 : Int32) : Nat → Int32 → Int32 → AH → Option (Int32 × AH)
  | 0, _, _, _ => none
  | n + 1, v2, v3, h =>
    if (h.1 0 16) ≤ v3 then (some (v2, h))
    else (ck v3 24 (if (h.1 10 v3.toNatClampNeg) = v1 then (X11_triesOf_j28 v1 v3 (X11_triesOf_l4 v1 n) 1 v2 h)
    else (X11_triesOf_j28 v1 v3 (X11_triesOf_l4 v1 n) 0 v2 h)))
set_option maxRecDepth 100000 in
theorem aX11_triesOf_l4 {X : MCx} {yd : Dyn} {A : Nat → Prop} (C : OK X cX11_triesOf RX11 4 (some .int) rmX11_triesOf A)  (v1 : Int32) : ∀ (n : Nat) (v2 : Int32) (v3 : Int32) (h : AH), AW X 4 ZR yd A 0 0 (QF X rmX11_triesOf ZR yd rvI A) 4 [(0, .ref 0), (1, .int v1), (2, .int v2), (3, .int v3)] [] h (X11_triesOf_l4 v1 n v2 v3 h) := by
  intro n
  induction n with
  | zero => intro v2 v3 h; exact aw_none
  | succ n ih =>
    intro v2 v3 h
    exact aw_iload_n (pc := 4) C (i := 3) dK_d_13.2.2.2.2.1 rfl rfl <|
    aw_aload_n (pc := 5) C (i := 0) dK_d_13.2.2.2.2.2.1 rfl rfl <|
    aw_getI (pc := 6) C dK_d_13.2.2.2.2.2.2.1 fl_X11_147 sR_0 rfl <|
    aw_icmp_ge (pc := 9) C (tgt := 36) dK_d_13.2.2.2.2.2.2.2.1 rfl (fun _ =>
    aw_iload_n (pc := 36) C (i := 2) dK_d_15.2.2.2.2.2.2.1 rfl rfl <|
    aw_iret (pc := 37) C dK_d_15.2.2.2.2.2.2.2.1 rfl rfl) (fun _ =>
    aw_iload_n (pc := 12) C (i := 2) dK_d_14.1 rfl rfl <|
    aw_aload_n (pc := 13) C (i := 0) dK_d_14.2.1 rfl rfl <|
    aw_getR (pc := 14) C (b := 10) dK_d_14.2.2.1 fl_X11_37 sR_0 rfl rR_0_9 <|
    aw_iload_n (pc := 17) C (i := 3) dK_d_14.2.2.2.1 rfl rfl <|
    aw_iald (pc := 18) C dK_d_14.2.2.2.2.1 sR_10 rfl <|
    aw_iload_n (pc := 19) C (i := 1) dK_d_14.2.2.2.2.2.1 rfl rfl <|
    aw_icmp_ne (pc := 20) C (tgt := 27) dK_d_14.2.2.2.2.2.2.1 rfl (fun _ =>
    aw_iconst (pc := 23) C (v := 1) dK_d_14.2.2.2.2.2.2.2.1 rfl <|
    aw_goto (pc := 24) C (tgt := 28) dK_d_15.1 rfl <|
    aw_drop [0, 1, 3] (aX11_triesOf_j28 C v1 v3 (X11_triesOf_l4 v1 n) ih 1 v2 h)) (fun _ =>
    aw_iconst (pc := 27) C (v := 0) dK_d_15.2.1 rfl <|
    aw_drop [0, 1, 3] (aX11_triesOf_j28 C v1 v3 (X11_triesOf_l4 v1 n) ih 0 v2 h)))
def X11_triesOf (v1 : Int32) (h : AH) : Option (Int32 × AH) :=
    X11_triesOf_l4 v1 FU 0 0 h
set_option maxRecDepth 100000 in
theorem c_X11_triesOf (l : Launch) (v1 : Int32) : MC l yX11_triesOf cX11_triesOf 4 (some .int) rmX11_triesOf ZR [.ref 0, .int v1] rvI (X11_triesOf v1) :=
  MC.of (own := RX11) pn_RX11 rfl (Nat.le_of_ble_eq_true rfl) fun X yd A h _ C =>
    aw_iconst (pc := 0) C (v := 0) dK_d_13.1 rfl <|
    aw_istore_n (pc := 1) C (i := 2) (lv' := [(0, .ref 0), (1, .int v1), (2, .int 0)]) dK_d_13.2.1 rfl (by decide) rfl <|
    aw_iconst (pc := 2) C (v := 0) dK_d_13.2.2.1 rfl <|
    aw_istore_n (pc := 3) C (i := 3) (lv' := [(0, .ref 0), (1, .int v1), (2, .int 0), (3, .int 0)]) dK_d_13.2.2.2.1 rfl (by decide) rfl <|
    (aX11_triesOf_l4 C v1 FU 0 0 h)

abbrev rmX11_jumper : Room := { frames := 4, cells := 0, slots := 0, locals := 90 }
def X11_jumper (v1 : Int32) (v2 : Int32) (h : AH) : Option (Int32 × AH) :=
    bd (X11_isJumper v1 h) fun r1 h2 =>
    if r1 = 0 then (bd (X11_no (-1) h2) fun r26 h27 =>
    some (r26, h27))
    else (vl v2 fun y3 =>
    if y3 = 0 then (ck v1 4 (some ((h2.1 2 v1.toNatClampNeg), h2)))
    else if y3 = 1 then (ck v1 4 (some ((h2.1 3 v1.toNatClampNeg), h2)))
    else if y3 = 2 then (ck v1 4 (some ((h2.1 4 v1.toNatClampNeg), h2)))
    else if y3 = 3 then (ck v1 4 (some ((h2.1 5 v1.toNatClampNeg), h2)))
    else if y3 = 4 then (ck v1 4 (some ((h2.1 6 v1.toNatClampNeg), h2)))
    else if y3 = 5 then (ck v1 4 (some ((h2.1 7 v1.toNatClampNeg), h2)))
    else if y3 = 6 then (ck v1 4 (some ((h2.1 8 v1.toNatClampNeg), h2)))
    else if y3 = 7 then (ck v1 4 (some ((h2.1 9 v1.toNatClampNeg), h2)))
    else if y3 = 8 then (bd (X11_aimOf v1 h2) fun r12 h13 =>
    some (r12, h13))
    else if y3 = 9 then (bd (X11_findBest 0 (h2.1 0 16) h2) fun _ h16 =>
    ck v1 4 (some ((h16.1 20 v1.toNatClampNeg), h16)))
    else if y3 = 10 then (bd (X11_findBest 0 (h2.1 0 16) h2) fun _ h19 =>
    ck v1 4 (some ((h19.1 21 v1.toNatClampNeg), h19)))
    else if y3 = 11 then (bd (X11_triesOf v1 h2) fun r21 h22 =>
    some (r21, h22))
    else (bd (X11_no (-2) h2) fun r24 h25 =>
    some (r24, h25)))
set_option maxRecDepth 100000 in
theorem c_X11_jumper (l : Launch) (v1 : Int32) (v2 : Int32) : MC l yX11_jumper cX11_jumper 3 (some .int) rmX11_jumper ZR [.ref 0, .int v1, .int v2] rvI (X11_jumper v1 v2) :=
  MC.of (own := RX11) pn_RX11 rfl (Nat.le_of_ble_eq_true rfl) fun X yd A h _ C =>
    aw_aload_n (pc := 0) C (i := 0) dK_c_156.1 rfl rfl <|
    aw_iload_n (pc := 1) C (i := 1) dK_c_156.2.1 rfl rfl <|
    aw_callF (pc := 2) C (cr_V (rest := []) (F := (X11_isJumper v1)) C (c_X11_isJumper X.2.1 v1) dK_c_156.2.2.1 mf_X11_isJumper ml_X11_207 im_X11_isJumper se_X11_isJumper sR_0 rfl ⟨(Nat.le_of_ble_eq_true rfl), (Nat.le_of_ble_eq_true rfl)⟩ rfl rfl (Nat.le_of_ble_eq_true rfl)) rfl rfl rfl (Nat.zero_le _) (Nat.zero_le _) fun r1 h2 =>
    aw_if_ne (pc := 5) C (tgt := 14) dK_c_156.2.2.2.1 rfl (fun _ =>
    aw_aload_n (pc := 8) C (i := 0) dK_c_156.2.2.2.2.1 rfl rfl <|
    aw_iconst (pc := 9) C (v := (-1)) dK_c_156.2.2.2.2.2.1 rfl <|
    aw_callF (pc := 10) C (cr_V (rest := []) (F := (X11_no (-1))) C (c_X11_no X.2.1 (-1)) dK_c_156.2.2.2.2.2.2.1 mf_X11_no ml_X11_115 im_X11_no se_X11_no sR_0 rfl ⟨(Nat.le_of_ble_eq_true rfl), (Nat.le_of_ble_eq_true rfl)⟩ rfl rfl (Nat.le_of_ble_eq_true rfl)) rfl rfl rfl (Nat.zero_le _) (Nat.zero_le _) fun r26 h27 =>
    aw_iret (pc := 13) C dK_c_156.2.2.2.2.2.2.2.1 rfl rfl) (fun _ =>
    aw_iload_n (pc := 14) C (i := 2) dK_c_157.1 rfl rfl <|
    aw_vlI fun y3 =>
    aw_if (fun c4 => aw_tswA (pc := 15) C (off := 61) (tg := 76) 0 dK_c_157.2.1 (by rw [c4]; rfl) (by decide) (by decide) rfl rfl (aw_aload_n (pc := 76) C (i := 0) dK_c_157.2.2.1 rfl rfl <|
    aw_getR (pc := 77) C (b := 2) dK_c_157.2.2.2.1 fl_X11_13 sR_0 rfl rR_0_1 <|
    aw_iload_n (pc := 80) C (i := 1) dK_c_157.2.2.2.2.1 rfl rfl <|
    aw_iald (pc := 81) C dK_c_157.2.2.2.2.2.1 sR_2 rfl <|
    aw_iret (pc := 82) C dK_c_157.2.2.2.2.2.2.1 rfl rfl)) (fun c4 =>
    aw_if (fun c5 => aw_tswA (pc := 15) C (off := 68) (tg := 83) 1 dK_c_157.2.1 (by rw [c5]; rfl) (by decide) (by decide) rfl rfl (aw_aload_n (pc := 83) C (i := 0) dK_c_157.2.2.2.2.2.2.2.1 rfl rfl <|
    aw_getR (pc := 84) C (b := 3) dK_c_158.1 fl_X11_16 sR_0 rfl rR_0_2 <|
    aw_iload_n (pc := 87) C (i := 1) dK_c_158.2.1 rfl rfl <|
    aw_iald (pc := 88) C dK_c_158.2.2.1 sR_3 rfl <|
    aw_iret (pc := 89) C dK_c_158.2.2.2.1 rfl rfl)) (fun c5 =>
    aw_if (fun c6 => aw_tswA (pc := 15) C (off := 75) (tg := 90) 2 dK_c_157.2.1 (by rw [c6]; rfl) (by decide) (by decide) rfl rfl (aw_aload_n (pc := 90) C (i := 0) dK_c_158.2.2.2.2.1 rfl rfl <|
    aw_getR (pc := 91) C (b := 4) dK_c_158.2.2.2.2.2.1 fl_X11_19 sR_0 rfl rR_0_3 <|
    aw_iload_n (pc := 94) C (i := 1) dK_c_158.2.2.2.2.2.2.1 rfl rfl <|
    aw_iald (pc := 95) C dK_c_158.2.2.2.2.2.2.2.1 sR_4 rfl <|
    aw_iret (pc := 96) C dK_c_159.1 rfl rfl)) (fun c6 =>
    aw_if (fun c7 => aw_tswA (pc := 15) C (off := 82) (tg := 97) 3 dK_c_157.2.1 (by rw [c7]; rfl) (by decide) (by decide) rfl rfl (aw_aload_n (pc := 97) C (i := 0) dK_c_159.2.1 rfl rfl <|
    aw_getR (pc := 98) C (b := 5) dK_c_159.2.2.1 fl_X11_22 sR_0 rfl rR_0_4 <|
    aw_iload_n (pc := 101) C (i := 1) dK_c_159.2.2.2.1 rfl rfl <|
    aw_iald (pc := 102) C dK_c_159.2.2.2.2.1 sR_5 rfl <|
    aw_iret (pc := 103) C dK_c_159.2.2.2.2.2.1 rfl rfl)) (fun c7 =>
    aw_if (fun c8 => aw_tswA (pc := 15) C (off := 89) (tg := 104) 4 dK_c_157.2.1 (by rw [c8]; rfl) (by decide) (by decide) rfl rfl (aw_aload_n (pc := 104) C (i := 0) dK_c_159.2.2.2.2.2.2.1 rfl rfl <|
    aw_getR (pc := 105) C (b := 6) dK_c_159.2.2.2.2.2.2.2.1 fl_X11_25 sR_0 rfl rR_0_5 <|
    aw_iload_n (pc := 108) C (i := 1) dK_c_160.1 rfl rfl <|
    aw_iald (pc := 109) C dK_c_160.2.1 sR_6 rfl <|
    aw_iret (pc := 110) C dK_c_160.2.2.1 rfl rfl)) (fun c8 =>
    aw_if (fun c9 => aw_tswA (pc := 15) C (off := 96) (tg := 111) 5 dK_c_157.2.1 (by rw [c9]; rfl) (by decide) (by decide) rfl rfl (aw_aload_n (pc := 111) C (i := 0) dK_c_160.2.2.2.1 rfl rfl <|
    aw_getR (pc := 112) C (b := 7) dK_c_160.2.2.2.2.1 fl_X11_28 sR_0 rfl rR_0_6 <|
    aw_iload_n (pc := 115) C (i := 1) dK_c_160.2.2.2.2.2.1 rfl rfl <|
    aw_iald (pc := 116) C dK_c_160.2.2.2.2.2.2.1 sR_7 rfl <|
    aw_iret (pc := 117) C dK_c_160.2.2.2.2.2.2.2.1 rfl rfl)) (fun c9 =>
    aw_if (fun c10 => aw_tswA (pc := 15) C (off := 103) (tg := 118) 6 dK_c_157.2.1 (by rw [c10]; rfl) (by decide) (by decide) rfl rfl (aw_aload_n (pc := 118) C (i := 0) dK_c_161.1 rfl rfl <|
    aw_getR (pc := 119) C (b := 8) dK_c_161.2.1 fl_X11_31 sR_0 rfl rR_0_7 <|
    aw_iload_n (pc := 122) C (i := 1) dK_c_161.2.2.1 rfl rfl <|
    aw_iald (pc := 123) C dK_c_161.2.2.2.1 sR_8 rfl <|
    aw_iret (pc := 124) C dK_c_161.2.2.2.2.1 rfl rfl)) (fun c10 =>
    aw_if (fun c11 => aw_tswA (pc := 15) C (off := 110) (tg := 125) 7 dK_c_157.2.1 (by rw [c11]; rfl) (by decide) (by decide) rfl rfl (aw_aload_n (pc := 125) C (i := 0) dK_c_161.2.2.2.2.2.1 rfl rfl <|
    aw_getR (pc := 126) C (b := 9) dK_c_161.2.2.2.2.2.2.1 fl_X11_34 sR_0 rfl rR_0_8 <|
    aw_iload_n (pc := 129) C (i := 1) dK_c_161.2.2.2.2.2.2.2.1 rfl rfl <|
    aw_iald (pc := 130) C dK_c_162.1 sR_9 rfl <|
    aw_iret (pc := 131) C dK_c_162.2.1 rfl rfl)) (fun c11 =>
    aw_if (fun c14 => aw_tswA (pc := 15) C (off := 117) (tg := 132) 8 dK_c_157.2.1 (by rw [c14]; rfl) (by decide) (by decide) rfl rfl (aw_aload_n (pc := 132) C (i := 0) dK_c_162.2.2.1 rfl rfl <|
    aw_iload_n (pc := 133) C (i := 1) dK_c_162.2.2.2.1 rfl rfl <|
    aw_callF (pc := 134) C (cr_V (rest := []) (F := (X11_aimOf v1)) C (c_X11_aimOf X.2.1 v1) dK_c_162.2.2.2.2.1 mf_X11_aimOf ml_X11_210 im_X11_aimOf se_X11_aimOf sR_0 rfl ⟨(Nat.le_of_ble_eq_true rfl), (Nat.le_of_ble_eq_true rfl)⟩ rfl rfl (Nat.le_of_ble_eq_true rfl)) rfl rfl rfl (Nat.zero_le _) (Nat.zero_le _) fun r12 h13 =>
    aw_iret (pc := 137) C dK_c_162.2.2.2.2.2.1 rfl rfl)) (fun c14 =>
    aw_if (fun c17 => aw_tswA (pc := 15) C (off := 123) (tg := 138) 9 dK_c_157.2.1 (by rw [c17]; rfl) (by decide) (by decide) rfl rfl (aw_aload_n (pc := 138) C (i := 0) dK_c_162.2.2.2.2.2.2.1 rfl rfl <|
    aw_iconst (pc := 139) C (v := 0) dK_c_162.2.2.2.2.2.2.2.1 rfl <|
    aw_aload_n (pc := 140) C (i := 0) dK_c_163.1 rfl rfl <|
    aw_getI (pc := 141) C dK_c_163.2.1 fl_X11_147 sR_0 rfl <|
    aw_callF (pc := 144) C (cr_V (rest := []) (F := (X11_findBest 0 (h2.1 0 16))) C (c_X11_findBest X.2.1 0 (h2.1 0 16)) dK_c_163.2.2.1 mf_X11_findBest ml_X11_213 im_X11_findBest se_X11_findBest sR_0 rfl ⟨(Nat.le_of_ble_eq_true rfl), (Nat.le_of_ble_eq_true rfl)⟩ rfl rfl (Nat.le_of_ble_eq_true rfl)) rfl rfl rfl (Nat.zero_le _) (Nat.zero_le _) fun _ h16 =>
    aw_aload_n (pc := 147) C (i := 0) dK_c_163.2.2.2.1 rfl rfl <|
    aw_getR (pc := 148) C (b := 20) dK_c_163.2.2.2.2.1 fl_X11_68 sR_0 rfl rR_0_30 <|
    aw_iload_n (pc := 151) C (i := 1) dK_c_163.2.2.2.2.2.1 rfl rfl <|
    aw_iald (pc := 152) C dK_c_163.2.2.2.2.2.2.1 sR_20 rfl <|
    aw_iret (pc := 153) C dK_c_163.2.2.2.2.2.2.2.1 rfl rfl)) (fun c17 =>
    aw_if (fun c20 => aw_tswA (pc := 15) C (off := 139) (tg := 154) 10 dK_c_157.2.1 (by rw [c20]; rfl) (by decide) (by decide) rfl rfl (aw_aload_n (pc := 154) C (i := 0) dK_c_164.1 rfl rfl <|
    aw_iconst (pc := 155) C (v := 0) dK_c_164.2.1 rfl <|
    aw_aload_n (pc := 156) C (i := 0) dK_c_164.2.2.1 rfl rfl <|
    aw_getI (pc := 157) C dK_c_164.2.2.2.1 fl_X11_147 sR_0 rfl <|
    aw_callF (pc := 160) C (cr_V (rest := []) (F := (X11_findBest 0 (h2.1 0 16))) C (c_X11_findBest X.2.1 0 (h2.1 0 16)) dK_c_164.2.2.2.2.1 mf_X11_findBest ml_X11_213 im_X11_findBest se_X11_findBest sR_0 rfl ⟨(Nat.le_of_ble_eq_true rfl), (Nat.le_of_ble_eq_true rfl)⟩ rfl rfl (Nat.le_of_ble_eq_true rfl)) rfl rfl rfl (Nat.zero_le _) (Nat.zero_le _) fun _ h19 =>
    aw_aload_n (pc := 163) C (i := 0) dK_c_164.2.2.2.2.2.1 rfl rfl <|
    aw_getR (pc := 164) C (b := 21) dK_c_164.2.2.2.2.2.2.1 fl_X11_71 sR_0 rfl rR_0_31 <|
    aw_iload_n (pc := 167) C (i := 1) dK_c_164.2.2.2.2.2.2.2.1 rfl rfl <|
    aw_iald (pc := 168) C dK_c_165.1 sR_21 rfl <|
    aw_iret (pc := 169) C dK_c_165.2.1 rfl rfl)) (fun c20 =>
    aw_if (fun c23 => aw_tswA (pc := 15) C (off := 155) (tg := 170) 11 dK_c_157.2.1 (by rw [c23]; rfl) (by decide) (by decide) rfl rfl (aw_aload_n (pc := 170) C (i := 0) dK_c_165.2.2.1 rfl rfl <|
    aw_iload_n (pc := 171) C (i := 1) dK_c_165.2.2.2.1 rfl rfl <|
    aw_callF (pc := 172) C (cr_V (rest := []) (F := (X11_triesOf v1)) C (c_X11_triesOf X.2.1 v1) dK_c_165.2.2.2.2.1 mf_X11_triesOf ml_X11_217 im_X11_triesOf se_X11_triesOf sR_0 rfl ⟨(Nat.le_of_ble_eq_true rfl), (Nat.le_of_ble_eq_true rfl)⟩ rfl rfl (Nat.le_of_ble_eq_true rfl)) rfl rfl rfl (Nat.zero_le _) (Nat.zero_le _) fun r21 h22 =>
    aw_iret (pc := 175) C dK_c_165.2.2.2.2.2.1 rfl rfl)) (fun c23 =>
    aw_tswD (pc := 15) C (N := 12) (td := 176) [0, 1, 2, 3, 4, 5, 6, 7, 8, 9, 10, 11] dK_c_157.2.1 (List.forall_mem_cons.mpr ⟨ti_ne c4 rfl, List.forall_mem_cons.mpr ⟨ti_ne c5 rfl, List.forall_mem_cons.mpr ⟨ti_ne c6 rfl, List.forall_mem_cons.mpr ⟨ti_ne c7 rfl, List.forall_mem_cons.mpr ⟨ti_ne c8 rfl, List.forall_mem_cons.mpr ⟨ti_ne c9 rfl, List.forall_mem_cons.mpr ⟨ti_ne c10 rfl, List.forall_mem_cons.mpr ⟨ti_ne c11 rfl, List.forall_mem_cons.mpr ⟨ti_ne c14 rfl, List.forall_mem_cons.mpr ⟨ti_ne c17 rfl, List.forall_mem_cons.mpr ⟨ti_ne c20 rfl, List.forall_mem_cons.mpr ⟨ti_ne c23 rfl, fun _ hz => by cases hz⟩⟩⟩⟩⟩⟩⟩⟩⟩⟩⟩⟩) rfl (by decide) rfl (aw_aload_n (pc := 176) C (i := 0) dK_c_165.2.2.2.2.2.2.1 rfl rfl <|
    aw_bipush (pc := 177) C (v := (-2)) dK_c_165.2.2.2.2.2.2.2.1 rfl <|
    aw_callF (pc := 179) C (cr_V (rest := []) (F := (X11_no (-2))) C (c_X11_no X.2.1 (-2)) dK_c_166.1 mf_X11_no ml_X11_115 im_X11_no se_X11_no sR_0 rfl ⟨(Nat.le_of_ble_eq_true rfl), (Nat.le_of_ble_eq_true rfl)⟩ rfl rfl (Nat.le_of_ble_eq_true rfl)) rfl rfl rfl (Nat.zero_le _) (Nat.zero_le _) fun r24 h25 =>
    aw_iret (pc := 182) C dK_c_166.2.1 rfl rfl))))))))))))))

abbrev rmX11_mark : Room := { frames := 1, cells := 0, slots := 0, locals := 22 }
def X11_mark_j20  (v1 : Int32) (v2 : Int32) (s0 : Int32) (h : AH) : Option (Int32 × AH) :=
    if s0 = 0 then (ck v1 4 (vl (h.1 9 v1.toNatClampNeg) fun x5 =>
    ck v1 4 (vl (sI h 9 v1.toNatClampNeg v2) fun h6 =>
    some (x5, h6))))
    else (bd (X11_no s0 h) fun r7 h8 =>
    some (r7, h8))
set_option maxRecDepth 100000 in
theorem aX11_mark_j20 {X : MCx} {yd : Dyn} {A : Nat → Prop} (C : OK X cX11_mark RX11 5 (some .int) rmX11_mark A)  (v1 : Int32) (v2 : Int32) (s0 : Int32) (h : AH) : AW X 5 ZR yd A 0 0 (QF X rmX11_mark ZR yd rvI A) 20 [(0, .ref 0), (1, .int v1), (2, .int v2)] [.int s0] h (X11_mark_j20 v1 v2 s0 h) := by
    exact aw_istore_n (pc := 20) C (i := 3) (lv' := [(0, .ref 0), (1, .int v1), (2, .int v2), (3, .int s0)]) dK_c_168.2.2.1 rfl (by decide) rfl <|
    aw_iload_n (pc := 21) C (i := 3) dK_c_168.2.2.2.1 rfl rfl <|
    aw_if_eq (pc := 22) C (tgt := 31) dK_c_168.2.2.2.2.1 rfl (fun _ =>
    aw_aload_n (pc := 31) C (i := 0) dK_c_169.2.1 rfl rfl <|
    aw_getR (pc := 32) C (b := 9) dK_c_169.2.2.1 fl_X11_34 sR_0 rfl rR_0_8 <|
    aw_iload_n (pc := 35) C (i := 1) dK_c_169.2.2.2.1 rfl rfl <|
    aw_iald (pc := 36) C dK_c_169.2.2.2.2.1 sR_9 rfl <|
    aw_istoreV (pc := 37) C (i := 4) (fun x5 => [(0, .ref 0), (1, .int v1), (2, .int v2), (3, .int s0), (4, .int x5)]) dK_c_169.2.2.2.2.2.1 (by decide) (fun _ => rfl) fun x5 =>
    aw_aload_n (pc := 39) C (i := 0) dK_c_169.2.2.2.2.2.2.1 rfl rfl <|
    aw_getR (pc := 40) C (b := 9) dK_c_169.2.2.2.2.2.2.2.1 fl_X11_34 sR_0 rfl rR_0_8 <|
    aw_iload_n (pc := 43) C (i := 1) dK_c_170.1 rfl rfl <|
    aw_iload_n (pc := 44) C (i := 2) dK_c_170.2.1 rfl rfl <|
    aw_iast (pc := 45) C dK_c_170.2.2.1 sR_9 rfl fun h6 =>
    aw_iload (pc := 46) C (i := 4) dK_c_170.2.2.2.1 rfl <|
    aw_iret (pc := 48) C dK_c_170.2.2.2.2.1 rfl rfl) (fun _ =>
    aw_aload_n (pc := 25) C (i := 0) dK_c_168.2.2.2.2.2.1 rfl rfl <|
    aw_iload_n (pc := 26) C (i := 3) dK_c_168.2.2.2.2.2.2.1 rfl rfl <|
    aw_callF (pc := 27) C (cr_V (rest := []) (F := (X11_no s0)) C (c_X11_no X.2.1 s0) dK_c_168.2.2.2.2.2.2.2.1 mf_X11_no ml_X11_115 im_X11_no se_X11_no sR_0 rfl ⟨(Nat.le_of_ble_eq_true rfl), (Nat.le_of_ble_eq_true rfl)⟩ rfl rfl (Nat.le_of_ble_eq_true rfl)) rfl rfl rfl (Nat.zero_le _) (Nat.zero_le _) fun r7 h8 =>
    aw_iret (pc := 30) C dK_c_169.1 rfl rfl)
def X11_mark (v1 : Int32) (v2 : Int32) (h : AH) : Option (Int32 × AH) :=
    bd (X11_isJumper v1 h) fun r1 h2 =>
    if r1 = 0 then (X11_mark_j20 v1 v2 (-1) h2)
    else (bd (X11_bound v2 0 2400 h2) fun r3 h4 =>
    X11_mark_j20 v1 v2 r3 h4)
set_option maxRecDepth 100000 in
theorem c_X11_mark (l : Launch) (v1 : Int32) (v2 : Int32) : MC l yX11_mark cX11_mark 5 (some .int) rmX11_mark ZR [.ref 0, .int v1, .int v2] rvI (X11_mark v1 v2) :=
  MC.of (own := RX11) pn_RX11 rfl (Nat.le_of_ble_eq_true rfl) fun X yd A h _ C =>
    aw_aload_n (pc := 0) C (i := 0) dK_c_167.1 rfl rfl <|
    aw_iload_n (pc := 1) C (i := 1) dK_c_167.2.1 rfl rfl <|
    aw_callF (pc := 2) C (cr_V (rest := []) (F := (X11_isJumper v1)) C (c_X11_isJumper X.2.1 v1) dK_c_167.2.2.1 mf_X11_isJumper ml_X11_207 im_X11_isJumper se_X11_isJumper sR_0 rfl ⟨(Nat.le_of_ble_eq_true rfl), (Nat.le_of_ble_eq_true rfl)⟩ rfl rfl (Nat.le_of_ble_eq_true rfl)) rfl rfl rfl (Nat.zero_le _) (Nat.zero_le _) fun r1 h2 =>
    aw_if_ne (pc := 5) C (tgt := 12) dK_c_167.2.2.2.1 rfl (fun _ =>
    aw_iconst (pc := 8) C (v := (-1)) dK_c_167.2.2.2.2.1 rfl <|
    aw_goto (pc := 9) C (tgt := 20) dK_c_167.2.2.2.2.2.1 rfl <|
    (aX11_mark_j20 C v1 v2 (-1) h2)) (fun _ =>
    aw_iload_n (pc := 12) C (i := 2) dK_c_167.2.2.2.2.2.2.1 rfl rfl <|
    aw_iconst (pc := 13) C (v := 0) dK_c_167.2.2.2.2.2.2.2.1 rfl <|
    aw_sipush (pc := 14) C (v := 2400) dK_c_168.1 rfl <|
    aw_callF (pc := 17) C (cr_S (rest := []) (F := (X11_bound v2 0 2400)) C (c_X11_bound X.2.1 v2 0 2400) dK_c_168.2.1 mf_X11_bound ml_X11_108 st_X11_bound ⟨(Nat.le_of_ble_eq_true rfl), (Nat.le_of_ble_eq_true rfl)⟩ rfl rfl (Nat.le_of_ble_eq_true rfl)) rfl rfl rfl (Nat.zero_le _) (Nat.zero_le _) fun r3 h4 =>
    (aX11_mark_j20 C v1 v2 r3 h4))
end
section
abbrev rmX11_look : Room := { frames := 1, cells := 0, slots := 0, locals := 22 }
def X11_look_j18  (v1 : Int32) (v2 : Int32) (s0 : Int32) (h : AH) : Option (Int32 × AH) :=
    if s0 = 0 then (ck v1 4 (vl (h.1 8 v1.toNatClampNeg) fun x5 =>
    ck v1 4 (vl (sI h 8 v1.toNatClampNeg v2) fun h6 =>
    some (x5, h6))))
    else (bd (X11_no s0 h) fun r7 h8 =>
    some (r7, h8))
set_option maxRecDepth 100000 in
theorem aX11_look_j18 {X : MCx} {yd : Dyn} {A : Nat → Prop} (C : OK X cX11_look RX11 5 (some .int) rmX11_look A)  (v1 : Int32) (v2 : Int32) (s0 : Int32) (h : AH) : AW X 5 ZR yd A 0 0 (QF X rmX11_look ZR yd rvI A) 18 [(0, .ref 0), (1, .int v1), (2, .int v2)] [.int s0] h (X11_look_j18 v1 v2 s0 h) := by
    exact aw_istore_n (pc := 18) C (i := 3) (lv' := [(0, .ref 0), (1, .int v1), (2, .int v2), (3, .int s0)]) dK_c_172.2.2.1 rfl (by decide) rfl <|
    aw_iload_n (pc := 19) C (i := 3) dK_c_172.2.2.2.1 rfl rfl <|
    aw_if_eq (pc := 20) C (tgt := 29) dK_c_172.2.2.2.2.1 rfl (fun _ =>
    aw_aload_n (pc := 29) C (i := 0) dK_c_173.2.1 rfl rfl <|
    aw_getR (pc := 30) C (b := 8) dK_c_173.2.2.1 fl_X11_31 sR_0 rfl rR_0_7 <|
    aw_iload_n (pc := 33) C (i := 1) dK_c_173.2.2.2.1 rfl rfl <|
    aw_iald (pc := 34) C dK_c_173.2.2.2.2.1 sR_8 rfl <|
    aw_istoreV (pc := 35) C (i := 4) (fun x5 => [(0, .ref 0), (1, .int v1), (2, .int v2), (3, .int s0), (4, .int x5)]) dK_c_173.2.2.2.2.2.1 (by decide) (fun _ => rfl) fun x5 =>
    aw_aload_n (pc := 37) C (i := 0) dK_c_173.2.2.2.2.2.2.1 rfl rfl <|
    aw_getR (pc := 38) C (b := 8) dK_c_173.2.2.2.2.2.2.2.1 fl_X11_31 sR_0 rfl rR_0_7 <|
    aw_iload_n (pc := 41) C (i := 1) dK_c_174.1 rfl rfl <|
    aw_iload_n (pc := 42) C (i := 2) dK_c_174.2.1 rfl rfl <|
    aw_iast (pc := 43) C dK_c_174.2.2.1 sR_8 rfl fun h6 =>
    aw_iload (pc := 44) C (i := 4) dK_c_174.2.2.2.1 rfl <|
    aw_iret (pc := 46) C dK_c_174.2.2.2.2.1 rfl rfl) (fun _ =>
    aw_aload_n (pc := 23) C (i := 0) dK_c_172.2.2.2.2.2.1 rfl rfl <|
    aw_iload_n (pc := 24) C (i := 3) dK_c_172.2.2.2.2.2.2.1 rfl rfl <|
    aw_callF (pc := 25) C (cr_V (rest := []) (F := (X11_no s0)) C (c_X11_no X.2.1 s0) dK_c_172.2.2.2.2.2.2.2.1 mf_X11_no ml_X11_115 im_X11_no se_X11_no sR_0 rfl ⟨(Nat.le_of_ble_eq_true rfl), (Nat.le_of_ble_eq_true rfl)⟩ rfl rfl (Nat.le_of_ble_eq_true rfl)) rfl rfl rfl (Nat.zero_le _) (Nat.zero_le _) fun r7 h8 =>
    aw_iret (pc := 28) C dK_c_173.1 rfl rfl)
def X11_look (v1 : Int32) (v2 : Int32) (h : AH) : Option (Int32 × AH) :=
    bd (X11_isJumper v1 h) fun r1 h2 =>
    if r1 = 0 then (X11_look_j18 v1 v2 (-1) h2)
    else (bd (X11_bound v2 0 4 h2) fun r3 h4 =>
    X11_look_j18 v1 v2 r3 h4)
set_option maxRecDepth 100000 in
theorem c_X11_look (l : Launch) (v1 : Int32) (v2 : Int32) : MC l yX11_look cX11_look 5 (some .int) rmX11_look ZR [.ref 0, .int v1, .int v2] rvI (X11_look v1 v2) :=
  MC.of (own := RX11) pn_RX11 rfl (Nat.le_of_ble_eq_true rfl) fun X yd A h _ C =>
    aw_aload_n (pc := 0) C (i := 0) dK_c_171.1 rfl rfl <|
    aw_iload_n (pc := 1) C (i := 1) dK_c_171.2.1 rfl rfl <|
    aw_callF (pc := 2) C (cr_V (rest := []) (F := (X11_isJumper v1)) C (c_X11_isJumper X.2.1 v1) dK_c_171.2.2.1 mf_X11_isJumper ml_X11_207 im_X11_isJumper se_X11_isJumper sR_0 rfl ⟨(Nat.le_of_ble_eq_true rfl), (Nat.le_of_ble_eq_true rfl)⟩ rfl rfl (Nat.le_of_ble_eq_true rfl)) rfl rfl rfl (Nat.zero_le _) (Nat.zero_le _) fun r1 h2 =>
    aw_if_ne (pc := 5) C (tgt := 12) dK_c_171.2.2.2.1 rfl (fun _ =>
    aw_iconst (pc := 8) C (v := (-1)) dK_c_171.2.2.2.2.1 rfl <|
    aw_goto (pc := 9) C (tgt := 18) dK_c_171.2.2.2.2.2.1 rfl <|
    (aX11_look_j18 C v1 v2 (-1) h2)) (fun _ =>
    aw_iload_n (pc := 12) C (i := 2) dK_c_171.2.2.2.2.2.2.1 rfl rfl <|
    aw_iconst (pc := 13) C (v := 0) dK_c_171.2.2.2.2.2.2.2.1 rfl <|
    aw_iconst (pc := 14) C (v := 4) dK_c_172.1 rfl <|
    aw_callF (pc := 15) C (cr_S (rest := []) (F := (X11_bound v2 0 4)) C (c_X11_bound X.2.1 v2 0 4) dK_c_172.2.1 mf_X11_bound ml_X11_108 st_X11_bound ⟨(Nat.le_of_ble_eq_true rfl), (Nat.le_of_ble_eq_true rfl)⟩ rfl rfl (Nat.le_of_ble_eq_true rfl)) rfl rfl rfl (Nat.zero_le _) (Nat.zero_le _) fun r3 h4 =>
    (aX11_look_j18 C v1 v2 r3 h4))

abbrev rmX11_set : Room := { frames := 1, cells := 0, slots := 0, locals := 22 }
def X11_set_j109  (v4 : Int32) (s0 : Int32) (h : AH) : Option (Int32 × AH) :=
    vl (sI h 0 13 s0) fun h6 =>
    some (v4, h6)
set_option maxRecDepth 100000 in
theorem aX11_set_j109 {X : MCx} {yd : Dyn} {A : Nat → Prop} (C : OK X cX11_set RX11 5 (some .int) rmX11_set A)  (v4 : Int32) (s0 : Int32) (h : AH) : AW X 5 ZR yd A 0 0 (QF X rmX11_set ZR yd rvI A) 109 [(4, .int v4)] [.int s0, .ref 0] h (X11_set_j109 v4 s0 h) := by
    exact aw_putI (pc := 109) C dK_c_182.2.1 fp_X11_99 sR_0 rfl fun h6 =>
    aw_iload (pc := 112) C (i := 4) dK_c_182.2.2.1 rfl <|
    aw_iret (pc := 114) C dK_c_182.2.2.2.1 rfl rfl
def X11_set_j92  (v1 : Int32) (v2 : Int32) (v4 : Int32) (s0 : Int32) (h : AH) : Option (Int32 × AH) :=
    vl (sI h 0 12 s0) fun h5 =>
    if v1 = 1 then (X11_set_j109 v4 v2 h5)
    else (X11_set_j109 v4 (h5.1 0 13) h5)
set_option maxRecDepth 100000 in
theorem aX11_set_j92 {X : MCx} {yd : Dyn} {A : Nat → Prop} (C : OK X cX11_set RX11 5 (some .int) rmX11_set A)  (v1 : Int32) (v2 : Int32) (v4 : Int32) (s0 : Int32) (h : AH) : AW X 5 ZR yd A 0 0 (QF X rmX11_set ZR yd rvI A) 92 [(0, .ref 0), (1, .int v1), (2, .int v2), (4, .int v4)] [.int s0, .ref 0] h (X11_set_j92 v1 v2 v4 s0 h) := by
    exact aw_putI (pc := 92) C dK_c_181.1 fp_X11_95 sR_0 rfl fun h5 =>
    aw_aload_n (pc := 95) C (i := 0) dK_c_181.2.1 rfl rfl <|
    aw_iload_n (pc := 96) C (i := 1) dK_c_181.2.2.1 rfl rfl <|
    aw_iconst (pc := 97) C (v := 1) dK_c_181.2.2.2.1 rfl <|
    aw_icmp_ne (pc := 98) C (tgt := 105) dK_c_181.2.2.2.2.1 rfl (fun _ =>
    aw_iload_n (pc := 101) C (i := 2) dK_c_181.2.2.2.2.2.1 rfl rfl <|
    aw_goto (pc := 102) C (tgt := 109) dK_c_181.2.2.2.2.2.2.1 rfl <|
    aw_drop [3] (aX11_set_j109 C v4 v2 h5)) (fun _ =>
    aw_aload_n (pc := 105) C (i := 0) dK_c_181.2.2.2.2.2.2.2.1 rfl rfl <|
    aw_getI (pc := 106) C dK_c_182.1 fl_X11_99 sR_0 rfl <|
    aw_drop [3] (aX11_set_j109 C v4 (h5.1 0 13) h5))
def X11_set_j77  (v1 : Int32) (v2 : Int32) (s0 : Int32) (h : AH) : Option (Int32 × AH) :=
    if v1 = 0 then (X11_set_j92 v1 v2 s0 v2 h)
    else (X11_set_j92 v1 v2 s0 (h.1 0 12) h)
set_option maxRecDepth 100000 in
theorem aX11_set_j77 {X : MCx} {yd : Dyn} {A : Nat → Prop} (C : OK X cX11_set RX11 5 (some .int) rmX11_set A)  (v1 : Int32) (v2 : Int32) (s0 : Int32) (h : AH) : AW X 5 ZR yd A 0 0 (QF X rmX11_set ZR yd rvI A) 77 [(0, .ref 0), (1, .int v1), (2, .int v2)] [.int s0] h (X11_set_j77 v1 v2 s0 h) := by
    exact aw_istore (pc := 77) C (i := 4) (lv' := [(0, .ref 0), (1, .int v1), (2, .int v2), (4, .int s0)]) dK_c_180.1 (by decide) rfl <|
    aw_aload_n (pc := 79) C (i := 0) dK_c_180.2.1 rfl rfl <|
    aw_iload_n (pc := 80) C (i := 1) dK_c_180.2.2.1 rfl rfl <|
    aw_if_ne (pc := 81) C (tgt := 88) dK_c_180.2.2.2.1 rfl (fun _ =>
    aw_iload_n (pc := 84) C (i := 2) dK_c_180.2.2.2.2.1 rfl rfl <|
    aw_goto (pc := 85) C (tgt := 92) dK_c_180.2.2.2.2.2.1 rfl <|
    (aX11_set_j92 C v1 v2 s0 v2 h)) (fun _ =>
    aw_aload_n (pc := 88) C (i := 0) dK_c_180.2.2.2.2.2.2.1 rfl rfl <|
    aw_getI (pc := 89) C dK_c_180.2.2.2.2.2.2.2.1 fl_X11_95 sR_0 rfl <|
    (aX11_set_j92 C v1 v2 s0 (h.1 0 12) h))
def X11_set_j52  (v1 : Int32) (v2 : Int32) (v3 : Int32) (h : AH) : Option (Int32 × AH) :=
    if v3 = 0 then (if v1 = 0 then (X11_set_j77 v1 v2 (h.1 0 12) h)
    else (X11_set_j77 v1 v2 (h.1 0 13) h))
    else (bd (X11_no v3 h) fun r7 h8 =>
    some (r7, h8))
set_option maxRecDepth 100000 in
theorem aX11_set_j52 {X : MCx} {yd : Dyn} {A : Nat → Prop} (C : OK X cX11_set RX11 5 (some .int) rmX11_set A)  (v1 : Int32) (v2 : Int32) (v3 : Int32) (h : AH) : AW X 5 ZR yd A 0 0 (QF X rmX11_set ZR yd rvI A) 52 [(0, .ref 0), (1, .int v1), (2, .int v2), (3, .int v3)] [] h (X11_set_j52 v1 v2 v3 h) := by
    exact aw_iload_n (pc := 52) C (i := 3) dK_c_178.2.2.2.1 rfl rfl <|
    aw_if_eq (pc := 53) C (tgt := 62) dK_c_178.2.2.2.2.1 rfl (fun _ =>
    aw_iload_n (pc := 62) C (i := 1) dK_c_179.2.1 rfl rfl <|
    aw_if_ne (pc := 63) C (tgt := 73) dK_c_179.2.2.1 rfl (fun _ =>
    aw_aload_n (pc := 66) C (i := 0) dK_c_179.2.2.2.1 rfl rfl <|
    aw_getI (pc := 67) C dK_c_179.2.2.2.2.1 fl_X11_95 sR_0 rfl <|
    aw_goto (pc := 70) C (tgt := 77) dK_c_179.2.2.2.2.2.1 rfl <|
    aw_drop [0, 1, 2] (aX11_set_j77 C v1 v2 (h.1 0 12) h)) (fun _ =>
    aw_aload_n (pc := 73) C (i := 0) dK_c_179.2.2.2.2.2.2.1 rfl rfl <|
    aw_getI (pc := 74) C dK_c_179.2.2.2.2.2.2.2.1 fl_X11_99 sR_0 rfl <|
    aw_drop [0, 1, 2] (aX11_set_j77 C v1 v2 (h.1 0 13) h))) (fun _ =>
    aw_aload_n (pc := 56) C (i := 0) dK_c_178.2.2.2.2.2.1 rfl rfl <|
    aw_iload_n (pc := 57) C (i := 3) dK_c_178.2.2.2.2.2.2.1 rfl rfl <|
    aw_callF (pc := 58) C (cr_V (rest := []) (F := (X11_no v3)) C (c_X11_no X.2.1 v3) dK_c_178.2.2.2.2.2.2.2.1 mf_X11_no ml_X11_115 im_X11_no se_X11_no sR_0 rfl ⟨(Nat.le_of_ble_eq_true rfl), (Nat.le_of_ble_eq_true rfl)⟩ rfl rfl (Nat.le_of_ble_eq_true rfl)) rfl rfl rfl (Nat.zero_le _) (Nat.zero_le _) fun r7 h8 =>
    aw_iret (pc := 61) C dK_c_179.1 rfl rfl)
def X11_set_j37  (v1 : Int32) (v2 : Int32) (s0 : Int32) (h : AH) : Option (Int32 × AH) :=
    if s0 = 0 then (if (h.1 0 16) ≤ 0 then (X11_set_j52 v1 v2 s0 h)
    else (vl (-3) fun x9 =>
    X11_set_j52 v1 v2 x9 h))
    else (X11_set_j52 v1 v2 s0 h)
set_option maxRecDepth 100000 in
theorem aX11_set_j37 {X : MCx} {yd : Dyn} {A : Nat → Prop} (C : OK X cX11_set RX11 5 (some .int) rmX11_set A)  (v1 : Int32) (v2 : Int32) (s0 : Int32) (h : AH) : AW X 5 ZR yd A 0 0 (QF X rmX11_set ZR yd rvI A) 37 [(0, .ref 0), (1, .int v1), (2, .int v2)] [.int s0] h (X11_set_j37 v1 v2 s0 h) := by
    exact aw_istore_n (pc := 37) C (i := 3) (lv' := [(0, .ref 0), (1, .int v1), (2, .int v2), (3, .int s0)]) dK_c_177.2.2.2.1 rfl (by decide) rfl <|
    aw_iload_n (pc := 38) C (i := 3) dK_c_177.2.2.2.2.1 rfl rfl <|
    aw_if_ne (pc := 39) C (tgt := 52) dK_c_177.2.2.2.2.2.1 rfl (fun _ =>
    aw_aload_n (pc := 42) C (i := 0) dK_c_177.2.2.2.2.2.2.1 rfl rfl <|
    aw_getI (pc := 43) C dK_c_177.2.2.2.2.2.2.2.1 fl_X11_147 sR_0 rfl <|
    aw_if_le (pc := 46) C (tgt := 52) dK_c_178.1 rfl (fun _ =>
    (aX11_set_j52 C v1 v2 s0 h)) (fun _ =>
    aw_bipush (pc := 49) C (v := (-3)) dK_c_178.2.1 rfl <|
    aw_istoreV_n (pc := 51) C (i := 3) (fun x9 => [(0, .ref 0), (1, .int v1), (2, .int v2), (3, .int x9)]) dK_c_178.2.2.1 rfl (by decide) (fun _ => rfl) fun x9 =>
    (aX11_set_j52 C v1 v2 x9 h))) (fun _ =>
    (aX11_set_j52 C v1 v2 s0 h))
def X11_set_j34  (v1 : Int32) (v2 : Int32) (s0 : Int32) (s1 : Int32) (s2 : Int32) (h : AH) : Option (Int32 × AH) :=
    bd (X11_bound s2 s1 s0 h) fun r3 h4 =>
    X11_set_j37 v1 v2 r3 h4
set_option maxRecDepth 100000 in
theorem aX11_set_j34 {X : MCx} {yd : Dyn} {A : Nat → Prop} (C : OK X cX11_set RX11 5 (some .int) rmX11_set A)  (v1 : Int32) (v2 : Int32) (s0 : Int32) (s1 : Int32) (s2 : Int32) (h : AH) : AW X 5 ZR yd A 0 0 (QF X rmX11_set ZR yd rvI A) 34 [(0, .ref 0), (1, .int v1), (2, .int v2)] [.int s0, .int s1, .int s2] h (X11_set_j34 v1 v2 s0 s1 s2 h) := by
    exact aw_callF (pc := 34) C (cr_S (rest := []) (F := (X11_bound s2 s1 s0)) C (c_X11_bound X.2.1 s2 s1 s0) dK_c_177.2.2.1 mf_X11_bound ml_X11_108 st_X11_bound ⟨(Nat.le_of_ble_eq_true rfl), (Nat.le_of_ble_eq_true rfl)⟩ rfl rfl (Nat.le_of_ble_eq_true rfl)) rfl rfl rfl (Nat.zero_le _) (Nat.zero_le _) fun r3 h4 =>
    (aX11_set_j37 C v1 v2 r3 h4)
def X11_set_j24  (v1 : Int32) (v2 : Int32) (s0 : Int32) (s1 : Int32) (h : AH) : Option (Int32 × AH) :=
    if v1 = 0 then (X11_set_j34 v1 v2 20 s0 s1 h)
    else (X11_set_j34 v1 v2 4 s0 s1 h)
set_option maxRecDepth 100000 in
theorem aX11_set_j24 {X : MCx} {yd : Dyn} {A : Nat → Prop} (C : OK X cX11_set RX11 5 (some .int) rmX11_set A)  (v1 : Int32) (v2 : Int32) (s0 : Int32) (s1 : Int32) (h : AH) : AW X 5 ZR yd A 0 0 (QF X rmX11_set ZR yd rvI A) 24 [(0, .ref 0), (1, .int v1), (2, .int v2)] [.int s0, .int s1] h (X11_set_j24 v1 v2 s0 s1 h) := by
    exact aw_iload_n (pc := 24) C (i := 1) dK_c_176.2.2.2.2.2.1 rfl rfl <|
    aw_if_ne (pc := 25) C (tgt := 33) dK_c_176.2.2.2.2.2.2.1 rfl (fun _ =>
    aw_bipush (pc := 28) C (v := 20) dK_c_176.2.2.2.2.2.2.2.1 rfl <|
    aw_goto (pc := 30) C (tgt := 34) dK_c_177.1 rfl <|
    (aX11_set_j34 C v1 v2 20 s0 s1 h)) (fun _ =>
    aw_iconst (pc := 33) C (v := 4) dK_c_177.2.1 rfl <|
    (aX11_set_j34 C v1 v2 4 s0 s1 h))
def X11_set (v1 : Int32) (v2 : Int32) (h : AH) : Option (Int32 × AH) :=
    bd (X11_isIn v1 0 1 h) fun r1 h2 =>
    if r1 = 0 then (X11_set_j37 v1 v2 (-2) h2)
    else (if v1 = 0 then (X11_set_j24 v1 v2 4 v2 h2)
    else (X11_set_j24 v1 v2 1 v2 h2))
set_option maxRecDepth 100000 in
theorem c_X11_set (l : Launch) (v1 : Int32) (v2 : Int32) : MC l yX11_set cX11_set 5 (some .int) rmX11_set ZR [.ref 0, .int v1, .int v2] rvI (X11_set v1 v2) :=
  MC.of (own := RX11) pn_RX11 rfl (Nat.le_of_ble_eq_true rfl) fun X yd A h _ C =>
    aw_iload_n (pc := 0) C (i := 1) dK_c_175.1 rfl rfl <|
    aw_iconst (pc := 1) C (v := 0) dK_c_175.2.1 rfl <|
    aw_iconst (pc := 2) C (v := 1) dK_c_175.2.2.1 rfl <|
    aw_callF (pc := 3) C (cr_S (rest := []) (F := (X11_isIn v1 0 1)) C (c_X11_isIn X.2.1 v1 0 1) dK_c_175.2.2.2.1 mf_X11_isIn ml_X11_126 st_X11_isIn ⟨(Nat.le_of_ble_eq_true rfl), (Nat.le_of_ble_eq_true rfl)⟩ rfl rfl (Nat.le_of_ble_eq_true rfl)) rfl rfl rfl (Nat.zero_le _) (Nat.zero_le _) fun r1 h2 =>
    aw_if_ne (pc := 6) C (tgt := 14) dK_c_175.2.2.2.2.1 rfl (fun _ =>
    aw_bipush (pc := 9) C (v := (-2)) dK_c_175.2.2.2.2.2.1 rfl <|
    aw_goto (pc := 11) C (tgt := 37) dK_c_175.2.2.2.2.2.2.1 rfl <|
    (aX11_set_j37 C v1 v2 (-2) h2)) (fun _ =>
    aw_iload_n (pc := 14) C (i := 2) dK_c_175.2.2.2.2.2.2.2.1 rfl rfl <|
    aw_iload_n (pc := 15) C (i := 1) dK_c_176.1 rfl rfl <|
    aw_if_ne (pc := 16) C (tgt := 23) dK_c_176.2.1 rfl (fun _ =>
    aw_iconst (pc := 19) C (v := 4) dK_c_176.2.2.1 rfl <|
    aw_goto (pc := 20) C (tgt := 24) dK_c_176.2.2.2.1 rfl <|
    (aX11_set_j24 C v1 v2 4 v2 h2)) (fun _ =>
    aw_iconst (pc := 23) C (v := 1) dK_c_176.2.2.2.2.1 rfl <|
    (aX11_set_j24 C v1 v2 1 v2 h2)))

abbrev rmX11_wind : Room := { frames := 1, cells := 0, slots := 0, locals := 22 }
def X11_wind (v1 : Int32) (h : AH) : Option (Int32 × AH) :=
    bd (X11_bound v1 (-9) 9 h) fun r1 h2 =>
    if r1 = 0 then (vl (h2.1 0 14) fun x3 =>
    vl (sI h2 0 14 v1) fun h4 =>
    some (x3, h4))
    else (bd (X11_lower r1 h2) fun r5 h6 =>
    some (r5, h6))
set_option maxRecDepth 100000 in
theorem c_X11_wind (l : Launch) (v1 : Int32) : MC l yX11_wind cX11_wind 4 (some .int) rmX11_wind ZR [.ref 0, .int v1] rvI (X11_wind v1) :=
  MC.of (own := RX11) pn_RX11 rfl (Nat.le_of_ble_eq_true rfl) fun X yd A h _ C =>
    aw_iload_n (pc := 0) C (i := 1) dK_c_183.1 rfl rfl <|
    aw_bipush (pc := 1) C (v := (-9)) dK_c_183.2.1 rfl <|
    aw_bipush (pc := 3) C (v := 9) dK_c_183.2.2.1 rfl <|
    aw_callF (pc := 5) C (cr_S (rest := []) (F := (X11_bound v1 (-9) 9)) C (c_X11_bound X.2.1 v1 (-9) 9) dK_c_183.2.2.2.1 mf_X11_bound ml_X11_108 st_X11_bound ⟨(Nat.le_of_ble_eq_true rfl), (Nat.le_of_ble_eq_true rfl)⟩ rfl rfl (Nat.le_of_ble_eq_true rfl)) rfl rfl rfl (Nat.zero_le _) (Nat.zero_le _) fun r1 h2 =>
    aw_istore_n (pc := 8) C (i := 2) (lv' := [(0, .ref 0), (1, .int v1), (2, .int r1)]) dK_c_183.2.2.2.2.1 rfl (by decide) rfl <|
    aw_iload_n (pc := 9) C (i := 2) dK_c_183.2.2.2.2.2.1 rfl rfl <|
    aw_if_eq (pc := 10) C (tgt := 19) dK_c_183.2.2.2.2.2.2.1 rfl (fun _ =>
    aw_aload_n (pc := 19) C (i := 0) dK_c_184.2.2.2.1 rfl rfl <|
    aw_getI (pc := 20) C dK_c_184.2.2.2.2.1 fl_X11_157 sR_0 rfl <|
    aw_istoreV_n (pc := 23) C (i := 3) (fun x3 => [(0, .ref 0), (1, .int v1), (2, .int r1), (3, .int x3)]) dK_c_184.2.2.2.2.2.1 rfl (by decide) (fun _ => rfl) fun x3 =>
    aw_aload_n (pc := 24) C (i := 0) dK_c_184.2.2.2.2.2.2.1 rfl rfl <|
    aw_iload_n (pc := 25) C (i := 1) dK_c_184.2.2.2.2.2.2.2.1 rfl rfl <|
    aw_putI (pc := 26) C dK_c_185.1 fp_X11_157 sR_0 rfl fun h4 =>
    aw_iload_n (pc := 29) C (i := 3) dK_c_185.2.1 rfl rfl <|
    aw_iret (pc := 30) C dK_c_185.2.2.1 rfl rfl) (fun _ =>
    aw_aload_n (pc := 13) C (i := 0) dK_c_183.2.2.2.2.2.2.2.1 rfl rfl <|
    aw_iload_n (pc := 14) C (i := 2) dK_c_184.1 rfl rfl <|
    aw_callF (pc := 15) C (cr_V (rest := []) (F := (X11_lower r1)) C (c_X11_lower X.2.1 r1) dK_c_184.2.1 mf_X11_lower ml_X11_220 im_X11_lower se_X11_lower sR_0 rfl ⟨(Nat.le_of_ble_eq_true rfl), (Nat.le_of_ble_eq_true rfl)⟩ rfl rfl (Nat.le_of_ble_eq_true rfl)) rfl rfl rfl (Nat.zero_le _) (Nat.zero_le _) fun r5 h6 =>
    aw_iret (pc := 18) C dK_c_184.2.2.1 rfl rfl)

abbrev rmX11_stride : Room := { frames := 1, cells := 0, slots := 0, locals := 24 }
def X11_stride_j23  (v1 : Int32) (v2 : Int32) (s0 : Int32) (h : AH) : Option (Int32 × AH) :=
    if s0 = 0 then (bd (X11_strideIn v1 v2 (h.1 0 14) h) fun r5 h6 =>
    some (r5, h6))
    else (bd (X11_no s0 h) fun r7 h8 =>
    some (r7, h8))
set_option maxRecDepth 100000 in
theorem aX11_stride_j23 {X : MCx} {yd : Dyn} {A : Nat → Prop} (C : OK X cX11_stride RX11 4 (some .int) rmX11_stride A)  (v1 : Int32) (v2 : Int32) (s0 : Int32) (h : AH) : AW X 4 ZR yd A 0 0 (QF X rmX11_stride ZR yd rvI A) 23 [(0, .ref 0), (1, .int v1), (2, .int v2)] [.int s0] h (X11_stride_j23 v1 v2 s0 h) := by
    exact aw_istore_n (pc := 23) C (i := 3) (lv' := [(0, .ref 0), (1, .int v1), (2, .int v2), (3, .int s0)]) dK_c_187.2.2.2.2.2.1 rfl (by decide) rfl <|
    aw_iload_n (pc := 24) C (i := 3) dK_c_187.2.2.2.2.2.2.1 rfl rfl <|
    aw_if_eq (pc := 25) C (tgt := 36) dK_c_187.2.2.2.2.2.2.2.1 rfl (fun _ =>
    aw_aload_n (pc := 36) C (i := 0) dK_c_188.2.2.2.2.1 rfl rfl <|
    aw_iload_n (pc := 37) C (i := 1) dK_c_188.2.2.2.2.2.1 rfl rfl <|
    aw_iload_n (pc := 38) C (i := 2) dK_c_188.2.2.2.2.2.2.1 rfl rfl <|
    aw_aload_n (pc := 39) C (i := 0) dK_c_188.2.2.2.2.2.2.2.1 rfl rfl <|
    aw_getI (pc := 40) C dK_c_189.1 fl_X11_157 sR_0 rfl <|
    aw_callF (pc := 43) C (cr_V (rest := []) (F := (X11_strideIn v1 v2 (h.1 0 14))) C (c_X11_strideIn X.2.1 v1 v2 (h.1 0 14)) dK_c_189.2.1 mf_X11_strideIn ml_X11_197 im_X11_strideIn se_X11_strideIn sR_0 rfl ⟨(Nat.le_of_ble_eq_true rfl), (Nat.le_of_ble_eq_true rfl)⟩ rfl rfl (Nat.le_of_ble_eq_true rfl)) rfl rfl rfl (Nat.zero_le _) (Nat.zero_le _) fun r5 h6 =>
    aw_iret (pc := 46) C dK_c_189.2.2.1 rfl rfl) (fun _ =>
    aw_aload_n (pc := 28) C (i := 0) dK_c_188.1 rfl rfl <|
    aw_iload_n (pc := 29) C (i := 3) dK_c_188.2.1 rfl rfl <|
    aw_callF (pc := 30) C (cr_V (rest := []) (F := (X11_no s0)) C (c_X11_no X.2.1 s0) dK_c_188.2.2.1 mf_X11_no ml_X11_115 im_X11_no se_X11_no sR_0 rfl ⟨(Nat.le_of_ble_eq_true rfl), (Nat.le_of_ble_eq_true rfl)⟩ rfl rfl (Nat.le_of_ble_eq_true rfl)) rfl rfl rfl (Nat.zero_le _) (Nat.zero_le _) fun r7 h8 =>
    aw_goto (pc := 33) C (tgt := 46) dK_c_188.2.2.2.1 rfl <|
    aw_iret (pc := 46) C dK_c_189.2.2.1 rfl rfl)
def X11_stride (v1 : Int32) (v2 : Int32) (h : AH) : Option (Int32 × AH) :=
    bd (X11_isJumper v1 h) fun r1 h2 =>
    if r1 = 0 then (X11_stride_j23 v1 v2 (-1) h2)
    else (bd (X11_bound v2 0 ((h2.1 0 12) - 1) h2) fun r3 h4 =>
    X11_stride_j23 v1 v2 r3 h4)
set_option maxRecDepth 100000 in
theorem c_X11_stride (l : Launch) (v1 : Int32) (v2 : Int32) : MC l yX11_stride cX11_stride 4 (some .int) rmX11_stride ZR [.ref 0, .int v1, .int v2] rvI (X11_stride v1 v2) :=
  MC.of (own := RX11) pn_RX11 rfl (Nat.le_of_ble_eq_true rfl) fun X yd A h _ C =>
    aw_aload_n (pc := 0) C (i := 0) dK_c_186.1 rfl rfl <|
    aw_iload_n (pc := 1) C (i := 1) dK_c_186.2.1 rfl rfl <|
    aw_callF (pc := 2) C (cr_V (rest := []) (F := (X11_isJumper v1)) C (c_X11_isJumper X.2.1 v1) dK_c_186.2.2.1 mf_X11_isJumper ml_X11_207 im_X11_isJumper se_X11_isJumper sR_0 rfl ⟨(Nat.le_of_ble_eq_true rfl), (Nat.le_of_ble_eq_true rfl)⟩ rfl rfl (Nat.le_of_ble_eq_true rfl)) rfl rfl rfl (Nat.zero_le _) (Nat.zero_le _) fun r1 h2 =>
    aw_if_ne (pc := 5) C (tgt := 12) dK_c_186.2.2.2.1 rfl (fun _ =>
    aw_iconst (pc := 8) C (v := (-1)) dK_c_186.2.2.2.2.1 rfl <|
    aw_goto (pc := 9) C (tgt := 23) dK_c_186.2.2.2.2.2.1 rfl <|
    (aX11_stride_j23 C v1 v2 (-1) h2)) (fun _ =>
    aw_iload_n (pc := 12) C (i := 2) dK_c_186.2.2.2.2.2.2.1 rfl rfl <|
    aw_iconst (pc := 13) C (v := 0) dK_c_186.2.2.2.2.2.2.2.1 rfl <|
    aw_aload_n (pc := 14) C (i := 0) dK_c_187.1 rfl rfl <|
    aw_getI (pc := 15) C dK_c_187.2.1 fl_X11_95 sR_0 rfl <|
    aw_iconst (pc := 18) C (v := 1) dK_c_187.2.2.1 rfl <|
    aw_isub (pc := 19) C dK_c_187.2.2.2.1 <|
    aw_callF (pc := 20) C (cr_S (rest := []) (F := (X11_bound v2 0 ((h2.1 0 12) - 1))) C (c_X11_bound X.2.1 v2 0 ((h2.1 0 12) - 1)) dK_c_187.2.2.2.2.1 mf_X11_bound ml_X11_108 st_X11_bound ⟨(Nat.le_of_ble_eq_true rfl), (Nat.le_of_ble_eq_true rfl)⟩ rfl rfl (Nat.le_of_ble_eq_true rfl)) rfl rfl rfl (Nat.zero_le _) (Nat.zero_le _) fun r3 h4 =>
    (aX11_stride_j23 C v1 v2 r3 h4))

abbrev rmX11_place : Room := { frames := 3, cells := 0, slots := 0, locals := 69 }
def X11_place (v1 : Int32) (h : AH) : Option (Int32 × AH) :=
    bd (X11_isJumper v1 h) fun r1 h2 =>
    if r1 = 0 then (bd (X11_lower (-1) h2) fun r3 h4 =>
    some (r3, h4))
    else (bd (X11_placeOf v1 h2) fun r5 h6 =>
    some (r5, h6))
set_option maxRecDepth 100000 in
theorem c_X11_place (l : Launch) (v1 : Int32) : MC l yX11_place cX11_place 2 (some .int) rmX11_place ZR [.ref 0, .int v1] rvI (X11_place v1) :=
  MC.of (own := RX11) pn_RX11 rfl (Nat.le_of_ble_eq_true rfl) fun X yd A h _ C =>
    aw_aload_n (pc := 0) C (i := 0) dK_c_190.1 rfl rfl <|
    aw_iload_n (pc := 1) C (i := 1) dK_c_190.2.1 rfl rfl <|
    aw_callF (pc := 2) C (cr_V (rest := []) (F := (X11_isJumper v1)) C (c_X11_isJumper X.2.1 v1) dK_c_190.2.2.1 mf_X11_isJumper ml_X11_207 im_X11_isJumper se_X11_isJumper sR_0 rfl ⟨(Nat.le_of_ble_eq_true rfl), (Nat.le_of_ble_eq_true rfl)⟩ rfl rfl (Nat.le_of_ble_eq_true rfl)) rfl rfl rfl (Nat.zero_le _) (Nat.zero_le _) fun r1 h2 =>
    aw_if_eq (pc := 5) C (tgt := 16) dK_c_190.2.2.2.1 rfl (fun _ =>
    aw_aload_n (pc := 16) C (i := 0) dK_c_191.1 rfl rfl <|
    aw_iconst (pc := 17) C (v := (-1)) dK_c_191.2.1 rfl <|
    aw_callF (pc := 18) C (cr_V (rest := []) (F := (X11_lower (-1))) C (c_X11_lower X.2.1 (-1)) dK_c_191.2.2.1 mf_X11_lower ml_X11_220 im_X11_lower se_X11_lower sR_0 rfl ⟨(Nat.le_of_ble_eq_true rfl), (Nat.le_of_ble_eq_true rfl)⟩ rfl rfl (Nat.le_of_ble_eq_true rfl)) rfl rfl rfl (Nat.zero_le _) (Nat.zero_le _) fun r3 h4 =>
    aw_iret (pc := 21) C dK_c_191.2.2.2.1 rfl rfl) (fun _ =>
    aw_aload_n (pc := 8) C (i := 0) dK_c_190.2.2.2.2.1 rfl rfl <|
    aw_iload_n (pc := 9) C (i := 1) dK_c_190.2.2.2.2.2.1 rfl rfl <|
    aw_callF (pc := 10) C (cr_V (rest := []) (F := (X11_placeOf v1)) C (c_X11_placeOf X.2.1 v1) dK_c_190.2.2.2.2.2.2.1 mf_X11_placeOf ml_X11_223 im_X11_placeOf se_X11_placeOf sR_0 rfl ⟨(Nat.le_of_ble_eq_true rfl), (Nat.le_of_ble_eq_true rfl)⟩ rfl rfl (Nat.le_of_ble_eq_true rfl)) rfl rfl rfl (Nat.zero_le _) (Nat.zero_le _) fun r5 h6 =>
    aw_goto (pc := 13) C (tgt := 21) dK_c_190.2.2.2.2.2.2.2.1 rfl <|
    aw_iret (pc := 21) C dK_c_191.2.2.2.1 rfl rfl)

abbrev rmX11_length : Room := { frames := 2, cells := 0, slots := 0, locals := 45 }
def X11_length_j44  (v1 : Int32) (v2 : Int32) (v3 : Int32) (s0 : Int32) (h : AH) : Option (Int32 × AH) :=
    if s0 = 0 then (bd (X11_lengthOf v1 v2 v3 h) fun r3 h4 =>
    some (r3, h4))
    else (bd (X11_no s0 h) fun r5 h6 =>
    some (r5, h6))
set_option maxRecDepth 100000 in
theorem aX11_length_j44 {X : MCx} {yd : Dyn} {A : Nat → Prop} (C : OK X cX11_length RX11 5 (some .int) rmX11_length A)  (v1 : Int32) (v2 : Int32) (v3 : Int32) (s0 : Int32) (h : AH) : AW X 5 ZR yd A 0 0 (QF X rmX11_length ZR yd rvI A) 44 [(0, .ref 0), (1, .int v1), (2, .int v2), (3, .int v3)] [.int s0] h (X11_length_j44 v1 v2 v3 s0 h) := by
    exact aw_istore (pc := 44) C (i := 4) (lv' := [(0, .ref 0), (1, .int v1), (2, .int v2), (3, .int v3), (4, .int s0)]) dK_c_194.2.2.2.2.2.1 (by decide) rfl <|
    aw_iload (pc := 46) C (i := 4) dK_c_194.2.2.2.2.2.2.1 rfl <|
    aw_if_eq (pc := 48) C (tgt := 60) dK_c_194.2.2.2.2.2.2.2.1 rfl (fun _ =>
    aw_aload_n (pc := 60) C (i := 0) dK_c_195.2.2.2.2.1 rfl rfl <|
    aw_iload_n (pc := 61) C (i := 1) dK_c_195.2.2.2.2.2.1 rfl rfl <|
    aw_iload_n (pc := 62) C (i := 2) dK_c_195.2.2.2.2.2.2.1 rfl rfl <|
    aw_iload_n (pc := 63) C (i := 3) dK_c_195.2.2.2.2.2.2.2.1 rfl rfl <|
    aw_callF (pc := 64) C (cr_V (rest := []) (F := (X11_lengthOf v1 v2 v3)) C (c_X11_lengthOf X.2.1 v1 v2 v3) dK_c_196.1 mf_X11_lengthOf ml_X11_163 im_X11_lengthOf se_X11_lengthOf sR_0 rfl ⟨(Nat.le_of_ble_eq_true rfl), (Nat.le_of_ble_eq_true rfl)⟩ rfl rfl (Nat.le_of_ble_eq_true rfl)) rfl rfl rfl (Nat.zero_le _) (Nat.zero_le _) fun r3 h4 =>
    aw_iret (pc := 67) C dK_c_196.2.1 rfl rfl) (fun _ =>
    aw_aload_n (pc := 51) C (i := 0) dK_c_195.1 rfl rfl <|
    aw_iload (pc := 52) C (i := 4) dK_c_195.2.1 rfl <|
    aw_callF (pc := 54) C (cr_V (rest := []) (F := (X11_no s0)) C (c_X11_no X.2.1 s0) dK_c_195.2.2.1 mf_X11_no ml_X11_115 im_X11_no se_X11_no sR_0 rfl ⟨(Nat.le_of_ble_eq_true rfl), (Nat.le_of_ble_eq_true rfl)⟩ rfl rfl (Nat.le_of_ble_eq_true rfl)) rfl rfl rfl (Nat.zero_le _) (Nat.zero_le _) fun r5 h6 =>
    aw_goto (pc := 57) C (tgt := 67) dK_c_195.2.2.2.1 rfl <|
    aw_iret (pc := 67) C dK_c_196.2.1 rfl rfl)
def X11_length_j20  (v1 : Int32) (v2 : Int32) (v3 : Int32) (h : AH) : Option (Int32 × AH) :=
    X11_length_j44 v1 v2 v3 (-4) h
set_option maxRecDepth 100000 in
theorem aX11_length_j20 {X : MCx} {yd : Dyn} {A : Nat → Prop} (C : OK X cX11_length RX11 5 (some .int) rmX11_length A)  (v1 : Int32) (v2 : Int32) (v3 : Int32) (h : AH) : AW X 5 ZR yd A 0 0 (QF X rmX11_length ZR yd rvI A) 20 [(0, .ref 0), (1, .int v1), (2, .int v2), (3, .int v3)] [] h (X11_length_j20 v1 v2 v3 h) := by
    exact aw_bipush (pc := 20) C (v := (-4)) dK_c_193.2.2.1 rfl <|
    aw_goto (pc := 22) C (tgt := 44) dK_c_193.2.2.2.1 rfl <|
    (aX11_length_j44 C v1 v2 v3 (-4) h)
def X11_length_j38  (v1 : Int32) (v2 : Int32) (v3 : Int32) (h : AH) : Option (Int32 × AH) :=
    X11_length_j44 v1 v2 v3 (-6) h
set_option maxRecDepth 100000 in
theorem aX11_length_j38 {X : MCx} {yd : Dyn} {A : Nat → Prop} (C : OK X cX11_length RX11 5 (some .int) rmX11_length A)  (v1 : Int32) (v2 : Int32) (v3 : Int32) (h : AH) : AW X 5 ZR yd A 0 0 (QF X rmX11_length ZR yd rvI A) 38 [(0, .ref 0), (1, .int v1), (2, .int v2), (3, .int v3)] [] h (X11_length_j38 v1 v2 v3 h) := by
    exact aw_bipush (pc := 38) C (v := (-6)) dK_c_194.2.2.1 rfl <|
    aw_goto (pc := 40) C (tgt := 44) dK_c_194.2.2.2.1 rfl <|
    (aX11_length_j44 C v1 v2 v3 (-6) h)
def X11_length (v1 : Int32) (v2 : Int32) (v3 : Int32) (h : AH) : Option (Int32 × AH) :=
    bd (X11_isJumper v1 h) fun r1 h2 =>
    if r1 = 0 then (X11_length_j44 v1 v2 v3 (-1) h2)
    else (if v2 < 0 then (X11_length_j20 v1 v2 v3 h2)
    else (if 0 ≤ v3 then (if 300 < v2 then (X11_length_j38 v1 v2 v3 h2)
    else (if v3 ≤ 99 then (X11_length_j44 v1 v2 v3 0 h2)
    else (X11_length_j38 v1 v2 v3 h2)))
    else (X11_length_j20 v1 v2 v3 h2)))
set_option maxRecDepth 100000 in
theorem c_X11_length (l : Launch) (v1 : Int32) (v2 : Int32) (v3 : Int32) : MC l yX11_length cX11_length 5 (some .int) rmX11_length ZR [.ref 0, .int v1, .int v2, .int v3] rvI (X11_length v1 v2 v3) :=
  MC.of (own := RX11) pn_RX11 rfl (Nat.le_of_ble_eq_true rfl) fun X yd A h _ C =>
    aw_aload_n (pc := 0) C (i := 0) dK_c_192.1 rfl rfl <|
    aw_iload_n (pc := 1) C (i := 1) dK_c_192.2.1 rfl rfl <|
    aw_callF (pc := 2) C (cr_V (rest := []) (F := (X11_isJumper v1)) C (c_X11_isJumper X.2.1 v1) dK_c_192.2.2.1 mf_X11_isJumper ml_X11_207 im_X11_isJumper se_X11_isJumper sR_0 rfl ⟨(Nat.le_of_ble_eq_true rfl), (Nat.le_of_ble_eq_true rfl)⟩ rfl rfl (Nat.le_of_ble_eq_true rfl)) rfl rfl rfl (Nat.zero_le _) (Nat.zero_le _) fun r1 h2 =>
    aw_if_ne (pc := 5) C (tgt := 12) dK_c_192.2.2.2.1 rfl (fun _ =>
    aw_iconst (pc := 8) C (v := (-1)) dK_c_192.2.2.2.2.1 rfl <|
    aw_goto (pc := 9) C (tgt := 44) dK_c_192.2.2.2.2.2.1 rfl <|
    (aX11_length_j44 C v1 v2 v3 (-1) h2)) (fun _ =>
    aw_iload_n (pc := 12) C (i := 2) dK_c_192.2.2.2.2.2.2.1 rfl rfl <|
    aw_if_lt (pc := 13) C (tgt := 20) dK_c_192.2.2.2.2.2.2.2.1 rfl (fun _ =>
    (aX11_length_j20 C v1 v2 v3 h2)) (fun _ =>
    aw_iload_n (pc := 16) C (i := 3) dK_c_193.1 rfl rfl <|
    aw_if_ge (pc := 17) C (tgt := 25) dK_c_193.2.1 rfl (fun _ =>
    aw_iload_n (pc := 25) C (i := 2) dK_c_193.2.2.2.2.1 rfl rfl <|
    aw_sipush (pc := 26) C (v := 300) dK_c_193.2.2.2.2.2.1 rfl <|
    aw_icmp_gt (pc := 29) C (tgt := 38) dK_c_193.2.2.2.2.2.2.1 rfl (fun _ =>
    (aX11_length_j38 C v1 v2 v3 h2)) (fun _ =>
    aw_iload_n (pc := 32) C (i := 3) dK_c_193.2.2.2.2.2.2.2.1 rfl rfl <|
    aw_bipush (pc := 33) C (v := 99) dK_c_194.1 rfl <|
    aw_icmp_le (pc := 35) C (tgt := 43) dK_c_194.2.1 rfl (fun _ =>
    aw_iconst (pc := 43) C (v := 0) dK_c_194.2.2.2.2.1 rfl <|
    (aX11_length_j44 C v1 v2 v3 0 h2)) (fun _ =>
    (aX11_length_j38 C v1 v2 v3 h2)))) (fun _ =>
    (aX11_length_j20 C v1 v2 v3 h2))))

abbrev rmX11_findWays : Room := { frames := 0, cells := 0, slots := 0, locals := 0 }
def X11_findWays_j106 (p0 : Nat) (n0 : Nat) (v1 : Int32) (v2 : Int32) (v3 : Int32) (v4 : Int32) (K30 : Int32 → AH → Option (Unit × AH)) (K52 : Int32 → AH → Option (Unit × AH)) (h : AH) : Option (Unit × AH) :=
    vl (v4 + 1) fun x3 =>
    K52 x3 h
set_option maxRecDepth 100000 in
theorem aX11_findWays_j106 {X : MCx} {yd : Dyn} {A : Nat → Prop} (C : OK X cX11_findWays RX11 7 none rmX11_findWays A) (p0 : Nat) (n0 : Nat) (hA0 : ZR.1[p0]? = some (.inl (1, 1, n0))) (v1 : Int32) (v2 : Int32) (v3 : Int32) (v4 : Int32) (K30 : Int32 → AH → Option (Unit × AH)) (hK30 : ∀ (w2 : Int32) (h : AH), AW X 7 ZR yd A 0 0 (QF X rmX11_findWays ZR yd rvV A) 30 [(0, .ref p0), (1, .int v1), (2, .int w2)] [] h (K30 w2 h)) (K52 : Int32 → AH → Option (Unit × AH)) (hK52 : ∀ (w4 : Int32) (h : AH), AW X 7 ZR yd A 0 0 (QF X rmX11_findWays ZR yd rvV A) 52 [(0, .ref p0), (1, .int v1), (2, .int v2), (3, .int v3), (4, .int w4)] [] h (K52 w4 h)) (h : AH) : AW X 7 ZR yd A 0 0 (QF X rmX11_findWays ZR yd rvV A) 106 [(0, .ref p0), (1, .int v1), (2, .int v2), (3, .int v3), (4, .int v4)] [] h (X11_findWays_j106 p0 n0 v1 v2 v3 v4 K30 K52 h) := by
    exact aw_iincV (pc := 106) C (i := 4) (cst := 1) (fun x3 => [(0, .ref p0), (1, .int v1), (2, .int v2), (3, .int v3), (4, .int x3)]) dK_c_205.2.2.2.2.1 rfl rfl (by decide) (fun _ => rfl) fun x3 =>
    aw_goto (pc := 109) C (tgt := 52) dK_c_205.2.2.2.2.2.1 rfl <|
    (hK52 x3 h)
def X11_findWays_j75 (p0 : Nat) (n0 : Nat) (v1 : Int32) (v2 : Int32) (v3 : Int32) (v4 : Int32) (K30 : Int32 → AH → Option (Unit × AH)) (K52 : Int32 → AH → Option (Unit × AH)) (s0 : Int32) (h : AH) : Option (Unit × AH) :=
    vl (s0 - v3) fun x2 =>
    if x2 < 0 then (X11_findWays_j106 p0 n0 v1 v2 v3 v4 K30 K52 h)
    else (if (Int32.ofNat n0) ≤ x2 then (X11_findWays_j106 p0 n0 v1 v2 v3 v4 K30 K52 h)
    else (ck s0 n0 (ck x2 n0 (ck s0 n0 (vl (sL h p0 s0.toNatClampNeg ((h.2.1 p0 s0.toNatClampNeg) + (h.2.1 p0 x2.toNatClampNeg))) fun h4 =>
    X11_findWays_j106 p0 n0 v1 v2 v3 v4 K30 K52 h4)))))
set_option maxRecDepth 100000 in
theorem aX11_findWays_j75 {X : MCx} {yd : Dyn} {A : Nat → Prop} (C : OK X cX11_findWays RX11 7 none rmX11_findWays A) (p0 : Nat) (n0 : Nat) (hA0 : ZR.1[p0]? = some (.inl (1, 1, n0))) (v1 : Int32) (v2 : Int32) (v3 : Int32) (v4 : Int32) (K30 : Int32 → AH → Option (Unit × AH)) (hK30 : ∀ (w2 : Int32) (h : AH), AW X 7 ZR yd A 0 0 (QF X rmX11_findWays ZR yd rvV A) 30 [(0, .ref p0), (1, .int v1), (2, .int w2)] [] h (K30 w2 h)) (K52 : Int32 → AH → Option (Unit × AH)) (hK52 : ∀ (w4 : Int32) (h : AH), AW X 7 ZR yd A 0 0 (QF X rmX11_findWays ZR yd rvV A) 52 [(0, .ref p0), (1, .int v1), (2, .int v2), (3, .int v3), (4, .int w4)] [] h (K52 w4 h)) (s0 : Int32) (h : AH) : AW X 7 ZR yd A 0 0 (QF X rmX11_findWays ZR yd rvV A) 75 [(0, .ref p0), (1, .int v1), (2, .int v2), (3, .int v3), (4, .int v4)] [.int s0] h (X11_findWays_j75 p0 n0 v1 v2 v3 v4 K30 K52 s0 h) := by
    exact aw_istore (pc := 75) C (i := 5) (lv' := [(0, .ref p0), (1, .int v1), (2, .int v2), (3, .int v3), (4, .int v4), (5, .int s0)]) dK_c_203.1 (by decide) rfl <|
    aw_iload (pc := 77) C (i := 5) dK_c_203.2.1 rfl <|
    aw_iload_n (pc := 79) C (i := 3) dK_c_203.2.2.1 rfl rfl <|
    aw_isub (pc := 80) C dK_c_203.2.2.2.1 <|
    aw_istoreV (pc := 81) C (i := 6) (fun x2 => [(0, .ref p0), (1, .int v1), (2, .int v2), (3, .int v3), (4, .int v4), (5, .int s0), (6, .int x2)]) dK_c_203.2.2.2.2.1 (by decide) (fun _ => rfl) fun x2 =>
    aw_iload (pc := 83) C (i := 6) dK_c_203.2.2.2.2.2.1 rfl <|
    aw_if_lt (pc := 85) C (tgt := 106) dK_c_203.2.2.2.2.2.2.1 rfl (fun _ =>
    aw_drop [0, 1, 2, 3, 4] (aX11_findWays_j106 C p0 n0 hA0 v1 v2 v3 v4 K30 hK30 K52 hK52 h)) (fun _ =>
    aw_iload (pc := 88) C (i := 6) dK_c_203.2.2.2.2.2.2.2.1 rfl <|
    aw_aload_n (pc := 90) C (i := 0) dK_c_204.1 rfl rfl <|
    aw_alenI (pc := 91) C (v := (Int32.ofNat n0)) (by decide) dK_c_204.2.1 hA0 rfl rfl <|
    aw_icmp_ge (pc := 92) C (tgt := 106) dK_c_204.2.2.1 rfl (fun _ =>
    aw_drop [0, 1, 2, 3, 4] (aX11_findWays_j106 C p0 n0 hA0 v1 v2 v3 v4 K30 hK30 K52 hK52 h)) (fun _ =>
    aw_aload_n (pc := 95) C (i := 0) dK_c_204.2.2.2.1 rfl rfl <|
    aw_iload (pc := 96) C (i := 5) dK_c_204.2.2.2.2.1 rfl <|
    aw_dup2 (pc := 98) C dK_c_204.2.2.2.2.2.1 rfl rfl <|
    aw_lald (pc := 99) C dK_c_204.2.2.2.2.2.2.1 hA0 rfl <|
    aw_aload_n (pc := 100) C (i := 0) dK_c_204.2.2.2.2.2.2.2.1 rfl rfl <|
    aw_iload (pc := 101) C (i := 6) dK_c_205.1 rfl <|
    aw_lald (pc := 103) C dK_c_205.2.1 hA0 rfl <|
    aw_ladd (pc := 104) C dK_c_205.2.2.1 <|
    aw_last (pc := 105) C dK_c_205.2.2.2.1 hA0 rfl fun h4 =>
    aw_drop [0, 1, 2, 3, 4] (aX11_findWays_j106 C p0 n0 hA0 v1 v2 v3 v4 K30 hK30 K52 hK52 h4)))
def X11_findWays_l52 (p0 : Nat) (n0 : Nat) (v1 : Int32) (v2 : Int32) (v3 : Int32) (K30 : Int32 → AH → Option (Unit × AH)) : Nat → Int32 → AH → Option (Unit × AH)
  | 0, _, _ => none
  | n + 1, v4, h =>
    if (Int32.ofNat n0) ≤ v4 then (vl (v2 + 1) fun x1 =>
    K30 x1 h)
    else (if v3 ≤ 0 then (X11_findWays_j75 p0 n0 v1 v2 v3 v4 K30 (X11_findWays_l52 p0 n0 v1 v2 v3 K30 n) v4 h)
    else (X11_findWays_j75 p0 n0 v1 v2 v3 v4 K30 (X11_findWays_l52 p0 n0 v1 v2 v3 K30 n) (((Int32.ofNat n0) - 1) - v4) h))
set_option maxRecDepth 100000 in
theorem aX11_findWays_l52 {X : MCx} {yd : Dyn} {A : Nat → Prop} (C : OK X cX11_findWays RX11 7 none rmX11_findWays A) (p0 : Nat) (n0 : Nat) (hA0 : ZR.1[p0]? = some (.inl (1, 1, n0))) (v1 : Int32) (v2 : Int32) (v3 : Int32) (K30 : Int32 → AH → Option (Unit × AH)) (hK30 : ∀ (w2 : Int32) (h : AH), AW X 7 ZR yd A 0 0 (QF X rmX11_findWays ZR yd rvV A) 30 [(0, .ref p0), (1, .int v1), (2, .int w2)] [] h (K30 w2 h)) : ∀ (n : Nat) (v4 : Int32) (h : AH), AW X 7 ZR yd A 0 0 (QF X rmX11_findWays ZR yd rvV A) 52 [(0, .ref p0), (1, .int v1), (2, .int v2), (3, .int v3), (4, .int v4)] [] h (X11_findWays_l52 p0 n0 v1 v2 v3 K30 n v4 h) := by
  intro n
  induction n with
  | zero => intro v4 h; exact aw_none
  | succ n ih =>
    intro v4 h
    exact aw_iload (pc := 52) C (i := 4) dK_c_201.2.2.1 rfl <|
    aw_aload_n (pc := 54) C (i := 0) dK_c_201.2.2.2.1 rfl rfl <|
    aw_alenI (pc := 55) C (v := (Int32.ofNat n0)) (by decide) dK_c_201.2.2.2.2.1 hA0 rfl rfl <|
    aw_icmp_ge (pc := 56) C (tgt := 112) dK_c_201.2.2.2.2.2.1 rfl (fun _ =>
    aw_iincV (pc := 112) C (i := 2) (cst := 1) (fun x1 => [(0, .ref p0), (1, .int v1), (2, .int x1), (3, .int v3), (4, .int v4)]) dK_c_205.2.2.2.2.2.2.1 rfl rfl (by decide) (fun _ => rfl) fun x1 =>
    aw_goto (pc := 115) C (tgt := 30) dK_c_205.2.2.2.2.2.2.2.1 rfl <|
    aw_drop [0, 1, 2] (hK30 x1 h)) (fun _ =>
    aw_iload_n (pc := 59) C (i := 3) dK_c_201.2.2.2.2.2.2.1 rfl rfl <|
    aw_if_le (pc := 60) C (tgt := 73) dK_c_201.2.2.2.2.2.2.2.1 rfl (fun _ =>
    aw_iload (pc := 73) C (i := 4) dK_c_202.2.2.2.2.2.2.2.1 rfl <|
    (aX11_findWays_j75 C p0 n0 hA0 v1 v2 v3 v4 K30 hK30 (X11_findWays_l52 p0 n0 v1 v2 v3 K30 n) ih v4 h)) (fun _ =>
    aw_aload_n (pc := 63) C (i := 0) dK_c_202.1 rfl rfl <|
    aw_alenI (pc := 64) C (v := (Int32.ofNat n0)) (by decide) dK_c_202.2.1 hA0 rfl rfl <|
    aw_iconst (pc := 65) C (v := 1) dK_c_202.2.2.1 rfl <|
    aw_isub (pc := 66) C dK_c_202.2.2.2.1 <|
    aw_iload (pc := 67) C (i := 4) dK_c_202.2.2.2.2.1 rfl <|
    aw_isub (pc := 69) C dK_c_202.2.2.2.2.2.1 <|
    aw_goto (pc := 70) C (tgt := 75) dK_c_202.2.2.2.2.2.2.1 rfl <|
    (aX11_findWays_j75 C p0 n0 hA0 v1 v2 v3 v4 K30 hK30 (X11_findWays_l52 p0 n0 v1 v2 v3 K30 n) ih (((Int32.ofNat n0) - 1) - v4) h)))
def X11_findWays_j48 (p0 : Nat) (n0 : Nat) (v1 : Int32) (v2 : Int32) (K30 : Int32 → AH → Option (Unit × AH)) (s0 : Int32) (h : AH) : Option (Unit × AH) :=
    X11_findWays_l52 p0 n0 v1 v2 s0 K30 FU 0 h
set_option maxRecDepth 100000 in
theorem aX11_findWays_j48 {X : MCx} {yd : Dyn} {A : Nat → Prop} (C : OK X cX11_findWays RX11 7 none rmX11_findWays A) (p0 : Nat) (n0 : Nat) (hA0 : ZR.1[p0]? = some (.inl (1, 1, n0))) (v1 : Int32) (v2 : Int32) (K30 : Int32 → AH → Option (Unit × AH)) (hK30 : ∀ (w2 : Int32) (h : AH), AW X 7 ZR yd A 0 0 (QF X rmX11_findWays ZR yd rvV A) 30 [(0, .ref p0), (1, .int v1), (2, .int w2)] [] h (K30 w2 h)) (s0 : Int32) (h : AH) : AW X 7 ZR yd A 0 0 (QF X rmX11_findWays ZR yd rvV A) 48 [(0, .ref p0), (1, .int v1), (2, .int v2)] [.int s0] h (X11_findWays_j48 p0 n0 v1 v2 K30 s0 h) := by
    exact aw_istore_n (pc := 48) C (i := 3) (lv' := [(0, .ref p0), (1, .int v1), (2, .int v2), (3, .int s0)]) dK_c_200.2.2.2.2.2.2.2.1 rfl (by decide) rfl <|
    aw_iconst (pc := 49) C (v := 0) dK_c_201.1 rfl <|
    aw_istore (pc := 50) C (i := 4) (lv' := [(0, .ref p0), (1, .int v1), (2, .int v2), (3, .int s0), (4, .int 0)]) dK_c_201.2.1 (by decide) rfl <|
    (aX11_findWays_l52 C p0 n0 hA0 v1 v2 s0 K30 hK30 FU 0 h)
def X11_findWays_l30 (p0 : Nat) (n0 : Nat) (v1 : Int32) : Nat → Int32 → AH → Option (Unit × AH)
  | 0, _, _ => none
  | n + 1, v2, h =>
    if (2 * v1) ≤ v2 then (some ((), h))
    else (if (rm32 v2 2) = 0 then (X11_findWays_j48 p0 n0 v1 v2 (X11_findWays_l30 p0 n0 v1 n) 1 h)
    else (X11_findWays_j48 p0 n0 v1 v2 (X11_findWays_l30 p0 n0 v1 n) (-1) h))
set_option maxRecDepth 100000 in
theorem aX11_findWays_l30 {X : MCx} {yd : Dyn} {A : Nat → Prop} (C : OK X cX11_findWays RX11 7 none rmX11_findWays A) (p0 : Nat) (n0 : Nat) (hA0 : ZR.1[p0]? = some (.inl (1, 1, n0))) (v1 : Int32) : ∀ (n : Nat) (v2 : Int32) (h : AH), AW X 7 ZR yd A 0 0 (QF X rmX11_findWays ZR yd rvV A) 30 [(0, .ref p0), (1, .int v1), (2, .int v2)] [] h (X11_findWays_l30 p0 n0 v1 n v2 h) := by
  intro n
  induction n with
  | zero => intro v2 h; exact aw_none
  | succ n ih =>
    intro v2 h
    exact aw_iload_n (pc := 30) C (i := 2) dK_c_199.2.2.2.1 rfl rfl <|
    aw_iconst (pc := 31) C (v := 2) dK_c_199.2.2.2.2.1 rfl <|
    aw_iload_n (pc := 32) C (i := 1) dK_c_199.2.2.2.2.2.1 rfl rfl <|
    aw_imul (pc := 33) C dK_c_199.2.2.2.2.2.2.1 <|
    aw_icmp_ge (pc := 34) C (tgt := 118) dK_c_199.2.2.2.2.2.2.2.1 rfl (fun _ =>
    aw_vret (pc := 118) C dK_c_206.1 rfl rfl) (fun _ =>
    aw_iload_n (pc := 37) C (i := 2) dK_c_200.1 rfl rfl <|
    aw_iconst (pc := 38) C (v := 2) dK_c_200.2.1 rfl <|
    aw_iremK (pc := 39) C dK_c_200.2.2.1 (by decide) <|
    aw_if_ne (pc := 40) C (tgt := 47) dK_c_200.2.2.2.1 rfl (fun _ =>
    aw_iconst (pc := 43) C (v := 1) dK_c_200.2.2.2.2.1 rfl <|
    aw_goto (pc := 44) C (tgt := 48) dK_c_200.2.2.2.2.2.1 rfl <|
    (aX11_findWays_j48 C p0 n0 hA0 v1 v2 (X11_findWays_l30 p0 n0 v1 n) ih 1 h)) (fun _ =>
    aw_iconst (pc := 47) C (v := (-1)) dK_c_200.2.2.2.2.2.2.1 rfl <|
    (aX11_findWays_j48 C p0 n0 hA0 v1 v2 (X11_findWays_l30 p0 n0 v1 n) ih (-1) h)))
def X11_findWays_j21 (p0 : Nat) (n0 : Nat) (v1 : Int32) (v2 : Int32) (K2 : Int32 → AH → Option (Unit × AH)) (s0 : Int64) (s1 : Int32) (h : AH) : Option (Unit × AH) :=
    ck s1 n0 (vl (sL h p0 s1.toNatClampNeg s0) fun h5 =>
    vl (v2 + 1) fun x6 =>
    K2 x6 h5)
set_option maxRecDepth 100000 in
theorem aX11_findWays_j21 {X : MCx} {yd : Dyn} {A : Nat → Prop} (C : OK X cX11_findWays RX11 7 none rmX11_findWays A) (p0 : Nat) (n0 : Nat) (hA0 : ZR.1[p0]? = some (.inl (1, 1, n0))) (v1 : Int32) (v2 : Int32) (K2 : Int32 → AH → Option (Unit × AH)) (hK2 : ∀ (w2 : Int32) (h : AH), AW X 7 ZR yd A 0 0 (QF X rmX11_findWays ZR yd rvV A) 2 [(0, .ref p0), (1, .int v1), (2, .int w2)] [] h (K2 w2 h)) (s0 : Int64) (s1 : Int32) (h : AH) : AW X 7 ZR yd A 0 0 (QF X rmX11_findWays ZR yd rvV A) 21 [(0, .ref p0), (1, .int v1), (2, .int v2)] [.long s0, .int s1, .ref p0] h (X11_findWays_j21 p0 n0 v1 v2 K2 s0 s1 h) := by
    exact aw_last (pc := 21) C dK_c_198.2.2.2.2.2.2.1 hA0 rfl fun h5 =>
    aw_iincV (pc := 22) C (i := 2) (cst := 1) (fun x6 => [(0, .ref p0), (1, .int v1), (2, .int x6)]) dK_c_198.2.2.2.2.2.2.2.1 rfl rfl (by decide) (fun _ => rfl) fun x6 =>
    aw_goto (pc := 25) C (tgt := 2) dK_c_199.1 rfl <|
    (hK2 x6 h5)
def X11_findWays_l2 (p0 : Nat) (n0 : Nat) (v1 : Int32) : Nat → Int32 → AH → Option (Unit × AH)
  | 0, _, _ => none
  | n + 1, v2, h =>
    if (Int32.ofNat n0) ≤ v2 then (X11_findWays_l30 p0 n0 v1 FU 0 h)
    else (if v2 = 20 then (X11_findWays_j21 p0 n0 v1 v2 (X11_findWays_l2 p0 n0 v1 n) 1 v2 h)
    else (X11_findWays_j21 p0 n0 v1 v2 (X11_findWays_l2 p0 n0 v1 n) 0 v2 h))
set_option maxRecDepth 100000 in
theorem aX11_findWays_l2 {X : MCx} {yd : Dyn} {A : Nat → Prop} (C : OK X cX11_findWays RX11 7 none rmX11_findWays A) (p0 : Nat) (n0 : Nat) (hA0 : ZR.1[p0]? = some (.inl (1, 1, n0))) (v1 : Int32) : ∀ (n : Nat) (v2 : Int32) (h : AH), AW X 7 ZR yd A 0 0 (QF X rmX11_findWays ZR yd rvV A) 2 [(0, .ref p0), (1, .int v1), (2, .int v2)] [] h (X11_findWays_l2 p0 n0 v1 n v2 h) := by
  intro n
  induction n with
  | zero => intro v2 h; exact aw_none
  | succ n ih =>
    intro v2 h
    exact aw_iload_n (pc := 2) C (i := 2) dK_c_197.2.2.1 rfl rfl <|
    aw_aload_n (pc := 3) C (i := 0) dK_c_197.2.2.2.1 rfl rfl <|
    aw_alenI (pc := 4) C (v := (Int32.ofNat n0)) (by decide) dK_c_197.2.2.2.2.1 hA0 rfl rfl <|
    aw_icmp_ge (pc := 5) C (tgt := 28) dK_c_197.2.2.2.2.2.1 rfl (fun _ =>
    aw_iconst (pc := 28) C (v := 0) dK_c_199.2.1 rfl <|
    aw_istore_n (pc := 29) C (i := 2) (lv' := [(0, .ref p0), (1, .int v1), (2, .int 0)]) dK_c_199.2.2.1 rfl (by decide) rfl <|
    (aX11_findWays_l30 C p0 n0 hA0 v1 FU 0 h)) (fun _ =>
    aw_aload_n (pc := 8) C (i := 0) dK_c_197.2.2.2.2.2.2.1 rfl rfl <|
    aw_iload_n (pc := 9) C (i := 2) dK_c_197.2.2.2.2.2.2.2.1 rfl rfl <|
    aw_iload_n (pc := 10) C (i := 2) dK_c_198.1 rfl rfl <|
    aw_bipush (pc := 11) C (v := 20) dK_c_198.2.1 rfl <|
    aw_icmp_ne (pc := 13) C (tgt := 20) dK_c_198.2.2.1 rfl (fun _ =>
    aw_lconst (pc := 16) C (v := 1) dK_c_198.2.2.2.1 rfl <|
    aw_goto (pc := 17) C (tgt := 21) dK_c_198.2.2.2.2.1 rfl <|
    (aX11_findWays_j21 C p0 n0 hA0 v1 v2 (X11_findWays_l2 p0 n0 v1 n) ih 1 v2 h)) (fun _ =>
    aw_lconst (pc := 20) C (v := 0) dK_c_198.2.2.2.2.2.1 rfl <|
    (aX11_findWays_j21 C p0 n0 hA0 v1 v2 (X11_findWays_l2 p0 n0 v1 n) ih 0 v2 h)))
def X11_findWays (p0 : Nat) (n0 : Nat) (v1 : Int32) (h : AH) : Option (Unit × AH) :=
    X11_findWays_l2 p0 n0 v1 FU 0 h
set_option maxRecDepth 100000 in
theorem c_X11_findWays (l : Launch) (p0 : Nat) (n0 : Nat) (hA0 : ZR.1[p0]? = some (.inl (1, 1, n0))) (v1 : Int32) : MC l yX11_findWays cX11_findWays 7 none rmX11_findWays ZR [.ref p0, .int v1] rvV (X11_findWays p0 n0 v1) :=
  MC.of (own := RX11) pn_RX11 rfl (Nat.le_of_ble_eq_true rfl) fun X yd A h _ C =>
    aw_iconst (pc := 0) C (v := 0) dK_c_197.1 rfl <|
    aw_istore_n (pc := 1) C (i := 2) (lv' := [(0, .ref p0), (1, .int v1), (2, .int 0)]) dK_c_197.2.1 rfl (by decide) rfl <|
    (aX11_findWays_l2 C p0 n0 hA0 v1 FU 0 h)

abbrev rmX11_countedOne : Room := { frames := 2, cells := 0, slots := 0, locals := 45 }
def X11_countedOne (v1 : Int32) (v2 : Int32) (v3 : Int32) (v4 : Int32) (v5 : Int32) (h : AH) : Option (Int32 × AH) :=
    vl v4 fun y1 =>
    if y1 = 0 then (if v2 = v5 then (some (1, h))
    else (some (0, h)))
    else if y1 = 1 then (if 0 ≤ v2 then (some (0, h))
    else (some (1, h)))
    else if y1 = 2 then (if 0 ≤ v2 then (bd (X11_lengthOf v1 v2 v3 h) fun r4 h5 =>
    some (r4, h5))
    else (some (0, h)))
    else (if v2 < 0 then (some (0, h))
    else (bd (X11_lengthOf v1 v2 v3 h) fun r7 h8 =>
    if r7 ≤ v5 then (some (0, h8))
    else (some (1, h8))))
set_option maxRecDepth 100000 in
theorem c_X11_countedOne (l : Launch) (v1 : Int32) (v2 : Int32) (v3 : Int32) (v4 : Int32) (v5 : Int32) : MC l yX11_countedOne cX11_countedOne 6 (some .int) rmX11_countedOne ZR [.ref 0, .int v1, .int v2, .int v3, .int v4, .int v5] rvI (X11_countedOne v1 v2 v3 v4 v5) :=
  MC.of (own := RX11) pn_RX11 rfl (Nat.le_of_ble_eq_true rfl) fun X yd A h _ C =>
    aw_iload (pc := 0) C (i := 4) dK_c_221.1 rfl <|
    aw_vlI fun y1 =>
    aw_if (fun c2 => aw_tswA (pc := 2) C (off := 26) (tg := 28) 0 dK_c_221.2.1 (by rw [c2]; rfl) (by decide) (by decide) rfl rfl (aw_iload_n (pc := 28) C (i := 2) dK_c_221.2.2.1 rfl rfl <|
    aw_iload (pc := 29) C (i := 5) dK_c_221.2.2.2.1 rfl <|
    aw_icmp_ne (pc := 31) C (tgt := 38) dK_c_221.2.2.2.2.1 rfl (fun _ =>
    aw_iconst (pc := 34) C (v := 1) dK_c_221.2.2.2.2.2.1 rfl <|
    aw_goto (pc := 35) C (tgt := 39) dK_c_221.2.2.2.2.2.2.1 rfl <|
    aw_iret (pc := 39) C dK_c_222.1 rfl rfl) (fun _ =>
    aw_iconst (pc := 38) C (v := 0) dK_c_221.2.2.2.2.2.2.2.1 rfl <|
    aw_iret (pc := 39) C dK_c_222.1 rfl rfl))) (fun c2 =>
    aw_if (fun c3 => aw_tswA (pc := 2) C (off := 38) (tg := 40) 1 dK_c_221.2.1 (by rw [c3]; rfl) (by decide) (by decide) rfl rfl (aw_iload_n (pc := 40) C (i := 2) dK_c_222.2.1 rfl rfl <|
    aw_if_ge (pc := 41) C (tgt := 48) dK_c_222.2.2.1 rfl (fun _ =>
    aw_iconst (pc := 48) C (v := 0) dK_c_222.2.2.2.2.2.1 rfl <|
    aw_iret (pc := 49) C dK_c_222.2.2.2.2.2.2.1 rfl rfl) (fun _ =>
    aw_iconst (pc := 44) C (v := 1) dK_c_222.2.2.2.1 rfl <|
    aw_goto (pc := 45) C (tgt := 49) dK_c_222.2.2.2.2.1 rfl <|
    aw_iret (pc := 49) C dK_c_222.2.2.2.2.2.2.1 rfl rfl))) (fun c3 =>
    aw_if (fun c6 => aw_tswA (pc := 2) C (off := 48) (tg := 50) 2 dK_c_221.2.1 (by rw [c6]; rfl) (by decide) (by decide) rfl rfl (aw_iload_n (pc := 50) C (i := 2) dK_c_222.2.2.2.2.2.2.2.1 rfl rfl <|
    aw_if_ge (pc := 51) C (tgt := 58) dK_c_223.1 rfl (fun _ =>
    aw_aload_n (pc := 58) C (i := 0) dK_c_223.2.2.2.1 rfl rfl <|
    aw_iload_n (pc := 59) C (i := 1) dK_c_223.2.2.2.2.1 rfl rfl <|
    aw_iload_n (pc := 60) C (i := 2) dK_c_223.2.2.2.2.2.1 rfl rfl <|
    aw_iload_n (pc := 61) C (i := 3) dK_c_223.2.2.2.2.2.2.1 rfl rfl <|
    aw_callF (pc := 62) C (cr_V (rest := []) (F := (X11_lengthOf v1 v2 v3)) C (c_X11_lengthOf X.2.1 v1 v2 v3) dK_c_223.2.2.2.2.2.2.2.1 mf_X11_lengthOf ml_X11_163 im_X11_lengthOf se_X11_lengthOf sR_0 rfl ⟨(Nat.le_of_ble_eq_true rfl), (Nat.le_of_ble_eq_true rfl)⟩ rfl rfl (Nat.le_of_ble_eq_true rfl)) rfl rfl rfl (Nat.zero_le _) (Nat.zero_le _) fun r4 h5 =>
    aw_iret (pc := 65) C dK_c_224.1 rfl rfl) (fun _ =>
    aw_iconst (pc := 54) C (v := 0) dK_c_223.2.1 rfl <|
    aw_goto (pc := 55) C (tgt := 65) dK_c_223.2.2.1 rfl <|
    aw_iret (pc := 65) C dK_c_224.1 rfl rfl))) (fun c6 =>
    aw_tswD (pc := 2) C (N := 3) (td := 66) [0, 1, 2] dK_c_221.2.1 (List.forall_mem_cons.mpr ⟨ti_ne c2 rfl, List.forall_mem_cons.mpr ⟨ti_ne c3 rfl, List.forall_mem_cons.mpr ⟨ti_ne c6 rfl, fun _ hz => by cases hz⟩⟩⟩) rfl (by decide) rfl (aw_iload_n (pc := 66) C (i := 2) dK_c_224.2.1 rfl rfl <|
    aw_if_lt (pc := 67) C (tgt := 86) dK_c_224.2.2.1 rfl (fun _ =>
    aw_iconst (pc := 86) C (v := 0) dK_c_225.2.2.2.2.1 rfl <|
    aw_iret (pc := 87) C dK_c_225.2.2.2.2.2.1 rfl rfl) (fun _ =>
    aw_aload_n (pc := 70) C (i := 0) dK_c_224.2.2.2.1 rfl rfl <|
    aw_iload_n (pc := 71) C (i := 1) dK_c_224.2.2.2.2.1 rfl rfl <|
    aw_iload_n (pc := 72) C (i := 2) dK_c_224.2.2.2.2.2.1 rfl rfl <|
    aw_iload_n (pc := 73) C (i := 3) dK_c_224.2.2.2.2.2.2.1 rfl rfl <|
    aw_callF (pc := 74) C (cr_V (rest := []) (F := (X11_lengthOf v1 v2 v3)) C (c_X11_lengthOf X.2.1 v1 v2 v3) dK_c_224.2.2.2.2.2.2.2.1 mf_X11_lengthOf ml_X11_163 im_X11_lengthOf se_X11_lengthOf sR_0 rfl ⟨(Nat.le_of_ble_eq_true rfl), (Nat.le_of_ble_eq_true rfl)⟩ rfl rfl (Nat.le_of_ble_eq_true rfl)) rfl rfl rfl (Nat.zero_le _) (Nat.zero_le _) fun r7 h8 =>
    aw_iload (pc := 77) C (i := 5) dK_c_225.1 rfl <|
    aw_icmp_le (pc := 79) C (tgt := 86) dK_c_225.2.1 rfl (fun _ =>
    aw_iconst (pc := 86) C (v := 0) dK_c_225.2.2.2.2.1 rfl <|
    aw_iret (pc := 87) C dK_c_225.2.2.2.2.2.1 rfl rfl) (fun _ =>
    aw_iconst (pc := 82) C (v := 1) dK_c_225.2.2.1 rfl <|
    aw_goto (pc := 83) C (tgt := 87) dK_c_225.2.2.2.1 rfl <|
    aw_iret (pc := 87) C dK_c_225.2.2.2.2.2.1 rfl rfl))))))

abbrev rmX11_counted : Room := { frames := 3, cells := 0, slots := 0, locals := 70 }
def X11_counted_j175  (v1 : Int32) (v2 : Int32) (v3 : Int32) (v4 : Int32) (v5 : Int32) (v6 : Int64) (v8 : Int32) (K37 : Int64 → Int32 → AH → Option (Int64 × AH)) (h : AH) : Option (Int64 × AH) :=
    vl (v8 + 1) fun x14 =>
    K37 v6 x14 h
set_option maxRecDepth 100000 in
theorem aX11_counted_j175 {X : MCx} {yd : Dyn} {A : Nat → Prop} (C : OK X cX11_counted RX11 13 (some .long) rmX11_counted A)  (v1 : Int32) (v2 : Int32) (v3 : Int32) (v4 : Int32) (v5 : Int32) (v6 : Int64) (v8 : Int32) (K37 : Int64 → Int32 → AH → Option (Int64 × AH)) (hK37 : ∀ (w6 : Int64) (w8 : Int32) (h : AH), AW X 13 ZR yd A 0 0 (QF X rmX11_counted ZR yd rvL A) 37 [(0, .ref 0), (1, .int v1), (2, .int v2), (3, .int v3), (4, .int v4), (5, .int v5), (6, .long w6), (8, .int w8)] [] h (K37 w6 w8 h)) (h : AH) : AW X 13 ZR yd A 0 0 (QF X rmX11_counted ZR yd rvL A) 175 [(0, .ref 0), (1, .int v1), (2, .int v2), (3, .int v3), (4, .int v4), (5, .int v5), (6, .long v6), (8, .int v8)] [] h (X11_counted_j175 v1 v2 v3 v4 v5 v6 v8 K37 h) := by
    exact aw_iincV (pc := 175) C (i := 8) (cst := 1) (fun x14 => [(0, .ref 0), (1, .int v1), (2, .int v2), (3, .int v3), (4, .int v4), (5, .int v5), (6, .long v6), (8, .int x14)]) dK_c_219.2.2.2.2.2.2.1 rfl rfl (by decide) (fun _ => rfl) fun x14 =>
    aw_goto (pc := 178) C (tgt := 37) dK_c_219.2.2.2.2.2.2.2.1 rfl <|
    (hK37 v6 x14 h)
def X11_counted_j162  (v1 : Int32) (v2 : Int32) (v3 : Int32) (v4 : Int32) (v5 : Int32) (v8 : Int32) (K37 : Int64 → Int32 → AH → Option (Int64 × AH)) (s0 : Int32) (s1 : Int32) (s2 : Int32) (s4 : Int64) (s5 : Int64) (h : AH) : Option (Int64 × AH) :=
    bd (X11_countedOne s2 s1 (s0 / 4) v3 v4 h) fun r11 h12 =>
    vl (s5 + (s4 * r11.toInt64)) fun x13 =>
    X11_counted_j175 v1 v2 v3 v4 v5 x13 v8 K37 h12
set_option maxRecDepth 100000 in
theorem aX11_counted_j162 {X : MCx} {yd : Dyn} {A : Nat → Prop} (C : OK X cX11_counted RX11 13 (some .long) rmX11_counted A)  (v1 : Int32) (v2 : Int32) (v3 : Int32) (v4 : Int32) (v5 : Int32) (v8 : Int32) (K37 : Int64 → Int32 → AH → Option (Int64 × AH)) (hK37 : ∀ (w6 : Int64) (w8 : Int32) (h : AH), AW X 13 ZR yd A 0 0 (QF X rmX11_counted ZR yd rvL A) 37 [(0, .ref 0), (1, .int v1), (2, .int v2), (3, .int v3), (4, .int v4), (5, .int v5), (6, .long w6), (8, .int w8)] [] h (K37 w6 w8 h)) (s0 : Int32) (s1 : Int32) (s2 : Int32) (s4 : Int64) (s5 : Int64) (h : AH) : AW X 13 ZR yd A 0 0 (QF X rmX11_counted ZR yd rvL A) 162 [(0, .ref 0), (1, .int v1), (2, .int v2), (3, .int v3), (4, .int v4), (5, .int v5), (8, .int v8)] [.int s0, .int s1, .int s2, .ref 0, .long s4, .long s5] h (X11_counted_j162 v1 v2 v3 v4 v5 v8 K37 s0 s1 s2 s4 s5 h) := by
    exact aw_iconst (pc := 162) C (v := 4) dK_c_218.2.2.2.2.2.1 rfl <|
    aw_idivK (pc := 163) C dK_c_218.2.2.2.2.2.2.1 (by decide) <|
    aw_iload_n (pc := 164) C (i := 3) dK_c_218.2.2.2.2.2.2.2.1 rfl rfl <|
    aw_iload (pc := 165) C (i := 4) dK_c_219.1 rfl <|
    aw_callF (pc := 167) C (cr_V (rest := [.long s4, .long s5]) (F := (X11_countedOne s2 s1 (s0 / 4) v3 v4)) C (c_X11_countedOne X.2.1 s2 s1 (s0 / 4) v3 v4) dK_c_219.2.1 mf_X11_countedOne ml_X11_230 im_X11_countedOne se_X11_countedOne sR_0 rfl ⟨(Nat.le_of_ble_eq_true rfl), (Nat.le_of_ble_eq_true rfl)⟩ rfl rfl (Nat.le_of_ble_eq_true rfl)) rfl rfl rfl (Nat.zero_le _) (Nat.zero_le _) fun r11 h12 =>
    aw_i2l (pc := 170) C dK_c_219.2.2.1 <|
    aw_lmul (pc := 171) C dK_c_219.2.2.2.1 <|
    aw_ladd (pc := 172) C dK_c_219.2.2.2.2.1 <|
    aw_lstoreV (pc := 173) C (i := 6) (fun x13 => [(0, .ref 0), (1, .int v1), (2, .int v2), (3, .int v3), (4, .int v4), (5, .int v5), (6, .long x13), (8, .int v8)]) dK_c_219.2.2.2.2.2.1 (by decide) (fun _ => rfl) fun x13 =>
    (aX11_counted_j175 C v1 v2 v3 v4 v5 x13 v8 K37 hK37 h12)
def X11_counted_j116  (v1 : Int32) (v2 : Int32) (v3 : Int32) (v4 : Int32) (v5 : Int32) (v6 : Int64) (v8 : Int32) (v9 : Int64) (v11 : Int32) (K37 : Int64 → Int32 → AH → Option (Int64 × AH)) (s0 : Int32) (h : AH) : Option (Int64 × AH) :=
    ck v1 4 (vl (v11 - (s0 + ((h.1 6 v1.toNatClampNeg) * ((rm32 v8 41) - 20)))) fun x10 =>
    if 0 ≤ s0 then (X11_counted_j162 v1 v2 v3 v4 v5 v8 K37 s0 x10 v1 v9 v6 h)
    else (X11_counted_j162 v1 v2 v3 v4 v5 v8 K37 (-s0) x10 v1 v9 v6 h))
set_option maxRecDepth 100000 in
theorem aX11_counted_j116 {X : MCx} {yd : Dyn} {A : Nat → Prop} (C : OK X cX11_counted RX11 13 (some .long) rmX11_counted A)  (v1 : Int32) (v2 : Int32) (v3 : Int32) (v4 : Int32) (v5 : Int32) (v6 : Int64) (v8 : Int32) (v9 : Int64) (v11 : Int32) (K37 : Int64 → Int32 → AH → Option (Int64 × AH)) (hK37 : ∀ (w6 : Int64) (w8 : Int32) (h : AH), AW X 13 ZR yd A 0 0 (QF X rmX11_counted ZR yd rvL A) 37 [(0, .ref 0), (1, .int v1), (2, .int v2), (3, .int v3), (4, .int v4), (5, .int v5), (6, .long w6), (8, .int w8)] [] h (K37 w6 w8 h)) (s0 : Int32) (h : AH) : AW X 13 ZR yd A 0 0 (QF X rmX11_counted ZR yd rvL A) 116 [(0, .ref 0), (1, .int v1), (2, .int v2), (3, .int v3), (4, .int v4), (5, .int v5), (6, .long v6), (8, .int v8), (9, .long v9), (11, .int v11)] [.int s0] h (X11_counted_j116 v1 v2 v3 v4 v5 v6 v8 v9 v11 K37 s0 h) := by
    exact aw_istore (pc := 116) C (i := 12) (lv' := [(0, .ref 0), (1, .int v1), (2, .int v2), (3, .int v3), (4, .int v4), (5, .int v5), (6, .long v6), (8, .int v8), (9, .long v9), (11, .int v11), (12, .int s0)]) dK_c_215.2.2.1 (by decide) rfl <|
    aw_iload (pc := 118) C (i := 11) dK_c_215.2.2.2.1 rfl <|
    aw_iload (pc := 120) C (i := 12) dK_c_215.2.2.2.2.1 rfl <|
    aw_aload_n (pc := 122) C (i := 0) dK_c_215.2.2.2.2.2.1 rfl rfl <|
    aw_getR (pc := 123) C (b := 6) dK_c_215.2.2.2.2.2.2.1 fl_X11_25 sR_0 rfl rR_0_5 <|
    aw_iload_n (pc := 126) C (i := 1) dK_c_215.2.2.2.2.2.2.2.1 rfl rfl <|
    aw_iald (pc := 127) C dK_c_216.1 sR_6 rfl <|
    aw_iload (pc := 128) C (i := 8) dK_c_216.2.1 rfl <|
    aw_bipush (pc := 130) C (v := 41) dK_c_216.2.2.1 rfl <|
    aw_iremK (pc := 132) C dK_c_216.2.2.2.1 (by decide) <|
    aw_bipush (pc := 133) C (v := 20) dK_c_216.2.2.2.2.1 rfl <|
    aw_isub (pc := 135) C dK_c_216.2.2.2.2.2.1 <|
    aw_imul (pc := 136) C dK_c_216.2.2.2.2.2.2.1 <|
    aw_iadd (pc := 137) C dK_c_216.2.2.2.2.2.2.2.1 <|
    aw_isub (pc := 138) C dK_c_217.1 <|
    aw_istoreV (pc := 139) C (i := 11) (fun x10 => [(0, .ref 0), (1, .int v1), (2, .int v2), (3, .int v3), (4, .int v4), (5, .int v5), (6, .long v6), (8, .int v8), (9, .long v9), (11, .int x10), (12, .int s0)]) dK_c_217.2.1 (by decide) (fun _ => rfl) fun x10 =>
    aw_lload (pc := 141) C (i := 6) dK_c_217.2.2.1 rfl <|
    aw_lload (pc := 143) C (i := 9) dK_c_217.2.2.2.1 rfl <|
    aw_aload_n (pc := 145) C (i := 0) dK_c_217.2.2.2.2.1 rfl rfl <|
    aw_iload_n (pc := 146) C (i := 1) dK_c_217.2.2.2.2.2.1 rfl rfl <|
    aw_iload (pc := 147) C (i := 11) dK_c_217.2.2.2.2.2.2.1 rfl <|
    aw_iload (pc := 149) C (i := 12) dK_c_217.2.2.2.2.2.2.2.1 rfl <|
    aw_if_ge (pc := 151) C (tgt := 160) dK_c_218.1 rfl (fun _ =>
    aw_iload (pc := 160) C (i := 12) dK_c_218.2.2.2.2.1 rfl <|
    aw_drop [0, 1, 2, 3, 4, 5, 7] (aX11_counted_j162 C v1 v2 v3 v4 v5 v8 K37 hK37 s0 x10 v1 v9 v6 h)) (fun _ =>
    aw_iload (pc := 154) C (i := 12) dK_c_218.2.1 rfl <|
    aw_ineg (pc := 156) C dK_c_218.2.2.1 <|
    aw_goto (pc := 157) C (tgt := 162) dK_c_218.2.2.2.1 rfl <|
    aw_drop [0, 1, 2, 3, 4, 5, 7] (aX11_counted_j162 C v1 v2 v3 v4 v5 v8 K37 hK37 (-s0) x10 v1 v9 v6 h))
def X11_counted_l37  (v1 : Int32) (v2 : Int32) (v3 : Int32) (v4 : Int32) (v5 : Int32) : Nat → Int64 → Int32 → AH → Option (Int64 × AH)
  | 0, _, _, _ => none
  | n + 1, v6, v8, h =>
    if 1681 ≤ v8 then (some (v6, h))
    else (ck (v8 / 41) 41 (ck (rm32 v8 41) 41 (vl ((h.2.1 18 (v8 / 41).toNatClampNeg) * (h.2.1 19 (rm32 v8 41).toNatClampNeg)) fun x6 =>
    if (lcmpV x6 0) = 0 then (X11_counted_j175 v1 v2 v3 v4 v5 v6 v8 (X11_counted_l37 v1 v2 v3 v4 v5 n) h)
    else (ck v1 4 (vl (v2 - ((h.1 6 v1.toNatClampNeg) * ((v8 / 41) - 20))) fun x7 =>
    if v5 = 0 then (X11_counted_j116 v1 v2 v3 v4 v5 v6 v8 x6 x7 (X11_counted_l37 v1 v2 v3 v4 v5 n) 0 h)
    else (bd (X11_aimOf v1 h) fun r8 h9 =>
    X11_counted_j116 v1 v2 v3 v4 v5 v6 v8 x6 x7 (X11_counted_l37 v1 v2 v3 v4 v5 n) ((x7 - r8) / 2) h9))))))
set_option maxRecDepth 100000 in
theorem aX11_counted_l37 {X : MCx} {yd : Dyn} {A : Nat → Prop} (C : OK X cX11_counted RX11 13 (some .long) rmX11_counted A)  (v1 : Int32) (v2 : Int32) (v3 : Int32) (v4 : Int32) (v5 : Int32) : ∀ (n : Nat) (v6 : Int64) (v8 : Int32) (h : AH), AW X 13 ZR yd A 0 0 (QF X rmX11_counted ZR yd rvL A) 37 [(0, .ref 0), (1, .int v1), (2, .int v2), (3, .int v3), (4, .int v4), (5, .int v5), (6, .long v6), (8, .int v8)] [] h (X11_counted_l37 v1 v2 v3 v4 v5 n v6 v8 h) := by
  intro n
  induction n with
  | zero => intro v6 v8 h; exact aw_none
  | succ n ih =>
    intro v6 v8 h
    exact aw_iload (pc := 37) C (i := 8) dK_c_209.2.2.2.2.1 rfl <|
    aw_sipush (pc := 39) C (v := 1681) dK_c_209.2.2.2.2.2.1 rfl <|
    aw_icmp_ge (pc := 42) C (tgt := 181) dK_c_209.2.2.2.2.2.2.1 rfl (fun _ =>
    aw_lload (pc := 181) C (i := 6) dK_c_220.1 rfl <|
    aw_lret (pc := 183) C dK_c_220.2.1 rfl rfl) (fun _ =>
    aw_aload_n (pc := 45) C (i := 0) dK_c_209.2.2.2.2.2.2.2.1 rfl rfl <|
    aw_getR (pc := 46) C (b := 18) dK_c_210.1 fl_X11_61 sR_0 rfl rR_0_28 <|
    aw_iload (pc := 49) C (i := 8) dK_c_210.2.1 rfl <|
    aw_bipush (pc := 51) C (v := 41) dK_c_210.2.2.1 rfl <|
    aw_idivK (pc := 53) C dK_c_210.2.2.2.1 (by decide) <|
    aw_lald (pc := 54) C dK_c_210.2.2.2.2.1 sR_18 rfl <|
    aw_aload_n (pc := 55) C (i := 0) dK_c_210.2.2.2.2.2.1 rfl rfl <|
    aw_getR (pc := 56) C (b := 19) dK_c_210.2.2.2.2.2.2.1 fl_X11_65 sR_0 rfl rR_0_29 <|
    aw_iload (pc := 59) C (i := 8) dK_c_210.2.2.2.2.2.2.2.1 rfl <|
    aw_bipush (pc := 61) C (v := 41) dK_c_211.1 rfl <|
    aw_iremK (pc := 63) C dK_c_211.2.1 (by decide) <|
    aw_lald (pc := 64) C dK_c_211.2.2.1 sR_19 rfl <|
    aw_lmul (pc := 65) C dK_c_211.2.2.2.1 <|
    aw_lstoreV (pc := 66) C (i := 9) (fun x6 => [(0, .ref 0), (1, .int v1), (2, .int v2), (3, .int v3), (4, .int v4), (5, .int v5), (6, .long v6), (8, .int v8), (9, .long x6)]) dK_c_211.2.2.2.2.1 (by decide) (fun _ => rfl) fun x6 =>
    aw_lload (pc := 68) C (i := 9) dK_c_211.2.2.2.2.2.1 rfl <|
    aw_lconst (pc := 70) C (v := 0) dK_c_211.2.2.2.2.2.2.1 rfl <|
    aw_lcmp (pc := 71) C dK_c_211.2.2.2.2.2.2.2.1 <|
    aw_if_ne (pc := 72) C (tgt := 78) dK_c_212.1 rfl (fun _ =>
    aw_goto (pc := 75) C (tgt := 175) dK_c_212.2.1 rfl <|
    aw_drop [0, 1, 2, 3, 4, 5, 6, 7] (aX11_counted_j175 C v1 v2 v3 v4 v5 v6 v8 (X11_counted_l37 v1 v2 v3 v4 v5 n) ih h)) (fun _ =>
    aw_iload_n (pc := 78) C (i := 2) dK_c_212.2.2.1 rfl rfl <|
    aw_aload_n (pc := 79) C (i := 0) dK_c_212.2.2.2.1 rfl rfl <|
    aw_getR (pc := 80) C (b := 6) dK_c_212.2.2.2.2.1 fl_X11_25 sR_0 rfl rR_0_5 <|
    aw_iload_n (pc := 83) C (i := 1) dK_c_212.2.2.2.2.2.1 rfl rfl <|
    aw_iald (pc := 84) C dK_c_212.2.2.2.2.2.2.1 sR_6 rfl <|
    aw_iload (pc := 85) C (i := 8) dK_c_212.2.2.2.2.2.2.2.1 rfl <|
    aw_bipush (pc := 87) C (v := 41) dK_c_213.1 rfl <|
    aw_idivK (pc := 89) C dK_c_213.2.1 (by decide) <|
    aw_bipush (pc := 90) C (v := 20) dK_c_213.2.2.1 rfl <|
    aw_isub (pc := 92) C dK_c_213.2.2.2.1 <|
    aw_imul (pc := 93) C dK_c_213.2.2.2.2.1 <|
    aw_isub (pc := 94) C dK_c_213.2.2.2.2.2.1 <|
    aw_istoreV (pc := 95) C (i := 11) (fun x7 => [(0, .ref 0), (1, .int v1), (2, .int v2), (3, .int v3), (4, .int v4), (5, .int v5), (6, .long v6), (8, .int v8), (9, .long x6), (11, .int x7)]) dK_c_213.2.2.2.2.2.2.1 (by decide) (fun _ => rfl) fun x7 =>
    aw_iload (pc := 97) C (i := 5) dK_c_213.2.2.2.2.2.2.2.1 rfl <|
    aw_if_ne (pc := 99) C (tgt := 106) dK_c_214.1 rfl (fun _ =>
    aw_iconst (pc := 102) C (v := 0) dK_c_214.2.1 rfl <|
    aw_goto (pc := 103) C (tgt := 116) dK_c_214.2.2.1 rfl <|
    (aX11_counted_j116 C v1 v2 v3 v4 v5 v6 v8 x6 x7 (X11_counted_l37 v1 v2 v3 v4 v5 n) ih 0 h)) (fun _ =>
    aw_iload (pc := 106) C (i := 11) dK_c_214.2.2.2.1 rfl <|
    aw_aload_n (pc := 108) C (i := 0) dK_c_214.2.2.2.2.1 rfl rfl <|
    aw_iload_n (pc := 109) C (i := 1) dK_c_214.2.2.2.2.2.1 rfl rfl <|
    aw_callF (pc := 110) C (cr_V (rest := [.int x7]) (F := (X11_aimOf v1)) C (c_X11_aimOf X.2.1 v1) dK_c_214.2.2.2.2.2.2.1 mf_X11_aimOf ml_X11_210 im_X11_aimOf se_X11_aimOf sR_0 rfl ⟨(Nat.le_of_ble_eq_true rfl), (Nat.le_of_ble_eq_true rfl)⟩ rfl rfl (Nat.le_of_ble_eq_true rfl)) rfl rfl rfl (Nat.zero_le _) (Nat.zero_le _) fun r8 h9 =>
    aw_isub (pc := 113) C dK_c_214.2.2.2.2.2.2.2.1 <|
    aw_iconst (pc := 114) C (v := 2) dK_c_215.1 rfl <|
    aw_idivK (pc := 115) C dK_c_215.2.1 (by decide) <|
    (aX11_counted_j116 C v1 v2 v3 v4 v5 v6 v8 x6 x7 (X11_counted_l37 v1 v2 v3 v4 v5 n) ih ((x7 - r8) / 2) h9))))
def X11_counted (v1 : Int32) (v2 : Int32) (v3 : Int32) (v4 : Int32) (h : AH) : Option (Int64 × AH) :=
    ck v1 4 (vl (h.1 8 v1.toNatClampNeg) fun x1 =>
    bd (X11_findWays 18 41 ((h.1 0 12) - x1) h) fun _ h3 =>
    bd (X11_findWays 19 41 x1 h3) fun _ h5 =>
    X11_counted_l37 v1 v2 v3 v4 x1 FU 0 0 h5)
set_option maxRecDepth 100000 in
theorem c_X11_counted (l : Launch) (v1 : Int32) (v2 : Int32) (v3 : Int32) (v4 : Int32) : MC l yX11_counted cX11_counted 13 (some .long) rmX11_counted ZR [.ref 0, .int v1, .int v2, .int v3, .int v4] rvL (X11_counted v1 v2 v3 v4) :=
  MC.of (own := RX11) pn_RX11 rfl (Nat.le_of_ble_eq_true rfl) fun X yd A h _ C =>
    aw_aload_n (pc := 0) C (i := 0) dK_c_207.1 rfl rfl <|
    aw_getR (pc := 1) C (b := 8) dK_c_207.2.1 fl_X11_31 sR_0 rfl rR_0_7 <|
    aw_iload_n (pc := 4) C (i := 1) dK_c_207.2.2.1 rfl rfl <|
    aw_iald (pc := 5) C dK_c_207.2.2.2.1 sR_8 rfl <|
    aw_istoreV (pc := 6) C (i := 5) (fun x1 => [(0, .ref 0), (1, .int v1), (2, .int v2), (3, .int v3), (4, .int v4), (5, .int x1)]) dK_c_207.2.2.2.2.1 (by decide) (fun _ => rfl) fun x1 =>
    aw_aload_n (pc := 8) C (i := 0) dK_c_207.2.2.2.2.2.1 rfl rfl <|
    aw_getR (pc := 9) C (b := 18) dK_c_207.2.2.2.2.2.2.1 fl_X11_61 sR_0 rfl rR_0_28 <|
    aw_aload_n (pc := 12) C (i := 0) dK_c_207.2.2.2.2.2.2.2.1 rfl rfl <|
    aw_getI (pc := 13) C dK_c_208.1 fl_X11_95 sR_0 rfl <|
    aw_iload (pc := 16) C (i := 5) dK_c_208.2.1 rfl <|
    aw_isub (pc := 18) C dK_c_208.2.2.1 <|
    aw_callF (pc := 19) C (cr_S (rest := []) (F := (X11_findWays 18 41 ((h.1 0 12) - x1))) C (c_X11_findWays X.2.1 18 41 sR_18 ((h.1 0 12) - x1)) dK_c_208.2.2.2.1 mf_X11_findWays ml_X11_226 st_X11_findWays ⟨(Nat.le_of_ble_eq_true rfl), (Nat.le_of_ble_eq_true rfl)⟩ rfl rfl (Nat.le_of_ble_eq_true rfl)) rfl rfl rfl (Nat.zero_le _) (Nat.zero_le _) fun _ h3 =>
    aw_aload_n (pc := 22) C (i := 0) dK_c_208.2.2.2.2.1 rfl rfl <|
    aw_getR (pc := 23) C (b := 19) dK_c_208.2.2.2.2.2.1 fl_X11_65 sR_0 rfl rR_0_29 <|
    aw_iload (pc := 26) C (i := 5) dK_c_208.2.2.2.2.2.2.1 rfl <|
    aw_callF (pc := 28) C (cr_S (rest := []) (F := (X11_findWays 19 41 x1)) C (c_X11_findWays X.2.1 19 41 sR_19 x1) dK_c_208.2.2.2.2.2.2.2.1 mf_X11_findWays ml_X11_226 st_X11_findWays ⟨(Nat.le_of_ble_eq_true rfl), (Nat.le_of_ble_eq_true rfl)⟩ rfl rfl (Nat.le_of_ble_eq_true rfl)) rfl rfl rfl (Nat.zero_le _) (Nat.zero_le _) fun _ h5 =>
    aw_lconst (pc := 31) C (v := 0) dK_c_209.1 rfl <|
    aw_lstore (pc := 32) C (i := 6) (lv' := [(0, .ref 0), (1, .int v1), (2, .int v2), (3, .int v3), (4, .int v4), (5, .int x1), (6, .long 0)]) dK_c_209.2.1 (by decide) rfl <|
    aw_iconst (pc := 34) C (v := 0) dK_c_209.2.2.1 rfl <|
    aw_istore (pc := 35) C (i := 8) (lv' := [(0, .ref 0), (1, .int v1), (2, .int v2), (3, .int v3), (4, .int v4), (5, .int x1), (6, .long 0), (8, .int 0)]) dK_c_209.2.2.2.1 (by decide) rfl <|
    (aX11_counted_l37 C v1 v2 v3 v4 x1 FU 0 0 h5)

abbrev rmX11_allWays : Room := { frames := 0, cells := 0, slots := 0, locals := 0 }
def X11_allWays  (h : AH) : Option (Int64 × AH) :=
    some ((shl64 1 (2 * (h.1 0 12))), h)
set_option maxRecDepth 100000 in
theorem c_X11_allWays (l : Launch)  : MC l yX11_allWays cX11_allWays 1 (some .long) rmX11_allWays ZR [.ref 0] rvL (X11_allWays) :=
  MC.of (own := RX11) pn_RX11 rfl (Nat.le_of_ble_eq_true rfl) fun X yd A h _ C =>
    aw_lconst (pc := 0) C (v := 1) dK_c_226.1 rfl <|
    aw_iconst (pc := 1) C (v := 2) dK_c_226.2.1 rfl <|
    aw_aload_n (pc := 2) C (i := 0) dK_c_226.2.2.1 rfl rfl <|
    aw_getI (pc := 3) C dK_c_226.2.2.2.1 fl_X11_95 sR_0 rfl <|
    aw_imul (pc := 6) C dK_c_226.2.2.2.2.1 <|
    aw_lshl (pc := 7) C dK_c_226.2.2.2.2.2.1 <|
    aw_lret (pc := 8) C dK_c_226.2.2.2.2.2.2.1 rfl rfl

abbrev rmX11_divisor : Room := { frames := 0, cells := 0, slots := 0, locals := 0 }
def X11_divisor_l6  : Nat → Int64 → Int64 → AH → Option (Int64 × AH)
  | 0, _, _, _ => none
  | n + 1, v4, v6, h =>
    if (lcmpV v6 0) = 0 then (some (v4, h))
    else (if v6 = 0 then none else (vl (rm64 v4 v6) fun x1 =>
    (X11_divisor_l6 n) v6 x1 h))
set_option maxRecDepth 100000 in
theorem aX11_divisor_l6 {X : MCx} {yd : Dyn} {A : Nat → Prop} (C : OK X cX11_divisor RX11 10 (some .long) rmX11_divisor A)  : ∀ (n : Nat) (v4 : Int64) (v6 : Int64) (h : AH), AW X 10 ZR yd A 0 0 (QF X rmX11_divisor ZR yd rvL A) 6 [(4, .long v4), (6, .long v6)] [] h (X11_divisor_l6 n v4 v6 h) := by
  intro n
  induction n with
  | zero => intro v4 v6 h; exact aw_none
  | succ n ih =>
    intro v4 v6 h
    exact aw_lload (pc := 6) C (i := 6) dK_c_227.2.2.2.2.1 rfl <|
    aw_lconst (pc := 8) C (v := 0) dK_c_227.2.2.2.2.2.1 rfl <|
    aw_lcmp (pc := 9) C dK_c_227.2.2.2.2.2.2.1 <|
    aw_if_eq (pc := 10) C (tgt := 31) dK_c_227.2.2.2.2.2.2.2.1 rfl (fun _ =>
    aw_lload (pc := 31) C (i := 4) dK_c_229.2.1 rfl <|
    aw_lret (pc := 33) C dK_c_229.2.2.1 rfl rfl) (fun _ =>
    aw_lload (pc := 13) C (i := 4) dK_c_228.1 rfl <|
    aw_lload (pc := 15) C (i := 6) dK_c_228.2.1 rfl <|
    aw_lrem (pc := 17) C dK_c_228.2.2.1 <|
    aw_lstoreV (pc := 18) C (i := 8) (fun x1 => [(4, .long v4), (6, .long v6), (8, .long x1)]) dK_c_228.2.2.2.1 (by decide) (fun _ => rfl) fun x1 =>
    aw_lload (pc := 20) C (i := 6) dK_c_228.2.2.2.2.1 rfl <|
    aw_lstore (pc := 22) C (i := 4) (lv' := [(4, .long v6), (6, .long v6), (8, .long x1)]) dK_c_228.2.2.2.2.2.1 (by decide) rfl <|
    aw_lload (pc := 24) C (i := 8) dK_c_228.2.2.2.2.2.2.1 rfl <|
    aw_lstore (pc := 26) C (i := 6) (lv' := [(4, .long v6), (6, .long x1), (8, .long x1)]) dK_c_228.2.2.2.2.2.2.2.1 (by decide) rfl <|
    aw_goto (pc := 28) C (tgt := 6) dK_c_229.1 rfl <|
    aw_drop [0, 1] (ih v6 x1 h))
def X11_divisor (v0 : Int64) (v2 : Int64) (h : AH) : Option (Int64 × AH) :=
    X11_divisor_l6 FU v0 v2 h
set_option maxRecDepth 100000 in
theorem c_X11_divisor (l : Launch) (v0 : Int64) (v2 : Int64) : MC l yX11_divisor cX11_divisor 10 (some .long) rmX11_divisor ZR [.long v0, .long v2] rvL (X11_divisor v0 v2) :=
  MC.of (own := RX11) pn_RX11 rfl (Nat.le_of_ble_eq_true rfl) fun X yd A h _ C =>
    aw_lload_n (pc := 0) C (i := 0) dK_c_227.1 rfl rfl <|
    aw_lstore (pc := 1) C (i := 4) (lv' := [(0, .long v0), (2, .long v2), (4, .long v0)]) dK_c_227.2.1 (by decide) rfl <|
    aw_lload_n (pc := 3) C (i := 2) dK_c_227.2.2.1 rfl rfl <|
    aw_lstore (pc := 4) C (i := 6) (lv' := [(0, .long v0), (2, .long v2), (4, .long v0), (6, .long v2)]) dK_c_227.2.2.2.1 (by decide) rfl <|
    aw_drop [2, 3] (aX11_divisor_l6 C FU v0 v2 h)

abbrev rmX11_partOf : Room := { frames := 1, cells := 0, slots := 0, locals := 29 }
def X11_partOf_j10  (v0 : Int64) (v2 : Int64) (s0 : Int64) (h : AH) : Option (Int64 × AH) :=
    bd (X11_divisor v0 v2 h) fun r1 h2 =>
    if r1 = 0 then none else (some ((s0 / r1), h2))
set_option maxRecDepth 100000 in
theorem aX11_partOf_j10 {X : MCx} {yd : Dyn} {A : Nat → Prop} (C : OK X cX11_partOf RX11 5 (some .long) rmX11_partOf A)  (v0 : Int64) (v2 : Int64) (s0 : Int64) (h : AH) : AW X 5 ZR yd A 0 0 (QF X rmX11_partOf ZR yd rvL A) 10 [(0, .long v0), (2, .long v2)] [.long s0] h (X11_partOf_j10 v0 v2 s0 h) := by
    exact aw_lload_n (pc := 10) C (i := 0) dK_c_230.2.2.2.2.2.1 rfl rfl <|
    aw_lload_n (pc := 11) C (i := 2) dK_c_230.2.2.2.2.2.2.1 rfl rfl <|
    aw_callF (pc := 12) C (cr_S (rest := [.long s0]) (F := (X11_divisor v0 v2)) C (c_X11_divisor X.2.1 v0 v2) dK_c_230.2.2.2.2.2.2.2.1 mf_X11_divisor ml_X11_234 st_X11_divisor ⟨(Nat.le_of_ble_eq_true rfl), (Nat.le_of_ble_eq_true rfl)⟩ rfl rfl (Nat.le_of_ble_eq_true rfl)) rfl rfl rfl (Nat.zero_le _) (Nat.zero_le _) fun r1 h2 =>
    aw_ldiv (pc := 15) C dK_c_231.1 <|
    aw_lret (pc := 16) C dK_c_231.2.1 rfl rfl
def X11_partOf (v0 : Int64) (v2 : Int64) (v4 : Int32) (h : AH) : Option (Int64 × AH) :=
    if v4 = 0 then (X11_partOf_j10 v0 v2 v0 h)
    else (X11_partOf_j10 v0 v2 v2 h)
set_option maxRecDepth 100000 in
theorem c_X11_partOf (l : Launch) (v0 : Int64) (v2 : Int64) (v4 : Int32) : MC l yX11_partOf cX11_partOf 5 (some .long) rmX11_partOf ZR [.long v0, .long v2, .int v4] rvL (X11_partOf v0 v2 v4) :=
  MC.of (own := RX11) pn_RX11 rfl (Nat.le_of_ble_eq_true rfl) fun X yd A h _ C =>
    aw_iload (pc := 0) C (i := 4) dK_c_230.1 rfl <|
    aw_if_ne (pc := 2) C (tgt := 9) dK_c_230.2.1 rfl (fun _ =>
    aw_lload_n (pc := 5) C (i := 0) dK_c_230.2.2.1 rfl rfl <|
    aw_goto (pc := 6) C (tgt := 10) dK_c_230.2.2.2.1 rfl <|
    aw_drop [0, 1] (aX11_partOf_j10 C v0 v2 v0 h)) (fun _ =>
    aw_lload_n (pc := 9) C (i := 2) dK_c_230.2.2.2.2.1 rfl rfl <|
    aw_drop [0, 1] (aX11_partOf_j10 C v0 v2 v2 h))

abbrev rmX11_off : Room := { frames := 4, cells := 0, slots := 0, locals := 102 }
def X11_off_j42  (v1 : Int32) (v2 : Int32) (v3 : Int32) (v4 : Int32) (h : AH) : Option (Int64 × AH) :=
    if v4 = 0 then (bd (X11_placeOf v1 h) fun r5 h6 =>
    bd (X11_counted v1 r5 0 v2 h6) fun r7 h8 =>
    bd (X11_allWays h8) fun r9 h10 =>
    bd (X11_partOf r7 r9 v3 h10) fun r11 h12 =>
    some (r11, h12))
    else (bd (X11_lowest v4 h) fun r13 h14 =>
    some (r13, h14))
set_option maxRecDepth 100000 in
theorem aX11_off_j42 {X : MCx} {yd : Dyn} {A : Nat → Prop} (C : OK X cX11_off RX11 5 (some .long) rmX11_off A)  (v1 : Int32) (v2 : Int32) (v3 : Int32) (v4 : Int32) (h : AH) : AW X 5 ZR yd A 0 0 (QF X rmX11_off ZR yd rvL A) 42 [(0, .ref 0), (1, .int v1), (2, .int v2), (3, .int v3), (4, .int v4)] [] h (X11_off_j42 v1 v2 v3 v4 h) := by
    exact aw_iload (pc := 42) C (i := 4) dK_c_234.2.2.2.2.1 rfl <|
    aw_if_eq (pc := 44) C (tgt := 56) dK_c_234.2.2.2.2.2.1 rfl (fun _ =>
    aw_aload_n (pc := 56) C (i := 0) dK_c_235.2.2.1 rfl rfl <|
    aw_iload_n (pc := 57) C (i := 1) dK_c_235.2.2.2.1 rfl rfl <|
    aw_aload_n (pc := 58) C (i := 0) dK_c_235.2.2.2.2.1 rfl rfl <|
    aw_iload_n (pc := 59) C (i := 1) dK_c_235.2.2.2.2.2.1 rfl rfl <|
    aw_callF (pc := 60) C (cr_V (rest := [.int v1, .ref 0]) (F := (X11_placeOf v1)) C (c_X11_placeOf X.2.1 v1) dK_c_235.2.2.2.2.2.2.1 mf_X11_placeOf ml_X11_223 im_X11_placeOf se_X11_placeOf sR_0 rfl ⟨(Nat.le_of_ble_eq_true rfl), (Nat.le_of_ble_eq_true rfl)⟩ rfl rfl (Nat.le_of_ble_eq_true rfl)) rfl rfl rfl (Nat.zero_le _) (Nat.zero_le _) fun r5 h6 =>
    aw_iconst (pc := 63) C (v := 0) dK_c_235.2.2.2.2.2.2.2.1 rfl <|
    aw_iload_n (pc := 64) C (i := 2) dK_c_236.1 rfl rfl <|
    aw_callF (pc := 65) C (cr_V (rest := []) (F := (X11_counted v1 r5 0 v2)) C (c_X11_counted X.2.1 v1 r5 0 v2) dK_c_236.2.1 mf_X11_counted ml_X11_242 im_X11_counted se_X11_counted sR_0 rfl ⟨(Nat.le_of_ble_eq_true rfl), (Nat.le_of_ble_eq_true rfl)⟩ rfl rfl (Nat.le_of_ble_eq_true rfl)) rfl rfl rfl (Nat.zero_le _) (Nat.zero_le _) fun r7 h8 =>
    aw_aload_n (pc := 68) C (i := 0) dK_c_236.2.2.1 rfl rfl <|
    aw_callF (pc := 69) C (cr_V (rest := [.long r7]) (F := X11_allWays) C (c_X11_allWays X.2.1 ) dK_c_236.2.2.2.1 mf_X11_allWays ml_X11_246 im_X11_allWays se_X11_allWays sR_0 rfl ⟨(Nat.le_of_ble_eq_true rfl), (Nat.le_of_ble_eq_true rfl)⟩ rfl rfl (Nat.le_of_ble_eq_true rfl)) rfl rfl rfl (Nat.zero_le _) (Nat.zero_le _) fun r9 h10 =>
    aw_iload_n (pc := 72) C (i := 3) dK_c_236.2.2.2.2.1 rfl rfl <|
    aw_callF (pc := 73) C (cr_S (rest := []) (F := (X11_partOf r7 r9 v3)) C (c_X11_partOf X.2.1 r7 r9 v3) dK_c_236.2.2.2.2.2.1 mf_X11_partOf ml_X11_250 st_X11_partOf ⟨(Nat.le_of_ble_eq_true rfl), (Nat.le_of_ble_eq_true rfl)⟩ rfl rfl (Nat.le_of_ble_eq_true rfl)) rfl rfl rfl (Nat.zero_le _) (Nat.zero_le _) fun r11 h12 =>
    aw_lret (pc := 76) C dK_c_236.2.2.2.2.2.2.1 rfl rfl) (fun _ =>
    aw_aload_n (pc := 47) C (i := 0) dK_c_234.2.2.2.2.2.2.1 rfl rfl <|
    aw_iload (pc := 48) C (i := 4) dK_c_234.2.2.2.2.2.2.2.1 rfl <|
    aw_callF (pc := 50) C (cr_V (rest := []) (F := (X11_lowest v4)) C (c_X11_lowest X.2.1 v4) dK_c_235.1 mf_X11_lowest ml_X11_238 im_X11_lowest se_X11_lowest sR_0 rfl ⟨(Nat.le_of_ble_eq_true rfl), (Nat.le_of_ble_eq_true rfl)⟩ rfl rfl (Nat.le_of_ble_eq_true rfl)) rfl rfl rfl (Nat.zero_le _) (Nat.zero_le _) fun r13 h14 =>
    aw_goto (pc := 53) C (tgt := 76) dK_c_235.2.1 rfl <|
    aw_lret (pc := 76) C dK_c_236.2.2.2.2.2.2.1 rfl rfl)
def X11_off_j22  (v1 : Int32) (v2 : Int32) (v3 : Int32) (s0 : Int32) (h : AH) : Option (Int64 × AH) :=
    if s0 = 0 then (bd (X11_isIn v3 0 1 h) fun r15 h16 =>
    if r15 = 0 then (vl (-2) fun x17 =>
    X11_off_j42 v1 v2 v3 x17 h16)
    else (X11_off_j42 v1 v2 v3 s0 h16))
    else (X11_off_j42 v1 v2 v3 s0 h)
set_option maxRecDepth 100000 in
theorem aX11_off_j22 {X : MCx} {yd : Dyn} {A : Nat → Prop} (C : OK X cX11_off RX11 5 (some .long) rmX11_off A)  (v1 : Int32) (v2 : Int32) (v3 : Int32) (s0 : Int32) (h : AH) : AW X 5 ZR yd A 0 0 (QF X rmX11_off ZR yd rvL A) 22 [(0, .ref 0), (1, .int v1), (2, .int v2), (3, .int v3)] [.int s0] h (X11_off_j22 v1 v2 v3 s0 h) := by
    exact aw_istore (pc := 22) C (i := 4) (lv' := [(0, .ref 0), (1, .int v1), (2, .int v2), (3, .int v3), (4, .int s0)]) dK_c_233.2.2.1 (by decide) rfl <|
    aw_iload (pc := 24) C (i := 4) dK_c_233.2.2.2.1 rfl <|
    aw_if_ne (pc := 26) C (tgt := 42) dK_c_233.2.2.2.2.1 rfl (fun _ =>
    aw_iload_n (pc := 29) C (i := 3) dK_c_233.2.2.2.2.2.1 rfl rfl <|
    aw_iconst (pc := 30) C (v := 0) dK_c_233.2.2.2.2.2.2.1 rfl <|
    aw_iconst (pc := 31) C (v := 1) dK_c_233.2.2.2.2.2.2.2.1 rfl <|
    aw_callF (pc := 32) C (cr_S (rest := []) (F := (X11_isIn v3 0 1)) C (c_X11_isIn X.2.1 v3 0 1) dK_c_234.1 mf_X11_isIn ml_X11_126 st_X11_isIn ⟨(Nat.le_of_ble_eq_true rfl), (Nat.le_of_ble_eq_true rfl)⟩ rfl rfl (Nat.le_of_ble_eq_true rfl)) rfl rfl rfl (Nat.zero_le _) (Nat.zero_le _) fun r15 h16 =>
    aw_if_ne (pc := 35) C (tgt := 42) dK_c_234.2.1 rfl (fun _ =>
    aw_bipush (pc := 38) C (v := (-2)) dK_c_234.2.2.1 rfl <|
    aw_istoreV (pc := 40) C (i := 4) (fun x17 => [(0, .ref 0), (1, .int v1), (2, .int v2), (3, .int v3), (4, .int x17)]) dK_c_234.2.2.2.1 (by decide) (fun _ => rfl) fun x17 =>
    (aX11_off_j42 C v1 v2 v3 x17 h16)) (fun _ =>
    (aX11_off_j42 C v1 v2 v3 s0 h16))) (fun _ =>
    (aX11_off_j42 C v1 v2 v3 s0 h))
def X11_off (v1 : Int32) (v2 : Int32) (v3 : Int32) (h : AH) : Option (Int64 × AH) :=
    bd (X11_isJumper v1 h) fun r1 h2 =>
    if r1 = 0 then (X11_off_j22 v1 v2 v3 (-1) h2)
    else (bd (X11_bound v2 (-300) 300 h2) fun r3 h4 =>
    X11_off_j22 v1 v2 v3 r3 h4)
set_option maxRecDepth 100000 in
theorem c_X11_off (l : Launch) (v1 : Int32) (v2 : Int32) (v3 : Int32) : MC l yX11_off cX11_off 5 (some .long) rmX11_off ZR [.ref 0, .int v1, .int v2, .int v3] rvL (X11_off v1 v2 v3) :=
  MC.of (own := RX11) pn_RX11 rfl (Nat.le_of_ble_eq_true rfl) fun X yd A h _ C =>
    aw_aload_n (pc := 0) C (i := 0) dK_c_232.1 rfl rfl <|
    aw_iload_n (pc := 1) C (i := 1) dK_c_232.2.1 rfl rfl <|
    aw_callF (pc := 2) C (cr_V (rest := []) (F := (X11_isJumper v1)) C (c_X11_isJumper X.2.1 v1) dK_c_232.2.2.1 mf_X11_isJumper ml_X11_207 im_X11_isJumper se_X11_isJumper sR_0 rfl ⟨(Nat.le_of_ble_eq_true rfl), (Nat.le_of_ble_eq_true rfl)⟩ rfl rfl (Nat.le_of_ble_eq_true rfl)) rfl rfl rfl (Nat.zero_le _) (Nat.zero_le _) fun r1 h2 =>
    aw_if_ne (pc := 5) C (tgt := 12) dK_c_232.2.2.2.1 rfl (fun _ =>
    aw_iconst (pc := 8) C (v := (-1)) dK_c_232.2.2.2.2.1 rfl <|
    aw_goto (pc := 9) C (tgt := 22) dK_c_232.2.2.2.2.2.1 rfl <|
    (aX11_off_j22 C v1 v2 v3 (-1) h2)) (fun _ =>
    aw_iload_n (pc := 12) C (i := 2) dK_c_232.2.2.2.2.2.2.1 rfl rfl <|
    aw_sipush (pc := 13) C (v := (-300)) dK_c_232.2.2.2.2.2.2.2.1 rfl <|
    aw_sipush (pc := 16) C (v := 300) dK_c_233.1 rfl <|
    aw_callF (pc := 19) C (cr_S (rest := []) (F := (X11_bound v2 (-300) 300)) C (c_X11_bound X.2.1 v2 (-300) 300) dK_c_233.2.1 mf_X11_bound ml_X11_108 st_X11_bound ⟨(Nat.le_of_ble_eq_true rfl), (Nat.le_of_ble_eq_true rfl)⟩ rfl rfl (Nat.le_of_ble_eq_true rfl)) rfl rfl rfl (Nat.zero_le _) (Nat.zero_le _) fun r3 h4 =>
    (aX11_off_j22 C v1 v2 v3 r3 h4))
end
section
abbrev rmX11_meanParts : Room := { frames := 4, cells := 0, slots := 0, locals := 102 }
def X11_meanParts (v1 : Int32) (h : AH) : Option (Int64 × AH) :=
    bd (X11_placeOf v1 h) fun r1 h2 =>
    bd (X11_counted v1 r1 2 0 h2) fun r3 h4 =>
    some (r3, h4)
set_option maxRecDepth 100000 in
theorem c_X11_meanParts (l : Launch) (v1 : Int32) : MC l yX11_meanParts cX11_meanParts 2 (some .long) rmX11_meanParts ZR [.ref 0, .int v1] rvL (X11_meanParts v1) :=
  MC.of (own := RX11) pn_RX11 rfl (Nat.le_of_ble_eq_true rfl) fun X yd A h _ C =>
    aw_aload_n (pc := 0) C (i := 0) dK_c_237.1 rfl rfl <|
    aw_iload_n (pc := 1) C (i := 1) dK_c_237.2.1 rfl rfl <|
    aw_aload_n (pc := 2) C (i := 0) dK_c_237.2.2.1 rfl rfl <|
    aw_iload_n (pc := 3) C (i := 1) dK_c_237.2.2.2.1 rfl rfl <|
    aw_callF (pc := 4) C (cr_V (rest := [.int v1, .ref 0]) (F := (X11_placeOf v1)) C (c_X11_placeOf X.2.1 v1) dK_c_237.2.2.2.2.1 mf_X11_placeOf ml_X11_223 im_X11_placeOf se_X11_placeOf sR_0 rfl ⟨(Nat.le_of_ble_eq_true rfl), (Nat.le_of_ble_eq_true rfl)⟩ rfl rfl (Nat.le_of_ble_eq_true rfl)) rfl rfl rfl (Nat.zero_le _) (Nat.zero_le _) fun r1 h2 =>
    aw_iconst (pc := 7) C (v := 2) dK_c_237.2.2.2.2.2.1 rfl <|
    aw_iconst (pc := 8) C (v := 0) dK_c_237.2.2.2.2.2.2.1 rfl <|
    aw_callF (pc := 9) C (cr_V (rest := []) (F := (X11_counted v1 r1 2 0)) C (c_X11_counted X.2.1 v1 r1 2 0) dK_c_237.2.2.2.2.2.2.2.1 mf_X11_counted ml_X11_242 im_X11_counted se_X11_counted sR_0 rfl ⟨(Nat.le_of_ble_eq_true rfl), (Nat.le_of_ble_eq_true rfl)⟩ rfl rfl (Nat.le_of_ble_eq_true rfl)) rfl rfl rfl (Nat.zero_le _) (Nat.zero_le _) fun r3 h4 =>
    aw_lret (pc := 12) C dK_c_238.1 rfl rfl

abbrev rmX11_mean : Room := { frames := 5, cells := 0, slots := 0, locals := 123 }
def X11_mean_j32  (h : AH) : Option (Int64 × AH) :=
    bd (X11_lowest (-2) h) fun r5 h6 =>
    some (r5, h6)
set_option maxRecDepth 100000 in
theorem aX11_mean_j32 {X : MCx} {yd : Dyn} {A : Nat → Prop} (C : OK X cX11_mean RX11 4 (some .long) rmX11_mean A)  (h : AH) : AW X 4 ZR yd A 0 0 (QF X rmX11_mean ZR yd rvL A) 32 [(0, .ref 0)] [] h (X11_mean_j32 h) := by
    exact aw_aload_n (pc := 32) C (i := 0) dK_c_241.2.2.1 rfl rfl <|
    aw_bipush (pc := 33) C (v := (-2)) dK_c_241.2.2.2.1 rfl <|
    aw_callF (pc := 35) C (cr_V (rest := []) (F := (X11_lowest (-2))) C (c_X11_lowest X.2.1 (-2)) dK_c_241.2.2.2.2.1 mf_X11_lowest ml_X11_238 im_X11_lowest se_X11_lowest sR_0 rfl ⟨(Nat.le_of_ble_eq_true rfl), (Nat.le_of_ble_eq_true rfl)⟩ rfl rfl (Nat.le_of_ble_eq_true rfl)) rfl rfl rfl (Nat.zero_le _) (Nat.zero_le _) fun r5 h6 =>
    aw_lret (pc := 38) C dK_c_241.2.2.2.2.2.1 rfl rfl
def X11_mean_j63  (v3 : Int32) (s0 : Int64) (h : AH) : Option (Int64 × AH) :=
    bd (X11_allWays h) fun r11 h12 =>
    bd (X11_partOf s0 r11 v3 h12) fun r13 h14 =>
    some (r13, h14)
set_option maxRecDepth 100000 in
theorem aX11_mean_j63 {X : MCx} {yd : Dyn} {A : Nat → Prop} (C : OK X cX11_mean RX11 4 (some .long) rmX11_mean A)  (v3 : Int32) (s0 : Int64) (h : AH) : AW X 4 ZR yd A 0 0 (QF X rmX11_mean ZR yd rvL A) 63 [(0, .ref 0), (3, .int v3)] [.long s0] h (X11_mean_j63 v3 s0 h) := by
    exact aw_aload_n (pc := 63) C (i := 0) dK_c_243.2.2.2.2.1 rfl rfl <|
    aw_callF (pc := 64) C (cr_V (rest := [.long s0]) (F := X11_allWays) C (c_X11_allWays X.2.1 ) dK_c_243.2.2.2.2.2.1 mf_X11_allWays ml_X11_246 im_X11_allWays se_X11_allWays sR_0 rfl ⟨(Nat.le_of_ble_eq_true rfl), (Nat.le_of_ble_eq_true rfl)⟩ rfl rfl (Nat.le_of_ble_eq_true rfl)) rfl rfl rfl (Nat.zero_le _) (Nat.zero_le _) fun r11 h12 =>
    aw_iload_n (pc := 67) C (i := 3) dK_c_243.2.2.2.2.2.2.1 rfl rfl <|
    aw_callF (pc := 68) C (cr_S (rest := []) (F := (X11_partOf s0 r11 v3)) C (c_X11_partOf X.2.1 s0 r11 v3) dK_c_243.2.2.2.2.2.2.2.1 mf_X11_partOf ml_X11_250 st_X11_partOf ⟨(Nat.le_of_ble_eq_true rfl), (Nat.le_of_ble_eq_true rfl)⟩ rfl rfl (Nat.le_of_ble_eq_true rfl)) rfl rfl rfl (Nat.zero_le _) (Nat.zero_le _) fun r13 h14 =>
    aw_lret (pc := 71) C dK_c_244.1 rfl rfl
def X11_mean (v1 : Int32) (v2 : Int32) (v3 : Int32) (h : AH) : Option (Int64 × AH) :=
    bd (X11_isJumper v1 h) fun r1 h2 =>
    if r1 = 0 then (bd (X11_lowest (-1) h2) fun r19 h20 =>
    some (r19, h20))
    else (bd (X11_isIn v2 0 1 h2) fun r3 h4 =>
    if r3 = 0 then (X11_mean_j32 h4)
    else (bd (X11_isIn v3 0 1 h4) fun r7 h8 =>
    if r7 = 0 then (X11_mean_j32 h8)
    else (if v2 = 0 then (bd (X11_placeOf v1 h8) fun r15 h16 =>
    bd (X11_counted v1 r15 1 0 h16) fun r17 h18 =>
    X11_mean_j63 v3 r17 h18)
    else (bd (X11_meanParts v1 h8) fun r9 h10 =>
    X11_mean_j63 v3 r9 h10))))
set_option maxRecDepth 100000 in
theorem c_X11_mean (l : Launch) (v1 : Int32) (v2 : Int32) (v3 : Int32) : MC l yX11_mean cX11_mean 4 (some .long) rmX11_mean ZR [.ref 0, .int v1, .int v2, .int v3] rvL (X11_mean v1 v2 v3) :=
  MC.of (own := RX11) pn_RX11 rfl (Nat.le_of_ble_eq_true rfl) fun X yd A h _ C =>
    aw_aload_n (pc := 0) C (i := 0) dK_c_239.1 rfl rfl <|
    aw_iload_n (pc := 1) C (i := 1) dK_c_239.2.1 rfl rfl <|
    aw_callF (pc := 2) C (cr_V (rest := []) (F := (X11_isJumper v1)) C (c_X11_isJumper X.2.1 v1) dK_c_239.2.2.1 mf_X11_isJumper ml_X11_207 im_X11_isJumper se_X11_isJumper sR_0 rfl ⟨(Nat.le_of_ble_eq_true rfl), (Nat.le_of_ble_eq_true rfl)⟩ rfl rfl (Nat.le_of_ble_eq_true rfl)) rfl rfl rfl (Nat.zero_le _) (Nat.zero_le _) fun r1 h2 =>
    aw_if_ne (pc := 5) C (tgt := 14) dK_c_239.2.2.2.1 rfl (fun _ =>
    aw_aload_n (pc := 8) C (i := 0) dK_c_239.2.2.2.2.1 rfl rfl <|
    aw_iconst (pc := 9) C (v := (-1)) dK_c_239.2.2.2.2.2.1 rfl <|
    aw_callF (pc := 10) C (cr_V (rest := []) (F := (X11_lowest (-1))) C (c_X11_lowest X.2.1 (-1)) dK_c_239.2.2.2.2.2.2.1 mf_X11_lowest ml_X11_238 im_X11_lowest se_X11_lowest sR_0 rfl ⟨(Nat.le_of_ble_eq_true rfl), (Nat.le_of_ble_eq_true rfl)⟩ rfl rfl (Nat.le_of_ble_eq_true rfl)) rfl rfl rfl (Nat.zero_le _) (Nat.zero_le _) fun r19 h20 =>
    aw_lret (pc := 13) C dK_c_239.2.2.2.2.2.2.2.1 rfl rfl) (fun _ =>
    aw_iload_n (pc := 14) C (i := 2) dK_c_240.1 rfl rfl <|
    aw_iconst (pc := 15) C (v := 0) dK_c_240.2.1 rfl <|
    aw_iconst (pc := 16) C (v := 1) dK_c_240.2.2.1 rfl <|
    aw_callF (pc := 17) C (cr_S (rest := []) (F := (X11_isIn v2 0 1)) C (c_X11_isIn X.2.1 v2 0 1) dK_c_240.2.2.2.1 mf_X11_isIn ml_X11_126 st_X11_isIn ⟨(Nat.le_of_ble_eq_true rfl), (Nat.le_of_ble_eq_true rfl)⟩ rfl rfl (Nat.le_of_ble_eq_true rfl)) rfl rfl rfl (Nat.zero_le _) (Nat.zero_le _) fun r3 h4 =>
    aw_if_eq (pc := 20) C (tgt := 32) dK_c_240.2.2.2.2.1 rfl (fun _ =>
    aw_drop [0] (aX11_mean_j32 C h4)) (fun _ =>
    aw_iload_n (pc := 23) C (i := 3) dK_c_240.2.2.2.2.2.1 rfl rfl <|
    aw_iconst (pc := 24) C (v := 0) dK_c_240.2.2.2.2.2.2.1 rfl <|
    aw_iconst (pc := 25) C (v := 1) dK_c_240.2.2.2.2.2.2.2.1 rfl <|
    aw_callF (pc := 26) C (cr_S (rest := []) (F := (X11_isIn v3 0 1)) C (c_X11_isIn X.2.1 v3 0 1) dK_c_241.1 mf_X11_isIn ml_X11_126 st_X11_isIn ⟨(Nat.le_of_ble_eq_true rfl), (Nat.le_of_ble_eq_true rfl)⟩ rfl rfl (Nat.le_of_ble_eq_true rfl)) rfl rfl rfl (Nat.zero_le _) (Nat.zero_le _) fun r7 h8 =>
    aw_if_ne (pc := 29) C (tgt := 39) dK_c_241.2.1 rfl (fun _ =>
    aw_drop [0] (aX11_mean_j32 C h8)) (fun _ =>
    aw_iload_n (pc := 39) C (i := 2) dK_c_241.2.2.2.2.2.2.1 rfl rfl <|
    aw_if_ne (pc := 40) C (tgt := 58) dK_c_241.2.2.2.2.2.2.2.1 rfl (fun _ =>
    aw_aload_n (pc := 43) C (i := 0) dK_c_242.1 rfl rfl <|
    aw_iload_n (pc := 44) C (i := 1) dK_c_242.2.1 rfl rfl <|
    aw_aload_n (pc := 45) C (i := 0) dK_c_242.2.2.1 rfl rfl <|
    aw_iload_n (pc := 46) C (i := 1) dK_c_242.2.2.2.1 rfl rfl <|
    aw_callF (pc := 47) C (cr_V (rest := [.int v1, .ref 0]) (F := (X11_placeOf v1)) C (c_X11_placeOf X.2.1 v1) dK_c_242.2.2.2.2.1 mf_X11_placeOf ml_X11_223 im_X11_placeOf se_X11_placeOf sR_0 rfl ⟨(Nat.le_of_ble_eq_true rfl), (Nat.le_of_ble_eq_true rfl)⟩ rfl rfl (Nat.le_of_ble_eq_true rfl)) rfl rfl rfl (Nat.zero_le _) (Nat.zero_le _) fun r15 h16 =>
    aw_iconst (pc := 50) C (v := 1) dK_c_242.2.2.2.2.2.1 rfl <|
    aw_iconst (pc := 51) C (v := 0) dK_c_242.2.2.2.2.2.2.1 rfl <|
    aw_callF (pc := 52) C (cr_V (rest := []) (F := (X11_counted v1 r15 1 0)) C (c_X11_counted X.2.1 v1 r15 1 0) dK_c_242.2.2.2.2.2.2.2.1 mf_X11_counted ml_X11_242 im_X11_counted se_X11_counted sR_0 rfl ⟨(Nat.le_of_ble_eq_true rfl), (Nat.le_of_ble_eq_true rfl)⟩ rfl rfl (Nat.le_of_ble_eq_true rfl)) rfl rfl rfl (Nat.zero_le _) (Nat.zero_le _) fun r17 h18 =>
    aw_goto (pc := 55) C (tgt := 63) dK_c_243.1 rfl <|
    aw_drop [0, 3] (aX11_mean_j63 C v3 r17 h18)) (fun _ =>
    aw_aload_n (pc := 58) C (i := 0) dK_c_243.2.1 rfl rfl <|
    aw_iload_n (pc := 59) C (i := 1) dK_c_243.2.2.1 rfl rfl <|
    aw_callF (pc := 60) C (cr_V (rest := []) (F := (X11_meanParts v1)) C (c_X11_meanParts X.2.1 v1) dK_c_243.2.2.2.1 mf_X11_meanParts ml_X11_254 im_X11_meanParts se_X11_meanParts sR_0 rfl ⟨(Nat.le_of_ble_eq_true rfl), (Nat.le_of_ble_eq_true rfl)⟩ rfl rfl (Nat.le_of_ble_eq_true rfl)) rfl rfl rfl (Nat.zero_le _) (Nat.zero_le _) fun r9 h10 =>
    aw_drop [0, 3] (aX11_mean_j63 C v3 r9 h10)))))

abbrev rmX11_past : Room := { frames := 4, cells := 0, slots := 0, locals := 102 }
def X11_past_j40  (v1 : Int32) (v2 : Int32) (v3 : Int32) (v4 : Int32) (h : AH) : Option (Int64 × AH) :=
    if v4 = 0 then (bd (X11_placeOf v1 h) fun r5 h6 =>
    bd (X11_counted v1 r5 3 v2 h6) fun r7 h8 =>
    bd (X11_allWays h8) fun r9 h10 =>
    bd (X11_partOf r7 r9 v3 h10) fun r11 h12 =>
    some (r11, h12))
    else (bd (X11_lowest v4 h) fun r13 h14 =>
    some (r13, h14))
set_option maxRecDepth 100000 in
theorem aX11_past_j40 {X : MCx} {yd : Dyn} {A : Nat → Prop} (C : OK X cX11_past RX11 5 (some .long) rmX11_past A)  (v1 : Int32) (v2 : Int32) (v3 : Int32) (v4 : Int32) (h : AH) : AW X 5 ZR yd A 0 0 (QF X rmX11_past ZR yd rvL A) 40 [(0, .ref 0), (1, .int v1), (2, .int v2), (3, .int v3), (4, .int v4)] [] h (X11_past_j40 v1 v2 v3 v4 h) := by
    exact aw_iload (pc := 40) C (i := 4) dK_c_247.2.2.2.2.1 rfl <|
    aw_if_eq (pc := 42) C (tgt := 54) dK_c_247.2.2.2.2.2.1 rfl (fun _ =>
    aw_aload_n (pc := 54) C (i := 0) dK_c_248.2.2.1 rfl rfl <|
    aw_iload_n (pc := 55) C (i := 1) dK_c_248.2.2.2.1 rfl rfl <|
    aw_aload_n (pc := 56) C (i := 0) dK_c_248.2.2.2.2.1 rfl rfl <|
    aw_iload_n (pc := 57) C (i := 1) dK_c_248.2.2.2.2.2.1 rfl rfl <|
    aw_callF (pc := 58) C (cr_V (rest := [.int v1, .ref 0]) (F := (X11_placeOf v1)) C (c_X11_placeOf X.2.1 v1) dK_c_248.2.2.2.2.2.2.1 mf_X11_placeOf ml_X11_223 im_X11_placeOf se_X11_placeOf sR_0 rfl ⟨(Nat.le_of_ble_eq_true rfl), (Nat.le_of_ble_eq_true rfl)⟩ rfl rfl (Nat.le_of_ble_eq_true rfl)) rfl rfl rfl (Nat.zero_le _) (Nat.zero_le _) fun r5 h6 =>
    aw_iconst (pc := 61) C (v := 3) dK_c_248.2.2.2.2.2.2.2.1 rfl <|
    aw_iload_n (pc := 62) C (i := 2) dK_c_249.1 rfl rfl <|
    aw_callF (pc := 63) C (cr_V (rest := []) (F := (X11_counted v1 r5 3 v2)) C (c_X11_counted X.2.1 v1 r5 3 v2) dK_c_249.2.1 mf_X11_counted ml_X11_242 im_X11_counted se_X11_counted sR_0 rfl ⟨(Nat.le_of_ble_eq_true rfl), (Nat.le_of_ble_eq_true rfl)⟩ rfl rfl (Nat.le_of_ble_eq_true rfl)) rfl rfl rfl (Nat.zero_le _) (Nat.zero_le _) fun r7 h8 =>
    aw_aload_n (pc := 66) C (i := 0) dK_c_249.2.2.1 rfl rfl <|
    aw_callF (pc := 67) C (cr_V (rest := [.long r7]) (F := X11_allWays) C (c_X11_allWays X.2.1 ) dK_c_249.2.2.2.1 mf_X11_allWays ml_X11_246 im_X11_allWays se_X11_allWays sR_0 rfl ⟨(Nat.le_of_ble_eq_true rfl), (Nat.le_of_ble_eq_true rfl)⟩ rfl rfl (Nat.le_of_ble_eq_true rfl)) rfl rfl rfl (Nat.zero_le _) (Nat.zero_le _) fun r9 h10 =>
    aw_iload_n (pc := 70) C (i := 3) dK_c_249.2.2.2.2.1 rfl rfl <|
    aw_callF (pc := 71) C (cr_S (rest := []) (F := (X11_partOf r7 r9 v3)) C (c_X11_partOf X.2.1 r7 r9 v3) dK_c_249.2.2.2.2.2.1 mf_X11_partOf ml_X11_250 st_X11_partOf ⟨(Nat.le_of_ble_eq_true rfl), (Nat.le_of_ble_eq_true rfl)⟩ rfl rfl (Nat.le_of_ble_eq_true rfl)) rfl rfl rfl (Nat.zero_le _) (Nat.zero_le _) fun r11 h12 =>
    aw_lret (pc := 74) C dK_c_249.2.2.2.2.2.2.1 rfl rfl) (fun _ =>
    aw_aload_n (pc := 45) C (i := 0) dK_c_247.2.2.2.2.2.2.1 rfl rfl <|
    aw_iload (pc := 46) C (i := 4) dK_c_247.2.2.2.2.2.2.2.1 rfl <|
    aw_callF (pc := 48) C (cr_V (rest := []) (F := (X11_lowest v4)) C (c_X11_lowest X.2.1 v4) dK_c_248.1 mf_X11_lowest ml_X11_238 im_X11_lowest se_X11_lowest sR_0 rfl ⟨(Nat.le_of_ble_eq_true rfl), (Nat.le_of_ble_eq_true rfl)⟩ rfl rfl (Nat.le_of_ble_eq_true rfl)) rfl rfl rfl (Nat.zero_le _) (Nat.zero_le _) fun r13 h14 =>
    aw_goto (pc := 51) C (tgt := 74) dK_c_248.2.1 rfl <|
    aw_lret (pc := 74) C dK_c_249.2.2.2.2.2.2.1 rfl rfl)
def X11_past_j20  (v1 : Int32) (v2 : Int32) (v3 : Int32) (s0 : Int32) (h : AH) : Option (Int64 × AH) :=
    if s0 = 0 then (bd (X11_isIn v3 0 1 h) fun r15 h16 =>
    if r15 = 0 then (vl (-2) fun x17 =>
    X11_past_j40 v1 v2 v3 x17 h16)
    else (X11_past_j40 v1 v2 v3 s0 h16))
    else (X11_past_j40 v1 v2 v3 s0 h)
set_option maxRecDepth 100000 in
theorem aX11_past_j20 {X : MCx} {yd : Dyn} {A : Nat → Prop} (C : OK X cX11_past RX11 5 (some .long) rmX11_past A)  (v1 : Int32) (v2 : Int32) (v3 : Int32) (s0 : Int32) (h : AH) : AW X 5 ZR yd A 0 0 (QF X rmX11_past ZR yd rvL A) 20 [(0, .ref 0), (1, .int v1), (2, .int v2), (3, .int v3)] [.int s0] h (X11_past_j20 v1 v2 v3 s0 h) := by
    exact aw_istore (pc := 20) C (i := 4) (lv' := [(0, .ref 0), (1, .int v1), (2, .int v2), (3, .int v3), (4, .int s0)]) dK_c_246.2.2.1 (by decide) rfl <|
    aw_iload (pc := 22) C (i := 4) dK_c_246.2.2.2.1 rfl <|
    aw_if_ne (pc := 24) C (tgt := 40) dK_c_246.2.2.2.2.1 rfl (fun _ =>
    aw_iload_n (pc := 27) C (i := 3) dK_c_246.2.2.2.2.2.1 rfl rfl <|
    aw_iconst (pc := 28) C (v := 0) dK_c_246.2.2.2.2.2.2.1 rfl <|
    aw_iconst (pc := 29) C (v := 1) dK_c_246.2.2.2.2.2.2.2.1 rfl <|
    aw_callF (pc := 30) C (cr_S (rest := []) (F := (X11_isIn v3 0 1)) C (c_X11_isIn X.2.1 v3 0 1) dK_c_247.1 mf_X11_isIn ml_X11_126 st_X11_isIn ⟨(Nat.le_of_ble_eq_true rfl), (Nat.le_of_ble_eq_true rfl)⟩ rfl rfl (Nat.le_of_ble_eq_true rfl)) rfl rfl rfl (Nat.zero_le _) (Nat.zero_le _) fun r15 h16 =>
    aw_if_ne (pc := 33) C (tgt := 40) dK_c_247.2.1 rfl (fun _ =>
    aw_bipush (pc := 36) C (v := (-2)) dK_c_247.2.2.1 rfl <|
    aw_istoreV (pc := 38) C (i := 4) (fun x17 => [(0, .ref 0), (1, .int v1), (2, .int v2), (3, .int v3), (4, .int x17)]) dK_c_247.2.2.2.1 (by decide) (fun _ => rfl) fun x17 =>
    (aX11_past_j40 C v1 v2 v3 x17 h16)) (fun _ =>
    (aX11_past_j40 C v1 v2 v3 s0 h16))) (fun _ =>
    (aX11_past_j40 C v1 v2 v3 s0 h))
def X11_past (v1 : Int32) (v2 : Int32) (v3 : Int32) (h : AH) : Option (Int64 × AH) :=
    bd (X11_isJumper v1 h) fun r1 h2 =>
    if r1 = 0 then (X11_past_j20 v1 v2 v3 (-1) h2)
    else (bd (X11_bound v2 0 999 h2) fun r3 h4 =>
    X11_past_j20 v1 v2 v3 r3 h4)
set_option maxRecDepth 100000 in
theorem c_X11_past (l : Launch) (v1 : Int32) (v2 : Int32) (v3 : Int32) : MC l yX11_past cX11_past 5 (some .long) rmX11_past ZR [.ref 0, .int v1, .int v2, .int v3] rvL (X11_past v1 v2 v3) :=
  MC.of (own := RX11) pn_RX11 rfl (Nat.le_of_ble_eq_true rfl) fun X yd A h _ C =>
    aw_aload_n (pc := 0) C (i := 0) dK_c_245.1 rfl rfl <|
    aw_iload_n (pc := 1) C (i := 1) dK_c_245.2.1 rfl rfl <|
    aw_callF (pc := 2) C (cr_V (rest := []) (F := (X11_isJumper v1)) C (c_X11_isJumper X.2.1 v1) dK_c_245.2.2.1 mf_X11_isJumper ml_X11_207 im_X11_isJumper se_X11_isJumper sR_0 rfl ⟨(Nat.le_of_ble_eq_true rfl), (Nat.le_of_ble_eq_true rfl)⟩ rfl rfl (Nat.le_of_ble_eq_true rfl)) rfl rfl rfl (Nat.zero_le _) (Nat.zero_le _) fun r1 h2 =>
    aw_if_ne (pc := 5) C (tgt := 12) dK_c_245.2.2.2.1 rfl (fun _ =>
    aw_iconst (pc := 8) C (v := (-1)) dK_c_245.2.2.2.2.1 rfl <|
    aw_goto (pc := 9) C (tgt := 20) dK_c_245.2.2.2.2.2.1 rfl <|
    (aX11_past_j20 C v1 v2 v3 (-1) h2)) (fun _ =>
    aw_iload_n (pc := 12) C (i := 2) dK_c_245.2.2.2.2.2.2.1 rfl rfl <|
    aw_iconst (pc := 13) C (v := 0) dK_c_245.2.2.2.2.2.2.2.1 rfl <|
    aw_sipush (pc := 14) C (v := 999) dK_c_246.1 rfl <|
    aw_callF (pc := 17) C (cr_S (rest := []) (F := (X11_bound v2 0 999)) C (c_X11_bound X.2.1 v2 0 999) dK_c_246.2.1 mf_X11_bound ml_X11_108 st_X11_bound ⟨(Nat.le_of_ble_eq_true rfl), (Nat.le_of_ble_eq_true rfl)⟩ rfl rfl (Nat.le_of_ble_eq_true rfl)) rfl rfl rfl (Nat.zero_le _) (Nat.zero_le _) fun r3 h4 =>
    (aX11_past_j20 C v1 v2 v3 r3 h4))

abbrev rmX11_bestLook : Room := { frames := 5, cells := 0, slots := 0, locals := 123 }
def X11_bestLook_j70  (v1 : Int32) (v2 : Int32) (v3 : Int32) (v4 : Int64) (v6 : Int32) (K31 : Int32 → Int64 → Int32 → AH → Option (Int32 × AH)) (h : AH) : Option (Int32 × AH) :=
    vl (v6 + 1) fun x9 =>
    K31 v3 v4 x9 h
set_option maxRecDepth 100000 in
theorem aX11_bestLook_j70 {X : MCx} {yd : Dyn} {A : Nat → Prop} (C : OK X cX11_bestLook RX11 9 (some .int) rmX11_bestLook A)  (v1 : Int32) (v2 : Int32) (v3 : Int32) (v4 : Int64) (v6 : Int32) (K31 : Int32 → Int64 → Int32 → AH → Option (Int32 × AH)) (hK31 : ∀ (w3 : Int32) (w4 : Int64) (w6 : Int32) (h : AH), AW X 9 ZR yd A 0 0 (QF X rmX11_bestLook ZR yd rvI A) 31 [(0, .ref 0), (1, .int v1), (2, .int v2), (3, .int w3), (4, .long w4), (6, .int w6)] [] h (K31 w3 w4 w6 h)) (h : AH) : AW X 9 ZR yd A 0 0 (QF X rmX11_bestLook ZR yd rvI A) 70 [(0, .ref 0), (1, .int v1), (2, .int v2), (3, .int v3), (4, .long v4), (6, .int v6)] [] h (X11_bestLook_j70 v1 v2 v3 v4 v6 K31 h) := by
    exact aw_iincV (pc := 70) C (i := 6) (cst := 1) (fun x9 => [(0, .ref 0), (1, .int v1), (2, .int v2), (3, .int v3), (4, .long v4), (6, .int x9)]) dK_c_255.1 rfl rfl (by decide) (fun _ => rfl) fun x9 =>
    aw_goto (pc := 73) C (tgt := 31) dK_c_255.2.1 rfl <|
    (hK31 v3 v4 x9 h)
def X11_bestLook_l31  (v1 : Int32) (v2 : Int32) : Nat → Int32 → Int64 → Int32 → AH → Option (Int32 × AH)
  | 0, _, _, _, _ => none
  | n + 1, v3, v4, v6, h =>
    if 5 ≤ v6 then (ck v1 4 (vl (sI h 8 v1.toNatClampNeg v2) fun h5 =>
    some (v3, h5)))
    else (ck v1 4 (vl (sI h 8 v1.toNatClampNeg v6) fun h6 =>
    bd (X11_meanParts v1 h6) fun r7 h8 =>
    if 0 < (lcmpV r7 v4) then (X11_bestLook_j70 v1 v2 v6 r7 v6 (X11_bestLook_l31 v1 v2 n) h8)
    else (X11_bestLook_j70 v1 v2 v3 v4 v6 (X11_bestLook_l31 v1 v2 n) h8)))
set_option maxRecDepth 100000 in
theorem aX11_bestLook_l31 {X : MCx} {yd : Dyn} {A : Nat → Prop} (C : OK X cX11_bestLook RX11 9 (some .int) rmX11_bestLook A)  (v1 : Int32) (v2 : Int32) : ∀ (n : Nat) (v3 : Int32) (v4 : Int64) (v6 : Int32) (h : AH), AW X 9 ZR yd A 0 0 (QF X rmX11_bestLook ZR yd rvI A) 31 [(0, .ref 0), (1, .int v1), (2, .int v2), (3, .int v3), (4, .long v4), (6, .int v6)] [] h (X11_bestLook_l31 v1 v2 n v3 v4 v6 h) := by
  intro n
  induction n with
  | zero => intro v3 v4 v6 h; exact aw_none
  | succ n ih =>
    intro v3 v4 v6 h
    exact aw_iload (pc := 31) C (i := 6) dK_c_252.2.2.2.1 rfl <|
    aw_iconst (pc := 33) C (v := 5) dK_c_252.2.2.2.2.1 rfl <|
    aw_icmp_ge (pc := 34) C (tgt := 76) dK_c_252.2.2.2.2.2.1 rfl (fun _ =>
    aw_aload_n (pc := 76) C (i := 0) dK_c_255.2.2.1 rfl rfl <|
    aw_getR (pc := 77) C (b := 8) dK_c_255.2.2.2.1 fl_X11_31 sR_0 rfl rR_0_7 <|
    aw_iload_n (pc := 80) C (i := 1) dK_c_255.2.2.2.2.1 rfl rfl <|
    aw_iload_n (pc := 81) C (i := 2) dK_c_255.2.2.2.2.2.1 rfl rfl <|
    aw_iast (pc := 82) C dK_c_255.2.2.2.2.2.2.1 sR_8 rfl fun h5 =>
    aw_iload_n (pc := 83) C (i := 3) dK_c_255.2.2.2.2.2.2.2.1 rfl rfl <|
    aw_iret (pc := 84) C dK_c_256.1 rfl rfl) (fun _ =>
    aw_aload_n (pc := 37) C (i := 0) dK_c_252.2.2.2.2.2.2.1 rfl rfl <|
    aw_getR (pc := 38) C (b := 8) dK_c_252.2.2.2.2.2.2.2.1 fl_X11_31 sR_0 rfl rR_0_7 <|
    aw_iload_n (pc := 41) C (i := 1) dK_c_253.1 rfl rfl <|
    aw_iload (pc := 42) C (i := 6) dK_c_253.2.1 rfl <|
    aw_iast (pc := 44) C dK_c_253.2.2.1 sR_8 rfl fun h6 =>
    aw_aload_n (pc := 45) C (i := 0) dK_c_253.2.2.2.1 rfl rfl <|
    aw_iload_n (pc := 46) C (i := 1) dK_c_253.2.2.2.2.1 rfl rfl <|
    aw_callF (pc := 47) C (cr_V (rest := []) (F := (X11_meanParts v1)) C (c_X11_meanParts X.2.1 v1) dK_c_253.2.2.2.2.2.1 mf_X11_meanParts ml_X11_254 im_X11_meanParts se_X11_meanParts sR_0 rfl ⟨(Nat.le_of_ble_eq_true rfl), (Nat.le_of_ble_eq_true rfl)⟩ rfl rfl (Nat.le_of_ble_eq_true rfl)) rfl rfl rfl (Nat.zero_le _) (Nat.zero_le _) fun r7 h8 =>
    aw_lstore (pc := 50) C (i := 7) (lv' := [(0, .ref 0), (1, .int v1), (2, .int v2), (3, .int v3), (4, .long v4), (6, .int v6), (7, .long r7)]) dK_c_253.2.2.2.2.2.2.1 (by decide) rfl <|
    aw_lload (pc := 52) C (i := 7) dK_c_253.2.2.2.2.2.2.2.1 rfl <|
    aw_lload (pc := 54) C (i := 4) dK_c_254.1 rfl <|
    aw_lcmp (pc := 56) C dK_c_254.2.1 <|
    aw_if_gt (pc := 57) C (tgt := 63) dK_c_254.2.2.1 rfl (fun _ =>
    aw_iload (pc := 63) C (i := 6) dK_c_254.2.2.2.2.1 rfl <|
    aw_istore_n (pc := 65) C (i := 3) (lv' := [(0, .ref 0), (1, .int v1), (2, .int v2), (3, .int v6), (4, .long v4), (6, .int v6), (7, .long r7)]) dK_c_254.2.2.2.2.2.1 rfl (by decide) rfl <|
    aw_lload (pc := 66) C (i := 7) dK_c_254.2.2.2.2.2.2.1 rfl <|
    aw_lstore (pc := 68) C (i := 4) (lv' := [(0, .ref 0), (1, .int v1), (2, .int v2), (3, .int v6), (4, .long r7), (6, .int v6), (7, .long r7)]) dK_c_254.2.2.2.2.2.2.2.1 (by decide) rfl <|
    aw_drop [0, 1, 2, 3, 4, 5] (aX11_bestLook_j70 C v1 v2 v6 r7 v6 (X11_bestLook_l31 v1 v2 n) ih h8)) (fun _ =>
    aw_goto (pc := 60) C (tgt := 70) dK_c_254.2.2.2.1 rfl <|
    aw_drop [0, 1, 2, 3, 4, 5] (aX11_bestLook_j70 C v1 v2 v3 v4 v6 (X11_bestLook_l31 v1 v2 n) ih h8)))
def X11_bestLook (v1 : Int32) (h : AH) : Option (Int32 × AH) :=
    bd (X11_isJumper v1 h) fun r1 h2 =>
    if r1 = 0 then (bd (X11_no (-1) h2) fun r10 h11 =>
    some (r10, h11))
    else (ck v1 4 (vl (h2.1 8 v1.toNatClampNeg) fun x3 =>
    vl (-1) fun x4 =>
    X11_bestLook_l31 v1 x3 FU 0 x4 0 h2))
set_option maxRecDepth 100000 in
theorem c_X11_bestLook (l : Launch) (v1 : Int32) : MC l yX11_bestLook cX11_bestLook 9 (some .int) rmX11_bestLook ZR [.ref 0, .int v1] rvI (X11_bestLook v1) :=
  MC.of (own := RX11) pn_RX11 rfl (Nat.le_of_ble_eq_true rfl) fun X yd A h _ C =>
    aw_aload_n (pc := 0) C (i := 0) dK_c_250.1 rfl rfl <|
    aw_iload_n (pc := 1) C (i := 1) dK_c_250.2.1 rfl rfl <|
    aw_callF (pc := 2) C (cr_V (rest := []) (F := (X11_isJumper v1)) C (c_X11_isJumper X.2.1 v1) dK_c_250.2.2.1 mf_X11_isJumper ml_X11_207 im_X11_isJumper se_X11_isJumper sR_0 rfl ⟨(Nat.le_of_ble_eq_true rfl), (Nat.le_of_ble_eq_true rfl)⟩ rfl rfl (Nat.le_of_ble_eq_true rfl)) rfl rfl rfl (Nat.zero_le _) (Nat.zero_le _) fun r1 h2 =>
    aw_if_ne (pc := 5) C (tgt := 14) dK_c_250.2.2.2.1 rfl (fun _ =>
    aw_aload_n (pc := 8) C (i := 0) dK_c_250.2.2.2.2.1 rfl rfl <|
    aw_iconst (pc := 9) C (v := (-1)) dK_c_250.2.2.2.2.2.1 rfl <|
    aw_callF (pc := 10) C (cr_V (rest := []) (F := (X11_no (-1))) C (c_X11_no X.2.1 (-1)) dK_c_250.2.2.2.2.2.2.1 mf_X11_no ml_X11_115 im_X11_no se_X11_no sR_0 rfl ⟨(Nat.le_of_ble_eq_true rfl), (Nat.le_of_ble_eq_true rfl)⟩ rfl rfl (Nat.le_of_ble_eq_true rfl)) rfl rfl rfl (Nat.zero_le _) (Nat.zero_le _) fun r10 h11 =>
    aw_iret (pc := 13) C dK_c_250.2.2.2.2.2.2.2.1 rfl rfl) (fun _ =>
    aw_aload_n (pc := 14) C (i := 0) dK_c_251.1 rfl rfl <|
    aw_getR (pc := 15) C (b := 8) dK_c_251.2.1 fl_X11_31 sR_0 rfl rR_0_7 <|
    aw_iload_n (pc := 18) C (i := 1) dK_c_251.2.2.1 rfl rfl <|
    aw_iald (pc := 19) C dK_c_251.2.2.2.1 sR_8 rfl <|
    aw_istoreV_n (pc := 20) C (i := 2) (fun x3 => [(0, .ref 0), (1, .int v1), (2, .int x3)]) dK_c_251.2.2.2.2.1 rfl (by decide) (fun _ => rfl) fun x3 =>
    aw_iconst (pc := 21) C (v := 0) dK_c_251.2.2.2.2.2.1 rfl <|
    aw_istore_n (pc := 22) C (i := 3) (lv' := [(0, .ref 0), (1, .int v1), (2, .int x3), (3, .int 0)]) dK_c_251.2.2.2.2.2.2.1 rfl (by decide) rfl <|
    aw_ldc2_w (pc := 23) C (v := (-1)) dK_c_251.2.2.2.2.2.2.2.1 kc_X11_257 <|
    aw_lstoreV (pc := 26) C (i := 4) (fun x4 => [(0, .ref 0), (1, .int v1), (2, .int x3), (3, .int 0), (4, .long x4)]) dK_c_252.1 (by decide) (fun _ => rfl) fun x4 =>
    aw_iconst (pc := 28) C (v := 0) dK_c_252.2.1 rfl <|
    aw_istore (pc := 29) C (i := 6) (lv' := [(0, .ref 0), (1, .int v1), (2, .int x3), (3, .int 0), (4, .long x4), (6, .int 0)]) dK_c_252.2.2.1 (by decide) rfl <|
    (aX11_bestLook_l31 C v1 x3 FU 0 x4 0 h2))

abbrev rmX11_bestMark : Room := { frames := 4, cells := 0, slots := 0, locals := 102 }
def X11_bestMark_j143  (v1 : Int32) (v2 : Int32) (v4 : Int32) (v5 : Int32) (v6 : Int64) (v8 : Int32) (K51 : Int32 → Int64 → Int32 → AH → Option (Int32 × AH)) (h : AH) : Option (Int32 × AH) :=
    vl (v8 + 1) fun x15 =>
    K51 v5 v6 x15 h
set_option maxRecDepth 100000 in
theorem aX11_bestMark_j143 {X : MCx} {yd : Dyn} {A : Nat → Prop} (C : OK X cX11_bestMark RX11 11 (some .int) rmX11_bestMark A)  (v1 : Int32) (v2 : Int32) (v4 : Int32) (v5 : Int32) (v6 : Int64) (v8 : Int32) (K51 : Int32 → Int64 → Int32 → AH → Option (Int32 × AH)) (hK51 : ∀ (w5 : Int32) (w6 : Int64) (w8 : Int32) (h : AH), AW X 11 ZR yd A 0 0 (QF X rmX11_bestMark ZR yd rvI A) 51 [(0, .ref 0), (1, .int v1), (2, .int v2), (4, .int v4), (5, .int w5), (6, .long w6), (8, .int w8)] [] h (K51 w5 w6 w8 h)) (h : AH) : AW X 11 ZR yd A 0 0 (QF X rmX11_bestMark ZR yd rvI A) 143 [(0, .ref 0), (1, .int v1), (2, .int v2), (4, .int v4), (5, .int v5), (6, .long v6), (8, .int v8)] [] h (X11_bestMark_j143 v1 v2 v4 v5 v6 v8 K51 h) := by
    exact aw_iincV (pc := 143) C (i := 8) (cst := 1) (fun x15 => [(0, .ref 0), (1, .int v1), (2, .int v2), (4, .int v4), (5, .int v5), (6, .long v6), (8, .int x15)]) dK_c_266.2.2.2.2.1 rfl rfl (by decide) (fun _ => rfl) fun x15 =>
    aw_goto (pc := 146) C (tgt := 51) dK_c_266.2.2.2.2.2.1 rfl <|
    (hK51 v5 v6 x15 h)
def X11_bestMark_j114  (v1 : Int32) (v2 : Int32) (v4 : Int32) (v5 : Int32) (v6 : Int64) (v8 : Int32) (K51 : Int32 → Int64 → Int32 → AH → Option (Int32 × AH)) (s0 : Int32) (s1 : Int32) (s2 : Int32) (h : AH) : Option (Int32 × AH) :=
    bd (X11_counted s2 s1 s0 v2 h) fun r12 h13 =>
    if 0 < (lcmpV r12 v6) then (ck v1 4 (vl (h13.1 9 v1.toNatClampNeg) fun x14 =>
    X11_bestMark_j143 v1 v2 v4 x14 r12 v8 K51 h13))
    else (X11_bestMark_j143 v1 v2 v4 v5 v6 v8 K51 h13)
set_option maxRecDepth 100000 in
theorem aX11_bestMark_j114 {X : MCx} {yd : Dyn} {A : Nat → Prop} (C : OK X cX11_bestMark RX11 11 (some .int) rmX11_bestMark A)  (v1 : Int32) (v2 : Int32) (v4 : Int32) (v5 : Int32) (v6 : Int64) (v8 : Int32) (K51 : Int32 → Int64 → Int32 → AH → Option (Int32 × AH)) (hK51 : ∀ (w5 : Int32) (w6 : Int64) (w8 : Int32) (h : AH), AW X 11 ZR yd A 0 0 (QF X rmX11_bestMark ZR yd rvI A) 51 [(0, .ref 0), (1, .int v1), (2, .int v2), (4, .int v4), (5, .int w5), (6, .long w6), (8, .int w8)] [] h (K51 w5 w6 w8 h)) (s0 : Int32) (s1 : Int32) (s2 : Int32) (h : AH) : AW X 11 ZR yd A 0 0 (QF X rmX11_bestMark ZR yd rvI A) 114 [(0, .ref 0), (1, .int v1), (2, .int v2), (4, .int v4), (5, .int v5), (6, .long v6), (8, .int v8)] [.int s0, .int s1, .int s2, .ref 0] h (X11_bestMark_j114 v1 v2 v4 v5 v6 v8 K51 s0 s1 s2 h) := by
    exact aw_iload_n (pc := 114) C (i := 2) dK_c_264.2.2.2.2.2.1 rfl rfl <|
    aw_callF (pc := 115) C (cr_V (rest := []) (F := (X11_counted s2 s1 s0 v2)) C (c_X11_counted X.2.1 s2 s1 s0 v2) dK_c_264.2.2.2.2.2.2.1 mf_X11_counted ml_X11_242 im_X11_counted se_X11_counted sR_0 rfl ⟨(Nat.le_of_ble_eq_true rfl), (Nat.le_of_ble_eq_true rfl)⟩ rfl rfl (Nat.le_of_ble_eq_true rfl)) rfl rfl rfl (Nat.zero_le _) (Nat.zero_le _) fun r12 h13 =>
    aw_lstore (pc := 118) C (i := 9) (lv' := [(0, .ref 0), (1, .int v1), (2, .int v2), (4, .int v4), (5, .int v5), (6, .long v6), (8, .int v8), (9, .long r12)]) dK_c_264.2.2.2.2.2.2.2.1 (by decide) rfl <|
    aw_lload (pc := 120) C (i := 9) dK_c_265.1 rfl <|
    aw_lload (pc := 122) C (i := 6) dK_c_265.2.1 rfl <|
    aw_lcmp (pc := 124) C dK_c_265.2.2.1 <|
    aw_if_gt (pc := 125) C (tgt := 131) dK_c_265.2.2.2.1 rfl (fun _ =>
    aw_aload_n (pc := 131) C (i := 0) dK_c_265.2.2.2.2.2.1 rfl rfl <|
    aw_getR (pc := 132) C (b := 9) dK_c_265.2.2.2.2.2.2.1 fl_X11_34 sR_0 rfl rR_0_8 <|
    aw_iload_n (pc := 135) C (i := 1) dK_c_265.2.2.2.2.2.2.2.1 rfl rfl <|
    aw_iald (pc := 136) C dK_c_266.1 sR_9 rfl <|
    aw_istoreV (pc := 137) C (i := 5) (fun x14 => [(0, .ref 0), (1, .int v1), (2, .int v2), (4, .int v4), (5, .int x14), (6, .long v6), (8, .int v8), (9, .long r12)]) dK_c_266.2.1 (by decide) (fun _ => rfl) fun x14 =>
    aw_lload (pc := 139) C (i := 9) dK_c_266.2.2.1 rfl <|
    aw_lstore (pc := 141) C (i := 6) (lv' := [(0, .ref 0), (1, .int v1), (2, .int v2), (4, .int v4), (5, .int x14), (6, .long r12), (8, .int v8), (9, .long r12)]) dK_c_266.2.2.2.1 (by decide) rfl <|
    aw_drop [0, 1, 2, 3, 4, 5, 6] (aX11_bestMark_j143 C v1 v2 v4 x14 r12 v8 K51 hK51 h13)) (fun _ =>
    aw_goto (pc := 128) C (tgt := 143) dK_c_265.2.2.2.2.1 rfl <|
    aw_drop [0, 1, 2, 3, 4, 5, 6] (aX11_bestMark_j143 C v1 v2 v4 v5 v6 v8 K51 hK51 h13))
def X11_bestMark_j97  (v1 : Int32) (v2 : Int32) (v4 : Int32) (v5 : Int32) (v6 : Int64) (v8 : Int32) (K51 : Int32 → Int64 → Int32 → AH → Option (Int32 × AH)) (s0 : Int32) (s1 : Int32) (h : AH) : Option (Int32 × AH) :=
    ck s1 4 (vl (sI h 9 s1.toNatClampNeg s0) fun h9 =>
    bd (X11_placeOf v1 h9) fun r10 h11 =>
    if 0 ≤ v2 then (X11_bestMark_j114 v1 v2 v4 v5 v6 v8 K51 3 r10 v1 h11)
    else (X11_bestMark_j114 v1 v2 v4 v5 v6 v8 K51 2 r10 v1 h11))
set_option maxRecDepth 100000 in
theorem aX11_bestMark_j97 {X : MCx} {yd : Dyn} {A : Nat → Prop} (C : OK X cX11_bestMark RX11 11 (some .int) rmX11_bestMark A)  (v1 : Int32) (v2 : Int32) (v4 : Int32) (v5 : Int32) (v6 : Int64) (v8 : Int32) (K51 : Int32 → Int64 → Int32 → AH → Option (Int32 × AH)) (hK51 : ∀ (w5 : Int32) (w6 : Int64) (w8 : Int32) (h : AH), AW X 11 ZR yd A 0 0 (QF X rmX11_bestMark ZR yd rvI A) 51 [(0, .ref 0), (1, .int v1), (2, .int v2), (4, .int v4), (5, .int w5), (6, .long w6), (8, .int w8)] [] h (K51 w5 w6 w8 h)) (s0 : Int32) (s1 : Int32) (h : AH) : AW X 11 ZR yd A 0 0 (QF X rmX11_bestMark ZR yd rvI A) 97 [(0, .ref 0), (1, .int v1), (2, .int v2), (4, .int v4), (5, .int v5), (6, .long v6), (8, .int v8)] [.int s0, .int s1, .ref 9] h (X11_bestMark_j97 v1 v2 v4 v5 v6 v8 K51 s0 s1 h) := by
    exact aw_iast (pc := 97) C dK_c_263.2.2.1 sR_9 rfl fun h9 =>
    aw_aload_n (pc := 98) C (i := 0) dK_c_263.2.2.2.1 rfl rfl <|
    aw_iload_n (pc := 99) C (i := 1) dK_c_263.2.2.2.2.1 rfl rfl <|
    aw_aload_n (pc := 100) C (i := 0) dK_c_263.2.2.2.2.2.1 rfl rfl <|
    aw_iload_n (pc := 101) C (i := 1) dK_c_263.2.2.2.2.2.2.1 rfl rfl <|
    aw_callF (pc := 102) C (cr_V (rest := [.int v1, .ref 0]) (F := (X11_placeOf v1)) C (c_X11_placeOf X.2.1 v1) dK_c_263.2.2.2.2.2.2.2.1 mf_X11_placeOf ml_X11_223 im_X11_placeOf se_X11_placeOf sR_0 rfl ⟨(Nat.le_of_ble_eq_true rfl), (Nat.le_of_ble_eq_true rfl)⟩ rfl rfl (Nat.le_of_ble_eq_true rfl)) rfl rfl rfl (Nat.zero_le _) (Nat.zero_le _) fun r10 h11 =>
    aw_iload_n (pc := 105) C (i := 2) dK_c_264.1 rfl rfl <|
    aw_if_ge (pc := 106) C (tgt := 113) dK_c_264.2.1 rfl (fun _ =>
    aw_iconst (pc := 113) C (v := 3) dK_c_264.2.2.2.2.1 rfl <|
    (aX11_bestMark_j114 C v1 v2 v4 v5 v6 v8 K51 hK51 3 r10 v1 h11)) (fun _ =>
    aw_iconst (pc := 109) C (v := 2) dK_c_264.2.2.1 rfl <|
    aw_goto (pc := 110) C (tgt := 114) dK_c_264.2.2.2.1 rfl <|
    (aX11_bestMark_j114 C v1 v2 v4 v5 v6 v8 K51 hK51 2 r10 v1 h11))
def X11_bestMark_l51  (v1 : Int32) (v2 : Int32) (v4 : Int32) : Nat → Int32 → Int64 → Int32 → AH → Option (Int32 × AH)
  | 0, _, _, _, _ => none
  | n + 1, v5, v6, v8, h =>
    if 41 ≤ v8 then (ck v1 4 (vl (sI h 9 v1.toNatClampNeg v4) fun h8 =>
    some (v5, h8)))
    else (if 0 ≤ (v4 + v8) then (if (v4 + v8) ≤ 2400 then (X11_bestMark_j97 v1 v2 v4 v5 v6 v8 (X11_bestMark_l51 v1 v2 v4 n) (v4 + v8) v1 h)
    else (X11_bestMark_j97 v1 v2 v4 v5 v6 v8 (X11_bestMark_l51 v1 v2 v4 n) 2400 v1 h))
    else (X11_bestMark_j97 v1 v2 v4 v5 v6 v8 (X11_bestMark_l51 v1 v2 v4 n) 0 v1 h))
set_option maxRecDepth 100000 in
theorem aX11_bestMark_l51 {X : MCx} {yd : Dyn} {A : Nat → Prop} (C : OK X cX11_bestMark RX11 11 (some .int) rmX11_bestMark A)  (v1 : Int32) (v2 : Int32) (v4 : Int32) : ∀ (n : Nat) (v5 : Int32) (v6 : Int64) (v8 : Int32) (h : AH), AW X 11 ZR yd A 0 0 (QF X rmX11_bestMark ZR yd rvI A) 51 [(0, .ref 0), (1, .int v1), (2, .int v2), (4, .int v4), (5, .int v5), (6, .long v6), (8, .int v8)] [] h (X11_bestMark_l51 v1 v2 v4 n v5 v6 v8 h) := by
  intro n
  induction n with
  | zero => intro v5 v6 v8 h; exact aw_none
  | succ n ih =>
    intro v5 v6 v8 h
    exact aw_iload (pc := 51) C (i := 8) dK_c_260.2.2.2.2.1 rfl <|
    aw_bipush (pc := 53) C (v := 41) dK_c_260.2.2.2.2.2.1 rfl <|
    aw_icmp_ge (pc := 55) C (tgt := 149) dK_c_260.2.2.2.2.2.2.1 rfl (fun _ =>
    aw_aload_n (pc := 149) C (i := 0) dK_c_266.2.2.2.2.2.2.1 rfl rfl <|
    aw_getR (pc := 150) C (b := 9) dK_c_266.2.2.2.2.2.2.2.1 fl_X11_34 sR_0 rfl rR_0_8 <|
    aw_iload_n (pc := 153) C (i := 1) dK_c_267.1 rfl rfl <|
    aw_iload (pc := 154) C (i := 4) dK_c_267.2.1 rfl <|
    aw_iast (pc := 156) C dK_c_267.2.2.1 sR_9 rfl fun h8 =>
    aw_iload (pc := 157) C (i := 5) dK_c_267.2.2.2.1 rfl <|
    aw_iret (pc := 159) C dK_c_267.2.2.2.2.1 rfl rfl) (fun _ =>
    aw_aload_n (pc := 58) C (i := 0) dK_c_260.2.2.2.2.2.2.2.1 rfl rfl <|
    aw_getR (pc := 59) C (b := 9) dK_c_261.1 fl_X11_34 sR_0 rfl rR_0_8 <|
    aw_iload_n (pc := 62) C (i := 1) dK_c_261.2.1 rfl rfl <|
    aw_iload (pc := 63) C (i := 4) dK_c_261.2.2.1 rfl <|
    aw_iload (pc := 65) C (i := 8) dK_c_261.2.2.2.1 rfl <|
    aw_iadd (pc := 67) C dK_c_261.2.2.2.2.1 <|
    aw_if_ge (pc := 68) C (tgt := 75) dK_c_261.2.2.2.2.2.1 rfl (fun _ =>
    aw_iload (pc := 75) C (i := 4) dK_c_262.1 rfl <|
    aw_iload (pc := 77) C (i := 8) dK_c_262.2.1 rfl <|
    aw_iadd (pc := 79) C dK_c_262.2.2.1 <|
    aw_sipush (pc := 80) C (v := 2400) dK_c_262.2.2.2.1 rfl <|
    aw_icmp_le (pc := 83) C (tgt := 92) dK_c_262.2.2.2.2.1 rfl (fun _ =>
    aw_iload (pc := 92) C (i := 4) dK_c_262.2.2.2.2.2.2.2.1 rfl <|
    aw_iload (pc := 94) C (i := 8) dK_c_263.1 rfl <|
    aw_iadd (pc := 96) C dK_c_263.2.1 <|
    (aX11_bestMark_j97 C v1 v2 v4 v5 v6 v8 (X11_bestMark_l51 v1 v2 v4 n) ih (v4 + v8) v1 h)) (fun _ =>
    aw_sipush (pc := 86) C (v := 2400) dK_c_262.2.2.2.2.2.1 rfl <|
    aw_goto (pc := 89) C (tgt := 97) dK_c_262.2.2.2.2.2.2.1 rfl <|
    (aX11_bestMark_j97 C v1 v2 v4 v5 v6 v8 (X11_bestMark_l51 v1 v2 v4 n) ih 2400 v1 h))) (fun _ =>
    aw_iconst (pc := 71) C (v := 0) dK_c_261.2.2.2.2.2.2.1 rfl <|
    aw_goto (pc := 72) C (tgt := 97) dK_c_261.2.2.2.2.2.2.2.1 rfl <|
    (aX11_bestMark_j97 C v1 v2 v4 v5 v6 v8 (X11_bestMark_l51 v1 v2 v4 n) ih 0 v1 h)))
def X11_bestMark_j20  (v1 : Int32) (v2 : Int32) (s0 : Int32) (h : AH) : Option (Int32 × AH) :=
    if s0 = 0 then (ck v1 4 (vl (h.1 9 v1.toNatClampNeg) fun x5 =>
    vl (-1) fun x6 =>
    vl (-40) fun x7 =>
    X11_bestMark_l51 v1 v2 x5 FU 0 x6 x7 h))
    else (bd (X11_no s0 h) fun r16 h17 =>
    some (r16, h17))
set_option maxRecDepth 100000 in
theorem aX11_bestMark_j20 {X : MCx} {yd : Dyn} {A : Nat → Prop} (C : OK X cX11_bestMark RX11 11 (some .int) rmX11_bestMark A)  (v1 : Int32) (v2 : Int32) (s0 : Int32) (h : AH) : AW X 11 ZR yd A 0 0 (QF X rmX11_bestMark ZR yd rvI A) 20 [(0, .ref 0), (1, .int v1), (2, .int v2)] [.int s0] h (X11_bestMark_j20 v1 v2 s0 h) := by
    exact aw_istore_n (pc := 20) C (i := 3) (lv' := [(0, .ref 0), (1, .int v1), (2, .int v2), (3, .int s0)]) dK_c_258.2.2.1 rfl (by decide) rfl <|
    aw_iload_n (pc := 21) C (i := 3) dK_c_258.2.2.2.1 rfl rfl <|
    aw_if_eq (pc := 22) C (tgt := 31) dK_c_258.2.2.2.2.1 rfl (fun _ =>
    aw_aload_n (pc := 31) C (i := 0) dK_c_259.2.1 rfl rfl <|
    aw_getR (pc := 32) C (b := 9) dK_c_259.2.2.1 fl_X11_34 sR_0 rfl rR_0_8 <|
    aw_iload_n (pc := 35) C (i := 1) dK_c_259.2.2.2.1 rfl rfl <|
    aw_iald (pc := 36) C dK_c_259.2.2.2.2.1 sR_9 rfl <|
    aw_istoreV (pc := 37) C (i := 4) (fun x5 => [(0, .ref 0), (1, .int v1), (2, .int v2), (3, .int s0), (4, .int x5)]) dK_c_259.2.2.2.2.2.1 (by decide) (fun _ => rfl) fun x5 =>
    aw_iconst (pc := 39) C (v := 0) dK_c_259.2.2.2.2.2.2.1 rfl <|
    aw_istore (pc := 40) C (i := 5) (lv' := [(0, .ref 0), (1, .int v1), (2, .int v2), (3, .int s0), (4, .int x5), (5, .int 0)]) dK_c_259.2.2.2.2.2.2.2.1 (by decide) rfl <|
    aw_ldc2_w (pc := 42) C (v := (-1)) dK_c_260.1 kc_X11_257 <|
    aw_lstoreV (pc := 45) C (i := 6) (fun x6 => [(0, .ref 0), (1, .int v1), (2, .int v2), (3, .int s0), (4, .int x5), (5, .int 0), (6, .long x6)]) dK_c_260.2.1 (by decide) (fun _ => rfl) fun x6 =>
    aw_bipush (pc := 47) C (v := (-40)) dK_c_260.2.2.1 rfl <|
    aw_istoreV (pc := 49) C (i := 8) (fun x7 => [(0, .ref 0), (1, .int v1), (2, .int v2), (3, .int s0), (4, .int x5), (5, .int 0), (6, .long x6), (8, .int x7)]) dK_c_260.2.2.2.1 (by decide) (fun _ => rfl) fun x7 =>
    aw_drop [0, 1, 2, 4, 5, 6, 7] (aX11_bestMark_l51 C v1 v2 x5 FU 0 x6 x7 h)) (fun _ =>
    aw_aload_n (pc := 25) C (i := 0) dK_c_258.2.2.2.2.2.1 rfl rfl <|
    aw_iload_n (pc := 26) C (i := 3) dK_c_258.2.2.2.2.2.2.1 rfl rfl <|
    aw_callF (pc := 27) C (cr_V (rest := []) (F := (X11_no s0)) C (c_X11_no X.2.1 s0) dK_c_258.2.2.2.2.2.2.2.1 mf_X11_no ml_X11_115 im_X11_no se_X11_no sR_0 rfl ⟨(Nat.le_of_ble_eq_true rfl), (Nat.le_of_ble_eq_true rfl)⟩ rfl rfl (Nat.le_of_ble_eq_true rfl)) rfl rfl rfl (Nat.zero_le _) (Nat.zero_le _) fun r16 h17 =>
    aw_iret (pc := 30) C dK_c_259.1 rfl rfl)
def X11_bestMark (v1 : Int32) (v2 : Int32) (h : AH) : Option (Int32 × AH) :=
    bd (X11_isJumper v1 h) fun r1 h2 =>
    if r1 = 0 then (X11_bestMark_j20 v1 v2 (-1) h2)
    else (bd (X11_bound v2 (-1) 999 h2) fun r3 h4 =>
    X11_bestMark_j20 v1 v2 r3 h4)
set_option maxRecDepth 100000 in
theorem c_X11_bestMark (l : Launch) (v1 : Int32) (v2 : Int32) : MC l yX11_bestMark cX11_bestMark 11 (some .int) rmX11_bestMark ZR [.ref 0, .int v1, .int v2] rvI (X11_bestMark v1 v2) :=
  MC.of (own := RX11) pn_RX11 rfl (Nat.le_of_ble_eq_true rfl) fun X yd A h _ C =>
    aw_aload_n (pc := 0) C (i := 0) dK_c_257.1 rfl rfl <|
    aw_iload_n (pc := 1) C (i := 1) dK_c_257.2.1 rfl rfl <|
    aw_callF (pc := 2) C (cr_V (rest := []) (F := (X11_isJumper v1)) C (c_X11_isJumper X.2.1 v1) dK_c_257.2.2.1 mf_X11_isJumper ml_X11_207 im_X11_isJumper se_X11_isJumper sR_0 rfl ⟨(Nat.le_of_ble_eq_true rfl), (Nat.le_of_ble_eq_true rfl)⟩ rfl rfl (Nat.le_of_ble_eq_true rfl)) rfl rfl rfl (Nat.zero_le _) (Nat.zero_le _) fun r1 h2 =>
    aw_if_ne (pc := 5) C (tgt := 12) dK_c_257.2.2.2.1 rfl (fun _ =>
    aw_iconst (pc := 8) C (v := (-1)) dK_c_257.2.2.2.2.1 rfl <|
    aw_goto (pc := 9) C (tgt := 20) dK_c_257.2.2.2.2.2.1 rfl <|
    (aX11_bestMark_j20 C v1 v2 (-1) h2)) (fun _ =>
    aw_iload_n (pc := 12) C (i := 2) dK_c_257.2.2.2.2.2.2.1 rfl rfl <|
    aw_iconst (pc := 13) C (v := (-1)) dK_c_257.2.2.2.2.2.2.2.1 rfl <|
    aw_sipush (pc := 14) C (v := 999) dK_c_258.1 rfl <|
    aw_callF (pc := 17) C (cr_S (rest := []) (F := (X11_bound v2 (-1) 999)) C (c_X11_bound X.2.1 v2 (-1) 999) dK_c_258.2.1 mf_X11_bound ml_X11_108 st_X11_bound ⟨(Nat.le_of_ble_eq_true rfl), (Nat.le_of_ble_eq_true rfl)⟩ rfl rfl (Nat.le_of_ble_eq_true rfl)) rfl rfl rfl (Nat.zero_le _) (Nat.zero_le _) fun r3 h4 =>
    (aX11_bestMark_j20 C v1 v2 r3 h4))

abbrev rmX11_back : Room := { frames := 2, cells := 0, slots := 0, locals := 48 }
def X11_back_j20  (v1 : Int32) (v2 : Int32) (s0 : Int32) (h : AH) : Option (Int32 × AH) :=
    if s0 = 0 then (bd (X11_allStrides v1 v2 h) fun r5 h6 =>
    bd (X11_allStrides v1 (h6.1 0 14) h6) fun r7 h8 =>
    some ((r5 - r7), h8))
    else (bd (X11_lower s0 h) fun r9 h10 =>
    some (r9, h10))
set_option maxRecDepth 100000 in
theorem aX11_back_j20 {X : MCx} {yd : Dyn} {A : Nat → Prop} (C : OK X cX11_back RX11 4 (some .int) rmX11_back A)  (v1 : Int32) (v2 : Int32) (s0 : Int32) (h : AH) : AW X 4 ZR yd A 0 0 (QF X rmX11_back ZR yd rvI A) 20 [(0, .ref 0), (1, .int v1), (2, .int v2)] [.int s0] h (X11_back_j20 v1 v2 s0 h) := by
    exact aw_istore_n (pc := 20) C (i := 3) (lv' := [(0, .ref 0), (1, .int v1), (2, .int v2), (3, .int s0)]) dK_c_269.2.2.1 rfl (by decide) rfl <|
    aw_iload_n (pc := 21) C (i := 3) dK_c_269.2.2.2.1 rfl rfl <|
    aw_if_eq (pc := 22) C (tgt := 33) dK_c_269.2.2.2.2.1 rfl (fun _ =>
    aw_aload_n (pc := 33) C (i := 0) dK_c_270.2.1 rfl rfl <|
    aw_iload_n (pc := 34) C (i := 1) dK_c_270.2.2.1 rfl rfl <|
    aw_iload_n (pc := 35) C (i := 2) dK_c_270.2.2.2.1 rfl rfl <|
    aw_callF (pc := 36) C (cr_V (rest := []) (F := (X11_allStrides v1 v2)) C (c_X11_allStrides X.2.1 v1 v2) dK_c_270.2.2.2.2.1 mf_X11_allStrides ml_X11_200 im_X11_allStrides se_X11_allStrides sR_0 rfl ⟨(Nat.le_of_ble_eq_true rfl), (Nat.le_of_ble_eq_true rfl)⟩ rfl rfl (Nat.le_of_ble_eq_true rfl)) rfl rfl rfl (Nat.zero_le _) (Nat.zero_le _) fun r5 h6 =>
    aw_aload_n (pc := 39) C (i := 0) dK_c_270.2.2.2.2.2.1 rfl rfl <|
    aw_iload_n (pc := 40) C (i := 1) dK_c_270.2.2.2.2.2.2.1 rfl rfl <|
    aw_aload_n (pc := 41) C (i := 0) dK_c_270.2.2.2.2.2.2.2.1 rfl rfl <|
    aw_getI (pc := 42) C dK_c_271.1 fl_X11_157 sR_0 rfl <|
    aw_callF (pc := 45) C (cr_V (rest := [.int r5]) (F := (X11_allStrides v1 (h6.1 0 14))) C (c_X11_allStrides X.2.1 v1 (h6.1 0 14)) dK_c_271.2.1 mf_X11_allStrides ml_X11_200 im_X11_allStrides se_X11_allStrides sR_0 rfl ⟨(Nat.le_of_ble_eq_true rfl), (Nat.le_of_ble_eq_true rfl)⟩ rfl rfl (Nat.le_of_ble_eq_true rfl)) rfl rfl rfl (Nat.zero_le _) (Nat.zero_le _) fun r7 h8 =>
    aw_isub (pc := 48) C dK_c_271.2.2.1 <|
    aw_iret (pc := 49) C dK_c_271.2.2.2.1 rfl rfl) (fun _ =>
    aw_aload_n (pc := 25) C (i := 0) dK_c_269.2.2.2.2.2.1 rfl rfl <|
    aw_iload_n (pc := 26) C (i := 3) dK_c_269.2.2.2.2.2.2.1 rfl rfl <|
    aw_callF (pc := 27) C (cr_V (rest := []) (F := (X11_lower s0)) C (c_X11_lower X.2.1 s0) dK_c_269.2.2.2.2.2.2.2.1 mf_X11_lower ml_X11_220 im_X11_lower se_X11_lower sR_0 rfl ⟨(Nat.le_of_ble_eq_true rfl), (Nat.le_of_ble_eq_true rfl)⟩ rfl rfl (Nat.le_of_ble_eq_true rfl)) rfl rfl rfl (Nat.zero_le _) (Nat.zero_le _) fun r9 h10 =>
    aw_goto (pc := 30) C (tgt := 49) dK_c_270.1 rfl <|
    aw_iret (pc := 49) C dK_c_271.2.2.2.1 rfl rfl)
def X11_back (v1 : Int32) (v2 : Int32) (h : AH) : Option (Int32 × AH) :=
    bd (X11_isJumper v1 h) fun r1 h2 =>
    if r1 = 0 then (X11_back_j20 v1 v2 (-1) h2)
    else (bd (X11_bound v2 (-9) 9 h2) fun r3 h4 =>
    X11_back_j20 v1 v2 r3 h4)
set_option maxRecDepth 100000 in
theorem c_X11_back (l : Launch) (v1 : Int32) (v2 : Int32) : MC l yX11_back cX11_back 4 (some .int) rmX11_back ZR [.ref 0, .int v1, .int v2] rvI (X11_back v1 v2) :=
  MC.of (own := RX11) pn_RX11 rfl (Nat.le_of_ble_eq_true rfl) fun X yd A h _ C =>
    aw_aload_n (pc := 0) C (i := 0) dK_c_268.1 rfl rfl <|
    aw_iload_n (pc := 1) C (i := 1) dK_c_268.2.1 rfl rfl <|
    aw_callF (pc := 2) C (cr_V (rest := []) (F := (X11_isJumper v1)) C (c_X11_isJumper X.2.1 v1) dK_c_268.2.2.1 mf_X11_isJumper ml_X11_207 im_X11_isJumper se_X11_isJumper sR_0 rfl ⟨(Nat.le_of_ble_eq_true rfl), (Nat.le_of_ble_eq_true rfl)⟩ rfl rfl (Nat.le_of_ble_eq_true rfl)) rfl rfl rfl (Nat.zero_le _) (Nat.zero_le _) fun r1 h2 =>
    aw_if_ne (pc := 5) C (tgt := 12) dK_c_268.2.2.2.1 rfl (fun _ =>
    aw_iconst (pc := 8) C (v := (-1)) dK_c_268.2.2.2.2.1 rfl <|
    aw_goto (pc := 9) C (tgt := 20) dK_c_268.2.2.2.2.2.1 rfl <|
    (aX11_back_j20 C v1 v2 (-1) h2)) (fun _ =>
    aw_iload_n (pc := 12) C (i := 2) dK_c_268.2.2.2.2.2.2.1 rfl rfl <|
    aw_bipush (pc := 13) C (v := (-9)) dK_c_268.2.2.2.2.2.2.2.1 rfl <|
    aw_bipush (pc := 15) C (v := 9) dK_c_269.1 rfl <|
    aw_callF (pc := 17) C (cr_S (rest := []) (F := (X11_bound v2 (-9) 9)) C (c_X11_bound X.2.1 v2 (-9) 9) dK_c_269.2.1 mf_X11_bound ml_X11_108 st_X11_bound ⟨(Nat.le_of_ble_eq_true rfl), (Nat.le_of_ble_eq_true rfl)⟩ rfl rfl (Nat.le_of_ble_eq_true rfl)) rfl rfl rfl (Nat.zero_le _) (Nat.zero_le _) fun r3 h4 =>
    (aX11_back_j20 C v1 v2 r3 h4))

abbrev rmX11_ranksNow : Room := { frames := 4, cells := 0, slots := 0, locals := 90 }
def X11_ranksNow  (h : AH) : Option (Unit × AH) :=
    bd (X11_findBest 0 (h.1 0 16) h) fun _ h2 =>
    bd (X11_sorts h2) fun _ h4 =>
    some ((), h4)
set_option maxRecDepth 100000 in
theorem c_X11_ranksNow (l : Launch)  : MC l yX11_ranksNow cX11_ranksNow 1 none rmX11_ranksNow ZR [.ref 0] rvV (X11_ranksNow) :=
  MC.of (own := RX11) pn_RX11 rfl (Nat.le_of_ble_eq_true rfl) fun X yd A h _ C =>
    aw_aload_n (pc := 0) C (i := 0) dK_c_299.1 rfl rfl <|
    aw_iconst (pc := 1) C (v := 0) dK_c_299.2.1 rfl <|
    aw_aload_n (pc := 2) C (i := 0) dK_c_299.2.2.1 rfl rfl <|
    aw_getI (pc := 3) C dK_c_299.2.2.2.1 fl_X11_147 sR_0 rfl <|
    aw_callF (pc := 6) C (cr_V (rest := []) (F := (X11_findBest 0 (h.1 0 16))) C (c_X11_findBest X.2.1 0 (h.1 0 16)) dK_c_299.2.2.2.2.1 mf_X11_findBest ml_X11_213 im_X11_findBest se_X11_findBest sR_0 rfl ⟨(Nat.le_of_ble_eq_true rfl), (Nat.le_of_ble_eq_true rfl)⟩ rfl rfl (Nat.le_of_ble_eq_true rfl)) rfl rfl rfl (Nat.zero_le _) (Nat.zero_le _) fun _ h2 =>
    aw_aload_n (pc := 9) C (i := 0) dK_c_299.2.2.2.2.2.1 rfl rfl <|
    aw_callF (pc := 10) C (cr_V (rest := []) (F := X11_sorts) C (c_X11_sorts X.2.1 ) dK_c_299.2.2.2.2.2.2.1 mf_X11_sorts ml_X11_268 im_X11_sorts se_X11_sorts sR_0 rfl ⟨(Nat.le_of_ble_eq_true rfl), (Nat.le_of_ble_eq_true rfl)⟩ rfl rfl (Nat.le_of_ble_eq_true rfl)) rfl rfl rfl (Nat.zero_le _) (Nat.zero_le _) fun _ h4 =>
    aw_vret (pc := 13) C dK_c_299.2.2.2.2.2.2.2.1 rfl rfl

abbrev rmX11_roundNow : Room := { frames := 5, cells := 0, slots := 0, locals := 110 }
def X11_roundNow  (h : AH) : Option (Int32 × AH) :=
    bd (X11_turnNow h) fun r1 h2 =>
    if 0 ≤ r1 then (if (3 * (h2.1 0 15)) ≤ (h2.1 0 16) then (bd (X11_finalists h2) fun r3 h4 =>
    if r3 = 0 then none else (some ((3 + (((h2.1 0 16) - (3 * (h2.1 0 15))) / r3)), h4)))
    else (if (h2.1 0 15) = 0 then none else (some (((h2.1 0 16) / (h2.1 0 15)), h2))))
    else (some (6, h2))
set_option maxRecDepth 100000 in
theorem c_X11_roundNow (l : Launch)  : MC l yX11_roundNow cX11_roundNow 1 (some .int) rmX11_roundNow ZR [.ref 0] rvI (X11_roundNow) :=
  MC.of (own := RX11) pn_RX11 rfl (Nat.le_of_ble_eq_true rfl) fun X yd A h _ C =>
    aw_aload_n (pc := 0) C (i := 0) dK_d_5.1 rfl rfl <|
    aw_callF (pc := 1) C (cr_V (rest := []) (F := X11_turnNow) C (c_X11_turnNow X.2.1 ) dK_d_5.2.1 mf_X11_turnNow ml_X11_150 im_X11_turnNow se_X11_turnNow sR_0 rfl ⟨(Nat.le_of_ble_eq_true rfl), (Nat.le_of_ble_eq_true rfl)⟩ rfl rfl (Nat.le_of_ble_eq_true rfl)) rfl rfl rfl (Nat.zero_le _) (Nat.zero_le _) fun r1 h2 =>
    aw_if_ge (pc := 4) C (tgt := 10) dK_d_5.2.2.1 rfl (fun _ =>
    aw_aload_n (pc := 10) C (i := 0) dK_d_5.2.2.2.2.2.1 rfl rfl <|
    aw_getI (pc := 11) C dK_d_5.2.2.2.2.2.2.1 fl_X11_147 sR_0 rfl <|
    aw_iconst (pc := 14) C (v := 3) dK_d_5.2.2.2.2.2.2.2.1 rfl <|
    aw_aload_n (pc := 15) C (i := 0) dK_d_6.1 rfl rfl <|
    aw_getI (pc := 16) C dK_d_6.2.1 fl_X11_105 sR_0 rfl <|
    aw_imul (pc := 19) C dK_d_6.2.2.1 <|
    aw_icmp_ge (pc := 20) C (tgt := 35) dK_d_6.2.2.2.1 rfl (fun _ =>
    aw_iconst (pc := 35) C (v := 3) dK_d_7.2.2.1 rfl <|
    aw_aload_n (pc := 36) C (i := 0) dK_d_7.2.2.2.1 rfl rfl <|
    aw_getI (pc := 37) C dK_d_7.2.2.2.2.1 fl_X11_147 sR_0 rfl <|
    aw_iconst (pc := 40) C (v := 3) dK_d_7.2.2.2.2.2.1 rfl <|
    aw_aload_n (pc := 41) C (i := 0) dK_d_7.2.2.2.2.2.2.1 rfl rfl <|
    aw_getI (pc := 42) C dK_d_7.2.2.2.2.2.2.2.1 fl_X11_105 sR_0 rfl <|
    aw_imul (pc := 45) C dK_d_8.1 <|
    aw_isub (pc := 46) C dK_d_8.2.1 <|
    aw_aload_n (pc := 47) C (i := 0) dK_d_8.2.2.1 rfl rfl <|
    aw_callF (pc := 48) C (cr_V (rest := [.int ((h2.1 0 16) - (3 * (h2.1 0 15))), .int 3]) (F := X11_finalists) C (c_X11_finalists X.2.1 ) dK_d_8.2.2.2.1 mf_X11_finalists ml_X11_271 im_X11_finalists se_X11_finalists sR_0 rfl ⟨(Nat.le_of_ble_eq_true rfl), (Nat.le_of_ble_eq_true rfl)⟩ rfl rfl (Nat.le_of_ble_eq_true rfl)) rfl rfl rfl (Nat.zero_le _) (Nat.zero_le _) fun r3 h4 =>
    aw_idiv (pc := 51) C dK_d_8.2.2.2.2.1 <|
    aw_iadd (pc := 52) C dK_d_8.2.2.2.2.2.1 <|
    aw_iret (pc := 53) C dK_d_8.2.2.2.2.2.2.1 rfl rfl) (fun _ =>
    aw_aload_n (pc := 23) C (i := 0) dK_d_6.2.2.2.2.1 rfl rfl <|
    aw_getI (pc := 24) C dK_d_6.2.2.2.2.2.1 fl_X11_147 sR_0 rfl <|
    aw_aload_n (pc := 27) C (i := 0) dK_d_6.2.2.2.2.2.2.1 rfl rfl <|
    aw_getI (pc := 28) C dK_d_6.2.2.2.2.2.2.2.1 fl_X11_105 sR_0 rfl <|
    aw_idiv (pc := 31) C dK_d_7.1 <|
    aw_goto (pc := 32) C (tgt := 53) dK_d_7.2.1 rfl <|
    aw_iret (pc := 53) C dK_d_8.2.2.2.2.2.2.1 rfl rfl)) (fun _ =>
    aw_bipush (pc := 7) C (v := 6) dK_d_5.2.2.2.1 rfl <|
    aw_iret (pc := 9) C dK_d_5.2.2.2.2.1 rfl rfl)

abbrev rmX11_turn : Room := { frames := 5, cells := 0, slots := 0, locals := 110 }
def X11_turn  (h : AH) : Option (Int32 × AH) :=
    bd (X11_turnNow h) fun r1 h2 =>
    some (r1, h2)
set_option maxRecDepth 100000 in
theorem c_X11_turn (l : Launch)  : MC l yX11_turn cX11_turn 1 (some .int) rmX11_turn ZR [.ref 0] rvI (X11_turn) :=
  MC.of (own := RX11) pn_RX11 rfl (Nat.le_of_ble_eq_true rfl) fun X yd A h _ C =>
    aw_aload_n (pc := 0) C (i := 0) dK_d_16.1 rfl rfl <|
    aw_callF (pc := 1) C (cr_V (rest := []) (F := X11_turnNow) C (c_X11_turnNow X.2.1 ) dK_d_16.2.1 mf_X11_turnNow ml_X11_150 im_X11_turnNow se_X11_turnNow sR_0 rfl ⟨(Nat.le_of_ble_eq_true rfl), (Nat.le_of_ble_eq_true rfl)⟩ rfl rfl (Nat.le_of_ble_eq_true rfl)) rfl rfl rfl (Nat.zero_le _) (Nat.zero_le _) fun r1 h2 =>
    aw_iret (pc := 4) C dK_d_16.2.2.1 rfl rfl

abbrev rmX11_jump : Room := { frames := 5, cells := 0, slots := 0, locals := 110 }
def X11_jump_j33  (v1 : Int32) (v2 : Int32) (s0 : Int32) (h : AH) : Option (Int32 × AH) :=
    if s0 = 0 then (bd (X11_lengthOf v1 v2 0 h) fun r7 h8 =>
    bd (X11_putsTry v1 r7 v2 h8) fun _ h10 =>
    ck ((h10.1 0 16) - 1) 24 (some ((h10.1 11 ((h10.1 0 16) - 1).toNatClampNeg), h10)))
    else (bd (X11_no s0 h) fun r11 h12 =>
    some (r11, h12))
set_option maxRecDepth 100000 in
theorem aX11_jump_j33 {X : MCx} {yd : Dyn} {A : Nat → Prop} (C : OK X cX11_jump RX11 4 (some .int) rmX11_jump A)  (v1 : Int32) (v2 : Int32) (s0 : Int32) (h : AH) : AW X 4 ZR yd A 0 0 (QF X rmX11_jump ZR yd rvI A) 33 [(0, .ref 0), (1, .int v1), (2, .int v2)] [.int s0] h (X11_jump_j33 v1 v2 s0 h) := by
    exact aw_istore_n (pc := 33) C (i := 3) (lv' := [(0, .ref 0), (1, .int v1), (2, .int v2), (3, .int s0)]) dK_d_19.1 rfl (by decide) rfl <|
    aw_iload_n (pc := 34) C (i := 3) dK_d_19.2.1 rfl rfl <|
    aw_if_eq (pc := 35) C (tgt := 44) dK_d_19.2.2.1 rfl (fun _ =>
    aw_aload_n (pc := 44) C (i := 0) dK_d_19.2.2.2.2.2.2.2.1 rfl rfl <|
    aw_iload_n (pc := 45) C (i := 1) dK_d_20.1 rfl rfl <|
    aw_aload_n (pc := 46) C (i := 0) dK_d_20.2.1 rfl rfl <|
    aw_iload_n (pc := 47) C (i := 1) dK_d_20.2.2.1 rfl rfl <|
    aw_iload_n (pc := 48) C (i := 2) dK_d_20.2.2.2.1 rfl rfl <|
    aw_iconst (pc := 49) C (v := 0) dK_d_20.2.2.2.2.1 rfl <|
    aw_callF (pc := 50) C (cr_V (rest := [.int v1, .ref 0]) (F := (X11_lengthOf v1 v2 0)) C (c_X11_lengthOf X.2.1 v1 v2 0) dK_d_20.2.2.2.2.2.1 mf_X11_lengthOf ml_X11_163 im_X11_lengthOf se_X11_lengthOf sR_0 rfl ⟨(Nat.le_of_ble_eq_true rfl), (Nat.le_of_ble_eq_true rfl)⟩ rfl rfl (Nat.le_of_ble_eq_true rfl)) rfl rfl rfl (Nat.zero_le _) (Nat.zero_le _) fun r7 h8 =>
    aw_iload_n (pc := 53) C (i := 2) dK_d_20.2.2.2.2.2.2.1 rfl rfl <|
    aw_callF (pc := 54) C (cr_V (rest := []) (F := (X11_putsTry v1 r7 v2)) C (c_X11_putsTry X.2.1 v1 r7 v2) dK_d_20.2.2.2.2.2.2.2.1 mf_X11_putsTry ml_X11_153 im_X11_putsTry se_X11_putsTry sR_0 rfl ⟨(Nat.le_of_ble_eq_true rfl), (Nat.le_of_ble_eq_true rfl)⟩ rfl rfl (Nat.le_of_ble_eq_true rfl)) rfl rfl rfl (Nat.zero_le _) (Nat.zero_le _) fun _ h10 =>
    aw_aload_n (pc := 57) C (i := 0) dK_d_21.1 rfl rfl <|
    aw_getR (pc := 58) C (b := 11) dK_d_21.2.1 fl_X11_40 sR_0 rfl rR_0_10 <|
    aw_aload_n (pc := 61) C (i := 0) dK_d_21.2.2.1 rfl rfl <|
    aw_getI (pc := 62) C dK_d_21.2.2.2.1 fl_X11_147 sR_0 rfl <|
    aw_iconst (pc := 65) C (v := 1) dK_d_21.2.2.2.2.1 rfl <|
    aw_isub (pc := 66) C dK_d_21.2.2.2.2.2.1 <|
    aw_iald (pc := 67) C dK_d_21.2.2.2.2.2.2.1 sR_11 rfl <|
    aw_iret (pc := 68) C dK_d_21.2.2.2.2.2.2.2.1 rfl rfl) (fun _ =>
    aw_aload_n (pc := 38) C (i := 0) dK_d_19.2.2.2.1 rfl rfl <|
    aw_iload_n (pc := 39) C (i := 3) dK_d_19.2.2.2.2.1 rfl rfl <|
    aw_callF (pc := 40) C (cr_V (rest := []) (F := (X11_no s0)) C (c_X11_no X.2.1 s0) dK_d_19.2.2.2.2.2.1 mf_X11_no ml_X11_115 im_X11_no se_X11_no sR_0 rfl ⟨(Nat.le_of_ble_eq_true rfl), (Nat.le_of_ble_eq_true rfl)⟩ rfl rfl (Nat.le_of_ble_eq_true rfl)) rfl rfl rfl (Nat.zero_le _) (Nat.zero_le _) fun r11 h12 =>
    aw_iret (pc := 43) C dK_d_19.2.2.2.2.2.2.1 rfl rfl)
def X11_jump (v1 : Int32) (v2 : Int32) (h : AH) : Option (Int32 × AH) :=
    bd (X11_isJumper v1 h) fun r1 h2 =>
    if r1 = 0 then (X11_jump_j33 v1 v2 (-1) h2)
    else (bd (X11_turnNow h2) fun r3 h4 =>
    if r3 = v1 then (bd (X11_bound v2 0 300 h4) fun r5 h6 =>
    X11_jump_j33 v1 v2 r5 h6)
    else (X11_jump_j33 v1 v2 (-3) h4))
set_option maxRecDepth 100000 in
theorem c_X11_jump (l : Launch) (v1 : Int32) (v2 : Int32) : MC l yX11_jump cX11_jump 4 (some .int) rmX11_jump ZR [.ref 0, .int v1, .int v2] rvI (X11_jump v1 v2) :=
  MC.of (own := RX11) pn_RX11 rfl (Nat.le_of_ble_eq_true rfl) fun X yd A h _ C =>
    aw_aload_n (pc := 0) C (i := 0) dK_d_17.1 rfl rfl <|
    aw_iload_n (pc := 1) C (i := 1) dK_d_17.2.1 rfl rfl <|
    aw_callF (pc := 2) C (cr_V (rest := []) (F := (X11_isJumper v1)) C (c_X11_isJumper X.2.1 v1) dK_d_17.2.2.1 mf_X11_isJumper ml_X11_207 im_X11_isJumper se_X11_isJumper sR_0 rfl ⟨(Nat.le_of_ble_eq_true rfl), (Nat.le_of_ble_eq_true rfl)⟩ rfl rfl (Nat.le_of_ble_eq_true rfl)) rfl rfl rfl (Nat.zero_le _) (Nat.zero_le _) fun r1 h2 =>
    aw_if_ne (pc := 5) C (tgt := 12) dK_d_17.2.2.2.1 rfl (fun _ =>
    aw_iconst (pc := 8) C (v := (-1)) dK_d_17.2.2.2.2.1 rfl <|
    aw_goto (pc := 9) C (tgt := 33) dK_d_17.2.2.2.2.2.1 rfl <|
    (aX11_jump_j33 C v1 v2 (-1) h2)) (fun _ =>
    aw_aload_n (pc := 12) C (i := 0) dK_d_17.2.2.2.2.2.2.1 rfl rfl <|
    aw_callF (pc := 13) C (cr_V (rest := []) (F := X11_turnNow) C (c_X11_turnNow X.2.1 ) dK_d_17.2.2.2.2.2.2.2.1 mf_X11_turnNow ml_X11_150 im_X11_turnNow se_X11_turnNow sR_0 rfl ⟨(Nat.le_of_ble_eq_true rfl), (Nat.le_of_ble_eq_true rfl)⟩ rfl rfl (Nat.le_of_ble_eq_true rfl)) rfl rfl rfl (Nat.zero_le _) (Nat.zero_le _) fun r3 h4 =>
    aw_iload_n (pc := 16) C (i := 1) dK_d_18.1 rfl rfl <|
    aw_icmp_eq (pc := 17) C (tgt := 25) dK_d_18.2.1 rfl (fun _ =>
    aw_iload_n (pc := 25) C (i := 2) dK_d_18.2.2.2.2.1 rfl rfl <|
    aw_iconst (pc := 26) C (v := 0) dK_d_18.2.2.2.2.2.1 rfl <|
    aw_sipush (pc := 27) C (v := 300) dK_d_18.2.2.2.2.2.2.1 rfl <|
    aw_callF (pc := 30) C (cr_S (rest := []) (F := (X11_bound v2 0 300)) C (c_X11_bound X.2.1 v2 0 300) dK_d_18.2.2.2.2.2.2.2.1 mf_X11_bound ml_X11_108 st_X11_bound ⟨(Nat.le_of_ble_eq_true rfl), (Nat.le_of_ble_eq_true rfl)⟩ rfl rfl (Nat.le_of_ble_eq_true rfl)) rfl rfl rfl (Nat.zero_le _) (Nat.zero_le _) fun r5 h6 =>
    (aX11_jump_j33 C v1 v2 r5 h6)) (fun _ =>
    aw_bipush (pc := 20) C (v := (-3)) dK_d_18.2.2.1 rfl <|
    aw_goto (pc := 22) C (tgt := 33) dK_d_18.2.2.2.1 rfl <|
    (aX11_jump_j33 C v1 v2 (-3) h4)))

abbrev rmX11_none : Room := { frames := 5, cells := 0, slots := 0, locals := 110 }
def X11_none_j64  (v1 : Int32) (s0 : Int32) (s1 : Int32) (h : AH) : Option (Int32 × AH) :=
    bd (X11_putsTry s1 s0 0 h) fun _ h8 =>
    bd (X11_triesOf v1 h8) fun r9 h10 =>
    some (r9, h10)
set_option maxRecDepth 100000 in
theorem aX11_none_j64 {X : MCx} {yd : Dyn} {A : Nat → Prop} (C : OK X cX11_none RX11 4 (some .int) rmX11_none A)  (v1 : Int32) (s0 : Int32) (s1 : Int32) (h : AH) : AW X 4 ZR yd A 0 0 (QF X rmX11_none ZR yd rvI A) 64 [(0, .ref 0), (1, .int v1)] [.int s0, .int s1, .ref 0] h (X11_none_j64 v1 s0 s1 h) := by
    exact aw_iconst (pc := 64) C (v := 0) dK_d_26.2.2.1 rfl <|
    aw_callF (pc := 65) C (cr_V (rest := []) (F := (X11_putsTry s1 s0 0)) C (c_X11_putsTry X.2.1 s1 s0 0) dK_d_26.2.2.2.1 mf_X11_putsTry ml_X11_153 im_X11_putsTry se_X11_putsTry sR_0 rfl ⟨(Nat.le_of_ble_eq_true rfl), (Nat.le_of_ble_eq_true rfl)⟩ rfl rfl (Nat.le_of_ble_eq_true rfl)) rfl rfl rfl (Nat.zero_le _) (Nat.zero_le _) fun _ h8 =>
    aw_aload_n (pc := 68) C (i := 0) dK_d_26.2.2.2.2.1 rfl rfl <|
    aw_iload_n (pc := 69) C (i := 1) dK_d_26.2.2.2.2.2.1 rfl rfl <|
    aw_callF (pc := 70) C (cr_V (rest := []) (F := (X11_triesOf v1)) C (c_X11_triesOf X.2.1 v1) dK_d_26.2.2.2.2.2.2.1 mf_X11_triesOf ml_X11_217 im_X11_triesOf se_X11_triesOf sR_0 rfl ⟨(Nat.le_of_ble_eq_true rfl), (Nat.le_of_ble_eq_true rfl)⟩ rfl rfl (Nat.le_of_ble_eq_true rfl)) rfl rfl rfl (Nat.zero_le _) (Nat.zero_le _) fun r9 h10 =>
    aw_iret (pc := 73) C dK_d_26.2.2.2.2.2.2.2.1 rfl rfl
def X11_none_j40  (v1 : Int32) (v2 : Int32) (s0 : Int32) (h : AH) : Option (Int32 × AH) :=
    if s0 = 0 then (if v2 = 0 then (X11_none_j64 v1 (-9) v1 h)
    else (X11_none_j64 v1 (-8) v1 h))
    else (bd (X11_no s0 h) fun r11 h12 =>
    some (r11, h12))
set_option maxRecDepth 100000 in
theorem aX11_none_j40 {X : MCx} {yd : Dyn} {A : Nat → Prop} (C : OK X cX11_none RX11 4 (some .int) rmX11_none A)  (v1 : Int32) (v2 : Int32) (s0 : Int32) (h : AH) : AW X 4 ZR yd A 0 0 (QF X rmX11_none ZR yd rvI A) 40 [(0, .ref 0), (1, .int v1), (2, .int v2)] [.int s0] h (X11_none_j40 v1 v2 s0 h) := by
    exact aw_istore_n (pc := 40) C (i := 3) (lv' := [(0, .ref 0), (1, .int v1), (2, .int v2), (3, .int s0)]) dK_d_24.2.2.2.2.1 rfl (by decide) rfl <|
    aw_iload_n (pc := 41) C (i := 3) dK_d_24.2.2.2.2.2.1 rfl rfl <|
    aw_if_eq (pc := 42) C (tgt := 51) dK_d_24.2.2.2.2.2.2.1 rfl (fun _ =>
    aw_aload_n (pc := 51) C (i := 0) dK_d_25.2.2.2.1 rfl rfl <|
    aw_iload_n (pc := 52) C (i := 1) dK_d_25.2.2.2.2.1 rfl rfl <|
    aw_iload_n (pc := 53) C (i := 2) dK_d_25.2.2.2.2.2.1 rfl rfl <|
    aw_if_ne (pc := 54) C (tgt := 62) dK_d_25.2.2.2.2.2.2.1 rfl (fun _ =>
    aw_bipush (pc := 57) C (v := (-9)) dK_d_25.2.2.2.2.2.2.2.1 rfl <|
    aw_goto (pc := 59) C (tgt := 64) dK_d_26.1 rfl <|
    aw_drop [0, 1] (aX11_none_j64 C v1 (-9) v1 h)) (fun _ =>
    aw_bipush (pc := 62) C (v := (-8)) dK_d_26.2.1 rfl <|
    aw_drop [0, 1] (aX11_none_j64 C v1 (-8) v1 h))) (fun _ =>
    aw_aload_n (pc := 45) C (i := 0) dK_d_24.2.2.2.2.2.2.2.1 rfl rfl <|
    aw_iload_n (pc := 46) C (i := 3) dK_d_25.1 rfl rfl <|
    aw_callF (pc := 47) C (cr_V (rest := []) (F := (X11_no s0)) C (c_X11_no X.2.1 s0) dK_d_25.2.1 mf_X11_no ml_X11_115 im_X11_no se_X11_no sR_0 rfl ⟨(Nat.le_of_ble_eq_true rfl), (Nat.le_of_ble_eq_true rfl)⟩ rfl rfl (Nat.le_of_ble_eq_true rfl)) rfl rfl rfl (Nat.zero_le _) (Nat.zero_le _) fun r11 h12 =>
    aw_iret (pc := 50) C dK_d_25.2.2.1 rfl rfl)
def X11_none (v1 : Int32) (v2 : Int32) (h : AH) : Option (Int32 × AH) :=
    bd (X11_isJumper v1 h) fun r1 h2 =>
    if r1 = 0 then (X11_none_j40 v1 v2 (-1) h2)
    else (bd (X11_isIn v2 0 1 h2) fun r3 h4 =>
    if r3 = 0 then (X11_none_j40 v1 v2 (-2) h4)
    else (bd (X11_turnNow h4) fun r5 h6 =>
    if r5 = v1 then (X11_none_j40 v1 v2 0 h6)
    else (X11_none_j40 v1 v2 (-3) h6)))
set_option maxRecDepth 100000 in
theorem c_X11_none (l : Launch) (v1 : Int32) (v2 : Int32) : MC l yX11_none cX11_none 4 (some .int) rmX11_none ZR [.ref 0, .int v1, .int v2] rvI (X11_none v1 v2) :=
  MC.of (own := RX11) pn_RX11 rfl (Nat.le_of_ble_eq_true rfl) fun X yd A h _ C =>
    aw_aload_n (pc := 0) C (i := 0) dK_d_22.1 rfl rfl <|
    aw_iload_n (pc := 1) C (i := 1) dK_d_22.2.1 rfl rfl <|
    aw_callF (pc := 2) C (cr_V (rest := []) (F := (X11_isJumper v1)) C (c_X11_isJumper X.2.1 v1) dK_d_22.2.2.1 mf_X11_isJumper ml_X11_207 im_X11_isJumper se_X11_isJumper sR_0 rfl ⟨(Nat.le_of_ble_eq_true rfl), (Nat.le_of_ble_eq_true rfl)⟩ rfl rfl (Nat.le_of_ble_eq_true rfl)) rfl rfl rfl (Nat.zero_le _) (Nat.zero_le _) fun r1 h2 =>
    aw_if_ne (pc := 5) C (tgt := 12) dK_d_22.2.2.2.1 rfl (fun _ =>
    aw_iconst (pc := 8) C (v := (-1)) dK_d_22.2.2.2.2.1 rfl <|
    aw_goto (pc := 9) C (tgt := 40) dK_d_22.2.2.2.2.2.1 rfl <|
    (aX11_none_j40 C v1 v2 (-1) h2)) (fun _ =>
    aw_iload_n (pc := 12) C (i := 2) dK_d_22.2.2.2.2.2.2.1 rfl rfl <|
    aw_iconst (pc := 13) C (v := 0) dK_d_22.2.2.2.2.2.2.2.1 rfl <|
    aw_iconst (pc := 14) C (v := 1) dK_d_23.1 rfl <|
    aw_callF (pc := 15) C (cr_S (rest := []) (F := (X11_isIn v2 0 1)) C (c_X11_isIn X.2.1 v2 0 1) dK_d_23.2.1 mf_X11_isIn ml_X11_126 st_X11_isIn ⟨(Nat.le_of_ble_eq_true rfl), (Nat.le_of_ble_eq_true rfl)⟩ rfl rfl (Nat.le_of_ble_eq_true rfl)) rfl rfl rfl (Nat.zero_le _) (Nat.zero_le _) fun r3 h4 =>
    aw_if_ne (pc := 18) C (tgt := 26) dK_d_23.2.2.1 rfl (fun _ =>
    aw_bipush (pc := 21) C (v := (-2)) dK_d_23.2.2.2.1 rfl <|
    aw_goto (pc := 23) C (tgt := 40) dK_d_23.2.2.2.2.1 rfl <|
    (aX11_none_j40 C v1 v2 (-2) h4)) (fun _ =>
    aw_aload_n (pc := 26) C (i := 0) dK_d_23.2.2.2.2.2.1 rfl rfl <|
    aw_callF (pc := 27) C (cr_V (rest := []) (F := X11_turnNow) C (c_X11_turnNow X.2.1 ) dK_d_23.2.2.2.2.2.2.1 mf_X11_turnNow ml_X11_150 im_X11_turnNow se_X11_turnNow sR_0 rfl ⟨(Nat.le_of_ble_eq_true rfl), (Nat.le_of_ble_eq_true rfl)⟩ rfl rfl (Nat.le_of_ble_eq_true rfl)) rfl rfl rfl (Nat.zero_le _) (Nat.zero_le _) fun r5 h6 =>
    aw_iload_n (pc := 30) C (i := 1) dK_d_23.2.2.2.2.2.2.2.1 rfl rfl <|
    aw_icmp_eq (pc := 31) C (tgt := 39) dK_d_24.1 rfl (fun _ =>
    aw_iconst (pc := 39) C (v := 0) dK_d_24.2.2.2.1 rfl <|
    (aX11_none_j40 C v1 v2 0 h6)) (fun _ =>
    aw_bipush (pc := 34) C (v := (-3)) dK_d_24.2.1 rfl <|
    aw_goto (pc := 36) C (tgt := 40) dK_d_24.2.2.1 rfl <|
    (aX11_none_j40 C v1 v2 (-3) h6))))

abbrev rmX11_undo : Room := { frames := 1, cells := 0, slots := 0, locals := 21 }
def X11_undo  (h : AH) : Option (Int32 × AH) :=
    if (h.1 0 16) = 0 then (bd (X11_no (-3) h) fun r2 h3 =>
    some (r2, h3))
    else (vl (sI h 0 16 ((h.1 0 16) - 1)) fun h1 =>
    ck (h1.1 0 16) 24 (some ((h1.1 10 (h1.1 0 16).toNatClampNeg), h1)))
set_option maxRecDepth 100000 in
theorem c_X11_undo (l : Launch)  : MC l yX11_undo cX11_undo 1 (some .int) rmX11_undo ZR [.ref 0] rvI (X11_undo) :=
  MC.of (own := RX11) pn_RX11 rfl (Nat.le_of_ble_eq_true rfl) fun X yd A h _ C =>
    aw_aload_n (pc := 0) C (i := 0) dK_d_27.1 rfl rfl <|
    aw_getI (pc := 1) C dK_d_27.2.1 fl_X11_147 sR_0 rfl <|
    aw_if_ne (pc := 4) C (tgt := 14) dK_d_27.2.2.1 rfl (fun _ =>
    aw_aload_n (pc := 7) C (i := 0) dK_d_27.2.2.2.1 rfl rfl <|
    aw_bipush (pc := 8) C (v := (-3)) dK_d_27.2.2.2.2.1 rfl <|
    aw_callF (pc := 10) C (cr_V (rest := []) (F := (X11_no (-3))) C (c_X11_no X.2.1 (-3)) dK_d_27.2.2.2.2.2.1 mf_X11_no ml_X11_115 im_X11_no se_X11_no sR_0 rfl ⟨(Nat.le_of_ble_eq_true rfl), (Nat.le_of_ble_eq_true rfl)⟩ rfl rfl (Nat.le_of_ble_eq_true rfl)) rfl rfl rfl (Nat.zero_le _) (Nat.zero_le _) fun r2 h3 =>
    aw_iret (pc := 13) C dK_d_27.2.2.2.2.2.2.1 rfl rfl) (fun _ =>
    aw_aload_n (pc := 14) C (i := 0) dK_d_27.2.2.2.2.2.2.2.1 rfl rfl <|
    aw_dup (pc := 15) C dK_d_28.1 rfl <|
    aw_getI (pc := 16) C dK_d_28.2.1 fl_X11_147 sR_0 rfl <|
    aw_iconst (pc := 19) C (v := 1) dK_d_28.2.2.1 rfl <|
    aw_isub (pc := 20) C dK_d_28.2.2.2.1 <|
    aw_putI (pc := 21) C dK_d_28.2.2.2.2.1 fp_X11_147 sR_0 rfl fun h1 =>
    aw_aload_n (pc := 24) C (i := 0) dK_d_28.2.2.2.2.2.1 rfl rfl <|
    aw_getR (pc := 25) C (b := 10) dK_d_28.2.2.2.2.2.2.1 fl_X11_37 sR_0 rfl rR_0_9 <|
    aw_aload_n (pc := 28) C (i := 0) dK_d_28.2.2.2.2.2.2.2.1 rfl rfl <|
    aw_getI (pc := 29) C dK_d_29.1 fl_X11_147 sR_0 rfl <|
    aw_iald (pc := 32) C dK_d_29.2.1 sR_10 rfl <|
    aw_iret (pc := 33) C dK_d_29.2.2.1 rfl rfl)

abbrev rmX11_tried : Room := { frames := 1, cells := 0, slots := 0, locals := 23 }
def X11_tried_j21  (h : AH) : Option (Int32 × AH) :=
    bd (X11_no (-1) h) fun r3 h4 =>
    some (r3, h4)
set_option maxRecDepth 100000 in
theorem aX11_tried_j21 {X : MCx} {yd : Dyn} {A : Nat → Prop} (C : OK X cX11_tried RX11 5 (some .int) rmX11_tried A)  (h : AH) : AW X 5 ZR yd A 0 0 (QF X rmX11_tried ZR yd rvI A) 21 [(0, .ref 0)] [] h (X11_tried_j21 h) := by
    exact aw_aload_n (pc := 21) C (i := 0) dK_d_31.2.2.2.1 rfl rfl <|
    aw_iconst (pc := 22) C (v := (-1)) dK_d_31.2.2.2.2.1 rfl <|
    aw_callF (pc := 23) C (cr_V (rest := []) (F := (X11_no (-1))) C (c_X11_no X.2.1 (-1)) dK_d_31.2.2.2.2.2.1 mf_X11_no ml_X11_115 im_X11_no se_X11_no sR_0 rfl ⟨(Nat.le_of_ble_eq_true rfl), (Nat.le_of_ble_eq_true rfl)⟩ rfl rfl (Nat.le_of_ble_eq_true rfl)) rfl rfl rfl (Nat.zero_le _) (Nat.zero_le _) fun r3 h4 =>
    aw_iret (pc := 26) C dK_d_31.2.2.2.2.2.2.1 rfl rfl
def X11_tried_j70  (v1 : Int32) (v3 : Int32) (v4 : Int32) (K32 : Int32 → Int32 → AH → Option (Int32 × AH)) (h : AH) : Option (Int32 × AH) :=
    vl (v4 + 1) fun x8 =>
    K32 v3 x8 h
set_option maxRecDepth 100000 in
theorem aX11_tried_j70 {X : MCx} {yd : Dyn} {A : Nat → Prop} (C : OK X cX11_tried RX11 5 (some .int) rmX11_tried A)  (v1 : Int32) (v3 : Int32) (v4 : Int32) (K32 : Int32 → Int32 → AH → Option (Int32 × AH)) (hK32 : ∀ (w3 : Int32) (w4 : Int32) (h : AH), AW X 5 ZR yd A 0 0 (QF X rmX11_tried ZR yd rvI A) 32 [(0, .ref 0), (1, .int v1), (3, .int w3), (4, .int w4)] [] h (K32 w3 w4 h)) (h : AH) : AW X 5 ZR yd A 0 0 (QF X rmX11_tried ZR yd rvI A) 70 [(0, .ref 0), (1, .int v1), (3, .int v3), (4, .int v4)] [] h (X11_tried_j70 v1 v3 v4 K32 h) := by
    exact aw_iincV (pc := 70) C (i := 4) (cst := 1) (fun x8 => [(0, .ref 0), (1, .int v1), (3, .int v3), (4, .int x8)]) dK_d_34.2.2.2.2.2.2.1 rfl rfl (by decide) (fun _ => rfl) fun x8 =>
    aw_goto (pc := 73) C (tgt := 32) dK_d_34.2.2.2.2.2.2.2.1 rfl <|
    (hK32 v3 x8 h)
def X11_tried_l32  (v1 : Int32) : Nat → Int32 → Int32 → AH → Option (Int32 × AH)
  | 0, _, _, _ => none
  | n + 1, v3, v4, h =>
    if (h.1 0 16) ≤ v4 then (some ((-9), h))
    else (ck v4 24 (if (h.1 10 v4.toNatClampNeg) = v1 then (if v3 = 0 then (ck v4 24 (some ((h.1 11 v4.toNatClampNeg), h)))
    else (vl (v3 + (-1)) fun x7 =>
    X11_tried_j70 v1 x7 v4 (X11_tried_l32 v1 n) h))
    else (X11_tried_j70 v1 v3 v4 (X11_tried_l32 v1 n) h)))
set_option maxRecDepth 100000 in
theorem aX11_tried_l32 {X : MCx} {yd : Dyn} {A : Nat → Prop} (C : OK X cX11_tried RX11 5 (some .int) rmX11_tried A)  (v1 : Int32) : ∀ (n : Nat) (v3 : Int32) (v4 : Int32) (h : AH), AW X 5 ZR yd A 0 0 (QF X rmX11_tried ZR yd rvI A) 32 [(0, .ref 0), (1, .int v1), (3, .int v3), (4, .int v4)] [] h (X11_tried_l32 v1 n v3 v4 h) := by
  intro n
  induction n with
  | zero => intro v3 v4 h; exact aw_none
  | succ n ih =>
    intro v3 v4 h
    exact aw_iload (pc := 32) C (i := 4) dK_d_32.2.2.2.1 rfl <|
    aw_aload_n (pc := 34) C (i := 0) dK_d_32.2.2.2.2.1 rfl rfl <|
    aw_getI (pc := 35) C dK_d_32.2.2.2.2.2.1 fl_X11_147 sR_0 rfl <|
    aw_icmp_ge (pc := 38) C (tgt := 76) dK_d_32.2.2.2.2.2.2.1 rfl (fun _ =>
    aw_bipush (pc := 76) C (v := (-9)) dK_d_35.1 rfl <|
    aw_iret (pc := 78) C dK_d_35.2.1 rfl rfl) (fun _ =>
    aw_aload_n (pc := 41) C (i := 0) dK_d_32.2.2.2.2.2.2.2.1 rfl rfl <|
    aw_getR (pc := 42) C (b := 10) dK_d_33.1 fl_X11_37 sR_0 rfl rR_0_9 <|
    aw_iload (pc := 45) C (i := 4) dK_d_33.2.1 rfl <|
    aw_iald (pc := 47) C dK_d_33.2.2.1 sR_10 rfl <|
    aw_iload_n (pc := 48) C (i := 1) dK_d_33.2.2.2.1 rfl rfl <|
    aw_icmp_eq (pc := 49) C (tgt := 55) dK_d_33.2.2.2.2.1 rfl (fun _ =>
    aw_iload_n (pc := 55) C (i := 3) dK_d_33.2.2.2.2.2.2.1 rfl rfl <|
    aw_if_ne (pc := 56) C (tgt := 67) dK_d_33.2.2.2.2.2.2.2.1 rfl (fun _ =>
    aw_aload_n (pc := 59) C (i := 0) dK_d_34.1 rfl rfl <|
    aw_getR (pc := 60) C (b := 11) dK_d_34.2.1 fl_X11_40 sR_0 rfl rR_0_10 <|
    aw_iload (pc := 63) C (i := 4) dK_d_34.2.2.1 rfl <|
    aw_iald (pc := 65) C dK_d_34.2.2.2.1 sR_11 rfl <|
    aw_iret (pc := 66) C dK_d_34.2.2.2.2.1 rfl rfl) (fun _ =>
    aw_iincV (pc := 67) C (i := 3) (cst := (-1)) (fun x7 => [(0, .ref 0), (1, .int v1), (3, .int x7), (4, .int v4)]) dK_d_34.2.2.2.2.2.1 rfl rfl (by decide) (fun _ => rfl) fun x7 =>
    (aX11_tried_j70 C v1 x7 v4 (X11_tried_l32 v1 n) ih h))) (fun _ =>
    aw_goto (pc := 52) C (tgt := 70) dK_d_33.2.2.2.2.2.1 rfl <|
    (aX11_tried_j70 C v1 v3 v4 (X11_tried_l32 v1 n) ih h)))
def X11_tried (v1 : Int32) (v2 : Int32) (h : AH) : Option (Int32 × AH) :=
    bd (X11_isJumper v1 h) fun r1 h2 =>
    if r1 = 0 then (X11_tried_j21 h2)
    else (if v2 < 0 then (X11_tried_j21 h2)
    else (bd (X11_triesOf v1 h2) fun r5 h6 =>
    if v2 < r5 then (X11_tried_l32 v1 FU v2 0 h6)
    else (X11_tried_j21 h6)))
set_option maxRecDepth 100000 in
theorem c_X11_tried (l : Launch) (v1 : Int32) (v2 : Int32) : MC l yX11_tried cX11_tried 5 (some .int) rmX11_tried ZR [.ref 0, .int v1, .int v2] rvI (X11_tried v1 v2) :=
  MC.of (own := RX11) pn_RX11 rfl (Nat.le_of_ble_eq_true rfl) fun X yd A h _ C =>
    aw_aload_n (pc := 0) C (i := 0) dK_d_30.1 rfl rfl <|
    aw_iload_n (pc := 1) C (i := 1) dK_d_30.2.1 rfl rfl <|
    aw_callF (pc := 2) C (cr_V (rest := []) (F := (X11_isJumper v1)) C (c_X11_isJumper X.2.1 v1) dK_d_30.2.2.1 mf_X11_isJumper ml_X11_207 im_X11_isJumper se_X11_isJumper sR_0 rfl ⟨(Nat.le_of_ble_eq_true rfl), (Nat.le_of_ble_eq_true rfl)⟩ rfl rfl (Nat.le_of_ble_eq_true rfl)) rfl rfl rfl (Nat.zero_le _) (Nat.zero_le _) fun r1 h2 =>
    aw_if_eq (pc := 5) C (tgt := 21) dK_d_30.2.2.2.1 rfl (fun _ =>
    aw_drop [0] (aX11_tried_j21 C h2)) (fun _ =>
    aw_iload_n (pc := 8) C (i := 2) dK_d_30.2.2.2.2.1 rfl rfl <|
    aw_if_lt (pc := 9) C (tgt := 21) dK_d_30.2.2.2.2.2.1 rfl (fun _ =>
    aw_drop [0] (aX11_tried_j21 C h2)) (fun _ =>
    aw_iload_n (pc := 12) C (i := 2) dK_d_30.2.2.2.2.2.2.1 rfl rfl <|
    aw_aload_n (pc := 13) C (i := 0) dK_d_30.2.2.2.2.2.2.2.1 rfl rfl <|
    aw_iload_n (pc := 14) C (i := 1) dK_d_31.1 rfl rfl <|
    aw_callF (pc := 15) C (cr_V (rest := [.int v2]) (F := (X11_triesOf v1)) C (c_X11_triesOf X.2.1 v1) dK_d_31.2.1 mf_X11_triesOf ml_X11_217 im_X11_triesOf se_X11_triesOf sR_0 rfl ⟨(Nat.le_of_ble_eq_true rfl), (Nat.le_of_ble_eq_true rfl)⟩ rfl rfl (Nat.le_of_ble_eq_true rfl)) rfl rfl rfl (Nat.zero_le _) (Nat.zero_le _) fun r5 h6 =>
    aw_icmp_lt (pc := 18) C (tgt := 27) dK_d_31.2.2.1 rfl (fun _ =>
    aw_iload_n (pc := 27) C (i := 2) dK_d_31.2.2.2.2.2.2.2.1 rfl rfl <|
    aw_istore_n (pc := 28) C (i := 3) (lv' := [(0, .ref 0), (1, .int v1), (2, .int v2), (3, .int v2)]) dK_d_32.1 rfl (by decide) rfl <|
    aw_iconst (pc := 29) C (v := 0) dK_d_32.2.1 rfl <|
    aw_istore (pc := 30) C (i := 4) (lv' := [(0, .ref 0), (1, .int v1), (2, .int v2), (3, .int v2), (4, .int 0)]) dK_d_32.2.2.1 (by decide) rfl <|
    aw_drop [0, 1, 3, 4] (aX11_tried_l32 C v1 FU v2 0 h6)) (fun _ =>
    aw_drop [0] (aX11_tried_j21 C h6))))

abbrev rmX11_rankOf : Room := { frames := 0, cells := 0, slots := 0, locals := 0 }
def X11_rankOf_l2  (v1 : Int32) : Nat → Int32 → AH → Option (Int32 × AH)
  | 0, _, _ => none
  | n + 1, v2, h =>
    if (h.1 0 15) ≤ v2 then (some ((-9), h))
    else (ck v2 4 (if (h.1 22 v2.toNatClampNeg) = v1 then (some (v2, h))
    else (vl (v2 + 1) fun x1 =>
    (X11_rankOf_l2 v1 n) x1 h)))
set_option maxRecDepth 100000 in
theorem aX11_rankOf_l2 {X : MCx} {yd : Dyn} {A : Nat → Prop} (C : OK X cX11_rankOf RX11 3 (some .int) rmX11_rankOf A)  (v1 : Int32) : ∀ (n : Nat) (v2 : Int32) (h : AH), AW X 3 ZR yd A 0 0 (QF X rmX11_rankOf ZR yd rvI A) 2 [(0, .ref 0), (1, .int v1), (2, .int v2)] [] h (X11_rankOf_l2 v1 n v2 h) := by
  intro n
  induction n with
  | zero => intro v2 h; exact aw_none
  | succ n ih =>
    intro v2 h
    exact aw_iload_n (pc := 2) C (i := 2) dK_d_36.2.2.1 rfl rfl <|
    aw_aload_n (pc := 3) C (i := 0) dK_d_36.2.2.2.1 rfl rfl <|
    aw_getI (pc := 4) C dK_d_36.2.2.2.2.1 fl_X11_105 sR_0 rfl <|
    aw_icmp_ge (pc := 7) C (tgt := 28) dK_d_36.2.2.2.2.2.1 rfl (fun _ =>
    aw_bipush (pc := 28) C (v := (-9)) dK_d_38.1 rfl <|
    aw_iret (pc := 30) C dK_d_38.2.1 rfl rfl) (fun _ =>
    aw_aload_n (pc := 10) C (i := 0) dK_d_36.2.2.2.2.2.2.1 rfl rfl <|
    aw_getR (pc := 11) C (b := 22) dK_d_36.2.2.2.2.2.2.2.1 fl_X11_74 sR_0 rfl rR_0_32 <|
    aw_iload_n (pc := 14) C (i := 2) dK_d_37.1 rfl rfl <|
    aw_iald (pc := 15) C dK_d_37.2.1 sR_22 rfl <|
    aw_iload_n (pc := 16) C (i := 1) dK_d_37.2.2.1 rfl rfl <|
    aw_icmp_ne (pc := 17) C (tgt := 22) dK_d_37.2.2.2.1 rfl (fun _ =>
    aw_iload_n (pc := 20) C (i := 2) dK_d_37.2.2.2.2.1 rfl rfl <|
    aw_iret (pc := 21) C dK_d_37.2.2.2.2.2.1 rfl rfl) (fun _ =>
    aw_iincV (pc := 22) C (i := 2) (cst := 1) (fun x1 => [(0, .ref 0), (1, .int v1), (2, .int x1)]) dK_d_37.2.2.2.2.2.2.1 rfl rfl (by decide) (fun _ => rfl) fun x1 =>
    aw_goto (pc := 25) C (tgt := 2) dK_d_37.2.2.2.2.2.2.2.1 rfl <|
    (ih x1 h)))
def X11_rankOf (v1 : Int32) (h : AH) : Option (Int32 × AH) :=
    X11_rankOf_l2 v1 FU 0 h
set_option maxRecDepth 100000 in
theorem c_X11_rankOf (l : Launch) (v1 : Int32) : MC l yX11_rankOf cX11_rankOf 3 (some .int) rmX11_rankOf ZR [.ref 0, .int v1] rvI (X11_rankOf v1) :=
  MC.of (own := RX11) pn_RX11 rfl (Nat.le_of_ble_eq_true rfl) fun X yd A h _ C =>
    aw_iconst (pc := 0) C (v := 0) dK_d_36.1 rfl <|
    aw_istore_n (pc := 1) C (i := 2) (lv' := [(0, .ref 0), (1, .int v1), (2, .int 0)]) dK_d_36.2.1 rfl (by decide) rfl <|
    (aX11_rankOf_l2 C v1 FU 0 h)
end
section
abbrev rmX11_isEnough : Room := { frames := 4, cells := 0, slots := 0, locals := 90 }
def X11_isEnough (v1 : Int32) (v2 : Int32) (v3 : Int32) (h : AH) : Option (Int32 × AH) :=
    bd (X11_findBest 0 (h.1 0 16) h) fun _ h2 =>
    bd (X11_comesLength v1 v2 h2) fun _ h4 =>
    bd (X11_sorts h4) fun _ h6 =>
    bd (X11_rankOf v1 h6) fun r7 h8 =>
    if v3 ≤ r7 then (cz 0 (some (0, h8)))
    else (cz 1 (some (1, h8)))
set_option maxRecDepth 100000 in
theorem c_X11_isEnough (l : Launch) (v1 : Int32) (v2 : Int32) (v3 : Int32) : MC l yX11_isEnough cX11_isEnough 4 (some .boolean) rmX11_isEnough ZR [.ref 0, .int v1, .int v2, .int v3] rvI (X11_isEnough v1 v2 v3) :=
  MC.of (own := RX11) pn_RX11 rfl (Nat.le_of_ble_eq_true rfl) fun X yd A h _ C =>
    aw_aload_n (pc := 0) C (i := 0) dK_d_39.1 rfl rfl <|
    aw_iconst (pc := 1) C (v := 0) dK_d_39.2.1 rfl <|
    aw_aload_n (pc := 2) C (i := 0) dK_d_39.2.2.1 rfl rfl <|
    aw_getI (pc := 3) C dK_d_39.2.2.2.1 fl_X11_147 sR_0 rfl <|
    aw_callF (pc := 6) C (cr_V (rest := []) (F := (X11_findBest 0 (h.1 0 16))) C (c_X11_findBest X.2.1 0 (h.1 0 16)) dK_d_39.2.2.2.2.1 mf_X11_findBest ml_X11_213 im_X11_findBest se_X11_findBest sR_0 rfl ⟨(Nat.le_of_ble_eq_true rfl), (Nat.le_of_ble_eq_true rfl)⟩ rfl rfl (Nat.le_of_ble_eq_true rfl)) rfl rfl rfl (Nat.zero_le _) (Nat.zero_le _) fun _ h2 =>
    aw_aload_n (pc := 9) C (i := 0) dK_d_39.2.2.2.2.2.1 rfl rfl <|
    aw_iload_n (pc := 10) C (i := 1) dK_d_39.2.2.2.2.2.2.1 rfl rfl <|
    aw_iload_n (pc := 11) C (i := 2) dK_d_39.2.2.2.2.2.2.2.1 rfl rfl <|
    aw_callF (pc := 12) C (cr_V (rest := []) (F := (X11_comesLength v1 v2)) C (c_X11_comesLength X.2.1 v1 v2) dK_d_40.1 mf_X11_comesLength ml_X11_262 im_X11_comesLength se_X11_comesLength sR_0 rfl ⟨(Nat.le_of_ble_eq_true rfl), (Nat.le_of_ble_eq_true rfl)⟩ rfl rfl (Nat.le_of_ble_eq_true rfl)) rfl rfl rfl (Nat.zero_le _) (Nat.zero_le _) fun _ h4 =>
    aw_aload_n (pc := 15) C (i := 0) dK_d_40.2.1 rfl rfl <|
    aw_callF (pc := 16) C (cr_V (rest := []) (F := X11_sorts) C (c_X11_sorts X.2.1 ) dK_d_40.2.2.1 mf_X11_sorts ml_X11_268 im_X11_sorts se_X11_sorts sR_0 rfl ⟨(Nat.le_of_ble_eq_true rfl), (Nat.le_of_ble_eq_true rfl)⟩ rfl rfl (Nat.le_of_ble_eq_true rfl)) rfl rfl rfl (Nat.zero_le _) (Nat.zero_le _) fun _ h6 =>
    aw_aload_n (pc := 19) C (i := 0) dK_d_40.2.2.2.1 rfl rfl <|
    aw_iload_n (pc := 20) C (i := 1) dK_d_40.2.2.2.2.1 rfl rfl <|
    aw_callF (pc := 21) C (cr_V (rest := []) (F := (X11_rankOf v1)) C (c_X11_rankOf X.2.1 v1) dK_d_40.2.2.2.2.2.1 mf_X11_rankOf ml_X11_274 im_X11_rankOf se_X11_rankOf sR_0 rfl ⟨(Nat.le_of_ble_eq_true rfl), (Nat.le_of_ble_eq_true rfl)⟩ rfl rfl (Nat.le_of_ble_eq_true rfl)) rfl rfl rfl (Nat.zero_le _) (Nat.zero_le _) fun r7 h8 =>
    aw_iload_n (pc := 24) C (i := 3) dK_d_40.2.2.2.2.2.2.1 rfl rfl <|
    aw_icmp_ge (pc := 25) C (tgt := 32) dK_d_40.2.2.2.2.2.2.2.1 rfl (fun _ =>
    aw_iconst (pc := 32) C (v := 0) dK_d_41.2.2.1 rfl <|
    aw_zret (pc := 33) C dK_d_41.2.2.2.1 rfl rfl) (fun _ =>
    aw_iconst (pc := 28) C (v := 1) dK_d_41.1 rfl <|
    aw_goto (pc := 29) C (tgt := 33) dK_d_41.2.1 rfl <|
    aw_zret (pc := 33) C dK_d_41.2.2.2.1 rfl rfl)

abbrev rmX11_needs : Room := { frames := 5, cells := 0, slots := 0, locals := 113 }
def X11_needs_j65  (v1 : Int32) (v2 : Int32) (v4 : Int32) (K41 : Int32 → AH → Option (Int32 × AH)) (s0 : Int32) (s1 : Int32) (s2 : Int32) (h : AH) : Option (Int32 × AH) :=
    bd (X11_isEnough s2 s1 s0 h) fun r7 h8 =>
    if r7 = 0 then (vl (v4 + 1) fun x9 =>
    K41 x9 h8)
    else (some (v4, h8))
set_option maxRecDepth 100000 in
theorem aX11_needs_j65 {X : MCx} {yd : Dyn} {A : Nat → Prop} (C : OK X cX11_needs RX11 5 (some .int) rmX11_needs A)  (v1 : Int32) (v2 : Int32) (v4 : Int32) (K41 : Int32 → AH → Option (Int32 × AH)) (hK41 : ∀ (w4 : Int32) (h : AH), AW X 5 ZR yd A 0 0 (QF X rmX11_needs ZR yd rvI A) 41 [(0, .ref 0), (1, .int v1), (2, .int v2), (4, .int w4)] [] h (K41 w4 h)) (s0 : Int32) (s1 : Int32) (s2 : Int32) (h : AH) : AW X 5 ZR yd A 0 0 (QF X rmX11_needs ZR yd rvI A) 65 [(0, .ref 0), (1, .int v1), (2, .int v2), (4, .int v4)] [.int s0, .int s1, .int s2, .ref 0] h (X11_needs_j65 v1 v2 v4 K41 s0 s1 s2 h) := by
    exact aw_callF (pc := 65) C (cr_V (rest := []) (F := (X11_isEnough s2 s1 s0)) C (c_X11_isEnough X.2.1 s2 s1 s0) dK_d_46.2.2.2.1 mf_X11_isEnough ml_X11_277 im_X11_isEnough se_X11_isEnough sR_0 rfl ⟨(Nat.le_of_ble_eq_true rfl), (Nat.le_of_ble_eq_true rfl)⟩ rfl rfl (Nat.le_of_ble_eq_true rfl)) rfl rfl rfl (Nat.zero_le _) (Nat.zero_le _) fun r7 h8 =>
    aw_if_eq (pc := 68) C (tgt := 74) dK_d_46.2.2.2.2.1 rfl (fun _ =>
    aw_iincV (pc := 74) C (i := 4) (cst := 1) (fun x9 => [(0, .ref 0), (1, .int v1), (2, .int v2), (4, .int x9)]) dK_d_46.2.2.2.2.2.2.2.1 rfl rfl (by decide) (fun _ => rfl) fun x9 =>
    aw_goto (pc := 77) C (tgt := 41) dK_d_47.1 rfl <|
    (hK41 x9 h8)) (fun _ =>
    aw_iload (pc := 71) C (i := 4) dK_d_46.2.2.2.2.2.1 rfl <|
    aw_iret (pc := 73) C dK_d_46.2.2.2.2.2.2.1 rfl rfl)
def X11_needs_l41  (v1 : Int32) (v2 : Int32) : Nat → Int32 → AH → Option (Int32 × AH)
  | 0, _, _ => none
  | n + 1, v4, h =>
    if 1000 ≤ v4 then (some ((-9), h))
    else (if v2 = 0 then (X11_needs_j65 v1 v2 v4 (X11_needs_l41 v1 v2 n) 1 v4 v1 h)
    else (bd (X11_finalists h) fun r5 h6 =>
    X11_needs_j65 v1 v2 v4 (X11_needs_l41 v1 v2 n) r5 v4 v1 h6))
set_option maxRecDepth 100000 in
theorem aX11_needs_l41 {X : MCx} {yd : Dyn} {A : Nat → Prop} (C : OK X cX11_needs RX11 5 (some .int) rmX11_needs A)  (v1 : Int32) (v2 : Int32) : ∀ (n : Nat) (v4 : Int32) (h : AH), AW X 5 ZR yd A 0 0 (QF X rmX11_needs ZR yd rvI A) 41 [(0, .ref 0), (1, .int v1), (2, .int v2), (4, .int v4)] [] h (X11_needs_l41 v1 v2 n v4 h) := by
  intro n
  induction n with
  | zero => intro v4 h; exact aw_none
  | succ n ih =>
    intro v4 h
    exact aw_iload (pc := 41) C (i := 4) dK_d_44.2.2.2.2.2.2.2.1 rfl <|
    aw_sipush (pc := 43) C (v := 1000) dK_d_45.1 rfl <|
    aw_icmp_ge (pc := 46) C (tgt := 80) dK_d_45.2.1 rfl (fun _ =>
    aw_bipush (pc := 80) C (v := (-9)) dK_d_47.2.1 rfl <|
    aw_iret (pc := 82) C dK_d_47.2.2.1 rfl rfl) (fun _ =>
    aw_aload_n (pc := 49) C (i := 0) dK_d_45.2.2.1 rfl rfl <|
    aw_iload_n (pc := 50) C (i := 1) dK_d_45.2.2.2.1 rfl rfl <|
    aw_iload (pc := 51) C (i := 4) dK_d_45.2.2.2.2.1 rfl <|
    aw_iload_n (pc := 53) C (i := 2) dK_d_45.2.2.2.2.2.1 rfl rfl <|
    aw_if_ne (pc := 54) C (tgt := 61) dK_d_45.2.2.2.2.2.2.1 rfl (fun _ =>
    aw_iconst (pc := 57) C (v := 1) dK_d_45.2.2.2.2.2.2.2.1 rfl <|
    aw_goto (pc := 58) C (tgt := 65) dK_d_46.1 rfl <|
    (aX11_needs_j65 C v1 v2 v4 (X11_needs_l41 v1 v2 n) ih 1 v4 v1 h)) (fun _ =>
    aw_aload_n (pc := 61) C (i := 0) dK_d_46.2.1 rfl rfl <|
    aw_callF (pc := 62) C (cr_V (rest := [.int v4, .int v1, .ref 0]) (F := X11_finalists) C (c_X11_finalists X.2.1 ) dK_d_46.2.2.1 mf_X11_finalists ml_X11_271 im_X11_finalists se_X11_finalists sR_0 rfl ⟨(Nat.le_of_ble_eq_true rfl), (Nat.le_of_ble_eq_true rfl)⟩ rfl rfl (Nat.le_of_ble_eq_true rfl)) rfl rfl rfl (Nat.zero_le _) (Nat.zero_le _) fun r5 h6 =>
    (aX11_needs_j65 C v1 v2 v4 (X11_needs_l41 v1 v2 n) ih r5 v4 v1 h6)))
def X11_needs_j27  (v1 : Int32) (v2 : Int32) (s0 : Int32) (h : AH) : Option (Int32 × AH) :=
    if s0 = 0 then (X11_needs_l41 v1 v2 FU 0 h)
    else (bd (X11_no s0 h) fun r10 h11 =>
    some (r10, h11))
set_option maxRecDepth 100000 in
theorem aX11_needs_j27 {X : MCx} {yd : Dyn} {A : Nat → Prop} (C : OK X cX11_needs RX11 5 (some .int) rmX11_needs A)  (v1 : Int32) (v2 : Int32) (s0 : Int32) (h : AH) : AW X 5 ZR yd A 0 0 (QF X rmX11_needs ZR yd rvI A) 27 [(0, .ref 0), (1, .int v1), (2, .int v2)] [.int s0] h (X11_needs_j27 v1 v2 s0 h) := by
    exact aw_istore_n (pc := 27) C (i := 3) (lv' := [(0, .ref 0), (1, .int v1), (2, .int v2), (3, .int s0)]) dK_d_43.2.2.2.2.2.2.1 rfl (by decide) rfl <|
    aw_iload_n (pc := 28) C (i := 3) dK_d_43.2.2.2.2.2.2.2.1 rfl rfl <|
    aw_if_eq (pc := 29) C (tgt := 38) dK_d_44.1 rfl (fun _ =>
    aw_iconst (pc := 38) C (v := 0) dK_d_44.2.2.2.2.2.1 rfl <|
    aw_istore (pc := 39) C (i := 4) (lv' := [(0, .ref 0), (1, .int v1), (2, .int v2), (3, .int s0), (4, .int 0)]) dK_d_44.2.2.2.2.2.2.1 (by decide) rfl <|
    aw_drop [0, 1, 2, 4] (aX11_needs_l41 C v1 v2 FU 0 h)) (fun _ =>
    aw_aload_n (pc := 32) C (i := 0) dK_d_44.2.1 rfl rfl <|
    aw_iload_n (pc := 33) C (i := 3) dK_d_44.2.2.1 rfl rfl <|
    aw_callF (pc := 34) C (cr_V (rest := []) (F := (X11_no s0)) C (c_X11_no X.2.1 s0) dK_d_44.2.2.2.1 mf_X11_no ml_X11_115 im_X11_no se_X11_no sR_0 rfl ⟨(Nat.le_of_ble_eq_true rfl), (Nat.le_of_ble_eq_true rfl)⟩ rfl rfl (Nat.le_of_ble_eq_true rfl)) rfl rfl rfl (Nat.zero_le _) (Nat.zero_le _) fun r10 h11 =>
    aw_iret (pc := 37) C dK_d_44.2.2.2.2.1 rfl rfl)
def X11_needs (v1 : Int32) (v2 : Int32) (h : AH) : Option (Int32 × AH) :=
    bd (X11_isJumper v1 h) fun r1 h2 =>
    if r1 = 0 then (X11_needs_j27 v1 v2 (-1) h2)
    else (bd (X11_isIn v2 0 1 h2) fun r3 h4 =>
    if r3 = 0 then (X11_needs_j27 v1 v2 (-2) h4)
    else (X11_needs_j27 v1 v2 0 h4))
set_option maxRecDepth 100000 in
theorem c_X11_needs (l : Launch) (v1 : Int32) (v2 : Int32) : MC l yX11_needs cX11_needs 5 (some .int) rmX11_needs ZR [.ref 0, .int v1, .int v2] rvI (X11_needs v1 v2) :=
  MC.of (own := RX11) pn_RX11 rfl (Nat.le_of_ble_eq_true rfl) fun X yd A h _ C =>
    aw_aload_n (pc := 0) C (i := 0) dK_d_42.1 rfl rfl <|
    aw_iload_n (pc := 1) C (i := 1) dK_d_42.2.1 rfl rfl <|
    aw_callF (pc := 2) C (cr_V (rest := []) (F := (X11_isJumper v1)) C (c_X11_isJumper X.2.1 v1) dK_d_42.2.2.1 mf_X11_isJumper ml_X11_207 im_X11_isJumper se_X11_isJumper sR_0 rfl ⟨(Nat.le_of_ble_eq_true rfl), (Nat.le_of_ble_eq_true rfl)⟩ rfl rfl (Nat.le_of_ble_eq_true rfl)) rfl rfl rfl (Nat.zero_le _) (Nat.zero_le _) fun r1 h2 =>
    aw_if_ne (pc := 5) C (tgt := 12) dK_d_42.2.2.2.1 rfl (fun _ =>
    aw_iconst (pc := 8) C (v := (-1)) dK_d_42.2.2.2.2.1 rfl <|
    aw_goto (pc := 9) C (tgt := 27) dK_d_42.2.2.2.2.2.1 rfl <|
    (aX11_needs_j27 C v1 v2 (-1) h2)) (fun _ =>
    aw_iload_n (pc := 12) C (i := 2) dK_d_42.2.2.2.2.2.2.1 rfl rfl <|
    aw_iconst (pc := 13) C (v := 0) dK_d_42.2.2.2.2.2.2.2.1 rfl <|
    aw_iconst (pc := 14) C (v := 1) dK_d_43.1 rfl <|
    aw_callF (pc := 15) C (cr_S (rest := []) (F := (X11_isIn v2 0 1)) C (c_X11_isIn X.2.1 v2 0 1) dK_d_43.2.1 mf_X11_isIn ml_X11_126 st_X11_isIn ⟨(Nat.le_of_ble_eq_true rfl), (Nat.le_of_ble_eq_true rfl)⟩ rfl rfl (Nat.le_of_ble_eq_true rfl)) rfl rfl rfl (Nat.zero_le _) (Nat.zero_le _) fun r3 h4 =>
    aw_if_ne (pc := 18) C (tgt := 26) dK_d_43.2.2.1 rfl (fun _ =>
    aw_bipush (pc := 21) C (v := (-2)) dK_d_43.2.2.2.1 rfl <|
    aw_goto (pc := 23) C (tgt := 27) dK_d_43.2.2.2.2.1 rfl <|
    (aX11_needs_j27 C v1 v2 (-2) h4)) (fun _ =>
    aw_iconst (pc := 26) C (v := 0) dK_d_43.2.2.2.2.2.1 rfl <|
    (aX11_needs_j27 C v1 v2 0 h4)))

abbrev rmX11_ranks : Room := { frames := 4, cells := 0, slots := 0, locals := 90 }
def X11_ranks_l38  : Nat → Int32 → Int32 → AH → Option (Int32 × AH)
  | 0, _, _, _ => none
  | n + 1, v2, v3, h =>
    if v3 < 0 then (some (v2, h))
    else (ck v3 4 (vl ((10 * v2) + (h.1 22 v3.toNatClampNeg)) fun x8 =>
    vl (v3 + (-1)) fun x9 =>
    (X11_ranks_l38 n) x8 x9 h))
set_option maxRecDepth 100000 in
theorem aX11_ranks_l38 {X : MCx} {yd : Dyn} {A : Nat → Prop} (C : OK X cX11_ranks RX11 4 (some .int) rmX11_ranks A)  : ∀ (n : Nat) (v2 : Int32) (v3 : Int32) (h : AH), AW X 4 ZR yd A 0 0 (QF X rmX11_ranks ZR yd rvI A) 38 [(0, .ref 0), (2, .int v2), (3, .int v3)] [] h (X11_ranks_l38 n v2 v3 h) := by
  intro n
  induction n with
  | zero => intro v2 v3 h; exact aw_none
  | succ n ih =>
    intro v2 v3 h
    exact aw_iload_n (pc := 38) C (i := 3) dK_d_50.2.2.2.2.2.2.2.1 rfl rfl <|
    aw_if_lt (pc := 39) C (tgt := 60) dK_d_51.1 rfl (fun _ =>
    aw_iload_n (pc := 60) C (i := 2) dK_d_52.2.2.2.2.1 rfl rfl <|
    aw_iret (pc := 61) C dK_d_52.2.2.2.2.2.1 rfl rfl) (fun _ =>
    aw_bipush (pc := 42) C (v := 10) dK_d_51.2.1 rfl <|
    aw_iload_n (pc := 44) C (i := 2) dK_d_51.2.2.1 rfl rfl <|
    aw_imul (pc := 45) C dK_d_51.2.2.2.1 <|
    aw_aload_n (pc := 46) C (i := 0) dK_d_51.2.2.2.2.1 rfl rfl <|
    aw_getR (pc := 47) C (b := 22) dK_d_51.2.2.2.2.2.1 fl_X11_74 sR_0 rfl rR_0_32 <|
    aw_iload_n (pc := 50) C (i := 3) dK_d_51.2.2.2.2.2.2.1 rfl rfl <|
    aw_iald (pc := 51) C dK_d_51.2.2.2.2.2.2.2.1 sR_22 rfl <|
    aw_iadd (pc := 52) C dK_d_52.1 <|
    aw_istoreV_n (pc := 53) C (i := 2) (fun x8 => [(0, .ref 0), (2, .int x8), (3, .int v3)]) dK_d_52.2.1 rfl (by decide) (fun _ => rfl) fun x8 =>
    aw_iincV (pc := 54) C (i := 3) (cst := (-1)) (fun x9 => [(0, .ref 0), (2, .int x8), (3, .int x9)]) dK_d_52.2.2.1 rfl rfl (by decide) (fun _ => rfl) fun x9 =>
    aw_goto (pc := 57) C (tgt := 38) dK_d_52.2.2.2.1 rfl <|
    (ih x8 x9 h))
def X11_ranks (v1 : Int32) (h : AH) : Option (Int32 × AH) :=
    bd (X11_isIn v1 0 2 h) fun r1 h2 =>
    if r1 = 0 then (bd (X11_no (-2) h2) fun r10 h11 =>
    some (r10, h11))
    else (bd (X11_findBest v1 (h2.1 0 16) h2) fun _ h4 =>
    bd (X11_sorts h4) fun _ h6 =>
    vl ((h6.1 0 15) - 1) fun x7 =>
    X11_ranks_l38 FU 0 x7 h6)
set_option maxRecDepth 100000 in
theorem c_X11_ranks (l : Launch) (v1 : Int32) : MC l yX11_ranks cX11_ranks 4 (some .int) rmX11_ranks ZR [.ref 0, .int v1] rvI (X11_ranks v1) :=
  MC.of (own := RX11) pn_RX11 rfl (Nat.le_of_ble_eq_true rfl) fun X yd A h _ C =>
    aw_iload_n (pc := 0) C (i := 1) dK_d_48.1 rfl rfl <|
    aw_iconst (pc := 1) C (v := 0) dK_d_48.2.1 rfl <|
    aw_iconst (pc := 2) C (v := 2) dK_d_48.2.2.1 rfl <|
    aw_callF (pc := 3) C (cr_S (rest := []) (F := (X11_isIn v1 0 2)) C (c_X11_isIn X.2.1 v1 0 2) dK_d_48.2.2.2.1 mf_X11_isIn ml_X11_126 st_X11_isIn ⟨(Nat.le_of_ble_eq_true rfl), (Nat.le_of_ble_eq_true rfl)⟩ rfl rfl (Nat.le_of_ble_eq_true rfl)) rfl rfl rfl (Nat.zero_le _) (Nat.zero_le _) fun r1 h2 =>
    aw_if_ne (pc := 6) C (tgt := 16) dK_d_48.2.2.2.2.1 rfl (fun _ =>
    aw_aload_n (pc := 9) C (i := 0) dK_d_48.2.2.2.2.2.1 rfl rfl <|
    aw_bipush (pc := 10) C (v := (-2)) dK_d_48.2.2.2.2.2.2.1 rfl <|
    aw_callF (pc := 12) C (cr_V (rest := []) (F := (X11_no (-2))) C (c_X11_no X.2.1 (-2)) dK_d_48.2.2.2.2.2.2.2.1 mf_X11_no ml_X11_115 im_X11_no se_X11_no sR_0 rfl ⟨(Nat.le_of_ble_eq_true rfl), (Nat.le_of_ble_eq_true rfl)⟩ rfl rfl (Nat.le_of_ble_eq_true rfl)) rfl rfl rfl (Nat.zero_le _) (Nat.zero_le _) fun r10 h11 =>
    aw_iret (pc := 15) C dK_d_49.1 rfl rfl) (fun _ =>
    aw_aload_n (pc := 16) C (i := 0) dK_d_49.2.1 rfl rfl <|
    aw_iload_n (pc := 17) C (i := 1) dK_d_49.2.2.1 rfl rfl <|
    aw_aload_n (pc := 18) C (i := 0) dK_d_49.2.2.2.1 rfl rfl <|
    aw_getI (pc := 19) C dK_d_49.2.2.2.2.1 fl_X11_147 sR_0 rfl <|
    aw_callF (pc := 22) C (cr_V (rest := []) (F := (X11_findBest v1 (h2.1 0 16))) C (c_X11_findBest X.2.1 v1 (h2.1 0 16)) dK_d_49.2.2.2.2.2.1 mf_X11_findBest ml_X11_213 im_X11_findBest se_X11_findBest sR_0 rfl ⟨(Nat.le_of_ble_eq_true rfl), (Nat.le_of_ble_eq_true rfl)⟩ rfl rfl (Nat.le_of_ble_eq_true rfl)) rfl rfl rfl (Nat.zero_le _) (Nat.zero_le _) fun _ h4 =>
    aw_aload_n (pc := 25) C (i := 0) dK_d_49.2.2.2.2.2.2.1 rfl rfl <|
    aw_callF (pc := 26) C (cr_V (rest := []) (F := X11_sorts) C (c_X11_sorts X.2.1 ) dK_d_49.2.2.2.2.2.2.2.1 mf_X11_sorts ml_X11_268 im_X11_sorts se_X11_sorts sR_0 rfl ⟨(Nat.le_of_ble_eq_true rfl), (Nat.le_of_ble_eq_true rfl)⟩ rfl rfl (Nat.le_of_ble_eq_true rfl)) rfl rfl rfl (Nat.zero_le _) (Nat.zero_le _) fun _ h6 =>
    aw_iconst (pc := 29) C (v := 0) dK_d_50.1 rfl <|
    aw_istore_n (pc := 30) C (i := 2) (lv' := [(0, .ref 0), (1, .int v1), (2, .int 0)]) dK_d_50.2.1 rfl (by decide) rfl <|
    aw_aload_n (pc := 31) C (i := 0) dK_d_50.2.2.1 rfl rfl <|
    aw_getI (pc := 32) C dK_d_50.2.2.2.1 fl_X11_105 sR_0 rfl <|
    aw_iconst (pc := 35) C (v := 1) dK_d_50.2.2.2.2.1 rfl <|
    aw_isub (pc := 36) C dK_d_50.2.2.2.2.2.1 <|
    aw_istoreV_n (pc := 37) C (i := 3) (fun x7 => [(0, .ref 0), (1, .int v1), (2, .int 0), (3, .int x7)]) dK_d_50.2.2.2.2.2.2.1 rfl (by decide) (fun _ => rfl) fun x7 =>
    aw_drop [0, 2, 3] (aX11_ranks_l38 C FU 0 x7 h6))

abbrev rmX11_leader : Room := { frames := 5, cells := 0, slots := 0, locals := 110 }
def X11_leader  (h : AH) : Option (Int32 × AH) :=
    if (h.1 0 15) = 0 then (some ((-9), h))
    else (bd (X11_ranksNow h) fun _ h2 =>
    ck 0 4 (some ((h2.1 22 (0 : Int32).toNatClampNeg), h2)))
set_option maxRecDepth 100000 in
theorem c_X11_leader (l : Launch)  : MC l yX11_leader cX11_leader 1 (some .int) rmX11_leader ZR [.ref 0] rvI (X11_leader) :=
  MC.of (own := RX11) pn_RX11 rfl (Nat.le_of_ble_eq_true rfl) fun X yd A h _ C =>
    aw_aload_n (pc := 0) C (i := 0) dK_d_53.1 rfl rfl <|
    aw_getI (pc := 1) C dK_d_53.2.1 fl_X11_105 sR_0 rfl <|
    aw_if_ne (pc := 4) C (tgt := 10) dK_d_53.2.2.1 rfl (fun _ =>
    aw_bipush (pc := 7) C (v := (-9)) dK_d_53.2.2.2.1 rfl <|
    aw_iret (pc := 9) C dK_d_53.2.2.2.2.1 rfl rfl) (fun _ =>
    aw_aload_n (pc := 10) C (i := 0) dK_d_53.2.2.2.2.2.1 rfl rfl <|
    aw_callF (pc := 11) C (cr_V (rest := []) (F := X11_ranksNow) C (c_X11_ranksNow X.2.1 ) dK_d_53.2.2.2.2.2.2.1 mf_X11_ranksNow ml_X11_280 im_X11_ranksNow se_X11_ranksNow sR_0 rfl ⟨(Nat.le_of_ble_eq_true rfl), (Nat.le_of_ble_eq_true rfl)⟩ rfl rfl (Nat.le_of_ble_eq_true rfl)) rfl rfl rfl (Nat.zero_le _) (Nat.zero_le _) fun _ h2 =>
    aw_aload_n (pc := 14) C (i := 0) dK_d_53.2.2.2.2.2.2.2.1 rfl rfl <|
    aw_getR (pc := 15) C (b := 22) dK_d_54.1 fl_X11_74 sR_0 rfl rR_0_32 <|
    aw_iconst (pc := 18) C (v := 0) dK_d_54.2.1 rfl <|
    aw_iald (pc := 19) C dK_d_54.2.2.1 sR_22 rfl <|
    aw_iret (pc := 20) C dK_d_54.2.2.2.1 rfl rfl)

abbrev rmX11_leads : Room := { frames := 6, cells := 0, slots := 0, locals := 130 }
def X11_leads  (h : AH) : Option (Int32 × AH) :=
    bd (X11_leader h) fun r1 h2 =>
    some (r1, h2)
set_option maxRecDepth 100000 in
theorem c_X11_leads (l : Launch)  : MC l yX11_leads cX11_leads 1 (some .int) rmX11_leads ZR [.ref 0] rvI (X11_leads) :=
  MC.of (own := RX11) pn_RX11 rfl (Nat.le_of_ble_eq_true rfl) fun X yd A h _ C =>
    aw_aload_n (pc := 0) C (i := 0) dK_d_55.1 rfl rfl <|
    aw_callF (pc := 1) C (cr_V (rest := []) (F := X11_leader) C (c_X11_leader X.2.1 ) dK_d_55.2.1 mf_X11_leader ml_X11_283 im_X11_leader se_X11_leader sR_0 rfl ⟨(Nat.le_of_ble_eq_true rfl), (Nat.le_of_ble_eq_true rfl)⟩ rfl rfl (Nat.le_of_ble_eq_true rfl)) rfl rfl rfl (Nat.zero_le _) (Nat.zero_le _) fun r1 h2 =>
    aw_iret (pc := 4) C dK_d_55.2.2.1 rfl rfl

abbrev rmX11_goOnBits : Room := { frames := 5, cells := 0, slots := 0, locals := 110 }
def X11_goOnBits_l8  : Nat → Int32 → Int32 → AH → Option (Int32 × AH)
  | 0, _, _, _ => none
  | n + 1, v1, v2, h =>
    bd (X11_finalists h) fun r3 h4 =>
    if r3 ≤ v2 then (some (v1, h4))
    else (ck v2 4 (vl (v1 ||| (shl32 1 (h4.1 22 v2.toNatClampNeg))) fun x5 =>
    vl (v2 + 1) fun x6 =>
    (X11_goOnBits_l8 n) x5 x6 h4))
set_option maxRecDepth 100000 in
theorem aX11_goOnBits_l8 {X : MCx} {yd : Dyn} {A : Nat → Prop} (C : OK X cX11_goOnBits RX11 3 (some .int) rmX11_goOnBits A)  : ∀ (n : Nat) (v1 : Int32) (v2 : Int32) (h : AH), AW X 3 ZR yd A 0 0 (QF X rmX11_goOnBits ZR yd rvI A) 8 [(0, .ref 0), (1, .int v1), (2, .int v2)] [] h (X11_goOnBits_l8 n v1 v2 h) := by
  intro n
  induction n with
  | zero => intro v1 v2 h; exact aw_none
  | succ n ih =>
    intro v1 v2 h
    exact aw_iload_n (pc := 8) C (i := 2) dK_d_56.2.2.2.2.2.2.1 rfl rfl <|
    aw_aload_n (pc := 9) C (i := 0) dK_d_56.2.2.2.2.2.2.2.1 rfl rfl <|
    aw_callF (pc := 10) C (cr_V (rest := [.int v2]) (F := X11_finalists) C (c_X11_finalists X.2.1 ) dK_d_57.1 mf_X11_finalists ml_X11_271 im_X11_finalists se_X11_finalists sR_0 rfl ⟨(Nat.le_of_ble_eq_true rfl), (Nat.le_of_ble_eq_true rfl)⟩ rfl rfl (Nat.le_of_ble_eq_true rfl)) rfl rfl rfl (Nat.zero_le _) (Nat.zero_le _) fun r3 h4 =>
    aw_icmp_ge (pc := 13) C (tgt := 33) dK_d_57.2.1 rfl (fun _ =>
    aw_iload_n (pc := 33) C (i := 1) dK_d_58.2.2.2.2.2.1 rfl rfl <|
    aw_iret (pc := 34) C dK_d_58.2.2.2.2.2.2.1 rfl rfl) (fun _ =>
    aw_iload_n (pc := 16) C (i := 1) dK_d_57.2.2.1 rfl rfl <|
    aw_iconst (pc := 17) C (v := 1) dK_d_57.2.2.2.1 rfl <|
    aw_aload_n (pc := 18) C (i := 0) dK_d_57.2.2.2.2.1 rfl rfl <|
    aw_getR (pc := 19) C (b := 22) dK_d_57.2.2.2.2.2.1 fl_X11_74 sR_0 rfl rR_0_32 <|
    aw_iload_n (pc := 22) C (i := 2) dK_d_57.2.2.2.2.2.2.1 rfl rfl <|
    aw_iald (pc := 23) C dK_d_57.2.2.2.2.2.2.2.1 sR_22 rfl <|
    aw_ishl (pc := 24) C dK_d_58.1 <|
    aw_ior (pc := 25) C dK_d_58.2.1 <|
    aw_istoreV_n (pc := 26) C (i := 1) (fun x5 => [(0, .ref 0), (1, .int x5), (2, .int v2)]) dK_d_58.2.2.1 rfl (by decide) (fun _ => rfl) fun x5 =>
    aw_iincV (pc := 27) C (i := 2) (cst := 1) (fun x6 => [(0, .ref 0), (1, .int x5), (2, .int x6)]) dK_d_58.2.2.2.1 rfl rfl (by decide) (fun _ => rfl) fun x6 =>
    aw_goto (pc := 30) C (tgt := 8) dK_d_58.2.2.2.2.1 rfl <|
    (ih x5 x6 h4))
def X11_goOnBits  (h : AH) : Option (Int32 × AH) :=
    bd (X11_ranksNow h) fun _ h2 =>
    X11_goOnBits_l8 FU 0 0 h2
set_option maxRecDepth 100000 in
theorem c_X11_goOnBits (l : Launch)  : MC l yX11_goOnBits cX11_goOnBits 3 (some .int) rmX11_goOnBits ZR [.ref 0] rvI (X11_goOnBits) :=
  MC.of (own := RX11) pn_RX11 rfl (Nat.le_of_ble_eq_true rfl) fun X yd A h _ C =>
    aw_aload_n (pc := 0) C (i := 0) dK_d_56.1 rfl rfl <|
    aw_callF (pc := 1) C (cr_V (rest := []) (F := X11_ranksNow) C (c_X11_ranksNow X.2.1 ) dK_d_56.2.1 mf_X11_ranksNow ml_X11_280 im_X11_ranksNow se_X11_ranksNow sR_0 rfl ⟨(Nat.le_of_ble_eq_true rfl), (Nat.le_of_ble_eq_true rfl)⟩ rfl rfl (Nat.le_of_ble_eq_true rfl)) rfl rfl rfl (Nat.zero_le _) (Nat.zero_le _) fun _ h2 =>
    aw_iconst (pc := 4) C (v := 0) dK_d_56.2.2.1 rfl <|
    aw_istore_n (pc := 5) C (i := 1) (lv' := [(0, .ref 0), (1, .int 0)]) dK_d_56.2.2.2.1 rfl (by decide) rfl <|
    aw_iconst (pc := 6) C (v := 0) dK_d_56.2.2.2.2.1 rfl <|
    aw_istore_n (pc := 7) C (i := 2) (lv' := [(0, .ref 0), (1, .int 0), (2, .int 0)]) dK_d_56.2.2.2.2.2.1 rfl (by decide) rfl <|
    (aX11_goOnBits_l8 C FU 0 0 h2)

abbrev rmX11_goOn : Room := { frames := 6, cells := 0, slots := 0, locals := 132 }
def X11_goOn  (h : AH) : Option (Int32 × AH) :=
    bd (X11_goOnBits h) fun r1 h2 =>
    some (r1, h2)
set_option maxRecDepth 100000 in
theorem c_X11_goOn (l : Launch)  : MC l yX11_goOn cX11_goOn 1 (some .int) rmX11_goOn ZR [.ref 0] rvI (X11_goOn) :=
  MC.of (own := RX11) pn_RX11 rfl (Nat.le_of_ble_eq_true rfl) fun X yd A h _ C =>
    aw_aload_n (pc := 0) C (i := 0) dK_d_59.1 rfl rfl <|
    aw_callF (pc := 1) C (cr_V (rest := []) (F := X11_goOnBits) C (c_X11_goOnBits X.2.1 ) dK_d_59.2.1 mf_X11_goOnBits ml_X11_286 im_X11_goOnBits se_X11_goOnBits sR_0 rfl ⟨(Nat.le_of_ble_eq_true rfl), (Nat.le_of_ble_eq_true rfl)⟩ rfl rfl (Nat.le_of_ble_eq_true rfl)) rfl rfl rfl (Nat.zero_le _) (Nat.zero_le _) fun r1 h2 =>
    aw_iret (pc := 4) C dK_d_59.2.2.1 rfl rfl

abbrev rmX11_tenThousandths : Room := { frames := 4, cells := 0, slots := 0, locals := 102 }
def X11_tenThousandths_l28  (v3 : Int32) (v5 : Int64) : Nat → Int64 → Int32 → AH → Option (Int32 × AH)
  | 0, _, _, _ => none
  | n + 1, v7, v9, h =>
    if v3 ≤ v9 then (some ((10000 - v7.toInt32), h))
    else (vl ((v7 * (10000 - v5)) / 10000) fun x6 =>
    vl (v9 + 1) fun x7 =>
    (X11_tenThousandths_l28 v3 v5 n) x6 x7 h)
set_option maxRecDepth 100000 in
theorem aX11_tenThousandths_l28 {X : MCx} {yd : Dyn} {A : Nat → Prop} (C : OK X cX11_tenThousandths RX11 10 (some .int) rmX11_tenThousandths A)  (v3 : Int32) (v5 : Int64) : ∀ (n : Nat) (v7 : Int64) (v9 : Int32) (h : AH), AW X 10 ZR yd A 0 0 (QF X rmX11_tenThousandths ZR yd rvI A) 28 [(3, .int v3), (5, .long v5), (7, .long v7), (9, .int v9)] [] h (X11_tenThousandths_l28 v3 v5 n v7 v9 h) := by
  intro n
  induction n with
  | zero => intro v7 v9 h; exact aw_none
  | succ n ih =>
    intro v7 v9 h
    exact aw_iload (pc := 28) C (i := 9) dK_d_62.1 rfl <|
    aw_iload_n (pc := 30) C (i := 3) dK_d_62.2.1 rfl rfl <|
    aw_icmp_ge (pc := 31) C (tgt := 55) dK_d_62.2.2.1 rfl (fun _ =>
    aw_sipush (pc := 55) C (v := 10000) dK_d_63.2.2.2.2.2.1 rfl <|
    aw_lload (pc := 58) C (i := 7) dK_d_63.2.2.2.2.2.2.1 rfl <|
    aw_l2i (pc := 60) C dK_d_63.2.2.2.2.2.2.2.1 <|
    aw_isub (pc := 61) C dK_d_64.1 <|
    aw_iret (pc := 62) C dK_d_64.2.1 rfl rfl) (fun _ =>
    aw_lload (pc := 34) C (i := 7) dK_d_62.2.2.2.1 rfl <|
    aw_ldc2_w (pc := 36) C (v := 10000) dK_d_62.2.2.2.2.1 kc_X11_289 <|
    aw_lload (pc := 39) C (i := 5) dK_d_62.2.2.2.2.2.1 rfl <|
    aw_lsub (pc := 41) C dK_d_62.2.2.2.2.2.2.1 <|
    aw_lmul (pc := 42) C dK_d_62.2.2.2.2.2.2.2.1 <|
    aw_ldc2_w (pc := 43) C (v := 10000) dK_d_63.1 kc_X11_289 <|
    aw_ldivK (pc := 46) C dK_d_63.2.1 (by decide) <|
    aw_lstoreV (pc := 47) C (i := 7) (fun x6 => [(3, .int v3), (5, .long v5), (7, .long x6), (9, .int v9)]) dK_d_63.2.2.1 (by decide) (fun _ => rfl) fun x6 =>
    aw_iincV (pc := 49) C (i := 9) (cst := 1) (fun x7 => [(3, .int v3), (5, .long v5), (7, .long x6), (9, .int x7)]) dK_d_63.2.2.2.1 rfl rfl (by decide) (fun _ => rfl) fun x7 =>
    aw_goto (pc := 52) C (tgt := 28) dK_d_63.2.2.2.2.1 rfl <|
    (ih x6 x7 h))
def X11_tenThousandths (v1 : Int32) (v2 : Int32) (v3 : Int32) (v4 : Int32) (h : AH) : Option (Int32 × AH) :=
    bd (X11_counted v1 v2 3 v4 h) fun r1 h2 =>
    bd (X11_allWays h2) fun r3 h4 =>
    if r3 = 0 then none else (vl ((10000 * r1) / r3) fun x5 =>
    X11_tenThousandths_l28 v3 x5 FU 10000 0 h4)
set_option maxRecDepth 100000 in
theorem c_X11_tenThousandths (l : Launch) (v1 : Int32) (v2 : Int32) (v3 : Int32) (v4 : Int32) : MC l yX11_tenThousandths cX11_tenThousandths 10 (some .int) rmX11_tenThousandths ZR [.ref 0, .int v1, .int v2, .int v3, .int v4] rvI (X11_tenThousandths v1 v2 v3 v4) :=
  MC.of (own := RX11) pn_RX11 rfl (Nat.le_of_ble_eq_true rfl) fun X yd A h _ C =>
    aw_ldc2_w (pc := 0) C (v := 10000) dK_d_60.1 kc_X11_289 <|
    aw_aload_n (pc := 3) C (i := 0) dK_d_60.2.1 rfl rfl <|
    aw_iload_n (pc := 4) C (i := 1) dK_d_60.2.2.1 rfl rfl <|
    aw_iload_n (pc := 5) C (i := 2) dK_d_60.2.2.2.1 rfl rfl <|
    aw_iconst (pc := 6) C (v := 3) dK_d_60.2.2.2.2.1 rfl <|
    aw_iload (pc := 7) C (i := 4) dK_d_60.2.2.2.2.2.1 rfl <|
    aw_callF (pc := 9) C (cr_V (rest := [.long 10000]) (F := (X11_counted v1 v2 3 v4)) C (c_X11_counted X.2.1 v1 v2 3 v4) dK_d_60.2.2.2.2.2.2.1 mf_X11_counted ml_X11_242 im_X11_counted se_X11_counted sR_0 rfl ⟨(Nat.le_of_ble_eq_true rfl), (Nat.le_of_ble_eq_true rfl)⟩ rfl rfl (Nat.le_of_ble_eq_true rfl)) rfl rfl rfl (Nat.zero_le _) (Nat.zero_le _) fun r1 h2 =>
    aw_lmul (pc := 12) C dK_d_60.2.2.2.2.2.2.2.1 <|
    aw_aload_n (pc := 13) C (i := 0) dK_d_61.1 rfl rfl <|
    aw_callF (pc := 14) C (cr_V (rest := [.long (10000 * r1)]) (F := X11_allWays) C (c_X11_allWays X.2.1 ) dK_d_61.2.1 mf_X11_allWays ml_X11_246 im_X11_allWays se_X11_allWays sR_0 rfl ⟨(Nat.le_of_ble_eq_true rfl), (Nat.le_of_ble_eq_true rfl)⟩ rfl rfl (Nat.le_of_ble_eq_true rfl)) rfl rfl rfl (Nat.zero_le _) (Nat.zero_le _) fun r3 h4 =>
    aw_ldiv (pc := 17) C dK_d_61.2.2.1 <|
    aw_lstoreV (pc := 18) C (i := 5) (fun x5 => [(0, .ref 0), (1, .int v1), (2, .int v2), (3, .int v3), (4, .int v4), (5, .long x5)]) dK_d_61.2.2.2.1 (by decide) (fun _ => rfl) fun x5 =>
    aw_ldc2_w (pc := 20) C (v := 10000) dK_d_61.2.2.2.2.1 kc_X11_289 <|
    aw_lstore (pc := 23) C (i := 7) (lv' := [(0, .ref 0), (1, .int v1), (2, .int v2), (3, .int v3), (4, .int v4), (5, .long x5), (7, .long 10000)]) dK_d_61.2.2.2.2.2.1 (by decide) rfl <|
    aw_iconst (pc := 25) C (v := 0) dK_d_61.2.2.2.2.2.2.1 rfl <|
    aw_istore (pc := 26) C (i := 9) (lv' := [(0, .ref 0), (1, .int v1), (2, .int v2), (3, .int v3), (4, .int v4), (5, .long x5), (7, .long 10000), (9, .int 0)]) dK_d_61.2.2.2.2.2.2.2.1 (by decide) rfl <|
    aw_drop [3, 5, 6, 7] (aX11_tenThousandths_l28 C v3 x5 FU 10000 0 h4)

abbrev rmX11_aim : Room := { frames := 5, cells := 0, slots := 0, locals := 131 }
def X11_aim_j118  (v1 : Int32) (v2 : Int32) (v3 : Int32) (v4 : Int32) (v6 : Int32) (v7 : Int32) (v8 : Int32) (K82 : Int32 → Int32 → Int32 → AH → Option (Int32 × AH)) (h : AH) : Option (Int32 × AH) :=
    vl (v8 + 1) fun x6 =>
    K82 v6 v7 x6 h
set_option maxRecDepth 100000 in
theorem aX11_aim_j118 {X : MCx} {yd : Dyn} {A : Nat → Prop} (C : OK X cX11_aim RX11 10 (some .int) rmX11_aim A)  (v1 : Int32) (v2 : Int32) (v3 : Int32) (v4 : Int32) (v6 : Int32) (v7 : Int32) (v8 : Int32) (K82 : Int32 → Int32 → Int32 → AH → Option (Int32 × AH)) (hK82 : ∀ (w6 : Int32) (w7 : Int32) (w8 : Int32) (h : AH), AW X 10 ZR yd A 0 0 (QF X rmX11_aim ZR yd rvI A) 82 [(0, .ref 0), (1, .int v1), (2, .int v2), (3, .int v3), (4, .int v4), (6, .int w6), (7, .int w7), (8, .int w8)] [] h (K82 w6 w7 w8 h)) (h : AH) : AW X 10 ZR yd A 0 0 (QF X rmX11_aim ZR yd rvI A) 118 [(0, .ref 0), (1, .int v1), (2, .int v2), (3, .int v3), (4, .int v4), (6, .int v6), (7, .int v7), (8, .int v8)] [] h (X11_aim_j118 v1 v2 v3 v4 v6 v7 v8 K82 h) := by
    exact aw_iincV (pc := 118) C (i := 8) (cst := 1) (fun x6 => [(0, .ref 0), (1, .int v1), (2, .int v2), (3, .int v3), (4, .int v4), (6, .int v6), (7, .int v7), (8, .int x6)]) dK_d_72.2.2.2.2.1 rfl rfl (by decide) (fun _ => rfl) fun x6 =>
    aw_goto (pc := 121) C (tgt := 82) dK_d_72.2.2.2.2.2.1 rfl <|
    (hK82 v6 v7 x6 h)
def X11_aim_l82  (v1 : Int32) (v2 : Int32) (v3 : Int32) (v4 : Int32) : Nat → Int32 → Int32 → Int32 → AH → Option (Int32 × AH)
  | 0, _, _, _, _ => none
  | n + 1, v6, v7, v8, h =>
    if 21 ≤ v8 then (if v4 = 0 then (some (v6, h))
    else (some (v7, h)))
    else (bd (X11_tenThousandths v1 v8 v2 v3 h) fun r4 h5 =>
    if v7 < r4 then (X11_aim_j118 v1 v2 v3 v4 v8 r4 v8 (X11_aim_l82 v1 v2 v3 v4 n) h5)
    else (X11_aim_j118 v1 v2 v3 v4 v6 v7 v8 (X11_aim_l82 v1 v2 v3 v4 n) h5))
set_option maxRecDepth 100000 in
theorem aX11_aim_l82 {X : MCx} {yd : Dyn} {A : Nat → Prop} (C : OK X cX11_aim RX11 10 (some .int) rmX11_aim A)  (v1 : Int32) (v2 : Int32) (v3 : Int32) (v4 : Int32) : ∀ (n : Nat) (v6 : Int32) (v7 : Int32) (v8 : Int32) (h : AH), AW X 10 ZR yd A 0 0 (QF X rmX11_aim ZR yd rvI A) 82 [(0, .ref 0), (1, .int v1), (2, .int v2), (3, .int v3), (4, .int v4), (6, .int v6), (7, .int v7), (8, .int v8)] [] h (X11_aim_l82 v1 v2 v3 v4 n v6 v7 v8 h) := by
  intro n
  induction n with
  | zero => intro v6 v7 v8 h; exact aw_none
  | succ n ih =>
    intro v6 v7 v8 h
    exact aw_iload (pc := 82) C (i := 8) dK_d_70.2.2.1 rfl <|
    aw_bipush (pc := 84) C (v := 21) dK_d_70.2.2.2.1 rfl <|
    aw_icmp_ge (pc := 86) C (tgt := 124) dK_d_70.2.2.2.2.1 rfl (fun _ =>
    aw_iload (pc := 124) C (i := 4) dK_d_72.2.2.2.2.2.2.1 rfl <|
    aw_if_ne (pc := 126) C (tgt := 134) dK_d_72.2.2.2.2.2.2.2.1 rfl (fun _ =>
    aw_iload (pc := 129) C (i := 6) dK_d_73.1 rfl <|
    aw_goto (pc := 131) C (tgt := 136) dK_d_73.2.1 rfl <|
    aw_iret (pc := 136) C dK_d_73.2.2.2.1 rfl rfl) (fun _ =>
    aw_iload (pc := 134) C (i := 7) dK_d_73.2.2.1 rfl <|
    aw_iret (pc := 136) C dK_d_73.2.2.2.1 rfl rfl)) (fun _ =>
    aw_aload_n (pc := 89) C (i := 0) dK_d_70.2.2.2.2.2.1 rfl rfl <|
    aw_iload_n (pc := 90) C (i := 1) dK_d_70.2.2.2.2.2.2.1 rfl rfl <|
    aw_iload (pc := 91) C (i := 8) dK_d_70.2.2.2.2.2.2.2.1 rfl <|
    aw_iload_n (pc := 93) C (i := 2) dK_d_71.1 rfl rfl <|
    aw_iload_n (pc := 94) C (i := 3) dK_d_71.2.1 rfl rfl <|
    aw_callF (pc := 95) C (cr_V (rest := []) (F := (X11_tenThousandths v1 v8 v2 v3)) C (c_X11_tenThousandths X.2.1 v1 v8 v2 v3) dK_d_71.2.2.1 mf_X11_tenThousandths ml_X11_291 im_X11_tenThousandths se_X11_tenThousandths sR_0 rfl ⟨(Nat.le_of_ble_eq_true rfl), (Nat.le_of_ble_eq_true rfl)⟩ rfl rfl (Nat.le_of_ble_eq_true rfl)) rfl rfl rfl (Nat.zero_le _) (Nat.zero_le _) fun r4 h5 =>
    aw_istore (pc := 98) C (i := 9) (lv' := [(0, .ref 0), (1, .int v1), (2, .int v2), (3, .int v3), (4, .int v4), (6, .int v6), (7, .int v7), (8, .int v8), (9, .int r4)]) dK_d_71.2.2.2.1 (by decide) rfl <|
    aw_iload (pc := 100) C (i := 9) dK_d_71.2.2.2.2.1 rfl <|
    aw_iload (pc := 102) C (i := 7) dK_d_71.2.2.2.2.2.1 rfl <|
    aw_icmp_gt (pc := 104) C (tgt := 110) dK_d_71.2.2.2.2.2.2.1 rfl (fun _ =>
    aw_iload (pc := 110) C (i := 8) dK_d_72.1 rfl <|
    aw_istore (pc := 112) C (i := 6) (lv' := [(0, .ref 0), (1, .int v1), (2, .int v2), (3, .int v3), (4, .int v4), (6, .int v8), (7, .int v7), (8, .int v8), (9, .int r4)]) dK_d_72.2.1 (by decide) rfl <|
    aw_iload (pc := 114) C (i := 9) dK_d_72.2.2.1 rfl <|
    aw_istore (pc := 116) C (i := 7) (lv' := [(0, .ref 0), (1, .int v1), (2, .int v2), (3, .int v3), (4, .int v4), (6, .int v8), (7, .int r4), (8, .int v8), (9, .int r4)]) dK_d_72.2.2.2.1 (by decide) rfl <|
    aw_drop [0, 1, 2, 3, 4, 5, 6, 7] (aX11_aim_j118 C v1 v2 v3 v4 v8 r4 v8 (X11_aim_l82 v1 v2 v3 v4 n) ih h5)) (fun _ =>
    aw_goto (pc := 107) C (tgt := 118) dK_d_71.2.2.2.2.2.2.2.1 rfl <|
    aw_drop [0, 1, 2, 3, 4, 5, 6, 7] (aX11_aim_j118 C v1 v2 v3 v4 v6 v7 v8 (X11_aim_l82 v1 v2 v3 v4 n) ih h5)))
def X11_aim_j59  (v1 : Int32) (v2 : Int32) (v3 : Int32) (v4 : Int32) (s0 : Int32) (h : AH) : Option (Int32 × AH) :=
    if s0 = 0 then (vl (-1) fun x3 =>
    X11_aim_l82 v1 v2 v3 v4 FU 0 x3 0 h)
    else (bd (X11_no s0 h) fun r7 h8 =>
    some (r7, h8))
set_option maxRecDepth 100000 in
theorem aX11_aim_j59 {X : MCx} {yd : Dyn} {A : Nat → Prop} (C : OK X cX11_aim RX11 10 (some .int) rmX11_aim A)  (v1 : Int32) (v2 : Int32) (v3 : Int32) (v4 : Int32) (s0 : Int32) (h : AH) : AW X 10 ZR yd A 0 0 (QF X rmX11_aim ZR yd rvI A) 59 [(0, .ref 0), (1, .int v1), (2, .int v2), (3, .int v3), (4, .int v4)] [.int s0] h (X11_aim_j59 v1 v2 v3 v4 s0 h) := by
    exact aw_istore (pc := 59) C (i := 5) (lv' := [(0, .ref 0), (1, .int v1), (2, .int v2), (3, .int v3), (4, .int v4), (5, .int s0)]) dK_d_68.2.2.2.2.2.1 (by decide) rfl <|
    aw_iload (pc := 61) C (i := 5) dK_d_68.2.2.2.2.2.2.1 rfl <|
    aw_if_eq (pc := 63) C (tgt := 73) dK_d_68.2.2.2.2.2.2.2.1 rfl (fun _ =>
    aw_iconst (pc := 73) C (v := 0) dK_d_69.2.2.2.2.1 rfl <|
    aw_istore (pc := 74) C (i := 6) (lv' := [(0, .ref 0), (1, .int v1), (2, .int v2), (3, .int v3), (4, .int v4), (5, .int s0), (6, .int 0)]) dK_d_69.2.2.2.2.2.1 (by decide) rfl <|
    aw_iconst (pc := 76) C (v := (-1)) dK_d_69.2.2.2.2.2.2.1 rfl <|
    aw_istoreV (pc := 77) C (i := 7) (fun x3 => [(0, .ref 0), (1, .int v1), (2, .int v2), (3, .int v3), (4, .int v4), (5, .int s0), (6, .int 0), (7, .int x3)]) dK_d_69.2.2.2.2.2.2.2.1 (by decide) (fun _ => rfl) fun x3 =>
    aw_iconst (pc := 79) C (v := 0) dK_d_70.1 rfl <|
    aw_istore (pc := 80) C (i := 8) (lv' := [(0, .ref 0), (1, .int v1), (2, .int v2), (3, .int v3), (4, .int v4), (5, .int s0), (6, .int 0), (7, .int x3), (8, .int 0)]) dK_d_70.2.1 (by decide) rfl <|
    aw_drop [0, 1, 2, 3, 4, 6, 7, 8] (aX11_aim_l82 C v1 v2 v3 v4 FU 0 x3 0 h)) (fun _ =>
    aw_aload_n (pc := 66) C (i := 0) dK_d_69.1 rfl rfl <|
    aw_iload (pc := 67) C (i := 5) dK_d_69.2.1 rfl <|
    aw_callF (pc := 69) C (cr_V (rest := []) (F := (X11_no s0)) C (c_X11_no X.2.1 s0) dK_d_69.2.2.1 mf_X11_no ml_X11_115 im_X11_no se_X11_no sR_0 rfl ⟨(Nat.le_of_ble_eq_true rfl), (Nat.le_of_ble_eq_true rfl)⟩ rfl rfl (Nat.le_of_ble_eq_true rfl)) rfl rfl rfl (Nat.zero_le _) (Nat.zero_le _) fun r7 h8 =>
    aw_iret (pc := 72) C dK_d_69.2.2.2.1 rfl rfl)
def X11_aim_j21  (v1 : Int32) (v2 : Int32) (v3 : Int32) (v4 : Int32) (h : AH) : Option (Int32 × AH) :=
    X11_aim_j59 v1 v2 v3 v4 (-4) h
set_option maxRecDepth 100000 in
theorem aX11_aim_j21 {X : MCx} {yd : Dyn} {A : Nat → Prop} (C : OK X cX11_aim RX11 10 (some .int) rmX11_aim A)  (v1 : Int32) (v2 : Int32) (v3 : Int32) (v4 : Int32) (h : AH) : AW X 10 ZR yd A 0 0 (QF X rmX11_aim ZR yd rvI A) 21 [(0, .ref 0), (1, .int v1), (2, .int v2), (3, .int v3), (4, .int v4)] [] h (X11_aim_j21 v1 v2 v3 v4 h) := by
    exact aw_bipush (pc := 21) C (v := (-4)) dK_d_66.2.2.2.1 rfl <|
    aw_goto (pc := 23) C (tgt := 59) dK_d_66.2.2.2.2.1 rfl <|
    (aX11_aim_j59 C v1 v2 v3 v4 (-4) h)
def X11_aim_j38  (v1 : Int32) (v2 : Int32) (v3 : Int32) (v4 : Int32) (h : AH) : Option (Int32 × AH) :=
    X11_aim_j59 v1 v2 v3 v4 (-6) h
set_option maxRecDepth 100000 in
theorem aX11_aim_j38 {X : MCx} {yd : Dyn} {A : Nat → Prop} (C : OK X cX11_aim RX11 10 (some .int) rmX11_aim A)  (v1 : Int32) (v2 : Int32) (v3 : Int32) (v4 : Int32) (h : AH) : AW X 10 ZR yd A 0 0 (QF X rmX11_aim ZR yd rvI A) 38 [(0, .ref 0), (1, .int v1), (2, .int v2), (3, .int v3), (4, .int v4)] [] h (X11_aim_j38 v1 v2 v3 v4 h) := by
    exact aw_bipush (pc := 38) C (v := (-6)) dK_d_67.2.2.2.1 rfl <|
    aw_goto (pc := 40) C (tgt := 59) dK_d_67.2.2.2.2.1 rfl <|
    (aX11_aim_j59 C v1 v2 v3 v4 (-6) h)
def X11_aim (v1 : Int32) (v2 : Int32) (v3 : Int32) (v4 : Int32) (h : AH) : Option (Int32 × AH) :=
    bd (X11_isJumper v1 h) fun r1 h2 =>
    if r1 = 0 then (X11_aim_j59 v1 v2 v3 v4 (-1) h2)
    else (if v2 < 1 then (X11_aim_j21 v1 v2 v3 v4 h2)
    else (if 0 ≤ v3 then (if 3 < v2 then (X11_aim_j38 v1 v2 v3 v4 h2)
    else (if v3 ≤ 999 then (bd (X11_isIn v4 0 1 h2) fun r9 h10 =>
    if r9 = 0 then (X11_aim_j59 v1 v2 v3 v4 (-2) h10)
    else (X11_aim_j59 v1 v2 v3 v4 0 h10))
    else (X11_aim_j38 v1 v2 v3 v4 h2)))
    else (X11_aim_j21 v1 v2 v3 v4 h2)))
set_option maxRecDepth 100000 in
theorem c_X11_aim (l : Launch) (v1 : Int32) (v2 : Int32) (v3 : Int32) (v4 : Int32) : MC l yX11_aim cX11_aim 10 (some .int) rmX11_aim ZR [.ref 0, .int v1, .int v2, .int v3, .int v4] rvI (X11_aim v1 v2 v3 v4) :=
  MC.of (own := RX11) pn_RX11 rfl (Nat.le_of_ble_eq_true rfl) fun X yd A h _ C =>
    aw_aload_n (pc := 0) C (i := 0) dK_d_65.1 rfl rfl <|
    aw_iload_n (pc := 1) C (i := 1) dK_d_65.2.1 rfl rfl <|
    aw_callF (pc := 2) C (cr_V (rest := []) (F := (X11_isJumper v1)) C (c_X11_isJumper X.2.1 v1) dK_d_65.2.2.1 mf_X11_isJumper ml_X11_207 im_X11_isJumper se_X11_isJumper sR_0 rfl ⟨(Nat.le_of_ble_eq_true rfl), (Nat.le_of_ble_eq_true rfl)⟩ rfl rfl (Nat.le_of_ble_eq_true rfl)) rfl rfl rfl (Nat.zero_le _) (Nat.zero_le _) fun r1 h2 =>
    aw_if_ne (pc := 5) C (tgt := 12) dK_d_65.2.2.2.1 rfl (fun _ =>
    aw_iconst (pc := 8) C (v := (-1)) dK_d_65.2.2.2.2.1 rfl <|
    aw_goto (pc := 9) C (tgt := 59) dK_d_65.2.2.2.2.2.1 rfl <|
    (aX11_aim_j59 C v1 v2 v3 v4 (-1) h2)) (fun _ =>
    aw_iload_n (pc := 12) C (i := 2) dK_d_65.2.2.2.2.2.2.1 rfl rfl <|
    aw_iconst (pc := 13) C (v := 1) dK_d_65.2.2.2.2.2.2.2.1 rfl <|
    aw_icmp_lt (pc := 14) C (tgt := 21) dK_d_66.1 rfl (fun _ =>
    (aX11_aim_j21 C v1 v2 v3 v4 h2)) (fun _ =>
    aw_iload_n (pc := 17) C (i := 3) dK_d_66.2.1 rfl rfl <|
    aw_if_ge (pc := 18) C (tgt := 26) dK_d_66.2.2.1 rfl (fun _ =>
    aw_iload_n (pc := 26) C (i := 2) dK_d_66.2.2.2.2.2.1 rfl rfl <|
    aw_iconst (pc := 27) C (v := 3) dK_d_66.2.2.2.2.2.2.1 rfl <|
    aw_icmp_gt (pc := 28) C (tgt := 38) dK_d_66.2.2.2.2.2.2.2.1 rfl (fun _ =>
    (aX11_aim_j38 C v1 v2 v3 v4 h2)) (fun _ =>
    aw_iload_n (pc := 31) C (i := 3) dK_d_67.1 rfl rfl <|
    aw_sipush (pc := 32) C (v := 999) dK_d_67.2.1 rfl <|
    aw_icmp_le (pc := 35) C (tgt := 43) dK_d_67.2.2.1 rfl (fun _ =>
    aw_iload (pc := 43) C (i := 4) dK_d_67.2.2.2.2.2.1 rfl <|
    aw_iconst (pc := 45) C (v := 0) dK_d_67.2.2.2.2.2.2.1 rfl <|
    aw_iconst (pc := 46) C (v := 1) dK_d_67.2.2.2.2.2.2.2.1 rfl <|
    aw_callF (pc := 47) C (cr_S (rest := []) (F := (X11_isIn v4 0 1)) C (c_X11_isIn X.2.1 v4 0 1) dK_d_68.1 mf_X11_isIn ml_X11_126 st_X11_isIn ⟨(Nat.le_of_ble_eq_true rfl), (Nat.le_of_ble_eq_true rfl)⟩ rfl rfl (Nat.le_of_ble_eq_true rfl)) rfl rfl rfl (Nat.zero_le _) (Nat.zero_le _) fun r9 h10 =>
    aw_if_ne (pc := 50) C (tgt := 58) dK_d_68.2.1 rfl (fun _ =>
    aw_bipush (pc := 53) C (v := (-2)) dK_d_68.2.2.1 rfl <|
    aw_goto (pc := 55) C (tgt := 59) dK_d_68.2.2.2.1 rfl <|
    (aX11_aim_j59 C v1 v2 v3 v4 (-2) h10)) (fun _ =>
    aw_iconst (pc := 58) C (v := 0) dK_d_68.2.2.2.2.1 rfl <|
    (aX11_aim_j59 C v1 v2 v3 v4 0 h10))) (fun _ =>
    (aX11_aim_j38 C v1 v2 v3 v4 h2)))) (fun _ =>
    (aX11_aim_j21 C v1 v2 v3 v4 h2))))

abbrev rmX11_tooLong : Room := { frames := 1, cells := 0, slots := 0, locals := 21 }
def X11_tooLong_l18  : Nat → Int32 → Int32 → AH → Option (Int32 × AH)
  | 0, _, _, _ => none
  | n + 1, v1, v2, h =>
    if (h.1 0 34) ≤ v2 then (if v1 ≤ 0 then (if 0 ≤ v1 then (some (0, h))
    else (some (2, h)))
    else (some (1, h)))
    else (ck v2 12 (vl (v1 + ((h.1 23 v2.toNatClampNeg) - 50)) fun x1 =>
    vl (v2 + 1) fun x2 =>
    (X11_tooLong_l18 n) x1 x2 h))
set_option maxRecDepth 100000 in
theorem aX11_tooLong_l18 {X : MCx} {yd : Dyn} {A : Nat → Prop} (C : OK X cX11_tooLong RX11 3 (some .int) rmX11_tooLong A)  : ∀ (n : Nat) (v1 : Int32) (v2 : Int32) (h : AH), AW X 3 ZR yd A 0 0 (QF X rmX11_tooLong ZR yd rvI A) 18 [(0, .ref 0), (1, .int v1), (2, .int v2)] [] h (X11_tooLong_l18 n v1 v2 h) := by
  intro n
  induction n with
  | zero => intro v1 v2 h; exact aw_none
  | succ n ih =>
    intro v1 v2 h
    exact aw_iload_n (pc := 18) C (i := 2) dK_d_75.2.2.2.1 rfl rfl <|
    aw_aload_n (pc := 19) C (i := 0) dK_d_75.2.2.2.2.1 rfl rfl <|
    aw_getI (pc := 20) C dK_d_75.2.2.2.2.2.1 fl_X11_295 sR_0 rfl <|
    aw_icmp_ge (pc := 23) C (tgt := 44) dK_d_75.2.2.2.2.2.2.1 rfl (fun _ =>
    aw_iload_n (pc := 44) C (i := 1) dK_d_77.2.2.1 rfl rfl <|
    aw_if_le (pc := 45) C (tgt := 52) dK_d_77.2.2.2.1 rfl (fun _ =>
    aw_iload_n (pc := 52) C (i := 1) dK_d_77.2.2.2.2.2.2.1 rfl rfl <|
    aw_if_ge (pc := 53) C (tgt := 60) dK_d_77.2.2.2.2.2.2.2.1 rfl (fun _ =>
    aw_iconst (pc := 60) C (v := 0) dK_d_78.2.2.1 rfl <|
    aw_iret (pc := 61) C dK_d_78.2.2.2.1 rfl rfl) (fun _ =>
    aw_iconst (pc := 56) C (v := 2) dK_d_78.1 rfl <|
    aw_goto (pc := 57) C (tgt := 61) dK_d_78.2.1 rfl <|
    aw_iret (pc := 61) C dK_d_78.2.2.2.1 rfl rfl)) (fun _ =>
    aw_iconst (pc := 48) C (v := 1) dK_d_77.2.2.2.2.1 rfl <|
    aw_goto (pc := 49) C (tgt := 61) dK_d_77.2.2.2.2.2.1 rfl <|
    aw_iret (pc := 61) C dK_d_78.2.2.2.1 rfl rfl)) (fun _ =>
    aw_iload_n (pc := 26) C (i := 1) dK_d_75.2.2.2.2.2.2.2.1 rfl rfl <|
    aw_aload_n (pc := 27) C (i := 0) dK_d_76.1 rfl rfl <|
    aw_getR (pc := 28) C (b := 23) dK_d_76.2.1 fl_X11_77 sR_0 rfl rR_0_33 <|
    aw_iload_n (pc := 31) C (i := 2) dK_d_76.2.2.1 rfl rfl <|
    aw_iald (pc := 32) C dK_d_76.2.2.2.1 sR_23 rfl <|
    aw_bipush (pc := 33) C (v := 50) dK_d_76.2.2.2.2.1 rfl <|
    aw_isub (pc := 35) C dK_d_76.2.2.2.2.2.1 <|
    aw_iadd (pc := 36) C dK_d_76.2.2.2.2.2.2.1 <|
    aw_istoreV_n (pc := 37) C (i := 1) (fun x1 => [(0, .ref 0), (1, .int x1), (2, .int v2)]) dK_d_76.2.2.2.2.2.2.2.1 rfl (by decide) (fun _ => rfl) fun x1 =>
    aw_iincV (pc := 38) C (i := 2) (cst := 1) (fun x2 => [(0, .ref 0), (1, .int x1), (2, .int x2)]) dK_d_77.1 rfl rfl (by decide) (fun _ => rfl) fun x2 =>
    aw_goto (pc := 41) C (tgt := 18) dK_d_77.2.1 rfl <|
    (ih x1 x2 h))
def X11_tooLong  (h : AH) : Option (Int32 × AH) :=
    if (h.1 0 34) = 0 then (bd (X11_no (-3) h) fun r3 h4 =>
    some (r3, h4))
    else (X11_tooLong_l18 FU 0 0 h)
set_option maxRecDepth 100000 in
theorem c_X11_tooLong (l : Launch)  : MC l yX11_tooLong cX11_tooLong 3 (some .int) rmX11_tooLong ZR [.ref 0] rvI (X11_tooLong) :=
  MC.of (own := RX11) pn_RX11 rfl (Nat.le_of_ble_eq_true rfl) fun X yd A h _ C =>
    aw_aload_n (pc := 0) C (i := 0) dK_d_74.1 rfl rfl <|
    aw_getI (pc := 1) C dK_d_74.2.1 fl_X11_295 sR_0 rfl <|
    aw_if_ne (pc := 4) C (tgt := 14) dK_d_74.2.2.1 rfl (fun _ =>
    aw_aload_n (pc := 7) C (i := 0) dK_d_74.2.2.2.1 rfl rfl <|
    aw_bipush (pc := 8) C (v := (-3)) dK_d_74.2.2.2.2.1 rfl <|
    aw_callF (pc := 10) C (cr_V (rest := []) (F := (X11_no (-3))) C (c_X11_no X.2.1 (-3)) dK_d_74.2.2.2.2.2.1 mf_X11_no ml_X11_115 im_X11_no se_X11_no sR_0 rfl ⟨(Nat.le_of_ble_eq_true rfl), (Nat.le_of_ble_eq_true rfl)⟩ rfl rfl (Nat.le_of_ble_eq_true rfl)) rfl rfl rfl (Nat.zero_le _) (Nat.zero_le _) fun r3 h4 =>
    aw_iret (pc := 13) C dK_d_74.2.2.2.2.2.2.1 rfl rfl) (fun _ =>
    aw_iconst (pc := 14) C (v := 0) dK_d_74.2.2.2.2.2.2.2.1 rfl <|
    aw_istore_n (pc := 15) C (i := 1) (lv' := [(0, .ref 0), (1, .int 0)]) dK_d_75.1 rfl (by decide) rfl <|
    aw_iconst (pc := 16) C (v := 0) dK_d_75.2.1 rfl <|
    aw_istore_n (pc := 17) C (i := 2) (lv' := [(0, .ref 0), (1, .int 0), (2, .int 0)]) dK_d_75.2.2.1 rfl (by decide) rfl <|
    (aX11_tooLong_l18 C FU 0 0 h))

abbrev rmX11_unlike : Room := { frames := 1, cells := 0, slots := 0, locals := 21 }
def X11_unlike_j70  (v1 : Int32) (v3 : Int32) (K21 : Int32 → Int32 → Int32 → AH → Option (Int32 × AH)) (s0 : Int32) (h : AH) : Option (Int32 × AH) :=
    vl (v3 + 1) fun x1 =>
    K21 v1 s0 x1 h
set_option maxRecDepth 100000 in
theorem aX11_unlike_j70 {X : MCx} {yd : Dyn} {A : Nat → Prop} (C : OK X cX11_unlike RX11 4 (some .int) rmX11_unlike A)  (v1 : Int32) (v3 : Int32) (K21 : Int32 → Int32 → Int32 → AH → Option (Int32 × AH)) (hK21 : ∀ (w1 : Int32) (w2 : Int32) (w3 : Int32) (h : AH), AW X 4 ZR yd A 0 0 (QF X rmX11_unlike ZR yd rvI A) 21 [(0, .ref 0), (1, .int w1), (2, .int w2), (3, .int w3)] [] h (K21 w1 w2 w3 h)) (s0 : Int32) (h : AH) : AW X 4 ZR yd A 0 0 (QF X rmX11_unlike ZR yd rvI A) 70 [(0, .ref 0), (1, .int v1), (3, .int v3)] [.int s0] h (X11_unlike_j70 v1 v3 K21 s0 h) := by
    exact aw_istore_n (pc := 70) C (i := 2) (lv' := [(0, .ref 0), (1, .int v1), (2, .int s0), (3, .int v3)]) dK_d_84.2.2.1 rfl (by decide) rfl <|
    aw_iincV (pc := 71) C (i := 3) (cst := 1) (fun x1 => [(0, .ref 0), (1, .int v1), (2, .int s0), (3, .int x1)]) dK_d_84.2.2.2.1 rfl rfl (by decide) (fun _ => rfl) fun x1 =>
    aw_goto (pc := 74) C (tgt := 21) dK_d_84.2.2.2.2.1 rfl <|
    (hK21 v1 s0 x1 h)
def X11_unlike_j49  (v2 : Int32) (v3 : Int32) (K21 : Int32 → Int32 → Int32 → AH → Option (Int32 × AH)) (s0 : Int32) (h : AH) : Option (Int32 × AH) :=
    ck v3 12 (if (h.1 23 v3.toNatClampNeg) ≤ v2 then (X11_unlike_j70 s0 v3 K21 v2 h)
    else (ck v3 12 (X11_unlike_j70 s0 v3 K21 (h.1 23 v3.toNatClampNeg) h)))
set_option maxRecDepth 100000 in
theorem aX11_unlike_j49 {X : MCx} {yd : Dyn} {A : Nat → Prop} (C : OK X cX11_unlike RX11 4 (some .int) rmX11_unlike A)  (v2 : Int32) (v3 : Int32) (K21 : Int32 → Int32 → Int32 → AH → Option (Int32 × AH)) (hK21 : ∀ (w1 : Int32) (w2 : Int32) (w3 : Int32) (h : AH), AW X 4 ZR yd A 0 0 (QF X rmX11_unlike ZR yd rvI A) 21 [(0, .ref 0), (1, .int w1), (2, .int w2), (3, .int w3)] [] h (K21 w1 w2 w3 h)) (s0 : Int32) (h : AH) : AW X 4 ZR yd A 0 0 (QF X rmX11_unlike ZR yd rvI A) 49 [(0, .ref 0), (2, .int v2), (3, .int v3)] [.int s0] h (X11_unlike_j49 v2 v3 K21 s0 h) := by
    exact aw_istore_n (pc := 49) C (i := 1) (lv' := [(0, .ref 0), (1, .int s0), (2, .int v2), (3, .int v3)]) dK_d_82.2.2.2.2.2.1 rfl (by decide) rfl <|
    aw_aload_n (pc := 50) C (i := 0) dK_d_82.2.2.2.2.2.2.1 rfl rfl <|
    aw_getR (pc := 51) C (b := 23) dK_d_82.2.2.2.2.2.2.2.1 fl_X11_77 sR_0 rfl rR_0_33 <|
    aw_iload_n (pc := 54) C (i := 3) dK_d_83.1 rfl rfl <|
    aw_iald (pc := 55) C dK_d_83.2.1 sR_23 rfl <|
    aw_iload_n (pc := 56) C (i := 2) dK_d_83.2.2.1 rfl rfl <|
    aw_icmp_le (pc := 57) C (tgt := 69) dK_d_83.2.2.2.1 rfl (fun _ =>
    aw_iload_n (pc := 69) C (i := 2) dK_d_84.2.1 rfl rfl <|
    aw_drop [0, 1, 3] (aX11_unlike_j70 C s0 v3 K21 hK21 v2 h)) (fun _ =>
    aw_aload_n (pc := 60) C (i := 0) dK_d_83.2.2.2.2.1 rfl rfl <|
    aw_getR (pc := 61) C (b := 23) dK_d_83.2.2.2.2.2.1 fl_X11_77 sR_0 rfl rR_0_33 <|
    aw_iload_n (pc := 64) C (i := 3) dK_d_83.2.2.2.2.2.2.1 rfl rfl <|
    aw_iald (pc := 65) C dK_d_83.2.2.2.2.2.2.2.1 sR_23 rfl <|
    aw_goto (pc := 66) C (tgt := 70) dK_d_84.1 rfl <|
    aw_drop [0, 1, 3] (aX11_unlike_j70 C s0 v3 K21 hK21 (h.1 23 v3.toNatClampNeg) h))
def X11_unlike_l21  : Nat → Int32 → Int32 → Int32 → AH → Option (Int32 × AH)
  | 0, _, _, _, _ => none
  | n + 1, v1, v2, v3, h =>
    if (h.1 0 34) ≤ v3 then (some ((v2 - v1), h))
    else (ck v3 12 (if v1 ≤ (h.1 23 v3.toNatClampNeg) then (X11_unlike_j49 v2 v3 (X11_unlike_l21 n) v1 h)
    else (ck v3 12 (X11_unlike_j49 v2 v3 (X11_unlike_l21 n) (h.1 23 v3.toNatClampNeg) h))))
set_option maxRecDepth 100000 in
theorem aX11_unlike_l21 {X : MCx} {yd : Dyn} {A : Nat → Prop} (C : OK X cX11_unlike RX11 4 (some .int) rmX11_unlike A)  : ∀ (n : Nat) (v1 : Int32) (v2 : Int32) (v3 : Int32) (h : AH), AW X 4 ZR yd A 0 0 (QF X rmX11_unlike ZR yd rvI A) 21 [(0, .ref 0), (1, .int v1), (2, .int v2), (3, .int v3)] [] h (X11_unlike_l21 n v1 v2 v3 h) := by
  intro n
  induction n with
  | zero => intro v1 v2 v3 h; exact aw_none
  | succ n ih =>
    intro v1 v2 v3 h
    exact aw_iload_n (pc := 21) C (i := 3) dK_d_80.2.2.2.2.2.1 rfl rfl <|
    aw_aload_n (pc := 22) C (i := 0) dK_d_80.2.2.2.2.2.2.1 rfl rfl <|
    aw_getI (pc := 23) C dK_d_80.2.2.2.2.2.2.2.1 fl_X11_295 sR_0 rfl <|
    aw_icmp_ge (pc := 26) C (tgt := 77) dK_d_81.1 rfl (fun _ =>
    aw_iload_n (pc := 77) C (i := 2) dK_d_84.2.2.2.2.2.1 rfl rfl <|
    aw_iload_n (pc := 78) C (i := 1) dK_d_84.2.2.2.2.2.2.1 rfl rfl <|
    aw_isub (pc := 79) C dK_d_84.2.2.2.2.2.2.2.1 <|
    aw_iret (pc := 80) C dK_d_85.1 rfl rfl) (fun _ =>
    aw_aload_n (pc := 29) C (i := 0) dK_d_81.2.1 rfl rfl <|
    aw_getR (pc := 30) C (b := 23) dK_d_81.2.2.1 fl_X11_77 sR_0 rfl rR_0_33 <|
    aw_iload_n (pc := 33) C (i := 3) dK_d_81.2.2.2.1 rfl rfl <|
    aw_iald (pc := 34) C dK_d_81.2.2.2.2.1 sR_23 rfl <|
    aw_iload_n (pc := 35) C (i := 1) dK_d_81.2.2.2.2.2.1 rfl rfl <|
    aw_icmp_ge (pc := 36) C (tgt := 48) dK_d_81.2.2.2.2.2.2.1 rfl (fun _ =>
    aw_iload_n (pc := 48) C (i := 1) dK_d_82.2.2.2.2.1 rfl rfl <|
    aw_drop [0, 2, 3] (aX11_unlike_j49 C v2 v3 (X11_unlike_l21 n) ih v1 h)) (fun _ =>
    aw_aload_n (pc := 39) C (i := 0) dK_d_81.2.2.2.2.2.2.2.1 rfl rfl <|
    aw_getR (pc := 40) C (b := 23) dK_d_82.1 fl_X11_77 sR_0 rfl rR_0_33 <|
    aw_iload_n (pc := 43) C (i := 3) dK_d_82.2.1 rfl rfl <|
    aw_iald (pc := 44) C dK_d_82.2.2.1 sR_23 rfl <|
    aw_goto (pc := 45) C (tgt := 49) dK_d_82.2.2.2.1 rfl <|
    aw_drop [0, 2, 3] (aX11_unlike_j49 C v2 v3 (X11_unlike_l21 n) ih (h.1 23 v3.toNatClampNeg) h)))
def X11_unlike  (h : AH) : Option (Int32 × AH) :=
    if (h.1 0 34) = 0 then (bd (X11_no (-3) h) fun r2 h3 =>
    some (r2, h3))
    else (X11_unlike_l21 FU 99 0 0 h)
set_option maxRecDepth 100000 in
theorem c_X11_unlike (l : Launch)  : MC l yX11_unlike cX11_unlike 4 (some .int) rmX11_unlike ZR [.ref 0] rvI (X11_unlike) :=
  MC.of (own := RX11) pn_RX11 rfl (Nat.le_of_ble_eq_true rfl) fun X yd A h _ C =>
    aw_aload_n (pc := 0) C (i := 0) dK_d_79.1 rfl rfl <|
    aw_getI (pc := 1) C dK_d_79.2.1 fl_X11_295 sR_0 rfl <|
    aw_if_ne (pc := 4) C (tgt := 14) dK_d_79.2.2.1 rfl (fun _ =>
    aw_aload_n (pc := 7) C (i := 0) dK_d_79.2.2.2.1 rfl rfl <|
    aw_bipush (pc := 8) C (v := (-3)) dK_d_79.2.2.2.2.1 rfl <|
    aw_callF (pc := 10) C (cr_V (rest := []) (F := (X11_no (-3))) C (c_X11_no X.2.1 (-3)) dK_d_79.2.2.2.2.2.1 mf_X11_no ml_X11_115 im_X11_no se_X11_no sR_0 rfl ⟨(Nat.le_of_ble_eq_true rfl), (Nat.le_of_ble_eq_true rfl)⟩ rfl rfl (Nat.le_of_ble_eq_true rfl)) rfl rfl rfl (Nat.zero_le _) (Nat.zero_le _) fun r2 h3 =>
    aw_iret (pc := 13) C dK_d_79.2.2.2.2.2.2.1 rfl rfl) (fun _ =>
    aw_bipush (pc := 14) C (v := 99) dK_d_79.2.2.2.2.2.2.2.1 rfl <|
    aw_istore_n (pc := 16) C (i := 1) (lv' := [(0, .ref 0), (1, .int 99)]) dK_d_80.1 rfl (by decide) rfl <|
    aw_iconst (pc := 17) C (v := 0) dK_d_80.2.1 rfl <|
    aw_istore_n (pc := 18) C (i := 2) (lv' := [(0, .ref 0), (1, .int 99), (2, .int 0)]) dK_d_80.2.2.1 rfl (by decide) rfl <|
    aw_iconst (pc := 19) C (v := 0) dK_d_80.2.2.2.1 rfl <|
    aw_istore_n (pc := 20) C (i := 3) (lv' := [(0, .ref 0), (1, .int 99), (2, .int 0), (3, .int 0)]) dK_d_80.2.2.2.2.1 rfl (by decide) rfl <|
    (aX11_unlike_l21 C FU 99 0 0 h))

abbrev rmX11_isMovedFrom : Room := { frames := 0, cells := 0, slots := 0, locals := 0 }
def X11_isMovedFrom_l13  (v1 : Int32) (v2 : Int32) (v3 : Int32) (K2 : Int32 → AH → Option (Int32 × AH)) : Nat → Int32 → AH → Option (Int32 × AH)
  | 0, _, _ => none
  | n + 1, v4, h =>
    if v1 ≤ v4 then (vl (v3 + 1) fun x1 =>
    K2 x1 h)
    else (ck v3 12 (ck v4 12 (if (h.1 23 v3.toNatClampNeg) ≤ ((h.1 23 v4.toNatClampNeg) - v2) then (vl (v4 + 1) fun x2 =>
    (X11_isMovedFrom_l13 v1 v2 v3 K2 n) x2 h)
    else (cz 0 (some (0, h))))))
set_option maxRecDepth 100000 in
theorem aX11_isMovedFrom_l13 {X : MCx} {yd : Dyn} {A : Nat → Prop} (C : OK X cX11_isMovedFrom RX11 5 (some .boolean) rmX11_isMovedFrom A)  (v1 : Int32) (v2 : Int32) (v3 : Int32) (K2 : Int32 → AH → Option (Int32 × AH)) (hK2 : ∀ (w3 : Int32) (h : AH), AW X 5 ZR yd A 0 0 (QF X rmX11_isMovedFrom ZR yd rvI A) 2 [(0, .ref 0), (1, .int v1), (2, .int v2), (3, .int w3)] [] h (K2 w3 h)) : ∀ (n : Nat) (v4 : Int32) (h : AH), AW X 5 ZR yd A 0 0 (QF X rmX11_isMovedFrom ZR yd rvI A) 13 [(0, .ref 0), (1, .int v1), (2, .int v2), (3, .int v3), (4, .int v4)] [] h (X11_isMovedFrom_l13 v1 v2 v3 K2 n v4 h) := by
  intro n
  induction n with
  | zero => intro v4 h; exact aw_none
  | succ n ih =>
    intro v4 h
    exact aw_iload (pc := 13) C (i := 4) dK_d_87.1 rfl <|
    aw_iload_n (pc := 15) C (i := 1) dK_d_87.2.1 rfl rfl <|
    aw_icmp_ge (pc := 16) C (tgt := 45) dK_d_87.2.2.1 rfl (fun _ =>
    aw_iincV (pc := 45) C (i := 3) (cst := 1) (fun x1 => [(0, .ref 0), (1, .int v1), (2, .int v2), (3, .int x1), (4, .int v4)]) dK_d_89.2.2.1 rfl rfl (by decide) (fun _ => rfl) fun x1 =>
    aw_goto (pc := 48) C (tgt := 2) dK_d_89.2.2.2.1 rfl <|
    aw_drop [0, 1, 2, 3] (hK2 x1 h)) (fun _ =>
    aw_aload_n (pc := 19) C (i := 0) dK_d_87.2.2.2.1 rfl rfl <|
    aw_getR (pc := 20) C (b := 23) dK_d_87.2.2.2.2.1 fl_X11_77 sR_0 rfl rR_0_33 <|
    aw_iload_n (pc := 23) C (i := 3) dK_d_87.2.2.2.2.2.1 rfl rfl <|
    aw_iald (pc := 24) C dK_d_87.2.2.2.2.2.2.1 sR_23 rfl <|
    aw_aload_n (pc := 25) C (i := 0) dK_d_87.2.2.2.2.2.2.2.1 rfl rfl <|
    aw_getR (pc := 26) C (b := 23) dK_d_88.1 fl_X11_77 sR_0 rfl rR_0_33 <|
    aw_iload (pc := 29) C (i := 4) dK_d_88.2.1 rfl <|
    aw_iald (pc := 31) C dK_d_88.2.2.1 sR_23 rfl <|
    aw_iload_n (pc := 32) C (i := 2) dK_d_88.2.2.2.1 rfl rfl <|
    aw_isub (pc := 33) C dK_d_88.2.2.2.2.1 <|
    aw_icmp_le (pc := 34) C (tgt := 39) dK_d_88.2.2.2.2.2.1 rfl (fun _ =>
    aw_iincV (pc := 39) C (i := 4) (cst := 1) (fun x2 => [(0, .ref 0), (1, .int v1), (2, .int v2), (3, .int v3), (4, .int x2)]) dK_d_89.1 rfl rfl (by decide) (fun _ => rfl) fun x2 =>
    aw_goto (pc := 42) C (tgt := 13) dK_d_89.2.1 rfl <|
    (ih x2 h)) (fun _ =>
    aw_iconst (pc := 37) C (v := 0) dK_d_88.2.2.2.2.2.2.1 rfl <|
    aw_zret (pc := 38) C dK_d_88.2.2.2.2.2.2.2.1 rfl rfl))
def X11_isMovedFrom_l2  (v1 : Int32) (v2 : Int32) : Nat → Int32 → AH → Option (Int32 × AH)
  | 0, _, _ => none
  | n + 1, v3, h =>
    if (h.1 0 34) ≤ v3 then (cz 1 (some (1, h)))
    else (X11_isMovedFrom_l13 v1 v2 v3 (X11_isMovedFrom_l2 v1 v2 n) FU 0 h)
set_option maxRecDepth 100000 in
theorem aX11_isMovedFrom_l2 {X : MCx} {yd : Dyn} {A : Nat → Prop} (C : OK X cX11_isMovedFrom RX11 5 (some .boolean) rmX11_isMovedFrom A)  (v1 : Int32) (v2 : Int32) : ∀ (n : Nat) (v3 : Int32) (h : AH), AW X 5 ZR yd A 0 0 (QF X rmX11_isMovedFrom ZR yd rvI A) 2 [(0, .ref 0), (1, .int v1), (2, .int v2), (3, .int v3)] [] h (X11_isMovedFrom_l2 v1 v2 n v3 h) := by
  intro n
  induction n with
  | zero => intro v3 h; exact aw_none
  | succ n ih =>
    intro v3 h
    exact aw_iload_n (pc := 2) C (i := 3) dK_d_86.2.2.1 rfl rfl <|
    aw_aload_n (pc := 3) C (i := 0) dK_d_86.2.2.2.1 rfl rfl <|
    aw_getI (pc := 4) C dK_d_86.2.2.2.2.1 fl_X11_295 sR_0 rfl <|
    aw_icmp_ge (pc := 7) C (tgt := 51) dK_d_86.2.2.2.2.2.1 rfl (fun _ =>
    aw_iconst (pc := 51) C (v := 1) dK_d_89.2.2.2.2.1 rfl <|
    aw_zret (pc := 52) C dK_d_89.2.2.2.2.2.1 rfl rfl) (fun _ =>
    aw_iconst (pc := 10) C (v := 0) dK_d_86.2.2.2.2.2.2.1 rfl <|
    aw_istore (pc := 11) C (i := 4) (lv' := [(0, .ref 0), (1, .int v1), (2, .int v2), (3, .int v3), (4, .int 0)]) dK_d_86.2.2.2.2.2.2.2.1 (by decide) rfl <|
    (aX11_isMovedFrom_l13 C v1 v2 v3 (X11_isMovedFrom_l2 v1 v2 n) ih FU 0 h))
def X11_isMovedFrom (v1 : Int32) (v2 : Int32) (h : AH) : Option (Int32 × AH) :=
    X11_isMovedFrom_l2 v1 v2 FU v1 h
set_option maxRecDepth 100000 in
theorem c_X11_isMovedFrom (l : Launch) (v1 : Int32) (v2 : Int32) : MC l yX11_isMovedFrom cX11_isMovedFrom 5 (some .boolean) rmX11_isMovedFrom ZR [.ref 0, .int v1, .int v2] rvI (X11_isMovedFrom v1 v2) :=
  MC.of (own := RX11) pn_RX11 rfl (Nat.le_of_ble_eq_true rfl) fun X yd A h _ C =>
    aw_iload_n (pc := 0) C (i := 1) dK_d_86.1 rfl rfl <|
    aw_istore_n (pc := 1) C (i := 3) (lv' := [(0, .ref 0), (1, .int v1), (2, .int v2), (3, .int v1)]) dK_d_86.2.1 rfl (by decide) rfl <|
    (aX11_isMovedFrom_l2 C v1 v2 FU v1 h)

abbrev rmX11_moved : Room := { frames := 1, cells := 0, slots := 0, locals := 24 }
def X11_moved_l20  (v1 : Int32) : Nat → Int32 → AH → Option (Int32 × AH)
  | 0, _, _ => none
  | n + 1, v3, h =>
    if (h.1 0 34) ≤ v3 then (some ((-9), h))
    else (bd (X11_isMovedFrom v3 v1 h) fun r3 h4 =>
    if r3 = 0 then (vl (v3 + 1) fun x5 =>
    (X11_moved_l20 v1 n) x5 h4)
    else (some (v3, h4)))
set_option maxRecDepth 100000 in
theorem aX11_moved_l20 {X : MCx} {yd : Dyn} {A : Nat → Prop} (C : OK X cX11_moved RX11 4 (some .int) rmX11_moved A)  (v1 : Int32) : ∀ (n : Nat) (v3 : Int32) (h : AH), AW X 4 ZR yd A 0 0 (QF X rmX11_moved ZR yd rvI A) 20 [(0, .ref 0), (1, .int v1), (3, .int v3)] [] h (X11_moved_l20 v1 n v3 h) := by
  intro n
  induction n with
  | zero => intro v3 h; exact aw_none
  | succ n ih =>
    intro v3 h
    exact aw_iload_n (pc := 20) C (i := 3) dK_d_91.2.2.2.2.2.1 rfl rfl <|
    aw_aload_n (pc := 21) C (i := 0) dK_d_91.2.2.2.2.2.2.1 rfl rfl <|
    aw_getI (pc := 22) C dK_d_91.2.2.2.2.2.2.2.1 fl_X11_295 sR_0 rfl <|
    aw_icmp_ge (pc := 25) C (tgt := 45) dK_d_92.1 rfl (fun _ =>
    aw_bipush (pc := 45) C (v := (-9)) dK_d_93.2.2.1 rfl <|
    aw_iret (pc := 47) C dK_d_93.2.2.2.1 rfl rfl) (fun _ =>
    aw_aload_n (pc := 28) C (i := 0) dK_d_92.2.1 rfl rfl <|
    aw_iload_n (pc := 29) C (i := 3) dK_d_92.2.2.1 rfl rfl <|
    aw_iload_n (pc := 30) C (i := 1) dK_d_92.2.2.2.1 rfl rfl <|
    aw_callF (pc := 31) C (cr_V (rest := []) (F := (X11_isMovedFrom v3 v1)) C (c_X11_isMovedFrom X.2.1 v3 v1) dK_d_92.2.2.2.2.1 mf_X11_isMovedFrom ml_X11_298 im_X11_isMovedFrom se_X11_isMovedFrom sR_0 rfl ⟨(Nat.le_of_ble_eq_true rfl), (Nat.le_of_ble_eq_true rfl)⟩ rfl rfl (Nat.le_of_ble_eq_true rfl)) rfl rfl rfl (Nat.zero_le _) (Nat.zero_le _) fun r3 h4 =>
    aw_if_eq (pc := 34) C (tgt := 39) dK_d_92.2.2.2.2.2.1 rfl (fun _ =>
    aw_iincV (pc := 39) C (i := 3) (cst := 1) (fun x5 => [(0, .ref 0), (1, .int v1), (3, .int x5)]) dK_d_93.1 rfl rfl (by decide) (fun _ => rfl) fun x5 =>
    aw_goto (pc := 42) C (tgt := 20) dK_d_93.2.1 rfl <|
    (ih x5 h4)) (fun _ =>
    aw_iload_n (pc := 37) C (i := 3) dK_d_92.2.2.2.2.2.2.1 rfl rfl <|
    aw_iret (pc := 38) C dK_d_92.2.2.2.2.2.2.2.1 rfl rfl))
def X11_moved (v1 : Int32) (h : AH) : Option (Int32 × AH) :=
    bd (X11_bound v1 1 99 h) fun r1 h2 =>
    if r1 = 0 then (X11_moved_l20 v1 FU 1 h2)
    else (bd (X11_no r1 h2) fun r6 h7 =>
    some (r6, h7))
set_option maxRecDepth 100000 in
theorem c_X11_moved (l : Launch) (v1 : Int32) : MC l yX11_moved cX11_moved 4 (some .int) rmX11_moved ZR [.ref 0, .int v1] rvI (X11_moved v1) :=
  MC.of (own := RX11) pn_RX11 rfl (Nat.le_of_ble_eq_true rfl) fun X yd A h _ C =>
    aw_iload_n (pc := 0) C (i := 1) dK_d_90.1 rfl rfl <|
    aw_iconst (pc := 1) C (v := 1) dK_d_90.2.1 rfl <|
    aw_bipush (pc := 2) C (v := 99) dK_d_90.2.2.1 rfl <|
    aw_callF (pc := 4) C (cr_S (rest := []) (F := (X11_bound v1 1 99)) C (c_X11_bound X.2.1 v1 1 99) dK_d_90.2.2.2.1 mf_X11_bound ml_X11_108 st_X11_bound ⟨(Nat.le_of_ble_eq_true rfl), (Nat.le_of_ble_eq_true rfl)⟩ rfl rfl (Nat.le_of_ble_eq_true rfl)) rfl rfl rfl (Nat.zero_le _) (Nat.zero_le _) fun r1 h2 =>
    aw_istore_n (pc := 7) C (i := 2) (lv' := [(0, .ref 0), (1, .int v1), (2, .int r1)]) dK_d_90.2.2.2.2.1 rfl (by decide) rfl <|
    aw_iload_n (pc := 8) C (i := 2) dK_d_90.2.2.2.2.2.1 rfl rfl <|
    aw_if_eq (pc := 9) C (tgt := 18) dK_d_90.2.2.2.2.2.2.1 rfl (fun _ =>
    aw_iconst (pc := 18) C (v := 1) dK_d_91.2.2.2.1 rfl <|
    aw_istore_n (pc := 19) C (i := 3) (lv' := [(0, .ref 0), (1, .int v1), (2, .int r1), (3, .int 1)]) dK_d_91.2.2.2.2.1 rfl (by decide) rfl <|
    aw_drop [0, 1, 3] (aX11_moved_l20 C v1 FU 1 h2)) (fun _ =>
    aw_aload_n (pc := 12) C (i := 0) dK_d_90.2.2.2.2.2.2.2.1 rfl rfl <|
    aw_iload_n (pc := 13) C (i := 2) dK_d_91.1 rfl rfl <|
    aw_callF (pc := 14) C (cr_V (rest := []) (F := (X11_no r1)) C (c_X11_no X.2.1 r1) dK_d_91.2.1 mf_X11_no ml_X11_115 im_X11_no se_X11_no sR_0 rfl ⟨(Nat.le_of_ble_eq_true rfl), (Nat.le_of_ble_eq_true rfl)⟩ rfl rfl (Nat.le_of_ble_eq_true rfl)) rfl rfl rfl (Nat.zero_le _) (Nat.zero_le _) fun r6 h7 =>
    aw_iret (pc := 17) C dK_d_91.2.2.1 rfl rfl)

abbrev rmX11_gusts : Room := { frames := 5, cells := 0, slots := 0, locals := 123 }
def X11_gusts_j128  (v1 : Int32) (v3 : Int32) (v4 : Int32) (v5 : Int64) (v7 : Int32) (K79 : Int32 → Int64 → Int32 → AH → Option (Int32 × AH)) (h : AH) : Option (Int32 × AH) :=
    vl (v7 + 1) fun x10 =>
    K79 v4 v5 x10 h
set_option maxRecDepth 100000 in
theorem aX11_gusts_j128 {X : MCx} {yd : Dyn} {A : Nat → Prop} (C : OK X cX11_gusts RX11 10 (some .int) rmX11_gusts A)  (v1 : Int32) (v3 : Int32) (v4 : Int32) (v5 : Int64) (v7 : Int32) (K79 : Int32 → Int64 → Int32 → AH → Option (Int32 × AH)) (hK79 : ∀ (w4 : Int32) (w5 : Int64) (w7 : Int32) (h : AH), AW X 10 ZR yd A 0 0 (QF X rmX11_gusts ZR yd rvI A) 79 [(0, .ref 0), (1, .int v1), (3, .int v3), (4, .int w4), (5, .long w5), (7, .int w7)] [] h (K79 w4 w5 w7 h)) (h : AH) : AW X 10 ZR yd A 0 0 (QF X rmX11_gusts ZR yd rvI A) 128 [(0, .ref 0), (1, .int v1), (3, .int v3), (4, .int v4), (5, .long v5), (7, .int v7)] [] h (X11_gusts_j128 v1 v3 v4 v5 v7 K79 h) := by
    exact aw_iincV (pc := 128) C (i := 7) (cst := 1) (fun x10 => [(0, .ref 0), (1, .int v1), (3, .int v3), (4, .int v4), (5, .long v5), (7, .int x10)]) dK_d_102.2.2.2.2.1 rfl rfl (by decide) (fun _ => rfl) fun x10 =>
    aw_goto (pc := 131) C (tgt := 79) dK_d_102.2.2.2.2.2.1 rfl <|
    (hK79 v4 v5 x10 h)
def X11_gusts_l79  (v1 : Int32) (v3 : Int32) : Nat → Int32 → Int64 → Int32 → AH → Option (Int32 × AH)
  | 0, _, _, _, _ => none
  | n + 1, v4, v5, v7, h =>
    if (h.1 0 34) ≤ v7 then (vl (sI h 0 14 v3) fun h6 =>
    some (v4, h6))
    else (ck v7 12 (vl (sI h 0 14 ((h.1 23 v7.toNatClampNeg) - 9)) fun h7 =>
    bd (X11_meanParts v1 h7) fun r8 h9 =>
    if 0 < (lcmpV r8 v5) then (X11_gusts_j128 v1 v3 v7 r8 v7 (X11_gusts_l79 v1 v3 n) h9)
    else (X11_gusts_j128 v1 v3 v4 v5 v7 (X11_gusts_l79 v1 v3 n) h9)))
set_option maxRecDepth 100000 in
theorem aX11_gusts_l79 {X : MCx} {yd : Dyn} {A : Nat → Prop} (C : OK X cX11_gusts RX11 10 (some .int) rmX11_gusts A)  (v1 : Int32) (v3 : Int32) : ∀ (n : Nat) (v4 : Int32) (v5 : Int64) (v7 : Int32) (h : AH), AW X 10 ZR yd A 0 0 (QF X rmX11_gusts ZR yd rvI A) 79 [(0, .ref 0), (1, .int v1), (3, .int v3), (4, .int v4), (5, .long v5), (7, .int v7)] [] h (X11_gusts_l79 v1 v3 n v4 v5 v7 h) := by
  intro n
  induction n with
  | zero => intro v4 v5 v7 h; exact aw_none
  | succ n ih =>
    intro v4 v5 v7 h
    exact aw_iload (pc := 79) C (i := 7) dK_d_99.2.2.2.1 rfl <|
    aw_aload_n (pc := 81) C (i := 0) dK_d_99.2.2.2.2.1 rfl rfl <|
    aw_getI (pc := 82) C dK_d_99.2.2.2.2.2.1 fl_X11_295 sR_0 rfl <|
    aw_icmp_ge (pc := 85) C (tgt := 134) dK_d_99.2.2.2.2.2.2.1 rfl (fun _ =>
    aw_aload_n (pc := 134) C (i := 0) dK_d_102.2.2.2.2.2.2.1 rfl rfl <|
    aw_iload_n (pc := 135) C (i := 3) dK_d_102.2.2.2.2.2.2.2.1 rfl rfl <|
    aw_putI (pc := 136) C dK_d_103.1 fp_X11_157 sR_0 rfl fun h6 =>
    aw_iload (pc := 139) C (i := 4) dK_d_103.2.1 rfl <|
    aw_iret (pc := 141) C dK_d_103.2.2.1 rfl rfl) (fun _ =>
    aw_aload_n (pc := 88) C (i := 0) dK_d_99.2.2.2.2.2.2.2.1 rfl rfl <|
    aw_aload_n (pc := 89) C (i := 0) dK_d_100.1 rfl rfl <|
    aw_getR (pc := 90) C (b := 23) dK_d_100.2.1 fl_X11_77 sR_0 rfl rR_0_33 <|
    aw_iload (pc := 93) C (i := 7) dK_d_100.2.2.1 rfl <|
    aw_iald (pc := 95) C dK_d_100.2.2.2.1 sR_23 rfl <|
    aw_bipush (pc := 96) C (v := 9) dK_d_100.2.2.2.2.1 rfl <|
    aw_isub (pc := 98) C dK_d_100.2.2.2.2.2.1 <|
    aw_putI (pc := 99) C dK_d_100.2.2.2.2.2.2.1 fp_X11_157 sR_0 rfl fun h7 =>
    aw_aload_n (pc := 102) C (i := 0) dK_d_100.2.2.2.2.2.2.2.1 rfl rfl <|
    aw_iload_n (pc := 103) C (i := 1) dK_d_101.1 rfl rfl <|
    aw_callF (pc := 104) C (cr_V (rest := []) (F := (X11_meanParts v1)) C (c_X11_meanParts X.2.1 v1) dK_d_101.2.1 mf_X11_meanParts ml_X11_254 im_X11_meanParts se_X11_meanParts sR_0 rfl ⟨(Nat.le_of_ble_eq_true rfl), (Nat.le_of_ble_eq_true rfl)⟩ rfl rfl (Nat.le_of_ble_eq_true rfl)) rfl rfl rfl (Nat.zero_le _) (Nat.zero_le _) fun r8 h9 =>
    aw_lstore (pc := 107) C (i := 8) (lv' := [(0, .ref 0), (1, .int v1), (3, .int v3), (4, .int v4), (5, .long v5), (7, .int v7), (8, .long r8)]) dK_d_101.2.2.1 (by decide) rfl <|
    aw_lload (pc := 109) C (i := 8) dK_d_101.2.2.2.1 rfl <|
    aw_lload (pc := 111) C (i := 5) dK_d_101.2.2.2.2.1 rfl <|
    aw_lcmp (pc := 113) C dK_d_101.2.2.2.2.2.1 <|
    aw_if_gt (pc := 114) C (tgt := 120) dK_d_101.2.2.2.2.2.2.1 rfl (fun _ =>
    aw_iload (pc := 120) C (i := 7) dK_d_102.1 rfl <|
    aw_istore (pc := 122) C (i := 4) (lv' := [(0, .ref 0), (1, .int v1), (3, .int v3), (4, .int v7), (5, .long v5), (7, .int v7), (8, .long r8)]) dK_d_102.2.1 (by decide) rfl <|
    aw_lload (pc := 124) C (i := 8) dK_d_102.2.2.1 rfl <|
    aw_lstore (pc := 126) C (i := 5) (lv' := [(0, .ref 0), (1, .int v1), (3, .int v3), (4, .int v7), (5, .long r8), (7, .int v7), (8, .long r8)]) dK_d_102.2.2.2.1 (by decide) rfl <|
    aw_drop [0, 1, 2, 3, 4, 5] (aX11_gusts_j128 C v1 v3 v7 r8 v7 (X11_gusts_l79 v1 v3 n) ih h9)) (fun _ =>
    aw_goto (pc := 117) C (tgt := 128) dK_d_101.2.2.2.2.2.2.2.1 rfl <|
    aw_drop [0, 1, 2, 3, 4, 5] (aX11_gusts_j128 C v1 v3 v4 v5 v7 (X11_gusts_l79 v1 v3 n) ih h9)))
def X11_gusts_j52  (v1 : Int32) (v2 : Int32) (h : AH) : Option (Int32 × AH) :=
    if v2 = 0 then (vl (h.1 0 14) fun x3 =>
    vl (-9) fun x4 =>
    vl (-1) fun x5 =>
    X11_gusts_l79 v1 x3 FU x4 x5 0 h)
    else (bd (X11_no v2 h) fun r11 h12 =>
    some (r11, h12))
set_option maxRecDepth 100000 in
theorem aX11_gusts_j52 {X : MCx} {yd : Dyn} {A : Nat → Prop} (C : OK X cX11_gusts RX11 10 (some .int) rmX11_gusts A)  (v1 : Int32) (v2 : Int32) (h : AH) : AW X 10 ZR yd A 0 0 (QF X rmX11_gusts ZR yd rvI A) 52 [(0, .ref 0), (1, .int v1), (2, .int v2)] [] h (X11_gusts_j52 v1 v2 h) := by
    exact aw_iload_n (pc := 52) C (i := 2) dK_d_97.2.2.2.2.1 rfl rfl <|
    aw_if_eq (pc := 53) C (tgt := 62) dK_d_97.2.2.2.2.2.1 rfl (fun _ =>
    aw_aload_n (pc := 62) C (i := 0) dK_d_98.2.2.1 rfl rfl <|
    aw_getI (pc := 63) C dK_d_98.2.2.2.1 fl_X11_157 sR_0 rfl <|
    aw_istoreV_n (pc := 66) C (i := 3) (fun x3 => [(0, .ref 0), (1, .int v1), (2, .int v2), (3, .int x3)]) dK_d_98.2.2.2.2.1 rfl (by decide) (fun _ => rfl) fun x3 =>
    aw_bipush (pc := 67) C (v := (-9)) dK_d_98.2.2.2.2.2.1 rfl <|
    aw_istoreV (pc := 69) C (i := 4) (fun x4 => [(0, .ref 0), (1, .int v1), (2, .int v2), (3, .int x3), (4, .int x4)]) dK_d_98.2.2.2.2.2.2.1 (by decide) (fun _ => rfl) fun x4 =>
    aw_ldc2_w (pc := 71) C (v := (-1)) dK_d_98.2.2.2.2.2.2.2.1 kc_X11_257 <|
    aw_lstoreV (pc := 74) C (i := 5) (fun x5 => [(0, .ref 0), (1, .int v1), (2, .int v2), (3, .int x3), (4, .int x4), (5, .long x5)]) dK_d_99.1 (by decide) (fun _ => rfl) fun x5 =>
    aw_iconst (pc := 76) C (v := 0) dK_d_99.2.1 rfl <|
    aw_istore (pc := 77) C (i := 7) (lv' := [(0, .ref 0), (1, .int v1), (2, .int v2), (3, .int x3), (4, .int x4), (5, .long x5), (7, .int 0)]) dK_d_99.2.2.1 (by decide) rfl <|
    aw_drop [0, 1, 3, 4, 5, 6] (aX11_gusts_l79 C v1 x3 FU x4 x5 0 h)) (fun _ =>
    aw_aload_n (pc := 56) C (i := 0) dK_d_97.2.2.2.2.2.2.1 rfl rfl <|
    aw_iload_n (pc := 57) C (i := 2) dK_d_97.2.2.2.2.2.2.2.1 rfl rfl <|
    aw_callF (pc := 58) C (cr_V (rest := []) (F := (X11_no v2)) C (c_X11_no X.2.1 v2) dK_d_98.1 mf_X11_no ml_X11_115 im_X11_no se_X11_no sR_0 rfl ⟨(Nat.le_of_ble_eq_true rfl), (Nat.le_of_ble_eq_true rfl)⟩ rfl rfl (Nat.le_of_ble_eq_true rfl)) rfl rfl rfl (Nat.zero_le _) (Nat.zero_le _) fun r11 h12 =>
    aw_iret (pc := 61) C dK_d_98.2.1 rfl rfl)
def X11_gusts_j45  (v1 : Int32) (v3 : Int32) (K16 : Int32 → Int32 → AH → Option (Int32 × AH)) (s0 : Int32) (h : AH) : Option (Int32 × AH) :=
    vl (v3 + 1) fun x13 =>
    K16 s0 x13 h
set_option maxRecDepth 100000 in
theorem aX11_gusts_j45 {X : MCx} {yd : Dyn} {A : Nat → Prop} (C : OK X cX11_gusts RX11 10 (some .int) rmX11_gusts A)  (v1 : Int32) (v3 : Int32) (K16 : Int32 → Int32 → AH → Option (Int32 × AH)) (hK16 : ∀ (w2 : Int32) (w3 : Int32) (h : AH), AW X 10 ZR yd A 0 0 (QF X rmX11_gusts ZR yd rvI A) 16 [(0, .ref 0), (1, .int v1), (2, .int w2), (3, .int w3)] [] h (K16 w2 w3 h)) (s0 : Int32) (h : AH) : AW X 10 ZR yd A 0 0 (QF X rmX11_gusts ZR yd rvI A) 45 [(0, .ref 0), (1, .int v1), (3, .int v3)] [.int s0] h (X11_gusts_j45 v1 v3 K16 s0 h) := by
    exact aw_istore_n (pc := 45) C (i := 2) (lv' := [(0, .ref 0), (1, .int v1), (2, .int s0), (3, .int v3)]) dK_d_97.2.1 rfl (by decide) rfl <|
    aw_iincV (pc := 46) C (i := 3) (cst := 1) (fun x13 => [(0, .ref 0), (1, .int v1), (2, .int s0), (3, .int x13)]) dK_d_97.2.2.1 rfl rfl (by decide) (fun _ => rfl) fun x13 =>
    aw_goto (pc := 49) C (tgt := 16) dK_d_97.2.2.2.1 rfl <|
    (hK16 s0 x13 h)
def X11_gusts_l16  (v1 : Int32) : Nat → Int32 → Int32 → AH → Option (Int32 × AH)
  | 0, _, _, _ => none
  | n + 1, v2, v3, h =>
    if (h.1 0 34) ≤ v3 then (X11_gusts_j52 v1 v2 h)
    else (if v2 = 0 then (ck v3 12 (if (h.1 23 v3.toNatClampNeg) ≤ 18 then (X11_gusts_j45 v1 v3 (X11_gusts_l16 v1 n) 0 h)
    else (X11_gusts_j45 v1 v3 (X11_gusts_l16 v1 n) (-3) h)))
    else (X11_gusts_j52 v1 v2 h))
set_option maxRecDepth 100000 in
theorem aX11_gusts_l16 {X : MCx} {yd : Dyn} {A : Nat → Prop} (C : OK X cX11_gusts RX11 10 (some .int) rmX11_gusts A)  (v1 : Int32) : ∀ (n : Nat) (v2 : Int32) (v3 : Int32) (h : AH), AW X 10 ZR yd A 0 0 (QF X rmX11_gusts ZR yd rvI A) 16 [(0, .ref 0), (1, .int v1), (2, .int v2), (3, .int v3)] [] h (X11_gusts_l16 v1 n v2 v3 h) := by
  intro n
  induction n with
  | zero => intro v2 v3 h; exact aw_none
  | succ n ih =>
    intro v2 v3 h
    exact aw_iload_n (pc := 16) C (i := 3) dK_d_95.2.2.1 rfl rfl <|
    aw_aload_n (pc := 17) C (i := 0) dK_d_95.2.2.2.1 rfl rfl <|
    aw_getI (pc := 18) C dK_d_95.2.2.2.2.1 fl_X11_295 sR_0 rfl <|
    aw_icmp_ge (pc := 21) C (tgt := 52) dK_d_95.2.2.2.2.2.1 rfl (fun _ =>
    aw_drop [0, 1, 2] (aX11_gusts_j52 C v1 v2 h)) (fun _ =>
    aw_iload_n (pc := 24) C (i := 2) dK_d_95.2.2.2.2.2.2.1 rfl rfl <|
    aw_if_ne (pc := 25) C (tgt := 52) dK_d_95.2.2.2.2.2.2.2.1 rfl (fun _ =>
    aw_aload_n (pc := 28) C (i := 0) dK_d_96.1 rfl rfl <|
    aw_getR (pc := 29) C (b := 23) dK_d_96.2.1 fl_X11_77 sR_0 rfl rR_0_33 <|
    aw_iload_n (pc := 32) C (i := 3) dK_d_96.2.2.1 rfl rfl <|
    aw_iald (pc := 33) C dK_d_96.2.2.2.1 sR_23 rfl <|
    aw_bipush (pc := 34) C (v := 18) dK_d_96.2.2.2.2.1 rfl <|
    aw_icmp_le (pc := 36) C (tgt := 44) dK_d_96.2.2.2.2.2.1 rfl (fun _ =>
    aw_iconst (pc := 44) C (v := 0) dK_d_97.1 rfl <|
    aw_drop [0, 1, 3] (aX11_gusts_j45 C v1 v3 (X11_gusts_l16 v1 n) ih 0 h)) (fun _ =>
    aw_bipush (pc := 39) C (v := (-3)) dK_d_96.2.2.2.2.2.2.1 rfl <|
    aw_goto (pc := 41) C (tgt := 45) dK_d_96.2.2.2.2.2.2.2.1 rfl <|
    aw_drop [0, 1, 3] (aX11_gusts_j45 C v1 v3 (X11_gusts_l16 v1 n) ih (-3) h))) (fun _ =>
    aw_drop [0, 1, 2] (aX11_gusts_j52 C v1 v2 h)))
def X11_gusts_j13  (v1 : Int32) (s0 : Int32) (h : AH) : Option (Int32 × AH) :=
    X11_gusts_l16 v1 FU s0 0 h
set_option maxRecDepth 100000 in
theorem aX11_gusts_j13 {X : MCx} {yd : Dyn} {A : Nat → Prop} (C : OK X cX11_gusts RX11 10 (some .int) rmX11_gusts A)  (v1 : Int32) (s0 : Int32) (h : AH) : AW X 10 ZR yd A 0 0 (QF X rmX11_gusts ZR yd rvI A) 13 [(0, .ref 0), (1, .int v1)] [.int s0] h (X11_gusts_j13 v1 s0 h) := by
    exact aw_istore_n (pc := 13) C (i := 2) (lv' := [(0, .ref 0), (1, .int v1), (2, .int s0)]) dK_d_94.2.2.2.2.2.2.2.1 rfl (by decide) rfl <|
    aw_iconst (pc := 14) C (v := 0) dK_d_95.1 rfl <|
    aw_istore_n (pc := 15) C (i := 3) (lv' := [(0, .ref 0), (1, .int v1), (2, .int s0), (3, .int 0)]) dK_d_95.2.1 rfl (by decide) rfl <|
    (aX11_gusts_l16 C v1 FU s0 0 h)
def X11_gusts (v1 : Int32) (h : AH) : Option (Int32 × AH) :=
    bd (X11_isJumper v1 h) fun r1 h2 =>
    if r1 = 0 then (X11_gusts_j13 v1 (-1) h2)
    else (X11_gusts_j13 v1 0 h2)
set_option maxRecDepth 100000 in
theorem c_X11_gusts (l : Launch) (v1 : Int32) : MC l yX11_gusts cX11_gusts 10 (some .int) rmX11_gusts ZR [.ref 0, .int v1] rvI (X11_gusts v1) :=
  MC.of (own := RX11) pn_RX11 rfl (Nat.le_of_ble_eq_true rfl) fun X yd A h _ C =>
    aw_aload_n (pc := 0) C (i := 0) dK_d_94.1 rfl rfl <|
    aw_iload_n (pc := 1) C (i := 1) dK_d_94.2.1 rfl rfl <|
    aw_callF (pc := 2) C (cr_V (rest := []) (F := (X11_isJumper v1)) C (c_X11_isJumper X.2.1 v1) dK_d_94.2.2.1 mf_X11_isJumper ml_X11_207 im_X11_isJumper se_X11_isJumper sR_0 rfl ⟨(Nat.le_of_ble_eq_true rfl), (Nat.le_of_ble_eq_true rfl)⟩ rfl rfl (Nat.le_of_ble_eq_true rfl)) rfl rfl rfl (Nat.zero_le _) (Nat.zero_le _) fun r1 h2 =>
    aw_if_ne (pc := 5) C (tgt := 12) dK_d_94.2.2.2.1 rfl (fun _ =>
    aw_iconst (pc := 8) C (v := (-1)) dK_d_94.2.2.2.2.1 rfl <|
    aw_goto (pc := 9) C (tgt := 13) dK_d_94.2.2.2.2.2.1 rfl <|
    (aX11_gusts_j13 C v1 (-1) h2)) (fun _ =>
    aw_iconst (pc := 12) C (v := 0) dK_d_94.2.2.2.2.2.2.1 rfl <|
    (aX11_gusts_j13 C v1 0 h2))
end
section
abbrev rmX11_on : Room := { frames := 6, cells := 0, slots := 0, locals := 130 }
def X11_on_j205  (v1 : Int32) (v2 : Int32) (v4 : Int32) (v5 : Int32) (v8 : Int32) (K114 : Int64 → Int32 → AH → Option (Int64 × AH)) (s0 : Int64) (s1 : Int64) (h : AH) : Option (Int64 × AH) :=
    vl (s1 + s0) fun x19 =>
    vl (v8 + 1) fun x20 =>
    K114 x19 x20 h
set_option maxRecDepth 100000 in
theorem aX11_on_j205 {X : MCx} {yd : Dyn} {A : Nat → Prop} (C : OK X cX11_on RX11 10 (some .long) rmX11_on A)  (v1 : Int32) (v2 : Int32) (v4 : Int32) (v5 : Int32) (v8 : Int32) (K114 : Int64 → Int32 → AH → Option (Int64 × AH)) (hK114 : ∀ (w6 : Int64) (w8 : Int32) (h : AH), AW X 10 ZR yd A 0 0 (QF X rmX11_on ZR yd rvL A) 114 [(0, .ref 0), (1, .int v1), (2, .int v2), (4, .int v4), (5, .int v5), (6, .long w6), (8, .int w8)] [] h (K114 w6 w8 h)) (s0 : Int64) (s1 : Int64) (h : AH) : AW X 10 ZR yd A 0 0 (QF X rmX11_on ZR yd rvL A) 205 [(0, .ref 0), (1, .int v1), (2, .int v2), (4, .int v4), (5, .int v5), (8, .int v8)] [.long s0, .long s1] h (X11_on_j205 v1 v2 v4 v5 v8 K114 s0 s1 h) := by
    exact aw_ladd (pc := 205) C dK_d_117.2.2.2.2.2.2.1 <|
    aw_lstoreV (pc := 206) C (i := 6) (fun x19 => [(0, .ref 0), (1, .int v1), (2, .int v2), (4, .int v4), (5, .int v5), (6, .long x19), (8, .int v8)]) dK_d_117.2.2.2.2.2.2.2.1 (by decide) (fun _ => rfl) fun x19 =>
    aw_iincV (pc := 208) C (i := 8) (cst := 1) (fun x20 => [(0, .ref 0), (1, .int v1), (2, .int v2), (4, .int v4), (5, .int v5), (6, .long x19), (8, .int x20)]) dK_d_118.1 rfl rfl (by decide) (fun _ => rfl) fun x20 =>
    aw_goto (pc := 211) C (tgt := 114) dK_d_118.2.1 rfl <|
    (hK114 x19 x20 h)
def X11_on_j173  (v1 : Int32) (v2 : Int32) (v4 : Int32) (v5 : Int32) (v6 : Int64) (v8 : Int32) (v9 : Int32) (K114 : Int64 → Int32 → AH → Option (Int64 × AH)) (K135 : Int32 → AH → Option (Int64 × AH)) (s0 : Int32) (s1 : Int32) (h : AH) : Option (Int64 × AH) :=
    bd (X11_comesLength s1 s0 h) fun _ h22 =>
    vl (v9 + 1) fun x23 =>
    K135 x23 h22
set_option maxRecDepth 100000 in
theorem aX11_on_j173 {X : MCx} {yd : Dyn} {A : Nat → Prop} (C : OK X cX11_on RX11 10 (some .long) rmX11_on A)  (v1 : Int32) (v2 : Int32) (v4 : Int32) (v5 : Int32) (v6 : Int64) (v8 : Int32) (v9 : Int32) (K114 : Int64 → Int32 → AH → Option (Int64 × AH)) (hK114 : ∀ (w6 : Int64) (w8 : Int32) (h : AH), AW X 10 ZR yd A 0 0 (QF X rmX11_on ZR yd rvL A) 114 [(0, .ref 0), (1, .int v1), (2, .int v2), (4, .int v4), (5, .int v5), (6, .long w6), (8, .int w8)] [] h (K114 w6 w8 h)) (K135 : Int32 → AH → Option (Int64 × AH)) (hK135 : ∀ (w9 : Int32) (h : AH), AW X 10 ZR yd A 0 0 (QF X rmX11_on ZR yd rvL A) 135 [(0, .ref 0), (1, .int v1), (2, .int v2), (4, .int v4), (5, .int v5), (6, .long v6), (8, .int v8), (9, .int w9)] [] h (K135 w9 h)) (s0 : Int32) (s1 : Int32) (h : AH) : AW X 10 ZR yd A 0 0 (QF X rmX11_on ZR yd rvL A) 173 [(0, .ref 0), (1, .int v1), (2, .int v2), (4, .int v4), (5, .int v5), (6, .long v6), (8, .int v8), (9, .int v9)] [.int s0, .int s1, .ref 0] h (X11_on_j173 v1 v2 v4 v5 v6 v8 v9 K114 K135 s0 s1 h) := by
    exact aw_callF (pc := 173) C (cr_V (rest := []) (F := (X11_comesLength s1 s0)) C (c_X11_comesLength X.2.1 s1 s0) dK_d_115.2.2.2.2.2.2.2.1 mf_X11_comesLength ml_X11_262 im_X11_comesLength se_X11_comesLength sR_0 rfl ⟨(Nat.le_of_ble_eq_true rfl), (Nat.le_of_ble_eq_true rfl)⟩ rfl rfl (Nat.le_of_ble_eq_true rfl)) rfl rfl rfl (Nat.zero_le _) (Nat.zero_le _) fun _ h22 =>
    aw_iincV (pc := 176) C (i := 9) (cst := 1) (fun x23 => [(0, .ref 0), (1, .int v1), (2, .int v2), (4, .int v4), (5, .int v5), (6, .long v6), (8, .int v8), (9, .int x23)]) dK_d_116.1 rfl rfl (by decide) (fun _ => rfl) fun x23 =>
    aw_goto (pc := 179) C (tgt := 135) dK_d_116.2.1 rfl <|
    (hK135 x23 h22)
def X11_on_l135  (v1 : Int32) (v2 : Int32) (v4 : Int32) (v5 : Int32) (v6 : Int64) (v8 : Int32) (K114 : Int64 → Int32 → AH → Option (Int64 × AH)) : Nat → Int32 → AH → Option (Int64 × AH)
  | 0, _, _ => none
  | n + 1, v9, h =>
    if v5 ≤ v9 then (bd (X11_sorts h) fun _ h14 =>
    bd (X11_rankOf v1 h14) fun r15 h16 =>
    bd (X11_finalists h16) fun r17 h18 =>
    if r17 ≤ r15 then (X11_on_j205 v1 v2 v4 v5 v8 K114 0 v6 h18)
    else (X11_on_j205 v1 v2 v4 v5 v8 K114 1 v6 h18))
    else (if ((sar32 v8 v9) &&& 1) = 1 then (ck (v4 + v9) 4 (X11_on_j173 v1 v2 v4 v5 v6 v8 v9 K114 (X11_on_l135 v1 v2 v4 v5 v6 v8 K114 n) (h.1 24 (v4 + v9).toNatClampNeg) (v4 + v9) h))
    else (X11_on_j173 v1 v2 v4 v5 v6 v8 v9 K114 (X11_on_l135 v1 v2 v4 v5 v6 v8 K114 n) 0 (v4 + v9) h))
set_option maxRecDepth 100000 in
theorem aX11_on_l135 {X : MCx} {yd : Dyn} {A : Nat → Prop} (C : OK X cX11_on RX11 10 (some .long) rmX11_on A)  (v1 : Int32) (v2 : Int32) (v4 : Int32) (v5 : Int32) (v6 : Int64) (v8 : Int32) (K114 : Int64 → Int32 → AH → Option (Int64 × AH)) (hK114 : ∀ (w6 : Int64) (w8 : Int32) (h : AH), AW X 10 ZR yd A 0 0 (QF X rmX11_on ZR yd rvL A) 114 [(0, .ref 0), (1, .int v1), (2, .int v2), (4, .int v4), (5, .int v5), (6, .long w6), (8, .int w8)] [] h (K114 w6 w8 h)) : ∀ (n : Nat) (v9 : Int32) (h : AH), AW X 10 ZR yd A 0 0 (QF X rmX11_on ZR yd rvL A) 135 [(0, .ref 0), (1, .int v1), (2, .int v2), (4, .int v4), (5, .int v5), (6, .long v6), (8, .int v8), (9, .int v9)] [] h (X11_on_l135 v1 v2 v4 v5 v6 v8 K114 n v9 h) := by
  intro n
  induction n with
  | zero => intro v9 h; exact aw_none
  | succ n ih =>
    intro v9 h
    exact aw_iload (pc := 135) C (i := 9) dK_d_113.2.1 rfl <|
    aw_iload (pc := 137) C (i := 5) dK_d_113.2.2.1 rfl <|
    aw_icmp_ge (pc := 139) C (tgt := 182) dK_d_113.2.2.2.1 rfl (fun _ =>
    aw_aload_n (pc := 182) C (i := 0) dK_d_116.2.2.1 rfl rfl <|
    aw_callF (pc := 183) C (cr_V (rest := []) (F := X11_sorts) C (c_X11_sorts X.2.1 ) dK_d_116.2.2.2.1 mf_X11_sorts ml_X11_268 im_X11_sorts se_X11_sorts sR_0 rfl ⟨(Nat.le_of_ble_eq_true rfl), (Nat.le_of_ble_eq_true rfl)⟩ rfl rfl (Nat.le_of_ble_eq_true rfl)) rfl rfl rfl (Nat.zero_le _) (Nat.zero_le _) fun _ h14 =>
    aw_lload (pc := 186) C (i := 6) dK_d_116.2.2.2.2.1 rfl <|
    aw_aload_n (pc := 188) C (i := 0) dK_d_116.2.2.2.2.2.1 rfl rfl <|
    aw_iload_n (pc := 189) C (i := 1) dK_d_116.2.2.2.2.2.2.1 rfl rfl <|
    aw_callF (pc := 190) C (cr_V (rest := [.long v6]) (F := (X11_rankOf v1)) C (c_X11_rankOf X.2.1 v1) dK_d_116.2.2.2.2.2.2.2.1 mf_X11_rankOf ml_X11_274 im_X11_rankOf se_X11_rankOf sR_0 rfl ⟨(Nat.le_of_ble_eq_true rfl), (Nat.le_of_ble_eq_true rfl)⟩ rfl rfl (Nat.le_of_ble_eq_true rfl)) rfl rfl rfl (Nat.zero_le _) (Nat.zero_le _) fun r15 h16 =>
    aw_aload_n (pc := 193) C (i := 0) dK_d_117.1 rfl rfl <|
    aw_callF (pc := 194) C (cr_V (rest := [.int r15, .long v6]) (F := X11_finalists) C (c_X11_finalists X.2.1 ) dK_d_117.2.1 mf_X11_finalists ml_X11_271 im_X11_finalists se_X11_finalists sR_0 rfl ⟨(Nat.le_of_ble_eq_true rfl), (Nat.le_of_ble_eq_true rfl)⟩ rfl rfl (Nat.le_of_ble_eq_true rfl)) rfl rfl rfl (Nat.zero_le _) (Nat.zero_le _) fun r17 h18 =>
    aw_icmp_ge (pc := 197) C (tgt := 204) dK_d_117.2.2.1 rfl (fun _ =>
    aw_lconst (pc := 204) C (v := 0) dK_d_117.2.2.2.2.2.1 rfl <|
    aw_drop [0, 1, 2, 3, 4, 6] (aX11_on_j205 C v1 v2 v4 v5 v8 K114 hK114 0 v6 h18)) (fun _ =>
    aw_lconst (pc := 200) C (v := 1) dK_d_117.2.2.2.1 rfl <|
    aw_goto (pc := 201) C (tgt := 205) dK_d_117.2.2.2.2.1 rfl <|
    aw_drop [0, 1, 2, 3, 4, 6] (aX11_on_j205 C v1 v2 v4 v5 v8 K114 hK114 1 v6 h18))) (fun _ =>
    aw_aload_n (pc := 142) C (i := 0) dK_d_113.2.2.2.2.1 rfl rfl <|
    aw_iload (pc := 143) C (i := 4) dK_d_113.2.2.2.2.2.1 rfl <|
    aw_iload (pc := 145) C (i := 9) dK_d_113.2.2.2.2.2.2.1 rfl <|
    aw_iadd (pc := 147) C dK_d_113.2.2.2.2.2.2.2.1 <|
    aw_iload (pc := 148) C (i := 8) dK_d_114.1 rfl <|
    aw_iload (pc := 150) C (i := 9) dK_d_114.2.1 rfl <|
    aw_ishr (pc := 152) C dK_d_114.2.2.1 <|
    aw_iconst (pc := 153) C (v := 1) dK_d_114.2.2.2.1 rfl <|
    aw_iand (pc := 154) C dK_d_114.2.2.2.2.1 <|
    aw_iconst (pc := 155) C (v := 1) dK_d_114.2.2.2.2.2.1 rfl <|
    aw_icmp_ne (pc := 156) C (tgt := 172) dK_d_114.2.2.2.2.2.2.1 rfl (fun _ =>
    aw_aload_n (pc := 159) C (i := 0) dK_d_114.2.2.2.2.2.2.2.1 rfl rfl <|
    aw_getR (pc := 160) C (b := 24) dK_d_115.1 fl_X11_80 sR_0 rfl rR_0_35 <|
    aw_iload (pc := 163) C (i := 4) dK_d_115.2.1 rfl <|
    aw_iload (pc := 165) C (i := 9) dK_d_115.2.2.1 rfl <|
    aw_iadd (pc := 167) C dK_d_115.2.2.2.1 <|
    aw_iald (pc := 168) C dK_d_115.2.2.2.2.1 sR_24 rfl <|
    aw_goto (pc := 169) C (tgt := 173) dK_d_115.2.2.2.2.2.1 rfl <|
    (aX11_on_j173 C v1 v2 v4 v5 v6 v8 v9 K114 hK114 (X11_on_l135 v1 v2 v4 v5 v6 v8 K114 n) ih (h.1 24 (v4 + v9).toNatClampNeg) (v4 + v9) h)) (fun _ =>
    aw_iconst (pc := 172) C (v := 0) dK_d_115.2.2.2.2.2.2.1 rfl <|
    (aX11_on_j173 C v1 v2 v4 v5 v6 v8 v9 K114 hK114 (X11_on_l135 v1 v2 v4 v5 v6 v8 K114 n) ih 0 (v4 + v9) h)))
def X11_on_l114  (v1 : Int32) (v2 : Int32) (v4 : Int32) (v5 : Int32) : Nat → Int64 → Int32 → AH → Option (Int64 × AH)
  | 0, _, _, _ => none
  | n + 1, v6, v8, h =>
    if (shl32 1 v5) ≤ v8 then (bd (X11_partOf v6 (shl64 1 v5) v2 h) fun r9 h10 =>
    some (r9, h10))
    else (bd (X11_findBest 0 (h.1 0 16) h) fun _ h12 =>
    X11_on_l135 v1 v2 v4 v5 v6 v8 (X11_on_l114 v1 v2 v4 v5 n) FU 0 h12)
set_option maxRecDepth 100000 in
theorem aX11_on_l114 {X : MCx} {yd : Dyn} {A : Nat → Prop} (C : OK X cX11_on RX11 10 (some .long) rmX11_on A)  (v1 : Int32) (v2 : Int32) (v4 : Int32) (v5 : Int32) : ∀ (n : Nat) (v6 : Int64) (v8 : Int32) (h : AH), AW X 10 ZR yd A 0 0 (QF X rmX11_on ZR yd rvL A) 114 [(0, .ref 0), (1, .int v1), (2, .int v2), (4, .int v4), (5, .int v5), (6, .long v6), (8, .int v8)] [] h (X11_on_l114 v1 v2 v4 v5 n v6 v8 h) := by
  intro n
  induction n with
  | zero => intro v6 v8 h; exact aw_none
  | succ n ih =>
    intro v6 v8 h
    exact aw_iload (pc := 114) C (i := 8) dK_d_111.2.2.2.2.2.1 rfl <|
    aw_iconst (pc := 116) C (v := 1) dK_d_111.2.2.2.2.2.2.1 rfl <|
    aw_iload (pc := 117) C (i := 5) dK_d_111.2.2.2.2.2.2.2.1 rfl <|
    aw_ishl (pc := 119) C dK_d_112.1 <|
    aw_icmp_ge (pc := 120) C (tgt := 214) dK_d_112.2.1 rfl (fun _ =>
    aw_lload (pc := 214) C (i := 6) dK_d_118.2.2.1 rfl <|
    aw_lconst (pc := 216) C (v := 1) dK_d_118.2.2.2.1 rfl <|
    aw_iload (pc := 217) C (i := 5) dK_d_118.2.2.2.2.1 rfl <|
    aw_lshl (pc := 219) C dK_d_118.2.2.2.2.2.1 <|
    aw_iload_n (pc := 220) C (i := 2) dK_d_118.2.2.2.2.2.2.1 rfl rfl <|
    aw_callF (pc := 221) C (cr_S (rest := []) (F := (X11_partOf v6 (shl64 1 v5) v2)) C (c_X11_partOf X.2.1 v6 (shl64 1 v5) v2) dK_d_118.2.2.2.2.2.2.2.1 mf_X11_partOf ml_X11_250 st_X11_partOf ⟨(Nat.le_of_ble_eq_true rfl), (Nat.le_of_ble_eq_true rfl)⟩ rfl rfl (Nat.le_of_ble_eq_true rfl)) rfl rfl rfl (Nat.zero_le _) (Nat.zero_le _) fun r9 h10 =>
    aw_lret (pc := 224) C dK_d_119.1 rfl rfl) (fun _ =>
    aw_aload_n (pc := 123) C (i := 0) dK_d_112.2.2.1 rfl rfl <|
    aw_iconst (pc := 124) C (v := 0) dK_d_112.2.2.2.1 rfl <|
    aw_aload_n (pc := 125) C (i := 0) dK_d_112.2.2.2.2.1 rfl rfl <|
    aw_getI (pc := 126) C dK_d_112.2.2.2.2.2.1 fl_X11_147 sR_0 rfl <|
    aw_callF (pc := 129) C (cr_V (rest := []) (F := (X11_findBest 0 (h.1 0 16))) C (c_X11_findBest X.2.1 0 (h.1 0 16)) dK_d_112.2.2.2.2.2.2.1 mf_X11_findBest ml_X11_213 im_X11_findBest se_X11_findBest sR_0 rfl ⟨(Nat.le_of_ble_eq_true rfl), (Nat.le_of_ble_eq_true rfl)⟩ rfl rfl (Nat.le_of_ble_eq_true rfl)) rfl rfl rfl (Nat.zero_le _) (Nat.zero_le _) fun _ h12 =>
    aw_iconst (pc := 132) C (v := 0) dK_d_112.2.2.2.2.2.2.2.1 rfl <|
    aw_istore (pc := 133) C (i := 9) (lv' := [(0, .ref 0), (1, .int v1), (2, .int v2), (4, .int v4), (5, .int v5), (6, .long v6), (8, .int v8), (9, .int 0)]) dK_d_113.1 (by decide) rfl <|
    (aX11_on_l135 C v1 v2 v4 v5 v6 v8 (X11_on_l114 v1 v2 v4 v5 n) ih FU 0 h12))
def X11_on_l74  (v1 : Int32) (v2 : Int32) (v4 : Int32) (v5 : Int32) : Nat → Int32 → AH → Option (Int64 × AH)
  | 0, _, _ => none
  | n + 1, v6, h =>
    if (h.1 0 15) ≤ v6 then (X11_on_l114 v1 v2 v4 v5 FU 0 0 h)
    else (bd (X11_meanParts v6 h) fun r24 h25 =>
    bd (X11_allWays h25) fun r26 h27 =>
    if r26 = 0 then none else (ck v6 4 (vl (sI h27 24 v6.toNatClampNeg ((r24 / r26).toInt32)) fun h28 =>
    vl (v6 + 1) fun x29 =>
    (X11_on_l74 v1 v2 v4 v5 n) x29 h28)))
set_option maxRecDepth 100000 in
theorem aX11_on_l74 {X : MCx} {yd : Dyn} {A : Nat → Prop} (C : OK X cX11_on RX11 10 (some .long) rmX11_on A)  (v1 : Int32) (v2 : Int32) (v4 : Int32) (v5 : Int32) : ∀ (n : Nat) (v6 : Int32) (h : AH), AW X 10 ZR yd A 0 0 (QF X rmX11_on ZR yd rvL A) 74 [(0, .ref 0), (1, .int v1), (2, .int v2), (4, .int v4), (5, .int v5), (6, .int v6)] [] h (X11_on_l74 v1 v2 v4 v5 n v6 h) := by
  intro n
  induction n with
  | zero => intro v6 h; exact aw_none
  | succ n ih =>
    intro v6 h
    exact aw_iload (pc := 74) C (i := 6) dK_d_109.1 rfl <|
    aw_aload_n (pc := 76) C (i := 0) dK_d_109.2.1 rfl rfl <|
    aw_getI (pc := 77) C dK_d_109.2.2.1 fl_X11_105 sR_0 rfl <|
    aw_icmp_ge (pc := 80) C (tgt := 108) dK_d_109.2.2.2.1 rfl (fun _ =>
    aw_lconst (pc := 108) C (v := 0) dK_d_111.2.1 rfl <|
    aw_lstore (pc := 109) C (i := 6) (lv' := [(0, .ref 0), (1, .int v1), (2, .int v2), (4, .int v4), (5, .int v5), (6, .long 0)]) dK_d_111.2.2.1 (by decide) rfl <|
    aw_iconst (pc := 111) C (v := 0) dK_d_111.2.2.2.1 rfl <|
    aw_istore (pc := 112) C (i := 8) (lv' := [(0, .ref 0), (1, .int v1), (2, .int v2), (4, .int v4), (5, .int v5), (6, .long 0), (8, .int 0)]) dK_d_111.2.2.2.2.1 (by decide) rfl <|
    (aX11_on_l114 C v1 v2 v4 v5 FU 0 0 h)) (fun _ =>
    aw_aload_n (pc := 83) C (i := 0) dK_d_109.2.2.2.2.1 rfl rfl <|
    aw_getR (pc := 84) C (b := 24) dK_d_109.2.2.2.2.2.1 fl_X11_80 sR_0 rfl rR_0_35 <|
    aw_iload (pc := 87) C (i := 6) dK_d_109.2.2.2.2.2.2.1 rfl <|
    aw_aload_n (pc := 89) C (i := 0) dK_d_109.2.2.2.2.2.2.2.1 rfl rfl <|
    aw_iload (pc := 90) C (i := 6) dK_d_110.1 rfl <|
    aw_callF (pc := 92) C (cr_V (rest := [.int v6, .ref 24]) (F := (X11_meanParts v6)) C (c_X11_meanParts X.2.1 v6) dK_d_110.2.1 mf_X11_meanParts ml_X11_254 im_X11_meanParts se_X11_meanParts sR_0 rfl ⟨(Nat.le_of_ble_eq_true rfl), (Nat.le_of_ble_eq_true rfl)⟩ rfl rfl (Nat.le_of_ble_eq_true rfl)) rfl rfl rfl (Nat.zero_le _) (Nat.zero_le _) fun r24 h25 =>
    aw_aload_n (pc := 95) C (i := 0) dK_d_110.2.2.1 rfl rfl <|
    aw_callF (pc := 96) C (cr_V (rest := [.long r24, .int v6, .ref 24]) (F := X11_allWays) C (c_X11_allWays X.2.1 ) dK_d_110.2.2.2.1 mf_X11_allWays ml_X11_246 im_X11_allWays se_X11_allWays sR_0 rfl ⟨(Nat.le_of_ble_eq_true rfl), (Nat.le_of_ble_eq_true rfl)⟩ rfl rfl (Nat.le_of_ble_eq_true rfl)) rfl rfl rfl (Nat.zero_le _) (Nat.zero_le _) fun r26 h27 =>
    aw_ldiv (pc := 99) C dK_d_110.2.2.2.2.1 <|
    aw_l2i (pc := 100) C dK_d_110.2.2.2.2.2.1 <|
    aw_iast (pc := 101) C dK_d_110.2.2.2.2.2.2.1 sR_24 rfl fun h28 =>
    aw_iincV (pc := 102) C (i := 6) (cst := 1) (fun x29 => [(0, .ref 0), (1, .int v1), (2, .int v2), (4, .int v4), (5, .int v5), (6, .int x29)]) dK_d_110.2.2.2.2.2.2.2.1 rfl rfl (by decide) (fun _ => rfl) fun x29 =>
    aw_goto (pc := 105) C (tgt := 74) dK_d_111.1 rfl <|
    (ih x29 h28))
def X11_on_j40  (v1 : Int32) (v2 : Int32) (s0 : Int32) (h : AH) : Option (Int64 × AH) :=
    if s0 = 0 then (if (h.1 0 15) = 0 then none else (vl (rm32 (h.1 0 16) (h.1 0 15)) fun x7 =>
    vl ((h.1 0 15) - x7) fun x8 =>
    X11_on_l74 v1 v2 x7 x8 FU 0 h))
    else (bd (X11_lowest s0 h) fun r30 h31 =>
    some (r30, h31))
set_option maxRecDepth 100000 in
theorem aX11_on_j40 {X : MCx} {yd : Dyn} {A : Nat → Prop} (C : OK X cX11_on RX11 10 (some .long) rmX11_on A)  (v1 : Int32) (v2 : Int32) (s0 : Int32) (h : AH) : AW X 10 ZR yd A 0 0 (QF X rmX11_on ZR yd rvL A) 40 [(0, .ref 0), (1, .int v1), (2, .int v2)] [.int s0] h (X11_on_j40 v1 v2 s0 h) := by
    exact aw_istore_n (pc := 40) C (i := 3) (lv' := [(0, .ref 0), (1, .int v1), (2, .int v2), (3, .int s0)]) dK_d_106.2.2.2.2.1 rfl (by decide) rfl <|
    aw_iload_n (pc := 41) C (i := 3) dK_d_106.2.2.2.2.2.1 rfl rfl <|
    aw_if_eq (pc := 42) C (tgt := 51) dK_d_106.2.2.2.2.2.2.1 rfl (fun _ =>
    aw_aload_n (pc := 51) C (i := 0) dK_d_107.2.2.2.1 rfl rfl <|
    aw_getI (pc := 52) C dK_d_107.2.2.2.2.1 fl_X11_147 sR_0 rfl <|
    aw_aload_n (pc := 55) C (i := 0) dK_d_107.2.2.2.2.2.1 rfl rfl <|
    aw_getI (pc := 56) C dK_d_107.2.2.2.2.2.2.1 fl_X11_105 sR_0 rfl <|
    aw_irem (pc := 59) C dK_d_107.2.2.2.2.2.2.2.1 <|
    aw_istoreV (pc := 60) C (i := 4) (fun x7 => [(0, .ref 0), (1, .int v1), (2, .int v2), (3, .int s0), (4, .int x7)]) dK_d_108.1 (by decide) (fun _ => rfl) fun x7 =>
    aw_aload_n (pc := 62) C (i := 0) dK_d_108.2.1 rfl rfl <|
    aw_getI (pc := 63) C dK_d_108.2.2.1 fl_X11_105 sR_0 rfl <|
    aw_iload (pc := 66) C (i := 4) dK_d_108.2.2.2.1 rfl <|
    aw_isub (pc := 68) C dK_d_108.2.2.2.2.1 <|
    aw_istoreV (pc := 69) C (i := 5) (fun x8 => [(0, .ref 0), (1, .int v1), (2, .int v2), (3, .int s0), (4, .int x7), (5, .int x8)]) dK_d_108.2.2.2.2.2.1 (by decide) (fun _ => rfl) fun x8 =>
    aw_iconst (pc := 71) C (v := 0) dK_d_108.2.2.2.2.2.2.1 rfl <|
    aw_istore (pc := 72) C (i := 6) (lv' := [(0, .ref 0), (1, .int v1), (2, .int v2), (3, .int s0), (4, .int x7), (5, .int x8), (6, .int 0)]) dK_d_108.2.2.2.2.2.2.2.1 (by decide) rfl <|
    aw_drop [0, 1, 2, 4, 5, 6] (aX11_on_l74 C v1 v2 x7 x8 FU 0 h)) (fun _ =>
    aw_aload_n (pc := 45) C (i := 0) dK_d_106.2.2.2.2.2.2.2.1 rfl rfl <|
    aw_iload_n (pc := 46) C (i := 3) dK_d_107.1 rfl rfl <|
    aw_callF (pc := 47) C (cr_V (rest := []) (F := (X11_lowest s0)) C (c_X11_lowest X.2.1 s0) dK_d_107.2.1 mf_X11_lowest ml_X11_238 im_X11_lowest se_X11_lowest sR_0 rfl ⟨(Nat.le_of_ble_eq_true rfl), (Nat.le_of_ble_eq_true rfl)⟩ rfl rfl (Nat.le_of_ble_eq_true rfl)) rfl rfl rfl (Nat.zero_le _) (Nat.zero_le _) fun r30 h31 =>
    aw_lret (pc := 50) C dK_d_107.2.2.1 rfl rfl)
def X11_on (v1 : Int32) (v2 : Int32) (h : AH) : Option (Int64 × AH) :=
    bd (X11_isJumper v1 h) fun r1 h2 =>
    if r1 = 0 then (X11_on_j40 v1 v2 (-1) h2)
    else (bd (X11_isIn v2 0 1 h2) fun r3 h4 =>
    if r3 = 0 then (X11_on_j40 v1 v2 (-2) h4)
    else (bd (X11_roundNow h4) fun r5 h6 =>
    if r5 ≤ 2 then (X11_on_j40 v1 v2 0 h6)
    else (X11_on_j40 v1 v2 (-3) h6)))
set_option maxRecDepth 100000 in
theorem c_X11_on (l : Launch) (v1 : Int32) (v2 : Int32) : MC l yX11_on cX11_on 10 (some .long) rmX11_on ZR [.ref 0, .int v1, .int v2] rvL (X11_on v1 v2) :=
  MC.of (own := RX11) pn_RX11 rfl (Nat.le_of_ble_eq_true rfl) fun X yd A h _ C =>
    aw_aload_n (pc := 0) C (i := 0) dK_d_104.1 rfl rfl <|
    aw_iload_n (pc := 1) C (i := 1) dK_d_104.2.1 rfl rfl <|
    aw_callF (pc := 2) C (cr_V (rest := []) (F := (X11_isJumper v1)) C (c_X11_isJumper X.2.1 v1) dK_d_104.2.2.1 mf_X11_isJumper ml_X11_207 im_X11_isJumper se_X11_isJumper sR_0 rfl ⟨(Nat.le_of_ble_eq_true rfl), (Nat.le_of_ble_eq_true rfl)⟩ rfl rfl (Nat.le_of_ble_eq_true rfl)) rfl rfl rfl (Nat.zero_le _) (Nat.zero_le _) fun r1 h2 =>
    aw_if_ne (pc := 5) C (tgt := 12) dK_d_104.2.2.2.1 rfl (fun _ =>
    aw_iconst (pc := 8) C (v := (-1)) dK_d_104.2.2.2.2.1 rfl <|
    aw_goto (pc := 9) C (tgt := 40) dK_d_104.2.2.2.2.2.1 rfl <|
    (aX11_on_j40 C v1 v2 (-1) h2)) (fun _ =>
    aw_iload_n (pc := 12) C (i := 2) dK_d_104.2.2.2.2.2.2.1 rfl rfl <|
    aw_iconst (pc := 13) C (v := 0) dK_d_104.2.2.2.2.2.2.2.1 rfl <|
    aw_iconst (pc := 14) C (v := 1) dK_d_105.1 rfl <|
    aw_callF (pc := 15) C (cr_S (rest := []) (F := (X11_isIn v2 0 1)) C (c_X11_isIn X.2.1 v2 0 1) dK_d_105.2.1 mf_X11_isIn ml_X11_126 st_X11_isIn ⟨(Nat.le_of_ble_eq_true rfl), (Nat.le_of_ble_eq_true rfl)⟩ rfl rfl (Nat.le_of_ble_eq_true rfl)) rfl rfl rfl (Nat.zero_le _) (Nat.zero_le _) fun r3 h4 =>
    aw_if_ne (pc := 18) C (tgt := 26) dK_d_105.2.2.1 rfl (fun _ =>
    aw_bipush (pc := 21) C (v := (-2)) dK_d_105.2.2.2.1 rfl <|
    aw_goto (pc := 23) C (tgt := 40) dK_d_105.2.2.2.2.1 rfl <|
    (aX11_on_j40 C v1 v2 (-2) h4)) (fun _ =>
    aw_aload_n (pc := 26) C (i := 0) dK_d_105.2.2.2.2.2.1 rfl rfl <|
    aw_callF (pc := 27) C (cr_V (rest := []) (F := X11_roundNow) C (c_X11_roundNow X.2.1 ) dK_d_105.2.2.2.2.2.2.1 mf_X11_roundNow ml_X11_301 im_X11_roundNow se_X11_roundNow sR_0 rfl ⟨(Nat.le_of_ble_eq_true rfl), (Nat.le_of_ble_eq_true rfl)⟩ rfl rfl (Nat.le_of_ble_eq_true rfl)) rfl rfl rfl (Nat.zero_le _) (Nat.zero_le _) fun r5 h6 =>
    aw_iconst (pc := 30) C (v := 2) dK_d_105.2.2.2.2.2.2.2.1 rfl <|
    aw_icmp_le (pc := 31) C (tgt := 39) dK_d_106.1 rfl (fun _ =>
    aw_iconst (pc := 39) C (v := 0) dK_d_106.2.2.2.1 rfl <|
    (aX11_on_j40 C v1 v2 0 h6)) (fun _ =>
    aw_bipush (pc := 34) C (v := (-3)) dK_d_106.2.1 rfl <|
    aw_goto (pc := 36) C (tgt := 40) dK_d_106.2.2.1 rfl <|
    (aX11_on_j40 C v1 v2 (-3) h6))))

abbrev rmX11_row : Room := { frames := 1, cells := 0, slots := 0, locals := 22 }
def X11_row_j24  (v1 : Int32) (v2 : Int32) (h : AH) : Option (Int32 × AH) :=
    if v2 = 0 then (ck (h.1 0 34) 12 (vl (sI h 23 (h.1 0 34).toNatClampNeg v1) fun h3 =>
    vl (sI h3 0 34 ((h3.1 0 34) + 1)) fun h4 =>
    some ((h4.1 0 34), h4)))
    else (bd (X11_no v2 h) fun r5 h6 =>
    some (r5, h6))
set_option maxRecDepth 100000 in
theorem aX11_row_j24 {X : MCx} {yd : Dyn} {A : Nat → Prop} (C : OK X cX11_row RX11 3 (some .int) rmX11_row A)  (v1 : Int32) (v2 : Int32) (h : AH) : AW X 3 ZR yd A 0 0 (QF X rmX11_row ZR yd rvI A) 24 [(0, .ref 0), (1, .int v1), (2, .int v2)] [] h (X11_row_j24 v1 v2 h) := by
    exact aw_iload_n (pc := 24) C (i := 2) dK_d_121.2.2.2.2.2.1 rfl rfl <|
    aw_if_eq (pc := 25) C (tgt := 34) dK_d_121.2.2.2.2.2.2.1 rfl (fun _ =>
    aw_aload_n (pc := 34) C (i := 0) dK_d_122.2.2.2.1 rfl rfl <|
    aw_getR (pc := 35) C (b := 23) dK_d_122.2.2.2.2.1 fl_X11_77 sR_0 rfl rR_0_33 <|
    aw_aload_n (pc := 38) C (i := 0) dK_d_122.2.2.2.2.2.1 rfl rfl <|
    aw_getI (pc := 39) C dK_d_122.2.2.2.2.2.2.1 fl_X11_295 sR_0 rfl <|
    aw_iload_n (pc := 42) C (i := 1) dK_d_122.2.2.2.2.2.2.2.1 rfl rfl <|
    aw_iast (pc := 43) C dK_d_123.1 sR_23 rfl fun h3 =>
    aw_aload_n (pc := 44) C (i := 0) dK_d_123.2.1 rfl rfl <|
    aw_dup (pc := 45) C dK_d_123.2.2.1 rfl <|
    aw_getI (pc := 46) C dK_d_123.2.2.2.1 fl_X11_295 sR_0 rfl <|
    aw_iconst (pc := 49) C (v := 1) dK_d_123.2.2.2.2.1 rfl <|
    aw_iadd (pc := 50) C dK_d_123.2.2.2.2.2.1 <|
    aw_putI (pc := 51) C dK_d_123.2.2.2.2.2.2.1 fp_X11_295 sR_0 rfl fun h4 =>
    aw_aload_n (pc := 54) C (i := 0) dK_d_123.2.2.2.2.2.2.2.1 rfl rfl <|
    aw_getI (pc := 55) C dK_d_124.1 fl_X11_295 sR_0 rfl <|
    aw_iret (pc := 58) C dK_d_124.2.1 rfl rfl) (fun _ =>
    aw_aload_n (pc := 28) C (i := 0) dK_d_121.2.2.2.2.2.2.2.1 rfl rfl <|
    aw_iload_n (pc := 29) C (i := 2) dK_d_122.1 rfl rfl <|
    aw_callF (pc := 30) C (cr_V (rest := []) (F := (X11_no v2)) C (c_X11_no X.2.1 v2) dK_d_122.2.1 mf_X11_no ml_X11_115 im_X11_no se_X11_no sR_0 rfl ⟨(Nat.le_of_ble_eq_true rfl), (Nat.le_of_ble_eq_true rfl)⟩ rfl rfl (Nat.le_of_ble_eq_true rfl)) rfl rfl rfl (Nat.zero_le _) (Nat.zero_le _) fun r5 h6 =>
    aw_iret (pc := 33) C dK_d_122.2.2.1 rfl rfl)
def X11_row (v1 : Int32) (h : AH) : Option (Int32 × AH) :=
    bd (X11_bound v1 0 99 h) fun r1 h2 =>
    if r1 = 0 then (if (h2.1 0 34) = 12 then (vl (-6) fun x7 =>
    X11_row_j24 v1 x7 h2)
    else (X11_row_j24 v1 r1 h2))
    else (X11_row_j24 v1 r1 h2)
set_option maxRecDepth 100000 in
theorem c_X11_row (l : Launch) (v1 : Int32) : MC l yX11_row cX11_row 3 (some .int) rmX11_row ZR [.ref 0, .int v1] rvI (X11_row v1) :=
  MC.of (own := RX11) pn_RX11 rfl (Nat.le_of_ble_eq_true rfl) fun X yd A h _ C =>
    aw_iload_n (pc := 0) C (i := 1) dK_d_120.1 rfl rfl <|
    aw_iconst (pc := 1) C (v := 0) dK_d_120.2.1 rfl <|
    aw_bipush (pc := 2) C (v := 99) dK_d_120.2.2.1 rfl <|
    aw_callF (pc := 4) C (cr_S (rest := []) (F := (X11_bound v1 0 99)) C (c_X11_bound X.2.1 v1 0 99) dK_d_120.2.2.2.1 mf_X11_bound ml_X11_108 st_X11_bound ⟨(Nat.le_of_ble_eq_true rfl), (Nat.le_of_ble_eq_true rfl)⟩ rfl rfl (Nat.le_of_ble_eq_true rfl)) rfl rfl rfl (Nat.zero_le _) (Nat.zero_le _) fun r1 h2 =>
    aw_istore_n (pc := 7) C (i := 2) (lv' := [(0, .ref 0), (1, .int v1), (2, .int r1)]) dK_d_120.2.2.2.2.1 rfl (by decide) rfl <|
    aw_iload_n (pc := 8) C (i := 2) dK_d_120.2.2.2.2.2.1 rfl rfl <|
    aw_if_ne (pc := 9) C (tgt := 24) dK_d_120.2.2.2.2.2.2.1 rfl (fun _ =>
    aw_aload_n (pc := 12) C (i := 0) dK_d_120.2.2.2.2.2.2.2.1 rfl rfl <|
    aw_getI (pc := 13) C dK_d_121.1 fl_X11_295 sR_0 rfl <|
    aw_bipush (pc := 16) C (v := 12) dK_d_121.2.1 rfl <|
    aw_icmp_ne (pc := 18) C (tgt := 24) dK_d_121.2.2.1 rfl (fun _ =>
    aw_bipush (pc := 21) C (v := (-6)) dK_d_121.2.2.2.1 rfl <|
    aw_istoreV_n (pc := 23) C (i := 2) (fun x7 => [(0, .ref 0), (1, .int v1), (2, .int x7)]) dK_d_121.2.2.2.2.1 rfl (by decide) (fun _ => rfl) fun x7 =>
    (aX11_row_j24 C v1 x7 h2)) (fun _ =>
    (aX11_row_j24 C v1 r1 h2))) (fun _ =>
    (aX11_row_j24 C v1 r1 h2))

abbrev rmX11_isOther : Room := { frames := 6, cells := 0, slots := 0, locals := 130 }
def X11_isOther_j34  (v1 : Int32) (v3 : Int32) (s0 : Int32) (s1 : Int32) (h : AH) : Option (Int32 × AH) :=
    bd (X11_putsTry s1 s0 v1 h) fun _ h8 =>
    bd (X11_leader h8) fun r9 h10 =>
    if r9 = v3 then (cz 0 (some (0, h10)))
    else (cz 1 (some (1, h10)))
set_option maxRecDepth 100000 in
theorem aX11_isOther_j34 {X : MCx} {yd : Dyn} {A : Nat → Prop} (C : OK X cX11_isOther RX11 4 (some .boolean) rmX11_isOther A)  (v1 : Int32) (v3 : Int32) (s0 : Int32) (s1 : Int32) (h : AH) : AW X 4 ZR yd A 0 0 (QF X rmX11_isOther ZR yd rvI A) 34 [(0, .ref 0), (1, .int v1), (3, .int v3)] [.int s0, .int s1, .ref 0] h (X11_isOther_j34 v1 v3 s0 s1 h) := by
    exact aw_iload_n (pc := 34) C (i := 1) dK_d_127.2.2.2.2.2.1 rfl rfl <|
    aw_callF (pc := 35) C (cr_V (rest := []) (F := (X11_putsTry s1 s0 v1)) C (c_X11_putsTry X.2.1 s1 s0 v1) dK_d_127.2.2.2.2.2.2.1 mf_X11_putsTry ml_X11_153 im_X11_putsTry se_X11_putsTry sR_0 rfl ⟨(Nat.le_of_ble_eq_true rfl), (Nat.le_of_ble_eq_true rfl)⟩ rfl rfl (Nat.le_of_ble_eq_true rfl)) rfl rfl rfl (Nat.zero_le _) (Nat.zero_le _) fun _ h8 =>
    aw_aload_n (pc := 38) C (i := 0) dK_d_127.2.2.2.2.2.2.2.1 rfl rfl <|
    aw_callF (pc := 39) C (cr_V (rest := []) (F := X11_leader) C (c_X11_leader X.2.1 ) dK_d_128.1 mf_X11_leader ml_X11_283 im_X11_leader se_X11_leader sR_0 rfl ⟨(Nat.le_of_ble_eq_true rfl), (Nat.le_of_ble_eq_true rfl)⟩ rfl rfl (Nat.le_of_ble_eq_true rfl)) rfl rfl rfl (Nat.zero_le _) (Nat.zero_le _) fun r9 h10 =>
    aw_iload_n (pc := 42) C (i := 3) dK_d_128.2.1 rfl rfl <|
    aw_icmp_eq (pc := 43) C (tgt := 50) dK_d_128.2.2.1 rfl (fun _ =>
    aw_iconst (pc := 50) C (v := 0) dK_d_128.2.2.2.2.2.1 rfl <|
    aw_zret (pc := 51) C dK_d_128.2.2.2.2.2.2.1 rfl rfl) (fun _ =>
    aw_iconst (pc := 46) C (v := 1) dK_d_128.2.2.2.1 rfl <|
    aw_goto (pc := 47) C (tgt := 51) dK_d_128.2.2.2.2.1 rfl <|
    aw_zret (pc := 51) C dK_d_128.2.2.2.2.2.2.1 rfl rfl)
def X11_isOther (v1 : Int32) (h : AH) : Option (Int32 × AH) :=
    bd (X11_turnNow h) fun r1 h2 =>
    if 0 ≤ r1 then (bd (X11_leader h2) fun r3 h4 =>
    if 0 ≤ v1 then (bd (X11_lengthOf r1 v1 0 h4) fun r5 h6 =>
    X11_isOther_j34 v1 r3 r5 r1 h6)
    else (X11_isOther_j34 v1 r3 (-9) r1 h4))
    else (cz 1 (some (1, h2)))
set_option maxRecDepth 100000 in
theorem c_X11_isOther (l : Launch) (v1 : Int32) : MC l yX11_isOther cX11_isOther 4 (some .boolean) rmX11_isOther ZR [.ref 0, .int v1] rvI (X11_isOther v1) :=
  MC.of (own := RX11) pn_RX11 rfl (Nat.le_of_ble_eq_true rfl) fun X yd A h _ C =>
    aw_aload_n (pc := 0) C (i := 0) dK_d_125.1 rfl rfl <|
    aw_callF (pc := 1) C (cr_V (rest := []) (F := X11_turnNow) C (c_X11_turnNow X.2.1 ) dK_d_125.2.1 mf_X11_turnNow ml_X11_150 im_X11_turnNow se_X11_turnNow sR_0 rfl ⟨(Nat.le_of_ble_eq_true rfl), (Nat.le_of_ble_eq_true rfl)⟩ rfl rfl (Nat.le_of_ble_eq_true rfl)) rfl rfl rfl (Nat.zero_le _) (Nat.zero_le _) fun r1 h2 =>
    aw_istore_n (pc := 4) C (i := 2) (lv' := [(0, .ref 0), (1, .int v1), (2, .int r1)]) dK_d_125.2.2.1 rfl (by decide) rfl <|
    aw_iload_n (pc := 5) C (i := 2) dK_d_125.2.2.2.1 rfl rfl <|
    aw_if_ge (pc := 6) C (tgt := 11) dK_d_125.2.2.2.2.1 rfl (fun _ =>
    aw_aload_n (pc := 11) C (i := 0) dK_d_125.2.2.2.2.2.2.2.1 rfl rfl <|
    aw_callF (pc := 12) C (cr_V (rest := []) (F := X11_leader) C (c_X11_leader X.2.1 ) dK_d_126.1 mf_X11_leader ml_X11_283 im_X11_leader se_X11_leader sR_0 rfl ⟨(Nat.le_of_ble_eq_true rfl), (Nat.le_of_ble_eq_true rfl)⟩ rfl rfl (Nat.le_of_ble_eq_true rfl)) rfl rfl rfl (Nat.zero_le _) (Nat.zero_le _) fun r3 h4 =>
    aw_istore_n (pc := 15) C (i := 3) (lv' := [(0, .ref 0), (1, .int v1), (2, .int r1), (3, .int r3)]) dK_d_126.2.1 rfl (by decide) rfl <|
    aw_aload_n (pc := 16) C (i := 0) dK_d_126.2.2.1 rfl rfl <|
    aw_iload_n (pc := 17) C (i := 2) dK_d_126.2.2.2.1 rfl rfl <|
    aw_iload_n (pc := 18) C (i := 1) dK_d_126.2.2.2.2.1 rfl rfl <|
    aw_if_ge (pc := 19) C (tgt := 27) dK_d_126.2.2.2.2.2.1 rfl (fun _ =>
    aw_aload_n (pc := 27) C (i := 0) dK_d_127.1 rfl rfl <|
    aw_iload_n (pc := 28) C (i := 2) dK_d_127.2.1 rfl rfl <|
    aw_iload_n (pc := 29) C (i := 1) dK_d_127.2.2.1 rfl rfl <|
    aw_iconst (pc := 30) C (v := 0) dK_d_127.2.2.2.1 rfl <|
    aw_callF (pc := 31) C (cr_V (rest := [.int r1, .ref 0]) (F := (X11_lengthOf r1 v1 0)) C (c_X11_lengthOf X.2.1 r1 v1 0) dK_d_127.2.2.2.2.1 mf_X11_lengthOf ml_X11_163 im_X11_lengthOf se_X11_lengthOf sR_0 rfl ⟨(Nat.le_of_ble_eq_true rfl), (Nat.le_of_ble_eq_true rfl)⟩ rfl rfl (Nat.le_of_ble_eq_true rfl)) rfl rfl rfl (Nat.zero_le _) (Nat.zero_le _) fun r5 h6 =>
    aw_drop [0, 1, 3] (aX11_isOther_j34 C v1 r3 r5 r1 h6)) (fun _ =>
    aw_bipush (pc := 22) C (v := (-9)) dK_d_126.2.2.2.2.2.2.1 rfl <|
    aw_goto (pc := 24) C (tgt := 34) dK_d_126.2.2.2.2.2.2.2.1 rfl <|
    aw_drop [0, 1, 3] (aX11_isOther_j34 C v1 r3 (-9) r1 h4))) (fun _ =>
    aw_iconst (pc := 9) C (v := 1) dK_d_125.2.2.2.2.2.1 rfl <|
    aw_zret (pc := 10) C dK_d_125.2.2.2.2.2.2.1 rfl rfl)

abbrev rmX11_judge : Room := { frames := 7, cells := 0, slots := 0, locals := 153 }
def X11_judge_j62  (v2 : Int32) (v3 : Int32) (h : AH) : Option (Int32 × AH) :=
    vl (sI h 0 16 v2) fun h5 =>
    some (v3, h5)
set_option maxRecDepth 100000 in
theorem aX11_judge_j62 {X : MCx} {yd : Dyn} {A : Nat → Prop} (C : OK X cX11_judge RX11 5 (some .int) rmX11_judge A)  (v2 : Int32) (v3 : Int32) (h : AH) : AW X 5 ZR yd A 0 0 (QF X rmX11_judge ZR yd rvI A) 62 [(0, .ref 0), (2, .int v2), (3, .int v3)] [] h (X11_judge_j62 v2 v3 h) := by
    exact aw_aload_n (pc := 62) C (i := 0) dK_d_133.2.1 rfl rfl <|
    aw_iload_n (pc := 63) C (i := 2) dK_d_133.2.2.1 rfl rfl <|
    aw_putI (pc := 64) C dK_d_133.2.2.2.1 fp_X11_147 sR_0 rfl fun h5 =>
    aw_iload_n (pc := 67) C (i := 3) dK_d_133.2.2.2.2.1 rfl rfl <|
    aw_iret (pc := 68) C dK_d_133.2.2.2.2.2.1 rfl rfl
def X11_judge_j55  (v1 : Int32) (v2 : Int32) (v4 : Int32) (K21 : Int32 → Int32 → AH → Option (Int32 × AH)) (s0 : Int32) (h : AH) : Option (Int32 × AH) :=
    vl (v4 + 1) fun x8 =>
    K21 s0 x8 h
set_option maxRecDepth 100000 in
theorem aX11_judge_j55 {X : MCx} {yd : Dyn} {A : Nat → Prop} (C : OK X cX11_judge RX11 5 (some .int) rmX11_judge A)  (v1 : Int32) (v2 : Int32) (v4 : Int32) (K21 : Int32 → Int32 → AH → Option (Int32 × AH)) (hK21 : ∀ (w3 : Int32) (w4 : Int32) (h : AH), AW X 5 ZR yd A 0 0 (QF X rmX11_judge ZR yd rvI A) 21 [(0, .ref 0), (1, .int v1), (2, .int v2), (3, .int w3), (4, .int w4)] [] h (K21 w3 w4 h)) (s0 : Int32) (h : AH) : AW X 5 ZR yd A 0 0 (QF X rmX11_judge ZR yd rvI A) 55 [(0, .ref 0), (1, .int v1), (2, .int v2), (4, .int v4)] [.int s0] h (X11_judge_j55 v1 v2 v4 K21 s0 h) := by
    exact aw_istore_n (pc := 55) C (i := 3) (lv' := [(0, .ref 0), (1, .int v1), (2, .int v2), (3, .int s0), (4, .int v4)]) dK_d_132.2.2.2.2.2.2.1 rfl (by decide) rfl <|
    aw_iincV (pc := 56) C (i := 4) (cst := 1) (fun x8 => [(0, .ref 0), (1, .int v1), (2, .int v2), (3, .int s0), (4, .int x8)]) dK_d_132.2.2.2.2.2.2.2.1 rfl rfl (by decide) (fun _ => rfl) fun x8 =>
    aw_goto (pc := 59) C (tgt := 21) dK_d_133.1 rfl <|
    (hK21 s0 x8 h)
def X11_judge_l21  (v1 : Int32) (v2 : Int32) : Nat → Int32 → Int32 → AH → Option (Int32 × AH)
  | 0, _, _, _ => none
  | n + 1, v3, v4, h =>
    if v1 ≤ v4 then (X11_judge_j62 v2 v3 h)
    else (if 0 ≤ v3 then (X11_judge_j62 v2 v3 h)
    else (ck v4 12 (bd (X11_isOther ((h.1 23 v4.toNatClampNeg) - 50) h) fun r6 h7 =>
    if r6 = 0 then (X11_judge_j55 v1 v2 v4 (X11_judge_l21 v1 v2 n) (-9) h7)
    else (X11_judge_j55 v1 v2 v4 (X11_judge_l21 v1 v2 n) v4 h7))))
set_option maxRecDepth 100000 in
theorem aX11_judge_l21 {X : MCx} {yd : Dyn} {A : Nat → Prop} (C : OK X cX11_judge RX11 5 (some .int) rmX11_judge A)  (v1 : Int32) (v2 : Int32) : ∀ (n : Nat) (v3 : Int32) (v4 : Int32) (h : AH), AW X 5 ZR yd A 0 0 (QF X rmX11_judge ZR yd rvI A) 21 [(0, .ref 0), (1, .int v1), (2, .int v2), (3, .int v3), (4, .int v4)] [] h (X11_judge_l21 v1 v2 n v3 v4 h) := by
  intro n
  induction n with
  | zero => intro v3 v4 h; exact aw_none
  | succ n ih =>
    intro v3 v4 h
    exact aw_iload (pc := 21) C (i := 4) dK_d_130.2.2.2.2.2.1 rfl <|
    aw_iload_n (pc := 23) C (i := 1) dK_d_130.2.2.2.2.2.2.1 rfl rfl <|
    aw_icmp_ge (pc := 24) C (tgt := 62) dK_d_130.2.2.2.2.2.2.2.1 rfl (fun _ =>
    aw_drop [0, 2, 3] (aX11_judge_j62 C v2 v3 h)) (fun _ =>
    aw_iload_n (pc := 27) C (i := 3) dK_d_131.1 rfl rfl <|
    aw_if_ge (pc := 28) C (tgt := 62) dK_d_131.2.1 rfl (fun _ =>
    aw_drop [0, 2, 3] (aX11_judge_j62 C v2 v3 h)) (fun _ =>
    aw_aload_n (pc := 31) C (i := 0) dK_d_131.2.2.1 rfl rfl <|
    aw_aload_n (pc := 32) C (i := 0) dK_d_131.2.2.2.1 rfl rfl <|
    aw_getR (pc := 33) C (b := 23) dK_d_131.2.2.2.2.1 fl_X11_77 sR_0 rfl rR_0_33 <|
    aw_iload (pc := 36) C (i := 4) dK_d_131.2.2.2.2.2.1 rfl <|
    aw_iald (pc := 38) C dK_d_131.2.2.2.2.2.2.1 sR_23 rfl <|
    aw_bipush (pc := 39) C (v := 50) dK_d_131.2.2.2.2.2.2.2.1 rfl <|
    aw_isub (pc := 41) C dK_d_132.1 <|
    aw_callF (pc := 42) C (cr_V (rest := []) (F := (X11_isOther ((h.1 23 v4.toNatClampNeg) - 50))) C (c_X11_isOther X.2.1 ((h.1 23 v4.toNatClampNeg) - 50)) dK_d_132.2.1 mf_X11_isOther ml_X11_304 im_X11_isOther se_X11_isOther sR_0 rfl ⟨(Nat.le_of_ble_eq_true rfl), (Nat.le_of_ble_eq_true rfl)⟩ rfl rfl (Nat.le_of_ble_eq_true rfl)) rfl rfl rfl (Nat.zero_le _) (Nat.zero_le _) fun r6 h7 =>
    aw_if_eq (pc := 45) C (tgt := 53) dK_d_132.2.2.1 rfl (fun _ =>
    aw_bipush (pc := 53) C (v := (-9)) dK_d_132.2.2.2.2.2.1 rfl <|
    aw_drop [0, 1, 2, 4] (aX11_judge_j55 C v1 v2 v4 (X11_judge_l21 v1 v2 n) ih (-9) h7)) (fun _ =>
    aw_iload (pc := 48) C (i := 4) dK_d_132.2.2.2.1 rfl <|
    aw_goto (pc := 50) C (tgt := 55) dK_d_132.2.2.2.2.1 rfl <|
    aw_drop [0, 1, 2, 4] (aX11_judge_j55 C v1 v2 v4 (X11_judge_l21 v1 v2 n) ih v4 h7))))
def X11_judge  (h : AH) : Option (Int32 × AH) :=
    vl (h.1 0 34) fun x1 =>
    vl (h.1 0 16) fun x2 =>
    vl (sI h 0 34 0) fun h3 =>
    vl (-9) fun x4 =>
    X11_judge_l21 x1 x2 FU x4 0 h3
set_option maxRecDepth 100000 in
theorem c_X11_judge (l : Launch)  : MC l yX11_judge cX11_judge 5 (some .int) rmX11_judge ZR [.ref 0] rvI (X11_judge) :=
  MC.of (own := RX11) pn_RX11 rfl (Nat.le_of_ble_eq_true rfl) fun X yd A h _ C =>
    aw_aload_n (pc := 0) C (i := 0) dK_d_129.1 rfl rfl <|
    aw_getI (pc := 1) C dK_d_129.2.1 fl_X11_295 sR_0 rfl <|
    aw_istoreV_n (pc := 4) C (i := 1) (fun x1 => [(0, .ref 0), (1, .int x1)]) dK_d_129.2.2.1 rfl (by decide) (fun _ => rfl) fun x1 =>
    aw_aload_n (pc := 5) C (i := 0) dK_d_129.2.2.2.1 rfl rfl <|
    aw_getI (pc := 6) C dK_d_129.2.2.2.2.1 fl_X11_147 sR_0 rfl <|
    aw_istoreV_n (pc := 9) C (i := 2) (fun x2 => [(0, .ref 0), (1, .int x1), (2, .int x2)]) dK_d_129.2.2.2.2.2.1 rfl (by decide) (fun _ => rfl) fun x2 =>
    aw_aload_n (pc := 10) C (i := 0) dK_d_129.2.2.2.2.2.2.1 rfl rfl <|
    aw_iconst (pc := 11) C (v := 0) dK_d_129.2.2.2.2.2.2.2.1 rfl <|
    aw_putI (pc := 12) C dK_d_130.1 fp_X11_295 sR_0 rfl fun h3 =>
    aw_bipush (pc := 15) C (v := (-9)) dK_d_130.2.1 rfl <|
    aw_istoreV_n (pc := 17) C (i := 3) (fun x4 => [(0, .ref 0), (1, .int x1), (2, .int x2), (3, .int x4)]) dK_d_130.2.2.1 rfl (by decide) (fun _ => rfl) fun x4 =>
    aw_iconst (pc := 18) C (v := 0) dK_d_130.2.2.2.1 rfl <|
    aw_istore (pc := 19) C (i := 4) (lv' := [(0, .ref 0), (1, .int x1), (2, .int x2), (3, .int x4), (4, .int 0)]) dK_d_130.2.2.2.2.1 (by decide) rfl <|
    (aX11_judge_l21 C x1 x2 FU x4 0 h3)

abbrev rmX11_clear : Room := { frames := 0, cells := 0, slots := 0, locals := 0 }
def X11_clear  (h : AH) : Option (Int32 × AH) :=
    vl (h.1 0 34) fun x1 =>
    vl (sI h 0 34 0) fun h2 =>
    some (x1, h2)
set_option maxRecDepth 100000 in
theorem c_X11_clear (l : Launch)  : MC l yX11_clear cX11_clear 2 (some .int) rmX11_clear ZR [.ref 0] rvI (X11_clear) :=
  MC.of (own := RX11) pn_RX11 rfl (Nat.le_of_ble_eq_true rfl) fun X yd A h _ C =>
    aw_aload_n (pc := 0) C (i := 0) dK_d_134.1 rfl rfl <|
    aw_getI (pc := 1) C dK_d_134.2.1 fl_X11_295 sR_0 rfl <|
    aw_istoreV_n (pc := 4) C (i := 1) (fun x1 => [(0, .ref 0), (1, .int x1)]) dK_d_134.2.2.1 rfl (by decide) (fun _ => rfl) fun x1 =>
    aw_aload_n (pc := 5) C (i := 0) dK_d_134.2.2.2.1 rfl rfl <|
    aw_iconst (pc := 6) C (v := 0) dK_d_134.2.2.2.2.1 rfl <|
    aw_putI (pc := 7) C dK_d_134.2.2.2.2.2.1 fp_X11_295 sR_0 rfl fun h2 =>
    aw_iload_n (pc := 10) C (i := 1) dK_d_134.2.2.2.2.2.2.1 rfl rfl <|
    aw_iret (pc := 11) C dK_d_134.2.2.2.2.2.2.2.1 rfl rfl

abbrev rmX11_partOfWays : Room := { frames := 1, cells := 0, slots := 0, locals := 20 }
def X11_partOfWays (v1 : Int64) (h : AH) : Option (Int64 × AH) :=
    bd (X11_allWays h) fun r1 h2 =>
    if r1 = 0 then none else (bd (X11_allWays h2) fun r3 h4 =>
    if r3 = 0 then none else (bd (X11_allWays h4) fun r5 h6 =>
    if r5 = 0 then none else (some ((((v1 / r1) * 10000) + (((rm64 v1 r3) * 10000) / r5)), h6))))
set_option maxRecDepth 100000 in
theorem c_X11_partOfWays (l : Launch) (v1 : Int64) : MC l yX11_partOfWays cX11_partOfWays 3 (some .long) rmX11_partOfWays ZR [.ref 0, .long v1] rvL (X11_partOfWays v1) :=
  MC.of (own := RX11) pn_RX11 rfl (Nat.le_of_ble_eq_true rfl) fun X yd A h _ C =>
    aw_lload_n (pc := 0) C (i := 1) dK_d_152.1 rfl rfl <|
    aw_aload_n (pc := 1) C (i := 0) dK_d_152.2.1 rfl rfl <|
    aw_callF (pc := 2) C (cr_V (rest := [.long v1]) (F := X11_allWays) C (c_X11_allWays X.2.1 ) dK_d_152.2.2.1 mf_X11_allWays ml_X11_246 im_X11_allWays se_X11_allWays sR_0 rfl ⟨(Nat.le_of_ble_eq_true rfl), (Nat.le_of_ble_eq_true rfl)⟩ rfl rfl (Nat.le_of_ble_eq_true rfl)) rfl rfl rfl (Nat.zero_le _) (Nat.zero_le _) fun r1 h2 =>
    aw_ldiv (pc := 5) C dK_d_152.2.2.2.1 <|
    aw_ldc2_w (pc := 6) C (v := 10000) dK_d_152.2.2.2.2.1 kc_X11_289 <|
    aw_lmul (pc := 9) C dK_d_152.2.2.2.2.2.1 <|
    aw_lload_n (pc := 10) C (i := 1) dK_d_152.2.2.2.2.2.2.1 rfl rfl <|
    aw_aload_n (pc := 11) C (i := 0) dK_d_152.2.2.2.2.2.2.2.1 rfl rfl <|
    aw_callF (pc := 12) C (cr_V (rest := [.long v1, .long ((v1 / r1) * 10000)]) (F := X11_allWays) C (c_X11_allWays X.2.1 ) dK_d_153.1 mf_X11_allWays ml_X11_246 im_X11_allWays se_X11_allWays sR_0 rfl ⟨(Nat.le_of_ble_eq_true rfl), (Nat.le_of_ble_eq_true rfl)⟩ rfl rfl (Nat.le_of_ble_eq_true rfl)) rfl rfl rfl (Nat.zero_le _) (Nat.zero_le _) fun r3 h4 =>
    aw_lrem (pc := 15) C dK_d_153.2.1 <|
    aw_ldc2_w (pc := 16) C (v := 10000) dK_d_153.2.2.1 kc_X11_289 <|
    aw_lmul (pc := 19) C dK_d_153.2.2.2.1 <|
    aw_aload_n (pc := 20) C (i := 0) dK_d_153.2.2.2.2.1 rfl rfl <|
    aw_callF (pc := 21) C (cr_V (rest := [.long ((rm64 v1 r3) * 10000), .long ((v1 / r1) * 10000)]) (F := X11_allWays) C (c_X11_allWays X.2.1 ) dK_d_153.2.2.2.2.2.1 mf_X11_allWays ml_X11_246 im_X11_allWays se_X11_allWays sR_0 rfl ⟨(Nat.le_of_ble_eq_true rfl), (Nat.le_of_ble_eq_true rfl)⟩ rfl rfl (Nat.le_of_ble_eq_true rfl)) rfl rfl rfl (Nat.zero_le _) (Nat.zero_le _) fun r5 h6 =>
    aw_ldiv (pc := 24) C dK_d_153.2.2.2.2.2.2.1 <|
    aw_ladd (pc := 25) C dK_d_153.2.2.2.2.2.2.2.1 <|
    aw_lret (pc := 26) C dK_d_154.1 rfl rfl

abbrev rmX11_findLengths : Room := { frames := 2, cells := 0, slots := 0, locals := 45 }
def X11_findLengths_l207 (p3 : Nat) (n3 : Nat) : Nat → Int32 → AH → Option (Unit × AH)
  | 0, _, _ => none
  | n + 1, v5, h =>
    if 1000 ≤ v5 then (some ((), h))
    else (ck v5 n3 (bd (X11_partOfWays (h.2.1 p3 v5.toNatClampNeg) h) fun r6 h7 =>
    ck v5 n3 (vl (sL h7 p3 v5.toNatClampNeg r6) fun h8 =>
    vl (v5 + 1) fun x9 =>
    (X11_findLengths_l207 p3 n3 n) x9 h8)))
set_option maxRecDepth 100000 in
theorem aX11_findLengths_l207 {X : MCx} {yd : Dyn} {A : Nat → Prop} (C : OK X cX11_findLengths RX11 10 none rmX11_findLengths A) (p3 : Nat) (n3 : Nat) (hA3 : ZR.1[p3]? = some (.inl (1, 1, n3))) : ∀ (n : Nat) (v5 : Int32) (h : AH), AW X 10 ZR yd A 0 0 (QF X rmX11_findLengths ZR yd rvV A) 207 [(0, .ref 0), (3, .ref p3), (5, .int v5)] [] h (X11_findLengths_l207 p3 n3 n v5 h) := by
  intro n
  induction n with
  | zero => intro v5 h; exact aw_none
  | succ n ih =>
    intro v5 h
    exact aw_iload (pc := 207) C (i := 5) dK_d_149.2.2.2.2.2.1 rfl <|
    aw_sipush (pc := 209) C (v := 1000) dK_d_149.2.2.2.2.2.2.1 rfl <|
    aw_icmp_ge (pc := 212) C (tgt := 233) dK_d_149.2.2.2.2.2.2.2.1 rfl (fun _ =>
    aw_vret (pc := 233) C dK_d_151.2.2.1 rfl rfl) (fun _ =>
    aw_aload_n (pc := 215) C (i := 3) dK_d_150.1 rfl rfl <|
    aw_iload (pc := 216) C (i := 5) dK_d_150.2.1 rfl <|
    aw_aload_n (pc := 218) C (i := 0) dK_d_150.2.2.1 rfl rfl <|
    aw_aload_n (pc := 219) C (i := 3) dK_d_150.2.2.2.1 rfl rfl <|
    aw_iload (pc := 220) C (i := 5) dK_d_150.2.2.2.2.1 rfl <|
    aw_lald (pc := 222) C dK_d_150.2.2.2.2.2.1 hA3 rfl <|
    aw_callF (pc := 223) C (cr_V (rest := [.int v5, .ref p3]) (F := (X11_partOfWays (h.2.1 p3 v5.toNatClampNeg))) C (c_X11_partOfWays X.2.1 (h.2.1 p3 v5.toNatClampNeg)) dK_d_150.2.2.2.2.2.2.1 mf_X11_partOfWays ml_X11_307 im_X11_partOfWays se_X11_partOfWays sR_0 rfl ⟨(Nat.le_of_ble_eq_true rfl), (Nat.le_of_ble_eq_true rfl)⟩ rfl rfl (Nat.le_of_ble_eq_true rfl)) rfl rfl rfl (Nat.zero_le _) (Nat.zero_le _) fun r6 h7 =>
    aw_last (pc := 226) C dK_d_150.2.2.2.2.2.2.2.1 hA3 rfl fun h8 =>
    aw_iincV (pc := 227) C (i := 5) (cst := 1) (fun x9 => [(0, .ref 0), (3, .ref p3), (5, .int x9)]) dK_d_151.1 rfl rfl (by decide) (fun _ => rfl) fun x9 =>
    aw_goto (pc := 230) C (tgt := 207) dK_d_151.2.1 rfl <|
    (ih x9 h8))
def X11_findLengths_j198 (p3 : Nat) (n3 : Nat) (v1 : Int32) (v2 : Int32) (v4 : Int32) (v5 : Int32) (K56 : Int32 → AH → Option (Unit × AH)) (h : AH) : Option (Unit × AH) :=
    vl (v5 + 1) fun x18 =>
    K56 x18 h
set_option maxRecDepth 100000 in
theorem aX11_findLengths_j198 {X : MCx} {yd : Dyn} {A : Nat → Prop} (C : OK X cX11_findLengths RX11 10 none rmX11_findLengths A) (p3 : Nat) (n3 : Nat) (hA3 : ZR.1[p3]? = some (.inl (1, 1, n3))) (v1 : Int32) (v2 : Int32) (v4 : Int32) (v5 : Int32) (K56 : Int32 → AH → Option (Unit × AH)) (hK56 : ∀ (w5 : Int32) (h : AH), AW X 10 ZR yd A 0 0 (QF X rmX11_findLengths ZR yd rvV A) 56 [(0, .ref 0), (1, .int v1), (2, .int v2), (3, .ref p3), (4, .int v4), (5, .int w5)] [] h (K56 w5 h)) (h : AH) : AW X 10 ZR yd A 0 0 (QF X rmX11_findLengths ZR yd rvV A) 198 [(0, .ref 0), (1, .int v1), (2, .int v2), (3, .ref p3), (4, .int v4), (5, .int v5)] [] h (X11_findLengths_j198 p3 n3 v1 v2 v4 v5 K56 h) := by
    exact aw_iincV (pc := 198) C (i := 5) (cst := 1) (fun x18 => [(0, .ref 0), (1, .int v1), (2, .int v2), (3, .ref p3), (4, .int v4), (5, .int x18)]) dK_d_149.2.1 rfl rfl (by decide) (fun _ => rfl) fun x18 =>
    aw_goto (pc := 201) C (tgt := 56) dK_d_149.2.2.1 rfl <|
    (hK56 x18 h)
def X11_findLengths_j192 (p3 : Nat) (n3 : Nat) (v1 : Int32) (v2 : Int32) (v4 : Int32) (v5 : Int32) (v6 : Int64) (K56 : Int32 → AH → Option (Unit × AH)) (s0 : Int32) (h : AH) : Option (Unit × AH) :=
    ck s0 n3 (ck s0 n3 (vl (sL h p3 s0.toNatClampNeg ((h.2.1 p3 s0.toNatClampNeg) + v6)) fun h17 =>
    X11_findLengths_j198 p3 n3 v1 v2 v4 v5 K56 h17))
set_option maxRecDepth 100000 in
theorem aX11_findLengths_j192 {X : MCx} {yd : Dyn} {A : Nat → Prop} (C : OK X cX11_findLengths RX11 10 none rmX11_findLengths A) (p3 : Nat) (n3 : Nat) (hA3 : ZR.1[p3]? = some (.inl (1, 1, n3))) (v1 : Int32) (v2 : Int32) (v4 : Int32) (v5 : Int32) (v6 : Int64) (K56 : Int32 → AH → Option (Unit × AH)) (hK56 : ∀ (w5 : Int32) (h : AH), AW X 10 ZR yd A 0 0 (QF X rmX11_findLengths ZR yd rvV A) 56 [(0, .ref 0), (1, .int v1), (2, .int v2), (3, .ref p3), (4, .int v4), (5, .int w5)] [] h (K56 w5 h)) (s0 : Int32) (h : AH) : AW X 10 ZR yd A 0 0 (QF X rmX11_findLengths ZR yd rvV A) 192 [(0, .ref 0), (1, .int v1), (2, .int v2), (3, .ref p3), (4, .int v4), (5, .int v5), (6, .long v6)] [.int s0, .ref p3] h (X11_findLengths_j192 p3 n3 v1 v2 v4 v5 v6 K56 s0 h) := by
    exact aw_dup2 (pc := 192) C dK_d_148.2.2.2.2.1 rfl rfl <|
    aw_lald (pc := 193) C dK_d_148.2.2.2.2.2.1 hA3 rfl <|
    aw_lload (pc := 194) C (i := 6) dK_d_148.2.2.2.2.2.2.1 rfl <|
    aw_ladd (pc := 196) C dK_d_148.2.2.2.2.2.2.2.1 <|
    aw_last (pc := 197) C dK_d_149.1 hA3 rfl fun h17 =>
    aw_drop [0, 1, 2, 3, 4, 5] (aX11_findLengths_j198 C p3 n3 hA3 v1 v2 v4 v5 K56 hK56 h17)
def X11_findLengths_j187 (p3 : Nat) (n3 : Nat) (v1 : Int32) (v2 : Int32) (v4 : Int32) (v5 : Int32) (v6 : Int64) (K56 : Int32 → AH → Option (Unit × AH)) (s0 : Int32) (s1 : Int32) (s2 : Int32) (h : AH) : Option (Unit × AH) :=
    bd (X11_lengthOf s2 s1 (s0 / 4) h) fun r15 h16 =>
    X11_findLengths_j192 p3 n3 v1 v2 v4 v5 v6 K56 r15 h16
set_option maxRecDepth 100000 in
theorem aX11_findLengths_j187 {X : MCx} {yd : Dyn} {A : Nat → Prop} (C : OK X cX11_findLengths RX11 10 none rmX11_findLengths A) (p3 : Nat) (n3 : Nat) (hA3 : ZR.1[p3]? = some (.inl (1, 1, n3))) (v1 : Int32) (v2 : Int32) (v4 : Int32) (v5 : Int32) (v6 : Int64) (K56 : Int32 → AH → Option (Unit × AH)) (hK56 : ∀ (w5 : Int32) (h : AH), AW X 10 ZR yd A 0 0 (QF X rmX11_findLengths ZR yd rvV A) 56 [(0, .ref 0), (1, .int v1), (2, .int v2), (3, .ref p3), (4, .int v4), (5, .int w5)] [] h (K56 w5 h)) (s0 : Int32) (s1 : Int32) (s2 : Int32) (h : AH) : AW X 10 ZR yd A 0 0 (QF X rmX11_findLengths ZR yd rvV A) 187 [(0, .ref 0), (1, .int v1), (2, .int v2), (3, .ref p3), (4, .int v4), (5, .int v5), (6, .long v6)] [.int s0, .int s1, .int s2, .ref 0, .ref p3] h (X11_findLengths_j187 p3 n3 v1 v2 v4 v5 v6 K56 s0 s1 s2 h) := by
    exact aw_iconst (pc := 187) C (v := 4) dK_d_148.2.1 rfl <|
    aw_idivK (pc := 188) C dK_d_148.2.2.1 (by decide) <|
    aw_callF (pc := 189) C (cr_V (rest := [.ref p3]) (F := (X11_lengthOf s2 s1 (s0 / 4))) C (c_X11_lengthOf X.2.1 s2 s1 (s0 / 4)) dK_d_148.2.2.2.1 mf_X11_lengthOf ml_X11_163 im_X11_lengthOf se_X11_lengthOf sR_0 rfl ⟨(Nat.le_of_ble_eq_true rfl), (Nat.le_of_ble_eq_true rfl)⟩ rfl rfl (Nat.le_of_ble_eq_true rfl)) rfl rfl rfl (Nat.zero_le _) (Nat.zero_le _) fun r15 h16 =>
    (aX11_findLengths_j192 C p3 n3 hA3 v1 v2 v4 v5 v6 K56 hK56 r15 h16)
def X11_findLengths_j135 (p3 : Nat) (n3 : Nat) (v1 : Int32) (v2 : Int32) (v4 : Int32) (v5 : Int32) (v6 : Int64) (v8 : Int32) (K56 : Int32 → AH → Option (Unit × AH)) (s0 : Int32) (h : AH) : Option (Unit × AH) :=
    ck v1 4 (vl (v8 - (s0 + ((h.1 6 v1.toNatClampNeg) * ((rm32 v5 41) - 20)))) fun x14 =>
    if 0 ≤ x14 then (if 0 ≤ s0 then (X11_findLengths_j187 p3 n3 v1 v2 v4 v5 v6 K56 s0 x14 v1 h)
    else (X11_findLengths_j187 p3 n3 v1 v2 v4 v5 v6 K56 (-s0) x14 v1 h))
    else (X11_findLengths_j192 p3 n3 v1 v2 v4 v5 v6 K56 0 h))
set_option maxRecDepth 100000 in
theorem aX11_findLengths_j135 {X : MCx} {yd : Dyn} {A : Nat → Prop} (C : OK X cX11_findLengths RX11 10 none rmX11_findLengths A) (p3 : Nat) (n3 : Nat) (hA3 : ZR.1[p3]? = some (.inl (1, 1, n3))) (v1 : Int32) (v2 : Int32) (v4 : Int32) (v5 : Int32) (v6 : Int64) (v8 : Int32) (K56 : Int32 → AH → Option (Unit × AH)) (hK56 : ∀ (w5 : Int32) (h : AH), AW X 10 ZR yd A 0 0 (QF X rmX11_findLengths ZR yd rvV A) 56 [(0, .ref 0), (1, .int v1), (2, .int v2), (3, .ref p3), (4, .int v4), (5, .int w5)] [] h (K56 w5 h)) (s0 : Int32) (h : AH) : AW X 10 ZR yd A 0 0 (QF X rmX11_findLengths ZR yd rvV A) 135 [(0, .ref 0), (1, .int v1), (2, .int v2), (3, .ref p3), (4, .int v4), (5, .int v5), (6, .long v6), (8, .int v8)] [.int s0] h (X11_findLengths_j135 p3 n3 v1 v2 v4 v5 v6 v8 K56 s0 h) := by
    exact aw_istore (pc := 135) C (i := 9) (lv' := [(0, .ref 0), (1, .int v1), (2, .int v2), (3, .ref p3), (4, .int v4), (5, .int v5), (6, .long v6), (8, .int v8), (9, .int s0)]) dK_d_144.2.2.2.1 (by decide) rfl <|
    aw_iload (pc := 137) C (i := 8) dK_d_144.2.2.2.2.1 rfl <|
    aw_iload (pc := 139) C (i := 9) dK_d_144.2.2.2.2.2.1 rfl <|
    aw_aload_n (pc := 141) C (i := 0) dK_d_144.2.2.2.2.2.2.1 rfl rfl <|
    aw_getR (pc := 142) C (b := 6) dK_d_144.2.2.2.2.2.2.2.1 fl_X11_25 sR_0 rfl rR_0_5 <|
    aw_iload_n (pc := 145) C (i := 1) dK_d_145.1 rfl rfl <|
    aw_iald (pc := 146) C dK_d_145.2.1 sR_6 rfl <|
    aw_iload (pc := 147) C (i := 5) dK_d_145.2.2.1 rfl <|
    aw_bipush (pc := 149) C (v := 41) dK_d_145.2.2.2.1 rfl <|
    aw_iremK (pc := 151) C dK_d_145.2.2.2.2.1 (by decide) <|
    aw_bipush (pc := 152) C (v := 20) dK_d_145.2.2.2.2.2.1 rfl <|
    aw_isub (pc := 154) C dK_d_145.2.2.2.2.2.2.1 <|
    aw_imul (pc := 155) C dK_d_145.2.2.2.2.2.2.2.1 <|
    aw_iadd (pc := 156) C dK_d_146.1 <|
    aw_isub (pc := 157) C dK_d_146.2.1 <|
    aw_istoreV (pc := 158) C (i := 8) (fun x14 => [(0, .ref 0), (1, .int v1), (2, .int v2), (3, .ref p3), (4, .int v4), (5, .int v5), (6, .long v6), (8, .int x14), (9, .int s0)]) dK_d_146.2.2.1 (by decide) (fun _ => rfl) fun x14 =>
    aw_aload_n (pc := 160) C (i := 3) dK_d_146.2.2.2.1 rfl rfl <|
    aw_iload (pc := 161) C (i := 8) dK_d_146.2.2.2.2.1 rfl <|
    aw_if_ge (pc := 163) C (tgt := 170) dK_d_146.2.2.2.2.2.1 rfl (fun _ =>
    aw_aload_n (pc := 170) C (i := 0) dK_d_147.1 rfl rfl <|
    aw_iload_n (pc := 171) C (i := 1) dK_d_147.2.1 rfl rfl <|
    aw_iload (pc := 172) C (i := 8) dK_d_147.2.2.1 rfl <|
    aw_iload (pc := 174) C (i := 9) dK_d_147.2.2.2.1 rfl <|
    aw_if_ge (pc := 176) C (tgt := 185) dK_d_147.2.2.2.2.1 rfl (fun _ =>
    aw_iload (pc := 185) C (i := 9) dK_d_148.1 rfl <|
    aw_drop [0, 1, 2, 3, 4, 5, 6] (aX11_findLengths_j187 C p3 n3 hA3 v1 v2 v4 v5 v6 K56 hK56 s0 x14 v1 h)) (fun _ =>
    aw_iload (pc := 179) C (i := 9) dK_d_147.2.2.2.2.2.1 rfl <|
    aw_ineg (pc := 181) C dK_d_147.2.2.2.2.2.2.1 <|
    aw_goto (pc := 182) C (tgt := 187) dK_d_147.2.2.2.2.2.2.2.1 rfl <|
    aw_drop [0, 1, 2, 3, 4, 5, 6] (aX11_findLengths_j187 C p3 n3 hA3 v1 v2 v4 v5 v6 K56 hK56 (-s0) x14 v1 h))) (fun _ =>
    aw_iconst (pc := 166) C (v := 0) dK_d_146.2.2.2.2.2.2.1 rfl <|
    aw_goto (pc := 167) C (tgt := 192) dK_d_146.2.2.2.2.2.2.2.1 rfl <|
    aw_drop [0, 1, 2, 3, 4, 5, 6] (aX11_findLengths_j192 C p3 n3 hA3 v1 v2 v4 v5 v6 K56 hK56 0 h))
def X11_findLengths_l56 (p3 : Nat) (n3 : Nat) (v1 : Int32) (v2 : Int32) (v4 : Int32) : Nat → Int32 → AH → Option (Unit × AH)
  | 0, _, _ => none
  | n + 1, v5, h =>
    if 1681 ≤ v5 then (X11_findLengths_l207 p3 n3 FU 0 h)
    else (ck (v5 / 41) 41 (ck (rm32 v5 41) 41 (vl ((h.2.1 18 (v5 / 41).toNatClampNeg) * (h.2.1 19 (rm32 v5 41).toNatClampNeg)) fun x10 =>
    if (lcmpV x10 0) = 0 then (X11_findLengths_j198 p3 n3 v1 v2 v4 v5 (X11_findLengths_l56 p3 n3 v1 v2 v4 n) h)
    else (ck v1 4 (vl (v2 - ((h.1 6 v1.toNatClampNeg) * ((v5 / 41) - 20))) fun x11 =>
    if v4 = 0 then (X11_findLengths_j135 p3 n3 v1 v2 v4 v5 x10 x11 (X11_findLengths_l56 p3 n3 v1 v2 v4 n) 0 h)
    else (bd (X11_aimOf v1 h) fun r12 h13 =>
    X11_findLengths_j135 p3 n3 v1 v2 v4 v5 x10 x11 (X11_findLengths_l56 p3 n3 v1 v2 v4 n) ((x11 - r12) / 2) h13))))))
set_option maxRecDepth 100000 in
theorem aX11_findLengths_l56 {X : MCx} {yd : Dyn} {A : Nat → Prop} (C : OK X cX11_findLengths RX11 10 none rmX11_findLengths A) (p3 : Nat) (n3 : Nat) (hA3 : ZR.1[p3]? = some (.inl (1, 1, n3))) (v1 : Int32) (v2 : Int32) (v4 : Int32) : ∀ (n : Nat) (v5 : Int32) (h : AH), AW X 10 ZR yd A 0 0 (QF X rmX11_findLengths ZR yd rvV A) 56 [(0, .ref 0), (1, .int v1), (2, .int v2), (3, .ref p3), (4, .int v4), (5, .int v5)] [] h (X11_findLengths_l56 p3 n3 v1 v2 v4 n v5 h) := by
  intro n
  induction n with
  | zero => intro v5 h; exact aw_none
  | succ n ih =>
    intro v5 h
    exact aw_iload (pc := 56) C (i := 5) dK_d_138.2.2.2.2.2.1 rfl <|
    aw_sipush (pc := 58) C (v := 1681) dK_d_138.2.2.2.2.2.2.1 rfl <|
    aw_icmp_ge (pc := 61) C (tgt := 204) dK_d_138.2.2.2.2.2.2.2.1 rfl (fun _ =>
    aw_iconst (pc := 204) C (v := 0) dK_d_149.2.2.2.1 rfl <|
    aw_istore (pc := 205) C (i := 5) (lv' := [(0, .ref 0), (1, .int v1), (2, .int v2), (3, .ref p3), (4, .int v4), (5, .int 0)]) dK_d_149.2.2.2.2.1 (by decide) rfl <|
    aw_drop [0, 3, 5] (aX11_findLengths_l207 C p3 n3 hA3 FU 0 h)) (fun _ =>
    aw_aload_n (pc := 64) C (i := 0) dK_d_139.1 rfl rfl <|
    aw_getR (pc := 65) C (b := 18) dK_d_139.2.1 fl_X11_61 sR_0 rfl rR_0_28 <|
    aw_iload (pc := 68) C (i := 5) dK_d_139.2.2.1 rfl <|
    aw_bipush (pc := 70) C (v := 41) dK_d_139.2.2.2.1 rfl <|
    aw_idivK (pc := 72) C dK_d_139.2.2.2.2.1 (by decide) <|
    aw_lald (pc := 73) C dK_d_139.2.2.2.2.2.1 sR_18 rfl <|
    aw_aload_n (pc := 74) C (i := 0) dK_d_139.2.2.2.2.2.2.1 rfl rfl <|
    aw_getR (pc := 75) C (b := 19) dK_d_139.2.2.2.2.2.2.2.1 fl_X11_65 sR_0 rfl rR_0_29 <|
    aw_iload (pc := 78) C (i := 5) dK_d_140.1 rfl <|
    aw_bipush (pc := 80) C (v := 41) dK_d_140.2.1 rfl <|
    aw_iremK (pc := 82) C dK_d_140.2.2.1 (by decide) <|
    aw_lald (pc := 83) C dK_d_140.2.2.2.1 sR_19 rfl <|
    aw_lmul (pc := 84) C dK_d_140.2.2.2.2.1 <|
    aw_lstoreV (pc := 85) C (i := 6) (fun x10 => [(0, .ref 0), (1, .int v1), (2, .int v2), (3, .ref p3), (4, .int v4), (5, .int v5), (6, .long x10)]) dK_d_140.2.2.2.2.2.1 (by decide) (fun _ => rfl) fun x10 =>
    aw_lload (pc := 87) C (i := 6) dK_d_140.2.2.2.2.2.2.1 rfl <|
    aw_lconst (pc := 89) C (v := 0) dK_d_140.2.2.2.2.2.2.2.1 rfl <|
    aw_lcmp (pc := 90) C dK_d_141.1 <|
    aw_if_ne (pc := 91) C (tgt := 97) dK_d_141.2.1 rfl (fun _ =>
    aw_goto (pc := 94) C (tgt := 198) dK_d_141.2.2.1 rfl <|
    aw_drop [0, 1, 2, 3, 4, 5] (aX11_findLengths_j198 C p3 n3 hA3 v1 v2 v4 v5 (X11_findLengths_l56 p3 n3 v1 v2 v4 n) ih h)) (fun _ =>
    aw_iload_n (pc := 97) C (i := 2) dK_d_141.2.2.2.1 rfl rfl <|
    aw_aload_n (pc := 98) C (i := 0) dK_d_141.2.2.2.2.1 rfl rfl <|
    aw_getR (pc := 99) C (b := 6) dK_d_141.2.2.2.2.2.1 fl_X11_25 sR_0 rfl rR_0_5 <|
    aw_iload_n (pc := 102) C (i := 1) dK_d_141.2.2.2.2.2.2.1 rfl rfl <|
    aw_iald (pc := 103) C dK_d_141.2.2.2.2.2.2.2.1 sR_6 rfl <|
    aw_iload (pc := 104) C (i := 5) dK_d_142.1 rfl <|
    aw_bipush (pc := 106) C (v := 41) dK_d_142.2.1 rfl <|
    aw_idivK (pc := 108) C dK_d_142.2.2.1 (by decide) <|
    aw_bipush (pc := 109) C (v := 20) dK_d_142.2.2.2.1 rfl <|
    aw_isub (pc := 111) C dK_d_142.2.2.2.2.1 <|
    aw_imul (pc := 112) C dK_d_142.2.2.2.2.2.1 <|
    aw_isub (pc := 113) C dK_d_142.2.2.2.2.2.2.1 <|
    aw_istoreV (pc := 114) C (i := 8) (fun x11 => [(0, .ref 0), (1, .int v1), (2, .int v2), (3, .ref p3), (4, .int v4), (5, .int v5), (6, .long x10), (8, .int x11)]) dK_d_142.2.2.2.2.2.2.2.1 (by decide) (fun _ => rfl) fun x11 =>
    aw_iload (pc := 116) C (i := 4) dK_d_143.1 rfl <|
    aw_if_ne (pc := 118) C (tgt := 125) dK_d_143.2.1 rfl (fun _ =>
    aw_iconst (pc := 121) C (v := 0) dK_d_143.2.2.1 rfl <|
    aw_goto (pc := 122) C (tgt := 135) dK_d_143.2.2.2.1 rfl <|
    (aX11_findLengths_j135 C p3 n3 hA3 v1 v2 v4 v5 x10 x11 (X11_findLengths_l56 p3 n3 v1 v2 v4 n) ih 0 h)) (fun _ =>
    aw_iload (pc := 125) C (i := 8) dK_d_143.2.2.2.2.1 rfl <|
    aw_aload_n (pc := 127) C (i := 0) dK_d_143.2.2.2.2.2.1 rfl rfl <|
    aw_iload_n (pc := 128) C (i := 1) dK_d_143.2.2.2.2.2.2.1 rfl rfl <|
    aw_callF (pc := 129) C (cr_V (rest := [.int x11]) (F := (X11_aimOf v1)) C (c_X11_aimOf X.2.1 v1) dK_d_143.2.2.2.2.2.2.2.1 mf_X11_aimOf ml_X11_210 im_X11_aimOf se_X11_aimOf sR_0 rfl ⟨(Nat.le_of_ble_eq_true rfl), (Nat.le_of_ble_eq_true rfl)⟩ rfl rfl (Nat.le_of_ble_eq_true rfl)) rfl rfl rfl (Nat.zero_le _) (Nat.zero_le _) fun r12 h13 =>
    aw_isub (pc := 132) C dK_d_144.1 <|
    aw_iconst (pc := 133) C (v := 2) dK_d_144.2.1 rfl <|
    aw_idivK (pc := 134) C dK_d_144.2.2.1 (by decide) <|
    (aX11_findLengths_j135 C p3 n3 hA3 v1 v2 v4 v5 x10 x11 (X11_findLengths_l56 p3 n3 v1 v2 v4 n) ih ((x11 - r12) / 2) h13))))
def X11_findLengths_l3 (p3 : Nat) (n3 : Nat) (v1 : Int32) (v2 : Int32) : Nat → Int32 → AH → Option (Unit × AH)
  | 0, _, _ => none
  | n + 1, v4, h =>
    if 1000 ≤ v4 then (ck v1 4 (vl (h.1 8 v1.toNatClampNeg) fun x1 =>
    bd (X11_findWays 18 41 ((h.1 0 12) - x1) h) fun _ h3 =>
    bd (X11_findWays 19 41 x1 h3) fun _ h5 =>
    X11_findLengths_l56 p3 n3 v1 v2 x1 FU 0 h5))
    else (ck v4 n3 (vl (sL h p3 v4.toNatClampNeg 0) fun h19 =>
    vl (v4 + 1) fun x20 =>
    (X11_findLengths_l3 p3 n3 v1 v2 n) x20 h19))
set_option maxRecDepth 100000 in
theorem aX11_findLengths_l3 {X : MCx} {yd : Dyn} {A : Nat → Prop} (C : OK X cX11_findLengths RX11 10 none rmX11_findLengths A) (p3 : Nat) (n3 : Nat) (hA3 : ZR.1[p3]? = some (.inl (1, 1, n3))) (v1 : Int32) (v2 : Int32) : ∀ (n : Nat) (v4 : Int32) (h : AH), AW X 10 ZR yd A 0 0 (QF X rmX11_findLengths ZR yd rvV A) 3 [(0, .ref 0), (1, .int v1), (2, .int v2), (3, .ref p3), (4, .int v4)] [] h (X11_findLengths_l3 p3 n3 v1 v2 n v4 h) := by
  intro n
  induction n with
  | zero => intro v4 h; exact aw_none
  | succ n ih =>
    intro v4 h
    exact aw_iload (pc := 3) C (i := 4) dK_d_135.2.2.1 rfl <|
    aw_sipush (pc := 5) C (v := 1000) dK_d_135.2.2.2.1 rfl <|
    aw_icmp_ge (pc := 8) C (tgt := 22) dK_d_135.2.2.2.2.1 rfl (fun _ =>
    aw_aload_n (pc := 22) C (i := 0) dK_d_136.2.2.2.1 rfl rfl <|
    aw_getR (pc := 23) C (b := 8) dK_d_136.2.2.2.2.1 fl_X11_31 sR_0 rfl rR_0_7 <|
    aw_iload_n (pc := 26) C (i := 1) dK_d_136.2.2.2.2.2.1 rfl rfl <|
    aw_iald (pc := 27) C dK_d_136.2.2.2.2.2.2.1 sR_8 rfl <|
    aw_istoreV (pc := 28) C (i := 4) (fun x1 => [(0, .ref 0), (1, .int v1), (2, .int v2), (3, .ref p3), (4, .int x1)]) dK_d_136.2.2.2.2.2.2.2.1 (by decide) (fun _ => rfl) fun x1 =>
    aw_aload_n (pc := 30) C (i := 0) dK_d_137.1 rfl rfl <|
    aw_getR (pc := 31) C (b := 18) dK_d_137.2.1 fl_X11_61 sR_0 rfl rR_0_28 <|
    aw_aload_n (pc := 34) C (i := 0) dK_d_137.2.2.1 rfl rfl <|
    aw_getI (pc := 35) C dK_d_137.2.2.2.1 fl_X11_95 sR_0 rfl <|
    aw_iload (pc := 38) C (i := 4) dK_d_137.2.2.2.2.1 rfl <|
    aw_isub (pc := 40) C dK_d_137.2.2.2.2.2.1 <|
    aw_callF (pc := 41) C (cr_S (rest := []) (F := (X11_findWays 18 41 ((h.1 0 12) - x1))) C (c_X11_findWays X.2.1 18 41 sR_18 ((h.1 0 12) - x1)) dK_d_137.2.2.2.2.2.2.1 mf_X11_findWays ml_X11_226 st_X11_findWays ⟨(Nat.le_of_ble_eq_true rfl), (Nat.le_of_ble_eq_true rfl)⟩ rfl rfl (Nat.le_of_ble_eq_true rfl)) rfl rfl rfl (Nat.zero_le _) (Nat.zero_le _) fun _ h3 =>
    aw_aload_n (pc := 44) C (i := 0) dK_d_137.2.2.2.2.2.2.2.1 rfl rfl <|
    aw_getR (pc := 45) C (b := 19) dK_d_138.1 fl_X11_65 sR_0 rfl rR_0_29 <|
    aw_iload (pc := 48) C (i := 4) dK_d_138.2.1 rfl <|
    aw_callF (pc := 50) C (cr_S (rest := []) (F := (X11_findWays 19 41 x1)) C (c_X11_findWays X.2.1 19 41 sR_19 x1) dK_d_138.2.2.1 mf_X11_findWays ml_X11_226 st_X11_findWays ⟨(Nat.le_of_ble_eq_true rfl), (Nat.le_of_ble_eq_true rfl)⟩ rfl rfl (Nat.le_of_ble_eq_true rfl)) rfl rfl rfl (Nat.zero_le _) (Nat.zero_le _) fun _ h5 =>
    aw_iconst (pc := 53) C (v := 0) dK_d_138.2.2.2.1 rfl <|
    aw_istore (pc := 54) C (i := 5) (lv' := [(0, .ref 0), (1, .int v1), (2, .int v2), (3, .ref p3), (4, .int x1), (5, .int 0)]) dK_d_138.2.2.2.2.1 (by decide) rfl <|
    (aX11_findLengths_l56 C p3 n3 hA3 v1 v2 x1 FU 0 h5)) (fun _ =>
    aw_aload_n (pc := 11) C (i := 3) dK_d_135.2.2.2.2.2.1 rfl rfl <|
    aw_iload (pc := 12) C (i := 4) dK_d_135.2.2.2.2.2.2.1 rfl <|
    aw_lconst (pc := 14) C (v := 0) dK_d_135.2.2.2.2.2.2.2.1 rfl <|
    aw_last (pc := 15) C dK_d_136.1 hA3 rfl fun h19 =>
    aw_iincV (pc := 16) C (i := 4) (cst := 1) (fun x20 => [(0, .ref 0), (1, .int v1), (2, .int v2), (3, .ref p3), (4, .int x20)]) dK_d_136.2.1 rfl rfl (by decide) (fun _ => rfl) fun x20 =>
    aw_goto (pc := 19) C (tgt := 3) dK_d_136.2.2.1 rfl <|
    (ih x20 h19))
def X11_findLengths (v1 : Int32) (v2 : Int32) (p3 : Nat) (n3 : Nat) (h : AH) : Option (Unit × AH) :=
    X11_findLengths_l3 p3 n3 v1 v2 FU 0 h
set_option maxRecDepth 100000 in
theorem c_X11_findLengths (l : Launch) (v1 : Int32) (v2 : Int32) (p3 : Nat) (n3 : Nat) (hA3 : ZR.1[p3]? = some (.inl (1, 1, n3))) : MC l yX11_findLengths cX11_findLengths 10 none rmX11_findLengths ZR [.ref 0, .int v1, .int v2, .ref p3] rvV (X11_findLengths v1 v2 p3 n3) :=
  MC.of (own := RX11) pn_RX11 rfl (Nat.le_of_ble_eq_true rfl) fun X yd A h _ C =>
    aw_iconst (pc := 0) C (v := 0) dK_d_135.1 rfl <|
    aw_istore (pc := 1) C (i := 4) (lv' := [(0, .ref 0), (1, .int v1), (2, .int v2), (3, .ref p3), (4, .int 0)]) dK_d_135.2.1 (by decide) rfl <|
    (aX11_findLengths_l3 C p3 n3 hA3 v1 v2 FU 0 h)

abbrev rmX11_parts : Room := { frames := 3, cells := 0, slots := 0, locals := 74 }
def X11_parts_j20  (v1 : Int32) (v2 : Int32) (s0 : Int32) (h : AH) : Option (Int32 × AH) :=
    if s0 = 0 then (bd (X11_placeOf v1 h) fun r5 h6 =>
    bd (X11_findLengths v1 r5 25 1000 h6) fun _ h8 =>
    ck v2 1000 (some ((h8.2.1 25 v2.toNatClampNeg).toInt32, h8)))
    else (bd (X11_no s0 h) fun r9 h10 =>
    some (r9, h10))
set_option maxRecDepth 100000 in
theorem aX11_parts_j20 {X : MCx} {yd : Dyn} {A : Nat → Prop} (C : OK X cX11_parts RX11 4 (some .int) rmX11_parts A)  (v1 : Int32) (v2 : Int32) (s0 : Int32) (h : AH) : AW X 4 ZR yd A 0 0 (QF X rmX11_parts ZR yd rvI A) 20 [(0, .ref 0), (1, .int v1), (2, .int v2)] [.int s0] h (X11_parts_j20 v1 v2 s0 h) := by
    exact aw_istore_n (pc := 20) C (i := 3) (lv' := [(0, .ref 0), (1, .int v1), (2, .int v2), (3, .int s0)]) dK_d_156.2.2.1 rfl (by decide) rfl <|
    aw_iload_n (pc := 21) C (i := 3) dK_d_156.2.2.2.1 rfl rfl <|
    aw_if_eq (pc := 22) C (tgt := 31) dK_d_156.2.2.2.2.1 rfl (fun _ =>
    aw_aload_n (pc := 31) C (i := 0) dK_d_157.2.1 rfl rfl <|
    aw_iload_n (pc := 32) C (i := 1) dK_d_157.2.2.1 rfl rfl <|
    aw_aload_n (pc := 33) C (i := 0) dK_d_157.2.2.2.1 rfl rfl <|
    aw_iload_n (pc := 34) C (i := 1) dK_d_157.2.2.2.2.1 rfl rfl <|
    aw_callF (pc := 35) C (cr_V (rest := [.int v1, .ref 0]) (F := (X11_placeOf v1)) C (c_X11_placeOf X.2.1 v1) dK_d_157.2.2.2.2.2.1 mf_X11_placeOf ml_X11_223 im_X11_placeOf se_X11_placeOf sR_0 rfl ⟨(Nat.le_of_ble_eq_true rfl), (Nat.le_of_ble_eq_true rfl)⟩ rfl rfl (Nat.le_of_ble_eq_true rfl)) rfl rfl rfl (Nat.zero_le _) (Nat.zero_le _) fun r5 h6 =>
    aw_aload_n (pc := 38) C (i := 0) dK_d_157.2.2.2.2.2.2.1 rfl rfl <|
    aw_getR (pc := 39) C (b := 25) dK_d_157.2.2.2.2.2.2.2.1 fl_X11_83 sR_0 rfl rR_0_36 <|
    aw_callF (pc := 42) C (cr_V (rest := []) (F := (X11_findLengths v1 r5 25 1000)) C (c_X11_findLengths X.2.1 v1 r5 25 1000 sR_25) dK_d_158.1 mf_X11_findLengths ml_X11_311 im_X11_findLengths se_X11_findLengths sR_0 rfl ⟨(Nat.le_of_ble_eq_true rfl), (Nat.le_of_ble_eq_true rfl)⟩ rfl rfl (Nat.le_of_ble_eq_true rfl)) rfl rfl rfl (Nat.zero_le _) (Nat.zero_le _) fun _ h8 =>
    aw_aload_n (pc := 45) C (i := 0) dK_d_158.2.1 rfl rfl <|
    aw_getR (pc := 46) C (b := 25) dK_d_158.2.2.1 fl_X11_83 sR_0 rfl rR_0_36 <|
    aw_iload_n (pc := 49) C (i := 2) dK_d_158.2.2.2.1 rfl rfl <|
    aw_lald (pc := 50) C dK_d_158.2.2.2.2.1 sR_25 rfl <|
    aw_l2i (pc := 51) C dK_d_158.2.2.2.2.2.1 <|
    aw_iret (pc := 52) C dK_d_158.2.2.2.2.2.2.1 rfl rfl) (fun _ =>
    aw_aload_n (pc := 25) C (i := 0) dK_d_156.2.2.2.2.2.1 rfl rfl <|
    aw_iload_n (pc := 26) C (i := 3) dK_d_156.2.2.2.2.2.2.1 rfl rfl <|
    aw_callF (pc := 27) C (cr_V (rest := []) (F := (X11_no s0)) C (c_X11_no X.2.1 s0) dK_d_156.2.2.2.2.2.2.2.1 mf_X11_no ml_X11_115 im_X11_no se_X11_no sR_0 rfl ⟨(Nat.le_of_ble_eq_true rfl), (Nat.le_of_ble_eq_true rfl)⟩ rfl rfl (Nat.le_of_ble_eq_true rfl)) rfl rfl rfl (Nat.zero_le _) (Nat.zero_le _) fun r9 h10 =>
    aw_iret (pc := 30) C dK_d_157.1 rfl rfl)
def X11_parts (v1 : Int32) (v2 : Int32) (h : AH) : Option (Int32 × AH) :=
    bd (X11_isJumper v1 h) fun r1 h2 =>
    if r1 = 0 then (X11_parts_j20 v1 v2 (-1) h2)
    else (bd (X11_bound v2 0 999 h2) fun r3 h4 =>
    X11_parts_j20 v1 v2 r3 h4)
set_option maxRecDepth 100000 in
theorem c_X11_parts (l : Launch) (v1 : Int32) (v2 : Int32) : MC l yX11_parts cX11_parts 4 (some .int) rmX11_parts ZR [.ref 0, .int v1, .int v2] rvI (X11_parts v1 v2) :=
  MC.of (own := RX11) pn_RX11 rfl (Nat.le_of_ble_eq_true rfl) fun X yd A h _ C =>
    aw_aload_n (pc := 0) C (i := 0) dK_d_155.1 rfl rfl <|
    aw_iload_n (pc := 1) C (i := 1) dK_d_155.2.1 rfl rfl <|
    aw_callF (pc := 2) C (cr_V (rest := []) (F := (X11_isJumper v1)) C (c_X11_isJumper X.2.1 v1) dK_d_155.2.2.1 mf_X11_isJumper ml_X11_207 im_X11_isJumper se_X11_isJumper sR_0 rfl ⟨(Nat.le_of_ble_eq_true rfl), (Nat.le_of_ble_eq_true rfl)⟩ rfl rfl (Nat.le_of_ble_eq_true rfl)) rfl rfl rfl (Nat.zero_le _) (Nat.zero_le _) fun r1 h2 =>
    aw_if_ne (pc := 5) C (tgt := 12) dK_d_155.2.2.2.1 rfl (fun _ =>
    aw_iconst (pc := 8) C (v := (-1)) dK_d_155.2.2.2.2.1 rfl <|
    aw_goto (pc := 9) C (tgt := 20) dK_d_155.2.2.2.2.2.1 rfl <|
    (aX11_parts_j20 C v1 v2 (-1) h2)) (fun _ =>
    aw_iload_n (pc := 12) C (i := 2) dK_d_155.2.2.2.2.2.2.1 rfl rfl <|
    aw_iconst (pc := 13) C (v := 0) dK_d_155.2.2.2.2.2.2.2.1 rfl <|
    aw_sipush (pc := 14) C (v := 999) dK_d_156.1 rfl <|
    aw_callF (pc := 17) C (cr_S (rest := []) (F := (X11_bound v2 0 999)) C (c_X11_bound X.2.1 v2 0 999) dK_d_156.2.1 mf_X11_bound ml_X11_108 st_X11_bound ⟨(Nat.le_of_ble_eq_true rfl), (Nat.le_of_ble_eq_true rfl)⟩ rfl rfl (Nat.le_of_ble_eq_true rfl)) rfl rfl rfl (Nat.zero_le _) (Nat.zero_le _) fun r3 h4 =>
    (aX11_parts_j20 C v1 v2 r3 h4))

abbrev rmX11_areTwo : Room := { frames := 1, cells := 0, slots := 0, locals := 21 }
def X11_areTwo (v1 : Int32) (v2 : Int32) (h : AH) : Option (Int32 × AH) :=
    bd (X11_isJumper v1 h) fun r1 h2 =>
    if r1 = 0 then (cz 0 (some (0, h2)))
    else (bd (X11_isJumper v2 h2) fun r3 h4 =>
    if r3 = 0 then (cz 0 (some (0, h4)))
    else (if v1 = v2 then (cz 0 (some (0, h4)))
    else (cz 1 (some (1, h4)))))
set_option maxRecDepth 100000 in
theorem c_X11_areTwo (l : Launch) (v1 : Int32) (v2 : Int32) : MC l yX11_areTwo cX11_areTwo 3 (some .boolean) rmX11_areTwo ZR [.ref 0, .int v1, .int v2] rvI (X11_areTwo v1 v2) :=
  MC.of (own := RX11) pn_RX11 rfl (Nat.le_of_ble_eq_true rfl) fun X yd A h _ C =>
    aw_aload_n (pc := 0) C (i := 0) dK_d_159.1 rfl rfl <|
    aw_iload_n (pc := 1) C (i := 1) dK_d_159.2.1 rfl rfl <|
    aw_callF (pc := 2) C (cr_V (rest := []) (F := (X11_isJumper v1)) C (c_X11_isJumper X.2.1 v1) dK_d_159.2.2.1 mf_X11_isJumper ml_X11_207 im_X11_isJumper se_X11_isJumper sR_0 rfl ⟨(Nat.le_of_ble_eq_true rfl), (Nat.le_of_ble_eq_true rfl)⟩ rfl rfl (Nat.le_of_ble_eq_true rfl)) rfl rfl rfl (Nat.zero_le _) (Nat.zero_le _) fun r1 h2 =>
    aw_if_eq (pc := 5) C (tgt := 25) dK_d_159.2.2.2.1 rfl (fun _ =>
    aw_iconst (pc := 25) C (v := 0) dK_d_160.2.2.2.2.2.1 rfl <|
    aw_zret (pc := 26) C dK_d_160.2.2.2.2.2.2.1 rfl rfl) (fun _ =>
    aw_aload_n (pc := 8) C (i := 0) dK_d_159.2.2.2.2.1 rfl rfl <|
    aw_iload_n (pc := 9) C (i := 2) dK_d_159.2.2.2.2.2.1 rfl rfl <|
    aw_callF (pc := 10) C (cr_V (rest := []) (F := (X11_isJumper v2)) C (c_X11_isJumper X.2.1 v2) dK_d_159.2.2.2.2.2.2.1 mf_X11_isJumper ml_X11_207 im_X11_isJumper se_X11_isJumper sR_0 rfl ⟨(Nat.le_of_ble_eq_true rfl), (Nat.le_of_ble_eq_true rfl)⟩ rfl rfl (Nat.le_of_ble_eq_true rfl)) rfl rfl rfl (Nat.zero_le _) (Nat.zero_le _) fun r3 h4 =>
    aw_if_eq (pc := 13) C (tgt := 25) dK_d_159.2.2.2.2.2.2.2.1 rfl (fun _ =>
    aw_iconst (pc := 25) C (v := 0) dK_d_160.2.2.2.2.2.1 rfl <|
    aw_zret (pc := 26) C dK_d_160.2.2.2.2.2.2.1 rfl rfl) (fun _ =>
    aw_iload_n (pc := 16) C (i := 1) dK_d_160.1 rfl rfl <|
    aw_iload_n (pc := 17) C (i := 2) dK_d_160.2.1 rfl rfl <|
    aw_icmp_eq (pc := 18) C (tgt := 25) dK_d_160.2.2.1 rfl (fun _ =>
    aw_iconst (pc := 25) C (v := 0) dK_d_160.2.2.2.2.2.1 rfl <|
    aw_zret (pc := 26) C dK_d_160.2.2.2.2.2.2.1 rfl rfl) (fun _ =>
    aw_iconst (pc := 21) C (v := 1) dK_d_160.2.2.2.1 rfl <|
    aw_goto (pc := 22) C (tgt := 26) dK_d_160.2.2.2.2.1 rfl <|
    aw_zret (pc := 26) C dK_d_160.2.2.2.2.2.2.1 rfl rfl)))

abbrev rmX11_moreFrom : Room := { frames := 3, cells := 0, slots := 0, locals := 74 }
def X11_moreFrom_l30  : Nat → Int64 → Int64 → Int32 → AH → Option (Int32 × AH)
  | 0, _, _, _, _ => none
  | n + 1, v5, v7, v9, h =>
    if 1000 ≤ v9 then (some ((v5 / 10000).toInt32, h))
    else (ck v9 1000 (vl (v5 + ((h.2.1 25 v9.toNatClampNeg) * v7)) fun x5 =>
    ck v9 1000 (vl (v7 + (h.2.1 26 v9.toNatClampNeg)) fun x6 =>
    vl (v9 + 1) fun x7 =>
    (X11_moreFrom_l30 n) x5 x6 x7 h)))
set_option maxRecDepth 100000 in
theorem aX11_moreFrom_l30 {X : MCx} {yd : Dyn} {A : Nat → Prop} (C : OK X cX11_moreFrom RX11 10 (some .int) rmX11_moreFrom A)  : ∀ (n : Nat) (v5 : Int64) (v7 : Int64) (v9 : Int32) (h : AH), AW X 10 ZR yd A 0 0 (QF X rmX11_moreFrom ZR yd rvI A) 30 [(0, .ref 0), (5, .long v5), (7, .long v7), (9, .int v9)] [] h (X11_moreFrom_l30 n v5 v7 v9 h) := by
  intro n
  induction n with
  | zero => intro v5 v7 v9 h; exact aw_none
  | succ n ih =>
    intro v5 v7 v9 h
    exact aw_iload (pc := 30) C (i := 9) dK_d_163.2.2.1 rfl <|
    aw_sipush (pc := 32) C (v := 1000) dK_d_163.2.2.2.1 rfl <|
    aw_icmp_ge (pc := 35) C (tgt := 71) dK_d_163.2.2.2.2.1 rfl (fun _ =>
    aw_lload (pc := 71) C (i := 5) dK_d_165.2.2.2.2.2.2.2.1 rfl <|
    aw_ldc2_w (pc := 73) C (v := 10000) dK_d_166.1 kc_X11_289 <|
    aw_ldivK (pc := 76) C dK_d_166.2.1 (by decide) <|
    aw_l2i (pc := 77) C dK_d_166.2.2.1 <|
    aw_iret (pc := 78) C dK_d_166.2.2.2.1 rfl rfl) (fun _ =>
    aw_lload (pc := 38) C (i := 5) dK_d_163.2.2.2.2.2.1 rfl <|
    aw_aload_n (pc := 40) C (i := 0) dK_d_163.2.2.2.2.2.2.1 rfl rfl <|
    aw_getR (pc := 41) C (b := 25) dK_d_163.2.2.2.2.2.2.2.1 fl_X11_83 sR_0 rfl rR_0_36 <|
    aw_iload (pc := 44) C (i := 9) dK_d_164.1 rfl <|
    aw_lald (pc := 46) C dK_d_164.2.1 sR_25 rfl <|
    aw_lload (pc := 47) C (i := 7) dK_d_164.2.2.1 rfl <|
    aw_lmul (pc := 49) C dK_d_164.2.2.2.1 <|
    aw_ladd (pc := 50) C dK_d_164.2.2.2.2.1 <|
    aw_lstoreV (pc := 51) C (i := 5) (fun x5 => [(0, .ref 0), (5, .long x5), (7, .long v7), (9, .int v9)]) dK_d_164.2.2.2.2.2.1 (by decide) (fun _ => rfl) fun x5 =>
    aw_lload (pc := 53) C (i := 7) dK_d_164.2.2.2.2.2.2.1 rfl <|
    aw_aload_n (pc := 55) C (i := 0) dK_d_164.2.2.2.2.2.2.2.1 rfl rfl <|
    aw_getR (pc := 56) C (b := 26) dK_d_165.1 fl_X11_86 sR_0 rfl rR_0_37 <|
    aw_iload (pc := 59) C (i := 9) dK_d_165.2.1 rfl <|
    aw_lald (pc := 61) C dK_d_165.2.2.1 sR_26 rfl <|
    aw_ladd (pc := 62) C dK_d_165.2.2.2.1 <|
    aw_lstoreV (pc := 63) C (i := 7) (fun x6 => [(0, .ref 0), (5, .long x5), (7, .long x6), (9, .int v9)]) dK_d_165.2.2.2.2.1 (by decide) (fun _ => rfl) fun x6 =>
    aw_iincV (pc := 65) C (i := 9) (cst := 1) (fun x7 => [(0, .ref 0), (5, .long x5), (7, .long x6), (9, .int x7)]) dK_d_165.2.2.2.2.2.1 rfl rfl (by decide) (fun _ => rfl) fun x7 =>
    aw_goto (pc := 68) C (tgt := 30) dK_d_165.2.2.2.2.2.2.1 rfl <|
    (ih x5 x6 x7 h))
def X11_moreFrom (v1 : Int32) (v2 : Int32) (v3 : Int32) (v4 : Int32) (h : AH) : Option (Int32 × AH) :=
    bd (X11_findLengths v1 v2 25 1000 h) fun _ h2 =>
    bd (X11_findLengths v3 v4 26 1000 h2) fun _ h4 =>
    X11_moreFrom_l30 FU 0 0 0 h4
set_option maxRecDepth 100000 in
theorem c_X11_moreFrom (l : Launch) (v1 : Int32) (v2 : Int32) (v3 : Int32) (v4 : Int32) : MC l yX11_moreFrom cX11_moreFrom 10 (some .int) rmX11_moreFrom ZR [.ref 0, .int v1, .int v2, .int v3, .int v4] rvI (X11_moreFrom v1 v2 v3 v4) :=
  MC.of (own := RX11) pn_RX11 rfl (Nat.le_of_ble_eq_true rfl) fun X yd A h _ C =>
    aw_aload_n (pc := 0) C (i := 0) dK_d_161.1 rfl rfl <|
    aw_iload_n (pc := 1) C (i := 1) dK_d_161.2.1 rfl rfl <|
    aw_iload_n (pc := 2) C (i := 2) dK_d_161.2.2.1 rfl rfl <|
    aw_aload_n (pc := 3) C (i := 0) dK_d_161.2.2.2.1 rfl rfl <|
    aw_getR (pc := 4) C (b := 25) dK_d_161.2.2.2.2.1 fl_X11_83 sR_0 rfl rR_0_36 <|
    aw_callF (pc := 7) C (cr_V (rest := []) (F := (X11_findLengths v1 v2 25 1000)) C (c_X11_findLengths X.2.1 v1 v2 25 1000 sR_25) dK_d_161.2.2.2.2.2.1 mf_X11_findLengths ml_X11_311 im_X11_findLengths se_X11_findLengths sR_0 rfl ⟨(Nat.le_of_ble_eq_true rfl), (Nat.le_of_ble_eq_true rfl)⟩ rfl rfl (Nat.le_of_ble_eq_true rfl)) rfl rfl rfl (Nat.zero_le _) (Nat.zero_le _) fun _ h2 =>
    aw_aload_n (pc := 10) C (i := 0) dK_d_161.2.2.2.2.2.2.1 rfl rfl <|
    aw_iload_n (pc := 11) C (i := 3) dK_d_161.2.2.2.2.2.2.2.1 rfl rfl <|
    aw_iload (pc := 12) C (i := 4) dK_d_162.1 rfl <|
    aw_aload_n (pc := 14) C (i := 0) dK_d_162.2.1 rfl rfl <|
    aw_getR (pc := 15) C (b := 26) dK_d_162.2.2.1 fl_X11_86 sR_0 rfl rR_0_37 <|
    aw_callF (pc := 18) C (cr_V (rest := []) (F := (X11_findLengths v3 v4 26 1000)) C (c_X11_findLengths X.2.1 v3 v4 26 1000 sR_26) dK_d_162.2.2.2.1 mf_X11_findLengths ml_X11_311 im_X11_findLengths se_X11_findLengths sR_0 rfl ⟨(Nat.le_of_ble_eq_true rfl), (Nat.le_of_ble_eq_true rfl)⟩ rfl rfl (Nat.le_of_ble_eq_true rfl)) rfl rfl rfl (Nat.zero_le _) (Nat.zero_le _) fun _ h4 =>
    aw_lconst (pc := 21) C (v := 0) dK_d_162.2.2.2.2.1 rfl <|
    aw_lstore (pc := 22) C (i := 5) (lv' := [(0, .ref 0), (1, .int v1), (2, .int v2), (3, .int v3), (4, .int v4), (5, .long 0)]) dK_d_162.2.2.2.2.2.1 (by decide) rfl <|
    aw_lconst (pc := 24) C (v := 0) dK_d_162.2.2.2.2.2.2.1 rfl <|
    aw_lstore (pc := 25) C (i := 7) (lv' := [(0, .ref 0), (1, .int v1), (2, .int v2), (3, .int v3), (4, .int v4), (5, .long 0), (7, .long 0)]) dK_d_162.2.2.2.2.2.2.2.1 (by decide) rfl <|
    aw_iconst (pc := 27) C (v := 0) dK_d_163.1 rfl <|
    aw_istore (pc := 28) C (i := 9) (lv' := [(0, .ref 0), (1, .int v1), (2, .int v2), (3, .int v3), (4, .int v4), (5, .long 0), (7, .long 0), (9, .int 0)]) dK_d_163.2.1 (by decide) rfl <|
    aw_drop [0, 5, 6, 7] (aX11_moreFrom_l30 C FU 0 0 0 h4)
end
section
abbrev rmX11_more : Room := { frames := 4, cells := 0, slots := 0, locals := 103 }
def X11_more (v1 : Int32) (v2 : Int32) (h : AH) : Option (Int32 × AH) :=
    bd (X11_areTwo v1 v2 h) fun r1 h2 =>
    if r1 = 0 then (bd (X11_no (-1) h2) fun r3 h4 =>
    some (r3, h4))
    else (bd (X11_placeOf v1 h2) fun r5 h6 =>
    bd (X11_placeOf v2 h6) fun r7 h8 =>
    bd (X11_moreFrom v1 r5 v2 r7 h8) fun r9 h10 =>
    some (r9, h10))
set_option maxRecDepth 100000 in
theorem c_X11_more (l : Launch) (v1 : Int32) (v2 : Int32) : MC l yX11_more cX11_more 3 (some .int) rmX11_more ZR [.ref 0, .int v1, .int v2] rvI (X11_more v1 v2) :=
  MC.of (own := RX11) pn_RX11 rfl (Nat.le_of_ble_eq_true rfl) fun X yd A h _ C =>
    aw_aload_n (pc := 0) C (i := 0) dK_d_167.1 rfl rfl <|
    aw_iload_n (pc := 1) C (i := 1) dK_d_167.2.1 rfl rfl <|
    aw_iload_n (pc := 2) C (i := 2) dK_d_167.2.2.1 rfl rfl <|
    aw_callF (pc := 3) C (cr_V (rest := []) (F := (X11_areTwo v1 v2)) C (c_X11_areTwo X.2.1 v1 v2) dK_d_167.2.2.2.1 mf_X11_areTwo ml_X11_315 im_X11_areTwo se_X11_areTwo sR_0 rfl ⟨(Nat.le_of_ble_eq_true rfl), (Nat.le_of_ble_eq_true rfl)⟩ rfl rfl (Nat.le_of_ble_eq_true rfl)) rfl rfl rfl (Nat.zero_le _) (Nat.zero_le _) fun r1 h2 =>
    aw_if_eq (pc := 6) C (tgt := 28) dK_d_167.2.2.2.2.1 rfl (fun _ =>
    aw_aload_n (pc := 28) C (i := 0) dK_d_169.1 rfl rfl <|
    aw_iconst (pc := 29) C (v := (-1)) dK_d_169.2.1 rfl <|
    aw_callF (pc := 30) C (cr_V (rest := []) (F := (X11_no (-1))) C (c_X11_no X.2.1 (-1)) dK_d_169.2.2.1 mf_X11_no ml_X11_115 im_X11_no se_X11_no sR_0 rfl ⟨(Nat.le_of_ble_eq_true rfl), (Nat.le_of_ble_eq_true rfl)⟩ rfl rfl (Nat.le_of_ble_eq_true rfl)) rfl rfl rfl (Nat.zero_le _) (Nat.zero_le _) fun r3 h4 =>
    aw_iret (pc := 33) C dK_d_169.2.2.2.1 rfl rfl) (fun _ =>
    aw_aload_n (pc := 9) C (i := 0) dK_d_167.2.2.2.2.2.1 rfl rfl <|
    aw_iload_n (pc := 10) C (i := 1) dK_d_167.2.2.2.2.2.2.1 rfl rfl <|
    aw_aload_n (pc := 11) C (i := 0) dK_d_167.2.2.2.2.2.2.2.1 rfl rfl <|
    aw_iload_n (pc := 12) C (i := 1) dK_d_168.1 rfl rfl <|
    aw_callF (pc := 13) C (cr_V (rest := [.int v1, .ref 0]) (F := (X11_placeOf v1)) C (c_X11_placeOf X.2.1 v1) dK_d_168.2.1 mf_X11_placeOf ml_X11_223 im_X11_placeOf se_X11_placeOf sR_0 rfl ⟨(Nat.le_of_ble_eq_true rfl), (Nat.le_of_ble_eq_true rfl)⟩ rfl rfl (Nat.le_of_ble_eq_true rfl)) rfl rfl rfl (Nat.zero_le _) (Nat.zero_le _) fun r5 h6 =>
    aw_iload_n (pc := 16) C (i := 2) dK_d_168.2.2.1 rfl rfl <|
    aw_aload_n (pc := 17) C (i := 0) dK_d_168.2.2.2.1 rfl rfl <|
    aw_iload_n (pc := 18) C (i := 2) dK_d_168.2.2.2.2.1 rfl rfl <|
    aw_callF (pc := 19) C (cr_V (rest := [.int v2, .int r5, .int v1, .ref 0]) (F := (X11_placeOf v2)) C (c_X11_placeOf X.2.1 v2) dK_d_168.2.2.2.2.2.1 mf_X11_placeOf ml_X11_223 im_X11_placeOf se_X11_placeOf sR_0 rfl ⟨(Nat.le_of_ble_eq_true rfl), (Nat.le_of_ble_eq_true rfl)⟩ rfl rfl (Nat.le_of_ble_eq_true rfl)) rfl rfl rfl (Nat.zero_le _) (Nat.zero_le _) fun r7 h8 =>
    aw_callF (pc := 22) C (cr_V (rest := []) (F := (X11_moreFrom v1 r5 v2 r7)) C (c_X11_moreFrom X.2.1 v1 r5 v2 r7) dK_d_168.2.2.2.2.2.2.1 mf_X11_moreFrom ml_X11_318 im_X11_moreFrom se_X11_moreFrom sR_0 rfl ⟨(Nat.le_of_ble_eq_true rfl), (Nat.le_of_ble_eq_true rfl)⟩ rfl rfl (Nat.le_of_ble_eq_true rfl)) rfl rfl rfl (Nat.zero_le _) (Nat.zero_le _) fun r9 h10 =>
    aw_goto (pc := 25) C (tgt := 33) dK_d_168.2.2.2.2.2.2.2.1 rfl <|
    aw_iret (pc := 33) C dK_d_169.2.2.2.1 rfl rfl)

abbrev rmX11_rests : Room := { frames := 0, cells := 0, slots := 0, locals := 0 }
def X11_rests_l2  (v1 : Int32) : Nat → Int32 → AH → Option (Int32 × AH)
  | 0, _, _ => none
  | n + 1, v2, h =>
    if 3 ≤ v2 then (cz 1 (some (1, h)))
    else (ck ((3 * v2) + (rm32 v1 3)) 9 (ck v1 9 (if (h.1 27 v1.toNatClampNeg) < (h.1 27 ((3 * v2) + (rm32 v1 3)).toNatClampNeg) then (cz 0 (some (0, h)))
    else (ck (((v1 / 3) * 3) + v2) 9 (ck v1 9 (if (h.1 27 v1.toNatClampNeg) ≤ (h.1 27 (((v1 / 3) * 3) + v2).toNatClampNeg) then (vl (v2 + 1) fun x1 =>
    (X11_rests_l2 v1 n) x1 h)
    else (cz 0 (some (0, h)))))))))
set_option maxRecDepth 100000 in
theorem aX11_rests_l2 {X : MCx} {yd : Dyn} {A : Nat → Prop} (C : OK X cX11_rests RX11 3 (some .boolean) rmX11_rests A)  (v1 : Int32) : ∀ (n : Nat) (v2 : Int32) (h : AH), AW X 3 ZR yd A 0 0 (QF X rmX11_rests ZR yd rvI A) 2 [(0, .ref 0), (1, .int v1), (2, .int v2)] [] h (X11_rests_l2 v1 n v2 h) := by
  intro n
  induction n with
  | zero => intro v2 h; exact aw_none
  | succ n ih =>
    intro v2 h
    exact aw_iload_n (pc := 2) C (i := 2) dK_d_170.2.2.1 rfl rfl <|
    aw_iconst (pc := 3) C (v := 3) dK_d_170.2.2.2.1 rfl <|
    aw_icmp_ge (pc := 4) C (tgt := 57) dK_d_170.2.2.2.2.1 rfl (fun _ =>
    aw_iconst (pc := 57) C (v := 1) dK_d_174.2.2.2.2.2.2.2.1 rfl <|
    aw_zret (pc := 58) C dK_d_175.1 rfl rfl) (fun _ =>
    aw_aload_n (pc := 7) C (i := 0) dK_d_170.2.2.2.2.2.1 rfl rfl <|
    aw_getR (pc := 8) C (b := 27) dK_d_170.2.2.2.2.2.2.1 fl_X11_89 sR_0 rfl rR_0_38 <|
    aw_iconst (pc := 11) C (v := 3) dK_d_170.2.2.2.2.2.2.2.1 rfl <|
    aw_iload_n (pc := 12) C (i := 2) dK_d_171.1 rfl rfl <|
    aw_imul (pc := 13) C dK_d_171.2.1 <|
    aw_iload_n (pc := 14) C (i := 1) dK_d_171.2.2.1 rfl rfl <|
    aw_iconst (pc := 15) C (v := 3) dK_d_171.2.2.2.1 rfl <|
    aw_iremK (pc := 16) C dK_d_171.2.2.2.2.1 (by decide) <|
    aw_iadd (pc := 17) C dK_d_171.2.2.2.2.2.1 <|
    aw_iald (pc := 18) C dK_d_171.2.2.2.2.2.2.1 sR_27 rfl <|
    aw_aload_n (pc := 19) C (i := 0) dK_d_171.2.2.2.2.2.2.2.1 rfl rfl <|
    aw_getR (pc := 20) C (b := 27) dK_d_172.1 fl_X11_89 sR_0 rfl rR_0_38 <|
    aw_iload_n (pc := 23) C (i := 1) dK_d_172.2.1 rfl rfl <|
    aw_iald (pc := 24) C dK_d_172.2.2.1 sR_27 rfl <|
    aw_icmp_gt (pc := 25) C (tgt := 49) dK_d_172.2.2.2.1 rfl (fun _ =>
    aw_iconst (pc := 49) C (v := 0) dK_d_174.2.2.2.1 rfl <|
    aw_zret (pc := 50) C dK_d_174.2.2.2.2.1 rfl rfl) (fun _ =>
    aw_aload_n (pc := 28) C (i := 0) dK_d_172.2.2.2.2.1 rfl rfl <|
    aw_getR (pc := 29) C (b := 27) dK_d_172.2.2.2.2.2.1 fl_X11_89 sR_0 rfl rR_0_38 <|
    aw_iload_n (pc := 32) C (i := 1) dK_d_172.2.2.2.2.2.2.1 rfl rfl <|
    aw_iconst (pc := 33) C (v := 3) dK_d_172.2.2.2.2.2.2.2.1 rfl <|
    aw_idivK (pc := 34) C dK_d_173.1 (by decide) <|
    aw_iconst (pc := 35) C (v := 3) dK_d_173.2.1 rfl <|
    aw_imul (pc := 36) C dK_d_173.2.2.1 <|
    aw_iload_n (pc := 37) C (i := 2) dK_d_173.2.2.2.1 rfl rfl <|
    aw_iadd (pc := 38) C dK_d_173.2.2.2.2.1 <|
    aw_iald (pc := 39) C dK_d_173.2.2.2.2.2.1 sR_27 rfl <|
    aw_aload_n (pc := 40) C (i := 0) dK_d_173.2.2.2.2.2.2.1 rfl rfl <|
    aw_getR (pc := 41) C (b := 27) dK_d_173.2.2.2.2.2.2.2.1 fl_X11_89 sR_0 rfl rR_0_38 <|
    aw_iload_n (pc := 44) C (i := 1) dK_d_174.1 rfl rfl <|
    aw_iald (pc := 45) C dK_d_174.2.1 sR_27 rfl <|
    aw_icmp_ge (pc := 46) C (tgt := 51) dK_d_174.2.2.1 rfl (fun _ =>
    aw_iincV (pc := 51) C (i := 2) (cst := 1) (fun x1 => [(0, .ref 0), (1, .int v1), (2, .int x1)]) dK_d_174.2.2.2.2.2.1 rfl rfl (by decide) (fun _ => rfl) fun x1 =>
    aw_goto (pc := 54) C (tgt := 2) dK_d_174.2.2.2.2.2.2.1 rfl <|
    (ih x1 h)) (fun _ =>
    aw_iconst (pc := 49) C (v := 0) dK_d_174.2.2.2.1 rfl <|
    aw_zret (pc := 50) C dK_d_174.2.2.2.2.1 rfl rfl)))
def X11_rests (v1 : Int32) (h : AH) : Option (Int32 × AH) :=
    X11_rests_l2 v1 FU 0 h
set_option maxRecDepth 100000 in
theorem c_X11_rests (l : Launch) (v1 : Int32) : MC l yX11_rests cX11_rests 3 (some .boolean) rmX11_rests ZR [.ref 0, .int v1] rvI (X11_rests v1) :=
  MC.of (own := RX11) pn_RX11 rfl (Nat.le_of_ble_eq_true rfl) fun X yd A h _ C =>
    aw_iconst (pc := 0) C (v := 0) dK_d_170.1 rfl <|
    aw_istore_n (pc := 1) C (i := 2) (lv' := [(0, .ref 0), (1, .int v1), (2, .int 0)]) dK_d_170.2.1 rfl (by decide) rfl <|
    (aX11_rests_l2 C v1 FU 0 h)

abbrev rmX11_sureMore : Room := { frames := 0, cells := 0, slots := 0, locals := 0 }
def X11_sureMore_j69  (v2 : Int32) (K4 : Int32 → Int32 → AH → Option (Int32 × AH)) (s0 : Int32) (h : AH) : Option (Int32 × AH) :=
    vl (v2 + 1) fun x1 =>
    K4 s0 x1 h
set_option maxRecDepth 100000 in
theorem aX11_sureMore_j69 {X : MCx} {yd : Dyn} {A : Nat → Prop} (C : OK X cX11_sureMore RX11 5 (some .int) rmX11_sureMore A)  (v2 : Int32) (K4 : Int32 → Int32 → AH → Option (Int32 × AH)) (hK4 : ∀ (w1 : Int32) (w2 : Int32) (h : AH), AW X 5 ZR yd A 0 0 (QF X rmX11_sureMore ZR yd rvI A) 4 [(0, .ref 0), (1, .int w1), (2, .int w2)] [] h (K4 w1 w2 h)) (s0 : Int32) (h : AH) : AW X 5 ZR yd A 0 0 (QF X rmX11_sureMore ZR yd rvI A) 69 [(0, .ref 0), (2, .int v2)] [.int s0] h (X11_sureMore_j69 v2 K4 s0 h) := by
    exact aw_istore_n (pc := 69) C (i := 1) (lv' := [(0, .ref 0), (1, .int s0), (2, .int v2)]) dK_d_181.2.2.2.1 rfl (by decide) rfl <|
    aw_iincV (pc := 70) C (i := 2) (cst := 1) (fun x1 => [(0, .ref 0), (1, .int s0), (2, .int x1)]) dK_d_181.2.2.2.2.1 rfl rfl (by decide) (fun _ => rfl) fun x1 =>
    aw_goto (pc := 73) C (tgt := 4) dK_d_181.2.2.2.2.2.1 rfl <|
    (hK4 s0 x1 h)
def X11_sureMore_j52  (v1 : Int32) (v2 : Int32) (v4 : Int32) (K4 : Int32 → Int32 → AH → Option (Int32 × AH)) (K16 : Int32 → Int32 → AH → Option (Int32 × AH)) (s0 : Int32) (h : AH) : Option (Int32 × AH) :=
    vl (v4 + 1) fun x2 =>
    K16 s0 x2 h
set_option maxRecDepth 100000 in
theorem aX11_sureMore_j52 {X : MCx} {yd : Dyn} {A : Nat → Prop} (C : OK X cX11_sureMore RX11 5 (some .int) rmX11_sureMore A)  (v1 : Int32) (v2 : Int32) (v4 : Int32) (K4 : Int32 → Int32 → AH → Option (Int32 × AH)) (hK4 : ∀ (w1 : Int32) (w2 : Int32) (h : AH), AW X 5 ZR yd A 0 0 (QF X rmX11_sureMore ZR yd rvI A) 4 [(0, .ref 0), (1, .int w1), (2, .int w2)] [] h (K4 w1 w2 h)) (K16 : Int32 → Int32 → AH → Option (Int32 × AH)) (hK16 : ∀ (w3 : Int32) (w4 : Int32) (h : AH), AW X 5 ZR yd A 0 0 (QF X rmX11_sureMore ZR yd rvI A) 16 [(0, .ref 0), (1, .int v1), (2, .int v2), (3, .int w3), (4, .int w4)] [] h (K16 w3 w4 h)) (s0 : Int32) (h : AH) : AW X 5 ZR yd A 0 0 (QF X rmX11_sureMore ZR yd rvI A) 52 [(0, .ref 0), (1, .int v1), (2, .int v2), (4, .int v4)] [.int s0] h (X11_sureMore_j52 v1 v2 v4 K4 K16 s0 h) := by
    exact aw_istore_n (pc := 52) C (i := 3) (lv' := [(0, .ref 0), (1, .int v1), (2, .int v2), (3, .int s0), (4, .int v4)]) dK_d_180.2.2.1 rfl (by decide) rfl <|
    aw_iincV (pc := 53) C (i := 4) (cst := 1) (fun x2 => [(0, .ref 0), (1, .int v1), (2, .int v2), (3, .int s0), (4, .int x2)]) dK_d_180.2.2.2.1 rfl rfl (by decide) (fun _ => rfl) fun x2 =>
    aw_goto (pc := 56) C (tgt := 16) dK_d_180.2.2.2.2.1 rfl <|
    (hK16 s0 x2 h)
def X11_sureMore_l16  (v1 : Int32) (v2 : Int32) (K4 : Int32 → Int32 → AH → Option (Int32 × AH)) : Nat → Int32 → Int32 → AH → Option (Int32 × AH)
  | 0, _, _, _ => none
  | n + 1, v3, v4, h =>
    if 3 ≤ v4 then (if v3 ≤ v1 then (X11_sureMore_j69 v2 K4 v1 h)
    else (X11_sureMore_j69 v2 K4 v3 h))
    else (ck ((3 * v2) + v4) 9 (if v3 ≤ (h.1 27 ((3 * v2) + v4).toNatClampNeg) then (X11_sureMore_j52 v1 v2 v4 K4 (X11_sureMore_l16 v1 v2 K4 n) v3 h)
    else (ck ((3 * v2) + v4) 9 (X11_sureMore_j52 v1 v2 v4 K4 (X11_sureMore_l16 v1 v2 K4 n) (h.1 27 ((3 * v2) + v4).toNatClampNeg) h))))
set_option maxRecDepth 100000 in
theorem aX11_sureMore_l16 {X : MCx} {yd : Dyn} {A : Nat → Prop} (C : OK X cX11_sureMore RX11 5 (some .int) rmX11_sureMore A)  (v1 : Int32) (v2 : Int32) (K4 : Int32 → Int32 → AH → Option (Int32 × AH)) (hK4 : ∀ (w1 : Int32) (w2 : Int32) (h : AH), AW X 5 ZR yd A 0 0 (QF X rmX11_sureMore ZR yd rvI A) 4 [(0, .ref 0), (1, .int w1), (2, .int w2)] [] h (K4 w1 w2 h)) : ∀ (n : Nat) (v3 : Int32) (v4 : Int32) (h : AH), AW X 5 ZR yd A 0 0 (QF X rmX11_sureMore ZR yd rvI A) 16 [(0, .ref 0), (1, .int v1), (2, .int v2), (3, .int v3), (4, .int v4)] [] h (X11_sureMore_l16 v1 v2 K4 n v3 v4 h) := by
  intro n
  induction n with
  | zero => intro v3 v4 h; exact aw_none
  | succ n ih =>
    intro v3 v4 h
    exact aw_iload (pc := 16) C (i := 4) dK_d_177.2.2.2.1 rfl <|
    aw_iconst (pc := 18) C (v := 3) dK_d_177.2.2.2.2.1 rfl <|
    aw_icmp_ge (pc := 19) C (tgt := 59) dK_d_177.2.2.2.2.2.1 rfl (fun _ =>
    aw_iload_n (pc := 59) C (i := 3) dK_d_180.2.2.2.2.2.1 rfl rfl <|
    aw_iload_n (pc := 60) C (i := 1) dK_d_180.2.2.2.2.2.2.1 rfl rfl <|
    aw_icmp_le (pc := 61) C (tgt := 68) dK_d_180.2.2.2.2.2.2.2.1 rfl (fun _ =>
    aw_iload_n (pc := 68) C (i := 1) dK_d_181.2.2.1 rfl rfl <|
    aw_drop [0, 2] (aX11_sureMore_j69 C v2 K4 hK4 v1 h)) (fun _ =>
    aw_iload_n (pc := 64) C (i := 3) dK_d_181.1 rfl rfl <|
    aw_goto (pc := 65) C (tgt := 69) dK_d_181.2.1 rfl <|
    aw_drop [0, 2] (aX11_sureMore_j69 C v2 K4 hK4 v3 h))) (fun _ =>
    aw_aload_n (pc := 22) C (i := 0) dK_d_177.2.2.2.2.2.2.1 rfl rfl <|
    aw_getR (pc := 23) C (b := 27) dK_d_177.2.2.2.2.2.2.2.1 fl_X11_89 sR_0 rfl rR_0_38 <|
    aw_iconst (pc := 26) C (v := 3) dK_d_178.1 rfl <|
    aw_iload_n (pc := 27) C (i := 2) dK_d_178.2.1 rfl rfl <|
    aw_imul (pc := 28) C dK_d_178.2.2.1 <|
    aw_iload (pc := 29) C (i := 4) dK_d_178.2.2.2.1 rfl <|
    aw_iadd (pc := 31) C dK_d_178.2.2.2.2.1 <|
    aw_iald (pc := 32) C dK_d_178.2.2.2.2.2.1 sR_27 rfl <|
    aw_iload_n (pc := 33) C (i := 3) dK_d_178.2.2.2.2.2.2.1 rfl rfl <|
    aw_icmp_ge (pc := 34) C (tgt := 51) dK_d_178.2.2.2.2.2.2.2.1 rfl (fun _ =>
    aw_iload_n (pc := 51) C (i := 3) dK_d_180.2.1 rfl rfl <|
    aw_drop [0, 1, 2, 4] (aX11_sureMore_j52 C v1 v2 v4 K4 hK4 (X11_sureMore_l16 v1 v2 K4 n) ih v3 h)) (fun _ =>
    aw_aload_n (pc := 37) C (i := 0) dK_d_179.1 rfl rfl <|
    aw_getR (pc := 38) C (b := 27) dK_d_179.2.1 fl_X11_89 sR_0 rfl rR_0_38 <|
    aw_iconst (pc := 41) C (v := 3) dK_d_179.2.2.1 rfl <|
    aw_iload_n (pc := 42) C (i := 2) dK_d_179.2.2.2.1 rfl rfl <|
    aw_imul (pc := 43) C dK_d_179.2.2.2.2.1 <|
    aw_iload (pc := 44) C (i := 4) dK_d_179.2.2.2.2.2.1 rfl <|
    aw_iadd (pc := 46) C dK_d_179.2.2.2.2.2.2.1 <|
    aw_iald (pc := 47) C dK_d_179.2.2.2.2.2.2.2.1 sR_27 rfl <|
    aw_goto (pc := 48) C (tgt := 52) dK_d_180.1 rfl <|
    aw_drop [0, 1, 2, 4] (aX11_sureMore_j52 C v1 v2 v4 K4 hK4 (X11_sureMore_l16 v1 v2 K4 n) ih (h.1 27 ((3 * v2) + v4).toNatClampNeg) h)))
def X11_sureMore_l4  : Nat → Int32 → Int32 → AH → Option (Int32 × AH)
  | 0, _, _, _ => none
  | n + 1, v1, v2, h =>
    if 3 ≤ v2 then (some (v1, h))
    else (X11_sureMore_l16 v1 v2 (X11_sureMore_l4 n) FU 10000 0 h)
set_option maxRecDepth 100000 in
theorem aX11_sureMore_l4 {X : MCx} {yd : Dyn} {A : Nat → Prop} (C : OK X cX11_sureMore RX11 5 (some .int) rmX11_sureMore A)  : ∀ (n : Nat) (v1 : Int32) (v2 : Int32) (h : AH), AW X 5 ZR yd A 0 0 (QF X rmX11_sureMore ZR yd rvI A) 4 [(0, .ref 0), (1, .int v1), (2, .int v2)] [] h (X11_sureMore_l4 n v1 v2 h) := by
  intro n
  induction n with
  | zero => intro v1 v2 h; exact aw_none
  | succ n ih =>
    intro v1 v2 h
    exact aw_iload_n (pc := 4) C (i := 2) dK_d_176.2.2.2.2.1 rfl rfl <|
    aw_iconst (pc := 5) C (v := 3) dK_d_176.2.2.2.2.2.1 rfl <|
    aw_icmp_ge (pc := 6) C (tgt := 76) dK_d_176.2.2.2.2.2.2.1 rfl (fun _ =>
    aw_iload_n (pc := 76) C (i := 1) dK_d_181.2.2.2.2.2.2.1 rfl rfl <|
    aw_iret (pc := 77) C dK_d_181.2.2.2.2.2.2.2.1 rfl rfl) (fun _ =>
    aw_sipush (pc := 9) C (v := 10000) dK_d_176.2.2.2.2.2.2.2.1 rfl <|
    aw_istore_n (pc := 12) C (i := 3) (lv' := [(0, .ref 0), (1, .int v1), (2, .int v2), (3, .int 10000)]) dK_d_177.1 rfl (by decide) rfl <|
    aw_iconst (pc := 13) C (v := 0) dK_d_177.2.1 rfl <|
    aw_istore (pc := 14) C (i := 4) (lv' := [(0, .ref 0), (1, .int v1), (2, .int v2), (3, .int 10000), (4, .int 0)]) dK_d_177.2.2.1 (by decide) rfl <|
    (aX11_sureMore_l16 C v1 v2 (X11_sureMore_l4 n) ih FU 10000 0 h))
def X11_sureMore  (h : AH) : Option (Int32 × AH) :=
    X11_sureMore_l4 FU 0 0 h
set_option maxRecDepth 100000 in
theorem c_X11_sureMore (l : Launch)  : MC l yX11_sureMore cX11_sureMore 5 (some .int) rmX11_sureMore ZR [.ref 0] rvI (X11_sureMore) :=
  MC.of (own := RX11) pn_RX11 rfl (Nat.le_of_ble_eq_true rfl) fun X yd A h _ C =>
    aw_iconst (pc := 0) C (v := 0) dK_d_176.1 rfl <|
    aw_istore_n (pc := 1) C (i := 1) (lv' := [(0, .ref 0), (1, .int 0)]) dK_d_176.2.1 rfl (by decide) rfl <|
    aw_iconst (pc := 2) C (v := 0) dK_d_176.2.2.1 rfl <|
    aw_istore_n (pc := 3) C (i := 2) (lv' := [(0, .ref 0), (1, .int 0), (2, .int 0)]) dK_d_176.2.2.2.1 rfl (by decide) rfl <|
    (aX11_sureMore_l4 C FU 0 0 h)

abbrev rmX11_duel : Room := { frames := 4, cells := 0, slots := 0, locals := 103 }
def X11_duel_l98  (v3 : Int32) : Nat → Int32 → AH → Option (Int32 × AH)
  | 0, _, _ => none
  | n + 1, v5, h =>
    if 9 ≤ v5 then (some ((-9), h))
    else (bd (X11_rests v5 h) fun r5 h6 =>
    if r5 = 0 then (vl (v5 + 1) fun x7 =>
    (X11_duel_l98 v3 n) x7 h6)
    else (if v3 = 0 then (some (((10 * (v5 / 3)) + (rm32 v5 3)), h6))
    else (ck v5 9 (some ((h6.1 27 v5.toNatClampNeg), h6)))))
set_option maxRecDepth 100000 in
theorem aX11_duel_l98 {X : MCx} {yd : Dyn} {A : Nat → Prop} (C : OK X cX11_duel RX11 6 (some .int) rmX11_duel A)  (v3 : Int32) : ∀ (n : Nat) (v5 : Int32) (h : AH), AW X 6 ZR yd A 0 0 (QF X rmX11_duel ZR yd rvI A) 98 [(0, .ref 0), (3, .int v3), (5, .int v5)] [] h (X11_duel_l98 v3 n v5 h) := by
  intro n
  induction n with
  | zero => intro v5 h; exact aw_none
  | succ n ih =>
    intro v5 h
    exact aw_iload (pc := 98) C (i := 5) dK_d_188.2.2.2.2.2.2.2.1 rfl <|
    aw_bipush (pc := 100) C (v := 9) dK_d_189.1 rfl <|
    aw_icmp_ge (pc := 102) C (tgt := 147) dK_d_189.2.1 rfl (fun _ =>
    aw_bipush (pc := 147) C (v := (-9)) dK_d_192.2.1 rfl <|
    aw_iret (pc := 149) C dK_d_192.2.2.1 rfl rfl) (fun _ =>
    aw_aload_n (pc := 105) C (i := 0) dK_d_189.2.2.1 rfl rfl <|
    aw_iload (pc := 106) C (i := 5) dK_d_189.2.2.2.1 rfl <|
    aw_callF (pc := 108) C (cr_V (rest := []) (F := (X11_rests v5)) C (c_X11_rests X.2.1 v5) dK_d_189.2.2.2.2.1 mf_X11_rests ml_X11_324 im_X11_rests se_X11_rests sR_0 rfl ⟨(Nat.le_of_ble_eq_true rfl), (Nat.le_of_ble_eq_true rfl)⟩ rfl rfl (Nat.le_of_ble_eq_true rfl)) rfl rfl rfl (Nat.zero_le _) (Nat.zero_le _) fun r5 h6 =>
    aw_if_eq (pc := 111) C (tgt := 141) dK_d_189.2.2.2.2.2.1 rfl (fun _ =>
    aw_iincV (pc := 141) C (i := 5) (cst := 1) (fun x7 => [(0, .ref 0), (3, .int v3), (5, .int x7)]) dK_d_191.2.2.2.2.2.2.2.1 rfl rfl (by decide) (fun _ => rfl) fun x7 =>
    aw_goto (pc := 144) C (tgt := 98) dK_d_192.1 rfl <|
    (ih x7 h6)) (fun _ =>
    aw_iload_n (pc := 114) C (i := 3) dK_d_189.2.2.2.2.2.2.1 rfl rfl <|
    aw_if_ne (pc := 115) C (tgt := 133) dK_d_189.2.2.2.2.2.2.2.1 rfl (fun _ =>
    aw_bipush (pc := 118) C (v := 10) dK_d_190.1 rfl <|
    aw_iload (pc := 120) C (i := 5) dK_d_190.2.1 rfl <|
    aw_iconst (pc := 122) C (v := 3) dK_d_190.2.2.1 rfl <|
    aw_idivK (pc := 123) C dK_d_190.2.2.2.1 (by decide) <|
    aw_imul (pc := 124) C dK_d_190.2.2.2.2.1 <|
    aw_iload (pc := 125) C (i := 5) dK_d_190.2.2.2.2.2.1 rfl <|
    aw_iconst (pc := 127) C (v := 3) dK_d_190.2.2.2.2.2.2.1 rfl <|
    aw_iremK (pc := 128) C dK_d_190.2.2.2.2.2.2.2.1 (by decide) <|
    aw_iadd (pc := 129) C dK_d_191.1 <|
    aw_goto (pc := 130) C (tgt := 140) dK_d_191.2.1 rfl <|
    aw_iret (pc := 140) C dK_d_191.2.2.2.2.2.2.1 rfl rfl) (fun _ =>
    aw_aload_n (pc := 133) C (i := 0) dK_d_191.2.2.1 rfl rfl <|
    aw_getR (pc := 134) C (b := 27) dK_d_191.2.2.2.1 fl_X11_89 sR_0 rfl rR_0_38 <|
    aw_iload (pc := 137) C (i := 5) dK_d_191.2.2.2.2.1 rfl <|
    aw_iald (pc := 139) C dK_d_191.2.2.2.2.2.1 sR_27 rfl <|
    aw_iret (pc := 140) C dK_d_191.2.2.2.2.2.2.1 rfl rfl)))
def X11_duel_l45  (v1 : Int32) (v2 : Int32) (v3 : Int32) : Nat → Int32 → AH → Option (Int32 × AH)
  | 0, _, _ => none
  | n + 1, v5, h =>
    if 9 ≤ v5 then (if v3 = 2 then (bd (X11_sureMore h) fun r8 h9 =>
    some (r8, h9))
    else (X11_duel_l98 v3 FU 0 h))
    else (bd (X11_moreFrom v1 (6 * (v5 / 3)) v2 (6 * (rm32 v5 3)) h) fun r10 h11 =>
    ck v5 9 (vl (sI h11 27 v5.toNatClampNeg r10) fun h12 =>
    vl (v5 + 1) fun x13 =>
    (X11_duel_l45 v1 v2 v3 n) x13 h12))
set_option maxRecDepth 100000 in
theorem aX11_duel_l45 {X : MCx} {yd : Dyn} {A : Nat → Prop} (C : OK X cX11_duel RX11 6 (some .int) rmX11_duel A)  (v1 : Int32) (v2 : Int32) (v3 : Int32) : ∀ (n : Nat) (v5 : Int32) (h : AH), AW X 6 ZR yd A 0 0 (QF X rmX11_duel ZR yd rvI A) 45 [(0, .ref 0), (1, .int v1), (2, .int v2), (3, .int v3), (5, .int v5)] [] h (X11_duel_l45 v1 v2 v3 n v5 h) := by
  intro n
  induction n with
  | zero => intro v5 h; exact aw_none
  | succ n ih =>
    intro v5 h
    exact aw_iload (pc := 45) C (i := 5) dK_d_185.1 rfl <|
    aw_bipush (pc := 47) C (v := 9) dK_d_185.2.1 rfl <|
    aw_icmp_ge (pc := 49) C (tgt := 85) dK_d_185.2.2.1 rfl (fun _ =>
    aw_iload_n (pc := 85) C (i := 3) dK_d_187.2.2.2.2.2.2.2.1 rfl rfl <|
    aw_iconst (pc := 86) C (v := 2) dK_d_188.1 rfl <|
    aw_icmp_ne (pc := 87) C (tgt := 95) dK_d_188.2.1 rfl (fun _ =>
    aw_aload_n (pc := 90) C (i := 0) dK_d_188.2.2.1 rfl rfl <|
    aw_callF (pc := 91) C (cr_V (rest := []) (F := X11_sureMore) C (c_X11_sureMore X.2.1 ) dK_d_188.2.2.2.1 mf_X11_sureMore ml_X11_321 im_X11_sureMore se_X11_sureMore sR_0 rfl ⟨(Nat.le_of_ble_eq_true rfl), (Nat.le_of_ble_eq_true rfl)⟩ rfl rfl (Nat.le_of_ble_eq_true rfl)) rfl rfl rfl (Nat.zero_le _) (Nat.zero_le _) fun r8 h9 =>
    aw_iret (pc := 94) C dK_d_188.2.2.2.2.1 rfl rfl) (fun _ =>
    aw_iconst (pc := 95) C (v := 0) dK_d_188.2.2.2.2.2.1 rfl <|
    aw_istore (pc := 96) C (i := 5) (lv' := [(0, .ref 0), (1, .int v1), (2, .int v2), (3, .int v3), (5, .int 0)]) dK_d_188.2.2.2.2.2.2.1 (by decide) rfl <|
    aw_drop [0, 3, 4] (aX11_duel_l98 C v3 FU 0 h))) (fun _ =>
    aw_aload_n (pc := 52) C (i := 0) dK_d_185.2.2.2.1 rfl rfl <|
    aw_getR (pc := 53) C (b := 27) dK_d_185.2.2.2.2.1 fl_X11_89 sR_0 rfl rR_0_38 <|
    aw_iload (pc := 56) C (i := 5) dK_d_185.2.2.2.2.2.1 rfl <|
    aw_aload_n (pc := 58) C (i := 0) dK_d_185.2.2.2.2.2.2.1 rfl rfl <|
    aw_iload_n (pc := 59) C (i := 1) dK_d_185.2.2.2.2.2.2.2.1 rfl rfl <|
    aw_bipush (pc := 60) C (v := 6) dK_d_186.1 rfl <|
    aw_iload (pc := 62) C (i := 5) dK_d_186.2.1 rfl <|
    aw_iconst (pc := 64) C (v := 3) dK_d_186.2.2.1 rfl <|
    aw_idivK (pc := 65) C dK_d_186.2.2.2.1 (by decide) <|
    aw_imul (pc := 66) C dK_d_186.2.2.2.2.1 <|
    aw_iload_n (pc := 67) C (i := 2) dK_d_186.2.2.2.2.2.1 rfl rfl <|
    aw_bipush (pc := 68) C (v := 6) dK_d_186.2.2.2.2.2.2.1 rfl <|
    aw_iload (pc := 70) C (i := 5) dK_d_186.2.2.2.2.2.2.2.1 rfl <|
    aw_iconst (pc := 72) C (v := 3) dK_d_187.1 rfl <|
    aw_iremK (pc := 73) C dK_d_187.2.1 (by decide) <|
    aw_imul (pc := 74) C dK_d_187.2.2.1 <|
    aw_callF (pc := 75) C (cr_V (rest := [.int v5, .ref 27]) (F := (X11_moreFrom v1 (6 * (v5 / 3)) v2 (6 * (rm32 v5 3)))) C (c_X11_moreFrom X.2.1 v1 (6 * (v5 / 3)) v2 (6 * (rm32 v5 3))) dK_d_187.2.2.2.1 mf_X11_moreFrom ml_X11_318 im_X11_moreFrom se_X11_moreFrom sR_0 rfl ⟨(Nat.le_of_ble_eq_true rfl), (Nat.le_of_ble_eq_true rfl)⟩ rfl rfl (Nat.le_of_ble_eq_true rfl)) rfl rfl rfl (Nat.zero_le _) (Nat.zero_le _) fun r10 h11 =>
    aw_iast (pc := 78) C dK_d_187.2.2.2.2.1 sR_27 rfl fun h12 =>
    aw_iincV (pc := 79) C (i := 5) (cst := 1) (fun x13 => [(0, .ref 0), (1, .int v1), (2, .int v2), (3, .int v3), (5, .int x13)]) dK_d_187.2.2.2.2.2.1 rfl rfl (by decide) (fun _ => rfl) fun x13 =>
    aw_goto (pc := 82) C (tgt := 45) dK_d_187.2.2.2.2.2.2.1 rfl <|
    (ih x13 h12))
def X11_duel_j28  (v1 : Int32) (v2 : Int32) (v3 : Int32) (s0 : Int32) (h : AH) : Option (Int32 × AH) :=
    if s0 = 0 then (X11_duel_l45 v1 v2 v3 FU 0 h)
    else (bd (X11_no s0 h) fun r14 h15 =>
    some (r14, h15))
set_option maxRecDepth 100000 in
theorem aX11_duel_j28 {X : MCx} {yd : Dyn} {A : Nat → Prop} (C : OK X cX11_duel RX11 6 (some .int) rmX11_duel A)  (v1 : Int32) (v2 : Int32) (v3 : Int32) (s0 : Int32) (h : AH) : AW X 6 ZR yd A 0 0 (QF X rmX11_duel ZR yd rvI A) 28 [(0, .ref 0), (1, .int v1), (2, .int v2), (3, .int v3)] [.int s0] h (X11_duel_j28 v1 v2 v3 s0 h) := by
    exact aw_istore (pc := 28) C (i := 4) (lv' := [(0, .ref 0), (1, .int v1), (2, .int v2), (3, .int v3), (4, .int s0)]) dK_d_183.2.2.2.2.2.2.2.1 (by decide) rfl <|
    aw_iload (pc := 30) C (i := 4) dK_d_184.1 rfl <|
    aw_if_eq (pc := 32) C (tgt := 42) dK_d_184.2.1 rfl (fun _ =>
    aw_iconst (pc := 42) C (v := 0) dK_d_184.2.2.2.2.2.2.1 rfl <|
    aw_istore (pc := 43) C (i := 5) (lv' := [(0, .ref 0), (1, .int v1), (2, .int v2), (3, .int v3), (4, .int s0), (5, .int 0)]) dK_d_184.2.2.2.2.2.2.2.1 (by decide) rfl <|
    aw_drop [0, 1, 2, 3, 5] (aX11_duel_l45 C v1 v2 v3 FU 0 h)) (fun _ =>
    aw_aload_n (pc := 35) C (i := 0) dK_d_184.2.2.1 rfl rfl <|
    aw_iload (pc := 36) C (i := 4) dK_d_184.2.2.2.1 rfl <|
    aw_callF (pc := 38) C (cr_V (rest := []) (F := (X11_no s0)) C (c_X11_no X.2.1 s0) dK_d_184.2.2.2.2.1 mf_X11_no ml_X11_115 im_X11_no se_X11_no sR_0 rfl ⟨(Nat.le_of_ble_eq_true rfl), (Nat.le_of_ble_eq_true rfl)⟩ rfl rfl (Nat.le_of_ble_eq_true rfl)) rfl rfl rfl (Nat.zero_le _) (Nat.zero_le _) fun r14 h15 =>
    aw_iret (pc := 41) C dK_d_184.2.2.2.2.2.1 rfl rfl)
def X11_duel (v1 : Int32) (v2 : Int32) (v3 : Int32) (h : AH) : Option (Int32 × AH) :=
    bd (X11_areTwo v1 v2 h) fun r1 h2 =>
    if r1 = 0 then (X11_duel_j28 v1 v2 v3 (-1) h2)
    else (bd (X11_isIn v3 0 2 h2) fun r3 h4 =>
    if r3 = 0 then (X11_duel_j28 v1 v2 v3 (-2) h4)
    else (X11_duel_j28 v1 v2 v3 0 h4))
set_option maxRecDepth 100000 in
theorem c_X11_duel (l : Launch) (v1 : Int32) (v2 : Int32) (v3 : Int32) : MC l yX11_duel cX11_duel 6 (some .int) rmX11_duel ZR [.ref 0, .int v1, .int v2, .int v3] rvI (X11_duel v1 v2 v3) :=
  MC.of (own := RX11) pn_RX11 rfl (Nat.le_of_ble_eq_true rfl) fun X yd A h _ C =>
    aw_aload_n (pc := 0) C (i := 0) dK_d_182.1 rfl rfl <|
    aw_iload_n (pc := 1) C (i := 1) dK_d_182.2.1 rfl rfl <|
    aw_iload_n (pc := 2) C (i := 2) dK_d_182.2.2.1 rfl rfl <|
    aw_callF (pc := 3) C (cr_V (rest := []) (F := (X11_areTwo v1 v2)) C (c_X11_areTwo X.2.1 v1 v2) dK_d_182.2.2.2.1 mf_X11_areTwo ml_X11_315 im_X11_areTwo se_X11_areTwo sR_0 rfl ⟨(Nat.le_of_ble_eq_true rfl), (Nat.le_of_ble_eq_true rfl)⟩ rfl rfl (Nat.le_of_ble_eq_true rfl)) rfl rfl rfl (Nat.zero_le _) (Nat.zero_le _) fun r1 h2 =>
    aw_if_ne (pc := 6) C (tgt := 13) dK_d_182.2.2.2.2.1 rfl (fun _ =>
    aw_iconst (pc := 9) C (v := (-1)) dK_d_182.2.2.2.2.2.1 rfl <|
    aw_goto (pc := 10) C (tgt := 28) dK_d_182.2.2.2.2.2.2.1 rfl <|
    (aX11_duel_j28 C v1 v2 v3 (-1) h2)) (fun _ =>
    aw_iload_n (pc := 13) C (i := 3) dK_d_182.2.2.2.2.2.2.2.1 rfl rfl <|
    aw_iconst (pc := 14) C (v := 0) dK_d_183.1 rfl <|
    aw_iconst (pc := 15) C (v := 2) dK_d_183.2.1 rfl <|
    aw_callF (pc := 16) C (cr_S (rest := []) (F := (X11_isIn v3 0 2)) C (c_X11_isIn X.2.1 v3 0 2) dK_d_183.2.2.1 mf_X11_isIn ml_X11_126 st_X11_isIn ⟨(Nat.le_of_ble_eq_true rfl), (Nat.le_of_ble_eq_true rfl)⟩ rfl rfl (Nat.le_of_ble_eq_true rfl)) rfl rfl rfl (Nat.zero_le _) (Nat.zero_le _) fun r3 h4 =>
    aw_if_ne (pc := 19) C (tgt := 27) dK_d_183.2.2.2.1 rfl (fun _ =>
    aw_bipush (pc := 22) C (v := (-2)) dK_d_183.2.2.2.2.1 rfl <|
    aw_goto (pc := 24) C (tgt := 28) dK_d_183.2.2.2.2.2.1 rfl <|
    (aX11_duel_j28 C v1 v2 v3 (-2) h4)) (fun _ =>
    aw_iconst (pc := 27) C (v := 0) dK_d_183.2.2.2.2.2.2.1 rfl <|
    (aX11_duel_j28 C v1 v2 v3 0 h4)))

abbrev rmX11_canPractise : Room := { frames := 0, cells := 0, slots := 0, locals := 0 }
def X11_canPractise (v1 : Int32) (v2 : Int32) (h : AH) : Option (Int32 × AH) :=
    vl v2 fun y1 =>
    if y1 = 0 then (ck v1 4 (if (h.1 6 v1.toNatClampNeg) ≤ 0 then (cz 0 (some (0, h)))
    else (cz 1 (some (1, h)))))
    else if y1 = 1 then (ck v1 4 (if (h.1 5 v1.toNatClampNeg) ≤ 0 then (cz 0 (some (0, h)))
    else (cz 1 (some (1, h)))))
    else if y1 = 2 then (ck v1 4 (if 99 ≤ (h.1 7 v1.toNatClampNeg) then (cz 0 (some (0, h)))
    else (cz 1 (some (1, h)))))
    else if y1 = 3 then (ck v1 4 (if 4 ≤ (h.1 8 v1.toNatClampNeg) then (cz 0 (some (0, h)))
    else (cz 1 (some (1, h)))))
    else (ck v1 4 (if (h.1 8 v1.toNatClampNeg) ≤ 0 then (cz 0 (some (0, h)))
    else (cz 1 (some (1, h)))))
set_option maxRecDepth 100000 in
theorem c_X11_canPractise (l : Launch) (v1 : Int32) (v2 : Int32) : MC l yX11_canPractise cX11_canPractise 3 (some .boolean) rmX11_canPractise ZR [.ref 0, .int v1, .int v2] rvI (X11_canPractise v1 v2) :=
  MC.of (own := RX11) pn_RX11 rfl (Nat.le_of_ble_eq_true rfl) fun X yd A h _ C =>
    aw_iload_n (pc := 0) C (i := 2) dK_d_193.1 rfl rfl <|
    aw_vlI fun y1 =>
    aw_if (fun c2 => aw_tswA (pc := 1) C (off := 31) (tg := 32) 0 dK_d_193.2.1 (by rw [c2]; rfl) (by decide) (by decide) rfl rfl (aw_aload_n (pc := 32) C (i := 0) dK_d_193.2.2.1 rfl rfl <|
    aw_getR (pc := 33) C (b := 6) dK_d_193.2.2.2.1 fl_X11_25 sR_0 rfl rR_0_5 <|
    aw_iload_n (pc := 36) C (i := 1) dK_d_193.2.2.2.2.1 rfl rfl <|
    aw_iald (pc := 37) C dK_d_193.2.2.2.2.2.1 sR_6 rfl <|
    aw_if_le (pc := 38) C (tgt := 45) dK_d_193.2.2.2.2.2.2.1 rfl (fun _ =>
    aw_iconst (pc := 45) C (v := 0) dK_d_194.2.1 rfl <|
    aw_zret (pc := 46) C dK_d_194.2.2.1 rfl rfl) (fun _ =>
    aw_iconst (pc := 41) C (v := 1) dK_d_193.2.2.2.2.2.2.2.1 rfl <|
    aw_goto (pc := 42) C (tgt := 46) dK_d_194.1 rfl <|
    aw_zret (pc := 46) C dK_d_194.2.2.1 rfl rfl))) (fun c2 =>
    aw_if (fun c3 => aw_tswA (pc := 1) C (off := 46) (tg := 47) 1 dK_d_193.2.1 (by rw [c3]; rfl) (by decide) (by decide) rfl rfl (aw_aload_n (pc := 47) C (i := 0) dK_d_194.2.2.2.1 rfl rfl <|
    aw_getR (pc := 48) C (b := 5) dK_d_194.2.2.2.2.1 fl_X11_22 sR_0 rfl rR_0_4 <|
    aw_iload_n (pc := 51) C (i := 1) dK_d_194.2.2.2.2.2.1 rfl rfl <|
    aw_iald (pc := 52) C dK_d_194.2.2.2.2.2.2.1 sR_5 rfl <|
    aw_if_le (pc := 53) C (tgt := 60) dK_d_194.2.2.2.2.2.2.2.1 rfl (fun _ =>
    aw_iconst (pc := 60) C (v := 0) dK_d_195.2.2.1 rfl <|
    aw_zret (pc := 61) C dK_d_195.2.2.2.1 rfl rfl) (fun _ =>
    aw_iconst (pc := 56) C (v := 1) dK_d_195.1 rfl <|
    aw_goto (pc := 57) C (tgt := 61) dK_d_195.2.1 rfl <|
    aw_zret (pc := 61) C dK_d_195.2.2.2.1 rfl rfl))) (fun c3 =>
    aw_if (fun c4 => aw_tswA (pc := 1) C (off := 61) (tg := 62) 2 dK_d_193.2.1 (by rw [c4]; rfl) (by decide) (by decide) rfl rfl (aw_aload_n (pc := 62) C (i := 0) dK_d_195.2.2.2.2.1 rfl rfl <|
    aw_getR (pc := 63) C (b := 7) dK_d_195.2.2.2.2.2.1 fl_X11_28 sR_0 rfl rR_0_6 <|
    aw_iload_n (pc := 66) C (i := 1) dK_d_195.2.2.2.2.2.2.1 rfl rfl <|
    aw_iald (pc := 67) C dK_d_195.2.2.2.2.2.2.2.1 sR_7 rfl <|
    aw_bipush (pc := 68) C (v := 99) dK_d_196.1 rfl <|
    aw_icmp_ge (pc := 70) C (tgt := 77) dK_d_196.2.1 rfl (fun _ =>
    aw_iconst (pc := 77) C (v := 0) dK_d_196.2.2.2.2.1 rfl <|
    aw_zret (pc := 78) C dK_d_196.2.2.2.2.2.1 rfl rfl) (fun _ =>
    aw_iconst (pc := 73) C (v := 1) dK_d_196.2.2.1 rfl <|
    aw_goto (pc := 74) C (tgt := 78) dK_d_196.2.2.2.1 rfl <|
    aw_zret (pc := 78) C dK_d_196.2.2.2.2.2.1 rfl rfl))) (fun c4 =>
    aw_if (fun c5 => aw_tswA (pc := 1) C (off := 78) (tg := 79) 3 dK_d_193.2.1 (by rw [c5]; rfl) (by decide) (by decide) rfl rfl (aw_aload_n (pc := 79) C (i := 0) dK_d_196.2.2.2.2.2.2.1 rfl rfl <|
    aw_getR (pc := 80) C (b := 8) dK_d_196.2.2.2.2.2.2.2.1 fl_X11_31 sR_0 rfl rR_0_7 <|
    aw_iload_n (pc := 83) C (i := 1) dK_d_197.1 rfl rfl <|
    aw_iald (pc := 84) C dK_d_197.2.1 sR_8 rfl <|
    aw_iconst (pc := 85) C (v := 4) dK_d_197.2.2.1 rfl <|
    aw_icmp_ge (pc := 86) C (tgt := 93) dK_d_197.2.2.2.1 rfl (fun _ =>
    aw_iconst (pc := 93) C (v := 0) dK_d_197.2.2.2.2.2.2.1 rfl <|
    aw_zret (pc := 94) C dK_d_197.2.2.2.2.2.2.2.1 rfl rfl) (fun _ =>
    aw_iconst (pc := 89) C (v := 1) dK_d_197.2.2.2.2.1 rfl <|
    aw_goto (pc := 90) C (tgt := 94) dK_d_197.2.2.2.2.2.1 rfl <|
    aw_zret (pc := 94) C dK_d_197.2.2.2.2.2.2.2.1 rfl rfl))) (fun c5 =>
    aw_tswD (pc := 1) C (N := 4) (td := 95) [0, 1, 2, 3] dK_d_193.2.1 (List.forall_mem_cons.mpr ⟨ti_ne c2 rfl, List.forall_mem_cons.mpr ⟨ti_ne c3 rfl, List.forall_mem_cons.mpr ⟨ti_ne c4 rfl, List.forall_mem_cons.mpr ⟨ti_ne c5 rfl, fun _ hz => by cases hz⟩⟩⟩⟩) rfl (by decide) rfl (aw_aload_n (pc := 95) C (i := 0) dK_d_198.1 rfl rfl <|
    aw_getR (pc := 96) C (b := 8) dK_d_198.2.1 fl_X11_31 sR_0 rfl rR_0_7 <|
    aw_iload_n (pc := 99) C (i := 1) dK_d_198.2.2.1 rfl rfl <|
    aw_iald (pc := 100) C dK_d_198.2.2.2.1 sR_8 rfl <|
    aw_if_le (pc := 101) C (tgt := 108) dK_d_198.2.2.2.2.1 rfl (fun _ =>
    aw_iconst (pc := 108) C (v := 0) dK_d_198.2.2.2.2.2.2.2.1 rfl <|
    aw_zret (pc := 109) C dK_d_199.1 rfl rfl) (fun _ =>
    aw_iconst (pc := 104) C (v := 1) dK_d_198.2.2.2.2.2.1 rfl <|
    aw_goto (pc := 105) C (tgt := 109) dK_d_198.2.2.2.2.2.2.1 rfl <|
    aw_zret (pc := 109) C dK_d_199.1 rfl rfl))))))

abbrev rmX11_practises : Room := { frames := 0, cells := 0, slots := 0, locals := 0 }
def X11_practises (v1 : Int32) (v2 : Int32) (v3 : Int32) (h : AH) : Option (Unit × AH) :=
    vl v2 fun y1 =>
    if y1 = 0 then (ck v1 4 (ck v1 4 (vl (sI h 6 v1.toNatClampNeg ((h.1 6 v1.toNatClampNeg) - v3)) fun h2 =>
    some ((), h2))))
    else if y1 = 1 then (ck v1 4 (ck v1 4 (vl (sI h 5 v1.toNatClampNeg ((h.1 5 v1.toNatClampNeg) - v3)) fun h4 =>
    some ((), h4))))
    else if y1 = 2 then (ck v1 4 (ck v1 4 (vl (sI h 7 v1.toNatClampNeg ((h.1 7 v1.toNatClampNeg) + v3)) fun h6 =>
    some ((), h6))))
    else if y1 = 3 then (ck v1 4 (ck v1 4 (vl (sI h 8 v1.toNatClampNeg ((h.1 8 v1.toNatClampNeg) + v3)) fun h8 =>
    some ((), h8))))
    else (ck v1 4 (ck v1 4 (vl (sI h 8 v1.toNatClampNeg ((h.1 8 v1.toNatClampNeg) - v3)) fun h10 =>
    some ((), h10))))
set_option maxRecDepth 100000 in
theorem c_X11_practises (l : Launch) (v1 : Int32) (v2 : Int32) (v3 : Int32) : MC l yX11_practises cX11_practises 4 none rmX11_practises ZR [.ref 0, .int v1, .int v2, .int v3] rvV (X11_practises v1 v2 v3) :=
  MC.of (own := RX11) pn_RX11 rfl (Nat.le_of_ble_eq_true rfl) fun X yd A h _ C =>
    aw_iload_n (pc := 0) C (i := 2) dK_d_200.1 rfl rfl <|
    aw_vlI fun y1 =>
    aw_if (fun c3 => aw_tswA (pc := 1) C (off := 31) (tg := 32) 0 dK_d_200.2.1 (by rw [c3]; rfl) (by decide) (by decide) rfl rfl (aw_aload_n (pc := 32) C (i := 0) dK_d_200.2.2.1 rfl rfl <|
    aw_getR (pc := 33) C (b := 6) dK_d_200.2.2.2.1 fl_X11_25 sR_0 rfl rR_0_5 <|
    aw_iload_n (pc := 36) C (i := 1) dK_d_200.2.2.2.2.1 rfl rfl <|
    aw_dup2 (pc := 37) C dK_d_200.2.2.2.2.2.1 rfl rfl <|
    aw_iald (pc := 38) C dK_d_200.2.2.2.2.2.2.1 sR_6 rfl <|
    aw_iload_n (pc := 39) C (i := 3) dK_d_200.2.2.2.2.2.2.2.1 rfl rfl <|
    aw_isub (pc := 40) C dK_d_201.1 <|
    aw_iast (pc := 41) C dK_d_201.2.1 sR_6 rfl fun h2 =>
    aw_goto (pc := 42) C (tgt := 94) dK_d_201.2.2.1 rfl <|
    aw_vret (pc := 94) C dK_d_205.2.2.2.2.2.2.1 rfl rfl)) (fun c3 =>
    aw_if (fun c5 => aw_tswA (pc := 1) C (off := 44) (tg := 45) 1 dK_d_200.2.1 (by rw [c5]; rfl) (by decide) (by decide) rfl rfl (aw_aload_n (pc := 45) C (i := 0) dK_d_201.2.2.2.1 rfl rfl <|
    aw_getR (pc := 46) C (b := 5) dK_d_201.2.2.2.2.1 fl_X11_22 sR_0 rfl rR_0_4 <|
    aw_iload_n (pc := 49) C (i := 1) dK_d_201.2.2.2.2.2.1 rfl rfl <|
    aw_dup2 (pc := 50) C dK_d_201.2.2.2.2.2.2.1 rfl rfl <|
    aw_iald (pc := 51) C dK_d_201.2.2.2.2.2.2.2.1 sR_5 rfl <|
    aw_iload_n (pc := 52) C (i := 3) dK_d_202.1 rfl rfl <|
    aw_isub (pc := 53) C dK_d_202.2.1 <|
    aw_iast (pc := 54) C dK_d_202.2.2.1 sR_5 rfl fun h4 =>
    aw_goto (pc := 55) C (tgt := 94) dK_d_202.2.2.2.1 rfl <|
    aw_vret (pc := 94) C dK_d_205.2.2.2.2.2.2.1 rfl rfl)) (fun c5 =>
    aw_if (fun c7 => aw_tswA (pc := 1) C (off := 57) (tg := 58) 2 dK_d_200.2.1 (by rw [c7]; rfl) (by decide) (by decide) rfl rfl (aw_aload_n (pc := 58) C (i := 0) dK_d_202.2.2.2.2.1 rfl rfl <|
    aw_getR (pc := 59) C (b := 7) dK_d_202.2.2.2.2.2.1 fl_X11_28 sR_0 rfl rR_0_6 <|
    aw_iload_n (pc := 62) C (i := 1) dK_d_202.2.2.2.2.2.2.1 rfl rfl <|
    aw_dup2 (pc := 63) C dK_d_202.2.2.2.2.2.2.2.1 rfl rfl <|
    aw_iald (pc := 64) C dK_d_203.1 sR_7 rfl <|
    aw_iload_n (pc := 65) C (i := 3) dK_d_203.2.1 rfl rfl <|
    aw_iadd (pc := 66) C dK_d_203.2.2.1 <|
    aw_iast (pc := 67) C dK_d_203.2.2.2.1 sR_7 rfl fun h6 =>
    aw_goto (pc := 68) C (tgt := 94) dK_d_203.2.2.2.2.1 rfl <|
    aw_vret (pc := 94) C dK_d_205.2.2.2.2.2.2.1 rfl rfl)) (fun c7 =>
    aw_if (fun c9 => aw_tswA (pc := 1) C (off := 70) (tg := 71) 3 dK_d_200.2.1 (by rw [c9]; rfl) (by decide) (by decide) rfl rfl (aw_aload_n (pc := 71) C (i := 0) dK_d_203.2.2.2.2.2.1 rfl rfl <|
    aw_getR (pc := 72) C (b := 8) dK_d_203.2.2.2.2.2.2.1 fl_X11_31 sR_0 rfl rR_0_7 <|
    aw_iload_n (pc := 75) C (i := 1) dK_d_203.2.2.2.2.2.2.2.1 rfl rfl <|
    aw_dup2 (pc := 76) C dK_d_204.1 rfl rfl <|
    aw_iald (pc := 77) C dK_d_204.2.1 sR_8 rfl <|
    aw_iload_n (pc := 78) C (i := 3) dK_d_204.2.2.1 rfl rfl <|
    aw_iadd (pc := 79) C dK_d_204.2.2.2.1 <|
    aw_iast (pc := 80) C dK_d_204.2.2.2.2.1 sR_8 rfl fun h8 =>
    aw_goto (pc := 81) C (tgt := 94) dK_d_204.2.2.2.2.2.1 rfl <|
    aw_vret (pc := 94) C dK_d_205.2.2.2.2.2.2.1 rfl rfl)) (fun c9 =>
    aw_tswD (pc := 1) C (N := 4) (td := 84) [0, 1, 2, 3] dK_d_200.2.1 (List.forall_mem_cons.mpr ⟨ti_ne c3 rfl, List.forall_mem_cons.mpr ⟨ti_ne c5 rfl, List.forall_mem_cons.mpr ⟨ti_ne c7 rfl, List.forall_mem_cons.mpr ⟨ti_ne c9 rfl, fun _ hz => by cases hz⟩⟩⟩⟩) rfl (by decide) rfl (aw_aload_n (pc := 84) C (i := 0) dK_d_204.2.2.2.2.2.2.1 rfl rfl <|
    aw_getR (pc := 85) C (b := 8) dK_d_204.2.2.2.2.2.2.2.1 fl_X11_31 sR_0 rfl rR_0_7 <|
    aw_iload_n (pc := 88) C (i := 1) dK_d_205.1 rfl rfl <|
    aw_dup2 (pc := 89) C dK_d_205.2.1 rfl rfl <|
    aw_iald (pc := 90) C dK_d_205.2.2.1 sR_8 rfl <|
    aw_iload_n (pc := 91) C (i := 3) dK_d_205.2.2.2.1 rfl rfl <|
    aw_isub (pc := 92) C dK_d_205.2.2.2.2.1 <|
    aw_iast (pc := 93) C dK_d_205.2.2.2.2.2.1 sR_8 rfl fun h10 =>
    aw_vret (pc := 94) C dK_d_205.2.2.2.2.2.2.1 rfl rfl)))))

abbrev rmX11_practice : Room := { frames := 5, cells := 0, slots := 0, locals := 123 }
def X11_practice_j95  (v1 : Int32) (v2 : Int32) (v3 : Int64) (v5 : Int32) (v6 : Int32) (K33 : Int64 → Int32 → Int32 → AH → Option (Int32 × AH)) (h : AH) : Option (Int32 × AH) :=
    vl (v6 + 1) fun x16 =>
    K33 v3 v5 x16 h
set_option maxRecDepth 100000 in
theorem aX11_practice_j95 {X : MCx} {yd : Dyn} {A : Nat → Prop} (C : OK X cX11_practice RX11 9 (some .int) rmX11_practice A)  (v1 : Int32) (v2 : Int32) (v3 : Int64) (v5 : Int32) (v6 : Int32) (K33 : Int64 → Int32 → Int32 → AH → Option (Int32 × AH)) (hK33 : ∀ (w3 : Int64) (w5 : Int32) (w6 : Int32) (h : AH), AW X 9 ZR yd A 0 0 (QF X rmX11_practice ZR yd rvI A) 33 [(0, .ref 0), (1, .int v1), (2, .int v2), (3, .long w3), (5, .int w5), (6, .int w6)] [] h (K33 w3 w5 w6 h)) (h : AH) : AW X 9 ZR yd A 0 0 (QF X rmX11_practice ZR yd rvI A) 95 [(0, .ref 0), (1, .int v1), (2, .int v2), (3, .long v3), (5, .int v5), (6, .int v6)] [] h (X11_practice_j95 v1 v2 v3 v5 v6 K33 h) := by
    exact aw_iincV (pc := 95) C (i := 6) (cst := 1) (fun x16 => [(0, .ref 0), (1, .int v1), (2, .int v2), (3, .long v3), (5, .int v5), (6, .int x16)]) dK_d_212.2.2.2.2.2.2.2.1 rfl rfl (by decide) (fun _ => rfl) fun x16 =>
    aw_goto (pc := 98) C (tgt := 33) dK_d_213.1 rfl <|
    (hK33 v3 v5 x16 h)
def X11_practice_l33  (v1 : Int32) (v2 : Int32) : Nat → Int64 → Int32 → Int32 → AH → Option (Int32 × AH)
  | 0, _, _, _, _ => none
  | n + 1, v3, v5, v6, h =>
    if 5 ≤ v6 then (some (v5, h))
    else (bd (X11_canPractise v1 v6 h) fun r8 h9 =>
    if r8 = 0 then (X11_practice_j95 v1 v2 v3 v5 v6 (X11_practice_l33 v1 v2 n) h9)
    else (bd (X11_practises v1 v6 1 h9) fun _ h11 =>
    bd (X11_counted v1 v2 2 0 h11) fun r12 h13 =>
    bd (X11_practises v1 v6 (-1) h13) fun _ h15 =>
    if 0 < (lcmpV r12 v3) then (X11_practice_j95 v1 v2 r12 v6 v6 (X11_practice_l33 v1 v2 n) h15)
    else (X11_practice_j95 v1 v2 v3 v5 v6 (X11_practice_l33 v1 v2 n) h15)))
set_option maxRecDepth 100000 in
theorem aX11_practice_l33 {X : MCx} {yd : Dyn} {A : Nat → Prop} (C : OK X cX11_practice RX11 9 (some .int) rmX11_practice A)  (v1 : Int32) (v2 : Int32) : ∀ (n : Nat) (v3 : Int64) (v5 : Int32) (v6 : Int32) (h : AH), AW X 9 ZR yd A 0 0 (QF X rmX11_practice ZR yd rvI A) 33 [(0, .ref 0), (1, .int v1), (2, .int v2), (3, .long v3), (5, .int v5), (6, .int v6)] [] h (X11_practice_l33 v1 v2 n v3 v5 v6 h) := by
  intro n
  induction n with
  | zero => intro v3 v5 v6 h; exact aw_none
  | succ n ih =>
    intro v3 v5 v6 h
    exact aw_iload (pc := 33) C (i := 6) dK_d_208.2.2.2.2.1 rfl <|
    aw_iconst (pc := 35) C (v := 5) dK_d_208.2.2.2.2.2.1 rfl <|
    aw_icmp_ge (pc := 36) C (tgt := 101) dK_d_208.2.2.2.2.2.2.1 rfl (fun _ =>
    aw_iload (pc := 101) C (i := 5) dK_d_213.2.1 rfl <|
    aw_iret (pc := 103) C dK_d_213.2.2.1 rfl rfl) (fun _ =>
    aw_aload_n (pc := 39) C (i := 0) dK_d_208.2.2.2.2.2.2.2.1 rfl rfl <|
    aw_iload_n (pc := 40) C (i := 1) dK_d_209.1 rfl rfl <|
    aw_iload (pc := 41) C (i := 6) dK_d_209.2.1 rfl <|
    aw_callF (pc := 43) C (cr_V (rest := []) (F := (X11_canPractise v1 v6)) C (c_X11_canPractise X.2.1 v1 v6) dK_d_209.2.2.1 mf_X11_canPractise ml_X11_327 im_X11_canPractise se_X11_canPractise sR_0 rfl ⟨(Nat.le_of_ble_eq_true rfl), (Nat.le_of_ble_eq_true rfl)⟩ rfl rfl (Nat.le_of_ble_eq_true rfl)) rfl rfl rfl (Nat.zero_le _) (Nat.zero_le _) fun r8 h9 =>
    aw_if_ne (pc := 46) C (tgt := 52) dK_d_209.2.2.2.1 rfl (fun _ =>
    aw_goto (pc := 49) C (tgt := 95) dK_d_209.2.2.2.2.1 rfl <|
    (aX11_practice_j95 C v1 v2 v3 v5 v6 (X11_practice_l33 v1 v2 n) ih h9)) (fun _ =>
    aw_aload_n (pc := 52) C (i := 0) dK_d_209.2.2.2.2.2.1 rfl rfl <|
    aw_iload_n (pc := 53) C (i := 1) dK_d_209.2.2.2.2.2.2.1 rfl rfl <|
    aw_iload (pc := 54) C (i := 6) dK_d_209.2.2.2.2.2.2.2.1 rfl <|
    aw_iconst (pc := 56) C (v := 1) dK_d_210.1 rfl <|
    aw_callF (pc := 57) C (cr_V (rest := []) (F := (X11_practises v1 v6 1)) C (c_X11_practises X.2.1 v1 v6 1) dK_d_210.2.1 mf_X11_practises ml_X11_330 im_X11_practises se_X11_practises sR_0 rfl ⟨(Nat.le_of_ble_eq_true rfl), (Nat.le_of_ble_eq_true rfl)⟩ rfl rfl (Nat.le_of_ble_eq_true rfl)) rfl rfl rfl (Nat.zero_le _) (Nat.zero_le _) fun _ h11 =>
    aw_aload_n (pc := 60) C (i := 0) dK_d_210.2.2.1 rfl rfl <|
    aw_iload_n (pc := 61) C (i := 1) dK_d_210.2.2.2.1 rfl rfl <|
    aw_iload_n (pc := 62) C (i := 2) dK_d_210.2.2.2.2.1 rfl rfl <|
    aw_iconst (pc := 63) C (v := 2) dK_d_210.2.2.2.2.2.1 rfl <|
    aw_iconst (pc := 64) C (v := 0) dK_d_210.2.2.2.2.2.2.1 rfl <|
    aw_callF (pc := 65) C (cr_V (rest := []) (F := (X11_counted v1 v2 2 0)) C (c_X11_counted X.2.1 v1 v2 2 0) dK_d_210.2.2.2.2.2.2.2.1 mf_X11_counted ml_X11_242 im_X11_counted se_X11_counted sR_0 rfl ⟨(Nat.le_of_ble_eq_true rfl), (Nat.le_of_ble_eq_true rfl)⟩ rfl rfl (Nat.le_of_ble_eq_true rfl)) rfl rfl rfl (Nat.zero_le _) (Nat.zero_le _) fun r12 h13 =>
    aw_lstore (pc := 68) C (i := 7) (lv' := [(0, .ref 0), (1, .int v1), (2, .int v2), (3, .long v3), (5, .int v5), (6, .int v6), (7, .long r12)]) dK_d_211.1 (by decide) rfl <|
    aw_aload_n (pc := 70) C (i := 0) dK_d_211.2.1 rfl rfl <|
    aw_iload_n (pc := 71) C (i := 1) dK_d_211.2.2.1 rfl rfl <|
    aw_iload (pc := 72) C (i := 6) dK_d_211.2.2.2.1 rfl <|
    aw_iconst (pc := 74) C (v := (-1)) dK_d_211.2.2.2.2.1 rfl <|
    aw_callF (pc := 75) C (cr_V (rest := []) (F := (X11_practises v1 v6 (-1))) C (c_X11_practises X.2.1 v1 v6 (-1)) dK_d_211.2.2.2.2.2.1 mf_X11_practises ml_X11_330 im_X11_practises se_X11_practises sR_0 rfl ⟨(Nat.le_of_ble_eq_true rfl), (Nat.le_of_ble_eq_true rfl)⟩ rfl rfl (Nat.le_of_ble_eq_true rfl)) rfl rfl rfl (Nat.zero_le _) (Nat.zero_le _) fun _ h15 =>
    aw_lload (pc := 78) C (i := 7) dK_d_211.2.2.2.2.2.2.1 rfl <|
    aw_lload_n (pc := 80) C (i := 3) dK_d_211.2.2.2.2.2.2.2.1 rfl rfl <|
    aw_lcmp (pc := 81) C dK_d_212.1 <|
    aw_if_gt (pc := 82) C (tgt := 88) dK_d_212.2.1 rfl (fun _ =>
    aw_iload (pc := 88) C (i := 6) dK_d_212.2.2.2.1 rfl <|
    aw_istore (pc := 90) C (i := 5) (lv' := [(0, .ref 0), (1, .int v1), (2, .int v2), (3, .long v3), (5, .int v6), (6, .int v6), (7, .long r12)]) dK_d_212.2.2.2.2.1 (by decide) rfl <|
    aw_lload (pc := 92) C (i := 7) dK_d_212.2.2.2.2.2.1 rfl <|
    aw_lstore_n (pc := 94) C (i := 3) (lv' := [(0, .ref 0), (1, .int v1), (2, .int v2), (3, .long r12), (5, .int v6), (6, .int v6), (7, .long r12)]) dK_d_212.2.2.2.2.2.2.1 rfl (by decide) rfl <|
    aw_drop [0, 1, 2, 3, 4, 5] (aX11_practice_j95 C v1 v2 r12 v6 v6 (X11_practice_l33 v1 v2 n) ih h15)) (fun _ =>
    aw_goto (pc := 85) C (tgt := 95) dK_d_212.2.2.1 rfl <|
    aw_drop [0, 1, 2, 3, 4, 5] (aX11_practice_j95 C v1 v2 v3 v5 v6 (X11_practice_l33 v1 v2 n) ih h15))))
def X11_practice (v1 : Int32) (h : AH) : Option (Int32 × AH) :=
    bd (X11_isJumper v1 h) fun r1 h2 =>
    if r1 = 0 then (bd (X11_no (-1) h2) fun r17 h18 =>
    some (r17, h18))
    else (bd (X11_placeOf v1 h2) fun r3 h4 =>
    bd (X11_meanParts v1 h4) fun r5 h6 =>
    vl (-9) fun x7 =>
    X11_practice_l33 v1 r3 FU r5 x7 0 h6)
set_option maxRecDepth 100000 in
theorem c_X11_practice (l : Launch) (v1 : Int32) : MC l yX11_practice cX11_practice 9 (some .int) rmX11_practice ZR [.ref 0, .int v1] rvI (X11_practice v1) :=
  MC.of (own := RX11) pn_RX11 rfl (Nat.le_of_ble_eq_true rfl) fun X yd A h _ C =>
    aw_aload_n (pc := 0) C (i := 0) dK_d_206.1 rfl rfl <|
    aw_iload_n (pc := 1) C (i := 1) dK_d_206.2.1 rfl rfl <|
    aw_callF (pc := 2) C (cr_V (rest := []) (F := (X11_isJumper v1)) C (c_X11_isJumper X.2.1 v1) dK_d_206.2.2.1 mf_X11_isJumper ml_X11_207 im_X11_isJumper se_X11_isJumper sR_0 rfl ⟨(Nat.le_of_ble_eq_true rfl), (Nat.le_of_ble_eq_true rfl)⟩ rfl rfl (Nat.le_of_ble_eq_true rfl)) rfl rfl rfl (Nat.zero_le _) (Nat.zero_le _) fun r1 h2 =>
    aw_if_ne (pc := 5) C (tgt := 14) dK_d_206.2.2.2.1 rfl (fun _ =>
    aw_aload_n (pc := 8) C (i := 0) dK_d_206.2.2.2.2.1 rfl rfl <|
    aw_iconst (pc := 9) C (v := (-1)) dK_d_206.2.2.2.2.2.1 rfl <|
    aw_callF (pc := 10) C (cr_V (rest := []) (F := (X11_no (-1))) C (c_X11_no X.2.1 (-1)) dK_d_206.2.2.2.2.2.2.1 mf_X11_no ml_X11_115 im_X11_no se_X11_no sR_0 rfl ⟨(Nat.le_of_ble_eq_true rfl), (Nat.le_of_ble_eq_true rfl)⟩ rfl rfl (Nat.le_of_ble_eq_true rfl)) rfl rfl rfl (Nat.zero_le _) (Nat.zero_le _) fun r17 h18 =>
    aw_iret (pc := 13) C dK_d_206.2.2.2.2.2.2.2.1 rfl rfl) (fun _ =>
    aw_aload_n (pc := 14) C (i := 0) dK_d_207.1 rfl rfl <|
    aw_iload_n (pc := 15) C (i := 1) dK_d_207.2.1 rfl rfl <|
    aw_callF (pc := 16) C (cr_V (rest := []) (F := (X11_placeOf v1)) C (c_X11_placeOf X.2.1 v1) dK_d_207.2.2.1 mf_X11_placeOf ml_X11_223 im_X11_placeOf se_X11_placeOf sR_0 rfl ⟨(Nat.le_of_ble_eq_true rfl), (Nat.le_of_ble_eq_true rfl)⟩ rfl rfl (Nat.le_of_ble_eq_true rfl)) rfl rfl rfl (Nat.zero_le _) (Nat.zero_le _) fun r3 h4 =>
    aw_istore_n (pc := 19) C (i := 2) (lv' := [(0, .ref 0), (1, .int v1), (2, .int r3)]) dK_d_207.2.2.2.1 rfl (by decide) rfl <|
    aw_aload_n (pc := 20) C (i := 0) dK_d_207.2.2.2.2.1 rfl rfl <|
    aw_iload_n (pc := 21) C (i := 1) dK_d_207.2.2.2.2.2.1 rfl rfl <|
    aw_callF (pc := 22) C (cr_V (rest := []) (F := (X11_meanParts v1)) C (c_X11_meanParts X.2.1 v1) dK_d_207.2.2.2.2.2.2.1 mf_X11_meanParts ml_X11_254 im_X11_meanParts se_X11_meanParts sR_0 rfl ⟨(Nat.le_of_ble_eq_true rfl), (Nat.le_of_ble_eq_true rfl)⟩ rfl rfl (Nat.le_of_ble_eq_true rfl)) rfl rfl rfl (Nat.zero_le _) (Nat.zero_le _) fun r5 h6 =>
    aw_lstore_n (pc := 25) C (i := 3) (lv' := [(0, .ref 0), (1, .int v1), (2, .int r3), (3, .long r5)]) dK_d_207.2.2.2.2.2.2.2.1 rfl (by decide) rfl <|
    aw_bipush (pc := 26) C (v := (-9)) dK_d_208.1 rfl <|
    aw_istoreV (pc := 28) C (i := 5) (fun x7 => [(0, .ref 0), (1, .int v1), (2, .int r3), (3, .long r5), (5, .int x7)]) dK_d_208.2.1 (by decide) (fun _ => rfl) fun x7 =>
    aw_iconst (pc := 30) C (v := 0) dK_d_208.2.2.1 rfl <|
    aw_istore (pc := 31) C (i := 6) (lv' := [(0, .ref 0), (1, .int v1), (2, .int r3), (3, .long r5), (5, .int x7), (6, .int 0)]) dK_d_208.2.2.2.1 (by decide) rfl <|
    (aX11_practice_l33 C v1 r3 FU r5 x7 0 h6))

abbrev rmX11_bestRun : Room := { frames := 4, cells := 0, slots := 0, locals := 102 }
def X11_bestRun_j94  (v1 : Int32) (v2 : Int32) (v3 : Int32) (v4 : Int64) (v6 : Int32) (K29 : Int32 → Int64 → Int32 → AH → Option (Int32 × AH)) (h : AH) : Option (Int32 × AH) :=
    vl (v6 + 1) fun x12 =>
    K29 v3 v4 x12 h
set_option maxRecDepth 100000 in
theorem aX11_bestRun_j94 {X : MCx} {yd : Dyn} {A : Nat → Prop} (C : OK X cX11_bestRun RX11 11 (some .int) rmX11_bestRun A)  (v1 : Int32) (v2 : Int32) (v3 : Int32) (v4 : Int64) (v6 : Int32) (K29 : Int32 → Int64 → Int32 → AH → Option (Int32 × AH)) (hK29 : ∀ (w3 : Int32) (w4 : Int64) (w6 : Int32) (h : AH), AW X 11 ZR yd A 0 0 (QF X rmX11_bestRun ZR yd rvI A) 29 [(0, .ref 0), (1, .int v1), (2, .int v2), (3, .int w3), (4, .long w4), (6, .int w6)] [] h (K29 w3 w4 w6 h)) (h : AH) : AW X 11 ZR yd A 0 0 (QF X rmX11_bestRun ZR yd rvI A) 94 [(0, .ref 0), (1, .int v1), (2, .int v2), (3, .int v3), (4, .long v4), (6, .int v6)] [] h (X11_bestRun_j94 v1 v2 v3 v4 v6 K29 h) := by
    exact aw_iincV (pc := 94) C (i := 6) (cst := 1) (fun x12 => [(0, .ref 0), (1, .int v1), (2, .int v2), (3, .int v3), (4, .long v4), (6, .int x12)]) dK_d_220.2.2.2.2.2.2.2.1 rfl rfl (by decide) (fun _ => rfl) fun x12 =>
    aw_goto (pc := 97) C (tgt := 29) dK_d_221.1 rfl <|
    (hK29 v3 v4 x12 h)
def X11_bestRun_j87  (v1 : Int32) (v2 : Int32) (v6 : Int32) (v7 : Int64) (K29 : Int32 → Int64 → Int32 → AH → Option (Int32 × AH)) (h : AH) : Option (Int32 × AH) :=
    X11_bestRun_j94 v1 v2 v6 v7 v6 K29 h
set_option maxRecDepth 100000 in
theorem aX11_bestRun_j87 {X : MCx} {yd : Dyn} {A : Nat → Prop} (C : OK X cX11_bestRun RX11 11 (some .int) rmX11_bestRun A)  (v1 : Int32) (v2 : Int32) (v6 : Int32) (v7 : Int64) (K29 : Int32 → Int64 → Int32 → AH → Option (Int32 × AH)) (hK29 : ∀ (w3 : Int32) (w4 : Int64) (w6 : Int32) (h : AH), AW X 11 ZR yd A 0 0 (QF X rmX11_bestRun ZR yd rvI A) 29 [(0, .ref 0), (1, .int v1), (2, .int v2), (3, .int w3), (4, .long w4), (6, .int w6)] [] h (K29 w3 w4 w6 h)) (h : AH) : AW X 11 ZR yd A 0 0 (QF X rmX11_bestRun ZR yd rvI A) 87 [(0, .ref 0), (1, .int v1), (2, .int v2), (6, .int v6), (7, .long v7)] [] h (X11_bestRun_j87 v1 v2 v6 v7 K29 h) := by
    exact aw_iload (pc := 87) C (i := 6) dK_d_220.2.2.2.1 rfl <|
    aw_istore_n (pc := 89) C (i := 3) (lv' := [(0, .ref 0), (1, .int v1), (2, .int v2), (3, .int v6), (6, .int v6), (7, .long v7)]) dK_d_220.2.2.2.2.1 rfl (by decide) rfl <|
    aw_lload (pc := 90) C (i := 7) dK_d_220.2.2.2.2.2.1 rfl <|
    aw_lstore (pc := 92) C (i := 4) (lv' := [(0, .ref 0), (1, .int v1), (2, .int v2), (3, .int v6), (4, .long v7), (6, .int v6), (7, .long v7)]) dK_d_220.2.2.2.2.2.2.1 (by decide) rfl <|
    aw_drop [0, 1, 2, 3, 4, 5] (aX11_bestRun_j94 C v1 v2 v6 v7 v6 K29 hK29 h)
def X11_bestRun_l29  (v1 : Int32) (v2 : Int32) : Nat → Int32 → Int64 → Int32 → AH → Option (Int32 × AH)
  | 0, _, _, _, _ => none
  | n + 1, v3, v4, v6, h =>
    if 20 < v6 then (vl (sI h 0 12 v2) fun h5 =>
    some (v3, h5))
    else (vl (sI h 0 12 v6) fun h6 =>
    bd (X11_aimOf v1 h6) fun r7 h8 =>
    bd (X11_counted v1 r7 2 0 h8) fun r9 h10 =>
    vl (shl64 1 (2 * (v6 - v3))) fun x11 =>
    if (lcmpV v4 0) < 0 then (X11_bestRun_j87 v1 v2 v6 r9 (X11_bestRun_l29 v1 v2 n) h10)
    else (if 0 < (lcmpV r9 (v4 * x11)) then (X11_bestRun_j87 v1 v2 v6 r9 (X11_bestRun_l29 v1 v2 n) h10)
    else (X11_bestRun_j94 v1 v2 v3 v4 v6 (X11_bestRun_l29 v1 v2 n) h10)))
set_option maxRecDepth 100000 in
theorem aX11_bestRun_l29 {X : MCx} {yd : Dyn} {A : Nat → Prop} (C : OK X cX11_bestRun RX11 11 (some .int) rmX11_bestRun A)  (v1 : Int32) (v2 : Int32) : ∀ (n : Nat) (v3 : Int32) (v4 : Int64) (v6 : Int32) (h : AH), AW X 11 ZR yd A 0 0 (QF X rmX11_bestRun ZR yd rvI A) 29 [(0, .ref 0), (1, .int v1), (2, .int v2), (3, .int v3), (4, .long v4), (6, .int v6)] [] h (X11_bestRun_l29 v1 v2 n v3 v4 v6 h) := by
  intro n
  induction n with
  | zero => intro v3 v4 v6 h; exact aw_none
  | succ n ih =>
    intro v3 v4 v6 h
    exact aw_iload (pc := 29) C (i := 6) dK_d_216.2.1 rfl <|
    aw_bipush (pc := 31) C (v := 20) dK_d_216.2.2.1 rfl <|
    aw_icmp_gt (pc := 33) C (tgt := 100) dK_d_216.2.2.2.1 rfl (fun _ =>
    aw_aload_n (pc := 100) C (i := 0) dK_d_221.2.1 rfl rfl <|
    aw_iload_n (pc := 101) C (i := 2) dK_d_221.2.2.1 rfl rfl <|
    aw_putI (pc := 102) C dK_d_221.2.2.2.1 fp_X11_95 sR_0 rfl fun h5 =>
    aw_iload_n (pc := 105) C (i := 3) dK_d_221.2.2.2.2.1 rfl rfl <|
    aw_iret (pc := 106) C dK_d_221.2.2.2.2.2.1 rfl rfl) (fun _ =>
    aw_aload_n (pc := 36) C (i := 0) dK_d_216.2.2.2.2.1 rfl rfl <|
    aw_iload (pc := 37) C (i := 6) dK_d_216.2.2.2.2.2.1 rfl <|
    aw_putI (pc := 39) C dK_d_216.2.2.2.2.2.2.1 fp_X11_95 sR_0 rfl fun h6 =>
    aw_aload_n (pc := 42) C (i := 0) dK_d_216.2.2.2.2.2.2.2.1 rfl rfl <|
    aw_iload_n (pc := 43) C (i := 1) dK_d_217.1 rfl rfl <|
    aw_aload_n (pc := 44) C (i := 0) dK_d_217.2.1 rfl rfl <|
    aw_iload_n (pc := 45) C (i := 1) dK_d_217.2.2.1 rfl rfl <|
    aw_callF (pc := 46) C (cr_V (rest := [.int v1, .ref 0]) (F := (X11_aimOf v1)) C (c_X11_aimOf X.2.1 v1) dK_d_217.2.2.2.1 mf_X11_aimOf ml_X11_210 im_X11_aimOf se_X11_aimOf sR_0 rfl ⟨(Nat.le_of_ble_eq_true rfl), (Nat.le_of_ble_eq_true rfl)⟩ rfl rfl (Nat.le_of_ble_eq_true rfl)) rfl rfl rfl (Nat.zero_le _) (Nat.zero_le _) fun r7 h8 =>
    aw_iconst (pc := 49) C (v := 2) dK_d_217.2.2.2.2.1 rfl <|
    aw_iconst (pc := 50) C (v := 0) dK_d_217.2.2.2.2.2.1 rfl <|
    aw_callF (pc := 51) C (cr_V (rest := []) (F := (X11_counted v1 r7 2 0)) C (c_X11_counted X.2.1 v1 r7 2 0) dK_d_217.2.2.2.2.2.2.1 mf_X11_counted ml_X11_242 im_X11_counted se_X11_counted sR_0 rfl ⟨(Nat.le_of_ble_eq_true rfl), (Nat.le_of_ble_eq_true rfl)⟩ rfl rfl (Nat.le_of_ble_eq_true rfl)) rfl rfl rfl (Nat.zero_le _) (Nat.zero_le _) fun r9 h10 =>
    aw_lstore (pc := 54) C (i := 7) (lv' := [(0, .ref 0), (1, .int v1), (2, .int v2), (3, .int v3), (4, .long v4), (6, .int v6), (7, .long r9)]) dK_d_217.2.2.2.2.2.2.2.1 (by decide) rfl <|
    aw_lconst (pc := 56) C (v := 1) dK_d_218.1 rfl <|
    aw_iconst (pc := 57) C (v := 2) dK_d_218.2.1 rfl <|
    aw_iload (pc := 58) C (i := 6) dK_d_218.2.2.1 rfl <|
    aw_iload_n (pc := 60) C (i := 3) dK_d_218.2.2.2.1 rfl rfl <|
    aw_isub (pc := 61) C dK_d_218.2.2.2.2.1 <|
    aw_imul (pc := 62) C dK_d_218.2.2.2.2.2.1 <|
    aw_lshl (pc := 63) C dK_d_218.2.2.2.2.2.2.1 <|
    aw_lstoreV (pc := 64) C (i := 9) (fun x11 => [(0, .ref 0), (1, .int v1), (2, .int v2), (3, .int v3), (4, .long v4), (6, .int v6), (7, .long r9), (9, .long x11)]) dK_d_218.2.2.2.2.2.2.2.1 (by decide) (fun _ => rfl) fun x11 =>
    aw_lload (pc := 66) C (i := 4) dK_d_219.1 rfl <|
    aw_lconst (pc := 68) C (v := 0) dK_d_219.2.1 rfl <|
    aw_lcmp (pc := 69) C dK_d_219.2.2.1 <|
    aw_if_lt (pc := 70) C (tgt := 87) dK_d_219.2.2.2.1 rfl (fun _ =>
    aw_drop [0, 1, 2, 5, 6] (aX11_bestRun_j87 C v1 v2 v6 r9 (X11_bestRun_l29 v1 v2 n) ih h10)) (fun _ =>
    aw_lload (pc := 73) C (i := 7) dK_d_219.2.2.2.2.1 rfl <|
    aw_lload (pc := 75) C (i := 4) dK_d_219.2.2.2.2.2.1 rfl <|
    aw_lload (pc := 77) C (i := 9) dK_d_219.2.2.2.2.2.2.1 rfl <|
    aw_lmul (pc := 79) C dK_d_219.2.2.2.2.2.2.2.1 <|
    aw_lcmp (pc := 80) C dK_d_220.1 <|
    aw_if_gt (pc := 81) C (tgt := 87) dK_d_220.2.1 rfl (fun _ =>
    aw_drop [0, 1, 2, 5, 6] (aX11_bestRun_j87 C v1 v2 v6 r9 (X11_bestRun_l29 v1 v2 n) ih h10)) (fun _ =>
    aw_goto (pc := 84) C (tgt := 94) dK_d_220.2.2.1 rfl <|
    aw_drop [0, 1, 2, 3, 4, 5] (aX11_bestRun_j94 C v1 v2 v3 v4 v6 (X11_bestRun_l29 v1 v2 n) ih h10))))
def X11_bestRun (v1 : Int32) (h : AH) : Option (Int32 × AH) :=
    bd (X11_isJumper v1 h) fun r1 h2 =>
    if r1 = 0 then (bd (X11_no (-1) h2) fun r13 h14 =>
    some (r13, h14))
    else (vl (h2.1 0 12) fun x3 =>
    vl (-1) fun x4 =>
    X11_bestRun_l29 v1 x3 FU 4 x4 4 h2)
set_option maxRecDepth 100000 in
theorem c_X11_bestRun (l : Launch) (v1 : Int32) : MC l yX11_bestRun cX11_bestRun 11 (some .int) rmX11_bestRun ZR [.ref 0, .int v1] rvI (X11_bestRun v1) :=
  MC.of (own := RX11) pn_RX11 rfl (Nat.le_of_ble_eq_true rfl) fun X yd A h _ C =>
    aw_aload_n (pc := 0) C (i := 0) dK_d_214.1 rfl rfl <|
    aw_iload_n (pc := 1) C (i := 1) dK_d_214.2.1 rfl rfl <|
    aw_callF (pc := 2) C (cr_V (rest := []) (F := (X11_isJumper v1)) C (c_X11_isJumper X.2.1 v1) dK_d_214.2.2.1 mf_X11_isJumper ml_X11_207 im_X11_isJumper se_X11_isJumper sR_0 rfl ⟨(Nat.le_of_ble_eq_true rfl), (Nat.le_of_ble_eq_true rfl)⟩ rfl rfl (Nat.le_of_ble_eq_true rfl)) rfl rfl rfl (Nat.zero_le _) (Nat.zero_le _) fun r1 h2 =>
    aw_if_ne (pc := 5) C (tgt := 14) dK_d_214.2.2.2.1 rfl (fun _ =>
    aw_aload_n (pc := 8) C (i := 0) dK_d_214.2.2.2.2.1 rfl rfl <|
    aw_iconst (pc := 9) C (v := (-1)) dK_d_214.2.2.2.2.2.1 rfl <|
    aw_callF (pc := 10) C (cr_V (rest := []) (F := (X11_no (-1))) C (c_X11_no X.2.1 (-1)) dK_d_214.2.2.2.2.2.2.1 mf_X11_no ml_X11_115 im_X11_no se_X11_no sR_0 rfl ⟨(Nat.le_of_ble_eq_true rfl), (Nat.le_of_ble_eq_true rfl)⟩ rfl rfl (Nat.le_of_ble_eq_true rfl)) rfl rfl rfl (Nat.zero_le _) (Nat.zero_le _) fun r13 h14 =>
    aw_iret (pc := 13) C dK_d_214.2.2.2.2.2.2.2.1 rfl rfl) (fun _ =>
    aw_aload_n (pc := 14) C (i := 0) dK_d_215.1 rfl rfl <|
    aw_getI (pc := 15) C dK_d_215.2.1 fl_X11_95 sR_0 rfl <|
    aw_istoreV_n (pc := 18) C (i := 2) (fun x3 => [(0, .ref 0), (1, .int v1), (2, .int x3)]) dK_d_215.2.2.1 rfl (by decide) (fun _ => rfl) fun x3 =>
    aw_iconst (pc := 19) C (v := 4) dK_d_215.2.2.2.1 rfl <|
    aw_istore_n (pc := 20) C (i := 3) (lv' := [(0, .ref 0), (1, .int v1), (2, .int x3), (3, .int 4)]) dK_d_215.2.2.2.2.1 rfl (by decide) rfl <|
    aw_ldc2_w (pc := 21) C (v := (-1)) dK_d_215.2.2.2.2.2.1 kc_X11_257 <|
    aw_lstoreV (pc := 24) C (i := 4) (fun x4 => [(0, .ref 0), (1, .int v1), (2, .int x3), (3, .int 4), (4, .long x4)]) dK_d_215.2.2.2.2.2.2.1 (by decide) (fun _ => rfl) fun x4 =>
    aw_iconst (pc := 26) C (v := 4) dK_d_215.2.2.2.2.2.2.2.1 rfl <|
    aw_istore (pc := 27) C (i := 6) (lv' := [(0, .ref 0), (1, .int v1), (2, .int x3), (3, .int 4), (4, .long x4), (6, .int 4)]) dK_d_216.1 (by decide) rfl <|
    (aX11_bestRun_l29 C v1 x3 FU 4 x4 4 h2))

abbrev rmX11_markIn : Room := { frames := 2, cells := 0, slots := 0, locals := 48 }
def X11_markIn_j20  (v1 : Int32) (v2 : Int32) (s0 : Int32) (h : AH) : Option (Int32 × AH) :=
    if s0 = 0 then (bd (X11_allStrides v1 v2 h) fun r5 h6 =>
    bd (X11_aimOf v1 h6) fun r7 h8 =>
    vl (r5 + r7) fun x9 =>
    if 0 ≤ x9 then (if x9 ≤ 2400 then (some (x9, h8))
    else (some (2400, h8)))
    else (some (0, h8)))
    else (bd (X11_no s0 h) fun r10 h11 =>
    some (r10, h11))
set_option maxRecDepth 100000 in
theorem aX11_markIn_j20 {X : MCx} {yd : Dyn} {A : Nat → Prop} (C : OK X cX11_markIn RX11 5 (some .int) rmX11_markIn A)  (v1 : Int32) (v2 : Int32) (s0 : Int32) (h : AH) : AW X 5 ZR yd A 0 0 (QF X rmX11_markIn ZR yd rvI A) 20 [(0, .ref 0), (1, .int v1), (2, .int v2)] [.int s0] h (X11_markIn_j20 v1 v2 s0 h) := by
    exact aw_istore_n (pc := 20) C (i := 3) (lv' := [(0, .ref 0), (1, .int v1), (2, .int v2), (3, .int s0)]) dK_d_223.2.2.1 rfl (by decide) rfl <|
    aw_iload_n (pc := 21) C (i := 3) dK_d_223.2.2.2.1 rfl rfl <|
    aw_if_eq (pc := 22) C (tgt := 31) dK_d_223.2.2.2.2.1 rfl (fun _ =>
    aw_aload_n (pc := 31) C (i := 0) dK_d_224.2.1 rfl rfl <|
    aw_iload_n (pc := 32) C (i := 1) dK_d_224.2.2.1 rfl rfl <|
    aw_iload_n (pc := 33) C (i := 2) dK_d_224.2.2.2.1 rfl rfl <|
    aw_callF (pc := 34) C (cr_V (rest := []) (F := (X11_allStrides v1 v2)) C (c_X11_allStrides X.2.1 v1 v2) dK_d_224.2.2.2.2.1 mf_X11_allStrides ml_X11_200 im_X11_allStrides se_X11_allStrides sR_0 rfl ⟨(Nat.le_of_ble_eq_true rfl), (Nat.le_of_ble_eq_true rfl)⟩ rfl rfl (Nat.le_of_ble_eq_true rfl)) rfl rfl rfl (Nat.zero_le _) (Nat.zero_le _) fun r5 h6 =>
    aw_aload_n (pc := 37) C (i := 0) dK_d_224.2.2.2.2.2.1 rfl rfl <|
    aw_iload_n (pc := 38) C (i := 1) dK_d_224.2.2.2.2.2.2.1 rfl rfl <|
    aw_callF (pc := 39) C (cr_V (rest := [.int r5]) (F := (X11_aimOf v1)) C (c_X11_aimOf X.2.1 v1) dK_d_224.2.2.2.2.2.2.2.1 mf_X11_aimOf ml_X11_210 im_X11_aimOf se_X11_aimOf sR_0 rfl ⟨(Nat.le_of_ble_eq_true rfl), (Nat.le_of_ble_eq_true rfl)⟩ rfl rfl (Nat.le_of_ble_eq_true rfl)) rfl rfl rfl (Nat.zero_le _) (Nat.zero_le _) fun r7 h8 =>
    aw_iadd (pc := 42) C dK_d_225.1 <|
    aw_istoreV (pc := 43) C (i := 4) (fun x9 => [(0, .ref 0), (1, .int v1), (2, .int v2), (3, .int s0), (4, .int x9)]) dK_d_225.2.1 (by decide) (fun _ => rfl) fun x9 =>
    aw_iload (pc := 45) C (i := 4) dK_d_225.2.2.1 rfl <|
    aw_if_ge (pc := 47) C (tgt := 54) dK_d_225.2.2.2.1 rfl (fun _ =>
    aw_iload (pc := 54) C (i := 4) dK_d_225.2.2.2.2.2.2.1 rfl <|
    aw_sipush (pc := 56) C (v := 2400) dK_d_225.2.2.2.2.2.2.2.1 rfl <|
    aw_icmp_le (pc := 59) C (tgt := 68) dK_d_226.1 rfl (fun _ =>
    aw_iload (pc := 68) C (i := 4) dK_d_226.2.2.2.1 rfl <|
    aw_iret (pc := 70) C dK_d_226.2.2.2.2.1 rfl rfl) (fun _ =>
    aw_sipush (pc := 62) C (v := 2400) dK_d_226.2.1 rfl <|
    aw_goto (pc := 65) C (tgt := 70) dK_d_226.2.2.1 rfl <|
    aw_iret (pc := 70) C dK_d_226.2.2.2.2.1 rfl rfl)) (fun _ =>
    aw_iconst (pc := 50) C (v := 0) dK_d_225.2.2.2.2.1 rfl <|
    aw_goto (pc := 51) C (tgt := 70) dK_d_225.2.2.2.2.2.1 rfl <|
    aw_iret (pc := 70) C dK_d_226.2.2.2.2.1 rfl rfl)) (fun _ =>
    aw_aload_n (pc := 25) C (i := 0) dK_d_223.2.2.2.2.2.1 rfl rfl <|
    aw_iload_n (pc := 26) C (i := 3) dK_d_223.2.2.2.2.2.2.1 rfl rfl <|
    aw_callF (pc := 27) C (cr_V (rest := []) (F := (X11_no s0)) C (c_X11_no X.2.1 s0) dK_d_223.2.2.2.2.2.2.2.1 mf_X11_no ml_X11_115 im_X11_no se_X11_no sR_0 rfl ⟨(Nat.le_of_ble_eq_true rfl), (Nat.le_of_ble_eq_true rfl)⟩ rfl rfl (Nat.le_of_ble_eq_true rfl)) rfl rfl rfl (Nat.zero_le _) (Nat.zero_le _) fun r10 h11 =>
    aw_iret (pc := 30) C dK_d_224.1 rfl rfl)
def X11_markIn (v1 : Int32) (v2 : Int32) (h : AH) : Option (Int32 × AH) :=
    bd (X11_isJumper v1 h) fun r1 h2 =>
    if r1 = 0 then (X11_markIn_j20 v1 v2 (-1) h2)
    else (bd (X11_bound v2 (-9) 9 h2) fun r3 h4 =>
    X11_markIn_j20 v1 v2 r3 h4)
set_option maxRecDepth 100000 in
theorem c_X11_markIn (l : Launch) (v1 : Int32) (v2 : Int32) : MC l yX11_markIn cX11_markIn 5 (some .int) rmX11_markIn ZR [.ref 0, .int v1, .int v2] rvI (X11_markIn v1 v2) :=
  MC.of (own := RX11) pn_RX11 rfl (Nat.le_of_ble_eq_true rfl) fun X yd A h _ C =>
    aw_aload_n (pc := 0) C (i := 0) dK_d_222.1 rfl rfl <|
    aw_iload_n (pc := 1) C (i := 1) dK_d_222.2.1 rfl rfl <|
    aw_callF (pc := 2) C (cr_V (rest := []) (F := (X11_isJumper v1)) C (c_X11_isJumper X.2.1 v1) dK_d_222.2.2.1 mf_X11_isJumper ml_X11_207 im_X11_isJumper se_X11_isJumper sR_0 rfl ⟨(Nat.le_of_ble_eq_true rfl), (Nat.le_of_ble_eq_true rfl)⟩ rfl rfl (Nat.le_of_ble_eq_true rfl)) rfl rfl rfl (Nat.zero_le _) (Nat.zero_le _) fun r1 h2 =>
    aw_if_ne (pc := 5) C (tgt := 12) dK_d_222.2.2.2.1 rfl (fun _ =>
    aw_iconst (pc := 8) C (v := (-1)) dK_d_222.2.2.2.2.1 rfl <|
    aw_goto (pc := 9) C (tgt := 20) dK_d_222.2.2.2.2.2.1 rfl <|
    (aX11_markIn_j20 C v1 v2 (-1) h2)) (fun _ =>
    aw_iload_n (pc := 12) C (i := 2) dK_d_222.2.2.2.2.2.2.1 rfl rfl <|
    aw_bipush (pc := 13) C (v := (-9)) dK_d_222.2.2.2.2.2.2.2.1 rfl <|
    aw_bipush (pc := 15) C (v := 9) dK_d_223.1 rfl <|
    aw_callF (pc := 17) C (cr_S (rest := []) (F := (X11_bound v2 (-9) 9)) C (c_X11_bound X.2.1 v2 (-9) 9) dK_d_223.2.1 mf_X11_bound ml_X11_108 st_X11_bound ⟨(Nat.le_of_ble_eq_true rfl), (Nat.le_of_ble_eq_true rfl)⟩ rfl rfl (Nat.le_of_ble_eq_true rfl)) rfl rfl rfl (Nat.zero_le _) (Nat.zero_le _) fun r3 h4 =>
    (aX11_markIn_j20 C v1 v2 r3 h4))

abbrev rmX11_triesBy : Room := { frames := 0, cells := 0, slots := 0, locals := 0 }
def X11_triesBy_j42  (v1 : Int32) (v2 : Int32) (v4 : Int32) (K5 : Int32 → Int32 → AH → Option (Int32 × AH)) (s0 : Int32) (s1 : Int32) (h : AH) : Option (Int32 × AH) :=
    vl (s1 + s0) fun x1 =>
    vl (v4 + 1) fun x2 =>
    K5 x1 x2 h
set_option maxRecDepth 100000 in
theorem aX11_triesBy_j42 {X : MCx} {yd : Dyn} {A : Nat → Prop} (C : OK X cX11_triesBy RX11 5 (some .int) rmX11_triesBy A)  (v1 : Int32) (v2 : Int32) (v4 : Int32) (K5 : Int32 → Int32 → AH → Option (Int32 × AH)) (hK5 : ∀ (w3 : Int32) (w4 : Int32) (h : AH), AW X 5 ZR yd A 0 0 (QF X rmX11_triesBy ZR yd rvI A) 5 [(0, .ref 0), (1, .int v1), (2, .int v2), (3, .int w3), (4, .int w4)] [] h (K5 w3 w4 h)) (s0 : Int32) (s1 : Int32) (h : AH) : AW X 5 ZR yd A 0 0 (QF X rmX11_triesBy ZR yd rvI A) 42 [(0, .ref 0), (1, .int v1), (2, .int v2), (4, .int v4)] [.int s0, .int s1] h (X11_triesBy_j42 v1 v2 v4 K5 s0 s1 h) := by
    exact aw_iadd (pc := 42) C dK_d_230.1 <|
    aw_istoreV_n (pc := 43) C (i := 3) (fun x1 => [(0, .ref 0), (1, .int v1), (2, .int v2), (3, .int x1), (4, .int v4)]) dK_d_230.2.1 rfl (by decide) (fun _ => rfl) fun x1 =>
    aw_iincV (pc := 44) C (i := 4) (cst := 1) (fun x2 => [(0, .ref 0), (1, .int v1), (2, .int v2), (3, .int x1), (4, .int x2)]) dK_d_230.2.2.1 rfl rfl (by decide) (fun _ => rfl) fun x2 =>
    aw_goto (pc := 47) C (tgt := 5) dK_d_230.2.2.2.1 rfl <|
    (hK5 x1 x2 h)
def X11_triesBy_j41  (v1 : Int32) (v2 : Int32) (v4 : Int32) (K5 : Int32 → Int32 → AH → Option (Int32 × AH)) (s0 : Int32) (h : AH) : Option (Int32 × AH) :=
    X11_triesBy_j42 v1 v2 v4 K5 0 s0 h
set_option maxRecDepth 100000 in
theorem aX11_triesBy_j41 {X : MCx} {yd : Dyn} {A : Nat → Prop} (C : OK X cX11_triesBy RX11 5 (some .int) rmX11_triesBy A)  (v1 : Int32) (v2 : Int32) (v4 : Int32) (K5 : Int32 → Int32 → AH → Option (Int32 × AH)) (hK5 : ∀ (w3 : Int32) (w4 : Int32) (h : AH), AW X 5 ZR yd A 0 0 (QF X rmX11_triesBy ZR yd rvI A) 5 [(0, .ref 0), (1, .int v1), (2, .int v2), (3, .int w3), (4, .int w4)] [] h (K5 w3 w4 h)) (s0 : Int32) (h : AH) : AW X 5 ZR yd A 0 0 (QF X rmX11_triesBy ZR yd rvI A) 41 [(0, .ref 0), (1, .int v1), (2, .int v2), (4, .int v4)] [.int s0] h (X11_triesBy_j41 v1 v2 v4 K5 s0 h) := by
    exact aw_iconst (pc := 41) C (v := 0) dK_d_229.2.2.2.2.2.2.2.1 rfl <|
    (aX11_triesBy_j42 C v1 v2 v4 K5 hK5 0 s0 h)
def X11_triesBy_l5  (v1 : Int32) (v2 : Int32) : Nat → Int32 → Int32 → AH → Option (Int32 × AH)
  | 0, _, _, _ => none
  | n + 1, v3, v4, h =>
    if (h.1 0 16) ≤ v4 then (some (v3, h))
    else (ck v4 24 (if (h.1 10 v4.toNatClampNeg) = v1 then (ck v4 24 (if (h.1 11 v4.toNatClampNeg) = v2 then (X11_triesBy_j42 v1 v2 v4 (X11_triesBy_l5 v1 v2 n) 1 v3 h)
    else (X11_triesBy_j41 v1 v2 v4 (X11_triesBy_l5 v1 v2 n) v3 h)))
    else (X11_triesBy_j41 v1 v2 v4 (X11_triesBy_l5 v1 v2 n) v3 h)))
set_option maxRecDepth 100000 in
theorem aX11_triesBy_l5 {X : MCx} {yd : Dyn} {A : Nat → Prop} (C : OK X cX11_triesBy RX11 5 (some .int) rmX11_triesBy A)  (v1 : Int32) (v2 : Int32) : ∀ (n : Nat) (v3 : Int32) (v4 : Int32) (h : AH), AW X 5 ZR yd A 0 0 (QF X rmX11_triesBy ZR yd rvI A) 5 [(0, .ref 0), (1, .int v1), (2, .int v2), (3, .int v3), (4, .int v4)] [] h (X11_triesBy_l5 v1 v2 n v3 v4 h) := by
  intro n
  induction n with
  | zero => intro v3 v4 h; exact aw_none
  | succ n ih =>
    intro v3 v4 h
    exact aw_iload (pc := 5) C (i := 4) dK_d_227.2.2.2.2.1 rfl <|
    aw_aload_n (pc := 7) C (i := 0) dK_d_227.2.2.2.2.2.1 rfl rfl <|
    aw_getI (pc := 8) C dK_d_227.2.2.2.2.2.2.1 fl_X11_147 sR_0 rfl <|
    aw_icmp_ge (pc := 11) C (tgt := 50) dK_d_227.2.2.2.2.2.2.2.1 rfl (fun _ =>
    aw_iload_n (pc := 50) C (i := 3) dK_d_230.2.2.2.2.1 rfl rfl <|
    aw_iret (pc := 51) C dK_d_230.2.2.2.2.2.1 rfl rfl) (fun _ =>
    aw_iload_n (pc := 14) C (i := 3) dK_d_228.1 rfl rfl <|
    aw_aload_n (pc := 15) C (i := 0) dK_d_228.2.1 rfl rfl <|
    aw_getR (pc := 16) C (b := 10) dK_d_228.2.2.1 fl_X11_37 sR_0 rfl rR_0_9 <|
    aw_iload (pc := 19) C (i := 4) dK_d_228.2.2.2.1 rfl <|
    aw_iald (pc := 21) C dK_d_228.2.2.2.2.1 sR_10 rfl <|
    aw_iload_n (pc := 22) C (i := 1) dK_d_228.2.2.2.2.2.1 rfl rfl <|
    aw_icmp_ne (pc := 23) C (tgt := 41) dK_d_228.2.2.2.2.2.2.1 rfl (fun _ =>
    aw_aload_n (pc := 26) C (i := 0) dK_d_228.2.2.2.2.2.2.2.1 rfl rfl <|
    aw_getR (pc := 27) C (b := 11) dK_d_229.1 fl_X11_40 sR_0 rfl rR_0_10 <|
    aw_iload (pc := 30) C (i := 4) dK_d_229.2.1 rfl <|
    aw_iald (pc := 32) C dK_d_229.2.2.1 sR_11 rfl <|
    aw_iload_n (pc := 33) C (i := 2) dK_d_229.2.2.2.1 rfl rfl <|
    aw_icmp_ne (pc := 34) C (tgt := 41) dK_d_229.2.2.2.2.1 rfl (fun _ =>
    aw_iconst (pc := 37) C (v := 1) dK_d_229.2.2.2.2.2.1 rfl <|
    aw_goto (pc := 38) C (tgt := 42) dK_d_229.2.2.2.2.2.2.1 rfl <|
    aw_drop [0, 1, 2, 4] (aX11_triesBy_j42 C v1 v2 v4 (X11_triesBy_l5 v1 v2 n) ih 1 v3 h)) (fun _ =>
    aw_drop [0, 1, 2, 4] (aX11_triesBy_j41 C v1 v2 v4 (X11_triesBy_l5 v1 v2 n) ih v3 h))) (fun _ =>
    aw_drop [0, 1, 2, 4] (aX11_triesBy_j41 C v1 v2 v4 (X11_triesBy_l5 v1 v2 n) ih v3 h)))
def X11_triesBy (v1 : Int32) (v2 : Int32) (h : AH) : Option (Int32 × AH) :=
    X11_triesBy_l5 v1 v2 FU 0 0 h
set_option maxRecDepth 100000 in
theorem c_X11_triesBy (l : Launch) (v1 : Int32) (v2 : Int32) : MC l yX11_triesBy cX11_triesBy 5 (some .int) rmX11_triesBy ZR [.ref 0, .int v1, .int v2] rvI (X11_triesBy v1 v2) :=
  MC.of (own := RX11) pn_RX11 rfl (Nat.le_of_ble_eq_true rfl) fun X yd A h _ C =>
    aw_iconst (pc := 0) C (v := 0) dK_d_227.1 rfl <|
    aw_istore_n (pc := 1) C (i := 3) (lv' := [(0, .ref 0), (1, .int v1), (2, .int v2), (3, .int 0)]) dK_d_227.2.1 rfl (by decide) rfl <|
    aw_iconst (pc := 2) C (v := 0) dK_d_227.2.2.1 rfl <|
    aw_istore (pc := 3) C (i := 4) (lv' := [(0, .ref 0), (1, .int v1), (2, .int v2), (3, .int 0), (4, .int 0)]) dK_d_227.2.2.2.1 (by decide) rfl <|
    (aX11_triesBy_l5 C v1 v2 FU 0 0 h)
end
section
abbrev rmX11_fouled : Room := { frames := 2, cells := 0, slots := 0, locals := 53 }
def X11_fouled (v1 : Int32) (v2 : Int32) (h : AH) : Option (Int64 × AH) :=
    bd (X11_isJumper v1 h) fun r1 h2 =>
    if r1 = 0 then (bd (X11_lowest (-1) h2) fun r16 h17 =>
    some (r16, h17))
    else (bd (X11_isIn v2 0 1 h2) fun r3 h4 =>
    if r3 = 0 then (bd (X11_lowest (-2) h4) fun r14 h15 =>
    some (r14, h15))
    else (bd (X11_triesOf v1 h4) fun r5 h6 =>
    bd (X11_triesBy v1 (-8) h6) fun r7 h8 =>
    vl (r5 - r7) fun x9 =>
    if x9 = 0 then (some (v2.toInt64, h8))
    else (bd (X11_triesBy v1 (-9) h8) fun r10 h11 =>
    bd (X11_partOf r10.toInt64 x9.toInt64 v2 h11) fun r12 h13 =>
    some (r12, h13))))
set_option maxRecDepth 100000 in
theorem c_X11_fouled (l : Launch) (v1 : Int32) (v2 : Int32) : MC l yX11_fouled cX11_fouled 4 (some .long) rmX11_fouled ZR [.ref 0, .int v1, .int v2] rvL (X11_fouled v1 v2) :=
  MC.of (own := RX11) pn_RX11 rfl (Nat.le_of_ble_eq_true rfl) fun X yd A h _ C =>
    aw_aload_n (pc := 0) C (i := 0) dK_d_231.1 rfl rfl <|
    aw_iload_n (pc := 1) C (i := 1) dK_d_231.2.1 rfl rfl <|
    aw_callF (pc := 2) C (cr_V (rest := []) (F := (X11_isJumper v1)) C (c_X11_isJumper X.2.1 v1) dK_d_231.2.2.1 mf_X11_isJumper ml_X11_207 im_X11_isJumper se_X11_isJumper sR_0 rfl ⟨(Nat.le_of_ble_eq_true rfl), (Nat.le_of_ble_eq_true rfl)⟩ rfl rfl (Nat.le_of_ble_eq_true rfl)) rfl rfl rfl (Nat.zero_le _) (Nat.zero_le _) fun r1 h2 =>
    aw_if_ne (pc := 5) C (tgt := 14) dK_d_231.2.2.2.1 rfl (fun _ =>
    aw_aload_n (pc := 8) C (i := 0) dK_d_231.2.2.2.2.1 rfl rfl <|
    aw_iconst (pc := 9) C (v := (-1)) dK_d_231.2.2.2.2.2.1 rfl <|
    aw_callF (pc := 10) C (cr_V (rest := []) (F := (X11_lowest (-1))) C (c_X11_lowest X.2.1 (-1)) dK_d_231.2.2.2.2.2.2.1 mf_X11_lowest ml_X11_238 im_X11_lowest se_X11_lowest sR_0 rfl ⟨(Nat.le_of_ble_eq_true rfl), (Nat.le_of_ble_eq_true rfl)⟩ rfl rfl (Nat.le_of_ble_eq_true rfl)) rfl rfl rfl (Nat.zero_le _) (Nat.zero_le _) fun r16 h17 =>
    aw_lret (pc := 13) C dK_d_231.2.2.2.2.2.2.2.1 rfl rfl) (fun _ =>
    aw_iload_n (pc := 14) C (i := 2) dK_d_232.1 rfl rfl <|
    aw_iconst (pc := 15) C (v := 0) dK_d_232.2.1 rfl <|
    aw_iconst (pc := 16) C (v := 1) dK_d_232.2.2.1 rfl <|
    aw_callF (pc := 17) C (cr_S (rest := []) (F := (X11_isIn v2 0 1)) C (c_X11_isIn X.2.1 v2 0 1) dK_d_232.2.2.2.1 mf_X11_isIn ml_X11_126 st_X11_isIn ⟨(Nat.le_of_ble_eq_true rfl), (Nat.le_of_ble_eq_true rfl)⟩ rfl rfl (Nat.le_of_ble_eq_true rfl)) rfl rfl rfl (Nat.zero_le _) (Nat.zero_le _) fun r3 h4 =>
    aw_if_ne (pc := 20) C (tgt := 30) dK_d_232.2.2.2.2.1 rfl (fun _ =>
    aw_aload_n (pc := 23) C (i := 0) dK_d_232.2.2.2.2.2.1 rfl rfl <|
    aw_bipush (pc := 24) C (v := (-2)) dK_d_232.2.2.2.2.2.2.1 rfl <|
    aw_callF (pc := 26) C (cr_V (rest := []) (F := (X11_lowest (-2))) C (c_X11_lowest X.2.1 (-2)) dK_d_232.2.2.2.2.2.2.2.1 mf_X11_lowest ml_X11_238 im_X11_lowest se_X11_lowest sR_0 rfl ⟨(Nat.le_of_ble_eq_true rfl), (Nat.le_of_ble_eq_true rfl)⟩ rfl rfl (Nat.le_of_ble_eq_true rfl)) rfl rfl rfl (Nat.zero_le _) (Nat.zero_le _) fun r14 h15 =>
    aw_lret (pc := 29) C dK_d_233.1 rfl rfl) (fun _ =>
    aw_aload_n (pc := 30) C (i := 0) dK_d_233.2.1 rfl rfl <|
    aw_iload_n (pc := 31) C (i := 1) dK_d_233.2.2.1 rfl rfl <|
    aw_callF (pc := 32) C (cr_V (rest := []) (F := (X11_triesOf v1)) C (c_X11_triesOf X.2.1 v1) dK_d_233.2.2.2.1 mf_X11_triesOf ml_X11_217 im_X11_triesOf se_X11_triesOf sR_0 rfl ⟨(Nat.le_of_ble_eq_true rfl), (Nat.le_of_ble_eq_true rfl)⟩ rfl rfl (Nat.le_of_ble_eq_true rfl)) rfl rfl rfl (Nat.zero_le _) (Nat.zero_le _) fun r5 h6 =>
    aw_aload_n (pc := 35) C (i := 0) dK_d_233.2.2.2.2.1 rfl rfl <|
    aw_iload_n (pc := 36) C (i := 1) dK_d_233.2.2.2.2.2.1 rfl rfl <|
    aw_bipush (pc := 37) C (v := (-8)) dK_d_233.2.2.2.2.2.2.1 rfl <|
    aw_callF (pc := 39) C (cr_V (rest := [.int r5]) (F := (X11_triesBy v1 (-8))) C (c_X11_triesBy X.2.1 v1 (-8)) dK_d_233.2.2.2.2.2.2.2.1 mf_X11_triesBy ml_X11_333 im_X11_triesBy se_X11_triesBy sR_0 rfl ⟨(Nat.le_of_ble_eq_true rfl), (Nat.le_of_ble_eq_true rfl)⟩ rfl rfl (Nat.le_of_ble_eq_true rfl)) rfl rfl rfl (Nat.zero_le _) (Nat.zero_le _) fun r7 h8 =>
    aw_isub (pc := 42) C dK_d_234.1 <|
    aw_istoreV_n (pc := 43) C (i := 3) (fun x9 => [(0, .ref 0), (1, .int v1), (2, .int v2), (3, .int x9)]) dK_d_234.2.1 rfl (by decide) (fun _ => rfl) fun x9 =>
    aw_iload_n (pc := 44) C (i := 3) dK_d_234.2.2.1 rfl rfl <|
    aw_if_ne (pc := 45) C (tgt := 53) dK_d_234.2.2.2.1 rfl (fun _ =>
    aw_iload_n (pc := 48) C (i := 2) dK_d_234.2.2.2.2.1 rfl rfl <|
    aw_i2l (pc := 49) C dK_d_234.2.2.2.2.2.1 <|
    aw_goto (pc := 50) C (tgt := 67) dK_d_234.2.2.2.2.2.2.1 rfl <|
    aw_lret (pc := 67) C dK_d_236.1 rfl rfl) (fun _ =>
    aw_aload_n (pc := 53) C (i := 0) dK_d_234.2.2.2.2.2.2.2.1 rfl rfl <|
    aw_iload_n (pc := 54) C (i := 1) dK_d_235.1 rfl rfl <|
    aw_bipush (pc := 55) C (v := (-9)) dK_d_235.2.1 rfl <|
    aw_callF (pc := 57) C (cr_V (rest := []) (F := (X11_triesBy v1 (-9))) C (c_X11_triesBy X.2.1 v1 (-9)) dK_d_235.2.2.1 mf_X11_triesBy ml_X11_333 im_X11_triesBy se_X11_triesBy sR_0 rfl ⟨(Nat.le_of_ble_eq_true rfl), (Nat.le_of_ble_eq_true rfl)⟩ rfl rfl (Nat.le_of_ble_eq_true rfl)) rfl rfl rfl (Nat.zero_le _) (Nat.zero_le _) fun r10 h11 =>
    aw_i2l (pc := 60) C dK_d_235.2.2.2.1 <|
    aw_iload_n (pc := 61) C (i := 3) dK_d_235.2.2.2.2.1 rfl rfl <|
    aw_i2l (pc := 62) C dK_d_235.2.2.2.2.2.1 <|
    aw_iload_n (pc := 63) C (i := 2) dK_d_235.2.2.2.2.2.2.1 rfl rfl <|
    aw_callF (pc := 64) C (cr_S (rest := []) (F := (X11_partOf r10.toInt64 x9.toInt64 v2)) C (c_X11_partOf X.2.1 r10.toInt64 x9.toInt64 v2) dK_d_235.2.2.2.2.2.2.2.1 mf_X11_partOf ml_X11_250 st_X11_partOf ⟨(Nat.le_of_ble_eq_true rfl), (Nat.le_of_ble_eq_true rfl)⟩ rfl rfl (Nat.le_of_ble_eq_true rfl)) rfl rfl rfl (Nat.zero_le _) (Nat.zero_le _) fun r12 h13 =>
    aw_lret (pc := 67) C dK_d_236.1 rfl rfl)))

abbrev rmX11_better : Room := { frames := 1, cells := 0, slots := 0, locals := 21 }
def X11_better_j66  (v1 : Int32) (v2 : Int32) (v3 : Int32) (v4 : Int32) (K21 : Int32 → Int32 → Int32 → AH → Option (Int32 × AH)) (h : AH) : Option (Int32 × AH) :=
    vl (v4 + 1) fun x3 =>
    K21 v2 v3 x3 h
set_option maxRecDepth 100000 in
theorem aX11_better_j66 {X : MCx} {yd : Dyn} {A : Nat → Prop} (C : OK X cX11_better RX11 5 (some .int) rmX11_better A)  (v1 : Int32) (v2 : Int32) (v3 : Int32) (v4 : Int32) (K21 : Int32 → Int32 → Int32 → AH → Option (Int32 × AH)) (hK21 : ∀ (w2 : Int32) (w3 : Int32) (w4 : Int32) (h : AH), AW X 5 ZR yd A 0 0 (QF X rmX11_better ZR yd rvI A) 21 [(0, .ref 0), (1, .int v1), (2, .int w2), (3, .int w3), (4, .int w4)] [] h (K21 w2 w3 w4 h)) (h : AH) : AW X 5 ZR yd A 0 0 (QF X rmX11_better ZR yd rvI A) 66 [(0, .ref 0), (1, .int v1), (2, .int v2), (3, .int v3), (4, .int v4)] [] h (X11_better_j66 v1 v2 v3 v4 K21 h) := by
    exact aw_iincV (pc := 66) C (i := 4) (cst := 1) (fun x3 => [(0, .ref 0), (1, .int v1), (2, .int v2), (3, .int v3), (4, .int x3)]) dK_d_241.2.2.2.2.2.1 rfl rfl (by decide) (fun _ => rfl) fun x3 =>
    aw_goto (pc := 69) C (tgt := 21) dK_d_241.2.2.2.2.2.2.1 rfl <|
    (hK21 v2 v3 x3 h)
def X11_better_l21  (v1 : Int32) : Nat → Int32 → Int32 → Int32 → AH → Option (Int32 × AH)
  | 0, _, _, _, _ => none
  | n + 1, v2, v3, v4, h =>
    if (h.1 0 16) ≤ v4 then (some (v3, h))
    else (ck v4 24 (if (h.1 10 v4.toNatClampNeg) = v1 then (ck v4 24 (if v2 < (h.1 11 v4.toNatClampNeg) then (ck v4 24 (vl (h.1 11 v4.toNatClampNeg) fun x4 =>
    vl (v3 + 1) fun x5 =>
    X11_better_j66 v1 x4 x5 v4 (X11_better_l21 v1 n) h))
    else (X11_better_j66 v1 v2 v3 v4 (X11_better_l21 v1 n) h)))
    else (X11_better_j66 v1 v2 v3 v4 (X11_better_l21 v1 n) h)))
set_option maxRecDepth 100000 in
theorem aX11_better_l21 {X : MCx} {yd : Dyn} {A : Nat → Prop} (C : OK X cX11_better RX11 5 (some .int) rmX11_better A)  (v1 : Int32) : ∀ (n : Nat) (v2 : Int32) (v3 : Int32) (v4 : Int32) (h : AH), AW X 5 ZR yd A 0 0 (QF X rmX11_better ZR yd rvI A) 21 [(0, .ref 0), (1, .int v1), (2, .int v2), (3, .int v3), (4, .int v4)] [] h (X11_better_l21 v1 n v2 v3 v4 h) := by
  intro n
  induction n with
  | zero => intro v2 v3 v4 h; exact aw_none
  | succ n ih =>
    intro v2 v3 v4 h
    exact aw_iload (pc := 21) C (i := 4) dK_d_238.2.2.2.2.2.2.1 rfl <|
    aw_aload_n (pc := 23) C (i := 0) dK_d_238.2.2.2.2.2.2.2.1 rfl rfl <|
    aw_getI (pc := 24) C dK_d_239.1 fl_X11_147 sR_0 rfl <|
    aw_icmp_ge (pc := 27) C (tgt := 72) dK_d_239.2.1 rfl (fun _ =>
    aw_iload_n (pc := 72) C (i := 3) dK_d_241.2.2.2.2.2.2.2.1 rfl rfl <|
    aw_iret (pc := 73) C dK_d_242.1 rfl rfl) (fun _ =>
    aw_aload_n (pc := 30) C (i := 0) dK_d_239.2.2.1 rfl rfl <|
    aw_getR (pc := 31) C (b := 10) dK_d_239.2.2.2.1 fl_X11_37 sR_0 rfl rR_0_9 <|
    aw_iload (pc := 34) C (i := 4) dK_d_239.2.2.2.2.1 rfl <|
    aw_iald (pc := 36) C dK_d_239.2.2.2.2.2.1 sR_10 rfl <|
    aw_iload_n (pc := 37) C (i := 1) dK_d_239.2.2.2.2.2.2.1 rfl rfl <|
    aw_icmp_ne (pc := 38) C (tgt := 66) dK_d_239.2.2.2.2.2.2.2.1 rfl (fun _ =>
    aw_aload_n (pc := 41) C (i := 0) dK_d_240.1 rfl rfl <|
    aw_getR (pc := 42) C (b := 11) dK_d_240.2.1 fl_X11_40 sR_0 rfl rR_0_10 <|
    aw_iload (pc := 45) C (i := 4) dK_d_240.2.2.1 rfl <|
    aw_iald (pc := 47) C dK_d_240.2.2.2.1 sR_11 rfl <|
    aw_iload_n (pc := 48) C (i := 2) dK_d_240.2.2.2.2.1 rfl rfl <|
    aw_icmp_gt (pc := 49) C (tgt := 55) dK_d_240.2.2.2.2.2.1 rfl (fun _ =>
    aw_aload_n (pc := 55) C (i := 0) dK_d_240.2.2.2.2.2.2.2.1 rfl rfl <|
    aw_getR (pc := 56) C (b := 11) dK_d_241.1 fl_X11_40 sR_0 rfl rR_0_10 <|
    aw_iload (pc := 59) C (i := 4) dK_d_241.2.1 rfl <|
    aw_iald (pc := 61) C dK_d_241.2.2.1 sR_11 rfl <|
    aw_istoreV_n (pc := 62) C (i := 2) (fun x4 => [(0, .ref 0), (1, .int v1), (2, .int x4), (3, .int v3), (4, .int v4)]) dK_d_241.2.2.2.1 rfl (by decide) (fun _ => rfl) fun x4 =>
    aw_iincV (pc := 63) C (i := 3) (cst := 1) (fun x5 => [(0, .ref 0), (1, .int v1), (2, .int x4), (3, .int x5), (4, .int v4)]) dK_d_241.2.2.2.2.1 rfl rfl (by decide) (fun _ => rfl) fun x5 =>
    (aX11_better_j66 C v1 x4 x5 v4 (X11_better_l21 v1 n) ih h)) (fun _ =>
    aw_goto (pc := 52) C (tgt := 66) dK_d_240.2.2.2.2.2.2.1 rfl <|
    (aX11_better_j66 C v1 v2 v3 v4 (X11_better_l21 v1 n) ih h))) (fun _ =>
    (aX11_better_j66 C v1 v2 v3 v4 (X11_better_l21 v1 n) ih h)))
def X11_better (v1 : Int32) (h : AH) : Option (Int32 × AH) :=
    bd (X11_isJumper v1 h) fun r1 h2 =>
    if r1 = 0 then (bd (X11_no (-1) h2) fun r6 h7 =>
    some (r6, h7))
    else (X11_better_l21 v1 FU 0 0 0 h2)
set_option maxRecDepth 100000 in
theorem c_X11_better (l : Launch) (v1 : Int32) : MC l yX11_better cX11_better 5 (some .int) rmX11_better ZR [.ref 0, .int v1] rvI (X11_better v1) :=
  MC.of (own := RX11) pn_RX11 rfl (Nat.le_of_ble_eq_true rfl) fun X yd A h _ C =>
    aw_aload_n (pc := 0) C (i := 0) dK_d_237.1 rfl rfl <|
    aw_iload_n (pc := 1) C (i := 1) dK_d_237.2.1 rfl rfl <|
    aw_callF (pc := 2) C (cr_V (rest := []) (F := (X11_isJumper v1)) C (c_X11_isJumper X.2.1 v1) dK_d_237.2.2.1 mf_X11_isJumper ml_X11_207 im_X11_isJumper se_X11_isJumper sR_0 rfl ⟨(Nat.le_of_ble_eq_true rfl), (Nat.le_of_ble_eq_true rfl)⟩ rfl rfl (Nat.le_of_ble_eq_true rfl)) rfl rfl rfl (Nat.zero_le _) (Nat.zero_le _) fun r1 h2 =>
    aw_if_ne (pc := 5) C (tgt := 14) dK_d_237.2.2.2.1 rfl (fun _ =>
    aw_aload_n (pc := 8) C (i := 0) dK_d_237.2.2.2.2.1 rfl rfl <|
    aw_iconst (pc := 9) C (v := (-1)) dK_d_237.2.2.2.2.2.1 rfl <|
    aw_callF (pc := 10) C (cr_V (rest := []) (F := (X11_no (-1))) C (c_X11_no X.2.1 (-1)) dK_d_237.2.2.2.2.2.2.1 mf_X11_no ml_X11_115 im_X11_no se_X11_no sR_0 rfl ⟨(Nat.le_of_ble_eq_true rfl), (Nat.le_of_ble_eq_true rfl)⟩ rfl rfl (Nat.le_of_ble_eq_true rfl)) rfl rfl rfl (Nat.zero_le _) (Nat.zero_le _) fun r6 h7 =>
    aw_iret (pc := 13) C dK_d_237.2.2.2.2.2.2.2.1 rfl rfl) (fun _ =>
    aw_iconst (pc := 14) C (v := 0) dK_d_238.1 rfl <|
    aw_istore_n (pc := 15) C (i := 2) (lv' := [(0, .ref 0), (1, .int v1), (2, .int 0)]) dK_d_238.2.1 rfl (by decide) rfl <|
    aw_iconst (pc := 16) C (v := 0) dK_d_238.2.2.1 rfl <|
    aw_istore_n (pc := 17) C (i := 3) (lv' := [(0, .ref 0), (1, .int v1), (2, .int 0), (3, .int 0)]) dK_d_238.2.2.2.1 rfl (by decide) rfl <|
    aw_iconst (pc := 18) C (v := 0) dK_d_238.2.2.2.2.1 rfl <|
    aw_istore (pc := 19) C (i := 4) (lv' := [(0, .ref 0), (1, .int v1), (2, .int 0), (3, .int 0), (4, .int 0)]) dK_d_238.2.2.2.2.2.1 (by decide) rfl <|
    (aX11_better_l21 C v1 FU 0 0 0 h2))

abbrev rmX11_half : Room := { frames := 1, cells := 0, slots := 0, locals := 21 }
def X11_half_j117  (v1 : Int32) (v2 : Int32) (v3 : Int32) (K18 : Int32 → Int32 → AH → Option (Int32 × AH)) (h : AH) : Option (Int32 × AH) :=
    vl (v3 + 1) fun x3 =>
    K18 v2 x3 h
set_option maxRecDepth 100000 in
theorem aX11_half_j117 {X : MCx} {yd : Dyn} {A : Nat → Prop} (C : OK X cX11_half RX11 6 (some .int) rmX11_half A)  (v1 : Int32) (v2 : Int32) (v3 : Int32) (K18 : Int32 → Int32 → AH → Option (Int32 × AH)) (hK18 : ∀ (w2 : Int32) (w3 : Int32) (h : AH), AW X 6 ZR yd A 0 0 (QF X rmX11_half ZR yd rvI A) 18 [(0, .ref 0), (1, .int v1), (2, .int w2), (3, .int w3)] [] h (K18 w2 w3 h)) (h : AH) : AW X 6 ZR yd A 0 0 (QF X rmX11_half ZR yd rvI A) 117 [(0, .ref 0), (1, .int v1), (2, .int v2), (3, .int v3)] [] h (X11_half_j117 v1 v2 v3 K18 h) := by
    exact aw_iincV (pc := 117) C (i := 3) (cst := 1) (fun x3 => [(0, .ref 0), (1, .int v1), (2, .int v2), (3, .int x3)]) dK_d_251.2.1 rfl rfl (by decide) (fun _ => rfl) fun x3 =>
    aw_goto (pc := 120) C (tgt := 18) dK_d_251.2.2.1 rfl <|
    (hK18 v2 x3 h)
def X11_half_j105  (v1 : Int32) (v2 : Int32) (v3 : Int32) (v4 : Int32) (v5 : Int32) (K18 : Int32 → Int32 → AH → Option (Int32 × AH)) (h : AH) : Option (Int32 × AH) :=
    ck v5 6 (vl (sI h 28 v5.toNatClampNeg v4) fun h6 =>
    vl (v2 + 1) fun x7 =>
    X11_half_j117 v1 x7 v3 K18 h6)
set_option maxRecDepth 100000 in
theorem aX11_half_j105 {X : MCx} {yd : Dyn} {A : Nat → Prop} (C : OK X cX11_half RX11 6 (some .int) rmX11_half A)  (v1 : Int32) (v2 : Int32) (v3 : Int32) (v4 : Int32) (v5 : Int32) (K18 : Int32 → Int32 → AH → Option (Int32 × AH)) (hK18 : ∀ (w2 : Int32) (w3 : Int32) (h : AH), AW X 6 ZR yd A 0 0 (QF X rmX11_half ZR yd rvI A) 18 [(0, .ref 0), (1, .int v1), (2, .int w2), (3, .int w3)] [] h (K18 w2 w3 h)) (h : AH) : AW X 6 ZR yd A 0 0 (QF X rmX11_half ZR yd rvI A) 105 [(0, .ref 0), (1, .int v1), (2, .int v2), (3, .int v3), (4, .int v4), (5, .int v5)] [] h (X11_half_j105 v1 v2 v3 v4 v5 K18 h) := by
    exact aw_aload_n (pc := 105) C (i := 0) dK_d_250.2.2.2.1 rfl rfl <|
    aw_getR (pc := 106) C (b := 28) dK_d_250.2.2.2.2.1 fl_X11_92 sR_0 rfl rR_0_39 <|
    aw_iload (pc := 109) C (i := 5) dK_d_250.2.2.2.2.2.1 rfl <|
    aw_iload (pc := 111) C (i := 4) dK_d_250.2.2.2.2.2.2.1 rfl <|
    aw_iast (pc := 113) C dK_d_250.2.2.2.2.2.2.2.1 sR_28 rfl fun h6 =>
    aw_iincV (pc := 114) C (i := 2) (cst := 1) (fun x7 => [(0, .ref 0), (1, .int v1), (2, .int x7), (3, .int v3), (4, .int v4), (5, .int v5)]) dK_d_251.1 rfl rfl (by decide) (fun _ => rfl) fun x7 =>
    aw_drop [0, 1, 2, 3] (aX11_half_j117 C v1 x7 v3 K18 hK18 h6)
def X11_half_l64  (v1 : Int32) (v2 : Int32) (v3 : Int32) (v4 : Int32) (K18 : Int32 → Int32 → AH → Option (Int32 × AH)) : Nat → Int32 → AH → Option (Int32 × AH)
  | 0, _, _ => none
  | n + 1, v5, h =>
    if v5 ≤ 0 then (X11_half_j105 v1 v2 v3 v4 v5 K18 h)
    else (ck (v5 - 1) 6 (if (h.1 28 (v5 - 1).toNatClampNeg) ≤ v4 then (X11_half_j105 v1 v2 v3 v4 v5 K18 h)
    else (ck (v5 - 1) 6 (ck v5 6 (vl (sI h 28 v5.toNatClampNeg (h.1 28 (v5 - 1).toNatClampNeg)) fun h8 =>
    vl (v5 + (-1)) fun x9 =>
    (X11_half_l64 v1 v2 v3 v4 K18 n) x9 h8)))))
set_option maxRecDepth 100000 in
theorem aX11_half_l64 {X : MCx} {yd : Dyn} {A : Nat → Prop} (C : OK X cX11_half RX11 6 (some .int) rmX11_half A)  (v1 : Int32) (v2 : Int32) (v3 : Int32) (v4 : Int32) (K18 : Int32 → Int32 → AH → Option (Int32 × AH)) (hK18 : ∀ (w2 : Int32) (w3 : Int32) (h : AH), AW X 6 ZR yd A 0 0 (QF X rmX11_half ZR yd rvI A) 18 [(0, .ref 0), (1, .int v1), (2, .int w2), (3, .int w3)] [] h (K18 w2 w3 h)) : ∀ (n : Nat) (v5 : Int32) (h : AH), AW X 6 ZR yd A 0 0 (QF X rmX11_half ZR yd rvI A) 64 [(0, .ref 0), (1, .int v1), (2, .int v2), (3, .int v3), (4, .int v4), (5, .int v5)] [] h (X11_half_l64 v1 v2 v3 v4 K18 n v5 h) := by
  intro n
  induction n with
  | zero => intro v5 h; exact aw_none
  | succ n ih =>
    intro v5 h
    exact aw_iload (pc := 64) C (i := 5) dK_d_247.2.2.2.2.2.1 rfl <|
    aw_if_le (pc := 66) C (tgt := 105) dK_d_247.2.2.2.2.2.2.1 rfl (fun _ =>
    (aX11_half_j105 C v1 v2 v3 v4 v5 K18 hK18 h)) (fun _ =>
    aw_aload_n (pc := 69) C (i := 0) dK_d_247.2.2.2.2.2.2.2.1 rfl rfl <|
    aw_getR (pc := 70) C (b := 28) dK_d_248.1 fl_X11_92 sR_0 rfl rR_0_39 <|
    aw_iload (pc := 73) C (i := 5) dK_d_248.2.1 rfl <|
    aw_iconst (pc := 75) C (v := 1) dK_d_248.2.2.1 rfl <|
    aw_isub (pc := 76) C dK_d_248.2.2.2.1 <|
    aw_iald (pc := 77) C dK_d_248.2.2.2.2.1 sR_28 rfl <|
    aw_iload (pc := 78) C (i := 4) dK_d_248.2.2.2.2.2.1 rfl <|
    aw_icmp_le (pc := 80) C (tgt := 105) dK_d_248.2.2.2.2.2.2.1 rfl (fun _ =>
    (aX11_half_j105 C v1 v2 v3 v4 v5 K18 hK18 h)) (fun _ =>
    aw_aload_n (pc := 83) C (i := 0) dK_d_248.2.2.2.2.2.2.2.1 rfl rfl <|
    aw_getR (pc := 84) C (b := 28) dK_d_249.1 fl_X11_92 sR_0 rfl rR_0_39 <|
    aw_iload (pc := 87) C (i := 5) dK_d_249.2.1 rfl <|
    aw_aload_n (pc := 89) C (i := 0) dK_d_249.2.2.1 rfl rfl <|
    aw_getR (pc := 90) C (b := 28) dK_d_249.2.2.2.1 fl_X11_92 sR_0 rfl rR_0_39 <|
    aw_iload (pc := 93) C (i := 5) dK_d_249.2.2.2.2.1 rfl <|
    aw_iconst (pc := 95) C (v := 1) dK_d_249.2.2.2.2.2.1 rfl <|
    aw_isub (pc := 96) C dK_d_249.2.2.2.2.2.2.1 <|
    aw_iald (pc := 97) C dK_d_249.2.2.2.2.2.2.2.1 sR_28 rfl <|
    aw_iast (pc := 98) C dK_d_250.1 sR_28 rfl fun h8 =>
    aw_iincV (pc := 99) C (i := 5) (cst := (-1)) (fun x9 => [(0, .ref 0), (1, .int v1), (2, .int v2), (3, .int v3), (4, .int v4), (5, .int x9)]) dK_d_250.2.1 rfl rfl (by decide) (fun _ => rfl) fun x9 =>
    aw_goto (pc := 102) C (tgt := 64) dK_d_250.2.2.1 rfl <|
    (ih x9 h8)))
def X11_half_l18  (v1 : Int32) : Nat → Int32 → Int32 → AH → Option (Int32 × AH)
  | 0, _, _, _ => none
  | n + 1, v2, v3, h =>
    if (h.1 0 16) ≤ v3 then (if v2 = 0 then (some ((-9), h))
    else (ck ((v2 - 1) / 2) 6 (some ((h.1 28 ((v2 - 1) / 2).toNatClampNeg), h))))
    else (ck v3 24 (if (h.1 10 v3.toNatClampNeg) = v1 then (ck v3 24 (if (h.1 11 v3.toNatClampNeg) = (-8) then (X11_half_j117 v1 v2 v3 (X11_half_l18 v1 n) h)
    else (ck v3 24 (bd (X11_atLeast0 (h.1 11 v3.toNatClampNeg) h) fun r4 h5 =>
    X11_half_l64 v1 v2 v3 r4 (X11_half_l18 v1 n) FU v2 h5))))
    else (X11_half_j117 v1 v2 v3 (X11_half_l18 v1 n) h)))
set_option maxRecDepth 100000 in
theorem aX11_half_l18 {X : MCx} {yd : Dyn} {A : Nat → Prop} (C : OK X cX11_half RX11 6 (some .int) rmX11_half A)  (v1 : Int32) : ∀ (n : Nat) (v2 : Int32) (v3 : Int32) (h : AH), AW X 6 ZR yd A 0 0 (QF X rmX11_half ZR yd rvI A) 18 [(0, .ref 0), (1, .int v1), (2, .int v2), (3, .int v3)] [] h (X11_half_l18 v1 n v2 v3 h) := by
  intro n
  induction n with
  | zero => intro v2 v3 h; exact aw_none
  | succ n ih =>
    intro v2 v3 h
    exact aw_iload_n (pc := 18) C (i := 3) dK_d_244.2.2.2.2.1 rfl rfl <|
    aw_aload_n (pc := 19) C (i := 0) dK_d_244.2.2.2.2.2.1 rfl rfl <|
    aw_getI (pc := 20) C dK_d_244.2.2.2.2.2.2.1 fl_X11_147 sR_0 rfl <|
    aw_icmp_ge (pc := 23) C (tgt := 123) dK_d_244.2.2.2.2.2.2.2.1 rfl (fun _ =>
    aw_iload_n (pc := 123) C (i := 2) dK_d_251.2.2.2.1 rfl rfl <|
    aw_if_ne (pc := 124) C (tgt := 132) dK_d_251.2.2.2.2.1 rfl (fun _ =>
    aw_bipush (pc := 127) C (v := (-9)) dK_d_251.2.2.2.2.2.1 rfl <|
    aw_goto (pc := 129) C (tgt := 142) dK_d_251.2.2.2.2.2.2.1 rfl <|
    aw_iret (pc := 142) C dK_d_252.2.2.2.2.2.2.2.1 rfl rfl) (fun _ =>
    aw_aload_n (pc := 132) C (i := 0) dK_d_251.2.2.2.2.2.2.2.1 rfl rfl <|
    aw_getR (pc := 133) C (b := 28) dK_d_252.1 fl_X11_92 sR_0 rfl rR_0_39 <|
    aw_iload_n (pc := 136) C (i := 2) dK_d_252.2.1 rfl rfl <|
    aw_iconst (pc := 137) C (v := 1) dK_d_252.2.2.1 rfl <|
    aw_isub (pc := 138) C dK_d_252.2.2.2.1 <|
    aw_iconst (pc := 139) C (v := 2) dK_d_252.2.2.2.2.1 rfl <|
    aw_idivK (pc := 140) C dK_d_252.2.2.2.2.2.1 (by decide) <|
    aw_iald (pc := 141) C dK_d_252.2.2.2.2.2.2.1 sR_28 rfl <|
    aw_iret (pc := 142) C dK_d_252.2.2.2.2.2.2.2.1 rfl rfl)) (fun _ =>
    aw_aload_n (pc := 26) C (i := 0) dK_d_245.1 rfl rfl <|
    aw_getR (pc := 27) C (b := 10) dK_d_245.2.1 fl_X11_37 sR_0 rfl rR_0_9 <|
    aw_iload_n (pc := 30) C (i := 3) dK_d_245.2.2.1 rfl rfl <|
    aw_iald (pc := 31) C dK_d_245.2.2.2.1 sR_10 rfl <|
    aw_iload_n (pc := 32) C (i := 1) dK_d_245.2.2.2.2.1 rfl rfl <|
    aw_icmp_ne (pc := 33) C (tgt := 117) dK_d_245.2.2.2.2.2.1 rfl (fun _ =>
    aw_aload_n (pc := 36) C (i := 0) dK_d_245.2.2.2.2.2.2.1 rfl rfl <|
    aw_getR (pc := 37) C (b := 11) dK_d_245.2.2.2.2.2.2.2.1 fl_X11_40 sR_0 rfl rR_0_10 <|
    aw_iload_n (pc := 40) C (i := 3) dK_d_246.1 rfl rfl <|
    aw_iald (pc := 41) C dK_d_246.2.1 sR_11 rfl <|
    aw_bipush (pc := 42) C (v := (-8)) dK_d_246.2.2.1 rfl <|
    aw_icmp_ne (pc := 44) C (tgt := 50) dK_d_246.2.2.2.1 rfl (fun _ =>
    aw_goto (pc := 47) C (tgt := 117) dK_d_246.2.2.2.2.1 rfl <|
    (aX11_half_j117 C v1 v2 v3 (X11_half_l18 v1 n) ih h)) (fun _ =>
    aw_aload_n (pc := 50) C (i := 0) dK_d_246.2.2.2.2.2.1 rfl rfl <|
    aw_getR (pc := 51) C (b := 11) dK_d_246.2.2.2.2.2.2.1 fl_X11_40 sR_0 rfl rR_0_10 <|
    aw_iload_n (pc := 54) C (i := 3) dK_d_246.2.2.2.2.2.2.2.1 rfl rfl <|
    aw_iald (pc := 55) C dK_d_247.1 sR_11 rfl <|
    aw_callF (pc := 56) C (cr_S (rest := []) (F := (X11_atLeast0 (h.1 11 v3.toNatClampNeg))) C (c_X11_atLeast0 X.2.1 (h.1 11 v3.toNatClampNeg)) dK_d_247.2.1 mf_X11_atLeast0 ml_X11_204 st_X11_atLeast0 ⟨(Nat.le_of_ble_eq_true rfl), (Nat.le_of_ble_eq_true rfl)⟩ rfl rfl (Nat.le_of_ble_eq_true rfl)) rfl rfl rfl (Nat.zero_le _) (Nat.zero_le _) fun r4 h5 =>
    aw_istore (pc := 59) C (i := 4) (lv' := [(0, .ref 0), (1, .int v1), (2, .int v2), (3, .int v3), (4, .int r4)]) dK_d_247.2.2.1 (by decide) rfl <|
    aw_iload_n (pc := 61) C (i := 2) dK_d_247.2.2.2.1 rfl rfl <|
    aw_istore (pc := 62) C (i := 5) (lv' := [(0, .ref 0), (1, .int v1), (2, .int v2), (3, .int v3), (4, .int r4), (5, .int v2)]) dK_d_247.2.2.2.2.1 (by decide) rfl <|
    (aX11_half_l64 C v1 v2 v3 r4 (X11_half_l18 v1 n) ih FU v2 h5))) (fun _ =>
    (aX11_half_j117 C v1 v2 v3 (X11_half_l18 v1 n) ih h)))
def X11_half (v1 : Int32) (h : AH) : Option (Int32 × AH) :=
    bd (X11_isJumper v1 h) fun r1 h2 =>
    if r1 = 0 then (bd (X11_no (-1) h2) fun r10 h11 =>
    some (r10, h11))
    else (X11_half_l18 v1 FU 0 0 h2)
set_option maxRecDepth 100000 in
theorem c_X11_half (l : Launch) (v1 : Int32) : MC l yX11_half cX11_half 6 (some .int) rmX11_half ZR [.ref 0, .int v1] rvI (X11_half v1) :=
  MC.of (own := RX11) pn_RX11 rfl (Nat.le_of_ble_eq_true rfl) fun X yd A h _ C =>
    aw_aload_n (pc := 0) C (i := 0) dK_d_243.1 rfl rfl <|
    aw_iload_n (pc := 1) C (i := 1) dK_d_243.2.1 rfl rfl <|
    aw_callF (pc := 2) C (cr_V (rest := []) (F := (X11_isJumper v1)) C (c_X11_isJumper X.2.1 v1) dK_d_243.2.2.1 mf_X11_isJumper ml_X11_207 im_X11_isJumper se_X11_isJumper sR_0 rfl ⟨(Nat.le_of_ble_eq_true rfl), (Nat.le_of_ble_eq_true rfl)⟩ rfl rfl (Nat.le_of_ble_eq_true rfl)) rfl rfl rfl (Nat.zero_le _) (Nat.zero_le _) fun r1 h2 =>
    aw_if_ne (pc := 5) C (tgt := 14) dK_d_243.2.2.2.1 rfl (fun _ =>
    aw_aload_n (pc := 8) C (i := 0) dK_d_243.2.2.2.2.1 rfl rfl <|
    aw_iconst (pc := 9) C (v := (-1)) dK_d_243.2.2.2.2.2.1 rfl <|
    aw_callF (pc := 10) C (cr_V (rest := []) (F := (X11_no (-1))) C (c_X11_no X.2.1 (-1)) dK_d_243.2.2.2.2.2.2.1 mf_X11_no ml_X11_115 im_X11_no se_X11_no sR_0 rfl ⟨(Nat.le_of_ble_eq_true rfl), (Nat.le_of_ble_eq_true rfl)⟩ rfl rfl (Nat.le_of_ble_eq_true rfl)) rfl rfl rfl (Nat.zero_le _) (Nat.zero_le _) fun r10 h11 =>
    aw_iret (pc := 13) C dK_d_243.2.2.2.2.2.2.2.1 rfl rfl) (fun _ =>
    aw_iconst (pc := 14) C (v := 0) dK_d_244.1 rfl <|
    aw_istore_n (pc := 15) C (i := 2) (lv' := [(0, .ref 0), (1, .int v1), (2, .int 0)]) dK_d_244.2.1 rfl (by decide) rfl <|
    aw_iconst (pc := 16) C (v := 0) dK_d_244.2.2.1 rfl <|
    aw_istore_n (pc := 17) C (i := 3) (lv' := [(0, .ref 0), (1, .int v1), (2, .int 0), (3, .int 0)]) dK_d_244.2.2.2.1 rfl (by decide) rfl <|
    (aX11_half_l18 C v1 FU 0 0 h2))

abbrev rmX11_safe : Room := { frames := 4, cells := 0, slots := 0, locals := 90 }
def X11_safe_j60  (v1 : Int32) (v2 : Int32) (v3 : Int32) (K16 : Int32 → AH → Option (Int32 × AH)) (K34 : Int32 → AH → Option (Int32 × AH)) (s0 : Int32) (s1 : Int32) (h : AH) : Option (Int32 × AH) :=
    bd (X11_comesLength s1 s0 h) fun _ h15 =>
    vl (v3 + 1) fun x16 =>
    K34 x16 h15
set_option maxRecDepth 100000 in
theorem aX11_safe_j60 {X : MCx} {yd : Dyn} {A : Nat → Prop} (C : OK X cX11_safe RX11 4 (some .int) rmX11_safe A)  (v1 : Int32) (v2 : Int32) (v3 : Int32) (K16 : Int32 → AH → Option (Int32 × AH)) (hK16 : ∀ (w2 : Int32) (h : AH), AW X 4 ZR yd A 0 0 (QF X rmX11_safe ZR yd rvI A) 16 [(0, .ref 0), (1, .int v1), (2, .int w2)] [] h (K16 w2 h)) (K34 : Int32 → AH → Option (Int32 × AH)) (hK34 : ∀ (w3 : Int32) (h : AH), AW X 4 ZR yd A 0 0 (QF X rmX11_safe ZR yd rvI A) 34 [(0, .ref 0), (1, .int v1), (2, .int v2), (3, .int w3)] [] h (K34 w3 h)) (s0 : Int32) (s1 : Int32) (h : AH) : AW X 4 ZR yd A 0 0 (QF X rmX11_safe ZR yd rvI A) 60 [(0, .ref 0), (1, .int v1), (2, .int v2), (3, .int v3)] [.int s0, .int s1, .ref 0] h (X11_safe_j60 v1 v2 v3 K16 K34 s0 s1 h) := by
    exact aw_callF (pc := 60) C (cr_V (rest := []) (F := (X11_comesLength s1 s0)) C (c_X11_comesLength X.2.1 s1 s0) dK_d_257.2.2.2.2.1 mf_X11_comesLength ml_X11_262 im_X11_comesLength se_X11_comesLength sR_0 rfl ⟨(Nat.le_of_ble_eq_true rfl), (Nat.le_of_ble_eq_true rfl)⟩ rfl rfl (Nat.le_of_ble_eq_true rfl)) rfl rfl rfl (Nat.zero_le _) (Nat.zero_le _) fun _ h15 =>
    aw_iincV (pc := 63) C (i := 3) (cst := 1) (fun x16 => [(0, .ref 0), (1, .int v1), (2, .int v2), (3, .int x16)]) dK_d_257.2.2.2.2.2.1 rfl rfl (by decide) (fun _ => rfl) fun x16 =>
    aw_goto (pc := 66) C (tgt := 34) dK_d_257.2.2.2.2.2.2.1 rfl <|
    (hK34 x16 h15)
def X11_safe_l34  (v1 : Int32) (v2 : Int32) (K16 : Int32 → AH → Option (Int32 × AH)) : Nat → Int32 → AH → Option (Int32 × AH)
  | 0, _, _ => none
  | n + 1, v3, h =>
    if (h.1 0 15) ≤ v3 then (bd (X11_sorts h) fun _ h6 =>
    bd (X11_rankOf v1 h6) fun r7 h8 =>
    bd (X11_finalists h8) fun r9 h10 =>
    if r9 ≤ r7 then (vl (v2 + 1) fun x11 =>
    K16 x11 h10)
    else (some (v2, h10)))
    else (if v3 = v1 then (X11_safe_j60 v1 v2 v3 K16 (X11_safe_l34 v1 v2 K16 n) v2 v3 h)
    else (bd (X11_lengthOf v3 0 0 h) fun r12 h13 =>
    X11_safe_j60 v1 v2 v3 K16 (X11_safe_l34 v1 v2 K16 n) r12 v3 h13))
set_option maxRecDepth 100000 in
theorem aX11_safe_l34 {X : MCx} {yd : Dyn} {A : Nat → Prop} (C : OK X cX11_safe RX11 4 (some .int) rmX11_safe A)  (v1 : Int32) (v2 : Int32) (K16 : Int32 → AH → Option (Int32 × AH)) (hK16 : ∀ (w2 : Int32) (h : AH), AW X 4 ZR yd A 0 0 (QF X rmX11_safe ZR yd rvI A) 16 [(0, .ref 0), (1, .int v1), (2, .int w2)] [] h (K16 w2 h)) : ∀ (n : Nat) (v3 : Int32) (h : AH), AW X 4 ZR yd A 0 0 (QF X rmX11_safe ZR yd rvI A) 34 [(0, .ref 0), (1, .int v1), (2, .int v2), (3, .int v3)] [] h (X11_safe_l34 v1 v2 K16 n v3 h) := by
  intro n
  induction n with
  | zero => intro v3 h; exact aw_none
  | succ n ih =>
    intro v3 h
    exact aw_iload_n (pc := 34) C (i := 3) dK_d_255.2.2.2.2.1 rfl rfl <|
    aw_aload_n (pc := 35) C (i := 0) dK_d_255.2.2.2.2.2.1 rfl rfl <|
    aw_getI (pc := 36) C dK_d_255.2.2.2.2.2.2.1 fl_X11_105 sR_0 rfl <|
    aw_icmp_ge (pc := 39) C (tgt := 69) dK_d_255.2.2.2.2.2.2.2.1 rfl (fun _ =>
    aw_aload_n (pc := 69) C (i := 0) dK_d_257.2.2.2.2.2.2.2.1 rfl rfl <|
    aw_callF (pc := 70) C (cr_V (rest := []) (F := X11_sorts) C (c_X11_sorts X.2.1 ) dK_d_258.1 mf_X11_sorts ml_X11_268 im_X11_sorts se_X11_sorts sR_0 rfl ⟨(Nat.le_of_ble_eq_true rfl), (Nat.le_of_ble_eq_true rfl)⟩ rfl rfl (Nat.le_of_ble_eq_true rfl)) rfl rfl rfl (Nat.zero_le _) (Nat.zero_le _) fun _ h6 =>
    aw_aload_n (pc := 73) C (i := 0) dK_d_258.2.1 rfl rfl <|
    aw_iload_n (pc := 74) C (i := 1) dK_d_258.2.2.1 rfl rfl <|
    aw_callF (pc := 75) C (cr_V (rest := []) (F := (X11_rankOf v1)) C (c_X11_rankOf X.2.1 v1) dK_d_258.2.2.2.1 mf_X11_rankOf ml_X11_274 im_X11_rankOf se_X11_rankOf sR_0 rfl ⟨(Nat.le_of_ble_eq_true rfl), (Nat.le_of_ble_eq_true rfl)⟩ rfl rfl (Nat.le_of_ble_eq_true rfl)) rfl rfl rfl (Nat.zero_le _) (Nat.zero_le _) fun r7 h8 =>
    aw_aload_n (pc := 78) C (i := 0) dK_d_258.2.2.2.2.1 rfl rfl <|
    aw_callF (pc := 79) C (cr_V (rest := [.int r7]) (F := X11_finalists) C (c_X11_finalists X.2.1 ) dK_d_258.2.2.2.2.2.1 mf_X11_finalists ml_X11_271 im_X11_finalists se_X11_finalists sR_0 rfl ⟨(Nat.le_of_ble_eq_true rfl), (Nat.le_of_ble_eq_true rfl)⟩ rfl rfl (Nat.le_of_ble_eq_true rfl)) rfl rfl rfl (Nat.zero_le _) (Nat.zero_le _) fun r9 h10 =>
    aw_icmp_ge (pc := 82) C (tgt := 87) dK_d_258.2.2.2.2.2.2.1 rfl (fun _ =>
    aw_iincV (pc := 87) C (i := 2) (cst := 1) (fun x11 => [(0, .ref 0), (1, .int v1), (2, .int x11), (3, .int v3)]) dK_d_259.2.1 rfl rfl (by decide) (fun _ => rfl) fun x11 =>
    aw_goto (pc := 90) C (tgt := 16) dK_d_259.2.2.1 rfl <|
    aw_drop [0, 1, 2] (hK16 x11 h10)) (fun _ =>
    aw_iload_n (pc := 85) C (i := 2) dK_d_258.2.2.2.2.2.2.2.1 rfl rfl <|
    aw_iret (pc := 86) C dK_d_259.1 rfl rfl)) (fun _ =>
    aw_aload_n (pc := 42) C (i := 0) dK_d_256.1 rfl rfl <|
    aw_iload_n (pc := 43) C (i := 3) dK_d_256.2.1 rfl rfl <|
    aw_iload_n (pc := 44) C (i := 3) dK_d_256.2.2.1 rfl rfl <|
    aw_iload_n (pc := 45) C (i := 1) dK_d_256.2.2.2.1 rfl rfl <|
    aw_icmp_ne (pc := 46) C (tgt := 53) dK_d_256.2.2.2.2.1 rfl (fun _ =>
    aw_iload_n (pc := 49) C (i := 2) dK_d_256.2.2.2.2.2.1 rfl rfl <|
    aw_goto (pc := 50) C (tgt := 60) dK_d_256.2.2.2.2.2.2.1 rfl <|
    (aX11_safe_j60 C v1 v2 v3 K16 hK16 (X11_safe_l34 v1 v2 K16 n) ih v2 v3 h)) (fun _ =>
    aw_aload_n (pc := 53) C (i := 0) dK_d_256.2.2.2.2.2.2.2.1 rfl rfl <|
    aw_iload_n (pc := 54) C (i := 3) dK_d_257.1 rfl rfl <|
    aw_iconst (pc := 55) C (v := 0) dK_d_257.2.1 rfl <|
    aw_iconst (pc := 56) C (v := 0) dK_d_257.2.2.1 rfl <|
    aw_callF (pc := 57) C (cr_V (rest := [.int v3, .ref 0]) (F := (X11_lengthOf v3 0 0)) C (c_X11_lengthOf X.2.1 v3 0 0) dK_d_257.2.2.2.1 mf_X11_lengthOf ml_X11_163 im_X11_lengthOf se_X11_lengthOf sR_0 rfl ⟨(Nat.le_of_ble_eq_true rfl), (Nat.le_of_ble_eq_true rfl)⟩ rfl rfl (Nat.le_of_ble_eq_true rfl)) rfl rfl rfl (Nat.zero_le _) (Nat.zero_le _) fun r12 h13 =>
    (aX11_safe_j60 C v1 v2 v3 K16 hK16 (X11_safe_l34 v1 v2 K16 n) ih r12 v3 h13)))
def X11_safe_l16  (v1 : Int32) : Nat → Int32 → AH → Option (Int32 × AH)
  | 0, _, _ => none
  | n + 1, v2, h =>
    if 1000 ≤ v2 then (some ((-9), h))
    else (bd (X11_findBest 0 (h.1 0 16) h) fun _ h4 =>
    X11_safe_l34 v1 v2 (X11_safe_l16 v1 n) FU 0 h4)
set_option maxRecDepth 100000 in
theorem aX11_safe_l16 {X : MCx} {yd : Dyn} {A : Nat → Prop} (C : OK X cX11_safe RX11 4 (some .int) rmX11_safe A)  (v1 : Int32) : ∀ (n : Nat) (v2 : Int32) (h : AH), AW X 4 ZR yd A 0 0 (QF X rmX11_safe ZR yd rvI A) 16 [(0, .ref 0), (1, .int v1), (2, .int v2)] [] h (X11_safe_l16 v1 n v2 h) := by
  intro n
  induction n with
  | zero => intro v2 h; exact aw_none
  | succ n ih =>
    intro v2 h
    exact aw_iload_n (pc := 16) C (i := 2) dK_d_254.2.2.1 rfl rfl <|
    aw_sipush (pc := 17) C (v := 1000) dK_d_254.2.2.2.1 rfl <|
    aw_icmp_ge (pc := 20) C (tgt := 93) dK_d_254.2.2.2.2.1 rfl (fun _ =>
    aw_bipush (pc := 93) C (v := (-9)) dK_d_259.2.2.2.1 rfl <|
    aw_iret (pc := 95) C dK_d_259.2.2.2.2.1 rfl rfl) (fun _ =>
    aw_aload_n (pc := 23) C (i := 0) dK_d_254.2.2.2.2.2.1 rfl rfl <|
    aw_iconst (pc := 24) C (v := 0) dK_d_254.2.2.2.2.2.2.1 rfl <|
    aw_aload_n (pc := 25) C (i := 0) dK_d_254.2.2.2.2.2.2.2.1 rfl rfl <|
    aw_getI (pc := 26) C dK_d_255.1 fl_X11_147 sR_0 rfl <|
    aw_callF (pc := 29) C (cr_V (rest := []) (F := (X11_findBest 0 (h.1 0 16))) C (c_X11_findBest X.2.1 0 (h.1 0 16)) dK_d_255.2.1 mf_X11_findBest ml_X11_213 im_X11_findBest se_X11_findBest sR_0 rfl ⟨(Nat.le_of_ble_eq_true rfl), (Nat.le_of_ble_eq_true rfl)⟩ rfl rfl (Nat.le_of_ble_eq_true rfl)) rfl rfl rfl (Nat.zero_le _) (Nat.zero_le _) fun _ h4 =>
    aw_iconst (pc := 32) C (v := 0) dK_d_255.2.2.1 rfl <|
    aw_istore_n (pc := 33) C (i := 3) (lv' := [(0, .ref 0), (1, .int v1), (2, .int v2), (3, .int 0)]) dK_d_255.2.2.2.1 rfl (by decide) rfl <|
    (aX11_safe_l34 C v1 v2 (X11_safe_l16 v1 n) ih FU 0 h4))
def X11_safe (v1 : Int32) (h : AH) : Option (Int32 × AH) :=
    bd (X11_isJumper v1 h) fun r1 h2 =>
    if r1 = 0 then (bd (X11_no (-1) h2) fun r17 h18 =>
    some (r17, h18))
    else (X11_safe_l16 v1 FU 0 h2)
set_option maxRecDepth 100000 in
theorem c_X11_safe (l : Launch) (v1 : Int32) : MC l yX11_safe cX11_safe 4 (some .int) rmX11_safe ZR [.ref 0, .int v1] rvI (X11_safe v1) :=
  MC.of (own := RX11) pn_RX11 rfl (Nat.le_of_ble_eq_true rfl) fun X yd A h _ C =>
    aw_aload_n (pc := 0) C (i := 0) dK_d_253.1 rfl rfl <|
    aw_iload_n (pc := 1) C (i := 1) dK_d_253.2.1 rfl rfl <|
    aw_callF (pc := 2) C (cr_V (rest := []) (F := (X11_isJumper v1)) C (c_X11_isJumper X.2.1 v1) dK_d_253.2.2.1 mf_X11_isJumper ml_X11_207 im_X11_isJumper se_X11_isJumper sR_0 rfl ⟨(Nat.le_of_ble_eq_true rfl), (Nat.le_of_ble_eq_true rfl)⟩ rfl rfl (Nat.le_of_ble_eq_true rfl)) rfl rfl rfl (Nat.zero_le _) (Nat.zero_le _) fun r1 h2 =>
    aw_if_ne (pc := 5) C (tgt := 14) dK_d_253.2.2.2.1 rfl (fun _ =>
    aw_aload_n (pc := 8) C (i := 0) dK_d_253.2.2.2.2.1 rfl rfl <|
    aw_iconst (pc := 9) C (v := (-1)) dK_d_253.2.2.2.2.2.1 rfl <|
    aw_callF (pc := 10) C (cr_V (rest := []) (F := (X11_no (-1))) C (c_X11_no X.2.1 (-1)) dK_d_253.2.2.2.2.2.2.1 mf_X11_no ml_X11_115 im_X11_no se_X11_no sR_0 rfl ⟨(Nat.le_of_ble_eq_true rfl), (Nat.le_of_ble_eq_true rfl)⟩ rfl rfl (Nat.le_of_ble_eq_true rfl)) rfl rfl rfl (Nat.zero_le _) (Nat.zero_le _) fun r17 h18 =>
    aw_iret (pc := 13) C dK_d_253.2.2.2.2.2.2.2.1 rfl rfl) (fun _ =>
    aw_iconst (pc := 14) C (v := 0) dK_d_254.1 rfl <|
    aw_istore_n (pc := 15) C (i := 2) (lv' := [(0, .ref 0), (1, .int v1), (2, .int 0)]) dK_d_254.2.1 rfl (by decide) rfl <|
    (aX11_safe_l16 C v1 FU 0 h2))

abbrev rmX11_mayStill : Room := { frames := 6, cells := 0, slots := 0, locals := 130 }
def X11_mayStill_j60  (v3 : Int32) (K28 : Int32 → Int32 → AH → Option (Int32 × AH)) (s0 : Int32) (s1 : Int32) (h : AH) : Option (Int32 × AH) :=
    vl (s1 ||| s0) fun x9 =>
    vl (v3 + 1) fun x10 =>
    K28 x9 x10 h
set_option maxRecDepth 100000 in
theorem aX11_mayStill_j60 {X : MCx} {yd : Dyn} {A : Nat → Prop} (C : OK X cX11_mayStill RX11 4 (some .int) rmX11_mayStill A)  (v3 : Int32) (K28 : Int32 → Int32 → AH → Option (Int32 × AH)) (hK28 : ∀ (w2 : Int32) (w3 : Int32) (h : AH), AW X 4 ZR yd A 0 0 (QF X rmX11_mayStill ZR yd rvI A) 28 [(0, .ref 0), (2, .int w2), (3, .int w3)] [] h (K28 w2 w3 h)) (s0 : Int32) (s1 : Int32) (h : AH) : AW X 4 ZR yd A 0 0 (QF X rmX11_mayStill ZR yd rvI A) 60 [(0, .ref 0), (3, .int v3)] [.int s0, .int s1] h (X11_mayStill_j60 v3 K28 s0 s1 h) := by
    exact aw_ior (pc := 60) C dK_d_264.2.2.2.2.2.2.1 <|
    aw_istoreV_n (pc := 61) C (i := 2) (fun x9 => [(0, .ref 0), (2, .int x9), (3, .int v3)]) dK_d_264.2.2.2.2.2.2.2.1 rfl (by decide) (fun _ => rfl) fun x9 =>
    aw_iincV (pc := 62) C (i := 3) (cst := 1) (fun x10 => [(0, .ref 0), (2, .int x9), (3, .int x10)]) dK_d_265.1 rfl rfl (by decide) (fun _ => rfl) fun x10 =>
    aw_goto (pc := 65) C (tgt := 28) dK_d_265.2.1 rfl <|
    (hK28 x9 x10 h)
def X11_mayStill_l28  : Nat → Int32 → Int32 → AH → Option (Int32 × AH)
  | 0, _, _, _ => none
  | n + 1, v2, v3, h =>
    if (h.1 0 15) ≤ v3 then (some (v2, h))
    else (bd (X11_lengthOf v3 0 0 h) fun r5 h6 =>
    bd (X11_isEnough v3 r5 1 h6) fun r7 h8 =>
    if r7 = 0 then (X11_mayStill_j60 v3 (X11_mayStill_l28 n) 0 v2 h8)
    else (X11_mayStill_j60 v3 (X11_mayStill_l28 n) (shl32 1 v3) v2 h8))
set_option maxRecDepth 100000 in
theorem aX11_mayStill_l28 {X : MCx} {yd : Dyn} {A : Nat → Prop} (C : OK X cX11_mayStill RX11 4 (some .int) rmX11_mayStill A)  : ∀ (n : Nat) (v2 : Int32) (v3 : Int32) (h : AH), AW X 4 ZR yd A 0 0 (QF X rmX11_mayStill ZR yd rvI A) 28 [(0, .ref 0), (2, .int v2), (3, .int v3)] [] h (X11_mayStill_l28 n v2 v3 h) := by
  intro n
  induction n with
  | zero => intro v2 v3 h; exact aw_none
  | succ n ih =>
    intro v2 v3 h
    exact aw_iload_n (pc := 28) C (i := 3) dK_d_262.2.2.1 rfl rfl <|
    aw_aload_n (pc := 29) C (i := 0) dK_d_262.2.2.2.1 rfl rfl <|
    aw_getI (pc := 30) C dK_d_262.2.2.2.2.1 fl_X11_105 sR_0 rfl <|
    aw_icmp_ge (pc := 33) C (tgt := 68) dK_d_262.2.2.2.2.2.1 rfl (fun _ =>
    aw_iload_n (pc := 68) C (i := 2) dK_d_265.2.2.1 rfl rfl <|
    aw_iret (pc := 69) C dK_d_265.2.2.2.1 rfl rfl) (fun _ =>
    aw_iload_n (pc := 36) C (i := 2) dK_d_262.2.2.2.2.2.2.1 rfl rfl <|
    aw_aload_n (pc := 37) C (i := 0) dK_d_262.2.2.2.2.2.2.2.1 rfl rfl <|
    aw_iload_n (pc := 38) C (i := 3) dK_d_263.1 rfl rfl <|
    aw_aload_n (pc := 39) C (i := 0) dK_d_263.2.1 rfl rfl <|
    aw_iload_n (pc := 40) C (i := 3) dK_d_263.2.2.1 rfl rfl <|
    aw_iconst (pc := 41) C (v := 0) dK_d_263.2.2.2.1 rfl <|
    aw_iconst (pc := 42) C (v := 0) dK_d_263.2.2.2.2.1 rfl <|
    aw_callF (pc := 43) C (cr_V (rest := [.int v3, .ref 0, .int v2]) (F := (X11_lengthOf v3 0 0)) C (c_X11_lengthOf X.2.1 v3 0 0) dK_d_263.2.2.2.2.2.1 mf_X11_lengthOf ml_X11_163 im_X11_lengthOf se_X11_lengthOf sR_0 rfl ⟨(Nat.le_of_ble_eq_true rfl), (Nat.le_of_ble_eq_true rfl)⟩ rfl rfl (Nat.le_of_ble_eq_true rfl)) rfl rfl rfl (Nat.zero_le _) (Nat.zero_le _) fun r5 h6 =>
    aw_iconst (pc := 46) C (v := 1) dK_d_263.2.2.2.2.2.2.1 rfl <|
    aw_callF (pc := 47) C (cr_V (rest := [.int v2]) (F := (X11_isEnough v3 r5 1)) C (c_X11_isEnough X.2.1 v3 r5 1) dK_d_263.2.2.2.2.2.2.2.1 mf_X11_isEnough ml_X11_277 im_X11_isEnough se_X11_isEnough sR_0 rfl ⟨(Nat.le_of_ble_eq_true rfl), (Nat.le_of_ble_eq_true rfl)⟩ rfl rfl (Nat.le_of_ble_eq_true rfl)) rfl rfl rfl (Nat.zero_le _) (Nat.zero_le _) fun r7 h8 =>
    aw_if_eq (pc := 50) C (tgt := 59) dK_d_264.1 rfl (fun _ =>
    aw_iconst (pc := 59) C (v := 0) dK_d_264.2.2.2.2.2.1 rfl <|
    aw_drop [0, 2] (aX11_mayStill_j60 C v3 (X11_mayStill_l28 n) ih 0 v2 h8)) (fun _ =>
    aw_iconst (pc := 53) C (v := 1) dK_d_264.2.1 rfl <|
    aw_iload_n (pc := 54) C (i := 3) dK_d_264.2.2.1 rfl rfl <|
    aw_ishl (pc := 55) C dK_d_264.2.2.2.1 <|
    aw_goto (pc := 56) C (tgt := 60) dK_d_264.2.2.2.2.1 rfl <|
    aw_drop [0, 2] (aX11_mayStill_j60 C v3 (X11_mayStill_l28 n) ih (shl32 1 v3) v2 h8)))
def X11_mayStill  (h : AH) : Option (Int32 × AH) :=
    bd (X11_leader h) fun r1 h2 =>
    bd (X11_turnNow h2) fun r3 h4 =>
    if 0 ≤ r3 then (X11_mayStill_l28 FU 0 0 h4)
    else (if 0 ≤ r1 then (some ((shl32 1 r1), h4))
    else (some (0, h4)))
set_option maxRecDepth 100000 in
theorem c_X11_mayStill (l : Launch)  : MC l yX11_mayStill cX11_mayStill 4 (some .int) rmX11_mayStill ZR [.ref 0] rvI (X11_mayStill) :=
  MC.of (own := RX11) pn_RX11 rfl (Nat.le_of_ble_eq_true rfl) fun X yd A h _ C =>
    aw_aload_n (pc := 0) C (i := 0) dK_d_260.1 rfl rfl <|
    aw_callF (pc := 1) C (cr_V (rest := []) (F := X11_leader) C (c_X11_leader X.2.1 ) dK_d_260.2.1 mf_X11_leader ml_X11_283 im_X11_leader se_X11_leader sR_0 rfl ⟨(Nat.le_of_ble_eq_true rfl), (Nat.le_of_ble_eq_true rfl)⟩ rfl rfl (Nat.le_of_ble_eq_true rfl)) rfl rfl rfl (Nat.zero_le _) (Nat.zero_le _) fun r1 h2 =>
    aw_istore_n (pc := 4) C (i := 1) (lv' := [(0, .ref 0), (1, .int r1)]) dK_d_260.2.2.1 rfl (by decide) rfl <|
    aw_aload_n (pc := 5) C (i := 0) dK_d_260.2.2.2.1 rfl rfl <|
    aw_callF (pc := 6) C (cr_V (rest := []) (F := X11_turnNow) C (c_X11_turnNow X.2.1 ) dK_d_260.2.2.2.2.1 mf_X11_turnNow ml_X11_150 im_X11_turnNow se_X11_turnNow sR_0 rfl ⟨(Nat.le_of_ble_eq_true rfl), (Nat.le_of_ble_eq_true rfl)⟩ rfl rfl (Nat.le_of_ble_eq_true rfl)) rfl rfl rfl (Nat.zero_le _) (Nat.zero_le _) fun r3 h4 =>
    aw_if_ge (pc := 9) C (tgt := 24) dK_d_260.2.2.2.2.2.1 rfl (fun _ =>
    aw_iconst (pc := 24) C (v := 0) dK_d_261.2.2.2.2.2.2.1 rfl <|
    aw_istore_n (pc := 25) C (i := 2) (lv' := [(0, .ref 0), (1, .int r1), (2, .int 0)]) dK_d_261.2.2.2.2.2.2.2.1 rfl (by decide) rfl <|
    aw_iconst (pc := 26) C (v := 0) dK_d_262.1 rfl <|
    aw_istore_n (pc := 27) C (i := 3) (lv' := [(0, .ref 0), (1, .int r1), (2, .int 0), (3, .int 0)]) dK_d_262.2.1 rfl (by decide) rfl <|
    aw_drop [0, 2, 3] (aX11_mayStill_l28 C FU 0 0 h4)) (fun _ =>
    aw_iload_n (pc := 12) C (i := 1) dK_d_260.2.2.2.2.2.2.1 rfl rfl <|
    aw_if_ge (pc := 13) C (tgt := 20) dK_d_260.2.2.2.2.2.2.2.1 rfl (fun _ =>
    aw_iconst (pc := 20) C (v := 1) dK_d_261.2.2.1 rfl <|
    aw_iload_n (pc := 21) C (i := 1) dK_d_261.2.2.2.1 rfl rfl <|
    aw_ishl (pc := 22) C dK_d_261.2.2.2.2.1 <|
    aw_iret (pc := 23) C dK_d_261.2.2.2.2.2.1 rfl rfl) (fun _ =>
    aw_iconst (pc := 16) C (v := 0) dK_d_261.1 rfl <|
    aw_goto (pc := 17) C (tgt := 23) dK_d_261.2.1 rfl <|
    aw_iret (pc := 23) C dK_d_261.2.2.2.2.2.1 rfl rfl))

abbrev rmX11_drawnSlip : Room := { frames := 0, cells := 0, slots := 0, locals := 0 }
def X11_drawnSlip (v1 : Int32) (h : AH) : Option (Int32 × AH) :=
    vl (sI h 0 40 (((h.1 0 40) * 1103515245) + 12345)) fun h1 =>
    vl (rm32 (((h1.1 0 40) &&& 2147483647) / 65536) 4) fun x2 =>
    if x2 = 0 then (ck v1 4 (some ((h1.1 6 v1.toNatClampNeg), h1)))
    else (if x2 = 3 then (ck v1 4 (some ((-(h1.1 6 v1.toNatClampNeg)), h1)))
    else (some (0, h1)))
set_option maxRecDepth 100000 in
theorem c_X11_drawnSlip (l : Launch) (v1 : Int32) : MC l yX11_drawnSlip cX11_drawnSlip 3 (some .int) rmX11_drawnSlip ZR [.ref 0, .int v1] rvI (X11_drawnSlip v1) :=
  MC.of (own := RX11) pn_RX11 rfl (Nat.le_of_ble_eq_true rfl) fun X yd A h _ C =>
    aw_aload_n (pc := 0) C (i := 0) dK_d_266.1 rfl rfl <|
    aw_aload_n (pc := 1) C (i := 0) dK_d_266.2.1 rfl rfl <|
    aw_getI (pc := 2) C dK_d_266.2.2.1 fl_X11_336 sR_0 rfl <|
    aw_ldc_w (pc := 5) C (v := 1103515245) dK_d_266.2.2.2.1 kc_X11_339 <|
    aw_imul (pc := 8) C dK_d_266.2.2.2.2.1 <|
    aw_sipush (pc := 9) C (v := 12345) dK_d_266.2.2.2.2.2.1 rfl <|
    aw_iadd (pc := 12) C dK_d_266.2.2.2.2.2.2.1 <|
    aw_putI (pc := 13) C dK_d_266.2.2.2.2.2.2.2.1 fp_X11_336 sR_0 rfl fun h1 =>
    aw_aload_n (pc := 16) C (i := 0) dK_d_267.1 rfl rfl <|
    aw_getI (pc := 17) C dK_d_267.2.1 fl_X11_336 sR_0 rfl <|
    aw_ldc_w (pc := 20) C (v := 2147483647) dK_d_267.2.2.1 kc_X11_340 <|
    aw_iand (pc := 23) C dK_d_267.2.2.2.1 <|
    aw_ldc_w (pc := 24) C (v := 65536) dK_d_267.2.2.2.2.1 kc_X11_341 <|
    aw_idivK (pc := 27) C dK_d_267.2.2.2.2.2.1 (by decide) <|
    aw_iconst (pc := 28) C (v := 4) dK_d_267.2.2.2.2.2.2.1 rfl <|
    aw_iremK (pc := 29) C dK_d_267.2.2.2.2.2.2.2.1 (by decide) <|
    aw_istoreV_n (pc := 30) C (i := 2) (fun x2 => [(0, .ref 0), (1, .int v1), (2, .int x2)]) dK_d_268.1 rfl (by decide) (fun _ => rfl) fun x2 =>
    aw_iload_n (pc := 31) C (i := 2) dK_d_268.2.1 rfl rfl <|
    aw_if_ne (pc := 32) C (tgt := 44) dK_d_268.2.2.1 rfl (fun _ =>
    aw_aload_n (pc := 35) C (i := 0) dK_d_268.2.2.2.1 rfl rfl <|
    aw_getR (pc := 36) C (b := 6) dK_d_268.2.2.2.2.1 fl_X11_25 sR_0 rfl rR_0_5 <|
    aw_iload_n (pc := 39) C (i := 1) dK_d_268.2.2.2.2.2.1 rfl rfl <|
    aw_iald (pc := 40) C dK_d_268.2.2.2.2.2.2.1 sR_6 rfl <|
    aw_goto (pc := 41) C (tgt := 60) dK_d_268.2.2.2.2.2.2.2.1 rfl <|
    aw_iret (pc := 60) C dK_d_270.2.2.1 rfl rfl) (fun _ =>
    aw_iload_n (pc := 44) C (i := 2) dK_d_269.1 rfl rfl <|
    aw_iconst (pc := 45) C (v := 3) dK_d_269.2.1 rfl <|
    aw_icmp_ne (pc := 46) C (tgt := 59) dK_d_269.2.2.1 rfl (fun _ =>
    aw_aload_n (pc := 49) C (i := 0) dK_d_269.2.2.2.1 rfl rfl <|
    aw_getR (pc := 50) C (b := 6) dK_d_269.2.2.2.2.1 fl_X11_25 sR_0 rfl rR_0_5 <|
    aw_iload_n (pc := 53) C (i := 1) dK_d_269.2.2.2.2.2.1 rfl rfl <|
    aw_iald (pc := 54) C dK_d_269.2.2.2.2.2.2.1 sR_6 rfl <|
    aw_ineg (pc := 55) C dK_d_269.2.2.2.2.2.2.2.1 <|
    aw_goto (pc := 56) C (tgt := 60) dK_d_270.1 rfl <|
    aw_iret (pc := 60) C dK_d_270.2.2.1 rfl rfl) (fun _ =>
    aw_iconst (pc := 59) C (v := 0) dK_d_270.2.1 rfl <|
    aw_iret (pc := 60) C dK_d_270.2.2.1 rfl rfl))

abbrev rmX11_triesByLot : Room := { frames := 3, cells := 0, slots := 0, locals := 69 }
def X11_triesByLot_j109  (v2 : Int32) (s0 : Int32) (s1 : Int32) (h : AH) : Option (Unit × AH) :=
    bd (X11_putsTry s1 s0 v2 h) fun _ h6 =>
    some ((), h6)
set_option maxRecDepth 100000 in
theorem aX11_triesByLot_j109 {X : MCx} {yd : Dyn} {A : Nat → Prop} (C : OK X cX11_triesByLot RX11 6 none rmX11_triesByLot A)  (v2 : Int32) (s0 : Int32) (s1 : Int32) (h : AH) : AW X 6 ZR yd A 0 0 (QF X rmX11_triesByLot ZR yd rvV A) 109 [(2, .int v2)] [.int s0, .int s1, .ref 0] h (X11_triesByLot_j109 v2 s0 s1 h) := by
    exact aw_iload_n (pc := 109) C (i := 2) dK_d_279.2.2.1 rfl rfl <|
    aw_callF (pc := 110) C (cr_V (rest := []) (F := (X11_putsTry s1 s0 v2)) C (c_X11_putsTry X.2.1 s1 s0 v2) dK_d_279.2.2.2.1 mf_X11_putsTry ml_X11_153 im_X11_putsTry se_X11_putsTry sR_0 rfl ⟨(Nat.le_of_ble_eq_true rfl), (Nat.le_of_ble_eq_true rfl)⟩ rfl rfl (Nat.le_of_ble_eq_true rfl)) rfl rfl rfl (Nat.zero_le _) (Nat.zero_le _) fun _ h6 =>
    aw_vret (pc := 113) C dK_d_279.2.2.2.2.1 rfl rfl
def X11_triesByLot_j77  (v1 : Int32) (v2 : Int32) (v3 : Int32) (v4 : Int32) (K11 : Int32 → Int32 → Int32 → AH → Option (Unit × AH)) (h : AH) : Option (Unit × AH) :=
    bd (X11_drawnSlip v1 h) fun r7 h8 =>
    vl (v2 - r7) fun x9 =>
    vl (v4 + 1) fun x10 =>
    K11 x9 v3 x10 h8
set_option maxRecDepth 100000 in
theorem aX11_triesByLot_j77 {X : MCx} {yd : Dyn} {A : Nat → Prop} (C : OK X cX11_triesByLot RX11 6 none rmX11_triesByLot A)  (v1 : Int32) (v2 : Int32) (v3 : Int32) (v4 : Int32) (K11 : Int32 → Int32 → Int32 → AH → Option (Unit × AH)) (hK11 : ∀ (w2 : Int32) (w3 : Int32) (w4 : Int32) (h : AH), AW X 6 ZR yd A 0 0 (QF X rmX11_triesByLot ZR yd rvV A) 11 [(0, .ref 0), (1, .int v1), (2, .int w2), (3, .int w3), (4, .int w4)] [] h (K11 w2 w3 w4 h)) (h : AH) : AW X 6 ZR yd A 0 0 (QF X rmX11_triesByLot ZR yd rvV A) 77 [(0, .ref 0), (1, .int v1), (2, .int v2), (3, .int v3), (4, .int v4)] [] h (X11_triesByLot_j77 v1 v2 v3 v4 K11 h) := by
    exact aw_iload_n (pc := 77) C (i := 2) dK_d_276.2.2.2.2.2.2.2.1 rfl rfl <|
    aw_aload_n (pc := 78) C (i := 0) dK_d_277.1 rfl rfl <|
    aw_iload_n (pc := 79) C (i := 1) dK_d_277.2.1 rfl rfl <|
    aw_callF (pc := 80) C (cr_V (rest := [.int v2]) (F := (X11_drawnSlip v1)) C (c_X11_drawnSlip X.2.1 v1) dK_d_277.2.2.1 mf_X11_drawnSlip ml_X11_342 im_X11_drawnSlip se_X11_drawnSlip sR_0 rfl ⟨(Nat.le_of_ble_eq_true rfl), (Nat.le_of_ble_eq_true rfl)⟩ rfl rfl (Nat.le_of_ble_eq_true rfl)) rfl rfl rfl (Nat.zero_le _) (Nat.zero_le _) fun r7 h8 =>
    aw_isub (pc := 83) C dK_d_277.2.2.2.1 <|
    aw_istoreV_n (pc := 84) C (i := 2) (fun x9 => [(0, .ref 0), (1, .int v1), (2, .int x9), (3, .int v3), (4, .int v4)]) dK_d_277.2.2.2.2.1 rfl (by decide) (fun _ => rfl) fun x9 =>
    aw_iincV (pc := 85) C (i := 4) (cst := 1) (fun x10 => [(0, .ref 0), (1, .int v1), (2, .int x9), (3, .int v3), (4, .int x10)]) dK_d_277.2.2.2.2.2.1 rfl rfl (by decide) (fun _ => rfl) fun x10 =>
    aw_goto (pc := 88) C (tgt := 11) dK_d_277.2.2.2.2.2.2.1 rfl <|
    (hK11 x9 v3 x10 h8)
def X11_triesByLot_j74  (v1 : Int32) (v2 : Int32) (v4 : Int32) (K11 : Int32 → Int32 → Int32 → AH → Option (Unit × AH)) (s0 : Int32) (h : AH) : Option (Unit × AH) :=
    vl (s0 / 4) fun x15 =>
    X11_triesByLot_j77 v1 v2 x15 v4 K11 h
set_option maxRecDepth 100000 in
theorem aX11_triesByLot_j74 {X : MCx} {yd : Dyn} {A : Nat → Prop} (C : OK X cX11_triesByLot RX11 6 none rmX11_triesByLot A)  (v1 : Int32) (v2 : Int32) (v4 : Int32) (K11 : Int32 → Int32 → Int32 → AH → Option (Unit × AH)) (hK11 : ∀ (w2 : Int32) (w3 : Int32) (w4 : Int32) (h : AH), AW X 6 ZR yd A 0 0 (QF X rmX11_triesByLot ZR yd rvV A) 11 [(0, .ref 0), (1, .int v1), (2, .int w2), (3, .int w3), (4, .int w4)] [] h (K11 w2 w3 w4 h)) (s0 : Int32) (h : AH) : AW X 6 ZR yd A 0 0 (QF X rmX11_triesByLot ZR yd rvV A) 74 [(0, .ref 0), (1, .int v1), (2, .int v2), (4, .int v4)] [.int s0] h (X11_triesByLot_j74 v1 v2 v4 K11 s0 h) := by
    exact aw_iconst (pc := 74) C (v := 4) dK_d_276.2.2.2.2.1 rfl <|
    aw_idivK (pc := 75) C dK_d_276.2.2.2.2.2.1 (by decide) <|
    aw_istoreV_n (pc := 76) C (i := 3) (fun x15 => [(0, .ref 0), (1, .int v1), (2, .int v2), (3, .int x15), (4, .int v4)]) dK_d_276.2.2.2.2.2.2.1 rfl (by decide) (fun _ => rfl) fun x15 =>
    (aX11_triesByLot_j77 C v1 v2 x15 v4 K11 hK11 h)
def X11_triesByLot_l11  (v1 : Int32) : Nat → Int32 → Int32 → Int32 → AH → Option (Unit × AH)
  | 0, _, _, _, _ => none
  | n + 1, v2, v3, v4, h =>
    if (h.1 0 12) ≤ v4 then (if 0 ≤ v2 then (bd (X11_lengthOf v1 v2 v3 h) fun r3 h4 =>
    X11_triesByLot_j109 v2 r3 v1 h4)
    else (X11_triesByLot_j109 v2 (-9) v1 h))
    else (ck v1 4 (if (h.1 8 v1.toNatClampNeg) ≤ 0 then (X11_triesByLot_j77 v1 v2 v3 v4 (X11_triesByLot_l11 v1 n) h)
    else (ck v1 4 (if v4 = ((h.1 0 12) - (h.1 8 v1.toNatClampNeg)) then (bd (X11_aimOf v1 h) fun r11 h12 =>
    vl ((v2 - r11) / 2) fun x13 =>
    vl (v2 - x13) fun x14 =>
    if 0 ≤ x13 then (X11_triesByLot_j74 v1 x14 v4 (X11_triesByLot_l11 v1 n) x13 h12)
    else (X11_triesByLot_j74 v1 x14 v4 (X11_triesByLot_l11 v1 n) (-x13) h12))
    else (X11_triesByLot_j77 v1 v2 v3 v4 (X11_triesByLot_l11 v1 n) h)))))
set_option maxRecDepth 100000 in
theorem aX11_triesByLot_l11 {X : MCx} {yd : Dyn} {A : Nat → Prop} (C : OK X cX11_triesByLot RX11 6 none rmX11_triesByLot A)  (v1 : Int32) : ∀ (n : Nat) (v2 : Int32) (v3 : Int32) (v4 : Int32) (h : AH), AW X 6 ZR yd A 0 0 (QF X rmX11_triesByLot ZR yd rvV A) 11 [(0, .ref 0), (1, .int v1), (2, .int v2), (3, .int v3), (4, .int v4)] [] h (X11_triesByLot_l11 v1 n v2 v3 v4 h) := by
  intro n
  induction n with
  | zero => intro v2 v3 v4 h; exact aw_none
  | succ n ih =>
    intro v2 v3 v4 h
    exact aw_iload (pc := 11) C (i := 4) dK_d_272.1 rfl <|
    aw_aload_n (pc := 13) C (i := 0) dK_d_272.2.1 rfl rfl <|
    aw_getI (pc := 14) C dK_d_272.2.2.1 fl_X11_95 sR_0 rfl <|
    aw_icmp_ge (pc := 17) C (tgt := 91) dK_d_272.2.2.2.1 rfl (fun _ =>
    aw_aload_n (pc := 91) C (i := 0) dK_d_277.2.2.2.2.2.2.2.1 rfl rfl <|
    aw_iload_n (pc := 92) C (i := 1) dK_d_278.1 rfl rfl <|
    aw_iload_n (pc := 93) C (i := 2) dK_d_278.2.1 rfl rfl <|
    aw_if_ge (pc := 94) C (tgt := 102) dK_d_278.2.2.1 rfl (fun _ =>
    aw_aload_n (pc := 102) C (i := 0) dK_d_278.2.2.2.2.2.1 rfl rfl <|
    aw_iload_n (pc := 103) C (i := 1) dK_d_278.2.2.2.2.2.2.1 rfl rfl <|
    aw_iload_n (pc := 104) C (i := 2) dK_d_278.2.2.2.2.2.2.2.1 rfl rfl <|
    aw_iload_n (pc := 105) C (i := 3) dK_d_279.1 rfl rfl <|
    aw_callF (pc := 106) C (cr_V (rest := [.int v1, .ref 0]) (F := (X11_lengthOf v1 v2 v3)) C (c_X11_lengthOf X.2.1 v1 v2 v3) dK_d_279.2.1 mf_X11_lengthOf ml_X11_163 im_X11_lengthOf se_X11_lengthOf sR_0 rfl ⟨(Nat.le_of_ble_eq_true rfl), (Nat.le_of_ble_eq_true rfl)⟩ rfl rfl (Nat.le_of_ble_eq_true rfl)) rfl rfl rfl (Nat.zero_le _) (Nat.zero_le _) fun r3 h4 =>
    aw_drop [2] (aX11_triesByLot_j109 C v2 r3 v1 h4)) (fun _ =>
    aw_bipush (pc := 97) C (v := (-9)) dK_d_278.2.2.2.1 rfl <|
    aw_goto (pc := 99) C (tgt := 109) dK_d_278.2.2.2.2.1 rfl <|
    aw_drop [2] (aX11_triesByLot_j109 C v2 (-9) v1 h))) (fun _ =>
    aw_aload_n (pc := 20) C (i := 0) dK_d_272.2.2.2.2.1 rfl rfl <|
    aw_getR (pc := 21) C (b := 8) dK_d_272.2.2.2.2.2.1 fl_X11_31 sR_0 rfl rR_0_7 <|
    aw_iload_n (pc := 24) C (i := 1) dK_d_272.2.2.2.2.2.2.1 rfl rfl <|
    aw_iald (pc := 25) C dK_d_272.2.2.2.2.2.2.2.1 sR_8 rfl <|
    aw_if_le (pc := 26) C (tgt := 77) dK_d_273.1 rfl (fun _ =>
    (aX11_triesByLot_j77 C v1 v2 v3 v4 (X11_triesByLot_l11 v1 n) ih h)) (fun _ =>
    aw_iload (pc := 29) C (i := 4) dK_d_273.2.1 rfl <|
    aw_aload_n (pc := 31) C (i := 0) dK_d_273.2.2.1 rfl rfl <|
    aw_getI (pc := 32) C dK_d_273.2.2.2.1 fl_X11_95 sR_0 rfl <|
    aw_aload_n (pc := 35) C (i := 0) dK_d_273.2.2.2.2.1 rfl rfl <|
    aw_getR (pc := 36) C (b := 8) dK_d_273.2.2.2.2.2.1 fl_X11_31 sR_0 rfl rR_0_7 <|
    aw_iload_n (pc := 39) C (i := 1) dK_d_273.2.2.2.2.2.2.1 rfl rfl <|
    aw_iald (pc := 40) C dK_d_273.2.2.2.2.2.2.2.1 sR_8 rfl <|
    aw_isub (pc := 41) C dK_d_274.1 <|
    aw_icmp_ne (pc := 42) C (tgt := 77) dK_d_274.2.1 rfl (fun _ =>
    aw_iload_n (pc := 45) C (i := 2) dK_d_274.2.2.1 rfl rfl <|
    aw_aload_n (pc := 46) C (i := 0) dK_d_274.2.2.2.1 rfl rfl <|
    aw_iload_n (pc := 47) C (i := 1) dK_d_274.2.2.2.2.1 rfl rfl <|
    aw_callF (pc := 48) C (cr_V (rest := [.int v2]) (F := (X11_aimOf v1)) C (c_X11_aimOf X.2.1 v1) dK_d_274.2.2.2.2.2.1 mf_X11_aimOf ml_X11_210 im_X11_aimOf se_X11_aimOf sR_0 rfl ⟨(Nat.le_of_ble_eq_true rfl), (Nat.le_of_ble_eq_true rfl)⟩ rfl rfl (Nat.le_of_ble_eq_true rfl)) rfl rfl rfl (Nat.zero_le _) (Nat.zero_le _) fun r11 h12 =>
    aw_isub (pc := 51) C dK_d_274.2.2.2.2.2.2.1 <|
    aw_iconst (pc := 52) C (v := 2) dK_d_274.2.2.2.2.2.2.2.1 rfl <|
    aw_idivK (pc := 53) C dK_d_275.1 (by decide) <|
    aw_istoreV (pc := 54) C (i := 5) (fun x13 => [(0, .ref 0), (1, .int v1), (2, .int v2), (3, .int v3), (4, .int v4), (5, .int x13)]) dK_d_275.2.1 (by decide) (fun _ => rfl) fun x13 =>
    aw_iload_n (pc := 56) C (i := 2) dK_d_275.2.2.1 rfl rfl <|
    aw_iload (pc := 57) C (i := 5) dK_d_275.2.2.2.1 rfl <|
    aw_isub (pc := 59) C dK_d_275.2.2.2.2.1 <|
    aw_istoreV_n (pc := 60) C (i := 2) (fun x14 => [(0, .ref 0), (1, .int v1), (2, .int x14), (3, .int v3), (4, .int v4), (5, .int x13)]) dK_d_275.2.2.2.2.2.1 rfl (by decide) (fun _ => rfl) fun x14 =>
    aw_iload (pc := 61) C (i := 5) dK_d_275.2.2.2.2.2.2.1 rfl <|
    aw_if_ge (pc := 63) C (tgt := 72) dK_d_275.2.2.2.2.2.2.2.1 rfl (fun _ =>
    aw_iload (pc := 72) C (i := 5) dK_d_276.2.2.2.1 rfl <|
    aw_drop [0, 1, 2, 4] (aX11_triesByLot_j74 C v1 x14 v4 (X11_triesByLot_l11 v1 n) ih x13 h12)) (fun _ =>
    aw_iload (pc := 66) C (i := 5) dK_d_276.1 rfl <|
    aw_ineg (pc := 68) C dK_d_276.2.1 <|
    aw_goto (pc := 69) C (tgt := 74) dK_d_276.2.2.1 rfl <|
    aw_drop [0, 1, 2, 4] (aX11_triesByLot_j74 C v1 x14 v4 (X11_triesByLot_l11 v1 n) ih (-x13) h12))) (fun _ =>
    (aX11_triesByLot_j77 C v1 v2 v3 v4 (X11_triesByLot_l11 v1 n) ih h))))
def X11_triesByLot (v1 : Int32) (h : AH) : Option (Unit × AH) :=
    bd (X11_placeOf v1 h) fun r1 h2 =>
    X11_triesByLot_l11 v1 FU r1 0 0 h2
set_option maxRecDepth 100000 in
theorem c_X11_triesByLot (l : Launch) (v1 : Int32) : MC l yX11_triesByLot cX11_triesByLot 6 none rmX11_triesByLot ZR [.ref 0, .int v1] rvV (X11_triesByLot v1) :=
  MC.of (own := RX11) pn_RX11 rfl (Nat.le_of_ble_eq_true rfl) fun X yd A h _ C =>
    aw_aload_n (pc := 0) C (i := 0) dK_d_271.1 rfl rfl <|
    aw_iload_n (pc := 1) C (i := 1) dK_d_271.2.1 rfl rfl <|
    aw_callF (pc := 2) C (cr_V (rest := []) (F := (X11_placeOf v1)) C (c_X11_placeOf X.2.1 v1) dK_d_271.2.2.1 mf_X11_placeOf ml_X11_223 im_X11_placeOf se_X11_placeOf sR_0 rfl ⟨(Nat.le_of_ble_eq_true rfl), (Nat.le_of_ble_eq_true rfl)⟩ rfl rfl (Nat.le_of_ble_eq_true rfl)) rfl rfl rfl (Nat.zero_le _) (Nat.zero_le _) fun r1 h2 =>
    aw_istore_n (pc := 5) C (i := 2) (lv' := [(0, .ref 0), (1, .int v1), (2, .int r1)]) dK_d_271.2.2.2.1 rfl (by decide) rfl <|
    aw_iconst (pc := 6) C (v := 0) dK_d_271.2.2.2.2.1 rfl <|
    aw_istore_n (pc := 7) C (i := 3) (lv' := [(0, .ref 0), (1, .int v1), (2, .int r1), (3, .int 0)]) dK_d_271.2.2.2.2.2.1 rfl (by decide) rfl <|
    aw_iconst (pc := 8) C (v := 0) dK_d_271.2.2.2.2.2.2.1 rfl <|
    aw_istore (pc := 9) C (i := 4) (lv' := [(0, .ref 0), (1, .int v1), (2, .int r1), (3, .int 0), (4, .int 0)]) dK_d_271.2.2.2.2.2.2.2.1 (by decide) rfl <|
    (aX11_triesByLot_l11 C v1 FU r1 0 0 h2)

abbrev rmX11_seeds : Room := { frames := 6, cells := 0, slots := 0, locals := 130 }
def X11_seeds_j175  (v1 : Int32) (v2 : Int32) (v4 : Int32) (v6 : Int32) (v7 : Int32) (v9 : Int32) (v10 : Int32) (K72 : Int32 → Int32 → Int32 → AH → Option (Int32 × AH)) (K132 : Int32 → Int32 → AH → Option (Int32 × AH)) (s0 : Int32) (s1 : Int32) (h : AH) : Option (Int32 × AH) :=
    vl (s1 + s0) fun x15 =>
    vl (v10 + 1) fun x16 =>
    K132 x15 x16 h
set_option maxRecDepth 100000 in
theorem aX11_seeds_j175 {X : MCx} {yd : Dyn} {A : Nat → Prop} (C : OK X cX11_seeds RX11 11 (some .int) rmX11_seeds A)  (v1 : Int32) (v2 : Int32) (v4 : Int32) (v6 : Int32) (v7 : Int32) (v9 : Int32) (v10 : Int32) (K72 : Int32 → Int32 → Int32 → AH → Option (Int32 × AH)) (hK72 : ∀ (w7 : Int32) (w8 : Int32) (w9 : Int32) (h : AH), AW X 11 ZR yd A 0 0 (QF X rmX11_seeds ZR yd rvI A) 72 [(0, .ref 0), (1, .int v1), (2, .int v2), (4, .int v4), (6, .int v6), (7, .int w7), (8, .int w8), (9, .int w9)] [] h (K72 w7 w8 w9 h)) (K132 : Int32 → Int32 → AH → Option (Int32 × AH)) (hK132 : ∀ (w8 : Int32) (w10 : Int32) (h : AH), AW X 11 ZR yd A 0 0 (QF X rmX11_seeds ZR yd rvI A) 132 [(0, .ref 0), (1, .int v1), (2, .int v2), (4, .int v4), (6, .int v6), (7, .int v7), (8, .int w8), (9, .int v9), (10, .int w10)] [] h (K132 w8 w10 h)) (s0 : Int32) (s1 : Int32) (h : AH) : AW X 11 ZR yd A 0 0 (QF X rmX11_seeds ZR yd rvI A) 175 [(0, .ref 0), (1, .int v1), (2, .int v2), (4, .int v4), (6, .int v6), (7, .int v7), (9, .int v9), (10, .int v10)] [.int s0, .int s1] h (X11_seeds_j175 v1 v2 v4 v6 v7 v9 v10 K72 K132 s0 s1 h) := by
    exact aw_iadd (pc := 175) C dK_d_291.2.2.1 <|
    aw_istoreV (pc := 176) C (i := 8) (fun x15 => [(0, .ref 0), (1, .int v1), (2, .int v2), (4, .int v4), (6, .int v6), (7, .int v7), (8, .int x15), (9, .int v9), (10, .int v10)]) dK_d_291.2.2.2.1 (by decide) (fun _ => rfl) fun x15 =>
    aw_iincV (pc := 178) C (i := 10) (cst := 1) (fun x16 => [(0, .ref 0), (1, .int v1), (2, .int v2), (4, .int v4), (6, .int v6), (7, .int v7), (8, .int x15), (9, .int v9), (10, .int x16)]) dK_d_291.2.2.2.2.1 rfl rfl (by decide) (fun _ => rfl) fun x16 =>
    aw_goto (pc := 181) C (tgt := 132) dK_d_291.2.2.2.2.2.1 rfl <|
    (hK132 x15 x16 h)
def X11_seeds_j174  (v1 : Int32) (v2 : Int32) (v4 : Int32) (v6 : Int32) (v7 : Int32) (v9 : Int32) (v10 : Int32) (K72 : Int32 → Int32 → Int32 → AH → Option (Int32 × AH)) (K132 : Int32 → Int32 → AH → Option (Int32 × AH)) (s0 : Int32) (h : AH) : Option (Int32 × AH) :=
    X11_seeds_j175 v1 v2 v4 v6 v7 v9 v10 K72 K132 0 s0 h
set_option maxRecDepth 100000 in
theorem aX11_seeds_j174 {X : MCx} {yd : Dyn} {A : Nat → Prop} (C : OK X cX11_seeds RX11 11 (some .int) rmX11_seeds A)  (v1 : Int32) (v2 : Int32) (v4 : Int32) (v6 : Int32) (v7 : Int32) (v9 : Int32) (v10 : Int32) (K72 : Int32 → Int32 → Int32 → AH → Option (Int32 × AH)) (hK72 : ∀ (w7 : Int32) (w8 : Int32) (w9 : Int32) (h : AH), AW X 11 ZR yd A 0 0 (QF X rmX11_seeds ZR yd rvI A) 72 [(0, .ref 0), (1, .int v1), (2, .int v2), (4, .int v4), (6, .int v6), (7, .int w7), (8, .int w8), (9, .int w9)] [] h (K72 w7 w8 w9 h)) (K132 : Int32 → Int32 → AH → Option (Int32 × AH)) (hK132 : ∀ (w8 : Int32) (w10 : Int32) (h : AH), AW X 11 ZR yd A 0 0 (QF X rmX11_seeds ZR yd rvI A) 132 [(0, .ref 0), (1, .int v1), (2, .int v2), (4, .int v4), (6, .int v6), (7, .int v7), (8, .int w8), (9, .int v9), (10, .int w10)] [] h (K132 w8 w10 h)) (s0 : Int32) (h : AH) : AW X 11 ZR yd A 0 0 (QF X rmX11_seeds ZR yd rvI A) 174 [(0, .ref 0), (1, .int v1), (2, .int v2), (4, .int v4), (6, .int v6), (7, .int v7), (9, .int v9), (10, .int v10)] [.int s0] h (X11_seeds_j174 v1 v2 v4 v6 v7 v9 v10 K72 K132 s0 h) := by
    exact aw_iconst (pc := 174) C (v := 0) dK_d_291.2.1 rfl <|
    (aX11_seeds_j175 C v1 v2 v4 v6 v7 v9 v10 K72 hK72 K132 hK132 0 s0 h)
def X11_seeds_l132  (v1 : Int32) (v2 : Int32) (v4 : Int32) (v6 : Int32) (v7 : Int32) (v9 : Int32) (K72 : Int32 → Int32 → Int32 → AH → Option (Int32 × AH)) : Nat → Int32 → Int32 → AH → Option (Int32 × AH)
  | 0, _, _, _ => none
  | n + 1, v8, v10, h =>
    if (h.1 0 16) ≤ v10 then (vl (v9 + 1) fun x14 =>
    K72 v7 v8 x14 h)
    else (ck v10 24 (if (h.1 10 v10.toNatClampNeg) = v1 then (ck v10 24 (if (h.1 11 v10.toNatClampNeg) ≤ 0 then (X11_seeds_j174 v1 v2 v4 v6 v7 v9 v10 K72 (X11_seeds_l132 v1 v2 v4 v6 v7 v9 K72 n) v8 h)
    else (ck v10 24 (X11_seeds_j175 v1 v2 v4 v6 v7 v9 v10 K72 (X11_seeds_l132 v1 v2 v4 v6 v7 v9 K72 n) (h.1 11 v10.toNatClampNeg) v8 h))))
    else (X11_seeds_j174 v1 v2 v4 v6 v7 v9 v10 K72 (X11_seeds_l132 v1 v2 v4 v6 v7 v9 K72 n) v8 h)))
set_option maxRecDepth 100000 in
theorem aX11_seeds_l132 {X : MCx} {yd : Dyn} {A : Nat → Prop} (C : OK X cX11_seeds RX11 11 (some .int) rmX11_seeds A)  (v1 : Int32) (v2 : Int32) (v4 : Int32) (v6 : Int32) (v7 : Int32) (v9 : Int32) (K72 : Int32 → Int32 → Int32 → AH → Option (Int32 × AH)) (hK72 : ∀ (w7 : Int32) (w8 : Int32) (w9 : Int32) (h : AH), AW X 11 ZR yd A 0 0 (QF X rmX11_seeds ZR yd rvI A) 72 [(0, .ref 0), (1, .int v1), (2, .int v2), (4, .int v4), (6, .int v6), (7, .int w7), (8, .int w8), (9, .int w9)] [] h (K72 w7 w8 w9 h)) : ∀ (n : Nat) (v8 : Int32) (v10 : Int32) (h : AH), AW X 11 ZR yd A 0 0 (QF X rmX11_seeds ZR yd rvI A) 132 [(0, .ref 0), (1, .int v1), (2, .int v2), (4, .int v4), (6, .int v6), (7, .int v7), (8, .int v8), (9, .int v9), (10, .int v10)] [] h (X11_seeds_l132 v1 v2 v4 v6 v7 v9 K72 n v8 v10 h) := by
  intro n
  induction n with
  | zero => intro v8 v10 h; exact aw_none
  | succ n ih =>
    intro v8 v10 h
    exact aw_iload (pc := 132) C (i := 10) dK_d_288.2.2.2.2.1 rfl <|
    aw_aload_n (pc := 134) C (i := 0) dK_d_288.2.2.2.2.2.1 rfl rfl <|
    aw_getI (pc := 135) C dK_d_288.2.2.2.2.2.2.1 fl_X11_147 sR_0 rfl <|
    aw_icmp_ge (pc := 138) C (tgt := 184) dK_d_288.2.2.2.2.2.2.2.1 rfl (fun _ =>
    aw_iincV (pc := 184) C (i := 9) (cst := 1) (fun x14 => [(0, .ref 0), (1, .int v1), (2, .int v2), (4, .int v4), (6, .int v6), (7, .int v7), (8, .int v8), (9, .int x14), (10, .int v10)]) dK_d_291.2.2.2.2.2.2.1 rfl rfl (by decide) (fun _ => rfl) fun x14 =>
    aw_goto (pc := 187) C (tgt := 72) dK_d_291.2.2.2.2.2.2.2.1 rfl <|
    aw_drop [0, 1, 2, 3, 4, 5, 6, 7] (hK72 v7 v8 x14 h)) (fun _ =>
    aw_iload (pc := 141) C (i := 8) dK_d_289.1 rfl <|
    aw_aload_n (pc := 143) C (i := 0) dK_d_289.2.1 rfl rfl <|
    aw_getR (pc := 144) C (b := 10) dK_d_289.2.2.1 fl_X11_37 sR_0 rfl rR_0_9 <|
    aw_iload (pc := 147) C (i := 10) dK_d_289.2.2.2.1 rfl <|
    aw_iald (pc := 149) C dK_d_289.2.2.2.2.1 sR_10 rfl <|
    aw_iload_n (pc := 150) C (i := 1) dK_d_289.2.2.2.2.2.1 rfl rfl <|
    aw_icmp_ne (pc := 151) C (tgt := 174) dK_d_289.2.2.2.2.2.2.1 rfl (fun _ =>
    aw_aload_n (pc := 154) C (i := 0) dK_d_289.2.2.2.2.2.2.2.1 rfl rfl <|
    aw_getR (pc := 155) C (b := 11) dK_d_290.1 fl_X11_40 sR_0 rfl rR_0_10 <|
    aw_iload (pc := 158) C (i := 10) dK_d_290.2.1 rfl <|
    aw_iald (pc := 160) C dK_d_290.2.2.1 sR_11 rfl <|
    aw_if_le (pc := 161) C (tgt := 174) dK_d_290.2.2.2.1 rfl (fun _ =>
    aw_drop [0, 1, 2, 3, 4, 5, 7, 8] (aX11_seeds_j174 C v1 v2 v4 v6 v7 v9 v10 K72 hK72 (X11_seeds_l132 v1 v2 v4 v6 v7 v9 K72 n) ih v8 h)) (fun _ =>
    aw_aload_n (pc := 164) C (i := 0) dK_d_290.2.2.2.2.1 rfl rfl <|
    aw_getR (pc := 165) C (b := 11) dK_d_290.2.2.2.2.2.1 fl_X11_40 sR_0 rfl rR_0_10 <|
    aw_iload (pc := 168) C (i := 10) dK_d_290.2.2.2.2.2.2.1 rfl <|
    aw_iald (pc := 170) C dK_d_290.2.2.2.2.2.2.2.1 sR_11 rfl <|
    aw_goto (pc := 171) C (tgt := 175) dK_d_291.1 rfl <|
    aw_drop [0, 1, 2, 3, 4, 5, 7, 8] (aX11_seeds_j175 C v1 v2 v4 v6 v7 v9 v10 K72 hK72 (X11_seeds_l132 v1 v2 v4 v6 v7 v9 K72 n) ih (h.1 11 v10.toNatClampNeg) v8 h))) (fun _ =>
    aw_drop [0, 1, 2, 3, 4, 5, 7, 8] (aX11_seeds_j174 C v1 v2 v4 v6 v7 v9 v10 K72 hK72 (X11_seeds_l132 v1 v2 v4 v6 v7 v9 K72 n) ih v8 h)))
def X11_seeds_j125  (v1 : Int32) (v2 : Int32) (v4 : Int32) (v6 : Int32) (v8 : Int32) (v9 : Int32) (K72 : Int32 → Int32 → Int32 → AH → Option (Int32 × AH)) (s0 : Int32) (s1 : Int32) (h : AH) : Option (Int32 × AH) :=
    vl (s1 + s0) fun x13 =>
    X11_seeds_l132 v1 v2 v4 v6 x13 v9 K72 FU v8 v6 h
set_option maxRecDepth 100000 in
theorem aX11_seeds_j125 {X : MCx} {yd : Dyn} {A : Nat → Prop} (C : OK X cX11_seeds RX11 11 (some .int) rmX11_seeds A)  (v1 : Int32) (v2 : Int32) (v4 : Int32) (v6 : Int32) (v8 : Int32) (v9 : Int32) (K72 : Int32 → Int32 → Int32 → AH → Option (Int32 × AH)) (hK72 : ∀ (w7 : Int32) (w8 : Int32) (w9 : Int32) (h : AH), AW X 11 ZR yd A 0 0 (QF X rmX11_seeds ZR yd rvI A) 72 [(0, .ref 0), (1, .int v1), (2, .int v2), (4, .int v4), (6, .int v6), (7, .int w7), (8, .int w8), (9, .int w9)] [] h (K72 w7 w8 w9 h)) (s0 : Int32) (s1 : Int32) (h : AH) : AW X 11 ZR yd A 0 0 (QF X rmX11_seeds ZR yd rvI A) 125 [(0, .ref 0), (1, .int v1), (2, .int v2), (4, .int v4), (6, .int v6), (8, .int v8), (9, .int v9)] [.int s0, .int s1] h (X11_seeds_j125 v1 v2 v4 v6 v8 v9 K72 s0 s1 h) := by
    exact aw_iadd (pc := 125) C dK_d_288.1 <|
    aw_istoreV (pc := 126) C (i := 7) (fun x13 => [(0, .ref 0), (1, .int v1), (2, .int v2), (4, .int v4), (6, .int v6), (7, .int x13), (8, .int v8), (9, .int v9)]) dK_d_288.2.1 (by decide) (fun _ => rfl) fun x13 =>
    aw_iload (pc := 128) C (i := 6) dK_d_288.2.2.1 rfl <|
    aw_istore (pc := 130) C (i := 10) (lv' := [(0, .ref 0), (1, .int v1), (2, .int v2), (4, .int v4), (6, .int v6), (7, .int x13), (8, .int v8), (9, .int v9), (10, .int v6)]) dK_d_288.2.2.2.1 (by decide) rfl <|
    (aX11_seeds_l132 C v1 v2 v4 v6 x13 v9 K72 hK72 FU v8 v6 h)
def X11_seeds_l90  (v1 : Int32) (v2 : Int32) (v4 : Int32) (v6 : Int32) (v7 : Int32) (v8 : Int32) (v9 : Int32) (K72 : Int32 → Int32 → Int32 → AH → Option (Int32 × AH)) : Nat → Int32 → AH → Option (Int32 × AH)
  | 0, _, _ => none
  | n + 1, v10, h =>
    if v10 < 0 then (bd (X11_leader h) fun r11 h12 =>
    if r11 = v1 then (X11_seeds_j125 v1 v2 v4 v6 v8 v9 K72 1 v7 h12)
    else (X11_seeds_j125 v1 v2 v4 v6 v8 v9 K72 0 v7 h12))
    else (bd (X11_triesByLot v10 h) fun _ h18 =>
    bd (X11_turnNow h18) fun r19 h20 =>
    (X11_seeds_l90 v1 v2 v4 v6 v7 v8 v9 K72 n) r19 h20)
set_option maxRecDepth 100000 in
theorem aX11_seeds_l90 {X : MCx} {yd : Dyn} {A : Nat → Prop} (C : OK X cX11_seeds RX11 11 (some .int) rmX11_seeds A)  (v1 : Int32) (v2 : Int32) (v4 : Int32) (v6 : Int32) (v7 : Int32) (v8 : Int32) (v9 : Int32) (K72 : Int32 → Int32 → Int32 → AH → Option (Int32 × AH)) (hK72 : ∀ (w7 : Int32) (w8 : Int32) (w9 : Int32) (h : AH), AW X 11 ZR yd A 0 0 (QF X rmX11_seeds ZR yd rvI A) 72 [(0, .ref 0), (1, .int v1), (2, .int v2), (4, .int v4), (6, .int v6), (7, .int w7), (8, .int w8), (9, .int w9)] [] h (K72 w7 w8 w9 h)) : ∀ (n : Nat) (v10 : Int32) (h : AH), AW X 11 ZR yd A 0 0 (QF X rmX11_seeds ZR yd rvI A) 90 [(0, .ref 0), (1, .int v1), (2, .int v2), (4, .int v4), (6, .int v6), (7, .int v7), (8, .int v8), (9, .int v9), (10, .int v10)] [] h (X11_seeds_l90 v1 v2 v4 v6 v7 v8 v9 K72 n v10 h) := by
  intro n
  induction n with
  | zero => intro v10 h; exact aw_none
  | succ n ih =>
    intro v10 h
    exact aw_iload (pc := 90) C (i := 10) dK_d_285.2.2.2.2.2.2.2.1 rfl <|
    aw_if_lt (pc := 92) C (tgt := 110) dK_d_286.1 rfl (fun _ =>
    aw_iload (pc := 110) C (i := 7) dK_d_287.1 rfl <|
    aw_aload_n (pc := 112) C (i := 0) dK_d_287.2.1 rfl rfl <|
    aw_callF (pc := 113) C (cr_V (rest := [.int v7]) (F := X11_leader) C (c_X11_leader X.2.1 ) dK_d_287.2.2.1 mf_X11_leader ml_X11_283 im_X11_leader se_X11_leader sR_0 rfl ⟨(Nat.le_of_ble_eq_true rfl), (Nat.le_of_ble_eq_true rfl)⟩ rfl rfl (Nat.le_of_ble_eq_true rfl)) rfl rfl rfl (Nat.zero_le _) (Nat.zero_le _) fun r11 h12 =>
    aw_iload_n (pc := 116) C (i := 1) dK_d_287.2.2.2.1 rfl rfl <|
    aw_icmp_ne (pc := 117) C (tgt := 124) dK_d_287.2.2.2.2.1 rfl (fun _ =>
    aw_iconst (pc := 120) C (v := 1) dK_d_287.2.2.2.2.2.1 rfl <|
    aw_goto (pc := 121) C (tgt := 125) dK_d_287.2.2.2.2.2.2.1 rfl <|
    aw_drop [0, 1, 2, 3, 4, 6, 7] (aX11_seeds_j125 C v1 v2 v4 v6 v8 v9 K72 hK72 1 v7 h12)) (fun _ =>
    aw_iconst (pc := 124) C (v := 0) dK_d_287.2.2.2.2.2.2.2.1 rfl <|
    aw_drop [0, 1, 2, 3, 4, 6, 7] (aX11_seeds_j125 C v1 v2 v4 v6 v8 v9 K72 hK72 0 v7 h12))) (fun _ =>
    aw_aload_n (pc := 95) C (i := 0) dK_d_286.2.1 rfl rfl <|
    aw_iload (pc := 96) C (i := 10) dK_d_286.2.2.1 rfl <|
    aw_callF (pc := 98) C (cr_V (rest := []) (F := (X11_triesByLot v10)) C (c_X11_triesByLot X.2.1 v10) dK_d_286.2.2.2.1 mf_X11_triesByLot ml_X11_345 im_X11_triesByLot se_X11_triesByLot sR_0 rfl ⟨(Nat.le_of_ble_eq_true rfl), (Nat.le_of_ble_eq_true rfl)⟩ rfl rfl (Nat.le_of_ble_eq_true rfl)) rfl rfl rfl (Nat.zero_le _) (Nat.zero_le _) fun _ h18 =>
    aw_aload_n (pc := 101) C (i := 0) dK_d_286.2.2.2.2.1 rfl rfl <|
    aw_callF (pc := 102) C (cr_V (rest := []) (F := X11_turnNow) C (c_X11_turnNow X.2.1 ) dK_d_286.2.2.2.2.2.1 mf_X11_turnNow ml_X11_150 im_X11_turnNow se_X11_turnNow sR_0 rfl ⟨(Nat.le_of_ble_eq_true rfl), (Nat.le_of_ble_eq_true rfl)⟩ rfl rfl (Nat.le_of_ble_eq_true rfl)) rfl rfl rfl (Nat.zero_le _) (Nat.zero_le _) fun r19 h20 =>
    aw_istore (pc := 105) C (i := 10) (lv' := [(0, .ref 0), (1, .int v1), (2, .int v2), (4, .int v4), (6, .int v6), (7, .int v7), (8, .int v8), (9, .int v9), (10, .int r19)]) dK_d_286.2.2.2.2.2.2.1 (by decide) rfl <|
    aw_goto (pc := 107) C (tgt := 90) dK_d_286.2.2.2.2.2.2.2.1 rfl <|
    (ih r19 h20))
def X11_seeds_l72  (v1 : Int32) (v2 : Int32) (v4 : Int32) (v6 : Int32) : Nat → Int32 → Int32 → Int32 → AH → Option (Int32 × AH)
  | 0, _, _, _, _ => none
  | n + 1, v7, v8, v9, h =>
    if v2 ≤ v9 then (vl (sI h 0 16 v6) fun h7 =>
    if v4 = 0 then (some (v7, h7))
    else (some (v8, h7)))
    else (vl (sI h 0 16 v6) fun h8 =>
    bd (X11_turnNow h8) fun r9 h10 =>
    X11_seeds_l90 v1 v2 v4 v6 v7 v8 v9 (X11_seeds_l72 v1 v2 v4 v6 n) FU r9 h10)
set_option maxRecDepth 100000 in
theorem aX11_seeds_l72 {X : MCx} {yd : Dyn} {A : Nat → Prop} (C : OK X cX11_seeds RX11 11 (some .int) rmX11_seeds A)  (v1 : Int32) (v2 : Int32) (v4 : Int32) (v6 : Int32) : ∀ (n : Nat) (v7 : Int32) (v8 : Int32) (v9 : Int32) (h : AH), AW X 11 ZR yd A 0 0 (QF X rmX11_seeds ZR yd rvI A) 72 [(0, .ref 0), (1, .int v1), (2, .int v2), (4, .int v4), (6, .int v6), (7, .int v7), (8, .int v8), (9, .int v9)] [] h (X11_seeds_l72 v1 v2 v4 v6 n v7 v8 v9 h) := by
  intro n
  induction n with
  | zero => intro v7 v8 v9 h; exact aw_none
  | succ n ih =>
    intro v7 v8 v9 h
    exact aw_iload (pc := 72) C (i := 9) dK_d_284.2.2.2.2.2.2.1 rfl <|
    aw_iload_n (pc := 74) C (i := 2) dK_d_284.2.2.2.2.2.2.2.1 rfl rfl <|
    aw_icmp_ge (pc := 75) C (tgt := 190) dK_d_285.1 rfl (fun _ =>
    aw_aload_n (pc := 190) C (i := 0) dK_d_292.1 rfl rfl <|
    aw_iload (pc := 191) C (i := 6) dK_d_292.2.1 rfl <|
    aw_putI (pc := 193) C dK_d_292.2.2.1 fp_X11_147 sR_0 rfl fun h7 =>
    aw_iload (pc := 196) C (i := 4) dK_d_292.2.2.2.1 rfl <|
    aw_if_ne (pc := 198) C (tgt := 206) dK_d_292.2.2.2.2.1 rfl (fun _ =>
    aw_iload (pc := 201) C (i := 7) dK_d_292.2.2.2.2.2.1 rfl <|
    aw_goto (pc := 203) C (tgt := 208) dK_d_292.2.2.2.2.2.2.1 rfl <|
    aw_iret (pc := 208) C dK_d_293.1 rfl rfl) (fun _ =>
    aw_iload (pc := 206) C (i := 8) dK_d_292.2.2.2.2.2.2.2.1 rfl <|
    aw_iret (pc := 208) C dK_d_293.1 rfl rfl)) (fun _ =>
    aw_aload_n (pc := 78) C (i := 0) dK_d_285.2.1 rfl rfl <|
    aw_iload (pc := 79) C (i := 6) dK_d_285.2.2.1 rfl <|
    aw_putI (pc := 81) C dK_d_285.2.2.2.1 fp_X11_147 sR_0 rfl fun h8 =>
    aw_aload_n (pc := 84) C (i := 0) dK_d_285.2.2.2.2.1 rfl rfl <|
    aw_callF (pc := 85) C (cr_V (rest := []) (F := X11_turnNow) C (c_X11_turnNow X.2.1 ) dK_d_285.2.2.2.2.2.1 mf_X11_turnNow ml_X11_150 im_X11_turnNow se_X11_turnNow sR_0 rfl ⟨(Nat.le_of_ble_eq_true rfl), (Nat.le_of_ble_eq_true rfl)⟩ rfl rfl (Nat.le_of_ble_eq_true rfl)) rfl rfl rfl (Nat.zero_le _) (Nat.zero_le _) fun r9 h10 =>
    aw_istore (pc := 88) C (i := 10) (lv' := [(0, .ref 0), (1, .int v1), (2, .int v2), (4, .int v4), (6, .int v6), (7, .int v7), (8, .int v8), (9, .int v9), (10, .int r9)]) dK_d_285.2.2.2.2.2.2.1 (by decide) rfl <|
    (aX11_seeds_l90 C v1 v2 v4 v6 v7 v8 v9 (X11_seeds_l72 v1 v2 v4 v6 n) ih FU r9 h10))
def X11_seeds_j40  (v1 : Int32) (v2 : Int32) (v3 : Int32) (v4 : Int32) (v5 : Int32) (h : AH) : Option (Int32 × AH) :=
    if v5 = 0 then (vl (h.1 0 16) fun x5 =>
    vl (sI h 0 40 v3) fun h6 =>
    X11_seeds_l72 v1 v2 v4 x5 FU 0 0 0 h6)
    else (bd (X11_no v5 h) fun r21 h22 =>
    some (r21, h22))
set_option maxRecDepth 100000 in
theorem aX11_seeds_j40 {X : MCx} {yd : Dyn} {A : Nat → Prop} (C : OK X cX11_seeds RX11 11 (some .int) rmX11_seeds A)  (v1 : Int32) (v2 : Int32) (v3 : Int32) (v4 : Int32) (v5 : Int32) (h : AH) : AW X 11 ZR yd A 0 0 (QF X rmX11_seeds ZR yd rvI A) 40 [(0, .ref 0), (1, .int v1), (2, .int v2), (3, .int v3), (4, .int v4), (5, .int v5)] [] h (X11_seeds_j40 v1 v2 v3 v4 v5 h) := by
    exact aw_iload (pc := 40) C (i := 5) dK_d_282.2.2.2.2.1 rfl <|
    aw_if_eq (pc := 42) C (tgt := 52) dK_d_282.2.2.2.2.2.1 rfl (fun _ =>
    aw_aload_n (pc := 52) C (i := 0) dK_d_283.2.2.1 rfl rfl <|
    aw_getI (pc := 53) C dK_d_283.2.2.2.1 fl_X11_147 sR_0 rfl <|
    aw_istoreV (pc := 56) C (i := 6) (fun x5 => [(0, .ref 0), (1, .int v1), (2, .int v2), (3, .int v3), (4, .int v4), (5, .int v5), (6, .int x5)]) dK_d_283.2.2.2.2.1 (by decide) (fun _ => rfl) fun x5 =>
    aw_iconst (pc := 58) C (v := 0) dK_d_283.2.2.2.2.2.1 rfl <|
    aw_istore (pc := 59) C (i := 7) (lv' := [(0, .ref 0), (1, .int v1), (2, .int v2), (3, .int v3), (4, .int v4), (5, .int v5), (6, .int x5), (7, .int 0)]) dK_d_283.2.2.2.2.2.2.1 (by decide) rfl <|
    aw_iconst (pc := 61) C (v := 0) dK_d_283.2.2.2.2.2.2.2.1 rfl <|
    aw_istore (pc := 62) C (i := 8) (lv' := [(0, .ref 0), (1, .int v1), (2, .int v2), (3, .int v3), (4, .int v4), (5, .int v5), (6, .int x5), (7, .int 0), (8, .int 0)]) dK_d_284.1 (by decide) rfl <|
    aw_aload_n (pc := 64) C (i := 0) dK_d_284.2.1 rfl rfl <|
    aw_iload_n (pc := 65) C (i := 3) dK_d_284.2.2.1 rfl rfl <|
    aw_putI (pc := 66) C dK_d_284.2.2.2.1 fp_X11_336 sR_0 rfl fun h6 =>
    aw_iconst (pc := 69) C (v := 0) dK_d_284.2.2.2.2.1 rfl <|
    aw_istore (pc := 70) C (i := 9) (lv' := [(0, .ref 0), (1, .int v1), (2, .int v2), (3, .int v3), (4, .int v4), (5, .int v5), (6, .int x5), (7, .int 0), (8, .int 0), (9, .int 0)]) dK_d_284.2.2.2.2.2.1 (by decide) rfl <|
    aw_drop [0, 1, 2, 4, 6, 7, 8, 9] (aX11_seeds_l72 C v1 v2 v4 x5 FU 0 0 0 h6)) (fun _ =>
    aw_aload_n (pc := 45) C (i := 0) dK_d_282.2.2.2.2.2.2.1 rfl rfl <|
    aw_iload (pc := 46) C (i := 5) dK_d_282.2.2.2.2.2.2.2.1 rfl <|
    aw_callF (pc := 48) C (cr_V (rest := []) (F := (X11_no v5)) C (c_X11_no X.2.1 v5) dK_d_283.1 mf_X11_no ml_X11_115 im_X11_no se_X11_no sR_0 rfl ⟨(Nat.le_of_ble_eq_true rfl), (Nat.le_of_ble_eq_true rfl)⟩ rfl rfl (Nat.le_of_ble_eq_true rfl)) rfl rfl rfl (Nat.zero_le _) (Nat.zero_le _) fun r21 h22 =>
    aw_iret (pc := 51) C dK_d_283.2.1 rfl rfl)
def X11_seeds_j19  (v1 : Int32) (v2 : Int32) (v3 : Int32) (v4 : Int32) (s0 : Int32) (h : AH) : Option (Int32 × AH) :=
    if s0 = 0 then (bd (X11_isIn v4 0 1 h) fun r23 h24 =>
    if r23 = 0 then (vl (-2) fun x25 =>
    X11_seeds_j40 v1 v2 v3 v4 x25 h24)
    else (X11_seeds_j40 v1 v2 v3 v4 s0 h24))
    else (X11_seeds_j40 v1 v2 v3 v4 s0 h)
set_option maxRecDepth 100000 in
theorem aX11_seeds_j19 {X : MCx} {yd : Dyn} {A : Nat → Prop} (C : OK X cX11_seeds RX11 11 (some .int) rmX11_seeds A)  (v1 : Int32) (v2 : Int32) (v3 : Int32) (v4 : Int32) (s0 : Int32) (h : AH) : AW X 11 ZR yd A 0 0 (QF X rmX11_seeds ZR yd rvI A) 19 [(0, .ref 0), (1, .int v1), (2, .int v2), (3, .int v3), (4, .int v4)] [.int s0] h (X11_seeds_j19 v1 v2 v3 v4 s0 h) := by
    exact aw_istore (pc := 19) C (i := 5) (lv' := [(0, .ref 0), (1, .int v1), (2, .int v2), (3, .int v3), (4, .int v4), (5, .int s0)]) dK_d_281.2.2.1 (by decide) rfl <|
    aw_iload (pc := 21) C (i := 5) dK_d_281.2.2.2.1 rfl <|
    aw_if_ne (pc := 23) C (tgt := 40) dK_d_281.2.2.2.2.1 rfl (fun _ =>
    aw_iload (pc := 26) C (i := 4) dK_d_281.2.2.2.2.2.1 rfl <|
    aw_iconst (pc := 28) C (v := 0) dK_d_281.2.2.2.2.2.2.1 rfl <|
    aw_iconst (pc := 29) C (v := 1) dK_d_281.2.2.2.2.2.2.2.1 rfl <|
    aw_callF (pc := 30) C (cr_S (rest := []) (F := (X11_isIn v4 0 1)) C (c_X11_isIn X.2.1 v4 0 1) dK_d_282.1 mf_X11_isIn ml_X11_126 st_X11_isIn ⟨(Nat.le_of_ble_eq_true rfl), (Nat.le_of_ble_eq_true rfl)⟩ rfl rfl (Nat.le_of_ble_eq_true rfl)) rfl rfl rfl (Nat.zero_le _) (Nat.zero_le _) fun r23 h24 =>
    aw_if_ne (pc := 33) C (tgt := 40) dK_d_282.2.1 rfl (fun _ =>
    aw_bipush (pc := 36) C (v := (-2)) dK_d_282.2.2.1 rfl <|
    aw_istoreV (pc := 38) C (i := 5) (fun x25 => [(0, .ref 0), (1, .int v1), (2, .int v2), (3, .int v3), (4, .int v4), (5, .int x25)]) dK_d_282.2.2.2.1 (by decide) (fun _ => rfl) fun x25 =>
    (aX11_seeds_j40 C v1 v2 v3 v4 x25 h24)) (fun _ =>
    (aX11_seeds_j40 C v1 v2 v3 v4 s0 h24))) (fun _ =>
    (aX11_seeds_j40 C v1 v2 v3 v4 s0 h))
def X11_seeds (v1 : Int32) (v2 : Int32) (v3 : Int32) (v4 : Int32) (h : AH) : Option (Int32 × AH) :=
    bd (X11_isJumper v1 h) fun r1 h2 =>
    if r1 = 0 then (X11_seeds_j19 v1 v2 v3 v4 (-1) h2)
    else (bd (X11_bound v2 1 20 h2) fun r3 h4 =>
    X11_seeds_j19 v1 v2 v3 v4 r3 h4)
set_option maxRecDepth 100000 in
theorem c_X11_seeds (l : Launch) (v1 : Int32) (v2 : Int32) (v3 : Int32) (v4 : Int32) : MC l yX11_seeds cX11_seeds 11 (some .int) rmX11_seeds ZR [.ref 0, .int v1, .int v2, .int v3, .int v4] rvI (X11_seeds v1 v2 v3 v4) :=
  MC.of (own := RX11) pn_RX11 rfl (Nat.le_of_ble_eq_true rfl) fun X yd A h _ C =>
    aw_aload_n (pc := 0) C (i := 0) dK_d_280.1 rfl rfl <|
    aw_iload_n (pc := 1) C (i := 1) dK_d_280.2.1 rfl rfl <|
    aw_callF (pc := 2) C (cr_V (rest := []) (F := (X11_isJumper v1)) C (c_X11_isJumper X.2.1 v1) dK_d_280.2.2.1 mf_X11_isJumper ml_X11_207 im_X11_isJumper se_X11_isJumper sR_0 rfl ⟨(Nat.le_of_ble_eq_true rfl), (Nat.le_of_ble_eq_true rfl)⟩ rfl rfl (Nat.le_of_ble_eq_true rfl)) rfl rfl rfl (Nat.zero_le _) (Nat.zero_le _) fun r1 h2 =>
    aw_if_ne (pc := 5) C (tgt := 12) dK_d_280.2.2.2.1 rfl (fun _ =>
    aw_iconst (pc := 8) C (v := (-1)) dK_d_280.2.2.2.2.1 rfl <|
    aw_goto (pc := 9) C (tgt := 19) dK_d_280.2.2.2.2.2.1 rfl <|
    (aX11_seeds_j19 C v1 v2 v3 v4 (-1) h2)) (fun _ =>
    aw_iload_n (pc := 12) C (i := 2) dK_d_280.2.2.2.2.2.2.1 rfl rfl <|
    aw_iconst (pc := 13) C (v := 1) dK_d_280.2.2.2.2.2.2.2.1 rfl <|
    aw_bipush (pc := 14) C (v := 20) dK_d_281.1 rfl <|
    aw_callF (pc := 16) C (cr_S (rest := []) (F := (X11_bound v2 1 20)) C (c_X11_bound X.2.1 v2 1 20) dK_d_281.2.1 mf_X11_bound ml_X11_108 st_X11_bound ⟨(Nat.le_of_ble_eq_true rfl), (Nat.le_of_ble_eq_true rfl)⟩ rfl rfl (Nat.le_of_ble_eq_true rfl)) rfl rfl rfl (Nat.zero_le _) (Nat.zero_le _) fun r3 h4 =>
    (aX11_seeds_j19 C v1 v2 v3 v4 r3 h4))
end
section
abbrev rmX11_triesAs : Room := { frames := 0, cells := 0, slots := 0, locals := 0 }
def X11_triesAs_j28  (v1 : Int32) (v3 : Int32) (K4 : Int32 → Int32 → AH → Option (Int32 × AH)) (s0 : Int32) (s1 : Int32) (h : AH) : Option (Int32 × AH) :=
    vl (s1 + s0) fun x1 =>
    vl (v3 + 1) fun x2 =>
    K4 x1 x2 h
set_option maxRecDepth 100000 in
theorem aX11_triesAs_j28 {X : MCx} {yd : Dyn} {A : Nat → Prop} (C : OK X cX11_triesAs RX11 4 (some .int) rmX11_triesAs A)  (v1 : Int32) (v3 : Int32) (K4 : Int32 → Int32 → AH → Option (Int32 × AH)) (hK4 : ∀ (w2 : Int32) (w3 : Int32) (h : AH), AW X 4 ZR yd A 0 0 (QF X rmX11_triesAs ZR yd rvI A) 4 [(0, .ref 0), (1, .int v1), (2, .int w2), (3, .int w3)] [] h (K4 w2 w3 h)) (s0 : Int32) (s1 : Int32) (h : AH) : AW X 4 ZR yd A 0 0 (QF X rmX11_triesAs ZR yd rvI A) 28 [(0, .ref 0), (1, .int v1), (3, .int v3)] [.int s0, .int s1] h (X11_triesAs_j28 v1 v3 K4 s0 s1 h) := by
    exact aw_iadd (pc := 28) C dK_d_296.2.2.1 <|
    aw_istoreV_n (pc := 29) C (i := 2) (fun x1 => [(0, .ref 0), (1, .int v1), (2, .int x1), (3, .int v3)]) dK_d_296.2.2.2.1 rfl (by decide) (fun _ => rfl) fun x1 =>
    aw_iincV (pc := 30) C (i := 3) (cst := 1) (fun x2 => [(0, .ref 0), (1, .int v1), (2, .int x1), (3, .int x2)]) dK_d_296.2.2.2.2.1 rfl rfl (by decide) (fun _ => rfl) fun x2 =>
    aw_goto (pc := 33) C (tgt := 4) dK_d_296.2.2.2.2.2.1 rfl <|
    (hK4 x1 x2 h)
def X11_triesAs_l4  (v1 : Int32) : Nat → Int32 → Int32 → AH → Option (Int32 × AH)
  | 0, _, _, _ => none
  | n + 1, v2, v3, h =>
    if (h.1 0 16) ≤ v3 then (some (v2, h))
    else (ck v3 24 (if (h.1 11 v3.toNatClampNeg) = v1 then (X11_triesAs_j28 v1 v3 (X11_triesAs_l4 v1 n) 1 v2 h)
    else (X11_triesAs_j28 v1 v3 (X11_triesAs_l4 v1 n) 0 v2 h)))
set_option maxRecDepth 100000 in
theorem aX11_triesAs_l4 {X : MCx} {yd : Dyn} {A : Nat → Prop} (C : OK X cX11_triesAs RX11 4 (some .int) rmX11_triesAs A)  (v1 : Int32) : ∀ (n : Nat) (v2 : Int32) (v3 : Int32) (h : AH), AW X 4 ZR yd A 0 0 (QF X rmX11_triesAs ZR yd rvI A) 4 [(0, .ref 0), (1, .int v1), (2, .int v2), (3, .int v3)] [] h (X11_triesAs_l4 v1 n v2 v3 h) := by
  intro n
  induction n with
  | zero => intro v2 v3 h; exact aw_none
  | succ n ih =>
    intro v2 v3 h
    exact aw_iload_n (pc := 4) C (i := 3) dK_d_294.2.2.2.2.1 rfl rfl <|
    aw_aload_n (pc := 5) C (i := 0) dK_d_294.2.2.2.2.2.1 rfl rfl <|
    aw_getI (pc := 6) C dK_d_294.2.2.2.2.2.2.1 fl_X11_147 sR_0 rfl <|
    aw_icmp_ge (pc := 9) C (tgt := 36) dK_d_294.2.2.2.2.2.2.2.1 rfl (fun _ =>
    aw_iload_n (pc := 36) C (i := 2) dK_d_296.2.2.2.2.2.2.1 rfl rfl <|
    aw_iret (pc := 37) C dK_d_296.2.2.2.2.2.2.2.1 rfl rfl) (fun _ =>
    aw_iload_n (pc := 12) C (i := 2) dK_d_295.1 rfl rfl <|
    aw_aload_n (pc := 13) C (i := 0) dK_d_295.2.1 rfl rfl <|
    aw_getR (pc := 14) C (b := 11) dK_d_295.2.2.1 fl_X11_40 sR_0 rfl rR_0_10 <|
    aw_iload_n (pc := 17) C (i := 3) dK_d_295.2.2.2.1 rfl rfl <|
    aw_iald (pc := 18) C dK_d_295.2.2.2.2.1 sR_11 rfl <|
    aw_iload_n (pc := 19) C (i := 1) dK_d_295.2.2.2.2.2.1 rfl rfl <|
    aw_icmp_ne (pc := 20) C (tgt := 27) dK_d_295.2.2.2.2.2.2.1 rfl (fun _ =>
    aw_iconst (pc := 23) C (v := 1) dK_d_295.2.2.2.2.2.2.2.1 rfl <|
    aw_goto (pc := 24) C (tgt := 28) dK_d_296.1 rfl <|
    aw_drop [0, 1, 3] (aX11_triesAs_j28 C v1 v3 (X11_triesAs_l4 v1 n) ih 1 v2 h)) (fun _ =>
    aw_iconst (pc := 27) C (v := 0) dK_d_296.2.1 rfl <|
    aw_drop [0, 1, 3] (aX11_triesAs_j28 C v1 v3 (X11_triesAs_l4 v1 n) ih 0 v2 h)))
def X11_triesAs (v1 : Int32) (h : AH) : Option (Int32 × AH) :=
    X11_triesAs_l4 v1 FU 0 0 h
set_option maxRecDepth 100000 in
theorem c_X11_triesAs (l : Launch) (v1 : Int32) : MC l yX11_triesAs cX11_triesAs 4 (some .int) rmX11_triesAs ZR [.ref 0, .int v1] rvI (X11_triesAs v1) :=
  MC.of (own := RX11) pn_RX11 rfl (Nat.le_of_ble_eq_true rfl) fun X yd A h _ C =>
    aw_iconst (pc := 0) C (v := 0) dK_d_294.1 rfl <|
    aw_istore_n (pc := 1) C (i := 2) (lv' := [(0, .ref 0), (1, .int v1), (2, .int 0)]) dK_d_294.2.1 rfl (by decide) rfl <|
    aw_iconst (pc := 2) C (v := 0) dK_d_294.2.2.1 rfl <|
    aw_istore_n (pc := 3) C (i := 3) (lv' := [(0, .ref 0), (1, .int v1), (2, .int 0), (3, .int 0)]) dK_d_294.2.2.2.1 rfl (by decide) rfl <|
    (aX11_triesAs_l4 C v1 FU 0 0 h)

abbrev rmX11_count : Room := { frames := 6, cells := 0, slots := 0, locals := 130 }
def X11_count (v1 : Int32) (h : AH) : Option (Int32 × AH) :=
    bd (X11_isIn v1 11 16 h) fun r1 h2 =>
    if r1 = 0 then (vl v1 fun y3 =>
    if y3 = 0 then (some ((h2.1 0 15), h2))
    else if y3 = 1 then (bd (X11_roundNow h2) fun r5 h6 =>
    some (r5, h6))
    else if y3 = 2 then (some ((h2.1 0 16), h2))
    else if y3 = 3 then (some ((h2.1 0 12), h2))
    else if y3 = 4 then (some ((h2.1 0 13), h2))
    else if y3 = 5 then (bd (X11_triesAs (-9) h2) fun r11 h12 =>
    some (r11, h12))
    else if y3 = 6 then (bd (X11_triesAs (-8) h2) fun r14 h15 =>
    some (r14, h15))
    else if y3 = 7 then (some ((h2.1 0 21), h2))
    else if y3 = 8 then (some ((h2.1 0 34), h2))
    else (some ((-9), h2)))
    else (ck (v1 - 10) 7 (some ((h2.1 1 (v1 - 10).toNatClampNeg), h2)))
set_option maxRecDepth 100000 in
theorem c_X11_count (l : Launch) (v1 : Int32) : MC l yX11_count cX11_count 2 (some .int) rmX11_count ZR [.ref 0, .int v1] rvI (X11_count v1) :=
  MC.of (own := RX11) pn_RX11 rfl (Nat.le_of_ble_eq_true rfl) fun X yd A h _ C =>
    aw_iload_n (pc := 0) C (i := 1) dK_d_297.1 rfl rfl <|
    aw_bipush (pc := 1) C (v := 11) dK_d_297.2.1 rfl <|
    aw_bipush (pc := 3) C (v := 16) dK_d_297.2.2.1 rfl <|
    aw_callF (pc := 5) C (cr_S (rest := []) (F := (X11_isIn v1 11 16)) C (c_X11_isIn X.2.1 v1 11 16) dK_d_297.2.2.2.1 mf_X11_isIn ml_X11_126 st_X11_isIn ⟨(Nat.le_of_ble_eq_true rfl), (Nat.le_of_ble_eq_true rfl)⟩ rfl rfl (Nat.le_of_ble_eq_true rfl)) rfl rfl rfl (Nat.zero_le _) (Nat.zero_le _) fun r1 h2 =>
    aw_if_eq (pc := 8) C (tgt := 21) dK_d_297.2.2.2.2.1 rfl (fun _ =>
    aw_iload_n (pc := 21) C (i := 1) dK_d_298.2.2.2.2.1 rfl rfl <|
    aw_vlI fun y3 =>
    aw_if (fun c4 => aw_tswA (pc := 22) C (off := 50) (tg := 72) 0 dK_d_298.2.2.2.2.2.1 (by rw [c4]; rfl) (by decide) (by decide) rfl rfl (aw_aload_n (pc := 72) C (i := 0) dK_d_298.2.2.2.2.2.2.1 rfl rfl <|
    aw_getI (pc := 73) C dK_d_298.2.2.2.2.2.2.2.1 fl_X11_105 sR_0 rfl <|
    aw_iret (pc := 76) C dK_d_299.1 rfl rfl)) (fun c4 =>
    aw_if (fun c7 => aw_tswA (pc := 22) C (off := 55) (tg := 77) 1 dK_d_298.2.2.2.2.2.1 (by rw [c7]; rfl) (by decide) (by decide) rfl rfl (aw_aload_n (pc := 77) C (i := 0) dK_d_299.2.1 rfl rfl <|
    aw_callF (pc := 78) C (cr_V (rest := []) (F := X11_roundNow) C (c_X11_roundNow X.2.1 ) dK_d_299.2.2.1 mf_X11_roundNow ml_X11_301 im_X11_roundNow se_X11_roundNow sR_0 rfl ⟨(Nat.le_of_ble_eq_true rfl), (Nat.le_of_ble_eq_true rfl)⟩ rfl rfl (Nat.le_of_ble_eq_true rfl)) rfl rfl rfl (Nat.zero_le _) (Nat.zero_le _) fun r5 h6 =>
    aw_iret (pc := 81) C dK_d_299.2.2.2.1 rfl rfl)) (fun c7 =>
    aw_if (fun c8 => aw_tswA (pc := 22) C (off := 60) (tg := 82) 2 dK_d_298.2.2.2.2.2.1 (by rw [c8]; rfl) (by decide) (by decide) rfl rfl (aw_aload_n (pc := 82) C (i := 0) dK_d_299.2.2.2.2.1 rfl rfl <|
    aw_getI (pc := 83) C dK_d_299.2.2.2.2.2.1 fl_X11_147 sR_0 rfl <|
    aw_iret (pc := 86) C dK_d_299.2.2.2.2.2.2.1 rfl rfl)) (fun c8 =>
    aw_if (fun c9 => aw_tswA (pc := 22) C (off := 65) (tg := 87) 3 dK_d_298.2.2.2.2.2.1 (by rw [c9]; rfl) (by decide) (by decide) rfl rfl (aw_aload_n (pc := 87) C (i := 0) dK_d_299.2.2.2.2.2.2.2.1 rfl rfl <|
    aw_getI (pc := 88) C dK_d_300.1 fl_X11_95 sR_0 rfl <|
    aw_iret (pc := 91) C dK_d_300.2.1 rfl rfl)) (fun c9 =>
    aw_if (fun c10 => aw_tswA (pc := 22) C (off := 70) (tg := 92) 4 dK_d_298.2.2.2.2.2.1 (by rw [c10]; rfl) (by decide) (by decide) rfl rfl (aw_aload_n (pc := 92) C (i := 0) dK_d_300.2.2.1 rfl rfl <|
    aw_getI (pc := 93) C dK_d_300.2.2.2.1 fl_X11_99 sR_0 rfl <|
    aw_iret (pc := 96) C dK_d_300.2.2.2.2.1 rfl rfl)) (fun c10 =>
    aw_if (fun c13 => aw_tswA (pc := 22) C (off := 75) (tg := 97) 5 dK_d_298.2.2.2.2.2.1 (by rw [c13]; rfl) (by decide) (by decide) rfl rfl (aw_aload_n (pc := 97) C (i := 0) dK_d_300.2.2.2.2.2.1 rfl rfl <|
    aw_bipush (pc := 98) C (v := (-9)) dK_d_300.2.2.2.2.2.2.1 rfl <|
    aw_callF (pc := 100) C (cr_V (rest := []) (F := (X11_triesAs (-9))) C (c_X11_triesAs X.2.1 (-9)) dK_d_300.2.2.2.2.2.2.2.1 mf_X11_triesAs ml_X11_349 im_X11_triesAs se_X11_triesAs sR_0 rfl ⟨(Nat.le_of_ble_eq_true rfl), (Nat.le_of_ble_eq_true rfl)⟩ rfl rfl (Nat.le_of_ble_eq_true rfl)) rfl rfl rfl (Nat.zero_le _) (Nat.zero_le _) fun r11 h12 =>
    aw_iret (pc := 103) C dK_d_301.1 rfl rfl)) (fun c13 =>
    aw_if (fun c16 => aw_tswA (pc := 22) C (off := 82) (tg := 104) 6 dK_d_298.2.2.2.2.2.1 (by rw [c16]; rfl) (by decide) (by decide) rfl rfl (aw_aload_n (pc := 104) C (i := 0) dK_d_301.2.1 rfl rfl <|
    aw_bipush (pc := 105) C (v := (-8)) dK_d_301.2.2.1 rfl <|
    aw_callF (pc := 107) C (cr_V (rest := []) (F := (X11_triesAs (-8))) C (c_X11_triesAs X.2.1 (-8)) dK_d_301.2.2.2.1 mf_X11_triesAs ml_X11_349 im_X11_triesAs se_X11_triesAs sR_0 rfl ⟨(Nat.le_of_ble_eq_true rfl), (Nat.le_of_ble_eq_true rfl)⟩ rfl rfl (Nat.le_of_ble_eq_true rfl)) rfl rfl rfl (Nat.zero_le _) (Nat.zero_le _) fun r14 h15 =>
    aw_iret (pc := 110) C dK_d_301.2.2.2.2.1 rfl rfl)) (fun c16 =>
    aw_if (fun c17 => aw_tswA (pc := 22) C (off := 89) (tg := 111) 7 dK_d_298.2.2.2.2.2.1 (by rw [c17]; rfl) (by decide) (by decide) rfl rfl (aw_aload_n (pc := 111) C (i := 0) dK_d_301.2.2.2.2.2.1 rfl rfl <|
    aw_getI (pc := 112) C dK_d_301.2.2.2.2.2.2.1 fl_X11_112 sR_0 rfl <|
    aw_iret (pc := 115) C dK_d_301.2.2.2.2.2.2.2.1 rfl rfl)) (fun c17 =>
    aw_if (fun c18 => aw_tswA (pc := 22) C (off := 94) (tg := 116) 8 dK_d_298.2.2.2.2.2.1 (by rw [c18]; rfl) (by decide) (by decide) rfl rfl (aw_aload_n (pc := 116) C (i := 0) dK_d_302.1 rfl rfl <|
    aw_getI (pc := 117) C dK_d_302.2.1 fl_X11_295 sR_0 rfl <|
    aw_iret (pc := 120) C dK_d_302.2.2.1 rfl rfl)) (fun c18 =>
    aw_tswD (pc := 22) C (N := 9) (td := 121) [0, 1, 2, 3, 4, 5, 6, 7, 8] dK_d_298.2.2.2.2.2.1 (List.forall_mem_cons.mpr ⟨ti_ne c4 rfl, List.forall_mem_cons.mpr ⟨ti_ne c7 rfl, List.forall_mem_cons.mpr ⟨ti_ne c8 rfl, List.forall_mem_cons.mpr ⟨ti_ne c9 rfl, List.forall_mem_cons.mpr ⟨ti_ne c10 rfl, List.forall_mem_cons.mpr ⟨ti_ne c13 rfl, List.forall_mem_cons.mpr ⟨ti_ne c16 rfl, List.forall_mem_cons.mpr ⟨ti_ne c17 rfl, List.forall_mem_cons.mpr ⟨ti_ne c18 rfl, fun _ hz => by cases hz⟩⟩⟩⟩⟩⟩⟩⟩⟩) rfl (by decide) rfl (aw_bipush (pc := 121) C (v := (-9)) dK_d_302.2.2.2.1 rfl <|
    aw_iret (pc := 123) C dK_d_302.2.2.2.2.1 rfl rfl))))))))))) (fun _ =>
    aw_aload_n (pc := 11) C (i := 0) dK_d_297.2.2.2.2.2.1 rfl rfl <|
    aw_getR (pc := 12) C (b := 1) dK_d_297.2.2.2.2.2.2.1 fl_X11_7 sR_0 rfl rR_0_0 <|
    aw_iload_n (pc := 15) C (i := 1) dK_d_297.2.2.2.2.2.2.2.1 rfl rfl <|
    aw_bipush (pc := 16) C (v := 10) dK_d_298.1 rfl <|
    aw_isub (pc := 18) C dK_d_298.2.1 <|
    aw_iald (pc := 19) C dK_d_298.2.2.1 sR_1 rfl <|
    aw_iret (pc := 20) C dK_d_298.2.2.2.1 rfl rfl)
end
section
/-! two worlds at a time: class and reference, beside the law's script -/
theorem arrV_congr {cI : ClassId} {N : Nat} {f g : Nat → Value} (h : ∀ j, j < N → f j = g j) : arrV cI N f = arrV cI N g := by
  have e : (fun j : Fin N => f j.val) = (fun j : Fin N => g j.val) := funext fun j => h j.val j.isLt
  unfold arrV
  rw [e]
def agr (Z Z' : Stc) : Bool := (List.range Z.1.length).all fun o => match Z.1[o]? with
  | some (.inr ci) => (List.range (fty ci).length).all fun k => !((fty ci)[k]? == some 2) || (Z.2.1 o k == Z'.2.1 o k)
  | some (.inl (_, kd, n)) => kd == 0 || kd == 1 || (kd == 2 && (List.range n).all fun k => Z.2.1 o k == Z'.2.1 o k)
  | none => true
theorem wld_like {Z Z' : Stc} {yd : Dyn} {h : AH} {D : va_G} {cl : List vw_C} {H : Heap} (e1 : Z.1 = Z'.1) (e3 : Z.2.2.1 = Z'.2.2.1) (ha : agr Z Z' = true) (hP : va_P D cl (wld Z yd h) H) : va_P D cl (wld Z' yd h) H := by
  intro o q hk
  have hl : o < Z'.1.length := by
    have := (List.getElem?_eq_some_iff.mp hk).1
    rwa [wld_len] at this
  obtain ⟨s, hs⟩ : ∃ s, Z'.1[o]? = some s := ⟨_, List.getElem?_eq_getElem hl⟩
  have hs0 : Z.1[o]? = some s := by rw [e1]; exact hs
  rw [wld_at hs] at hk
  cases hk
  have h0 := hP o _ (wld_at (yd := yd) (h := h) hs0)
  have ha1 := List.all_eq_true.mp ha o (List.mem_range.mpr (by rw [e1]; exact hl))
  rw [hs0] at ha1
  cases s with
  | inr ci =>
    have he : ent Z' yd h o (.inr ci) = ent Z yd h o (.inr ci) := by
      show Sum.inr (ci, _) = Sum.inr (ci, _)
      congr 2
      refine eFs_congr _ _ (fun i t ht => ?_)
      rw [Nat.zero_add]
      match t, ht with
      | 0, _ => rfl
      | 1, _ => rfl
      | 2, ht =>
        have hi : i < (fty ci).length := (List.getElem?_eq_some_iff.mp ht).1
        have h2 := List.all_eq_true.mp ha1 i (List.mem_range.mpr hi)
        rw [ht] at h2
        have h3 : Z.2.1 o i = Z'.2.1 o i := by simpa using h2
        show va_rf ((Z'.2.1 o i).map yd.1) = va_rf ((Z.2.1 o i).map yd.1)
        rw [h3]
      | 3, _ =>
        show Value.ref (yd.1 (Z'.2.2.1 + h.2.2 o % 6)) = Value.ref (yd.1 (Z.2.2.1 + h.2.2 o % 6))
        rw [e3]
      | t + 4, _ => rfl
    rw [he]
    exact h0
  | inl x =>
    obtain ⟨t, kd, n⟩ := x
    simp only [Bool.or_eq_true, Bool.and_eq_true, beq_iff_eq] at ha1
    rcases ha1 with (e | e) | ⟨e, h2⟩
    · subst e; exact h0
    · subst e; exact h0
    · subst e
      have h3 := List.all_eq_true.mp h2
      show H[yd.1 o]? = some (arrV (tcl yd t) n (fun j => va_rf ((Z'.2.1 o j).map yd.1)))
      have h4 : H[yd.1 o]? = some (arrV (tcl yd t) n (fun j => va_rf ((Z.2.1 o j).map yd.1))) := h0
      rw [h4]
      refine congrArg some (arrV_congr (fun j hj => ?_))
      have h5 : Z.2.1 o j = Z'.2.1 o j := by simpa using h3 j (List.mem_range.mpr hj)
      rw [h5]
theorem wld_likeD {Z Z' : Stc} {yd : Dyn} {h : AH} {A : Nat → Prop} (e1 : Z.1 = Z'.1) (hD : va_D A (wld Z yd h)) : va_D A (wld Z' yd h) := by
  have key : ∀ (k : Nat) (q : Nat × va_E), (wld Z' yd h)[k]? = some q → ∃ e, (wld Z yd h)[k]? = some (q.1, e) := by
    intro k q hk
    have hl : k < Z'.1.length := by
      have := (List.getElem?_eq_some_iff.mp hk).1
      rwa [wld_len] at this
    obtain ⟨t, ht⟩ : ∃ t, Z'.1[k]? = some t := ⟨_, List.getElem?_eq_getElem hl⟩
    rw [wld_at ht] at hk
    cases hk
    exact ⟨_, wld_at (by rw [e1]; exact ht)⟩
  refine ⟨fun i j p q hi hj e => ?_, fun k q hk => ?_⟩
  · obtain ⟨a1, h1⟩ := key i p hi
    obtain ⟨a2, h2⟩ := key j q hj
    exact hD.1 i j _ _ h1 h2 e
  · obtain ⟨a1, h1⟩ := key k q hk
    exact hD.2 k (q.1, a1) h1
theorem YR_sh : YR56.1 = ZR.1 := by decide +kernel
theorem YR_ag : agr YR56 ZR = true := by decide +kernel
theorem YC_sh : YC115.1 = ZC.1 := by decide +kernel
theorem YC_ag : agr YC115 ZC = true := by decide +kernel
/-- the addresses of two worlds are apart -/
def Apt (Z1 Z2 : Stc) (y1 y2 : Dyn) : Prop := ∀ o o', o < Z1.1.length → o' < Z2.1.length → y1.1 o ≠ y2.1 o'
theorem Apt.symm {Z1 Z2 : Stc} {y1 y2 : Dyn} (h : Apt Z1 Z2 y1 y2) : Apt Z2 Z1 y2 y1 := fun o o' h1 h2 e => h o' o h2 h1 e.symm
section L2
variable {X : MCx} {cc : ByteArray} {own : String} {nL : Nat} {ret : Option FieldType} {rm : Room} {Z1 Z2 Z' : Stc} {y1 y2 : Dyn} {A : Nat → Prop} {k n : Nat} {β : Type} {pc : Nat} {st rest : List Value} {c1 c2 c1' : AH} {rv : β → Option Value} {F : AH → Option (β × AH)} {v : β} {mc ms : Nat} {Q : State → Prop}
theorem l2_at {Z : Stc} {yd : Dyn} {h : AH} {j : Nat} {q : Nat × va_E} (hk : (wld Z yd h)[j]? = some q) : j < Z.1.length ∧ q.1 = yd.1 j := by
  have hl : j < Z.1.length := by
    have := (List.getElem?_eq_some_iff.mp hk).1
    rwa [wld_len] at this
  obtain ⟨s, hs⟩ : ∃ s, Z.1[j]? = some s := ⟨_, List.getElem?_eq_getElem hl⟩
  rw [wld_at hs] at hk
  cases hk
  exact ⟨hl, rfl⟩
theorem l2_lt {H : Heap} {locs : List Loc} (h2 : WR X Z2 y2 A c2 H locs) {o : Nat} (ho : o < Z2.1.length) : y2.1 o < H.size := by
  obtain ⟨s, hs⟩ : ∃ s, Z2.1[o]? = some s := ⟨_, List.getElem?_eq_getElem ho⟩
  exact (h2.1 o _ (wld_at hs)).lt
theorem l2_keep {H H' : Heap} {locs : List Loc} (hap : Apt Z1 Z2 y1 y2) (h2 : WR X Z2 y2 A c2 H locs) (hk : ∀ q : Nat, q < H.size → ¬ AA y1 Z1 H.size q → H'[q]? = H[q]?) : va_P y2.2.1 vwCl (wld Z2 y2 c2) H' := by
  refine h2.1.kept (fun j q hq => ?_)
  have hlt := (h2.1 j q hq).lt
  obtain ⟨hj, e⟩ := l2_at hq
  refine hk q.1 hlt (fun hz => ?_)
  rcases hz with ⟨o, ho, e2⟩ | hz
  · exact hap o j ho hj (by rw [← e2, e])
  · omega
theorem l2_call (C : OK X cc own nL ret rm A) (hap : Apt Z1 Z2 y1 y2) (R : CR X nL Z1 y1 A mc ms pc st rest rv F) (hF : F c1 = some (v, c1')) (hc : k + mc ≤ rm.cells) (hs : n + ms ≤ rm.slots) {ls : Array Slot} {H : Heap} {locs : List Loc} (hls : ls.size = nL) (h1 : WR X Z1 y1 A c1 H locs) (h2 : WR X Z2 y2 A c2 H locs)
    (q : ∀ H' locs', WR X Z1 y1 A c1' H' locs' → WR X Z2 y2 A c2 H' locs' → WX X H' locs' (k + mc) (n + ms) Q (F0 (xM X) (pc + 3) ls (((rv v).map (cv y1.1)).toList ++ rest.map (cv y1.1)))) : WX X H locs k n Q (F0 (xM X) pc ls (st.map (cv y1.1))) := by
  have run := R c1 v c1' hF ls H locs k n hls h1 (by rw [C.2.2.2.2.2.2.2.2]; exact ⟨hc, hs⟩)
  intro T hT XX
  obtain ⟨v', st₀, t, T', L, h0, X', hL, e1, e2, ⟨hv, hP1, hz, hk⟩, stp⟩ := run T hT XX
  cases hv
  rw [h0] at hz hk
  have hin := AA_in h1 C.2.2.2.2.2.2.2.1
  have hS : va_S A (xS X).heap T'.heap (locs ++ L) := ⟨Nat.le_trans h1.2.2.1.1 (by rw [e1]; exact hz), fun q h3 h4 => by rw [e1, hk q (Nat.lt_of_lt_of_le h3 h1.2.2.1.1) (fun z => h4 (hin q z))]; exact h1.2.2.1.2.1 q h3 h4, fun q hq => by
    rcases List.mem_append.mp hq with h | h
    · exact h1.2.2.1.2.2 q h
    · exact hin _ (hL q h)⟩
  obtain ⟨t2, a1, b1⟩ := q T'.heap (locs ++ L) ⟨by rw [e1]; exact hP1, wld_D h1.2.1, hS, h1.2.2.2⟩ ⟨by rw [e1]; exact l2_keep hap h2 hk, h2.2.1, hS, h2.2.2.2⟩ T' rfl X'
  exact ⟨t2, stp t2 a1, b1⟩
theorem l2_callN (C : OK X cc own nL ret rm A) (hap : Apt Z1 Z2 y1 y2) {ls : Array Slot} {H : Heap} {locs : List Loc} (h1 : WR X Z1 y1 A c1 H locs) (h2 : WR X Z2 y2 A c2 H locs) (hTl : Z'.2.2.2 = Z1.2.2.2)
    (run : va_Run X.1 X.2.1 X.2.2.1 X.2.2.2.1 (xS X) (xM X) X.2.2.2.2.2.2.1 X.2.2.2.2.2.2.2.1 X.2.2.2.2.2.2.2.2.1 X.2.2.2.2.2.2.2.2.2 H locs k n mc ms (F0 (xM X) pc ls (st.map (cv y1.1))) (rest.map (cv y1.1)) (PostN Z1 Z' y1 (AA y1 Z1 H.size) c1' #[]) (AA y1 Z1 H.size))
    (q : ∀ (ad' : Nat → Nat) H' locs', (∀ o, o < Z1.1.length → ad' o = y1.1 o) → Apt Z' Z2 (ad', y1.2) y2 → WR X Z' (ad', y1.2) A c1' H' locs' → WR X Z2 y2 A c2 H' locs' → WX X H' locs' (k + mc) (n + ms) Q (F0 (xM X) (pc + 3) ls (rest.map (cv y1.1)))) : WX X H locs k n Q (F0 (xM X) pc ls (st.map (cv y1.1))) := by
  intro T hT XX
  obtain ⟨v', st₀, t, T', L, h0, X', hL, e1, e2, ⟨hv, ⟨ad', ha, hP1, hD1⟩, hz, hk⟩, stp⟩ := run T hT XX
  cases hv
  rw [h0] at hz hk
  have hin := AA_in h1 C.2.2.2.2.2.2.2.1
  have hS : va_S A (xS X).heap T'.heap (locs ++ L) := ⟨Nat.le_trans h1.2.2.1.1 (by rw [e1]; exact hz), fun q h3 h4 => by rw [e1, hk q (Nat.lt_of_lt_of_le h3 h1.2.2.1.1) (fun z => h4 (hin q z))]; exact h1.2.2.1.2.1 q h3 h4, fun q hq => by
    rcases List.mem_append.mp hq with h | h
    · exact h1.2.2.1.2.2 q h
    · exact hin _ (hL q h)⟩
  have hap2 : Apt Z' Z2 (ad', y1.2) y2 := by
    intro o o' ho ho' e
    obtain ⟨s, hs⟩ : ∃ s, Z'.1[o]? = some s := ⟨_, List.getElem?_eq_getElem ho⟩
    have hA2 : AA y1 Z1 H.size (ad' o) := hD1.2 o _ (wld_at hs)
    have hlt := l2_lt h2 ho'
    have e' : ad' o = y2.1 o' := e
    rcases hA2 with ⟨o2, h3, h4⟩ | h3
    · exact hap o2 o' h3 ho' (by rw [← h4, e'])
    · omega
  obtain ⟨t2, a1, b1⟩ := q ad' T'.heap (locs ++ L) ha hap2 ⟨by rw [e1]; exact hP1, hD1.weaken (fun _ _ _ hz => hin _ hz), hS, h1.2.2.2.1, by rw [hTl]; exact h1.2.2.2.2⟩ ⟨by rw [e1]; exact l2_keep hap h2 hk, h2.2.1, hS, h2.2.2.2⟩ T' rfl X'
  exact ⟨t2, stp t2 a1, b1⟩
end L2
/-! what is known of classes and arrays at the law's entry -/
theorem u_all {s : State} {args : Array Value} (hts : ∀ w ∈ TB, w.before args s = true) (h10 : Cond.instantiable RX10 18 ∈ TB) (h11 : Cond.instantiable RX11 41 ∈ TB) : ∃ D : va_G, ∀ (k : Nat) (q : vw_C), vwCl[k]? = some q → u_Kn s q.1 q.2.1 q.2.2 (D.1 k) (D.2 k) := by
  have each : ∀ k : Nat, ∃ z : ClassId × (Nat → Nat), ∀ q : vw_C, vwCl[k]? = some q → u_Kn s q.1 q.2.1 q.2.2 z.1 z.2 := by
    intro k
    match k with
    | 0 => obtain ⟨a, b, h⟩ := u_known hts wsin_X0 (hts _ ki_X0); exact ⟨(a, b), fun q hq => by cases hq; exact h⟩
    | 1 => obtain ⟨a, b, h⟩ := u_known hts wsin_X1 (hts _ ki_X1); exact ⟨(a, b), fun q hq => by cases hq; exact h⟩
    | 2 => obtain ⟨a, b, h⟩ := u_known hts wsin_X2 (hts _ ki_X2); exact ⟨(a, b), fun q hq => by cases hq; exact h⟩
    | 3 => obtain ⟨a, b, h⟩ := u_known hts wsin_X3 (hts _ ki_X3); exact ⟨(a, b), fun q hq => by cases hq; exact h⟩
    | 4 => obtain ⟨a, b, h⟩ := u_known hts wsin_X4 (hts _ ki_X4); exact ⟨(a, b), fun q hq => by cases hq; exact h⟩
    | 5 => obtain ⟨a, b, h⟩ := u_known hts wsin_X5 (hts _ ki_X5); exact ⟨(a, b), fun q hq => by cases hq; exact h⟩
    | 6 => obtain ⟨a, b, h⟩ := u_known hts wsin_X6 (hts _ ki_X6); exact ⟨(a, b), fun q hq => by cases hq; exact h⟩
    | 7 => obtain ⟨a, b, h⟩ := u_known hts wsin_X7 (hts _ ki_X7); exact ⟨(a, b), fun q hq => by cases hq; exact h⟩
    | 8 => obtain ⟨a, b, h⟩ := u_known hts wsin_X8 (hts _ ki_X8); exact ⟨(a, b), fun q hq => by cases hq; exact h⟩
    | 9 => obtain ⟨a, b, h⟩ := u_known hts wsin_X9 (hts _ ki_X9); exact ⟨(a, b), fun q hq => by cases hq; exact h⟩
    | 10 => obtain ⟨a, b, h⟩ := u_known hts wsin_X10 (hts _ h10); exact ⟨(a, b), fun q hq => by cases hq; exact h⟩
    | 11 => obtain ⟨a, b, h⟩ := u_known hts wsin_X11 (hts _ h11); exact ⟨(a, b), fun q hq => by cases hq; exact h⟩
    | k + 12 => exact ⟨(0, fun _ => 0), fun q hq => by simp at hq⟩
  exact ⟨(fun k => (each k).choose.1, fun k => (each k).choose.2), fun k q hq => (each k).choose_spec q hq⟩
theorem ty_prim {s : State} {args : Array Value} {ty : FieldType} (h : (Cond.arrayClass ty).before args s = true) (hn : ∀ C, ty ≠ .object C) : ∃ cA : ClassId, ArrOfT s cA ty ∧ va_RA s cA ty := by
  obtain ⟨cA, kA, comp, h1, h2, h3⟩ := Cond.arrayClass_spec h
  refine ⟨cA, fun n z => ⟨fun k h => (by cases h), kA, h2, comp, h3⟩, ?_⟩
  cases ty with
  | object C => exact absurd rfl (hn C)
  | _ => exact h1
theorem ty_obj {s : State} {C : String} (h : va_AO C s) : ∃ cA : ClassId, ArrOfT s cA (.object C) ∧ va_RA s cA (.object C) := by
  obtain ⟨comp, cA, kA, h1, h2, h3, h4, h5⟩ := Cond.arrayOver_spec h
  exact ⟨cA, fun n z => ⟨fun k h => (by cases h), kA, h3, comp, h4⟩, kA, comp, h3, h4, h1, h5⟩
theorem ty_arr {s : State} {ty : FieldType} (h : va_AOA ty s) : ∃ cA : ClassId, ArrOfT s cA (.array ty) ∧ va_RA s cA (.array ty) := by
  obtain ⟨comp, cA, kA, h1, h2, h3, h4, h5⟩ := va_AOA.spec h
  exact ⟨cA, fun n z => ⟨fun k h => (by cases h), kA, h3, comp, h4⟩, h5⟩
theorem tys_all {s : State} {args : Array Value} (hI : (Cond.arrayClass .int).before args s = true) (hJ : (Cond.arrayClass .long).before args s = true) (hA : va_AO "MarkToBoard$Jumper" s) (hB : va_AO "MarkToBoard$Kind" s) (hC : va_AOA .long s) :
    ∃ tC tR : List (ClassId × FieldType), tC.map (·.2) = tlC ∧ tR.map (·.2) = tlR ∧ (∀ (k : Nat) (q : ClassId × FieldType), tC[k]? = some q → ArrOfT s q.1 q.2 ∧ va_RA s q.1 q.2) ∧ (∀ (k : Nat) (q : ClassId × FieldType), tR[k]? = some q → ArrOfT s q.1 q.2 ∧ va_RA s q.1 q.2) := by
  obtain ⟨a0, h0⟩ := ty_prim hI (fun C e => by cases e)
  obtain ⟨a1, h1⟩ := ty_prim hJ (fun C e => by cases e)
  obtain ⟨a2, h2⟩ := ty_obj hA
  obtain ⟨a3, h3⟩ := ty_obj hB
  obtain ⟨a4, h4⟩ := ty_arr hC
  refine ⟨[(a0, .int), (a1, .long), (a2, .object "MarkToBoard$Jumper"), (a3, .object "MarkToBoard$Kind"), (a4, .array .long)], [(a0, .int), (a1, .long)], rfl, rfl, fun k q hq => ?_, fun k q hq => ?_⟩
  · match k, hq with
    | 0, hq => cases hq; exact h0
    | 1, hq => cases hq; exact h1
    | 2, hq => cases hq; exact h2
    | 3, hq => cases hq; exact h3
    | 4, hq => cases hq; exact h4
    | k + 5, hq => simp at hq
  · match k, hq with
    | 0, hq => cases hq; exact h0
    | 1, hq => cases hq; exact h1
    | k + 2, hq => simp at hq
end
