abbrev rmX10_outside : Room := { frames := 0, cells := 0, slots := 0, locals := 0 }
def X10_outside (v0 : Int32) (v1 : Int32) (v2 : Int32) (h : AH) : Option (Int32 × AH) :=
    if v1 ≤ v0 then (if v0 ≤ v2 then (some (0, h))
    else (some ((-6), h)))
    else (some ((-4), h))
set_option maxRecDepth 100000 in
theorem c_X10_outside (l : Launch) (v0 : Int32) (v1 : Int32) (v2 : Int32) : MC l yX10_outside cX10_outside 3 (some .int) rmX10_outside ZC [.int v0, .int v1, .int v2] rvI (X10_outside v0 v1 v2) :=
  MC.of (own := RX10) (by decide +kernel) rfl (Nat.le_of_ble_eq_true rfl) fun X yd A h _ C =>
    aw_iload_n (pc := 0) C (i := 0) dX10_outside_0 rfl rfl <|
    aw_iload_n (pc := 1) C (i := 1) dX10_outside_1 rfl rfl <|
    aw_icmp_ge (pc := 2) C (tgt := 10) dX10_outside_2 rfl (fun _ =>
    aw_iload_n (pc := 10) C (i := 0) dX10_outside_10 rfl rfl <|
    aw_iload_n (pc := 11) C (i := 2) dX10_outside_11 rfl rfl <|
    aw_icmp_le (pc := 12) C (tgt := 20) dX10_outside_12 rfl (fun _ =>
    aw_iconst (pc := 20) C (v := 0) dX10_outside_20 rfl <|
    aw_iret (pc := 21) C dX10_outside_21 rfl rfl) (fun _ =>
    aw_bipush (pc := 15) C (v := (-6)) dX10_outside_15 rfl <|
    aw_goto (pc := 17) C (tgt := 21) dX10_outside_17 rfl <|
    aw_iret (pc := 21) C dX10_outside_21 rfl rfl)) (fun _ =>
    aw_bipush (pc := 5) C (v := (-4)) dX10_outside_5 rfl <|
    aw_goto (pc := 7) C (tgt := 21) dX10_outside_7 rfl <|
    aw_iret (pc := 21) C dX10_outside_21 rfl rfl)

abbrev rmX10_first : Room := { frames := 0, cells := 0, slots := 0, locals := 0 }
def X10_first (v0 : Int32) (v1 : Int32) (h : AH) : Option (Int32 × AH) :=
    if v0 = 0 then (some (v1, h))
    else (some (v0, h))
set_option maxRecDepth 100000 in
theorem c_X10_first (l : Launch) (v0 : Int32) (v1 : Int32) : MC l yX10_first cX10_first 2 (some .int) rmX10_first ZC [.int v0, .int v1] rvI (X10_first v0 v1) :=
  MC.of (own := RX10) (by decide +kernel) rfl (Nat.le_of_ble_eq_true rfl) fun X yd A h _ C =>
    aw_iload_n (pc := 0) C (i := 0) dX10_first_0 rfl rfl <|
    aw_if_eq (pc := 1) C (tgt := 8) dX10_first_1 rfl (fun _ =>
    aw_iload_n (pc := 8) C (i := 1) dX10_first_8 rfl rfl <|
    aw_iret (pc := 9) C dX10_first_9 rfl rfl) (fun _ =>
    aw_iload_n (pc := 4) C (i := 0) dX10_first_4 rfl rfl <|
    aw_goto (pc := 5) C (tgt := 9) dX10_first_5 rfl <|
    aw_iret (pc := 9) C dX10_first_9 rfl rfl)

abbrev rmX10_refuse : Room := { frames := 0, cells := 0, slots := 0, locals := 0 }
def X10_refuse (v1 : Int32) (h : AH) : Option (Int32 × AH) :=
    if 0 ≤ v1 then (some (v1, h))
    else (if 7 ≤ (-v1) then (some (v1, h))
    else (ck (-v1) 7 (ck (-v1) 7 (vl (sI h 4 (-v1).toNatClampNeg ((h.1 4 (-v1).toNatClampNeg) + 1)) fun h1 =>
    some (v1, h1)))))
set_option maxRecDepth 100000 in
theorem c_X10_refuse (l : Launch) (v1 : Int32) : MC l yX10_refuse cX10_refuse 2 (some .int) rmX10_refuse ZC [.ref 0, .int v1] rvI (X10_refuse v1) :=
  MC.of (own := RX10) (by decide +kernel) rfl (Nat.le_of_ble_eq_true rfl) fun X yd A h _ C =>
    aw_iload_n (pc := 0) C (i := 1) dX10_refuse_0 rfl rfl <|
    aw_if_ge (pc := 1) C (tgt := 25) dX10_refuse_1 rfl (fun _ =>
    aw_iload_n (pc := 25) C (i := 1) dX10_refuse_25 rfl rfl <|
    aw_iret (pc := 26) C dX10_refuse_26 rfl rfl) (fun _ =>
    aw_iload_n (pc := 4) C (i := 1) dX10_refuse_4 rfl rfl <|
    aw_ineg (pc := 5) C dX10_refuse_5 <|
    aw_aload_n (pc := 6) C (i := 0) dX10_refuse_6 rfl rfl <|
    aw_getR (pc := 7) C (b := 4) dX10_refuse_7 fl_X10_22 sC_0 rfl rC_0_9 <|
    aw_alenI (pc := 10) C (v := 7) dX10_refuse_10 sC_4 rfl rfl <|
    aw_icmp_ge (pc := 11) C (tgt := 25) dX10_refuse_11 rfl (fun _ =>
    aw_iload_n (pc := 25) C (i := 1) dX10_refuse_25 rfl rfl <|
    aw_iret (pc := 26) C dX10_refuse_26 rfl rfl) (fun _ =>
    aw_aload_n (pc := 14) C (i := 0) dX10_refuse_14 rfl rfl <|
    aw_getR (pc := 15) C (b := 4) dX10_refuse_15 fl_X10_22 sC_0 rfl rC_0_9 <|
    aw_iload_n (pc := 18) C (i := 1) dX10_refuse_18 rfl rfl <|
    aw_ineg (pc := 19) C dX10_refuse_19 <|
    aw_dup2 (pc := 20) C dX10_refuse_20 rfl rfl <|
    aw_iald (pc := 21) C dX10_refuse_21 sC_4 rfl <|
    aw_iconst (pc := 22) C (v := 1) dX10_refuse_22 rfl <|
    aw_iadd (pc := 23) C dX10_refuse_23 <|
    aw_iast (pc := 24) C dX10_refuse_24 sC_4 rfl fun h1 =>
    aw_iload_n (pc := 25) C (i := 1) dX10_refuse_25 rfl rfl <|
    aw_iret (pc := 26) C dX10_refuse_26 rfl rfl))

abbrev rmX10_feed : Room := { frames := 1, cells := 0, slots := 0, locals := 22 }
def X10_feed (v1 : Int32) (h : AH) : Option (Int32 × AH) :=
    bd (X10_outside v1 0 255 h) fun r1 h2 =>
    bd (X10_outside (h2.1 0 6) 0 95 h2) fun r3 h4 =>
    bd (X10_first r1 r3 h4) fun r5 h6 =>
    if r5 = 0 then (ck (h6.1 0 6) 96 (vl (sI h6 2 (h6.1 0 6).toNatClampNeg v1) fun h7 =>
    vl (sI h7 0 6 ((h7.1 0 6) + 1)) fun h8 =>
    some ((h8.1 0 6), h8)))
    else (bd (X10_refuse r5 h6) fun r9 h10 =>
    some (r9, h10))
set_option maxRecDepth 100000 in
theorem c_X10_feed (l : Launch) (v1 : Int32) : MC l yX10_feed cX10_feed 3 (some .int) rmX10_feed ZC [.ref 0, .int v1] rvI (X10_feed v1) :=
  MC.of (own := RX10) (by decide +kernel) rfl (Nat.le_of_ble_eq_true rfl) fun X yd A h _ C =>
    aw_iload_n (pc := 0) C (i := 1) dX10_feed_0 rfl rfl <|
    aw_iconst (pc := 1) C (v := 0) dX10_feed_1 rfl <|
    aw_sipush (pc := 2) C (v := 255) dX10_feed_2 rfl <|
    aw_callF (pc := 5) C (cr_S (rest := []) (F := (X10_outside v1 0 255)) C (c_X10_outside X.2.1 v1 0 255) dX10_feed_5 mf_X10_outside ml_X10_104 st_X10_outside ⟨(Nat.le_of_ble_eq_true rfl), (Nat.le_of_ble_eq_true rfl)⟩ rfl rfl (Nat.le_of_ble_eq_true rfl)) rfl rfl rfl (Nat.zero_le _) (Nat.zero_le _) fun r1 h2 =>
    aw_aload_n (pc := 8) C (i := 0) dX10_feed_8 rfl rfl <|
    aw_getI (pc := 9) C dX10_feed_9 fl_X10_108 sC_0 rfl <|
    aw_iconst (pc := 12) C (v := 0) dX10_feed_12 rfl <|
    aw_bipush (pc := 13) C (v := 95) dX10_feed_13 rfl <|
    aw_callF (pc := 15) C (cr_S (rest := [.int r1]) (F := (X10_outside (h2.1 0 6) 0 95)) C (c_X10_outside X.2.1 (h2.1 0 6) 0 95) dX10_feed_15 mf_X10_outside ml_X10_104 st_X10_outside ⟨(Nat.le_of_ble_eq_true rfl), (Nat.le_of_ble_eq_true rfl)⟩ rfl rfl (Nat.le_of_ble_eq_true rfl)) rfl rfl rfl (Nat.zero_le _) (Nat.zero_le _) fun r3 h4 =>
    aw_callF (pc := 18) C (cr_S (rest := []) (F := (X10_first r1 r3)) C (c_X10_first X.2.1 r1 r3) dX10_feed_18 mf_X10_first ml_X10_97 st_X10_first ⟨(Nat.le_of_ble_eq_true rfl), (Nat.le_of_ble_eq_true rfl)⟩ rfl rfl (Nat.le_of_ble_eq_true rfl)) rfl rfl rfl (Nat.zero_le _) (Nat.zero_le _) fun r5 h6 =>
    aw_istore_n (pc := 21) C (i := 2) (lv' := [(0, .ref 0), (1, .int v1), (2, .int r5)]) dX10_feed_21 rfl (by decide) rfl <|
    aw_iload_n (pc := 22) C (i := 2) dX10_feed_22 rfl rfl <|
    aw_if_eq (pc := 23) C (tgt := 32) dX10_feed_23 rfl (fun _ =>
    aw_aload_n (pc := 32) C (i := 0) dX10_feed_32 rfl rfl <|
    aw_getR (pc := 33) C (b := 2) dX10_feed_33 fl_X10_15 sC_0 rfl rC_0_5 <|
    aw_aload_n (pc := 36) C (i := 0) dX10_feed_36 rfl rfl <|
    aw_getI (pc := 37) C dX10_feed_37 fl_X10_108 sC_0 rfl <|
    aw_iload_n (pc := 40) C (i := 1) dX10_feed_40 rfl rfl <|
    aw_iast (pc := 41) C dX10_feed_41 sC_2 rfl fun h7 =>
    aw_aload_n (pc := 42) C (i := 0) dX10_feed_42 rfl rfl <|
    aw_dup (pc := 43) C dX10_feed_43 rfl <|
    aw_getI (pc := 44) C dX10_feed_44 fl_X10_108 sC_0 rfl <|
    aw_iconst (pc := 47) C (v := 1) dX10_feed_47 rfl <|
    aw_iadd (pc := 48) C dX10_feed_48 <|
    aw_putI (pc := 49) C dX10_feed_49 fp_X10_108 sC_0 rfl fun h8 =>
    aw_aload_n (pc := 52) C (i := 0) dX10_feed_52 rfl rfl <|
    aw_getI (pc := 53) C dX10_feed_53 fl_X10_108 sC_0 rfl <|
    aw_iret (pc := 56) C dX10_feed_56 rfl rfl) (fun _ =>
    aw_aload_n (pc := 26) C (i := 0) dX10_feed_26 rfl rfl <|
    aw_iload_n (pc := 27) C (i := 2) dX10_feed_27 rfl rfl <|
    aw_callF (pc := 28) C (cr_V (rest := []) (F := (X10_refuse r5)) C (c_X10_refuse X.2.1 r5) dX10_feed_28 mf_X10_refuse ml_X10_111 im_X10_refuse se_X10_refuse sC_0 rfl ⟨(Nat.le_of_ble_eq_true rfl), (Nat.le_of_ble_eq_true rfl)⟩ rfl rfl (Nat.le_of_ble_eq_true rfl)) rfl rfl rfl (Nat.zero_le _) (Nat.zero_le _) fun r9 h10 =>
    aw_iret (pc := 31) C dX10_feed_31 rfl rfl)

abbrev rmJ7_fill_53178 : Room := { frames := 0, cells := 0, slots := 0, locals := 0 }
def J7_fill_53178_l5 (p0 : Nat) (n0 : Nat) (v1 : Int32) (v3 : Int32) : Nat → Int32 → AH → Option (Unit × AH)
  | 0, _, _ => none
  | n + 1, v2, h =>
    if v3 ≤ v2 then (some ((), h))
    else (ck v2 n0 (vl (sI h p0 v2.toNatClampNeg v1) fun h2 =>
    vl (v2 + 1) fun x3 =>
    (J7_fill_53178_l5 p0 n0 v1 v3 n) x3 h2))
set_option maxRecDepth 100000 in
theorem aJ7_fill_53178_l5 {X : MCx} {yd : Dyn} {A : Nat → Prop} (C : OK X cJ7_fill_53178 RJ7 4 none rmJ7_fill_53178 A) (Z : Stc) (p0 : Nat) (n0 : Nat) (t0 : Nat) (hA0 : Z.1[p0]? = some (.inl (t0, 0, n0))) (hT0 : Z.2.2.2[t0]? = some .int) (v1 : Int32) (v3 : Int32) : ∀ (n : Nat) (v2 : Int32) (h : AH), AW X 4 Z yd A 0 0 (QF X rmJ7_fill_53178 Z yd rvV A) 5 [(0, .ref p0), (1, .int v1), (2, .int v2), (3, .int v3)] [] h (J7_fill_53178_l5 p0 n0 v1 v3 n v2 h) := by
  intro n
  induction n with
  | zero => intro v2 h; exact aw_none
  | succ n ih =>
    intro v2 h
    exact aw_iload_n (pc := 5) C (i := 2) dJ7_fill_53178_5 rfl rfl <|
    aw_iload_n (pc := 6) C (i := 3) dJ7_fill_53178_6 rfl rfl <|
    aw_icmp_ge (pc := 7) C (tgt := 20) dJ7_fill_53178_7 rfl (fun _ =>
    aw_vret (pc := 20) C dJ7_fill_53178_20 rfl rfl) (fun _ =>
    aw_aload_n (pc := 10) C (i := 0) dJ7_fill_53178_10 rfl rfl <|
    aw_iload_n (pc := 11) C (i := 2) dJ7_fill_53178_11 rfl rfl <|
    aw_iload_n (pc := 12) C (i := 1) dJ7_fill_53178_12 rfl rfl <|
    aw_iast (pc := 13) C dJ7_fill_53178_13 hA0 hT0 fun h2 =>
    aw_iincV (pc := 14) C (i := 2) (cst := 1) (fun x3 => [(0, .ref p0), (1, .int v1), (2, .int x3), (3, .int v3)]) dJ7_fill_53178_14 rfl rfl (by decide) (fun _ => rfl) fun x3 =>
    aw_goto (pc := 17) C (tgt := 5) dJ7_fill_53178_17 rfl <|
    (ih x3 h2))
def J7_fill_53178 (p0 : Nat) (n0 : Nat) (v1 : Int32) (h : AH) : Option (Unit × AH) :=
    vl (Int32.ofNat n0) fun x1 =>
    J7_fill_53178_l5 p0 n0 v1 x1 FU 0 h
set_option maxRecDepth 100000 in
theorem c_J7_fill_53178 (l : Launch) (Z : Stc) (p0 : Nat) (n0 : Nat) (t0 : Nat) (hA0 : Z.1[p0]? = some (.inl (t0, 0, n0))) (hT0 : Z.2.2.2[t0]? = some .int) (v1 : Int32) : MC l yJ7_fill_53178 cJ7_fill_53178 4 none rmJ7_fill_53178 Z [.ref p0, .int v1] rvV (J7_fill_53178 p0 n0 v1) :=
  MC.of (own := RJ7) (by decide +kernel) rfl (Nat.le_of_ble_eq_true rfl) fun X yd A h _ C =>
    aw_iconst (pc := 0) C (v := 0) dJ7_fill_53178_0 rfl <|
    aw_istore_n (pc := 1) C (i := 2) (lv' := [(0, .ref p0), (1, .int v1), (2, .int 0)]) dJ7_fill_53178_1 rfl (by decide) rfl <|
    aw_aload_n (pc := 2) C (i := 0) dJ7_fill_53178_2 rfl rfl <|
    aw_alenI (pc := 3) C (v := (Int32.ofNat n0)) dJ7_fill_53178_3 hA0 hT0 rfl <|
    aw_istoreV_n (pc := 4) C (i := 3) (fun x1 => [(0, .ref p0), (1, .int v1), (2, .int 0), (3, .int x1)]) dJ7_fill_53178_4 rfl (by decide) (fun _ => rfl) fun x1 =>
    (aJ7_fill_53178_l5 C Z p0 n0 t0 hA0 hT0 v1 x1 FU 0 h)

abbrev rmX6_start : Room := { frames := 1, cells := 0, slots := 0, locals := 45 }
def X6_start (v1 : Int32) (h : AH) : Option (Unit × AH) :=
    vl (sI h 5 0 (mx32 0 (mn32 4 v1))) fun h1 =>
    bd (J7_fill_53178 6 4 0 h1) fun _ h3 =>
    bd (J7_fill_53178 7 4 0 h3) fun _ h5 =>
    some ((), h5)
set_option maxRecDepth 100000 in
theorem c_X6_start (l : Launch) (v1 : Int32) : MC l yX6_start cX6_start 2 none rmX6_start ZC [.ref 5, .int v1] rvV (X6_start v1) :=
  MC.of (own := RX6) (by decide +kernel) rfl (Nat.le_of_ble_eq_true rfl) fun X yd A h _ C =>
    aw_aload_n (pc := 0) C (i := 0) dX6_start_0 rfl rfl <|
    aw_iconst (pc := 1) C (v := 0) dX6_start_1 rfl <|
    aw_iconst (pc := 2) C (v := 4) dX6_start_2 rfl <|
    aw_iload_n (pc := 3) C (i := 1) dX6_start_3 rfl rfl <|
    aw_mmin (pc := 4) C dX6_start_4 ml_X6_18 w_mminS w_mI w_mminC ⟨(Nat.le_of_ble_eq_true rfl), (Nat.le_of_ble_eq_true rfl)⟩ (Nat.zero_le _) (Nat.zero_le _) <|
    aw_mmax (pc := 7) C dX6_start_7 ml_X6_24 w_mmaxS w_mI w_mmaxC ⟨(Nat.le_of_ble_eq_true rfl), (Nat.le_of_ble_eq_true rfl)⟩ (Nat.zero_le _) (Nat.zero_le _) <|
    aw_putI (pc := 10) C dX6_start_10 fp_X6_27 sC_5 rfl fun h1 =>
    aw_aload_n (pc := 13) C (i := 0) dX6_start_13 rfl rfl <|
    aw_getR (pc := 14) C (b := 6) dX6_start_14 fl_X6_9 sC_5 rfl rC_5_1 <|
    aw_iconst (pc := 17) C (v := 0) dX6_start_17 rfl <|
    aw_callF (pc := 18) C (cr_S (rest := []) (F := (J7_fill_53178 6 4 0)) C (c_J7_fill_53178 X.2.1 ZC 6 4 0 sC_6 rfl 0) dX6_start_18 mf_J7_fill_53178 ml_X6_31 st_J7_fill_53178 ⟨(Nat.le_of_ble_eq_true rfl), (Nat.le_of_ble_eq_true rfl)⟩ rfl rfl (Nat.le_of_ble_eq_true rfl)) rfl rfl rfl (Nat.zero_le _) (Nat.zero_le _) fun _ h3 =>
    aw_aload_n (pc := 21) C (i := 0) dX6_start_21 rfl rfl <|
    aw_getR (pc := 22) C (b := 7) dX6_start_22 fl_X6_15 sC_5 rfl rC_5_2 <|
    aw_iconst (pc := 25) C (v := 0) dX6_start_25 rfl <|
    aw_callF (pc := 26) C (cr_S (rest := []) (F := (J7_fill_53178 7 4 0)) C (c_J7_fill_53178 X.2.1 ZC 7 4 0 sC_7 rfl 0) dX6_start_26 mf_J7_fill_53178 ml_X6_31 st_J7_fill_53178 ⟨(Nat.le_of_ble_eq_true rfl), (Nat.le_of_ble_eq_true rfl)⟩ rfl rfl (Nat.le_of_ble_eq_true rfl)) rfl rfl rfl (Nat.zero_le _) (Nat.zero_le _) fun _ h5 =>
    aw_vret (pc := 29) C dX6_start_29 rfl rfl

abbrev rmX5_lengthBy : Room := { frames := 0, cells := 0, slots := 0, locals := 0 }
def X5_lengthBy (o : Nat) (v1 : Int32) (v2 : Int32) (h : AH) : Option (Int32 × AH) :=
    ck v2 24 (if 0 ≤ (h.1 (o + 4) v2.toNatClampNeg) then (if v1 = 1 then (ck v2 24 (ck v2 24 (some (((h.1 (o + 4) v2.toNatClampNeg) + (h.1 (o + 3) v2.toNatClampNeg)), h))))
    else (ck v2 24 (some ((h.1 (o + 4) v2.toNatClampNeg), h))))
    else (if v1 = 2 then (ck v2 24 (if (h.1 (o + 4) v2.toNatClampNeg) = (-9) then (ck v2 24 (some ((h.1 (o + 5) v2.toNatClampNeg), h)))
    else (some (0, h))))
    else (some (0, h))))
set_option maxRecDepth 100000 in
theorem c_X5_lengthBy (l : Launch) (o : Nat) (hM0 : MT o) (v1 : Int32) (v2 : Int32) : MC l yX5_lengthBy cX5_lengthBy 3 (some .int) rmX5_lengthBy ZC [.ref o, .int v1, .int v2] rvI (X5_lengthBy o v1 v2) :=
  MC.of (own := RX5) (by decide +kernel) rfl (Nat.le_of_ble_eq_true rfl) fun X yd A h _ C =>
    aw_aload_n (pc := 0) C (i := 0) dX5_lengthBy_0 rfl rfl <|
    aw_getR (pc := 1) C (b := (o + 4)) dX5_lengthBy_1 fl_X5_31 (mt_s hM0) rfl (mt_r8 hM0) <|
    aw_iload_n (pc := 4) C (i := 2) dX5_lengthBy_4 rfl rfl <|
    aw_iald (pc := 5) C dX5_lengthBy_5 (mt_s4 hM0) rfl <|
    aw_if_ge (pc := 6) C (tgt := 36) dX5_lengthBy_6 rfl (fun _ =>
    aw_iload_n (pc := 36) C (i := 1) dX5_lengthBy_36 rfl rfl <|
    aw_iconst (pc := 37) C (v := 1) dX5_lengthBy_37 rfl <|
    aw_icmp_ne (pc := 38) C (tgt := 57) dX5_lengthBy_38 rfl (fun _ =>
    aw_aload_n (pc := 41) C (i := 0) dX5_lengthBy_41 rfl rfl <|
    aw_getR (pc := 42) C (b := (o + 4)) dX5_lengthBy_42 fl_X5_31 (mt_s hM0) rfl (mt_r8 hM0) <|
    aw_iload_n (pc := 45) C (i := 2) dX5_lengthBy_45 rfl rfl <|
    aw_iald (pc := 46) C dX5_lengthBy_46 (mt_s4 hM0) rfl <|
    aw_aload_n (pc := 47) C (i := 0) dX5_lengthBy_47 rfl rfl <|
    aw_getR (pc := 48) C (b := (o + 3)) dX5_lengthBy_48 fl_X5_28 (mt_s hM0) rfl (mt_r7 hM0) <|
    aw_iload_n (pc := 51) C (i := 2) dX5_lengthBy_51 rfl rfl <|
    aw_iald (pc := 52) C dX5_lengthBy_52 (mt_s3 hM0) rfl <|
    aw_iadd (pc := 53) C dX5_lengthBy_53 <|
    aw_goto (pc := 54) C (tgt := 63) dX5_lengthBy_54 rfl <|
    aw_iret (pc := 63) C dX5_lengthBy_63 rfl rfl) (fun _ =>
    aw_aload_n (pc := 57) C (i := 0) dX5_lengthBy_57 rfl rfl <|
    aw_getR (pc := 58) C (b := (o + 4)) dX5_lengthBy_58 fl_X5_31 (mt_s hM0) rfl (mt_r8 hM0) <|
    aw_iload_n (pc := 61) C (i := 2) dX5_lengthBy_61 rfl rfl <|
    aw_iald (pc := 62) C dX5_lengthBy_62 (mt_s4 hM0) rfl <|
    aw_iret (pc := 63) C dX5_lengthBy_63 rfl rfl)) (fun _ =>
    aw_iload_n (pc := 9) C (i := 1) dX5_lengthBy_9 rfl rfl <|
    aw_iconst (pc := 10) C (v := 2) dX5_lengthBy_10 rfl <|
    aw_icmp_ne (pc := 11) C (tgt := 34) dX5_lengthBy_11 rfl (fun _ =>
    aw_aload_n (pc := 14) C (i := 0) dX5_lengthBy_14 rfl rfl <|
    aw_getR (pc := 15) C (b := (o + 4)) dX5_lengthBy_15 fl_X5_31 (mt_s hM0) rfl (mt_r8 hM0) <|
    aw_iload_n (pc := 18) C (i := 2) dX5_lengthBy_18 rfl rfl <|
    aw_iald (pc := 19) C dX5_lengthBy_19 (mt_s4 hM0) rfl <|
    aw_bipush (pc := 20) C (v := (-9)) dX5_lengthBy_20 rfl <|
    aw_icmp_ne (pc := 22) C (tgt := 34) dX5_lengthBy_22 rfl (fun _ =>
    aw_aload_n (pc := 25) C (i := 0) dX5_lengthBy_25 rfl rfl <|
    aw_getR (pc := 26) C (b := (o + 5)) dX5_lengthBy_26 fl_X5_34 (mt_s hM0) rfl (mt_r9 hM0) <|
    aw_iload_n (pc := 29) C (i := 2) dX5_lengthBy_29 rfl rfl <|
    aw_iald (pc := 30) C dX5_lengthBy_30 (mt_s5 hM0) rfl <|
    aw_goto (pc := 31) C (tgt := 35) dX5_lengthBy_31 rfl <|
    aw_iret (pc := 35) C dX5_lengthBy_35 rfl rfl) (fun _ =>
    aw_iconst (pc := 34) C (v := 0) dX5_lengthBy_34 rfl <|
    aw_iret (pc := 35) C dX5_lengthBy_35 rfl rfl)) (fun _ =>
    aw_iconst (pc := 34) C (v := 0) dX5_lengthBy_34 rfl <|
    aw_iret (pc := 35) C dX5_lengthBy_35 rfl rfl))

abbrev rmX6_add : Room := { frames := 0, cells := 0, slots := 0, locals := 0 }
def X6_add (v1 : Int32) (v2 : Int32) (h : AH) : Option (Unit × AH) :=
    if v1 < 0 then (some ((), h))
    else (if v1 < 4 then (ck v1 4 (if v2 ≤ (h.1 6 v1.toNatClampNeg) then (ck v1 4 (if v2 ≤ (h.1 7 v1.toNatClampNeg) then (some ((), h))
    else (ck v1 4 (vl (sI h 7 v1.toNatClampNeg v2) fun h1 =>
    some ((), h1)))))
    else (ck v1 4 (ck v1 4 (vl (sI h 7 v1.toNatClampNeg (h.1 6 v1.toNatClampNeg)) fun h2 =>
    ck v1 4 (vl (sI h2 6 v1.toNatClampNeg v2) fun h3 =>
    some ((), h3)))))))
    else (some ((), h)))
set_option maxRecDepth 100000 in
theorem c_X6_add (l : Launch) (v1 : Int32) (v2 : Int32) : MC l yX6_add cX6_add 3 none rmX6_add ZC [.ref 5, .int v1, .int v2] rvV (X6_add v1 v2) :=
  MC.of (own := RX6) (by decide +kernel) rfl (Nat.le_of_ble_eq_true rfl) fun X yd A h _ C =>
    aw_iload_n (pc := 0) C (i := 1) dX6_add_0 rfl rfl <|
    aw_if_lt (pc := 1) C (tgt := 9) dX6_add_1 rfl (fun _ =>
    aw_vret (pc := 9) C dX6_add_9 rfl rfl) (fun _ =>
    aw_iload_n (pc := 4) C (i := 1) dX6_add_4 rfl rfl <|
    aw_iconst (pc := 5) C (v := 4) dX6_add_5 rfl <|
    aw_icmp_lt (pc := 6) C (tgt := 10) dX6_add_6 rfl (fun _ =>
    aw_iload_n (pc := 10) C (i := 2) dX6_add_10 rfl rfl <|
    aw_aload_n (pc := 11) C (i := 0) dX6_add_11 rfl rfl <|
    aw_getR (pc := 12) C (b := 6) dX6_add_12 fl_X6_9 sC_5 rfl rC_5_1 <|
    aw_iload_n (pc := 15) C (i := 1) dX6_add_15 rfl rfl <|
    aw_iald (pc := 16) C dX6_add_16 sC_6 rfl <|
    aw_icmp_le (pc := 17) C (tgt := 42) dX6_add_17 rfl (fun _ =>
    aw_iload_n (pc := 42) C (i := 2) dX6_add_42 rfl rfl <|
    aw_aload_n (pc := 43) C (i := 0) dX6_add_43 rfl rfl <|
    aw_getR (pc := 44) C (b := 7) dX6_add_44 fl_X6_15 sC_5 rfl rC_5_2 <|
    aw_iload_n (pc := 47) C (i := 1) dX6_add_47 rfl rfl <|
    aw_iald (pc := 48) C dX6_add_48 sC_7 rfl <|
    aw_icmp_le (pc := 49) C (tgt := 59) dX6_add_49 rfl (fun _ =>
    aw_vret (pc := 59) C dX6_add_59 rfl rfl) (fun _ =>
    aw_aload_n (pc := 52) C (i := 0) dX6_add_52 rfl rfl <|
    aw_getR (pc := 53) C (b := 7) dX6_add_53 fl_X6_15 sC_5 rfl rC_5_2 <|
    aw_iload_n (pc := 56) C (i := 1) dX6_add_56 rfl rfl <|
    aw_iload_n (pc := 57) C (i := 2) dX6_add_57 rfl rfl <|
    aw_iast (pc := 58) C dX6_add_58 sC_7 rfl fun h1 =>
    aw_vret (pc := 59) C dX6_add_59 rfl rfl)) (fun _ =>
    aw_aload_n (pc := 20) C (i := 0) dX6_add_20 rfl rfl <|
    aw_getR (pc := 21) C (b := 7) dX6_add_21 fl_X6_15 sC_5 rfl rC_5_2 <|
    aw_iload_n (pc := 24) C (i := 1) dX6_add_24 rfl rfl <|
    aw_aload_n (pc := 25) C (i := 0) dX6_add_25 rfl rfl <|
    aw_getR (pc := 26) C (b := 6) dX6_add_26 fl_X6_9 sC_5 rfl rC_5_1 <|
    aw_iload_n (pc := 29) C (i := 1) dX6_add_29 rfl rfl <|
    aw_iald (pc := 30) C dX6_add_30 sC_6 rfl <|
    aw_iast (pc := 31) C dX6_add_31 sC_7 rfl fun h2 =>
    aw_aload_n (pc := 32) C (i := 0) dX6_add_32 rfl rfl <|
    aw_getR (pc := 33) C (b := 6) dX6_add_33 fl_X6_9 sC_5 rfl rC_5_1 <|
    aw_iload_n (pc := 36) C (i := 1) dX6_add_36 rfl rfl <|
    aw_iload_n (pc := 37) C (i := 2) dX6_add_37 rfl rfl <|
    aw_iast (pc := 38) C dX6_add_38 sC_6 rfl fun h3 =>
    aw_goto (pc := 39) C (tgt := 59) dX6_add_39 rfl <|
    aw_vret (pc := 59) C dX6_add_59 rfl rfl)) (fun _ =>
    aw_vret (pc := 9) C dX6_add_9 rfl rfl))

abbrev rmX5_rank : Room := { frames := 2, cells := 0, slots := 0, locals := 66 }
def X5_rank_l11 (o : Nat) (v2 : Int32) (v3 : Int32) : Nat → Int32 → AH → Option (Unit × AH)
  | 0, _, _ => none
  | n + 1, v4, h =>
    if v3 ≤ v4 then (some ((), h))
    else (if (h.1 o 4) ≤ v4 then (some ((), h))
    else (ck v4 24 (bd (X5_lengthBy o v2 v4 h) fun r3 h4 =>
    bd (X6_add (h.1 (o + 2) v4.toNatClampNeg) r3 h4) fun _ h6 =>
    vl (v4 + 1) fun x7 =>
    (X5_rank_l11 o v2 v3 n) x7 h6)))
set_option maxRecDepth 100000 in
theorem aX5_rank_l11 {X : MCx} {yd : Dyn} {A : Nat → Prop} (C : OK X cX5_rank RX5 5 none rmX5_rank A) (o : Nat) (hM0 : MT o) (v2 : Int32) (v3 : Int32) : ∀ (n : Nat) (v4 : Int32) (h : AH), AW X 5 ZC yd A 0 0 (QF X rmX5_rank ZC yd rvV A) 11 [(0, .ref o), (1, .ref 5), (2, .int v2), (3, .int v3), (4, .int v4)] [] h (X5_rank_l11 o v2 v3 n v4 h) := by
  intro n
  induction n with
  | zero => intro v4 h; exact aw_none
  | succ n ih =>
    intro v4 h
    exact aw_iload (pc := 11) C (i := 4) dX5_rank_11 rfl <|
    aw_iload_n (pc := 13) C (i := 3) dX5_rank_13 rfl rfl <|
    aw_icmp_ge (pc := 14) C (tgt := 50) dX5_rank_14 rfl (fun _ =>
    aw_vret (pc := 50) C dX5_rank_50 rfl rfl) (fun _ =>
    aw_iload (pc := 17) C (i := 4) dX5_rank_17 rfl <|
    aw_aload_n (pc := 19) C (i := 0) dX5_rank_19 rfl rfl <|
    aw_getI (pc := 20) C dX5_rank_20 fl_X5_46 (mt_s hM0) rfl <|
    aw_icmp_ge (pc := 23) C (tgt := 50) dX5_rank_23 rfl (fun _ =>
    aw_vret (pc := 50) C dX5_rank_50 rfl rfl) (fun _ =>
    aw_aload_n (pc := 26) C (i := 1) dX5_rank_26 rfl rfl <|
    aw_aload_n (pc := 27) C (i := 0) dX5_rank_27 rfl rfl <|
    aw_getR (pc := 28) C (b := (o + 2)) dX5_rank_28 fl_X5_24 (mt_s hM0) rfl (mt_r6 hM0) <|
    aw_iload (pc := 31) C (i := 4) dX5_rank_31 rfl <|
    aw_iald (pc := 33) C dX5_rank_33 (mt_s2 hM0) rfl <|
    aw_aload_n (pc := 34) C (i := 0) dX5_rank_34 rfl rfl <|
    aw_iload_n (pc := 35) C (i := 2) dX5_rank_35 rfl rfl <|
    aw_iload (pc := 36) C (i := 4) dX5_rank_36 rfl <|
    aw_callF (pc := 38) C (cr_V (rest := [.int (h.1 (o + 2) v4.toNatClampNeg), .ref 5]) (F := (X5_lengthBy o v2 v4)) C (c_X5_lengthBy X.2.1 o hM0 v2 v4) dX5_rank_38 mf_X5_lengthBy ml_X5_99 im_X5_lengthBy se_X5_lengthBy (mt_s hM0) rfl ⟨(Nat.le_of_ble_eq_true rfl), (Nat.le_of_ble_eq_true rfl)⟩ rfl rfl (Nat.le_of_ble_eq_true rfl)) rfl rfl rfl (Nat.zero_le _) (Nat.zero_le _) fun r3 h4 =>
    aw_callF (pc := 41) C (cr_V (rest := []) (F := (X6_add (h.1 (o + 2) v4.toNatClampNeg) r3)) C (c_X6_add X.2.1 (h.1 (o + 2) v4.toNatClampNeg) r3) dX5_rank_41 mf_X6_add ml_X5_102 im_X6_add se_X6_add sC_5 rfl ⟨(Nat.le_of_ble_eq_true rfl), (Nat.le_of_ble_eq_true rfl)⟩ rfl rfl (Nat.le_of_ble_eq_true rfl)) rfl rfl rfl (Nat.zero_le _) (Nat.zero_le _) fun _ h6 =>
    aw_iincV (pc := 44) C (i := 4) (cst := 1) (fun x7 => [(0, .ref o), (1, .ref 5), (2, .int v2), (3, .int v3), (4, .int x7)]) dX5_rank_44 rfl rfl (by decide) (fun _ => rfl) fun x7 =>
    aw_goto (pc := 47) C (tgt := 11) dX5_rank_47 rfl <|
    (ih x7 h6)))
def X5_rank (o : Nat) (v2 : Int32) (v3 : Int32) (h : AH) : Option (Unit × AH) :=
    bd (X6_start (h.1 o 3) h) fun _ h2 =>
    X5_rank_l11 o v2 v3 FU 0 h2
set_option maxRecDepth 100000 in
theorem c_X5_rank (l : Launch) (o : Nat) (hM0 : MT o) (v2 : Int32) (v3 : Int32) : MC l yX5_rank cX5_rank 5 none rmX5_rank ZC [.ref o, .ref 5, .int v2, .int v3] rvV (X5_rank o v2 v3) :=
  MC.of (own := RX5) (by decide +kernel) rfl (Nat.le_of_ble_eq_true rfl) fun X yd A h _ C =>
    aw_aload_n (pc := 0) C (i := 1) dX5_rank_0 rfl rfl <|
    aw_aload_n (pc := 1) C (i := 0) dX5_rank_1 rfl rfl <|
    aw_getI (pc := 2) C dX5_rank_2 fl_X5_43 (mt_s hM0) rfl <|
    aw_callF (pc := 5) C (cr_V (rest := []) (F := (X6_start (h.1 o 3))) C (c_X6_start X.2.1 (h.1 o 3)) dX5_rank_5 mf_X6_start ml_X5_95 im_X6_start se_X6_start sC_5 rfl ⟨(Nat.le_of_ble_eq_true rfl), (Nat.le_of_ble_eq_true rfl)⟩ rfl rfl (Nat.le_of_ble_eq_true rfl)) rfl rfl rfl (Nat.zero_le _) (Nat.zero_le _) fun _ h2 =>
    aw_iconst (pc := 8) C (v := 0) dX5_rank_8 rfl <|
    aw_istore (pc := 9) C (i := 4) (lv' := [(0, .ref o), (1, .ref 5), (2, .int v2), (3, .int v3), (4, .int 0)]) dX5_rank_9 (by decide) rfl <|
    (aX5_rank_l11 C o hM0 v2 v3 FU 0 h2)

abbrev rmX10_digitsBehind : Room := { frames := 0, cells := 0, slots := 0, locals := 0 }
def X10_digitsBehind (v0 : Int32) (h : AH) : Option (Int32 × AH) :=
    vl v0 fun y1 =>
    if y1 = 102 then (some (0, h))
    else if y1 = 103 then (some (1, h))
    else if y1 = 106 then (some (13, h))
    else if y1 = 110 then (some (2, h))
    else if y1 = 112 then (some (0, h))
    else if y1 = 116 then (some (2, h))
    else if y1 = 119 then (some (1, h))
    else (some ((-1), h))
set_option maxRecDepth 100000 in
theorem c_X10_digitsBehind (l : Launch) (v0 : Int32) : MC l yX10_digitsBehind cX10_digitsBehind 1 (some .int) rmX10_digitsBehind ZC [.int v0] rvI (X10_digitsBehind v0) :=
  MC.of (own := RX10) (by decide +kernel) rfl (Nat.le_of_ble_eq_true rfl) fun X yd A h _ C =>
    aw_iload_n (pc := 0) C (i := 0) dX10_digitsBehind_0 rfl rfl <|
    aw_vlI fun y1 =>
    aw_if (fun c2 => aw_tswA (pc := 1) C (off := 94) (tg := 95) 102 dX10_digitsBehind_1 (by rw [c2]; rfl) (by decide) (by decide) rfl rfl (aw_iconst (pc := 95) C (v := 0) dX10_digitsBehind_95 rfl <|
    aw_iret (pc := 96) C dX10_digitsBehind_96 rfl rfl)) (fun c2 =>
    aw_if (fun c3 => aw_tswA (pc := 1) C (off := 89) (tg := 90) 103 dX10_digitsBehind_1 (by rw [c3]; rfl) (by decide) (by decide) rfl rfl (aw_iconst (pc := 90) C (v := 1) dX10_digitsBehind_90 rfl <|
    aw_iret (pc := 91) C dX10_digitsBehind_91 rfl rfl)) (fun c3 =>
    aw_if (fun c4 => aw_tswA (pc := 1) C (off := 91) (tg := 92) 106 dX10_digitsBehind_1 (by rw [c4]; rfl) (by decide) (by decide) rfl rfl (aw_bipush (pc := 92) C (v := 13) dX10_digitsBehind_92 rfl <|
    aw_iret (pc := 94) C dX10_digitsBehind_94 rfl rfl)) (fun c4 =>
    aw_if (fun c5 => aw_tswA (pc := 1) C (off := 87) (tg := 88) 110 dX10_digitsBehind_1 (by rw [c5]; rfl) (by decide) (by decide) rfl rfl (aw_iconst (pc := 88) C (v := 2) dX10_digitsBehind_88 rfl <|
    aw_iret (pc := 89) C dX10_digitsBehind_89 rfl rfl)) (fun c5 =>
    aw_if (fun c6 => aw_tswA (pc := 1) C (off := 94) (tg := 95) 112 dX10_digitsBehind_1 (by rw [c6]; rfl) (by decide) (by decide) rfl rfl (aw_iconst (pc := 95) C (v := 0) dX10_digitsBehind_95 rfl <|
    aw_iret (pc := 96) C dX10_digitsBehind_96 rfl rfl)) (fun c6 =>
    aw_if (fun c7 => aw_tswA (pc := 1) C (off := 87) (tg := 88) 116 dX10_digitsBehind_1 (by rw [c7]; rfl) (by decide) (by decide) rfl rfl (aw_iconst (pc := 88) C (v := 2) dX10_digitsBehind_88 rfl <|
    aw_iret (pc := 89) C dX10_digitsBehind_89 rfl rfl)) (fun c7 =>
    aw_if (fun c8 => aw_tswA (pc := 1) C (off := 89) (tg := 90) 119 dX10_digitsBehind_1 (by rw [c8]; rfl) (by decide) (by decide) rfl rfl (aw_iconst (pc := 90) C (v := 1) dX10_digitsBehind_90 rfl <|
    aw_iret (pc := 91) C dX10_digitsBehind_91 rfl rfl)) (fun c8 =>
    aw_tswD (pc := 1) C (N := 18) (td := 97) [102, 103, 106, 110, 112, 116, 119] dX10_digitsBehind_1 (List.forall_mem_cons.mpr ⟨ti_ne c2 rfl, List.forall_mem_cons.mpr ⟨ti_ne c3 rfl, List.forall_mem_cons.mpr ⟨ti_ne c4 rfl, List.forall_mem_cons.mpr ⟨ti_ne c5 rfl, List.forall_mem_cons.mpr ⟨ti_ne c6 rfl, List.forall_mem_cons.mpr ⟨ti_ne c7 rfl, List.forall_mem_cons.mpr ⟨ti_ne c8 rfl, fun _ hz => by cases hz⟩⟩⟩⟩⟩⟩⟩) rfl (by decide) rfl (aw_iconst (pc := 97) C (v := (-1)) dX10_digitsBehind_97 rfl <|
    aw_iret (pc := 98) C dX10_digitsBehind_98 rfl rfl))))))))
