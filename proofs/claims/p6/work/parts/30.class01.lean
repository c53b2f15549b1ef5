abbrev rmJ7_fill_53178 : Room := { frames := 0, cells := 0, slots := 0, locals := 0 }
def J7_fill_53178_l5 (p0 : Nat) (n0 : Nat) (v1 : Int32) (v3 : Int32) : Nat → Int32 → AH → Option (Unit × AH)
  | 0, _, _ => none
  | n + 1, v2, h =>
    if v3 ≤ v2 then (some ((), h))
    else (ck v2 n0 (vl (sI h p0 v2.toNatClampNeg v1) fun h2 =>
    vl (v2 + 1) fun x3 =>
    (J7_fill_53178_l5 p0 n0 v1 v3 n) x3 h2))
set_option maxRecDepth 100000 in
theorem aJ7_fill_53178_l5 {X : MCx} {yd : Dyn} {A : Nat → Prop} (C : OK X cJ7_fill_53178 RJ7 4 none rmJ7_fill_53178 A) (Z : Stc) (p0 : Nat) (n0 : Nat) (t0 : Nat) (hA0 : Z.1[p0]? = some (.inl (t0, 0, n0))) (hT0 : Z.2.2.2[t0]? = some .int) (v1 : Int32) (v3 : Int32) : ∀ (n : Nat) (v2 : Int32) (h : AH), AW X 4 Z yd A 0 0 (QF X rmJ7_fill_53178 Z yd rvV A) 5 [(0, .ref p0), (1, .int v1), (2, .int v2), (3, .int v3)] [] h (J7_fill_53178_l5 p0 n0 v1 v3 n v2 h) := by
  intro n
  induction n with
  | zero => intro v2 h; exact aw_none
  | succ n ih =>
    intro v2 h
    exact aw_iload_n (pc := 5) C (i := 2) dJ7_fill_53178_5 rfl rfl <|
    aw_iload_n (pc := 6) C (i := 3) dJ7_fill_53178_6 rfl rfl <|
    aw_icmp_ge (pc := 7) C (tgt := 20) dJ7_fill_53178_7 rfl (fun _ =>
    aw_vret (pc := 20) C dJ7_fill_53178_20 rfl rfl) (fun _ =>
    aw_aload_n (pc := 10) C (i := 0) dJ7_fill_53178_10 rfl rfl <|
    aw_iload_n (pc := 11) C (i := 2) dJ7_fill_53178_11 rfl rfl <|
    aw_iload_n (pc := 12) C (i := 1) dJ7_fill_53178_12 rfl rfl <|
    aw_iast (pc := 13) C dJ7_fill_53178_13 hA0 hT0 fun h2 =>
    aw_iincV (pc := 14) C (i := 2) (cst := 1) (fun x3 => [(0, .ref p0), (1, .int v1), (2, .int x3), (3, .int v3)]) dJ7_fill_53178_14 rfl rfl (by decide) (fun _ => rfl) fun x3 =>
    aw_goto (pc := 17) C (tgt := 5) dJ7_fill_53178_17 rfl <|
    (ih x3 h2))
def J7_fill_53178 (p0 : Nat) (n0 : Nat) (v1 : Int32) (h : AH) : Option (Unit × AH) :=
    vl (Int32.ofNat n0) fun x1 =>
    J7_fill_53178_l5 p0 n0 v1 x1 FU 0 h
set_option maxRecDepth 100000 in
theorem c_J7_fill_53178 (l : Launch) (Z : Stc) (p0 : Nat) (n0 : Nat) (t0 : Nat) (hA0 : Z.1[p0]? = some (.inl (t0, 0, n0))) (hT0 : Z.2.2.2[t0]? = some .int) (v1 : Int32) : MC l yJ7_fill_53178 cJ7_fill_53178 4 none rmJ7_fill_53178 Z [.ref p0, .int v1] rvV (J7_fill_53178 p0 n0 v1) :=
  MC.of (own := RJ7) (by decide +kernel) rfl (Nat.le_of_ble_eq_true rfl) fun X yd A h _ C =>
    aw_iconst (pc := 0) C (v := 0) dJ7_fill_53178_0 rfl <|
    aw_istore_n (pc := 1) C (i := 2) (lv' := [(0, .ref p0), (1, .int v1), (2, .int 0)]) dJ7_fill_53178_1 rfl (by decide) rfl <|
    aw_aload_n (pc := 2) C (i := 0) dJ7_fill_53178_2 rfl rfl <|
    aw_alenI (pc := 3) C (v := (Int32.ofNat n0)) (by decide) dJ7_fill_53178_3 hA0 hT0 rfl <|
    aw_istoreV_n (pc := 4) C (i := 3) (fun x1 => [(0, .ref p0), (1, .int v1), (2, .int 0), (3, .int x1)]) dJ7_fill_53178_4 rfl (by decide) (fun _ => rfl) fun x1 =>
    (aJ7_fill_53178_l5 C Z p0 n0 t0 hA0 hT0 v1 x1 FU 0 h)

abbrev rmX6_start : Room := { frames := 1, cells := 0, slots := 0, locals := 45 }
def X6_start (v1 : Int32) (h : AH) : Option (Unit × AH) :=
    vl (sI h 5 0 (mx32 0 (mn32 4 v1))) fun h1 =>
    bd (J7_fill_53178 6 4 0 h1) fun _ h3 =>
    bd (J7_fill_53178 7 4 0 h3) fun _ h5 =>
    some ((), h5)
set_option maxRecDepth 100000 in
theorem c_X6_start (l : Launch) (v1 : Int32) : MC l yX6_start cX6_start 2 none rmX6_start ZC [.ref 5, .int v1] rvV (X6_start v1) :=
  MC.of (own := RX6) (by decide +kernel) rfl (Nat.le_of_ble_eq_true rfl) fun X yd A h _ C =>
    aw_aload_n (pc := 0) C (i := 0) dX6_start_0 rfl rfl <|
    aw_iconst (pc := 1) C (v := 0) dX6_start_1 rfl <|
    aw_iconst (pc := 2) C (v := 4) dX6_start_2 rfl <|
    aw_iload_n (pc := 3) C (i := 1) dX6_start_3 rfl rfl <|
    aw_mmin (pc := 4) C dX6_start_4 ml_X6_18 w_mminS w_mI w_mminC ⟨(Nat.le_of_ble_eq_true rfl), (Nat.le_of_ble_eq_true rfl)⟩ (Nat.zero_le _) (Nat.zero_le _) <|
    aw_mmax (pc := 7) C dX6_start_7 ml_X6_24 w_mmaxS w_mI w_mmaxC ⟨(Nat.le_of_ble_eq_true rfl), (Nat.le_of_ble_eq_true rfl)⟩ (Nat.zero_le _) (Nat.zero_le _) <|
    aw_putI (pc := 10) C dX6_start_10 fp_X6_27 sC_5 rfl fun h1 =>
    aw_aload_n (pc := 13) C (i := 0) dX6_start_13 rfl rfl <|
    aw_getR (pc := 14) C (b := 6) dX6_start_14 fl_X6_9 sC_5 rfl rC_5_1 <|
    aw_iconst (pc := 17) C (v := 0) dX6_start_17 rfl <|
    aw_callF (pc := 18) C (cr_S (rest := []) (F := (J7_fill_53178 6 4 0)) C (c_J7_fill_53178 X.2.1 ZC 6 4 0 sC_6 rfl 0) dX6_start_18 mf_J7_fill_53178 ml_X6_31 st_J7_fill_53178 ⟨(Nat.le_of_ble_eq_true rfl), (Nat.le_of_ble_eq_true rfl)⟩ rfl rfl (Nat.le_of_ble_eq_true rfl)) rfl rfl rfl (Nat.zero_le _) (Nat.zero_le _) fun _ h3 =>
    aw_aload_n (pc := 21) C (i := 0) dX6_start_21 rfl rfl <|
    aw_getR (pc := 22) C (b := 7) dX6_start_22 fl_X6_15 sC_5 rfl rC_5_2 <|
    aw_iconst (pc := 25) C (v := 0) dX6_start_25 rfl <|
    aw_callF (pc := 26) C (cr_S (rest := []) (F := (J7_fill_53178 7 4 0)) C (c_J7_fill_53178 X.2.1 ZC 7 4 0 sC_7 rfl 0) dX6_start_26 mf_J7_fill_53178 ml_X6_31 st_J7_fill_53178 ⟨(Nat.le_of_ble_eq_true rfl), (Nat.le_of_ble_eq_true rfl)⟩ rfl rfl (Nat.le_of_ble_eq_true rfl)) rfl rfl rfl (Nat.zero_le _) (Nat.zero_le _) fun _ h5 =>
    aw_vret (pc := 29) C dX6_start_29 rfl rfl

abbrev rmX5_lengthBy : Room := { frames := 0, cells := 0, slots := 0, locals := 0 }
def X5_lengthBy (o : Nat) (v1 : Int32) (v2 : Int32) (h : AH) : Option (Int32 × AH) :=
    ck v2 24 (if 0 ≤ (h.1 (o + 4) v2.toNatClampNeg) then (if v1 = 1 then (ck v2 24 (ck v2 24 (some (((h.1 (o + 4) v2.toNatClampNeg) + (h.1 (o + 3) v2.toNatClampNeg)), h))))
    else (ck v2 24 (some ((h.1 (o + 4) v2.toNatClampNeg), h))))
    else (if v1 = 2 then (ck v2 24 (if (h.1 (o + 4) v2.toNatClampNeg) = (-9) then (ck v2 24 (some ((h.1 (o + 5) v2.toNatClampNeg), h)))
    else (some (0, h))))
    else (some (0, h))))
set_option maxRecDepth 100000 in
theorem c_X5_lengthBy (l : Launch) (o : Nat) (hM0 : MT o) (v1 : Int32) (v2 : Int32) : MC l yX5_lengthBy cX5_lengthBy 3 (some .int) rmX5_lengthBy ZC [.ref o, .int v1, .int v2] rvI (X5_lengthBy o v1 v2) :=
  MC.of (own := RX5) (by decide +kernel) rfl (Nat.le_of_ble_eq_true rfl) fun X yd A h _ C =>
    aw_aload_n (pc := 0) C (i := 0) dX5_lengthBy_0 rfl rfl <|
    aw_getR (pc := 1) C (b := (o + 4)) dX5_lengthBy_1 fl_X5_31 (mt_s hM0) rfl (mt_r8 hM0) <|
    aw_iload_n (pc := 4) C (i := 2) dX5_lengthBy_4 rfl rfl <|
    aw_iald (pc := 5) C dX5_lengthBy_5 (mt_s4 hM0) rfl <|
    aw_if_ge (pc := 6) C (tgt := 36) dX5_lengthBy_6 rfl (fun _ =>
    aw_iload_n (pc := 36) C (i := 1) dX5_lengthBy_36 rfl rfl <|
    aw_iconst (pc := 37) C (v := 1) dX5_lengthBy_37 rfl <|
    aw_icmp_ne (pc := 38) C (tgt := 57) dX5_lengthBy_38 rfl (fun _ =>
    aw_aload_n (pc := 41) C (i := 0) dX5_lengthBy_41 rfl rfl <|
    aw_getR (pc := 42) C (b := (o + 4)) dX5_lengthBy_42 fl_X5_31 (mt_s hM0) rfl (mt_r8 hM0) <|
    aw_iload_n (pc := 45) C (i := 2) dX5_lengthBy_45 rfl rfl <|
    aw_iald (pc := 46) C dX5_lengthBy_46 (mt_s4 hM0) rfl <|
    aw_aload_n (pc := 47) C (i := 0) dX5_lengthBy_47 rfl rfl <|
    aw_getR (pc := 48) C (b := (o + 3)) dX5_lengthBy_48 fl_X5_28 (mt_s hM0) rfl (mt_r7 hM0) <|
    aw_iload_n (pc := 51) C (i := 2) dX5_lengthBy_51 rfl rfl <|
    aw_iald (pc := 52) C dX5_lengthBy_52 (mt_s3 hM0) rfl <|
    aw_iadd (pc := 53) C dX5_lengthBy_53 <|
    aw_goto (pc := 54) C (tgt := 63) dX5_lengthBy_54 rfl <|
    aw_iret (pc := 63) C dX5_lengthBy_63 rfl rfl) (fun _ =>
    aw_aload_n (pc := 57) C (i := 0) dX5_lengthBy_57 rfl rfl <|
    aw_getR (pc := 58) C (b := (o + 4)) dX5_lengthBy_58 fl_X5_31 (mt_s hM0) rfl (mt_r8 hM0) <|
    aw_iload_n (pc := 61) C (i := 2) dX5_lengthBy_61 rfl rfl <|
    aw_iald (pc := 62) C dX5_lengthBy_62 (mt_s4 hM0) rfl <|
    aw_iret (pc := 63) C dX5_lengthBy_63 rfl rfl)) (fun _ =>
    aw_iload_n (pc := 9) C (i := 1) dX5_lengthBy_9 rfl rfl <|
    aw_iconst (pc := 10) C (v := 2) dX5_lengthBy_10 rfl <|
    aw_icmp_ne (pc := 11) C (tgt := 34) dX5_lengthBy_11 rfl (fun _ =>
    aw_aload_n (pc := 14) C (i := 0) dX5_lengthBy_14 rfl rfl <|
    aw_getR (pc := 15) C (b := (o + 4)) dX5_lengthBy_15 fl_X5_31 (mt_s hM0) rfl (mt_r8 hM0) <|
    aw_iload_n (pc := 18) C (i := 2) dX5_lengthBy_18 rfl rfl <|
    aw_iald (pc := 19) C dX5_lengthBy_19 (mt_s4 hM0) rfl <|
    aw_bipush (pc := 20) C (v := (-9)) dX5_lengthBy_20 rfl <|
    aw_icmp_ne (pc := 22) C (tgt := 34) dX5_lengthBy_22 rfl (fun _ =>
    aw_aload_n (pc := 25) C (i := 0) dX5_lengthBy_25 rfl rfl <|
    aw_getR (pc := 26) C (b := (o + 5)) dX5_lengthBy_26 fl_X5_34 (mt_s hM0) rfl (mt_r9 hM0) <|
    aw_iload_n (pc := 29) C (i := 2) dX5_lengthBy_29 rfl rfl <|
    aw_iald (pc := 30) C dX5_lengthBy_30 (mt_s5 hM0) rfl <|
    aw_goto (pc := 31) C (tgt := 35) dX5_lengthBy_31 rfl <|
    aw_iret (pc := 35) C dX5_lengthBy_35 rfl rfl) (fun _ =>
    aw_iconst (pc := 34) C (v := 0) dX5_lengthBy_34 rfl <|
    aw_iret (pc := 35) C dX5_lengthBy_35 rfl rfl)) (fun _ =>
    aw_iconst (pc := 34) C (v := 0) dX5_lengthBy_34 rfl <|
    aw_iret (pc := 35) C dX5_lengthBy_35 rfl rfl))

abbrev rmX6_add : Room := { frames := 0, cells := 0, slots := 0, locals := 0 }
def X6_add (v1 : Int32) (v2 : Int32) (h : AH) : Option (Unit × AH) :=
    if v1 < 0 then (some ((), h))
    else (if v1 < 4 then (ck v1 4 (if v2 ≤ (h.1 6 v1.toNatClampNeg) then (ck v1 4 (if v2 ≤ (h.1 7 v1.toNatClampNeg) then (some ((), h))
    else (ck v1 4 (vl (sI h 7 v1.toNatClampNeg v2) fun h1 =>
    some ((), h1)))))
    else (ck v1 4 (ck v1 4 (vl (sI h 7 v1.toNatClampNeg (h.1 6 v1.toNatClampNeg)) fun h2 =>
    ck v1 4 (vl (sI h2 6 v1.toNatClampNeg v2) fun h3 =>
    some ((), h3)))))))
    else (some ((), h)))
set_option maxRecDepth 100000 in
theorem c_X6_add (l : Launch) (v1 : Int32) (v2 : Int32) : MC l yX6_add cX6_add 3 none rmX6_add ZC [.ref 5, .int v1, .int v2] rvV (X6_add v1 v2) :=
  MC.of (own := RX6) (by decide +kernel) rfl (Nat.le_of_ble_eq_true rfl) fun X yd A h _ C =>
    aw_iload_n (pc := 0) C (i := 1) dX6_add_0 rfl rfl <|
    aw_if_lt (pc := 1) C (tgt := 9) dX6_add_1 rfl (fun _ =>
    aw_vret (pc := 9) C dX6_add_9 rfl rfl) (fun _ =>
    aw_iload_n (pc := 4) C (i := 1) dX6_add_4 rfl rfl <|
    aw_iconst (pc := 5) C (v := 4) dX6_add_5 rfl <|
    aw_icmp_lt (pc := 6) C (tgt := 10) dX6_add_6 rfl (fun _ =>
    aw_iload_n (pc := 10) C (i := 2) dX6_add_10 rfl rfl <|
    aw_aload_n (pc := 11) C (i := 0) dX6_add_11 rfl rfl <|
    aw_getR (pc := 12) C (b := 6) dX6_add_12 fl_X6_9 sC_5 rfl rC_5_1 <|
    aw_iload_n (pc := 15) C (i := 1) dX6_add_15 rfl rfl <|
    aw_iald (pc := 16) C dX6_add_16 sC_6 rfl <|
    aw_icmp_le (pc := 17) C (tgt := 42) dX6_add_17 rfl (fun _ =>
    aw_iload_n (pc := 42) C (i := 2) dX6_add_42 rfl rfl <|
    aw_aload_n (pc := 43) C (i := 0) dX6_add_43 rfl rfl <|
    aw_getR (pc := 44) C (b := 7) dX6_add_44 fl_X6_15 sC_5 rfl rC_5_2 <|
    aw_iload_n (pc := 47) C (i := 1) dX6_add_47 rfl rfl <|
    aw_iald (pc := 48) C dX6_add_48 sC_7 rfl <|
    aw_icmp_le (pc := 49) C (tgt := 59) dX6_add_49 rfl (fun _ =>
    aw_vret (pc := 59) C dX6_add_59 rfl rfl) (fun _ =>
    aw_aload_n (pc := 52) C (i := 0) dX6_add_52 rfl rfl <|
    aw_getR (pc := 53) C (b := 7) dX6_add_53 fl_X6_15 sC_5 rfl rC_5_2 <|
    aw_iload_n (pc := 56) C (i := 1) dX6_add_56 rfl rfl <|
    aw_iload_n (pc := 57) C (i := 2) dX6_add_57 rfl rfl <|
    aw_iast (pc := 58) C dX6_add_58 sC_7 rfl fun h1 =>
    aw_vret (pc := 59) C dX6_add_59 rfl rfl)) (fun _ =>
    aw_aload_n (pc := 20) C (i := 0) dX6_add_20 rfl rfl <|
    aw_getR (pc := 21) C (b := 7) dX6_add_21 fl_X6_15 sC_5 rfl rC_5_2 <|
    aw_iload_n (pc := 24) C (i := 1) dX6_add_24 rfl rfl <|
    aw_aload_n (pc := 25) C (i := 0) dX6_add_25 rfl rfl <|
    aw_getR (pc := 26) C (b := 6) dX6_add_26 fl_X6_9 sC_5 rfl rC_5_1 <|
    aw_iload_n (pc := 29) C (i := 1) dX6_add_29 rfl rfl <|
    aw_iald (pc := 30) C dX6_add_30 sC_6 rfl <|
    aw_iast (pc := 31) C dX6_add_31 sC_7 rfl fun h2 =>
    aw_aload_n (pc := 32) C (i := 0) dX6_add_32 rfl rfl <|
    aw_getR (pc := 33) C (b := 6) dX6_add_33 fl_X6_9 sC_5 rfl rC_5_1 <|
    aw_iload_n (pc := 36) C (i := 1) dX6_add_36 rfl rfl <|
    aw_iload_n (pc := 37) C (i := 2) dX6_add_37 rfl rfl <|
    aw_iast (pc := 38) C dX6_add_38 sC_6 rfl fun h3 =>
    aw_goto (pc := 39) C (tgt := 59) dX6_add_39 rfl <|
    aw_vret (pc := 59) C dX6_add_59 rfl rfl)) (fun _ =>
    aw_vret (pc := 9) C dX6_add_9 rfl rfl))

abbrev rmX5_rank : Room := { frames := 2, cells := 0, slots := 0, locals := 66 }
def X5_rank_l11 (o : Nat) (v2 : Int32) (v3 : Int32) : Nat → Int32 → AH → Option (Unit × AH)
  | 0, _, _ => none
  | n + 1, v4, h =>
    if v3 ≤ v4 then (some ((), h))
    else (if (h.1 o 4) ≤ v4 then (some ((), h))
    else (ck v4 24 (bd (X5_lengthBy o v2 v4 h) fun r3 h4 =>
    bd (X6_add (h.1 (o + 2) v4.toNatClampNeg) r3 h4) fun _ h6 =>
    vl (v4 + 1) fun x7 =>
    (X5_rank_l11 o v2 v3 n) x7 h6)))
set_option maxRecDepth 100000 in
theorem aX5_rank_l11 {X : MCx} {yd : Dyn} {A : Nat → Prop} (C : OK X cX5_rank RX5 5 none rmX5_rank A) (o : Nat) (hM0 : MT o) (v2 : Int32) (v3 : Int32) : ∀ (n : Nat) (v4 : Int32) (h : AH), AW X 5 ZC yd A 0 0 (QF X rmX5_rank ZC yd rvV A) 11 [(0, .ref o), (1, .ref 5), (2, .int v2), (3, .int v3), (4, .int v4)] [] h (X5_rank_l11 o v2 v3 n v4 h) := by
  intro n
  induction n with
  | zero => intro v4 h; exact aw_none
  | succ n ih =>
    intro v4 h
    exact aw_iload (pc := 11) C (i := 4) dX5_rank_11 rfl <|
    aw_iload_n (pc := 13) C (i := 3) dX5_rank_13 rfl rfl <|
    aw_icmp_ge (pc := 14) C (tgt := 50) dX5_rank_14 rfl (fun _ =>
    aw_vret (pc := 50) C dX5_rank_50 rfl rfl) (fun _ =>
    aw_iload (pc := 17) C (i := 4) dX5_rank_17 rfl <|
    aw_aload_n (pc := 19) C (i := 0) dX5_rank_19 rfl rfl <|
    aw_getI (pc := 20) C dX5_rank_20 fl_X5_46 (mt_s hM0) rfl <|
    aw_icmp_ge (pc := 23) C (tgt := 50) dX5_rank_23 rfl (fun _ =>
    aw_vret (pc := 50) C dX5_rank_50 rfl rfl) (fun _ =>
    aw_aload_n (pc := 26) C (i := 1) dX5_rank_26 rfl rfl <|
    aw_aload_n (pc := 27) C (i := 0) dX5_rank_27 rfl rfl <|
    aw_getR (pc := 28) C (b := (o + 2)) dX5_rank_28 fl_X5_24 (mt_s hM0) rfl (mt_r6 hM0) <|
    aw_iload (pc := 31) C (i := 4) dX5_rank_31 rfl <|
    aw_iald (pc := 33) C dX5_rank_33 (mt_s2 hM0) rfl <|
    aw_aload_n (pc := 34) C (i := 0) dX5_rank_34 rfl rfl <|
    aw_iload_n (pc := 35) C (i := 2) dX5_rank_35 rfl rfl <|
    aw_iload (pc := 36) C (i := 4) dX5_rank_36 rfl <|
    aw_callF (pc := 38) C (cr_V (rest := [.int (h.1 (o + 2) v4.toNatClampNeg), .ref 5]) (F := (X5_lengthBy o v2 v4)) C (c_X5_lengthBy X.2.1 o hM0 v2 v4) dX5_rank_38 mf_X5_lengthBy ml_X5_99 im_X5_lengthBy se_X5_lengthBy (mt_s hM0) rfl ⟨(Nat.le_of_ble_eq_true rfl), (Nat.le_of_ble_eq_true rfl)⟩ rfl rfl (Nat.le_of_ble_eq_true rfl)) rfl rfl rfl (Nat.zero_le _) (Nat.zero_le _) fun r3 h4 =>
    aw_callF (pc := 41) C (cr_V (rest := []) (F := (X6_add (h.1 (o + 2) v4.toNatClampNeg) r3)) C (c_X6_add X.2.1 (h.1 (o + 2) v4.toNatClampNeg) r3) dX5_rank_41 mf_X6_add ml_X5_102 im_X6_add se_X6_add sC_5 rfl ⟨(Nat.le_of_ble_eq_true rfl), (Nat.le_of_ble_eq_true rfl)⟩ rfl rfl (Nat.le_of_ble_eq_true rfl)) rfl rfl rfl (Nat.zero_le _) (Nat.zero_le _) fun _ h6 =>
    aw_iincV (pc := 44) C (i := 4) (cst := 1) (fun x7 => [(0, .ref o), (1, .ref 5), (2, .int v2), (3, .int v3), (4, .int x7)]) dX5_rank_44 rfl rfl (by decide) (fun _ => rfl) fun x7 =>
    aw_goto (pc := 47) C (tgt := 11) dX5_rank_47 rfl <|
    (ih x7 h6)))
def X5_rank (o : Nat) (v2 : Int32) (v3 : Int32) (h : AH) : Option (Unit × AH) :=
    bd (X6_start (h.1 o 3) h) fun _ h2 =>
    X5_rank_l11 o v2 v3 FU 0 h2
set_option maxRecDepth 100000 in
theorem c_X5_rank (l : Launch) (o : Nat) (hM0 : MT o) (v2 : Int32) (v3 : Int32) : MC l yX5_rank cX5_rank 5 none rmX5_rank ZC [.ref o, .ref 5, .int v2, .int v3] rvV (X5_rank o v2 v3) :=
  MC.of (own := RX5) (by decide +kernel) rfl (Nat.le_of_ble_eq_true rfl) fun X yd A h _ C =>
    aw_aload_n (pc := 0) C (i := 1) dX5_rank_0 rfl rfl <|
    aw_aload_n (pc := 1) C (i := 0) dX5_rank_1 rfl rfl <|
    aw_getI (pc := 2) C dX5_rank_2 fl_X5_43 (mt_s hM0) rfl <|
    aw_callF (pc := 5) C (cr_V (rest := []) (F := (X6_start (h.1 o 3))) C (c_X6_start X.2.1 (h.1 o 3)) dX5_rank_5 mf_X6_start ml_X5_95 im_X6_start se_X6_start sC_5 rfl ⟨(Nat.le_of_ble_eq_true rfl), (Nat.le_of_ble_eq_true rfl)⟩ rfl rfl (Nat.le_of_ble_eq_true rfl)) rfl rfl rfl (Nat.zero_le _) (Nat.zero_le _) fun _ h2 =>
    aw_iconst (pc := 8) C (v := 0) dX5_rank_8 rfl <|
    aw_istore (pc := 9) C (i := 4) (lv' := [(0, .ref o), (1, .ref 5), (2, .int v2), (3, .int v3), (4, .int 0)]) dX5_rank_9 (by decide) rfl <|
    (aX5_rank_l11 C o hM0 v2 v3 FU 0 h2)

abbrev rmX6_ahead : Room := { frames := 1, cells := 0, slots := 0, locals := 45 }
def X6_ahead_j157  (v1 : Int32) (v3 : Int32) (v4 : Int32) (v6 : Int32) (K55 : Int32 → Int32 → AH → Option (Int32 × AH)) (s0 : Int32) (s1 : Int32) (h : AH) : Option (Int32 × AH) :=
    vl (s1 + s0) fun x3 =>
    vl (v6 + 1) fun x4 =>
    K55 x3 x4 h
set_option maxRecDepth 100000 in
theorem aX6_ahead_j157 {X : MCx} {yd : Dyn} {A : Nat → Prop} (C : OK X cX6_ahead RX6 8 (some .int) rmX6_ahead A)  (v1 : Int32) (v3 : Int32) (v4 : Int32) (v6 : Int32) (K55 : Int32 → Int32 → AH → Option (Int32 × AH)) (hK55 : ∀ (w5 : Int32) (w6 : Int32) (h : AH), AW X 8 ZC yd A 0 0 (QF X rmX6_ahead ZC yd rvI A) 55 [(0, .ref 5), (1, .int v1), (3, .int v3), (4, .int v4), (5, .int w5), (6, .int w6)] [] h (K55 w5 w6 h)) (s0 : Int32) (s1 : Int32) (h : AH) : AW X 8 ZC yd A 0 0 (QF X rmX6_ahead ZC yd rvI A) 157 [(0, .ref 5), (1, .int v1), (3, .int v3), (4, .int v4), (6, .int v6)] [.int s0, .int s1] h (X6_ahead_j157 v1 v3 v4 v6 K55 s0 s1 h) := by
    exact aw_iadd (pc := 157) C dX6_ahead_157 <|
    aw_istoreV (pc := 158) C (i := 5) (fun x3 => [(0, .ref 5), (1, .int v1), (3, .int v3), (4, .int v4), (5, .int x3), (6, .int v6)]) dX6_ahead_158 (by decide) (fun _ => rfl) fun x3 =>
    aw_iincV (pc := 160) C (i := 6) (cst := 1) (fun x4 => [(0, .ref 5), (1, .int v1), (3, .int v3), (4, .int v4), (5, .int x3), (6, .int x4)]) dX6_ahead_160 rfl rfl (by decide) (fun _ => rfl) fun x4 =>
    aw_goto (pc := 163) C (tgt := 55) dX6_ahead_163 rfl <|
    (hK55 x3 x4 h)
def X6_ahead_j156  (v1 : Int32) (v3 : Int32) (v4 : Int32) (v6 : Int32) (K55 : Int32 → Int32 → AH → Option (Int32 × AH)) (s0 : Int32) (h : AH) : Option (Int32 × AH) :=
    X6_ahead_j157 v1 v3 v4 v6 K55 0 s0 h
set_option maxRecDepth 100000 in
theorem aX6_ahead_j156 {X : MCx} {yd : Dyn} {A : Nat → Prop} (C : OK X cX6_ahead RX6 8 (some .int) rmX6_ahead A)  (v1 : Int32) (v3 : Int32) (v4 : Int32) (v6 : Int32) (K55 : Int32 → Int32 → AH → Option (Int32 × AH)) (hK55 : ∀ (w5 : Int32) (w6 : Int32) (h : AH), AW X 8 ZC yd A 0 0 (QF X rmX6_ahead ZC yd rvI A) 55 [(0, .ref 5), (1, .int v1), (3, .int v3), (4, .int v4), (5, .int w5), (6, .int w6)] [] h (K55 w5 w6 h)) (s0 : Int32) (h : AH) : AW X 8 ZC yd A 0 0 (QF X rmX6_ahead ZC yd rvI A) 156 [(0, .ref 5), (1, .int v1), (3, .int v3), (4, .int v4), (6, .int v6)] [.int s0] h (X6_ahead_j156 v1 v3 v4 v6 K55 s0 h) := by
    exact aw_iconst (pc := 156) C (v := 0) dX6_ahead_156 rfl <|
    (aX6_ahead_j157 C v1 v3 v4 v6 K55 hK55 0 s0 h)
def X6_ahead_j137  (v1 : Int32) (v3 : Int32) (v4 : Int32) (v5 : Int32) (v6 : Int32) (K55 : Int32 → Int32 → AH → Option (Int32 × AH)) (s0 : Int32) (h : AH) : Option (Int32 × AH) :=
    if v6 = v1 then (X6_ahead_j156 v1 v3 v4 v6 K55 v5 h)
    else (if s0 = 0 then (X6_ahead_j156 v1 v3 v4 v6 K55 v5 h)
    else (X6_ahead_j157 v1 v3 v4 v6 K55 1 v5 h))
set_option maxRecDepth 100000 in
theorem aX6_ahead_j137 {X : MCx} {yd : Dyn} {A : Nat → Prop} (C : OK X cX6_ahead RX6 8 (some .int) rmX6_ahead A)  (v1 : Int32) (v3 : Int32) (v4 : Int32) (v5 : Int32) (v6 : Int32) (K55 : Int32 → Int32 → AH → Option (Int32 × AH)) (hK55 : ∀ (w5 : Int32) (w6 : Int32) (h : AH), AW X 8 ZC yd A 0 0 (QF X rmX6_ahead ZC yd rvI A) 55 [(0, .ref 5), (1, .int v1), (3, .int v3), (4, .int v4), (5, .int w5), (6, .int w6)] [] h (K55 w5 w6 h)) (s0 : Int32) (h : AH) : AW X 8 ZC yd A 0 0 (QF X rmX6_ahead ZC yd rvI A) 137 [(0, .ref 5), (1, .int v1), (3, .int v3), (4, .int v4), (5, .int v5), (6, .int v6)] [.int s0] h (X6_ahead_j137 v1 v3 v4 v5 v6 K55 s0 h) := by
    exact aw_istore (pc := 137) C (i := 7) (lv' := [(0, .ref 5), (1, .int v1), (3, .int v3), (4, .int v4), (5, .int v5), (6, .int v6), (7, .int s0)]) dX6_ahead_137 (by decide) rfl <|
    aw_iload (pc := 139) C (i := 5) dX6_ahead_139 rfl <|
    aw_iload (pc := 141) C (i := 6) dX6_ahead_141 rfl <|
    aw_iload_n (pc := 143) C (i := 1) dX6_ahead_143 rfl rfl <|
    aw_icmp_eq (pc := 144) C (tgt := 156) dX6_ahead_144 rfl (fun _ =>
    aw_drop [0, 1, 2, 3, 5] (aX6_ahead_j156 C v1 v3 v4 v6 K55 hK55 v5 h)) (fun _ =>
    aw_iload (pc := 147) C (i := 7) dX6_ahead_147 rfl <|
    aw_if_eq (pc := 149) C (tgt := 156) dX6_ahead_149 rfl (fun _ =>
    aw_drop [0, 1, 2, 3, 5] (aX6_ahead_j156 C v1 v3 v4 v6 K55 hK55 v5 h)) (fun _ =>
    aw_iconst (pc := 152) C (v := 1) dX6_ahead_152 rfl <|
    aw_goto (pc := 153) C (tgt := 157) dX6_ahead_153 rfl <|
    aw_drop [0, 1, 2, 3, 5] (aX6_ahead_j157 C v1 v3 v4 v6 K55 hK55 1 v5 h)))
def X6_ahead_l55  (v1 : Int32) (v3 : Int32) (v4 : Int32) : Nat → Int32 → Int32 → AH → Option (Int32 × AH)
  | 0, _, _, _ => none
  | n + 1, v5, v6, h =>
    if (h.1 5 0) ≤ v6 then (some (v5, h))
    else (ck v6 4 (if (h.1 6 v6.toNatClampNeg) = v3 then (ck v6 4 (if (h.1 7 v6.toNatClampNeg) = v4 then (if v1 ≤ v6 then (X6_ahead_j137 v1 v3 v4 v5 v6 (X6_ahead_l55 v1 v3 v4 n) 0 h)
    else (X6_ahead_j137 v1 v3 v4 v5 v6 (X6_ahead_l55 v1 v3 v4 n) 1 h))
    else (ck v6 4 (if (h.1 7 v6.toNatClampNeg) ≤ v4 then (X6_ahead_j137 v1 v3 v4 v5 v6 (X6_ahead_l55 v1 v3 v4 n) 0 h)
    else (X6_ahead_j137 v1 v3 v4 v5 v6 (X6_ahead_l55 v1 v3 v4 n) 1 h)))))
    else (ck v6 4 (if (h.1 6 v6.toNatClampNeg) ≤ v3 then (X6_ahead_j137 v1 v3 v4 v5 v6 (X6_ahead_l55 v1 v3 v4 n) 0 h)
    else (X6_ahead_j137 v1 v3 v4 v5 v6 (X6_ahead_l55 v1 v3 v4 n) 1 h)))))
set_option maxRecDepth 100000 in
theorem aX6_ahead_l55 {X : MCx} {yd : Dyn} {A : Nat → Prop} (C : OK X cX6_ahead RX6 8 (some .int) rmX6_ahead A)  (v1 : Int32) (v3 : Int32) (v4 : Int32) : ∀ (n : Nat) (v5 : Int32) (v6 : Int32) (h : AH), AW X 8 ZC yd A 0 0 (QF X rmX6_ahead ZC yd rvI A) 55 [(0, .ref 5), (1, .int v1), (3, .int v3), (4, .int v4), (5, .int v5), (6, .int v6)] [] h (X6_ahead_l55 v1 v3 v4 n v5 v6 h) := by
  intro n
  induction n with
  | zero => intro v5 v6 h; exact aw_none
  | succ n ih =>
    intro v5 v6 h
    exact aw_iload (pc := 55) C (i := 6) dX6_ahead_55 rfl <|
    aw_aload_n (pc := 57) C (i := 0) dX6_ahead_57 rfl rfl <|
    aw_getI (pc := 58) C dX6_ahead_58 fl_X6_27 sC_5 rfl <|
    aw_icmp_ge (pc := 61) C (tgt := 166) dX6_ahead_61 rfl (fun _ =>
    aw_iload (pc := 166) C (i := 5) dX6_ahead_166 rfl <|
    aw_iret (pc := 168) C dX6_ahead_168 rfl rfl) (fun _ =>
    aw_aload_n (pc := 64) C (i := 0) dX6_ahead_64 rfl rfl <|
    aw_getR (pc := 65) C (b := 6) dX6_ahead_65 fl_X6_9 sC_5 rfl rC_5_1 <|
    aw_iload (pc := 68) C (i := 6) dX6_ahead_68 rfl <|
    aw_iald (pc := 70) C dX6_ahead_70 sC_6 rfl <|
    aw_iload_n (pc := 71) C (i := 3) dX6_ahead_71 rfl rfl <|
    aw_icmp_eq (pc := 72) C (tgt := 94) dX6_ahead_72 rfl (fun _ =>
    aw_aload_n (pc := 94) C (i := 0) dX6_ahead_94 rfl rfl <|
    aw_getR (pc := 95) C (b := 7) dX6_ahead_95 fl_X6_15 sC_5 rfl rC_5_2 <|
    aw_iload (pc := 98) C (i := 6) dX6_ahead_98 rfl <|
    aw_iald (pc := 100) C dX6_ahead_100 sC_7 rfl <|
    aw_iload (pc := 101) C (i := 4) dX6_ahead_101 rfl <|
    aw_icmp_eq (pc := 103) C (tgt := 126) dX6_ahead_103 rfl (fun _ =>
    aw_iload (pc := 126) C (i := 6) dX6_ahead_126 rfl <|
    aw_iload_n (pc := 128) C (i := 1) dX6_ahead_128 rfl rfl <|
    aw_icmp_ge (pc := 129) C (tgt := 136) dX6_ahead_129 rfl (fun _ =>
    aw_iconst (pc := 136) C (v := 0) dX6_ahead_136 rfl <|
    (aX6_ahead_j137 C v1 v3 v4 v5 v6 (X6_ahead_l55 v1 v3 v4 n) ih 0 h)) (fun _ =>
    aw_iconst (pc := 132) C (v := 1) dX6_ahead_132 rfl <|
    aw_goto (pc := 133) C (tgt := 137) dX6_ahead_133 rfl <|
    (aX6_ahead_j137 C v1 v3 v4 v5 v6 (X6_ahead_l55 v1 v3 v4 n) ih 1 h))) (fun _ =>
    aw_aload_n (pc := 106) C (i := 0) dX6_ahead_106 rfl rfl <|
    aw_getR (pc := 107) C (b := 7) dX6_ahead_107 fl_X6_15 sC_5 rfl rC_5_2 <|
    aw_iload (pc := 110) C (i := 6) dX6_ahead_110 rfl <|
    aw_iald (pc := 112) C dX6_ahead_112 sC_7 rfl <|
    aw_iload (pc := 113) C (i := 4) dX6_ahead_113 rfl <|
    aw_icmp_le (pc := 115) C (tgt := 122) dX6_ahead_115 rfl (fun _ =>
    aw_iconst (pc := 122) C (v := 0) dX6_ahead_122 rfl <|
    aw_goto (pc := 123) C (tgt := 137) dX6_ahead_123 rfl <|
    (aX6_ahead_j137 C v1 v3 v4 v5 v6 (X6_ahead_l55 v1 v3 v4 n) ih 0 h)) (fun _ =>
    aw_iconst (pc := 118) C (v := 1) dX6_ahead_118 rfl <|
    aw_goto (pc := 119) C (tgt := 137) dX6_ahead_119 rfl <|
    (aX6_ahead_j137 C v1 v3 v4 v5 v6 (X6_ahead_l55 v1 v3 v4 n) ih 1 h)))) (fun _ =>
    aw_aload_n (pc := 75) C (i := 0) dX6_ahead_75 rfl rfl <|
    aw_getR (pc := 76) C (b := 6) dX6_ahead_76 fl_X6_9 sC_5 rfl rC_5_1 <|
    aw_iload (pc := 79) C (i := 6) dX6_ahead_79 rfl <|
    aw_iald (pc := 81) C dX6_ahead_81 sC_6 rfl <|
    aw_iload_n (pc := 82) C (i := 3) dX6_ahead_82 rfl rfl <|
    aw_icmp_le (pc := 83) C (tgt := 90) dX6_ahead_83 rfl (fun _ =>
    aw_iconst (pc := 90) C (v := 0) dX6_ahead_90 rfl <|
    aw_goto (pc := 91) C (tgt := 137) dX6_ahead_91 rfl <|
    (aX6_ahead_j137 C v1 v3 v4 v5 v6 (X6_ahead_l55 v1 v3 v4 n) ih 0 h)) (fun _ =>
    aw_iconst (pc := 86) C (v := 1) dX6_ahead_86 rfl <|
    aw_goto (pc := 87) C (tgt := 137) dX6_ahead_87 rfl <|
    (aX6_ahead_j137 C v1 v3 v4 v5 v6 (X6_ahead_l55 v1 v3 v4 n) ih 1 h))))
def X6_ahead (v1 : Int32) (v2 : Int32) (h : AH) : Option (Int32 × AH) :=
    if v1 < 0 then (some ((h.1 5 0), h))
    else (if v1 < (h.1 5 0) then (ck v1 4 (vl (mx32 (h.1 6 v1.toNatClampNeg) v2) fun x1 =>
    ck v1 4 (ck v1 4 (vl (mx32 (h.1 7 v1.toNatClampNeg) (mn32 (h.1 6 v1.toNatClampNeg) v2)) fun x2 =>
    X6_ahead_l55 v1 x1 x2 FU 0 0 h))))
    else (some ((h.1 5 0), h)))
set_option maxRecDepth 100000 in
theorem c_X6_ahead (l : Launch) (v1 : Int32) (v2 : Int32) : MC l yX6_ahead cX6_ahead 8 (some .int) rmX6_ahead ZC [.ref 5, .int v1, .int v2] rvI (X6_ahead v1 v2) :=
  MC.of (own := RX6) (by decide +kernel) rfl (Nat.le_of_ble_eq_true rfl) fun X yd A h _ C =>
    aw_iload_n (pc := 0) C (i := 1) dX6_ahead_0 rfl rfl <|
    aw_if_lt (pc := 1) C (tgt := 12) dX6_ahead_1 rfl (fun _ =>
    aw_aload_n (pc := 12) C (i := 0) dX6_ahead_12 rfl rfl <|
    aw_getI (pc := 13) C dX6_ahead_13 fl_X6_27 sC_5 rfl <|
    aw_iret (pc := 16) C dX6_ahead_16 rfl rfl) (fun _ =>
    aw_iload_n (pc := 4) C (i := 1) dX6_ahead_4 rfl rfl <|
    aw_aload_n (pc := 5) C (i := 0) dX6_ahead_5 rfl rfl <|
    aw_getI (pc := 6) C dX6_ahead_6 fl_X6_27 sC_5 rfl <|
    aw_icmp_lt (pc := 9) C (tgt := 17) dX6_ahead_9 rfl (fun _ =>
    aw_aload_n (pc := 17) C (i := 0) dX6_ahead_17 rfl rfl <|
    aw_getR (pc := 18) C (b := 6) dX6_ahead_18 fl_X6_9 sC_5 rfl rC_5_1 <|
    aw_iload_n (pc := 21) C (i := 1) dX6_ahead_21 rfl rfl <|
    aw_iald (pc := 22) C dX6_ahead_22 sC_6 rfl <|
    aw_iload_n (pc := 23) C (i := 2) dX6_ahead_23 rfl rfl <|
    aw_mmax (pc := 24) C dX6_ahead_24 ml_X6_24 w_mmaxS w_mI w_mmaxC ⟨(Nat.le_of_ble_eq_true rfl), (Nat.le_of_ble_eq_true rfl)⟩ (Nat.zero_le _) (Nat.zero_le _) <|
    aw_istoreV_n (pc := 27) C (i := 3) (fun x1 => [(0, .ref 5), (1, .int v1), (2, .int v2), (3, .int x1)]) dX6_ahead_27 rfl (by decide) (fun _ => rfl) fun x1 =>
    aw_aload_n (pc := 28) C (i := 0) dX6_ahead_28 rfl rfl <|
    aw_getR (pc := 29) C (b := 7) dX6_ahead_29 fl_X6_15 sC_5 rfl rC_5_2 <|
    aw_iload_n (pc := 32) C (i := 1) dX6_ahead_32 rfl rfl <|
    aw_iald (pc := 33) C dX6_ahead_33 sC_7 rfl <|
    aw_aload_n (pc := 34) C (i := 0) dX6_ahead_34 rfl rfl <|
    aw_getR (pc := 35) C (b := 6) dX6_ahead_35 fl_X6_9 sC_5 rfl rC_5_1 <|
    aw_iload_n (pc := 38) C (i := 1) dX6_ahead_38 rfl rfl <|
    aw_iald (pc := 39) C dX6_ahead_39 sC_6 rfl <|
    aw_iload_n (pc := 40) C (i := 2) dX6_ahead_40 rfl rfl <|
    aw_mmin (pc := 41) C dX6_ahead_41 ml_X6_18 w_mminS w_mI w_mminC ⟨(Nat.le_of_ble_eq_true rfl), (Nat.le_of_ble_eq_true rfl)⟩ (Nat.zero_le _) (Nat.zero_le _) <|
    aw_mmax (pc := 44) C dX6_ahead_44 ml_X6_24 w_mmaxS w_mI w_mmaxC ⟨(Nat.le_of_ble_eq_true rfl), (Nat.le_of_ble_eq_true rfl)⟩ (Nat.zero_le _) (Nat.zero_le _) <|
    aw_istoreV (pc := 47) C (i := 4) (fun x2 => [(0, .ref 5), (1, .int v1), (2, .int v2), (3, .int x1), (4, .int x2)]) dX6_ahead_47 (by decide) (fun _ => rfl) fun x2 =>
    aw_iconst (pc := 49) C (v := 0) dX6_ahead_49 rfl <|
    aw_istore (pc := 50) C (i := 5) (lv' := [(0, .ref 5), (1, .int v1), (2, .int v2), (3, .int x1), (4, .int x2), (5, .int 0)]) dX6_ahead_50 (by decide) rfl <|
    aw_iconst (pc := 52) C (v := 0) dX6_ahead_52 rfl <|
    aw_istore (pc := 53) C (i := 6) (lv' := [(0, .ref 5), (1, .int v1), (2, .int v2), (3, .int x1), (4, .int x2), (5, .int 0), (6, .int 0)]) dX6_ahead_53 (by decide) rfl <|
    aw_drop [0, 1, 3, 4, 5, 6] (aX6_ahead_l55 C v1 x1 x2 FU 0 0 h)) (fun _ =>
    aw_aload_n (pc := 12) C (i := 0) dX6_ahead_12 rfl rfl <|
    aw_getI (pc := 13) C dX6_ahead_13 fl_X6_27 sC_5 rfl <|
    aw_iret (pc := 16) C dX6_ahead_16 rfl rfl))

abbrev rmX6_at : Room := { frames := 2, cells := 0, slots := 0, locals := 72 }
def X6_at_l2  (v1 : Int32) : Nat → Int32 → AH → Option (Int32 × AH)
  | 0, _, _ => none
  | n + 1, v2, h =>
    if (h.1 5 0) ≤ v2 then (some (0, h))
    else (bd (X6_ahead v2 0 h) fun r1 h2 =>
    if r1 = v1 then (some (v2, h2))
    else (vl (v2 + 1) fun x3 =>
    (X6_at_l2 v1 n) x3 h2))
set_option maxRecDepth 100000 in
theorem aX6_at_l2 {X : MCx} {yd : Dyn} {A : Nat → Prop} (C : OK X cX6_at RX6 3 (some .int) rmX6_at A)  (v1 : Int32) : ∀ (n : Nat) (v2 : Int32) (h : AH), AW X 3 ZC yd A 0 0 (QF X rmX6_at ZC yd rvI A) 2 [(0, .ref 5), (1, .int v1), (2, .int v2)] [] h (X6_at_l2 v1 n v2 h) := by
  intro n
  induction n with
  | zero => intro v2 h; exact aw_none
  | succ n ih =>
    intro v2 h
    exact aw_iload_n (pc := 2) C (i := 2) dX6_at_2 rfl rfl <|
    aw_aload_n (pc := 3) C (i := 0) dX6_at_3 rfl rfl <|
    aw_getI (pc := 4) C dX6_at_4 fl_X6_27 sC_5 rfl <|
    aw_icmp_ge (pc := 7) C (tgt := 28) dX6_at_7 rfl (fun _ =>
    aw_iconst (pc := 28) C (v := 0) dX6_at_28 rfl <|
    aw_iret (pc := 29) C dX6_at_29 rfl rfl) (fun _ =>
    aw_aload_n (pc := 10) C (i := 0) dX6_at_10 rfl rfl <|
    aw_iload_n (pc := 11) C (i := 2) dX6_at_11 rfl rfl <|
    aw_iconst (pc := 12) C (v := 0) dX6_at_12 rfl <|
    aw_callF (pc := 13) C (cr_V (rest := []) (F := (X6_ahead v2 0)) C (c_X6_ahead X.2.1 v2 0) dX6_at_13 mf_X6_ahead ml_X6_37 im_X6_ahead se_X6_ahead sC_5 rfl ⟨(Nat.le_of_ble_eq_true rfl), (Nat.le_of_ble_eq_true rfl)⟩ rfl rfl (Nat.le_of_ble_eq_true rfl)) rfl rfl rfl (Nat.zero_le _) (Nat.zero_le _) fun r1 h2 =>
    aw_iload_n (pc := 16) C (i := 1) dX6_at_16 rfl rfl <|
    aw_icmp_ne (pc := 17) C (tgt := 22) dX6_at_17 rfl (fun _ =>
    aw_iload_n (pc := 20) C (i := 2) dX6_at_20 rfl rfl <|
    aw_iret (pc := 21) C dX6_at_21 rfl rfl) (fun _ =>
    aw_iincV (pc := 22) C (i := 2) (cst := 1) (fun x3 => [(0, .ref 5), (1, .int v1), (2, .int x3)]) dX6_at_22 rfl rfl (by decide) (fun _ => rfl) fun x3 =>
    aw_goto (pc := 25) C (tgt := 2) dX6_at_25 rfl <|
    (ih x3 h2)))
def X6_at (v1 : Int32) (h : AH) : Option (Int32 × AH) :=
    X6_at_l2 v1 FU 0 h
set_option maxRecDepth 100000 in
theorem c_X6_at (l : Launch) (v1 : Int32) : MC l yX6_at cX6_at 3 (some .int) rmX6_at ZC [.ref 5, .int v1] rvI (X6_at v1) :=
  MC.of (own := RX6) (by decide +kernel) rfl (Nat.le_of_ble_eq_true rfl) fun X yd A h _ C =>
    aw_iconst (pc := 0) C (v := 0) dX6_at_0 rfl <|
    aw_istore_n (pc := 1) C (i := 2) (lv' := [(0, .ref 5), (1, .int v1), (2, .int 0)]) dX6_at_1 rfl (by decide) rfl <|
    (aX6_at_l2 C v1 FU 0 h)

abbrev rmX5_inTurn : Room := { frames := 3, cells := 0, slots := 0, locals := 94 }
def X5_inTurn (o : Nat) (h : AH) : Option (Int32 × AH) :=
    bd (X5_finalists o h) fun r1 h2 =>
    bd (X5_round o h2) fun r3 h4 =>
    if r3 = 6 then (some ((-9), h4))
    else (if (h4.1 o 3) ≤ 0 then (some ((-9), h4))
    else (if 0 < r1 then (if (3 * (h4.1 o 3)) ≤ (h4.1 o 4) then (bd (X5_rank o 0 (3 * (h4.1 o 3)) h4) fun _ h6 =>
    if r1 = 0 then none else (bd (X6_at ((r1 - 1) - (rm32 ((h6.1 o 4) - (3 * (h6.1 o 3))) r1)) h6) fun r7 h8 =>
    some (r7, h8)))
    else (if (h4.1 o 3) = 0 then none else (some ((rm32 (h4.1 o 4) (h4.1 o 3)), h4))))
    else (some ((-9), h4))))
set_option maxRecDepth 100000 in
theorem c_X5_inTurn (l : Launch) (o : Nat) (hM0 : MT o) : MC l yX5_inTurn cX5_inTurn 3 (some .int) rmX5_inTurn ZC [.ref o, .ref 5] rvI (X5_inTurn o) :=
  MC.of (own := RX5) (by decide +kernel) rfl (Nat.le_of_ble_eq_true rfl) fun X yd A h _ C =>
    aw_aload_n (pc := 0) C (i := 0) dX5_inTurn_0 rfl rfl <|
    aw_callF (pc := 1) C (cr_V (rest := []) (F := (X5_finalists o)) C (c_X5_finalists X.2.1 o hM0) dX5_inTurn_1 mf_X5_finalists ml_X5_59 im_X5_finalists se_X5_finalists (mt_s hM0) rfl ⟨(Nat.le_of_ble_eq_true rfl), (Nat.le_of_ble_eq_true rfl)⟩ rfl rfl (Nat.le_of_ble_eq_true rfl)) rfl rfl rfl (Nat.zero_le _) (Nat.zero_le _) fun r1 h2 =>
    aw_istore_n (pc := 4) C (i := 2) (lv' := [(0, .ref o), (1, .ref 5), (2, .int r1)]) dX5_inTurn_4 rfl (by decide) rfl <|
    aw_aload_n (pc := 5) C (i := 0) dX5_inTurn_5 rfl rfl <|
    aw_callF (pc := 6) C (cr_V (rest := []) (F := (X5_round o)) C (c_X5_round X.2.1 o hM0) dX5_inTurn_6 mf_X5_round ml_X5_69 im_X5_round se_X5_round (mt_s hM0) rfl ⟨(Nat.le_of_ble_eq_true rfl), (Nat.le_of_ble_eq_true rfl)⟩ rfl rfl (Nat.le_of_ble_eq_true rfl)) rfl rfl rfl (Nat.zero_le _) (Nat.zero_le _) fun r3 h4 =>
    aw_bipush (pc := 9) C (v := 6) dX5_inTurn_9 rfl <|
    aw_icmp_eq (pc := 11) C (tgt := 25) dX5_inTurn_11 rfl (fun _ =>
    aw_bipush (pc := 25) C (v := (-9)) dX5_inTurn_25 rfl <|
    aw_iret (pc := 27) C dX5_inTurn_27 rfl rfl) (fun _ =>
    aw_aload_n (pc := 14) C (i := 0) dX5_inTurn_14 rfl rfl <|
    aw_getI (pc := 15) C dX5_inTurn_15 fl_X5_43 (mt_s hM0) rfl <|
    aw_if_le (pc := 18) C (tgt := 25) dX5_inTurn_18 rfl (fun _ =>
    aw_bipush (pc := 25) C (v := (-9)) dX5_inTurn_25 rfl <|
    aw_iret (pc := 27) C dX5_inTurn_27 rfl rfl) (fun _ =>
    aw_iload_n (pc := 21) C (i := 2) dX5_inTurn_21 rfl rfl <|
    aw_if_gt (pc := 22) C (tgt := 28) dX5_inTurn_22 rfl (fun _ =>
    aw_aload_n (pc := 28) C (i := 0) dX5_inTurn_28 rfl rfl <|
    aw_getI (pc := 29) C dX5_inTurn_29 fl_X5_46 (mt_s hM0) rfl <|
    aw_iconst (pc := 32) C (v := 3) dX5_inTurn_32 rfl <|
    aw_aload_n (pc := 33) C (i := 0) dX5_inTurn_33 rfl rfl <|
    aw_getI (pc := 34) C dX5_inTurn_34 fl_X5_43 (mt_s hM0) rfl <|
    aw_imul (pc := 37) C dX5_inTurn_37 <|
    aw_icmp_ge (pc := 38) C (tgt := 51) dX5_inTurn_38 rfl (fun _ =>
    aw_aload_n (pc := 51) C (i := 0) dX5_inTurn_51 rfl rfl <|
    aw_aload_n (pc := 52) C (i := 1) dX5_inTurn_52 rfl rfl <|
    aw_iconst (pc := 53) C (v := 0) dX5_inTurn_53 rfl <|
    aw_iconst (pc := 54) C (v := 3) dX5_inTurn_54 rfl <|
    aw_aload_n (pc := 55) C (i := 0) dX5_inTurn_55 rfl rfl <|
    aw_getI (pc := 56) C dX5_inTurn_56 fl_X5_43 (mt_s hM0) rfl <|
    aw_imul (pc := 59) C dX5_inTurn_59 <|
    aw_callF (pc := 60) C (cr_V (rest := []) (F := (X5_rank o 0 (3 * (h4.1 o 3)))) C (c_X5_rank X.2.1 o hM0 0 (3 * (h4.1 o 3))) dX5_inTurn_60 mf_X5_rank ml_X5_72 im_X5_rank se_X5_rank (mt_s hM0) rfl ⟨(Nat.le_of_ble_eq_true rfl), (Nat.le_of_ble_eq_true rfl)⟩ rfl rfl (Nat.le_of_ble_eq_true rfl)) rfl rfl rfl (Nat.zero_le _) (Nat.zero_le _) fun _ h6 =>
    aw_aload_n (pc := 63) C (i := 1) dX5_inTurn_63 rfl rfl <|
    aw_iload_n (pc := 64) C (i := 2) dX5_inTurn_64 rfl rfl <|
    aw_iconst (pc := 65) C (v := 1) dX5_inTurn_65 rfl <|
    aw_isub (pc := 66) C dX5_inTurn_66 <|
    aw_aload_n (pc := 67) C (i := 0) dX5_inTurn_67 rfl rfl <|
    aw_getI (pc := 68) C dX5_inTurn_68 fl_X5_46 (mt_s hM0) rfl <|
    aw_iconst (pc := 71) C (v := 3) dX5_inTurn_71 rfl <|
    aw_aload_n (pc := 72) C (i := 0) dX5_inTurn_72 rfl rfl <|
    aw_getI (pc := 73) C dX5_inTurn_73 fl_X5_43 (mt_s hM0) rfl <|
    aw_imul (pc := 76) C dX5_inTurn_76 <|
    aw_isub (pc := 77) C dX5_inTurn_77 <|
    aw_iload_n (pc := 78) C (i := 2) dX5_inTurn_78 rfl rfl <|
    aw_irem (pc := 79) C dX5_inTurn_79 <|
    aw_isub (pc := 80) C dX5_inTurn_80 <|
    aw_callF (pc := 81) C (cr_V (rest := []) (F := (X6_at ((r1 - 1) - (rm32 ((h6.1 o 4) - (3 * (h6.1 o 3))) r1)))) C (c_X6_at X.2.1 ((r1 - 1) - (rm32 ((h6.1 o 4) - (3 * (h6.1 o 3))) r1))) dX5_inTurn_81 mf_X6_at ml_X5_76 im_X6_at se_X6_at sC_5 rfl ⟨(Nat.le_of_ble_eq_true rfl), (Nat.le_of_ble_eq_true rfl)⟩ rfl rfl (Nat.le_of_ble_eq_true rfl)) rfl rfl rfl (Nat.zero_le _) (Nat.zero_le _) fun r7 h8 =>
    aw_iret (pc := 84) C dX5_inTurn_84 rfl rfl) (fun _ =>
    aw_aload_n (pc := 41) C (i := 0) dX5_inTurn_41 rfl rfl <|
    aw_getI (pc := 42) C dX5_inTurn_42 fl_X5_46 (mt_s hM0) rfl <|
    aw_aload_n (pc := 45) C (i := 0) dX5_inTurn_45 rfl rfl <|
    aw_getI (pc := 46) C dX5_inTurn_46 fl_X5_43 (mt_s hM0) rfl <|
    aw_irem (pc := 49) C dX5_inTurn_49 <|
    aw_iret (pc := 50) C dX5_inTurn_50 rfl rfl)) (fun _ =>
    aw_bipush (pc := 25) C (v := (-9)) dX5_inTurn_25 rfl <|
    aw_iret (pc := 27) C dX5_inTurn_27 rfl rfl)))

abbrev rmX5_record : Room := { frames := 3, cells := 0, slots := 0, locals := 74 }
def X5_record_j31 (o : Nat) (v1 : Int32) (v2 : Int32) (v4 : Nat) (s0 : Int32) (h : AH) : Option (Int32 × AH) :=
    if 24 ≤ (h.1 o 4) then (some (s0, h))
    else (ck (h.1 o 4) 24 (vl (sI h (o + 2) (h.1 o 4).toNatClampNeg v1) fun h6 =>
    ck (h6.1 o 4) 24 (vl (sI h6 (o + 3) (h6.1 o 4).toNatClampNeg v2) fun h7 =>
    ck (h7.1 o 4) 24 (vl (sI h7 (o + 4) (h7.1 o 4).toNatClampNeg s0) fun h8 =>
    bd (kd (h8.2.2 v4) (X3_lengthOf v4 0 0 (h8.1 o 1) h8) (X7_lengthOf v4 0 0 (h8.1 o 1) h8) (X0_lengthOf v4 0 0 (h8.1 o 1) h8) (X7_lengthOf v4 0 0 (h8.1 o 1) h8) (X9_lengthOf v4 0 0 (h8.1 o 1) h8) (X8_lengthOf v4 0 0 (h8.1 o 1) h8)) fun r9 h10 =>
    ck (h8.1 o 4) 24 (vl (sI h10 (o + 5) (h8.1 o 4).toNatClampNeg r9) fun h11 =>
    vl (sI h11 o 4 ((h11.1 o 4) + 1)) fun h12 =>
    some (s0, h12))))))
set_option maxRecDepth 100000 in
theorem aX5_record_j31 {X : MCx} {yd : Dyn} {A : Nat → Prop} (C : OK X cX5_record RX5 6 (some .int) rmX5_record A) (o : Nat) (hM0 : MT o) (v1 : Int32) (v2 : Int32) (v4 : Nat) (hs4 : ZC.1[v4]? = some (.inr 2)) (s0 : Int32) (h : AH) : AW X 6 ZC yd A 0 0 (QF X rmX5_record ZC yd rvI A) 31 [(0, .ref o), (1, .int v1), (2, .int v2), (4, .ref v4)] [.int s0] h (X5_record_j31 o v1 v2 v4 s0 h) := by
    exact aw_istore (pc := 31) C (i := 5) (lv' := [(0, .ref o), (1, .int v1), (2, .int v2), (4, .ref v4), (5, .int s0)]) dX5_record_31 (by decide) rfl <|
    aw_aload_n (pc := 33) C (i := 0) dX5_record_33 rfl rfl <|
    aw_getI (pc := 34) C dX5_record_34 fl_X5_46 (mt_s hM0) rfl <|
    aw_bipush (pc := 37) C (v := 24) dX5_record_37 rfl <|
    aw_icmp_ge (pc := 39) C (tgt := 108) dX5_record_39 rfl (fun _ =>
    aw_iload (pc := 108) C (i := 5) dX5_record_108 rfl <|
    aw_iret (pc := 110) C dX5_record_110 rfl rfl) (fun _ =>
    aw_aload_n (pc := 42) C (i := 0) dX5_record_42 rfl rfl <|
    aw_getR (pc := 43) C (b := (o + 2)) dX5_record_43 fl_X5_24 (mt_s hM0) rfl (mt_r6 hM0) <|
    aw_aload_n (pc := 46) C (i := 0) dX5_record_46 rfl rfl <|
    aw_getI (pc := 47) C dX5_record_47 fl_X5_46 (mt_s hM0) rfl <|
    aw_iload_n (pc := 50) C (i := 1) dX5_record_50 rfl rfl <|
    aw_iast (pc := 51) C dX5_record_51 (mt_s2 hM0) rfl fun h6 =>
    aw_aload_n (pc := 52) C (i := 0) dX5_record_52 rfl rfl <|
    aw_getR (pc := 53) C (b := (o + 3)) dX5_record_53 fl_X5_28 (mt_s hM0) rfl (mt_r7 hM0) <|
    aw_aload_n (pc := 56) C (i := 0) dX5_record_56 rfl rfl <|
    aw_getI (pc := 57) C dX5_record_57 fl_X5_46 (mt_s hM0) rfl <|
    aw_iload_n (pc := 60) C (i := 2) dX5_record_60 rfl rfl <|
    aw_iast (pc := 61) C dX5_record_61 (mt_s3 hM0) rfl fun h7 =>
    aw_aload_n (pc := 62) C (i := 0) dX5_record_62 rfl rfl <|
    aw_getR (pc := 63) C (b := (o + 4)) dX5_record_63 fl_X5_31 (mt_s hM0) rfl (mt_r8 hM0) <|
    aw_aload_n (pc := 66) C (i := 0) dX5_record_66 rfl rfl <|
    aw_getI (pc := 67) C dX5_record_67 fl_X5_46 (mt_s hM0) rfl <|
    aw_iload (pc := 70) C (i := 5) dX5_record_70 rfl <|
    aw_iast (pc := 72) C dX5_record_72 (mt_s4 hM0) rfl fun h8 =>
    aw_aload_n (pc := 73) C (i := 0) dX5_record_73 rfl rfl <|
    aw_getR (pc := 74) C (b := (o + 5)) dX5_record_74 fl_X5_34 (mt_s hM0) rfl (mt_r9 hM0) <|
    aw_aload_n (pc := 77) C (i := 0) dX5_record_77 rfl rfl <|
    aw_getI (pc := 78) C dX5_record_78 fl_X5_46 (mt_s hM0) rfl <|
    aw_aload (pc := 81) C (i := 4) dX5_record_81 rfl <|
    aw_getW (pc := 83) C (b := (36 + h8.2.2 v4 % 6)) dX5_record_83 fl_X5_85 hs4 rfl rfl <|
    aw_aload (pc := 86) C (i := 4) dX5_record_86 rfl <|
    aw_iconst (pc := 88) C (v := 0) dX5_record_88 rfl <|
    aw_iconst (pc := 89) C (v := 0) dX5_record_89 rfl <|
    aw_aload_n (pc := 90) C (i := 0) dX5_record_90 rfl rfl <|
    aw_getI (pc := 91) C dX5_record_91 fl_X5_40 (mt_s hM0) rfl <|
    aw_callF (pc := 94) C (kdA_lengthOf C dX5_record_94 ml_X5_89 (h8.2.2 v4) v4 hs4 0 0 (h8.1 o 1) [.int (h8.1 o 4), .ref (o + 5)] ⟨⟨(Nat.le_of_ble_eq_true rfl), (Nat.le_of_ble_eq_true rfl)⟩, ⟨(Nat.le_of_ble_eq_true rfl), (Nat.le_of_ble_eq_true rfl)⟩, ⟨(Nat.le_of_ble_eq_true rfl), (Nat.le_of_ble_eq_true rfl)⟩, ⟨(Nat.le_of_ble_eq_true rfl), (Nat.le_of_ble_eq_true rfl)⟩, ⟨(Nat.le_of_ble_eq_true rfl), (Nat.le_of_ble_eq_true rfl)⟩, ⟨(Nat.le_of_ble_eq_true rfl), (Nat.le_of_ble_eq_true rfl)⟩⟩ (Nat.le_of_ble_eq_true rfl)) rfl rfl rfl (Nat.zero_le _) (Nat.zero_le _) fun r9 h10 =>
    aw_iast (pc := 97) C dX5_record_97 (mt_s5 hM0) rfl fun h11 =>
    aw_aload_n (pc := 98) C (i := 0) dX5_record_98 rfl rfl <|
    aw_dup (pc := 99) C dX5_record_99 rfl <|
    aw_getI (pc := 100) C dX5_record_100 fl_X5_46 (mt_s hM0) rfl <|
    aw_iconst (pc := 103) C (v := 1) dX5_record_103 rfl <|
    aw_iadd (pc := 104) C dX5_record_104 <|
    aw_putI (pc := 105) C dX5_record_105 fp_X5_46 (mt_s hM0) rfl fun h12 =>
    aw_iload (pc := 108) C (i := 5) dX5_record_108 rfl <|
    aw_iret (pc := 110) C dX5_record_110 rfl rfl)
def X5_record (o : Nat) (v1 : Int32) (v2 : Int32) (v3 : Int32) (h : AH) : Option (Int32 × AH) :=
    bd (X5_at o v1 h) fun r1 h2 =>
    cs ZC r1 (.inr 2) (if 0 ≤ v2 then (bd (kd (h2.2.2 r1) (X3_lengthOf r1 v2 v3 (h2.1 o 1) h2) (X7_lengthOf r1 v2 v3 (h2.1 o 1) h2) (X0_lengthOf r1 v2 v3 (h2.1 o 1) h2) (X7_lengthOf r1 v2 v3 (h2.1 o 1) h2) (X9_lengthOf r1 v2 v3 (h2.1 o 1) h2) (X8_lengthOf r1 v2 v3 (h2.1 o 1) h2)) fun r4 h5 =>
    X5_record_j31 o v1 v2 r1 r4 h5)
    else (X5_record_j31 o v1 v2 r1 v2 h2))
set_option maxRecDepth 100000 in
theorem c_X5_record (l : Launch) (o : Nat) (hM0 : MT o) (v1 : Int32) (v2 : Int32) (v3 : Int32) : MC l yX5_record cX5_record 6 (some .int) rmX5_record ZC [.ref o, .int v1, .int v2, .int v3] rvI (X5_record o v1 v2 v3) :=
  MC.of (own := RX5) (by decide +kernel) rfl (Nat.le_of_ble_eq_true rfl) fun X yd A h _ C =>
    aw_aload_n (pc := 0) C (i := 0) dX5_record_0 rfl rfl <|
    aw_iload_n (pc := 1) C (i := 1) dX5_record_1 rfl rfl <|
    aw_callF (pc := 2) C (cr_V (rest := []) (F := (X5_at o v1)) C (c_X5_at X.2.1 o hM0 v1) dX5_record_2 mf_X5_at ml_X5_82 im_X5_at se_X5_at (mt_s hM0) rfl ⟨(Nat.le_of_ble_eq_true rfl), (Nat.le_of_ble_eq_true rfl)⟩ rfl rfl (Nat.le_of_ble_eq_true rfl)) rfl rfl rfl (Nat.zero_le _) (Nat.zero_le _) fun r1 h2 =>
    aw_cs fun hs3 =>
    aw_astore (pc := 5) C (i := 4) (lv' := [(0, .ref o), (1, .int v1), (2, .int v2), (3, .int v3), (4, .ref r1)]) dX5_record_5 (by decide) rfl <|
    aw_iload_n (pc := 7) C (i := 2) dX5_record_7 rfl rfl <|
    aw_if_ge (pc := 8) C (tgt := 15) dX5_record_8 rfl (fun _ =>
    aw_aload (pc := 15) C (i := 4) dX5_record_15 rfl <|
    aw_getW (pc := 17) C (b := (36 + h2.2.2 r1 % 6)) dX5_record_17 fl_X5_85 hs3 rfl rfl <|
    aw_aload (pc := 20) C (i := 4) dX5_record_20 rfl <|
    aw_iload_n (pc := 22) C (i := 2) dX5_record_22 rfl rfl <|
    aw_iload_n (pc := 23) C (i := 3) dX5_record_23 rfl rfl <|
    aw_aload_n (pc := 24) C (i := 0) dX5_record_24 rfl rfl <|
    aw_getI (pc := 25) C dX5_record_25 fl_X5_40 (mt_s hM0) rfl <|
    aw_callF (pc := 28) C (kdA_lengthOf C dX5_record_28 ml_X5_89 (h2.2.2 r1) r1 hs3 v2 v3 (h2.1 o 1) [] ⟨⟨(Nat.le_of_ble_eq_true rfl), (Nat.le_of_ble_eq_true rfl)⟩, ⟨(Nat.le_of_ble_eq_true rfl), (Nat.le_of_ble_eq_true rfl)⟩, ⟨(Nat.le_of_ble_eq_true rfl), (Nat.le_of_ble_eq_true rfl)⟩, ⟨(Nat.le_of_ble_eq_true rfl), (Nat.le_of_ble_eq_true rfl)⟩, ⟨(Nat.le_of_ble_eq_true rfl), (Nat.le_of_ble_eq_true rfl)⟩, ⟨(Nat.le_of_ble_eq_true rfl), (Nat.le_of_ble_eq_true rfl)⟩⟩ (Nat.le_of_ble_eq_true rfl)) rfl rfl rfl (Nat.zero_le _) (Nat.zero_le _) fun r4 h5 =>
    aw_drop [0, 1, 2, 4] (aX5_record_j31 C o hM0 v1 v2 r1 hs3 r4 h5)) (fun _ =>
    aw_iload_n (pc := 11) C (i := 2) dX5_record_11 rfl rfl <|
    aw_goto (pc := 12) C (tgt := 31) dX5_record_12 rfl <|
    aw_drop [0, 1, 2, 4] (aX5_record_j31 C o hM0 v1 v2 r1 hs3 v2 h2))

abbrev rmX5_leader : Room := { frames := 3, cells := 0, slots := 0, locals := 94 }
def X5_leader (o : Nat) (h : AH) : Option (Int32 × AH) :=
    bd (X5_rank o 0 (h.1 o 4) h) fun _ h2 =>
    if (h2.1 o 3) = 0 then (some ((-9), h2))
    else (bd (X6_at 0 h2) fun r3 h4 =>
    some (r3, h4))
set_option maxRecDepth 100000 in
theorem c_X5_leader (l : Launch) (o : Nat) (hM0 : MT o) : MC l yX5_leader cX5_leader 2 (some .int) rmX5_leader ZC [.ref o, .ref 5] rvI (X5_leader o) :=
  MC.of (own := RX5) (by decide +kernel) rfl (Nat.le_of_ble_eq_true rfl) fun X yd A h _ C =>
    aw_aload_n (pc := 0) C (i := 0) dX5_leader_0 rfl rfl <|
    aw_aload_n (pc := 1) C (i := 1) dX5_leader_1 rfl rfl <|
    aw_iconst (pc := 2) C (v := 0) dX5_leader_2 rfl <|
    aw_aload_n (pc := 3) C (i := 0) dX5_leader_3 rfl rfl <|
    aw_getI (pc := 4) C dX5_leader_4 fl_X5_46 (mt_s hM0) rfl <|
    aw_callF (pc := 7) C (cr_V (rest := []) (F := (X5_rank o 0 (h.1 o 4))) C (c_X5_rank X.2.1 o hM0 0 (h.1 o 4)) dX5_leader_7 mf_X5_rank ml_X5_72 im_X5_rank se_X5_rank (mt_s hM0) rfl ⟨(Nat.le_of_ble_eq_true rfl), (Nat.le_of_ble_eq_true rfl)⟩ rfl rfl (Nat.le_of_ble_eq_true rfl)) rfl rfl rfl (Nat.zero_le _) (Nat.zero_le _) fun _ h2 =>
    aw_aload_n (pc := 10) C (i := 0) dX5_leader_10 rfl rfl <|
    aw_getI (pc := 11) C dX5_leader_11 fl_X5_43 (mt_s hM0) rfl <|
    aw_if_ne (pc := 14) C (tgt := 22) dX5_leader_14 rfl (fun _ =>
    aw_bipush (pc := 17) C (v := (-9)) dX5_leader_17 rfl <|
    aw_goto (pc := 19) C (tgt := 27) dX5_leader_19 rfl <|
    aw_iret (pc := 27) C dX5_leader_27 rfl rfl) (fun _ =>
    aw_aload_n (pc := 22) C (i := 1) dX5_leader_22 rfl rfl <|
    aw_iconst (pc := 23) C (v := 0) dX5_leader_23 rfl <|
    aw_callF (pc := 24) C (cr_V (rest := []) (F := (X6_at 0)) C (c_X6_at X.2.1 0) dX5_leader_24 mf_X6_at ml_X5_76 im_X6_at se_X6_at sC_5 rfl ⟨(Nat.le_of_ble_eq_true rfl), (Nat.le_of_ble_eq_true rfl)⟩ rfl rfl (Nat.le_of_ble_eq_true rfl)) rfl rfl rfl (Nat.zero_le _) (Nat.zero_le _) fun r3 h4 =>
    aw_iret (pc := 27) C dX5_leader_27 rfl rfl)

abbrev rmX5_triesOf : Room := { frames := 0, cells := 0, slots := 0, locals := 0 }
def X5_triesOf_j28 (o : Nat) (v1 : Int32) (v3 : Int32) (K4 : Int32 → Int32 → AH → Option (Int32 × AH)) (s0 : Int32) (s1 : Int32) (h : AH) : Option (Int32 × AH) :=
    vl (s1 + s0) fun x1 =>
    vl (v3 + 1) fun x2 =>
    K4 x1 x2 h
set_option maxRecDepth 100000 in
theorem aX5_triesOf_j28 {X : MCx} {yd : Dyn} {A : Nat → Prop} (C : OK X cX5_triesOf RX5 4 (some .int) rmX5_triesOf A) (o : Nat) (hM0 : MT o) (v1 : Int32) (v3 : Int32) (K4 : Int32 → Int32 → AH → Option (Int32 × AH)) (hK4 : ∀ (w2 : Int32) (w3 : Int32) (h : AH), AW X 4 ZC yd A 0 0 (QF X rmX5_triesOf ZC yd rvI A) 4 [(0, .ref o), (1, .int v1), (2, .int w2), (3, .int w3)] [] h (K4 w2 w3 h)) (s0 : Int32) (s1 : Int32) (h : AH) : AW X 4 ZC yd A 0 0 (QF X rmX5_triesOf ZC yd rvI A) 28 [(0, .ref o), (1, .int v1), (3, .int v3)] [.int s0, .int s1] h (X5_triesOf_j28 o v1 v3 K4 s0 s1 h) := by
    exact aw_iadd (pc := 28) C dX5_triesOf_28 <|
    aw_istoreV_n (pc := 29) C (i := 2) (fun x1 => [(0, .ref o), (1, .int v1), (2, .int x1), (3, .int v3)]) dX5_triesOf_29 rfl (by decide) (fun _ => rfl) fun x1 =>
    aw_iincV (pc := 30) C (i := 3) (cst := 1) (fun x2 => [(0, .ref o), (1, .int v1), (2, .int x1), (3, .int x2)]) dX5_triesOf_30 rfl rfl (by decide) (fun _ => rfl) fun x2 =>
    aw_goto (pc := 33) C (tgt := 4) dX5_triesOf_33 rfl <|
    (hK4 x1 x2 h)
def X5_triesOf_l4 (o : Nat) (v1 : Int32) : Nat → Int32 → Int32 → AH → Option (Int32 × AH)
  | 0, _, _, _ => none
  | n + 1, v2, v3, h =>
    if (h.1 o 4) ≤ v3 then (some (v2, h))
    else (ck v3 24 (if (h.1 (o + 2) v3.toNatClampNeg) = v1 then (X5_triesOf_j28 o v1 v3 (X5_triesOf_l4 o v1 n) 1 v2 h)
    else (X5_triesOf_j28 o v1 v3 (X5_triesOf_l4 o v1 n) 0 v2 h)))
set_option maxRecDepth 100000 in
theorem aX5_triesOf_l4 {X : MCx} {yd : Dyn} {A : Nat → Prop} (C : OK X cX5_triesOf RX5 4 (some .int) rmX5_triesOf A) (o : Nat) (hM0 : MT o) (v1 : Int32) : ∀ (n : Nat) (v2 : Int32) (v3 : Int32) (h : AH), AW X 4 ZC yd A 0 0 (QF X rmX5_triesOf ZC yd rvI A) 4 [(0, .ref o), (1, .int v1), (2, .int v2), (3, .int v3)] [] h (X5_triesOf_l4 o v1 n v2 v3 h) := by
  intro n
  induction n with
  | zero => intro v2 v3 h; exact aw_none
  | succ n ih =>
    intro v2 v3 h
    exact aw_iload_n (pc := 4) C (i := 3) dX5_triesOf_4 rfl rfl <|
    aw_aload_n (pc := 5) C (i := 0) dX5_triesOf_5 rfl rfl <|
    aw_getI (pc := 6) C dX5_triesOf_6 fl_X5_46 (mt_s hM0) rfl <|
    aw_icmp_ge (pc := 9) C (tgt := 36) dX5_triesOf_9 rfl (fun _ =>
    aw_iload_n (pc := 36) C (i := 2) dX5_triesOf_36 rfl rfl <|
    aw_iret (pc := 37) C dX5_triesOf_37 rfl rfl) (fun _ =>
    aw_iload_n (pc := 12) C (i := 2) dX5_triesOf_12 rfl rfl <|
    aw_aload_n (pc := 13) C (i := 0) dX5_triesOf_13 rfl rfl <|
    aw_getR (pc := 14) C (b := (o + 2)) dX5_triesOf_14 fl_X5_24 (mt_s hM0) rfl (mt_r6 hM0) <|
    aw_iload_n (pc := 17) C (i := 3) dX5_triesOf_17 rfl rfl <|
    aw_iald (pc := 18) C dX5_triesOf_18 (mt_s2 hM0) rfl <|
    aw_iload_n (pc := 19) C (i := 1) dX5_triesOf_19 rfl rfl <|
    aw_icmp_ne (pc := 20) C (tgt := 27) dX5_triesOf_20 rfl (fun _ =>
    aw_iconst (pc := 23) C (v := 1) dX5_triesOf_23 rfl <|
    aw_goto (pc := 24) C (tgt := 28) dX5_triesOf_24 rfl <|
    aw_drop [0, 1, 3] (aX5_triesOf_j28 C o hM0 v1 v3 (X5_triesOf_l4 o v1 n) ih 1 v2 h)) (fun _ =>
    aw_iconst (pc := 27) C (v := 0) dX5_triesOf_27 rfl <|
    aw_drop [0, 1, 3] (aX5_triesOf_j28 C o hM0 v1 v3 (X5_triesOf_l4 o v1 n) ih 0 v2 h)))
def X5_triesOf (o : Nat) (v1 : Int32) (h : AH) : Option (Int32 × AH) :=
    X5_triesOf_l4 o v1 FU 0 0 h
set_option maxRecDepth 100000 in
theorem c_X5_triesOf (l : Launch) (o : Nat) (hM0 : MT o) (v1 : Int32) : MC l yX5_triesOf cX5_triesOf 4 (some .int) rmX5_triesOf ZC [.ref o, .int v1] rvI (X5_triesOf o v1) :=
  MC.of (own := RX5) (by decide +kernel) rfl (Nat.le_of_ble_eq_true rfl) fun X yd A h _ C =>
    aw_iconst (pc := 0) C (v := 0) dX5_triesOf_0 rfl <|
    aw_istore_n (pc := 1) C (i := 2) (lv' := [(0, .ref o), (1, .int v1), (2, .int 0)]) dX5_triesOf_1 rfl (by decide) rfl <|
    aw_iconst (pc := 2) C (v := 0) dX5_triesOf_2 rfl <|
    aw_istore_n (pc := 3) C (i := 3) (lv' := [(0, .ref o), (1, .int v1), (2, .int 0), (3, .int 0)]) dX5_triesOf_3 rfl (by decide) rfl <|
    (aX5_triesOf_l4 C o hM0 v1 FU 0 0 h)

abbrev rmX5_triesWith : Room := { frames := 0, cells := 0, slots := 0, locals := 0 }
def X5_triesWith_j28 (o : Nat) (v1 : Int32) (v3 : Int32) (K4 : Int32 → Int32 → AH → Option (Int32 × AH)) (s0 : Int32) (s1 : Int32) (h : AH) : Option (Int32 × AH) :=
    vl (s1 + s0) fun x1 =>
    vl (v3 + 1) fun x2 =>
    K4 x1 x2 h
set_option maxRecDepth 100000 in
theorem aX5_triesWith_j28 {X : MCx} {yd : Dyn} {A : Nat → Prop} (C : OK X cX5_triesWith RX5 4 (some .int) rmX5_triesWith A) (o : Nat) (hM0 : MT o) (v1 : Int32) (v3 : Int32) (K4 : Int32 → Int32 → AH → Option (Int32 × AH)) (hK4 : ∀ (w2 : Int32) (w3 : Int32) (h : AH), AW X 4 ZC yd A 0 0 (QF X rmX5_triesWith ZC yd rvI A) 4 [(0, .ref o), (1, .int v1), (2, .int w2), (3, .int w3)] [] h (K4 w2 w3 h)) (s0 : Int32) (s1 : Int32) (h : AH) : AW X 4 ZC yd A 0 0 (QF X rmX5_triesWith ZC yd rvI A) 28 [(0, .ref o), (1, .int v1), (3, .int v3)] [.int s0, .int s1] h (X5_triesWith_j28 o v1 v3 K4 s0 s1 h) := by
    exact aw_iadd (pc := 28) C dX5_triesWith_28 <|
    aw_istoreV_n (pc := 29) C (i := 2) (fun x1 => [(0, .ref o), (1, .int v1), (2, .int x1), (3, .int v3)]) dX5_triesWith_29 rfl (by decide) (fun _ => rfl) fun x1 =>
    aw_iincV (pc := 30) C (i := 3) (cst := 1) (fun x2 => [(0, .ref o), (1, .int v1), (2, .int x1), (3, .int x2)]) dX5_triesWith_30 rfl rfl (by decide) (fun _ => rfl) fun x2 =>
    aw_goto (pc := 33) C (tgt := 4) dX5_triesWith_33 rfl <|
    (hK4 x1 x2 h)
def X5_triesWith_l4 (o : Nat) (v1 : Int32) : Nat → Int32 → Int32 → AH → Option (Int32 × AH)
  | 0, _, _, _ => none
  | n + 1, v2, v3, h =>
    if (h.1 o 4) ≤ v3 then (some (v2, h))
    else (ck v3 24 (if (h.1 (o + 4) v3.toNatClampNeg) = v1 then (X5_triesWith_j28 o v1 v3 (X5_triesWith_l4 o v1 n) 1 v2 h)
    else (X5_triesWith_j28 o v1 v3 (X5_triesWith_l4 o v1 n) 0 v2 h)))
set_option maxRecDepth 100000 in
theorem aX5_triesWith_l4 {X : MCx} {yd : Dyn} {A : Nat → Prop} (C : OK X cX5_triesWith RX5 4 (some .int) rmX5_triesWith A) (o : Nat) (hM0 : MT o) (v1 : Int32) : ∀ (n : Nat) (v2 : Int32) (v3 : Int32) (h : AH), AW X 4 ZC yd A 0 0 (QF X rmX5_triesWith ZC yd rvI A) 4 [(0, .ref o), (1, .int v1), (2, .int v2), (3, .int v3)] [] h (X5_triesWith_l4 o v1 n v2 v3 h) := by
  intro n
  induction n with
  | zero => intro v2 v3 h; exact aw_none
  | succ n ih =>
    intro v2 v3 h
    exact aw_iload_n (pc := 4) C (i := 3) dX5_triesWith_4 rfl rfl <|
    aw_aload_n (pc := 5) C (i := 0) dX5_triesWith_5 rfl rfl <|
    aw_getI (pc := 6) C dX5_triesWith_6 fl_X5_46 (mt_s hM0) rfl <|
    aw_icmp_ge (pc := 9) C (tgt := 36) dX5_triesWith_9 rfl (fun _ =>
    aw_iload_n (pc := 36) C (i := 2) dX5_triesWith_36 rfl rfl <|
    aw_iret (pc := 37) C dX5_triesWith_37 rfl rfl) (fun _ =>
    aw_iload_n (pc := 12) C (i := 2) dX5_triesWith_12 rfl rfl <|
    aw_aload_n (pc := 13) C (i := 0) dX5_triesWith_13 rfl rfl <|
    aw_getR (pc := 14) C (b := (o + 4)) dX5_triesWith_14 fl_X5_31 (mt_s hM0) rfl (mt_r8 hM0) <|
    aw_iload_n (pc := 17) C (i := 3) dX5_triesWith_17 rfl rfl <|
    aw_iald (pc := 18) C dX5_triesWith_18 (mt_s4 hM0) rfl <|
    aw_iload_n (pc := 19) C (i := 1) dX5_triesWith_19 rfl rfl <|
    aw_icmp_ne (pc := 20) C (tgt := 27) dX5_triesWith_20 rfl (fun _ =>
    aw_iconst (pc := 23) C (v := 1) dX5_triesWith_23 rfl <|
    aw_goto (pc := 24) C (tgt := 28) dX5_triesWith_24 rfl <|
    aw_drop [0, 1, 3] (aX5_triesWith_j28 C o hM0 v1 v3 (X5_triesWith_l4 o v1 n) ih 1 v2 h)) (fun _ =>
    aw_iconst (pc := 27) C (v := 0) dX5_triesWith_27 rfl <|
    aw_drop [0, 1, 3] (aX5_triesWith_j28 C o hM0 v1 v3 (X5_triesWith_l4 o v1 n) ih 0 v2 h)))
def X5_triesWith (o : Nat) (v1 : Int32) (h : AH) : Option (Int32 × AH) :=
    X5_triesWith_l4 o v1 FU 0 0 h
set_option maxRecDepth 100000 in
theorem c_X5_triesWith (l : Launch) (o : Nat) (hM0 : MT o) (v1 : Int32) : MC l yX5_triesWith cX5_triesWith 4 (some .int) rmX5_triesWith ZC [.ref o, .int v1] rvI (X5_triesWith o v1) :=
  MC.of (own := RX5) (by decide +kernel) rfl (Nat.le_of_ble_eq_true rfl) fun X yd A h _ C =>
    aw_iconst (pc := 0) C (v := 0) dX5_triesWith_0 rfl <|
    aw_istore_n (pc := 1) C (i := 2) (lv' := [(0, .ref o), (1, .int v1), (2, .int 0)]) dX5_triesWith_1 rfl (by decide) rfl <|
    aw_iconst (pc := 2) C (v := 0) dX5_triesWith_2 rfl <|
    aw_istore_n (pc := 3) C (i := 3) (lv' := [(0, .ref o), (1, .int v1), (2, .int 0), (3, .int 0)]) dX5_triesWith_3 rfl (by decide) rfl <|
    (aX5_triesWith_l4 C o hM0 v1 FU 0 0 h)

abbrev rmX5_find : Room := { frames := 0, cells := 0, slots := 0, locals := 0 }
def X5_find_j36 (o : Nat) (v1 : Int32) (v2 : Int32) (v3 : Int32) (v4 : Int32) (K5 : Int32 → Int32 → AH → Option (Int32 × AH)) (h : AH) : Option (Int32 × AH) :=
    vl (v4 + 1) fun x1 =>
    K5 v3 x1 h
set_option maxRecDepth 100000 in
theorem aX5_find_j36 {X : MCx} {yd : Dyn} {A : Nat → Prop} (C : OK X cX5_find RX5 5 (some .int) rmX5_find A) (o : Nat) (hM0 : MT o) (v1 : Int32) (v2 : Int32) (v3 : Int32) (v4 : Int32) (K5 : Int32 → Int32 → AH → Option (Int32 × AH)) (hK5 : ∀ (w3 : Int32) (w4 : Int32) (h : AH), AW X 5 ZC yd A 0 0 (QF X rmX5_find ZC yd rvI A) 5 [(0, .ref o), (1, .int v1), (2, .int v2), (3, .int w3), (4, .int w4)] [] h (K5 w3 w4 h)) (h : AH) : AW X 5 ZC yd A 0 0 (QF X rmX5_find ZC yd rvI A) 36 [(0, .ref o), (1, .int v1), (2, .int v2), (3, .int v3), (4, .int v4)] [] h (X5_find_j36 o v1 v2 v3 v4 K5 h) := by
    exact aw_iincV (pc := 36) C (i := 4) (cst := 1) (fun x1 => [(0, .ref o), (1, .int v1), (2, .int v2), (3, .int v3), (4, .int x1)]) dX5_find_36 rfl rfl (by decide) (fun _ => rfl) fun x1 =>
    aw_goto (pc := 39) C (tgt := 5) dX5_find_39 rfl <|
    (hK5 v3 x1 h)
def X5_find_l5 (o : Nat) (v1 : Int32) (v2 : Int32) : Nat → Int32 → Int32 → AH → Option (Int32 × AH)
  | 0, _, _, _ => none
  | n + 1, v3, v4, h =>
    if (h.1 o 4) ≤ v4 then (some ((-1), h))
    else (ck v4 24 (if (h.1 (o + 2) v4.toNatClampNeg) = v1 then (if v3 = v2 then (some (v4, h))
    else (vl (v3 + 1) fun x2 =>
    X5_find_j36 o v1 v2 x2 v4 (X5_find_l5 o v1 v2 n) h))
    else (X5_find_j36 o v1 v2 v3 v4 (X5_find_l5 o v1 v2 n) h)))
set_option maxRecDepth 100000 in
theorem aX5_find_l5 {X : MCx} {yd : Dyn} {A : Nat → Prop} (C : OK X cX5_find RX5 5 (some .int) rmX5_find A) (o : Nat) (hM0 : MT o) (v1 : Int32) (v2 : Int32) : ∀ (n : Nat) (v3 : Int32) (v4 : Int32) (h : AH), AW X 5 ZC yd A 0 0 (QF X rmX5_find ZC yd rvI A) 5 [(0, .ref o), (1, .int v1), (2, .int v2), (3, .int v3), (4, .int v4)] [] h (X5_find_l5 o v1 v2 n v3 v4 h) := by
  intro n
  induction n with
  | zero => intro v3 v4 h; exact aw_none
  | succ n ih =>
    intro v3 v4 h
    exact aw_iload (pc := 5) C (i := 4) dX5_find_5 rfl <|
    aw_aload_n (pc := 7) C (i := 0) dX5_find_7 rfl rfl <|
    aw_getI (pc := 8) C dX5_find_8 fl_X5_46 (mt_s hM0) rfl <|
    aw_icmp_ge (pc := 11) C (tgt := 42) dX5_find_11 rfl (fun _ =>
    aw_iconst (pc := 42) C (v := (-1)) dX5_find_42 rfl <|
    aw_iret (pc := 43) C dX5_find_43 rfl rfl) (fun _ =>
    aw_aload_n (pc := 14) C (i := 0) dX5_find_14 rfl rfl <|
    aw_getR (pc := 15) C (b := (o + 2)) dX5_find_15 fl_X5_24 (mt_s hM0) rfl (mt_r6 hM0) <|
    aw_iload (pc := 18) C (i := 4) dX5_find_18 rfl <|
    aw_iald (pc := 20) C dX5_find_20 (mt_s2 hM0) rfl <|
    aw_iload_n (pc := 21) C (i := 1) dX5_find_21 rfl rfl <|
    aw_icmp_ne (pc := 22) C (tgt := 36) dX5_find_22 rfl (fun _ =>
    aw_iload_n (pc := 25) C (i := 3) dX5_find_25 rfl rfl <|
    aw_iload_n (pc := 26) C (i := 2) dX5_find_26 rfl rfl <|
    aw_icmp_ne (pc := 27) C (tgt := 33) dX5_find_27 rfl (fun _ =>
    aw_iload (pc := 30) C (i := 4) dX5_find_30 rfl <|
    aw_iret (pc := 32) C dX5_find_32 rfl rfl) (fun _ =>
    aw_iincV (pc := 33) C (i := 3) (cst := 1) (fun x2 => [(0, .ref o), (1, .int v1), (2, .int v2), (3, .int x2), (4, .int v4)]) dX5_find_33 rfl rfl (by decide) (fun _ => rfl) fun x2 =>
    (aX5_find_j36 C o hM0 v1 v2 x2 v4 (X5_find_l5 o v1 v2 n) ih h))) (fun _ =>
    (aX5_find_j36 C o hM0 v1 v2 v3 v4 (X5_find_l5 o v1 v2 n) ih h)))
def X5_find (o : Nat) (v1 : Int32) (v2 : Int32) (h : AH) : Option (Int32 × AH) :=
    X5_find_l5 o v1 v2 FU 0 0 h
set_option maxRecDepth 100000 in
theorem c_X5_find (l : Launch) (o : Nat) (hM0 : MT o) (v1 : Int32) (v2 : Int32) : MC l yX5_find cX5_find 5 (some .int) rmX5_find ZC [.ref o, .int v1, .int v2] rvI (X5_find o v1 v2) :=
  MC.of (own := RX5) (by decide +kernel) rfl (Nat.le_of_ble_eq_true rfl) fun X yd A h _ C =>
    aw_iconst (pc := 0) C (v := 0) dX5_find_0 rfl <|
    aw_istore_n (pc := 1) C (i := 3) (lv' := [(0, .ref o), (1, .int v1), (2, .int v2), (3, .int 0)]) dX5_find_1 rfl (by decide) rfl <|
    aw_iconst (pc := 2) C (v := 0) dX5_find_2 rfl <|
    aw_istore (pc := 3) C (i := 4) (lv' := [(0, .ref o), (1, .int v1), (2, .int v2), (3, .int 0), (4, .int 0)]) dX5_find_3 (by decide) rfl <|
    (aX5_find_l5 C o hM0 v1 v2 FU 0 0 h)

abbrev rmX6_longest : Room := { frames := 0, cells := 0, slots := 0, locals := 0 }
def X6_longest_j9  (h : AH) : Option (Int32 × AH) :=
    some (0, h)
set_option maxRecDepth 100000 in
theorem aX6_longest_j9 {X : MCx} {yd : Dyn} {A : Nat → Prop} (C : OK X cX6_longest RX6 2 (some .int) rmX6_longest A)  (h : AH) : AW X 2 ZC yd A 0 0 (QF X rmX6_longest ZC yd rvI A) 9 [] [] h (X6_longest_j9 h) := by
    exact aw_iconst (pc := 9) C (v := 0) dX6_longest_9 rfl <|
    aw_goto (pc := 10) C (tgt := 19) dX6_longest_10 rfl <|
    aw_iret (pc := 19) C dX6_longest_19 rfl rfl
def X6_longest (v1 : Int32) (h : AH) : Option (Int32 × AH) :=
    if v1 < 0 then (X6_longest_j9 h)
    else (if v1 < 4 then (ck v1 4 (some ((h.1 6 v1.toNatClampNeg), h)))
    else (X6_longest_j9 h))
set_option maxRecDepth 100000 in
theorem c_X6_longest (l : Launch) (v1 : Int32) : MC l yX6_longest cX6_longest 2 (some .int) rmX6_longest ZC [.ref 5, .int v1] rvI (X6_longest v1) :=
  MC.of (own := RX6) (by decide +kernel) rfl (Nat.le_of_ble_eq_true rfl) fun X yd A h _ C =>
    aw_iload_n (pc := 0) C (i := 1) dX6_longest_0 rfl rfl <|
    aw_if_lt (pc := 1) C (tgt := 9) dX6_longest_1 rfl (fun _ =>
    aw_drop [] (aX6_longest_j9 C h)) (fun _ =>
    aw_iload_n (pc := 4) C (i := 1) dX6_longest_4 rfl rfl <|
    aw_iconst (pc := 5) C (v := 4) dX6_longest_5 rfl <|
    aw_icmp_lt (pc := 6) C (tgt := 13) dX6_longest_6 rfl (fun _ =>
    aw_aload_n (pc := 13) C (i := 0) dX6_longest_13 rfl rfl <|
    aw_getR (pc := 14) C (b := 6) dX6_longest_14 fl_X6_9 sC_5 rfl rC_5_1 <|
    aw_iload_n (pc := 17) C (i := 1) dX6_longest_17 rfl rfl <|
    aw_iald (pc := 18) C dX6_longest_18 sC_6 rfl <|
    aw_iret (pc := 19) C dX6_longest_19 rfl rfl) (fun _ =>
    aw_drop [] (aX6_longest_j9 C h)))
