abbrev rmX11_finalists : Room := { frames := 0, cells := 0, slots := 0, locals := 0 }
def X11_finalists  (h : AH) : Option (Int32 × AH) :=
    if (h.1 0 15) ≤ (h.1 0 13) then (some ((h.1 0 15), h))
    else (some ((h.1 0 13), h))
set_option maxRecDepth 100000 in
theorem c_X11_finalists (l : Launch)  : MC l yX11_finalists cX11_finalists 1 (some .int) rmX11_finalists ZR [.ref 0] rvI (X11_finalists) :=
  MC.of (own := RX11) (by decide +kernel) rfl (Nat.le_of_ble_eq_true rfl) fun X yd A h _ C =>
    aw_aload_n (pc := 0) C (i := 0) dX11_finalists_0 rfl rfl <|
    aw_getI (pc := 1) C dX11_finalists_1 fl_X11_99 sR_0 rfl <|
    aw_aload_n (pc := 4) C (i := 0) dX11_finalists_4 rfl rfl <|
    aw_getI (pc := 5) C dX11_finalists_5 fl_X11_105 sR_0 rfl <|
    aw_icmp_ge (pc := 8) C (tgt := 18) dX11_finalists_8 rfl (fun _ =>
    aw_aload_n (pc := 18) C (i := 0) dX11_finalists_18 rfl rfl <|
    aw_getI (pc := 19) C dX11_finalists_19 fl_X11_105 sR_0 rfl <|
    aw_iret (pc := 22) C dX11_finalists_22 rfl rfl) (fun _ =>
    aw_aload_n (pc := 11) C (i := 0) dX11_finalists_11 rfl rfl <|
    aw_getI (pc := 12) C dX11_finalists_12 fl_X11_99 sR_0 rfl <|
    aw_goto (pc := 15) C (tgt := 22) dX11_finalists_15 rfl <|
    aw_iret (pc := 22) C dX11_finalists_22 rfl rfl)

abbrev rmX11_lengthOf : Room := { frames := 1, cells := 0, slots := 0, locals := 20 }
def X11_lengthOf (v1 : Int32) (v2 : Int32) (v3 : Int32) (h : AH) : Option (Int32 × AH) :=
    ck v1 4 (ck v1 4 (bd (X11_atLeast0 (((((4 * (h.1 7 v1.toNatClampNeg)) + (2 * (h.1 0 14))) + (h.1 3 v1.toNatClampNeg)) - v2) - (2 * v3)) h) fun r1 h2 =>
    bd (X11_atLeast0 (r1 - 3) h2) fun r3 h4 =>
    ck v1 4 (vl (h4.1 2 v1.toNatClampNeg) fun y5 =>
    if y5 = 1 then (some (r3, h4))
    else if y5 = 2 then (some ((r1 + 3), h4))
    else if y5 = 3 then (some (r3, h4))
    else if y5 = 4 then (bd (X11_atLeast0 ((r1 + 3) + (h4.1 0 14)) h4) fun r9 h10 =>
    some (r9, h10))
    else if y5 = 5 then (some ((r3 + 1), h4))
    else (some (r1, h4)))))
set_option maxRecDepth 100000 in
theorem c_X11_lengthOf (l : Launch) (v1 : Int32) (v2 : Int32) (v3 : Int32) : MC l yX11_lengthOf cX11_lengthOf 6 (some .int) rmX11_lengthOf ZR [.ref 0, .int v1, .int v2, .int v3] rvI (X11_lengthOf v1 v2 v3) :=
  MC.of (own := RX11) (by decide +kernel) rfl (Nat.le_of_ble_eq_true rfl) fun X yd A h _ C =>
    aw_iconst (pc := 0) C (v := 4) dX11_lengthOf_0 rfl <|
    aw_aload_n (pc := 1) C (i := 0) dX11_lengthOf_1 rfl rfl <|
    aw_getR (pc := 2) C (b := 7) dX11_lengthOf_2 fl_X11_28 sR_0 rfl rR_0_6 <|
    aw_iload_n (pc := 5) C (i := 1) dX11_lengthOf_5 rfl rfl <|
    aw_iald (pc := 6) C dX11_lengthOf_6 sR_7 rfl <|
    aw_imul (pc := 7) C dX11_lengthOf_7 <|
    aw_iconst (pc := 8) C (v := 2) dX11_lengthOf_8 rfl <|
    aw_aload_n (pc := 9) C (i := 0) dX11_lengthOf_9 rfl rfl <|
    aw_getI (pc := 10) C dX11_lengthOf_10 fl_X11_157 sR_0 rfl <|
    aw_imul (pc := 13) C dX11_lengthOf_13 <|
    aw_iadd (pc := 14) C dX11_lengthOf_14 <|
    aw_aload_n (pc := 15) C (i := 0) dX11_lengthOf_15 rfl rfl <|
    aw_getR (pc := 16) C (b := 3) dX11_lengthOf_16 fl_X11_16 sR_0 rfl rR_0_2 <|
    aw_iload_n (pc := 19) C (i := 1) dX11_lengthOf_19 rfl rfl <|
    aw_iald (pc := 20) C dX11_lengthOf_20 sR_3 rfl <|
    aw_iadd (pc := 21) C dX11_lengthOf_21 <|
    aw_iload_n (pc := 22) C (i := 2) dX11_lengthOf_22 rfl rfl <|
    aw_isub (pc := 23) C dX11_lengthOf_23 <|
    aw_iconst (pc := 24) C (v := 2) dX11_lengthOf_24 rfl <|
    aw_iload_n (pc := 25) C (i := 3) dX11_lengthOf_25 rfl rfl <|
    aw_imul (pc := 26) C dX11_lengthOf_26 <|
    aw_isub (pc := 27) C dX11_lengthOf_27 <|
    aw_callF (pc := 28) C (cr_S (rest := []) (F := (X11_atLeast0 (((((4 * (h.1 7 v1.toNatClampNeg)) + (2 * (h.1 0 14))) + (h.1 3 v1.toNatClampNeg)) - v2) - (2 * v3)))) C (c_X11_atLeast0 X.2.1 (((((4 * (h.1 7 v1.toNatClampNeg)) + (2 * (h.1 0 14))) + (h.1 3 v1.toNatClampNeg)) - v2) - (2 * v3))) dX11_lengthOf_28 mf_X11_atLeast0 ml_X11_204 st_X11_atLeast0 ⟨(Nat.le_of_ble_eq_true rfl), (Nat.le_of_ble_eq_true rfl)⟩ rfl rfl (Nat.le_of_ble_eq_true rfl)) rfl rfl rfl (Nat.zero_le _) (Nat.zero_le _) fun r1 h2 =>
    aw_istore (pc := 31) C (i := 4) (lv' := [(0, .ref 0), (1, .int v1), (2, .int v2), (3, .int v3), (4, .int r1)]) dX11_lengthOf_31 (by decide) rfl <|
    aw_iload (pc := 33) C (i := 4) dX11_lengthOf_33 rfl <|
    aw_iconst (pc := 35) C (v := 3) dX11_lengthOf_35 rfl <|
    aw_isub (pc := 36) C dX11_lengthOf_36 <|
    aw_callF (pc := 37) C (cr_S (rest := []) (F := (X11_atLeast0 (r1 - 3))) C (c_X11_atLeast0 X.2.1 (r1 - 3)) dX11_lengthOf_37 mf_X11_atLeast0 ml_X11_204 st_X11_atLeast0 ⟨(Nat.le_of_ble_eq_true rfl), (Nat.le_of_ble_eq_true rfl)⟩ rfl rfl (Nat.le_of_ble_eq_true rfl)) rfl rfl rfl (Nat.zero_le _) (Nat.zero_le _) fun r3 h4 =>
    aw_istore (pc := 40) C (i := 5) (lv' := [(0, .ref 0), (1, .int v1), (2, .int v2), (3, .int v3), (4, .int r1), (5, .int r3)]) dX11_lengthOf_40 (by decide) rfl <|
    aw_aload_n (pc := 42) C (i := 0) dX11_lengthOf_42 rfl rfl <|
    aw_getR (pc := 43) C (b := 2) dX11_lengthOf_43 fl_X11_13 sR_0 rfl rR_0_1 <|
    aw_iload_n (pc := 46) C (i := 1) dX11_lengthOf_46 rfl rfl <|
    aw_iald (pc := 47) C dX11_lengthOf_47 sR_2 rfl <|
    aw_vlI fun y5 =>
    aw_if (fun c6 => aw_tswA (pc := 48) C (off := 36) (tg := 84) 1 dX11_lengthOf_48 (by rw [c6]; rfl) (by decide) (by decide) rfl rfl (aw_iload (pc := 84) C (i := 5) dX11_lengthOf_84 rfl <|
    aw_iret (pc := 86) C dX11_lengthOf_86 rfl rfl)) (fun c6 =>
    aw_if (fun c7 => aw_tswA (pc := 48) C (off := 39) (tg := 87) 2 dX11_lengthOf_48 (by rw [c7]; rfl) (by decide) (by decide) rfl rfl (aw_iload (pc := 87) C (i := 4) dX11_lengthOf_87 rfl <|
    aw_iconst (pc := 89) C (v := 3) dX11_lengthOf_89 rfl <|
    aw_iadd (pc := 90) C dX11_lengthOf_90 <|
    aw_iret (pc := 91) C dX11_lengthOf_91 rfl rfl)) (fun c7 =>
    aw_if (fun c8 => aw_tswA (pc := 48) C (off := 36) (tg := 84) 3 dX11_lengthOf_48 (by rw [c8]; rfl) (by decide) (by decide) rfl rfl (aw_iload (pc := 84) C (i := 5) dX11_lengthOf_84 rfl <|
    aw_iret (pc := 86) C dX11_lengthOf_86 rfl rfl)) (fun c8 =>
    aw_if (fun c11 => aw_tswA (pc := 48) C (off := 44) (tg := 92) 4 dX11_lengthOf_48 (by rw [c11]; rfl) (by decide) (by decide) rfl rfl (aw_iload (pc := 92) C (i := 4) dX11_lengthOf_92 rfl <|
    aw_iconst (pc := 94) C (v := 3) dX11_lengthOf_94 rfl <|
    aw_iadd (pc := 95) C dX11_lengthOf_95 <|
    aw_aload_n (pc := 96) C (i := 0) dX11_lengthOf_96 rfl rfl <|
    aw_getI (pc := 97) C dX11_lengthOf_97 fl_X11_157 sR_0 rfl <|
    aw_iadd (pc := 100) C dX11_lengthOf_100 <|
    aw_callF (pc := 101) C (cr_S (rest := []) (F := (X11_atLeast0 ((r1 + 3) + (h4.1 0 14)))) C (c_X11_atLeast0 X.2.1 ((r1 + 3) + (h4.1 0 14))) dX11_lengthOf_101 mf_X11_atLeast0 ml_X11_204 st_X11_atLeast0 ⟨(Nat.le_of_ble_eq_true rfl), (Nat.le_of_ble_eq_true rfl)⟩ rfl rfl (Nat.le_of_ble_eq_true rfl)) rfl rfl rfl (Nat.zero_le _) (Nat.zero_le _) fun r9 h10 =>
    aw_iret (pc := 104) C dX11_lengthOf_104 rfl rfl)) (fun c11 =>
    aw_if (fun c12 => aw_tswA (pc := 48) C (off := 57) (tg := 105) 5 dX11_lengthOf_48 (by rw [c12]; rfl) (by decide) (by decide) rfl rfl (aw_iload (pc := 105) C (i := 5) dX11_lengthOf_105 rfl <|
    aw_iconst (pc := 107) C (v := 1) dX11_lengthOf_107 rfl <|
    aw_iadd (pc := 108) C dX11_lengthOf_108 <|
    aw_iret (pc := 109) C dX11_lengthOf_109 rfl rfl)) (fun c12 =>
    aw_tswD (pc := 48) C (N := 5) (td := 110) [1, 2, 3, 4, 5] dX11_lengthOf_48 (List.forall_mem_cons.mpr ⟨ti_ne c6 rfl, List.forall_mem_cons.mpr ⟨ti_ne c7 rfl, List.forall_mem_cons.mpr ⟨ti_ne c8 rfl, List.forall_mem_cons.mpr ⟨ti_ne c11 rfl, List.forall_mem_cons.mpr ⟨ti_ne c12 rfl, fun _ hz => by cases hz⟩⟩⟩⟩⟩) rfl (by decide) rfl (aw_iload (pc := 110) C (i := 4) dX11_lengthOf_110 rfl <|
    aw_iret (pc := 112) C dX11_lengthOf_112 rfl rfl))))))

abbrev rmX11_triedAs : Room := { frames := 2, cells := 0, slots := 0, locals := 45 }
def X11_triedAs (v1 : Int32) (v2 : Int32) (h : AH) : Option (Int32 × AH) :=
    ck v1 24 (if (h.1 11 v1.toNatClampNeg) = (-9) then (if v2 = 2 then (ck v1 24 (bd (X11_lengthOf (h.1 10 v1.toNatClampNeg) 0 0 h) fun r1 h2 =>
    some (r1, h2)))
    else (some (0, h)))
    else (ck v1 24 (if (h.1 11 v1.toNatClampNeg) = (-8) then (some (0, h))
    else (ck v1 24 (if v2 = 1 then (ck v1 24 (some (((h.1 11 v1.toNatClampNeg) + (h.1 12 v1.toNatClampNeg)), h)))
    else (some (((h.1 11 v1.toNatClampNeg) + 0), h)))))))
set_option maxRecDepth 100000 in
theorem c_X11_triedAs (l : Launch) (v1 : Int32) (v2 : Int32) : MC l yX11_triedAs cX11_triedAs 3 (some .int) rmX11_triedAs ZR [.ref 0, .int v1, .int v2] rvI (X11_triedAs v1 v2) :=
  MC.of (own := RX11) (by decide +kernel) rfl (Nat.le_of_ble_eq_true rfl) fun X yd A h _ C =>
    aw_aload_n (pc := 0) C (i := 0) dX11_triedAs_0 rfl rfl <|
    aw_getR (pc := 1) C (b := 11) dX11_triedAs_1 fl_X11_40 sR_0 rfl rR_0_10 <|
    aw_iload_n (pc := 4) C (i := 1) dX11_triedAs_4 rfl rfl <|
    aw_iald (pc := 5) C dX11_triedAs_5 sR_11 rfl <|
    aw_bipush (pc := 6) C (v := (-9)) dX11_triedAs_6 rfl <|
    aw_icmp_ne (pc := 8) C (tgt := 33) dX11_triedAs_8 rfl (fun _ =>
    aw_iload_n (pc := 11) C (i := 2) dX11_triedAs_11 rfl rfl <|
    aw_iconst (pc := 12) C (v := 2) dX11_triedAs_12 rfl <|
    aw_icmp_ne (pc := 13) C (tgt := 31) dX11_triedAs_13 rfl (fun _ =>
    aw_aload_n (pc := 16) C (i := 0) dX11_triedAs_16 rfl rfl <|
    aw_aload_n (pc := 17) C (i := 0) dX11_triedAs_17 rfl rfl <|
    aw_getR (pc := 18) C (b := 10) dX11_triedAs_18 fl_X11_37 sR_0 rfl rR_0_9 <|
    aw_iload_n (pc := 21) C (i := 1) dX11_triedAs_21 rfl rfl <|
    aw_iald (pc := 22) C dX11_triedAs_22 sR_10 rfl <|
    aw_iconst (pc := 23) C (v := 0) dX11_triedAs_23 rfl <|
    aw_iconst (pc := 24) C (v := 0) dX11_triedAs_24 rfl <|
    aw_callF (pc := 25) C (cr_V (rest := []) (F := (X11_lengthOf (h.1 10 v1.toNatClampNeg) 0 0)) C (c_X11_lengthOf X.2.1 (h.1 10 v1.toNatClampNeg) 0 0) dX11_triedAs_25 mf_X11_lengthOf ml_X11_163 im_X11_lengthOf se_X11_lengthOf sR_0 rfl ⟨(Nat.le_of_ble_eq_true rfl), (Nat.le_of_ble_eq_true rfl)⟩ rfl rfl (Nat.le_of_ble_eq_true rfl)) rfl rfl rfl (Nat.zero_le _) (Nat.zero_le _) fun r1 h2 =>
    aw_goto (pc := 28) C (tgt := 32) dX11_triedAs_28 rfl <|
    aw_iret (pc := 32) C dX11_triedAs_32 rfl rfl) (fun _ =>
    aw_iconst (pc := 31) C (v := 0) dX11_triedAs_31 rfl <|
    aw_iret (pc := 32) C dX11_triedAs_32 rfl rfl)) (fun _ =>
    aw_aload_n (pc := 33) C (i := 0) dX11_triedAs_33 rfl rfl <|
    aw_getR (pc := 34) C (b := 11) dX11_triedAs_34 fl_X11_40 sR_0 rfl rR_0_10 <|
    aw_iload_n (pc := 37) C (i := 1) dX11_triedAs_37 rfl rfl <|
    aw_iald (pc := 38) C dX11_triedAs_38 sR_11 rfl <|
    aw_bipush (pc := 39) C (v := (-8)) dX11_triedAs_39 rfl <|
    aw_icmp_ne (pc := 41) C (tgt := 46) dX11_triedAs_41 rfl (fun _ =>
    aw_iconst (pc := 44) C (v := 0) dX11_triedAs_44 rfl <|
    aw_iret (pc := 45) C dX11_triedAs_45 rfl rfl) (fun _ =>
    aw_aload_n (pc := 46) C (i := 0) dX11_triedAs_46 rfl rfl <|
    aw_getR (pc := 47) C (b := 11) dX11_triedAs_47 fl_X11_40 sR_0 rfl rR_0_10 <|
    aw_iload_n (pc := 50) C (i := 1) dX11_triedAs_50 rfl rfl <|
    aw_iald (pc := 51) C dX11_triedAs_51 sR_11 rfl <|
    aw_iload_n (pc := 52) C (i := 2) dX11_triedAs_52 rfl rfl <|
    aw_iconst (pc := 53) C (v := 1) dX11_triedAs_53 rfl <|
    aw_icmp_ne (pc := 54) C (tgt := 66) dX11_triedAs_54 rfl (fun _ =>
    aw_aload_n (pc := 57) C (i := 0) dX11_triedAs_57 rfl rfl <|
    aw_getR (pc := 58) C (b := 12) dX11_triedAs_58 fl_X11_43 sR_0 rfl rR_0_11 <|
    aw_iload_n (pc := 61) C (i := 1) dX11_triedAs_61 rfl rfl <|
    aw_iald (pc := 62) C dX11_triedAs_62 sR_12 rfl <|
    aw_goto (pc := 63) C (tgt := 67) dX11_triedAs_63 rfl <|
    aw_iadd (pc := 67) C dX11_triedAs_67 <|
    aw_iret (pc := 68) C dX11_triedAs_68 rfl rfl) (fun _ =>
    aw_iconst (pc := 66) C (v := 0) dX11_triedAs_66 rfl <|
    aw_iadd (pc := 67) C dX11_triedAs_67 <|
    aw_iret (pc := 68) C dX11_triedAs_68 rfl rfl)))

abbrev rmX11_comesLength : Room := { frames := 0, cells := 0, slots := 0, locals := 0 }
def X11_comesLength (v1 : Int32) (v2 : Int32) (h : AH) : Option (Unit × AH) :=
    ck v1 4 (if v2 ≤ (h.1 20 v1.toNatClampNeg) then (ck v1 4 (if v2 ≤ (h.1 21 v1.toNatClampNeg) then (some ((), h))
    else (ck v1 4 (vl (sI h 21 v1.toNatClampNeg v2) fun h1 =>
    some ((), h1)))))
    else (ck v1 4 (ck v1 4 (vl (sI h 21 v1.toNatClampNeg (h.1 20 v1.toNatClampNeg)) fun h2 =>
    ck v1 4 (vl (sI h2 20 v1.toNatClampNeg v2) fun h3 =>
    some ((), h3))))))
set_option maxRecDepth 100000 in
theorem c_X11_comesLength (l : Launch) (v1 : Int32) (v2 : Int32) : MC l yX11_comesLength cX11_comesLength 3 none rmX11_comesLength ZR [.ref 0, .int v1, .int v2] rvV (X11_comesLength v1 v2) :=
  MC.of (own := RX11) (by decide +kernel) rfl (Nat.le_of_ble_eq_true rfl) fun X yd A h _ C =>
    aw_iload_n (pc := 0) C (i := 2) dX11_comesLength_0 rfl rfl <|
    aw_aload_n (pc := 1) C (i := 0) dX11_comesLength_1 rfl rfl <|
    aw_getR (pc := 2) C (b := 20) dX11_comesLength_2 fl_X11_68 sR_0 rfl rR_0_30 <|
    aw_iload_n (pc := 5) C (i := 1) dX11_comesLength_5 rfl rfl <|
    aw_iald (pc := 6) C dX11_comesLength_6 sR_20 rfl <|
    aw_icmp_le (pc := 7) C (tgt := 32) dX11_comesLength_7 rfl (fun _ =>
    aw_iload_n (pc := 32) C (i := 2) dX11_comesLength_32 rfl rfl <|
    aw_aload_n (pc := 33) C (i := 0) dX11_comesLength_33 rfl rfl <|
    aw_getR (pc := 34) C (b := 21) dX11_comesLength_34 fl_X11_71 sR_0 rfl rR_0_31 <|
    aw_iload_n (pc := 37) C (i := 1) dX11_comesLength_37 rfl rfl <|
    aw_iald (pc := 38) C dX11_comesLength_38 sR_21 rfl <|
    aw_icmp_le (pc := 39) C (tgt := 49) dX11_comesLength_39 rfl (fun _ =>
    aw_vret (pc := 49) C dX11_comesLength_49 rfl rfl) (fun _ =>
    aw_aload_n (pc := 42) C (i := 0) dX11_comesLength_42 rfl rfl <|
    aw_getR (pc := 43) C (b := 21) dX11_comesLength_43 fl_X11_71 sR_0 rfl rR_0_31 <|
    aw_iload_n (pc := 46) C (i := 1) dX11_comesLength_46 rfl rfl <|
    aw_iload_n (pc := 47) C (i := 2) dX11_comesLength_47 rfl rfl <|
    aw_iast (pc := 48) C dX11_comesLength_48 sR_21 rfl fun h1 =>
    aw_vret (pc := 49) C dX11_comesLength_49 rfl rfl)) (fun _ =>
    aw_aload_n (pc := 10) C (i := 0) dX11_comesLength_10 rfl rfl <|
    aw_getR (pc := 11) C (b := 21) dX11_comesLength_11 fl_X11_71 sR_0 rfl rR_0_31 <|
    aw_iload_n (pc := 14) C (i := 1) dX11_comesLength_14 rfl rfl <|
    aw_aload_n (pc := 15) C (i := 0) dX11_comesLength_15 rfl rfl <|
    aw_getR (pc := 16) C (b := 20) dX11_comesLength_16 fl_X11_68 sR_0 rfl rR_0_30 <|
    aw_iload_n (pc := 19) C (i := 1) dX11_comesLength_19 rfl rfl <|
    aw_iald (pc := 20) C dX11_comesLength_20 sR_20 rfl <|
    aw_iast (pc := 21) C dX11_comesLength_21 sR_21 rfl fun h2 =>
    aw_aload_n (pc := 22) C (i := 0) dX11_comesLength_22 rfl rfl <|
    aw_getR (pc := 23) C (b := 20) dX11_comesLength_23 fl_X11_68 sR_0 rfl rR_0_30 <|
    aw_iload_n (pc := 26) C (i := 1) dX11_comesLength_26 rfl rfl <|
    aw_iload_n (pc := 27) C (i := 2) dX11_comesLength_27 rfl rfl <|
    aw_iast (pc := 28) C dX11_comesLength_28 sR_20 rfl fun h3 =>
    aw_goto (pc := 29) C (tgt := 49) dX11_comesLength_29 rfl <|
    aw_vret (pc := 49) C dX11_comesLength_49 rfl rfl)

abbrev rmX11_findBest : Room := { frames := 3, cells := 0, slots := 0, locals := 67 }
def X11_findBest_l29  (v1 : Int32) (v2 : Int32) : Nat → Int32 → AH → Option (Unit × AH)
  | 0, _, _ => none
  | n + 1, v3, h =>
    if v2 ≤ v3 then (some ((), h))
    else (ck v3 24 (bd (X11_triedAs v3 v1 h) fun r1 h2 =>
    bd (X11_comesLength (h.1 10 v3.toNatClampNeg) r1 h2) fun _ h4 =>
    vl (v3 + 1) fun x5 =>
    (X11_findBest_l29 v1 v2 n) x5 h4))
set_option maxRecDepth 100000 in
theorem aX11_findBest_l29 {X : MCx} {yd : Dyn} {A : Nat → Prop} (C : OK X cX11_findBest RX11 4 none rmX11_findBest A)  (v1 : Int32) (v2 : Int32) : ∀ (n : Nat) (v3 : Int32) (h : AH), AW X 4 ZR yd A 0 0 (QF X rmX11_findBest ZR yd rvV A) 29 [(0, .ref 0), (1, .int v1), (2, .int v2), (3, .int v3)] [] h (X11_findBest_l29 v1 v2 n v3 h) := by
  intro n
  induction n with
  | zero => intro v3 h; exact aw_none
  | succ n ih =>
    intro v3 h
    exact aw_iload_n (pc := 29) C (i := 3) dX11_findBest_29 rfl rfl <|
    aw_iload_n (pc := 30) C (i := 2) dX11_findBest_30 rfl rfl <|
    aw_icmp_ge (pc := 31) C (tgt := 56) dX11_findBest_31 rfl (fun _ =>
    aw_vret (pc := 56) C dX11_findBest_56 rfl rfl) (fun _ =>
    aw_aload_n (pc := 34) C (i := 0) dX11_findBest_34 rfl rfl <|
    aw_aload_n (pc := 35) C (i := 0) dX11_findBest_35 rfl rfl <|
    aw_getR (pc := 36) C (b := 10) dX11_findBest_36 fl_X11_37 sR_0 rfl rR_0_9 <|
    aw_iload_n (pc := 39) C (i := 3) dX11_findBest_39 rfl rfl <|
    aw_iald (pc := 40) C dX11_findBest_40 sR_10 rfl <|
    aw_aload_n (pc := 41) C (i := 0) dX11_findBest_41 rfl rfl <|
    aw_iload_n (pc := 42) C (i := 3) dX11_findBest_42 rfl rfl <|
    aw_iload_n (pc := 43) C (i := 1) dX11_findBest_43 rfl rfl <|
    aw_callF (pc := 44) C (cr_V (rest := [.int (h.1 10 v3.toNatClampNeg), .ref 0]) (F := (X11_triedAs v3 v1)) C (c_X11_triedAs X.2.1 v3 v1) dX11_findBest_44 mf_X11_triedAs ml_X11_259 im_X11_triedAs se_X11_triedAs sR_0 rfl ⟨(Nat.le_of_ble_eq_true rfl), (Nat.le_of_ble_eq_true rfl)⟩ rfl rfl (Nat.le_of_ble_eq_true rfl)) rfl rfl rfl (Nat.zero_le _) (Nat.zero_le _) fun r1 h2 =>
    aw_callF (pc := 47) C (cr_V (rest := []) (F := (X11_comesLength (h.1 10 v3.toNatClampNeg) r1)) C (c_X11_comesLength X.2.1 (h.1 10 v3.toNatClampNeg) r1) dX11_findBest_47 mf_X11_comesLength ml_X11_262 im_X11_comesLength se_X11_comesLength sR_0 rfl ⟨(Nat.le_of_ble_eq_true rfl), (Nat.le_of_ble_eq_true rfl)⟩ rfl rfl (Nat.le_of_ble_eq_true rfl)) rfl rfl rfl (Nat.zero_le _) (Nat.zero_le _) fun _ h4 =>
    aw_iincV (pc := 50) C (i := 3) (cst := 1) (fun x5 => [(0, .ref 0), (1, .int v1), (2, .int v2), (3, .int x5)]) dX11_findBest_50 rfl rfl (by decide) (fun _ => rfl) fun x5 =>
    aw_goto (pc := 53) C (tgt := 29) dX11_findBest_53 rfl <|
    (ih x5 h4))
def X11_findBest_l2  (v1 : Int32) (v2 : Int32) : Nat → Int32 → AH → Option (Unit × AH)
  | 0, _, _ => none
  | n + 1, v3, h =>
    if 4 ≤ v3 then (X11_findBest_l29 v1 v2 FU 0 h)
    else (ck v3 4 (vl (sI h 20 v3.toNatClampNeg 0) fun h6 =>
    ck v3 4 (vl (sI h6 21 v3.toNatClampNeg 0) fun h7 =>
    vl (v3 + 1) fun x8 =>
    (X11_findBest_l2 v1 v2 n) x8 h7)))
set_option maxRecDepth 100000 in
theorem aX11_findBest_l2 {X : MCx} {yd : Dyn} {A : Nat → Prop} (C : OK X cX11_findBest RX11 4 none rmX11_findBest A)  (v1 : Int32) (v2 : Int32) : ∀ (n : Nat) (v3 : Int32) (h : AH), AW X 4 ZR yd A 0 0 (QF X rmX11_findBest ZR yd rvV A) 2 [(0, .ref 0), (1, .int v1), (2, .int v2), (3, .int v3)] [] h (X11_findBest_l2 v1 v2 n v3 h) := by
  intro n
  induction n with
  | zero => intro v3 h; exact aw_none
  | succ n ih =>
    intro v3 h
    exact aw_iload_n (pc := 2) C (i := 3) dX11_findBest_2 rfl rfl <|
    aw_iconst (pc := 3) C (v := 4) dX11_findBest_3 rfl <|
    aw_icmp_ge (pc := 4) C (tgt := 27) dX11_findBest_4 rfl (fun _ =>
    aw_iconst (pc := 27) C (v := 0) dX11_findBest_27 rfl <|
    aw_istore_n (pc := 28) C (i := 3) (lv' := [(0, .ref 0), (1, .int v1), (2, .int v2), (3, .int 0)]) dX11_findBest_28 rfl (by decide) rfl <|
    (aX11_findBest_l29 C v1 v2 FU 0 h)) (fun _ =>
    aw_aload_n (pc := 7) C (i := 0) dX11_findBest_7 rfl rfl <|
    aw_getR (pc := 8) C (b := 20) dX11_findBest_8 fl_X11_68 sR_0 rfl rR_0_30 <|
    aw_iload_n (pc := 11) C (i := 3) dX11_findBest_11 rfl rfl <|
    aw_iconst (pc := 12) C (v := 0) dX11_findBest_12 rfl <|
    aw_iast (pc := 13) C dX11_findBest_13 sR_20 rfl fun h6 =>
    aw_aload_n (pc := 14) C (i := 0) dX11_findBest_14 rfl rfl <|
    aw_getR (pc := 15) C (b := 21) dX11_findBest_15 fl_X11_71 sR_0 rfl rR_0_31 <|
    aw_iload_n (pc := 18) C (i := 3) dX11_findBest_18 rfl rfl <|
    aw_iconst (pc := 19) C (v := 0) dX11_findBest_19 rfl <|
    aw_iast (pc := 20) C dX11_findBest_20 sR_21 rfl fun h7 =>
    aw_iincV (pc := 21) C (i := 3) (cst := 1) (fun x8 => [(0, .ref 0), (1, .int v1), (2, .int v2), (3, .int x8)]) dX11_findBest_21 rfl rfl (by decide) (fun _ => rfl) fun x8 =>
    aw_goto (pc := 24) C (tgt := 2) dX11_findBest_24 rfl <|
    (ih x8 h7))
def X11_findBest (v1 : Int32) (v2 : Int32) (h : AH) : Option (Unit × AH) :=
    X11_findBest_l2 v1 v2 FU 0 h
set_option maxRecDepth 100000 in
theorem c_X11_findBest (l : Launch) (v1 : Int32) (v2 : Int32) : MC l yX11_findBest cX11_findBest 4 none rmX11_findBest ZR [.ref 0, .int v1, .int v2] rvV (X11_findBest v1 v2) :=
  MC.of (own := RX11) (by decide +kernel) rfl (Nat.le_of_ble_eq_true rfl) fun X yd A h _ C =>
    aw_iconst (pc := 0) C (v := 0) dX11_findBest_0 rfl <|
    aw_istore_n (pc := 1) C (i := 3) (lv' := [(0, .ref 0), (1, .int v1), (2, .int v2), (3, .int 0)]) dX11_findBest_1 rfl (by decide) rfl <|
    (aX11_findBest_l2 C v1 v2 FU 0 h)

abbrev rmX11_isAhead : Room := { frames := 0, cells := 0, slots := 0, locals := 0 }
def X11_isAhead (v1 : Int32) (v2 : Int32) (h : AH) : Option (Int32 × AH) :=
    ck v1 4 (ck v2 4 (if (h.1 20 v1.toNatClampNeg) = (h.1 20 v2.toNatClampNeg) then (ck v1 4 (ck v2 4 (if (h.1 21 v1.toNatClampNeg) = (h.1 21 v2.toNatClampNeg) then (if v2 ≤ v1 then (cz 0 (some (0, h)))
    else (cz 1 (some (1, h))))
    else (ck v1 4 (ck v2 4 (if (h.1 21 v1.toNatClampNeg) ≤ (h.1 21 v2.toNatClampNeg) then (cz 0 (some (0, h)))
    else (cz 1 (some (1, h)))))))))
    else (ck v1 4 (ck v2 4 (if (h.1 20 v1.toNatClampNeg) ≤ (h.1 20 v2.toNatClampNeg) then (cz 0 (some (0, h)))
    else (cz 1 (some (1, h))))))))
set_option maxRecDepth 100000 in
theorem c_X11_isAhead (l : Launch) (v1 : Int32) (v2 : Int32) : MC l yX11_isAhead cX11_isAhead 3 (some .boolean) rmX11_isAhead ZR [.ref 0, .int v1, .int v2] rvI (X11_isAhead v1 v2) :=
  MC.of (own := RX11) (by decide +kernel) rfl (Nat.le_of_ble_eq_true rfl) fun X yd A h _ C =>
    aw_aload_n (pc := 0) C (i := 0) dX11_isAhead_0 rfl rfl <|
    aw_getR (pc := 1) C (b := 20) dX11_isAhead_1 fl_X11_68 sR_0 rfl rR_0_30 <|
    aw_iload_n (pc := 4) C (i := 1) dX11_isAhead_4 rfl rfl <|
    aw_iald (pc := 5) C dX11_isAhead_5 sR_20 rfl <|
    aw_aload_n (pc := 6) C (i := 0) dX11_isAhead_6 rfl rfl <|
    aw_getR (pc := 7) C (b := 20) dX11_isAhead_7 fl_X11_68 sR_0 rfl rR_0_30 <|
    aw_iload_n (pc := 10) C (i := 2) dX11_isAhead_10 rfl rfl <|
    aw_iald (pc := 11) C dX11_isAhead_11 sR_20 rfl <|
    aw_icmp_eq (pc := 12) C (tgt := 36) dX11_isAhead_12 rfl (fun _ =>
    aw_aload_n (pc := 36) C (i := 0) dX11_isAhead_36 rfl rfl <|
    aw_getR (pc := 37) C (b := 21) dX11_isAhead_37 fl_X11_71 sR_0 rfl rR_0_31 <|
    aw_iload_n (pc := 40) C (i := 1) dX11_isAhead_40 rfl rfl <|
    aw_iald (pc := 41) C dX11_isAhead_41 sR_21 rfl <|
    aw_aload_n (pc := 42) C (i := 0) dX11_isAhead_42 rfl rfl <|
    aw_getR (pc := 43) C (b := 21) dX11_isAhead_43 fl_X11_71 sR_0 rfl rR_0_31 <|
    aw_iload_n (pc := 46) C (i := 2) dX11_isAhead_46 rfl rfl <|
    aw_iald (pc := 47) C dX11_isAhead_47 sR_21 rfl <|
    aw_icmp_eq (pc := 48) C (tgt := 74) dX11_isAhead_48 rfl (fun _ =>
    aw_iload_n (pc := 74) C (i := 1) dX11_isAhead_74 rfl rfl <|
    aw_iload_n (pc := 75) C (i := 2) dX11_isAhead_75 rfl rfl <|
    aw_icmp_ge (pc := 76) C (tgt := 83) dX11_isAhead_76 rfl (fun _ =>
    aw_iconst (pc := 83) C (v := 0) dX11_isAhead_83 rfl <|
    aw_zret (pc := 84) C dX11_isAhead_84 rfl rfl) (fun _ =>
    aw_iconst (pc := 79) C (v := 1) dX11_isAhead_79 rfl <|
    aw_goto (pc := 80) C (tgt := 84) dX11_isAhead_80 rfl <|
    aw_zret (pc := 84) C dX11_isAhead_84 rfl rfl)) (fun _ =>
    aw_aload_n (pc := 51) C (i := 0) dX11_isAhead_51 rfl rfl <|
    aw_getR (pc := 52) C (b := 21) dX11_isAhead_52 fl_X11_71 sR_0 rfl rR_0_31 <|
    aw_iload_n (pc := 55) C (i := 1) dX11_isAhead_55 rfl rfl <|
    aw_iald (pc := 56) C dX11_isAhead_56 sR_21 rfl <|
    aw_aload_n (pc := 57) C (i := 0) dX11_isAhead_57 rfl rfl <|
    aw_getR (pc := 58) C (b := 21) dX11_isAhead_58 fl_X11_71 sR_0 rfl rR_0_31 <|
    aw_iload_n (pc := 61) C (i := 2) dX11_isAhead_61 rfl rfl <|
    aw_iald (pc := 62) C dX11_isAhead_62 sR_21 rfl <|
    aw_icmp_le (pc := 63) C (tgt := 70) dX11_isAhead_63 rfl (fun _ =>
    aw_iconst (pc := 70) C (v := 0) dX11_isAhead_70 rfl <|
    aw_goto (pc := 71) C (tgt := 84) dX11_isAhead_71 rfl <|
    aw_zret (pc := 84) C dX11_isAhead_84 rfl rfl) (fun _ =>
    aw_iconst (pc := 66) C (v := 1) dX11_isAhead_66 rfl <|
    aw_goto (pc := 67) C (tgt := 84) dX11_isAhead_67 rfl <|
    aw_zret (pc := 84) C dX11_isAhead_84 rfl rfl))) (fun _ =>
    aw_aload_n (pc := 15) C (i := 0) dX11_isAhead_15 rfl rfl <|
    aw_getR (pc := 16) C (b := 20) dX11_isAhead_16 fl_X11_68 sR_0 rfl rR_0_30 <|
    aw_iload_n (pc := 19) C (i := 1) dX11_isAhead_19 rfl rfl <|
    aw_iald (pc := 20) C dX11_isAhead_20 sR_20 rfl <|
    aw_aload_n (pc := 21) C (i := 0) dX11_isAhead_21 rfl rfl <|
    aw_getR (pc := 22) C (b := 20) dX11_isAhead_22 fl_X11_68 sR_0 rfl rR_0_30 <|
    aw_iload_n (pc := 25) C (i := 2) dX11_isAhead_25 rfl rfl <|
    aw_iald (pc := 26) C dX11_isAhead_26 sR_20 rfl <|
    aw_icmp_le (pc := 27) C (tgt := 34) dX11_isAhead_27 rfl (fun _ =>
    aw_iconst (pc := 34) C (v := 0) dX11_isAhead_34 rfl <|
    aw_zret (pc := 35) C dX11_isAhead_35 rfl rfl) (fun _ =>
    aw_iconst (pc := 30) C (v := 1) dX11_isAhead_30 rfl <|
    aw_goto (pc := 31) C (tgt := 35) dX11_isAhead_31 rfl <|
    aw_zret (pc := 35) C dX11_isAhead_35 rfl rfl))

abbrev rmX11_sorts : Room := { frames := 1, cells := 0, slots := 0, locals := 22 }
def X11_sorts_j52  (v1 : Int32) (v2 : Int32) (K2 : Int32 → AH → Option (Unit × AH)) (h : AH) : Option (Unit × AH) :=
    ck v2 4 (vl (sI h 22 v2.toNatClampNeg v1) fun h1 =>
    vl (v1 + 1) fun x2 =>
    K2 x2 h1)
set_option maxRecDepth 100000 in
theorem aX11_sorts_j52 {X : MCx} {yd : Dyn} {A : Nat → Prop} (C : OK X cX11_sorts RX11 3 none rmX11_sorts A)  (v1 : Int32) (v2 : Int32) (K2 : Int32 → AH → Option (Unit × AH)) (hK2 : ∀ (w1 : Int32) (h : AH), AW X 3 ZR yd A 0 0 (QF X rmX11_sorts ZR yd rvV A) 2 [(0, .ref 0), (1, .int w1)] [] h (K2 w1 h)) (h : AH) : AW X 3 ZR yd A 0 0 (QF X rmX11_sorts ZR yd rvV A) 52 [(0, .ref 0), (1, .int v1), (2, .int v2)] [] h (X11_sorts_j52 v1 v2 K2 h) := by
    exact aw_aload_n (pc := 52) C (i := 0) dX11_sorts_52 rfl rfl <|
    aw_getR (pc := 53) C (b := 22) dX11_sorts_53 fl_X11_74 sR_0 rfl rR_0_32 <|
    aw_iload_n (pc := 56) C (i := 2) dX11_sorts_56 rfl rfl <|
    aw_iload_n (pc := 57) C (i := 1) dX11_sorts_57 rfl rfl <|
    aw_iast (pc := 58) C dX11_sorts_58 sR_22 rfl fun h1 =>
    aw_iincV (pc := 59) C (i := 1) (cst := 1) (fun x2 => [(0, .ref 0), (1, .int x2), (2, .int v2)]) dX11_sorts_59 rfl rfl (by decide) (fun _ => rfl) fun x2 =>
    aw_goto (pc := 62) C (tgt := 2) dX11_sorts_62 rfl <|
    aw_drop [0, 1] (hK2 x2 h1)
def X11_sorts_l12  (v1 : Int32) (K2 : Int32 → AH → Option (Unit × AH)) : Nat → Int32 → AH → Option (Unit × AH)
  | 0, _, _ => none
  | n + 1, v2, h =>
    if v2 ≤ 0 then (X11_sorts_j52 v1 v2 K2 h)
    else (ck (v2 - 1) 4 (bd (X11_isAhead v1 (h.1 22 (v2 - 1).toNatClampNeg) h) fun r3 h4 =>
    if r3 = 0 then (X11_sorts_j52 v1 v2 K2 h4)
    else (ck (v2 - 1) 4 (ck v2 4 (vl (sI h4 22 v2.toNatClampNeg (h4.1 22 (v2 - 1).toNatClampNeg)) fun h5 =>
    vl (v2 + (-1)) fun x6 =>
    (X11_sorts_l12 v1 K2 n) x6 h5)))))
set_option maxRecDepth 100000 in
theorem aX11_sorts_l12 {X : MCx} {yd : Dyn} {A : Nat → Prop} (C : OK X cX11_sorts RX11 3 none rmX11_sorts A)  (v1 : Int32) (K2 : Int32 → AH → Option (Unit × AH)) (hK2 : ∀ (w1 : Int32) (h : AH), AW X 3 ZR yd A 0 0 (QF X rmX11_sorts ZR yd rvV A) 2 [(0, .ref 0), (1, .int w1)] [] h (K2 w1 h)) : ∀ (n : Nat) (v2 : Int32) (h : AH), AW X 3 ZR yd A 0 0 (QF X rmX11_sorts ZR yd rvV A) 12 [(0, .ref 0), (1, .int v1), (2, .int v2)] [] h (X11_sorts_l12 v1 K2 n v2 h) := by
  intro n
  induction n with
  | zero => intro v2 h; exact aw_none
  | succ n ih =>
    intro v2 h
    exact aw_iload_n (pc := 12) C (i := 2) dX11_sorts_12 rfl rfl <|
    aw_if_le (pc := 13) C (tgt := 52) dX11_sorts_13 rfl (fun _ =>
    (aX11_sorts_j52 C v1 v2 K2 hK2 h)) (fun _ =>
    aw_aload_n (pc := 16) C (i := 0) dX11_sorts_16 rfl rfl <|
    aw_iload_n (pc := 17) C (i := 1) dX11_sorts_17 rfl rfl <|
    aw_aload_n (pc := 18) C (i := 0) dX11_sorts_18 rfl rfl <|
    aw_getR (pc := 19) C (b := 22) dX11_sorts_19 fl_X11_74 sR_0 rfl rR_0_32 <|
    aw_iload_n (pc := 22) C (i := 2) dX11_sorts_22 rfl rfl <|
    aw_iconst (pc := 23) C (v := 1) dX11_sorts_23 rfl <|
    aw_isub (pc := 24) C dX11_sorts_24 <|
    aw_iald (pc := 25) C dX11_sorts_25 sR_22 rfl <|
    aw_callF (pc := 26) C (cr_V (rest := []) (F := (X11_isAhead v1 (h.1 22 (v2 - 1).toNatClampNeg))) C (c_X11_isAhead X.2.1 v1 (h.1 22 (v2 - 1).toNatClampNeg)) dX11_sorts_26 mf_X11_isAhead ml_X11_265 im_X11_isAhead se_X11_isAhead sR_0 rfl ⟨(Nat.le_of_ble_eq_true rfl), (Nat.le_of_ble_eq_true rfl)⟩ rfl rfl (Nat.le_of_ble_eq_true rfl)) rfl rfl rfl (Nat.zero_le _) (Nat.zero_le _) fun r3 h4 =>
    aw_if_eq (pc := 29) C (tgt := 52) dX11_sorts_29 rfl (fun _ =>
    (aX11_sorts_j52 C v1 v2 K2 hK2 h4)) (fun _ =>
    aw_aload_n (pc := 32) C (i := 0) dX11_sorts_32 rfl rfl <|
    aw_getR (pc := 33) C (b := 22) dX11_sorts_33 fl_X11_74 sR_0 rfl rR_0_32 <|
    aw_iload_n (pc := 36) C (i := 2) dX11_sorts_36 rfl rfl <|
    aw_aload_n (pc := 37) C (i := 0) dX11_sorts_37 rfl rfl <|
    aw_getR (pc := 38) C (b := 22) dX11_sorts_38 fl_X11_74 sR_0 rfl rR_0_32 <|
    aw_iload_n (pc := 41) C (i := 2) dX11_sorts_41 rfl rfl <|
    aw_iconst (pc := 42) C (v := 1) dX11_sorts_42 rfl <|
    aw_isub (pc := 43) C dX11_sorts_43 <|
    aw_iald (pc := 44) C dX11_sorts_44 sR_22 rfl <|
    aw_iast (pc := 45) C dX11_sorts_45 sR_22 rfl fun h5 =>
    aw_iincV (pc := 46) C (i := 2) (cst := (-1)) (fun x6 => [(0, .ref 0), (1, .int v1), (2, .int x6)]) dX11_sorts_46 rfl rfl (by decide) (fun _ => rfl) fun x6 =>
    aw_goto (pc := 49) C (tgt := 12) dX11_sorts_49 rfl <|
    (ih x6 h5)))
def X11_sorts_l2  : Nat → Int32 → AH → Option (Unit × AH)
  | 0, _, _ => none
  | n + 1, v1, h =>
    if (h.1 0 15) ≤ v1 then (some ((), h))
    else (X11_sorts_l12 v1 (X11_sorts_l2 n) FU v1 h)
set_option maxRecDepth 100000 in
theorem aX11_sorts_l2 {X : MCx} {yd : Dyn} {A : Nat → Prop} (C : OK X cX11_sorts RX11 3 none rmX11_sorts A)  : ∀ (n : Nat) (v1 : Int32) (h : AH), AW X 3 ZR yd A 0 0 (QF X rmX11_sorts ZR yd rvV A) 2 [(0, .ref 0), (1, .int v1)] [] h (X11_sorts_l2 n v1 h) := by
  intro n
  induction n with
  | zero => intro v1 h; exact aw_none
  | succ n ih =>
    intro v1 h
    exact aw_iload_n (pc := 2) C (i := 1) dX11_sorts_2 rfl rfl <|
    aw_aload_n (pc := 3) C (i := 0) dX11_sorts_3 rfl rfl <|
    aw_getI (pc := 4) C dX11_sorts_4 fl_X11_105 sR_0 rfl <|
    aw_icmp_ge (pc := 7) C (tgt := 65) dX11_sorts_7 rfl (fun _ =>
    aw_vret (pc := 65) C dX11_sorts_65 rfl rfl) (fun _ =>
    aw_iload_n (pc := 10) C (i := 1) dX11_sorts_10 rfl rfl <|
    aw_istore_n (pc := 11) C (i := 2) (lv' := [(0, .ref 0), (1, .int v1), (2, .int v1)]) dX11_sorts_11 rfl (by decide) rfl <|
    (aX11_sorts_l12 C v1 (X11_sorts_l2 n) ih FU v1 h))
def X11_sorts  (h : AH) : Option (Unit × AH) :=
    X11_sorts_l2 FU 0 h
set_option maxRecDepth 100000 in
theorem c_X11_sorts (l : Launch)  : MC l yX11_sorts cX11_sorts 3 none rmX11_sorts ZR [.ref 0] rvV (X11_sorts) :=
  MC.of (own := RX11) (by decide +kernel) rfl (Nat.le_of_ble_eq_true rfl) fun X yd A h _ C =>
    aw_iconst (pc := 0) C (v := 0) dX11_sorts_0 rfl <|
    aw_istore_n (pc := 1) C (i := 1) (lv' := [(0, .ref 0), (1, .int 0)]) dX11_sorts_1 rfl (by decide) rfl <|
    (aX11_sorts_l2 C FU 0 h)

abbrev rmX11_turnNow : Room := { frames := 4, cells := 0, slots := 0, locals := 90 }
def X11_turnNow  (h : AH) : Option (Int32 × AH) :=
    if (h.1 0 15) = 0 then (some ((-9), h))
    else (bd (X11_finalists h) fun r1 h2 =>
    if (h.1 0 16) < ((3 * (h.1 0 15)) + (3 * r1)) then (if (3 * (h2.1 0 15)) ≤ (h2.1 0 16) then (bd (X11_findBest 0 (3 * (h2.1 0 15)) h2) fun _ h4 =>
    bd (X11_sorts h4) fun _ h6 =>
    bd (X11_finalists h6) fun r7 h8 =>
    bd (X11_finalists h8) fun r9 h10 =>
    if r9 = 0 then none else (ck ((r7 - 1) - (rm32 ((h8.1 0 16) - (3 * (h8.1 0 15))) r9)) 4 (some ((h10.1 22 ((r7 - 1) - (rm32 ((h8.1 0 16) - (3 * (h8.1 0 15))) r9)).toNatClampNeg), h10))))
    else (if (h2.1 0 15) = 0 then none else (some ((rm32 (h2.1 0 16) (h2.1 0 15)), h2))))
    else (some ((-9), h2)))
set_option maxRecDepth 100000 in
theorem c_X11_turnNow (l : Launch)  : MC l yX11_turnNow cX11_turnNow 1 (some .int) rmX11_turnNow ZR [.ref 0] rvI (X11_turnNow) :=
  MC.of (own := RX11) (by decide +kernel) rfl (Nat.le_of_ble_eq_true rfl) fun X yd A h _ C =>
    aw_aload_n (pc := 0) C (i := 0) dX11_turnNow_0 rfl rfl <|
    aw_getI (pc := 1) C dX11_turnNow_1 fl_X11_105 sR_0 rfl <|
    aw_if_eq (pc := 4) C (tgt := 27) dX11_turnNow_4 rfl (fun _ =>
    aw_bipush (pc := 27) C (v := (-9)) dX11_turnNow_27 rfl <|
    aw_iret (pc := 29) C dX11_turnNow_29 rfl rfl) (fun _ =>
    aw_aload_n (pc := 7) C (i := 0) dX11_turnNow_7 rfl rfl <|
    aw_getI (pc := 8) C dX11_turnNow_8 fl_X11_147 sR_0 rfl <|
    aw_iconst (pc := 11) C (v := 3) dX11_turnNow_11 rfl <|
    aw_aload_n (pc := 12) C (i := 0) dX11_turnNow_12 rfl rfl <|
    aw_getI (pc := 13) C dX11_turnNow_13 fl_X11_105 sR_0 rfl <|
    aw_imul (pc := 16) C dX11_turnNow_16 <|
    aw_iconst (pc := 17) C (v := 3) dX11_turnNow_17 rfl <|
    aw_aload_n (pc := 18) C (i := 0) dX11_turnNow_18 rfl rfl <|
    aw_callF (pc := 19) C (cr_V (rest := [.int 3, .int (3 * (h.1 0 15)), .int (h.1 0 16)]) (F := X11_finalists) C (c_X11_finalists X.2.1 ) dX11_turnNow_19 mf_X11_finalists ml_X11_271 im_X11_finalists se_X11_finalists sR_0 rfl ⟨(Nat.le_of_ble_eq_true rfl), (Nat.le_of_ble_eq_true rfl)⟩ rfl rfl (Nat.le_of_ble_eq_true rfl)) rfl rfl rfl (Nat.zero_le _) (Nat.zero_le _) fun r1 h2 =>
    aw_imul (pc := 22) C dX11_turnNow_22 <|
    aw_iadd (pc := 23) C dX11_turnNow_23 <|
    aw_icmp_lt (pc := 24) C (tgt := 30) dX11_turnNow_24 rfl (fun _ =>
    aw_aload_n (pc := 30) C (i := 0) dX11_turnNow_30 rfl rfl <|
    aw_getI (pc := 31) C dX11_turnNow_31 fl_X11_147 sR_0 rfl <|
    aw_iconst (pc := 34) C (v := 3) dX11_turnNow_34 rfl <|
    aw_aload_n (pc := 35) C (i := 0) dX11_turnNow_35 rfl rfl <|
    aw_getI (pc := 36) C dX11_turnNow_36 fl_X11_105 sR_0 rfl <|
    aw_imul (pc := 39) C dX11_turnNow_39 <|
    aw_icmp_ge (pc := 40) C (tgt := 53) dX11_turnNow_40 rfl (fun _ =>
    aw_aload_n (pc := 53) C (i := 0) dX11_turnNow_53 rfl rfl <|
    aw_iconst (pc := 54) C (v := 0) dX11_turnNow_54 rfl <|
    aw_iconst (pc := 55) C (v := 3) dX11_turnNow_55 rfl <|
    aw_aload_n (pc := 56) C (i := 0) dX11_turnNow_56 rfl rfl <|
    aw_getI (pc := 57) C dX11_turnNow_57 fl_X11_105 sR_0 rfl <|
    aw_imul (pc := 60) C dX11_turnNow_60 <|
    aw_callF (pc := 61) C (cr_V (rest := []) (F := (X11_findBest 0 (3 * (h2.1 0 15)))) C (c_X11_findBest X.2.1 0 (3 * (h2.1 0 15))) dX11_turnNow_61 mf_X11_findBest ml_X11_213 im_X11_findBest se_X11_findBest sR_0 rfl ⟨(Nat.le_of_ble_eq_true rfl), (Nat.le_of_ble_eq_true rfl)⟩ rfl rfl (Nat.le_of_ble_eq_true rfl)) rfl rfl rfl (Nat.zero_le _) (Nat.zero_le _) fun _ h4 =>
    aw_aload_n (pc := 64) C (i := 0) dX11_turnNow_64 rfl rfl <|
    aw_callF (pc := 65) C (cr_V (rest := []) (F := X11_sorts) C (c_X11_sorts X.2.1 ) dX11_turnNow_65 mf_X11_sorts ml_X11_268 im_X11_sorts se_X11_sorts sR_0 rfl ⟨(Nat.le_of_ble_eq_true rfl), (Nat.le_of_ble_eq_true rfl)⟩ rfl rfl (Nat.le_of_ble_eq_true rfl)) rfl rfl rfl (Nat.zero_le _) (Nat.zero_le _) fun _ h6 =>
    aw_aload_n (pc := 68) C (i := 0) dX11_turnNow_68 rfl rfl <|
    aw_getR (pc := 69) C (b := 22) dX11_turnNow_69 fl_X11_74 sR_0 rfl rR_0_32 <|
    aw_aload_n (pc := 72) C (i := 0) dX11_turnNow_72 rfl rfl <|
    aw_callF (pc := 73) C (cr_V (rest := [.ref 22]) (F := X11_finalists) C (c_X11_finalists X.2.1 ) dX11_turnNow_73 mf_X11_finalists ml_X11_271 im_X11_finalists se_X11_finalists sR_0 rfl ⟨(Nat.le_of_ble_eq_true rfl), (Nat.le_of_ble_eq_true rfl)⟩ rfl rfl (Nat.le_of_ble_eq_true rfl)) rfl rfl rfl (Nat.zero_le _) (Nat.zero_le _) fun r7 h8 =>
    aw_iconst (pc := 76) C (v := 1) dX11_turnNow_76 rfl <|
    aw_isub (pc := 77) C dX11_turnNow_77 <|
    aw_aload_n (pc := 78) C (i := 0) dX11_turnNow_78 rfl rfl <|
    aw_getI (pc := 79) C dX11_turnNow_79 fl_X11_147 sR_0 rfl <|
    aw_iconst (pc := 82) C (v := 3) dX11_turnNow_82 rfl <|
    aw_aload_n (pc := 83) C (i := 0) dX11_turnNow_83 rfl rfl <|
    aw_getI (pc := 84) C dX11_turnNow_84 fl_X11_105 sR_0 rfl <|
    aw_imul (pc := 87) C dX11_turnNow_87 <|
    aw_isub (pc := 88) C dX11_turnNow_88 <|
    aw_aload_n (pc := 89) C (i := 0) dX11_turnNow_89 rfl rfl <|
    aw_callF (pc := 90) C (cr_V (rest := [.int ((h8.1 0 16) - (3 * (h8.1 0 15))), .int (r7 - 1), .ref 22]) (F := X11_finalists) C (c_X11_finalists X.2.1 ) dX11_turnNow_90 mf_X11_finalists ml_X11_271 im_X11_finalists se_X11_finalists sR_0 rfl ⟨(Nat.le_of_ble_eq_true rfl), (Nat.le_of_ble_eq_true rfl)⟩ rfl rfl (Nat.le_of_ble_eq_true rfl)) rfl rfl rfl (Nat.zero_le _) (Nat.zero_le _) fun r9 h10 =>
    aw_irem (pc := 93) C dX11_turnNow_93 <|
    aw_isub (pc := 94) C dX11_turnNow_94 <|
    aw_iald (pc := 95) C dX11_turnNow_95 sR_22 rfl <|
    aw_iret (pc := 96) C dX11_turnNow_96 rfl rfl) (fun _ =>
    aw_aload_n (pc := 43) C (i := 0) dX11_turnNow_43 rfl rfl <|
    aw_getI (pc := 44) C dX11_turnNow_44 fl_X11_147 sR_0 rfl <|
    aw_aload_n (pc := 47) C (i := 0) dX11_turnNow_47 rfl rfl <|
    aw_getI (pc := 48) C dX11_turnNow_48 fl_X11_105 sR_0 rfl <|
    aw_irem (pc := 51) C dX11_turnNow_51 <|
    aw_iret (pc := 52) C dX11_turnNow_52 rfl rfl)) (fun _ =>
    aw_bipush (pc := 27) C (v := (-9)) dX11_turnNow_27 rfl <|
    aw_iret (pc := 29) C dX11_turnNow_29 rfl rfl))

abbrev rmX11_putsTry : Room := { frames := 0, cells := 0, slots := 0, locals := 0 }
def X11_putsTry (v1 : Int32) (v2 : Int32) (v3 : Int32) (h : AH) : Option (Unit × AH) :=
    ck (h.1 0 16) 24 (vl (sI h 10 (h.1 0 16).toNatClampNeg v1) fun h1 =>
    ck (h1.1 0 16) 24 (vl (sI h1 11 (h1.1 0 16).toNatClampNeg v2) fun h2 =>
    ck (h2.1 0 16) 24 (vl (sI h2 12 (h2.1 0 16).toNatClampNeg v3) fun h3 =>
    vl (sI h3 0 16 ((h3.1 0 16) + 1)) fun h4 =>
    some ((), h4))))
set_option maxRecDepth 100000 in
theorem c_X11_putsTry (l : Launch) (v1 : Int32) (v2 : Int32) (v3 : Int32) : MC l yX11_putsTry cX11_putsTry 4 none rmX11_putsTry ZR [.ref 0, .int v1, .int v2, .int v3] rvV (X11_putsTry v1 v2 v3) :=
  MC.of (own := RX11) (by decide +kernel) rfl (Nat.le_of_ble_eq_true rfl) fun X yd A h _ C =>
    aw_aload_n (pc := 0) C (i := 0) dX11_putsTry_0 rfl rfl <|
    aw_getR (pc := 1) C (b := 10) dX11_putsTry_1 fl_X11_37 sR_0 rfl rR_0_9 <|
    aw_aload_n (pc := 4) C (i := 0) dX11_putsTry_4 rfl rfl <|
    aw_getI (pc := 5) C dX11_putsTry_5 fl_X11_147 sR_0 rfl <|
    aw_iload_n (pc := 8) C (i := 1) dX11_putsTry_8 rfl rfl <|
    aw_iast (pc := 9) C dX11_putsTry_9 sR_10 rfl fun h1 =>
    aw_aload_n (pc := 10) C (i := 0) dX11_putsTry_10 rfl rfl <|
    aw_getR (pc := 11) C (b := 11) dX11_putsTry_11 fl_X11_40 sR_0 rfl rR_0_10 <|
    aw_aload_n (pc := 14) C (i := 0) dX11_putsTry_14 rfl rfl <|
    aw_getI (pc := 15) C dX11_putsTry_15 fl_X11_147 sR_0 rfl <|
    aw_iload_n (pc := 18) C (i := 2) dX11_putsTry_18 rfl rfl <|
    aw_iast (pc := 19) C dX11_putsTry_19 sR_11 rfl fun h2 =>
    aw_aload_n (pc := 20) C (i := 0) dX11_putsTry_20 rfl rfl <|
    aw_getR (pc := 21) C (b := 12) dX11_putsTry_21 fl_X11_43 sR_0 rfl rR_0_11 <|
    aw_aload_n (pc := 24) C (i := 0) dX11_putsTry_24 rfl rfl <|
    aw_getI (pc := 25) C dX11_putsTry_25 fl_X11_147 sR_0 rfl <|
    aw_iload_n (pc := 28) C (i := 3) dX11_putsTry_28 rfl rfl <|
    aw_iast (pc := 29) C dX11_putsTry_29 sR_12 rfl fun h3 =>
    aw_aload_n (pc := 30) C (i := 0) dX11_putsTry_30 rfl rfl <|
    aw_dup (pc := 31) C dX11_putsTry_31 rfl <|
    aw_getI (pc := 32) C dX11_putsTry_32 fl_X11_147 sR_0 rfl <|
    aw_iconst (pc := 35) C (v := 1) dX11_putsTry_35 rfl <|
    aw_iadd (pc := 36) C dX11_putsTry_36 <|
    aw_putI (pc := 37) C dX11_putsTry_37 fp_X11_147 sR_0 rfl fun h4 =>
    aw_vret (pc := 40) C dX11_putsTry_40 rfl rfl

abbrev rmX11_comesTry : Room := { frames := 5, cells := 0, slots := 0, locals := 110 }
def X11_comesTry (v1 : Int32) (v2 : Int32) (h : AH) : Option (Int32 × AH) :=
    bd (X11_turnNow h) fun r1 h2 =>
    if 0 ≤ r1 then (bd (X11_turnNow h2) fun r3 h4 =>
    bd (X11_putsTry r3 v1 v2 h4) fun _ h6 =>
    cz 1 (some (1, h6)))
    else (cz 0 (some (0, h2)))
set_option maxRecDepth 100000 in
theorem c_X11_comesTry (l : Launch) (v1 : Int32) (v2 : Int32) : MC l yX11_comesTry cX11_comesTry 3 (some .boolean) rmX11_comesTry ZR [.ref 0, .int v1, .int v2] rvI (X11_comesTry v1 v2) :=
  MC.of (own := RX11) (by decide +kernel) rfl (Nat.le_of_ble_eq_true rfl) fun X yd A h _ C =>
    aw_aload_n (pc := 0) C (i := 0) dX11_comesTry_0 rfl rfl <|
    aw_callF (pc := 1) C (cr_V (rest := []) (F := X11_turnNow) C (c_X11_turnNow X.2.1 ) dX11_comesTry_1 mf_X11_turnNow ml_X11_150 im_X11_turnNow se_X11_turnNow sR_0 rfl ⟨(Nat.le_of_ble_eq_true rfl), (Nat.le_of_ble_eq_true rfl)⟩ rfl rfl (Nat.le_of_ble_eq_true rfl)) rfl rfl rfl (Nat.zero_le _) (Nat.zero_le _) fun r1 h2 =>
    aw_if_ge (pc := 4) C (tgt := 9) dX11_comesTry_4 rfl (fun _ =>
    aw_aload_n (pc := 9) C (i := 0) dX11_comesTry_9 rfl rfl <|
    aw_aload_n (pc := 10) C (i := 0) dX11_comesTry_10 rfl rfl <|
    aw_callF (pc := 11) C (cr_V (rest := [.ref 0]) (F := X11_turnNow) C (c_X11_turnNow X.2.1 ) dX11_comesTry_11 mf_X11_turnNow ml_X11_150 im_X11_turnNow se_X11_turnNow sR_0 rfl ⟨(Nat.le_of_ble_eq_true rfl), (Nat.le_of_ble_eq_true rfl)⟩ rfl rfl (Nat.le_of_ble_eq_true rfl)) rfl rfl rfl (Nat.zero_le _) (Nat.zero_le _) fun r3 h4 =>
    aw_iload_n (pc := 14) C (i := 1) dX11_comesTry_14 rfl rfl <|
    aw_iload_n (pc := 15) C (i := 2) dX11_comesTry_15 rfl rfl <|
    aw_callF (pc := 16) C (cr_V (rest := []) (F := (X11_putsTry r3 v1 v2)) C (c_X11_putsTry X.2.1 r3 v1 v2) dX11_comesTry_16 mf_X11_putsTry ml_X11_153 im_X11_putsTry se_X11_putsTry sR_0 rfl ⟨(Nat.le_of_ble_eq_true rfl), (Nat.le_of_ble_eq_true rfl)⟩ rfl rfl (Nat.le_of_ble_eq_true rfl)) rfl rfl rfl (Nat.zero_le _) (Nat.zero_le _) fun _ h6 =>
    aw_iconst (pc := 19) C (v := 1) dX11_comesTry_19 rfl <|
    aw_zret (pc := 20) C dX11_comesTry_20 rfl rfl) (fun _ =>
    aw_iconst (pc := 7) C (v := 0) dX11_comesTry_7 rfl <|
    aw_zret (pc := 8) C dX11_comesTry_8 rfl rfl)

abbrev rmX11_comes : Room := { frames := 6, cells := 0, slots := 0, locals := 132 }
def X11_comes_j194  (v3 : Int32) (s0 : Int32) (h : AH) : Option (Int32 × AH) :=
    bd (X11_comesTry s0 v3 h) fun r24 h25 =>
    cz r24 (some (r24, h25))
set_option maxRecDepth 100000 in
theorem aX11_comes_j194 {X : MCx} {yd : Dyn} {A : Nat → Prop} (C : OK X cX11_comes RX11 4 (some .boolean) rmX11_comes A)  (v3 : Int32) (s0 : Int32) (h : AH) : AW X 4 ZR yd A 0 0 (QF X rmX11_comes ZR yd rvI A) 194 [(3, .int v3)] [.int s0, .ref 0] h (X11_comes_j194 v3 s0 h) := by
    exact aw_iload_n (pc := 194) C (i := 3) dX11_comes_194 rfl rfl <|
    aw_callF (pc := 195) C (cr_V (rest := []) (F := (X11_comesTry s0 v3)) C (c_X11_comesTry X.2.1 s0 v3) dX11_comes_195 mf_X11_comesTry ml_X11_166 im_X11_comesTry se_X11_comesTry sR_0 rfl ⟨(Nat.le_of_ble_eq_true rfl), (Nat.le_of_ble_eq_true rfl)⟩ rfl rfl (Nat.le_of_ble_eq_true rfl)) rfl rfl rfl (Nat.zero_le _) (Nat.zero_le _) fun r24 h25 =>
    aw_zret (pc := 198) C dX11_comes_198 rfl rfl
def X11_comes (v1 : Int32) (h : AH) : Option (Int32 × AH) :=
    vl (8 * v1) fun x1 =>
    ck x1 384 (vl (h.1 16 x1.toNatClampNeg) fun x2 =>
    ck v1 48 (vl (h.1 14 v1.toNatClampNeg) fun y3 =>
    if y3 = 102 then (bd (X11_comesTry (-9) 0 h) fun r4 h5 =>
    cz r4 (some (r4, h5)))
    else if y3 = 103 then (vl (sI h 0 13 x2) fun h7 =>
    bd (X11_isIn x2 1 4 h7) fun r8 h9 =>
    if r8 = 0 then (cz 0 (some (0, h9)))
    else (if (h9.1 0 16) = 0 then (cz 1 (some (1, h9)))
    else (cz 0 (some (0, h9)))))
    else if y3 = 106 then (bd (X11_comesJumper x1 h) fun r11 h12 =>
    cz r11 (some (r11, h12)))
    else if y3 = 110 then (vl (sI h 0 12 x2) fun h14 =>
    bd (X11_isIn x2 4 20 h14) fun r15 h16 =>
    if r15 = 0 then (cz 0 (some (0, h16)))
    else (if (h16.1 0 16) = 0 then (cz 1 (some (1, h16)))
    else (cz 0 (some (0, h16)))))
    else if y3 = 116 then (bd (X11_turnNow h) fun r18 h19 =>
    if 0 ≤ r18 then (bd (X11_turnNow h19) fun r20 h21 =>
    bd (X11_lengthOf r20 x2 0 h21) fun r22 h23 =>
    X11_comes_j194 x2 r22 h23)
    else (X11_comes_j194 x2 0 h19))
    else if y3 = 119 then (vl (sI h 0 14 x2) fun h27 =>
    cz 1 (some (1, h27)))
    else (bd (X11_comesTry (-8) 0 h) fun r29 h30 =>
    cz r29 (some (r29, h30)))))
set_option maxRecDepth 100000 in
theorem c_X11_comes (l : Launch) (v1 : Int32) : MC l yX11_comes cX11_comes 4 (some .boolean) rmX11_comes ZR [.ref 0, .int v1] rvI (X11_comes v1) :=
  MC.of (own := RX11) (by decide +kernel) rfl (Nat.le_of_ble_eq_true rfl) fun X yd A h _ C =>
    aw_bipush (pc := 0) C (v := 8) dX11_comes_0 rfl <|
    aw_iload_n (pc := 2) C (i := 1) dX11_comes_2 rfl rfl <|
    aw_imul (pc := 3) C dX11_comes_3 <|
    aw_istoreV_n (pc := 4) C (i := 2) (fun x1 => [(0, .ref 0), (1, .int v1), (2, .int x1)]) dX11_comes_4 rfl (by decide) (fun _ => rfl) fun x1 =>
    aw_aload_n (pc := 5) C (i := 0) dX11_comes_5 rfl rfl <|
    aw_getR (pc := 6) C (b := 16) dX11_comes_6 fl_X11_55 sR_0 rfl rR_0_20 <|
    aw_iload_n (pc := 9) C (i := 2) dX11_comes_9 rfl rfl <|
    aw_iald (pc := 10) C dX11_comes_10 sR_16 rfl <|
    aw_istoreV_n (pc := 11) C (i := 3) (fun x2 => [(0, .ref 0), (1, .int v1), (2, .int x1), (3, .int x2)]) dX11_comes_11 rfl (by decide) (fun _ => rfl) fun x2 =>
    aw_aload_n (pc := 12) C (i := 0) dX11_comes_12 rfl rfl <|
    aw_getR (pc := 13) C (b := 14) dX11_comes_13 fl_X11_49 sR_0 rfl rR_0_18 <|
    aw_iload_n (pc := 16) C (i := 1) dX11_comes_16 rfl rfl <|
    aw_iald (pc := 17) C dX11_comes_17 sR_14 rfl <|
    aw_vlI fun y3 =>
    aw_if (fun c6 => aw_tswA (pc := 18) C (off := 181) (tg := 199) 102 dX11_comes_18 (by rw [c6]; rfl) (by decide) (by decide) rfl rfl (aw_aload_n (pc := 199) C (i := 0) dX11_comes_199 rfl rfl <|
    aw_bipush (pc := 200) C (v := (-9)) dX11_comes_200 rfl <|
    aw_iconst (pc := 202) C (v := 0) dX11_comes_202 rfl <|
    aw_callF (pc := 203) C (cr_V (rest := []) (F := (X11_comesTry (-9) 0)) C (c_X11_comesTry X.2.1 (-9) 0) dX11_comes_203 mf_X11_comesTry ml_X11_166 im_X11_comesTry se_X11_comesTry sR_0 rfl ⟨(Nat.le_of_ble_eq_true rfl), (Nat.le_of_ble_eq_true rfl)⟩ rfl rfl (Nat.le_of_ble_eq_true rfl)) rfl rfl rfl (Nat.zero_le _) (Nat.zero_le _) fun r4 h5 =>
    aw_zret (pc := 206) C dX11_comes_206 rfl rfl)) (fun c6 =>
    aw_if (fun c10 => aw_tswA (pc := 18) C (off := 121) (tg := 139) 103 dX11_comes_18 (by rw [c10]; rfl) (by decide) (by decide) rfl rfl (aw_aload_n (pc := 139) C (i := 0) dX11_comes_139 rfl rfl <|
    aw_iload_n (pc := 140) C (i := 3) dX11_comes_140 rfl rfl <|
    aw_putI (pc := 141) C dX11_comes_141 fp_X11_99 sR_0 rfl fun h7 =>
    aw_iload_n (pc := 144) C (i := 3) dX11_comes_144 rfl rfl <|
    aw_iconst (pc := 145) C (v := 1) dX11_comes_145 rfl <|
    aw_iconst (pc := 146) C (v := 4) dX11_comes_146 rfl <|
    aw_callF (pc := 147) C (cr_S (rest := []) (F := (X11_isIn x2 1 4)) C (c_X11_isIn X.2.1 x2 1 4) dX11_comes_147 mf_X11_isIn ml_X11_126 st_X11_isIn ⟨(Nat.le_of_ble_eq_true rfl), (Nat.le_of_ble_eq_true rfl)⟩ rfl rfl (Nat.le_of_ble_eq_true rfl)) rfl rfl rfl (Nat.zero_le _) (Nat.zero_le _) fun r8 h9 =>
    aw_if_eq (pc := 150) C (tgt := 164) dX11_comes_150 rfl (fun _ =>
    aw_iconst (pc := 164) C (v := 0) dX11_comes_164 rfl <|
    aw_zret (pc := 165) C dX11_comes_165 rfl rfl) (fun _ =>
    aw_aload_n (pc := 153) C (i := 0) dX11_comes_153 rfl rfl <|
    aw_getI (pc := 154) C dX11_comes_154 fl_X11_147 sR_0 rfl <|
    aw_if_ne (pc := 157) C (tgt := 164) dX11_comes_157 rfl (fun _ =>
    aw_iconst (pc := 160) C (v := 1) dX11_comes_160 rfl <|
    aw_goto (pc := 161) C (tgt := 165) dX11_comes_161 rfl <|
    aw_zret (pc := 165) C dX11_comes_165 rfl rfl) (fun _ =>
    aw_iconst (pc := 164) C (v := 0) dX11_comes_164 rfl <|
    aw_zret (pc := 165) C dX11_comes_165 rfl rfl)))) (fun c10 =>
    aw_if (fun c13 => aw_tswA (pc := 18) C (off := 148) (tg := 166) 106 dX11_comes_18 (by rw [c13]; rfl) (by decide) (by decide) rfl rfl (aw_aload_n (pc := 166) C (i := 0) dX11_comes_166 rfl rfl <|
    aw_iload_n (pc := 167) C (i := 2) dX11_comes_167 rfl rfl <|
    aw_callF (pc := 168) C (cr_V (rest := []) (F := (X11_comesJumper x1)) C (c_X11_comesJumper X.2.1 x1) dX11_comes_168 mf_X11_comesJumper ml_X11_160 im_X11_comesJumper se_X11_comesJumper sR_0 rfl ⟨(Nat.le_of_ble_eq_true rfl), (Nat.le_of_ble_eq_true rfl)⟩ rfl rfl (Nat.le_of_ble_eq_true rfl)) rfl rfl rfl (Nat.zero_le _) (Nat.zero_le _) fun r11 h12 =>
    aw_zret (pc := 171) C dX11_comes_171 rfl rfl)) (fun c13 =>
    aw_if (fun c17 => aw_tswA (pc := 18) C (off := 86) (tg := 104) 110 dX11_comes_18 (by rw [c17]; rfl) (by decide) (by decide) rfl rfl (aw_aload_n (pc := 104) C (i := 0) dX11_comes_104 rfl rfl <|
    aw_iload_n (pc := 105) C (i := 3) dX11_comes_105 rfl rfl <|
    aw_putI (pc := 106) C dX11_comes_106 fp_X11_95 sR_0 rfl fun h14 =>
    aw_iload_n (pc := 109) C (i := 3) dX11_comes_109 rfl rfl <|
    aw_iconst (pc := 110) C (v := 4) dX11_comes_110 rfl <|
    aw_bipush (pc := 111) C (v := 20) dX11_comes_111 rfl <|
    aw_callF (pc := 113) C (cr_S (rest := []) (F := (X11_isIn x2 4 20)) C (c_X11_isIn X.2.1 x2 4 20) dX11_comes_113 mf_X11_isIn ml_X11_126 st_X11_isIn ⟨(Nat.le_of_ble_eq_true rfl), (Nat.le_of_ble_eq_true rfl)⟩ rfl rfl (Nat.le_of_ble_eq_true rfl)) rfl rfl rfl (Nat.zero_le _) (Nat.zero_le _) fun r15 h16 =>
    aw_if_eq (pc := 116) C (tgt := 130) dX11_comes_116 rfl (fun _ =>
    aw_iconst (pc := 130) C (v := 0) dX11_comes_130 rfl <|
    aw_zret (pc := 131) C dX11_comes_131 rfl rfl) (fun _ =>
    aw_aload_n (pc := 119) C (i := 0) dX11_comes_119 rfl rfl <|
    aw_getI (pc := 120) C dX11_comes_120 fl_X11_147 sR_0 rfl <|
    aw_if_ne (pc := 123) C (tgt := 130) dX11_comes_123 rfl (fun _ =>
    aw_iconst (pc := 126) C (v := 1) dX11_comes_126 rfl <|
    aw_goto (pc := 127) C (tgt := 131) dX11_comes_127 rfl <|
    aw_zret (pc := 131) C dX11_comes_131 rfl rfl) (fun _ =>
    aw_iconst (pc := 130) C (v := 0) dX11_comes_130 rfl <|
    aw_zret (pc := 131) C dX11_comes_131 rfl rfl)))) (fun c17 =>
    aw_if (fun c26 => aw_tswA (pc := 18) C (off := 154) (tg := 172) 116 dX11_comes_18 (by rw [c26]; rfl) (by decide) (by decide) rfl rfl (aw_aload_n (pc := 172) C (i := 0) dX11_comes_172 rfl rfl <|
    aw_aload_n (pc := 173) C (i := 0) dX11_comes_173 rfl rfl <|
    aw_callF (pc := 174) C (cr_V (rest := [.ref 0]) (F := X11_turnNow) C (c_X11_turnNow X.2.1 ) dX11_comes_174 mf_X11_turnNow ml_X11_150 im_X11_turnNow se_X11_turnNow sR_0 rfl ⟨(Nat.le_of_ble_eq_true rfl), (Nat.le_of_ble_eq_true rfl)⟩ rfl rfl (Nat.le_of_ble_eq_true rfl)) rfl rfl rfl (Nat.zero_le _) (Nat.zero_le _) fun r18 h19 =>
    aw_if_ge (pc := 177) C (tgt := 184) dX11_comes_177 rfl (fun _ =>
    aw_aload_n (pc := 184) C (i := 0) dX11_comes_184 rfl rfl <|
    aw_aload_n (pc := 185) C (i := 0) dX11_comes_185 rfl rfl <|
    aw_callF (pc := 186) C (cr_V (rest := [.ref 0, .ref 0]) (F := X11_turnNow) C (c_X11_turnNow X.2.1 ) dX11_comes_186 mf_X11_turnNow ml_X11_150 im_X11_turnNow se_X11_turnNow sR_0 rfl ⟨(Nat.le_of_ble_eq_true rfl), (Nat.le_of_ble_eq_true rfl)⟩ rfl rfl (Nat.le_of_ble_eq_true rfl)) rfl rfl rfl (Nat.zero_le _) (Nat.zero_le _) fun r20 h21 =>
    aw_iload_n (pc := 189) C (i := 3) dX11_comes_189 rfl rfl <|
    aw_iconst (pc := 190) C (v := 0) dX11_comes_190 rfl <|
    aw_callF (pc := 191) C (cr_V (rest := [.ref 0]) (F := (X11_lengthOf r20 x2 0)) C (c_X11_lengthOf X.2.1 r20 x2 0) dX11_comes_191 mf_X11_lengthOf ml_X11_163 im_X11_lengthOf se_X11_lengthOf sR_0 rfl ⟨(Nat.le_of_ble_eq_true rfl), (Nat.le_of_ble_eq_true rfl)⟩ rfl rfl (Nat.le_of_ble_eq_true rfl)) rfl rfl rfl (Nat.zero_le _) (Nat.zero_le _) fun r22 h23 =>
    aw_drop [3] (aX11_comes_j194 C x2 r22 h23)) (fun _ =>
    aw_iconst (pc := 180) C (v := 0) dX11_comes_180 rfl <|
    aw_goto (pc := 181) C (tgt := 194) dX11_comes_181 rfl <|
    aw_drop [3] (aX11_comes_j194 C x2 0 h19)))) (fun c26 =>
    aw_if (fun c28 => aw_tswA (pc := 18) C (off := 114) (tg := 132) 119 dX11_comes_18 (by rw [c28]; rfl) (by decide) (by decide) rfl rfl (aw_aload_n (pc := 132) C (i := 0) dX11_comes_132 rfl rfl <|
    aw_iload_n (pc := 133) C (i := 3) dX11_comes_133 rfl rfl <|
    aw_putI (pc := 134) C dX11_comes_134 fp_X11_157 sR_0 rfl fun h27 =>
    aw_iconst (pc := 137) C (v := 1) dX11_comes_137 rfl <|
    aw_zret (pc := 138) C dX11_comes_138 rfl rfl)) (fun c28 =>
    aw_tswD (pc := 18) C (N := 18) (td := 207) [102, 103, 106, 110, 116, 119] dX11_comes_18 (List.forall_mem_cons.mpr ⟨ti_ne c6 rfl, List.forall_mem_cons.mpr ⟨ti_ne c10 rfl, List.forall_mem_cons.mpr ⟨ti_ne c13 rfl, List.forall_mem_cons.mpr ⟨ti_ne c17 rfl, List.forall_mem_cons.mpr ⟨ti_ne c26 rfl, List.forall_mem_cons.mpr ⟨ti_ne c28 rfl, fun _ hz => by cases hz⟩⟩⟩⟩⟩⟩) rfl (by decide) rfl (aw_aload_n (pc := 207) C (i := 0) dX11_comes_207 rfl rfl <|
    aw_bipush (pc := 208) C (v := (-8)) dX11_comes_208 rfl <|
    aw_iconst (pc := 210) C (v := 0) dX11_comes_210 rfl <|
    aw_callF (pc := 211) C (cr_V (rest := []) (F := (X11_comesTry (-8) 0)) C (c_X11_comesTry X.2.1 (-8) 0) dX11_comes_211 mf_X11_comesTry ml_X11_166 im_X11_comesTry se_X11_comesTry sR_0 rfl ⟨(Nat.le_of_ble_eq_true rfl), (Nat.le_of_ble_eq_true rfl)⟩ rfl rfl (Nat.le_of_ble_eq_true rfl)) rfl rfl rfl (Nat.zero_le _) (Nat.zero_le _) fun r29 h30 =>
    aw_zret (pc := 214) C dX11_comes_214 rfl rfl)))))))

abbrev rmX11_passes : Room := { frames := 0, cells := 0, slots := 0, locals := 0 }
def X11_passes_j42 (p1 : Nat) (n1 : Nat) (v2 : Int32) (K2 : Int32 → AH → Option (Unit × AH)) (h : AH) : Option (Unit × AH) :=
    vl (sI h 0 27 ((h.1 0 27) + 1)) fun h2 =>
    vl (v2 + 1) fun x3 =>
    K2 x3 h2
set_option maxRecDepth 100000 in
theorem aX11_passes_j42 {X : MCx} {yd : Dyn} {A : Nat → Prop} (C : OK X cX11_passes RX11 3 none rmX11_passes A) (p1 : Nat) (n1 : Nat) (hA1 : ZR.1[p1]? = some (.inl (0, 0, n1))) (v2 : Int32) (K2 : Int32 → AH → Option (Unit × AH)) (hK2 : ∀ (w2 : Int32) (h : AH), AW X 3 ZR yd A 0 0 (QF X rmX11_passes ZR yd rvV A) 2 [(0, .ref 0), (1, .ref p1), (2, .int w2)] [] h (K2 w2 h)) (h : AH) : AW X 3 ZR yd A 0 0 (QF X rmX11_passes ZR yd rvV A) 42 [(0, .ref 0), (1, .ref p1), (2, .int v2)] [] h (X11_passes_j42 p1 n1 v2 K2 h) := by
    exact aw_aload_n (pc := 42) C (i := 0) dX11_passes_42 rfl rfl <|
    aw_dup (pc := 43) C dX11_passes_43 rfl <|
    aw_getI (pc := 44) C dX11_passes_44 fl_X11_184 sR_0 rfl <|
    aw_iconst (pc := 47) C (v := 1) dX11_passes_47 rfl <|
    aw_iadd (pc := 48) C dX11_passes_48 <|
    aw_putI (pc := 49) C dX11_passes_49 fp_X11_184 sR_0 rfl fun h2 =>
    aw_iincV (pc := 52) C (i := 2) (cst := 1) (fun x3 => [(0, .ref 0), (1, .ref p1), (2, .int x3)]) dX11_passes_52 rfl rfl (by decide) (fun _ => rfl) fun x3 =>
    aw_goto (pc := 55) C (tgt := 2) dX11_passes_55 rfl <|
    (hK2 x3 h2)
def X11_passes_l2 (p1 : Nat) (n1 : Nat) : Nat → Int32 → AH → Option (Unit × AH)
  | 0, _, _ => none
  | n + 1, v2, h =>
    if (Int32.ofNat n1) ≤ v2 then (some ((), h))
    else (if (h.1 0 26) = 0 then (ck (h.1 0 27) 240 (ck v2 n1 (vl (sI h p1 v2.toNatClampNeg (h.1 17 (h.1 0 27).toNatClampNeg)) fun h1 =>
    X11_passes_j42 p1 n1 v2 (X11_passes_l2 p1 n1 n) h1)))
    else (ck v2 n1 (ck (h.1 0 27) 240 (vl (sI h 17 (h.1 0 27).toNatClampNeg (h.1 p1 v2.toNatClampNeg)) fun h4 =>
    X11_passes_j42 p1 n1 v2 (X11_passes_l2 p1 n1 n) h4))))
set_option maxRecDepth 100000 in
theorem aX11_passes_l2 {X : MCx} {yd : Dyn} {A : Nat → Prop} (C : OK X cX11_passes RX11 3 none rmX11_passes A) (p1 : Nat) (n1 : Nat) (hA1 : ZR.1[p1]? = some (.inl (0, 0, n1))) : ∀ (n : Nat) (v2 : Int32) (h : AH), AW X 3 ZR yd A 0 0 (QF X rmX11_passes ZR yd rvV A) 2 [(0, .ref 0), (1, .ref p1), (2, .int v2)] [] h (X11_passes_l2 p1 n1 n v2 h) := by
  intro n
  induction n with
  | zero => intro v2 h; exact aw_none
  | succ n ih =>
    intro v2 h
    exact aw_iload_n (pc := 2) C (i := 2) dX11_passes_2 rfl rfl <|
    aw_aload_n (pc := 3) C (i := 1) dX11_passes_3 rfl rfl <|
    aw_alenI (pc := 4) C (v := (Int32.ofNat n1)) (by decide) dX11_passes_4 hA1 rfl rfl <|
    aw_icmp_ge (pc := 5) C (tgt := 58) dX11_passes_5 rfl (fun _ =>
    aw_vret (pc := 58) C dX11_passes_58 rfl rfl) (fun _ =>
    aw_aload_n (pc := 8) C (i := 0) dX11_passes_8 rfl rfl <|
    aw_getI (pc := 9) C dX11_passes_9 fl_X11_180 sR_0 rfl <|
    aw_if_eq (pc := 12) C (tgt := 30) dX11_passes_12 rfl (fun _ =>
    aw_aload_n (pc := 30) C (i := 1) dX11_passes_30 rfl rfl <|
    aw_iload_n (pc := 31) C (i := 2) dX11_passes_31 rfl rfl <|
    aw_aload_n (pc := 32) C (i := 0) dX11_passes_32 rfl rfl <|
    aw_getR (pc := 33) C (b := 17) dX11_passes_33 fl_X11_58 sR_0 rfl rR_0_24 <|
    aw_aload_n (pc := 36) C (i := 0) dX11_passes_36 rfl rfl <|
    aw_getI (pc := 37) C dX11_passes_37 fl_X11_184 sR_0 rfl <|
    aw_iald (pc := 40) C dX11_passes_40 sR_17 rfl <|
    aw_iast (pc := 41) C dX11_passes_41 hA1 rfl fun h1 =>
    (aX11_passes_j42 C p1 n1 hA1 v2 (X11_passes_l2 p1 n1 n) ih h1)) (fun _ =>
    aw_aload_n (pc := 15) C (i := 0) dX11_passes_15 rfl rfl <|
    aw_getR (pc := 16) C (b := 17) dX11_passes_16 fl_X11_58 sR_0 rfl rR_0_24 <|
    aw_aload_n (pc := 19) C (i := 0) dX11_passes_19 rfl rfl <|
    aw_getI (pc := 20) C dX11_passes_20 fl_X11_184 sR_0 rfl <|
    aw_aload_n (pc := 23) C (i := 1) dX11_passes_23 rfl rfl <|
    aw_iload_n (pc := 24) C (i := 2) dX11_passes_24 rfl rfl <|
    aw_iald (pc := 25) C dX11_passes_25 hA1 rfl <|
    aw_iast (pc := 26) C dX11_passes_26 sR_17 rfl fun h4 =>
    aw_goto (pc := 27) C (tgt := 42) dX11_passes_27 rfl <|
    (aX11_passes_j42 C p1 n1 hA1 v2 (X11_passes_l2 p1 n1 n) ih h4)))
def X11_passes (p1 : Nat) (n1 : Nat) (h : AH) : Option (Unit × AH) :=
    X11_passes_l2 p1 n1 FU 0 h
set_option maxRecDepth 100000 in
theorem c_X11_passes (l : Launch) (p1 : Nat) (n1 : Nat) (hA1 : ZR.1[p1]? = some (.inl (0, 0, n1))) : MC l yX11_passes cX11_passes 3 none rmX11_passes ZR [.ref 0, .ref p1] rvV (X11_passes p1 n1) :=
  MC.of (own := RX11) (by decide +kernel) rfl (Nat.le_of_ble_eq_true rfl) fun X yd A h _ C =>
    aw_iconst (pc := 0) C (v := 0) dX11_passes_0 rfl <|
    aw_istore_n (pc := 1) C (i := 2) (lv' := [(0, .ref 0), (1, .ref p1), (2, .int 0)]) dX11_passes_1 rfl (by decide) rfl <|
    (aX11_passes_l2 C p1 n1 hA1 FU 0 h)
