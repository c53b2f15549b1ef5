abbrev rmX11_passOne : Room := { frames := 0, cells := 0, slots := 0, locals := 0 }
def X11_passOne_j38  (v2 : Int32) (h : AH) : Option (Int32 × AH) :=
    vl (sI h 0 27 ((h.1 0 27) + 1)) fun h1 =>
    some (v2, h1)
set_option maxRecDepth 100000 in
theorem aX11_passOne_j38 {X : MCx} {yd : Dyn} {A : Nat → Prop} (C : OK X cX11_passOne RX11 3 (some .int) rmX11_passOne A)  (v2 : Int32) (h : AH) : AW X 3 ZR yd A 0 0 (QF X rmX11_passOne ZR yd rvI A) 38 [(0, .ref 0), (2, .int v2)] [] h (X11_passOne_j38 v2 h) := by
    exact aw_aload_n (pc := 38) C (i := 0) dX11_passOne_38 rfl rfl <|
    aw_dup (pc := 39) C dX11_passOne_39 rfl <|
    aw_getI (pc := 40) C dX11_passOne_40 fl_X11_184 sR_0 rfl <|
    aw_iconst (pc := 43) C (v := 1) dX11_passOne_43 rfl <|
    aw_iadd (pc := 44) C dX11_passOne_44 <|
    aw_putI (pc := 45) C dX11_passOne_45 fp_X11_184 sR_0 rfl fun h1 =>
    aw_iload_n (pc := 48) C (i := 2) dX11_passOne_48 rfl rfl <|
    aw_iret (pc := 49) C dX11_passOne_49 rfl rfl
def X11_passOne_j20  (v1 : Int32) (s0 : Int32) (h : AH) : Option (Int32 × AH) :=
    if (h.1 0 26) = 0 then (X11_passOne_j38 s0 h)
    else (ck (h.1 0 27) 240 (vl (sI h 17 (h.1 0 27).toNatClampNeg v1) fun h2 =>
    X11_passOne_j38 s0 h2))
set_option maxRecDepth 100000 in
theorem aX11_passOne_j20 {X : MCx} {yd : Dyn} {A : Nat → Prop} (C : OK X cX11_passOne RX11 3 (some .int) rmX11_passOne A)  (v1 : Int32) (s0 : Int32) (h : AH) : AW X 3 ZR yd A 0 0 (QF X rmX11_passOne ZR yd rvI A) 20 [(0, .ref 0), (1, .int v1)] [.int s0] h (X11_passOne_j20 v1 s0 h) := by
    exact aw_istore_n (pc := 20) C (i := 2) (lv' := [(0, .ref 0), (1, .int v1), (2, .int s0)]) dX11_passOne_20 rfl (by decide) rfl <|
    aw_aload_n (pc := 21) C (i := 0) dX11_passOne_21 rfl rfl <|
    aw_getI (pc := 22) C dX11_passOne_22 fl_X11_180 sR_0 rfl <|
    aw_if_eq (pc := 25) C (tgt := 38) dX11_passOne_25 rfl (fun _ =>
    aw_drop [0, 2] (aX11_passOne_j38 C s0 h)) (fun _ =>
    aw_aload_n (pc := 28) C (i := 0) dX11_passOne_28 rfl rfl <|
    aw_getR (pc := 29) C (b := 17) dX11_passOne_29 fl_X11_58 sR_0 rfl rR_0_24 <|
    aw_aload_n (pc := 32) C (i := 0) dX11_passOne_32 rfl rfl <|
    aw_getI (pc := 33) C dX11_passOne_33 fl_X11_184 sR_0 rfl <|
    aw_iload_n (pc := 36) C (i := 1) dX11_passOne_36 rfl rfl <|
    aw_iast (pc := 37) C dX11_passOne_37 sR_17 rfl fun h2 =>
    aw_drop [0, 2] (aX11_passOne_j38 C s0 h2))
def X11_passOne (v1 : Int32) (h : AH) : Option (Int32 × AH) :=
    if (h.1 0 26) = 0 then (ck (h.1 0 27) 240 (X11_passOne_j20 v1 (h.1 17 (h.1 0 27).toNatClampNeg) h))
    else (X11_passOne_j20 v1 v1 h)
set_option maxRecDepth 100000 in
theorem c_X11_passOne (l : Launch) (v1 : Int32) : MC l yX11_passOne cX11_passOne 3 (some .int) rmX11_passOne ZR [.ref 0, .int v1] rvI (X11_passOne v1) :=
  MC.of (own := RX11) (by decide +kernel) rfl (Nat.le_of_ble_eq_true rfl) fun X yd A h _ C =>
    aw_aload_n (pc := 0) C (i := 0) dX11_passOne_0 rfl rfl <|
    aw_getI (pc := 1) C dX11_passOne_1 fl_X11_180 sR_0 rfl <|
    aw_if_eq (pc := 4) C (tgt := 11) dX11_passOne_4 rfl (fun _ =>
    aw_aload_n (pc := 11) C (i := 0) dX11_passOne_11 rfl rfl <|
    aw_getR (pc := 12) C (b := 17) dX11_passOne_12 fl_X11_58 sR_0 rfl rR_0_24 <|
    aw_aload_n (pc := 15) C (i := 0) dX11_passOne_15 rfl rfl <|
    aw_getI (pc := 16) C dX11_passOne_16 fl_X11_184 sR_0 rfl <|
    aw_iald (pc := 19) C dX11_passOne_19 sR_17 rfl <|
    (aX11_passOne_j20 C v1 (h.1 17 (h.1 0 27).toNatClampNeg) h)) (fun _ =>
    aw_iload_n (pc := 7) C (i := 1) dX11_passOne_7 rfl rfl <|
    aw_goto (pc := 8) C (tgt := 20) dX11_passOne_8 rfl <|
    (aX11_passOne_j20 C v1 v1 h))

abbrev rmX11_passesAll : Room := { frames := 1, cells := 0, slots := 0, locals := 22 }
def X11_passesAll (v1 : Int32) (v2 : Int32) (h : AH) : Option (Unit × AH) :=
    vl (sI h 0 27 (120 * v1)) fun h1 =>
    cz v2 (vl (sI h1 0 26 v2) fun h2 =>
    bd (X11_passes 2 4 h2) fun _ h4 =>
    bd (X11_passes 3 4 h4) fun _ h6 =>
    bd (X11_passes 4 4 h6) fun _ h8 =>
    bd (X11_passes 5 4 h8) fun _ h10 =>
    bd (X11_passes 6 4 h10) fun _ h12 =>
    bd (X11_passes 7 4 h12) fun _ h14 =>
    bd (X11_passes 8 4 h14) fun _ h16 =>
    bd (X11_passes 9 4 h16) fun _ h18 =>
    bd (X11_passes 10 24 h18) fun _ h20 =>
    bd (X11_passes 11 24 h20) fun _ h22 =>
    bd (X11_passes 12 24 h22) fun _ h24 =>
    bd (X11_passOne (h24.1 0 12) h24) fun r25 h26 =>
    vl (sI h26 0 12 r25) fun h27 =>
    bd (X11_passOne (h27.1 0 13) h27) fun r28 h29 =>
    vl (sI h29 0 13 r28) fun h30 =>
    bd (X11_passOne (h30.1 0 14) h30) fun r31 h32 =>
    vl (sI h32 0 14 r31) fun h33 =>
    bd (X11_passOne (h33.1 0 15) h33) fun r34 h35 =>
    vl (sI h35 0 15 r34) fun h36 =>
    bd (X11_passOne (h36.1 0 16) h36) fun r37 h38 =>
    vl (sI h38 0 16 r37) fun h39 =>
    some ((), h39))
set_option maxRecDepth 100000 in
theorem c_X11_passesAll (l : Launch) (v1 : Int32) (v2 : Int32) : MC l yX11_passesAll cX11_passesAll 3 none rmX11_passesAll ZR [.ref 0, .int v1, .int v2] rvV (X11_passesAll v1 v2) :=
  MC.of (own := RX11) (by decide +kernel) rfl (Nat.le_of_ble_eq_true rfl) fun X yd A h _ C =>
    aw_aload_n (pc := 0) C (i := 0) dX11_passesAll_0 rfl rfl <|
    aw_bipush (pc := 1) C (v := 120) dX11_passesAll_1 rfl <|
    aw_iload_n (pc := 3) C (i := 1) dX11_passesAll_3 rfl rfl <|
    aw_imul (pc := 4) C dX11_passesAll_4 <|
    aw_putI (pc := 5) C dX11_passesAll_5 fp_X11_184 sR_0 rfl fun h1 =>
    aw_aload_n (pc := 8) C (i := 0) dX11_passesAll_8 rfl rfl <|
    aw_iload_n (pc := 9) C (i := 2) dX11_passesAll_9 rfl rfl <|
    aw_putZ (pc := 10) C dX11_passesAll_10 fp_X11_180 sR_0 rfl fun h2 =>
    aw_aload_n (pc := 13) C (i := 0) dX11_passesAll_13 rfl rfl <|
    aw_aload_n (pc := 14) C (i := 0) dX11_passesAll_14 rfl rfl <|
    aw_getR (pc := 15) C (b := 2) dX11_passesAll_15 fl_X11_13 sR_0 rfl rR_0_1 <|
    aw_callF (pc := 18) C (cr_V (rest := []) (F := (X11_passes 2 4)) C (c_X11_passes X.2.1 2 4 sR_2) dX11_passesAll_18 mf_X11_passes ml_X11_187 im_X11_passes se_X11_passes sR_0 rfl ⟨(Nat.le_of_ble_eq_true rfl), (Nat.le_of_ble_eq_true rfl)⟩ rfl rfl (Nat.le_of_ble_eq_true rfl)) rfl rfl rfl (Nat.zero_le _) (Nat.zero_le _) fun _ h4 =>
    aw_aload_n (pc := 21) C (i := 0) dX11_passesAll_21 rfl rfl <|
    aw_aload_n (pc := 22) C (i := 0) dX11_passesAll_22 rfl rfl <|
    aw_getR (pc := 23) C (b := 3) dX11_passesAll_23 fl_X11_16 sR_0 rfl rR_0_2 <|
    aw_callF (pc := 26) C (cr_V (rest := []) (F := (X11_passes 3 4)) C (c_X11_passes X.2.1 3 4 sR_3) dX11_passesAll_26 mf_X11_passes ml_X11_187 im_X11_passes se_X11_passes sR_0 rfl ⟨(Nat.le_of_ble_eq_true rfl), (Nat.le_of_ble_eq_true rfl)⟩ rfl rfl (Nat.le_of_ble_eq_true rfl)) rfl rfl rfl (Nat.zero_le _) (Nat.zero_le _) fun _ h6 =>
    aw_aload_n (pc := 29) C (i := 0) dX11_passesAll_29 rfl rfl <|
    aw_aload_n (pc := 30) C (i := 0) dX11_passesAll_30 rfl rfl <|
    aw_getR (pc := 31) C (b := 4) dX11_passesAll_31 fl_X11_19 sR_0 rfl rR_0_3 <|
    aw_callF (pc := 34) C (cr_V (rest := []) (F := (X11_passes 4 4)) C (c_X11_passes X.2.1 4 4 sR_4) dX11_passesAll_34 mf_X11_passes ml_X11_187 im_X11_passes se_X11_passes sR_0 rfl ⟨(Nat.le_of_ble_eq_true rfl), (Nat.le_of_ble_eq_true rfl)⟩ rfl rfl (Nat.le_of_ble_eq_true rfl)) rfl rfl rfl (Nat.zero_le _) (Nat.zero_le _) fun _ h8 =>
    aw_aload_n (pc := 37) C (i := 0) dX11_passesAll_37 rfl rfl <|
    aw_aload_n (pc := 38) C (i := 0) dX11_passesAll_38 rfl rfl <|
    aw_getR (pc := 39) C (b := 5) dX11_passesAll_39 fl_X11_22 sR_0 rfl rR_0_4 <|
    aw_callF (pc := 42) C (cr_V (rest := []) (F := (X11_passes 5 4)) C (c_X11_passes X.2.1 5 4 sR_5) dX11_passesAll_42 mf_X11_passes ml_X11_187 im_X11_passes se_X11_passes sR_0 rfl ⟨(Nat.le_of_ble_eq_true rfl), (Nat.le_of_ble_eq_true rfl)⟩ rfl rfl (Nat.le_of_ble_eq_true rfl)) rfl rfl rfl (Nat.zero_le _) (Nat.zero_le _) fun _ h10 =>
    aw_aload_n (pc := 45) C (i := 0) dX11_passesAll_45 rfl rfl <|
    aw_aload_n (pc := 46) C (i := 0) dX11_passesAll_46 rfl rfl <|
    aw_getR (pc := 47) C (b := 6) dX11_passesAll_47 fl_X11_25 sR_0 rfl rR_0_5 <|
    aw_callF (pc := 50) C (cr_V (rest := []) (F := (X11_passes 6 4)) C (c_X11_passes X.2.1 6 4 sR_6) dX11_passesAll_50 mf_X11_passes ml_X11_187 im_X11_passes se_X11_passes sR_0 rfl ⟨(Nat.le_of_ble_eq_true rfl), (Nat.le_of_ble_eq_true rfl)⟩ rfl rfl (Nat.le_of_ble_eq_true rfl)) rfl rfl rfl (Nat.zero_le _) (Nat.zero_le _) fun _ h12 =>
    aw_aload_n (pc := 53) C (i := 0) dX11_passesAll_53 rfl rfl <|
    aw_aload_n (pc := 54) C (i := 0) dX11_passesAll_54 rfl rfl <|
    aw_getR (pc := 55) C (b := 7) dX11_passesAll_55 fl_X11_28 sR_0 rfl rR_0_6 <|
    aw_callF (pc := 58) C (cr_V (rest := []) (F := (X11_passes 7 4)) C (c_X11_passes X.2.1 7 4 sR_7) dX11_passesAll_58 mf_X11_passes ml_X11_187 im_X11_passes se_X11_passes sR_0 rfl ⟨(Nat.le_of_ble_eq_true rfl), (Nat.le_of_ble_eq_true rfl)⟩ rfl rfl (Nat.le_of_ble_eq_true rfl)) rfl rfl rfl (Nat.zero_le _) (Nat.zero_le _) fun _ h14 =>
    aw_aload_n (pc := 61) C (i := 0) dX11_passesAll_61 rfl rfl <|
    aw_aload_n (pc := 62) C (i := 0) dX11_passesAll_62 rfl rfl <|
    aw_getR (pc := 63) C (b := 8) dX11_passesAll_63 fl_X11_31 sR_0 rfl rR_0_7 <|
    aw_callF (pc := 66) C (cr_V (rest := []) (F := (X11_passes 8 4)) C (c_X11_passes X.2.1 8 4 sR_8) dX11_passesAll_66 mf_X11_passes ml_X11_187 im_X11_passes se_X11_passes sR_0 rfl ⟨(Nat.le_of_ble_eq_true rfl), (Nat.le_of_ble_eq_true rfl)⟩ rfl rfl (Nat.le_of_ble_eq_true rfl)) rfl rfl rfl (Nat.zero_le _) (Nat.zero_le _) fun _ h16 =>
    aw_aload_n (pc := 69) C (i := 0) dX11_passesAll_69 rfl rfl <|
    aw_aload_n (pc := 70) C (i := 0) dX11_passesAll_70 rfl rfl <|
    aw_getR (pc := 71) C (b := 9) dX11_passesAll_71 fl_X11_34 sR_0 rfl rR_0_8 <|
    aw_callF (pc := 74) C (cr_V (rest := []) (F := (X11_passes 9 4)) C (c_X11_passes X.2.1 9 4 sR_9) dX11_passesAll_74 mf_X11_passes ml_X11_187 im_X11_passes se_X11_passes sR_0 rfl ⟨(Nat.le_of_ble_eq_true rfl), (Nat.le_of_ble_eq_true rfl)⟩ rfl rfl (Nat.le_of_ble_eq_true rfl)) rfl rfl rfl (Nat.zero_le _) (Nat.zero_le _) fun _ h18 =>
    aw_aload_n (pc := 77) C (i := 0) dX11_passesAll_77 rfl rfl <|
    aw_aload_n (pc := 78) C (i := 0) dX11_passesAll_78 rfl rfl <|
    aw_getR (pc := 79) C (b := 10) dX11_passesAll_79 fl_X11_37 sR_0 rfl rR_0_9 <|
    aw_callF (pc := 82) C (cr_V (rest := []) (F := (X11_passes 10 24)) C (c_X11_passes X.2.1 10 24 sR_10) dX11_passesAll_82 mf_X11_passes ml_X11_187 im_X11_passes se_X11_passes sR_0 rfl ⟨(Nat.le_of_ble_eq_true rfl), (Nat.le_of_ble_eq_true rfl)⟩ rfl rfl (Nat.le_of_ble_eq_true rfl)) rfl rfl rfl (Nat.zero_le _) (Nat.zero_le _) fun _ h20 =>
    aw_aload_n (pc := 85) C (i := 0) dX11_passesAll_85 rfl rfl <|
    aw_aload_n (pc := 86) C (i := 0) dX11_passesAll_86 rfl rfl <|
    aw_getR (pc := 87) C (b := 11) dX11_passesAll_87 fl_X11_40 sR_0 rfl rR_0_10 <|
    aw_callF (pc := 90) C (cr_V (rest := []) (F := (X11_passes 11 24)) C (c_X11_passes X.2.1 11 24 sR_11) dX11_passesAll_90 mf_X11_passes ml_X11_187 im_X11_passes se_X11_passes sR_0 rfl ⟨(Nat.le_of_ble_eq_true rfl), (Nat.le_of_ble_eq_true rfl)⟩ rfl rfl (Nat.le_of_ble_eq_true rfl)) rfl rfl rfl (Nat.zero_le _) (Nat.zero_le _) fun _ h22 =>
    aw_aload_n (pc := 93) C (i := 0) dX11_passesAll_93 rfl rfl <|
    aw_aload_n (pc := 94) C (i := 0) dX11_passesAll_94 rfl rfl <|
    aw_getR (pc := 95) C (b := 12) dX11_passesAll_95 fl_X11_43 sR_0 rfl rR_0_11 <|
    aw_callF (pc := 98) C (cr_V (rest := []) (F := (X11_passes 12 24)) C (c_X11_passes X.2.1 12 24 sR_12) dX11_passesAll_98 mf_X11_passes ml_X11_187 im_X11_passes se_X11_passes sR_0 rfl ⟨(Nat.le_of_ble_eq_true rfl), (Nat.le_of_ble_eq_true rfl)⟩ rfl rfl (Nat.le_of_ble_eq_true rfl)) rfl rfl rfl (Nat.zero_le _) (Nat.zero_le _) fun _ h24 =>
    aw_aload_n (pc := 101) C (i := 0) dX11_passesAll_101 rfl rfl <|
    aw_aload_n (pc := 102) C (i := 0) dX11_passesAll_102 rfl rfl <|
    aw_aload_n (pc := 103) C (i := 0) dX11_passesAll_103 rfl rfl <|
    aw_getI (pc := 104) C dX11_passesAll_104 fl_X11_95 sR_0 rfl <|
    aw_callF (pc := 107) C (cr_V (rest := [.ref 0]) (F := (X11_passOne (h24.1 0 12))) C (c_X11_passOne X.2.1 (h24.1 0 12)) dX11_passesAll_107 mf_X11_passOne ml_X11_191 im_X11_passOne se_X11_passOne sR_0 rfl ⟨(Nat.le_of_ble_eq_true rfl), (Nat.le_of_ble_eq_true rfl)⟩ rfl rfl (Nat.le_of_ble_eq_true rfl)) rfl rfl rfl (Nat.zero_le _) (Nat.zero_le _) fun r25 h26 =>
    aw_putI (pc := 110) C dX11_passesAll_110 fp_X11_95 sR_0 rfl fun h27 =>
    aw_aload_n (pc := 113) C (i := 0) dX11_passesAll_113 rfl rfl <|
    aw_aload_n (pc := 114) C (i := 0) dX11_passesAll_114 rfl rfl <|
    aw_aload_n (pc := 115) C (i := 0) dX11_passesAll_115 rfl rfl <|
    aw_getI (pc := 116) C dX11_passesAll_116 fl_X11_99 sR_0 rfl <|
    aw_callF (pc := 119) C (cr_V (rest := [.ref 0]) (F := (X11_passOne (h27.1 0 13))) C (c_X11_passOne X.2.1 (h27.1 0 13)) dX11_passesAll_119 mf_X11_passOne ml_X11_191 im_X11_passOne se_X11_passOne sR_0 rfl ⟨(Nat.le_of_ble_eq_true rfl), (Nat.le_of_ble_eq_true rfl)⟩ rfl rfl (Nat.le_of_ble_eq_true rfl)) rfl rfl rfl (Nat.zero_le _) (Nat.zero_le _) fun r28 h29 =>
    aw_putI (pc := 122) C dX11_passesAll_122 fp_X11_99 sR_0 rfl fun h30 =>
    aw_aload_n (pc := 125) C (i := 0) dX11_passesAll_125 rfl rfl <|
    aw_aload_n (pc := 126) C (i := 0) dX11_passesAll_126 rfl rfl <|
    aw_aload_n (pc := 127) C (i := 0) dX11_passesAll_127 rfl rfl <|
    aw_getI (pc := 128) C dX11_passesAll_128 fl_X11_157 sR_0 rfl <|
    aw_callF (pc := 131) C (cr_V (rest := [.ref 0]) (F := (X11_passOne (h30.1 0 14))) C (c_X11_passOne X.2.1 (h30.1 0 14)) dX11_passesAll_131 mf_X11_passOne ml_X11_191 im_X11_passOne se_X11_passOne sR_0 rfl ⟨(Nat.le_of_ble_eq_true rfl), (Nat.le_of_ble_eq_true rfl)⟩ rfl rfl (Nat.le_of_ble_eq_true rfl)) rfl rfl rfl (Nat.zero_le _) (Nat.zero_le _) fun r31 h32 =>
    aw_putI (pc := 134) C dX11_passesAll_134 fp_X11_157 sR_0 rfl fun h33 =>
    aw_aload_n (pc := 137) C (i := 0) dX11_passesAll_137 rfl rfl <|
    aw_aload_n (pc := 138) C (i := 0) dX11_passesAll_138 rfl rfl <|
    aw_aload_n (pc := 139) C (i := 0) dX11_passesAll_139 rfl rfl <|
    aw_getI (pc := 140) C dX11_passesAll_140 fl_X11_105 sR_0 rfl <|
    aw_callF (pc := 143) C (cr_V (rest := [.ref 0]) (F := (X11_passOne (h33.1 0 15))) C (c_X11_passOne X.2.1 (h33.1 0 15)) dX11_passesAll_143 mf_X11_passOne ml_X11_191 im_X11_passOne se_X11_passOne sR_0 rfl ⟨(Nat.le_of_ble_eq_true rfl), (Nat.le_of_ble_eq_true rfl)⟩ rfl rfl (Nat.le_of_ble_eq_true rfl)) rfl rfl rfl (Nat.zero_le _) (Nat.zero_le _) fun r34 h35 =>
    aw_putI (pc := 146) C dX11_passesAll_146 fp_X11_105 sR_0 rfl fun h36 =>
    aw_aload_n (pc := 149) C (i := 0) dX11_passesAll_149 rfl rfl <|
    aw_aload_n (pc := 150) C (i := 0) dX11_passesAll_150 rfl rfl <|
    aw_aload_n (pc := 151) C (i := 0) dX11_passesAll_151 rfl rfl <|
    aw_getI (pc := 152) C dX11_passesAll_152 fl_X11_147 sR_0 rfl <|
    aw_callF (pc := 155) C (cr_V (rest := [.ref 0]) (F := (X11_passOne (h36.1 0 16))) C (c_X11_passOne X.2.1 (h36.1 0 16)) dX11_passesAll_155 mf_X11_passOne ml_X11_191 im_X11_passOne se_X11_passOne sR_0 rfl ⟨(Nat.le_of_ble_eq_true rfl), (Nat.le_of_ble_eq_true rfl)⟩ rfl rfl (Nat.le_of_ble_eq_true rfl)) rfl rfl rfl (Nat.zero_le _) (Nat.zero_le _) fun r37 h38 =>
    aw_putI (pc := 158) C dX11_passesAll_158 fp_X11_147 sR_0 rfl fun h39 =>
    aw_vret (pc := 161) C dX11_passesAll_161 rfl rfl

abbrev rmX11_ground : Room := { frames := 7, cells := 0, slots := 0, locals := 155 }
def X11_ground_l86  : Nat → Int32 → AH → Option (Int32 × AH)
  | 0, _, _ => none
  | n + 1, v2, h =>
    if (h.1 0 23) ≤ v2 then (some ((h.1 0 23), h))
    else (bd (X11_comes v2 h) fun r6 h7 =>
    if r6 = 0 then (bd (X11_passesAll 1 0 h7) fun _ h9 =>
    ck v2 48 (some (((-2000) - (h9.1 15 v2.toNatClampNeg)), h9)))
    else (vl (v2 + 1) fun x10 =>
    (X11_ground_l86 n) x10 h7))
set_option maxRecDepth 100000 in
theorem aX11_ground_l86 {X : MCx} {yd : Dyn} {A : Nat → Prop} (C : OK X cX11_ground RX11 3 (some .int) rmX11_ground A)  : ∀ (n : Nat) (v2 : Int32) (h : AH), AW X 3 ZR yd A 0 0 (QF X rmX11_ground ZR yd rvI A) 86 [(0, .ref 0), (2, .int v2)] [] h (X11_ground_l86 n v2 h) := by
  intro n
  induction n with
  | zero => intro v2 h; exact aw_none
  | succ n ih =>
    intro v2 h
    exact aw_iload_n (pc := 86) C (i := 2) dX11_ground_86 rfl rfl <|
    aw_aload_n (pc := 87) C (i := 0) dX11_ground_87 rfl rfl <|
    aw_getI (pc := 88) C dX11_ground_88 fl_X11_141 sR_0 rfl <|
    aw_icmp_ge (pc := 91) C (tgt := 128) dX11_ground_91 rfl (fun _ =>
    aw_aload_n (pc := 128) C (i := 0) dX11_ground_128 rfl rfl <|
    aw_getI (pc := 129) C dX11_ground_129 fl_X11_141 sR_0 rfl <|
    aw_iret (pc := 132) C dX11_ground_132 rfl rfl) (fun _ =>
    aw_aload_n (pc := 94) C (i := 0) dX11_ground_94 rfl rfl <|
    aw_iload_n (pc := 95) C (i := 2) dX11_ground_95 rfl rfl <|
    aw_callF (pc := 96) C (cr_V (rest := []) (F := (X11_comes v2)) C (c_X11_comes X.2.1 v2) dX11_ground_96 mf_X11_comes ml_X11_177 im_X11_comes se_X11_comes sR_0 rfl ⟨(Nat.le_of_ble_eq_true rfl), (Nat.le_of_ble_eq_true rfl)⟩ rfl rfl (Nat.le_of_ble_eq_true rfl)) rfl rfl rfl (Nat.zero_le _) (Nat.zero_le _) fun r6 h7 =>
    aw_if_eq (pc := 99) C (tgt := 105) dX11_ground_99 rfl (fun _ =>
    aw_aload_n (pc := 105) C (i := 0) dX11_ground_105 rfl rfl <|
    aw_iconst (pc := 106) C (v := 1) dX11_ground_106 rfl <|
    aw_iconst (pc := 107) C (v := 0) dX11_ground_107 rfl <|
    aw_callF (pc := 108) C (cr_V (rest := []) (F := (X11_passesAll 1 0)) C (c_X11_passesAll X.2.1 1 0) dX11_ground_108 mf_X11_passesAll ml_X11_173 im_X11_passesAll se_X11_passesAll sR_0 rfl ⟨(Nat.le_of_ble_eq_true rfl), (Nat.le_of_ble_eq_true rfl)⟩ rfl rfl (Nat.le_of_ble_eq_true rfl)) rfl rfl rfl (Nat.zero_le _) (Nat.zero_le _) fun _ h9 =>
    aw_sipush (pc := 111) C (v := (-2000)) dX11_ground_111 rfl <|
    aw_aload_n (pc := 114) C (i := 0) dX11_ground_114 rfl rfl <|
    aw_getR (pc := 115) C (b := 15) dX11_ground_115 fl_X11_52 sR_0 rfl rR_0_19 <|
    aw_iload_n (pc := 118) C (i := 2) dX11_ground_118 rfl rfl <|
    aw_iald (pc := 119) C dX11_ground_119 sR_15 rfl <|
    aw_isub (pc := 120) C dX11_ground_120 <|
    aw_iret (pc := 121) C dX11_ground_121 rfl rfl) (fun _ =>
    aw_goto (pc := 102) C (tgt := 122) dX11_ground_102 rfl <|
    aw_iincV (pc := 122) C (i := 2) (cst := 1) (fun x10 => [(0, .ref 0), (2, .int x10)]) dX11_ground_122 rfl rfl (by decide) (fun _ => rfl) fun x10 =>
    aw_goto (pc := 125) C (tgt := 86) dX11_ground_125 rfl <|
    (ih x10 h7)))
def X11_ground_j60  (v1 : Int32) (h : AH) : Option (Int32 × AH) :=
    vl (sI h 0 21 0) fun h3 =>
    if v1 = 0 then (some (((-1000) - (h3.1 0 22)), h3))
    else (bd (X11_passesAll 1 1 h3) fun _ h5 =>
    X11_ground_l86 FU 0 h5)
set_option maxRecDepth 100000 in
theorem aX11_ground_j60 {X : MCx} {yd : Dyn} {A : Nat → Prop} (C : OK X cX11_ground RX11 3 (some .int) rmX11_ground A)  (v1 : Int32) (h : AH) : AW X 3 ZR yd A 0 0 (QF X rmX11_ground ZR yd rvI A) 60 [(0, .ref 0), (1, .int v1)] [] h (X11_ground_j60 v1 h) := by
    exact aw_aload_n (pc := 60) C (i := 0) dX11_ground_60 rfl rfl <|
    aw_iconst (pc := 61) C (v := 0) dX11_ground_61 rfl <|
    aw_putI (pc := 62) C dX11_ground_62 fp_X11_112 sR_0 rfl fun h3 =>
    aw_iload_n (pc := 65) C (i := 1) dX11_ground_65 rfl rfl <|
    aw_if_ne (pc := 66) C (tgt := 78) dX11_ground_66 rfl (fun _ =>
    aw_sipush (pc := 69) C (v := (-1000)) dX11_ground_69 rfl <|
    aw_aload_n (pc := 72) C (i := 0) dX11_ground_72 rfl rfl <|
    aw_getI (pc := 73) C dX11_ground_73 fl_X11_119 sR_0 rfl <|
    aw_isub (pc := 76) C dX11_ground_76 <|
    aw_iret (pc := 77) C dX11_ground_77 rfl rfl) (fun _ =>
    aw_aload_n (pc := 78) C (i := 0) dX11_ground_78 rfl rfl <|
    aw_iconst (pc := 79) C (v := 1) dX11_ground_79 rfl <|
    aw_iconst (pc := 80) C (v := 1) dX11_ground_80 rfl <|
    aw_callF (pc := 81) C (cr_V (rest := []) (F := (X11_passesAll 1 1)) C (c_X11_passesAll X.2.1 1 1) dX11_ground_81 mf_X11_passesAll ml_X11_173 im_X11_passesAll se_X11_passesAll sR_0 rfl ⟨(Nat.le_of_ble_eq_true rfl), (Nat.le_of_ble_eq_true rfl)⟩ rfl rfl (Nat.le_of_ble_eq_true rfl)) rfl rfl rfl (Nat.zero_le _) (Nat.zero_le _) fun _ h5 =>
    aw_iconst (pc := 84) C (v := 0) dX11_ground_84 rfl <|
    aw_istore_n (pc := 85) C (i := 2) (lv' := [(0, .ref 0), (1, .int v1), (2, .int 0)]) dX11_ground_85 rfl (by decide) rfl <|
    aw_drop [0, 2] (aX11_ground_l86 C FU 0 h5))
def X11_ground_j53  (v1 : Int32) (K12 : Int32 → AH → Option (Int32 × AH)) (s0 : Int32) (s1 : Int32) (h : AH) : Option (Int32 × AH) :=
    vl (sI h 0 23 (s1 + s0)) fun h13 =>
    K12 v1 h13
set_option maxRecDepth 100000 in
theorem aX11_ground_j53 {X : MCx} {yd : Dyn} {A : Nat → Prop} (C : OK X cX11_ground RX11 3 (some .int) rmX11_ground A)  (v1 : Int32) (K12 : Int32 → AH → Option (Int32 × AH)) (hK12 : ∀ (w1 : Int32) (h : AH), AW X 3 ZR yd A 0 0 (QF X rmX11_ground ZR yd rvI A) 12 [(0, .ref 0), (1, .int w1)] [] h (K12 w1 h)) (s0 : Int32) (s1 : Int32) (h : AH) : AW X 3 ZR yd A 0 0 (QF X rmX11_ground ZR yd rvI A) 53 [(0, .ref 0), (1, .int v1)] [.int s0, .int s1, .ref 0] h (X11_ground_j53 v1 K12 s0 s1 h) := by
    exact aw_iadd (pc := 53) C dX11_ground_53 <|
    aw_putI (pc := 54) C dX11_ground_54 fp_X11_141 sR_0 rfl fun h13 =>
    aw_goto (pc := 57) C (tgt := 12) dX11_ground_57 rfl <|
    (hK12 v1 h13)
def X11_ground_j34  (K12 : Int32 → AH → Option (Int32 × AH)) (h : AH) : Option (Int32 × AH) :=
    bd (X11_statement h) fun r11 h12 =>
    if r11 = 0 then (X11_ground_j53 r11 K12 0 (h12.1 0 23) h12)
    else (X11_ground_j53 r11 K12 1 (h12.1 0 23) h12)
set_option maxRecDepth 100000 in
theorem aX11_ground_j34 {X : MCx} {yd : Dyn} {A : Nat → Prop} (C : OK X cX11_ground RX11 3 (some .int) rmX11_ground A)  (K12 : Int32 → AH → Option (Int32 × AH)) (hK12 : ∀ (w1 : Int32) (h : AH), AW X 3 ZR yd A 0 0 (QF X rmX11_ground ZR yd rvI A) 12 [(0, .ref 0), (1, .int w1)] [] h (K12 w1 h)) (h : AH) : AW X 3 ZR yd A 0 0 (QF X rmX11_ground ZR yd rvI A) 34 [(0, .ref 0)] [] h (X11_ground_j34 K12 h) := by
    exact aw_aload_n (pc := 34) C (i := 0) dX11_ground_34 rfl rfl <|
    aw_callF (pc := 35) C (cr_V (rest := []) (F := X11_statement) C (c_X11_statement X.2.1 ) dX11_ground_35 mf_X11_statement ml_X11_169 im_X11_statement se_X11_statement sR_0 rfl ⟨(Nat.le_of_ble_eq_true rfl), (Nat.le_of_ble_eq_true rfl)⟩ rfl rfl (Nat.le_of_ble_eq_true rfl)) rfl rfl rfl (Nat.zero_le _) (Nat.zero_le _) fun r11 h12 =>
    aw_istore_n (pc := 38) C (i := 1) (lv' := [(0, .ref 0), (1, .int r11)]) dX11_ground_38 rfl (by decide) rfl <|
    aw_aload_n (pc := 39) C (i := 0) dX11_ground_39 rfl rfl <|
    aw_dup (pc := 40) C dX11_ground_40 rfl <|
    aw_getI (pc := 41) C dX11_ground_41 fl_X11_141 sR_0 rfl <|
    aw_iload_n (pc := 44) C (i := 1) dX11_ground_44 rfl rfl <|
    aw_if_eq (pc := 45) C (tgt := 52) dX11_ground_45 rfl (fun _ =>
    aw_iconst (pc := 52) C (v := 0) dX11_ground_52 rfl <|
    (aX11_ground_j53 C r11 K12 hK12 0 (h12.1 0 23) h12)) (fun _ =>
    aw_iconst (pc := 48) C (v := 1) dX11_ground_48 rfl <|
    aw_goto (pc := 49) C (tgt := 53) dX11_ground_49 rfl <|
    (aX11_ground_j53 C r11 K12 hK12 1 (h12.1 0 23) h12))
def X11_ground_l12  : Nat → Int32 → AH → Option (Int32 × AH)
  | 0, _, _ => none
  | n + 1, v1, h =>
    if v1 = 0 then (X11_ground_j60 v1 h)
    else (if (h.1 0 22) < (h.1 0 21) then (X11_ground_j34 (X11_ground_l12 n) h)
    else (if (h.1 0 23) = 0 then (X11_ground_j34 (X11_ground_l12 n) h)
    else (X11_ground_j60 v1 h)))
set_option maxRecDepth 100000 in
theorem aX11_ground_l12 {X : MCx} {yd : Dyn} {A : Nat → Prop} (C : OK X cX11_ground RX11 3 (some .int) rmX11_ground A)  : ∀ (n : Nat) (v1 : Int32) (h : AH), AW X 3 ZR yd A 0 0 (QF X rmX11_ground ZR yd rvI A) 12 [(0, .ref 0), (1, .int v1)] [] h (X11_ground_l12 n v1 h) := by
  intro n
  induction n with
  | zero => intro v1 h; exact aw_none
  | succ n ih =>
    intro v1 h
    exact aw_iload_n (pc := 12) C (i := 1) dX11_ground_12 rfl rfl <|
    aw_if_eq (pc := 13) C (tgt := 60) dX11_ground_13 rfl (fun _ =>
    (aX11_ground_j60 C v1 h)) (fun _ =>
    aw_aload_n (pc := 16) C (i := 0) dX11_ground_16 rfl rfl <|
    aw_getI (pc := 17) C dX11_ground_17 fl_X11_119 sR_0 rfl <|
    aw_aload_n (pc := 20) C (i := 0) dX11_ground_20 rfl rfl <|
    aw_getI (pc := 21) C dX11_ground_21 fl_X11_112 sR_0 rfl <|
    aw_icmp_lt (pc := 24) C (tgt := 34) dX11_ground_24 rfl (fun _ =>
    aw_drop [0] (aX11_ground_j34 C (X11_ground_l12 n) ih h)) (fun _ =>
    aw_aload_n (pc := 27) C (i := 0) dX11_ground_27 rfl rfl <|
    aw_getI (pc := 28) C dX11_ground_28 fl_X11_141 sR_0 rfl <|
    aw_if_ne (pc := 31) C (tgt := 60) dX11_ground_31 rfl (fun _ =>
    aw_drop [0] (aX11_ground_j34 C (X11_ground_l12 n) ih h)) (fun _ =>
    (aX11_ground_j60 C v1 h))))
def X11_ground  (h : AH) : Option (Int32 × AH) :=
    vl (sI h 0 22 0) fun h1 =>
    vl (sI h1 0 23 0) fun h2 =>
    X11_ground_l12 FU 1 h2
set_option maxRecDepth 100000 in
theorem c_X11_ground (l : Launch)  : MC l yX11_ground cX11_ground 3 (some .int) rmX11_ground ZR [.ref 0] rvI (X11_ground) :=
  MC.of (own := RX11) (by decide +kernel) rfl (Nat.le_of_ble_eq_true rfl) fun X yd A h _ C =>
    aw_aload_n (pc := 0) C (i := 0) dX11_ground_0 rfl rfl <|
    aw_iconst (pc := 1) C (v := 0) dX11_ground_1 rfl <|
    aw_putI (pc := 2) C dX11_ground_2 fp_X11_119 sR_0 rfl fun h1 =>
    aw_aload_n (pc := 5) C (i := 0) dX11_ground_5 rfl rfl <|
    aw_iconst (pc := 6) C (v := 0) dX11_ground_6 rfl <|
    aw_putI (pc := 7) C dX11_ground_7 fp_X11_141 sR_0 rfl fun h2 =>
    aw_iconst (pc := 10) C (v := 1) dX11_ground_10 rfl <|
    aw_istore_n (pc := 11) C (i := 1) (lv' := [(0, .ref 0), (1, .int 1)]) dX11_ground_11 rfl (by decide) rfl <|
    (aX11_ground_l12 C FU 1 h2)

abbrev rmX11_image : Room := { frames := 2, cells := 0, slots := 0, locals := 44 }
def X11_image  (h : AH) : Option (Int32 × AH) :=
    cz 1 (vl (sI h 0 25 1) fun h1 =>
    bd (X11_passesAll 0 1 h1) fun _ h3 =>
    some ((h3.1 0 16), h3))
set_option maxRecDepth 100000 in
theorem c_X11_image (l : Launch)  : MC l yX11_image cX11_image 1 (some .int) rmX11_image ZR [.ref 0] rvI (X11_image) :=
  MC.of (own := RX11) (by decide +kernel) rfl (Nat.le_of_ble_eq_true rfl) fun X yd A h _ C =>
    aw_aload_n (pc := 0) C (i := 0) dX11_image_0 rfl rfl <|
    aw_iconst (pc := 1) C (v := 1) dX11_image_1 rfl <|
    aw_putZ (pc := 2) C dX11_image_2 fp_X11_194 sR_0 rfl fun h1 =>
    aw_aload_n (pc := 5) C (i := 0) dX11_image_5 rfl rfl <|
    aw_iconst (pc := 6) C (v := 0) dX11_image_6 rfl <|
    aw_iconst (pc := 7) C (v := 1) dX11_image_7 rfl <|
    aw_callF (pc := 8) C (cr_V (rest := []) (F := (X11_passesAll 0 1)) C (c_X11_passesAll X.2.1 0 1) dX11_image_8 mf_X11_passesAll ml_X11_173 im_X11_passesAll se_X11_passesAll sR_0 rfl ⟨(Nat.le_of_ble_eq_true rfl), (Nat.le_of_ble_eq_true rfl)⟩ rfl rfl (Nat.le_of_ble_eq_true rfl)) rfl rfl rfl (Nat.zero_le _) (Nat.zero_le _) fun _ h3 =>
    aw_aload_n (pc := 11) C (i := 0) dX11_image_11 rfl rfl <|
    aw_getI (pc := 12) C dX11_image_12 fl_X11_147 sR_0 rfl <|
    aw_iret (pc := 15) C dX11_image_15 rfl rfl

abbrev rmX11_restore : Room := { frames := 2, cells := 0, slots := 0, locals := 44 }
def X11_restore  (h : AH) : Option (Int32 × AH) :=
    if (h.1 0 25) = 0 then (bd (X11_no (-3) h) fun r3 h4 =>
    some (r3, h4))
    else (bd (X11_passesAll 0 0 h) fun _ h2 =>
    some ((h2.1 0 16), h2))
set_option maxRecDepth 100000 in
theorem c_X11_restore (l : Launch)  : MC l yX11_restore cX11_restore 1 (some .int) rmX11_restore ZR [.ref 0] rvI (X11_restore) :=
  MC.of (own := RX11) (by decide +kernel) rfl (Nat.le_of_ble_eq_true rfl) fun X yd A h _ C =>
    aw_aload_n (pc := 0) C (i := 0) dX11_restore_0 rfl rfl <|
    aw_getI (pc := 1) C dX11_restore_1 fl_X11_194 sR_0 rfl <|
    aw_if_ne (pc := 4) C (tgt := 14) dX11_restore_4 rfl (fun _ =>
    aw_aload_n (pc := 7) C (i := 0) dX11_restore_7 rfl rfl <|
    aw_bipush (pc := 8) C (v := (-3)) dX11_restore_8 rfl <|
    aw_callF (pc := 10) C (cr_V (rest := []) (F := (X11_no (-3))) C (c_X11_no X.2.1 (-3)) dX11_restore_10 mf_X11_no ml_X11_115 im_X11_no se_X11_no sR_0 rfl ⟨(Nat.le_of_ble_eq_true rfl), (Nat.le_of_ble_eq_true rfl)⟩ rfl rfl (Nat.le_of_ble_eq_true rfl)) rfl rfl rfl (Nat.zero_le _) (Nat.zero_le _) fun r3 h4 =>
    aw_iret (pc := 13) C dX11_restore_13 rfl rfl) (fun _ =>
    aw_aload_n (pc := 14) C (i := 0) dX11_restore_14 rfl rfl <|
    aw_iconst (pc := 15) C (v := 0) dX11_restore_15 rfl <|
    aw_iconst (pc := 16) C (v := 0) dX11_restore_16 rfl <|
    aw_callF (pc := 17) C (cr_V (rest := []) (F := (X11_passesAll 0 0)) C (c_X11_passesAll X.2.1 0 0) dX11_restore_17 mf_X11_passesAll ml_X11_173 im_X11_passesAll se_X11_passesAll sR_0 rfl ⟨(Nat.le_of_ble_eq_true rfl), (Nat.le_of_ble_eq_true rfl)⟩ rfl rfl (Nat.le_of_ble_eq_true rfl)) rfl rfl rfl (Nat.zero_le _) (Nat.zero_le _) fun _ h2 =>
    aw_aload_n (pc := 20) C (i := 0) dX11_restore_20 rfl rfl <|
    aw_getI (pc := 21) C dX11_restore_21 fl_X11_147 sR_0 rfl <|
    aw_iret (pc := 24) C dX11_restore_24 rfl rfl)

abbrev rmX11_strideIn : Room := { frames := 0, cells := 0, slots := 0, locals := 0 }
def X11_strideIn (v1 : Int32) (v2 : Int32) (v3 : Int32) (h : AH) : Option (Int32 × AH) :=
    ck v1 4 (ck v1 4 (vl (((h.1 4 v1.toNatClampNeg) + (((h.1 5 v1.toNatClampNeg) * v2) / 10)) + ((v3 * v2) / 10)) fun x1 =>
    ck v1 4 (vl (h.1 2 v1.toNatClampNeg) fun y2 =>
    if y2 = 2 then (some ((x1 + (rm32 v2 2)), h))
    else if y2 = 4 then (some (((x1 + (rm32 v2 2)) + ((v3 * v2) / 10)), h))
    else if y2 = 5 then (ck v1 4 (ck v1 4 (some (((h.1 4 v1.toNatClampNeg) + (((h.1 5 v1.toNatClampNeg) * v2) / 10)), h))))
    else (some (x1, h)))))
set_option maxRecDepth 100000 in
theorem c_X11_strideIn (l : Launch) (v1 : Int32) (v2 : Int32) (v3 : Int32) : MC l yX11_strideIn cX11_strideIn 5 (some .int) rmX11_strideIn ZR [.ref 0, .int v1, .int v2, .int v3] rvI (X11_strideIn v1 v2 v3) :=
  MC.of (own := RX11) (by decide +kernel) rfl (Nat.le_of_ble_eq_true rfl) fun X yd A h _ C =>
    aw_aload_n (pc := 0) C (i := 0) dX11_strideIn_0 rfl rfl <|
    aw_getR (pc := 1) C (b := 4) dX11_strideIn_1 fl_X11_19 sR_0 rfl rR_0_3 <|
    aw_iload_n (pc := 4) C (i := 1) dX11_strideIn_4 rfl rfl <|
    aw_iald (pc := 5) C dX11_strideIn_5 sR_4 rfl <|
    aw_aload_n (pc := 6) C (i := 0) dX11_strideIn_6 rfl rfl <|
    aw_getR (pc := 7) C (b := 5) dX11_strideIn_7 fl_X11_22 sR_0 rfl rR_0_4 <|
    aw_iload_n (pc := 10) C (i := 1) dX11_strideIn_10 rfl rfl <|
    aw_iald (pc := 11) C dX11_strideIn_11 sR_5 rfl <|
    aw_iload_n (pc := 12) C (i := 2) dX11_strideIn_12 rfl rfl <|
    aw_imul (pc := 13) C dX11_strideIn_13 <|
    aw_bipush (pc := 14) C (v := 10) dX11_strideIn_14 rfl <|
    aw_idivK (pc := 16) C dX11_strideIn_16 (by decide) <|
    aw_iadd (pc := 17) C dX11_strideIn_17 <|
    aw_iload_n (pc := 18) C (i := 3) dX11_strideIn_18 rfl rfl <|
    aw_iload_n (pc := 19) C (i := 2) dX11_strideIn_19 rfl rfl <|
    aw_imul (pc := 20) C dX11_strideIn_20 <|
    aw_bipush (pc := 21) C (v := 10) dX11_strideIn_21 rfl <|
    aw_idivK (pc := 23) C dX11_strideIn_23 (by decide) <|
    aw_iadd (pc := 24) C dX11_strideIn_24 <|
    aw_istoreV (pc := 25) C (i := 4) (fun x1 => [(0, .ref 0), (1, .int v1), (2, .int v2), (3, .int v3), (4, .int x1)]) dX11_strideIn_25 (by decide) (fun _ => rfl) fun x1 =>
    aw_aload_n (pc := 27) C (i := 0) dX11_strideIn_27 rfl rfl <|
    aw_getR (pc := 28) C (b := 2) dX11_strideIn_28 fl_X11_13 sR_0 rfl rR_0_1 <|
    aw_iload_n (pc := 31) C (i := 1) dX11_strideIn_31 rfl rfl <|
    aw_iald (pc := 32) C dX11_strideIn_32 sR_2 rfl <|
    aw_vlI fun y2 =>
    aw_if (fun c3 => aw_tswA (pc := 33) C (off := 31) (tg := 64) 2 dX11_strideIn_33 (by rw [c3]; rfl) (by decide) (by decide) rfl rfl (aw_iload (pc := 64) C (i := 4) dX11_strideIn_64 rfl <|
    aw_iload_n (pc := 66) C (i := 2) dX11_strideIn_66 rfl rfl <|
    aw_iconst (pc := 67) C (v := 2) dX11_strideIn_67 rfl <|
    aw_iremK (pc := 68) C dX11_strideIn_68 (by decide) <|
    aw_iadd (pc := 69) C dX11_strideIn_69 <|
    aw_iret (pc := 70) C dX11_strideIn_70 rfl rfl)) (fun c3 =>
    aw_if (fun c4 => aw_tswA (pc := 33) C (off := 38) (tg := 71) 4 dX11_strideIn_33 (by rw [c4]; rfl) (by decide) (by decide) rfl rfl (aw_iload (pc := 71) C (i := 4) dX11_strideIn_71 rfl <|
    aw_iload_n (pc := 73) C (i := 2) dX11_strideIn_73 rfl rfl <|
    aw_iconst (pc := 74) C (v := 2) dX11_strideIn_74 rfl <|
    aw_iremK (pc := 75) C dX11_strideIn_75 (by decide) <|
    aw_iadd (pc := 76) C dX11_strideIn_76 <|
    aw_iload_n (pc := 77) C (i := 3) dX11_strideIn_77 rfl rfl <|
    aw_iload_n (pc := 78) C (i := 2) dX11_strideIn_78 rfl rfl <|
    aw_imul (pc := 79) C dX11_strideIn_79 <|
    aw_bipush (pc := 80) C (v := 10) dX11_strideIn_80 rfl <|
    aw_idivK (pc := 82) C dX11_strideIn_82 (by decide) <|
    aw_iadd (pc := 83) C dX11_strideIn_83 <|
    aw_iret (pc := 84) C dX11_strideIn_84 rfl rfl)) (fun c4 =>
    aw_if (fun c5 => aw_tswA (pc := 33) C (off := 52) (tg := 85) 5 dX11_strideIn_33 (by rw [c5]; rfl) (by decide) (by decide) rfl rfl (aw_aload_n (pc := 85) C (i := 0) dX11_strideIn_85 rfl rfl <|
    aw_getR (pc := 86) C (b := 4) dX11_strideIn_86 fl_X11_19 sR_0 rfl rR_0_3 <|
    aw_iload_n (pc := 89) C (i := 1) dX11_strideIn_89 rfl rfl <|
    aw_iald (pc := 90) C dX11_strideIn_90 sR_4 rfl <|
    aw_aload_n (pc := 91) C (i := 0) dX11_strideIn_91 rfl rfl <|
    aw_getR (pc := 92) C (b := 5) dX11_strideIn_92 fl_X11_22 sR_0 rfl rR_0_4 <|
    aw_iload_n (pc := 95) C (i := 1) dX11_strideIn_95 rfl rfl <|
    aw_iald (pc := 96) C dX11_strideIn_96 sR_5 rfl <|
    aw_iload_n (pc := 97) C (i := 2) dX11_strideIn_97 rfl rfl <|
    aw_imul (pc := 98) C dX11_strideIn_98 <|
    aw_bipush (pc := 99) C (v := 10) dX11_strideIn_99 rfl <|
    aw_idivK (pc := 101) C dX11_strideIn_101 (by decide) <|
    aw_iadd (pc := 102) C dX11_strideIn_102 <|
    aw_iret (pc := 103) C dX11_strideIn_103 rfl rfl)) (fun c5 =>
    aw_tswD (pc := 33) C (N := 4) (td := 104) [2, 4, 5] dX11_strideIn_33 (List.forall_mem_cons.mpr ⟨ti_ne c3 rfl, List.forall_mem_cons.mpr ⟨ti_ne c4 rfl, List.forall_mem_cons.mpr ⟨ti_ne c5 rfl, fun _ hz => by cases hz⟩⟩⟩) rfl (by decide) rfl (aw_iload (pc := 104) C (i := 4) dX11_strideIn_104 rfl <|
    aw_iret (pc := 106) C dX11_strideIn_106 rfl rfl))))

abbrev rmX11_allStrides : Room := { frames := 1, cells := 0, slots := 0, locals := 24 }
def X11_allStrides_l5  (v1 : Int32) (v2 : Int32) : Nat → Int32 → Int32 → AH → Option (Int32 × AH)
  | 0, _, _, _ => none
  | n + 1, v3, v4, h =>
    if (h.1 0 12) ≤ v4 then (some (v3, h))
    else (bd (X11_strideIn v1 v4 v2 h) fun r1 h2 =>
    vl (v3 + r1) fun x3 =>
    vl (v4 + 1) fun x4 =>
    (X11_allStrides_l5 v1 v2 n) x3 x4 h2)
set_option maxRecDepth 100000 in
theorem aX11_allStrides_l5 {X : MCx} {yd : Dyn} {A : Nat → Prop} (C : OK X cX11_allStrides RX11 5 (some .int) rmX11_allStrides A)  (v1 : Int32) (v2 : Int32) : ∀ (n : Nat) (v3 : Int32) (v4 : Int32) (h : AH), AW X 5 ZR yd A 0 0 (QF X rmX11_allStrides ZR yd rvI A) 5 [(0, .ref 0), (1, .int v1), (2, .int v2), (3, .int v3), (4, .int v4)] [] h (X11_allStrides_l5 v1 v2 n v3 v4 h) := by
  intro n
  induction n with
  | zero => intro v3 v4 h; exact aw_none
  | succ n ih =>
    intro v3 v4 h
    exact aw_iload (pc := 5) C (i := 4) dX11_allStrides_5 rfl <|
    aw_aload_n (pc := 7) C (i := 0) dX11_allStrides_7 rfl rfl <|
    aw_getI (pc := 8) C dX11_allStrides_8 fl_X11_95 sR_0 rfl <|
    aw_icmp_ge (pc := 11) C (tgt := 31) dX11_allStrides_11 rfl (fun _ =>
    aw_iload_n (pc := 31) C (i := 3) dX11_allStrides_31 rfl rfl <|
    aw_iret (pc := 32) C dX11_allStrides_32 rfl rfl) (fun _ =>
    aw_iload_n (pc := 14) C (i := 3) dX11_allStrides_14 rfl rfl <|
    aw_aload_n (pc := 15) C (i := 0) dX11_allStrides_15 rfl rfl <|
    aw_iload_n (pc := 16) C (i := 1) dX11_allStrides_16 rfl rfl <|
    aw_iload (pc := 17) C (i := 4) dX11_allStrides_17 rfl <|
    aw_iload_n (pc := 19) C (i := 2) dX11_allStrides_19 rfl rfl <|
    aw_callF (pc := 20) C (cr_V (rest := [.int v3]) (F := (X11_strideIn v1 v4 v2)) C (c_X11_strideIn X.2.1 v1 v4 v2) dX11_allStrides_20 mf_X11_strideIn ml_X11_197 im_X11_strideIn se_X11_strideIn sR_0 rfl ⟨(Nat.le_of_ble_eq_true rfl), (Nat.le_of_ble_eq_true rfl)⟩ rfl rfl (Nat.le_of_ble_eq_true rfl)) rfl rfl rfl (Nat.zero_le _) (Nat.zero_le _) fun r1 h2 =>
    aw_iadd (pc := 23) C dX11_allStrides_23 <|
    aw_istoreV_n (pc := 24) C (i := 3) (fun x3 => [(0, .ref 0), (1, .int v1), (2, .int v2), (3, .int x3), (4, .int v4)]) dX11_allStrides_24 rfl (by decide) (fun _ => rfl) fun x3 =>
    aw_iincV (pc := 25) C (i := 4) (cst := 1) (fun x4 => [(0, .ref 0), (1, .int v1), (2, .int v2), (3, .int x3), (4, .int x4)]) dX11_allStrides_25 rfl rfl (by decide) (fun _ => rfl) fun x4 =>
    aw_goto (pc := 28) C (tgt := 5) dX11_allStrides_28 rfl <|
    (ih x3 x4 h2))
def X11_allStrides (v1 : Int32) (v2 : Int32) (h : AH) : Option (Int32 × AH) :=
    X11_allStrides_l5 v1 v2 FU 0 0 h
set_option maxRecDepth 100000 in
theorem c_X11_allStrides (l : Launch) (v1 : Int32) (v2 : Int32) : MC l yX11_allStrides cX11_allStrides 5 (some .int) rmX11_allStrides ZR [.ref 0, .int v1, .int v2] rvI (X11_allStrides v1 v2) :=
  MC.of (own := RX11) (by decide +kernel) rfl (Nat.le_of_ble_eq_true rfl) fun X yd A h _ C =>
    aw_iconst (pc := 0) C (v := 0) dX11_allStrides_0 rfl <|
    aw_istore_n (pc := 1) C (i := 3) (lv' := [(0, .ref 0), (1, .int v1), (2, .int v2), (3, .int 0)]) dX11_allStrides_1 rfl (by decide) rfl <|
    aw_iconst (pc := 2) C (v := 0) dX11_allStrides_2 rfl <|
    aw_istore (pc := 3) C (i := 4) (lv' := [(0, .ref 0), (1, .int v1), (2, .int v2), (3, .int 0), (4, .int 0)]) dX11_allStrides_3 (by decide) rfl <|
    (aX11_allStrides_l5 C v1 v2 FU 0 0 h)

abbrev rmX11_placeOf : Room := { frames := 2, cells := 0, slots := 0, locals := 48 }
def X11_placeOf (v1 : Int32) (h : AH) : Option (Int32 × AH) :=
    ck v1 4 (bd (X11_allStrides v1 (h.1 0 14) h) fun r1 h2 =>
    some (((h.1 9 v1.toNatClampNeg) - r1), h2))
set_option maxRecDepth 100000 in
theorem c_X11_placeOf (l : Launch) (v1 : Int32) : MC l yX11_placeOf cX11_placeOf 2 (some .int) rmX11_placeOf ZR [.ref 0, .int v1] rvI (X11_placeOf v1) :=
  MC.of (own := RX11) (by decide +kernel) rfl (Nat.le_of_ble_eq_true rfl) fun X yd A h _ C =>
    aw_aload_n (pc := 0) C (i := 0) dX11_placeOf_0 rfl rfl <|
    aw_getR (pc := 1) C (b := 9) dX11_placeOf_1 fl_X11_34 sR_0 rfl rR_0_8 <|
    aw_iload_n (pc := 4) C (i := 1) dX11_placeOf_4 rfl rfl <|
    aw_iald (pc := 5) C dX11_placeOf_5 sR_9 rfl <|
    aw_aload_n (pc := 6) C (i := 0) dX11_placeOf_6 rfl rfl <|
    aw_iload_n (pc := 7) C (i := 1) dX11_placeOf_7 rfl rfl <|
    aw_aload_n (pc := 8) C (i := 0) dX11_placeOf_8 rfl rfl <|
    aw_getI (pc := 9) C dX11_placeOf_9 fl_X11_157 sR_0 rfl <|
    aw_callF (pc := 12) C (cr_V (rest := [.int (h.1 9 v1.toNatClampNeg)]) (F := (X11_allStrides v1 (h.1 0 14))) C (c_X11_allStrides X.2.1 v1 (h.1 0 14)) dX11_placeOf_12 mf_X11_allStrides ml_X11_200 im_X11_allStrides se_X11_allStrides sR_0 rfl ⟨(Nat.le_of_ble_eq_true rfl), (Nat.le_of_ble_eq_true rfl)⟩ rfl rfl (Nat.le_of_ble_eq_true rfl)) rfl rfl rfl (Nat.zero_le _) (Nat.zero_le _) fun r1 h2 =>
    aw_isub (pc := 15) C dX11_placeOf_15 <|
    aw_iret (pc := 16) C dX11_placeOf_16 rfl rfl

abbrev rmX11_aimOf : Room := { frames := 0, cells := 0, slots := 0, locals := 0 }
def X11_aimOf (v1 : Int32) (h : AH) : Option (Int32 × AH) :=
    ck v1 4 (vl ((h.1 3 v1.toNatClampNeg) + 2) fun x1 =>
    ck v1 4 (vl (h.1 2 v1.toNatClampNeg) fun y2 =>
    if y2 = 1 then (some (x1, h))
    else if y2 = 2 then (some (1, h))
    else if y2 = 3 then (some ((x1 / 2), h))
    else if y2 = 4 then (some (1, h))
    else if y2 = 5 then (some (((x1 / 2) + 1), h))
    else (some (0, h))))
set_option maxRecDepth 100000 in
theorem c_X11_aimOf (l : Launch) (v1 : Int32) : MC l yX11_aimOf cX11_aimOf 3 (some .int) rmX11_aimOf ZR [.ref 0, .int v1] rvI (X11_aimOf v1) :=
  MC.of (own := RX11) (by decide +kernel) rfl (Nat.le_of_ble_eq_true rfl) fun X yd A h _ C =>
    aw_aload_n (pc := 0) C (i := 0) dX11_aimOf_0 rfl rfl <|
    aw_getR (pc := 1) C (b := 3) dX11_aimOf_1 fl_X11_16 sR_0 rfl rR_0_2 <|
    aw_iload_n (pc := 4) C (i := 1) dX11_aimOf_4 rfl rfl <|
    aw_iald (pc := 5) C dX11_aimOf_5 sR_3 rfl <|
    aw_iconst (pc := 6) C (v := 2) dX11_aimOf_6 rfl <|
    aw_iadd (pc := 7) C dX11_aimOf_7 <|
    aw_istoreV_n (pc := 8) C (i := 2) (fun x1 => [(0, .ref 0), (1, .int v1), (2, .int x1)]) dX11_aimOf_8 rfl (by decide) (fun _ => rfl) fun x1 =>
    aw_aload_n (pc := 9) C (i := 0) dX11_aimOf_9 rfl rfl <|
    aw_getR (pc := 10) C (b := 2) dX11_aimOf_10 fl_X11_13 sR_0 rfl rR_0_1 <|
    aw_iload_n (pc := 13) C (i := 1) dX11_aimOf_13 rfl rfl <|
    aw_iald (pc := 14) C dX11_aimOf_14 sR_2 rfl <|
    aw_vlI fun y2 =>
    aw_if (fun c3 => aw_tswA (pc := 15) C (off := 33) (tg := 48) 1 dX11_aimOf_15 (by rw [c3]; rfl) (by decide) (by decide) rfl rfl (aw_iload_n (pc := 48) C (i := 2) dX11_aimOf_48 rfl rfl <|
    aw_iret (pc := 49) C dX11_aimOf_49 rfl rfl)) (fun c3 =>
    aw_if (fun c4 => aw_tswA (pc := 15) C (off := 35) (tg := 50) 2 dX11_aimOf_15 (by rw [c4]; rfl) (by decide) (by decide) rfl rfl (aw_iconst (pc := 50) C (v := 1) dX11_aimOf_50 rfl <|
    aw_iret (pc := 51) C dX11_aimOf_51 rfl rfl)) (fun c4 =>
    aw_if (fun c5 => aw_tswA (pc := 15) C (off := 37) (tg := 52) 3 dX11_aimOf_15 (by rw [c5]; rfl) (by decide) (by decide) rfl rfl (aw_iload_n (pc := 52) C (i := 2) dX11_aimOf_52 rfl rfl <|
    aw_iconst (pc := 53) C (v := 2) dX11_aimOf_53 rfl <|
    aw_idivK (pc := 54) C dX11_aimOf_54 (by decide) <|
    aw_iret (pc := 55) C dX11_aimOf_55 rfl rfl)) (fun c5 =>
    aw_if (fun c6 => aw_tswA (pc := 15) C (off := 35) (tg := 50) 4 dX11_aimOf_15 (by rw [c6]; rfl) (by decide) (by decide) rfl rfl (aw_iconst (pc := 50) C (v := 1) dX11_aimOf_50 rfl <|
    aw_iret (pc := 51) C dX11_aimOf_51 rfl rfl)) (fun c6 =>
    aw_if (fun c7 => aw_tswA (pc := 15) C (off := 41) (tg := 56) 5 dX11_aimOf_15 (by rw [c7]; rfl) (by decide) (by decide) rfl rfl (aw_iload_n (pc := 56) C (i := 2) dX11_aimOf_56 rfl rfl <|
    aw_iconst (pc := 57) C (v := 2) dX11_aimOf_57 rfl <|
    aw_idivK (pc := 58) C dX11_aimOf_58 (by decide) <|
    aw_iconst (pc := 59) C (v := 1) dX11_aimOf_59 rfl <|
    aw_iadd (pc := 60) C dX11_aimOf_60 <|
    aw_iret (pc := 61) C dX11_aimOf_61 rfl rfl)) (fun c7 =>
    aw_tswD (pc := 15) C (N := 5) (td := 62) [1, 2, 3, 4, 5] dX11_aimOf_15 (List.forall_mem_cons.mpr ⟨ti_ne c3 rfl, List.forall_mem_cons.mpr ⟨ti_ne c4 rfl, List.forall_mem_cons.mpr ⟨ti_ne c5 rfl, List.forall_mem_cons.mpr ⟨ti_ne c6 rfl, List.forall_mem_cons.mpr ⟨ti_ne c7 rfl, fun _ hz => by cases hz⟩⟩⟩⟩⟩) rfl (by decide) rfl (aw_iconst (pc := 62) C (v := 0) dX11_aimOf_62 rfl <|
    aw_iret (pc := 63) C dX11_aimOf_63 rfl rfl))))))

abbrev rmX11_triesOf : Room := { frames := 0, cells := 0, slots := 0, locals := 0 }
def X11_triesOf_j28  (v1 : Int32) (v3 : Int32) (K4 : Int32 → Int32 → AH → Option (Int32 × AH)) (s0 : Int32) (s1 : Int32) (h : AH) : Option (Int32 × AH) :=
    vl (s1 + s0) fun x1 =>
    vl (v3 + 1) fun x2 =>
    K4 x1 x2 h
set_option maxRecDepth 100000 in
theorem aX11_triesOf_j28 {X : MCx} {yd : Dyn} {A : Nat → Prop} (C : OK X cX11_triesOf RX11 4 (some .int) rmX11_triesOf A)  (v1 : Int32) (v3 : Int32) (K4 : Int32 → Int32 → AH → Option (Int32 × AH)) (hK4 : ∀ (w2 : Int32) (w3 : Int32) (h : AH), AW X 4 ZR yd A 0 0 (QF X rmX11_triesOf ZR yd rvI A) 4 [(0, .ref 0), (1, .int v1), (2, .int w2), (3, .int w3)] [] h (K4 w2 w3 h)) (s0 : Int32) (s1 : Int32) (h : AH) : AW X 4 ZR yd A 0 0 (QF X rmX11_triesOf ZR yd rvI A) 28 [(0, .ref 0), (1, .int v1), (3, .int v3)] [.int s0, .int s1] h (X11_triesOf_j28 v1 v3 K4 s0 s1 h) := by
    exact aw_iadd (pc := 28) C dX11_triesOf_28 <|
    aw_istoreV_n (pc := 29) C (i := 2) (fun x1 => [(0, .ref 0), (1, .int v1), (2, .int x1), (3, .int v3)]) dX11_triesOf_29 rfl (by decide) (fun _ => rfl) fun x1 =>
    aw_iincV (pc := 30) C (i := 3) (cst := 1) (fun x2 => [(0, .ref 0), (1, .int v1), (2, .int x1), (3, .int x2)]) dX11_triesOf_30 rfl rfl (by decide) (fun _ => rfl) fun x2 =>
    aw_goto (pc := 33) C (tgt := 4) dX11_triesOf_33 rfl <|
    (hK4 x1 x2 h)
def X11_triesOf_l4  (v1 : Int32) : Nat → Int32 → Int32 → AH → Option (Int32 × AH)
  | 0, _, _, _ => none
  | n + 1, v2, v3, h =>
    if (h.1 0 16) ≤ v3 then (some (v2, h))
    else (ck v3 24 (if (h.1 10 v3.toNatClampNeg) = v1 then (X11_triesOf_j28 v1 v3 (X11_triesOf_l4 v1 n) 1 v2 h)
    else (X11_triesOf_j28 v1 v3 (X11_triesOf_l4 v1 n) 0 v2 h)))
set_option maxRecDepth 100000 in
theorem aX11_triesOf_l4 {X : MCx} {yd : Dyn} {A : Nat → Prop} (C : OK X cX11_triesOf RX11 4 (some .int) rmX11_triesOf A)  (v1 : Int32) : ∀ (n : Nat) (v2 : Int32) (v3 : Int32) (h : AH), AW X 4 ZR yd A 0 0 (QF X rmX11_triesOf ZR yd rvI A) 4 [(0, .ref 0), (1, .int v1), (2, .int v2), (3, .int v3)] [] h (X11_triesOf_l4 v1 n v2 v3 h) := by
  intro n
  induction n with
  | zero => intro v2 v3 h; exact aw_none
  | succ n ih =>
    intro v2 v3 h
    exact aw_iload_n (pc := 4) C (i := 3) dX11_triesOf_4 rfl rfl <|
    aw_aload_n (pc := 5) C (i := 0) dX11_triesOf_5 rfl rfl <|
    aw_getI (pc := 6) C dX11_triesOf_6 fl_X11_147 sR_0 rfl <|
    aw_icmp_ge (pc := 9) C (tgt := 36) dX11_triesOf_9 rfl (fun _ =>
    aw_iload_n (pc := 36) C (i := 2) dX11_triesOf_36 rfl rfl <|
    aw_iret (pc := 37) C dX11_triesOf_37 rfl rfl) (fun _ =>
    aw_iload_n (pc := 12) C (i := 2) dX11_triesOf_12 rfl rfl <|
    aw_aload_n (pc := 13) C (i := 0) dX11_triesOf_13 rfl rfl <|
    aw_getR (pc := 14) C (b := 10) dX11_triesOf_14 fl_X11_37 sR_0 rfl rR_0_9 <|
    aw_iload_n (pc := 17) C (i := 3) dX11_triesOf_17 rfl rfl <|
    aw_iald (pc := 18) C dX11_triesOf_18 sR_10 rfl <|
    aw_iload_n (pc := 19) C (i := 1) dX11_triesOf_19 rfl rfl <|
    aw_icmp_ne (pc := 20) C (tgt := 27) dX11_triesOf_20 rfl (fun _ =>
    aw_iconst (pc := 23) C (v := 1) dX11_triesOf_23 rfl <|
    aw_goto (pc := 24) C (tgt := 28) dX11_triesOf_24 rfl <|
    aw_drop [0, 1, 3] (aX11_triesOf_j28 C v1 v3 (X11_triesOf_l4 v1 n) ih 1 v2 h)) (fun _ =>
    aw_iconst (pc := 27) C (v := 0) dX11_triesOf_27 rfl <|
    aw_drop [0, 1, 3] (aX11_triesOf_j28 C v1 v3 (X11_triesOf_l4 v1 n) ih 0 v2 h)))
def X11_triesOf (v1 : Int32) (h : AH) : Option (Int32 × AH) :=
    X11_triesOf_l4 v1 FU 0 0 h
set_option maxRecDepth 100000 in
theorem c_X11_triesOf (l : Launch) (v1 : Int32) : MC l yX11_triesOf cX11_triesOf 4 (some .int) rmX11_triesOf ZR [.ref 0, .int v1] rvI (X11_triesOf v1) :=
  MC.of (own := RX11) (by decide +kernel) rfl (Nat.le_of_ble_eq_true rfl) fun X yd A h _ C =>
    aw_iconst (pc := 0) C (v := 0) dX11_triesOf_0 rfl <|
    aw_istore_n (pc := 1) C (i := 2) (lv' := [(0, .ref 0), (1, .int v1), (2, .int 0)]) dX11_triesOf_1 rfl (by decide) rfl <|
    aw_iconst (pc := 2) C (v := 0) dX11_triesOf_2 rfl <|
    aw_istore_n (pc := 3) C (i := 3) (lv' := [(0, .ref 0), (1, .int v1), (2, .int 0), (3, .int 0)]) dX11_triesOf_3 rfl (by decide) rfl <|
    (aX11_triesOf_l4 C v1 FU 0 0 h)

abbrev rmX11_jumper : Room := { frames := 4, cells := 0, slots := 0, locals := 90 }
def X11_jumper (v1 : Int32) (v2 : Int32) (h : AH) : Option (Int32 × AH) :=
    bd (X11_isJumper v1 h) fun r1 h2 =>
    if r1 = 0 then (bd (X11_no (-1) h2) fun r26 h27 =>
    some (r26, h27))
    else (vl v2 fun y3 =>
    if y3 = 0 then (ck v1 4 (some ((h2.1 2 v1.toNatClampNeg), h2)))
    else if y3 = 1 then (ck v1 4 (some ((h2.1 3 v1.toNatClampNeg), h2)))
    else if y3 = 2 then (ck v1 4 (some ((h2.1 4 v1.toNatClampNeg), h2)))
    else if y3 = 3 then (ck v1 4 (some ((h2.1 5 v1.toNatClampNeg), h2)))
    else if y3 = 4 then (ck v1 4 (some ((h2.1 6 v1.toNatClampNeg), h2)))
    else if y3 = 5 then (ck v1 4 (some ((h2.1 7 v1.toNatClampNeg), h2)))
    else if y3 = 6 then (ck v1 4 (some ((h2.1 8 v1.toNatClampNeg), h2)))
    else if y3 = 7 then (ck v1 4 (some ((h2.1 9 v1.toNatClampNeg), h2)))
    else if y3 = 8 then (bd (X11_aimOf v1 h2) fun r12 h13 =>
    some (r12, h13))
    else if y3 = 9 then (bd (X11_findBest 0 (h2.1 0 16) h2) fun _ h16 =>
    ck v1 4 (some ((h16.1 20 v1.toNatClampNeg), h16)))
    else if y3 = 10 then (bd (X11_findBest 0 (h2.1 0 16) h2) fun _ h19 =>
    ck v1 4 (some ((h19.1 21 v1.toNatClampNeg), h19)))
    else if y3 = 11 then (bd (X11_triesOf v1 h2) fun r21 h22 =>
    some (r21, h22))
    else (bd (X11_no (-2) h2) fun r24 h25 =>
    some (r24, h25)))
set_option maxRecDepth 100000 in
theorem c_X11_jumper (l : Launch) (v1 : Int32) (v2 : Int32) : MC l yX11_jumper cX11_jumper 3 (some .int) rmX11_jumper ZR [.ref 0, .int v1, .int v2] rvI (X11_jumper v1 v2) :=
  MC.of (own := RX11) (by decide +kernel) rfl (Nat.le_of_ble_eq_true rfl) fun X yd A h _ C =>
    aw_aload_n (pc := 0) C (i := 0) dX11_jumper_0 rfl rfl <|
    aw_iload_n (pc := 1) C (i := 1) dX11_jumper_1 rfl rfl <|
    aw_callF (pc := 2) C (cr_V (rest := []) (F := (X11_isJumper v1)) C (c_X11_isJumper X.2.1 v1) dX11_jumper_2 mf_X11_isJumper ml_X11_207 im_X11_isJumper se_X11_isJumper sR_0 rfl ⟨(Nat.le_of_ble_eq_true rfl), (Nat.le_of_ble_eq_true rfl)⟩ rfl rfl (Nat.le_of_ble_eq_true rfl)) rfl rfl rfl (Nat.zero_le _) (Nat.zero_le _) fun r1 h2 =>
    aw_if_ne (pc := 5) C (tgt := 14) dX11_jumper_5 rfl (fun _ =>
    aw_aload_n (pc := 8) C (i := 0) dX11_jumper_8 rfl rfl <|
    aw_iconst (pc := 9) C (v := (-1)) dX11_jumper_9 rfl <|
    aw_callF (pc := 10) C (cr_V (rest := []) (F := (X11_no (-1))) C (c_X11_no X.2.1 (-1)) dX11_jumper_10 mf_X11_no ml_X11_115 im_X11_no se_X11_no sR_0 rfl ⟨(Nat.le_of_ble_eq_true rfl), (Nat.le_of_ble_eq_true rfl)⟩ rfl rfl (Nat.le_of_ble_eq_true rfl)) rfl rfl rfl (Nat.zero_le _) (Nat.zero_le _) fun r26 h27 =>
    aw_iret (pc := 13) C dX11_jumper_13 rfl rfl) (fun _ =>
    aw_iload_n (pc := 14) C (i := 2) dX11_jumper_14 rfl rfl <|
    aw_vlI fun y3 =>
    aw_if (fun c4 => aw_tswA (pc := 15) C (off := 61) (tg := 76) 0 dX11_jumper_15 (by rw [c4]; rfl) (by decide) (by decide) rfl rfl (aw_aload_n (pc := 76) C (i := 0) dX11_jumper_76 rfl rfl <|
    aw_getR (pc := 77) C (b := 2) dX11_jumper_77 fl_X11_13 sR_0 rfl rR_0_1 <|
    aw_iload_n (pc := 80) C (i := 1) dX11_jumper_80 rfl rfl <|
    aw_iald (pc := 81) C dX11_jumper_81 sR_2 rfl <|
    aw_iret (pc := 82) C dX11_jumper_82 rfl rfl)) (fun c4 =>
    aw_if (fun c5 => aw_tswA (pc := 15) C (off := 68) (tg := 83) 1 dX11_jumper_15 (by rw [c5]; rfl) (by decide) (by decide) rfl rfl (aw_aload_n (pc := 83) C (i := 0) dX11_jumper_83 rfl rfl <|
    aw_getR (pc := 84) C (b := 3) dX11_jumper_84 fl_X11_16 sR_0 rfl rR_0_2 <|
    aw_iload_n (pc := 87) C (i := 1) dX11_jumper_87 rfl rfl <|
    aw_iald (pc := 88) C dX11_jumper_88 sR_3 rfl <|
    aw_iret (pc := 89) C dX11_jumper_89 rfl rfl)) (fun c5 =>
    aw_if (fun c6 => aw_tswA (pc := 15) C (off := 75) (tg := 90) 2 dX11_jumper_15 (by rw [c6]; rfl) (by decide) (by decide) rfl rfl (aw_aload_n (pc := 90) C (i := 0) dX11_jumper_90 rfl rfl <|
    aw_getR (pc := 91) C (b := 4) dX11_jumper_91 fl_X11_19 sR_0 rfl rR_0_3 <|
    aw_iload_n (pc := 94) C (i := 1) dX11_jumper_94 rfl rfl <|
    aw_iald (pc := 95) C dX11_jumper_95 sR_4 rfl <|
    aw_iret (pc := 96) C dX11_jumper_96 rfl rfl)) (fun c6 =>
    aw_if (fun c7 => aw_tswA (pc := 15) C (off := 82) (tg := 97) 3 dX11_jumper_15 (by rw [c7]; rfl) (by decide) (by decide) rfl rfl (aw_aload_n (pc := 97) C (i := 0) dX11_jumper_97 rfl rfl <|
    aw_getR (pc := 98) C (b := 5) dX11_jumper_98 fl_X11_22 sR_0 rfl rR_0_4 <|
    aw_iload_n (pc := 101) C (i := 1) dX11_jumper_101 rfl rfl <|
    aw_iald (pc := 102) C dX11_jumper_102 sR_5 rfl <|
    aw_iret (pc := 103) C dX11_jumper_103 rfl rfl)) (fun c7 =>
    aw_if (fun c8 => aw_tswA (pc := 15) C (off := 89) (tg := 104) 4 dX11_jumper_15 (by rw [c8]; rfl) (by decide) (by decide) rfl rfl (aw_aload_n (pc := 104) C (i := 0) dX11_jumper_104 rfl rfl <|
    aw_getR (pc := 105) C (b := 6) dX11_jumper_105 fl_X11_25 sR_0 rfl rR_0_5 <|
    aw_iload_n (pc := 108) C (i := 1) dX11_jumper_108 rfl rfl <|
    aw_iald (pc := 109) C dX11_jumper_109 sR_6 rfl <|
    aw_iret (pc := 110) C dX11_jumper_110 rfl rfl)) (fun c8 =>
    aw_if (fun c9 => aw_tswA (pc := 15) C (off := 96) (tg := 111) 5 dX11_jumper_15 (by rw [c9]; rfl) (by decide) (by decide) rfl rfl (aw_aload_n (pc := 111) C (i := 0) dX11_jumper_111 rfl rfl <|
    aw_getR (pc := 112) C (b := 7) dX11_jumper_112 fl_X11_28 sR_0 rfl rR_0_6 <|
    aw_iload_n (pc := 115) C (i := 1) dX11_jumper_115 rfl rfl <|
    aw_iald (pc := 116) C dX11_jumper_116 sR_7 rfl <|
    aw_iret (pc := 117) C dX11_jumper_117 rfl rfl)) (fun c9 =>
    aw_if (fun c10 => aw_tswA (pc := 15) C (off := 103) (tg := 118) 6 dX11_jumper_15 (by rw [c10]; rfl) (by decide) (by decide) rfl rfl (aw_aload_n (pc := 118) C (i := 0) dX11_jumper_118 rfl rfl <|
    aw_getR (pc := 119) C (b := 8) dX11_jumper_119 fl_X11_31 sR_0 rfl rR_0_7 <|
    aw_iload_n (pc := 122) C (i := 1) dX11_jumper_122 rfl rfl <|
    aw_iald (pc := 123) C dX11_jumper_123 sR_8 rfl <|
    aw_iret (pc := 124) C dX11_jumper_124 rfl rfl)) (fun c10 =>
    aw_if (fun c11 => aw_tswA (pc := 15) C (off := 110) (tg := 125) 7 dX11_jumper_15 (by rw [c11]; rfl) (by decide) (by decide) rfl rfl (aw_aload_n (pc := 125) C (i := 0) dX11_jumper_125 rfl rfl <|
    aw_getR (pc := 126) C (b := 9) dX11_jumper_126 fl_X11_34 sR_0 rfl rR_0_8 <|
    aw_iload_n (pc := 129) C (i := 1) dX11_jumper_129 rfl rfl <|
    aw_iald (pc := 130) C dX11_jumper_130 sR_9 rfl <|
    aw_iret (pc := 131) C dX11_jumper_131 rfl rfl)) (fun c11 =>
    aw_if (fun c14 => aw_tswA (pc := 15) C (off := 117) (tg := 132) 8 dX11_jumper_15 (by rw [c14]; rfl) (by decide) (by decide) rfl rfl (aw_aload_n (pc := 132) C (i := 0) dX11_jumper_132 rfl rfl <|
    aw_iload_n (pc := 133) C (i := 1) dX11_jumper_133 rfl rfl <|
    aw_callF (pc := 134) C (cr_V (rest := []) (F := (X11_aimOf v1)) C (c_X11_aimOf X.2.1 v1) dX11_jumper_134 mf_X11_aimOf ml_X11_210 im_X11_aimOf se_X11_aimOf sR_0 rfl ⟨(Nat.le_of_ble_eq_true rfl), (Nat.le_of_ble_eq_true rfl)⟩ rfl rfl (Nat.le_of_ble_eq_true rfl)) rfl rfl rfl (Nat.zero_le _) (Nat.zero_le _) fun r12 h13 =>
    aw_iret (pc := 137) C dX11_jumper_137 rfl rfl)) (fun c14 =>
    aw_if (fun c17 => aw_tswA (pc := 15) C (off := 123) (tg := 138) 9 dX11_jumper_15 (by rw [c17]; rfl) (by decide) (by decide) rfl rfl (aw_aload_n (pc := 138) C (i := 0) dX11_jumper_138 rfl rfl <|
    aw_iconst (pc := 139) C (v := 0) dX11_jumper_139 rfl <|
    aw_aload_n (pc := 140) C (i := 0) dX11_jumper_140 rfl rfl <|
    aw_getI (pc := 141) C dX11_jumper_141 fl_X11_147 sR_0 rfl <|
    aw_callF (pc := 144) C (cr_V (rest := []) (F := (X11_findBest 0 (h2.1 0 16))) C (c_X11_findBest X.2.1 0 (h2.1 0 16)) dX11_jumper_144 mf_X11_findBest ml_X11_213 im_X11_findBest se_X11_findBest sR_0 rfl ⟨(Nat.le_of_ble_eq_true rfl), (Nat.le_of_ble_eq_true rfl)⟩ rfl rfl (Nat.le_of_ble_eq_true rfl)) rfl rfl rfl (Nat.zero_le _) (Nat.zero_le _) fun _ h16 =>
    aw_aload_n (pc := 147) C (i := 0) dX11_jumper_147 rfl rfl <|
    aw_getR (pc := 148) C (b := 20) dX11_jumper_148 fl_X11_68 sR_0 rfl rR_0_30 <|
    aw_iload_n (pc := 151) C (i := 1) dX11_jumper_151 rfl rfl <|
    aw_iald (pc := 152) C dX11_jumper_152 sR_20 rfl <|
    aw_iret (pc := 153) C dX11_jumper_153 rfl rfl)) (fun c17 =>
    aw_if (fun c20 => aw_tswA (pc := 15) C (off := 139) (tg := 154) 10 dX11_jumper_15 (by rw [c20]; rfl) (by decide) (by decide) rfl rfl (aw_aload_n (pc := 154) C (i := 0) dX11_jumper_154 rfl rfl <|
    aw_iconst (pc := 155) C (v := 0) dX11_jumper_155 rfl <|
    aw_aload_n (pc := 156) C (i := 0) dX11_jumper_156 rfl rfl <|
    aw_getI (pc := 157) C dX11_jumper_157 fl_X11_147 sR_0 rfl <|
    aw_callF (pc := 160) C (cr_V (rest := []) (F := (X11_findBest 0 (h2.1 0 16))) C (c_X11_findBest X.2.1 0 (h2.1 0 16)) dX11_jumper_160 mf_X11_findBest ml_X11_213 im_X11_findBest se_X11_findBest sR_0 rfl ⟨(Nat.le_of_ble_eq_true rfl), (Nat.le_of_ble_eq_true rfl)⟩ rfl rfl (Nat.le_of_ble_eq_true rfl)) rfl rfl rfl (Nat.zero_le _) (Nat.zero_le _) fun _ h19 =>
    aw_aload_n (pc := 163) C (i := 0) dX11_jumper_163 rfl rfl <|
    aw_getR (pc := 164) C (b := 21) dX11_jumper_164 fl_X11_71 sR_0 rfl rR_0_31 <|
    aw_iload_n (pc := 167) C (i := 1) dX11_jumper_167 rfl rfl <|
    aw_iald (pc := 168) C dX11_jumper_168 sR_21 rfl <|
    aw_iret (pc := 169) C dX11_jumper_169 rfl rfl)) (fun c20 =>
    aw_if (fun c23 => aw_tswA (pc := 15) C (off := 155) (tg := 170) 11 dX11_jumper_15 (by rw [c23]; rfl) (by decide) (by decide) rfl rfl (aw_aload_n (pc := 170) C (i := 0) dX11_jumper_170 rfl rfl <|
    aw_iload_n (pc := 171) C (i := 1) dX11_jumper_171 rfl rfl <|
    aw_callF (pc := 172) C (cr_V (rest := []) (F := (X11_triesOf v1)) C (c_X11_triesOf X.2.1 v1) dX11_jumper_172 mf_X11_triesOf ml_X11_217 im_X11_triesOf se_X11_triesOf sR_0 rfl ⟨(Nat.le_of_ble_eq_true rfl), (Nat.le_of_ble_eq_true rfl)⟩ rfl rfl (Nat.le_of_ble_eq_true rfl)) rfl rfl rfl (Nat.zero_le _) (Nat.zero_le _) fun r21 h22 =>
    aw_iret (pc := 175) C dX11_jumper_175 rfl rfl)) (fun c23 =>
    aw_tswD (pc := 15) C (N := 12) (td := 176) [0, 1, 2, 3, 4, 5, 6, 7, 8, 9, 10, 11] dX11_jumper_15 (List.forall_mem_cons.mpr ⟨ti_ne c4 rfl, List.forall_mem_cons.mpr ⟨ti_ne c5 rfl, List.forall_mem_cons.mpr ⟨ti_ne c6 rfl, List.forall_mem_cons.mpr ⟨ti_ne c7 rfl, List.forall_mem_cons.mpr ⟨ti_ne c8 rfl, List.forall_mem_cons.mpr ⟨ti_ne c9 rfl, List.forall_mem_cons.mpr ⟨ti_ne c10 rfl, List.forall_mem_cons.mpr ⟨ti_ne c11 rfl, List.forall_mem_cons.mpr ⟨ti_ne c14 rfl, List.forall_mem_cons.mpr ⟨ti_ne c17 rfl, List.forall_mem_cons.mpr ⟨ti_ne c20 rfl, List.forall_mem_cons.mpr ⟨ti_ne c23 rfl, fun _ hz => by cases hz⟩⟩⟩⟩⟩⟩⟩⟩⟩⟩⟩⟩) rfl (by decide) rfl (aw_aload_n (pc := 176) C (i := 0) dX11_jumper_176 rfl rfl <|
    aw_bipush (pc := 177) C (v := (-2)) dX11_jumper_177 rfl <|
    aw_callF (pc := 179) C (cr_V (rest := []) (F := (X11_no (-2))) C (c_X11_no X.2.1 (-2)) dX11_jumper_179 mf_X11_no ml_X11_115 im_X11_no se_X11_no sR_0 rfl ⟨(Nat.le_of_ble_eq_true rfl), (Nat.le_of_ble_eq_true rfl)⟩ rfl rfl (Nat.le_of_ble_eq_true rfl)) rfl rfl rfl (Nat.zero_le _) (Nat.zero_le _) fun r24 h25 =>
    aw_iret (pc := 182) C dX11_jumper_182 rfl rfl))))))))))))))

abbrev rmX11_mark : Room := { frames := 1, cells := 0, slots := 0, locals := 22 }
def X11_mark_j20  (v1 : Int32) (v2 : Int32) (s0 : Int32) (h : AH) : Option (Int32 × AH) :=
    if s0 = 0 then (ck v1 4 (vl (h.1 9 v1.toNatClampNeg) fun x5 =>
    ck v1 4 (vl (sI h 9 v1.toNatClampNeg v2) fun h6 =>
    some (x5, h6))))
    else (bd (X11_no s0 h) fun r7 h8 =>
    some (r7, h8))
set_option maxRecDepth 100000 in
theorem aX11_mark_j20 {X : MCx} {yd : Dyn} {A : Nat → Prop} (C : OK X cX11_mark RX11 5 (some .int) rmX11_mark A)  (v1 : Int32) (v2 : Int32) (s0 : Int32) (h : AH) : AW X 5 ZR yd A 0 0 (QF X rmX11_mark ZR yd rvI A) 20 [(0, .ref 0), (1, .int v1), (2, .int v2)] [.int s0] h (X11_mark_j20 v1 v2 s0 h) := by
    exact aw_istore_n (pc := 20) C (i := 3) (lv' := [(0, .ref 0), (1, .int v1), (2, .int v2), (3, .int s0)]) dX11_mark_20 rfl (by decide) rfl <|
    aw_iload_n (pc := 21) C (i := 3) dX11_mark_21 rfl rfl <|
    aw_if_eq (pc := 22) C (tgt := 31) dX11_mark_22 rfl (fun _ =>
    aw_aload_n (pc := 31) C (i := 0) dX11_mark_31 rfl rfl <|
    aw_getR (pc := 32) C (b := 9) dX11_mark_32 fl_X11_34 sR_0 rfl rR_0_8 <|
    aw_iload_n (pc := 35) C (i := 1) dX11_mark_35 rfl rfl <|
    aw_iald (pc := 36) C dX11_mark_36 sR_9 rfl <|
    aw_istoreV (pc := 37) C (i := 4) (fun x5 => [(0, .ref 0), (1, .int v1), (2, .int v2), (3, .int s0), (4, .int x5)]) dX11_mark_37 (by decide) (fun _ => rfl) fun x5 =>
    aw_aload_n (pc := 39) C (i := 0) dX11_mark_39 rfl rfl <|
    aw_getR (pc := 40) C (b := 9) dX11_mark_40 fl_X11_34 sR_0 rfl rR_0_8 <|
    aw_iload_n (pc := 43) C (i := 1) dX11_mark_43 rfl rfl <|
    aw_iload_n (pc := 44) C (i := 2) dX11_mark_44 rfl rfl <|
    aw_iast (pc := 45) C dX11_mark_45 sR_9 rfl fun h6 =>
    aw_iload (pc := 46) C (i := 4) dX11_mark_46 rfl <|
    aw_iret (pc := 48) C dX11_mark_48 rfl rfl) (fun _ =>
    aw_aload_n (pc := 25) C (i := 0) dX11_mark_25 rfl rfl <|
    aw_iload_n (pc := 26) C (i := 3) dX11_mark_26 rfl rfl <|
    aw_callF (pc := 27) C (cr_V (rest := []) (F := (X11_no s0)) C (c_X11_no X.2.1 s0) dX11_mark_27 mf_X11_no ml_X11_115 im_X11_no se_X11_no sR_0 rfl ⟨(Nat.le_of_ble_eq_true rfl), (Nat.le_of_ble_eq_true rfl)⟩ rfl rfl (Nat.le_of_ble_eq_true rfl)) rfl rfl rfl (Nat.zero_le _) (Nat.zero_le _) fun r7 h8 =>
    aw_iret (pc := 30) C dX11_mark_30 rfl rfl)
def X11_mark (v1 : Int32) (v2 : Int32) (h : AH) : Option (Int32 × AH) :=
    bd (X11_isJumper v1 h) fun r1 h2 =>
    if r1 = 0 then (X11_mark_j20 v1 v2 (-1) h2)
    else (bd (X11_bound v2 0 2400 h2) fun r3 h4 =>
    X11_mark_j20 v1 v2 r3 h4)
set_option maxRecDepth 100000 in
theorem c_X11_mark (l : Launch) (v1 : Int32) (v2 : Int32) : MC l yX11_mark cX11_mark 5 (some .int) rmX11_mark ZR [.ref 0, .int v1, .int v2] rvI (X11_mark v1 v2) :=
  MC.of (own := RX11) (by decide +kernel) rfl (Nat.le_of_ble_eq_true rfl) fun X yd A h _ C =>
    aw_aload_n (pc := 0) C (i := 0) dX11_mark_0 rfl rfl <|
    aw_iload_n (pc := 1) C (i := 1) dX11_mark_1 rfl rfl <|
    aw_callF (pc := 2) C (cr_V (rest := []) (F := (X11_isJumper v1)) C (c_X11_isJumper X.2.1 v1) dX11_mark_2 mf_X11_isJumper ml_X11_207 im_X11_isJumper se_X11_isJumper sR_0 rfl ⟨(Nat.le_of_ble_eq_true rfl), (Nat.le_of_ble_eq_true rfl)⟩ rfl rfl (Nat.le_of_ble_eq_true rfl)) rfl rfl rfl (Nat.zero_le _) (Nat.zero_le _) fun r1 h2 =>
    aw_if_ne (pc := 5) C (tgt := 12) dX11_mark_5 rfl (fun _ =>
    aw_iconst (pc := 8) C (v := (-1)) dX11_mark_8 rfl <|
    aw_goto (pc := 9) C (tgt := 20) dX11_mark_9 rfl <|
    (aX11_mark_j20 C v1 v2 (-1) h2)) (fun _ =>
    aw_iload_n (pc := 12) C (i := 2) dX11_mark_12 rfl rfl <|
    aw_iconst (pc := 13) C (v := 0) dX11_mark_13 rfl <|
    aw_sipush (pc := 14) C (v := 2400) dX11_mark_14 rfl <|
    aw_callF (pc := 17) C (cr_S (rest := []) (F := (X11_bound v2 0 2400)) C (c_X11_bound X.2.1 v2 0 2400) dX11_mark_17 mf_X11_bound ml_X11_108 st_X11_bound ⟨(Nat.le_of_ble_eq_true rfl), (Nat.le_of_ble_eq_true rfl)⟩ rfl rfl (Nat.le_of_ble_eq_true rfl)) rfl rfl rfl (Nat.zero_le _) (Nat.zero_le _) fun r3 h4 =>
    (aX11_mark_j20 C v1 v2 r3 h4))
