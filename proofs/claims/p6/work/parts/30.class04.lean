abbrev rmX10_spreadNow : Room := { frames := 5, cells := 0, slots := 0, locals := 136 }
def X10_spreadNow (v1 : Int32) (v2 : Int32) (h : AH) : Option (Unit × AH) :=
    bd (X5_at 42 v1 h) fun r1 h2 =>
    cs ZC r1 (.inr 2) (bd (X10_placeOf v1 h2) fun r4 h5 =>
    bd (X1_spread r1 (h2.1 42 0) (h2.1 42 1) r4 v2 h5) fun _ h7 =>
    some ((), h7))
set_option maxRecDepth 100000 in
theorem c_X10_spreadNow (l : Launch) (v1 : Int32) (v2 : Int32) : MC l yX10_spreadNow cX10_spreadNow 3 none rmX10_spreadNow ZC [.ref 0, .int v1, .int v2] rvV (X10_spreadNow v1 v2) :=
  MC.of (own := RX10) (by decide +kernel) rfl (Nat.le_of_ble_eq_true rfl) fun X yd A h _ C =>
    aw_aload_n (pc := 0) C (i := 0) dX10_spreadNow_0 rfl rfl <|
    aw_getR (pc := 1) C (b := 8) dX10_spreadNow_1 fl_X10_35 sC_0 rfl rC_0_11 <|
    aw_aload_n (pc := 4) C (i := 0) dX10_spreadNow_4 rfl rfl <|
    aw_getR (pc := 5) C (b := 42) dX10_spreadNow_5 fl_X10_72 sC_0 rfl rC_0_1 <|
    aw_iload_n (pc := 8) C (i := 1) dX10_spreadNow_8 rfl rfl <|
    aw_callF (pc := 9) C (cr_V (rest := [.ref 8]) (F := (X5_at 42 v1)) C (c_X5_at X.2.1 42 (Or.inl rfl) v1) dX10_spreadNow_9 mf_X5_at ml_X10_169 im_X5_at se_X5_at (mt_s (Or.inl rfl)) rfl ⟨(Nat.le_of_ble_eq_true rfl), (Nat.le_of_ble_eq_true rfl)⟩ rfl rfl (Nat.le_of_ble_eq_true rfl)) rfl rfl rfl (Nat.zero_le _) (Nat.zero_le _) fun r1 h2 =>
    aw_cs fun hs3 =>
    aw_aload_n (pc := 12) C (i := 0) dX10_spreadNow_12 rfl rfl <|
    aw_getR (pc := 13) C (b := 42) dX10_spreadNow_13 fl_X10_72 sC_0 rfl rC_0_1 <|
    aw_getI (pc := 16) C dX10_spreadNow_16 fl_X10_163 (mt_s (Or.inl rfl)) rfl <|
    aw_aload_n (pc := 19) C (i := 0) dX10_spreadNow_19 rfl rfl <|
    aw_getR (pc := 20) C (b := 42) dX10_spreadNow_20 fl_X10_72 sC_0 rfl rC_0_1 <|
    aw_getI (pc := 23) C dX10_spreadNow_23 fl_X10_157 (mt_s (Or.inl rfl)) rfl <|
    aw_aload_n (pc := 26) C (i := 0) dX10_spreadNow_26 rfl rfl <|
    aw_iload_n (pc := 27) C (i := 1) dX10_spreadNow_27 rfl rfl <|
    aw_callF (pc := 28) C (cr_V (rest := [.int (h2.1 42 1), .int (h2.1 42 0), .ref r1, .ref 8]) (F := (X10_placeOf v1)) C (c_X10_placeOf X.2.1 v1) dX10_spreadNow_28 mf_X10_placeOf ml_X10_229 im_X10_placeOf se_X10_placeOf sC_0 rfl ⟨(Nat.le_of_ble_eq_true rfl), (Nat.le_of_ble_eq_true rfl)⟩ rfl rfl (Nat.le_of_ble_eq_true rfl)) rfl rfl rfl (Nat.zero_le _) (Nat.zero_le _) fun r4 h5 =>
    aw_iload_n (pc := 31) C (i := 2) dX10_spreadNow_31 rfl rfl <|
    aw_callF (pc := 32) C (cr_V (rest := []) (F := (X1_spread r1 (h2.1 42 0) (h2.1 42 1) r4 v2)) C (c_X1_spread X.2.1 r1 hs3 (h2.1 42 0) (h2.1 42 1) r4 v2) dX10_spreadNow_32 mf_X1_spread ml_X10_242 im_X1_spread se_X1_spread sC_8 rfl ⟨(Nat.le_of_ble_eq_true rfl), (Nat.le_of_ble_eq_true rfl)⟩ rfl rfl (Nat.le_of_ble_eq_true rfl)) rfl rfl rfl (Nat.zero_le _) (Nat.zero_le _) fun _ h7 =>
    aw_vret (pc := 35) C dX10_spreadNow_35 rfl rfl

abbrev rmX10_spreadAt : Room := { frames := 5, cells := 0, slots := 0, locals := 136 }
def X10_spreadAt (p1 : Nat) (v2 : Int32) (h : AH) : Option (Unit × AH) :=
    bd (X1_spread p1 (h.1 42 0) (h.1 42 1) v2 0 h) fun _ h2 =>
    some ((), h2)
set_option maxRecDepth 100000 in
theorem c_X10_spreadAt (l : Launch) (p1 : Nat) (hJ1 : ZC.1[p1]? = some (.inr 2)) (v2 : Int32) : MC l yX10_spreadAt cX10_spreadAt 3 none rmX10_spreadAt ZC [.ref 0, .ref p1, .int v2] rvV (X10_spreadAt p1 v2) :=
  MC.of (own := RX10) (by decide +kernel) rfl (Nat.le_of_ble_eq_true rfl) fun X yd A h _ C =>
    aw_aload_n (pc := 0) C (i := 0) dX10_spreadAt_0 rfl rfl <|
    aw_getR (pc := 1) C (b := 8) dX10_spreadAt_1 fl_X10_35 sC_0 rfl rC_0_11 <|
    aw_aload_n (pc := 4) C (i := 1) dX10_spreadAt_4 rfl rfl <|
    aw_aload_n (pc := 5) C (i := 0) dX10_spreadAt_5 rfl rfl <|
    aw_getR (pc := 6) C (b := 42) dX10_spreadAt_6 fl_X10_72 sC_0 rfl rC_0_1 <|
    aw_getI (pc := 9) C dX10_spreadAt_9 fl_X10_163 (mt_s (Or.inl rfl)) rfl <|
    aw_aload_n (pc := 12) C (i := 0) dX10_spreadAt_12 rfl rfl <|
    aw_getR (pc := 13) C (b := 42) dX10_spreadAt_13 fl_X10_72 sC_0 rfl rC_0_1 <|
    aw_getI (pc := 16) C dX10_spreadAt_16 fl_X10_157 (mt_s (Or.inl rfl)) rfl <|
    aw_iload_n (pc := 19) C (i := 2) dX10_spreadAt_19 rfl rfl <|
    aw_iconst (pc := 20) C (v := 0) dX10_spreadAt_20 rfl <|
    aw_callF (pc := 21) C (cr_V (rest := []) (F := (X1_spread p1 (h.1 42 0) (h.1 42 1) v2 0)) C (c_X1_spread X.2.1 p1 hJ1 (h.1 42 0) (h.1 42 1) v2 0) dX10_spreadAt_21 mf_X1_spread ml_X10_242 im_X1_spread se_X1_spread sC_8 rfl ⟨(Nat.le_of_ble_eq_true rfl), (Nat.le_of_ble_eq_true rfl)⟩ rfl rfl (Nat.le_of_ble_eq_true rfl)) rfl rfl rfl (Nat.zero_le _) (Nat.zero_le _) fun _ h2 =>
    aw_vret (pc := 24) C dX10_spreadAt_24 rfl rfl

abbrev rmX10_off : Room := { frames := 6, cells := 0, slots := 0, locals := 158 }
def X10_off (v1 : Int32) (v2 : Int32) (v3 : Int32) (h : AH) : Option (Int64 × AH) :=
    bd (X10_nobody v1 h) fun r1 h2 =>
    bd (X10_outside v2 (-300) 300 h2) fun r3 h4 =>
    bd (X10_first r1 r3 h4) fun r5 h6 =>
    bd (X10_noPart v3 h6) fun r7 h8 =>
    bd (X10_first r5 r7 h8) fun r9 h10 =>
    if r9 = 0 then (bd (X10_spreadNow v1 v2 h10) fun _ h12 =>
    bd (X10_fraction (h12.2.1 8 4) (h12.2.1 8 2) v3 h12) fun r13 h14 =>
    some (r13, h14))
    else (bd (X10_refuse r9 h10) fun r15 h16 =>
    some ((4000000000000000000 - r15.toInt64), h16))
set_option maxRecDepth 100000 in
theorem c_X10_off (l : Launch) (v1 : Int32) (v2 : Int32) (v3 : Int32) : MC l yX10_off cX10_off 5 (some .long) rmX10_off ZC [.ref 0, .int v1, .int v2, .int v3] rvL (X10_off v1 v2 v3) :=
  MC.of (own := RX10) (by decide +kernel) rfl (Nat.le_of_ble_eq_true rfl) fun X yd A h _ C =>
    aw_aload_n (pc := 0) C (i := 0) dX10_off_0 rfl rfl <|
    aw_iload_n (pc := 1) C (i := 1) dX10_off_1 rfl rfl <|
    aw_callF (pc := 2) C (cr_V (rest := []) (F := (X10_nobody v1)) C (c_X10_nobody X.2.1 v1) dX10_off_2 mf_X10_nobody ml_X10_93 im_X10_nobody se_X10_nobody sC_0 rfl ⟨(Nat.le_of_ble_eq_true rfl), (Nat.le_of_ble_eq_true rfl)⟩ rfl rfl (Nat.le_of_ble_eq_true rfl)) rfl rfl rfl (Nat.zero_le _) (Nat.zero_le _) fun r1 h2 =>
    aw_iload_n (pc := 5) C (i := 2) dX10_off_5 rfl rfl <|
    aw_sipush (pc := 6) C (v := (-300)) dX10_off_6 rfl <|
    aw_sipush (pc := 9) C (v := 300) dX10_off_9 rfl <|
    aw_callF (pc := 12) C (cr_S (rest := [.int r1]) (F := (X10_outside v2 (-300) 300)) C (c_X10_outside X.2.1 v2 (-300) 300) dX10_off_12 mf_X10_outside ml_X10_104 st_X10_outside ⟨(Nat.le_of_ble_eq_true rfl), (Nat.le_of_ble_eq_true rfl)⟩ rfl rfl (Nat.le_of_ble_eq_true rfl)) rfl rfl rfl (Nat.zero_le _) (Nat.zero_le _) fun r3 h4 =>
    aw_callF (pc := 15) C (cr_S (rest := []) (F := (X10_first r1 r3)) C (c_X10_first X.2.1 r1 r3) dX10_off_15 mf_X10_first ml_X10_97 st_X10_first ⟨(Nat.le_of_ble_eq_true rfl), (Nat.le_of_ble_eq_true rfl)⟩ rfl rfl (Nat.le_of_ble_eq_true rfl)) rfl rfl rfl (Nat.zero_le _) (Nat.zero_le _) fun r5 h6 =>
    aw_iload_n (pc := 18) C (i := 3) dX10_off_18 rfl rfl <|
    aw_callF (pc := 19) C (cr_S (rest := [.int r5]) (F := (X10_noPart v3)) C (c_X10_noPart X.2.1 v3) dX10_off_19 mf_X10_noPart ml_X10_246 st_X10_noPart ⟨(Nat.le_of_ble_eq_true rfl), (Nat.le_of_ble_eq_true rfl)⟩ rfl rfl (Nat.le_of_ble_eq_true rfl)) rfl rfl rfl (Nat.zero_le _) (Nat.zero_le _) fun r7 h8 =>
    aw_callF (pc := 22) C (cr_S (rest := []) (F := (X10_first r5 r7)) C (c_X10_first X.2.1 r5 r7) dX10_off_22 mf_X10_first ml_X10_97 st_X10_first ⟨(Nat.le_of_ble_eq_true rfl), (Nat.le_of_ble_eq_true rfl)⟩ rfl rfl (Nat.le_of_ble_eq_true rfl)) rfl rfl rfl (Nat.zero_le _) (Nat.zero_le _) fun r9 h10 =>
    aw_istore (pc := 25) C (i := 4) (lv' := [(0, .ref 0), (1, .int v1), (2, .int v2), (3, .int v3), (4, .int r9)]) dX10_off_25 (by decide) rfl <|
    aw_iload (pc := 27) C (i := 4) dX10_off_27 rfl <|
    aw_if_eq (pc := 29) C (tgt := 44) dX10_off_29 rfl (fun _ =>
    aw_aload_n (pc := 44) C (i := 0) dX10_off_44 rfl rfl <|
    aw_iload_n (pc := 45) C (i := 1) dX10_off_45 rfl rfl <|
    aw_iload_n (pc := 46) C (i := 2) dX10_off_46 rfl rfl <|
    aw_callF (pc := 47) C (cr_V (rest := []) (F := (X10_spreadNow v1 v2)) C (c_X10_spreadNow X.2.1 v1 v2) dX10_off_47 mf_X10_spreadNow ml_X10_251 im_X10_spreadNow se_X10_spreadNow sC_0 rfl ⟨(Nat.le_of_ble_eq_true rfl), (Nat.le_of_ble_eq_true rfl)⟩ rfl rfl (Nat.le_of_ble_eq_true rfl)) rfl rfl rfl (Nat.zero_le _) (Nat.zero_le _) fun _ h12 =>
    aw_aload_n (pc := 50) C (i := 0) dX10_off_50 rfl rfl <|
    aw_getR (pc := 51) C (b := 8) dX10_off_51 fl_X10_35 sC_0 rfl rC_0_11 <|
    aw_getL (pc := 54) C dX10_off_54 fl_X10_255 sC_8 rfl <|
    aw_aload_n (pc := 57) C (i := 0) dX10_off_57 rfl rfl <|
    aw_getR (pc := 58) C (b := 8) dX10_off_58 fl_X10_35 sC_0 rfl rC_0_11 <|
    aw_getL (pc := 61) C dX10_off_61 fl_X10_259 sC_8 rfl <|
    aw_iload_n (pc := 64) C (i := 3) dX10_off_64 rfl rfl <|
    aw_callF (pc := 65) C (cr_S (rest := []) (F := (X10_fraction (h12.2.1 8 4) (h12.2.1 8 2) v3)) C (c_X10_fraction X.2.1 (h12.2.1 8 4) (h12.2.1 8 2) v3) dX10_off_65 mf_X10_fraction ml_X10_262 st_X10_fraction ⟨(Nat.le_of_ble_eq_true rfl), (Nat.le_of_ble_eq_true rfl)⟩ rfl rfl (Nat.le_of_ble_eq_true rfl)) rfl rfl rfl (Nat.zero_le _) (Nat.zero_le _) fun r13 h14 =>
    aw_lret (pc := 68) C dX10_off_68 rfl rfl) (fun _ =>
    aw_ldc2_w (pc := 32) C (v := 4000000000000000000) dX10_off_32 kc_X10_249 <|
    aw_aload_n (pc := 35) C (i := 0) dX10_off_35 rfl rfl <|
    aw_iload (pc := 36) C (i := 4) dX10_off_36 rfl <|
    aw_callF (pc := 38) C (cr_V (rest := [.long 4000000000000000000]) (F := (X10_refuse r9)) C (c_X10_refuse X.2.1 r9) dX10_off_38 mf_X10_refuse ml_X10_111 im_X10_refuse se_X10_refuse sC_0 rfl ⟨(Nat.le_of_ble_eq_true rfl), (Nat.le_of_ble_eq_true rfl)⟩ rfl rfl (Nat.le_of_ble_eq_true rfl)) rfl rfl rfl (Nat.zero_le _) (Nat.zero_le _) fun r15 h16 =>
    aw_i2l (pc := 41) C dX10_off_41 <|
    aw_lsub (pc := 42) C dX10_off_42 <|
    aw_lret (pc := 43) C dX10_off_43 rfl rfl)

abbrev rmX10_mean : Room := { frames := 6, cells := 0, slots := 0, locals := 158 }
def X10_mean_j66  (v3 : Int32) (s0 : Int64) (h : AH) : Option (Int64 × AH) :=
    bd (X10_fraction s0 (h.2.1 8 2) v3 h) fun r15 h16 =>
    some (r15, h16)
set_option maxRecDepth 100000 in
theorem aX10_mean_j66 {X : MCx} {yd : Dyn} {A : Nat → Prop} (C : OK X cX10_mean RX10 5 (some .long) rmX10_mean A)  (v3 : Int32) (s0 : Int64) (h : AH) : AW X 5 ZC yd A 0 0 (QF X rmX10_mean ZC yd rvL A) 66 [(0, .ref 0), (3, .int v3)] [.long s0] h (X10_mean_j66 v3 s0 h) := by
    exact aw_aload_n (pc := 66) C (i := 0) dX10_mean_66 rfl rfl <|
    aw_getR (pc := 67) C (b := 8) dX10_mean_67 fl_X10_35 sC_0 rfl rC_0_11 <|
    aw_getL (pc := 70) C dX10_mean_70 fl_X10_259 sC_8 rfl <|
    aw_iload_n (pc := 73) C (i := 3) dX10_mean_73 rfl rfl <|
    aw_callF (pc := 74) C (cr_S (rest := []) (F := (X10_fraction s0 (h.2.1 8 2) v3)) C (c_X10_fraction X.2.1 s0 (h.2.1 8 2) v3) dX10_mean_74 mf_X10_fraction ml_X10_262 st_X10_fraction ⟨(Nat.le_of_ble_eq_true rfl), (Nat.le_of_ble_eq_true rfl)⟩ rfl rfl (Nat.le_of_ble_eq_true rfl)) rfl rfl rfl (Nat.zero_le _) (Nat.zero_le _) fun r15 h16 =>
    aw_lret (pc := 77) C dX10_mean_77 rfl rfl
def X10_mean (v1 : Int32) (v2 : Int32) (v3 : Int32) (h : AH) : Option (Int64 × AH) :=
    bd (X10_nobody v1 h) fun r1 h2 =>
    bd (X10_noSuch v2 1 h2) fun r3 h4 =>
    bd (X10_noPart v3 h4) fun r5 h6 =>
    bd (X10_first r3 r5 h6) fun r7 h8 =>
    bd (X10_first r1 r7 h8) fun r9 h10 =>
    if r9 = 0 then (bd (X10_spreadNow v1 0 h10) fun _ h12 =>
    if v2 = 0 then (X10_mean_j66 v3 (h12.2.1 8 3) h12)
    else (bd (X1_meanWays h12) fun r13 h14 =>
    X10_mean_j66 v3 r13 h14))
    else (bd (X10_refuse r9 h10) fun r17 h18 =>
    some ((4000000000000000000 - r17.toInt64), h18))
set_option maxRecDepth 100000 in
theorem c_X10_mean (l : Launch) (v1 : Int32) (v2 : Int32) (v3 : Int32) : MC l yX10_mean cX10_mean 5 (some .long) rmX10_mean ZC [.ref 0, .int v1, .int v2, .int v3] rvL (X10_mean v1 v2 v3) :=
  MC.of (own := RX10) (by decide +kernel) rfl (Nat.le_of_ble_eq_true rfl) fun X yd A h _ C =>
    aw_aload_n (pc := 0) C (i := 0) dX10_mean_0 rfl rfl <|
    aw_iload_n (pc := 1) C (i := 1) dX10_mean_1 rfl rfl <|
    aw_callF (pc := 2) C (cr_V (rest := []) (F := (X10_nobody v1)) C (c_X10_nobody X.2.1 v1) dX10_mean_2 mf_X10_nobody ml_X10_93 im_X10_nobody se_X10_nobody sC_0 rfl ⟨(Nat.le_of_ble_eq_true rfl), (Nat.le_of_ble_eq_true rfl)⟩ rfl rfl (Nat.le_of_ble_eq_true rfl)) rfl rfl rfl (Nat.zero_le _) (Nat.zero_le _) fun r1 h2 =>
    aw_iload_n (pc := 5) C (i := 2) dX10_mean_5 rfl rfl <|
    aw_iconst (pc := 6) C (v := 1) dX10_mean_6 rfl <|
    aw_callF (pc := 7) C (cr_S (rest := [.int r1]) (F := (X10_noSuch v2 1)) C (c_X10_noSuch X.2.1 v2 1) dX10_mean_7 mf_X10_noSuch ml_X10_101 st_X10_noSuch ⟨(Nat.le_of_ble_eq_true rfl), (Nat.le_of_ble_eq_true rfl)⟩ rfl rfl (Nat.le_of_ble_eq_true rfl)) rfl rfl rfl (Nat.zero_le _) (Nat.zero_le _) fun r3 h4 =>
    aw_iload_n (pc := 10) C (i := 3) dX10_mean_10 rfl rfl <|
    aw_callF (pc := 11) C (cr_S (rest := [.int r3, .int r1]) (F := (X10_noPart v3)) C (c_X10_noPart X.2.1 v3) dX10_mean_11 mf_X10_noPart ml_X10_246 st_X10_noPart ⟨(Nat.le_of_ble_eq_true rfl), (Nat.le_of_ble_eq_true rfl)⟩ rfl rfl (Nat.le_of_ble_eq_true rfl)) rfl rfl rfl (Nat.zero_le _) (Nat.zero_le _) fun r5 h6 =>
    aw_callF (pc := 14) C (cr_S (rest := [.int r1]) (F := (X10_first r3 r5)) C (c_X10_first X.2.1 r3 r5) dX10_mean_14 mf_X10_first ml_X10_97 st_X10_first ⟨(Nat.le_of_ble_eq_true rfl), (Nat.le_of_ble_eq_true rfl)⟩ rfl rfl (Nat.le_of_ble_eq_true rfl)) rfl rfl rfl (Nat.zero_le _) (Nat.zero_le _) fun r7 h8 =>
    aw_callF (pc := 17) C (cr_S (rest := []) (F := (X10_first r1 r7)) C (c_X10_first X.2.1 r1 r7) dX10_mean_17 mf_X10_first ml_X10_97 st_X10_first ⟨(Nat.le_of_ble_eq_true rfl), (Nat.le_of_ble_eq_true rfl)⟩ rfl rfl (Nat.le_of_ble_eq_true rfl)) rfl rfl rfl (Nat.zero_le _) (Nat.zero_le _) fun r9 h10 =>
    aw_istore (pc := 20) C (i := 4) (lv' := [(0, .ref 0), (1, .int v1), (2, .int v2), (3, .int v3), (4, .int r9)]) dX10_mean_20 (by decide) rfl <|
    aw_iload (pc := 22) C (i := 4) dX10_mean_22 rfl <|
    aw_if_eq (pc := 24) C (tgt := 39) dX10_mean_24 rfl (fun _ =>
    aw_aload_n (pc := 39) C (i := 0) dX10_mean_39 rfl rfl <|
    aw_iload_n (pc := 40) C (i := 1) dX10_mean_40 rfl rfl <|
    aw_iconst (pc := 41) C (v := 0) dX10_mean_41 rfl <|
    aw_callF (pc := 42) C (cr_V (rest := []) (F := (X10_spreadNow v1 0)) C (c_X10_spreadNow X.2.1 v1 0) dX10_mean_42 mf_X10_spreadNow ml_X10_251 im_X10_spreadNow se_X10_spreadNow sC_0 rfl ⟨(Nat.le_of_ble_eq_true rfl), (Nat.le_of_ble_eq_true rfl)⟩ rfl rfl (Nat.le_of_ble_eq_true rfl)) rfl rfl rfl (Nat.zero_le _) (Nat.zero_le _) fun _ h12 =>
    aw_iload_n (pc := 45) C (i := 2) dX10_mean_45 rfl rfl <|
    aw_if_ne (pc := 46) C (tgt := 59) dX10_mean_46 rfl (fun _ =>
    aw_aload_n (pc := 49) C (i := 0) dX10_mean_49 rfl rfl <|
    aw_getR (pc := 50) C (b := 8) dX10_mean_50 fl_X10_35 sC_0 rfl rC_0_11 <|
    aw_getL (pc := 53) C dX10_mean_53 fl_X10_266 sC_8 rfl <|
    aw_goto (pc := 56) C (tgt := 66) dX10_mean_56 rfl <|
    aw_drop [0, 3] (aX10_mean_j66 C v3 (h12.2.1 8 3) h12)) (fun _ =>
    aw_aload_n (pc := 59) C (i := 0) dX10_mean_59 rfl rfl <|
    aw_getR (pc := 60) C (b := 8) dX10_mean_60 fl_X10_35 sC_0 rfl rC_0_11 <|
    aw_callF (pc := 63) C (cr_V (rest := []) (F := X1_meanWays) C (c_X1_meanWays X.2.1 ) dX10_mean_63 mf_X1_meanWays ml_X10_269 im_X1_meanWays se_X1_meanWays sC_8 rfl ⟨(Nat.le_of_ble_eq_true rfl), (Nat.le_of_ble_eq_true rfl)⟩ rfl rfl (Nat.le_of_ble_eq_true rfl)) rfl rfl rfl (Nat.zero_le _) (Nat.zero_le _) fun r13 h14 =>
    aw_drop [0, 3] (aX10_mean_j66 C v3 r13 h14))) (fun _ =>
    aw_ldc2_w (pc := 27) C (v := 4000000000000000000) dX10_mean_27 kc_X10_249 <|
    aw_aload_n (pc := 30) C (i := 0) dX10_mean_30 rfl rfl <|
    aw_iload (pc := 31) C (i := 4) dX10_mean_31 rfl <|
    aw_callF (pc := 33) C (cr_V (rest := [.long 4000000000000000000]) (F := (X10_refuse r9)) C (c_X10_refuse X.2.1 r9) dX10_mean_33 mf_X10_refuse ml_X10_111 im_X10_refuse se_X10_refuse sC_0 rfl ⟨(Nat.le_of_ble_eq_true rfl), (Nat.le_of_ble_eq_true rfl)⟩ rfl rfl (Nat.le_of_ble_eq_true rfl)) rfl rfl rfl (Nat.zero_le _) (Nat.zero_le _) fun r17 h18 =>
    aw_i2l (pc := 36) C dX10_mean_36 <|
    aw_lsub (pc := 37) C dX10_mean_37 <|
    aw_lret (pc := 38) C dX10_mean_38 rfl rfl)

abbrev rmX10_past : Room := { frames := 6, cells := 0, slots := 0, locals := 158 }
def X10_past (v1 : Int32) (v2 : Int32) (v3 : Int32) (h : AH) : Option (Int64 × AH) :=
    bd (X10_nobody v1 h) fun r1 h2 =>
    bd (X10_outside v2 0 999 h2) fun r3 h4 =>
    bd (X10_first r1 r3 h4) fun r5 h6 =>
    bd (X10_noPart v3 h6) fun r7 h8 =>
    bd (X10_first r5 r7 h8) fun r9 h10 =>
    if r9 = 0 then (bd (X10_spreadNow v1 0 h10) fun _ h12 =>
    bd (X1_waysPast v2 h12) fun r13 h14 =>
    bd (X10_fraction r13 (h14.2.1 8 2) v3 h14) fun r15 h16 =>
    some (r15, h16))
    else (bd (X10_refuse r9 h10) fun r17 h18 =>
    some ((4000000000000000000 - r17.toInt64), h18))
set_option maxRecDepth 100000 in
theorem c_X10_past (l : Launch) (v1 : Int32) (v2 : Int32) (v3 : Int32) : MC l yX10_past cX10_past 5 (some .long) rmX10_past ZC [.ref 0, .int v1, .int v2, .int v3] rvL (X10_past v1 v2 v3) :=
  MC.of (own := RX10) (by decide +kernel) rfl (Nat.le_of_ble_eq_true rfl) fun X yd A h _ C =>
    aw_aload_n (pc := 0) C (i := 0) dX10_past_0 rfl rfl <|
    aw_iload_n (pc := 1) C (i := 1) dX10_past_1 rfl rfl <|
    aw_callF (pc := 2) C (cr_V (rest := []) (F := (X10_nobody v1)) C (c_X10_nobody X.2.1 v1) dX10_past_2 mf_X10_nobody ml_X10_93 im_X10_nobody se_X10_nobody sC_0 rfl ⟨(Nat.le_of_ble_eq_true rfl), (Nat.le_of_ble_eq_true rfl)⟩ rfl rfl (Nat.le_of_ble_eq_true rfl)) rfl rfl rfl (Nat.zero_le _) (Nat.zero_le _) fun r1 h2 =>
    aw_iload_n (pc := 5) C (i := 2) dX10_past_5 rfl rfl <|
    aw_iconst (pc := 6) C (v := 0) dX10_past_6 rfl <|
    aw_sipush (pc := 7) C (v := 999) dX10_past_7 rfl <|
    aw_callF (pc := 10) C (cr_S (rest := [.int r1]) (F := (X10_outside v2 0 999)) C (c_X10_outside X.2.1 v2 0 999) dX10_past_10 mf_X10_outside ml_X10_104 st_X10_outside ⟨(Nat.le_of_ble_eq_true rfl), (Nat.le_of_ble_eq_true rfl)⟩ rfl rfl (Nat.le_of_ble_eq_true rfl)) rfl rfl rfl (Nat.zero_le _) (Nat.zero_le _) fun r3 h4 =>
    aw_callF (pc := 13) C (cr_S (rest := []) (F := (X10_first r1 r3)) C (c_X10_first X.2.1 r1 r3) dX10_past_13 mf_X10_first ml_X10_97 st_X10_first ⟨(Nat.le_of_ble_eq_true rfl), (Nat.le_of_ble_eq_true rfl)⟩ rfl rfl (Nat.le_of_ble_eq_true rfl)) rfl rfl rfl (Nat.zero_le _) (Nat.zero_le _) fun r5 h6 =>
    aw_iload_n (pc := 16) C (i := 3) dX10_past_16 rfl rfl <|
    aw_callF (pc := 17) C (cr_S (rest := [.int r5]) (F := (X10_noPart v3)) C (c_X10_noPart X.2.1 v3) dX10_past_17 mf_X10_noPart ml_X10_246 st_X10_noPart ⟨(Nat.le_of_ble_eq_true rfl), (Nat.le_of_ble_eq_true rfl)⟩ rfl rfl (Nat.le_of_ble_eq_true rfl)) rfl rfl rfl (Nat.zero_le _) (Nat.zero_le _) fun r7 h8 =>
    aw_callF (pc := 20) C (cr_S (rest := []) (F := (X10_first r5 r7)) C (c_X10_first X.2.1 r5 r7) dX10_past_20 mf_X10_first ml_X10_97 st_X10_first ⟨(Nat.le_of_ble_eq_true rfl), (Nat.le_of_ble_eq_true rfl)⟩ rfl rfl (Nat.le_of_ble_eq_true rfl)) rfl rfl rfl (Nat.zero_le _) (Nat.zero_le _) fun r9 h10 =>
    aw_istore (pc := 23) C (i := 4) (lv' := [(0, .ref 0), (1, .int v1), (2, .int v2), (3, .int v3), (4, .int r9)]) dX10_past_23 (by decide) rfl <|
    aw_iload (pc := 25) C (i := 4) dX10_past_25 rfl <|
    aw_if_eq (pc := 27) C (tgt := 42) dX10_past_27 rfl (fun _ =>
    aw_aload_n (pc := 42) C (i := 0) dX10_past_42 rfl rfl <|
    aw_iload_n (pc := 43) C (i := 1) dX10_past_43 rfl rfl <|
    aw_iconst (pc := 44) C (v := 0) dX10_past_44 rfl <|
    aw_callF (pc := 45) C (cr_V (rest := []) (F := (X10_spreadNow v1 0)) C (c_X10_spreadNow X.2.1 v1 0) dX10_past_45 mf_X10_spreadNow ml_X10_251 im_X10_spreadNow se_X10_spreadNow sC_0 rfl ⟨(Nat.le_of_ble_eq_true rfl), (Nat.le_of_ble_eq_true rfl)⟩ rfl rfl (Nat.le_of_ble_eq_true rfl)) rfl rfl rfl (Nat.zero_le _) (Nat.zero_le _) fun _ h12 =>
    aw_aload_n (pc := 48) C (i := 0) dX10_past_48 rfl rfl <|
    aw_getR (pc := 49) C (b := 8) dX10_past_49 fl_X10_35 sC_0 rfl rC_0_11 <|
    aw_iload_n (pc := 52) C (i := 2) dX10_past_52 rfl rfl <|
    aw_callF (pc := 53) C (cr_V (rest := []) (F := (X1_waysPast v2)) C (c_X1_waysPast X.2.1 v2) dX10_past_53 mf_X1_waysPast ml_X10_273 im_X1_waysPast se_X1_waysPast sC_8 rfl ⟨(Nat.le_of_ble_eq_true rfl), (Nat.le_of_ble_eq_true rfl)⟩ rfl rfl (Nat.le_of_ble_eq_true rfl)) rfl rfl rfl (Nat.zero_le _) (Nat.zero_le _) fun r13 h14 =>
    aw_aload_n (pc := 56) C (i := 0) dX10_past_56 rfl rfl <|
    aw_getR (pc := 57) C (b := 8) dX10_past_57 fl_X10_35 sC_0 rfl rC_0_11 <|
    aw_getL (pc := 60) C dX10_past_60 fl_X10_259 sC_8 rfl <|
    aw_iload_n (pc := 63) C (i := 3) dX10_past_63 rfl rfl <|
    aw_callF (pc := 64) C (cr_S (rest := []) (F := (X10_fraction r13 (h14.2.1 8 2) v3)) C (c_X10_fraction X.2.1 r13 (h14.2.1 8 2) v3) dX10_past_64 mf_X10_fraction ml_X10_262 st_X10_fraction ⟨(Nat.le_of_ble_eq_true rfl), (Nat.le_of_ble_eq_true rfl)⟩ rfl rfl (Nat.le_of_ble_eq_true rfl)) rfl rfl rfl (Nat.zero_le _) (Nat.zero_le _) fun r15 h16 =>
    aw_lret (pc := 67) C dX10_past_67 rfl rfl) (fun _ =>
    aw_ldc2_w (pc := 30) C (v := 4000000000000000000) dX10_past_30 kc_X10_249 <|
    aw_aload_n (pc := 33) C (i := 0) dX10_past_33 rfl rfl <|
    aw_iload (pc := 34) C (i := 4) dX10_past_34 rfl <|
    aw_callF (pc := 36) C (cr_V (rest := [.long 4000000000000000000]) (F := (X10_refuse r9)) C (c_X10_refuse X.2.1 r9) dX10_past_36 mf_X10_refuse ml_X10_111 im_X10_refuse se_X10_refuse sC_0 rfl ⟨(Nat.le_of_ble_eq_true rfl), (Nat.le_of_ble_eq_true rfl)⟩ rfl rfl (Nat.le_of_ble_eq_true rfl)) rfl rfl rfl (Nat.zero_le _) (Nat.zero_le _) fun r17 h18 =>
    aw_i2l (pc := 39) C dX10_past_39 <|
    aw_lsub (pc := 40) C dX10_past_40 <|
    aw_lret (pc := 41) C dX10_past_41 rfl rfl)

abbrev rmX10_bestLook : Room := { frames := 6, cells := 0, slots := 0, locals := 158 }
def X10_bestLook_j97  (v3 : Int32) (v4 : Int32) (v5 : Int64) (v7 : Int32) (K48 : Int32 → Int64 → Int32 → AH → Option (Int32 × AH)) (h : AH) : Option (Int32 × AH) :=
    vl (v7 + 1) fun x16 =>
    K48 v4 v5 x16 h
set_option maxRecDepth 100000 in
theorem aX10_bestLook_j97 {X : MCx} {yd : Dyn} {A : Nat → Prop} (C : OK X cX10_bestLook RX10 10 (some .int) rmX10_bestLook A)  (v3 : Int32) (v4 : Int32) (v5 : Int64) (v7 : Int32) (K48 : Int32 → Int64 → Int32 → AH → Option (Int32 × AH)) (hK48 : ∀ (w4 : Int32) (w5 : Int64) (w7 : Int32) (h : AH), AW X 10 ZC yd A 0 0 (QF X rmX10_bestLook ZC yd rvI A) 48 [(0, .ref 0), (3, .int v3), (4, .int w4), (5, .long w5), (7, .int w7)] [] h (K48 w4 w5 w7 h)) (h : AH) : AW X 10 ZC yd A 0 0 (QF X rmX10_bestLook ZC yd rvI A) 97 [(0, .ref 0), (3, .int v3), (4, .int v4), (5, .long v5), (7, .int v7)] [] h (X10_bestLook_j97 v3 v4 v5 v7 K48 h) := by
    exact aw_iincV (pc := 97) C (i := 7) (cst := 1) (fun x16 => [(0, .ref 0), (3, .int v3), (4, .int v4), (5, .long v5), (7, .int x16)]) dX10_bestLook_97 rfl rfl (by decide) (fun _ => rfl) fun x16 =>
    aw_goto (pc := 100) C (tgt := 48) dX10_bestLook_100 rfl <|
    (hK48 v4 v5 x16 h)
def X10_bestLook_l48  (v3 : Int32) : Nat → Int32 → Int64 → Int32 → AH → Option (Int32 × AH)
  | 0, _, _, _, _ => none
  | n + 1, v4, v5, v7, h =>
    if 4 < v7 then (some (v4, h))
    else (vl (sI h 72 7 v7) fun h11 =>
    bd (X10_spreadAt 72 v3 h11) fun _ h13 =>
    bd (X1_meanWays h13) fun r14 h15 =>
    if (lcmpV r14 v5) ≤ 0 then (X10_bestLook_j97 v3 v4 v5 v7 (X10_bestLook_l48 v3 n) h15)
    else (X10_bestLook_j97 v3 v7 r14 v7 (X10_bestLook_l48 v3 n) h15))
set_option maxRecDepth 100000 in
theorem aX10_bestLook_l48 {X : MCx} {yd : Dyn} {A : Nat → Prop} (C : OK X cX10_bestLook RX10 10 (some .int) rmX10_bestLook A)  (v3 : Int32) : ∀ (n : Nat) (v4 : Int32) (v5 : Int64) (v7 : Int32) (h : AH), AW X 10 ZC yd A 0 0 (QF X rmX10_bestLook ZC yd rvI A) 48 [(0, .ref 0), (3, .int v3), (4, .int v4), (5, .long v5), (7, .int v7)] [] h (X10_bestLook_l48 v3 n v4 v5 v7 h) := by
  intro n
  induction n with
  | zero => intro v4 v5 v7 h; exact aw_none
  | succ n ih =>
    intro v4 v5 v7 h
    exact aw_iload (pc := 48) C (i := 7) dX10_bestLook_48 rfl <|
    aw_iconst (pc := 50) C (v := 4) dX10_bestLook_50 rfl <|
    aw_icmp_gt (pc := 51) C (tgt := 103) dX10_bestLook_51 rfl (fun _ =>
    aw_iload (pc := 103) C (i := 4) dX10_bestLook_103 rfl <|
    aw_iret (pc := 105) C dX10_bestLook_105 rfl rfl) (fun _ =>
    aw_aload_n (pc := 54) C (i := 0) dX10_bestLook_54 rfl rfl <|
    aw_getR (pc := 55) C (b := 72) dX10_bestLook_55 fl_X10_85 sC_0 rfl rC_0_12 <|
    aw_iload (pc := 58) C (i := 7) dX10_bestLook_58 rfl <|
    aw_putI (pc := 60) C dX10_bestLook_60 fp_X10_195 sC_72 rfl fun h11 =>
    aw_aload_n (pc := 63) C (i := 0) dX10_bestLook_63 rfl rfl <|
    aw_aload_n (pc := 64) C (i := 0) dX10_bestLook_64 rfl rfl <|
    aw_getR (pc := 65) C (b := 72) dX10_bestLook_65 fl_X10_85 sC_0 rfl rC_0_12 <|
    aw_iload_n (pc := 68) C (i := 3) dX10_bestLook_68 rfl rfl <|
    aw_callF (pc := 69) C (cr_V (rest := []) (F := (X10_spreadAt 72 v3)) C (c_X10_spreadAt X.2.1 72 sC_72 v3) dX10_bestLook_69 mf_X10_spreadAt ml_X10_282 im_X10_spreadAt se_X10_spreadAt sC_0 rfl ⟨(Nat.le_of_ble_eq_true rfl), (Nat.le_of_ble_eq_true rfl)⟩ rfl rfl (Nat.le_of_ble_eq_true rfl)) rfl rfl rfl (Nat.zero_le _) (Nat.zero_le _) fun _ h13 =>
    aw_aload_n (pc := 72) C (i := 0) dX10_bestLook_72 rfl rfl <|
    aw_getR (pc := 73) C (b := 8) dX10_bestLook_73 fl_X10_35 sC_0 rfl rC_0_11 <|
    aw_callF (pc := 76) C (cr_V (rest := []) (F := X1_meanWays) C (c_X1_meanWays X.2.1 ) dX10_bestLook_76 mf_X1_meanWays ml_X10_269 im_X1_meanWays se_X1_meanWays sC_8 rfl ⟨(Nat.le_of_ble_eq_true rfl), (Nat.le_of_ble_eq_true rfl)⟩ rfl rfl (Nat.le_of_ble_eq_true rfl)) rfl rfl rfl (Nat.zero_le _) (Nat.zero_le _) fun r14 h15 =>
    aw_lstore (pc := 79) C (i := 8) (lv' := [(0, .ref 0), (3, .int v3), (4, .int v4), (5, .long v5), (7, .int v7), (8, .long r14)]) dX10_bestLook_79 (by decide) rfl <|
    aw_lload (pc := 81) C (i := 8) dX10_bestLook_81 rfl <|
    aw_lload (pc := 83) C (i := 5) dX10_bestLook_83 rfl <|
    aw_lcmp (pc := 85) C dX10_bestLook_85 <|
    aw_if_le (pc := 86) C (tgt := 97) dX10_bestLook_86 rfl (fun _ =>
    aw_drop [0, 1, 2, 3, 4] (aX10_bestLook_j97 C v3 v4 v5 v7 (X10_bestLook_l48 v3 n) ih h15)) (fun _ =>
    aw_lload (pc := 89) C (i := 8) dX10_bestLook_89 rfl <|
    aw_lstore (pc := 91) C (i := 5) (lv' := [(0, .ref 0), (3, .int v3), (4, .int v4), (5, .long r14), (7, .int v7), (8, .long r14)]) dX10_bestLook_91 (by decide) rfl <|
    aw_iload (pc := 93) C (i := 7) dX10_bestLook_93 rfl <|
    aw_istore (pc := 95) C (i := 4) (lv' := [(0, .ref 0), (3, .int v3), (4, .int v7), (5, .long r14), (7, .int v7), (8, .long r14)]) dX10_bestLook_95 (by decide) rfl <|
    aw_drop [0, 1, 2, 3, 4] (aX10_bestLook_j97 C v3 v7 r14 v7 (X10_bestLook_l48 v3 n) ih h15)))
def X10_bestLook (v1 : Int32) (h : AH) : Option (Int32 × AH) :=
    bd (X10_nobody v1 h) fun r1 h2 =>
    if r1 = 0 then (bd (X5_at 42 v1 h2) fun r3 h4 =>
    cs ZC r3 (.inr 2) (bd (X2_copyFrom 72 r3 h4) fun _ h7 =>
    bd (X10_placeOf v1 h7) fun r8 h9 =>
    vl (-1) fun x10 =>
    X10_bestLook_l48 r8 FU 0 x10 0 h9))
    else (bd (X10_refuse r1 h2) fun r17 h18 =>
    some (r17, h18))
set_option maxRecDepth 100000 in
theorem c_X10_bestLook (l : Launch) (v1 : Int32) : MC l yX10_bestLook cX10_bestLook 10 (some .int) rmX10_bestLook ZC [.ref 0, .int v1] rvI (X10_bestLook v1) :=
  MC.of (own := RX10) (by decide +kernel) rfl (Nat.le_of_ble_eq_true rfl) fun X yd A h _ C =>
    aw_aload_n (pc := 0) C (i := 0) dX10_bestLook_0 rfl rfl <|
    aw_iload_n (pc := 1) C (i := 1) dX10_bestLook_1 rfl rfl <|
    aw_callF (pc := 2) C (cr_V (rest := []) (F := (X10_nobody v1)) C (c_X10_nobody X.2.1 v1) dX10_bestLook_2 mf_X10_nobody ml_X10_93 im_X10_nobody se_X10_nobody sC_0 rfl ⟨(Nat.le_of_ble_eq_true rfl), (Nat.le_of_ble_eq_true rfl)⟩ rfl rfl (Nat.le_of_ble_eq_true rfl)) rfl rfl rfl (Nat.zero_le _) (Nat.zero_le _) fun r1 h2 =>
    aw_istore_n (pc := 5) C (i := 2) (lv' := [(0, .ref 0), (1, .int v1), (2, .int r1)]) dX10_bestLook_5 rfl (by decide) rfl <|
    aw_iload_n (pc := 6) C (i := 2) dX10_bestLook_6 rfl rfl <|
    aw_if_eq (pc := 7) C (tgt := 16) dX10_bestLook_7 rfl (fun _ =>
    aw_aload_n (pc := 16) C (i := 0) dX10_bestLook_16 rfl rfl <|
    aw_getR (pc := 17) C (b := 72) dX10_bestLook_17 fl_X10_85 sC_0 rfl rC_0_12 <|
    aw_aload_n (pc := 20) C (i := 0) dX10_bestLook_20 rfl rfl <|
    aw_getR (pc := 21) C (b := 42) dX10_bestLook_21 fl_X10_72 sC_0 rfl rC_0_1 <|
    aw_iload_n (pc := 24) C (i := 1) dX10_bestLook_24 rfl rfl <|
    aw_callF (pc := 25) C (cr_V (rest := [.ref 72]) (F := (X5_at 42 v1)) C (c_X5_at X.2.1 42 (Or.inl rfl) v1) dX10_bestLook_25 mf_X5_at ml_X10_169 im_X5_at se_X5_at (mt_s (Or.inl rfl)) rfl ⟨(Nat.le_of_ble_eq_true rfl), (Nat.le_of_ble_eq_true rfl)⟩ rfl rfl (Nat.le_of_ble_eq_true rfl)) rfl rfl rfl (Nat.zero_le _) (Nat.zero_le _) fun r3 h4 =>
    aw_cs fun hs5 =>
    aw_callF (pc := 28) C (cr_V (rest := []) (F := (X2_copyFrom 72 r3)) C (c_X2_copyFrom X.2.1 72 sC_72 r3 hs5) dX10_bestLook_28 mf_X2_copyFrom ml_X10_277 im_X2_copyFrom se_X2_copyFrom sC_72 rfl ⟨(Nat.le_of_ble_eq_true rfl), (Nat.le_of_ble_eq_true rfl)⟩ rfl rfl (Nat.le_of_ble_eq_true rfl)) rfl rfl rfl (Nat.zero_le _) (Nat.zero_le _) fun _ h7 =>
    aw_aload_n (pc := 31) C (i := 0) dX10_bestLook_31 rfl rfl <|
    aw_iload_n (pc := 32) C (i := 1) dX10_bestLook_32 rfl rfl <|
    aw_callF (pc := 33) C (cr_V (rest := []) (F := (X10_placeOf v1)) C (c_X10_placeOf X.2.1 v1) dX10_bestLook_33 mf_X10_placeOf ml_X10_229 im_X10_placeOf se_X10_placeOf sC_0 rfl ⟨(Nat.le_of_ble_eq_true rfl), (Nat.le_of_ble_eq_true rfl)⟩ rfl rfl (Nat.le_of_ble_eq_true rfl)) rfl rfl rfl (Nat.zero_le _) (Nat.zero_le _) fun r8 h9 =>
    aw_istore_n (pc := 36) C (i := 3) (lv' := [(0, .ref 0), (1, .int v1), (2, .int r1), (3, .int r8)]) dX10_bestLook_36 rfl (by decide) rfl <|
    aw_iconst (pc := 37) C (v := 0) dX10_bestLook_37 rfl <|
    aw_istore (pc := 38) C (i := 4) (lv' := [(0, .ref 0), (1, .int v1), (2, .int r1), (3, .int r8), (4, .int 0)]) dX10_bestLook_38 (by decide) rfl <|
    aw_ldc2_w (pc := 40) C (v := (-1)) dX10_bestLook_40 kc_X10_280 <|
    aw_lstoreV (pc := 43) C (i := 5) (fun x10 => [(0, .ref 0), (1, .int v1), (2, .int r1), (3, .int r8), (4, .int 0), (5, .long x10)]) dX10_bestLook_43 (by decide) (fun _ => rfl) fun x10 =>
    aw_iconst (pc := 45) C (v := 0) dX10_bestLook_45 rfl <|
    aw_istore (pc := 46) C (i := 7) (lv' := [(0, .ref 0), (1, .int v1), (2, .int r1), (3, .int r8), (4, .int 0), (5, .long x10), (7, .int 0)]) dX10_bestLook_46 (by decide) rfl <|
    aw_drop [0, 3, 4, 5, 6] (aX10_bestLook_l48 C r8 FU 0 x10 0 h9)) (fun _ =>
    aw_aload_n (pc := 10) C (i := 0) dX10_bestLook_10 rfl rfl <|
    aw_iload_n (pc := 11) C (i := 2) dX10_bestLook_11 rfl rfl <|
    aw_callF (pc := 12) C (cr_V (rest := []) (F := (X10_refuse r1)) C (c_X10_refuse X.2.1 r1) dX10_bestLook_12 mf_X10_refuse ml_X10_111 im_X10_refuse se_X10_refuse sC_0 rfl ⟨(Nat.le_of_ble_eq_true rfl), (Nat.le_of_ble_eq_true rfl)⟩ rfl rfl (Nat.le_of_ble_eq_true rfl)) rfl rfl rfl (Nat.zero_le _) (Nat.zero_le _) fun r17 h18 =>
    aw_iret (pc := 15) C dX10_bestLook_15 rfl rfl)

abbrev rmX10_bestMark : Room := { frames := 6, cells := 0, slots := 0, locals := 158 }
def X10_bestMark_j154  (v2 : Int32) (v4 : Nat) (v5 : Int32) (v6 : Int32) (v7 : Int64) (v9 : Int32) (K84 : Int32 → Int64 → Int32 → AH → Option (Int32 × AH)) (h : AH) : Option (Int32 × AH) :=
    vl (v9 + 1) fun x19 =>
    K84 v6 v7 x19 h
set_option maxRecDepth 100000 in
theorem aX10_bestMark_j154 {X : MCx} {yd : Dyn} {A : Nat → Prop} (C : OK X cX10_bestMark RX10 12 (some .int) rmX10_bestMark A)  (v2 : Int32) (v4 : Nat) (hs4 : ZC.1[v4]? = some (.inr 2)) (v5 : Int32) (v6 : Int32) (v7 : Int64) (v9 : Int32) (K84 : Int32 → Int64 → Int32 → AH → Option (Int32 × AH)) (hK84 : ∀ (w6 : Int32) (w7 : Int64) (w9 : Int32) (h : AH), AW X 12 ZC yd A 0 0 (QF X rmX10_bestMark ZC yd rvI A) 84 [(0, .ref 0), (2, .int v2), (4, .ref v4), (5, .int v5), (6, .int w6), (7, .long w7), (9, .int w9)] [] h (K84 w6 w7 w9 h)) (h : AH) : AW X 12 ZC yd A 0 0 (QF X rmX10_bestMark ZC yd rvI A) 154 [(0, .ref 0), (2, .int v2), (4, .ref v4), (5, .int v5), (6, .int v6), (7, .long v7), (9, .int v9)] [] h (X10_bestMark_j154 v2 v4 v5 v6 v7 v9 K84 h) := by
    exact aw_iincV (pc := 154) C (i := 9) (cst := 1) (fun x19 => [(0, .ref 0), (2, .int v2), (4, .ref v4), (5, .int v5), (6, .int v6), (7, .long v7), (9, .int x19)]) dX10_bestMark_154 rfl rfl (by decide) (fun _ => rfl) fun x19 =>
    aw_goto (pc := 157) C (tgt := 84) dX10_bestMark_157 rfl <|
    (hK84 v6 v7 x19 h)
def X10_bestMark_j136  (v2 : Int32) (v4 : Nat) (v5 : Int32) (v6 : Int32) (v7 : Int64) (v9 : Int32) (K84 : Int32 → Int64 → Int32 → AH → Option (Int32 × AH)) (s0 : Int64) (h : AH) : Option (Int32 × AH) :=
    if (lcmpV s0 v7) ≤ 0 then (X10_bestMark_j154 v2 v4 v5 v6 v7 v9 K84 h)
    else (X10_bestMark_j154 v2 v4 v5 v9 s0 v9 K84 h)
set_option maxRecDepth 100000 in
theorem aX10_bestMark_j136 {X : MCx} {yd : Dyn} {A : Nat → Prop} (C : OK X cX10_bestMark RX10 12 (some .int) rmX10_bestMark A)  (v2 : Int32) (v4 : Nat) (hs4 : ZC.1[v4]? = some (.inr 2)) (v5 : Int32) (v6 : Int32) (v7 : Int64) (v9 : Int32) (K84 : Int32 → Int64 → Int32 → AH → Option (Int32 × AH)) (hK84 : ∀ (w6 : Int32) (w7 : Int64) (w9 : Int32) (h : AH), AW X 12 ZC yd A 0 0 (QF X rmX10_bestMark ZC yd rvI A) 84 [(0, .ref 0), (2, .int v2), (4, .ref v4), (5, .int v5), (6, .int w6), (7, .long w7), (9, .int w9)] [] h (K84 w6 w7 w9 h)) (s0 : Int64) (h : AH) : AW X 12 ZC yd A 0 0 (QF X rmX10_bestMark ZC yd rvI A) 136 [(0, .ref 0), (2, .int v2), (4, .ref v4), (5, .int v5), (6, .int v6), (7, .long v7), (9, .int v9)] [.long s0] h (X10_bestMark_j136 v2 v4 v5 v6 v7 v9 K84 s0 h) := by
    exact aw_lstore (pc := 136) C (i := 10) (lv' := [(0, .ref 0), (2, .int v2), (4, .ref v4), (5, .int v5), (6, .int v6), (7, .long v7), (9, .int v9), (10, .long s0)]) dX10_bestMark_136 (by decide) rfl <|
    aw_lload (pc := 138) C (i := 10) dX10_bestMark_138 rfl <|
    aw_lload (pc := 140) C (i := 7) dX10_bestMark_140 rfl <|
    aw_lcmp (pc := 142) C dX10_bestMark_142 <|
    aw_if_le (pc := 143) C (tgt := 154) dX10_bestMark_143 rfl (fun _ =>
    aw_drop [0, 1, 2, 3, 4, 5, 6] (aX10_bestMark_j154 C v2 v4 hs4 v5 v6 v7 v9 K84 hK84 h)) (fun _ =>
    aw_lload (pc := 146) C (i := 10) dX10_bestMark_146 rfl <|
    aw_lstore (pc := 148) C (i := 7) (lv' := [(0, .ref 0), (2, .int v2), (4, .ref v4), (5, .int v5), (6, .int v6), (7, .long s0), (9, .int v9), (10, .long s0)]) dX10_bestMark_148 (by decide) rfl <|
    aw_iload (pc := 150) C (i := 9) dX10_bestMark_150 rfl <|
    aw_istore (pc := 152) C (i := 6) (lv' := [(0, .ref 0), (2, .int v2), (4, .ref v4), (5, .int v5), (6, .int v9), (7, .long s0), (9, .int v9), (10, .long s0)]) dX10_bestMark_152 (by decide) rfl <|
    aw_drop [0, 1, 2, 3, 4, 5, 6] (aX10_bestMark_j154 C v2 v4 hs4 v5 v9 s0 v9 K84 hK84 h))
def X10_bestMark_l84  (v2 : Int32) (v4 : Nat) (v5 : Int32) : Nat → Int32 → Int64 → Int32 → AH → Option (Int32 × AH)
  | 0, _, _, _, _ => none
  | n + 1, v6, v7, v9, h =>
    if (mn32 2400 ((h.1 v4 8) + 40)) < v9 then (some (v6, h))
    else (bd (X10_spreadAt v4 (v9 - v5) h) fun _ h16 =>
    if 0 ≤ v2 then (bd (X1_waysPast v2 h16) fun r17 h18 =>
    X10_bestMark_j136 v2 v4 v5 v6 v7 v9 (X10_bestMark_l84 v2 v4 v5 n) r17 h18)
    else (bd (X1_meanWays h16) fun r20 h21 =>
    X10_bestMark_j136 v2 v4 v5 v6 v7 v9 (X10_bestMark_l84 v2 v4 v5 n) r20 h21))
set_option maxRecDepth 100000 in
theorem aX10_bestMark_l84 {X : MCx} {yd : Dyn} {A : Nat → Prop} (C : OK X cX10_bestMark RX10 12 (some .int) rmX10_bestMark A)  (v2 : Int32) (v4 : Nat) (hs4 : ZC.1[v4]? = some (.inr 2)) (v5 : Int32) : ∀ (n : Nat) (v6 : Int32) (v7 : Int64) (v9 : Int32) (h : AH), AW X 12 ZC yd A 0 0 (QF X rmX10_bestMark ZC yd rvI A) 84 [(0, .ref 0), (2, .int v2), (4, .ref v4), (5, .int v5), (6, .int v6), (7, .long v7), (9, .int v9)] [] h (X10_bestMark_l84 v2 v4 v5 n v6 v7 v9 h) := by
  intro n
  induction n with
  | zero => intro v6 v7 v9 h; exact aw_none
  | succ n ih =>
    intro v6 v7 v9 h
    exact aw_iload (pc := 84) C (i := 9) dX10_bestMark_84 rfl <|
    aw_sipush (pc := 86) C (v := 2400) dX10_bestMark_86 rfl <|
    aw_aload (pc := 89) C (i := 4) dX10_bestMark_89 rfl <|
    aw_getI (pc := 91) C dX10_bestMark_91 fl_X10_198 hs4 rfl <|
    aw_bipush (pc := 94) C (v := 40) dX10_bestMark_94 rfl <|
    aw_iadd (pc := 96) C dX10_bestMark_96 <|
    aw_mmin (pc := 97) C dX10_bestMark_97 ml_X10_291 w_mminS w_mI w_mminC ⟨(Nat.le_of_ble_eq_true rfl), (Nat.le_of_ble_eq_true rfl)⟩ (Nat.zero_le _) (Nat.zero_le _) <|
    aw_icmp_gt (pc := 100) C (tgt := 160) dX10_bestMark_100 rfl (fun _ =>
    aw_iload (pc := 160) C (i := 6) dX10_bestMark_160 rfl <|
    aw_iret (pc := 162) C dX10_bestMark_162 rfl rfl) (fun _ =>
    aw_aload_n (pc := 103) C (i := 0) dX10_bestMark_103 rfl rfl <|
    aw_aload (pc := 104) C (i := 4) dX10_bestMark_104 rfl <|
    aw_iload (pc := 106) C (i := 9) dX10_bestMark_106 rfl <|
    aw_iload (pc := 108) C (i := 5) dX10_bestMark_108 rfl <|
    aw_isub (pc := 110) C dX10_bestMark_110 <|
    aw_callF (pc := 111) C (cr_V (rest := []) (F := (X10_spreadAt v4 (v9 - v5))) C (c_X10_spreadAt X.2.1 v4 hs4 (v9 - v5)) dX10_bestMark_111 mf_X10_spreadAt ml_X10_282 im_X10_spreadAt se_X10_spreadAt sC_0 rfl ⟨(Nat.le_of_ble_eq_true rfl), (Nat.le_of_ble_eq_true rfl)⟩ rfl rfl (Nat.le_of_ble_eq_true rfl)) rfl rfl rfl (Nat.zero_le _) (Nat.zero_le _) fun _ h16 =>
    aw_iload_n (pc := 114) C (i := 2) dX10_bestMark_114 rfl rfl <|
    aw_if_ge (pc := 115) C (tgt := 128) dX10_bestMark_115 rfl (fun _ =>
    aw_aload_n (pc := 128) C (i := 0) dX10_bestMark_128 rfl rfl <|
    aw_getR (pc := 129) C (b := 8) dX10_bestMark_129 fl_X10_35 sC_0 rfl rC_0_11 <|
    aw_iload_n (pc := 132) C (i := 2) dX10_bestMark_132 rfl rfl <|
    aw_callF (pc := 133) C (cr_V (rest := []) (F := (X1_waysPast v2)) C (c_X1_waysPast X.2.1 v2) dX10_bestMark_133 mf_X1_waysPast ml_X10_273 im_X1_waysPast se_X1_waysPast sC_8 rfl ⟨(Nat.le_of_ble_eq_true rfl), (Nat.le_of_ble_eq_true rfl)⟩ rfl rfl (Nat.le_of_ble_eq_true rfl)) rfl rfl rfl (Nat.zero_le _) (Nat.zero_le _) fun r17 h18 =>
    (aX10_bestMark_j136 C v2 v4 hs4 v5 v6 v7 v9 (X10_bestMark_l84 v2 v4 v5 n) ih r17 h18)) (fun _ =>
    aw_aload_n (pc := 118) C (i := 0) dX10_bestMark_118 rfl rfl <|
    aw_getR (pc := 119) C (b := 8) dX10_bestMark_119 fl_X10_35 sC_0 rfl rC_0_11 <|
    aw_callF (pc := 122) C (cr_V (rest := []) (F := X1_meanWays) C (c_X1_meanWays X.2.1 ) dX10_bestMark_122 mf_X1_meanWays ml_X10_269 im_X1_meanWays se_X1_meanWays sC_8 rfl ⟨(Nat.le_of_ble_eq_true rfl), (Nat.le_of_ble_eq_true rfl)⟩ rfl rfl (Nat.le_of_ble_eq_true rfl)) rfl rfl rfl (Nat.zero_le _) (Nat.zero_le _) fun r20 h21 =>
    aw_goto (pc := 125) C (tgt := 136) dX10_bestMark_125 rfl <|
    (aX10_bestMark_j136 C v2 v4 hs4 v5 v6 v7 v9 (X10_bestMark_l84 v2 v4 v5 n) ih r20 h21)))
def X10_bestMark (v1 : Int32) (v2 : Int32) (h : AH) : Option (Int32 × AH) :=
    bd (X10_nobody v1 h) fun r1 h2 =>
    bd (X10_outside v2 (-1) 999 h2) fun r3 h4 =>
    bd (X10_first r1 r3 h4) fun r5 h6 =>
    if r5 = 0 then (bd (X5_at 42 v1 h6) fun r7 h8 =>
    cs ZC r7 (.inr 2) (bd (X2_path r7 (h8.1 42 0) (h8.1 42 1) h8) fun r10 h11 =>
    vl (h11.1 r7 8) fun x12 =>
    vl (-1) fun x13 =>
    vl (mx32 0 ((h11.1 r7 8) - 40)) fun x14 =>
    X10_bestMark_l84 v2 r7 r10 FU x12 x13 x14 h11))
    else (bd (X10_refuse r5 h6) fun r22 h23 =>
    some (r22, h23))
set_option maxRecDepth 100000 in
theorem c_X10_bestMark (l : Launch) (v1 : Int32) (v2 : Int32) : MC l yX10_bestMark cX10_bestMark 12 (some .int) rmX10_bestMark ZC [.ref 0, .int v1, .int v2] rvI (X10_bestMark v1 v2) :=
  MC.of (own := RX10) (by decide +kernel) rfl (Nat.le_of_ble_eq_true rfl) fun X yd A h _ C =>
    aw_aload_n (pc := 0) C (i := 0) dX10_bestMark_0 rfl rfl <|
    aw_iload_n (pc := 1) C (i := 1) dX10_bestMark_1 rfl rfl <|
    aw_callF (pc := 2) C (cr_V (rest := []) (F := (X10_nobody v1)) C (c_X10_nobody X.2.1 v1) dX10_bestMark_2 mf_X10_nobody ml_X10_93 im_X10_nobody se_X10_nobody sC_0 rfl ⟨(Nat.le_of_ble_eq_true rfl), (Nat.le_of_ble_eq_true rfl)⟩ rfl rfl (Nat.le_of_ble_eq_true rfl)) rfl rfl rfl (Nat.zero_le _) (Nat.zero_le _) fun r1 h2 =>
    aw_iload_n (pc := 5) C (i := 2) dX10_bestMark_5 rfl rfl <|
    aw_iconst (pc := 6) C (v := (-1)) dX10_bestMark_6 rfl <|
    aw_sipush (pc := 7) C (v := 999) dX10_bestMark_7 rfl <|
    aw_callF (pc := 10) C (cr_S (rest := [.int r1]) (F := (X10_outside v2 (-1) 999)) C (c_X10_outside X.2.1 v2 (-1) 999) dX10_bestMark_10 mf_X10_outside ml_X10_104 st_X10_outside ⟨(Nat.le_of_ble_eq_true rfl), (Nat.le_of_ble_eq_true rfl)⟩ rfl rfl (Nat.le_of_ble_eq_true rfl)) rfl rfl rfl (Nat.zero_le _) (Nat.zero_le _) fun r3 h4 =>
    aw_callF (pc := 13) C (cr_S (rest := []) (F := (X10_first r1 r3)) C (c_X10_first X.2.1 r1 r3) dX10_bestMark_13 mf_X10_first ml_X10_97 st_X10_first ⟨(Nat.le_of_ble_eq_true rfl), (Nat.le_of_ble_eq_true rfl)⟩ rfl rfl (Nat.le_of_ble_eq_true rfl)) rfl rfl rfl (Nat.zero_le _) (Nat.zero_le _) fun r5 h6 =>
    aw_istore_n (pc := 16) C (i := 3) (lv' := [(0, .ref 0), (1, .int v1), (2, .int v2), (3, .int r5)]) dX10_bestMark_16 rfl (by decide) rfl <|
    aw_iload_n (pc := 17) C (i := 3) dX10_bestMark_17 rfl rfl <|
    aw_if_eq (pc := 18) C (tgt := 27) dX10_bestMark_18 rfl (fun _ =>
    aw_aload_n (pc := 27) C (i := 0) dX10_bestMark_27 rfl rfl <|
    aw_getR (pc := 28) C (b := 42) dX10_bestMark_28 fl_X10_72 sC_0 rfl rC_0_1 <|
    aw_iload_n (pc := 31) C (i := 1) dX10_bestMark_31 rfl rfl <|
    aw_callF (pc := 32) C (cr_V (rest := []) (F := (X5_at 42 v1)) C (c_X5_at X.2.1 42 (Or.inl rfl) v1) dX10_bestMark_32 mf_X5_at ml_X10_169 im_X5_at se_X5_at (mt_s (Or.inl rfl)) rfl ⟨(Nat.le_of_ble_eq_true rfl), (Nat.le_of_ble_eq_true rfl)⟩ rfl rfl (Nat.le_of_ble_eq_true rfl)) rfl rfl rfl (Nat.zero_le _) (Nat.zero_le _) fun r7 h8 =>
    aw_cs fun hs9 =>
    aw_astore (pc := 35) C (i := 4) (lv' := [(0, .ref 0), (1, .int v1), (2, .int v2), (3, .int r5), (4, .ref r7)]) dX10_bestMark_35 (by decide) rfl <|
    aw_aload (pc := 37) C (i := 4) dX10_bestMark_37 rfl <|
    aw_aload_n (pc := 39) C (i := 0) dX10_bestMark_39 rfl rfl <|
    aw_getR (pc := 40) C (b := 42) dX10_bestMark_40 fl_X10_72 sC_0 rfl rC_0_1 <|
    aw_getI (pc := 43) C dX10_bestMark_43 fl_X10_163 (mt_s (Or.inl rfl)) rfl <|
    aw_aload_n (pc := 46) C (i := 0) dX10_bestMark_46 rfl rfl <|
    aw_getR (pc := 47) C (b := 42) dX10_bestMark_47 fl_X10_72 sC_0 rfl rC_0_1 <|
    aw_getI (pc := 50) C dX10_bestMark_50 fl_X10_157 (mt_s (Or.inl rfl)) rfl <|
    aw_callF (pc := 53) C (cr_V (rest := []) (F := (X2_path r7 (h8.1 42 0) (h8.1 42 1))) C (c_X2_path X.2.1 r7 hs9 (h8.1 42 0) (h8.1 42 1)) dX10_bestMark_53 mf_X2_path ml_X10_232 im_X2_path se_X2_path hs9 rfl ⟨(Nat.le_of_ble_eq_true rfl), (Nat.le_of_ble_eq_true rfl)⟩ rfl rfl (Nat.le_of_ble_eq_true rfl)) rfl rfl rfl (Nat.zero_le _) (Nat.zero_le _) fun r10 h11 =>
    aw_istore (pc := 56) C (i := 5) (lv' := [(0, .ref 0), (1, .int v1), (2, .int v2), (3, .int r5), (4, .ref r7), (5, .int r10)]) dX10_bestMark_56 (by decide) rfl <|
    aw_aload (pc := 58) C (i := 4) dX10_bestMark_58 rfl <|
    aw_getI (pc := 60) C dX10_bestMark_60 fl_X10_198 hs9 rfl <|
    aw_istoreV (pc := 63) C (i := 6) (fun x12 => [(0, .ref 0), (1, .int v1), (2, .int v2), (3, .int r5), (4, .ref r7), (5, .int r10), (6, .int x12)]) dX10_bestMark_63 (by decide) (fun _ => rfl) fun x12 =>
    aw_ldc2_w (pc := 65) C (v := (-1)) dX10_bestMark_65 kc_X10_280 <|
    aw_lstoreV (pc := 68) C (i := 7) (fun x13 => [(0, .ref 0), (1, .int v1), (2, .int v2), (3, .int r5), (4, .ref r7), (5, .int r10), (6, .int x12), (7, .long x13)]) dX10_bestMark_68 (by decide) (fun _ => rfl) fun x13 =>
    aw_iconst (pc := 70) C (v := 0) dX10_bestMark_70 rfl <|
    aw_aload (pc := 71) C (i := 4) dX10_bestMark_71 rfl <|
    aw_getI (pc := 73) C dX10_bestMark_73 fl_X10_198 hs9 rfl <|
    aw_bipush (pc := 76) C (v := 40) dX10_bestMark_76 rfl <|
    aw_isub (pc := 78) C dX10_bestMark_78 <|
    aw_mmax (pc := 79) C dX10_bestMark_79 ml_X10_286 w_mmaxS w_mI w_mmaxC ⟨(Nat.le_of_ble_eq_true rfl), (Nat.le_of_ble_eq_true rfl)⟩ (Nat.zero_le _) (Nat.zero_le _) <|
    aw_istoreV (pc := 82) C (i := 9) (fun x14 => [(0, .ref 0), (1, .int v1), (2, .int v2), (3, .int r5), (4, .ref r7), (5, .int r10), (6, .int x12), (7, .long x13), (9, .int x14)]) dX10_bestMark_82 (by decide) (fun _ => rfl) fun x14 =>
    aw_drop [0, 2, 4, 5, 6, 7, 8] (aX10_bestMark_l84 C v2 r7 hs9 r10 FU x12 x13 x14 h11)) (fun _ =>
    aw_aload_n (pc := 21) C (i := 0) dX10_bestMark_21 rfl rfl <|
    aw_iload_n (pc := 22) C (i := 3) dX10_bestMark_22 rfl rfl <|
    aw_callF (pc := 23) C (cr_V (rest := []) (F := (X10_refuse r5)) C (c_X10_refuse X.2.1 r5) dX10_bestMark_23 mf_X10_refuse ml_X10_111 im_X10_refuse se_X10_refuse sC_0 rfl ⟨(Nat.le_of_ble_eq_true rfl), (Nat.le_of_ble_eq_true rfl)⟩ rfl rfl (Nat.le_of_ble_eq_true rfl)) rfl rfl rfl (Nat.zero_le _) (Nat.zero_le _) fun r22 h23 =>
    aw_iret (pc := 26) C dX10_bestMark_26 rfl rfl)

abbrev rmX10_back : Room := { frames := 4, cells := 0, slots := 0, locals := 93 }
def X10_back (v1 : Int32) (v2 : Int32) (h : AH) : Option (Int32 × AH) :=
    bd (X10_nobody v1 h) fun r1 h2 =>
    bd (X10_outside v2 (-9) 9 h2) fun r3 h4 =>
    bd (X10_first r1 r3 h4) fun r5 h6 =>
    if r5 = 0 then (bd (X5_at 42 v1 h6) fun r7 h8 =>
    cs ZC r7 (.inr 2) (bd (X2_path r7 (h8.1 42 0) v2 h8) fun r10 h11 =>
    bd (X2_path r7 (h11.1 42 0) (h11.1 42 1) h11) fun r12 h13 =>
    some ((r10 - r12), h13)))
    else (bd (X10_refuse r5 h6) fun r14 h15 =>
    some ((1000000000 - r14), h15))
set_option maxRecDepth 100000 in
theorem c_X10_back (l : Launch) (v1 : Int32) (v2 : Int32) : MC l yX10_back cX10_back 5 (some .int) rmX10_back ZC [.ref 0, .int v1, .int v2] rvI (X10_back v1 v2) :=
  MC.of (own := RX10) (by decide +kernel) rfl (Nat.le_of_ble_eq_true rfl) fun X yd A h _ C =>
    aw_aload_n (pc := 0) C (i := 0) dX10_back_0 rfl rfl <|
    aw_iload_n (pc := 1) C (i := 1) dX10_back_1 rfl rfl <|
    aw_callF (pc := 2) C (cr_V (rest := []) (F := (X10_nobody v1)) C (c_X10_nobody X.2.1 v1) dX10_back_2 mf_X10_nobody ml_X10_93 im_X10_nobody se_X10_nobody sC_0 rfl ⟨(Nat.le_of_ble_eq_true rfl), (Nat.le_of_ble_eq_true rfl)⟩ rfl rfl (Nat.le_of_ble_eq_true rfl)) rfl rfl rfl (Nat.zero_le _) (Nat.zero_le _) fun r1 h2 =>
    aw_iload_n (pc := 5) C (i := 2) dX10_back_5 rfl rfl <|
    aw_bipush (pc := 6) C (v := (-9)) dX10_back_6 rfl <|
    aw_bipush (pc := 8) C (v := 9) dX10_back_8 rfl <|
    aw_callF (pc := 10) C (cr_S (rest := [.int r1]) (F := (X10_outside v2 (-9) 9)) C (c_X10_outside X.2.1 v2 (-9) 9) dX10_back_10 mf_X10_outside ml_X10_104 st_X10_outside ⟨(Nat.le_of_ble_eq_true rfl), (Nat.le_of_ble_eq_true rfl)⟩ rfl rfl (Nat.le_of_ble_eq_true rfl)) rfl rfl rfl (Nat.zero_le _) (Nat.zero_le _) fun r3 h4 =>
    aw_callF (pc := 13) C (cr_S (rest := []) (F := (X10_first r1 r3)) C (c_X10_first X.2.1 r1 r3) dX10_back_13 mf_X10_first ml_X10_97 st_X10_first ⟨(Nat.le_of_ble_eq_true rfl), (Nat.le_of_ble_eq_true rfl)⟩ rfl rfl (Nat.le_of_ble_eq_true rfl)) rfl rfl rfl (Nat.zero_le _) (Nat.zero_le _) fun r5 h6 =>
    aw_istore_n (pc := 16) C (i := 3) (lv' := [(0, .ref 0), (1, .int v1), (2, .int v2), (3, .int r5)]) dX10_back_16 rfl (by decide) rfl <|
    aw_iload_n (pc := 17) C (i := 3) dX10_back_17 rfl rfl <|
    aw_if_eq (pc := 18) C (tgt := 30) dX10_back_18 rfl (fun _ =>
    aw_aload_n (pc := 30) C (i := 0) dX10_back_30 rfl rfl <|
    aw_getR (pc := 31) C (b := 42) dX10_back_31 fl_X10_72 sC_0 rfl rC_0_1 <|
    aw_iload_n (pc := 34) C (i := 1) dX10_back_34 rfl rfl <|
    aw_callF (pc := 35) C (cr_V (rest := []) (F := (X5_at 42 v1)) C (c_X5_at X.2.1 42 (Or.inl rfl) v1) dX10_back_35 mf_X5_at ml_X10_169 im_X5_at se_X5_at (mt_s (Or.inl rfl)) rfl ⟨(Nat.le_of_ble_eq_true rfl), (Nat.le_of_ble_eq_true rfl)⟩ rfl rfl (Nat.le_of_ble_eq_true rfl)) rfl rfl rfl (Nat.zero_le _) (Nat.zero_le _) fun r7 h8 =>
    aw_cs fun hs9 =>
    aw_astore (pc := 38) C (i := 4) (lv' := [(0, .ref 0), (1, .int v1), (2, .int v2), (3, .int r5), (4, .ref r7)]) dX10_back_38 (by decide) rfl <|
    aw_aload (pc := 40) C (i := 4) dX10_back_40 rfl <|
    aw_aload_n (pc := 42) C (i := 0) dX10_back_42 rfl rfl <|
    aw_getR (pc := 43) C (b := 42) dX10_back_43 fl_X10_72 sC_0 rfl rC_0_1 <|
    aw_getI (pc := 46) C dX10_back_46 fl_X10_163 (mt_s (Or.inl rfl)) rfl <|
    aw_iload_n (pc := 49) C (i := 2) dX10_back_49 rfl rfl <|
    aw_callF (pc := 50) C (cr_V (rest := []) (F := (X2_path r7 (h8.1 42 0) v2)) C (c_X2_path X.2.1 r7 hs9 (h8.1 42 0) v2) dX10_back_50 mf_X2_path ml_X10_232 im_X2_path se_X2_path hs9 rfl ⟨(Nat.le_of_ble_eq_true rfl), (Nat.le_of_ble_eq_true rfl)⟩ rfl rfl (Nat.le_of_ble_eq_true rfl)) rfl rfl rfl (Nat.zero_le _) (Nat.zero_le _) fun r10 h11 =>
    aw_aload (pc := 53) C (i := 4) dX10_back_53 rfl <|
    aw_aload_n (pc := 55) C (i := 0) dX10_back_55 rfl rfl <|
    aw_getR (pc := 56) C (b := 42) dX10_back_56 fl_X10_72 sC_0 rfl rC_0_1 <|
    aw_getI (pc := 59) C dX10_back_59 fl_X10_163 (mt_s (Or.inl rfl)) rfl <|
    aw_aload_n (pc := 62) C (i := 0) dX10_back_62 rfl rfl <|
    aw_getR (pc := 63) C (b := 42) dX10_back_63 fl_X10_72 sC_0 rfl rC_0_1 <|
    aw_getI (pc := 66) C dX10_back_66 fl_X10_157 (mt_s (Or.inl rfl)) rfl <|
    aw_callF (pc := 69) C (cr_V (rest := [.int r10]) (F := (X2_path r7 (h11.1 42 0) (h11.1 42 1))) C (c_X2_path X.2.1 r7 hs9 (h11.1 42 0) (h11.1 42 1)) dX10_back_69 mf_X2_path ml_X10_232 im_X2_path se_X2_path hs9 rfl ⟨(Nat.le_of_ble_eq_true rfl), (Nat.le_of_ble_eq_true rfl)⟩ rfl rfl (Nat.le_of_ble_eq_true rfl)) rfl rfl rfl (Nat.zero_le _) (Nat.zero_le _) fun r12 h13 =>
    aw_isub (pc := 72) C dX10_back_72 <|
    aw_iret (pc := 73) C dX10_back_73 rfl rfl) (fun _ =>
    aw_ldc (pc := 21) C (v := 1000000000) dX10_back_21 kc_X10_224 <|
    aw_aload_n (pc := 23) C (i := 0) dX10_back_23 rfl rfl <|
    aw_iload_n (pc := 24) C (i := 3) dX10_back_24 rfl rfl <|
    aw_callF (pc := 25) C (cr_V (rest := [.int 1000000000]) (F := (X10_refuse r5)) C (c_X10_refuse X.2.1 r5) dX10_back_25 mf_X10_refuse ml_X10_111 im_X10_refuse se_X10_refuse sC_0 rfl ⟨(Nat.le_of_ble_eq_true rfl), (Nat.le_of_ble_eq_true rfl)⟩ rfl rfl (Nat.le_of_ble_eq_true rfl)) rfl rfl rfl (Nat.zero_le _) (Nat.zero_le _) fun r14 h15 =>
    aw_isub (pc := 28) C dX10_back_28 <|
    aw_iret (pc := 29) C dX10_back_29 rfl rfl)

abbrev rmX10_turn : Room := { frames := 4, cells := 0, slots := 0, locals := 116 }
def X10_turn  (h : AH) : Option (Int32 × AH) :=
    bd (X5_inTurn 42 h) fun r1 h2 =>
    some (r1, h2)
set_option maxRecDepth 100000 in
theorem c_X10_turn (l : Launch)  : MC l yX10_turn cX10_turn 1 (some .int) rmX10_turn ZC [.ref 0] rvI (X10_turn) :=
  MC.of (own := RX10) (by decide +kernel) rfl (Nat.le_of_ble_eq_true rfl) fun X yd A h _ C =>
    aw_aload_n (pc := 0) C (i := 0) dX10_turn_0 rfl rfl <|
    aw_getR (pc := 1) C (b := 42) dX10_turn_1 fl_X10_72 sC_0 rfl rC_0_1 <|
    aw_aload_n (pc := 4) C (i := 0) dX10_turn_4 rfl rfl <|
    aw_getR (pc := 5) C (b := 5) dX10_turn_5 fl_X10_28 sC_0 rfl rC_0_10 <|
    aw_callF (pc := 8) C (cr_V (rest := []) (F := (X5_inTurn 42)) C (c_X5_inTurn X.2.1 42 (Or.inl rfl)) dX10_turn_8 mf_X5_inTurn ml_X10_201 im_X5_inTurn se_X5_inTurn (mt_s (Or.inl rfl)) rfl ⟨(Nat.le_of_ble_eq_true rfl), (Nat.le_of_ble_eq_true rfl)⟩ rfl rfl (Nat.le_of_ble_eq_true rfl)) rfl rfl rfl (Nat.zero_le _) (Nat.zero_le _) fun r1 h2 =>
    aw_iret (pc := 11) C dX10_turn_11 rfl rfl

abbrev rmX10_notInTurn : Room := { frames := 4, cells := 0, slots := 0, locals := 116 }
def X10_notInTurn (v1 : Int32) (h : AH) : Option (Int32 × AH) :=
    bd (X5_inTurn 42 h) fun r1 h2 =>
    if r1 = v1 then (some (0, h2))
    else (some ((-3), h2))
set_option maxRecDepth 100000 in
theorem c_X10_notInTurn (l : Launch) (v1 : Int32) : MC l yX10_notInTurn cX10_notInTurn 2 (some .int) rmX10_notInTurn ZC [.ref 0, .int v1] rvI (X10_notInTurn v1) :=
  MC.of (own := RX10) (by decide +kernel) rfl (Nat.le_of_ble_eq_true rfl) fun X yd A h _ C =>
    aw_aload_n (pc := 0) C (i := 0) dX10_notInTurn_0 rfl rfl <|
    aw_getR (pc := 1) C (b := 42) dX10_notInTurn_1 fl_X10_72 sC_0 rfl rC_0_1 <|
    aw_aload_n (pc := 4) C (i := 0) dX10_notInTurn_4 rfl rfl <|
    aw_getR (pc := 5) C (b := 5) dX10_notInTurn_5 fl_X10_28 sC_0 rfl rC_0_10 <|
    aw_callF (pc := 8) C (cr_V (rest := []) (F := (X5_inTurn 42)) C (c_X5_inTurn X.2.1 42 (Or.inl rfl)) dX10_notInTurn_8 mf_X5_inTurn ml_X10_201 im_X5_inTurn se_X5_inTurn (mt_s (Or.inl rfl)) rfl ⟨(Nat.le_of_ble_eq_true rfl), (Nat.le_of_ble_eq_true rfl)⟩ rfl rfl (Nat.le_of_ble_eq_true rfl)) rfl rfl rfl (Nat.zero_le _) (Nat.zero_le _) fun r1 h2 =>
    aw_iload_n (pc := 11) C (i := 1) dX10_notInTurn_11 rfl rfl <|
    aw_icmp_eq (pc := 12) C (tgt := 20) dX10_notInTurn_12 rfl (fun _ =>
    aw_iconst (pc := 20) C (v := 0) dX10_notInTurn_20 rfl <|
    aw_iret (pc := 21) C dX10_notInTurn_21 rfl rfl) (fun _ =>
    aw_bipush (pc := 15) C (v := (-3)) dX10_notInTurn_15 rfl <|
    aw_goto (pc := 17) C (tgt := 21) dX10_notInTurn_17 rfl <|
    aw_iret (pc := 21) C dX10_notInTurn_21 rfl rfl)

abbrev rmX10_jump : Room := { frames := 5, cells := 0, slots := 0, locals := 137 }
def X10_jump (v1 : Int32) (v2 : Int32) (h : AH) : Option (Int32 × AH) :=
    bd (X10_nobody v1 h) fun r1 h2 =>
    bd (X10_notInTurn v1 h2) fun r3 h4 =>
    bd (X10_outside v2 0 300 h4) fun r5 h6 =>
    bd (X10_first r3 r5 h6) fun r7 h8 =>
    bd (X10_first r1 r7 h8) fun r9 h10 =>
    if r9 = 0 then (bd (X5_record 42 v1 v2 0 h10) fun r11 h12 =>
    some (r11, h12))
    else (bd (X10_refuse r9 h10) fun r13 h14 =>
    some (r13, h14))
set_option maxRecDepth 100000 in
theorem c_X10_jump (l : Launch) (v1 : Int32) (v2 : Int32) : MC l yX10_jump cX10_jump 4 (some .int) rmX10_jump ZC [.ref 0, .int v1, .int v2] rvI (X10_jump v1 v2) :=
  MC.of (own := RX10) (by decide +kernel) rfl (Nat.le_of_ble_eq_true rfl) fun X yd A h _ C =>
    aw_aload_n (pc := 0) C (i := 0) dX10_jump_0 rfl rfl <|
    aw_iload_n (pc := 1) C (i := 1) dX10_jump_1 rfl rfl <|
    aw_callF (pc := 2) C (cr_V (rest := []) (F := (X10_nobody v1)) C (c_X10_nobody X.2.1 v1) dX10_jump_2 mf_X10_nobody ml_X10_93 im_X10_nobody se_X10_nobody sC_0 rfl ⟨(Nat.le_of_ble_eq_true rfl), (Nat.le_of_ble_eq_true rfl)⟩ rfl rfl (Nat.le_of_ble_eq_true rfl)) rfl rfl rfl (Nat.zero_le _) (Nat.zero_le _) fun r1 h2 =>
    aw_aload_n (pc := 5) C (i := 0) dX10_jump_5 rfl rfl <|
    aw_iload_n (pc := 6) C (i := 1) dX10_jump_6 rfl rfl <|
    aw_callF (pc := 7) C (cr_V (rest := [.int r1]) (F := (X10_notInTurn v1)) C (c_X10_notInTurn X.2.1 v1) dX10_jump_7 mf_X10_notInTurn ml_X10_294 im_X10_notInTurn se_X10_notInTurn sC_0 rfl ⟨(Nat.le_of_ble_eq_true rfl), (Nat.le_of_ble_eq_true rfl)⟩ rfl rfl (Nat.le_of_ble_eq_true rfl)) rfl rfl rfl (Nat.zero_le _) (Nat.zero_le _) fun r3 h4 =>
    aw_iload_n (pc := 10) C (i := 2) dX10_jump_10 rfl rfl <|
    aw_iconst (pc := 11) C (v := 0) dX10_jump_11 rfl <|
    aw_sipush (pc := 12) C (v := 300) dX10_jump_12 rfl <|
    aw_callF (pc := 15) C (cr_S (rest := [.int r3, .int r1]) (F := (X10_outside v2 0 300)) C (c_X10_outside X.2.1 v2 0 300) dX10_jump_15 mf_X10_outside ml_X10_104 st_X10_outside ⟨(Nat.le_of_ble_eq_true rfl), (Nat.le_of_ble_eq_true rfl)⟩ rfl rfl (Nat.le_of_ble_eq_true rfl)) rfl rfl rfl (Nat.zero_le _) (Nat.zero_le _) fun r5 h6 =>
    aw_callF (pc := 18) C (cr_S (rest := [.int r1]) (F := (X10_first r3 r5)) C (c_X10_first X.2.1 r3 r5) dX10_jump_18 mf_X10_first ml_X10_97 st_X10_first ⟨(Nat.le_of_ble_eq_true rfl), (Nat.le_of_ble_eq_true rfl)⟩ rfl rfl (Nat.le_of_ble_eq_true rfl)) rfl rfl rfl (Nat.zero_le _) (Nat.zero_le _) fun r7 h8 =>
    aw_callF (pc := 21) C (cr_S (rest := []) (F := (X10_first r1 r7)) C (c_X10_first X.2.1 r1 r7) dX10_jump_21 mf_X10_first ml_X10_97 st_X10_first ⟨(Nat.le_of_ble_eq_true rfl), (Nat.le_of_ble_eq_true rfl)⟩ rfl rfl (Nat.le_of_ble_eq_true rfl)) rfl rfl rfl (Nat.zero_le _) (Nat.zero_le _) fun r9 h10 =>
    aw_istore_n (pc := 24) C (i := 3) (lv' := [(0, .ref 0), (1, .int v1), (2, .int v2), (3, .int r9)]) dX10_jump_24 rfl (by decide) rfl <|
    aw_iload_n (pc := 25) C (i := 3) dX10_jump_25 rfl rfl <|
    aw_if_eq (pc := 26) C (tgt := 37) dX10_jump_26 rfl (fun _ =>
    aw_aload_n (pc := 37) C (i := 0) dX10_jump_37 rfl rfl <|
    aw_getR (pc := 38) C (b := 42) dX10_jump_38 fl_X10_72 sC_0 rfl rC_0_1 <|
    aw_iload_n (pc := 41) C (i := 1) dX10_jump_41 rfl rfl <|
    aw_iload_n (pc := 42) C (i := 2) dX10_jump_42 rfl rfl <|
    aw_iconst (pc := 43) C (v := 0) dX10_jump_43 rfl <|
    aw_callF (pc := 44) C (cr_V (rest := []) (F := (X5_record 42 v1 v2 0)) C (c_X5_record X.2.1 42 (Or.inl rfl) v1 v2 0) dX10_jump_44 mf_X5_record ml_X10_205 im_X5_record se_X5_record (mt_s (Or.inl rfl)) rfl ⟨(Nat.le_of_ble_eq_true rfl), (Nat.le_of_ble_eq_true rfl)⟩ rfl rfl (Nat.le_of_ble_eq_true rfl)) rfl rfl rfl (Nat.zero_le _) (Nat.zero_le _) fun r11 h12 =>
    aw_iret (pc := 47) C dX10_jump_47 rfl rfl) (fun _ =>
    aw_aload_n (pc := 29) C (i := 0) dX10_jump_29 rfl rfl <|
    aw_iload_n (pc := 30) C (i := 3) dX10_jump_30 rfl rfl <|
    aw_callF (pc := 31) C (cr_V (rest := []) (F := (X10_refuse r9)) C (c_X10_refuse X.2.1 r9) dX10_jump_31 mf_X10_refuse ml_X10_111 im_X10_refuse se_X10_refuse sC_0 rfl ⟨(Nat.le_of_ble_eq_true rfl), (Nat.le_of_ble_eq_true rfl)⟩ rfl rfl (Nat.le_of_ble_eq_true rfl)) rfl rfl rfl (Nat.zero_le _) (Nat.zero_le _) fun r13 h14 =>
    aw_goto (pc := 34) C (tgt := 47) dX10_jump_34 rfl <|
    aw_iret (pc := 47) C dX10_jump_47 rfl rfl)

abbrev rmX10_none : Room := { frames := 5, cells := 0, slots := 0, locals := 137 }
def X10_none_j48  (v1 : Int32) (s0 : Int32) (s1 : Int32) (h : AH) : Option (Int32 × AH) :=
    bd (X5_record 42 s1 s0 0 h) fun r11 h12 =>
    bd (X5_triesOf 42 v1 h12) fun r13 h14 =>
    some (r13, h14)
set_option maxRecDepth 100000 in
theorem aX10_none_j48 {X : MCx} {yd : Dyn} {A : Nat → Prop} (C : OK X cX10_none RX10 4 (some .int) rmX10_none A)  (v1 : Int32) (s0 : Int32) (s1 : Int32) (h : AH) : AW X 4 ZC yd A 0 0 (QF X rmX10_none ZC yd rvI A) 48 [(0, .ref 0), (1, .int v1)] [.int s0, .int s1, .ref 42] h (X10_none_j48 v1 s0 s1 h) := by
    exact aw_iconst (pc := 48) C (v := 0) dX10_none_48 rfl <|
    aw_callF (pc := 49) C (cr_V (rest := []) (F := (X5_record 42 s1 s0 0)) C (c_X5_record X.2.1 42 (Or.inl rfl) s1 s0 0) dX10_none_49 mf_X5_record ml_X10_205 im_X5_record se_X5_record (mt_s (Or.inl rfl)) rfl ⟨(Nat.le_of_ble_eq_true rfl), (Nat.le_of_ble_eq_true rfl)⟩ rfl rfl (Nat.le_of_ble_eq_true rfl)) rfl rfl rfl (Nat.zero_le _) (Nat.zero_le _) fun r11 h12 =>
    aw_pop (pc := 52) C dX10_none_52 rfl <|
    aw_aload_n (pc := 53) C (i := 0) dX10_none_53 rfl rfl <|
    aw_getR (pc := 54) C (b := 42) dX10_none_54 fl_X10_72 sC_0 rfl rC_0_1 <|
    aw_iload_n (pc := 57) C (i := 1) dX10_none_57 rfl rfl <|
    aw_callF (pc := 58) C (cr_V (rest := []) (F := (X5_triesOf 42 v1)) C (c_X5_triesOf X.2.1 42 (Or.inl rfl) v1) dX10_none_58 mf_X5_triesOf ml_X10_211 im_X5_triesOf se_X5_triesOf (mt_s (Or.inl rfl)) rfl ⟨(Nat.le_of_ble_eq_true rfl), (Nat.le_of_ble_eq_true rfl)⟩ rfl rfl (Nat.le_of_ble_eq_true rfl)) rfl rfl rfl (Nat.zero_le _) (Nat.zero_le _) fun r13 h14 =>
    aw_iret (pc := 61) C dX10_none_61 rfl rfl
def X10_none (v1 : Int32) (v2 : Int32) (h : AH) : Option (Int32 × AH) :=
    bd (X10_nobody v1 h) fun r1 h2 =>
    bd (X10_noSuch v2 1 h2) fun r3 h4 =>
    bd (X10_notInTurn v1 h4) fun r5 h6 =>
    bd (X10_first r3 r5 h6) fun r7 h8 =>
    bd (X10_first r1 r7 h8) fun r9 h10 =>
    if r9 = 0 then (if v2 = 0 then (X10_none_j48 v1 (-9) v1 h10)
    else (X10_none_j48 v1 (-8) v1 h10))
    else (bd (X10_refuse r9 h10) fun r15 h16 =>
    some (r15, h16))
set_option maxRecDepth 100000 in
theorem c_X10_none (l : Launch) (v1 : Int32) (v2 : Int32) : MC l yX10_none cX10_none 4 (some .int) rmX10_none ZC [.ref 0, .int v1, .int v2] rvI (X10_none v1 v2) :=
  MC.of (own := RX10) (by decide +kernel) rfl (Nat.le_of_ble_eq_true rfl) fun X yd A h _ C =>
    aw_aload_n (pc := 0) C (i := 0) dX10_none_0 rfl rfl <|
    aw_iload_n (pc := 1) C (i := 1) dX10_none_1 rfl rfl <|
    aw_callF (pc := 2) C (cr_V (rest := []) (F := (X10_nobody v1)) C (c_X10_nobody X.2.1 v1) dX10_none_2 mf_X10_nobody ml_X10_93 im_X10_nobody se_X10_nobody sC_0 rfl ⟨(Nat.le_of_ble_eq_true rfl), (Nat.le_of_ble_eq_true rfl)⟩ rfl rfl (Nat.le_of_ble_eq_true rfl)) rfl rfl rfl (Nat.zero_le _) (Nat.zero_le _) fun r1 h2 =>
    aw_iload_n (pc := 5) C (i := 2) dX10_none_5 rfl rfl <|
    aw_iconst (pc := 6) C (v := 1) dX10_none_6 rfl <|
    aw_callF (pc := 7) C (cr_S (rest := [.int r1]) (F := (X10_noSuch v2 1)) C (c_X10_noSuch X.2.1 v2 1) dX10_none_7 mf_X10_noSuch ml_X10_101 st_X10_noSuch ⟨(Nat.le_of_ble_eq_true rfl), (Nat.le_of_ble_eq_true rfl)⟩ rfl rfl (Nat.le_of_ble_eq_true rfl)) rfl rfl rfl (Nat.zero_le _) (Nat.zero_le _) fun r3 h4 =>
    aw_aload_n (pc := 10) C (i := 0) dX10_none_10 rfl rfl <|
    aw_iload_n (pc := 11) C (i := 1) dX10_none_11 rfl rfl <|
    aw_callF (pc := 12) C (cr_V (rest := [.int r3, .int r1]) (F := (X10_notInTurn v1)) C (c_X10_notInTurn X.2.1 v1) dX10_none_12 mf_X10_notInTurn ml_X10_294 im_X10_notInTurn se_X10_notInTurn sC_0 rfl ⟨(Nat.le_of_ble_eq_true rfl), (Nat.le_of_ble_eq_true rfl)⟩ rfl rfl (Nat.le_of_ble_eq_true rfl)) rfl rfl rfl (Nat.zero_le _) (Nat.zero_le _) fun r5 h6 =>
    aw_callF (pc := 15) C (cr_S (rest := [.int r1]) (F := (X10_first r3 r5)) C (c_X10_first X.2.1 r3 r5) dX10_none_15 mf_X10_first ml_X10_97 st_X10_first ⟨(Nat.le_of_ble_eq_true rfl), (Nat.le_of_ble_eq_true rfl)⟩ rfl rfl (Nat.le_of_ble_eq_true rfl)) rfl rfl rfl (Nat.zero_le _) (Nat.zero_le _) fun r7 h8 =>
    aw_callF (pc := 18) C (cr_S (rest := []) (F := (X10_first r1 r7)) C (c_X10_first X.2.1 r1 r7) dX10_none_18 mf_X10_first ml_X10_97 st_X10_first ⟨(Nat.le_of_ble_eq_true rfl), (Nat.le_of_ble_eq_true rfl)⟩ rfl rfl (Nat.le_of_ble_eq_true rfl)) rfl rfl rfl (Nat.zero_le _) (Nat.zero_le _) fun r9 h10 =>
    aw_istore_n (pc := 21) C (i := 3) (lv' := [(0, .ref 0), (1, .int v1), (2, .int v2), (3, .int r9)]) dX10_none_21 rfl (by decide) rfl <|
    aw_iload_n (pc := 22) C (i := 3) dX10_none_22 rfl rfl <|
    aw_if_eq (pc := 23) C (tgt := 32) dX10_none_23 rfl (fun _ =>
    aw_aload_n (pc := 32) C (i := 0) dX10_none_32 rfl rfl <|
    aw_getR (pc := 33) C (b := 42) dX10_none_33 fl_X10_72 sC_0 rfl rC_0_1 <|
    aw_iload_n (pc := 36) C (i := 1) dX10_none_36 rfl rfl <|
    aw_iload_n (pc := 37) C (i := 2) dX10_none_37 rfl rfl <|
    aw_if_ne (pc := 38) C (tgt := 46) dX10_none_38 rfl (fun _ =>
    aw_bipush (pc := 41) C (v := (-9)) dX10_none_41 rfl <|
    aw_goto (pc := 43) C (tgt := 48) dX10_none_43 rfl <|
    aw_drop [0, 1] (aX10_none_j48 C v1 (-9) v1 h10)) (fun _ =>
    aw_bipush (pc := 46) C (v := (-8)) dX10_none_46 rfl <|
    aw_drop [0, 1] (aX10_none_j48 C v1 (-8) v1 h10))) (fun _ =>
    aw_aload_n (pc := 26) C (i := 0) dX10_none_26 rfl rfl <|
    aw_iload_n (pc := 27) C (i := 3) dX10_none_27 rfl rfl <|
    aw_callF (pc := 28) C (cr_V (rest := []) (F := (X10_refuse r9)) C (c_X10_refuse X.2.1 r9) dX10_none_28 mf_X10_refuse ml_X10_111 im_X10_refuse se_X10_refuse sC_0 rfl ⟨(Nat.le_of_ble_eq_true rfl), (Nat.le_of_ble_eq_true rfl)⟩ rfl rfl (Nat.le_of_ble_eq_true rfl)) rfl rfl rfl (Nat.zero_le _) (Nat.zero_le _) fun r15 h16 =>
    aw_iret (pc := 31) C dX10_none_31 rfl rfl)

abbrev rmX10_undo : Room := { frames := 1, cells := 0, slots := 0, locals := 21 }
def X10_undo  (h : AH) : Option (Int32 × AH) :=
    if 0 < (h.1 42 4) then (vl (sI h 42 4 ((h.1 42 4) - 1)) fun h1 =>
    ck (h1.1 42 4) 24 (some ((h1.1 44 (h1.1 42 4).toNatClampNeg), h1)))
    else (bd (X10_refuse (-3) h) fun r2 h3 =>
    some (r2, h3))
set_option maxRecDepth 100000 in
theorem c_X10_undo (l : Launch)  : MC l yX10_undo cX10_undo 1 (some .int) rmX10_undo ZC [.ref 0] rvI (X10_undo) :=
  MC.of (own := RX10) (by decide +kernel) rfl (Nat.le_of_ble_eq_true rfl) fun X yd A h _ C =>
    aw_aload_n (pc := 0) C (i := 0) dX10_undo_0 rfl rfl <|
    aw_getR (pc := 1) C (b := 42) dX10_undo_1 fl_X10_72 sC_0 rfl rC_0_1 <|
    aw_getI (pc := 4) C dX10_undo_4 fl_X10_160 (mt_s (Or.inl rfl)) rfl <|
    aw_if_gt (pc := 7) C (tgt := 17) dX10_undo_7 rfl (fun _ =>
    aw_aload_n (pc := 17) C (i := 0) dX10_undo_17 rfl rfl <|
    aw_getR (pc := 18) C (b := 42) dX10_undo_18 fl_X10_72 sC_0 rfl rC_0_1 <|
    aw_dup (pc := 21) C dX10_undo_21 rfl <|
    aw_getI (pc := 22) C dX10_undo_22 fl_X10_160 (mt_s (Or.inl rfl)) rfl <|
    aw_iconst (pc := 25) C (v := 1) dX10_undo_25 rfl <|
    aw_isub (pc := 26) C dX10_undo_26 <|
    aw_putI (pc := 27) C dX10_undo_27 fp_X10_160 (mt_s (Or.inl rfl)) rfl fun h1 =>
    aw_aload_n (pc := 30) C (i := 0) dX10_undo_30 rfl rfl <|
    aw_getR (pc := 31) C (b := 42) dX10_undo_31 fl_X10_72 sC_0 rfl rC_0_1 <|
    aw_getR (pc := 34) C (b := 44) dX10_undo_34 fl_X10_297 (mt_s (Or.inl rfl)) rfl rC_42_6 <|
    aw_aload_n (pc := 37) C (i := 0) dX10_undo_37 rfl rfl <|
    aw_getR (pc := 38) C (b := 42) dX10_undo_38 fl_X10_72 sC_0 rfl rC_0_1 <|
    aw_getI (pc := 41) C dX10_undo_41 fl_X10_160 (mt_s (Or.inl rfl)) rfl <|
    aw_iald (pc := 44) C dX10_undo_44 sC_44 rfl <|
    aw_iret (pc := 45) C dX10_undo_45 rfl rfl) (fun _ =>
    aw_aload_n (pc := 10) C (i := 0) dX10_undo_10 rfl rfl <|
    aw_bipush (pc := 11) C (v := (-3)) dX10_undo_11 rfl <|
    aw_callF (pc := 13) C (cr_V (rest := []) (F := (X10_refuse (-3))) C (c_X10_refuse X.2.1 (-3)) dX10_undo_13 mf_X10_refuse ml_X10_111 im_X10_refuse se_X10_refuse sC_0 rfl ⟨(Nat.le_of_ble_eq_true rfl), (Nat.le_of_ble_eq_true rfl)⟩ rfl rfl (Nat.le_of_ble_eq_true rfl)) rfl rfl rfl (Nat.zero_le _) (Nat.zero_le _) fun r2 h3 =>
    aw_iret (pc := 16) C dX10_undo_16 rfl rfl)

abbrev rmX10_tried : Room := { frames := 1, cells := 0, slots := 0, locals := 24 }
def X10_tried_j21  (s0 : Int32) (h : AH) : Option (Int32 × AH) :=
    if 0 ≤ s0 then (ck s0 24 (some ((h.1 46 s0.toNatClampNeg), h)))
    else (bd (X10_refuse (-1) h) fun r5 h6 =>
    some (r5, h6))
set_option maxRecDepth 100000 in
theorem aX10_tried_j21 {X : MCx} {yd : Dyn} {A : Nat → Prop} (C : OK X cX10_tried RX10 4 (some .int) rmX10_tried A)  (s0 : Int32) (h : AH) : AW X 4 ZC yd A 0 0 (QF X rmX10_tried ZC yd rvI A) 21 [(0, .ref 0)] [.int s0] h (X10_tried_j21 s0 h) := by
    exact aw_istore_n (pc := 21) C (i := 3) (lv' := [(0, .ref 0), (3, .int s0)]) dX10_tried_21 rfl (by decide) rfl <|
    aw_iload_n (pc := 22) C (i := 3) dX10_tried_22 rfl rfl <|
    aw_if_ge (pc := 23) C (tgt := 34) dX10_tried_23 rfl (fun _ =>
    aw_aload_n (pc := 34) C (i := 0) dX10_tried_34 rfl rfl <|
    aw_getR (pc := 35) C (b := 42) dX10_tried_35 fl_X10_72 sC_0 rfl rC_0_1 <|
    aw_getR (pc := 38) C (b := 46) dX10_tried_38 fl_X10_303 (mt_s (Or.inl rfl)) rfl rC_42_8 <|
    aw_iload_n (pc := 41) C (i := 3) dX10_tried_41 rfl rfl <|
    aw_iald (pc := 42) C dX10_tried_42 sC_46 rfl <|
    aw_iret (pc := 43) C dX10_tried_43 rfl rfl) (fun _ =>
    aw_aload_n (pc := 26) C (i := 0) dX10_tried_26 rfl rfl <|
    aw_iconst (pc := 27) C (v := (-1)) dX10_tried_27 rfl <|
    aw_callF (pc := 28) C (cr_V (rest := []) (F := (X10_refuse (-1))) C (c_X10_refuse X.2.1 (-1)) dX10_tried_28 mf_X10_refuse ml_X10_111 im_X10_refuse se_X10_refuse sC_0 rfl ⟨(Nat.le_of_ble_eq_true rfl), (Nat.le_of_ble_eq_true rfl)⟩ rfl rfl (Nat.le_of_ble_eq_true rfl)) rfl rfl rfl (Nat.zero_le _) (Nat.zero_le _) fun r5 h6 =>
    aw_goto (pc := 31) C (tgt := 43) dX10_tried_31 rfl <|
    aw_iret (pc := 43) C dX10_tried_43 rfl rfl)
def X10_tried (v1 : Int32) (v2 : Int32) (h : AH) : Option (Int32 × AH) :=
    bd (X10_nobody v1 h) fun r1 h2 =>
    if r1 = 0 then (bd (X5_find 42 v1 v2 h2) fun r3 h4 =>
    X10_tried_j21 r3 h4)
    else (X10_tried_j21 (-1) h2)
set_option maxRecDepth 100000 in
theorem c_X10_tried (l : Launch) (v1 : Int32) (v2 : Int32) : MC l yX10_tried cX10_tried 4 (some .int) rmX10_tried ZC [.ref 0, .int v1, .int v2] rvI (X10_tried v1 v2) :=
  MC.of (own := RX10) (by decide +kernel) rfl (Nat.le_of_ble_eq_true rfl) fun X yd A h _ C =>
    aw_aload_n (pc := 0) C (i := 0) dX10_tried_0 rfl rfl <|
    aw_iload_n (pc := 1) C (i := 1) dX10_tried_1 rfl rfl <|
    aw_callF (pc := 2) C (cr_V (rest := []) (F := (X10_nobody v1)) C (c_X10_nobody X.2.1 v1) dX10_tried_2 mf_X10_nobody ml_X10_93 im_X10_nobody se_X10_nobody sC_0 rfl ⟨(Nat.le_of_ble_eq_true rfl), (Nat.le_of_ble_eq_true rfl)⟩ rfl rfl (Nat.le_of_ble_eq_true rfl)) rfl rfl rfl (Nat.zero_le _) (Nat.zero_le _) fun r1 h2 =>
    aw_if_eq (pc := 5) C (tgt := 12) dX10_tried_5 rfl (fun _ =>
    aw_aload_n (pc := 12) C (i := 0) dX10_tried_12 rfl rfl <|
    aw_getR (pc := 13) C (b := 42) dX10_tried_13 fl_X10_72 sC_0 rfl rC_0_1 <|
    aw_iload_n (pc := 16) C (i := 1) dX10_tried_16 rfl rfl <|
    aw_iload_n (pc := 17) C (i := 2) dX10_tried_17 rfl rfl <|
    aw_callF (pc := 18) C (cr_V (rest := []) (F := (X5_find 42 v1 v2)) C (c_X5_find X.2.1 42 (Or.inl rfl) v1 v2) dX10_tried_18 mf_X5_find ml_X10_300 im_X5_find se_X5_find (mt_s (Or.inl rfl)) rfl ⟨(Nat.le_of_ble_eq_true rfl), (Nat.le_of_ble_eq_true rfl)⟩ rfl rfl (Nat.le_of_ble_eq_true rfl)) rfl rfl rfl (Nat.zero_le _) (Nat.zero_le _) fun r3 h4 =>
    aw_drop [0] (aX10_tried_j21 C r3 h4)) (fun _ =>
    aw_iconst (pc := 8) C (v := (-1)) dX10_tried_8 rfl <|
    aw_goto (pc := 9) C (tgt := 21) dX10_tried_9 rfl <|
    aw_drop [0] (aX10_tried_j21 C (-1) h2))

abbrev rmX10_leastFor : Room := { frames := 2, cells := 0, slots := 0, locals := 72 }
def X10_leastFor_l2  (v1 : Int32) (v2 : Int32) : Nat → Int32 → AH → Option (Int32 × AH)
  | 0, _, _ => none
  | n + 1, v3, h =>
    if 999 < v3 then (some ((-9), h))
    else (bd (X6_ahead v1 v3 h) fun r1 h2 =>
    if v2 ≤ r1 then (vl (v3 + 1) fun x3 =>
    (X10_leastFor_l2 v1 v2 n) x3 h2)
    else (some (v3, h2)))
set_option maxRecDepth 100000 in
theorem aX10_leastFor_l2 {X : MCx} {yd : Dyn} {A : Nat → Prop} (C : OK X cX10_leastFor RX10 4 (some .int) rmX10_leastFor A)  (v1 : Int32) (v2 : Int32) : ∀ (n : Nat) (v3 : Int32) (h : AH), AW X 4 ZC yd A 0 0 (QF X rmX10_leastFor ZC yd rvI A) 2 [(0, .ref 0), (1, .int v1), (2, .int v2), (3, .int v3)] [] h (X10_leastFor_l2 v1 v2 n v3 h) := by
  intro n
  induction n with
  | zero => intro v3 h; exact aw_none
  | succ n ih =>
    intro v3 h
    exact aw_iload_n (pc := 2) C (i := 3) dX10_leastFor_2 rfl rfl <|
    aw_sipush (pc := 3) C (v := 999) dX10_leastFor_3 rfl <|
    aw_icmp_gt (pc := 6) C (tgt := 30) dX10_leastFor_6 rfl (fun _ =>
    aw_bipush (pc := 30) C (v := (-9)) dX10_leastFor_30 rfl <|
    aw_iret (pc := 32) C dX10_leastFor_32 rfl rfl) (fun _ =>
    aw_aload_n (pc := 9) C (i := 0) dX10_leastFor_9 rfl rfl <|
    aw_getR (pc := 10) C (b := 5) dX10_leastFor_10 fl_X10_28 sC_0 rfl rC_0_10 <|
    aw_iload_n (pc := 13) C (i := 1) dX10_leastFor_13 rfl rfl <|
    aw_iload_n (pc := 14) C (i := 3) dX10_leastFor_14 rfl rfl <|
    aw_callF (pc := 15) C (cr_V (rest := []) (F := (X6_ahead v1 v3)) C (c_X6_ahead X.2.1 v1 v3) dX10_leastFor_15 mf_X6_ahead ml_X10_312 im_X6_ahead se_X6_ahead sC_5 rfl ⟨(Nat.le_of_ble_eq_true rfl), (Nat.le_of_ble_eq_true rfl)⟩ rfl rfl (Nat.le_of_ble_eq_true rfl)) rfl rfl rfl (Nat.zero_le _) (Nat.zero_le _) fun r1 h2 =>
    aw_iload_n (pc := 18) C (i := 2) dX10_leastFor_18 rfl rfl <|
    aw_icmp_ge (pc := 19) C (tgt := 24) dX10_leastFor_19 rfl (fun _ =>
    aw_iincV (pc := 24) C (i := 3) (cst := 1) (fun x3 => [(0, .ref 0), (1, .int v1), (2, .int v2), (3, .int x3)]) dX10_leastFor_24 rfl rfl (by decide) (fun _ => rfl) fun x3 =>
    aw_goto (pc := 27) C (tgt := 2) dX10_leastFor_27 rfl <|
    (ih x3 h2)) (fun _ =>
    aw_iload_n (pc := 22) C (i := 3) dX10_leastFor_22 rfl rfl <|
    aw_iret (pc := 23) C dX10_leastFor_23 rfl rfl))
def X10_leastFor (v1 : Int32) (v2 : Int32) (h : AH) : Option (Int32 × AH) :=
    X10_leastFor_l2 v1 v2 FU 0 h
set_option maxRecDepth 100000 in
theorem c_X10_leastFor (l : Launch) (v1 : Int32) (v2 : Int32) : MC l yX10_leastFor cX10_leastFor 4 (some .int) rmX10_leastFor ZC [.ref 0, .int v1, .int v2] rvI (X10_leastFor v1 v2) :=
  MC.of (own := RX10) (by decide +kernel) rfl (Nat.le_of_ble_eq_true rfl) fun X yd A h _ C =>
    aw_iconst (pc := 0) C (v := 0) dX10_leastFor_0 rfl <|
    aw_istore_n (pc := 1) C (i := 3) (lv' := [(0, .ref 0), (1, .int v1), (2, .int v2), (3, .int 0)]) dX10_leastFor_1 rfl (by decide) rfl <|
    (aX10_leastFor_l2 C v1 v2 FU 0 h)
