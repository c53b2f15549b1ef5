abbrev rmX11_meanParts : Room := { frames := 4, cells := 0, slots := 0, locals := 102 }
def X11_meanParts (v1 : Int32) (h : AH) : Option (Int64 × AH) :=
    bd (X11_placeOf v1 h) fun r1 h2 =>
    bd (X11_counted v1 r1 2 0 h2) fun r3 h4 =>
    some (r3, h4)
set_option maxRecDepth 100000 in
theorem c_X11_meanParts (l : Launch) (v1 : Int32) : MC l yX11_meanParts cX11_meanParts 2 (some .long) rmX11_meanParts ZR [.ref 0, .int v1] rvL (X11_meanParts v1) :=
  MC.of (own := RX11) (by decide +kernel) rfl (Nat.le_of_ble_eq_true rfl) fun X yd A h _ C =>
    aw_aload_n (pc := 0) C (i := 0) dX11_meanParts_0 rfl rfl <|
    aw_iload_n (pc := 1) C (i := 1) dX11_meanParts_1 rfl rfl <|
    aw_aload_n (pc := 2) C (i := 0) dX11_meanParts_2 rfl rfl <|
    aw_iload_n (pc := 3) C (i := 1) dX11_meanParts_3 rfl rfl <|
    aw_callF (pc := 4) C (cr_V (rest := [.int v1, .ref 0]) (F := (X11_placeOf v1)) C (c_X11_placeOf X.2.1 v1) dX11_meanParts_4 mf_X11_placeOf ml_X11_223 im_X11_placeOf se_X11_placeOf sR_0 rfl ⟨(Nat.le_of_ble_eq_true rfl), (Nat.le_of_ble_eq_true rfl)⟩ rfl rfl (Nat.le_of_ble_eq_true rfl)) rfl rfl rfl (Nat.zero_le _) (Nat.zero_le _) fun r1 h2 =>
    aw_iconst (pc := 7) C (v := 2) dX11_meanParts_7 rfl <|
    aw_iconst (pc := 8) C (v := 0) dX11_meanParts_8 rfl <|
    aw_callF (pc := 9) C (cr_V (rest := []) (F := (X11_counted v1 r1 2 0)) C (c_X11_counted X.2.1 v1 r1 2 0) dX11_meanParts_9 mf_X11_counted ml_X11_242 im_X11_counted se_X11_counted sR_0 rfl ⟨(Nat.le_of_ble_eq_true rfl), (Nat.le_of_ble_eq_true rfl)⟩ rfl rfl (Nat.le_of_ble_eq_true rfl)) rfl rfl rfl (Nat.zero_le _) (Nat.zero_le _) fun r3 h4 =>
    aw_lret (pc := 12) C dX11_meanParts_12 rfl rfl

abbrev rmX11_mean : Room := { frames := 5, cells := 0, slots := 0, locals := 123 }
def X11_mean_j32  (h : AH) : Option (Int64 × AH) :=
    bd (X11_lowest (-2) h) fun r5 h6 =>
    some (r5, h6)
set_option maxRecDepth 100000 in
theorem aX11_mean_j32 {X : MCx} {yd : Dyn} {A : Nat → Prop} (C : OK X cX11_mean RX11 4 (some .long) rmX11_mean A)  (h : AH) : AW X 4 ZR yd A 0 0 (QF X rmX11_mean ZR yd rvL A) 32 [(0, .ref 0)] [] h (X11_mean_j32 h) := by
    exact aw_aload_n (pc := 32) C (i := 0) dX11_mean_32 rfl rfl <|
    aw_bipush (pc := 33) C (v := (-2)) dX11_mean_33 rfl <|
    aw_callF (pc := 35) C (cr_V (rest := []) (F := (X11_lowest (-2))) C (c_X11_lowest X.2.1 (-2)) dX11_mean_35 mf_X11_lowest ml_X11_238 im_X11_lowest se_X11_lowest sR_0 rfl ⟨(Nat.le_of_ble_eq_true rfl), (Nat.le_of_ble_eq_true rfl)⟩ rfl rfl (Nat.le_of_ble_eq_true rfl)) rfl rfl rfl (Nat.zero_le _) (Nat.zero_le _) fun r5 h6 =>
    aw_lret (pc := 38) C dX11_mean_38 rfl rfl
def X11_mean_j63  (v3 : Int32) (s0 : Int64) (h : AH) : Option (Int64 × AH) :=
    bd (X11_allWays h) fun r11 h12 =>
    bd (X11_partOf s0 r11 v3 h12) fun r13 h14 =>
    some (r13, h14)
set_option maxRecDepth 100000 in
theorem aX11_mean_j63 {X : MCx} {yd : Dyn} {A : Nat → Prop} (C : OK X cX11_mean RX11 4 (some .long) rmX11_mean A)  (v3 : Int32) (s0 : Int64) (h : AH) : AW X 4 ZR yd A 0 0 (QF X rmX11_mean ZR yd rvL A) 63 [(0, .ref 0), (3, .int v3)] [.long s0] h (X11_mean_j63 v3 s0 h) := by
    exact aw_aload_n (pc := 63) C (i := 0) dX11_mean_63 rfl rfl <|
    aw_callF (pc := 64) C (cr_V (rest := [.long s0]) (F := X11_allWays) C (c_X11_allWays X.2.1 ) dX11_mean_64 mf_X11_allWays ml_X11_246 im_X11_allWays se_X11_allWays sR_0 rfl ⟨(Nat.le_of_ble_eq_true rfl), (Nat.le_of_ble_eq_true rfl)⟩ rfl rfl (Nat.le_of_ble_eq_true rfl)) rfl rfl rfl (Nat.zero_le _) (Nat.zero_le _) fun r11 h12 =>
    aw_iload_n (pc := 67) C (i := 3) dX11_mean_67 rfl rfl <|
    aw_callF (pc := 68) C (cr_S (rest := []) (F := (X11_partOf s0 r11 v3)) C (c_X11_partOf X.2.1 s0 r11 v3) dX11_mean_68 mf_X11_partOf ml_X11_250 st_X11_partOf ⟨(Nat.le_of_ble_eq_true rfl), (Nat.le_of_ble_eq_true rfl)⟩ rfl rfl (Nat.le_of_ble_eq_true rfl)) rfl rfl rfl (Nat.zero_le _) (Nat.zero_le _) fun r13 h14 =>
    aw_lret (pc := 71) C dX11_mean_71 rfl rfl
def X11_mean (v1 : Int32) (v2 : Int32) (v3 : Int32) (h : AH) : Option (Int64 × AH) :=
    bd (X11_isJumper v1 h) fun r1 h2 =>
    if r1 = 0 then (bd (X11_lowest (-1) h2) fun r19 h20 =>
    some (r19, h20))
    else (bd (X11_isIn v2 0 1 h2) fun r3 h4 =>
    if r3 = 0 then (X11_mean_j32 h4)
    else (bd (X11_isIn v3 0 1 h4) fun r7 h8 =>
    if r7 = 0 then (X11_mean_j32 h8)
    else (if v2 = 0 then (bd (X11_placeOf v1 h8) fun r15 h16 =>
    bd (X11_counted v1 r15 1 0 h16) fun r17 h18 =>
    X11_mean_j63 v3 r17 h18)
    else (bd (X11_meanParts v1 h8) fun r9 h10 =>
    X11_mean_j63 v3 r9 h10))))
set_option maxRecDepth 100000 in
theorem c_X11_mean (l : Launch) (v1 : Int32) (v2 : Int32) (v3 : Int32) : MC l yX11_mean cX11_mean 4 (some .long) rmX11_mean ZR [.ref 0, .int v1, .int v2, .int v3] rvL (X11_mean v1 v2 v3) :=
  MC.of (own := RX11) (by decide +kernel) rfl (Nat.le_of_ble_eq_true rfl) fun X yd A h _ C =>
    aw_aload_n (pc := 0) C (i := 0) dX11_mean_0 rfl rfl <|
    aw_iload_n (pc := 1) C (i := 1) dX11_mean_1 rfl rfl <|
    aw_callF (pc := 2) C (cr_V (rest := []) (F := (X11_isJumper v1)) C (c_X11_isJumper X.2.1 v1) dX11_mean_2 mf_X11_isJumper ml_X11_207 im_X11_isJumper se_X11_isJumper sR_0 rfl ⟨(Nat.le_of_ble_eq_true rfl), (Nat.le_of_ble_eq_true rfl)⟩ rfl rfl (Nat.le_of_ble_eq_true rfl)) rfl rfl rfl (Nat.zero_le _) (Nat.zero_le _) fun r1 h2 =>
    aw_if_ne (pc := 5) C (tgt := 14) dX11_mean_5 rfl (fun _ =>
    aw_aload_n (pc := 8) C (i := 0) dX11_mean_8 rfl rfl <|
    aw_iconst (pc := 9) C (v := (-1)) dX11_mean_9 rfl <|
    aw_callF (pc := 10) C (cr_V (rest := []) (F := (X11_lowest (-1))) C (c_X11_lowest X.2.1 (-1)) dX11_mean_10 mf_X11_lowest ml_X11_238 im_X11_lowest se_X11_lowest sR_0 rfl ⟨(Nat.le_of_ble_eq_true rfl), (Nat.le_of_ble_eq_true rfl)⟩ rfl rfl (Nat.le_of_ble_eq_true rfl)) rfl rfl rfl (Nat.zero_le _) (Nat.zero_le _) fun r19 h20 =>
    aw_lret (pc := 13) C dX11_mean_13 rfl rfl) (fun _ =>
    aw_iload_n (pc := 14) C (i := 2) dX11_mean_14 rfl rfl <|
    aw_iconst (pc := 15) C (v := 0) dX11_mean_15 rfl <|
    aw_iconst (pc := 16) C (v := 1) dX11_mean_16 rfl <|
    aw_callF (pc := 17) C (cr_S (rest := []) (F := (X11_isIn v2 0 1)) C (c_X11_isIn X.2.1 v2 0 1) dX11_mean_17 mf_X11_isIn ml_X11_126 st_X11_isIn ⟨(Nat.le_of_ble_eq_true rfl), (Nat.le_of_ble_eq_true rfl)⟩ rfl rfl (Nat.le_of_ble_eq_true rfl)) rfl rfl rfl (Nat.zero_le _) (Nat.zero_le _) fun r3 h4 =>
    aw_if_eq (pc := 20) C (tgt := 32) dX11_mean_20 rfl (fun _ =>
    aw_drop [0] (aX11_mean_j32 C h4)) (fun _ =>
    aw_iload_n (pc := 23) C (i := 3) dX11_mean_23 rfl rfl <|
    aw_iconst (pc := 24) C (v := 0) dX11_mean_24 rfl <|
    aw_iconst (pc := 25) C (v := 1) dX11_mean_25 rfl <|
    aw_callF (pc := 26) C (cr_S (rest := []) (F := (X11_isIn v3 0 1)) C (c_X11_isIn X.2.1 v3 0 1) dX11_mean_26 mf_X11_isIn ml_X11_126 st_X11_isIn ⟨(Nat.le_of_ble_eq_true rfl), (Nat.le_of_ble_eq_true rfl)⟩ rfl rfl (Nat.le_of_ble_eq_true rfl)) rfl rfl rfl (Nat.zero_le _) (Nat.zero_le _) fun r7 h8 =>
    aw_if_ne (pc := 29) C (tgt := 39) dX11_mean_29 rfl (fun _ =>
    aw_drop [0] (aX11_mean_j32 C h8)) (fun _ =>
    aw_iload_n (pc := 39) C (i := 2) dX11_mean_39 rfl rfl <|
    aw_if_ne (pc := 40) C (tgt := 58) dX11_mean_40 rfl (fun _ =>
    aw_aload_n (pc := 43) C (i := 0) dX11_mean_43 rfl rfl <|
    aw_iload_n (pc := 44) C (i := 1) dX11_mean_44 rfl rfl <|
    aw_aload_n (pc := 45) C (i := 0) dX11_mean_45 rfl rfl <|
    aw_iload_n (pc := 46) C (i := 1) dX11_mean_46 rfl rfl <|
    aw_callF (pc := 47) C (cr_V (rest := [.int v1, .ref 0]) (F := (X11_placeOf v1)) C (c_X11_placeOf X.2.1 v1) dX11_mean_47 mf_X11_placeOf ml_X11_223 im_X11_placeOf se_X11_placeOf sR_0 rfl ⟨(Nat.le_of_ble_eq_true rfl), (Nat.le_of_ble_eq_true rfl)⟩ rfl rfl (Nat.le_of_ble_eq_true rfl)) rfl rfl rfl (Nat.zero_le _) (Nat.zero_le _) fun r15 h16 =>
    aw_iconst (pc := 50) C (v := 1) dX11_mean_50 rfl <|
    aw_iconst (pc := 51) C (v := 0) dX11_mean_51 rfl <|
    aw_callF (pc := 52) C (cr_V (rest := []) (F := (X11_counted v1 r15 1 0)) C (c_X11_counted X.2.1 v1 r15 1 0) dX11_mean_52 mf_X11_counted ml_X11_242 im_X11_counted se_X11_counted sR_0 rfl ⟨(Nat.le_of_ble_eq_true rfl), (Nat.le_of_ble_eq_true rfl)⟩ rfl rfl (Nat.le_of_ble_eq_true rfl)) rfl rfl rfl (Nat.zero_le _) (Nat.zero_le _) fun r17 h18 =>
    aw_goto (pc := 55) C (tgt := 63) dX11_mean_55 rfl <|
    aw_drop [0, 3] (aX11_mean_j63 C v3 r17 h18)) (fun _ =>
    aw_aload_n (pc := 58) C (i := 0) dX11_mean_58 rfl rfl <|
    aw_iload_n (pc := 59) C (i := 1) dX11_mean_59 rfl rfl <|
    aw_callF (pc := 60) C (cr_V (rest := []) (F := (X11_meanParts v1)) C (c_X11_meanParts X.2.1 v1) dX11_mean_60 mf_X11_meanParts ml_X11_254 im_X11_meanParts se_X11_meanParts sR_0 rfl ⟨(Nat.le_of_ble_eq_true rfl), (Nat.le_of_ble_eq_true rfl)⟩ rfl rfl (Nat.le_of_ble_eq_true rfl)) rfl rfl rfl (Nat.zero_le _) (Nat.zero_le _) fun r9 h10 =>
    aw_drop [0, 3] (aX11_mean_j63 C v3 r9 h10)))))

abbrev rmX11_past : Room := { frames := 4, cells := 0, slots := 0, locals := 102 }
def X11_past_j40  (v1 : Int32) (v2 : Int32) (v3 : Int32) (v4 : Int32) (h : AH) : Option (Int64 × AH) :=
    if v4 = 0 then (bd (X11_placeOf v1 h) fun r5 h6 =>
    bd (X11_counted v1 r5 3 v2 h6) fun r7 h8 =>
    bd (X11_allWays h8) fun r9 h10 =>
    bd (X11_partOf r7 r9 v3 h10) fun r11 h12 =>
    some (r11, h12))
    else (bd (X11_lowest v4 h) fun r13 h14 =>
    some (r13, h14))
set_option maxRecDepth 100000 in
theorem aX11_past_j40 {X : MCx} {yd : Dyn} {A : Nat → Prop} (C : OK X cX11_past RX11 5 (some .long) rmX11_past A)  (v1 : Int32) (v2 : Int32) (v3 : Int32) (v4 : Int32) (h : AH) : AW X 5 ZR yd A 0 0 (QF X rmX11_past ZR yd rvL A) 40 [(0, .ref 0), (1, .int v1), (2, .int v2), (3, .int v3), (4, .int v4)] [] h (X11_past_j40 v1 v2 v3 v4 h) := by
    exact aw_iload (pc := 40) C (i := 4) dX11_past_40 rfl <|
    aw_if_eq (pc := 42) C (tgt := 54) dX11_past_42 rfl (fun _ =>
    aw_aload_n (pc := 54) C (i := 0) dX11_past_54 rfl rfl <|
    aw_iload_n (pc := 55) C (i := 1) dX11_past_55 rfl rfl <|
    aw_aload_n (pc := 56) C (i := 0) dX11_past_56 rfl rfl <|
    aw_iload_n (pc := 57) C (i := 1) dX11_past_57 rfl rfl <|
    aw_callF (pc := 58) C (cr_V (rest := [.int v1, .ref 0]) (F := (X11_placeOf v1)) C (c_X11_placeOf X.2.1 v1) dX11_past_58 mf_X11_placeOf ml_X11_223 im_X11_placeOf se_X11_placeOf sR_0 rfl ⟨(Nat.le_of_ble_eq_true rfl), (Nat.le_of_ble_eq_true rfl)⟩ rfl rfl (Nat.le_of_ble_eq_true rfl)) rfl rfl rfl (Nat.zero_le _) (Nat.zero_le _) fun r5 h6 =>
    aw_iconst (pc := 61) C (v := 3) dX11_past_61 rfl <|
    aw_iload_n (pc := 62) C (i := 2) dX11_past_62 rfl rfl <|
    aw_callF (pc := 63) C (cr_V (rest := []) (F := (X11_counted v1 r5 3 v2)) C (c_X11_counted X.2.1 v1 r5 3 v2) dX11_past_63 mf_X11_counted ml_X11_242 im_X11_counted se_X11_counted sR_0 rfl ⟨(Nat.le_of_ble_eq_true rfl), (Nat.le_of_ble_eq_true rfl)⟩ rfl rfl (Nat.le_of_ble_eq_true rfl)) rfl rfl rfl (Nat.zero_le _) (Nat.zero_le _) fun r7 h8 =>
    aw_aload_n (pc := 66) C (i := 0) dX11_past_66 rfl rfl <|
    aw_callF (pc := 67) C (cr_V (rest := [.long r7]) (F := X11_allWays) C (c_X11_allWays X.2.1 ) dX11_past_67 mf_X11_allWays ml_X11_246 im_X11_allWays se_X11_allWays sR_0 rfl ⟨(Nat.le_of_ble_eq_true rfl), (Nat.le_of_ble_eq_true rfl)⟩ rfl rfl (Nat.le_of_ble_eq_true rfl)) rfl rfl rfl (Nat.zero_le _) (Nat.zero_le _) fun r9 h10 =>
    aw_iload_n (pc := 70) C (i := 3) dX11_past_70 rfl rfl <|
    aw_callF (pc := 71) C (cr_S (rest := []) (F := (X11_partOf r7 r9 v3)) C (c_X11_partOf X.2.1 r7 r9 v3) dX11_past_71 mf_X11_partOf ml_X11_250 st_X11_partOf ⟨(Nat.le_of_ble_eq_true rfl), (Nat.le_of_ble_eq_true rfl)⟩ rfl rfl (Nat.le_of_ble_eq_true rfl)) rfl rfl rfl (Nat.zero_le _) (Nat.zero_le _) fun r11 h12 =>
    aw_lret (pc := 74) C dX11_past_74 rfl rfl) (fun _ =>
    aw_aload_n (pc := 45) C (i := 0) dX11_past_45 rfl rfl <|
    aw_iload (pc := 46) C (i := 4) dX11_past_46 rfl <|
    aw_callF (pc := 48) C (cr_V (rest := []) (F := (X11_lowest v4)) C (c_X11_lowest X.2.1 v4) dX11_past_48 mf_X11_lowest ml_X11_238 im_X11_lowest se_X11_lowest sR_0 rfl ⟨(Nat.le_of_ble_eq_true rfl), (Nat.le_of_ble_eq_true rfl)⟩ rfl rfl (Nat.le_of_ble_eq_true rfl)) rfl rfl rfl (Nat.zero_le _) (Nat.zero_le _) fun r13 h14 =>
    aw_goto (pc := 51) C (tgt := 74) dX11_past_51 rfl <|
    aw_lret (pc := 74) C dX11_past_74 rfl rfl)
def X11_past_j20  (v1 : Int32) (v2 : Int32) (v3 : Int32) (s0 : Int32) (h : AH) : Option (Int64 × AH) :=
    if s0 = 0 then (bd (X11_isIn v3 0 1 h) fun r15 h16 =>
    if r15 = 0 then (vl (-2) fun x17 =>
    X11_past_j40 v1 v2 v3 x17 h16)
    else (X11_past_j40 v1 v2 v3 s0 h16))
    else (X11_past_j40 v1 v2 v3 s0 h)
set_option maxRecDepth 100000 in
theorem aX11_past_j20 {X : MCx} {yd : Dyn} {A : Nat → Prop} (C : OK X cX11_past RX11 5 (some .long) rmX11_past A)  (v1 : Int32) (v2 : Int32) (v3 : Int32) (s0 : Int32) (h : AH) : AW X 5 ZR yd A 0 0 (QF X rmX11_past ZR yd rvL A) 20 [(0, .ref 0), (1, .int v1), (2, .int v2), (3, .int v3)] [.int s0] h (X11_past_j20 v1 v2 v3 s0 h) := by
    exact aw_istore (pc := 20) C (i := 4) (lv' := [(0, .ref 0), (1, .int v1), (2, .int v2), (3, .int v3), (4, .int s0)]) dX11_past_20 (by decide) rfl <|
    aw_iload (pc := 22) C (i := 4) dX11_past_22 rfl <|
    aw_if_ne (pc := 24) C (tgt := 40) dX11_past_24 rfl (fun _ =>
    aw_iload_n (pc := 27) C (i := 3) dX11_past_27 rfl rfl <|
    aw_iconst (pc := 28) C (v := 0) dX11_past_28 rfl <|
    aw_iconst (pc := 29) C (v := 1) dX11_past_29 rfl <|
    aw_callF (pc := 30) C (cr_S (rest := []) (F := (X11_isIn v3 0 1)) C (c_X11_isIn X.2.1 v3 0 1) dX11_past_30 mf_X11_isIn ml_X11_126 st_X11_isIn ⟨(Nat.le_of_ble_eq_true rfl), (Nat.le_of_ble_eq_true rfl)⟩ rfl rfl (Nat.le_of_ble_eq_true rfl)) rfl rfl rfl (Nat.zero_le _) (Nat.zero_le _) fun r15 h16 =>
    aw_if_ne (pc := 33) C (tgt := 40) dX11_past_33 rfl (fun _ =>
    aw_bipush (pc := 36) C (v := (-2)) dX11_past_36 rfl <|
    aw_istoreV (pc := 38) C (i := 4) (fun x17 => [(0, .ref 0), (1, .int v1), (2, .int v2), (3, .int v3), (4, .int x17)]) dX11_past_38 (by decide) (fun _ => rfl) fun x17 =>
    (aX11_past_j40 C v1 v2 v3 x17 h16)) (fun _ =>
    (aX11_past_j40 C v1 v2 v3 s0 h16))) (fun _ =>
    (aX11_past_j40 C v1 v2 v3 s0 h))
def X11_past (v1 : Int32) (v2 : Int32) (v3 : Int32) (h : AH) : Option (Int64 × AH) :=
    bd (X11_isJumper v1 h) fun r1 h2 =>
    if r1 = 0 then (X11_past_j20 v1 v2 v3 (-1) h2)
    else (bd (X11_bound v2 0 999 h2) fun r3 h4 =>
    X11_past_j20 v1 v2 v3 r3 h4)
set_option maxRecDepth 100000 in
theorem c_X11_past (l : Launch) (v1 : Int32) (v2 : Int32) (v3 : Int32) : MC l yX11_past cX11_past 5 (some .long) rmX11_past ZR [.ref 0, .int v1, .int v2, .int v3] rvL (X11_past v1 v2 v3) :=
  MC.of (own := RX11) (by decide +kernel) rfl (Nat.le_of_ble_eq_true rfl) fun X yd A h _ C =>
    aw_aload_n (pc := 0) C (i := 0) dX11_past_0 rfl rfl <|
    aw_iload_n (pc := 1) C (i := 1) dX11_past_1 rfl rfl <|
    aw_callF (pc := 2) C (cr_V (rest := []) (F := (X11_isJumper v1)) C (c_X11_isJumper X.2.1 v1) dX11_past_2 mf_X11_isJumper ml_X11_207 im_X11_isJumper se_X11_isJumper sR_0 rfl ⟨(Nat.le_of_ble_eq_true rfl), (Nat.le_of_ble_eq_true rfl)⟩ rfl rfl (Nat.le_of_ble_eq_true rfl)) rfl rfl rfl (Nat.zero_le _) (Nat.zero_le _) fun r1 h2 =>
    aw_if_ne (pc := 5) C (tgt := 12) dX11_past_5 rfl (fun _ =>
    aw_iconst (pc := 8) C (v := (-1)) dX11_past_8 rfl <|
    aw_goto (pc := 9) C (tgt := 20) dX11_past_9 rfl <|
    (aX11_past_j20 C v1 v2 v3 (-1) h2)) (fun _ =>
    aw_iload_n (pc := 12) C (i := 2) dX11_past_12 rfl rfl <|
    aw_iconst (pc := 13) C (v := 0) dX11_past_13 rfl <|
    aw_sipush (pc := 14) C (v := 999) dX11_past_14 rfl <|
    aw_callF (pc := 17) C (cr_S (rest := []) (F := (X11_bound v2 0 999)) C (c_X11_bound X.2.1 v2 0 999) dX11_past_17 mf_X11_bound ml_X11_108 st_X11_bound ⟨(Nat.le_of_ble_eq_true rfl), (Nat.le_of_ble_eq_true rfl)⟩ rfl rfl (Nat.le_of_ble_eq_true rfl)) rfl rfl rfl (Nat.zero_le _) (Nat.zero_le _) fun r3 h4 =>
    (aX11_past_j20 C v1 v2 v3 r3 h4))

abbrev rmX11_bestLook : Room := { frames := 5, cells := 0, slots := 0, locals := 123 }
def X11_bestLook_j70  (v1 : Int32) (v2 : Int32) (v3 : Int32) (v4 : Int64) (v6 : Int32) (K31 : Int32 → Int64 → Int32 → AH → Option (Int32 × AH)) (h : AH) : Option (Int32 × AH) :=
    vl (v6 + 1) fun x9 =>
    K31 v3 v4 x9 h
set_option maxRecDepth 100000 in
theorem aX11_bestLook_j70 {X : MCx} {yd : Dyn} {A : Nat → Prop} (C : OK X cX11_bestLook RX11 9 (some .int) rmX11_bestLook A)  (v1 : Int32) (v2 : Int32) (v3 : Int32) (v4 : Int64) (v6 : Int32) (K31 : Int32 → Int64 → Int32 → AH → Option (Int32 × AH)) (hK31 : ∀ (w3 : Int32) (w4 : Int64) (w6 : Int32) (h : AH), AW X 9 ZR yd A 0 0 (QF X rmX11_bestLook ZR yd rvI A) 31 [(0, .ref 0), (1, .int v1), (2, .int v2), (3, .int w3), (4, .long w4), (6, .int w6)] [] h (K31 w3 w4 w6 h)) (h : AH) : AW X 9 ZR yd A 0 0 (QF X rmX11_bestLook ZR yd rvI A) 70 [(0, .ref 0), (1, .int v1), (2, .int v2), (3, .int v3), (4, .long v4), (6, .int v6)] [] h (X11_bestLook_j70 v1 v2 v3 v4 v6 K31 h) := by
    exact aw_iincV (pc := 70) C (i := 6) (cst := 1) (fun x9 => [(0, .ref 0), (1, .int v1), (2, .int v2), (3, .int v3), (4, .long v4), (6, .int x9)]) dX11_bestLook_70 rfl rfl (by decide) (fun _ => rfl) fun x9 =>
    aw_goto (pc := 73) C (tgt := 31) dX11_bestLook_73 rfl <|
    (hK31 v3 v4 x9 h)
def X11_bestLook_l31  (v1 : Int32) (v2 : Int32) : Nat → Int32 → Int64 → Int32 → AH → Option (Int32 × AH)
  | 0, _, _, _, _ => none
  | n + 1, v3, v4, v6, h =>
    if 5 ≤ v6 then (ck v1 4 (vl (sI h 8 v1.toNatClampNeg v2) fun h5 =>
    some (v3, h5)))
    else (ck v1 4 (vl (sI h 8 v1.toNatClampNeg v6) fun h6 =>
    bd (X11_meanParts v1 h6) fun r7 h8 =>
    if 0 < (lcmpV r7 v4) then (X11_bestLook_j70 v1 v2 v6 r7 v6 (X11_bestLook_l31 v1 v2 n) h8)
    else (X11_bestLook_j70 v1 v2 v3 v4 v6 (X11_bestLook_l31 v1 v2 n) h8)))
set_option maxRecDepth 100000 in
theorem aX11_bestLook_l31 {X : MCx} {yd : Dyn} {A : Nat → Prop} (C : OK X cX11_bestLook RX11 9 (some .int) rmX11_bestLook A)  (v1 : Int32) (v2 : Int32) : ∀ (n : Nat) (v3 : Int32) (v4 : Int64) (v6 : Int32) (h : AH), AW X 9 ZR yd A 0 0 (QF X rmX11_bestLook ZR yd rvI A) 31 [(0, .ref 0), (1, .int v1), (2, .int v2), (3, .int v3), (4, .long v4), (6, .int v6)] [] h (X11_bestLook_l31 v1 v2 n v3 v4 v6 h) := by
  intro n
  induction n with
  | zero => intro v3 v4 v6 h; exact aw_none
  | succ n ih =>
    intro v3 v4 v6 h
    exact aw_iload (pc := 31) C (i := 6) dX11_bestLook_31 rfl <|
    aw_iconst (pc := 33) C (v := 5) dX11_bestLook_33 rfl <|
    aw_icmp_ge (pc := 34) C (tgt := 76) dX11_bestLook_34 rfl (fun _ =>
    aw_aload_n (pc := 76) C (i := 0) dX11_bestLook_76 rfl rfl <|
    aw_getR (pc := 77) C (b := 8) dX11_bestLook_77 fl_X11_31 sR_0 rfl rR_0_7 <|
    aw_iload_n (pc := 80) C (i := 1) dX11_bestLook_80 rfl rfl <|
    aw_iload_n (pc := 81) C (i := 2) dX11_bestLook_81 rfl rfl <|
    aw_iast (pc := 82) C dX11_bestLook_82 sR_8 rfl fun h5 =>
    aw_iload_n (pc := 83) C (i := 3) dX11_bestLook_83 rfl rfl <|
    aw_iret (pc := 84) C dX11_bestLook_84 rfl rfl) (fun _ =>
    aw_aload_n (pc := 37) C (i := 0) dX11_bestLook_37 rfl rfl <|
    aw_getR (pc := 38) C (b := 8) dX11_bestLook_38 fl_X11_31 sR_0 rfl rR_0_7 <|
    aw_iload_n (pc := 41) C (i := 1) dX11_bestLook_41 rfl rfl <|
    aw_iload (pc := 42) C (i := 6) dX11_bestLook_42 rfl <|
    aw_iast (pc := 44) C dX11_bestLook_44 sR_8 rfl fun h6 =>
    aw_aload_n (pc := 45) C (i := 0) dX11_bestLook_45 rfl rfl <|
    aw_iload_n (pc := 46) C (i := 1) dX11_bestLook_46 rfl rfl <|
    aw_callF (pc := 47) C (cr_V (rest := []) (F := (X11_meanParts v1)) C (c_X11_meanParts X.2.1 v1) dX11_bestLook_47 mf_X11_meanParts ml_X11_254 im_X11_meanParts se_X11_meanParts sR_0 rfl ⟨(Nat.le_of_ble_eq_true rfl), (Nat.le_of_ble_eq_true rfl)⟩ rfl rfl (Nat.le_of_ble_eq_true rfl)) rfl rfl rfl (Nat.zero_le _) (Nat.zero_le _) fun r7 h8 =>
    aw_lstore (pc := 50) C (i := 7) (lv' := [(0, .ref 0), (1, .int v1), (2, .int v2), (3, .int v3), (4, .long v4), (6, .int v6), (7, .long r7)]) dX11_bestLook_50 (by decide) rfl <|
    aw_lload (pc := 52) C (i := 7) dX11_bestLook_52 rfl <|
    aw_lload (pc := 54) C (i := 4) dX11_bestLook_54 rfl <|
    aw_lcmp (pc := 56) C dX11_bestLook_56 <|
    aw_if_gt (pc := 57) C (tgt := 63) dX11_bestLook_57 rfl (fun _ =>
    aw_iload (pc := 63) C (i := 6) dX11_bestLook_63 rfl <|
    aw_istore_n (pc := 65) C (i := 3) (lv' := [(0, .ref 0), (1, .int v1), (2, .int v2), (3, .int v6), (4, .long v4), (6, .int v6), (7, .long r7)]) dX11_bestLook_65 rfl (by decide) rfl <|
    aw_lload (pc := 66) C (i := 7) dX11_bestLook_66 rfl <|
    aw_lstore (pc := 68) C (i := 4) (lv' := [(0, .ref 0), (1, .int v1), (2, .int v2), (3, .int v6), (4, .long r7), (6, .int v6), (7, .long r7)]) dX11_bestLook_68 (by decide) rfl <|
    aw_drop [0, 1, 2, 3, 4, 5] (aX11_bestLook_j70 C v1 v2 v6 r7 v6 (X11_bestLook_l31 v1 v2 n) ih h8)) (fun _ =>
    aw_goto (pc := 60) C (tgt := 70) dX11_bestLook_60 rfl <|
    aw_drop [0, 1, 2, 3, 4, 5] (aX11_bestLook_j70 C v1 v2 v3 v4 v6 (X11_bestLook_l31 v1 v2 n) ih h8)))
def X11_bestLook (v1 : Int32) (h : AH) : Option (Int32 × AH) :=
    bd (X11_isJumper v1 h) fun r1 h2 =>
    if r1 = 0 then (bd (X11_no (-1) h2) fun r10 h11 =>
    some (r10, h11))
    else (ck v1 4 (vl (h2.1 8 v1.toNatClampNeg) fun x3 =>
    vl (-1) fun x4 =>
    X11_bestLook_l31 v1 x3 FU 0 x4 0 h2))
set_option maxRecDepth 100000 in
theorem c_X11_bestLook (l : Launch) (v1 : Int32) : MC l yX11_bestLook cX11_bestLook 9 (some .int) rmX11_bestLook ZR [.ref 0, .int v1] rvI (X11_bestLook v1) :=
  MC.of (own := RX11) (by decide +kernel) rfl (Nat.le_of_ble_eq_true rfl) fun X yd A h _ C =>
    aw_aload_n (pc := 0) C (i := 0) dX11_bestLook_0 rfl rfl <|
    aw_iload_n (pc := 1) C (i := 1) dX11_bestLook_1 rfl rfl <|
    aw_callF (pc := 2) C (cr_V (rest := []) (F := (X11_isJumper v1)) C (c_X11_isJumper X.2.1 v1) dX11_bestLook_2 mf_X11_isJumper ml_X11_207 im_X11_isJumper se_X11_isJumper sR_0 rfl ⟨(Nat.le_of_ble_eq_true rfl), (Nat.le_of_ble_eq_true rfl)⟩ rfl rfl (Nat.le_of_ble_eq_true rfl)) rfl rfl rfl (Nat.zero_le _) (Nat.zero_le _) fun r1 h2 =>
    aw_if_ne (pc := 5) C (tgt := 14) dX11_bestLook_5 rfl (fun _ =>
    aw_aload_n (pc := 8) C (i := 0) dX11_bestLook_8 rfl rfl <|
    aw_iconst (pc := 9) C (v := (-1)) dX11_bestLook_9 rfl <|
    aw_callF (pc := 10) C (cr_V (rest := []) (F := (X11_no (-1))) C (c_X11_no X.2.1 (-1)) dX11_bestLook_10 mf_X11_no ml_X11_115 im_X11_no se_X11_no sR_0 rfl ⟨(Nat.le_of_ble_eq_true rfl), (Nat.le_of_ble_eq_true rfl)⟩ rfl rfl (Nat.le_of_ble_eq_true rfl)) rfl rfl rfl (Nat.zero_le _) (Nat.zero_le _) fun r10 h11 =>
    aw_iret (pc := 13) C dX11_bestLook_13 rfl rfl) (fun _ =>
    aw_aload_n (pc := 14) C (i := 0) dX11_bestLook_14 rfl rfl <|
    aw_getR (pc := 15) C (b := 8) dX11_bestLook_15 fl_X11_31 sR_0 rfl rR_0_7 <|
    aw_iload_n (pc := 18) C (i := 1) dX11_bestLook_18 rfl rfl <|
    aw_iald (pc := 19) C dX11_bestLook_19 sR_8 rfl <|
    aw_istoreV_n (pc := 20) C (i := 2) (fun x3 => [(0, .ref 0), (1, .int v1), (2, .int x3)]) dX11_bestLook_20 rfl (by decide) (fun _ => rfl) fun x3 =>
    aw_iconst (pc := 21) C (v := 0) dX11_bestLook_21 rfl <|
    aw_istore_n (pc := 22) C (i := 3) (lv' := [(0, .ref 0), (1, .int v1), (2, .int x3), (3, .int 0)]) dX11_bestLook_22 rfl (by decide) rfl <|
    aw_ldc2_w (pc := 23) C (v := (-1)) dX11_bestLook_23 kc_X11_257 <|
    aw_lstoreV (pc := 26) C (i := 4) (fun x4 => [(0, .ref 0), (1, .int v1), (2, .int x3), (3, .int 0), (4, .long x4)]) dX11_bestLook_26 (by decide) (fun _ => rfl) fun x4 =>
    aw_iconst (pc := 28) C (v := 0) dX11_bestLook_28 rfl <|
    aw_istore (pc := 29) C (i := 6) (lv' := [(0, .ref 0), (1, .int v1), (2, .int x3), (3, .int 0), (4, .long x4), (6, .int 0)]) dX11_bestLook_29 (by decide) rfl <|
    (aX11_bestLook_l31 C v1 x3 FU 0 x4 0 h2))

abbrev rmX11_bestMark : Room := { frames := 4, cells := 0, slots := 0, locals := 102 }
def X11_bestMark_j143  (v1 : Int32) (v2 : Int32) (v4 : Int32) (v5 : Int32) (v6 : Int64) (v8 : Int32) (K51 : Int32 → Int64 → Int32 → AH → Option (Int32 × AH)) (h : AH) : Option (Int32 × AH) :=
    vl (v8 + 1) fun x15 =>
    K51 v5 v6 x15 h
set_option maxRecDepth 100000 in
theorem aX11_bestMark_j143 {X : MCx} {yd : Dyn} {A : Nat → Prop} (C : OK X cX11_bestMark RX11 11 (some .int) rmX11_bestMark A)  (v1 : Int32) (v2 : Int32) (v4 : Int32) (v5 : Int32) (v6 : Int64) (v8 : Int32) (K51 : Int32 → Int64 → Int32 → AH → Option (Int32 × AH)) (hK51 : ∀ (w5 : Int32) (w6 : Int64) (w8 : Int32) (h : AH), AW X 11 ZR yd A 0 0 (QF X rmX11_bestMark ZR yd rvI A) 51 [(0, .ref 0), (1, .int v1), (2, .int v2), (4, .int v4), (5, .int w5), (6, .long w6), (8, .int w8)] [] h (K51 w5 w6 w8 h)) (h : AH) : AW X 11 ZR yd A 0 0 (QF X rmX11_bestMark ZR yd rvI A) 143 [(0, .ref 0), (1, .int v1), (2, .int v2), (4, .int v4), (5, .int v5), (6, .long v6), (8, .int v8)] [] h (X11_bestMark_j143 v1 v2 v4 v5 v6 v8 K51 h) := by
    exact aw_iincV (pc := 143) C (i := 8) (cst := 1) (fun x15 => [(0, .ref 0), (1, .int v1), (2, .int v2), (4, .int v4), (5, .int v5), (6, .long v6), (8, .int x15)]) dX11_bestMark_143 rfl rfl (by decide) (fun _ => rfl) fun x15 =>
    aw_goto (pc := 146) C (tgt := 51) dX11_bestMark_146 rfl <|
    (hK51 v5 v6 x15 h)
def X11_bestMark_j114  (v1 : Int32) (v2 : Int32) (v4 : Int32) (v5 : Int32) (v6 : Int64) (v8 : Int32) (K51 : Int32 → Int64 → Int32 → AH → Option (Int32 × AH)) (s0 : Int32) (s1 : Int32) (s2 : Int32) (h : AH) : Option (Int32 × AH) :=
    bd (X11_counted s2 s1 s0 v2 h) fun r12 h13 =>
    if 0 < (lcmpV r12 v6) then (ck v1 4 (vl (h13.1 9 v1.toNatClampNeg) fun x14 =>
    X11_bestMark_j143 v1 v2 v4 x14 r12 v8 K51 h13))
    else (X11_bestMark_j143 v1 v2 v4 v5 v6 v8 K51 h13)
set_option maxRecDepth 100000 in
theorem aX11_bestMark_j114 {X : MCx} {yd : Dyn} {A : Nat → Prop} (C : OK X cX11_bestMark RX11 11 (some .int) rmX11_bestMark A)  (v1 : Int32) (v2 : Int32) (v4 : Int32) (v5 : Int32) (v6 : Int64) (v8 : Int32) (K51 : Int32 → Int64 → Int32 → AH → Option (Int32 × AH)) (hK51 : ∀ (w5 : Int32) (w6 : Int64) (w8 : Int32) (h : AH), AW X 11 ZR yd A 0 0 (QF X rmX11_bestMark ZR yd rvI A) 51 [(0, .ref 0), (1, .int v1), (2, .int v2), (4, .int v4), (5, .int w5), (6, .long w6), (8, .int w8)] [] h (K51 w5 w6 w8 h)) (s0 : Int32) (s1 : Int32) (s2 : Int32) (h : AH) : AW X 11 ZR yd A 0 0 (QF X rmX11_bestMark ZR yd rvI A) 114 [(0, .ref 0), (1, .int v1), (2, .int v2), (4, .int v4), (5, .int v5), (6, .long v6), (8, .int v8)] [.int s0, .int s1, .int s2, .ref 0] h (X11_bestMark_j114 v1 v2 v4 v5 v6 v8 K51 s0 s1 s2 h) := by
    exact aw_iload_n (pc := 114) C (i := 2) dX11_bestMark_114 rfl rfl <|
    aw_callF (pc := 115) C (cr_V (rest := []) (F := (X11_counted s2 s1 s0 v2)) C (c_X11_counted X.2.1 s2 s1 s0 v2) dX11_bestMark_115 mf_X11_counted ml_X11_242 im_X11_counted se_X11_counted sR_0 rfl ⟨(Nat.le_of_ble_eq_true rfl), (Nat.le_of_ble_eq_true rfl)⟩ rfl rfl (Nat.le_of_ble_eq_true rfl)) rfl rfl rfl (Nat.zero_le _) (Nat.zero_le _) fun r12 h13 =>
    aw_lstore (pc := 118) C (i := 9) (lv' := [(0, .ref 0), (1, .int v1), (2, .int v2), (4, .int v4), (5, .int v5), (6, .long v6), (8, .int v8), (9, .long r12)]) dX11_bestMark_118 (by decide) rfl <|
    aw_lload (pc := 120) C (i := 9) dX11_bestMark_120 rfl <|
    aw_lload (pc := 122) C (i := 6) dX11_bestMark_122 rfl <|
    aw_lcmp (pc := 124) C dX11_bestMark_124 <|
    aw_if_gt (pc := 125) C (tgt := 131) dX11_bestMark_125 rfl (fun _ =>
    aw_aload_n (pc := 131) C (i := 0) dX11_bestMark_131 rfl rfl <|
    aw_getR (pc := 132) C (b := 9) dX11_bestMark_132 fl_X11_34 sR_0 rfl rR_0_8 <|
    aw_iload_n (pc := 135) C (i := 1) dX11_bestMark_135 rfl rfl <|
    aw_iald (pc := 136) C dX11_bestMark_136 sR_9 rfl <|
    aw_istoreV (pc := 137) C (i := 5) (fun x14 => [(0, .ref 0), (1, .int v1), (2, .int v2), (4, .int v4), (5, .int x14), (6, .long v6), (8, .int v8), (9, .long r12)]) dX11_bestMark_137 (by decide) (fun _ => rfl) fun x14 =>
    aw_lload (pc := 139) C (i := 9) dX11_bestMark_139 rfl <|
    aw_lstore (pc := 141) C (i := 6) (lv' := [(0, .ref 0), (1, .int v1), (2, .int v2), (4, .int v4), (5, .int x14), (6, .long r12), (8, .int v8), (9, .long r12)]) dX11_bestMark_141 (by decide) rfl <|
    aw_drop [0, 1, 2, 3, 4, 5, 6] (aX11_bestMark_j143 C v1 v2 v4 x14 r12 v8 K51 hK51 h13)) (fun _ =>
    aw_goto (pc := 128) C (tgt := 143) dX11_bestMark_128 rfl <|
    aw_drop [0, 1, 2, 3, 4, 5, 6] (aX11_bestMark_j143 C v1 v2 v4 v5 v6 v8 K51 hK51 h13))
def X11_bestMark_j97  (v1 : Int32) (v2 : Int32) (v4 : Int32) (v5 : Int32) (v6 : Int64) (v8 : Int32) (K51 : Int32 → Int64 → Int32 → AH → Option (Int32 × AH)) (s0 : Int32) (s1 : Int32) (h : AH) : Option (Int32 × AH) :=
    ck s1 4 (vl (sI h 9 s1.toNatClampNeg s0) fun h9 =>
    bd (X11_placeOf v1 h9) fun r10 h11 =>
    if 0 ≤ v2 then (X11_bestMark_j114 v1 v2 v4 v5 v6 v8 K51 3 r10 v1 h11)
    else (X11_bestMark_j114 v1 v2 v4 v5 v6 v8 K51 2 r10 v1 h11))
set_option maxRecDepth 100000 in
theorem aX11_bestMark_j97 {X : MCx} {yd : Dyn} {A : Nat → Prop} (C : OK X cX11_bestMark RX11 11 (some .int) rmX11_bestMark A)  (v1 : Int32) (v2 : Int32) (v4 : Int32) (v5 : Int32) (v6 : Int64) (v8 : Int32) (K51 : Int32 → Int64 → Int32 → AH → Option (Int32 × AH)) (hK51 : ∀ (w5 : Int32) (w6 : Int64) (w8 : Int32) (h : AH), AW X 11 ZR yd A 0 0 (QF X rmX11_bestMark ZR yd rvI A) 51 [(0, .ref 0), (1, .int v1), (2, .int v2), (4, .int v4), (5, .int w5), (6, .long w6), (8, .int w8)] [] h (K51 w5 w6 w8 h)) (s0 : Int32) (s1 : Int32) (h : AH) : AW X 11 ZR yd A 0 0 (QF X rmX11_bestMark ZR yd rvI A) 97 [(0, .ref 0), (1, .int v1), (2, .int v2), (4, .int v4), (5, .int v5), (6, .long v6), (8, .int v8)] [.int s0, .int s1, .ref 9] h (X11_bestMark_j97 v1 v2 v4 v5 v6 v8 K51 s0 s1 h) := by
    exact aw_iast (pc := 97) C dX11_bestMark_97 sR_9 rfl fun h9 =>
    aw_aload_n (pc := 98) C (i := 0) dX11_bestMark_98 rfl rfl <|
    aw_iload_n (pc := 99) C (i := 1) dX11_bestMark_99 rfl rfl <|
    aw_aload_n (pc := 100) C (i := 0) dX11_bestMark_100 rfl rfl <|
    aw_iload_n (pc := 101) C (i := 1) dX11_bestMark_101 rfl rfl <|
    aw_callF (pc := 102) C (cr_V (rest := [.int v1, .ref 0]) (F := (X11_placeOf v1)) C (c_X11_placeOf X.2.1 v1) dX11_bestMark_102 mf_X11_placeOf ml_X11_223 im_X11_placeOf se_X11_placeOf sR_0 rfl ⟨(Nat.le_of_ble_eq_true rfl), (Nat.le_of_ble_eq_true rfl)⟩ rfl rfl (Nat.le_of_ble_eq_true rfl)) rfl rfl rfl (Nat.zero_le _) (Nat.zero_le _) fun r10 h11 =>
    aw_iload_n (pc := 105) C (i := 2) dX11_bestMark_105 rfl rfl <|
    aw_if_ge (pc := 106) C (tgt := 113) dX11_bestMark_106 rfl (fun _ =>
    aw_iconst (pc := 113) C (v := 3) dX11_bestMark_113 rfl <|
    (aX11_bestMark_j114 C v1 v2 v4 v5 v6 v8 K51 hK51 3 r10 v1 h11)) (fun _ =>
    aw_iconst (pc := 109) C (v := 2) dX11_bestMark_109 rfl <|
    aw_goto (pc := 110) C (tgt := 114) dX11_bestMark_110 rfl <|
    (aX11_bestMark_j114 C v1 v2 v4 v5 v6 v8 K51 hK51 2 r10 v1 h11))
def X11_bestMark_l51  (v1 : Int32) (v2 : Int32) (v4 : Int32) : Nat → Int32 → Int64 → Int32 → AH → Option (Int32 × AH)
  | 0, _, _, _, _ => none
  | n + 1, v5, v6, v8, h =>
    if 41 ≤ v8 then (ck v1 4 (vl (sI h 9 v1.toNatClampNeg v4) fun h8 =>
    some (v5, h8)))
    else (if 0 ≤ (v4 + v8) then (if (v4 + v8) ≤ 2400 then (X11_bestMark_j97 v1 v2 v4 v5 v6 v8 (X11_bestMark_l51 v1 v2 v4 n) (v4 + v8) v1 h)
    else (X11_bestMark_j97 v1 v2 v4 v5 v6 v8 (X11_bestMark_l51 v1 v2 v4 n) 2400 v1 h))
    else (X11_bestMark_j97 v1 v2 v4 v5 v6 v8 (X11_bestMark_l51 v1 v2 v4 n) 0 v1 h))
set_option maxRecDepth 100000 in
theorem aX11_bestMark_l51 {X : MCx} {yd : Dyn} {A : Nat → Prop} (C : OK X cX11_bestMark RX11 11 (some .int) rmX11_bestMark A)  (v1 : Int32) (v2 : Int32) (v4 : Int32) : ∀ (n : Nat) (v5 : Int32) (v6 : Int64) (v8 : Int32) (h : AH), AW X 11 ZR yd A 0 0 (QF X rmX11_bestMark ZR yd rvI A) 51 [(0, .ref 0), (1, .int v1), (2, .int v2), (4, .int v4), (5, .int v5), (6, .long v6), (8, .int v8)] [] h (X11_bestMark_l51 v1 v2 v4 n v5 v6 v8 h) := by
  intro n
  induction n with
  | zero => intro v5 v6 v8 h; exact aw_none
  | succ n ih =>
    intro v5 v6 v8 h
    exact aw_iload (pc := 51) C (i := 8) dX11_bestMark_51 rfl <|
    aw_bipush (pc := 53) C (v := 41) dX11_bestMark_53 rfl <|
    aw_icmp_ge (pc := 55) C (tgt := 149) dX11_bestMark_55 rfl (fun _ =>
    aw_aload_n (pc := 149) C (i := 0) dX11_bestMark_149 rfl rfl <|
    aw_getR (pc := 150) C (b := 9) dX11_bestMark_150 fl_X11_34 sR_0 rfl rR_0_8 <|
    aw_iload_n (pc := 153) C (i := 1) dX11_bestMark_153 rfl rfl <|
    aw_iload (pc := 154) C (i := 4) dX11_bestMark_154 rfl <|
    aw_iast (pc := 156) C dX11_bestMark_156 sR_9 rfl fun h8 =>
    aw_iload (pc := 157) C (i := 5) dX11_bestMark_157 rfl <|
    aw_iret (pc := 159) C dX11_bestMark_159 rfl rfl) (fun _ =>
    aw_aload_n (pc := 58) C (i := 0) dX11_bestMark_58 rfl rfl <|
    aw_getR (pc := 59) C (b := 9) dX11_bestMark_59 fl_X11_34 sR_0 rfl rR_0_8 <|
    aw_iload_n (pc := 62) C (i := 1) dX11_bestMark_62 rfl rfl <|
    aw_iload (pc := 63) C (i := 4) dX11_bestMark_63 rfl <|
    aw_iload (pc := 65) C (i := 8) dX11_bestMark_65 rfl <|
    aw_iadd (pc := 67) C dX11_bestMark_67 <|
    aw_if_ge (pc := 68) C (tgt := 75) dX11_bestMark_68 rfl (fun _ =>
    aw_iload (pc := 75) C (i := 4) dX11_bestMark_75 rfl <|
    aw_iload (pc := 77) C (i := 8) dX11_bestMark_77 rfl <|
    aw_iadd (pc := 79) C dX11_bestMark_79 <|
    aw_sipush (pc := 80) C (v := 2400) dX11_bestMark_80 rfl <|
    aw_icmp_le (pc := 83) C (tgt := 92) dX11_bestMark_83 rfl (fun _ =>
    aw_iload (pc := 92) C (i := 4) dX11_bestMark_92 rfl <|
    aw_iload (pc := 94) C (i := 8) dX11_bestMark_94 rfl <|
    aw_iadd (pc := 96) C dX11_bestMark_96 <|
    (aX11_bestMark_j97 C v1 v2 v4 v5 v6 v8 (X11_bestMark_l51 v1 v2 v4 n) ih (v4 + v8) v1 h)) (fun _ =>
    aw_sipush (pc := 86) C (v := 2400) dX11_bestMark_86 rfl <|
    aw_goto (pc := 89) C (tgt := 97) dX11_bestMark_89 rfl <|
    (aX11_bestMark_j97 C v1 v2 v4 v5 v6 v8 (X11_bestMark_l51 v1 v2 v4 n) ih 2400 v1 h))) (fun _ =>
    aw_iconst (pc := 71) C (v := 0) dX11_bestMark_71 rfl <|
    aw_goto (pc := 72) C (tgt := 97) dX11_bestMark_72 rfl <|
    (aX11_bestMark_j97 C v1 v2 v4 v5 v6 v8 (X11_bestMark_l51 v1 v2 v4 n) ih 0 v1 h)))
def X11_bestMark_j20  (v1 : Int32) (v2 : Int32) (s0 : Int32) (h : AH) : Option (Int32 × AH) :=
    if s0 = 0 then (ck v1 4 (vl (h.1 9 v1.toNatClampNeg) fun x5 =>
    vl (-1) fun x6 =>
    vl (-40) fun x7 =>
    X11_bestMark_l51 v1 v2 x5 FU 0 x6 x7 h))
    else (bd (X11_no s0 h) fun r16 h17 =>
    some (r16, h17))
set_option maxRecDepth 100000 in
theorem aX11_bestMark_j20 {X : MCx} {yd : Dyn} {A : Nat → Prop} (C : OK X cX11_bestMark RX11 11 (some .int) rmX11_bestMark A)  (v1 : Int32) (v2 : Int32) (s0 : Int32) (h : AH) : AW X 11 ZR yd A 0 0 (QF X rmX11_bestMark ZR yd rvI A) 20 [(0, .ref 0), (1, .int v1), (2, .int v2)] [.int s0] h (X11_bestMark_j20 v1 v2 s0 h) := by
    exact aw_istore_n (pc := 20) C (i := 3) (lv' := [(0, .ref 0), (1, .int v1), (2, .int v2), (3, .int s0)]) dX11_bestMark_20 rfl (by decide) rfl <|
    aw_iload_n (pc := 21) C (i := 3) dX11_bestMark_21 rfl rfl <|
    aw_if_eq (pc := 22) C (tgt := 31) dX11_bestMark_22 rfl (fun _ =>
    aw_aload_n (pc := 31) C (i := 0) dX11_bestMark_31 rfl rfl <|
    aw_getR (pc := 32) C (b := 9) dX11_bestMark_32 fl_X11_34 sR_0 rfl rR_0_8 <|
    aw_iload_n (pc := 35) C (i := 1) dX11_bestMark_35 rfl rfl <|
    aw_iald (pc := 36) C dX11_bestMark_36 sR_9 rfl <|
    aw_istoreV (pc := 37) C (i := 4) (fun x5 => [(0, .ref 0), (1, .int v1), (2, .int v2), (3, .int s0), (4, .int x5)]) dX11_bestMark_37 (by decide) (fun _ => rfl) fun x5 =>
    aw_iconst (pc := 39) C (v := 0) dX11_bestMark_39 rfl <|
    aw_istore (pc := 40) C (i := 5) (lv' := [(0, .ref 0), (1, .int v1), (2, .int v2), (3, .int s0), (4, .int x5), (5, .int 0)]) dX11_bestMark_40 (by decide) rfl <|
    aw_ldc2_w (pc := 42) C (v := (-1)) dX11_bestMark_42 kc_X11_257 <|
    aw_lstoreV (pc := 45) C (i := 6) (fun x6 => [(0, .ref 0), (1, .int v1), (2, .int v2), (3, .int s0), (4, .int x5), (5, .int 0), (6, .long x6)]) dX11_bestMark_45 (by decide) (fun _ => rfl) fun x6 =>
    aw_bipush (pc := 47) C (v := (-40)) dX11_bestMark_47 rfl <|
    aw_istoreV (pc := 49) C (i := 8) (fun x7 => [(0, .ref 0), (1, .int v1), (2, .int v2), (3, .int s0), (4, .int x5), (5, .int 0), (6, .long x6), (8, .int x7)]) dX11_bestMark_49 (by decide) (fun _ => rfl) fun x7 =>
    aw_drop [0, 1, 2, 4, 5, 6, 7] (aX11_bestMark_l51 C v1 v2 x5 FU 0 x6 x7 h)) (fun _ =>
    aw_aload_n (pc := 25) C (i := 0) dX11_bestMark_25 rfl rfl <|
    aw_iload_n (pc := 26) C (i := 3) dX11_bestMark_26 rfl rfl <|
    aw_callF (pc := 27) C (cr_V (rest := []) (F := (X11_no s0)) C (c_X11_no X.2.1 s0) dX11_bestMark_27 mf_X11_no ml_X11_115 im_X11_no se_X11_no sR_0 rfl ⟨(Nat.le_of_ble_eq_true rfl), (Nat.le_of_ble_eq_true rfl)⟩ rfl rfl (Nat.le_of_ble_eq_true rfl)) rfl rfl rfl (Nat.zero_le _) (Nat.zero_le _) fun r16 h17 =>
    aw_iret (pc := 30) C dX11_bestMark_30 rfl rfl)
def X11_bestMark (v1 : Int32) (v2 : Int32) (h : AH) : Option (Int32 × AH) :=
    bd (X11_isJumper v1 h) fun r1 h2 =>
    if r1 = 0 then (X11_bestMark_j20 v1 v2 (-1) h2)
    else (bd (X11_bound v2 (-1) 999 h2) fun r3 h4 =>
    X11_bestMark_j20 v1 v2 r3 h4)
set_option maxRecDepth 100000 in
theorem c_X11_bestMark (l : Launch) (v1 : Int32) (v2 : Int32) : MC l yX11_bestMark cX11_bestMark 11 (some .int) rmX11_bestMark ZR [.ref 0, .int v1, .int v2] rvI (X11_bestMark v1 v2) :=
  MC.of (own := RX11) (by decide +kernel) rfl (Nat.le_of_ble_eq_true rfl) fun X yd A h _ C =>
    aw_aload_n (pc := 0) C (i := 0) dX11_bestMark_0 rfl rfl <|
    aw_iload_n (pc := 1) C (i := 1) dX11_bestMark_1 rfl rfl <|
    aw_callF (pc := 2) C (cr_V (rest := []) (F := (X11_isJumper v1)) C (c_X11_isJumper X.2.1 v1) dX11_bestMark_2 mf_X11_isJumper ml_X11_207 im_X11_isJumper se_X11_isJumper sR_0 rfl ⟨(Nat.le_of_ble_eq_true rfl), (Nat.le_of_ble_eq_true rfl)⟩ rfl rfl (Nat.le_of_ble_eq_true rfl)) rfl rfl rfl (Nat.zero_le _) (Nat.zero_le _) fun r1 h2 =>
    aw_if_ne (pc := 5) C (tgt := 12) dX11_bestMark_5 rfl (fun _ =>
    aw_iconst (pc := 8) C (v := (-1)) dX11_bestMark_8 rfl <|
    aw_goto (pc := 9) C (tgt := 20) dX11_bestMark_9 rfl <|
    (aX11_bestMark_j20 C v1 v2 (-1) h2)) (fun _ =>
    aw_iload_n (pc := 12) C (i := 2) dX11_bestMark_12 rfl rfl <|
    aw_iconst (pc := 13) C (v := (-1)) dX11_bestMark_13 rfl <|
    aw_sipush (pc := 14) C (v := 999) dX11_bestMark_14 rfl <|
    aw_callF (pc := 17) C (cr_S (rest := []) (F := (X11_bound v2 (-1) 999)) C (c_X11_bound X.2.1 v2 (-1) 999) dX11_bestMark_17 mf_X11_bound ml_X11_108 st_X11_bound ⟨(Nat.le_of_ble_eq_true rfl), (Nat.le_of_ble_eq_true rfl)⟩ rfl rfl (Nat.le_of_ble_eq_true rfl)) rfl rfl rfl (Nat.zero_le _) (Nat.zero_le _) fun r3 h4 =>
    (aX11_bestMark_j20 C v1 v2 r3 h4))

abbrev rmX11_back : Room := { frames := 2, cells := 0, slots := 0, locals := 48 }
def X11_back_j20  (v1 : Int32) (v2 : Int32) (s0 : Int32) (h : AH) : Option (Int32 × AH) :=
    if s0 = 0 then (bd (X11_allStrides v1 v2 h) fun r5 h6 =>
    bd (X11_allStrides v1 (h6.1 0 14) h6) fun r7 h8 =>
    some ((r5 - r7), h8))
    else (bd (X11_lower s0 h) fun r9 h10 =>
    some (r9, h10))
set_option maxRecDepth 100000 in
theorem aX11_back_j20 {X : MCx} {yd : Dyn} {A : Nat → Prop} (C : OK X cX11_back RX11 4 (some .int) rmX11_back A)  (v1 : Int32) (v2 : Int32) (s0 : Int32) (h : AH) : AW X 4 ZR yd A 0 0 (QF X rmX11_back ZR yd rvI A) 20 [(0, .ref 0), (1, .int v1), (2, .int v2)] [.int s0] h (X11_back_j20 v1 v2 s0 h) := by
    exact aw_istore_n (pc := 20) C (i := 3) (lv' := [(0, .ref 0), (1, .int v1), (2, .int v2), (3, .int s0)]) dX11_back_20 rfl (by decide) rfl <|
    aw_iload_n (pc := 21) C (i := 3) dX11_back_21 rfl rfl <|
    aw_if_eq (pc := 22) C (tgt := 33) dX11_back_22 rfl (fun _ =>
    aw_aload_n (pc := 33) C (i := 0) dX11_back_33 rfl rfl <|
    aw_iload_n (pc := 34) C (i := 1) dX11_back_34 rfl rfl <|
    aw_iload_n (pc := 35) C (i := 2) dX11_back_35 rfl rfl <|
    aw_callF (pc := 36) C (cr_V (rest := []) (F := (X11_allStrides v1 v2)) C (c_X11_allStrides X.2.1 v1 v2) dX11_back_36 mf_X11_allStrides ml_X11_200 im_X11_allStrides se_X11_allStrides sR_0 rfl ⟨(Nat.le_of_ble_eq_true rfl), (Nat.le_of_ble_eq_true rfl)⟩ rfl rfl (Nat.le_of_ble_eq_true rfl)) rfl rfl rfl (Nat.zero_le _) (Nat.zero_le _) fun r5 h6 =>
    aw_aload_n (pc := 39) C (i := 0) dX11_back_39 rfl rfl <|
    aw_iload_n (pc := 40) C (i := 1) dX11_back_40 rfl rfl <|
    aw_aload_n (pc := 41) C (i := 0) dX11_back_41 rfl rfl <|
    aw_getI (pc := 42) C dX11_back_42 fl_X11_157 sR_0 rfl <|
    aw_callF (pc := 45) C (cr_V (rest := [.int r5]) (F := (X11_allStrides v1 (h6.1 0 14))) C (c_X11_allStrides X.2.1 v1 (h6.1 0 14)) dX11_back_45 mf_X11_allStrides ml_X11_200 im_X11_allStrides se_X11_allStrides sR_0 rfl ⟨(Nat.le_of_ble_eq_true rfl), (Nat.le_of_ble_eq_true rfl)⟩ rfl rfl (Nat.le_of_ble_eq_true rfl)) rfl rfl rfl (Nat.zero_le _) (Nat.zero_le _) fun r7 h8 =>
    aw_isub (pc := 48) C dX11_back_48 <|
    aw_iret (pc := 49) C dX11_back_49 rfl rfl) (fun _ =>
    aw_aload_n (pc := 25) C (i := 0) dX11_back_25 rfl rfl <|
    aw_iload_n (pc := 26) C (i := 3) dX11_back_26 rfl rfl <|
    aw_callF (pc := 27) C (cr_V (rest := []) (F := (X11_lower s0)) C (c_X11_lower X.2.1 s0) dX11_back_27 mf_X11_lower ml_X11_220 im_X11_lower se_X11_lower sR_0 rfl ⟨(Nat.le_of_ble_eq_true rfl), (Nat.le_of_ble_eq_true rfl)⟩ rfl rfl (Nat.le_of_ble_eq_true rfl)) rfl rfl rfl (Nat.zero_le _) (Nat.zero_le _) fun r9 h10 =>
    aw_goto (pc := 30) C (tgt := 49) dX11_back_30 rfl <|
    aw_iret (pc := 49) C dX11_back_49 rfl rfl)
def X11_back (v1 : Int32) (v2 : Int32) (h : AH) : Option (Int32 × AH) :=
    bd (X11_isJumper v1 h) fun r1 h2 =>
    if r1 = 0 then (X11_back_j20 v1 v2 (-1) h2)
    else (bd (X11_bound v2 (-9) 9 h2) fun r3 h4 =>
    X11_back_j20 v1 v2 r3 h4)
set_option maxRecDepth 100000 in
theorem c_X11_back (l : Launch) (v1 : Int32) (v2 : Int32) : MC l yX11_back cX11_back 4 (some .int) rmX11_back ZR [.ref 0, .int v1, .int v2] rvI (X11_back v1 v2) :=
  MC.of (own := RX11) (by decide +kernel) rfl (Nat.le_of_ble_eq_true rfl) fun X yd A h _ C =>
    aw_aload_n (pc := 0) C (i := 0) dX11_back_0 rfl rfl <|
    aw_iload_n (pc := 1) C (i := 1) dX11_back_1 rfl rfl <|
    aw_callF (pc := 2) C (cr_V (rest := []) (F := (X11_isJumper v1)) C (c_X11_isJumper X.2.1 v1) dX11_back_2 mf_X11_isJumper ml_X11_207 im_X11_isJumper se_X11_isJumper sR_0 rfl ⟨(Nat.le_of_ble_eq_true rfl), (Nat.le_of_ble_eq_true rfl)⟩ rfl rfl (Nat.le_of_ble_eq_true rfl)) rfl rfl rfl (Nat.zero_le _) (Nat.zero_le _) fun r1 h2 =>
    aw_if_ne (pc := 5) C (tgt := 12) dX11_back_5 rfl (fun _ =>
    aw_iconst (pc := 8) C (v := (-1)) dX11_back_8 rfl <|
    aw_goto (pc := 9) C (tgt := 20) dX11_back_9 rfl <|
    (aX11_back_j20 C v1 v2 (-1) h2)) (fun _ =>
    aw_iload_n (pc := 12) C (i := 2) dX11_back_12 rfl rfl <|
    aw_bipush (pc := 13) C (v := (-9)) dX11_back_13 rfl <|
    aw_bipush (pc := 15) C (v := 9) dX11_back_15 rfl <|
    aw_callF (pc := 17) C (cr_S (rest := []) (F := (X11_bound v2 (-9) 9)) C (c_X11_bound X.2.1 v2 (-9) 9) dX11_back_17 mf_X11_bound ml_X11_108 st_X11_bound ⟨(Nat.le_of_ble_eq_true rfl), (Nat.le_of_ble_eq_true rfl)⟩ rfl rfl (Nat.le_of_ble_eq_true rfl)) rfl rfl rfl (Nat.zero_le _) (Nat.zero_le _) fun r3 h4 =>
    (aX11_back_j20 C v1 v2 r3 h4))

abbrev rmX11_ranksNow : Room := { frames := 4, cells := 0, slots := 0, locals := 90 }
def X11_ranksNow  (h : AH) : Option (Unit × AH) :=
    bd (X11_findBest 0 (h.1 0 16) h) fun _ h2 =>
    bd (X11_sorts h2) fun _ h4 =>
    some ((), h4)
set_option maxRecDepth 100000 in
theorem c_X11_ranksNow (l : Launch)  : MC l yX11_ranksNow cX11_ranksNow 1 none rmX11_ranksNow ZR [.ref 0] rvV (X11_ranksNow) :=
  MC.of (own := RX11) (by decide +kernel) rfl (Nat.le_of_ble_eq_true rfl) fun X yd A h _ C =>
    aw_aload_n (pc := 0) C (i := 0) dX11_ranksNow_0 rfl rfl <|
    aw_iconst (pc := 1) C (v := 0) dX11_ranksNow_1 rfl <|
    aw_aload_n (pc := 2) C (i := 0) dX11_ranksNow_2 rfl rfl <|
    aw_getI (pc := 3) C dX11_ranksNow_3 fl_X11_147 sR_0 rfl <|
    aw_callF (pc := 6) C (cr_V (rest := []) (F := (X11_findBest 0 (h.1 0 16))) C (c_X11_findBest X.2.1 0 (h.1 0 16)) dX11_ranksNow_6 mf_X11_findBest ml_X11_213 im_X11_findBest se_X11_findBest sR_0 rfl ⟨(Nat.le_of_ble_eq_true rfl), (Nat.le_of_ble_eq_true rfl)⟩ rfl rfl (Nat.le_of_ble_eq_true rfl)) rfl rfl rfl (Nat.zero_le _) (Nat.zero_le _) fun _ h2 =>
    aw_aload_n (pc := 9) C (i := 0) dX11_ranksNow_9 rfl rfl <|
    aw_callF (pc := 10) C (cr_V (rest := []) (F := X11_sorts) C (c_X11_sorts X.2.1 ) dX11_ranksNow_10 mf_X11_sorts ml_X11_268 im_X11_sorts se_X11_sorts sR_0 rfl ⟨(Nat.le_of_ble_eq_true rfl), (Nat.le_of_ble_eq_true rfl)⟩ rfl rfl (Nat.le_of_ble_eq_true rfl)) rfl rfl rfl (Nat.zero_le _) (Nat.zero_le _) fun _ h4 =>
    aw_vret (pc := 13) C dX11_ranksNow_13 rfl rfl

abbrev rmX11_roundNow : Room := { frames := 5, cells := 0, slots := 0, locals := 110 }
def X11_roundNow  (h : AH) : Option (Int32 × AH) :=
    bd (X11_turnNow h) fun r1 h2 =>
    if 0 ≤ r1 then (if (3 * (h2.1 0 15)) ≤ (h2.1 0 16) then (bd (X11_finalists h2) fun r3 h4 =>
    if r3 = 0 then none else (some ((3 + (((h2.1 0 16) - (3 * (h2.1 0 15))) / r3)), h4)))
    else (if (h2.1 0 15) = 0 then none else (some (((h2.1 0 16) / (h2.1 0 15)), h2))))
    else (some (6, h2))
set_option maxRecDepth 100000 in
theorem c_X11_roundNow (l : Launch)  : MC l yX11_roundNow cX11_roundNow 1 (some .int) rmX11_roundNow ZR [.ref 0] rvI (X11_roundNow) :=
  MC.of (own := RX11) (by decide +kernel) rfl (Nat.le_of_ble_eq_true rfl) fun X yd A h _ C =>
    aw_aload_n (pc := 0) C (i := 0) dX11_roundNow_0 rfl rfl <|
    aw_callF (pc := 1) C (cr_V (rest := []) (F := X11_turnNow) C (c_X11_turnNow X.2.1 ) dX11_roundNow_1 mf_X11_turnNow ml_X11_150 im_X11_turnNow se_X11_turnNow sR_0 rfl ⟨(Nat.le_of_ble_eq_true rfl), (Nat.le_of_ble_eq_true rfl)⟩ rfl rfl (Nat.le_of_ble_eq_true rfl)) rfl rfl rfl (Nat.zero_le _) (Nat.zero_le _) fun r1 h2 =>
    aw_if_ge (pc := 4) C (tgt := 10) dX11_roundNow_4 rfl (fun _ =>
    aw_aload_n (pc := 10) C (i := 0) dX11_roundNow_10 rfl rfl <|
    aw_getI (pc := 11) C dX11_roundNow_11 fl_X11_147 sR_0 rfl <|
    aw_iconst (pc := 14) C (v := 3) dX11_roundNow_14 rfl <|
    aw_aload_n (pc := 15) C (i := 0) dX11_roundNow_15 rfl rfl <|
    aw_getI (pc := 16) C dX11_roundNow_16 fl_X11_105 sR_0 rfl <|
    aw_imul (pc := 19) C dX11_roundNow_19 <|
    aw_icmp_ge (pc := 20) C (tgt := 35) dX11_roundNow_20 rfl (fun _ =>
    aw_iconst (pc := 35) C (v := 3) dX11_roundNow_35 rfl <|
    aw_aload_n (pc := 36) C (i := 0) dX11_roundNow_36 rfl rfl <|
    aw_getI (pc := 37) C dX11_roundNow_37 fl_X11_147 sR_0 rfl <|
    aw_iconst (pc := 40) C (v := 3) dX11_roundNow_40 rfl <|
    aw_aload_n (pc := 41) C (i := 0) dX11_roundNow_41 rfl rfl <|
    aw_getI (pc := 42) C dX11_roundNow_42 fl_X11_105 sR_0 rfl <|
    aw_imul (pc := 45) C dX11_roundNow_45 <|
    aw_isub (pc := 46) C dX11_roundNow_46 <|
    aw_aload_n (pc := 47) C (i := 0) dX11_roundNow_47 rfl rfl <|
    aw_callF (pc := 48) C (cr_V (rest := [.int ((h2.1 0 16) - (3 * (h2.1 0 15))), .int 3]) (F := X11_finalists) C (c_X11_finalists X.2.1 ) dX11_roundNow_48 mf_X11_finalists ml_X11_271 im_X11_finalists se_X11_finalists sR_0 rfl ⟨(Nat.le_of_ble_eq_true rfl), (Nat.le_of_ble_eq_true rfl)⟩ rfl rfl (Nat.le_of_ble_eq_true rfl)) rfl rfl rfl (Nat.zero_le _) (Nat.zero_le _) fun r3 h4 =>
    aw_idiv (pc := 51) C dX11_roundNow_51 <|
    aw_iadd (pc := 52) C dX11_roundNow_52 <|
    aw_iret (pc := 53) C dX11_roundNow_53 rfl rfl) (fun _ =>
    aw_aload_n (pc := 23) C (i := 0) dX11_roundNow_23 rfl rfl <|
    aw_getI (pc := 24) C dX11_roundNow_24 fl_X11_147 sR_0 rfl <|
    aw_aload_n (pc := 27) C (i := 0) dX11_roundNow_27 rfl rfl <|
    aw_getI (pc := 28) C dX11_roundNow_28 fl_X11_105 sR_0 rfl <|
    aw_idiv (pc := 31) C dX11_roundNow_31 <|
    aw_goto (pc := 32) C (tgt := 53) dX11_roundNow_32 rfl <|
    aw_iret (pc := 53) C dX11_roundNow_53 rfl rfl)) (fun _ =>
    aw_bipush (pc := 7) C (v := 6) dX11_roundNow_7 rfl <|
    aw_iret (pc := 9) C dX11_roundNow_9 rfl rfl)

abbrev rmX11_turn : Room := { frames := 5, cells := 0, slots := 0, locals := 110 }
def X11_turn  (h : AH) : Option (Int32 × AH) :=
    bd (X11_turnNow h) fun r1 h2 =>
    some (r1, h2)
set_option maxRecDepth 100000 in
theorem c_X11_turn (l : Launch)  : MC l yX11_turn cX11_turn 1 (some .int) rmX11_turn ZR [.ref 0] rvI (X11_turn) :=
  MC.of (own := RX11) (by decide +kernel) rfl (Nat.le_of_ble_eq_true rfl) fun X yd A h _ C =>
    aw_aload_n (pc := 0) C (i := 0) dX11_turn_0 rfl rfl <|
    aw_callF (pc := 1) C (cr_V (rest := []) (F := X11_turnNow) C (c_X11_turnNow X.2.1 ) dX11_turn_1 mf_X11_turnNow ml_X11_150 im_X11_turnNow se_X11_turnNow sR_0 rfl ⟨(Nat.le_of_ble_eq_true rfl), (Nat.le_of_ble_eq_true rfl)⟩ rfl rfl (Nat.le_of_ble_eq_true rfl)) rfl rfl rfl (Nat.zero_le _) (Nat.zero_le _) fun r1 h2 =>
    aw_iret (pc := 4) C dX11_turn_4 rfl rfl

abbrev rmX11_jump : Room := { frames := 5, cells := 0, slots := 0, locals := 110 }
def X11_jump_j33  (v1 : Int32) (v2 : Int32) (s0 : Int32) (h : AH) : Option (Int32 × AH) :=
    if s0 = 0 then (bd (X11_lengthOf v1 v2 0 h) fun r7 h8 =>
    bd (X11_putsTry v1 r7 v2 h8) fun _ h10 =>
    ck ((h10.1 0 16) - 1) 24 (some ((h10.1 11 ((h10.1 0 16) - 1).toNatClampNeg), h10)))
    else (bd (X11_no s0 h) fun r11 h12 =>
    some (r11, h12))
set_option maxRecDepth 100000 in
theorem aX11_jump_j33 {X : MCx} {yd : Dyn} {A : Nat → Prop} (C : OK X cX11_jump RX11 4 (some .int) rmX11_jump A)  (v1 : Int32) (v2 : Int32) (s0 : Int32) (h : AH) : AW X 4 ZR yd A 0 0 (QF X rmX11_jump ZR yd rvI A) 33 [(0, .ref 0), (1, .int v1), (2, .int v2)] [.int s0] h (X11_jump_j33 v1 v2 s0 h) := by
    exact aw_istore_n (pc := 33) C (i := 3) (lv' := [(0, .ref 0), (1, .int v1), (2, .int v2), (3, .int s0)]) dX11_jump_33 rfl (by decide) rfl <|
    aw_iload_n (pc := 34) C (i := 3) dX11_jump_34 rfl rfl <|
    aw_if_eq (pc := 35) C (tgt := 44) dX11_jump_35 rfl (fun _ =>
    aw_aload_n (pc := 44) C (i := 0) dX11_jump_44 rfl rfl <|
    aw_iload_n (pc := 45) C (i := 1) dX11_jump_45 rfl rfl <|
    aw_aload_n (pc := 46) C (i := 0) dX11_jump_46 rfl rfl <|
    aw_iload_n (pc := 47) C (i := 1) dX11_jump_47 rfl rfl <|
    aw_iload_n (pc := 48) C (i := 2) dX11_jump_48 rfl rfl <|
    aw_iconst (pc := 49) C (v := 0) dX11_jump_49 rfl <|
    aw_callF (pc := 50) C (cr_V (rest := [.int v1, .ref 0]) (F := (X11_lengthOf v1 v2 0)) C (c_X11_lengthOf X.2.1 v1 v2 0) dX11_jump_50 mf_X11_lengthOf ml_X11_163 im_X11_lengthOf se_X11_lengthOf sR_0 rfl ⟨(Nat.le_of_ble_eq_true rfl), (Nat.le_of_ble_eq_true rfl)⟩ rfl rfl (Nat.le_of_ble_eq_true rfl)) rfl rfl rfl (Nat.zero_le _) (Nat.zero_le _) fun r7 h8 =>
    aw_iload_n (pc := 53) C (i := 2) dX11_jump_53 rfl rfl <|
    aw_callF (pc := 54) C (cr_V (rest := []) (F := (X11_putsTry v1 r7 v2)) C (c_X11_putsTry X.2.1 v1 r7 v2) dX11_jump_54 mf_X11_putsTry ml_X11_153 im_X11_putsTry se_X11_putsTry sR_0 rfl ⟨(Nat.le_of_ble_eq_true rfl), (Nat.le_of_ble_eq_true rfl)⟩ rfl rfl (Nat.le_of_ble_eq_true rfl)) rfl rfl rfl (Nat.zero_le _) (Nat.zero_le _) fun _ h10 =>
    aw_aload_n (pc := 57) C (i := 0) dX11_jump_57 rfl rfl <|
    aw_getR (pc := 58) C (b := 11) dX11_jump_58 fl_X11_40 sR_0 rfl rR_0_10 <|
    aw_aload_n (pc := 61) C (i := 0) dX11_jump_61 rfl rfl <|
    aw_getI (pc := 62) C dX11_jump_62 fl_X11_147 sR_0 rfl <|
    aw_iconst (pc := 65) C (v := 1) dX11_jump_65 rfl <|
    aw_isub (pc := 66) C dX11_jump_66 <|
    aw_iald (pc := 67) C dX11_jump_67 sR_11 rfl <|
    aw_iret (pc := 68) C dX11_jump_68 rfl rfl) (fun _ =>
    aw_aload_n (pc := 38) C (i := 0) dX11_jump_38 rfl rfl <|
    aw_iload_n (pc := 39) C (i := 3) dX11_jump_39 rfl rfl <|
    aw_callF (pc := 40) C (cr_V (rest := []) (F := (X11_no s0)) C (c_X11_no X.2.1 s0) dX11_jump_40 mf_X11_no ml_X11_115 im_X11_no se_X11_no sR_0 rfl ⟨(Nat.le_of_ble_eq_true rfl), (Nat.le_of_ble_eq_true rfl)⟩ rfl rfl (Nat.le_of_ble_eq_true rfl)) rfl rfl rfl (Nat.zero_le _) (Nat.zero_le _) fun r11 h12 =>
    aw_iret (pc := 43) C dX11_jump_43 rfl rfl)
def X11_jump (v1 : Int32) (v2 : Int32) (h : AH) : Option (Int32 × AH) :=
    bd (X11_isJumper v1 h) fun r1 h2 =>
    if r1 = 0 then (X11_jump_j33 v1 v2 (-1) h2)
    else (bd (X11_turnNow h2) fun r3 h4 =>
    if r3 = v1 then (bd (X11_bound v2 0 300 h4) fun r5 h6 =>
    X11_jump_j33 v1 v2 r5 h6)
    else (X11_jump_j33 v1 v2 (-3) h4))
set_option maxRecDepth 100000 in
theorem c_X11_jump (l : Launch) (v1 : Int32) (v2 : Int32) : MC l yX11_jump cX11_jump 4 (some .int) rmX11_jump ZR [.ref 0, .int v1, .int v2] rvI (X11_jump v1 v2) :=
  MC.of (own := RX11) (by decide +kernel) rfl (Nat.le_of_ble_eq_true rfl) fun X yd A h _ C =>
    aw_aload_n (pc := 0) C (i := 0) dX11_jump_0 rfl rfl <|
    aw_iload_n (pc := 1) C (i := 1) dX11_jump_1 rfl rfl <|
    aw_callF (pc := 2) C (cr_V (rest := []) (F := (X11_isJumper v1)) C (c_X11_isJumper X.2.1 v1) dX11_jump_2 mf_X11_isJumper ml_X11_207 im_X11_isJumper se_X11_isJumper sR_0 rfl ⟨(Nat.le_of_ble_eq_true rfl), (Nat.le_of_ble_eq_true rfl)⟩ rfl rfl (Nat.le_of_ble_eq_true rfl)) rfl rfl rfl (Nat.zero_le _) (Nat.zero_le _) fun r1 h2 =>
    aw_if_ne (pc := 5) C (tgt := 12) dX11_jump_5 rfl (fun _ =>
    aw_iconst (pc := 8) C (v := (-1)) dX11_jump_8 rfl <|
    aw_goto (pc := 9) C (tgt := 33) dX11_jump_9 rfl <|
    (aX11_jump_j33 C v1 v2 (-1) h2)) (fun _ =>
    aw_aload_n (pc := 12) C (i := 0) dX11_jump_12 rfl rfl <|
    aw_callF (pc := 13) C (cr_V (rest := []) (F := X11_turnNow) C (c_X11_turnNow X.2.1 ) dX11_jump_13 mf_X11_turnNow ml_X11_150 im_X11_turnNow se_X11_turnNow sR_0 rfl ⟨(Nat.le_of_ble_eq_true rfl), (Nat.le_of_ble_eq_true rfl)⟩ rfl rfl (Nat.le_of_ble_eq_true rfl)) rfl rfl rfl (Nat.zero_le _) (Nat.zero_le _) fun r3 h4 =>
    aw_iload_n (pc := 16) C (i := 1) dX11_jump_16 rfl rfl <|
    aw_icmp_eq (pc := 17) C (tgt := 25) dX11_jump_17 rfl (fun _ =>
    aw_iload_n (pc := 25) C (i := 2) dX11_jump_25 rfl rfl <|
    aw_iconst (pc := 26) C (v := 0) dX11_jump_26 rfl <|
    aw_sipush (pc := 27) C (v := 300) dX11_jump_27 rfl <|
    aw_callF (pc := 30) C (cr_S (rest := []) (F := (X11_bound v2 0 300)) C (c_X11_bound X.2.1 v2 0 300) dX11_jump_30 mf_X11_bound ml_X11_108 st_X11_bound ⟨(Nat.le_of_ble_eq_true rfl), (Nat.le_of_ble_eq_true rfl)⟩ rfl rfl (Nat.le_of_ble_eq_true rfl)) rfl rfl rfl (Nat.zero_le _) (Nat.zero_le _) fun r5 h6 =>
    (aX11_jump_j33 C v1 v2 r5 h6)) (fun _ =>
    aw_bipush (pc := 20) C (v := (-3)) dX11_jump_20 rfl <|
    aw_goto (pc := 22) C (tgt := 33) dX11_jump_22 rfl <|
    (aX11_jump_j33 C v1 v2 (-3) h4)))

abbrev rmX11_none : Room := { frames := 5, cells := 0, slots := 0, locals := 110 }
def X11_none_j64  (v1 : Int32) (s0 : Int32) (s1 : Int32) (h : AH) : Option (Int32 × AH) :=
    bd (X11_putsTry s1 s0 0 h) fun _ h8 =>
    bd (X11_triesOf v1 h8) fun r9 h10 =>
    some (r9, h10)
set_option maxRecDepth 100000 in
theorem aX11_none_j64 {X : MCx} {yd : Dyn} {A : Nat → Prop} (C : OK X cX11_none RX11 4 (some .int) rmX11_none A)  (v1 : Int32) (s0 : Int32) (s1 : Int32) (h : AH) : AW X 4 ZR yd A 0 0 (QF X rmX11_none ZR yd rvI A) 64 [(0, .ref 0), (1, .int v1)] [.int s0, .int s1, .ref 0] h (X11_none_j64 v1 s0 s1 h) := by
    exact aw_iconst (pc := 64) C (v := 0) dX11_none_64 rfl <|
    aw_callF (pc := 65) C (cr_V (rest := []) (F := (X11_putsTry s1 s0 0)) C (c_X11_putsTry X.2.1 s1 s0 0) dX11_none_65 mf_X11_putsTry ml_X11_153 im_X11_putsTry se_X11_putsTry sR_0 rfl ⟨(Nat.le_of_ble_eq_true rfl), (Nat.le_of_ble_eq_true rfl)⟩ rfl rfl (Nat.le_of_ble_eq_true rfl)) rfl rfl rfl (Nat.zero_le _) (Nat.zero_le _) fun _ h8 =>
    aw_aload_n (pc := 68) C (i := 0) dX11_none_68 rfl rfl <|
    aw_iload_n (pc := 69) C (i := 1) dX11_none_69 rfl rfl <|
    aw_callF (pc := 70) C (cr_V (rest := []) (F := (X11_triesOf v1)) C (c_X11_triesOf X.2.1 v1) dX11_none_70 mf_X11_triesOf ml_X11_217 im_X11_triesOf se_X11_triesOf sR_0 rfl ⟨(Nat.le_of_ble_eq_true rfl), (Nat.le_of_ble_eq_true rfl)⟩ rfl rfl (Nat.le_of_ble_eq_true rfl)) rfl rfl rfl (Nat.zero_le _) (Nat.zero_le _) fun r9 h10 =>
    aw_iret (pc := 73) C dX11_none_73 rfl rfl
def X11_none_j40  (v1 : Int32) (v2 : Int32) (s0 : Int32) (h : AH) : Option (Int32 × AH) :=
    if s0 = 0 then (if v2 = 0 then (X11_none_j64 v1 (-9) v1 h)
    else (X11_none_j64 v1 (-8) v1 h))
    else (bd (X11_no s0 h) fun r11 h12 =>
    some (r11, h12))
set_option maxRecDepth 100000 in
theorem aX11_none_j40 {X : MCx} {yd : Dyn} {A : Nat → Prop} (C : OK X cX11_none RX11 4 (some .int) rmX11_none A)  (v1 : Int32) (v2 : Int32) (s0 : Int32) (h : AH) : AW X 4 ZR yd A 0 0 (QF X rmX11_none ZR yd rvI A) 40 [(0, .ref 0), (1, .int v1), (2, .int v2)] [.int s0] h (X11_none_j40 v1 v2 s0 h) := by
    exact aw_istore_n (pc := 40) C (i := 3) (lv' := [(0, .ref 0), (1, .int v1), (2, .int v2), (3, .int s0)]) dX11_none_40 rfl (by decide) rfl <|
    aw_iload_n (pc := 41) C (i := 3) dX11_none_41 rfl rfl <|
    aw_if_eq (pc := 42) C (tgt := 51) dX11_none_42 rfl (fun _ =>
    aw_aload_n (pc := 51) C (i := 0) dX11_none_51 rfl rfl <|
    aw_iload_n (pc := 52) C (i := 1) dX11_none_52 rfl rfl <|
    aw_iload_n (pc := 53) C (i := 2) dX11_none_53 rfl rfl <|
    aw_if_ne (pc := 54) C (tgt := 62) dX11_none_54 rfl (fun _ =>
    aw_bipush (pc := 57) C (v := (-9)) dX11_none_57 rfl <|
    aw_goto (pc := 59) C (tgt := 64) dX11_none_59 rfl <|
    aw_drop [0, 1] (aX11_none_j64 C v1 (-9) v1 h)) (fun _ =>
    aw_bipush (pc := 62) C (v := (-8)) dX11_none_62 rfl <|
    aw_drop [0, 1] (aX11_none_j64 C v1 (-8) v1 h))) (fun _ =>
    aw_aload_n (pc := 45) C (i := 0) dX11_none_45 rfl rfl <|
    aw_iload_n (pc := 46) C (i := 3) dX11_none_46 rfl rfl <|
    aw_callF (pc := 47) C (cr_V (rest := []) (F := (X11_no s0)) C (c_X11_no X.2.1 s0) dX11_none_47 mf_X11_no ml_X11_115 im_X11_no se_X11_no sR_0 rfl ⟨(Nat.le_of_ble_eq_true rfl), (Nat.le_of_ble_eq_true rfl)⟩ rfl rfl (Nat.le_of_ble_eq_true rfl)) rfl rfl rfl (Nat.zero_le _) (Nat.zero_le _) fun r11 h12 =>
    aw_iret (pc := 50) C dX11_none_50 rfl rfl)
def X11_none (v1 : Int32) (v2 : Int32) (h : AH) : Option (Int32 × AH) :=
    bd (X11_isJumper v1 h) fun r1 h2 =>
    if r1 = 0 then (X11_none_j40 v1 v2 (-1) h2)
    else (bd (X11_isIn v2 0 1 h2) fun r3 h4 =>
    if r3 = 0 then (X11_none_j40 v1 v2 (-2) h4)
    else (bd (X11_turnNow h4) fun r5 h6 =>
    if r5 = v1 then (X11_none_j40 v1 v2 0 h6)
    else (X11_none_j40 v1 v2 (-3) h6)))
set_option maxRecDepth 100000 in
theorem c_X11_none (l : Launch) (v1 : Int32) (v2 : Int32) : MC l yX11_none cX11_none 4 (some .int) rmX11_none ZR [.ref 0, .int v1, .int v2] rvI (X11_none v1 v2) :=
  MC.of (own := RX11) (by decide +kernel) rfl (Nat.le_of_ble_eq_true rfl) fun X yd A h _ C =>
    aw_aload_n (pc := 0) C (i := 0) dX11_none_0 rfl rfl <|
    aw_iload_n (pc := 1) C (i := 1) dX11_none_1 rfl rfl <|
    aw_callF (pc := 2) C (cr_V (rest := []) (F := (X11_isJumper v1)) C (c_X11_isJumper X.2.1 v1) dX11_none_2 mf_X11_isJumper ml_X11_207 im_X11_isJumper se_X11_isJumper sR_0 rfl ⟨(Nat.le_of_ble_eq_true rfl), (Nat.le_of_ble_eq_true rfl)⟩ rfl rfl (Nat.le_of_ble_eq_true rfl)) rfl rfl rfl (Nat.zero_le _) (Nat.zero_le _) fun r1 h2 =>
    aw_if_ne (pc := 5) C (tgt := 12) dX11_none_5 rfl (fun _ =>
    aw_iconst (pc := 8) C (v := (-1)) dX11_none_8 rfl <|
    aw_goto (pc := 9) C (tgt := 40) dX11_none_9 rfl <|
    (aX11_none_j40 C v1 v2 (-1) h2)) (fun _ =>
    aw_iload_n (pc := 12) C (i := 2) dX11_none_12 rfl rfl <|
    aw_iconst (pc := 13) C (v := 0) dX11_none_13 rfl <|
    aw_iconst (pc := 14) C (v := 1) dX11_none_14 rfl <|
    aw_callF (pc := 15) C (cr_S (rest := []) (F := (X11_isIn v2 0 1)) C (c_X11_isIn X.2.1 v2 0 1) dX11_none_15 mf_X11_isIn ml_X11_126 st_X11_isIn ⟨(Nat.le_of_ble_eq_true rfl), (Nat.le_of_ble_eq_true rfl)⟩ rfl rfl (Nat.le_of_ble_eq_true rfl)) rfl rfl rfl (Nat.zero_le _) (Nat.zero_le _) fun r3 h4 =>
    aw_if_ne (pc := 18) C (tgt := 26) dX11_none_18 rfl (fun _ =>
    aw_bipush (pc := 21) C (v := (-2)) dX11_none_21 rfl <|
    aw_goto (pc := 23) C (tgt := 40) dX11_none_23 rfl <|
    (aX11_none_j40 C v1 v2 (-2) h4)) (fun _ =>
    aw_aload_n (pc := 26) C (i := 0) dX11_none_26 rfl rfl <|
    aw_callF (pc := 27) C (cr_V (rest := []) (F := X11_turnNow) C (c_X11_turnNow X.2.1 ) dX11_none_27 mf_X11_turnNow ml_X11_150 im_X11_turnNow se_X11_turnNow sR_0 rfl ⟨(Nat.le_of_ble_eq_true rfl), (Nat.le_of_ble_eq_true rfl)⟩ rfl rfl (Nat.le_of_ble_eq_true rfl)) rfl rfl rfl (Nat.zero_le _) (Nat.zero_le _) fun r5 h6 =>
    aw_iload_n (pc := 30) C (i := 1) dX11_none_30 rfl rfl <|
    aw_icmp_eq (pc := 31) C (tgt := 39) dX11_none_31 rfl (fun _ =>
    aw_iconst (pc := 39) C (v := 0) dX11_none_39 rfl <|
    (aX11_none_j40 C v1 v2 0 h6)) (fun _ =>
    aw_bipush (pc := 34) C (v := (-3)) dX11_none_34 rfl <|
    aw_goto (pc := 36) C (tgt := 40) dX11_none_36 rfl <|
    (aX11_none_j40 C v1 v2 (-3) h6))))

abbrev rmX11_undo : Room := { frames := 1, cells := 0, slots := 0, locals := 21 }
def X11_undo  (h : AH) : Option (Int32 × AH) :=
    if (h.1 0 16) = 0 then (bd (X11_no (-3) h) fun r2 h3 =>
    some (r2, h3))
    else (vl (sI h 0 16 ((h.1 0 16) - 1)) fun h1 =>
    ck (h1.1 0 16) 24 (some ((h1.1 10 (h1.1 0 16).toNatClampNeg), h1)))
set_option maxRecDepth 100000 in
theorem c_X11_undo (l : Launch)  : MC l yX11_undo cX11_undo 1 (some .int) rmX11_undo ZR [.ref 0] rvI (X11_undo) :=
  MC.of (own := RX11) (by decide +kernel) rfl (Nat.le_of_ble_eq_true rfl) fun X yd A h _ C =>
    aw_aload_n (pc := 0) C (i := 0) dX11_undo_0 rfl rfl <|
    aw_getI (pc := 1) C dX11_undo_1 fl_X11_147 sR_0 rfl <|
    aw_if_ne (pc := 4) C (tgt := 14) dX11_undo_4 rfl (fun _ =>
    aw_aload_n (pc := 7) C (i := 0) dX11_undo_7 rfl rfl <|
    aw_bipush (pc := 8) C (v := (-3)) dX11_undo_8 rfl <|
    aw_callF (pc := 10) C (cr_V (rest := []) (F := (X11_no (-3))) C (c_X11_no X.2.1 (-3)) dX11_undo_10 mf_X11_no ml_X11_115 im_X11_no se_X11_no sR_0 rfl ⟨(Nat.le_of_ble_eq_true rfl), (Nat.le_of_ble_eq_true rfl)⟩ rfl rfl (Nat.le_of_ble_eq_true rfl)) rfl rfl rfl (Nat.zero_le _) (Nat.zero_le _) fun r2 h3 =>
    aw_iret (pc := 13) C dX11_undo_13 rfl rfl) (fun _ =>
    aw_aload_n (pc := 14) C (i := 0) dX11_undo_14 rfl rfl <|
    aw_dup (pc := 15) C dX11_undo_15 rfl <|
    aw_getI (pc := 16) C dX11_undo_16 fl_X11_147 sR_0 rfl <|
    aw_iconst (pc := 19) C (v := 1) dX11_undo_19 rfl <|
    aw_isub (pc := 20) C dX11_undo_20 <|
    aw_putI (pc := 21) C dX11_undo_21 fp_X11_147 sR_0 rfl fun h1 =>
    aw_aload_n (pc := 24) C (i := 0) dX11_undo_24 rfl rfl <|
    aw_getR (pc := 25) C (b := 10) dX11_undo_25 fl_X11_37 sR_0 rfl rR_0_9 <|
    aw_aload_n (pc := 28) C (i := 0) dX11_undo_28 rfl rfl <|
    aw_getI (pc := 29) C dX11_undo_29 fl_X11_147 sR_0 rfl <|
    aw_iald (pc := 32) C dX11_undo_32 sR_10 rfl <|
    aw_iret (pc := 33) C dX11_undo_33 rfl rfl)

abbrev rmX11_tried : Room := { frames := 1, cells := 0, slots := 0, locals := 23 }
def X11_tried_j21  (h : AH) : Option (Int32 × AH) :=
    bd (X11_no (-1) h) fun r3 h4 =>
    some (r3, h4)
set_option maxRecDepth 100000 in
theorem aX11_tried_j21 {X : MCx} {yd : Dyn} {A : Nat → Prop} (C : OK X cX11_tried RX11 5 (some .int) rmX11_tried A)  (h : AH) : AW X 5 ZR yd A 0 0 (QF X rmX11_tried ZR yd rvI A) 21 [(0, .ref 0)] [] h (X11_tried_j21 h) := by
    exact aw_aload_n (pc := 21) C (i := 0) dX11_tried_21 rfl rfl <|
    aw_iconst (pc := 22) C (v := (-1)) dX11_tried_22 rfl <|
    aw_callF (pc := 23) C (cr_V (rest := []) (F := (X11_no (-1))) C (c_X11_no X.2.1 (-1)) dX11_tried_23 mf_X11_no ml_X11_115 im_X11_no se_X11_no sR_0 rfl ⟨(Nat.le_of_ble_eq_true rfl), (Nat.le_of_ble_eq_true rfl)⟩ rfl rfl (Nat.le_of_ble_eq_true rfl)) rfl rfl rfl (Nat.zero_le _) (Nat.zero_le _) fun r3 h4 =>
    aw_iret (pc := 26) C dX11_tried_26 rfl rfl
def X11_tried_j70  (v1 : Int32) (v3 : Int32) (v4 : Int32) (K32 : Int32 → Int32 → AH → Option (Int32 × AH)) (h : AH) : Option (Int32 × AH) :=
    vl (v4 + 1) fun x8 =>
    K32 v3 x8 h
set_option maxRecDepth 100000 in
theorem aX11_tried_j70 {X : MCx} {yd : Dyn} {A : Nat → Prop} (C : OK X cX11_tried RX11 5 (some .int) rmX11_tried A)  (v1 : Int32) (v3 : Int32) (v4 : Int32) (K32 : Int32 → Int32 → AH → Option (Int32 × AH)) (hK32 : ∀ (w3 : Int32) (w4 : Int32) (h : AH), AW X 5 ZR yd A 0 0 (QF X rmX11_tried ZR yd rvI A) 32 [(0, .ref 0), (1, .int v1), (3, .int w3), (4, .int w4)] [] h (K32 w3 w4 h)) (h : AH) : AW X 5 ZR yd A 0 0 (QF X rmX11_tried ZR yd rvI A) 70 [(0, .ref 0), (1, .int v1), (3, .int v3), (4, .int v4)] [] h (X11_tried_j70 v1 v3 v4 K32 h) := by
    exact aw_iincV (pc := 70) C (i := 4) (cst := 1) (fun x8 => [(0, .ref 0), (1, .int v1), (3, .int v3), (4, .int x8)]) dX11_tried_70 rfl rfl (by decide) (fun _ => rfl) fun x8 =>
    aw_goto (pc := 73) C (tgt := 32) dX11_tried_73 rfl <|
    (hK32 v3 x8 h)
def X11_tried_l32  (v1 : Int32) : Nat → Int32 → Int32 → AH → Option (Int32 × AH)
  | 0, _, _, _ => none
  | n + 1, v3, v4, h =>
    if (h.1 0 16) ≤ v4 then (some ((-9), h))
    else (ck v4 24 (if (h.1 10 v4.toNatClampNeg) = v1 then (if v3 = 0 then (ck v4 24 (some ((h.1 11 v4.toNatClampNeg), h)))
    else (vl (v3 + (-1)) fun x7 =>
    X11_tried_j70 v1 x7 v4 (X11_tried_l32 v1 n) h))
    else (X11_tried_j70 v1 v3 v4 (X11_tried_l32 v1 n) h)))
set_option maxRecDepth 100000 in
theorem aX11_tried_l32 {X : MCx} {yd : Dyn} {A : Nat → Prop} (C : OK X cX11_tried RX11 5 (some .int) rmX11_tried A)  (v1 : Int32) : ∀ (n : Nat) (v3 : Int32) (v4 : Int32) (h : AH), AW X 5 ZR yd A 0 0 (QF X rmX11_tried ZR yd rvI A) 32 [(0, .ref 0), (1, .int v1), (3, .int v3), (4, .int v4)] [] h (X11_tried_l32 v1 n v3 v4 h) := by
  intro n
  induction n with
  | zero => intro v3 v4 h; exact aw_none
  | succ n ih =>
    intro v3 v4 h
    exact aw_iload (pc := 32) C (i := 4) dX11_tried_32 rfl <|
    aw_aload_n (pc := 34) C (i := 0) dX11_tried_34 rfl rfl <|
    aw_getI (pc := 35) C dX11_tried_35 fl_X11_147 sR_0 rfl <|
    aw_icmp_ge (pc := 38) C (tgt := 76) dX11_tried_38 rfl (fun _ =>
    aw_bipush (pc := 76) C (v := (-9)) dX11_tried_76 rfl <|
    aw_iret (pc := 78) C dX11_tried_78 rfl rfl) (fun _ =>
    aw_aload_n (pc := 41) C (i := 0) dX11_tried_41 rfl rfl <|
    aw_getR (pc := 42) C (b := 10) dX11_tried_42 fl_X11_37 sR_0 rfl rR_0_9 <|
    aw_iload (pc := 45) C (i := 4) dX11_tried_45 rfl <|
    aw_iald (pc := 47) C dX11_tried_47 sR_10 rfl <|
    aw_iload_n (pc := 48) C (i := 1) dX11_tried_48 rfl rfl <|
    aw_icmp_eq (pc := 49) C (tgt := 55) dX11_tried_49 rfl (fun _ =>
    aw_iload_n (pc := 55) C (i := 3) dX11_tried_55 rfl rfl <|
    aw_if_ne (pc := 56) C (tgt := 67) dX11_tried_56 rfl (fun _ =>
    aw_aload_n (pc := 59) C (i := 0) dX11_tried_59 rfl rfl <|
    aw_getR (pc := 60) C (b := 11) dX11_tried_60 fl_X11_40 sR_0 rfl rR_0_10 <|
    aw_iload (pc := 63) C (i := 4) dX11_tried_63 rfl <|
    aw_iald (pc := 65) C dX11_tried_65 sR_11 rfl <|
    aw_iret (pc := 66) C dX11_tried_66 rfl rfl) (fun _ =>
    aw_iincV (pc := 67) C (i := 3) (cst := (-1)) (fun x7 => [(0, .ref 0), (1, .int v1), (3, .int x7), (4, .int v4)]) dX11_tried_67 rfl rfl (by decide) (fun _ => rfl) fun x7 =>
    (aX11_tried_j70 C v1 x7 v4 (X11_tried_l32 v1 n) ih h))) (fun _ =>
    aw_goto (pc := 52) C (tgt := 70) dX11_tried_52 rfl <|
    (aX11_tried_j70 C v1 v3 v4 (X11_tried_l32 v1 n) ih h)))
def X11_tried (v1 : Int32) (v2 : Int32) (h : AH) : Option (Int32 × AH) :=
    bd (X11_isJumper v1 h) fun r1 h2 =>
    if r1 = 0 then (X11_tried_j21 h2)
    else (if v2 < 0 then (X11_tried_j21 h2)
    else (bd (X11_triesOf v1 h2) fun r5 h6 =>
    if v2 < r5 then (X11_tried_l32 v1 FU v2 0 h6)
    else (X11_tried_j21 h6)))
set_option maxRecDepth 100000 in
theorem c_X11_tried (l : Launch) (v1 : Int32) (v2 : Int32) : MC l yX11_tried cX11_tried 5 (some .int) rmX11_tried ZR [.ref 0, .int v1, .int v2] rvI (X11_tried v1 v2) :=
  MC.of (own := RX11) (by decide +kernel) rfl (Nat.le_of_ble_eq_true rfl) fun X yd A h _ C =>
    aw_aload_n (pc := 0) C (i := 0) dX11_tried_0 rfl rfl <|
    aw_iload_n (pc := 1) C (i := 1) dX11_tried_1 rfl rfl <|
    aw_callF (pc := 2) C (cr_V (rest := []) (F := (X11_isJumper v1)) C (c_X11_isJumper X.2.1 v1) dX11_tried_2 mf_X11_isJumper ml_X11_207 im_X11_isJumper se_X11_isJumper sR_0 rfl ⟨(Nat.le_of_ble_eq_true rfl), (Nat.le_of_ble_eq_true rfl)⟩ rfl rfl (Nat.le_of_ble_eq_true rfl)) rfl rfl rfl (Nat.zero_le _) (Nat.zero_le _) fun r1 h2 =>
    aw_if_eq (pc := 5) C (tgt := 21) dX11_tried_5 rfl (fun _ =>
    aw_drop [0] (aX11_tried_j21 C h2)) (fun _ =>
    aw_iload_n (pc := 8) C (i := 2) dX11_tried_8 rfl rfl <|
    aw_if_lt (pc := 9) C (tgt := 21) dX11_tried_9 rfl (fun _ =>
    aw_drop [0] (aX11_tried_j21 C h2)) (fun _ =>
    aw_iload_n (pc := 12) C (i := 2) dX11_tried_12 rfl rfl <|
    aw_aload_n (pc := 13) C (i := 0) dX11_tried_13 rfl rfl <|
    aw_iload_n (pc := 14) C (i := 1) dX11_tried_14 rfl rfl <|
    aw_callF (pc := 15) C (cr_V (rest := [.int v2]) (F := (X11_triesOf v1)) C (c_X11_triesOf X.2.1 v1) dX11_tried_15 mf_X11_triesOf ml_X11_217 im_X11_triesOf se_X11_triesOf sR_0 rfl ⟨(Nat.le_of_ble_eq_true rfl), (Nat.le_of_ble_eq_true rfl)⟩ rfl rfl (Nat.le_of_ble_eq_true rfl)) rfl rfl rfl (Nat.zero_le _) (Nat.zero_le _) fun r5 h6 =>
    aw_icmp_lt (pc := 18) C (tgt := 27) dX11_tried_18 rfl (fun _ =>
    aw_iload_n (pc := 27) C (i := 2) dX11_tried_27 rfl rfl <|
    aw_istore_n (pc := 28) C (i := 3) (lv' := [(0, .ref 0), (1, .int v1), (2, .int v2), (3, .int v2)]) dX11_tried_28 rfl (by decide) rfl <|
    aw_iconst (pc := 29) C (v := 0) dX11_tried_29 rfl <|
    aw_istore (pc := 30) C (i := 4) (lv' := [(0, .ref 0), (1, .int v1), (2, .int v2), (3, .int v2), (4, .int 0)]) dX11_tried_30 (by decide) rfl <|
    aw_drop [0, 1, 3, 4] (aX11_tried_l32 C v1 FU v2 0 h6)) (fun _ =>
    aw_drop [0] (aX11_tried_j21 C h6))))

abbrev rmX11_rankOf : Room := { frames := 0, cells := 0, slots := 0, locals := 0 }
def X11_rankOf_l2  (v1 : Int32) : Nat → Int32 → AH → Option (Int32 × AH)
  | 0, _, _ => none
  | n + 1, v2, h =>
    if (h.1 0 15) ≤ v2 then (some ((-9), h))
    else (ck v2 4 (if (h.1 22 v2.toNatClampNeg) = v1 then (some (v2, h))
    else (vl (v2 + 1) fun x1 =>
    (X11_rankOf_l2 v1 n) x1 h)))
set_option maxRecDepth 100000 in
theorem aX11_rankOf_l2 {X : MCx} {yd : Dyn} {A : Nat → Prop} (C : OK X cX11_rankOf RX11 3 (some .int) rmX11_rankOf A)  (v1 : Int32) : ∀ (n : Nat) (v2 : Int32) (h : AH), AW X 3 ZR yd A 0 0 (QF X rmX11_rankOf ZR yd rvI A) 2 [(0, .ref 0), (1, .int v1), (2, .int v2)] [] h (X11_rankOf_l2 v1 n v2 h) := by
  intro n
  induction n with
  | zero => intro v2 h; exact aw_none
  | succ n ih =>
    intro v2 h
    exact aw_iload_n (pc := 2) C (i := 2) dX11_rankOf_2 rfl rfl <|
    aw_aload_n (pc := 3) C (i := 0) dX11_rankOf_3 rfl rfl <|
    aw_getI (pc := 4) C dX11_rankOf_4 fl_X11_105 sR_0 rfl <|
    aw_icmp_ge (pc := 7) C (tgt := 28) dX11_rankOf_7 rfl (fun _ =>
    aw_bipush (pc := 28) C (v := (-9)) dX11_rankOf_28 rfl <|
    aw_iret (pc := 30) C dX11_rankOf_30 rfl rfl) (fun _ =>
    aw_aload_n (pc := 10) C (i := 0) dX11_rankOf_10 rfl rfl <|
    aw_getR (pc := 11) C (b := 22) dX11_rankOf_11 fl_X11_74 sR_0 rfl rR_0_32 <|
    aw_iload_n (pc := 14) C (i := 2) dX11_rankOf_14 rfl rfl <|
    aw_iald (pc := 15) C dX11_rankOf_15 sR_22 rfl <|
    aw_iload_n (pc := 16) C (i := 1) dX11_rankOf_16 rfl rfl <|
    aw_icmp_ne (pc := 17) C (tgt := 22) dX11_rankOf_17 rfl (fun _ =>
    aw_iload_n (pc := 20) C (i := 2) dX11_rankOf_20 rfl rfl <|
    aw_iret (pc := 21) C dX11_rankOf_21 rfl rfl) (fun _ =>
    aw_iincV (pc := 22) C (i := 2) (cst := 1) (fun x1 => [(0, .ref 0), (1, .int v1), (2, .int x1)]) dX11_rankOf_22 rfl rfl (by decide) (fun _ => rfl) fun x1 =>
    aw_goto (pc := 25) C (tgt := 2) dX11_rankOf_25 rfl <|
    (ih x1 h)))
def X11_rankOf (v1 : Int32) (h : AH) : Option (Int32 × AH) :=
    X11_rankOf_l2 v1 FU 0 h
set_option maxRecDepth 100000 in
theorem c_X11_rankOf (l : Launch) (v1 : Int32) : MC l yX11_rankOf cX11_rankOf 3 (some .int) rmX11_rankOf ZR [.ref 0, .int v1] rvI (X11_rankOf v1) :=
  MC.of (own := RX11) (by decide +kernel) rfl (Nat.le_of_ble_eq_true rfl) fun X yd A h _ C =>
    aw_iconst (pc := 0) C (v := 0) dX11_rankOf_0 rfl <|
    aw_istore_n (pc := 1) C (i := 2) (lv' := [(0, .ref 0), (1, .int v1), (2, .int 0)]) dX11_rankOf_1 rfl (by decide) rfl <|
    (aX11_rankOf_l2 C v1 FU 0 h)
