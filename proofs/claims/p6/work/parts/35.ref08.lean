abbrev rmX11_fouled : Room := { frames := 2, cells := 0, slots := 0, locals := 53 }
def X11_fouled (v1 : Int32) (v2 : Int32) (h : AH) : Option (Int64 × AH) :=
    bd (X11_isJumper v1 h) fun r1 h2 =>
    if r1 = 0 then (bd (X11_lowest (-1) h2) fun r16 h17 =>
    some (r16, h17))
    else (bd (X11_isIn v2 0 1 h2) fun r3 h4 =>
    if r3 = 0 then (bd (X11_lowest (-2) h4) fun r14 h15 =>
    some (r14, h15))
    else (bd (X11_triesOf v1 h4) fun r5 h6 =>
    bd (X11_triesBy v1 (-8) h6) fun r7 h8 =>
    vl (r5 - r7) fun x9 =>
    if x9 = 0 then (some (v2.toInt64, h8))
    else (bd (X11_triesBy v1 (-9) h8) fun r10 h11 =>
    bd (X11_partOf r10.toInt64 x9.toInt64 v2 h11) fun r12 h13 =>
    some (r12, h13))))
set_option maxRecDepth 100000 in
theorem c_X11_fouled (l : Launch) (v1 : Int32) (v2 : Int32) : MC l yX11_fouled cX11_fouled 4 (some .long) rmX11_fouled ZR [.ref 0, .int v1, .int v2] rvL (X11_fouled v1 v2) :=
  MC.of (own := RX11) (by decide +kernel) rfl (Nat.le_of_ble_eq_true rfl) fun X yd A h _ C =>
    aw_aload_n (pc := 0) C (i := 0) dX11_fouled_0 rfl rfl <|
    aw_iload_n (pc := 1) C (i := 1) dX11_fouled_1 rfl rfl <|
    aw_callF (pc := 2) C (cr_V (rest := []) (F := (X11_isJumper v1)) C (c_X11_isJumper X.2.1 v1) dX11_fouled_2 mf_X11_isJumper ml_X11_207 im_X11_isJumper se_X11_isJumper sR_0 rfl ⟨(Nat.le_of_ble_eq_true rfl), (Nat.le_of_ble_eq_true rfl)⟩ rfl rfl (Nat.le_of_ble_eq_true rfl)) rfl rfl rfl (Nat.zero_le _) (Nat.zero_le _) fun r1 h2 =>
    aw_if_ne (pc := 5) C (tgt := 14) dX11_fouled_5 rfl (fun _ =>
    aw_aload_n (pc := 8) C (i := 0) dX11_fouled_8 rfl rfl <|
    aw_iconst (pc := 9) C (v := (-1)) dX11_fouled_9 rfl <|
    aw_callF (pc := 10) C (cr_V (rest := []) (F := (X11_lowest (-1))) C (c_X11_lowest X.2.1 (-1)) dX11_fouled_10 mf_X11_lowest ml_X11_238 im_X11_lowest se_X11_lowest sR_0 rfl ⟨(Nat.le_of_ble_eq_true rfl), (Nat.le_of_ble_eq_true rfl)⟩ rfl rfl (Nat.le_of_ble_eq_true rfl)) rfl rfl rfl (Nat.zero_le _) (Nat.zero_le _) fun r16 h17 =>
    aw_lret (pc := 13) C dX11_fouled_13 rfl rfl) (fun _ =>
    aw_iload_n (pc := 14) C (i := 2) dX11_fouled_14 rfl rfl <|
    aw_iconst (pc := 15) C (v := 0) dX11_fouled_15 rfl <|
    aw_iconst (pc := 16) C (v := 1) dX11_fouled_16 rfl <|
    aw_callF (pc := 17) C (cr_S (rest := []) (F := (X11_isIn v2 0 1)) C (c_X11_isIn X.2.1 v2 0 1) dX11_fouled_17 mf_X11_isIn ml_X11_126 st_X11_isIn ⟨(Nat.le_of_ble_eq_true rfl), (Nat.le_of_ble_eq_true rfl)⟩ rfl rfl (Nat.le_of_ble_eq_true rfl)) rfl rfl rfl (Nat.zero_le _) (Nat.zero_le _) fun r3 h4 =>
    aw_if_ne (pc := 20) C (tgt := 30) dX11_fouled_20 rfl (fun _ =>
    aw_aload_n (pc := 23) C (i := 0) dX11_fouled_23 rfl rfl <|
    aw_bipush (pc := 24) C (v := (-2)) dX11_fouled_24 rfl <|
    aw_callF (pc := 26) C (cr_V (rest := []) (F := (X11_lowest (-2))) C (c_X11_lowest X.2.1 (-2)) dX11_fouled_26 mf_X11_lowest ml_X11_238 im_X11_lowest se_X11_lowest sR_0 rfl ⟨(Nat.le_of_ble_eq_true rfl), (Nat.le_of_ble_eq_true rfl)⟩ rfl rfl (Nat.le_of_ble_eq_true rfl)) rfl rfl rfl (Nat.zero_le _) (Nat.zero_le _) fun r14 h15 =>
    aw_lret (pc := 29) C dX11_fouled_29 rfl rfl) (fun _ =>
    aw_aload_n (pc := 30) C (i := 0) dX11_fouled_30 rfl rfl <|
    aw_iload_n (pc := 31) C (i := 1) dX11_fouled_31 rfl rfl <|
    aw_callF (pc := 32) C (cr_V (rest := []) (F := (X11_triesOf v1)) C (c_X11_triesOf X.2.1 v1) dX11_fouled_32 mf_X11_triesOf ml_X11_217 im_X11_triesOf se_X11_triesOf sR_0 rfl ⟨(Nat.le_of_ble_eq_true rfl), (Nat.le_of_ble_eq_true rfl)⟩ rfl rfl (Nat.le_of_ble_eq_true rfl)) rfl rfl rfl (Nat.zero_le _) (Nat.zero_le _) fun r5 h6 =>
    aw_aload_n (pc := 35) C (i := 0) dX11_fouled_35 rfl rfl <|
    aw_iload_n (pc := 36) C (i := 1) dX11_fouled_36 rfl rfl <|
    aw_bipush (pc := 37) C (v := (-8)) dX11_fouled_37 rfl <|
    aw_callF (pc := 39) C (cr_V (rest := [.int r5]) (F := (X11_triesBy v1 (-8))) C (c_X11_triesBy X.2.1 v1 (-8)) dX11_fouled_39 mf_X11_triesBy ml_X11_333 im_X11_triesBy se_X11_triesBy sR_0 rfl ⟨(Nat.le_of_ble_eq_true rfl), (Nat.le_of_ble_eq_true rfl)⟩ rfl rfl (Nat.le_of_ble_eq_true rfl)) rfl rfl rfl (Nat.zero_le _) (Nat.zero_le _) fun r7 h8 =>
    aw_isub (pc := 42) C dX11_fouled_42 <|
    aw_istoreV_n (pc := 43) C (i := 3) (fun x9 => [(0, .ref 0), (1, .int v1), (2, .int v2), (3, .int x9)]) dX11_fouled_43 rfl (by decide) (fun _ => rfl) fun x9 =>
    aw_iload_n (pc := 44) C (i := 3) dX11_fouled_44 rfl rfl <|
    aw_if_ne (pc := 45) C (tgt := 53) dX11_fouled_45 rfl (fun _ =>
    aw_iload_n (pc := 48) C (i := 2) dX11_fouled_48 rfl rfl <|
    aw_i2l (pc := 49) C dX11_fouled_49 <|
    aw_goto (pc := 50) C (tgt := 67) dX11_fouled_50 rfl <|
    aw_lret (pc := 67) C dX11_fouled_67 rfl rfl) (fun _ =>
    aw_aload_n (pc := 53) C (i := 0) dX11_fouled_53 rfl rfl <|
    aw_iload_n (pc := 54) C (i := 1) dX11_fouled_54 rfl rfl <|
    aw_bipush (pc := 55) C (v := (-9)) dX11_fouled_55 rfl <|
    aw_callF (pc := 57) C (cr_V (rest := []) (F := (X11_triesBy v1 (-9))) C (c_X11_triesBy X.2.1 v1 (-9)) dX11_fouled_57 mf_X11_triesBy ml_X11_333 im_X11_triesBy se_X11_triesBy sR_0 rfl ⟨(Nat.le_of_ble_eq_true rfl), (Nat.le_of_ble_eq_true rfl)⟩ rfl rfl (Nat.le_of_ble_eq_true rfl)) rfl rfl rfl (Nat.zero_le _) (Nat.zero_le _) fun r10 h11 =>
    aw_i2l (pc := 60) C dX11_fouled_60 <|
    aw_iload_n (pc := 61) C (i := 3) dX11_fouled_61 rfl rfl <|
    aw_i2l (pc := 62) C dX11_fouled_62 <|
    aw_iload_n (pc := 63) C (i := 2) dX11_fouled_63 rfl rfl <|
    aw_callF (pc := 64) C (cr_S (rest := []) (F := (X11_partOf r10.toInt64 x9.toInt64 v2)) C (c_X11_partOf X.2.1 r10.toInt64 x9.toInt64 v2) dX11_fouled_64 mf_X11_partOf ml_X11_250 st_X11_partOf ⟨(Nat.le_of_ble_eq_true rfl), (Nat.le_of_ble_eq_true rfl)⟩ rfl rfl (Nat.le_of_ble_eq_true rfl)) rfl rfl rfl (Nat.zero_le _) (Nat.zero_le _) fun r12 h13 =>
    aw_lret (pc := 67) C dX11_fouled_67 rfl rfl)))

abbrev rmX11_better : Room := { frames := 1, cells := 0, slots := 0, locals := 21 }
def X11_better_j66  (v1 : Int32) (v2 : Int32) (v3 : Int32) (v4 : Int32) (K21 : Int32 → Int32 → Int32 → AH → Option (Int32 × AH)) (h : AH) : Option (Int32 × AH) :=
    vl (v4 + 1) fun x3 =>
    K21 v2 v3 x3 h
set_option maxRecDepth 100000 in
theorem aX11_better_j66 {X : MCx} {yd : Dyn} {A : Nat → Prop} (C : OK X cX11_better RX11 5 (some .int) rmX11_better A)  (v1 : Int32) (v2 : Int32) (v3 : Int32) (v4 : Int32) (K21 : Int32 → Int32 → Int32 → AH → Option (Int32 × AH)) (hK21 : ∀ (w2 : Int32) (w3 : Int32) (w4 : Int32) (h : AH), AW X 5 ZR yd A 0 0 (QF X rmX11_better ZR yd rvI A) 21 [(0, .ref 0), (1, .int v1), (2, .int w2), (3, .int w3), (4, .int w4)] [] h (K21 w2 w3 w4 h)) (h : AH) : AW X 5 ZR yd A 0 0 (QF X rmX11_better ZR yd rvI A) 66 [(0, .ref 0), (1, .int v1), (2, .int v2), (3, .int v3), (4, .int v4)] [] h (X11_better_j66 v1 v2 v3 v4 K21 h) := by
    exact aw_iincV (pc := 66) C (i := 4) (cst := 1) (fun x3 => [(0, .ref 0), (1, .int v1), (2, .int v2), (3, .int v3), (4, .int x3)]) dX11_better_66 rfl rfl (by decide) (fun _ => rfl) fun x3 =>
    aw_goto (pc := 69) C (tgt := 21) dX11_better_69 rfl <|
    (hK21 v2 v3 x3 h)
def X11_better_l21  (v1 : Int32) : Nat → Int32 → Int32 → Int32 → AH → Option (Int32 × AH)
  | 0, _, _, _, _ => none
  | n + 1, v2, v3, v4, h =>
    if (h.1 0 16) ≤ v4 then (some (v3, h))
    else (ck v4 24 (if (h.1 10 v4.toNatClampNeg) = v1 then (ck v4 24 (if v2 < (h.1 11 v4.toNatClampNeg) then (ck v4 24 (vl (h.1 11 v4.toNatClampNeg) fun x4 =>
    vl (v3 + 1) fun x5 =>
    X11_better_j66 v1 x4 x5 v4 (X11_better_l21 v1 n) h))
    else (X11_better_j66 v1 v2 v3 v4 (X11_better_l21 v1 n) h)))
    else (X11_better_j66 v1 v2 v3 v4 (X11_better_l21 v1 n) h)))
set_option maxRecDepth 100000 in
theorem aX11_better_l21 {X : MCx} {yd : Dyn} {A : Nat → Prop} (C : OK X cX11_better RX11 5 (some .int) rmX11_better A)  (v1 : Int32) : ∀ (n : Nat) (v2 : Int32) (v3 : Int32) (v4 : Int32) (h : AH), AW X 5 ZR yd A 0 0 (QF X rmX11_better ZR yd rvI A) 21 [(0, .ref 0), (1, .int v1), (2, .int v2), (3, .int v3), (4, .int v4)] [] h (X11_better_l21 v1 n v2 v3 v4 h) := by
  intro n
  induction n with
  | zero => intro v2 v3 v4 h; exact aw_none
  | succ n ih =>
    intro v2 v3 v4 h
    exact aw_iload (pc := 21) C (i := 4) dX11_better_21 rfl <|
    aw_aload_n (pc := 23) C (i := 0) dX11_better_23 rfl rfl <|
    aw_getI (pc := 24) C dX11_better_24 fl_X11_147 sR_0 rfl <|
    aw_icmp_ge (pc := 27) C (tgt := 72) dX11_better_27 rfl (fun _ =>
    aw_iload_n (pc := 72) C (i := 3) dX11_better_72 rfl rfl <|
    aw_iret (pc := 73) C dX11_better_73 rfl rfl) (fun _ =>
    aw_aload_n (pc := 30) C (i := 0) dX11_better_30 rfl rfl <|
    aw_getR (pc := 31) C (b := 10) dX11_better_31 fl_X11_37 sR_0 rfl rR_0_9 <|
    aw_iload (pc := 34) C (i := 4) dX11_better_34 rfl <|
    aw_iald (pc := 36) C dX11_better_36 sR_10 rfl <|
    aw_iload_n (pc := 37) C (i := 1) dX11_better_37 rfl rfl <|
    aw_icmp_ne (pc := 38) C (tgt := 66) dX11_better_38 rfl (fun _ =>
    aw_aload_n (pc := 41) C (i := 0) dX11_better_41 rfl rfl <|
    aw_getR (pc := 42) C (b := 11) dX11_better_42 fl_X11_40 sR_0 rfl rR_0_10 <|
    aw_iload (pc := 45) C (i := 4) dX11_better_45 rfl <|
    aw_iald (pc := 47) C dX11_better_47 sR_11 rfl <|
    aw_iload_n (pc := 48) C (i := 2) dX11_better_48 rfl rfl <|
    aw_icmp_gt (pc := 49) C (tgt := 55) dX11_better_49 rfl (fun _ =>
    aw_aload_n (pc := 55) C (i := 0) dX11_better_55 rfl rfl <|
    aw_getR (pc := 56) C (b := 11) dX11_better_56 fl_X11_40 sR_0 rfl rR_0_10 <|
    aw_iload (pc := 59) C (i := 4) dX11_better_59 rfl <|
    aw_iald (pc := 61) C dX11_better_61 sR_11 rfl <|
    aw_istoreV_n (pc := 62) C (i := 2) (fun x4 => [(0, .ref 0), (1, .int v1), (2, .int x4), (3, .int v3), (4, .int v4)]) dX11_better_62 rfl (by decide) (fun _ => rfl) fun x4 =>
    aw_iincV (pc := 63) C (i := 3) (cst := 1) (fun x5 => [(0, .ref 0), (1, .int v1), (2, .int x4), (3, .int x5), (4, .int v4)]) dX11_better_63 rfl rfl (by decide) (fun _ => rfl) fun x5 =>
    (aX11_better_j66 C v1 x4 x5 v4 (X11_better_l21 v1 n) ih h)) (fun _ =>
    aw_goto (pc := 52) C (tgt := 66) dX11_better_52 rfl <|
    (aX11_better_j66 C v1 v2 v3 v4 (X11_better_l21 v1 n) ih h))) (fun _ =>
    (aX11_better_j66 C v1 v2 v3 v4 (X11_better_l21 v1 n) ih h)))
def X11_better (v1 : Int32) (h : AH) : Option (Int32 × AH) :=
    bd (X11_isJumper v1 h) fun r1 h2 =>
    if r1 = 0 then (bd (X11_no (-1) h2) fun r6 h7 =>
    some (r6, h7))
    else (X11_better_l21 v1 FU 0 0 0 h2)
set_option maxRecDepth 100000 in
theorem c_X11_better (l : Launch) (v1 : Int32) : MC l yX11_better cX11_better 5 (some .int) rmX11_better ZR [.ref 0, .int v1] rvI (X11_better v1) :=
  MC.of (own := RX11) (by decide +kernel) rfl (Nat.le_of_ble_eq_true rfl) fun X yd A h _ C =>
    aw_aload_n (pc := 0) C (i := 0) dX11_better_0 rfl rfl <|
    aw_iload_n (pc := 1) C (i := 1) dX11_better_1 rfl rfl <|
    aw_callF (pc := 2) C (cr_V (rest := []) (F := (X11_isJumper v1)) C (c_X11_isJumper X.2.1 v1) dX11_better_2 mf_X11_isJumper ml_X11_207 im_X11_isJumper se_X11_isJumper sR_0 rfl ⟨(Nat.le_of_ble_eq_true rfl), (Nat.le_of_ble_eq_true rfl)⟩ rfl rfl (Nat.le_of_ble_eq_true rfl)) rfl rfl rfl (Nat.zero_le _) (Nat.zero_le _) fun r1 h2 =>
    aw_if_ne (pc := 5) C (tgt := 14) dX11_better_5 rfl (fun _ =>
    aw_aload_n (pc := 8) C (i := 0) dX11_better_8 rfl rfl <|
    aw_iconst (pc := 9) C (v := (-1)) dX11_better_9 rfl <|
    aw_callF (pc := 10) C (cr_V (rest := []) (F := (X11_no (-1))) C (c_X11_no X.2.1 (-1)) dX11_better_10 mf_X11_no ml_X11_115 im_X11_no se_X11_no sR_0 rfl ⟨(Nat.le_of_ble_eq_true rfl), (Nat.le_of_ble_eq_true rfl)⟩ rfl rfl (Nat.le_of_ble_eq_true rfl)) rfl rfl rfl (Nat.zero_le _) (Nat.zero_le _) fun r6 h7 =>
    aw_iret (pc := 13) C dX11_better_13 rfl rfl) (fun _ =>
    aw_iconst (pc := 14) C (v := 0) dX11_better_14 rfl <|
    aw_istore_n (pc := 15) C (i := 2) (lv' := [(0, .ref 0), (1, .int v1), (2, .int 0)]) dX11_better_15 rfl (by decide) rfl <|
    aw_iconst (pc := 16) C (v := 0) dX11_better_16 rfl <|
    aw_istore_n (pc := 17) C (i := 3) (lv' := [(0, .ref 0), (1, .int v1), (2, .int 0), (3, .int 0)]) dX11_better_17 rfl (by decide) rfl <|
    aw_iconst (pc := 18) C (v := 0) dX11_better_18 rfl <|
    aw_istore (pc := 19) C (i := 4) (lv' := [(0, .ref 0), (1, .int v1), (2, .int 0), (3, .int 0), (4, .int 0)]) dX11_better_19 (by decide) rfl <|
    (aX11_better_l21 C v1 FU 0 0 0 h2))

abbrev rmX11_half : Room := { frames := 1, cells := 0, slots := 0, locals := 21 }
def X11_half_j117  (v1 : Int32) (v2 : Int32) (v3 : Int32) (K18 : Int32 → Int32 → AH → Option (Int32 × AH)) (h : AH) : Option (Int32 × AH) :=
    vl (v3 + 1) fun x3 =>
    K18 v2 x3 h
set_option maxRecDepth 100000 in
theorem aX11_half_j117 {X : MCx} {yd : Dyn} {A : Nat → Prop} (C : OK X cX11_half RX11 6 (some .int) rmX11_half A)  (v1 : Int32) (v2 : Int32) (v3 : Int32) (K18 : Int32 → Int32 → AH → Option (Int32 × AH)) (hK18 : ∀ (w2 : Int32) (w3 : Int32) (h : AH), AW X 6 ZR yd A 0 0 (QF X rmX11_half ZR yd rvI A) 18 [(0, .ref 0), (1, .int v1), (2, .int w2), (3, .int w3)] [] h (K18 w2 w3 h)) (h : AH) : AW X 6 ZR yd A 0 0 (QF X rmX11_half ZR yd rvI A) 117 [(0, .ref 0), (1, .int v1), (2, .int v2), (3, .int v3)] [] h (X11_half_j117 v1 v2 v3 K18 h) := by
    exact aw_iincV (pc := 117) C (i := 3) (cst := 1) (fun x3 => [(0, .ref 0), (1, .int v1), (2, .int v2), (3, .int x3)]) dX11_half_117 rfl rfl (by decide) (fun _ => rfl) fun x3 =>
    aw_goto (pc := 120) C (tgt := 18) dX11_half_120 rfl <|
    (hK18 v2 x3 h)
def X11_half_j105  (v1 : Int32) (v2 : Int32) (v3 : Int32) (v4 : Int32) (v5 : Int32) (K18 : Int32 → Int32 → AH → Option (Int32 × AH)) (h : AH) : Option (Int32 × AH) :=
    ck v5 6 (vl (sI h 28 v5.toNatClampNeg v4) fun h6 =>
    vl (v2 + 1) fun x7 =>
    X11_half_j117 v1 x7 v3 K18 h6)
set_option maxRecDepth 100000 in
theorem aX11_half_j105 {X : MCx} {yd : Dyn} {A : Nat → Prop} (C : OK X cX11_half RX11 6 (some .int) rmX11_half A)  (v1 : Int32) (v2 : Int32) (v3 : Int32) (v4 : Int32) (v5 : Int32) (K18 : Int32 → Int32 → AH → Option (Int32 × AH)) (hK18 : ∀ (w2 : Int32) (w3 : Int32) (h : AH), AW X 6 ZR yd A 0 0 (QF X rmX11_half ZR yd rvI A) 18 [(0, .ref 0), (1, .int v1), (2, .int w2), (3, .int w3)] [] h (K18 w2 w3 h)) (h : AH) : AW X 6 ZR yd A 0 0 (QF X rmX11_half ZR yd rvI A) 105 [(0, .ref 0), (1, .int v1), (2, .int v2), (3, .int v3), (4, .int v4), (5, .int v5)] [] h (X11_half_j105 v1 v2 v3 v4 v5 K18 h) := by
    exact aw_aload_n (pc := 105) C (i := 0) dX11_half_105 rfl rfl <|
    aw_getR (pc := 106) C (b := 28) dX11_half_106 fl_X11_92 sR_0 rfl rR_0_39 <|
    aw_iload (pc := 109) C (i := 5) dX11_half_109 rfl <|
    aw_iload (pc := 111) C (i := 4) dX11_half_111 rfl <|
    aw_iast (pc := 113) C dX11_half_113 sR_28 rfl fun h6 =>
    aw_iincV (pc := 114) C (i := 2) (cst := 1) (fun x7 => [(0, .ref 0), (1, .int v1), (2, .int x7), (3, .int v3), (4, .int v4), (5, .int v5)]) dX11_half_114 rfl rfl (by decide) (fun _ => rfl) fun x7 =>
    aw_drop [0, 1, 2, 3] (aX11_half_j117 C v1 x7 v3 K18 hK18 h6)
def X11_half_l64  (v1 : Int32) (v2 : Int32) (v3 : Int32) (v4 : Int32) (K18 : Int32 → Int32 → AH → Option (Int32 × AH)) : Nat → Int32 → AH → Option (Int32 × AH)
  | 0, _, _ => none
  | n + 1, v5, h =>
    if v5 ≤ 0 then (X11_half_j105 v1 v2 v3 v4 v5 K18 h)
    else (ck (v5 - 1) 6 (if (h.1 28 (v5 - 1).toNatClampNeg) ≤ v4 then (X11_half_j105 v1 v2 v3 v4 v5 K18 h)
    else (ck (v5 - 1) 6 (ck v5 6 (vl (sI h 28 v5.toNatClampNeg (h.1 28 (v5 - 1).toNatClampNeg)) fun h8 =>
    vl (v5 + (-1)) fun x9 =>
    (X11_half_l64 v1 v2 v3 v4 K18 n) x9 h8)))))
set_option maxRecDepth 100000 in
theorem aX11_half_l64 {X : MCx} {yd : Dyn} {A : Nat → Prop} (C : OK X cX11_half RX11 6 (some .int) rmX11_half A)  (v1 : Int32) (v2 : Int32) (v3 : Int32) (v4 : Int32) (K18 : Int32 → Int32 → AH → Option (Int32 × AH)) (hK18 : ∀ (w2 : Int32) (w3 : Int32) (h : AH), AW X 6 ZR yd A 0 0 (QF X rmX11_half ZR yd rvI A) 18 [(0, .ref 0), (1, .int v1), (2, .int w2), (3, .int w3)] [] h (K18 w2 w3 h)) : ∀ (n : Nat) (v5 : Int32) (h : AH), AW X 6 ZR yd A 0 0 (QF X rmX11_half ZR yd rvI A) 64 [(0, .ref 0), (1, .int v1), (2, .int v2), (3, .int v3), (4, .int v4), (5, .int v5)] [] h (X11_half_l64 v1 v2 v3 v4 K18 n v5 h) := by
  intro n
  induction n with
  | zero => intro v5 h; exact aw_none
  | succ n ih =>
    intro v5 h
    exact aw_iload (pc := 64) C (i := 5) dX11_half_64 rfl <|
    aw_if_le (pc := 66) C (tgt := 105) dX11_half_66 rfl (fun _ =>
    (aX11_half_j105 C v1 v2 v3 v4 v5 K18 hK18 h)) (fun _ =>
    aw_aload_n (pc := 69) C (i := 0) dX11_half_69 rfl rfl <|
    aw_getR (pc := 70) C (b := 28) dX11_half_70 fl_X11_92 sR_0 rfl rR_0_39 <|
    aw_iload (pc := 73) C (i := 5) dX11_half_73 rfl <|
    aw_iconst (pc := 75) C (v := 1) dX11_half_75 rfl <|
    aw_isub (pc := 76) C dX11_half_76 <|
    aw_iald (pc := 77) C dX11_half_77 sR_28 rfl <|
    aw_iload (pc := 78) C (i := 4) dX11_half_78 rfl <|
    aw_icmp_le (pc := 80) C (tgt := 105) dX11_half_80 rfl (fun _ =>
    (aX11_half_j105 C v1 v2 v3 v4 v5 K18 hK18 h)) (fun _ =>
    aw_aload_n (pc := 83) C (i := 0) dX11_half_83 rfl rfl <|
    aw_getR (pc := 84) C (b := 28) dX11_half_84 fl_X11_92 sR_0 rfl rR_0_39 <|
    aw_iload (pc := 87) C (i := 5) dX11_half_87 rfl <|
    aw_aload_n (pc := 89) C (i := 0) dX11_half_89 rfl rfl <|
    aw_getR (pc := 90) C (b := 28) dX11_half_90 fl_X11_92 sR_0 rfl rR_0_39 <|
    aw_iload (pc := 93) C (i := 5) dX11_half_93 rfl <|
    aw_iconst (pc := 95) C (v := 1) dX11_half_95 rfl <|
    aw_isub (pc := 96) C dX11_half_96 <|
    aw_iald (pc := 97) C dX11_half_97 sR_28 rfl <|
    aw_iast (pc := 98) C dX11_half_98 sR_28 rfl fun h8 =>
    aw_iincV (pc := 99) C (i := 5) (cst := (-1)) (fun x9 => [(0, .ref 0), (1, .int v1), (2, .int v2), (3, .int v3), (4, .int v4), (5, .int x9)]) dX11_half_99 rfl rfl (by decide) (fun _ => rfl) fun x9 =>
    aw_goto (pc := 102) C (tgt := 64) dX11_half_102 rfl <|
    (ih x9 h8)))
def X11_half_l18  (v1 : Int32) : Nat → Int32 → Int32 → AH → Option (Int32 × AH)
  | 0, _, _, _ => none
  | n + 1, v2, v3, h =>
    if (h.1 0 16) ≤ v3 then (if v2 = 0 then (some ((-9), h))
    else (ck ((v2 - 1) / 2) 6 (some ((h.1 28 ((v2 - 1) / 2).toNatClampNeg), h))))
    else (ck v3 24 (if (h.1 10 v3.toNatClampNeg) = v1 then (ck v3 24 (if (h.1 11 v3.toNatClampNeg) = (-8) then (X11_half_j117 v1 v2 v3 (X11_half_l18 v1 n) h)
    else (ck v3 24 (bd (X11_atLeast0 (h.1 11 v3.toNatClampNeg) h) fun r4 h5 =>
    X11_half_l64 v1 v2 v3 r4 (X11_half_l18 v1 n) FU v2 h5))))
    else (X11_half_j117 v1 v2 v3 (X11_half_l18 v1 n) h)))
set_option maxRecDepth 100000 in
theorem aX11_half_l18 {X : MCx} {yd : Dyn} {A : Nat → Prop} (C : OK X cX11_half RX11 6 (some .int) rmX11_half A)  (v1 : Int32) : ∀ (n : Nat) (v2 : Int32) (v3 : Int32) (h : AH), AW X 6 ZR yd A 0 0 (QF X rmX11_half ZR yd rvI A) 18 [(0, .ref 0), (1, .int v1), (2, .int v2), (3, .int v3)] [] h (X11_half_l18 v1 n v2 v3 h) := by
  intro n
  induction n with
  | zero => intro v2 v3 h; exact aw_none
  | succ n ih =>
    intro v2 v3 h
    exact aw_iload_n (pc := 18) C (i := 3) dX11_half_18 rfl rfl <|
    aw_aload_n (pc := 19) C (i := 0) dX11_half_19 rfl rfl <|
    aw_getI (pc := 20) C dX11_half_20 fl_X11_147 sR_0 rfl <|
    aw_icmp_ge (pc := 23) C (tgt := 123) dX11_half_23 rfl (fun _ =>
    aw_iload_n (pc := 123) C (i := 2) dX11_half_123 rfl rfl <|
    aw_if_ne (pc := 124) C (tgt := 132) dX11_half_124 rfl (fun _ =>
    aw_bipush (pc := 127) C (v := (-9)) dX11_half_127 rfl <|
    aw_goto (pc := 129) C (tgt := 142) dX11_half_129 rfl <|
    aw_iret (pc := 142) C dX11_half_142 rfl rfl) (fun _ =>
    aw_aload_n (pc := 132) C (i := 0) dX11_half_132 rfl rfl <|
    aw_getR (pc := 133) C (b := 28) dX11_half_133 fl_X11_92 sR_0 rfl rR_0_39 <|
    aw_iload_n (pc := 136) C (i := 2) dX11_half_136 rfl rfl <|
    aw_iconst (pc := 137) C (v := 1) dX11_half_137 rfl <|
    aw_isub (pc := 138) C dX11_half_138 <|
    aw_iconst (pc := 139) C (v := 2) dX11_half_139 rfl <|
    aw_idivK (pc := 140) C dX11_half_140 (by decide) <|
    aw_iald (pc := 141) C dX11_half_141 sR_28 rfl <|
    aw_iret (pc := 142) C dX11_half_142 rfl rfl)) (fun _ =>
    aw_aload_n (pc := 26) C (i := 0) dX11_half_26 rfl rfl <|
    aw_getR (pc := 27) C (b := 10) dX11_half_27 fl_X11_37 sR_0 rfl rR_0_9 <|
    aw_iload_n (pc := 30) C (i := 3) dX11_half_30 rfl rfl <|
    aw_iald (pc := 31) C dX11_half_31 sR_10 rfl <|
    aw_iload_n (pc := 32) C (i := 1) dX11_half_32 rfl rfl <|
    aw_icmp_ne (pc := 33) C (tgt := 117) dX11_half_33 rfl (fun _ =>
    aw_aload_n (pc := 36) C (i := 0) dX11_half_36 rfl rfl <|
    aw_getR (pc := 37) C (b := 11) dX11_half_37 fl_X11_40 sR_0 rfl rR_0_10 <|
    aw_iload_n (pc := 40) C (i := 3) dX11_half_40 rfl rfl <|
    aw_iald (pc := 41) C dX11_half_41 sR_11 rfl <|
    aw_bipush (pc := 42) C (v := (-8)) dX11_half_42 rfl <|
    aw_icmp_ne (pc := 44) C (tgt := 50) dX11_half_44 rfl (fun _ =>
    aw_goto (pc := 47) C (tgt := 117) dX11_half_47 rfl <|
    (aX11_half_j117 C v1 v2 v3 (X11_half_l18 v1 n) ih h)) (fun _ =>
    aw_aload_n (pc := 50) C (i := 0) dX11_half_50 rfl rfl <|
    aw_getR (pc := 51) C (b := 11) dX11_half_51 fl_X11_40 sR_0 rfl rR_0_10 <|
    aw_iload_n (pc := 54) C (i := 3) dX11_half_54 rfl rfl <|
    aw_iald (pc := 55) C dX11_half_55 sR_11 rfl <|
    aw_callF (pc := 56) C (cr_S (rest := []) (F := (X11_atLeast0 (h.1 11 v3.toNatClampNeg))) C (c_X11_atLeast0 X.2.1 (h.1 11 v3.toNatClampNeg)) dX11_half_56 mf_X11_atLeast0 ml_X11_204 st_X11_atLeast0 ⟨(Nat.le_of_ble_eq_true rfl), (Nat.le_of_ble_eq_true rfl)⟩ rfl rfl (Nat.le_of_ble_eq_true rfl)) rfl rfl rfl (Nat.zero_le _) (Nat.zero_le _) fun r4 h5 =>
    aw_istore (pc := 59) C (i := 4) (lv' := [(0, .ref 0), (1, .int v1), (2, .int v2), (3, .int v3), (4, .int r4)]) dX11_half_59 (by decide) rfl <|
    aw_iload_n (pc := 61) C (i := 2) dX11_half_61 rfl rfl <|
    aw_istore (pc := 62) C (i := 5) (lv' := [(0, .ref 0), (1, .int v1), (2, .int v2), (3, .int v3), (4, .int r4), (5, .int v2)]) dX11_half_62 (by decide) rfl <|
    (aX11_half_l64 C v1 v2 v3 r4 (X11_half_l18 v1 n) ih FU v2 h5))) (fun _ =>
    (aX11_half_j117 C v1 v2 v3 (X11_half_l18 v1 n) ih h)))
def X11_half (v1 : Int32) (h : AH) : Option (Int32 × AH) :=
    bd (X11_isJumper v1 h) fun r1 h2 =>
    if r1 = 0 then (bd (X11_no (-1) h2) fun r10 h11 =>
    some (r10, h11))
    else (X11_half_l18 v1 FU 0 0 h2)
set_option maxRecDepth 100000 in
theorem c_X11_half (l : Launch) (v1 : Int32) : MC l yX11_half cX11_half 6 (some .int) rmX11_half ZR [.ref 0, .int v1] rvI (X11_half v1) :=
  MC.of (own := RX11) (by decide +kernel) rfl (Nat.le_of_ble_eq_true rfl) fun X yd A h _ C =>
    aw_aload_n (pc := 0) C (i := 0) dX11_half_0 rfl rfl <|
    aw_iload_n (pc := 1) C (i := 1) dX11_half_1 rfl rfl <|
    aw_callF (pc := 2) C (cr_V (rest := []) (F := (X11_isJumper v1)) C (c_X11_isJumper X.2.1 v1) dX11_half_2 mf_X11_isJumper ml_X11_207 im_X11_isJumper se_X11_isJumper sR_0 rfl ⟨(Nat.le_of_ble_eq_true rfl), (Nat.le_of_ble_eq_true rfl)⟩ rfl rfl (Nat.le_of_ble_eq_true rfl)) rfl rfl rfl (Nat.zero_le _) (Nat.zero_le _) fun r1 h2 =>
    aw_if_ne (pc := 5) C (tgt := 14) dX11_half_5 rfl (fun _ =>
    aw_aload_n (pc := 8) C (i := 0) dX11_half_8 rfl rfl <|
    aw_iconst (pc := 9) C (v := (-1)) dX11_half_9 rfl <|
    aw_callF (pc := 10) C (cr_V (rest := []) (F := (X11_no (-1))) C (c_X11_no X.2.1 (-1)) dX11_half_10 mf_X11_no ml_X11_115 im_X11_no se_X11_no sR_0 rfl ⟨(Nat.le_of_ble_eq_true rfl), (Nat.le_of_ble_eq_true rfl)⟩ rfl rfl (Nat.le_of_ble_eq_true rfl)) rfl rfl rfl (Nat.zero_le _) (Nat.zero_le _) fun r10 h11 =>
    aw_iret (pc := 13) C dX11_half_13 rfl rfl) (fun _ =>
    aw_iconst (pc := 14) C (v := 0) dX11_half_14 rfl <|
    aw_istore_n (pc := 15) C (i := 2) (lv' := [(0, .ref 0), (1, .int v1), (2, .int 0)]) dX11_half_15 rfl (by decide) rfl <|
    aw_iconst (pc := 16) C (v := 0) dX11_half_16 rfl <|
    aw_istore_n (pc := 17) C (i := 3) (lv' := [(0, .ref 0), (1, .int v1), (2, .int 0), (3, .int 0)]) dX11_half_17 rfl (by decide) rfl <|
    (aX11_half_l18 C v1 FU 0 0 h2))

abbrev rmX11_safe : Room := { frames := 4, cells := 0, slots := 0, locals := 90 }
def X11_safe_j60  (v1 : Int32) (v2 : Int32) (v3 : Int32) (K16 : Int32 → AH → Option (Int32 × AH)) (K34 : Int32 → AH → Option (Int32 × AH)) (s0 : Int32) (s1 : Int32) (h : AH) : Option (Int32 × AH) :=
    bd (X11_comesLength s1 s0 h) fun _ h15 =>
    vl (v3 + 1) fun x16 =>
    K34 x16 h15
set_option maxRecDepth 100000 in
theorem aX11_safe_j60 {X : MCx} {yd : Dyn} {A : Nat → Prop} (C : OK X cX11_safe RX11 4 (some .int) rmX11_safe A)  (v1 : Int32) (v2 : Int32) (v3 : Int32) (K16 : Int32 → AH → Option (Int32 × AH)) (hK16 : ∀ (w2 : Int32) (h : AH), AW X 4 ZR yd A 0 0 (QF X rmX11_safe ZR yd rvI A) 16 [(0, .ref 0), (1, .int v1), (2, .int w2)] [] h (K16 w2 h)) (K34 : Int32 → AH → Option (Int32 × AH)) (hK34 : ∀ (w3 : Int32) (h : AH), AW X 4 ZR yd A 0 0 (QF X rmX11_safe ZR yd rvI A) 34 [(0, .ref 0), (1, .int v1), (2, .int v2), (3, .int w3)] [] h (K34 w3 h)) (s0 : Int32) (s1 : Int32) (h : AH) : AW X 4 ZR yd A 0 0 (QF X rmX11_safe ZR yd rvI A) 60 [(0, .ref 0), (1, .int v1), (2, .int v2), (3, .int v3)] [.int s0, .int s1, .ref 0] h (X11_safe_j60 v1 v2 v3 K16 K34 s0 s1 h) := by
    exact aw_callF (pc := 60) C (cr_V (rest := []) (F := (X11_comesLength s1 s0)) C (c_X11_comesLength X.2.1 s1 s0) dX11_safe_60 mf_X11_comesLength ml_X11_262 im_X11_comesLength se_X11_comesLength sR_0 rfl ⟨(Nat.le_of_ble_eq_true rfl), (Nat.le_of_ble_eq_true rfl)⟩ rfl rfl (Nat.le_of_ble_eq_true rfl)) rfl rfl rfl (Nat.zero_le _) (Nat.zero_le _) fun _ h15 =>
    aw_iincV (pc := 63) C (i := 3) (cst := 1) (fun x16 => [(0, .ref 0), (1, .int v1), (2, .int v2), (3, .int x16)]) dX11_safe_63 rfl rfl (by decide) (fun _ => rfl) fun x16 =>
    aw_goto (pc := 66) C (tgt := 34) dX11_safe_66 rfl <|
    (hK34 x16 h15)
def X11_safe_l34  (v1 : Int32) (v2 : Int32) (K16 : Int32 → AH → Option (Int32 × AH)) : Nat → Int32 → AH → Option (Int32 × AH)
  | 0, _, _ => none
  | n + 1, v3, h =>
    if (h.1 0 15) ≤ v3 then (bd (X11_sorts h) fun _ h6 =>
    bd (X11_rankOf v1 h6) fun r7 h8 =>
    bd (X11_finalists h8) fun r9 h10 =>
    if r9 ≤ r7 then (vl (v2 + 1) fun x11 =>
    K16 x11 h10)
    else (some (v2, h10)))
    else (if v3 = v1 then (X11_safe_j60 v1 v2 v3 K16 (X11_safe_l34 v1 v2 K16 n) v2 v3 h)
    else (bd (X11_lengthOf v3 0 0 h) fun r12 h13 =>
    X11_safe_j60 v1 v2 v3 K16 (X11_safe_l34 v1 v2 K16 n) r12 v3 h13))
set_option maxRecDepth 100000 in
theorem aX11_safe_l34 {X : MCx} {yd : Dyn} {A : Nat → Prop} (C : OK X cX11_safe RX11 4 (some .int) rmX11_safe A)  (v1 : Int32) (v2 : Int32) (K16 : Int32 → AH → Option (Int32 × AH)) (hK16 : ∀ (w2 : Int32) (h : AH), AW X 4 ZR yd A 0 0 (QF X rmX11_safe ZR yd rvI A) 16 [(0, .ref 0), (1, .int v1), (2, .int w2)] [] h (K16 w2 h)) : ∀ (n : Nat) (v3 : Int32) (h : AH), AW X 4 ZR yd A 0 0 (QF X rmX11_safe ZR yd rvI A) 34 [(0, .ref 0), (1, .int v1), (2, .int v2), (3, .int v3)] [] h (X11_safe_l34 v1 v2 K16 n v3 h) := by
  intro n
  induction n with
  | zero => intro v3 h; exact aw_none
  | succ n ih =>
    intro v3 h
    exact aw_iload_n (pc := 34) C (i := 3) dX11_safe_34 rfl rfl <|
    aw_aload_n (pc := 35) C (i := 0) dX11_safe_35 rfl rfl <|
    aw_getI (pc := 36) C dX11_safe_36 fl_X11_105 sR_0 rfl <|
    aw_icmp_ge (pc := 39) C (tgt := 69) dX11_safe_39 rfl (fun _ =>
    aw_aload_n (pc := 69) C (i := 0) dX11_safe_69 rfl rfl <|
    aw_callF (pc := 70) C (cr_V (rest := []) (F := X11_sorts) C (c_X11_sorts X.2.1 ) dX11_safe_70 mf_X11_sorts ml_X11_268 im_X11_sorts se_X11_sorts sR_0 rfl ⟨(Nat.le_of_ble_eq_true rfl), (Nat.le_of_ble_eq_true rfl)⟩ rfl rfl (Nat.le_of_ble_eq_true rfl)) rfl rfl rfl (Nat.zero_le _) (Nat.zero_le _) fun _ h6 =>
    aw_aload_n (pc := 73) C (i := 0) dX11_safe_73 rfl rfl <|
    aw_iload_n (pc := 74) C (i := 1) dX11_safe_74 rfl rfl <|
    aw_callF (pc := 75) C (cr_V (rest := []) (F := (X11_rankOf v1)) C (c_X11_rankOf X.2.1 v1) dX11_safe_75 mf_X11_rankOf ml_X11_274 im_X11_rankOf se_X11_rankOf sR_0 rfl ⟨(Nat.le_of_ble_eq_true rfl), (Nat.le_of_ble_eq_true rfl)⟩ rfl rfl (Nat.le_of_ble_eq_true rfl)) rfl rfl rfl (Nat.zero_le _) (Nat.zero_le _) fun r7 h8 =>
    aw_aload_n (pc := 78) C (i := 0) dX11_safe_78 rfl rfl <|
    aw_callF (pc := 79) C (cr_V (rest := [.int r7]) (F := X11_finalists) C (c_X11_finalists X.2.1 ) dX11_safe_79 mf_X11_finalists ml_X11_271 im_X11_finalists se_X11_finalists sR_0 rfl ⟨(Nat.le_of_ble_eq_true rfl), (Nat.le_of_ble_eq_true rfl)⟩ rfl rfl (Nat.le_of_ble_eq_true rfl)) rfl rfl rfl (Nat.zero_le _) (Nat.zero_le _) fun r9 h10 =>
    aw_icmp_ge (pc := 82) C (tgt := 87) dX11_safe_82 rfl (fun _ =>
    aw_iincV (pc := 87) C (i := 2) (cst := 1) (fun x11 => [(0, .ref 0), (1, .int v1), (2, .int x11), (3, .int v3)]) dX11_safe_87 rfl rfl (by decide) (fun _ => rfl) fun x11 =>
    aw_goto (pc := 90) C (tgt := 16) dX11_safe_90 rfl <|
    aw_drop [0, 1, 2] (hK16 x11 h10)) (fun _ =>
    aw_iload_n (pc := 85) C (i := 2) dX11_safe_85 rfl rfl <|
    aw_iret (pc := 86) C dX11_safe_86 rfl rfl)) (fun _ =>
    aw_aload_n (pc := 42) C (i := 0) dX11_safe_42 rfl rfl <|
    aw_iload_n (pc := 43) C (i := 3) dX11_safe_43 rfl rfl <|
    aw_iload_n (pc := 44) C (i := 3) dX11_safe_44 rfl rfl <|
    aw_iload_n (pc := 45) C (i := 1) dX11_safe_45 rfl rfl <|
    aw_icmp_ne (pc := 46) C (tgt := 53) dX11_safe_46 rfl (fun _ =>
    aw_iload_n (pc := 49) C (i := 2) dX11_safe_49 rfl rfl <|
    aw_goto (pc := 50) C (tgt := 60) dX11_safe_50 rfl <|
    (aX11_safe_j60 C v1 v2 v3 K16 hK16 (X11_safe_l34 v1 v2 K16 n) ih v2 v3 h)) (fun _ =>
    aw_aload_n (pc := 53) C (i := 0) dX11_safe_53 rfl rfl <|
    aw_iload_n (pc := 54) C (i := 3) dX11_safe_54 rfl rfl <|
    aw_iconst (pc := 55) C (v := 0) dX11_safe_55 rfl <|
    aw_iconst (pc := 56) C (v := 0) dX11_safe_56 rfl <|
    aw_callF (pc := 57) C (cr_V (rest := [.int v3, .ref 0]) (F := (X11_lengthOf v3 0 0)) C (c_X11_lengthOf X.2.1 v3 0 0) dX11_safe_57 mf_X11_lengthOf ml_X11_163 im_X11_lengthOf se_X11_lengthOf sR_0 rfl ⟨(Nat.le_of_ble_eq_true rfl), (Nat.le_of_ble_eq_true rfl)⟩ rfl rfl (Nat.le_of_ble_eq_true rfl)) rfl rfl rfl (Nat.zero_le _) (Nat.zero_le _) fun r12 h13 =>
    (aX11_safe_j60 C v1 v2 v3 K16 hK16 (X11_safe_l34 v1 v2 K16 n) ih r12 v3 h13)))
def X11_safe_l16  (v1 : Int32) : Nat → Int32 → AH → Option (Int32 × AH)
  | 0, _, _ => none
  | n + 1, v2, h =>
    if 1000 ≤ v2 then (some ((-9), h))
    else (bd (X11_findBest 0 (h.1 0 16) h) fun _ h4 =>
    X11_safe_l34 v1 v2 (X11_safe_l16 v1 n) FU 0 h4)
set_option maxRecDepth 100000 in
theorem aX11_safe_l16 {X : MCx} {yd : Dyn} {A : Nat → Prop} (C : OK X cX11_safe RX11 4 (some .int) rmX11_safe A)  (v1 : Int32) : ∀ (n : Nat) (v2 : Int32) (h : AH), AW X 4 ZR yd A 0 0 (QF X rmX11_safe ZR yd rvI A) 16 [(0, .ref 0), (1, .int v1), (2, .int v2)] [] h (X11_safe_l16 v1 n v2 h) := by
  intro n
  induction n with
  | zero => intro v2 h; exact aw_none
  | succ n ih =>
    intro v2 h
    exact aw_iload_n (pc := 16) C (i := 2) dX11_safe_16 rfl rfl <|
    aw_sipush (pc := 17) C (v := 1000) dX11_safe_17 rfl <|
    aw_icmp_ge (pc := 20) C (tgt := 93) dX11_safe_20 rfl (fun _ =>
    aw_bipush (pc := 93) C (v := (-9)) dX11_safe_93 rfl <|
    aw_iret (pc := 95) C dX11_safe_95 rfl rfl) (fun _ =>
    aw_aload_n (pc := 23) C (i := 0) dX11_safe_23 rfl rfl <|
    aw_iconst (pc := 24) C (v := 0) dX11_safe_24 rfl <|
    aw_aload_n (pc := 25) C (i := 0) dX11_safe_25 rfl rfl <|
    aw_getI (pc := 26) C dX11_safe_26 fl_X11_147 sR_0 rfl <|
    aw_callF (pc := 29) C (cr_V (rest := []) (F := (X11_findBest 0 (h.1 0 16))) C (c_X11_findBest X.2.1 0 (h.1 0 16)) dX11_safe_29 mf_X11_findBest ml_X11_213 im_X11_findBest se_X11_findBest sR_0 rfl ⟨(Nat.le_of_ble_eq_true rfl), (Nat.le_of_ble_eq_true rfl)⟩ rfl rfl (Nat.le_of_ble_eq_true rfl)) rfl rfl rfl (Nat.zero_le _) (Nat.zero_le _) fun _ h4 =>
    aw_iconst (pc := 32) C (v := 0) dX11_safe_32 rfl <|
    aw_istore_n (pc := 33) C (i := 3) (lv' := [(0, .ref 0), (1, .int v1), (2, .int v2), (3, .int 0)]) dX11_safe_33 rfl (by decide) rfl <|
    (aX11_safe_l34 C v1 v2 (X11_safe_l16 v1 n) ih FU 0 h4))
def X11_safe (v1 : Int32) (h : AH) : Option (Int32 × AH) :=
    bd (X11_isJumper v1 h) fun r1 h2 =>
    if r1 = 0 then (bd (X11_no (-1) h2) fun r17 h18 =>
    some (r17, h18))
    else (X11_safe_l16 v1 FU 0 h2)
set_option maxRecDepth 100000 in
theorem c_X11_safe (l : Launch) (v1 : Int32) : MC l yX11_safe cX11_safe 4 (some .int) rmX11_safe ZR [.ref 0, .int v1] rvI (X11_safe v1) :=
  MC.of (own := RX11) (by decide +kernel) rfl (Nat.le_of_ble_eq_true rfl) fun X yd A h _ C =>
    aw_aload_n (pc := 0) C (i := 0) dX11_safe_0 rfl rfl <|
    aw_iload_n (pc := 1) C (i := 1) dX11_safe_1 rfl rfl <|
    aw_callF (pc := 2) C (cr_V (rest := []) (F := (X11_isJumper v1)) C (c_X11_isJumper X.2.1 v1) dX11_safe_2 mf_X11_isJumper ml_X11_207 im_X11_isJumper se_X11_isJumper sR_0 rfl ⟨(Nat.le_of_ble_eq_true rfl), (Nat.le_of_ble_eq_true rfl)⟩ rfl rfl (Nat.le_of_ble_eq_true rfl)) rfl rfl rfl (Nat.zero_le _) (Nat.zero_le _) fun r1 h2 =>
    aw_if_ne (pc := 5) C (tgt := 14) dX11_safe_5 rfl (fun _ =>
    aw_aload_n (pc := 8) C (i := 0) dX11_safe_8 rfl rfl <|
    aw_iconst (pc := 9) C (v := (-1)) dX11_safe_9 rfl <|
    aw_callF (pc := 10) C (cr_V (rest := []) (F := (X11_no (-1))) C (c_X11_no X.2.1 (-1)) dX11_safe_10 mf_X11_no ml_X11_115 im_X11_no se_X11_no sR_0 rfl ⟨(Nat.le_of_ble_eq_true rfl), (Nat.le_of_ble_eq_true rfl)⟩ rfl rfl (Nat.le_of_ble_eq_true rfl)) rfl rfl rfl (Nat.zero_le _) (Nat.zero_le _) fun r17 h18 =>
    aw_iret (pc := 13) C dX11_safe_13 rfl rfl) (fun _ =>
    aw_iconst (pc := 14) C (v := 0) dX11_safe_14 rfl <|
    aw_istore_n (pc := 15) C (i := 2) (lv' := [(0, .ref 0), (1, .int v1), (2, .int 0)]) dX11_safe_15 rfl (by decide) rfl <|
    (aX11_safe_l16 C v1 FU 0 h2))

abbrev rmX11_mayStill : Room := { frames := 6, cells := 0, slots := 0, locals := 130 }
def X11_mayStill_j60  (v3 : Int32) (K28 : Int32 → Int32 → AH → Option (Int32 × AH)) (s0 : Int32) (s1 : Int32) (h : AH) : Option (Int32 × AH) :=
    vl (s1 ||| s0) fun x9 =>
    vl (v3 + 1) fun x10 =>
    K28 x9 x10 h
set_option maxRecDepth 100000 in
theorem aX11_mayStill_j60 {X : MCx} {yd : Dyn} {A : Nat → Prop} (C : OK X cX11_mayStill RX11 4 (some .int) rmX11_mayStill A)  (v3 : Int32) (K28 : Int32 → Int32 → AH → Option (Int32 × AH)) (hK28 : ∀ (w2 : Int32) (w3 : Int32) (h : AH), AW X 4 ZR yd A 0 0 (QF X rmX11_mayStill ZR yd rvI A) 28 [(0, .ref 0), (2, .int w2), (3, .int w3)] [] h (K28 w2 w3 h)) (s0 : Int32) (s1 : Int32) (h : AH) : AW X 4 ZR yd A 0 0 (QF X rmX11_mayStill ZR yd rvI A) 60 [(0, .ref 0), (3, .int v3)] [.int s0, .int s1] h (X11_mayStill_j60 v3 K28 s0 s1 h) := by
    exact aw_ior (pc := 60) C dX11_mayStill_60 <|
    aw_istoreV_n (pc := 61) C (i := 2) (fun x9 => [(0, .ref 0), (2, .int x9), (3, .int v3)]) dX11_mayStill_61 rfl (by decide) (fun _ => rfl) fun x9 =>
    aw_iincV (pc := 62) C (i := 3) (cst := 1) (fun x10 => [(0, .ref 0), (2, .int x9), (3, .int x10)]) dX11_mayStill_62 rfl rfl (by decide) (fun _ => rfl) fun x10 =>
    aw_goto (pc := 65) C (tgt := 28) dX11_mayStill_65 rfl <|
    (hK28 x9 x10 h)
def X11_mayStill_l28  : Nat → Int32 → Int32 → AH → Option (Int32 × AH)
  | 0, _, _, _ => none
  | n + 1, v2, v3, h =>
    if (h.1 0 15) ≤ v3 then (some (v2, h))
    else (bd (X11_lengthOf v3 0 0 h) fun r5 h6 =>
    bd (X11_isEnough v3 r5 1 h6) fun r7 h8 =>
    if r7 = 0 then (X11_mayStill_j60 v3 (X11_mayStill_l28 n) 0 v2 h8)
    else (X11_mayStill_j60 v3 (X11_mayStill_l28 n) (shl32 1 v3) v2 h8))
set_option maxRecDepth 100000 in
theorem aX11_mayStill_l28 {X : MCx} {yd : Dyn} {A : Nat → Prop} (C : OK X cX11_mayStill RX11 4 (some .int) rmX11_mayStill A)  : ∀ (n : Nat) (v2 : Int32) (v3 : Int32) (h : AH), AW X 4 ZR yd A 0 0 (QF X rmX11_mayStill ZR yd rvI A) 28 [(0, .ref 0), (2, .int v2), (3, .int v3)] [] h (X11_mayStill_l28 n v2 v3 h) := by
  intro n
  induction n with
  | zero => intro v2 v3 h; exact aw_none
  | succ n ih =>
    intro v2 v3 h
    exact aw_iload_n (pc := 28) C (i := 3) dX11_mayStill_28 rfl rfl <|
    aw_aload_n (pc := 29) C (i := 0) dX11_mayStill_29 rfl rfl <|
    aw_getI (pc := 30) C dX11_mayStill_30 fl_X11_105 sR_0 rfl <|
    aw_icmp_ge (pc := 33) C (tgt := 68) dX11_mayStill_33 rfl (fun _ =>
    aw_iload_n (pc := 68) C (i := 2) dX11_mayStill_68 rfl rfl <|
    aw_iret (pc := 69) C dX11_mayStill_69 rfl rfl) (fun _ =>
    aw_iload_n (pc := 36) C (i := 2) dX11_mayStill_36 rfl rfl <|
    aw_aload_n (pc := 37) C (i := 0) dX11_mayStill_37 rfl rfl <|
    aw_iload_n (pc := 38) C (i := 3) dX11_mayStill_38 rfl rfl <|
    aw_aload_n (pc := 39) C (i := 0) dX11_mayStill_39 rfl rfl <|
    aw_iload_n (pc := 40) C (i := 3) dX11_mayStill_40 rfl rfl <|
    aw_iconst (pc := 41) C (v := 0) dX11_mayStill_41 rfl <|
    aw_iconst (pc := 42) C (v := 0) dX11_mayStill_42 rfl <|
    aw_callF (pc := 43) C (cr_V (rest := [.int v3, .ref 0, .int v2]) (F := (X11_lengthOf v3 0 0)) C (c_X11_lengthOf X.2.1 v3 0 0) dX11_mayStill_43 mf_X11_lengthOf ml_X11_163 im_X11_lengthOf se_X11_lengthOf sR_0 rfl ⟨(Nat.le_of_ble_eq_true rfl), (Nat.le_of_ble_eq_true rfl)⟩ rfl rfl (Nat.le_of_ble_eq_true rfl)) rfl rfl rfl (Nat.zero_le _) (Nat.zero_le _) fun r5 h6 =>
    aw_iconst (pc := 46) C (v := 1) dX11_mayStill_46 rfl <|
    aw_callF (pc := 47) C (cr_V (rest := [.int v2]) (F := (X11_isEnough v3 r5 1)) C (c_X11_isEnough X.2.1 v3 r5 1) dX11_mayStill_47 mf_X11_isEnough ml_X11_277 im_X11_isEnough se_X11_isEnough sR_0 rfl ⟨(Nat.le_of_ble_eq_true rfl), (Nat.le_of_ble_eq_true rfl)⟩ rfl rfl (Nat.le_of_ble_eq_true rfl)) rfl rfl rfl (Nat.zero_le _) (Nat.zero_le _) fun r7 h8 =>
    aw_if_eq (pc := 50) C (tgt := 59) dX11_mayStill_50 rfl (fun _ =>
    aw_iconst (pc := 59) C (v := 0) dX11_mayStill_59 rfl <|
    aw_drop [0, 2] (aX11_mayStill_j60 C v3 (X11_mayStill_l28 n) ih 0 v2 h8)) (fun _ =>
    aw_iconst (pc := 53) C (v := 1) dX11_mayStill_53 rfl <|
    aw_iload_n (pc := 54) C (i := 3) dX11_mayStill_54 rfl rfl <|
    aw_ishl (pc := 55) C dX11_mayStill_55 <|
    aw_goto (pc := 56) C (tgt := 60) dX11_mayStill_56 rfl <|
    aw_drop [0, 2] (aX11_mayStill_j60 C v3 (X11_mayStill_l28 n) ih (shl32 1 v3) v2 h8)))
def X11_mayStill  (h : AH) : Option (Int32 × AH) :=
    bd (X11_leader h) fun r1 h2 =>
    bd (X11_turnNow h2) fun r3 h4 =>
    if 0 ≤ r3 then (X11_mayStill_l28 FU 0 0 h4)
    else (if 0 ≤ r1 then (some ((shl32 1 r1), h4))
    else (some (0, h4)))
set_option maxRecDepth 100000 in
theorem c_X11_mayStill (l : Launch)  : MC l yX11_mayStill cX11_mayStill 4 (some .int) rmX11_mayStill ZR [.ref 0] rvI (X11_mayStill) :=
  MC.of (own := RX11) (by decide +kernel) rfl (Nat.le_of_ble_eq_true rfl) fun X yd A h _ C =>
    aw_aload_n (pc := 0) C (i := 0) dX11_mayStill_0 rfl rfl <|
    aw_callF (pc := 1) C (cr_V (rest := []) (F := X11_leader) C (c_X11_leader X.2.1 ) dX11_mayStill_1 mf_X11_leader ml_X11_283 im_X11_leader se_X11_leader sR_0 rfl ⟨(Nat.le_of_ble_eq_true rfl), (Nat.le_of_ble_eq_true rfl)⟩ rfl rfl (Nat.le_of_ble_eq_true rfl)) rfl rfl rfl (Nat.zero_le _) (Nat.zero_le _) fun r1 h2 =>
    aw_istore_n (pc := 4) C (i := 1) (lv' := [(0, .ref 0), (1, .int r1)]) dX11_mayStill_4 rfl (by decide) rfl <|
    aw_aload_n (pc := 5) C (i := 0) dX11_mayStill_5 rfl rfl <|
    aw_callF (pc := 6) C (cr_V (rest := []) (F := X11_turnNow) C (c_X11_turnNow X.2.1 ) dX11_mayStill_6 mf_X11_turnNow ml_X11_150 im_X11_turnNow se_X11_turnNow sR_0 rfl ⟨(Nat.le_of_ble_eq_true rfl), (Nat.le_of_ble_eq_true rfl)⟩ rfl rfl (Nat.le_of_ble_eq_true rfl)) rfl rfl rfl (Nat.zero_le _) (Nat.zero_le _) fun r3 h4 =>
    aw_if_ge (pc := 9) C (tgt := 24) dX11_mayStill_9 rfl (fun _ =>
    aw_iconst (pc := 24) C (v := 0) dX11_mayStill_24 rfl <|
    aw_istore_n (pc := 25) C (i := 2) (lv' := [(0, .ref 0), (1, .int r1), (2, .int 0)]) dX11_mayStill_25 rfl (by decide) rfl <|
    aw_iconst (pc := 26) C (v := 0) dX11_mayStill_26 rfl <|
    aw_istore_n (pc := 27) C (i := 3) (lv' := [(0, .ref 0), (1, .int r1), (2, .int 0), (3, .int 0)]) dX11_mayStill_27 rfl (by decide) rfl <|
    aw_drop [0, 2, 3] (aX11_mayStill_l28 C FU 0 0 h4)) (fun _ =>
    aw_iload_n (pc := 12) C (i := 1) dX11_mayStill_12 rfl rfl <|
    aw_if_ge (pc := 13) C (tgt := 20) dX11_mayStill_13 rfl (fun _ =>
    aw_iconst (pc := 20) C (v := 1) dX11_mayStill_20 rfl <|
    aw_iload_n (pc := 21) C (i := 1) dX11_mayStill_21 rfl rfl <|
    aw_ishl (pc := 22) C dX11_mayStill_22 <|
    aw_iret (pc := 23) C dX11_mayStill_23 rfl rfl) (fun _ =>
    aw_iconst (pc := 16) C (v := 0) dX11_mayStill_16 rfl <|
    aw_goto (pc := 17) C (tgt := 23) dX11_mayStill_17 rfl <|
    aw_iret (pc := 23) C dX11_mayStill_23 rfl rfl))

abbrev rmX11_drawnSlip : Room := { frames := 0, cells := 0, slots := 0, locals := 0 }
def X11_drawnSlip (v1 : Int32) (h : AH) : Option (Int32 × AH) :=
    vl (sI h 0 40 (((h.1 0 40) * 1103515245) + 12345)) fun h1 =>
    vl (rm32 (((h1.1 0 40) &&& 2147483647) / 65536) 4) fun x2 =>
    if x2 = 0 then (ck v1 4 (some ((h1.1 6 v1.toNatClampNeg), h1)))
    else (if x2 = 3 then (ck v1 4 (some ((-(h1.1 6 v1.toNatClampNeg)), h1)))
    else (some (0, h1)))
set_option maxRecDepth 100000 in
theorem c_X11_drawnSlip (l : Launch) (v1 : Int32) : MC l yX11_drawnSlip cX11_drawnSlip 3 (some .int) rmX11_drawnSlip ZR [.ref 0, .int v1] rvI (X11_drawnSlip v1) :=
  MC.of (own := RX11) (by decide +kernel) rfl (Nat.le_of_ble_eq_true rfl) fun X yd A h _ C =>
    aw_aload_n (pc := 0) C (i := 0) dX11_drawnSlip_0 rfl rfl <|
    aw_aload_n (pc := 1) C (i := 0) dX11_drawnSlip_1 rfl rfl <|
    aw_getI (pc := 2) C dX11_drawnSlip_2 fl_X11_336 sR_0 rfl <|
    aw_ldc_w (pc := 5) C (v := 1103515245) dX11_drawnSlip_5 kc_X11_339 <|
    aw_imul (pc := 8) C dX11_drawnSlip_8 <|
    aw_sipush (pc := 9) C (v := 12345) dX11_drawnSlip_9 rfl <|
    aw_iadd (pc := 12) C dX11_drawnSlip_12 <|
    aw_putI (pc := 13) C dX11_drawnSlip_13 fp_X11_336 sR_0 rfl fun h1 =>
    aw_aload_n (pc := 16) C (i := 0) dX11_drawnSlip_16 rfl rfl <|
    aw_getI (pc := 17) C dX11_drawnSlip_17 fl_X11_336 sR_0 rfl <|
    aw_ldc_w (pc := 20) C (v := 2147483647) dX11_drawnSlip_20 kc_X11_340 <|
    aw_iand (pc := 23) C dX11_drawnSlip_23 <|
    aw_ldc_w (pc := 24) C (v := 65536) dX11_drawnSlip_24 kc_X11_341 <|
    aw_idivK (pc := 27) C dX11_drawnSlip_27 (by decide) <|
    aw_iconst (pc := 28) C (v := 4) dX11_drawnSlip_28 rfl <|
    aw_iremK (pc := 29) C dX11_drawnSlip_29 (by decide) <|
    aw_istoreV_n (pc := 30) C (i := 2) (fun x2 => [(0, .ref 0), (1, .int v1), (2, .int x2)]) dX11_drawnSlip_30 rfl (by decide) (fun _ => rfl) fun x2 =>
    aw_iload_n (pc := 31) C (i := 2) dX11_drawnSlip_31 rfl rfl <|
    aw_if_ne (pc := 32) C (tgt := 44) dX11_drawnSlip_32 rfl (fun _ =>
    aw_aload_n (pc := 35) C (i := 0) dX11_drawnSlip_35 rfl rfl <|
    aw_getR (pc := 36) C (b := 6) dX11_drawnSlip_36 fl_X11_25 sR_0 rfl rR_0_5 <|
    aw_iload_n (pc := 39) C (i := 1) dX11_drawnSlip_39 rfl rfl <|
    aw_iald (pc := 40) C dX11_drawnSlip_40 sR_6 rfl <|
    aw_goto (pc := 41) C (tgt := 60) dX11_drawnSlip_41 rfl <|
    aw_iret (pc := 60) C dX11_drawnSlip_60 rfl rfl) (fun _ =>
    aw_iload_n (pc := 44) C (i := 2) dX11_drawnSlip_44 rfl rfl <|
    aw_iconst (pc := 45) C (v := 3) dX11_drawnSlip_45 rfl <|
    aw_icmp_ne (pc := 46) C (tgt := 59) dX11_drawnSlip_46 rfl (fun _ =>
    aw_aload_n (pc := 49) C (i := 0) dX11_drawnSlip_49 rfl rfl <|
    aw_getR (pc := 50) C (b := 6) dX11_drawnSlip_50 fl_X11_25 sR_0 rfl rR_0_5 <|
    aw_iload_n (pc := 53) C (i := 1) dX11_drawnSlip_53 rfl rfl <|
    aw_iald (pc := 54) C dX11_drawnSlip_54 sR_6 rfl <|
    aw_ineg (pc := 55) C dX11_drawnSlip_55 <|
    aw_goto (pc := 56) C (tgt := 60) dX11_drawnSlip_56 rfl <|
    aw_iret (pc := 60) C dX11_drawnSlip_60 rfl rfl) (fun _ =>
    aw_iconst (pc := 59) C (v := 0) dX11_drawnSlip_59 rfl <|
    aw_iret (pc := 60) C dX11_drawnSlip_60 rfl rfl))

abbrev rmX11_triesByLot : Room := { frames := 3, cells := 0, slots := 0, locals := 69 }
def X11_triesByLot_j109  (v2 : Int32) (s0 : Int32) (s1 : Int32) (h : AH) : Option (Unit × AH) :=
    bd (X11_putsTry s1 s0 v2 h) fun _ h6 =>
    some ((), h6)
set_option maxRecDepth 100000 in
theorem aX11_triesByLot_j109 {X : MCx} {yd : Dyn} {A : Nat → Prop} (C : OK X cX11_triesByLot RX11 6 none rmX11_triesByLot A)  (v2 : Int32) (s0 : Int32) (s1 : Int32) (h : AH) : AW X 6 ZR yd A 0 0 (QF X rmX11_triesByLot ZR yd rvV A) 109 [(2, .int v2)] [.int s0, .int s1, .ref 0] h (X11_triesByLot_j109 v2 s0 s1 h) := by
    exact aw_iload_n (pc := 109) C (i := 2) dX11_triesByLot_109 rfl rfl <|
    aw_callF (pc := 110) C (cr_V (rest := []) (F := (X11_putsTry s1 s0 v2)) C (c_X11_putsTry X.2.1 s1 s0 v2) dX11_triesByLot_110 mf_X11_putsTry ml_X11_153 im_X11_putsTry se_X11_putsTry sR_0 rfl ⟨(Nat.le_of_ble_eq_true rfl), (Nat.le_of_ble_eq_true rfl)⟩ rfl rfl (Nat.le_of_ble_eq_true rfl)) rfl rfl rfl (Nat.zero_le _) (Nat.zero_le _) fun _ h6 =>
    aw_vret (pc := 113) C dX11_triesByLot_113 rfl rfl
def X11_triesByLot_j77  (v1 : Int32) (v2 : Int32) (v3 : Int32) (v4 : Int32) (K11 : Int32 → Int32 → Int32 → AH → Option (Unit × AH)) (h : AH) : Option (Unit × AH) :=
    bd (X11_drawnSlip v1 h) fun r7 h8 =>
    vl (v2 - r7) fun x9 =>
    vl (v4 + 1) fun x10 =>
    K11 x9 v3 x10 h8
set_option maxRecDepth 100000 in
theorem aX11_triesByLot_j77 {X : MCx} {yd : Dyn} {A : Nat → Prop} (C : OK X cX11_triesByLot RX11 6 none rmX11_triesByLot A)  (v1 : Int32) (v2 : Int32) (v3 : Int32) (v4 : Int32) (K11 : Int32 → Int32 → Int32 → AH → Option (Unit × AH)) (hK11 : ∀ (w2 : Int32) (w3 : Int32) (w4 : Int32) (h : AH), AW X 6 ZR yd A 0 0 (QF X rmX11_triesByLot ZR yd rvV A) 11 [(0, .ref 0), (1, .int v1), (2, .int w2), (3, .int w3), (4, .int w4)] [] h (K11 w2 w3 w4 h)) (h : AH) : AW X 6 ZR yd A 0 0 (QF X rmX11_triesByLot ZR yd rvV A) 77 [(0, .ref 0), (1, .int v1), (2, .int v2), (3, .int v3), (4, .int v4)] [] h (X11_triesByLot_j77 v1 v2 v3 v4 K11 h) := by
    exact aw_iload_n (pc := 77) C (i := 2) dX11_triesByLot_77 rfl rfl <|
    aw_aload_n (pc := 78) C (i := 0) dX11_triesByLot_78 rfl rfl <|
    aw_iload_n (pc := 79) C (i := 1) dX11_triesByLot_79 rfl rfl <|
    aw_callF (pc := 80) C (cr_V (rest := [.int v2]) (F := (X11_drawnSlip v1)) C (c_X11_drawnSlip X.2.1 v1) dX11_triesByLot_80 mf_X11_drawnSlip ml_X11_342 im_X11_drawnSlip se_X11_drawnSlip sR_0 rfl ⟨(Nat.le_of_ble_eq_true rfl), (Nat.le_of_ble_eq_true rfl)⟩ rfl rfl (Nat.le_of_ble_eq_true rfl)) rfl rfl rfl (Nat.zero_le _) (Nat.zero_le _) fun r7 h8 =>
    aw_isub (pc := 83) C dX11_triesByLot_83 <|
    aw_istoreV_n (pc := 84) C (i := 2) (fun x9 => [(0, .ref 0), (1, .int v1), (2, .int x9), (3, .int v3), (4, .int v4)]) dX11_triesByLot_84 rfl (by decide) (fun _ => rfl) fun x9 =>
    aw_iincV (pc := 85) C (i := 4) (cst := 1) (fun x10 => [(0, .ref 0), (1, .int v1), (2, .int x9), (3, .int v3), (4, .int x10)]) dX11_triesByLot_85 rfl rfl (by decide) (fun _ => rfl) fun x10 =>
    aw_goto (pc := 88) C (tgt := 11) dX11_triesByLot_88 rfl <|
    (hK11 x9 v3 x10 h8)
def X11_triesByLot_j74  (v1 : Int32) (v2 : Int32) (v4 : Int32) (K11 : Int32 → Int32 → Int32 → AH → Option (Unit × AH)) (s0 : Int32) (h : AH) : Option (Unit × AH) :=
    vl (s0 / 4) fun x15 =>
    X11_triesByLot_j77 v1 v2 x15 v4 K11 h
set_option maxRecDepth 100000 in
theorem aX11_triesByLot_j74 {X : MCx} {yd : Dyn} {A : Nat → Prop} (C : OK X cX11_triesByLot RX11 6 none rmX11_triesByLot A)  (v1 : Int32) (v2 : Int32) (v4 : Int32) (K11 : Int32 → Int32 → Int32 → AH → Option (Unit × AH)) (hK11 : ∀ (w2 : Int32) (w3 : Int32) (w4 : Int32) (h : AH), AW X 6 ZR yd A 0 0 (QF X rmX11_triesByLot ZR yd rvV A) 11 [(0, .ref 0), (1, .int v1), (2, .int w2), (3, .int w3), (4, .int w4)] [] h (K11 w2 w3 w4 h)) (s0 : Int32) (h : AH) : AW X 6 ZR yd A 0 0 (QF X rmX11_triesByLot ZR yd rvV A) 74 [(0, .ref 0), (1, .int v1), (2, .int v2), (4, .int v4)] [.int s0] h (X11_triesByLot_j74 v1 v2 v4 K11 s0 h) := by
    exact aw_iconst (pc := 74) C (v := 4) dX11_triesByLot_74 rfl <|
    aw_idivK (pc := 75) C dX11_triesByLot_75 (by decide) <|
    aw_istoreV_n (pc := 76) C (i := 3) (fun x15 => [(0, .ref 0), (1, .int v1), (2, .int v2), (3, .int x15), (4, .int v4)]) dX11_triesByLot_76 rfl (by decide) (fun _ => rfl) fun x15 =>
    (aX11_triesByLot_j77 C v1 v2 x15 v4 K11 hK11 h)
def X11_triesByLot_l11  (v1 : Int32) : Nat → Int32 → Int32 → Int32 → AH → Option (Unit × AH)
  | 0, _, _, _, _ => none
  | n + 1, v2, v3, v4, h =>
    if (h.1 0 12) ≤ v4 then (if 0 ≤ v2 then (bd (X11_lengthOf v1 v2 v3 h) fun r3 h4 =>
    X11_triesByLot_j109 v2 r3 v1 h4)
    else (X11_triesByLot_j109 v2 (-9) v1 h))
    else (ck v1 4 (if (h.1 8 v1.toNatClampNeg) ≤ 0 then (X11_triesByLot_j77 v1 v2 v3 v4 (X11_triesByLot_l11 v1 n) h)
    else (ck v1 4 (if v4 = ((h.1 0 12) - (h.1 8 v1.toNatClampNeg)) then (bd (X11_aimOf v1 h) fun r11 h12 =>
    vl ((v2 - r11) / 2) fun x13 =>
    vl (v2 - x13) fun x14 =>
    if 0 ≤ x13 then (X11_triesByLot_j74 v1 x14 v4 (X11_triesByLot_l11 v1 n) x13 h12)
    else (X11_triesByLot_j74 v1 x14 v4 (X11_triesByLot_l11 v1 n) (-x13) h12))
    else (X11_triesByLot_j77 v1 v2 v3 v4 (X11_triesByLot_l11 v1 n) h)))))
set_option maxRecDepth 100000 in
theorem aX11_triesByLot_l11 {X : MCx} {yd : Dyn} {A : Nat → Prop} (C : OK X cX11_triesByLot RX11 6 none rmX11_triesByLot A)  (v1 : Int32) : ∀ (n : Nat) (v2 : Int32) (v3 : Int32) (v4 : Int32) (h : AH), AW X 6 ZR yd A 0 0 (QF X rmX11_triesByLot ZR yd rvV A) 11 [(0, .ref 0), (1, .int v1), (2, .int v2), (3, .int v3), (4, .int v4)] [] h (X11_triesByLot_l11 v1 n v2 v3 v4 h) := by
  intro n
  induction n with
  | zero => intro v2 v3 v4 h; exact aw_none
  | succ n ih =>
    intro v2 v3 v4 h
    exact aw_iload (pc := 11) C (i := 4) dX11_triesByLot_11 rfl <|
    aw_aload_n (pc := 13) C (i := 0) dX11_triesByLot_13 rfl rfl <|
    aw_getI (pc := 14) C dX11_triesByLot_14 fl_X11_95 sR_0 rfl <|
    aw_icmp_ge (pc := 17) C (tgt := 91) dX11_triesByLot_17 rfl (fun _ =>
    aw_aload_n (pc := 91) C (i := 0) dX11_triesByLot_91 rfl rfl <|
    aw_iload_n (pc := 92) C (i := 1) dX11_triesByLot_92 rfl rfl <|
    aw_iload_n (pc := 93) C (i := 2) dX11_triesByLot_93 rfl rfl <|
    aw_if_ge (pc := 94) C (tgt := 102) dX11_triesByLot_94 rfl (fun _ =>
    aw_aload_n (pc := 102) C (i := 0) dX11_triesByLot_102 rfl rfl <|
    aw_iload_n (pc := 103) C (i := 1) dX11_triesByLot_103 rfl rfl <|
    aw_iload_n (pc := 104) C (i := 2) dX11_triesByLot_104 rfl rfl <|
    aw_iload_n (pc := 105) C (i := 3) dX11_triesByLot_105 rfl rfl <|
    aw_callF (pc := 106) C (cr_V (rest := [.int v1, .ref 0]) (F := (X11_lengthOf v1 v2 v3)) C (c_X11_lengthOf X.2.1 v1 v2 v3) dX11_triesByLot_106 mf_X11_lengthOf ml_X11_163 im_X11_lengthOf se_X11_lengthOf sR_0 rfl ⟨(Nat.le_of_ble_eq_true rfl), (Nat.le_of_ble_eq_true rfl)⟩ rfl rfl (Nat.le_of_ble_eq_true rfl)) rfl rfl rfl (Nat.zero_le _) (Nat.zero_le _) fun r3 h4 =>
    aw_drop [2] (aX11_triesByLot_j109 C v2 r3 v1 h4)) (fun _ =>
    aw_bipush (pc := 97) C (v := (-9)) dX11_triesByLot_97 rfl <|
    aw_goto (pc := 99) C (tgt := 109) dX11_triesByLot_99 rfl <|
    aw_drop [2] (aX11_triesByLot_j109 C v2 (-9) v1 h))) (fun _ =>
    aw_aload_n (pc := 20) C (i := 0) dX11_triesByLot_20 rfl rfl <|
    aw_getR (pc := 21) C (b := 8) dX11_triesByLot_21 fl_X11_31 sR_0 rfl rR_0_7 <|
    aw_iload_n (pc := 24) C (i := 1) dX11_triesByLot_24 rfl rfl <|
    aw_iald (pc := 25) C dX11_triesByLot_25 sR_8 rfl <|
    aw_if_le (pc := 26) C (tgt := 77) dX11_triesByLot_26 rfl (fun _ =>
    (aX11_triesByLot_j77 C v1 v2 v3 v4 (X11_triesByLot_l11 v1 n) ih h)) (fun _ =>
    aw_iload (pc := 29) C (i := 4) dX11_triesByLot_29 rfl <|
    aw_aload_n (pc := 31) C (i := 0) dX11_triesByLot_31 rfl rfl <|
    aw_getI (pc := 32) C dX11_triesByLot_32 fl_X11_95 sR_0 rfl <|
    aw_aload_n (pc := 35) C (i := 0) dX11_triesByLot_35 rfl rfl <|
    aw_getR (pc := 36) C (b := 8) dX11_triesByLot_36 fl_X11_31 sR_0 rfl rR_0_7 <|
    aw_iload_n (pc := 39) C (i := 1) dX11_triesByLot_39 rfl rfl <|
    aw_iald (pc := 40) C dX11_triesByLot_40 sR_8 rfl <|
    aw_isub (pc := 41) C dX11_triesByLot_41 <|
    aw_icmp_ne (pc := 42) C (tgt := 77) dX11_triesByLot_42 rfl (fun _ =>
    aw_iload_n (pc := 45) C (i := 2) dX11_triesByLot_45 rfl rfl <|
    aw_aload_n (pc := 46) C (i := 0) dX11_triesByLot_46 rfl rfl <|
    aw_iload_n (pc := 47) C (i := 1) dX11_triesByLot_47 rfl rfl <|
    aw_callF (pc := 48) C (cr_V (rest := [.int v2]) (F := (X11_aimOf v1)) C (c_X11_aimOf X.2.1 v1) dX11_triesByLot_48 mf_X11_aimOf ml_X11_210 im_X11_aimOf se_X11_aimOf sR_0 rfl ⟨(Nat.le_of_ble_eq_true rfl), (Nat.le_of_ble_eq_true rfl)⟩ rfl rfl (Nat.le_of_ble_eq_true rfl)) rfl rfl rfl (Nat.zero_le _) (Nat.zero_le _) fun r11 h12 =>
    aw_isub (pc := 51) C dX11_triesByLot_51 <|
    aw_iconst (pc := 52) C (v := 2) dX11_triesByLot_52 rfl <|
    aw_idivK (pc := 53) C dX11_triesByLot_53 (by decide) <|
    aw_istoreV (pc := 54) C (i := 5) (fun x13 => [(0, .ref 0), (1, .int v1), (2, .int v2), (3, .int v3), (4, .int v4), (5, .int x13)]) dX11_triesByLot_54 (by decide) (fun _ => rfl) fun x13 =>
    aw_iload_n (pc := 56) C (i := 2) dX11_triesByLot_56 rfl rfl <|
    aw_iload (pc := 57) C (i := 5) dX11_triesByLot_57 rfl <|
    aw_isub (pc := 59) C dX11_triesByLot_59 <|
    aw_istoreV_n (pc := 60) C (i := 2) (fun x14 => [(0, .ref 0), (1, .int v1), (2, .int x14), (3, .int v3), (4, .int v4), (5, .int x13)]) dX11_triesByLot_60 rfl (by decide) (fun _ => rfl) fun x14 =>
    aw_iload (pc := 61) C (i := 5) dX11_triesByLot_61 rfl <|
    aw_if_ge (pc := 63) C (tgt := 72) dX11_triesByLot_63 rfl (fun _ =>
    aw_iload (pc := 72) C (i := 5) dX11_triesByLot_72 rfl <|
    aw_drop [0, 1, 2, 4] (aX11_triesByLot_j74 C v1 x14 v4 (X11_triesByLot_l11 v1 n) ih x13 h12)) (fun _ =>
    aw_iload (pc := 66) C (i := 5) dX11_triesByLot_66 rfl <|
    aw_ineg (pc := 68) C dX11_triesByLot_68 <|
    aw_goto (pc := 69) C (tgt := 74) dX11_triesByLot_69 rfl <|
    aw_drop [0, 1, 2, 4] (aX11_triesByLot_j74 C v1 x14 v4 (X11_triesByLot_l11 v1 n) ih (-x13) h12))) (fun _ =>
    (aX11_triesByLot_j77 C v1 v2 v3 v4 (X11_triesByLot_l11 v1 n) ih h))))
def X11_triesByLot (v1 : Int32) (h : AH) : Option (Unit × AH) :=
    bd (X11_placeOf v1 h) fun r1 h2 =>
    X11_triesByLot_l11 v1 FU r1 0 0 h2
set_option maxRecDepth 100000 in
theorem c_X11_triesByLot (l : Launch) (v1 : Int32) : MC l yX11_triesByLot cX11_triesByLot 6 none rmX11_triesByLot ZR [.ref 0, .int v1] rvV (X11_triesByLot v1) :=
  MC.of (own := RX11) (by decide +kernel) rfl (Nat.le_of_ble_eq_true rfl) fun X yd A h _ C =>
    aw_aload_n (pc := 0) C (i := 0) dX11_triesByLot_0 rfl rfl <|
    aw_iload_n (pc := 1) C (i := 1) dX11_triesByLot_1 rfl rfl <|
    aw_callF (pc := 2) C (cr_V (rest := []) (F := (X11_placeOf v1)) C (c_X11_placeOf X.2.1 v1) dX11_triesByLot_2 mf_X11_placeOf ml_X11_223 im_X11_placeOf se_X11_placeOf sR_0 rfl ⟨(Nat.le_of_ble_eq_true rfl), (Nat.le_of_ble_eq_true rfl)⟩ rfl rfl (Nat.le_of_ble_eq_true rfl)) rfl rfl rfl (Nat.zero_le _) (Nat.zero_le _) fun r1 h2 =>
    aw_istore_n (pc := 5) C (i := 2) (lv' := [(0, .ref 0), (1, .int v1), (2, .int r1)]) dX11_triesByLot_5 rfl (by decide) rfl <|
    aw_iconst (pc := 6) C (v := 0) dX11_triesByLot_6 rfl <|
    aw_istore_n (pc := 7) C (i := 3) (lv' := [(0, .ref 0), (1, .int v1), (2, .int r1), (3, .int 0)]) dX11_triesByLot_7 rfl (by decide) rfl <|
    aw_iconst (pc := 8) C (v := 0) dX11_triesByLot_8 rfl <|
    aw_istore (pc := 9) C (i := 4) (lv' := [(0, .ref 0), (1, .int v1), (2, .int r1), (3, .int 0), (4, .int 0)]) dX11_triesByLot_9 (by decide) rfl <|
    (aX11_triesByLot_l11 C v1 FU r1 0 0 h2)

abbrev rmX11_seeds : Room := { frames := 6, cells := 0, slots := 0, locals := 130 }
def X11_seeds_j175  (v1 : Int32) (v2 : Int32) (v4 : Int32) (v6 : Int32) (v7 : Int32) (v9 : Int32) (v10 : Int32) (K72 : Int32 → Int32 → Int32 → AH → Option (Int32 × AH)) (K132 : Int32 → Int32 → AH → Option (Int32 × AH)) (s0 : Int32) (s1 : Int32) (h : AH) : Option (Int32 × AH) :=
    vl (s1 + s0) fun x15 =>
    vl (v10 + 1) fun x16 =>
    K132 x15 x16 h
set_option maxRecDepth 100000 in
theorem aX11_seeds_j175 {X : MCx} {yd : Dyn} {A : Nat → Prop} (C : OK X cX11_seeds RX11 11 (some .int) rmX11_seeds A)  (v1 : Int32) (v2 : Int32) (v4 : Int32) (v6 : Int32) (v7 : Int32) (v9 : Int32) (v10 : Int32) (K72 : Int32 → Int32 → Int32 → AH → Option (Int32 × AH)) (hK72 : ∀ (w7 : Int32) (w8 : Int32) (w9 : Int32) (h : AH), AW X 11 ZR yd A 0 0 (QF X rmX11_seeds ZR yd rvI A) 72 [(0, .ref 0), (1, .int v1), (2, .int v2), (4, .int v4), (6, .int v6), (7, .int w7), (8, .int w8), (9, .int w9)] [] h (K72 w7 w8 w9 h)) (K132 : Int32 → Int32 → AH → Option (Int32 × AH)) (hK132 : ∀ (w8 : Int32) (w10 : Int32) (h : AH), AW X 11 ZR yd A 0 0 (QF X rmX11_seeds ZR yd rvI A) 132 [(0, .ref 0), (1, .int v1), (2, .int v2), (4, .int v4), (6, .int v6), (7, .int v7), (8, .int w8), (9, .int v9), (10, .int w10)] [] h (K132 w8 w10 h)) (s0 : Int32) (s1 : Int32) (h : AH) : AW X 11 ZR yd A 0 0 (QF X rmX11_seeds ZR yd rvI A) 175 [(0, .ref 0), (1, .int v1), (2, .int v2), (4, .int v4), (6, .int v6), (7, .int v7), (9, .int v9), (10, .int v10)] [.int s0, .int s1] h (X11_seeds_j175 v1 v2 v4 v6 v7 v9 v10 K72 K132 s0 s1 h) := by
    exact aw_iadd (pc := 175) C dX11_seeds_175 <|
    aw_istoreV (pc := 176) C (i := 8) (fun x15 => [(0, .ref 0), (1, .int v1), (2, .int v2), (4, .int v4), (6, .int v6), (7, .int v7), (8, .int x15), (9, .int v9), (10, .int v10)]) dX11_seeds_176 (by decide) (fun _ => rfl) fun x15 =>
    aw_iincV (pc := 178) C (i := 10) (cst := 1) (fun x16 => [(0, .ref 0), (1, .int v1), (2, .int v2), (4, .int v4), (6, .int v6), (7, .int v7), (8, .int x15), (9, .int v9), (10, .int x16)]) dX11_seeds_178 rfl rfl (by decide) (fun _ => rfl) fun x16 =>
    aw_goto (pc := 181) C (tgt := 132) dX11_seeds_181 rfl <|
    (hK132 x15 x16 h)
def X11_seeds_j174  (v1 : Int32) (v2 : Int32) (v4 : Int32) (v6 : Int32) (v7 : Int32) (v9 : Int32) (v10 : Int32) (K72 : Int32 → Int32 → Int32 → AH → Option (Int32 × AH)) (K132 : Int32 → Int32 → AH → Option (Int32 × AH)) (s0 : Int32) (h : AH) : Option (Int32 × AH) :=
    X11_seeds_j175 v1 v2 v4 v6 v7 v9 v10 K72 K132 0 s0 h
set_option maxRecDepth 100000 in
theorem aX11_seeds_j174 {X : MCx} {yd : Dyn} {A : Nat → Prop} (C : OK X cX11_seeds RX11 11 (some .int) rmX11_seeds A)  (v1 : Int32) (v2 : Int32) (v4 : Int32) (v6 : Int32) (v7 : Int32) (v9 : Int32) (v10 : Int32) (K72 : Int32 → Int32 → Int32 → AH → Option (Int32 × AH)) (hK72 : ∀ (w7 : Int32) (w8 : Int32) (w9 : Int32) (h : AH), AW X 11 ZR yd A 0 0 (QF X rmX11_seeds ZR yd rvI A) 72 [(0, .ref 0), (1, .int v1), (2, .int v2), (4, .int v4), (6, .int v6), (7, .int w7), (8, .int w8), (9, .int w9)] [] h (K72 w7 w8 w9 h)) (K132 : Int32 → Int32 → AH → Option (Int32 × AH)) (hK132 : ∀ (w8 : Int32) (w10 : Int32) (h : AH), AW X 11 ZR yd A 0 0 (QF X rmX11_seeds ZR yd rvI A) 132 [(0, .ref 0), (1, .int v1), (2, .int v2), (4, .int v4), (6, .int v6), (7, .int v7), (8, .int w8), (9, .int v9), (10, .int w10)] [] h (K132 w8 w10 h)) (s0 : Int32) (h : AH) : AW X 11 ZR yd A 0 0 (QF X rmX11_seeds ZR yd rvI A) 174 [(0, .ref 0), (1, .int v1), (2, .int v2), (4, .int v4), (6, .int v6), (7, .int v7), (9, .int v9), (10, .int v10)] [.int s0] h (X11_seeds_j174 v1 v2 v4 v6 v7 v9 v10 K72 K132 s0 h) := by
    exact aw_iconst (pc := 174) C (v := 0) dX11_seeds_174 rfl <|
    (aX11_seeds_j175 C v1 v2 v4 v6 v7 v9 v10 K72 hK72 K132 hK132 0 s0 h)
def X11_seeds_l132  (v1 : Int32) (v2 : Int32) (v4 : Int32) (v6 : Int32) (v7 : Int32) (v9 : Int32) (K72 : Int32 → Int32 → Int32 → AH → Option (Int32 × AH)) : Nat → Int32 → Int32 → AH → Option (Int32 × AH)
  | 0, _, _, _ => none
  | n + 1, v8, v10, h =>
    if (h.1 0 16) ≤ v10 then (vl (v9 + 1) fun x14 =>
    K72 v7 v8 x14 h)
    else (ck v10 24 (if (h.1 10 v10.toNatClampNeg) = v1 then (ck v10 24 (if (h.1 11 v10.toNatClampNeg) ≤ 0 then (X11_seeds_j174 v1 v2 v4 v6 v7 v9 v10 K72 (X11_seeds_l132 v1 v2 v4 v6 v7 v9 K72 n) v8 h)
    else (ck v10 24 (X11_seeds_j175 v1 v2 v4 v6 v7 v9 v10 K72 (X11_seeds_l132 v1 v2 v4 v6 v7 v9 K72 n) (h.1 11 v10.toNatClampNeg) v8 h))))
    else (X11_seeds_j174 v1 v2 v4 v6 v7 v9 v10 K72 (X11_seeds_l132 v1 v2 v4 v6 v7 v9 K72 n) v8 h)))
set_option maxRecDepth 100000 in
theorem aX11_seeds_l132 {X : MCx} {yd : Dyn} {A : Nat → Prop} (C : OK X cX11_seeds RX11 11 (some .int) rmX11_seeds A)  (v1 : Int32) (v2 : Int32) (v4 : Int32) (v6 : Int32) (v7 : Int32) (v9 : Int32) (K72 : Int32 → Int32 → Int32 → AH → Option (Int32 × AH)) (hK72 : ∀ (w7 : Int32) (w8 : Int32) (w9 : Int32) (h : AH), AW X 11 ZR yd A 0 0 (QF X rmX11_seeds ZR yd rvI A) 72 [(0, .ref 0), (1, .int v1), (2, .int v2), (4, .int v4), (6, .int v6), (7, .int w7), (8, .int w8), (9, .int w9)] [] h (K72 w7 w8 w9 h)) : ∀ (n : Nat) (v8 : Int32) (v10 : Int32) (h : AH), AW X 11 ZR yd A 0 0 (QF X rmX11_seeds ZR yd rvI A) 132 [(0, .ref 0), (1, .int v1), (2, .int v2), (4, .int v4), (6, .int v6), (7, .int v7), (8, .int v8), (9, .int v9), (10, .int v10)] [] h (X11_seeds_l132 v1 v2 v4 v6 v7 v9 K72 n v8 v10 h) := by
  intro n
  induction n with
  | zero => intro v8 v10 h; exact aw_none
  | succ n ih =>
    intro v8 v10 h
    exact aw_iload (pc := 132) C (i := 10) dX11_seeds_132 rfl <|
    aw_aload_n (pc := 134) C (i := 0) dX11_seeds_134 rfl rfl <|
    aw_getI (pc := 135) C dX11_seeds_135 fl_X11_147 sR_0 rfl <|
    aw_icmp_ge (pc := 138) C (tgt := 184) dX11_seeds_138 rfl (fun _ =>
    aw_iincV (pc := 184) C (i := 9) (cst := 1) (fun x14 => [(0, .ref 0), (1, .int v1), (2, .int v2), (4, .int v4), (6, .int v6), (7, .int v7), (8, .int v8), (9, .int x14), (10, .int v10)]) dX11_seeds_184 rfl rfl (by decide) (fun _ => rfl) fun x14 =>
    aw_goto (pc := 187) C (tgt := 72) dX11_seeds_187 rfl <|
    aw_drop [0, 1, 2, 3, 4, 5, 6, 7] (hK72 v7 v8 x14 h)) (fun _ =>
    aw_iload (pc := 141) C (i := 8) dX11_seeds_141 rfl <|
    aw_aload_n (pc := 143) C (i := 0) dX11_seeds_143 rfl rfl <|
    aw_getR (pc := 144) C (b := 10) dX11_seeds_144 fl_X11_37 sR_0 rfl rR_0_9 <|
    aw_iload (pc := 147) C (i := 10) dX11_seeds_147 rfl <|
    aw_iald (pc := 149) C dX11_seeds_149 sR_10 rfl <|
    aw_iload_n (pc := 150) C (i := 1) dX11_seeds_150 rfl rfl <|
    aw_icmp_ne (pc := 151) C (tgt := 174) dX11_seeds_151 rfl (fun _ =>
    aw_aload_n (pc := 154) C (i := 0) dX11_seeds_154 rfl rfl <|
    aw_getR (pc := 155) C (b := 11) dX11_seeds_155 fl_X11_40 sR_0 rfl rR_0_10 <|
    aw_iload (pc := 158) C (i := 10) dX11_seeds_158 rfl <|
    aw_iald (pc := 160) C dX11_seeds_160 sR_11 rfl <|
    aw_if_le (pc := 161) C (tgt := 174) dX11_seeds_161 rfl (fun _ =>
    aw_drop [0, 1, 2, 3, 4, 5, 7, 8] (aX11_seeds_j174 C v1 v2 v4 v6 v7 v9 v10 K72 hK72 (X11_seeds_l132 v1 v2 v4 v6 v7 v9 K72 n) ih v8 h)) (fun _ =>
    aw_aload_n (pc := 164) C (i := 0) dX11_seeds_164 rfl rfl <|
    aw_getR (pc := 165) C (b := 11) dX11_seeds_165 fl_X11_40 sR_0 rfl rR_0_10 <|
    aw_iload (pc := 168) C (i := 10) dX11_seeds_168 rfl <|
    aw_iald (pc := 170) C dX11_seeds_170 sR_11 rfl <|
    aw_goto (pc := 171) C (tgt := 175) dX11_seeds_171 rfl <|
    aw_drop [0, 1, 2, 3, 4, 5, 7, 8] (aX11_seeds_j175 C v1 v2 v4 v6 v7 v9 v10 K72 hK72 (X11_seeds_l132 v1 v2 v4 v6 v7 v9 K72 n) ih (h.1 11 v10.toNatClampNeg) v8 h))) (fun _ =>
    aw_drop [0, 1, 2, 3, 4, 5, 7, 8] (aX11_seeds_j174 C v1 v2 v4 v6 v7 v9 v10 K72 hK72 (X11_seeds_l132 v1 v2 v4 v6 v7 v9 K72 n) ih v8 h)))
def X11_seeds_j125  (v1 : Int32) (v2 : Int32) (v4 : Int32) (v6 : Int32) (v8 : Int32) (v9 : Int32) (K72 : Int32 → Int32 → Int32 → AH → Option (Int32 × AH)) (s0 : Int32) (s1 : Int32) (h : AH) : Option (Int32 × AH) :=
    vl (s1 + s0) fun x13 =>
    X11_seeds_l132 v1 v2 v4 v6 x13 v9 K72 FU v8 v6 h
set_option maxRecDepth 100000 in
theorem aX11_seeds_j125 {X : MCx} {yd : Dyn} {A : Nat → Prop} (C : OK X cX11_seeds RX11 11 (some .int) rmX11_seeds A)  (v1 : Int32) (v2 : Int32) (v4 : Int32) (v6 : Int32) (v8 : Int32) (v9 : Int32) (K72 : Int32 → Int32 → Int32 → AH → Option (Int32 × AH)) (hK72 : ∀ (w7 : Int32) (w8 : Int32) (w9 : Int32) (h : AH), AW X 11 ZR yd A 0 0 (QF X rmX11_seeds ZR yd rvI A) 72 [(0, .ref 0), (1, .int v1), (2, .int v2), (4, .int v4), (6, .int v6), (7, .int w7), (8, .int w8), (9, .int w9)] [] h (K72 w7 w8 w9 h)) (s0 : Int32) (s1 : Int32) (h : AH) : AW X 11 ZR yd A 0 0 (QF X rmX11_seeds ZR yd rvI A) 125 [(0, .ref 0), (1, .int v1), (2, .int v2), (4, .int v4), (6, .int v6), (8, .int v8), (9, .int v9)] [.int s0, .int s1] h (X11_seeds_j125 v1 v2 v4 v6 v8 v9 K72 s0 s1 h) := by
    exact aw_iadd (pc := 125) C dX11_seeds_125 <|
    aw_istoreV (pc := 126) C (i := 7) (fun x13 => [(0, .ref 0), (1, .int v1), (2, .int v2), (4, .int v4), (6, .int v6), (7, .int x13), (8, .int v8), (9, .int v9)]) dX11_seeds_126 (by decide) (fun _ => rfl) fun x13 =>
    aw_iload (pc := 128) C (i := 6) dX11_seeds_128 rfl <|
    aw_istore (pc := 130) C (i := 10) (lv' := [(0, .ref 0), (1, .int v1), (2, .int v2), (4, .int v4), (6, .int v6), (7, .int x13), (8, .int v8), (9, .int v9), (10, .int v6)]) dX11_seeds_130 (by decide) rfl <|
    (aX11_seeds_l132 C v1 v2 v4 v6 x13 v9 K72 hK72 FU v8 v6 h)
def X11_seeds_l90  (v1 : Int32) (v2 : Int32) (v4 : Int32) (v6 : Int32) (v7 : Int32) (v8 : Int32) (v9 : Int32) (K72 : Int32 → Int32 → Int32 → AH → Option (Int32 × AH)) : Nat → Int32 → AH → Option (Int32 × AH)
  | 0, _, _ => none
  | n + 1, v10, h =>
    if v10 < 0 then (bd (X11_leader h) fun r11 h12 =>
    if r11 = v1 then (X11_seeds_j125 v1 v2 v4 v6 v8 v9 K72 1 v7 h12)
    else (X11_seeds_j125 v1 v2 v4 v6 v8 v9 K72 0 v7 h12))
    else (bd (X11_triesByLot v10 h) fun _ h18 =>
    bd (X11_turnNow h18) fun r19 h20 =>
    (X11_seeds_l90 v1 v2 v4 v6 v7 v8 v9 K72 n) r19 h20)
set_option maxRecDepth 100000 in
theorem aX11_seeds_l90 {X : MCx} {yd : Dyn} {A : Nat → Prop} (C : OK X cX11_seeds RX11 11 (some .int) rmX11_seeds A)  (v1 : Int32) (v2 : Int32) (v4 : Int32) (v6 : Int32) (v7 : Int32) (v8 : Int32) (v9 : Int32) (K72 : Int32 → Int32 → Int32 → AH → Option (Int32 × AH)) (hK72 : ∀ (w7 : Int32) (w8 : Int32) (w9 : Int32) (h : AH), AW X 11 ZR yd A 0 0 (QF X rmX11_seeds ZR yd rvI A) 72 [(0, .ref 0), (1, .int v1), (2, .int v2), (4, .int v4), (6, .int v6), (7, .int w7), (8, .int w8), (9, .int w9)] [] h (K72 w7 w8 w9 h)) : ∀ (n : Nat) (v10 : Int32) (h : AH), AW X 11 ZR yd A 0 0 (QF X rmX11_seeds ZR yd rvI A) 90 [(0, .ref 0), (1, .int v1), (2, .int v2), (4, .int v4), (6, .int v6), (7, .int v7), (8, .int v8), (9, .int v9), (10, .int v10)] [] h (X11_seeds_l90 v1 v2 v4 v6 v7 v8 v9 K72 n v10 h) := by
  intro n
  induction n with
  | zero => intro v10 h; exact aw_none
  | succ n ih =>
    intro v10 h
    exact aw_iload (pc := 90) C (i := 10) dX11_seeds_90 rfl <|
    aw_if_lt (pc := 92) C (tgt := 110) dX11_seeds_92 rfl (fun _ =>
    aw_iload (pc := 110) C (i := 7) dX11_seeds_110 rfl <|
    aw_aload_n (pc := 112) C (i := 0) dX11_seeds_112 rfl rfl <|
    aw_callF (pc := 113) C (cr_V (rest := [.int v7]) (F := X11_leader) C (c_X11_leader X.2.1 ) dX11_seeds_113 mf_X11_leader ml_X11_283 im_X11_leader se_X11_leader sR_0 rfl ⟨(Nat.le_of_ble_eq_true rfl), (Nat.le_of_ble_eq_true rfl)⟩ rfl rfl (Nat.le_of_ble_eq_true rfl)) rfl rfl rfl (Nat.zero_le _) (Nat.zero_le _) fun r11 h12 =>
    aw_iload_n (pc := 116) C (i := 1) dX11_seeds_116 rfl rfl <|
    aw_icmp_ne (pc := 117) C (tgt := 124) dX11_seeds_117 rfl (fun _ =>
    aw_iconst (pc := 120) C (v := 1) dX11_seeds_120 rfl <|
    aw_goto (pc := 121) C (tgt := 125) dX11_seeds_121 rfl <|
    aw_drop [0, 1, 2, 3, 4, 6, 7] (aX11_seeds_j125 C v1 v2 v4 v6 v8 v9 K72 hK72 1 v7 h12)) (fun _ =>
    aw_iconst (pc := 124) C (v := 0) dX11_seeds_124 rfl <|
    aw_drop [0, 1, 2, 3, 4, 6, 7] (aX11_seeds_j125 C v1 v2 v4 v6 v8 v9 K72 hK72 0 v7 h12))) (fun _ =>
    aw_aload_n (pc := 95) C (i := 0) dX11_seeds_95 rfl rfl <|
    aw_iload (pc := 96) C (i := 10) dX11_seeds_96 rfl <|
    aw_callF (pc := 98) C (cr_V (rest := []) (F := (X11_triesByLot v10)) C (c_X11_triesByLot X.2.1 v10) dX11_seeds_98 mf_X11_triesByLot ml_X11_345 im_X11_triesByLot se_X11_triesByLot sR_0 rfl ⟨(Nat.le_of_ble_eq_true rfl), (Nat.le_of_ble_eq_true rfl)⟩ rfl rfl (Nat.le_of_ble_eq_true rfl)) rfl rfl rfl (Nat.zero_le _) (Nat.zero_le _) fun _ h18 =>
    aw_aload_n (pc := 101) C (i := 0) dX11_seeds_101 rfl rfl <|
    aw_callF (pc := 102) C (cr_V (rest := []) (F := X11_turnNow) C (c_X11_turnNow X.2.1 ) dX11_seeds_102 mf_X11_turnNow ml_X11_150 im_X11_turnNow se_X11_turnNow sR_0 rfl ⟨(Nat.le_of_ble_eq_true rfl), (Nat.le_of_ble_eq_true rfl)⟩ rfl rfl (Nat.le_of_ble_eq_true rfl)) rfl rfl rfl (Nat.zero_le _) (Nat.zero_le _) fun r19 h20 =>
    aw_istore (pc := 105) C (i := 10) (lv' := [(0, .ref 0), (1, .int v1), (2, .int v2), (4, .int v4), (6, .int v6), (7, .int v7), (8, .int v8), (9, .int v9), (10, .int r19)]) dX11_seeds_105 (by decide) rfl <|
    aw_goto (pc := 107) C (tgt := 90) dX11_seeds_107 rfl <|
    (ih r19 h20))
def X11_seeds_l72  (v1 : Int32) (v2 : Int32) (v4 : Int32) (v6 : Int32) : Nat → Int32 → Int32 → Int32 → AH → Option (Int32 × AH)
  | 0, _, _, _, _ => none
  | n + 1, v7, v8, v9, h =>
    if v2 ≤ v9 then (vl (sI h 0 16 v6) fun h7 =>
    if v4 = 0 then (some (v7, h7))
    else (some (v8, h7)))
    else (vl (sI h 0 16 v6) fun h8 =>
    bd (X11_turnNow h8) fun r9 h10 =>
    X11_seeds_l90 v1 v2 v4 v6 v7 v8 v9 (X11_seeds_l72 v1 v2 v4 v6 n) FU r9 h10)
set_option maxRecDepth 100000 in
theorem aX11_seeds_l72 {X : MCx} {yd : Dyn} {A : Nat → Prop} (C : OK X cX11_seeds RX11 11 (some .int) rmX11_seeds A)  (v1 : Int32) (v2 : Int32) (v4 : Int32) (v6 : Int32) : ∀ (n : Nat) (v7 : Int32) (v8 : Int32) (v9 : Int32) (h : AH), AW X 11 ZR yd A 0 0 (QF X rmX11_seeds ZR yd rvI A) 72 [(0, .ref 0), (1, .int v1), (2, .int v2), (4, .int v4), (6, .int v6), (7, .int v7), (8, .int v8), (9, .int v9)] [] h (X11_seeds_l72 v1 v2 v4 v6 n v7 v8 v9 h) := by
  intro n
  induction n with
  | zero => intro v7 v8 v9 h; exact aw_none
  | succ n ih =>
    intro v7 v8 v9 h
    exact aw_iload (pc := 72) C (i := 9) dX11_seeds_72 rfl <|
    aw_iload_n (pc := 74) C (i := 2) dX11_seeds_74 rfl rfl <|
    aw_icmp_ge (pc := 75) C (tgt := 190) dX11_seeds_75 rfl (fun _ =>
    aw_aload_n (pc := 190) C (i := 0) dX11_seeds_190 rfl rfl <|
    aw_iload (pc := 191) C (i := 6) dX11_seeds_191 rfl <|
    aw_putI (pc := 193) C dX11_seeds_193 fp_X11_147 sR_0 rfl fun h7 =>
    aw_iload (pc := 196) C (i := 4) dX11_seeds_196 rfl <|
    aw_if_ne (pc := 198) C (tgt := 206) dX11_seeds_198 rfl (fun _ =>
    aw_iload (pc := 201) C (i := 7) dX11_seeds_201 rfl <|
    aw_goto (pc := 203) C (tgt := 208) dX11_seeds_203 rfl <|
    aw_iret (pc := 208) C dX11_seeds_208 rfl rfl) (fun _ =>
    aw_iload (pc := 206) C (i := 8) dX11_seeds_206 rfl <|
    aw_iret (pc := 208) C dX11_seeds_208 rfl rfl)) (fun _ =>
    aw_aload_n (pc := 78) C (i := 0) dX11_seeds_78 rfl rfl <|
    aw_iload (pc := 79) C (i := 6) dX11_seeds_79 rfl <|
    aw_putI (pc := 81) C dX11_seeds_81 fp_X11_147 sR_0 rfl fun h8 =>
    aw_aload_n (pc := 84) C (i := 0) dX11_seeds_84 rfl rfl <|
    aw_callF (pc := 85) C (cr_V (rest := []) (F := X11_turnNow) C (c_X11_turnNow X.2.1 ) dX11_seeds_85 mf_X11_turnNow ml_X11_150 im_X11_turnNow se_X11_turnNow sR_0 rfl ⟨(Nat.le_of_ble_eq_true rfl), (Nat.le_of_ble_eq_true rfl)⟩ rfl rfl (Nat.le_of_ble_eq_true rfl)) rfl rfl rfl (Nat.zero_le _) (Nat.zero_le _) fun r9 h10 =>
    aw_istore (pc := 88) C (i := 10) (lv' := [(0, .ref 0), (1, .int v1), (2, .int v2), (4, .int v4), (6, .int v6), (7, .int v7), (8, .int v8), (9, .int v9), (10, .int r9)]) dX11_seeds_88 (by decide) rfl <|
    (aX11_seeds_l90 C v1 v2 v4 v6 v7 v8 v9 (X11_seeds_l72 v1 v2 v4 v6 n) ih FU r9 h10))
def X11_seeds_j40  (v1 : Int32) (v2 : Int32) (v3 : Int32) (v4 : Int32) (v5 : Int32) (h : AH) : Option (Int32 × AH) :=
    if v5 = 0 then (vl (h.1 0 16) fun x5 =>
    vl (sI h 0 40 v3) fun h6 =>
    X11_seeds_l72 v1 v2 v4 x5 FU 0 0 0 h6)
    else (bd (X11_no v5 h) fun r21 h22 =>
    some (r21, h22))
set_option maxRecDepth 100000 in
theorem aX11_seeds_j40 {X : MCx} {yd : Dyn} {A : Nat → Prop} (C : OK X cX11_seeds RX11 11 (some .int) rmX11_seeds A)  (v1 : Int32) (v2 : Int32) (v3 : Int32) (v4 : Int32) (v5 : Int32) (h : AH) : AW X 11 ZR yd A 0 0 (QF X rmX11_seeds ZR yd rvI A) 40 [(0, .ref 0), (1, .int v1), (2, .int v2), (3, .int v3), (4, .int v4), (5, .int v5)] [] h (X11_seeds_j40 v1 v2 v3 v4 v5 h) := by
    exact aw_iload (pc := 40) C (i := 5) dX11_seeds_40 rfl <|
    aw_if_eq (pc := 42) C (tgt := 52) dX11_seeds_42 rfl (fun _ =>
    aw_aload_n (pc := 52) C (i := 0) dX11_seeds_52 rfl rfl <|
    aw_getI (pc := 53) C dX11_seeds_53 fl_X11_147 sR_0 rfl <|
    aw_istoreV (pc := 56) C (i := 6) (fun x5 => [(0, .ref 0), (1, .int v1), (2, .int v2), (3, .int v3), (4, .int v4), (5, .int v5), (6, .int x5)]) dX11_seeds_56 (by decide) (fun _ => rfl) fun x5 =>
    aw_iconst (pc := 58) C (v := 0) dX11_seeds_58 rfl <|
    aw_istore (pc := 59) C (i := 7) (lv' := [(0, .ref 0), (1, .int v1), (2, .int v2), (3, .int v3), (4, .int v4), (5, .int v5), (6, .int x5), (7, .int 0)]) dX11_seeds_59 (by decide) rfl <|
    aw_iconst (pc := 61) C (v := 0) dX11_seeds_61 rfl <|
    aw_istore (pc := 62) C (i := 8) (lv' := [(0, .ref 0), (1, .int v1), (2, .int v2), (3, .int v3), (4, .int v4), (5, .int v5), (6, .int x5), (7, .int 0), (8, .int 0)]) dX11_seeds_62 (by decide) rfl <|
    aw_aload_n (pc := 64) C (i := 0) dX11_seeds_64 rfl rfl <|
    aw_iload_n (pc := 65) C (i := 3) dX11_seeds_65 rfl rfl <|
    aw_putI (pc := 66) C dX11_seeds_66 fp_X11_336 sR_0 rfl fun h6 =>
    aw_iconst (pc := 69) C (v := 0) dX11_seeds_69 rfl <|
    aw_istore (pc := 70) C (i := 9) (lv' := [(0, .ref 0), (1, .int v1), (2, .int v2), (3, .int v3), (4, .int v4), (5, .int v5), (6, .int x5), (7, .int 0), (8, .int 0), (9, .int 0)]) dX11_seeds_70 (by decide) rfl <|
    aw_drop [0, 1, 2, 4, 6, 7, 8, 9] (aX11_seeds_l72 C v1 v2 v4 x5 FU 0 0 0 h6)) (fun _ =>
    aw_aload_n (pc := 45) C (i := 0) dX11_seeds_45 rfl rfl <|
    aw_iload (pc := 46) C (i := 5) dX11_seeds_46 rfl <|
    aw_callF (pc := 48) C (cr_V (rest := []) (F := (X11_no v5)) C (c_X11_no X.2.1 v5) dX11_seeds_48 mf_X11_no ml_X11_115 im_X11_no se_X11_no sR_0 rfl ⟨(Nat.le_of_ble_eq_true rfl), (Nat.le_of_ble_eq_true rfl)⟩ rfl rfl (Nat.le_of_ble_eq_true rfl)) rfl rfl rfl (Nat.zero_le _) (Nat.zero_le _) fun r21 h22 =>
    aw_iret (pc := 51) C dX11_seeds_51 rfl rfl)
def X11_seeds_j19  (v1 : Int32) (v2 : Int32) (v3 : Int32) (v4 : Int32) (s0 : Int32) (h : AH) : Option (Int32 × AH) :=
    if s0 = 0 then (bd (X11_isIn v4 0 1 h) fun r23 h24 =>
    if r23 = 0 then (vl (-2) fun x25 =>
    X11_seeds_j40 v1 v2 v3 v4 x25 h24)
    else (X11_seeds_j40 v1 v2 v3 v4 s0 h24))
    else (X11_seeds_j40 v1 v2 v3 v4 s0 h)
set_option maxRecDepth 100000 in
theorem aX11_seeds_j19 {X : MCx} {yd : Dyn} {A : Nat → Prop} (C : OK X cX11_seeds RX11 11 (some .int) rmX11_seeds A)  (v1 : Int32) (v2 : Int32) (v3 : Int32) (v4 : Int32) (s0 : Int32) (h : AH) : AW X 11 ZR yd A 0 0 (QF X rmX11_seeds ZR yd rvI A) 19 [(0, .ref 0), (1, .int v1), (2, .int v2), (3, .int v3), (4, .int v4)] [.int s0] h (X11_seeds_j19 v1 v2 v3 v4 s0 h) := by
    exact aw_istore (pc := 19) C (i := 5) (lv' := [(0, .ref 0), (1, .int v1), (2, .int v2), (3, .int v3), (4, .int v4), (5, .int s0)]) dX11_seeds_19 (by decide) rfl <|
    aw_iload (pc := 21) C (i := 5) dX11_seeds_21 rfl <|
    aw_if_ne (pc := 23) C (tgt := 40) dX11_seeds_23 rfl (fun _ =>
    aw_iload (pc := 26) C (i := 4) dX11_seeds_26 rfl <|
    aw_iconst (pc := 28) C (v := 0) dX11_seeds_28 rfl <|
    aw_iconst (pc := 29) C (v := 1) dX11_seeds_29 rfl <|
    aw_callF (pc := 30) C (cr_S (rest := []) (F := (X11_isIn v4 0 1)) C (c_X11_isIn X.2.1 v4 0 1) dX11_seeds_30 mf_X11_isIn ml_X11_126 st_X11_isIn ⟨(Nat.le_of_ble_eq_true rfl), (Nat.le_of_ble_eq_true rfl)⟩ rfl rfl (Nat.le_of_ble_eq_true rfl)) rfl rfl rfl (Nat.zero_le _) (Nat.zero_le _) fun r23 h24 =>
    aw_if_ne (pc := 33) C (tgt := 40) dX11_seeds_33 rfl (fun _ =>
    aw_bipush (pc := 36) C (v := (-2)) dX11_seeds_36 rfl <|
    aw_istoreV (pc := 38) C (i := 5) (fun x25 => [(0, .ref 0), (1, .int v1), (2, .int v2), (3, .int v3), (4, .int v4), (5, .int x25)]) dX11_seeds_38 (by decide) (fun _ => rfl) fun x25 =>
    (aX11_seeds_j40 C v1 v2 v3 v4 x25 h24)) (fun _ =>
    (aX11_seeds_j40 C v1 v2 v3 v4 s0 h24))) (fun _ =>
    (aX11_seeds_j40 C v1 v2 v3 v4 s0 h))
def X11_seeds (v1 : Int32) (v2 : Int32) (v3 : Int32) (v4 : Int32) (h : AH) : Option (Int32 × AH) :=
    bd (X11_isJumper v1 h) fun r1 h2 =>
    if r1 = 0 then (X11_seeds_j19 v1 v2 v3 v4 (-1) h2)
    else (bd (X11_bound v2 1 20 h2) fun r3 h4 =>
    X11_seeds_j19 v1 v2 v3 v4 r3 h4)
set_option maxRecDepth 100000 in
theorem c_X11_seeds (l : Launch) (v1 : Int32) (v2 : Int32) (v3 : Int32) (v4 : Int32) : MC l yX11_seeds cX11_seeds 11 (some .int) rmX11_seeds ZR [.ref 0, .int v1, .int v2, .int v3, .int v4] rvI (X11_seeds v1 v2 v3 v4) :=
  MC.of (own := RX11) (by decide +kernel) rfl (Nat.le_of_ble_eq_true rfl) fun X yd A h _ C =>
    aw_aload_n (pc := 0) C (i := 0) dX11_seeds_0 rfl rfl <|
    aw_iload_n (pc := 1) C (i := 1) dX11_seeds_1 rfl rfl <|
    aw_callF (pc := 2) C (cr_V (rest := []) (F := (X11_isJumper v1)) C (c_X11_isJumper X.2.1 v1) dX11_seeds_2 mf_X11_isJumper ml_X11_207 im_X11_isJumper se_X11_isJumper sR_0 rfl ⟨(Nat.le_of_ble_eq_true rfl), (Nat.le_of_ble_eq_true rfl)⟩ rfl rfl (Nat.le_of_ble_eq_true rfl)) rfl rfl rfl (Nat.zero_le _) (Nat.zero_le _) fun r1 h2 =>
    aw_if_ne (pc := 5) C (tgt := 12) dX11_seeds_5 rfl (fun _ =>
    aw_iconst (pc := 8) C (v := (-1)) dX11_seeds_8 rfl <|
    aw_goto (pc := 9) C (tgt := 19) dX11_seeds_9 rfl <|
    (aX11_seeds_j19 C v1 v2 v3 v4 (-1) h2)) (fun _ =>
    aw_iload_n (pc := 12) C (i := 2) dX11_seeds_12 rfl rfl <|
    aw_iconst (pc := 13) C (v := 1) dX11_seeds_13 rfl <|
    aw_bipush (pc := 14) C (v := 20) dX11_seeds_14 rfl <|
    aw_callF (pc := 16) C (cr_S (rest := []) (F := (X11_bound v2 1 20)) C (c_X11_bound X.2.1 v2 1 20) dX11_seeds_16 mf_X11_bound ml_X11_108 st_X11_bound ⟨(Nat.le_of_ble_eq_true rfl), (Nat.le_of_ble_eq_true rfl)⟩ rfl rfl (Nat.le_of_ble_eq_true rfl)) rfl rfl rfl (Nat.zero_le _) (Nat.zero_le _) fun r3 h4 =>
    (aX11_seeds_j19 C v1 v2 v3 v4 r3 h4))
