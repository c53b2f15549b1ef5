abbrev rmX11_look : Room := { frames := 1, cells := 0, slots := 0, locals := 22 }
def X11_look_j18  (v1 : Int32) (v2 : Int32) (s0 : Int32) (h : AH) : Option (Int32 × AH) :=
    if s0 = 0 then (ck v1 4 (vl (h.1 8 v1.toNatClampNeg) fun x5 =>
    ck v1 4 (vl (sI h 8 v1.toNatClampNeg v2) fun h6 =>
    some (x5, h6))))
    else (bd (X11_no s0 h) fun r7 h8 =>
    some (r7, h8))
set_option maxRecDepth 100000 in
theorem aX11_look_j18 {X : MCx} {yd : Dyn} {A : Nat → Prop} (C : OK X cX11_look RX11 5 (some .int) rmX11_look A)  (v1 : Int32) (v2 : Int32) (s0 : Int32) (h : AH) : AW X 5 ZR yd A 0 0 (QF X rmX11_look ZR yd rvI A) 18 [(0, .ref 0), (1, .int v1), (2, .int v2)] [.int s0] h (X11_look_j18 v1 v2 s0 h) := by
    exact aw_istore_n (pc := 18) C (i := 3) (lv' := [(0, .ref 0), (1, .int v1), (2, .int v2), (3, .int s0)]) dX11_look_18 rfl (by decide) rfl <|
    aw_iload_n (pc := 19) C (i := 3) dX11_look_19 rfl rfl <|
    aw_if_eq (pc := 20) C (tgt := 29) dX11_look_20 rfl (fun _ =>
    aw_aload_n (pc := 29) C (i := 0) dX11_look_29 rfl rfl <|
    aw_getR (pc := 30) C (b := 8) dX11_look_30 fl_X11_31 sR_0 rfl rR_0_7 <|
    aw_iload_n (pc := 33) C (i := 1) dX11_look_33 rfl rfl <|
    aw_iald (pc := 34) C dX11_look_34 sR_8 rfl <|
    aw_istoreV (pc := 35) C (i := 4) (fun x5 => [(0, .ref 0), (1, .int v1), (2, .int v2), (3, .int s0), (4, .int x5)]) dX11_look_35 (by decide) (fun _ => rfl) fun x5 =>
    aw_aload_n (pc := 37) C (i := 0) dX11_look_37 rfl rfl <|
    aw_getR (pc := 38) C (b := 8) dX11_look_38 fl_X11_31 sR_0 rfl rR_0_7 <|
    aw_iload_n (pc := 41) C (i := 1) dX11_look_41 rfl rfl <|
    aw_iload_n (pc := 42) C (i := 2) dX11_look_42 rfl rfl <|
    aw_iast (pc := 43) C dX11_look_43 sR_8 rfl fun h6 =>
    aw_iload (pc := 44) C (i := 4) dX11_look_44 rfl <|
    aw_iret (pc := 46) C dX11_look_46 rfl rfl) (fun _ =>
    aw_aload_n (pc := 23) C (i := 0) dX11_look_23 rfl rfl <|
    aw_iload_n (pc := 24) C (i := 3) dX11_look_24 rfl rfl <|
    aw_callF (pc := 25) C (cr_V (rest := []) (F := (X11_no s0)) C (c_X11_no X.2.1 s0) dX11_look_25 mf_X11_no ml_X11_115 im_X11_no se_X11_no sR_0 rfl ⟨(Nat.le_of_ble_eq_true rfl), (Nat.le_of_ble_eq_true rfl)⟩ rfl rfl (Nat.le_of_ble_eq_true rfl)) rfl rfl rfl (Nat.zero_le _) (Nat.zero_le _) fun r7 h8 =>
    aw_iret (pc := 28) C dX11_look_28 rfl rfl)
def X11_look (v1 : Int32) (v2 : Int32) (h : AH) : Option (Int32 × AH) :=
    bd (X11_isJumper v1 h) fun r1 h2 =>
    if r1 = 0 then (X11_look_j18 v1 v2 (-1) h2)
    else (bd (X11_bound v2 0 4 h2) fun r3 h4 =>
    X11_look_j18 v1 v2 r3 h4)
set_option maxRecDepth 100000 in
theorem c_X11_look (l : Launch) (v1 : Int32) (v2 : Int32) : MC l yX11_look cX11_look 5 (some .int) rmX11_look ZR [.ref 0, .int v1, .int v2] rvI (X11_look v1 v2) :=
  MC.of (own := RX11) (by decide +kernel) rfl (Nat.le_of_ble_eq_true rfl) fun X yd A h _ C =>
    aw_aload_n (pc := 0) C (i := 0) dX11_look_0 rfl rfl <|
    aw_iload_n (pc := 1) C (i := 1) dX11_look_1 rfl rfl <|
    aw_callF (pc := 2) C (cr_V (rest := []) (F := (X11_isJumper v1)) C (c_X11_isJumper X.2.1 v1) dX11_look_2 mf_X11_isJumper ml_X11_207 im_X11_isJumper se_X11_isJumper sR_0 rfl ⟨(Nat.le_of_ble_eq_true rfl), (Nat.le_of_ble_eq_true rfl)⟩ rfl rfl (Nat.le_of_ble_eq_true rfl)) rfl rfl rfl (Nat.zero_le _) (Nat.zero_le _) fun r1 h2 =>
    aw_if_ne (pc := 5) C (tgt := 12) dX11_look_5 rfl (fun _ =>
    aw_iconst (pc := 8) C (v := (-1)) dX11_look_8 rfl <|
    aw_goto (pc := 9) C (tgt := 18) dX11_look_9 rfl <|
    (aX11_look_j18 C v1 v2 (-1) h2)) (fun _ =>
    aw_iload_n (pc := 12) C (i := 2) dX11_look_12 rfl rfl <|
    aw_iconst (pc := 13) C (v := 0) dX11_look_13 rfl <|
    aw_iconst (pc := 14) C (v := 4) dX11_look_14 rfl <|
    aw_callF (pc := 15) C (cr_S (rest := []) (F := (X11_bound v2 0 4)) C (c_X11_bound X.2.1 v2 0 4) dX11_look_15 mf_X11_bound ml_X11_108 st_X11_bound ⟨(Nat.le_of_ble_eq_true rfl), (Nat.le_of_ble_eq_true rfl)⟩ rfl rfl (Nat.le_of_ble_eq_true rfl)) rfl rfl rfl (Nat.zero_le _) (Nat.zero_le _) fun r3 h4 =>
    (aX11_look_j18 C v1 v2 r3 h4))

abbrev rmX11_set : Room := { frames := 1, cells := 0, slots := 0, locals := 22 }
def X11_set_j109  (v4 : Int32) (s0 : Int32) (h : AH) : Option (Int32 × AH) :=
    vl (sI h 0 13 s0) fun h6 =>
    some (v4, h6)
set_option maxRecDepth 100000 in
theorem aX11_set_j109 {X : MCx} {yd : Dyn} {A : Nat → Prop} (C : OK X cX11_set RX11 5 (some .int) rmX11_set A)  (v4 : Int32) (s0 : Int32) (h : AH) : AW X 5 ZR yd A 0 0 (QF X rmX11_set ZR yd rvI A) 109 [(4, .int v4)] [.int s0, .ref 0] h (X11_set_j109 v4 s0 h) := by
    exact aw_putI (pc := 109) C dX11_set_109 fp_X11_99 sR_0 rfl fun h6 =>
    aw_iload (pc := 112) C (i := 4) dX11_set_112 rfl <|
    aw_iret (pc := 114) C dX11_set_114 rfl rfl
def X11_set_j92  (v1 : Int32) (v2 : Int32) (v4 : Int32) (s0 : Int32) (h : AH) : Option (Int32 × AH) :=
    vl (sI h 0 12 s0) fun h5 =>
    if v1 = 1 then (X11_set_j109 v4 v2 h5)
    else (X11_set_j109 v4 (h5.1 0 13) h5)
set_option maxRecDepth 100000 in
theorem aX11_set_j92 {X : MCx} {yd : Dyn} {A : Nat → Prop} (C : OK X cX11_set RX11 5 (some .int) rmX11_set A)  (v1 : Int32) (v2 : Int32) (v4 : Int32) (s0 : Int32) (h : AH) : AW X 5 ZR yd A 0 0 (QF X rmX11_set ZR yd rvI A) 92 [(0, .ref 0), (1, .int v1), (2, .int v2), (4, .int v4)] [.int s0, .ref 0] h (X11_set_j92 v1 v2 v4 s0 h) := by
    exact aw_putI (pc := 92) C dX11_set_92 fp_X11_95 sR_0 rfl fun h5 =>
    aw_aload_n (pc := 95) C (i := 0) dX11_set_95 rfl rfl <|
    aw_iload_n (pc := 96) C (i := 1) dX11_set_96 rfl rfl <|
    aw_iconst (pc := 97) C (v := 1) dX11_set_97 rfl <|
    aw_icmp_ne (pc := 98) C (tgt := 105) dX11_set_98 rfl (fun _ =>
    aw_iload_n (pc := 101) C (i := 2) dX11_set_101 rfl rfl <|
    aw_goto (pc := 102) C (tgt := 109) dX11_set_102 rfl <|
    aw_drop [3] (aX11_set_j109 C v4 v2 h5)) (fun _ =>
    aw_aload_n (pc := 105) C (i := 0) dX11_set_105 rfl rfl <|
    aw_getI (pc := 106) C dX11_set_106 fl_X11_99 sR_0 rfl <|
    aw_drop [3] (aX11_set_j109 C v4 (h5.1 0 13) h5))
def X11_set_j77  (v1 : Int32) (v2 : Int32) (s0 : Int32) (h : AH) : Option (Int32 × AH) :=
    if v1 = 0 then (X11_set_j92 v1 v2 s0 v2 h)
    else (X11_set_j92 v1 v2 s0 (h.1 0 12) h)
set_option maxRecDepth 100000 in
theorem aX11_set_j77 {X : MCx} {yd : Dyn} {A : Nat → Prop} (C : OK X cX11_set RX11 5 (some .int) rmX11_set A)  (v1 : Int32) (v2 : Int32) (s0 : Int32) (h : AH) : AW X 5 ZR yd A 0 0 (QF X rmX11_set ZR yd rvI A) 77 [(0, .ref 0), (1, .int v1), (2, .int v2)] [.int s0] h (X11_set_j77 v1 v2 s0 h) := by
    exact aw_istore (pc := 77) C (i := 4) (lv' := [(0, .ref 0), (1, .int v1), (2, .int v2), (4, .int s0)]) dX11_set_77 (by decide) rfl <|
    aw_aload_n (pc := 79) C (i := 0) dX11_set_79 rfl rfl <|
    aw_iload_n (pc := 80) C (i := 1) dX11_set_80 rfl rfl <|
    aw_if_ne (pc := 81) C (tgt := 88) dX11_set_81 rfl (fun _ =>
    aw_iload_n (pc := 84) C (i := 2) dX11_set_84 rfl rfl <|
    aw_goto (pc := 85) C (tgt := 92) dX11_set_85 rfl <|
    (aX11_set_j92 C v1 v2 s0 v2 h)) (fun _ =>
    aw_aload_n (pc := 88) C (i := 0) dX11_set_88 rfl rfl <|
    aw_getI (pc := 89) C dX11_set_89 fl_X11_95 sR_0 rfl <|
    (aX11_set_j92 C v1 v2 s0 (h.1 0 12) h))
def X11_set_j52  (v1 : Int32) (v2 : Int32) (v3 : Int32) (h : AH) : Option (Int32 × AH) :=
    if v3 = 0 then (if v1 = 0 then (X11_set_j77 v1 v2 (h.1 0 12) h)
    else (X11_set_j77 v1 v2 (h.1 0 13) h))
    else (bd (X11_no v3 h) fun r7 h8 =>
    some (r7, h8))
set_option maxRecDepth 100000 in
theorem aX11_set_j52 {X : MCx} {yd : Dyn} {A : Nat → Prop} (C : OK X cX11_set RX11 5 (some .int) rmX11_set A)  (v1 : Int32) (v2 : Int32) (v3 : Int32) (h : AH) : AW X 5 ZR yd A 0 0 (QF X rmX11_set ZR yd rvI A) 52 [(0, .ref 0), (1, .int v1), (2, .int v2), (3, .int v3)] [] h (X11_set_j52 v1 v2 v3 h) := by
    exact aw_iload_n (pc := 52) C (i := 3) dX11_set_52 rfl rfl <|
    aw_if_eq (pc := 53) C (tgt := 62) dX11_set_53 rfl (fun _ =>
    aw_iload_n (pc := 62) C (i := 1) dX11_set_62 rfl rfl <|
    aw_if_ne (pc := 63) C (tgt := 73) dX11_set_63 rfl (fun _ =>
    aw_aload_n (pc := 66) C (i := 0) dX11_set_66 rfl rfl <|
    aw_getI (pc := 67) C dX11_set_67 fl_X11_95 sR_0 rfl <|
    aw_goto (pc := 70) C (tgt := 77) dX11_set_70 rfl <|
    aw_drop [0, 1, 2] (aX11_set_j77 C v1 v2 (h.1 0 12) h)) (fun _ =>
    aw_aload_n (pc := 73) C (i := 0) dX11_set_73 rfl rfl <|
    aw_getI (pc := 74) C dX11_set_74 fl_X11_99 sR_0 rfl <|
    aw_drop [0, 1, 2] (aX11_set_j77 C v1 v2 (h.1 0 13) h))) (fun _ =>
    aw_aload_n (pc := 56) C (i := 0) dX11_set_56 rfl rfl <|
    aw_iload_n (pc := 57) C (i := 3) dX11_set_57 rfl rfl <|
    aw_callF (pc := 58) C (cr_V (rest := []) (F := (X11_no v3)) C (c_X11_no X.2.1 v3) dX11_set_58 mf_X11_no ml_X11_115 im_X11_no se_X11_no sR_0 rfl ⟨(Nat.le_of_ble_eq_true rfl), (Nat.le_of_ble_eq_true rfl)⟩ rfl rfl (Nat.le_of_ble_eq_true rfl)) rfl rfl rfl (Nat.zero_le _) (Nat.zero_le _) fun r7 h8 =>
    aw_iret (pc := 61) C dX11_set_61 rfl rfl)
def X11_set_j37  (v1 : Int32) (v2 : Int32) (s0 : Int32) (h : AH) : Option (Int32 × AH) :=
    if s0 = 0 then (if (h.1 0 16) ≤ 0 then (X11_set_j52 v1 v2 s0 h)
    else (vl (-3) fun x9 =>
    X11_set_j52 v1 v2 x9 h))
    else (X11_set_j52 v1 v2 s0 h)
set_option maxRecDepth 100000 in
theorem aX11_set_j37 {X : MCx} {yd : Dyn} {A : Nat → Prop} (C : OK X cX11_set RX11 5 (some .int) rmX11_set A)  (v1 : Int32) (v2 : Int32) (s0 : Int32) (h : AH) : AW X 5 ZR yd A 0 0 (QF X rmX11_set ZR yd rvI A) 37 [(0, .ref 0), (1, .int v1), (2, .int v2)] [.int s0] h (X11_set_j37 v1 v2 s0 h) := by
    exact aw_istore_n (pc := 37) C (i := 3) (lv' := [(0, .ref 0), (1, .int v1), (2, .int v2), (3, .int s0)]) dX11_set_37 rfl (by decide) rfl <|
    aw_iload_n (pc := 38) C (i := 3) dX11_set_38 rfl rfl <|
    aw_if_ne (pc := 39) C (tgt := 52) dX11_set_39 rfl (fun _ =>
    aw_aload_n (pc := 42) C (i := 0) dX11_set_42 rfl rfl <|
    aw_getI (pc := 43) C dX11_set_43 fl_X11_147 sR_0 rfl <|
    aw_if_le (pc := 46) C (tgt := 52) dX11_set_46 rfl (fun _ =>
    (aX11_set_j52 C v1 v2 s0 h)) (fun _ =>
    aw_bipush (pc := 49) C (v := (-3)) dX11_set_49 rfl <|
    aw_istoreV_n (pc := 51) C (i := 3) (fun x9 => [(0, .ref 0), (1, .int v1), (2, .int v2), (3, .int x9)]) dX11_set_51 rfl (by decide) (fun _ => rfl) fun x9 =>
    (aX11_set_j52 C v1 v2 x9 h))) (fun _ =>
    (aX11_set_j52 C v1 v2 s0 h))
def X11_set_j34  (v1 : Int32) (v2 : Int32) (s0 : Int32) (s1 : Int32) (s2 : Int32) (h : AH) : Option (Int32 × AH) :=
    bd (X11_bound s2 s1 s0 h) fun r3 h4 =>
    X11_set_j37 v1 v2 r3 h4
set_option maxRecDepth 100000 in
theorem aX11_set_j34 {X : MCx} {yd : Dyn} {A : Nat → Prop} (C : OK X cX11_set RX11 5 (some .int) rmX11_set A)  (v1 : Int32) (v2 : Int32) (s0 : Int32) (s1 : Int32) (s2 : Int32) (h : AH) : AW X 5 ZR yd A 0 0 (QF X rmX11_set ZR yd rvI A) 34 [(0, .ref 0), (1, .int v1), (2, .int v2)] [.int s0, .int s1, .int s2] h (X11_set_j34 v1 v2 s0 s1 s2 h) := by
    exact aw_callF (pc := 34) C (cr_S (rest := []) (F := (X11_bound s2 s1 s0)) C (c_X11_bound X.2.1 s2 s1 s0) dX11_set_34 mf_X11_bound ml_X11_108 st_X11_bound ⟨(Nat.le_of_ble_eq_true rfl), (Nat.le_of_ble_eq_true rfl)⟩ rfl rfl (Nat.le_of_ble_eq_true rfl)) rfl rfl rfl (Nat.zero_le _) (Nat.zero_le _) fun r3 h4 =>
    (aX11_set_j37 C v1 v2 r3 h4)
def X11_set_j24  (v1 : Int32) (v2 : Int32) (s0 : Int32) (s1 : Int32) (h : AH) : Option (Int32 × AH) :=
    if v1 = 0 then (X11_set_j34 v1 v2 20 s0 s1 h)
    else (X11_set_j34 v1 v2 4 s0 s1 h)
set_option maxRecDepth 100000 in
theorem aX11_set_j24 {X : MCx} {yd : Dyn} {A : Nat → Prop} (C : OK X cX11_set RX11 5 (some .int) rmX11_set A)  (v1 : Int32) (v2 : Int32) (s0 : Int32) (s1 : Int32) (h : AH) : AW X 5 ZR yd A 0 0 (QF X rmX11_set ZR yd rvI A) 24 [(0, .ref 0), (1, .int v1), (2, .int v2)] [.int s0, .int s1] h (X11_set_j24 v1 v2 s0 s1 h) := by
    exact aw_iload_n (pc := 24) C (i := 1) dX11_set_24 rfl rfl <|
    aw_if_ne (pc := 25) C (tgt := 33) dX11_set_25 rfl (fun _ =>
    aw_bipush (pc := 28) C (v := 20) dX11_set_28 rfl <|
    aw_goto (pc := 30) C (tgt := 34) dX11_set_30 rfl <|
    (aX11_set_j34 C v1 v2 20 s0 s1 h)) (fun _ =>
    aw_iconst (pc := 33) C (v := 4) dX11_set_33 rfl <|
    (aX11_set_j34 C v1 v2 4 s0 s1 h))
def X11_set (v1 : Int32) (v2 : Int32) (h : AH) : Option (Int32 × AH) :=
    bd (X11_isIn v1 0 1 h) fun r1 h2 =>
    if r1 = 0 then (X11_set_j37 v1 v2 (-2) h2)
    else (if v1 = 0 then (X11_set_j24 v1 v2 4 v2 h2)
    else (X11_set_j24 v1 v2 1 v2 h2))
set_option maxRecDepth 100000 in
theorem c_X11_set (l : Launch) (v1 : Int32) (v2 : Int32) : MC l yX11_set cX11_set 5 (some .int) rmX11_set ZR [.ref 0, .int v1, .int v2] rvI (X11_set v1 v2) :=
  MC.of (own := RX11) (by decide +kernel) rfl (Nat.le_of_ble_eq_true rfl) fun X yd A h _ C =>
    aw_iload_n (pc := 0) C (i := 1) dX11_set_0 rfl rfl <|
    aw_iconst (pc := 1) C (v := 0) dX11_set_1 rfl <|
    aw_iconst (pc := 2) C (v := 1) dX11_set_2 rfl <|
    aw_callF (pc := 3) C (cr_S (rest := []) (F := (X11_isIn v1 0 1)) C (c_X11_isIn X.2.1 v1 0 1) dX11_set_3 mf_X11_isIn ml_X11_126 st_X11_isIn ⟨(Nat.le_of_ble_eq_true rfl), (Nat.le_of_ble_eq_true rfl)⟩ rfl rfl (Nat.le_of_ble_eq_true rfl)) rfl rfl rfl (Nat.zero_le _) (Nat.zero_le _) fun r1 h2 =>
    aw_if_ne (pc := 6) C (tgt := 14) dX11_set_6 rfl (fun _ =>
    aw_bipush (pc := 9) C (v := (-2)) dX11_set_9 rfl <|
    aw_goto (pc := 11) C (tgt := 37) dX11_set_11 rfl <|
    (aX11_set_j37 C v1 v2 (-2) h2)) (fun _ =>
    aw_iload_n (pc := 14) C (i := 2) dX11_set_14 rfl rfl <|
    aw_iload_n (pc := 15) C (i := 1) dX11_set_15 rfl rfl <|
    aw_if_ne (pc := 16) C (tgt := 23) dX11_set_16 rfl (fun _ =>
    aw_iconst (pc := 19) C (v := 4) dX11_set_19 rfl <|
    aw_goto (pc := 20) C (tgt := 24) dX11_set_20 rfl <|
    (aX11_set_j24 C v1 v2 4 v2 h2)) (fun _ =>
    aw_iconst (pc := 23) C (v := 1) dX11_set_23 rfl <|
    (aX11_set_j24 C v1 v2 1 v2 h2)))

abbrev rmX11_wind : Room := { frames := 1, cells := 0, slots := 0, locals := 22 }
def X11_wind (v1 : Int32) (h : AH) : Option (Int32 × AH) :=
    bd (X11_bound v1 (-9) 9 h) fun r1 h2 =>
    if r1 = 0 then (vl (h2.1 0 14) fun x3 =>
    vl (sI h2 0 14 v1) fun h4 =>
    some (x3, h4))
    else (bd (X11_lower r1 h2) fun r5 h6 =>
    some (r5, h6))
set_option maxRecDepth 100000 in
theorem c_X11_wind (l : Launch) (v1 : Int32) : MC l yX11_wind cX11_wind 4 (some .int) rmX11_wind ZR [.ref 0, .int v1] rvI (X11_wind v1) :=
  MC.of (own := RX11) (by decide +kernel) rfl (Nat.le_of_ble_eq_true rfl) fun X yd A h _ C =>
    aw_iload_n (pc := 0) C (i := 1) dX11_wind_0 rfl rfl <|
    aw_bipush (pc := 1) C (v := (-9)) dX11_wind_1 rfl <|
    aw_bipush (pc := 3) C (v := 9) dX11_wind_3 rfl <|
    aw_callF (pc := 5) C (cr_S (rest := []) (F := (X11_bound v1 (-9) 9)) C (c_X11_bound X.2.1 v1 (-9) 9) dX11_wind_5 mf_X11_bound ml_X11_108 st_X11_bound ⟨(Nat.le_of_ble_eq_true rfl), (Nat.le_of_ble_eq_true rfl)⟩ rfl rfl (Nat.le_of_ble_eq_true rfl)) rfl rfl rfl (Nat.zero_le _) (Nat.zero_le _) fun r1 h2 =>
    aw_istore_n (pc := 8) C (i := 2) (lv' := [(0, .ref 0), (1, .int v1), (2, .int r1)]) dX11_wind_8 rfl (by decide) rfl <|
    aw_iload_n (pc := 9) C (i := 2) dX11_wind_9 rfl rfl <|
    aw_if_eq (pc := 10) C (tgt := 19) dX11_wind_10 rfl (fun _ =>
    aw_aload_n (pc := 19) C (i := 0) dX11_wind_19 rfl rfl <|
    aw_getI (pc := 20) C dX11_wind_20 fl_X11_157 sR_0 rfl <|
    aw_istoreV_n (pc := 23) C (i := 3) (fun x3 => [(0, .ref 0), (1, .int v1), (2, .int r1), (3, .int x3)]) dX11_wind_23 rfl (by decide) (fun _ => rfl) fun x3 =>
    aw_aload_n (pc := 24) C (i := 0) dX11_wind_24 rfl rfl <|
    aw_iload_n (pc := 25) C (i := 1) dX11_wind_25 rfl rfl <|
    aw_putI (pc := 26) C dX11_wind_26 fp_X11_157 sR_0 rfl fun h4 =>
    aw_iload_n (pc := 29) C (i := 3) dX11_wind_29 rfl rfl <|
    aw_iret (pc := 30) C dX11_wind_30 rfl rfl) (fun _ =>
    aw_aload_n (pc := 13) C (i := 0) dX11_wind_13 rfl rfl <|
    aw_iload_n (pc := 14) C (i := 2) dX11_wind_14 rfl rfl <|
    aw_callF (pc := 15) C (cr_V (rest := []) (F := (X11_lower r1)) C (c_X11_lower X.2.1 r1) dX11_wind_15 mf_X11_lower ml_X11_220 im_X11_lower se_X11_lower sR_0 rfl ⟨(Nat.le_of_ble_eq_true rfl), (Nat.le_of_ble_eq_true rfl)⟩ rfl rfl (Nat.le_of_ble_eq_true rfl)) rfl rfl rfl (Nat.zero_le _) (Nat.zero_le _) fun r5 h6 =>
    aw_iret (pc := 18) C dX11_wind_18 rfl rfl)

abbrev rmX11_stride : Room := { frames := 1, cells := 0, slots := 0, locals := 24 }
def X11_stride_j23  (v1 : Int32) (v2 : Int32) (s0 : Int32) (h : AH) : Option (Int32 × AH) :=
    if s0 = 0 then (bd (X11_strideIn v1 v2 (h.1 0 14) h) fun r5 h6 =>
    some (r5, h6))
    else (bd (X11_no s0 h) fun r7 h8 =>
    some (r7, h8))
set_option maxRecDepth 100000 in
theorem aX11_stride_j23 {X : MCx} {yd : Dyn} {A : Nat → Prop} (C : OK X cX11_stride RX11 4 (some .int) rmX11_stride A)  (v1 : Int32) (v2 : Int32) (s0 : Int32) (h : AH) : AW X 4 ZR yd A 0 0 (QF X rmX11_stride ZR yd rvI A) 23 [(0, .ref 0), (1, .int v1), (2, .int v2)] [.int s0] h (X11_stride_j23 v1 v2 s0 h) := by
    exact aw_istore_n (pc := 23) C (i := 3) (lv' := [(0, .ref 0), (1, .int v1), (2, .int v2), (3, .int s0)]) dX11_stride_23 rfl (by decide) rfl <|
    aw_iload_n (pc := 24) C (i := 3) dX11_stride_24 rfl rfl <|
    aw_if_eq (pc := 25) C (tgt := 36) dX11_stride_25 rfl (fun _ =>
    aw_aload_n (pc := 36) C (i := 0) dX11_stride_36 rfl rfl <|
    aw_iload_n (pc := 37) C (i := 1) dX11_stride_37 rfl rfl <|
    aw_iload_n (pc := 38) C (i := 2) dX11_stride_38 rfl rfl <|
    aw_aload_n (pc := 39) C (i := 0) dX11_stride_39 rfl rfl <|
    aw_getI (pc := 40) C dX11_stride_40 fl_X11_157 sR_0 rfl <|
    aw_callF (pc := 43) C (cr_V (rest := []) (F := (X11_strideIn v1 v2 (h.1 0 14))) C (c_X11_strideIn X.2.1 v1 v2 (h.1 0 14)) dX11_stride_43 mf_X11_strideIn ml_X11_197 im_X11_strideIn se_X11_strideIn sR_0 rfl ⟨(Nat.le_of_ble_eq_true rfl), (Nat.le_of_ble_eq_true rfl)⟩ rfl rfl (Nat.le_of_ble_eq_true rfl)) rfl rfl rfl (Nat.zero_le _) (Nat.zero_le _) fun r5 h6 =>
    aw_iret (pc := 46) C dX11_stride_46 rfl rfl) (fun _ =>
    aw_aload_n (pc := 28) C (i := 0) dX11_stride_28 rfl rfl <|
    aw_iload_n (pc := 29) C (i := 3) dX11_stride_29 rfl rfl <|
    aw_callF (pc := 30) C (cr_V (rest := []) (F := (X11_no s0)) C (c_X11_no X.2.1 s0) dX11_stride_30 mf_X11_no ml_X11_115 im_X11_no se_X11_no sR_0 rfl ⟨(Nat.le_of_ble_eq_true rfl), (Nat.le_of_ble_eq_true rfl)⟩ rfl rfl (Nat.le_of_ble_eq_true rfl)) rfl rfl rfl (Nat.zero_le _) (Nat.zero_le _) fun r7 h8 =>
    aw_goto (pc := 33) C (tgt := 46) dX11_stride_33 rfl <|
    aw_iret (pc := 46) C dX11_stride_46 rfl rfl)
def X11_stride (v1 : Int32) (v2 : Int32) (h : AH) : Option (Int32 × AH) :=
    bd (X11_isJumper v1 h) fun r1 h2 =>
    if r1 = 0 then (X11_stride_j23 v1 v2 (-1) h2)
    else (bd (X11_bound v2 0 ((h2.1 0 12) - 1) h2) fun r3 h4 =>
    X11_stride_j23 v1 v2 r3 h4)
set_option maxRecDepth 100000 in
theorem c_X11_stride (l : Launch) (v1 : Int32) (v2 : Int32) : MC l yX11_stride cX11_stride 4 (some .int) rmX11_stride ZR [.ref 0, .int v1, .int v2] rvI (X11_stride v1 v2) :=
  MC.of (own := RX11) (by decide +kernel) rfl (Nat.le_of_ble_eq_true rfl) fun X yd A h _ C =>
    aw_aload_n (pc := 0) C (i := 0) dX11_stride_0 rfl rfl <|
    aw_iload_n (pc := 1) C (i := 1) dX11_stride_1 rfl rfl <|
    aw_callF (pc := 2) C (cr_V (rest := []) (F := (X11_isJumper v1)) C (c_X11_isJumper X.2.1 v1) dX11_stride_2 mf_X11_isJumper ml_X11_207 im_X11_isJumper se_X11_isJumper sR_0 rfl ⟨(Nat.le_of_ble_eq_true rfl), (Nat.le_of_ble_eq_true rfl)⟩ rfl rfl (Nat.le_of_ble_eq_true rfl)) rfl rfl rfl (Nat.zero_le _) (Nat.zero_le _) fun r1 h2 =>
    aw_if_ne (pc := 5) C (tgt := 12) dX11_stride_5 rfl (fun _ =>
    aw_iconst (pc := 8) C (v := (-1)) dX11_stride_8 rfl <|
    aw_goto (pc := 9) C (tgt := 23) dX11_stride_9 rfl <|
    (aX11_stride_j23 C v1 v2 (-1) h2)) (fun _ =>
    aw_iload_n (pc := 12) C (i := 2) dX11_stride_12 rfl rfl <|
    aw_iconst (pc := 13) C (v := 0) dX11_stride_13 rfl <|
    aw_aload_n (pc := 14) C (i := 0) dX11_stride_14 rfl rfl <|
    aw_getI (pc := 15) C dX11_stride_15 fl_X11_95 sR_0 rfl <|
    aw_iconst (pc := 18) C (v := 1) dX11_stride_18 rfl <|
    aw_isub (pc := 19) C dX11_stride_19 <|
    aw_callF (pc := 20) C (cr_S (rest := []) (F := (X11_bound v2 0 ((h2.1 0 12) - 1))) C (c_X11_bound X.2.1 v2 0 ((h2.1 0 12) - 1)) dX11_stride_20 mf_X11_bound ml_X11_108 st_X11_bound ⟨(Nat.le_of_ble_eq_true rfl), (Nat.le_of_ble_eq_true rfl)⟩ rfl rfl (Nat.le_of_ble_eq_true rfl)) rfl rfl rfl (Nat.zero_le _) (Nat.zero_le _) fun r3 h4 =>
    (aX11_stride_j23 C v1 v2 r3 h4))

abbrev rmX11_place : Room := { frames := 3, cells := 0, slots := 0, locals := 69 }
def X11_place (v1 : Int32) (h : AH) : Option (Int32 × AH) :=
    bd (X11_isJumper v1 h) fun r1 h2 =>
    if r1 = 0 then (bd (X11_lower (-1) h2) fun r3 h4 =>
    some (r3, h4))
    else (bd (X11_placeOf v1 h2) fun r5 h6 =>
    some (r5, h6))
set_option maxRecDepth 100000 in
theorem c_X11_place (l : Launch) (v1 : Int32) : MC l yX11_place cX11_place 2 (some .int) rmX11_place ZR [.ref 0, .int v1] rvI (X11_place v1) :=
  MC.of (own := RX11) (by decide +kernel) rfl (Nat.le_of_ble_eq_true rfl) fun X yd A h _ C =>
    aw_aload_n (pc := 0) C (i := 0) dX11_place_0 rfl rfl <|
    aw_iload_n (pc := 1) C (i := 1) dX11_place_1 rfl rfl <|
    aw_callF (pc := 2) C (cr_V (rest := []) (F := (X11_isJumper v1)) C (c_X11_isJumper X.2.1 v1) dX11_place_2 mf_X11_isJumper ml_X11_207 im_X11_isJumper se_X11_isJumper sR_0 rfl ⟨(Nat.le_of_ble_eq_true rfl), (Nat.le_of_ble_eq_true rfl)⟩ rfl rfl (Nat.le_of_ble_eq_true rfl)) rfl rfl rfl (Nat.zero_le _) (Nat.zero_le _) fun r1 h2 =>
    aw_if_eq (pc := 5) C (tgt := 16) dX11_place_5 rfl (fun _ =>
    aw_aload_n (pc := 16) C (i := 0) dX11_place_16 rfl rfl <|
    aw_iconst (pc := 17) C (v := (-1)) dX11_place_17 rfl <|
    aw_callF (pc := 18) C (cr_V (rest := []) (F := (X11_lower (-1))) C (c_X11_lower X.2.1 (-1)) dX11_place_18 mf_X11_lower ml_X11_220 im_X11_lower se_X11_lower sR_0 rfl ⟨(Nat.le_of_ble_eq_true rfl), (Nat.le_of_ble_eq_true rfl)⟩ rfl rfl (Nat.le_of_ble_eq_true rfl)) rfl rfl rfl (Nat.zero_le _) (Nat.zero_le _) fun r3 h4 =>
    aw_iret (pc := 21) C dX11_place_21 rfl rfl) (fun _ =>
    aw_aload_n (pc := 8) C (i := 0) dX11_place_8 rfl rfl <|
    aw_iload_n (pc := 9) C (i := 1) dX11_place_9 rfl rfl <|
    aw_callF (pc := 10) C (cr_V (rest := []) (F := (X11_placeOf v1)) C (c_X11_placeOf X.2.1 v1) dX11_place_10 mf_X11_placeOf ml_X11_223 im_X11_placeOf se_X11_placeOf sR_0 rfl ⟨(Nat.le_of_ble_eq_true rfl), (Nat.le_of_ble_eq_true rfl)⟩ rfl rfl (Nat.le_of_ble_eq_true rfl)) rfl rfl rfl (Nat.zero_le _) (Nat.zero_le _) fun r5 h6 =>
    aw_goto (pc := 13) C (tgt := 21) dX11_place_13 rfl <|
    aw_iret (pc := 21) C dX11_place_21 rfl rfl)

abbrev rmX11_length : Room := { frames := 2, cells := 0, slots := 0, locals := 45 }
def X11_length_j44  (v1 : Int32) (v2 : Int32) (v3 : Int32) (s0 : Int32) (h : AH) : Option (Int32 × AH) :=
    if s0 = 0 then (bd (X11_lengthOf v1 v2 v3 h) fun r3 h4 =>
    some (r3, h4))
    else (bd (X11_no s0 h) fun r5 h6 =>
    some (r5, h6))
set_option maxRecDepth 100000 in
theorem aX11_length_j44 {X : MCx} {yd : Dyn} {A : Nat → Prop} (C : OK X cX11_length RX11 5 (some .int) rmX11_length A)  (v1 : Int32) (v2 : Int32) (v3 : Int32) (s0 : Int32) (h : AH) : AW X 5 ZR yd A 0 0 (QF X rmX11_length ZR yd rvI A) 44 [(0, .ref 0), (1, .int v1), (2, .int v2), (3, .int v3)] [.int s0] h (X11_length_j44 v1 v2 v3 s0 h) := by
    exact aw_istore (pc := 44) C (i := 4) (lv' := [(0, .ref 0), (1, .int v1), (2, .int v2), (3, .int v3), (4, .int s0)]) dX11_length_44 (by decide) rfl <|
    aw_iload (pc := 46) C (i := 4) dX11_length_46 rfl <|
    aw_if_eq (pc := 48) C (tgt := 60) dX11_length_48 rfl (fun _ =>
    aw_aload_n (pc := 60) C (i := 0) dX11_length_60 rfl rfl <|
    aw_iload_n (pc := 61) C (i := 1) dX11_length_61 rfl rfl <|
    aw_iload_n (pc := 62) C (i := 2) dX11_length_62 rfl rfl <|
    aw_iload_n (pc := 63) C (i := 3) dX11_length_63 rfl rfl <|
    aw_callF (pc := 64) C (cr_V (rest := []) (F := (X11_lengthOf v1 v2 v3)) C (c_X11_lengthOf X.2.1 v1 v2 v3) dX11_length_64 mf_X11_lengthOf ml_X11_163 im_X11_lengthOf se_X11_lengthOf sR_0 rfl ⟨(Nat.le_of_ble_eq_true rfl), (Nat.le_of_ble_eq_true rfl)⟩ rfl rfl (Nat.le_of_ble_eq_true rfl)) rfl rfl rfl (Nat.zero_le _) (Nat.zero_le _) fun r3 h4 =>
    aw_iret (pc := 67) C dX11_length_67 rfl rfl) (fun _ =>
    aw_aload_n (pc := 51) C (i := 0) dX11_length_51 rfl rfl <|
    aw_iload (pc := 52) C (i := 4) dX11_length_52 rfl <|
    aw_callF (pc := 54) C (cr_V (rest := []) (F := (X11_no s0)) C (c_X11_no X.2.1 s0) dX11_length_54 mf_X11_no ml_X11_115 im_X11_no se_X11_no sR_0 rfl ⟨(Nat.le_of_ble_eq_true rfl), (Nat.le_of_ble_eq_true rfl)⟩ rfl rfl (Nat.le_of_ble_eq_true rfl)) rfl rfl rfl (Nat.zero_le _) (Nat.zero_le _) fun r5 h6 =>
    aw_goto (pc := 57) C (tgt := 67) dX11_length_57 rfl <|
    aw_iret (pc := 67) C dX11_length_67 rfl rfl)
def X11_length_j20  (v1 : Int32) (v2 : Int32) (v3 : Int32) (h : AH) : Option (Int32 × AH) :=
    X11_length_j44 v1 v2 v3 (-4) h
set_option maxRecDepth 100000 in
theorem aX11_length_j20 {X : MCx} {yd : Dyn} {A : Nat → Prop} (C : OK X cX11_length RX11 5 (some .int) rmX11_length A)  (v1 : Int32) (v2 : Int32) (v3 : Int32) (h : AH) : AW X 5 ZR yd A 0 0 (QF X rmX11_length ZR yd rvI A) 20 [(0, .ref 0), (1, .int v1), (2, .int v2), (3, .int v3)] [] h (X11_length_j20 v1 v2 v3 h) := by
    exact aw_bipush (pc := 20) C (v := (-4)) dX11_length_20 rfl <|
    aw_goto (pc := 22) C (tgt := 44) dX11_length_22 rfl <|
    (aX11_length_j44 C v1 v2 v3 (-4) h)
def X11_length_j38  (v1 : Int32) (v2 : Int32) (v3 : Int32) (h : AH) : Option (Int32 × AH) :=
    X11_length_j44 v1 v2 v3 (-6) h
set_option maxRecDepth 100000 in
theorem aX11_length_j38 {X : MCx} {yd : Dyn} {A : Nat → Prop} (C : OK X cX11_length RX11 5 (some .int) rmX11_length A)  (v1 : Int32) (v2 : Int32) (v3 : Int32) (h : AH) : AW X 5 ZR yd A 0 0 (QF X rmX11_length ZR yd rvI A) 38 [(0, .ref 0), (1, .int v1), (2, .int v2), (3, .int v3)] [] h (X11_length_j38 v1 v2 v3 h) := by
    exact aw_bipush (pc := 38) C (v := (-6)) dX11_length_38 rfl <|
    aw_goto (pc := 40) C (tgt := 44) dX11_length_40 rfl <|
    (aX11_length_j44 C v1 v2 v3 (-6) h)
def X11_length (v1 : Int32) (v2 : Int32) (v3 : Int32) (h : AH) : Option (Int32 × AH) :=
    bd (X11_isJumper v1 h) fun r1 h2 =>
    if r1 = 0 then (X11_length_j44 v1 v2 v3 (-1) h2)
    else (if v2 < 0 then (X11_length_j20 v1 v2 v3 h2)
    else (if 0 ≤ v3 then (if 300 < v2 then (X11_length_j38 v1 v2 v3 h2)
    else (if v3 ≤ 99 then (X11_length_j44 v1 v2 v3 0 h2)
    else (X11_length_j38 v1 v2 v3 h2)))
    else (X11_length_j20 v1 v2 v3 h2)))
set_option maxRecDepth 100000 in
theorem c_X11_length (l : Launch) (v1 : Int32) (v2 : Int32) (v3 : Int32) : MC l yX11_length cX11_length 5 (some .int) rmX11_length ZR [.ref 0, .int v1, .int v2, .int v3] rvI (X11_length v1 v2 v3) :=
  MC.of (own := RX11) (by decide +kernel) rfl (Nat.le_of_ble_eq_true rfl) fun X yd A h _ C =>
    aw_aload_n (pc := 0) C (i := 0) dX11_length_0 rfl rfl <|
    aw_iload_n (pc := 1) C (i := 1) dX11_length_1 rfl rfl <|
    aw_callF (pc := 2) C (cr_V (rest := []) (F := (X11_isJumper v1)) C (c_X11_isJumper X.2.1 v1) dX11_length_2 mf_X11_isJumper ml_X11_207 im_X11_isJumper se_X11_isJumper sR_0 rfl ⟨(Nat.le_of_ble_eq_true rfl), (Nat.le_of_ble_eq_true rfl)⟩ rfl rfl (Nat.le_of_ble_eq_true rfl)) rfl rfl rfl (Nat.zero_le _) (Nat.zero_le _) fun r1 h2 =>
    aw_if_ne (pc := 5) C (tgt := 12) dX11_length_5 rfl (fun _ =>
    aw_iconst (pc := 8) C (v := (-1)) dX11_length_8 rfl <|
    aw_goto (pc := 9) C (tgt := 44) dX11_length_9 rfl <|
    (aX11_length_j44 C v1 v2 v3 (-1) h2)) (fun _ =>
    aw_iload_n (pc := 12) C (i := 2) dX11_length_12 rfl rfl <|
    aw_if_lt (pc := 13) C (tgt := 20) dX11_length_13 rfl (fun _ =>
    (aX11_length_j20 C v1 v2 v3 h2)) (fun _ =>
    aw_iload_n (pc := 16) C (i := 3) dX11_length_16 rfl rfl <|
    aw_if_ge (pc := 17) C (tgt := 25) dX11_length_17 rfl (fun _ =>
    aw_iload_n (pc := 25) C (i := 2) dX11_length_25 rfl rfl <|
    aw_sipush (pc := 26) C (v := 300) dX11_length_26 rfl <|
    aw_icmp_gt (pc := 29) C (tgt := 38) dX11_length_29 rfl (fun _ =>
    (aX11_length_j38 C v1 v2 v3 h2)) (fun _ =>
    aw_iload_n (pc := 32) C (i := 3) dX11_length_32 rfl rfl <|
    aw_bipush (pc := 33) C (v := 99) dX11_length_33 rfl <|
    aw_icmp_le (pc := 35) C (tgt := 43) dX11_length_35 rfl (fun _ =>
    aw_iconst (pc := 43) C (v := 0) dX11_length_43 rfl <|
    (aX11_length_j44 C v1 v2 v3 0 h2)) (fun _ =>
    (aX11_length_j38 C v1 v2 v3 h2)))) (fun _ =>
    (aX11_length_j20 C v1 v2 v3 h2))))

abbrev rmX11_findWays : Room := { frames := 0, cells := 0, slots := 0, locals := 0 }
def X11_findWays_j106 (p0 : Nat) (n0 : Nat) (v1 : Int32) (v2 : Int32) (v3 : Int32) (v4 : Int32) (K30 : Int32 → AH → Option (Unit × AH)) (K52 : Int32 → AH → Option (Unit × AH)) (h : AH) : Option (Unit × AH) :=
    vl (v4 + 1) fun x3 =>
    K52 x3 h
set_option maxRecDepth 100000 in
theorem aX11_findWays_j106 {X : MCx} {yd : Dyn} {A : Nat → Prop} (C : OK X cX11_findWays RX11 7 none rmX11_findWays A) (p0 : Nat) (n0 : Nat) (hA0 : ZR.1[p0]? = some (.inl (1, 1, n0))) (v1 : Int32) (v2 : Int32) (v3 : Int32) (v4 : Int32) (K30 : Int32 → AH → Option (Unit × AH)) (hK30 : ∀ (w2 : Int32) (h : AH), AW X 7 ZR yd A 0 0 (QF X rmX11_findWays ZR yd rvV A) 30 [(0, .ref p0), (1, .int v1), (2, .int w2)] [] h (K30 w2 h)) (K52 : Int32 → AH → Option (Unit × AH)) (hK52 : ∀ (w4 : Int32) (h : AH), AW X 7 ZR yd A 0 0 (QF X rmX11_findWays ZR yd rvV A) 52 [(0, .ref p0), (1, .int v1), (2, .int v2), (3, .int v3), (4, .int w4)] [] h (K52 w4 h)) (h : AH) : AW X 7 ZR yd A 0 0 (QF X rmX11_findWays ZR yd rvV A) 106 [(0, .ref p0), (1, .int v1), (2, .int v2), (3, .int v3), (4, .int v4)] [] h (X11_findWays_j106 p0 n0 v1 v2 v3 v4 K30 K52 h) := by
    exact aw_iincV (pc := 106) C (i := 4) (cst := 1) (fun x3 => [(0, .ref p0), (1, .int v1), (2, .int v2), (3, .int v3), (4, .int x3)]) dX11_findWays_106 rfl rfl (by decide) (fun _ => rfl) fun x3 =>
    aw_goto (pc := 109) C (tgt := 52) dX11_findWays_109 rfl <|
    (hK52 x3 h)
def X11_findWays_j75 (p0 : Nat) (n0 : Nat) (v1 : Int32) (v2 : Int32) (v3 : Int32) (v4 : Int32) (K30 : Int32 → AH → Option (Unit × AH)) (K52 : Int32 → AH → Option (Unit × AH)) (s0 : Int32) (h : AH) : Option (Unit × AH) :=
    vl (s0 - v3) fun x2 =>
    if x2 < 0 then (X11_findWays_j106 p0 n0 v1 v2 v3 v4 K30 K52 h)
    else (if (Int32.ofNat n0) ≤ x2 then (X11_findWays_j106 p0 n0 v1 v2 v3 v4 K30 K52 h)
    else (ck s0 n0 (ck x2 n0 (ck s0 n0 (vl (sL h p0 s0.toNatClampNeg ((h.2.1 p0 s0.toNatClampNeg) + (h.2.1 p0 x2.toNatClampNeg))) fun h4 =>
    X11_findWays_j106 p0 n0 v1 v2 v3 v4 K30 K52 h4)))))
set_option maxRecDepth 100000 in
theorem aX11_findWays_j75 {X : MCx} {yd : Dyn} {A : Nat → Prop} (C : OK X cX11_findWays RX11 7 none rmX11_findWays A) (p0 : Nat) (n0 : Nat) (hA0 : ZR.1[p0]? = some (.inl (1, 1, n0))) (v1 : Int32) (v2 : Int32) (v3 : Int32) (v4 : Int32) (K30 : Int32 → AH → Option (Unit × AH)) (hK30 : ∀ (w2 : Int32) (h : AH), AW X 7 ZR yd A 0 0 (QF X rmX11_findWays ZR yd rvV A) 30 [(0, .ref p0), (1, .int v1), (2, .int w2)] [] h (K30 w2 h)) (K52 : Int32 → AH → Option (Unit × AH)) (hK52 : ∀ (w4 : Int32) (h : AH), AW X 7 ZR yd A 0 0 (QF X rmX11_findWays ZR yd rvV A) 52 [(0, .ref p0), (1, .int v1), (2, .int v2), (3, .int v3), (4, .int w4)] [] h (K52 w4 h)) (s0 : Int32) (h : AH) : AW X 7 ZR yd A 0 0 (QF X rmX11_findWays ZR yd rvV A) 75 [(0, .ref p0), (1, .int v1), (2, .int v2), (3, .int v3), (4, .int v4)] [.int s0] h (X11_findWays_j75 p0 n0 v1 v2 v3 v4 K30 K52 s0 h) := by
    exact aw_istore (pc := 75) C (i := 5) (lv' := [(0, .ref p0), (1, .int v1), (2, .int v2), (3, .int v3), (4, .int v4), (5, .int s0)]) dX11_findWays_75 (by decide) rfl <|
    aw_iload (pc := 77) C (i := 5) dX11_findWays_77 rfl <|
    aw_iload_n (pc := 79) C (i := 3) dX11_findWays_79 rfl rfl <|
    aw_isub (pc := 80) C dX11_findWays_80 <|
    aw_istoreV (pc := 81) C (i := 6) (fun x2 => [(0, .ref p0), (1, .int v1), (2, .int v2), (3, .int v3), (4, .int v4), (5, .int s0), (6, .int x2)]) dX11_findWays_81 (by decide) (fun _ => rfl) fun x2 =>
    aw_iload (pc := 83) C (i := 6) dX11_findWays_83 rfl <|
    aw_if_lt (pc := 85) C (tgt := 106) dX11_findWays_85 rfl (fun _ =>
    aw_drop [0, 1, 2, 3, 4] (aX11_findWays_j106 C p0 n0 hA0 v1 v2 v3 v4 K30 hK30 K52 hK52 h)) (fun _ =>
    aw_iload (pc := 88) C (i := 6) dX11_findWays_88 rfl <|
    aw_aload_n (pc := 90) C (i := 0) dX11_findWays_90 rfl rfl <|
    aw_alenI (pc := 91) C (v := (Int32.ofNat n0)) (by decide) dX11_findWays_91 hA0 rfl rfl <|
    aw_icmp_ge (pc := 92) C (tgt := 106) dX11_findWays_92 rfl (fun _ =>
    aw_drop [0, 1, 2, 3, 4] (aX11_findWays_j106 C p0 n0 hA0 v1 v2 v3 v4 K30 hK30 K52 hK52 h)) (fun _ =>
    aw_aload_n (pc := 95) C (i := 0) dX11_findWays_95 rfl rfl <|
    aw_iload (pc := 96) C (i := 5) dX11_findWays_96 rfl <|
    aw_dup2 (pc := 98) C dX11_findWays_98 rfl rfl <|
    aw_lald (pc := 99) C dX11_findWays_99 hA0 rfl <|
    aw_aload_n (pc := 100) C (i := 0) dX11_findWays_100 rfl rfl <|
    aw_iload (pc := 101) C (i := 6) dX11_findWays_101 rfl <|
    aw_lald (pc := 103) C dX11_findWays_103 hA0 rfl <|
    aw_ladd (pc := 104) C dX11_findWays_104 <|
    aw_last (pc := 105) C dX11_findWays_105 hA0 rfl fun h4 =>
    aw_drop [0, 1, 2, 3, 4] (aX11_findWays_j106 C p0 n0 hA0 v1 v2 v3 v4 K30 hK30 K52 hK52 h4)))
def X11_findWays_l52 (p0 : Nat) (n0 : Nat) (v1 : Int32) (v2 : Int32) (v3 : Int32) (K30 : Int32 → AH → Option (Unit × AH)) : Nat → Int32 → AH → Option (Unit × AH)
  | 0, _, _ => none
  | n + 1, v4, h =>
    if (Int32.ofNat n0) ≤ v4 then (vl (v2 + 1) fun x1 =>
    K30 x1 h)
    else (if v3 ≤ 0 then (X11_findWays_j75 p0 n0 v1 v2 v3 v4 K30 (X11_findWays_l52 p0 n0 v1 v2 v3 K30 n) v4 h)
    else (X11_findWays_j75 p0 n0 v1 v2 v3 v4 K30 (X11_findWays_l52 p0 n0 v1 v2 v3 K30 n) (((Int32.ofNat n0) - 1) - v4) h))
set_option maxRecDepth 100000 in
theorem aX11_findWays_l52 {X : MCx} {yd : Dyn} {A : Nat → Prop} (C : OK X cX11_findWays RX11 7 none rmX11_findWays A) (p0 : Nat) (n0 : Nat) (hA0 : ZR.1[p0]? = some (.inl (1, 1, n0))) (v1 : Int32) (v2 : Int32) (v3 : Int32) (K30 : Int32 → AH → Option (Unit × AH)) (hK30 : ∀ (w2 : Int32) (h : AH), AW X 7 ZR yd A 0 0 (QF X rmX11_findWays ZR yd rvV A) 30 [(0, .ref p0), (1, .int v1), (2, .int w2)] [] h (K30 w2 h)) : ∀ (n : Nat) (v4 : Int32) (h : AH), AW X 7 ZR yd A 0 0 (QF X rmX11_findWays ZR yd rvV A) 52 [(0, .ref p0), (1, .int v1), (2, .int v2), (3, .int v3), (4, .int v4)] [] h (X11_findWays_l52 p0 n0 v1 v2 v3 K30 n v4 h) := by
  intro n
  induction n with
  | zero => intro v4 h; exact aw_none
  | succ n ih =>
    intro v4 h
    exact aw_iload (pc := 52) C (i := 4) dX11_findWays_52 rfl <|
    aw_aload_n (pc := 54) C (i := 0) dX11_findWays_54 rfl rfl <|
    aw_alenI (pc := 55) C (v := (Int32.ofNat n0)) (by decide) dX11_findWays_55 hA0 rfl rfl <|
    aw_icmp_ge (pc := 56) C (tgt := 112) dX11_findWays_56 rfl (fun _ =>
    aw_iincV (pc := 112) C (i := 2) (cst := 1) (fun x1 => [(0, .ref p0), (1, .int v1), (2, .int x1), (3, .int v3), (4, .int v4)]) dX11_findWays_112 rfl rfl (by decide) (fun _ => rfl) fun x1 =>
    aw_goto (pc := 115) C (tgt := 30) dX11_findWays_115 rfl <|
    aw_drop [0, 1, 2] (hK30 x1 h)) (fun _ =>
    aw_iload_n (pc := 59) C (i := 3) dX11_findWays_59 rfl rfl <|
    aw_if_le (pc := 60) C (tgt := 73) dX11_findWays_60 rfl (fun _ =>
    aw_iload (pc := 73) C (i := 4) dX11_findWays_73 rfl <|
    (aX11_findWays_j75 C p0 n0 hA0 v1 v2 v3 v4 K30 hK30 (X11_findWays_l52 p0 n0 v1 v2 v3 K30 n) ih v4 h)) (fun _ =>
    aw_aload_n (pc := 63) C (i := 0) dX11_findWays_63 rfl rfl <|
    aw_alenI (pc := 64) C (v := (Int32.ofNat n0)) (by decide) dX11_findWays_64 hA0 rfl rfl <|
    aw_iconst (pc := 65) C (v := 1) dX11_findWays_65 rfl <|
    aw_isub (pc := 66) C dX11_findWays_66 <|
    aw_iload (pc := 67) C (i := 4) dX11_findWays_67 rfl <|
    aw_isub (pc := 69) C dX11_findWays_69 <|
    aw_goto (pc := 70) C (tgt := 75) dX11_findWays_70 rfl <|
    (aX11_findWays_j75 C p0 n0 hA0 v1 v2 v3 v4 K30 hK30 (X11_findWays_l52 p0 n0 v1 v2 v3 K30 n) ih (((Int32.ofNat n0) - 1) - v4) h)))
def X11_findWays_j48 (p0 : Nat) (n0 : Nat) (v1 : Int32) (v2 : Int32) (K30 : Int32 → AH → Option (Unit × AH)) (s0 : Int32) (h : AH) : Option (Unit × AH) :=
    X11_findWays_l52 p0 n0 v1 v2 s0 K30 FU 0 h
set_option maxRecDepth 100000 in
theorem aX11_findWays_j48 {X : MCx} {yd : Dyn} {A : Nat → Prop} (C : OK X cX11_findWays RX11 7 none rmX11_findWays A) (p0 : Nat) (n0 : Nat) (hA0 : ZR.1[p0]? = some (.inl (1, 1, n0))) (v1 : Int32) (v2 : Int32) (K30 : Int32 → AH → Option (Unit × AH)) (hK30 : ∀ (w2 : Int32) (h : AH), AW X 7 ZR yd A 0 0 (QF X rmX11_findWays ZR yd rvV A) 30 [(0, .ref p0), (1, .int v1), (2, .int w2)] [] h (K30 w2 h)) (s0 : Int32) (h : AH) : AW X 7 ZR yd A 0 0 (QF X rmX11_findWays ZR yd rvV A) 48 [(0, .ref p0), (1, .int v1), (2, .int v2)] [.int s0] h (X11_findWays_j48 p0 n0 v1 v2 K30 s0 h) := by
    exact aw_istore_n (pc := 48) C (i := 3) (lv' := [(0, .ref p0), (1, .int v1), (2, .int v2), (3, .int s0)]) dX11_findWays_48 rfl (by decide) rfl <|
    aw_iconst (pc := 49) C (v := 0) dX11_findWays_49 rfl <|
    aw_istore (pc := 50) C (i := 4) (lv' := [(0, .ref p0), (1, .int v1), (2, .int v2), (3, .int s0), (4, .int 0)]) dX11_findWays_50 (by decide) rfl <|
    (aX11_findWays_l52 C p0 n0 hA0 v1 v2 s0 K30 hK30 FU 0 h)
def X11_findWays_l30 (p0 : Nat) (n0 : Nat) (v1 : Int32) : Nat → Int32 → AH → Option (Unit × AH)
  | 0, _, _ => none
  | n + 1, v2, h =>
    if (2 * v1) ≤ v2 then (some ((), h))
    else (if (rm32 v2 2) = 0 then (X11_findWays_j48 p0 n0 v1 v2 (X11_findWays_l30 p0 n0 v1 n) 1 h)
    else (X11_findWays_j48 p0 n0 v1 v2 (X11_findWays_l30 p0 n0 v1 n) (-1) h))
set_option maxRecDepth 100000 in
theorem aX11_findWays_l30 {X : MCx} {yd : Dyn} {A : Nat → Prop} (C : OK X cX11_findWays RX11 7 none rmX11_findWays A) (p0 : Nat) (n0 : Nat) (hA0 : ZR.1[p0]? = some (.inl (1, 1, n0))) (v1 : Int32) : ∀ (n : Nat) (v2 : Int32) (h : AH), AW X 7 ZR yd A 0 0 (QF X rmX11_findWays ZR yd rvV A) 30 [(0, .ref p0), (1, .int v1), (2, .int v2)] [] h (X11_findWays_l30 p0 n0 v1 n v2 h) := by
  intro n
  induction n with
  | zero => intro v2 h; exact aw_none
  | succ n ih =>
    intro v2 h
    exact aw_iload_n (pc := 30) C (i := 2) dX11_findWays_30 rfl rfl <|
    aw_iconst (pc := 31) C (v := 2) dX11_findWays_31 rfl <|
    aw_iload_n (pc := 32) C (i := 1) dX11_findWays_32 rfl rfl <|
    aw_imul (pc := 33) C dX11_findWays_33 <|
    aw_icmp_ge (pc := 34) C (tgt := 118) dX11_findWays_34 rfl (fun _ =>
    aw_vret (pc := 118) C dX11_findWays_118 rfl rfl) (fun _ =>
    aw_iload_n (pc := 37) C (i := 2) dX11_findWays_37 rfl rfl <|
    aw_iconst (pc := 38) C (v := 2) dX11_findWays_38 rfl <|
    aw_iremK (pc := 39) C dX11_findWays_39 (by decide) <|
    aw_if_ne (pc := 40) C (tgt := 47) dX11_findWays_40 rfl (fun _ =>
    aw_iconst (pc := 43) C (v := 1) dX11_findWays_43 rfl <|
    aw_goto (pc := 44) C (tgt := 48) dX11_findWays_44 rfl <|
    (aX11_findWays_j48 C p0 n0 hA0 v1 v2 (X11_findWays_l30 p0 n0 v1 n) ih 1 h)) (fun _ =>
    aw_iconst (pc := 47) C (v := (-1)) dX11_findWays_47 rfl <|
    (aX11_findWays_j48 C p0 n0 hA0 v1 v2 (X11_findWays_l30 p0 n0 v1 n) ih (-1) h)))
def X11_findWays_j21 (p0 : Nat) (n0 : Nat) (v1 : Int32) (v2 : Int32) (K2 : Int32 → AH → Option (Unit × AH)) (s0 : Int64) (s1 : Int32) (h : AH) : Option (Unit × AH) :=
    ck s1 n0 (vl (sL h p0 s1.toNatClampNeg s0) fun h5 =>
    vl (v2 + 1) fun x6 =>
    K2 x6 h5)
set_option maxRecDepth 100000 in
theorem aX11_findWays_j21 {X : MCx} {yd : Dyn} {A : Nat → Prop} (C : OK X cX11_findWays RX11 7 none rmX11_findWays A) (p0 : Nat) (n0 : Nat) (hA0 : ZR.1[p0]? = some (.inl (1, 1, n0))) (v1 : Int32) (v2 : Int32) (K2 : Int32 → AH → Option (Unit × AH)) (hK2 : ∀ (w2 : Int32) (h : AH), AW X 7 ZR yd A 0 0 (QF X rmX11_findWays ZR yd rvV A) 2 [(0, .ref p0), (1, .int v1), (2, .int w2)] [] h (K2 w2 h)) (s0 : Int64) (s1 : Int32) (h : AH) : AW X 7 ZR yd A 0 0 (QF X rmX11_findWays ZR yd rvV A) 21 [(0, .ref p0), (1, .int v1), (2, .int v2)] [.long s0, .int s1, .ref p0] h (X11_findWays_j21 p0 n0 v1 v2 K2 s0 s1 h) := by
    exact aw_last (pc := 21) C dX11_findWays_21 hA0 rfl fun h5 =>
    aw_iincV (pc := 22) C (i := 2) (cst := 1) (fun x6 => [(0, .ref p0), (1, .int v1), (2, .int x6)]) dX11_findWays_22 rfl rfl (by decide) (fun _ => rfl) fun x6 =>
    aw_goto (pc := 25) C (tgt := 2) dX11_findWays_25 rfl <|
    (hK2 x6 h5)
def X11_findWays_l2 (p0 : Nat) (n0 : Nat) (v1 : Int32) : Nat → Int32 → AH → Option (Unit × AH)
  | 0, _, _ => none
  | n + 1, v2, h =>
    if (Int32.ofNat n0) ≤ v2 then (X11_findWays_l30 p0 n0 v1 FU 0 h)
    else (if v2 = 20 then (X11_findWays_j21 p0 n0 v1 v2 (X11_findWays_l2 p0 n0 v1 n) 1 v2 h)
    else (X11_findWays_j21 p0 n0 v1 v2 (X11_findWays_l2 p0 n0 v1 n) 0 v2 h))
set_option maxRecDepth 100000 in
theorem aX11_findWays_l2 {X : MCx} {yd : Dyn} {A : Nat → Prop} (C : OK X cX11_findWays RX11 7 none rmX11_findWays A) (p0 : Nat) (n0 : Nat) (hA0 : ZR.1[p0]? = some (.inl (1, 1, n0))) (v1 : Int32) : ∀ (n : Nat) (v2 : Int32) (h : AH), AW X 7 ZR yd A 0 0 (QF X rmX11_findWays ZR yd rvV A) 2 [(0, .ref p0), (1, .int v1), (2, .int v2)] [] h (X11_findWays_l2 p0 n0 v1 n v2 h) := by
  intro n
  induction n with
  | zero => intro v2 h; exact aw_none
  | succ n ih =>
    intro v2 h
    exact aw_iload_n (pc := 2) C (i := 2) dX11_findWays_2 rfl rfl <|
    aw_aload_n (pc := 3) C (i := 0) dX11_findWays_3 rfl rfl <|
    aw_alenI (pc := 4) C (v := (Int32.ofNat n0)) (by decide) dX11_findWays_4 hA0 rfl rfl <|
    aw_icmp_ge (pc := 5) C (tgt := 28) dX11_findWays_5 rfl (fun _ =>
    aw_iconst (pc := 28) C (v := 0) dX11_findWays_28 rfl <|
    aw_istore_n (pc := 29) C (i := 2) (lv' := [(0, .ref p0), (1, .int v1), (2, .int 0)]) dX11_findWays_29 rfl (by decide) rfl <|
    (aX11_findWays_l30 C p0 n0 hA0 v1 FU 0 h)) (fun _ =>
    aw_aload_n (pc := 8) C (i := 0) dX11_findWays_8 rfl rfl <|
    aw_iload_n (pc := 9) C (i := 2) dX11_findWays_9 rfl rfl <|
    aw_iload_n (pc := 10) C (i := 2) dX11_findWays_10 rfl rfl <|
    aw_bipush (pc := 11) C (v := 20) dX11_findWays_11 rfl <|
    aw_icmp_ne (pc := 13) C (tgt := 20) dX11_findWays_13 rfl (fun _ =>
    aw_lconst (pc := 16) C (v := 1) dX11_findWays_16 rfl <|
    aw_goto (pc := 17) C (tgt := 21) dX11_findWays_17 rfl <|
    (aX11_findWays_j21 C p0 n0 hA0 v1 v2 (X11_findWays_l2 p0 n0 v1 n) ih 1 v2 h)) (fun _ =>
    aw_lconst (pc := 20) C (v := 0) dX11_findWays_20 rfl <|
    (aX11_findWays_j21 C p0 n0 hA0 v1 v2 (X11_findWays_l2 p0 n0 v1 n) ih 0 v2 h)))
def X11_findWays (p0 : Nat) (n0 : Nat) (v1 : Int32) (h : AH) : Option (Unit × AH) :=
    X11_findWays_l2 p0 n0 v1 FU 0 h
set_option maxRecDepth 100000 in
theorem c_X11_findWays (l : Launch) (p0 : Nat) (n0 : Nat) (hA0 : ZR.1[p0]? = some (.inl (1, 1, n0))) (v1 : Int32) : MC l yX11_findWays cX11_findWays 7 none rmX11_findWays ZR [.ref p0, .int v1] rvV (X11_findWays p0 n0 v1) :=
  MC.of (own := RX11) (by decide +kernel) rfl (Nat.le_of_ble_eq_true rfl) fun X yd A h _ C =>
    aw_iconst (pc := 0) C (v := 0) dX11_findWays_0 rfl <|
    aw_istore_n (pc := 1) C (i := 2) (lv' := [(0, .ref p0), (1, .int v1), (2, .int 0)]) dX11_findWays_1 rfl (by decide) rfl <|
    (aX11_findWays_l2 C p0 n0 hA0 v1 FU 0 h)

abbrev rmX11_countedOne : Room := { frames := 2, cells := 0, slots := 0, locals := 45 }
def X11_countedOne (v1 : Int32) (v2 : Int32) (v3 : Int32) (v4 : Int32) (v5 : Int32) (h : AH) : Option (Int32 × AH) :=
    vl v4 fun y1 =>
    if y1 = 0 then (if v2 = v5 then (some (1, h))
    else (some (0, h)))
    else if y1 = 1 then (if 0 ≤ v2 then (some (0, h))
    else (some (1, h)))
    else if y1 = 2 then (if 0 ≤ v2 then (bd (X11_lengthOf v1 v2 v3 h) fun r4 h5 =>
    some (r4, h5))
    else (some (0, h)))
    else (if v2 < 0 then (some (0, h))
    else (bd (X11_lengthOf v1 v2 v3 h) fun r7 h8 =>
    if r7 ≤ v5 then (some (0, h8))
    else (some (1, h8))))
set_option maxRecDepth 100000 in
theorem c_X11_countedOne (l : Launch) (v1 : Int32) (v2 : Int32) (v3 : Int32) (v4 : Int32) (v5 : Int32) : MC l yX11_countedOne cX11_countedOne 6 (some .int) rmX11_countedOne ZR [.ref 0, .int v1, .int v2, .int v3, .int v4, .int v5] rvI (X11_countedOne v1 v2 v3 v4 v5) :=
  MC.of (own := RX11) (by decide +kernel) rfl (Nat.le_of_ble_eq_true rfl) fun X yd A h _ C =>
    aw_iload (pc := 0) C (i := 4) dX11_countedOne_0 rfl <|
    aw_vlI fun y1 =>
    aw_if (fun c2 => aw_tswA (pc := 2) C (off := 26) (tg := 28) 0 dX11_countedOne_2 (by rw [c2]; rfl) (by decide) (by decide) rfl rfl (aw_iload_n (pc := 28) C (i := 2) dX11_countedOne_28 rfl rfl <|
    aw_iload (pc := 29) C (i := 5) dX11_countedOne_29 rfl <|
    aw_icmp_ne (pc := 31) C (tgt := 38) dX11_countedOne_31 rfl (fun _ =>
    aw_iconst (pc := 34) C (v := 1) dX11_countedOne_34 rfl <|
    aw_goto (pc := 35) C (tgt := 39) dX11_countedOne_35 rfl <|
    aw_iret (pc := 39) C dX11_countedOne_39 rfl rfl) (fun _ =>
    aw_iconst (pc := 38) C (v := 0) dX11_countedOne_38 rfl <|
    aw_iret (pc := 39) C dX11_countedOne_39 rfl rfl))) (fun c2 =>
    aw_if (fun c3 => aw_tswA (pc := 2) C (off := 38) (tg := 40) 1 dX11_countedOne_2 (by rw [c3]; rfl) (by decide) (by decide) rfl rfl (aw_iload_n (pc := 40) C (i := 2) dX11_countedOne_40 rfl rfl <|
    aw_if_ge (pc := 41) C (tgt := 48) dX11_countedOne_41 rfl (fun _ =>
    aw_iconst (pc := 48) C (v := 0) dX11_countedOne_48 rfl <|
    aw_iret (pc := 49) C dX11_countedOne_49 rfl rfl) (fun _ =>
    aw_iconst (pc := 44) C (v := 1) dX11_countedOne_44 rfl <|
    aw_goto (pc := 45) C (tgt := 49) dX11_countedOne_45 rfl <|
    aw_iret (pc := 49) C dX11_countedOne_49 rfl rfl))) (fun c3 =>
    aw_if (fun c6 => aw_tswA (pc := 2) C (off := 48) (tg := 50) 2 dX11_countedOne_2 (by rw [c6]; rfl) (by decide) (by decide) rfl rfl (aw_iload_n (pc := 50) C (i := 2) dX11_countedOne_50 rfl rfl <|
    aw_if_ge (pc := 51) C (tgt := 58) dX11_countedOne_51 rfl (fun _ =>
    aw_aload_n (pc := 58) C (i := 0) dX11_countedOne_58 rfl rfl <|
    aw_iload_n (pc := 59) C (i := 1) dX11_countedOne_59 rfl rfl <|
    aw_iload_n (pc := 60) C (i := 2) dX11_countedOne_60 rfl rfl <|
    aw_iload_n (pc := 61) C (i := 3) dX11_countedOne_61 rfl rfl <|
    aw_callF (pc := 62) C (cr_V (rest := []) (F := (X11_lengthOf v1 v2 v3)) C (c_X11_lengthOf X.2.1 v1 v2 v3) dX11_countedOne_62 mf_X11_lengthOf ml_X11_163 im_X11_lengthOf se_X11_lengthOf sR_0 rfl ⟨(Nat.le_of_ble_eq_true rfl), (Nat.le_of_ble_eq_true rfl)⟩ rfl rfl (Nat.le_of_ble_eq_true rfl)) rfl rfl rfl (Nat.zero_le _) (Nat.zero_le _) fun r4 h5 =>
    aw_iret (pc := 65) C dX11_countedOne_65 rfl rfl) (fun _ =>
    aw_iconst (pc := 54) C (v := 0) dX11_countedOne_54 rfl <|
    aw_goto (pc := 55) C (tgt := 65) dX11_countedOne_55 rfl <|
    aw_iret (pc := 65) C dX11_countedOne_65 rfl rfl))) (fun c6 =>
    aw_tswD (pc := 2) C (N := 3) (td := 66) [0, 1, 2] dX11_countedOne_2 (List.forall_mem_cons.mpr ⟨ti_ne c2 rfl, List.forall_mem_cons.mpr ⟨ti_ne c3 rfl, List.forall_mem_cons.mpr ⟨ti_ne c6 rfl, fun _ hz => by cases hz⟩⟩⟩) rfl (by decide) rfl (aw_iload_n (pc := 66) C (i := 2) dX11_countedOne_66 rfl rfl <|
    aw_if_lt (pc := 67) C (tgt := 86) dX11_countedOne_67 rfl (fun _ =>
    aw_iconst (pc := 86) C (v := 0) dX11_countedOne_86 rfl <|
    aw_iret (pc := 87) C dX11_countedOne_87 rfl rfl) (fun _ =>
    aw_aload_n (pc := 70) C (i := 0) dX11_countedOne_70 rfl rfl <|
    aw_iload_n (pc := 71) C (i := 1) dX11_countedOne_71 rfl rfl <|
    aw_iload_n (pc := 72) C (i := 2) dX11_countedOne_72 rfl rfl <|
    aw_iload_n (pc := 73) C (i := 3) dX11_countedOne_73 rfl rfl <|
    aw_callF (pc := 74) C (cr_V (rest := []) (F := (X11_lengthOf v1 v2 v3)) C (c_X11_lengthOf X.2.1 v1 v2 v3) dX11_countedOne_74 mf_X11_lengthOf ml_X11_163 im_X11_lengthOf se_X11_lengthOf sR_0 rfl ⟨(Nat.le_of_ble_eq_true rfl), (Nat.le_of_ble_eq_true rfl)⟩ rfl rfl (Nat.le_of_ble_eq_true rfl)) rfl rfl rfl (Nat.zero_le _) (Nat.zero_le _) fun r7 h8 =>
    aw_iload (pc := 77) C (i := 5) dX11_countedOne_77 rfl <|
    aw_icmp_le (pc := 79) C (tgt := 86) dX11_countedOne_79 rfl (fun _ =>
    aw_iconst (pc := 86) C (v := 0) dX11_countedOne_86 rfl <|
    aw_iret (pc := 87) C dX11_countedOne_87 rfl rfl) (fun _ =>
    aw_iconst (pc := 82) C (v := 1) dX11_countedOne_82 rfl <|
    aw_goto (pc := 83) C (tgt := 87) dX11_countedOne_83 rfl <|
    aw_iret (pc := 87) C dX11_countedOne_87 rfl rfl))))))

abbrev rmX11_counted : Room := { frames := 3, cells := 0, slots := 0, locals := 70 }
def X11_counted_j175  (v1 : Int32) (v2 : Int32) (v3 : Int32) (v4 : Int32) (v5 : Int32) (v6 : Int64) (v8 : Int32) (K37 : Int64 → Int32 → AH → Option (Int64 × AH)) (h : AH) : Option (Int64 × AH) :=
    vl (v8 + 1) fun x14 =>
    K37 v6 x14 h
set_option maxRecDepth 100000 in
theorem aX11_counted_j175 {X : MCx} {yd : Dyn} {A : Nat → Prop} (C : OK X cX11_counted RX11 13 (some .long) rmX11_counted A)  (v1 : Int32) (v2 : Int32) (v3 : Int32) (v4 : Int32) (v5 : Int32) (v6 : Int64) (v8 : Int32) (K37 : Int64 → Int32 → AH → Option (Int64 × AH)) (hK37 : ∀ (w6 : Int64) (w8 : Int32) (h : AH), AW X 13 ZR yd A 0 0 (QF X rmX11_counted ZR yd rvL A) 37 [(0, .ref 0), (1, .int v1), (2, .int v2), (3, .int v3), (4, .int v4), (5, .int v5), (6, .long w6), (8, .int w8)] [] h (K37 w6 w8 h)) (h : AH) : AW X 13 ZR yd A 0 0 (QF X rmX11_counted ZR yd rvL A) 175 [(0, .ref 0), (1, .int v1), (2, .int v2), (3, .int v3), (4, .int v4), (5, .int v5), (6, .long v6), (8, .int v8)] [] h (X11_counted_j175 v1 v2 v3 v4 v5 v6 v8 K37 h) := by
    exact aw_iincV (pc := 175) C (i := 8) (cst := 1) (fun x14 => [(0, .ref 0), (1, .int v1), (2, .int v2), (3, .int v3), (4, .int v4), (5, .int v5), (6, .long v6), (8, .int x14)]) dX11_counted_175 rfl rfl (by decide) (fun _ => rfl) fun x14 =>
    aw_goto (pc := 178) C (tgt := 37) dX11_counted_178 rfl <|
    (hK37 v6 x14 h)
def X11_counted_j162  (v1 : Int32) (v2 : Int32) (v3 : Int32) (v4 : Int32) (v5 : Int32) (v8 : Int32) (K37 : Int64 → Int32 → AH → Option (Int64 × AH)) (s0 : Int32) (s1 : Int32) (s2 : Int32) (s4 : Int64) (s5 : Int64) (h : AH) : Option (Int64 × AH) :=
    bd (X11_countedOne s2 s1 (s0 / 4) v3 v4 h) fun r11 h12 =>
    vl (s5 + (s4 * r11.toInt64)) fun x13 =>
    X11_counted_j175 v1 v2 v3 v4 v5 x13 v8 K37 h12
set_option maxRecDepth 100000 in
theorem aX11_counted_j162 {X : MCx} {yd : Dyn} {A : Nat → Prop} (C : OK X cX11_counted RX11 13 (some .long) rmX11_counted A)  (v1 : Int32) (v2 : Int32) (v3 : Int32) (v4 : Int32) (v5 : Int32) (v8 : Int32) (K37 : Int64 → Int32 → AH → Option (Int64 × AH)) (hK37 : ∀ (w6 : Int64) (w8 : Int32) (h : AH), AW X 13 ZR yd A 0 0 (QF X rmX11_counted ZR yd rvL A) 37 [(0, .ref 0), (1, .int v1), (2, .int v2), (3, .int v3), (4, .int v4), (5, .int v5), (6, .long w6), (8, .int w8)] [] h (K37 w6 w8 h)) (s0 : Int32) (s1 : Int32) (s2 : Int32) (s4 : Int64) (s5 : Int64) (h : AH) : AW X 13 ZR yd A 0 0 (QF X rmX11_counted ZR yd rvL A) 162 [(0, .ref 0), (1, .int v1), (2, .int v2), (3, .int v3), (4, .int v4), (5, .int v5), (8, .int v8)] [.int s0, .int s1, .int s2, .ref 0, .long s4, .long s5] h (X11_counted_j162 v1 v2 v3 v4 v5 v8 K37 s0 s1 s2 s4 s5 h) := by
    exact aw_iconst (pc := 162) C (v := 4) dX11_counted_162 rfl <|
    aw_idivK (pc := 163) C dX11_counted_163 (by decide) <|
    aw_iload_n (pc := 164) C (i := 3) dX11_counted_164 rfl rfl <|
    aw_iload (pc := 165) C (i := 4) dX11_counted_165 rfl <|
    aw_callF (pc := 167) C (cr_V (rest := [.long s4, .long s5]) (F := (X11_countedOne s2 s1 (s0 / 4) v3 v4)) C (c_X11_countedOne X.2.1 s2 s1 (s0 / 4) v3 v4) dX11_counted_167 mf_X11_countedOne ml_X11_230 im_X11_countedOne se_X11_countedOne sR_0 rfl ⟨(Nat.le_of_ble_eq_true rfl), (Nat.le_of_ble_eq_true rfl)⟩ rfl rfl (Nat.le_of_ble_eq_true rfl)) rfl rfl rfl (Nat.zero_le _) (Nat.zero_le _) fun r11 h12 =>
    aw_i2l (pc := 170) C dX11_counted_170 <|
    aw_lmul (pc := 171) C dX11_counted_171 <|
    aw_ladd (pc := 172) C dX11_counted_172 <|
    aw_lstoreV (pc := 173) C (i := 6) (fun x13 => [(0, .ref 0), (1, .int v1), (2, .int v2), (3, .int v3), (4, .int v4), (5, .int v5), (6, .long x13), (8, .int v8)]) dX11_counted_173 (by decide) (fun _ => rfl) fun x13 =>
    (aX11_counted_j175 C v1 v2 v3 v4 v5 x13 v8 K37 hK37 h12)
def X11_counted_j116  (v1 : Int32) (v2 : Int32) (v3 : Int32) (v4 : Int32) (v5 : Int32) (v6 : Int64) (v8 : Int32) (v9 : Int64) (v11 : Int32) (K37 : Int64 → Int32 → AH → Option (Int64 × AH)) (s0 : Int32) (h : AH) : Option (Int64 × AH) :=
    ck v1 4 (vl (v11 - (s0 + ((h.1 6 v1.toNatClampNeg) * ((rm32 v8 41) - 20)))) fun x10 =>
    if 0 ≤ s0 then (X11_counted_j162 v1 v2 v3 v4 v5 v8 K37 s0 x10 v1 v9 v6 h)
    else (X11_counted_j162 v1 v2 v3 v4 v5 v8 K37 (-s0) x10 v1 v9 v6 h))
set_option maxRecDepth 100000 in
theorem aX11_counted_j116 {X : MCx} {yd : Dyn} {A : Nat → Prop} (C : OK X cX11_counted RX11 13 (some .long) rmX11_counted A)  (v1 : Int32) (v2 : Int32) (v3 : Int32) (v4 : Int32) (v5 : Int32) (v6 : Int64) (v8 : Int32) (v9 : Int64) (v11 : Int32) (K37 : Int64 → Int32 → AH → Option (Int64 × AH)) (hK37 : ∀ (w6 : Int64) (w8 : Int32) (h : AH), AW X 13 ZR yd A 0 0 (QF X rmX11_counted ZR yd rvL A) 37 [(0, .ref 0), (1, .int v1), (2, .int v2), (3, .int v3), (4, .int v4), (5, .int v5), (6, .long w6), (8, .int w8)] [] h (K37 w6 w8 h)) (s0 : Int32) (h : AH) : AW X 13 ZR yd A 0 0 (QF X rmX11_counted ZR yd rvL A) 116 [(0, .ref 0), (1, .int v1), (2, .int v2), (3, .int v3), (4, .int v4), (5, .int v5), (6, .long v6), (8, .int v8), (9, .long v9), (11, .int v11)] [.int s0] h (X11_counted_j116 v1 v2 v3 v4 v5 v6 v8 v9 v11 K37 s0 h) := by
    exact aw_istore (pc := 116) C (i := 12) (lv' := [(0, .ref 0), (1, .int v1), (2, .int v2), (3, .int v3), (4, .int v4), (5, .int v5), (6, .long v6), (8, .int v8), (9, .long v9), (11, .int v11), (12, .int s0)]) dX11_counted_116 (by decide) rfl <|
    aw_iload (pc := 118) C (i := 11) dX11_counted_118 rfl <|
    aw_iload (pc := 120) C (i := 12) dX11_counted_120 rfl <|
    aw_aload_n (pc := 122) C (i := 0) dX11_counted_122 rfl rfl <|
    aw_getR (pc := 123) C (b := 6) dX11_counted_123 fl_X11_25 sR_0 rfl rR_0_5 <|
    aw_iload_n (pc := 126) C (i := 1) dX11_counted_126 rfl rfl <|
    aw_iald (pc := 127) C dX11_counted_127 sR_6 rfl <|
    aw_iload (pc := 128) C (i := 8) dX11_counted_128 rfl <|
    aw_bipush (pc := 130) C (v := 41) dX11_counted_130 rfl <|
    aw_iremK (pc := 132) C dX11_counted_132 (by decide) <|
    aw_bipush (pc := 133) C (v := 20) dX11_counted_133 rfl <|
    aw_isub (pc := 135) C dX11_counted_135 <|
    aw_imul (pc := 136) C dX11_counted_136 <|
    aw_iadd (pc := 137) C dX11_counted_137 <|
    aw_isub (pc := 138) C dX11_counted_138 <|
    aw_istoreV (pc := 139) C (i := 11) (fun x10 => [(0, .ref 0), (1, .int v1), (2, .int v2), (3, .int v3), (4, .int v4), (5, .int v5), (6, .long v6), (8, .int v8), (9, .long v9), (11, .int x10), (12, .int s0)]) dX11_counted_139 (by decide) (fun _ => rfl) fun x10 =>
    aw_lload (pc := 141) C (i := 6) dX11_counted_141 rfl <|
    aw_lload (pc := 143) C (i := 9) dX11_counted_143 rfl <|
    aw_aload_n (pc := 145) C (i := 0) dX11_counted_145 rfl rfl <|
    aw_iload_n (pc := 146) C (i := 1) dX11_counted_146 rfl rfl <|
    aw_iload (pc := 147) C (i := 11) dX11_counted_147 rfl <|
    aw_iload (pc := 149) C (i := 12) dX11_counted_149 rfl <|
    aw_if_ge (pc := 151) C (tgt := 160) dX11_counted_151 rfl (fun _ =>
    aw_iload (pc := 160) C (i := 12) dX11_counted_160 rfl <|
    aw_drop [0, 1, 2, 3, 4, 5, 7] (aX11_counted_j162 C v1 v2 v3 v4 v5 v8 K37 hK37 s0 x10 v1 v9 v6 h)) (fun _ =>
    aw_iload (pc := 154) C (i := 12) dX11_counted_154 rfl <|
    aw_ineg (pc := 156) C dX11_counted_156 <|
    aw_goto (pc := 157) C (tgt := 162) dX11_counted_157 rfl <|
    aw_drop [0, 1, 2, 3, 4, 5, 7] (aX11_counted_j162 C v1 v2 v3 v4 v5 v8 K37 hK37 (-s0) x10 v1 v9 v6 h))
def X11_counted_l37  (v1 : Int32) (v2 : Int32) (v3 : Int32) (v4 : Int32) (v5 : Int32) : Nat → Int64 → Int32 → AH → Option (Int64 × AH)
  | 0, _, _, _ => none
  | n + 1, v6, v8, h =>
    if 1681 ≤ v8 then (some (v6, h))
    else (ck (v8 / 41) 41 (ck (rm32 v8 41) 41 (vl ((h.2.1 18 (v8 / 41).toNatClampNeg) * (h.2.1 19 (rm32 v8 41).toNatClampNeg)) fun x6 =>
    if (lcmpV x6 0) = 0 then (X11_counted_j175 v1 v2 v3 v4 v5 v6 v8 (X11_counted_l37 v1 v2 v3 v4 v5 n) h)
    else (ck v1 4 (vl (v2 - ((h.1 6 v1.toNatClampNeg) * ((v8 / 41) - 20))) fun x7 =>
    if v5 = 0 then (X11_counted_j116 v1 v2 v3 v4 v5 v6 v8 x6 x7 (X11_counted_l37 v1 v2 v3 v4 v5 n) 0 h)
    else (bd (X11_aimOf v1 h) fun r8 h9 =>
    X11_counted_j116 v1 v2 v3 v4 v5 v6 v8 x6 x7 (X11_counted_l37 v1 v2 v3 v4 v5 n) ((x7 - r8) / 2) h9))))))
set_option maxRecDepth 100000 in
theorem aX11_counted_l37 {X : MCx} {yd : Dyn} {A : Nat → Prop} (C : OK X cX11_counted RX11 13 (some .long) rmX11_counted A)  (v1 : Int32) (v2 : Int32) (v3 : Int32) (v4 : Int32) (v5 : Int32) : ∀ (n : Nat) (v6 : Int64) (v8 : Int32) (h : AH), AW X 13 ZR yd A 0 0 (QF X rmX11_counted ZR yd rvL A) 37 [(0, .ref 0), (1, .int v1), (2, .int v2), (3, .int v3), (4, .int v4), (5, .int v5), (6, .long v6), (8, .int v8)] [] h (X11_counted_l37 v1 v2 v3 v4 v5 n v6 v8 h) := by
  intro n
  induction n with
  | zero => intro v6 v8 h; exact aw_none
  | succ n ih =>
    intro v6 v8 h
    exact aw_iload (pc := 37) C (i := 8) dX11_counted_37 rfl <|
    aw_sipush (pc := 39) C (v := 1681) dX11_counted_39 rfl <|
    aw_icmp_ge (pc := 42) C (tgt := 181) dX11_counted_42 rfl (fun _ =>
    aw_lload (pc := 181) C (i := 6) dX11_counted_181 rfl <|
    aw_lret (pc := 183) C dX11_counted_183 rfl rfl) (fun _ =>
    aw_aload_n (pc := 45) C (i := 0) dX11_counted_45 rfl rfl <|
    aw_getR (pc := 46) C (b := 18) dX11_counted_46 fl_X11_61 sR_0 rfl rR_0_28 <|
    aw_iload (pc := 49) C (i := 8) dX11_counted_49 rfl <|
    aw_bipush (pc := 51) C (v := 41) dX11_counted_51 rfl <|
    aw_idivK (pc := 53) C dX11_counted_53 (by decide) <|
    aw_lald (pc := 54) C dX11_counted_54 sR_18 rfl <|
    aw_aload_n (pc := 55) C (i := 0) dX11_counted_55 rfl rfl <|
    aw_getR (pc := 56) C (b := 19) dX11_counted_56 fl_X11_65 sR_0 rfl rR_0_29 <|
    aw_iload (pc := 59) C (i := 8) dX11_counted_59 rfl <|
    aw_bipush (pc := 61) C (v := 41) dX11_counted_61 rfl <|
    aw_iremK (pc := 63) C dX11_counted_63 (by decide) <|
    aw_lald (pc := 64) C dX11_counted_64 sR_19 rfl <|
    aw_lmul (pc := 65) C dX11_counted_65 <|
    aw_lstoreV (pc := 66) C (i := 9) (fun x6 => [(0, .ref 0), (1, .int v1), (2, .int v2), (3, .int v3), (4, .int v4), (5, .int v5), (6, .long v6), (8, .int v8), (9, .long x6)]) dX11_counted_66 (by decide) (fun _ => rfl) fun x6 =>
    aw_lload (pc := 68) C (i := 9) dX11_counted_68 rfl <|
    aw_lconst (pc := 70) C (v := 0) dX11_counted_70 rfl <|
    aw_lcmp (pc := 71) C dX11_counted_71 <|
    aw_if_ne (pc := 72) C (tgt := 78) dX11_counted_72 rfl (fun _ =>
    aw_goto (pc := 75) C (tgt := 175) dX11_counted_75 rfl <|
    aw_drop [0, 1, 2, 3, 4, 5, 6, 7] (aX11_counted_j175 C v1 v2 v3 v4 v5 v6 v8 (X11_counted_l37 v1 v2 v3 v4 v5 n) ih h)) (fun _ =>
    aw_iload_n (pc := 78) C (i := 2) dX11_counted_78 rfl rfl <|
    aw_aload_n (pc := 79) C (i := 0) dX11_counted_79 rfl rfl <|
    aw_getR (pc := 80) C (b := 6) dX11_counted_80 fl_X11_25 sR_0 rfl rR_0_5 <|
    aw_iload_n (pc := 83) C (i := 1) dX11_counted_83 rfl rfl <|
    aw_iald (pc := 84) C dX11_counted_84 sR_6 rfl <|
    aw_iload (pc := 85) C (i := 8) dX11_counted_85 rfl <|
    aw_bipush (pc := 87) C (v := 41) dX11_counted_87 rfl <|
    aw_idivK (pc := 89) C dX11_counted_89 (by decide) <|
    aw_bipush (pc := 90) C (v := 20) dX11_counted_90 rfl <|
    aw_isub (pc := 92) C dX11_counted_92 <|
    aw_imul (pc := 93) C dX11_counted_93 <|
    aw_isub (pc := 94) C dX11_counted_94 <|
    aw_istoreV (pc := 95) C (i := 11) (fun x7 => [(0, .ref 0), (1, .int v1), (2, .int v2), (3, .int v3), (4, .int v4), (5, .int v5), (6, .long v6), (8, .int v8), (9, .long x6), (11, .int x7)]) dX11_counted_95 (by decide) (fun _ => rfl) fun x7 =>
    aw_iload (pc := 97) C (i := 5) dX11_counted_97 rfl <|
    aw_if_ne (pc := 99) C (tgt := 106) dX11_counted_99 rfl (fun _ =>
    aw_iconst (pc := 102) C (v := 0) dX11_counted_102 rfl <|
    aw_goto (pc := 103) C (tgt := 116) dX11_counted_103 rfl <|
    (aX11_counted_j116 C v1 v2 v3 v4 v5 v6 v8 x6 x7 (X11_counted_l37 v1 v2 v3 v4 v5 n) ih 0 h)) (fun _ =>
    aw_iload (pc := 106) C (i := 11) dX11_counted_106 rfl <|
    aw_aload_n (pc := 108) C (i := 0) dX11_counted_108 rfl rfl <|
    aw_iload_n (pc := 109) C (i := 1) dX11_counted_109 rfl rfl <|
    aw_callF (pc := 110) C (cr_V (rest := [.int x7]) (F := (X11_aimOf v1)) C (c_X11_aimOf X.2.1 v1) dX11_counted_110 mf_X11_aimOf ml_X11_210 im_X11_aimOf se_X11_aimOf sR_0 rfl ⟨(Nat.le_of_ble_eq_true rfl), (Nat.le_of_ble_eq_true rfl)⟩ rfl rfl (Nat.le_of_ble_eq_true rfl)) rfl rfl rfl (Nat.zero_le _) (Nat.zero_le _) fun r8 h9 =>
    aw_isub (pc := 113) C dX11_counted_113 <|
    aw_iconst (pc := 114) C (v := 2) dX11_counted_114 rfl <|
    aw_idivK (pc := 115) C dX11_counted_115 (by decide) <|
    (aX11_counted_j116 C v1 v2 v3 v4 v5 v6 v8 x6 x7 (X11_counted_l37 v1 v2 v3 v4 v5 n) ih ((x7 - r8) / 2) h9))))
def X11_counted (v1 : Int32) (v2 : Int32) (v3 : Int32) (v4 : Int32) (h : AH) : Option (Int64 × AH) :=
    ck v1 4 (vl (h.1 8 v1.toNatClampNeg) fun x1 =>
    bd (X11_findWays 18 41 ((h.1 0 12) - x1) h) fun _ h3 =>
    bd (X11_findWays 19 41 x1 h3) fun _ h5 =>
    X11_counted_l37 v1 v2 v3 v4 x1 FU 0 0 h5)
set_option maxRecDepth 100000 in
theorem c_X11_counted (l : Launch) (v1 : Int32) (v2 : Int32) (v3 : Int32) (v4 : Int32) : MC l yX11_counted cX11_counted 13 (some .long) rmX11_counted ZR [.ref 0, .int v1, .int v2, .int v3, .int v4] rvL (X11_counted v1 v2 v3 v4) :=
  MC.of (own := RX11) (by decide +kernel) rfl (Nat.le_of_ble_eq_true rfl) fun X yd A h _ C =>
    aw_aload_n (pc := 0) C (i := 0) dX11_counted_0 rfl rfl <|
    aw_getR (pc := 1) C (b := 8) dX11_counted_1 fl_X11_31 sR_0 rfl rR_0_7 <|
    aw_iload_n (pc := 4) C (i := 1) dX11_counted_4 rfl rfl <|
    aw_iald (pc := 5) C dX11_counted_5 sR_8 rfl <|
    aw_istoreV (pc := 6) C (i := 5) (fun x1 => [(0, .ref 0), (1, .int v1), (2, .int v2), (3, .int v3), (4, .int v4), (5, .int x1)]) dX11_counted_6 (by decide) (fun _ => rfl) fun x1 =>
    aw_aload_n (pc := 8) C (i := 0) dX11_counted_8 rfl rfl <|
    aw_getR (pc := 9) C (b := 18) dX11_counted_9 fl_X11_61 sR_0 rfl rR_0_28 <|
    aw_aload_n (pc := 12) C (i := 0) dX11_counted_12 rfl rfl <|
    aw_getI (pc := 13) C dX11_counted_13 fl_X11_95 sR_0 rfl <|
    aw_iload (pc := 16) C (i := 5) dX11_counted_16 rfl <|
    aw_isub (pc := 18) C dX11_counted_18 <|
    aw_callF (pc := 19) C (cr_S (rest := []) (F := (X11_findWays 18 41 ((h.1 0 12) - x1))) C (c_X11_findWays X.2.1 18 41 sR_18 ((h.1 0 12) - x1)) dX11_counted_19 mf_X11_findWays ml_X11_226 st_X11_findWays ⟨(Nat.le_of_ble_eq_true rfl), (Nat.le_of_ble_eq_true rfl)⟩ rfl rfl (Nat.le_of_ble_eq_true rfl)) rfl rfl rfl (Nat.zero_le _) (Nat.zero_le _) fun _ h3 =>
    aw_aload_n (pc := 22) C (i := 0) dX11_counted_22 rfl rfl <|
    aw_getR (pc := 23) C (b := 19) dX11_counted_23 fl_X11_65 sR_0 rfl rR_0_29 <|
    aw_iload (pc := 26) C (i := 5) dX11_counted_26 rfl <|
    aw_callF (pc := 28) C (cr_S (rest := []) (F := (X11_findWays 19 41 x1)) C (c_X11_findWays X.2.1 19 41 sR_19 x1) dX11_counted_28 mf_X11_findWays ml_X11_226 st_X11_findWays ⟨(Nat.le_of_ble_eq_true rfl), (Nat.le_of_ble_eq_true rfl)⟩ rfl rfl (Nat.le_of_ble_eq_true rfl)) rfl rfl rfl (Nat.zero_le _) (Nat.zero_le _) fun _ h5 =>
    aw_lconst (pc := 31) C (v := 0) dX11_counted_31 rfl <|
    aw_lstore (pc := 32) C (i := 6) (lv' := [(0, .ref 0), (1, .int v1), (2, .int v2), (3, .int v3), (4, .int v4), (5, .int x1), (6, .long 0)]) dX11_counted_32 (by decide) rfl <|
    aw_iconst (pc := 34) C (v := 0) dX11_counted_34 rfl <|
    aw_istore (pc := 35) C (i := 8) (lv' := [(0, .ref 0), (1, .int v1), (2, .int v2), (3, .int v3), (4, .int v4), (5, .int x1), (6, .long 0), (8, .int 0)]) dX11_counted_35 (by decide) rfl <|
    (aX11_counted_l37 C v1 v2 v3 v4 x1 FU 0 0 h5)

abbrev rmX11_allWays : Room := { frames := 0, cells := 0, slots := 0, locals := 0 }
def X11_allWays  (h : AH) : Option (Int64 × AH) :=
    some ((shl64 1 (2 * (h.1 0 12))), h)
set_option maxRecDepth 100000 in
theorem c_X11_allWays (l : Launch)  : MC l yX11_allWays cX11_allWays 1 (some .long) rmX11_allWays ZR [.ref 0] rvL (X11_allWays) :=
  MC.of (own := RX11) (by decide +kernel) rfl (Nat.le_of_ble_eq_true rfl) fun X yd A h _ C =>
    aw_lconst (pc := 0) C (v := 1) dX11_allWays_0 rfl <|
    aw_iconst (pc := 1) C (v := 2) dX11_allWays_1 rfl <|
    aw_aload_n (pc := 2) C (i := 0) dX11_allWays_2 rfl rfl <|
    aw_getI (pc := 3) C dX11_allWays_3 fl_X11_95 sR_0 rfl <|
    aw_imul (pc := 6) C dX11_allWays_6 <|
    aw_lshl (pc := 7) C dX11_allWays_7 <|
    aw_lret (pc := 8) C dX11_allWays_8 rfl rfl

abbrev rmX11_divisor : Room := { frames := 0, cells := 0, slots := 0, locals := 0 }
def X11_divisor_l6  : Nat → Int64 → Int64 → AH → Option (Int64 × AH)
  | 0, _, _, _ => none
  | n + 1, v4, v6, h =>
    if (lcmpV v6 0) = 0 then (some (v4, h))
    else (if v6 = 0 then none else (vl (rm64 v4 v6) fun x1 =>
    (X11_divisor_l6 n) v6 x1 h))
set_option maxRecDepth 100000 in
theorem aX11_divisor_l6 {X : MCx} {yd : Dyn} {A : Nat → Prop} (C : OK X cX11_divisor RX11 10 (some .long) rmX11_divisor A)  : ∀ (n : Nat) (v4 : Int64) (v6 : Int64) (h : AH), AW X 10 ZR yd A 0 0 (QF X rmX11_divisor ZR yd rvL A) 6 [(4, .long v4), (6, .long v6)] [] h (X11_divisor_l6 n v4 v6 h) := by
  intro n
  induction n with
  | zero => intro v4 v6 h; exact aw_none
  | succ n ih =>
    intro v4 v6 h
    exact aw_lload (pc := 6) C (i := 6) dX11_divisor_6 rfl <|
    aw_lconst (pc := 8) C (v := 0) dX11_divisor_8 rfl <|
    aw_lcmp (pc := 9) C dX11_divisor_9 <|
    aw_if_eq (pc := 10) C (tgt := 31) dX11_divisor_10 rfl (fun _ =>
    aw_lload (pc := 31) C (i := 4) dX11_divisor_31 rfl <|
    aw_lret (pc := 33) C dX11_divisor_33 rfl rfl) (fun _ =>
    aw_lload (pc := 13) C (i := 4) dX11_divisor_13 rfl <|
    aw_lload (pc := 15) C (i := 6) dX11_divisor_15 rfl <|
    aw_lrem (pc := 17) C dX11_divisor_17 <|
    aw_lstoreV (pc := 18) C (i := 8) (fun x1 => [(4, .long v4), (6, .long v6), (8, .long x1)]) dX11_divisor_18 (by decide) (fun _ => rfl) fun x1 =>
    aw_lload (pc := 20) C (i := 6) dX11_divisor_20 rfl <|
    aw_lstore (pc := 22) C (i := 4) (lv' := [(4, .long v6), (6, .long v6), (8, .long x1)]) dX11_divisor_22 (by decide) rfl <|
    aw_lload (pc := 24) C (i := 8) dX11_divisor_24 rfl <|
    aw_lstore (pc := 26) C (i := 6) (lv' := [(4, .long v6), (6, .long x1), (8, .long x1)]) dX11_divisor_26 (by decide) rfl <|
    aw_goto (pc := 28) C (tgt := 6) dX11_divisor_28 rfl <|
    aw_drop [0, 1] (ih v6 x1 h))
def X11_divisor (v0 : Int64) (v2 : Int64) (h : AH) : Option (Int64 × AH) :=
    X11_divisor_l6 FU v0 v2 h
set_option maxRecDepth 100000 in
theorem c_X11_divisor (l : Launch) (v0 : Int64) (v2 : Int64) : MC l yX11_divisor cX11_divisor 10 (some .long) rmX11_divisor ZR [.long v0, .long v2] rvL (X11_divisor v0 v2) :=
  MC.of (own := RX11) (by decide +kernel) rfl (Nat.le_of_ble_eq_true rfl) fun X yd A h _ C =>
    aw_lload_n (pc := 0) C (i := 0) dX11_divisor_0 rfl rfl <|
    aw_lstore (pc := 1) C (i := 4) (lv' := [(0, .long v0), (2, .long v2), (4, .long v0)]) dX11_divisor_1 (by decide) rfl <|
    aw_lload_n (pc := 3) C (i := 2) dX11_divisor_3 rfl rfl <|
    aw_lstore (pc := 4) C (i := 6) (lv' := [(0, .long v0), (2, .long v2), (4, .long v0), (6, .long v2)]) dX11_divisor_4 (by decide) rfl <|
    aw_drop [2, 3] (aX11_divisor_l6 C FU v0 v2 h)

abbrev rmX11_partOf : Room := { frames := 1, cells := 0, slots := 0, locals := 29 }
def X11_partOf_j10  (v0 : Int64) (v2 : Int64) (s0 : Int64) (h : AH) : Option (Int64 × AH) :=
    bd (X11_divisor v0 v2 h) fun r1 h2 =>
    if r1 = 0 then none else (some ((s0 / r1), h2))
set_option maxRecDepth 100000 in
theorem aX11_partOf_j10 {X : MCx} {yd : Dyn} {A : Nat → Prop} (C : OK X cX11_partOf RX11 5 (some .long) rmX11_partOf A)  (v0 : Int64) (v2 : Int64) (s0 : Int64) (h : AH) : AW X 5 ZR yd A 0 0 (QF X rmX11_partOf ZR yd rvL A) 10 [(0, .long v0), (2, .long v2)] [.long s0] h (X11_partOf_j10 v0 v2 s0 h) := by
    exact aw_lload_n (pc := 10) C (i := 0) dX11_partOf_10 rfl rfl <|
    aw_lload_n (pc := 11) C (i := 2) dX11_partOf_11 rfl rfl <|
    aw_callF (pc := 12) C (cr_S (rest := [.long s0]) (F := (X11_divisor v0 v2)) C (c_X11_divisor X.2.1 v0 v2) dX11_partOf_12 mf_X11_divisor ml_X11_234 st_X11_divisor ⟨(Nat.le_of_ble_eq_true rfl), (Nat.le_of_ble_eq_true rfl)⟩ rfl rfl (Nat.le_of_ble_eq_true rfl)) rfl rfl rfl (Nat.zero_le _) (Nat.zero_le _) fun r1 h2 =>
    aw_ldiv (pc := 15) C dX11_partOf_15 <|
    aw_lret (pc := 16) C dX11_partOf_16 rfl rfl
def X11_partOf (v0 : Int64) (v2 : Int64) (v4 : Int32) (h : AH) : Option (Int64 × AH) :=
    if v4 = 0 then (X11_partOf_j10 v0 v2 v0 h)
    else (X11_partOf_j10 v0 v2 v2 h)
set_option maxRecDepth 100000 in
theorem c_X11_partOf (l : Launch) (v0 : Int64) (v2 : Int64) (v4 : Int32) : MC l yX11_partOf cX11_partOf 5 (some .long) rmX11_partOf ZR [.long v0, .long v2, .int v4] rvL (X11_partOf v0 v2 v4) :=
  MC.of (own := RX11) (by decide +kernel) rfl (Nat.le_of_ble_eq_true rfl) fun X yd A h _ C =>
    aw_iload (pc := 0) C (i := 4) dX11_partOf_0 rfl <|
    aw_if_ne (pc := 2) C (tgt := 9) dX11_partOf_2 rfl (fun _ =>
    aw_lload_n (pc := 5) C (i := 0) dX11_partOf_5 rfl rfl <|
    aw_goto (pc := 6) C (tgt := 10) dX11_partOf_6 rfl <|
    aw_drop [0, 1] (aX11_partOf_j10 C v0 v2 v0 h)) (fun _ =>
    aw_lload_n (pc := 9) C (i := 2) dX11_partOf_9 rfl rfl <|
    aw_drop [0, 1] (aX11_partOf_j10 C v0 v2 v2 h))

abbrev rmX11_off : Room := { frames := 4, cells := 0, slots := 0, locals := 102 }
def X11_off_j42  (v1 : Int32) (v2 : Int32) (v3 : Int32) (v4 : Int32) (h : AH) : Option (Int64 × AH) :=
    if v4 = 0 then (bd (X11_placeOf v1 h) fun r5 h6 =>
    bd (X11_counted v1 r5 0 v2 h6) fun r7 h8 =>
    bd (X11_allWays h8) fun r9 h10 =>
    bd (X11_partOf r7 r9 v3 h10) fun r11 h12 =>
    some (r11, h12))
    else (bd (X11_lowest v4 h) fun r13 h14 =>
    some (r13, h14))
set_option maxRecDepth 100000 in
theorem aX11_off_j42 {X : MCx} {yd : Dyn} {A : Nat → Prop} (C : OK X cX11_off RX11 5 (some .long) rmX11_off A)  (v1 : Int32) (v2 : Int32) (v3 : Int32) (v4 : Int32) (h : AH) : AW X 5 ZR yd A 0 0 (QF X rmX11_off ZR yd rvL A) 42 [(0, .ref 0), (1, .int v1), (2, .int v2), (3, .int v3), (4, .int v4)] [] h (X11_off_j42 v1 v2 v3 v4 h) := by
    exact aw_iload (pc := 42) C (i := 4) dX11_off_42 rfl <|
    aw_if_eq (pc := 44) C (tgt := 56) dX11_off_44 rfl (fun _ =>
    aw_aload_n (pc := 56) C (i := 0) dX11_off_56 rfl rfl <|
    aw_iload_n (pc := 57) C (i := 1) dX11_off_57 rfl rfl <|
    aw_aload_n (pc := 58) C (i := 0) dX11_off_58 rfl rfl <|
    aw_iload_n (pc := 59) C (i := 1) dX11_off_59 rfl rfl <|
    aw_callF (pc := 60) C (cr_V (rest := [.int v1, .ref 0]) (F := (X11_placeOf v1)) C (c_X11_placeOf X.2.1 v1) dX11_off_60 mf_X11_placeOf ml_X11_223 im_X11_placeOf se_X11_placeOf sR_0 rfl ⟨(Nat.le_of_ble_eq_true rfl), (Nat.le_of_ble_eq_true rfl)⟩ rfl rfl (Nat.le_of_ble_eq_true rfl)) rfl rfl rfl (Nat.zero_le _) (Nat.zero_le _) fun r5 h6 =>
    aw_iconst (pc := 63) C (v := 0) dX11_off_63 rfl <|
    aw_iload_n (pc := 64) C (i := 2) dX11_off_64 rfl rfl <|
    aw_callF (pc := 65) C (cr_V (rest := []) (F := (X11_counted v1 r5 0 v2)) C (c_X11_counted X.2.1 v1 r5 0 v2) dX11_off_65 mf_X11_counted ml_X11_242 im_X11_counted se_X11_counted sR_0 rfl ⟨(Nat.le_of_ble_eq_true rfl), (Nat.le_of_ble_eq_true rfl)⟩ rfl rfl (Nat.le_of_ble_eq_true rfl)) rfl rfl rfl (Nat.zero_le _) (Nat.zero_le _) fun r7 h8 =>
    aw_aload_n (pc := 68) C (i := 0) dX11_off_68 rfl rfl <|
    aw_callF (pc := 69) C (cr_V (rest := [.long r7]) (F := X11_allWays) C (c_X11_allWays X.2.1 ) dX11_off_69 mf_X11_allWays ml_X11_246 im_X11_allWays se_X11_allWays sR_0 rfl ⟨(Nat.le_of_ble_eq_true rfl), (Nat.le_of_ble_eq_true rfl)⟩ rfl rfl (Nat.le_of_ble_eq_true rfl)) rfl rfl rfl (Nat.zero_le _) (Nat.zero_le _) fun r9 h10 =>
    aw_iload_n (pc := 72) C (i := 3) dX11_off_72 rfl rfl <|
    aw_callF (pc := 73) C (cr_S (rest := []) (F := (X11_partOf r7 r9 v3)) C (c_X11_partOf X.2.1 r7 r9 v3) dX11_off_73 mf_X11_partOf ml_X11_250 st_X11_partOf ⟨(Nat.le_of_ble_eq_true rfl), (Nat.le_of_ble_eq_true rfl)⟩ rfl rfl (Nat.le_of_ble_eq_true rfl)) rfl rfl rfl (Nat.zero_le _) (Nat.zero_le _) fun r11 h12 =>
    aw_lret (pc := 76) C dX11_off_76 rfl rfl) (fun _ =>
    aw_aload_n (pc := 47) C (i := 0) dX11_off_47 rfl rfl <|
    aw_iload (pc := 48) C (i := 4) dX11_off_48 rfl <|
    aw_callF (pc := 50) C (cr_V (rest := []) (F := (X11_lowest v4)) C (c_X11_lowest X.2.1 v4) dX11_off_50 mf_X11_lowest ml_X11_238 im_X11_lowest se_X11_lowest sR_0 rfl ⟨(Nat.le_of_ble_eq_true rfl), (Nat.le_of_ble_eq_true rfl)⟩ rfl rfl (Nat.le_of_ble_eq_true rfl)) rfl rfl rfl (Nat.zero_le _) (Nat.zero_le _) fun r13 h14 =>
    aw_goto (pc := 53) C (tgt := 76) dX11_off_53 rfl <|
    aw_lret (pc := 76) C dX11_off_76 rfl rfl)
def X11_off_j22  (v1 : Int32) (v2 : Int32) (v3 : Int32) (s0 : Int32) (h : AH) : Option (Int64 × AH) :=
    if s0 = 0 then (bd (X11_isIn v3 0 1 h) fun r15 h16 =>
    if r15 = 0 then (vl (-2) fun x17 =>
    X11_off_j42 v1 v2 v3 x17 h16)
    else (X11_off_j42 v1 v2 v3 s0 h16))
    else (X11_off_j42 v1 v2 v3 s0 h)
set_option maxRecDepth 100000 in
theorem aX11_off_j22 {X : MCx} {yd : Dyn} {A : Nat → Prop} (C : OK X cX11_off RX11 5 (some .long) rmX11_off A)  (v1 : Int32) (v2 : Int32) (v3 : Int32) (s0 : Int32) (h : AH) : AW X 5 ZR yd A 0 0 (QF X rmX11_off ZR yd rvL A) 22 [(0, .ref 0), (1, .int v1), (2, .int v2), (3, .int v3)] [.int s0] h (X11_off_j22 v1 v2 v3 s0 h) := by
    exact aw_istore (pc := 22) C (i := 4) (lv' := [(0, .ref 0), (1, .int v1), (2, .int v2), (3, .int v3), (4, .int s0)]) dX11_off_22 (by decide) rfl <|
    aw_iload (pc := 24) C (i := 4) dX11_off_24 rfl <|
    aw_if_ne (pc := 26) C (tgt := 42) dX11_off_26 rfl (fun _ =>
    aw_iload_n (pc := 29) C (i := 3) dX11_off_29 rfl rfl <|
    aw_iconst (pc := 30) C (v := 0) dX11_off_30 rfl <|
    aw_iconst (pc := 31) C (v := 1) dX11_off_31 rfl <|
    aw_callF (pc := 32) C (cr_S (rest := []) (F := (X11_isIn v3 0 1)) C (c_X11_isIn X.2.1 v3 0 1) dX11_off_32 mf_X11_isIn ml_X11_126 st_X11_isIn ⟨(Nat.le_of_ble_eq_true rfl), (Nat.le_of_ble_eq_true rfl)⟩ rfl rfl (Nat.le_of_ble_eq_true rfl)) rfl rfl rfl (Nat.zero_le _) (Nat.zero_le _) fun r15 h16 =>
    aw_if_ne (pc := 35) C (tgt := 42) dX11_off_35 rfl (fun _ =>
    aw_bipush (pc := 38) C (v := (-2)) dX11_off_38 rfl <|
    aw_istoreV (pc := 40) C (i := 4) (fun x17 => [(0, .ref 0), (1, .int v1), (2, .int v2), (3, .int v3), (4, .int x17)]) dX11_off_40 (by decide) (fun _ => rfl) fun x17 =>
    (aX11_off_j42 C v1 v2 v3 x17 h16)) (fun _ =>
    (aX11_off_j42 C v1 v2 v3 s0 h16))) (fun _ =>
    (aX11_off_j42 C v1 v2 v3 s0 h))
def X11_off (v1 : Int32) (v2 : Int32) (v3 : Int32) (h : AH) : Option (Int64 × AH) :=
    bd (X11_isJumper v1 h) fun r1 h2 =>
    if r1 = 0 then (X11_off_j22 v1 v2 v3 (-1) h2)
    else (bd (X11_bound v2 (-300) 300 h2) fun r3 h4 =>
    X11_off_j22 v1 v2 v3 r3 h4)
set_option maxRecDepth 100000 in
theorem c_X11_off (l : Launch) (v1 : Int32) (v2 : Int32) (v3 : Int32) : MC l yX11_off cX11_off 5 (some .long) rmX11_off ZR [.ref 0, .int v1, .int v2, .int v3] rvL (X11_off v1 v2 v3) :=
  MC.of (own := RX11) (by decide +kernel) rfl (Nat.le_of_ble_eq_true rfl) fun X yd A h _ C =>
    aw_aload_n (pc := 0) C (i := 0) dX11_off_0 rfl rfl <|
    aw_iload_n (pc := 1) C (i := 1) dX11_off_1 rfl rfl <|
    aw_callF (pc := 2) C (cr_V (rest := []) (F := (X11_isJumper v1)) C (c_X11_isJumper X.2.1 v1) dX11_off_2 mf_X11_isJumper ml_X11_207 im_X11_isJumper se_X11_isJumper sR_0 rfl ⟨(Nat.le_of_ble_eq_true rfl), (Nat.le_of_ble_eq_true rfl)⟩ rfl rfl (Nat.le_of_ble_eq_true rfl)) rfl rfl rfl (Nat.zero_le _) (Nat.zero_le _) fun r1 h2 =>
    aw_if_ne (pc := 5) C (tgt := 12) dX11_off_5 rfl (fun _ =>
    aw_iconst (pc := 8) C (v := (-1)) dX11_off_8 rfl <|
    aw_goto (pc := 9) C (tgt := 22) dX11_off_9 rfl <|
    (aX11_off_j22 C v1 v2 v3 (-1) h2)) (fun _ =>
    aw_iload_n (pc := 12) C (i := 2) dX11_off_12 rfl rfl <|
    aw_sipush (pc := 13) C (v := (-300)) dX11_off_13 rfl <|
    aw_sipush (pc := 16) C (v := 300) dX11_off_16 rfl <|
    aw_callF (pc := 19) C (cr_S (rest := []) (F := (X11_bound v2 (-300) 300)) C (c_X11_bound X.2.1 v2 (-300) 300) dX11_off_19 mf_X11_bound ml_X11_108 st_X11_bound ⟨(Nat.le_of_ble_eq_true rfl), (Nat.le_of_ble_eq_true rfl)⟩ rfl rfl (Nat.le_of_ble_eq_true rfl)) rfl rfl rfl (Nat.zero_le _) (Nat.zero_le _) fun r3 h4 =>
    (aX11_off_j22 C v1 v2 v3 r3 h4))
