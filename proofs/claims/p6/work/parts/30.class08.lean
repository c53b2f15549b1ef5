abbrev rmX10_fullLength : Room := { frames := 3, cells := 0, slots := 0, locals := 74 }
def X10_fullLength (v1 : Int32) (h : AH) : Option (Int32 × AH) :=
    bd (X5_at 42 v1 h) fun r1 h2 =>
    cs ZC r1 (.inr 2) (bd (kd (h2.2.2 r1) (X3_lengthOf r1 0 0 (h2.1 42 1) h2) (X7_lengthOf r1 0 0 (h2.1 42 1) h2) (X0_lengthOf r1 0 0 (h2.1 42 1) h2) (X7_lengthOf r1 0 0 (h2.1 42 1) h2) (X9_lengthOf r1 0 0 (h2.1 42 1) h2) (X8_lengthOf r1 0 0 (h2.1 42 1) h2)) fun r4 h5 =>
    some (r4, h5))
set_option maxRecDepth 100000 in
theorem c_X10_fullLength (l : Launch) (v1 : Int32) : MC l yX10_fullLength cX10_fullLength 3 (some .int) rmX10_fullLength ZC [.ref 0, .int v1] rvI (X10_fullLength v1) :=
  MC.of (own := RX10) (by decide +kernel) rfl (Nat.le_of_ble_eq_true rfl) fun X yd A h _ C =>
    aw_aload_n (pc := 0) C (i := 0) dX10_fullLength_0 rfl rfl <|
    aw_getR (pc := 1) C (b := 42) dX10_fullLength_1 fl_X10_72 sC_0 rfl rC_0_1 <|
    aw_iload_n (pc := 4) C (i := 1) dX10_fullLength_4 rfl rfl <|
    aw_callF (pc := 5) C (cr_V (rest := []) (F := (X5_at 42 v1)) C (c_X5_at X.2.1 42 (Or.inl rfl) v1) dX10_fullLength_5 mf_X5_at ml_X10_169 im_X5_at se_X5_at (mt_s (Or.inl rfl)) rfl ⟨(Nat.le_of_ble_eq_true rfl), (Nat.le_of_ble_eq_true rfl)⟩ rfl rfl (Nat.le_of_ble_eq_true rfl)) rfl rfl rfl (Nat.zero_le _) (Nat.zero_le _) fun r1 h2 =>
    aw_cs fun hs3 =>
    aw_astore_n (pc := 8) C (i := 2) (lv' := [(0, .ref 0), (1, .int v1), (2, .ref r1)]) dX10_fullLength_8 rfl (by decide) rfl <|
    aw_aload_n (pc := 9) C (i := 2) dX10_fullLength_9 rfl rfl <|
    aw_getW (pc := 10) C (b := (36 + h2.2.2 r1 % 6)) dX10_fullLength_10 fl_X10_173 hs3 rfl rfl <|
    aw_aload_n (pc := 13) C (i := 2) dX10_fullLength_13 rfl rfl <|
    aw_iconst (pc := 14) C (v := 0) dX10_fullLength_14 rfl <|
    aw_iconst (pc := 15) C (v := 0) dX10_fullLength_15 rfl <|
    aw_aload_n (pc := 16) C (i := 0) dX10_fullLength_16 rfl rfl <|
    aw_getR (pc := 17) C (b := 42) dX10_fullLength_17 fl_X10_72 sC_0 rfl rC_0_1 <|
    aw_getI (pc := 20) C dX10_fullLength_20 fl_X10_157 (mt_s (Or.inl rfl)) rfl <|
    aw_callF (pc := 23) C (kdA_lengthOf C dX10_fullLength_23 ml_X10_238 (h2.2.2 r1) r1 hs3 0 0 (h2.1 42 1) [] ⟨⟨(Nat.le_of_ble_eq_true rfl), (Nat.le_of_ble_eq_true rfl)⟩, ⟨(Nat.le_of_ble_eq_true rfl), (Nat.le_of_ble_eq_true rfl)⟩, ⟨(Nat.le_of_ble_eq_true rfl), (Nat.le_of_ble_eq_true rfl)⟩, ⟨(Nat.le_of_ble_eq_true rfl), (Nat.le_of_ble_eq_true rfl)⟩, ⟨(Nat.le_of_ble_eq_true rfl), (Nat.le_of_ble_eq_true rfl)⟩, ⟨(Nat.le_of_ble_eq_true rfl), (Nat.le_of_ble_eq_true rfl)⟩⟩ (Nat.le_of_ble_eq_true rfl)) rfl rfl rfl (Nat.zero_le _) (Nat.zero_le _) fun r4 h5 =>
    aw_iret (pc := 26) C dX10_fullLength_26 rfl rfl

abbrev rmX10_safe : Room := { frames := 4, cells := 0, slots := 0, locals := 96 }
def X10_safe_j66  (v1 : Int32) (v3 : Int32) (K37 : Int32 → AH → Option (Int32 × AH)) (h : AH) : Option (Int32 × AH) :=
    vl (v3 + 1) fun x9 =>
    K37 x9 h
set_option maxRecDepth 100000 in
theorem aX10_safe_j66 {X : MCx} {yd : Dyn} {A : Nat → Prop} (C : OK X cX10_safe RX10 4 (some .int) rmX10_safe A)  (v1 : Int32) (v3 : Int32) (K37 : Int32 → AH → Option (Int32 × AH)) (hK37 : ∀ (w3 : Int32) (h : AH), AW X 4 ZC yd A 0 0 (QF X rmX10_safe ZC yd rvI A) 37 [(0, .ref 0), (1, .int v1), (3, .int w3)] [] h (K37 w3 h)) (h : AH) : AW X 4 ZC yd A 0 0 (QF X rmX10_safe ZC yd rvI A) 66 [(0, .ref 0), (1, .int v1), (3, .int v3)] [] h (X10_safe_j66 v1 v3 K37 h) := by
    exact aw_iincV (pc := 66) C (i := 3) (cst := 1) (fun x9 => [(0, .ref 0), (1, .int v1), (3, .int x9)]) dX10_safe_66 rfl rfl (by decide) (fun _ => rfl) fun x9 =>
    aw_goto (pc := 69) C (tgt := 37) dX10_safe_69 rfl <|
    (hK37 x9 h)
def X10_safe_l37  (v1 : Int32) : Nat → Int32 → AH → Option (Int32 × AH)
  | 0, _, _ => none
  | n + 1, v3, h =>
    if (h.1 42 3) ≤ v3 then (bd (X5_finalists 42 h) fun r5 h6 =>
    bd (X10_leastFor v1 r5 h6) fun r7 h8 =>
    some (r7, h8))
    else (if v3 = v1 then (X10_safe_j66 v1 v3 (X10_safe_l37 v1 n) h)
    else (bd (X10_fullLength v3 h) fun r10 h11 =>
    bd (X6_add v3 r10 h11) fun _ h13 =>
    X10_safe_j66 v1 v3 (X10_safe_l37 v1 n) h13))
set_option maxRecDepth 100000 in
theorem aX10_safe_l37 {X : MCx} {yd : Dyn} {A : Nat → Prop} (C : OK X cX10_safe RX10 4 (some .int) rmX10_safe A)  (v1 : Int32) : ∀ (n : Nat) (v3 : Int32) (h : AH), AW X 4 ZC yd A 0 0 (QF X rmX10_safe ZC yd rvI A) 37 [(0, .ref 0), (1, .int v1), (3, .int v3)] [] h (X10_safe_l37 v1 n v3 h) := by
  intro n
  induction n with
  | zero => intro v3 h; exact aw_none
  | succ n ih =>
    intro v3 h
    exact aw_iload_n (pc := 37) C (i := 3) dX10_safe_37 rfl rfl <|
    aw_aload_n (pc := 38) C (i := 0) dX10_safe_38 rfl rfl <|
    aw_getR (pc := 39) C (b := 42) dX10_safe_39 fl_X10_72 sC_0 rfl rC_0_1 <|
    aw_getI (pc := 42) C dX10_safe_42 fl_X10_89 (mt_s (Or.inl rfl)) rfl <|
    aw_icmp_ge (pc := 45) C (tgt := 72) dX10_safe_45 rfl (fun _ =>
    aw_aload_n (pc := 72) C (i := 0) dX10_safe_72 rfl rfl <|
    aw_iload_n (pc := 73) C (i := 1) dX10_safe_73 rfl rfl <|
    aw_aload_n (pc := 74) C (i := 0) dX10_safe_74 rfl rfl <|
    aw_getR (pc := 75) C (b := 42) dX10_safe_75 fl_X10_72 sC_0 rfl rC_0_1 <|
    aw_callF (pc := 78) C (cr_V (rest := [.int v1, .ref 0]) (F := (X5_finalists 42)) C (c_X5_finalists X.2.1 42 (Or.inl rfl)) dX10_safe_78 mf_X5_finalists ml_X10_306 im_X5_finalists se_X5_finalists (mt_s (Or.inl rfl)) rfl ⟨(Nat.le_of_ble_eq_true rfl), (Nat.le_of_ble_eq_true rfl)⟩ rfl rfl (Nat.le_of_ble_eq_true rfl)) rfl rfl rfl (Nat.zero_le _) (Nat.zero_le _) fun r5 h6 =>
    aw_callF (pc := 81) C (cr_V (rest := []) (F := (X10_leastFor v1 r5)) C (c_X10_leastFor X.2.1 v1 r5) dX10_safe_81 mf_X10_leastFor ml_X10_309 im_X10_leastFor se_X10_leastFor sC_0 rfl ⟨(Nat.le_of_ble_eq_true rfl), (Nat.le_of_ble_eq_true rfl)⟩ rfl rfl (Nat.le_of_ble_eq_true rfl)) rfl rfl rfl (Nat.zero_le _) (Nat.zero_le _) fun r7 h8 =>
    aw_iret (pc := 84) C dX10_safe_84 rfl rfl) (fun _ =>
    aw_iload_n (pc := 48) C (i := 3) dX10_safe_48 rfl rfl <|
    aw_iload_n (pc := 49) C (i := 1) dX10_safe_49 rfl rfl <|
    aw_icmp_eq (pc := 50) C (tgt := 66) dX10_safe_50 rfl (fun _ =>
    (aX10_safe_j66 C v1 v3 (X10_safe_l37 v1 n) ih h)) (fun _ =>
    aw_aload_n (pc := 53) C (i := 0) dX10_safe_53 rfl rfl <|
    aw_getR (pc := 54) C (b := 5) dX10_safe_54 fl_X10_28 sC_0 rfl rC_0_10 <|
    aw_iload_n (pc := 57) C (i := 3) dX10_safe_57 rfl rfl <|
    aw_aload_n (pc := 58) C (i := 0) dX10_safe_58 rfl rfl <|
    aw_iload_n (pc := 59) C (i := 3) dX10_safe_59 rfl rfl <|
    aw_callF (pc := 60) C (cr_V (rest := [.int v3, .ref 5]) (F := (X10_fullLength v3)) C (c_X10_fullLength X.2.1 v3) dX10_safe_60 mf_X10_fullLength ml_X10_404 im_X10_fullLength se_X10_fullLength sC_0 rfl ⟨(Nat.le_of_ble_eq_true rfl), (Nat.le_of_ble_eq_true rfl)⟩ rfl rfl (Nat.le_of_ble_eq_true rfl)) rfl rfl rfl (Nat.zero_le _) (Nat.zero_le _) fun r10 h11 =>
    aw_callF (pc := 63) C (cr_V (rest := []) (F := (X6_add v3 r10)) C (c_X6_add X.2.1 v3 r10) dX10_safe_63 mf_X6_add ml_X10_339 im_X6_add se_X6_add sC_5 rfl ⟨(Nat.le_of_ble_eq_true rfl), (Nat.le_of_ble_eq_true rfl)⟩ rfl rfl (Nat.le_of_ble_eq_true rfl)) rfl rfl rfl (Nat.zero_le _) (Nat.zero_le _) fun _ h13 =>
    (aX10_safe_j66 C v1 v3 (X10_safe_l37 v1 n) ih h13)))
def X10_safe (v1 : Int32) (h : AH) : Option (Int32 × AH) :=
    bd (X10_nobody v1 h) fun r1 h2 =>
    if r1 = 0 then (bd (X5_rank 42 0 (h2.1 42 4) h2) fun _ h4 =>
    X10_safe_l37 v1 FU 0 h4)
    else (bd (X10_refuse r1 h2) fun r14 h15 =>
    some (r14, h15))
set_option maxRecDepth 100000 in
theorem c_X10_safe (l : Launch) (v1 : Int32) : MC l yX10_safe cX10_safe 4 (some .int) rmX10_safe ZC [.ref 0, .int v1] rvI (X10_safe v1) :=
  MC.of (own := RX10) (by decide +kernel) rfl (Nat.le_of_ble_eq_true rfl) fun X yd A h _ C =>
    aw_aload_n (pc := 0) C (i := 0) dX10_safe_0 rfl rfl <|
    aw_iload_n (pc := 1) C (i := 1) dX10_safe_1 rfl rfl <|
    aw_callF (pc := 2) C (cr_V (rest := []) (F := (X10_nobody v1)) C (c_X10_nobody X.2.1 v1) dX10_safe_2 mf_X10_nobody ml_X10_93 im_X10_nobody se_X10_nobody sC_0 rfl ⟨(Nat.le_of_ble_eq_true rfl), (Nat.le_of_ble_eq_true rfl)⟩ rfl rfl (Nat.le_of_ble_eq_true rfl)) rfl rfl rfl (Nat.zero_le _) (Nat.zero_le _) fun r1 h2 =>
    aw_istore_n (pc := 5) C (i := 2) (lv' := [(0, .ref 0), (1, .int v1), (2, .int r1)]) dX10_safe_5 rfl (by decide) rfl <|
    aw_iload_n (pc := 6) C (i := 2) dX10_safe_6 rfl rfl <|
    aw_if_eq (pc := 7) C (tgt := 16) dX10_safe_7 rfl (fun _ =>
    aw_aload_n (pc := 16) C (i := 0) dX10_safe_16 rfl rfl <|
    aw_getR (pc := 17) C (b := 42) dX10_safe_17 fl_X10_72 sC_0 rfl rC_0_1 <|
    aw_aload_n (pc := 20) C (i := 0) dX10_safe_20 rfl rfl <|
    aw_getR (pc := 21) C (b := 5) dX10_safe_21 fl_X10_28 sC_0 rfl rC_0_10 <|
    aw_iconst (pc := 24) C (v := 0) dX10_safe_24 rfl <|
    aw_aload_n (pc := 25) C (i := 0) dX10_safe_25 rfl rfl <|
    aw_getR (pc := 26) C (b := 42) dX10_safe_26 fl_X10_72 sC_0 rfl rC_0_1 <|
    aw_getI (pc := 29) C dX10_safe_29 fl_X10_160 (mt_s (Or.inl rfl)) rfl <|
    aw_callF (pc := 32) C (cr_V (rest := []) (F := (X5_rank 42 0 (h2.1 42 4))) C (c_X5_rank X.2.1 42 (Or.inl rfl) 0 (h2.1 42 4)) dX10_safe_32 mf_X5_rank ml_X10_214 im_X5_rank se_X5_rank (mt_s (Or.inl rfl)) rfl ⟨(Nat.le_of_ble_eq_true rfl), (Nat.le_of_ble_eq_true rfl)⟩ rfl rfl (Nat.le_of_ble_eq_true rfl)) rfl rfl rfl (Nat.zero_le _) (Nat.zero_le _) fun _ h4 =>
    aw_iconst (pc := 35) C (v := 0) dX10_safe_35 rfl <|
    aw_istore_n (pc := 36) C (i := 3) (lv' := [(0, .ref 0), (1, .int v1), (2, .int r1), (3, .int 0)]) dX10_safe_36 rfl (by decide) rfl <|
    aw_drop [0, 1, 3] (aX10_safe_l37 C v1 FU 0 h4)) (fun _ =>
    aw_aload_n (pc := 10) C (i := 0) dX10_safe_10 rfl rfl <|
    aw_iload_n (pc := 11) C (i := 2) dX10_safe_11 rfl rfl <|
    aw_callF (pc := 12) C (cr_V (rest := []) (F := (X10_refuse r1)) C (c_X10_refuse X.2.1 r1) dX10_safe_12 mf_X10_refuse ml_X10_111 im_X10_refuse se_X10_refuse sC_0 rfl ⟨(Nat.le_of_ble_eq_true rfl), (Nat.le_of_ble_eq_true rfl)⟩ rfl rfl (Nat.le_of_ble_eq_true rfl)) rfl rfl rfl (Nat.zero_le _) (Nat.zero_le _) fun r14 h15 =>
    aw_iret (pc := 15) C dX10_safe_15 rfl rfl)

abbrev rmX10_mayStill : Room := { frames := 4, cells := 0, slots := 0, locals := 96 }
def X10_mayStill_j82  (v1 : Int32) (v2 : Int32) (v3 : Int32) (K41 : Int32 → Int32 → AH → Option (Int32 × AH)) (h : AH) : Option (Int32 × AH) :=
    vl (v3 + 1) fun x9 =>
    K41 v2 x9 h
set_option maxRecDepth 100000 in
theorem aX10_mayStill_j82 {X : MCx} {yd : Dyn} {A : Nat → Prop} (C : OK X cX10_mayStill RX10 4 (some .int) rmX10_mayStill A)  (v1 : Int32) (v2 : Int32) (v3 : Int32) (K41 : Int32 → Int32 → AH → Option (Int32 × AH)) (hK41 : ∀ (w2 : Int32) (w3 : Int32) (h : AH), AW X 4 ZC yd A 0 0 (QF X rmX10_mayStill ZC yd rvI A) 41 [(0, .ref 0), (1, .int v1), (2, .int w2), (3, .int w3)] [] h (K41 w2 w3 h)) (h : AH) : AW X 4 ZC yd A 0 0 (QF X rmX10_mayStill ZC yd rvI A) 82 [(0, .ref 0), (1, .int v1), (2, .int v2), (3, .int v3)] [] h (X10_mayStill_j82 v1 v2 v3 K41 h) := by
    exact aw_iincV (pc := 82) C (i := 3) (cst := 1) (fun x9 => [(0, .ref 0), (1, .int v1), (2, .int v2), (3, .int x9)]) dX10_mayStill_82 rfl rfl (by decide) (fun _ => rfl) fun x9 =>
    aw_goto (pc := 85) C (tgt := 41) dX10_mayStill_85 rfl <|
    (hK41 v2 x9 h)
def X10_mayStill_j70  (v1 : Int32) (v2 : Int32) (v3 : Int32) (K41 : Int32 → Int32 → AH → Option (Int32 × AH)) (s0 : Int32) (s1 : Int32) (h : AH) : Option (Int32 × AH) :=
    bd (X6_ahead s1 s0 h) fun r7 h8 =>
    if r7 = 0 then (vl (v2 ||| (shl32 1 v3)) fun x10 =>
    X10_mayStill_j82 v1 x10 v3 K41 h8)
    else (X10_mayStill_j82 v1 v2 v3 K41 h8)
set_option maxRecDepth 100000 in
theorem aX10_mayStill_j70 {X : MCx} {yd : Dyn} {A : Nat → Prop} (C : OK X cX10_mayStill RX10 4 (some .int) rmX10_mayStill A)  (v1 : Int32) (v2 : Int32) (v3 : Int32) (K41 : Int32 → Int32 → AH → Option (Int32 × AH)) (hK41 : ∀ (w2 : Int32) (w3 : Int32) (h : AH), AW X 4 ZC yd A 0 0 (QF X rmX10_mayStill ZC yd rvI A) 41 [(0, .ref 0), (1, .int v1), (2, .int w2), (3, .int w3)] [] h (K41 w2 w3 h)) (s0 : Int32) (s1 : Int32) (h : AH) : AW X 4 ZC yd A 0 0 (QF X rmX10_mayStill ZC yd rvI A) 70 [(0, .ref 0), (1, .int v1), (2, .int v2), (3, .int v3)] [.int s0, .int s1, .ref 5] h (X10_mayStill_j70 v1 v2 v3 K41 s0 s1 h) := by
    exact aw_callF (pc := 70) C (cr_V (rest := []) (F := (X6_ahead s1 s0)) C (c_X6_ahead X.2.1 s1 s0) dX10_mayStill_70 mf_X6_ahead ml_X10_312 im_X6_ahead se_X6_ahead sC_5 rfl ⟨(Nat.le_of_ble_eq_true rfl), (Nat.le_of_ble_eq_true rfl)⟩ rfl rfl (Nat.le_of_ble_eq_true rfl)) rfl rfl rfl (Nat.zero_le _) (Nat.zero_le _) fun r7 h8 =>
    aw_if_ne (pc := 73) C (tgt := 82) dX10_mayStill_73 rfl (fun _ =>
    aw_iload_n (pc := 76) C (i := 2) dX10_mayStill_76 rfl rfl <|
    aw_iconst (pc := 77) C (v := 1) dX10_mayStill_77 rfl <|
    aw_iload_n (pc := 78) C (i := 3) dX10_mayStill_78 rfl rfl <|
    aw_ishl (pc := 79) C dX10_mayStill_79 <|
    aw_ior (pc := 80) C dX10_mayStill_80 <|
    aw_istoreV_n (pc := 81) C (i := 2) (fun x10 => [(0, .ref 0), (1, .int v1), (2, .int x10), (3, .int v3)]) dX10_mayStill_81 rfl (by decide) (fun _ => rfl) fun x10 =>
    (aX10_mayStill_j82 C v1 x10 v3 K41 hK41 h8)) (fun _ =>
    (aX10_mayStill_j82 C v1 v2 v3 K41 hK41 h8))
def X10_mayStill_l41  (v1 : Int32) : Nat → Int32 → Int32 → AH → Option (Int32 × AH)
  | 0, _, _, _ => none
  | n + 1, v2, v3, h =>
    if (h.1 42 3) ≤ v3 then (some (v2, h))
    else (if v1 = 0 then (bd (X10_fullLength v3 h) fun r5 h6 =>
    X10_mayStill_j70 v1 v2 v3 (X10_mayStill_l41 v1 n) r5 v3 h6)
    else (X10_mayStill_j70 v1 v2 v3 (X10_mayStill_l41 v1 n) 0 v3 h))
set_option maxRecDepth 100000 in
theorem aX10_mayStill_l41 {X : MCx} {yd : Dyn} {A : Nat → Prop} (C : OK X cX10_mayStill RX10 4 (some .int) rmX10_mayStill A)  (v1 : Int32) : ∀ (n : Nat) (v2 : Int32) (v3 : Int32) (h : AH), AW X 4 ZC yd A 0 0 (QF X rmX10_mayStill ZC yd rvI A) 41 [(0, .ref 0), (1, .int v1), (2, .int v2), (3, .int v3)] [] h (X10_mayStill_l41 v1 n v2 v3 h) := by
  intro n
  induction n with
  | zero => intro v2 v3 h; exact aw_none
  | succ n ih =>
    intro v2 v3 h
    exact aw_iload_n (pc := 41) C (i := 3) dX10_mayStill_41 rfl rfl <|
    aw_aload_n (pc := 42) C (i := 0) dX10_mayStill_42 rfl rfl <|
    aw_getR (pc := 43) C (b := 42) dX10_mayStill_43 fl_X10_72 sC_0 rfl rC_0_1 <|
    aw_getI (pc := 46) C dX10_mayStill_46 fl_X10_89 (mt_s (Or.inl rfl)) rfl <|
    aw_icmp_ge (pc := 49) C (tgt := 88) dX10_mayStill_49 rfl (fun _ =>
    aw_iload_n (pc := 88) C (i := 2) dX10_mayStill_88 rfl rfl <|
    aw_iret (pc := 89) C dX10_mayStill_89 rfl rfl) (fun _ =>
    aw_aload_n (pc := 52) C (i := 0) dX10_mayStill_52 rfl rfl <|
    aw_getR (pc := 53) C (b := 5) dX10_mayStill_53 fl_X10_28 sC_0 rfl rC_0_10 <|
    aw_iload_n (pc := 56) C (i := 3) dX10_mayStill_56 rfl rfl <|
    aw_iload_n (pc := 57) C (i := 1) dX10_mayStill_57 rfl rfl <|
    aw_if_eq (pc := 58) C (tgt := 65) dX10_mayStill_58 rfl (fun _ =>
    aw_aload_n (pc := 65) C (i := 0) dX10_mayStill_65 rfl rfl <|
    aw_iload_n (pc := 66) C (i := 3) dX10_mayStill_66 rfl rfl <|
    aw_callF (pc := 67) C (cr_V (rest := [.int v3, .ref 5]) (F := (X10_fullLength v3)) C (c_X10_fullLength X.2.1 v3) dX10_mayStill_67 mf_X10_fullLength ml_X10_404 im_X10_fullLength se_X10_fullLength sC_0 rfl ⟨(Nat.le_of_ble_eq_true rfl), (Nat.le_of_ble_eq_true rfl)⟩ rfl rfl (Nat.le_of_ble_eq_true rfl)) rfl rfl rfl (Nat.zero_le _) (Nat.zero_le _) fun r5 h6 =>
    (aX10_mayStill_j70 C v1 v2 v3 (X10_mayStill_l41 v1 n) ih r5 v3 h6)) (fun _ =>
    aw_iconst (pc := 61) C (v := 0) dX10_mayStill_61 rfl <|
    aw_goto (pc := 62) C (tgt := 70) dX10_mayStill_62 rfl <|
    (aX10_mayStill_j70 C v1 v2 v3 (X10_mayStill_l41 v1 n) ih 0 v3 h)))
def X10_mayStill_j17  (s0 : Int32) (h : AH) : Option (Int32 × AH) :=
    bd (X5_rank 42 0 (h.1 42 4) h) fun _ h4 =>
    X10_mayStill_l41 s0 FU 0 0 h4
set_option maxRecDepth 100000 in
theorem aX10_mayStill_j17 {X : MCx} {yd : Dyn} {A : Nat → Prop} (C : OK X cX10_mayStill RX10 4 (some .int) rmX10_mayStill A)  (s0 : Int32) (h : AH) : AW X 4 ZC yd A 0 0 (QF X rmX10_mayStill ZC yd rvI A) 17 [(0, .ref 0)] [.int s0] h (X10_mayStill_j17 s0 h) := by
    exact aw_istore_n (pc := 17) C (i := 1) (lv' := [(0, .ref 0), (1, .int s0)]) dX10_mayStill_17 rfl (by decide) rfl <|
    aw_aload_n (pc := 18) C (i := 0) dX10_mayStill_18 rfl rfl <|
    aw_getR (pc := 19) C (b := 42) dX10_mayStill_19 fl_X10_72 sC_0 rfl rC_0_1 <|
    aw_aload_n (pc := 22) C (i := 0) dX10_mayStill_22 rfl rfl <|
    aw_getR (pc := 23) C (b := 5) dX10_mayStill_23 fl_X10_28 sC_0 rfl rC_0_10 <|
    aw_iconst (pc := 26) C (v := 0) dX10_mayStill_26 rfl <|
    aw_aload_n (pc := 27) C (i := 0) dX10_mayStill_27 rfl rfl <|
    aw_getR (pc := 28) C (b := 42) dX10_mayStill_28 fl_X10_72 sC_0 rfl rC_0_1 <|
    aw_getI (pc := 31) C dX10_mayStill_31 fl_X10_160 (mt_s (Or.inl rfl)) rfl <|
    aw_callF (pc := 34) C (cr_V (rest := []) (F := (X5_rank 42 0 (h.1 42 4))) C (c_X5_rank X.2.1 42 (Or.inl rfl) 0 (h.1 42 4)) dX10_mayStill_34 mf_X5_rank ml_X10_214 im_X5_rank se_X5_rank (mt_s (Or.inl rfl)) rfl ⟨(Nat.le_of_ble_eq_true rfl), (Nat.le_of_ble_eq_true rfl)⟩ rfl rfl (Nat.le_of_ble_eq_true rfl)) rfl rfl rfl (Nat.zero_le _) (Nat.zero_le _) fun _ h4 =>
    aw_iconst (pc := 37) C (v := 0) dX10_mayStill_37 rfl <|
    aw_istore_n (pc := 38) C (i := 2) (lv' := [(0, .ref 0), (1, .int s0), (2, .int 0)]) dX10_mayStill_38 rfl (by decide) rfl <|
    aw_iconst (pc := 39) C (v := 0) dX10_mayStill_39 rfl <|
    aw_istore_n (pc := 40) C (i := 3) (lv' := [(0, .ref 0), (1, .int s0), (2, .int 0), (3, .int 0)]) dX10_mayStill_40 rfl (by decide) rfl <|
    (aX10_mayStill_l41 C s0 FU 0 0 h4)
def X10_mayStill  (h : AH) : Option (Int32 × AH) :=
    bd (X5_round 42 h) fun r1 h2 =>
    if r1 = 6 then (X10_mayStill_j17 1 h2)
    else (X10_mayStill_j17 0 h2)
set_option maxRecDepth 100000 in
theorem c_X10_mayStill (l : Launch)  : MC l yX10_mayStill cX10_mayStill 4 (some .int) rmX10_mayStill ZC [.ref 0] rvI (X10_mayStill) :=
  MC.of (own := RX10) (by decide +kernel) rfl (Nat.le_of_ble_eq_true rfl) fun X yd A h _ C =>
    aw_aload_n (pc := 0) C (i := 0) dX10_mayStill_0 rfl rfl <|
    aw_getR (pc := 1) C (b := 42) dX10_mayStill_1 fl_X10_72 sC_0 rfl rC_0_1 <|
    aw_callF (pc := 4) C (cr_V (rest := []) (F := (X5_round 42)) C (c_X5_round X.2.1 42 (Or.inl rfl)) dX10_mayStill_4 mf_X5_round ml_X10_336 im_X5_round se_X5_round (mt_s (Or.inl rfl)) rfl ⟨(Nat.le_of_ble_eq_true rfl), (Nat.le_of_ble_eq_true rfl)⟩ rfl rfl (Nat.le_of_ble_eq_true rfl)) rfl rfl rfl (Nat.zero_le _) (Nat.zero_le _) fun r1 h2 =>
    aw_bipush (pc := 7) C (v := 6) dX10_mayStill_7 rfl <|
    aw_icmp_ne (pc := 9) C (tgt := 16) dX10_mayStill_9 rfl (fun _ =>
    aw_iconst (pc := 12) C (v := 1) dX10_mayStill_12 rfl <|
    aw_goto (pc := 13) C (tgt := 17) dX10_mayStill_13 rfl <|
    (aX10_mayStill_j17 C 1 h2)) (fun _ =>
    aw_iconst (pc := 16) C (v := 0) dX10_mayStill_16 rfl <|
    (aX10_mayStill_j17 C 0 h2))

abbrev rmX10_image : Room := { frames := 2, cells := 0, slots := 0, locals := 67 }
def X10_image  (h : AH) : Option (Int32 × AH) :=
    bd (X5_copyFrom 62 42 h) fun _ h2 =>
    cz 1 (vl (sI h2 0 4 1) fun h3 =>
    some ((h3.1 42 4), h3))
set_option maxRecDepth 100000 in
theorem c_X10_image (l : Launch)  : MC l yX10_image cX10_image 1 (some .int) rmX10_image ZC [.ref 0] rvI (X10_image) :=
  MC.of (own := RX10) (by decide +kernel) rfl (Nat.le_of_ble_eq_true rfl) fun X yd A h _ C =>
    aw_aload_n (pc := 0) C (i := 0) dX10_image_0 rfl rfl <|
    aw_getR (pc := 1) C (b := 62) dX10_image_1 fl_X10_79 sC_0 rfl rC_0_3 <|
    aw_aload_n (pc := 4) C (i := 0) dX10_image_4 rfl rfl <|
    aw_getR (pc := 5) C (b := 42) dX10_image_5 fl_X10_72 sC_0 rfl rC_0_1 <|
    aw_callF (pc := 8) C (cr_V (rest := []) (F := (X5_copyFrom 62 42)) C (c_X5_copyFrom X.2.1 62 (Or.inr (Or.inr rfl)) 42 (Or.inl rfl)) dX10_image_8 mf_X5_copyFrom ml_X10_121 im_X5_copyFrom se_X5_copyFrom (mt_s (Or.inr (Or.inr rfl))) rfl ⟨(Nat.le_of_ble_eq_true rfl), (Nat.le_of_ble_eq_true rfl)⟩ rfl rfl (Nat.le_of_ble_eq_true rfl)) rfl rfl rfl (Nat.zero_le _) (Nat.zero_le _) fun _ h2 =>
    aw_aload_n (pc := 11) C (i := 0) dX10_image_11 rfl rfl <|
    aw_iconst (pc := 12) C (v := 1) dX10_image_12 rfl <|
    aw_putZ (pc := 13) C dX10_image_13 fp_X10_407 sC_0 rfl fun h3 =>
    aw_aload_n (pc := 16) C (i := 0) dX10_image_16 rfl rfl <|
    aw_getR (pc := 17) C (b := 42) dX10_image_17 fl_X10_72 sC_0 rfl rC_0_1 <|
    aw_getI (pc := 20) C dX10_image_20 fl_X10_160 (mt_s (Or.inl rfl)) rfl <|
    aw_iret (pc := 23) C dX10_image_23 rfl rfl

abbrev rmX10_restore : Room := { frames := 2, cells := 0, slots := 0, locals := 67 }
def X10_restore  (h : AH) : Option (Int32 × AH) :=
    if (h.1 0 4) = 0 then (bd (X10_refuse (-3) h) fun r3 h4 =>
    some (r3, h4))
    else (bd (X5_copyFrom 42 62 h) fun _ h2 =>
    some ((h2.1 42 4), h2))
set_option maxRecDepth 100000 in
theorem c_X10_restore (l : Launch)  : MC l yX10_restore cX10_restore 1 (some .int) rmX10_restore ZC [.ref 0] rvI (X10_restore) :=
  MC.of (own := RX10) (by decide +kernel) rfl (Nat.le_of_ble_eq_true rfl) fun X yd A h _ C =>
    aw_aload_n (pc := 0) C (i := 0) dX10_restore_0 rfl rfl <|
    aw_getI (pc := 1) C dX10_restore_1 fl_X10_407 sC_0 rfl <|
    aw_if_ne (pc := 4) C (tgt := 14) dX10_restore_4 rfl (fun _ =>
    aw_aload_n (pc := 7) C (i := 0) dX10_restore_7 rfl rfl <|
    aw_bipush (pc := 8) C (v := (-3)) dX10_restore_8 rfl <|
    aw_callF (pc := 10) C (cr_V (rest := []) (F := (X10_refuse (-3))) C (c_X10_refuse X.2.1 (-3)) dX10_restore_10 mf_X10_refuse ml_X10_111 im_X10_refuse se_X10_refuse sC_0 rfl ⟨(Nat.le_of_ble_eq_true rfl), (Nat.le_of_ble_eq_true rfl)⟩ rfl rfl (Nat.le_of_ble_eq_true rfl)) rfl rfl rfl (Nat.zero_le _) (Nat.zero_le _) fun r3 h4 =>
    aw_iret (pc := 13) C dX10_restore_13 rfl rfl) (fun _ =>
    aw_aload_n (pc := 14) C (i := 0) dX10_restore_14 rfl rfl <|
    aw_getR (pc := 15) C (b := 42) dX10_restore_15 fl_X10_72 sC_0 rfl rC_0_1 <|
    aw_aload_n (pc := 18) C (i := 0) dX10_restore_18 rfl rfl <|
    aw_getR (pc := 19) C (b := 62) dX10_restore_19 fl_X10_79 sC_0 rfl rC_0_3 <|
    aw_callF (pc := 22) C (cr_V (rest := []) (F := (X5_copyFrom 42 62)) C (c_X5_copyFrom X.2.1 42 (Or.inl rfl) 62 (Or.inr (Or.inr rfl))) dX10_restore_22 mf_X5_copyFrom ml_X10_121 im_X5_copyFrom se_X5_copyFrom (mt_s (Or.inl rfl)) rfl ⟨(Nat.le_of_ble_eq_true rfl), (Nat.le_of_ble_eq_true rfl)⟩ rfl rfl (Nat.le_of_ble_eq_true rfl)) rfl rfl rfl (Nat.zero_le _) (Nat.zero_le _) fun _ h2 =>
    aw_aload_n (pc := 25) C (i := 0) dX10_restore_25 rfl rfl <|
    aw_getR (pc := 26) C (b := 42) dX10_restore_26 fl_X10_72 sC_0 rfl rC_0_1 <|
    aw_getI (pc := 29) C dX10_restore_29 fl_X10_160 (mt_s (Or.inl rfl)) rfl <|
    aw_iret (pc := 32) C dX10_restore_32 rfl rfl)

abbrev rmX10_count : Room := { frames := 2, cells := 0, slots := 0, locals := 66 }
def X10_count (v1 : Int32) (h : AH) : Option (Int32 × AH) :=
    vl v1 fun y1 =>
    if y1 = 0 then (some ((h.1 42 3), h))
    else if y1 = 1 then (bd (X5_round 42 h) fun r3 h4 =>
    some (r3, h4))
    else if y1 = 2 then (some ((h.1 42 4), h))
    else if y1 = 3 then (some ((h.1 42 0), h))
    else if y1 = 4 then (some ((h.1 42 2), h))
    else if y1 = 5 then (bd (X5_triesWith 42 (-9) h) fun r9 h10 =>
    some (r9, h10))
    else if y1 = 6 then (bd (X5_triesWith 42 (-8) h) fun r12 h13 =>
    some (r12, h13))
    else if y1 = 7 then (some ((h.1 0 6), h))
    else if y1 = 8 then (some ((h.1 0 8), h))
    else (if v1 ≤ 10 then (some ((-9), h))
    else (if 7 ≤ (v1 - 10) then (some ((-9), h))
    else (ck (v1 - 10) 7 (some ((h.1 4 (v1 - 10).toNatClampNeg), h)))))
set_option maxRecDepth 100000 in
theorem c_X10_count (l : Launch) (v1 : Int32) : MC l yX10_count cX10_count 2 (some .int) rmX10_count ZC [.ref 0, .int v1] rvI (X10_count v1) :=
  MC.of (own := RX10) (by decide +kernel) rfl (Nat.le_of_ble_eq_true rfl) fun X yd A h _ C =>
    aw_iload_n (pc := 0) C (i := 1) dX10_count_0 rfl rfl <|
    aw_vlI fun y1 =>
    aw_if (fun c2 => aw_tswA (pc := 1) C (off := 51) (tg := 52) 0 dX10_count_1 (by rw [c2]; rfl) (by decide) (by decide) rfl rfl (aw_aload_n (pc := 52) C (i := 0) dX10_count_52 rfl rfl <|
    aw_getR (pc := 53) C (b := 42) dX10_count_53 fl_X10_72 sC_0 rfl rC_0_1 <|
    aw_getI (pc := 56) C dX10_count_56 fl_X10_89 (mt_s (Or.inl rfl)) rfl <|
    aw_iret (pc := 59) C dX10_count_59 rfl rfl)) (fun c2 =>
    aw_if (fun c5 => aw_tswA (pc := 1) C (off := 59) (tg := 60) 1 dX10_count_1 (by rw [c5]; rfl) (by decide) (by decide) rfl rfl (aw_aload_n (pc := 60) C (i := 0) dX10_count_60 rfl rfl <|
    aw_getR (pc := 61) C (b := 42) dX10_count_61 fl_X10_72 sC_0 rfl rC_0_1 <|
    aw_callF (pc := 64) C (cr_V (rest := []) (F := (X5_round 42)) C (c_X5_round X.2.1 42 (Or.inl rfl)) dX10_count_64 mf_X5_round ml_X10_336 im_X5_round se_X5_round (mt_s (Or.inl rfl)) rfl ⟨(Nat.le_of_ble_eq_true rfl), (Nat.le_of_ble_eq_true rfl)⟩ rfl rfl (Nat.le_of_ble_eq_true rfl)) rfl rfl rfl (Nat.zero_le _) (Nat.zero_le _) fun r3 h4 =>
    aw_iret (pc := 67) C dX10_count_67 rfl rfl)) (fun c5 =>
    aw_if (fun c6 => aw_tswA (pc := 1) C (off := 67) (tg := 68) 2 dX10_count_1 (by rw [c6]; rfl) (by decide) (by decide) rfl rfl (aw_aload_n (pc := 68) C (i := 0) dX10_count_68 rfl rfl <|
    aw_getR (pc := 69) C (b := 42) dX10_count_69 fl_X10_72 sC_0 rfl rC_0_1 <|
    aw_getI (pc := 72) C dX10_count_72 fl_X10_160 (mt_s (Or.inl rfl)) rfl <|
    aw_iret (pc := 75) C dX10_count_75 rfl rfl)) (fun c6 =>
    aw_if (fun c7 => aw_tswA (pc := 1) C (off := 75) (tg := 76) 3 dX10_count_1 (by rw [c7]; rfl) (by decide) (by decide) rfl rfl (aw_aload_n (pc := 76) C (i := 0) dX10_count_76 rfl rfl <|
    aw_getR (pc := 77) C (b := 42) dX10_count_77 fl_X10_72 sC_0 rfl rC_0_1 <|
    aw_getI (pc := 80) C dX10_count_80 fl_X10_163 (mt_s (Or.inl rfl)) rfl <|
    aw_iret (pc := 83) C dX10_count_83 rfl rfl)) (fun c7 =>
    aw_if (fun c8 => aw_tswA (pc := 1) C (off := 83) (tg := 84) 4 dX10_count_1 (by rw [c8]; rfl) (by decide) (by decide) rfl rfl (aw_aload_n (pc := 84) C (i := 0) dX10_count_84 rfl rfl <|
    aw_getR (pc := 85) C (b := 42) dX10_count_85 fl_X10_72 sC_0 rfl rC_0_1 <|
    aw_getI (pc := 88) C dX10_count_88 fl_X10_166 (mt_s (Or.inl rfl)) rfl <|
    aw_iret (pc := 91) C dX10_count_91 rfl rfl)) (fun c8 =>
    aw_if (fun c11 => aw_tswA (pc := 1) C (off := 91) (tg := 92) 5 dX10_count_1 (by rw [c11]; rfl) (by decide) (by decide) rfl rfl (aw_aload_n (pc := 92) C (i := 0) dX10_count_92 rfl rfl <|
    aw_getR (pc := 93) C (b := 42) dX10_count_93 fl_X10_72 sC_0 rfl rC_0_1 <|
    aw_bipush (pc := 96) C (v := (-9)) dX10_count_96 rfl <|
    aw_callF (pc := 98) C (cr_V (rest := []) (F := (X5_triesWith 42 (-9))) C (c_X5_triesWith X.2.1 42 (Or.inl rfl) (-9)) dX10_count_98 mf_X5_triesWith ml_X10_411 im_X5_triesWith se_X5_triesWith (mt_s (Or.inl rfl)) rfl ⟨(Nat.le_of_ble_eq_true rfl), (Nat.le_of_ble_eq_true rfl)⟩ rfl rfl (Nat.le_of_ble_eq_true rfl)) rfl rfl rfl (Nat.zero_le _) (Nat.zero_le _) fun r9 h10 =>
    aw_iret (pc := 101) C dX10_count_101 rfl rfl)) (fun c11 =>
    aw_if (fun c14 => aw_tswA (pc := 1) C (off := 101) (tg := 102) 6 dX10_count_1 (by rw [c14]; rfl) (by decide) (by decide) rfl rfl (aw_aload_n (pc := 102) C (i := 0) dX10_count_102 rfl rfl <|
    aw_getR (pc := 103) C (b := 42) dX10_count_103 fl_X10_72 sC_0 rfl rC_0_1 <|
    aw_bipush (pc := 106) C (v := (-8)) dX10_count_106 rfl <|
    aw_callF (pc := 108) C (cr_V (rest := []) (F := (X5_triesWith 42 (-8))) C (c_X5_triesWith X.2.1 42 (Or.inl rfl) (-8)) dX10_count_108 mf_X5_triesWith ml_X10_411 im_X5_triesWith se_X5_triesWith (mt_s (Or.inl rfl)) rfl ⟨(Nat.le_of_ble_eq_true rfl), (Nat.le_of_ble_eq_true rfl)⟩ rfl rfl (Nat.le_of_ble_eq_true rfl)) rfl rfl rfl (Nat.zero_le _) (Nat.zero_le _) fun r12 h13 =>
    aw_iret (pc := 111) C dX10_count_111 rfl rfl)) (fun c14 =>
    aw_if (fun c15 => aw_tswA (pc := 1) C (off := 111) (tg := 112) 7 dX10_count_1 (by rw [c15]; rfl) (by decide) (by decide) rfl rfl (aw_aload_n (pc := 112) C (i := 0) dX10_count_112 rfl rfl <|
    aw_getI (pc := 113) C dX10_count_113 fl_X10_108 sC_0 rfl <|
    aw_iret (pc := 116) C dX10_count_116 rfl rfl)) (fun c15 =>
    aw_if (fun c16 => aw_tswA (pc := 1) C (off := 116) (tg := 117) 8 dX10_count_1 (by rw [c16]; rfl) (by decide) (by decide) rfl rfl (aw_aload_n (pc := 117) C (i := 0) dX10_count_117 rfl rfl <|
    aw_getI (pc := 118) C dX10_count_118 fl_X10_327 sC_0 rfl <|
    aw_iret (pc := 121) C dX10_count_121 rfl rfl)) (fun c16 =>
    aw_tswD (pc := 1) C (N := 9) (td := 122) [0, 1, 2, 3, 4, 5, 6, 7, 8] dX10_count_1 (List.forall_mem_cons.mpr ⟨ti_ne c2 rfl, List.forall_mem_cons.mpr ⟨ti_ne c5 rfl, List.forall_mem_cons.mpr ⟨ti_ne c6 rfl, List.forall_mem_cons.mpr ⟨ti_ne c7 rfl, List.forall_mem_cons.mpr ⟨ti_ne c8 rfl, List.forall_mem_cons.mpr ⟨ti_ne c11 rfl, List.forall_mem_cons.mpr ⟨ti_ne c14 rfl, List.forall_mem_cons.mpr ⟨ti_ne c15 rfl, List.forall_mem_cons.mpr ⟨ti_ne c16 rfl, fun _ hz => by cases hz⟩⟩⟩⟩⟩⟩⟩⟩⟩) rfl (by decide) rfl (aw_iload_n (pc := 122) C (i := 1) dX10_count_122 rfl rfl <|
    aw_bipush (pc := 123) C (v := 10) dX10_count_123 rfl <|
    aw_icmp_le (pc := 125) C (tgt := 152) dX10_count_125 rfl (fun _ =>
    aw_bipush (pc := 152) C (v := (-9)) dX10_count_152 rfl <|
    aw_iret (pc := 154) C dX10_count_154 rfl rfl) (fun _ =>
    aw_iload_n (pc := 128) C (i := 1) dX10_count_128 rfl rfl <|
    aw_bipush (pc := 129) C (v := 10) dX10_count_129 rfl <|
    aw_isub (pc := 131) C dX10_count_131 <|
    aw_aload_n (pc := 132) C (i := 0) dX10_count_132 rfl rfl <|
    aw_getR (pc := 133) C (b := 4) dX10_count_133 fl_X10_22 sC_0 rfl rC_0_9 <|
    aw_alenI (pc := 136) C (v := 7) (by decide) dX10_count_136 sC_4 rfl rfl <|
    aw_icmp_ge (pc := 137) C (tgt := 152) dX10_count_137 rfl (fun _ =>
    aw_bipush (pc := 152) C (v := (-9)) dX10_count_152 rfl <|
    aw_iret (pc := 154) C dX10_count_154 rfl rfl) (fun _ =>
    aw_aload_n (pc := 140) C (i := 0) dX10_count_140 rfl rfl <|
    aw_getR (pc := 141) C (b := 4) dX10_count_141 fl_X10_22 sC_0 rfl rC_0_9 <|
    aw_iload_n (pc := 144) C (i := 1) dX10_count_144 rfl rfl <|
    aw_bipush (pc := 145) C (v := 10) dX10_count_145 rfl <|
    aw_isub (pc := 147) C dX10_count_147 <|
    aw_iald (pc := 148) C dX10_count_148 sC_4 rfl <|
    aw_goto (pc := 149) C (tgt := 154) dX10_count_149 rfl <|
    aw_iret (pc := 154) C dX10_count_154 rfl rfl))))))))))))
