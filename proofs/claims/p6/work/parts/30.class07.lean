abbrev rmX10_sure : Room := { frames := 2, cells := 0, slots := 0, locals := 66 }
def X10_sure  (h : AH) : Option (Int32 × AH) :=
    bd (X10_leastOfRow 0 h) fun r1 h2 =>
    bd (X10_leastOfRow 1 h2) fun r3 h4 =>
    bd (X10_leastOfRow 2 h4) fun r5 h6 =>
    some ((mx32 r1 (mx32 r3 r5)), h6)
set_option maxRecDepth 100000 in
theorem c_X10_sure (l : Launch)  : MC l yX10_sure cX10_sure 1 (some .int) rmX10_sure ZC [.ref 0] rvI (X10_sure) :=
  MC.of (own := RX10) (by decide +kernel) rfl (Nat.le_of_ble_eq_true rfl) fun X yd A h _ C =>
    aw_aload_n (pc := 0) C (i := 0) dX10_sure_0 rfl rfl <|
    aw_iconst (pc := 1) C (v := 0) dX10_sure_1 rfl <|
    aw_callF (pc := 2) C (cr_V (rest := []) (F := (X10_leastOfRow 0)) C (c_X10_leastOfRow X.2.1 0) dX10_sure_2 mf_X10_leastOfRow ml_X10_389 im_X10_leastOfRow se_X10_leastOfRow sC_0 rfl ⟨(Nat.le_of_ble_eq_true rfl), (Nat.le_of_ble_eq_true rfl)⟩ rfl rfl (Nat.le_of_ble_eq_true rfl)) rfl rfl rfl (Nat.zero_le _) (Nat.zero_le _) fun r1 h2 =>
    aw_aload_n (pc := 5) C (i := 0) dX10_sure_5 rfl rfl <|
    aw_iconst (pc := 6) C (v := 1) dX10_sure_6 rfl <|
    aw_callF (pc := 7) C (cr_V (rest := [.int r1]) (F := (X10_leastOfRow 1)) C (c_X10_leastOfRow X.2.1 1) dX10_sure_7 mf_X10_leastOfRow ml_X10_389 im_X10_leastOfRow se_X10_leastOfRow sC_0 rfl ⟨(Nat.le_of_ble_eq_true rfl), (Nat.le_of_ble_eq_true rfl)⟩ rfl rfl (Nat.le_of_ble_eq_true rfl)) rfl rfl rfl (Nat.zero_le _) (Nat.zero_le _) fun r3 h4 =>
    aw_aload_n (pc := 10) C (i := 0) dX10_sure_10 rfl rfl <|
    aw_iconst (pc := 11) C (v := 2) dX10_sure_11 rfl <|
    aw_callF (pc := 12) C (cr_V (rest := [.int r3, .int r1]) (F := (X10_leastOfRow 2)) C (c_X10_leastOfRow X.2.1 2) dX10_sure_12 mf_X10_leastOfRow ml_X10_389 im_X10_leastOfRow se_X10_leastOfRow sC_0 rfl ⟨(Nat.le_of_ble_eq_true rfl), (Nat.le_of_ble_eq_true rfl)⟩ rfl rfl (Nat.le_of_ble_eq_true rfl)) rfl rfl rfl (Nat.zero_le _) (Nat.zero_le _) fun r5 h6 =>
    aw_mmax (pc := 15) C dX10_sure_15 ml_X10_286 w_mmaxS w_mI w_mmaxC ⟨(Nat.le_of_ble_eq_true rfl), (Nat.le_of_ble_eq_true rfl)⟩ (Nat.zero_le _) (Nat.zero_le _) <|
    aw_mmax (pc := 18) C dX10_sure_18 ml_X10_286 w_mmaxS w_mI w_mmaxC ⟨(Nat.le_of_ble_eq_true rfl), (Nat.le_of_ble_eq_true rfl)⟩ (Nat.zero_le _) (Nat.zero_le _) <|
    aw_iret (pc := 21) C dX10_sure_21 rfl rfl

abbrev rmX10_mostOfColumn : Room := { frames := 1, cells := 0, slots := 0, locals := 45 }
def X10_mostOfColumn (v1 : Int32) (h : AH) : Option (Int32 × AH) :=
    ck v1 9 (ck (3 + v1) 9 (ck (6 + v1) 9 (some ((mx32 (h.1 34 v1.toNatClampNeg) (mx32 (h.1 34 (3 + v1).toNatClampNeg) (h.1 34 (6 + v1).toNatClampNeg))), h))))
set_option maxRecDepth 100000 in
theorem c_X10_mostOfColumn (l : Launch) (v1 : Int32) : MC l yX10_mostOfColumn cX10_mostOfColumn 2 (some .int) rmX10_mostOfColumn ZC [.ref 0, .int v1] rvI (X10_mostOfColumn v1) :=
  MC.of (own := RX10) (by decide +kernel) rfl (Nat.le_of_ble_eq_true rfl) fun X yd A h _ C =>
    aw_aload_n (pc := 0) C (i := 0) dX10_mostOfColumn_0 rfl rfl <|
    aw_getR (pc := 1) C (b := 34) dX10_mostOfColumn_1 fl_X10_45 sC_0 rfl rC_0_15 <|
    aw_iload_n (pc := 4) C (i := 1) dX10_mostOfColumn_4 rfl rfl <|
    aw_iald (pc := 5) C dX10_mostOfColumn_5 sC_34 rfl <|
    aw_aload_n (pc := 6) C (i := 0) dX10_mostOfColumn_6 rfl rfl <|
    aw_getR (pc := 7) C (b := 34) dX10_mostOfColumn_7 fl_X10_45 sC_0 rfl rC_0_15 <|
    aw_iconst (pc := 10) C (v := 3) dX10_mostOfColumn_10 rfl <|
    aw_iload_n (pc := 11) C (i := 1) dX10_mostOfColumn_11 rfl rfl <|
    aw_iadd (pc := 12) C dX10_mostOfColumn_12 <|
    aw_iald (pc := 13) C dX10_mostOfColumn_13 sC_34 rfl <|
    aw_aload_n (pc := 14) C (i := 0) dX10_mostOfColumn_14 rfl rfl <|
    aw_getR (pc := 15) C (b := 34) dX10_mostOfColumn_15 fl_X10_45 sC_0 rfl rC_0_15 <|
    aw_bipush (pc := 18) C (v := 6) dX10_mostOfColumn_18 rfl <|
    aw_iload_n (pc := 20) C (i := 1) dX10_mostOfColumn_20 rfl rfl <|
    aw_iadd (pc := 21) C dX10_mostOfColumn_21 <|
    aw_iald (pc := 22) C dX10_mostOfColumn_22 sC_34 rfl <|
    aw_mmax (pc := 23) C dX10_mostOfColumn_23 ml_X10_286 w_mmaxS w_mI w_mmaxC ⟨(Nat.le_of_ble_eq_true rfl), (Nat.le_of_ble_eq_true rfl)⟩ (Nat.zero_le _) (Nat.zero_le _) <|
    aw_mmax (pc := 26) C dX10_mostOfColumn_26 ml_X10_286 w_mmaxS w_mI w_mmaxC ⟨(Nat.le_of_ble_eq_true rfl), (Nat.le_of_ble_eq_true rfl)⟩ (Nat.zero_le _) (Nat.zero_le _) <|
    aw_iret (pc := 29) C dX10_mostOfColumn_29 rfl rfl

abbrev rmX10_calmPair : Room := { frames := 2, cells := 0, slots := 0, locals := 66 }
def X10_calmPair_j62  (v1 : Int32) (v2 : Int32) (v3 : Int32) (K2 : Int32 → AH → Option (Int32 × AH)) (K9 : Int32 → AH → Option (Int32 × AH)) (h : AH) : Option (Int32 × AH) :=
    vl (v3 + 1) fun x5 =>
    K9 x5 h
set_option maxRecDepth 100000 in
theorem aX10_calmPair_j62 {X : MCx} {yd : Dyn} {A : Nat → Prop} (C : OK X cX10_calmPair RX10 5 (some .int) rmX10_calmPair A)  (v1 : Int32) (v2 : Int32) (v3 : Int32) (K2 : Int32 → AH → Option (Int32 × AH)) (hK2 : ∀ (w2 : Int32) (h : AH), AW X 5 ZC yd A 0 0 (QF X rmX10_calmPair ZC yd rvI A) 2 [(0, .ref 0), (1, .int v1), (2, .int w2)] [] h (K2 w2 h)) (K9 : Int32 → AH → Option (Int32 × AH)) (hK9 : ∀ (w3 : Int32) (h : AH), AW X 5 ZC yd A 0 0 (QF X rmX10_calmPair ZC yd rvI A) 9 [(0, .ref 0), (1, .int v1), (2, .int v2), (3, .int w3)] [] h (K9 w3 h)) (h : AH) : AW X 5 ZC yd A 0 0 (QF X rmX10_calmPair ZC yd rvI A) 62 [(0, .ref 0), (1, .int v1), (2, .int v2), (3, .int v3)] [] h (X10_calmPair_j62 v1 v2 v3 K2 K9 h) := by
    exact aw_iincV (pc := 62) C (i := 3) (cst := 1) (fun x5 => [(0, .ref 0), (1, .int v1), (2, .int v2), (3, .int x5)]) dX10_calmPair_62 rfl rfl (by decide) (fun _ => rfl) fun x5 =>
    aw_goto (pc := 65) C (tgt := 9) dX10_calmPair_65 rfl <|
    (hK9 x5 h)
def X10_calmPair_l9  (v1 : Int32) (v2 : Int32) (K2 : Int32 → AH → Option (Int32 × AH)) : Nat → Int32 → AH → Option (Int32 × AH)
  | 0, _, _ => none
  | n + 1, v3, h =>
    if 3 ≤ v3 then (vl (v2 + 1) fun x1 =>
    K2 x1 h)
    else (ck ((3 * v2) + v3) 9 (vl (h.1 34 ((3 * v2) + v3).toNatClampNeg) fun x2 =>
    bd (X10_leastOfRow v2 h) fun r3 h4 =>
    if x2 = r3 then (bd (X10_mostOfColumn v3 h4) fun r6 h7 =>
    if x2 = r6 then (if v1 = 0 then (some (((10 * v2) + v3), h7))
    else (some (x2, h7)))
    else (X10_calmPair_j62 v1 v2 v3 K2 (X10_calmPair_l9 v1 v2 K2 n) h7))
    else (X10_calmPair_j62 v1 v2 v3 K2 (X10_calmPair_l9 v1 v2 K2 n) h4)))
set_option maxRecDepth 100000 in
theorem aX10_calmPair_l9 {X : MCx} {yd : Dyn} {A : Nat → Prop} (C : OK X cX10_calmPair RX10 5 (some .int) rmX10_calmPair A)  (v1 : Int32) (v2 : Int32) (K2 : Int32 → AH → Option (Int32 × AH)) (hK2 : ∀ (w2 : Int32) (h : AH), AW X 5 ZC yd A 0 0 (QF X rmX10_calmPair ZC yd rvI A) 2 [(0, .ref 0), (1, .int v1), (2, .int w2)] [] h (K2 w2 h)) : ∀ (n : Nat) (v3 : Int32) (h : AH), AW X 5 ZC yd A 0 0 (QF X rmX10_calmPair ZC yd rvI A) 9 [(0, .ref 0), (1, .int v1), (2, .int v2), (3, .int v3)] [] h (X10_calmPair_l9 v1 v2 K2 n v3 h) := by
  intro n
  induction n with
  | zero => intro v3 h; exact aw_none
  | succ n ih =>
    intro v3 h
    exact aw_iload_n (pc := 9) C (i := 3) dX10_calmPair_9 rfl rfl <|
    aw_iconst (pc := 10) C (v := 3) dX10_calmPair_10 rfl <|
    aw_icmp_ge (pc := 11) C (tgt := 68) dX10_calmPair_11 rfl (fun _ =>
    aw_iincV (pc := 68) C (i := 2) (cst := 1) (fun x1 => [(0, .ref 0), (1, .int v1), (2, .int x1), (3, .int v3)]) dX10_calmPair_68 rfl rfl (by decide) (fun _ => rfl) fun x1 =>
    aw_goto (pc := 71) C (tgt := 2) dX10_calmPair_71 rfl <|
    aw_drop [0, 1, 2] (hK2 x1 h)) (fun _ =>
    aw_aload_n (pc := 14) C (i := 0) dX10_calmPair_14 rfl rfl <|
    aw_getR (pc := 15) C (b := 34) dX10_calmPair_15 fl_X10_45 sC_0 rfl rC_0_15 <|
    aw_iconst (pc := 18) C (v := 3) dX10_calmPair_18 rfl <|
    aw_iload_n (pc := 19) C (i := 2) dX10_calmPair_19 rfl rfl <|
    aw_imul (pc := 20) C dX10_calmPair_20 <|
    aw_iload_n (pc := 21) C (i := 3) dX10_calmPair_21 rfl rfl <|
    aw_iadd (pc := 22) C dX10_calmPair_22 <|
    aw_iald (pc := 23) C dX10_calmPair_23 sC_34 rfl <|
    aw_istoreV (pc := 24) C (i := 4) (fun x2 => [(0, .ref 0), (1, .int v1), (2, .int v2), (3, .int v3), (4, .int x2)]) dX10_calmPair_24 (by decide) (fun _ => rfl) fun x2 =>
    aw_iload (pc := 26) C (i := 4) dX10_calmPair_26 rfl <|
    aw_aload_n (pc := 28) C (i := 0) dX10_calmPair_28 rfl rfl <|
    aw_iload_n (pc := 29) C (i := 2) dX10_calmPair_29 rfl rfl <|
    aw_callF (pc := 30) C (cr_V (rest := [.int x2]) (F := (X10_leastOfRow v2)) C (c_X10_leastOfRow X.2.1 v2) dX10_calmPair_30 mf_X10_leastOfRow ml_X10_389 im_X10_leastOfRow se_X10_leastOfRow sC_0 rfl ⟨(Nat.le_of_ble_eq_true rfl), (Nat.le_of_ble_eq_true rfl)⟩ rfl rfl (Nat.le_of_ble_eq_true rfl)) rfl rfl rfl (Nat.zero_le _) (Nat.zero_le _) fun r3 h4 =>
    aw_icmp_ne (pc := 33) C (tgt := 62) dX10_calmPair_33 rfl (fun _ =>
    aw_iload (pc := 36) C (i := 4) dX10_calmPair_36 rfl <|
    aw_aload_n (pc := 38) C (i := 0) dX10_calmPair_38 rfl rfl <|
    aw_iload_n (pc := 39) C (i := 3) dX10_calmPair_39 rfl rfl <|
    aw_callF (pc := 40) C (cr_V (rest := [.int x2]) (F := (X10_mostOfColumn v3)) C (c_X10_mostOfColumn X.2.1 v3) dX10_calmPair_40 mf_X10_mostOfColumn ml_X10_392 im_X10_mostOfColumn se_X10_mostOfColumn sC_0 rfl ⟨(Nat.le_of_ble_eq_true rfl), (Nat.le_of_ble_eq_true rfl)⟩ rfl rfl (Nat.le_of_ble_eq_true rfl)) rfl rfl rfl (Nat.zero_le _) (Nat.zero_le _) fun r6 h7 =>
    aw_icmp_ne (pc := 43) C (tgt := 62) dX10_calmPair_43 rfl (fun _ =>
    aw_iload_n (pc := 46) C (i := 1) dX10_calmPair_46 rfl rfl <|
    aw_if_ne (pc := 47) C (tgt := 59) dX10_calmPair_47 rfl (fun _ =>
    aw_bipush (pc := 50) C (v := 10) dX10_calmPair_50 rfl <|
    aw_iload_n (pc := 52) C (i := 2) dX10_calmPair_52 rfl rfl <|
    aw_imul (pc := 53) C dX10_calmPair_53 <|
    aw_iload_n (pc := 54) C (i := 3) dX10_calmPair_54 rfl rfl <|
    aw_iadd (pc := 55) C dX10_calmPair_55 <|
    aw_goto (pc := 56) C (tgt := 61) dX10_calmPair_56 rfl <|
    aw_iret (pc := 61) C dX10_calmPair_61 rfl rfl) (fun _ =>
    aw_iload (pc := 59) C (i := 4) dX10_calmPair_59 rfl <|
    aw_iret (pc := 61) C dX10_calmPair_61 rfl rfl)) (fun _ =>
    aw_drop [0, 1, 2, 3] (aX10_calmPair_j62 C v1 v2 v3 K2 hK2 (X10_calmPair_l9 v1 v2 K2 n) ih h7))) (fun _ =>
    aw_drop [0, 1, 2, 3] (aX10_calmPair_j62 C v1 v2 v3 K2 hK2 (X10_calmPair_l9 v1 v2 K2 n) ih h4)))
def X10_calmPair_l2  (v1 : Int32) : Nat → Int32 → AH → Option (Int32 × AH)
  | 0, _, _ => none
  | n + 1, v2, h =>
    if 3 ≤ v2 then (some ((-9), h))
    else (X10_calmPair_l9 v1 v2 (X10_calmPair_l2 v1 n) FU 0 h)
set_option maxRecDepth 100000 in
theorem aX10_calmPair_l2 {X : MCx} {yd : Dyn} {A : Nat → Prop} (C : OK X cX10_calmPair RX10 5 (some .int) rmX10_calmPair A)  (v1 : Int32) : ∀ (n : Nat) (v2 : Int32) (h : AH), AW X 5 ZC yd A 0 0 (QF X rmX10_calmPair ZC yd rvI A) 2 [(0, .ref 0), (1, .int v1), (2, .int v2)] [] h (X10_calmPair_l2 v1 n v2 h) := by
  intro n
  induction n with
  | zero => intro v2 h; exact aw_none
  | succ n ih =>
    intro v2 h
    exact aw_iload_n (pc := 2) C (i := 2) dX10_calmPair_2 rfl rfl <|
    aw_iconst (pc := 3) C (v := 3) dX10_calmPair_3 rfl <|
    aw_icmp_ge (pc := 4) C (tgt := 74) dX10_calmPair_4 rfl (fun _ =>
    aw_bipush (pc := 74) C (v := (-9)) dX10_calmPair_74 rfl <|
    aw_iret (pc := 76) C dX10_calmPair_76 rfl rfl) (fun _ =>
    aw_iconst (pc := 7) C (v := 0) dX10_calmPair_7 rfl <|
    aw_istore_n (pc := 8) C (i := 3) (lv' := [(0, .ref 0), (1, .int v1), (2, .int v2), (3, .int 0)]) dX10_calmPair_8 rfl (by decide) rfl <|
    (aX10_calmPair_l9 C v1 v2 (X10_calmPair_l2 v1 n) ih FU 0 h))
def X10_calmPair (v1 : Int32) (h : AH) : Option (Int32 × AH) :=
    X10_calmPair_l2 v1 FU 0 h
set_option maxRecDepth 100000 in
theorem c_X10_calmPair (l : Launch) (v1 : Int32) : MC l yX10_calmPair cX10_calmPair 5 (some .int) rmX10_calmPair ZC [.ref 0, .int v1] rvI (X10_calmPair v1) :=
  MC.of (own := RX10) (by decide +kernel) rfl (Nat.le_of_ble_eq_true rfl) fun X yd A h _ C =>
    aw_iconst (pc := 0) C (v := 0) dX10_calmPair_0 rfl <|
    aw_istore_n (pc := 1) C (i := 2) (lv' := [(0, .ref 0), (1, .int v1), (2, .int 0)]) dX10_calmPair_1 rfl (by decide) rfl <|
    (aX10_calmPair_l2 C v1 FU 0 h)

abbrev rmX10_duel : Room := { frames := 6, cells := 0, slots := 0, locals := 160 }
def X10_duel_l54  (v1 : Int32) (v2 : Int32) (v3 : Int32) (v5 : Int32) (K31 : Int32 → AH → Option (Int32 × AH)) : Nat → Int32 → AH → Option (Int32 × AH)
  | 0, _, _ => none
  | n + 1, v6, h =>
    if 3 ≤ v6 then (vl (v5 + 1) fun x13 =>
    K31 x13 h)
    else (bd (X10_fillParts 33 1000 v2 (6 * v6) h) fun _ h15 =>
    bd (X10_moreByParts h15) fun r16 h17 =>
    ck ((3 * v5) + v6) 9 (vl (sI h17 34 ((3 * v5) + v6).toNatClampNeg r16) fun h18 =>
    vl (v6 + 1) fun x19 =>
    (X10_duel_l54 v1 v2 v3 v5 K31 n) x19 h18))
set_option maxRecDepth 100000 in
theorem aX10_duel_l54 {X : MCx} {yd : Dyn} {A : Nat → Prop} (C : OK X cX10_duel RX10 7 (some .int) rmX10_duel A)  (v1 : Int32) (v2 : Int32) (v3 : Int32) (v5 : Int32) (K31 : Int32 → AH → Option (Int32 × AH)) (hK31 : ∀ (w5 : Int32) (h : AH), AW X 7 ZC yd A 0 0 (QF X rmX10_duel ZC yd rvI A) 31 [(0, .ref 0), (1, .int v1), (2, .int v2), (3, .int v3), (5, .int w5)] [] h (K31 w5 h)) : ∀ (n : Nat) (v6 : Int32) (h : AH), AW X 7 ZC yd A 0 0 (QF X rmX10_duel ZC yd rvI A) 54 [(0, .ref 0), (1, .int v1), (2, .int v2), (3, .int v3), (5, .int v5), (6, .int v6)] [] h (X10_duel_l54 v1 v2 v3 v5 K31 n v6 h) := by
  intro n
  induction n with
  | zero => intro v6 h; exact aw_none
  | succ n ih =>
    intro v6 h
    exact aw_iload (pc := 54) C (i := 6) dX10_duel_54 rfl <|
    aw_iconst (pc := 56) C (v := 3) dX10_duel_56 rfl <|
    aw_icmp_ge (pc := 57) C (tgt := 96) dX10_duel_57 rfl (fun _ =>
    aw_iincV (pc := 96) C (i := 5) (cst := 1) (fun x13 => [(0, .ref 0), (1, .int v1), (2, .int v2), (3, .int v3), (5, .int x13), (6, .int v6)]) dX10_duel_96 rfl rfl (by decide) (fun _ => rfl) fun x13 =>
    aw_goto (pc := 99) C (tgt := 31) dX10_duel_99 rfl <|
    aw_drop [0, 1, 2, 3, 4] (hK31 x13 h)) (fun _ =>
    aw_aload_n (pc := 60) C (i := 0) dX10_duel_60 rfl rfl <|
    aw_aload_n (pc := 61) C (i := 0) dX10_duel_61 rfl rfl <|
    aw_getR (pc := 62) C (b := 33) dX10_duel_62 fl_X10_42 sC_0 rfl rC_0_14 <|
    aw_iload_n (pc := 65) C (i := 2) dX10_duel_65 rfl rfl <|
    aw_bipush (pc := 66) C (v := 6) dX10_duel_66 rfl <|
    aw_iload (pc := 68) C (i := 6) dX10_duel_68 rfl <|
    aw_imul (pc := 70) C dX10_duel_70 <|
    aw_callF (pc := 71) C (cr_V (rest := []) (F := (X10_fillParts 33 1000 v2 (6 * v6))) C (c_X10_fillParts X.2.1 33 1000 sC_33 v2 (6 * v6)) dX10_duel_71 mf_X10_fillParts ml_X10_376 im_X10_fillParts se_X10_fillParts sC_0 rfl ⟨(Nat.le_of_ble_eq_true rfl), (Nat.le_of_ble_eq_true rfl)⟩ rfl rfl (Nat.le_of_ble_eq_true rfl)) rfl rfl rfl (Nat.zero_le _) (Nat.zero_le _) fun _ h15 =>
    aw_aload_n (pc := 74) C (i := 0) dX10_duel_74 rfl rfl <|
    aw_getR (pc := 75) C (b := 34) dX10_duel_75 fl_X10_45 sC_0 rfl rC_0_15 <|
    aw_iconst (pc := 78) C (v := 3) dX10_duel_78 rfl <|
    aw_iload (pc := 79) C (i := 5) dX10_duel_79 rfl <|
    aw_imul (pc := 81) C dX10_duel_81 <|
    aw_iload (pc := 82) C (i := 6) dX10_duel_82 rfl <|
    aw_iadd (pc := 84) C dX10_duel_84 <|
    aw_aload_n (pc := 85) C (i := 0) dX10_duel_85 rfl rfl <|
    aw_callF (pc := 86) C (cr_V (rest := [.int ((3 * v5) + v6), .ref 34]) (F := X10_moreByParts) C (c_X10_moreByParts X.2.1 ) dX10_duel_86 mf_X10_moreByParts ml_X10_380 im_X10_moreByParts se_X10_moreByParts sC_0 rfl ⟨(Nat.le_of_ble_eq_true rfl), (Nat.le_of_ble_eq_true rfl)⟩ rfl rfl (Nat.le_of_ble_eq_true rfl)) rfl rfl rfl (Nat.zero_le _) (Nat.zero_le _) fun r16 h17 =>
    aw_iast (pc := 89) C dX10_duel_89 sC_34 rfl fun h18 =>
    aw_iincV (pc := 90) C (i := 6) (cst := 1) (fun x19 => [(0, .ref 0), (1, .int v1), (2, .int v2), (3, .int v3), (5, .int v5), (6, .int x19)]) dX10_duel_90 rfl rfl (by decide) (fun _ => rfl) fun x19 =>
    aw_goto (pc := 93) C (tgt := 54) dX10_duel_93 rfl <|
    (ih x19 h18))
def X10_duel_l31  (v1 : Int32) (v2 : Int32) (v3 : Int32) : Nat → Int32 → AH → Option (Int32 × AH)
  | 0, _, _ => none
  | n + 1, v5, h =>
    if 3 ≤ v5 then (if v3 = 2 then (bd (X10_sure h) fun r9 h10 =>
    some (r9, h10))
    else (bd (X10_calmPair v3 h) fun r7 h8 =>
    some (r7, h8)))
    else (bd (X10_fillParts 32 1000 v1 (6 * v5) h) fun _ h12 =>
    X10_duel_l54 v1 v2 v3 v5 (X10_duel_l31 v1 v2 v3 n) FU 0 h12)
set_option maxRecDepth 100000 in
theorem aX10_duel_l31 {X : MCx} {yd : Dyn} {A : Nat → Prop} (C : OK X cX10_duel RX10 7 (some .int) rmX10_duel A)  (v1 : Int32) (v2 : Int32) (v3 : Int32) : ∀ (n : Nat) (v5 : Int32) (h : AH), AW X 7 ZC yd A 0 0 (QF X rmX10_duel ZC yd rvI A) 31 [(0, .ref 0), (1, .int v1), (2, .int v2), (3, .int v3), (5, .int v5)] [] h (X10_duel_l31 v1 v2 v3 n v5 h) := by
  intro n
  induction n with
  | zero => intro v5 h; exact aw_none
  | succ n ih =>
    intro v5 h
    exact aw_iload (pc := 31) C (i := 5) dX10_duel_31 rfl <|
    aw_iconst (pc := 33) C (v := 3) dX10_duel_33 rfl <|
    aw_icmp_ge (pc := 34) C (tgt := 102) dX10_duel_34 rfl (fun _ =>
    aw_iload_n (pc := 102) C (i := 3) dX10_duel_102 rfl rfl <|
    aw_iconst (pc := 103) C (v := 2) dX10_duel_103 rfl <|
    aw_icmp_ne (pc := 104) C (tgt := 114) dX10_duel_104 rfl (fun _ =>
    aw_aload_n (pc := 107) C (i := 0) dX10_duel_107 rfl rfl <|
    aw_callF (pc := 108) C (cr_V (rest := []) (F := X10_sure) C (c_X10_sure X.2.1 ) dX10_duel_108 mf_X10_sure ml_X10_383 im_X10_sure se_X10_sure sC_0 rfl ⟨(Nat.le_of_ble_eq_true rfl), (Nat.le_of_ble_eq_true rfl)⟩ rfl rfl (Nat.le_of_ble_eq_true rfl)) rfl rfl rfl (Nat.zero_le _) (Nat.zero_le _) fun r9 h10 =>
    aw_goto (pc := 111) C (tgt := 119) dX10_duel_111 rfl <|
    aw_iret (pc := 119) C dX10_duel_119 rfl rfl) (fun _ =>
    aw_aload_n (pc := 114) C (i := 0) dX10_duel_114 rfl rfl <|
    aw_iload_n (pc := 115) C (i := 3) dX10_duel_115 rfl rfl <|
    aw_callF (pc := 116) C (cr_V (rest := []) (F := (X10_calmPair v3)) C (c_X10_calmPair X.2.1 v3) dX10_duel_116 mf_X10_calmPair ml_X10_386 im_X10_calmPair se_X10_calmPair sC_0 rfl ⟨(Nat.le_of_ble_eq_true rfl), (Nat.le_of_ble_eq_true rfl)⟩ rfl rfl (Nat.le_of_ble_eq_true rfl)) rfl rfl rfl (Nat.zero_le _) (Nat.zero_le _) fun r7 h8 =>
    aw_iret (pc := 119) C dX10_duel_119 rfl rfl)) (fun _ =>
    aw_aload_n (pc := 37) C (i := 0) dX10_duel_37 rfl rfl <|
    aw_aload_n (pc := 38) C (i := 0) dX10_duel_38 rfl rfl <|
    aw_getR (pc := 39) C (b := 32) dX10_duel_39 fl_X10_39 sC_0 rfl rC_0_13 <|
    aw_iload_n (pc := 42) C (i := 1) dX10_duel_42 rfl rfl <|
    aw_bipush (pc := 43) C (v := 6) dX10_duel_43 rfl <|
    aw_iload (pc := 45) C (i := 5) dX10_duel_45 rfl <|
    aw_imul (pc := 47) C dX10_duel_47 <|
    aw_callF (pc := 48) C (cr_V (rest := []) (F := (X10_fillParts 32 1000 v1 (6 * v5))) C (c_X10_fillParts X.2.1 32 1000 sC_32 v1 (6 * v5)) dX10_duel_48 mf_X10_fillParts ml_X10_376 im_X10_fillParts se_X10_fillParts sC_0 rfl ⟨(Nat.le_of_ble_eq_true rfl), (Nat.le_of_ble_eq_true rfl)⟩ rfl rfl (Nat.le_of_ble_eq_true rfl)) rfl rfl rfl (Nat.zero_le _) (Nat.zero_le _) fun _ h12 =>
    aw_iconst (pc := 51) C (v := 0) dX10_duel_51 rfl <|
    aw_istore (pc := 52) C (i := 6) (lv' := [(0, .ref 0), (1, .int v1), (2, .int v2), (3, .int v3), (5, .int v5), (6, .int 0)]) dX10_duel_52 (by decide) rfl <|
    (aX10_duel_l54 C v1 v2 v3 v5 (X10_duel_l31 v1 v2 v3 n) ih FU 0 h12))
def X10_duel (v1 : Int32) (v2 : Int32) (v3 : Int32) (h : AH) : Option (Int32 × AH) :=
    bd (X10_nobodyOfTwo v1 v2 h) fun r1 h2 =>
    bd (X10_noSuch v3 2 h2) fun r3 h4 =>
    bd (X10_first r1 r3 h4) fun r5 h6 =>
    if r5 = 0 then (X10_duel_l31 v1 v2 v3 FU 0 h6)
    else (bd (X10_refuse r5 h6) fun r20 h21 =>
    some (r20, h21))
set_option maxRecDepth 100000 in
theorem c_X10_duel (l : Launch) (v1 : Int32) (v2 : Int32) (v3 : Int32) : MC l yX10_duel cX10_duel 7 (some .int) rmX10_duel ZC [.ref 0, .int v1, .int v2, .int v3] rvI (X10_duel v1 v2 v3) :=
  MC.of (own := RX10) (by decide +kernel) rfl (Nat.le_of_ble_eq_true rfl) fun X yd A h _ C =>
    aw_aload_n (pc := 0) C (i := 0) dX10_duel_0 rfl rfl <|
    aw_iload_n (pc := 1) C (i := 1) dX10_duel_1 rfl rfl <|
    aw_iload_n (pc := 2) C (i := 2) dX10_duel_2 rfl rfl <|
    aw_callF (pc := 3) C (cr_V (rest := []) (F := (X10_nobodyOfTwo v1 v2)) C (c_X10_nobodyOfTwo X.2.1 v1 v2) dX10_duel_3 mf_X10_nobodyOfTwo ml_X10_373 im_X10_nobodyOfTwo se_X10_nobodyOfTwo sC_0 rfl ⟨(Nat.le_of_ble_eq_true rfl), (Nat.le_of_ble_eq_true rfl)⟩ rfl rfl (Nat.le_of_ble_eq_true rfl)) rfl rfl rfl (Nat.zero_le _) (Nat.zero_le _) fun r1 h2 =>
    aw_iload_n (pc := 6) C (i := 3) dX10_duel_6 rfl rfl <|
    aw_iconst (pc := 7) C (v := 2) dX10_duel_7 rfl <|
    aw_callF (pc := 8) C (cr_S (rest := [.int r1]) (F := (X10_noSuch v3 2)) C (c_X10_noSuch X.2.1 v3 2) dX10_duel_8 mf_X10_noSuch ml_X10_101 st_X10_noSuch ⟨(Nat.le_of_ble_eq_true rfl), (Nat.le_of_ble_eq_true rfl)⟩ rfl rfl (Nat.le_of_ble_eq_true rfl)) rfl rfl rfl (Nat.zero_le _) (Nat.zero_le _) fun r3 h4 =>
    aw_callF (pc := 11) C (cr_S (rest := []) (F := (X10_first r1 r3)) C (c_X10_first X.2.1 r1 r3) dX10_duel_11 mf_X10_first ml_X10_97 st_X10_first ⟨(Nat.le_of_ble_eq_true rfl), (Nat.le_of_ble_eq_true rfl)⟩ rfl rfl (Nat.le_of_ble_eq_true rfl)) rfl rfl rfl (Nat.zero_le _) (Nat.zero_le _) fun r5 h6 =>
    aw_istore (pc := 14) C (i := 4) (lv' := [(0, .ref 0), (1, .int v1), (2, .int v2), (3, .int v3), (4, .int r5)]) dX10_duel_14 (by decide) rfl <|
    aw_iload (pc := 16) C (i := 4) dX10_duel_16 rfl <|
    aw_if_eq (pc := 18) C (tgt := 28) dX10_duel_18 rfl (fun _ =>
    aw_iconst (pc := 28) C (v := 0) dX10_duel_28 rfl <|
    aw_istore (pc := 29) C (i := 5) (lv' := [(0, .ref 0), (1, .int v1), (2, .int v2), (3, .int v3), (4, .int r5), (5, .int 0)]) dX10_duel_29 (by decide) rfl <|
    aw_drop [0, 1, 2, 3, 5] (aX10_duel_l31 C v1 v2 v3 FU 0 h6)) (fun _ =>
    aw_aload_n (pc := 21) C (i := 0) dX10_duel_21 rfl rfl <|
    aw_iload (pc := 22) C (i := 4) dX10_duel_22 rfl <|
    aw_callF (pc := 24) C (cr_V (rest := []) (F := (X10_refuse r5)) C (c_X10_refuse X.2.1 r5) dX10_duel_24 mf_X10_refuse ml_X10_111 im_X10_refuse se_X10_refuse sC_0 rfl ⟨(Nat.le_of_ble_eq_true rfl), (Nat.le_of_ble_eq_true rfl)⟩ rfl rfl (Nat.le_of_ble_eq_true rfl)) rfl rfl rfl (Nat.zero_le _) (Nat.zero_le _) fun r20 h21 =>
    aw_iret (pc := 27) C dX10_duel_27 rfl rfl)

abbrev rmX10_practised : Room := { frames := 0, cells := 0, slots := 0, locals := 0 }
def X10_practised_j109  (h : AH) : Option (Int32 × AH) :=
    if (h.1 72 5) < 0 then (cz 0 (some (0, h)))
    else (if (h.1 72 4) < 0 then (cz 0 (some (0, h)))
    else (if 99 < (h.1 72 6) then (cz 0 (some (0, h)))
    else (if (h.1 72 7) < 0 then (cz 0 (some (0, h)))
    else (if 4 < (h.1 72 7) then (cz 0 (some (0, h)))
    else (cz 1 (some (1, h)))))))
set_option maxRecDepth 100000 in
theorem aX10_practised_j109 {X : MCx} {yd : Dyn} {A : Nat → Prop} (C : OK X cX10_practised RX10 2 (some .boolean) rmX10_practised A)  (h : AH) : AW X 2 ZC yd A 0 0 (QF X rmX10_practised ZC yd rvI A) 109 [(0, .ref 0)] [] h (X10_practised_j109 h) := by
    exact aw_aload_n (pc := 109) C (i := 0) dX10_practised_109 rfl rfl <|
    aw_getR (pc := 110) C (b := 72) dX10_practised_110 fl_X10_85 sC_0 rfl rC_0_12 <|
    aw_getI (pc := 113) C dX10_practised_113 fl_X10_189 sC_72 rfl <|
    aw_if_lt (pc := 116) C (tgt := 166) dX10_practised_116 rfl (fun _ =>
    aw_iconst (pc := 166) C (v := 0) dX10_practised_166 rfl <|
    aw_zret (pc := 167) C dX10_practised_167 rfl rfl) (fun _ =>
    aw_aload_n (pc := 119) C (i := 0) dX10_practised_119 rfl rfl <|
    aw_getR (pc := 120) C (b := 72) dX10_practised_120 fl_X10_85 sC_0 rfl rC_0_12 <|
    aw_getI (pc := 123) C dX10_practised_123 fl_X10_186 sC_72 rfl <|
    aw_if_lt (pc := 126) C (tgt := 166) dX10_practised_126 rfl (fun _ =>
    aw_iconst (pc := 166) C (v := 0) dX10_practised_166 rfl <|
    aw_zret (pc := 167) C dX10_practised_167 rfl rfl) (fun _ =>
    aw_aload_n (pc := 129) C (i := 0) dX10_practised_129 rfl rfl <|
    aw_getR (pc := 130) C (b := 72) dX10_practised_130 fl_X10_85 sC_0 rfl rC_0_12 <|
    aw_getI (pc := 133) C dX10_practised_133 fl_X10_192 sC_72 rfl <|
    aw_bipush (pc := 136) C (v := 99) dX10_practised_136 rfl <|
    aw_icmp_gt (pc := 138) C (tgt := 166) dX10_practised_138 rfl (fun _ =>
    aw_iconst (pc := 166) C (v := 0) dX10_practised_166 rfl <|
    aw_zret (pc := 167) C dX10_practised_167 rfl rfl) (fun _ =>
    aw_aload_n (pc := 141) C (i := 0) dX10_practised_141 rfl rfl <|
    aw_getR (pc := 142) C (b := 72) dX10_practised_142 fl_X10_85 sC_0 rfl rC_0_12 <|
    aw_getI (pc := 145) C dX10_practised_145 fl_X10_195 sC_72 rfl <|
    aw_if_lt (pc := 148) C (tgt := 166) dX10_practised_148 rfl (fun _ =>
    aw_iconst (pc := 166) C (v := 0) dX10_practised_166 rfl <|
    aw_zret (pc := 167) C dX10_practised_167 rfl rfl) (fun _ =>
    aw_aload_n (pc := 151) C (i := 0) dX10_practised_151 rfl rfl <|
    aw_getR (pc := 152) C (b := 72) dX10_practised_152 fl_X10_85 sC_0 rfl rC_0_12 <|
    aw_getI (pc := 155) C dX10_practised_155 fl_X10_195 sC_72 rfl <|
    aw_iconst (pc := 158) C (v := 4) dX10_practised_158 rfl <|
    aw_icmp_gt (pc := 159) C (tgt := 166) dX10_practised_159 rfl (fun _ =>
    aw_iconst (pc := 166) C (v := 0) dX10_practised_166 rfl <|
    aw_zret (pc := 167) C dX10_practised_167 rfl rfl) (fun _ =>
    aw_iconst (pc := 162) C (v := 1) dX10_practised_162 rfl <|
    aw_goto (pc := 163) C (tgt := 167) dX10_practised_163 rfl <|
    aw_zret (pc := 167) C dX10_practised_167 rfl rfl)))))
def X10_practised (v1 : Int32) (h : AH) : Option (Int32 × AH) :=
    vl v1 fun y1 =>
    if y1 = 0 then (vl (sI h 72 5 ((h.1 72 5) - 1)) fun h2 =>
    X10_practised_j109 h2)
    else if y1 = 1 then (vl (sI h 72 4 ((h.1 72 4) - 1)) fun h4 =>
    X10_practised_j109 h4)
    else if y1 = 2 then (vl (sI h 72 6 ((h.1 72 6) + 1)) fun h6 =>
    X10_practised_j109 h6)
    else if y1 = 3 then (vl (sI h 72 7 ((h.1 72 7) + 1)) fun h8 =>
    X10_practised_j109 h8)
    else (vl (sI h 72 7 ((h.1 72 7) - 1)) fun h10 =>
    X10_practised_j109 h10)
set_option maxRecDepth 100000 in
theorem c_X10_practised (l : Launch) (v1 : Int32) : MC l yX10_practised cX10_practised 2 (some .boolean) rmX10_practised ZC [.ref 0, .int v1] rvI (X10_practised v1) :=
  MC.of (own := RX10) (by decide +kernel) rfl (Nat.le_of_ble_eq_true rfl) fun X yd A h _ C =>
    aw_iload_n (pc := 0) C (i := 1) dX10_practised_0 rfl rfl <|
    aw_vlI fun y1 =>
    aw_if (fun c3 => aw_tswA (pc := 1) C (off := 31) (tg := 32) 0 dX10_practised_1 (by rw [c3]; rfl) (by decide) (by decide) rfl rfl (aw_aload_n (pc := 32) C (i := 0) dX10_practised_32 rfl rfl <|
    aw_getR (pc := 33) C (b := 72) dX10_practised_33 fl_X10_85 sC_0 rfl rC_0_12 <|
    aw_dup (pc := 36) C dX10_practised_36 rfl <|
    aw_getI (pc := 37) C dX10_practised_37 fl_X10_189 sC_72 rfl <|
    aw_iconst (pc := 40) C (v := 1) dX10_practised_40 rfl <|
    aw_isub (pc := 41) C dX10_practised_41 <|
    aw_putI (pc := 42) C dX10_practised_42 fp_X10_189 sC_72 rfl fun h2 =>
    aw_goto (pc := 45) C (tgt := 109) dX10_practised_45 rfl <|
    aw_drop [0] (aX10_practised_j109 C h2))) (fun c3 =>
    aw_if (fun c5 => aw_tswA (pc := 1) C (off := 47) (tg := 48) 1 dX10_practised_1 (by rw [c5]; rfl) (by decide) (by decide) rfl rfl (aw_aload_n (pc := 48) C (i := 0) dX10_practised_48 rfl rfl <|
    aw_getR (pc := 49) C (b := 72) dX10_practised_49 fl_X10_85 sC_0 rfl rC_0_12 <|
    aw_dup (pc := 52) C dX10_practised_52 rfl <|
    aw_getI (pc := 53) C dX10_practised_53 fl_X10_186 sC_72 rfl <|
    aw_iconst (pc := 56) C (v := 1) dX10_practised_56 rfl <|
    aw_isub (pc := 57) C dX10_practised_57 <|
    aw_putI (pc := 58) C dX10_practised_58 fp_X10_186 sC_72 rfl fun h4 =>
    aw_goto (pc := 61) C (tgt := 109) dX10_practised_61 rfl <|
    aw_drop [0] (aX10_practised_j109 C h4))) (fun c5 =>
    aw_if (fun c7 => aw_tswA (pc := 1) C (off := 63) (tg := 64) 2 dX10_practised_1 (by rw [c7]; rfl) (by decide) (by decide) rfl rfl (aw_aload_n (pc := 64) C (i := 0) dX10_practised_64 rfl rfl <|
    aw_getR (pc := 65) C (b := 72) dX10_practised_65 fl_X10_85 sC_0 rfl rC_0_12 <|
    aw_dup (pc := 68) C dX10_practised_68 rfl <|
    aw_getI (pc := 69) C dX10_practised_69 fl_X10_192 sC_72 rfl <|
    aw_iconst (pc := 72) C (v := 1) dX10_practised_72 rfl <|
    aw_iadd (pc := 73) C dX10_practised_73 <|
    aw_putI (pc := 74) C dX10_practised_74 fp_X10_192 sC_72 rfl fun h6 =>
    aw_goto (pc := 77) C (tgt := 109) dX10_practised_77 rfl <|
    aw_drop [0] (aX10_practised_j109 C h6))) (fun c7 =>
    aw_if (fun c9 => aw_tswA (pc := 1) C (off := 79) (tg := 80) 3 dX10_practised_1 (by rw [c9]; rfl) (by decide) (by decide) rfl rfl (aw_aload_n (pc := 80) C (i := 0) dX10_practised_80 rfl rfl <|
    aw_getR (pc := 81) C (b := 72) dX10_practised_81 fl_X10_85 sC_0 rfl rC_0_12 <|
    aw_dup (pc := 84) C dX10_practised_84 rfl <|
    aw_getI (pc := 85) C dX10_practised_85 fl_X10_195 sC_72 rfl <|
    aw_iconst (pc := 88) C (v := 1) dX10_practised_88 rfl <|
    aw_iadd (pc := 89) C dX10_practised_89 <|
    aw_putI (pc := 90) C dX10_practised_90 fp_X10_195 sC_72 rfl fun h8 =>
    aw_goto (pc := 93) C (tgt := 109) dX10_practised_93 rfl <|
    aw_drop [0] (aX10_practised_j109 C h8))) (fun c9 =>
    aw_tswD (pc := 1) C (N := 4) (td := 96) [0, 1, 2, 3] dX10_practised_1 (List.forall_mem_cons.mpr ⟨ti_ne c3 rfl, List.forall_mem_cons.mpr ⟨ti_ne c5 rfl, List.forall_mem_cons.mpr ⟨ti_ne c7 rfl, List.forall_mem_cons.mpr ⟨ti_ne c9 rfl, fun _ hz => by cases hz⟩⟩⟩⟩) rfl (by decide) rfl (aw_aload_n (pc := 96) C (i := 0) dX10_practised_96 rfl rfl <|
    aw_getR (pc := 97) C (b := 72) dX10_practised_97 fl_X10_85 sC_0 rfl rC_0_12 <|
    aw_dup (pc := 100) C dX10_practised_100 rfl <|
    aw_getI (pc := 101) C dX10_practised_101 fl_X10_195 sC_72 rfl <|
    aw_iconst (pc := 104) C (v := 1) dX10_practised_104 rfl <|
    aw_isub (pc := 105) C dX10_practised_105 <|
    aw_putI (pc := 106) C dX10_practised_106 fp_X10_195 sC_72 rfl fun h10 =>
    aw_drop [0] (aX10_practised_j109 C h10))))))

abbrev rmX10_meanAt : Room := { frames := 5, cells := 0, slots := 0, locals := 136 }
def X10_meanAt (v1 : Int32) (h : AH) : Option (Int64 × AH) :=
    bd (X1_spread 72 (h.1 42 0) (h.1 42 1) v1 0 h) fun _ h2 =>
    bd (X1_meanWays h2) fun r3 h4 =>
    some (r3, h4)
set_option maxRecDepth 100000 in
theorem c_X10_meanAt (l : Launch) (v1 : Int32) : MC l yX10_meanAt cX10_meanAt 2 (some .long) rmX10_meanAt ZC [.ref 0, .int v1] rvL (X10_meanAt v1) :=
  MC.of (own := RX10) (by decide +kernel) rfl (Nat.le_of_ble_eq_true rfl) fun X yd A h _ C =>
    aw_aload_n (pc := 0) C (i := 0) dX10_meanAt_0 rfl rfl <|
    aw_getR (pc := 1) C (b := 8) dX10_meanAt_1 fl_X10_35 sC_0 rfl rC_0_11 <|
    aw_aload_n (pc := 4) C (i := 0) dX10_meanAt_4 rfl rfl <|
    aw_getR (pc := 5) C (b := 72) dX10_meanAt_5 fl_X10_85 sC_0 rfl rC_0_12 <|
    aw_aload_n (pc := 8) C (i := 0) dX10_meanAt_8 rfl rfl <|
    aw_getR (pc := 9) C (b := 42) dX10_meanAt_9 fl_X10_72 sC_0 rfl rC_0_1 <|
    aw_getI (pc := 12) C dX10_meanAt_12 fl_X10_163 (mt_s (Or.inl rfl)) rfl <|
    aw_aload_n (pc := 15) C (i := 0) dX10_meanAt_15 rfl rfl <|
    aw_getR (pc := 16) C (b := 42) dX10_meanAt_16 fl_X10_72 sC_0 rfl rC_0_1 <|
    aw_getI (pc := 19) C dX10_meanAt_19 fl_X10_157 (mt_s (Or.inl rfl)) rfl <|
    aw_iload_n (pc := 22) C (i := 1) dX10_meanAt_22 rfl rfl <|
    aw_iconst (pc := 23) C (v := 0) dX10_meanAt_23 rfl <|
    aw_callF (pc := 24) C (cr_V (rest := []) (F := (X1_spread 72 (h.1 42 0) (h.1 42 1) v1 0)) C (c_X1_spread X.2.1 72 sC_72 (h.1 42 0) (h.1 42 1) v1 0) dX10_meanAt_24 mf_X1_spread ml_X10_242 im_X1_spread se_X1_spread sC_8 rfl ⟨(Nat.le_of_ble_eq_true rfl), (Nat.le_of_ble_eq_true rfl)⟩ rfl rfl (Nat.le_of_ble_eq_true rfl)) rfl rfl rfl (Nat.zero_le _) (Nat.zero_le _) fun _ h2 =>
    aw_aload_n (pc := 27) C (i := 0) dX10_meanAt_27 rfl rfl <|
    aw_getR (pc := 28) C (b := 8) dX10_meanAt_28 fl_X10_35 sC_0 rfl rC_0_11 <|
    aw_callF (pc := 31) C (cr_V (rest := []) (F := X1_meanWays) C (c_X1_meanWays X.2.1 ) dX10_meanAt_31 mf_X1_meanWays ml_X10_269 im_X1_meanWays se_X1_meanWays sC_8 rfl ⟨(Nat.le_of_ble_eq_true rfl), (Nat.le_of_ble_eq_true rfl)⟩ rfl rfl (Nat.le_of_ble_eq_true rfl)) rfl rfl rfl (Nat.zero_le _) (Nat.zero_le _) fun r3 h4 =>
    aw_lret (pc := 34) C dX10_meanAt_34 rfl rfl

abbrev rmX10_practice : Room := { frames := 6, cells := 0, slots := 0, locals := 158 }
def X10_practice_j110  (v1 : Int32) (v3 : Int32) (v4 : Int64) (v6 : Int32) (v7 : Int32) (K51 : Int64 → Int32 → Int32 → AH → Option (Int32 × AH)) (h : AH) : Option (Int32 × AH) :=
    vl (v7 + 1) fun x20 =>
    K51 v4 v6 x20 h
set_option maxRecDepth 100000 in
theorem aX10_practice_j110 {X : MCx} {yd : Dyn} {A : Nat → Prop} (C : OK X cX10_practice RX10 10 (some .int) rmX10_practice A)  (v1 : Int32) (v3 : Int32) (v4 : Int64) (v6 : Int32) (v7 : Int32) (K51 : Int64 → Int32 → Int32 → AH → Option (Int32 × AH)) (hK51 : ∀ (w4 : Int64) (w6 : Int32) (w7 : Int32) (h : AH), AW X 10 ZC yd A 0 0 (QF X rmX10_practice ZC yd rvI A) 51 [(0, .ref 0), (1, .int v1), (3, .int v3), (4, .long w4), (6, .int w6), (7, .int w7)] [] h (K51 w4 w6 w7 h)) (h : AH) : AW X 10 ZC yd A 0 0 (QF X rmX10_practice ZC yd rvI A) 110 [(0, .ref 0), (1, .int v1), (3, .int v3), (4, .long v4), (6, .int v6), (7, .int v7)] [] h (X10_practice_j110 v1 v3 v4 v6 v7 K51 h) := by
    exact aw_iincV (pc := 110) C (i := 7) (cst := 1) (fun x20 => [(0, .ref 0), (1, .int v1), (3, .int v3), (4, .long v4), (6, .int v6), (7, .int x20)]) dX10_practice_110 rfl rfl (by decide) (fun _ => rfl) fun x20 =>
    aw_goto (pc := 113) C (tgt := 51) dX10_practice_113 rfl <|
    (hK51 v4 v6 x20 h)
def X10_practice_j92  (v1 : Int32) (v3 : Int32) (v4 : Int64) (v6 : Int32) (v7 : Int32) (K51 : Int64 → Int32 → Int32 → AH → Option (Int32 × AH)) (s0 : Int64) (h : AH) : Option (Int32 × AH) :=
    if (lcmpV s0 v4) ≤ 0 then (X10_practice_j110 v1 v3 v4 v6 v7 K51 h)
    else (X10_practice_j110 v1 v3 s0 v7 v7 K51 h)
set_option maxRecDepth 100000 in
theorem aX10_practice_j92 {X : MCx} {yd : Dyn} {A : Nat → Prop} (C : OK X cX10_practice RX10 10 (some .int) rmX10_practice A)  (v1 : Int32) (v3 : Int32) (v4 : Int64) (v6 : Int32) (v7 : Int32) (K51 : Int64 → Int32 → Int32 → AH → Option (Int32 × AH)) (hK51 : ∀ (w4 : Int64) (w6 : Int32) (w7 : Int32) (h : AH), AW X 10 ZC yd A 0 0 (QF X rmX10_practice ZC yd rvI A) 51 [(0, .ref 0), (1, .int v1), (3, .int v3), (4, .long w4), (6, .int w6), (7, .int w7)] [] h (K51 w4 w6 w7 h)) (s0 : Int64) (h : AH) : AW X 10 ZC yd A 0 0 (QF X rmX10_practice ZC yd rvI A) 92 [(0, .ref 0), (1, .int v1), (3, .int v3), (4, .long v4), (6, .int v6), (7, .int v7)] [.long s0] h (X10_practice_j92 v1 v3 v4 v6 v7 K51 s0 h) := by
    exact aw_lstore (pc := 92) C (i := 8) (lv' := [(0, .ref 0), (1, .int v1), (3, .int v3), (4, .long v4), (6, .int v6), (7, .int v7), (8, .long s0)]) dX10_practice_92 (by decide) rfl <|
    aw_lload (pc := 94) C (i := 8) dX10_practice_94 rfl <|
    aw_lload (pc := 96) C (i := 4) dX10_practice_96 rfl <|
    aw_lcmp (pc := 98) C dX10_practice_98 <|
    aw_if_le (pc := 99) C (tgt := 110) dX10_practice_99 rfl (fun _ =>
    aw_drop [0, 1, 2, 3, 4, 5] (aX10_practice_j110 C v1 v3 v4 v6 v7 K51 hK51 h)) (fun _ =>
    aw_lload (pc := 102) C (i := 8) dX10_practice_102 rfl <|
    aw_lstore (pc := 104) C (i := 4) (lv' := [(0, .ref 0), (1, .int v1), (3, .int v3), (4, .long s0), (6, .int v6), (7, .int v7), (8, .long s0)]) dX10_practice_104 (by decide) rfl <|
    aw_iload (pc := 106) C (i := 7) dX10_practice_106 rfl <|
    aw_istore (pc := 108) C (i := 6) (lv' := [(0, .ref 0), (1, .int v1), (3, .int v3), (4, .long s0), (6, .int v7), (7, .int v7), (8, .long s0)]) dX10_practice_108 (by decide) rfl <|
    aw_drop [0, 1, 2, 3, 4, 5] (aX10_practice_j110 C v1 v3 s0 v7 v7 K51 hK51 h))
def X10_practice_l51  (v1 : Int32) (v3 : Int32) : Nat → Int64 → Int32 → Int32 → AH → Option (Int32 × AH)
  | 0, _, _, _, _ => none
  | n + 1, v4, v6, v7, h =>
    if 5 ≤ v7 then (some (v6, h))
    else (bd (X5_at 42 v1 h) fun r13 h14 =>
    cs ZC r13 (.inr 2) (bd (X2_copyFrom 72 r13 h14) fun _ h17 =>
    bd (X10_practised v7 h17) fun r18 h19 =>
    if r18 = 0 then (X10_practice_j92 v1 v3 v4 v6 v7 (X10_practice_l51 v1 v3 n) (-1) h19)
    else (bd (X10_meanAt v3 h19) fun r21 h22 =>
    X10_practice_j92 v1 v3 v4 v6 v7 (X10_practice_l51 v1 v3 n) r21 h22)))
set_option maxRecDepth 100000 in
theorem aX10_practice_l51 {X : MCx} {yd : Dyn} {A : Nat → Prop} (C : OK X cX10_practice RX10 10 (some .int) rmX10_practice A)  (v1 : Int32) (v3 : Int32) : ∀ (n : Nat) (v4 : Int64) (v6 : Int32) (v7 : Int32) (h : AH), AW X 10 ZC yd A 0 0 (QF X rmX10_practice ZC yd rvI A) 51 [(0, .ref 0), (1, .int v1), (3, .int v3), (4, .long v4), (6, .int v6), (7, .int v7)] [] h (X10_practice_l51 v1 v3 n v4 v6 v7 h) := by
  intro n
  induction n with
  | zero => intro v4 v6 v7 h; exact aw_none
  | succ n ih =>
    intro v4 v6 v7 h
    exact aw_iload (pc := 51) C (i := 7) dX10_practice_51 rfl <|
    aw_iconst (pc := 53) C (v := 5) dX10_practice_53 rfl <|
    aw_icmp_ge (pc := 54) C (tgt := 116) dX10_practice_54 rfl (fun _ =>
    aw_iload (pc := 116) C (i := 6) dX10_practice_116 rfl <|
    aw_iret (pc := 118) C dX10_practice_118 rfl rfl) (fun _ =>
    aw_aload_n (pc := 57) C (i := 0) dX10_practice_57 rfl rfl <|
    aw_getR (pc := 58) C (b := 72) dX10_practice_58 fl_X10_85 sC_0 rfl rC_0_12 <|
    aw_aload_n (pc := 61) C (i := 0) dX10_practice_61 rfl rfl <|
    aw_getR (pc := 62) C (b := 42) dX10_practice_62 fl_X10_72 sC_0 rfl rC_0_1 <|
    aw_iload_n (pc := 65) C (i := 1) dX10_practice_65 rfl rfl <|
    aw_callF (pc := 66) C (cr_V (rest := [.ref 72]) (F := (X5_at 42 v1)) C (c_X5_at X.2.1 42 (Or.inl rfl) v1) dX10_practice_66 mf_X5_at ml_X10_169 im_X5_at se_X5_at (mt_s (Or.inl rfl)) rfl ⟨(Nat.le_of_ble_eq_true rfl), (Nat.le_of_ble_eq_true rfl)⟩ rfl rfl (Nat.le_of_ble_eq_true rfl)) rfl rfl rfl (Nat.zero_le _) (Nat.zero_le _) fun r13 h14 =>
    aw_cs fun hs15 =>
    aw_callF (pc := 69) C (cr_V (rest := []) (F := (X2_copyFrom 72 r13)) C (c_X2_copyFrom X.2.1 72 sC_72 r13 hs15) dX10_practice_69 mf_X2_copyFrom ml_X10_277 im_X2_copyFrom se_X2_copyFrom sC_72 rfl ⟨(Nat.le_of_ble_eq_true rfl), (Nat.le_of_ble_eq_true rfl)⟩ rfl rfl (Nat.le_of_ble_eq_true rfl)) rfl rfl rfl (Nat.zero_le _) (Nat.zero_le _) fun _ h17 =>
    aw_aload_n (pc := 72) C (i := 0) dX10_practice_72 rfl rfl <|
    aw_iload (pc := 73) C (i := 7) dX10_practice_73 rfl <|
    aw_callF (pc := 75) C (cr_V (rest := []) (F := (X10_practised v7)) C (c_X10_practised X.2.1 v7) dX10_practice_75 mf_X10_practised ml_X10_395 im_X10_practised se_X10_practised sC_0 rfl ⟨(Nat.le_of_ble_eq_true rfl), (Nat.le_of_ble_eq_true rfl)⟩ rfl rfl (Nat.le_of_ble_eq_true rfl)) rfl rfl rfl (Nat.zero_le _) (Nat.zero_le _) fun r18 h19 =>
    aw_if_eq (pc := 78) C (tgt := 89) dX10_practice_78 rfl (fun _ =>
    aw_ldc2_w (pc := 89) C (v := (-1)) dX10_practice_89 kc_X10_280 <|
    (aX10_practice_j92 C v1 v3 v4 v6 v7 (X10_practice_l51 v1 v3 n) ih (-1) h19)) (fun _ =>
    aw_aload_n (pc := 81) C (i := 0) dX10_practice_81 rfl rfl <|
    aw_iload_n (pc := 82) C (i := 3) dX10_practice_82 rfl rfl <|
    aw_callF (pc := 83) C (cr_V (rest := []) (F := (X10_meanAt v3)) C (c_X10_meanAt X.2.1 v3) dX10_practice_83 mf_X10_meanAt ml_X10_398 im_X10_meanAt se_X10_meanAt sC_0 rfl ⟨(Nat.le_of_ble_eq_true rfl), (Nat.le_of_ble_eq_true rfl)⟩ rfl rfl (Nat.le_of_ble_eq_true rfl)) rfl rfl rfl (Nat.zero_le _) (Nat.zero_le _) fun r21 h22 =>
    aw_goto (pc := 86) C (tgt := 92) dX10_practice_86 rfl <|
    (aX10_practice_j92 C v1 v3 v4 v6 v7 (X10_practice_l51 v1 v3 n) ih r21 h22)))
def X10_practice (v1 : Int32) (h : AH) : Option (Int32 × AH) :=
    bd (X10_nobody v1 h) fun r1 h2 =>
    if r1 = 0 then (bd (X10_placeOf v1 h2) fun r3 h4 =>
    bd (X5_at 42 v1 h4) fun r5 h6 =>
    cs ZC r5 (.inr 2) (bd (X10_spreadAt r5 r3 h6) fun _ h9 =>
    bd (X1_meanWays h9) fun r10 h11 =>
    vl (-9) fun x12 =>
    X10_practice_l51 v1 r3 FU r10 x12 0 h11))
    else (bd (X10_refuse r1 h2) fun r23 h24 =>
    some (r23, h24))
set_option maxRecDepth 100000 in
theorem c_X10_practice (l : Launch) (v1 : Int32) : MC l yX10_practice cX10_practice 10 (some .int) rmX10_practice ZC [.ref 0, .int v1] rvI (X10_practice v1) :=
  MC.of (own := RX10) (by decide +kernel) rfl (Nat.le_of_ble_eq_true rfl) fun X yd A h _ C =>
    aw_aload_n (pc := 0) C (i := 0) dX10_practice_0 rfl rfl <|
    aw_iload_n (pc := 1) C (i := 1) dX10_practice_1 rfl rfl <|
    aw_callF (pc := 2) C (cr_V (rest := []) (F := (X10_nobody v1)) C (c_X10_nobody X.2.1 v1) dX10_practice_2 mf_X10_nobody ml_X10_93 im_X10_nobody se_X10_nobody sC_0 rfl ⟨(Nat.le_of_ble_eq_true rfl), (Nat.le_of_ble_eq_true rfl)⟩ rfl rfl (Nat.le_of_ble_eq_true rfl)) rfl rfl rfl (Nat.zero_le _) (Nat.zero_le _) fun r1 h2 =>
    aw_istore_n (pc := 5) C (i := 2) (lv' := [(0, .ref 0), (1, .int v1), (2, .int r1)]) dX10_practice_5 rfl (by decide) rfl <|
    aw_iload_n (pc := 6) C (i := 2) dX10_practice_6 rfl rfl <|
    aw_if_eq (pc := 7) C (tgt := 16) dX10_practice_7 rfl (fun _ =>
    aw_aload_n (pc := 16) C (i := 0) dX10_practice_16 rfl rfl <|
    aw_iload_n (pc := 17) C (i := 1) dX10_practice_17 rfl rfl <|
    aw_callF (pc := 18) C (cr_V (rest := []) (F := (X10_placeOf v1)) C (c_X10_placeOf X.2.1 v1) dX10_practice_18 mf_X10_placeOf ml_X10_229 im_X10_placeOf se_X10_placeOf sC_0 rfl ⟨(Nat.le_of_ble_eq_true rfl), (Nat.le_of_ble_eq_true rfl)⟩ rfl rfl (Nat.le_of_ble_eq_true rfl)) rfl rfl rfl (Nat.zero_le _) (Nat.zero_le _) fun r3 h4 =>
    aw_istore_n (pc := 21) C (i := 3) (lv' := [(0, .ref 0), (1, .int v1), (2, .int r1), (3, .int r3)]) dX10_practice_21 rfl (by decide) rfl <|
    aw_aload_n (pc := 22) C (i := 0) dX10_practice_22 rfl rfl <|
    aw_aload_n (pc := 23) C (i := 0) dX10_practice_23 rfl rfl <|
    aw_getR (pc := 24) C (b := 42) dX10_practice_24 fl_X10_72 sC_0 rfl rC_0_1 <|
    aw_iload_n (pc := 27) C (i := 1) dX10_practice_27 rfl rfl <|
    aw_callF (pc := 28) C (cr_V (rest := [.ref 0]) (F := (X5_at 42 v1)) C (c_X5_at X.2.1 42 (Or.inl rfl) v1) dX10_practice_28 mf_X5_at ml_X10_169 im_X5_at se_X5_at (mt_s (Or.inl rfl)) rfl ⟨(Nat.le_of_ble_eq_true rfl), (Nat.le_of_ble_eq_true rfl)⟩ rfl rfl (Nat.le_of_ble_eq_true rfl)) rfl rfl rfl (Nat.zero_le _) (Nat.zero_le _) fun r5 h6 =>
    aw_cs fun hs7 =>
    aw_iload_n (pc := 31) C (i := 3) dX10_practice_31 rfl rfl <|
    aw_callF (pc := 32) C (cr_V (rest := []) (F := (X10_spreadAt r5 r3)) C (c_X10_spreadAt X.2.1 r5 hs7 r3) dX10_practice_32 mf_X10_spreadAt ml_X10_282 im_X10_spreadAt se_X10_spreadAt sC_0 rfl ⟨(Nat.le_of_ble_eq_true rfl), (Nat.le_of_ble_eq_true rfl)⟩ rfl rfl (Nat.le_of_ble_eq_true rfl)) rfl rfl rfl (Nat.zero_le _) (Nat.zero_le _) fun _ h9 =>
    aw_aload_n (pc := 35) C (i := 0) dX10_practice_35 rfl rfl <|
    aw_getR (pc := 36) C (b := 8) dX10_practice_36 fl_X10_35 sC_0 rfl rC_0_11 <|
    aw_callF (pc := 39) C (cr_V (rest := []) (F := X1_meanWays) C (c_X1_meanWays X.2.1 ) dX10_practice_39 mf_X1_meanWays ml_X10_269 im_X1_meanWays se_X1_meanWays sC_8 rfl ⟨(Nat.le_of_ble_eq_true rfl), (Nat.le_of_ble_eq_true rfl)⟩ rfl rfl (Nat.le_of_ble_eq_true rfl)) rfl rfl rfl (Nat.zero_le _) (Nat.zero_le _) fun r10 h11 =>
    aw_lstore (pc := 42) C (i := 4) (lv' := [(0, .ref 0), (1, .int v1), (2, .int r1), (3, .int r3), (4, .long r10)]) dX10_practice_42 (by decide) rfl <|
    aw_bipush (pc := 44) C (v := (-9)) dX10_practice_44 rfl <|
    aw_istoreV (pc := 46) C (i := 6) (fun x12 => [(0, .ref 0), (1, .int v1), (2, .int r1), (3, .int r3), (4, .long r10), (6, .int x12)]) dX10_practice_46 (by decide) (fun _ => rfl) fun x12 =>
    aw_iconst (pc := 48) C (v := 0) dX10_practice_48 rfl <|
    aw_istore (pc := 49) C (i := 7) (lv' := [(0, .ref 0), (1, .int v1), (2, .int r1), (3, .int r3), (4, .long r10), (6, .int x12), (7, .int 0)]) dX10_practice_49 (by decide) rfl <|
    aw_drop [0, 1, 3, 4, 5, 6] (aX10_practice_l51 C v1 r3 FU r10 x12 0 h11)) (fun _ =>
    aw_aload_n (pc := 10) C (i := 0) dX10_practice_10 rfl rfl <|
    aw_iload_n (pc := 11) C (i := 2) dX10_practice_11 rfl rfl <|
    aw_callF (pc := 12) C (cr_V (rest := []) (F := (X10_refuse r1)) C (c_X10_refuse X.2.1 r1) dX10_practice_12 mf_X10_refuse ml_X10_111 im_X10_refuse se_X10_refuse sC_0 rfl ⟨(Nat.le_of_ble_eq_true rfl), (Nat.le_of_ble_eq_true rfl)⟩ rfl rfl (Nat.le_of_ble_eq_true rfl)) rfl rfl rfl (Nat.zero_le _) (Nat.zero_le _) fun r23 h24 =>
    aw_iret (pc := 15) C dX10_practice_15 rfl rfl)

abbrev rmX10_bestRun : Room := { frames := 5, cells := 0, slots := 0, locals := 136 }
def X10_bestRun_j102  (v3 : Nat) (v4 : Int32) (v5 : Int64) (v7 : Int32) (K36 : Int32 → Int64 → Int32 → AH → Option (Int32 × AH)) (h : AH) : Option (Int32 × AH) :=
    vl (v7 + 1) fun x14 =>
    K36 v4 v5 x14 h
set_option maxRecDepth 100000 in
theorem aX10_bestRun_j102 {X : MCx} {yd : Dyn} {A : Nat → Prop} (C : OK X cX10_bestRun RX10 10 (some .int) rmX10_bestRun A)  (v3 : Nat) (hs3 : ZC.1[v3]? = some (.inr 2)) (v4 : Int32) (v5 : Int64) (v7 : Int32) (K36 : Int32 → Int64 → Int32 → AH → Option (Int32 × AH)) (hK36 : ∀ (w4 : Int32) (w5 : Int64) (w7 : Int32) (h : AH), AW X 10 ZC yd A 0 0 (QF X rmX10_bestRun ZC yd rvI A) 36 [(0, .ref 0), (3, .ref v3), (4, .int w4), (5, .long w5), (7, .int w7)] [] h (K36 w4 w5 w7 h)) (h : AH) : AW X 10 ZC yd A 0 0 (QF X rmX10_bestRun ZC yd rvI A) 102 [(0, .ref 0), (3, .ref v3), (4, .int v4), (5, .long v5), (7, .int v7)] [] h (X10_bestRun_j102 v3 v4 v5 v7 K36 h) := by
    exact aw_iincV (pc := 102) C (i := 7) (cst := 1) (fun x14 => [(0, .ref 0), (3, .ref v3), (4, .int v4), (5, .long v5), (7, .int x14)]) dX10_bestRun_102 rfl rfl (by decide) (fun _ => rfl) fun x14 =>
    aw_goto (pc := 105) C (tgt := 36) dX10_bestRun_105 rfl <|
    (hK36 v4 v5 x14 h)
def X10_bestRun_l36  (v3 : Nat) : Nat → Int32 → Int64 → Int32 → AH → Option (Int32 × AH)
  | 0, _, _, _, _ => none
  | n + 1, v4, v5, v7, h =>
    if 20 < v7 then (some (v4, h))
    else (bd (kd (h.2.2 v3) (X3_aimOf v3 h) (X7_aimOf v3 h) (X0_aimOf v3 h) (X4_aimOf v3 h) (X0_aimOf v3 h) (X8_aimOf v3 h)) fun r7 h8 =>
    bd (X1_spread v3 v7 (h.1 42 1) r7 0 h8) fun _ h10 =>
    bd (X1_meanWays h10) fun r11 h12 =>
    vl (shl64 r11 (2 * (20 - v7))) fun x13 =>
    if (lcmpV x13 v5) ≤ 0 then (X10_bestRun_j102 v3 v4 v5 v7 (X10_bestRun_l36 v3 n) h12)
    else (X10_bestRun_j102 v3 v7 x13 v7 (X10_bestRun_l36 v3 n) h12))
set_option maxRecDepth 100000 in
theorem aX10_bestRun_l36 {X : MCx} {yd : Dyn} {A : Nat → Prop} (C : OK X cX10_bestRun RX10 10 (some .int) rmX10_bestRun A)  (v3 : Nat) (hs3 : ZC.1[v3]? = some (.inr 2)) : ∀ (n : Nat) (v4 : Int32) (v5 : Int64) (v7 : Int32) (h : AH), AW X 10 ZC yd A 0 0 (QF X rmX10_bestRun ZC yd rvI A) 36 [(0, .ref 0), (3, .ref v3), (4, .int v4), (5, .long v5), (7, .int v7)] [] h (X10_bestRun_l36 v3 n v4 v5 v7 h) := by
  intro n
  induction n with
  | zero => intro v4 v5 v7 h; exact aw_none
  | succ n ih =>
    intro v4 v5 v7 h
    exact aw_iload (pc := 36) C (i := 7) dX10_bestRun_36 rfl <|
    aw_bipush (pc := 38) C (v := 20) dX10_bestRun_38 rfl <|
    aw_icmp_gt (pc := 40) C (tgt := 108) dX10_bestRun_40 rfl (fun _ =>
    aw_iload (pc := 108) C (i := 4) dX10_bestRun_108 rfl <|
    aw_iret (pc := 110) C dX10_bestRun_110 rfl rfl) (fun _ =>
    aw_aload_n (pc := 43) C (i := 0) dX10_bestRun_43 rfl rfl <|
    aw_getR (pc := 44) C (b := 8) dX10_bestRun_44 fl_X10_35 sC_0 rfl rC_0_11 <|
    aw_aload_n (pc := 47) C (i := 3) dX10_bestRun_47 rfl rfl <|
    aw_iload (pc := 48) C (i := 7) dX10_bestRun_48 rfl <|
    aw_aload_n (pc := 50) C (i := 0) dX10_bestRun_50 rfl rfl <|
    aw_getR (pc := 51) C (b := 42) dX10_bestRun_51 fl_X10_72 sC_0 rfl rC_0_1 <|
    aw_getI (pc := 54) C dX10_bestRun_54 fl_X10_157 (mt_s (Or.inl rfl)) rfl <|
    aw_aload_n (pc := 57) C (i := 3) dX10_bestRun_57 rfl rfl <|
    aw_getW (pc := 58) C (b := (36 + h.2.2 v3 % 6)) dX10_bestRun_58 fl_X10_173 hs3 rfl rfl <|
    aw_aload_n (pc := 61) C (i := 3) dX10_bestRun_61 rfl rfl <|
    aw_callF (pc := 62) C (kdA_aimOf C dX10_bestRun_62 ml_X10_354 (h.2.2 v3) v3 hs3  [.int (h.1 42 1), .int v7, .ref v3, .ref 8] ⟨⟨(Nat.le_of_ble_eq_true rfl), (Nat.le_of_ble_eq_true rfl)⟩, ⟨(Nat.le_of_ble_eq_true rfl), (Nat.le_of_ble_eq_true rfl)⟩, ⟨(Nat.le_of_ble_eq_true rfl), (Nat.le_of_ble_eq_true rfl)⟩, ⟨(Nat.le_of_ble_eq_true rfl), (Nat.le_of_ble_eq_true rfl)⟩, ⟨(Nat.le_of_ble_eq_true rfl), (Nat.le_of_ble_eq_true rfl)⟩, ⟨(Nat.le_of_ble_eq_true rfl), (Nat.le_of_ble_eq_true rfl)⟩⟩ (Nat.le_of_ble_eq_true rfl)) rfl rfl rfl (Nat.zero_le _) (Nat.zero_le _) fun r7 h8 =>
    aw_iconst (pc := 65) C (v := 0) dX10_bestRun_65 rfl <|
    aw_callF (pc := 66) C (cr_V (rest := []) (F := (X1_spread v3 v7 (h.1 42 1) r7 0)) C (c_X1_spread X.2.1 v3 hs3 v7 (h.1 42 1) r7 0) dX10_bestRun_66 mf_X1_spread ml_X10_242 im_X1_spread se_X1_spread sC_8 rfl ⟨(Nat.le_of_ble_eq_true rfl), (Nat.le_of_ble_eq_true rfl)⟩ rfl rfl (Nat.le_of_ble_eq_true rfl)) rfl rfl rfl (Nat.zero_le _) (Nat.zero_le _) fun _ h10 =>
    aw_aload_n (pc := 69) C (i := 0) dX10_bestRun_69 rfl rfl <|
    aw_getR (pc := 70) C (b := 8) dX10_bestRun_70 fl_X10_35 sC_0 rfl rC_0_11 <|
    aw_callF (pc := 73) C (cr_V (rest := []) (F := X1_meanWays) C (c_X1_meanWays X.2.1 ) dX10_bestRun_73 mf_X1_meanWays ml_X10_269 im_X1_meanWays se_X1_meanWays sC_8 rfl ⟨(Nat.le_of_ble_eq_true rfl), (Nat.le_of_ble_eq_true rfl)⟩ rfl rfl (Nat.le_of_ble_eq_true rfl)) rfl rfl rfl (Nat.zero_le _) (Nat.zero_le _) fun r11 h12 =>
    aw_iconst (pc := 76) C (v := 2) dX10_bestRun_76 rfl <|
    aw_bipush (pc := 77) C (v := 20) dX10_bestRun_77 rfl <|
    aw_iload (pc := 79) C (i := 7) dX10_bestRun_79 rfl <|
    aw_isub (pc := 81) C dX10_bestRun_81 <|
    aw_imul (pc := 82) C dX10_bestRun_82 <|
    aw_lshl (pc := 83) C dX10_bestRun_83 <|
    aw_lstoreV (pc := 84) C (i := 8) (fun x13 => [(0, .ref 0), (3, .ref v3), (4, .int v4), (5, .long v5), (7, .int v7), (8, .long x13)]) dX10_bestRun_84 (by decide) (fun _ => rfl) fun x13 =>
    aw_lload (pc := 86) C (i := 8) dX10_bestRun_86 rfl <|
    aw_lload (pc := 88) C (i := 5) dX10_bestRun_88 rfl <|
    aw_lcmp (pc := 90) C dX10_bestRun_90 <|
    aw_if_le (pc := 91) C (tgt := 102) dX10_bestRun_91 rfl (fun _ =>
    aw_drop [0, 1, 2, 3, 4] (aX10_bestRun_j102 C v3 hs3 v4 v5 v7 (X10_bestRun_l36 v3 n) ih h12)) (fun _ =>
    aw_lload (pc := 94) C (i := 8) dX10_bestRun_94 rfl <|
    aw_lstore (pc := 96) C (i := 5) (lv' := [(0, .ref 0), (3, .ref v3), (4, .int v4), (5, .long x13), (7, .int v7), (8, .long x13)]) dX10_bestRun_96 (by decide) rfl <|
    aw_iload (pc := 98) C (i := 7) dX10_bestRun_98 rfl <|
    aw_istore (pc := 100) C (i := 4) (lv' := [(0, .ref 0), (3, .ref v3), (4, .int v7), (5, .long x13), (7, .int v7), (8, .long x13)]) dX10_bestRun_100 (by decide) rfl <|
    aw_drop [0, 1, 2, 3, 4] (aX10_bestRun_j102 C v3 hs3 v7 x13 v7 (X10_bestRun_l36 v3 n) ih h12)))
def X10_bestRun (v1 : Int32) (h : AH) : Option (Int32 × AH) :=
    bd (X10_nobody v1 h) fun r1 h2 =>
    if r1 = 0 then (bd (X5_at 42 v1 h2) fun r3 h4 =>
    cs ZC r3 (.inr 2) (vl (-1) fun x6 =>
    X10_bestRun_l36 r3 FU 4 x6 4 h4))
    else (bd (X10_refuse r1 h2) fun r15 h16 =>
    some (r15, h16))
set_option maxRecDepth 100000 in
theorem c_X10_bestRun (l : Launch) (v1 : Int32) : MC l yX10_bestRun cX10_bestRun 10 (some .int) rmX10_bestRun ZC [.ref 0, .int v1] rvI (X10_bestRun v1) :=
  MC.of (own := RX10) (by decide +kernel) rfl (Nat.le_of_ble_eq_true rfl) fun X yd A h _ C =>
    aw_aload_n (pc := 0) C (i := 0) dX10_bestRun_0 rfl rfl <|
    aw_iload_n (pc := 1) C (i := 1) dX10_bestRun_1 rfl rfl <|
    aw_callF (pc := 2) C (cr_V (rest := []) (F := (X10_nobody v1)) C (c_X10_nobody X.2.1 v1) dX10_bestRun_2 mf_X10_nobody ml_X10_93 im_X10_nobody se_X10_nobody sC_0 rfl ⟨(Nat.le_of_ble_eq_true rfl), (Nat.le_of_ble_eq_true rfl)⟩ rfl rfl (Nat.le_of_ble_eq_true rfl)) rfl rfl rfl (Nat.zero_le _) (Nat.zero_le _) fun r1 h2 =>
    aw_istore_n (pc := 5) C (i := 2) (lv' := [(0, .ref 0), (1, .int v1), (2, .int r1)]) dX10_bestRun_5 rfl (by decide) rfl <|
    aw_iload_n (pc := 6) C (i := 2) dX10_bestRun_6 rfl rfl <|
    aw_if_eq (pc := 7) C (tgt := 16) dX10_bestRun_7 rfl (fun _ =>
    aw_aload_n (pc := 16) C (i := 0) dX10_bestRun_16 rfl rfl <|
    aw_getR (pc := 17) C (b := 42) dX10_bestRun_17 fl_X10_72 sC_0 rfl rC_0_1 <|
    aw_iload_n (pc := 20) C (i := 1) dX10_bestRun_20 rfl rfl <|
    aw_callF (pc := 21) C (cr_V (rest := []) (F := (X5_at 42 v1)) C (c_X5_at X.2.1 42 (Or.inl rfl) v1) dX10_bestRun_21 mf_X5_at ml_X10_169 im_X5_at se_X5_at (mt_s (Or.inl rfl)) rfl ⟨(Nat.le_of_ble_eq_true rfl), (Nat.le_of_ble_eq_true rfl)⟩ rfl rfl (Nat.le_of_ble_eq_true rfl)) rfl rfl rfl (Nat.zero_le _) (Nat.zero_le _) fun r3 h4 =>
    aw_cs fun hs5 =>
    aw_astore_n (pc := 24) C (i := 3) (lv' := [(0, .ref 0), (1, .int v1), (2, .int r1), (3, .ref r3)]) dX10_bestRun_24 rfl (by decide) rfl <|
    aw_iconst (pc := 25) C (v := 4) dX10_bestRun_25 rfl <|
    aw_istore (pc := 26) C (i := 4) (lv' := [(0, .ref 0), (1, .int v1), (2, .int r1), (3, .ref r3), (4, .int 4)]) dX10_bestRun_26 (by decide) rfl <|
    aw_ldc2_w (pc := 28) C (v := (-1)) dX10_bestRun_28 kc_X10_280 <|
    aw_lstoreV (pc := 31) C (i := 5) (fun x6 => [(0, .ref 0), (1, .int v1), (2, .int r1), (3, .ref r3), (4, .int 4), (5, .long x6)]) dX10_bestRun_31 (by decide) (fun _ => rfl) fun x6 =>
    aw_iconst (pc := 33) C (v := 4) dX10_bestRun_33 rfl <|
    aw_istore (pc := 34) C (i := 7) (lv' := [(0, .ref 0), (1, .int v1), (2, .int r1), (3, .ref r3), (4, .int 4), (5, .long x6), (7, .int 4)]) dX10_bestRun_34 (by decide) rfl <|
    aw_drop [0, 3, 4, 5, 6] (aX10_bestRun_l36 C r3 hs5 FU 4 x6 4 h4)) (fun _ =>
    aw_aload_n (pc := 10) C (i := 0) dX10_bestRun_10 rfl rfl <|
    aw_iload_n (pc := 11) C (i := 2) dX10_bestRun_11 rfl rfl <|
    aw_callF (pc := 12) C (cr_V (rest := []) (F := (X10_refuse r1)) C (c_X10_refuse X.2.1 r1) dX10_bestRun_12 mf_X10_refuse ml_X10_111 im_X10_refuse se_X10_refuse sC_0 rfl ⟨(Nat.le_of_ble_eq_true rfl), (Nat.le_of_ble_eq_true rfl)⟩ rfl rfl (Nat.le_of_ble_eq_true rfl)) rfl rfl rfl (Nat.zero_le _) (Nat.zero_le _) fun r15 h16 =>
    aw_iret (pc := 15) C dX10_bestRun_15 rfl rfl)

abbrev rmX10_markIn : Room := { frames := 4, cells := 0, slots := 0, locals := 93 }
def X10_markIn (v1 : Int32) (v2 : Int32) (h : AH) : Option (Int32 × AH) :=
    bd (X10_nobody v1 h) fun r1 h2 =>
    bd (X10_outside v2 (-9) 9 h2) fun r3 h4 =>
    bd (X10_first r1 r3 h4) fun r5 h6 =>
    if r5 = 0 then (bd (X5_at 42 v1 h6) fun r7 h8 =>
    cs ZC r7 (.inr 2) (bd (X2_path r7 (h8.1 42 0) v2 h8) fun r10 h11 =>
    bd (kd (h11.2.2 r7) (X3_aimOf r7 h11) (X7_aimOf r7 h11) (X0_aimOf r7 h11) (X4_aimOf r7 h11) (X0_aimOf r7 h11) (X8_aimOf r7 h11)) fun r12 h13 =>
    some ((mx32 0 (mn32 2400 (r10 + r12))), h13)))
    else (bd (X10_refuse r5 h6) fun r14 h15 =>
    some (r14, h15))
set_option maxRecDepth 100000 in
theorem c_X10_markIn (l : Launch) (v1 : Int32) (v2 : Int32) : MC l yX10_markIn cX10_markIn 5 (some .int) rmX10_markIn ZC [.ref 0, .int v1, .int v2] rvI (X10_markIn v1 v2) :=
  MC.of (own := RX10) (by decide +kernel) rfl (Nat.le_of_ble_eq_true rfl) fun X yd A h _ C =>
    aw_aload_n (pc := 0) C (i := 0) dX10_markIn_0 rfl rfl <|
    aw_iload_n (pc := 1) C (i := 1) dX10_markIn_1 rfl rfl <|
    aw_callF (pc := 2) C (cr_V (rest := []) (F := (X10_nobody v1)) C (c_X10_nobody X.2.1 v1) dX10_markIn_2 mf_X10_nobody ml_X10_93 im_X10_nobody se_X10_nobody sC_0 rfl ⟨(Nat.le_of_ble_eq_true rfl), (Nat.le_of_ble_eq_true rfl)⟩ rfl rfl (Nat.le_of_ble_eq_true rfl)) rfl rfl rfl (Nat.zero_le _) (Nat.zero_le _) fun r1 h2 =>
    aw_iload_n (pc := 5) C (i := 2) dX10_markIn_5 rfl rfl <|
    aw_bipush (pc := 6) C (v := (-9)) dX10_markIn_6 rfl <|
    aw_bipush (pc := 8) C (v := 9) dX10_markIn_8 rfl <|
    aw_callF (pc := 10) C (cr_S (rest := [.int r1]) (F := (X10_outside v2 (-9) 9)) C (c_X10_outside X.2.1 v2 (-9) 9) dX10_markIn_10 mf_X10_outside ml_X10_104 st_X10_outside ⟨(Nat.le_of_ble_eq_true rfl), (Nat.le_of_ble_eq_true rfl)⟩ rfl rfl (Nat.le_of_ble_eq_true rfl)) rfl rfl rfl (Nat.zero_le _) (Nat.zero_le _) fun r3 h4 =>
    aw_callF (pc := 13) C (cr_S (rest := []) (F := (X10_first r1 r3)) C (c_X10_first X.2.1 r1 r3) dX10_markIn_13 mf_X10_first ml_X10_97 st_X10_first ⟨(Nat.le_of_ble_eq_true rfl), (Nat.le_of_ble_eq_true rfl)⟩ rfl rfl (Nat.le_of_ble_eq_true rfl)) rfl rfl rfl (Nat.zero_le _) (Nat.zero_le _) fun r5 h6 =>
    aw_istore_n (pc := 16) C (i := 3) (lv' := [(0, .ref 0), (1, .int v1), (2, .int v2), (3, .int r5)]) dX10_markIn_16 rfl (by decide) rfl <|
    aw_iload_n (pc := 17) C (i := 3) dX10_markIn_17 rfl rfl <|
    aw_if_eq (pc := 18) C (tgt := 27) dX10_markIn_18 rfl (fun _ =>
    aw_aload_n (pc := 27) C (i := 0) dX10_markIn_27 rfl rfl <|
    aw_getR (pc := 28) C (b := 42) dX10_markIn_28 fl_X10_72 sC_0 rfl rC_0_1 <|
    aw_iload_n (pc := 31) C (i := 1) dX10_markIn_31 rfl rfl <|
    aw_callF (pc := 32) C (cr_V (rest := []) (F := (X5_at 42 v1)) C (c_X5_at X.2.1 42 (Or.inl rfl) v1) dX10_markIn_32 mf_X5_at ml_X10_169 im_X5_at se_X5_at (mt_s (Or.inl rfl)) rfl ⟨(Nat.le_of_ble_eq_true rfl), (Nat.le_of_ble_eq_true rfl)⟩ rfl rfl (Nat.le_of_ble_eq_true rfl)) rfl rfl rfl (Nat.zero_le _) (Nat.zero_le _) fun r7 h8 =>
    aw_cs fun hs9 =>
    aw_astore (pc := 35) C (i := 4) (lv' := [(0, .ref 0), (1, .int v1), (2, .int v2), (3, .int r5), (4, .ref r7)]) dX10_markIn_35 (by decide) rfl <|
    aw_iconst (pc := 37) C (v := 0) dX10_markIn_37 rfl <|
    aw_sipush (pc := 38) C (v := 2400) dX10_markIn_38 rfl <|
    aw_aload (pc := 41) C (i := 4) dX10_markIn_41 rfl <|
    aw_aload_n (pc := 43) C (i := 0) dX10_markIn_43 rfl rfl <|
    aw_getR (pc := 44) C (b := 42) dX10_markIn_44 fl_X10_72 sC_0 rfl rC_0_1 <|
    aw_getI (pc := 47) C dX10_markIn_47 fl_X10_163 (mt_s (Or.inl rfl)) rfl <|
    aw_iload_n (pc := 50) C (i := 2) dX10_markIn_50 rfl rfl <|
    aw_callF (pc := 51) C (cr_V (rest := [.int 2400, .int 0]) (F := (X2_path r7 (h8.1 42 0) v2)) C (c_X2_path X.2.1 r7 hs9 (h8.1 42 0) v2) dX10_markIn_51 mf_X2_path ml_X10_232 im_X2_path se_X2_path hs9 rfl ⟨(Nat.le_of_ble_eq_true rfl), (Nat.le_of_ble_eq_true rfl)⟩ rfl rfl (Nat.le_of_ble_eq_true rfl)) rfl rfl rfl (Nat.zero_le _) (Nat.zero_le _) fun r10 h11 =>
    aw_aload (pc := 54) C (i := 4) dX10_markIn_54 rfl <|
    aw_getW (pc := 56) C (b := (36 + h11.2.2 r7 % 6)) dX10_markIn_56 fl_X10_173 hs9 rfl rfl <|
    aw_aload (pc := 59) C (i := 4) dX10_markIn_59 rfl <|
    aw_callF (pc := 61) C (kdA_aimOf C dX10_markIn_61 ml_X10_354 (h11.2.2 r7) r7 hs9  [.int r10, .int 2400, .int 0] ⟨⟨(Nat.le_of_ble_eq_true rfl), (Nat.le_of_ble_eq_true rfl)⟩, ⟨(Nat.le_of_ble_eq_true rfl), (Nat.le_of_ble_eq_true rfl)⟩, ⟨(Nat.le_of_ble_eq_true rfl), (Nat.le_of_ble_eq_true rfl)⟩, ⟨(Nat.le_of_ble_eq_true rfl), (Nat.le_of_ble_eq_true rfl)⟩, ⟨(Nat.le_of_ble_eq_true rfl), (Nat.le_of_ble_eq_true rfl)⟩, ⟨(Nat.le_of_ble_eq_true rfl), (Nat.le_of_ble_eq_true rfl)⟩⟩ (Nat.le_of_ble_eq_true rfl)) rfl rfl rfl (Nat.zero_le _) (Nat.zero_le _) fun r12 h13 =>
    aw_iadd (pc := 64) C dX10_markIn_64 <|
    aw_mmin (pc := 65) C dX10_markIn_65 ml_X10_291 w_mminS w_mI w_mminC ⟨(Nat.le_of_ble_eq_true rfl), (Nat.le_of_ble_eq_true rfl)⟩ (Nat.zero_le _) (Nat.zero_le _) <|
    aw_mmax (pc := 68) C dX10_markIn_68 ml_X10_286 w_mmaxS w_mI w_mmaxC ⟨(Nat.le_of_ble_eq_true rfl), (Nat.le_of_ble_eq_true rfl)⟩ (Nat.zero_le _) (Nat.zero_le _) <|
    aw_iret (pc := 71) C dX10_markIn_71 rfl rfl) (fun _ =>
    aw_aload_n (pc := 21) C (i := 0) dX10_markIn_21 rfl rfl <|
    aw_iload_n (pc := 22) C (i := 3) dX10_markIn_22 rfl rfl <|
    aw_callF (pc := 23) C (cr_V (rest := []) (F := (X10_refuse r5)) C (c_X10_refuse X.2.1 r5) dX10_markIn_23 mf_X10_refuse ml_X10_111 im_X10_refuse se_X10_refuse sC_0 rfl ⟨(Nat.le_of_ble_eq_true rfl), (Nat.le_of_ble_eq_true rfl)⟩ rfl rfl (Nat.le_of_ble_eq_true rfl)) rfl rfl rfl (Nat.zero_le _) (Nat.zero_le _) fun r14 h15 =>
    aw_iret (pc := 26) C dX10_markIn_26 rfl rfl)

abbrev rmX10_fouled : Room := { frames := 2, cells := 0, slots := 0, locals := 45 }
def X10_fouled_j106  (v1 : Int32) (v2 : Int32) (v4 : Int32) (v5 : Int32) (v6 : Int32) (K37 : Int32 → Int32 → Int32 → AH → Option (Int64 × AH)) (h : AH) : Option (Int64 × AH) :=
    vl (v6 + 1) fun x9 =>
    K37 v4 v5 x9 h
set_option maxRecDepth 100000 in
theorem aX10_fouled_j106 {X : MCx} {yd : Dyn} {A : Nat → Prop} (C : OK X cX10_fouled RX10 7 (some .long) rmX10_fouled A)  (v1 : Int32) (v2 : Int32) (v4 : Int32) (v5 : Int32) (v6 : Int32) (K37 : Int32 → Int32 → Int32 → AH → Option (Int64 × AH)) (hK37 : ∀ (w4 : Int32) (w5 : Int32) (w6 : Int32) (h : AH), AW X 7 ZC yd A 0 0 (QF X rmX10_fouled ZC yd rvL A) 37 [(0, .ref 0), (1, .int v1), (2, .int v2), (4, .int w4), (5, .int w5), (6, .int w6)] [] h (K37 w4 w5 w6 h)) (h : AH) : AW X 7 ZC yd A 0 0 (QF X rmX10_fouled ZC yd rvL A) 106 [(0, .ref 0), (1, .int v1), (2, .int v2), (4, .int v4), (5, .int v5), (6, .int v6)] [] h (X10_fouled_j106 v1 v2 v4 v5 v6 K37 h) := by
    exact aw_iincV (pc := 106) C (i := 6) (cst := 1) (fun x9 => [(0, .ref 0), (1, .int v1), (2, .int v2), (4, .int v4), (5, .int v5), (6, .int x9)]) dX10_fouled_106 rfl rfl (by decide) (fun _ => rfl) fun x9 =>
    aw_goto (pc := 109) C (tgt := 37) dX10_fouled_109 rfl <|
    (hK37 v4 v5 x9 h)
def X10_fouled_j103  (v1 : Int32) (v2 : Int32) (v5 : Int32) (v6 : Int32) (K37 : Int32 → Int32 → Int32 → AH → Option (Int64 × AH)) (s0 : Int32) (s1 : Int32) (h : AH) : Option (Int64 × AH) :=
    vl (s1 + s0) fun x11 =>
    X10_fouled_j106 v1 v2 x11 v5 v6 K37 h
set_option maxRecDepth 100000 in
theorem aX10_fouled_j103 {X : MCx} {yd : Dyn} {A : Nat → Prop} (C : OK X cX10_fouled RX10 7 (some .long) rmX10_fouled A)  (v1 : Int32) (v2 : Int32) (v5 : Int32) (v6 : Int32) (K37 : Int32 → Int32 → Int32 → AH → Option (Int64 × AH)) (hK37 : ∀ (w4 : Int32) (w5 : Int32) (w6 : Int32) (h : AH), AW X 7 ZC yd A 0 0 (QF X rmX10_fouled ZC yd rvL A) 37 [(0, .ref 0), (1, .int v1), (2, .int v2), (4, .int w4), (5, .int w5), (6, .int w6)] [] h (K37 w4 w5 w6 h)) (s0 : Int32) (s1 : Int32) (h : AH) : AW X 7 ZC yd A 0 0 (QF X rmX10_fouled ZC yd rvL A) 103 [(0, .ref 0), (1, .int v1), (2, .int v2), (5, .int v5), (6, .int v6)] [.int s0, .int s1] h (X10_fouled_j103 v1 v2 v5 v6 K37 s0 s1 h) := by
    exact aw_iadd (pc := 103) C dX10_fouled_103 <|
    aw_istoreV (pc := 104) C (i := 4) (fun x11 => [(0, .ref 0), (1, .int v1), (2, .int v2), (4, .int x11), (5, .int v5), (6, .int v6)]) dX10_fouled_104 (by decide) (fun _ => rfl) fun x11 =>
    (aX10_fouled_j106 C v1 v2 x11 v5 v6 K37 hK37 h)
def X10_fouled_l37  (v1 : Int32) (v2 : Int32) : Nat → Int32 → Int32 → Int32 → AH → Option (Int64 × AH)
  | 0, _, _, _, _ => none
  | n + 1, v4, v5, v6, h =>
    if (h.1 42 4) ≤ v6 then (bd (X10_fraction v4.toInt64 ((mx32 1 v5).toInt64) v2 h) fun r7 h8 =>
    some (r7, h8))
    else (ck v6 24 (if (h.1 44 v6.toNatClampNeg) = v1 then (ck v6 24 (if (h.1 46 v6.toNatClampNeg) = (-8) then (X10_fouled_j106 v1 v2 v4 v5 v6 (X10_fouled_l37 v1 v2 n) h)
    else (vl (v5 + 1) fun x10 =>
    ck v6 24 (if (h.1 46 v6.toNatClampNeg) = (-9) then (X10_fouled_j103 v1 v2 x10 v6 (X10_fouled_l37 v1 v2 n) 1 v4 h)
    else (X10_fouled_j103 v1 v2 x10 v6 (X10_fouled_l37 v1 v2 n) 0 v4 h)))))
    else (X10_fouled_j106 v1 v2 v4 v5 v6 (X10_fouled_l37 v1 v2 n) h)))
set_option maxRecDepth 100000 in
theorem aX10_fouled_l37 {X : MCx} {yd : Dyn} {A : Nat → Prop} (C : OK X cX10_fouled RX10 7 (some .long) rmX10_fouled A)  (v1 : Int32) (v2 : Int32) : ∀ (n : Nat) (v4 : Int32) (v5 : Int32) (v6 : Int32) (h : AH), AW X 7 ZC yd A 0 0 (QF X rmX10_fouled ZC yd rvL A) 37 [(0, .ref 0), (1, .int v1), (2, .int v2), (4, .int v4), (5, .int v5), (6, .int v6)] [] h (X10_fouled_l37 v1 v2 n v4 v5 v6 h) := by
  intro n
  induction n with
  | zero => intro v4 v5 v6 h; exact aw_none
  | succ n ih =>
    intro v4 v5 v6 h
    exact aw_iload (pc := 37) C (i := 6) dX10_fouled_37 rfl <|
    aw_aload_n (pc := 39) C (i := 0) dX10_fouled_39 rfl rfl <|
    aw_getR (pc := 40) C (b := 42) dX10_fouled_40 fl_X10_72 sC_0 rfl rC_0_1 <|
    aw_getI (pc := 43) C dX10_fouled_43 fl_X10_160 (mt_s (Or.inl rfl)) rfl <|
    aw_icmp_ge (pc := 46) C (tgt := 112) dX10_fouled_46 rfl (fun _ =>
    aw_iload (pc := 112) C (i := 4) dX10_fouled_112 rfl <|
    aw_i2l (pc := 114) C dX10_fouled_114 <|
    aw_iconst (pc := 115) C (v := 1) dX10_fouled_115 rfl <|
    aw_iload (pc := 116) C (i := 5) dX10_fouled_116 rfl <|
    aw_mmax (pc := 118) C dX10_fouled_118 ml_X10_286 w_mmaxS w_mI w_mmaxC ⟨(Nat.le_of_ble_eq_true rfl), (Nat.le_of_ble_eq_true rfl)⟩ (Nat.zero_le _) (Nat.zero_le _) <|
    aw_i2l (pc := 121) C dX10_fouled_121 <|
    aw_iload_n (pc := 122) C (i := 2) dX10_fouled_122 rfl rfl <|
    aw_callF (pc := 123) C (cr_S (rest := []) (F := (X10_fraction v4.toInt64 ((mx32 1 v5).toInt64) v2)) C (c_X10_fraction X.2.1 v4.toInt64 ((mx32 1 v5).toInt64) v2) dX10_fouled_123 mf_X10_fraction ml_X10_262 st_X10_fraction ⟨(Nat.le_of_ble_eq_true rfl), (Nat.le_of_ble_eq_true rfl)⟩ rfl rfl (Nat.le_of_ble_eq_true rfl)) rfl rfl rfl (Nat.zero_le _) (Nat.zero_le _) fun r7 h8 =>
    aw_lret (pc := 126) C dX10_fouled_126 rfl rfl) (fun _ =>
    aw_aload_n (pc := 49) C (i := 0) dX10_fouled_49 rfl rfl <|
    aw_getR (pc := 50) C (b := 42) dX10_fouled_50 fl_X10_72 sC_0 rfl rC_0_1 <|
    aw_getR (pc := 53) C (b := 44) dX10_fouled_53 fl_X10_297 (mt_s (Or.inl rfl)) rfl rC_42_6 <|
    aw_iload (pc := 56) C (i := 6) dX10_fouled_56 rfl <|
    aw_iald (pc := 58) C dX10_fouled_58 sC_44 rfl <|
    aw_iload_n (pc := 59) C (i := 1) dX10_fouled_59 rfl rfl <|
    aw_icmp_ne (pc := 60) C (tgt := 106) dX10_fouled_60 rfl (fun _ =>
    aw_aload_n (pc := 63) C (i := 0) dX10_fouled_63 rfl rfl <|
    aw_getR (pc := 64) C (b := 42) dX10_fouled_64 fl_X10_72 sC_0 rfl rC_0_1 <|
    aw_getR (pc := 67) C (b := 46) dX10_fouled_67 fl_X10_303 (mt_s (Or.inl rfl)) rfl rC_42_8 <|
    aw_iload (pc := 70) C (i := 6) dX10_fouled_70 rfl <|
    aw_iald (pc := 72) C dX10_fouled_72 sC_46 rfl <|
    aw_bipush (pc := 73) C (v := (-8)) dX10_fouled_73 rfl <|
    aw_icmp_eq (pc := 75) C (tgt := 106) dX10_fouled_75 rfl (fun _ =>
    (aX10_fouled_j106 C v1 v2 v4 v5 v6 (X10_fouled_l37 v1 v2 n) ih h)) (fun _ =>
    aw_iincV (pc := 78) C (i := 5) (cst := 1) (fun x10 => [(0, .ref 0), (1, .int v1), (2, .int v2), (4, .int v4), (5, .int x10), (6, .int v6)]) dX10_fouled_78 rfl rfl (by decide) (fun _ => rfl) fun x10 =>
    aw_iload (pc := 81) C (i := 4) dX10_fouled_81 rfl <|
    aw_aload_n (pc := 83) C (i := 0) dX10_fouled_83 rfl rfl <|
    aw_getR (pc := 84) C (b := 42) dX10_fouled_84 fl_X10_72 sC_0 rfl rC_0_1 <|
    aw_getR (pc := 87) C (b := 46) dX10_fouled_87 fl_X10_303 (mt_s (Or.inl rfl)) rfl rC_42_8 <|
    aw_iload (pc := 90) C (i := 6) dX10_fouled_90 rfl <|
    aw_iald (pc := 92) C dX10_fouled_92 sC_46 rfl <|
    aw_bipush (pc := 93) C (v := (-9)) dX10_fouled_93 rfl <|
    aw_icmp_ne (pc := 95) C (tgt := 102) dX10_fouled_95 rfl (fun _ =>
    aw_iconst (pc := 98) C (v := 1) dX10_fouled_98 rfl <|
    aw_goto (pc := 99) C (tgt := 103) dX10_fouled_99 rfl <|
    aw_drop [0, 1, 2, 4, 5] (aX10_fouled_j103 C v1 v2 x10 v6 (X10_fouled_l37 v1 v2 n) ih 1 v4 h)) (fun _ =>
    aw_iconst (pc := 102) C (v := 0) dX10_fouled_102 rfl <|
    aw_drop [0, 1, 2, 4, 5] (aX10_fouled_j103 C v1 v2 x10 v6 (X10_fouled_l37 v1 v2 n) ih 0 v4 h)))) (fun _ =>
    (aX10_fouled_j106 C v1 v2 v4 v5 v6 (X10_fouled_l37 v1 v2 n) ih h)))
def X10_fouled (v1 : Int32) (v2 : Int32) (h : AH) : Option (Int64 × AH) :=
    bd (X10_nobody v1 h) fun r1 h2 =>
    bd (X10_noPart v2 h2) fun r3 h4 =>
    bd (X10_first r1 r3 h4) fun r5 h6 =>
    if r5 = 0 then (X10_fouled_l37 v1 v2 FU 0 0 0 h6)
    else (bd (X10_refuse r5 h6) fun r12 h13 =>
    some ((4000000000000000000 - r12.toInt64), h13))
set_option maxRecDepth 100000 in
theorem c_X10_fouled (l : Launch) (v1 : Int32) (v2 : Int32) : MC l yX10_fouled cX10_fouled 7 (some .long) rmX10_fouled ZC [.ref 0, .int v1, .int v2] rvL (X10_fouled v1 v2) :=
  MC.of (own := RX10) (by decide +kernel) rfl (Nat.le_of_ble_eq_true rfl) fun X yd A h _ C =>
    aw_aload_n (pc := 0) C (i := 0) dX10_fouled_0 rfl rfl <|
    aw_iload_n (pc := 1) C (i := 1) dX10_fouled_1 rfl rfl <|
    aw_callF (pc := 2) C (cr_V (rest := []) (F := (X10_nobody v1)) C (c_X10_nobody X.2.1 v1) dX10_fouled_2 mf_X10_nobody ml_X10_93 im_X10_nobody se_X10_nobody sC_0 rfl ⟨(Nat.le_of_ble_eq_true rfl), (Nat.le_of_ble_eq_true rfl)⟩ rfl rfl (Nat.le_of_ble_eq_true rfl)) rfl rfl rfl (Nat.zero_le _) (Nat.zero_le _) fun r1 h2 =>
    aw_iload_n (pc := 5) C (i := 2) dX10_fouled_5 rfl rfl <|
    aw_callF (pc := 6) C (cr_S (rest := [.int r1]) (F := (X10_noPart v2)) C (c_X10_noPart X.2.1 v2) dX10_fouled_6 mf_X10_noPart ml_X10_246 st_X10_noPart ⟨(Nat.le_of_ble_eq_true rfl), (Nat.le_of_ble_eq_true rfl)⟩ rfl rfl (Nat.le_of_ble_eq_true rfl)) rfl rfl rfl (Nat.zero_le _) (Nat.zero_le _) fun r3 h4 =>
    aw_callF (pc := 9) C (cr_S (rest := []) (F := (X10_first r1 r3)) C (c_X10_first X.2.1 r1 r3) dX10_fouled_9 mf_X10_first ml_X10_97 st_X10_first ⟨(Nat.le_of_ble_eq_true rfl), (Nat.le_of_ble_eq_true rfl)⟩ rfl rfl (Nat.le_of_ble_eq_true rfl)) rfl rfl rfl (Nat.zero_le _) (Nat.zero_le _) fun r5 h6 =>
    aw_istore_n (pc := 12) C (i := 3) (lv' := [(0, .ref 0), (1, .int v1), (2, .int v2), (3, .int r5)]) dX10_fouled_12 rfl (by decide) rfl <|
    aw_iload_n (pc := 13) C (i := 3) dX10_fouled_13 rfl rfl <|
    aw_if_eq (pc := 14) C (tgt := 28) dX10_fouled_14 rfl (fun _ =>
    aw_iconst (pc := 28) C (v := 0) dX10_fouled_28 rfl <|
    aw_istore (pc := 29) C (i := 4) (lv' := [(0, .ref 0), (1, .int v1), (2, .int v2), (3, .int r5), (4, .int 0)]) dX10_fouled_29 (by decide) rfl <|
    aw_iconst (pc := 31) C (v := 0) dX10_fouled_31 rfl <|
    aw_istore (pc := 32) C (i := 5) (lv' := [(0, .ref 0), (1, .int v1), (2, .int v2), (3, .int r5), (4, .int 0), (5, .int 0)]) dX10_fouled_32 (by decide) rfl <|
    aw_iconst (pc := 34) C (v := 0) dX10_fouled_34 rfl <|
    aw_istore (pc := 35) C (i := 6) (lv' := [(0, .ref 0), (1, .int v1), (2, .int v2), (3, .int r5), (4, .int 0), (5, .int 0), (6, .int 0)]) dX10_fouled_35 (by decide) rfl <|
    aw_drop [0, 1, 2, 4, 5, 6] (aX10_fouled_l37 C v1 v2 FU 0 0 0 h6)) (fun _ =>
    aw_ldc2_w (pc := 17) C (v := 4000000000000000000) dX10_fouled_17 kc_X10_249 <|
    aw_aload_n (pc := 20) C (i := 0) dX10_fouled_20 rfl rfl <|
    aw_iload_n (pc := 21) C (i := 3) dX10_fouled_21 rfl rfl <|
    aw_callF (pc := 22) C (cr_V (rest := [.long 4000000000000000000]) (F := (X10_refuse r5)) C (c_X10_refuse X.2.1 r5) dX10_fouled_22 mf_X10_refuse ml_X10_111 im_X10_refuse se_X10_refuse sC_0 rfl ⟨(Nat.le_of_ble_eq_true rfl), (Nat.le_of_ble_eq_true rfl)⟩ rfl rfl (Nat.le_of_ble_eq_true rfl)) rfl rfl rfl (Nat.zero_le _) (Nat.zero_le _) fun r12 h13 =>
    aw_i2l (pc := 25) C dX10_fouled_25 <|
    aw_lsub (pc := 26) C dX10_fouled_26 <|
    aw_lret (pc := 27) C dX10_fouled_27 rfl rfl)

abbrev rmX10_better : Room := { frames := 1, cells := 0, slots := 0, locals := 21 }
def X10_better_j78  (v1 : Int32) (v3 : Int32) (v4 : Int32) (v5 : Int32) (K24 : Int32 → Int32 → Int32 → AH → Option (Int32 × AH)) (h : AH) : Option (Int32 × AH) :=
    vl (v5 + 1) fun x3 =>
    K24 v3 v4 x3 h
set_option maxRecDepth 100000 in
theorem aX10_better_j78 {X : MCx} {yd : Dyn} {A : Nat → Prop} (C : OK X cX10_better RX10 6 (some .int) rmX10_better A)  (v1 : Int32) (v3 : Int32) (v4 : Int32) (v5 : Int32) (K24 : Int32 → Int32 → Int32 → AH → Option (Int32 × AH)) (hK24 : ∀ (w3 : Int32) (w4 : Int32) (w5 : Int32) (h : AH), AW X 6 ZC yd A 0 0 (QF X rmX10_better ZC yd rvI A) 24 [(0, .ref 0), (1, .int v1), (3, .int w3), (4, .int w4), (5, .int w5)] [] h (K24 w3 w4 w5 h)) (h : AH) : AW X 6 ZC yd A 0 0 (QF X rmX10_better ZC yd rvI A) 78 [(0, .ref 0), (1, .int v1), (3, .int v3), (4, .int v4), (5, .int v5)] [] h (X10_better_j78 v1 v3 v4 v5 K24 h) := by
    exact aw_iincV (pc := 78) C (i := 5) (cst := 1) (fun x3 => [(0, .ref 0), (1, .int v1), (3, .int v3), (4, .int v4), (5, .int x3)]) dX10_better_78 rfl rfl (by decide) (fun _ => rfl) fun x3 =>
    aw_goto (pc := 81) C (tgt := 24) dX10_better_81 rfl <|
    (hK24 v3 v4 x3 h)
def X10_better_l24  (v1 : Int32) : Nat → Int32 → Int32 → Int32 → AH → Option (Int32 × AH)
  | 0, _, _, _, _ => none
  | n + 1, v3, v4, v5, h =>
    if (h.1 42 4) ≤ v5 then (some (v4, h))
    else (ck v5 24 (if (h.1 44 v5.toNatClampNeg) = v1 then (ck v5 24 (if (h.1 46 v5.toNatClampNeg) ≤ v3 then (X10_better_j78 v1 v3 v4 v5 (X10_better_l24 v1 n) h)
    else (ck v5 24 (vl (h.1 46 v5.toNatClampNeg) fun x4 =>
    vl (v4 + 1) fun x5 =>
    X10_better_j78 v1 x4 x5 v5 (X10_better_l24 v1 n) h))))
    else (X10_better_j78 v1 v3 v4 v5 (X10_better_l24 v1 n) h)))
set_option maxRecDepth 100000 in
theorem aX10_better_l24 {X : MCx} {yd : Dyn} {A : Nat → Prop} (C : OK X cX10_better RX10 6 (some .int) rmX10_better A)  (v1 : Int32) : ∀ (n : Nat) (v3 : Int32) (v4 : Int32) (v5 : Int32) (h : AH), AW X 6 ZC yd A 0 0 (QF X rmX10_better ZC yd rvI A) 24 [(0, .ref 0), (1, .int v1), (3, .int v3), (4, .int v4), (5, .int v5)] [] h (X10_better_l24 v1 n v3 v4 v5 h) := by
  intro n
  induction n with
  | zero => intro v3 v4 v5 h; exact aw_none
  | succ n ih =>
    intro v3 v4 v5 h
    exact aw_iload (pc := 24) C (i := 5) dX10_better_24 rfl <|
    aw_aload_n (pc := 26) C (i := 0) dX10_better_26 rfl rfl <|
    aw_getR (pc := 27) C (b := 42) dX10_better_27 fl_X10_72 sC_0 rfl rC_0_1 <|
    aw_getI (pc := 30) C dX10_better_30 fl_X10_160 (mt_s (Or.inl rfl)) rfl <|
    aw_icmp_ge (pc := 33) C (tgt := 84) dX10_better_33 rfl (fun _ =>
    aw_iload (pc := 84) C (i := 4) dX10_better_84 rfl <|
    aw_iret (pc := 86) C dX10_better_86 rfl rfl) (fun _ =>
    aw_aload_n (pc := 36) C (i := 0) dX10_better_36 rfl rfl <|
    aw_getR (pc := 37) C (b := 42) dX10_better_37 fl_X10_72 sC_0 rfl rC_0_1 <|
    aw_getR (pc := 40) C (b := 44) dX10_better_40 fl_X10_297 (mt_s (Or.inl rfl)) rfl rC_42_6 <|
    aw_iload (pc := 43) C (i := 5) dX10_better_43 rfl <|
    aw_iald (pc := 45) C dX10_better_45 sC_44 rfl <|
    aw_iload_n (pc := 46) C (i := 1) dX10_better_46 rfl rfl <|
    aw_icmp_ne (pc := 47) C (tgt := 78) dX10_better_47 rfl (fun _ =>
    aw_aload_n (pc := 50) C (i := 0) dX10_better_50 rfl rfl <|
    aw_getR (pc := 51) C (b := 42) dX10_better_51 fl_X10_72 sC_0 rfl rC_0_1 <|
    aw_getR (pc := 54) C (b := 46) dX10_better_54 fl_X10_303 (mt_s (Or.inl rfl)) rfl rC_42_8 <|
    aw_iload (pc := 57) C (i := 5) dX10_better_57 rfl <|
    aw_iald (pc := 59) C dX10_better_59 sC_46 rfl <|
    aw_iload_n (pc := 60) C (i := 3) dX10_better_60 rfl rfl <|
    aw_icmp_le (pc := 61) C (tgt := 78) dX10_better_61 rfl (fun _ =>
    (aX10_better_j78 C v1 v3 v4 v5 (X10_better_l24 v1 n) ih h)) (fun _ =>
    aw_aload_n (pc := 64) C (i := 0) dX10_better_64 rfl rfl <|
    aw_getR (pc := 65) C (b := 42) dX10_better_65 fl_X10_72 sC_0 rfl rC_0_1 <|
    aw_getR (pc := 68) C (b := 46) dX10_better_68 fl_X10_303 (mt_s (Or.inl rfl)) rfl rC_42_8 <|
    aw_iload (pc := 71) C (i := 5) dX10_better_71 rfl <|
    aw_iald (pc := 73) C dX10_better_73 sC_46 rfl <|
    aw_istoreV_n (pc := 74) C (i := 3) (fun x4 => [(0, .ref 0), (1, .int v1), (3, .int x4), (4, .int v4), (5, .int v5)]) dX10_better_74 rfl (by decide) (fun _ => rfl) fun x4 =>
    aw_iincV (pc := 75) C (i := 4) (cst := 1) (fun x5 => [(0, .ref 0), (1, .int v1), (3, .int x4), (4, .int x5), (5, .int v5)]) dX10_better_75 rfl rfl (by decide) (fun _ => rfl) fun x5 =>
    (aX10_better_j78 C v1 x4 x5 v5 (X10_better_l24 v1 n) ih h))) (fun _ =>
    (aX10_better_j78 C v1 v3 v4 v5 (X10_better_l24 v1 n) ih h)))
def X10_better (v1 : Int32) (h : AH) : Option (Int32 × AH) :=
    bd (X10_nobody v1 h) fun r1 h2 =>
    if r1 = 0 then (X10_better_l24 v1 FU 0 0 0 h2)
    else (bd (X10_refuse r1 h2) fun r6 h7 =>
    some (r6, h7))
set_option maxRecDepth 100000 in
theorem c_X10_better (l : Launch) (v1 : Int32) : MC l yX10_better cX10_better 6 (some .int) rmX10_better ZC [.ref 0, .int v1] rvI (X10_better v1) :=
  MC.of (own := RX10) (by decide +kernel) rfl (Nat.le_of_ble_eq_true rfl) fun X yd A h _ C =>
    aw_aload_n (pc := 0) C (i := 0) dX10_better_0 rfl rfl <|
    aw_iload_n (pc := 1) C (i := 1) dX10_better_1 rfl rfl <|
    aw_callF (pc := 2) C (cr_V (rest := []) (F := (X10_nobody v1)) C (c_X10_nobody X.2.1 v1) dX10_better_2 mf_X10_nobody ml_X10_93 im_X10_nobody se_X10_nobody sC_0 rfl ⟨(Nat.le_of_ble_eq_true rfl), (Nat.le_of_ble_eq_true rfl)⟩ rfl rfl (Nat.le_of_ble_eq_true rfl)) rfl rfl rfl (Nat.zero_le _) (Nat.zero_le _) fun r1 h2 =>
    aw_istore_n (pc := 5) C (i := 2) (lv' := [(0, .ref 0), (1, .int v1), (2, .int r1)]) dX10_better_5 rfl (by decide) rfl <|
    aw_iload_n (pc := 6) C (i := 2) dX10_better_6 rfl rfl <|
    aw_if_eq (pc := 7) C (tgt := 16) dX10_better_7 rfl (fun _ =>
    aw_iconst (pc := 16) C (v := 0) dX10_better_16 rfl <|
    aw_istore_n (pc := 17) C (i := 3) (lv' := [(0, .ref 0), (1, .int v1), (2, .int r1), (3, .int 0)]) dX10_better_17 rfl (by decide) rfl <|
    aw_iconst (pc := 18) C (v := 0) dX10_better_18 rfl <|
    aw_istore (pc := 19) C (i := 4) (lv' := [(0, .ref 0), (1, .int v1), (2, .int r1), (3, .int 0), (4, .int 0)]) dX10_better_19 (by decide) rfl <|
    aw_iconst (pc := 21) C (v := 0) dX10_better_21 rfl <|
    aw_istore (pc := 22) C (i := 5) (lv' := [(0, .ref 0), (1, .int v1), (2, .int r1), (3, .int 0), (4, .int 0), (5, .int 0)]) dX10_better_22 (by decide) rfl <|
    aw_drop [0, 1, 3, 4, 5] (aX10_better_l24 C v1 FU 0 0 0 h2)) (fun _ =>
    aw_aload_n (pc := 10) C (i := 0) dX10_better_10 rfl rfl <|
    aw_iload_n (pc := 11) C (i := 2) dX10_better_11 rfl rfl <|
    aw_callF (pc := 12) C (cr_V (rest := []) (F := (X10_refuse r1)) C (c_X10_refuse X.2.1 r1) dX10_better_12 mf_X10_refuse ml_X10_111 im_X10_refuse se_X10_refuse sC_0 rfl ⟨(Nat.le_of_ble_eq_true rfl), (Nat.le_of_ble_eq_true rfl)⟩ rfl rfl (Nat.le_of_ble_eq_true rfl)) rfl rfl rfl (Nat.zero_le _) (Nat.zero_le _) fun r6 h7 =>
    aw_iret (pc := 15) C dX10_better_15 rfl rfl)
