abbrev rmX11_more : Room := { frames := 4, cells := 0, slots := 0, locals := 103 }
def X11_more (v1 : Int32) (v2 : Int32) (h : AH) : Option (Int32 × AH) :=
    bd (X11_areTwo v1 v2 h) fun r1 h2 =>
    if r1 = 0 then (bd (X11_no (-1) h2) fun r3 h4 =>
    some (r3, h4))
    else (bd (X11_placeOf v1 h2) fun r5 h6 =>
    bd (X11_placeOf v2 h6) fun r7 h8 =>
    bd (X11_moreFrom v1 r5 v2 r7 h8) fun r9 h10 =>
    some (r9, h10))
set_option maxRecDepth 100000 in
theorem c_X11_more (l : Launch) (v1 : Int32) (v2 : Int32) : MC l yX11_more cX11_more 3 (some .int) rmX11_more ZR [.ref 0, .int v1, .int v2] rvI (X11_more v1 v2) :=
  MC.of (own := RX11) (by decide +kernel) rfl (Nat.le_of_ble_eq_true rfl) fun X yd A h _ C =>
    aw_aload_n (pc := 0) C (i := 0) dX11_more_0 rfl rfl <|
    aw_iload_n (pc := 1) C (i := 1) dX11_more_1 rfl rfl <|
    aw_iload_n (pc := 2) C (i := 2) dX11_more_2 rfl rfl <|
    aw_callF (pc := 3) C (cr_V (rest := []) (F := (X11_areTwo v1 v2)) C (c_X11_areTwo X.2.1 v1 v2) dX11_more_3 mf_X11_areTwo ml_X11_315 im_X11_areTwo se_X11_areTwo sR_0 rfl ⟨(Nat.le_of_ble_eq_true rfl), (Nat.le_of_ble_eq_true rfl)⟩ rfl rfl (Nat.le_of_ble_eq_true rfl)) rfl rfl rfl (Nat.zero_le _) (Nat.zero_le _) fun r1 h2 =>
    aw_if_eq (pc := 6) C (tgt := 28) dX11_more_6 rfl (fun _ =>
    aw_aload_n (pc := 28) C (i := 0) dX11_more_28 rfl rfl <|
    aw_iconst (pc := 29) C (v := (-1)) dX11_more_29 rfl <|
    aw_callF (pc := 30) C (cr_V (rest := []) (F := (X11_no (-1))) C (c_X11_no X.2.1 (-1)) dX11_more_30 mf_X11_no ml_X11_115 im_X11_no se_X11_no sR_0 rfl ⟨(Nat.le_of_ble_eq_true rfl), (Nat.le_of_ble_eq_true rfl)⟩ rfl rfl (Nat.le_of_ble_eq_true rfl)) rfl rfl rfl (Nat.zero_le _) (Nat.zero_le _) fun r3 h4 =>
    aw_iret (pc := 33) C dX11_more_33 rfl rfl) (fun _ =>
    aw_aload_n (pc := 9) C (i := 0) dX11_more_9 rfl rfl <|
    aw_iload_n (pc := 10) C (i := 1) dX11_more_10 rfl rfl <|
    aw_aload_n (pc := 11) C (i := 0) dX11_more_11 rfl rfl <|
    aw_iload_n (pc := 12) C (i := 1) dX11_more_12 rfl rfl <|
    aw_callF (pc := 13) C (cr_V (rest := [.int v1, .ref 0]) (F := (X11_placeOf v1)) C (c_X11_placeOf X.2.1 v1) dX11_more_13 mf_X11_placeOf ml_X11_223 im_X11_placeOf se_X11_placeOf sR_0 rfl ⟨(Nat.le_of_ble_eq_true rfl), (Nat.le_of_ble_eq_true rfl)⟩ rfl rfl (Nat.le_of_ble_eq_true rfl)) rfl rfl rfl (Nat.zero_le _) (Nat.zero_le _) fun r5 h6 =>
    aw_iload_n (pc := 16) C (i := 2) dX11_more_16 rfl rfl <|
    aw_aload_n (pc := 17) C (i := 0) dX11_more_17 rfl rfl <|
    aw_iload_n (pc := 18) C (i := 2) dX11_more_18 rfl rfl <|
    aw_callF (pc := 19) C (cr_V (rest := [.int v2, .int r5, .int v1, .ref 0]) (F := (X11_placeOf v2)) C (c_X11_placeOf X.2.1 v2) dX11_more_19 mf_X11_placeOf ml_X11_223 im_X11_placeOf se_X11_placeOf sR_0 rfl ⟨(Nat.le_of_ble_eq_true rfl), (Nat.le_of_ble_eq_true rfl)⟩ rfl rfl (Nat.le_of_ble_eq_true rfl)) rfl rfl rfl (Nat.zero_le _) (Nat.zero_le _) fun r7 h8 =>
    aw_callF (pc := 22) C (cr_V (rest := []) (F := (X11_moreFrom v1 r5 v2 r7)) C (c_X11_moreFrom X.2.1 v1 r5 v2 r7) dX11_more_22 mf_X11_moreFrom ml_X11_318 im_X11_moreFrom se_X11_moreFrom sR_0 rfl ⟨(Nat.le_of_ble_eq_true rfl), (Nat.le_of_ble_eq_true rfl)⟩ rfl rfl (Nat.le_of_ble_eq_true rfl)) rfl rfl rfl (Nat.zero_le _) (Nat.zero_le _) fun r9 h10 =>
    aw_goto (pc := 25) C (tgt := 33) dX11_more_25 rfl <|
    aw_iret (pc := 33) C dX11_more_33 rfl rfl)

abbrev rmX11_rests : Room := { frames := 0, cells := 0, slots := 0, locals := 0 }
def X11_rests_l2  (v1 : Int32) : Nat → Int32 → AH → Option (Int32 × AH)
  | 0, _, _ => none
  | n + 1, v2, h =>
    if 3 ≤ v2 then (cz 1 (some (1, h)))
    else (ck ((3 * v2) + (rm32 v1 3)) 9 (ck v1 9 (if (h.1 27 v1.toNatClampNeg) < (h.1 27 ((3 * v2) + (rm32 v1 3)).toNatClampNeg) then (cz 0 (some (0, h)))
    else (ck (((v1 / 3) * 3) + v2) 9 (ck v1 9 (if (h.1 27 v1.toNatClampNeg) ≤ (h.1 27 (((v1 / 3) * 3) + v2).toNatClampNeg) then (vl (v2 + 1) fun x1 =>
    (X11_rests_l2 v1 n) x1 h)
    else (cz 0 (some (0, h)))))))))
set_option maxRecDepth 100000 in
theorem aX11_rests_l2 {X : MCx} {yd : Dyn} {A : Nat → Prop} (C : OK X cX11_rests RX11 3 (some .boolean) rmX11_rests A)  (v1 : Int32) : ∀ (n : Nat) (v2 : Int32) (h : AH), AW X 3 ZR yd A 0 0 (QF X rmX11_rests ZR yd rvI A) 2 [(0, .ref 0), (1, .int v1), (2, .int v2)] [] h (X11_rests_l2 v1 n v2 h) := by
  intro n
  induction n with
  | zero => intro v2 h; exact aw_none
  | succ n ih =>
    intro v2 h
    exact aw_iload_n (pc := 2) C (i := 2) dX11_rests_2 rfl rfl <|
    aw_iconst (pc := 3) C (v := 3) dX11_rests_3 rfl <|
    aw_icmp_ge (pc := 4) C (tgt := 57) dX11_rests_4 rfl (fun _ =>
    aw_iconst (pc := 57) C (v := 1) dX11_rests_57 rfl <|
    aw_zret (pc := 58) C dX11_rests_58 rfl rfl) (fun _ =>
    aw_aload_n (pc := 7) C (i := 0) dX11_rests_7 rfl rfl <|
    aw_getR (pc := 8) C (b := 27) dX11_rests_8 fl_X11_89 sR_0 rfl rR_0_38 <|
    aw_iconst (pc := 11) C (v := 3) dX11_rests_11 rfl <|
    aw_iload_n (pc := 12) C (i := 2) dX11_rests_12 rfl rfl <|
    aw_imul (pc := 13) C dX11_rests_13 <|
    aw_iload_n (pc := 14) C (i := 1) dX11_rests_14 rfl rfl <|
    aw_iconst (pc := 15) C (v := 3) dX11_rests_15 rfl <|
    aw_iremK (pc := 16) C dX11_rests_16 (by decide) <|
    aw_iadd (pc := 17) C dX11_rests_17 <|
    aw_iald (pc := 18) C dX11_rests_18 sR_27 rfl <|
    aw_aload_n (pc := 19) C (i := 0) dX11_rests_19 rfl rfl <|
    aw_getR (pc := 20) C (b := 27) dX11_rests_20 fl_X11_89 sR_0 rfl rR_0_38 <|
    aw_iload_n (pc := 23) C (i := 1) dX11_rests_23 rfl rfl <|
    aw_iald (pc := 24) C dX11_rests_24 sR_27 rfl <|
    aw_icmp_gt (pc := 25) C (tgt := 49) dX11_rests_25 rfl (fun _ =>
    aw_iconst (pc := 49) C (v := 0) dX11_rests_49 rfl <|
    aw_zret (pc := 50) C dX11_rests_50 rfl rfl) (fun _ =>
    aw_aload_n (pc := 28) C (i := 0) dX11_rests_28 rfl rfl <|
    aw_getR (pc := 29) C (b := 27) dX11_rests_29 fl_X11_89 sR_0 rfl rR_0_38 <|
    aw_iload_n (pc := 32) C (i := 1) dX11_rests_32 rfl rfl <|
    aw_iconst (pc := 33) C (v := 3) dX11_rests_33 rfl <|
    aw_idivK (pc := 34) C dX11_rests_34 (by decide) <|
    aw_iconst (pc := 35) C (v := 3) dX11_rests_35 rfl <|
    aw_imul (pc := 36) C dX11_rests_36 <|
    aw_iload_n (pc := 37) C (i := 2) dX11_rests_37 rfl rfl <|
    aw_iadd (pc := 38) C dX11_rests_38 <|
    aw_iald (pc := 39) C dX11_rests_39 sR_27 rfl <|
    aw_aload_n (pc := 40) C (i := 0) dX11_rests_40 rfl rfl <|
    aw_getR (pc := 41) C (b := 27) dX11_rests_41 fl_X11_89 sR_0 rfl rR_0_38 <|
    aw_iload_n (pc := 44) C (i := 1) dX11_rests_44 rfl rfl <|
    aw_iald (pc := 45) C dX11_rests_45 sR_27 rfl <|
    aw_icmp_ge (pc := 46) C (tgt := 51) dX11_rests_46 rfl (fun _ =>
    aw_iincV (pc := 51) C (i := 2) (cst := 1) (fun x1 => [(0, .ref 0), (1, .int v1), (2, .int x1)]) dX11_rests_51 rfl rfl (by decide) (fun _ => rfl) fun x1 =>
    aw_goto (pc := 54) C (tgt := 2) dX11_rests_54 rfl <|
    (ih x1 h)) (fun _ =>
    aw_iconst (pc := 49) C (v := 0) dX11_rests_49 rfl <|
    aw_zret (pc := 50) C dX11_rests_50 rfl rfl)))
def X11_rests (v1 : Int32) (h : AH) : Option (Int32 × AH) :=
    X11_rests_l2 v1 FU 0 h
set_option maxRecDepth 100000 in
theorem c_X11_rests (l : Launch) (v1 : Int32) : MC l yX11_rests cX11_rests 3 (some .boolean) rmX11_rests ZR [.ref 0, .int v1] rvI (X11_rests v1) :=
  MC.of (own := RX11) (by decide +kernel) rfl (Nat.le_of_ble_eq_true rfl) fun X yd A h _ C =>
    aw_iconst (pc := 0) C (v := 0) dX11_rests_0 rfl <|
    aw_istore_n (pc := 1) C (i := 2) (lv' := [(0, .ref 0), (1, .int v1), (2, .int 0)]) dX11_rests_1 rfl (by decide) rfl <|
    (aX11_rests_l2 C v1 FU 0 h)

abbrev rmX11_sureMore : Room := { frames := 0, cells := 0, slots := 0, locals := 0 }
def X11_sureMore_j69  (v2 : Int32) (K4 : Int32 → Int32 → AH → Option (Int32 × AH)) (s0 : Int32) (h : AH) : Option (Int32 × AH) :=
    vl (v2 + 1) fun x1 =>
    K4 s0 x1 h
set_option maxRecDepth 100000 in
theorem aX11_sureMore_j69 {X : MCx} {yd : Dyn} {A : Nat → Prop} (C : OK X cX11_sureMore RX11 5 (some .int) rmX11_sureMore A)  (v2 : Int32) (K4 : Int32 → Int32 → AH → Option (Int32 × AH)) (hK4 : ∀ (w1 : Int32) (w2 : Int32) (h : AH), AW X 5 ZR yd A 0 0 (QF X rmX11_sureMore ZR yd rvI A) 4 [(0, .ref 0), (1, .int w1), (2, .int w2)] [] h (K4 w1 w2 h)) (s0 : Int32) (h : AH) : AW X 5 ZR yd A 0 0 (QF X rmX11_sureMore ZR yd rvI A) 69 [(0, .ref 0), (2, .int v2)] [.int s0] h (X11_sureMore_j69 v2 K4 s0 h) := by
    exact aw_istore_n (pc := 69) C (i := 1) (lv' := [(0, .ref 0), (1, .int s0), (2, .int v2)]) dX11_sureMore_69 rfl (by decide) rfl <|
    aw_iincV (pc := 70) C (i := 2) (cst := 1) (fun x1 => [(0, .ref 0), (1, .int s0), (2, .int x1)]) dX11_sureMore_70 rfl rfl (by decide) (fun _ => rfl) fun x1 =>
    aw_goto (pc := 73) C (tgt := 4) dX11_sureMore_73 rfl <|
    (hK4 s0 x1 h)
def X11_sureMore_j52  (v1 : Int32) (v2 : Int32) (v4 : Int32) (K4 : Int32 → Int32 → AH → Option (Int32 × AH)) (K16 : Int32 → Int32 → AH → Option (Int32 × AH)) (s0 : Int32) (h : AH) : Option (Int32 × AH) :=
    vl (v4 + 1) fun x2 =>
    K16 s0 x2 h
set_option maxRecDepth 100000 in
theorem aX11_sureMore_j52 {X : MCx} {yd : Dyn} {A : Nat → Prop} (C : OK X cX11_sureMore RX11 5 (some .int) rmX11_sureMore A)  (v1 : Int32) (v2 : Int32) (v4 : Int32) (K4 : Int32 → Int32 → AH → Option (Int32 × AH)) (hK4 : ∀ (w1 : Int32) (w2 : Int32) (h : AH), AW X 5 ZR yd A 0 0 (QF X rmX11_sureMore ZR yd rvI A) 4 [(0, .ref 0), (1, .int w1), (2, .int w2)] [] h (K4 w1 w2 h)) (K16 : Int32 → Int32 → AH → Option (Int32 × AH)) (hK16 : ∀ (w3 : Int32) (w4 : Int32) (h : AH), AW X 5 ZR yd A 0 0 (QF X rmX11_sureMore ZR yd rvI A) 16 [(0, .ref 0), (1, .int v1), (2, .int v2), (3, .int w3), (4, .int w4)] [] h (K16 w3 w4 h)) (s0 : Int32) (h : AH) : AW X 5 ZR yd A 0 0 (QF X rmX11_sureMore ZR yd rvI A) 52 [(0, .ref 0), (1, .int v1), (2, .int v2), (4, .int v4)] [.int s0] h (X11_sureMore_j52 v1 v2 v4 K4 K16 s0 h) := by
    exact aw_istore_n (pc := 52) C (i := 3) (lv' := [(0, .ref 0), (1, .int v1), (2, .int v2), (3, .int s0), (4, .int v4)]) dX11_sureMore_52 rfl (by decide) rfl <|
    aw_iincV (pc := 53) C (i := 4) (cst := 1) (fun x2 => [(0, .ref 0), (1, .int v1), (2, .int v2), (3, .int s0), (4, .int x2)]) dX11_sureMore_53 rfl rfl (by decide) (fun _ => rfl) fun x2 =>
    aw_goto (pc := 56) C (tgt := 16) dX11_sureMore_56 rfl <|
    (hK16 s0 x2 h)
def X11_sureMore_l16  (v1 : Int32) (v2 : Int32) (K4 : Int32 → Int32 → AH → Option (Int32 × AH)) : Nat → Int32 → Int32 → AH → Option (Int32 × AH)
  | 0, _, _, _ => none
  | n + 1, v3, v4, h =>
    if 3 ≤ v4 then (if v3 ≤ v1 then (X11_sureMore_j69 v2 K4 v1 h)
    else (X11_sureMore_j69 v2 K4 v3 h))
    else (ck ((3 * v2) + v4) 9 (if v3 ≤ (h.1 27 ((3 * v2) + v4).toNatClampNeg) then (X11_sureMore_j52 v1 v2 v4 K4 (X11_sureMore_l16 v1 v2 K4 n) v3 h)
    else (ck ((3 * v2) + v4) 9 (X11_sureMore_j52 v1 v2 v4 K4 (X11_sureMore_l16 v1 v2 K4 n) (h.1 27 ((3 * v2) + v4).toNatClampNeg) h))))
set_option maxRecDepth 100000 in
theorem aX11_sureMore_l16 {X : MCx} {yd : Dyn} {A : Nat → Prop} (C : OK X cX11_sureMore RX11 5 (some .int) rmX11_sureMore A)  (v1 : Int32) (v2 : Int32) (K4 : Int32 → Int32 → AH → Option (Int32 × AH)) (hK4 : ∀ (w1 : Int32) (w2 : Int32) (h : AH), AW X 5 ZR yd A 0 0 (QF X rmX11_sureMore ZR yd rvI A) 4 [(0, .ref 0), (1, .int w1), (2, .int w2)] [] h (K4 w1 w2 h)) : ∀ (n : Nat) (v3 : Int32) (v4 : Int32) (h : AH), AW X 5 ZR yd A 0 0 (QF X rmX11_sureMore ZR yd rvI A) 16 [(0, .ref 0), (1, .int v1), (2, .int v2), (3, .int v3), (4, .int v4)] [] h (X11_sureMore_l16 v1 v2 K4 n v3 v4 h) := by
  intro n
  induction n with
  | zero => intro v3 v4 h; exact aw_none
  | succ n ih =>
    intro v3 v4 h
    exact aw_iload (pc := 16) C (i := 4) dX11_sureMore_16 rfl <|
    aw_iconst (pc := 18) C (v := 3) dX11_sureMore_18 rfl <|
    aw_icmp_ge (pc := 19) C (tgt := 59) dX11_sureMore_19 rfl (fun _ =>
    aw_iload_n (pc := 59) C (i := 3) dX11_sureMore_59 rfl rfl <|
    aw_iload_n (pc := 60) C (i := 1) dX11_sureMore_60 rfl rfl <|
    aw_icmp_le (pc := 61) C (tgt := 68) dX11_sureMore_61 rfl (fun _ =>
    aw_iload_n (pc := 68) C (i := 1) dX11_sureMore_68 rfl rfl <|
    aw_drop [0, 2] (aX11_sureMore_j69 C v2 K4 hK4 v1 h)) (fun _ =>
    aw_iload_n (pc := 64) C (i := 3) dX11_sureMore_64 rfl rfl <|
    aw_goto (pc := 65) C (tgt := 69) dX11_sureMore_65 rfl <|
    aw_drop [0, 2] (aX11_sureMore_j69 C v2 K4 hK4 v3 h))) (fun _ =>
    aw_aload_n (pc := 22) C (i := 0) dX11_sureMore_22 rfl rfl <|
    aw_getR (pc := 23) C (b := 27) dX11_sureMore_23 fl_X11_89 sR_0 rfl rR_0_38 <|
    aw_iconst (pc := 26) C (v := 3) dX11_sureMore_26 rfl <|
    aw_iload_n (pc := 27) C (i := 2) dX11_sureMore_27 rfl rfl <|
    aw_imul (pc := 28) C dX11_sureMore_28 <|
    aw_iload (pc := 29) C (i := 4) dX11_sureMore_29 rfl <|
    aw_iadd (pc := 31) C dX11_sureMore_31 <|
    aw_iald (pc := 32) C dX11_sureMore_32 sR_27 rfl <|
    aw_iload_n (pc := 33) C (i := 3) dX11_sureMore_33 rfl rfl <|
    aw_icmp_ge (pc := 34) C (tgt := 51) dX11_sureMore_34 rfl (fun _ =>
    aw_iload_n (pc := 51) C (i := 3) dX11_sureMore_51 rfl rfl <|
    aw_drop [0, 1, 2, 4] (aX11_sureMore_j52 C v1 v2 v4 K4 hK4 (X11_sureMore_l16 v1 v2 K4 n) ih v3 h)) (fun _ =>
    aw_aload_n (pc := 37) C (i := 0) dX11_sureMore_37 rfl rfl <|
    aw_getR (pc := 38) C (b := 27) dX11_sureMore_38 fl_X11_89 sR_0 rfl rR_0_38 <|
    aw_iconst (pc := 41) C (v := 3) dX11_sureMore_41 rfl <|
    aw_iload_n (pc := 42) C (i := 2) dX11_sureMore_42 rfl rfl <|
    aw_imul (pc := 43) C dX11_sureMore_43 <|
    aw_iload (pc := 44) C (i := 4) dX11_sureMore_44 rfl <|
    aw_iadd (pc := 46) C dX11_sureMore_46 <|
    aw_iald (pc := 47) C dX11_sureMore_47 sR_27 rfl <|
    aw_goto (pc := 48) C (tgt := 52) dX11_sureMore_48 rfl <|
    aw_drop [0, 1, 2, 4] (aX11_sureMore_j52 C v1 v2 v4 K4 hK4 (X11_sureMore_l16 v1 v2 K4 n) ih (h.1 27 ((3 * v2) + v4).toNatClampNeg) h)))
def X11_sureMore_l4  : Nat → Int32 → Int32 → AH → Option (Int32 × AH)
  | 0, _, _, _ => none
  | n + 1, v1, v2, h =>
    if 3 ≤ v2 then (some (v1, h))
    else (X11_sureMore_l16 v1 v2 (X11_sureMore_l4 n) FU 10000 0 h)
set_option maxRecDepth 100000 in
theorem aX11_sureMore_l4 {X : MCx} {yd : Dyn} {A : Nat → Prop} (C : OK X cX11_sureMore RX11 5 (some .int) rmX11_sureMore A)  : ∀ (n : Nat) (v1 : Int32) (v2 : Int32) (h : AH), AW X 5 ZR yd A 0 0 (QF X rmX11_sureMore ZR yd rvI A) 4 [(0, .ref 0), (1, .int v1), (2, .int v2)] [] h (X11_sureMore_l4 n v1 v2 h) := by
  intro n
  induction n with
  | zero => intro v1 v2 h; exact aw_none
  | succ n ih =>
    intro v1 v2 h
    exact aw_iload_n (pc := 4) C (i := 2) dX11_sureMore_4 rfl rfl <|
    aw_iconst (pc := 5) C (v := 3) dX11_sureMore_5 rfl <|
    aw_icmp_ge (pc := 6) C (tgt := 76) dX11_sureMore_6 rfl (fun _ =>
    aw_iload_n (pc := 76) C (i := 1) dX11_sureMore_76 rfl rfl <|
    aw_iret (pc := 77) C dX11_sureMore_77 rfl rfl) (fun _ =>
    aw_sipush (pc := 9) C (v := 10000) dX11_sureMore_9 rfl <|
    aw_istore_n (pc := 12) C (i := 3) (lv' := [(0, .ref 0), (1, .int v1), (2, .int v2), (3, .int 10000)]) dX11_sureMore_12 rfl (by decide) rfl <|
    aw_iconst (pc := 13) C (v := 0) dX11_sureMore_13 rfl <|
    aw_istore (pc := 14) C (i := 4) (lv' := [(0, .ref 0), (1, .int v1), (2, .int v2), (3, .int 10000), (4, .int 0)]) dX11_sureMore_14 (by decide) rfl <|
    (aX11_sureMore_l16 C v1 v2 (X11_sureMore_l4 n) ih FU 10000 0 h))
def X11_sureMore  (h : AH) : Option (Int32 × AH) :=
    X11_sureMore_l4 FU 0 0 h
set_option maxRecDepth 100000 in
theorem c_X11_sureMore (l : Launch)  : MC l yX11_sureMore cX11_sureMore 5 (some .int) rmX11_sureMore ZR [.ref 0] rvI (X11_sureMore) :=
  MC.of (own := RX11) (by decide +kernel) rfl (Nat.le_of_ble_eq_true rfl) fun X yd A h _ C =>
    aw_iconst (pc := 0) C (v := 0) dX11_sureMore_0 rfl <|
    aw_istore_n (pc := 1) C (i := 1) (lv' := [(0, .ref 0), (1, .int 0)]) dX11_sureMore_1 rfl (by decide) rfl <|
    aw_iconst (pc := 2) C (v := 0) dX11_sureMore_2 rfl <|
    aw_istore_n (pc := 3) C (i := 2) (lv' := [(0, .ref 0), (1, .int 0), (2, .int 0)]) dX11_sureMore_3 rfl (by decide) rfl <|
    (aX11_sureMore_l4 C FU 0 0 h)

abbrev rmX11_duel : Room := { frames := 4, cells := 0, slots := 0, locals := 103 }
def X11_duel_l98  (v3 : Int32) : Nat → Int32 → AH → Option (Int32 × AH)
  | 0, _, _ => none
  | n + 1, v5, h =>
    if 9 ≤ v5 then (some ((-9), h))
    else (bd (X11_rests v5 h) fun r5 h6 =>
    if r5 = 0 then (vl (v5 + 1) fun x7 =>
    (X11_duel_l98 v3 n) x7 h6)
    else (if v3 = 0 then (some (((10 * (v5 / 3)) + (rm32 v5 3)), h6))
    else (ck v5 9 (some ((h6.1 27 v5.toNatClampNeg), h6)))))
set_option maxRecDepth 100000 in
theorem aX11_duel_l98 {X : MCx} {yd : Dyn} {A : Nat → Prop} (C : OK X cX11_duel RX11 6 (some .int) rmX11_duel A)  (v3 : Int32) : ∀ (n : Nat) (v5 : Int32) (h : AH), AW X 6 ZR yd A 0 0 (QF X rmX11_duel ZR yd rvI A) 98 [(0, .ref 0), (3, .int v3), (5, .int v5)] [] h (X11_duel_l98 v3 n v5 h) := by
  intro n
  induction n with
  | zero => intro v5 h; exact aw_none
  | succ n ih =>
    intro v5 h
    exact aw_iload (pc := 98) C (i := 5) dX11_duel_98 rfl <|
    aw_bipush (pc := 100) C (v := 9) dX11_duel_100 rfl <|
    aw_icmp_ge (pc := 102) C (tgt := 147) dX11_duel_102 rfl (fun _ =>
    aw_bipush (pc := 147) C (v := (-9)) dX11_duel_147 rfl <|
    aw_iret (pc := 149) C dX11_duel_149 rfl rfl) (fun _ =>
    aw_aload_n (pc := 105) C (i := 0) dX11_duel_105 rfl rfl <|
    aw_iload (pc := 106) C (i := 5) dX11_duel_106 rfl <|
    aw_callF (pc := 108) C (cr_V (rest := []) (F := (X11_rests v5)) C (c_X11_rests X.2.1 v5) dX11_duel_108 mf_X11_rests ml_X11_324 im_X11_rests se_X11_rests sR_0 rfl ⟨(Nat.le_of_ble_eq_true rfl), (Nat.le_of_ble_eq_true rfl)⟩ rfl rfl (Nat.le_of_ble_eq_true rfl)) rfl rfl rfl (Nat.zero_le _) (Nat.zero_le _) fun r5 h6 =>
    aw_if_eq (pc := 111) C (tgt := 141) dX11_duel_111 rfl (fun _ =>
    aw_iincV (pc := 141) C (i := 5) (cst := 1) (fun x7 => [(0, .ref 0), (3, .int v3), (5, .int x7)]) dX11_duel_141 rfl rfl (by decide) (fun _ => rfl) fun x7 =>
    aw_goto (pc := 144) C (tgt := 98) dX11_duel_144 rfl <|
    (ih x7 h6)) (fun _ =>
    aw_iload_n (pc := 114) C (i := 3) dX11_duel_114 rfl rfl <|
    aw_if_ne (pc := 115) C (tgt := 133) dX11_duel_115 rfl (fun _ =>
    aw_bipush (pc := 118) C (v := 10) dX11_duel_118 rfl <|
    aw_iload (pc := 120) C (i := 5) dX11_duel_120 rfl <|
    aw_iconst (pc := 122) C (v := 3) dX11_duel_122 rfl <|
    aw_idivK (pc := 123) C dX11_duel_123 (by decide) <|
    aw_imul (pc := 124) C dX11_duel_124 <|
    aw_iload (pc := 125) C (i := 5) dX11_duel_125 rfl <|
    aw_iconst (pc := 127) C (v := 3) dX11_duel_127 rfl <|
    aw_iremK (pc := 128) C dX11_duel_128 (by decide) <|
    aw_iadd (pc := 129) C dX11_duel_129 <|
    aw_goto (pc := 130) C (tgt := 140) dX11_duel_130 rfl <|
    aw_iret (pc := 140) C dX11_duel_140 rfl rfl) (fun _ =>
    aw_aload_n (pc := 133) C (i := 0) dX11_duel_133 rfl rfl <|
    aw_getR (pc := 134) C (b := 27) dX11_duel_134 fl_X11_89 sR_0 rfl rR_0_38 <|
    aw_iload (pc := 137) C (i := 5) dX11_duel_137 rfl <|
    aw_iald (pc := 139) C dX11_duel_139 sR_27 rfl <|
    aw_iret (pc := 140) C dX11_duel_140 rfl rfl)))
def X11_duel_l45  (v1 : Int32) (v2 : Int32) (v3 : Int32) : Nat → Int32 → AH → Option (Int32 × AH)
  | 0, _, _ => none
  | n + 1, v5, h =>
    if 9 ≤ v5 then (if v3 = 2 then (bd (X11_sureMore h) fun r8 h9 =>
    some (r8, h9))
    else (X11_duel_l98 v3 FU 0 h))
    else (bd (X11_moreFrom v1 (6 * (v5 / 3)) v2 (6 * (rm32 v5 3)) h) fun r10 h11 =>
    ck v5 9 (vl (sI h11 27 v5.toNatClampNeg r10) fun h12 =>
    vl (v5 + 1) fun x13 =>
    (X11_duel_l45 v1 v2 v3 n) x13 h12))
set_option maxRecDepth 100000 in
theorem aX11_duel_l45 {X : MCx} {yd : Dyn} {A : Nat → Prop} (C : OK X cX11_duel RX11 6 (some .int) rmX11_duel A)  (v1 : Int32) (v2 : Int32) (v3 : Int32) : ∀ (n : Nat) (v5 : Int32) (h : AH), AW X 6 ZR yd A 0 0 (QF X rmX11_duel ZR yd rvI A) 45 [(0, .ref 0), (1, .int v1), (2, .int v2), (3, .int v3), (5, .int v5)] [] h (X11_duel_l45 v1 v2 v3 n v5 h) := by
  intro n
  induction n with
  | zero => intro v5 h; exact aw_none
  | succ n ih =>
    intro v5 h
    exact aw_iload (pc := 45) C (i := 5) dX11_duel_45 rfl <|
    aw_bipush (pc := 47) C (v := 9) dX11_duel_47 rfl <|
    aw_icmp_ge (pc := 49) C (tgt := 85) dX11_duel_49 rfl (fun _ =>
    aw_iload_n (pc := 85) C (i := 3) dX11_duel_85 rfl rfl <|
    aw_iconst (pc := 86) C (v := 2) dX11_duel_86 rfl <|
    aw_icmp_ne (pc := 87) C (tgt := 95) dX11_duel_87 rfl (fun _ =>
    aw_aload_n (pc := 90) C (i := 0) dX11_duel_90 rfl rfl <|
    aw_callF (pc := 91) C (cr_V (rest := []) (F := X11_sureMore) C (c_X11_sureMore X.2.1 ) dX11_duel_91 mf_X11_sureMore ml_X11_321 im_X11_sureMore se_X11_sureMore sR_0 rfl ⟨(Nat.le_of_ble_eq_true rfl), (Nat.le_of_ble_eq_true rfl)⟩ rfl rfl (Nat.le_of_ble_eq_true rfl)) rfl rfl rfl (Nat.zero_le _) (Nat.zero_le _) fun r8 h9 =>
    aw_iret (pc := 94) C dX11_duel_94 rfl rfl) (fun _ =>
    aw_iconst (pc := 95) C (v := 0) dX11_duel_95 rfl <|
    aw_istore (pc := 96) C (i := 5) (lv' := [(0, .ref 0), (1, .int v1), (2, .int v2), (3, .int v3), (5, .int 0)]) dX11_duel_96 (by decide) rfl <|
    aw_drop [0, 3, 4] (aX11_duel_l98 C v3 FU 0 h))) (fun _ =>
    aw_aload_n (pc := 52) C (i := 0) dX11_duel_52 rfl rfl <|
    aw_getR (pc := 53) C (b := 27) dX11_duel_53 fl_X11_89 sR_0 rfl rR_0_38 <|
    aw_iload (pc := 56) C (i := 5) dX11_duel_56 rfl <|
    aw_aload_n (pc := 58) C (i := 0) dX11_duel_58 rfl rfl <|
    aw_iload_n (pc := 59) C (i := 1) dX11_duel_59 rfl rfl <|
    aw_bipush (pc := 60) C (v := 6) dX11_duel_60 rfl <|
    aw_iload (pc := 62) C (i := 5) dX11_duel_62 rfl <|
    aw_iconst (pc := 64) C (v := 3) dX11_duel_64 rfl <|
    aw_idivK (pc := 65) C dX11_duel_65 (by decide) <|
    aw_imul (pc := 66) C dX11_duel_66 <|
    aw_iload_n (pc := 67) C (i := 2) dX11_duel_67 rfl rfl <|
    aw_bipush (pc := 68) C (v := 6) dX11_duel_68 rfl <|
    aw_iload (pc := 70) C (i := 5) dX11_duel_70 rfl <|
    aw_iconst (pc := 72) C (v := 3) dX11_duel_72 rfl <|
    aw_iremK (pc := 73) C dX11_duel_73 (by decide) <|
    aw_imul (pc := 74) C dX11_duel_74 <|
    aw_callF (pc := 75) C (cr_V (rest := [.int v5, .ref 27]) (F := (X11_moreFrom v1 (6 * (v5 / 3)) v2 (6 * (rm32 v5 3)))) C (c_X11_moreFrom X.2.1 v1 (6 * (v5 / 3)) v2 (6 * (rm32 v5 3))) dX11_duel_75 mf_X11_moreFrom ml_X11_318 im_X11_moreFrom se_X11_moreFrom sR_0 rfl ⟨(Nat.le_of_ble_eq_true rfl), (Nat.le_of_ble_eq_true rfl)⟩ rfl rfl (Nat.le_of_ble_eq_true rfl)) rfl rfl rfl (Nat.zero_le _) (Nat.zero_le _) fun r10 h11 =>
    aw_iast (pc := 78) C dX11_duel_78 sR_27 rfl fun h12 =>
    aw_iincV (pc := 79) C (i := 5) (cst := 1) (fun x13 => [(0, .ref 0), (1, .int v1), (2, .int v2), (3, .int v3), (5, .int x13)]) dX11_duel_79 rfl rfl (by decide) (fun _ => rfl) fun x13 =>
    aw_goto (pc := 82) C (tgt := 45) dX11_duel_82 rfl <|
    (ih x13 h12))
def X11_duel_j28  (v1 : Int32) (v2 : Int32) (v3 : Int32) (s0 : Int32) (h : AH) : Option (Int32 × AH) :=
    if s0 = 0 then (X11_duel_l45 v1 v2 v3 FU 0 h)
    else (bd (X11_no s0 h) fun r14 h15 =>
    some (r14, h15))
set_option maxRecDepth 100000 in
theorem aX11_duel_j28 {X : MCx} {yd : Dyn} {A : Nat → Prop} (C : OK X cX11_duel RX11 6 (some .int) rmX11_duel A)  (v1 : Int32) (v2 : Int32) (v3 : Int32) (s0 : Int32) (h : AH) : AW X 6 ZR yd A 0 0 (QF X rmX11_duel ZR yd rvI A) 28 [(0, .ref 0), (1, .int v1), (2, .int v2), (3, .int v3)] [.int s0] h (X11_duel_j28 v1 v2 v3 s0 h) := by
    exact aw_istore (pc := 28) C (i := 4) (lv' := [(0, .ref 0), (1, .int v1), (2, .int v2), (3, .int v3), (4, .int s0)]) dX11_duel_28 (by decide) rfl <|
    aw_iload (pc := 30) C (i := 4) dX11_duel_30 rfl <|
    aw_if_eq (pc := 32) C (tgt := 42) dX11_duel_32 rfl (fun _ =>
    aw_iconst (pc := 42) C (v := 0) dX11_duel_42 rfl <|
    aw_istore (pc := 43) C (i := 5) (lv' := [(0, .ref 0), (1, .int v1), (2, .int v2), (3, .int v3), (4, .int s0), (5, .int 0)]) dX11_duel_43 (by decide) rfl <|
    aw_drop [0, 1, 2, 3, 5] (aX11_duel_l45 C v1 v2 v3 FU 0 h)) (fun _ =>
    aw_aload_n (pc := 35) C (i := 0) dX11_duel_35 rfl rfl <|
    aw_iload (pc := 36) C (i := 4) dX11_duel_36 rfl <|
    aw_callF (pc := 38) C (cr_V (rest := []) (F := (X11_no s0)) C (c_X11_no X.2.1 s0) dX11_duel_38 mf_X11_no ml_X11_115 im_X11_no se_X11_no sR_0 rfl ⟨(Nat.le_of_ble_eq_true rfl), (Nat.le_of_ble_eq_true rfl)⟩ rfl rfl (Nat.le_of_ble_eq_true rfl)) rfl rfl rfl (Nat.zero_le _) (Nat.zero_le _) fun r14 h15 =>
    aw_iret (pc := 41) C dX11_duel_41 rfl rfl)
def X11_duel (v1 : Int32) (v2 : Int32) (v3 : Int32) (h : AH) : Option (Int32 × AH) :=
    bd (X11_areTwo v1 v2 h) fun r1 h2 =>
    if r1 = 0 then (X11_duel_j28 v1 v2 v3 (-1) h2)
    else (bd (X11_isIn v3 0 2 h2) fun r3 h4 =>
    if r3 = 0 then (X11_duel_j28 v1 v2 v3 (-2) h4)
    else (X11_duel_j28 v1 v2 v3 0 h4))
set_option maxRecDepth 100000 in
theorem c_X11_duel (l : Launch) (v1 : Int32) (v2 : Int32) (v3 : Int32) : MC l yX11_duel cX11_duel 6 (some .int) rmX11_duel ZR [.ref 0, .int v1, .int v2, .int v3] rvI (X11_duel v1 v2 v3) :=
  MC.of (own := RX11) (by decide +kernel) rfl (Nat.le_of_ble_eq_true rfl) fun X yd A h _ C =>
    aw_aload_n (pc := 0) C (i := 0) dX11_duel_0 rfl rfl <|
    aw_iload_n (pc := 1) C (i := 1) dX11_duel_1 rfl rfl <|
    aw_iload_n (pc := 2) C (i := 2) dX11_duel_2 rfl rfl <|
    aw_callF (pc := 3) C (cr_V (rest := []) (F := (X11_areTwo v1 v2)) C (c_X11_areTwo X.2.1 v1 v2) dX11_duel_3 mf_X11_areTwo ml_X11_315 im_X11_areTwo se_X11_areTwo sR_0 rfl ⟨(Nat.le_of_ble_eq_true rfl), (Nat.le_of_ble_eq_true rfl)⟩ rfl rfl (Nat.le_of_ble_eq_true rfl)) rfl rfl rfl (Nat.zero_le _) (Nat.zero_le _) fun r1 h2 =>
    aw_if_ne (pc := 6) C (tgt := 13) dX11_duel_6 rfl (fun _ =>
    aw_iconst (pc := 9) C (v := (-1)) dX11_duel_9 rfl <|
    aw_goto (pc := 10) C (tgt := 28) dX11_duel_10 rfl <|
    (aX11_duel_j28 C v1 v2 v3 (-1) h2)) (fun _ =>
    aw_iload_n (pc := 13) C (i := 3) dX11_duel_13 rfl rfl <|
    aw_iconst (pc := 14) C (v := 0) dX11_duel_14 rfl <|
    aw_iconst (pc := 15) C (v := 2) dX11_duel_15 rfl <|
    aw_callF (pc := 16) C (cr_S (rest := []) (F := (X11_isIn v3 0 2)) C (c_X11_isIn X.2.1 v3 0 2) dX11_duel_16 mf_X11_isIn ml_X11_126 st_X11_isIn ⟨(Nat.le_of_ble_eq_true rfl), (Nat.le_of_ble_eq_true rfl)⟩ rfl rfl (Nat.le_of_ble_eq_true rfl)) rfl rfl rfl (Nat.zero_le _) (Nat.zero_le _) fun r3 h4 =>
    aw_if_ne (pc := 19) C (tgt := 27) dX11_duel_19 rfl (fun _ =>
    aw_bipush (pc := 22) C (v := (-2)) dX11_duel_22 rfl <|
    aw_goto (pc := 24) C (tgt := 28) dX11_duel_24 rfl <|
    (aX11_duel_j28 C v1 v2 v3 (-2) h4)) (fun _ =>
    aw_iconst (pc := 27) C (v := 0) dX11_duel_27 rfl <|
    (aX11_duel_j28 C v1 v2 v3 0 h4)))

abbrev rmX11_canPractise : Room := { frames := 0, cells := 0, slots := 0, locals := 0 }
def X11_canPractise (v1 : Int32) (v2 : Int32) (h : AH) : Option (Int32 × AH) :=
    vl v2 fun y1 =>
    if y1 = 0 then (ck v1 4 (if (h.1 6 v1.toNatClampNeg) ≤ 0 then (cz 0 (some (0, h)))
    else (cz 1 (some (1, h)))))
    else if y1 = 1 then (ck v1 4 (if (h.1 5 v1.toNatClampNeg) ≤ 0 then (cz 0 (some (0, h)))
    else (cz 1 (some (1, h)))))
    else if y1 = 2 then (ck v1 4 (if 99 ≤ (h.1 7 v1.toNatClampNeg) then (cz 0 (some (0, h)))
    else (cz 1 (some (1, h)))))
    else if y1 = 3 then (ck v1 4 (if 4 ≤ (h.1 8 v1.toNatClampNeg) then (cz 0 (some (0, h)))
    else (cz 1 (some (1, h)))))
    else (ck v1 4 (if (h.1 8 v1.toNatClampNeg) ≤ 0 then (cz 0 (some (0, h)))
    else (cz 1 (some (1, h)))))
set_option maxRecDepth 100000 in
theorem c_X11_canPractise (l : Launch) (v1 : Int32) (v2 : Int32) : MC l yX11_canPractise cX11_canPractise 3 (some .boolean) rmX11_canPractise ZR [.ref 0, .int v1, .int v2] rvI (X11_canPractise v1 v2) :=
  MC.of (own := RX11) (by decide +kernel) rfl (Nat.le_of_ble_eq_true rfl) fun X yd A h _ C =>
    aw_iload_n (pc := 0) C (i := 2) dX11_canPractise_0 rfl rfl <|
    aw_vlI fun y1 =>
    aw_if (fun c2 => aw_tswA (pc := 1) C (off := 31) (tg := 32) 0 dX11_canPractise_1 (by rw [c2]; rfl) (by decide) (by decide) rfl rfl (aw_aload_n (pc := 32) C (i := 0) dX11_canPractise_32 rfl rfl <|
    aw_getR (pc := 33) C (b := 6) dX11_canPractise_33 fl_X11_25 sR_0 rfl rR_0_5 <|
    aw_iload_n (pc := 36) C (i := 1) dX11_canPractise_36 rfl rfl <|
    aw_iald (pc := 37) C dX11_canPractise_37 sR_6 rfl <|
    aw_if_le (pc := 38) C (tgt := 45) dX11_canPractise_38 rfl (fun _ =>
    aw_iconst (pc := 45) C (v := 0) dX11_canPractise_45 rfl <|
    aw_zret (pc := 46) C dX11_canPractise_46 rfl rfl) (fun _ =>
    aw_iconst (pc := 41) C (v := 1) dX11_canPractise_41 rfl <|
    aw_goto (pc := 42) C (tgt := 46) dX11_canPractise_42 rfl <|
    aw_zret (pc := 46) C dX11_canPractise_46 rfl rfl))) (fun c2 =>
    aw_if (fun c3 => aw_tswA (pc := 1) C (off := 46) (tg := 47) 1 dX11_canPractise_1 (by rw [c3]; rfl) (by decide) (by decide) rfl rfl (aw_aload_n (pc := 47) C (i := 0) dX11_canPractise_47 rfl rfl <|
    aw_getR (pc := 48) C (b := 5) dX11_canPractise_48 fl_X11_22 sR_0 rfl rR_0_4 <|
    aw_iload_n (pc := 51) C (i := 1) dX11_canPractise_51 rfl rfl <|
    aw_iald (pc := 52) C dX11_canPractise_52 sR_5 rfl <|
    aw_if_le (pc := 53) C (tgt := 60) dX11_canPractise_53 rfl (fun _ =>
    aw_iconst (pc := 60) C (v := 0) dX11_canPractise_60 rfl <|
    aw_zret (pc := 61) C dX11_canPractise_61 rfl rfl) (fun _ =>
    aw_iconst (pc := 56) C (v := 1) dX11_canPractise_56 rfl <|
    aw_goto (pc := 57) C (tgt := 61) dX11_canPractise_57 rfl <|
    aw_zret (pc := 61) C dX11_canPractise_61 rfl rfl))) (fun c3 =>
    aw_if (fun c4 => aw_tswA (pc := 1) C (off := 61) (tg := 62) 2 dX11_canPractise_1 (by rw [c4]; rfl) (by decide) (by decide) rfl rfl (aw_aload_n (pc := 62) C (i := 0) dX11_canPractise_62 rfl rfl <|
    aw_getR (pc := 63) C (b := 7) dX11_canPractise_63 fl_X11_28 sR_0 rfl rR_0_6 <|
    aw_iload_n (pc := 66) C (i := 1) dX11_canPractise_66 rfl rfl <|
    aw_iald (pc := 67) C dX11_canPractise_67 sR_7 rfl <|
    aw_bipush (pc := 68) C (v := 99) dX11_canPractise_68 rfl <|
    aw_icmp_ge (pc := 70) C (tgt := 77) dX11_canPractise_70 rfl (fun _ =>
    aw_iconst (pc := 77) C (v := 0) dX11_canPractise_77 rfl <|
    aw_zret (pc := 78) C dX11_canPractise_78 rfl rfl) (fun _ =>
    aw_iconst (pc := 73) C (v := 1) dX11_canPractise_73 rfl <|
    aw_goto (pc := 74) C (tgt := 78) dX11_canPractise_74 rfl <|
    aw_zret (pc := 78) C dX11_canPractise_78 rfl rfl))) (fun c4 =>
    aw_if (fun c5 => aw_tswA (pc := 1) C (off := 78) (tg := 79) 3 dX11_canPractise_1 (by rw [c5]; rfl) (by decide) (by decide) rfl rfl (aw_aload_n (pc := 79) C (i := 0) dX11_canPractise_79 rfl rfl <|
    aw_getR (pc := 80) C (b := 8) dX11_canPractise_80 fl_X11_31 sR_0 rfl rR_0_7 <|
    aw_iload_n (pc := 83) C (i := 1) dX11_canPractise_83 rfl rfl <|
    aw_iald (pc := 84) C dX11_canPractise_84 sR_8 rfl <|
    aw_iconst (pc := 85) C (v := 4) dX11_canPractise_85 rfl <|
    aw_icmp_ge (pc := 86) C (tgt := 93) dX11_canPractise_86 rfl (fun _ =>
    aw_iconst (pc := 93) C (v := 0) dX11_canPractise_93 rfl <|
    aw_zret (pc := 94) C dX11_canPractise_94 rfl rfl) (fun _ =>
    aw_iconst (pc := 89) C (v := 1) dX11_canPractise_89 rfl <|
    aw_goto (pc := 90) C (tgt := 94) dX11_canPractise_90 rfl <|
    aw_zret (pc := 94) C dX11_canPractise_94 rfl rfl))) (fun c5 =>
    aw_tswD (pc := 1) C (N := 4) (td := 95) [0, 1, 2, 3] dX11_canPractise_1 (List.forall_mem_cons.mpr ⟨ti_ne c2 rfl, List.forall_mem_cons.mpr ⟨ti_ne c3 rfl, List.forall_mem_cons.mpr ⟨ti_ne c4 rfl, List.forall_mem_cons.mpr ⟨ti_ne c5 rfl, fun _ hz => by cases hz⟩⟩⟩⟩) rfl (by decide) rfl (aw_aload_n (pc := 95) C (i := 0) dX11_canPractise_95 rfl rfl <|
    aw_getR (pc := 96) C (b := 8) dX11_canPractise_96 fl_X11_31 sR_0 rfl rR_0_7 <|
    aw_iload_n (pc := 99) C (i := 1) dX11_canPractise_99 rfl rfl <|
    aw_iald (pc := 100) C dX11_canPractise_100 sR_8 rfl <|
    aw_if_le (pc := 101) C (tgt := 108) dX11_canPractise_101 rfl (fun _ =>
    aw_iconst (pc := 108) C (v := 0) dX11_canPractise_108 rfl <|
    aw_zret (pc := 109) C dX11_canPractise_109 rfl rfl) (fun _ =>
    aw_iconst (pc := 104) C (v := 1) dX11_canPractise_104 rfl <|
    aw_goto (pc := 105) C (tgt := 109) dX11_canPractise_105 rfl <|
    aw_zret (pc := 109) C dX11_canPractise_109 rfl rfl))))))

abbrev rmX11_practises : Room := { frames := 0, cells := 0, slots := 0, locals := 0 }
def X11_practises (v1 : Int32) (v2 : Int32) (v3 : Int32) (h : AH) : Option (Unit × AH) :=
    vl v2 fun y1 =>
    if y1 = 0 then (ck v1 4 (ck v1 4 (vl (sI h 6 v1.toNatClampNeg ((h.1 6 v1.toNatClampNeg) - v3)) fun h2 =>
    some ((), h2))))
    else if y1 = 1 then (ck v1 4 (ck v1 4 (vl (sI h 5 v1.toNatClampNeg ((h.1 5 v1.toNatClampNeg) - v3)) fun h4 =>
    some ((), h4))))
    else if y1 = 2 then (ck v1 4 (ck v1 4 (vl (sI h 7 v1.toNatClampNeg ((h.1 7 v1.toNatClampNeg) + v3)) fun h6 =>
    some ((), h6))))
    else if y1 = 3 then (ck v1 4 (ck v1 4 (vl (sI h 8 v1.toNatClampNeg ((h.1 8 v1.toNatClampNeg) + v3)) fun h8 =>
    some ((), h8))))
    else (ck v1 4 (ck v1 4 (vl (sI h 8 v1.toNatClampNeg ((h.1 8 v1.toNatClampNeg) - v3)) fun h10 =>
    some ((), h10))))
set_option maxRecDepth 100000 in
theorem c_X11_practises (l : Launch) (v1 : Int32) (v2 : Int32) (v3 : Int32) : MC l yX11_practises cX11_practises 4 none rmX11_practises ZR [.ref 0, .int v1, .int v2, .int v3] rvV (X11_practises v1 v2 v3) :=
  MC.of (own := RX11) (by decide +kernel) rfl (Nat.le_of_ble_eq_true rfl) fun X yd A h _ C =>
    aw_iload_n (pc := 0) C (i := 2) dX11_practises_0 rfl rfl <|
    aw_vlI fun y1 =>
    aw_if (fun c3 => aw_tswA (pc := 1) C (off := 31) (tg := 32) 0 dX11_practises_1 (by rw [c3]; rfl) (by decide) (by decide) rfl rfl (aw_aload_n (pc := 32) C (i := 0) dX11_practises_32 rfl rfl <|
    aw_getR (pc := 33) C (b := 6) dX11_practises_33 fl_X11_25 sR_0 rfl rR_0_5 <|
    aw_iload_n (pc := 36) C (i := 1) dX11_practises_36 rfl rfl <|
    aw_dup2 (pc := 37) C dX11_practises_37 rfl rfl <|
    aw_iald (pc := 38) C dX11_practises_38 sR_6 rfl <|
    aw_iload_n (pc := 39) C (i := 3) dX11_practises_39 rfl rfl <|
    aw_isub (pc := 40) C dX11_practises_40 <|
    aw_iast (pc := 41) C dX11_practises_41 sR_6 rfl fun h2 =>
    aw_goto (pc := 42) C (tgt := 94) dX11_practises_42 rfl <|
    aw_vret (pc := 94) C dX11_practises_94 rfl rfl)) (fun c3 =>
    aw_if (fun c5 => aw_tswA (pc := 1) C (off := 44) (tg := 45) 1 dX11_practises_1 (by rw [c5]; rfl) (by decide) (by decide) rfl rfl (aw_aload_n (pc := 45) C (i := 0) dX11_practises_45 rfl rfl <|
    aw_getR (pc := 46) C (b := 5) dX11_practises_46 fl_X11_22 sR_0 rfl rR_0_4 <|
    aw_iload_n (pc := 49) C (i := 1) dX11_practises_49 rfl rfl <|
    aw_dup2 (pc := 50) C dX11_practises_50 rfl rfl <|
    aw_iald (pc := 51) C dX11_practises_51 sR_5 rfl <|
    aw_iload_n (pc := 52) C (i := 3) dX11_practises_52 rfl rfl <|
    aw_isub (pc := 53) C dX11_practises_53 <|
    aw_iast (pc := 54) C dX11_practises_54 sR_5 rfl fun h4 =>
    aw_goto (pc := 55) C (tgt := 94) dX11_practises_55 rfl <|
    aw_vret (pc := 94) C dX11_practises_94 rfl rfl)) (fun c5 =>
    aw_if (fun c7 => aw_tswA (pc := 1) C (off := 57) (tg := 58) 2 dX11_practises_1 (by rw [c7]; rfl) (by decide) (by decide) rfl rfl (aw_aload_n (pc := 58) C (i := 0) dX11_practises_58 rfl rfl <|
    aw_getR (pc := 59) C (b := 7) dX11_practises_59 fl_X11_28 sR_0 rfl rR_0_6 <|
    aw_iload_n (pc := 62) C (i := 1) dX11_practises_62 rfl rfl <|
    aw_dup2 (pc := 63) C dX11_practises_63 rfl rfl <|
    aw_iald (pc := 64) C dX11_practises_64 sR_7 rfl <|
    aw_iload_n (pc := 65) C (i := 3) dX11_practises_65 rfl rfl <|
    aw_iadd (pc := 66) C dX11_practises_66 <|
    aw_iast (pc := 67) C dX11_practises_67 sR_7 rfl fun h6 =>
    aw_goto (pc := 68) C (tgt := 94) dX11_practises_68 rfl <|
    aw_vret (pc := 94) C dX11_practises_94 rfl rfl)) (fun c7 =>
    aw_if (fun c9 => aw_tswA (pc := 1) C (off := 70) (tg := 71) 3 dX11_practises_1 (by rw [c9]; rfl) (by decide) (by decide) rfl rfl (aw_aload_n (pc := 71) C (i := 0) dX11_practises_71 rfl rfl <|
    aw_getR (pc := 72) C (b := 8) dX11_practises_72 fl_X11_31 sR_0 rfl rR_0_7 <|
    aw_iload_n (pc := 75) C (i := 1) dX11_practises_75 rfl rfl <|
    aw_dup2 (pc := 76) C dX11_practises_76 rfl rfl <|
    aw_iald (pc := 77) C dX11_practises_77 sR_8 rfl <|
    aw_iload_n (pc := 78) C (i := 3) dX11_practises_78 rfl rfl <|
    aw_iadd (pc := 79) C dX11_practises_79 <|
    aw_iast (pc := 80) C dX11_practises_80 sR_8 rfl fun h8 =>
    aw_goto (pc := 81) C (tgt := 94) dX11_practises_81 rfl <|
    aw_vret (pc := 94) C dX11_practises_94 rfl rfl)) (fun c9 =>
    aw_tswD (pc := 1) C (N := 4) (td := 84) [0, 1, 2, 3] dX11_practises_1 (List.forall_mem_cons.mpr ⟨ti_ne c3 rfl, List.forall_mem_cons.mpr ⟨ti_ne c5 rfl, List.forall_mem_cons.mpr ⟨ti_ne c7 rfl, List.forall_mem_cons.mpr ⟨ti_ne c9 rfl, fun _ hz => by cases hz⟩⟩⟩⟩) rfl (by decide) rfl (aw_aload_n (pc := 84) C (i := 0) dX11_practises_84 rfl rfl <|
    aw_getR (pc := 85) C (b := 8) dX11_practises_85 fl_X11_31 sR_0 rfl rR_0_7 <|
    aw_iload_n (pc := 88) C (i := 1) dX11_practises_88 rfl rfl <|
    aw_dup2 (pc := 89) C dX11_practises_89 rfl rfl <|
    aw_iald (pc := 90) C dX11_practises_90 sR_8 rfl <|
    aw_iload_n (pc := 91) C (i := 3) dX11_practises_91 rfl rfl <|
    aw_isub (pc := 92) C dX11_practises_92 <|
    aw_iast (pc := 93) C dX11_practises_93 sR_8 rfl fun h10 =>
    aw_vret (pc := 94) C dX11_practises_94 rfl rfl)))))

abbrev rmX11_practice : Room := { frames := 5, cells := 0, slots := 0, locals := 123 }
def X11_practice_j95  (v1 : Int32) (v2 : Int32) (v3 : Int64) (v5 : Int32) (v6 : Int32) (K33 : Int64 → Int32 → Int32 → AH → Option (Int32 × AH)) (h : AH) : Option (Int32 × AH) :=
    vl (v6 + 1) fun x16 =>
    K33 v3 v5 x16 h
set_option maxRecDepth 100000 in
theorem aX11_practice_j95 {X : MCx} {yd : Dyn} {A : Nat → Prop} (C : OK X cX11_practice RX11 9 (some .int) rmX11_practice A)  (v1 : Int32) (v2 : Int32) (v3 : Int64) (v5 : Int32) (v6 : Int32) (K33 : Int64 → Int32 → Int32 → AH → Option (Int32 × AH)) (hK33 : ∀ (w3 : Int64) (w5 : Int32) (w6 : Int32) (h : AH), AW X 9 ZR yd A 0 0 (QF X rmX11_practice ZR yd rvI A) 33 [(0, .ref 0), (1, .int v1), (2, .int v2), (3, .long w3), (5, .int w5), (6, .int w6)] [] h (K33 w3 w5 w6 h)) (h : AH) : AW X 9 ZR yd A 0 0 (QF X rmX11_practice ZR yd rvI A) 95 [(0, .ref 0), (1, .int v1), (2, .int v2), (3, .long v3), (5, .int v5), (6, .int v6)] [] h (X11_practice_j95 v1 v2 v3 v5 v6 K33 h) := by
    exact aw_iincV (pc := 95) C (i := 6) (cst := 1) (fun x16 => [(0, .ref 0), (1, .int v1), (2, .int v2), (3, .long v3), (5, .int v5), (6, .int x16)]) dX11_practice_95 rfl rfl (by decide) (fun _ => rfl) fun x16 =>
    aw_goto (pc := 98) C (tgt := 33) dX11_practice_98 rfl <|
    (hK33 v3 v5 x16 h)
def X11_practice_l33  (v1 : Int32) (v2 : Int32) : Nat → Int64 → Int32 → Int32 → AH → Option (Int32 × AH)
  | 0, _, _, _, _ => none
  | n + 1, v3, v5, v6, h =>
    if 5 ≤ v6 then (some (v5, h))
    else (bd (X11_canPractise v1 v6 h) fun r8 h9 =>
    if r8 = 0 then (X11_practice_j95 v1 v2 v3 v5 v6 (X11_practice_l33 v1 v2 n) h9)
    else (bd (X11_practises v1 v6 1 h9) fun _ h11 =>
    bd (X11_counted v1 v2 2 0 h11) fun r12 h13 =>
    bd (X11_practises v1 v6 (-1) h13) fun _ h15 =>
    if 0 < (lcmpV r12 v3) then (X11_practice_j95 v1 v2 r12 v6 v6 (X11_practice_l33 v1 v2 n) h15)
    else (X11_practice_j95 v1 v2 v3 v5 v6 (X11_practice_l33 v1 v2 n) h15)))
set_option maxRecDepth 100000 in
theorem aX11_practice_l33 {X : MCx} {yd : Dyn} {A : Nat → Prop} (C : OK X cX11_practice RX11 9 (some .int) rmX11_practice A)  (v1 : Int32) (v2 : Int32) : ∀ (n : Nat) (v3 : Int64) (v5 : Int32) (v6 : Int32) (h : AH), AW X 9 ZR yd A 0 0 (QF X rmX11_practice ZR yd rvI A) 33 [(0, .ref 0), (1, .int v1), (2, .int v2), (3, .long v3), (5, .int v5), (6, .int v6)] [] h (X11_practice_l33 v1 v2 n v3 v5 v6 h) := by
  intro n
  induction n with
  | zero => intro v3 v5 v6 h; exact aw_none
  | succ n ih =>
    intro v3 v5 v6 h
    exact aw_iload (pc := 33) C (i := 6) dX11_practice_33 rfl <|
    aw_iconst (pc := 35) C (v := 5) dX11_practice_35 rfl <|
    aw_icmp_ge (pc := 36) C (tgt := 101) dX11_practice_36 rfl (fun _ =>
    aw_iload (pc := 101) C (i := 5) dX11_practice_101 rfl <|
    aw_iret (pc := 103) C dX11_practice_103 rfl rfl) (fun _ =>
    aw_aload_n (pc := 39) C (i := 0) dX11_practice_39 rfl rfl <|
    aw_iload_n (pc := 40) C (i := 1) dX11_practice_40 rfl rfl <|
    aw_iload (pc := 41) C (i := 6) dX11_practice_41 rfl <|
    aw_callF (pc := 43) C (cr_V (rest := []) (F := (X11_canPractise v1 v6)) C (c_X11_canPractise X.2.1 v1 v6) dX11_practice_43 mf_X11_canPractise ml_X11_327 im_X11_canPractise se_X11_canPractise sR_0 rfl ⟨(Nat.le_of_ble_eq_true rfl), (Nat.le_of_ble_eq_true rfl)⟩ rfl rfl (Nat.le_of_ble_eq_true rfl)) rfl rfl rfl (Nat.zero_le _) (Nat.zero_le _) fun r8 h9 =>
    aw_if_ne (pc := 46) C (tgt := 52) dX11_practice_46 rfl (fun _ =>
    aw_goto (pc := 49) C (tgt := 95) dX11_practice_49 rfl <|
    (aX11_practice_j95 C v1 v2 v3 v5 v6 (X11_practice_l33 v1 v2 n) ih h9)) (fun _ =>
    aw_aload_n (pc := 52) C (i := 0) dX11_practice_52 rfl rfl <|
    aw_iload_n (pc := 53) C (i := 1) dX11_practice_53 rfl rfl <|
    aw_iload (pc := 54) C (i := 6) dX11_practice_54 rfl <|
    aw_iconst (pc := 56) C (v := 1) dX11_practice_56 rfl <|
    aw_callF (pc := 57) C (cr_V (rest := []) (F := (X11_practises v1 v6 1)) C (c_X11_practises X.2.1 v1 v6 1) dX11_practice_57 mf_X11_practises ml_X11_330 im_X11_practises se_X11_practises sR_0 rfl ⟨(Nat.le_of_ble_eq_true rfl), (Nat.le_of_ble_eq_true rfl)⟩ rfl rfl (Nat.le_of_ble_eq_true rfl)) rfl rfl rfl (Nat.zero_le _) (Nat.zero_le _) fun _ h11 =>
    aw_aload_n (pc := 60) C (i := 0) dX11_practice_60 rfl rfl <|
    aw_iload_n (pc := 61) C (i := 1) dX11_practice_61 rfl rfl <|
    aw_iload_n (pc := 62) C (i := 2) dX11_practice_62 rfl rfl <|
    aw_iconst (pc := 63) C (v := 2) dX11_practice_63 rfl <|
    aw_iconst (pc := 64) C (v := 0) dX11_practice_64 rfl <|
    aw_callF (pc := 65) C (cr_V (rest := []) (F := (X11_counted v1 v2 2 0)) C (c_X11_counted X.2.1 v1 v2 2 0) dX11_practice_65 mf_X11_counted ml_X11_242 im_X11_counted se_X11_counted sR_0 rfl ⟨(Nat.le_of_ble_eq_true rfl), (Nat.le_of_ble_eq_true rfl)⟩ rfl rfl (Nat.le_of_ble_eq_true rfl)) rfl rfl rfl (Nat.zero_le _) (Nat.zero_le _) fun r12 h13 =>
    aw_lstore (pc := 68) C (i := 7) (lv' := [(0, .ref 0), (1, .int v1), (2, .int v2), (3, .long v3), (5, .int v5), (6, .int v6), (7, .long r12)]) dX11_practice_68 (by decide) rfl <|
    aw_aload_n (pc := 70) C (i := 0) dX11_practice_70 rfl rfl <|
    aw_iload_n (pc := 71) C (i := 1) dX11_practice_71 rfl rfl <|
    aw_iload (pc := 72) C (i := 6) dX11_practice_72 rfl <|
    aw_iconst (pc := 74) C (v := (-1)) dX11_practice_74 rfl <|
    aw_callF (pc := 75) C (cr_V (rest := []) (F := (X11_practises v1 v6 (-1))) C (c_X11_practises X.2.1 v1 v6 (-1)) dX11_practice_75 mf_X11_practises ml_X11_330 im_X11_practises se_X11_practises sR_0 rfl ⟨(Nat.le_of_ble_eq_true rfl), (Nat.le_of_ble_eq_true rfl)⟩ rfl rfl (Nat.le_of_ble_eq_true rfl)) rfl rfl rfl (Nat.zero_le _) (Nat.zero_le _) fun _ h15 =>
    aw_lload (pc := 78) C (i := 7) dX11_practice_78 rfl <|
    aw_lload_n (pc := 80) C (i := 3) dX11_practice_80 rfl rfl <|
    aw_lcmp (pc := 81) C dX11_practice_81 <|
    aw_if_gt (pc := 82) C (tgt := 88) dX11_practice_82 rfl (fun _ =>
    aw_iload (pc := 88) C (i := 6) dX11_practice_88 rfl <|
    aw_istore (pc := 90) C (i := 5) (lv' := [(0, .ref 0), (1, .int v1), (2, .int v2), (3, .long v3), (5, .int v6), (6, .int v6), (7, .long r12)]) dX11_practice_90 (by decide) rfl <|
    aw_lload (pc := 92) C (i := 7) dX11_practice_92 rfl <|
    aw_lstore_n (pc := 94) C (i := 3) (lv' := [(0, .ref 0), (1, .int v1), (2, .int v2), (3, .long r12), (5, .int v6), (6, .int v6), (7, .long r12)]) dX11_practice_94 rfl (by decide) rfl <|
    aw_drop [0, 1, 2, 3, 4, 5] (aX11_practice_j95 C v1 v2 r12 v6 v6 (X11_practice_l33 v1 v2 n) ih h15)) (fun _ =>
    aw_goto (pc := 85) C (tgt := 95) dX11_practice_85 rfl <|
    aw_drop [0, 1, 2, 3, 4, 5] (aX11_practice_j95 C v1 v2 v3 v5 v6 (X11_practice_l33 v1 v2 n) ih h15))))
def X11_practice (v1 : Int32) (h : AH) : Option (Int32 × AH) :=
    bd (X11_isJumper v1 h) fun r1 h2 =>
    if r1 = 0 then (bd (X11_no (-1) h2) fun r17 h18 =>
    some (r17, h18))
    else (bd (X11_placeOf v1 h2) fun r3 h4 =>
    bd (X11_meanParts v1 h4) fun r5 h6 =>
    vl (-9) fun x7 =>
    X11_practice_l33 v1 r3 FU r5 x7 0 h6)
set_option maxRecDepth 100000 in
theorem c_X11_practice (l : Launch) (v1 : Int32) : MC l yX11_practice cX11_practice 9 (some .int) rmX11_practice ZR [.ref 0, .int v1] rvI (X11_practice v1) :=
  MC.of (own := RX11) (by decide +kernel) rfl (Nat.le_of_ble_eq_true rfl) fun X yd A h _ C =>
    aw_aload_n (pc := 0) C (i := 0) dX11_practice_0 rfl rfl <|
    aw_iload_n (pc := 1) C (i := 1) dX11_practice_1 rfl rfl <|
    aw_callF (pc := 2) C (cr_V (rest := []) (F := (X11_isJumper v1)) C (c_X11_isJumper X.2.1 v1) dX11_practice_2 mf_X11_isJumper ml_X11_207 im_X11_isJumper se_X11_isJumper sR_0 rfl ⟨(Nat.le_of_ble_eq_true rfl), (Nat.le_of_ble_eq_true rfl)⟩ rfl rfl (Nat.le_of_ble_eq_true rfl)) rfl rfl rfl (Nat.zero_le _) (Nat.zero_le _) fun r1 h2 =>
    aw_if_ne (pc := 5) C (tgt := 14) dX11_practice_5 rfl (fun _ =>
    aw_aload_n (pc := 8) C (i := 0) dX11_practice_8 rfl rfl <|
    aw_iconst (pc := 9) C (v := (-1)) dX11_practice_9 rfl <|
    aw_callF (pc := 10) C (cr_V (rest := []) (F := (X11_no (-1))) C (c_X11_no X.2.1 (-1)) dX11_practice_10 mf_X11_no ml_X11_115 im_X11_no se_X11_no sR_0 rfl ⟨(Nat.le_of_ble_eq_true rfl), (Nat.le_of_ble_eq_true rfl)⟩ rfl rfl (Nat.le_of_ble_eq_true rfl)) rfl rfl rfl (Nat.zero_le _) (Nat.zero_le _) fun r17 h18 =>
    aw_iret (pc := 13) C dX11_practice_13 rfl rfl) (fun _ =>
    aw_aload_n (pc := 14) C (i := 0) dX11_practice_14 rfl rfl <|
    aw_iload_n (pc := 15) C (i := 1) dX11_practice_15 rfl rfl <|
    aw_callF (pc := 16) C (cr_V (rest := []) (F := (X11_placeOf v1)) C (c_X11_placeOf X.2.1 v1) dX11_practice_16 mf_X11_placeOf ml_X11_223 im_X11_placeOf se_X11_placeOf sR_0 rfl ⟨(Nat.le_of_ble_eq_true rfl), (Nat.le_of_ble_eq_true rfl)⟩ rfl rfl (Nat.le_of_ble_eq_true rfl)) rfl rfl rfl (Nat.zero_le _) (Nat.zero_le _) fun r3 h4 =>
    aw_istore_n (pc := 19) C (i := 2) (lv' := [(0, .ref 0), (1, .int v1), (2, .int r3)]) dX11_practice_19 rfl (by decide) rfl <|
    aw_aload_n (pc := 20) C (i := 0) dX11_practice_20 rfl rfl <|
    aw_iload_n (pc := 21) C (i := 1) dX11_practice_21 rfl rfl <|
    aw_callF (pc := 22) C (cr_V (rest := []) (F := (X11_meanParts v1)) C (c_X11_meanParts X.2.1 v1) dX11_practice_22 mf_X11_meanParts ml_X11_254 im_X11_meanParts se_X11_meanParts sR_0 rfl ⟨(Nat.le_of_ble_eq_true rfl), (Nat.le_of_ble_eq_true rfl)⟩ rfl rfl (Nat.le_of_ble_eq_true rfl)) rfl rfl rfl (Nat.zero_le _) (Nat.zero_le _) fun r5 h6 =>
    aw_lstore_n (pc := 25) C (i := 3) (lv' := [(0, .ref 0), (1, .int v1), (2, .int r3), (3, .long r5)]) dX11_practice_25 rfl (by decide) rfl <|
    aw_bipush (pc := 26) C (v := (-9)) dX11_practice_26 rfl <|
    aw_istoreV (pc := 28) C (i := 5) (fun x7 => [(0, .ref 0), (1, .int v1), (2, .int r3), (3, .long r5), (5, .int x7)]) dX11_practice_28 (by decide) (fun _ => rfl) fun x7 =>
    aw_iconst (pc := 30) C (v := 0) dX11_practice_30 rfl <|
    aw_istore (pc := 31) C (i := 6) (lv' := [(0, .ref 0), (1, .int v1), (2, .int r3), (3, .long r5), (5, .int x7), (6, .int 0)]) dX11_practice_31 (by decide) rfl <|
    (aX11_practice_l33 C v1 r3 FU r5 x7 0 h6))

abbrev rmX11_bestRun : Room := { frames := 4, cells := 0, slots := 0, locals := 102 }
def X11_bestRun_j94  (v1 : Int32) (v2 : Int32) (v3 : Int32) (v4 : Int64) (v6 : Int32) (K29 : Int32 → Int64 → Int32 → AH → Option (Int32 × AH)) (h : AH) : Option (Int32 × AH) :=
    vl (v6 + 1) fun x12 =>
    K29 v3 v4 x12 h
set_option maxRecDepth 100000 in
theorem aX11_bestRun_j94 {X : MCx} {yd : Dyn} {A : Nat → Prop} (C : OK X cX11_bestRun RX11 11 (some .int) rmX11_bestRun A)  (v1 : Int32) (v2 : Int32) (v3 : Int32) (v4 : Int64) (v6 : Int32) (K29 : Int32 → Int64 → Int32 → AH → Option (Int32 × AH)) (hK29 : ∀ (w3 : Int32) (w4 : Int64) (w6 : Int32) (h : AH), AW X 11 ZR yd A 0 0 (QF X rmX11_bestRun ZR yd rvI A) 29 [(0, .ref 0), (1, .int v1), (2, .int v2), (3, .int w3), (4, .long w4), (6, .int w6)] [] h (K29 w3 w4 w6 h)) (h : AH) : AW X 11 ZR yd A 0 0 (QF X rmX11_bestRun ZR yd rvI A) 94 [(0, .ref 0), (1, .int v1), (2, .int v2), (3, .int v3), (4, .long v4), (6, .int v6)] [] h (X11_bestRun_j94 v1 v2 v3 v4 v6 K29 h) := by
    exact aw_iincV (pc := 94) C (i := 6) (cst := 1) (fun x12 => [(0, .ref 0), (1, .int v1), (2, .int v2), (3, .int v3), (4, .long v4), (6, .int x12)]) dX11_bestRun_94 rfl rfl (by decide) (fun _ => rfl) fun x12 =>
    aw_goto (pc := 97) C (tgt := 29) dX11_bestRun_97 rfl <|
    (hK29 v3 v4 x12 h)
def X11_bestRun_j87  (v1 : Int32) (v2 : Int32) (v6 : Int32) (v7 : Int64) (K29 : Int32 → Int64 → Int32 → AH → Option (Int32 × AH)) (h : AH) : Option (Int32 × AH) :=
    X11_bestRun_j94 v1 v2 v6 v7 v6 K29 h
set_option maxRecDepth 100000 in
theorem aX11_bestRun_j87 {X : MCx} {yd : Dyn} {A : Nat → Prop} (C : OK X cX11_bestRun RX11 11 (some .int) rmX11_bestRun A)  (v1 : Int32) (v2 : Int32) (v6 : Int32) (v7 : Int64) (K29 : Int32 → Int64 → Int32 → AH → Option (Int32 × AH)) (hK29 : ∀ (w3 : Int32) (w4 : Int64) (w6 : Int32) (h : AH), AW X 11 ZR yd A 0 0 (QF X rmX11_bestRun ZR yd rvI A) 29 [(0, .ref 0), (1, .int v1), (2, .int v2), (3, .int w3), (4, .long w4), (6, .int w6)] [] h (K29 w3 w4 w6 h)) (h : AH) : AW X 11 ZR yd A 0 0 (QF X rmX11_bestRun ZR yd rvI A) 87 [(0, .ref 0), (1, .int v1), (2, .int v2), (6, .int v6), (7, .long v7)] [] h (X11_bestRun_j87 v1 v2 v6 v7 K29 h) := by
    exact aw_iload (pc := 87) C (i := 6) dX11_bestRun_87 rfl <|
    aw_istore_n (pc := 89) C (i := 3) (lv' := [(0, .ref 0), (1, .int v1), (2, .int v2), (3, .int v6), (6, .int v6), (7, .long v7)]) dX11_bestRun_89 rfl (by decide) rfl <|
    aw_lload (pc := 90) C (i := 7) dX11_bestRun_90 rfl <|
    aw_lstore (pc := 92) C (i := 4) (lv' := [(0, .ref 0), (1, .int v1), (2, .int v2), (3, .int v6), (4, .long v7), (6, .int v6), (7, .long v7)]) dX11_bestRun_92 (by decide) rfl <|
    aw_drop [0, 1, 2, 3, 4, 5] (aX11_bestRun_j94 C v1 v2 v6 v7 v6 K29 hK29 h)
def X11_bestRun_l29  (v1 : Int32) (v2 : Int32) : Nat → Int32 → Int64 → Int32 → AH → Option (Int32 × AH)
  | 0, _, _, _, _ => none
  | n + 1, v3, v4, v6, h =>
    if 20 < v6 then (vl (sI h 0 12 v2) fun h5 =>
    some (v3, h5))
    else (vl (sI h 0 12 v6) fun h6 =>
    bd (X11_aimOf v1 h6) fun r7 h8 =>
    bd (X11_counted v1 r7 2 0 h8) fun r9 h10 =>
    vl (shl64 1 (2 * (v6 - v3))) fun x11 =>
    if (lcmpV v4 0) < 0 then (X11_bestRun_j87 v1 v2 v6 r9 (X11_bestRun_l29 v1 v2 n) h10)
    else (if 0 < (lcmpV r9 (v4 * x11)) then (X11_bestRun_j87 v1 v2 v6 r9 (X11_bestRun_l29 v1 v2 n) h10)
    else (X11_bestRun_j94 v1 v2 v3 v4 v6 (X11_bestRun_l29 v1 v2 n) h10)))
set_option maxRecDepth 100000 in
theorem aX11_bestRun_l29 {X : MCx} {yd : Dyn} {A : Nat → Prop} (C : OK X cX11_bestRun RX11 11 (some .int) rmX11_bestRun A)  (v1 : Int32) (v2 : Int32) : ∀ (n : Nat) (v3 : Int32) (v4 : Int64) (v6 : Int32) (h : AH), AW X 11 ZR yd A 0 0 (QF X rmX11_bestRun ZR yd rvI A) 29 [(0, .ref 0), (1, .int v1), (2, .int v2), (3, .int v3), (4, .long v4), (6, .int v6)] [] h (X11_bestRun_l29 v1 v2 n v3 v4 v6 h) := by
  intro n
  induction n with
  | zero => intro v3 v4 v6 h; exact aw_none
  | succ n ih =>
    intro v3 v4 v6 h
    exact aw_iload (pc := 29) C (i := 6) dX11_bestRun_29 rfl <|
    aw_bipush (pc := 31) C (v := 20) dX11_bestRun_31 rfl <|
    aw_icmp_gt (pc := 33) C (tgt := 100) dX11_bestRun_33 rfl (fun _ =>
    aw_aload_n (pc := 100) C (i := 0) dX11_bestRun_100 rfl rfl <|
    aw_iload_n (pc := 101) C (i := 2) dX11_bestRun_101 rfl rfl <|
    aw_putI (pc := 102) C dX11_bestRun_102 fp_X11_95 sR_0 rfl fun h5 =>
    aw_iload_n (pc := 105) C (i := 3) dX11_bestRun_105 rfl rfl <|
    aw_iret (pc := 106) C dX11_bestRun_106 rfl rfl) (fun _ =>
    aw_aload_n (pc := 36) C (i := 0) dX11_bestRun_36 rfl rfl <|
    aw_iload (pc := 37) C (i := 6) dX11_bestRun_37 rfl <|
    aw_putI (pc := 39) C dX11_bestRun_39 fp_X11_95 sR_0 rfl fun h6 =>
    aw_aload_n (pc := 42) C (i := 0) dX11_bestRun_42 rfl rfl <|
    aw_iload_n (pc := 43) C (i := 1) dX11_bestRun_43 rfl rfl <|
    aw_aload_n (pc := 44) C (i := 0) dX11_bestRun_44 rfl rfl <|
    aw_iload_n (pc := 45) C (i := 1) dX11_bestRun_45 rfl rfl <|
    aw_callF (pc := 46) C (cr_V (rest := [.int v1, .ref 0]) (F := (X11_aimOf v1)) C (c_X11_aimOf X.2.1 v1) dX11_bestRun_46 mf_X11_aimOf ml_X11_210 im_X11_aimOf se_X11_aimOf sR_0 rfl ⟨(Nat.le_of_ble_eq_true rfl), (Nat.le_of_ble_eq_true rfl)⟩ rfl rfl (Nat.le_of_ble_eq_true rfl)) rfl rfl rfl (Nat.zero_le _) (Nat.zero_le _) fun r7 h8 =>
    aw_iconst (pc := 49) C (v := 2) dX11_bestRun_49 rfl <|
    aw_iconst (pc := 50) C (v := 0) dX11_bestRun_50 rfl <|
    aw_callF (pc := 51) C (cr_V (rest := []) (F := (X11_counted v1 r7 2 0)) C (c_X11_counted X.2.1 v1 r7 2 0) dX11_bestRun_51 mf_X11_counted ml_X11_242 im_X11_counted se_X11_counted sR_0 rfl ⟨(Nat.le_of_ble_eq_true rfl), (Nat.le_of_ble_eq_true rfl)⟩ rfl rfl (Nat.le_of_ble_eq_true rfl)) rfl rfl rfl (Nat.zero_le _) (Nat.zero_le _) fun r9 h10 =>
    aw_lstore (pc := 54) C (i := 7) (lv' := [(0, .ref 0), (1, .int v1), (2, .int v2), (3, .int v3), (4, .long v4), (6, .int v6), (7, .long r9)]) dX11_bestRun_54 (by decide) rfl <|
    aw_lconst (pc := 56) C (v := 1) dX11_bestRun_56 rfl <|
    aw_iconst (pc := 57) C (v := 2) dX11_bestRun_57 rfl <|
    aw_iload (pc := 58) C (i := 6) dX11_bestRun_58 rfl <|
    aw_iload_n (pc := 60) C (i := 3) dX11_bestRun_60 rfl rfl <|
    aw_isub (pc := 61) C dX11_bestRun_61 <|
    aw_imul (pc := 62) C dX11_bestRun_62 <|
    aw_lshl (pc := 63) C dX11_bestRun_63 <|
    aw_lstoreV (pc := 64) C (i := 9) (fun x11 => [(0, .ref 0), (1, .int v1), (2, .int v2), (3, .int v3), (4, .long v4), (6, .int v6), (7, .long r9), (9, .long x11)]) dX11_bestRun_64 (by decide) (fun _ => rfl) fun x11 =>
    aw_lload (pc := 66) C (i := 4) dX11_bestRun_66 rfl <|
    aw_lconst (pc := 68) C (v := 0) dX11_bestRun_68 rfl <|
    aw_lcmp (pc := 69) C dX11_bestRun_69 <|
    aw_if_lt (pc := 70) C (tgt := 87) dX11_bestRun_70 rfl (fun _ =>
    aw_drop [0, 1, 2, 5, 6] (aX11_bestRun_j87 C v1 v2 v6 r9 (X11_bestRun_l29 v1 v2 n) ih h10)) (fun _ =>
    aw_lload (pc := 73) C (i := 7) dX11_bestRun_73 rfl <|
    aw_lload (pc := 75) C (i := 4) dX11_bestRun_75 rfl <|
    aw_lload (pc := 77) C (i := 9) dX11_bestRun_77 rfl <|
    aw_lmul (pc := 79) C dX11_bestRun_79 <|
    aw_lcmp (pc := 80) C dX11_bestRun_80 <|
    aw_if_gt (pc := 81) C (tgt := 87) dX11_bestRun_81 rfl (fun _ =>
    aw_drop [0, 1, 2, 5, 6] (aX11_bestRun_j87 C v1 v2 v6 r9 (X11_bestRun_l29 v1 v2 n) ih h10)) (fun _ =>
    aw_goto (pc := 84) C (tgt := 94) dX11_bestRun_84 rfl <|
    aw_drop [0, 1, 2, 3, 4, 5] (aX11_bestRun_j94 C v1 v2 v3 v4 v6 (X11_bestRun_l29 v1 v2 n) ih h10))))
def X11_bestRun (v1 : Int32) (h : AH) : Option (Int32 × AH) :=
    bd (X11_isJumper v1 h) fun r1 h2 =>
    if r1 = 0 then (bd (X11_no (-1) h2) fun r13 h14 =>
    some (r13, h14))
    else (vl (h2.1 0 12) fun x3 =>
    vl (-1) fun x4 =>
    X11_bestRun_l29 v1 x3 FU 4 x4 4 h2)
set_option maxRecDepth 100000 in
theorem c_X11_bestRun (l : Launch) (v1 : Int32) : MC l yX11_bestRun cX11_bestRun 11 (some .int) rmX11_bestRun ZR [.ref 0, .int v1] rvI (X11_bestRun v1) :=
  MC.of (own := RX11) (by decide +kernel) rfl (Nat.le_of_ble_eq_true rfl) fun X yd A h _ C =>
    aw_aload_n (pc := 0) C (i := 0) dX11_bestRun_0 rfl rfl <|
    aw_iload_n (pc := 1) C (i := 1) dX11_bestRun_1 rfl rfl <|
    aw_callF (pc := 2) C (cr_V (rest := []) (F := (X11_isJumper v1)) C (c_X11_isJumper X.2.1 v1) dX11_bestRun_2 mf_X11_isJumper ml_X11_207 im_X11_isJumper se_X11_isJumper sR_0 rfl ⟨(Nat.le_of_ble_eq_true rfl), (Nat.le_of_ble_eq_true rfl)⟩ rfl rfl (Nat.le_of_ble_eq_true rfl)) rfl rfl rfl (Nat.zero_le _) (Nat.zero_le _) fun r1 h2 =>
    aw_if_ne (pc := 5) C (tgt := 14) dX11_bestRun_5 rfl (fun _ =>
    aw_aload_n (pc := 8) C (i := 0) dX11_bestRun_8 rfl rfl <|
    aw_iconst (pc := 9) C (v := (-1)) dX11_bestRun_9 rfl <|
    aw_callF (pc := 10) C (cr_V (rest := []) (F := (X11_no (-1))) C (c_X11_no X.2.1 (-1)) dX11_bestRun_10 mf_X11_no ml_X11_115 im_X11_no se_X11_no sR_0 rfl ⟨(Nat.le_of_ble_eq_true rfl), (Nat.le_of_ble_eq_true rfl)⟩ rfl rfl (Nat.le_of_ble_eq_true rfl)) rfl rfl rfl (Nat.zero_le _) (Nat.zero_le _) fun r13 h14 =>
    aw_iret (pc := 13) C dX11_bestRun_13 rfl rfl) (fun _ =>
    aw_aload_n (pc := 14) C (i := 0) dX11_bestRun_14 rfl rfl <|
    aw_getI (pc := 15) C dX11_bestRun_15 fl_X11_95 sR_0 rfl <|
    aw_istoreV_n (pc := 18) C (i := 2) (fun x3 => [(0, .ref 0), (1, .int v1), (2, .int x3)]) dX11_bestRun_18 rfl (by decide) (fun _ => rfl) fun x3 =>
    aw_iconst (pc := 19) C (v := 4) dX11_bestRun_19 rfl <|
    aw_istore_n (pc := 20) C (i := 3) (lv' := [(0, .ref 0), (1, .int v1), (2, .int x3), (3, .int 4)]) dX11_bestRun_20 rfl (by decide) rfl <|
    aw_ldc2_w (pc := 21) C (v := (-1)) dX11_bestRun_21 kc_X11_257 <|
    aw_lstoreV (pc := 24) C (i := 4) (fun x4 => [(0, .ref 0), (1, .int v1), (2, .int x3), (3, .int 4), (4, .long x4)]) dX11_bestRun_24 (by decide) (fun _ => rfl) fun x4 =>
    aw_iconst (pc := 26) C (v := 4) dX11_bestRun_26 rfl <|
    aw_istore (pc := 27) C (i := 6) (lv' := [(0, .ref 0), (1, .int v1), (2, .int x3), (3, .int 4), (4, .long x4), (6, .int 4)]) dX11_bestRun_27 (by decide) rfl <|
    (aX11_bestRun_l29 C v1 x3 FU 4 x4 4 h2))

abbrev rmX11_markIn : Room := { frames := 2, cells := 0, slots := 0, locals := 48 }
def X11_markIn_j20  (v1 : Int32) (v2 : Int32) (s0 : Int32) (h : AH) : Option (Int32 × AH) :=
    if s0 = 0 then (bd (X11_allStrides v1 v2 h) fun r5 h6 =>
    bd (X11_aimOf v1 h6) fun r7 h8 =>
    vl (r5 + r7) fun x9 =>
    if 0 ≤ x9 then (if x9 ≤ 2400 then (some (x9, h8))
    else (some (2400, h8)))
    else (some (0, h8)))
    else (bd (X11_no s0 h) fun r10 h11 =>
    some (r10, h11))
set_option maxRecDepth 100000 in
theorem aX11_markIn_j20 {X : MCx} {yd : Dyn} {A : Nat → Prop} (C : OK X cX11_markIn RX11 5 (some .int) rmX11_markIn A)  (v1 : Int32) (v2 : Int32) (s0 : Int32) (h : AH) : AW X 5 ZR yd A 0 0 (QF X rmX11_markIn ZR yd rvI A) 20 [(0, .ref 0), (1, .int v1), (2, .int v2)] [.int s0] h (X11_markIn_j20 v1 v2 s0 h) := by
    exact aw_istore_n (pc := 20) C (i := 3) (lv' := [(0, .ref 0), (1, .int v1), (2, .int v2), (3, .int s0)]) dX11_markIn_20 rfl (by decide) rfl <|
    aw_iload_n (pc := 21) C (i := 3) dX11_markIn_21 rfl rfl <|
    aw_if_eq (pc := 22) C (tgt := 31) dX11_markIn_22 rfl (fun _ =>
    aw_aload_n (pc := 31) C (i := 0) dX11_markIn_31 rfl rfl <|
    aw_iload_n (pc := 32) C (i := 1) dX11_markIn_32 rfl rfl <|
    aw_iload_n (pc := 33) C (i := 2) dX11_markIn_33 rfl rfl <|
    aw_callF (pc := 34) C (cr_V (rest := []) (F := (X11_allStrides v1 v2)) C (c_X11_allStrides X.2.1 v1 v2) dX11_markIn_34 mf_X11_allStrides ml_X11_200 im_X11_allStrides se_X11_allStrides sR_0 rfl ⟨(Nat.le_of_ble_eq_true rfl), (Nat.le_of_ble_eq_true rfl)⟩ rfl rfl (Nat.le_of_ble_eq_true rfl)) rfl rfl rfl (Nat.zero_le _) (Nat.zero_le _) fun r5 h6 =>
    aw_aload_n (pc := 37) C (i := 0) dX11_markIn_37 rfl rfl <|
    aw_iload_n (pc := 38) C (i := 1) dX11_markIn_38 rfl rfl <|
    aw_callF (pc := 39) C (cr_V (rest := [.int r5]) (F := (X11_aimOf v1)) C (c_X11_aimOf X.2.1 v1) dX11_markIn_39 mf_X11_aimOf ml_X11_210 im_X11_aimOf se_X11_aimOf sR_0 rfl ⟨(Nat.le_of_ble_eq_true rfl), (Nat.le_of_ble_eq_true rfl)⟩ rfl rfl (Nat.le_of_ble_eq_true rfl)) rfl rfl rfl (Nat.zero_le _) (Nat.zero_le _) fun r7 h8 =>
    aw_iadd (pc := 42) C dX11_markIn_42 <|
    aw_istoreV (pc := 43) C (i := 4) (fun x9 => [(0, .ref 0), (1, .int v1), (2, .int v2), (3, .int s0), (4, .int x9)]) dX11_markIn_43 (by decide) (fun _ => rfl) fun x9 =>
    aw_iload (pc := 45) C (i := 4) dX11_markIn_45 rfl <|
    aw_if_ge (pc := 47) C (tgt := 54) dX11_markIn_47 rfl (fun _ =>
    aw_iload (pc := 54) C (i := 4) dX11_markIn_54 rfl <|
    aw_sipush (pc := 56) C (v := 2400) dX11_markIn_56 rfl <|
    aw_icmp_le (pc := 59) C (tgt := 68) dX11_markIn_59 rfl (fun _ =>
    aw_iload (pc := 68) C (i := 4) dX11_markIn_68 rfl <|
    aw_iret (pc := 70) C dX11_markIn_70 rfl rfl) (fun _ =>
    aw_sipush (pc := 62) C (v := 2400) dX11_markIn_62 rfl <|
    aw_goto (pc := 65) C (tgt := 70) dX11_markIn_65 rfl <|
    aw_iret (pc := 70) C dX11_markIn_70 rfl rfl)) (fun _ =>
    aw_iconst (pc := 50) C (v := 0) dX11_markIn_50 rfl <|
    aw_goto (pc := 51) C (tgt := 70) dX11_markIn_51 rfl <|
    aw_iret (pc := 70) C dX11_markIn_70 rfl rfl)) (fun _ =>
    aw_aload_n (pc := 25) C (i := 0) dX11_markIn_25 rfl rfl <|
    aw_iload_n (pc := 26) C (i := 3) dX11_markIn_26 rfl rfl <|
    aw_callF (pc := 27) C (cr_V (rest := []) (F := (X11_no s0)) C (c_X11_no X.2.1 s0) dX11_markIn_27 mf_X11_no ml_X11_115 im_X11_no se_X11_no sR_0 rfl ⟨(Nat.le_of_ble_eq_true rfl), (Nat.le_of_ble_eq_true rfl)⟩ rfl rfl (Nat.le_of_ble_eq_true rfl)) rfl rfl rfl (Nat.zero_le _) (Nat.zero_le _) fun r10 h11 =>
    aw_iret (pc := 30) C dX11_markIn_30 rfl rfl)
def X11_markIn (v1 : Int32) (v2 : Int32) (h : AH) : Option (Int32 × AH) :=
    bd (X11_isJumper v1 h) fun r1 h2 =>
    if r1 = 0 then (X11_markIn_j20 v1 v2 (-1) h2)
    else (bd (X11_bound v2 (-9) 9 h2) fun r3 h4 =>
    X11_markIn_j20 v1 v2 r3 h4)
set_option maxRecDepth 100000 in
theorem c_X11_markIn (l : Launch) (v1 : Int32) (v2 : Int32) : MC l yX11_markIn cX11_markIn 5 (some .int) rmX11_markIn ZR [.ref 0, .int v1, .int v2] rvI (X11_markIn v1 v2) :=
  MC.of (own := RX11) (by decide +kernel) rfl (Nat.le_of_ble_eq_true rfl) fun X yd A h _ C =>
    aw_aload_n (pc := 0) C (i := 0) dX11_markIn_0 rfl rfl <|
    aw_iload_n (pc := 1) C (i := 1) dX11_markIn_1 rfl rfl <|
    aw_callF (pc := 2) C (cr_V (rest := []) (F := (X11_isJumper v1)) C (c_X11_isJumper X.2.1 v1) dX11_markIn_2 mf_X11_isJumper ml_X11_207 im_X11_isJumper se_X11_isJumper sR_0 rfl ⟨(Nat.le_of_ble_eq_true rfl), (Nat.le_of_ble_eq_true rfl)⟩ rfl rfl (Nat.le_of_ble_eq_true rfl)) rfl rfl rfl (Nat.zero_le _) (Nat.zero_le _) fun r1 h2 =>
    aw_if_ne (pc := 5) C (tgt := 12) dX11_markIn_5 rfl (fun _ =>
    aw_iconst (pc := 8) C (v := (-1)) dX11_markIn_8 rfl <|
    aw_goto (pc := 9) C (tgt := 20) dX11_markIn_9 rfl <|
    (aX11_markIn_j20 C v1 v2 (-1) h2)) (fun _ =>
    aw_iload_n (pc := 12) C (i := 2) dX11_markIn_12 rfl rfl <|
    aw_bipush (pc := 13) C (v := (-9)) dX11_markIn_13 rfl <|
    aw_bipush (pc := 15) C (v := 9) dX11_markIn_15 rfl <|
    aw_callF (pc := 17) C (cr_S (rest := []) (F := (X11_bound v2 (-9) 9)) C (c_X11_bound X.2.1 v2 (-9) 9) dX11_markIn_17 mf_X11_bound ml_X11_108 st_X11_bound ⟨(Nat.le_of_ble_eq_true rfl), (Nat.le_of_ble_eq_true rfl)⟩ rfl rfl (Nat.le_of_ble_eq_true rfl)) rfl rfl rfl (Nat.zero_le _) (Nat.zero_le _) fun r3 h4 =>
    (aX11_markIn_j20 C v1 v2 r3 h4))

abbrev rmX11_triesBy : Room := { frames := 0, cells := 0, slots := 0, locals := 0 }
def X11_triesBy_j42  (v1 : Int32) (v2 : Int32) (v4 : Int32) (K5 : Int32 → Int32 → AH → Option (Int32 × AH)) (s0 : Int32) (s1 : Int32) (h : AH) : Option (Int32 × AH) :=
    vl (s1 + s0) fun x1 =>
    vl (v4 + 1) fun x2 =>
    K5 x1 x2 h
set_option maxRecDepth 100000 in
theorem aX11_triesBy_j42 {X : MCx} {yd : Dyn} {A : Nat → Prop} (C : OK X cX11_triesBy RX11 5 (some .int) rmX11_triesBy A)  (v1 : Int32) (v2 : Int32) (v4 : Int32) (K5 : Int32 → Int32 → AH → Option (Int32 × AH)) (hK5 : ∀ (w3 : Int32) (w4 : Int32) (h : AH), AW X 5 ZR yd A 0 0 (QF X rmX11_triesBy ZR yd rvI A) 5 [(0, .ref 0), (1, .int v1), (2, .int v2), (3, .int w3), (4, .int w4)] [] h (K5 w3 w4 h)) (s0 : Int32) (s1 : Int32) (h : AH) : AW X 5 ZR yd A 0 0 (QF X rmX11_triesBy ZR yd rvI A) 42 [(0, .ref 0), (1, .int v1), (2, .int v2), (4, .int v4)] [.int s0, .int s1] h (X11_triesBy_j42 v1 v2 v4 K5 s0 s1 h) := by
    exact aw_iadd (pc := 42) C dX11_triesBy_42 <|
    aw_istoreV_n (pc := 43) C (i := 3) (fun x1 => [(0, .ref 0), (1, .int v1), (2, .int v2), (3, .int x1), (4, .int v4)]) dX11_triesBy_43 rfl (by decide) (fun _ => rfl) fun x1 =>
    aw_iincV (pc := 44) C (i := 4) (cst := 1) (fun x2 => [(0, .ref 0), (1, .int v1), (2, .int v2), (3, .int x1), (4, .int x2)]) dX11_triesBy_44 rfl rfl (by decide) (fun _ => rfl) fun x2 =>
    aw_goto (pc := 47) C (tgt := 5) dX11_triesBy_47 rfl <|
    (hK5 x1 x2 h)
def X11_triesBy_j41  (v1 : Int32) (v2 : Int32) (v4 : Int32) (K5 : Int32 → Int32 → AH → Option (Int32 × AH)) (s0 : Int32) (h : AH) : Option (Int32 × AH) :=
    X11_triesBy_j42 v1 v2 v4 K5 0 s0 h
set_option maxRecDepth 100000 in
theorem aX11_triesBy_j41 {X : MCx} {yd : Dyn} {A : Nat → Prop} (C : OK X cX11_triesBy RX11 5 (some .int) rmX11_triesBy A)  (v1 : Int32) (v2 : Int32) (v4 : Int32) (K5 : Int32 → Int32 → AH → Option (Int32 × AH)) (hK5 : ∀ (w3 : Int32) (w4 : Int32) (h : AH), AW X 5 ZR yd A 0 0 (QF X rmX11_triesBy ZR yd rvI A) 5 [(0, .ref 0), (1, .int v1), (2, .int v2), (3, .int w3), (4, .int w4)] [] h (K5 w3 w4 h)) (s0 : Int32) (h : AH) : AW X 5 ZR yd A 0 0 (QF X rmX11_triesBy ZR yd rvI A) 41 [(0, .ref 0), (1, .int v1), (2, .int v2), (4, .int v4)] [.int s0] h (X11_triesBy_j41 v1 v2 v4 K5 s0 h) := by
    exact aw_iconst (pc := 41) C (v := 0) dX11_triesBy_41 rfl <|
    (aX11_triesBy_j42 C v1 v2 v4 K5 hK5 0 s0 h)
def X11_triesBy_l5  (v1 : Int32) (v2 : Int32) : Nat → Int32 → Int32 → AH → Option (Int32 × AH)
  | 0, _, _, _ => none
  | n + 1, v3, v4, h =>
    if (h.1 0 16) ≤ v4 then (some (v3, h))
    else (ck v4 24 (if (h.1 10 v4.toNatClampNeg) = v1 then (ck v4 24 (if (h.1 11 v4.toNatClampNeg) = v2 then (X11_triesBy_j42 v1 v2 v4 (X11_triesBy_l5 v1 v2 n) 1 v3 h)
    else (X11_triesBy_j41 v1 v2 v4 (X11_triesBy_l5 v1 v2 n) v3 h)))
    else (X11_triesBy_j41 v1 v2 v4 (X11_triesBy_l5 v1 v2 n) v3 h)))
set_option maxRecDepth 100000 in
theorem aX11_triesBy_l5 {X : MCx} {yd : Dyn} {A : Nat → Prop} (C : OK X cX11_triesBy RX11 5 (some .int) rmX11_triesBy A)  (v1 : Int32) (v2 : Int32) : ∀ (n : Nat) (v3 : Int32) (v4 : Int32) (h : AH), AW X 5 ZR yd A 0 0 (QF X rmX11_triesBy ZR yd rvI A) 5 [(0, .ref 0), (1, .int v1), (2, .int v2), (3, .int v3), (4, .int v4)] [] h (X11_triesBy_l5 v1 v2 n v3 v4 h) := by
  intro n
  induction n with
  | zero => intro v3 v4 h; exact aw_none
  | succ n ih =>
    intro v3 v4 h
    exact aw_iload (pc := 5) C (i := 4) dX11_triesBy_5 rfl <|
    aw_aload_n (pc := 7) C (i := 0) dX11_triesBy_7 rfl rfl <|
    aw_getI (pc := 8) C dX11_triesBy_8 fl_X11_147 sR_0 rfl <|
    aw_icmp_ge (pc := 11) C (tgt := 50) dX11_triesBy_11 rfl (fun _ =>
    aw_iload_n (pc := 50) C (i := 3) dX11_triesBy_50 rfl rfl <|
    aw_iret (pc := 51) C dX11_triesBy_51 rfl rfl) (fun _ =>
    aw_iload_n (pc := 14) C (i := 3) dX11_triesBy_14 rfl rfl <|
    aw_aload_n (pc := 15) C (i := 0) dX11_triesBy_15 rfl rfl <|
    aw_getR (pc := 16) C (b := 10) dX11_triesBy_16 fl_X11_37 sR_0 rfl rR_0_9 <|
    aw_iload (pc := 19) C (i := 4) dX11_triesBy_19 rfl <|
    aw_iald (pc := 21) C dX11_triesBy_21 sR_10 rfl <|
    aw_iload_n (pc := 22) C (i := 1) dX11_triesBy_22 rfl rfl <|
    aw_icmp_ne (pc := 23) C (tgt := 41) dX11_triesBy_23 rfl (fun _ =>
    aw_aload_n (pc := 26) C (i := 0) dX11_triesBy_26 rfl rfl <|
    aw_getR (pc := 27) C (b := 11) dX11_triesBy_27 fl_X11_40 sR_0 rfl rR_0_10 <|
    aw_iload (pc := 30) C (i := 4) dX11_triesBy_30 rfl <|
    aw_iald (pc := 32) C dX11_triesBy_32 sR_11 rfl <|
    aw_iload_n (pc := 33) C (i := 2) dX11_triesBy_33 rfl rfl <|
    aw_icmp_ne (pc := 34) C (tgt := 41) dX11_triesBy_34 rfl (fun _ =>
    aw_iconst (pc := 37) C (v := 1) dX11_triesBy_37 rfl <|
    aw_goto (pc := 38) C (tgt := 42) dX11_triesBy_38 rfl <|
    aw_drop [0, 1, 2, 4] (aX11_triesBy_j42 C v1 v2 v4 (X11_triesBy_l5 v1 v2 n) ih 1 v3 h)) (fun _ =>
    aw_drop [0, 1, 2, 4] (aX11_triesBy_j41 C v1 v2 v4 (X11_triesBy_l5 v1 v2 n) ih v3 h))) (fun _ =>
    aw_drop [0, 1, 2, 4] (aX11_triesBy_j41 C v1 v2 v4 (X11_triesBy_l5 v1 v2 n) ih v3 h)))
def X11_triesBy (v1 : Int32) (v2 : Int32) (h : AH) : Option (Int32 × AH) :=
    X11_triesBy_l5 v1 v2 FU 0 0 h
set_option maxRecDepth 100000 in
theorem c_X11_triesBy (l : Launch) (v1 : Int32) (v2 : Int32) : MC l yX11_triesBy cX11_triesBy 5 (some .int) rmX11_triesBy ZR [.ref 0, .int v1, .int v2] rvI (X11_triesBy v1 v2) :=
  MC.of (own := RX11) (by decide +kernel) rfl (Nat.le_of_ble_eq_true rfl) fun X yd A h _ C =>
    aw_iconst (pc := 0) C (v := 0) dX11_triesBy_0 rfl <|
    aw_istore_n (pc := 1) C (i := 3) (lv' := [(0, .ref 0), (1, .int v1), (2, .int v2), (3, .int 0)]) dX11_triesBy_1 rfl (by decide) rfl <|
    aw_iconst (pc := 2) C (v := 0) dX11_triesBy_2 rfl <|
    aw_istore (pc := 3) C (i := 4) (lv' := [(0, .ref 0), (1, .int v1), (2, .int v2), (3, .int 0), (4, .int 0)]) dX11_triesBy_3 (by decide) rfl <|
    (aX11_triesBy_l5 C v1 v2 FU 0 0 h)
