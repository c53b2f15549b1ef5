abbrev rmX10_needs : Room := { frames := 3, cells := 0, slots := 0, locals := 95 }
def X10_needs_j60  (s0 : Int32) (s1 : Int32) (h : AH) : Option (Int32 × AH) :=
    bd (X10_leastFor s1 s0 h) fun r11 h12 =>
    some (r11, h12)
set_option maxRecDepth 100000 in
theorem aX10_needs_j60 {X : MCx} {yd : Dyn} {A : Nat → Prop} (C : OK X cX10_needs RX10 4 (some .int) rmX10_needs A)  (s0 : Int32) (s1 : Int32) (h : AH) : AW X 4 ZC yd A 0 0 (QF X rmX10_needs ZC yd rvI A) 60 [] [.int s0, .int s1, .ref 0] h (X10_needs_j60 s0 s1 h) := by
    exact aw_callF (pc := 60) C (cr_V (rest := []) (F := (X10_leastFor s1 s0)) C (c_X10_leastFor X.2.1 s1 s0) dX10_needs_60 mf_X10_leastFor ml_X10_309 im_X10_leastFor se_X10_leastFor sC_0 rfl ⟨(Nat.le_of_ble_eq_true rfl), (Nat.le_of_ble_eq_true rfl)⟩ rfl rfl (Nat.le_of_ble_eq_true rfl)) rfl rfl rfl (Nat.zero_le _) (Nat.zero_le _) fun r11 h12 =>
    aw_iret (pc := 63) C dX10_needs_63 rfl rfl
def X10_needs (v1 : Int32) (v2 : Int32) (h : AH) : Option (Int32 × AH) :=
    bd (X10_nobody v1 h) fun r1 h2 =>
    bd (X10_noSuch v2 1 h2) fun r3 h4 =>
    bd (X10_first r1 r3 h4) fun r5 h6 =>
    if r5 = 0 then (bd (X5_rank 42 0 (h6.1 42 4) h6) fun _ h8 =>
    if v2 = 0 then (X10_needs_j60 1 v1 h8)
    else (bd (X5_finalists 42 h8) fun r9 h10 =>
    X10_needs_j60 r9 v1 h10))
    else (bd (X10_refuse r5 h6) fun r13 h14 =>
    some (r13, h14))
set_option maxRecDepth 100000 in
theorem c_X10_needs (l : Launch) (v1 : Int32) (v2 : Int32) : MC l yX10_needs cX10_needs 4 (some .int) rmX10_needs ZC [.ref 0, .int v1, .int v2] rvI (X10_needs v1 v2) :=
  MC.of (own := RX10) (by decide +kernel) rfl (Nat.le_of_ble_eq_true rfl) fun X yd A h _ C =>
    aw_aload_n (pc := 0) C (i := 0) dX10_needs_0 rfl rfl <|
    aw_iload_n (pc := 1) C (i := 1) dX10_needs_1 rfl rfl <|
    aw_callF (pc := 2) C (cr_V (rest := []) (F := (X10_nobody v1)) C (c_X10_nobody X.2.1 v1) dX10_needs_2 mf_X10_nobody ml_X10_93 im_X10_nobody se_X10_nobody sC_0 rfl ⟨(Nat.le_of_ble_eq_true rfl), (Nat.le_of_ble_eq_true rfl)⟩ rfl rfl (Nat.le_of_ble_eq_true rfl)) rfl rfl rfl (Nat.zero_le _) (Nat.zero_le _) fun r1 h2 =>
    aw_iload_n (pc := 5) C (i := 2) dX10_needs_5 rfl rfl <|
    aw_iconst (pc := 6) C (v := 1) dX10_needs_6 rfl <|
    aw_callF (pc := 7) C (cr_S (rest := [.int r1]) (F := (X10_noSuch v2 1)) C (c_X10_noSuch X.2.1 v2 1) dX10_needs_7 mf_X10_noSuch ml_X10_101 st_X10_noSuch ⟨(Nat.le_of_ble_eq_true rfl), (Nat.le_of_ble_eq_true rfl)⟩ rfl rfl (Nat.le_of_ble_eq_true rfl)) rfl rfl rfl (Nat.zero_le _) (Nat.zero_le _) fun r3 h4 =>
    aw_callF (pc := 10) C (cr_S (rest := []) (F := (X10_first r1 r3)) C (c_X10_first X.2.1 r1 r3) dX10_needs_10 mf_X10_first ml_X10_97 st_X10_first ⟨(Nat.le_of_ble_eq_true rfl), (Nat.le_of_ble_eq_true rfl)⟩ rfl rfl (Nat.le_of_ble_eq_true rfl)) rfl rfl rfl (Nat.zero_le _) (Nat.zero_le _) fun r5 h6 =>
    aw_istore_n (pc := 13) C (i := 3) (lv' := [(0, .ref 0), (1, .int v1), (2, .int v2), (3, .int r5)]) dX10_needs_13 rfl (by decide) rfl <|
    aw_iload_n (pc := 14) C (i := 3) dX10_needs_14 rfl rfl <|
    aw_if_eq (pc := 15) C (tgt := 24) dX10_needs_15 rfl (fun _ =>
    aw_aload_n (pc := 24) C (i := 0) dX10_needs_24 rfl rfl <|
    aw_getR (pc := 25) C (b := 42) dX10_needs_25 fl_X10_72 sC_0 rfl rC_0_1 <|
    aw_aload_n (pc := 28) C (i := 0) dX10_needs_28 rfl rfl <|
    aw_getR (pc := 29) C (b := 5) dX10_needs_29 fl_X10_28 sC_0 rfl rC_0_10 <|
    aw_iconst (pc := 32) C (v := 0) dX10_needs_32 rfl <|
    aw_aload_n (pc := 33) C (i := 0) dX10_needs_33 rfl rfl <|
    aw_getR (pc := 34) C (b := 42) dX10_needs_34 fl_X10_72 sC_0 rfl rC_0_1 <|
    aw_getI (pc := 37) C dX10_needs_37 fl_X10_160 (mt_s (Or.inl rfl)) rfl <|
    aw_callF (pc := 40) C (cr_V (rest := []) (F := (X5_rank 42 0 (h6.1 42 4))) C (c_X5_rank X.2.1 42 (Or.inl rfl) 0 (h6.1 42 4)) dX10_needs_40 mf_X5_rank ml_X10_214 im_X5_rank se_X5_rank (mt_s (Or.inl rfl)) rfl ⟨(Nat.le_of_ble_eq_true rfl), (Nat.le_of_ble_eq_true rfl)⟩ rfl rfl (Nat.le_of_ble_eq_true rfl)) rfl rfl rfl (Nat.zero_le _) (Nat.zero_le _) fun _ h8 =>
    aw_aload_n (pc := 43) C (i := 0) dX10_needs_43 rfl rfl <|
    aw_iload_n (pc := 44) C (i := 1) dX10_needs_44 rfl rfl <|
    aw_iload_n (pc := 45) C (i := 2) dX10_needs_45 rfl rfl <|
    aw_if_ne (pc := 46) C (tgt := 53) dX10_needs_46 rfl (fun _ =>
    aw_iconst (pc := 49) C (v := 1) dX10_needs_49 rfl <|
    aw_goto (pc := 50) C (tgt := 60) dX10_needs_50 rfl <|
    aw_drop [] (aX10_needs_j60 C 1 v1 h8)) (fun _ =>
    aw_aload_n (pc := 53) C (i := 0) dX10_needs_53 rfl rfl <|
    aw_getR (pc := 54) C (b := 42) dX10_needs_54 fl_X10_72 sC_0 rfl rC_0_1 <|
    aw_callF (pc := 57) C (cr_V (rest := [.int v1, .ref 0]) (F := (X5_finalists 42)) C (c_X5_finalists X.2.1 42 (Or.inl rfl)) dX10_needs_57 mf_X5_finalists ml_X10_306 im_X5_finalists se_X5_finalists (mt_s (Or.inl rfl)) rfl ⟨(Nat.le_of_ble_eq_true rfl), (Nat.le_of_ble_eq_true rfl)⟩ rfl rfl (Nat.le_of_ble_eq_true rfl)) rfl rfl rfl (Nat.zero_le _) (Nat.zero_le _) fun r9 h10 =>
    aw_drop [] (aX10_needs_j60 C r9 v1 h10))) (fun _ =>
    aw_aload_n (pc := 18) C (i := 0) dX10_needs_18 rfl rfl <|
    aw_iload_n (pc := 19) C (i := 3) dX10_needs_19 rfl rfl <|
    aw_callF (pc := 20) C (cr_V (rest := []) (F := (X10_refuse r5)) C (c_X10_refuse X.2.1 r5) dX10_needs_20 mf_X10_refuse ml_X10_111 im_X10_refuse se_X10_refuse sC_0 rfl ⟨(Nat.le_of_ble_eq_true rfl), (Nat.le_of_ble_eq_true rfl)⟩ rfl rfl (Nat.le_of_ble_eq_true rfl)) rfl rfl rfl (Nat.zero_le _) (Nat.zero_le _) fun r13 h14 =>
    aw_iret (pc := 23) C dX10_needs_23 rfl rfl)

abbrev rmX10_ranks : Room := { frames := 3, cells := 0, slots := 0, locals := 94 }
def X10_ranks_l48  : Nat → Int32 → Int32 → AH → Option (Int32 × AH)
  | 0, _, _, _ => none
  | n + 1, v3, v4, h =>
    if v4 < 0 then (some (v3, h))
    else (bd (X6_at v4 h) fun r6 h7 =>
    vl ((10 * v3) + r6) fun x8 =>
    vl (v4 + (-1)) fun x9 =>
    (X10_ranks_l48 n) x8 x9 h7)
set_option maxRecDepth 100000 in
theorem aX10_ranks_l48 {X : MCx} {yd : Dyn} {A : Nat → Prop} (C : OK X cX10_ranks RX10 5 (some .int) rmX10_ranks A)  : ∀ (n : Nat) (v3 : Int32) (v4 : Int32) (h : AH), AW X 5 ZC yd A 0 0 (QF X rmX10_ranks ZC yd rvI A) 48 [(0, .ref 0), (3, .int v3), (4, .int v4)] [] h (X10_ranks_l48 n v3 v4 h) := by
  intro n
  induction n with
  | zero => intro v3 v4 h; exact aw_none
  | succ n ih =>
    intro v3 v4 h
    exact aw_iload (pc := 48) C (i := 4) dX10_ranks_48 rfl <|
    aw_if_lt (pc := 50) C (tgt := 74) dX10_ranks_50 rfl (fun _ =>
    aw_iload_n (pc := 74) C (i := 3) dX10_ranks_74 rfl rfl <|
    aw_iret (pc := 75) C dX10_ranks_75 rfl rfl) (fun _ =>
    aw_bipush (pc := 53) C (v := 10) dX10_ranks_53 rfl <|
    aw_iload_n (pc := 55) C (i := 3) dX10_ranks_55 rfl rfl <|
    aw_imul (pc := 56) C dX10_ranks_56 <|
    aw_aload_n (pc := 57) C (i := 0) dX10_ranks_57 rfl rfl <|
    aw_getR (pc := 58) C (b := 5) dX10_ranks_58 fl_X10_28 sC_0 rfl rC_0_10 <|
    aw_iload (pc := 61) C (i := 4) dX10_ranks_61 rfl <|
    aw_callF (pc := 63) C (cr_V (rest := [.int (10 * v3)]) (F := (X6_at v4)) C (c_X6_at X.2.1 v4) dX10_ranks_63 mf_X6_at ml_X10_315 im_X6_at se_X6_at sC_5 rfl ⟨(Nat.le_of_ble_eq_true rfl), (Nat.le_of_ble_eq_true rfl)⟩ rfl rfl (Nat.le_of_ble_eq_true rfl)) rfl rfl rfl (Nat.zero_le _) (Nat.zero_le _) fun r6 h7 =>
    aw_iadd (pc := 66) C dX10_ranks_66 <|
    aw_istoreV_n (pc := 67) C (i := 3) (fun x8 => [(0, .ref 0), (3, .int x8), (4, .int v4)]) dX10_ranks_67 rfl (by decide) (fun _ => rfl) fun x8 =>
    aw_iincV (pc := 68) C (i := 4) (cst := (-1)) (fun x9 => [(0, .ref 0), (3, .int x8), (4, .int x9)]) dX10_ranks_68 rfl rfl (by decide) (fun _ => rfl) fun x9 =>
    aw_goto (pc := 71) C (tgt := 48) dX10_ranks_71 rfl <|
    (ih x8 x9 h7))
def X10_ranks (v1 : Int32) (h : AH) : Option (Int32 × AH) :=
    bd (X10_noSuch v1 2 h) fun r1 h2 =>
    if r1 = 0 then (bd (X5_rank 42 v1 (h2.1 42 4) h2) fun _ h4 =>
    vl ((h4.1 42 3) - 1) fun x5 =>
    X10_ranks_l48 FU 0 x5 h4)
    else (bd (X10_refuse r1 h2) fun r10 h11 =>
    some (r10, h11))
set_option maxRecDepth 100000 in
theorem c_X10_ranks (l : Launch) (v1 : Int32) : MC l yX10_ranks cX10_ranks 5 (some .int) rmX10_ranks ZC [.ref 0, .int v1] rvI (X10_ranks v1) :=
  MC.of (own := RX10) (by decide +kernel) rfl (Nat.le_of_ble_eq_true rfl) fun X yd A h _ C =>
    aw_iload_n (pc := 0) C (i := 1) dX10_ranks_0 rfl rfl <|
    aw_iconst (pc := 1) C (v := 2) dX10_ranks_1 rfl <|
    aw_callF (pc := 2) C (cr_S (rest := []) (F := (X10_noSuch v1 2)) C (c_X10_noSuch X.2.1 v1 2) dX10_ranks_2 mf_X10_noSuch ml_X10_101 st_X10_noSuch ⟨(Nat.le_of_ble_eq_true rfl), (Nat.le_of_ble_eq_true rfl)⟩ rfl rfl (Nat.le_of_ble_eq_true rfl)) rfl rfl rfl (Nat.zero_le _) (Nat.zero_le _) fun r1 h2 =>
    aw_istore_n (pc := 5) C (i := 2) (lv' := [(0, .ref 0), (1, .int v1), (2, .int r1)]) dX10_ranks_5 rfl (by decide) rfl <|
    aw_iload_n (pc := 6) C (i := 2) dX10_ranks_6 rfl rfl <|
    aw_if_eq (pc := 7) C (tgt := 16) dX10_ranks_7 rfl (fun _ =>
    aw_aload_n (pc := 16) C (i := 0) dX10_ranks_16 rfl rfl <|
    aw_getR (pc := 17) C (b := 42) dX10_ranks_17 fl_X10_72 sC_0 rfl rC_0_1 <|
    aw_aload_n (pc := 20) C (i := 0) dX10_ranks_20 rfl rfl <|
    aw_getR (pc := 21) C (b := 5) dX10_ranks_21 fl_X10_28 sC_0 rfl rC_0_10 <|
    aw_iload_n (pc := 24) C (i := 1) dX10_ranks_24 rfl rfl <|
    aw_aload_n (pc := 25) C (i := 0) dX10_ranks_25 rfl rfl <|
    aw_getR (pc := 26) C (b := 42) dX10_ranks_26 fl_X10_72 sC_0 rfl rC_0_1 <|
    aw_getI (pc := 29) C dX10_ranks_29 fl_X10_160 (mt_s (Or.inl rfl)) rfl <|
    aw_callF (pc := 32) C (cr_V (rest := []) (F := (X5_rank 42 v1 (h2.1 42 4))) C (c_X5_rank X.2.1 42 (Or.inl rfl) v1 (h2.1 42 4)) dX10_ranks_32 mf_X5_rank ml_X10_214 im_X5_rank se_X5_rank (mt_s (Or.inl rfl)) rfl ⟨(Nat.le_of_ble_eq_true rfl), (Nat.le_of_ble_eq_true rfl)⟩ rfl rfl (Nat.le_of_ble_eq_true rfl)) rfl rfl rfl (Nat.zero_le _) (Nat.zero_le _) fun _ h4 =>
    aw_iconst (pc := 35) C (v := 0) dX10_ranks_35 rfl <|
    aw_istore_n (pc := 36) C (i := 3) (lv' := [(0, .ref 0), (1, .int v1), (2, .int r1), (3, .int 0)]) dX10_ranks_36 rfl (by decide) rfl <|
    aw_aload_n (pc := 37) C (i := 0) dX10_ranks_37 rfl rfl <|
    aw_getR (pc := 38) C (b := 42) dX10_ranks_38 fl_X10_72 sC_0 rfl rC_0_1 <|
    aw_getI (pc := 41) C dX10_ranks_41 fl_X10_89 (mt_s (Or.inl rfl)) rfl <|
    aw_iconst (pc := 44) C (v := 1) dX10_ranks_44 rfl <|
    aw_isub (pc := 45) C dX10_ranks_45 <|
    aw_istoreV (pc := 46) C (i := 4) (fun x5 => [(0, .ref 0), (1, .int v1), (2, .int r1), (3, .int 0), (4, .int x5)]) dX10_ranks_46 (by decide) (fun _ => rfl) fun x5 =>
    aw_drop [0, 3, 4] (aX10_ranks_l48 C FU 0 x5 h4)) (fun _ =>
    aw_aload_n (pc := 10) C (i := 0) dX10_ranks_10 rfl rfl <|
    aw_iload_n (pc := 11) C (i := 2) dX10_ranks_11 rfl rfl <|
    aw_callF (pc := 12) C (cr_V (rest := []) (F := (X10_refuse r1)) C (c_X10_refuse X.2.1 r1) dX10_ranks_12 mf_X10_refuse ml_X10_111 im_X10_refuse se_X10_refuse sC_0 rfl ⟨(Nat.le_of_ble_eq_true rfl), (Nat.le_of_ble_eq_true rfl)⟩ rfl rfl (Nat.le_of_ble_eq_true rfl)) rfl rfl rfl (Nat.zero_le _) (Nat.zero_le _) fun r10 h11 =>
    aw_iret (pc := 15) C dX10_ranks_15 rfl rfl)

abbrev rmX10_leads : Room := { frames := 4, cells := 0, slots := 0, locals := 115 }
def X10_leads  (h : AH) : Option (Int32 × AH) :=
    bd (X5_leader 42 h) fun r1 h2 =>
    some (r1, h2)
set_option maxRecDepth 100000 in
theorem c_X10_leads (l : Launch)  : MC l yX10_leads cX10_leads 1 (some .int) rmX10_leads ZC [.ref 0] rvI (X10_leads) :=
  MC.of (own := RX10) (by decide +kernel) rfl (Nat.le_of_ble_eq_true rfl) fun X yd A h _ C =>
    aw_aload_n (pc := 0) C (i := 0) dX10_leads_0 rfl rfl <|
    aw_getR (pc := 1) C (b := 42) dX10_leads_1 fl_X10_72 sC_0 rfl rC_0_1 <|
    aw_aload_n (pc := 4) C (i := 0) dX10_leads_4 rfl rfl <|
    aw_getR (pc := 5) C (b := 5) dX10_leads_5 fl_X10_28 sC_0 rfl rC_0_10 <|
    aw_callF (pc := 8) C (cr_V (rest := []) (F := (X5_leader 42)) C (c_X5_leader X.2.1 42 (Or.inl rfl)) dX10_leads_8 mf_X5_leader ml_X10_317 im_X5_leader se_X5_leader (mt_s (Or.inl rfl)) rfl ⟨(Nat.le_of_ble_eq_true rfl), (Nat.le_of_ble_eq_true rfl)⟩ rfl rfl (Nat.le_of_ble_eq_true rfl)) rfl rfl rfl (Nat.zero_le _) (Nat.zero_le _) fun r1 h2 =>
    aw_iret (pc := 11) C dX10_leads_11 rfl rfl

abbrev rmX10_goOn : Room := { frames := 3, cells := 0, slots := 0, locals := 94 }
def X10_goOn_l23  : Nat → Int32 → Int32 → AH → Option (Int32 × AH)
  | 0, _, _, _ => none
  | n + 1, v1, v2, h =>
    bd (X5_finalists 42 h) fun r3 h4 =>
    if r3 ≤ v2 then (some (v1, h4))
    else (bd (X6_at v2 h4) fun r5 h6 =>
    vl (v1 ||| (shl32 1 r5)) fun x7 =>
    vl (v2 + 1) fun x8 =>
    (X10_goOn_l23 n) x7 x8 h6)
set_option maxRecDepth 100000 in
theorem aX10_goOn_l23 {X : MCx} {yd : Dyn} {A : Nat → Prop} (C : OK X cX10_goOn RX10 3 (some .int) rmX10_goOn A)  : ∀ (n : Nat) (v1 : Int32) (v2 : Int32) (h : AH), AW X 3 ZC yd A 0 0 (QF X rmX10_goOn ZC yd rvI A) 23 [(0, .ref 0), (1, .int v1), (2, .int v2)] [] h (X10_goOn_l23 n v1 v2 h) := by
  intro n
  induction n with
  | zero => intro v1 v2 h; exact aw_none
  | succ n ih =>
    intro v1 v2 h
    exact aw_iload_n (pc := 23) C (i := 2) dX10_goOn_23 rfl rfl <|
    aw_aload_n (pc := 24) C (i := 0) dX10_goOn_24 rfl rfl <|
    aw_getR (pc := 25) C (b := 42) dX10_goOn_25 fl_X10_72 sC_0 rfl rC_0_1 <|
    aw_callF (pc := 28) C (cr_V (rest := [.int v2]) (F := (X5_finalists 42)) C (c_X5_finalists X.2.1 42 (Or.inl rfl)) dX10_goOn_28 mf_X5_finalists ml_X10_306 im_X5_finalists se_X5_finalists (mt_s (Or.inl rfl)) rfl ⟨(Nat.le_of_ble_eq_true rfl), (Nat.le_of_ble_eq_true rfl)⟩ rfl rfl (Nat.le_of_ble_eq_true rfl)) rfl rfl rfl (Nat.zero_le _) (Nat.zero_le _) fun r3 h4 =>
    aw_icmp_ge (pc := 31) C (tgt := 53) dX10_goOn_31 rfl (fun _ =>
    aw_iload_n (pc := 53) C (i := 1) dX10_goOn_53 rfl rfl <|
    aw_iret (pc := 54) C dX10_goOn_54 rfl rfl) (fun _ =>
    aw_iload_n (pc := 34) C (i := 1) dX10_goOn_34 rfl rfl <|
    aw_iconst (pc := 35) C (v := 1) dX10_goOn_35 rfl <|
    aw_aload_n (pc := 36) C (i := 0) dX10_goOn_36 rfl rfl <|
    aw_getR (pc := 37) C (b := 5) dX10_goOn_37 fl_X10_28 sC_0 rfl rC_0_10 <|
    aw_iload_n (pc := 40) C (i := 2) dX10_goOn_40 rfl rfl <|
    aw_callF (pc := 41) C (cr_V (rest := [.int 1, .int v1]) (F := (X6_at v2)) C (c_X6_at X.2.1 v2) dX10_goOn_41 mf_X6_at ml_X10_315 im_X6_at se_X6_at sC_5 rfl ⟨(Nat.le_of_ble_eq_true rfl), (Nat.le_of_ble_eq_true rfl)⟩ rfl rfl (Nat.le_of_ble_eq_true rfl)) rfl rfl rfl (Nat.zero_le _) (Nat.zero_le _) fun r5 h6 =>
    aw_ishl (pc := 44) C dX10_goOn_44 <|
    aw_ior (pc := 45) C dX10_goOn_45 <|
    aw_istoreV_n (pc := 46) C (i := 1) (fun x7 => [(0, .ref 0), (1, .int x7), (2, .int v2)]) dX10_goOn_46 rfl (by decide) (fun _ => rfl) fun x7 =>
    aw_iincV (pc := 47) C (i := 2) (cst := 1) (fun x8 => [(0, .ref 0), (1, .int x7), (2, .int x8)]) dX10_goOn_47 rfl rfl (by decide) (fun _ => rfl) fun x8 =>
    aw_goto (pc := 50) C (tgt := 23) dX10_goOn_50 rfl <|
    (ih x7 x8 h6))
def X10_goOn  (h : AH) : Option (Int32 × AH) :=
    bd (X5_rank 42 0 (h.1 42 4) h) fun _ h2 =>
    X10_goOn_l23 FU 0 0 h2
set_option maxRecDepth 100000 in
theorem c_X10_goOn (l : Launch)  : MC l yX10_goOn cX10_goOn 3 (some .int) rmX10_goOn ZC [.ref 0] rvI (X10_goOn) :=
  MC.of (own := RX10) (by decide +kernel) rfl (Nat.le_of_ble_eq_true rfl) fun X yd A h _ C =>
    aw_aload_n (pc := 0) C (i := 0) dX10_goOn_0 rfl rfl <|
    aw_getR (pc := 1) C (b := 42) dX10_goOn_1 fl_X10_72 sC_0 rfl rC_0_1 <|
    aw_aload_n (pc := 4) C (i := 0) dX10_goOn_4 rfl rfl <|
    aw_getR (pc := 5) C (b := 5) dX10_goOn_5 fl_X10_28 sC_0 rfl rC_0_10 <|
    aw_iconst (pc := 8) C (v := 0) dX10_goOn_8 rfl <|
    aw_aload_n (pc := 9) C (i := 0) dX10_goOn_9 rfl rfl <|
    aw_getR (pc := 10) C (b := 42) dX10_goOn_10 fl_X10_72 sC_0 rfl rC_0_1 <|
    aw_getI (pc := 13) C dX10_goOn_13 fl_X10_160 (mt_s (Or.inl rfl)) rfl <|
    aw_callF (pc := 16) C (cr_V (rest := []) (F := (X5_rank 42 0 (h.1 42 4))) C (c_X5_rank X.2.1 42 (Or.inl rfl) 0 (h.1 42 4)) dX10_goOn_16 mf_X5_rank ml_X10_214 im_X5_rank se_X5_rank (mt_s (Or.inl rfl)) rfl ⟨(Nat.le_of_ble_eq_true rfl), (Nat.le_of_ble_eq_true rfl)⟩ rfl rfl (Nat.le_of_ble_eq_true rfl)) rfl rfl rfl (Nat.zero_le _) (Nat.zero_le _) fun _ h2 =>
    aw_iconst (pc := 19) C (v := 0) dX10_goOn_19 rfl <|
    aw_istore_n (pc := 20) C (i := 1) (lv' := [(0, .ref 0), (1, .int 0)]) dX10_goOn_20 rfl (by decide) rfl <|
    aw_iconst (pc := 21) C (v := 0) dX10_goOn_21 rfl <|
    aw_istore_n (pc := 22) C (i := 2) (lv' := [(0, .ref 0), (1, .int 0), (2, .int 0)]) dX10_goOn_22 rfl (by decide) rfl <|
    (aX10_goOn_l23 C FU 0 0 h2)

abbrev rmX10_leftOf : Room := { frames := 0, cells := 0, slots := 0, locals := 0 }
def X10_leftOf_l6  (v0 : Int32) (v1 : Int32) : Nat → Int32 → Int32 → AH → Option (Int32 × AH)
  | 0, _, _, _ => none
  | n + 1, v2, v3, h =>
    if v1 ≤ v3 then (some (v2, h))
    else (vl ((v2 * (10000 - v0)) / 10000) fun x1 =>
    vl (v3 + 1) fun x2 =>
    (X10_leftOf_l6 v0 v1 n) x1 x2 h)
set_option maxRecDepth 100000 in
theorem aX10_leftOf_l6 {X : MCx} {yd : Dyn} {A : Nat → Prop} (C : OK X cX10_leftOf RX10 4 (some .int) rmX10_leftOf A)  (v0 : Int32) (v1 : Int32) : ∀ (n : Nat) (v2 : Int32) (v3 : Int32) (h : AH), AW X 4 ZC yd A 0 0 (QF X rmX10_leftOf ZC yd rvI A) 6 [(0, .int v0), (1, .int v1), (2, .int v2), (3, .int v3)] [] h (X10_leftOf_l6 v0 v1 n v2 v3 h) := by
  intro n
  induction n with
  | zero => intro v2 v3 h; exact aw_none
  | succ n ih =>
    intro v2 v3 h
    exact aw_iload_n (pc := 6) C (i := 3) dX10_leftOf_6 rfl rfl <|
    aw_iload_n (pc := 7) C (i := 1) dX10_leftOf_7 rfl rfl <|
    aw_icmp_ge (pc := 8) C (tgt := 29) dX10_leftOf_8 rfl (fun _ =>
    aw_iload_n (pc := 29) C (i := 2) dX10_leftOf_29 rfl rfl <|
    aw_iret (pc := 30) C dX10_leftOf_30 rfl rfl) (fun _ =>
    aw_iload_n (pc := 11) C (i := 2) dX10_leftOf_11 rfl rfl <|
    aw_sipush (pc := 12) C (v := 10000) dX10_leftOf_12 rfl <|
    aw_iload_n (pc := 15) C (i := 0) dX10_leftOf_15 rfl rfl <|
    aw_isub (pc := 16) C dX10_leftOf_16 <|
    aw_imul (pc := 17) C dX10_leftOf_17 <|
    aw_sipush (pc := 18) C (v := 10000) dX10_leftOf_18 rfl <|
    aw_idivK (pc := 21) C dX10_leftOf_21 (by decide) <|
    aw_istoreV_n (pc := 22) C (i := 2) (fun x1 => [(0, .int v0), (1, .int v1), (2, .int x1), (3, .int v3)]) dX10_leftOf_22 rfl (by decide) (fun _ => rfl) fun x1 =>
    aw_iincV (pc := 23) C (i := 3) (cst := 1) (fun x2 => [(0, .int v0), (1, .int v1), (2, .int x1), (3, .int x2)]) dX10_leftOf_23 rfl rfl (by decide) (fun _ => rfl) fun x2 =>
    aw_goto (pc := 26) C (tgt := 6) dX10_leftOf_26 rfl <|
    (ih x1 x2 h))
def X10_leftOf (v0 : Int32) (v1 : Int32) (h : AH) : Option (Int32 × AH) :=
    X10_leftOf_l6 v0 v1 FU 10000 0 h
set_option maxRecDepth 100000 in
theorem c_X10_leftOf (l : Launch) (v0 : Int32) (v1 : Int32) : MC l yX10_leftOf cX10_leftOf 4 (some .int) rmX10_leftOf ZC [.int v0, .int v1] rvI (X10_leftOf v0 v1) :=
  MC.of (own := RX10) (by decide +kernel) rfl (Nat.le_of_ble_eq_true rfl) fun X yd A h _ C =>
    aw_sipush (pc := 0) C (v := 10000) dX10_leftOf_0 rfl <|
    aw_istore_n (pc := 3) C (i := 2) (lv' := [(0, .int v0), (1, .int v1), (2, .int 10000)]) dX10_leftOf_3 rfl (by decide) rfl <|
    aw_iconst (pc := 4) C (v := 0) dX10_leftOf_4 rfl <|
    aw_istore_n (pc := 5) C (i := 3) (lv' := [(0, .int v0), (1, .int v1), (2, .int 10000), (3, .int 0)]) dX10_leftOf_5 rfl (by decide) rfl <|
    (aX10_leftOf_l6 C v0 v1 FU 10000 0 h)

abbrev rmX10_aim : Room := { frames := 6, cells := 0, slots := 0, locals := 158 }
def X10_aim_j120  (v1 : Int32) (v2 : Int32) (v3 : Int32) (v4 : Int32) (v6 : Int32) (v7 : Int32) (v8 : Int32) (K63 : Int32 → Int32 → Int32 → AH → Option (Int32 × AH)) (h : AH) : Option (Int32 × AH) :=
    vl (v8 + 1) fun x26 =>
    K63 v6 v7 x26 h
set_option maxRecDepth 100000 in
theorem aX10_aim_j120 {X : MCx} {yd : Dyn} {A : Nat → Prop} (C : OK X cX10_aim RX10 10 (some .int) rmX10_aim A)  (v1 : Int32) (v2 : Int32) (v3 : Int32) (v4 : Int32) (v6 : Int32) (v7 : Int32) (v8 : Int32) (K63 : Int32 → Int32 → Int32 → AH → Option (Int32 × AH)) (hK63 : ∀ (w6 : Int32) (w7 : Int32) (w8 : Int32) (h : AH), AW X 10 ZC yd A 0 0 (QF X rmX10_aim ZC yd rvI A) 63 [(0, .ref 0), (1, .int v1), (2, .int v2), (3, .int v3), (4, .int v4), (6, .int w6), (7, .int w7), (8, .int w8)] [] h (K63 w6 w7 w8 h)) (h : AH) : AW X 10 ZC yd A 0 0 (QF X rmX10_aim ZC yd rvI A) 120 [(0, .ref 0), (1, .int v1), (2, .int v2), (3, .int v3), (4, .int v4), (6, .int v6), (7, .int v7), (8, .int v8)] [] h (X10_aim_j120 v1 v2 v3 v4 v6 v7 v8 K63 h) := by
    exact aw_iincV (pc := 120) C (i := 8) (cst := 1) (fun x26 => [(0, .ref 0), (1, .int v1), (2, .int v2), (3, .int v3), (4, .int v4), (6, .int v6), (7, .int v7), (8, .int x26)]) dX10_aim_120 rfl rfl (by decide) (fun _ => rfl) fun x26 =>
    aw_goto (pc := 123) C (tgt := 63) dX10_aim_123 rfl <|
    (hK63 v6 v7 x26 h)
def X10_aim_l63  (v1 : Int32) (v2 : Int32) (v3 : Int32) (v4 : Int32) : Nat → Int32 → Int32 → Int32 → AH → Option (Int32 × AH)
  | 0, _, _, _, _ => none
  | n + 1, v6, v7, v8, h =>
    if 20 < v8 then (if v4 = 0 then (some (v6, h))
    else (some ((10000 - v7), h)))
    else (bd (X5_at 42 v1 h) fun r15 h16 =>
    cs ZC r15 (.inr 2) (bd (X10_spreadAt r15 v8 h16) fun _ h19 =>
    bd (X1_waysPast v3 h19) fun r20 h21 =>
    bd (X1_share r20 h21) fun r22 h23 =>
    bd (X10_leftOf r22 v2 h23) fun r24 h25 =>
    if v7 ≤ r24 then (X10_aim_j120 v1 v2 v3 v4 v6 v7 v8 (X10_aim_l63 v1 v2 v3 v4 n) h25)
    else (X10_aim_j120 v1 v2 v3 v4 v8 r24 v8 (X10_aim_l63 v1 v2 v3 v4 n) h25)))
set_option maxRecDepth 100000 in
theorem aX10_aim_l63 {X : MCx} {yd : Dyn} {A : Nat → Prop} (C : OK X cX10_aim RX10 10 (some .int) rmX10_aim A)  (v1 : Int32) (v2 : Int32) (v3 : Int32) (v4 : Int32) : ∀ (n : Nat) (v6 : Int32) (v7 : Int32) (v8 : Int32) (h : AH), AW X 10 ZC yd A 0 0 (QF X rmX10_aim ZC yd rvI A) 63 [(0, .ref 0), (1, .int v1), (2, .int v2), (3, .int v3), (4, .int v4), (6, .int v6), (7, .int v7), (8, .int v8)] [] h (X10_aim_l63 v1 v2 v3 v4 n v6 v7 v8 h) := by
  intro n
  induction n with
  | zero => intro v6 v7 v8 h; exact aw_none
  | succ n ih =>
    intro v6 v7 v8 h
    exact aw_iload (pc := 63) C (i := 8) dX10_aim_63 rfl <|
    aw_bipush (pc := 65) C (v := 20) dX10_aim_65 rfl <|
    aw_icmp_gt (pc := 67) C (tgt := 126) dX10_aim_67 rfl (fun _ =>
    aw_iload (pc := 126) C (i := 4) dX10_aim_126 rfl <|
    aw_if_ne (pc := 128) C (tgt := 136) dX10_aim_128 rfl (fun _ =>
    aw_iload (pc := 131) C (i := 6) dX10_aim_131 rfl <|
    aw_goto (pc := 133) C (tgt := 142) dX10_aim_133 rfl <|
    aw_iret (pc := 142) C dX10_aim_142 rfl rfl) (fun _ =>
    aw_sipush (pc := 136) C (v := 10000) dX10_aim_136 rfl <|
    aw_iload (pc := 139) C (i := 7) dX10_aim_139 rfl <|
    aw_isub (pc := 141) C dX10_aim_141 <|
    aw_iret (pc := 142) C dX10_aim_142 rfl rfl)) (fun _ =>
    aw_aload_n (pc := 70) C (i := 0) dX10_aim_70 rfl rfl <|
    aw_aload_n (pc := 71) C (i := 0) dX10_aim_71 rfl rfl <|
    aw_getR (pc := 72) C (b := 42) dX10_aim_72 fl_X10_72 sC_0 rfl rC_0_1 <|
    aw_iload_n (pc := 75) C (i := 1) dX10_aim_75 rfl rfl <|
    aw_callF (pc := 76) C (cr_V (rest := [.ref 0]) (F := (X5_at 42 v1)) C (c_X5_at X.2.1 42 (Or.inl rfl) v1) dX10_aim_76 mf_X5_at ml_X10_169 im_X5_at se_X5_at (mt_s (Or.inl rfl)) rfl ⟨(Nat.le_of_ble_eq_true rfl), (Nat.le_of_ble_eq_true rfl)⟩ rfl rfl (Nat.le_of_ble_eq_true rfl)) rfl rfl rfl (Nat.zero_le _) (Nat.zero_le _) fun r15 h16 =>
    aw_cs fun hs17 =>
    aw_iload (pc := 79) C (i := 8) dX10_aim_79 rfl <|
    aw_callF (pc := 81) C (cr_V (rest := []) (F := (X10_spreadAt r15 v8)) C (c_X10_spreadAt X.2.1 r15 hs17 v8) dX10_aim_81 mf_X10_spreadAt ml_X10_282 im_X10_spreadAt se_X10_spreadAt sC_0 rfl ⟨(Nat.le_of_ble_eq_true rfl), (Nat.le_of_ble_eq_true rfl)⟩ rfl rfl (Nat.le_of_ble_eq_true rfl)) rfl rfl rfl (Nat.zero_le _) (Nat.zero_le _) fun _ h19 =>
    aw_aload_n (pc := 84) C (i := 0) dX10_aim_84 rfl rfl <|
    aw_getR (pc := 85) C (b := 8) dX10_aim_85 fl_X10_35 sC_0 rfl rC_0_11 <|
    aw_aload_n (pc := 88) C (i := 0) dX10_aim_88 rfl rfl <|
    aw_getR (pc := 89) C (b := 8) dX10_aim_89 fl_X10_35 sC_0 rfl rC_0_11 <|
    aw_iload_n (pc := 92) C (i := 3) dX10_aim_92 rfl rfl <|
    aw_callF (pc := 93) C (cr_V (rest := [.ref 8]) (F := (X1_waysPast v3)) C (c_X1_waysPast X.2.1 v3) dX10_aim_93 mf_X1_waysPast ml_X10_273 im_X1_waysPast se_X1_waysPast sC_8 rfl ⟨(Nat.le_of_ble_eq_true rfl), (Nat.le_of_ble_eq_true rfl)⟩ rfl rfl (Nat.le_of_ble_eq_true rfl)) rfl rfl rfl (Nat.zero_le _) (Nat.zero_le _) fun r20 h21 =>
    aw_callF (pc := 96) C (cr_V (rest := []) (F := (X1_share r20)) C (c_X1_share X.2.1 r20) dX10_aim_96 mf_X1_share ml_X10_320 im_X1_share se_X1_share sC_8 rfl ⟨(Nat.le_of_ble_eq_true rfl), (Nat.le_of_ble_eq_true rfl)⟩ rfl rfl (Nat.le_of_ble_eq_true rfl)) rfl rfl rfl (Nat.zero_le _) (Nat.zero_le _) fun r22 h23 =>
    aw_iload_n (pc := 99) C (i := 2) dX10_aim_99 rfl rfl <|
    aw_callF (pc := 100) C (cr_S (rest := []) (F := (X10_leftOf r22 v2)) C (c_X10_leftOf X.2.1 r22 v2) dX10_aim_100 mf_X10_leftOf ml_X10_324 st_X10_leftOf ⟨(Nat.le_of_ble_eq_true rfl), (Nat.le_of_ble_eq_true rfl)⟩ rfl rfl (Nat.le_of_ble_eq_true rfl)) rfl rfl rfl (Nat.zero_le _) (Nat.zero_le _) fun r24 h25 =>
    aw_istore (pc := 103) C (i := 9) (lv' := [(0, .ref 0), (1, .int v1), (2, .int v2), (3, .int v3), (4, .int v4), (6, .int v6), (7, .int v7), (8, .int v8), (9, .int r24)]) dX10_aim_103 (by decide) rfl <|
    aw_iload (pc := 105) C (i := 9) dX10_aim_105 rfl <|
    aw_iload (pc := 107) C (i := 7) dX10_aim_107 rfl <|
    aw_icmp_ge (pc := 109) C (tgt := 120) dX10_aim_109 rfl (fun _ =>
    aw_drop [0, 1, 2, 3, 4, 5, 6, 7] (aX10_aim_j120 C v1 v2 v3 v4 v6 v7 v8 (X10_aim_l63 v1 v2 v3 v4 n) ih h25)) (fun _ =>
    aw_iload (pc := 112) C (i := 9) dX10_aim_112 rfl <|
    aw_istore (pc := 114) C (i := 7) (lv' := [(0, .ref 0), (1, .int v1), (2, .int v2), (3, .int v3), (4, .int v4), (6, .int v6), (7, .int r24), (8, .int v8), (9, .int r24)]) dX10_aim_114 (by decide) rfl <|
    aw_iload (pc := 116) C (i := 8) dX10_aim_116 rfl <|
    aw_istore (pc := 118) C (i := 6) (lv' := [(0, .ref 0), (1, .int v1), (2, .int v2), (3, .int v3), (4, .int v4), (6, .int v8), (7, .int r24), (8, .int v8), (9, .int r24)]) dX10_aim_118 (by decide) rfl <|
    aw_drop [0, 1, 2, 3, 4, 5, 6, 7] (aX10_aim_j120 C v1 v2 v3 v4 v8 r24 v8 (X10_aim_l63 v1 v2 v3 v4 n) ih h25)))
def X10_aim (v1 : Int32) (v2 : Int32) (v3 : Int32) (v4 : Int32) (h : AH) : Option (Int32 × AH) :=
    bd (X10_nobody v1 h) fun r1 h2 =>
    bd (X10_outside v2 1 3 h2) fun r3 h4 =>
    bd (X10_outside v3 0 999 h4) fun r5 h6 =>
    bd (X10_outsideTwo r3 r5 h6) fun r7 h8 =>
    bd (X10_first r1 r7 h8) fun r9 h10 =>
    bd (X10_noSuch v4 1 h10) fun r11 h12 =>
    bd (X10_first r9 r11 h12) fun r13 h14 =>
    if r13 = 0 then (X10_aim_l63 v1 v2 v3 v4 FU 0 10001 0 h14)
    else (bd (X10_refuse r13 h14) fun r27 h28 =>
    some (r27, h28))
set_option maxRecDepth 100000 in
theorem c_X10_aim (l : Launch) (v1 : Int32) (v2 : Int32) (v3 : Int32) (v4 : Int32) : MC l yX10_aim cX10_aim 10 (some .int) rmX10_aim ZC [.ref 0, .int v1, .int v2, .int v3, .int v4] rvI (X10_aim v1 v2 v3 v4) :=
  MC.of (own := RX10) (by decide +kernel) rfl (Nat.le_of_ble_eq_true rfl) fun X yd A h _ C =>
    aw_aload_n (pc := 0) C (i := 0) dX10_aim_0 rfl rfl <|
    aw_iload_n (pc := 1) C (i := 1) dX10_aim_1 rfl rfl <|
    aw_callF (pc := 2) C (cr_V (rest := []) (F := (X10_nobody v1)) C (c_X10_nobody X.2.1 v1) dX10_aim_2 mf_X10_nobody ml_X10_93 im_X10_nobody se_X10_nobody sC_0 rfl ⟨(Nat.le_of_ble_eq_true rfl), (Nat.le_of_ble_eq_true rfl)⟩ rfl rfl (Nat.le_of_ble_eq_true rfl)) rfl rfl rfl (Nat.zero_le _) (Nat.zero_le _) fun r1 h2 =>
    aw_iload_n (pc := 5) C (i := 2) dX10_aim_5 rfl rfl <|
    aw_iconst (pc := 6) C (v := 1) dX10_aim_6 rfl <|
    aw_iconst (pc := 7) C (v := 3) dX10_aim_7 rfl <|
    aw_callF (pc := 8) C (cr_S (rest := [.int r1]) (F := (X10_outside v2 1 3)) C (c_X10_outside X.2.1 v2 1 3) dX10_aim_8 mf_X10_outside ml_X10_104 st_X10_outside ⟨(Nat.le_of_ble_eq_true rfl), (Nat.le_of_ble_eq_true rfl)⟩ rfl rfl (Nat.le_of_ble_eq_true rfl)) rfl rfl rfl (Nat.zero_le _) (Nat.zero_le _) fun r3 h4 =>
    aw_iload_n (pc := 11) C (i := 3) dX10_aim_11 rfl rfl <|
    aw_iconst (pc := 12) C (v := 0) dX10_aim_12 rfl <|
    aw_sipush (pc := 13) C (v := 999) dX10_aim_13 rfl <|
    aw_callF (pc := 16) C (cr_S (rest := [.int r3, .int r1]) (F := (X10_outside v3 0 999)) C (c_X10_outside X.2.1 v3 0 999) dX10_aim_16 mf_X10_outside ml_X10_104 st_X10_outside ⟨(Nat.le_of_ble_eq_true rfl), (Nat.le_of_ble_eq_true rfl)⟩ rfl rfl (Nat.le_of_ble_eq_true rfl)) rfl rfl rfl (Nat.zero_le _) (Nat.zero_le _) fun r5 h6 =>
    aw_callF (pc := 19) C (cr_S (rest := [.int r1]) (F := (X10_outsideTwo r3 r5)) C (c_X10_outsideTwo X.2.1 r3 r5) dX10_aim_19 mf_X10_outsideTwo ml_X10_235 st_X10_outsideTwo ⟨(Nat.le_of_ble_eq_true rfl), (Nat.le_of_ble_eq_true rfl)⟩ rfl rfl (Nat.le_of_ble_eq_true rfl)) rfl rfl rfl (Nat.zero_le _) (Nat.zero_le _) fun r7 h8 =>
    aw_callF (pc := 22) C (cr_S (rest := []) (F := (X10_first r1 r7)) C (c_X10_first X.2.1 r1 r7) dX10_aim_22 mf_X10_first ml_X10_97 st_X10_first ⟨(Nat.le_of_ble_eq_true rfl), (Nat.le_of_ble_eq_true rfl)⟩ rfl rfl (Nat.le_of_ble_eq_true rfl)) rfl rfl rfl (Nat.zero_le _) (Nat.zero_le _) fun r9 h10 =>
    aw_istore (pc := 25) C (i := 5) (lv' := [(0, .ref 0), (1, .int v1), (2, .int v2), (3, .int v3), (4, .int v4), (5, .int r9)]) dX10_aim_25 (by decide) rfl <|
    aw_iload (pc := 27) C (i := 5) dX10_aim_27 rfl <|
    aw_iload (pc := 29) C (i := 4) dX10_aim_29 rfl <|
    aw_iconst (pc := 31) C (v := 1) dX10_aim_31 rfl <|
    aw_callF (pc := 32) C (cr_S (rest := [.int r9]) (F := (X10_noSuch v4 1)) C (c_X10_noSuch X.2.1 v4 1) dX10_aim_32 mf_X10_noSuch ml_X10_101 st_X10_noSuch ⟨(Nat.le_of_ble_eq_true rfl), (Nat.le_of_ble_eq_true rfl)⟩ rfl rfl (Nat.le_of_ble_eq_true rfl)) rfl rfl rfl (Nat.zero_le _) (Nat.zero_le _) fun r11 h12 =>
    aw_callF (pc := 35) C (cr_S (rest := []) (F := (X10_first r9 r11)) C (c_X10_first X.2.1 r9 r11) dX10_aim_35 mf_X10_first ml_X10_97 st_X10_first ⟨(Nat.le_of_ble_eq_true rfl), (Nat.le_of_ble_eq_true rfl)⟩ rfl rfl (Nat.le_of_ble_eq_true rfl)) rfl rfl rfl (Nat.zero_le _) (Nat.zero_le _) fun r13 h14 =>
    aw_istore (pc := 38) C (i := 5) (lv' := [(0, .ref 0), (1, .int v1), (2, .int v2), (3, .int v3), (4, .int v4), (5, .int r13)]) dX10_aim_38 (by decide) rfl <|
    aw_iload (pc := 40) C (i := 5) dX10_aim_40 rfl <|
    aw_if_eq (pc := 42) C (tgt := 52) dX10_aim_42 rfl (fun _ =>
    aw_iconst (pc := 52) C (v := 0) dX10_aim_52 rfl <|
    aw_istore (pc := 53) C (i := 6) (lv' := [(0, .ref 0), (1, .int v1), (2, .int v2), (3, .int v3), (4, .int v4), (5, .int r13), (6, .int 0)]) dX10_aim_53 (by decide) rfl <|
    aw_sipush (pc := 55) C (v := 10001) dX10_aim_55 rfl <|
    aw_istore (pc := 58) C (i := 7) (lv' := [(0, .ref 0), (1, .int v1), (2, .int v2), (3, .int v3), (4, .int v4), (5, .int r13), (6, .int 0), (7, .int 10001)]) dX10_aim_58 (by decide) rfl <|
    aw_iconst (pc := 60) C (v := 0) dX10_aim_60 rfl <|
    aw_istore (pc := 61) C (i := 8) (lv' := [(0, .ref 0), (1, .int v1), (2, .int v2), (3, .int v3), (4, .int v4), (5, .int r13), (6, .int 0), (7, .int 10001), (8, .int 0)]) dX10_aim_61 (by decide) rfl <|
    aw_drop [0, 1, 2, 3, 4, 6, 7, 8] (aX10_aim_l63 C v1 v2 v3 v4 FU 0 10001 0 h14)) (fun _ =>
    aw_aload_n (pc := 45) C (i := 0) dX10_aim_45 rfl rfl <|
    aw_iload (pc := 46) C (i := 5) dX10_aim_46 rfl <|
    aw_callF (pc := 48) C (cr_V (rest := []) (F := (X10_refuse r13)) C (c_X10_refuse X.2.1 r13) dX10_aim_48 mf_X10_refuse ml_X10_111 im_X10_refuse se_X10_refuse sC_0 rfl ⟨(Nat.le_of_ble_eq_true rfl), (Nat.le_of_ble_eq_true rfl)⟩ rfl rfl (Nat.le_of_ble_eq_true rfl)) rfl rfl rfl (Nat.zero_le _) (Nat.zero_le _) fun r27 h28 =>
    aw_iret (pc := 51) C dX10_aim_51 rfl rfl)

abbrev rmX10_tooLong : Room := { frames := 1, cells := 0, slots := 0, locals := 21 }
def X10_tooLong_l18  : Nat → Int32 → Int32 → AH → Option (Int32 × AH)
  | 0, _, _, _ => none
  | n + 1, v1, v2, h =>
    if (h.1 0 8) ≤ v2 then (if v1 ≤ 0 then (if 0 ≤ v1 then (some (0, h))
    else (some (2, h)))
    else (some (1, h)))
    else (ck v2 12 (vl (v1 + ((h.1 3 v2.toNatClampNeg) - 50)) fun x1 =>
    vl (v2 + 1) fun x2 =>
    (X10_tooLong_l18 n) x1 x2 h))
set_option maxRecDepth 100000 in
theorem aX10_tooLong_l18 {X : MCx} {yd : Dyn} {A : Nat → Prop} (C : OK X cX10_tooLong RX10 3 (some .int) rmX10_tooLong A)  : ∀ (n : Nat) (v1 : Int32) (v2 : Int32) (h : AH), AW X 3 ZC yd A 0 0 (QF X rmX10_tooLong ZC yd rvI A) 18 [(0, .ref 0), (1, .int v1), (2, .int v2)] [] h (X10_tooLong_l18 n v1 v2 h) := by
  intro n
  induction n with
  | zero => intro v1 v2 h; exact aw_none
  | succ n ih =>
    intro v1 v2 h
    exact aw_iload_n (pc := 18) C (i := 2) dX10_tooLong_18 rfl rfl <|
    aw_aload_n (pc := 19) C (i := 0) dX10_tooLong_19 rfl rfl <|
    aw_getI (pc := 20) C dX10_tooLong_20 fl_X10_327 sC_0 rfl <|
    aw_icmp_ge (pc := 23) C (tgt := 44) dX10_tooLong_23 rfl (fun _ =>
    aw_iload_n (pc := 44) C (i := 1) dX10_tooLong_44 rfl rfl <|
    aw_if_le (pc := 45) C (tgt := 52) dX10_tooLong_45 rfl (fun _ =>
    aw_iload_n (pc := 52) C (i := 1) dX10_tooLong_52 rfl rfl <|
    aw_if_ge (pc := 53) C (tgt := 60) dX10_tooLong_53 rfl (fun _ =>
    aw_iconst (pc := 60) C (v := 0) dX10_tooLong_60 rfl <|
    aw_iret (pc := 61) C dX10_tooLong_61 rfl rfl) (fun _ =>
    aw_iconst (pc := 56) C (v := 2) dX10_tooLong_56 rfl <|
    aw_goto (pc := 57) C (tgt := 61) dX10_tooLong_57 rfl <|
    aw_iret (pc := 61) C dX10_tooLong_61 rfl rfl)) (fun _ =>
    aw_iconst (pc := 48) C (v := 1) dX10_tooLong_48 rfl <|
    aw_goto (pc := 49) C (tgt := 61) dX10_tooLong_49 rfl <|
    aw_iret (pc := 61) C dX10_tooLong_61 rfl rfl)) (fun _ =>
    aw_iload_n (pc := 26) C (i := 1) dX10_tooLong_26 rfl rfl <|
    aw_aload_n (pc := 27) C (i := 0) dX10_tooLong_27 rfl rfl <|
    aw_getR (pc := 28) C (b := 3) dX10_tooLong_28 fl_X10_19 sC_0 rfl rC_0_7 <|
    aw_iload_n (pc := 31) C (i := 2) dX10_tooLong_31 rfl rfl <|
    aw_iald (pc := 32) C dX10_tooLong_32 sC_3 rfl <|
    aw_bipush (pc := 33) C (v := 50) dX10_tooLong_33 rfl <|
    aw_isub (pc := 35) C dX10_tooLong_35 <|
    aw_iadd (pc := 36) C dX10_tooLong_36 <|
    aw_istoreV_n (pc := 37) C (i := 1) (fun x1 => [(0, .ref 0), (1, .int x1), (2, .int v2)]) dX10_tooLong_37 rfl (by decide) (fun _ => rfl) fun x1 =>
    aw_iincV (pc := 38) C (i := 2) (cst := 1) (fun x2 => [(0, .ref 0), (1, .int x1), (2, .int x2)]) dX10_tooLong_38 rfl rfl (by decide) (fun _ => rfl) fun x2 =>
    aw_goto (pc := 41) C (tgt := 18) dX10_tooLong_41 rfl <|
    (ih x1 x2 h))
def X10_tooLong  (h : AH) : Option (Int32 × AH) :=
    if (h.1 0 8) = 0 then (bd (X10_refuse (-3) h) fun r3 h4 =>
    some (r3, h4))
    else (X10_tooLong_l18 FU 0 0 h)
set_option maxRecDepth 100000 in
theorem c_X10_tooLong (l : Launch)  : MC l yX10_tooLong cX10_tooLong 3 (some .int) rmX10_tooLong ZC [.ref 0] rvI (X10_tooLong) :=
  MC.of (own := RX10) (by decide +kernel) rfl (Nat.le_of_ble_eq_true rfl) fun X yd A h _ C =>
    aw_aload_n (pc := 0) C (i := 0) dX10_tooLong_0 rfl rfl <|
    aw_getI (pc := 1) C dX10_tooLong_1 fl_X10_327 sC_0 rfl <|
    aw_if_ne (pc := 4) C (tgt := 14) dX10_tooLong_4 rfl (fun _ =>
    aw_aload_n (pc := 7) C (i := 0) dX10_tooLong_7 rfl rfl <|
    aw_bipush (pc := 8) C (v := (-3)) dX10_tooLong_8 rfl <|
    aw_callF (pc := 10) C (cr_V (rest := []) (F := (X10_refuse (-3))) C (c_X10_refuse X.2.1 (-3)) dX10_tooLong_10 mf_X10_refuse ml_X10_111 im_X10_refuse se_X10_refuse sC_0 rfl ⟨(Nat.le_of_ble_eq_true rfl), (Nat.le_of_ble_eq_true rfl)⟩ rfl rfl (Nat.le_of_ble_eq_true rfl)) rfl rfl rfl (Nat.zero_le _) (Nat.zero_le _) fun r3 h4 =>
    aw_iret (pc := 13) C dX10_tooLong_13 rfl rfl) (fun _ =>
    aw_iconst (pc := 14) C (v := 0) dX10_tooLong_14 rfl <|
    aw_istore_n (pc := 15) C (i := 1) (lv' := [(0, .ref 0), (1, .int 0)]) dX10_tooLong_15 rfl (by decide) rfl <|
    aw_iconst (pc := 16) C (v := 0) dX10_tooLong_16 rfl <|
    aw_istore_n (pc := 17) C (i := 2) (lv' := [(0, .ref 0), (1, .int 0), (2, .int 0)]) dX10_tooLong_17 rfl (by decide) rfl <|
    (aX10_tooLong_l18 C FU 0 0 h))

abbrev rmX10_greatestFrom : Room := { frames := 1, cells := 0, slots := 0, locals := 45 }
def X10_greatestFrom_l4  : Nat → Int32 → Int32 → AH → Option (Int32 × AH)
  | 0, _, _, _ => none
  | n + 1, v2, v3, h =>
    if (h.1 0 8) ≤ v3 then (some (v2, h))
    else (ck v3 12 (vl (mx32 v2 (h.1 3 v3.toNatClampNeg)) fun x1 =>
    vl (v3 + 1) fun x2 =>
    (X10_greatestFrom_l4 n) x1 x2 h))
set_option maxRecDepth 100000 in
theorem aX10_greatestFrom_l4 {X : MCx} {yd : Dyn} {A : Nat → Prop} (C : OK X cX10_greatestFrom RX10 4 (some .int) rmX10_greatestFrom A)  : ∀ (n : Nat) (v2 : Int32) (v3 : Int32) (h : AH), AW X 4 ZC yd A 0 0 (QF X rmX10_greatestFrom ZC yd rvI A) 4 [(0, .ref 0), (2, .int v2), (3, .int v3)] [] h (X10_greatestFrom_l4 n v2 v3 h) := by
  intro n
  induction n with
  | zero => intro v2 v3 h; exact aw_none
  | succ n ih =>
    intro v2 v3 h
    exact aw_iload_n (pc := 4) C (i := 3) dX10_greatestFrom_4 rfl rfl <|
    aw_aload_n (pc := 5) C (i := 0) dX10_greatestFrom_5 rfl rfl <|
    aw_getI (pc := 6) C dX10_greatestFrom_6 fl_X10_327 sC_0 rfl <|
    aw_icmp_ge (pc := 9) C (tgt := 29) dX10_greatestFrom_9 rfl (fun _ =>
    aw_iload_n (pc := 29) C (i := 2) dX10_greatestFrom_29 rfl rfl <|
    aw_iret (pc := 30) C dX10_greatestFrom_30 rfl rfl) (fun _ =>
    aw_iload_n (pc := 12) C (i := 2) dX10_greatestFrom_12 rfl rfl <|
    aw_aload_n (pc := 13) C (i := 0) dX10_greatestFrom_13 rfl rfl <|
    aw_getR (pc := 14) C (b := 3) dX10_greatestFrom_14 fl_X10_19 sC_0 rfl rC_0_7 <|
    aw_iload_n (pc := 17) C (i := 3) dX10_greatestFrom_17 rfl rfl <|
    aw_iald (pc := 18) C dX10_greatestFrom_18 sC_3 rfl <|
    aw_mmax (pc := 19) C dX10_greatestFrom_19 ml_X10_286 w_mmaxS w_mI w_mmaxC ⟨(Nat.le_of_ble_eq_true rfl), (Nat.le_of_ble_eq_true rfl)⟩ (Nat.zero_le _) (Nat.zero_le _) <|
    aw_istoreV_n (pc := 22) C (i := 2) (fun x1 => [(0, .ref 0), (2, .int x1), (3, .int v3)]) dX10_greatestFrom_22 rfl (by decide) (fun _ => rfl) fun x1 =>
    aw_iincV (pc := 23) C (i := 3) (cst := 1) (fun x2 => [(0, .ref 0), (2, .int x1), (3, .int x2)]) dX10_greatestFrom_23 rfl rfl (by decide) (fun _ => rfl) fun x2 =>
    aw_goto (pc := 26) C (tgt := 4) dX10_greatestFrom_26 rfl <|
    (ih x1 x2 h))
def X10_greatestFrom (v1 : Int32) (h : AH) : Option (Int32 × AH) :=
    X10_greatestFrom_l4 FU 0 v1 h
set_option maxRecDepth 100000 in
theorem c_X10_greatestFrom (l : Launch) (v1 : Int32) : MC l yX10_greatestFrom cX10_greatestFrom 4 (some .int) rmX10_greatestFrom ZC [.ref 0, .int v1] rvI (X10_greatestFrom v1) :=
  MC.of (own := RX10) (by decide +kernel) rfl (Nat.le_of_ble_eq_true rfl) fun X yd A h _ C =>
    aw_iconst (pc := 0) C (v := 0) dX10_greatestFrom_0 rfl <|
    aw_istore_n (pc := 1) C (i := 2) (lv' := [(0, .ref 0), (1, .int v1), (2, .int 0)]) dX10_greatestFrom_1 rfl (by decide) rfl <|
    aw_iload_n (pc := 2) C (i := 1) dX10_greatestFrom_2 rfl rfl <|
    aw_istore_n (pc := 3) C (i := 3) (lv' := [(0, .ref 0), (1, .int v1), (2, .int 0), (3, .int v1)]) dX10_greatestFrom_3 rfl (by decide) rfl <|
    aw_drop [0, 2, 3] (aX10_greatestFrom_l4 C FU 0 v1 h)

abbrev rmX10_leastAhead : Room := { frames := 1, cells := 0, slots := 0, locals := 45 }
def X10_leastAhead_l5  (v1 : Int32) : Nat → Int32 → Int32 → AH → Option (Int32 × AH)
  | 0, _, _, _ => none
  | n + 1, v2, v3, h =>
    if v1 ≤ v3 then (some (v2, h))
    else (if (h.1 0 8) ≤ v3 then (some (v2, h))
    else (ck v3 12 (vl (mn32 v2 (h.1 3 v3.toNatClampNeg)) fun x1 =>
    vl (v3 + 1) fun x2 =>
    (X10_leastAhead_l5 v1 n) x1 x2 h)))
set_option maxRecDepth 100000 in
theorem aX10_leastAhead_l5 {X : MCx} {yd : Dyn} {A : Nat → Prop} (C : OK X cX10_leastAhead RX10 4 (some .int) rmX10_leastAhead A)  (v1 : Int32) : ∀ (n : Nat) (v2 : Int32) (v3 : Int32) (h : AH), AW X 4 ZC yd A 0 0 (QF X rmX10_leastAhead ZC yd rvI A) 5 [(0, .ref 0), (1, .int v1), (2, .int v2), (3, .int v3)] [] h (X10_leastAhead_l5 v1 n v2 v3 h) := by
  intro n
  induction n with
  | zero => intro v2 v3 h; exact aw_none
  | succ n ih =>
    intro v2 v3 h
    exact aw_iload_n (pc := 5) C (i := 3) dX10_leastAhead_5 rfl rfl <|
    aw_iload_n (pc := 6) C (i := 1) dX10_leastAhead_6 rfl rfl <|
    aw_icmp_ge (pc := 7) C (tgt := 35) dX10_leastAhead_7 rfl (fun _ =>
    aw_iload_n (pc := 35) C (i := 2) dX10_leastAhead_35 rfl rfl <|
    aw_iret (pc := 36) C dX10_leastAhead_36 rfl rfl) (fun _ =>
    aw_iload_n (pc := 10) C (i := 3) dX10_leastAhead_10 rfl rfl <|
    aw_aload_n (pc := 11) C (i := 0) dX10_leastAhead_11 rfl rfl <|
    aw_getI (pc := 12) C dX10_leastAhead_12 fl_X10_327 sC_0 rfl <|
    aw_icmp_ge (pc := 15) C (tgt := 35) dX10_leastAhead_15 rfl (fun _ =>
    aw_iload_n (pc := 35) C (i := 2) dX10_leastAhead_35 rfl rfl <|
    aw_iret (pc := 36) C dX10_leastAhead_36 rfl rfl) (fun _ =>
    aw_iload_n (pc := 18) C (i := 2) dX10_leastAhead_18 rfl rfl <|
    aw_aload_n (pc := 19) C (i := 0) dX10_leastAhead_19 rfl rfl <|
    aw_getR (pc := 20) C (b := 3) dX10_leastAhead_20 fl_X10_19 sC_0 rfl rC_0_7 <|
    aw_iload_n (pc := 23) C (i := 3) dX10_leastAhead_23 rfl rfl <|
    aw_iald (pc := 24) C dX10_leastAhead_24 sC_3 rfl <|
    aw_mmin (pc := 25) C dX10_leastAhead_25 ml_X10_291 w_mminS w_mI w_mminC ⟨(Nat.le_of_ble_eq_true rfl), (Nat.le_of_ble_eq_true rfl)⟩ (Nat.zero_le _) (Nat.zero_le _) <|
    aw_istoreV_n (pc := 28) C (i := 2) (fun x1 => [(0, .ref 0), (1, .int v1), (2, .int x1), (3, .int v3)]) dX10_leastAhead_28 rfl (by decide) (fun _ => rfl) fun x1 =>
    aw_iincV (pc := 29) C (i := 3) (cst := 1) (fun x2 => [(0, .ref 0), (1, .int v1), (2, .int x1), (3, .int x2)]) dX10_leastAhead_29 rfl rfl (by decide) (fun _ => rfl) fun x2 =>
    aw_goto (pc := 32) C (tgt := 5) dX10_leastAhead_32 rfl <|
    (ih x1 x2 h)))
def X10_leastAhead (v1 : Int32) (h : AH) : Option (Int32 × AH) :=
    X10_leastAhead_l5 v1 FU 99 0 h
set_option maxRecDepth 100000 in
theorem c_X10_leastAhead (l : Launch) (v1 : Int32) : MC l yX10_leastAhead cX10_leastAhead 4 (some .int) rmX10_leastAhead ZC [.ref 0, .int v1] rvI (X10_leastAhead v1) :=
  MC.of (own := RX10) (by decide +kernel) rfl (Nat.le_of_ble_eq_true rfl) fun X yd A h _ C =>
    aw_bipush (pc := 0) C (v := 99) dX10_leastAhead_0 rfl <|
    aw_istore_n (pc := 2) C (i := 2) (lv' := [(0, .ref 0), (1, .int v1), (2, .int 99)]) dX10_leastAhead_2 rfl (by decide) rfl <|
    aw_iconst (pc := 3) C (v := 0) dX10_leastAhead_3 rfl <|
    aw_istore_n (pc := 4) C (i := 3) (lv' := [(0, .ref 0), (1, .int v1), (2, .int 99), (3, .int 0)]) dX10_leastAhead_4 rfl (by decide) rfl <|
    (aX10_leastAhead_l5 C v1 FU 99 0 h)

abbrev rmX10_unlike : Room := { frames := 2, cells := 0, slots := 0, locals := 68 }
def X10_unlike  (h : AH) : Option (Int32 × AH) :=
    if (h.1 0 8) = 0 then (bd (X10_refuse (-3) h) fun r5 h6 =>
    some (r5, h6))
    else (bd (X10_greatestFrom 0 h) fun r1 h2 =>
    bd (X10_leastAhead (h2.1 0 8) h2) fun r3 h4 =>
    some ((r1 - r3), h4))
set_option maxRecDepth 100000 in
theorem c_X10_unlike (l : Launch)  : MC l yX10_unlike cX10_unlike 1 (some .int) rmX10_unlike ZC [.ref 0] rvI (X10_unlike) :=
  MC.of (own := RX10) (by decide +kernel) rfl (Nat.le_of_ble_eq_true rfl) fun X yd A h _ C =>
    aw_aload_n (pc := 0) C (i := 0) dX10_unlike_0 rfl rfl <|
    aw_getI (pc := 1) C dX10_unlike_1 fl_X10_327 sC_0 rfl <|
    aw_if_ne (pc := 4) C (tgt := 16) dX10_unlike_4 rfl (fun _ =>
    aw_aload_n (pc := 7) C (i := 0) dX10_unlike_7 rfl rfl <|
    aw_bipush (pc := 8) C (v := (-3)) dX10_unlike_8 rfl <|
    aw_callF (pc := 10) C (cr_V (rest := []) (F := (X10_refuse (-3))) C (c_X10_refuse X.2.1 (-3)) dX10_unlike_10 mf_X10_refuse ml_X10_111 im_X10_refuse se_X10_refuse sC_0 rfl ⟨(Nat.le_of_ble_eq_true rfl), (Nat.le_of_ble_eq_true rfl)⟩ rfl rfl (Nat.le_of_ble_eq_true rfl)) rfl rfl rfl (Nat.zero_le _) (Nat.zero_le _) fun r5 h6 =>
    aw_goto (pc := 13) C (tgt := 30) dX10_unlike_13 rfl <|
    aw_iret (pc := 30) C dX10_unlike_30 rfl rfl) (fun _ =>
    aw_aload_n (pc := 16) C (i := 0) dX10_unlike_16 rfl rfl <|
    aw_iconst (pc := 17) C (v := 0) dX10_unlike_17 rfl <|
    aw_callF (pc := 18) C (cr_V (rest := []) (F := (X10_greatestFrom 0)) C (c_X10_greatestFrom X.2.1 0) dX10_unlike_18 mf_X10_greatestFrom ml_X10_330 im_X10_greatestFrom se_X10_greatestFrom sC_0 rfl ⟨(Nat.le_of_ble_eq_true rfl), (Nat.le_of_ble_eq_true rfl)⟩ rfl rfl (Nat.le_of_ble_eq_true rfl)) rfl rfl rfl (Nat.zero_le _) (Nat.zero_le _) fun r1 h2 =>
    aw_aload_n (pc := 21) C (i := 0) dX10_unlike_21 rfl rfl <|
    aw_aload_n (pc := 22) C (i := 0) dX10_unlike_22 rfl rfl <|
    aw_getI (pc := 23) C dX10_unlike_23 fl_X10_327 sC_0 rfl <|
    aw_callF (pc := 26) C (cr_V (rest := [.int r1]) (F := (X10_leastAhead (h2.1 0 8))) C (c_X10_leastAhead X.2.1 (h2.1 0 8)) dX10_unlike_26 mf_X10_leastAhead ml_X10_333 im_X10_leastAhead se_X10_leastAhead sC_0 rfl ⟨(Nat.le_of_ble_eq_true rfl), (Nat.le_of_ble_eq_true rfl)⟩ rfl rfl (Nat.le_of_ble_eq_true rfl)) rfl rfl rfl (Nat.zero_le _) (Nat.zero_le _) fun r3 h4 =>
    aw_isub (pc := 29) C dX10_unlike_29 <|
    aw_iret (pc := 30) C dX10_unlike_30 rfl rfl)

abbrev rmX10_moved : Room := { frames := 2, cells := 0, slots := 0, locals := 68 }
def X10_moved_l20  (v1 : Int32) : Nat → Int32 → AH → Option (Int32 × AH)
  | 0, _, _ => none
  | n + 1, v3, h =>
    if (h.1 0 8) ≤ v3 then (some ((-9), h))
    else (bd (X10_greatestFrom v3 h) fun r3 h4 =>
    bd (X10_leastAhead v3 h4) fun r5 h6 =>
    if (r5 - v1) < r3 then (vl (v3 + 1) fun x7 =>
    (X10_moved_l20 v1 n) x7 h6)
    else (some (v3, h6)))
set_option maxRecDepth 100000 in
theorem aX10_moved_l20 {X : MCx} {yd : Dyn} {A : Nat → Prop} (C : OK X cX10_moved RX10 4 (some .int) rmX10_moved A)  (v1 : Int32) : ∀ (n : Nat) (v3 : Int32) (h : AH), AW X 4 ZC yd A 0 0 (QF X rmX10_moved ZC yd rvI A) 20 [(0, .ref 0), (1, .int v1), (3, .int v3)] [] h (X10_moved_l20 v1 n v3 h) := by
  intro n
  induction n with
  | zero => intro v3 h; exact aw_none
  | succ n ih =>
    intro v3 h
    exact aw_iload_n (pc := 20) C (i := 3) dX10_moved_20 rfl rfl <|
    aw_aload_n (pc := 21) C (i := 0) dX10_moved_21 rfl rfl <|
    aw_getI (pc := 22) C dX10_moved_22 fl_X10_327 sC_0 rfl <|
    aw_icmp_ge (pc := 25) C (tgt := 51) dX10_moved_25 rfl (fun _ =>
    aw_bipush (pc := 51) C (v := (-9)) dX10_moved_51 rfl <|
    aw_iret (pc := 53) C dX10_moved_53 rfl rfl) (fun _ =>
    aw_aload_n (pc := 28) C (i := 0) dX10_moved_28 rfl rfl <|
    aw_iload_n (pc := 29) C (i := 3) dX10_moved_29 rfl rfl <|
    aw_callF (pc := 30) C (cr_V (rest := []) (F := (X10_greatestFrom v3)) C (c_X10_greatestFrom X.2.1 v3) dX10_moved_30 mf_X10_greatestFrom ml_X10_330 im_X10_greatestFrom se_X10_greatestFrom sC_0 rfl ⟨(Nat.le_of_ble_eq_true rfl), (Nat.le_of_ble_eq_true rfl)⟩ rfl rfl (Nat.le_of_ble_eq_true rfl)) rfl rfl rfl (Nat.zero_le _) (Nat.zero_le _) fun r3 h4 =>
    aw_aload_n (pc := 33) C (i := 0) dX10_moved_33 rfl rfl <|
    aw_iload_n (pc := 34) C (i := 3) dX10_moved_34 rfl rfl <|
    aw_callF (pc := 35) C (cr_V (rest := [.int r3]) (F := (X10_leastAhead v3)) C (c_X10_leastAhead X.2.1 v3) dX10_moved_35 mf_X10_leastAhead ml_X10_333 im_X10_leastAhead se_X10_leastAhead sC_0 rfl ⟨(Nat.le_of_ble_eq_true rfl), (Nat.le_of_ble_eq_true rfl)⟩ rfl rfl (Nat.le_of_ble_eq_true rfl)) rfl rfl rfl (Nat.zero_le _) (Nat.zero_le _) fun r5 h6 =>
    aw_iload_n (pc := 38) C (i := 1) dX10_moved_38 rfl rfl <|
    aw_isub (pc := 39) C dX10_moved_39 <|
    aw_icmp_gt (pc := 40) C (tgt := 45) dX10_moved_40 rfl (fun _ =>
    aw_iincV (pc := 45) C (i := 3) (cst := 1) (fun x7 => [(0, .ref 0), (1, .int v1), (3, .int x7)]) dX10_moved_45 rfl rfl (by decide) (fun _ => rfl) fun x7 =>
    aw_goto (pc := 48) C (tgt := 20) dX10_moved_48 rfl <|
    (ih x7 h6)) (fun _ =>
    aw_iload_n (pc := 43) C (i := 3) dX10_moved_43 rfl rfl <|
    aw_iret (pc := 44) C dX10_moved_44 rfl rfl))
def X10_moved (v1 : Int32) (h : AH) : Option (Int32 × AH) :=
    bd (X10_outside v1 1 99 h) fun r1 h2 =>
    if r1 = 0 then (X10_moved_l20 v1 FU 1 h2)
    else (bd (X10_refuse r1 h2) fun r8 h9 =>
    some (r8, h9))
set_option maxRecDepth 100000 in
theorem c_X10_moved (l : Launch) (v1 : Int32) : MC l yX10_moved cX10_moved 4 (some .int) rmX10_moved ZC [.ref 0, .int v1] rvI (X10_moved v1) :=
  MC.of (own := RX10) (by decide +kernel) rfl (Nat.le_of_ble_eq_true rfl) fun X yd A h _ C =>
    aw_iload_n (pc := 0) C (i := 1) dX10_moved_0 rfl rfl <|
    aw_iconst (pc := 1) C (v := 1) dX10_moved_1 rfl <|
    aw_bipush (pc := 2) C (v := 99) dX10_moved_2 rfl <|
    aw_callF (pc := 4) C (cr_S (rest := []) (F := (X10_outside v1 1 99)) C (c_X10_outside X.2.1 v1 1 99) dX10_moved_4 mf_X10_outside ml_X10_104 st_X10_outside ⟨(Nat.le_of_ble_eq_true rfl), (Nat.le_of_ble_eq_true rfl)⟩ rfl rfl (Nat.le_of_ble_eq_true rfl)) rfl rfl rfl (Nat.zero_le _) (Nat.zero_le _) fun r1 h2 =>
    aw_istore_n (pc := 7) C (i := 2) (lv' := [(0, .ref 0), (1, .int v1), (2, .int r1)]) dX10_moved_7 rfl (by decide) rfl <|
    aw_iload_n (pc := 8) C (i := 2) dX10_moved_8 rfl rfl <|
    aw_if_eq (pc := 9) C (tgt := 18) dX10_moved_9 rfl (fun _ =>
    aw_iconst (pc := 18) C (v := 1) dX10_moved_18 rfl <|
    aw_istore_n (pc := 19) C (i := 3) (lv' := [(0, .ref 0), (1, .int v1), (2, .int r1), (3, .int 1)]) dX10_moved_19 rfl (by decide) rfl <|
    aw_drop [0, 1, 3] (aX10_moved_l20 C v1 FU 1 h2)) (fun _ =>
    aw_aload_n (pc := 12) C (i := 0) dX10_moved_12 rfl rfl <|
    aw_iload_n (pc := 13) C (i := 2) dX10_moved_13 rfl rfl <|
    aw_callF (pc := 14) C (cr_V (rest := []) (F := (X10_refuse r1)) C (c_X10_refuse X.2.1 r1) dX10_moved_14 mf_X10_refuse ml_X10_111 im_X10_refuse se_X10_refuse sC_0 rfl ⟨(Nat.le_of_ble_eq_true rfl), (Nat.le_of_ble_eq_true rfl)⟩ rfl rfl (Nat.le_of_ble_eq_true rfl)) rfl rfl rfl (Nat.zero_le _) (Nat.zero_le _) fun r8 h9 =>
    aw_iret (pc := 17) C dX10_moved_17 rfl rfl)

abbrev rmX10_gusts : Room := { frames := 5, cells := 0, slots := 0, locals := 136 }
def X10_gusts_j138  (v3 : Nat) (v4 : Int32) (v5 : Int64) (v7 : Int32) (K56 : Int32 → Int64 → Int32 → AH → Option (Int32 × AH)) (h : AH) : Option (Int32 × AH) :=
    vl (v7 + 1) fun x19 =>
    K56 v4 v5 x19 h
set_option maxRecDepth 100000 in
theorem aX10_gusts_j138 {X : MCx} {yd : Dyn} {A : Nat → Prop} (C : OK X cX10_gusts RX10 11 (some .int) rmX10_gusts A)  (v3 : Nat) (hs3 : ZC.1[v3]? = some (.inr 2)) (v4 : Int32) (v5 : Int64) (v7 : Int32) (K56 : Int32 → Int64 → Int32 → AH → Option (Int32 × AH)) (hK56 : ∀ (w4 : Int32) (w5 : Int64) (w7 : Int32) (h : AH), AW X 11 ZC yd A 0 0 (QF X rmX10_gusts ZC yd rvI A) 56 [(0, .ref 0), (3, .ref v3), (4, .int w4), (5, .long w5), (7, .int w7)] [] h (K56 w4 w5 w7 h)) (h : AH) : AW X 11 ZC yd A 0 0 (QF X rmX10_gusts ZC yd rvI A) 138 [(0, .ref 0), (3, .ref v3), (4, .int v4), (5, .long v5), (7, .int v7)] [] h (X10_gusts_j138 v3 v4 v5 v7 K56 h) := by
    exact aw_iincV (pc := 138) C (i := 7) (cst := 1) (fun x19 => [(0, .ref 0), (3, .ref v3), (4, .int v4), (5, .long v5), (7, .int x19)]) dX10_gusts_138 rfl rfl (by decide) (fun _ => rfl) fun x19 =>
    aw_goto (pc := 141) C (tgt := 56) dX10_gusts_141 rfl <|
    (hK56 v4 v5 x19 h)
def X10_gusts_l56  (v3 : Nat) : Nat → Int32 → Int64 → Int32 → AH → Option (Int32 × AH)
  | 0, _, _, _, _ => none
  | n + 1, v4, v5, v7, h =>
    if (h.1 0 8) ≤ v7 then (some (v4, h))
    else (ck v7 12 (vl ((h.1 3 v7.toNatClampNeg) - 9) fun x12 =>
    bd (X2_path v3 (h.1 42 0) x12 h) fun r13 h14 =>
    bd (X1_spread v3 (h.1 42 0) x12 ((h.1 v3 8) - r13) 0 h14) fun _ h16 =>
    bd (X1_meanWays h16) fun r17 h18 =>
    if (lcmpV r17 v5) ≤ 0 then (X10_gusts_j138 v3 v4 v5 v7 (X10_gusts_l56 v3 n) h18)
    else (X10_gusts_j138 v3 v7 r17 v7 (X10_gusts_l56 v3 n) h18)))
set_option maxRecDepth 100000 in
theorem aX10_gusts_l56 {X : MCx} {yd : Dyn} {A : Nat → Prop} (C : OK X cX10_gusts RX10 11 (some .int) rmX10_gusts A)  (v3 : Nat) (hs3 : ZC.1[v3]? = some (.inr 2)) : ∀ (n : Nat) (v4 : Int32) (v5 : Int64) (v7 : Int32) (h : AH), AW X 11 ZC yd A 0 0 (QF X rmX10_gusts ZC yd rvI A) 56 [(0, .ref 0), (3, .ref v3), (4, .int v4), (5, .long v5), (7, .int v7)] [] h (X10_gusts_l56 v3 n v4 v5 v7 h) := by
  intro n
  induction n with
  | zero => intro v4 v5 v7 h; exact aw_none
  | succ n ih =>
    intro v4 v5 v7 h
    exact aw_iload (pc := 56) C (i := 7) dX10_gusts_56 rfl <|
    aw_aload_n (pc := 58) C (i := 0) dX10_gusts_58 rfl rfl <|
    aw_getI (pc := 59) C dX10_gusts_59 fl_X10_327 sC_0 rfl <|
    aw_icmp_ge (pc := 62) C (tgt := 144) dX10_gusts_62 rfl (fun _ =>
    aw_iload (pc := 144) C (i := 4) dX10_gusts_144 rfl <|
    aw_iret (pc := 146) C dX10_gusts_146 rfl rfl) (fun _ =>
    aw_aload_n (pc := 65) C (i := 0) dX10_gusts_65 rfl rfl <|
    aw_getR (pc := 66) C (b := 3) dX10_gusts_66 fl_X10_19 sC_0 rfl rC_0_7 <|
    aw_iload (pc := 69) C (i := 7) dX10_gusts_69 rfl <|
    aw_iald (pc := 71) C dX10_gusts_71 sC_3 rfl <|
    aw_bipush (pc := 72) C (v := 9) dX10_gusts_72 rfl <|
    aw_isub (pc := 74) C dX10_gusts_74 <|
    aw_istoreV (pc := 75) C (i := 8) (fun x12 => [(0, .ref 0), (3, .ref v3), (4, .int v4), (5, .long v5), (7, .int v7), (8, .int x12)]) dX10_gusts_75 (by decide) (fun _ => rfl) fun x12 =>
    aw_aload_n (pc := 77) C (i := 0) dX10_gusts_77 rfl rfl <|
    aw_getR (pc := 78) C (b := 8) dX10_gusts_78 fl_X10_35 sC_0 rfl rC_0_11 <|
    aw_aload_n (pc := 81) C (i := 3) dX10_gusts_81 rfl rfl <|
    aw_aload_n (pc := 82) C (i := 0) dX10_gusts_82 rfl rfl <|
    aw_getR (pc := 83) C (b := 42) dX10_gusts_83 fl_X10_72 sC_0 rfl rC_0_1 <|
    aw_getI (pc := 86) C dX10_gusts_86 fl_X10_163 (mt_s (Or.inl rfl)) rfl <|
    aw_iload (pc := 89) C (i := 8) dX10_gusts_89 rfl <|
    aw_aload_n (pc := 91) C (i := 3) dX10_gusts_91 rfl rfl <|
    aw_getI (pc := 92) C dX10_gusts_92 fl_X10_198 hs3 rfl <|
    aw_aload_n (pc := 95) C (i := 3) dX10_gusts_95 rfl rfl <|
    aw_aload_n (pc := 96) C (i := 0) dX10_gusts_96 rfl rfl <|
    aw_getR (pc := 97) C (b := 42) dX10_gusts_97 fl_X10_72 sC_0 rfl rC_0_1 <|
    aw_getI (pc := 100) C dX10_gusts_100 fl_X10_163 (mt_s (Or.inl rfl)) rfl <|
    aw_iload (pc := 103) C (i := 8) dX10_gusts_103 rfl <|
    aw_callF (pc := 105) C (cr_V (rest := [.int (h.1 v3 8), .int x12, .int (h.1 42 0), .ref v3, .ref 8]) (F := (X2_path v3 (h.1 42 0) x12)) C (c_X2_path X.2.1 v3 hs3 (h.1 42 0) x12) dX10_gusts_105 mf_X2_path ml_X10_232 im_X2_path se_X2_path hs3 rfl ⟨(Nat.le_of_ble_eq_true rfl), (Nat.le_of_ble_eq_true rfl)⟩ rfl rfl (Nat.le_of_ble_eq_true rfl)) rfl rfl rfl (Nat.zero_le _) (Nat.zero_le _) fun r13 h14 =>
    aw_isub (pc := 108) C dX10_gusts_108 <|
    aw_iconst (pc := 109) C (v := 0) dX10_gusts_109 rfl <|
    aw_callF (pc := 110) C (cr_V (rest := []) (F := (X1_spread v3 (h.1 42 0) x12 ((h.1 v3 8) - r13) 0)) C (c_X1_spread X.2.1 v3 hs3 (h.1 42 0) x12 ((h.1 v3 8) - r13) 0) dX10_gusts_110 mf_X1_spread ml_X10_242 im_X1_spread se_X1_spread sC_8 rfl ⟨(Nat.le_of_ble_eq_true rfl), (Nat.le_of_ble_eq_true rfl)⟩ rfl rfl (Nat.le_of_ble_eq_true rfl)) rfl rfl rfl (Nat.zero_le _) (Nat.zero_le _) fun _ h16 =>
    aw_aload_n (pc := 113) C (i := 0) dX10_gusts_113 rfl rfl <|
    aw_getR (pc := 114) C (b := 8) dX10_gusts_114 fl_X10_35 sC_0 rfl rC_0_11 <|
    aw_callF (pc := 117) C (cr_V (rest := []) (F := X1_meanWays) C (c_X1_meanWays X.2.1 ) dX10_gusts_117 mf_X1_meanWays ml_X10_269 im_X1_meanWays se_X1_meanWays sC_8 rfl ⟨(Nat.le_of_ble_eq_true rfl), (Nat.le_of_ble_eq_true rfl)⟩ rfl rfl (Nat.le_of_ble_eq_true rfl)) rfl rfl rfl (Nat.zero_le _) (Nat.zero_le _) fun r17 h18 =>
    aw_lstore (pc := 120) C (i := 9) (lv' := [(0, .ref 0), (3, .ref v3), (4, .int v4), (5, .long v5), (7, .int v7), (8, .int x12), (9, .long r17)]) dX10_gusts_120 (by decide) rfl <|
    aw_lload (pc := 122) C (i := 9) dX10_gusts_122 rfl <|
    aw_lload (pc := 124) C (i := 5) dX10_gusts_124 rfl <|
    aw_lcmp (pc := 126) C dX10_gusts_126 <|
    aw_if_le (pc := 127) C (tgt := 138) dX10_gusts_127 rfl (fun _ =>
    aw_drop [0, 1, 2, 3, 4] (aX10_gusts_j138 C v3 hs3 v4 v5 v7 (X10_gusts_l56 v3 n) ih h18)) (fun _ =>
    aw_lload (pc := 130) C (i := 9) dX10_gusts_130 rfl <|
    aw_lstore (pc := 132) C (i := 5) (lv' := [(0, .ref 0), (3, .ref v3), (4, .int v4), (5, .long r17), (7, .int v7), (8, .int x12), (9, .long r17)]) dX10_gusts_132 (by decide) rfl <|
    aw_iload (pc := 134) C (i := 7) dX10_gusts_134 rfl <|
    aw_istore (pc := 136) C (i := 4) (lv' := [(0, .ref 0), (3, .ref v3), (4, .int v7), (5, .long r17), (7, .int v7), (8, .int x12), (9, .long r17)]) dX10_gusts_136 (by decide) rfl <|
    aw_drop [0, 1, 2, 3, 4] (aX10_gusts_j138 C v3 hs3 v7 r17 v7 (X10_gusts_l56 v3 n) ih h18)))
def X10_gusts_j21  (v1 : Int32) (s0 : Int32) (s1 : Int32) (h : AH) : Option (Int32 × AH) :=
    bd (X10_first s1 s0 h) fun r5 h6 =>
    if r5 = 0 then (bd (X5_at 42 v1 h6) fun r7 h8 =>
    cs ZC r7 (.inr 2) (vl (-9) fun x10 =>
    vl (-1) fun x11 =>
    X10_gusts_l56 r7 FU x10 x11 0 h8))
    else (bd (X10_refuse r5 h6) fun r20 h21 =>
    some (r20, h21))
set_option maxRecDepth 100000 in
theorem aX10_gusts_j21 {X : MCx} {yd : Dyn} {A : Nat → Prop} (C : OK X cX10_gusts RX10 11 (some .int) rmX10_gusts A)  (v1 : Int32) (s0 : Int32) (s1 : Int32) (h : AH) : AW X 11 ZC yd A 0 0 (QF X rmX10_gusts ZC yd rvI A) 21 [(0, .ref 0), (1, .int v1)] [.int s0, .int s1] h (X10_gusts_j21 v1 s0 s1 h) := by
    exact aw_callF (pc := 21) C (cr_S (rest := []) (F := (X10_first s1 s0)) C (c_X10_first X.2.1 s1 s0) dX10_gusts_21 mf_X10_first ml_X10_97 st_X10_first ⟨(Nat.le_of_ble_eq_true rfl), (Nat.le_of_ble_eq_true rfl)⟩ rfl rfl (Nat.le_of_ble_eq_true rfl)) rfl rfl rfl (Nat.zero_le _) (Nat.zero_le _) fun r5 h6 =>
    aw_istore_n (pc := 24) C (i := 2) (lv' := [(0, .ref 0), (1, .int v1), (2, .int r5)]) dX10_gusts_24 rfl (by decide) rfl <|
    aw_iload_n (pc := 25) C (i := 2) dX10_gusts_25 rfl rfl <|
    aw_if_eq (pc := 26) C (tgt := 35) dX10_gusts_26 rfl (fun _ =>
    aw_aload_n (pc := 35) C (i := 0) dX10_gusts_35 rfl rfl <|
    aw_getR (pc := 36) C (b := 42) dX10_gusts_36 fl_X10_72 sC_0 rfl rC_0_1 <|
    aw_iload_n (pc := 39) C (i := 1) dX10_gusts_39 rfl rfl <|
    aw_callF (pc := 40) C (cr_V (rest := []) (F := (X5_at 42 v1)) C (c_X5_at X.2.1 42 (Or.inl rfl) v1) dX10_gusts_40 mf_X5_at ml_X10_169 im_X5_at se_X5_at (mt_s (Or.inl rfl)) rfl ⟨(Nat.le_of_ble_eq_true rfl), (Nat.le_of_ble_eq_true rfl)⟩ rfl rfl (Nat.le_of_ble_eq_true rfl)) rfl rfl rfl (Nat.zero_le _) (Nat.zero_le _) fun r7 h8 =>
    aw_cs fun hs9 =>
    aw_astore_n (pc := 43) C (i := 3) (lv' := [(0, .ref 0), (1, .int v1), (2, .int r5), (3, .ref r7)]) dX10_gusts_43 rfl (by decide) rfl <|
    aw_bipush (pc := 44) C (v := (-9)) dX10_gusts_44 rfl <|
    aw_istoreV (pc := 46) C (i := 4) (fun x10 => [(0, .ref 0), (1, .int v1), (2, .int r5), (3, .ref r7), (4, .int x10)]) dX10_gusts_46 (by decide) (fun _ => rfl) fun x10 =>
    aw_ldc2_w (pc := 48) C (v := (-1)) dX10_gusts_48 kc_X10_280 <|
    aw_lstoreV (pc := 51) C (i := 5) (fun x11 => [(0, .ref 0), (1, .int v1), (2, .int r5), (3, .ref r7), (4, .int x10), (5, .long x11)]) dX10_gusts_51 (by decide) (fun _ => rfl) fun x11 =>
    aw_iconst (pc := 53) C (v := 0) dX10_gusts_53 rfl <|
    aw_istore (pc := 54) C (i := 7) (lv' := [(0, .ref 0), (1, .int v1), (2, .int r5), (3, .ref r7), (4, .int x10), (5, .long x11), (7, .int 0)]) dX10_gusts_54 (by decide) rfl <|
    aw_drop [0, 3, 4, 5, 6] (aX10_gusts_l56 C r7 hs9 FU x10 x11 0 h8)) (fun _ =>
    aw_aload_n (pc := 29) C (i := 0) dX10_gusts_29 rfl rfl <|
    aw_iload_n (pc := 30) C (i := 2) dX10_gusts_30 rfl rfl <|
    aw_callF (pc := 31) C (cr_V (rest := []) (F := (X10_refuse r5)) C (c_X10_refuse X.2.1 r5) dX10_gusts_31 mf_X10_refuse ml_X10_111 im_X10_refuse se_X10_refuse sC_0 rfl ⟨(Nat.le_of_ble_eq_true rfl), (Nat.le_of_ble_eq_true rfl)⟩ rfl rfl (Nat.le_of_ble_eq_true rfl)) rfl rfl rfl (Nat.zero_le _) (Nat.zero_le _) fun r20 h21 =>
    aw_iret (pc := 34) C dX10_gusts_34 rfl rfl)
def X10_gusts (v1 : Int32) (h : AH) : Option (Int32 × AH) :=
    bd (X10_nobody v1 h) fun r1 h2 =>
    bd (X10_greatestFrom 0 h2) fun r3 h4 =>
    if r3 ≤ 18 then (X10_gusts_j21 v1 0 r1 h4)
    else (X10_gusts_j21 v1 (-3) r1 h4)
set_option maxRecDepth 100000 in
theorem c_X10_gusts (l : Launch) (v1 : Int32) : MC l yX10_gusts cX10_gusts 11 (some .int) rmX10_gusts ZC [.ref 0, .int v1] rvI (X10_gusts v1) :=
  MC.of (own := RX10) (by decide +kernel) rfl (Nat.le_of_ble_eq_true rfl) fun X yd A h _ C =>
    aw_aload_n (pc := 0) C (i := 0) dX10_gusts_0 rfl rfl <|
    aw_iload_n (pc := 1) C (i := 1) dX10_gusts_1 rfl rfl <|
    aw_callF (pc := 2) C (cr_V (rest := []) (F := (X10_nobody v1)) C (c_X10_nobody X.2.1 v1) dX10_gusts_2 mf_X10_nobody ml_X10_93 im_X10_nobody se_X10_nobody sC_0 rfl ⟨(Nat.le_of_ble_eq_true rfl), (Nat.le_of_ble_eq_true rfl)⟩ rfl rfl (Nat.le_of_ble_eq_true rfl)) rfl rfl rfl (Nat.zero_le _) (Nat.zero_le _) fun r1 h2 =>
    aw_aload_n (pc := 5) C (i := 0) dX10_gusts_5 rfl rfl <|
    aw_iconst (pc := 6) C (v := 0) dX10_gusts_6 rfl <|
    aw_callF (pc := 7) C (cr_V (rest := [.int r1]) (F := (X10_greatestFrom 0)) C (c_X10_greatestFrom X.2.1 0) dX10_gusts_7 mf_X10_greatestFrom ml_X10_330 im_X10_greatestFrom se_X10_greatestFrom sC_0 rfl ⟨(Nat.le_of_ble_eq_true rfl), (Nat.le_of_ble_eq_true rfl)⟩ rfl rfl (Nat.le_of_ble_eq_true rfl)) rfl rfl rfl (Nat.zero_le _) (Nat.zero_le _) fun r3 h4 =>
    aw_bipush (pc := 10) C (v := 18) dX10_gusts_10 rfl <|
    aw_icmp_le (pc := 12) C (tgt := 20) dX10_gusts_12 rfl (fun _ =>
    aw_iconst (pc := 20) C (v := 0) dX10_gusts_20 rfl <|
    (aX10_gusts_j21 C v1 0 r1 h4)) (fun _ =>
    aw_bipush (pc := 15) C (v := (-3)) dX10_gusts_15 rfl <|
    aw_goto (pc := 17) C (tgt := 21) dX10_gusts_17 rfl <|
    (aX10_gusts_j21 C v1 (-3) r1 h4))

abbrev rmX10_on : Room := { frames := 6, cells := 0, slots := 0, locals := 158 }
def X10_on_j260  (v1 : Int32) (v2 : Int32) (v4 : Int32) (v5 : Int32) (v7 : Int32) (K151 : Int32 → Int32 → AH → Option (Int64 × AH)) (s0 : Int32) (s1 : Int32) (h : AH) : Option (Int64 × AH) :=
    vl (s1 + s0) fun x20 =>
    vl (v7 + 1) fun x21 =>
    K151 x20 x21 h
set_option maxRecDepth 100000 in
theorem aX10_on_j260 {X : MCx} {yd : Dyn} {A : Nat → Prop} (C : OK X cX10_on RX10 9 (some .long) rmX10_on A)  (v1 : Int32) (v2 : Int32) (v4 : Int32) (v5 : Int32) (v7 : Int32) (K151 : Int32 → Int32 → AH → Option (Int64 × AH)) (hK151 : ∀ (w6 : Int32) (w7 : Int32) (h : AH), AW X 9 ZC yd A 0 0 (QF X rmX10_on ZC yd rvL A) 151 [(0, .ref 0), (1, .int v1), (2, .int v2), (4, .int v4), (5, .int v5), (6, .int w6), (7, .int w7)] [] h (K151 w6 w7 h)) (s0 : Int32) (s1 : Int32) (h : AH) : AW X 9 ZC yd A 0 0 (QF X rmX10_on ZC yd rvL A) 260 [(0, .ref 0), (1, .int v1), (2, .int v2), (4, .int v4), (5, .int v5), (7, .int v7)] [.int s0, .int s1] h (X10_on_j260 v1 v2 v4 v5 v7 K151 s0 s1 h) := by
    exact aw_iadd (pc := 260) C dX10_on_260 <|
    aw_istoreV (pc := 261) C (i := 6) (fun x20 => [(0, .ref 0), (1, .int v1), (2, .int v2), (4, .int v4), (5, .int v5), (6, .int x20), (7, .int v7)]) dX10_on_261 (by decide) (fun _ => rfl) fun x20 =>
    aw_iincV (pc := 263) C (i := 7) (cst := 1) (fun x21 => [(0, .ref 0), (1, .int v1), (2, .int v2), (4, .int v4), (5, .int v5), (6, .int x20), (7, .int x21)]) dX10_on_263 rfl rfl (by decide) (fun _ => rfl) fun x21 =>
    aw_goto (pc := 266) C (tgt := 151) dX10_on_266 rfl <|
    (hK151 x20 x21 h)
def X10_on_j225  (v1 : Int32) (v2 : Int32) (v4 : Int32) (v5 : Int32) (v6 : Int32) (v7 : Int32) (v8 : Int32) (K151 : Int32 → Int32 → AH → Option (Int64 × AH)) (K183 : Int32 → AH → Option (Int64 × AH)) (s0 : Int32) (s1 : Int32) (h : AH) : Option (Int64 × AH) :=
    bd (X6_add s1 s0 h) fun _ h23 =>
    vl (v8 + 1) fun x24 =>
    K183 x24 h23
set_option maxRecDepth 100000 in
theorem aX10_on_j225 {X : MCx} {yd : Dyn} {A : Nat → Prop} (C : OK X cX10_on RX10 9 (some .long) rmX10_on A)  (v1 : Int32) (v2 : Int32) (v4 : Int32) (v5 : Int32) (v6 : Int32) (v7 : Int32) (v8 : Int32) (K151 : Int32 → Int32 → AH → Option (Int64 × AH)) (hK151 : ∀ (w6 : Int32) (w7 : Int32) (h : AH), AW X 9 ZC yd A 0 0 (QF X rmX10_on ZC yd rvL A) 151 [(0, .ref 0), (1, .int v1), (2, .int v2), (4, .int v4), (5, .int v5), (6, .int w6), (7, .int w7)] [] h (K151 w6 w7 h)) (K183 : Int32 → AH → Option (Int64 × AH)) (hK183 : ∀ (w8 : Int32) (h : AH), AW X 9 ZC yd A 0 0 (QF X rmX10_on ZC yd rvL A) 183 [(0, .ref 0), (1, .int v1), (2, .int v2), (4, .int v4), (5, .int v5), (6, .int v6), (7, .int v7), (8, .int w8)] [] h (K183 w8 h)) (s0 : Int32) (s1 : Int32) (h : AH) : AW X 9 ZC yd A 0 0 (QF X rmX10_on ZC yd rvL A) 225 [(0, .ref 0), (1, .int v1), (2, .int v2), (4, .int v4), (5, .int v5), (6, .int v6), (7, .int v7), (8, .int v8)] [.int s0, .int s1, .ref 5] h (X10_on_j225 v1 v2 v4 v5 v6 v7 v8 K151 K183 s0 s1 h) := by
    exact aw_callF (pc := 225) C (cr_V (rest := []) (F := (X6_add s1 s0)) C (c_X6_add X.2.1 s1 s0) dX10_on_225 mf_X6_add ml_X10_339 im_X6_add se_X6_add sC_5 rfl ⟨(Nat.le_of_ble_eq_true rfl), (Nat.le_of_ble_eq_true rfl)⟩ rfl rfl (Nat.le_of_ble_eq_true rfl)) rfl rfl rfl (Nat.zero_le _) (Nat.zero_le _) fun _ h23 =>
    aw_iincV (pc := 228) C (i := 8) (cst := 1) (fun x24 => [(0, .ref 0), (1, .int v1), (2, .int v2), (4, .int v4), (5, .int v5), (6, .int v6), (7, .int v7), (8, .int x24)]) dX10_on_228 rfl rfl (by decide) (fun _ => rfl) fun x24 =>
    aw_goto (pc := 231) C (tgt := 183) dX10_on_231 rfl <|
    (hK183 x24 h23)
def X10_on_l183  (v1 : Int32) (v2 : Int32) (v4 : Int32) (v5 : Int32) (v6 : Int32) (v7 : Int32) (K151 : Int32 → Int32 → AH → Option (Int64 × AH)) : Nat → Int32 → AH → Option (Int64 × AH)
  | 0, _, _ => none
  | n + 1, v8, h =>
    if (h.1 42 3) ≤ v8 then (bd (X6_ahead v1 0 h) fun r16 h17 =>
    bd (X5_finalists 42 h17) fun r18 h19 =>
    if r18 ≤ r16 then (X10_on_j260 v1 v2 v4 v5 v7 K151 0 v6 h19)
    else (X10_on_j260 v1 v2 v4 v5 v7 K151 1 v6 h19))
    else (if ((sar32 v7 (v8 - v4)) &&& 1) = 0 then (X10_on_j225 v1 v2 v4 v5 v6 v7 v8 K151 (X10_on_l183 v1 v2 v4 v5 v6 v7 K151 n) 0 v8 h)
    else (ck v8 4 (X10_on_j225 v1 v2 v4 v5 v6 v7 v8 K151 (X10_on_l183 v1 v2 v4 v5 v6 v7 K151 n) (h.1 35 v8.toNatClampNeg) v8 h)))
set_option maxRecDepth 100000 in
theorem aX10_on_l183 {X : MCx} {yd : Dyn} {A : Nat → Prop} (C : OK X cX10_on RX10 9 (some .long) rmX10_on A)  (v1 : Int32) (v2 : Int32) (v4 : Int32) (v5 : Int32) (v6 : Int32) (v7 : Int32) (K151 : Int32 → Int32 → AH → Option (Int64 × AH)) (hK151 : ∀ (w6 : Int32) (w7 : Int32) (h : AH), AW X 9 ZC yd A 0 0 (QF X rmX10_on ZC yd rvL A) 151 [(0, .ref 0), (1, .int v1), (2, .int v2), (4, .int v4), (5, .int v5), (6, .int w6), (7, .int w7)] [] h (K151 w6 w7 h)) : ∀ (n : Nat) (v8 : Int32) (h : AH), AW X 9 ZC yd A 0 0 (QF X rmX10_on ZC yd rvL A) 183 [(0, .ref 0), (1, .int v1), (2, .int v2), (4, .int v4), (5, .int v5), (6, .int v6), (7, .int v7), (8, .int v8)] [] h (X10_on_l183 v1 v2 v4 v5 v6 v7 K151 n v8 h) := by
  intro n
  induction n with
  | zero => intro v8 h; exact aw_none
  | succ n ih =>
    intro v8 h
    exact aw_iload (pc := 183) C (i := 8) dX10_on_183 rfl <|
    aw_aload_n (pc := 185) C (i := 0) dX10_on_185 rfl rfl <|
    aw_getR (pc := 186) C (b := 42) dX10_on_186 fl_X10_72 sC_0 rfl rC_0_1 <|
    aw_getI (pc := 189) C dX10_on_189 fl_X10_89 (mt_s (Or.inl rfl)) rfl <|
    aw_icmp_ge (pc := 192) C (tgt := 234) dX10_on_192 rfl (fun _ =>
    aw_iload (pc := 234) C (i := 6) dX10_on_234 rfl <|
    aw_aload_n (pc := 236) C (i := 0) dX10_on_236 rfl rfl <|
    aw_getR (pc := 237) C (b := 5) dX10_on_237 fl_X10_28 sC_0 rfl rC_0_10 <|
    aw_iload_n (pc := 240) C (i := 1) dX10_on_240 rfl rfl <|
    aw_iconst (pc := 241) C (v := 0) dX10_on_241 rfl <|
    aw_callF (pc := 242) C (cr_V (rest := [.int v6]) (F := (X6_ahead v1 0)) C (c_X6_ahead X.2.1 v1 0) dX10_on_242 mf_X6_ahead ml_X10_312 im_X6_ahead se_X6_ahead sC_5 rfl ⟨(Nat.le_of_ble_eq_true rfl), (Nat.le_of_ble_eq_true rfl)⟩ rfl rfl (Nat.le_of_ble_eq_true rfl)) rfl rfl rfl (Nat.zero_le _) (Nat.zero_le _) fun r16 h17 =>
    aw_aload_n (pc := 245) C (i := 0) dX10_on_245 rfl rfl <|
    aw_getR (pc := 246) C (b := 42) dX10_on_246 fl_X10_72 sC_0 rfl rC_0_1 <|
    aw_callF (pc := 249) C (cr_V (rest := [.int r16, .int v6]) (F := (X5_finalists 42)) C (c_X5_finalists X.2.1 42 (Or.inl rfl)) dX10_on_249 mf_X5_finalists ml_X10_306 im_X5_finalists se_X5_finalists (mt_s (Or.inl rfl)) rfl ⟨(Nat.le_of_ble_eq_true rfl), (Nat.le_of_ble_eq_true rfl)⟩ rfl rfl (Nat.le_of_ble_eq_true rfl)) rfl rfl rfl (Nat.zero_le _) (Nat.zero_le _) fun r18 h19 =>
    aw_icmp_ge (pc := 252) C (tgt := 259) dX10_on_252 rfl (fun _ =>
    aw_iconst (pc := 259) C (v := 0) dX10_on_259 rfl <|
    aw_drop [0, 1, 2, 3, 4, 6] (aX10_on_j260 C v1 v2 v4 v5 v7 K151 hK151 0 v6 h19)) (fun _ =>
    aw_iconst (pc := 255) C (v := 1) dX10_on_255 rfl <|
    aw_goto (pc := 256) C (tgt := 260) dX10_on_256 rfl <|
    aw_drop [0, 1, 2, 3, 4, 6] (aX10_on_j260 C v1 v2 v4 v5 v7 K151 hK151 1 v6 h19))) (fun _ =>
    aw_aload_n (pc := 195) C (i := 0) dX10_on_195 rfl rfl <|
    aw_getR (pc := 196) C (b := 5) dX10_on_196 fl_X10_28 sC_0 rfl rC_0_10 <|
    aw_iload (pc := 199) C (i := 8) dX10_on_199 rfl <|
    aw_iload (pc := 201) C (i := 7) dX10_on_201 rfl <|
    aw_iload (pc := 203) C (i := 8) dX10_on_203 rfl <|
    aw_iload (pc := 205) C (i := 4) dX10_on_205 rfl <|
    aw_isub (pc := 207) C dX10_on_207 <|
    aw_ishr (pc := 208) C dX10_on_208 <|
    aw_iconst (pc := 209) C (v := 1) dX10_on_209 rfl <|
    aw_iand (pc := 210) C dX10_on_210 <|
    aw_if_eq (pc := 211) C (tgt := 224) dX10_on_211 rfl (fun _ =>
    aw_iconst (pc := 224) C (v := 0) dX10_on_224 rfl <|
    (aX10_on_j225 C v1 v2 v4 v5 v6 v7 v8 K151 hK151 (X10_on_l183 v1 v2 v4 v5 v6 v7 K151 n) ih 0 v8 h)) (fun _ =>
    aw_aload_n (pc := 214) C (i := 0) dX10_on_214 rfl rfl <|
    aw_getR (pc := 215) C (b := 35) dX10_on_215 fl_X10_48 sC_0 rfl rC_0_16 <|
    aw_iload (pc := 218) C (i := 8) dX10_on_218 rfl <|
    aw_iald (pc := 220) C dX10_on_220 sC_35 rfl <|
    aw_goto (pc := 221) C (tgt := 225) dX10_on_221 rfl <|
    (aX10_on_j225 C v1 v2 v4 v5 v6 v7 v8 K151 hK151 (X10_on_l183 v1 v2 v4 v5 v6 v7 K151 n) ih (h.1 35 v8.toNatClampNeg) v8 h)))
def X10_on_l151  (v1 : Int32) (v2 : Int32) (v4 : Int32) (v5 : Int32) : Nat → Int32 → Int32 → AH → Option (Int64 × AH)
  | 0, _, _, _ => none
  | n + 1, v6, v7, h =>
    if (shl32 1 v5) ≤ v7 then (bd (X10_fraction v6.toInt64 (shl64 1 v5) v2 h) fun r12 h13 =>
    some (r12, h13))
    else (bd (X5_rank 42 0 (h.1 42 4) h) fun _ h15 =>
    X10_on_l183 v1 v2 v4 v5 v6 v7 (X10_on_l151 v1 v2 v4 v5 n) FU v4 h15)
set_option maxRecDepth 100000 in
theorem aX10_on_l151 {X : MCx} {yd : Dyn} {A : Nat → Prop} (C : OK X cX10_on RX10 9 (some .long) rmX10_on A)  (v1 : Int32) (v2 : Int32) (v4 : Int32) (v5 : Int32) : ∀ (n : Nat) (v6 : Int32) (v7 : Int32) (h : AH), AW X 9 ZC yd A 0 0 (QF X rmX10_on ZC yd rvL A) 151 [(0, .ref 0), (1, .int v1), (2, .int v2), (4, .int v4), (5, .int v5), (6, .int v6), (7, .int v7)] [] h (X10_on_l151 v1 v2 v4 v5 n v6 v7 h) := by
  intro n
  induction n with
  | zero => intro v6 v7 h; exact aw_none
  | succ n ih =>
    intro v6 v7 h
    exact aw_iload (pc := 151) C (i := 7) dX10_on_151 rfl <|
    aw_iconst (pc := 153) C (v := 1) dX10_on_153 rfl <|
    aw_iload (pc := 154) C (i := 5) dX10_on_154 rfl <|
    aw_ishl (pc := 156) C dX10_on_156 <|
    aw_icmp_ge (pc := 157) C (tgt := 269) dX10_on_157 rfl (fun _ =>
    aw_iload (pc := 269) C (i := 6) dX10_on_269 rfl <|
    aw_i2l (pc := 271) C dX10_on_271 <|
    aw_lconst (pc := 272) C (v := 1) dX10_on_272 rfl <|
    aw_iload (pc := 273) C (i := 5) dX10_on_273 rfl <|
    aw_lshl (pc := 275) C dX10_on_275 <|
    aw_iload_n (pc := 276) C (i := 2) dX10_on_276 rfl rfl <|
    aw_callF (pc := 277) C (cr_S (rest := []) (F := (X10_fraction v6.toInt64 (shl64 1 v5) v2)) C (c_X10_fraction X.2.1 v6.toInt64 (shl64 1 v5) v2) dX10_on_277 mf_X10_fraction ml_X10_262 st_X10_fraction ⟨(Nat.le_of_ble_eq_true rfl), (Nat.le_of_ble_eq_true rfl)⟩ rfl rfl (Nat.le_of_ble_eq_true rfl)) rfl rfl rfl (Nat.zero_le _) (Nat.zero_le _) fun r12 h13 =>
    aw_lret (pc := 280) C dX10_on_280 rfl rfl) (fun _ =>
    aw_aload_n (pc := 160) C (i := 0) dX10_on_160 rfl rfl <|
    aw_getR (pc := 161) C (b := 42) dX10_on_161 fl_X10_72 sC_0 rfl rC_0_1 <|
    aw_aload_n (pc := 164) C (i := 0) dX10_on_164 rfl rfl <|
    aw_getR (pc := 165) C (b := 5) dX10_on_165 fl_X10_28 sC_0 rfl rC_0_10 <|
    aw_iconst (pc := 168) C (v := 0) dX10_on_168 rfl <|
    aw_aload_n (pc := 169) C (i := 0) dX10_on_169 rfl rfl <|
    aw_getR (pc := 170) C (b := 42) dX10_on_170 fl_X10_72 sC_0 rfl rC_0_1 <|
    aw_getI (pc := 173) C dX10_on_173 fl_X10_160 (mt_s (Or.inl rfl)) rfl <|
    aw_callF (pc := 176) C (cr_V (rest := []) (F := (X5_rank 42 0 (h.1 42 4))) C (c_X5_rank X.2.1 42 (Or.inl rfl) 0 (h.1 42 4)) dX10_on_176 mf_X5_rank ml_X10_214 im_X5_rank se_X5_rank (mt_s (Or.inl rfl)) rfl ⟨(Nat.le_of_ble_eq_true rfl), (Nat.le_of_ble_eq_true rfl)⟩ rfl rfl (Nat.le_of_ble_eq_true rfl)) rfl rfl rfl (Nat.zero_le _) (Nat.zero_le _) fun _ h15 =>
    aw_iload (pc := 179) C (i := 4) dX10_on_179 rfl <|
    aw_istore (pc := 181) C (i := 8) (lv' := [(0, .ref 0), (1, .int v1), (2, .int v2), (4, .int v4), (5, .int v5), (6, .int v6), (7, .int v7), (8, .int v4)]) dX10_on_181 (by decide) rfl <|
    (aX10_on_l183 C v1 v2 v4 v5 v6 v7 (X10_on_l151 v1 v2 v4 v5 n) ih FU v4 h15))
def X10_on_l95  (v1 : Int32) (v2 : Int32) (v4 : Int32) (v5 : Int32) : Nat → Int32 → AH → Option (Int64 × AH)
  | 0, _, _ => none
  | n + 1, v6, h =>
    if (h.1 42 3) ≤ v6 then (X10_on_l151 v1 v2 v4 v5 FU 0 0 h)
    else (bd (X10_spreadNow v6 0 h) fun _ h26 =>
    bd (X1_meanWays h26) fun r27 h28 =>
    ck v6 4 (vl (sI h28 35 v6.toNatClampNeg ((sar64 r27 (2 * (h28.1 42 0))).toInt32)) fun h29 =>
    vl (v6 + 1) fun x30 =>
    (X10_on_l95 v1 v2 v4 v5 n) x30 h29))
set_option maxRecDepth 100000 in
theorem aX10_on_l95 {X : MCx} {yd : Dyn} {A : Nat → Prop} (C : OK X cX10_on RX10 9 (some .long) rmX10_on A)  (v1 : Int32) (v2 : Int32) (v4 : Int32) (v5 : Int32) : ∀ (n : Nat) (v6 : Int32) (h : AH), AW X 9 ZC yd A 0 0 (QF X rmX10_on ZC yd rvL A) 95 [(0, .ref 0), (1, .int v1), (2, .int v2), (4, .int v4), (5, .int v5), (6, .int v6)] [] h (X10_on_l95 v1 v2 v4 v5 n v6 h) := by
  intro n
  induction n with
  | zero => intro v6 h; exact aw_none
  | succ n ih =>
    intro v6 h
    exact aw_iload (pc := 95) C (i := 6) dX10_on_95 rfl <|
    aw_aload_n (pc := 97) C (i := 0) dX10_on_97 rfl rfl <|
    aw_getR (pc := 98) C (b := 42) dX10_on_98 fl_X10_72 sC_0 rfl rC_0_1 <|
    aw_getI (pc := 101) C dX10_on_101 fl_X10_89 (mt_s (Or.inl rfl)) rfl <|
    aw_icmp_ge (pc := 104) C (tgt := 145) dX10_on_104 rfl (fun _ =>
    aw_iconst (pc := 145) C (v := 0) dX10_on_145 rfl <|
    aw_istore (pc := 146) C (i := 6) (lv' := [(0, .ref 0), (1, .int v1), (2, .int v2), (4, .int v4), (5, .int v5), (6, .int 0)]) dX10_on_146 (by decide) rfl <|
    aw_iconst (pc := 148) C (v := 0) dX10_on_148 rfl <|
    aw_istore (pc := 149) C (i := 7) (lv' := [(0, .ref 0), (1, .int v1), (2, .int v2), (4, .int v4), (5, .int v5), (6, .int 0), (7, .int 0)]) dX10_on_149 (by decide) rfl <|
    (aX10_on_l151 C v1 v2 v4 v5 FU 0 0 h)) (fun _ =>
    aw_aload_n (pc := 107) C (i := 0) dX10_on_107 rfl rfl <|
    aw_iload (pc := 108) C (i := 6) dX10_on_108 rfl <|
    aw_iconst (pc := 110) C (v := 0) dX10_on_110 rfl <|
    aw_callF (pc := 111) C (cr_V (rest := []) (F := (X10_spreadNow v6 0)) C (c_X10_spreadNow X.2.1 v6 0) dX10_on_111 mf_X10_spreadNow ml_X10_251 im_X10_spreadNow se_X10_spreadNow sC_0 rfl ⟨(Nat.le_of_ble_eq_true rfl), (Nat.le_of_ble_eq_true rfl)⟩ rfl rfl (Nat.le_of_ble_eq_true rfl)) rfl rfl rfl (Nat.zero_le _) (Nat.zero_le _) fun _ h26 =>
    aw_aload_n (pc := 114) C (i := 0) dX10_on_114 rfl rfl <|
    aw_getR (pc := 115) C (b := 35) dX10_on_115 fl_X10_48 sC_0 rfl rC_0_16 <|
    aw_iload (pc := 118) C (i := 6) dX10_on_118 rfl <|
    aw_aload_n (pc := 120) C (i := 0) dX10_on_120 rfl rfl <|
    aw_getR (pc := 121) C (b := 8) dX10_on_121 fl_X10_35 sC_0 rfl rC_0_11 <|
    aw_callF (pc := 124) C (cr_V (rest := [.int v6, .ref 35]) (F := X1_meanWays) C (c_X1_meanWays X.2.1 ) dX10_on_124 mf_X1_meanWays ml_X10_269 im_X1_meanWays se_X1_meanWays sC_8 rfl ⟨(Nat.le_of_ble_eq_true rfl), (Nat.le_of_ble_eq_true rfl)⟩ rfl rfl (Nat.le_of_ble_eq_true rfl)) rfl rfl rfl (Nat.zero_le _) (Nat.zero_le _) fun r27 h28 =>
    aw_iconst (pc := 127) C (v := 2) dX10_on_127 rfl <|
    aw_aload_n (pc := 128) C (i := 0) dX10_on_128 rfl rfl <|
    aw_getR (pc := 129) C (b := 42) dX10_on_129 fl_X10_72 sC_0 rfl rC_0_1 <|
    aw_getI (pc := 132) C dX10_on_132 fl_X10_163 (mt_s (Or.inl rfl)) rfl <|
    aw_imul (pc := 135) C dX10_on_135 <|
    aw_lshr (pc := 136) C dX10_on_136 <|
    aw_l2i (pc := 137) C dX10_on_137 <|
    aw_iast (pc := 138) C dX10_on_138 sC_35 rfl fun h29 =>
    aw_iincV (pc := 139) C (i := 6) (cst := 1) (fun x30 => [(0, .ref 0), (1, .int v1), (2, .int v2), (4, .int v4), (5, .int v5), (6, .int x30)]) dX10_on_139 rfl rfl (by decide) (fun _ => rfl) fun x30 =>
    aw_goto (pc := 142) C (tgt := 95) dX10_on_142 rfl <|
    (ih x30 h29))
def X10_on_j77  (v1 : Int32) (v2 : Int32) (s0 : Int32) (h : AH) : Option (Int64 × AH) :=
    vl ((h.1 42 3) - s0) fun x11 =>
    X10_on_l95 v1 v2 s0 x11 FU s0 h
set_option maxRecDepth 100000 in
theorem aX10_on_j77 {X : MCx} {yd : Dyn} {A : Nat → Prop} (C : OK X cX10_on RX10 9 (some .long) rmX10_on A)  (v1 : Int32) (v2 : Int32) (s0 : Int32) (h : AH) : AW X 9 ZC yd A 0 0 (QF X rmX10_on ZC yd rvL A) 77 [(0, .ref 0), (1, .int v1), (2, .int v2)] [.int s0] h (X10_on_j77 v1 v2 s0 h) := by
    exact aw_istore (pc := 77) C (i := 4) (lv' := [(0, .ref 0), (1, .int v1), (2, .int v2), (4, .int s0)]) dX10_on_77 (by decide) rfl <|
    aw_aload_n (pc := 79) C (i := 0) dX10_on_79 rfl rfl <|
    aw_getR (pc := 80) C (b := 42) dX10_on_80 fl_X10_72 sC_0 rfl rC_0_1 <|
    aw_getI (pc := 83) C dX10_on_83 fl_X10_89 (mt_s (Or.inl rfl)) rfl <|
    aw_iload (pc := 86) C (i := 4) dX10_on_86 rfl <|
    aw_isub (pc := 88) C dX10_on_88 <|
    aw_istoreV (pc := 89) C (i := 5) (fun x11 => [(0, .ref 0), (1, .int v1), (2, .int v2), (4, .int s0), (5, .int x11)]) dX10_on_89 (by decide) (fun _ => rfl) fun x11 =>
    aw_iload (pc := 91) C (i := 4) dX10_on_91 rfl <|
    aw_istore (pc := 93) C (i := 6) (lv' := [(0, .ref 0), (1, .int v1), (2, .int v2), (4, .int s0), (5, .int x11), (6, .int s0)]) dX10_on_93 (by decide) rfl <|
    (aX10_on_l95 C v1 v2 s0 x11 FU s0 h)
def X10_on_j26  (v1 : Int32) (v2 : Int32) (s0 : Int32) (s1 : Int32) (s2 : Int32) (h : AH) : Option (Int64 × AH) :=
    bd (X10_first s1 s0 h) fun r7 h8 =>
    bd (X10_first s2 r7 h8) fun r9 h10 =>
    if r9 = 0 then (if (h10.1 42 3) ≤ 0 then (X10_on_j77 v1 v2 0 h10)
    else (if (h10.1 42 3) = 0 then none else (X10_on_j77 v1 v2 (rm32 (h10.1 42 4) (h10.1 42 3)) h10)))
    else (bd (X10_refuse r9 h10) fun r31 h32 =>
    some ((4000000000000000000 - r31.toInt64), h32))
set_option maxRecDepth 100000 in
theorem aX10_on_j26 {X : MCx} {yd : Dyn} {A : Nat → Prop} (C : OK X cX10_on RX10 9 (some .long) rmX10_on A)  (v1 : Int32) (v2 : Int32) (s0 : Int32) (s1 : Int32) (s2 : Int32) (h : AH) : AW X 9 ZC yd A 0 0 (QF X rmX10_on ZC yd rvL A) 26 [(0, .ref 0), (1, .int v1), (2, .int v2)] [.int s0, .int s1, .int s2] h (X10_on_j26 v1 v2 s0 s1 s2 h) := by
    exact aw_callF (pc := 26) C (cr_S (rest := [.int s2]) (F := (X10_first s1 s0)) C (c_X10_first X.2.1 s1 s0) dX10_on_26 mf_X10_first ml_X10_97 st_X10_first ⟨(Nat.le_of_ble_eq_true rfl), (Nat.le_of_ble_eq_true rfl)⟩ rfl rfl (Nat.le_of_ble_eq_true rfl)) rfl rfl rfl (Nat.zero_le _) (Nat.zero_le _) fun r7 h8 =>
    aw_callF (pc := 29) C (cr_S (rest := []) (F := (X10_first s2 r7)) C (c_X10_first X.2.1 s2 r7) dX10_on_29 mf_X10_first ml_X10_97 st_X10_first ⟨(Nat.le_of_ble_eq_true rfl), (Nat.le_of_ble_eq_true rfl)⟩ rfl rfl (Nat.le_of_ble_eq_true rfl)) rfl rfl rfl (Nat.zero_le _) (Nat.zero_le _) fun r9 h10 =>
    aw_istore_n (pc := 32) C (i := 3) (lv' := [(0, .ref 0), (1, .int v1), (2, .int v2), (3, .int r9)]) dX10_on_32 rfl (by decide) rfl <|
    aw_iload_n (pc := 33) C (i := 3) dX10_on_33 rfl rfl <|
    aw_if_eq (pc := 34) C (tgt := 48) dX10_on_34 rfl (fun _ =>
    aw_aload_n (pc := 48) C (i := 0) dX10_on_48 rfl rfl <|
    aw_getR (pc := 49) C (b := 42) dX10_on_49 fl_X10_72 sC_0 rfl rC_0_1 <|
    aw_getI (pc := 52) C dX10_on_52 fl_X10_89 (mt_s (Or.inl rfl)) rfl <|
    aw_if_le (pc := 55) C (tgt := 76) dX10_on_55 rfl (fun _ =>
    aw_iconst (pc := 76) C (v := 0) dX10_on_76 rfl <|
    aw_drop [0, 1, 2] (aX10_on_j77 C v1 v2 0 h10)) (fun _ =>
    aw_aload_n (pc := 58) C (i := 0) dX10_on_58 rfl rfl <|
    aw_getR (pc := 59) C (b := 42) dX10_on_59 fl_X10_72 sC_0 rfl rC_0_1 <|
    aw_getI (pc := 62) C dX10_on_62 fl_X10_160 (mt_s (Or.inl rfl)) rfl <|
    aw_aload_n (pc := 65) C (i := 0) dX10_on_65 rfl rfl <|
    aw_getR (pc := 66) C (b := 42) dX10_on_66 fl_X10_72 sC_0 rfl rC_0_1 <|
    aw_getI (pc := 69) C dX10_on_69 fl_X10_89 (mt_s (Or.inl rfl)) rfl <|
    aw_irem (pc := 72) C dX10_on_72 <|
    aw_goto (pc := 73) C (tgt := 77) dX10_on_73 rfl <|
    aw_drop [0, 1, 2] (aX10_on_j77 C v1 v2 (rm32 (h10.1 42 4) (h10.1 42 3)) h10))) (fun _ =>
    aw_ldc2_w (pc := 37) C (v := 4000000000000000000) dX10_on_37 kc_X10_249 <|
    aw_aload_n (pc := 40) C (i := 0) dX10_on_40 rfl rfl <|
    aw_iload_n (pc := 41) C (i := 3) dX10_on_41 rfl rfl <|
    aw_callF (pc := 42) C (cr_V (rest := [.long 4000000000000000000]) (F := (X10_refuse r9)) C (c_X10_refuse X.2.1 r9) dX10_on_42 mf_X10_refuse ml_X10_111 im_X10_refuse se_X10_refuse sC_0 rfl ⟨(Nat.le_of_ble_eq_true rfl), (Nat.le_of_ble_eq_true rfl)⟩ rfl rfl (Nat.le_of_ble_eq_true rfl)) rfl rfl rfl (Nat.zero_le _) (Nat.zero_le _) fun r31 h32 =>
    aw_i2l (pc := 45) C dX10_on_45 <|
    aw_lsub (pc := 46) C dX10_on_46 <|
    aw_lret (pc := 47) C dX10_on_47 rfl rfl)
def X10_on (v1 : Int32) (v2 : Int32) (h : AH) : Option (Int64 × AH) :=
    bd (X10_nobody v1 h) fun r1 h2 =>
    bd (X10_noPart v2 h2) fun r3 h4 =>
    bd (X5_round 42 h4) fun r5 h6 =>
    if r5 ≤ 2 then (X10_on_j26 v1 v2 0 r3 r1 h6)
    else (X10_on_j26 v1 v2 (-3) r3 r1 h6)
set_option maxRecDepth 100000 in
theorem c_X10_on (l : Launch) (v1 : Int32) (v2 : Int32) : MC l yX10_on cX10_on 9 (some .long) rmX10_on ZC [.ref 0, .int v1, .int v2] rvL (X10_on v1 v2) :=
  MC.of (own := RX10) (by decide +kernel) rfl (Nat.le_of_ble_eq_true rfl) fun X yd A h _ C =>
    aw_aload_n (pc := 0) C (i := 0) dX10_on_0 rfl rfl <|
    aw_iload_n (pc := 1) C (i := 1) dX10_on_1 rfl rfl <|
    aw_callF (pc := 2) C (cr_V (rest := []) (F := (X10_nobody v1)) C (c_X10_nobody X.2.1 v1) dX10_on_2 mf_X10_nobody ml_X10_93 im_X10_nobody se_X10_nobody sC_0 rfl ⟨(Nat.le_of_ble_eq_true rfl), (Nat.le_of_ble_eq_true rfl)⟩ rfl rfl (Nat.le_of_ble_eq_true rfl)) rfl rfl rfl (Nat.zero_le _) (Nat.zero_le _) fun r1 h2 =>
    aw_iload_n (pc := 5) C (i := 2) dX10_on_5 rfl rfl <|
    aw_callF (pc := 6) C (cr_S (rest := [.int r1]) (F := (X10_noPart v2)) C (c_X10_noPart X.2.1 v2) dX10_on_6 mf_X10_noPart ml_X10_246 st_X10_noPart ⟨(Nat.le_of_ble_eq_true rfl), (Nat.le_of_ble_eq_true rfl)⟩ rfl rfl (Nat.le_of_ble_eq_true rfl)) rfl rfl rfl (Nat.zero_le _) (Nat.zero_le _) fun r3 h4 =>
    aw_aload_n (pc := 9) C (i := 0) dX10_on_9 rfl rfl <|
    aw_getR (pc := 10) C (b := 42) dX10_on_10 fl_X10_72 sC_0 rfl rC_0_1 <|
    aw_callF (pc := 13) C (cr_V (rest := [.int r3, .int r1]) (F := (X5_round 42)) C (c_X5_round X.2.1 42 (Or.inl rfl)) dX10_on_13 mf_X5_round ml_X10_336 im_X5_round se_X5_round (mt_s (Or.inl rfl)) rfl ⟨(Nat.le_of_ble_eq_true rfl), (Nat.le_of_ble_eq_true rfl)⟩ rfl rfl (Nat.le_of_ble_eq_true rfl)) rfl rfl rfl (Nat.zero_le _) (Nat.zero_le _) fun r5 h6 =>
    aw_iconst (pc := 16) C (v := 2) dX10_on_16 rfl <|
    aw_icmp_le (pc := 17) C (tgt := 25) dX10_on_17 rfl (fun _ =>
    aw_iconst (pc := 25) C (v := 0) dX10_on_25 rfl <|
    (aX10_on_j26 C v1 v2 0 r3 r1 h6)) (fun _ =>
    aw_bipush (pc := 20) C (v := (-3)) dX10_on_20 rfl <|
    aw_goto (pc := 22) C (tgt := 26) dX10_on_22 rfl <|
    (aX10_on_j26 C v1 v2 (-3) r3 r1 h6))
