abbrev rmX11_triesAs : Room := { frames := 0, cells := 0, slots := 0, locals := 0 }
def X11_triesAs_j28  (v1 : Int32) (v3 : Int32) (K4 : Int32 → Int32 → AH → Option (Int32 × AH)) (s0 : Int32) (s1 : Int32) (h : AH) : Option (Int32 × AH) :=
    vl (s1 + s0) fun x1 =>
    vl (v3 + 1) fun x2 =>
    K4 x1 x2 h
set_option maxRecDepth 100000 in
theorem aX11_triesAs_j28 {X : MCx} {yd : Dyn} {A : Nat → Prop} (C : OK X cX11_triesAs RX11 4 (some .int) rmX11_triesAs A)  (v1 : Int32) (v3 : Int32) (K4 : Int32 → Int32 → AH → Option (Int32 × AH)) (hK4 : ∀ (w2 : Int32) (w3 : Int32) (h : AH), AW X 4 ZR yd A 0 0 (QF X rmX11_triesAs ZR yd rvI A) 4 [(0, .ref 0), (1, .int v1), (2, .int w2), (3, .int w3)] [] h (K4 w2 w3 h)) (s0 : Int32) (s1 : Int32) (h : AH) : AW X 4 ZR yd A 0 0 (QF X rmX11_triesAs ZR yd rvI A) 28 [(0, .ref 0), (1, .int v1), (3, .int v3)] [.int s0, .int s1] h (X11_triesAs_j28 v1 v3 K4 s0 s1 h) := by
    exact aw_iadd (pc := 28) C dX11_triesAs_28 <|
    aw_istoreV_n (pc := 29) C (i := 2) (fun x1 => [(0, .ref 0), (1, .int v1), (2, .int x1), (3, .int v3)]) dX11_triesAs_29 rfl (by decide) (fun _ => rfl) fun x1 =>
    aw_iincV (pc := 30) C (i := 3) (cst := 1) (fun x2 => [(0, .ref 0), (1, .int v1), (2, .int x1), (3, .int x2)]) dX11_triesAs_30 rfl rfl (by decide) (fun _ => rfl) fun x2 =>
    aw_goto (pc := 33) C (tgt := 4) dX11_triesAs_33 rfl <|
    (hK4 x1 x2 h)
def X11_triesAs_l4  (v1 : Int32) : Nat → Int32 → Int32 → AH → Option (Int32 × AH)
  | 0, _, _, _ => none
  | n + 1, v2, v3, h =>
    if (h.1 0 16) ≤ v3 then (some (v2, h))
    else (ck v3 24 (if (h.1 11 v3.toNatClampNeg) = v1 then (X11_triesAs_j28 v1 v3 (X11_triesAs_l4 v1 n) 1 v2 h)
    else (X11_triesAs_j28 v1 v3 (X11_triesAs_l4 v1 n) 0 v2 h)))
set_option maxRecDepth 100000 in
theorem aX11_triesAs_l4 {X : MCx} {yd : Dyn} {A : Nat → Prop} (C : OK X cX11_triesAs RX11 4 (some .int) rmX11_triesAs A)  (v1 : Int32) : ∀ (n : Nat) (v2 : Int32) (v3 : Int32) (h : AH), AW X 4 ZR yd A 0 0 (QF X rmX11_triesAs ZR yd rvI A) 4 [(0, .ref 0), (1, .int v1), (2, .int v2), (3, .int v3)] [] h (X11_triesAs_l4 v1 n v2 v3 h) := by
  intro n
  induction n with
  | zero => intro v2 v3 h; exact aw_none
  | succ n ih =>
    intro v2 v3 h
    exact aw_iload_n (pc := 4) C (i := 3) dX11_triesAs_4 rfl rfl <|
    aw_aload_n (pc := 5) C (i := 0) dX11_triesAs_5 rfl rfl <|
    aw_getI (pc := 6) C dX11_triesAs_6 fl_X11_147 sR_0 rfl <|
    aw_icmp_ge (pc := 9) C (tgt := 36) dX11_triesAs_9 rfl (fun _ =>
    aw_iload_n (pc := 36) C (i := 2) dX11_triesAs_36 rfl rfl <|
    aw_iret (pc := 37) C dX11_triesAs_37 rfl rfl) (fun _ =>
    aw_iload_n (pc := 12) C (i := 2) dX11_triesAs_12 rfl rfl <|
    aw_aload_n (pc := 13) C (i := 0) dX11_triesAs_13 rfl rfl <|
    aw_getR (pc := 14) C (b := 11) dX11_triesAs_14 fl_X11_40 sR_0 rfl rR_0_10 <|
    aw_iload_n (pc := 17) C (i := 3) dX11_triesAs_17 rfl rfl <|
    aw_iald (pc := 18) C dX11_triesAs_18 sR_11 rfl <|
    aw_iload_n (pc := 19) C (i := 1) dX11_triesAs_19 rfl rfl <|
    aw_icmp_ne (pc := 20) C (tgt := 27) dX11_triesAs_20 rfl (fun _ =>
    aw_iconst (pc := 23) C (v := 1) dX11_triesAs_23 rfl <|
    aw_goto (pc := 24) C (tgt := 28) dX11_triesAs_24 rfl <|
    aw_drop [0, 1, 3] (aX11_triesAs_j28 C v1 v3 (X11_triesAs_l4 v1 n) ih 1 v2 h)) (fun _ =>
    aw_iconst (pc := 27) C (v := 0) dX11_triesAs_27 rfl <|
    aw_drop [0, 1, 3] (aX11_triesAs_j28 C v1 v3 (X11_triesAs_l4 v1 n) ih 0 v2 h)))
def X11_triesAs (v1 : Int32) (h : AH) : Option (Int32 × AH) :=
    X11_triesAs_l4 v1 FU 0 0 h
set_option maxRecDepth 100000 in
theorem c_X11_triesAs (l : Launch) (v1 : Int32) : MC l yX11_triesAs cX11_triesAs 4 (some .int) rmX11_triesAs ZR [.ref 0, .int v1] rvI (X11_triesAs v1) :=
  MC.of (own := RX11) (by decide +kernel) rfl (Nat.le_of_ble_eq_true rfl) fun X yd A h _ C =>
    aw_iconst (pc := 0) C (v := 0) dX11_triesAs_0 rfl <|
    aw_istore_n (pc := 1) C (i := 2) (lv' := [(0, .ref 0), (1, .int v1), (2, .int 0)]) dX11_triesAs_1 rfl (by decide) rfl <|
    aw_iconst (pc := 2) C (v := 0) dX11_triesAs_2 rfl <|
    aw_istore_n (pc := 3) C (i := 3) (lv' := [(0, .ref 0), (1, .int v1), (2, .int 0), (3, .int 0)]) dX11_triesAs_3 rfl (by decide) rfl <|
    (aX11_triesAs_l4 C v1 FU 0 0 h)

abbrev rmX11_count : Room := { frames := 6, cells := 0, slots := 0, locals := 130 }
def X11_count (v1 : Int32) (h : AH) : Option (Int32 × AH) :=
    bd (X11_isIn v1 11 16 h) fun r1 h2 =>
    if r1 = 0 then (vl v1 fun y3 =>
    if y3 = 0 then (some ((h2.1 0 15), h2))
    else if y3 = 1 then (bd (X11_roundNow h2) fun r5 h6 =>
    some (r5, h6))
    else if y3 = 2 then (some ((h2.1 0 16), h2))
    else if y3 = 3 then (some ((h2.1 0 12), h2))
    else if y3 = 4 then (some ((h2.1 0 13), h2))
    else if y3 = 5 then (bd (X11_triesAs (-9) h2) fun r11 h12 =>
    some (r11, h12))
    else if y3 = 6 then (bd (X11_triesAs (-8) h2) fun r14 h15 =>
    some (r14, h15))
    else if y3 = 7 then (some ((h2.1 0 21), h2))
    else if y3 = 8 then (some ((h2.1 0 34), h2))
    else (some ((-9), h2)))
    else (ck (v1 - 10) 7 (some ((h2.1 1 (v1 - 10).toNatClampNeg), h2)))
set_option maxRecDepth 100000 in
theorem c_X11_count (l : Launch) (v1 : Int32) : MC l yX11_count cX11_count 2 (some .int) rmX11_count ZR [.ref 0, .int v1] rvI (X11_count v1) :=
  MC.of (own := RX11) (by decide +kernel) rfl (Nat.le_of_ble_eq_true rfl) fun X yd A h _ C =>
    aw_iload_n (pc := 0) C (i := 1) dX11_count_0 rfl rfl <|
    aw_bipush (pc := 1) C (v := 11) dX11_count_1 rfl <|
    aw_bipush (pc := 3) C (v := 16) dX11_count_3 rfl <|
    aw_callF (pc := 5) C (cr_S (rest := []) (F := (X11_isIn v1 11 16)) C (c_X11_isIn X.2.1 v1 11 16) dX11_count_5 mf_X11_isIn ml_X11_126 st_X11_isIn ⟨(Nat.le_of_ble_eq_true rfl), (Nat.le_of_ble_eq_true rfl)⟩ rfl rfl (Nat.le_of_ble_eq_true rfl)) rfl rfl rfl (Nat.zero_le _) (Nat.zero_le _) fun r1 h2 =>
    aw_if_eq (pc := 8) C (tgt := 21) dX11_count_8 rfl (fun _ =>
    aw_iload_n (pc := 21) C (i := 1) dX11_count_21 rfl rfl <|
    aw_vlI fun y3 =>
    aw_if (fun c4 => aw_tswA (pc := 22) C (off := 50) (tg := 72) 0 dX11_count_22 (by rw [c4]; rfl) (by decide) (by decide) rfl rfl (aw_aload_n (pc := 72) C (i := 0) dX11_count_72 rfl rfl <|
    aw_getI (pc := 73) C dX11_count_73 fl_X11_105 sR_0 rfl <|
    aw_iret (pc := 76) C dX11_count_76 rfl rfl)) (fun c4 =>
    aw_if (fun c7 => aw_tswA (pc := 22) C (off := 55) (tg := 77) 1 dX11_count_22 (by rw [c7]; rfl) (by decide) (by decide) rfl rfl (aw_aload_n (pc := 77) C (i := 0) dX11_count_77 rfl rfl <|
    aw_callF (pc := 78) C (cr_V (rest := []) (F := X11_roundNow) C (c_X11_roundNow X.2.1 ) dX11_count_78 mf_X11_roundNow ml_X11_301 im_X11_roundNow se_X11_roundNow sR_0 rfl ⟨(Nat.le_of_ble_eq_true rfl), (Nat.le_of_ble_eq_true rfl)⟩ rfl rfl (Nat.le_of_ble_eq_true rfl)) rfl rfl rfl (Nat.zero_le _) (Nat.zero_le _) fun r5 h6 =>
    aw_iret (pc := 81) C dX11_count_81 rfl rfl)) (fun c7 =>
    aw_if (fun c8 => aw_tswA (pc := 22) C (off := 60) (tg := 82) 2 dX11_count_22 (by rw [c8]; rfl) (by decide) (by decide) rfl rfl (aw_aload_n (pc := 82) C (i := 0) dX11_count_82 rfl rfl <|
    aw_getI (pc := 83) C dX11_count_83 fl_X11_147 sR_0 rfl <|
    aw_iret (pc := 86) C dX11_count_86 rfl rfl)) (fun c8 =>
    aw_if (fun c9 => aw_tswA (pc := 22) C (off := 65) (tg := 87) 3 dX11_count_22 (by rw [c9]; rfl) (by decide) (by decide) rfl rfl (aw_aload_n (pc := 87) C (i := 0) dX11_count_87 rfl rfl <|
    aw_getI (pc := 88) C dX11_count_88 fl_X11_95 sR_0 rfl <|
    aw_iret (pc := 91) C dX11_count_91 rfl rfl)) (fun c9 =>
    aw_if (fun c10 => aw_tswA (pc := 22) C (off := 70) (tg := 92) 4 dX11_count_22 (by rw [c10]; rfl) (by decide) (by decide) rfl rfl (aw_aload_n (pc := 92) C (i := 0) dX11_count_92 rfl rfl <|
    aw_getI (pc := 93) C dX11_count_93 fl_X11_99 sR_0 rfl <|
    aw_iret (pc := 96) C dX11_count_96 rfl rfl)) (fun c10 =>
    aw_if (fun c13 => aw_tswA (pc := 22) C (off := 75) (tg := 97) 5 dX11_count_22 (by rw [c13]; rfl) (by decide) (by decide) rfl rfl (aw_aload_n (pc := 97) C (i := 0) dX11_count_97 rfl rfl <|
    aw_bipush (pc := 98) C (v := (-9)) dX11_count_98 rfl <|
    aw_callF (pc := 100) C (cr_V (rest := []) (F := (X11_triesAs (-9))) C (c_X11_triesAs X.2.1 (-9)) dX11_count_100 mf_X11_triesAs ml_X11_349 im_X11_triesAs se_X11_triesAs sR_0 rfl ⟨(Nat.le_of_ble_eq_true rfl), (Nat.le_of_ble_eq_true rfl)⟩ rfl rfl (Nat.le_of_ble_eq_true rfl)) rfl rfl rfl (Nat.zero_le _) (Nat.zero_le _) fun r11 h12 =>
    aw_iret (pc := 103) C dX11_count_103 rfl rfl)) (fun c13 =>
    aw_if (fun c16 => aw_tswA (pc := 22) C (off := 82) (tg := 104) 6 dX11_count_22 (by rw [c16]; rfl) (by decide) (by decide) rfl rfl (aw_aload_n (pc := 104) C (i := 0) dX11_count_104 rfl rfl <|
    aw_bipush (pc := 105) C (v := (-8)) dX11_count_105 rfl <|
    aw_callF (pc := 107) C (cr_V (rest := []) (F := (X11_triesAs (-8))) C (c_X11_triesAs X.2.1 (-8)) dX11_count_107 mf_X11_triesAs ml_X11_349 im_X11_triesAs se_X11_triesAs sR_0 rfl ⟨(Nat.le_of_ble_eq_true rfl), (Nat.le_of_ble_eq_true rfl)⟩ rfl rfl (Nat.le_of_ble_eq_true rfl)) rfl rfl rfl (Nat.zero_le _) (Nat.zero_le _) fun r14 h15 =>
    aw_iret (pc := 110) C dX11_count_110 rfl rfl)) (fun c16 =>
    aw_if (fun c17 => aw_tswA (pc := 22) C (off := 89) (tg := 111) 7 dX11_count_22 (by rw [c17]; rfl) (by decide) (by decide) rfl rfl (aw_aload_n (pc := 111) C (i := 0) dX11_count_111 rfl rfl <|
    aw_getI (pc := 112) C dX11_count_112 fl_X11_112 sR_0 rfl <|
    aw_iret (pc := 115) C dX11_count_115 rfl rfl)) (fun c17 =>
    aw_if (fun c18 => aw_tswA (pc := 22) C (off := 94) (tg := 116) 8 dX11_count_22 (by rw [c18]; rfl) (by decide) (by decide) rfl rfl (aw_aload_n (pc := 116) C (i := 0) dX11_count_116 rfl rfl <|
    aw_getI (pc := 117) C dX11_count_117 fl_X11_295 sR_0 rfl <|
    aw_iret (pc := 120) C dX11_count_120 rfl rfl)) (fun c18 =>
    aw_tswD (pc := 22) C (N := 9) (td := 121) [0, 1, 2, 3, 4, 5, 6, 7, 8] dX11_count_22 (List.forall_mem_cons.mpr ⟨ti_ne c4 rfl, List.forall_mem_cons.mpr ⟨ti_ne c7 rfl, List.forall_mem_cons.mpr ⟨ti_ne c8 rfl, List.forall_mem_cons.mpr ⟨ti_ne c9 rfl, List.forall_mem_cons.mpr ⟨ti_ne c10 rfl, List.forall_mem_cons.mpr ⟨ti_ne c13 rfl, List.forall_mem_cons.mpr ⟨ti_ne c16 rfl, List.forall_mem_cons.mpr ⟨ti_ne c17 rfl, List.forall_mem_cons.mpr ⟨ti_ne c18 rfl, fun _ hz => by cases hz⟩⟩⟩⟩⟩⟩⟩⟩⟩) rfl (by decide) rfl (aw_bipush (pc := 121) C (v := (-9)) dX11_count_121 rfl <|
    aw_iret (pc := 123) C dX11_count_123 rfl rfl))))))))))) (fun _ =>
    aw_aload_n (pc := 11) C (i := 0) dX11_count_11 rfl rfl <|
    aw_getR (pc := 12) C (b := 1) dX11_count_12 fl_X11_7 sR_0 rfl rR_0_0 <|
    aw_iload_n (pc := 15) C (i := 1) dX11_count_15 rfl rfl <|
    aw_bipush (pc := 16) C (v := 10) dX11_count_16 rfl <|
    aw_isub (pc := 18) C dX11_count_18 <|
    aw_iald (pc := 19) C dX11_count_19 sR_1 rfl <|
    aw_iret (pc := 20) C dX11_count_20 rfl rfl)
