abbrev rmX1_init_i8 : Room := { frames := 1, cells := 23, slots := 1882, locals := 20 }
def X1_init_i8_l49  (v1 : Int32) (K41 : Int32 → AH → Option (Unit × AH)) : Nat → Int32 → AH → Option (Unit × AH)
  | 0, _, _ => none
  | n + 1, v2, h =>
    if ((2 * v1) - 2) < v2 then (vl (v1 + 1) fun x8 =>
    K41 x8 h)
    else (ck v1 21 (ck v2 41 (ck (v1 - 1) 21 (ck v2 41 (ck v2 41 (vl (sL h (10 + v1.toNatClampNeg % 21) v2.toNatClampNeg ((h.2.1 (10 + v1.toNatClampNeg % 21) v2.toNatClampNeg) + (h.2.1 (10 + (v1 - 1).toNatClampNeg % 21) v2.toNatClampNeg))) fun h9 =>
    ck v1 21 (ck (v2 + 1) 41 (ck (v1 - 1) 21 (ck v2 41 (ck (v2 + 1) 41 (vl (sL h9 (10 + v1.toNatClampNeg % 21) (v2 + 1).toNatClampNeg ((h9.2.1 (10 + v1.toNatClampNeg % 21) (v2 + 1).toNatClampNeg) + (2 * (h9.2.1 (10 + (v1 - 1).toNatClampNeg % 21) v2.toNatClampNeg)))) fun h10 =>
    ck v1 21 (ck (v2 + 2) 41 (ck (v1 - 1) 21 (ck v2 41 (ck (v2 + 2) 41 (vl (sL h10 (10 + v1.toNatClampNeg % 21) (v2 + 2).toNatClampNeg ((h10.2.1 (10 + v1.toNatClampNeg % 21) (v2 + 2).toNatClampNeg) + (h10.2.1 (10 + (v1 - 1).toNatClampNeg % 21) v2.toNatClampNeg))) fun h11 =>
    vl (v2 + 1) fun x12 =>
    (X1_init_i8_l49 v1 K41 n) x12 h11))))))))))))))))
set_option maxRecDepth 100000 in
theorem aX1_init_i8_l49 {X : MCx} {yd : Dyn} {A : Nat → Prop} (C : OK X cX1_init RX1 3 none rmX1_init_i8 A) {yd0 : Dyn} (hg : Agr YC15 yd0 yd) (v1 : Int32) (K41 : Int32 → AH → Option (Unit × AH)) (hK41 : ∀ (w1 : Int32) (h : AH), AW X 3 YC19 yd A (0 + 1 + 21 + 1) (0 + 21 + 21 * 41 + 1000) (QFN X rmX1_init_i8 YC15 YC19 yd0 A) 41 [(0, .ref 8), (1, .int w1)] [] h (K41 w1 h)) : ∀ (n : Nat) (v2 : Int32) (h : AH), AW X 3 YC19 yd A (0 + 1 + 21 + 1) (0 + 21 + 21 * 41 + 1000) (QFN X rmX1_init_i8 YC15 YC19 yd0 A) 49 [(0, .ref 8), (1, .int v1), (2, .int v2)] [] h (X1_init_i8_l49 v1 K41 n v2 h) := by
  intro n
  induction n with
  | zero => intro v2 h; exact aw_none
  | succ n ih =>
    intro v2 h
    exact aw_iload_n (pc := 49) C (i := 2) dX1_init_49 rfl rfl <|
    aw_iconst (pc := 50) C (v := 2) dX1_init_50 rfl <|
    aw_iload_n (pc := 51) C (i := 1) dX1_init_51 rfl rfl <|
    aw_imul (pc := 52) C dX1_init_52 <|
    aw_iconst (pc := 53) C (v := 2) dX1_init_53 rfl <|
    aw_isub (pc := 54) C dX1_init_54 <|
    aw_icmp_gt (pc := 55) C (tgt := 135) dX1_init_55 rfl (fun _ =>
    aw_iincV (pc := 135) C (i := 1) (cst := 1) (fun x8 => [(0, .ref 8), (1, .int x8), (2, .int v2)]) dX1_init_135 rfl rfl (by decide) (fun _ => rfl) fun x8 =>
    aw_goto (pc := 138) C (tgt := 41) dX1_init_138 rfl <|
    aw_drop [0, 1] (hK41 x8 h)) (fun _ =>
    aw_aload_n (pc := 58) C (i := 0) dX1_init_58 rfl rfl <|
    aw_getR (pc := 59) C (b := 9) dX1_init_59 fl_X1_11 rfl rfl rfl <|
    aw_iload_n (pc := 62) C (i := 1) dX1_init_62 rfl rfl <|
    aw_aaldI (pc := 63) C (b := (10 + v1.toNatClampNeg % 21)) dX1_init_63 rfl rfl rfl (yC_9 _) <|
    aw_iload_n (pc := 64) C (i := 2) dX1_init_64 rfl rfl <|
    aw_dup2 (pc := 65) C dX1_init_65 rfl rfl <|
    aw_lald (pc := 66) C dX1_init_66 (yC_way _) rfl <|
    aw_aload_n (pc := 67) C (i := 0) dX1_init_67 rfl rfl <|
    aw_getR (pc := 68) C (b := 9) dX1_init_68 fl_X1_11 rfl rfl rfl <|
    aw_iload_n (pc := 71) C (i := 1) dX1_init_71 rfl rfl <|
    aw_iconst (pc := 72) C (v := 1) dX1_init_72 rfl <|
    aw_isub (pc := 73) C dX1_init_73 <|
    aw_aaldI (pc := 74) C (b := (10 + (v1 - 1).toNatClampNeg % 21)) dX1_init_74 rfl rfl rfl (yC_9 _) <|
    aw_iload_n (pc := 75) C (i := 2) dX1_init_75 rfl rfl <|
    aw_lald (pc := 76) C dX1_init_76 (yC_way _) rfl <|
    aw_ladd (pc := 77) C dX1_init_77 <|
    aw_last (pc := 78) C dX1_init_78 (yC_way _) rfl fun h9 =>
    aw_aload_n (pc := 79) C (i := 0) dX1_init_79 rfl rfl <|
    aw_getR (pc := 80) C (b := 9) dX1_init_80 fl_X1_11 rfl rfl rfl <|
    aw_iload_n (pc := 83) C (i := 1) dX1_init_83 rfl rfl <|
    aw_aaldI (pc := 84) C (b := (10 + v1.toNatClampNeg % 21)) dX1_init_84 rfl rfl rfl (yC_9 _) <|
    aw_iload_n (pc := 85) C (i := 2) dX1_init_85 rfl rfl <|
    aw_iconst (pc := 86) C (v := 1) dX1_init_86 rfl <|
    aw_iadd (pc := 87) C dX1_init_87 <|
    aw_dup2 (pc := 88) C dX1_init_88 rfl rfl <|
    aw_lald (pc := 89) C dX1_init_89 (yC_way _) rfl <|
    aw_ldc2_w (pc := 90) C (v := 2) dX1_init_90 kc_X1_24 <|
    aw_aload_n (pc := 93) C (i := 0) dX1_init_93 rfl rfl <|
    aw_getR (pc := 94) C (b := 9) dX1_init_94 fl_X1_11 rfl rfl rfl <|
    aw_iload_n (pc := 97) C (i := 1) dX1_init_97 rfl rfl <|
    aw_iconst (pc := 98) C (v := 1) dX1_init_98 rfl <|
    aw_isub (pc := 99) C dX1_init_99 <|
    aw_aaldI (pc := 100) C (b := (10 + (v1 - 1).toNatClampNeg % 21)) dX1_init_100 rfl rfl rfl (yC_9 _) <|
    aw_iload_n (pc := 101) C (i := 2) dX1_init_101 rfl rfl <|
    aw_lald (pc := 102) C dX1_init_102 (yC_way _) rfl <|
    aw_lmul (pc := 103) C dX1_init_103 <|
    aw_ladd (pc := 104) C dX1_init_104 <|
    aw_last (pc := 105) C dX1_init_105 (yC_way _) rfl fun h10 =>
    aw_aload_n (pc := 106) C (i := 0) dX1_init_106 rfl rfl <|
    aw_getR (pc := 107) C (b := 9) dX1_init_107 fl_X1_11 rfl rfl rfl <|
    aw_iload_n (pc := 110) C (i := 1) dX1_init_110 rfl rfl <|
    aw_aaldI (pc := 111) C (b := (10 + v1.toNatClampNeg % 21)) dX1_init_111 rfl rfl rfl (yC_9 _) <|
    aw_iload_n (pc := 112) C (i := 2) dX1_init_112 rfl rfl <|
    aw_iconst (pc := 113) C (v := 2) dX1_init_113 rfl <|
    aw_iadd (pc := 114) C dX1_init_114 <|
    aw_dup2 (pc := 115) C dX1_init_115 rfl rfl <|
    aw_lald (pc := 116) C dX1_init_116 (yC_way _) rfl <|
    aw_aload_n (pc := 117) C (i := 0) dX1_init_117 rfl rfl <|
    aw_getR (pc := 118) C (b := 9) dX1_init_118 fl_X1_11 rfl rfl rfl <|
    aw_iload_n (pc := 121) C (i := 1) dX1_init_121 rfl rfl <|
    aw_iconst (pc := 122) C (v := 1) dX1_init_122 rfl <|
    aw_isub (pc := 123) C dX1_init_123 <|
    aw_aaldI (pc := 124) C (b := (10 + (v1 - 1).toNatClampNeg % 21)) dX1_init_124 rfl rfl rfl (yC_9 _) <|
    aw_iload_n (pc := 125) C (i := 2) dX1_init_125 rfl rfl <|
    aw_lald (pc := 126) C dX1_init_126 (yC_way _) rfl <|
    aw_ladd (pc := 127) C dX1_init_127 <|
    aw_last (pc := 128) C dX1_init_128 (yC_way _) rfl fun h11 =>
    aw_iincV (pc := 129) C (i := 2) (cst := 1) (fun x12 => [(0, .ref 8), (1, .int v1), (2, .int x12)]) dX1_init_129 rfl rfl (by decide) (fun _ => rfl) fun x12 =>
    aw_goto (pc := 132) C (tgt := 49) dX1_init_132 rfl <|
    (ih x12 h11))
def X1_init_i8_l41  : Nat → Int32 → AH → Option (Unit × AH)
  | 0, _, _ => none
  | n + 1, v1, h =>
    if 20 < v1 then (some ((), h))
    else (X1_init_i8_l49 v1 (X1_init_i8_l41 n) FU 0 h)
set_option maxRecDepth 100000 in
theorem aX1_init_i8_l41 {X : MCx} {yd : Dyn} {A : Nat → Prop} (C : OK X cX1_init RX1 3 none rmX1_init_i8 A) {yd0 : Dyn} (hg : Agr YC15 yd0 yd) : ∀ (n : Nat) (v1 : Int32) (h : AH), AW X 3 YC19 yd A (0 + 1 + 21 + 1) (0 + 21 + 21 * 41 + 1000) (QFN X rmX1_init_i8 YC15 YC19 yd0 A) 41 [(0, .ref 8), (1, .int v1)] [] h (X1_init_i8_l41 n v1 h) := by
  intro n
  induction n with
  | zero => intro v1 h; exact aw_none
  | succ n ih =>
    intro v1 h
    exact aw_iload_n (pc := 41) C (i := 1) dX1_init_41 rfl rfl <|
    aw_bipush (pc := 42) C (v := 20) dX1_init_42 rfl <|
    aw_icmp_gt (pc := 44) C (tgt := 141) dX1_init_44 rfl (fun _ =>
    aw_vretN (pc := 141) C (hg) dX1_init_141 rfl rfl) (fun _ =>
    aw_iconst (pc := 47) C (v := 0) dX1_init_47 rfl <|
    aw_istore_n (pc := 48) C (i := 2) (lv' := [(0, .ref 8), (1, .int v1), (2, .int 0)]) dX1_init_48 rfl (by decide) rfl <|
    (aX1_init_i8_l49 C hg v1 (X1_init_i8_l41 n) ih FU 0 h))
def X1_init_i8 (h : AH) : Option (Unit × AH) :=
    vl (zM h 9 21) fun h1 =>
    vl (zN h1 31) fun h4 =>
    vl (sL h4 8 2 1) fun h6 =>
    ck 0 21 (ck 0 41 (vl (sL h6 10 (0 : Int32).toNatClampNeg 1) fun h7 =>
    X1_init_i8_l41 FU 1 h7))
set_option maxRecDepth 100000 in
set_option maxHeartbeats 4000000 in
theorem c_X1_init_i8 (l : Launch) : MCN l yX1_init cX1_init 3 rmX1_init_i8 KX YC15 YC19 [.ref 8] X1_init_i8 :=
  MCN.of (own := RX1) (by decide +kernel) rfl rfl (Nat.le_of_ble_eq_true rfl) fun X yd A h C hKX hin =>
    aw_aload_n (pc := 0) C (i := 0) dX1_init_0 rfl rfl <|
    aw_objInit (pc := 1) C dX1_init_1 mo_X1_3 w_oi w_oc ⟨(Nat.le_of_ble_eq_true rfl), (Nat.le_of_ble_eq_true rfl)⟩ <|
    aw_aload_n (pc := 4) C (i := 0) dX1_init_4 rfl rfl <|
    aw_bipush (pc := 5) C (v := 21) dX1_init_5 rfl <|
    aw_bipush (pc := 7) C (v := 41) dX1_init_7 rfl <|
    aw_mna (pc := 9) C (Z' := YC16) (M := 21) (N := 41) ln_YC15 hKX.2.2.1 kl_X1_9 w_arrJ dX1_init_9 (by decide) (by decide) rfl rfl (by decide) (by decide) (by decide) wf_YC15.frm rfl rfl rfl rfl (Nat.le_of_ble_eq_true rfl) (Nat.le_of_ble_eq_true rfl) fun ad2 h1 ha3 =>
    aw_putRF (pc := 13) C (Z' := YC17) hin dX1_init_13 fpf_X1_11 rfl rfl (fun _ => rfl) (fun _ => rfl) rfl <|
    aw_aload_n (pc := 16) C (i := 0) dX1_init_16 rfl rfl <|
    aw_sipush (pc := 17) C (v := 1000) dX1_init_17 rfl <|
    aw_newJm (pc := 20) C (Z' := YC18) (N := 1000) w_arrJ ln_YC17 wf_YC17 dX1_init_20 (by decide) rfl (by decide) rfl rfl rfl (Nat.le_of_ble_eq_true rfl) (Nat.le_of_ble_eq_true rfl) fun a5 h4 =>
    aw_putRF (pc := 22) C (Z' := YC19) hin dX1_init_22 fpf_X1_16 rfl rfl (fun _ => rfl) (fun _ => rfl) rfl <|
    aw_aload_n (pc := 25) C (i := 0) dX1_init_25 rfl rfl <|
    aw_lconst (pc := 26) C (v := 1) dX1_init_26 rfl <|
    aw_putL (pc := 27) C dX1_init_27 fp_X1_20 rfl rfl fun h6 =>
    aw_aload_n (pc := 30) C (i := 0) dX1_init_30 rfl rfl <|
    aw_getR (pc := 31) C (b := 9) dX1_init_31 fl_X1_11 rfl rfl rfl <|
    aw_iconst (pc := 34) C (v := 0) dX1_init_34 rfl <|
    aw_aald (pc := 35) C (b := 10) dX1_init_35 rfl rfl rfl rfl <|
    aw_iconst (pc := 36) C (v := 0) dX1_init_36 rfl <|
    aw_lconst (pc := 37) C (v := 1) dX1_init_37 rfl <|
    aw_last (pc := 38) C dX1_init_38 rfl rfl fun h7 =>
    aw_iconst (pc := 39) C (v := 1) dX1_init_39 rfl <|
    aw_istore_n (pc := 40) C (i := 1) (lv' := [(0, .ref 8), (1, .int 1)]) dX1_init_40 rfl (by decide) rfl <|
    (aX1_init_i8_l41 C (Agr.new (n := 31) (Agr.call (n := 9) (Agr.rf) (Nat.le_of_ble_eq_true rfl) ha3) (Nat.le_of_ble_eq_true rfl)) FU 1 h7)
