abbrev rmJ7_fill_d0a16 : Room := { frames := 0, cells := 0, slots := 0, locals := 0 }
def J7_fill_d0a16_l6 (p0 : Nat) (n0 : Nat) (v1 : Int64) (v4 : Int32) : Nat → Int32 → AH → Option (Unit × AH)
  | 0, _, _ => none
  | n + 1, v3, h =>
    if v4 ≤ v3 then (some ((), h))
    else (ck v3 n0 (vl (sL h p0 v3.toNatClampNeg v1) fun h2 =>
    vl (v3 + 1) fun x3 =>
    (J7_fill_d0a16_l6 p0 n0 v1 v4 n) x3 h2))
set_option maxRecDepth 100000 in
theorem aJ7_fill_d0a16_l6 {X : MCx} {yd : Dyn} {A : Nat → Prop} (C : OK X cJ7_fill_d0a16 RJ7 5 none rmJ7_fill_d0a16 A) (Z : Stc) (p0 : Nat) (n0 : Nat) (t0 : Nat) (hA0 : Z.1[p0]? = some (.inl (t0, 1, n0))) (hT0 : Z.2.2.2[t0]? = some .long) (v1 : Int64) (v4 : Int32) : ∀ (n : Nat) (v3 : Int32) (h : AH), AW X 5 Z yd A 0 0 (QF X rmJ7_fill_d0a16 Z yd rvV A) 6 [(0, .ref p0), (1, .long v1), (3, .int v3), (4, .int v4)] [] h (J7_fill_d0a16_l6 p0 n0 v1 v4 n v3 h) := by
  intro n
  induction n with
  | zero => intro v3 h; exact aw_none
  | succ n ih =>
    intro v3 h
    exact aw_iload_n (pc := 6) C (i := 3) dJ7_fill_d0a16_6 rfl rfl <|
    aw_iload (pc := 7) C (i := 4) dJ7_fill_d0a16_7 rfl <|
    aw_icmp_ge (pc := 9) C (tgt := 22) dJ7_fill_d0a16_9 rfl (fun _ =>
    aw_vret (pc := 22) C dJ7_fill_d0a16_22 rfl rfl) (fun _ =>
    aw_aload_n (pc := 12) C (i := 0) dJ7_fill_d0a16_12 rfl rfl <|
    aw_iload_n (pc := 13) C (i := 3) dJ7_fill_d0a16_13 rfl rfl <|
    aw_lload_n (pc := 14) C (i := 1) dJ7_fill_d0a16_14 rfl rfl <|
    aw_last (pc := 15) C dJ7_fill_d0a16_15 hA0 hT0 fun h2 =>
    aw_iincV (pc := 16) C (i := 3) (cst := 1) (fun x3 => [(0, .ref p0), (1, .long v1), (3, .int x3), (4, .int v4)]) dJ7_fill_d0a16_16 rfl rfl (by decide) (fun _ => rfl) fun x3 =>
    aw_goto (pc := 19) C (tgt := 6) dJ7_fill_d0a16_19 rfl <|
    (ih x3 h2))
def J7_fill_d0a16 (p0 : Nat) (n0 : Nat) (v1 : Int64) (h : AH) : Option (Unit × AH) :=
    vl (Int32.ofNat n0) fun x1 =>
    J7_fill_d0a16_l6 p0 n0 v1 x1 FU 0 h
set_option maxRecDepth 100000 in
theorem c_J7_fill_d0a16 (l : Launch) (Z : Stc) (p0 : Nat) (n0 : Nat) (t0 : Nat) (hA0 : Z.1[p0]? = some (.inl (t0, 1, n0))) (hT0 : Z.2.2.2[t0]? = some .long) (v1 : Int64) : MC l yJ7_fill_d0a16 cJ7_fill_d0a16 5 none rmJ7_fill_d0a16 Z [.ref p0, .long v1] rvV (J7_fill_d0a16 p0 n0 v1) :=
  MC.of (own := RJ7) (by decide +kernel) rfl (Nat.le_of_ble_eq_true rfl) fun X yd A h _ C =>
    aw_iconst (pc := 0) C (v := 0) dJ7_fill_d0a16_0 rfl <|
    aw_istore_n (pc := 1) C (i := 3) (lv' := [(0, .ref p0), (1, .long v1), (3, .int 0)]) dJ7_fill_d0a16_1 rfl (by decide) rfl <|
    aw_aload_n (pc := 2) C (i := 0) dJ7_fill_d0a16_2 rfl rfl <|
    aw_alenI (pc := 3) C (v := (Int32.ofNat n0)) (by decide) dJ7_fill_d0a16_3 hA0 hT0 rfl <|
    aw_istoreV (pc := 4) C (i := 4) (fun x1 => [(0, .ref p0), (1, .long v1), (3, .int 0), (4, .int x1)]) dJ7_fill_d0a16_4 (by decide) (fun _ => rfl) fun x1 =>
    (aJ7_fill_d0a16_l6 C Z p0 n0 t0 hA0 hT0 v1 x1 FU 0 h)

abbrev rmX1_spreadLast : Room := { frames := 3, cells := 0, slots := 0, locals := 74 }
def X1_spreadLast_j140 (p1 : Nat) (v2 : Int32) (v3 : Int32) (v4 : Int32) (v5 : Int32) (v6 : Int64) (v8 : Int32) (K7 : Int32 → AH → Option (Unit × AH)) (h : AH) : Option (Unit × AH) :=
    vl (v8 + 1) fun x8 =>
    K7 x8 h
set_option maxRecDepth 100000 in
theorem aX1_spreadLast_j140 {X : MCx} {yd : Dyn} {A : Nat → Prop} (C : OK X cX1_spreadLast RX1 13 none rmX1_spreadLast A) (p1 : Nat) (hJ1 : ZC.1[p1]? = some (.inr 2)) (v2 : Int32) (v3 : Int32) (v4 : Int32) (v5 : Int32) (v6 : Int64) (v8 : Int32) (K7 : Int32 → AH → Option (Unit × AH)) (hK7 : ∀ (w8 : Int32) (h : AH), AW X 13 ZC yd A 0 0 (QF X rmX1_spreadLast ZC yd rvV A) 7 [(0, .ref 8), (1, .ref p1), (2, .int v2), (3, .int v3), (4, .int v4), (5, .int v5), (6, .long v6), (8, .int w8)] [] h (K7 w8 h)) (h : AH) : AW X 13 ZC yd A 0 0 (QF X rmX1_spreadLast ZC yd rvV A) 140 [(0, .ref 8), (1, .ref p1), (2, .int v2), (3, .int v3), (4, .int v4), (5, .int v5), (6, .long v6), (8, .int v8)] [] h (X1_spreadLast_j140 p1 v2 v3 v4 v5 v6 v8 K7 h) := by
    exact aw_iincV (pc := 140) C (i := 8) (cst := 1) (fun x8 => [(0, .ref 8), (1, .ref p1), (2, .int v2), (3, .int v3), (4, .int v4), (5, .int v5), (6, .long v6), (8, .int x8)]) dX1_spreadLast_140 rfl rfl (by decide) (fun _ => rfl) fun x8 =>
    aw_goto (pc := 143) C (tgt := 7) dX1_spreadLast_143 rfl <|
    (hK7 x8 h)
def X1_spreadLast_j111 (p1 : Nat) (v2 : Int32) (v3 : Int32) (v4 : Int32) (v5 : Int32) (v6 : Int64) (v8 : Int32) (v9 : Int64) (v12 : Int32) (K7 : Int32 → AH → Option (Unit × AH)) (s0 : Int64) (s1 : Int64) (h : AH) : Option (Unit × AH) :=
    vl (sL h 8 4 (s1 + s0)) fun h7 =>
    if v12 < 0 then (X1_spreadLast_j140 p1 v2 v3 v4 v5 v6 v8 K7 h7)
    else (if 999 < v12 then (X1_spreadLast_j140 p1 v2 v3 v4 v5 v6 v8 K7 h7)
    else (ck v12 1000 (ck v12 1000 (vl (sL h7 31 v12.toNatClampNeg ((h7.2.1 31 v12.toNatClampNeg) + v9)) fun h9 =>
    X1_spreadLast_j140 p1 v2 v3 v4 v5 v6 v8 K7 h9))))
set_option maxRecDepth 100000 in
theorem aX1_spreadLast_j111 {X : MCx} {yd : Dyn} {A : Nat → Prop} (C : OK X cX1_spreadLast RX1 13 none rmX1_spreadLast A) (p1 : Nat) (hJ1 : ZC.1[p1]? = some (.inr 2)) (v2 : Int32) (v3 : Int32) (v4 : Int32) (v5 : Int32) (v6 : Int64) (v8 : Int32) (v9 : Int64) (v12 : Int32) (K7 : Int32 → AH → Option (Unit × AH)) (hK7 : ∀ (w8 : Int32) (h : AH), AW X 13 ZC yd A 0 0 (QF X rmX1_spreadLast ZC yd rvV A) 7 [(0, .ref 8), (1, .ref p1), (2, .int v2), (3, .int v3), (4, .int v4), (5, .int v5), (6, .long v6), (8, .int w8)] [] h (K7 w8 h)) (s0 : Int64) (s1 : Int64) (h : AH) : AW X 13 ZC yd A 0 0 (QF X rmX1_spreadLast ZC yd rvV A) 111 [(0, .ref 8), (1, .ref p1), (2, .int v2), (3, .int v3), (4, .int v4), (5, .int v5), (6, .long v6), (8, .int v8), (9, .long v9), (12, .int v12)] [.long s0, .long s1, .ref 8] h (X1_spreadLast_j111 p1 v2 v3 v4 v5 v6 v8 v9 v12 K7 s0 s1 h) := by
    exact aw_ladd (pc := 111) C dX1_spreadLast_111 <|
    aw_putL (pc := 112) C dX1_spreadLast_112 fp_X1_35 sC_8 rfl fun h7 =>
    aw_iload (pc := 115) C (i := 12) dX1_spreadLast_115 rfl <|
    aw_if_lt (pc := 117) C (tgt := 140) dX1_spreadLast_117 rfl (fun _ =>
    aw_drop [0, 1, 2, 3, 4, 5, 6, 7] (aX1_spreadLast_j140 C p1 hJ1 v2 v3 v4 v5 v6 v8 K7 hK7 h7)) (fun _ =>
    aw_iload (pc := 120) C (i := 12) dX1_spreadLast_120 rfl <|
    aw_sipush (pc := 122) C (v := 999) dX1_spreadLast_122 rfl <|
    aw_icmp_gt (pc := 125) C (tgt := 140) dX1_spreadLast_125 rfl (fun _ =>
    aw_drop [0, 1, 2, 3, 4, 5, 6, 7] (aX1_spreadLast_j140 C p1 hJ1 v2 v3 v4 v5 v6 v8 K7 hK7 h7)) (fun _ =>
    aw_aload_n (pc := 128) C (i := 0) dX1_spreadLast_128 rfl rfl <|
    aw_getR (pc := 129) C (b := 31) dX1_spreadLast_129 fl_X1_16 sC_8 rfl rC_8_1 <|
    aw_iload (pc := 132) C (i := 12) dX1_spreadLast_132 rfl <|
    aw_dup2 (pc := 134) C dX1_spreadLast_134 rfl rfl <|
    aw_lald (pc := 135) C dX1_spreadLast_135 sC_31 rfl <|
    aw_lload (pc := 136) C (i := 9) dX1_spreadLast_136 rfl <|
    aw_ladd (pc := 138) C dX1_spreadLast_138 <|
    aw_last (pc := 139) C dX1_spreadLast_139 sC_31 rfl fun h9 =>
    aw_drop [0, 1, 2, 3, 4, 5, 6, 7] (aX1_spreadLast_j140 C p1 hJ1 v2 v3 v4 v5 v6 v8 K7 hK7 h9)))
def X1_spreadLast_j89 (p1 : Nat) (v2 : Int32) (v3 : Int32) (v4 : Int32) (v5 : Int32) (v6 : Int64) (v8 : Int32) (v9 : Int64) (v11 : Int32) (v12 : Int32) (K7 : Int32 → AH → Option (Unit × AH)) (s0 : Int64) (s1 : Int64) (h : AH) : Option (Unit × AH) :=
    vl (sL h 8 3 (s1 + s0)) fun h6 =>
    if v11 = v5 then (X1_spreadLast_j111 p1 v2 v3 v4 v5 v6 v8 v9 v12 K7 v9 (h6.2.1 8 4) h6)
    else (X1_spreadLast_j111 p1 v2 v3 v4 v5 v6 v8 v9 v12 K7 0 (h6.2.1 8 4) h6)
set_option maxRecDepth 100000 in
theorem aX1_spreadLast_j89 {X : MCx} {yd : Dyn} {A : Nat → Prop} (C : OK X cX1_spreadLast RX1 13 none rmX1_spreadLast A) (p1 : Nat) (hJ1 : ZC.1[p1]? = some (.inr 2)) (v2 : Int32) (v3 : Int32) (v4 : Int32) (v5 : Int32) (v6 : Int64) (v8 : Int32) (v9 : Int64) (v11 : Int32) (v12 : Int32) (K7 : Int32 → AH → Option (Unit × AH)) (hK7 : ∀ (w8 : Int32) (h : AH), AW X 13 ZC yd A 0 0 (QF X rmX1_spreadLast ZC yd rvV A) 7 [(0, .ref 8), (1, .ref p1), (2, .int v2), (3, .int v3), (4, .int v4), (5, .int v5), (6, .long v6), (8, .int w8)] [] h (K7 w8 h)) (s0 : Int64) (s1 : Int64) (h : AH) : AW X 13 ZC yd A 0 0 (QF X rmX1_spreadLast ZC yd rvV A) 89 [(0, .ref 8), (1, .ref p1), (2, .int v2), (3, .int v3), (4, .int v4), (5, .int v5), (6, .long v6), (8, .int v8), (9, .long v9), (11, .int v11), (12, .int v12)] [.long s0, .long s1, .ref 8] h (X1_spreadLast_j89 p1 v2 v3 v4 v5 v6 v8 v9 v11 v12 K7 s0 s1 h) := by
    exact aw_ladd (pc := 89) C dX1_spreadLast_89 <|
    aw_putL (pc := 90) C dX1_spreadLast_90 fp_X1_32 sC_8 rfl fun h6 =>
    aw_aload_n (pc := 93) C (i := 0) dX1_spreadLast_93 rfl rfl <|
    aw_dup (pc := 94) C dX1_spreadLast_94 rfl <|
    aw_getL (pc := 95) C dX1_spreadLast_95 fl_X1_35 sC_8 rfl <|
    aw_iload (pc := 98) C (i := 11) dX1_spreadLast_98 rfl <|
    aw_iload (pc := 100) C (i := 5) dX1_spreadLast_100 rfl <|
    aw_icmp_ne (pc := 102) C (tgt := 110) dX1_spreadLast_102 rfl (fun _ =>
    aw_lload (pc := 105) C (i := 9) dX1_spreadLast_105 rfl <|
    aw_goto (pc := 107) C (tgt := 111) dX1_spreadLast_107 rfl <|
    aw_drop [0, 1, 2, 3, 4, 5, 6, 7, 8, 10] (aX1_spreadLast_j111 C p1 hJ1 v2 v3 v4 v5 v6 v8 v9 v12 K7 hK7 v9 (h6.2.1 8 4) h6)) (fun _ =>
    aw_lconst (pc := 110) C (v := 0) dX1_spreadLast_110 rfl <|
    aw_drop [0, 1, 2, 3, 4, 5, 6, 7, 8, 10] (aX1_spreadLast_j111 C p1 hJ1 v2 v3 v4 v5 v6 v8 v9 v12 K7 hK7 0 (h6.2.1 8 4) h6))
def X1_spreadLast_j71 (p1 : Nat) (v2 : Int32) (v3 : Int32) (v4 : Int32) (v5 : Int32) (v6 : Int64) (v8 : Int32) (v9 : Int64) (v11 : Int32) (K7 : Int32 → AH → Option (Unit × AH)) (s0 : Int32) (h : AH) : Option (Unit × AH) :=
    if 0 ≤ v11 then (X1_spreadLast_j89 p1 v2 v3 v4 v5 v6 v8 v9 v11 s0 K7 0 (h.2.1 8 3) h)
    else (X1_spreadLast_j89 p1 v2 v3 v4 v5 v6 v8 v9 v11 s0 K7 v9 (h.2.1 8 3) h)
set_option maxRecDepth 100000 in
theorem aX1_spreadLast_j71 {X : MCx} {yd : Dyn} {A : Nat → Prop} (C : OK X cX1_spreadLast RX1 13 none rmX1_spreadLast A) (p1 : Nat) (hJ1 : ZC.1[p1]? = some (.inr 2)) (v2 : Int32) (v3 : Int32) (v4 : Int32) (v5 : Int32) (v6 : Int64) (v8 : Int32) (v9 : Int64) (v11 : Int32) (K7 : Int32 → AH → Option (Unit × AH)) (hK7 : ∀ (w8 : Int32) (h : AH), AW X 13 ZC yd A 0 0 (QF X rmX1_spreadLast ZC yd rvV A) 7 [(0, .ref 8), (1, .ref p1), (2, .int v2), (3, .int v3), (4, .int v4), (5, .int v5), (6, .long v6), (8, .int w8)] [] h (K7 w8 h)) (s0 : Int32) (h : AH) : AW X 13 ZC yd A 0 0 (QF X rmX1_spreadLast ZC yd rvV A) 71 [(0, .ref 8), (1, .ref p1), (2, .int v2), (3, .int v3), (4, .int v4), (5, .int v5), (6, .long v6), (8, .int v8), (9, .long v9), (11, .int v11)] [.int s0] h (X1_spreadLast_j71 p1 v2 v3 v4 v5 v6 v8 v9 v11 K7 s0 h) := by
    exact aw_istore (pc := 71) C (i := 12) (lv' := [(0, .ref 8), (1, .ref p1), (2, .int v2), (3, .int v3), (4, .int v4), (5, .int v5), (6, .long v6), (8, .int v8), (9, .long v9), (11, .int v11), (12, .int s0)]) dX1_spreadLast_71 (by decide) rfl <|
    aw_aload_n (pc := 73) C (i := 0) dX1_spreadLast_73 rfl rfl <|
    aw_dup (pc := 74) C dX1_spreadLast_74 rfl <|
    aw_getL (pc := 75) C dX1_spreadLast_75 fl_X1_32 sC_8 rfl <|
    aw_iload (pc := 78) C (i := 11) dX1_spreadLast_78 rfl <|
    aw_if_ge (pc := 80) C (tgt := 88) dX1_spreadLast_80 rfl (fun _ =>
    aw_lconst (pc := 88) C (v := 0) dX1_spreadLast_88 rfl <|
    (aX1_spreadLast_j89 C p1 hJ1 v2 v3 v4 v5 v6 v8 v9 v11 s0 K7 hK7 0 (h.2.1 8 3) h)) (fun _ =>
    aw_lload (pc := 83) C (i := 9) dX1_spreadLast_83 rfl <|
    aw_goto (pc := 85) C (tgt := 89) dX1_spreadLast_85 rfl <|
    (aX1_spreadLast_j89 C p1 hJ1 v2 v3 v4 v5 v6 v8 v9 v11 s0 K7 hK7 v9 (h.2.1 8 3) h))
def X1_spreadLast_l7 (p1 : Nat) (v2 : Int32) (v3 : Int32) (v4 : Int32) (v5 : Int32) (v6 : Int64) : Nat → Int32 → AH → Option (Unit × AH)
  | 0, _, _ => none
  | n + 1, v8, h =>
    if (h.1 p1 7) < v8 then (some ((), h))
    else (ck (h.1 p1 7) 21 (ck ((h.1 p1 7) + v8) 41 (vl (v6 * (h.2.1 (10 + (h.1 p1 7).toNatClampNeg % 21) ((h.1 p1 7) + v8).toNatClampNeg)) fun x2 =>
    vl (v3 - ((h.1 p1 5) * v8)) fun x3 =>
    if 0 ≤ x3 then (bd (kd (h.2.2 p1) (X3_lengthOf p1 x3 v4 v2 h) (X7_lengthOf p1 x3 v4 v2 h) (X0_lengthOf p1 x3 v4 v2 h) (X7_lengthOf p1 x3 v4 v2 h) (X9_lengthOf p1 x3 v4 v2 h) (X8_lengthOf p1 x3 v4 v2 h)) fun r4 h5 =>
    X1_spreadLast_j71 p1 v2 v3 v4 v5 v6 v8 x2 x3 (X1_spreadLast_l7 p1 v2 v3 v4 v5 v6 n) r4 h5)
    else (X1_spreadLast_j71 p1 v2 v3 v4 v5 v6 v8 x2 x3 (X1_spreadLast_l7 p1 v2 v3 v4 v5 v6 n) 0 h))))
set_option maxRecDepth 100000 in
theorem aX1_spreadLast_l7 {X : MCx} {yd : Dyn} {A : Nat → Prop} (C : OK X cX1_spreadLast RX1 13 none rmX1_spreadLast A) (p1 : Nat) (hJ1 : ZC.1[p1]? = some (.inr 2)) (v2 : Int32) (v3 : Int32) (v4 : Int32) (v5 : Int32) (v6 : Int64) : ∀ (n : Nat) (v8 : Int32) (h : AH), AW X 13 ZC yd A 0 0 (QF X rmX1_spreadLast ZC yd rvV A) 7 [(0, .ref 8), (1, .ref p1), (2, .int v2), (3, .int v3), (4, .int v4), (5, .int v5), (6, .long v6), (8, .int v8)] [] h (X1_spreadLast_l7 p1 v2 v3 v4 v5 v6 n v8 h) := by
  intro n
  induction n with
  | zero => intro v8 h; exact aw_none
  | succ n ih =>
    intro v8 h
    exact aw_iload (pc := 7) C (i := 8) dX1_spreadLast_7 rfl <|
    aw_aload_n (pc := 9) C (i := 1) dX1_spreadLast_9 rfl rfl <|
    aw_getI (pc := 10) C dX1_spreadLast_10 fl_X1_38 hJ1 rfl <|
    aw_icmp_gt (pc := 13) C (tgt := 146) dX1_spreadLast_13 rfl (fun _ =>
    aw_vret (pc := 146) C dX1_spreadLast_146 rfl rfl) (fun _ =>
    aw_lload (pc := 16) C (i := 6) dX1_spreadLast_16 rfl <|
    aw_aload_n (pc := 18) C (i := 0) dX1_spreadLast_18 rfl rfl <|
    aw_getR (pc := 19) C (b := 9) dX1_spreadLast_19 fl_X1_11 sC_8 rfl rC_8_0 <|
    aw_aload_n (pc := 22) C (i := 1) dX1_spreadLast_22 rfl rfl <|
    aw_getI (pc := 23) C dX1_spreadLast_23 fl_X1_38 hJ1 rfl <|
    aw_aald (pc := 26) C (b := (10 + (h.1 p1 7).toNatClampNeg % 21)) dX1_spreadLast_26 sC_9 rfl rfl (rC_9 _) <|
    aw_aload_n (pc := 27) C (i := 1) dX1_spreadLast_27 rfl rfl <|
    aw_getI (pc := 28) C dX1_spreadLast_28 fl_X1_38 hJ1 rfl <|
    aw_iload (pc := 31) C (i := 8) dX1_spreadLast_31 rfl <|
    aw_iadd (pc := 33) C dX1_spreadLast_33 <|
    aw_lald (pc := 34) C dX1_spreadLast_34 (sC_way _) rfl <|
    aw_lmul (pc := 35) C dX1_spreadLast_35 <|
    aw_lstoreV (pc := 36) C (i := 9) (fun x2 => [(0, .ref 8), (1, .ref p1), (2, .int v2), (3, .int v3), (4, .int v4), (5, .int v5), (6, .long v6), (8, .int v8), (9, .long x2)]) dX1_spreadLast_36 (by decide) (fun _ => rfl) fun x2 =>
    aw_iload_n (pc := 38) C (i := 3) dX1_spreadLast_38 rfl rfl <|
    aw_aload_n (pc := 39) C (i := 1) dX1_spreadLast_39 rfl rfl <|
    aw_getI (pc := 40) C dX1_spreadLast_40 fl_X1_54 hJ1 rfl <|
    aw_iload (pc := 43) C (i := 8) dX1_spreadLast_43 rfl <|
    aw_imul (pc := 45) C dX1_spreadLast_45 <|
    aw_isub (pc := 46) C dX1_spreadLast_46 <|
    aw_istoreV (pc := 47) C (i := 11) (fun x3 => [(0, .ref 8), (1, .ref p1), (2, .int v2), (3, .int v3), (4, .int v4), (5, .int v5), (6, .long v6), (8, .int v8), (9, .long x2), (11, .int x3)]) dX1_spreadLast_47 (by decide) (fun _ => rfl) fun x3 =>
    aw_iload (pc := 49) C (i := 11) dX1_spreadLast_49 rfl <|
    aw_if_ge (pc := 51) C (tgt := 58) dX1_spreadLast_51 rfl (fun _ =>
    aw_aload_n (pc := 58) C (i := 1) dX1_spreadLast_58 rfl rfl <|
    aw_getW (pc := 59) C (b := (36 + h.2.2 p1 % 6)) dX1_spreadLast_59 fl_X1_44 hJ1 rfl rfl <|
    aw_aload_n (pc := 62) C (i := 1) dX1_spreadLast_62 rfl rfl <|
    aw_iload (pc := 63) C (i := 11) dX1_spreadLast_63 rfl <|
    aw_iload (pc := 65) C (i := 4) dX1_spreadLast_65 rfl <|
    aw_iload_n (pc := 67) C (i := 2) dX1_spreadLast_67 rfl rfl <|
    aw_callF (pc := 68) C (kdA_lengthOf C dX1_spreadLast_68 ml_X1_67 (h.2.2 p1) p1 hJ1 x3 v4 v2 [] ⟨⟨(Nat.le_of_ble_eq_true rfl), (Nat.le_of_ble_eq_true rfl)⟩, ⟨(Nat.le_of_ble_eq_true rfl), (Nat.le_of_ble_eq_true rfl)⟩, ⟨(Nat.le_of_ble_eq_true rfl), (Nat.le_of_ble_eq_true rfl)⟩, ⟨(Nat.le_of_ble_eq_true rfl), (Nat.le_of_ble_eq_true rfl)⟩, ⟨(Nat.le_of_ble_eq_true rfl), (Nat.le_of_ble_eq_true rfl)⟩, ⟨(Nat.le_of_ble_eq_true rfl), (Nat.le_of_ble_eq_true rfl)⟩⟩ (Nat.le_of_ble_eq_true rfl)) rfl rfl rfl (Nat.zero_le _) (Nat.zero_le _) fun r4 h5 =>
    (aX1_spreadLast_j71 C p1 hJ1 v2 v3 v4 v5 v6 v8 x2 x3 (X1_spreadLast_l7 p1 v2 v3 v4 v5 v6 n) ih r4 h5)) (fun _ =>
    aw_iconst (pc := 54) C (v := 0) dX1_spreadLast_54 rfl <|
    aw_goto (pc := 55) C (tgt := 71) dX1_spreadLast_55 rfl <|
    (aX1_spreadLast_j71 C p1 hJ1 v2 v3 v4 v5 v6 v8 x2 x3 (X1_spreadLast_l7 p1 v2 v3 v4 v5 v6 n) ih 0 h)))
def X1_spreadLast (p1 : Nat) (v2 : Int32) (v3 : Int32) (v4 : Int32) (v5 : Int32) (v6 : Int64) (h : AH) : Option (Unit × AH) :=
    vl (-(h.1 p1 7)) fun x1 =>
    X1_spreadLast_l7 p1 v2 v3 v4 v5 v6 FU x1 h
set_option maxRecDepth 100000 in
theorem c_X1_spreadLast (l : Launch) (p1 : Nat) (hJ1 : ZC.1[p1]? = some (.inr 2)) (v2 : Int32) (v3 : Int32) (v4 : Int32) (v5 : Int32) (v6 : Int64) : MC l yX1_spreadLast cX1_spreadLast 13 none rmX1_spreadLast ZC [.ref 8, .ref p1, .int v2, .int v3, .int v4, .int v5, .long v6] rvV (X1_spreadLast p1 v2 v3 v4 v5 v6) :=
  MC.of (own := RX1) (by decide +kernel) rfl (Nat.le_of_ble_eq_true rfl) fun X yd A h _ C =>
    aw_aload_n (pc := 0) C (i := 1) dX1_spreadLast_0 rfl rfl <|
    aw_getI (pc := 1) C dX1_spreadLast_1 fl_X1_38 hJ1 rfl <|
    aw_ineg (pc := 4) C dX1_spreadLast_4 <|
    aw_istoreV (pc := 5) C (i := 8) (fun x1 => [(0, .ref 8), (1, .ref p1), (2, .int v2), (3, .int v3), (4, .int v4), (5, .int v5), (6, .long v6), (8, .int x1)]) dX1_spreadLast_5 (by decide) (fun _ => rfl) fun x1 =>
    (aX1_spreadLast_l7 C p1 hJ1 v2 v3 v4 v5 v6 FU x1 h)

abbrev rmX1_spread : Room := { frames := 4, cells := 0, slots := 0, locals := 106 }
def X1_spread_j114 (p1 : Nat) (v3 : Int32) (v4 : Int32) (v5 : Int32) (v6 : Int32) (v7 : Int32) (v8 : Int32) (v9 : Int32) (K77 : Int32 → AH → Option (Unit × AH)) (s0 : Int32) (h : AH) : Option (Unit × AH) :=
    ck v6 21 (ck (v6 + v8) 41 (bd (X1_spreadLast p1 v3 (v9 - s0) ((ab32 s0) / 4) v5 (h.2.1 (10 + v6.toNatClampNeg % 21) (v6 + v8).toNatClampNeg) h) fun _ h12 =>
    vl (v8 + 1) fun x13 =>
    K77 x13 h12))
set_option maxRecDepth 100000 in
theorem aX1_spread_j114 {X : MCx} {yd : Dyn} {A : Nat → Prop} (C : OK X cX1_spread RX1 11 none rmX1_spread A) (p1 : Nat) (hJ1 : ZC.1[p1]? = some (.inr 2)) (v3 : Int32) (v4 : Int32) (v5 : Int32) (v6 : Int32) (v7 : Int32) (v8 : Int32) (v9 : Int32) (K77 : Int32 → AH → Option (Unit × AH)) (hK77 : ∀ (w8 : Int32) (h : AH), AW X 11 ZC yd A 0 0 (QF X rmX1_spread ZC yd rvV A) 77 [(0, .ref 8), (1, .ref p1), (3, .int v3), (4, .int v4), (5, .int v5), (6, .int v6), (7, .int v7), (8, .int w8)] [] h (K77 w8 h)) (s0 : Int32) (h : AH) : AW X 11 ZC yd A 0 0 (QF X rmX1_spread ZC yd rvV A) 114 [(0, .ref 8), (1, .ref p1), (3, .int v3), (4, .int v4), (5, .int v5), (6, .int v6), (7, .int v7), (8, .int v8), (9, .int v9)] [.int s0] h (X1_spread_j114 p1 v3 v4 v5 v6 v7 v8 v9 K77 s0 h) := by
    exact aw_istore (pc := 114) C (i := 10) (lv' := [(0, .ref 8), (1, .ref p1), (3, .int v3), (4, .int v4), (5, .int v5), (6, .int v6), (7, .int v7), (8, .int v8), (9, .int v9), (10, .int s0)]) dX1_spread_114 (by decide) rfl <|
    aw_aload_n (pc := 116) C (i := 0) dX1_spread_116 rfl rfl <|
    aw_aload_n (pc := 117) C (i := 1) dX1_spread_117 rfl rfl <|
    aw_iload_n (pc := 118) C (i := 3) dX1_spread_118 rfl rfl <|
    aw_iload (pc := 119) C (i := 9) dX1_spread_119 rfl <|
    aw_iload (pc := 121) C (i := 10) dX1_spread_121 rfl <|
    aw_isub (pc := 123) C dX1_spread_123 <|
    aw_iload (pc := 124) C (i := 10) dX1_spread_124 rfl <|
    aw_mabs (pc := 126) C dX1_spread_126 ml_X1_57 w_mabsS w_mI w_mabsC ⟨(Nat.le_of_ble_eq_true rfl), (Nat.le_of_ble_eq_true rfl)⟩ (Nat.zero_le _) (Nat.zero_le _) <|
    aw_iconst (pc := 129) C (v := 4) dX1_spread_129 rfl <|
    aw_idivK (pc := 130) C dX1_spread_130 (by decide) <|
    aw_iload (pc := 131) C (i := 5) dX1_spread_131 rfl <|
    aw_aload_n (pc := 133) C (i := 0) dX1_spread_133 rfl rfl <|
    aw_getR (pc := 134) C (b := 9) dX1_spread_134 fl_X1_11 sC_8 rfl rC_8_0 <|
    aw_iload (pc := 137) C (i := 6) dX1_spread_137 rfl <|
    aw_aald (pc := 139) C (b := (10 + v6.toNatClampNeg % 21)) dX1_spread_139 sC_9 rfl rfl (rC_9 _) <|
    aw_iload (pc := 140) C (i := 6) dX1_spread_140 rfl <|
    aw_iload (pc := 142) C (i := 8) dX1_spread_142 rfl <|
    aw_iadd (pc := 144) C dX1_spread_144 <|
    aw_lald (pc := 145) C dX1_spread_145 (sC_way _) rfl <|
    aw_callF (pc := 146) C (cr_V (rest := []) (F := (X1_spreadLast p1 v3 (v9 - s0) ((ab32 s0) / 4) v5 (h.2.1 (10 + v6.toNatClampNeg % 21) (v6 + v8).toNatClampNeg))) C (c_X1_spreadLast X.2.1 p1 hJ1 v3 (v9 - s0) ((ab32 s0) / 4) v5 (h.2.1 (10 + v6.toNatClampNeg % 21) (v6 + v8).toNatClampNeg)) dX1_spread_146 mf_X1_spreadLast ml_X1_63 im_X1_spreadLast se_X1_spreadLast sC_8 rfl ⟨(Nat.le_of_ble_eq_true rfl), (Nat.le_of_ble_eq_true rfl)⟩ rfl rfl (Nat.le_of_ble_eq_true rfl)) rfl rfl rfl (Nat.zero_le _) (Nat.zero_le _) fun _ h12 =>
    aw_iincV (pc := 149) C (i := 8) (cst := 1) (fun x13 => [(0, .ref 8), (1, .ref p1), (3, .int v3), (4, .int v4), (5, .int v5), (6, .int v6), (7, .int v7), (8, .int x13), (9, .int v9), (10, .int s0)]) dX1_spread_149 rfl rfl (by decide) (fun _ => rfl) fun x13 =>
    aw_goto (pc := 152) C (tgt := 77) dX1_spread_152 rfl <|
    aw_drop [0, 1, 2, 3, 4, 5, 6, 7] (hK77 x13 h12)
def X1_spread_l77 (p1 : Nat) (v3 : Int32) (v4 : Int32) (v5 : Int32) (v6 : Int32) (v7 : Int32) : Nat → Int32 → AH → Option (Unit × AH)
  | 0, _, _ => none
  | n + 1, v8, h =>
    if v6 < v8 then (some ((), h))
    else (vl (v4 - ((h.1 p1 5) * v8)) fun x10 =>
    if (h.1 p1 7) ≤ 0 then (X1_spread_j114 p1 v3 v4 v5 v6 v7 v8 x10 (X1_spread_l77 p1 v3 v4 v5 v6 v7 n) 0 h)
    else (X1_spread_j114 p1 v3 v4 v5 v6 v7 v8 x10 (X1_spread_l77 p1 v3 v4 v5 v6 v7 n) ((x10 - v7) / 2) h))
set_option maxRecDepth 100000 in
theorem aX1_spread_l77 {X : MCx} {yd : Dyn} {A : Nat → Prop} (C : OK X cX1_spread RX1 11 none rmX1_spread A) (p1 : Nat) (hJ1 : ZC.1[p1]? = some (.inr 2)) (v3 : Int32) (v4 : Int32) (v5 : Int32) (v6 : Int32) (v7 : Int32) : ∀ (n : Nat) (v8 : Int32) (h : AH), AW X 11 ZC yd A 0 0 (QF X rmX1_spread ZC yd rvV A) 77 [(0, .ref 8), (1, .ref p1), (3, .int v3), (4, .int v4), (5, .int v5), (6, .int v6), (7, .int v7), (8, .int v8)] [] h (X1_spread_l77 p1 v3 v4 v5 v6 v7 n v8 h) := by
  intro n
  induction n with
  | zero => intro v8 h; exact aw_none
  | succ n ih =>
    intro v8 h
    exact aw_iload (pc := 77) C (i := 8) dX1_spread_77 rfl <|
    aw_iload (pc := 79) C (i := 6) dX1_spread_79 rfl <|
    aw_icmp_gt (pc := 81) C (tgt := 155) dX1_spread_81 rfl (fun _ =>
    aw_vret (pc := 155) C dX1_spread_155 rfl rfl) (fun _ =>
    aw_iload (pc := 84) C (i := 4) dX1_spread_84 rfl <|
    aw_aload_n (pc := 86) C (i := 1) dX1_spread_86 rfl rfl <|
    aw_getI (pc := 87) C dX1_spread_87 fl_X1_54 hJ1 rfl <|
    aw_iload (pc := 90) C (i := 8) dX1_spread_90 rfl <|
    aw_imul (pc := 92) C dX1_spread_92 <|
    aw_isub (pc := 93) C dX1_spread_93 <|
    aw_istoreV (pc := 94) C (i := 9) (fun x10 => [(0, .ref 8), (1, .ref p1), (3, .int v3), (4, .int v4), (5, .int v5), (6, .int v6), (7, .int v7), (8, .int v8), (9, .int x10)]) dX1_spread_94 (by decide) (fun _ => rfl) fun x10 =>
    aw_aload_n (pc := 96) C (i := 1) dX1_spread_96 rfl rfl <|
    aw_getI (pc := 97) C dX1_spread_97 fl_X1_38 hJ1 rfl <|
    aw_if_le (pc := 100) C (tgt := 113) dX1_spread_100 rfl (fun _ =>
    aw_iconst (pc := 113) C (v := 0) dX1_spread_113 rfl <|
    (aX1_spread_j114 C p1 hJ1 v3 v4 v5 v6 v7 v8 x10 (X1_spread_l77 p1 v3 v4 v5 v6 v7 n) ih 0 h)) (fun _ =>
    aw_iload (pc := 103) C (i := 9) dX1_spread_103 rfl <|
    aw_iload (pc := 105) C (i := 7) dX1_spread_105 rfl <|
    aw_isub (pc := 107) C dX1_spread_107 <|
    aw_iconst (pc := 108) C (v := 2) dX1_spread_108 rfl <|
    aw_idivK (pc := 109) C dX1_spread_109 (by decide) <|
    aw_goto (pc := 110) C (tgt := 114) dX1_spread_110 rfl <|
    (aX1_spread_j114 C p1 hJ1 v3 v4 v5 v6 v7 v8 x10 (X1_spread_l77 p1 v3 v4 v5 v6 v7 n) ih ((x10 - v7) / 2) h)))
def X1_spread (p1 : Nat) (v2 : Int32) (v3 : Int32) (v4 : Int32) (v5 : Int32) (h : AH) : Option (Unit × AH) :=
    bd (J7_fill_d0a16 31 1000 0 h) fun _ h2 =>
    vl (sL h2 8 3 0) fun h3 =>
    vl (sL h3 8 4 0) fun h4 =>
    vl (v2 - (h4.1 p1 7)) fun x5 =>
    if x5 < 0 then (some ((), h4))
    else (if 20 < v2 then (some ((), h4))
    else (if (h4.1 p1 7) < 0 then (some ((), h4))
    else (if (h4.1 p1 7) ≤ 4 then (vl (sL h4 8 2 (shl64 1 (2 * v2))) fun h6 =>
    bd (kd (h6.2.2 p1) (X3_aimOf p1 h6) (X7_aimOf p1 h6) (X0_aimOf p1 h6) (X4_aimOf p1 h6) (X0_aimOf p1 h6) (X8_aimOf p1 h6)) fun r7 h8 =>
    vl (-x5) fun x9 =>
    X1_spread_l77 p1 v3 v4 v5 x5 r7 FU x9 h8)
    else (some ((), h4)))))
set_option maxRecDepth 100000 in
theorem c_X1_spread (l : Launch) (p1 : Nat) (hJ1 : ZC.1[p1]? = some (.inr 2)) (v2 : Int32) (v3 : Int32) (v4 : Int32) (v5 : Int32) : MC l yX1_spread cX1_spread 11 none rmX1_spread ZC [.ref 8, .ref p1, .int v2, .int v3, .int v4, .int v5] rvV (X1_spread p1 v2 v3 v4 v5) :=
  MC.of (own := RX1) (by decide +kernel) rfl (Nat.le_of_ble_eq_true rfl) fun X yd A h _ C =>
    aw_aload_n (pc := 0) C (i := 0) dX1_spread_0 rfl rfl <|
    aw_getR (pc := 1) C (b := 31) dX1_spread_1 fl_X1_16 sC_8 rfl rC_8_1 <|
    aw_lconst (pc := 4) C (v := 0) dX1_spread_4 rfl <|
    aw_callF (pc := 5) C (cr_S (rest := []) (F := (J7_fill_d0a16 31 1000 0)) C (c_J7_fill_d0a16 X.2.1 ZC 31 1000 1 sC_31 rfl 0) dX1_spread_5 mf_J7_fill_d0a16 ml_X1_26 st_J7_fill_d0a16 ⟨(Nat.le_of_ble_eq_true rfl), (Nat.le_of_ble_eq_true rfl)⟩ rfl rfl (Nat.le_of_ble_eq_true rfl)) rfl rfl rfl (Nat.zero_le _) (Nat.zero_le _) fun _ h2 =>
    aw_aload_n (pc := 8) C (i := 0) dX1_spread_8 rfl rfl <|
    aw_lconst (pc := 9) C (v := 0) dX1_spread_9 rfl <|
    aw_putL (pc := 10) C dX1_spread_10 fp_X1_32 sC_8 rfl fun h3 =>
    aw_aload_n (pc := 13) C (i := 0) dX1_spread_13 rfl rfl <|
    aw_lconst (pc := 14) C (v := 0) dX1_spread_14 rfl <|
    aw_putL (pc := 15) C dX1_spread_15 fp_X1_35 sC_8 rfl fun h4 =>
    aw_iload_n (pc := 18) C (i := 2) dX1_spread_18 rfl rfl <|
    aw_aload_n (pc := 19) C (i := 1) dX1_spread_19 rfl rfl <|
    aw_getI (pc := 20) C dX1_spread_20 fl_X1_38 hJ1 rfl <|
    aw_isub (pc := 23) C dX1_spread_23 <|
    aw_istoreV (pc := 24) C (i := 6) (fun x5 => [(0, .ref 8), (1, .ref p1), (2, .int v2), (3, .int v3), (4, .int v4), (5, .int v5), (6, .int x5)]) dX1_spread_24 (by decide) (fun _ => rfl) fun x5 =>
    aw_iload (pc := 26) C (i := 6) dX1_spread_26 rfl <|
    aw_if_lt (pc := 28) C (tgt := 52) dX1_spread_28 rfl (fun _ =>
    aw_vret (pc := 52) C dX1_spread_52 rfl rfl) (fun _ =>
    aw_iload_n (pc := 31) C (i := 2) dX1_spread_31 rfl rfl <|
    aw_bipush (pc := 32) C (v := 20) dX1_spread_32 rfl <|
    aw_icmp_gt (pc := 34) C (tgt := 52) dX1_spread_34 rfl (fun _ =>
    aw_vret (pc := 52) C dX1_spread_52 rfl rfl) (fun _ =>
    aw_aload_n (pc := 37) C (i := 1) dX1_spread_37 rfl rfl <|
    aw_getI (pc := 38) C dX1_spread_38 fl_X1_38 hJ1 rfl <|
    aw_if_lt (pc := 41) C (tgt := 52) dX1_spread_41 rfl (fun _ =>
    aw_vret (pc := 52) C dX1_spread_52 rfl rfl) (fun _ =>
    aw_aload_n (pc := 44) C (i := 1) dX1_spread_44 rfl rfl <|
    aw_getI (pc := 45) C dX1_spread_45 fl_X1_38 hJ1 rfl <|
    aw_iconst (pc := 48) C (v := 4) dX1_spread_48 rfl <|
    aw_icmp_le (pc := 49) C (tgt := 53) dX1_spread_49 rfl (fun _ =>
    aw_aload_n (pc := 53) C (i := 0) dX1_spread_53 rfl rfl <|
    aw_lconst (pc := 54) C (v := 1) dX1_spread_54 rfl <|
    aw_iconst (pc := 55) C (v := 2) dX1_spread_55 rfl <|
    aw_iload_n (pc := 56) C (i := 2) dX1_spread_56 rfl rfl <|
    aw_imul (pc := 57) C dX1_spread_57 <|
    aw_lshl (pc := 58) C dX1_spread_58 <|
    aw_putL (pc := 59) C dX1_spread_59 fp_X1_20 sC_8 rfl fun h6 =>
    aw_aload_n (pc := 62) C (i := 1) dX1_spread_62 rfl rfl <|
    aw_getW (pc := 63) C (b := (36 + h6.2.2 p1 % 6)) dX1_spread_63 fl_X1_44 hJ1 rfl rfl <|
    aw_aload_n (pc := 66) C (i := 1) dX1_spread_66 rfl rfl <|
    aw_callF (pc := 67) C (kdA_aimOf C dX1_spread_67 ml_X1_48 (h6.2.2 p1) p1 hJ1  [] ⟨⟨(Nat.le_of_ble_eq_true rfl), (Nat.le_of_ble_eq_true rfl)⟩, ⟨(Nat.le_of_ble_eq_true rfl), (Nat.le_of_ble_eq_true rfl)⟩, ⟨(Nat.le_of_ble_eq_true rfl), (Nat.le_of_ble_eq_true rfl)⟩, ⟨(Nat.le_of_ble_eq_true rfl), (Nat.le_of_ble_eq_true rfl)⟩, ⟨(Nat.le_of_ble_eq_true rfl), (Nat.le_of_ble_eq_true rfl)⟩, ⟨(Nat.le_of_ble_eq_true rfl), (Nat.le_of_ble_eq_true rfl)⟩⟩ (Nat.le_of_ble_eq_true rfl)) rfl rfl rfl (Nat.zero_le _) (Nat.zero_le _) fun r7 h8 =>
    aw_istore (pc := 70) C (i := 7) (lv' := [(0, .ref 8), (1, .ref p1), (2, .int v2), (3, .int v3), (4, .int v4), (5, .int v5), (6, .int x5), (7, .int r7)]) dX1_spread_70 (by decide) rfl <|
    aw_iload (pc := 72) C (i := 6) dX1_spread_72 rfl <|
    aw_ineg (pc := 74) C dX1_spread_74 <|
    aw_istoreV (pc := 75) C (i := 8) (fun x9 => [(0, .ref 8), (1, .ref p1), (2, .int v2), (3, .int v3), (4, .int v4), (5, .int v5), (6, .int x5), (7, .int r7), (8, .int x9)]) dX1_spread_75 (by decide) (fun _ => rfl) fun x9 =>
    aw_drop [0, 1, 3, 4, 5, 6, 7, 8] (aX1_spread_l77 C p1 hJ1 v3 v4 v5 x5 r7 FU x9 h8)) (fun _ =>
    aw_vret (pc := 52) C dX1_spread_52 rfl rfl))))

abbrev rmX1_meanWays : Room := { frames := 0, cells := 0, slots := 0, locals := 0 }
def X1_meanWays_l4  : Nat → Int64 → Int32 → AH → Option (Int64 × AH)
  | 0, _, _, _ => none
  | n + 1, v1, v3, h =>
    if 999 < v3 then (some (v1, h))
    else (ck v3 1000 (vl (v1 + (v3.toInt64 * (h.2.1 31 v3.toNatClampNeg))) fun x1 =>
    vl (v3 + 1) fun x2 =>
    (X1_meanWays_l4 n) x1 x2 h))
set_option maxRecDepth 100000 in
theorem aX1_meanWays_l4 {X : MCx} {yd : Dyn} {A : Nat → Prop} (C : OK X cX1_meanWays RX1 4 (some .long) rmX1_meanWays A)  : ∀ (n : Nat) (v1 : Int64) (v3 : Int32) (h : AH), AW X 4 ZC yd A 0 0 (QF X rmX1_meanWays ZC yd rvL A) 4 [(0, .ref 8), (1, .long v1), (3, .int v3)] [] h (X1_meanWays_l4 n v1 v3 h) := by
  intro n
  induction n with
  | zero => intro v1 v3 h; exact aw_none
  | succ n ih =>
    intro v1 v3 h
    exact aw_iload_n (pc := 4) C (i := 3) dX1_meanWays_4 rfl rfl <|
    aw_sipush (pc := 5) C (v := 999) dX1_meanWays_5 rfl <|
    aw_icmp_gt (pc := 8) C (tgt := 29) dX1_meanWays_8 rfl (fun _ =>
    aw_lload_n (pc := 29) C (i := 1) dX1_meanWays_29 rfl rfl <|
    aw_lret (pc := 30) C dX1_meanWays_30 rfl rfl) (fun _ =>
    aw_lload_n (pc := 11) C (i := 1) dX1_meanWays_11 rfl rfl <|
    aw_iload_n (pc := 12) C (i := 3) dX1_meanWays_12 rfl rfl <|
    aw_i2l (pc := 13) C dX1_meanWays_13 <|
    aw_aload_n (pc := 14) C (i := 0) dX1_meanWays_14 rfl rfl <|
    aw_getR (pc := 15) C (b := 31) dX1_meanWays_15 fl_X1_16 sC_8 rfl rC_8_1 <|
    aw_iload_n (pc := 18) C (i := 3) dX1_meanWays_18 rfl rfl <|
    aw_lald (pc := 19) C dX1_meanWays_19 sC_31 rfl <|
    aw_lmul (pc := 20) C dX1_meanWays_20 <|
    aw_ladd (pc := 21) C dX1_meanWays_21 <|
    aw_lstoreV_n (pc := 22) C (i := 1) (fun x1 => [(0, .ref 8), (1, .long x1), (3, .int v3)]) dX1_meanWays_22 rfl (by decide) (fun _ => rfl) fun x1 =>
    aw_iincV (pc := 23) C (i := 3) (cst := 1) (fun x2 => [(0, .ref 8), (1, .long x1), (3, .int x2)]) dX1_meanWays_23 rfl rfl (by decide) (fun _ => rfl) fun x2 =>
    aw_goto (pc := 26) C (tgt := 4) dX1_meanWays_26 rfl <|
    (ih x1 x2 h))
def X1_meanWays  (h : AH) : Option (Int64 × AH) :=
    X1_meanWays_l4 FU 0 1 h
set_option maxRecDepth 100000 in
theorem c_X1_meanWays (l : Launch)  : MC l yX1_meanWays cX1_meanWays 4 (some .long) rmX1_meanWays ZC [.ref 8] rvL (X1_meanWays) :=
  MC.of (own := RX1) (by decide +kernel) rfl (Nat.le_of_ble_eq_true rfl) fun X yd A h _ C =>
    aw_lconst (pc := 0) C (v := 0) dX1_meanWays_0 rfl <|
    aw_lstore_n (pc := 1) C (i := 1) (lv' := [(0, .ref 8), (1, .long 0)]) dX1_meanWays_1 rfl (by decide) rfl <|
    aw_iconst (pc := 2) C (v := 1) dX1_meanWays_2 rfl <|
    aw_istore_n (pc := 3) C (i := 3) (lv' := [(0, .ref 8), (1, .long 0), (3, .int 1)]) dX1_meanWays_3 rfl (by decide) rfl <|
    (aX1_meanWays_l4 C FU 0 1 h)

abbrev rmX1_waysPast : Room := { frames := 1, cells := 0, slots := 0, locals := 45 }
def X1_waysPast_l11  : Nat → Int64 → Int32 → AH → Option (Int64 × AH)
  | 0, _, _, _ => none
  | n + 1, v2, v4, h =>
    if 999 < v4 then (some (v2, h))
    else (ck v4 1000 (vl (v2 + (h.2.1 31 v4.toNatClampNeg)) fun x2 =>
    vl (v4 + 1) fun x3 =>
    (X1_waysPast_l11 n) x2 x3 h))
set_option maxRecDepth 100000 in
theorem aX1_waysPast_l11 {X : MCx} {yd : Dyn} {A : Nat → Prop} (C : OK X cX1_waysPast RX1 5 (some .long) rmX1_waysPast A)  : ∀ (n : Nat) (v2 : Int64) (v4 : Int32) (h : AH), AW X 5 ZC yd A 0 0 (QF X rmX1_waysPast ZC yd rvL A) 11 [(0, .ref 8), (2, .long v2), (4, .int v4)] [] h (X1_waysPast_l11 n v2 v4 h) := by
  intro n
  induction n with
  | zero => intro v2 v4 h; exact aw_none
  | succ n ih =>
    intro v2 v4 h
    exact aw_iload (pc := 11) C (i := 4) dX1_waysPast_11 rfl <|
    aw_sipush (pc := 13) C (v := 999) dX1_waysPast_13 rfl <|
    aw_icmp_gt (pc := 16) C (tgt := 35) dX1_waysPast_16 rfl (fun _ =>
    aw_lload_n (pc := 35) C (i := 2) dX1_waysPast_35 rfl rfl <|
    aw_lret (pc := 36) C dX1_waysPast_36 rfl rfl) (fun _ =>
    aw_lload_n (pc := 19) C (i := 2) dX1_waysPast_19 rfl rfl <|
    aw_aload_n (pc := 20) C (i := 0) dX1_waysPast_20 rfl rfl <|
    aw_getR (pc := 21) C (b := 31) dX1_waysPast_21 fl_X1_16 sC_8 rfl rC_8_1 <|
    aw_iload (pc := 24) C (i := 4) dX1_waysPast_24 rfl <|
    aw_lald (pc := 26) C dX1_waysPast_26 sC_31 rfl <|
    aw_ladd (pc := 27) C dX1_waysPast_27 <|
    aw_lstoreV_n (pc := 28) C (i := 2) (fun x2 => [(0, .ref 8), (2, .long x2), (4, .int v4)]) dX1_waysPast_28 rfl (by decide) (fun _ => rfl) fun x2 =>
    aw_iincV (pc := 29) C (i := 4) (cst := 1) (fun x3 => [(0, .ref 8), (2, .long x2), (4, .int x3)]) dX1_waysPast_29 rfl rfl (by decide) (fun _ => rfl) fun x3 =>
    aw_goto (pc := 32) C (tgt := 11) dX1_waysPast_32 rfl <|
    (ih x2 x3 h))
def X1_waysPast (v1 : Int32) (h : AH) : Option (Int64 × AH) :=
    vl (mx32 0 (v1 + 1)) fun x1 =>
    X1_waysPast_l11 FU 0 x1 h
set_option maxRecDepth 100000 in
theorem c_X1_waysPast (l : Launch) (v1 : Int32) : MC l yX1_waysPast cX1_waysPast 5 (some .long) rmX1_waysPast ZC [.ref 8, .int v1] rvL (X1_waysPast v1) :=
  MC.of (own := RX1) (by decide +kernel) rfl (Nat.le_of_ble_eq_true rfl) fun X yd A h _ C =>
    aw_lconst (pc := 0) C (v := 0) dX1_waysPast_0 rfl <|
    aw_lstore_n (pc := 1) C (i := 2) (lv' := [(0, .ref 8), (1, .int v1), (2, .long 0)]) dX1_waysPast_1 rfl (by decide) rfl <|
    aw_iconst (pc := 2) C (v := 0) dX1_waysPast_2 rfl <|
    aw_iload_n (pc := 3) C (i := 1) dX1_waysPast_3 rfl rfl <|
    aw_iconst (pc := 4) C (v := 1) dX1_waysPast_4 rfl <|
    aw_iadd (pc := 5) C dX1_waysPast_5 <|
    aw_mmax (pc := 6) C dX1_waysPast_6 ml_X1_71 w_mmaxS w_mI w_mmaxC ⟨(Nat.le_of_ble_eq_true rfl), (Nat.le_of_ble_eq_true rfl)⟩ (Nat.zero_le _) (Nat.zero_le _) <|
    aw_istoreV (pc := 9) C (i := 4) (fun x1 => [(0, .ref 8), (1, .int v1), (2, .long 0), (4, .int x1)]) dX1_waysPast_9 (by decide) (fun _ => rfl) fun x1 =>
    aw_drop [0, 2, 3] (aX1_waysPast_l11 C FU 0 x1 h)

abbrev rmX1_share : Room := { frames := 0, cells := 0, slots := 0, locals := 0 }
def X1_share (v1 : Int64) (h : AH) : Option (Int32 × AH) :=
    if 0 < (lcmpV (h.2.1 8 2) 0) then (if (h.2.1 8 2) = 0 then none else (some (((v1 * 10000) / (h.2.1 8 2)).toInt32, h)))
    else (some (0, h))
set_option maxRecDepth 100000 in
theorem c_X1_share (l : Launch) (v1 : Int64) : MC l yX1_share cX1_share 3 (some .int) rmX1_share ZC [.ref 8, .long v1] rvI (X1_share v1) :=
  MC.of (own := RX1) (by decide +kernel) rfl (Nat.le_of_ble_eq_true rfl) fun X yd A h _ C =>
    aw_aload_n (pc := 0) C (i := 0) dX1_share_0 rfl rfl <|
    aw_getL (pc := 1) C dX1_share_1 fl_X1_20 sC_8 rfl <|
    aw_lconst (pc := 4) C (v := 0) dX1_share_4 rfl <|
    aw_lcmp (pc := 5) C dX1_share_5 <|
    aw_if_gt (pc := 6) C (tgt := 13) dX1_share_6 rfl (fun _ =>
    aw_lload_n (pc := 13) C (i := 1) dX1_share_13 rfl rfl <|
    aw_ldc2_w (pc := 14) C (v := 10000) dX1_share_14 kc_X1_75 <|
    aw_lmul (pc := 17) C dX1_share_17 <|
    aw_aload_n (pc := 18) C (i := 0) dX1_share_18 rfl rfl <|
    aw_getL (pc := 19) C dX1_share_19 fl_X1_20 sC_8 rfl <|
    aw_ldiv (pc := 22) C dX1_share_22 <|
    aw_l2i (pc := 23) C dX1_share_23 <|
    aw_iret (pc := 24) C dX1_share_24 rfl rfl) (fun _ =>
    aw_iconst (pc := 9) C (v := 0) dX1_share_9 rfl <|
    aw_goto (pc := 10) C (tgt := 24) dX1_share_10 rfl <|
    aw_iret (pc := 24) C dX1_share_24 rfl rfl)

abbrev rmX2_copyFrom : Room := { frames := 0, cells := 0, slots := 0, locals := 0 }
def X2_copyFrom (o : Nat) (p1 : Nat) (h : AH) : Option (Unit × AH) :=
    vl (sK h o (h.2.2 p1)) fun h1 =>
    vl (sI h1 o 1 (h1.1 p1 1)) fun h2 =>
    vl (sI h2 o 2 (h2.1 p1 2)) fun h3 =>
    vl (sI h3 o 3 (h3.1 p1 3)) fun h4 =>
    vl (sI h4 o 4 (h4.1 p1 4)) fun h5 =>
    vl (sI h5 o 5 (h5.1 p1 5)) fun h6 =>
    vl (sI h6 o 6 (h6.1 p1 6)) fun h7 =>
    vl (sI h7 o 7 (h7.1 p1 7)) fun h8 =>
    vl (sI h8 o 8 (h8.1 p1 8)) fun h9 =>
    some ((), h9)
set_option maxRecDepth 100000 in
theorem c_X2_copyFrom (l : Launch) (o : Nat) (hJ0 : ZC.1[o]? = some (.inr 2)) (p1 : Nat) (hJ1 : ZC.1[p1]? = some (.inr 2)) : MC l yX2_copyFrom cX2_copyFrom 2 none rmX2_copyFrom ZC [.ref o, .ref p1] rvV (X2_copyFrom o p1) :=
  MC.of (own := RX2) (by decide +kernel) rfl (Nat.le_of_ble_eq_true rfl) fun X yd A h _ C =>
    aw_aload_n (pc := 0) C (i := 0) dX2_copyFrom_0 rfl rfl <|
    aw_aload_n (pc := 1) C (i := 1) dX2_copyFrom_1 rfl rfl <|
    aw_getW (pc := 2) C (b := (36 + h.2.2 p1 % 6)) dX2_copyFrom_2 fl_X2_7 hJ1 rfl rfl <|
    aw_putW (pc := 5) C (v := (h.2.2 p1)) dX2_copyFrom_5 fp_X2_7 hJ0 rfl j_3 j_m rfl fun h1 =>
    aw_aload_n (pc := 8) C (i := 0) dX2_copyFrom_8 rfl rfl <|
    aw_aload_n (pc := 9) C (i := 1) dX2_copyFrom_9 rfl rfl <|
    aw_getI (pc := 10) C dX2_copyFrom_10 fl_X2_13 hJ1 rfl <|
    aw_putI (pc := 13) C dX2_copyFrom_13 fp_X2_13 hJ0 rfl fun h2 =>
    aw_aload_n (pc := 16) C (i := 0) dX2_copyFrom_16 rfl rfl <|
    aw_aload_n (pc := 17) C (i := 1) dX2_copyFrom_17 rfl rfl <|
    aw_getI (pc := 18) C dX2_copyFrom_18 fl_X2_17 hJ1 rfl <|
    aw_putI (pc := 21) C dX2_copyFrom_21 fp_X2_17 hJ0 rfl fun h3 =>
    aw_aload_n (pc := 24) C (i := 0) dX2_copyFrom_24 rfl rfl <|
    aw_aload_n (pc := 25) C (i := 1) dX2_copyFrom_25 rfl rfl <|
    aw_getI (pc := 26) C dX2_copyFrom_26 fl_X2_20 hJ1 rfl <|
    aw_putI (pc := 29) C dX2_copyFrom_29 fp_X2_20 hJ0 rfl fun h4 =>
    aw_aload_n (pc := 32) C (i := 0) dX2_copyFrom_32 rfl rfl <|
    aw_aload_n (pc := 33) C (i := 1) dX2_copyFrom_33 rfl rfl <|
    aw_getI (pc := 34) C dX2_copyFrom_34 fl_X2_23 hJ1 rfl <|
    aw_putI (pc := 37) C dX2_copyFrom_37 fp_X2_23 hJ0 rfl fun h5 =>
    aw_aload_n (pc := 40) C (i := 0) dX2_copyFrom_40 rfl rfl <|
    aw_aload_n (pc := 41) C (i := 1) dX2_copyFrom_41 rfl rfl <|
    aw_getI (pc := 42) C dX2_copyFrom_42 fl_X2_26 hJ1 rfl <|
    aw_putI (pc := 45) C dX2_copyFrom_45 fp_X2_26 hJ0 rfl fun h6 =>
    aw_aload_n (pc := 48) C (i := 0) dX2_copyFrom_48 rfl rfl <|
    aw_aload_n (pc := 49) C (i := 1) dX2_copyFrom_49 rfl rfl <|
    aw_getI (pc := 50) C dX2_copyFrom_50 fl_X2_29 hJ1 rfl <|
    aw_putI (pc := 53) C dX2_copyFrom_53 fp_X2_29 hJ0 rfl fun h7 =>
    aw_aload_n (pc := 56) C (i := 0) dX2_copyFrom_56 rfl rfl <|
    aw_aload_n (pc := 57) C (i := 1) dX2_copyFrom_57 rfl rfl <|
    aw_getI (pc := 58) C dX2_copyFrom_58 fl_X2_32 hJ1 rfl <|
    aw_putI (pc := 61) C dX2_copyFrom_61 fp_X2_32 hJ0 rfl fun h8 =>
    aw_aload_n (pc := 64) C (i := 0) dX2_copyFrom_64 rfl rfl <|
    aw_aload_n (pc := 65) C (i := 1) dX2_copyFrom_65 rfl rfl <|
    aw_getI (pc := 66) C dX2_copyFrom_66 fl_X2_35 hJ1 rfl <|
    aw_putI (pc := 69) C dX2_copyFrom_69 fp_X2_35 hJ0 rfl fun h9 =>
    aw_vret (pc := 72) C dX2_copyFrom_72 rfl rfl

abbrev rmX2_property : Room := { frames := 3, cells := 0, slots := 0, locals := 63 }
def X2_property (o : Nat) (v1 : Int32) (h : AH) : Option (Int32 × AH) :=
    vl v1 fun y1 =>
    if y1 = 0 then (some ((h.1 o 1), h))
    else if y1 = 1 then (some ((h.1 o 2), h))
    else if y1 = 2 then (some ((h.1 o 3), h))
    else if y1 = 3 then (some ((h.1 o 4), h))
    else if y1 = 4 then (some ((h.1 o 5), h))
    else if y1 = 5 then (some ((h.1 o 6), h))
    else if y1 = 6 then (some ((h.1 o 7), h))
    else if y1 = 7 then (some ((h.1 o 8), h))
    else (bd (kd (h.2.2 o) (X3_aimOf o h) (X7_aimOf o h) (X0_aimOf o h) (X4_aimOf o h) (X0_aimOf o h) (X8_aimOf o h)) fun r10 h11 =>
    some (r10, h11))
set_option maxRecDepth 100000 in
theorem c_X2_property (l : Launch) (o : Nat) (hJ0 : ZC.1[o]? = some (.inr 2)) (v1 : Int32) : MC l yX2_property cX2_property 2 (some .int) rmX2_property ZC [.ref o, .int v1] rvI (X2_property o v1) :=
  MC.of (own := RX2) (by decide +kernel) rfl (Nat.le_of_ble_eq_true rfl) fun X yd A h _ C =>
    aw_iload_n (pc := 0) C (i := 1) dX2_property_0 rfl rfl <|
    aw_vlI fun y1 =>
    aw_if (fun c2 => aw_tswA (pc := 1) C (off := 47) (tg := 48) 0 dX2_property_1 (by rw [c2]; rfl) (by decide) (by decide) rfl rfl (aw_aload_n (pc := 48) C (i := 0) dX2_property_48 rfl rfl <|
    aw_getI (pc := 49) C dX2_property_49 fl_X2_13 hJ0 rfl <|
    aw_iret (pc := 52) C dX2_property_52 rfl rfl)) (fun c2 =>
    aw_if (fun c3 => aw_tswA (pc := 1) C (off := 52) (tg := 53) 1 dX2_property_1 (by rw [c3]; rfl) (by decide) (by decide) rfl rfl (aw_aload_n (pc := 53) C (i := 0) dX2_property_53 rfl rfl <|
    aw_getI (pc := 54) C dX2_property_54 fl_X2_17 hJ0 rfl <|
    aw_iret (pc := 57) C dX2_property_57 rfl rfl)) (fun c3 =>
    aw_if (fun c4 => aw_tswA (pc := 1) C (off := 57) (tg := 58) 2 dX2_property_1 (by rw [c4]; rfl) (by decide) (by decide) rfl rfl (aw_aload_n (pc := 58) C (i := 0) dX2_property_58 rfl rfl <|
    aw_getI (pc := 59) C dX2_property_59 fl_X2_20 hJ0 rfl <|
    aw_iret (pc := 62) C dX2_property_62 rfl rfl)) (fun c4 =>
    aw_if (fun c5 => aw_tswA (pc := 1) C (off := 62) (tg := 63) 3 dX2_property_1 (by rw [c5]; rfl) (by decide) (by decide) rfl rfl (aw_aload_n (pc := 63) C (i := 0) dX2_property_63 rfl rfl <|
    aw_getI (pc := 64) C dX2_property_64 fl_X2_23 hJ0 rfl <|
    aw_iret (pc := 67) C dX2_property_67 rfl rfl)) (fun c5 =>
    aw_if (fun c6 => aw_tswA (pc := 1) C (off := 67) (tg := 68) 4 dX2_property_1 (by rw [c6]; rfl) (by decide) (by decide) rfl rfl (aw_aload_n (pc := 68) C (i := 0) dX2_property_68 rfl rfl <|
    aw_getI (pc := 69) C dX2_property_69 fl_X2_26 hJ0 rfl <|
    aw_iret (pc := 72) C dX2_property_72 rfl rfl)) (fun c6 =>
    aw_if (fun c7 => aw_tswA (pc := 1) C (off := 72) (tg := 73) 5 dX2_property_1 (by rw [c7]; rfl) (by decide) (by decide) rfl rfl (aw_aload_n (pc := 73) C (i := 0) dX2_property_73 rfl rfl <|
    aw_getI (pc := 74) C dX2_property_74 fl_X2_29 hJ0 rfl <|
    aw_iret (pc := 77) C dX2_property_77 rfl rfl)) (fun c7 =>
    aw_if (fun c8 => aw_tswA (pc := 1) C (off := 77) (tg := 78) 6 dX2_property_1 (by rw [c8]; rfl) (by decide) (by decide) rfl rfl (aw_aload_n (pc := 78) C (i := 0) dX2_property_78 rfl rfl <|
    aw_getI (pc := 79) C dX2_property_79 fl_X2_32 hJ0 rfl <|
    aw_iret (pc := 82) C dX2_property_82 rfl rfl)) (fun c8 =>
    aw_if (fun c9 => aw_tswA (pc := 1) C (off := 82) (tg := 83) 7 dX2_property_1 (by rw [c9]; rfl) (by decide) (by decide) rfl rfl (aw_aload_n (pc := 83) C (i := 0) dX2_property_83 rfl rfl <|
    aw_getI (pc := 84) C dX2_property_84 fl_X2_35 hJ0 rfl <|
    aw_iret (pc := 87) C dX2_property_87 rfl rfl)) (fun c9 =>
    aw_tswD (pc := 1) C (N := 8) (td := 88) [0, 1, 2, 3, 4, 5, 6, 7] dX2_property_1 (List.forall_mem_cons.mpr ⟨ti_ne c2 rfl, List.forall_mem_cons.mpr ⟨ti_ne c3 rfl, List.forall_mem_cons.mpr ⟨ti_ne c4 rfl, List.forall_mem_cons.mpr ⟨ti_ne c5 rfl, List.forall_mem_cons.mpr ⟨ti_ne c6 rfl, List.forall_mem_cons.mpr ⟨ti_ne c7 rfl, List.forall_mem_cons.mpr ⟨ti_ne c8 rfl, List.forall_mem_cons.mpr ⟨ti_ne c9 rfl, fun _ hz => by cases hz⟩⟩⟩⟩⟩⟩⟩⟩) rfl (by decide) rfl (aw_aload_n (pc := 88) C (i := 0) dX2_property_88 rfl rfl <|
    aw_getW (pc := 89) C (b := (36 + h.2.2 o % 6)) dX2_property_89 fl_X2_7 hJ0 rfl rfl <|
    aw_aload_n (pc := 92) C (i := 0) dX2_property_92 rfl rfl <|
    aw_callF (pc := 93) C (kdA_aimOf C dX2_property_93 ml_X2_38 (h.2.2 o) o hJ0  [] ⟨⟨(Nat.le_of_ble_eq_true rfl), (Nat.le_of_ble_eq_true rfl)⟩, ⟨(Nat.le_of_ble_eq_true rfl), (Nat.le_of_ble_eq_true rfl)⟩, ⟨(Nat.le_of_ble_eq_true rfl), (Nat.le_of_ble_eq_true rfl)⟩, ⟨(Nat.le_of_ble_eq_true rfl), (Nat.le_of_ble_eq_true rfl)⟩, ⟨(Nat.le_of_ble_eq_true rfl), (Nat.le_of_ble_eq_true rfl)⟩, ⟨(Nat.le_of_ble_eq_true rfl), (Nat.le_of_ble_eq_true rfl)⟩⟩ (Nat.le_of_ble_eq_true rfl)) rfl rfl rfl (Nat.zero_le _) (Nat.zero_le _) fun r10 h11 =>
    aw_iret (pc := 96) C dX2_property_96 rfl rfl)))))))))

abbrev rmX2_path : Room := { frames := 3, cells := 0, slots := 0, locals := 69 }
def X2_path_l5 (o : Nat) (v1 : Int32) (v2 : Int32) : Nat → Int32 → Int32 → AH → Option (Int32 × AH)
  | 0, _, _, _ => none
  | n + 1, v3, v4, h =>
    if v1 ≤ v4 then (some (v3, h))
    else (bd (kd (h.2.2 o) (X3_strideOf o v4 v2 h) (X3_strideOf o v4 v2 h) (X0_strideOf o v4 v2 h) (X3_strideOf o v4 v2 h) (X9_strideOf o v4 v2 h) (X8_strideOf o v4 v2 h)) fun r1 h2 =>
    vl (v3 + r1) fun x3 =>
    vl (v4 + 1) fun x4 =>
    (X2_path_l5 o v1 v2 n) x3 x4 h2)
set_option maxRecDepth 100000 in
theorem aX2_path_l5 {X : MCx} {yd : Dyn} {A : Nat → Prop} (C : OK X cX2_path RX2 5 (some .int) rmX2_path A) (o : Nat) (hJ0 : ZC.1[o]? = some (.inr 2)) (v1 : Int32) (v2 : Int32) : ∀ (n : Nat) (v3 : Int32) (v4 : Int32) (h : AH), AW X 5 ZC yd A 0 0 (QF X rmX2_path ZC yd rvI A) 5 [(0, .ref o), (1, .int v1), (2, .int v2), (3, .int v3), (4, .int v4)] [] h (X2_path_l5 o v1 v2 n v3 v4 h) := by
  intro n
  induction n with
  | zero => intro v3 v4 h; exact aw_none
  | succ n ih =>
    intro v3 v4 h
    exact aw_iload (pc := 5) C (i := 4) dX2_path_5 rfl <|
    aw_iload_n (pc := 7) C (i := 1) dX2_path_7 rfl rfl <|
    aw_icmp_ge (pc := 8) C (tgt := 31) dX2_path_8 rfl (fun _ =>
    aw_iload_n (pc := 31) C (i := 3) dX2_path_31 rfl rfl <|
    aw_iret (pc := 32) C dX2_path_32 rfl rfl) (fun _ =>
    aw_iload_n (pc := 11) C (i := 3) dX2_path_11 rfl rfl <|
    aw_aload_n (pc := 12) C (i := 0) dX2_path_12 rfl rfl <|
    aw_getW (pc := 13) C (b := (36 + h.2.2 o % 6)) dX2_path_13 fl_X2_7 hJ0 rfl rfl <|
    aw_aload_n (pc := 16) C (i := 0) dX2_path_16 rfl rfl <|
    aw_iload (pc := 17) C (i := 4) dX2_path_17 rfl <|
    aw_iload_n (pc := 19) C (i := 2) dX2_path_19 rfl rfl <|
    aw_callF (pc := 20) C (kdA_strideOf C dX2_path_20 ml_X2_44 (h.2.2 o) o hJ0 v4 v2 [.int v3] ⟨⟨(Nat.le_of_ble_eq_true rfl), (Nat.le_of_ble_eq_true rfl)⟩, ⟨(Nat.le_of_ble_eq_true rfl), (Nat.le_of_ble_eq_true rfl)⟩, ⟨(Nat.le_of_ble_eq_true rfl), (Nat.le_of_ble_eq_true rfl)⟩, ⟨(Nat.le_of_ble_eq_true rfl), (Nat.le_of_ble_eq_true rfl)⟩, ⟨(Nat.le_of_ble_eq_true rfl), (Nat.le_of_ble_eq_true rfl)⟩, ⟨(Nat.le_of_ble_eq_true rfl), (Nat.le_of_ble_eq_true rfl)⟩⟩ (Nat.le_of_ble_eq_true rfl)) rfl rfl rfl (Nat.zero_le _) (Nat.zero_le _) fun r1 h2 =>
    aw_iadd (pc := 23) C dX2_path_23 <|
    aw_istoreV_n (pc := 24) C (i := 3) (fun x3 => [(0, .ref o), (1, .int v1), (2, .int v2), (3, .int x3), (4, .int v4)]) dX2_path_24 rfl (by decide) (fun _ => rfl) fun x3 =>
    aw_iincV (pc := 25) C (i := 4) (cst := 1) (fun x4 => [(0, .ref o), (1, .int v1), (2, .int v2), (3, .int x3), (4, .int x4)]) dX2_path_25 rfl rfl (by decide) (fun _ => rfl) fun x4 =>
    aw_goto (pc := 28) C (tgt := 5) dX2_path_28 rfl <|
    (ih x3 x4 h2))
def X2_path (o : Nat) (v1 : Int32) (v2 : Int32) (h : AH) : Option (Int32 × AH) :=
    X2_path_l5 o v1 v2 FU 0 0 h
set_option maxRecDepth 100000 in
theorem c_X2_path (l : Launch) (o : Nat) (hJ0 : ZC.1[o]? = some (.inr 2)) (v1 : Int32) (v2 : Int32) : MC l yX2_path cX2_path 5 (some .int) rmX2_path ZC [.ref o, .int v1, .int v2] rvI (X2_path o v1 v2) :=
  MC.of (own := RX2) (by decide +kernel) rfl (Nat.le_of_ble_eq_true rfl) fun X yd A h _ C =>
    aw_iconst (pc := 0) C (v := 0) dX2_path_0 rfl <|
    aw_istore_n (pc := 1) C (i := 3) (lv' := [(0, .ref o), (1, .int v1), (2, .int v2), (3, .int 0)]) dX2_path_1 rfl (by decide) rfl <|
    aw_iconst (pc := 2) C (v := 0) dX2_path_2 rfl <|
    aw_istore (pc := 3) C (i := 4) (lv' := [(0, .ref o), (1, .int v1), (2, .int v2), (3, .int 0), (4, .int 0)]) dX2_path_3 (by decide) rfl <|
    (aX2_path_l5 C o hJ0 v1 v2 FU 0 0 h)

abbrev rmX5_copyFrom : Room := { frames := 1, cells := 0, slots := 0, locals := 45 }
def X5_copyFrom_l42 (o : Nat) (p1 : Nat) : Nat → Int32 → AH → Option (Unit × AH)
  | 0, _, _ => none
  | n + 1, v2, h =>
    if 4 ≤ v2 then (vl (cpI h (p1 + 2) (o + 2) 24) fun h6 =>
    vl (cpI h6 (p1 + 3) (o + 3) 24) fun h7 =>
    vl (cpI h7 (p1 + 4) (o + 4) 24) fun h8 =>
    vl (cpI h8 (p1 + 5) (o + 5) 24) fun h9 =>
    some ((), h9))
    else (ck v2 4 (ck v2 4 (bd (X2_copyFrom (o + 6 + v2.toNatClampNeg % 4) (p1 + 6 + v2.toNatClampNeg % 4) h) fun _ h11 =>
    vl (v2 + 1) fun x12 =>
    (X5_copyFrom_l42 o p1 n) x12 h11)))
set_option maxRecDepth 100000 in
theorem aX5_copyFrom_l42 {X : MCx} {yd : Dyn} {A : Nat → Prop} (C : OK X cX5_copyFrom RX5 3 none rmX5_copyFrom A) (o : Nat) (hM0 : MT o) (p1 : Nat) (hM1 : MT p1) : ∀ (n : Nat) (v2 : Int32) (h : AH), AW X 3 ZC yd A 0 0 (QF X rmX5_copyFrom ZC yd rvV A) 42 [(0, .ref o), (1, .ref p1), (2, .int v2)] [] h (X5_copyFrom_l42 o p1 n v2 h) := by
  intro n
  induction n with
  | zero => intro v2 h; exact aw_none
  | succ n ih =>
    intro v2 h
    exact aw_iload_n (pc := 42) C (i := 2) dX5_copyFrom_42 rfl rfl <|
    aw_iconst (pc := 43) C (v := 4) dX5_copyFrom_43 rfl <|
    aw_icmp_ge (pc := 44) C (tgt := 68) dX5_copyFrom_44 rfl (fun _ =>
    aw_aload_n (pc := 68) C (i := 1) dX5_copyFrom_68 rfl rfl <|
    aw_getR (pc := 69) C (b := (p1 + 2)) dX5_copyFrom_69 fl_X5_24 (mt_s hM1) rfl (mt_r6 hM1) <|
    aw_iconst (pc := 72) C (v := 0) dX5_copyFrom_72 rfl <|
    aw_aload_n (pc := 73) C (i := 0) dX5_copyFrom_73 rfl rfl <|
    aw_getR (pc := 74) C (b := (o + 2)) dX5_copyFrom_74 fl_X5_24 (mt_s hM0) rfl (mt_r6 hM0) <|
    aw_iconst (pc := 77) C (v := 0) dX5_copyFrom_77 rfl <|
    aw_bipush (pc := 78) C (v := 24) dX5_copyFrom_78 rfl <|
    aw_copy (pc := 80) C (M := 24) dX5_copyFrom_80 ml_X5_53 w_acN w_acS w_acI (mt_s2 hM1) (mt_s2 hM0) rfl (by decide) rfl (by decide) ⟨(Nat.le_of_ble_eq_true rfl), (Nat.le_of_ble_eq_true rfl)⟩ fun h6 =>
    aw_aload_n (pc := 83) C (i := 1) dX5_copyFrom_83 rfl rfl <|
    aw_getR (pc := 84) C (b := (p1 + 3)) dX5_copyFrom_84 fl_X5_28 (mt_s hM1) rfl (mt_r7 hM1) <|
    aw_iconst (pc := 87) C (v := 0) dX5_copyFrom_87 rfl <|
    aw_aload_n (pc := 88) C (i := 0) dX5_copyFrom_88 rfl rfl <|
    aw_getR (pc := 89) C (b := (o + 3)) dX5_copyFrom_89 fl_X5_28 (mt_s hM0) rfl (mt_r7 hM0) <|
    aw_iconst (pc := 92) C (v := 0) dX5_copyFrom_92 rfl <|
    aw_bipush (pc := 93) C (v := 24) dX5_copyFrom_93 rfl <|
    aw_copy (pc := 95) C (M := 24) dX5_copyFrom_95 ml_X5_53 w_acN w_acS w_acI (mt_s3 hM1) (mt_s3 hM0) rfl (by decide) rfl (by decide) ⟨(Nat.le_of_ble_eq_true rfl), (Nat.le_of_ble_eq_true rfl)⟩ fun h7 =>
    aw_aload_n (pc := 98) C (i := 1) dX5_copyFrom_98 rfl rfl <|
    aw_getR (pc := 99) C (b := (p1 + 4)) dX5_copyFrom_99 fl_X5_31 (mt_s hM1) rfl (mt_r8 hM1) <|
    aw_iconst (pc := 102) C (v := 0) dX5_copyFrom_102 rfl <|
    aw_aload_n (pc := 103) C (i := 0) dX5_copyFrom_103 rfl rfl <|
    aw_getR (pc := 104) C (b := (o + 4)) dX5_copyFrom_104 fl_X5_31 (mt_s hM0) rfl (mt_r8 hM0) <|
    aw_iconst (pc := 107) C (v := 0) dX5_copyFrom_107 rfl <|
    aw_bipush (pc := 108) C (v := 24) dX5_copyFrom_108 rfl <|
    aw_copy (pc := 110) C (M := 24) dX5_copyFrom_110 ml_X5_53 w_acN w_acS w_acI (mt_s4 hM1) (mt_s4 hM0) rfl (by decide) rfl (by decide) ⟨(Nat.le_of_ble_eq_true rfl), (Nat.le_of_ble_eq_true rfl)⟩ fun h8 =>
    aw_aload_n (pc := 113) C (i := 1) dX5_copyFrom_113 rfl rfl <|
    aw_getR (pc := 114) C (b := (p1 + 5)) dX5_copyFrom_114 fl_X5_34 (mt_s hM1) rfl (mt_r9 hM1) <|
    aw_iconst (pc := 117) C (v := 0) dX5_copyFrom_117 rfl <|
    aw_aload_n (pc := 118) C (i := 0) dX5_copyFrom_118 rfl rfl <|
    aw_getR (pc := 119) C (b := (o + 5)) dX5_copyFrom_119 fl_X5_34 (mt_s hM0) rfl (mt_r9 hM0) <|
    aw_iconst (pc := 122) C (v := 0) dX5_copyFrom_122 rfl <|
    aw_bipush (pc := 123) C (v := 24) dX5_copyFrom_123 rfl <|
    aw_copy (pc := 125) C (M := 24) dX5_copyFrom_125 ml_X5_53 w_acN w_acS w_acI (mt_s5 hM1) (mt_s5 hM0) rfl (by decide) rfl (by decide) ⟨(Nat.le_of_ble_eq_true rfl), (Nat.le_of_ble_eq_true rfl)⟩ fun h9 =>
    aw_vret (pc := 128) C dX5_copyFrom_128 rfl rfl) (fun _ =>
    aw_aload_n (pc := 47) C (i := 0) dX5_copyFrom_47 rfl rfl <|
    aw_getR (pc := 48) C (b := (o + 1)) dX5_copyFrom_48 fl_X5_20 (mt_s hM0) rfl (mt_r5 hM0) <|
    aw_iload_n (pc := 51) C (i := 2) dX5_copyFrom_51 rfl rfl <|
    aw_aald (pc := 52) C (b := (o + 6 + v2.toNatClampNeg % 4)) dX5_copyFrom_52 (mt_s1 hM0) rfl rfl (mt_jj hM0 _) <|
    aw_aload_n (pc := 53) C (i := 1) dX5_copyFrom_53 rfl rfl <|
    aw_getR (pc := 54) C (b := (p1 + 1)) dX5_copyFrom_54 fl_X5_20 (mt_s hM1) rfl (mt_r5 hM1) <|
    aw_iload_n (pc := 57) C (i := 2) dX5_copyFrom_57 rfl rfl <|
    aw_aald (pc := 58) C (b := (p1 + 6 + v2.toNatClampNeg % 4)) dX5_copyFrom_58 (mt_s1 hM1) rfl rfl (mt_jj hM1 _) <|
    aw_callF (pc := 59) C (cr_V (rest := []) (F := (X2_copyFrom (o + 6 + v2.toNatClampNeg % 4) (p1 + 6 + v2.toNatClampNeg % 4))) C (c_X2_copyFrom X.2.1 (o + 6 + v2.toNatClampNeg % 4) (mt_sj hM0 _) (p1 + 6 + v2.toNatClampNeg % 4) (mt_sj hM1 _)) dX5_copyFrom_59 mf_X2_copyFrom ml_X5_49 im_X2_copyFrom se_X2_copyFrom (mt_sj hM0 _) rfl ⟨(Nat.le_of_ble_eq_true rfl), (Nat.le_of_ble_eq_true rfl)⟩ rfl rfl (Nat.le_of_ble_eq_true rfl)) rfl rfl rfl (Nat.zero_le _) (Nat.zero_le _) fun _ h11 =>
    aw_iincV (pc := 62) C (i := 2) (cst := 1) (fun x12 => [(0, .ref o), (1, .ref p1), (2, .int x12)]) dX5_copyFrom_62 rfl rfl (by decide) (fun _ => rfl) fun x12 =>
    aw_goto (pc := 65) C (tgt := 42) dX5_copyFrom_65 rfl <|
    (ih x12 h11))
def X5_copyFrom (o : Nat) (p1 : Nat) (h : AH) : Option (Unit × AH) :=
    vl (sI h o 0 (h.1 p1 0)) fun h1 =>
    vl (sI h1 o 1 (h1.1 p1 1)) fun h2 =>
    vl (sI h2 o 2 (h2.1 p1 2)) fun h3 =>
    vl (sI h3 o 3 (h3.1 p1 3)) fun h4 =>
    vl (sI h4 o 4 (h4.1 p1 4)) fun h5 =>
    X5_copyFrom_l42 o p1 FU 0 h5
set_option maxRecDepth 100000 in
theorem c_X5_copyFrom (l : Launch) (o : Nat) (hM0 : MT o) (p1 : Nat) (hM1 : MT p1) : MC l yX5_copyFrom cX5_copyFrom 3 none rmX5_copyFrom ZC [.ref o, .ref p1] rvV (X5_copyFrom o p1) :=
  MC.of (own := RX5) (by decide +kernel) rfl (Nat.le_of_ble_eq_true rfl) fun X yd A h _ C =>
    aw_aload_n (pc := 0) C (i := 0) dX5_copyFrom_0 rfl rfl <|
    aw_aload_n (pc := 1) C (i := 1) dX5_copyFrom_1 rfl rfl <|
    aw_getI (pc := 2) C dX5_copyFrom_2 fl_X5_9 (mt_s hM1) rfl <|
    aw_putI (pc := 5) C dX5_copyFrom_5 fp_X5_9 (mt_s hM0) rfl fun h1 =>
    aw_aload_n (pc := 8) C (i := 0) dX5_copyFrom_8 rfl rfl <|
    aw_aload_n (pc := 9) C (i := 1) dX5_copyFrom_9 rfl rfl <|
    aw_getI (pc := 10) C dX5_copyFrom_10 fl_X5_40 (mt_s hM1) rfl <|
    aw_putI (pc := 13) C dX5_copyFrom_13 fp_X5_40 (mt_s hM0) rfl fun h2 =>
    aw_aload_n (pc := 16) C (i := 0) dX5_copyFrom_16 rfl rfl <|
    aw_aload_n (pc := 17) C (i := 1) dX5_copyFrom_17 rfl rfl <|
    aw_getI (pc := 18) C dX5_copyFrom_18 fl_X5_15 (mt_s hM1) rfl <|
    aw_putI (pc := 21) C dX5_copyFrom_21 fp_X5_15 (mt_s hM0) rfl fun h3 =>
    aw_aload_n (pc := 24) C (i := 0) dX5_copyFrom_24 rfl rfl <|
    aw_aload_n (pc := 25) C (i := 1) dX5_copyFrom_25 rfl rfl <|
    aw_getI (pc := 26) C dX5_copyFrom_26 fl_X5_43 (mt_s hM1) rfl <|
    aw_putI (pc := 29) C dX5_copyFrom_29 fp_X5_43 (mt_s hM0) rfl fun h4 =>
    aw_aload_n (pc := 32) C (i := 0) dX5_copyFrom_32 rfl rfl <|
    aw_aload_n (pc := 33) C (i := 1) dX5_copyFrom_33 rfl rfl <|
    aw_getI (pc := 34) C dX5_copyFrom_34 fl_X5_46 (mt_s hM1) rfl <|
    aw_putI (pc := 37) C dX5_copyFrom_37 fp_X5_46 (mt_s hM0) rfl fun h5 =>
    aw_iconst (pc := 40) C (v := 0) dX5_copyFrom_40 rfl <|
    aw_istore_n (pc := 41) C (i := 2) (lv' := [(0, .ref o), (1, .ref p1), (2, .int 0)]) dX5_copyFrom_41 rfl (by decide) rfl <|
    (aX5_copyFrom_l42 C o hM0 p1 hM1 FU 0 h5)

abbrev rmX5_at : Room := { frames := 0, cells := 0, slots := 0, locals := 0 }
def X5_at_j9 (o : Nat) (h : AH) : Option (Nat × AH) :=
    ck 0 4 (some ((o + 6 + (0 : Int32).toNatClampNeg % 4), h))
set_option maxRecDepth 100000 in
theorem aX5_at_j9 {X : MCx} {yd : Dyn} {A : Nat → Prop} (C : OK X cX5_at RX5 2 (some (.object "MarkToBoard$Jumper")) rmX5_at A) (o : Nat) (hM0 : MT o) (h : AH) : AW X 2 ZC yd A 0 0 (QF X rmX5_at ZC yd rvR A) 9 [(0, .ref o)] [] h (X5_at_j9 o h) := by
    exact aw_aload_n (pc := 9) C (i := 0) dX5_at_9 rfl rfl <|
    aw_getR (pc := 10) C (b := (o + 1)) dX5_at_10 fl_X5_20 (mt_s hM0) rfl (mt_r5 hM0) <|
    aw_iconst (pc := 13) C (v := 0) dX5_at_13 rfl <|
    aw_aald (pc := 14) C (b := (o + 6 + (0 : Int32).toNatClampNeg % 4)) dX5_at_14 (mt_s1 hM0) rfl rfl (mt_jj hM0 _) <|
    aw_goto (pc := 15) C (tgt := 24) dX5_at_15 rfl <|
    aw_aret (pc := 24) C dX5_at_24 rfl rfl
def X5_at (o : Nat) (v1 : Int32) (h : AH) : Option (Nat × AH) :=
    if v1 < 0 then (X5_at_j9 o h)
    else (if v1 < 4 then (ck v1 4 (some ((o + 6 + v1.toNatClampNeg % 4), h)))
    else (X5_at_j9 o h))
set_option maxRecDepth 100000 in
theorem c_X5_at (l : Launch) (o : Nat) (hM0 : MT o) (v1 : Int32) : MC l yX5_at cX5_at 2 (some (.object "MarkToBoard$Jumper")) rmX5_at ZC [.ref o, .int v1] rvR (X5_at o v1) :=
  MC.of (own := RX5) (by decide +kernel) rfl (Nat.le_of_ble_eq_true rfl) fun X yd A h _ C =>
    aw_iload_n (pc := 0) C (i := 1) dX5_at_0 rfl rfl <|
    aw_if_lt (pc := 1) C (tgt := 9) dX5_at_1 rfl (fun _ =>
    aw_drop [0] (aX5_at_j9 C o hM0 h)) (fun _ =>
    aw_iload_n (pc := 4) C (i := 1) dX5_at_4 rfl rfl <|
    aw_iconst (pc := 5) C (v := 4) dX5_at_5 rfl <|
    aw_icmp_lt (pc := 6) C (tgt := 18) dX5_at_6 rfl (fun _ =>
    aw_aload_n (pc := 18) C (i := 0) dX5_at_18 rfl rfl <|
    aw_getR (pc := 19) C (b := (o + 1)) dX5_at_19 fl_X5_20 (mt_s hM0) rfl (mt_r5 hM0) <|
    aw_iload_n (pc := 22) C (i := 1) dX5_at_22 rfl rfl <|
    aw_aald (pc := 23) C (b := (o + 6 + v1.toNatClampNeg % 4)) dX5_at_23 (mt_s1 hM0) rfl rfl (mt_jj hM0 _) <|
    aw_aret (pc := 24) C dX5_at_24 rfl rfl) (fun _ =>
    aw_drop [0] (aX5_at_j9 C o hM0 h)))

abbrev rmX5_finalists : Room := { frames := 0, cells := 0, slots := 0, locals := 0 }
def X5_finalists (o : Nat) (h : AH) : Option (Int32 × AH) :=
    if (h.1 o 3) ≤ (h.1 o 2) then (some ((h.1 o 3), h))
    else (some ((h.1 o 2), h))
set_option maxRecDepth 100000 in
theorem c_X5_finalists (l : Launch) (o : Nat) (hM0 : MT o) : MC l yX5_finalists cX5_finalists 1 (some .int) rmX5_finalists ZC [.ref o] rvI (X5_finalists o) :=
  MC.of (own := RX5) (by decide +kernel) rfl (Nat.le_of_ble_eq_true rfl) fun X yd A h _ C =>
    aw_aload_n (pc := 0) C (i := 0) dX5_finalists_0 rfl rfl <|
    aw_getI (pc := 1) C dX5_finalists_1 fl_X5_15 (mt_s hM0) rfl <|
    aw_aload_n (pc := 4) C (i := 0) dX5_finalists_4 rfl rfl <|
    aw_getI (pc := 5) C dX5_finalists_5 fl_X5_43 (mt_s hM0) rfl <|
    aw_icmp_ge (pc := 8) C (tgt := 18) dX5_finalists_8 rfl (fun _ =>
    aw_aload_n (pc := 18) C (i := 0) dX5_finalists_18 rfl rfl <|
    aw_getI (pc := 19) C dX5_finalists_19 fl_X5_43 (mt_s hM0) rfl <|
    aw_iret (pc := 22) C dX5_finalists_22 rfl rfl) (fun _ =>
    aw_aload_n (pc := 11) C (i := 0) dX5_finalists_11 rfl rfl <|
    aw_getI (pc := 12) C dX5_finalists_12 fl_X5_15 (mt_s hM0) rfl <|
    aw_goto (pc := 15) C (tgt := 22) dX5_finalists_15 rfl <|
    aw_iret (pc := 22) C dX5_finalists_22 rfl rfl)

abbrev rmX5_round : Room := { frames := 1, cells := 0, slots := 0, locals := 45 }
def X5_round (o : Nat) (h : AH) : Option (Int32 × AH) :=
    bd (X5_finalists o h) fun r1 h2 =>
    if (h2.1 o 3) ≤ 0 then (some (6, h2))
    else (if 0 < r1 then (if (3 * (h2.1 o 3)) ≤ (h2.1 o 4) then (if r1 = 0 then none else (some ((mn32 6 (3 + (((h2.1 o 4) - (3 * (h2.1 o 3))) / r1))), h2)))
    else (if (h2.1 o 3) = 0 then none else (some (((h2.1 o 4) / (h2.1 o 3)), h2))))
    else (some (6, h2)))
set_option maxRecDepth 100000 in
theorem c_X5_round (l : Launch) (o : Nat) (hM0 : MT o) : MC l yX5_round cX5_round 2 (some .int) rmX5_round ZC [.ref o] rvI (X5_round o) :=
  MC.of (own := RX5) (by decide +kernel) rfl (Nat.le_of_ble_eq_true rfl) fun X yd A h _ C =>
    aw_aload_n (pc := 0) C (i := 0) dX5_round_0 rfl rfl <|
    aw_callF (pc := 1) C (cr_V (rest := []) (F := (X5_finalists o)) C (c_X5_finalists X.2.1 o hM0) dX5_round_1 mf_X5_finalists ml_X5_59 im_X5_finalists se_X5_finalists (mt_s hM0) rfl ⟨(Nat.le_of_ble_eq_true rfl), (Nat.le_of_ble_eq_true rfl)⟩ rfl rfl (Nat.le_of_ble_eq_true rfl)) rfl rfl rfl (Nat.zero_le _) (Nat.zero_le _) fun r1 h2 =>
    aw_istore_n (pc := 4) C (i := 1) (lv' := [(0, .ref o), (1, .int r1)]) dX5_round_4 rfl (by decide) rfl <|
    aw_aload_n (pc := 5) C (i := 0) dX5_round_5 rfl rfl <|
    aw_getI (pc := 6) C dX5_round_6 fl_X5_43 (mt_s hM0) rfl <|
    aw_if_le (pc := 9) C (tgt := 16) dX5_round_9 rfl (fun _ =>
    aw_bipush (pc := 16) C (v := 6) dX5_round_16 rfl <|
    aw_iret (pc := 18) C dX5_round_18 rfl rfl) (fun _ =>
    aw_iload_n (pc := 12) C (i := 1) dX5_round_12 rfl rfl <|
    aw_if_gt (pc := 13) C (tgt := 19) dX5_round_13 rfl (fun _ =>
    aw_aload_n (pc := 19) C (i := 0) dX5_round_19 rfl rfl <|
    aw_getI (pc := 20) C dX5_round_20 fl_X5_46 (mt_s hM0) rfl <|
    aw_iconst (pc := 23) C (v := 3) dX5_round_23 rfl <|
    aw_aload_n (pc := 24) C (i := 0) dX5_round_24 rfl rfl <|
    aw_getI (pc := 25) C dX5_round_25 fl_X5_43 (mt_s hM0) rfl <|
    aw_imul (pc := 28) C dX5_round_28 <|
    aw_icmp_ge (pc := 29) C (tgt := 44) dX5_round_29 rfl (fun _ =>
    aw_bipush (pc := 44) C (v := 6) dX5_round_44 rfl <|
    aw_iconst (pc := 46) C (v := 3) dX5_round_46 rfl <|
    aw_aload_n (pc := 47) C (i := 0) dX5_round_47 rfl rfl <|
    aw_getI (pc := 48) C dX5_round_48 fl_X5_46 (mt_s hM0) rfl <|
    aw_iconst (pc := 51) C (v := 3) dX5_round_51 rfl <|
    aw_aload_n (pc := 52) C (i := 0) dX5_round_52 rfl rfl <|
    aw_getI (pc := 53) C dX5_round_53 fl_X5_43 (mt_s hM0) rfl <|
    aw_imul (pc := 56) C dX5_round_56 <|
    aw_isub (pc := 57) C dX5_round_57 <|
    aw_iload_n (pc := 58) C (i := 1) dX5_round_58 rfl rfl <|
    aw_idiv (pc := 59) C dX5_round_59 <|
    aw_iadd (pc := 60) C dX5_round_60 <|
    aw_mmin (pc := 61) C dX5_round_61 ml_X5_63 w_mminS w_mI w_mminC ⟨(Nat.le_of_ble_eq_true rfl), (Nat.le_of_ble_eq_true rfl)⟩ (Nat.zero_le _) (Nat.zero_le _) <|
    aw_iret (pc := 64) C dX5_round_64 rfl rfl) (fun _ =>
    aw_aload_n (pc := 32) C (i := 0) dX5_round_32 rfl rfl <|
    aw_getI (pc := 33) C dX5_round_33 fl_X5_46 (mt_s hM0) rfl <|
    aw_aload_n (pc := 36) C (i := 0) dX5_round_36 rfl rfl <|
    aw_getI (pc := 37) C dX5_round_37 fl_X5_43 (mt_s hM0) rfl <|
    aw_idiv (pc := 40) C dX5_round_40 <|
    aw_goto (pc := 41) C (tgt := 64) dX5_round_41 rfl <|
    aw_iret (pc := 64) C dX5_round_64 rfl rfl)) (fun _ =>
    aw_bipush (pc := 16) C (v := 6) dX5_round_16 rfl <|
    aw_iret (pc := 18) C dX5_round_18 rfl rfl))
