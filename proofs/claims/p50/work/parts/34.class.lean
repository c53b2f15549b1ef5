section
abbrev rmJ7_fill_d0a16 : Room := { frames := 0, cells := 0, slots := 0, locals := 0 }
def J7_fill_d0a16_l6 (p0 : Nat) (n0 : Nat) (v1 : Int64) (v4 : Int32) : Nat → Int32 → AH → Option (Unit × AH)
  | 0, _, _ => none
  | n + 1, v3, h =>
    if v4 ≤ v3 then (some ((), h))
    else (ck v3 n0 (vl (sL h p0 v3.toNatClampNeg v1) fun h2 =>
    vl (v3 + 1) fun x3 =>
    (J7_fill_d0a16_l6 p0 n0 v1 v4 n) x3 h2))
set_option maxRecDepth 100000 in
theorem aJ7_fill_d0a16_l6 {X : MCx} {yd : Dyn} {A : Nat → Prop} (C : OK X cJ7_fill_d0a16 RJ7 5 none rmJ7_fill_d0a16 A) (Z : Stc) (p0 : Nat) (n0 : Nat) (t0 : Nat) (hA0 : Z.1[p0]? = some (.inl (t0, 1, n0))) (hT0 : Z.2.2.2[t0]? = some .long) (v1 : Int64) (v4 : Int32) : ∀ (n : Nat) (v3 : Int32) (h : AH), AW X 5 Z yd A 0 0 (QF X rmJ7_fill_d0a16 Z yd rvV A) 6 [(0, .ref p0), (1, .long v1), (3, .int v3), (4, .int v4)] [] h (J7_fill_d0a16_l6 p0 n0 v1 v4 n v3 h) := by
  intro n
  induction n with
  | zero => intro v3 h; exact aw_none
  | succ n ih =>
    intro v3 h
    exact aw_iload_n (pc := 6) C (i := 3) dK_s_0.2.2.2.2.2.1 rfl rfl <|
    aw_iload (pc := 7) C (i := 4) dK_s_0.2.2.2.2.2.2.1 rfl <|
    aw_icmp_ge (pc := 9) C (tgt := 22) dK_s_0.2.2.2.2.2.2.2.1 rfl (fun _ =>
    aw_vret (pc := 22) C dK_s_1.2.2.2.2.2.2.1 rfl rfl) (fun _ =>
    aw_aload_n (pc := 12) C (i := 0) dK_s_1.1 rfl rfl <|
    aw_iload_n (pc := 13) C (i := 3) dK_s_1.2.1 rfl rfl <|
    aw_lload_n (pc := 14) C (i := 1) dK_s_1.2.2.1 rfl rfl <|
    aw_last (pc := 15) C dK_s_1.2.2.2.1 hA0 hT0 fun h2 =>
    aw_iincV (pc := 16) C (i := 3) (cst := 1) (fun x3 => [(0, .ref p0), (1, .long v1), (3, .int x3), (4, .int v4)]) dK_s_1.2.2.2.2.1 rfl rfl (by decide) (fun _ => rfl) fun x3 =>
    aw_goto (pc := 19) C (tgt := 6) dK_s_1.2.2.2.2.2.1 rfl <|
    (ih x3 h2))
def J7_fill_d0a16 (p0 : Nat) (n0 : Nat) (v1 : Int64) (h : AH) : Option (Unit × AH) :=
    vl (Int32.ofNat n0) fun x1 =>
    J7_fill_d0a16_l6 p0 n0 v1 x1 FU 0 h
set_option maxRecDepth 100000 in
theorem c_J7_fill_d0a16 (l : Launch) (Z : Stc) (p0 : Nat) (n0 : Nat) (t0 : Nat) (hA0 : Z.1[p0]? = some (.inl (t0, 1, n0))) (hT0 : Z.2.2.2[t0]? = some .long) (v1 : Int64) : MC l yJ7_fill_d0a16 cJ7_fill_d0a16 5 none rmJ7_fill_d0a16 Z [.ref p0, .long v1] rvV (J7_fill_d0a16 p0 n0 v1) :=
  MC.of (own := RJ7) pn_RJ7 rfl (Nat.le_of_ble_eq_true rfl) fun X yd A h _ C =>
    aw_iconst (pc := 0) C (v := 0) dK_s_0.1 rfl <|
    aw_istore_n (pc := 1) C (i := 3) (lv' := [(0, .ref p0), (1, .long v1), (3, .int 0)]) dK_s_0.2.1 rfl (by decide) rfl <|
    aw_aload_n (pc := 2) C (i := 0) dK_s_0.2.2.1 rfl rfl <|
    aw_alenI (pc := 3) C (v := (Int32.ofNat n0)) (by decide) dK_s_0.2.2.2.1 hA0 hT0 rfl <|
    aw_istoreV (pc := 4) C (i := 4) (fun x1 => [(0, .ref p0), (1, .long v1), (3, .int 0), (4, .int x1)]) dK_s_0.2.2.2.2.1 (by decide) (fun _ => rfl) fun x1 =>
    (aJ7_fill_d0a16_l6 C Z p0 n0 t0 hA0 hT0 v1 x1 FU 0 h)

abbrev rmX1_spreadLast : Room := { frames := 3, cells := 0, slots := 0, locals := 74 }
def X1_spreadLast_j140 (p1 : Nat) (v2 : Int32) (v3 : Int32) (v4 : Int32) (v5 : Int32) (v6 : Int64) (v8 : Int32) (K7 : Int32 → AH → Option (Unit × AH)) (h : AH) : Option (Unit × AH) :=
    vl (v8 + 1) fun x8 =>
    K7 x8 h
set_option maxRecDepth 100000 in
theorem aX1_spreadLast_j140 {X : MCx} {yd : Dyn} {A : Nat → Prop} (C : OK X cX1_spreadLast RX1 13 none rmX1_spreadLast A) (p1 : Nat) (hJ1 : ZC.1[p1]? = some (.inr 2)) (v2 : Int32) (v3 : Int32) (v4 : Int32) (v5 : Int32) (v6 : Int64) (v8 : Int32) (K7 : Int32 → AH → Option (Unit × AH)) (hK7 : ∀ (w8 : Int32) (h : AH), AW X 13 ZC yd A 0 0 (QF X rmX1_spreadLast ZC yd rvV A) 7 [(0, .ref 8), (1, .ref p1), (2, .int v2), (3, .int v3), (4, .int v4), (5, .int v5), (6, .long v6), (8, .int w8)] [] h (K7 w8 h)) (h : AH) : AW X 13 ZC yd A 0 0 (QF X rmX1_spreadLast ZC yd rvV A) 140 [(0, .ref 8), (1, .ref p1), (2, .int v2), (3, .int v3), (4, .int v4), (5, .int v5), (6, .long v6), (8, .int v8)] [] h (X1_spreadLast_j140 p1 v2 v3 v4 v5 v6 v8 K7 h) := by
    exact aw_iincV (pc := 140) C (i := 8) (cst := 1) (fun x8 => [(0, .ref 8), (1, .ref p1), (2, .int v2), (3, .int v3), (4, .int v4), (5, .int v5), (6, .long v6), (8, .int x8)]) dK_s_46.2.2.1 rfl rfl (by decide) (fun _ => rfl) fun x8 =>
    aw_goto (pc := 143) C (tgt := 7) dK_s_46.2.2.2.1 rfl <|
    (hK7 x8 h)
def X1_spreadLast_j111 (p1 : Nat) (v2 : Int32) (v3 : Int32) (v4 : Int32) (v5 : Int32) (v6 : Int64) (v8 : Int32) (v9 : Int64) (v12 : Int32) (K7 : Int32 → AH → Option (Unit × AH)) (s0 : Int64) (s1 : Int64) (h : AH) : Option (Unit × AH) :=
    vl (sL h 8 4 (s1 + s0)) fun h7 =>
    if v12 < 0 then (X1_spreadLast_j140 p1 v2 v3 v4 v5 v6 v8 K7 h7)
    else (if 999 < v12 then (X1_spreadLast_j140 p1 v2 v3 v4 v5 v6 v8 K7 h7)
    else (ck v12 1000 (ck v12 1000 (vl (sL h7 31 v12.toNatClampNeg ((h7.2.1 31 v12.toNatClampNeg) + v9)) fun h9 =>
    X1_spreadLast_j140 p1 v2 v3 v4 v5 v6 v8 K7 h9))))
set_option maxRecDepth 100000 in
theorem aX1_spreadLast_j111 {X : MCx} {yd : Dyn} {A : Nat → Prop} (C : OK X cX1_spreadLast RX1 13 none rmX1_spreadLast A) (p1 : Nat) (hJ1 : ZC.1[p1]? = some (.inr 2)) (v2 : Int32) (v3 : Int32) (v4 : Int32) (v5 : Int32) (v6 : Int64) (v8 : Int32) (v9 : Int64) (v12 : Int32) (K7 : Int32 → AH → Option (Unit × AH)) (hK7 : ∀ (w8 : Int32) (h : AH), AW X 13 ZC yd A 0 0 (QF X rmX1_spreadLast ZC yd rvV A) 7 [(0, .ref 8), (1, .ref p1), (2, .int v2), (3, .int v3), (4, .int v4), (5, .int v5), (6, .long v6), (8, .int w8)] [] h (K7 w8 h)) (s0 : Int64) (s1 : Int64) (h : AH) : AW X 13 ZC yd A 0 0 (QF X rmX1_spreadLast ZC yd rvV A) 111 [(0, .ref 8), (1, .ref p1), (2, .int v2), (3, .int v3), (4, .int v4), (5, .int v5), (6, .long v6), (8, .int v8), (9, .long v9), (12, .int v12)] [.long s0, .long s1, .ref 8] h (X1_spreadLast_j111 p1 v2 v3 v4 v5 v6 v8 v9 v12 K7 s0 s1 h) := by
    exact aw_ladd (pc := 111) C dK_s_44.2.2.2.1 <|
    aw_putL (pc := 112) C dK_s_44.2.2.2.2.1 fp_X1_35 sC_8 rfl fun h7 =>
    aw_iload (pc := 115) C (i := 12) dK_s_44.2.2.2.2.2.1 rfl <|
    aw_if_lt (pc := 117) C (tgt := 140) dK_s_44.2.2.2.2.2.2.1 rfl (fun _ =>
    aw_drop [0, 1, 2, 3, 4, 5, 6, 7] (aX1_spreadLast_j140 C p1 hJ1 v2 v3 v4 v5 v6 v8 K7 hK7 h7)) (fun _ =>
    aw_iload (pc := 120) C (i := 12) dK_s_44.2.2.2.2.2.2.2.1 rfl <|
    aw_sipush (pc := 122) C (v := 999) dK_s_45.1 rfl <|
    aw_icmp_gt (pc := 125) C (tgt := 140) dK_s_45.2.1 rfl (fun _ =>
    aw_drop [0, 1, 2, 3, 4, 5, 6, 7] (aX1_spreadLast_j140 C p1 hJ1 v2 v3 v4 v5 v6 v8 K7 hK7 h7)) (fun _ =>
    aw_aload_n (pc := 128) C (i := 0) dK_s_45.2.2.1 rfl rfl <|
    aw_getR (pc := 129) C (b := 31) dK_s_45.2.2.2.1 fl_X1_16 sC_8 rfl rC_8_1 <|
    aw_iload (pc := 132) C (i := 12) dK_s_45.2.2.2.2.1 rfl <|
    aw_dup2 (pc := 134) C dK_s_45.2.2.2.2.2.1 rfl rfl <|
    aw_lald (pc := 135) C dK_s_45.2.2.2.2.2.2.1 sC_31 rfl <|
    aw_lload (pc := 136) C (i := 9) dK_s_45.2.2.2.2.2.2.2.1 rfl <|
    aw_ladd (pc := 138) C dK_s_46.1 <|
    aw_last (pc := 139) C dK_s_46.2.1 sC_31 rfl fun h9 =>
    aw_drop [0, 1, 2, 3, 4, 5, 6, 7] (aX1_spreadLast_j140 C p1 hJ1 v2 v3 v4 v5 v6 v8 K7 hK7 h9)))
def X1_spreadLast_j89 (p1 : Nat) (v2 : Int32) (v3 : Int32) (v4 : Int32) (v5 : Int32) (v6 : Int64) (v8 : Int32) (v9 : Int64) (v11 : Int32) (v12 : Int32) (K7 : Int32 → AH → Option (Unit × AH)) (s0 : Int64) (s1 : Int64) (h : AH) : Option (Unit × AH) :=
    vl (sL h 8 3 (s1 + s0)) fun h6 =>
    if v11 = v5 then (X1_spreadLast_j111 p1 v2 v3 v4 v5 v6 v8 v9 v12 K7 v9 (h6.2.1 8 4) h6)
    else (X1_spreadLast_j111 p1 v2 v3 v4 v5 v6 v8 v9 v12 K7 0 (h6.2.1 8 4) h6)
set_option maxRecDepth 100000 in
theorem aX1_spreadLast_j89 {X : MCx} {yd : Dyn} {A : Nat → Prop} (C : OK X cX1_spreadLast RX1 13 none rmX1_spreadLast A) (p1 : Nat) (hJ1 : ZC.1[p1]? = some (.inr 2)) (v2 : Int32) (v3 : Int32) (v4 : Int32) (v5 : Int32) (v6 : Int64) (v8 : Int32) (v9 : Int64) (v11 : Int32) (v12 : Int32) (K7 : Int32 → AH → Option (Unit × AH)) (hK7 : ∀ (w8 : Int32) (h : AH), AW X 13 ZC yd A 0 0 (QF X rmX1_spreadLast ZC yd rvV A) 7 [(0, .ref 8), (1, .ref p1), (2, .int v2), (3, .int v3), (4, .int v4), (5, .int v5), (6, .long v6), (8, .int w8)] [] h (K7 w8 h)) (s0 : Int64) (s1 : Int64) (h : AH) : AW X 13 ZC yd A 0 0 (QF X rmX1_spreadLast ZC yd rvV A) 89 [(0, .ref 8), (1, .ref p1), (2, .int v2), (3, .int v3), (4, .int v4), (5, .int v5), (6, .long v6), (8, .int v8), (9, .long v9), (11, .int v11), (12, .int v12)] [.long s0, .long s1, .ref 8] h (X1_spreadLast_j89 p1 v2 v3 v4 v5 v6 v8 v9 v11 v12 K7 s0 s1 h) := by
    exact aw_ladd (pc := 89) C dK_s_43.1 <|
    aw_putL (pc := 90) C dK_s_43.2.1 fp_X1_32 sC_8 rfl fun h6 =>
    aw_aload_n (pc := 93) C (i := 0) dK_s_43.2.2.1 rfl rfl <|
    aw_dup (pc := 94) C dK_s_43.2.2.2.1 rfl <|
    aw_getL (pc := 95) C dK_s_43.2.2.2.2.1 fl_X1_35 sC_8 rfl <|
    aw_iload (pc := 98) C (i := 11) dK_s_43.2.2.2.2.2.1 rfl <|
    aw_iload (pc := 100) C (i := 5) dK_s_43.2.2.2.2.2.2.1 rfl <|
    aw_icmp_ne (pc := 102) C (tgt := 110) dK_s_43.2.2.2.2.2.2.2.1 rfl (fun _ =>
    aw_lload (pc := 105) C (i := 9) dK_s_44.1 rfl <|
    aw_goto (pc := 107) C (tgt := 111) dK_s_44.2.1 rfl <|
    aw_drop [0, 1, 2, 3, 4, 5, 6, 7, 8, 10] (aX1_spreadLast_j111 C p1 hJ1 v2 v3 v4 v5 v6 v8 v9 v12 K7 hK7 v9 (h6.2.1 8 4) h6)) (fun _ =>
    aw_lconst (pc := 110) C (v := 0) dK_s_44.2.2.1 rfl <|
    aw_drop [0, 1, 2, 3, 4, 5, 6, 7, 8, 10] (aX1_spreadLast_j111 C p1 hJ1 v2 v3 v4 v5 v6 v8 v9 v12 K7 hK7 0 (h6.2.1 8 4) h6))
def X1_spreadLast_j71 (p1 : Nat) (v2 : Int32) (v3 : Int32) (v4 : Int32) (v5 : Int32) (v6 : Int64) (v8 : Int32) (v9 : Int64) (v11 : Int32) (K7 : Int32 → AH → Option (Unit × AH)) (s0 : Int32) (h : AH) : Option (Unit × AH) :=
    if 0 ≤ v11 then (X1_spreadLast_j89 p1 v2 v3 v4 v5 v6 v8 v9 v11 s0 K7 0 (h.2.1 8 3) h)
    else (X1_spreadLast_j89 p1 v2 v3 v4 v5 v6 v8 v9 v11 s0 K7 v9 (h.2.1 8 3) h)
set_option maxRecDepth 100000 in
theorem aX1_spreadLast_j71 {X : MCx} {yd : Dyn} {A : Nat → Prop} (C : OK X cX1_spreadLast RX1 13 none rmX1_spreadLast A) (p1 : Nat) (hJ1 : ZC.1[p1]? = some (.inr 2)) (v2 : Int32) (v3 : Int32) (v4 : Int32) (v5 : Int32) (v6 : Int64) (v8 : Int32) (v9 : Int64) (v11 : Int32) (K7 : Int32 → AH → Option (Unit × AH)) (hK7 : ∀ (w8 : Int32) (h : AH), AW X 13 ZC yd A 0 0 (QF X rmX1_spreadLast ZC yd rvV A) 7 [(0, .ref 8), (1, .ref p1), (2, .int v2), (3, .int v3), (4, .int v4), (5, .int v5), (6, .long v6), (8, .int w8)] [] h (K7 w8 h)) (s0 : Int32) (h : AH) : AW X 13 ZC yd A 0 0 (QF X rmX1_spreadLast ZC yd rvV A) 71 [(0, .ref 8), (1, .ref p1), (2, .int v2), (3, .int v3), (4, .int v4), (5, .int v5), (6, .long v6), (8, .int v8), (9, .long v9), (11, .int v11)] [.int s0] h (X1_spreadLast_j71 p1 v2 v3 v4 v5 v6 v8 v9 v11 K7 s0 h) := by
    exact aw_istore (pc := 71) C (i := 12) (lv' := [(0, .ref 8), (1, .ref p1), (2, .int v2), (3, .int v3), (4, .int v4), (5, .int v5), (6, .long v6), (8, .int v8), (9, .long v9), (11, .int v11), (12, .int s0)]) dK_s_41.2.2.2.2.2.2.2.1 (by decide) rfl <|
    aw_aload_n (pc := 73) C (i := 0) dK_s_42.1 rfl rfl <|
    aw_dup (pc := 74) C dK_s_42.2.1 rfl <|
    aw_getL (pc := 75) C dK_s_42.2.2.1 fl_X1_32 sC_8 rfl <|
    aw_iload (pc := 78) C (i := 11) dK_s_42.2.2.2.1 rfl <|
    aw_if_ge (pc := 80) C (tgt := 88) dK_s_42.2.2.2.2.1 rfl (fun _ =>
    aw_lconst (pc := 88) C (v := 0) dK_s_42.2.2.2.2.2.2.2.1 rfl <|
    (aX1_spreadLast_j89 C p1 hJ1 v2 v3 v4 v5 v6 v8 v9 v11 s0 K7 hK7 0 (h.2.1 8 3) h)) (fun _ =>
    aw_lload (pc := 83) C (i := 9) dK_s_42.2.2.2.2.2.1 rfl <|
    aw_goto (pc := 85) C (tgt := 89) dK_s_42.2.2.2.2.2.2.1 rfl <|
    (aX1_spreadLast_j89 C p1 hJ1 v2 v3 v4 v5 v6 v8 v9 v11 s0 K7 hK7 v9 (h.2.1 8 3) h))
def X1_spreadLast_l7 (p1 : Nat) (v2 : Int32) (v3 : Int32) (v4 : Int32) (v5 : Int32) (v6 : Int64) : Nat → Int32 → AH → Option (Unit × AH)
  | 0, _, _ => none
  | n + 1, v8, h =>
    if (h.1 p1 7) < v8 then (some ((), h))
    else (ck (h.1 p1 7) 21 (ck ((h.1 p1 7) + v8) 41 (vl (v6 * (h.2.1 (10 + (h.1 p1 7).toNatClampNeg % 21) ((h.1 p1 7) + v8).toNatClampNeg)) fun x2 =>
    vl (v3 - ((h.1 p1 5) * v8)) fun x3 =>
    if 0 ≤ x3 then (bd (kd (h.2.2 p1) (X3_lengthOf p1 x3 v4 v2 h) (X7_lengthOf p1 x3 v4 v2 h) (X0_lengthOf p1 x3 v4 v2 h) (X7_lengthOf p1 x3 v4 v2 h) (X9_lengthOf p1 x3 v4 v2 h) (X8_lengthOf p1 x3 v4 v2 h)) fun r4 h5 =>
    X1_spreadLast_j71 p1 v2 v3 v4 v5 v6 v8 x2 x3 (X1_spreadLast_l7 p1 v2 v3 v4 v5 v6 n) r4 h5)
    else (X1_spreadLast_j71 p1 v2 v3 v4 v5 v6 v8 x2 x3 (X1_spreadLast_l7 p1 v2 v3 v4 v5 v6 n) 0 h))))
set_option maxRecDepth 100000 in
theorem aX1_spreadLast_l7 {X : MCx} {yd : Dyn} {A : Nat → Prop} (C : OK X cX1_spreadLast RX1 13 none rmX1_spreadLast A) (p1 : Nat) (hJ1 : ZC.1[p1]? = some (.inr 2)) (v2 : Int32) (v3 : Int32) (v4 : Int32) (v5 : Int32) (v6 : Int64) : ∀ (n : Nat) (v8 : Int32) (h : AH), AW X 13 ZC yd A 0 0 (QF X rmX1_spreadLast ZC yd rvV A) 7 [(0, .ref 8), (1, .ref p1), (2, .int v2), (3, .int v3), (4, .int v4), (5, .int v5), (6, .long v6), (8, .int v8)] [] h (X1_spreadLast_l7 p1 v2 v3 v4 v5 v6 n v8 h) := by
  intro n
  induction n with
  | zero => intro v8 h; exact aw_none
  | succ n ih =>
    intro v8 h
    exact aw_iload (pc := 7) C (i := 8) dK_s_37.2.2.2.2.1 rfl <|
    aw_aload_n (pc := 9) C (i := 1) dK_s_37.2.2.2.2.2.1 rfl rfl <|
    aw_getI (pc := 10) C dK_s_37.2.2.2.2.2.2.1 fl_X1_38 hJ1 rfl <|
    aw_icmp_gt (pc := 13) C (tgt := 146) dK_s_37.2.2.2.2.2.2.2.1 rfl (fun _ =>
    aw_vret (pc := 146) C dK_s_46.2.2.2.2.1 rfl rfl) (fun _ =>
    aw_lload (pc := 16) C (i := 6) dK_s_38.1 rfl <|
    aw_aload_n (pc := 18) C (i := 0) dK_s_38.2.1 rfl rfl <|
    aw_getR (pc := 19) C (b := 9) dK_s_38.2.2.1 fl_X1_11 sC_8 rfl rC_8_0 <|
    aw_aload_n (pc := 22) C (i := 1) dK_s_38.2.2.2.1 rfl rfl <|
    aw_getI (pc := 23) C dK_s_38.2.2.2.2.1 fl_X1_38 hJ1 rfl <|
    aw_aald (pc := 26) C (b := (10 + (h.1 p1 7).toNatClampNeg % 21)) dK_s_38.2.2.2.2.2.1 sC_9 rfl rfl (rC_9 _) <|
    aw_aload_n (pc := 27) C (i := 1) dK_s_38.2.2.2.2.2.2.1 rfl rfl <|
    aw_getI (pc := 28) C dK_s_38.2.2.2.2.2.2.2.1 fl_X1_38 hJ1 rfl <|
    aw_iload (pc := 31) C (i := 8) dK_s_39.1 rfl <|
    aw_iadd (pc := 33) C dK_s_39.2.1 <|
    aw_lald (pc := 34) C dK_s_39.2.2.1 (sC_way _) rfl <|
    aw_lmul (pc := 35) C dK_s_39.2.2.2.1 <|
    aw_lstoreV (pc := 36) C (i := 9) (fun x2 => [(0, .ref 8), (1, .ref p1), (2, .int v2), (3, .int v3), (4, .int v4), (5, .int v5), (6, .long v6), (8, .int v8), (9, .long x2)]) dK_s_39.2.2.2.2.1 (by decide) (fun _ => rfl) fun x2 =>
    aw_iload_n (pc := 38) C (i := 3) dK_s_39.2.2.2.2.2.1 rfl rfl <|
    aw_aload_n (pc := 39) C (i := 1) dK_s_39.2.2.2.2.2.2.1 rfl rfl <|
    aw_getI (pc := 40) C dK_s_39.2.2.2.2.2.2.2.1 fl_X1_54 hJ1 rfl <|
    aw_iload (pc := 43) C (i := 8) dK_s_40.1 rfl <|
    aw_imul (pc := 45) C dK_s_40.2.1 <|
    aw_isub (pc := 46) C dK_s_40.2.2.1 <|
    aw_istoreV (pc := 47) C (i := 11) (fun x3 => [(0, .ref 8), (1, .ref p1), (2, .int v2), (3, .int v3), (4, .int v4), (5, .int v5), (6, .long v6), (8, .int v8), (9, .long x2), (11, .int x3)]) dK_s_40.2.2.2.1 (by decide) (fun _ => rfl) fun x3 =>
    aw_iload (pc := 49) C (i := 11) dK_s_40.2.2.2.2.1 rfl <|
    aw_if_ge (pc := 51) C (tgt := 58) dK_s_40.2.2.2.2.2.1 rfl (fun _ =>
    aw_aload_n (pc := 58) C (i := 1) dK_s_41.1 rfl rfl <|
    aw_getW (pc := 59) C (b := (36 + h.2.2 p1 % 6)) dK_s_41.2.1 fl_X1_44 hJ1 rfl rfl <|
    aw_aload_n (pc := 62) C (i := 1) dK_s_41.2.2.1 rfl rfl <|
    aw_iload (pc := 63) C (i := 11) dK_s_41.2.2.2.1 rfl <|
    aw_iload (pc := 65) C (i := 4) dK_s_41.2.2.2.2.1 rfl <|
    aw_iload_n (pc := 67) C (i := 2) dK_s_41.2.2.2.2.2.1 rfl rfl <|
    aw_callF (pc := 68) C (kdA_lengthOf C dK_s_41.2.2.2.2.2.2.1 ml_X1_67 (h.2.2 p1) p1 hJ1 x3 v4 v2 [] ⟨⟨(Nat.le_of_ble_eq_true rfl), (Nat.le_of_ble_eq_true rfl)⟩, ⟨(Nat.le_of_ble_eq_true rfl), (Nat.le_of_ble_eq_true rfl)⟩, ⟨(Nat.le_of_ble_eq_true rfl), (Nat.le_of_ble_eq_true rfl)⟩, ⟨(Nat.le_of_ble_eq_true rfl), (Nat.le_of_ble_eq_true rfl)⟩, ⟨(Nat.le_of_ble_eq_true rfl), (Nat.le_of_ble_eq_true rfl)⟩, ⟨(Nat.le_of_ble_eq_true rfl), (Nat.le_of_ble_eq_true rfl)⟩⟩ (Nat.le_of_ble_eq_true rfl)) rfl rfl rfl (Nat.zero_le _) (Nat.zero_le _) fun r4 h5 =>
    (aX1_spreadLast_j71 C p1 hJ1 v2 v3 v4 v5 v6 v8 x2 x3 (X1_spreadLast_l7 p1 v2 v3 v4 v5 v6 n) ih r4 h5)) (fun _ =>
    aw_iconst (pc := 54) C (v := 0) dK_s_40.2.2.2.2.2.2.1 rfl <|
    aw_goto (pc := 55) C (tgt := 71) dK_s_40.2.2.2.2.2.2.2.1 rfl <|
    (aX1_spreadLast_j71 C p1 hJ1 v2 v3 v4 v5 v6 v8 x2 x3 (X1_spreadLast_l7 p1 v2 v3 v4 v5 v6 n) ih 0 h)))
def X1_spreadLast (p1 : Nat) (v2 : Int32) (v3 : Int32) (v4 : Int32) (v5 : Int32) (v6 : Int64) (h : AH) : Option (Unit × AH) :=
    vl (-(h.1 p1 7)) fun x1 =>
    X1_spreadLast_l7 p1 v2 v3 v4 v5 v6 FU x1 h
set_option maxRecDepth 100000 in
theorem c_X1_spreadLast (l : Launch) (p1 : Nat) (hJ1 : ZC.1[p1]? = some (.inr 2)) (v2 : Int32) (v3 : Int32) (v4 : Int32) (v5 : Int32) (v6 : Int64) : MC l yX1_spreadLast cX1_spreadLast 13 none rmX1_spreadLast ZC [.ref 8, .ref p1, .int v2, .int v3, .int v4, .int v5, .long v6] rvV (X1_spreadLast p1 v2 v3 v4 v5 v6) :=
  MC.of (own := RX1) pn_RX1 rfl (Nat.le_of_ble_eq_true rfl) fun X yd A h _ C =>
    aw_aload_n (pc := 0) C (i := 1) dK_s_37.1 rfl rfl <|
    aw_getI (pc := 1) C dK_s_37.2.1 fl_X1_38 hJ1 rfl <|
    aw_ineg (pc := 4) C dK_s_37.2.2.1 <|
    aw_istoreV (pc := 5) C (i := 8) (fun x1 => [(0, .ref 8), (1, .ref p1), (2, .int v2), (3, .int v3), (4, .int v4), (5, .int v5), (6, .long v6), (8, .int x1)]) dK_s_37.2.2.2.1 (by decide) (fun _ => rfl) fun x1 =>
    (aX1_spreadLast_l7 C p1 hJ1 v2 v3 v4 v5 v6 FU x1 h)

abbrev rmX1_spread : Room := { frames := 4, cells := 0, slots := 0, locals := 106 }
def X1_spread_j114 (p1 : Nat) (v3 : Int32) (v4 : Int32) (v5 : Int32) (v6 : Int32) (v7 : Int32) (v8 : Int32) (v9 : Int32) (K77 : Int32 → AH → Option (Unit × AH)) (s0 : Int32) (h : AH) : Option (Unit × AH) :=
    ck v6 21 (ck (v6 + v8) 41 (bd (X1_spreadLast p1 v3 (v9 - s0) ((ab32 s0) / 4) v5 (h.2.1 (10 + v6.toNatClampNeg % 21) (v6 + v8).toNatClampNeg) h) fun _ h12 =>
    vl (v8 + 1) fun x13 =>
    K77 x13 h12))
set_option maxRecDepth 100000 in
theorem aX1_spread_j114 {X : MCx} {yd : Dyn} {A : Nat → Prop} (C : OK X cX1_spread RX1 11 none rmX1_spread A) (p1 : Nat) (hJ1 : ZC.1[p1]? = some (.inr 2)) (v3 : Int32) (v4 : Int32) (v5 : Int32) (v6 : Int32) (v7 : Int32) (v8 : Int32) (v9 : Int32) (K77 : Int32 → AH → Option (Unit × AH)) (hK77 : ∀ (w8 : Int32) (h : AH), AW X 11 ZC yd A 0 0 (QF X rmX1_spread ZC yd rvV A) 77 [(0, .ref 8), (1, .ref p1), (3, .int v3), (4, .int v4), (5, .int v5), (6, .int v6), (7, .int v7), (8, .int w8)] [] h (K77 w8 h)) (s0 : Int32) (h : AH) : AW X 11 ZC yd A 0 0 (QF X rmX1_spread ZC yd rvV A) 114 [(0, .ref 8), (1, .ref p1), (3, .int v3), (4, .int v4), (5, .int v5), (6, .int v6), (7, .int v7), (8, .int v8), (9, .int v9)] [.int s0] h (X1_spread_j114 p1 v3 v4 v5 v6 v7 v8 v9 K77 s0 h) := by
    exact aw_istore (pc := 114) C (i := 10) (lv' := [(0, .ref 8), (1, .ref p1), (3, .int v3), (4, .int v4), (5, .int v5), (6, .int v6), (7, .int v7), (8, .int v8), (9, .int v9), (10, .int s0)]) dK_s_33.2.2.2.2.2.2.2.1 (by decide) rfl <|
    aw_aload_n (pc := 116) C (i := 0) dK_s_34.1 rfl rfl <|
    aw_aload_n (pc := 117) C (i := 1) dK_s_34.2.1 rfl rfl <|
    aw_iload_n (pc := 118) C (i := 3) dK_s_34.2.2.1 rfl rfl <|
    aw_iload (pc := 119) C (i := 9) dK_s_34.2.2.2.1 rfl <|
    aw_iload (pc := 121) C (i := 10) dK_s_34.2.2.2.2.1 rfl <|
    aw_isub (pc := 123) C dK_s_34.2.2.2.2.2.1 <|
    aw_iload (pc := 124) C (i := 10) dK_s_34.2.2.2.2.2.2.1 rfl <|
    aw_mabs (pc := 126) C dK_s_34.2.2.2.2.2.2.2.1 ml_X1_57 w_mabsS w_mI w_mabsC ⟨(Nat.le_of_ble_eq_true rfl), (Nat.le_of_ble_eq_true rfl)⟩ (Nat.zero_le _) (Nat.zero_le _) <|
    aw_iconst (pc := 129) C (v := 4) dK_s_35.1 rfl <|
    aw_idivK (pc := 130) C dK_s_35.2.1 (by decide) <|
    aw_iload (pc := 131) C (i := 5) dK_s_35.2.2.1 rfl <|
    aw_aload_n (pc := 133) C (i := 0) dK_s_35.2.2.2.1 rfl rfl <|
    aw_getR (pc := 134) C (b := 9) dK_s_35.2.2.2.2.1 fl_X1_11 sC_8 rfl rC_8_0 <|
    aw_iload (pc := 137) C (i := 6) dK_s_35.2.2.2.2.2.1 rfl <|
    aw_aald (pc := 139) C (b := (10 + v6.toNatClampNeg % 21)) dK_s_35.2.2.2.2.2.2.1 sC_9 rfl rfl (rC_9 _) <|
    aw_iload (pc := 140) C (i := 6) dK_s_35.2.2.2.2.2.2.2.1 rfl <|
    aw_iload (pc := 142) C (i := 8) dK_s_36.1 rfl <|
    aw_iadd (pc := 144) C dK_s_36.2.1 <|
    aw_lald (pc := 145) C dK_s_36.2.2.1 (sC_way _) rfl <|
    aw_callF (pc := 146) C (cr_V (rest := []) (F := (X1_spreadLast p1 v3 (v9 - s0) ((ab32 s0) / 4) v5 (h.2.1 (10 + v6.toNatClampNeg % 21) (v6 + v8).toNatClampNeg))) C (c_X1_spreadLast X.2.1 p1 hJ1 v3 (v9 - s0) ((ab32 s0) / 4) v5 (h.2.1 (10 + v6.toNatClampNeg % 21) (v6 + v8).toNatClampNeg)) dK_s_36.2.2.2.1 mf_X1_spreadLast ml_X1_63 im_X1_spreadLast se_X1_spreadLast sC_8 rfl ⟨(Nat.le_of_ble_eq_true rfl), (Nat.le_of_ble_eq_true rfl)⟩ rfl rfl (Nat.le_of_ble_eq_true rfl)) rfl rfl rfl (Nat.zero_le _) (Nat.zero_le _) fun _ h12 =>
    aw_iincV (pc := 149) C (i := 8) (cst := 1) (fun x13 => [(0, .ref 8), (1, .ref p1), (3, .int v3), (4, .int v4), (5, .int v5), (6, .int v6), (7, .int v7), (8, .int x13), (9, .int v9), (10, .int s0)]) dK_s_36.2.2.2.2.1 rfl rfl (by decide) (fun _ => rfl) fun x13 =>
    aw_goto (pc := 152) C (tgt := 77) dK_s_36.2.2.2.2.2.1 rfl <|
    aw_drop [0, 1, 2, 3, 4, 5, 6, 7] (hK77 x13 h12)
def X1_spread_l77 (p1 : Nat) (v3 : Int32) (v4 : Int32) (v5 : Int32) (v6 : Int32) (v7 : Int32) : Nat → Int32 → AH → Option (Unit × AH)
  | 0, _, _ => none
  | n + 1, v8, h =>
    if v6 < v8 then (some ((), h))
    else (vl (v4 - ((h.1 p1 5) * v8)) fun x10 =>
    if (h.1 p1 7) ≤ 0 then (X1_spread_j114 p1 v3 v4 v5 v6 v7 v8 x10 (X1_spread_l77 p1 v3 v4 v5 v6 v7 n) 0 h)
    else (X1_spread_j114 p1 v3 v4 v5 v6 v7 v8 x10 (X1_spread_l77 p1 v3 v4 v5 v6 v7 n) ((x10 - v7) / 2) h))
set_option maxRecDepth 100000 in
theorem aX1_spread_l77 {X : MCx} {yd : Dyn} {A : Nat → Prop} (C : OK X cX1_spread RX1 11 none rmX1_spread A) (p1 : Nat) (hJ1 : ZC.1[p1]? = some (.inr 2)) (v3 : Int32) (v4 : Int32) (v5 : Int32) (v6 : Int32) (v7 : Int32) : ∀ (n : Nat) (v8 : Int32) (h : AH), AW X 11 ZC yd A 0 0 (QF X rmX1_spread ZC yd rvV A) 77 [(0, .ref 8), (1, .ref p1), (3, .int v3), (4, .int v4), (5, .int v5), (6, .int v6), (7, .int v7), (8, .int v8)] [] h (X1_spread_l77 p1 v3 v4 v5 v6 v7 n v8 h) := by
  intro n
  induction n with
  | zero => intro v8 h; exact aw_none
  | succ n ih =>
    intro v8 h
    exact aw_iload (pc := 77) C (i := 8) dK_s_31.2.2.2.1 rfl <|
    aw_iload (pc := 79) C (i := 6) dK_s_31.2.2.2.2.1 rfl <|
    aw_icmp_gt (pc := 81) C (tgt := 155) dK_s_31.2.2.2.2.2.1 rfl (fun _ =>
    aw_vret (pc := 155) C dK_s_36.2.2.2.2.2.2.1 rfl rfl) (fun _ =>
    aw_iload (pc := 84) C (i := 4) dK_s_31.2.2.2.2.2.2.1 rfl <|
    aw_aload_n (pc := 86) C (i := 1) dK_s_31.2.2.2.2.2.2.2.1 rfl rfl <|
    aw_getI (pc := 87) C dK_s_32.1 fl_X1_54 hJ1 rfl <|
    aw_iload (pc := 90) C (i := 8) dK_s_32.2.1 rfl <|
    aw_imul (pc := 92) C dK_s_32.2.2.1 <|
    aw_isub (pc := 93) C dK_s_32.2.2.2.1 <|
    aw_istoreV (pc := 94) C (i := 9) (fun x10 => [(0, .ref 8), (1, .ref p1), (3, .int v3), (4, .int v4), (5, .int v5), (6, .int v6), (7, .int v7), (8, .int v8), (9, .int x10)]) dK_s_32.2.2.2.2.1 (by decide) (fun _ => rfl) fun x10 =>
    aw_aload_n (pc := 96) C (i := 1) dK_s_32.2.2.2.2.2.1 rfl rfl <|
    aw_getI (pc := 97) C dK_s_32.2.2.2.2.2.2.1 fl_X1_38 hJ1 rfl <|
    aw_if_le (pc := 100) C (tgt := 113) dK_s_32.2.2.2.2.2.2.2.1 rfl (fun _ =>
    aw_iconst (pc := 113) C (v := 0) dK_s_33.2.2.2.2.2.2.1 rfl <|
    (aX1_spread_j114 C p1 hJ1 v3 v4 v5 v6 v7 v8 x10 (X1_spread_l77 p1 v3 v4 v5 v6 v7 n) ih 0 h)) (fun _ =>
    aw_iload (pc := 103) C (i := 9) dK_s_33.1 rfl <|
    aw_iload (pc := 105) C (i := 7) dK_s_33.2.1 rfl <|
    aw_isub (pc := 107) C dK_s_33.2.2.1 <|
    aw_iconst (pc := 108) C (v := 2) dK_s_33.2.2.2.1 rfl <|
    aw_idivK (pc := 109) C dK_s_33.2.2.2.2.1 (by decide) <|
    aw_goto (pc := 110) C (tgt := 114) dK_s_33.2.2.2.2.2.1 rfl <|
    (aX1_spread_j114 C p1 hJ1 v3 v4 v5 v6 v7 v8 x10 (X1_spread_l77 p1 v3 v4 v5 v6 v7 n) ih ((x10 - v7) / 2) h)))
def X1_spread (p1 : Nat) (v2 : Int32) (v3 : Int32) (v4 : Int32) (v5 : Int32) (h : AH) : Option (Unit × AH) :=
    bd (J7_fill_d0a16 31 1000 0 h) fun _ h2 =>
    vl (sL h2 8 3 0) fun h3 =>
    vl (sL h3 8 4 0) fun h4 =>
    vl (v2 - (h4.1 p1 7)) fun x5 =>
    if x5 < 0 then (some ((), h4))
    else (if 20 < v2 then (some ((), h4))
    else (if (h4.1 p1 7) < 0 then (some ((), h4))
    else (if (h4.1 p1 7) ≤ 4 then (vl (sL h4 8 2 (shl64 1 (2 * v2))) fun h6 =>
    bd (kd (h6.2.2 p1) (X3_aimOf p1 h6) (X7_aimOf p1 h6) (X0_aimOf p1 h6) (X4_aimOf p1 h6) (X0_aimOf p1 h6) (X8_aimOf p1 h6)) fun r7 h8 =>
    vl (-x5) fun x9 =>
    X1_spread_l77 p1 v3 v4 v5 x5 r7 FU x9 h8)
    else (some ((), h4)))))
set_option maxRecDepth 100000 in
theorem c_X1_spread (l : Launch) (p1 : Nat) (hJ1 : ZC.1[p1]? = some (.inr 2)) (v2 : Int32) (v3 : Int32) (v4 : Int32) (v5 : Int32) : MC l yX1_spread cX1_spread 11 none rmX1_spread ZC [.ref 8, .ref p1, .int v2, .int v3, .int v4, .int v5] rvV (X1_spread p1 v2 v3 v4 v5) :=
  MC.of (own := RX1) pn_RX1 rfl (Nat.le_of_ble_eq_true rfl) fun X yd A h _ C =>
    aw_aload_n (pc := 0) C (i := 0) dK_s_26.1 rfl rfl <|
    aw_getR (pc := 1) C (b := 31) dK_s_26.2.1 fl_X1_16 sC_8 rfl rC_8_1 <|
    aw_lconst (pc := 4) C (v := 0) dK_s_26.2.2.1 rfl <|
    aw_callF (pc := 5) C (cr_S (rest := []) (F := (J7_fill_d0a16 31 1000 0)) C (c_J7_fill_d0a16 X.2.1 ZC 31 1000 1 sC_31 rfl 0) dK_s_26.2.2.2.1 mf_J7_fill_d0a16 ml_X1_26 st_J7_fill_d0a16 ⟨(Nat.le_of_ble_eq_true rfl), (Nat.le_of_ble_eq_true rfl)⟩ rfl rfl (Nat.le_of_ble_eq_true rfl)) rfl rfl rfl (Nat.zero_le _) (Nat.zero_le _) fun _ h2 =>
    aw_aload_n (pc := 8) C (i := 0) dK_s_26.2.2.2.2.1 rfl rfl <|
    aw_lconst (pc := 9) C (v := 0) dK_s_26.2.2.2.2.2.1 rfl <|
    aw_putL (pc := 10) C dK_s_26.2.2.2.2.2.2.1 fp_X1_32 sC_8 rfl fun h3 =>
    aw_aload_n (pc := 13) C (i := 0) dK_s_26.2.2.2.2.2.2.2.1 rfl rfl <|
    aw_lconst (pc := 14) C (v := 0) dK_s_27.1 rfl <|
    aw_putL (pc := 15) C dK_s_27.2.1 fp_X1_35 sC_8 rfl fun h4 =>
    aw_iload_n (pc := 18) C (i := 2) dK_s_27.2.2.1 rfl rfl <|
    aw_aload_n (pc := 19) C (i := 1) dK_s_27.2.2.2.1 rfl rfl <|
    aw_getI (pc := 20) C dK_s_27.2.2.2.2.1 fl_X1_38 hJ1 rfl <|
    aw_isub (pc := 23) C dK_s_27.2.2.2.2.2.1 <|
    aw_istoreV (pc := 24) C (i := 6) (fun x5 => [(0, .ref 8), (1, .ref p1), (2, .int v2), (3, .int v3), (4, .int v4), (5, .int v5), (6, .int x5)]) dK_s_27.2.2.2.2.2.2.1 (by decide) (fun _ => rfl) fun x5 =>
    aw_iload (pc := 26) C (i := 6) dK_s_27.2.2.2.2.2.2.2.1 rfl <|
    aw_if_lt (pc := 28) C (tgt := 52) dK_s_28.1 rfl (fun _ =>
    aw_vret (pc := 52) C dK_s_29.2.2.2.1 rfl rfl) (fun _ =>
    aw_iload_n (pc := 31) C (i := 2) dK_s_28.2.1 rfl rfl <|
    aw_bipush (pc := 32) C (v := 20) dK_s_28.2.2.1 rfl <|
    aw_icmp_gt (pc := 34) C (tgt := 52) dK_s_28.2.2.2.1 rfl (fun _ =>
    aw_vret (pc := 52) C dK_s_29.2.2.2.1 rfl rfl) (fun _ =>
    aw_aload_n (pc := 37) C (i := 1) dK_s_28.2.2.2.2.1 rfl rfl <|
    aw_getI (pc := 38) C dK_s_28.2.2.2.2.2.1 fl_X1_38 hJ1 rfl <|
    aw_if_lt (pc := 41) C (tgt := 52) dK_s_28.2.2.2.2.2.2.1 rfl (fun _ =>
    aw_vret (pc := 52) C dK_s_29.2.2.2.1 rfl rfl) (fun _ =>
    aw_aload_n (pc := 44) C (i := 1) dK_s_28.2.2.2.2.2.2.2.1 rfl rfl <|
    aw_getI (pc := 45) C dK_s_29.1 fl_X1_38 hJ1 rfl <|
    aw_iconst (pc := 48) C (v := 4) dK_s_29.2.1 rfl <|
    aw_icmp_le (pc := 49) C (tgt := 53) dK_s_29.2.2.1 rfl (fun _ =>
    aw_aload_n (pc := 53) C (i := 0) dK_s_29.2.2.2.2.1 rfl rfl <|
    aw_lconst (pc := 54) C (v := 1) dK_s_29.2.2.2.2.2.1 rfl <|
    aw_iconst (pc := 55) C (v := 2) dK_s_29.2.2.2.2.2.2.1 rfl <|
    aw_iload_n (pc := 56) C (i := 2) dK_s_29.2.2.2.2.2.2.2.1 rfl rfl <|
    aw_imul (pc := 57) C dK_s_30.1 <|
    aw_lshl (pc := 58) C dK_s_30.2.1 <|
    aw_putL (pc := 59) C dK_s_30.2.2.1 fp_X1_20 sC_8 rfl fun h6 =>
    aw_aload_n (pc := 62) C (i := 1) dK_s_30.2.2.2.1 rfl rfl <|
    aw_getW (pc := 63) C (b := (36 + h6.2.2 p1 % 6)) dK_s_30.2.2.2.2.1 fl_X1_44 hJ1 rfl rfl <|
    aw_aload_n (pc := 66) C (i := 1) dK_s_30.2.2.2.2.2.1 rfl rfl <|
    aw_callF (pc := 67) C (kdA_aimOf C dK_s_30.2.2.2.2.2.2.1 ml_X1_48 (h6.2.2 p1) p1 hJ1  [] ⟨⟨(Nat.le_of_ble_eq_true rfl), (Nat.le_of_ble_eq_true rfl)⟩, ⟨(Nat.le_of_ble_eq_true rfl), (Nat.le_of_ble_eq_true rfl)⟩, ⟨(Nat.le_of_ble_eq_true rfl), (Nat.le_of_ble_eq_true rfl)⟩, ⟨(Nat.le_of_ble_eq_true rfl), (Nat.le_of_ble_eq_true rfl)⟩, ⟨(Nat.le_of_ble_eq_true rfl), (Nat.le_of_ble_eq_true rfl)⟩, ⟨(Nat.le_of_ble_eq_true rfl), (Nat.le_of_ble_eq_true rfl)⟩⟩ (Nat.le_of_ble_eq_true rfl)) rfl rfl rfl (Nat.zero_le _) (Nat.zero_le _) fun r7 h8 =>
    aw_istore (pc := 70) C (i := 7) (lv' := [(0, .ref 8), (1, .ref p1), (2, .int v2), (3, .int v3), (4, .int v4), (5, .int v5), (6, .int x5), (7, .int r7)]) dK_s_30.2.2.2.2.2.2.2.1 (by decide) rfl <|
    aw_iload (pc := 72) C (i := 6) dK_s_31.1 rfl <|
    aw_ineg (pc := 74) C dK_s_31.2.1 <|
    aw_istoreV (pc := 75) C (i := 8) (fun x9 => [(0, .ref 8), (1, .ref p1), (2, .int v2), (3, .int v3), (4, .int v4), (5, .int v5), (6, .int x5), (7, .int r7), (8, .int x9)]) dK_s_31.2.2.1 (by decide) (fun _ => rfl) fun x9 =>
    aw_drop [0, 1, 3, 4, 5, 6, 7, 8] (aX1_spread_l77 C p1 hJ1 v3 v4 v5 x5 r7 FU x9 h8)) (fun _ =>
    aw_vret (pc := 52) C dK_s_29.2.2.2.1 rfl rfl))))

abbrev rmX1_meanWays : Room := { frames := 0, cells := 0, slots := 0, locals := 0 }
def X1_meanWays_l4  : Nat → Int64 → Int32 → AH → Option (Int64 × AH)
  | 0, _, _, _ => none
  | n + 1, v1, v3, h =>
    if 999 < v3 then (some (v1, h))
    else (ck v3 1000 (vl (v1 + (v3.toInt64 * (h.2.1 31 v3.toNatClampNeg))) fun x1 =>
    vl (v3 + 1) fun x2 =>
    (X1_meanWays_l4 n) x1 x2 h))
set_option maxRecDepth 100000 in
theorem aX1_meanWays_l4 {X : MCx} {yd : Dyn} {A : Nat → Prop} (C : OK X cX1_meanWays RX1 4 (some .long) rmX1_meanWays A)  : ∀ (n : Nat) (v1 : Int64) (v3 : Int32) (h : AH), AW X 4 ZC yd A 0 0 (QF X rmX1_meanWays ZC yd rvL A) 4 [(0, .ref 8), (1, .long v1), (3, .int v3)] [] h (X1_meanWays_l4 n v1 v3 h) := by
  intro n
  induction n with
  | zero => intro v1 v3 h; exact aw_none
  | succ n ih =>
    intro v1 v3 h
    exact aw_iload_n (pc := 4) C (i := 3) dK_s_47.2.2.2.2.1 rfl rfl <|
    aw_sipush (pc := 5) C (v := 999) dK_s_47.2.2.2.2.2.1 rfl <|
    aw_icmp_gt (pc := 8) C (tgt := 29) dK_s_47.2.2.2.2.2.2.1 rfl (fun _ =>
    aw_lload_n (pc := 29) C (i := 1) dK_s_49.2.2.2.1 rfl rfl <|
    aw_lret (pc := 30) C dK_s_49.2.2.2.2.1 rfl rfl) (fun _ =>
    aw_lload_n (pc := 11) C (i := 1) dK_s_47.2.2.2.2.2.2.2.1 rfl rfl <|
    aw_iload_n (pc := 12) C (i := 3) dK_s_48.1 rfl rfl <|
    aw_i2l (pc := 13) C dK_s_48.2.1 <|
    aw_aload_n (pc := 14) C (i := 0) dK_s_48.2.2.1 rfl rfl <|
    aw_getR (pc := 15) C (b := 31) dK_s_48.2.2.2.1 fl_X1_16 sC_8 rfl rC_8_1 <|
    aw_iload_n (pc := 18) C (i := 3) dK_s_48.2.2.2.2.1 rfl rfl <|
    aw_lald (pc := 19) C dK_s_48.2.2.2.2.2.1 sC_31 rfl <|
    aw_lmul (pc := 20) C dK_s_48.2.2.2.2.2.2.1 <|
    aw_ladd (pc := 21) C dK_s_48.2.2.2.2.2.2.2.1 <|
    aw_lstoreV_n (pc := 22) C (i := 1) (fun x1 => [(0, .ref 8), (1, .long x1), (3, .int v3)]) dK_s_49.1 rfl (by decide) (fun _ => rfl) fun x1 =>
    aw_iincV (pc := 23) C (i := 3) (cst := 1) (fun x2 => [(0, .ref 8), (1, .long x1), (3, .int x2)]) dK_s_49.2.1 rfl rfl (by decide) (fun _ => rfl) fun x2 =>
    aw_goto (pc := 26) C (tgt := 4) dK_s_49.2.2.1 rfl <|
    (ih x1 x2 h))
def X1_meanWays  (h : AH) : Option (Int64 × AH) :=
    X1_meanWays_l4 FU 0 1 h
set_option maxRecDepth 100000 in
theorem c_X1_meanWays (l : Launch)  : MC l yX1_meanWays cX1_meanWays 4 (some .long) rmX1_meanWays ZC [.ref 8] rvL (X1_meanWays) :=
  MC.of (own := RX1) pn_RX1 rfl (Nat.le_of_ble_eq_true rfl) fun X yd A h _ C =>
    aw_lconst (pc := 0) C (v := 0) dK_s_47.1 rfl <|
    aw_lstore_n (pc := 1) C (i := 1) (lv' := [(0, .ref 8), (1, .long 0)]) dK_s_47.2.1 rfl (by decide) rfl <|
    aw_iconst (pc := 2) C (v := 1) dK_s_47.2.2.1 rfl <|
    aw_istore_n (pc := 3) C (i := 3) (lv' := [(0, .ref 8), (1, .long 0), (3, .int 1)]) dK_s_47.2.2.2.1 rfl (by decide) rfl <|
    (aX1_meanWays_l4 C FU 0 1 h)

abbrev rmX1_waysPast : Room := { frames := 1, cells := 0, slots := 0, locals := 45 }
def X1_waysPast_l11  : Nat → Int64 → Int32 → AH → Option (Int64 × AH)
  | 0, _, _, _ => none
  | n + 1, v2, v4, h =>
    if 999 < v4 then (some (v2, h))
    else (ck v4 1000 (vl (v2 + (h.2.1 31 v4.toNatClampNeg)) fun x2 =>
    vl (v4 + 1) fun x3 =>
    (X1_waysPast_l11 n) x2 x3 h))
set_option maxRecDepth 100000 in
theorem aX1_waysPast_l11 {X : MCx} {yd : Dyn} {A : Nat → Prop} (C : OK X cX1_waysPast RX1 5 (some .long) rmX1_waysPast A)  : ∀ (n : Nat) (v2 : Int64) (v4 : Int32) (h : AH), AW X 5 ZC yd A 0 0 (QF X rmX1_waysPast ZC yd rvL A) 11 [(0, .ref 8), (2, .long v2), (4, .int v4)] [] h (X1_waysPast_l11 n v2 v4 h) := by
  intro n
  induction n with
  | zero => intro v2 v4 h; exact aw_none
  | succ n ih =>
    intro v2 v4 h
    exact aw_iload (pc := 11) C (i := 4) dK_s_51.1 rfl <|
    aw_sipush (pc := 13) C (v := 999) dK_s_51.2.1 rfl <|
    aw_icmp_gt (pc := 16) C (tgt := 35) dK_s_51.2.2.1 rfl (fun _ =>
    aw_lload_n (pc := 35) C (i := 2) dK_s_52.2.2.2.2.1 rfl rfl <|
    aw_lret (pc := 36) C dK_s_52.2.2.2.2.2.1 rfl rfl) (fun _ =>
    aw_lload_n (pc := 19) C (i := 2) dK_s_51.2.2.2.1 rfl rfl <|
    aw_aload_n (pc := 20) C (i := 0) dK_s_51.2.2.2.2.1 rfl rfl <|
    aw_getR (pc := 21) C (b := 31) dK_s_51.2.2.2.2.2.1 fl_X1_16 sC_8 rfl rC_8_1 <|
    aw_iload (pc := 24) C (i := 4) dK_s_51.2.2.2.2.2.2.1 rfl <|
    aw_lald (pc := 26) C dK_s_51.2.2.2.2.2.2.2.1 sC_31 rfl <|
    aw_ladd (pc := 27) C dK_s_52.1 <|
    aw_lstoreV_n (pc := 28) C (i := 2) (fun x2 => [(0, .ref 8), (2, .long x2), (4, .int v4)]) dK_s_52.2.1 rfl (by decide) (fun _ => rfl) fun x2 =>
    aw_iincV (pc := 29) C (i := 4) (cst := 1) (fun x3 => [(0, .ref 8), (2, .long x2), (4, .int x3)]) dK_s_52.2.2.1 rfl rfl (by decide) (fun _ => rfl) fun x3 =>
    aw_goto (pc := 32) C (tgt := 11) dK_s_52.2.2.2.1 rfl <|
    (ih x2 x3 h))
def X1_waysPast (v1 : Int32) (h : AH) : Option (Int64 × AH) :=
    vl (mx32 0 (v1 + 1)) fun x1 =>
    X1_waysPast_l11 FU 0 x1 h
set_option maxRecDepth 100000 in
theorem c_X1_waysPast (l : Launch) (v1 : Int32) : MC l yX1_waysPast cX1_waysPast 5 (some .long) rmX1_waysPast ZC [.ref 8, .int v1] rvL (X1_waysPast v1) :=
  MC.of (own := RX1) pn_RX1 rfl (Nat.le_of_ble_eq_true rfl) fun X yd A h _ C =>
    aw_lconst (pc := 0) C (v := 0) dK_s_50.1 rfl <|
    aw_lstore_n (pc := 1) C (i := 2) (lv' := [(0, .ref 8), (1, .int v1), (2, .long 0)]) dK_s_50.2.1 rfl (by decide) rfl <|
    aw_iconst (pc := 2) C (v := 0) dK_s_50.2.2.1 rfl <|
    aw_iload_n (pc := 3) C (i := 1) dK_s_50.2.2.2.1 rfl rfl <|
    aw_iconst (pc := 4) C (v := 1) dK_s_50.2.2.2.2.1 rfl <|
    aw_iadd (pc := 5) C dK_s_50.2.2.2.2.2.1 <|
    aw_mmax (pc := 6) C dK_s_50.2.2.2.2.2.2.1 ml_X1_71 w_mmaxS w_mI w_mmaxC ⟨(Nat.le_of_ble_eq_true rfl), (Nat.le_of_ble_eq_true rfl)⟩ (Nat.zero_le _) (Nat.zero_le _) <|
    aw_istoreV (pc := 9) C (i := 4) (fun x1 => [(0, .ref 8), (1, .int v1), (2, .long 0), (4, .int x1)]) dK_s_50.2.2.2.2.2.2.2.1 (by decide) (fun _ => rfl) fun x1 =>
    aw_drop [0, 2, 3] (aX1_waysPast_l11 C FU 0 x1 h)

abbrev rmX1_share : Room := { frames := 0, cells := 0, slots := 0, locals := 0 }
def X1_share (v1 : Int64) (h : AH) : Option (Int32 × AH) :=
    if 0 < (lcmpV (h.2.1 8 2) 0) then (if (h.2.1 8 2) = 0 then none else (some (((v1 * 10000) / (h.2.1 8 2)).toInt32, h)))
    else (some (0, h))
set_option maxRecDepth 100000 in
theorem c_X1_share (l : Launch) (v1 : Int64) : MC l yX1_share cX1_share 3 (some .int) rmX1_share ZC [.ref 8, .long v1] rvI (X1_share v1) :=
  MC.of (own := RX1) pn_RX1 rfl (Nat.le_of_ble_eq_true rfl) fun X yd A h _ C =>
    aw_aload_n (pc := 0) C (i := 0) dK_s_53.1 rfl rfl <|
    aw_getL (pc := 1) C dK_s_53.2.1 fl_X1_20 sC_8 rfl <|
    aw_lconst (pc := 4) C (v := 0) dK_s_53.2.2.1 rfl <|
    aw_lcmp (pc := 5) C dK_s_53.2.2.2.1 <|
    aw_if_gt (pc := 6) C (tgt := 13) dK_s_53.2.2.2.2.1 rfl (fun _ =>
    aw_lload_n (pc := 13) C (i := 1) dK_s_53.2.2.2.2.2.2.2.1 rfl rfl <|
    aw_ldc2_w (pc := 14) C (v := 10000) dK_s_54.1 kc_X1_75 <|
    aw_lmul (pc := 17) C dK_s_54.2.1 <|
    aw_aload_n (pc := 18) C (i := 0) dK_s_54.2.2.1 rfl rfl <|
    aw_getL (pc := 19) C dK_s_54.2.2.2.1 fl_X1_20 sC_8 rfl <|
    aw_ldiv (pc := 22) C dK_s_54.2.2.2.2.1 <|
    aw_l2i (pc := 23) C dK_s_54.2.2.2.2.2.1 <|
    aw_iret (pc := 24) C dK_s_54.2.2.2.2.2.2.1 rfl rfl) (fun _ =>
    aw_iconst (pc := 9) C (v := 0) dK_s_53.2.2.2.2.2.1 rfl <|
    aw_goto (pc := 10) C (tgt := 24) dK_s_53.2.2.2.2.2.2.1 rfl <|
    aw_iret (pc := 24) C dK_s_54.2.2.2.2.2.2.1 rfl rfl)

abbrev rmX2_copyFrom : Room := { frames := 0, cells := 0, slots := 0, locals := 0 }
def X2_copyFrom (o : Nat) (p1 : Nat) (h : AH) : Option (Unit × AH) :=
    vl (sK h o (h.2.2 p1)) fun h1 =>
    vl (sI h1 o 1 (h1.1 p1 1)) fun h2 =>
    vl (sI h2 o 2 (h2.1 p1 2)) fun h3 =>
    vl (sI h3 o 3 (h3.1 p1 3)) fun h4 =>
    vl (sI h4 o 4 (h4.1 p1 4)) fun h5 =>
    vl (sI h5 o 5 (h5.1 p1 5)) fun h6 =>
    vl (sI h6 o 6 (h6.1 p1 6)) fun h7 =>
    vl (sI h7 o 7 (h7.1 p1 7)) fun h8 =>
    vl (sI h8 o 8 (h8.1 p1 8)) fun h9 =>
    some ((), h9)
set_option maxRecDepth 100000 in
theorem c_X2_copyFrom (l : Launch) (o : Nat) (hJ0 : ZC.1[o]? = some (.inr 2)) (p1 : Nat) (hJ1 : ZC.1[p1]? = some (.inr 2)) : MC l yX2_copyFrom cX2_copyFrom 2 none rmX2_copyFrom ZC [.ref o, .ref p1] rvV (X2_copyFrom o p1) :=
  MC.of (own := RX2) pn_RX2 rfl (Nat.le_of_ble_eq_true rfl) fun X yd A h _ C =>
    aw_aload_n (pc := 0) C (i := 0) dK_s_56.1 rfl rfl <|
    aw_aload_n (pc := 1) C (i := 1) dK_s_56.2.1 rfl rfl <|
    aw_getW (pc := 2) C (b := (36 + h.2.2 p1 % 6)) dK_s_56.2.2.1 fl_X2_7 hJ1 rfl rfl <|
    aw_putW (pc := 5) C (v := (h.2.2 p1)) dK_s_56.2.2.2.1 fp_X2_7 hJ0 rfl j_3 j_m rfl fun h1 =>
    aw_aload_n (pc := 8) C (i := 0) dK_s_56.2.2.2.2.1 rfl rfl <|
    aw_aload_n (pc := 9) C (i := 1) dK_s_56.2.2.2.2.2.1 rfl rfl <|
    aw_getI (pc := 10) C dK_s_56.2.2.2.2.2.2.1 fl_X2_13 hJ1 rfl <|
    aw_putI (pc := 13) C dK_s_56.2.2.2.2.2.2.2.1 fp_X2_13 hJ0 rfl fun h2 =>
    aw_aload_n (pc := 16) C (i := 0) dK_s_57.1 rfl rfl <|
    aw_aload_n (pc := 17) C (i := 1) dK_s_57.2.1 rfl rfl <|
    aw_getI (pc := 18) C dK_s_57.2.2.1 fl_X2_17 hJ1 rfl <|
    aw_putI (pc := 21) C dK_s_57.2.2.2.1 fp_X2_17 hJ0 rfl fun h3 =>
    aw_aload_n (pc := 24) C (i := 0) dK_s_57.2.2.2.2.1 rfl rfl <|
    aw_aload_n (pc := 25) C (i := 1) dK_s_57.2.2.2.2.2.1 rfl rfl <|
    aw_getI (pc := 26) C dK_s_57.2.2.2.2.2.2.1 fl_X2_20 hJ1 rfl <|
    aw_putI (pc := 29) C dK_s_57.2.2.2.2.2.2.2.1 fp_X2_20 hJ0 rfl fun h4 =>
    aw_aload_n (pc := 32) C (i := 0) dK_s_58.1 rfl rfl <|
    aw_aload_n (pc := 33) C (i := 1) dK_s_58.2.1 rfl rfl <|
    aw_getI (pc := 34) C dK_s_58.2.2.1 fl_X2_23 hJ1 rfl <|
    aw_putI (pc := 37) C dK_s_58.2.2.2.1 fp_X2_23 hJ0 rfl fun h5 =>
    aw_aload_n (pc := 40) C (i := 0) dK_s_58.2.2.2.2.1 rfl rfl <|
    aw_aload_n (pc := 41) C (i := 1) dK_s_58.2.2.2.2.2.1 rfl rfl <|
    aw_getI (pc := 42) C dK_s_58.2.2.2.2.2.2.1 fl_X2_26 hJ1 rfl <|
    aw_putI (pc := 45) C dK_s_58.2.2.2.2.2.2.2.1 fp_X2_26 hJ0 rfl fun h6 =>
    aw_aload_n (pc := 48) C (i := 0) dK_s_59.1 rfl rfl <|
    aw_aload_n (pc := 49) C (i := 1) dK_s_59.2.1 rfl rfl <|
    aw_getI (pc := 50) C dK_s_59.2.2.1 fl_X2_29 hJ1 rfl <|
    aw_putI (pc := 53) C dK_s_59.2.2.2.1 fp_X2_29 hJ0 rfl fun h7 =>
    aw_aload_n (pc := 56) C (i := 0) dK_s_59.2.2.2.2.1 rfl rfl <|
    aw_aload_n (pc := 57) C (i := 1) dK_s_59.2.2.2.2.2.1 rfl rfl <|
    aw_getI (pc := 58) C dK_s_59.2.2.2.2.2.2.1 fl_X2_32 hJ1 rfl <|
    aw_putI (pc := 61) C dK_s_59.2.2.2.2.2.2.2.1 fp_X2_32 hJ0 rfl fun h8 =>
    aw_aload_n (pc := 64) C (i := 0) dK_s_60.1 rfl rfl <|
    aw_aload_n (pc := 65) C (i := 1) dK_s_60.2.1 rfl rfl <|
    aw_getI (pc := 66) C dK_s_60.2.2.1 fl_X2_35 hJ1 rfl <|
    aw_putI (pc := 69) C dK_s_60.2.2.2.1 fp_X2_35 hJ0 rfl fun h9 =>
    aw_vret (pc := 72) C dK_s_60.2.2.2.2.1 rfl rfl

abbrev rmX2_property : Room := { frames := 3, cells := 0, slots := 0, locals := 63 }
def X2_property (o : Nat) (v1 : Int32) (h : AH) : Option (Int32 × AH) :=
    vl v1 fun y1 =>
    if y1 = 0 then (some ((h.1 o 1), h))
    else if y1 = 1 then (some ((h.1 o 2), h))
    else if y1 = 2 then (some ((h.1 o 3), h))
    else if y1 = 3 then (some ((h.1 o 4), h))
    else if y1 = 4 then (some ((h.1 o 5), h))
    else if y1 = 5 then (some ((h.1 o 6), h))
    else if y1 = 6 then (some ((h.1 o 7), h))
    else if y1 = 7 then (some ((h.1 o 8), h))
    else (bd (kd (h.2.2 o) (X3_aimOf o h) (X7_aimOf o h) (X0_aimOf o h) (X4_aimOf o h) (X0_aimOf o h) (X8_aimOf o h)) fun r10 h11 =>
    some (r10, h11))
set_option maxRecDepth 100000 in
theorem c_X2_property (l : Launch) (o : Nat) (hJ0 : ZC.1[o]? = some (.inr 2)) (v1 : Int32) : MC l yX2_property cX2_property 2 (some .int) rmX2_property ZC [.ref o, .int v1] rvI (X2_property o v1) :=
  MC.of (own := RX2) pn_RX2 rfl (Nat.le_of_ble_eq_true rfl) fun X yd A h _ C =>
    aw_iload_n (pc := 0) C (i := 1) dK_s_61.1 rfl rfl <|
    aw_vlI fun y1 =>
    aw_if (fun c2 => aw_tswA (pc := 1) C (off := 47) (tg := 48) 0 dK_s_61.2.1 (by rw [c2]; rfl) (by decide) (by decide) rfl rfl (aw_aload_n (pc := 48) C (i := 0) dK_s_61.2.2.1 rfl rfl <|
    aw_getI (pc := 49) C dK_s_61.2.2.2.1 fl_X2_13 hJ0 rfl <|
    aw_iret (pc := 52) C dK_s_61.2.2.2.2.1 rfl rfl)) (fun c2 =>
    aw_if (fun c3 => aw_tswA (pc := 1) C (off := 52) (tg := 53) 1 dK_s_61.2.1 (by rw [c3]; rfl) (by decide) (by decide) rfl rfl (aw_aload_n (pc := 53) C (i := 0) dK_s_61.2.2.2.2.2.1 rfl rfl <|
    aw_getI (pc := 54) C dK_s_61.2.2.2.2.2.2.1 fl_X2_17 hJ0 rfl <|
    aw_iret (pc := 57) C dK_s_61.2.2.2.2.2.2.2.1 rfl rfl)) (fun c3 =>
    aw_if (fun c4 => aw_tswA (pc := 1) C (off := 57) (tg := 58) 2 dK_s_61.2.1 (by rw [c4]; rfl) (by decide) (by decide) rfl rfl (aw_aload_n (pc := 58) C (i := 0) dK_s_62.1 rfl rfl <|
    aw_getI (pc := 59) C dK_s_62.2.1 fl_X2_20 hJ0 rfl <|
    aw_iret (pc := 62) C dK_s_62.2.2.1 rfl rfl)) (fun c4 =>
    aw_if (fun c5 => aw_tswA (pc := 1) C (off := 62) (tg := 63) 3 dK_s_61.2.1 (by rw [c5]; rfl) (by decide) (by decide) rfl rfl (aw_aload_n (pc := 63) C (i := 0) dK_s_62.2.2.2.1 rfl rfl <|
    aw_getI (pc := 64) C dK_s_62.2.2.2.2.1 fl_X2_23 hJ0 rfl <|
    aw_iret (pc := 67) C dK_s_62.2.2.2.2.2.1 rfl rfl)) (fun c5 =>
    aw_if (fun c6 => aw_tswA (pc := 1) C (off := 67) (tg := 68) 4 dK_s_61.2.1 (by rw [c6]; rfl) (by decide) (by decide) rfl rfl (aw_aload_n (pc := 68) C (i := 0) dK_s_62.2.2.2.2.2.2.1 rfl rfl <|
    aw_getI (pc := 69) C dK_s_62.2.2.2.2.2.2.2.1 fl_X2_26 hJ0 rfl <|
    aw_iret (pc := 72) C dK_s_63.1 rfl rfl)) (fun c6 =>
    aw_if (fun c7 => aw_tswA (pc := 1) C (off := 72) (tg := 73) 5 dK_s_61.2.1 (by rw [c7]; rfl) (by decide) (by decide) rfl rfl (aw_aload_n (pc := 73) C (i := 0) dK_s_63.2.1 rfl rfl <|
    aw_getI (pc := 74) C dK_s_63.2.2.1 fl_X2_29 hJ0 rfl <|
    aw_iret (pc := 77) C dK_s_63.2.2.2.1 rfl rfl)) (fun c7 =>
    aw_if (fun c8 => aw_tswA (pc := 1) C (off := 77) (tg := 78) 6 dK_s_61.2.1 (by rw [c8]; rfl) (by decide) (by decide) rfl rfl (aw_aload_n (pc := 78) C (i := 0) dK_s_63.2.2.2.2.1 rfl rfl <|
    aw_getI (pc := 79) C dK_s_63.2.2.2.2.2.1 fl_X2_32 hJ0 rfl <|
    aw_iret (pc := 82) C dK_s_63.2.2.2.2.2.2.1 rfl rfl)) (fun c8 =>
    aw_if (fun c9 => aw_tswA (pc := 1) C (off := 82) (tg := 83) 7 dK_s_61.2.1 (by rw [c9]; rfl) (by decide) (by decide) rfl rfl (aw_aload_n (pc := 83) C (i := 0) dK_s_63.2.2.2.2.2.2.2.1 rfl rfl <|
    aw_getI (pc := 84) C dK_s_64.1 fl_X2_35 hJ0 rfl <|
    aw_iret (pc := 87) C dK_s_64.2.1 rfl rfl)) (fun c9 =>
    aw_tswD (pc := 1) C (N := 8) (td := 88) [0, 1, 2, 3, 4, 5, 6, 7] dK_s_61.2.1 (List.forall_mem_cons.mpr ⟨ti_ne c2 rfl, List.forall_mem_cons.mpr ⟨ti_ne c3 rfl, List.forall_mem_cons.mpr ⟨ti_ne c4 rfl, List.forall_mem_cons.mpr ⟨ti_ne c5 rfl, List.forall_mem_cons.mpr ⟨ti_ne c6 rfl, List.forall_mem_cons.mpr ⟨ti_ne c7 rfl, List.forall_mem_cons.mpr ⟨ti_ne c8 rfl, List.forall_mem_cons.mpr ⟨ti_ne c9 rfl, fun _ hz => by cases hz⟩⟩⟩⟩⟩⟩⟩⟩) rfl (by decide) rfl (aw_aload_n (pc := 88) C (i := 0) dK_s_64.2.2.1 rfl rfl <|
    aw_getW (pc := 89) C (b := (36 + h.2.2 o % 6)) dK_s_64.2.2.2.1 fl_X2_7 hJ0 rfl rfl <|
    aw_aload_n (pc := 92) C (i := 0) dK_s_64.2.2.2.2.1 rfl rfl <|
    aw_callF (pc := 93) C (kdA_aimOf C dK_s_64.2.2.2.2.2.1 ml_X2_38 (h.2.2 o) o hJ0  [] ⟨⟨(Nat.le_of_ble_eq_true rfl), (Nat.le_of_ble_eq_true rfl)⟩, ⟨(Nat.le_of_ble_eq_true rfl), (Nat.le_of_ble_eq_true rfl)⟩, ⟨(Nat.le_of_ble_eq_true rfl), (Nat.le_of_ble_eq_true rfl)⟩, ⟨(Nat.le_of_ble_eq_true rfl), (Nat.le_of_ble_eq_true rfl)⟩, ⟨(Nat.le_of_ble_eq_true rfl), (Nat.le_of_ble_eq_true rfl)⟩, ⟨(Nat.le_of_ble_eq_true rfl), (Nat.le_of_ble_eq_true rfl)⟩⟩ (Nat.le_of_ble_eq_true rfl)) rfl rfl rfl (Nat.zero_le _) (Nat.zero_le _) fun r10 h11 =>
    aw_iret (pc := 96) C dK_s_64.2.2.2.2.2.2.1 rfl rfl)))))))))

abbrev rmX2_path : Room := { frames := 3, cells := 0, slots := 0, locals := 69 }
def X2_path_l5 (o : Nat) (v1 : Int32) (v2 : Int32) : Nat → Int32 → Int32 → AH → Option (Int32 × AH)
  | 0, _, _, _ => none
  | n + 1, v3, v4, h =>
    if v1 ≤ v4 then (some (v3, h))
    else (bd (kd (h.2.2 o) (X3_strideOf o v4 v2 h) (X3_strideOf o v4 v2 h) (X0_strideOf o v4 v2 h) (X3_strideOf o v4 v2 h) (X9_strideOf o v4 v2 h) (X8_strideOf o v4 v2 h)) fun r1 h2 =>
    vl (v3 + r1) fun x3 =>
    vl (v4 + 1) fun x4 =>
    (X2_path_l5 o v1 v2 n) x3 x4 h2)
set_option maxRecDepth 100000 in
theorem aX2_path_l5 {X : MCx} {yd : Dyn} {A : Nat → Prop} (C : OK X cX2_path RX2 5 (some .int) rmX2_path A) (o : Nat) (hJ0 : ZC.1[o]? = some (.inr 2)) (v1 : Int32) (v2 : Int32) : ∀ (n : Nat) (v3 : Int32) (v4 : Int32) (h : AH), AW X 5 ZC yd A 0 0 (QF X rmX2_path ZC yd rvI A) 5 [(0, .ref o), (1, .int v1), (2, .int v2), (3, .int v3), (4, .int v4)] [] h (X2_path_l5 o v1 v2 n v3 v4 h) := by
  intro n
  induction n with
  | zero => intro v3 v4 h; exact aw_none
  | succ n ih =>
    intro v3 v4 h
    exact aw_iload (pc := 5) C (i := 4) dK_s_65.2.2.2.2.1 rfl <|
    aw_iload_n (pc := 7) C (i := 1) dK_s_65.2.2.2.2.2.1 rfl rfl <|
    aw_icmp_ge (pc := 8) C (tgt := 31) dK_s_65.2.2.2.2.2.2.1 rfl (fun _ =>
    aw_iload_n (pc := 31) C (i := 3) dK_s_67.2.2.1 rfl rfl <|
    aw_iret (pc := 32) C dK_s_67.2.2.2.1 rfl rfl) (fun _ =>
    aw_iload_n (pc := 11) C (i := 3) dK_s_65.2.2.2.2.2.2.2.1 rfl rfl <|
    aw_aload_n (pc := 12) C (i := 0) dK_s_66.1 rfl rfl <|
    aw_getW (pc := 13) C (b := (36 + h.2.2 o % 6)) dK_s_66.2.1 fl_X2_7 hJ0 rfl rfl <|
    aw_aload_n (pc := 16) C (i := 0) dK_s_66.2.2.1 rfl rfl <|
    aw_iload (pc := 17) C (i := 4) dK_s_66.2.2.2.1 rfl <|
    aw_iload_n (pc := 19) C (i := 2) dK_s_66.2.2.2.2.1 rfl rfl <|
    aw_callF (pc := 20) C (kdA_strideOf C dK_s_66.2.2.2.2.2.1 ml_X2_44 (h.2.2 o) o hJ0 v4 v2 [.int v3] ⟨⟨(Nat.le_of_ble_eq_true rfl), (Nat.le_of_ble_eq_true rfl)⟩, ⟨(Nat.le_of_ble_eq_true rfl), (Nat.le_of_ble_eq_true rfl)⟩, ⟨(Nat.le_of_ble_eq_true rfl), (Nat.le_of_ble_eq_true rfl)⟩, ⟨(Nat.le_of_ble_eq_true rfl), (Nat.le_of_ble_eq_true rfl)⟩, ⟨(Nat.le_of_ble_eq_true rfl), (Nat.le_of_ble_eq_true rfl)⟩, ⟨(Nat.le_of_ble_eq_true rfl), (Nat.le_of_ble_eq_true rfl)⟩⟩ (Nat.le_of_ble_eq_true rfl)) rfl rfl rfl (Nat.zero_le _) (Nat.zero_le _) fun r1 h2 =>
    aw_iadd (pc := 23) C dK_s_66.2.2.2.2.2.2.1 <|
    aw_istoreV_n (pc := 24) C (i := 3) (fun x3 => [(0, .ref o), (1, .int v1), (2, .int v2), (3, .int x3), (4, .int v4)]) dK_s_66.2.2.2.2.2.2.2.1 rfl (by decide) (fun _ => rfl) fun x3 =>
    aw_iincV (pc := 25) C (i := 4) (cst := 1) (fun x4 => [(0, .ref o), (1, .int v1), (2, .int v2), (3, .int x3), (4, .int x4)]) dK_s_67.1 rfl rfl (by decide) (fun _ => rfl) fun x4 =>
    aw_goto (pc := 28) C (tgt := 5) dK_s_67.2.1 rfl <|
    (ih x3 x4 h2))
def X2_path (o : Nat) (v1 : Int32) (v2 : Int32) (h : AH) : Option (Int32 × AH) :=
    X2_path_l5 o v1 v2 FU 0 0 h
set_option maxRecDepth 100000 in
theorem c_X2_path (l : Launch) (o : Nat) (hJ0 : ZC.1[o]? = some (.inr 2)) (v1 : Int32) (v2 : Int32) : MC l yX2_path cX2_path 5 (some .int) rmX2_path ZC [.ref o, .int v1, .int v2] rvI (X2_path o v1 v2) :=
  MC.of (own := RX2) pn_RX2 rfl (Nat.le_of_ble_eq_true rfl) fun X yd A h _ C =>
    aw_iconst (pc := 0) C (v := 0) dK_s_65.1 rfl <|
    aw_istore_n (pc := 1) C (i := 3) (lv' := [(0, .ref o), (1, .int v1), (2, .int v2), (3, .int 0)]) dK_s_65.2.1 rfl (by decide) rfl <|
    aw_iconst (pc := 2) C (v := 0) dK_s_65.2.2.1 rfl <|
    aw_istore (pc := 3) C (i := 4) (lv' := [(0, .ref o), (1, .int v1), (2, .int v2), (3, .int 0), (4, .int 0)]) dK_s_65.2.2.2.1 (by decide) rfl <|
    (aX2_path_l5 C o hJ0 v1 v2 FU 0 0 h)

abbrev rmX5_copyFrom : Room := { frames := 1, cells := 0, slots := 0, locals := 45 }
def X5_copyFrom_l42 (o : Nat) (p1 : Nat) : Nat → Int32 → AH → Option (Unit × AH)
  | 0, _, _ => none
  | n + 1, v2, h =>
    if 4 ≤ v2 then (vl (cpI h (p1 + 2) (o + 2) 24) fun h6 =>
    vl (cpI h6 (p1 + 3) (o + 3) 24) fun h7 =>
    vl (cpI h7 (p1 + 4) (o + 4) 24) fun h8 =>
    vl (cpI h8 (p1 + 5) (o + 5) 24) fun h9 =>
    some ((), h9))
    else (ck v2 4 (ck v2 4 (bd (X2_copyFrom (o + 6 + v2.toNatClampNeg % 4) (p1 + 6 + v2.toNatClampNeg % 4) h) fun _ h11 =>
    vl (v2 + 1) fun x12 =>
    (X5_copyFrom_l42 o p1 n) x12 h11)))
set_option maxRecDepth 100000 in
theorem aX5_copyFrom_l42 {X : MCx} {yd : Dyn} {A : Nat → Prop} (C : OK X cX5_copyFrom RX5 3 none rmX5_copyFrom A) (o : Nat) (hM0 : MT o) (p1 : Nat) (hM1 : MT p1) : ∀ (n : Nat) (v2 : Int32) (h : AH), AW X 3 ZC yd A 0 0 (QF X rmX5_copyFrom ZC yd rvV A) 42 [(0, .ref o), (1, .ref p1), (2, .int v2)] [] h (X5_copyFrom_l42 o p1 n v2 h) := by
  intro n
  induction n with
  | zero => intro v2 h; exact aw_none
  | succ n ih =>
    intro v2 h
    exact aw_iload_n (pc := 42) C (i := 2) dK_s_85.2.2.2.2.2.2.1 rfl rfl <|
    aw_iconst (pc := 43) C (v := 4) dK_s_85.2.2.2.2.2.2.2.1 rfl <|
    aw_icmp_ge (pc := 44) C (tgt := 68) dK_s_86.1 rfl (fun _ =>
    aw_aload_n (pc := 68) C (i := 1) dK_s_87.2.2.2.2.1 rfl rfl <|
    aw_getR (pc := 69) C (b := (p1 + 2)) dK_s_87.2.2.2.2.2.1 fl_X5_24 (mt_s hM1) rfl (mt_r6 hM1) <|
    aw_iconst (pc := 72) C (v := 0) dK_s_87.2.2.2.2.2.2.1 rfl <|
    aw_aload_n (pc := 73) C (i := 0) dK_s_87.2.2.2.2.2.2.2.1 rfl rfl <|
    aw_getR (pc := 74) C (b := (o + 2)) dK_s_88.1 fl_X5_24 (mt_s hM0) rfl (mt_r6 hM0) <|
    aw_iconst (pc := 77) C (v := 0) dK_s_88.2.1 rfl <|
    aw_bipush (pc := 78) C (v := 24) dK_s_88.2.2.1 rfl <|
    aw_copy (pc := 80) C (M := 24) dK_s_88.2.2.2.1 ml_X5_53 w_acN w_acS w_acI (mt_s2 hM1) (mt_s2 hM0) rfl (by decide) rfl (by decide) ⟨(Nat.le_of_ble_eq_true rfl), (Nat.le_of_ble_eq_true rfl)⟩ fun h6 =>
    aw_aload_n (pc := 83) C (i := 1) dK_s_88.2.2.2.2.1 rfl rfl <|
    aw_getR (pc := 84) C (b := (p1 + 3)) dK_s_88.2.2.2.2.2.1 fl_X5_28 (mt_s hM1) rfl (mt_r7 hM1) <|
    aw_iconst (pc := 87) C (v := 0) dK_s_88.2.2.2.2.2.2.1 rfl <|
    aw_aload_n (pc := 88) C (i := 0) dK_s_88.2.2.2.2.2.2.2.1 rfl rfl <|
    aw_getR (pc := 89) C (b := (o + 3)) dK_s_89.1 fl_X5_28 (mt_s hM0) rfl (mt_r7 hM0) <|
    aw_iconst (pc := 92) C (v := 0) dK_s_89.2.1 rfl <|
    aw_bipush (pc := 93) C (v := 24) dK_s_89.2.2.1 rfl <|
    aw_copy (pc := 95) C (M := 24) dK_s_89.2.2.2.1 ml_X5_53 w_acN w_acS w_acI (mt_s3 hM1) (mt_s3 hM0) rfl (by decide) rfl (by decide) ⟨(Nat.le_of_ble_eq_true rfl), (Nat.le_of_ble_eq_true rfl)⟩ fun h7 =>
    aw_aload_n (pc := 98) C (i := 1) dK_s_89.2.2.2.2.1 rfl rfl <|
    aw_getR (pc := 99) C (b := (p1 + 4)) dK_s_89.2.2.2.2.2.1 fl_X5_31 (mt_s hM1) rfl (mt_r8 hM1) <|
    aw_iconst (pc := 102) C (v := 0) dK_s_89.2.2.2.2.2.2.1 rfl <|
    aw_aload_n (pc := 103) C (i := 0) dK_s_89.2.2.2.2.2.2.2.1 rfl rfl <|
    aw_getR (pc := 104) C (b := (o + 4)) dK_s_90.1 fl_X5_31 (mt_s hM0) rfl (mt_r8 hM0) <|
    aw_iconst (pc := 107) C (v := 0) dK_s_90.2.1 rfl <|
    aw_bipush (pc := 108) C (v := 24) dK_s_90.2.2.1 rfl <|
    aw_copy (pc := 110) C (M := 24) dK_s_90.2.2.2.1 ml_X5_53 w_acN w_acS w_acI (mt_s4 hM1) (mt_s4 hM0) rfl (by decide) rfl (by decide) ⟨(Nat.le_of_ble_eq_true rfl), (Nat.le_of_ble_eq_true rfl)⟩ fun h8 =>
    aw_aload_n (pc := 113) C (i := 1) dK_s_90.2.2.2.2.1 rfl rfl <|
    aw_getR (pc := 114) C (b := (p1 + 5)) dK_s_90.2.2.2.2.2.1 fl_X5_34 (mt_s hM1) rfl (mt_r9 hM1) <|
    aw_iconst (pc := 117) C (v := 0) dK_s_90.2.2.2.2.2.2.1 rfl <|
    aw_aload_n (pc := 118) C (i := 0) dK_s_90.2.2.2.2.2.2.2.1 rfl rfl <|
    aw_getR (pc := 119) C (b := (o + 5)) dK_s_91.1 fl_X5_34 (mt_s hM0) rfl (mt_r9 hM0) <|
    aw_iconst (pc := 122) C (v := 0) dK_s_91.2.1 rfl <|
    aw_bipush (pc := 123) C (v := 24) dK_s_91.2.2.1 rfl <|
    aw_copy (pc := 125) C (M := 24) dK_s_91.2.2.2.1 ml_X5_53 w_acN w_acS w_acI (mt_s5 hM1) (mt_s5 hM0) rfl (by decide) rfl (by decide) ⟨(Nat.le_of_ble_eq_true rfl), (Nat.le_of_ble_eq_true rfl)⟩ fun h9 =>
    aw_vret (pc := 128) C dK_s_91.2.2.2.2.1 rfl rfl) (fun _ =>
    aw_aload_n (pc := 47) C (i := 0) dK_s_86.2.1 rfl rfl <|
    aw_getR (pc := 48) C (b := (o + 1)) dK_s_86.2.2.1 fl_X5_20 (mt_s hM0) rfl (mt_r5 hM0) <|
    aw_iload_n (pc := 51) C (i := 2) dK_s_86.2.2.2.1 rfl rfl <|
    aw_aald (pc := 52) C (b := (o + 6 + v2.toNatClampNeg % 4)) dK_s_86.2.2.2.2.1 (mt_s1 hM0) rfl rfl (mt_jj hM0 _) <|
    aw_aload_n (pc := 53) C (i := 1) dK_s_86.2.2.2.2.2.1 rfl rfl <|
    aw_getR (pc := 54) C (b := (p1 + 1)) dK_s_86.2.2.2.2.2.2.1 fl_X5_20 (mt_s hM1) rfl (mt_r5 hM1) <|
    aw_iload_n (pc := 57) C (i := 2) dK_s_86.2.2.2.2.2.2.2.1 rfl rfl <|
    aw_aald (pc := 58) C (b := (p1 + 6 + v2.toNatClampNeg % 4)) dK_s_87.1 (mt_s1 hM1) rfl rfl (mt_jj hM1 _) <|
    aw_callF (pc := 59) C (cr_V (rest := []) (F := (X2_copyFrom (o + 6 + v2.toNatClampNeg % 4) (p1 + 6 + v2.toNatClampNeg % 4))) C (c_X2_copyFrom X.2.1 (o + 6 + v2.toNatClampNeg % 4) (mt_sj hM0 _) (p1 + 6 + v2.toNatClampNeg % 4) (mt_sj hM1 _)) dK_s_87.2.1 mf_X2_copyFrom ml_X5_49 im_X2_copyFrom se_X2_copyFrom (mt_sj hM0 _) rfl ⟨(Nat.le_of_ble_eq_true rfl), (Nat.le_of_ble_eq_true rfl)⟩ rfl rfl (Nat.le_of_ble_eq_true rfl)) rfl rfl rfl (Nat.zero_le _) (Nat.zero_le _) fun _ h11 =>
    aw_iincV (pc := 62) C (i := 2) (cst := 1) (fun x12 => [(0, .ref o), (1, .ref p1), (2, .int x12)]) dK_s_87.2.2.1 rfl rfl (by decide) (fun _ => rfl) fun x12 =>
    aw_goto (pc := 65) C (tgt := 42) dK_s_87.2.2.2.1 rfl <|
    (ih x12 h11))
def X5_copyFrom (o : Nat) (p1 : Nat) (h : AH) : Option (Unit × AH) :=
    vl (sI h o 0 (h.1 p1 0)) fun h1 =>
    vl (sI h1 o 1 (h1.1 p1 1)) fun h2 =>
    vl (sI h2 o 2 (h2.1 p1 2)) fun h3 =>
    vl (sI h3 o 3 (h3.1 p1 3)) fun h4 =>
    vl (sI h4 o 4 (h4.1 p1 4)) fun h5 =>
    X5_copyFrom_l42 o p1 FU 0 h5
set_option maxRecDepth 100000 in
theorem c_X5_copyFrom (l : Launch) (o : Nat) (hM0 : MT o) (p1 : Nat) (hM1 : MT p1) : MC l yX5_copyFrom cX5_copyFrom 3 none rmX5_copyFrom ZC [.ref o, .ref p1] rvV (X5_copyFrom o p1) :=
  MC.of (own := RX5) pn_RX5 rfl (Nat.le_of_ble_eq_true rfl) fun X yd A h _ C =>
    aw_aload_n (pc := 0) C (i := 0) dK_s_83.1 rfl rfl <|
    aw_aload_n (pc := 1) C (i := 1) dK_s_83.2.1 rfl rfl <|
    aw_getI (pc := 2) C dK_s_83.2.2.1 fl_X5_9 (mt_s hM1) rfl <|
    aw_putI (pc := 5) C dK_s_83.2.2.2.1 fp_X5_9 (mt_s hM0) rfl fun h1 =>
    aw_aload_n (pc := 8) C (i := 0) dK_s_83.2.2.2.2.1 rfl rfl <|
    aw_aload_n (pc := 9) C (i := 1) dK_s_83.2.2.2.2.2.1 rfl rfl <|
    aw_getI (pc := 10) C dK_s_83.2.2.2.2.2.2.1 fl_X5_40 (mt_s hM1) rfl <|
    aw_putI (pc := 13) C dK_s_83.2.2.2.2.2.2.2.1 fp_X5_40 (mt_s hM0) rfl fun h2 =>
    aw_aload_n (pc := 16) C (i := 0) dK_s_84.1 rfl rfl <|
    aw_aload_n (pc := 17) C (i := 1) dK_s_84.2.1 rfl rfl <|
    aw_getI (pc := 18) C dK_s_84.2.2.1 fl_X5_15 (mt_s hM1) rfl <|
    aw_putI (pc := 21) C dK_s_84.2.2.2.1 fp_X5_15 (mt_s hM0) rfl fun h3 =>
    aw_aload_n (pc := 24) C (i := 0) dK_s_84.2.2.2.2.1 rfl rfl <|
    aw_aload_n (pc := 25) C (i := 1) dK_s_84.2.2.2.2.2.1 rfl rfl <|
    aw_getI (pc := 26) C dK_s_84.2.2.2.2.2.2.1 fl_X5_43 (mt_s hM1) rfl <|
    aw_putI (pc := 29) C dK_s_84.2.2.2.2.2.2.2.1 fp_X5_43 (mt_s hM0) rfl fun h4 =>
    aw_aload_n (pc := 32) C (i := 0) dK_s_85.1 rfl rfl <|
    aw_aload_n (pc := 33) C (i := 1) dK_s_85.2.1 rfl rfl <|
    aw_getI (pc := 34) C dK_s_85.2.2.1 fl_X5_46 (mt_s hM1) rfl <|
    aw_putI (pc := 37) C dK_s_85.2.2.2.1 fp_X5_46 (mt_s hM0) rfl fun h5 =>
    aw_iconst (pc := 40) C (v := 0) dK_s_85.2.2.2.2.1 rfl <|
    aw_istore_n (pc := 41) C (i := 2) (lv' := [(0, .ref o), (1, .ref p1), (2, .int 0)]) dK_s_85.2.2.2.2.2.1 rfl (by decide) rfl <|
    (aX5_copyFrom_l42 C o hM0 p1 hM1 FU 0 h5)

abbrev rmX5_at : Room := { frames := 0, cells := 0, slots := 0, locals := 0 }
def X5_at_j9 (o : Nat) (h : AH) : Option (Nat × AH) :=
    ck 0 4 (some ((o + 6 + (0 : Int32).toNatClampNeg % 4), h))
set_option maxRecDepth 100000 in
theorem aX5_at_j9 {X : MCx} {yd : Dyn} {A : Nat → Prop} (C : OK X cX5_at RX5 2 (some (.object "MarkToBoard$Jumper")) rmX5_at A) (o : Nat) (hM0 : MT o) (h : AH) : AW X 2 ZC yd A 0 0 (QF X rmX5_at ZC yd rvR A) 9 [(0, .ref o)] [] h (X5_at_j9 o h) := by
    exact aw_aload_n (pc := 9) C (i := 0) dK_s_92.2.2.2.2.2.1 rfl rfl <|
    aw_getR (pc := 10) C (b := (o + 1)) dK_s_92.2.2.2.2.2.2.1 fl_X5_20 (mt_s hM0) rfl (mt_r5 hM0) <|
    aw_iconst (pc := 13) C (v := 0) dK_s_92.2.2.2.2.2.2.2.1 rfl <|
    aw_aald (pc := 14) C (b := (o + 6 + (0 : Int32).toNatClampNeg % 4)) dK_s_93.1 (mt_s1 hM0) rfl rfl (mt_jj hM0 _) <|
    aw_goto (pc := 15) C (tgt := 24) dK_s_93.2.1 rfl <|
    aw_aret (pc := 24) C dK_s_93.2.2.2.2.2.2.1 rfl rfl
def X5_at (o : Nat) (v1 : Int32) (h : AH) : Option (Nat × AH) :=
    if v1 < 0 then (X5_at_j9 o h)
    else (if v1 < 4 then (ck v1 4 (some ((o + 6 + v1.toNatClampNeg % 4), h)))
    else (X5_at_j9 o h))
set_option maxRecDepth 100000 in
theorem c_X5_at (l : Launch) (o : Nat) (hM0 : MT o) (v1 : Int32) : MC l yX5_at cX5_at 2 (some (.object "MarkToBoard$Jumper")) rmX5_at ZC [.ref o, .int v1] rvR (X5_at o v1) :=
  MC.of (own := RX5) pn_RX5 rfl (Nat.le_of_ble_eq_true rfl) fun X yd A h _ C =>
    aw_iload_n (pc := 0) C (i := 1) dK_s_92.1 rfl rfl <|
    aw_if_lt (pc := 1) C (tgt := 9) dK_s_92.2.1 rfl (fun _ =>
    aw_drop [0] (aX5_at_j9 C o hM0 h)) (fun _ =>
    aw_iload_n (pc := 4) C (i := 1) dK_s_92.2.2.1 rfl rfl <|
    aw_iconst (pc := 5) C (v := 4) dK_s_92.2.2.2.1 rfl <|
    aw_icmp_lt (pc := 6) C (tgt := 18) dK_s_92.2.2.2.2.1 rfl (fun _ =>
    aw_aload_n (pc := 18) C (i := 0) dK_s_93.2.2.1 rfl rfl <|
    aw_getR (pc := 19) C (b := (o + 1)) dK_s_93.2.2.2.1 fl_X5_20 (mt_s hM0) rfl (mt_r5 hM0) <|
    aw_iload_n (pc := 22) C (i := 1) dK_s_93.2.2.2.2.1 rfl rfl <|
    aw_aald (pc := 23) C (b := (o + 6 + v1.toNatClampNeg % 4)) dK_s_93.2.2.2.2.2.1 (mt_s1 hM0) rfl rfl (mt_jj hM0 _) <|
    aw_aret (pc := 24) C dK_s_93.2.2.2.2.2.2.1 rfl rfl) (fun _ =>
    aw_drop [0] (aX5_at_j9 C o hM0 h)))

abbrev rmX5_finalists : Room := { frames := 0, cells := 0, slots := 0, locals := 0 }
def X5_finalists (o : Nat) (h : AH) : Option (Int32 × AH) :=
    if (h.1 o 3) ≤ (h.1 o 2) then (some ((h.1 o 3), h))
    else (some ((h.1 o 2), h))
set_option maxRecDepth 100000 in
theorem c_X5_finalists (l : Launch) (o : Nat) (hM0 : MT o) : MC l yX5_finalists cX5_finalists 1 (some .int) rmX5_finalists ZC [.ref o] rvI (X5_finalists o) :=
  MC.of (own := RX5) pn_RX5 rfl (Nat.le_of_ble_eq_true rfl) fun X yd A h _ C =>
    aw_aload_n (pc := 0) C (i := 0) dK_s_94.1 rfl rfl <|
    aw_getI (pc := 1) C dK_s_94.2.1 fl_X5_15 (mt_s hM0) rfl <|
    aw_aload_n (pc := 4) C (i := 0) dK_s_94.2.2.1 rfl rfl <|
    aw_getI (pc := 5) C dK_s_94.2.2.2.1 fl_X5_43 (mt_s hM0) rfl <|
    aw_icmp_ge (pc := 8) C (tgt := 18) dK_s_94.2.2.2.2.1 rfl (fun _ =>
    aw_aload_n (pc := 18) C (i := 0) dK_s_95.1 rfl rfl <|
    aw_getI (pc := 19) C dK_s_95.2.1 fl_X5_43 (mt_s hM0) rfl <|
    aw_iret (pc := 22) C dK_s_95.2.2.1 rfl rfl) (fun _ =>
    aw_aload_n (pc := 11) C (i := 0) dK_s_94.2.2.2.2.2.1 rfl rfl <|
    aw_getI (pc := 12) C dK_s_94.2.2.2.2.2.2.1 fl_X5_15 (mt_s hM0) rfl <|
    aw_goto (pc := 15) C (tgt := 22) dK_s_94.2.2.2.2.2.2.2.1 rfl <|
    aw_iret (pc := 22) C dK_s_95.2.2.1 rfl rfl)

abbrev rmX5_round : Room := { frames := 1, cells := 0, slots := 0, locals := 45 }
def X5_round (o : Nat) (h : AH) : Option (Int32 × AH) :=
    bd (X5_finalists o h) fun r1 h2 =>
    if (h2.1 o 3) ≤ 0 then (some (6, h2))
    else (if 0 < r1 then (if (3 * (h2.1 o 3)) ≤ (h2.1 o 4) then (if r1 = 0 then none else (some ((mn32 6 (3 + (((h2.1 o 4) - (3 * (h2.1 o 3))) / r1))), h2)))
    else (if (h2.1 o 3) = 0 then none else (some (((h2.1 o 4) / (h2.1 o 3)), h2))))
    else (some (6, h2)))
set_option maxRecDepth 100000 in
theorem c_X5_round (l : Launch) (o : Nat) (hM0 : MT o) : MC l yX5_round cX5_round 2 (some .int) rmX5_round ZC [.ref o] rvI (X5_round o) :=
  MC.of (own := RX5) pn_RX5 rfl (Nat.le_of_ble_eq_true rfl) fun X yd A h _ C =>
    aw_aload_n (pc := 0) C (i := 0) dK_s_96.1 rfl rfl <|
    aw_callF (pc := 1) C (cr_V (rest := []) (F := (X5_finalists o)) C (c_X5_finalists X.2.1 o hM0) dK_s_96.2.1 mf_X5_finalists ml_X5_59 im_X5_finalists se_X5_finalists (mt_s hM0) rfl ⟨(Nat.le_of_ble_eq_true rfl), (Nat.le_of_ble_eq_true rfl)⟩ rfl rfl (Nat.le_of_ble_eq_true rfl)) rfl rfl rfl (Nat.zero_le _) (Nat.zero_le _) fun r1 h2 =>
    aw_istore_n (pc := 4) C (i := 1) (lv' := [(0, .ref o), (1, .int r1)]) dK_s_96.2.2.1 rfl (by decide) rfl <|
    aw_aload_n (pc := 5) C (i := 0) dK_s_96.2.2.2.1 rfl rfl <|
    aw_getI (pc := 6) C dK_s_96.2.2.2.2.1 fl_X5_43 (mt_s hM0) rfl <|
    aw_if_le (pc := 9) C (tgt := 16) dK_s_96.2.2.2.2.2.1 rfl (fun _ =>
    aw_bipush (pc := 16) C (v := 6) dK_s_97.1 rfl <|
    aw_iret (pc := 18) C dK_s_97.2.1 rfl rfl) (fun _ =>
    aw_iload_n (pc := 12) C (i := 1) dK_s_96.2.2.2.2.2.2.1 rfl rfl <|
    aw_if_gt (pc := 13) C (tgt := 19) dK_s_96.2.2.2.2.2.2.2.1 rfl (fun _ =>
    aw_aload_n (pc := 19) C (i := 0) dK_s_97.2.2.1 rfl rfl <|
    aw_getI (pc := 20) C dK_s_97.2.2.2.1 fl_X5_46 (mt_s hM0) rfl <|
    aw_iconst (pc := 23) C (v := 3) dK_s_97.2.2.2.2.1 rfl <|
    aw_aload_n (pc := 24) C (i := 0) dK_s_97.2.2.2.2.2.1 rfl rfl <|
    aw_getI (pc := 25) C dK_s_97.2.2.2.2.2.2.1 fl_X5_43 (mt_s hM0) rfl <|
    aw_imul (pc := 28) C dK_s_97.2.2.2.2.2.2.2.1 <|
    aw_icmp_ge (pc := 29) C (tgt := 44) dK_s_98.1 rfl (fun _ =>
    aw_bipush (pc := 44) C (v := 6) dK_s_98.2.2.2.2.2.2.2.1 rfl <|
    aw_iconst (pc := 46) C (v := 3) dK_s_99.1 rfl <|
    aw_aload_n (pc := 47) C (i := 0) dK_s_99.2.1 rfl rfl <|
    aw_getI (pc := 48) C dK_s_99.2.2.1 fl_X5_46 (mt_s hM0) rfl <|
    aw_iconst (pc := 51) C (v := 3) dK_s_99.2.2.2.1 rfl <|
    aw_aload_n (pc := 52) C (i := 0) dK_s_99.2.2.2.2.1 rfl rfl <|
    aw_getI (pc := 53) C dK_s_99.2.2.2.2.2.1 fl_X5_43 (mt_s hM0) rfl <|
    aw_imul (pc := 56) C dK_s_99.2.2.2.2.2.2.1 <|
    aw_isub (pc := 57) C dK_s_99.2.2.2.2.2.2.2.1 <|
    aw_iload_n (pc := 58) C (i := 1) dK_s_100.1 rfl rfl <|
    aw_idiv (pc := 59) C dK_s_100.2.1 <|
    aw_iadd (pc := 60) C dK_s_100.2.2.1 <|
    aw_mmin (pc := 61) C dK_s_100.2.2.2.1 ml_X5_63 w_mminS w_mI w_mminC ⟨(Nat.le_of_ble_eq_true rfl), (Nat.le_of_ble_eq_true rfl)⟩ (Nat.zero_le _) (Nat.zero_le _) <|
    aw_iret (pc := 64) C dK_s_100.2.2.2.2.1 rfl rfl) (fun _ =>
    aw_aload_n (pc := 32) C (i := 0) dK_s_98.2.1 rfl rfl <|
    aw_getI (pc := 33) C dK_s_98.2.2.1 fl_X5_46 (mt_s hM0) rfl <|
    aw_aload_n (pc := 36) C (i := 0) dK_s_98.2.2.2.1 rfl rfl <|
    aw_getI (pc := 37) C dK_s_98.2.2.2.2.1 fl_X5_43 (mt_s hM0) rfl <|
    aw_idiv (pc := 40) C dK_s_98.2.2.2.2.2.1 <|
    aw_goto (pc := 41) C (tgt := 64) dK_s_98.2.2.2.2.2.2.1 rfl <|
    aw_iret (pc := 64) C dK_s_100.2.2.2.2.1 rfl rfl)) (fun _ =>
    aw_bipush (pc := 16) C (v := 6) dK_s_97.1 rfl <|
    aw_iret (pc := 18) C dK_s_97.2.1 rfl rfl))
end
section
abbrev rmJ7_fill_53178 : Room := { frames := 0, cells := 0, slots := 0, locals := 0 }
def J7_fill_53178_l5 (p0 : Nat) (n0 : Nat) (v1 : Int32) (v3 : Int32) : Nat → Int32 → AH → Option (Unit × AH)
  | 0, _, _ => none
  | n + 1, v2, h =>
    if v3 ≤ v2 then (some ((), h))
    else (ck v2 n0 (vl (sI h p0 v2.toNatClampNeg v1) fun h2 =>
    vl (v2 + 1) fun x3 =>
    (J7_fill_53178_l5 p0 n0 v1 v3 n) x3 h2))
set_option maxRecDepth 100000 in
theorem aJ7_fill_53178_l5 {X : MCx} {yd : Dyn} {A : Nat → Prop} (C : OK X cJ7_fill_53178 RJ7 4 none rmJ7_fill_53178 A) (Z : Stc) (p0 : Nat) (n0 : Nat) (t0 : Nat) (hA0 : Z.1[p0]? = some (.inl (t0, 0, n0))) (hT0 : Z.2.2.2[t0]? = some .int) (v1 : Int32) (v3 : Int32) : ∀ (n : Nat) (v2 : Int32) (h : AH), AW X 4 Z yd A 0 0 (QF X rmJ7_fill_53178 Z yd rvV A) 5 [(0, .ref p0), (1, .int v1), (2, .int v2), (3, .int v3)] [] h (J7_fill_53178_l5 p0 n0 v1 v3 n v2 h) := by
  intro n
  induction n with
  | zero => intro v2 h; exact aw_none
  | succ n ih =>
    intro v2 h
    exact aw_iload_n (pc := 5) C (i := 2) dK_s_2.2.2.2.2.2.1 rfl rfl <|
    aw_iload_n (pc := 6) C (i := 3) dK_s_2.2.2.2.2.2.2.1 rfl rfl <|
    aw_icmp_ge (pc := 7) C (tgt := 20) dK_s_2.2.2.2.2.2.2.2.1 rfl (fun _ =>
    aw_vret (pc := 20) C dK_s_3.2.2.2.2.2.2.1 rfl rfl) (fun _ =>
    aw_aload_n (pc := 10) C (i := 0) dK_s_3.1 rfl rfl <|
    aw_iload_n (pc := 11) C (i := 2) dK_s_3.2.1 rfl rfl <|
    aw_iload_n (pc := 12) C (i := 1) dK_s_3.2.2.1 rfl rfl <|
    aw_iast (pc := 13) C dK_s_3.2.2.2.1 hA0 hT0 fun h2 =>
    aw_iincV (pc := 14) C (i := 2) (cst := 1) (fun x3 => [(0, .ref p0), (1, .int v1), (2, .int x3), (3, .int v3)]) dK_s_3.2.2.2.2.1 rfl rfl (by decide) (fun _ => rfl) fun x3 =>
    aw_goto (pc := 17) C (tgt := 5) dK_s_3.2.2.2.2.2.1 rfl <|
    (ih x3 h2))
def J7_fill_53178 (p0 : Nat) (n0 : Nat) (v1 : Int32) (h : AH) : Option (Unit × AH) :=
    vl (Int32.ofNat n0) fun x1 =>
    J7_fill_53178_l5 p0 n0 v1 x1 FU 0 h
set_option maxRecDepth 100000 in
theorem c_J7_fill_53178 (l : Launch) (Z : Stc) (p0 : Nat) (n0 : Nat) (t0 : Nat) (hA0 : Z.1[p0]? = some (.inl (t0, 0, n0))) (hT0 : Z.2.2.2[t0]? = some .int) (v1 : Int32) : MC l yJ7_fill_53178 cJ7_fill_53178 4 none rmJ7_fill_53178 Z [.ref p0, .int v1] rvV (J7_fill_53178 p0 n0 v1) :=
  MC.of (own := RJ7) pn_RJ7 rfl (Nat.le_of_ble_eq_true rfl) fun X yd A h _ C =>
    aw_iconst (pc := 0) C (v := 0) dK_s_2.1 rfl <|
    aw_istore_n (pc := 1) C (i := 2) (lv' := [(0, .ref p0), (1, .int v1), (2, .int 0)]) dK_s_2.2.1 rfl (by decide) rfl <|
    aw_aload_n (pc := 2) C (i := 0) dK_s_2.2.2.1 rfl rfl <|
    aw_alenI (pc := 3) C (v := (Int32.ofNat n0)) (by decide) dK_s_2.2.2.2.1 hA0 hT0 rfl <|
    aw_istoreV_n (pc := 4) C (i := 3) (fun x1 => [(0, .ref p0), (1, .int v1), (2, .int 0), (3, .int x1)]) dK_s_2.2.2.2.2.1 rfl (by decide) (fun _ => rfl) fun x1 =>
    (aJ7_fill_53178_l5 C Z p0 n0 t0 hA0 hT0 v1 x1 FU 0 h)

abbrev rmX6_start : Room := { frames := 1, cells := 0, slots := 0, locals := 45 }
def X6_start (v1 : Int32) (h : AH) : Option (Unit × AH) :=
    vl (sI h 5 0 (mx32 0 (mn32 4 v1))) fun h1 =>
    bd (J7_fill_53178 6 4 0 h1) fun _ h3 =>
    bd (J7_fill_53178 7 4 0 h3) fun _ h5 =>
    some ((), h5)
set_option maxRecDepth 100000 in
theorem c_X6_start (l : Launch) (v1 : Int32) : MC l yX6_start cX6_start 2 none rmX6_start ZC [.ref 5, .int v1] rvV (X6_start v1) :=
  MC.of (own := RX6) pn_RX6 rfl (Nat.le_of_ble_eq_true rfl) fun X yd A h _ C =>
    aw_aload_n (pc := 0) C (i := 0) dK_s_138.1 rfl rfl <|
    aw_iconst (pc := 1) C (v := 0) dK_s_138.2.1 rfl <|
    aw_iconst (pc := 2) C (v := 4) dK_s_138.2.2.1 rfl <|
    aw_iload_n (pc := 3) C (i := 1) dK_s_138.2.2.2.1 rfl rfl <|
    aw_mmin (pc := 4) C dK_s_138.2.2.2.2.1 ml_X6_18 w_mminS w_mI w_mminC ⟨(Nat.le_of_ble_eq_true rfl), (Nat.le_of_ble_eq_true rfl)⟩ (Nat.zero_le _) (Nat.zero_le _) <|
    aw_mmax (pc := 7) C dK_s_138.2.2.2.2.2.1 ml_X6_24 w_mmaxS w_mI w_mmaxC ⟨(Nat.le_of_ble_eq_true rfl), (Nat.le_of_ble_eq_true rfl)⟩ (Nat.zero_le _) (Nat.zero_le _) <|
    aw_putI (pc := 10) C dK_s_138.2.2.2.2.2.2.1 fp_X6_27 sC_5 rfl fun h1 =>
    aw_aload_n (pc := 13) C (i := 0) dK_s_138.2.2.2.2.2.2.2.1 rfl rfl <|
    aw_getR (pc := 14) C (b := 6) dK_s_139.1 fl_X6_9 sC_5 rfl rC_5_1 <|
    aw_iconst (pc := 17) C (v := 0) dK_s_139.2.1 rfl <|
    aw_callF (pc := 18) C (cr_S (rest := []) (F := (J7_fill_53178 6 4 0)) C (c_J7_fill_53178 X.2.1 ZC 6 4 0 sC_6 rfl 0) dK_s_139.2.2.1 mf_J7_fill_53178 ml_X6_31 st_J7_fill_53178 ⟨(Nat.le_of_ble_eq_true rfl), (Nat.le_of_ble_eq_true rfl)⟩ rfl rfl (Nat.le_of_ble_eq_true rfl)) rfl rfl rfl (Nat.zero_le _) (Nat.zero_le _) fun _ h3 =>
    aw_aload_n (pc := 21) C (i := 0) dK_s_139.2.2.2.1 rfl rfl <|
    aw_getR (pc := 22) C (b := 7) dK_s_139.2.2.2.2.1 fl_X6_15 sC_5 rfl rC_5_2 <|
    aw_iconst (pc := 25) C (v := 0) dK_s_139.2.2.2.2.2.1 rfl <|
    aw_callF (pc := 26) C (cr_S (rest := []) (F := (J7_fill_53178 7 4 0)) C (c_J7_fill_53178 X.2.1 ZC 7 4 0 sC_7 rfl 0) dK_s_139.2.2.2.2.2.2.1 mf_J7_fill_53178 ml_X6_31 st_J7_fill_53178 ⟨(Nat.le_of_ble_eq_true rfl), (Nat.le_of_ble_eq_true rfl)⟩ rfl rfl (Nat.le_of_ble_eq_true rfl)) rfl rfl rfl (Nat.zero_le _) (Nat.zero_le _) fun _ h5 =>
    aw_vret (pc := 29) C dK_s_139.2.2.2.2.2.2.2.1 rfl rfl

abbrev rmX5_lengthBy : Room := { frames := 0, cells := 0, slots := 0, locals := 0 }
def X5_lengthBy (o : Nat) (v1 : Int32) (v2 : Int32) (h : AH) : Option (Int32 × AH) :=
    ck v2 24 (if 0 ≤ (h.1 (o + 4) v2.toNatClampNeg) then (if v1 = 1 then (ck v2 24 (ck v2 24 (some (((h.1 (o + 4) v2.toNatClampNeg) + (h.1 (o + 3) v2.toNatClampNeg)), h))))
    else (ck v2 24 (some ((h.1 (o + 4) v2.toNatClampNeg), h))))
    else (if v1 = 2 then (ck v2 24 (if (h.1 (o + 4) v2.toNatClampNeg) = (-9) then (ck v2 24 (some ((h.1 (o + 5) v2.toNatClampNeg), h)))
    else (some (0, h))))
    else (some (0, h))))
set_option maxRecDepth 100000 in
theorem c_X5_lengthBy (l : Launch) (o : Nat) (hM0 : MT o) (v1 : Int32) (v2 : Int32) : MC l yX5_lengthBy cX5_lengthBy 3 (some .int) rmX5_lengthBy ZC [.ref o, .int v1, .int v2] rvI (X5_lengthBy o v1 v2) :=
  MC.of (own := RX5) pn_RX5 rfl (Nat.le_of_ble_eq_true rfl) fun X yd A h _ C =>
    aw_aload_n (pc := 0) C (i := 0) dK_s_116.1 rfl rfl <|
    aw_getR (pc := 1) C (b := (o + 4)) dK_s_116.2.1 fl_X5_31 (mt_s hM0) rfl (mt_r8 hM0) <|
    aw_iload_n (pc := 4) C (i := 2) dK_s_116.2.2.1 rfl rfl <|
    aw_iald (pc := 5) C dK_s_116.2.2.2.1 (mt_s4 hM0) rfl <|
    aw_if_ge (pc := 6) C (tgt := 36) dK_s_116.2.2.2.2.1 rfl (fun _ =>
    aw_iload_n (pc := 36) C (i := 1) dK_s_118.2.2.2.2.2.1 rfl rfl <|
    aw_iconst (pc := 37) C (v := 1) dK_s_118.2.2.2.2.2.2.1 rfl <|
    aw_icmp_ne (pc := 38) C (tgt := 57) dK_s_118.2.2.2.2.2.2.2.1 rfl (fun _ =>
    aw_aload_n (pc := 41) C (i := 0) dK_s_119.1 rfl rfl <|
    aw_getR (pc := 42) C (b := (o + 4)) dK_s_119.2.1 fl_X5_31 (mt_s hM0) rfl (mt_r8 hM0) <|
    aw_iload_n (pc := 45) C (i := 2) dK_s_119.2.2.1 rfl rfl <|
    aw_iald (pc := 46) C dK_s_119.2.2.2.1 (mt_s4 hM0) rfl <|
    aw_aload_n (pc := 47) C (i := 0) dK_s_119.2.2.2.2.1 rfl rfl <|
    aw_getR (pc := 48) C (b := (o + 3)) dK_s_119.2.2.2.2.2.1 fl_X5_28 (mt_s hM0) rfl (mt_r7 hM0) <|
    aw_iload_n (pc := 51) C (i := 2) dK_s_119.2.2.2.2.2.2.1 rfl rfl <|
    aw_iald (pc := 52) C dK_s_119.2.2.2.2.2.2.2.1 (mt_s3 hM0) rfl <|
    aw_iadd (pc := 53) C dK_s_120.1 <|
    aw_goto (pc := 54) C (tgt := 63) dK_s_120.2.1 rfl <|
    aw_iret (pc := 63) C dK_s_120.2.2.2.2.2.2.1 rfl rfl) (fun _ =>
    aw_aload_n (pc := 57) C (i := 0) dK_s_120.2.2.1 rfl rfl <|
    aw_getR (pc := 58) C (b := (o + 4)) dK_s_120.2.2.2.1 fl_X5_31 (mt_s hM0) rfl (mt_r8 hM0) <|
    aw_iload_n (pc := 61) C (i := 2) dK_s_120.2.2.2.2.1 rfl rfl <|
    aw_iald (pc := 62) C dK_s_120.2.2.2.2.2.1 (mt_s4 hM0) rfl <|
    aw_iret (pc := 63) C dK_s_120.2.2.2.2.2.2.1 rfl rfl)) (fun _ =>
    aw_iload_n (pc := 9) C (i := 1) dK_s_116.2.2.2.2.2.1 rfl rfl <|
    aw_iconst (pc := 10) C (v := 2) dK_s_116.2.2.2.2.2.2.1 rfl <|
    aw_icmp_ne (pc := 11) C (tgt := 34) dK_s_116.2.2.2.2.2.2.2.1 rfl (fun _ =>
    aw_aload_n (pc := 14) C (i := 0) dK_s_117.1 rfl rfl <|
    aw_getR (pc := 15) C (b := (o + 4)) dK_s_117.2.1 fl_X5_31 (mt_s hM0) rfl (mt_r8 hM0) <|
    aw_iload_n (pc := 18) C (i := 2) dK_s_117.2.2.1 rfl rfl <|
    aw_iald (pc := 19) C dK_s_117.2.2.2.1 (mt_s4 hM0) rfl <|
    aw_bipush (pc := 20) C (v := (-9)) dK_s_117.2.2.2.2.1 rfl <|
    aw_icmp_ne (pc := 22) C (tgt := 34) dK_s_117.2.2.2.2.2.1 rfl (fun _ =>
    aw_aload_n (pc := 25) C (i := 0) dK_s_117.2.2.2.2.2.2.1 rfl rfl <|
    aw_getR (pc := 26) C (b := (o + 5)) dK_s_117.2.2.2.2.2.2.2.1 fl_X5_34 (mt_s hM0) rfl (mt_r9 hM0) <|
    aw_iload_n (pc := 29) C (i := 2) dK_s_118.1 rfl rfl <|
    aw_iald (pc := 30) C dK_s_118.2.1 (mt_s5 hM0) rfl <|
    aw_goto (pc := 31) C (tgt := 35) dK_s_118.2.2.1 rfl <|
    aw_iret (pc := 35) C dK_s_118.2.2.2.2.1 rfl rfl) (fun _ =>
    aw_iconst (pc := 34) C (v := 0) dK_s_118.2.2.2.1 rfl <|
    aw_iret (pc := 35) C dK_s_118.2.2.2.2.1 rfl rfl)) (fun _ =>
    aw_iconst (pc := 34) C (v := 0) dK_s_118.2.2.2.1 rfl <|
    aw_iret (pc := 35) C dK_s_118.2.2.2.2.1 rfl rfl))

abbrev rmX6_add : Room := { frames := 0, cells := 0, slots := 0, locals := 0 }
def X6_add (v1 : Int32) (v2 : Int32) (h : AH) : Option (Unit × AH) :=
    if v1 < 0 then (some ((), h))
    else (if v1 < 4 then (ck v1 4 (if v2 ≤ (h.1 6 v1.toNatClampNeg) then (ck v1 4 (if v2 ≤ (h.1 7 v1.toNatClampNeg) then (some ((), h))
    else (ck v1 4 (vl (sI h 7 v1.toNatClampNeg v2) fun h1 =>
    some ((), h1)))))
    else (ck v1 4 (ck v1 4 (vl (sI h 7 v1.toNatClampNeg (h.1 6 v1.toNatClampNeg)) fun h2 =>
    ck v1 4 (vl (sI h2 6 v1.toNatClampNeg v2) fun h3 =>
    some ((), h3)))))))
    else (some ((), h)))
set_option maxRecDepth 100000 in
theorem c_X6_add (l : Launch) (v1 : Int32) (v2 : Int32) : MC l yX6_add cX6_add 3 none rmX6_add ZC [.ref 5, .int v1, .int v2] rvV (X6_add v1 v2) :=
  MC.of (own := RX6) pn_RX6 rfl (Nat.le_of_ble_eq_true rfl) fun X yd A h _ C =>
    aw_iload_n (pc := 0) C (i := 1) dK_s_140.1 rfl rfl <|
    aw_if_lt (pc := 1) C (tgt := 9) dK_s_140.2.1 rfl (fun _ =>
    aw_vret (pc := 9) C dK_s_140.2.2.2.2.2.1 rfl rfl) (fun _ =>
    aw_iload_n (pc := 4) C (i := 1) dK_s_140.2.2.1 rfl rfl <|
    aw_iconst (pc := 5) C (v := 4) dK_s_140.2.2.2.1 rfl <|
    aw_icmp_lt (pc := 6) C (tgt := 10) dK_s_140.2.2.2.2.1 rfl (fun _ =>
    aw_iload_n (pc := 10) C (i := 2) dK_s_140.2.2.2.2.2.2.1 rfl rfl <|
    aw_aload_n (pc := 11) C (i := 0) dK_s_140.2.2.2.2.2.2.2.1 rfl rfl <|
    aw_getR (pc := 12) C (b := 6) dK_s_141.1 fl_X6_9 sC_5 rfl rC_5_1 <|
    aw_iload_n (pc := 15) C (i := 1) dK_s_141.2.1 rfl rfl <|
    aw_iald (pc := 16) C dK_s_141.2.2.1 sC_6 rfl <|
    aw_icmp_le (pc := 17) C (tgt := 42) dK_s_141.2.2.2.1 rfl (fun _ =>
    aw_iload_n (pc := 42) C (i := 2) dK_s_143.2.2.1 rfl rfl <|
    aw_aload_n (pc := 43) C (i := 0) dK_s_143.2.2.2.1 rfl rfl <|
    aw_getR (pc := 44) C (b := 7) dK_s_143.2.2.2.2.1 fl_X6_15 sC_5 rfl rC_5_2 <|
    aw_iload_n (pc := 47) C (i := 1) dK_s_143.2.2.2.2.2.1 rfl rfl <|
    aw_iald (pc := 48) C dK_s_143.2.2.2.2.2.2.1 sC_7 rfl <|
    aw_icmp_le (pc := 49) C (tgt := 59) dK_s_143.2.2.2.2.2.2.2.1 rfl (fun _ =>
    aw_vret (pc := 59) C dK_s_144.2.2.2.2.2.1 rfl rfl) (fun _ =>
    aw_aload_n (pc := 52) C (i := 0) dK_s_144.1 rfl rfl <|
    aw_getR (pc := 53) C (b := 7) dK_s_144.2.1 fl_X6_15 sC_5 rfl rC_5_2 <|
    aw_iload_n (pc := 56) C (i := 1) dK_s_144.2.2.1 rfl rfl <|
    aw_iload_n (pc := 57) C (i := 2) dK_s_144.2.2.2.1 rfl rfl <|
    aw_iast (pc := 58) C dK_s_144.2.2.2.2.1 sC_7 rfl fun h1 =>
    aw_vret (pc := 59) C dK_s_144.2.2.2.2.2.1 rfl rfl)) (fun _ =>
    aw_aload_n (pc := 20) C (i := 0) dK_s_141.2.2.2.2.1 rfl rfl <|
    aw_getR (pc := 21) C (b := 7) dK_s_141.2.2.2.2.2.1 fl_X6_15 sC_5 rfl rC_5_2 <|
    aw_iload_n (pc := 24) C (i := 1) dK_s_141.2.2.2.2.2.2.1 rfl rfl <|
    aw_aload_n (pc := 25) C (i := 0) dK_s_141.2.2.2.2.2.2.2.1 rfl rfl <|
    aw_getR (pc := 26) C (b := 6) dK_s_142.1 fl_X6_9 sC_5 rfl rC_5_1 <|
    aw_iload_n (pc := 29) C (i := 1) dK_s_142.2.1 rfl rfl <|
    aw_iald (pc := 30) C dK_s_142.2.2.1 sC_6 rfl <|
    aw_iast (pc := 31) C dK_s_142.2.2.2.1 sC_7 rfl fun h2 =>
    aw_aload_n (pc := 32) C (i := 0) dK_s_142.2.2.2.2.1 rfl rfl <|
    aw_getR (pc := 33) C (b := 6) dK_s_142.2.2.2.2.2.1 fl_X6_9 sC_5 rfl rC_5_1 <|
    aw_iload_n (pc := 36) C (i := 1) dK_s_142.2.2.2.2.2.2.1 rfl rfl <|
    aw_iload_n (pc := 37) C (i := 2) dK_s_142.2.2.2.2.2.2.2.1 rfl rfl <|
    aw_iast (pc := 38) C dK_s_143.1 sC_6 rfl fun h3 =>
    aw_goto (pc := 39) C (tgt := 59) dK_s_143.2.1 rfl <|
    aw_vret (pc := 59) C dK_s_144.2.2.2.2.2.1 rfl rfl)) (fun _ =>
    aw_vret (pc := 9) C dK_s_140.2.2.2.2.2.1 rfl rfl))

abbrev rmX5_rank : Room := { frames := 2, cells := 0, slots := 0, locals := 66 }
def X5_rank_l11 (o : Nat) (v2 : Int32) (v3 : Int32) : Nat → Int32 → AH → Option (Unit × AH)
  | 0, _, _ => none
  | n + 1, v4, h =>
    if v3 ≤ v4 then (some ((), h))
    else (if (h.1 o 4) ≤ v4 then (some ((), h))
    else (ck v4 24 (bd (X5_lengthBy o v2 v4 h) fun r3 h4 =>
    bd (X6_add (h.1 (o + 2) v4.toNatClampNeg) r3 h4) fun _ h6 =>
    vl (v4 + 1) fun x7 =>
    (X5_rank_l11 o v2 v3 n) x7 h6)))
set_option maxRecDepth 100000 in
theorem aX5_rank_l11 {X : MCx} {yd : Dyn} {A : Nat → Prop} (C : OK X cX5_rank RX5 5 none rmX5_rank A) (o : Nat) (hM0 : MT o) (v2 : Int32) (v3 : Int32) : ∀ (n : Nat) (v4 : Int32) (h : AH), AW X 5 ZC yd A 0 0 (QF X rmX5_rank ZC yd rvV A) 11 [(0, .ref o), (1, .ref 5), (2, .int v2), (3, .int v3), (4, .int v4)] [] h (X5_rank_l11 o v2 v3 n v4 h) := by
  intro n
  induction n with
  | zero => intro v4 h; exact aw_none
  | succ n ih =>
    intro v4 h
    exact aw_iload (pc := 11) C (i := 4) dK_s_121.2.2.2.2.2.2.1 rfl <|
    aw_iload_n (pc := 13) C (i := 3) dK_s_121.2.2.2.2.2.2.2.1 rfl rfl <|
    aw_icmp_ge (pc := 14) C (tgt := 50) dK_s_122.1 rfl (fun _ =>
    aw_vret (pc := 50) C dK_s_124.2.1 rfl rfl) (fun _ =>
    aw_iload (pc := 17) C (i := 4) dK_s_122.2.1 rfl <|
    aw_aload_n (pc := 19) C (i := 0) dK_s_122.2.2.1 rfl rfl <|
    aw_getI (pc := 20) C dK_s_122.2.2.2.1 fl_X5_46 (mt_s hM0) rfl <|
    aw_icmp_ge (pc := 23) C (tgt := 50) dK_s_122.2.2.2.2.1 rfl (fun _ =>
    aw_vret (pc := 50) C dK_s_124.2.1 rfl rfl) (fun _ =>
    aw_aload_n (pc := 26) C (i := 1) dK_s_122.2.2.2.2.2.1 rfl rfl <|
    aw_aload_n (pc := 27) C (i := 0) dK_s_122.2.2.2.2.2.2.1 rfl rfl <|
    aw_getR (pc := 28) C (b := (o + 2)) dK_s_122.2.2.2.2.2.2.2.1 fl_X5_24 (mt_s hM0) rfl (mt_r6 hM0) <|
    aw_iload (pc := 31) C (i := 4) dK_s_123.1 rfl <|
    aw_iald (pc := 33) C dK_s_123.2.1 (mt_s2 hM0) rfl <|
    aw_aload_n (pc := 34) C (i := 0) dK_s_123.2.2.1 rfl rfl <|
    aw_iload_n (pc := 35) C (i := 2) dK_s_123.2.2.2.1 rfl rfl <|
    aw_iload (pc := 36) C (i := 4) dK_s_123.2.2.2.2.1 rfl <|
    aw_callF (pc := 38) C (cr_V (rest := [.int (h.1 (o + 2) v4.toNatClampNeg), .ref 5]) (F := (X5_lengthBy o v2 v4)) C (c_X5_lengthBy X.2.1 o hM0 v2 v4) dK_s_123.2.2.2.2.2.1 mf_X5_lengthBy ml_X5_99 im_X5_lengthBy se_X5_lengthBy (mt_s hM0) rfl ⟨(Nat.le_of_ble_eq_true rfl), (Nat.le_of_ble_eq_true rfl)⟩ rfl rfl (Nat.le_of_ble_eq_true rfl)) rfl rfl rfl (Nat.zero_le _) (Nat.zero_le _) fun r3 h4 =>
    aw_callF (pc := 41) C (cr_V (rest := []) (F := (X6_add (h.1 (o + 2) v4.toNatClampNeg) r3)) C (c_X6_add X.2.1 (h.1 (o + 2) v4.toNatClampNeg) r3) dK_s_123.2.2.2.2.2.2.1 mf_X6_add ml_X5_102 im_X6_add se_X6_add sC_5 rfl ⟨(Nat.le_of_ble_eq_true rfl), (Nat.le_of_ble_eq_true rfl)⟩ rfl rfl (Nat.le_of_ble_eq_true rfl)) rfl rfl rfl (Nat.zero_le _) (Nat.zero_le _) fun _ h6 =>
    aw_iincV (pc := 44) C (i := 4) (cst := 1) (fun x7 => [(0, .ref o), (1, .ref 5), (2, .int v2), (3, .int v3), (4, .int x7)]) dK_s_123.2.2.2.2.2.2.2.1 rfl rfl (by decide) (fun _ => rfl) fun x7 =>
    aw_goto (pc := 47) C (tgt := 11) dK_s_124.1 rfl <|
    (ih x7 h6)))
def X5_rank (o : Nat) (v2 : Int32) (v3 : Int32) (h : AH) : Option (Unit × AH) :=
    bd (X6_start (h.1 o 3) h) fun _ h2 =>
    X5_rank_l11 o v2 v3 FU 0 h2
set_option maxRecDepth 100000 in
theorem c_X5_rank (l : Launch) (o : Nat) (hM0 : MT o) (v2 : Int32) (v3 : Int32) : MC l yX5_rank cX5_rank 5 none rmX5_rank ZC [.ref o, .ref 5, .int v2, .int v3] rvV (X5_rank o v2 v3) :=
  MC.of (own := RX5) pn_RX5 rfl (Nat.le_of_ble_eq_true rfl) fun X yd A h _ C =>
    aw_aload_n (pc := 0) C (i := 1) dK_s_121.1 rfl rfl <|
    aw_aload_n (pc := 1) C (i := 0) dK_s_121.2.1 rfl rfl <|
    aw_getI (pc := 2) C dK_s_121.2.2.1 fl_X5_43 (mt_s hM0) rfl <|
    aw_callF (pc := 5) C (cr_V (rest := []) (F := (X6_start (h.1 o 3))) C (c_X6_start X.2.1 (h.1 o 3)) dK_s_121.2.2.2.1 mf_X6_start ml_X5_95 im_X6_start se_X6_start sC_5 rfl ⟨(Nat.le_of_ble_eq_true rfl), (Nat.le_of_ble_eq_true rfl)⟩ rfl rfl (Nat.le_of_ble_eq_true rfl)) rfl rfl rfl (Nat.zero_le _) (Nat.zero_le _) fun _ h2 =>
    aw_iconst (pc := 8) C (v := 0) dK_s_121.2.2.2.2.1 rfl <|
    aw_istore (pc := 9) C (i := 4) (lv' := [(0, .ref o), (1, .ref 5), (2, .int v2), (3, .int v3), (4, .int 0)]) dK_s_121.2.2.2.2.2.1 (by decide) rfl <|
    (aX5_rank_l11 C o hM0 v2 v3 FU 0 h2)

abbrev rmX6_ahead : Room := { frames := 1, cells := 0, slots := 0, locals := 45 }
def X6_ahead_j157  (v1 : Int32) (v3 : Int32) (v4 : Int32) (v6 : Int32) (K55 : Int32 → Int32 → AH → Option (Int32 × AH)) (s0 : Int32) (s1 : Int32) (h : AH) : Option (Int32 × AH) :=
    vl (s1 + s0) fun x3 =>
    vl (v6 + 1) fun x4 =>
    K55 x3 x4 h
set_option maxRecDepth 100000 in
theorem aX6_ahead_j157 {X : MCx} {yd : Dyn} {A : Nat → Prop} (C : OK X cX6_ahead RX6 8 (some .int) rmX6_ahead A)  (v1 : Int32) (v3 : Int32) (v4 : Int32) (v6 : Int32) (K55 : Int32 → Int32 → AH → Option (Int32 × AH)) (hK55 : ∀ (w5 : Int32) (w6 : Int32) (h : AH), AW X 8 ZC yd A 0 0 (QF X rmX6_ahead ZC yd rvI A) 55 [(0, .ref 5), (1, .int v1), (3, .int v3), (4, .int v4), (5, .int w5), (6, .int w6)] [] h (K55 w5 w6 h)) (s0 : Int32) (s1 : Int32) (h : AH) : AW X 8 ZC yd A 0 0 (QF X rmX6_ahead ZC yd rvI A) 157 [(0, .ref 5), (1, .int v1), (3, .int v3), (4, .int v4), (6, .int v6)] [.int s0, .int s1] h (X6_ahead_j157 v1 v3 v4 v6 K55 s0 s1 h) := by
    exact aw_iadd (pc := 157) C dK_s_159.2.2.2.2.1 <|
    aw_istoreV (pc := 158) C (i := 5) (fun x3 => [(0, .ref 5), (1, .int v1), (3, .int v3), (4, .int v4), (5, .int x3), (6, .int v6)]) dK_s_159.2.2.2.2.2.1 (by decide) (fun _ => rfl) fun x3 =>
    aw_iincV (pc := 160) C (i := 6) (cst := 1) (fun x4 => [(0, .ref 5), (1, .int v1), (3, .int v3), (4, .int v4), (5, .int x3), (6, .int x4)]) dK_s_159.2.2.2.2.2.2.1 rfl rfl (by decide) (fun _ => rfl) fun x4 =>
    aw_goto (pc := 163) C (tgt := 55) dK_s_159.2.2.2.2.2.2.2.1 rfl <|
    (hK55 x3 x4 h)
def X6_ahead_j156  (v1 : Int32) (v3 : Int32) (v4 : Int32) (v6 : Int32) (K55 : Int32 → Int32 → AH → Option (Int32 × AH)) (s0 : Int32) (h : AH) : Option (Int32 × AH) :=
    X6_ahead_j157 v1 v3 v4 v6 K55 0 s0 h
set_option maxRecDepth 100000 in
theorem aX6_ahead_j156 {X : MCx} {yd : Dyn} {A : Nat → Prop} (C : OK X cX6_ahead RX6 8 (some .int) rmX6_ahead A)  (v1 : Int32) (v3 : Int32) (v4 : Int32) (v6 : Int32) (K55 : Int32 → Int32 → AH → Option (Int32 × AH)) (hK55 : ∀ (w5 : Int32) (w6 : Int32) (h : AH), AW X 8 ZC yd A 0 0 (QF X rmX6_ahead ZC yd rvI A) 55 [(0, .ref 5), (1, .int v1), (3, .int v3), (4, .int v4), (5, .int w5), (6, .int w6)] [] h (K55 w5 w6 h)) (s0 : Int32) (h : AH) : AW X 8 ZC yd A 0 0 (QF X rmX6_ahead ZC yd rvI A) 156 [(0, .ref 5), (1, .int v1), (3, .int v3), (4, .int v4), (6, .int v6)] [.int s0] h (X6_ahead_j156 v1 v3 v4 v6 K55 s0 h) := by
    exact aw_iconst (pc := 156) C (v := 0) dK_s_159.2.2.2.1 rfl <|
    (aX6_ahead_j157 C v1 v3 v4 v6 K55 hK55 0 s0 h)
def X6_ahead_j137  (v1 : Int32) (v3 : Int32) (v4 : Int32) (v5 : Int32) (v6 : Int32) (K55 : Int32 → Int32 → AH → Option (Int32 × AH)) (s0 : Int32) (h : AH) : Option (Int32 × AH) :=
    if v6 = v1 then (X6_ahead_j156 v1 v3 v4 v6 K55 v5 h)
    else (if s0 = 0 then (X6_ahead_j156 v1 v3 v4 v6 K55 v5 h)
    else (X6_ahead_j157 v1 v3 v4 v6 K55 1 v5 h))
set_option maxRecDepth 100000 in
theorem aX6_ahead_j137 {X : MCx} {yd : Dyn} {A : Nat → Prop} (C : OK X cX6_ahead RX6 8 (some .int) rmX6_ahead A)  (v1 : Int32) (v3 : Int32) (v4 : Int32) (v5 : Int32) (v6 : Int32) (K55 : Int32 → Int32 → AH → Option (Int32 × AH)) (hK55 : ∀ (w5 : Int32) (w6 : Int32) (h : AH), AW X 8 ZC yd A 0 0 (QF X rmX6_ahead ZC yd rvI A) 55 [(0, .ref 5), (1, .int v1), (3, .int v3), (4, .int v4), (5, .int w5), (6, .int w6)] [] h (K55 w5 w6 h)) (s0 : Int32) (h : AH) : AW X 8 ZC yd A 0 0 (QF X rmX6_ahead ZC yd rvI A) 137 [(0, .ref 5), (1, .int v1), (3, .int v3), (4, .int v4), (5, .int v5), (6, .int v6)] [.int s0] h (X6_ahead_j137 v1 v3 v4 v5 v6 K55 s0 h) := by
    exact aw_istore (pc := 137) C (i := 7) (lv' := [(0, .ref 5), (1, .int v1), (3, .int v3), (4, .int v4), (5, .int v5), (6, .int v6), (7, .int s0)]) dK_s_158.2.2.1 (by decide) rfl <|
    aw_iload (pc := 139) C (i := 5) dK_s_158.2.2.2.1 rfl <|
    aw_iload (pc := 141) C (i := 6) dK_s_158.2.2.2.2.1 rfl <|
    aw_iload_n (pc := 143) C (i := 1) dK_s_158.2.2.2.2.2.1 rfl rfl <|
    aw_icmp_eq (pc := 144) C (tgt := 156) dK_s_158.2.2.2.2.2.2.1 rfl (fun _ =>
    aw_drop [0, 1, 2, 3, 5] (aX6_ahead_j156 C v1 v3 v4 v6 K55 hK55 v5 h)) (fun _ =>
    aw_iload (pc := 147) C (i := 7) dK_s_158.2.2.2.2.2.2.2.1 rfl <|
    aw_if_eq (pc := 149) C (tgt := 156) dK_s_159.1 rfl (fun _ =>
    aw_drop [0, 1, 2, 3, 5] (aX6_ahead_j156 C v1 v3 v4 v6 K55 hK55 v5 h)) (fun _ =>
    aw_iconst (pc := 152) C (v := 1) dK_s_159.2.1 rfl <|
    aw_goto (pc := 153) C (tgt := 157) dK_s_159.2.2.1 rfl <|
    aw_drop [0, 1, 2, 3, 5] (aX6_ahead_j157 C v1 v3 v4 v6 K55 hK55 1 v5 h)))
def X6_ahead_l55  (v1 : Int32) (v3 : Int32) (v4 : Int32) : Nat → Int32 → Int32 → AH → Option (Int32 × AH)
  | 0, _, _, _ => none
  | n + 1, v5, v6, h =>
    if (h.1 5 0) ≤ v6 then (some (v5, h))
    else (ck v6 4 (if (h.1 6 v6.toNatClampNeg) = v3 then (ck v6 4 (if (h.1 7 v6.toNatClampNeg) = v4 then (if v1 ≤ v6 then (X6_ahead_j137 v1 v3 v4 v5 v6 (X6_ahead_l55 v1 v3 v4 n) 0 h)
    else (X6_ahead_j137 v1 v3 v4 v5 v6 (X6_ahead_l55 v1 v3 v4 n) 1 h))
    else (ck v6 4 (if (h.1 7 v6.toNatClampNeg) ≤ v4 then (X6_ahead_j137 v1 v3 v4 v5 v6 (X6_ahead_l55 v1 v3 v4 n) 0 h)
    else (X6_ahead_j137 v1 v3 v4 v5 v6 (X6_ahead_l55 v1 v3 v4 n) 1 h)))))
    else (ck v6 4 (if (h.1 6 v6.toNatClampNeg) ≤ v3 then (X6_ahead_j137 v1 v3 v4 v5 v6 (X6_ahead_l55 v1 v3 v4 n) 0 h)
    else (X6_ahead_j137 v1 v3 v4 v5 v6 (X6_ahead_l55 v1 v3 v4 n) 1 h)))))
set_option maxRecDepth 100000 in
theorem aX6_ahead_l55 {X : MCx} {yd : Dyn} {A : Nat → Prop} (C : OK X cX6_ahead RX6 8 (some .int) rmX6_ahead A)  (v1 : Int32) (v3 : Int32) (v4 : Int32) : ∀ (n : Nat) (v5 : Int32) (v6 : Int32) (h : AH), AW X 8 ZC yd A 0 0 (QF X rmX6_ahead ZC yd rvI A) 55 [(0, .ref 5), (1, .int v1), (3, .int v3), (4, .int v4), (5, .int v5), (6, .int v6)] [] h (X6_ahead_l55 v1 v3 v4 n v5 v6 h) := by
  intro n
  induction n with
  | zero => intro v5 v6 h; exact aw_none
  | succ n ih =>
    intro v5 v6 h
    exact aw_iload (pc := 55) C (i := 6) dK_s_153.1 rfl <|
    aw_aload_n (pc := 57) C (i := 0) dK_s_153.2.1 rfl rfl <|
    aw_getI (pc := 58) C dK_s_153.2.2.1 fl_X6_27 sC_5 rfl <|
    aw_icmp_ge (pc := 61) C (tgt := 166) dK_s_153.2.2.2.1 rfl (fun _ =>
    aw_iload (pc := 166) C (i := 5) dK_s_160.1 rfl <|
    aw_iret (pc := 168) C dK_s_160.2.1 rfl rfl) (fun _ =>
    aw_aload_n (pc := 64) C (i := 0) dK_s_153.2.2.2.2.1 rfl rfl <|
    aw_getR (pc := 65) C (b := 6) dK_s_153.2.2.2.2.2.1 fl_X6_9 sC_5 rfl rC_5_1 <|
    aw_iload (pc := 68) C (i := 6) dK_s_153.2.2.2.2.2.2.1 rfl <|
    aw_iald (pc := 70) C dK_s_153.2.2.2.2.2.2.2.1 sC_6 rfl <|
    aw_iload_n (pc := 71) C (i := 3) dK_s_154.1 rfl rfl <|
    aw_icmp_eq (pc := 72) C (tgt := 94) dK_s_154.2.1 rfl (fun _ =>
    aw_aload_n (pc := 94) C (i := 0) dK_s_155.2.2.2.2.1 rfl rfl <|
    aw_getR (pc := 95) C (b := 7) dK_s_155.2.2.2.2.2.1 fl_X6_15 sC_5 rfl rC_5_2 <|
    aw_iload (pc := 98) C (i := 6) dK_s_155.2.2.2.2.2.2.1 rfl <|
    aw_iald (pc := 100) C dK_s_155.2.2.2.2.2.2.2.1 sC_7 rfl <|
    aw_iload (pc := 101) C (i := 4) dK_s_156.1 rfl <|
    aw_icmp_eq (pc := 103) C (tgt := 126) dK_s_156.2.1 rfl (fun _ =>
    aw_iload (pc := 126) C (i := 6) dK_s_157.2.2.2.2.1 rfl <|
    aw_iload_n (pc := 128) C (i := 1) dK_s_157.2.2.2.2.2.1 rfl rfl <|
    aw_icmp_ge (pc := 129) C (tgt := 136) dK_s_157.2.2.2.2.2.2.1 rfl (fun _ =>
    aw_iconst (pc := 136) C (v := 0) dK_s_158.2.1 rfl <|
    (aX6_ahead_j137 C v1 v3 v4 v5 v6 (X6_ahead_l55 v1 v3 v4 n) ih 0 h)) (fun _ =>
    aw_iconst (pc := 132) C (v := 1) dK_s_157.2.2.2.2.2.2.2.1 rfl <|
    aw_goto (pc := 133) C (tgt := 137) dK_s_158.1 rfl <|
    (aX6_ahead_j137 C v1 v3 v4 v5 v6 (X6_ahead_l55 v1 v3 v4 n) ih 1 h))) (fun _ =>
    aw_aload_n (pc := 106) C (i := 0) dK_s_156.2.2.1 rfl rfl <|
    aw_getR (pc := 107) C (b := 7) dK_s_156.2.2.2.1 fl_X6_15 sC_5 rfl rC_5_2 <|
    aw_iload (pc := 110) C (i := 6) dK_s_156.2.2.2.2.1 rfl <|
    aw_iald (pc := 112) C dK_s_156.2.2.2.2.2.1 sC_7 rfl <|
    aw_iload (pc := 113) C (i := 4) dK_s_156.2.2.2.2.2.2.1 rfl <|
    aw_icmp_le (pc := 115) C (tgt := 122) dK_s_156.2.2.2.2.2.2.2.1 rfl (fun _ =>
    aw_iconst (pc := 122) C (v := 0) dK_s_157.2.2.1 rfl <|
    aw_goto (pc := 123) C (tgt := 137) dK_s_157.2.2.2.1 rfl <|
    (aX6_ahead_j137 C v1 v3 v4 v5 v6 (X6_ahead_l55 v1 v3 v4 n) ih 0 h)) (fun _ =>
    aw_iconst (pc := 118) C (v := 1) dK_s_157.1 rfl <|
    aw_goto (pc := 119) C (tgt := 137) dK_s_157.2.1 rfl <|
    (aX6_ahead_j137 C v1 v3 v4 v5 v6 (X6_ahead_l55 v1 v3 v4 n) ih 1 h)))) (fun _ =>
    aw_aload_n (pc := 75) C (i := 0) dK_s_154.2.2.1 rfl rfl <|
    aw_getR (pc := 76) C (b := 6) dK_s_154.2.2.2.1 fl_X6_9 sC_5 rfl rC_5_1 <|
    aw_iload (pc := 79) C (i := 6) dK_s_154.2.2.2.2.1 rfl <|
    aw_iald (pc := 81) C dK_s_154.2.2.2.2.2.1 sC_6 rfl <|
    aw_iload_n (pc := 82) C (i := 3) dK_s_154.2.2.2.2.2.2.1 rfl rfl <|
    aw_icmp_le (pc := 83) C (tgt := 90) dK_s_154.2.2.2.2.2.2.2.1 rfl (fun _ =>
    aw_iconst (pc := 90) C (v := 0) dK_s_155.2.2.1 rfl <|
    aw_goto (pc := 91) C (tgt := 137) dK_s_155.2.2.2.1 rfl <|
    (aX6_ahead_j137 C v1 v3 v4 v5 v6 (X6_ahead_l55 v1 v3 v4 n) ih 0 h)) (fun _ =>
    aw_iconst (pc := 86) C (v := 1) dK_s_155.1 rfl <|
    aw_goto (pc := 87) C (tgt := 137) dK_s_155.2.1 rfl <|
    (aX6_ahead_j137 C v1 v3 v4 v5 v6 (X6_ahead_l55 v1 v3 v4 n) ih 1 h))))
def X6_ahead (v1 : Int32) (v2 : Int32) (h : AH) : Option (Int32 × AH) :=
    if v1 < 0 then (some ((h.1 5 0), h))
    else (if v1 < (h.1 5 0) then (ck v1 4 (vl (mx32 (h.1 6 v1.toNatClampNeg) v2) fun x1 =>
    ck v1 4 (ck v1 4 (vl (mx32 (h.1 7 v1.toNatClampNeg) (mn32 (h.1 6 v1.toNatClampNeg) v2)) fun x2 =>
    X6_ahead_l55 v1 x1 x2 FU 0 0 h))))
    else (some ((h.1 5 0), h)))
set_option maxRecDepth 100000 in
theorem c_X6_ahead (l : Launch) (v1 : Int32) (v2 : Int32) : MC l yX6_ahead cX6_ahead 8 (some .int) rmX6_ahead ZC [.ref 5, .int v1, .int v2] rvI (X6_ahead v1 v2) :=
  MC.of (own := RX6) pn_RX6 rfl (Nat.le_of_ble_eq_true rfl) fun X yd A h _ C =>
    aw_iload_n (pc := 0) C (i := 1) dK_s_149.1 rfl rfl <|
    aw_if_lt (pc := 1) C (tgt := 12) dK_s_149.2.1 rfl (fun _ =>
    aw_aload_n (pc := 12) C (i := 0) dK_s_149.2.2.2.2.2.2.1 rfl rfl <|
    aw_getI (pc := 13) C dK_s_149.2.2.2.2.2.2.2.1 fl_X6_27 sC_5 rfl <|
    aw_iret (pc := 16) C dK_s_150.1 rfl rfl) (fun _ =>
    aw_iload_n (pc := 4) C (i := 1) dK_s_149.2.2.1 rfl rfl <|
    aw_aload_n (pc := 5) C (i := 0) dK_s_149.2.2.2.1 rfl rfl <|
    aw_getI (pc := 6) C dK_s_149.2.2.2.2.1 fl_X6_27 sC_5 rfl <|
    aw_icmp_lt (pc := 9) C (tgt := 17) dK_s_149.2.2.2.2.2.1 rfl (fun _ =>
    aw_aload_n (pc := 17) C (i := 0) dK_s_150.2.1 rfl rfl <|
    aw_getR (pc := 18) C (b := 6) dK_s_150.2.2.1 fl_X6_9 sC_5 rfl rC_5_1 <|
    aw_iload_n (pc := 21) C (i := 1) dK_s_150.2.2.2.1 rfl rfl <|
    aw_iald (pc := 22) C dK_s_150.2.2.2.2.1 sC_6 rfl <|
    aw_iload_n (pc := 23) C (i := 2) dK_s_150.2.2.2.2.2.1 rfl rfl <|
    aw_mmax (pc := 24) C dK_s_150.2.2.2.2.2.2.1 ml_X6_24 w_mmaxS w_mI w_mmaxC ⟨(Nat.le_of_ble_eq_true rfl), (Nat.le_of_ble_eq_true rfl)⟩ (Nat.zero_le _) (Nat.zero_le _) <|
    aw_istoreV_n (pc := 27) C (i := 3) (fun x1 => [(0, .ref 5), (1, .int v1), (2, .int v2), (3, .int x1)]) dK_s_150.2.2.2.2.2.2.2.1 rfl (by decide) (fun _ => rfl) fun x1 =>
    aw_aload_n (pc := 28) C (i := 0) dK_s_151.1 rfl rfl <|
    aw_getR (pc := 29) C (b := 7) dK_s_151.2.1 fl_X6_15 sC_5 rfl rC_5_2 <|
    aw_iload_n (pc := 32) C (i := 1) dK_s_151.2.2.1 rfl rfl <|
    aw_iald (pc := 33) C dK_s_151.2.2.2.1 sC_7 rfl <|
    aw_aload_n (pc := 34) C (i := 0) dK_s_151.2.2.2.2.1 rfl rfl <|
    aw_getR (pc := 35) C (b := 6) dK_s_151.2.2.2.2.2.1 fl_X6_9 sC_5 rfl rC_5_1 <|
    aw_iload_n (pc := 38) C (i := 1) dK_s_151.2.2.2.2.2.2.1 rfl rfl <|
    aw_iald (pc := 39) C dK_s_151.2.2.2.2.2.2.2.1 sC_6 rfl <|
    aw_iload_n (pc := 40) C (i := 2) dK_s_152.1 rfl rfl <|
    aw_mmin (pc := 41) C dK_s_152.2.1 ml_X6_18 w_mminS w_mI w_mminC ⟨(Nat.le_of_ble_eq_true rfl), (Nat.le_of_ble_eq_true rfl)⟩ (Nat.zero_le _) (Nat.zero_le _) <|
    aw_mmax (pc := 44) C dK_s_152.2.2.1 ml_X6_24 w_mmaxS w_mI w_mmaxC ⟨(Nat.le_of_ble_eq_true rfl), (Nat.le_of_ble_eq_true rfl)⟩ (Nat.zero_le _) (Nat.zero_le _) <|
    aw_istoreV (pc := 47) C (i := 4) (fun x2 => [(0, .ref 5), (1, .int v1), (2, .int v2), (3, .int x1), (4, .int x2)]) dK_s_152.2.2.2.1 (by decide) (fun _ => rfl) fun x2 =>
    aw_iconst (pc := 49) C (v := 0) dK_s_152.2.2.2.2.1 rfl <|
    aw_istore (pc := 50) C (i := 5) (lv' := [(0, .ref 5), (1, .int v1), (2, .int v2), (3, .int x1), (4, .int x2), (5, .int 0)]) dK_s_152.2.2.2.2.2.1 (by decide) rfl <|
    aw_iconst (pc := 52) C (v := 0) dK_s_152.2.2.2.2.2.2.1 rfl <|
    aw_istore (pc := 53) C (i := 6) (lv' := [(0, .ref 5), (1, .int v1), (2, .int v2), (3, .int x1), (4, .int x2), (5, .int 0), (6, .int 0)]) dK_s_152.2.2.2.2.2.2.2.1 (by decide) rfl <|
    aw_drop [0, 1, 3, 4, 5, 6] (aX6_ahead_l55 C v1 x1 x2 FU 0 0 h)) (fun _ =>
    aw_aload_n (pc := 12) C (i := 0) dK_s_149.2.2.2.2.2.2.1 rfl rfl <|
    aw_getI (pc := 13) C dK_s_149.2.2.2.2.2.2.2.1 fl_X6_27 sC_5 rfl <|
    aw_iret (pc := 16) C dK_s_150.1 rfl rfl))

abbrev rmX6_at : Room := { frames := 2, cells := 0, slots := 0, locals := 72 }
def X6_at_l2  (v1 : Int32) : Nat → Int32 → AH → Option (Int32 × AH)
  | 0, _, _ => none
  | n + 1, v2, h =>
    if (h.1 5 0) ≤ v2 then (some (0, h))
    else (bd (X6_ahead v2 0 h) fun r1 h2 =>
    if r1 = v1 then (some (v2, h2))
    else (vl (v2 + 1) fun x3 =>
    (X6_at_l2 v1 n) x3 h2))
set_option maxRecDepth 100000 in
theorem aX6_at_l2 {X : MCx} {yd : Dyn} {A : Nat → Prop} (C : OK X cX6_at RX6 3 (some .int) rmX6_at A)  (v1 : Int32) : ∀ (n : Nat) (v2 : Int32) (h : AH), AW X 3 ZC yd A 0 0 (QF X rmX6_at ZC yd rvI A) 2 [(0, .ref 5), (1, .int v1), (2, .int v2)] [] h (X6_at_l2 v1 n v2 h) := by
  intro n
  induction n with
  | zero => intro v2 h; exact aw_none
  | succ n ih =>
    intro v2 h
    exact aw_iload_n (pc := 2) C (i := 2) dK_s_161.2.2.1 rfl rfl <|
    aw_aload_n (pc := 3) C (i := 0) dK_s_161.2.2.2.1 rfl rfl <|
    aw_getI (pc := 4) C dK_s_161.2.2.2.2.1 fl_X6_27 sC_5 rfl <|
    aw_icmp_ge (pc := 7) C (tgt := 28) dK_s_161.2.2.2.2.2.1 rfl (fun _ =>
    aw_iconst (pc := 28) C (v := 0) dK_s_163.1 rfl <|
    aw_iret (pc := 29) C dK_s_163.2.1 rfl rfl) (fun _ =>
    aw_aload_n (pc := 10) C (i := 0) dK_s_161.2.2.2.2.2.2.1 rfl rfl <|
    aw_iload_n (pc := 11) C (i := 2) dK_s_161.2.2.2.2.2.2.2.1 rfl rfl <|
    aw_iconst (pc := 12) C (v := 0) dK_s_162.1 rfl <|
    aw_callF (pc := 13) C (cr_V (rest := []) (F := (X6_ahead v2 0)) C (c_X6_ahead X.2.1 v2 0) dK_s_162.2.1 mf_X6_ahead ml_X6_37 im_X6_ahead se_X6_ahead sC_5 rfl ⟨(Nat.le_of_ble_eq_true rfl), (Nat.le_of_ble_eq_true rfl)⟩ rfl rfl (Nat.le_of_ble_eq_true rfl)) rfl rfl rfl (Nat.zero_le _) (Nat.zero_le _) fun r1 h2 =>
    aw_iload_n (pc := 16) C (i := 1) dK_s_162.2.2.1 rfl rfl <|
    aw_icmp_ne (pc := 17) C (tgt := 22) dK_s_162.2.2.2.1 rfl (fun _ =>
    aw_iload_n (pc := 20) C (i := 2) dK_s_162.2.2.2.2.1 rfl rfl <|
    aw_iret (pc := 21) C dK_s_162.2.2.2.2.2.1 rfl rfl) (fun _ =>
    aw_iincV (pc := 22) C (i := 2) (cst := 1) (fun x3 => [(0, .ref 5), (1, .int v1), (2, .int x3)]) dK_s_162.2.2.2.2.2.2.1 rfl rfl (by decide) (fun _ => rfl) fun x3 =>
    aw_goto (pc := 25) C (tgt := 2) dK_s_162.2.2.2.2.2.2.2.1 rfl <|
    (ih x3 h2)))
def X6_at (v1 : Int32) (h : AH) : Option (Int32 × AH) :=
    X6_at_l2 v1 FU 0 h
set_option maxRecDepth 100000 in
theorem c_X6_at (l : Launch) (v1 : Int32) : MC l yX6_at cX6_at 3 (some .int) rmX6_at ZC [.ref 5, .int v1] rvI (X6_at v1) :=
  MC.of (own := RX6) pn_RX6 rfl (Nat.le_of_ble_eq_true rfl) fun X yd A h _ C =>
    aw_iconst (pc := 0) C (v := 0) dK_s_161.1 rfl <|
    aw_istore_n (pc := 1) C (i := 2) (lv' := [(0, .ref 5), (1, .int v1), (2, .int 0)]) dK_s_161.2.1 rfl (by decide) rfl <|
    (aX6_at_l2 C v1 FU 0 h)

abbrev rmX5_inTurn : Room := { frames := 3, cells := 0, slots := 0, locals := 94 }
def X5_inTurn (o : Nat) (h : AH) : Option (Int32 × AH) :=
    bd (X5_finalists o h) fun r1 h2 =>
    bd (X5_round o h2) fun r3 h4 =>
    if r3 = 6 then (some ((-9), h4))
    else (if (h4.1 o 3) ≤ 0 then (some ((-9), h4))
    else (if 0 < r1 then (if (3 * (h4.1 o 3)) ≤ (h4.1 o 4) then (bd (X5_rank o 0 (3 * (h4.1 o 3)) h4) fun _ h6 =>
    if r1 = 0 then none else (bd (X6_at ((r1 - 1) - (rm32 ((h6.1 o 4) - (3 * (h6.1 o 3))) r1)) h6) fun r7 h8 =>
    some (r7, h8)))
    else (if (h4.1 o 3) = 0 then none else (some ((rm32 (h4.1 o 4) (h4.1 o 3)), h4))))
    else (some ((-9), h4))))
set_option maxRecDepth 100000 in
theorem c_X5_inTurn (l : Launch) (o : Nat) (hM0 : MT o) : MC l yX5_inTurn cX5_inTurn 3 (some .int) rmX5_inTurn ZC [.ref o, .ref 5] rvI (X5_inTurn o) :=
  MC.of (own := RX5) pn_RX5 rfl (Nat.le_of_ble_eq_true rfl) fun X yd A h _ C =>
    aw_aload_n (pc := 0) C (i := 0) dK_s_101.1 rfl rfl <|
    aw_callF (pc := 1) C (cr_V (rest := []) (F := (X5_finalists o)) C (c_X5_finalists X.2.1 o hM0) dK_s_101.2.1 mf_X5_finalists ml_X5_59 im_X5_finalists se_X5_finalists (mt_s hM0) rfl ⟨(Nat.le_of_ble_eq_true rfl), (Nat.le_of_ble_eq_true rfl)⟩ rfl rfl (Nat.le_of_ble_eq_true rfl)) rfl rfl rfl (Nat.zero_le _) (Nat.zero_le _) fun r1 h2 =>
    aw_istore_n (pc := 4) C (i := 2) (lv' := [(0, .ref o), (1, .ref 5), (2, .int r1)]) dK_s_101.2.2.1 rfl (by decide) rfl <|
    aw_aload_n (pc := 5) C (i := 0) dK_s_101.2.2.2.1 rfl rfl <|
    aw_callF (pc := 6) C (cr_V (rest := []) (F := (X5_round o)) C (c_X5_round X.2.1 o hM0) dK_s_101.2.2.2.2.1 mf_X5_round ml_X5_69 im_X5_round se_X5_round (mt_s hM0) rfl ⟨(Nat.le_of_ble_eq_true rfl), (Nat.le_of_ble_eq_true rfl)⟩ rfl rfl (Nat.le_of_ble_eq_true rfl)) rfl rfl rfl (Nat.zero_le _) (Nat.zero_le _) fun r3 h4 =>
    aw_bipush (pc := 9) C (v := 6) dK_s_101.2.2.2.2.2.1 rfl <|
    aw_icmp_eq (pc := 11) C (tgt := 25) dK_s_101.2.2.2.2.2.2.1 rfl (fun _ =>
    aw_bipush (pc := 25) C (v := (-9)) dK_s_102.2.2.2.2.1 rfl <|
    aw_iret (pc := 27) C dK_s_102.2.2.2.2.2.1 rfl rfl) (fun _ =>
    aw_aload_n (pc := 14) C (i := 0) dK_s_101.2.2.2.2.2.2.2.1 rfl rfl <|
    aw_getI (pc := 15) C dK_s_102.1 fl_X5_43 (mt_s hM0) rfl <|
    aw_if_le (pc := 18) C (tgt := 25) dK_s_102.2.1 rfl (fun _ =>
    aw_bipush (pc := 25) C (v := (-9)) dK_s_102.2.2.2.2.1 rfl <|
    aw_iret (pc := 27) C dK_s_102.2.2.2.2.2.1 rfl rfl) (fun _ =>
    aw_iload_n (pc := 21) C (i := 2) dK_s_102.2.2.1 rfl rfl <|
    aw_if_gt (pc := 22) C (tgt := 28) dK_s_102.2.2.2.1 rfl (fun _ =>
    aw_aload_n (pc := 28) C (i := 0) dK_s_102.2.2.2.2.2.2.1 rfl rfl <|
    aw_getI (pc := 29) C dK_s_102.2.2.2.2.2.2.2.1 fl_X5_46 (mt_s hM0) rfl <|
    aw_iconst (pc := 32) C (v := 3) dK_s_103.1 rfl <|
    aw_aload_n (pc := 33) C (i := 0) dK_s_103.2.1 rfl rfl <|
    aw_getI (pc := 34) C dK_s_103.2.2.1 fl_X5_43 (mt_s hM0) rfl <|
    aw_imul (pc := 37) C dK_s_103.2.2.2.1 <|
    aw_icmp_ge (pc := 38) C (tgt := 51) dK_s_103.2.2.2.2.1 rfl (fun _ =>
    aw_aload_n (pc := 51) C (i := 0) dK_s_104.2.2.2.1 rfl rfl <|
    aw_aload_n (pc := 52) C (i := 1) dK_s_104.2.2.2.2.1 rfl rfl <|
    aw_iconst (pc := 53) C (v := 0) dK_s_104.2.2.2.2.2.1 rfl <|
    aw_iconst (pc := 54) C (v := 3) dK_s_104.2.2.2.2.2.2.1 rfl <|
    aw_aload_n (pc := 55) C (i := 0) dK_s_104.2.2.2.2.2.2.2.1 rfl rfl <|
    aw_getI (pc := 56) C dK_s_105.1 fl_X5_43 (mt_s hM0) rfl <|
    aw_imul (pc := 59) C dK_s_105.2.1 <|
    aw_callF (pc := 60) C (cr_V (rest := []) (F := (X5_rank o 0 (3 * (h4.1 o 3)))) C (c_X5_rank X.2.1 o hM0 0 (3 * (h4.1 o 3))) dK_s_105.2.2.1 mf_X5_rank ml_X5_72 im_X5_rank se_X5_rank (mt_s hM0) rfl ⟨(Nat.le_of_ble_eq_true rfl), (Nat.le_of_ble_eq_true rfl)⟩ rfl rfl (Nat.le_of_ble_eq_true rfl)) rfl rfl rfl (Nat.zero_le _) (Nat.zero_le _) fun _ h6 =>
    aw_aload_n (pc := 63) C (i := 1) dK_s_105.2.2.2.1 rfl rfl <|
    aw_iload_n (pc := 64) C (i := 2) dK_s_105.2.2.2.2.1 rfl rfl <|
    aw_iconst (pc := 65) C (v := 1) dK_s_105.2.2.2.2.2.1 rfl <|
    aw_isub (pc := 66) C dK_s_105.2.2.2.2.2.2.1 <|
    aw_aload_n (pc := 67) C (i := 0) dK_s_105.2.2.2.2.2.2.2.1 rfl rfl <|
    aw_getI (pc := 68) C dK_s_106.1 fl_X5_46 (mt_s hM0) rfl <|
    aw_iconst (pc := 71) C (v := 3) dK_s_106.2.1 rfl <|
    aw_aload_n (pc := 72) C (i := 0) dK_s_106.2.2.1 rfl rfl <|
    aw_getI (pc := 73) C dK_s_106.2.2.2.1 fl_X5_43 (mt_s hM0) rfl <|
    aw_imul (pc := 76) C dK_s_106.2.2.2.2.1 <|
    aw_isub (pc := 77) C dK_s_106.2.2.2.2.2.1 <|
    aw_iload_n (pc := 78) C (i := 2) dK_s_106.2.2.2.2.2.2.1 rfl rfl <|
    aw_irem (pc := 79) C dK_s_106.2.2.2.2.2.2.2.1 <|
    aw_isub (pc := 80) C dK_s_107.1 <|
    aw_callF (pc := 81) C (cr_V (rest := []) (F := (X6_at ((r1 - 1) - (rm32 ((h6.1 o 4) - (3 * (h6.1 o 3))) r1)))) C (c_X6_at X.2.1 ((r1 - 1) - (rm32 ((h6.1 o 4) - (3 * (h6.1 o 3))) r1))) dK_s_107.2.1 mf_X6_at ml_X5_76 im_X6_at se_X6_at sC_5 rfl ⟨(Nat.le_of_ble_eq_true rfl), (Nat.le_of_ble_eq_true rfl)⟩ rfl rfl (Nat.le_of_ble_eq_true rfl)) rfl rfl rfl (Nat.zero_le _) (Nat.zero_le _) fun r7 h8 =>
    aw_iret (pc := 84) C dK_s_107.2.2.1 rfl rfl) (fun _ =>
    aw_aload_n (pc := 41) C (i := 0) dK_s_103.2.2.2.2.2.1 rfl rfl <|
    aw_getI (pc := 42) C dK_s_103.2.2.2.2.2.2.1 fl_X5_46 (mt_s hM0) rfl <|
    aw_aload_n (pc := 45) C (i := 0) dK_s_103.2.2.2.2.2.2.2.1 rfl rfl <|
    aw_getI (pc := 46) C dK_s_104.1 fl_X5_43 (mt_s hM0) rfl <|
    aw_irem (pc := 49) C dK_s_104.2.1 <|
    aw_iret (pc := 50) C dK_s_104.2.2.1 rfl rfl)) (fun _ =>
    aw_bipush (pc := 25) C (v := (-9)) dK_s_102.2.2.2.2.1 rfl <|
    aw_iret (pc := 27) C dK_s_102.2.2.2.2.2.1 rfl rfl)))

abbrev rmX5_record : Room := { frames := 3, cells := 0, slots := 0, locals := 74 }
def X5_record_j31 (o : Nat) (v1 : Int32) (v2 : Int32) (v4 : Nat) (s0 : Int32) (h : AH) : Option (Int32 × AH) :=
    if 24 ≤ (h.1 o 4) then (some (s0, h))
    else (ck (h.1 o 4) 24 (vl (sI h (o + 2) (h.1 o 4).toNatClampNeg v1) fun h6 =>
    ck (h6.1 o 4) 24 (vl (sI h6 (o + 3) (h6.1 o 4).toNatClampNeg v2) fun h7 =>
    ck (h7.1 o 4) 24 (vl (sI h7 (o + 4) (h7.1 o 4).toNatClampNeg s0) fun h8 =>
    bd (kd (h8.2.2 v4) (X3_lengthOf v4 0 0 (h8.1 o 1) h8) (X7_lengthOf v4 0 0 (h8.1 o 1) h8) (X0_lengthOf v4 0 0 (h8.1 o 1) h8) (X7_lengthOf v4 0 0 (h8.1 o 1) h8) (X9_lengthOf v4 0 0 (h8.1 o 1) h8) (X8_lengthOf v4 0 0 (h8.1 o 1) h8)) fun r9 h10 =>
    ck (h8.1 o 4) 24 (vl (sI h10 (o + 5) (h8.1 o 4).toNatClampNeg r9) fun h11 =>
    vl (sI h11 o 4 ((h11.1 o 4) + 1)) fun h12 =>
    some (s0, h12))))))
set_option maxRecDepth 100000 in
theorem aX5_record_j31 {X : MCx} {yd : Dyn} {A : Nat → Prop} (C : OK X cX5_record RX5 6 (some .int) rmX5_record A) (o : Nat) (hM0 : MT o) (v1 : Int32) (v2 : Int32) (v4 : Nat) (hs4 : ZC.1[v4]? = some (.inr 2)) (s0 : Int32) (h : AH) : AW X 6 ZC yd A 0 0 (QF X rmX5_record ZC yd rvI A) 31 [(0, .ref o), (1, .int v1), (2, .int v2), (4, .ref v4)] [.int s0] h (X5_record_j31 o v1 v2 v4 s0 h) := by
    exact aw_istore (pc := 31) C (i := 5) (lv' := [(0, .ref o), (1, .int v1), (2, .int v2), (4, .ref v4), (5, .int s0)]) dK_s_110.1 (by decide) rfl <|
    aw_aload_n (pc := 33) C (i := 0) dK_s_110.2.1 rfl rfl <|
    aw_getI (pc := 34) C dK_s_110.2.2.1 fl_X5_46 (mt_s hM0) rfl <|
    aw_bipush (pc := 37) C (v := 24) dK_s_110.2.2.2.1 rfl <|
    aw_icmp_ge (pc := 39) C (tgt := 108) dK_s_110.2.2.2.2.1 rfl (fun _ =>
    aw_iload (pc := 108) C (i := 5) dK_s_115.2.2.1 rfl <|
    aw_iret (pc := 110) C dK_s_115.2.2.2.1 rfl rfl) (fun _ =>
    aw_aload_n (pc := 42) C (i := 0) dK_s_110.2.2.2.2.2.1 rfl rfl <|
    aw_getR (pc := 43) C (b := (o + 2)) dK_s_110.2.2.2.2.2.2.1 fl_X5_24 (mt_s hM0) rfl (mt_r6 hM0) <|
    aw_aload_n (pc := 46) C (i := 0) dK_s_110.2.2.2.2.2.2.2.1 rfl rfl <|
    aw_getI (pc := 47) C dK_s_111.1 fl_X5_46 (mt_s hM0) rfl <|
    aw_iload_n (pc := 50) C (i := 1) dK_s_111.2.1 rfl rfl <|
    aw_iast (pc := 51) C dK_s_111.2.2.1 (mt_s2 hM0) rfl fun h6 =>
    aw_aload_n (pc := 52) C (i := 0) dK_s_111.2.2.2.1 rfl rfl <|
    aw_getR (pc := 53) C (b := (o + 3)) dK_s_111.2.2.2.2.1 fl_X5_28 (mt_s hM0) rfl (mt_r7 hM0) <|
    aw_aload_n (pc := 56) C (i := 0) dK_s_111.2.2.2.2.2.1 rfl rfl <|
    aw_getI (pc := 57) C dK_s_111.2.2.2.2.2.2.1 fl_X5_46 (mt_s hM0) rfl <|
    aw_iload_n (pc := 60) C (i := 2) dK_s_111.2.2.2.2.2.2.2.1 rfl rfl <|
    aw_iast (pc := 61) C dK_s_112.1 (mt_s3 hM0) rfl fun h7 =>
    aw_aload_n (pc := 62) C (i := 0) dK_s_112.2.1 rfl rfl <|
    aw_getR (pc := 63) C (b := (o + 4)) dK_s_112.2.2.1 fl_X5_31 (mt_s hM0) rfl (mt_r8 hM0) <|
    aw_aload_n (pc := 66) C (i := 0) dK_s_112.2.2.2.1 rfl rfl <|
    aw_getI (pc := 67) C dK_s_112.2.2.2.2.1 fl_X5_46 (mt_s hM0) rfl <|
    aw_iload (pc := 70) C (i := 5) dK_s_112.2.2.2.2.2.1 rfl <|
    aw_iast (pc := 72) C dK_s_112.2.2.2.2.2.2.1 (mt_s4 hM0) rfl fun h8 =>
    aw_aload_n (pc := 73) C (i := 0) dK_s_112.2.2.2.2.2.2.2.1 rfl rfl <|
    aw_getR (pc := 74) C (b := (o + 5)) dK_s_113.1 fl_X5_34 (mt_s hM0) rfl (mt_r9 hM0) <|
    aw_aload_n (pc := 77) C (i := 0) dK_s_113.2.1 rfl rfl <|
    aw_getI (pc := 78) C dK_s_113.2.2.1 fl_X5_46 (mt_s hM0) rfl <|
    aw_aload (pc := 81) C (i := 4) dK_s_113.2.2.2.1 rfl <|
    aw_getW (pc := 83) C (b := (36 + h8.2.2 v4 % 6)) dK_s_113.2.2.2.2.1 fl_X5_85 hs4 rfl rfl <|
    aw_aload (pc := 86) C (i := 4) dK_s_113.2.2.2.2.2.1 rfl <|
    aw_iconst (pc := 88) C (v := 0) dK_s_113.2.2.2.2.2.2.1 rfl <|
    aw_iconst (pc := 89) C (v := 0) dK_s_113.2.2.2.2.2.2.2.1 rfl <|
    aw_aload_n (pc := 90) C (i := 0) dK_s_114.1 rfl rfl <|
    aw_getI (pc := 91) C dK_s_114.2.1 fl_X5_40 (mt_s hM0) rfl <|
    aw_callF (pc := 94) C (kdA_lengthOf C dK_s_114.2.2.1 ml_X5_89 (h8.2.2 v4) v4 hs4 0 0 (h8.1 o 1) [.int (h8.1 o 4), .ref (o + 5)] ⟨⟨(Nat.le_of_ble_eq_true rfl), (Nat.le_of_ble_eq_true rfl)⟩, ⟨(Nat.le_of_ble_eq_true rfl), (Nat.le_of_ble_eq_true rfl)⟩, ⟨(Nat.le_of_ble_eq_true rfl), (Nat.le_of_ble_eq_true rfl)⟩, ⟨(Nat.le_of_ble_eq_true rfl), (Nat.le_of_ble_eq_true rfl)⟩, ⟨(Nat.le_of_ble_eq_true rfl), (Nat.le_of_ble_eq_true rfl)⟩, ⟨(Nat.le_of_ble_eq_true rfl), (Nat.le_of_ble_eq_true rfl)⟩⟩ (Nat.le_of_ble_eq_true rfl)) rfl rfl rfl (Nat.zero_le _) (Nat.zero_le _) fun r9 h10 =>
    aw_iast (pc := 97) C dK_s_114.2.2.2.1 (mt_s5 hM0) rfl fun h11 =>
    aw_aload_n (pc := 98) C (i := 0) dK_s_114.2.2.2.2.1 rfl rfl <|
    aw_dup (pc := 99) C dK_s_114.2.2.2.2.2.1 rfl <|
    aw_getI (pc := 100) C dK_s_114.2.2.2.2.2.2.1 fl_X5_46 (mt_s hM0) rfl <|
    aw_iconst (pc := 103) C (v := 1) dK_s_114.2.2.2.2.2.2.2.1 rfl <|
    aw_iadd (pc := 104) C dK_s_115.1 <|
    aw_putI (pc := 105) C dK_s_115.2.1 fp_X5_46 (mt_s hM0) rfl fun h12 =>
    aw_iload (pc := 108) C (i := 5) dK_s_115.2.2.1 rfl <|
    aw_iret (pc := 110) C dK_s_115.2.2.2.1 rfl rfl)
def X5_record (o : Nat) (v1 : Int32) (v2 : Int32) (v3 : Int32) (h : AH) : Option (Int32 × AH) :=
    bd (X5_at o v1 h) fun r1 h2 =>
    cs ZC r1 (.inr 2) (if 0 ≤ v2 then (bd (kd (h2.2.2 r1) (X3_lengthOf r1 v2 v3 (h2.1 o 1) h2) (X7_lengthOf r1 v2 v3 (h2.1 o 1) h2) (X0_lengthOf r1 v2 v3 (h2.1 o 1) h2) (X7_lengthOf r1 v2 v3 (h2.1 o 1) h2) (X9_lengthOf r1 v2 v3 (h2.1 o 1) h2) (X8_lengthOf r1 v2 v3 (h2.1 o 1) h2)) fun r4 h5 =>
    X5_record_j31 o v1 v2 r1 r4 h5)
    else (X5_record_j31 o v1 v2 r1 v2 h2))
set_option maxRecDepth 100000 in
theorem c_X5_record (l : Launch) (o : Nat) (hM0 : MT o) (v1 : Int32) (v2 : Int32) (v3 : Int32) : MC l yX5_record cX5_record 6 (some .int) rmX5_record ZC [.ref o, .int v1, .int v2, .int v3] rvI (X5_record o v1 v2 v3) :=
  MC.of (own := RX5) pn_RX5 rfl (Nat.le_of_ble_eq_true rfl) fun X yd A h _ C =>
    aw_aload_n (pc := 0) C (i := 0) dK_s_108.1 rfl rfl <|
    aw_iload_n (pc := 1) C (i := 1) dK_s_108.2.1 rfl rfl <|
    aw_callF (pc := 2) C (cr_V (rest := []) (F := (X5_at o v1)) C (c_X5_at X.2.1 o hM0 v1) dK_s_108.2.2.1 mf_X5_at ml_X5_82 im_X5_at se_X5_at (mt_s hM0) rfl ⟨(Nat.le_of_ble_eq_true rfl), (Nat.le_of_ble_eq_true rfl)⟩ rfl rfl (Nat.le_of_ble_eq_true rfl)) rfl rfl rfl (Nat.zero_le _) (Nat.zero_le _) fun r1 h2 =>
    aw_cs fun hs3 =>
    aw_astore (pc := 5) C (i := 4) (lv' := [(0, .ref o), (1, .int v1), (2, .int v2), (3, .int v3), (4, .ref r1)]) dK_s_108.2.2.2.1 (by decide) rfl <|
    aw_iload_n (pc := 7) C (i := 2) dK_s_108.2.2.2.2.1 rfl rfl <|
    aw_if_ge (pc := 8) C (tgt := 15) dK_s_108.2.2.2.2.2.1 rfl (fun _ =>
    aw_aload (pc := 15) C (i := 4) dK_s_109.1 rfl <|
    aw_getW (pc := 17) C (b := (36 + h2.2.2 r1 % 6)) dK_s_109.2.1 fl_X5_85 hs3 rfl rfl <|
    aw_aload (pc := 20) C (i := 4) dK_s_109.2.2.1 rfl <|
    aw_iload_n (pc := 22) C (i := 2) dK_s_109.2.2.2.1 rfl rfl <|
    aw_iload_n (pc := 23) C (i := 3) dK_s_109.2.2.2.2.1 rfl rfl <|
    aw_aload_n (pc := 24) C (i := 0) dK_s_109.2.2.2.2.2.1 rfl rfl <|
    aw_getI (pc := 25) C dK_s_109.2.2.2.2.2.2.1 fl_X5_40 (mt_s hM0) rfl <|
    aw_callF (pc := 28) C (kdA_lengthOf C dK_s_109.2.2.2.2.2.2.2.1 ml_X5_89 (h2.2.2 r1) r1 hs3 v2 v3 (h2.1 o 1) [] ⟨⟨(Nat.le_of_ble_eq_true rfl), (Nat.le_of_ble_eq_true rfl)⟩, ⟨(Nat.le_of_ble_eq_true rfl), (Nat.le_of_ble_eq_true rfl)⟩, ⟨(Nat.le_of_ble_eq_true rfl), (Nat.le_of_ble_eq_true rfl)⟩, ⟨(Nat.le_of_ble_eq_true rfl), (Nat.le_of_ble_eq_true rfl)⟩, ⟨(Nat.le_of_ble_eq_true rfl), (Nat.le_of_ble_eq_true rfl)⟩, ⟨(Nat.le_of_ble_eq_true rfl), (Nat.le_of_ble_eq_true rfl)⟩⟩ (Nat.le_of_ble_eq_true rfl)) rfl rfl rfl (Nat.zero_le _) (Nat.zero_le _) fun r4 h5 =>
    aw_drop [0, 1, 2, 4] (aX5_record_j31 C o hM0 v1 v2 r1 hs3 r4 h5)) (fun _ =>
    aw_iload_n (pc := 11) C (i := 2) dK_s_108.2.2.2.2.2.2.1 rfl rfl <|
    aw_goto (pc := 12) C (tgt := 31) dK_s_108.2.2.2.2.2.2.2.1 rfl <|
    aw_drop [0, 1, 2, 4] (aX5_record_j31 C o hM0 v1 v2 r1 hs3 v2 h2))

abbrev rmX5_leader : Room := { frames := 3, cells := 0, slots := 0, locals := 94 }
def X5_leader (o : Nat) (h : AH) : Option (Int32 × AH) :=
    bd (X5_rank o 0 (h.1 o 4) h) fun _ h2 =>
    if (h2.1 o 3) = 0 then (some ((-9), h2))
    else (bd (X6_at 0 h2) fun r3 h4 =>
    some (r3, h4))
set_option maxRecDepth 100000 in
theorem c_X5_leader (l : Launch) (o : Nat) (hM0 : MT o) : MC l yX5_leader cX5_leader 2 (some .int) rmX5_leader ZC [.ref o, .ref 5] rvI (X5_leader o) :=
  MC.of (own := RX5) pn_RX5 rfl (Nat.le_of_ble_eq_true rfl) fun X yd A h _ C =>
    aw_aload_n (pc := 0) C (i := 0) dK_s_125.1 rfl rfl <|
    aw_aload_n (pc := 1) C (i := 1) dK_s_125.2.1 rfl rfl <|
    aw_iconst (pc := 2) C (v := 0) dK_s_125.2.2.1 rfl <|
    aw_aload_n (pc := 3) C (i := 0) dK_s_125.2.2.2.1 rfl rfl <|
    aw_getI (pc := 4) C dK_s_125.2.2.2.2.1 fl_X5_46 (mt_s hM0) rfl <|
    aw_callF (pc := 7) C (cr_V (rest := []) (F := (X5_rank o 0 (h.1 o 4))) C (c_X5_rank X.2.1 o hM0 0 (h.1 o 4)) dK_s_125.2.2.2.2.2.1 mf_X5_rank ml_X5_72 im_X5_rank se_X5_rank (mt_s hM0) rfl ⟨(Nat.le_of_ble_eq_true rfl), (Nat.le_of_ble_eq_true rfl)⟩ rfl rfl (Nat.le_of_ble_eq_true rfl)) rfl rfl rfl (Nat.zero_le _) (Nat.zero_le _) fun _ h2 =>
    aw_aload_n (pc := 10) C (i := 0) dK_s_125.2.2.2.2.2.2.1 rfl rfl <|
    aw_getI (pc := 11) C dK_s_125.2.2.2.2.2.2.2.1 fl_X5_43 (mt_s hM0) rfl <|
    aw_if_ne (pc := 14) C (tgt := 22) dK_s_126.1 rfl (fun _ =>
    aw_bipush (pc := 17) C (v := (-9)) dK_s_126.2.1 rfl <|
    aw_goto (pc := 19) C (tgt := 27) dK_s_126.2.2.1 rfl <|
    aw_iret (pc := 27) C dK_s_126.2.2.2.2.2.2.1 rfl rfl) (fun _ =>
    aw_aload_n (pc := 22) C (i := 1) dK_s_126.2.2.2.1 rfl rfl <|
    aw_iconst (pc := 23) C (v := 0) dK_s_126.2.2.2.2.1 rfl <|
    aw_callF (pc := 24) C (cr_V (rest := []) (F := (X6_at 0)) C (c_X6_at X.2.1 0) dK_s_126.2.2.2.2.2.1 mf_X6_at ml_X5_76 im_X6_at se_X6_at sC_5 rfl ⟨(Nat.le_of_ble_eq_true rfl), (Nat.le_of_ble_eq_true rfl)⟩ rfl rfl (Nat.le_of_ble_eq_true rfl)) rfl rfl rfl (Nat.zero_le _) (Nat.zero_le _) fun r3 h4 =>
    aw_iret (pc := 27) C dK_s_126.2.2.2.2.2.2.1 rfl rfl)

abbrev rmX5_triesOf : Room := { frames := 0, cells := 0, slots := 0, locals := 0 }
def X5_triesOf_j28 (o : Nat) (v1 : Int32) (v3 : Int32) (K4 : Int32 → Int32 → AH → Option (Int32 × AH)) (s0 : Int32) (s1 : Int32) (h : AH) : Option (Int32 × AH) :=
    vl (s1 + s0) fun x1 =>
    vl (v3 + 1) fun x2 =>
    K4 x1 x2 h
set_option maxRecDepth 100000 in
theorem aX5_triesOf_j28 {X : MCx} {yd : Dyn} {A : Nat → Prop} (C : OK X cX5_triesOf RX5 4 (some .int) rmX5_triesOf A) (o : Nat) (hM0 : MT o) (v1 : Int32) (v3 : Int32) (K4 : Int32 → Int32 → AH → Option (Int32 × AH)) (hK4 : ∀ (w2 : Int32) (w3 : Int32) (h : AH), AW X 4 ZC yd A 0 0 (QF X rmX5_triesOf ZC yd rvI A) 4 [(0, .ref o), (1, .int v1), (2, .int w2), (3, .int w3)] [] h (K4 w2 w3 h)) (s0 : Int32) (s1 : Int32) (h : AH) : AW X 4 ZC yd A 0 0 (QF X rmX5_triesOf ZC yd rvI A) 28 [(0, .ref o), (1, .int v1), (3, .int v3)] [.int s0, .int s1] h (X5_triesOf_j28 o v1 v3 K4 s0 s1 h) := by
    exact aw_iadd (pc := 28) C dK_s_129.2.2.1 <|
    aw_istoreV_n (pc := 29) C (i := 2) (fun x1 => [(0, .ref o), (1, .int v1), (2, .int x1), (3, .int v3)]) dK_s_129.2.2.2.1 rfl (by decide) (fun _ => rfl) fun x1 =>
    aw_iincV (pc := 30) C (i := 3) (cst := 1) (fun x2 => [(0, .ref o), (1, .int v1), (2, .int x1), (3, .int x2)]) dK_s_129.2.2.2.2.1 rfl rfl (by decide) (fun _ => rfl) fun x2 =>
    aw_goto (pc := 33) C (tgt := 4) dK_s_129.2.2.2.2.2.1 rfl <|
    (hK4 x1 x2 h)
def X5_triesOf_l4 (o : Nat) (v1 : Int32) : Nat → Int32 → Int32 → AH → Option (Int32 × AH)
  | 0, _, _, _ => none
  | n + 1, v2, v3, h =>
    if (h.1 o 4) ≤ v3 then (some (v2, h))
    else (ck v3 24 (if (h.1 (o + 2) v3.toNatClampNeg) = v1 then (X5_triesOf_j28 o v1 v3 (X5_triesOf_l4 o v1 n) 1 v2 h)
    else (X5_triesOf_j28 o v1 v3 (X5_triesOf_l4 o v1 n) 0 v2 h)))
set_option maxRecDepth 100000 in
theorem aX5_triesOf_l4 {X : MCx} {yd : Dyn} {A : Nat → Prop} (C : OK X cX5_triesOf RX5 4 (some .int) rmX5_triesOf A) (o : Nat) (hM0 : MT o) (v1 : Int32) : ∀ (n : Nat) (v2 : Int32) (v3 : Int32) (h : AH), AW X 4 ZC yd A 0 0 (QF X rmX5_triesOf ZC yd rvI A) 4 [(0, .ref o), (1, .int v1), (2, .int v2), (3, .int v3)] [] h (X5_triesOf_l4 o v1 n v2 v3 h) := by
  intro n
  induction n with
  | zero => intro v2 v3 h; exact aw_none
  | succ n ih =>
    intro v2 v3 h
    exact aw_iload_n (pc := 4) C (i := 3) dK_s_127.2.2.2.2.1 rfl rfl <|
    aw_aload_n (pc := 5) C (i := 0) dK_s_127.2.2.2.2.2.1 rfl rfl <|
    aw_getI (pc := 6) C dK_s_127.2.2.2.2.2.2.1 fl_X5_46 (mt_s hM0) rfl <|
    aw_icmp_ge (pc := 9) C (tgt := 36) dK_s_127.2.2.2.2.2.2.2.1 rfl (fun _ =>
    aw_iload_n (pc := 36) C (i := 2) dK_s_129.2.2.2.2.2.2.1 rfl rfl <|
    aw_iret (pc := 37) C dK_s_129.2.2.2.2.2.2.2.1 rfl rfl) (fun _ =>
    aw_iload_n (pc := 12) C (i := 2) dK_s_128.1 rfl rfl <|
    aw_aload_n (pc := 13) C (i := 0) dK_s_128.2.1 rfl rfl <|
    aw_getR (pc := 14) C (b := (o + 2)) dK_s_128.2.2.1 fl_X5_24 (mt_s hM0) rfl (mt_r6 hM0) <|
    aw_iload_n (pc := 17) C (i := 3) dK_s_128.2.2.2.1 rfl rfl <|
    aw_iald (pc := 18) C dK_s_128.2.2.2.2.1 (mt_s2 hM0) rfl <|
    aw_iload_n (pc := 19) C (i := 1) dK_s_128.2.2.2.2.2.1 rfl rfl <|
    aw_icmp_ne (pc := 20) C (tgt := 27) dK_s_128.2.2.2.2.2.2.1 rfl (fun _ =>
    aw_iconst (pc := 23) C (v := 1) dK_s_128.2.2.2.2.2.2.2.1 rfl <|
    aw_goto (pc := 24) C (tgt := 28) dK_s_129.1 rfl <|
    aw_drop [0, 1, 3] (aX5_triesOf_j28 C o hM0 v1 v3 (X5_triesOf_l4 o v1 n) ih 1 v2 h)) (fun _ =>
    aw_iconst (pc := 27) C (v := 0) dK_s_129.2.1 rfl <|
    aw_drop [0, 1, 3] (aX5_triesOf_j28 C o hM0 v1 v3 (X5_triesOf_l4 o v1 n) ih 0 v2 h)))
def X5_triesOf (o : Nat) (v1 : Int32) (h : AH) : Option (Int32 × AH) :=
    X5_triesOf_l4 o v1 FU 0 0 h
set_option maxRecDepth 100000 in
theorem c_X5_triesOf (l : Launch) (o : Nat) (hM0 : MT o) (v1 : Int32) : MC l yX5_triesOf cX5_triesOf 4 (some .int) rmX5_triesOf ZC [.ref o, .int v1] rvI (X5_triesOf o v1) :=
  MC.of (own := RX5) pn_RX5 rfl (Nat.le_of_ble_eq_true rfl) fun X yd A h _ C =>
    aw_iconst (pc := 0) C (v := 0) dK_s_127.1 rfl <|
    aw_istore_n (pc := 1) C (i := 2) (lv' := [(0, .ref o), (1, .int v1), (2, .int 0)]) dK_s_127.2.1 rfl (by decide) rfl <|
    aw_iconst (pc := 2) C (v := 0) dK_s_127.2.2.1 rfl <|
    aw_istore_n (pc := 3) C (i := 3) (lv' := [(0, .ref o), (1, .int v1), (2, .int 0), (3, .int 0)]) dK_s_127.2.2.2.1 rfl (by decide) rfl <|
    (aX5_triesOf_l4 C o hM0 v1 FU 0 0 h)

abbrev rmX5_triesWith : Room := { frames := 0, cells := 0, slots := 0, locals := 0 }
def X5_triesWith_j28 (o : Nat) (v1 : Int32) (v3 : Int32) (K4 : Int32 → Int32 → AH → Option (Int32 × AH)) (s0 : Int32) (s1 : Int32) (h : AH) : Option (Int32 × AH) :=
    vl (s1 + s0) fun x1 =>
    vl (v3 + 1) fun x2 =>
    K4 x1 x2 h
set_option maxRecDepth 100000 in
theorem aX5_triesWith_j28 {X : MCx} {yd : Dyn} {A : Nat → Prop} (C : OK X cX5_triesWith RX5 4 (some .int) rmX5_triesWith A) (o : Nat) (hM0 : MT o) (v1 : Int32) (v3 : Int32) (K4 : Int32 → Int32 → AH → Option (Int32 × AH)) (hK4 : ∀ (w2 : Int32) (w3 : Int32) (h : AH), AW X 4 ZC yd A 0 0 (QF X rmX5_triesWith ZC yd rvI A) 4 [(0, .ref o), (1, .int v1), (2, .int w2), (3, .int w3)] [] h (K4 w2 w3 h)) (s0 : Int32) (s1 : Int32) (h : AH) : AW X 4 ZC yd A 0 0 (QF X rmX5_triesWith ZC yd rvI A) 28 [(0, .ref o), (1, .int v1), (3, .int v3)] [.int s0, .int s1] h (X5_triesWith_j28 o v1 v3 K4 s0 s1 h) := by
    exact aw_iadd (pc := 28) C dK_s_132.2.2.1 <|
    aw_istoreV_n (pc := 29) C (i := 2) (fun x1 => [(0, .ref o), (1, .int v1), (2, .int x1), (3, .int v3)]) dK_s_132.2.2.2.1 rfl (by decide) (fun _ => rfl) fun x1 =>
    aw_iincV (pc := 30) C (i := 3) (cst := 1) (fun x2 => [(0, .ref o), (1, .int v1), (2, .int x1), (3, .int x2)]) dK_s_132.2.2.2.2.1 rfl rfl (by decide) (fun _ => rfl) fun x2 =>
    aw_goto (pc := 33) C (tgt := 4) dK_s_132.2.2.2.2.2.1 rfl <|
    (hK4 x1 x2 h)
def X5_triesWith_l4 (o : Nat) (v1 : Int32) : Nat → Int32 → Int32 → AH → Option (Int32 × AH)
  | 0, _, _, _ => none
  | n + 1, v2, v3, h =>
    if (h.1 o 4) ≤ v3 then (some (v2, h))
    else (ck v3 24 (if (h.1 (o + 4) v3.toNatClampNeg) = v1 then (X5_triesWith_j28 o v1 v3 (X5_triesWith_l4 o v1 n) 1 v2 h)
    else (X5_triesWith_j28 o v1 v3 (X5_triesWith_l4 o v1 n) 0 v2 h)))
set_option maxRecDepth 100000 in
theorem aX5_triesWith_l4 {X : MCx} {yd : Dyn} {A : Nat → Prop} (C : OK X cX5_triesWith RX5 4 (some .int) rmX5_triesWith A) (o : Nat) (hM0 : MT o) (v1 : Int32) : ∀ (n : Nat) (v2 : Int32) (v3 : Int32) (h : AH), AW X 4 ZC yd A 0 0 (QF X rmX5_triesWith ZC yd rvI A) 4 [(0, .ref o), (1, .int v1), (2, .int v2), (3, .int v3)] [] h (X5_triesWith_l4 o v1 n v2 v3 h) := by
  intro n
  induction n with
  | zero => intro v2 v3 h; exact aw_none
  | succ n ih =>
    intro v2 v3 h
    exact aw_iload_n (pc := 4) C (i := 3) dK_s_130.2.2.2.2.1 rfl rfl <|
    aw_aload_n (pc := 5) C (i := 0) dK_s_130.2.2.2.2.2.1 rfl rfl <|
    aw_getI (pc := 6) C dK_s_130.2.2.2.2.2.2.1 fl_X5_46 (mt_s hM0) rfl <|
    aw_icmp_ge (pc := 9) C (tgt := 36) dK_s_130.2.2.2.2.2.2.2.1 rfl (fun _ =>
    aw_iload_n (pc := 36) C (i := 2) dK_s_132.2.2.2.2.2.2.1 rfl rfl <|
    aw_iret (pc := 37) C dK_s_132.2.2.2.2.2.2.2.1 rfl rfl) (fun _ =>
    aw_iload_n (pc := 12) C (i := 2) dK_s_131.1 rfl rfl <|
    aw_aload_n (pc := 13) C (i := 0) dK_s_131.2.1 rfl rfl <|
    aw_getR (pc := 14) C (b := (o + 4)) dK_s_131.2.2.1 fl_X5_31 (mt_s hM0) rfl (mt_r8 hM0) <|
    aw_iload_n (pc := 17) C (i := 3) dK_s_131.2.2.2.1 rfl rfl <|
    aw_iald (pc := 18) C dK_s_131.2.2.2.2.1 (mt_s4 hM0) rfl <|
    aw_iload_n (pc := 19) C (i := 1) dK_s_131.2.2.2.2.2.1 rfl rfl <|
    aw_icmp_ne (pc := 20) C (tgt := 27) dK_s_131.2.2.2.2.2.2.1 rfl (fun _ =>
    aw_iconst (pc := 23) C (v := 1) dK_s_131.2.2.2.2.2.2.2.1 rfl <|
    aw_goto (pc := 24) C (tgt := 28) dK_s_132.1 rfl <|
    aw_drop [0, 1, 3] (aX5_triesWith_j28 C o hM0 v1 v3 (X5_triesWith_l4 o v1 n) ih 1 v2 h)) (fun _ =>
    aw_iconst (pc := 27) C (v := 0) dK_s_132.2.1 rfl <|
    aw_drop [0, 1, 3] (aX5_triesWith_j28 C o hM0 v1 v3 (X5_triesWith_l4 o v1 n) ih 0 v2 h)))
def X5_triesWith (o : Nat) (v1 : Int32) (h : AH) : Option (Int32 × AH) :=
    X5_triesWith_l4 o v1 FU 0 0 h
set_option maxRecDepth 100000 in
theorem c_X5_triesWith (l : Launch) (o : Nat) (hM0 : MT o) (v1 : Int32) : MC l yX5_triesWith cX5_triesWith 4 (some .int) rmX5_triesWith ZC [.ref o, .int v1] rvI (X5_triesWith o v1) :=
  MC.of (own := RX5) pn_RX5 rfl (Nat.le_of_ble_eq_true rfl) fun X yd A h _ C =>
    aw_iconst (pc := 0) C (v := 0) dK_s_130.1 rfl <|
    aw_istore_n (pc := 1) C (i := 2) (lv' := [(0, .ref o), (1, .int v1), (2, .int 0)]) dK_s_130.2.1 rfl (by decide) rfl <|
    aw_iconst (pc := 2) C (v := 0) dK_s_130.2.2.1 rfl <|
    aw_istore_n (pc := 3) C (i := 3) (lv' := [(0, .ref o), (1, .int v1), (2, .int 0), (3, .int 0)]) dK_s_130.2.2.2.1 rfl (by decide) rfl <|
    (aX5_triesWith_l4 C o hM0 v1 FU 0 0 h)

abbrev rmX5_find : Room := { frames := 0, cells := 0, slots := 0, locals := 0 }
def X5_find_j36 (o : Nat) (v1 : Int32) (v2 : Int32) (v3 : Int32) (v4 : Int32) (K5 : Int32 → Int32 → AH → Option (Int32 × AH)) (h : AH) : Option (Int32 × AH) :=
    vl (v4 + 1) fun x1 =>
    K5 v3 x1 h
set_option maxRecDepth 100000 in
theorem aX5_find_j36 {X : MCx} {yd : Dyn} {A : Nat → Prop} (C : OK X cX5_find RX5 5 (some .int) rmX5_find A) (o : Nat) (hM0 : MT o) (v1 : Int32) (v2 : Int32) (v3 : Int32) (v4 : Int32) (K5 : Int32 → Int32 → AH → Option (Int32 × AH)) (hK5 : ∀ (w3 : Int32) (w4 : Int32) (h : AH), AW X 5 ZC yd A 0 0 (QF X rmX5_find ZC yd rvI A) 5 [(0, .ref o), (1, .int v1), (2, .int v2), (3, .int w3), (4, .int w4)] [] h (K5 w3 w4 h)) (h : AH) : AW X 5 ZC yd A 0 0 (QF X rmX5_find ZC yd rvI A) 36 [(0, .ref o), (1, .int v1), (2, .int v2), (3, .int v3), (4, .int v4)] [] h (X5_find_j36 o v1 v2 v3 v4 K5 h) := by
    exact aw_iincV (pc := 36) C (i := 4) (cst := 1) (fun x1 => [(0, .ref o), (1, .int v1), (2, .int v2), (3, .int v3), (4, .int x1)]) dK_s_135.2.2.2.2.1 rfl rfl (by decide) (fun _ => rfl) fun x1 =>
    aw_goto (pc := 39) C (tgt := 5) dK_s_135.2.2.2.2.2.1 rfl <|
    (hK5 v3 x1 h)
def X5_find_l5 (o : Nat) (v1 : Int32) (v2 : Int32) : Nat → Int32 → Int32 → AH → Option (Int32 × AH)
  | 0, _, _, _ => none
  | n + 1, v3, v4, h =>
    if (h.1 o 4) ≤ v4 then (some ((-1), h))
    else (ck v4 24 (if (h.1 (o + 2) v4.toNatClampNeg) = v1 then (if v3 = v2 then (some (v4, h))
    else (vl (v3 + 1) fun x2 =>
    X5_find_j36 o v1 v2 x2 v4 (X5_find_l5 o v1 v2 n) h))
    else (X5_find_j36 o v1 v2 v3 v4 (X5_find_l5 o v1 v2 n) h)))
set_option maxRecDepth 100000 in
theorem aX5_find_l5 {X : MCx} {yd : Dyn} {A : Nat → Prop} (C : OK X cX5_find RX5 5 (some .int) rmX5_find A) (o : Nat) (hM0 : MT o) (v1 : Int32) (v2 : Int32) : ∀ (n : Nat) (v3 : Int32) (v4 : Int32) (h : AH), AW X 5 ZC yd A 0 0 (QF X rmX5_find ZC yd rvI A) 5 [(0, .ref o), (1, .int v1), (2, .int v2), (3, .int v3), (4, .int v4)] [] h (X5_find_l5 o v1 v2 n v3 v4 h) := by
  intro n
  induction n with
  | zero => intro v3 v4 h; exact aw_none
  | succ n ih =>
    intro v3 v4 h
    exact aw_iload (pc := 5) C (i := 4) dK_s_133.2.2.2.2.1 rfl <|
    aw_aload_n (pc := 7) C (i := 0) dK_s_133.2.2.2.2.2.1 rfl rfl <|
    aw_getI (pc := 8) C dK_s_133.2.2.2.2.2.2.1 fl_X5_46 (mt_s hM0) rfl <|
    aw_icmp_ge (pc := 11) C (tgt := 42) dK_s_133.2.2.2.2.2.2.2.1 rfl (fun _ =>
    aw_iconst (pc := 42) C (v := (-1)) dK_s_135.2.2.2.2.2.2.1 rfl <|
    aw_iret (pc := 43) C dK_s_135.2.2.2.2.2.2.2.1 rfl rfl) (fun _ =>
    aw_aload_n (pc := 14) C (i := 0) dK_s_134.1 rfl rfl <|
    aw_getR (pc := 15) C (b := (o + 2)) dK_s_134.2.1 fl_X5_24 (mt_s hM0) rfl (mt_r6 hM0) <|
    aw_iload (pc := 18) C (i := 4) dK_s_134.2.2.1 rfl <|
    aw_iald (pc := 20) C dK_s_134.2.2.2.1 (mt_s2 hM0) rfl <|
    aw_iload_n (pc := 21) C (i := 1) dK_s_134.2.2.2.2.1 rfl rfl <|
    aw_icmp_ne (pc := 22) C (tgt := 36) dK_s_134.2.2.2.2.2.1 rfl (fun _ =>
    aw_iload_n (pc := 25) C (i := 3) dK_s_134.2.2.2.2.2.2.1 rfl rfl <|
    aw_iload_n (pc := 26) C (i := 2) dK_s_134.2.2.2.2.2.2.2.1 rfl rfl <|
    aw_icmp_ne (pc := 27) C (tgt := 33) dK_s_135.1 rfl (fun _ =>
    aw_iload (pc := 30) C (i := 4) dK_s_135.2.1 rfl <|
    aw_iret (pc := 32) C dK_s_135.2.2.1 rfl rfl) (fun _ =>
    aw_iincV (pc := 33) C (i := 3) (cst := 1) (fun x2 => [(0, .ref o), (1, .int v1), (2, .int v2), (3, .int x2), (4, .int v4)]) dK_s_135.2.2.2.1 rfl rfl (by decide) (fun _ => rfl) fun x2 =>
    (aX5_find_j36 C o hM0 v1 v2 x2 v4 (X5_find_l5 o v1 v2 n) ih h))) (fun _ =>
    (aX5_find_j36 C o hM0 v1 v2 v3 v4 (X5_find_l5 o v1 v2 n) ih h)))
def X5_find (o : Nat) (v1 : Int32) (v2 : Int32) (h : AH) : Option (Int32 × AH) :=
    X5_find_l5 o v1 v2 FU 0 0 h
set_option maxRecDepth 100000 in
theorem c_X5_find (l : Launch) (o : Nat) (hM0 : MT o) (v1 : Int32) (v2 : Int32) : MC l yX5_find cX5_find 5 (some .int) rmX5_find ZC [.ref o, .int v1, .int v2] rvI (X5_find o v1 v2) :=
  MC.of (own := RX5) pn_RX5 rfl (Nat.le_of_ble_eq_true rfl) fun X yd A h _ C =>
    aw_iconst (pc := 0) C (v := 0) dK_s_133.1 rfl <|
    aw_istore_n (pc := 1) C (i := 3) (lv' := [(0, .ref o), (1, .int v1), (2, .int v2), (3, .int 0)]) dK_s_133.2.1 rfl (by decide) rfl <|
    aw_iconst (pc := 2) C (v := 0) dK_s_133.2.2.1 rfl <|
    aw_istore (pc := 3) C (i := 4) (lv' := [(0, .ref o), (1, .int v1), (2, .int v2), (3, .int 0), (4, .int 0)]) dK_s_133.2.2.2.1 (by decide) rfl <|
    (aX5_find_l5 C o hM0 v1 v2 FU 0 0 h)

abbrev rmX6_longest : Room := { frames := 0, cells := 0, slots := 0, locals := 0 }
def X6_longest_j9  (h : AH) : Option (Int32 × AH) :=
    some (0, h)
set_option maxRecDepth 100000 in
theorem aX6_longest_j9 {X : MCx} {yd : Dyn} {A : Nat → Prop} (C : OK X cX6_longest RX6 2 (some .int) rmX6_longest A)  (h : AH) : AW X 2 ZC yd A 0 0 (QF X rmX6_longest ZC yd rvI A) 9 [] [] h (X6_longest_j9 h) := by
    exact aw_iconst (pc := 9) C (v := 0) dK_s_145.2.2.2.2.2.1 rfl <|
    aw_goto (pc := 10) C (tgt := 19) dK_s_145.2.2.2.2.2.2.1 rfl <|
    aw_iret (pc := 19) C dK_s_146.2.2.2.1 rfl rfl
def X6_longest (v1 : Int32) (h : AH) : Option (Int32 × AH) :=
    if v1 < 0 then (X6_longest_j9 h)
    else (if v1 < 4 then (ck v1 4 (some ((h.1 6 v1.toNatClampNeg), h)))
    else (X6_longest_j9 h))
set_option maxRecDepth 100000 in
theorem c_X6_longest (l : Launch) (v1 : Int32) : MC l yX6_longest cX6_longest 2 (some .int) rmX6_longest ZC [.ref 5, .int v1] rvI (X6_longest v1) :=
  MC.of (own := RX6) pn_RX6 rfl (Nat.le_of_ble_eq_true rfl) fun X yd A h _ C =>
    aw_iload_n (pc := 0) C (i := 1) dK_s_145.1 rfl rfl <|
    aw_if_lt (pc := 1) C (tgt := 9) dK_s_145.2.1 rfl (fun _ =>
    aw_drop [] (aX6_longest_j9 C h)) (fun _ =>
    aw_iload_n (pc := 4) C (i := 1) dK_s_145.2.2.1 rfl rfl <|
    aw_iconst (pc := 5) C (v := 4) dK_s_145.2.2.2.1 rfl <|
    aw_icmp_lt (pc := 6) C (tgt := 13) dK_s_145.2.2.2.2.1 rfl (fun _ =>
    aw_aload_n (pc := 13) C (i := 0) dK_s_145.2.2.2.2.2.2.2.1 rfl rfl <|
    aw_getR (pc := 14) C (b := 6) dK_s_146.1 fl_X6_9 sC_5 rfl rC_5_1 <|
    aw_iload_n (pc := 17) C (i := 1) dK_s_146.2.1 rfl rfl <|
    aw_iald (pc := 18) C dK_s_146.2.2.1 sC_6 rfl <|
    aw_iret (pc := 19) C dK_s_146.2.2.2.1 rfl rfl) (fun _ =>
    aw_drop [] (aX6_longest_j9 C h)))
end
section
abbrev rmX6_secondLongest : Room := { frames := 0, cells := 0, slots := 0, locals := 0 }
def X6_secondLongest_j9  (h : AH) : Option (Int32 × AH) :=
    some (0, h)
set_option maxRecDepth 100000 in
theorem aX6_secondLongest_j9 {X : MCx} {yd : Dyn} {A : Nat → Prop} (C : OK X cX6_secondLongest RX6 2 (some .int) rmX6_secondLongest A)  (h : AH) : AW X 2 ZC yd A 0 0 (QF X rmX6_secondLongest ZC yd rvI A) 9 [] [] h (X6_secondLongest_j9 h) := by
    exact aw_iconst (pc := 9) C (v := 0) dK_s_147.2.2.2.2.2.1 rfl <|
    aw_goto (pc := 10) C (tgt := 19) dK_s_147.2.2.2.2.2.2.1 rfl <|
    aw_iret (pc := 19) C dK_s_148.2.2.2.1 rfl rfl
def X6_secondLongest (v1 : Int32) (h : AH) : Option (Int32 × AH) :=
    if v1 < 0 then (X6_secondLongest_j9 h)
    else (if v1 < 4 then (ck v1 4 (some ((h.1 7 v1.toNatClampNeg), h)))
    else (X6_secondLongest_j9 h))
set_option maxRecDepth 100000 in
theorem c_X6_secondLongest (l : Launch) (v1 : Int32) : MC l yX6_secondLongest cX6_secondLongest 2 (some .int) rmX6_secondLongest ZC [.ref 5, .int v1] rvI (X6_secondLongest v1) :=
  MC.of (own := RX6) pn_RX6 rfl (Nat.le_of_ble_eq_true rfl) fun X yd A h _ C =>
    aw_iload_n (pc := 0) C (i := 1) dK_s_147.1 rfl rfl <|
    aw_if_lt (pc := 1) C (tgt := 9) dK_s_147.2.1 rfl (fun _ =>
    aw_drop [] (aX6_secondLongest_j9 C h)) (fun _ =>
    aw_iload_n (pc := 4) C (i := 1) dK_s_147.2.2.1 rfl rfl <|
    aw_iconst (pc := 5) C (v := 4) dK_s_147.2.2.2.1 rfl <|
    aw_icmp_lt (pc := 6) C (tgt := 13) dK_s_147.2.2.2.2.1 rfl (fun _ =>
    aw_aload_n (pc := 13) C (i := 0) dK_s_147.2.2.2.2.2.2.2.1 rfl rfl <|
    aw_getR (pc := 14) C (b := 7) dK_s_148.1 fl_X6_15 sC_5 rfl rC_5_2 <|
    aw_iload_n (pc := 17) C (i := 1) dK_s_148.2.1 rfl rfl <|
    aw_iald (pc := 18) C dK_s_148.2.2.1 sC_7 rfl <|
    aw_iret (pc := 19) C dK_s_148.2.2.2.1 rfl rfl) (fun _ =>
    aw_drop [] (aX6_secondLongest_j9 C h)))

abbrev rmX10_refuse : Room := { frames := 0, cells := 0, slots := 0, locals := 0 }
def X10_refuse (v1 : Int32) (h : AH) : Option (Int32 × AH) :=
    if 0 ≤ v1 then (some (v1, h))
    else (if 7 ≤ (-v1) then (some (v1, h))
    else (ck (-v1) 7 (ck (-v1) 7 (vl (sI h 4 (-v1).toNatClampNeg ((h.1 4 (-v1).toNatClampNeg) + 1)) fun h1 =>
    some (v1, h1)))))
set_option maxRecDepth 100000 in
theorem c_X10_refuse (l : Launch) (v1 : Int32) : MC l yX10_refuse cX10_refuse 2 (some .int) rmX10_refuse ZC [.ref 0, .int v1] rvI (X10_refuse v1) :=
  MC.of (own := RX10) pn_RX10 rfl (Nat.le_of_ble_eq_true rfl) fun X yd A h _ C =>
    aw_iload_n (pc := 0) C (i := 1) dK_a_15.1 rfl rfl <|
    aw_if_ge (pc := 1) C (tgt := 25) dK_a_15.2.1 rfl (fun _ =>
    aw_iload_n (pc := 25) C (i := 1) dK_a_17.2.1 rfl rfl <|
    aw_iret (pc := 26) C dK_a_17.2.2.1 rfl rfl) (fun _ =>
    aw_iload_n (pc := 4) C (i := 1) dK_a_15.2.2.1 rfl rfl <|
    aw_ineg (pc := 5) C dK_a_15.2.2.2.1 <|
    aw_aload_n (pc := 6) C (i := 0) dK_a_15.2.2.2.2.1 rfl rfl <|
    aw_getR (pc := 7) C (b := 4) dK_a_15.2.2.2.2.2.1 fl_X10_22 sC_0 rfl rC_0_9 <|
    aw_alenI (pc := 10) C (v := 7) (by decide) dK_a_15.2.2.2.2.2.2.1 sC_4 rfl rfl <|
    aw_icmp_ge (pc := 11) C (tgt := 25) dK_a_15.2.2.2.2.2.2.2.1 rfl (fun _ =>
    aw_iload_n (pc := 25) C (i := 1) dK_a_17.2.1 rfl rfl <|
    aw_iret (pc := 26) C dK_a_17.2.2.1 rfl rfl) (fun _ =>
    aw_aload_n (pc := 14) C (i := 0) dK_a_16.1 rfl rfl <|
    aw_getR (pc := 15) C (b := 4) dK_a_16.2.1 fl_X10_22 sC_0 rfl rC_0_9 <|
    aw_iload_n (pc := 18) C (i := 1) dK_a_16.2.2.1 rfl rfl <|
    aw_ineg (pc := 19) C dK_a_16.2.2.2.1 <|
    aw_dup2 (pc := 20) C dK_a_16.2.2.2.2.1 rfl rfl <|
    aw_iald (pc := 21) C dK_a_16.2.2.2.2.2.1 sC_4 rfl <|
    aw_iconst (pc := 22) C (v := 1) dK_a_16.2.2.2.2.2.2.1 rfl <|
    aw_iadd (pc := 23) C dK_a_16.2.2.2.2.2.2.2.1 <|
    aw_iast (pc := 24) C dK_a_17.1 sC_4 rfl fun h1 =>
    aw_iload_n (pc := 25) C (i := 1) dK_a_17.2.1 rfl rfl <|
    aw_iret (pc := 26) C dK_a_17.2.2.1 rfl rfl))

abbrev rmX10_first : Room := { frames := 0, cells := 0, slots := 0, locals := 0 }
def X10_first (v0 : Int32) (v1 : Int32) (h : AH) : Option (Int32 × AH) :=
    if v0 = 0 then (some (v1, h))
    else (some (v0, h))
set_option maxRecDepth 100000 in
theorem c_X10_first (l : Launch) (v0 : Int32) (v1 : Int32) : MC l yX10_first cX10_first 2 (some .int) rmX10_first ZC [.int v0, .int v1] rvI (X10_first v0 v1) :=
  MC.of (own := RX10) pn_RX10 rfl (Nat.le_of_ble_eq_true rfl) fun X yd A h _ C =>
    aw_iload_n (pc := 0) C (i := 0) dK_a_18.1 rfl rfl <|
    aw_if_eq (pc := 1) C (tgt := 8) dK_a_18.2.1 rfl (fun _ =>
    aw_iload_n (pc := 8) C (i := 1) dK_a_18.2.2.2.2.1 rfl rfl <|
    aw_iret (pc := 9) C dK_a_18.2.2.2.2.2.1 rfl rfl) (fun _ =>
    aw_iload_n (pc := 4) C (i := 0) dK_a_18.2.2.1 rfl rfl <|
    aw_goto (pc := 5) C (tgt := 9) dK_a_18.2.2.2.1 rfl <|
    aw_iret (pc := 9) C dK_a_18.2.2.2.2.2.1 rfl rfl)

abbrev rmX10_nobody : Room := { frames := 0, cells := 0, slots := 0, locals := 0 }
def X10_nobody_j15  (h : AH) : Option (Int32 × AH) :=
    some ((-1), h)
set_option maxRecDepth 100000 in
theorem aX10_nobody_j15 {X : MCx} {yd : Dyn} {A : Nat → Prop} (C : OK X cX10_nobody RX10 2 (some .int) rmX10_nobody A)  (h : AH) : AW X 2 ZC yd A 0 0 (QF X rmX10_nobody ZC yd rvI A) 15 [] [] h (X10_nobody_j15 h) := by
    exact aw_iconst (pc := 15) C (v := (-1)) dK_a_19.2.2.2.2.2.2.2.1 rfl <|
    aw_goto (pc := 16) C (tgt := 20) dK_a_20.1 rfl <|
    aw_iret (pc := 20) C dK_a_20.2.2.1 rfl rfl
def X10_nobody (v1 : Int32) (h : AH) : Option (Int32 × AH) :=
    if v1 < 0 then (X10_nobody_j15 h)
    else (if v1 < (h.1 42 3) then (some (0, h))
    else (X10_nobody_j15 h))
set_option maxRecDepth 100000 in
theorem c_X10_nobody (l : Launch) (v1 : Int32) : MC l yX10_nobody cX10_nobody 2 (some .int) rmX10_nobody ZC [.ref 0, .int v1] rvI (X10_nobody v1) :=
  MC.of (own := RX10) pn_RX10 rfl (Nat.le_of_ble_eq_true rfl) fun X yd A h _ C =>
    aw_iload_n (pc := 0) C (i := 1) dK_a_19.1 rfl rfl <|
    aw_if_lt (pc := 1) C (tgt := 15) dK_a_19.2.1 rfl (fun _ =>
    aw_drop [] (aX10_nobody_j15 C h)) (fun _ =>
    aw_iload_n (pc := 4) C (i := 1) dK_a_19.2.2.1 rfl rfl <|
    aw_aload_n (pc := 5) C (i := 0) dK_a_19.2.2.2.1 rfl rfl <|
    aw_getR (pc := 6) C (b := 42) dK_a_19.2.2.2.2.1 fl_X10_72 sC_0 rfl rC_0_1 <|
    aw_getI (pc := 9) C dK_a_19.2.2.2.2.2.1 fl_X10_89 (mt_s (Or.inl rfl)) rfl <|
    aw_icmp_lt (pc := 12) C (tgt := 19) dK_a_19.2.2.2.2.2.2.1 rfl (fun _ =>
    aw_iconst (pc := 19) C (v := 0) dK_a_20.2.1 rfl <|
    aw_iret (pc := 20) C dK_a_20.2.2.1 rfl rfl) (fun _ =>
    aw_drop [] (aX10_nobody_j15 C h)))

abbrev rmX10_nobodyOfTwo : Room := { frames := 1, cells := 0, slots := 0, locals := 21 }
def X10_nobodyOfTwo (v1 : Int32) (v2 : Int32) (h : AH) : Option (Int32 × AH) :=
    if v1 = v2 then (some ((-1), h))
    else (bd (X10_nobody v1 h) fun r1 h2 =>
    bd (X10_nobody v2 h2) fun r3 h4 =>
    bd (X10_first r1 r3 h4) fun r5 h6 =>
    some (r5, h6))
set_option maxRecDepth 100000 in
theorem c_X10_nobodyOfTwo (l : Launch) (v1 : Int32) (v2 : Int32) : MC l yX10_nobodyOfTwo cX10_nobodyOfTwo 3 (some .int) rmX10_nobodyOfTwo ZC [.ref 0, .int v1, .int v2] rvI (X10_nobodyOfTwo v1 v2) :=
  MC.of (own := RX10) pn_RX10 rfl (Nat.le_of_ble_eq_true rfl) fun X yd A h _ C =>
    aw_iload_n (pc := 0) C (i := 1) dK_a_21.1 rfl rfl <|
    aw_iload_n (pc := 1) C (i := 2) dK_a_21.2.1 rfl rfl <|
    aw_icmp_ne (pc := 2) C (tgt := 9) dK_a_21.2.2.1 rfl (fun _ =>
    aw_iconst (pc := 5) C (v := (-1)) dK_a_21.2.2.2.1 rfl <|
    aw_goto (pc := 6) C (tgt := 22) dK_a_21.2.2.2.2.1 rfl <|
    aw_iret (pc := 22) C dK_a_22.2.2.2.2.1 rfl rfl) (fun _ =>
    aw_aload_n (pc := 9) C (i := 0) dK_a_21.2.2.2.2.2.1 rfl rfl <|
    aw_iload_n (pc := 10) C (i := 1) dK_a_21.2.2.2.2.2.2.1 rfl rfl <|
    aw_callF (pc := 11) C (cr_V (rest := []) (F := (X10_nobody v1)) C (c_X10_nobody X.2.1 v1) dK_a_21.2.2.2.2.2.2.2.1 mf_X10_nobody ml_X10_93 im_X10_nobody se_X10_nobody sC_0 rfl ⟨(Nat.le_of_ble_eq_true rfl), (Nat.le_of_ble_eq_true rfl)⟩ rfl rfl (Nat.le_of_ble_eq_true rfl)) rfl rfl rfl (Nat.zero_le _) (Nat.zero_le _) fun r1 h2 =>
    aw_aload_n (pc := 14) C (i := 0) dK_a_22.1 rfl rfl <|
    aw_iload_n (pc := 15) C (i := 2) dK_a_22.2.1 rfl rfl <|
    aw_callF (pc := 16) C (cr_V (rest := [.int r1]) (F := (X10_nobody v2)) C (c_X10_nobody X.2.1 v2) dK_a_22.2.2.1 mf_X10_nobody ml_X10_93 im_X10_nobody se_X10_nobody sC_0 rfl ⟨(Nat.le_of_ble_eq_true rfl), (Nat.le_of_ble_eq_true rfl)⟩ rfl rfl (Nat.le_of_ble_eq_true rfl)) rfl rfl rfl (Nat.zero_le _) (Nat.zero_le _) fun r3 h4 =>
    aw_callF (pc := 19) C (cr_S (rest := []) (F := (X10_first r1 r3)) C (c_X10_first X.2.1 r1 r3) dK_a_22.2.2.2.1 mf_X10_first ml_X10_97 st_X10_first ⟨(Nat.le_of_ble_eq_true rfl), (Nat.le_of_ble_eq_true rfl)⟩ rfl rfl (Nat.le_of_ble_eq_true rfl)) rfl rfl rfl (Nat.zero_le _) (Nat.zero_le _) fun r5 h6 =>
    aw_iret (pc := 22) C dK_a_22.2.2.2.2.1 rfl rfl)

abbrev rmX10_noSuch : Room := { frames := 0, cells := 0, slots := 0, locals := 0 }
def X10_noSuch_j9  (h : AH) : Option (Int32 × AH) :=
    some ((-2), h)
set_option maxRecDepth 100000 in
theorem aX10_noSuch_j9 {X : MCx} {yd : Dyn} {A : Nat → Prop} (C : OK X cX10_noSuch RX10 2 (some .int) rmX10_noSuch A)  (h : AH) : AW X 2 ZC yd A 0 0 (QF X rmX10_noSuch ZC yd rvI A) 9 [] [] h (X10_noSuch_j9 h) := by
    exact aw_bipush (pc := 9) C (v := (-2)) dK_a_23.2.2.2.2.2.1 rfl <|
    aw_goto (pc := 11) C (tgt := 15) dK_a_23.2.2.2.2.2.2.1 rfl <|
    aw_iret (pc := 15) C dK_a_24.1 rfl rfl
def X10_noSuch (v0 : Int32) (v1 : Int32) (h : AH) : Option (Int32 × AH) :=
    if v0 < 0 then (X10_noSuch_j9 h)
    else (if v0 ≤ v1 then (some (0, h))
    else (X10_noSuch_j9 h))
set_option maxRecDepth 100000 in
theorem c_X10_noSuch (l : Launch) (v0 : Int32) (v1 : Int32) : MC l yX10_noSuch cX10_noSuch 2 (some .int) rmX10_noSuch ZC [.int v0, .int v1] rvI (X10_noSuch v0 v1) :=
  MC.of (own := RX10) pn_RX10 rfl (Nat.le_of_ble_eq_true rfl) fun X yd A h _ C =>
    aw_iload_n (pc := 0) C (i := 0) dK_a_23.1 rfl rfl <|
    aw_if_lt (pc := 1) C (tgt := 9) dK_a_23.2.1 rfl (fun _ =>
    aw_drop [] (aX10_noSuch_j9 C h)) (fun _ =>
    aw_iload_n (pc := 4) C (i := 0) dK_a_23.2.2.1 rfl rfl <|
    aw_iload_n (pc := 5) C (i := 1) dK_a_23.2.2.2.1 rfl rfl <|
    aw_icmp_le (pc := 6) C (tgt := 14) dK_a_23.2.2.2.2.1 rfl (fun _ =>
    aw_iconst (pc := 14) C (v := 0) dK_a_23.2.2.2.2.2.2.2.1 rfl <|
    aw_iret (pc := 15) C dK_a_24.1 rfl rfl) (fun _ =>
    aw_drop [] (aX10_noSuch_j9 C h)))

abbrev rmX10_outside : Room := { frames := 0, cells := 0, slots := 0, locals := 0 }
def X10_outside (v0 : Int32) (v1 : Int32) (v2 : Int32) (h : AH) : Option (Int32 × AH) :=
    if v1 ≤ v0 then (if v0 ≤ v2 then (some (0, h))
    else (some ((-6), h)))
    else (some ((-4), h))
set_option maxRecDepth 100000 in
theorem c_X10_outside (l : Launch) (v0 : Int32) (v1 : Int32) (v2 : Int32) : MC l yX10_outside cX10_outside 3 (some .int) rmX10_outside ZC [.int v0, .int v1, .int v2] rvI (X10_outside v0 v1 v2) :=
  MC.of (own := RX10) pn_RX10 rfl (Nat.le_of_ble_eq_true rfl) fun X yd A h _ C =>
    aw_iload_n (pc := 0) C (i := 0) dK_a_25.1 rfl rfl <|
    aw_iload_n (pc := 1) C (i := 1) dK_a_25.2.1 rfl rfl <|
    aw_icmp_ge (pc := 2) C (tgt := 10) dK_a_25.2.2.1 rfl (fun _ =>
    aw_iload_n (pc := 10) C (i := 0) dK_a_25.2.2.2.2.2.1 rfl rfl <|
    aw_iload_n (pc := 11) C (i := 2) dK_a_25.2.2.2.2.2.2.1 rfl rfl <|
    aw_icmp_le (pc := 12) C (tgt := 20) dK_a_25.2.2.2.2.2.2.2.1 rfl (fun _ =>
    aw_iconst (pc := 20) C (v := 0) dK_a_26.2.2.1 rfl <|
    aw_iret (pc := 21) C dK_a_26.2.2.2.1 rfl rfl) (fun _ =>
    aw_bipush (pc := 15) C (v := (-6)) dK_a_26.1 rfl <|
    aw_goto (pc := 17) C (tgt := 21) dK_a_26.2.1 rfl <|
    aw_iret (pc := 21) C dK_a_26.2.2.2.1 rfl rfl)) (fun _ =>
    aw_bipush (pc := 5) C (v := (-4)) dK_a_25.2.2.2.1 rfl <|
    aw_goto (pc := 7) C (tgt := 21) dK_a_25.2.2.2.2.1 rfl <|
    aw_iret (pc := 21) C dK_a_26.2.2.2.1 rfl rfl)

abbrev rmX10_noPart : Room := { frames := 1, cells := 0, slots := 0, locals := 21 }
def X10_noPart (v0 : Int32) (h : AH) : Option (Int32 × AH) :=
    bd (X10_noSuch v0 1 h) fun r1 h2 =>
    some (r1, h2)
set_option maxRecDepth 100000 in
theorem c_X10_noPart (l : Launch) (v0 : Int32) : MC l yX10_noPart cX10_noPart 1 (some .int) rmX10_noPart ZC [.int v0] rvI (X10_noPart v0) :=
  MC.of (own := RX10) pn_RX10 rfl (Nat.le_of_ble_eq_true rfl) fun X yd A h _ C =>
    aw_iload_n (pc := 0) C (i := 0) dK_a_27.1 rfl rfl <|
    aw_iconst (pc := 1) C (v := 1) dK_a_27.2.1 rfl <|
    aw_callF (pc := 2) C (cr_S (rest := []) (F := (X10_noSuch v0 1)) C (c_X10_noSuch X.2.1 v0 1) dK_a_27.2.2.1 mf_X10_noSuch ml_X10_101 st_X10_noSuch ⟨(Nat.le_of_ble_eq_true rfl), (Nat.le_of_ble_eq_true rfl)⟩ rfl rfl (Nat.le_of_ble_eq_true rfl)) rfl rfl rfl (Nat.zero_le _) (Nat.zero_le _) fun r1 h2 =>
    aw_iret (pc := 5) C dK_a_27.2.2.2.1 rfl rfl

abbrev rmX10_outsideTwo : Room := { frames := 1, cells := 0, slots := 0, locals := 21 }
def X10_outsideTwo_j12  (h : AH) : Option (Int32 × AH) :=
    some ((-4), h)
set_option maxRecDepth 100000 in
theorem aX10_outsideTwo_j12 {X : MCx} {yd : Dyn} {A : Nat → Prop} (C : OK X cX10_outsideTwo RX10 2 (some .int) rmX10_outsideTwo A)  (h : AH) : AW X 2 ZC yd A 0 0 (QF X rmX10_outsideTwo ZC yd rvI A) 12 [] [] h (X10_outsideTwo_j12 h) := by
    exact aw_bipush (pc := 12) C (v := (-4)) dK_a_28.2.2.2.2.2.2.1 rfl <|
    aw_goto (pc := 14) C (tgt := 22) dK_a_28.2.2.2.2.2.2.2.1 rfl <|
    aw_iret (pc := 22) C dK_a_29.2.2.2.1 rfl rfl
def X10_outsideTwo (v0 : Int32) (v1 : Int32) (h : AH) : Option (Int32 × AH) :=
    if v0 = (-4) then (X10_outsideTwo_j12 h)
    else (if v1 = (-4) then (X10_outsideTwo_j12 h)
    else (bd (X10_first v0 v1 h) fun r1 h2 =>
    some (r1, h2)))
set_option maxRecDepth 100000 in
theorem c_X10_outsideTwo (l : Launch) (v0 : Int32) (v1 : Int32) : MC l yX10_outsideTwo cX10_outsideTwo 2 (some .int) rmX10_outsideTwo ZC [.int v0, .int v1] rvI (X10_outsideTwo v0 v1) :=
  MC.of (own := RX10) pn_RX10 rfl (Nat.le_of_ble_eq_true rfl) fun X yd A h _ C =>
    aw_iload_n (pc := 0) C (i := 0) dK_a_28.1 rfl rfl <|
    aw_bipush (pc := 1) C (v := (-4)) dK_a_28.2.1 rfl <|
    aw_icmp_eq (pc := 3) C (tgt := 12) dK_a_28.2.2.1 rfl (fun _ =>
    aw_drop [] (aX10_outsideTwo_j12 C h)) (fun _ =>
    aw_iload_n (pc := 6) C (i := 1) dK_a_28.2.2.2.1 rfl rfl <|
    aw_bipush (pc := 7) C (v := (-4)) dK_a_28.2.2.2.2.1 rfl <|
    aw_icmp_ne (pc := 9) C (tgt := 17) dK_a_28.2.2.2.2.2.1 rfl (fun _ =>
    aw_drop [] (aX10_outsideTwo_j12 C h)) (fun _ =>
    aw_iload_n (pc := 17) C (i := 0) dK_a_29.1 rfl rfl <|
    aw_iload_n (pc := 18) C (i := 1) dK_a_29.2.1 rfl rfl <|
    aw_callF (pc := 19) C (cr_S (rest := []) (F := (X10_first v0 v1)) C (c_X10_first X.2.1 v0 v1) dK_a_29.2.2.1 mf_X10_first ml_X10_97 st_X10_first ⟨(Nat.le_of_ble_eq_true rfl), (Nat.le_of_ble_eq_true rfl)⟩ rfl rfl (Nat.le_of_ble_eq_true rfl)) rfl rfl rfl (Nat.zero_le _) (Nat.zero_le _) fun r1 h2 =>
    aw_iret (pc := 22) C dK_a_29.2.2.2.1 rfl rfl))

abbrev rmX10_feed : Room := { frames := 1, cells := 0, slots := 0, locals := 22 }
def X10_feed (v1 : Int32) (h : AH) : Option (Int32 × AH) :=
    bd (X10_outside v1 0 255 h) fun r1 h2 =>
    bd (X10_outside (h2.1 0 6) 0 95 h2) fun r3 h4 =>
    bd (X10_first r1 r3 h4) fun r5 h6 =>
    if r5 = 0 then (ck (h6.1 0 6) 96 (vl (sI h6 2 (h6.1 0 6).toNatClampNeg v1) fun h7 =>
    vl (sI h7 0 6 ((h7.1 0 6) + 1)) fun h8 =>
    some ((h8.1 0 6), h8)))
    else (bd (X10_refuse r5 h6) fun r9 h10 =>
    some (r9, h10))
set_option maxRecDepth 100000 in
theorem c_X10_feed (l : Launch) (v1 : Int32) : MC l yX10_feed cX10_feed 3 (some .int) rmX10_feed ZC [.ref 0, .int v1] rvI (X10_feed v1) :=
  MC.of (own := RX10) pn_RX10 rfl (Nat.le_of_ble_eq_true rfl) fun X yd A h _ C =>
    aw_iload_n (pc := 0) C (i := 1) dK_a_30.1 rfl rfl <|
    aw_iconst (pc := 1) C (v := 0) dK_a_30.2.1 rfl <|
    aw_sipush (pc := 2) C (v := 255) dK_a_30.2.2.1 rfl <|
    aw_callF (pc := 5) C (cr_S (rest := []) (F := (X10_outside v1 0 255)) C (c_X10_outside X.2.1 v1 0 255) dK_a_30.2.2.2.1 mf_X10_outside ml_X10_104 st_X10_outside ⟨(Nat.le_of_ble_eq_true rfl), (Nat.le_of_ble_eq_true rfl)⟩ rfl rfl (Nat.le_of_ble_eq_true rfl)) rfl rfl rfl (Nat.zero_le _) (Nat.zero_le _) fun r1 h2 =>
    aw_aload_n (pc := 8) C (i := 0) dK_a_30.2.2.2.2.1 rfl rfl <|
    aw_getI (pc := 9) C dK_a_30.2.2.2.2.2.1 fl_X10_108 sC_0 rfl <|
    aw_iconst (pc := 12) C (v := 0) dK_a_30.2.2.2.2.2.2.1 rfl <|
    aw_bipush (pc := 13) C (v := 95) dK_a_30.2.2.2.2.2.2.2.1 rfl <|
    aw_callF (pc := 15) C (cr_S (rest := [.int r1]) (F := (X10_outside (h2.1 0 6) 0 95)) C (c_X10_outside X.2.1 (h2.1 0 6) 0 95) dK_a_31.1 mf_X10_outside ml_X10_104 st_X10_outside ⟨(Nat.le_of_ble_eq_true rfl), (Nat.le_of_ble_eq_true rfl)⟩ rfl rfl (Nat.le_of_ble_eq_true rfl)) rfl rfl rfl (Nat.zero_le _) (Nat.zero_le _) fun r3 h4 =>
    aw_callF (pc := 18) C (cr_S (rest := []) (F := (X10_first r1 r3)) C (c_X10_first X.2.1 r1 r3) dK_a_31.2.1 mf_X10_first ml_X10_97 st_X10_first ⟨(Nat.le_of_ble_eq_true rfl), (Nat.le_of_ble_eq_true rfl)⟩ rfl rfl (Nat.le_of_ble_eq_true rfl)) rfl rfl rfl (Nat.zero_le _) (Nat.zero_le _) fun r5 h6 =>
    aw_istore_n (pc := 21) C (i := 2) (lv' := [(0, .ref 0), (1, .int v1), (2, .int r5)]) dK_a_31.2.2.1 rfl (by decide) rfl <|
    aw_iload_n (pc := 22) C (i := 2) dK_a_31.2.2.2.1 rfl rfl <|
    aw_if_eq (pc := 23) C (tgt := 32) dK_a_31.2.2.2.2.1 rfl (fun _ =>
    aw_aload_n (pc := 32) C (i := 0) dK_a_32.2.1 rfl rfl <|
    aw_getR (pc := 33) C (b := 2) dK_a_32.2.2.1 fl_X10_15 sC_0 rfl rC_0_5 <|
    aw_aload_n (pc := 36) C (i := 0) dK_a_32.2.2.2.1 rfl rfl <|
    aw_getI (pc := 37) C dK_a_32.2.2.2.2.1 fl_X10_108 sC_0 rfl <|
    aw_iload_n (pc := 40) C (i := 1) dK_a_32.2.2.2.2.2.1 rfl rfl <|
    aw_iast (pc := 41) C dK_a_32.2.2.2.2.2.2.1 sC_2 rfl fun h7 =>
    aw_aload_n (pc := 42) C (i := 0) dK_a_32.2.2.2.2.2.2.2.1 rfl rfl <|
    aw_dup (pc := 43) C dK_a_33.1 rfl <|
    aw_getI (pc := 44) C dK_a_33.2.1 fl_X10_108 sC_0 rfl <|
    aw_iconst (pc := 47) C (v := 1) dK_a_33.2.2.1 rfl <|
    aw_iadd (pc := 48) C dK_a_33.2.2.2.1 <|
    aw_putI (pc := 49) C dK_a_33.2.2.2.2.1 fp_X10_108 sC_0 rfl fun h8 =>
    aw_aload_n (pc := 52) C (i := 0) dK_a_33.2.2.2.2.2.1 rfl rfl <|
    aw_getI (pc := 53) C dK_a_33.2.2.2.2.2.2.1 fl_X10_108 sC_0 rfl <|
    aw_iret (pc := 56) C dK_a_33.2.2.2.2.2.2.2.1 rfl rfl) (fun _ =>
    aw_aload_n (pc := 26) C (i := 0) dK_a_31.2.2.2.2.2.1 rfl rfl <|
    aw_iload_n (pc := 27) C (i := 2) dK_a_31.2.2.2.2.2.2.1 rfl rfl <|
    aw_callF (pc := 28) C (cr_V (rest := []) (F := (X10_refuse r5)) C (c_X10_refuse X.2.1 r5) dK_a_31.2.2.2.2.2.2.2.1 mf_X10_refuse ml_X10_111 im_X10_refuse se_X10_refuse sC_0 rfl ⟨(Nat.le_of_ble_eq_true rfl), (Nat.le_of_ble_eq_true rfl)⟩ rfl rfl (Nat.le_of_ble_eq_true rfl)) rfl rfl rfl (Nat.zero_le _) (Nat.zero_le _) fun r9 h10 =>
    aw_iret (pc := 31) C dK_a_32.1 rfl rfl)

abbrev rmX10_digitsBehind : Room := { frames := 0, cells := 0, slots := 0, locals := 0 }
def X10_digitsBehind (v0 : Int32) (h : AH) : Option (Int32 × AH) :=
    vl v0 fun y1 =>
    if y1 = 102 then (some (0, h))
    else if y1 = 103 then (some (1, h))
    else if y1 = 106 then (some (13, h))
    else if y1 = 110 then (some (2, h))
    else if y1 = 112 then (some (0, h))
    else if y1 = 116 then (some (2, h))
    else if y1 = 119 then (some (1, h))
    else (some ((-1), h))
set_option maxRecDepth 100000 in
theorem c_X10_digitsBehind (l : Launch) (v0 : Int32) : MC l yX10_digitsBehind cX10_digitsBehind 1 (some .int) rmX10_digitsBehind ZC [.int v0] rvI (X10_digitsBehind v0) :=
  MC.of (own := RX10) pn_RX10 rfl (Nat.le_of_ble_eq_true rfl) fun X yd A h _ C =>
    aw_iload_n (pc := 0) C (i := 0) dK_a_38.1 rfl rfl <|
    aw_vlI fun y1 =>
    aw_if (fun c2 => aw_tswA (pc := 1) C (off := 94) (tg := 95) 102 dK_a_38.2.1 (by rw [c2]; rfl) (by decide) (by decide) rfl rfl (aw_iconst (pc := 95) C (v := 0) dK_a_39.1 rfl <|
    aw_iret (pc := 96) C dK_a_39.2.1 rfl rfl)) (fun c2 =>
    aw_if (fun c3 => aw_tswA (pc := 1) C (off := 89) (tg := 90) 103 dK_a_38.2.1 (by rw [c3]; rfl) (by decide) (by decide) rfl rfl (aw_iconst (pc := 90) C (v := 1) dK_a_38.2.2.2.2.1 rfl <|
    aw_iret (pc := 91) C dK_a_38.2.2.2.2.2.1 rfl rfl)) (fun c3 =>
    aw_if (fun c4 => aw_tswA (pc := 1) C (off := 91) (tg := 92) 106 dK_a_38.2.1 (by rw [c4]; rfl) (by decide) (by decide) rfl rfl (aw_bipush (pc := 92) C (v := 13) dK_a_38.2.2.2.2.2.2.1 rfl <|
    aw_iret (pc := 94) C dK_a_38.2.2.2.2.2.2.2.1 rfl rfl)) (fun c4 =>
    aw_if (fun c5 => aw_tswA (pc := 1) C (off := 87) (tg := 88) 110 dK_a_38.2.1 (by rw [c5]; rfl) (by decide) (by decide) rfl rfl (aw_iconst (pc := 88) C (v := 2) dK_a_38.2.2.1 rfl <|
    aw_iret (pc := 89) C dK_a_38.2.2.2.1 rfl rfl)) (fun c5 =>
    aw_if (fun c6 => aw_tswA (pc := 1) C (off := 94) (tg := 95) 112 dK_a_38.2.1 (by rw [c6]; rfl) (by decide) (by decide) rfl rfl (aw_iconst (pc := 95) C (v := 0) dK_a_39.1 rfl <|
    aw_iret (pc := 96) C dK_a_39.2.1 rfl rfl)) (fun c6 =>
    aw_if (fun c7 => aw_tswA (pc := 1) C (off := 87) (tg := 88) 116 dK_a_38.2.1 (by rw [c7]; rfl) (by decide) (by decide) rfl rfl (aw_iconst (pc := 88) C (v := 2) dK_a_38.2.2.1 rfl <|
    aw_iret (pc := 89) C dK_a_38.2.2.2.1 rfl rfl)) (fun c7 =>
    aw_if (fun c8 => aw_tswA (pc := 1) C (off := 89) (tg := 90) 119 dK_a_38.2.1 (by rw [c8]; rfl) (by decide) (by decide) rfl rfl (aw_iconst (pc := 90) C (v := 1) dK_a_38.2.2.2.2.1 rfl <|
    aw_iret (pc := 91) C dK_a_38.2.2.2.2.2.1 rfl rfl)) (fun c8 =>
    aw_tswD (pc := 1) C (N := 18) (td := 97) [102, 103, 106, 110, 112, 116, 119] dK_a_38.2.1 (List.forall_mem_cons.mpr ⟨ti_ne c2 rfl, List.forall_mem_cons.mpr ⟨ti_ne c3 rfl, List.forall_mem_cons.mpr ⟨ti_ne c4 rfl, List.forall_mem_cons.mpr ⟨ti_ne c5 rfl, List.forall_mem_cons.mpr ⟨ti_ne c6 rfl, List.forall_mem_cons.mpr ⟨ti_ne c7 rfl, List.forall_mem_cons.mpr ⟨ti_ne c8 rfl, fun _ hz => by cases hz⟩⟩⟩⟩⟩⟩⟩) rfl (by decide) rfl (aw_iconst (pc := 97) C (v := (-1)) dK_a_39.2.2.1 rfl <|
    aw_iret (pc := 98) C dK_a_39.2.2.2.1 rfl rfl))))))))

abbrev rmX10_firstBadLetter : Room := { frames := 1, cells := 0, slots := 0, locals := 20 }
def X10_firstBadLetter_j144  (h : AH) : Option (Int32 × AH) :=
    some ((h.1 0 6), h)
set_option maxRecDepth 100000 in
theorem aX10_firstBadLetter_j144 {X : MCx} {yd : Dyn} {A : Nat → Prop} (C : OK X cX10_firstBadLetter RX10 6 (some .int) rmX10_firstBadLetter A)  (h : AH) : AW X 6 ZC yd A 0 0 (QF X rmX10_firstBadLetter ZC yd rvI A) 144 [(0, .ref 0)] [] h (X10_firstBadLetter_j144 h) := by
    exact aw_aload_n (pc := 144) C (i := 0) dK_a_49.2.2.2.1 rfl rfl <|
    aw_getI (pc := 145) C dK_a_49.2.2.2.2.1 fl_X10_108 sC_0 rfl <|
    aw_goto (pc := 148) C (tgt := 152) dK_a_49.2.2.2.2.2.1 rfl <|
    aw_iret (pc := 152) C dK_a_49.2.2.2.2.2.2.2.1 rfl rfl
def X10_firstBadLetter_j127  (v1 : Int32) (v2 : Int32) (v3 : Int32) (v4 : Int32) (K9 : Int32 → Int32 → Int32 → Int32 → AH → Option (Int32 × AH)) (h : AH) : Option (Int32 × AH) :=
    vl (v4 + 1) fun x2 =>
    K9 v1 v2 v3 x2 h
set_option maxRecDepth 100000 in
theorem aX10_firstBadLetter_j127 {X : MCx} {yd : Dyn} {A : Nat → Prop} (C : OK X cX10_firstBadLetter RX10 6 (some .int) rmX10_firstBadLetter A)  (v1 : Int32) (v2 : Int32) (v3 : Int32) (v4 : Int32) (K9 : Int32 → Int32 → Int32 → Int32 → AH → Option (Int32 × AH)) (hK9 : ∀ (w1 : Int32) (w2 : Int32) (w3 : Int32) (w4 : Int32) (h : AH), AW X 6 ZC yd A 0 0 (QF X rmX10_firstBadLetter ZC yd rvI A) 9 [(0, .ref 0), (1, .int w1), (2, .int w2), (3, .int w3), (4, .int w4)] [] h (K9 w1 w2 w3 w4 h)) (h : AH) : AW X 6 ZC yd A 0 0 (QF X rmX10_firstBadLetter ZC yd rvI A) 127 [(0, .ref 0), (1, .int v1), (2, .int v2), (3, .int v3), (4, .int v4)] [] h (X10_firstBadLetter_j127 v1 v2 v3 v4 K9 h) := by
    exact aw_iincV (pc := 127) C (i := 4) (cst := 1) (fun x2 => [(0, .ref 0), (1, .int v1), (2, .int v2), (3, .int v3), (4, .int x2)]) dK_a_48.2.2.2.2.1 rfl rfl (by decide) (fun _ => rfl) fun x2 =>
    aw_goto (pc := 130) C (tgt := 9) dK_a_48.2.2.2.2.2.1 rfl <|
    (hK9 v1 v2 v3 x2 h)
def X10_firstBadLetter_j83  (v1 : Int32) (v3 : Int32) (v4 : Int32) (K9 : Int32 → Int32 → Int32 → Int32 → AH → Option (Int32 × AH)) (h : AH) : Option (Int32 × AH) :=
    X10_firstBadLetter_j127 v1 0 v3 v4 K9 h
set_option maxRecDepth 100000 in
theorem aX10_firstBadLetter_j83 {X : MCx} {yd : Dyn} {A : Nat → Prop} (C : OK X cX10_firstBadLetter RX10 6 (some .int) rmX10_firstBadLetter A)  (v1 : Int32) (v3 : Int32) (v4 : Int32) (K9 : Int32 → Int32 → Int32 → Int32 → AH → Option (Int32 × AH)) (hK9 : ∀ (w1 : Int32) (w2 : Int32) (w3 : Int32) (w4 : Int32) (h : AH), AW X 6 ZC yd A 0 0 (QF X rmX10_firstBadLetter ZC yd rvI A) 9 [(0, .ref 0), (1, .int w1), (2, .int w2), (3, .int w3), (4, .int w4)] [] h (K9 w1 w2 w3 w4 h)) (h : AH) : AW X 6 ZC yd A 0 0 (QF X rmX10_firstBadLetter ZC yd rvI A) 83 [(0, .ref 0), (1, .int v1), (3, .int v3), (4, .int v4)] [] h (X10_firstBadLetter_j83 v1 v3 v4 K9 h) := by
    exact aw_iconst (pc := 83) C (v := 0) dK_a_45.2.2.2.2.2.2.1 rfl <|
    aw_istore_n (pc := 84) C (i := 2) (lv' := [(0, .ref 0), (1, .int v1), (2, .int 0), (3, .int v3), (4, .int v4)]) dK_a_45.2.2.2.2.2.2.2.1 rfl (by decide) rfl <|
    aw_goto (pc := 85) C (tgt := 127) dK_a_46.1 rfl <|
    (aX10_firstBadLetter_j127 C v1 0 v3 v4 K9 hK9 h)
def X10_firstBadLetter_j56  (v3 : Int32) (v4 : Int32) (K9 : Int32 → Int32 → Int32 → Int32 → AH → Option (Int32 × AH)) (s0 : Int32) (h : AH) : Option (Int32 × AH) :=
    X10_firstBadLetter_j127 1 s0 v3 v4 K9 h
set_option maxRecDepth 100000 in
theorem aX10_firstBadLetter_j56 {X : MCx} {yd : Dyn} {A : Nat → Prop} (C : OK X cX10_firstBadLetter RX10 6 (some .int) rmX10_firstBadLetter A)  (v3 : Int32) (v4 : Int32) (K9 : Int32 → Int32 → Int32 → Int32 → AH → Option (Int32 × AH)) (hK9 : ∀ (w1 : Int32) (w2 : Int32) (w3 : Int32) (w4 : Int32) (h : AH), AW X 6 ZC yd A 0 0 (QF X rmX10_firstBadLetter ZC yd rvI A) 9 [(0, .ref 0), (1, .int w1), (2, .int w2), (3, .int w3), (4, .int w4)] [] h (K9 w1 w2 w3 w4 h)) (s0 : Int32) (h : AH) : AW X 6 ZC yd A 0 0 (QF X rmX10_firstBadLetter ZC yd rvI A) 56 [(0, .ref 0), (3, .int v3), (4, .int v4)] [.int s0] h (X10_firstBadLetter_j56 v3 v4 K9 s0 h) := by
    exact aw_istore_n (pc := 56) C (i := 2) (lv' := [(0, .ref 0), (2, .int s0), (3, .int v3), (4, .int v4)]) dK_a_44.1 rfl (by decide) rfl <|
    aw_iconst (pc := 57) C (v := 1) dK_a_44.2.1 rfl <|
    aw_istore_n (pc := 58) C (i := 1) (lv' := [(0, .ref 0), (1, .int 1), (2, .int s0), (3, .int v3), (4, .int v4)]) dK_a_44.2.2.1 rfl (by decide) rfl <|
    aw_goto (pc := 59) C (tgt := 127) dK_a_44.2.2.2.1 rfl <|
    (aX10_firstBadLetter_j127 C 1 s0 v3 v4 K9 hK9 h)
def X10_firstBadLetter_l9  : Nat → Int32 → Int32 → Int32 → Int32 → AH → Option (Int32 × AH)
  | 0, _, _, _, _, _ => none
  | n + 1, v1, v2, v3, v4, h =>
    if (h.1 0 6) ≤ v4 then (if v1 = 0 then (if (h.1 0 6) = 0 then (X10_firstBadLetter_j144 h)
    else (some ((-1), h)))
    else (X10_firstBadLetter_j144 h))
    else (ck v4 96 (vl (h.1 2 v4.toNatClampNeg) fun x1 =>
    if v1 = 0 then (bd (X10_digitsBehind x1 h) fun r4 h5 =>
    if 0 ≤ r4 then (if x1 = 119 then (X10_firstBadLetter_j56 r4 v4 (X10_firstBadLetter_l9 n) 1 h5)
    else (X10_firstBadLetter_j56 r4 v4 (X10_firstBadLetter_l9 n) 0 h5))
    else (some (v4, h5)))
    else (if v2 = 0 then (if v3 ≤ 0 then (if x1 = 59 then (X10_firstBadLetter_j127 0 v2 v3 v4 (X10_firstBadLetter_l9 n) h)
    else (some (v4, h)))
    else (if x1 < 48 then (some (v4, h))
    else (if x1 ≤ 57 then (vl (v3 + (-1)) fun x3 =>
    X10_firstBadLetter_j127 v1 v2 x3 v4 (X10_firstBadLetter_l9 n) h)
    else (some (v4, h)))))
    else (if x1 = 43 then (X10_firstBadLetter_j83 v1 v3 v4 (X10_firstBadLetter_l9 n) h)
    else (if x1 = 45 then (X10_firstBadLetter_j83 v1 v3 v4 (X10_firstBadLetter_l9 n) h)
    else (some (v4, h)))))))
set_option maxRecDepth 100000 in
theorem aX10_firstBadLetter_l9 {X : MCx} {yd : Dyn} {A : Nat → Prop} (C : OK X cX10_firstBadLetter RX10 6 (some .int) rmX10_firstBadLetter A)  : ∀ (n : Nat) (v1 : Int32) (v2 : Int32) (v3 : Int32) (v4 : Int32) (h : AH), AW X 6 ZC yd A 0 0 (QF X rmX10_firstBadLetter ZC yd rvI A) 9 [(0, .ref 0), (1, .int v1), (2, .int v2), (3, .int v3), (4, .int v4)] [] h (X10_firstBadLetter_l9 n v1 v2 v3 v4 h) := by
  intro n
  induction n with
  | zero => intro v1 v2 v3 v4 h; exact aw_none
  | succ n ih =>
    intro v1 v2 v3 v4 h
    exact aw_iload (pc := 9) C (i := 4) dK_a_41.1 rfl <|
    aw_aload_n (pc := 11) C (i := 0) dK_a_41.2.1 rfl rfl <|
    aw_getI (pc := 12) C dK_a_41.2.2.1 fl_X10_108 sC_0 rfl <|
    aw_icmp_ge (pc := 15) C (tgt := 133) dK_a_41.2.2.2.1 rfl (fun _ =>
    aw_iload_n (pc := 133) C (i := 1) dK_a_48.2.2.2.2.2.2.1 rfl rfl <|
    aw_if_ne (pc := 134) C (tgt := 144) dK_a_48.2.2.2.2.2.2.2.1 rfl (fun _ =>
    aw_aload_n (pc := 137) C (i := 0) dK_a_49.1 rfl rfl <|
    aw_getI (pc := 138) C dK_a_49.2.1 fl_X10_108 sC_0 rfl <|
    aw_if_ne (pc := 141) C (tgt := 151) dK_a_49.2.2.1 rfl (fun _ =>
    aw_drop [0] (aX10_firstBadLetter_j144 C h)) (fun _ =>
    aw_iconst (pc := 151) C (v := (-1)) dK_a_49.2.2.2.2.2.2.1 rfl <|
    aw_iret (pc := 152) C dK_a_49.2.2.2.2.2.2.2.1 rfl rfl)) (fun _ =>
    aw_drop [0] (aX10_firstBadLetter_j144 C h))) (fun _ =>
    aw_aload_n (pc := 18) C (i := 0) dK_a_41.2.2.2.2.1 rfl rfl <|
    aw_getR (pc := 19) C (b := 2) dK_a_41.2.2.2.2.2.1 fl_X10_15 sC_0 rfl rC_0_5 <|
    aw_iload (pc := 22) C (i := 4) dK_a_41.2.2.2.2.2.2.1 rfl <|
    aw_iald (pc := 24) C dK_a_41.2.2.2.2.2.2.2.1 sC_2 rfl <|
    aw_istoreV (pc := 25) C (i := 5) (fun x1 => [(0, .ref 0), (1, .int v1), (2, .int v2), (3, .int v3), (4, .int v4), (5, .int x1)]) dK_a_42.1 (by decide) (fun _ => rfl) fun x1 =>
    aw_iload_n (pc := 27) C (i := 1) dK_a_42.2.1 rfl rfl <|
    aw_if_ne (pc := 28) C (tgt := 62) dK_a_42.2.2.1 rfl (fun _ =>
    aw_iload (pc := 31) C (i := 5) dK_a_42.2.2.2.1 rfl <|
    aw_callF (pc := 33) C (cr_S (rest := []) (F := (X10_digitsBehind x1)) C (c_X10_digitsBehind X.2.1 x1) dK_a_42.2.2.2.2.1 mf_X10_digitsBehind ml_X10_125 st_X10_digitsBehind ⟨(Nat.le_of_ble_eq_true rfl), (Nat.le_of_ble_eq_true rfl)⟩ rfl rfl (Nat.le_of_ble_eq_true rfl)) rfl rfl rfl (Nat.zero_le _) (Nat.zero_le _) fun r4 h5 =>
    aw_istore_n (pc := 36) C (i := 3) (lv' := [(0, .ref 0), (1, .int v1), (2, .int v2), (3, .int r4), (4, .int v4), (5, .int x1)]) dK_a_42.2.2.2.2.2.1 rfl (by decide) rfl <|
    aw_iload_n (pc := 37) C (i := 3) dK_a_42.2.2.2.2.2.2.1 rfl rfl <|
    aw_if_ge (pc := 38) C (tgt := 44) dK_a_42.2.2.2.2.2.2.2.1 rfl (fun _ =>
    aw_iload (pc := 44) C (i := 5) dK_a_43.2.2.1 rfl <|
    aw_bipush (pc := 46) C (v := 119) dK_a_43.2.2.2.1 rfl <|
    aw_icmp_ne (pc := 48) C (tgt := 55) dK_a_43.2.2.2.2.1 rfl (fun _ =>
    aw_iconst (pc := 51) C (v := 1) dK_a_43.2.2.2.2.2.1 rfl <|
    aw_goto (pc := 52) C (tgt := 56) dK_a_43.2.2.2.2.2.2.1 rfl <|
    aw_drop [0, 3, 4] (aX10_firstBadLetter_j56 C r4 v4 (X10_firstBadLetter_l9 n) ih 1 h5)) (fun _ =>
    aw_iconst (pc := 55) C (v := 0) dK_a_43.2.2.2.2.2.2.2.1 rfl <|
    aw_drop [0, 3, 4] (aX10_firstBadLetter_j56 C r4 v4 (X10_firstBadLetter_l9 n) ih 0 h5))) (fun _ =>
    aw_iload (pc := 41) C (i := 4) dK_a_43.1 rfl <|
    aw_iret (pc := 43) C dK_a_43.2.1 rfl rfl)) (fun _ =>
    aw_iload_n (pc := 62) C (i := 2) dK_a_44.2.2.2.2.1 rfl rfl <|
    aw_if_eq (pc := 63) C (tgt := 88) dK_a_44.2.2.2.2.2.1 rfl (fun _ =>
    aw_iload_n (pc := 88) C (i := 3) dK_a_46.2.1 rfl rfl <|
    aw_if_le (pc := 89) C (tgt := 115) dK_a_46.2.2.1 rfl (fun _ =>
    aw_iload (pc := 115) C (i := 5) dK_a_47.2.2.2.2.2.1 rfl <|
    aw_bipush (pc := 117) C (v := 59) dK_a_47.2.2.2.2.2.2.1 rfl <|
    aw_icmp_eq (pc := 119) C (tgt := 125) dK_a_47.2.2.2.2.2.2.2.1 rfl (fun _ =>
    aw_iconst (pc := 125) C (v := 0) dK_a_48.2.2.1 rfl <|
    aw_istore_n (pc := 126) C (i := 1) (lv' := [(0, .ref 0), (1, .int 0), (2, .int v2), (3, .int v3), (4, .int v4), (5, .int x1)]) dK_a_48.2.2.2.1 rfl (by decide) rfl <|
    aw_drop [0, 1, 2, 3, 4] (aX10_firstBadLetter_j127 C 0 v2 v3 v4 (X10_firstBadLetter_l9 n) ih h)) (fun _ =>
    aw_iload (pc := 122) C (i := 4) dK_a_48.1 rfl <|
    aw_iret (pc := 124) C dK_a_48.2.1 rfl rfl)) (fun _ =>
    aw_iload (pc := 92) C (i := 5) dK_a_46.2.2.2.1 rfl <|
    aw_bipush (pc := 94) C (v := 48) dK_a_46.2.2.2.2.1 rfl <|
    aw_icmp_lt (pc := 96) C (tgt := 106) dK_a_46.2.2.2.2.2.1 rfl (fun _ =>
    aw_iload (pc := 106) C (i := 4) dK_a_47.2.1 rfl <|
    aw_iret (pc := 108) C dK_a_47.2.2.1 rfl rfl) (fun _ =>
    aw_iload (pc := 99) C (i := 5) dK_a_46.2.2.2.2.2.2.1 rfl <|
    aw_bipush (pc := 101) C (v := 57) dK_a_46.2.2.2.2.2.2.2.1 rfl <|
    aw_icmp_le (pc := 103) C (tgt := 109) dK_a_47.1 rfl (fun _ =>
    aw_iincV (pc := 109) C (i := 3) (cst := (-1)) (fun x3 => [(0, .ref 0), (1, .int v1), (2, .int v2), (3, .int x3), (4, .int v4), (5, .int x1)]) dK_a_47.2.2.2.1 rfl rfl (by decide) (fun _ => rfl) fun x3 =>
    aw_goto (pc := 112) C (tgt := 127) dK_a_47.2.2.2.2.1 rfl <|
    aw_drop [0, 1, 2, 3, 4] (aX10_firstBadLetter_j127 C v1 v2 x3 v4 (X10_firstBadLetter_l9 n) ih h)) (fun _ =>
    aw_iload (pc := 106) C (i := 4) dK_a_47.2.1 rfl <|
    aw_iret (pc := 108) C dK_a_47.2.2.1 rfl rfl)))) (fun _ =>
    aw_iload (pc := 66) C (i := 5) dK_a_44.2.2.2.2.2.2.1 rfl <|
    aw_bipush (pc := 68) C (v := 43) dK_a_44.2.2.2.2.2.2.2.1 rfl <|
    aw_icmp_eq (pc := 70) C (tgt := 83) dK_a_45.1 rfl (fun _ =>
    aw_drop [0, 1, 3, 4] (aX10_firstBadLetter_j83 C v1 v3 v4 (X10_firstBadLetter_l9 n) ih h)) (fun _ =>
    aw_iload (pc := 73) C (i := 5) dK_a_45.2.1 rfl <|
    aw_bipush (pc := 75) C (v := 45) dK_a_45.2.2.1 rfl <|
    aw_icmp_eq (pc := 77) C (tgt := 83) dK_a_45.2.2.2.1 rfl (fun _ =>
    aw_drop [0, 1, 3, 4] (aX10_firstBadLetter_j83 C v1 v3 v4 (X10_firstBadLetter_l9 n) ih h)) (fun _ =>
    aw_iload (pc := 80) C (i := 4) dK_a_45.2.2.2.2.1 rfl <|
    aw_iret (pc := 82) C dK_a_45.2.2.2.2.2.1 rfl rfl)))))
def X10_firstBadLetter  (h : AH) : Option (Int32 × AH) :=
    X10_firstBadLetter_l9 FU 0 0 0 0 h
set_option maxRecDepth 100000 in
theorem c_X10_firstBadLetter (l : Launch)  : MC l yX10_firstBadLetter cX10_firstBadLetter 6 (some .int) rmX10_firstBadLetter ZC [.ref 0] rvI (X10_firstBadLetter) :=
  MC.of (own := RX10) pn_RX10 rfl (Nat.le_of_ble_eq_true rfl) fun X yd A h _ C =>
    aw_iconst (pc := 0) C (v := 0) dK_a_40.1 rfl <|
    aw_istore_n (pc := 1) C (i := 1) (lv' := [(0, .ref 0), (1, .int 0)]) dK_a_40.2.1 rfl (by decide) rfl <|
    aw_iconst (pc := 2) C (v := 0) dK_a_40.2.2.1 rfl <|
    aw_istore_n (pc := 3) C (i := 2) (lv' := [(0, .ref 0), (1, .int 0), (2, .int 0)]) dK_a_40.2.2.2.1 rfl (by decide) rfl <|
    aw_iconst (pc := 4) C (v := 0) dK_a_40.2.2.2.2.1 rfl <|
    aw_istore_n (pc := 5) C (i := 3) (lv' := [(0, .ref 0), (1, .int 0), (2, .int 0), (3, .int 0)]) dK_a_40.2.2.2.2.2.1 rfl (by decide) rfl <|
    aw_iconst (pc := 6) C (v := 0) dK_a_40.2.2.2.2.2.2.1 rfl <|
    aw_istore (pc := 7) C (i := 4) (lv' := [(0, .ref 0), (1, .int 0), (2, .int 0), (3, .int 0), (4, .int 0)]) dK_a_40.2.2.2.2.2.2.2.1 (by decide) rfl <|
    (aX10_firstBadLetter_l9 C FU 0 0 0 0 h)

abbrev rmX10_number : Room := { frames := 0, cells := 0, slots := 0, locals := 0 }
def X10_number_l5  (v1 : Int32) (v2 : Int32) : Nat → Int32 → Int32 → AH → Option (Int32 × AH)
  | 0, _, _, _ => none
  | n + 1, v3, v4, h =>
    if (v1 + v2) ≤ v4 then (some (v3, h))
    else (if (h.1 0 6) ≤ v4 then (some (v3, h))
    else (ck v4 96 (vl (((10 * v3) + (h.1 2 v4.toNatClampNeg)) - 48) fun x1 =>
    vl (v4 + 1) fun x2 =>
    (X10_number_l5 v1 v2 n) x1 x2 h)))
set_option maxRecDepth 100000 in
theorem aX10_number_l5 {X : MCx} {yd : Dyn} {A : Nat → Prop} (C : OK X cX10_number RX10 5 (some .int) rmX10_number A)  (v1 : Int32) (v2 : Int32) : ∀ (n : Nat) (v3 : Int32) (v4 : Int32) (h : AH), AW X 5 ZC yd A 0 0 (QF X rmX10_number ZC yd rvI A) 5 [(0, .ref 0), (1, .int v1), (2, .int v2), (3, .int v3), (4, .int v4)] [] h (X10_number_l5 v1 v2 n v3 v4 h) := by
  intro n
  induction n with
  | zero => intro v3 v4 h; exact aw_none
  | succ n ih =>
    intro v3 v4 h
    exact aw_iload (pc := 5) C (i := 4) dK_a_67.2.2.2.2.1 rfl <|
    aw_iload_n (pc := 7) C (i := 1) dK_a_67.2.2.2.2.2.1 rfl rfl <|
    aw_iload_n (pc := 8) C (i := 2) dK_a_67.2.2.2.2.2.2.1 rfl rfl <|
    aw_iadd (pc := 9) C dK_a_67.2.2.2.2.2.2.2.1 <|
    aw_icmp_ge (pc := 10) C (tgt := 44) dK_a_68.1 rfl (fun _ =>
    aw_iload_n (pc := 44) C (i := 3) dK_a_70.2.2.1 rfl rfl <|
    aw_iret (pc := 45) C dK_a_70.2.2.2.1 rfl rfl) (fun _ =>
    aw_iload (pc := 13) C (i := 4) dK_a_68.2.1 rfl <|
    aw_aload_n (pc := 15) C (i := 0) dK_a_68.2.2.1 rfl rfl <|
    aw_getI (pc := 16) C dK_a_68.2.2.2.1 fl_X10_108 sC_0 rfl <|
    aw_icmp_ge (pc := 19) C (tgt := 44) dK_a_68.2.2.2.2.1 rfl (fun _ =>
    aw_iload_n (pc := 44) C (i := 3) dK_a_70.2.2.1 rfl rfl <|
    aw_iret (pc := 45) C dK_a_70.2.2.2.1 rfl rfl) (fun _ =>
    aw_bipush (pc := 22) C (v := 10) dK_a_68.2.2.2.2.2.1 rfl <|
    aw_iload_n (pc := 24) C (i := 3) dK_a_68.2.2.2.2.2.2.1 rfl rfl <|
    aw_imul (pc := 25) C dK_a_68.2.2.2.2.2.2.2.1 <|
    aw_aload_n (pc := 26) C (i := 0) dK_a_69.1 rfl rfl <|
    aw_getR (pc := 27) C (b := 2) dK_a_69.2.1 fl_X10_15 sC_0 rfl rC_0_5 <|
    aw_iload (pc := 30) C (i := 4) dK_a_69.2.2.1 rfl <|
    aw_iald (pc := 32) C dK_a_69.2.2.2.1 sC_2 rfl <|
    aw_iadd (pc := 33) C dK_a_69.2.2.2.2.1 <|
    aw_bipush (pc := 34) C (v := 48) dK_a_69.2.2.2.2.2.1 rfl <|
    aw_isub (pc := 36) C dK_a_69.2.2.2.2.2.2.1 <|
    aw_istoreV_n (pc := 37) C (i := 3) (fun x1 => [(0, .ref 0), (1, .int v1), (2, .int v2), (3, .int x1), (4, .int v4)]) dK_a_69.2.2.2.2.2.2.2.1 rfl (by decide) (fun _ => rfl) fun x1 =>
    aw_iincV (pc := 38) C (i := 4) (cst := 1) (fun x2 => [(0, .ref 0), (1, .int v1), (2, .int v2), (3, .int x1), (4, .int x2)]) dK_a_70.1 rfl rfl (by decide) (fun _ => rfl) fun x2 =>
    aw_goto (pc := 41) C (tgt := 5) dK_a_70.2.1 rfl <|
    (ih x1 x2 h)))
def X10_number (v1 : Int32) (v2 : Int32) (h : AH) : Option (Int32 × AH) :=
    X10_number_l5 v1 v2 FU 0 v1 h
set_option maxRecDepth 100000 in
theorem c_X10_number (l : Launch) (v1 : Int32) (v2 : Int32) : MC l yX10_number cX10_number 5 (some .int) rmX10_number ZC [.ref 0, .int v1, .int v2] rvI (X10_number v1 v2) :=
  MC.of (own := RX10) pn_RX10 rfl (Nat.le_of_ble_eq_true rfl) fun X yd A h _ C =>
    aw_iconst (pc := 0) C (v := 0) dK_a_67.1 rfl <|
    aw_istore_n (pc := 1) C (i := 3) (lv' := [(0, .ref 0), (1, .int v1), (2, .int v2), (3, .int 0)]) dK_a_67.2.1 rfl (by decide) rfl <|
    aw_iload_n (pc := 2) C (i := 1) dK_a_67.2.2.1 rfl rfl <|
    aw_istore (pc := 3) C (i := 4) (lv' := [(0, .ref 0), (1, .int v1), (2, .int v2), (3, .int 0), (4, .int v1)]) dK_a_67.2.2.2.1 (by decide) rfl <|
    (aX10_number_l5 C v1 v2 FU 0 v1 h)

abbrev rmX10_stridesCome : Room := { frames := 1, cells := 0, slots := 0, locals := 22 }
def X10_stridesCome_j25  (v1 : Int32) (s0 : Int32) (h : AH) : Option (Int32 × AH) :=
    if s0 = 0 then (cz s0 (some (s0, h)))
    else (vl (sI h 52 0 v1) fun h1 =>
    cz s0 (some (s0, h1)))
set_option maxRecDepth 100000 in
theorem aX10_stridesCome_j25 {X : MCx} {yd : Dyn} {A : Nat → Prop} (C : OK X cX10_stridesCome RX10 3 (some .boolean) rmX10_stridesCome A)  (v1 : Int32) (s0 : Int32) (h : AH) : AW X 3 ZC yd A 0 0 (QF X rmX10_stridesCome ZC yd rvI A) 25 [(0, .ref 0), (1, .int v1)] [.int s0] h (X10_stridesCome_j25 v1 s0 h) := by
    exact aw_istore_n (pc := 25) C (i := 2) (lv' := [(0, .ref 0), (1, .int v1), (2, .int s0)]) dK_a_74.2.2.2.2.1 rfl (by decide) rfl <|
    aw_iload_n (pc := 26) C (i := 2) dK_a_74.2.2.2.2.2.1 rfl rfl <|
    aw_if_eq (pc := 27) C (tgt := 38) dK_a_74.2.2.2.2.2.2.1 rfl (fun _ =>
    aw_iload_n (pc := 38) C (i := 2) dK_a_75.2.2.2.1 rfl rfl <|
    aw_zret (pc := 39) C dK_a_75.2.2.2.2.1 rfl rfl) (fun _ =>
    aw_aload_n (pc := 30) C (i := 0) dK_a_74.2.2.2.2.2.2.2.1 rfl rfl <|
    aw_getR (pc := 31) C (b := 52) dK_a_75.1 fl_X10_76 sC_0 rfl rC_0_2 <|
    aw_iload_n (pc := 34) C (i := 1) dK_a_75.2.1 rfl rfl <|
    aw_putI (pc := 35) C dK_a_75.2.2.1 fp_X10_163 (mt_s (Or.inr (Or.inl rfl))) rfl fun h1 =>
    aw_iload_n (pc := 38) C (i := 2) dK_a_75.2.2.2.1 rfl rfl <|
    aw_zret (pc := 39) C dK_a_75.2.2.2.2.1 rfl rfl)
def X10_stridesCome_j24  (v1 : Int32) (h : AH) : Option (Int32 × AH) :=
    X10_stridesCome_j25 v1 0 h
set_option maxRecDepth 100000 in
theorem aX10_stridesCome_j24 {X : MCx} {yd : Dyn} {A : Nat → Prop} (C : OK X cX10_stridesCome RX10 3 (some .boolean) rmX10_stridesCome A)  (v1 : Int32) (h : AH) : AW X 3 ZC yd A 0 0 (QF X rmX10_stridesCome ZC yd rvI A) 24 [(0, .ref 0), (1, .int v1)] [] h (X10_stridesCome_j24 v1 h) := by
    exact aw_iconst (pc := 24) C (v := 0) dK_a_74.2.2.2.1 rfl <|
    (aX10_stridesCome_j25 C v1 0 h)
def X10_stridesCome (v1 : Int32) (h : AH) : Option (Int32 × AH) :=
    if (h.1 52 4) = 0 then (bd (X10_outside v1 4 20 h) fun r2 h3 =>
    if r2 = 0 then (X10_stridesCome_j25 v1 1 h3)
    else (X10_stridesCome_j24 v1 h3))
    else (X10_stridesCome_j24 v1 h)
set_option maxRecDepth 100000 in
theorem c_X10_stridesCome (l : Launch) (v1 : Int32) : MC l yX10_stridesCome cX10_stridesCome 3 (some .boolean) rmX10_stridesCome ZC [.ref 0, .int v1] rvI (X10_stridesCome v1) :=
  MC.of (own := RX10) pn_RX10 rfl (Nat.le_of_ble_eq_true rfl) fun X yd A h _ C =>
    aw_aload_n (pc := 0) C (i := 0) dK_a_73.1 rfl rfl <|
    aw_getR (pc := 1) C (b := 52) dK_a_73.2.1 fl_X10_76 sC_0 rfl rC_0_2 <|
    aw_getI (pc := 4) C dK_a_73.2.2.1 fl_X10_160 (mt_s (Or.inr (Or.inl rfl))) rfl <|
    aw_if_ne (pc := 7) C (tgt := 24) dK_a_73.2.2.2.1 rfl (fun _ =>
    aw_iload_n (pc := 10) C (i := 1) dK_a_73.2.2.2.2.1 rfl rfl <|
    aw_iconst (pc := 11) C (v := 4) dK_a_73.2.2.2.2.2.1 rfl <|
    aw_bipush (pc := 12) C (v := 20) dK_a_73.2.2.2.2.2.2.1 rfl <|
    aw_callF (pc := 14) C (cr_S (rest := []) (F := (X10_outside v1 4 20)) C (c_X10_outside X.2.1 v1 4 20) dK_a_73.2.2.2.2.2.2.2.1 mf_X10_outside ml_X10_104 st_X10_outside ⟨(Nat.le_of_ble_eq_true rfl), (Nat.le_of_ble_eq_true rfl)⟩ rfl rfl (Nat.le_of_ble_eq_true rfl)) rfl rfl rfl (Nat.zero_le _) (Nat.zero_le _) fun r2 h3 =>
    aw_if_ne (pc := 17) C (tgt := 24) dK_a_74.1 rfl (fun _ =>
    aw_iconst (pc := 20) C (v := 1) dK_a_74.2.1 rfl <|
    aw_goto (pc := 21) C (tgt := 25) dK_a_74.2.2.1 rfl <|
    (aX10_stridesCome_j25 C v1 1 h3)) (fun _ =>
    (aX10_stridesCome_j24 C v1 h3))) (fun _ =>
    (aX10_stridesCome_j24 C v1 h))

abbrev rmX10_isMinus : Room := { frames := 0, cells := 0, slots := 0, locals := 0 }
def X10_isMinus (v1 : Int32) (h : AH) : Option (Int32 × AH) :=
    if (h.1 0 6) ≤ v1 then (cz 0 (some (0, h)))
    else (ck v1 96 (if (h.1 2 v1.toNatClampNeg) = 45 then (cz 1 (some (1, h)))
    else (cz 0 (some (0, h)))))
set_option maxRecDepth 100000 in
theorem c_X10_isMinus (l : Launch) (v1 : Int32) : MC l yX10_isMinus cX10_isMinus 2 (some .boolean) rmX10_isMinus ZC [.ref 0, .int v1] rvI (X10_isMinus v1) :=
  MC.of (own := RX10) pn_RX10 rfl (Nat.le_of_ble_eq_true rfl) fun X yd A h _ C =>
    aw_iload_n (pc := 0) C (i := 1) dK_a_65.1 rfl rfl <|
    aw_aload_n (pc := 1) C (i := 0) dK_a_65.2.1 rfl rfl <|
    aw_getI (pc := 2) C dK_a_65.2.2.1 fl_X10_108 sC_0 rfl <|
    aw_icmp_ge (pc := 5) C (tgt := 23) dK_a_65.2.2.2.1 rfl (fun _ =>
    aw_iconst (pc := 23) C (v := 0) dK_a_66.2.2.2.2.1 rfl <|
    aw_zret (pc := 24) C dK_a_66.2.2.2.2.2.1 rfl rfl) (fun _ =>
    aw_aload_n (pc := 8) C (i := 0) dK_a_65.2.2.2.2.1 rfl rfl <|
    aw_getR (pc := 9) C (b := 2) dK_a_65.2.2.2.2.2.1 fl_X10_15 sC_0 rfl rC_0_5 <|
    aw_iload_n (pc := 12) C (i := 1) dK_a_65.2.2.2.2.2.2.1 rfl rfl <|
    aw_iald (pc := 13) C dK_a_65.2.2.2.2.2.2.2.1 sC_2 rfl <|
    aw_bipush (pc := 14) C (v := 45) dK_a_66.1 rfl <|
    aw_icmp_ne (pc := 16) C (tgt := 23) dK_a_66.2.1 rfl (fun _ =>
    aw_iconst (pc := 19) C (v := 1) dK_a_66.2.2.1 rfl <|
    aw_goto (pc := 20) C (tgt := 24) dK_a_66.2.2.2.1 rfl <|
    aw_zret (pc := 24) C dK_a_66.2.2.2.2.2.1 rfl rfl) (fun _ =>
    aw_iconst (pc := 23) C (v := 0) dK_a_66.2.2.2.2.1 rfl <|
    aw_zret (pc := 24) C dK_a_66.2.2.2.2.2.1 rfl rfl))

abbrev rmX10_windComes : Room := { frames := 0, cells := 0, slots := 0, locals := 0 }
def X10_windComes_j14  (s0 : Int32) (h : AH) : Option (Int32 × AH) :=
    vl (sI h 52 1 s0) fun h1 =>
    cz 1 (some (1, h1))
set_option maxRecDepth 100000 in
theorem aX10_windComes_j14 {X : MCx} {yd : Dyn} {A : Nat → Prop} (C : OK X cX10_windComes RX10 3 (some .boolean) rmX10_windComes A)  (s0 : Int32) (h : AH) : AW X 3 ZC yd A 0 0 (QF X rmX10_windComes ZC yd rvI A) 14 [] [.int s0, .ref 52] h (X10_windComes_j14 s0 h) := by
    exact aw_putI (pc := 14) C dK_a_72.1 fp_X10_157 (mt_s (Or.inr (Or.inl rfl))) rfl fun h1 =>
    aw_iconst (pc := 17) C (v := 1) dK_a_72.2.1 rfl <|
    aw_zret (pc := 18) C dK_a_72.2.2.1 rfl rfl
def X10_windComes (v1 : Int32) (v2 : Int32) (h : AH) : Option (Int32 × AH) :=
    if v1 = 0 then (X10_windComes_j14 v2 h)
    else (X10_windComes_j14 (-v2) h)
set_option maxRecDepth 100000 in
theorem c_X10_windComes (l : Launch) (v1 : Int32) (v2 : Int32) : MC l yX10_windComes cX10_windComes 3 (some .boolean) rmX10_windComes ZC [.ref 0, .int v1, .int v2] rvI (X10_windComes v1 v2) :=
  MC.of (own := RX10) pn_RX10 rfl (Nat.le_of_ble_eq_true rfl) fun X yd A h _ C =>
    aw_aload_n (pc := 0) C (i := 0) dK_a_71.1 rfl rfl <|
    aw_getR (pc := 1) C (b := 52) dK_a_71.2.1 fl_X10_76 sC_0 rfl rC_0_2 <|
    aw_iload_n (pc := 4) C (i := 1) dK_a_71.2.2.1 rfl rfl <|
    aw_if_eq (pc := 5) C (tgt := 13) dK_a_71.2.2.2.1 rfl (fun _ =>
    aw_iload_n (pc := 13) C (i := 2) dK_a_71.2.2.2.2.2.2.2.1 rfl rfl <|
    aw_drop [] (aX10_windComes_j14 C v2 h)) (fun _ =>
    aw_iload_n (pc := 8) C (i := 2) dK_a_71.2.2.2.2.1 rfl rfl <|
    aw_ineg (pc := 9) C dK_a_71.2.2.2.2.2.1 <|
    aw_goto (pc := 10) C (tgt := 14) dK_a_71.2.2.2.2.2.2.1 rfl <|
    aw_drop [] (aX10_windComes_j14 C (-v2) h))

abbrev rmX10_goOnComes : Room := { frames := 1, cells := 0, slots := 0, locals := 22 }
def X10_goOnComes_j24  (v1 : Int32) (s0 : Int32) (h : AH) : Option (Int32 × AH) :=
    if s0 = 0 then (cz s0 (some (s0, h)))
    else (vl (sI h 52 2 v1) fun h1 =>
    cz s0 (some (s0, h1)))
set_option maxRecDepth 100000 in
theorem aX10_goOnComes_j24 {X : MCx} {yd : Dyn} {A : Nat → Prop} (C : OK X cX10_goOnComes RX10 3 (some .boolean) rmX10_goOnComes A)  (v1 : Int32) (s0 : Int32) (h : AH) : AW X 3 ZC yd A 0 0 (QF X rmX10_goOnComes ZC yd rvI A) 24 [(0, .ref 0), (1, .int v1)] [.int s0] h (X10_goOnComes_j24 v1 s0 h) := by
    exact aw_istore_n (pc := 24) C (i := 2) (lv' := [(0, .ref 0), (1, .int v1), (2, .int s0)]) dK_a_77.2.2.2.2.1 rfl (by decide) rfl <|
    aw_iload_n (pc := 25) C (i := 2) dK_a_77.2.2.2.2.2.1 rfl rfl <|
    aw_if_eq (pc := 26) C (tgt := 37) dK_a_77.2.2.2.2.2.2.1 rfl (fun _ =>
    aw_iload_n (pc := 37) C (i := 2) dK_a_78.2.2.2.1 rfl rfl <|
    aw_zret (pc := 38) C dK_a_78.2.2.2.2.1 rfl rfl) (fun _ =>
    aw_aload_n (pc := 29) C (i := 0) dK_a_77.2.2.2.2.2.2.2.1 rfl rfl <|
    aw_getR (pc := 30) C (b := 52) dK_a_78.1 fl_X10_76 sC_0 rfl rC_0_2 <|
    aw_iload_n (pc := 33) C (i := 1) dK_a_78.2.1 rfl rfl <|
    aw_putI (pc := 34) C dK_a_78.2.2.1 fp_X10_166 (mt_s (Or.inr (Or.inl rfl))) rfl fun h1 =>
    aw_iload_n (pc := 37) C (i := 2) dK_a_78.2.2.2.1 rfl rfl <|
    aw_zret (pc := 38) C dK_a_78.2.2.2.2.1 rfl rfl)
def X10_goOnComes_j23  (v1 : Int32) (h : AH) : Option (Int32 × AH) :=
    X10_goOnComes_j24 v1 0 h
set_option maxRecDepth 100000 in
theorem aX10_goOnComes_j23 {X : MCx} {yd : Dyn} {A : Nat → Prop} (C : OK X cX10_goOnComes RX10 3 (some .boolean) rmX10_goOnComes A)  (v1 : Int32) (h : AH) : AW X 3 ZC yd A 0 0 (QF X rmX10_goOnComes ZC yd rvI A) 23 [(0, .ref 0), (1, .int v1)] [] h (X10_goOnComes_j23 v1 h) := by
    exact aw_iconst (pc := 23) C (v := 0) dK_a_77.2.2.2.1 rfl <|
    (aX10_goOnComes_j24 C v1 0 h)
def X10_goOnComes (v1 : Int32) (h : AH) : Option (Int32 × AH) :=
    if (h.1 52 4) = 0 then (bd (X10_outside v1 1 4 h) fun r2 h3 =>
    if r2 = 0 then (X10_goOnComes_j24 v1 1 h3)
    else (X10_goOnComes_j23 v1 h3))
    else (X10_goOnComes_j23 v1 h)
set_option maxRecDepth 100000 in
theorem c_X10_goOnComes (l : Launch) (v1 : Int32) : MC l yX10_goOnComes cX10_goOnComes 3 (some .boolean) rmX10_goOnComes ZC [.ref 0, .int v1] rvI (X10_goOnComes v1) :=
  MC.of (own := RX10) pn_RX10 rfl (Nat.le_of_ble_eq_true rfl) fun X yd A h _ C =>
    aw_aload_n (pc := 0) C (i := 0) dK_a_76.1 rfl rfl <|
    aw_getR (pc := 1) C (b := 52) dK_a_76.2.1 fl_X10_76 sC_0 rfl rC_0_2 <|
    aw_getI (pc := 4) C dK_a_76.2.2.1 fl_X10_160 (mt_s (Or.inr (Or.inl rfl))) rfl <|
    aw_if_ne (pc := 7) C (tgt := 23) dK_a_76.2.2.2.1 rfl (fun _ =>
    aw_iload_n (pc := 10) C (i := 1) dK_a_76.2.2.2.2.1 rfl rfl <|
    aw_iconst (pc := 11) C (v := 1) dK_a_76.2.2.2.2.2.1 rfl <|
    aw_iconst (pc := 12) C (v := 4) dK_a_76.2.2.2.2.2.2.1 rfl <|
    aw_callF (pc := 13) C (cr_S (rest := []) (F := (X10_outside v1 1 4)) C (c_X10_outside X.2.1 v1 1 4) dK_a_76.2.2.2.2.2.2.2.1 mf_X10_outside ml_X10_104 st_X10_outside ⟨(Nat.le_of_ble_eq_true rfl), (Nat.le_of_ble_eq_true rfl)⟩ rfl rfl (Nat.le_of_ble_eq_true rfl)) rfl rfl rfl (Nat.zero_le _) (Nat.zero_le _) fun r2 h3 =>
    aw_if_ne (pc := 16) C (tgt := 23) dK_a_77.1 rfl (fun _ =>
    aw_iconst (pc := 19) C (v := 1) dK_a_77.2.1 rfl <|
    aw_goto (pc := 20) C (tgt := 24) dK_a_77.2.2.1 rfl <|
    (aX10_goOnComes_j24 C v1 1 h3)) (fun _ =>
    (aX10_goOnComes_j23 C v1 h3))) (fun _ =>
    (aX10_goOnComes_j23 C v1 h))

abbrev rmX10_jumperComes : Room := { frames := 1, cells := 0, slots := 0, locals := 24 }
def X10_jumperComes (v1 : Int32) (h : AH) : Option (Int32 × AH) :=
    bd (X10_number (v1 + 1) 1 h) fun r1 h2 =>
    if 0 < (h2.1 52 4) then (cz 0 (some (0, h2)))
    else (if 4 ≤ (h2.1 52 3) then (cz 0 (some (0, h2)))
    else (bd (X10_outside r1 0 5 h2) fun r3 h4 =>
    if r3 = 0 then (bd (X5_at 52 (h4.1 52 3) h4) fun r5 h6 =>
    cs ZC r5 (.inr 2) (ck r1 6 (vl (sK h6 r5 (r1.toNatClampNeg)) fun h8 =>
    vl (sI h8 r5 1 r1) fun h9 =>
    bd (X10_number (v1 + 2) 1 h9) fun r10 h11 =>
    vl (sI h11 r5 2 r10) fun h12 =>
    bd (X10_number (v1 + 3) 2 h12) fun r13 h14 =>
    vl (sI h14 r5 3 r13) fun h15 =>
    bd (X10_number (v1 + 5) 1 h15) fun r16 h17 =>
    vl (sI h17 r5 4 r16) fun h18 =>
    bd (X10_number (v1 + 6) 1 h18) fun r19 h20 =>
    vl (sI h20 r5 5 r19) fun h21 =>
    bd (X10_number (v1 + 7) 2 h21) fun r22 h23 =>
    vl (sI h23 r5 6 r22) fun h24 =>
    bd (X10_number (v1 + 9) 1 h24) fun r25 h26 =>
    vl (sI h26 r5 7 r25) fun h27 =>
    bd (X10_number (v1 + 10) 4 h27) fun r28 h29 =>
    vl (sI h29 r5 8 r28) fun h30 =>
    vl (sI h30 52 3 ((h30.1 52 3) + 1)) fun h31 =>
    if (h31.1 r5 3) < 40 then (cz 0 (some (0, h31)))
    else (if 6 < (h31.1 r5 5) then (cz 0 (some (0, h31)))
    else (if (h31.1 r5 6) < 20 then (cz 0 (some (0, h31)))
    else (if 4 < (h31.1 r5 7) then (cz 0 (some (0, h31)))
    else (if 2400 < (h31.1 r5 8) then (cz 0 (some (0, h31)))
    else (cz 1 (some (1, h31))))))))))
    else (cz 0 (some (0, h4)))))
set_option maxRecDepth 100000 in
theorem c_X10_jumperComes (l : Launch) (v1 : Int32) : MC l yX10_jumperComes cX10_jumperComes 4 (some .boolean) rmX10_jumperComes ZC [.ref 0, .int v1] rvI (X10_jumperComes v1) :=
  MC.of (own := RX10) pn_RX10 rfl (Nat.le_of_ble_eq_true rfl) fun X yd A h _ C =>
    aw_aload_n (pc := 0) C (i := 0) dK_a_79.1 rfl rfl <|
    aw_iload_n (pc := 1) C (i := 1) dK_a_79.2.1 rfl rfl <|
    aw_iconst (pc := 2) C (v := 1) dK_a_79.2.2.1 rfl <|
    aw_iadd (pc := 3) C dK_a_79.2.2.2.1 <|
    aw_iconst (pc := 4) C (v := 1) dK_a_79.2.2.2.2.1 rfl <|
    aw_callF (pc := 5) C (cr_V (rest := []) (F := (X10_number (v1 + 1) 1)) C (c_X10_number X.2.1 (v1 + 1) 1) dK_a_79.2.2.2.2.2.1 mf_X10_number ml_X10_135 im_X10_number se_X10_number sC_0 rfl ⟨(Nat.le_of_ble_eq_true rfl), (Nat.le_of_ble_eq_true rfl)⟩ rfl rfl (Nat.le_of_ble_eq_true rfl)) rfl rfl rfl (Nat.zero_le _) (Nat.zero_le _) fun r1 h2 =>
    aw_istore_n (pc := 8) C (i := 2) (lv' := [(0, .ref 0), (1, .int v1), (2, .int r1)]) dK_a_79.2.2.2.2.2.2.1 rfl (by decide) rfl <|
    aw_aload_n (pc := 9) C (i := 0) dK_a_79.2.2.2.2.2.2.2.1 rfl rfl <|
    aw_getR (pc := 10) C (b := 52) dK_a_80.1 fl_X10_76 sC_0 rfl rC_0_2 <|
    aw_getI (pc := 13) C dK_a_80.2.1 fl_X10_160 (mt_s (Or.inr (Or.inl rfl))) rfl <|
    aw_if_gt (pc := 16) C (tgt := 39) dK_a_80.2.2.1 rfl (fun _ =>
    aw_iconst (pc := 39) C (v := 0) dK_a_81.2.2.2.2.2.1 rfl <|
    aw_zret (pc := 40) C dK_a_81.2.2.2.2.2.2.1 rfl rfl) (fun _ =>
    aw_aload_n (pc := 19) C (i := 0) dK_a_80.2.2.2.1 rfl rfl <|
    aw_getR (pc := 20) C (b := 52) dK_a_80.2.2.2.2.1 fl_X10_76 sC_0 rfl rC_0_2 <|
    aw_getI (pc := 23) C dK_a_80.2.2.2.2.2.1 fl_X10_89 (mt_s (Or.inr (Or.inl rfl))) rfl <|
    aw_iconst (pc := 26) C (v := 4) dK_a_80.2.2.2.2.2.2.1 rfl <|
    aw_icmp_ge (pc := 27) C (tgt := 39) dK_a_80.2.2.2.2.2.2.2.1 rfl (fun _ =>
    aw_iconst (pc := 39) C (v := 0) dK_a_81.2.2.2.2.2.1 rfl <|
    aw_zret (pc := 40) C dK_a_81.2.2.2.2.2.2.1 rfl rfl) (fun _ =>
    aw_iload_n (pc := 30) C (i := 2) dK_a_81.1 rfl rfl <|
    aw_iconst (pc := 31) C (v := 0) dK_a_81.2.1 rfl <|
    aw_iconst (pc := 32) C (v := 5) dK_a_81.2.2.1 rfl <|
    aw_callF (pc := 33) C (cr_S (rest := []) (F := (X10_outside r1 0 5)) C (c_X10_outside X.2.1 r1 0 5) dK_a_81.2.2.2.1 mf_X10_outside ml_X10_104 st_X10_outside ⟨(Nat.le_of_ble_eq_true rfl), (Nat.le_of_ble_eq_true rfl)⟩ rfl rfl (Nat.le_of_ble_eq_true rfl)) rfl rfl rfl (Nat.zero_le _) (Nat.zero_le _) fun r3 h4 =>
    aw_if_eq (pc := 36) C (tgt := 41) dK_a_81.2.2.2.2.1 rfl (fun _ =>
    aw_aload_n (pc := 41) C (i := 0) dK_a_81.2.2.2.2.2.2.2.1 rfl rfl <|
    aw_getR (pc := 42) C (b := 52) dK_a_82.1 fl_X10_76 sC_0 rfl rC_0_2 <|
    aw_aload_n (pc := 45) C (i := 0) dK_a_82.2.1 rfl rfl <|
    aw_getR (pc := 46) C (b := 52) dK_a_82.2.2.1 fl_X10_76 sC_0 rfl rC_0_2 <|
    aw_getI (pc := 49) C dK_a_82.2.2.2.1 fl_X10_89 (mt_s (Or.inr (Or.inl rfl))) rfl <|
    aw_callF (pc := 52) C (cr_V (rest := []) (F := (X5_at 52 (h4.1 52 3))) C (c_X5_at X.2.1 52 (Or.inr (Or.inl rfl)) (h4.1 52 3)) dK_a_82.2.2.2.2.1 mf_X5_at ml_X10_169 im_X5_at se_X5_at (mt_s (Or.inr (Or.inl rfl))) rfl ⟨(Nat.le_of_ble_eq_true rfl), (Nat.le_of_ble_eq_true rfl)⟩ rfl rfl (Nat.le_of_ble_eq_true rfl)) rfl rfl rfl (Nat.zero_le _) (Nat.zero_le _) fun r5 h6 =>
    aw_cs fun hs7 =>
    aw_astore_n (pc := 55) C (i := 3) (lv' := [(0, .ref 0), (1, .int v1), (2, .int r1), (3, .ref r5)]) dK_a_82.2.2.2.2.2.1 rfl (by decide) rfl <|
    aw_aload_n (pc := 56) C (i := 3) dK_a_82.2.2.2.2.2.2.1 rfl rfl <|
    aw_aload_n (pc := 57) C (i := 0) dK_a_82.2.2.2.2.2.2.2.1 rfl rfl <|
    aw_getR (pc := 58) C (b := 1) dK_a_83.1 fl_X10_11 sC_0 rfl rC_0_0 <|
    aw_iload_n (pc := 61) C (i := 2) dK_a_83.2.1 rfl rfl <|
    aw_aald (pc := 62) C (b := (36 + r1.toNatClampNeg % 6)) dK_a_83.2.2.1 sC_1 rfl rfl (rC_1 _) <|
    aw_putW (pc := 63) C (v := (r1.toNatClampNeg)) dK_a_83.2.2.2.1 fp_X10_173 hs7 rfl j_3 j_m rfl fun h8 =>
    aw_aload_n (pc := 66) C (i := 3) dK_a_83.2.2.2.2.1 rfl rfl <|
    aw_iload_n (pc := 67) C (i := 2) dK_a_83.2.2.2.2.2.1 rfl rfl <|
    aw_putI (pc := 68) C dK_a_83.2.2.2.2.2.2.1 fp_X10_177 hs7 rfl fun h9 =>
    aw_aload_n (pc := 71) C (i := 3) dK_a_83.2.2.2.2.2.2.2.1 rfl rfl <|
    aw_aload_n (pc := 72) C (i := 0) dK_a_84.1 rfl rfl <|
    aw_iload_n (pc := 73) C (i := 1) dK_a_84.2.1 rfl rfl <|
    aw_iconst (pc := 74) C (v := 2) dK_a_84.2.2.1 rfl <|
    aw_iadd (pc := 75) C dK_a_84.2.2.2.1 <|
    aw_iconst (pc := 76) C (v := 1) dK_a_84.2.2.2.2.1 rfl <|
    aw_callF (pc := 77) C (cr_V (rest := [.ref r5]) (F := (X10_number (v1 + 2) 1)) C (c_X10_number X.2.1 (v1 + 2) 1) dK_a_84.2.2.2.2.2.1 mf_X10_number ml_X10_135 im_X10_number se_X10_number sC_0 rfl ⟨(Nat.le_of_ble_eq_true rfl), (Nat.le_of_ble_eq_true rfl)⟩ rfl rfl (Nat.le_of_ble_eq_true rfl)) rfl rfl rfl (Nat.zero_le _) (Nat.zero_le _) fun r10 h11 =>
    aw_putI (pc := 80) C dK_a_84.2.2.2.2.2.2.1 fp_X10_180 hs7 rfl fun h12 =>
    aw_aload_n (pc := 83) C (i := 3) dK_a_84.2.2.2.2.2.2.2.1 rfl rfl <|
    aw_aload_n (pc := 84) C (i := 0) dK_a_85.1 rfl rfl <|
    aw_iload_n (pc := 85) C (i := 1) dK_a_85.2.1 rfl rfl <|
    aw_iconst (pc := 86) C (v := 3) dK_a_85.2.2.1 rfl <|
    aw_iadd (pc := 87) C dK_a_85.2.2.2.1 <|
    aw_iconst (pc := 88) C (v := 2) dK_a_85.2.2.2.2.1 rfl <|
    aw_callF (pc := 89) C (cr_V (rest := [.ref r5]) (F := (X10_number (v1 + 3) 2)) C (c_X10_number X.2.1 (v1 + 3) 2) dK_a_85.2.2.2.2.2.1 mf_X10_number ml_X10_135 im_X10_number se_X10_number sC_0 rfl ⟨(Nat.le_of_ble_eq_true rfl), (Nat.le_of_ble_eq_true rfl)⟩ rfl rfl (Nat.le_of_ble_eq_true rfl)) rfl rfl rfl (Nat.zero_le _) (Nat.zero_le _) fun r13 h14 =>
    aw_putI (pc := 92) C dK_a_85.2.2.2.2.2.2.1 fp_X10_183 hs7 rfl fun h15 =>
    aw_aload_n (pc := 95) C (i := 3) dK_a_85.2.2.2.2.2.2.2.1 rfl rfl <|
    aw_aload_n (pc := 96) C (i := 0) dK_a_86.1 rfl rfl <|
    aw_iload_n (pc := 97) C (i := 1) dK_a_86.2.1 rfl rfl <|
    aw_iconst (pc := 98) C (v := 5) dK_a_86.2.2.1 rfl <|
    aw_iadd (pc := 99) C dK_a_86.2.2.2.1 <|
    aw_iconst (pc := 100) C (v := 1) dK_a_86.2.2.2.2.1 rfl <|
    aw_callF (pc := 101) C (cr_V (rest := [.ref r5]) (F := (X10_number (v1 + 5) 1)) C (c_X10_number X.2.1 (v1 + 5) 1) dK_a_86.2.2.2.2.2.1 mf_X10_number ml_X10_135 im_X10_number se_X10_number sC_0 rfl ⟨(Nat.le_of_ble_eq_true rfl), (Nat.le_of_ble_eq_true rfl)⟩ rfl rfl (Nat.le_of_ble_eq_true rfl)) rfl rfl rfl (Nat.zero_le _) (Nat.zero_le _) fun r16 h17 =>
    aw_putI (pc := 104) C dK_a_86.2.2.2.2.2.2.1 fp_X10_186 hs7 rfl fun h18 =>
    aw_aload_n (pc := 107) C (i := 3) dK_a_86.2.2.2.2.2.2.2.1 rfl rfl <|
    aw_aload_n (pc := 108) C (i := 0) dK_a_87.1 rfl rfl <|
    aw_iload_n (pc := 109) C (i := 1) dK_a_87.2.1 rfl rfl <|
    aw_bipush (pc := 110) C (v := 6) dK_a_87.2.2.1 rfl <|
    aw_iadd (pc := 112) C dK_a_87.2.2.2.1 <|
    aw_iconst (pc := 113) C (v := 1) dK_a_87.2.2.2.2.1 rfl <|
    aw_callF (pc := 114) C (cr_V (rest := [.ref r5]) (F := (X10_number (v1 + 6) 1)) C (c_X10_number X.2.1 (v1 + 6) 1) dK_a_87.2.2.2.2.2.1 mf_X10_number ml_X10_135 im_X10_number se_X10_number sC_0 rfl ⟨(Nat.le_of_ble_eq_true rfl), (Nat.le_of_ble_eq_true rfl)⟩ rfl rfl (Nat.le_of_ble_eq_true rfl)) rfl rfl rfl (Nat.zero_le _) (Nat.zero_le _) fun r19 h20 =>
    aw_putI (pc := 117) C dK_a_87.2.2.2.2.2.2.1 fp_X10_189 hs7 rfl fun h21 =>
    aw_aload_n (pc := 120) C (i := 3) dK_a_87.2.2.2.2.2.2.2.1 rfl rfl <|
    aw_aload_n (pc := 121) C (i := 0) dK_a_88.1 rfl rfl <|
    aw_iload_n (pc := 122) C (i := 1) dK_a_88.2.1 rfl rfl <|
    aw_bipush (pc := 123) C (v := 7) dK_a_88.2.2.1 rfl <|
    aw_iadd (pc := 125) C dK_a_88.2.2.2.1 <|
    aw_iconst (pc := 126) C (v := 2) dK_a_88.2.2.2.2.1 rfl <|
    aw_callF (pc := 127) C (cr_V (rest := [.ref r5]) (F := (X10_number (v1 + 7) 2)) C (c_X10_number X.2.1 (v1 + 7) 2) dK_a_88.2.2.2.2.2.1 mf_X10_number ml_X10_135 im_X10_number se_X10_number sC_0 rfl ⟨(Nat.le_of_ble_eq_true rfl), (Nat.le_of_ble_eq_true rfl)⟩ rfl rfl (Nat.le_of_ble_eq_true rfl)) rfl rfl rfl (Nat.zero_le _) (Nat.zero_le _) fun r22 h23 =>
    aw_putI (pc := 130) C dK_a_88.2.2.2.2.2.2.1 fp_X10_192 hs7 rfl fun h24 =>
    aw_aload_n (pc := 133) C (i := 3) dK_a_88.2.2.2.2.2.2.2.1 rfl rfl <|
    aw_aload_n (pc := 134) C (i := 0) dK_a_89.1 rfl rfl <|
    aw_iload_n (pc := 135) C (i := 1) dK_a_89.2.1 rfl rfl <|
    aw_bipush (pc := 136) C (v := 9) dK_a_89.2.2.1 rfl <|
    aw_iadd (pc := 138) C dK_a_89.2.2.2.1 <|
    aw_iconst (pc := 139) C (v := 1) dK_a_89.2.2.2.2.1 rfl <|
    aw_callF (pc := 140) C (cr_V (rest := [.ref r5]) (F := (X10_number (v1 + 9) 1)) C (c_X10_number X.2.1 (v1 + 9) 1) dK_a_89.2.2.2.2.2.1 mf_X10_number ml_X10_135 im_X10_number se_X10_number sC_0 rfl ⟨(Nat.le_of_ble_eq_true rfl), (Nat.le_of_ble_eq_true rfl)⟩ rfl rfl (Nat.le_of_ble_eq_true rfl)) rfl rfl rfl (Nat.zero_le _) (Nat.zero_le _) fun r25 h26 =>
    aw_putI (pc := 143) C dK_a_89.2.2.2.2.2.2.1 fp_X10_195 hs7 rfl fun h27 =>
    aw_aload_n (pc := 146) C (i := 3) dK_a_89.2.2.2.2.2.2.2.1 rfl rfl <|
    aw_aload_n (pc := 147) C (i := 0) dK_a_90.1 rfl rfl <|
    aw_iload_n (pc := 148) C (i := 1) dK_a_90.2.1 rfl rfl <|
    aw_bipush (pc := 149) C (v := 10) dK_a_90.2.2.1 rfl <|
    aw_iadd (pc := 151) C dK_a_90.2.2.2.1 <|
    aw_iconst (pc := 152) C (v := 4) dK_a_90.2.2.2.2.1 rfl <|
    aw_callF (pc := 153) C (cr_V (rest := [.ref r5]) (F := (X10_number (v1 + 10) 4)) C (c_X10_number X.2.1 (v1 + 10) 4) dK_a_90.2.2.2.2.2.1 mf_X10_number ml_X10_135 im_X10_number se_X10_number sC_0 rfl ⟨(Nat.le_of_ble_eq_true rfl), (Nat.le_of_ble_eq_true rfl)⟩ rfl rfl (Nat.le_of_ble_eq_true rfl)) rfl rfl rfl (Nat.zero_le _) (Nat.zero_le _) fun r28 h29 =>
    aw_putI (pc := 156) C dK_a_90.2.2.2.2.2.2.1 fp_X10_198 hs7 rfl fun h30 =>
    aw_aload_n (pc := 159) C (i := 0) dK_a_90.2.2.2.2.2.2.2.1 rfl rfl <|
    aw_getR (pc := 160) C (b := 52) dK_a_91.1 fl_X10_76 sC_0 rfl rC_0_2 <|
    aw_dup (pc := 163) C dK_a_91.2.1 rfl <|
    aw_getI (pc := 164) C dK_a_91.2.2.1 fl_X10_89 (mt_s (Or.inr (Or.inl rfl))) rfl <|
    aw_iconst (pc := 167) C (v := 1) dK_a_91.2.2.2.1 rfl <|
    aw_iadd (pc := 168) C dK_a_91.2.2.2.2.1 <|
    aw_putI (pc := 169) C dK_a_91.2.2.2.2.2.1 fp_X10_89 (mt_s (Or.inr (Or.inl rfl))) rfl fun h31 =>
    aw_aload_n (pc := 172) C (i := 3) dK_a_91.2.2.2.2.2.2.1 rfl rfl <|
    aw_getI (pc := 173) C dK_a_91.2.2.2.2.2.2.2.1 fl_X10_183 hs7 rfl <|
    aw_bipush (pc := 176) C (v := 40) dK_a_92.1 rfl <|
    aw_icmp_lt (pc := 178) C (tgt := 221) dK_a_92.2.1 rfl (fun _ =>
    aw_iconst (pc := 221) C (v := 0) dK_a_94.2.2.2.2.1 rfl <|
    aw_zret (pc := 222) C dK_a_94.2.2.2.2.2.1 rfl rfl) (fun _ =>
    aw_aload_n (pc := 181) C (i := 3) dK_a_92.2.2.1 rfl rfl <|
    aw_getI (pc := 182) C dK_a_92.2.2.2.1 fl_X10_189 hs7 rfl <|
    aw_bipush (pc := 185) C (v := 6) dK_a_92.2.2.2.2.1 rfl <|
    aw_icmp_gt (pc := 187) C (tgt := 221) dK_a_92.2.2.2.2.2.1 rfl (fun _ =>
    aw_iconst (pc := 221) C (v := 0) dK_a_94.2.2.2.2.1 rfl <|
    aw_zret (pc := 222) C dK_a_94.2.2.2.2.2.1 rfl rfl) (fun _ =>
    aw_aload_n (pc := 190) C (i := 3) dK_a_92.2.2.2.2.2.2.1 rfl rfl <|
    aw_getI (pc := 191) C dK_a_92.2.2.2.2.2.2.2.1 fl_X10_192 hs7 rfl <|
    aw_bipush (pc := 194) C (v := 20) dK_a_93.1 rfl <|
    aw_icmp_lt (pc := 196) C (tgt := 221) dK_a_93.2.1 rfl (fun _ =>
    aw_iconst (pc := 221) C (v := 0) dK_a_94.2.2.2.2.1 rfl <|
    aw_zret (pc := 222) C dK_a_94.2.2.2.2.2.1 rfl rfl) (fun _ =>
    aw_aload_n (pc := 199) C (i := 3) dK_a_93.2.2.1 rfl rfl <|
    aw_getI (pc := 200) C dK_a_93.2.2.2.1 fl_X10_195 hs7 rfl <|
    aw_iconst (pc := 203) C (v := 4) dK_a_93.2.2.2.2.1 rfl <|
    aw_icmp_gt (pc := 204) C (tgt := 221) dK_a_93.2.2.2.2.2.1 rfl (fun _ =>
    aw_iconst (pc := 221) C (v := 0) dK_a_94.2.2.2.2.1 rfl <|
    aw_zret (pc := 222) C dK_a_94.2.2.2.2.2.1 rfl rfl) (fun _ =>
    aw_aload_n (pc := 207) C (i := 3) dK_a_93.2.2.2.2.2.2.1 rfl rfl <|
    aw_getI (pc := 208) C dK_a_93.2.2.2.2.2.2.2.1 fl_X10_198 hs7 rfl <|
    aw_sipush (pc := 211) C (v := 2400) dK_a_94.1 rfl <|
    aw_icmp_gt (pc := 214) C (tgt := 221) dK_a_94.2.1 rfl (fun _ =>
    aw_iconst (pc := 221) C (v := 0) dK_a_94.2.2.2.2.1 rfl <|
    aw_zret (pc := 222) C dK_a_94.2.2.2.2.2.1 rfl rfl) (fun _ =>
    aw_iconst (pc := 217) C (v := 1) dK_a_94.2.2.1 rfl <|
    aw_goto (pc := 218) C (tgt := 222) dK_a_94.2.2.2.1 rfl <|
    aw_zret (pc := 222) C dK_a_94.2.2.2.2.2.1 rfl rfl)))))) (fun _ =>
    aw_iconst (pc := 39) C (v := 0) dK_a_81.2.2.2.2.2.1 rfl <|
    aw_zret (pc := 40) C dK_a_81.2.2.2.2.2.2.1 rfl rfl)))

abbrev rmX10_tryComes : Room := { frames := 4, cells := 0, slots := 0, locals := 116 }
def X10_tryComes (v1 : Int32) (h : AH) : Option (Int32 × AH) :=
    bd (X5_inTurn 52 h) fun r1 h2 =>
    if 0 ≤ r1 then (bd (X5_record 52 r1 v1 0 h2) fun r3 h4 =>
    cz 1 (some (1, h4)))
    else (cz 0 (some (0, h2)))
set_option maxRecDepth 100000 in
theorem c_X10_tryComes (l : Launch) (v1 : Int32) : MC l yX10_tryComes cX10_tryComes 3 (some .boolean) rmX10_tryComes ZC [.ref 0, .int v1] rvI (X10_tryComes v1) :=
  MC.of (own := RX10) pn_RX10 rfl (Nat.le_of_ble_eq_true rfl) fun X yd A h _ C =>
    aw_aload_n (pc := 0) C (i := 0) dK_a_95.1 rfl rfl <|
    aw_getR (pc := 1) C (b := 52) dK_a_95.2.1 fl_X10_76 sC_0 rfl rC_0_2 <|
    aw_aload_n (pc := 4) C (i := 0) dK_a_95.2.2.1 rfl rfl <|
    aw_getR (pc := 5) C (b := 5) dK_a_95.2.2.2.1 fl_X10_28 sC_0 rfl rC_0_10 <|
    aw_callF (pc := 8) C (cr_V (rest := []) (F := (X5_inTurn 52)) C (c_X5_inTurn X.2.1 52 (Or.inr (Or.inl rfl))) dK_a_95.2.2.2.2.1 mf_X5_inTurn ml_X10_201 im_X5_inTurn se_X5_inTurn (mt_s (Or.inr (Or.inl rfl))) rfl ⟨(Nat.le_of_ble_eq_true rfl), (Nat.le_of_ble_eq_true rfl)⟩ rfl rfl (Nat.le_of_ble_eq_true rfl)) rfl rfl rfl (Nat.zero_le _) (Nat.zero_le _) fun r1 h2 =>
    aw_istore_n (pc := 11) C (i := 2) (lv' := [(0, .ref 0), (1, .int v1), (2, .int r1)]) dK_a_95.2.2.2.2.2.1 rfl (by decide) rfl <|
    aw_iload_n (pc := 12) C (i := 2) dK_a_95.2.2.2.2.2.2.1 rfl rfl <|
    aw_if_ge (pc := 13) C (tgt := 18) dK_a_95.2.2.2.2.2.2.2.1 rfl (fun _ =>
    aw_aload_n (pc := 18) C (i := 0) dK_a_96.2.2.1 rfl rfl <|
    aw_getR (pc := 19) C (b := 52) dK_a_96.2.2.2.1 fl_X10_76 sC_0 rfl rC_0_2 <|
    aw_iload_n (pc := 22) C (i := 2) dK_a_96.2.2.2.2.1 rfl rfl <|
    aw_iload_n (pc := 23) C (i := 1) dK_a_96.2.2.2.2.2.1 rfl rfl <|
    aw_iconst (pc := 24) C (v := 0) dK_a_96.2.2.2.2.2.2.1 rfl <|
    aw_callF (pc := 25) C (cr_V (rest := []) (F := (X5_record 52 r1 v1 0)) C (c_X5_record X.2.1 52 (Or.inr (Or.inl rfl)) r1 v1 0) dK_a_96.2.2.2.2.2.2.2.1 mf_X5_record ml_X10_205 im_X5_record se_X5_record (mt_s (Or.inr (Or.inl rfl))) rfl ⟨(Nat.le_of_ble_eq_true rfl), (Nat.le_of_ble_eq_true rfl)⟩ rfl rfl (Nat.le_of_ble_eq_true rfl)) rfl rfl rfl (Nat.zero_le _) (Nat.zero_le _) fun r3 h4 =>
    aw_pop (pc := 28) C dK_a_97.1 rfl <|
    aw_iconst (pc := 29) C (v := 1) dK_a_97.2.1 rfl <|
    aw_zret (pc := 30) C dK_a_97.2.2.1 rfl rfl) (fun _ =>
    aw_iconst (pc := 16) C (v := 0) dK_a_96.1 rfl <|
    aw_zret (pc := 17) C dK_a_96.2.1 rfl rfl)
end
section
abbrev rmX10_comes : Room := { frames := 5, cells := 0, slots := 0, locals := 138 }
def X10_comes (v1 : Int32) (h : AH) : Option (Int32 × AH) :=
    ck v1 96 (vl (h.1 2 v1.toNatClampNeg) fun y1 =>
    if y1 = 102 then (bd (X10_tryComes (-9) h) fun r2 h3 =>
    cz r2 (some (r2, h3)))
    else if y1 = 103 then (bd (X10_number (v1 + 1) 1 h) fun r5 h6 =>
    bd (X10_goOnComes r5 h6) fun r7 h8 =>
    cz r7 (some (r7, h8)))
    else if y1 = 106 then (bd (X10_jumperComes v1 h) fun r10 h11 =>
    cz r10 (some (r10, h11)))
    else if y1 = 110 then (bd (X10_number (v1 + 1) 2 h) fun r13 h14 =>
    bd (X10_stridesCome r13 h14) fun r15 h16 =>
    cz r15 (some (r15, h16)))
    else if y1 = 112 then (bd (X10_tryComes (-8) h) fun r18 h19 =>
    cz r18 (some (r18, h19)))
    else if y1 = 116 then (bd (X10_number (v1 + 1) 2 h) fun r21 h22 =>
    bd (X10_tryComes r21 h22) fun r23 h24 =>
    cz r23 (some (r23, h24)))
    else if y1 = 119 then (bd (X10_isMinus (v1 + 1) h) fun r26 h27 =>
    bd (X10_number (v1 + 2) 1 h27) fun r28 h29 =>
    bd (X10_windComes r26 r28 h29) fun r30 h31 =>
    cz r30 (some (r30, h31)))
    else (cz 0 (some (0, h))))
set_option maxRecDepth 100000 in
theorem c_X10_comes (l : Launch) (v1 : Int32) : MC l yX10_comes cX10_comes 2 (some .boolean) rmX10_comes ZC [.ref 0, .int v1] rvI (X10_comes v1) :=
  MC.of (own := RX10) pn_RX10 rfl (Nat.le_of_ble_eq_true rfl) fun X yd A h _ C =>
    aw_aload_n (pc := 0) C (i := 0) dK_a_57.1 rfl rfl <|
    aw_getR (pc := 1) C (b := 2) dK_a_57.2.1 fl_X10_15 sC_0 rfl rC_0_5 <|
    aw_iload_n (pc := 4) C (i := 1) dK_a_57.2.2.1 rfl rfl <|
    aw_iald (pc := 5) C dK_a_57.2.2.2.1 sC_2 rfl <|
    aw_vlI fun y1 =>
    aw_if (fun c4 => aw_tswA (pc := 6) C (off := 151) (tg := 157) 102 dK_a_57.2.2.2.2.1 (by rw [c4]; rfl) (by decide) (by decide) rfl rfl (aw_aload_n (pc := 157) C (i := 0) dK_a_63.2.2.1 rfl rfl <|
    aw_bipush (pc := 158) C (v := (-9)) dK_a_63.2.2.2.1 rfl <|
    aw_callF (pc := 160) C (cr_V (rest := []) (F := (X10_tryComes (-9))) C (c_X10_tryComes X.2.1 (-9)) dK_a_63.2.2.2.2.1 mf_X10_tryComes ml_X10_154 im_X10_tryComes se_X10_tryComes sC_0 rfl ⟨(Nat.le_of_ble_eq_true rfl), (Nat.le_of_ble_eq_true rfl)⟩ rfl rfl (Nat.le_of_ble_eq_true rfl)) rfl rfl rfl (Nat.zero_le _) (Nat.zero_le _) fun r2 h3 =>
    aw_zret (pc := 163) C dK_a_63.2.2.2.2.2.1 rfl rfl)) (fun c4 =>
    aw_if (fun c9 => aw_tswA (pc := 6) C (off := 119) (tg := 125) 103 dK_a_57.2.2.2.2.1 (by rw [c9]; rfl) (by decide) (by decide) rfl rfl (aw_aload_n (pc := 125) C (i := 0) dK_a_60.2.2.2.2.1 rfl rfl <|
    aw_aload_n (pc := 126) C (i := 0) dK_a_60.2.2.2.2.2.1 rfl rfl <|
    aw_iload_n (pc := 127) C (i := 1) dK_a_60.2.2.2.2.2.2.1 rfl rfl <|
    aw_iconst (pc := 128) C (v := 1) dK_a_60.2.2.2.2.2.2.2.1 rfl <|
    aw_iadd (pc := 129) C dK_a_61.1 <|
    aw_iconst (pc := 130) C (v := 1) dK_a_61.2.1 rfl <|
    aw_callF (pc := 131) C (cr_V (rest := [.ref 0]) (F := (X10_number (v1 + 1) 1)) C (c_X10_number X.2.1 (v1 + 1) 1) dK_a_61.2.2.1 mf_X10_number ml_X10_135 im_X10_number se_X10_number sC_0 rfl ⟨(Nat.le_of_ble_eq_true rfl), (Nat.le_of_ble_eq_true rfl)⟩ rfl rfl (Nat.le_of_ble_eq_true rfl)) rfl rfl rfl (Nat.zero_le _) (Nat.zero_le _) fun r5 h6 =>
    aw_callF (pc := 134) C (cr_V (rest := []) (F := (X10_goOnComes r5)) C (c_X10_goOnComes X.2.1 r5) dK_a_61.2.2.2.1 mf_X10_goOnComes ml_X10_148 im_X10_goOnComes se_X10_goOnComes sC_0 rfl ⟨(Nat.le_of_ble_eq_true rfl), (Nat.le_of_ble_eq_true rfl)⟩ rfl rfl (Nat.le_of_ble_eq_true rfl)) rfl rfl rfl (Nat.zero_le _) (Nat.zero_le _) fun r7 h8 =>
    aw_zret (pc := 137) C dK_a_61.2.2.2.2.1 rfl rfl)) (fun c9 =>
    aw_if (fun c12 => aw_tswA (pc := 6) C (off := 132) (tg := 138) 106 dK_a_57.2.2.2.2.1 (by rw [c12]; rfl) (by decide) (by decide) rfl rfl (aw_aload_n (pc := 138) C (i := 0) dK_a_61.2.2.2.2.2.1 rfl rfl <|
    aw_iload_n (pc := 139) C (i := 1) dK_a_61.2.2.2.2.2.2.1 rfl rfl <|
    aw_callF (pc := 140) C (cr_V (rest := []) (F := (X10_jumperComes v1)) C (c_X10_jumperComes X.2.1 v1) dK_a_61.2.2.2.2.2.2.2.1 mf_X10_jumperComes ml_X10_151 im_X10_jumperComes se_X10_jumperComes sC_0 rfl ⟨(Nat.le_of_ble_eq_true rfl), (Nat.le_of_ble_eq_true rfl)⟩ rfl rfl (Nat.le_of_ble_eq_true rfl)) rfl rfl rfl (Nat.zero_le _) (Nat.zero_le _) fun r10 h11 =>
    aw_zret (pc := 143) C dK_a_62.1 rfl rfl)) (fun c12 =>
    aw_if (fun c17 => aw_tswA (pc := 6) C (off := 86) (tg := 92) 110 dK_a_57.2.2.2.2.1 (by rw [c17]; rfl) (by decide) (by decide) rfl rfl (aw_aload_n (pc := 92) C (i := 0) dK_a_57.2.2.2.2.2.1 rfl rfl <|
    aw_aload_n (pc := 93) C (i := 0) dK_a_57.2.2.2.2.2.2.1 rfl rfl <|
    aw_iload_n (pc := 94) C (i := 1) dK_a_57.2.2.2.2.2.2.2.1 rfl rfl <|
    aw_iconst (pc := 95) C (v := 1) dK_a_58.1 rfl <|
    aw_iadd (pc := 96) C dK_a_58.2.1 <|
    aw_iconst (pc := 97) C (v := 2) dK_a_58.2.2.1 rfl <|
    aw_callF (pc := 98) C (cr_V (rest := [.ref 0]) (F := (X10_number (v1 + 1) 2)) C (c_X10_number X.2.1 (v1 + 1) 2) dK_a_58.2.2.2.1 mf_X10_number ml_X10_135 im_X10_number se_X10_number sC_0 rfl ⟨(Nat.le_of_ble_eq_true rfl), (Nat.le_of_ble_eq_true rfl)⟩ rfl rfl (Nat.le_of_ble_eq_true rfl)) rfl rfl rfl (Nat.zero_le _) (Nat.zero_le _) fun r13 h14 =>
    aw_callF (pc := 101) C (cr_V (rest := []) (F := (X10_stridesCome r13)) C (c_X10_stridesCome X.2.1 r13) dK_a_58.2.2.2.2.1 mf_X10_stridesCome ml_X10_138 im_X10_stridesCome se_X10_stridesCome sC_0 rfl ⟨(Nat.le_of_ble_eq_true rfl), (Nat.le_of_ble_eq_true rfl)⟩ rfl rfl (Nat.le_of_ble_eq_true rfl)) rfl rfl rfl (Nat.zero_le _) (Nat.zero_le _) fun r15 h16 =>
    aw_zret (pc := 104) C dK_a_58.2.2.2.2.2.1 rfl rfl)) (fun c17 =>
    aw_if (fun c20 => aw_tswA (pc := 6) C (off := 158) (tg := 164) 112 dK_a_57.2.2.2.2.1 (by rw [c20]; rfl) (by decide) (by decide) rfl rfl (aw_aload_n (pc := 164) C (i := 0) dK_a_63.2.2.2.2.2.2.1 rfl rfl <|
    aw_bipush (pc := 165) C (v := (-8)) dK_a_63.2.2.2.2.2.2.2.1 rfl <|
    aw_callF (pc := 167) C (cr_V (rest := []) (F := (X10_tryComes (-8))) C (c_X10_tryComes X.2.1 (-8)) dK_a_64.1 mf_X10_tryComes ml_X10_154 im_X10_tryComes se_X10_tryComes sC_0 rfl ⟨(Nat.le_of_ble_eq_true rfl), (Nat.le_of_ble_eq_true rfl)⟩ rfl rfl (Nat.le_of_ble_eq_true rfl)) rfl rfl rfl (Nat.zero_le _) (Nat.zero_le _) fun r18 h19 =>
    aw_zret (pc := 170) C dK_a_64.2.1 rfl rfl)) (fun c20 =>
    aw_if (fun c25 => aw_tswA (pc := 6) C (off := 138) (tg := 144) 116 dK_a_57.2.2.2.2.1 (by rw [c25]; rfl) (by decide) (by decide) rfl rfl (aw_aload_n (pc := 144) C (i := 0) dK_a_62.2.1 rfl rfl <|
    aw_aload_n (pc := 145) C (i := 0) dK_a_62.2.2.1 rfl rfl <|
    aw_iload_n (pc := 146) C (i := 1) dK_a_62.2.2.2.1 rfl rfl <|
    aw_iconst (pc := 147) C (v := 1) dK_a_62.2.2.2.2.1 rfl <|
    aw_iadd (pc := 148) C dK_a_62.2.2.2.2.2.1 <|
    aw_iconst (pc := 149) C (v := 2) dK_a_62.2.2.2.2.2.2.1 rfl <|
    aw_callF (pc := 150) C (cr_V (rest := [.ref 0]) (F := (X10_number (v1 + 1) 2)) C (c_X10_number X.2.1 (v1 + 1) 2) dK_a_62.2.2.2.2.2.2.2.1 mf_X10_number ml_X10_135 im_X10_number se_X10_number sC_0 rfl ⟨(Nat.le_of_ble_eq_true rfl), (Nat.le_of_ble_eq_true rfl)⟩ rfl rfl (Nat.le_of_ble_eq_true rfl)) rfl rfl rfl (Nat.zero_le _) (Nat.zero_le _) fun r21 h22 =>
    aw_callF (pc := 153) C (cr_V (rest := []) (F := (X10_tryComes r21)) C (c_X10_tryComes X.2.1 r21) dK_a_63.1 mf_X10_tryComes ml_X10_154 im_X10_tryComes se_X10_tryComes sC_0 rfl ⟨(Nat.le_of_ble_eq_true rfl), (Nat.le_of_ble_eq_true rfl)⟩ rfl rfl (Nat.le_of_ble_eq_true rfl)) rfl rfl rfl (Nat.zero_le _) (Nat.zero_le _) fun r23 h24 =>
    aw_zret (pc := 156) C dK_a_63.2.1 rfl rfl)) (fun c25 =>
    aw_if (fun c32 => aw_tswA (pc := 6) C (off := 99) (tg := 105) 119 dK_a_57.2.2.2.2.1 (by rw [c32]; rfl) (by decide) (by decide) rfl rfl (aw_aload_n (pc := 105) C (i := 0) dK_a_58.2.2.2.2.2.2.1 rfl rfl <|
    aw_aload_n (pc := 106) C (i := 0) dK_a_58.2.2.2.2.2.2.2.1 rfl rfl <|
    aw_iload_n (pc := 107) C (i := 1) dK_a_59.1 rfl rfl <|
    aw_iconst (pc := 108) C (v := 1) dK_a_59.2.1 rfl <|
    aw_iadd (pc := 109) C dK_a_59.2.2.1 <|
    aw_callF (pc := 110) C (cr_V (rest := [.ref 0]) (F := (X10_isMinus (v1 + 1))) C (c_X10_isMinus X.2.1 (v1 + 1)) dK_a_59.2.2.2.1 mf_X10_isMinus ml_X10_141 im_X10_isMinus se_X10_isMinus sC_0 rfl ⟨(Nat.le_of_ble_eq_true rfl), (Nat.le_of_ble_eq_true rfl)⟩ rfl rfl (Nat.le_of_ble_eq_true rfl)) rfl rfl rfl (Nat.zero_le _) (Nat.zero_le _) fun r26 h27 =>
    aw_aload_n (pc := 113) C (i := 0) dK_a_59.2.2.2.2.1 rfl rfl <|
    aw_iload_n (pc := 114) C (i := 1) dK_a_59.2.2.2.2.2.1 rfl rfl <|
    aw_iconst (pc := 115) C (v := 2) dK_a_59.2.2.2.2.2.2.1 rfl <|
    aw_iadd (pc := 116) C dK_a_59.2.2.2.2.2.2.2.1 <|
    aw_iconst (pc := 117) C (v := 1) dK_a_60.1 rfl <|
    aw_callF (pc := 118) C (cr_V (rest := [.int r26, .ref 0]) (F := (X10_number (v1 + 2) 1)) C (c_X10_number X.2.1 (v1 + 2) 1) dK_a_60.2.1 mf_X10_number ml_X10_135 im_X10_number se_X10_number sC_0 rfl ⟨(Nat.le_of_ble_eq_true rfl), (Nat.le_of_ble_eq_true rfl)⟩ rfl rfl (Nat.le_of_ble_eq_true rfl)) rfl rfl rfl (Nat.zero_le _) (Nat.zero_le _) fun r28 h29 =>
    aw_callF (pc := 121) C (cr_V (rest := []) (F := (X10_windComes r26 r28)) C (c_X10_windComes X.2.1 r26 r28) dK_a_60.2.2.1 mf_X10_windComes ml_X10_144 im_X10_windComes se_X10_windComes sC_0 rfl ⟨(Nat.le_of_ble_eq_true rfl), (Nat.le_of_ble_eq_true rfl)⟩ rfl rfl (Nat.le_of_ble_eq_true rfl)) rfl rfl rfl (Nat.zero_le _) (Nat.zero_le _) fun r30 h31 =>
    aw_zret (pc := 124) C dK_a_60.2.2.2.1 rfl rfl)) (fun c32 =>
    aw_tswD (pc := 6) C (N := 18) (td := 171) [102, 103, 106, 110, 112, 116, 119] dK_a_57.2.2.2.2.1 (List.forall_mem_cons.mpr ⟨ti_ne c4 rfl, List.forall_mem_cons.mpr ⟨ti_ne c9 rfl, List.forall_mem_cons.mpr ⟨ti_ne c12 rfl, List.forall_mem_cons.mpr ⟨ti_ne c17 rfl, List.forall_mem_cons.mpr ⟨ti_ne c20 rfl, List.forall_mem_cons.mpr ⟨ti_ne c25 rfl, List.forall_mem_cons.mpr ⟨ti_ne c32 rfl, fun _ hz => by cases hz⟩⟩⟩⟩⟩⟩⟩) rfl (by decide) rfl (aw_iconst (pc := 171) C (v := 0) dK_a_64.2.2.1 rfl <|
    aw_zret (pc := 172) C dK_a_64.2.2.2.1 rfl rfl))))))))

abbrev rmX10_span : Room := { frames := 1, cells := 0, slots := 0, locals := 20 }
def X10_span_j14  (v0 : Int32) (s0 : Int32) (h : AH) : Option (Int32 × AH) :=
    if v0 = 119 then (some ((s0 + 3), h))
    else (some ((s0 + 2), h))
set_option maxRecDepth 100000 in
theorem aX10_span_j14 {X : MCx} {yd : Dyn} {A : Nat → Prop} (C : OK X cX10_span RX10 2 (some .int) rmX10_span A)  (v0 : Int32) (s0 : Int32) (h : AH) : AW X 2 ZC yd A 0 0 (QF X rmX10_span ZC yd rvI A) 14 [(0, .int v0)] [.int s0] h (X10_span_j14 v0 s0 h) := by
    exact aw_iload_n (pc := 14) C (i := 0) dK_a_51.1 rfl rfl <|
    aw_bipush (pc := 15) C (v := 119) dK_a_51.2.1 rfl <|
    aw_icmp_ne (pc := 17) C (tgt := 24) dK_a_51.2.2.1 rfl (fun _ =>
    aw_iconst (pc := 20) C (v := 3) dK_a_51.2.2.2.1 rfl <|
    aw_goto (pc := 21) C (tgt := 25) dK_a_51.2.2.2.2.1 rfl <|
    aw_iadd (pc := 25) C dK_a_51.2.2.2.2.2.2.1 <|
    aw_iret (pc := 26) C dK_a_51.2.2.2.2.2.2.2.1 rfl rfl) (fun _ =>
    aw_iconst (pc := 24) C (v := 2) dK_a_51.2.2.2.2.2.1 rfl <|
    aw_iadd (pc := 25) C dK_a_51.2.2.2.2.2.2.1 <|
    aw_iret (pc := 26) C dK_a_51.2.2.2.2.2.2.2.1 rfl rfl)
def X10_span (v0 : Int32) (h : AH) : Option (Int32 × AH) :=
    bd (X10_digitsBehind v0 h) fun r1 h2 =>
    if 0 ≤ r1 then (X10_span_j14 v0 r1 h2)
    else (X10_span_j14 v0 0 h2)
set_option maxRecDepth 100000 in
theorem c_X10_span (l : Launch) (v0 : Int32) : MC l yX10_span cX10_span 2 (some .int) rmX10_span ZC [.int v0] rvI (X10_span v0) :=
  MC.of (own := RX10) pn_RX10 rfl (Nat.le_of_ble_eq_true rfl) fun X yd A h _ C =>
    aw_iload_n (pc := 0) C (i := 0) dK_a_50.1 rfl rfl <|
    aw_callF (pc := 1) C (cr_S (rest := []) (F := (X10_digitsBehind v0)) C (c_X10_digitsBehind X.2.1 v0) dK_a_50.2.1 mf_X10_digitsBehind ml_X10_125 st_X10_digitsBehind ⟨(Nat.le_of_ble_eq_true rfl), (Nat.le_of_ble_eq_true rfl)⟩ rfl rfl (Nat.le_of_ble_eq_true rfl)) rfl rfl rfl (Nat.zero_le _) (Nat.zero_le _) fun r1 h2 =>
    aw_istore_n (pc := 4) C (i := 1) (lv' := [(0, .int v0), (1, .int r1)]) dK_a_50.2.2.1 rfl (by decide) rfl <|
    aw_iload_n (pc := 5) C (i := 1) dK_a_50.2.2.2.1 rfl rfl <|
    aw_if_ge (pc := 6) C (tgt := 13) dK_a_50.2.2.2.2.1 rfl (fun _ =>
    aw_iload_n (pc := 13) C (i := 1) dK_a_50.2.2.2.2.2.2.2.1 rfl rfl <|
    aw_drop [0] (aX10_span_j14 C v0 r1 h2)) (fun _ =>
    aw_iconst (pc := 9) C (v := 0) dK_a_50.2.2.2.2.2.1 rfl <|
    aw_goto (pc := 10) C (tgt := 14) dK_a_50.2.2.2.2.2.2.1 rfl <|
    aw_drop [0] (aX10_span_j14 C v0 0 h2))

abbrev rmX10_statementsInMind : Room := { frames := 6, cells := 0, slots := 0, locals := 159 }
def X10_statementsInMind_l15  : Nat → Int32 → Int32 → AH → Option (Int32 × AH)
  | 0, _, _, _ => none
  | n + 1, v1, v2, h =>
    if (h.1 0 6) ≤ v2 then (some (v1, h))
    else (bd (X10_comes v2 h) fun r3 h4 =>
    if r3 = 0 then (some (((-2000) - v2), h4))
    else (vl (v1 + 1) fun x5 =>
    ck v2 96 (bd (X10_span (h4.1 2 v2.toNatClampNeg) h4) fun r6 h7 =>
    vl (v2 + r6) fun x8 =>
    (X10_statementsInMind_l15 n) x5 x8 h7)))
set_option maxRecDepth 100000 in
theorem aX10_statementsInMind_l15 {X : MCx} {yd : Dyn} {A : Nat → Prop} (C : OK X cX10_statementsInMind RX10 3 (some .int) rmX10_statementsInMind A)  : ∀ (n : Nat) (v1 : Int32) (v2 : Int32) (h : AH), AW X 3 ZC yd A 0 0 (QF X rmX10_statementsInMind ZC yd rvI A) 15 [(0, .ref 0), (1, .int v1), (2, .int v2)] [] h (X10_statementsInMind_l15 n v1 v2 h) := by
  intro n
  induction n with
  | zero => intro v1 v2 h; exact aw_none
  | succ n ih =>
    intro v1 v2 h
    exact aw_iload_n (pc := 15) C (i := 2) dK_a_53.2.1 rfl rfl <|
    aw_aload_n (pc := 16) C (i := 0) dK_a_53.2.2.1 rfl rfl <|
    aw_getI (pc := 17) C dK_a_53.2.2.2.1 fl_X10_108 sC_0 rfl <|
    aw_icmp_ge (pc := 20) C (tgt := 55) dK_a_53.2.2.2.2.1 rfl (fun _ =>
    aw_iload_n (pc := 55) C (i := 1) dK_a_55.2.2.2.2.2.2.2.1 rfl rfl <|
    aw_iret (pc := 56) C dK_a_56.1 rfl rfl) (fun _ =>
    aw_aload_n (pc := 23) C (i := 0) dK_a_53.2.2.2.2.2.1 rfl rfl <|
    aw_iload_n (pc := 24) C (i := 2) dK_a_53.2.2.2.2.2.2.1 rfl rfl <|
    aw_callF (pc := 25) C (cr_V (rest := []) (F := (X10_comes v2)) C (c_X10_comes X.2.1 v2) dK_a_53.2.2.2.2.2.2.2.1 mf_X10_comes ml_X10_128 im_X10_comes se_X10_comes sC_0 rfl ⟨(Nat.le_of_ble_eq_true rfl), (Nat.le_of_ble_eq_true rfl)⟩ rfl rfl (Nat.le_of_ble_eq_true rfl)) rfl rfl rfl (Nat.zero_le _) (Nat.zero_le _) fun r3 h4 =>
    aw_if_ne (pc := 28) C (tgt := 37) dK_a_54.1 rfl (fun _ =>
    aw_sipush (pc := 31) C (v := (-2000)) dK_a_54.2.1 rfl <|
    aw_iload_n (pc := 34) C (i := 2) dK_a_54.2.2.1 rfl rfl <|
    aw_isub (pc := 35) C dK_a_54.2.2.2.1 <|
    aw_iret (pc := 36) C dK_a_54.2.2.2.2.1 rfl rfl) (fun _ =>
    aw_iincV (pc := 37) C (i := 1) (cst := 1) (fun x5 => [(0, .ref 0), (1, .int x5), (2, .int v2)]) dK_a_54.2.2.2.2.2.1 rfl rfl (by decide) (fun _ => rfl) fun x5 =>
    aw_iload_n (pc := 40) C (i := 2) dK_a_54.2.2.2.2.2.2.1 rfl rfl <|
    aw_aload_n (pc := 41) C (i := 0) dK_a_54.2.2.2.2.2.2.2.1 rfl rfl <|
    aw_getR (pc := 42) C (b := 2) dK_a_55.1 fl_X10_15 sC_0 rfl rC_0_5 <|
    aw_iload_n (pc := 45) C (i := 2) dK_a_55.2.1 rfl rfl <|
    aw_iald (pc := 46) C dK_a_55.2.2.1 sC_2 rfl <|
    aw_callF (pc := 47) C (cr_S (rest := [.int v2]) (F := (X10_span (h4.1 2 v2.toNatClampNeg))) C (c_X10_span X.2.1 (h4.1 2 v2.toNatClampNeg)) dK_a_55.2.2.2.1 mf_X10_span ml_X10_132 st_X10_span ⟨(Nat.le_of_ble_eq_true rfl), (Nat.le_of_ble_eq_true rfl)⟩ rfl rfl (Nat.le_of_ble_eq_true rfl)) rfl rfl rfl (Nat.zero_le _) (Nat.zero_le _) fun r6 h7 =>
    aw_iadd (pc := 50) C dK_a_55.2.2.2.2.1 <|
    aw_istoreV_n (pc := 51) C (i := 2) (fun x8 => [(0, .ref 0), (1, .int x5), (2, .int x8)]) dK_a_55.2.2.2.2.2.1 rfl (by decide) (fun _ => rfl) fun x8 =>
    aw_goto (pc := 52) C (tgt := 15) dK_a_55.2.2.2.2.2.2.1 rfl <|
    (ih x5 x8 h7)))
def X10_statementsInMind  (h : AH) : Option (Int32 × AH) :=
    bd (X5_copyFrom 52 42 h) fun _ h2 =>
    X10_statementsInMind_l15 FU 0 0 h2
set_option maxRecDepth 100000 in
theorem c_X10_statementsInMind (l : Launch)  : MC l yX10_statementsInMind cX10_statementsInMind 3 (some .int) rmX10_statementsInMind ZC [.ref 0] rvI (X10_statementsInMind) :=
  MC.of (own := RX10) pn_RX10 rfl (Nat.le_of_ble_eq_true rfl) fun X yd A h _ C =>
    aw_aload_n (pc := 0) C (i := 0) dK_a_52.1 rfl rfl <|
    aw_getR (pc := 1) C (b := 52) dK_a_52.2.1 fl_X10_76 sC_0 rfl rC_0_2 <|
    aw_aload_n (pc := 4) C (i := 0) dK_a_52.2.2.1 rfl rfl <|
    aw_getR (pc := 5) C (b := 42) dK_a_52.2.2.2.1 fl_X10_72 sC_0 rfl rC_0_1 <|
    aw_callF (pc := 8) C (cr_V (rest := []) (F := (X5_copyFrom 52 42)) C (c_X5_copyFrom X.2.1 52 (Or.inr (Or.inl rfl)) 42 (Or.inl rfl)) dK_a_52.2.2.2.2.1 mf_X5_copyFrom ml_X10_121 im_X5_copyFrom se_X5_copyFrom (mt_s (Or.inr (Or.inl rfl))) rfl ⟨(Nat.le_of_ble_eq_true rfl), (Nat.le_of_ble_eq_true rfl)⟩ rfl rfl (Nat.le_of_ble_eq_true rfl)) rfl rfl rfl (Nat.zero_le _) (Nat.zero_le _) fun _ h2 =>
    aw_iconst (pc := 11) C (v := 0) dK_a_52.2.2.2.2.2.1 rfl <|
    aw_istore_n (pc := 12) C (i := 1) (lv' := [(0, .ref 0), (1, .int 0)]) dK_a_52.2.2.2.2.2.2.1 rfl (by decide) rfl <|
    aw_iconst (pc := 13) C (v := 0) dK_a_52.2.2.2.2.2.2.2.1 rfl <|
    aw_istore_n (pc := 14) C (i := 2) (lv' := [(0, .ref 0), (1, .int 0), (2, .int 0)]) dK_a_53.1 rfl (by decide) rfl <|
    (aX10_statementsInMind_l15 C FU 0 0 h2)

abbrev rmX10_ground : Room := { frames := 7, cells := 0, slots := 0, locals := 181 }
def X10_ground_j22  (s0 : Int32) (h : AH) : Option (Int32 × AH) :=
    vl (sI h 0 6 0) fun h5 =>
    if s0 < 0 then (some (s0, h5))
    else (bd (X5_copyFrom 42 52 h5) fun _ h7 =>
    some (s0, h7))
set_option maxRecDepth 100000 in
theorem aX10_ground_j22 {X : MCx} {yd : Dyn} {A : Nat → Prop} (C : OK X cX10_ground RX10 3 (some .int) rmX10_ground A)  (s0 : Int32) (h : AH) : AW X 3 ZC yd A 0 0 (QF X rmX10_ground ZC yd rvI A) 22 [(0, .ref 0)] [.int s0] h (X10_ground_j22 s0 h) := by
    exact aw_istore_n (pc := 22) C (i := 2) (lv' := [(0, .ref 0), (2, .int s0)]) dK_a_35.2.2.2.2.1 rfl (by decide) rfl <|
    aw_aload_n (pc := 23) C (i := 0) dK_a_35.2.2.2.2.2.1 rfl rfl <|
    aw_iconst (pc := 24) C (v := 0) dK_a_35.2.2.2.2.2.2.1 rfl <|
    aw_putI (pc := 25) C dK_a_35.2.2.2.2.2.2.2.1 fp_X10_108 sC_0 rfl fun h5 =>
    aw_iload_n (pc := 28) C (i := 2) dK_a_36.1 rfl rfl <|
    aw_if_lt (pc := 29) C (tgt := 43) dK_a_36.2.1 rfl (fun _ =>
    aw_iload_n (pc := 43) C (i := 2) dK_a_36.2.2.2.2.2.2.2.1 rfl rfl <|
    aw_iret (pc := 44) C dK_a_37.1 rfl rfl) (fun _ =>
    aw_aload_n (pc := 32) C (i := 0) dK_a_36.2.2.1 rfl rfl <|
    aw_getR (pc := 33) C (b := 42) dK_a_36.2.2.2.1 fl_X10_72 sC_0 rfl rC_0_1 <|
    aw_aload_n (pc := 36) C (i := 0) dK_a_36.2.2.2.2.1 rfl rfl <|
    aw_getR (pc := 37) C (b := 52) dK_a_36.2.2.2.2.2.1 fl_X10_76 sC_0 rfl rC_0_2 <|
    aw_callF (pc := 40) C (cr_V (rest := []) (F := (X5_copyFrom 42 52)) C (c_X5_copyFrom X.2.1 42 (Or.inl rfl) 52 (Or.inr (Or.inl rfl))) dK_a_36.2.2.2.2.2.2.1 mf_X5_copyFrom ml_X10_121 im_X5_copyFrom se_X5_copyFrom (mt_s (Or.inl rfl)) rfl ⟨(Nat.le_of_ble_eq_true rfl), (Nat.le_of_ble_eq_true rfl)⟩ rfl rfl (Nat.le_of_ble_eq_true rfl)) rfl rfl rfl (Nat.zero_le _) (Nat.zero_le _) fun _ h7 =>
    aw_iload_n (pc := 43) C (i := 2) dK_a_36.2.2.2.2.2.2.2.1 rfl rfl <|
    aw_iret (pc := 44) C dK_a_37.1 rfl rfl)
def X10_ground  (h : AH) : Option (Int32 × AH) :=
    bd (X10_firstBadLetter h) fun r1 h2 =>
    if r1 = (-1) then (bd (X10_statementsInMind h2) fun r3 h4 =>
    X10_ground_j22 r3 h4)
    else (X10_ground_j22 ((-1000) - r1) h2)
set_option maxRecDepth 100000 in
theorem c_X10_ground (l : Launch)  : MC l yX10_ground cX10_ground 3 (some .int) rmX10_ground ZC [.ref 0] rvI (X10_ground) :=
  MC.of (own := RX10) pn_RX10 rfl (Nat.le_of_ble_eq_true rfl) fun X yd A h _ C =>
    aw_aload_n (pc := 0) C (i := 0) dK_a_34.1 rfl rfl <|
    aw_callF (pc := 1) C (cr_V (rest := []) (F := X10_firstBadLetter) C (c_X10_firstBadLetter X.2.1 ) dK_a_34.2.1 mf_X10_firstBadLetter ml_X10_114 im_X10_firstBadLetter se_X10_firstBadLetter sC_0 rfl ⟨(Nat.le_of_ble_eq_true rfl), (Nat.le_of_ble_eq_true rfl)⟩ rfl rfl (Nat.le_of_ble_eq_true rfl)) rfl rfl rfl (Nat.zero_le _) (Nat.zero_le _) fun r1 h2 =>
    aw_istore_n (pc := 4) C (i := 1) (lv' := [(0, .ref 0), (1, .int r1)]) dK_a_34.2.2.1 rfl (by decide) rfl <|
    aw_iload_n (pc := 5) C (i := 1) dK_a_34.2.2.2.1 rfl rfl <|
    aw_iconst (pc := 6) C (v := (-1)) dK_a_34.2.2.2.2.1 rfl <|
    aw_icmp_eq (pc := 7) C (tgt := 18) dK_a_34.2.2.2.2.2.1 rfl (fun _ =>
    aw_aload_n (pc := 18) C (i := 0) dK_a_35.2.2.1 rfl rfl <|
    aw_callF (pc := 19) C (cr_V (rest := []) (F := X10_statementsInMind) C (c_X10_statementsInMind X.2.1 ) dK_a_35.2.2.2.1 mf_X10_statementsInMind ml_X10_118 im_X10_statementsInMind se_X10_statementsInMind sC_0 rfl ⟨(Nat.le_of_ble_eq_true rfl), (Nat.le_of_ble_eq_true rfl)⟩ rfl rfl (Nat.le_of_ble_eq_true rfl)) rfl rfl rfl (Nat.zero_le _) (Nat.zero_le _) fun r3 h4 =>
    aw_drop [0] (aX10_ground_j22 C r3 h4)) (fun _ =>
    aw_sipush (pc := 10) C (v := (-1000)) dK_a_34.2.2.2.2.2.2.1 rfl <|
    aw_iload_n (pc := 13) C (i := 1) dK_a_34.2.2.2.2.2.2.2.1 rfl rfl <|
    aw_isub (pc := 14) C dK_a_35.1 <|
    aw_goto (pc := 15) C (tgt := 22) dK_a_35.2.1 rfl <|
    aw_drop [0] (aX10_ground_j22 C ((-1000) - r1) h2))

abbrev rmX10_jumper : Room := { frames := 4, cells := 0, slots := 0, locals := 90 }
def X10_jumper (v1 : Int32) (v2 : Int32) (h : AH) : Option (Int32 × AH) :=
    bd (X10_nobody v1 h) fun r1 h2 =>
    bd (X10_noSuch v2 11 h2) fun r3 h4 =>
    bd (X10_first r1 r3 h4) fun r5 h6 =>
    if r5 = 0 then (if 9 ≤ v2 then (if v2 = 11 then (bd (X5_triesOf 42 v1 h6) fun r13 h14 =>
    some (r13, h14))
    else (bd (X5_rank 42 0 (h6.1 42 4) h6) fun _ h8 =>
    if v2 = 9 then (bd (X6_longest v1 h8) fun r11 h12 =>
    some (r11, h12))
    else (bd (X6_secondLongest v1 h8) fun r9 h10 =>
    some (r9, h10))))
    else (bd (X5_at 42 v1 h6) fun r15 h16 =>
    cs ZC r15 (.inr 2) (bd (X2_property r15 v2 h16) fun r18 h19 =>
    some (r18, h19))))
    else (bd (X10_refuse r5 h6) fun r20 h21 =>
    some (r20, h21))
set_option maxRecDepth 100000 in
theorem c_X10_jumper (l : Launch) (v1 : Int32) (v2 : Int32) : MC l yX10_jumper cX10_jumper 4 (some .int) rmX10_jumper ZC [.ref 0, .int v1, .int v2] rvI (X10_jumper v1 v2) :=
  MC.of (own := RX10) pn_RX10 rfl (Nat.le_of_ble_eq_true rfl) fun X yd A h _ C =>
    aw_aload_n (pc := 0) C (i := 0) dK_a_98.1 rfl rfl <|
    aw_iload_n (pc := 1) C (i := 1) dK_a_98.2.1 rfl rfl <|
    aw_callF (pc := 2) C (cr_V (rest := []) (F := (X10_nobody v1)) C (c_X10_nobody X.2.1 v1) dK_a_98.2.2.1 mf_X10_nobody ml_X10_93 im_X10_nobody se_X10_nobody sC_0 rfl ⟨(Nat.le_of_ble_eq_true rfl), (Nat.le_of_ble_eq_true rfl)⟩ rfl rfl (Nat.le_of_ble_eq_true rfl)) rfl rfl rfl (Nat.zero_le _) (Nat.zero_le _) fun r1 h2 =>
    aw_iload_n (pc := 5) C (i := 2) dK_a_98.2.2.2.1 rfl rfl <|
    aw_bipush (pc := 6) C (v := 11) dK_a_98.2.2.2.2.1 rfl <|
    aw_callF (pc := 8) C (cr_S (rest := [.int r1]) (F := (X10_noSuch v2 11)) C (c_X10_noSuch X.2.1 v2 11) dK_a_98.2.2.2.2.2.1 mf_X10_noSuch ml_X10_101 st_X10_noSuch ⟨(Nat.le_of_ble_eq_true rfl), (Nat.le_of_ble_eq_true rfl)⟩ rfl rfl (Nat.le_of_ble_eq_true rfl)) rfl rfl rfl (Nat.zero_le _) (Nat.zero_le _) fun r3 h4 =>
    aw_callF (pc := 11) C (cr_S (rest := []) (F := (X10_first r1 r3)) C (c_X10_first X.2.1 r1 r3) dK_a_98.2.2.2.2.2.2.1 mf_X10_first ml_X10_97 st_X10_first ⟨(Nat.le_of_ble_eq_true rfl), (Nat.le_of_ble_eq_true rfl)⟩ rfl rfl (Nat.le_of_ble_eq_true rfl)) rfl rfl rfl (Nat.zero_le _) (Nat.zero_le _) fun r5 h6 =>
    aw_istore_n (pc := 14) C (i := 3) (lv' := [(0, .ref 0), (1, .int v1), (2, .int v2), (3, .int r5)]) dK_a_98.2.2.2.2.2.2.2.1 rfl (by decide) rfl <|
    aw_iload_n (pc := 15) C (i := 3) dK_a_99.1 rfl rfl <|
    aw_if_eq (pc := 16) C (tgt := 25) dK_a_99.2.1 rfl (fun _ =>
    aw_iload_n (pc := 25) C (i := 2) dK_a_99.2.2.2.2.2.2.1 rfl rfl <|
    aw_bipush (pc := 26) C (v := 9) dK_a_99.2.2.2.2.2.2.2.1 rfl <|
    aw_icmp_ge (pc := 28) C (tgt := 44) dK_a_100.1 rfl (fun _ =>
    aw_iload_n (pc := 44) C (i := 2) dK_a_101.1 rfl rfl <|
    aw_bipush (pc := 45) C (v := 11) dK_a_101.2.1 rfl <|
    aw_icmp_ne (pc := 47) C (tgt := 59) dK_a_101.2.2.1 rfl (fun _ =>
    aw_aload_n (pc := 50) C (i := 0) dK_a_101.2.2.2.1 rfl rfl <|
    aw_getR (pc := 51) C (b := 42) dK_a_101.2.2.2.2.1 fl_X10_72 sC_0 rfl rC_0_1 <|
    aw_iload_n (pc := 54) C (i := 1) dK_a_101.2.2.2.2.2.1 rfl rfl <|
    aw_callF (pc := 55) C (cr_V (rest := []) (F := (X5_triesOf 42 v1)) C (c_X5_triesOf X.2.1 42 (Or.inl rfl) v1) dK_a_101.2.2.2.2.2.2.1 mf_X5_triesOf ml_X10_211 im_X5_triesOf se_X5_triesOf (mt_s (Or.inl rfl)) rfl ⟨(Nat.le_of_ble_eq_true rfl), (Nat.le_of_ble_eq_true rfl)⟩ rfl rfl (Nat.le_of_ble_eq_true rfl)) rfl rfl rfl (Nat.zero_le _) (Nat.zero_le _) fun r13 h14 =>
    aw_iret (pc := 58) C dK_a_101.2.2.2.2.2.2.2.1 rfl rfl) (fun _ =>
    aw_aload_n (pc := 59) C (i := 0) dK_a_102.1 rfl rfl <|
    aw_getR (pc := 60) C (b := 42) dK_a_102.2.1 fl_X10_72 sC_0 rfl rC_0_1 <|
    aw_aload_n (pc := 63) C (i := 0) dK_a_102.2.2.1 rfl rfl <|
    aw_getR (pc := 64) C (b := 5) dK_a_102.2.2.2.1 fl_X10_28 sC_0 rfl rC_0_10 <|
    aw_iconst (pc := 67) C (v := 0) dK_a_102.2.2.2.2.1 rfl <|
    aw_aload_n (pc := 68) C (i := 0) dK_a_102.2.2.2.2.2.1 rfl rfl <|
    aw_getR (pc := 69) C (b := 42) dK_a_102.2.2.2.2.2.2.1 fl_X10_72 sC_0 rfl rC_0_1 <|
    aw_getI (pc := 72) C dK_a_102.2.2.2.2.2.2.2.1 fl_X10_160 (mt_s (Or.inl rfl)) rfl <|
    aw_callF (pc := 75) C (cr_V (rest := []) (F := (X5_rank 42 0 (h6.1 42 4))) C (c_X5_rank X.2.1 42 (Or.inl rfl) 0 (h6.1 42 4)) dK_a_103.1 mf_X5_rank ml_X10_214 im_X5_rank se_X5_rank (mt_s (Or.inl rfl)) rfl ⟨(Nat.le_of_ble_eq_true rfl), (Nat.le_of_ble_eq_true rfl)⟩ rfl rfl (Nat.le_of_ble_eq_true rfl)) rfl rfl rfl (Nat.zero_le _) (Nat.zero_le _) fun _ h8 =>
    aw_iload_n (pc := 78) C (i := 2) dK_a_103.2.1 rfl rfl <|
    aw_bipush (pc := 79) C (v := 9) dK_a_103.2.2.1 rfl <|
    aw_icmp_ne (pc := 81) C (tgt := 95) dK_a_103.2.2.2.1 rfl (fun _ =>
    aw_aload_n (pc := 84) C (i := 0) dK_a_103.2.2.2.2.1 rfl rfl <|
    aw_getR (pc := 85) C (b := 5) dK_a_103.2.2.2.2.2.1 fl_X10_28 sC_0 rfl rC_0_10 <|
    aw_iload_n (pc := 88) C (i := 1) dK_a_103.2.2.2.2.2.2.1 rfl rfl <|
    aw_callF (pc := 89) C (cr_V (rest := []) (F := (X6_longest v1)) C (c_X6_longest X.2.1 v1) dK_a_103.2.2.2.2.2.2.2.1 mf_X6_longest ml_X10_218 im_X6_longest se_X6_longest sC_5 rfl ⟨(Nat.le_of_ble_eq_true rfl), (Nat.le_of_ble_eq_true rfl)⟩ rfl rfl (Nat.le_of_ble_eq_true rfl)) rfl rfl rfl (Nat.zero_le _) (Nat.zero_le _) fun r11 h12 =>
    aw_goto (pc := 92) C (tgt := 103) dK_a_104.1 rfl <|
    aw_iret (pc := 103) C dK_a_104.2.2.2.2.2.1 rfl rfl) (fun _ =>
    aw_aload_n (pc := 95) C (i := 0) dK_a_104.2.1 rfl rfl <|
    aw_getR (pc := 96) C (b := 5) dK_a_104.2.2.1 fl_X10_28 sC_0 rfl rC_0_10 <|
    aw_iload_n (pc := 99) C (i := 1) dK_a_104.2.2.2.1 rfl rfl <|
    aw_callF (pc := 100) C (cr_V (rest := []) (F := (X6_secondLongest v1)) C (c_X6_secondLongest X.2.1 v1) dK_a_104.2.2.2.2.1 mf_X6_secondLongest ml_X10_221 im_X6_secondLongest se_X6_secondLongest sC_5 rfl ⟨(Nat.le_of_ble_eq_true rfl), (Nat.le_of_ble_eq_true rfl)⟩ rfl rfl (Nat.le_of_ble_eq_true rfl)) rfl rfl rfl (Nat.zero_le _) (Nat.zero_le _) fun r9 h10 =>
    aw_iret (pc := 103) C dK_a_104.2.2.2.2.2.1 rfl rfl))) (fun _ =>
    aw_aload_n (pc := 31) C (i := 0) dK_a_100.2.1 rfl rfl <|
    aw_getR (pc := 32) C (b := 42) dK_a_100.2.2.1 fl_X10_72 sC_0 rfl rC_0_1 <|
    aw_iload_n (pc := 35) C (i := 1) dK_a_100.2.2.2.1 rfl rfl <|
    aw_callF (pc := 36) C (cr_V (rest := []) (F := (X5_at 42 v1)) C (c_X5_at X.2.1 42 (Or.inl rfl) v1) dK_a_100.2.2.2.2.1 mf_X5_at ml_X10_169 im_X5_at se_X5_at (mt_s (Or.inl rfl)) rfl ⟨(Nat.le_of_ble_eq_true rfl), (Nat.le_of_ble_eq_true rfl)⟩ rfl rfl (Nat.le_of_ble_eq_true rfl)) rfl rfl rfl (Nat.zero_le _) (Nat.zero_le _) fun r15 h16 =>
    aw_cs fun hs17 =>
    aw_iload_n (pc := 39) C (i := 2) dK_a_100.2.2.2.2.2.1 rfl rfl <|
    aw_callF (pc := 40) C (cr_V (rest := []) (F := (X2_property r15 v2)) C (c_X2_property X.2.1 r15 hs17 v2) dK_a_100.2.2.2.2.2.2.1 mf_X2_property ml_X10_208 im_X2_property se_X2_property hs17 rfl ⟨(Nat.le_of_ble_eq_true rfl), (Nat.le_of_ble_eq_true rfl)⟩ rfl rfl (Nat.le_of_ble_eq_true rfl)) rfl rfl rfl (Nat.zero_le _) (Nat.zero_le _) fun r18 h19 =>
    aw_iret (pc := 43) C dK_a_100.2.2.2.2.2.2.2.1 rfl rfl)) (fun _ =>
    aw_aload_n (pc := 19) C (i := 0) dK_a_99.2.2.1 rfl rfl <|
    aw_iload_n (pc := 20) C (i := 3) dK_a_99.2.2.2.1 rfl rfl <|
    aw_callF (pc := 21) C (cr_V (rest := []) (F := (X10_refuse r5)) C (c_X10_refuse X.2.1 r5) dK_a_99.2.2.2.2.1 mf_X10_refuse ml_X10_111 im_X10_refuse se_X10_refuse sC_0 rfl ⟨(Nat.le_of_ble_eq_true rfl), (Nat.le_of_ble_eq_true rfl)⟩ rfl rfl (Nat.le_of_ble_eq_true rfl)) rfl rfl rfl (Nat.zero_le _) (Nat.zero_le _) fun r20 h21 =>
    aw_iret (pc := 24) C dK_a_99.2.2.2.2.2.1 rfl rfl)

abbrev rmX10_mark : Room := { frames := 1, cells := 0, slots := 0, locals := 22 }
def X10_mark (v1 : Int32) (v2 : Int32) (h : AH) : Option (Int32 × AH) :=
    bd (X10_nobody v1 h) fun r1 h2 =>
    bd (X10_outside v2 0 2400 h2) fun r3 h4 =>
    bd (X10_first r1 r3 h4) fun r5 h6 =>
    if r5 = 0 then (bd (X5_at 42 v1 h6) fun r7 h8 =>
    cs ZC r7 (.inr 2) (vl (h8.1 r7 8) fun x10 =>
    bd (X5_at 42 v1 h8) fun r11 h12 =>
    cs ZC r11 (.inr 2) (vl (sI h12 r11 8 v2) fun h14 =>
    some (x10, h14))))
    else (bd (X10_refuse r5 h6) fun r15 h16 =>
    some (r15, h16))
set_option maxRecDepth 100000 in
theorem c_X10_mark (l : Launch) (v1 : Int32) (v2 : Int32) : MC l yX10_mark cX10_mark 5 (some .int) rmX10_mark ZC [.ref 0, .int v1, .int v2] rvI (X10_mark v1 v2) :=
  MC.of (own := RX10) pn_RX10 rfl (Nat.le_of_ble_eq_true rfl) fun X yd A h _ C =>
    aw_aload_n (pc := 0) C (i := 0) dK_a_105.1 rfl rfl <|
    aw_iload_n (pc := 1) C (i := 1) dK_a_105.2.1 rfl rfl <|
    aw_callF (pc := 2) C (cr_V (rest := []) (F := (X10_nobody v1)) C (c_X10_nobody X.2.1 v1) dK_a_105.2.2.1 mf_X10_nobody ml_X10_93 im_X10_nobody se_X10_nobody sC_0 rfl ⟨(Nat.le_of_ble_eq_true rfl), (Nat.le_of_ble_eq_true rfl)⟩ rfl rfl (Nat.le_of_ble_eq_true rfl)) rfl rfl rfl (Nat.zero_le _) (Nat.zero_le _) fun r1 h2 =>
    aw_iload_n (pc := 5) C (i := 2) dK_a_105.2.2.2.1 rfl rfl <|
    aw_iconst (pc := 6) C (v := 0) dK_a_105.2.2.2.2.1 rfl <|
    aw_sipush (pc := 7) C (v := 2400) dK_a_105.2.2.2.2.2.1 rfl <|
    aw_callF (pc := 10) C (cr_S (rest := [.int r1]) (F := (X10_outside v2 0 2400)) C (c_X10_outside X.2.1 v2 0 2400) dK_a_105.2.2.2.2.2.2.1 mf_X10_outside ml_X10_104 st_X10_outside ⟨(Nat.le_of_ble_eq_true rfl), (Nat.le_of_ble_eq_true rfl)⟩ rfl rfl (Nat.le_of_ble_eq_true rfl)) rfl rfl rfl (Nat.zero_le _) (Nat.zero_le _) fun r3 h4 =>
    aw_callF (pc := 13) C (cr_S (rest := []) (F := (X10_first r1 r3)) C (c_X10_first X.2.1 r1 r3) dK_a_105.2.2.2.2.2.2.2.1 mf_X10_first ml_X10_97 st_X10_first ⟨(Nat.le_of_ble_eq_true rfl), (Nat.le_of_ble_eq_true rfl)⟩ rfl rfl (Nat.le_of_ble_eq_true rfl)) rfl rfl rfl (Nat.zero_le _) (Nat.zero_le _) fun r5 h6 =>
    aw_istore_n (pc := 16) C (i := 3) (lv' := [(0, .ref 0), (1, .int v1), (2, .int v2), (3, .int r5)]) dK_a_106.1 rfl (by decide) rfl <|
    aw_iload_n (pc := 17) C (i := 3) dK_a_106.2.1 rfl rfl <|
    aw_if_eq (pc := 18) C (tgt := 27) dK_a_106.2.2.1 rfl (fun _ =>
    aw_aload_n (pc := 27) C (i := 0) dK_a_106.2.2.2.2.2.2.2.1 rfl rfl <|
    aw_getR (pc := 28) C (b := 42) dK_a_107.1 fl_X10_72 sC_0 rfl rC_0_1 <|
    aw_iload_n (pc := 31) C (i := 1) dK_a_107.2.1 rfl rfl <|
    aw_callF (pc := 32) C (cr_V (rest := []) (F := (X5_at 42 v1)) C (c_X5_at X.2.1 42 (Or.inl rfl) v1) dK_a_107.2.2.1 mf_X5_at ml_X10_169 im_X5_at se_X5_at (mt_s (Or.inl rfl)) rfl ⟨(Nat.le_of_ble_eq_true rfl), (Nat.le_of_ble_eq_true rfl)⟩ rfl rfl (Nat.le_of_ble_eq_true rfl)) rfl rfl rfl (Nat.zero_le _) (Nat.zero_le _) fun r7 h8 =>
    aw_cs fun hs9 =>
    aw_getI (pc := 35) C dK_a_107.2.2.2.1 fl_X10_198 hs9 rfl <|
    aw_istoreV (pc := 38) C (i := 4) (fun x10 => [(0, .ref 0), (1, .int v1), (2, .int v2), (3, .int r5), (4, .int x10)]) dK_a_107.2.2.2.2.1 (by decide) (fun _ => rfl) fun x10 =>
    aw_aload_n (pc := 40) C (i := 0) dK_a_107.2.2.2.2.2.1 rfl rfl <|
    aw_getR (pc := 41) C (b := 42) dK_a_107.2.2.2.2.2.2.1 fl_X10_72 sC_0 rfl rC_0_1 <|
    aw_iload_n (pc := 44) C (i := 1) dK_a_107.2.2.2.2.2.2.2.1 rfl rfl <|
    aw_callF (pc := 45) C (cr_V (rest := []) (F := (X5_at 42 v1)) C (c_X5_at X.2.1 42 (Or.inl rfl) v1) dK_a_108.1 mf_X5_at ml_X10_169 im_X5_at se_X5_at (mt_s (Or.inl rfl)) rfl ⟨(Nat.le_of_ble_eq_true rfl), (Nat.le_of_ble_eq_true rfl)⟩ rfl rfl (Nat.le_of_ble_eq_true rfl)) rfl rfl rfl (Nat.zero_le _) (Nat.zero_le _) fun r11 h12 =>
    aw_cs fun hs13 =>
    aw_iload_n (pc := 48) C (i := 2) dK_a_108.2.1 rfl rfl <|
    aw_putI (pc := 49) C dK_a_108.2.2.1 fp_X10_198 hs13 rfl fun h14 =>
    aw_iload (pc := 52) C (i := 4) dK_a_108.2.2.2.1 rfl <|
    aw_iret (pc := 54) C dK_a_108.2.2.2.2.1 rfl rfl) (fun _ =>
    aw_aload_n (pc := 21) C (i := 0) dK_a_106.2.2.2.1 rfl rfl <|
    aw_iload_n (pc := 22) C (i := 3) dK_a_106.2.2.2.2.1 rfl rfl <|
    aw_callF (pc := 23) C (cr_V (rest := []) (F := (X10_refuse r5)) C (c_X10_refuse X.2.1 r5) dK_a_106.2.2.2.2.2.1 mf_X10_refuse ml_X10_111 im_X10_refuse se_X10_refuse sC_0 rfl ⟨(Nat.le_of_ble_eq_true rfl), (Nat.le_of_ble_eq_true rfl)⟩ rfl rfl (Nat.le_of_ble_eq_true rfl)) rfl rfl rfl (Nat.zero_le _) (Nat.zero_le _) fun r15 h16 =>
    aw_iret (pc := 26) C dK_a_106.2.2.2.2.2.2.1 rfl rfl)

abbrev rmX10_look : Room := { frames := 1, cells := 0, slots := 0, locals := 22 }
def X10_look (v1 : Int32) (v2 : Int32) (h : AH) : Option (Int32 × AH) :=
    bd (X10_nobody v1 h) fun r1 h2 =>
    bd (X10_outside v2 0 4 h2) fun r3 h4 =>
    bd (X10_first r1 r3 h4) fun r5 h6 =>
    if r5 = 0 then (bd (X5_at 42 v1 h6) fun r7 h8 =>
    cs ZC r7 (.inr 2) (vl (h8.1 r7 7) fun x10 =>
    bd (X5_at 42 v1 h8) fun r11 h12 =>
    cs ZC r11 (.inr 2) (vl (sI h12 r11 7 v2) fun h14 =>
    some (x10, h14))))
    else (bd (X10_refuse r5 h6) fun r15 h16 =>
    some (r15, h16))
set_option maxRecDepth 100000 in
theorem c_X10_look (l : Launch) (v1 : Int32) (v2 : Int32) : MC l yX10_look cX10_look 5 (some .int) rmX10_look ZC [.ref 0, .int v1, .int v2] rvI (X10_look v1 v2) :=
  MC.of (own := RX10) pn_RX10 rfl (Nat.le_of_ble_eq_true rfl) fun X yd A h _ C =>
    aw_aload_n (pc := 0) C (i := 0) dK_a_109.1 rfl rfl <|
    aw_iload_n (pc := 1) C (i := 1) dK_a_109.2.1 rfl rfl <|
    aw_callF (pc := 2) C (cr_V (rest := []) (F := (X10_nobody v1)) C (c_X10_nobody X.2.1 v1) dK_a_109.2.2.1 mf_X10_nobody ml_X10_93 im_X10_nobody se_X10_nobody sC_0 rfl ⟨(Nat.le_of_ble_eq_true rfl), (Nat.le_of_ble_eq_true rfl)⟩ rfl rfl (Nat.le_of_ble_eq_true rfl)) rfl rfl rfl (Nat.zero_le _) (Nat.zero_le _) fun r1 h2 =>
    aw_iload_n (pc := 5) C (i := 2) dK_a_109.2.2.2.1 rfl rfl <|
    aw_iconst (pc := 6) C (v := 0) dK_a_109.2.2.2.2.1 rfl <|
    aw_iconst (pc := 7) C (v := 4) dK_a_109.2.2.2.2.2.1 rfl <|
    aw_callF (pc := 8) C (cr_S (rest := [.int r1]) (F := (X10_outside v2 0 4)) C (c_X10_outside X.2.1 v2 0 4) dK_a_109.2.2.2.2.2.2.1 mf_X10_outside ml_X10_104 st_X10_outside ⟨(Nat.le_of_ble_eq_true rfl), (Nat.le_of_ble_eq_true rfl)⟩ rfl rfl (Nat.le_of_ble_eq_true rfl)) rfl rfl rfl (Nat.zero_le _) (Nat.zero_le _) fun r3 h4 =>
    aw_callF (pc := 11) C (cr_S (rest := []) (F := (X10_first r1 r3)) C (c_X10_first X.2.1 r1 r3) dK_a_109.2.2.2.2.2.2.2.1 mf_X10_first ml_X10_97 st_X10_first ⟨(Nat.le_of_ble_eq_true rfl), (Nat.le_of_ble_eq_true rfl)⟩ rfl rfl (Nat.le_of_ble_eq_true rfl)) rfl rfl rfl (Nat.zero_le _) (Nat.zero_le _) fun r5 h6 =>
    aw_istore_n (pc := 14) C (i := 3) (lv' := [(0, .ref 0), (1, .int v1), (2, .int v2), (3, .int r5)]) dK_a_110.1 rfl (by decide) rfl <|
    aw_iload_n (pc := 15) C (i := 3) dK_a_110.2.1 rfl rfl <|
    aw_if_eq (pc := 16) C (tgt := 25) dK_a_110.2.2.1 rfl (fun _ =>
    aw_aload_n (pc := 25) C (i := 0) dK_a_110.2.2.2.2.2.2.2.1 rfl rfl <|
    aw_getR (pc := 26) C (b := 42) dK_a_111.1 fl_X10_72 sC_0 rfl rC_0_1 <|
    aw_iload_n (pc := 29) C (i := 1) dK_a_111.2.1 rfl rfl <|
    aw_callF (pc := 30) C (cr_V (rest := []) (F := (X5_at 42 v1)) C (c_X5_at X.2.1 42 (Or.inl rfl) v1) dK_a_111.2.2.1 mf_X5_at ml_X10_169 im_X5_at se_X5_at (mt_s (Or.inl rfl)) rfl ⟨(Nat.le_of_ble_eq_true rfl), (Nat.le_of_ble_eq_true rfl)⟩ rfl rfl (Nat.le_of_ble_eq_true rfl)) rfl rfl rfl (Nat.zero_le _) (Nat.zero_le _) fun r7 h8 =>
    aw_cs fun hs9 =>
    aw_getI (pc := 33) C dK_a_111.2.2.2.1 fl_X10_195 hs9 rfl <|
    aw_istoreV (pc := 36) C (i := 4) (fun x10 => [(0, .ref 0), (1, .int v1), (2, .int v2), (3, .int r5), (4, .int x10)]) dK_a_111.2.2.2.2.1 (by decide) (fun _ => rfl) fun x10 =>
    aw_aload_n (pc := 38) C (i := 0) dK_a_111.2.2.2.2.2.1 rfl rfl <|
    aw_getR (pc := 39) C (b := 42) dK_a_111.2.2.2.2.2.2.1 fl_X10_72 sC_0 rfl rC_0_1 <|
    aw_iload_n (pc := 42) C (i := 1) dK_a_111.2.2.2.2.2.2.2.1 rfl rfl <|
    aw_callF (pc := 43) C (cr_V (rest := []) (F := (X5_at 42 v1)) C (c_X5_at X.2.1 42 (Or.inl rfl) v1) dK_a_112.1 mf_X5_at ml_X10_169 im_X5_at se_X5_at (mt_s (Or.inl rfl)) rfl ⟨(Nat.le_of_ble_eq_true rfl), (Nat.le_of_ble_eq_true rfl)⟩ rfl rfl (Nat.le_of_ble_eq_true rfl)) rfl rfl rfl (Nat.zero_le _) (Nat.zero_le _) fun r11 h12 =>
    aw_cs fun hs13 =>
    aw_iload_n (pc := 46) C (i := 2) dK_a_112.2.1 rfl rfl <|
    aw_putI (pc := 47) C dK_a_112.2.2.1 fp_X10_195 hs13 rfl fun h14 =>
    aw_iload (pc := 50) C (i := 4) dK_a_112.2.2.2.1 rfl <|
    aw_iret (pc := 52) C dK_a_112.2.2.2.2.1 rfl rfl) (fun _ =>
    aw_aload_n (pc := 19) C (i := 0) dK_a_110.2.2.2.1 rfl rfl <|
    aw_iload_n (pc := 20) C (i := 3) dK_a_110.2.2.2.2.1 rfl rfl <|
    aw_callF (pc := 21) C (cr_V (rest := []) (F := (X10_refuse r5)) C (c_X10_refuse X.2.1 r5) dK_a_110.2.2.2.2.2.1 mf_X10_refuse ml_X10_111 im_X10_refuse se_X10_refuse sC_0 rfl ⟨(Nat.le_of_ble_eq_true rfl), (Nat.le_of_ble_eq_true rfl)⟩ rfl rfl (Nat.le_of_ble_eq_true rfl)) rfl rfl rfl (Nat.zero_le _) (Nat.zero_le _) fun r15 h16 =>
    aw_iret (pc := 24) C dK_a_110.2.2.2.2.2.2.1 rfl rfl)

abbrev rmX10_set : Room := { frames := 1, cells := 0, slots := 0, locals := 22 }
def X10_set_j83  (v1 : Int32) (v2 : Int32) (s0 : Int32) (h : AH) : Option (Int32 × AH) :=
    if v1 = 0 then (vl (sI h 42 0 v2) fun h6 =>
    some (s0, h6))
    else (vl (sI h 42 2 v2) fun h5 =>
    some (s0, h5))
set_option maxRecDepth 100000 in
theorem aX10_set_j83 {X : MCx} {yd : Dyn} {A : Nat → Prop} (C : OK X cX10_set RX10 5 (some .int) rmX10_set A)  (v1 : Int32) (v2 : Int32) (s0 : Int32) (h : AH) : AW X 5 ZC yd A 0 0 (QF X rmX10_set ZC yd rvI A) 83 [(0, .ref 0), (1, .int v1), (2, .int v2)] [.int s0] h (X10_set_j83 v1 v2 s0 h) := by
    exact aw_istore (pc := 83) C (i := 4) (lv' := [(0, .ref 0), (1, .int v1), (2, .int v2), (4, .int s0)]) dK_a_118.2.2.2.1 (by decide) rfl <|
    aw_iload_n (pc := 85) C (i := 1) dK_a_118.2.2.2.2.1 rfl rfl <|
    aw_if_ne (pc := 86) C (tgt := 100) dK_a_118.2.2.2.2.2.1 rfl (fun _ =>
    aw_aload_n (pc := 89) C (i := 0) dK_a_118.2.2.2.2.2.2.1 rfl rfl <|
    aw_getR (pc := 90) C (b := 42) dK_a_118.2.2.2.2.2.2.2.1 fl_X10_72 sC_0 rfl rC_0_1 <|
    aw_iload_n (pc := 93) C (i := 2) dK_a_119.1 rfl rfl <|
    aw_putI (pc := 94) C dK_a_119.2.1 fp_X10_163 (mt_s (Or.inl rfl)) rfl fun h6 =>
    aw_goto (pc := 97) C (tgt := 108) dK_a_119.2.2.1 rfl <|
    aw_iload (pc := 108) C (i := 4) dK_a_119.2.2.2.2.2.2.2.1 rfl <|
    aw_iret (pc := 110) C dK_a_120.1 rfl rfl) (fun _ =>
    aw_aload_n (pc := 100) C (i := 0) dK_a_119.2.2.2.1 rfl rfl <|
    aw_getR (pc := 101) C (b := 42) dK_a_119.2.2.2.2.1 fl_X10_72 sC_0 rfl rC_0_1 <|
    aw_iload_n (pc := 104) C (i := 2) dK_a_119.2.2.2.2.2.1 rfl rfl <|
    aw_putI (pc := 105) C dK_a_119.2.2.2.2.2.2.1 fp_X10_166 (mt_s (Or.inl rfl)) rfl fun h5 =>
    aw_iload (pc := 108) C (i := 4) dK_a_119.2.2.2.2.2.2.2.1 rfl <|
    aw_iret (pc := 110) C dK_a_120.1 rfl rfl)
def X10_set_j48  (v1 : Int32) (v2 : Int32) (s0 : Int32) (s1 : Int32) (h : AH) : Option (Int32 × AH) :=
    bd (X10_first s1 s0 h) fun r3 h4 =>
    if r3 = 0 then (if v1 = 0 then (X10_set_j83 v1 v2 (h4.1 42 0) h4)
    else (X10_set_j83 v1 v2 (h4.1 42 2) h4))
    else (bd (X10_refuse r3 h4) fun r7 h8 =>
    some (r7, h8))
set_option maxRecDepth 100000 in
theorem aX10_set_j48 {X : MCx} {yd : Dyn} {A : Nat → Prop} (C : OK X cX10_set RX10 5 (some .int) rmX10_set A)  (v1 : Int32) (v2 : Int32) (s0 : Int32) (s1 : Int32) (h : AH) : AW X 5 ZC yd A 0 0 (QF X rmX10_set ZC yd rvI A) 48 [(0, .ref 0), (1, .int v1), (2, .int v2)] [.int s0, .int s1] h (X10_set_j48 v1 v2 s0 s1 h) := by
    exact aw_callF (pc := 48) C (cr_S (rest := []) (F := (X10_first s1 s0)) C (c_X10_first X.2.1 s1 s0) dK_a_116.2.2.1 mf_X10_first ml_X10_97 st_X10_first ⟨(Nat.le_of_ble_eq_true rfl), (Nat.le_of_ble_eq_true rfl)⟩ rfl rfl (Nat.le_of_ble_eq_true rfl)) rfl rfl rfl (Nat.zero_le _) (Nat.zero_le _) fun r3 h4 =>
    aw_istore_n (pc := 51) C (i := 3) (lv' := [(0, .ref 0), (1, .int v1), (2, .int v2), (3, .int r3)]) dK_a_116.2.2.2.1 rfl (by decide) rfl <|
    aw_iload_n (pc := 52) C (i := 3) dK_a_116.2.2.2.2.1 rfl rfl <|
    aw_if_eq (pc := 53) C (tgt := 62) dK_a_116.2.2.2.2.2.1 rfl (fun _ =>
    aw_iload_n (pc := 62) C (i := 1) dK_a_117.2.2.1 rfl rfl <|
    aw_if_ne (pc := 63) C (tgt := 76) dK_a_117.2.2.2.1 rfl (fun _ =>
    aw_aload_n (pc := 66) C (i := 0) dK_a_117.2.2.2.2.1 rfl rfl <|
    aw_getR (pc := 67) C (b := 42) dK_a_117.2.2.2.2.2.1 fl_X10_72 sC_0 rfl rC_0_1 <|
    aw_getI (pc := 70) C dK_a_117.2.2.2.2.2.2.1 fl_X10_163 (mt_s (Or.inl rfl)) rfl <|
    aw_goto (pc := 73) C (tgt := 83) dK_a_117.2.2.2.2.2.2.2.1 rfl <|
    aw_drop [0, 1, 2] (aX10_set_j83 C v1 v2 (h4.1 42 0) h4)) (fun _ =>
    aw_aload_n (pc := 76) C (i := 0) dK_a_118.1 rfl rfl <|
    aw_getR (pc := 77) C (b := 42) dK_a_118.2.1 fl_X10_72 sC_0 rfl rC_0_1 <|
    aw_getI (pc := 80) C dK_a_118.2.2.1 fl_X10_166 (mt_s (Or.inl rfl)) rfl <|
    aw_drop [0, 1, 2] (aX10_set_j83 C v1 v2 (h4.1 42 2) h4))) (fun _ =>
    aw_aload_n (pc := 56) C (i := 0) dK_a_116.2.2.2.2.2.2.1 rfl rfl <|
    aw_iload_n (pc := 57) C (i := 3) dK_a_116.2.2.2.2.2.2.2.1 rfl rfl <|
    aw_callF (pc := 58) C (cr_V (rest := []) (F := (X10_refuse r3)) C (c_X10_refuse X.2.1 r3) dK_a_117.1 mf_X10_refuse ml_X10_111 im_X10_refuse se_X10_refuse sC_0 rfl ⟨(Nat.le_of_ble_eq_true rfl), (Nat.le_of_ble_eq_true rfl)⟩ rfl rfl (Nat.le_of_ble_eq_true rfl)) rfl rfl rfl (Nat.zero_le _) (Nat.zero_le _) fun r7 h8 =>
    aw_iret (pc := 61) C dK_a_117.2.1 rfl rfl)
def X10_set_j31  (v1 : Int32) (v2 : Int32) (v3 : Int32) (h : AH) : Option (Int32 × AH) :=
    if (h.1 42 4) ≤ 0 then (X10_set_j48 v1 v2 0 v3 h)
    else (X10_set_j48 v1 v2 (-3) v3 h)
set_option maxRecDepth 100000 in
theorem aX10_set_j31 {X : MCx} {yd : Dyn} {A : Nat → Prop} (C : OK X cX10_set RX10 5 (some .int) rmX10_set A)  (v1 : Int32) (v2 : Int32) (v3 : Int32) (h : AH) : AW X 5 ZC yd A 0 0 (QF X rmX10_set ZC yd rvI A) 31 [(0, .ref 0), (1, .int v1), (2, .int v2), (3, .int v3)] [] h (X10_set_j31 v1 v2 v3 h) := by
    exact aw_iload_n (pc := 31) C (i := 3) dK_a_115.2.2.1 rfl rfl <|
    aw_aload_n (pc := 32) C (i := 0) dK_a_115.2.2.2.1 rfl rfl <|
    aw_getR (pc := 33) C (b := 42) dK_a_115.2.2.2.2.1 fl_X10_72 sC_0 rfl rC_0_1 <|
    aw_getI (pc := 36) C dK_a_115.2.2.2.2.2.1 fl_X10_160 (mt_s (Or.inl rfl)) rfl <|
    aw_if_le (pc := 39) C (tgt := 47) dK_a_115.2.2.2.2.2.2.1 rfl (fun _ =>
    aw_iconst (pc := 47) C (v := 0) dK_a_116.2.1 rfl <|
    aw_drop [0, 1, 2] (aX10_set_j48 C v1 v2 0 v3 h)) (fun _ =>
    aw_bipush (pc := 42) C (v := (-3)) dK_a_115.2.2.2.2.2.2.2.1 rfl <|
    aw_goto (pc := 44) C (tgt := 48) dK_a_116.1 rfl <|
    aw_drop [0, 1, 2] (aX10_set_j48 C v1 v2 (-3) v3 h))
def X10_set_j30  (v1 : Int32) (v2 : Int32) (s0 : Int32) (h : AH) : Option (Int32 × AH) :=
    X10_set_j31 v1 v2 s0 h
set_option maxRecDepth 100000 in
theorem aX10_set_j30 {X : MCx} {yd : Dyn} {A : Nat → Prop} (C : OK X cX10_set RX10 5 (some .int) rmX10_set A)  (v1 : Int32) (v2 : Int32) (s0 : Int32) (h : AH) : AW X 5 ZC yd A 0 0 (QF X rmX10_set ZC yd rvI A) 30 [(0, .ref 0), (1, .int v1), (2, .int v2)] [.int s0] h (X10_set_j30 v1 v2 s0 h) := by
    exact aw_istore_n (pc := 30) C (i := 3) (lv' := [(0, .ref 0), (1, .int v1), (2, .int v2), (3, .int s0)]) dK_a_115.2.1 rfl (by decide) rfl <|
    (aX10_set_j31 C v1 v2 s0 h)
def X10_set (v1 : Int32) (v2 : Int32) (h : AH) : Option (Int32 × AH) :=
    bd (X10_noSuch v1 1 h) fun r1 h2 =>
    if r1 = 0 then (if v1 = 0 then (bd (X10_outside v2 4 20 h2) fun r11 h12 =>
    X10_set_j30 v1 v2 r11 h12)
    else (bd (X10_outside v2 1 4 h2) fun r9 h10 =>
    X10_set_j30 v1 v2 r9 h10))
    else (X10_set_j31 v1 v2 r1 h2)
set_option maxRecDepth 100000 in
theorem c_X10_set (l : Launch) (v1 : Int32) (v2 : Int32) : MC l yX10_set cX10_set 5 (some .int) rmX10_set ZC [.ref 0, .int v1, .int v2] rvI (X10_set v1 v2) :=
  MC.of (own := RX10) pn_RX10 rfl (Nat.le_of_ble_eq_true rfl) fun X yd A h _ C =>
    aw_iload_n (pc := 0) C (i := 1) dK_a_113.1 rfl rfl <|
    aw_iconst (pc := 1) C (v := 1) dK_a_113.2.1 rfl <|
    aw_callF (pc := 2) C (cr_S (rest := []) (F := (X10_noSuch v1 1)) C (c_X10_noSuch X.2.1 v1 1) dK_a_113.2.2.1 mf_X10_noSuch ml_X10_101 st_X10_noSuch ⟨(Nat.le_of_ble_eq_true rfl), (Nat.le_of_ble_eq_true rfl)⟩ rfl rfl (Nat.le_of_ble_eq_true rfl)) rfl rfl rfl (Nat.zero_le _) (Nat.zero_le _) fun r1 h2 =>
    aw_istore_n (pc := 5) C (i := 3) (lv' := [(0, .ref 0), (1, .int v1), (2, .int v2), (3, .int r1)]) dK_a_113.2.2.2.1 rfl (by decide) rfl <|
    aw_iload_n (pc := 6) C (i := 3) dK_a_113.2.2.2.2.1 rfl rfl <|
    aw_if_ne (pc := 7) C (tgt := 31) dK_a_113.2.2.2.2.2.1 rfl (fun _ =>
    aw_iload_n (pc := 10) C (i := 1) dK_a_113.2.2.2.2.2.2.1 rfl rfl <|
    aw_if_ne (pc := 11) C (tgt := 24) dK_a_113.2.2.2.2.2.2.2.1 rfl (fun _ =>
    aw_iload_n (pc := 14) C (i := 2) dK_a_114.1 rfl rfl <|
    aw_iconst (pc := 15) C (v := 4) dK_a_114.2.1 rfl <|
    aw_bipush (pc := 16) C (v := 20) dK_a_114.2.2.1 rfl <|
    aw_callF (pc := 18) C (cr_S (rest := []) (F := (X10_outside v2 4 20)) C (c_X10_outside X.2.1 v2 4 20) dK_a_114.2.2.2.1 mf_X10_outside ml_X10_104 st_X10_outside ⟨(Nat.le_of_ble_eq_true rfl), (Nat.le_of_ble_eq_true rfl)⟩ rfl rfl (Nat.le_of_ble_eq_true rfl)) rfl rfl rfl (Nat.zero_le _) (Nat.zero_le _) fun r11 h12 =>
    aw_goto (pc := 21) C (tgt := 30) dK_a_114.2.2.2.2.1 rfl <|
    aw_drop [0, 1, 2] (aX10_set_j30 C v1 v2 r11 h12)) (fun _ =>
    aw_iload_n (pc := 24) C (i := 2) dK_a_114.2.2.2.2.2.1 rfl rfl <|
    aw_iconst (pc := 25) C (v := 1) dK_a_114.2.2.2.2.2.2.1 rfl <|
    aw_iconst (pc := 26) C (v := 4) dK_a_114.2.2.2.2.2.2.2.1 rfl <|
    aw_callF (pc := 27) C (cr_S (rest := []) (F := (X10_outside v2 1 4)) C (c_X10_outside X.2.1 v2 1 4) dK_a_115.1 mf_X10_outside ml_X10_104 st_X10_outside ⟨(Nat.le_of_ble_eq_true rfl), (Nat.le_of_ble_eq_true rfl)⟩ rfl rfl (Nat.le_of_ble_eq_true rfl)) rfl rfl rfl (Nat.zero_le _) (Nat.zero_le _) fun r9 h10 =>
    aw_drop [0, 1, 2] (aX10_set_j30 C v1 v2 r9 h10))) (fun _ =>
    (aX10_set_j31 C v1 v2 r1 h2))

abbrev rmX10_wind : Room := { frames := 1, cells := 0, slots := 0, locals := 22 }
def X10_wind (v1 : Int32) (h : AH) : Option (Int32 × AH) :=
    bd (X10_outside v1 (-9) 9 h) fun r1 h2 =>
    if r1 = 0 then (vl (h2.1 42 1) fun x3 =>
    vl (sI h2 42 1 v1) fun h4 =>
    some (x3, h4))
    else (bd (X10_refuse r1 h2) fun r5 h6 =>
    some ((1000000000 - r5), h6))
set_option maxRecDepth 100000 in
theorem c_X10_wind (l : Launch) (v1 : Int32) : MC l yX10_wind cX10_wind 4 (some .int) rmX10_wind ZC [.ref 0, .int v1] rvI (X10_wind v1) :=
  MC.of (own := RX10) pn_RX10 rfl (Nat.le_of_ble_eq_true rfl) fun X yd A h _ C =>
    aw_iload_n (pc := 0) C (i := 1) dK_a_121.1 rfl rfl <|
    aw_bipush (pc := 1) C (v := (-9)) dK_a_121.2.1 rfl <|
    aw_bipush (pc := 3) C (v := 9) dK_a_121.2.2.1 rfl <|
    aw_callF (pc := 5) C (cr_S (rest := []) (F := (X10_outside v1 (-9) 9)) C (c_X10_outside X.2.1 v1 (-9) 9) dK_a_121.2.2.2.1 mf_X10_outside ml_X10_104 st_X10_outside ⟨(Nat.le_of_ble_eq_true rfl), (Nat.le_of_ble_eq_true rfl)⟩ rfl rfl (Nat.le_of_ble_eq_true rfl)) rfl rfl rfl (Nat.zero_le _) (Nat.zero_le _) fun r1 h2 =>
    aw_istore_n (pc := 8) C (i := 2) (lv' := [(0, .ref 0), (1, .int v1), (2, .int r1)]) dK_a_121.2.2.2.2.1 rfl (by decide) rfl <|
    aw_iload_n (pc := 9) C (i := 2) dK_a_121.2.2.2.2.2.1 rfl rfl <|
    aw_if_eq (pc := 10) C (tgt := 22) dK_a_121.2.2.2.2.2.2.1 rfl (fun _ =>
    aw_aload_n (pc := 22) C (i := 0) dK_a_122.2.2.2.2.2.1 rfl rfl <|
    aw_getR (pc := 23) C (b := 42) dK_a_122.2.2.2.2.2.2.1 fl_X10_72 sC_0 rfl rC_0_1 <|
    aw_getI (pc := 26) C dK_a_122.2.2.2.2.2.2.2.1 fl_X10_157 (mt_s (Or.inl rfl)) rfl <|
    aw_istoreV_n (pc := 29) C (i := 3) (fun x3 => [(0, .ref 0), (1, .int v1), (2, .int r1), (3, .int x3)]) dK_a_123.1 rfl (by decide) (fun _ => rfl) fun x3 =>
    aw_aload_n (pc := 30) C (i := 0) dK_a_123.2.1 rfl rfl <|
    aw_getR (pc := 31) C (b := 42) dK_a_123.2.2.1 fl_X10_72 sC_0 rfl rC_0_1 <|
    aw_iload_n (pc := 34) C (i := 1) dK_a_123.2.2.2.1 rfl rfl <|
    aw_putI (pc := 35) C dK_a_123.2.2.2.2.1 fp_X10_157 (mt_s (Or.inl rfl)) rfl fun h4 =>
    aw_iload_n (pc := 38) C (i := 3) dK_a_123.2.2.2.2.2.1 rfl rfl <|
    aw_iret (pc := 39) C dK_a_123.2.2.2.2.2.2.1 rfl rfl) (fun _ =>
    aw_ldc (pc := 13) C (v := 1000000000) dK_a_121.2.2.2.2.2.2.2.1 kc_X10_224 <|
    aw_aload_n (pc := 15) C (i := 0) dK_a_122.1 rfl rfl <|
    aw_iload_n (pc := 16) C (i := 2) dK_a_122.2.1 rfl rfl <|
    aw_callF (pc := 17) C (cr_V (rest := [.int 1000000000]) (F := (X10_refuse r1)) C (c_X10_refuse X.2.1 r1) dK_a_122.2.2.1 mf_X10_refuse ml_X10_111 im_X10_refuse se_X10_refuse sC_0 rfl ⟨(Nat.le_of_ble_eq_true rfl), (Nat.le_of_ble_eq_true rfl)⟩ rfl rfl (Nat.le_of_ble_eq_true rfl)) rfl rfl rfl (Nat.zero_le _) (Nat.zero_le _) fun r5 h6 =>
    aw_isub (pc := 20) C dK_a_122.2.2.2.1 <|
    aw_iret (pc := 21) C dK_a_122.2.2.2.2.1 rfl rfl)

abbrev rmX10_stride : Room := { frames := 3, cells := 0, slots := 0, locals := 69 }
def X10_stride (v1 : Int32) (v2 : Int32) (h : AH) : Option (Int32 × AH) :=
    bd (X10_nobody v1 h) fun r1 h2 =>
    bd (X10_outside v2 0 ((h2.1 42 0) - 1) h2) fun r3 h4 =>
    bd (X10_first r1 r3 h4) fun r5 h6 =>
    if r5 = 0 then (bd (X5_at 42 v1 h6) fun r7 h8 =>
    cs ZC r7 (.inr 2) (bd (kd (h8.2.2 r7) (X3_strideOf r7 v2 (h8.1 42 1) h8) (X3_strideOf r7 v2 (h8.1 42 1) h8) (X0_strideOf r7 v2 (h8.1 42 1) h8) (X3_strideOf r7 v2 (h8.1 42 1) h8) (X9_strideOf r7 v2 (h8.1 42 1) h8) (X8_strideOf r7 v2 (h8.1 42 1) h8)) fun r10 h11 =>
    some (r10, h11)))
    else (bd (X10_refuse r5 h6) fun r12 h13 =>
    some (r12, h13))
set_option maxRecDepth 100000 in
theorem c_X10_stride (l : Launch) (v1 : Int32) (v2 : Int32) : MC l yX10_stride cX10_stride 5 (some .int) rmX10_stride ZC [.ref 0, .int v1, .int v2] rvI (X10_stride v1 v2) :=
  MC.of (own := RX10) pn_RX10 rfl (Nat.le_of_ble_eq_true rfl) fun X yd A h _ C =>
    aw_aload_n (pc := 0) C (i := 0) dK_a_124.1 rfl rfl <|
    aw_iload_n (pc := 1) C (i := 1) dK_a_124.2.1 rfl rfl <|
    aw_callF (pc := 2) C (cr_V (rest := []) (F := (X10_nobody v1)) C (c_X10_nobody X.2.1 v1) dK_a_124.2.2.1 mf_X10_nobody ml_X10_93 im_X10_nobody se_X10_nobody sC_0 rfl ⟨(Nat.le_of_ble_eq_true rfl), (Nat.le_of_ble_eq_true rfl)⟩ rfl rfl (Nat.le_of_ble_eq_true rfl)) rfl rfl rfl (Nat.zero_le _) (Nat.zero_le _) fun r1 h2 =>
    aw_iload_n (pc := 5) C (i := 2) dK_a_124.2.2.2.1 rfl rfl <|
    aw_iconst (pc := 6) C (v := 0) dK_a_124.2.2.2.2.1 rfl <|
    aw_aload_n (pc := 7) C (i := 0) dK_a_124.2.2.2.2.2.1 rfl rfl <|
    aw_getR (pc := 8) C (b := 42) dK_a_124.2.2.2.2.2.2.1 fl_X10_72 sC_0 rfl rC_0_1 <|
    aw_getI (pc := 11) C dK_a_124.2.2.2.2.2.2.2.1 fl_X10_163 (mt_s (Or.inl rfl)) rfl <|
    aw_iconst (pc := 14) C (v := 1) dK_a_125.1 rfl <|
    aw_isub (pc := 15) C dK_a_125.2.1 <|
    aw_callF (pc := 16) C (cr_S (rest := [.int r1]) (F := (X10_outside v2 0 ((h2.1 42 0) - 1))) C (c_X10_outside X.2.1 v2 0 ((h2.1 42 0) - 1)) dK_a_125.2.2.1 mf_X10_outside ml_X10_104 st_X10_outside ⟨(Nat.le_of_ble_eq_true rfl), (Nat.le_of_ble_eq_true rfl)⟩ rfl rfl (Nat.le_of_ble_eq_true rfl)) rfl rfl rfl (Nat.zero_le _) (Nat.zero_le _) fun r3 h4 =>
    aw_callF (pc := 19) C (cr_S (rest := []) (F := (X10_first r1 r3)) C (c_X10_first X.2.1 r1 r3) dK_a_125.2.2.2.1 mf_X10_first ml_X10_97 st_X10_first ⟨(Nat.le_of_ble_eq_true rfl), (Nat.le_of_ble_eq_true rfl)⟩ rfl rfl (Nat.le_of_ble_eq_true rfl)) rfl rfl rfl (Nat.zero_le _) (Nat.zero_le _) fun r5 h6 =>
    aw_istore_n (pc := 22) C (i := 3) (lv' := [(0, .ref 0), (1, .int v1), (2, .int v2), (3, .int r5)]) dK_a_125.2.2.2.2.1 rfl (by decide) rfl <|
    aw_iload_n (pc := 23) C (i := 3) dK_a_125.2.2.2.2.2.1 rfl rfl <|
    aw_if_eq (pc := 24) C (tgt := 33) dK_a_125.2.2.2.2.2.2.1 rfl (fun _ =>
    aw_aload_n (pc := 33) C (i := 0) dK_a_126.2.2.2.1 rfl rfl <|
    aw_getR (pc := 34) C (b := 42) dK_a_126.2.2.2.2.1 fl_X10_72 sC_0 rfl rC_0_1 <|
    aw_iload_n (pc := 37) C (i := 1) dK_a_126.2.2.2.2.2.1 rfl rfl <|
    aw_callF (pc := 38) C (cr_V (rest := []) (F := (X5_at 42 v1)) C (c_X5_at X.2.1 42 (Or.inl rfl) v1) dK_a_126.2.2.2.2.2.2.1 mf_X5_at ml_X10_169 im_X5_at se_X5_at (mt_s (Or.inl rfl)) rfl ⟨(Nat.le_of_ble_eq_true rfl), (Nat.le_of_ble_eq_true rfl)⟩ rfl rfl (Nat.le_of_ble_eq_true rfl)) rfl rfl rfl (Nat.zero_le _) (Nat.zero_le _) fun r7 h8 =>
    aw_cs fun hs9 =>
    aw_astore (pc := 41) C (i := 4) (lv' := [(0, .ref 0), (1, .int v1), (2, .int v2), (3, .int r5), (4, .ref r7)]) dK_a_126.2.2.2.2.2.2.2.1 (by decide) rfl <|
    aw_aload (pc := 43) C (i := 4) dK_a_127.1 rfl <|
    aw_getW (pc := 45) C (b := (36 + h8.2.2 r7 % 6)) dK_a_127.2.1 fl_X10_173 hs9 rfl rfl <|
    aw_aload (pc := 48) C (i := 4) dK_a_127.2.2.1 rfl <|
    aw_iload_n (pc := 50) C (i := 2) dK_a_127.2.2.2.1 rfl rfl <|
    aw_aload_n (pc := 51) C (i := 0) dK_a_127.2.2.2.2.1 rfl rfl <|
    aw_getR (pc := 52) C (b := 42) dK_a_127.2.2.2.2.2.1 fl_X10_72 sC_0 rfl rC_0_1 <|
    aw_getI (pc := 55) C dK_a_127.2.2.2.2.2.2.1 fl_X10_157 (mt_s (Or.inl rfl)) rfl <|
    aw_callF (pc := 58) C (kdA_strideOf C dK_a_127.2.2.2.2.2.2.2.1 ml_X10_225 (h8.2.2 r7) r7 hs9 v2 (h8.1 42 1) [] ⟨⟨(Nat.le_of_ble_eq_true rfl), (Nat.le_of_ble_eq_true rfl)⟩, ⟨(Nat.le_of_ble_eq_true rfl), (Nat.le_of_ble_eq_true rfl)⟩, ⟨(Nat.le_of_ble_eq_true rfl), (Nat.le_of_ble_eq_true rfl)⟩, ⟨(Nat.le_of_ble_eq_true rfl), (Nat.le_of_ble_eq_true rfl)⟩, ⟨(Nat.le_of_ble_eq_true rfl), (Nat.le_of_ble_eq_true rfl)⟩, ⟨(Nat.le_of_ble_eq_true rfl), (Nat.le_of_ble_eq_true rfl)⟩⟩ (Nat.le_of_ble_eq_true rfl)) rfl rfl rfl (Nat.zero_le _) (Nat.zero_le _) fun r10 h11 =>
    aw_iret (pc := 61) C dK_a_128.1 rfl rfl) (fun _ =>
    aw_aload_n (pc := 27) C (i := 0) dK_a_125.2.2.2.2.2.2.2.1 rfl rfl <|
    aw_iload_n (pc := 28) C (i := 3) dK_a_126.1 rfl rfl <|
    aw_callF (pc := 29) C (cr_V (rest := []) (F := (X10_refuse r5)) C (c_X10_refuse X.2.1 r5) dK_a_126.2.1 mf_X10_refuse ml_X10_111 im_X10_refuse se_X10_refuse sC_0 rfl ⟨(Nat.le_of_ble_eq_true rfl), (Nat.le_of_ble_eq_true rfl)⟩ rfl rfl (Nat.le_of_ble_eq_true rfl)) rfl rfl rfl (Nat.zero_le _) (Nat.zero_le _) fun r12 h13 =>
    aw_iret (pc := 32) C dK_a_126.2.2.1 rfl rfl)

abbrev rmX10_placeOf : Room := { frames := 4, cells := 0, slots := 0, locals := 93 }
def X10_placeOf (v1 : Int32) (h : AH) : Option (Int32 × AH) :=
    bd (X5_at 42 v1 h) fun r1 h2 =>
    cs ZC r1 (.inr 2) (bd (X2_path r1 (h2.1 42 0) (h2.1 42 1) h2) fun r4 h5 =>
    some (((h2.1 r1 8) - r4), h5))
set_option maxRecDepth 100000 in
theorem c_X10_placeOf (l : Launch) (v1 : Int32) : MC l yX10_placeOf cX10_placeOf 3 (some .int) rmX10_placeOf ZC [.ref 0, .int v1] rvI (X10_placeOf v1) :=
  MC.of (own := RX10) pn_RX10 rfl (Nat.le_of_ble_eq_true rfl) fun X yd A h _ C =>
    aw_aload_n (pc := 0) C (i := 0) dK_a_131.1 rfl rfl <|
    aw_getR (pc := 1) C (b := 42) dK_a_131.2.1 fl_X10_72 sC_0 rfl rC_0_1 <|
    aw_iload_n (pc := 4) C (i := 1) dK_a_131.2.2.1 rfl rfl <|
    aw_callF (pc := 5) C (cr_V (rest := []) (F := (X5_at 42 v1)) C (c_X5_at X.2.1 42 (Or.inl rfl) v1) dK_a_131.2.2.2.1 mf_X5_at ml_X10_169 im_X5_at se_X5_at (mt_s (Or.inl rfl)) rfl ⟨(Nat.le_of_ble_eq_true rfl), (Nat.le_of_ble_eq_true rfl)⟩ rfl rfl (Nat.le_of_ble_eq_true rfl)) rfl rfl rfl (Nat.zero_le _) (Nat.zero_le _) fun r1 h2 =>
    aw_cs fun hs3 =>
    aw_astore_n (pc := 8) C (i := 2) (lv' := [(0, .ref 0), (1, .int v1), (2, .ref r1)]) dK_a_131.2.2.2.2.1 rfl (by decide) rfl <|
    aw_aload_n (pc := 9) C (i := 2) dK_a_131.2.2.2.2.2.1 rfl rfl <|
    aw_getI (pc := 10) C dK_a_131.2.2.2.2.2.2.1 fl_X10_198 hs3 rfl <|
    aw_aload_n (pc := 13) C (i := 2) dK_a_131.2.2.2.2.2.2.2.1 rfl rfl <|
    aw_aload_n (pc := 14) C (i := 0) dK_a_132.1 rfl rfl <|
    aw_getR (pc := 15) C (b := 42) dK_a_132.2.1 fl_X10_72 sC_0 rfl rC_0_1 <|
    aw_getI (pc := 18) C dK_a_132.2.2.1 fl_X10_163 (mt_s (Or.inl rfl)) rfl <|
    aw_aload_n (pc := 21) C (i := 0) dK_a_132.2.2.2.1 rfl rfl <|
    aw_getR (pc := 22) C (b := 42) dK_a_132.2.2.2.2.1 fl_X10_72 sC_0 rfl rC_0_1 <|
    aw_getI (pc := 25) C dK_a_132.2.2.2.2.2.1 fl_X10_157 (mt_s (Or.inl rfl)) rfl <|
    aw_callF (pc := 28) C (cr_V (rest := [.int (h2.1 r1 8)]) (F := (X2_path r1 (h2.1 42 0) (h2.1 42 1))) C (c_X2_path X.2.1 r1 hs3 (h2.1 42 0) (h2.1 42 1)) dK_a_132.2.2.2.2.2.2.1 mf_X2_path ml_X10_232 im_X2_path se_X2_path hs3 rfl ⟨(Nat.le_of_ble_eq_true rfl), (Nat.le_of_ble_eq_true rfl)⟩ rfl rfl (Nat.le_of_ble_eq_true rfl)) rfl rfl rfl (Nat.zero_le _) (Nat.zero_le _) fun r4 h5 =>
    aw_isub (pc := 31) C dK_a_132.2.2.2.2.2.2.2.1 <|
    aw_iret (pc := 32) C dK_a_133.1 rfl rfl

abbrev rmX10_place : Room := { frames := 5, cells := 0, slots := 0, locals := 115 }
def X10_place (v1 : Int32) (h : AH) : Option (Int32 × AH) :=
    bd (X10_nobody v1 h) fun r1 h2 =>
    if r1 = 0 then (bd (X10_placeOf v1 h2) fun r3 h4 =>
    some (r3, h4))
    else (bd (X10_refuse r1 h2) fun r5 h6 =>
    some ((1000000000 - r5), h6))
set_option maxRecDepth 100000 in
theorem c_X10_place (l : Launch) (v1 : Int32) : MC l yX10_place cX10_place 3 (some .int) rmX10_place ZC [.ref 0, .int v1] rvI (X10_place v1) :=
  MC.of (own := RX10) pn_RX10 rfl (Nat.le_of_ble_eq_true rfl) fun X yd A h _ C =>
    aw_aload_n (pc := 0) C (i := 0) dK_a_129.1 rfl rfl <|
    aw_iload_n (pc := 1) C (i := 1) dK_a_129.2.1 rfl rfl <|
    aw_callF (pc := 2) C (cr_V (rest := []) (F := (X10_nobody v1)) C (c_X10_nobody X.2.1 v1) dK_a_129.2.2.1 mf_X10_nobody ml_X10_93 im_X10_nobody se_X10_nobody sC_0 rfl ⟨(Nat.le_of_ble_eq_true rfl), (Nat.le_of_ble_eq_true rfl)⟩ rfl rfl (Nat.le_of_ble_eq_true rfl)) rfl rfl rfl (Nat.zero_le _) (Nat.zero_le _) fun r1 h2 =>
    aw_istore_n (pc := 5) C (i := 2) (lv' := [(0, .ref 0), (1, .int v1), (2, .int r1)]) dK_a_129.2.2.2.1 rfl (by decide) rfl <|
    aw_iload_n (pc := 6) C (i := 2) dK_a_129.2.2.2.2.1 rfl rfl <|
    aw_if_eq (pc := 7) C (tgt := 21) dK_a_129.2.2.2.2.2.1 rfl (fun _ =>
    aw_aload_n (pc := 21) C (i := 0) dK_a_130.2.2.2.2.1 rfl rfl <|
    aw_iload_n (pc := 22) C (i := 1) dK_a_130.2.2.2.2.2.1 rfl rfl <|
    aw_callF (pc := 23) C (cr_V (rest := []) (F := (X10_placeOf v1)) C (c_X10_placeOf X.2.1 v1) dK_a_130.2.2.2.2.2.2.1 mf_X10_placeOf ml_X10_229 im_X10_placeOf se_X10_placeOf sC_0 rfl ⟨(Nat.le_of_ble_eq_true rfl), (Nat.le_of_ble_eq_true rfl)⟩ rfl rfl (Nat.le_of_ble_eq_true rfl)) rfl rfl rfl (Nat.zero_le _) (Nat.zero_le _) fun r3 h4 =>
    aw_iret (pc := 26) C dK_a_130.2.2.2.2.2.2.2.1 rfl rfl) (fun _ =>
    aw_ldc (pc := 10) C (v := 1000000000) dK_a_129.2.2.2.2.2.2.1 kc_X10_224 <|
    aw_aload_n (pc := 12) C (i := 0) dK_a_129.2.2.2.2.2.2.2.1 rfl rfl <|
    aw_iload_n (pc := 13) C (i := 2) dK_a_130.1 rfl rfl <|
    aw_callF (pc := 14) C (cr_V (rest := [.int 1000000000]) (F := (X10_refuse r1)) C (c_X10_refuse X.2.1 r1) dK_a_130.2.1 mf_X10_refuse ml_X10_111 im_X10_refuse se_X10_refuse sC_0 rfl ⟨(Nat.le_of_ble_eq_true rfl), (Nat.le_of_ble_eq_true rfl)⟩ rfl rfl (Nat.le_of_ble_eq_true rfl)) rfl rfl rfl (Nat.zero_le _) (Nat.zero_le _) fun r5 h6 =>
    aw_isub (pc := 17) C dK_a_130.2.2.1 <|
    aw_goto (pc := 18) C (tgt := 26) dK_a_130.2.2.2.1 rfl <|
    aw_iret (pc := 26) C dK_a_130.2.2.2.2.2.2.2.1 rfl rfl)

abbrev rmX10_length : Room := { frames := 3, cells := 0, slots := 0, locals := 74 }
def X10_length (v1 : Int32) (v2 : Int32) (v3 : Int32) (h : AH) : Option (Int32 × AH) :=
    bd (X10_nobody v1 h) fun r1 h2 =>
    bd (X10_outside v2 0 300 h2) fun r3 h4 =>
    bd (X10_outside v3 0 99 h4) fun r5 h6 =>
    bd (X10_outsideTwo r3 r5 h6) fun r7 h8 =>
    bd (X10_first r1 r7 h8) fun r9 h10 =>
    if r9 = 0 then (bd (X5_at 42 v1 h10) fun r11 h12 =>
    cs ZC r11 (.inr 2) (bd (kd (h12.2.2 r11) (X3_lengthOf r11 v2 v3 (h12.1 42 1) h12) (X7_lengthOf r11 v2 v3 (h12.1 42 1) h12) (X0_lengthOf r11 v2 v3 (h12.1 42 1) h12) (X7_lengthOf r11 v2 v3 (h12.1 42 1) h12) (X9_lengthOf r11 v2 v3 (h12.1 42 1) h12) (X8_lengthOf r11 v2 v3 (h12.1 42 1) h12)) fun r14 h15 =>
    some (r14, h15)))
    else (bd (X10_refuse r9 h10) fun r16 h17 =>
    some (r16, h17))
set_option maxRecDepth 100000 in
theorem c_X10_length (l : Launch) (v1 : Int32) (v2 : Int32) (v3 : Int32) : MC l yX10_length cX10_length 6 (some .int) rmX10_length ZC [.ref 0, .int v1, .int v2, .int v3] rvI (X10_length v1 v2 v3) :=
  MC.of (own := RX10) pn_RX10 rfl (Nat.le_of_ble_eq_true rfl) fun X yd A h _ C =>
    aw_aload_n (pc := 0) C (i := 0) dK_a_134.1 rfl rfl <|
    aw_iload_n (pc := 1) C (i := 1) dK_a_134.2.1 rfl rfl <|
    aw_callF (pc := 2) C (cr_V (rest := []) (F := (X10_nobody v1)) C (c_X10_nobody X.2.1 v1) dK_a_134.2.2.1 mf_X10_nobody ml_X10_93 im_X10_nobody se_X10_nobody sC_0 rfl ⟨(Nat.le_of_ble_eq_true rfl), (Nat.le_of_ble_eq_true rfl)⟩ rfl rfl (Nat.le_of_ble_eq_true rfl)) rfl rfl rfl (Nat.zero_le _) (Nat.zero_le _) fun r1 h2 =>
    aw_iload_n (pc := 5) C (i := 2) dK_a_134.2.2.2.1 rfl rfl <|
    aw_iconst (pc := 6) C (v := 0) dK_a_134.2.2.2.2.1 rfl <|
    aw_sipush (pc := 7) C (v := 300) dK_a_134.2.2.2.2.2.1 rfl <|
    aw_callF (pc := 10) C (cr_S (rest := [.int r1]) (F := (X10_outside v2 0 300)) C (c_X10_outside X.2.1 v2 0 300) dK_a_134.2.2.2.2.2.2.1 mf_X10_outside ml_X10_104 st_X10_outside ⟨(Nat.le_of_ble_eq_true rfl), (Nat.le_of_ble_eq_true rfl)⟩ rfl rfl (Nat.le_of_ble_eq_true rfl)) rfl rfl rfl (Nat.zero_le _) (Nat.zero_le _) fun r3 h4 =>
    aw_iload_n (pc := 13) C (i := 3) dK_a_134.2.2.2.2.2.2.2.1 rfl rfl <|
    aw_iconst (pc := 14) C (v := 0) dK_a_135.1 rfl <|
    aw_bipush (pc := 15) C (v := 99) dK_a_135.2.1 rfl <|
    aw_callF (pc := 17) C (cr_S (rest := [.int r3, .int r1]) (F := (X10_outside v3 0 99)) C (c_X10_outside X.2.1 v3 0 99) dK_a_135.2.2.1 mf_X10_outside ml_X10_104 st_X10_outside ⟨(Nat.le_of_ble_eq_true rfl), (Nat.le_of_ble_eq_true rfl)⟩ rfl rfl (Nat.le_of_ble_eq_true rfl)) rfl rfl rfl (Nat.zero_le _) (Nat.zero_le _) fun r5 h6 =>
    aw_callF (pc := 20) C (cr_S (rest := [.int r1]) (F := (X10_outsideTwo r3 r5)) C (c_X10_outsideTwo X.2.1 r3 r5) dK_a_135.2.2.2.1 mf_X10_outsideTwo ml_X10_235 st_X10_outsideTwo ⟨(Nat.le_of_ble_eq_true rfl), (Nat.le_of_ble_eq_true rfl)⟩ rfl rfl (Nat.le_of_ble_eq_true rfl)) rfl rfl rfl (Nat.zero_le _) (Nat.zero_le _) fun r7 h8 =>
    aw_callF (pc := 23) C (cr_S (rest := []) (F := (X10_first r1 r7)) C (c_X10_first X.2.1 r1 r7) dK_a_135.2.2.2.2.1 mf_X10_first ml_X10_97 st_X10_first ⟨(Nat.le_of_ble_eq_true rfl), (Nat.le_of_ble_eq_true rfl)⟩ rfl rfl (Nat.le_of_ble_eq_true rfl)) rfl rfl rfl (Nat.zero_le _) (Nat.zero_le _) fun r9 h10 =>
    aw_istore (pc := 26) C (i := 4) (lv' := [(0, .ref 0), (1, .int v1), (2, .int v2), (3, .int v3), (4, .int r9)]) dK_a_135.2.2.2.2.2.1 (by decide) rfl <|
    aw_iload (pc := 28) C (i := 4) dK_a_135.2.2.2.2.2.2.1 rfl <|
    aw_if_eq (pc := 30) C (tgt := 40) dK_a_135.2.2.2.2.2.2.2.1 rfl (fun _ =>
    aw_aload_n (pc := 40) C (i := 0) dK_a_136.2.2.2.2.1 rfl rfl <|
    aw_getR (pc := 41) C (b := 42) dK_a_136.2.2.2.2.2.1 fl_X10_72 sC_0 rfl rC_0_1 <|
    aw_iload_n (pc := 44) C (i := 1) dK_a_136.2.2.2.2.2.2.1 rfl rfl <|
    aw_callF (pc := 45) C (cr_V (rest := []) (F := (X5_at 42 v1)) C (c_X5_at X.2.1 42 (Or.inl rfl) v1) dK_a_136.2.2.2.2.2.2.2.1 mf_X5_at ml_X10_169 im_X5_at se_X5_at (mt_s (Or.inl rfl)) rfl ⟨(Nat.le_of_ble_eq_true rfl), (Nat.le_of_ble_eq_true rfl)⟩ rfl rfl (Nat.le_of_ble_eq_true rfl)) rfl rfl rfl (Nat.zero_le _) (Nat.zero_le _) fun r11 h12 =>
    aw_cs fun hs13 =>
    aw_astore (pc := 48) C (i := 5) (lv' := [(0, .ref 0), (1, .int v1), (2, .int v2), (3, .int v3), (4, .int r9), (5, .ref r11)]) dK_a_137.1 (by decide) rfl <|
    aw_aload (pc := 50) C (i := 5) dK_a_137.2.1 rfl <|
    aw_getW (pc := 52) C (b := (36 + h12.2.2 r11 % 6)) dK_a_137.2.2.1 fl_X10_173 hs13 rfl rfl <|
    aw_aload (pc := 55) C (i := 5) dK_a_137.2.2.2.1 rfl <|
    aw_iload_n (pc := 57) C (i := 2) dK_a_137.2.2.2.2.1 rfl rfl <|
    aw_iload_n (pc := 58) C (i := 3) dK_a_137.2.2.2.2.2.1 rfl rfl <|
    aw_aload_n (pc := 59) C (i := 0) dK_a_137.2.2.2.2.2.2.1 rfl rfl <|
    aw_getR (pc := 60) C (b := 42) dK_a_137.2.2.2.2.2.2.2.1 fl_X10_72 sC_0 rfl rC_0_1 <|
    aw_getI (pc := 63) C dK_a_138.1 fl_X10_157 (mt_s (Or.inl rfl)) rfl <|
    aw_callF (pc := 66) C (kdA_lengthOf C dK_a_138.2.1 ml_X10_238 (h12.2.2 r11) r11 hs13 v2 v3 (h12.1 42 1) [] ⟨⟨(Nat.le_of_ble_eq_true rfl), (Nat.le_of_ble_eq_true rfl)⟩, ⟨(Nat.le_of_ble_eq_true rfl), (Nat.le_of_ble_eq_true rfl)⟩, ⟨(Nat.le_of_ble_eq_true rfl), (Nat.le_of_ble_eq_true rfl)⟩, ⟨(Nat.le_of_ble_eq_true rfl), (Nat.le_of_ble_eq_true rfl)⟩, ⟨(Nat.le_of_ble_eq_true rfl), (Nat.le_of_ble_eq_true rfl)⟩, ⟨(Nat.le_of_ble_eq_true rfl), (Nat.le_of_ble_eq_true rfl)⟩⟩ (Nat.le_of_ble_eq_true rfl)) rfl rfl rfl (Nat.zero_le _) (Nat.zero_le _) fun r14 h15 =>
    aw_iret (pc := 69) C dK_a_138.2.2.1 rfl rfl) (fun _ =>
    aw_aload_n (pc := 33) C (i := 0) dK_a_136.1 rfl rfl <|
    aw_iload (pc := 34) C (i := 4) dK_a_136.2.1 rfl <|
    aw_callF (pc := 36) C (cr_V (rest := []) (F := (X10_refuse r9)) C (c_X10_refuse X.2.1 r9) dK_a_136.2.2.1 mf_X10_refuse ml_X10_111 im_X10_refuse se_X10_refuse sC_0 rfl ⟨(Nat.le_of_ble_eq_true rfl), (Nat.le_of_ble_eq_true rfl)⟩ rfl rfl (Nat.le_of_ble_eq_true rfl)) rfl rfl rfl (Nat.zero_le _) (Nat.zero_le _) fun r16 h17 =>
    aw_iret (pc := 39) C dK_a_136.2.2.2.1 rfl rfl)

abbrev rmX10_fraction : Room := { frames := 0, cells := 0, slots := 0, locals := 0 }
def X10_fraction_j55  (v5 : Int64) (s0 : Int64) (h : AH) : Option (Int64 × AH) :=
    if (lcmpV v5 0) = 0 then (some (s0, h))
    else (if v5 = 0 then none else (some ((s0 / v5), h)))
set_option maxRecDepth 100000 in
theorem aX10_fraction_j55 {X : MCx} {yd : Dyn} {A : Nat → Prop} (C : OK X cX10_fraction RX10 12 (some .long) rmX10_fraction A)  (v5 : Int64) (s0 : Int64) (h : AH) : AW X 12 ZC yd A 0 0 (QF X rmX10_fraction ZC yd rvL A) 55 [(5, .long v5)] [.long s0] h (X10_fraction_j55 v5 s0 h) := by
    exact aw_lstore (pc := 55) C (i := 9) (lv' := [(5, .long v5), (9, .long s0)]) dK_a_142.2.2.2.2.1 (by decide) rfl <|
    aw_lload (pc := 57) C (i := 5) dK_a_142.2.2.2.2.2.1 rfl <|
    aw_lconst (pc := 59) C (v := 0) dK_a_142.2.2.2.2.2.2.1 rfl <|
    aw_lcmp (pc := 60) C dK_a_142.2.2.2.2.2.2.2.1 <|
    aw_if_ne (pc := 61) C (tgt := 69) dK_a_143.1 rfl (fun _ =>
    aw_lload (pc := 64) C (i := 9) dK_a_143.2.1 rfl <|
    aw_goto (pc := 66) C (tgt := 74) dK_a_143.2.2.1 rfl <|
    aw_lret (pc := 74) C dK_a_143.2.2.2.2.2.2.1 rfl rfl) (fun _ =>
    aw_lload (pc := 69) C (i := 9) dK_a_143.2.2.2.1 rfl <|
    aw_lload (pc := 71) C (i := 5) dK_a_143.2.2.2.2.1 rfl <|
    aw_ldiv (pc := 73) C dK_a_143.2.2.2.2.2.1 <|
    aw_lret (pc := 74) C dK_a_143.2.2.2.2.2.2.1 rfl rfl)
def X10_fraction_j45  (v0 : Int64) (v2 : Int64) (v4 : Int32) (v5 : Int64) (h : AH) : Option (Int64 × AH) :=
    if v4 = 0 then (X10_fraction_j55 v5 v0 h)
    else (X10_fraction_j55 v5 v2 h)
set_option maxRecDepth 100000 in
theorem aX10_fraction_j45 {X : MCx} {yd : Dyn} {A : Nat → Prop} (C : OK X cX10_fraction RX10 12 (some .long) rmX10_fraction A)  (v0 : Int64) (v2 : Int64) (v4 : Int32) (v5 : Int64) (h : AH) : AW X 12 ZC yd A 0 0 (QF X rmX10_fraction ZC yd rvL A) 45 [(0, .long v0), (2, .long v2), (4, .int v4), (5, .long v5)] [] h (X10_fraction_j45 v0 v2 v4 v5 h) := by
    exact aw_iload (pc := 45) C (i := 4) dK_a_141.2.2.2.2.2.2.2.1 rfl <|
    aw_if_ne (pc := 47) C (tgt := 54) dK_a_142.1 rfl (fun _ =>
    aw_lload_n (pc := 50) C (i := 0) dK_a_142.2.1 rfl rfl <|
    aw_goto (pc := 51) C (tgt := 55) dK_a_142.2.2.1 rfl <|
    aw_drop [3] (aX10_fraction_j55 C v5 v0 h)) (fun _ =>
    aw_lload_n (pc := 54) C (i := 2) dK_a_142.2.2.2.1 rfl rfl <|
    aw_drop [3] (aX10_fraction_j55 C v5 v2 h))
def X10_fraction_l9  (v0 : Int64) (v2 : Int64) (v4 : Int32) : Nat → Int64 → Int64 → Int32 → AH → Option (Int64 × AH)
  | 0, _, _, _, _ => none
  | n + 1, v5, v7, v9, h =>
    if 1000 ≤ v9 then (X10_fraction_j45 v0 v2 v4 v5 h)
    else (if (lcmpV v7 0) = 0 then (X10_fraction_j45 v0 v2 v4 v5 h)
    else (if v7 = 0 then none else (vl (rm64 v5 v7) fun x1 =>
    vl (v9 + 1) fun x2 =>
    (X10_fraction_l9 v0 v2 v4 n) v7 x1 x2 h)))
set_option maxRecDepth 100000 in
theorem aX10_fraction_l9 {X : MCx} {yd : Dyn} {A : Nat → Prop} (C : OK X cX10_fraction RX10 12 (some .long) rmX10_fraction A)  (v0 : Int64) (v2 : Int64) (v4 : Int32) : ∀ (n : Nat) (v5 : Int64) (v7 : Int64) (v9 : Int32) (h : AH), AW X 12 ZC yd A 0 0 (QF X rmX10_fraction ZC yd rvL A) 9 [(0, .long v0), (2, .long v2), (4, .int v4), (5, .long v5), (7, .long v7), (9, .int v9)] [] h (X10_fraction_l9 v0 v2 v4 n v5 v7 v9 h) := by
  intro n
  induction n with
  | zero => intro v5 v7 v9 h; exact aw_none
  | succ n ih =>
    intro v5 v7 v9 h
    exact aw_iload (pc := 9) C (i := 9) dK_a_139.2.2.2.2.2.2.1 rfl <|
    aw_sipush (pc := 11) C (v := 1000) dK_a_139.2.2.2.2.2.2.2.1 rfl <|
    aw_icmp_ge (pc := 14) C (tgt := 45) dK_a_140.1 rfl (fun _ =>
    aw_drop [0, 1, 2, 3] (aX10_fraction_j45 C v0 v2 v4 v5 h)) (fun _ =>
    aw_lload (pc := 17) C (i := 7) dK_a_140.2.1 rfl <|
    aw_lconst (pc := 19) C (v := 0) dK_a_140.2.2.1 rfl <|
    aw_lcmp (pc := 20) C dK_a_140.2.2.2.1 <|
    aw_if_eq (pc := 21) C (tgt := 45) dK_a_140.2.2.2.2.1 rfl (fun _ =>
    aw_drop [0, 1, 2, 3] (aX10_fraction_j45 C v0 v2 v4 v5 h)) (fun _ =>
    aw_lload (pc := 24) C (i := 5) dK_a_140.2.2.2.2.2.1 rfl <|
    aw_lload (pc := 26) C (i := 7) dK_a_140.2.2.2.2.2.2.1 rfl <|
    aw_lrem (pc := 28) C dK_a_140.2.2.2.2.2.2.2.1 <|
    aw_lstoreV (pc := 29) C (i := 10) (fun x1 => [(0, .long v0), (2, .long v2), (4, .int v4), (5, .long v5), (7, .long v7), (9, .int v9), (10, .long x1)]) dK_a_141.1 (by decide) (fun _ => rfl) fun x1 =>
    aw_lload (pc := 31) C (i := 7) dK_a_141.2.1 rfl <|
    aw_lstore (pc := 33) C (i := 5) (lv' := [(0, .long v0), (2, .long v2), (4, .int v4), (5, .long v7), (7, .long v7), (9, .int v9), (10, .long x1)]) dK_a_141.2.2.1 (by decide) rfl <|
    aw_lload (pc := 35) C (i := 10) dK_a_141.2.2.2.1 rfl <|
    aw_lstore (pc := 37) C (i := 7) (lv' := [(0, .long v0), (2, .long v2), (4, .int v4), (5, .long v7), (7, .long x1), (9, .int v9), (10, .long x1)]) dK_a_141.2.2.2.2.1 (by decide) rfl <|
    aw_iincV (pc := 39) C (i := 9) (cst := 1) (fun x2 => [(0, .long v0), (2, .long v2), (4, .int v4), (5, .long v7), (7, .long x1), (9, .int x2), (10, .long x1)]) dK_a_141.2.2.2.2.2.1 rfl rfl (by decide) (fun _ => rfl) fun x2 =>
    aw_goto (pc := 42) C (tgt := 9) dK_a_141.2.2.2.2.2.2.1 rfl <|
    aw_drop [0, 1, 2, 3, 4, 5] (ih v7 x1 x2 h)))
def X10_fraction (v0 : Int64) (v2 : Int64) (v4 : Int32) (h : AH) : Option (Int64 × AH) :=
    X10_fraction_l9 v0 v2 v4 FU v0 v2 0 h
set_option maxRecDepth 100000 in
theorem c_X10_fraction (l : Launch) (v0 : Int64) (v2 : Int64) (v4 : Int32) : MC l yX10_fraction cX10_fraction 12 (some .long) rmX10_fraction ZC [.long v0, .long v2, .int v4] rvL (X10_fraction v0 v2 v4) :=
  MC.of (own := RX10) pn_RX10 rfl (Nat.le_of_ble_eq_true rfl) fun X yd A h _ C =>
    aw_lload_n (pc := 0) C (i := 0) dK_a_139.1 rfl rfl <|
    aw_lstore (pc := 1) C (i := 5) (lv' := [(0, .long v0), (2, .long v2), (4, .int v4), (5, .long v0)]) dK_a_139.2.1 (by decide) rfl <|
    aw_lload_n (pc := 3) C (i := 2) dK_a_139.2.2.1 rfl rfl <|
    aw_lstore (pc := 4) C (i := 7) (lv' := [(0, .long v0), (2, .long v2), (4, .int v4), (5, .long v0), (7, .long v2)]) dK_a_139.2.2.2.1 (by decide) rfl <|
    aw_iconst (pc := 6) C (v := 0) dK_a_139.2.2.2.2.1 rfl <|
    aw_istore (pc := 7) C (i := 9) (lv' := [(0, .long v0), (2, .long v2), (4, .int v4), (5, .long v0), (7, .long v2), (9, .int 0)]) dK_a_139.2.2.2.2.2.1 (by decide) rfl <|
    (aX10_fraction_l9 C v0 v2 v4 FU v0 v2 0 h)
end
section
abbrev rmX10_spreadNow : Room := { frames := 5, cells := 0, slots := 0, locals := 136 }
def X10_spreadNow (v1 : Int32) (v2 : Int32) (h : AH) : Option (Unit × AH) :=
    bd (X5_at 42 v1 h) fun r1 h2 =>
    cs ZC r1 (.inr 2) (bd (X10_placeOf v1 h2) fun r4 h5 =>
    bd (X1_spread r1 (h2.1 42 0) (h2.1 42 1) r4 v2 h5) fun _ h7 =>
    some ((), h7))
set_option maxRecDepth 100000 in
theorem c_X10_spreadNow (l : Launch) (v1 : Int32) (v2 : Int32) : MC l yX10_spreadNow cX10_spreadNow 3 none rmX10_spreadNow ZC [.ref 0, .int v1, .int v2] rvV (X10_spreadNow v1 v2) :=
  MC.of (own := RX10) pn_RX10 rfl (Nat.le_of_ble_eq_true rfl) fun X yd A h _ C =>
    aw_aload_n (pc := 0) C (i := 0) dK_a_144.1 rfl rfl <|
    aw_getR (pc := 1) C (b := 8) dK_a_144.2.1 fl_X10_35 sC_0 rfl rC_0_11 <|
    aw_aload_n (pc := 4) C (i := 0) dK_a_144.2.2.1 rfl rfl <|
    aw_getR (pc := 5) C (b := 42) dK_a_144.2.2.2.1 fl_X10_72 sC_0 rfl rC_0_1 <|
    aw_iload_n (pc := 8) C (i := 1) dK_a_144.2.2.2.2.1 rfl rfl <|
    aw_callF (pc := 9) C (cr_V (rest := [.ref 8]) (F := (X5_at 42 v1)) C (c_X5_at X.2.1 42 (Or.inl rfl) v1) dK_a_144.2.2.2.2.2.1 mf_X5_at ml_X10_169 im_X5_at se_X5_at (mt_s (Or.inl rfl)) rfl ⟨(Nat.le_of_ble_eq_true rfl), (Nat.le_of_ble_eq_true rfl)⟩ rfl rfl (Nat.le_of_ble_eq_true rfl)) rfl rfl rfl (Nat.zero_le _) (Nat.zero_le _) fun r1 h2 =>
    aw_cs fun hs3 =>
    aw_aload_n (pc := 12) C (i := 0) dK_a_144.2.2.2.2.2.2.1 rfl rfl <|
    aw_getR (pc := 13) C (b := 42) dK_a_144.2.2.2.2.2.2.2.1 fl_X10_72 sC_0 rfl rC_0_1 <|
    aw_getI (pc := 16) C dK_a_145.1 fl_X10_163 (mt_s (Or.inl rfl)) rfl <|
    aw_aload_n (pc := 19) C (i := 0) dK_a_145.2.1 rfl rfl <|
    aw_getR (pc := 20) C (b := 42) dK_a_145.2.2.1 fl_X10_72 sC_0 rfl rC_0_1 <|
    aw_getI (pc := 23) C dK_a_145.2.2.2.1 fl_X10_157 (mt_s (Or.inl rfl)) rfl <|
    aw_aload_n (pc := 26) C (i := 0) dK_a_145.2.2.2.2.1 rfl rfl <|
    aw_iload_n (pc := 27) C (i := 1) dK_a_145.2.2.2.2.2.1 rfl rfl <|
    aw_callF (pc := 28) C (cr_V (rest := [.int (h2.1 42 1), .int (h2.1 42 0), .ref r1, .ref 8]) (F := (X10_placeOf v1)) C (c_X10_placeOf X.2.1 v1) dK_a_145.2.2.2.2.2.2.1 mf_X10_placeOf ml_X10_229 im_X10_placeOf se_X10_placeOf sC_0 rfl ⟨(Nat.le_of_ble_eq_true rfl), (Nat.le_of_ble_eq_true rfl)⟩ rfl rfl (Nat.le_of_ble_eq_true rfl)) rfl rfl rfl (Nat.zero_le _) (Nat.zero_le _) fun r4 h5 =>
    aw_iload_n (pc := 31) C (i := 2) dK_a_145.2.2.2.2.2.2.2.1 rfl rfl <|
    aw_callF (pc := 32) C (cr_V (rest := []) (F := (X1_spread r1 (h2.1 42 0) (h2.1 42 1) r4 v2)) C (c_X1_spread X.2.1 r1 hs3 (h2.1 42 0) (h2.1 42 1) r4 v2) dK_a_146.1 mf_X1_spread ml_X10_242 im_X1_spread se_X1_spread sC_8 rfl ⟨(Nat.le_of_ble_eq_true rfl), (Nat.le_of_ble_eq_true rfl)⟩ rfl rfl (Nat.le_of_ble_eq_true rfl)) rfl rfl rfl (Nat.zero_le _) (Nat.zero_le _) fun _ h7 =>
    aw_vret (pc := 35) C dK_a_146.2.1 rfl rfl

abbrev rmX10_spreadAt : Room := { frames := 5, cells := 0, slots := 0, locals := 136 }
def X10_spreadAt (p1 : Nat) (v2 : Int32) (h : AH) : Option (Unit × AH) :=
    bd (X1_spread p1 (h.1 42 0) (h.1 42 1) v2 0 h) fun _ h2 =>
    some ((), h2)
set_option maxRecDepth 100000 in
theorem c_X10_spreadAt (l : Launch) (p1 : Nat) (hJ1 : ZC.1[p1]? = some (.inr 2)) (v2 : Int32) : MC l yX10_spreadAt cX10_spreadAt 3 none rmX10_spreadAt ZC [.ref 0, .ref p1, .int v2] rvV (X10_spreadAt p1 v2) :=
  MC.of (own := RX10) pn_RX10 rfl (Nat.le_of_ble_eq_true rfl) fun X yd A h _ C =>
    aw_aload_n (pc := 0) C (i := 0) dK_a_147.1 rfl rfl <|
    aw_getR (pc := 1) C (b := 8) dK_a_147.2.1 fl_X10_35 sC_0 rfl rC_0_11 <|
    aw_aload_n (pc := 4) C (i := 1) dK_a_147.2.2.1 rfl rfl <|
    aw_aload_n (pc := 5) C (i := 0) dK_a_147.2.2.2.1 rfl rfl <|
    aw_getR (pc := 6) C (b := 42) dK_a_147.2.2.2.2.1 fl_X10_72 sC_0 rfl rC_0_1 <|
    aw_getI (pc := 9) C dK_a_147.2.2.2.2.2.1 fl_X10_163 (mt_s (Or.inl rfl)) rfl <|
    aw_aload_n (pc := 12) C (i := 0) dK_a_147.2.2.2.2.2.2.1 rfl rfl <|
    aw_getR (pc := 13) C (b := 42) dK_a_147.2.2.2.2.2.2.2.1 fl_X10_72 sC_0 rfl rC_0_1 <|
    aw_getI (pc := 16) C dK_a_148.1 fl_X10_157 (mt_s (Or.inl rfl)) rfl <|
    aw_iload_n (pc := 19) C (i := 2) dK_a_148.2.1 rfl rfl <|
    aw_iconst (pc := 20) C (v := 0) dK_a_148.2.2.1 rfl <|
    aw_callF (pc := 21) C (cr_V (rest := []) (F := (X1_spread p1 (h.1 42 0) (h.1 42 1) v2 0)) C (c_X1_spread X.2.1 p1 hJ1 (h.1 42 0) (h.1 42 1) v2 0) dK_a_148.2.2.2.1 mf_X1_spread ml_X10_242 im_X1_spread se_X1_spread sC_8 rfl ⟨(Nat.le_of_ble_eq_true rfl), (Nat.le_of_ble_eq_true rfl)⟩ rfl rfl (Nat.le_of_ble_eq_true rfl)) rfl rfl rfl (Nat.zero_le _) (Nat.zero_le _) fun _ h2 =>
    aw_vret (pc := 24) C dK_a_148.2.2.2.2.1 rfl rfl

abbrev rmX10_off : Room := { frames := 6, cells := 0, slots := 0, locals := 158 }
def X10_off (v1 : Int32) (v2 : Int32) (v3 : Int32) (h : AH) : Option (Int64 × AH) :=
    bd (X10_nobody v1 h) fun r1 h2 =>
    bd (X10_outside v2 (-300) 300 h2) fun r3 h4 =>
    bd (X10_first r1 r3 h4) fun r5 h6 =>
    bd (X10_noPart v3 h6) fun r7 h8 =>
    bd (X10_first r5 r7 h8) fun r9 h10 =>
    if r9 = 0 then (bd (X10_spreadNow v1 v2 h10) fun _ h12 =>
    bd (X10_fraction (h12.2.1 8 4) (h12.2.1 8 2) v3 h12) fun r13 h14 =>
    some (r13, h14))
    else (bd (X10_refuse r9 h10) fun r15 h16 =>
    some ((4000000000000000000 - r15.toInt64), h16))
set_option maxRecDepth 100000 in
theorem c_X10_off (l : Launch) (v1 : Int32) (v2 : Int32) (v3 : Int32) : MC l yX10_off cX10_off 5 (some .long) rmX10_off ZC [.ref 0, .int v1, .int v2, .int v3] rvL (X10_off v1 v2 v3) :=
  MC.of (own := RX10) pn_RX10 rfl (Nat.le_of_ble_eq_true rfl) fun X yd A h _ C =>
    aw_aload_n (pc := 0) C (i := 0) dK_a_149.1 rfl rfl <|
    aw_iload_n (pc := 1) C (i := 1) dK_a_149.2.1 rfl rfl <|
    aw_callF (pc := 2) C (cr_V (rest := []) (F := (X10_nobody v1)) C (c_X10_nobody X.2.1 v1) dK_a_149.2.2.1 mf_X10_nobody ml_X10_93 im_X10_nobody se_X10_nobody sC_0 rfl ⟨(Nat.le_of_ble_eq_true rfl), (Nat.le_of_ble_eq_true rfl)⟩ rfl rfl (Nat.le_of_ble_eq_true rfl)) rfl rfl rfl (Nat.zero_le _) (Nat.zero_le _) fun r1 h2 =>
    aw_iload_n (pc := 5) C (i := 2) dK_a_149.2.2.2.1 rfl rfl <|
    aw_sipush (pc := 6) C (v := (-300)) dK_a_149.2.2.2.2.1 rfl <|
    aw_sipush (pc := 9) C (v := 300) dK_a_149.2.2.2.2.2.1 rfl <|
    aw_callF (pc := 12) C (cr_S (rest := [.int r1]) (F := (X10_outside v2 (-300) 300)) C (c_X10_outside X.2.1 v2 (-300) 300) dK_a_149.2.2.2.2.2.2.1 mf_X10_outside ml_X10_104 st_X10_outside ⟨(Nat.le_of_ble_eq_true rfl), (Nat.le_of_ble_eq_true rfl)⟩ rfl rfl (Nat.le_of_ble_eq_true rfl)) rfl rfl rfl (Nat.zero_le _) (Nat.zero_le _) fun r3 h4 =>
    aw_callF (pc := 15) C (cr_S (rest := []) (F := (X10_first r1 r3)) C (c_X10_first X.2.1 r1 r3) dK_a_149.2.2.2.2.2.2.2.1 mf_X10_first ml_X10_97 st_X10_first ⟨(Nat.le_of_ble_eq_true rfl), (Nat.le_of_ble_eq_true rfl)⟩ rfl rfl (Nat.le_of_ble_eq_true rfl)) rfl rfl rfl (Nat.zero_le _) (Nat.zero_le _) fun r5 h6 =>
    aw_iload_n (pc := 18) C (i := 3) dK_a_150.1 rfl rfl <|
    aw_callF (pc := 19) C (cr_S (rest := [.int r5]) (F := (X10_noPart v3)) C (c_X10_noPart X.2.1 v3) dK_a_150.2.1 mf_X10_noPart ml_X10_246 st_X10_noPart ⟨(Nat.le_of_ble_eq_true rfl), (Nat.le_of_ble_eq_true rfl)⟩ rfl rfl (Nat.le_of_ble_eq_true rfl)) rfl rfl rfl (Nat.zero_le _) (Nat.zero_le _) fun r7 h8 =>
    aw_callF (pc := 22) C (cr_S (rest := []) (F := (X10_first r5 r7)) C (c_X10_first X.2.1 r5 r7) dK_a_150.2.2.1 mf_X10_first ml_X10_97 st_X10_first ⟨(Nat.le_of_ble_eq_true rfl), (Nat.le_of_ble_eq_true rfl)⟩ rfl rfl (Nat.le_of_ble_eq_true rfl)) rfl rfl rfl (Nat.zero_le _) (Nat.zero_le _) fun r9 h10 =>
    aw_istore (pc := 25) C (i := 4) (lv' := [(0, .ref 0), (1, .int v1), (2, .int v2), (3, .int v3), (4, .int r9)]) dK_a_150.2.2.2.1 (by decide) rfl <|
    aw_iload (pc := 27) C (i := 4) dK_a_150.2.2.2.2.1 rfl <|
    aw_if_eq (pc := 29) C (tgt := 44) dK_a_150.2.2.2.2.2.1 rfl (fun _ =>
    aw_aload_n (pc := 44) C (i := 0) dK_a_151.2.2.2.2.2.1 rfl rfl <|
    aw_iload_n (pc := 45) C (i := 1) dK_a_151.2.2.2.2.2.2.1 rfl rfl <|
    aw_iload_n (pc := 46) C (i := 2) dK_a_151.2.2.2.2.2.2.2.1 rfl rfl <|
    aw_callF (pc := 47) C (cr_V (rest := []) (F := (X10_spreadNow v1 v2)) C (c_X10_spreadNow X.2.1 v1 v2) dK_a_152.1 mf_X10_spreadNow ml_X10_251 im_X10_spreadNow se_X10_spreadNow sC_0 rfl ⟨(Nat.le_of_ble_eq_true rfl), (Nat.le_of_ble_eq_true rfl)⟩ rfl rfl (Nat.le_of_ble_eq_true rfl)) rfl rfl rfl (Nat.zero_le _) (Nat.zero_le _) fun _ h12 =>
    aw_aload_n (pc := 50) C (i := 0) dK_a_152.2.1 rfl rfl <|
    aw_getR (pc := 51) C (b := 8) dK_a_152.2.2.1 fl_X10_35 sC_0 rfl rC_0_11 <|
    aw_getL (pc := 54) C dK_a_152.2.2.2.1 fl_X10_255 sC_8 rfl <|
    aw_aload_n (pc := 57) C (i := 0) dK_a_152.2.2.2.2.1 rfl rfl <|
    aw_getR (pc := 58) C (b := 8) dK_a_152.2.2.2.2.2.1 fl_X10_35 sC_0 rfl rC_0_11 <|
    aw_getL (pc := 61) C dK_a_152.2.2.2.2.2.2.1 fl_X10_259 sC_8 rfl <|
    aw_iload_n (pc := 64) C (i := 3) dK_a_152.2.2.2.2.2.2.2.1 rfl rfl <|
    aw_callF (pc := 65) C (cr_S (rest := []) (F := (X10_fraction (h12.2.1 8 4) (h12.2.1 8 2) v3)) C (c_X10_fraction X.2.1 (h12.2.1 8 4) (h12.2.1 8 2) v3) dK_a_153.1 mf_X10_fraction ml_X10_262 st_X10_fraction ⟨(Nat.le_of_ble_eq_true rfl), (Nat.le_of_ble_eq_true rfl)⟩ rfl rfl (Nat.le_of_ble_eq_true rfl)) rfl rfl rfl (Nat.zero_le _) (Nat.zero_le _) fun r13 h14 =>
    aw_lret (pc := 68) C dK_a_153.2.1 rfl rfl) (fun _ =>
    aw_ldc2_w (pc := 32) C (v := 4000000000000000000) dK_a_150.2.2.2.2.2.2.1 kc_X10_249 <|
    aw_aload_n (pc := 35) C (i := 0) dK_a_150.2.2.2.2.2.2.2.1 rfl rfl <|
    aw_iload (pc := 36) C (i := 4) dK_a_151.1 rfl <|
    aw_callF (pc := 38) C (cr_V (rest := [.long 4000000000000000000]) (F := (X10_refuse r9)) C (c_X10_refuse X.2.1 r9) dK_a_151.2.1 mf_X10_refuse ml_X10_111 im_X10_refuse se_X10_refuse sC_0 rfl ⟨(Nat.le_of_ble_eq_true rfl), (Nat.le_of_ble_eq_true rfl)⟩ rfl rfl (Nat.le_of_ble_eq_true rfl)) rfl rfl rfl (Nat.zero_le _) (Nat.zero_le _) fun r15 h16 =>
    aw_i2l (pc := 41) C dK_a_151.2.2.1 <|
    aw_lsub (pc := 42) C dK_a_151.2.2.2.1 <|
    aw_lret (pc := 43) C dK_a_151.2.2.2.2.1 rfl rfl)

abbrev rmX10_mean : Room := { frames := 6, cells := 0, slots := 0, locals := 158 }
def X10_mean_j66  (v3 : Int32) (s0 : Int64) (h : AH) : Option (Int64 × AH) :=
    bd (X10_fraction s0 (h.2.1 8 2) v3 h) fun r15 h16 =>
    some (r15, h16)
set_option maxRecDepth 100000 in
theorem aX10_mean_j66 {X : MCx} {yd : Dyn} {A : Nat → Prop} (C : OK X cX10_mean RX10 5 (some .long) rmX10_mean A)  (v3 : Int32) (s0 : Int64) (h : AH) : AW X 5 ZC yd A 0 0 (QF X rmX10_mean ZC yd rvL A) 66 [(0, .ref 0), (3, .int v3)] [.long s0] h (X10_mean_j66 v3 s0 h) := by
    exact aw_aload_n (pc := 66) C (i := 0) dK_a_158.2.1 rfl rfl <|
    aw_getR (pc := 67) C (b := 8) dK_a_158.2.2.1 fl_X10_35 sC_0 rfl rC_0_11 <|
    aw_getL (pc := 70) C dK_a_158.2.2.2.1 fl_X10_259 sC_8 rfl <|
    aw_iload_n (pc := 73) C (i := 3) dK_a_158.2.2.2.2.1 rfl rfl <|
    aw_callF (pc := 74) C (cr_S (rest := []) (F := (X10_fraction s0 (h.2.1 8 2) v3)) C (c_X10_fraction X.2.1 s0 (h.2.1 8 2) v3) dK_a_158.2.2.2.2.2.1 mf_X10_fraction ml_X10_262 st_X10_fraction ⟨(Nat.le_of_ble_eq_true rfl), (Nat.le_of_ble_eq_true rfl)⟩ rfl rfl (Nat.le_of_ble_eq_true rfl)) rfl rfl rfl (Nat.zero_le _) (Nat.zero_le _) fun r15 h16 =>
    aw_lret (pc := 77) C dK_a_158.2.2.2.2.2.2.1 rfl rfl
def X10_mean (v1 : Int32) (v2 : Int32) (v3 : Int32) (h : AH) : Option (Int64 × AH) :=
    bd (X10_nobody v1 h) fun r1 h2 =>
    bd (X10_noSuch v2 1 h2) fun r3 h4 =>
    bd (X10_noPart v3 h4) fun r5 h6 =>
    bd (X10_first r3 r5 h6) fun r7 h8 =>
    bd (X10_first r1 r7 h8) fun r9 h10 =>
    if r9 = 0 then (bd (X10_spreadNow v1 0 h10) fun _ h12 =>
    if v2 = 0 then (X10_mean_j66 v3 (h12.2.1 8 3) h12)
    else (bd (X1_meanWays h12) fun r13 h14 =>
    X10_mean_j66 v3 r13 h14))
    else (bd (X10_refuse r9 h10) fun r17 h18 =>
    some ((4000000000000000000 - r17.toInt64), h18))
set_option maxRecDepth 100000 in
theorem c_X10_mean (l : Launch) (v1 : Int32) (v2 : Int32) (v3 : Int32) : MC l yX10_mean cX10_mean 5 (some .long) rmX10_mean ZC [.ref 0, .int v1, .int v2, .int v3] rvL (X10_mean v1 v2 v3) :=
  MC.of (own := RX10) pn_RX10 rfl (Nat.le_of_ble_eq_true rfl) fun X yd A h _ C =>
    aw_aload_n (pc := 0) C (i := 0) dK_a_154.1 rfl rfl <|
    aw_iload_n (pc := 1) C (i := 1) dK_a_154.2.1 rfl rfl <|
    aw_callF (pc := 2) C (cr_V (rest := []) (F := (X10_nobody v1)) C (c_X10_nobody X.2.1 v1) dK_a_154.2.2.1 mf_X10_nobody ml_X10_93 im_X10_nobody se_X10_nobody sC_0 rfl ⟨(Nat.le_of_ble_eq_true rfl), (Nat.le_of_ble_eq_true rfl)⟩ rfl rfl (Nat.le_of_ble_eq_true rfl)) rfl rfl rfl (Nat.zero_le _) (Nat.zero_le _) fun r1 h2 =>
    aw_iload_n (pc := 5) C (i := 2) dK_a_154.2.2.2.1 rfl rfl <|
    aw_iconst (pc := 6) C (v := 1) dK_a_154.2.2.2.2.1 rfl <|
    aw_callF (pc := 7) C (cr_S (rest := [.int r1]) (F := (X10_noSuch v2 1)) C (c_X10_noSuch X.2.1 v2 1) dK_a_154.2.2.2.2.2.1 mf_X10_noSuch ml_X10_101 st_X10_noSuch ⟨(Nat.le_of_ble_eq_true rfl), (Nat.le_of_ble_eq_true rfl)⟩ rfl rfl (Nat.le_of_ble_eq_true rfl)) rfl rfl rfl (Nat.zero_le _) (Nat.zero_le _) fun r3 h4 =>
    aw_iload_n (pc := 10) C (i := 3) dK_a_154.2.2.2.2.2.2.1 rfl rfl <|
    aw_callF (pc := 11) C (cr_S (rest := [.int r3, .int r1]) (F := (X10_noPart v3)) C (c_X10_noPart X.2.1 v3) dK_a_154.2.2.2.2.2.2.2.1 mf_X10_noPart ml_X10_246 st_X10_noPart ⟨(Nat.le_of_ble_eq_true rfl), (Nat.le_of_ble_eq_true rfl)⟩ rfl rfl (Nat.le_of_ble_eq_true rfl)) rfl rfl rfl (Nat.zero_le _) (Nat.zero_le _) fun r5 h6 =>
    aw_callF (pc := 14) C (cr_S (rest := [.int r1]) (F := (X10_first r3 r5)) C (c_X10_first X.2.1 r3 r5) dK_a_155.1 mf_X10_first ml_X10_97 st_X10_first ⟨(Nat.le_of_ble_eq_true rfl), (Nat.le_of_ble_eq_true rfl)⟩ rfl rfl (Nat.le_of_ble_eq_true rfl)) rfl rfl rfl (Nat.zero_le _) (Nat.zero_le _) fun r7 h8 =>
    aw_callF (pc := 17) C (cr_S (rest := []) (F := (X10_first r1 r7)) C (c_X10_first X.2.1 r1 r7) dK_a_155.2.1 mf_X10_first ml_X10_97 st_X10_first ⟨(Nat.le_of_ble_eq_true rfl), (Nat.le_of_ble_eq_true rfl)⟩ rfl rfl (Nat.le_of_ble_eq_true rfl)) rfl rfl rfl (Nat.zero_le _) (Nat.zero_le _) fun r9 h10 =>
    aw_istore (pc := 20) C (i := 4) (lv' := [(0, .ref 0), (1, .int v1), (2, .int v2), (3, .int v3), (4, .int r9)]) dK_a_155.2.2.1 (by decide) rfl <|
    aw_iload (pc := 22) C (i := 4) dK_a_155.2.2.2.1 rfl <|
    aw_if_eq (pc := 24) C (tgt := 39) dK_a_155.2.2.2.2.1 rfl (fun _ =>
    aw_aload_n (pc := 39) C (i := 0) dK_a_156.2.2.2.2.1 rfl rfl <|
    aw_iload_n (pc := 40) C (i := 1) dK_a_156.2.2.2.2.2.1 rfl rfl <|
    aw_iconst (pc := 41) C (v := 0) dK_a_156.2.2.2.2.2.2.1 rfl <|
    aw_callF (pc := 42) C (cr_V (rest := []) (F := (X10_spreadNow v1 0)) C (c_X10_spreadNow X.2.1 v1 0) dK_a_156.2.2.2.2.2.2.2.1 mf_X10_spreadNow ml_X10_251 im_X10_spreadNow se_X10_spreadNow sC_0 rfl ⟨(Nat.le_of_ble_eq_true rfl), (Nat.le_of_ble_eq_true rfl)⟩ rfl rfl (Nat.le_of_ble_eq_true rfl)) rfl rfl rfl (Nat.zero_le _) (Nat.zero_le _) fun _ h12 =>
    aw_iload_n (pc := 45) C (i := 2) dK_a_157.1 rfl rfl <|
    aw_if_ne (pc := 46) C (tgt := 59) dK_a_157.2.1 rfl (fun _ =>
    aw_aload_n (pc := 49) C (i := 0) dK_a_157.2.2.1 rfl rfl <|
    aw_getR (pc := 50) C (b := 8) dK_a_157.2.2.2.1 fl_X10_35 sC_0 rfl rC_0_11 <|
    aw_getL (pc := 53) C dK_a_157.2.2.2.2.1 fl_X10_266 sC_8 rfl <|
    aw_goto (pc := 56) C (tgt := 66) dK_a_157.2.2.2.2.2.1 rfl <|
    aw_drop [0, 3] (aX10_mean_j66 C v3 (h12.2.1 8 3) h12)) (fun _ =>
    aw_aload_n (pc := 59) C (i := 0) dK_a_157.2.2.2.2.2.2.1 rfl rfl <|
    aw_getR (pc := 60) C (b := 8) dK_a_157.2.2.2.2.2.2.2.1 fl_X10_35 sC_0 rfl rC_0_11 <|
    aw_callF (pc := 63) C (cr_V (rest := []) (F := X1_meanWays) C (c_X1_meanWays X.2.1 ) dK_a_158.1 mf_X1_meanWays ml_X10_269 im_X1_meanWays se_X1_meanWays sC_8 rfl ⟨(Nat.le_of_ble_eq_true rfl), (Nat.le_of_ble_eq_true rfl)⟩ rfl rfl (Nat.le_of_ble_eq_true rfl)) rfl rfl rfl (Nat.zero_le _) (Nat.zero_le _) fun r13 h14 =>
    aw_drop [0, 3] (aX10_mean_j66 C v3 r13 h14))) (fun _ =>
    aw_ldc2_w (pc := 27) C (v := 4000000000000000000) dK_a_155.2.2.2.2.2.1 kc_X10_249 <|
    aw_aload_n (pc := 30) C (i := 0) dK_a_155.2.2.2.2.2.2.1 rfl rfl <|
    aw_iload (pc := 31) C (i := 4) dK_a_155.2.2.2.2.2.2.2.1 rfl <|
    aw_callF (pc := 33) C (cr_V (rest := [.long 4000000000000000000]) (F := (X10_refuse r9)) C (c_X10_refuse X.2.1 r9) dK_a_156.1 mf_X10_refuse ml_X10_111 im_X10_refuse se_X10_refuse sC_0 rfl ⟨(Nat.le_of_ble_eq_true rfl), (Nat.le_of_ble_eq_true rfl)⟩ rfl rfl (Nat.le_of_ble_eq_true rfl)) rfl rfl rfl (Nat.zero_le _) (Nat.zero_le _) fun r17 h18 =>
    aw_i2l (pc := 36) C dK_a_156.2.1 <|
    aw_lsub (pc := 37) C dK_a_156.2.2.1 <|
    aw_lret (pc := 38) C dK_a_156.2.2.2.1 rfl rfl)

abbrev rmX10_past : Room := { frames := 6, cells := 0, slots := 0, locals := 158 }
def X10_past (v1 : Int32) (v2 : Int32) (v3 : Int32) (h : AH) : Option (Int64 × AH) :=
    bd (X10_nobody v1 h) fun r1 h2 =>
    bd (X10_outside v2 0 999 h2) fun r3 h4 =>
    bd (X10_first r1 r3 h4) fun r5 h6 =>
    bd (X10_noPart v3 h6) fun r7 h8 =>
    bd (X10_first r5 r7 h8) fun r9 h10 =>
    if r9 = 0 then (bd (X10_spreadNow v1 0 h10) fun _ h12 =>
    bd (X1_waysPast v2 h12) fun r13 h14 =>
    bd (X10_fraction r13 (h14.2.1 8 2) v3 h14) fun r15 h16 =>
    some (r15, h16))
    else (bd (X10_refuse r9 h10) fun r17 h18 =>
    some ((4000000000000000000 - r17.toInt64), h18))
set_option maxRecDepth 100000 in
theorem c_X10_past (l : Launch) (v1 : Int32) (v2 : Int32) (v3 : Int32) : MC l yX10_past cX10_past 5 (some .long) rmX10_past ZC [.ref 0, .int v1, .int v2, .int v3] rvL (X10_past v1 v2 v3) :=
  MC.of (own := RX10) pn_RX10 rfl (Nat.le_of_ble_eq_true rfl) fun X yd A h _ C =>
    aw_aload_n (pc := 0) C (i := 0) dK_a_159.1 rfl rfl <|
    aw_iload_n (pc := 1) C (i := 1) dK_a_159.2.1 rfl rfl <|
    aw_callF (pc := 2) C (cr_V (rest := []) (F := (X10_nobody v1)) C (c_X10_nobody X.2.1 v1) dK_a_159.2.2.1 mf_X10_nobody ml_X10_93 im_X10_nobody se_X10_nobody sC_0 rfl ⟨(Nat.le_of_ble_eq_true rfl), (Nat.le_of_ble_eq_true rfl)⟩ rfl rfl (Nat.le_of_ble_eq_true rfl)) rfl rfl rfl (Nat.zero_le _) (Nat.zero_le _) fun r1 h2 =>
    aw_iload_n (pc := 5) C (i := 2) dK_a_159.2.2.2.1 rfl rfl <|
    aw_iconst (pc := 6) C (v := 0) dK_a_159.2.2.2.2.1 rfl <|
    aw_sipush (pc := 7) C (v := 999) dK_a_159.2.2.2.2.2.1 rfl <|
    aw_callF (pc := 10) C (cr_S (rest := [.int r1]) (F := (X10_outside v2 0 999)) C (c_X10_outside X.2.1 v2 0 999) dK_a_159.2.2.2.2.2.2.1 mf_X10_outside ml_X10_104 st_X10_outside ⟨(Nat.le_of_ble_eq_true rfl), (Nat.le_of_ble_eq_true rfl)⟩ rfl rfl (Nat.le_of_ble_eq_true rfl)) rfl rfl rfl (Nat.zero_le _) (Nat.zero_le _) fun r3 h4 =>
    aw_callF (pc := 13) C (cr_S (rest := []) (F := (X10_first r1 r3)) C (c_X10_first X.2.1 r1 r3) dK_a_159.2.2.2.2.2.2.2.1 mf_X10_first ml_X10_97 st_X10_first ⟨(Nat.le_of_ble_eq_true rfl), (Nat.le_of_ble_eq_true rfl)⟩ rfl rfl (Nat.le_of_ble_eq_true rfl)) rfl rfl rfl (Nat.zero_le _) (Nat.zero_le _) fun r5 h6 =>
    aw_iload_n (pc := 16) C (i := 3) dK_a_160.1 rfl rfl <|
    aw_callF (pc := 17) C (cr_S (rest := [.int r5]) (F := (X10_noPart v3)) C (c_X10_noPart X.2.1 v3) dK_a_160.2.1 mf_X10_noPart ml_X10_246 st_X10_noPart ⟨(Nat.le_of_ble_eq_true rfl), (Nat.le_of_ble_eq_true rfl)⟩ rfl rfl (Nat.le_of_ble_eq_true rfl)) rfl rfl rfl (Nat.zero_le _) (Nat.zero_le _) fun r7 h8 =>
    aw_callF (pc := 20) C (cr_S (rest := []) (F := (X10_first r5 r7)) C (c_X10_first X.2.1 r5 r7) dK_a_160.2.2.1 mf_X10_first ml_X10_97 st_X10_first ⟨(Nat.le_of_ble_eq_true rfl), (Nat.le_of_ble_eq_true rfl)⟩ rfl rfl (Nat.le_of_ble_eq_true rfl)) rfl rfl rfl (Nat.zero_le _) (Nat.zero_le _) fun r9 h10 =>
    aw_istore (pc := 23) C (i := 4) (lv' := [(0, .ref 0), (1, .int v1), (2, .int v2), (3, .int v3), (4, .int r9)]) dK_a_160.2.2.2.1 (by decide) rfl <|
    aw_iload (pc := 25) C (i := 4) dK_a_160.2.2.2.2.1 rfl <|
    aw_if_eq (pc := 27) C (tgt := 42) dK_a_160.2.2.2.2.2.1 rfl (fun _ =>
    aw_aload_n (pc := 42) C (i := 0) dK_a_161.2.2.2.2.2.1 rfl rfl <|
    aw_iload_n (pc := 43) C (i := 1) dK_a_161.2.2.2.2.2.2.1 rfl rfl <|
    aw_iconst (pc := 44) C (v := 0) dK_a_161.2.2.2.2.2.2.2.1 rfl <|
    aw_callF (pc := 45) C (cr_V (rest := []) (F := (X10_spreadNow v1 0)) C (c_X10_spreadNow X.2.1 v1 0) dK_a_162.1 mf_X10_spreadNow ml_X10_251 im_X10_spreadNow se_X10_spreadNow sC_0 rfl ⟨(Nat.le_of_ble_eq_true rfl), (Nat.le_of_ble_eq_true rfl)⟩ rfl rfl (Nat.le_of_ble_eq_true rfl)) rfl rfl rfl (Nat.zero_le _) (Nat.zero_le _) fun _ h12 =>
    aw_aload_n (pc := 48) C (i := 0) dK_a_162.2.1 rfl rfl <|
    aw_getR (pc := 49) C (b := 8) dK_a_162.2.2.1 fl_X10_35 sC_0 rfl rC_0_11 <|
    aw_iload_n (pc := 52) C (i := 2) dK_a_162.2.2.2.1 rfl rfl <|
    aw_callF (pc := 53) C (cr_V (rest := []) (F := (X1_waysPast v2)) C (c_X1_waysPast X.2.1 v2) dK_a_162.2.2.2.2.1 mf_X1_waysPast ml_X10_273 im_X1_waysPast se_X1_waysPast sC_8 rfl ⟨(Nat.le_of_ble_eq_true rfl), (Nat.le_of_ble_eq_true rfl)⟩ rfl rfl (Nat.le_of_ble_eq_true rfl)) rfl rfl rfl (Nat.zero_le _) (Nat.zero_le _) fun r13 h14 =>
    aw_aload_n (pc := 56) C (i := 0) dK_a_162.2.2.2.2.2.1 rfl rfl <|
    aw_getR (pc := 57) C (b := 8) dK_a_162.2.2.2.2.2.2.1 fl_X10_35 sC_0 rfl rC_0_11 <|
    aw_getL (pc := 60) C dK_a_162.2.2.2.2.2.2.2.1 fl_X10_259 sC_8 rfl <|
    aw_iload_n (pc := 63) C (i := 3) dK_a_163.1 rfl rfl <|
    aw_callF (pc := 64) C (cr_S (rest := []) (F := (X10_fraction r13 (h14.2.1 8 2) v3)) C (c_X10_fraction X.2.1 r13 (h14.2.1 8 2) v3) dK_a_163.2.1 mf_X10_fraction ml_X10_262 st_X10_fraction ⟨(Nat.le_of_ble_eq_true rfl), (Nat.le_of_ble_eq_true rfl)⟩ rfl rfl (Nat.le_of_ble_eq_true rfl)) rfl rfl rfl (Nat.zero_le _) (Nat.zero_le _) fun r15 h16 =>
    aw_lret (pc := 67) C dK_a_163.2.2.1 rfl rfl) (fun _ =>
    aw_ldc2_w (pc := 30) C (v := 4000000000000000000) dK_a_160.2.2.2.2.2.2.1 kc_X10_249 <|
    aw_aload_n (pc := 33) C (i := 0) dK_a_160.2.2.2.2.2.2.2.1 rfl rfl <|
    aw_iload (pc := 34) C (i := 4) dK_a_161.1 rfl <|
    aw_callF (pc := 36) C (cr_V (rest := [.long 4000000000000000000]) (F := (X10_refuse r9)) C (c_X10_refuse X.2.1 r9) dK_a_161.2.1 mf_X10_refuse ml_X10_111 im_X10_refuse se_X10_refuse sC_0 rfl ⟨(Nat.le_of_ble_eq_true rfl), (Nat.le_of_ble_eq_true rfl)⟩ rfl rfl (Nat.le_of_ble_eq_true rfl)) rfl rfl rfl (Nat.zero_le _) (Nat.zero_le _) fun r17 h18 =>
    aw_i2l (pc := 39) C dK_a_161.2.2.1 <|
    aw_lsub (pc := 40) C dK_a_161.2.2.2.1 <|
    aw_lret (pc := 41) C dK_a_161.2.2.2.2.1 rfl rfl)

abbrev rmX10_bestLook : Room := { frames := 6, cells := 0, slots := 0, locals := 158 }
def X10_bestLook_j97  (v3 : Int32) (v4 : Int32) (v5 : Int64) (v7 : Int32) (K48 : Int32 → Int64 → Int32 → AH → Option (Int32 × AH)) (h : AH) : Option (Int32 × AH) :=
    vl (v7 + 1) fun x16 =>
    K48 v4 v5 x16 h
set_option maxRecDepth 100000 in
theorem aX10_bestLook_j97 {X : MCx} {yd : Dyn} {A : Nat → Prop} (C : OK X cX10_bestLook RX10 10 (some .int) rmX10_bestLook A)  (v3 : Int32) (v4 : Int32) (v5 : Int64) (v7 : Int32) (K48 : Int32 → Int64 → Int32 → AH → Option (Int32 × AH)) (hK48 : ∀ (w4 : Int32) (w5 : Int64) (w7 : Int32) (h : AH), AW X 10 ZC yd A 0 0 (QF X rmX10_bestLook ZC yd rvI A) 48 [(0, .ref 0), (3, .int v3), (4, .int w4), (5, .long w5), (7, .int w7)] [] h (K48 w4 w5 w7 h)) (h : AH) : AW X 10 ZC yd A 0 0 (QF X rmX10_bestLook ZC yd rvI A) 97 [(0, .ref 0), (3, .int v3), (4, .int v4), (5, .long v5), (7, .int v7)] [] h (X10_bestLook_j97 v3 v4 v5 v7 K48 h) := by
    exact aw_iincV (pc := 97) C (i := 7) (cst := 1) (fun x16 => [(0, .ref 0), (3, .int v3), (4, .int v4), (5, .long v5), (7, .int x16)]) dK_a_170.2.2.2.1 rfl rfl (by decide) (fun _ => rfl) fun x16 =>
    aw_goto (pc := 100) C (tgt := 48) dK_a_170.2.2.2.2.1 rfl <|
    (hK48 v4 v5 x16 h)
def X10_bestLook_l48  (v3 : Int32) : Nat → Int32 → Int64 → Int32 → AH → Option (Int32 × AH)
  | 0, _, _, _, _ => none
  | n + 1, v4, v5, v7, h =>
    if 4 < v7 then (some (v4, h))
    else (vl (sI h 72 7 v7) fun h11 =>
    bd (X10_spreadAt 72 v3 h11) fun _ h13 =>
    bd (X1_meanWays h13) fun r14 h15 =>
    if (lcmpV r14 v5) ≤ 0 then (X10_bestLook_j97 v3 v4 v5 v7 (X10_bestLook_l48 v3 n) h15)
    else (X10_bestLook_j97 v3 v7 r14 v7 (X10_bestLook_l48 v3 n) h15))
set_option maxRecDepth 100000 in
theorem aX10_bestLook_l48 {X : MCx} {yd : Dyn} {A : Nat → Prop} (C : OK X cX10_bestLook RX10 10 (some .int) rmX10_bestLook A)  (v3 : Int32) : ∀ (n : Nat) (v4 : Int32) (v5 : Int64) (v7 : Int32) (h : AH), AW X 10 ZC yd A 0 0 (QF X rmX10_bestLook ZC yd rvI A) 48 [(0, .ref 0), (3, .int v3), (4, .int v4), (5, .long v5), (7, .int v7)] [] h (X10_bestLook_l48 v3 n v4 v5 v7 h) := by
  intro n
  induction n with
  | zero => intro v4 v5 v7 h; exact aw_none
  | succ n ih =>
    intro v4 v5 v7 h
    exact aw_iload (pc := 48) C (i := 7) dK_a_167.2.2.2.1 rfl <|
    aw_iconst (pc := 50) C (v := 4) dK_a_167.2.2.2.2.1 rfl <|
    aw_icmp_gt (pc := 51) C (tgt := 103) dK_a_167.2.2.2.2.2.1 rfl (fun _ =>
    aw_iload (pc := 103) C (i := 4) dK_a_170.2.2.2.2.2.1 rfl <|
    aw_iret (pc := 105) C dK_a_170.2.2.2.2.2.2.1 rfl rfl) (fun _ =>
    aw_aload_n (pc := 54) C (i := 0) dK_a_167.2.2.2.2.2.2.1 rfl rfl <|
    aw_getR (pc := 55) C (b := 72) dK_a_167.2.2.2.2.2.2.2.1 fl_X10_85 sC_0 rfl rC_0_12 <|
    aw_iload (pc := 58) C (i := 7) dK_a_168.1 rfl <|
    aw_putI (pc := 60) C dK_a_168.2.1 fp_X10_195 sC_72 rfl fun h11 =>
    aw_aload_n (pc := 63) C (i := 0) dK_a_168.2.2.1 rfl rfl <|
    aw_aload_n (pc := 64) C (i := 0) dK_a_168.2.2.2.1 rfl rfl <|
    aw_getR (pc := 65) C (b := 72) dK_a_168.2.2.2.2.1 fl_X10_85 sC_0 rfl rC_0_12 <|
    aw_iload_n (pc := 68) C (i := 3) dK_a_168.2.2.2.2.2.1 rfl rfl <|
    aw_callF (pc := 69) C (cr_V (rest := []) (F := (X10_spreadAt 72 v3)) C (c_X10_spreadAt X.2.1 72 sC_72 v3) dK_a_168.2.2.2.2.2.2.1 mf_X10_spreadAt ml_X10_282 im_X10_spreadAt se_X10_spreadAt sC_0 rfl ⟨(Nat.le_of_ble_eq_true rfl), (Nat.le_of_ble_eq_true rfl)⟩ rfl rfl (Nat.le_of_ble_eq_true rfl)) rfl rfl rfl (Nat.zero_le _) (Nat.zero_le _) fun _ h13 =>
    aw_aload_n (pc := 72) C (i := 0) dK_a_168.2.2.2.2.2.2.2.1 rfl rfl <|
    aw_getR (pc := 73) C (b := 8) dK_a_169.1 fl_X10_35 sC_0 rfl rC_0_11 <|
    aw_callF (pc := 76) C (cr_V (rest := []) (F := X1_meanWays) C (c_X1_meanWays X.2.1 ) dK_a_169.2.1 mf_X1_meanWays ml_X10_269 im_X1_meanWays se_X1_meanWays sC_8 rfl ⟨(Nat.le_of_ble_eq_true rfl), (Nat.le_of_ble_eq_true rfl)⟩ rfl rfl (Nat.le_of_ble_eq_true rfl)) rfl rfl rfl (Nat.zero_le _) (Nat.zero_le _) fun r14 h15 =>
    aw_lstore (pc := 79) C (i := 8) (lv' := [(0, .ref 0), (3, .int v3), (4, .int v4), (5, .long v5), (7, .int v7), (8, .long r14)]) dK_a_169.2.2.1 (by decide) rfl <|
    aw_lload (pc := 81) C (i := 8) dK_a_169.2.2.2.1 rfl <|
    aw_lload (pc := 83) C (i := 5) dK_a_169.2.2.2.2.1 rfl <|
    aw_lcmp (pc := 85) C dK_a_169.2.2.2.2.2.1 <|
    aw_if_le (pc := 86) C (tgt := 97) dK_a_169.2.2.2.2.2.2.1 rfl (fun _ =>
    aw_drop [0, 1, 2, 3, 4] (aX10_bestLook_j97 C v3 v4 v5 v7 (X10_bestLook_l48 v3 n) ih h15)) (fun _ =>
    aw_lload (pc := 89) C (i := 8) dK_a_169.2.2.2.2.2.2.2.1 rfl <|
    aw_lstore (pc := 91) C (i := 5) (lv' := [(0, .ref 0), (3, .int v3), (4, .int v4), (5, .long r14), (7, .int v7), (8, .long r14)]) dK_a_170.1 (by decide) rfl <|
    aw_iload (pc := 93) C (i := 7) dK_a_170.2.1 rfl <|
    aw_istore (pc := 95) C (i := 4) (lv' := [(0, .ref 0), (3, .int v3), (4, .int v7), (5, .long r14), (7, .int v7), (8, .long r14)]) dK_a_170.2.2.1 (by decide) rfl <|
    aw_drop [0, 1, 2, 3, 4] (aX10_bestLook_j97 C v3 v7 r14 v7 (X10_bestLook_l48 v3 n) ih h15)))
def X10_bestLook (v1 : Int32) (h : AH) : Option (Int32 × AH) :=
    bd (X10_nobody v1 h) fun r1 h2 =>
    if r1 = 0 then (bd (X5_at 42 v1 h2) fun r3 h4 =>
    cs ZC r3 (.inr 2) (bd (X2_copyFrom 72 r3 h4) fun _ h7 =>
    bd (X10_placeOf v1 h7) fun r8 h9 =>
    vl (-1) fun x10 =>
    X10_bestLook_l48 r8 FU 0 x10 0 h9))
    else (bd (X10_refuse r1 h2) fun r17 h18 =>
    some (r17, h18))
set_option maxRecDepth 100000 in
theorem c_X10_bestLook (l : Launch) (v1 : Int32) : MC l yX10_bestLook cX10_bestLook 10 (some .int) rmX10_bestLook ZC [.ref 0, .int v1] rvI (X10_bestLook v1) :=
  MC.of (own := RX10) pn_RX10 rfl (Nat.le_of_ble_eq_true rfl) fun X yd A h _ C =>
    aw_aload_n (pc := 0) C (i := 0) dK_a_164.1 rfl rfl <|
    aw_iload_n (pc := 1) C (i := 1) dK_a_164.2.1 rfl rfl <|
    aw_callF (pc := 2) C (cr_V (rest := []) (F := (X10_nobody v1)) C (c_X10_nobody X.2.1 v1) dK_a_164.2.2.1 mf_X10_nobody ml_X10_93 im_X10_nobody se_X10_nobody sC_0 rfl ⟨(Nat.le_of_ble_eq_true rfl), (Nat.le_of_ble_eq_true rfl)⟩ rfl rfl (Nat.le_of_ble_eq_true rfl)) rfl rfl rfl (Nat.zero_le _) (Nat.zero_le _) fun r1 h2 =>
    aw_istore_n (pc := 5) C (i := 2) (lv' := [(0, .ref 0), (1, .int v1), (2, .int r1)]) dK_a_164.2.2.2.1 rfl (by decide) rfl <|
    aw_iload_n (pc := 6) C (i := 2) dK_a_164.2.2.2.2.1 rfl rfl <|
    aw_if_eq (pc := 7) C (tgt := 16) dK_a_164.2.2.2.2.2.1 rfl (fun _ =>
    aw_aload_n (pc := 16) C (i := 0) dK_a_165.2.2.1 rfl rfl <|
    aw_getR (pc := 17) C (b := 72) dK_a_165.2.2.2.1 fl_X10_85 sC_0 rfl rC_0_12 <|
    aw_aload_n (pc := 20) C (i := 0) dK_a_165.2.2.2.2.1 rfl rfl <|
    aw_getR (pc := 21) C (b := 42) dK_a_165.2.2.2.2.2.1 fl_X10_72 sC_0 rfl rC_0_1 <|
    aw_iload_n (pc := 24) C (i := 1) dK_a_165.2.2.2.2.2.2.1 rfl rfl <|
    aw_callF (pc := 25) C (cr_V (rest := [.ref 72]) (F := (X5_at 42 v1)) C (c_X5_at X.2.1 42 (Or.inl rfl) v1) dK_a_165.2.2.2.2.2.2.2.1 mf_X5_at ml_X10_169 im_X5_at se_X5_at (mt_s (Or.inl rfl)) rfl ⟨(Nat.le_of_ble_eq_true rfl), (Nat.le_of_ble_eq_true rfl)⟩ rfl rfl (Nat.le_of_ble_eq_true rfl)) rfl rfl rfl (Nat.zero_le _) (Nat.zero_le _) fun r3 h4 =>
    aw_cs fun hs5 =>
    aw_callF (pc := 28) C (cr_V (rest := []) (F := (X2_copyFrom 72 r3)) C (c_X2_copyFrom X.2.1 72 sC_72 r3 hs5) dK_a_166.1 mf_X2_copyFrom ml_X10_277 im_X2_copyFrom se_X2_copyFrom sC_72 rfl ⟨(Nat.le_of_ble_eq_true rfl), (Nat.le_of_ble_eq_true rfl)⟩ rfl rfl (Nat.le_of_ble_eq_true rfl)) rfl rfl rfl (Nat.zero_le _) (Nat.zero_le _) fun _ h7 =>
    aw_aload_n (pc := 31) C (i := 0) dK_a_166.2.1 rfl rfl <|
    aw_iload_n (pc := 32) C (i := 1) dK_a_166.2.2.1 rfl rfl <|
    aw_callF (pc := 33) C (cr_V (rest := []) (F := (X10_placeOf v1)) C (c_X10_placeOf X.2.1 v1) dK_a_166.2.2.2.1 mf_X10_placeOf ml_X10_229 im_X10_placeOf se_X10_placeOf sC_0 rfl ⟨(Nat.le_of_ble_eq_true rfl), (Nat.le_of_ble_eq_true rfl)⟩ rfl rfl (Nat.le_of_ble_eq_true rfl)) rfl rfl rfl (Nat.zero_le _) (Nat.zero_le _) fun r8 h9 =>
    aw_istore_n (pc := 36) C (i := 3) (lv' := [(0, .ref 0), (1, .int v1), (2, .int r1), (3, .int r8)]) dK_a_166.2.2.2.2.1 rfl (by decide) rfl <|
    aw_iconst (pc := 37) C (v := 0) dK_a_166.2.2.2.2.2.1 rfl <|
    aw_istore (pc := 38) C (i := 4) (lv' := [(0, .ref 0), (1, .int v1), (2, .int r1), (3, .int r8), (4, .int 0)]) dK_a_166.2.2.2.2.2.2.1 (by decide) rfl <|
    aw_ldc2_w (pc := 40) C (v := (-1)) dK_a_166.2.2.2.2.2.2.2.1 kc_X10_280 <|
    aw_lstoreV (pc := 43) C (i := 5) (fun x10 => [(0, .ref 0), (1, .int v1), (2, .int r1), (3, .int r8), (4, .int 0), (5, .long x10)]) dK_a_167.1 (by decide) (fun _ => rfl) fun x10 =>
    aw_iconst (pc := 45) C (v := 0) dK_a_167.2.1 rfl <|
    aw_istore (pc := 46) C (i := 7) (lv' := [(0, .ref 0), (1, .int v1), (2, .int r1), (3, .int r8), (4, .int 0), (5, .long x10), (7, .int 0)]) dK_a_167.2.2.1 (by decide) rfl <|
    aw_drop [0, 3, 4, 5, 6] (aX10_bestLook_l48 C r8 FU 0 x10 0 h9)) (fun _ =>
    aw_aload_n (pc := 10) C (i := 0) dK_a_164.2.2.2.2.2.2.1 rfl rfl <|
    aw_iload_n (pc := 11) C (i := 2) dK_a_164.2.2.2.2.2.2.2.1 rfl rfl <|
    aw_callF (pc := 12) C (cr_V (rest := []) (F := (X10_refuse r1)) C (c_X10_refuse X.2.1 r1) dK_a_165.1 mf_X10_refuse ml_X10_111 im_X10_refuse se_X10_refuse sC_0 rfl ⟨(Nat.le_of_ble_eq_true rfl), (Nat.le_of_ble_eq_true rfl)⟩ rfl rfl (Nat.le_of_ble_eq_true rfl)) rfl rfl rfl (Nat.zero_le _) (Nat.zero_le _) fun r17 h18 =>
    aw_iret (pc := 15) C dK_a_165.2.1 rfl rfl)

abbrev rmX10_bestMark : Room := { frames := 6, cells := 0, slots := 0, locals := 158 }
def X10_bestMark_j154  (v2 : Int32) (v4 : Nat) (v5 : Int32) (v6 : Int32) (v7 : Int64) (v9 : Int32) (K84 : Int32 → Int64 → Int32 → AH → Option (Int32 × AH)) (h : AH) : Option (Int32 × AH) :=
    vl (v9 + 1) fun x19 =>
    K84 v6 v7 x19 h
set_option maxRecDepth 100000 in
theorem aX10_bestMark_j154 {X : MCx} {yd : Dyn} {A : Nat → Prop} (C : OK X cX10_bestMark RX10 12 (some .int) rmX10_bestMark A)  (v2 : Int32) (v4 : Nat) (hs4 : ZC.1[v4]? = some (.inr 2)) (v5 : Int32) (v6 : Int32) (v7 : Int64) (v9 : Int32) (K84 : Int32 → Int64 → Int32 → AH → Option (Int32 × AH)) (hK84 : ∀ (w6 : Int32) (w7 : Int64) (w9 : Int32) (h : AH), AW X 12 ZC yd A 0 0 (QF X rmX10_bestMark ZC yd rvI A) 84 [(0, .ref 0), (2, .int v2), (4, .ref v4), (5, .int v5), (6, .int w6), (7, .long w7), (9, .int w9)] [] h (K84 w6 w7 w9 h)) (h : AH) : AW X 12 ZC yd A 0 0 (QF X rmX10_bestMark ZC yd rvI A) 154 [(0, .ref 0), (2, .int v2), (4, .ref v4), (5, .int v5), (6, .int v6), (7, .long v7), (9, .int v9)] [] h (X10_bestMark_j154 v2 v4 v5 v6 v7 v9 K84 h) := by
    exact aw_iincV (pc := 154) C (i := 9) (cst := 1) (fun x19 => [(0, .ref 0), (2, .int v2), (4, .ref v4), (5, .int v5), (6, .int v6), (7, .long v7), (9, .int x19)]) dK_a_180.2.2.1 rfl rfl (by decide) (fun _ => rfl) fun x19 =>
    aw_goto (pc := 157) C (tgt := 84) dK_a_180.2.2.2.1 rfl <|
    (hK84 v6 v7 x19 h)
def X10_bestMark_j136  (v2 : Int32) (v4 : Nat) (v5 : Int32) (v6 : Int32) (v7 : Int64) (v9 : Int32) (K84 : Int32 → Int64 → Int32 → AH → Option (Int32 × AH)) (s0 : Int64) (h : AH) : Option (Int32 × AH) :=
    if (lcmpV s0 v7) ≤ 0 then (X10_bestMark_j154 v2 v4 v5 v6 v7 v9 K84 h)
    else (X10_bestMark_j154 v2 v4 v5 v9 s0 v9 K84 h)
set_option maxRecDepth 100000 in
theorem aX10_bestMark_j136 {X : MCx} {yd : Dyn} {A : Nat → Prop} (C : OK X cX10_bestMark RX10 12 (some .int) rmX10_bestMark A)  (v2 : Int32) (v4 : Nat) (hs4 : ZC.1[v4]? = some (.inr 2)) (v5 : Int32) (v6 : Int32) (v7 : Int64) (v9 : Int32) (K84 : Int32 → Int64 → Int32 → AH → Option (Int32 × AH)) (hK84 : ∀ (w6 : Int32) (w7 : Int64) (w9 : Int32) (h : AH), AW X 12 ZC yd A 0 0 (QF X rmX10_bestMark ZC yd rvI A) 84 [(0, .ref 0), (2, .int v2), (4, .ref v4), (5, .int v5), (6, .int w6), (7, .long w7), (9, .int w9)] [] h (K84 w6 w7 w9 h)) (s0 : Int64) (h : AH) : AW X 12 ZC yd A 0 0 (QF X rmX10_bestMark ZC yd rvI A) 136 [(0, .ref 0), (2, .int v2), (4, .ref v4), (5, .int v5), (6, .int v6), (7, .long v7), (9, .int v9)] [.long s0] h (X10_bestMark_j136 v2 v4 v5 v6 v7 v9 K84 s0 h) := by
    exact aw_lstore (pc := 136) C (i := 10) (lv' := [(0, .ref 0), (2, .int v2), (4, .ref v4), (5, .int v5), (6, .int v6), (7, .long v7), (9, .int v9), (10, .long s0)]) dK_a_179.2.1 (by decide) rfl <|
    aw_lload (pc := 138) C (i := 10) dK_a_179.2.2.1 rfl <|
    aw_lload (pc := 140) C (i := 7) dK_a_179.2.2.2.1 rfl <|
    aw_lcmp (pc := 142) C dK_a_179.2.2.2.2.1 <|
    aw_if_le (pc := 143) C (tgt := 154) dK_a_179.2.2.2.2.2.1 rfl (fun _ =>
    aw_drop [0, 1, 2, 3, 4, 5, 6] (aX10_bestMark_j154 C v2 v4 hs4 v5 v6 v7 v9 K84 hK84 h)) (fun _ =>
    aw_lload (pc := 146) C (i := 10) dK_a_179.2.2.2.2.2.2.1 rfl <|
    aw_lstore (pc := 148) C (i := 7) (lv' := [(0, .ref 0), (2, .int v2), (4, .ref v4), (5, .int v5), (6, .int v6), (7, .long s0), (9, .int v9), (10, .long s0)]) dK_a_179.2.2.2.2.2.2.2.1 (by decide) rfl <|
    aw_iload (pc := 150) C (i := 9) dK_a_180.1 rfl <|
    aw_istore (pc := 152) C (i := 6) (lv' := [(0, .ref 0), (2, .int v2), (4, .ref v4), (5, .int v5), (6, .int v9), (7, .long s0), (9, .int v9), (10, .long s0)]) dK_a_180.2.1 (by decide) rfl <|
    aw_drop [0, 1, 2, 3, 4, 5, 6] (aX10_bestMark_j154 C v2 v4 hs4 v5 v9 s0 v9 K84 hK84 h))
def X10_bestMark_l84  (v2 : Int32) (v4 : Nat) (v5 : Int32) : Nat → Int32 → Int64 → Int32 → AH → Option (Int32 × AH)
  | 0, _, _, _, _ => none
  | n + 1, v6, v7, v9, h =>
    if (mn32 2400 ((h.1 v4 8) + 40)) < v9 then (some (v6, h))
    else (bd (X10_spreadAt v4 (v9 - v5) h) fun _ h16 =>
    if 0 ≤ v2 then (bd (X1_waysPast v2 h16) fun r17 h18 =>
    X10_bestMark_j136 v2 v4 v5 v6 v7 v9 (X10_bestMark_l84 v2 v4 v5 n) r17 h18)
    else (bd (X1_meanWays h16) fun r20 h21 =>
    X10_bestMark_j136 v2 v4 v5 v6 v7 v9 (X10_bestMark_l84 v2 v4 v5 n) r20 h21))
set_option maxRecDepth 100000 in
theorem aX10_bestMark_l84 {X : MCx} {yd : Dyn} {A : Nat → Prop} (C : OK X cX10_bestMark RX10 12 (some .int) rmX10_bestMark A)  (v2 : Int32) (v4 : Nat) (hs4 : ZC.1[v4]? = some (.inr 2)) (v5 : Int32) : ∀ (n : Nat) (v6 : Int32) (v7 : Int64) (v9 : Int32) (h : AH), AW X 12 ZC yd A 0 0 (QF X rmX10_bestMark ZC yd rvI A) 84 [(0, .ref 0), (2, .int v2), (4, .ref v4), (5, .int v5), (6, .int v6), (7, .long v7), (9, .int v9)] [] h (X10_bestMark_l84 v2 v4 v5 n v6 v7 v9 h) := by
  intro n
  induction n with
  | zero => intro v6 v7 v9 h; exact aw_none
  | succ n ih =>
    intro v6 v7 v9 h
    exact aw_iload (pc := 84) C (i := 9) dK_a_176.2.1 rfl <|
    aw_sipush (pc := 86) C (v := 2400) dK_a_176.2.2.1 rfl <|
    aw_aload (pc := 89) C (i := 4) dK_a_176.2.2.2.1 rfl <|
    aw_getI (pc := 91) C dK_a_176.2.2.2.2.1 fl_X10_198 hs4 rfl <|
    aw_bipush (pc := 94) C (v := 40) dK_a_176.2.2.2.2.2.1 rfl <|
    aw_iadd (pc := 96) C dK_a_176.2.2.2.2.2.2.1 <|
    aw_mmin (pc := 97) C dK_a_176.2.2.2.2.2.2.2.1 ml_X10_291 w_mminS w_mI w_mminC ⟨(Nat.le_of_ble_eq_true rfl), (Nat.le_of_ble_eq_true rfl)⟩ (Nat.zero_le _) (Nat.zero_le _) <|
    aw_icmp_gt (pc := 100) C (tgt := 160) dK_a_177.1 rfl (fun _ =>
    aw_iload (pc := 160) C (i := 6) dK_a_180.2.2.2.2.1 rfl <|
    aw_iret (pc := 162) C dK_a_180.2.2.2.2.2.1 rfl rfl) (fun _ =>
    aw_aload_n (pc := 103) C (i := 0) dK_a_177.2.1 rfl rfl <|
    aw_aload (pc := 104) C (i := 4) dK_a_177.2.2.1 rfl <|
    aw_iload (pc := 106) C (i := 9) dK_a_177.2.2.2.1 rfl <|
    aw_iload (pc := 108) C (i := 5) dK_a_177.2.2.2.2.1 rfl <|
    aw_isub (pc := 110) C dK_a_177.2.2.2.2.2.1 <|
    aw_callF (pc := 111) C (cr_V (rest := []) (F := (X10_spreadAt v4 (v9 - v5))) C (c_X10_spreadAt X.2.1 v4 hs4 (v9 - v5)) dK_a_177.2.2.2.2.2.2.1 mf_X10_spreadAt ml_X10_282 im_X10_spreadAt se_X10_spreadAt sC_0 rfl ⟨(Nat.le_of_ble_eq_true rfl), (Nat.le_of_ble_eq_true rfl)⟩ rfl rfl (Nat.le_of_ble_eq_true rfl)) rfl rfl rfl (Nat.zero_le _) (Nat.zero_le _) fun _ h16 =>
    aw_iload_n (pc := 114) C (i := 2) dK_a_177.2.2.2.2.2.2.2.1 rfl rfl <|
    aw_if_ge (pc := 115) C (tgt := 128) dK_a_178.1 rfl (fun _ =>
    aw_aload_n (pc := 128) C (i := 0) dK_a_178.2.2.2.2.2.1 rfl rfl <|
    aw_getR (pc := 129) C (b := 8) dK_a_178.2.2.2.2.2.2.1 fl_X10_35 sC_0 rfl rC_0_11 <|
    aw_iload_n (pc := 132) C (i := 2) dK_a_178.2.2.2.2.2.2.2.1 rfl rfl <|
    aw_callF (pc := 133) C (cr_V (rest := []) (F := (X1_waysPast v2)) C (c_X1_waysPast X.2.1 v2) dK_a_179.1 mf_X1_waysPast ml_X10_273 im_X1_waysPast se_X1_waysPast sC_8 rfl ⟨(Nat.le_of_ble_eq_true rfl), (Nat.le_of_ble_eq_true rfl)⟩ rfl rfl (Nat.le_of_ble_eq_true rfl)) rfl rfl rfl (Nat.zero_le _) (Nat.zero_le _) fun r17 h18 =>
    (aX10_bestMark_j136 C v2 v4 hs4 v5 v6 v7 v9 (X10_bestMark_l84 v2 v4 v5 n) ih r17 h18)) (fun _ =>
    aw_aload_n (pc := 118) C (i := 0) dK_a_178.2.1 rfl rfl <|
    aw_getR (pc := 119) C (b := 8) dK_a_178.2.2.1 fl_X10_35 sC_0 rfl rC_0_11 <|
    aw_callF (pc := 122) C (cr_V (rest := []) (F := X1_meanWays) C (c_X1_meanWays X.2.1 ) dK_a_178.2.2.2.1 mf_X1_meanWays ml_X10_269 im_X1_meanWays se_X1_meanWays sC_8 rfl ⟨(Nat.le_of_ble_eq_true rfl), (Nat.le_of_ble_eq_true rfl)⟩ rfl rfl (Nat.le_of_ble_eq_true rfl)) rfl rfl rfl (Nat.zero_le _) (Nat.zero_le _) fun r20 h21 =>
    aw_goto (pc := 125) C (tgt := 136) dK_a_178.2.2.2.2.1 rfl <|
    (aX10_bestMark_j136 C v2 v4 hs4 v5 v6 v7 v9 (X10_bestMark_l84 v2 v4 v5 n) ih r20 h21)))
def X10_bestMark (v1 : Int32) (v2 : Int32) (h : AH) : Option (Int32 × AH) :=
    bd (X10_nobody v1 h) fun r1 h2 =>
    bd (X10_outside v2 (-1) 999 h2) fun r3 h4 =>
    bd (X10_first r1 r3 h4) fun r5 h6 =>
    if r5 = 0 then (bd (X5_at 42 v1 h6) fun r7 h8 =>
    cs ZC r7 (.inr 2) (bd (X2_path r7 (h8.1 42 0) (h8.1 42 1) h8) fun r10 h11 =>
    vl (h11.1 r7 8) fun x12 =>
    vl (-1) fun x13 =>
    vl (mx32 0 ((h11.1 r7 8) - 40)) fun x14 =>
    X10_bestMark_l84 v2 r7 r10 FU x12 x13 x14 h11))
    else (bd (X10_refuse r5 h6) fun r22 h23 =>
    some (r22, h23))
set_option maxRecDepth 100000 in
theorem c_X10_bestMark (l : Launch) (v1 : Int32) (v2 : Int32) : MC l yX10_bestMark cX10_bestMark 12 (some .int) rmX10_bestMark ZC [.ref 0, .int v1, .int v2] rvI (X10_bestMark v1 v2) :=
  MC.of (own := RX10) pn_RX10 rfl (Nat.le_of_ble_eq_true rfl) fun X yd A h _ C =>
    aw_aload_n (pc := 0) C (i := 0) dK_a_171.1 rfl rfl <|
    aw_iload_n (pc := 1) C (i := 1) dK_a_171.2.1 rfl rfl <|
    aw_callF (pc := 2) C (cr_V (rest := []) (F := (X10_nobody v1)) C (c_X10_nobody X.2.1 v1) dK_a_171.2.2.1 mf_X10_nobody ml_X10_93 im_X10_nobody se_X10_nobody sC_0 rfl ⟨(Nat.le_of_ble_eq_true rfl), (Nat.le_of_ble_eq_true rfl)⟩ rfl rfl (Nat.le_of_ble_eq_true rfl)) rfl rfl rfl (Nat.zero_le _) (Nat.zero_le _) fun r1 h2 =>
    aw_iload_n (pc := 5) C (i := 2) dK_a_171.2.2.2.1 rfl rfl <|
    aw_iconst (pc := 6) C (v := (-1)) dK_a_171.2.2.2.2.1 rfl <|
    aw_sipush (pc := 7) C (v := 999) dK_a_171.2.2.2.2.2.1 rfl <|
    aw_callF (pc := 10) C (cr_S (rest := [.int r1]) (F := (X10_outside v2 (-1) 999)) C (c_X10_outside X.2.1 v2 (-1) 999) dK_a_171.2.2.2.2.2.2.1 mf_X10_outside ml_X10_104 st_X10_outside ⟨(Nat.le_of_ble_eq_true rfl), (Nat.le_of_ble_eq_true rfl)⟩ rfl rfl (Nat.le_of_ble_eq_true rfl)) rfl rfl rfl (Nat.zero_le _) (Nat.zero_le _) fun r3 h4 =>
    aw_callF (pc := 13) C (cr_S (rest := []) (F := (X10_first r1 r3)) C (c_X10_first X.2.1 r1 r3) dK_a_171.2.2.2.2.2.2.2.1 mf_X10_first ml_X10_97 st_X10_first ⟨(Nat.le_of_ble_eq_true rfl), (Nat.le_of_ble_eq_true rfl)⟩ rfl rfl (Nat.le_of_ble_eq_true rfl)) rfl rfl rfl (Nat.zero_le _) (Nat.zero_le _) fun r5 h6 =>
    aw_istore_n (pc := 16) C (i := 3) (lv' := [(0, .ref 0), (1, .int v1), (2, .int v2), (3, .int r5)]) dK_a_172.1 rfl (by decide) rfl <|
    aw_iload_n (pc := 17) C (i := 3) dK_a_172.2.1 rfl rfl <|
    aw_if_eq (pc := 18) C (tgt := 27) dK_a_172.2.2.1 rfl (fun _ =>
    aw_aload_n (pc := 27) C (i := 0) dK_a_172.2.2.2.2.2.2.2.1 rfl rfl <|
    aw_getR (pc := 28) C (b := 42) dK_a_173.1 fl_X10_72 sC_0 rfl rC_0_1 <|
    aw_iload_n (pc := 31) C (i := 1) dK_a_173.2.1 rfl rfl <|
    aw_callF (pc := 32) C (cr_V (rest := []) (F := (X5_at 42 v1)) C (c_X5_at X.2.1 42 (Or.inl rfl) v1) dK_a_173.2.2.1 mf_X5_at ml_X10_169 im_X5_at se_X5_at (mt_s (Or.inl rfl)) rfl ⟨(Nat.le_of_ble_eq_true rfl), (Nat.le_of_ble_eq_true rfl)⟩ rfl rfl (Nat.le_of_ble_eq_true rfl)) rfl rfl rfl (Nat.zero_le _) (Nat.zero_le _) fun r7 h8 =>
    aw_cs fun hs9 =>
    aw_astore (pc := 35) C (i := 4) (lv' := [(0, .ref 0), (1, .int v1), (2, .int v2), (3, .int r5), (4, .ref r7)]) dK_a_173.2.2.2.1 (by decide) rfl <|
    aw_aload (pc := 37) C (i := 4) dK_a_173.2.2.2.2.1 rfl <|
    aw_aload_n (pc := 39) C (i := 0) dK_a_173.2.2.2.2.2.1 rfl rfl <|
    aw_getR (pc := 40) C (b := 42) dK_a_173.2.2.2.2.2.2.1 fl_X10_72 sC_0 rfl rC_0_1 <|
    aw_getI (pc := 43) C dK_a_173.2.2.2.2.2.2.2.1 fl_X10_163 (mt_s (Or.inl rfl)) rfl <|
    aw_aload_n (pc := 46) C (i := 0) dK_a_174.1 rfl rfl <|
    aw_getR (pc := 47) C (b := 42) dK_a_174.2.1 fl_X10_72 sC_0 rfl rC_0_1 <|
    aw_getI (pc := 50) C dK_a_174.2.2.1 fl_X10_157 (mt_s (Or.inl rfl)) rfl <|
    aw_callF (pc := 53) C (cr_V (rest := []) (F := (X2_path r7 (h8.1 42 0) (h8.1 42 1))) C (c_X2_path X.2.1 r7 hs9 (h8.1 42 0) (h8.1 42 1)) dK_a_174.2.2.2.1 mf_X2_path ml_X10_232 im_X2_path se_X2_path hs9 rfl ⟨(Nat.le_of_ble_eq_true rfl), (Nat.le_of_ble_eq_true rfl)⟩ rfl rfl (Nat.le_of_ble_eq_true rfl)) rfl rfl rfl (Nat.zero_le _) (Nat.zero_le _) fun r10 h11 =>
    aw_istore (pc := 56) C (i := 5) (lv' := [(0, .ref 0), (1, .int v1), (2, .int v2), (3, .int r5), (4, .ref r7), (5, .int r10)]) dK_a_174.2.2.2.2.1 (by decide) rfl <|
    aw_aload (pc := 58) C (i := 4) dK_a_174.2.2.2.2.2.1 rfl <|
    aw_getI (pc := 60) C dK_a_174.2.2.2.2.2.2.1 fl_X10_198 hs9 rfl <|
    aw_istoreV (pc := 63) C (i := 6) (fun x12 => [(0, .ref 0), (1, .int v1), (2, .int v2), (3, .int r5), (4, .ref r7), (5, .int r10), (6, .int x12)]) dK_a_174.2.2.2.2.2.2.2.1 (by decide) (fun _ => rfl) fun x12 =>
    aw_ldc2_w (pc := 65) C (v := (-1)) dK_a_175.1 kc_X10_280 <|
    aw_lstoreV (pc := 68) C (i := 7) (fun x13 => [(0, .ref 0), (1, .int v1), (2, .int v2), (3, .int r5), (4, .ref r7), (5, .int r10), (6, .int x12), (7, .long x13)]) dK_a_175.2.1 (by decide) (fun _ => rfl) fun x13 =>
    aw_iconst (pc := 70) C (v := 0) dK_a_175.2.2.1 rfl <|
    aw_aload (pc := 71) C (i := 4) dK_a_175.2.2.2.1 rfl <|
    aw_getI (pc := 73) C dK_a_175.2.2.2.2.1 fl_X10_198 hs9 rfl <|
    aw_bipush (pc := 76) C (v := 40) dK_a_175.2.2.2.2.2.1 rfl <|
    aw_isub (pc := 78) C dK_a_175.2.2.2.2.2.2.1 <|
    aw_mmax (pc := 79) C dK_a_175.2.2.2.2.2.2.2.1 ml_X10_286 w_mmaxS w_mI w_mmaxC ⟨(Nat.le_of_ble_eq_true rfl), (Nat.le_of_ble_eq_true rfl)⟩ (Nat.zero_le _) (Nat.zero_le _) <|
    aw_istoreV (pc := 82) C (i := 9) (fun x14 => [(0, .ref 0), (1, .int v1), (2, .int v2), (3, .int r5), (4, .ref r7), (5, .int r10), (6, .int x12), (7, .long x13), (9, .int x14)]) dK_a_176.1 (by decide) (fun _ => rfl) fun x14 =>
    aw_drop [0, 2, 4, 5, 6, 7, 8] (aX10_bestMark_l84 C v2 r7 hs9 r10 FU x12 x13 x14 h11)) (fun _ =>
    aw_aload_n (pc := 21) C (i := 0) dK_a_172.2.2.2.1 rfl rfl <|
    aw_iload_n (pc := 22) C (i := 3) dK_a_172.2.2.2.2.1 rfl rfl <|
    aw_callF (pc := 23) C (cr_V (rest := []) (F := (X10_refuse r5)) C (c_X10_refuse X.2.1 r5) dK_a_172.2.2.2.2.2.1 mf_X10_refuse ml_X10_111 im_X10_refuse se_X10_refuse sC_0 rfl ⟨(Nat.le_of_ble_eq_true rfl), (Nat.le_of_ble_eq_true rfl)⟩ rfl rfl (Nat.le_of_ble_eq_true rfl)) rfl rfl rfl (Nat.zero_le _) (Nat.zero_le _) fun r22 h23 =>
    aw_iret (pc := 26) C dK_a_172.2.2.2.2.2.2.1 rfl rfl)

abbrev rmX10_back : Room := { frames := 4, cells := 0, slots := 0, locals := 93 }
def X10_back (v1 : Int32) (v2 : Int32) (h : AH) : Option (Int32 × AH) :=
    bd (X10_nobody v1 h) fun r1 h2 =>
    bd (X10_outside v2 (-9) 9 h2) fun r3 h4 =>
    bd (X10_first r1 r3 h4) fun r5 h6 =>
    if r5 = 0 then (bd (X5_at 42 v1 h6) fun r7 h8 =>
    cs ZC r7 (.inr 2) (bd (X2_path r7 (h8.1 42 0) v2 h8) fun r10 h11 =>
    bd (X2_path r7 (h11.1 42 0) (h11.1 42 1) h11) fun r12 h13 =>
    some ((r10 - r12), h13)))
    else (bd (X10_refuse r5 h6) fun r14 h15 =>
    some ((1000000000 - r14), h15))
set_option maxRecDepth 100000 in
theorem c_X10_back (l : Launch) (v1 : Int32) (v2 : Int32) : MC l yX10_back cX10_back 5 (some .int) rmX10_back ZC [.ref 0, .int v1, .int v2] rvI (X10_back v1 v2) :=
  MC.of (own := RX10) pn_RX10 rfl (Nat.le_of_ble_eq_true rfl) fun X yd A h _ C =>
    aw_aload_n (pc := 0) C (i := 0) dK_a_181.1 rfl rfl <|
    aw_iload_n (pc := 1) C (i := 1) dK_a_181.2.1 rfl rfl <|
    aw_callF (pc := 2) C (cr_V (rest := []) (F := (X10_nobody v1)) C (c_X10_nobody X.2.1 v1) dK_a_181.2.2.1 mf_X10_nobody ml_X10_93 im_X10_nobody se_X10_nobody sC_0 rfl ⟨(Nat.le_of_ble_eq_true rfl), (Nat.le_of_ble_eq_true rfl)⟩ rfl rfl (Nat.le_of_ble_eq_true rfl)) rfl rfl rfl (Nat.zero_le _) (Nat.zero_le _) fun r1 h2 =>
    aw_iload_n (pc := 5) C (i := 2) dK_a_181.2.2.2.1 rfl rfl <|
    aw_bipush (pc := 6) C (v := (-9)) dK_a_181.2.2.2.2.1 rfl <|
    aw_bipush (pc := 8) C (v := 9) dK_a_181.2.2.2.2.2.1 rfl <|
    aw_callF (pc := 10) C (cr_S (rest := [.int r1]) (F := (X10_outside v2 (-9) 9)) C (c_X10_outside X.2.1 v2 (-9) 9) dK_a_181.2.2.2.2.2.2.1 mf_X10_outside ml_X10_104 st_X10_outside ⟨(Nat.le_of_ble_eq_true rfl), (Nat.le_of_ble_eq_true rfl)⟩ rfl rfl (Nat.le_of_ble_eq_true rfl)) rfl rfl rfl (Nat.zero_le _) (Nat.zero_le _) fun r3 h4 =>
    aw_callF (pc := 13) C (cr_S (rest := []) (F := (X10_first r1 r3)) C (c_X10_first X.2.1 r1 r3) dK_a_181.2.2.2.2.2.2.2.1 mf_X10_first ml_X10_97 st_X10_first ⟨(Nat.le_of_ble_eq_true rfl), (Nat.le_of_ble_eq_true rfl)⟩ rfl rfl (Nat.le_of_ble_eq_true rfl)) rfl rfl rfl (Nat.zero_le _) (Nat.zero_le _) fun r5 h6 =>
    aw_istore_n (pc := 16) C (i := 3) (lv' := [(0, .ref 0), (1, .int v1), (2, .int v2), (3, .int r5)]) dK_a_182.1 rfl (by decide) rfl <|
    aw_iload_n (pc := 17) C (i := 3) dK_a_182.2.1 rfl rfl <|
    aw_if_eq (pc := 18) C (tgt := 30) dK_a_182.2.2.1 rfl (fun _ =>
    aw_aload_n (pc := 30) C (i := 0) dK_a_183.2.1 rfl rfl <|
    aw_getR (pc := 31) C (b := 42) dK_a_183.2.2.1 fl_X10_72 sC_0 rfl rC_0_1 <|
    aw_iload_n (pc := 34) C (i := 1) dK_a_183.2.2.2.1 rfl rfl <|
    aw_callF (pc := 35) C (cr_V (rest := []) (F := (X5_at 42 v1)) C (c_X5_at X.2.1 42 (Or.inl rfl) v1) dK_a_183.2.2.2.2.1 mf_X5_at ml_X10_169 im_X5_at se_X5_at (mt_s (Or.inl rfl)) rfl ⟨(Nat.le_of_ble_eq_true rfl), (Nat.le_of_ble_eq_true rfl)⟩ rfl rfl (Nat.le_of_ble_eq_true rfl)) rfl rfl rfl (Nat.zero_le _) (Nat.zero_le _) fun r7 h8 =>
    aw_cs fun hs9 =>
    aw_astore (pc := 38) C (i := 4) (lv' := [(0, .ref 0), (1, .int v1), (2, .int v2), (3, .int r5), (4, .ref r7)]) dK_a_183.2.2.2.2.2.1 (by decide) rfl <|
    aw_aload (pc := 40) C (i := 4) dK_a_183.2.2.2.2.2.2.1 rfl <|
    aw_aload_n (pc := 42) C (i := 0) dK_a_183.2.2.2.2.2.2.2.1 rfl rfl <|
    aw_getR (pc := 43) C (b := 42) dK_a_184.1 fl_X10_72 sC_0 rfl rC_0_1 <|
    aw_getI (pc := 46) C dK_a_184.2.1 fl_X10_163 (mt_s (Or.inl rfl)) rfl <|
    aw_iload_n (pc := 49) C (i := 2) dK_a_184.2.2.1 rfl rfl <|
    aw_callF (pc := 50) C (cr_V (rest := []) (F := (X2_path r7 (h8.1 42 0) v2)) C (c_X2_path X.2.1 r7 hs9 (h8.1 42 0) v2) dK_a_184.2.2.2.1 mf_X2_path ml_X10_232 im_X2_path se_X2_path hs9 rfl ⟨(Nat.le_of_ble_eq_true rfl), (Nat.le_of_ble_eq_true rfl)⟩ rfl rfl (Nat.le_of_ble_eq_true rfl)) rfl rfl rfl (Nat.zero_le _) (Nat.zero_le _) fun r10 h11 =>
    aw_aload (pc := 53) C (i := 4) dK_a_184.2.2.2.2.1 rfl <|
    aw_aload_n (pc := 55) C (i := 0) dK_a_184.2.2.2.2.2.1 rfl rfl <|
    aw_getR (pc := 56) C (b := 42) dK_a_184.2.2.2.2.2.2.1 fl_X10_72 sC_0 rfl rC_0_1 <|
    aw_getI (pc := 59) C dK_a_184.2.2.2.2.2.2.2.1 fl_X10_163 (mt_s (Or.inl rfl)) rfl <|
    aw_aload_n (pc := 62) C (i := 0) dK_a_185.1 rfl rfl <|
    aw_getR (pc := 63) C (b := 42) dK_a_185.2.1 fl_X10_72 sC_0 rfl rC_0_1 <|
    aw_getI (pc := 66) C dK_a_185.2.2.1 fl_X10_157 (mt_s (Or.inl rfl)) rfl <|
    aw_callF (pc := 69) C (cr_V (rest := [.int r10]) (F := (X2_path r7 (h11.1 42 0) (h11.1 42 1))) C (c_X2_path X.2.1 r7 hs9 (h11.1 42 0) (h11.1 42 1)) dK_a_185.2.2.2.1 mf_X2_path ml_X10_232 im_X2_path se_X2_path hs9 rfl ⟨(Nat.le_of_ble_eq_true rfl), (Nat.le_of_ble_eq_true rfl)⟩ rfl rfl (Nat.le_of_ble_eq_true rfl)) rfl rfl rfl (Nat.zero_le _) (Nat.zero_le _) fun r12 h13 =>
    aw_isub (pc := 72) C dK_a_185.2.2.2.2.1 <|
    aw_iret (pc := 73) C dK_a_185.2.2.2.2.2.1 rfl rfl) (fun _ =>
    aw_ldc (pc := 21) C (v := 1000000000) dK_a_182.2.2.2.1 kc_X10_224 <|
    aw_aload_n (pc := 23) C (i := 0) dK_a_182.2.2.2.2.1 rfl rfl <|
    aw_iload_n (pc := 24) C (i := 3) dK_a_182.2.2.2.2.2.1 rfl rfl <|
    aw_callF (pc := 25) C (cr_V (rest := [.int 1000000000]) (F := (X10_refuse r5)) C (c_X10_refuse X.2.1 r5) dK_a_182.2.2.2.2.2.2.1 mf_X10_refuse ml_X10_111 im_X10_refuse se_X10_refuse sC_0 rfl ⟨(Nat.le_of_ble_eq_true rfl), (Nat.le_of_ble_eq_true rfl)⟩ rfl rfl (Nat.le_of_ble_eq_true rfl)) rfl rfl rfl (Nat.zero_le _) (Nat.zero_le _) fun r14 h15 =>
    aw_isub (pc := 28) C dK_a_182.2.2.2.2.2.2.2.1 <|
    aw_iret (pc := 29) C dK_a_183.1 rfl rfl)

abbrev rmX10_turn : Room := { frames := 4, cells := 0, slots := 0, locals := 116 }
def X10_turn  (h : AH) : Option (Int32 × AH) :=
    bd (X5_inTurn 42 h) fun r1 h2 =>
    some (r1, h2)
set_option maxRecDepth 100000 in
theorem c_X10_turn (l : Launch)  : MC l yX10_turn cX10_turn 1 (some .int) rmX10_turn ZC [.ref 0] rvI (X10_turn) :=
  MC.of (own := RX10) pn_RX10 rfl (Nat.le_of_ble_eq_true rfl) fun X yd A h _ C =>
    aw_aload_n (pc := 0) C (i := 0) dK_a_186.1 rfl rfl <|
    aw_getR (pc := 1) C (b := 42) dK_a_186.2.1 fl_X10_72 sC_0 rfl rC_0_1 <|
    aw_aload_n (pc := 4) C (i := 0) dK_a_186.2.2.1 rfl rfl <|
    aw_getR (pc := 5) C (b := 5) dK_a_186.2.2.2.1 fl_X10_28 sC_0 rfl rC_0_10 <|
    aw_callF (pc := 8) C (cr_V (rest := []) (F := (X5_inTurn 42)) C (c_X5_inTurn X.2.1 42 (Or.inl rfl)) dK_a_186.2.2.2.2.1 mf_X5_inTurn ml_X10_201 im_X5_inTurn se_X5_inTurn (mt_s (Or.inl rfl)) rfl ⟨(Nat.le_of_ble_eq_true rfl), (Nat.le_of_ble_eq_true rfl)⟩ rfl rfl (Nat.le_of_ble_eq_true rfl)) rfl rfl rfl (Nat.zero_le _) (Nat.zero_le _) fun r1 h2 =>
    aw_iret (pc := 11) C dK_a_186.2.2.2.2.2.1 rfl rfl

abbrev rmX10_notInTurn : Room := { frames := 4, cells := 0, slots := 0, locals := 116 }
def X10_notInTurn (v1 : Int32) (h : AH) : Option (Int32 × AH) :=
    bd (X5_inTurn 42 h) fun r1 h2 =>
    if r1 = v1 then (some (0, h2))
    else (some ((-3), h2))
set_option maxRecDepth 100000 in
theorem c_X10_notInTurn (l : Launch) (v1 : Int32) : MC l yX10_notInTurn cX10_notInTurn 2 (some .int) rmX10_notInTurn ZC [.ref 0, .int v1] rvI (X10_notInTurn v1) :=
  MC.of (own := RX10) pn_RX10 rfl (Nat.le_of_ble_eq_true rfl) fun X yd A h _ C =>
    aw_aload_n (pc := 0) C (i := 0) dK_a_187.1 rfl rfl <|
    aw_getR (pc := 1) C (b := 42) dK_a_187.2.1 fl_X10_72 sC_0 rfl rC_0_1 <|
    aw_aload_n (pc := 4) C (i := 0) dK_a_187.2.2.1 rfl rfl <|
    aw_getR (pc := 5) C (b := 5) dK_a_187.2.2.2.1 fl_X10_28 sC_0 rfl rC_0_10 <|
    aw_callF (pc := 8) C (cr_V (rest := []) (F := (X5_inTurn 42)) C (c_X5_inTurn X.2.1 42 (Or.inl rfl)) dK_a_187.2.2.2.2.1 mf_X5_inTurn ml_X10_201 im_X5_inTurn se_X5_inTurn (mt_s (Or.inl rfl)) rfl ⟨(Nat.le_of_ble_eq_true rfl), (Nat.le_of_ble_eq_true rfl)⟩ rfl rfl (Nat.le_of_ble_eq_true rfl)) rfl rfl rfl (Nat.zero_le _) (Nat.zero_le _) fun r1 h2 =>
    aw_iload_n (pc := 11) C (i := 1) dK_a_187.2.2.2.2.2.1 rfl rfl <|
    aw_icmp_eq (pc := 12) C (tgt := 20) dK_a_187.2.2.2.2.2.2.1 rfl (fun _ =>
    aw_iconst (pc := 20) C (v := 0) dK_a_188.2.1 rfl <|
    aw_iret (pc := 21) C dK_a_188.2.2.1 rfl rfl) (fun _ =>
    aw_bipush (pc := 15) C (v := (-3)) dK_a_187.2.2.2.2.2.2.2.1 rfl <|
    aw_goto (pc := 17) C (tgt := 21) dK_a_188.1 rfl <|
    aw_iret (pc := 21) C dK_a_188.2.2.1 rfl rfl)

abbrev rmX10_jump : Room := { frames := 5, cells := 0, slots := 0, locals := 137 }
def X10_jump (v1 : Int32) (v2 : Int32) (h : AH) : Option (Int32 × AH) :=
    bd (X10_nobody v1 h) fun r1 h2 =>
    bd (X10_notInTurn v1 h2) fun r3 h4 =>
    bd (X10_outside v2 0 300 h4) fun r5 h6 =>
    bd (X10_first r3 r5 h6) fun r7 h8 =>
    bd (X10_first r1 r7 h8) fun r9 h10 =>
    if r9 = 0 then (bd (X5_record 42 v1 v2 0 h10) fun r11 h12 =>
    some (r11, h12))
    else (bd (X10_refuse r9 h10) fun r13 h14 =>
    some (r13, h14))
set_option maxRecDepth 100000 in
theorem c_X10_jump (l : Launch) (v1 : Int32) (v2 : Int32) : MC l yX10_jump cX10_jump 4 (some .int) rmX10_jump ZC [.ref 0, .int v1, .int v2] rvI (X10_jump v1 v2) :=
  MC.of (own := RX10) pn_RX10 rfl (Nat.le_of_ble_eq_true rfl) fun X yd A h _ C =>
    aw_aload_n (pc := 0) C (i := 0) dK_a_189.1 rfl rfl <|
    aw_iload_n (pc := 1) C (i := 1) dK_a_189.2.1 rfl rfl <|
    aw_callF (pc := 2) C (cr_V (rest := []) (F := (X10_nobody v1)) C (c_X10_nobody X.2.1 v1) dK_a_189.2.2.1 mf_X10_nobody ml_X10_93 im_X10_nobody se_X10_nobody sC_0 rfl ⟨(Nat.le_of_ble_eq_true rfl), (Nat.le_of_ble_eq_true rfl)⟩ rfl rfl (Nat.le_of_ble_eq_true rfl)) rfl rfl rfl (Nat.zero_le _) (Nat.zero_le _) fun r1 h2 =>
    aw_aload_n (pc := 5) C (i := 0) dK_a_189.2.2.2.1 rfl rfl <|
    aw_iload_n (pc := 6) C (i := 1) dK_a_189.2.2.2.2.1 rfl rfl <|
    aw_callF (pc := 7) C (cr_V (rest := [.int r1]) (F := (X10_notInTurn v1)) C (c_X10_notInTurn X.2.1 v1) dK_a_189.2.2.2.2.2.1 mf_X10_notInTurn ml_X10_294 im_X10_notInTurn se_X10_notInTurn sC_0 rfl ⟨(Nat.le_of_ble_eq_true rfl), (Nat.le_of_ble_eq_true rfl)⟩ rfl rfl (Nat.le_of_ble_eq_true rfl)) rfl rfl rfl (Nat.zero_le _) (Nat.zero_le _) fun r3 h4 =>
    aw_iload_n (pc := 10) C (i := 2) dK_a_189.2.2.2.2.2.2.1 rfl rfl <|
    aw_iconst (pc := 11) C (v := 0) dK_a_189.2.2.2.2.2.2.2.1 rfl <|
    aw_sipush (pc := 12) C (v := 300) dK_a_190.1 rfl <|
    aw_callF (pc := 15) C (cr_S (rest := [.int r3, .int r1]) (F := (X10_outside v2 0 300)) C (c_X10_outside X.2.1 v2 0 300) dK_a_190.2.1 mf_X10_outside ml_X10_104 st_X10_outside ⟨(Nat.le_of_ble_eq_true rfl), (Nat.le_of_ble_eq_true rfl)⟩ rfl rfl (Nat.le_of_ble_eq_true rfl)) rfl rfl rfl (Nat.zero_le _) (Nat.zero_le _) fun r5 h6 =>
    aw_callF (pc := 18) C (cr_S (rest := [.int r1]) (F := (X10_first r3 r5)) C (c_X10_first X.2.1 r3 r5) dK_a_190.2.2.1 mf_X10_first ml_X10_97 st_X10_first ⟨(Nat.le_of_ble_eq_true rfl), (Nat.le_of_ble_eq_true rfl)⟩ rfl rfl (Nat.le_of_ble_eq_true rfl)) rfl rfl rfl (Nat.zero_le _) (Nat.zero_le _) fun r7 h8 =>
    aw_callF (pc := 21) C (cr_S (rest := []) (F := (X10_first r1 r7)) C (c_X10_first X.2.1 r1 r7) dK_a_190.2.2.2.1 mf_X10_first ml_X10_97 st_X10_first ⟨(Nat.le_of_ble_eq_true rfl), (Nat.le_of_ble_eq_true rfl)⟩ rfl rfl (Nat.le_of_ble_eq_true rfl)) rfl rfl rfl (Nat.zero_le _) (Nat.zero_le _) fun r9 h10 =>
    aw_istore_n (pc := 24) C (i := 3) (lv' := [(0, .ref 0), (1, .int v1), (2, .int v2), (3, .int r9)]) dK_a_190.2.2.2.2.1 rfl (by decide) rfl <|
    aw_iload_n (pc := 25) C (i := 3) dK_a_190.2.2.2.2.2.1 rfl rfl <|
    aw_if_eq (pc := 26) C (tgt := 37) dK_a_190.2.2.2.2.2.2.1 rfl (fun _ =>
    aw_aload_n (pc := 37) C (i := 0) dK_a_191.2.2.2.1 rfl rfl <|
    aw_getR (pc := 38) C (b := 42) dK_a_191.2.2.2.2.1 fl_X10_72 sC_0 rfl rC_0_1 <|
    aw_iload_n (pc := 41) C (i := 1) dK_a_191.2.2.2.2.2.1 rfl rfl <|
    aw_iload_n (pc := 42) C (i := 2) dK_a_191.2.2.2.2.2.2.1 rfl rfl <|
    aw_iconst (pc := 43) C (v := 0) dK_a_191.2.2.2.2.2.2.2.1 rfl <|
    aw_callF (pc := 44) C (cr_V (rest := []) (F := (X5_record 42 v1 v2 0)) C (c_X5_record X.2.1 42 (Or.inl rfl) v1 v2 0) dK_a_192.1 mf_X5_record ml_X10_205 im_X5_record se_X5_record (mt_s (Or.inl rfl)) rfl ⟨(Nat.le_of_ble_eq_true rfl), (Nat.le_of_ble_eq_true rfl)⟩ rfl rfl (Nat.le_of_ble_eq_true rfl)) rfl rfl rfl (Nat.zero_le _) (Nat.zero_le _) fun r11 h12 =>
    aw_iret (pc := 47) C dK_a_192.2.1 rfl rfl) (fun _ =>
    aw_aload_n (pc := 29) C (i := 0) dK_a_190.2.2.2.2.2.2.2.1 rfl rfl <|
    aw_iload_n (pc := 30) C (i := 3) dK_a_191.1 rfl rfl <|
    aw_callF (pc := 31) C (cr_V (rest := []) (F := (X10_refuse r9)) C (c_X10_refuse X.2.1 r9) dK_a_191.2.1 mf_X10_refuse ml_X10_111 im_X10_refuse se_X10_refuse sC_0 rfl ⟨(Nat.le_of_ble_eq_true rfl), (Nat.le_of_ble_eq_true rfl)⟩ rfl rfl (Nat.le_of_ble_eq_true rfl)) rfl rfl rfl (Nat.zero_le _) (Nat.zero_le _) fun r13 h14 =>
    aw_goto (pc := 34) C (tgt := 47) dK_a_191.2.2.1 rfl <|
    aw_iret (pc := 47) C dK_a_192.2.1 rfl rfl)

abbrev rmX10_none : Room := { frames := 5, cells := 0, slots := 0, locals := 137 }
def X10_none_j48  (v1 : Int32) (s0 : Int32) (s1 : Int32) (h : AH) : Option (Int32 × AH) :=
    bd (X5_record 42 s1 s0 0 h) fun r11 h12 =>
    bd (X5_triesOf 42 v1 h12) fun r13 h14 =>
    some (r13, h14)
set_option maxRecDepth 100000 in
theorem aX10_none_j48 {X : MCx} {yd : Dyn} {A : Nat → Prop} (C : OK X cX10_none RX10 4 (some .int) rmX10_none A)  (v1 : Int32) (s0 : Int32) (s1 : Int32) (h : AH) : AW X 4 ZC yd A 0 0 (QF X rmX10_none ZC yd rvI A) 48 [(0, .ref 0), (1, .int v1)] [.int s0, .int s1, .ref 42] h (X10_none_j48 v1 s0 s1 h) := by
    exact aw_iconst (pc := 48) C (v := 0) dK_a_196.2.2.1 rfl <|
    aw_callF (pc := 49) C (cr_V (rest := []) (F := (X5_record 42 s1 s0 0)) C (c_X5_record X.2.1 42 (Or.inl rfl) s1 s0 0) dK_a_196.2.2.2.1 mf_X5_record ml_X10_205 im_X5_record se_X5_record (mt_s (Or.inl rfl)) rfl ⟨(Nat.le_of_ble_eq_true rfl), (Nat.le_of_ble_eq_true rfl)⟩ rfl rfl (Nat.le_of_ble_eq_true rfl)) rfl rfl rfl (Nat.zero_le _) (Nat.zero_le _) fun r11 h12 =>
    aw_pop (pc := 52) C dK_a_196.2.2.2.2.1 rfl <|
    aw_aload_n (pc := 53) C (i := 0) dK_a_196.2.2.2.2.2.1 rfl rfl <|
    aw_getR (pc := 54) C (b := 42) dK_a_196.2.2.2.2.2.2.1 fl_X10_72 sC_0 rfl rC_0_1 <|
    aw_iload_n (pc := 57) C (i := 1) dK_a_196.2.2.2.2.2.2.2.1 rfl rfl <|
    aw_callF (pc := 58) C (cr_V (rest := []) (F := (X5_triesOf 42 v1)) C (c_X5_triesOf X.2.1 42 (Or.inl rfl) v1) dK_a_197.1 mf_X5_triesOf ml_X10_211 im_X5_triesOf se_X5_triesOf (mt_s (Or.inl rfl)) rfl ⟨(Nat.le_of_ble_eq_true rfl), (Nat.le_of_ble_eq_true rfl)⟩ rfl rfl (Nat.le_of_ble_eq_true rfl)) rfl rfl rfl (Nat.zero_le _) (Nat.zero_le _) fun r13 h14 =>
    aw_iret (pc := 61) C dK_a_197.2.1 rfl rfl
def X10_none (v1 : Int32) (v2 : Int32) (h : AH) : Option (Int32 × AH) :=
    bd (X10_nobody v1 h) fun r1 h2 =>
    bd (X10_noSuch v2 1 h2) fun r3 h4 =>
    bd (X10_notInTurn v1 h4) fun r5 h6 =>
    bd (X10_first r3 r5 h6) fun r7 h8 =>
    bd (X10_first r1 r7 h8) fun r9 h10 =>
    if r9 = 0 then (if v2 = 0 then (X10_none_j48 v1 (-9) v1 h10)
    else (X10_none_j48 v1 (-8) v1 h10))
    else (bd (X10_refuse r9 h10) fun r15 h16 =>
    some (r15, h16))
set_option maxRecDepth 100000 in
theorem c_X10_none (l : Launch) (v1 : Int32) (v2 : Int32) : MC l yX10_none cX10_none 4 (some .int) rmX10_none ZC [.ref 0, .int v1, .int v2] rvI (X10_none v1 v2) :=
  MC.of (own := RX10) pn_RX10 rfl (Nat.le_of_ble_eq_true rfl) fun X yd A h _ C =>
    aw_aload_n (pc := 0) C (i := 0) dK_a_193.1 rfl rfl <|
    aw_iload_n (pc := 1) C (i := 1) dK_a_193.2.1 rfl rfl <|
    aw_callF (pc := 2) C (cr_V (rest := []) (F := (X10_nobody v1)) C (c_X10_nobody X.2.1 v1) dK_a_193.2.2.1 mf_X10_nobody ml_X10_93 im_X10_nobody se_X10_nobody sC_0 rfl ⟨(Nat.le_of_ble_eq_true rfl), (Nat.le_of_ble_eq_true rfl)⟩ rfl rfl (Nat.le_of_ble_eq_true rfl)) rfl rfl rfl (Nat.zero_le _) (Nat.zero_le _) fun r1 h2 =>
    aw_iload_n (pc := 5) C (i := 2) dK_a_193.2.2.2.1 rfl rfl <|
    aw_iconst (pc := 6) C (v := 1) dK_a_193.2.2.2.2.1 rfl <|
    aw_callF (pc := 7) C (cr_S (rest := [.int r1]) (F := (X10_noSuch v2 1)) C (c_X10_noSuch X.2.1 v2 1) dK_a_193.2.2.2.2.2.1 mf_X10_noSuch ml_X10_101 st_X10_noSuch ⟨(Nat.le_of_ble_eq_true rfl), (Nat.le_of_ble_eq_true rfl)⟩ rfl rfl (Nat.le_of_ble_eq_true rfl)) rfl rfl rfl (Nat.zero_le _) (Nat.zero_le _) fun r3 h4 =>
    aw_aload_n (pc := 10) C (i := 0) dK_a_193.2.2.2.2.2.2.1 rfl rfl <|
    aw_iload_n (pc := 11) C (i := 1) dK_a_193.2.2.2.2.2.2.2.1 rfl rfl <|
    aw_callF (pc := 12) C (cr_V (rest := [.int r3, .int r1]) (F := (X10_notInTurn v1)) C (c_X10_notInTurn X.2.1 v1) dK_a_194.1 mf_X10_notInTurn ml_X10_294 im_X10_notInTurn se_X10_notInTurn sC_0 rfl ⟨(Nat.le_of_ble_eq_true rfl), (Nat.le_of_ble_eq_true rfl)⟩ rfl rfl (Nat.le_of_ble_eq_true rfl)) rfl rfl rfl (Nat.zero_le _) (Nat.zero_le _) fun r5 h6 =>
    aw_callF (pc := 15) C (cr_S (rest := [.int r1]) (F := (X10_first r3 r5)) C (c_X10_first X.2.1 r3 r5) dK_a_194.2.1 mf_X10_first ml_X10_97 st_X10_first ⟨(Nat.le_of_ble_eq_true rfl), (Nat.le_of_ble_eq_true rfl)⟩ rfl rfl (Nat.le_of_ble_eq_true rfl)) rfl rfl rfl (Nat.zero_le _) (Nat.zero_le _) fun r7 h8 =>
    aw_callF (pc := 18) C (cr_S (rest := []) (F := (X10_first r1 r7)) C (c_X10_first X.2.1 r1 r7) dK_a_194.2.2.1 mf_X10_first ml_X10_97 st_X10_first ⟨(Nat.le_of_ble_eq_true rfl), (Nat.le_of_ble_eq_true rfl)⟩ rfl rfl (Nat.le_of_ble_eq_true rfl)) rfl rfl rfl (Nat.zero_le _) (Nat.zero_le _) fun r9 h10 =>
    aw_istore_n (pc := 21) C (i := 3) (lv' := [(0, .ref 0), (1, .int v1), (2, .int v2), (3, .int r9)]) dK_a_194.2.2.2.1 rfl (by decide) rfl <|
    aw_iload_n (pc := 22) C (i := 3) dK_a_194.2.2.2.2.1 rfl rfl <|
    aw_if_eq (pc := 23) C (tgt := 32) dK_a_194.2.2.2.2.2.1 rfl (fun _ =>
    aw_aload_n (pc := 32) C (i := 0) dK_a_195.2.2.1 rfl rfl <|
    aw_getR (pc := 33) C (b := 42) dK_a_195.2.2.2.1 fl_X10_72 sC_0 rfl rC_0_1 <|
    aw_iload_n (pc := 36) C (i := 1) dK_a_195.2.2.2.2.1 rfl rfl <|
    aw_iload_n (pc := 37) C (i := 2) dK_a_195.2.2.2.2.2.1 rfl rfl <|
    aw_if_ne (pc := 38) C (tgt := 46) dK_a_195.2.2.2.2.2.2.1 rfl (fun _ =>
    aw_bipush (pc := 41) C (v := (-9)) dK_a_195.2.2.2.2.2.2.2.1 rfl <|
    aw_goto (pc := 43) C (tgt := 48) dK_a_196.1 rfl <|
    aw_drop [0, 1] (aX10_none_j48 C v1 (-9) v1 h10)) (fun _ =>
    aw_bipush (pc := 46) C (v := (-8)) dK_a_196.2.1 rfl <|
    aw_drop [0, 1] (aX10_none_j48 C v1 (-8) v1 h10))) (fun _ =>
    aw_aload_n (pc := 26) C (i := 0) dK_a_194.2.2.2.2.2.2.1 rfl rfl <|
    aw_iload_n (pc := 27) C (i := 3) dK_a_194.2.2.2.2.2.2.2.1 rfl rfl <|
    aw_callF (pc := 28) C (cr_V (rest := []) (F := (X10_refuse r9)) C (c_X10_refuse X.2.1 r9) dK_a_195.1 mf_X10_refuse ml_X10_111 im_X10_refuse se_X10_refuse sC_0 rfl ⟨(Nat.le_of_ble_eq_true rfl), (Nat.le_of_ble_eq_true rfl)⟩ rfl rfl (Nat.le_of_ble_eq_true rfl)) rfl rfl rfl (Nat.zero_le _) (Nat.zero_le _) fun r15 h16 =>
    aw_iret (pc := 31) C dK_a_195.2.1 rfl rfl)

abbrev rmX10_undo : Room := { frames := 1, cells := 0, slots := 0, locals := 21 }
def X10_undo  (h : AH) : Option (Int32 × AH) :=
    if 0 < (h.1 42 4) then (vl (sI h 42 4 ((h.1 42 4) - 1)) fun h1 =>
    ck (h1.1 42 4) 24 (some ((h1.1 44 (h1.1 42 4).toNatClampNeg), h1)))
    else (bd (X10_refuse (-3) h) fun r2 h3 =>
    some (r2, h3))
set_option maxRecDepth 100000 in
theorem c_X10_undo (l : Launch)  : MC l yX10_undo cX10_undo 1 (some .int) rmX10_undo ZC [.ref 0] rvI (X10_undo) :=
  MC.of (own := RX10) pn_RX10 rfl (Nat.le_of_ble_eq_true rfl) fun X yd A h _ C =>
    aw_aload_n (pc := 0) C (i := 0) dK_a_198.1 rfl rfl <|
    aw_getR (pc := 1) C (b := 42) dK_a_198.2.1 fl_X10_72 sC_0 rfl rC_0_1 <|
    aw_getI (pc := 4) C dK_a_198.2.2.1 fl_X10_160 (mt_s (Or.inl rfl)) rfl <|
    aw_if_gt (pc := 7) C (tgt := 17) dK_a_198.2.2.2.1 rfl (fun _ =>
    aw_aload_n (pc := 17) C (i := 0) dK_a_199.1 rfl rfl <|
    aw_getR (pc := 18) C (b := 42) dK_a_199.2.1 fl_X10_72 sC_0 rfl rC_0_1 <|
    aw_dup (pc := 21) C dK_a_199.2.2.1 rfl <|
    aw_getI (pc := 22) C dK_a_199.2.2.2.1 fl_X10_160 (mt_s (Or.inl rfl)) rfl <|
    aw_iconst (pc := 25) C (v := 1) dK_a_199.2.2.2.2.1 rfl <|
    aw_isub (pc := 26) C dK_a_199.2.2.2.2.2.1 <|
    aw_putI (pc := 27) C dK_a_199.2.2.2.2.2.2.1 fp_X10_160 (mt_s (Or.inl rfl)) rfl fun h1 =>
    aw_aload_n (pc := 30) C (i := 0) dK_a_199.2.2.2.2.2.2.2.1 rfl rfl <|
    aw_getR (pc := 31) C (b := 42) dK_a_200.1 fl_X10_72 sC_0 rfl rC_0_1 <|
    aw_getR (pc := 34) C (b := 44) dK_a_200.2.1 fl_X10_297 (mt_s (Or.inl rfl)) rfl rC_42_6 <|
    aw_aload_n (pc := 37) C (i := 0) dK_a_200.2.2.1 rfl rfl <|
    aw_getR (pc := 38) C (b := 42) dK_a_200.2.2.2.1 fl_X10_72 sC_0 rfl rC_0_1 <|
    aw_getI (pc := 41) C dK_a_200.2.2.2.2.1 fl_X10_160 (mt_s (Or.inl rfl)) rfl <|
    aw_iald (pc := 44) C dK_a_200.2.2.2.2.2.1 sC_44 rfl <|
    aw_iret (pc := 45) C dK_a_200.2.2.2.2.2.2.1 rfl rfl) (fun _ =>
    aw_aload_n (pc := 10) C (i := 0) dK_a_198.2.2.2.2.1 rfl rfl <|
    aw_bipush (pc := 11) C (v := (-3)) dK_a_198.2.2.2.2.2.1 rfl <|
    aw_callF (pc := 13) C (cr_V (rest := []) (F := (X10_refuse (-3))) C (c_X10_refuse X.2.1 (-3)) dK_a_198.2.2.2.2.2.2.1 mf_X10_refuse ml_X10_111 im_X10_refuse se_X10_refuse sC_0 rfl ⟨(Nat.le_of_ble_eq_true rfl), (Nat.le_of_ble_eq_true rfl)⟩ rfl rfl (Nat.le_of_ble_eq_true rfl)) rfl rfl rfl (Nat.zero_le _) (Nat.zero_le _) fun r2 h3 =>
    aw_iret (pc := 16) C dK_a_198.2.2.2.2.2.2.2.1 rfl rfl)

abbrev rmX10_tried : Room := { frames := 1, cells := 0, slots := 0, locals := 24 }
def X10_tried_j21  (s0 : Int32) (h : AH) : Option (Int32 × AH) :=
    if 0 ≤ s0 then (ck s0 24 (some ((h.1 46 s0.toNatClampNeg), h)))
    else (bd (X10_refuse (-1) h) fun r5 h6 =>
    some (r5, h6))
set_option maxRecDepth 100000 in
theorem aX10_tried_j21 {X : MCx} {yd : Dyn} {A : Nat → Prop} (C : OK X cX10_tried RX10 4 (some .int) rmX10_tried A)  (s0 : Int32) (h : AH) : AW X 4 ZC yd A 0 0 (QF X rmX10_tried ZC yd rvI A) 21 [(0, .ref 0)] [.int s0] h (X10_tried_j21 s0 h) := by
    exact aw_istore_n (pc := 21) C (i := 3) (lv' := [(0, .ref 0), (3, .int s0)]) dK_a_202.2.2.2.1 rfl (by decide) rfl <|
    aw_iload_n (pc := 22) C (i := 3) dK_a_202.2.2.2.2.1 rfl rfl <|
    aw_if_ge (pc := 23) C (tgt := 34) dK_a_202.2.2.2.2.2.1 rfl (fun _ =>
    aw_aload_n (pc := 34) C (i := 0) dK_a_203.2.2.1 rfl rfl <|
    aw_getR (pc := 35) C (b := 42) dK_a_203.2.2.2.1 fl_X10_72 sC_0 rfl rC_0_1 <|
    aw_getR (pc := 38) C (b := 46) dK_a_203.2.2.2.2.1 fl_X10_303 (mt_s (Or.inl rfl)) rfl rC_42_8 <|
    aw_iload_n (pc := 41) C (i := 3) dK_a_203.2.2.2.2.2.1 rfl rfl <|
    aw_iald (pc := 42) C dK_a_203.2.2.2.2.2.2.1 sC_46 rfl <|
    aw_iret (pc := 43) C dK_a_203.2.2.2.2.2.2.2.1 rfl rfl) (fun _ =>
    aw_aload_n (pc := 26) C (i := 0) dK_a_202.2.2.2.2.2.2.1 rfl rfl <|
    aw_iconst (pc := 27) C (v := (-1)) dK_a_202.2.2.2.2.2.2.2.1 rfl <|
    aw_callF (pc := 28) C (cr_V (rest := []) (F := (X10_refuse (-1))) C (c_X10_refuse X.2.1 (-1)) dK_a_203.1 mf_X10_refuse ml_X10_111 im_X10_refuse se_X10_refuse sC_0 rfl ⟨(Nat.le_of_ble_eq_true rfl), (Nat.le_of_ble_eq_true rfl)⟩ rfl rfl (Nat.le_of_ble_eq_true rfl)) rfl rfl rfl (Nat.zero_le _) (Nat.zero_le _) fun r5 h6 =>
    aw_goto (pc := 31) C (tgt := 43) dK_a_203.2.1 rfl <|
    aw_iret (pc := 43) C dK_a_203.2.2.2.2.2.2.2.1 rfl rfl)
def X10_tried (v1 : Int32) (v2 : Int32) (h : AH) : Option (Int32 × AH) :=
    bd (X10_nobody v1 h) fun r1 h2 =>
    if r1 = 0 then (bd (X5_find 42 v1 v2 h2) fun r3 h4 =>
    X10_tried_j21 r3 h4)
    else (X10_tried_j21 (-1) h2)
set_option maxRecDepth 100000 in
theorem c_X10_tried (l : Launch) (v1 : Int32) (v2 : Int32) : MC l yX10_tried cX10_tried 4 (some .int) rmX10_tried ZC [.ref 0, .int v1, .int v2] rvI (X10_tried v1 v2) :=
  MC.of (own := RX10) pn_RX10 rfl (Nat.le_of_ble_eq_true rfl) fun X yd A h _ C =>
    aw_aload_n (pc := 0) C (i := 0) dK_a_201.1 rfl rfl <|
    aw_iload_n (pc := 1) C (i := 1) dK_a_201.2.1 rfl rfl <|
    aw_callF (pc := 2) C (cr_V (rest := []) (F := (X10_nobody v1)) C (c_X10_nobody X.2.1 v1) dK_a_201.2.2.1 mf_X10_nobody ml_X10_93 im_X10_nobody se_X10_nobody sC_0 rfl ⟨(Nat.le_of_ble_eq_true rfl), (Nat.le_of_ble_eq_true rfl)⟩ rfl rfl (Nat.le_of_ble_eq_true rfl)) rfl rfl rfl (Nat.zero_le _) (Nat.zero_le _) fun r1 h2 =>
    aw_if_eq (pc := 5) C (tgt := 12) dK_a_201.2.2.2.1 rfl (fun _ =>
    aw_aload_n (pc := 12) C (i := 0) dK_a_201.2.2.2.2.2.2.1 rfl rfl <|
    aw_getR (pc := 13) C (b := 42) dK_a_201.2.2.2.2.2.2.2.1 fl_X10_72 sC_0 rfl rC_0_1 <|
    aw_iload_n (pc := 16) C (i := 1) dK_a_202.1 rfl rfl <|
    aw_iload_n (pc := 17) C (i := 2) dK_a_202.2.1 rfl rfl <|
    aw_callF (pc := 18) C (cr_V (rest := []) (F := (X5_find 42 v1 v2)) C (c_X5_find X.2.1 42 (Or.inl rfl) v1 v2) dK_a_202.2.2.1 mf_X5_find ml_X10_300 im_X5_find se_X5_find (mt_s (Or.inl rfl)) rfl ⟨(Nat.le_of_ble_eq_true rfl), (Nat.le_of_ble_eq_true rfl)⟩ rfl rfl (Nat.le_of_ble_eq_true rfl)) rfl rfl rfl (Nat.zero_le _) (Nat.zero_le _) fun r3 h4 =>
    aw_drop [0] (aX10_tried_j21 C r3 h4)) (fun _ =>
    aw_iconst (pc := 8) C (v := (-1)) dK_a_201.2.2.2.2.1 rfl <|
    aw_goto (pc := 9) C (tgt := 21) dK_a_201.2.2.2.2.2.1 rfl <|
    aw_drop [0] (aX10_tried_j21 C (-1) h2))

abbrev rmX10_leastFor : Room := { frames := 2, cells := 0, slots := 0, locals := 72 }
def X10_leastFor_l2  (v1 : Int32) (v2 : Int32) : Nat → Int32 → AH → Option (Int32 × AH)
  | 0, _, _ => none
  | n + 1, v3, h =>
    if 999 < v3 then (some ((-9), h))
    else (bd (X6_ahead v1 v3 h) fun r1 h2 =>
    if v2 ≤ r1 then (vl (v3 + 1) fun x3 =>
    (X10_leastFor_l2 v1 v2 n) x3 h2)
    else (some (v3, h2)))
set_option maxRecDepth 100000 in
theorem aX10_leastFor_l2 {X : MCx} {yd : Dyn} {A : Nat → Prop} (C : OK X cX10_leastFor RX10 4 (some .int) rmX10_leastFor A)  (v1 : Int32) (v2 : Int32) : ∀ (n : Nat) (v3 : Int32) (h : AH), AW X 4 ZC yd A 0 0 (QF X rmX10_leastFor ZC yd rvI A) 2 [(0, .ref 0), (1, .int v1), (2, .int v2), (3, .int v3)] [] h (X10_leastFor_l2 v1 v2 n v3 h) := by
  intro n
  induction n with
  | zero => intro v3 h; exact aw_none
  | succ n ih =>
    intro v3 h
    exact aw_iload_n (pc := 2) C (i := 3) dK_a_209.2.2.1 rfl rfl <|
    aw_sipush (pc := 3) C (v := 999) dK_a_209.2.2.2.1 rfl <|
    aw_icmp_gt (pc := 6) C (tgt := 30) dK_a_209.2.2.2.2.1 rfl (fun _ =>
    aw_bipush (pc := 30) C (v := (-9)) dK_a_211.1 rfl <|
    aw_iret (pc := 32) C dK_a_211.2.1 rfl rfl) (fun _ =>
    aw_aload_n (pc := 9) C (i := 0) dK_a_209.2.2.2.2.2.1 rfl rfl <|
    aw_getR (pc := 10) C (b := 5) dK_a_209.2.2.2.2.2.2.1 fl_X10_28 sC_0 rfl rC_0_10 <|
    aw_iload_n (pc := 13) C (i := 1) dK_a_209.2.2.2.2.2.2.2.1 rfl rfl <|
    aw_iload_n (pc := 14) C (i := 3) dK_a_210.1 rfl rfl <|
    aw_callF (pc := 15) C (cr_V (rest := []) (F := (X6_ahead v1 v3)) C (c_X6_ahead X.2.1 v1 v3) dK_a_210.2.1 mf_X6_ahead ml_X10_312 im_X6_ahead se_X6_ahead sC_5 rfl ⟨(Nat.le_of_ble_eq_true rfl), (Nat.le_of_ble_eq_true rfl)⟩ rfl rfl (Nat.le_of_ble_eq_true rfl)) rfl rfl rfl (Nat.zero_le _) (Nat.zero_le _) fun r1 h2 =>
    aw_iload_n (pc := 18) C (i := 2) dK_a_210.2.2.1 rfl rfl <|
    aw_icmp_ge (pc := 19) C (tgt := 24) dK_a_210.2.2.2.1 rfl (fun _ =>
    aw_iincV (pc := 24) C (i := 3) (cst := 1) (fun x3 => [(0, .ref 0), (1, .int v1), (2, .int v2), (3, .int x3)]) dK_a_210.2.2.2.2.2.2.1 rfl rfl (by decide) (fun _ => rfl) fun x3 =>
    aw_goto (pc := 27) C (tgt := 2) dK_a_210.2.2.2.2.2.2.2.1 rfl <|
    (ih x3 h2)) (fun _ =>
    aw_iload_n (pc := 22) C (i := 3) dK_a_210.2.2.2.2.1 rfl rfl <|
    aw_iret (pc := 23) C dK_a_210.2.2.2.2.2.1 rfl rfl))
def X10_leastFor (v1 : Int32) (v2 : Int32) (h : AH) : Option (Int32 × AH) :=
    X10_leastFor_l2 v1 v2 FU 0 h
set_option maxRecDepth 100000 in
theorem c_X10_leastFor (l : Launch) (v1 : Int32) (v2 : Int32) : MC l yX10_leastFor cX10_leastFor 4 (some .int) rmX10_leastFor ZC [.ref 0, .int v1, .int v2] rvI (X10_leastFor v1 v2) :=
  MC.of (own := RX10) pn_RX10 rfl (Nat.le_of_ble_eq_true rfl) fun X yd A h _ C =>
    aw_iconst (pc := 0) C (v := 0) dK_a_209.1 rfl <|
    aw_istore_n (pc := 1) C (i := 3) (lv' := [(0, .ref 0), (1, .int v1), (2, .int v2), (3, .int 0)]) dK_a_209.2.1 rfl (by decide) rfl <|
    (aX10_leastFor_l2 C v1 v2 FU 0 h)
end
section
abbrev rmX10_needs : Room := { frames := 3, cells := 0, slots := 0, locals := 95 }
def X10_needs_j60  (s0 : Int32) (s1 : Int32) (h : AH) : Option (Int32 × AH) :=
    bd (X10_leastFor s1 s0 h) fun r11 h12 =>
    some (r11, h12)
set_option maxRecDepth 100000 in
theorem aX10_needs_j60 {X : MCx} {yd : Dyn} {A : Nat → Prop} (C : OK X cX10_needs RX10 4 (some .int) rmX10_needs A)  (s0 : Int32) (s1 : Int32) (h : AH) : AW X 4 ZC yd A 0 0 (QF X rmX10_needs ZC yd rvI A) 60 [] [.int s0, .int s1, .ref 0] h (X10_needs_j60 s0 s1 h) := by
    exact aw_callF (pc := 60) C (cr_V (rest := []) (F := (X10_leastFor s1 s0)) C (c_X10_leastFor X.2.1 s1 s0) dK_a_208.1 mf_X10_leastFor ml_X10_309 im_X10_leastFor se_X10_leastFor sC_0 rfl ⟨(Nat.le_of_ble_eq_true rfl), (Nat.le_of_ble_eq_true rfl)⟩ rfl rfl (Nat.le_of_ble_eq_true rfl)) rfl rfl rfl (Nat.zero_le _) (Nat.zero_le _) fun r11 h12 =>
    aw_iret (pc := 63) C dK_a_208.2.1 rfl rfl
def X10_needs (v1 : Int32) (v2 : Int32) (h : AH) : Option (Int32 × AH) :=
    bd (X10_nobody v1 h) fun r1 h2 =>
    bd (X10_noSuch v2 1 h2) fun r3 h4 =>
    bd (X10_first r1 r3 h4) fun r5 h6 =>
    if r5 = 0 then (bd (X5_rank 42 0 (h6.1 42 4) h6) fun _ h8 =>
    if v2 = 0 then (X10_needs_j60 1 v1 h8)
    else (bd (X5_finalists 42 h8) fun r9 h10 =>
    X10_needs_j60 r9 v1 h10))
    else (bd (X10_refuse r5 h6) fun r13 h14 =>
    some (r13, h14))
set_option maxRecDepth 100000 in
theorem c_X10_needs (l : Launch) (v1 : Int32) (v2 : Int32) : MC l yX10_needs cX10_needs 4 (some .int) rmX10_needs ZC [.ref 0, .int v1, .int v2] rvI (X10_needs v1 v2) :=
  MC.of (own := RX10) pn_RX10 rfl (Nat.le_of_ble_eq_true rfl) fun X yd A h _ C =>
    aw_aload_n (pc := 0) C (i := 0) dK_a_204.1 rfl rfl <|
    aw_iload_n (pc := 1) C (i := 1) dK_a_204.2.1 rfl rfl <|
    aw_callF (pc := 2) C (cr_V (rest := []) (F := (X10_nobody v1)) C (c_X10_nobody X.2.1 v1) dK_a_204.2.2.1 mf_X10_nobody ml_X10_93 im_X10_nobody se_X10_nobody sC_0 rfl ⟨(Nat.le_of_ble_eq_true rfl), (Nat.le_of_ble_eq_true rfl)⟩ rfl rfl (Nat.le_of_ble_eq_true rfl)) rfl rfl rfl (Nat.zero_le _) (Nat.zero_le _) fun r1 h2 =>
    aw_iload_n (pc := 5) C (i := 2) dK_a_204.2.2.2.1 rfl rfl <|
    aw_iconst (pc := 6) C (v := 1) dK_a_204.2.2.2.2.1 rfl <|
    aw_callF (pc := 7) C (cr_S (rest := [.int r1]) (F := (X10_noSuch v2 1)) C (c_X10_noSuch X.2.1 v2 1) dK_a_204.2.2.2.2.2.1 mf_X10_noSuch ml_X10_101 st_X10_noSuch ⟨(Nat.le_of_ble_eq_true rfl), (Nat.le_of_ble_eq_true rfl)⟩ rfl rfl (Nat.le_of_ble_eq_true rfl)) rfl rfl rfl (Nat.zero_le _) (Nat.zero_le _) fun r3 h4 =>
    aw_callF (pc := 10) C (cr_S (rest := []) (F := (X10_first r1 r3)) C (c_X10_first X.2.1 r1 r3) dK_a_204.2.2.2.2.2.2.1 mf_X10_first ml_X10_97 st_X10_first ⟨(Nat.le_of_ble_eq_true rfl), (Nat.le_of_ble_eq_true rfl)⟩ rfl rfl (Nat.le_of_ble_eq_true rfl)) rfl rfl rfl (Nat.zero_le _) (Nat.zero_le _) fun r5 h6 =>
    aw_istore_n (pc := 13) C (i := 3) (lv' := [(0, .ref 0), (1, .int v1), (2, .int v2), (3, .int r5)]) dK_a_204.2.2.2.2.2.2.2.1 rfl (by decide) rfl <|
    aw_iload_n (pc := 14) C (i := 3) dK_a_205.1 rfl rfl <|
    aw_if_eq (pc := 15) C (tgt := 24) dK_a_205.2.1 rfl (fun _ =>
    aw_aload_n (pc := 24) C (i := 0) dK_a_205.2.2.2.2.2.2.1 rfl rfl <|
    aw_getR (pc := 25) C (b := 42) dK_a_205.2.2.2.2.2.2.2.1 fl_X10_72 sC_0 rfl rC_0_1 <|
    aw_aload_n (pc := 28) C (i := 0) dK_a_206.1 rfl rfl <|
    aw_getR (pc := 29) C (b := 5) dK_a_206.2.1 fl_X10_28 sC_0 rfl rC_0_10 <|
    aw_iconst (pc := 32) C (v := 0) dK_a_206.2.2.1 rfl <|
    aw_aload_n (pc := 33) C (i := 0) dK_a_206.2.2.2.1 rfl rfl <|
    aw_getR (pc := 34) C (b := 42) dK_a_206.2.2.2.2.1 fl_X10_72 sC_0 rfl rC_0_1 <|
    aw_getI (pc := 37) C dK_a_206.2.2.2.2.2.1 fl_X10_160 (mt_s (Or.inl rfl)) rfl <|
    aw_callF (pc := 40) C (cr_V (rest := []) (F := (X5_rank 42 0 (h6.1 42 4))) C (c_X5_rank X.2.1 42 (Or.inl rfl) 0 (h6.1 42 4)) dK_a_206.2.2.2.2.2.2.1 mf_X5_rank ml_X10_214 im_X5_rank se_X5_rank (mt_s (Or.inl rfl)) rfl ⟨(Nat.le_of_ble_eq_true rfl), (Nat.le_of_ble_eq_true rfl)⟩ rfl rfl (Nat.le_of_ble_eq_true rfl)) rfl rfl rfl (Nat.zero_le _) (Nat.zero_le _) fun _ h8 =>
    aw_aload_n (pc := 43) C (i := 0) dK_a_206.2.2.2.2.2.2.2.1 rfl rfl <|
    aw_iload_n (pc := 44) C (i := 1) dK_a_207.1 rfl rfl <|
    aw_iload_n (pc := 45) C (i := 2) dK_a_207.2.1 rfl rfl <|
    aw_if_ne (pc := 46) C (tgt := 53) dK_a_207.2.2.1 rfl (fun _ =>
    aw_iconst (pc := 49) C (v := 1) dK_a_207.2.2.2.1 rfl <|
    aw_goto (pc := 50) C (tgt := 60) dK_a_207.2.2.2.2.1 rfl <|
    aw_drop [] (aX10_needs_j60 C 1 v1 h8)) (fun _ =>
    aw_aload_n (pc := 53) C (i := 0) dK_a_207.2.2.2.2.2.1 rfl rfl <|
    aw_getR (pc := 54) C (b := 42) dK_a_207.2.2.2.2.2.2.1 fl_X10_72 sC_0 rfl rC_0_1 <|
    aw_callF (pc := 57) C (cr_V (rest := [.int v1, .ref 0]) (F := (X5_finalists 42)) C (c_X5_finalists X.2.1 42 (Or.inl rfl)) dK_a_207.2.2.2.2.2.2.2.1 mf_X5_finalists ml_X10_306 im_X5_finalists se_X5_finalists (mt_s (Or.inl rfl)) rfl ⟨(Nat.le_of_ble_eq_true rfl), (Nat.le_of_ble_eq_true rfl)⟩ rfl rfl (Nat.le_of_ble_eq_true rfl)) rfl rfl rfl (Nat.zero_le _) (Nat.zero_le _) fun r9 h10 =>
    aw_drop [] (aX10_needs_j60 C r9 v1 h10))) (fun _ =>
    aw_aload_n (pc := 18) C (i := 0) dK_a_205.2.2.1 rfl rfl <|
    aw_iload_n (pc := 19) C (i := 3) dK_a_205.2.2.2.1 rfl rfl <|
    aw_callF (pc := 20) C (cr_V (rest := []) (F := (X10_refuse r5)) C (c_X10_refuse X.2.1 r5) dK_a_205.2.2.2.2.1 mf_X10_refuse ml_X10_111 im_X10_refuse se_X10_refuse sC_0 rfl ⟨(Nat.le_of_ble_eq_true rfl), (Nat.le_of_ble_eq_true rfl)⟩ rfl rfl (Nat.le_of_ble_eq_true rfl)) rfl rfl rfl (Nat.zero_le _) (Nat.zero_le _) fun r13 h14 =>
    aw_iret (pc := 23) C dK_a_205.2.2.2.2.2.1 rfl rfl)

abbrev rmX10_ranks : Room := { frames := 3, cells := 0, slots := 0, locals := 94 }
def X10_ranks_l48  : Nat → Int32 → Int32 → AH → Option (Int32 × AH)
  | 0, _, _, _ => none
  | n + 1, v3, v4, h =>
    if v4 < 0 then (some (v3, h))
    else (bd (X6_at v4 h) fun r6 h7 =>
    vl ((10 * v3) + r6) fun x8 =>
    vl (v4 + (-1)) fun x9 =>
    (X10_ranks_l48 n) x8 x9 h7)
set_option maxRecDepth 100000 in
theorem aX10_ranks_l48 {X : MCx} {yd : Dyn} {A : Nat → Prop} (C : OK X cX10_ranks RX10 5 (some .int) rmX10_ranks A)  : ∀ (n : Nat) (v3 : Int32) (v4 : Int32) (h : AH), AW X 5 ZC yd A 0 0 (QF X rmX10_ranks ZC yd rvI A) 48 [(0, .ref 0), (3, .int v3), (4, .int v4)] [] h (X10_ranks_l48 n v3 v4 h) := by
  intro n
  induction n with
  | zero => intro v3 v4 h; exact aw_none
  | succ n ih =>
    intro v3 v4 h
    exact aw_iload (pc := 48) C (i := 4) dK_a_215.2.2.2.1 rfl <|
    aw_if_lt (pc := 50) C (tgt := 74) dK_a_215.2.2.2.2.1 rfl (fun _ =>
    aw_iload_n (pc := 74) C (i := 3) dK_a_217.1 rfl rfl <|
    aw_iret (pc := 75) C dK_a_217.2.1 rfl rfl) (fun _ =>
    aw_bipush (pc := 53) C (v := 10) dK_a_215.2.2.2.2.2.1 rfl <|
    aw_iload_n (pc := 55) C (i := 3) dK_a_215.2.2.2.2.2.2.1 rfl rfl <|
    aw_imul (pc := 56) C dK_a_215.2.2.2.2.2.2.2.1 <|
    aw_aload_n (pc := 57) C (i := 0) dK_a_216.1 rfl rfl <|
    aw_getR (pc := 58) C (b := 5) dK_a_216.2.1 fl_X10_28 sC_0 rfl rC_0_10 <|
    aw_iload (pc := 61) C (i := 4) dK_a_216.2.2.1 rfl <|
    aw_callF (pc := 63) C (cr_V (rest := [.int (10 * v3)]) (F := (X6_at v4)) C (c_X6_at X.2.1 v4) dK_a_216.2.2.2.1 mf_X6_at ml_X10_315 im_X6_at se_X6_at sC_5 rfl ⟨(Nat.le_of_ble_eq_true rfl), (Nat.le_of_ble_eq_true rfl)⟩ rfl rfl (Nat.le_of_ble_eq_true rfl)) rfl rfl rfl (Nat.zero_le _) (Nat.zero_le _) fun r6 h7 =>
    aw_iadd (pc := 66) C dK_a_216.2.2.2.2.1 <|
    aw_istoreV_n (pc := 67) C (i := 3) (fun x8 => [(0, .ref 0), (3, .int x8), (4, .int v4)]) dK_a_216.2.2.2.2.2.1 rfl (by decide) (fun _ => rfl) fun x8 =>
    aw_iincV (pc := 68) C (i := 4) (cst := (-1)) (fun x9 => [(0, .ref 0), (3, .int x8), (4, .int x9)]) dK_a_216.2.2.2.2.2.2.1 rfl rfl (by decide) (fun _ => rfl) fun x9 =>
    aw_goto (pc := 71) C (tgt := 48) dK_a_216.2.2.2.2.2.2.2.1 rfl <|
    (ih x8 x9 h7))
def X10_ranks (v1 : Int32) (h : AH) : Option (Int32 × AH) :=
    bd (X10_noSuch v1 2 h) fun r1 h2 =>
    if r1 = 0 then (bd (X5_rank 42 v1 (h2.1 42 4) h2) fun _ h4 =>
    vl ((h4.1 42 3) - 1) fun x5 =>
    X10_ranks_l48 FU 0 x5 h4)
    else (bd (X10_refuse r1 h2) fun r10 h11 =>
    some (r10, h11))
set_option maxRecDepth 100000 in
theorem c_X10_ranks (l : Launch) (v1 : Int32) : MC l yX10_ranks cX10_ranks 5 (some .int) rmX10_ranks ZC [.ref 0, .int v1] rvI (X10_ranks v1) :=
  MC.of (own := RX10) pn_RX10 rfl (Nat.le_of_ble_eq_true rfl) fun X yd A h _ C =>
    aw_iload_n (pc := 0) C (i := 1) dK_a_212.1 rfl rfl <|
    aw_iconst (pc := 1) C (v := 2) dK_a_212.2.1 rfl <|
    aw_callF (pc := 2) C (cr_S (rest := []) (F := (X10_noSuch v1 2)) C (c_X10_noSuch X.2.1 v1 2) dK_a_212.2.2.1 mf_X10_noSuch ml_X10_101 st_X10_noSuch ⟨(Nat.le_of_ble_eq_true rfl), (Nat.le_of_ble_eq_true rfl)⟩ rfl rfl (Nat.le_of_ble_eq_true rfl)) rfl rfl rfl (Nat.zero_le _) (Nat.zero_le _) fun r1 h2 =>
    aw_istore_n (pc := 5) C (i := 2) (lv' := [(0, .ref 0), (1, .int v1), (2, .int r1)]) dK_a_212.2.2.2.1 rfl (by decide) rfl <|
    aw_iload_n (pc := 6) C (i := 2) dK_a_212.2.2.2.2.1 rfl rfl <|
    aw_if_eq (pc := 7) C (tgt := 16) dK_a_212.2.2.2.2.2.1 rfl (fun _ =>
    aw_aload_n (pc := 16) C (i := 0) dK_a_213.2.2.1 rfl rfl <|
    aw_getR (pc := 17) C (b := 42) dK_a_213.2.2.2.1 fl_X10_72 sC_0 rfl rC_0_1 <|
    aw_aload_n (pc := 20) C (i := 0) dK_a_213.2.2.2.2.1 rfl rfl <|
    aw_getR (pc := 21) C (b := 5) dK_a_213.2.2.2.2.2.1 fl_X10_28 sC_0 rfl rC_0_10 <|
    aw_iload_n (pc := 24) C (i := 1) dK_a_213.2.2.2.2.2.2.1 rfl rfl <|
    aw_aload_n (pc := 25) C (i := 0) dK_a_213.2.2.2.2.2.2.2.1 rfl rfl <|
    aw_getR (pc := 26) C (b := 42) dK_a_214.1 fl_X10_72 sC_0 rfl rC_0_1 <|
    aw_getI (pc := 29) C dK_a_214.2.1 fl_X10_160 (mt_s (Or.inl rfl)) rfl <|
    aw_callF (pc := 32) C (cr_V (rest := []) (F := (X5_rank 42 v1 (h2.1 42 4))) C (c_X5_rank X.2.1 42 (Or.inl rfl) v1 (h2.1 42 4)) dK_a_214.2.2.1 mf_X5_rank ml_X10_214 im_X5_rank se_X5_rank (mt_s (Or.inl rfl)) rfl ⟨(Nat.le_of_ble_eq_true rfl), (Nat.le_of_ble_eq_true rfl)⟩ rfl rfl (Nat.le_of_ble_eq_true rfl)) rfl rfl rfl (Nat.zero_le _) (Nat.zero_le _) fun _ h4 =>
    aw_iconst (pc := 35) C (v := 0) dK_a_214.2.2.2.1 rfl <|
    aw_istore_n (pc := 36) C (i := 3) (lv' := [(0, .ref 0), (1, .int v1), (2, .int r1), (3, .int 0)]) dK_a_214.2.2.2.2.1 rfl (by decide) rfl <|
    aw_aload_n (pc := 37) C (i := 0) dK_a_214.2.2.2.2.2.1 rfl rfl <|
    aw_getR (pc := 38) C (b := 42) dK_a_214.2.2.2.2.2.2.1 fl_X10_72 sC_0 rfl rC_0_1 <|
    aw_getI (pc := 41) C dK_a_214.2.2.2.2.2.2.2.1 fl_X10_89 (mt_s (Or.inl rfl)) rfl <|
    aw_iconst (pc := 44) C (v := 1) dK_a_215.1 rfl <|
    aw_isub (pc := 45) C dK_a_215.2.1 <|
    aw_istoreV (pc := 46) C (i := 4) (fun x5 => [(0, .ref 0), (1, .int v1), (2, .int r1), (3, .int 0), (4, .int x5)]) dK_a_215.2.2.1 (by decide) (fun _ => rfl) fun x5 =>
    aw_drop [0, 3, 4] (aX10_ranks_l48 C FU 0 x5 h4)) (fun _ =>
    aw_aload_n (pc := 10) C (i := 0) dK_a_212.2.2.2.2.2.2.1 rfl rfl <|
    aw_iload_n (pc := 11) C (i := 2) dK_a_212.2.2.2.2.2.2.2.1 rfl rfl <|
    aw_callF (pc := 12) C (cr_V (rest := []) (F := (X10_refuse r1)) C (c_X10_refuse X.2.1 r1) dK_a_213.1 mf_X10_refuse ml_X10_111 im_X10_refuse se_X10_refuse sC_0 rfl ⟨(Nat.le_of_ble_eq_true rfl), (Nat.le_of_ble_eq_true rfl)⟩ rfl rfl (Nat.le_of_ble_eq_true rfl)) rfl rfl rfl (Nat.zero_le _) (Nat.zero_le _) fun r10 h11 =>
    aw_iret (pc := 15) C dK_a_213.2.1 rfl rfl)

abbrev rmX10_leads : Room := { frames := 4, cells := 0, slots := 0, locals := 115 }
def X10_leads  (h : AH) : Option (Int32 × AH) :=
    bd (X5_leader 42 h) fun r1 h2 =>
    some (r1, h2)
set_option maxRecDepth 100000 in
theorem c_X10_leads (l : Launch)  : MC l yX10_leads cX10_leads 1 (some .int) rmX10_leads ZC [.ref 0] rvI (X10_leads) :=
  MC.of (own := RX10) pn_RX10 rfl (Nat.le_of_ble_eq_true rfl) fun X yd A h _ C =>
    aw_aload_n (pc := 0) C (i := 0) dK_a_218.1 rfl rfl <|
    aw_getR (pc := 1) C (b := 42) dK_a_218.2.1 fl_X10_72 sC_0 rfl rC_0_1 <|
    aw_aload_n (pc := 4) C (i := 0) dK_a_218.2.2.1 rfl rfl <|
    aw_getR (pc := 5) C (b := 5) dK_a_218.2.2.2.1 fl_X10_28 sC_0 rfl rC_0_10 <|
    aw_callF (pc := 8) C (cr_V (rest := []) (F := (X5_leader 42)) C (c_X5_leader X.2.1 42 (Or.inl rfl)) dK_a_218.2.2.2.2.1 mf_X5_leader ml_X10_317 im_X5_leader se_X5_leader (mt_s (Or.inl rfl)) rfl ⟨(Nat.le_of_ble_eq_true rfl), (Nat.le_of_ble_eq_true rfl)⟩ rfl rfl (Nat.le_of_ble_eq_true rfl)) rfl rfl rfl (Nat.zero_le _) (Nat.zero_le _) fun r1 h2 =>
    aw_iret (pc := 11) C dK_a_218.2.2.2.2.2.1 rfl rfl

abbrev rmX10_goOn : Room := { frames := 3, cells := 0, slots := 0, locals := 94 }
def X10_goOn_l23  : Nat → Int32 → Int32 → AH → Option (Int32 × AH)
  | 0, _, _, _ => none
  | n + 1, v1, v2, h =>
    bd (X5_finalists 42 h) fun r3 h4 =>
    if r3 ≤ v2 then (some (v1, h4))
    else (bd (X6_at v2 h4) fun r5 h6 =>
    vl (v1 ||| (shl32 1 r5)) fun x7 =>
    vl (v2 + 1) fun x8 =>
    (X10_goOn_l23 n) x7 x8 h6)
set_option maxRecDepth 100000 in
theorem aX10_goOn_l23 {X : MCx} {yd : Dyn} {A : Nat → Prop} (C : OK X cX10_goOn RX10 3 (some .int) rmX10_goOn A)  : ∀ (n : Nat) (v1 : Int32) (v2 : Int32) (h : AH), AW X 3 ZC yd A 0 0 (QF X rmX10_goOn ZC yd rvI A) 23 [(0, .ref 0), (1, .int v1), (2, .int v2)] [] h (X10_goOn_l23 n v1 v2 h) := by
  intro n
  induction n with
  | zero => intro v1 v2 h; exact aw_none
  | succ n ih =>
    intro v1 v2 h
    exact aw_iload_n (pc := 23) C (i := 2) dK_a_220.2.2.2.2.2.1 rfl rfl <|
    aw_aload_n (pc := 24) C (i := 0) dK_a_220.2.2.2.2.2.2.1 rfl rfl <|
    aw_getR (pc := 25) C (b := 42) dK_a_220.2.2.2.2.2.2.2.1 fl_X10_72 sC_0 rfl rC_0_1 <|
    aw_callF (pc := 28) C (cr_V (rest := [.int v2]) (F := (X5_finalists 42)) C (c_X5_finalists X.2.1 42 (Or.inl rfl)) dK_a_221.1 mf_X5_finalists ml_X10_306 im_X5_finalists se_X5_finalists (mt_s (Or.inl rfl)) rfl ⟨(Nat.le_of_ble_eq_true rfl), (Nat.le_of_ble_eq_true rfl)⟩ rfl rfl (Nat.le_of_ble_eq_true rfl)) rfl rfl rfl (Nat.zero_le _) (Nat.zero_le _) fun r3 h4 =>
    aw_icmp_ge (pc := 31) C (tgt := 53) dK_a_221.2.1 rfl (fun _ =>
    aw_iload_n (pc := 53) C (i := 1) dK_a_222.2.2.2.2.2.1 rfl rfl <|
    aw_iret (pc := 54) C dK_a_222.2.2.2.2.2.2.1 rfl rfl) (fun _ =>
    aw_iload_n (pc := 34) C (i := 1) dK_a_221.2.2.1 rfl rfl <|
    aw_iconst (pc := 35) C (v := 1) dK_a_221.2.2.2.1 rfl <|
    aw_aload_n (pc := 36) C (i := 0) dK_a_221.2.2.2.2.1 rfl rfl <|
    aw_getR (pc := 37) C (b := 5) dK_a_221.2.2.2.2.2.1 fl_X10_28 sC_0 rfl rC_0_10 <|
    aw_iload_n (pc := 40) C (i := 2) dK_a_221.2.2.2.2.2.2.1 rfl rfl <|
    aw_callF (pc := 41) C (cr_V (rest := [.int 1, .int v1]) (F := (X6_at v2)) C (c_X6_at X.2.1 v2) dK_a_221.2.2.2.2.2.2.2.1 mf_X6_at ml_X10_315 im_X6_at se_X6_at sC_5 rfl ⟨(Nat.le_of_ble_eq_true rfl), (Nat.le_of_ble_eq_true rfl)⟩ rfl rfl (Nat.le_of_ble_eq_true rfl)) rfl rfl rfl (Nat.zero_le _) (Nat.zero_le _) fun r5 h6 =>
    aw_ishl (pc := 44) C dK_a_222.1 <|
    aw_ior (pc := 45) C dK_a_222.2.1 <|
    aw_istoreV_n (pc := 46) C (i := 1) (fun x7 => [(0, .ref 0), (1, .int x7), (2, .int v2)]) dK_a_222.2.2.1 rfl (by decide) (fun _ => rfl) fun x7 =>
    aw_iincV (pc := 47) C (i := 2) (cst := 1) (fun x8 => [(0, .ref 0), (1, .int x7), (2, .int x8)]) dK_a_222.2.2.2.1 rfl rfl (by decide) (fun _ => rfl) fun x8 =>
    aw_goto (pc := 50) C (tgt := 23) dK_a_222.2.2.2.2.1 rfl <|
    (ih x7 x8 h6))
def X10_goOn  (h : AH) : Option (Int32 × AH) :=
    bd (X5_rank 42 0 (h.1 42 4) h) fun _ h2 =>
    X10_goOn_l23 FU 0 0 h2
set_option maxRecDepth 100000 in
theorem c_X10_goOn (l : Launch)  : MC l yX10_goOn cX10_goOn 3 (some .int) rmX10_goOn ZC [.ref 0] rvI (X10_goOn) :=
  MC.of (own := RX10) pn_RX10 rfl (Nat.le_of_ble_eq_true rfl) fun X yd A h _ C =>
    aw_aload_n (pc := 0) C (i := 0) dK_a_219.1 rfl rfl <|
    aw_getR (pc := 1) C (b := 42) dK_a_219.2.1 fl_X10_72 sC_0 rfl rC_0_1 <|
    aw_aload_n (pc := 4) C (i := 0) dK_a_219.2.2.1 rfl rfl <|
    aw_getR (pc := 5) C (b := 5) dK_a_219.2.2.2.1 fl_X10_28 sC_0 rfl rC_0_10 <|
    aw_iconst (pc := 8) C (v := 0) dK_a_219.2.2.2.2.1 rfl <|
    aw_aload_n (pc := 9) C (i := 0) dK_a_219.2.2.2.2.2.1 rfl rfl <|
    aw_getR (pc := 10) C (b := 42) dK_a_219.2.2.2.2.2.2.1 fl_X10_72 sC_0 rfl rC_0_1 <|
    aw_getI (pc := 13) C dK_a_219.2.2.2.2.2.2.2.1 fl_X10_160 (mt_s (Or.inl rfl)) rfl <|
    aw_callF (pc := 16) C (cr_V (rest := []) (F := (X5_rank 42 0 (h.1 42 4))) C (c_X5_rank X.2.1 42 (Or.inl rfl) 0 (h.1 42 4)) dK_a_220.1 mf_X5_rank ml_X10_214 im_X5_rank se_X5_rank (mt_s (Or.inl rfl)) rfl ⟨(Nat.le_of_ble_eq_true rfl), (Nat.le_of_ble_eq_true rfl)⟩ rfl rfl (Nat.le_of_ble_eq_true rfl)) rfl rfl rfl (Nat.zero_le _) (Nat.zero_le _) fun _ h2 =>
    aw_iconst (pc := 19) C (v := 0) dK_a_220.2.1 rfl <|
    aw_istore_n (pc := 20) C (i := 1) (lv' := [(0, .ref 0), (1, .int 0)]) dK_a_220.2.2.1 rfl (by decide) rfl <|
    aw_iconst (pc := 21) C (v := 0) dK_a_220.2.2.2.1 rfl <|
    aw_istore_n (pc := 22) C (i := 2) (lv' := [(0, .ref 0), (1, .int 0), (2, .int 0)]) dK_a_220.2.2.2.2.1 rfl (by decide) rfl <|
    (aX10_goOn_l23 C FU 0 0 h2)

abbrev rmX10_leftOf : Room := { frames := 0, cells := 0, slots := 0, locals := 0 }
def X10_leftOf_l6  (v0 : Int32) (v1 : Int32) : Nat → Int32 → Int32 → AH → Option (Int32 × AH)
  | 0, _, _, _ => none
  | n + 1, v2, v3, h =>
    if v1 ≤ v3 then (some (v2, h))
    else (vl ((v2 * (10000 - v0)) / 10000) fun x1 =>
    vl (v3 + 1) fun x2 =>
    (X10_leftOf_l6 v0 v1 n) x1 x2 h)
set_option maxRecDepth 100000 in
theorem aX10_leftOf_l6 {X : MCx} {yd : Dyn} {A : Nat → Prop} (C : OK X cX10_leftOf RX10 4 (some .int) rmX10_leftOf A)  (v0 : Int32) (v1 : Int32) : ∀ (n : Nat) (v2 : Int32) (v3 : Int32) (h : AH), AW X 4 ZC yd A 0 0 (QF X rmX10_leftOf ZC yd rvI A) 6 [(0, .int v0), (1, .int v1), (2, .int v2), (3, .int v3)] [] h (X10_leftOf_l6 v0 v1 n v2 v3 h) := by
  intro n
  induction n with
  | zero => intro v2 v3 h; exact aw_none
  | succ n ih =>
    intro v2 v3 h
    exact aw_iload_n (pc := 6) C (i := 3) dK_a_232.2.2.2.2.1 rfl rfl <|
    aw_iload_n (pc := 7) C (i := 1) dK_a_232.2.2.2.2.2.1 rfl rfl <|
    aw_icmp_ge (pc := 8) C (tgt := 29) dK_a_232.2.2.2.2.2.2.1 rfl (fun _ =>
    aw_iload_n (pc := 29) C (i := 2) dK_a_234.2.1 rfl rfl <|
    aw_iret (pc := 30) C dK_a_234.2.2.1 rfl rfl) (fun _ =>
    aw_iload_n (pc := 11) C (i := 2) dK_a_232.2.2.2.2.2.2.2.1 rfl rfl <|
    aw_sipush (pc := 12) C (v := 10000) dK_a_233.1 rfl <|
    aw_iload_n (pc := 15) C (i := 0) dK_a_233.2.1 rfl rfl <|
    aw_isub (pc := 16) C dK_a_233.2.2.1 <|
    aw_imul (pc := 17) C dK_a_233.2.2.2.1 <|
    aw_sipush (pc := 18) C (v := 10000) dK_a_233.2.2.2.2.1 rfl <|
    aw_idivK (pc := 21) C dK_a_233.2.2.2.2.2.1 (by decide) <|
    aw_istoreV_n (pc := 22) C (i := 2) (fun x1 => [(0, .int v0), (1, .int v1), (2, .int x1), (3, .int v3)]) dK_a_233.2.2.2.2.2.2.1 rfl (by decide) (fun _ => rfl) fun x1 =>
    aw_iincV (pc := 23) C (i := 3) (cst := 1) (fun x2 => [(0, .int v0), (1, .int v1), (2, .int x1), (3, .int x2)]) dK_a_233.2.2.2.2.2.2.2.1 rfl rfl (by decide) (fun _ => rfl) fun x2 =>
    aw_goto (pc := 26) C (tgt := 6) dK_a_234.1 rfl <|
    (ih x1 x2 h))
def X10_leftOf (v0 : Int32) (v1 : Int32) (h : AH) : Option (Int32 × AH) :=
    X10_leftOf_l6 v0 v1 FU 10000 0 h
set_option maxRecDepth 100000 in
theorem c_X10_leftOf (l : Launch) (v0 : Int32) (v1 : Int32) : MC l yX10_leftOf cX10_leftOf 4 (some .int) rmX10_leftOf ZC [.int v0, .int v1] rvI (X10_leftOf v0 v1) :=
  MC.of (own := RX10) pn_RX10 rfl (Nat.le_of_ble_eq_true rfl) fun X yd A h _ C =>
    aw_sipush (pc := 0) C (v := 10000) dK_a_232.1 rfl <|
    aw_istore_n (pc := 3) C (i := 2) (lv' := [(0, .int v0), (1, .int v1), (2, .int 10000)]) dK_a_232.2.1 rfl (by decide) rfl <|
    aw_iconst (pc := 4) C (v := 0) dK_a_232.2.2.1 rfl <|
    aw_istore_n (pc := 5) C (i := 3) (lv' := [(0, .int v0), (1, .int v1), (2, .int 10000), (3, .int 0)]) dK_a_232.2.2.2.1 rfl (by decide) rfl <|
    (aX10_leftOf_l6 C v0 v1 FU 10000 0 h)

abbrev rmX10_aim : Room := { frames := 6, cells := 0, slots := 0, locals := 158 }
def X10_aim_j120  (v1 : Int32) (v2 : Int32) (v3 : Int32) (v4 : Int32) (v6 : Int32) (v7 : Int32) (v8 : Int32) (K63 : Int32 → Int32 → Int32 → AH → Option (Int32 × AH)) (h : AH) : Option (Int32 × AH) :=
    vl (v8 + 1) fun x26 =>
    K63 v6 v7 x26 h
set_option maxRecDepth 100000 in
theorem aX10_aim_j120 {X : MCx} {yd : Dyn} {A : Nat → Prop} (C : OK X cX10_aim RX10 10 (some .int) rmX10_aim A)  (v1 : Int32) (v2 : Int32) (v3 : Int32) (v4 : Int32) (v6 : Int32) (v7 : Int32) (v8 : Int32) (K63 : Int32 → Int32 → Int32 → AH → Option (Int32 × AH)) (hK63 : ∀ (w6 : Int32) (w7 : Int32) (w8 : Int32) (h : AH), AW X 10 ZC yd A 0 0 (QF X rmX10_aim ZC yd rvI A) 63 [(0, .ref 0), (1, .int v1), (2, .int v2), (3, .int v3), (4, .int v4), (6, .int w6), (7, .int w7), (8, .int w8)] [] h (K63 w6 w7 w8 h)) (h : AH) : AW X 10 ZC yd A 0 0 (QF X rmX10_aim ZC yd rvI A) 120 [(0, .ref 0), (1, .int v1), (2, .int v2), (3, .int v3), (4, .int v4), (6, .int v6), (7, .int v7), (8, .int v8)] [] h (X10_aim_j120 v1 v2 v3 v4 v6 v7 v8 K63 h) := by
    exact aw_iincV (pc := 120) C (i := 8) (cst := 1) (fun x26 => [(0, .ref 0), (1, .int v1), (2, .int v2), (3, .int v3), (4, .int v4), (6, .int v6), (7, .int v7), (8, .int x26)]) dK_a_230.2.2.2.1 rfl rfl (by decide) (fun _ => rfl) fun x26 =>
    aw_goto (pc := 123) C (tgt := 63) dK_a_230.2.2.2.2.1 rfl <|
    (hK63 v6 v7 x26 h)
def X10_aim_l63  (v1 : Int32) (v2 : Int32) (v3 : Int32) (v4 : Int32) : Nat → Int32 → Int32 → Int32 → AH → Option (Int32 × AH)
  | 0, _, _, _, _ => none
  | n + 1, v6, v7, v8, h =>
    if 20 < v8 then (if v4 = 0 then (some (v6, h))
    else (some ((10000 - v7), h)))
    else (bd (X5_at 42 v1 h) fun r15 h16 =>
    cs ZC r15 (.inr 2) (bd (X10_spreadAt r15 v8 h16) fun _ h19 =>
    bd (X1_waysPast v3 h19) fun r20 h21 =>
    bd (X1_share r20 h21) fun r22 h23 =>
    bd (X10_leftOf r22 v2 h23) fun r24 h25 =>
    if v7 ≤ r24 then (X10_aim_j120 v1 v2 v3 v4 v6 v7 v8 (X10_aim_l63 v1 v2 v3 v4 n) h25)
    else (X10_aim_j120 v1 v2 v3 v4 v8 r24 v8 (X10_aim_l63 v1 v2 v3 v4 n) h25)))
set_option maxRecDepth 100000 in
theorem aX10_aim_l63 {X : MCx} {yd : Dyn} {A : Nat → Prop} (C : OK X cX10_aim RX10 10 (some .int) rmX10_aim A)  (v1 : Int32) (v2 : Int32) (v3 : Int32) (v4 : Int32) : ∀ (n : Nat) (v6 : Int32) (v7 : Int32) (v8 : Int32) (h : AH), AW X 10 ZC yd A 0 0 (QF X rmX10_aim ZC yd rvI A) 63 [(0, .ref 0), (1, .int v1), (2, .int v2), (3, .int v3), (4, .int v4), (6, .int v6), (7, .int v7), (8, .int v8)] [] h (X10_aim_l63 v1 v2 v3 v4 n v6 v7 v8 h) := by
  intro n
  induction n with
  | zero => intro v6 v7 v8 h; exact aw_none
  | succ n ih =>
    intro v6 v7 v8 h
    exact aw_iload (pc := 63) C (i := 8) dK_a_227.1 rfl <|
    aw_bipush (pc := 65) C (v := 20) dK_a_227.2.1 rfl <|
    aw_icmp_gt (pc := 67) C (tgt := 126) dK_a_227.2.2.1 rfl (fun _ =>
    aw_iload (pc := 126) C (i := 4) dK_a_230.2.2.2.2.2.1 rfl <|
    aw_if_ne (pc := 128) C (tgt := 136) dK_a_230.2.2.2.2.2.2.1 rfl (fun _ =>
    aw_iload (pc := 131) C (i := 6) dK_a_230.2.2.2.2.2.2.2.1 rfl <|
    aw_goto (pc := 133) C (tgt := 142) dK_a_231.1 rfl <|
    aw_iret (pc := 142) C dK_a_231.2.2.2.2.1 rfl rfl) (fun _ =>
    aw_sipush (pc := 136) C (v := 10000) dK_a_231.2.1 rfl <|
    aw_iload (pc := 139) C (i := 7) dK_a_231.2.2.1 rfl <|
    aw_isub (pc := 141) C dK_a_231.2.2.2.1 <|
    aw_iret (pc := 142) C dK_a_231.2.2.2.2.1 rfl rfl)) (fun _ =>
    aw_aload_n (pc := 70) C (i := 0) dK_a_227.2.2.2.1 rfl rfl <|
    aw_aload_n (pc := 71) C (i := 0) dK_a_227.2.2.2.2.1 rfl rfl <|
    aw_getR (pc := 72) C (b := 42) dK_a_227.2.2.2.2.2.1 fl_X10_72 sC_0 rfl rC_0_1 <|
    aw_iload_n (pc := 75) C (i := 1) dK_a_227.2.2.2.2.2.2.1 rfl rfl <|
    aw_callF (pc := 76) C (cr_V (rest := [.ref 0]) (F := (X5_at 42 v1)) C (c_X5_at X.2.1 42 (Or.inl rfl) v1) dK_a_227.2.2.2.2.2.2.2.1 mf_X5_at ml_X10_169 im_X5_at se_X5_at (mt_s (Or.inl rfl)) rfl ⟨(Nat.le_of_ble_eq_true rfl), (Nat.le_of_ble_eq_true rfl)⟩ rfl rfl (Nat.le_of_ble_eq_true rfl)) rfl rfl rfl (Nat.zero_le _) (Nat.zero_le _) fun r15 h16 =>
    aw_cs fun hs17 =>
    aw_iload (pc := 79) C (i := 8) dK_a_228.1 rfl <|
    aw_callF (pc := 81) C (cr_V (rest := []) (F := (X10_spreadAt r15 v8)) C (c_X10_spreadAt X.2.1 r15 hs17 v8) dK_a_228.2.1 mf_X10_spreadAt ml_X10_282 im_X10_spreadAt se_X10_spreadAt sC_0 rfl ⟨(Nat.le_of_ble_eq_true rfl), (Nat.le_of_ble_eq_true rfl)⟩ rfl rfl (Nat.le_of_ble_eq_true rfl)) rfl rfl rfl (Nat.zero_le _) (Nat.zero_le _) fun _ h19 =>
    aw_aload_n (pc := 84) C (i := 0) dK_a_228.2.2.1 rfl rfl <|
    aw_getR (pc := 85) C (b := 8) dK_a_228.2.2.2.1 fl_X10_35 sC_0 rfl rC_0_11 <|
    aw_aload_n (pc := 88) C (i := 0) dK_a_228.2.2.2.2.1 rfl rfl <|
    aw_getR (pc := 89) C (b := 8) dK_a_228.2.2.2.2.2.1 fl_X10_35 sC_0 rfl rC_0_11 <|
    aw_iload_n (pc := 92) C (i := 3) dK_a_228.2.2.2.2.2.2.1 rfl rfl <|
    aw_callF (pc := 93) C (cr_V (rest := [.ref 8]) (F := (X1_waysPast v3)) C (c_X1_waysPast X.2.1 v3) dK_a_228.2.2.2.2.2.2.2.1 mf_X1_waysPast ml_X10_273 im_X1_waysPast se_X1_waysPast sC_8 rfl ⟨(Nat.le_of_ble_eq_true rfl), (Nat.le_of_ble_eq_true rfl)⟩ rfl rfl (Nat.le_of_ble_eq_true rfl)) rfl rfl rfl (Nat.zero_le _) (Nat.zero_le _) fun r20 h21 =>
    aw_callF (pc := 96) C (cr_V (rest := []) (F := (X1_share r20)) C (c_X1_share X.2.1 r20) dK_a_229.1 mf_X1_share ml_X10_320 im_X1_share se_X1_share sC_8 rfl ⟨(Nat.le_of_ble_eq_true rfl), (Nat.le_of_ble_eq_true rfl)⟩ rfl rfl (Nat.le_of_ble_eq_true rfl)) rfl rfl rfl (Nat.zero_le _) (Nat.zero_le _) fun r22 h23 =>
    aw_iload_n (pc := 99) C (i := 2) dK_a_229.2.1 rfl rfl <|
    aw_callF (pc := 100) C (cr_S (rest := []) (F := (X10_leftOf r22 v2)) C (c_X10_leftOf X.2.1 r22 v2) dK_a_229.2.2.1 mf_X10_leftOf ml_X10_324 st_X10_leftOf ⟨(Nat.le_of_ble_eq_true rfl), (Nat.le_of_ble_eq_true rfl)⟩ rfl rfl (Nat.le_of_ble_eq_true rfl)) rfl rfl rfl (Nat.zero_le _) (Nat.zero_le _) fun r24 h25 =>
    aw_istore (pc := 103) C (i := 9) (lv' := [(0, .ref 0), (1, .int v1), (2, .int v2), (3, .int v3), (4, .int v4), (6, .int v6), (7, .int v7), (8, .int v8), (9, .int r24)]) dK_a_229.2.2.2.1 (by decide) rfl <|
    aw_iload (pc := 105) C (i := 9) dK_a_229.2.2.2.2.1 rfl <|
    aw_iload (pc := 107) C (i := 7) dK_a_229.2.2.2.2.2.1 rfl <|
    aw_icmp_ge (pc := 109) C (tgt := 120) dK_a_229.2.2.2.2.2.2.1 rfl (fun _ =>
    aw_drop [0, 1, 2, 3, 4, 5, 6, 7] (aX10_aim_j120 C v1 v2 v3 v4 v6 v7 v8 (X10_aim_l63 v1 v2 v3 v4 n) ih h25)) (fun _ =>
    aw_iload (pc := 112) C (i := 9) dK_a_229.2.2.2.2.2.2.2.1 rfl <|
    aw_istore (pc := 114) C (i := 7) (lv' := [(0, .ref 0), (1, .int v1), (2, .int v2), (3, .int v3), (4, .int v4), (6, .int v6), (7, .int r24), (8, .int v8), (9, .int r24)]) dK_a_230.1 (by decide) rfl <|
    aw_iload (pc := 116) C (i := 8) dK_a_230.2.1 rfl <|
    aw_istore (pc := 118) C (i := 6) (lv' := [(0, .ref 0), (1, .int v1), (2, .int v2), (3, .int v3), (4, .int v4), (6, .int v8), (7, .int r24), (8, .int v8), (9, .int r24)]) dK_a_230.2.2.1 (by decide) rfl <|
    aw_drop [0, 1, 2, 3, 4, 5, 6, 7] (aX10_aim_j120 C v1 v2 v3 v4 v8 r24 v8 (X10_aim_l63 v1 v2 v3 v4 n) ih h25)))
def X10_aim (v1 : Int32) (v2 : Int32) (v3 : Int32) (v4 : Int32) (h : AH) : Option (Int32 × AH) :=
    bd (X10_nobody v1 h) fun r1 h2 =>
    bd (X10_outside v2 1 3 h2) fun r3 h4 =>
    bd (X10_outside v3 0 999 h4) fun r5 h6 =>
    bd (X10_outsideTwo r3 r5 h6) fun r7 h8 =>
    bd (X10_first r1 r7 h8) fun r9 h10 =>
    bd (X10_noSuch v4 1 h10) fun r11 h12 =>
    bd (X10_first r9 r11 h12) fun r13 h14 =>
    if r13 = 0 then (X10_aim_l63 v1 v2 v3 v4 FU 0 10001 0 h14)
    else (bd (X10_refuse r13 h14) fun r27 h28 =>
    some (r27, h28))
set_option maxRecDepth 100000 in
theorem c_X10_aim (l : Launch) (v1 : Int32) (v2 : Int32) (v3 : Int32) (v4 : Int32) : MC l yX10_aim cX10_aim 10 (some .int) rmX10_aim ZC [.ref 0, .int v1, .int v2, .int v3, .int v4] rvI (X10_aim v1 v2 v3 v4) :=
  MC.of (own := RX10) pn_RX10 rfl (Nat.le_of_ble_eq_true rfl) fun X yd A h _ C =>
    aw_aload_n (pc := 0) C (i := 0) dK_a_223.1 rfl rfl <|
    aw_iload_n (pc := 1) C (i := 1) dK_a_223.2.1 rfl rfl <|
    aw_callF (pc := 2) C (cr_V (rest := []) (F := (X10_nobody v1)) C (c_X10_nobody X.2.1 v1) dK_a_223.2.2.1 mf_X10_nobody ml_X10_93 im_X10_nobody se_X10_nobody sC_0 rfl ⟨(Nat.le_of_ble_eq_true rfl), (Nat.le_of_ble_eq_true rfl)⟩ rfl rfl (Nat.le_of_ble_eq_true rfl)) rfl rfl rfl (Nat.zero_le _) (Nat.zero_le _) fun r1 h2 =>
    aw_iload_n (pc := 5) C (i := 2) dK_a_223.2.2.2.1 rfl rfl <|
    aw_iconst (pc := 6) C (v := 1) dK_a_223.2.2.2.2.1 rfl <|
    aw_iconst (pc := 7) C (v := 3) dK_a_223.2.2.2.2.2.1 rfl <|
    aw_callF (pc := 8) C (cr_S (rest := [.int r1]) (F := (X10_outside v2 1 3)) C (c_X10_outside X.2.1 v2 1 3) dK_a_223.2.2.2.2.2.2.1 mf_X10_outside ml_X10_104 st_X10_outside ⟨(Nat.le_of_ble_eq_true rfl), (Nat.le_of_ble_eq_true rfl)⟩ rfl rfl (Nat.le_of_ble_eq_true rfl)) rfl rfl rfl (Nat.zero_le _) (Nat.zero_le _) fun r3 h4 =>
    aw_iload_n (pc := 11) C (i := 3) dK_a_223.2.2.2.2.2.2.2.1 rfl rfl <|
    aw_iconst (pc := 12) C (v := 0) dK_a_224.1 rfl <|
    aw_sipush (pc := 13) C (v := 999) dK_a_224.2.1 rfl <|
    aw_callF (pc := 16) C (cr_S (rest := [.int r3, .int r1]) (F := (X10_outside v3 0 999)) C (c_X10_outside X.2.1 v3 0 999) dK_a_224.2.2.1 mf_X10_outside ml_X10_104 st_X10_outside ⟨(Nat.le_of_ble_eq_true rfl), (Nat.le_of_ble_eq_true rfl)⟩ rfl rfl (Nat.le_of_ble_eq_true rfl)) rfl rfl rfl (Nat.zero_le _) (Nat.zero_le _) fun r5 h6 =>
    aw_callF (pc := 19) C (cr_S (rest := [.int r1]) (F := (X10_outsideTwo r3 r5)) C (c_X10_outsideTwo X.2.1 r3 r5) dK_a_224.2.2.2.1 mf_X10_outsideTwo ml_X10_235 st_X10_outsideTwo ⟨(Nat.le_of_ble_eq_true rfl), (Nat.le_of_ble_eq_true rfl)⟩ rfl rfl (Nat.le_of_ble_eq_true rfl)) rfl rfl rfl (Nat.zero_le _) (Nat.zero_le _) fun r7 h8 =>
    aw_callF (pc := 22) C (cr_S (rest := []) (F := (X10_first r1 r7)) C (c_X10_first X.2.1 r1 r7) dK_a_224.2.2.2.2.1 mf_X10_first ml_X10_97 st_X10_first ⟨(Nat.le_of_ble_eq_true rfl), (Nat.le_of_ble_eq_true rfl)⟩ rfl rfl (Nat.le_of_ble_eq_true rfl)) rfl rfl rfl (Nat.zero_le _) (Nat.zero_le _) fun r9 h10 =>
    aw_istore (pc := 25) C (i := 5) (lv' := [(0, .ref 0), (1, .int v1), (2, .int v2), (3, .int v3), (4, .int v4), (5, .int r9)]) dK_a_224.2.2.2.2.2.1 (by decide) rfl <|
    aw_iload (pc := 27) C (i := 5) dK_a_224.2.2.2.2.2.2.1 rfl <|
    aw_iload (pc := 29) C (i := 4) dK_a_224.2.2.2.2.2.2.2.1 rfl <|
    aw_iconst (pc := 31) C (v := 1) dK_a_225.1 rfl <|
    aw_callF (pc := 32) C (cr_S (rest := [.int r9]) (F := (X10_noSuch v4 1)) C (c_X10_noSuch X.2.1 v4 1) dK_a_225.2.1 mf_X10_noSuch ml_X10_101 st_X10_noSuch ⟨(Nat.le_of_ble_eq_true rfl), (Nat.le_of_ble_eq_true rfl)⟩ rfl rfl (Nat.le_of_ble_eq_true rfl)) rfl rfl rfl (Nat.zero_le _) (Nat.zero_le _) fun r11 h12 =>
    aw_callF (pc := 35) C (cr_S (rest := []) (F := (X10_first r9 r11)) C (c_X10_first X.2.1 r9 r11) dK_a_225.2.2.1 mf_X10_first ml_X10_97 st_X10_first ⟨(Nat.le_of_ble_eq_true rfl), (Nat.le_of_ble_eq_true rfl)⟩ rfl rfl (Nat.le_of_ble_eq_true rfl)) rfl rfl rfl (Nat.zero_le _) (Nat.zero_le _) fun r13 h14 =>
    aw_istore (pc := 38) C (i := 5) (lv' := [(0, .ref 0), (1, .int v1), (2, .int v2), (3, .int v3), (4, .int v4), (5, .int r13)]) dK_a_225.2.2.2.1 (by decide) rfl <|
    aw_iload (pc := 40) C (i := 5) dK_a_225.2.2.2.2.1 rfl <|
    aw_if_eq (pc := 42) C (tgt := 52) dK_a_225.2.2.2.2.2.1 rfl (fun _ =>
    aw_iconst (pc := 52) C (v := 0) dK_a_226.2.2.1 rfl <|
    aw_istore (pc := 53) C (i := 6) (lv' := [(0, .ref 0), (1, .int v1), (2, .int v2), (3, .int v3), (4, .int v4), (5, .int r13), (6, .int 0)]) dK_a_226.2.2.2.1 (by decide) rfl <|
    aw_sipush (pc := 55) C (v := 10001) dK_a_226.2.2.2.2.1 rfl <|
    aw_istore (pc := 58) C (i := 7) (lv' := [(0, .ref 0), (1, .int v1), (2, .int v2), (3, .int v3), (4, .int v4), (5, .int r13), (6, .int 0), (7, .int 10001)]) dK_a_226.2.2.2.2.2.1 (by decide) rfl <|
    aw_iconst (pc := 60) C (v := 0) dK_a_226.2.2.2.2.2.2.1 rfl <|
    aw_istore (pc := 61) C (i := 8) (lv' := [(0, .ref 0), (1, .int v1), (2, .int v2), (3, .int v3), (4, .int v4), (5, .int r13), (6, .int 0), (7, .int 10001), (8, .int 0)]) dK_a_226.2.2.2.2.2.2.2.1 (by decide) rfl <|
    aw_drop [0, 1, 2, 3, 4, 6, 7, 8] (aX10_aim_l63 C v1 v2 v3 v4 FU 0 10001 0 h14)) (fun _ =>
    aw_aload_n (pc := 45) C (i := 0) dK_a_225.2.2.2.2.2.2.1 rfl rfl <|
    aw_iload (pc := 46) C (i := 5) dK_a_225.2.2.2.2.2.2.2.1 rfl <|
    aw_callF (pc := 48) C (cr_V (rest := []) (F := (X10_refuse r13)) C (c_X10_refuse X.2.1 r13) dK_a_226.1 mf_X10_refuse ml_X10_111 im_X10_refuse se_X10_refuse sC_0 rfl ⟨(Nat.le_of_ble_eq_true rfl), (Nat.le_of_ble_eq_true rfl)⟩ rfl rfl (Nat.le_of_ble_eq_true rfl)) rfl rfl rfl (Nat.zero_le _) (Nat.zero_le _) fun r27 h28 =>
    aw_iret (pc := 51) C dK_a_226.2.1 rfl rfl)

abbrev rmX10_tooLong : Room := { frames := 1, cells := 0, slots := 0, locals := 21 }
def X10_tooLong_l18  : Nat → Int32 → Int32 → AH → Option (Int32 × AH)
  | 0, _, _, _ => none
  | n + 1, v1, v2, h =>
    if (h.1 0 8) ≤ v2 then (if v1 ≤ 0 then (if 0 ≤ v1 then (some (0, h))
    else (some (2, h)))
    else (some (1, h)))
    else (ck v2 12 (vl (v1 + ((h.1 3 v2.toNatClampNeg) - 50)) fun x1 =>
    vl (v2 + 1) fun x2 =>
    (X10_tooLong_l18 n) x1 x2 h))
set_option maxRecDepth 100000 in
theorem aX10_tooLong_l18 {X : MCx} {yd : Dyn} {A : Nat → Prop} (C : OK X cX10_tooLong RX10 3 (some .int) rmX10_tooLong A)  : ∀ (n : Nat) (v1 : Int32) (v2 : Int32) (h : AH), AW X 3 ZC yd A 0 0 (QF X rmX10_tooLong ZC yd rvI A) 18 [(0, .ref 0), (1, .int v1), (2, .int v2)] [] h (X10_tooLong_l18 n v1 v2 h) := by
  intro n
  induction n with
  | zero => intro v1 v2 h; exact aw_none
  | succ n ih =>
    intro v1 v2 h
    exact aw_iload_n (pc := 18) C (i := 2) dK_a_236.2.2.2.1 rfl rfl <|
    aw_aload_n (pc := 19) C (i := 0) dK_a_236.2.2.2.2.1 rfl rfl <|
    aw_getI (pc := 20) C dK_a_236.2.2.2.2.2.1 fl_X10_327 sC_0 rfl <|
    aw_icmp_ge (pc := 23) C (tgt := 44) dK_a_236.2.2.2.2.2.2.1 rfl (fun _ =>
    aw_iload_n (pc := 44) C (i := 1) dK_a_238.2.2.1 rfl rfl <|
    aw_if_le (pc := 45) C (tgt := 52) dK_a_238.2.2.2.1 rfl (fun _ =>
    aw_iload_n (pc := 52) C (i := 1) dK_a_238.2.2.2.2.2.2.1 rfl rfl <|
    aw_if_ge (pc := 53) C (tgt := 60) dK_a_238.2.2.2.2.2.2.2.1 rfl (fun _ =>
    aw_iconst (pc := 60) C (v := 0) dK_a_239.2.2.1 rfl <|
    aw_iret (pc := 61) C dK_a_239.2.2.2.1 rfl rfl) (fun _ =>
    aw_iconst (pc := 56) C (v := 2) dK_a_239.1 rfl <|
    aw_goto (pc := 57) C (tgt := 61) dK_a_239.2.1 rfl <|
    aw_iret (pc := 61) C dK_a_239.2.2.2.1 rfl rfl)) (fun _ =>
    aw_iconst (pc := 48) C (v := 1) dK_a_238.2.2.2.2.1 rfl <|
    aw_goto (pc := 49) C (tgt := 61) dK_a_238.2.2.2.2.2.1 rfl <|
    aw_iret (pc := 61) C dK_a_239.2.2.2.1 rfl rfl)) (fun _ =>
    aw_iload_n (pc := 26) C (i := 1) dK_a_236.2.2.2.2.2.2.2.1 rfl rfl <|
    aw_aload_n (pc := 27) C (i := 0) dK_a_237.1 rfl rfl <|
    aw_getR (pc := 28) C (b := 3) dK_a_237.2.1 fl_X10_19 sC_0 rfl rC_0_7 <|
    aw_iload_n (pc := 31) C (i := 2) dK_a_237.2.2.1 rfl rfl <|
    aw_iald (pc := 32) C dK_a_237.2.2.2.1 sC_3 rfl <|
    aw_bipush (pc := 33) C (v := 50) dK_a_237.2.2.2.2.1 rfl <|
    aw_isub (pc := 35) C dK_a_237.2.2.2.2.2.1 <|
    aw_iadd (pc := 36) C dK_a_237.2.2.2.2.2.2.1 <|
    aw_istoreV_n (pc := 37) C (i := 1) (fun x1 => [(0, .ref 0), (1, .int x1), (2, .int v2)]) dK_a_237.2.2.2.2.2.2.2.1 rfl (by decide) (fun _ => rfl) fun x1 =>
    aw_iincV (pc := 38) C (i := 2) (cst := 1) (fun x2 => [(0, .ref 0), (1, .int x1), (2, .int x2)]) dK_a_238.1 rfl rfl (by decide) (fun _ => rfl) fun x2 =>
    aw_goto (pc := 41) C (tgt := 18) dK_a_238.2.1 rfl <|
    (ih x1 x2 h))
def X10_tooLong  (h : AH) : Option (Int32 × AH) :=
    if (h.1 0 8) = 0 then (bd (X10_refuse (-3) h) fun r3 h4 =>
    some (r3, h4))
    else (X10_tooLong_l18 FU 0 0 h)
set_option maxRecDepth 100000 in
theorem c_X10_tooLong (l : Launch)  : MC l yX10_tooLong cX10_tooLong 3 (some .int) rmX10_tooLong ZC [.ref 0] rvI (X10_tooLong) :=
  MC.of (own := RX10) pn_RX10 rfl (Nat.le_of_ble_eq_true rfl) fun X yd A h _ C =>
    aw_aload_n (pc := 0) C (i := 0) dK_a_235.1 rfl rfl <|
    aw_getI (pc := 1) C dK_a_235.2.1 fl_X10_327 sC_0 rfl <|
    aw_if_ne (pc := 4) C (tgt := 14) dK_a_235.2.2.1 rfl (fun _ =>
    aw_aload_n (pc := 7) C (i := 0) dK_a_235.2.2.2.1 rfl rfl <|
    aw_bipush (pc := 8) C (v := (-3)) dK_a_235.2.2.2.2.1 rfl <|
    aw_callF (pc := 10) C (cr_V (rest := []) (F := (X10_refuse (-3))) C (c_X10_refuse X.2.1 (-3)) dK_a_235.2.2.2.2.2.1 mf_X10_refuse ml_X10_111 im_X10_refuse se_X10_refuse sC_0 rfl ⟨(Nat.le_of_ble_eq_true rfl), (Nat.le_of_ble_eq_true rfl)⟩ rfl rfl (Nat.le_of_ble_eq_true rfl)) rfl rfl rfl (Nat.zero_le _) (Nat.zero_le _) fun r3 h4 =>
    aw_iret (pc := 13) C dK_a_235.2.2.2.2.2.2.1 rfl rfl) (fun _ =>
    aw_iconst (pc := 14) C (v := 0) dK_a_235.2.2.2.2.2.2.2.1 rfl <|
    aw_istore_n (pc := 15) C (i := 1) (lv' := [(0, .ref 0), (1, .int 0)]) dK_a_236.1 rfl (by decide) rfl <|
    aw_iconst (pc := 16) C (v := 0) dK_a_236.2.1 rfl <|
    aw_istore_n (pc := 17) C (i := 2) (lv' := [(0, .ref 0), (1, .int 0), (2, .int 0)]) dK_a_236.2.2.1 rfl (by decide) rfl <|
    (aX10_tooLong_l18 C FU 0 0 h))

abbrev rmX10_greatestFrom : Room := { frames := 1, cells := 0, slots := 0, locals := 45 }
def X10_greatestFrom_l4  : Nat → Int32 → Int32 → AH → Option (Int32 × AH)
  | 0, _, _, _ => none
  | n + 1, v2, v3, h =>
    if (h.1 0 8) ≤ v3 then (some (v2, h))
    else (ck v3 12 (vl (mx32 v2 (h.1 3 v3.toNatClampNeg)) fun x1 =>
    vl (v3 + 1) fun x2 =>
    (X10_greatestFrom_l4 n) x1 x2 h))
set_option maxRecDepth 100000 in
theorem aX10_greatestFrom_l4 {X : MCx} {yd : Dyn} {A : Nat → Prop} (C : OK X cX10_greatestFrom RX10 4 (some .int) rmX10_greatestFrom A)  : ∀ (n : Nat) (v2 : Int32) (v3 : Int32) (h : AH), AW X 4 ZC yd A 0 0 (QF X rmX10_greatestFrom ZC yd rvI A) 4 [(0, .ref 0), (2, .int v2), (3, .int v3)] [] h (X10_greatestFrom_l4 n v2 v3 h) := by
  intro n
  induction n with
  | zero => intro v2 v3 h; exact aw_none
  | succ n ih =>
    intro v2 v3 h
    exact aw_iload_n (pc := 4) C (i := 3) dK_a_242.2.2.2.2.1 rfl rfl <|
    aw_aload_n (pc := 5) C (i := 0) dK_a_242.2.2.2.2.2.1 rfl rfl <|
    aw_getI (pc := 6) C dK_a_242.2.2.2.2.2.2.1 fl_X10_327 sC_0 rfl <|
    aw_icmp_ge (pc := 9) C (tgt := 29) dK_a_242.2.2.2.2.2.2.2.1 rfl (fun _ =>
    aw_iload_n (pc := 29) C (i := 2) dK_a_244.2.1 rfl rfl <|
    aw_iret (pc := 30) C dK_a_244.2.2.1 rfl rfl) (fun _ =>
    aw_iload_n (pc := 12) C (i := 2) dK_a_243.1 rfl rfl <|
    aw_aload_n (pc := 13) C (i := 0) dK_a_243.2.1 rfl rfl <|
    aw_getR (pc := 14) C (b := 3) dK_a_243.2.2.1 fl_X10_19 sC_0 rfl rC_0_7 <|
    aw_iload_n (pc := 17) C (i := 3) dK_a_243.2.2.2.1 rfl rfl <|
    aw_iald (pc := 18) C dK_a_243.2.2.2.2.1 sC_3 rfl <|
    aw_mmax (pc := 19) C dK_a_243.2.2.2.2.2.1 ml_X10_286 w_mmaxS w_mI w_mmaxC ⟨(Nat.le_of_ble_eq_true rfl), (Nat.le_of_ble_eq_true rfl)⟩ (Nat.zero_le _) (Nat.zero_le _) <|
    aw_istoreV_n (pc := 22) C (i := 2) (fun x1 => [(0, .ref 0), (2, .int x1), (3, .int v3)]) dK_a_243.2.2.2.2.2.2.1 rfl (by decide) (fun _ => rfl) fun x1 =>
    aw_iincV (pc := 23) C (i := 3) (cst := 1) (fun x2 => [(0, .ref 0), (2, .int x1), (3, .int x2)]) dK_a_243.2.2.2.2.2.2.2.1 rfl rfl (by decide) (fun _ => rfl) fun x2 =>
    aw_goto (pc := 26) C (tgt := 4) dK_a_244.1 rfl <|
    (ih x1 x2 h))
def X10_greatestFrom (v1 : Int32) (h : AH) : Option (Int32 × AH) :=
    X10_greatestFrom_l4 FU 0 v1 h
set_option maxRecDepth 100000 in
theorem c_X10_greatestFrom (l : Launch) (v1 : Int32) : MC l yX10_greatestFrom cX10_greatestFrom 4 (some .int) rmX10_greatestFrom ZC [.ref 0, .int v1] rvI (X10_greatestFrom v1) :=
  MC.of (own := RX10) pn_RX10 rfl (Nat.le_of_ble_eq_true rfl) fun X yd A h _ C =>
    aw_iconst (pc := 0) C (v := 0) dK_a_242.1 rfl <|
    aw_istore_n (pc := 1) C (i := 2) (lv' := [(0, .ref 0), (1, .int v1), (2, .int 0)]) dK_a_242.2.1 rfl (by decide) rfl <|
    aw_iload_n (pc := 2) C (i := 1) dK_a_242.2.2.1 rfl rfl <|
    aw_istore_n (pc := 3) C (i := 3) (lv' := [(0, .ref 0), (1, .int v1), (2, .int 0), (3, .int v1)]) dK_a_242.2.2.2.1 rfl (by decide) rfl <|
    aw_drop [0, 2, 3] (aX10_greatestFrom_l4 C FU 0 v1 h)

abbrev rmX10_leastAhead : Room := { frames := 1, cells := 0, slots := 0, locals := 45 }
def X10_leastAhead_l5  (v1 : Int32) : Nat → Int32 → Int32 → AH → Option (Int32 × AH)
  | 0, _, _, _ => none
  | n + 1, v2, v3, h =>
    if v1 ≤ v3 then (some (v2, h))
    else (if (h.1 0 8) ≤ v3 then (some (v2, h))
    else (ck v3 12 (vl (mn32 v2 (h.1 3 v3.toNatClampNeg)) fun x1 =>
    vl (v3 + 1) fun x2 =>
    (X10_leastAhead_l5 v1 n) x1 x2 h)))
set_option maxRecDepth 100000 in
theorem aX10_leastAhead_l5 {X : MCx} {yd : Dyn} {A : Nat → Prop} (C : OK X cX10_leastAhead RX10 4 (some .int) rmX10_leastAhead A)  (v1 : Int32) : ∀ (n : Nat) (v2 : Int32) (v3 : Int32) (h : AH), AW X 4 ZC yd A 0 0 (QF X rmX10_leastAhead ZC yd rvI A) 5 [(0, .ref 0), (1, .int v1), (2, .int v2), (3, .int v3)] [] h (X10_leastAhead_l5 v1 n v2 v3 h) := by
  intro n
  induction n with
  | zero => intro v2 v3 h; exact aw_none
  | succ n ih =>
    intro v2 v3 h
    exact aw_iload_n (pc := 5) C (i := 3) dK_a_245.2.2.2.2.1 rfl rfl <|
    aw_iload_n (pc := 6) C (i := 1) dK_a_245.2.2.2.2.2.1 rfl rfl <|
    aw_icmp_ge (pc := 7) C (tgt := 35) dK_a_245.2.2.2.2.2.2.1 rfl (fun _ =>
    aw_iload_n (pc := 35) C (i := 2) dK_a_247.2.2.2.2.1 rfl rfl <|
    aw_iret (pc := 36) C dK_a_247.2.2.2.2.2.1 rfl rfl) (fun _ =>
    aw_iload_n (pc := 10) C (i := 3) dK_a_245.2.2.2.2.2.2.2.1 rfl rfl <|
    aw_aload_n (pc := 11) C (i := 0) dK_a_246.1 rfl rfl <|
    aw_getI (pc := 12) C dK_a_246.2.1 fl_X10_327 sC_0 rfl <|
    aw_icmp_ge (pc := 15) C (tgt := 35) dK_a_246.2.2.1 rfl (fun _ =>
    aw_iload_n (pc := 35) C (i := 2) dK_a_247.2.2.2.2.1 rfl rfl <|
    aw_iret (pc := 36) C dK_a_247.2.2.2.2.2.1 rfl rfl) (fun _ =>
    aw_iload_n (pc := 18) C (i := 2) dK_a_246.2.2.2.1 rfl rfl <|
    aw_aload_n (pc := 19) C (i := 0) dK_a_246.2.2.2.2.1 rfl rfl <|
    aw_getR (pc := 20) C (b := 3) dK_a_246.2.2.2.2.2.1 fl_X10_19 sC_0 rfl rC_0_7 <|
    aw_iload_n (pc := 23) C (i := 3) dK_a_246.2.2.2.2.2.2.1 rfl rfl <|
    aw_iald (pc := 24) C dK_a_246.2.2.2.2.2.2.2.1 sC_3 rfl <|
    aw_mmin (pc := 25) C dK_a_247.1 ml_X10_291 w_mminS w_mI w_mminC ⟨(Nat.le_of_ble_eq_true rfl), (Nat.le_of_ble_eq_true rfl)⟩ (Nat.zero_le _) (Nat.zero_le _) <|
    aw_istoreV_n (pc := 28) C (i := 2) (fun x1 => [(0, .ref 0), (1, .int v1), (2, .int x1), (3, .int v3)]) dK_a_247.2.1 rfl (by decide) (fun _ => rfl) fun x1 =>
    aw_iincV (pc := 29) C (i := 3) (cst := 1) (fun x2 => [(0, .ref 0), (1, .int v1), (2, .int x1), (3, .int x2)]) dK_a_247.2.2.1 rfl rfl (by decide) (fun _ => rfl) fun x2 =>
    aw_goto (pc := 32) C (tgt := 5) dK_a_247.2.2.2.1 rfl <|
    (ih x1 x2 h)))
def X10_leastAhead (v1 : Int32) (h : AH) : Option (Int32 × AH) :=
    X10_leastAhead_l5 v1 FU 99 0 h
set_option maxRecDepth 100000 in
theorem c_X10_leastAhead (l : Launch) (v1 : Int32) : MC l yX10_leastAhead cX10_leastAhead 4 (some .int) rmX10_leastAhead ZC [.ref 0, .int v1] rvI (X10_leastAhead v1) :=
  MC.of (own := RX10) pn_RX10 rfl (Nat.le_of_ble_eq_true rfl) fun X yd A h _ C =>
    aw_bipush (pc := 0) C (v := 99) dK_a_245.1 rfl <|
    aw_istore_n (pc := 2) C (i := 2) (lv' := [(0, .ref 0), (1, .int v1), (2, .int 99)]) dK_a_245.2.1 rfl (by decide) rfl <|
    aw_iconst (pc := 3) C (v := 0) dK_a_245.2.2.1 rfl <|
    aw_istore_n (pc := 4) C (i := 3) (lv' := [(0, .ref 0), (1, .int v1), (2, .int 99), (3, .int 0)]) dK_a_245.2.2.2.1 rfl (by decide) rfl <|
    (aX10_leastAhead_l5 C v1 FU 99 0 h)

abbrev rmX10_unlike : Room := { frames := 2, cells := 0, slots := 0, locals := 68 }
def X10_unlike  (h : AH) : Option (Int32 × AH) :=
    if (h.1 0 8) = 0 then (bd (X10_refuse (-3) h) fun r5 h6 =>
    some (r5, h6))
    else (bd (X10_greatestFrom 0 h) fun r1 h2 =>
    bd (X10_leastAhead (h2.1 0 8) h2) fun r3 h4 =>
    some ((r1 - r3), h4))
set_option maxRecDepth 100000 in
theorem c_X10_unlike (l : Launch)  : MC l yX10_unlike cX10_unlike 1 (some .int) rmX10_unlike ZC [.ref 0] rvI (X10_unlike) :=
  MC.of (own := RX10) pn_RX10 rfl (Nat.le_of_ble_eq_true rfl) fun X yd A h _ C =>
    aw_aload_n (pc := 0) C (i := 0) dK_a_240.1 rfl rfl <|
    aw_getI (pc := 1) C dK_a_240.2.1 fl_X10_327 sC_0 rfl <|
    aw_if_ne (pc := 4) C (tgt := 16) dK_a_240.2.2.1 rfl (fun _ =>
    aw_aload_n (pc := 7) C (i := 0) dK_a_240.2.2.2.1 rfl rfl <|
    aw_bipush (pc := 8) C (v := (-3)) dK_a_240.2.2.2.2.1 rfl <|
    aw_callF (pc := 10) C (cr_V (rest := []) (F := (X10_refuse (-3))) C (c_X10_refuse X.2.1 (-3)) dK_a_240.2.2.2.2.2.1 mf_X10_refuse ml_X10_111 im_X10_refuse se_X10_refuse sC_0 rfl ⟨(Nat.le_of_ble_eq_true rfl), (Nat.le_of_ble_eq_true rfl)⟩ rfl rfl (Nat.le_of_ble_eq_true rfl)) rfl rfl rfl (Nat.zero_le _) (Nat.zero_le _) fun r5 h6 =>
    aw_goto (pc := 13) C (tgt := 30) dK_a_240.2.2.2.2.2.2.1 rfl <|
    aw_iret (pc := 30) C dK_a_241.2.2.2.2.2.2.2.1 rfl rfl) (fun _ =>
    aw_aload_n (pc := 16) C (i := 0) dK_a_240.2.2.2.2.2.2.2.1 rfl rfl <|
    aw_iconst (pc := 17) C (v := 0) dK_a_241.1 rfl <|
    aw_callF (pc := 18) C (cr_V (rest := []) (F := (X10_greatestFrom 0)) C (c_X10_greatestFrom X.2.1 0) dK_a_241.2.1 mf_X10_greatestFrom ml_X10_330 im_X10_greatestFrom se_X10_greatestFrom sC_0 rfl ⟨(Nat.le_of_ble_eq_true rfl), (Nat.le_of_ble_eq_true rfl)⟩ rfl rfl (Nat.le_of_ble_eq_true rfl)) rfl rfl rfl (Nat.zero_le _) (Nat.zero_le _) fun r1 h2 =>
    aw_aload_n (pc := 21) C (i := 0) dK_a_241.2.2.1 rfl rfl <|
    aw_aload_n (pc := 22) C (i := 0) dK_a_241.2.2.2.1 rfl rfl <|
    aw_getI (pc := 23) C dK_a_241.2.2.2.2.1 fl_X10_327 sC_0 rfl <|
    aw_callF (pc := 26) C (cr_V (rest := [.int r1]) (F := (X10_leastAhead (h2.1 0 8))) C (c_X10_leastAhead X.2.1 (h2.1 0 8)) dK_a_241.2.2.2.2.2.1 mf_X10_leastAhead ml_X10_333 im_X10_leastAhead se_X10_leastAhead sC_0 rfl ⟨(Nat.le_of_ble_eq_true rfl), (Nat.le_of_ble_eq_true rfl)⟩ rfl rfl (Nat.le_of_ble_eq_true rfl)) rfl rfl rfl (Nat.zero_le _) (Nat.zero_le _) fun r3 h4 =>
    aw_isub (pc := 29) C dK_a_241.2.2.2.2.2.2.1 <|
    aw_iret (pc := 30) C dK_a_241.2.2.2.2.2.2.2.1 rfl rfl)

abbrev rmX10_moved : Room := { frames := 2, cells := 0, slots := 0, locals := 68 }
def X10_moved_l20  (v1 : Int32) : Nat → Int32 → AH → Option (Int32 × AH)
  | 0, _, _ => none
  | n + 1, v3, h =>
    if (h.1 0 8) ≤ v3 then (some ((-9), h))
    else (bd (X10_greatestFrom v3 h) fun r3 h4 =>
    bd (X10_leastAhead v3 h4) fun r5 h6 =>
    if (r5 - v1) < r3 then (vl (v3 + 1) fun x7 =>
    (X10_moved_l20 v1 n) x7 h6)
    else (some (v3, h6)))
set_option maxRecDepth 100000 in
theorem aX10_moved_l20 {X : MCx} {yd : Dyn} {A : Nat → Prop} (C : OK X cX10_moved RX10 4 (some .int) rmX10_moved A)  (v1 : Int32) : ∀ (n : Nat) (v3 : Int32) (h : AH), AW X 4 ZC yd A 0 0 (QF X rmX10_moved ZC yd rvI A) 20 [(0, .ref 0), (1, .int v1), (3, .int v3)] [] h (X10_moved_l20 v1 n v3 h) := by
  intro n
  induction n with
  | zero => intro v3 h; exact aw_none
  | succ n ih =>
    intro v3 h
    exact aw_iload_n (pc := 20) C (i := 3) dK_a_249.2.2.2.2.2.1 rfl rfl <|
    aw_aload_n (pc := 21) C (i := 0) dK_a_249.2.2.2.2.2.2.1 rfl rfl <|
    aw_getI (pc := 22) C dK_a_249.2.2.2.2.2.2.2.1 fl_X10_327 sC_0 rfl <|
    aw_icmp_ge (pc := 25) C (tgt := 51) dK_a_250.1 rfl (fun _ =>
    aw_bipush (pc := 51) C (v := (-9)) dK_a_251.2.2.2.2.2.2.1 rfl <|
    aw_iret (pc := 53) C dK_a_251.2.2.2.2.2.2.2.1 rfl rfl) (fun _ =>
    aw_aload_n (pc := 28) C (i := 0) dK_a_250.2.1 rfl rfl <|
    aw_iload_n (pc := 29) C (i := 3) dK_a_250.2.2.1 rfl rfl <|
    aw_callF (pc := 30) C (cr_V (rest := []) (F := (X10_greatestFrom v3)) C (c_X10_greatestFrom X.2.1 v3) dK_a_250.2.2.2.1 mf_X10_greatestFrom ml_X10_330 im_X10_greatestFrom se_X10_greatestFrom sC_0 rfl ⟨(Nat.le_of_ble_eq_true rfl), (Nat.le_of_ble_eq_true rfl)⟩ rfl rfl (Nat.le_of_ble_eq_true rfl)) rfl rfl rfl (Nat.zero_le _) (Nat.zero_le _) fun r3 h4 =>
    aw_aload_n (pc := 33) C (i := 0) dK_a_250.2.2.2.2.1 rfl rfl <|
    aw_iload_n (pc := 34) C (i := 3) dK_a_250.2.2.2.2.2.1 rfl rfl <|
    aw_callF (pc := 35) C (cr_V (rest := [.int r3]) (F := (X10_leastAhead v3)) C (c_X10_leastAhead X.2.1 v3) dK_a_250.2.2.2.2.2.2.1 mf_X10_leastAhead ml_X10_333 im_X10_leastAhead se_X10_leastAhead sC_0 rfl ⟨(Nat.le_of_ble_eq_true rfl), (Nat.le_of_ble_eq_true rfl)⟩ rfl rfl (Nat.le_of_ble_eq_true rfl)) rfl rfl rfl (Nat.zero_le _) (Nat.zero_le _) fun r5 h6 =>
    aw_iload_n (pc := 38) C (i := 1) dK_a_250.2.2.2.2.2.2.2.1 rfl rfl <|
    aw_isub (pc := 39) C dK_a_251.1 <|
    aw_icmp_gt (pc := 40) C (tgt := 45) dK_a_251.2.1 rfl (fun _ =>
    aw_iincV (pc := 45) C (i := 3) (cst := 1) (fun x7 => [(0, .ref 0), (1, .int v1), (3, .int x7)]) dK_a_251.2.2.2.2.1 rfl rfl (by decide) (fun _ => rfl) fun x7 =>
    aw_goto (pc := 48) C (tgt := 20) dK_a_251.2.2.2.2.2.1 rfl <|
    (ih x7 h6)) (fun _ =>
    aw_iload_n (pc := 43) C (i := 3) dK_a_251.2.2.1 rfl rfl <|
    aw_iret (pc := 44) C dK_a_251.2.2.2.1 rfl rfl))
def X10_moved (v1 : Int32) (h : AH) : Option (Int32 × AH) :=
    bd (X10_outside v1 1 99 h) fun r1 h2 =>
    if r1 = 0 then (X10_moved_l20 v1 FU 1 h2)
    else (bd (X10_refuse r1 h2) fun r8 h9 =>
    some (r8, h9))
set_option maxRecDepth 100000 in
theorem c_X10_moved (l : Launch) (v1 : Int32) : MC l yX10_moved cX10_moved 4 (some .int) rmX10_moved ZC [.ref 0, .int v1] rvI (X10_moved v1) :=
  MC.of (own := RX10) pn_RX10 rfl (Nat.le_of_ble_eq_true rfl) fun X yd A h _ C =>
    aw_iload_n (pc := 0) C (i := 1) dK_a_248.1 rfl rfl <|
    aw_iconst (pc := 1) C (v := 1) dK_a_248.2.1 rfl <|
    aw_bipush (pc := 2) C (v := 99) dK_a_248.2.2.1 rfl <|
    aw_callF (pc := 4) C (cr_S (rest := []) (F := (X10_outside v1 1 99)) C (c_X10_outside X.2.1 v1 1 99) dK_a_248.2.2.2.1 mf_X10_outside ml_X10_104 st_X10_outside ⟨(Nat.le_of_ble_eq_true rfl), (Nat.le_of_ble_eq_true rfl)⟩ rfl rfl (Nat.le_of_ble_eq_true rfl)) rfl rfl rfl (Nat.zero_le _) (Nat.zero_le _) fun r1 h2 =>
    aw_istore_n (pc := 7) C (i := 2) (lv' := [(0, .ref 0), (1, .int v1), (2, .int r1)]) dK_a_248.2.2.2.2.1 rfl (by decide) rfl <|
    aw_iload_n (pc := 8) C (i := 2) dK_a_248.2.2.2.2.2.1 rfl rfl <|
    aw_if_eq (pc := 9) C (tgt := 18) dK_a_248.2.2.2.2.2.2.1 rfl (fun _ =>
    aw_iconst (pc := 18) C (v := 1) dK_a_249.2.2.2.1 rfl <|
    aw_istore_n (pc := 19) C (i := 3) (lv' := [(0, .ref 0), (1, .int v1), (2, .int r1), (3, .int 1)]) dK_a_249.2.2.2.2.1 rfl (by decide) rfl <|
    aw_drop [0, 1, 3] (aX10_moved_l20 C v1 FU 1 h2)) (fun _ =>
    aw_aload_n (pc := 12) C (i := 0) dK_a_248.2.2.2.2.2.2.2.1 rfl rfl <|
    aw_iload_n (pc := 13) C (i := 2) dK_a_249.1 rfl rfl <|
    aw_callF (pc := 14) C (cr_V (rest := []) (F := (X10_refuse r1)) C (c_X10_refuse X.2.1 r1) dK_a_249.2.1 mf_X10_refuse ml_X10_111 im_X10_refuse se_X10_refuse sC_0 rfl ⟨(Nat.le_of_ble_eq_true rfl), (Nat.le_of_ble_eq_true rfl)⟩ rfl rfl (Nat.le_of_ble_eq_true rfl)) rfl rfl rfl (Nat.zero_le _) (Nat.zero_le _) fun r8 h9 =>
    aw_iret (pc := 17) C dK_a_249.2.2.1 rfl rfl)

abbrev rmX10_gusts : Room := { frames := 5, cells := 0, slots := 0, locals := 136 }
def X10_gusts_j138  (v3 : Nat) (v4 : Int32) (v5 : Int64) (v7 : Int32) (K56 : Int32 → Int64 → Int32 → AH → Option (Int32 × AH)) (h : AH) : Option (Int32 × AH) :=
    vl (v7 + 1) fun x19 =>
    K56 v4 v5 x19 h
set_option maxRecDepth 100000 in
theorem aX10_gusts_j138 {X : MCx} {yd : Dyn} {A : Nat → Prop} (C : OK X cX10_gusts RX10 11 (some .int) rmX10_gusts A)  (v3 : Nat) (hs3 : ZC.1[v3]? = some (.inr 2)) (v4 : Int32) (v5 : Int64) (v7 : Int32) (K56 : Int32 → Int64 → Int32 → AH → Option (Int32 × AH)) (hK56 : ∀ (w4 : Int32) (w5 : Int64) (w7 : Int32) (h : AH), AW X 11 ZC yd A 0 0 (QF X rmX10_gusts ZC yd rvI A) 56 [(0, .ref 0), (3, .ref v3), (4, .int w4), (5, .long w5), (7, .int w7)] [] h (K56 w4 w5 w7 h)) (h : AH) : AW X 11 ZC yd A 0 0 (QF X rmX10_gusts ZC yd rvI A) 138 [(0, .ref 0), (3, .ref v3), (4, .int v4), (5, .long v5), (7, .int v7)] [] h (X10_gusts_j138 v3 v4 v5 v7 K56 h) := by
    exact aw_iincV (pc := 138) C (i := 7) (cst := 1) (fun x19 => [(0, .ref 0), (3, .ref v3), (4, .int v4), (5, .long v5), (7, .int x19)]) dK_a_260.2.2.2.2.2.2.2.1 rfl rfl (by decide) (fun _ => rfl) fun x19 =>
    aw_goto (pc := 141) C (tgt := 56) dK_a_261.1 rfl <|
    (hK56 v4 v5 x19 h)
def X10_gusts_l56  (v3 : Nat) : Nat → Int32 → Int64 → Int32 → AH → Option (Int32 × AH)
  | 0, _, _, _, _ => none
  | n + 1, v4, v5, v7, h =>
    if (h.1 0 8) ≤ v7 then (some (v4, h))
    else (ck v7 12 (vl ((h.1 3 v7.toNatClampNeg) - 9) fun x12 =>
    bd (X2_path v3 (h.1 42 0) x12 h) fun r13 h14 =>
    bd (X1_spread v3 (h.1 42 0) x12 ((h.1 v3 8) - r13) 0 h14) fun _ h16 =>
    bd (X1_meanWays h16) fun r17 h18 =>
    if (lcmpV r17 v5) ≤ 0 then (X10_gusts_j138 v3 v4 v5 v7 (X10_gusts_l56 v3 n) h18)
    else (X10_gusts_j138 v3 v7 r17 v7 (X10_gusts_l56 v3 n) h18)))
set_option maxRecDepth 100000 in
theorem aX10_gusts_l56 {X : MCx} {yd : Dyn} {A : Nat → Prop} (C : OK X cX10_gusts RX10 11 (some .int) rmX10_gusts A)  (v3 : Nat) (hs3 : ZC.1[v3]? = some (.inr 2)) : ∀ (n : Nat) (v4 : Int32) (v5 : Int64) (v7 : Int32) (h : AH), AW X 11 ZC yd A 0 0 (QF X rmX10_gusts ZC yd rvI A) 56 [(0, .ref 0), (3, .ref v3), (4, .int v4), (5, .long v5), (7, .int v7)] [] h (X10_gusts_l56 v3 n v4 v5 v7 h) := by
  intro n
  induction n with
  | zero => intro v4 v5 v7 h; exact aw_none
  | succ n ih =>
    intro v4 v5 v7 h
    exact aw_iload (pc := 56) C (i := 7) dK_a_255.2.2.2.2.2.2.1 rfl <|
    aw_aload_n (pc := 58) C (i := 0) dK_a_255.2.2.2.2.2.2.2.1 rfl rfl <|
    aw_getI (pc := 59) C dK_a_256.1 fl_X10_327 sC_0 rfl <|
    aw_icmp_ge (pc := 62) C (tgt := 144) dK_a_256.2.1 rfl (fun _ =>
    aw_iload (pc := 144) C (i := 4) dK_a_261.2.1 rfl <|
    aw_iret (pc := 146) C dK_a_261.2.2.1 rfl rfl) (fun _ =>
    aw_aload_n (pc := 65) C (i := 0) dK_a_256.2.2.1 rfl rfl <|
    aw_getR (pc := 66) C (b := 3) dK_a_256.2.2.2.1 fl_X10_19 sC_0 rfl rC_0_7 <|
    aw_iload (pc := 69) C (i := 7) dK_a_256.2.2.2.2.1 rfl <|
    aw_iald (pc := 71) C dK_a_256.2.2.2.2.2.1 sC_3 rfl <|
    aw_bipush (pc := 72) C (v := 9) dK_a_256.2.2.2.2.2.2.1 rfl <|
    aw_isub (pc := 74) C dK_a_256.2.2.2.2.2.2.2.1 <|
    aw_istoreV (pc := 75) C (i := 8) (fun x12 => [(0, .ref 0), (3, .ref v3), (4, .int v4), (5, .long v5), (7, .int v7), (8, .int x12)]) dK_a_257.1 (by decide) (fun _ => rfl) fun x12 =>
    aw_aload_n (pc := 77) C (i := 0) dK_a_257.2.1 rfl rfl <|
    aw_getR (pc := 78) C (b := 8) dK_a_257.2.2.1 fl_X10_35 sC_0 rfl rC_0_11 <|
    aw_aload_n (pc := 81) C (i := 3) dK_a_257.2.2.2.1 rfl rfl <|
    aw_aload_n (pc := 82) C (i := 0) dK_a_257.2.2.2.2.1 rfl rfl <|
    aw_getR (pc := 83) C (b := 42) dK_a_257.2.2.2.2.2.1 fl_X10_72 sC_0 rfl rC_0_1 <|
    aw_getI (pc := 86) C dK_a_257.2.2.2.2.2.2.1 fl_X10_163 (mt_s (Or.inl rfl)) rfl <|
    aw_iload (pc := 89) C (i := 8) dK_a_257.2.2.2.2.2.2.2.1 rfl <|
    aw_aload_n (pc := 91) C (i := 3) dK_a_258.1 rfl rfl <|
    aw_getI (pc := 92) C dK_a_258.2.1 fl_X10_198 hs3 rfl <|
    aw_aload_n (pc := 95) C (i := 3) dK_a_258.2.2.1 rfl rfl <|
    aw_aload_n (pc := 96) C (i := 0) dK_a_258.2.2.2.1 rfl rfl <|
    aw_getR (pc := 97) C (b := 42) dK_a_258.2.2.2.2.1 fl_X10_72 sC_0 rfl rC_0_1 <|
    aw_getI (pc := 100) C dK_a_258.2.2.2.2.2.1 fl_X10_163 (mt_s (Or.inl rfl)) rfl <|
    aw_iload (pc := 103) C (i := 8) dK_a_258.2.2.2.2.2.2.1 rfl <|
    aw_callF (pc := 105) C (cr_V (rest := [.int (h.1 v3 8), .int x12, .int (h.1 42 0), .ref v3, .ref 8]) (F := (X2_path v3 (h.1 42 0) x12)) C (c_X2_path X.2.1 v3 hs3 (h.1 42 0) x12) dK_a_258.2.2.2.2.2.2.2.1 mf_X2_path ml_X10_232 im_X2_path se_X2_path hs3 rfl ⟨(Nat.le_of_ble_eq_true rfl), (Nat.le_of_ble_eq_true rfl)⟩ rfl rfl (Nat.le_of_ble_eq_true rfl)) rfl rfl rfl (Nat.zero_le _) (Nat.zero_le _) fun r13 h14 =>
    aw_isub (pc := 108) C dK_a_259.1 <|
    aw_iconst (pc := 109) C (v := 0) dK_a_259.2.1 rfl <|
    aw_callF (pc := 110) C (cr_V (rest := []) (F := (X1_spread v3 (h.1 42 0) x12 ((h.1 v3 8) - r13) 0)) C (c_X1_spread X.2.1 v3 hs3 (h.1 42 0) x12 ((h.1 v3 8) - r13) 0) dK_a_259.2.2.1 mf_X1_spread ml_X10_242 im_X1_spread se_X1_spread sC_8 rfl ⟨(Nat.le_of_ble_eq_true rfl), (Nat.le_of_ble_eq_true rfl)⟩ rfl rfl (Nat.le_of_ble_eq_true rfl)) rfl rfl rfl (Nat.zero_le _) (Nat.zero_le _) fun _ h16 =>
    aw_aload_n (pc := 113) C (i := 0) dK_a_259.2.2.2.1 rfl rfl <|
    aw_getR (pc := 114) C (b := 8) dK_a_259.2.2.2.2.1 fl_X10_35 sC_0 rfl rC_0_11 <|
    aw_callF (pc := 117) C (cr_V (rest := []) (F := X1_meanWays) C (c_X1_meanWays X.2.1 ) dK_a_259.2.2.2.2.2.1 mf_X1_meanWays ml_X10_269 im_X1_meanWays se_X1_meanWays sC_8 rfl ⟨(Nat.le_of_ble_eq_true rfl), (Nat.le_of_ble_eq_true rfl)⟩ rfl rfl (Nat.le_of_ble_eq_true rfl)) rfl rfl rfl (Nat.zero_le _) (Nat.zero_le _) fun r17 h18 =>
    aw_lstore (pc := 120) C (i := 9) (lv' := [(0, .ref 0), (3, .ref v3), (4, .int v4), (5, .long v5), (7, .int v7), (8, .int x12), (9, .long r17)]) dK_a_259.2.2.2.2.2.2.1 (by decide) rfl <|
    aw_lload (pc := 122) C (i := 9) dK_a_259.2.2.2.2.2.2.2.1 rfl <|
    aw_lload (pc := 124) C (i := 5) dK_a_260.1 rfl <|
    aw_lcmp (pc := 126) C dK_a_260.2.1 <|
    aw_if_le (pc := 127) C (tgt := 138) dK_a_260.2.2.1 rfl (fun _ =>
    aw_drop [0, 1, 2, 3, 4] (aX10_gusts_j138 C v3 hs3 v4 v5 v7 (X10_gusts_l56 v3 n) ih h18)) (fun _ =>
    aw_lload (pc := 130) C (i := 9) dK_a_260.2.2.2.1 rfl <|
    aw_lstore (pc := 132) C (i := 5) (lv' := [(0, .ref 0), (3, .ref v3), (4, .int v4), (5, .long r17), (7, .int v7), (8, .int x12), (9, .long r17)]) dK_a_260.2.2.2.2.1 (by decide) rfl <|
    aw_iload (pc := 134) C (i := 7) dK_a_260.2.2.2.2.2.1 rfl <|
    aw_istore (pc := 136) C (i := 4) (lv' := [(0, .ref 0), (3, .ref v3), (4, .int v7), (5, .long r17), (7, .int v7), (8, .int x12), (9, .long r17)]) dK_a_260.2.2.2.2.2.2.1 (by decide) rfl <|
    aw_drop [0, 1, 2, 3, 4] (aX10_gusts_j138 C v3 hs3 v7 r17 v7 (X10_gusts_l56 v3 n) ih h18)))
def X10_gusts_j21  (v1 : Int32) (s0 : Int32) (s1 : Int32) (h : AH) : Option (Int32 × AH) :=
    bd (X10_first s1 s0 h) fun r5 h6 =>
    if r5 = 0 then (bd (X5_at 42 v1 h6) fun r7 h8 =>
    cs ZC r7 (.inr 2) (vl (-9) fun x10 =>
    vl (-1) fun x11 =>
    X10_gusts_l56 r7 FU x10 x11 0 h8))
    else (bd (X10_refuse r5 h6) fun r20 h21 =>
    some (r20, h21))
set_option maxRecDepth 100000 in
theorem aX10_gusts_j21 {X : MCx} {yd : Dyn} {A : Nat → Prop} (C : OK X cX10_gusts RX10 11 (some .int) rmX10_gusts A)  (v1 : Int32) (s0 : Int32) (s1 : Int32) (h : AH) : AW X 11 ZC yd A 0 0 (QF X rmX10_gusts ZC yd rvI A) 21 [(0, .ref 0), (1, .int v1)] [.int s0, .int s1] h (X10_gusts_j21 v1 s0 s1 h) := by
    exact aw_callF (pc := 21) C (cr_S (rest := []) (F := (X10_first s1 s0)) C (c_X10_first X.2.1 s1 s0) dK_a_253.2.2.2.1 mf_X10_first ml_X10_97 st_X10_first ⟨(Nat.le_of_ble_eq_true rfl), (Nat.le_of_ble_eq_true rfl)⟩ rfl rfl (Nat.le_of_ble_eq_true rfl)) rfl rfl rfl (Nat.zero_le _) (Nat.zero_le _) fun r5 h6 =>
    aw_istore_n (pc := 24) C (i := 2) (lv' := [(0, .ref 0), (1, .int v1), (2, .int r5)]) dK_a_253.2.2.2.2.1 rfl (by decide) rfl <|
    aw_iload_n (pc := 25) C (i := 2) dK_a_253.2.2.2.2.2.1 rfl rfl <|
    aw_if_eq (pc := 26) C (tgt := 35) dK_a_253.2.2.2.2.2.2.1 rfl (fun _ =>
    aw_aload_n (pc := 35) C (i := 0) dK_a_254.2.2.2.1 rfl rfl <|
    aw_getR (pc := 36) C (b := 42) dK_a_254.2.2.2.2.1 fl_X10_72 sC_0 rfl rC_0_1 <|
    aw_iload_n (pc := 39) C (i := 1) dK_a_254.2.2.2.2.2.1 rfl rfl <|
    aw_callF (pc := 40) C (cr_V (rest := []) (F := (X5_at 42 v1)) C (c_X5_at X.2.1 42 (Or.inl rfl) v1) dK_a_254.2.2.2.2.2.2.1 mf_X5_at ml_X10_169 im_X5_at se_X5_at (mt_s (Or.inl rfl)) rfl ⟨(Nat.le_of_ble_eq_true rfl), (Nat.le_of_ble_eq_true rfl)⟩ rfl rfl (Nat.le_of_ble_eq_true rfl)) rfl rfl rfl (Nat.zero_le _) (Nat.zero_le _) fun r7 h8 =>
    aw_cs fun hs9 =>
    aw_astore_n (pc := 43) C (i := 3) (lv' := [(0, .ref 0), (1, .int v1), (2, .int r5), (3, .ref r7)]) dK_a_254.2.2.2.2.2.2.2.1 rfl (by decide) rfl <|
    aw_bipush (pc := 44) C (v := (-9)) dK_a_255.1 rfl <|
    aw_istoreV (pc := 46) C (i := 4) (fun x10 => [(0, .ref 0), (1, .int v1), (2, .int r5), (3, .ref r7), (4, .int x10)]) dK_a_255.2.1 (by decide) (fun _ => rfl) fun x10 =>
    aw_ldc2_w (pc := 48) C (v := (-1)) dK_a_255.2.2.1 kc_X10_280 <|
    aw_lstoreV (pc := 51) C (i := 5) (fun x11 => [(0, .ref 0), (1, .int v1), (2, .int r5), (3, .ref r7), (4, .int x10), (5, .long x11)]) dK_a_255.2.2.2.1 (by decide) (fun _ => rfl) fun x11 =>
    aw_iconst (pc := 53) C (v := 0) dK_a_255.2.2.2.2.1 rfl <|
    aw_istore (pc := 54) C (i := 7) (lv' := [(0, .ref 0), (1, .int v1), (2, .int r5), (3, .ref r7), (4, .int x10), (5, .long x11), (7, .int 0)]) dK_a_255.2.2.2.2.2.1 (by decide) rfl <|
    aw_drop [0, 3, 4, 5, 6] (aX10_gusts_l56 C r7 hs9 FU x10 x11 0 h8)) (fun _ =>
    aw_aload_n (pc := 29) C (i := 0) dK_a_253.2.2.2.2.2.2.2.1 rfl rfl <|
    aw_iload_n (pc := 30) C (i := 2) dK_a_254.1 rfl rfl <|
    aw_callF (pc := 31) C (cr_V (rest := []) (F := (X10_refuse r5)) C (c_X10_refuse X.2.1 r5) dK_a_254.2.1 mf_X10_refuse ml_X10_111 im_X10_refuse se_X10_refuse sC_0 rfl ⟨(Nat.le_of_ble_eq_true rfl), (Nat.le_of_ble_eq_true rfl)⟩ rfl rfl (Nat.le_of_ble_eq_true rfl)) rfl rfl rfl (Nat.zero_le _) (Nat.zero_le _) fun r20 h21 =>
    aw_iret (pc := 34) C dK_a_254.2.2.1 rfl rfl)
def X10_gusts (v1 : Int32) (h : AH) : Option (Int32 × AH) :=
    bd (X10_nobody v1 h) fun r1 h2 =>
    bd (X10_greatestFrom 0 h2) fun r3 h4 =>
    if r3 ≤ 18 then (X10_gusts_j21 v1 0 r1 h4)
    else (X10_gusts_j21 v1 (-3) r1 h4)
set_option maxRecDepth 100000 in
theorem c_X10_gusts (l : Launch) (v1 : Int32) : MC l yX10_gusts cX10_gusts 11 (some .int) rmX10_gusts ZC [.ref 0, .int v1] rvI (X10_gusts v1) :=
  MC.of (own := RX10) pn_RX10 rfl (Nat.le_of_ble_eq_true rfl) fun X yd A h _ C =>
    aw_aload_n (pc := 0) C (i := 0) dK_a_252.1 rfl rfl <|
    aw_iload_n (pc := 1) C (i := 1) dK_a_252.2.1 rfl rfl <|
    aw_callF (pc := 2) C (cr_V (rest := []) (F := (X10_nobody v1)) C (c_X10_nobody X.2.1 v1) dK_a_252.2.2.1 mf_X10_nobody ml_X10_93 im_X10_nobody se_X10_nobody sC_0 rfl ⟨(Nat.le_of_ble_eq_true rfl), (Nat.le_of_ble_eq_true rfl)⟩ rfl rfl (Nat.le_of_ble_eq_true rfl)) rfl rfl rfl (Nat.zero_le _) (Nat.zero_le _) fun r1 h2 =>
    aw_aload_n (pc := 5) C (i := 0) dK_a_252.2.2.2.1 rfl rfl <|
    aw_iconst (pc := 6) C (v := 0) dK_a_252.2.2.2.2.1 rfl <|
    aw_callF (pc := 7) C (cr_V (rest := [.int r1]) (F := (X10_greatestFrom 0)) C (c_X10_greatestFrom X.2.1 0) dK_a_252.2.2.2.2.2.1 mf_X10_greatestFrom ml_X10_330 im_X10_greatestFrom se_X10_greatestFrom sC_0 rfl ⟨(Nat.le_of_ble_eq_true rfl), (Nat.le_of_ble_eq_true rfl)⟩ rfl rfl (Nat.le_of_ble_eq_true rfl)) rfl rfl rfl (Nat.zero_le _) (Nat.zero_le _) fun r3 h4 =>
    aw_bipush (pc := 10) C (v := 18) dK_a_252.2.2.2.2.2.2.1 rfl <|
    aw_icmp_le (pc := 12) C (tgt := 20) dK_a_252.2.2.2.2.2.2.2.1 rfl (fun _ =>
    aw_iconst (pc := 20) C (v := 0) dK_a_253.2.2.1 rfl <|
    (aX10_gusts_j21 C v1 0 r1 h4)) (fun _ =>
    aw_bipush (pc := 15) C (v := (-3)) dK_a_253.1 rfl <|
    aw_goto (pc := 17) C (tgt := 21) dK_a_253.2.1 rfl <|
    (aX10_gusts_j21 C v1 (-3) r1 h4))

abbrev rmX10_on : Room := { frames := 6, cells := 0, slots := 0, locals := 158 }
def X10_on_j260  (v1 : Int32) (v2 : Int32) (v4 : Int32) (v5 : Int32) (v7 : Int32) (K151 : Int32 → Int32 → AH → Option (Int64 × AH)) (s0 : Int32) (s1 : Int32) (h : AH) : Option (Int64 × AH) :=
    vl (s1 + s0) fun x20 =>
    vl (v7 + 1) fun x21 =>
    K151 x20 x21 h
set_option maxRecDepth 100000 in
theorem aX10_on_j260 {X : MCx} {yd : Dyn} {A : Nat → Prop} (C : OK X cX10_on RX10 9 (some .long) rmX10_on A)  (v1 : Int32) (v2 : Int32) (v4 : Int32) (v5 : Int32) (v7 : Int32) (K151 : Int32 → Int32 → AH → Option (Int64 × AH)) (hK151 : ∀ (w6 : Int32) (w7 : Int32) (h : AH), AW X 9 ZC yd A 0 0 (QF X rmX10_on ZC yd rvL A) 151 [(0, .ref 0), (1, .int v1), (2, .int v2), (4, .int v4), (5, .int v5), (6, .int w6), (7, .int w7)] [] h (K151 w6 w7 h)) (s0 : Int32) (s1 : Int32) (h : AH) : AW X 9 ZC yd A 0 0 (QF X rmX10_on ZC yd rvL A) 260 [(0, .ref 0), (1, .int v1), (2, .int v2), (4, .int v4), (5, .int v5), (7, .int v7)] [.int s0, .int s1] h (X10_on_j260 v1 v2 v4 v5 v7 K151 s0 s1 h) := by
    exact aw_iadd (pc := 260) C dK_b_1.2.2.2.2.1 <|
    aw_istoreV (pc := 261) C (i := 6) (fun x20 => [(0, .ref 0), (1, .int v1), (2, .int v2), (4, .int v4), (5, .int v5), (6, .int x20), (7, .int v7)]) dK_b_1.2.2.2.2.2.1 (by decide) (fun _ => rfl) fun x20 =>
    aw_iincV (pc := 263) C (i := 7) (cst := 1) (fun x21 => [(0, .ref 0), (1, .int v1), (2, .int v2), (4, .int v4), (5, .int v5), (6, .int x20), (7, .int x21)]) dK_b_1.2.2.2.2.2.2.1 rfl rfl (by decide) (fun _ => rfl) fun x21 =>
    aw_goto (pc := 266) C (tgt := 151) dK_b_1.2.2.2.2.2.2.2.1 rfl <|
    (hK151 x20 x21 h)
def X10_on_j225  (v1 : Int32) (v2 : Int32) (v4 : Int32) (v5 : Int32) (v6 : Int32) (v7 : Int32) (v8 : Int32) (K151 : Int32 → Int32 → AH → Option (Int64 × AH)) (K183 : Int32 → AH → Option (Int64 × AH)) (s0 : Int32) (s1 : Int32) (h : AH) : Option (Int64 × AH) :=
    bd (X6_add s1 s0 h) fun _ h23 =>
    vl (v8 + 1) fun x24 =>
    K183 x24 h23
set_option maxRecDepth 100000 in
theorem aX10_on_j225 {X : MCx} {yd : Dyn} {A : Nat → Prop} (C : OK X cX10_on RX10 9 (some .long) rmX10_on A)  (v1 : Int32) (v2 : Int32) (v4 : Int32) (v5 : Int32) (v6 : Int32) (v7 : Int32) (v8 : Int32) (K151 : Int32 → Int32 → AH → Option (Int64 × AH)) (hK151 : ∀ (w6 : Int32) (w7 : Int32) (h : AH), AW X 9 ZC yd A 0 0 (QF X rmX10_on ZC yd rvL A) 151 [(0, .ref 0), (1, .int v1), (2, .int v2), (4, .int v4), (5, .int v5), (6, .int w6), (7, .int w7)] [] h (K151 w6 w7 h)) (K183 : Int32 → AH → Option (Int64 × AH)) (hK183 : ∀ (w8 : Int32) (h : AH), AW X 9 ZC yd A 0 0 (QF X rmX10_on ZC yd rvL A) 183 [(0, .ref 0), (1, .int v1), (2, .int v2), (4, .int v4), (5, .int v5), (6, .int v6), (7, .int v7), (8, .int w8)] [] h (K183 w8 h)) (s0 : Int32) (s1 : Int32) (h : AH) : AW X 9 ZC yd A 0 0 (QF X rmX10_on ZC yd rvL A) 225 [(0, .ref 0), (1, .int v1), (2, .int v2), (4, .int v4), (5, .int v5), (6, .int v6), (7, .int v7), (8, .int v8)] [.int s0, .int s1, .ref 5] h (X10_on_j225 v1 v2 v4 v5 v6 v7 v8 K151 K183 s0 s1 h) := by
    exact aw_callF (pc := 225) C (cr_V (rest := []) (F := (X6_add s1 s0)) C (c_X6_add X.2.1 s1 s0) dK_a_276.2.2.1 mf_X6_add ml_X10_339 im_X6_add se_X6_add sC_5 rfl ⟨(Nat.le_of_ble_eq_true rfl), (Nat.le_of_ble_eq_true rfl)⟩ rfl rfl (Nat.le_of_ble_eq_true rfl)) rfl rfl rfl (Nat.zero_le _) (Nat.zero_le _) fun _ h23 =>
    aw_iincV (pc := 228) C (i := 8) (cst := 1) (fun x24 => [(0, .ref 0), (1, .int v1), (2, .int v2), (4, .int v4), (5, .int v5), (6, .int v6), (7, .int v7), (8, .int x24)]) dK_a_276.2.2.2.1 rfl rfl (by decide) (fun _ => rfl) fun x24 =>
    aw_goto (pc := 231) C (tgt := 183) dK_a_276.2.2.2.2.1 rfl <|
    (hK183 x24 h23)
def X10_on_l183  (v1 : Int32) (v2 : Int32) (v4 : Int32) (v5 : Int32) (v6 : Int32) (v7 : Int32) (K151 : Int32 → Int32 → AH → Option (Int64 × AH)) : Nat → Int32 → AH → Option (Int64 × AH)
  | 0, _, _ => none
  | n + 1, v8, h =>
    if (h.1 42 3) ≤ v8 then (bd (X6_ahead v1 0 h) fun r16 h17 =>
    bd (X5_finalists 42 h17) fun r18 h19 =>
    if r18 ≤ r16 then (X10_on_j260 v1 v2 v4 v5 v7 K151 0 v6 h19)
    else (X10_on_j260 v1 v2 v4 v5 v7 K151 1 v6 h19))
    else (if ((sar32 v7 (v8 - v4)) &&& 1) = 0 then (X10_on_j225 v1 v2 v4 v5 v6 v7 v8 K151 (X10_on_l183 v1 v2 v4 v5 v6 v7 K151 n) 0 v8 h)
    else (ck v8 4 (X10_on_j225 v1 v2 v4 v5 v6 v7 v8 K151 (X10_on_l183 v1 v2 v4 v5 v6 v7 K151 n) (h.1 35 v8.toNatClampNeg) v8 h)))
set_option maxRecDepth 100000 in
theorem aX10_on_l183 {X : MCx} {yd : Dyn} {A : Nat → Prop} (C : OK X cX10_on RX10 9 (some .long) rmX10_on A)  (v1 : Int32) (v2 : Int32) (v4 : Int32) (v5 : Int32) (v6 : Int32) (v7 : Int32) (K151 : Int32 → Int32 → AH → Option (Int64 × AH)) (hK151 : ∀ (w6 : Int32) (w7 : Int32) (h : AH), AW X 9 ZC yd A 0 0 (QF X rmX10_on ZC yd rvL A) 151 [(0, .ref 0), (1, .int v1), (2, .int v2), (4, .int v4), (5, .int v5), (6, .int w6), (7, .int w7)] [] h (K151 w6 w7 h)) : ∀ (n : Nat) (v8 : Int32) (h : AH), AW X 9 ZC yd A 0 0 (QF X rmX10_on ZC yd rvL A) 183 [(0, .ref 0), (1, .int v1), (2, .int v2), (4, .int v4), (5, .int v5), (6, .int v6), (7, .int v7), (8, .int v8)] [] h (X10_on_l183 v1 v2 v4 v5 v6 v7 K151 n v8 h) := by
  intro n
  induction n with
  | zero => intro v8 h; exact aw_none
  | succ n ih =>
    intro v8 h
    exact aw_iload (pc := 183) C (i := 8) dK_a_273.2.2.2.2.1 rfl <|
    aw_aload_n (pc := 185) C (i := 0) dK_a_273.2.2.2.2.2.1 rfl rfl <|
    aw_getR (pc := 186) C (b := 42) dK_a_273.2.2.2.2.2.2.1 fl_X10_72 sC_0 rfl rC_0_1 <|
    aw_getI (pc := 189) C dK_a_273.2.2.2.2.2.2.2.1 fl_X10_89 (mt_s (Or.inl rfl)) rfl <|
    aw_icmp_ge (pc := 192) C (tgt := 234) dK_a_274.1 rfl (fun _ =>
    aw_iload (pc := 234) C (i := 6) dK_a_276.2.2.2.2.2.1 rfl <|
    aw_aload_n (pc := 236) C (i := 0) dK_b_0.1 rfl rfl <|
    aw_getR (pc := 237) C (b := 5) dK_b_0.2.1 fl_X10_28 sC_0 rfl rC_0_10 <|
    aw_iload_n (pc := 240) C (i := 1) dK_b_0.2.2.1 rfl rfl <|
    aw_iconst (pc := 241) C (v := 0) dK_b_0.2.2.2.1 rfl <|
    aw_callF (pc := 242) C (cr_V (rest := [.int v6]) (F := (X6_ahead v1 0)) C (c_X6_ahead X.2.1 v1 0) dK_b_0.2.2.2.2.1 mf_X6_ahead ml_X10_312 im_X6_ahead se_X6_ahead sC_5 rfl ⟨(Nat.le_of_ble_eq_true rfl), (Nat.le_of_ble_eq_true rfl)⟩ rfl rfl (Nat.le_of_ble_eq_true rfl)) rfl rfl rfl (Nat.zero_le _) (Nat.zero_le _) fun r16 h17 =>
    aw_aload_n (pc := 245) C (i := 0) dK_b_0.2.2.2.2.2.1 rfl rfl <|
    aw_getR (pc := 246) C (b := 42) dK_b_0.2.2.2.2.2.2.1 fl_X10_72 sC_0 rfl rC_0_1 <|
    aw_callF (pc := 249) C (cr_V (rest := [.int r16, .int v6]) (F := (X5_finalists 42)) C (c_X5_finalists X.2.1 42 (Or.inl rfl)) dK_b_0.2.2.2.2.2.2.2.1 mf_X5_finalists ml_X10_306 im_X5_finalists se_X5_finalists (mt_s (Or.inl rfl)) rfl ⟨(Nat.le_of_ble_eq_true rfl), (Nat.le_of_ble_eq_true rfl)⟩ rfl rfl (Nat.le_of_ble_eq_true rfl)) rfl rfl rfl (Nat.zero_le _) (Nat.zero_le _) fun r18 h19 =>
    aw_icmp_ge (pc := 252) C (tgt := 259) dK_b_1.1 rfl (fun _ =>
    aw_iconst (pc := 259) C (v := 0) dK_b_1.2.2.2.1 rfl <|
    aw_drop [0, 1, 2, 3, 4, 6] (aX10_on_j260 C v1 v2 v4 v5 v7 K151 hK151 0 v6 h19)) (fun _ =>
    aw_iconst (pc := 255) C (v := 1) dK_b_1.2.1 rfl <|
    aw_goto (pc := 256) C (tgt := 260) dK_b_1.2.2.1 rfl <|
    aw_drop [0, 1, 2, 3, 4, 6] (aX10_on_j260 C v1 v2 v4 v5 v7 K151 hK151 1 v6 h19))) (fun _ =>
    aw_aload_n (pc := 195) C (i := 0) dK_a_274.2.1 rfl rfl <|
    aw_getR (pc := 196) C (b := 5) dK_a_274.2.2.1 fl_X10_28 sC_0 rfl rC_0_10 <|
    aw_iload (pc := 199) C (i := 8) dK_a_274.2.2.2.1 rfl <|
    aw_iload (pc := 201) C (i := 7) dK_a_274.2.2.2.2.1 rfl <|
    aw_iload (pc := 203) C (i := 8) dK_a_274.2.2.2.2.2.1 rfl <|
    aw_iload (pc := 205) C (i := 4) dK_a_274.2.2.2.2.2.2.1 rfl <|
    aw_isub (pc := 207) C dK_a_274.2.2.2.2.2.2.2.1 <|
    aw_ishr (pc := 208) C dK_a_275.1 <|
    aw_iconst (pc := 209) C (v := 1) dK_a_275.2.1 rfl <|
    aw_iand (pc := 210) C dK_a_275.2.2.1 <|
    aw_if_eq (pc := 211) C (tgt := 224) dK_a_275.2.2.2.1 rfl (fun _ =>
    aw_iconst (pc := 224) C (v := 0) dK_a_276.2.1 rfl <|
    (aX10_on_j225 C v1 v2 v4 v5 v6 v7 v8 K151 hK151 (X10_on_l183 v1 v2 v4 v5 v6 v7 K151 n) ih 0 v8 h)) (fun _ =>
    aw_aload_n (pc := 214) C (i := 0) dK_a_275.2.2.2.2.1 rfl rfl <|
    aw_getR (pc := 215) C (b := 35) dK_a_275.2.2.2.2.2.1 fl_X10_48 sC_0 rfl rC_0_16 <|
    aw_iload (pc := 218) C (i := 8) dK_a_275.2.2.2.2.2.2.1 rfl <|
    aw_iald (pc := 220) C dK_a_275.2.2.2.2.2.2.2.1 sC_35 rfl <|
    aw_goto (pc := 221) C (tgt := 225) dK_a_276.1 rfl <|
    (aX10_on_j225 C v1 v2 v4 v5 v6 v7 v8 K151 hK151 (X10_on_l183 v1 v2 v4 v5 v6 v7 K151 n) ih (h.1 35 v8.toNatClampNeg) v8 h)))
def X10_on_l151  (v1 : Int32) (v2 : Int32) (v4 : Int32) (v5 : Int32) : Nat → Int32 → Int32 → AH → Option (Int64 × AH)
  | 0, _, _, _ => none
  | n + 1, v6, v7, h =>
    if (shl32 1 v5) ≤ v7 then (bd (X10_fraction v6.toInt64 (shl64 1 v5) v2 h) fun r12 h13 =>
    some (r12, h13))
    else (bd (X5_rank 42 0 (h.1 42 4) h) fun _ h15 =>
    X10_on_l183 v1 v2 v4 v5 v6 v7 (X10_on_l151 v1 v2 v4 v5 n) FU v4 h15)
set_option maxRecDepth 100000 in
theorem aX10_on_l151 {X : MCx} {yd : Dyn} {A : Nat → Prop} (C : OK X cX10_on RX10 9 (some .long) rmX10_on A)  (v1 : Int32) (v2 : Int32) (v4 : Int32) (v5 : Int32) : ∀ (n : Nat) (v6 : Int32) (v7 : Int32) (h : AH), AW X 9 ZC yd A 0 0 (QF X rmX10_on ZC yd rvL A) 151 [(0, .ref 0), (1, .int v1), (2, .int v2), (4, .int v4), (5, .int v5), (6, .int v6), (7, .int v7)] [] h (X10_on_l151 v1 v2 v4 v5 n v6 v7 h) := by
  intro n
  induction n with
  | zero => intro v6 v7 h; exact aw_none
  | succ n ih =>
    intro v6 v7 h
    exact aw_iload (pc := 151) C (i := 7) dK_a_271.2.2.2.2.1 rfl <|
    aw_iconst (pc := 153) C (v := 1) dK_a_271.2.2.2.2.2.1 rfl <|
    aw_iload (pc := 154) C (i := 5) dK_a_271.2.2.2.2.2.2.1 rfl <|
    aw_ishl (pc := 156) C dK_a_271.2.2.2.2.2.2.2.1 <|
    aw_icmp_ge (pc := 157) C (tgt := 269) dK_a_272.1 rfl (fun _ =>
    aw_iload (pc := 269) C (i := 6) dK_b_2.1 rfl <|
    aw_i2l (pc := 271) C dK_b_2.2.1 <|
    aw_lconst (pc := 272) C (v := 1) dK_b_2.2.2.1 rfl <|
    aw_iload (pc := 273) C (i := 5) dK_b_2.2.2.2.1 rfl <|
    aw_lshl (pc := 275) C dK_b_2.2.2.2.2.1 <|
    aw_iload_n (pc := 276) C (i := 2) dK_b_2.2.2.2.2.2.1 rfl rfl <|
    aw_callF (pc := 277) C (cr_S (rest := []) (F := (X10_fraction v6.toInt64 (shl64 1 v5) v2)) C (c_X10_fraction X.2.1 v6.toInt64 (shl64 1 v5) v2) dK_b_2.2.2.2.2.2.2.1 mf_X10_fraction ml_X10_262 st_X10_fraction ⟨(Nat.le_of_ble_eq_true rfl), (Nat.le_of_ble_eq_true rfl)⟩ rfl rfl (Nat.le_of_ble_eq_true rfl)) rfl rfl rfl (Nat.zero_le _) (Nat.zero_le _) fun r12 h13 =>
    aw_lret (pc := 280) C dK_b_2.2.2.2.2.2.2.2.1 rfl rfl) (fun _ =>
    aw_aload_n (pc := 160) C (i := 0) dK_a_272.2.1 rfl rfl <|
    aw_getR (pc := 161) C (b := 42) dK_a_272.2.2.1 fl_X10_72 sC_0 rfl rC_0_1 <|
    aw_aload_n (pc := 164) C (i := 0) dK_a_272.2.2.2.1 rfl rfl <|
    aw_getR (pc := 165) C (b := 5) dK_a_272.2.2.2.2.1 fl_X10_28 sC_0 rfl rC_0_10 <|
    aw_iconst (pc := 168) C (v := 0) dK_a_272.2.2.2.2.2.1 rfl <|
    aw_aload_n (pc := 169) C (i := 0) dK_a_272.2.2.2.2.2.2.1 rfl rfl <|
    aw_getR (pc := 170) C (b := 42) dK_a_272.2.2.2.2.2.2.2.1 fl_X10_72 sC_0 rfl rC_0_1 <|
    aw_getI (pc := 173) C dK_a_273.1 fl_X10_160 (mt_s (Or.inl rfl)) rfl <|
    aw_callF (pc := 176) C (cr_V (rest := []) (F := (X5_rank 42 0 (h.1 42 4))) C (c_X5_rank X.2.1 42 (Or.inl rfl) 0 (h.1 42 4)) dK_a_273.2.1 mf_X5_rank ml_X10_214 im_X5_rank se_X5_rank (mt_s (Or.inl rfl)) rfl ⟨(Nat.le_of_ble_eq_true rfl), (Nat.le_of_ble_eq_true rfl)⟩ rfl rfl (Nat.le_of_ble_eq_true rfl)) rfl rfl rfl (Nat.zero_le _) (Nat.zero_le _) fun _ h15 =>
    aw_iload (pc := 179) C (i := 4) dK_a_273.2.2.1 rfl <|
    aw_istore (pc := 181) C (i := 8) (lv' := [(0, .ref 0), (1, .int v1), (2, .int v2), (4, .int v4), (5, .int v5), (6, .int v6), (7, .int v7), (8, .int v4)]) dK_a_273.2.2.2.1 (by decide) rfl <|
    (aX10_on_l183 C v1 v2 v4 v5 v6 v7 (X10_on_l151 v1 v2 v4 v5 n) ih FU v4 h15))
def X10_on_l95  (v1 : Int32) (v2 : Int32) (v4 : Int32) (v5 : Int32) : Nat → Int32 → AH → Option (Int64 × AH)
  | 0, _, _ => none
  | n + 1, v6, h =>
    if (h.1 42 3) ≤ v6 then (X10_on_l151 v1 v2 v4 v5 FU 0 0 h)
    else (bd (X10_spreadNow v6 0 h) fun _ h26 =>
    bd (X1_meanWays h26) fun r27 h28 =>
    ck v6 4 (vl (sI h28 35 v6.toNatClampNeg ((sar64 r27 (2 * (h28.1 42 0))).toInt32)) fun h29 =>
    vl (v6 + 1) fun x30 =>
    (X10_on_l95 v1 v2 v4 v5 n) x30 h29))
set_option maxRecDepth 100000 in
theorem aX10_on_l95 {X : MCx} {yd : Dyn} {A : Nat → Prop} (C : OK X cX10_on RX10 9 (some .long) rmX10_on A)  (v1 : Int32) (v2 : Int32) (v4 : Int32) (v5 : Int32) : ∀ (n : Nat) (v6 : Int32) (h : AH), AW X 9 ZC yd A 0 0 (QF X rmX10_on ZC yd rvL A) 95 [(0, .ref 0), (1, .int v1), (2, .int v2), (4, .int v4), (5, .int v5), (6, .int v6)] [] h (X10_on_l95 v1 v2 v4 v5 n v6 h) := by
  intro n
  induction n with
  | zero => intro v6 h; exact aw_none
  | succ n ih =>
    intro v6 h
    exact aw_iload (pc := 95) C (i := 6) dK_a_267.2.2.2.2.2.2.2.1 rfl <|
    aw_aload_n (pc := 97) C (i := 0) dK_a_268.1 rfl rfl <|
    aw_getR (pc := 98) C (b := 42) dK_a_268.2.1 fl_X10_72 sC_0 rfl rC_0_1 <|
    aw_getI (pc := 101) C dK_a_268.2.2.1 fl_X10_89 (mt_s (Or.inl rfl)) rfl <|
    aw_icmp_ge (pc := 104) C (tgt := 145) dK_a_268.2.2.2.1 rfl (fun _ =>
    aw_iconst (pc := 145) C (v := 0) dK_a_271.1 rfl <|
    aw_istore (pc := 146) C (i := 6) (lv' := [(0, .ref 0), (1, .int v1), (2, .int v2), (4, .int v4), (5, .int v5), (6, .int 0)]) dK_a_271.2.1 (by decide) rfl <|
    aw_iconst (pc := 148) C (v := 0) dK_a_271.2.2.1 rfl <|
    aw_istore (pc := 149) C (i := 7) (lv' := [(0, .ref 0), (1, .int v1), (2, .int v2), (4, .int v4), (5, .int v5), (6, .int 0), (7, .int 0)]) dK_a_271.2.2.2.1 (by decide) rfl <|
    (aX10_on_l151 C v1 v2 v4 v5 FU 0 0 h)) (fun _ =>
    aw_aload_n (pc := 107) C (i := 0) dK_a_268.2.2.2.2.1 rfl rfl <|
    aw_iload (pc := 108) C (i := 6) dK_a_268.2.2.2.2.2.1 rfl <|
    aw_iconst (pc := 110) C (v := 0) dK_a_268.2.2.2.2.2.2.1 rfl <|
    aw_callF (pc := 111) C (cr_V (rest := []) (F := (X10_spreadNow v6 0)) C (c_X10_spreadNow X.2.1 v6 0) dK_a_268.2.2.2.2.2.2.2.1 mf_X10_spreadNow ml_X10_251 im_X10_spreadNow se_X10_spreadNow sC_0 rfl ⟨(Nat.le_of_ble_eq_true rfl), (Nat.le_of_ble_eq_true rfl)⟩ rfl rfl (Nat.le_of_ble_eq_true rfl)) rfl rfl rfl (Nat.zero_le _) (Nat.zero_le _) fun _ h26 =>
    aw_aload_n (pc := 114) C (i := 0) dK_a_269.1 rfl rfl <|
    aw_getR (pc := 115) C (b := 35) dK_a_269.2.1 fl_X10_48 sC_0 rfl rC_0_16 <|
    aw_iload (pc := 118) C (i := 6) dK_a_269.2.2.1 rfl <|
    aw_aload_n (pc := 120) C (i := 0) dK_a_269.2.2.2.1 rfl rfl <|
    aw_getR (pc := 121) C (b := 8) dK_a_269.2.2.2.2.1 fl_X10_35 sC_0 rfl rC_0_11 <|
    aw_callF (pc := 124) C (cr_V (rest := [.int v6, .ref 35]) (F := X1_meanWays) C (c_X1_meanWays X.2.1 ) dK_a_269.2.2.2.2.2.1 mf_X1_meanWays ml_X10_269 im_X1_meanWays se_X1_meanWays sC_8 rfl ⟨(Nat.le_of_ble_eq_true rfl), (Nat.le_of_ble_eq_true rfl)⟩ rfl rfl (Nat.le_of_ble_eq_true rfl)) rfl rfl rfl (Nat.zero_le _) (Nat.zero_le _) fun r27 h28 =>
    aw_iconst (pc := 127) C (v := 2) dK_a_269.2.2.2.2.2.2.1 rfl <|
    aw_aload_n (pc := 128) C (i := 0) dK_a_269.2.2.2.2.2.2.2.1 rfl rfl <|
    aw_getR (pc := 129) C (b := 42) dK_a_270.1 fl_X10_72 sC_0 rfl rC_0_1 <|
    aw_getI (pc := 132) C dK_a_270.2.1 fl_X10_163 (mt_s (Or.inl rfl)) rfl <|
    aw_imul (pc := 135) C dK_a_270.2.2.1 <|
    aw_lshr (pc := 136) C dK_a_270.2.2.2.1 <|
    aw_l2i (pc := 137) C dK_a_270.2.2.2.2.1 <|
    aw_iast (pc := 138) C dK_a_270.2.2.2.2.2.1 sC_35 rfl fun h29 =>
    aw_iincV (pc := 139) C (i := 6) (cst := 1) (fun x30 => [(0, .ref 0), (1, .int v1), (2, .int v2), (4, .int v4), (5, .int v5), (6, .int x30)]) dK_a_270.2.2.2.2.2.2.1 rfl rfl (by decide) (fun _ => rfl) fun x30 =>
    aw_goto (pc := 142) C (tgt := 95) dK_a_270.2.2.2.2.2.2.2.1 rfl <|
    (ih x30 h29))
def X10_on_j77  (v1 : Int32) (v2 : Int32) (s0 : Int32) (h : AH) : Option (Int64 × AH) :=
    vl ((h.1 42 3) - s0) fun x11 =>
    X10_on_l95 v1 v2 s0 x11 FU s0 h
set_option maxRecDepth 100000 in
theorem aX10_on_j77 {X : MCx} {yd : Dyn} {A : Nat → Prop} (C : OK X cX10_on RX10 9 (some .long) rmX10_on A)  (v1 : Int32) (v2 : Int32) (s0 : Int32) (h : AH) : AW X 9 ZC yd A 0 0 (QF X rmX10_on ZC yd rvL A) 77 [(0, .ref 0), (1, .int v1), (2, .int v2)] [.int s0] h (X10_on_j77 v1 v2 s0 h) := by
    exact aw_istore (pc := 77) C (i := 4) (lv' := [(0, .ref 0), (1, .int v1), (2, .int v2), (4, .int s0)]) dK_a_266.2.2.2.2.2.2.1 (by decide) rfl <|
    aw_aload_n (pc := 79) C (i := 0) dK_a_266.2.2.2.2.2.2.2.1 rfl rfl <|
    aw_getR (pc := 80) C (b := 42) dK_a_267.1 fl_X10_72 sC_0 rfl rC_0_1 <|
    aw_getI (pc := 83) C dK_a_267.2.1 fl_X10_89 (mt_s (Or.inl rfl)) rfl <|
    aw_iload (pc := 86) C (i := 4) dK_a_267.2.2.1 rfl <|
    aw_isub (pc := 88) C dK_a_267.2.2.2.1 <|
    aw_istoreV (pc := 89) C (i := 5) (fun x11 => [(0, .ref 0), (1, .int v1), (2, .int v2), (4, .int s0), (5, .int x11)]) dK_a_267.2.2.2.2.1 (by decide) (fun _ => rfl) fun x11 =>
    aw_iload (pc := 91) C (i := 4) dK_a_267.2.2.2.2.2.1 rfl <|
    aw_istore (pc := 93) C (i := 6) (lv' := [(0, .ref 0), (1, .int v1), (2, .int v2), (4, .int s0), (5, .int x11), (6, .int s0)]) dK_a_267.2.2.2.2.2.2.1 (by decide) rfl <|
    (aX10_on_l95 C v1 v2 s0 x11 FU s0 h)
def X10_on_j26  (v1 : Int32) (v2 : Int32) (s0 : Int32) (s1 : Int32) (s2 : Int32) (h : AH) : Option (Int64 × AH) :=
    bd (X10_first s1 s0 h) fun r7 h8 =>
    bd (X10_first s2 r7 h8) fun r9 h10 =>
    if r9 = 0 then (if (h10.1 42 3) ≤ 0 then (X10_on_j77 v1 v2 0 h10)
    else (if (h10.1 42 3) = 0 then none else (X10_on_j77 v1 v2 (rm32 (h10.1 42 4) (h10.1 42 3)) h10)))
    else (bd (X10_refuse r9 h10) fun r31 h32 =>
    some ((4000000000000000000 - r31.toInt64), h32))
set_option maxRecDepth 100000 in
theorem aX10_on_j26 {X : MCx} {yd : Dyn} {A : Nat → Prop} (C : OK X cX10_on RX10 9 (some .long) rmX10_on A)  (v1 : Int32) (v2 : Int32) (s0 : Int32) (s1 : Int32) (s2 : Int32) (h : AH) : AW X 9 ZC yd A 0 0 (QF X rmX10_on ZC yd rvL A) 26 [(0, .ref 0), (1, .int v1), (2, .int v2)] [.int s0, .int s1, .int s2] h (X10_on_j26 v1 v2 s0 s1 s2 h) := by
    exact aw_callF (pc := 26) C (cr_S (rest := [.int s2]) (F := (X10_first s1 s0)) C (c_X10_first X.2.1 s1 s0) dK_a_263.2.2.2.2.2.1 mf_X10_first ml_X10_97 st_X10_first ⟨(Nat.le_of_ble_eq_true rfl), (Nat.le_of_ble_eq_true rfl)⟩ rfl rfl (Nat.le_of_ble_eq_true rfl)) rfl rfl rfl (Nat.zero_le _) (Nat.zero_le _) fun r7 h8 =>
    aw_callF (pc := 29) C (cr_S (rest := []) (F := (X10_first s2 r7)) C (c_X10_first X.2.1 s2 r7) dK_a_263.2.2.2.2.2.2.1 mf_X10_first ml_X10_97 st_X10_first ⟨(Nat.le_of_ble_eq_true rfl), (Nat.le_of_ble_eq_true rfl)⟩ rfl rfl (Nat.le_of_ble_eq_true rfl)) rfl rfl rfl (Nat.zero_le _) (Nat.zero_le _) fun r9 h10 =>
    aw_istore_n (pc := 32) C (i := 3) (lv' := [(0, .ref 0), (1, .int v1), (2, .int v2), (3, .int r9)]) dK_a_263.2.2.2.2.2.2.2.1 rfl (by decide) rfl <|
    aw_iload_n (pc := 33) C (i := 3) dK_a_264.1 rfl rfl <|
    aw_if_eq (pc := 34) C (tgt := 48) dK_a_264.2.1 rfl (fun _ =>
    aw_aload_n (pc := 48) C (i := 0) dK_a_265.2.1 rfl rfl <|
    aw_getR (pc := 49) C (b := 42) dK_a_265.2.2.1 fl_X10_72 sC_0 rfl rC_0_1 <|
    aw_getI (pc := 52) C dK_a_265.2.2.2.1 fl_X10_89 (mt_s (Or.inl rfl)) rfl <|
    aw_if_le (pc := 55) C (tgt := 76) dK_a_265.2.2.2.2.1 rfl (fun _ =>
    aw_iconst (pc := 76) C (v := 0) dK_a_266.2.2.2.2.2.1 rfl <|
    aw_drop [0, 1, 2] (aX10_on_j77 C v1 v2 0 h10)) (fun _ =>
    aw_aload_n (pc := 58) C (i := 0) dK_a_265.2.2.2.2.2.1 rfl rfl <|
    aw_getR (pc := 59) C (b := 42) dK_a_265.2.2.2.2.2.2.1 fl_X10_72 sC_0 rfl rC_0_1 <|
    aw_getI (pc := 62) C dK_a_265.2.2.2.2.2.2.2.1 fl_X10_160 (mt_s (Or.inl rfl)) rfl <|
    aw_aload_n (pc := 65) C (i := 0) dK_a_266.1 rfl rfl <|
    aw_getR (pc := 66) C (b := 42) dK_a_266.2.1 fl_X10_72 sC_0 rfl rC_0_1 <|
    aw_getI (pc := 69) C dK_a_266.2.2.1 fl_X10_89 (mt_s (Or.inl rfl)) rfl <|
    aw_irem (pc := 72) C dK_a_266.2.2.2.1 <|
    aw_goto (pc := 73) C (tgt := 77) dK_a_266.2.2.2.2.1 rfl <|
    aw_drop [0, 1, 2] (aX10_on_j77 C v1 v2 (rm32 (h10.1 42 4) (h10.1 42 3)) h10))) (fun _ =>
    aw_ldc2_w (pc := 37) C (v := 4000000000000000000) dK_a_264.2.2.1 kc_X10_249 <|
    aw_aload_n (pc := 40) C (i := 0) dK_a_264.2.2.2.1 rfl rfl <|
    aw_iload_n (pc := 41) C (i := 3) dK_a_264.2.2.2.2.1 rfl rfl <|
    aw_callF (pc := 42) C (cr_V (rest := [.long 4000000000000000000]) (F := (X10_refuse r9)) C (c_X10_refuse X.2.1 r9) dK_a_264.2.2.2.2.2.1 mf_X10_refuse ml_X10_111 im_X10_refuse se_X10_refuse sC_0 rfl ⟨(Nat.le_of_ble_eq_true rfl), (Nat.le_of_ble_eq_true rfl)⟩ rfl rfl (Nat.le_of_ble_eq_true rfl)) rfl rfl rfl (Nat.zero_le _) (Nat.zero_le _) fun r31 h32 =>
    aw_i2l (pc := 45) C dK_a_264.2.2.2.2.2.2.1 <|
    aw_lsub (pc := 46) C dK_a_264.2.2.2.2.2.2.2.1 <|
    aw_lret (pc := 47) C dK_a_265.1 rfl rfl)
def X10_on (v1 : Int32) (v2 : Int32) (h : AH) : Option (Int64 × AH) :=
    bd (X10_nobody v1 h) fun r1 h2 =>
    bd (X10_noPart v2 h2) fun r3 h4 =>
    bd (X5_round 42 h4) fun r5 h6 =>
    if r5 ≤ 2 then (X10_on_j26 v1 v2 0 r3 r1 h6)
    else (X10_on_j26 v1 v2 (-3) r3 r1 h6)
set_option maxRecDepth 100000 in
theorem c_X10_on (l : Launch) (v1 : Int32) (v2 : Int32) : MC l yX10_on cX10_on 9 (some .long) rmX10_on ZC [.ref 0, .int v1, .int v2] rvL (X10_on v1 v2) :=
  MC.of (own := RX10) pn_RX10 rfl (Nat.le_of_ble_eq_true rfl) fun X yd A h _ C =>
    aw_aload_n (pc := 0) C (i := 0) dK_a_262.1 rfl rfl <|
    aw_iload_n (pc := 1) C (i := 1) dK_a_262.2.1 rfl rfl <|
    aw_callF (pc := 2) C (cr_V (rest := []) (F := (X10_nobody v1)) C (c_X10_nobody X.2.1 v1) dK_a_262.2.2.1 mf_X10_nobody ml_X10_93 im_X10_nobody se_X10_nobody sC_0 rfl ⟨(Nat.le_of_ble_eq_true rfl), (Nat.le_of_ble_eq_true rfl)⟩ rfl rfl (Nat.le_of_ble_eq_true rfl)) rfl rfl rfl (Nat.zero_le _) (Nat.zero_le _) fun r1 h2 =>
    aw_iload_n (pc := 5) C (i := 2) dK_a_262.2.2.2.1 rfl rfl <|
    aw_callF (pc := 6) C (cr_S (rest := [.int r1]) (F := (X10_noPart v2)) C (c_X10_noPart X.2.1 v2) dK_a_262.2.2.2.2.1 mf_X10_noPart ml_X10_246 st_X10_noPart ⟨(Nat.le_of_ble_eq_true rfl), (Nat.le_of_ble_eq_true rfl)⟩ rfl rfl (Nat.le_of_ble_eq_true rfl)) rfl rfl rfl (Nat.zero_le _) (Nat.zero_le _) fun r3 h4 =>
    aw_aload_n (pc := 9) C (i := 0) dK_a_262.2.2.2.2.2.1 rfl rfl <|
    aw_getR (pc := 10) C (b := 42) dK_a_262.2.2.2.2.2.2.1 fl_X10_72 sC_0 rfl rC_0_1 <|
    aw_callF (pc := 13) C (cr_V (rest := [.int r3, .int r1]) (F := (X5_round 42)) C (c_X5_round X.2.1 42 (Or.inl rfl)) dK_a_262.2.2.2.2.2.2.2.1 mf_X5_round ml_X10_336 im_X5_round se_X5_round (mt_s (Or.inl rfl)) rfl ⟨(Nat.le_of_ble_eq_true rfl), (Nat.le_of_ble_eq_true rfl)⟩ rfl rfl (Nat.le_of_ble_eq_true rfl)) rfl rfl rfl (Nat.zero_le _) (Nat.zero_le _) fun r5 h6 =>
    aw_iconst (pc := 16) C (v := 2) dK_a_263.1 rfl <|
    aw_icmp_le (pc := 17) C (tgt := 25) dK_a_263.2.1 rfl (fun _ =>
    aw_iconst (pc := 25) C (v := 0) dK_a_263.2.2.2.2.1 rfl <|
    (aX10_on_j26 C v1 v2 0 r3 r1 h6)) (fun _ =>
    aw_bipush (pc := 20) C (v := (-3)) dK_a_263.2.2.1 rfl <|
    aw_goto (pc := 22) C (tgt := 26) dK_a_263.2.2.2.1 rfl <|
    (aX10_on_j26 C v1 v2 (-3) r3 r1 h6))
end
section
abbrev rmX10_row : Room := { frames := 1, cells := 0, slots := 0, locals := 22 }
def X10_row (v1 : Int32) (h : AH) : Option (Int32 × AH) :=
    bd (X10_outside v1 0 99 h) fun r1 h2 =>
    bd (X10_outside (h2.1 0 8) 0 11 h2) fun r3 h4 =>
    bd (X10_first r1 r3 h4) fun r5 h6 =>
    if r5 = 0 then (ck (h6.1 0 8) 12 (vl (sI h6 3 (h6.1 0 8).toNatClampNeg v1) fun h7 =>
    vl (sI h7 0 8 ((h7.1 0 8) + 1)) fun h8 =>
    some ((h8.1 0 8), h8)))
    else (bd (X10_refuse r5 h6) fun r9 h10 =>
    some (r9, h10))
set_option maxRecDepth 100000 in
theorem c_X10_row (l : Launch) (v1 : Int32) : MC l yX10_row cX10_row 3 (some .int) rmX10_row ZC [.ref 0, .int v1] rvI (X10_row v1) :=
  MC.of (own := RX10) pn_RX10 rfl (Nat.le_of_ble_eq_true rfl) fun X yd A h _ C =>
    aw_iload_n (pc := 0) C (i := 1) dK_b_3.1 rfl rfl <|
    aw_iconst (pc := 1) C (v := 0) dK_b_3.2.1 rfl <|
    aw_bipush (pc := 2) C (v := 99) dK_b_3.2.2.1 rfl <|
    aw_callF (pc := 4) C (cr_S (rest := []) (F := (X10_outside v1 0 99)) C (c_X10_outside X.2.1 v1 0 99) dK_b_3.2.2.2.1 mf_X10_outside ml_X10_104 st_X10_outside ⟨(Nat.le_of_ble_eq_true rfl), (Nat.le_of_ble_eq_true rfl)⟩ rfl rfl (Nat.le_of_ble_eq_true rfl)) rfl rfl rfl (Nat.zero_le _) (Nat.zero_le _) fun r1 h2 =>
    aw_aload_n (pc := 7) C (i := 0) dK_b_3.2.2.2.2.1 rfl rfl <|
    aw_getI (pc := 8) C dK_b_3.2.2.2.2.2.1 fl_X10_327 sC_0 rfl <|
    aw_iconst (pc := 11) C (v := 0) dK_b_3.2.2.2.2.2.2.1 rfl <|
    aw_bipush (pc := 12) C (v := 11) dK_b_3.2.2.2.2.2.2.2.1 rfl <|
    aw_callF (pc := 14) C (cr_S (rest := [.int r1]) (F := (X10_outside (h2.1 0 8) 0 11)) C (c_X10_outside X.2.1 (h2.1 0 8) 0 11) dK_b_4.1 mf_X10_outside ml_X10_104 st_X10_outside ⟨(Nat.le_of_ble_eq_true rfl), (Nat.le_of_ble_eq_true rfl)⟩ rfl rfl (Nat.le_of_ble_eq_true rfl)) rfl rfl rfl (Nat.zero_le _) (Nat.zero_le _) fun r3 h4 =>
    aw_callF (pc := 17) C (cr_S (rest := []) (F := (X10_first r1 r3)) C (c_X10_first X.2.1 r1 r3) dK_b_4.2.1 mf_X10_first ml_X10_97 st_X10_first ⟨(Nat.le_of_ble_eq_true rfl), (Nat.le_of_ble_eq_true rfl)⟩ rfl rfl (Nat.le_of_ble_eq_true rfl)) rfl rfl rfl (Nat.zero_le _) (Nat.zero_le _) fun r5 h6 =>
    aw_istore_n (pc := 20) C (i := 2) (lv' := [(0, .ref 0), (1, .int v1), (2, .int r5)]) dK_b_4.2.2.1 rfl (by decide) rfl <|
    aw_iload_n (pc := 21) C (i := 2) dK_b_4.2.2.2.1 rfl rfl <|
    aw_if_eq (pc := 22) C (tgt := 31) dK_b_4.2.2.2.2.1 rfl (fun _ =>
    aw_aload_n (pc := 31) C (i := 0) dK_b_5.2.1 rfl rfl <|
    aw_getR (pc := 32) C (b := 3) dK_b_5.2.2.1 fl_X10_19 sC_0 rfl rC_0_7 <|
    aw_aload_n (pc := 35) C (i := 0) dK_b_5.2.2.2.1 rfl rfl <|
    aw_getI (pc := 36) C dK_b_5.2.2.2.2.1 fl_X10_327 sC_0 rfl <|
    aw_iload_n (pc := 39) C (i := 1) dK_b_5.2.2.2.2.2.1 rfl rfl <|
    aw_iast (pc := 40) C dK_b_5.2.2.2.2.2.2.1 sC_3 rfl fun h7 =>
    aw_aload_n (pc := 41) C (i := 0) dK_b_5.2.2.2.2.2.2.2.1 rfl rfl <|
    aw_dup (pc := 42) C dK_b_6.1 rfl <|
    aw_getI (pc := 43) C dK_b_6.2.1 fl_X10_327 sC_0 rfl <|
    aw_iconst (pc := 46) C (v := 1) dK_b_6.2.2.1 rfl <|
    aw_iadd (pc := 47) C dK_b_6.2.2.2.1 <|
    aw_putI (pc := 48) C dK_b_6.2.2.2.2.1 fp_X10_327 sC_0 rfl fun h8 =>
    aw_aload_n (pc := 51) C (i := 0) dK_b_6.2.2.2.2.2.1 rfl rfl <|
    aw_getI (pc := 52) C dK_b_6.2.2.2.2.2.2.1 fl_X10_327 sC_0 rfl <|
    aw_iret (pc := 55) C dK_b_6.2.2.2.2.2.2.2.1 rfl rfl) (fun _ =>
    aw_aload_n (pc := 25) C (i := 0) dK_b_4.2.2.2.2.2.1 rfl rfl <|
    aw_iload_n (pc := 26) C (i := 2) dK_b_4.2.2.2.2.2.2.1 rfl rfl <|
    aw_callF (pc := 27) C (cr_V (rest := []) (F := (X10_refuse r5)) C (c_X10_refuse X.2.1 r5) dK_b_4.2.2.2.2.2.2.2.1 mf_X10_refuse ml_X10_111 im_X10_refuse se_X10_refuse sC_0 rfl ⟨(Nat.le_of_ble_eq_true rfl), (Nat.le_of_ble_eq_true rfl)⟩ rfl rfl (Nat.le_of_ble_eq_true rfl)) rfl rfl rfl (Nat.zero_le _) (Nat.zero_le _) fun r9 h10 =>
    aw_iret (pc := 30) C dK_b_5.1 rfl rfl)

abbrev rmX10_judged : Room := { frames := 5, cells := 0, slots := 0, locals := 138 }
def X10_judged_j54  (v1 : Int32) (v2 : Int32) (K13 : Int32 → AH → Option (Int32 × AH)) (s0 : Int32) (h : AH) : Option (Int32 × AH) :=
    bd (X10_tryComes s0 h) fun r6 h7 =>
    if r6 = 0 then (some (v1, h7))
    else (bd (X5_leader 52 h7) fun r8 h9 =>
    if r8 = v2 then (vl (v1 + 1) fun x10 =>
    K13 x10 h9)
    else (some (v1, h9)))
set_option maxRecDepth 100000 in
theorem aX10_judged_j54 {X : MCx} {yd : Dyn} {A : Nat → Prop} (C : OK X cX10_judged RX10 4 (some .int) rmX10_judged A)  (v1 : Int32) (v2 : Int32) (K13 : Int32 → AH → Option (Int32 × AH)) (hK13 : ∀ (w1 : Int32) (h : AH), AW X 4 ZC yd A 0 0 (QF X rmX10_judged ZC yd rvI A) 13 [(0, .ref 0), (1, .int w1)] [] h (K13 w1 h)) (s0 : Int32) (h : AH) : AW X 4 ZC yd A 0 0 (QF X rmX10_judged ZC yd rvI A) 54 [(0, .ref 0), (1, .int v1), (2, .int v2)] [.int s0, .ref 0] h (X10_judged_j54 v1 v2 K13 s0 h) := by
    exact aw_callF (pc := 54) C (cr_V (rest := []) (F := (X10_tryComes s0)) C (c_X10_tryComes X.2.1 s0) dK_b_11.2.2.2.2.2.2.1 mf_X10_tryComes ml_X10_154 im_X10_tryComes se_X10_tryComes sC_0 rfl ⟨(Nat.le_of_ble_eq_true rfl), (Nat.le_of_ble_eq_true rfl)⟩ rfl rfl (Nat.le_of_ble_eq_true rfl)) rfl rfl rfl (Nat.zero_le _) (Nat.zero_le _) fun r6 h7 =>
    aw_if_eq (pc := 57) C (tgt := 75) dK_b_11.2.2.2.2.2.2.2.1 rfl (fun _ =>
    aw_iload_n (pc := 75) C (i := 1) dK_b_12.2.2.2.2.2.2.2.1 rfl rfl <|
    aw_iret (pc := 76) C dK_b_13.1 rfl rfl) (fun _ =>
    aw_aload_n (pc := 60) C (i := 0) dK_b_12.1 rfl rfl <|
    aw_getR (pc := 61) C (b := 52) dK_b_12.2.1 fl_X10_76 sC_0 rfl rC_0_2 <|
    aw_aload_n (pc := 64) C (i := 0) dK_b_12.2.2.1 rfl rfl <|
    aw_getR (pc := 65) C (b := 5) dK_b_12.2.2.2.1 fl_X10_28 sC_0 rfl rC_0_10 <|
    aw_callF (pc := 68) C (cr_V (rest := []) (F := (X5_leader 52)) C (c_X5_leader X.2.1 52 (Or.inr (Or.inl rfl))) dK_b_12.2.2.2.2.1 mf_X5_leader ml_X10_317 im_X5_leader se_X5_leader (mt_s (Or.inr (Or.inl rfl))) rfl ⟨(Nat.le_of_ble_eq_true rfl), (Nat.le_of_ble_eq_true rfl)⟩ rfl rfl (Nat.le_of_ble_eq_true rfl)) rfl rfl rfl (Nat.zero_le _) (Nat.zero_le _) fun r8 h9 =>
    aw_iload_n (pc := 71) C (i := 2) dK_b_12.2.2.2.2.2.1 rfl rfl <|
    aw_icmp_eq (pc := 72) C (tgt := 77) dK_b_12.2.2.2.2.2.2.1 rfl (fun _ =>
    aw_iincV (pc := 77) C (i := 1) (cst := 1) (fun x10 => [(0, .ref 0), (1, .int x10), (2, .int v2)]) dK_b_13.2.1 rfl rfl (by decide) (fun _ => rfl) fun x10 =>
    aw_goto (pc := 80) C (tgt := 13) dK_b_13.2.2.1 rfl <|
    aw_drop [0, 1] (hK13 x10 h9)) (fun _ =>
    aw_iload_n (pc := 75) C (i := 1) dK_b_12.2.2.2.2.2.2.2.1 rfl rfl <|
    aw_iret (pc := 76) C dK_b_13.1 rfl rfl))
def X10_judged_l13  : Nat → Int32 → AH → Option (Int32 × AH)
  | 0, _, _ => none
  | n + 1, v1, h =>
    if (h.1 0 8) ≤ v1 then (some ((-9), h))
    else (bd (X5_leader 52 h) fun r3 h4 =>
    ck v1 12 (vl ((h4.1 3 v1.toNatClampNeg) - 50) fun x5 =>
    if 0 ≤ x5 then (X10_judged_j54 v1 r3 (X10_judged_l13 n) x5 h4)
    else (X10_judged_j54 v1 r3 (X10_judged_l13 n) (-9) h4)))
set_option maxRecDepth 100000 in
theorem aX10_judged_l13 {X : MCx} {yd : Dyn} {A : Nat → Prop} (C : OK X cX10_judged RX10 4 (some .int) rmX10_judged A)  : ∀ (n : Nat) (v1 : Int32) (h : AH), AW X 4 ZC yd A 0 0 (QF X rmX10_judged ZC yd rvI A) 13 [(0, .ref 0), (1, .int v1)] [] h (X10_judged_l13 n v1 h) := by
  intro n
  induction n with
  | zero => intro v1 h; exact aw_none
  | succ n ih =>
    intro v1 h
    exact aw_iload_n (pc := 13) C (i := 1) dK_b_8.2.2.2.2.2.2.2.1 rfl rfl <|
    aw_aload_n (pc := 14) C (i := 0) dK_b_9.1 rfl rfl <|
    aw_getI (pc := 15) C dK_b_9.2.1 fl_X10_327 sC_0 rfl <|
    aw_icmp_ge (pc := 18) C (tgt := 83) dK_b_9.2.2.1 rfl (fun _ =>
    aw_bipush (pc := 83) C (v := (-9)) dK_b_13.2.2.2.1 rfl <|
    aw_iret (pc := 85) C dK_b_13.2.2.2.2.1 rfl rfl) (fun _ =>
    aw_aload_n (pc := 21) C (i := 0) dK_b_9.2.2.2.1 rfl rfl <|
    aw_getR (pc := 22) C (b := 52) dK_b_9.2.2.2.2.1 fl_X10_76 sC_0 rfl rC_0_2 <|
    aw_aload_n (pc := 25) C (i := 0) dK_b_9.2.2.2.2.2.1 rfl rfl <|
    aw_getR (pc := 26) C (b := 5) dK_b_9.2.2.2.2.2.2.1 fl_X10_28 sC_0 rfl rC_0_10 <|
    aw_callF (pc := 29) C (cr_V (rest := []) (F := (X5_leader 52)) C (c_X5_leader X.2.1 52 (Or.inr (Or.inl rfl))) dK_b_9.2.2.2.2.2.2.2.1 mf_X5_leader ml_X10_317 im_X5_leader se_X5_leader (mt_s (Or.inr (Or.inl rfl))) rfl ⟨(Nat.le_of_ble_eq_true rfl), (Nat.le_of_ble_eq_true rfl)⟩ rfl rfl (Nat.le_of_ble_eq_true rfl)) rfl rfl rfl (Nat.zero_le _) (Nat.zero_le _) fun r3 h4 =>
    aw_istore_n (pc := 32) C (i := 2) (lv' := [(0, .ref 0), (1, .int v1), (2, .int r3)]) dK_b_10.1 rfl (by decide) rfl <|
    aw_aload_n (pc := 33) C (i := 0) dK_b_10.2.1 rfl rfl <|
    aw_getR (pc := 34) C (b := 3) dK_b_10.2.2.1 fl_X10_19 sC_0 rfl rC_0_7 <|
    aw_iload_n (pc := 37) C (i := 1) dK_b_10.2.2.2.1 rfl rfl <|
    aw_iald (pc := 38) C dK_b_10.2.2.2.2.1 sC_3 rfl <|
    aw_bipush (pc := 39) C (v := 50) dK_b_10.2.2.2.2.2.1 rfl <|
    aw_isub (pc := 41) C dK_b_10.2.2.2.2.2.2.1 <|
    aw_istoreV_n (pc := 42) C (i := 3) (fun x5 => [(0, .ref 0), (1, .int v1), (2, .int r3), (3, .int x5)]) dK_b_10.2.2.2.2.2.2.2.1 rfl (by decide) (fun _ => rfl) fun x5 =>
    aw_aload_n (pc := 43) C (i := 0) dK_b_11.1 rfl rfl <|
    aw_iload_n (pc := 44) C (i := 3) dK_b_11.2.1 rfl rfl <|
    aw_if_ge (pc := 45) C (tgt := 53) dK_b_11.2.2.1 rfl (fun _ =>
    aw_iload_n (pc := 53) C (i := 3) dK_b_11.2.2.2.2.2.1 rfl rfl <|
    aw_drop [0, 1, 2] (aX10_judged_j54 C v1 r3 (X10_judged_l13 n) ih x5 h4)) (fun _ =>
    aw_bipush (pc := 48) C (v := (-9)) dK_b_11.2.2.2.1 rfl <|
    aw_goto (pc := 50) C (tgt := 54) dK_b_11.2.2.2.2.1 rfl <|
    aw_drop [0, 1, 2] (aX10_judged_j54 C v1 r3 (X10_judged_l13 n) ih (-9) h4)))
def X10_judged  (h : AH) : Option (Int32 × AH) :=
    bd (X5_copyFrom 52 42 h) fun _ h2 =>
    X10_judged_l13 FU 0 h2
set_option maxRecDepth 100000 in
theorem c_X10_judged (l : Launch)  : MC l yX10_judged cX10_judged 4 (some .int) rmX10_judged ZC [.ref 0] rvI (X10_judged) :=
  MC.of (own := RX10) pn_RX10 rfl (Nat.le_of_ble_eq_true rfl) fun X yd A h _ C =>
    aw_aload_n (pc := 0) C (i := 0) dK_b_8.1 rfl rfl <|
    aw_getR (pc := 1) C (b := 52) dK_b_8.2.1 fl_X10_76 sC_0 rfl rC_0_2 <|
    aw_aload_n (pc := 4) C (i := 0) dK_b_8.2.2.1 rfl rfl <|
    aw_getR (pc := 5) C (b := 42) dK_b_8.2.2.2.1 fl_X10_72 sC_0 rfl rC_0_1 <|
    aw_callF (pc := 8) C (cr_V (rest := []) (F := (X5_copyFrom 52 42)) C (c_X5_copyFrom X.2.1 52 (Or.inr (Or.inl rfl)) 42 (Or.inl rfl)) dK_b_8.2.2.2.2.1 mf_X5_copyFrom ml_X10_121 im_X5_copyFrom se_X5_copyFrom (mt_s (Or.inr (Or.inl rfl))) rfl ⟨(Nat.le_of_ble_eq_true rfl), (Nat.le_of_ble_eq_true rfl)⟩ rfl rfl (Nat.le_of_ble_eq_true rfl)) rfl rfl rfl (Nat.zero_le _) (Nat.zero_le _) fun _ h2 =>
    aw_iconst (pc := 11) C (v := 0) dK_b_8.2.2.2.2.2.1 rfl <|
    aw_istore_n (pc := 12) C (i := 1) (lv' := [(0, .ref 0), (1, .int 0)]) dK_b_8.2.2.2.2.2.2.1 rfl (by decide) rfl <|
    (aX10_judged_l13 C FU 0 h2)

abbrev rmX10_judge : Room := { frames := 6, cells := 0, slots := 0, locals := 161 }
def X10_judge  (h : AH) : Option (Int32 × AH) :=
    bd (X10_judged h) fun r1 h2 =>
    vl (sI h2 0 8 0) fun h3 =>
    some (r1, h3)
set_option maxRecDepth 100000 in
theorem c_X10_judge (l : Launch)  : MC l yX10_judge cX10_judge 2 (some .int) rmX10_judge ZC [.ref 0] rvI (X10_judge) :=
  MC.of (own := RX10) pn_RX10 rfl (Nat.le_of_ble_eq_true rfl) fun X yd A h _ C =>
    aw_aload_n (pc := 0) C (i := 0) dK_b_7.1 rfl rfl <|
    aw_callF (pc := 1) C (cr_V (rest := []) (F := X10_judged) C (c_X10_judged X.2.1 ) dK_b_7.2.1 mf_X10_judged ml_X10_342 im_X10_judged se_X10_judged sC_0 rfl ⟨(Nat.le_of_ble_eq_true rfl), (Nat.le_of_ble_eq_true rfl)⟩ rfl rfl (Nat.le_of_ble_eq_true rfl)) rfl rfl rfl (Nat.zero_le _) (Nat.zero_le _) fun r1 h2 =>
    aw_istore_n (pc := 4) C (i := 1) (lv' := [(0, .ref 0), (1, .int r1)]) dK_b_7.2.2.1 rfl (by decide) rfl <|
    aw_aload_n (pc := 5) C (i := 0) dK_b_7.2.2.2.1 rfl rfl <|
    aw_iconst (pc := 6) C (v := 0) dK_b_7.2.2.2.2.1 rfl <|
    aw_putI (pc := 7) C dK_b_7.2.2.2.2.2.1 fp_X10_327 sC_0 rfl fun h3 =>
    aw_iload_n (pc := 10) C (i := 1) dK_b_7.2.2.2.2.2.2.1 rfl rfl <|
    aw_iret (pc := 11) C dK_b_7.2.2.2.2.2.2.2.1 rfl rfl

abbrev rmX10_clear : Room := { frames := 0, cells := 0, slots := 0, locals := 0 }
def X10_clear  (h : AH) : Option (Int32 × AH) :=
    vl (h.1 0 8) fun x1 =>
    vl (sI h 0 8 0) fun h2 =>
    some (x1, h2)
set_option maxRecDepth 100000 in
theorem c_X10_clear (l : Launch)  : MC l yX10_clear cX10_clear 2 (some .int) rmX10_clear ZC [.ref 0] rvI (X10_clear) :=
  MC.of (own := RX10) pn_RX10 rfl (Nat.le_of_ble_eq_true rfl) fun X yd A h _ C =>
    aw_aload_n (pc := 0) C (i := 0) dK_b_14.1 rfl rfl <|
    aw_getI (pc := 1) C dK_b_14.2.1 fl_X10_327 sC_0 rfl <|
    aw_istoreV_n (pc := 4) C (i := 1) (fun x1 => [(0, .ref 0), (1, .int x1)]) dK_b_14.2.2.1 rfl (by decide) (fun _ => rfl) fun x1 =>
    aw_aload_n (pc := 5) C (i := 0) dK_b_14.2.2.2.1 rfl rfl <|
    aw_iconst (pc := 6) C (v := 0) dK_b_14.2.2.2.2.1 rfl <|
    aw_putI (pc := 7) C dK_b_14.2.2.2.2.2.1 fp_X10_327 sC_0 rfl fun h2 =>
    aw_iload_n (pc := 10) C (i := 1) dK_b_14.2.2.2.2.2.2.1 rfl rfl <|
    aw_iret (pc := 11) C dK_b_14.2.2.2.2.2.2.2.1 rfl rfl

abbrev rmX10_drawBelow : Room := { frames := 0, cells := 0, slots := 0, locals := 0 }
def X10_drawBelow (v1 : Int32) (h : AH) : Option (Int32 × AH) :=
    vl (sI h 0 17 (((h.1 0 17) * 1103515245) + 12345)) fun h1 =>
    if 0 < v1 then (if v1 = 0 then none else (some ((rm32 (((h1.1 0 17) &&& 2147483647) / 65536) v1), h1)))
    else (some (0, h1))
set_option maxRecDepth 100000 in
theorem c_X10_drawBelow (l : Launch) (v1 : Int32) : MC l yX10_drawBelow cX10_drawBelow 2 (some .int) rmX10_drawBelow ZC [.ref 0, .int v1] rvI (X10_drawBelow v1) :=
  MC.of (own := RX10) pn_RX10 rfl (Nat.le_of_ble_eq_true rfl) fun X yd A h _ C =>
    aw_aload_n (pc := 0) C (i := 0) dK_b_39.1 rfl rfl <|
    aw_aload_n (pc := 1) C (i := 0) dK_b_39.2.1 rfl rfl <|
    aw_getI (pc := 2) C dK_b_39.2.2.1 fl_X10_345 sC_0 rfl <|
    aw_ldc_w (pc := 5) C (v := 1103515245) dK_b_39.2.2.2.1 kc_X10_364 <|
    aw_imul (pc := 8) C dK_b_39.2.2.2.2.1 <|
    aw_sipush (pc := 9) C (v := 12345) dK_b_39.2.2.2.2.2.1 rfl <|
    aw_iadd (pc := 12) C dK_b_39.2.2.2.2.2.2.1 <|
    aw_putI (pc := 13) C dK_b_39.2.2.2.2.2.2.2.1 fp_X10_345 sC_0 rfl fun h1 =>
    aw_iload_n (pc := 16) C (i := 1) dK_b_40.1 rfl rfl <|
    aw_if_gt (pc := 17) C (tgt := 24) dK_b_40.2.1 rfl (fun _ =>
    aw_aload_n (pc := 24) C (i := 0) dK_b_40.2.2.2.2.1 rfl rfl <|
    aw_getI (pc := 25) C dK_b_40.2.2.2.2.2.1 fl_X10_345 sC_0 rfl <|
    aw_ldc_w (pc := 28) C (v := 2147483647) dK_b_40.2.2.2.2.2.2.1 kc_X10_365 <|
    aw_iand (pc := 31) C dK_b_40.2.2.2.2.2.2.2.1 <|
    aw_ldc_w (pc := 32) C (v := 65536) dK_b_41.1 kc_X10_366 <|
    aw_idivK (pc := 35) C dK_b_41.2.1 (by decide) <|
    aw_iload_n (pc := 36) C (i := 1) dK_b_41.2.2.1 rfl rfl <|
    aw_irem (pc := 37) C dK_b_41.2.2.2.1 <|
    aw_iret (pc := 38) C dK_b_41.2.2.2.2.1 rfl rfl) (fun _ =>
    aw_iconst (pc := 20) C (v := 0) dK_b_40.2.2.1 rfl <|
    aw_goto (pc := 21) C (tgt := 38) dK_b_40.2.2.2.1 rfl <|
    aw_iret (pc := 38) C dK_b_41.2.2.2.2.1 rfl rfl)

abbrev rmX10_runByDraws : Room := { frames := 4, cells := 0, slots := 0, locals := 99 }
def X10_runByDraws_j154  (v4 : Int32) (s0 : Int32) (s1 : Int32) (h : AH) : Option (Int32 × AH) :=
    bd (X5_record 52 s1 s0 v4 h) fun r7 h8 =>
    some (r7, h8)
set_option maxRecDepth 100000 in
theorem aX10_runByDraws_j154 {X : MCx} {yd : Dyn} {A : Nat → Prop} (C : OK X cX10_runByDraws RX10 7 (some .int) rmX10_runByDraws A)  (v4 : Int32) (s0 : Int32) (s1 : Int32) (h : AH) : AW X 7 ZC yd A 0 0 (QF X rmX10_runByDraws ZC yd rvI A) 154 [(4, .int v4)] [.int s0, .int s1, .ref 52] h (X10_runByDraws_j154 v4 s0 s1 h) := by
    exact aw_iload (pc := 154) C (i := 4) dK_b_38.2.2.1 rfl <|
    aw_callF (pc := 156) C (cr_V (rest := []) (F := (X5_record 52 s1 s0 v4)) C (c_X5_record X.2.1 52 (Or.inr (Or.inl rfl)) s1 s0 v4) dK_b_38.2.2.2.1 mf_X5_record ml_X10_205 im_X5_record se_X5_record (mt_s (Or.inr (Or.inl rfl))) rfl ⟨(Nat.le_of_ble_eq_true rfl), (Nat.le_of_ble_eq_true rfl)⟩ rfl rfl (Nat.le_of_ble_eq_true rfl)) rfl rfl rfl (Nat.zero_le _) (Nat.zero_le _) fun r7 h8 =>
    aw_iret (pc := 159) C dK_b_38.2.2.2.2.1 rfl rfl
def X10_runByDraws_j131  (v1 : Int32) (v2 : Nat) (v4 : Int32) (v5 : Int32) (K39 : Int32 → Int32 → Int32 → AH → Option (Int32 × AH)) (s0 : Int32) (s1 : Int32) (h : AH) : Option (Int32 × AH) :=
    vl (s1 - s0) fun x11 =>
    vl (v5 + 1) fun x12 =>
    K39 x11 v4 x12 h
set_option maxRecDepth 100000 in
theorem aX10_runByDraws_j131 {X : MCx} {yd : Dyn} {A : Nat → Prop} (C : OK X cX10_runByDraws RX10 7 (some .int) rmX10_runByDraws A)  (v1 : Int32) (v2 : Nat) (hs2 : ZC.1[v2]? = some (.inr 2)) (v4 : Int32) (v5 : Int32) (K39 : Int32 → Int32 → Int32 → AH → Option (Int32 × AH)) (hK39 : ∀ (w3 : Int32) (w4 : Int32) (w5 : Int32) (h : AH), AW X 7 ZC yd A 0 0 (QF X rmX10_runByDraws ZC yd rvI A) 39 [(0, .ref 0), (1, .int v1), (2, .ref v2), (3, .int w3), (4, .int w4), (5, .int w5)] [] h (K39 w3 w4 w5 h)) (s0 : Int32) (s1 : Int32) (h : AH) : AW X 7 ZC yd A 0 0 (QF X rmX10_runByDraws ZC yd rvI A) 131 [(0, .ref 0), (1, .int v1), (2, .ref v2), (4, .int v4), (5, .int v5)] [.int s0, .int s1] h (X10_runByDraws_j131 v1 v2 v4 v5 K39 s0 s1 h) := by
    exact aw_isub (pc := 131) C dK_b_36.2.2.2.2.2.2.1 <|
    aw_istoreV_n (pc := 132) C (i := 3) (fun x11 => [(0, .ref 0), (1, .int v1), (2, .ref v2), (3, .int x11), (4, .int v4), (5, .int v5)]) dK_b_36.2.2.2.2.2.2.2.1 rfl (by decide) (fun _ => rfl) fun x11 =>
    aw_iincV (pc := 133) C (i := 5) (cst := 1) (fun x12 => [(0, .ref 0), (1, .int v1), (2, .ref v2), (3, .int x11), (4, .int v4), (5, .int x12)]) dK_b_37.1 rfl rfl (by decide) (fun _ => rfl) fun x12 =>
    aw_goto (pc := 136) C (tgt := 39) dK_b_37.2.1 rfl <|
    (hK39 x11 v4 x12 h)
def X10_runByDraws_j96  (v1 : Int32) (v2 : Nat) (v3 : Int32) (v4 : Int32) (v5 : Int32) (K39 : Int32 → Int32 → Int32 → AH → Option (Int32 × AH)) (h : AH) : Option (Int32 × AH) :=
    bd (X10_drawBelow 4 h) fun r9 h10 =>
    if r9 = 0 then (X10_runByDraws_j131 v1 v2 v4 v5 K39 (h10.1 v2 5) v3 h10)
    else (if r9 = 3 then (X10_runByDraws_j131 v1 v2 v4 v5 K39 (-(h10.1 v2 5)) v3 h10)
    else (X10_runByDraws_j131 v1 v2 v4 v5 K39 0 v3 h10))
set_option maxRecDepth 100000 in
theorem aX10_runByDraws_j96 {X : MCx} {yd : Dyn} {A : Nat → Prop} (C : OK X cX10_runByDraws RX10 7 (some .int) rmX10_runByDraws A)  (v1 : Int32) (v2 : Nat) (hs2 : ZC.1[v2]? = some (.inr 2)) (v3 : Int32) (v4 : Int32) (v5 : Int32) (K39 : Int32 → Int32 → Int32 → AH → Option (Int32 × AH)) (hK39 : ∀ (w3 : Int32) (w4 : Int32) (w5 : Int32) (h : AH), AW X 7 ZC yd A 0 0 (QF X rmX10_runByDraws ZC yd rvI A) 39 [(0, .ref 0), (1, .int v1), (2, .ref v2), (3, .int w3), (4, .int w4), (5, .int w5)] [] h (K39 w3 w4 w5 h)) (h : AH) : AW X 7 ZC yd A 0 0 (QF X rmX10_runByDraws ZC yd rvI A) 96 [(0, .ref 0), (1, .int v1), (2, .ref v2), (3, .int v3), (4, .int v4), (5, .int v5)] [] h (X10_runByDraws_j96 v1 v2 v3 v4 v5 K39 h) := by
    exact aw_aload_n (pc := 96) C (i := 0) dK_b_34.2.2.2.2.1 rfl rfl <|
    aw_iconst (pc := 97) C (v := 4) dK_b_34.2.2.2.2.2.1 rfl <|
    aw_callF (pc := 98) C (cr_V (rest := []) (F := (X10_drawBelow 4)) C (c_X10_drawBelow X.2.1 4) dK_b_34.2.2.2.2.2.2.1 mf_X10_drawBelow ml_X10_361 im_X10_drawBelow se_X10_drawBelow sC_0 rfl ⟨(Nat.le_of_ble_eq_true rfl), (Nat.le_of_ble_eq_true rfl)⟩ rfl rfl (Nat.le_of_ble_eq_true rfl)) rfl rfl rfl (Nat.zero_le _) (Nat.zero_le _) fun r9 h10 =>
    aw_istore (pc := 101) C (i := 6) (lv' := [(0, .ref 0), (1, .int v1), (2, .ref v2), (3, .int v3), (4, .int v4), (5, .int v5), (6, .int r9)]) dK_b_34.2.2.2.2.2.2.2.1 (by decide) rfl <|
    aw_iload_n (pc := 103) C (i := 3) dK_b_35.1 rfl rfl <|
    aw_iload (pc := 104) C (i := 6) dK_b_35.2.1 rfl <|
    aw_if_ne (pc := 106) C (tgt := 116) dK_b_35.2.2.1 rfl (fun _ =>
    aw_aload_n (pc := 109) C (i := 2) dK_b_35.2.2.2.1 rfl rfl <|
    aw_getI (pc := 110) C dK_b_35.2.2.2.2.1 fl_X10_189 hs2 rfl <|
    aw_goto (pc := 113) C (tgt := 131) dK_b_35.2.2.2.2.2.1 rfl <|
    aw_drop [0, 1, 2, 4, 5] (aX10_runByDraws_j131 C v1 v2 hs2 v4 v5 K39 hK39 (h10.1 v2 5) v3 h10)) (fun _ =>
    aw_iload (pc := 116) C (i := 6) dK_b_35.2.2.2.2.2.2.1 rfl <|
    aw_iconst (pc := 118) C (v := 3) dK_b_35.2.2.2.2.2.2.2.1 rfl <|
    aw_icmp_ne (pc := 119) C (tgt := 130) dK_b_36.1 rfl (fun _ =>
    aw_aload_n (pc := 122) C (i := 2) dK_b_36.2.1 rfl rfl <|
    aw_getI (pc := 123) C dK_b_36.2.2.1 fl_X10_189 hs2 rfl <|
    aw_ineg (pc := 126) C dK_b_36.2.2.2.1 <|
    aw_goto (pc := 127) C (tgt := 131) dK_b_36.2.2.2.2.1 rfl <|
    aw_drop [0, 1, 2, 4, 5] (aX10_runByDraws_j131 C v1 v2 hs2 v4 v5 K39 hK39 (-(h10.1 v2 5)) v3 h10)) (fun _ =>
    aw_iconst (pc := 130) C (v := 0) dK_b_36.2.2.2.2.2.1 rfl <|
    aw_drop [0, 1, 2, 4, 5] (aX10_runByDraws_j131 C v1 v2 hs2 v4 v5 K39 hK39 0 v3 h10)))
def X10_runByDraws_l39  (v1 : Int32) (v2 : Nat) : Nat → Int32 → Int32 → Int32 → AH → Option (Int32 × AH)
  | 0, _, _, _, _ => none
  | n + 1, v3, v4, v5, h =>
    if (h.1 52 0) ≤ v5 then (if 0 ≤ v3 then (X10_runByDraws_j154 v4 v3 v1 h)
    else (X10_runByDraws_j154 v4 (-9) v1 h))
    else (if ((h.1 52 0) - v5) = (h.1 v2 7) then (bd (kd (h.2.2 v2) (X3_aimOf v2 h) (X7_aimOf v2 h) (X0_aimOf v2 h) (X4_aimOf v2 h) (X0_aimOf v2 h) (X8_aimOf v2 h)) fun r13 h14 =>
    vl ((v3 - r13) / 2) fun x15 =>
    vl (v3 - x15) fun x16 =>
    vl ((ab32 x15) / 4) fun x17 =>
    X10_runByDraws_j96 v1 v2 x16 x17 v5 (X10_runByDraws_l39 v1 v2 n) h14)
    else (X10_runByDraws_j96 v1 v2 v3 v4 v5 (X10_runByDraws_l39 v1 v2 n) h))
set_option maxRecDepth 100000 in
theorem aX10_runByDraws_l39 {X : MCx} {yd : Dyn} {A : Nat → Prop} (C : OK X cX10_runByDraws RX10 7 (some .int) rmX10_runByDraws A)  (v1 : Int32) (v2 : Nat) (hs2 : ZC.1[v2]? = some (.inr 2)) : ∀ (n : Nat) (v3 : Int32) (v4 : Int32) (v5 : Int32) (h : AH), AW X 7 ZC yd A 0 0 (QF X rmX10_runByDraws ZC yd rvI A) 39 [(0, .ref 0), (1, .int v1), (2, .ref v2), (3, .int v3), (4, .int v4), (5, .int v5)] [] h (X10_runByDraws_l39 v1 v2 n v3 v4 v5 h) := by
  intro n
  induction n with
  | zero => intro v3 v4 v5 h; exact aw_none
  | succ n ih =>
    intro v3 v4 v5 h
    exact aw_iload (pc := 39) C (i := 5) dK_b_30.2.2.2.2.2.1 rfl <|
    aw_aload_n (pc := 41) C (i := 0) dK_b_30.2.2.2.2.2.2.1 rfl rfl <|
    aw_getR (pc := 42) C (b := 52) dK_b_30.2.2.2.2.2.2.2.1 fl_X10_76 sC_0 rfl rC_0_2 <|
    aw_getI (pc := 45) C dK_b_31.1 fl_X10_163 (mt_s (Or.inr (Or.inl rfl))) rfl <|
    aw_icmp_ge (pc := 48) C (tgt := 139) dK_b_31.2.1 rfl (fun _ =>
    aw_aload_n (pc := 139) C (i := 0) dK_b_37.2.2.1 rfl rfl <|
    aw_getR (pc := 140) C (b := 52) dK_b_37.2.2.2.1 fl_X10_76 sC_0 rfl rC_0_2 <|
    aw_iload_n (pc := 143) C (i := 1) dK_b_37.2.2.2.2.1 rfl rfl <|
    aw_iload_n (pc := 144) C (i := 3) dK_b_37.2.2.2.2.2.1 rfl rfl <|
    aw_if_ge (pc := 145) C (tgt := 153) dK_b_37.2.2.2.2.2.2.1 rfl (fun _ =>
    aw_iload_n (pc := 153) C (i := 3) dK_b_38.2.1 rfl rfl <|
    aw_drop [4] (aX10_runByDraws_j154 C v4 v3 v1 h)) (fun _ =>
    aw_bipush (pc := 148) C (v := (-9)) dK_b_37.2.2.2.2.2.2.2.1 rfl <|
    aw_goto (pc := 150) C (tgt := 154) dK_b_38.1 rfl <|
    aw_drop [4] (aX10_runByDraws_j154 C v4 (-9) v1 h))) (fun _ =>
    aw_aload_n (pc := 51) C (i := 0) dK_b_31.2.2.1 rfl rfl <|
    aw_getR (pc := 52) C (b := 52) dK_b_31.2.2.2.1 fl_X10_76 sC_0 rfl rC_0_2 <|
    aw_getI (pc := 55) C dK_b_31.2.2.2.2.1 fl_X10_163 (mt_s (Or.inr (Or.inl rfl))) rfl <|
    aw_iload (pc := 58) C (i := 5) dK_b_31.2.2.2.2.2.1 rfl <|
    aw_isub (pc := 60) C dK_b_31.2.2.2.2.2.2.1 <|
    aw_aload_n (pc := 61) C (i := 2) dK_b_31.2.2.2.2.2.2.2.1 rfl rfl <|
    aw_getI (pc := 62) C dK_b_32.1 fl_X10_195 hs2 rfl <|
    aw_icmp_ne (pc := 65) C (tgt := 96) dK_b_32.2.1 rfl (fun _ =>
    aw_iload_n (pc := 68) C (i := 3) dK_b_32.2.2.1 rfl rfl <|
    aw_aload_n (pc := 69) C (i := 2) dK_b_32.2.2.2.1 rfl rfl <|
    aw_getW (pc := 70) C (b := (36 + h.2.2 v2 % 6)) dK_b_32.2.2.2.2.1 fl_X10_173 hs2 rfl rfl <|
    aw_aload_n (pc := 73) C (i := 2) dK_b_32.2.2.2.2.2.1 rfl rfl <|
    aw_callF (pc := 74) C (kdA_aimOf C dK_b_32.2.2.2.2.2.2.1 ml_X10_354 (h.2.2 v2) v2 hs2  [.int v3] ⟨⟨(Nat.le_of_ble_eq_true rfl), (Nat.le_of_ble_eq_true rfl)⟩, ⟨(Nat.le_of_ble_eq_true rfl), (Nat.le_of_ble_eq_true rfl)⟩, ⟨(Nat.le_of_ble_eq_true rfl), (Nat.le_of_ble_eq_true rfl)⟩, ⟨(Nat.le_of_ble_eq_true rfl), (Nat.le_of_ble_eq_true rfl)⟩, ⟨(Nat.le_of_ble_eq_true rfl), (Nat.le_of_ble_eq_true rfl)⟩, ⟨(Nat.le_of_ble_eq_true rfl), (Nat.le_of_ble_eq_true rfl)⟩⟩ (Nat.le_of_ble_eq_true rfl)) rfl rfl rfl (Nat.zero_le _) (Nat.zero_le _) fun r13 h14 =>
    aw_isub (pc := 77) C dK_b_32.2.2.2.2.2.2.2.1 <|
    aw_iconst (pc := 78) C (v := 2) dK_b_33.1 rfl <|
    aw_idivK (pc := 79) C dK_b_33.2.1 (by decide) <|
    aw_istoreV (pc := 80) C (i := 6) (fun x15 => [(0, .ref 0), (1, .int v1), (2, .ref v2), (3, .int v3), (4, .int v4), (5, .int v5), (6, .int x15)]) dK_b_33.2.2.1 (by decide) (fun _ => rfl) fun x15 =>
    aw_iload_n (pc := 82) C (i := 3) dK_b_33.2.2.2.1 rfl rfl <|
    aw_iload (pc := 83) C (i := 6) dK_b_33.2.2.2.2.1 rfl <|
    aw_isub (pc := 85) C dK_b_33.2.2.2.2.2.1 <|
    aw_istoreV_n (pc := 86) C (i := 3) (fun x16 => [(0, .ref 0), (1, .int v1), (2, .ref v2), (3, .int x16), (4, .int v4), (5, .int v5), (6, .int x15)]) dK_b_33.2.2.2.2.2.2.1 rfl (by decide) (fun _ => rfl) fun x16 =>
    aw_iload (pc := 87) C (i := 6) dK_b_33.2.2.2.2.2.2.2.1 rfl <|
    aw_mabs (pc := 89) C dK_b_34.1 ml_X10_358 w_mabsS w_mI w_mabsC ⟨(Nat.le_of_ble_eq_true rfl), (Nat.le_of_ble_eq_true rfl)⟩ (Nat.zero_le _) (Nat.zero_le _) <|
    aw_iconst (pc := 92) C (v := 4) dK_b_34.2.1 rfl <|
    aw_idivK (pc := 93) C dK_b_34.2.2.1 (by decide) <|
    aw_istoreV (pc := 94) C (i := 4) (fun x17 => [(0, .ref 0), (1, .int v1), (2, .ref v2), (3, .int x16), (4, .int x17), (5, .int v5), (6, .int x15)]) dK_b_34.2.2.2.1 (by decide) (fun _ => rfl) fun x17 =>
    aw_drop [0, 1, 2, 3, 4, 5] (aX10_runByDraws_j96 C v1 v2 hs2 x16 x17 v5 (X10_runByDraws_l39 v1 v2 n) ih h14)) (fun _ =>
    (aX10_runByDraws_j96 C v1 v2 hs2 v3 v4 v5 (X10_runByDraws_l39 v1 v2 n) ih h)))
def X10_runByDraws (v1 : Int32) (h : AH) : Option (Int32 × AH) :=
    bd (X5_at 52 v1 h) fun r1 h2 =>
    cs ZC r1 (.inr 2) (bd (X2_path r1 (h2.1 52 0) (h2.1 52 1) h2) fun r4 h5 =>
    vl ((h2.1 r1 8) - r4) fun x6 =>
    X10_runByDraws_l39 v1 r1 FU x6 0 0 h5)
set_option maxRecDepth 100000 in
theorem c_X10_runByDraws (l : Launch) (v1 : Int32) : MC l yX10_runByDraws cX10_runByDraws 7 (some .int) rmX10_runByDraws ZC [.ref 0, .int v1] rvI (X10_runByDraws v1) :=
  MC.of (own := RX10) pn_RX10 rfl (Nat.le_of_ble_eq_true rfl) fun X yd A h _ C =>
    aw_aload_n (pc := 0) C (i := 0) dK_b_28.1 rfl rfl <|
    aw_getR (pc := 1) C (b := 52) dK_b_28.2.1 fl_X10_76 sC_0 rfl rC_0_2 <|
    aw_iload_n (pc := 4) C (i := 1) dK_b_28.2.2.1 rfl rfl <|
    aw_callF (pc := 5) C (cr_V (rest := []) (F := (X5_at 52 v1)) C (c_X5_at X.2.1 52 (Or.inr (Or.inl rfl)) v1) dK_b_28.2.2.2.1 mf_X5_at ml_X10_169 im_X5_at se_X5_at (mt_s (Or.inr (Or.inl rfl))) rfl ⟨(Nat.le_of_ble_eq_true rfl), (Nat.le_of_ble_eq_true rfl)⟩ rfl rfl (Nat.le_of_ble_eq_true rfl)) rfl rfl rfl (Nat.zero_le _) (Nat.zero_le _) fun r1 h2 =>
    aw_cs fun hs3 =>
    aw_astore_n (pc := 8) C (i := 2) (lv' := [(0, .ref 0), (1, .int v1), (2, .ref r1)]) dK_b_28.2.2.2.2.1 rfl (by decide) rfl <|
    aw_aload_n (pc := 9) C (i := 2) dK_b_28.2.2.2.2.2.1 rfl rfl <|
    aw_getI (pc := 10) C dK_b_28.2.2.2.2.2.2.1 fl_X10_198 hs3 rfl <|
    aw_aload_n (pc := 13) C (i := 2) dK_b_28.2.2.2.2.2.2.2.1 rfl rfl <|
    aw_aload_n (pc := 14) C (i := 0) dK_b_29.1 rfl rfl <|
    aw_getR (pc := 15) C (b := 52) dK_b_29.2.1 fl_X10_76 sC_0 rfl rC_0_2 <|
    aw_getI (pc := 18) C dK_b_29.2.2.1 fl_X10_163 (mt_s (Or.inr (Or.inl rfl))) rfl <|
    aw_aload_n (pc := 21) C (i := 0) dK_b_29.2.2.2.1 rfl rfl <|
    aw_getR (pc := 22) C (b := 52) dK_b_29.2.2.2.2.1 fl_X10_76 sC_0 rfl rC_0_2 <|
    aw_getI (pc := 25) C dK_b_29.2.2.2.2.2.1 fl_X10_157 (mt_s (Or.inr (Or.inl rfl))) rfl <|
    aw_callF (pc := 28) C (cr_V (rest := [.int (h2.1 r1 8)]) (F := (X2_path r1 (h2.1 52 0) (h2.1 52 1))) C (c_X2_path X.2.1 r1 hs3 (h2.1 52 0) (h2.1 52 1)) dK_b_29.2.2.2.2.2.2.1 mf_X2_path ml_X10_232 im_X2_path se_X2_path hs3 rfl ⟨(Nat.le_of_ble_eq_true rfl), (Nat.le_of_ble_eq_true rfl)⟩ rfl rfl (Nat.le_of_ble_eq_true rfl)) rfl rfl rfl (Nat.zero_le _) (Nat.zero_le _) fun r4 h5 =>
    aw_isub (pc := 31) C dK_b_29.2.2.2.2.2.2.2.1 <|
    aw_istoreV_n (pc := 32) C (i := 3) (fun x6 => [(0, .ref 0), (1, .int v1), (2, .ref r1), (3, .int x6)]) dK_b_30.1 rfl (by decide) (fun _ => rfl) fun x6 =>
    aw_iconst (pc := 33) C (v := 0) dK_b_30.2.1 rfl <|
    aw_istore (pc := 34) C (i := 4) (lv' := [(0, .ref 0), (1, .int v1), (2, .ref r1), (3, .int x6), (4, .int 0)]) dK_b_30.2.2.1 (by decide) rfl <|
    aw_iconst (pc := 36) C (v := 0) dK_b_30.2.2.2.1 rfl <|
    aw_istore (pc := 37) C (i := 5) (lv' := [(0, .ref 0), (1, .int v1), (2, .ref r1), (3, .int x6), (4, .int 0), (5, .int 0)]) dK_b_30.2.2.2.2.1 (by decide) rfl <|
    (aX10_runByDraws_l39 C v1 r1 hs3 FU x6 0 0 h5)

abbrev rmX10_playToTheEnd : Room := { frames := 5, cells := 0, slots := 0, locals := 125 }
def X10_playToTheEnd_j55  (v1 : Int32) (v3 : Int32) (K4 : Int32 → Int32 → AH → Option (Int32 × AH)) (s0 : Int32) (s1 : Int32) (h : AH) : Option (Int32 × AH) :=
    vl (s1 + s0) fun x6 =>
    vl (v3 + 1) fun x7 =>
    K4 x6 x7 h
set_option maxRecDepth 100000 in
theorem aX10_playToTheEnd_j55 {X : MCx} {yd : Dyn} {A : Nat → Prop} (C : OK X cX10_playToTheEnd RX10 6 (some .int) rmX10_playToTheEnd A)  (v1 : Int32) (v3 : Int32) (K4 : Int32 → Int32 → AH → Option (Int32 × AH)) (hK4 : ∀ (w2 : Int32) (w3 : Int32) (h : AH), AW X 6 ZC yd A 0 0 (QF X rmX10_playToTheEnd ZC yd rvI A) 4 [(0, .ref 0), (1, .int v1), (2, .int w2), (3, .int w3)] [] h (K4 w2 w3 h)) (s0 : Int32) (s1 : Int32) (h : AH) : AW X 6 ZC yd A 0 0 (QF X rmX10_playToTheEnd ZC yd rvI A) 55 [(0, .ref 0), (1, .int v1), (3, .int v3)] [.int s0, .int s1] h (X10_playToTheEnd_j55 v1 v3 K4 s0 s1 h) := by
    exact aw_iadd (pc := 55) C dK_b_26.2.2.2.2.2.2.1 <|
    aw_istoreV_n (pc := 56) C (i := 2) (fun x6 => [(0, .ref 0), (1, .int v1), (2, .int x6), (3, .int v3)]) dK_b_26.2.2.2.2.2.2.2.1 rfl (by decide) (fun _ => rfl) fun x6 =>
    aw_iincV (pc := 57) C (i := 3) (cst := 1) (fun x7 => [(0, .ref 0), (1, .int v1), (2, .int x6), (3, .int x7)]) dK_b_27.1 rfl rfl (by decide) (fun _ => rfl) fun x7 =>
    aw_goto (pc := 60) C (tgt := 4) dK_b_27.2.1 rfl <|
    (hK4 x6 x7 h)
def X10_playToTheEnd_l4  (v1 : Int32) : Nat → Int32 → Int32 → AH → Option (Int32 × AH)
  | 0, _, _, _ => none
  | n + 1, v2, v3, h =>
    if 24 ≤ v3 then (some (v2, h))
    else (bd (X5_inTurn 52 h) fun r1 h2 =>
    if 0 ≤ r1 then (bd (X10_runByDraws r1 h2) fun r3 h4 =>
    vl (mx32 0 r3) fun x5 =>
    if r1 = v1 then (X10_playToTheEnd_j55 v1 v3 (X10_playToTheEnd_l4 v1 n) x5 v2 h4)
    else (X10_playToTheEnd_j55 v1 v3 (X10_playToTheEnd_l4 v1 n) 0 v2 h4))
    else (some (v2, h2)))
set_option maxRecDepth 100000 in
theorem aX10_playToTheEnd_l4 {X : MCx} {yd : Dyn} {A : Nat → Prop} (C : OK X cX10_playToTheEnd RX10 6 (some .int) rmX10_playToTheEnd A)  (v1 : Int32) : ∀ (n : Nat) (v2 : Int32) (v3 : Int32) (h : AH), AW X 6 ZC yd A 0 0 (QF X rmX10_playToTheEnd ZC yd rvI A) 4 [(0, .ref 0), (1, .int v1), (2, .int v2), (3, .int v3)] [] h (X10_playToTheEnd_l4 v1 n v2 v3 h) := by
  intro n
  induction n with
  | zero => intro v2 v3 h; exact aw_none
  | succ n ih =>
    intro v2 v3 h
    exact aw_iload_n (pc := 4) C (i := 3) dK_b_23.2.2.2.2.1 rfl rfl <|
    aw_bipush (pc := 5) C (v := 24) dK_b_23.2.2.2.2.2.1 rfl <|
    aw_icmp_ge (pc := 7) C (tgt := 63) dK_b_23.2.2.2.2.2.2.1 rfl (fun _ =>
    aw_iload_n (pc := 63) C (i := 2) dK_b_27.2.2.1 rfl rfl <|
    aw_iret (pc := 64) C dK_b_27.2.2.2.1 rfl rfl) (fun _ =>
    aw_aload_n (pc := 10) C (i := 0) dK_b_23.2.2.2.2.2.2.2.1 rfl rfl <|
    aw_getR (pc := 11) C (b := 52) dK_b_24.1 fl_X10_76 sC_0 rfl rC_0_2 <|
    aw_aload_n (pc := 14) C (i := 0) dK_b_24.2.1 rfl rfl <|
    aw_getR (pc := 15) C (b := 5) dK_b_24.2.2.1 fl_X10_28 sC_0 rfl rC_0_10 <|
    aw_callF (pc := 18) C (cr_V (rest := []) (F := (X5_inTurn 52)) C (c_X5_inTurn X.2.1 52 (Or.inr (Or.inl rfl))) dK_b_24.2.2.2.1 mf_X5_inTurn ml_X10_201 im_X5_inTurn se_X5_inTurn (mt_s (Or.inr (Or.inl rfl))) rfl ⟨(Nat.le_of_ble_eq_true rfl), (Nat.le_of_ble_eq_true rfl)⟩ rfl rfl (Nat.le_of_ble_eq_true rfl)) rfl rfl rfl (Nat.zero_le _) (Nat.zero_le _) fun r1 h2 =>
    aw_istore (pc := 21) C (i := 4) (lv' := [(0, .ref 0), (1, .int v1), (2, .int v2), (3, .int v3), (4, .int r1)]) dK_b_24.2.2.2.2.1 (by decide) rfl <|
    aw_iload (pc := 23) C (i := 4) dK_b_24.2.2.2.2.2.1 rfl <|
    aw_if_ge (pc := 25) C (tgt := 30) dK_b_24.2.2.2.2.2.2.1 rfl (fun _ =>
    aw_iconst (pc := 30) C (v := 0) dK_b_25.2.1 rfl <|
    aw_aload_n (pc := 31) C (i := 0) dK_b_25.2.2.1 rfl rfl <|
    aw_iload (pc := 32) C (i := 4) dK_b_25.2.2.2.1 rfl <|
    aw_callF (pc := 34) C (cr_V (rest := [.int 0]) (F := (X10_runByDraws r1)) C (c_X10_runByDraws X.2.1 r1) dK_b_25.2.2.2.2.1 mf_X10_runByDraws ml_X10_351 im_X10_runByDraws se_X10_runByDraws sC_0 rfl ⟨(Nat.le_of_ble_eq_true rfl), (Nat.le_of_ble_eq_true rfl)⟩ rfl rfl (Nat.le_of_ble_eq_true rfl)) rfl rfl rfl (Nat.zero_le _) (Nat.zero_le _) fun r3 h4 =>
    aw_mmax (pc := 37) C dK_b_25.2.2.2.2.2.1 ml_X10_286 w_mmaxS w_mI w_mmaxC ⟨(Nat.le_of_ble_eq_true rfl), (Nat.le_of_ble_eq_true rfl)⟩ (Nat.zero_le _) (Nat.zero_le _) <|
    aw_istoreV (pc := 40) C (i := 5) (fun x5 => [(0, .ref 0), (1, .int v1), (2, .int v2), (3, .int v3), (4, .int r1), (5, .int x5)]) dK_b_25.2.2.2.2.2.2.1 (by decide) (fun _ => rfl) fun x5 =>
    aw_iload_n (pc := 42) C (i := 2) dK_b_25.2.2.2.2.2.2.2.1 rfl rfl <|
    aw_iload (pc := 43) C (i := 4) dK_b_26.1 rfl <|
    aw_iload_n (pc := 45) C (i := 1) dK_b_26.2.1 rfl rfl <|
    aw_icmp_ne (pc := 46) C (tgt := 54) dK_b_26.2.2.1 rfl (fun _ =>
    aw_iload (pc := 49) C (i := 5) dK_b_26.2.2.2.1 rfl <|
    aw_goto (pc := 51) C (tgt := 55) dK_b_26.2.2.2.2.1 rfl <|
    aw_drop [0, 1, 3] (aX10_playToTheEnd_j55 C v1 v3 (X10_playToTheEnd_l4 v1 n) ih x5 v2 h4)) (fun _ =>
    aw_iconst (pc := 54) C (v := 0) dK_b_26.2.2.2.2.2.1 rfl <|
    aw_drop [0, 1, 3] (aX10_playToTheEnd_j55 C v1 v3 (X10_playToTheEnd_l4 v1 n) ih 0 v2 h4))) (fun _ =>
    aw_iload_n (pc := 28) C (i := 2) dK_b_24.2.2.2.2.2.2.2.1 rfl rfl <|
    aw_iret (pc := 29) C dK_b_25.1 rfl rfl))
def X10_playToTheEnd (v1 : Int32) (h : AH) : Option (Int32 × AH) :=
    X10_playToTheEnd_l4 v1 FU 0 0 h
set_option maxRecDepth 100000 in
theorem c_X10_playToTheEnd (l : Launch) (v1 : Int32) : MC l yX10_playToTheEnd cX10_playToTheEnd 6 (some .int) rmX10_playToTheEnd ZC [.ref 0, .int v1] rvI (X10_playToTheEnd v1) :=
  MC.of (own := RX10) pn_RX10 rfl (Nat.le_of_ble_eq_true rfl) fun X yd A h _ C =>
    aw_iconst (pc := 0) C (v := 0) dK_b_23.1 rfl <|
    aw_istore_n (pc := 1) C (i := 2) (lv' := [(0, .ref 0), (1, .int v1), (2, .int 0)]) dK_b_23.2.1 rfl (by decide) rfl <|
    aw_iconst (pc := 2) C (v := 0) dK_b_23.2.2.1 rfl <|
    aw_istore_n (pc := 3) C (i := 3) (lv' := [(0, .ref 0), (1, .int v1), (2, .int 0), (3, .int 0)]) dK_b_23.2.2.2.1 rfl (by decide) rfl <|
    (aX10_playToTheEnd_l4 C v1 FU 0 0 h)

abbrev rmX10_seeds : Room := { frames := 6, cells := 0, slots := 0, locals := 150 }
def X10_seeds_j101  (v1 : Int32) (v2 : Int32) (v4 : Int32) (v7 : Int32) (v8 : Int32) (K52 : Int32 → Int32 → Int32 → AH → Option (Int32 × AH)) (s0 : Int32) (s1 : Int32) (h : AH) : Option (Int32 × AH) :=
    vl (s1 + s0) fun x19 =>
    vl (v8 + 1) fun x20 =>
    K52 x19 v7 x20 h
set_option maxRecDepth 100000 in
theorem aX10_seeds_j101 {X : MCx} {yd : Dyn} {A : Nat → Prop} (C : OK X cX10_seeds RX10 9 (some .int) rmX10_seeds A)  (v1 : Int32) (v2 : Int32) (v4 : Int32) (v7 : Int32) (v8 : Int32) (K52 : Int32 → Int32 → Int32 → AH → Option (Int32 × AH)) (hK52 : ∀ (w6 : Int32) (w7 : Int32) (w8 : Int32) (h : AH), AW X 9 ZC yd A 0 0 (QF X rmX10_seeds ZC yd rvI A) 52 [(0, .ref 0), (1, .int v1), (2, .int v2), (4, .int v4), (6, .int w6), (7, .int w7), (8, .int w8)] [] h (K52 w6 w7 w8 h)) (s0 : Int32) (s1 : Int32) (h : AH) : AW X 9 ZC yd A 0 0 (QF X rmX10_seeds ZC yd rvI A) 101 [(0, .ref 0), (1, .int v1), (2, .int v2), (4, .int v4), (7, .int v7), (8, .int v8)] [.int s0, .int s1] h (X10_seeds_j101 v1 v2 v4 v7 v8 K52 s0 s1 h) := by
    exact aw_iadd (pc := 101) C dK_b_21.2.2.2.2.2.1 <|
    aw_istoreV (pc := 102) C (i := 6) (fun x19 => [(0, .ref 0), (1, .int v1), (2, .int v2), (4, .int v4), (6, .int x19), (7, .int v7), (8, .int v8)]) dK_b_21.2.2.2.2.2.2.1 (by decide) (fun _ => rfl) fun x19 =>
    aw_iincV (pc := 104) C (i := 8) (cst := 1) (fun x20 => [(0, .ref 0), (1, .int v1), (2, .int v2), (4, .int v4), (6, .int x19), (7, .int v7), (8, .int x20)]) dK_b_21.2.2.2.2.2.2.2.1 rfl rfl (by decide) (fun _ => rfl) fun x20 =>
    aw_goto (pc := 107) C (tgt := 52) dK_b_22.1 rfl <|
    (hK52 x19 v7 x20 h)
def X10_seeds_l52  (v1 : Int32) (v2 : Int32) (v4 : Int32) : Nat → Int32 → Int32 → Int32 → AH → Option (Int32 × AH)
  | 0, _, _, _, _ => none
  | n + 1, v6, v7, v8, h =>
    if v2 ≤ v8 then (if v4 = 0 then (some (v6, h))
    else (some (v7, h)))
    else (bd (X5_copyFrom 52 42 h) fun _ h13 =>
    bd (X10_playToTheEnd v1 h13) fun r14 h15 =>
    vl (v7 + r14) fun x16 =>
    bd (X5_leader 52 h15) fun r17 h18 =>
    if r17 = v1 then (X10_seeds_j101 v1 v2 v4 x16 v8 (X10_seeds_l52 v1 v2 v4 n) 1 v6 h18)
    else (X10_seeds_j101 v1 v2 v4 x16 v8 (X10_seeds_l52 v1 v2 v4 n) 0 v6 h18))
set_option maxRecDepth 100000 in
theorem aX10_seeds_l52 {X : MCx} {yd : Dyn} {A : Nat → Prop} (C : OK X cX10_seeds RX10 9 (some .int) rmX10_seeds A)  (v1 : Int32) (v2 : Int32) (v4 : Int32) : ∀ (n : Nat) (v6 : Int32) (v7 : Int32) (v8 : Int32) (h : AH), AW X 9 ZC yd A 0 0 (QF X rmX10_seeds ZC yd rvI A) 52 [(0, .ref 0), (1, .int v1), (2, .int v2), (4, .int v4), (6, .int v6), (7, .int v7), (8, .int v8)] [] h (X10_seeds_l52 v1 v2 v4 n v6 v7 v8 h) := by
  intro n
  induction n with
  | zero => intro v6 v7 v8 h; exact aw_none
  | succ n ih =>
    intro v6 v7 v8 h
    exact aw_iload (pc := 52) C (i := 8) dK_b_18.2.2.2.2.1 rfl <|
    aw_iload_n (pc := 54) C (i := 2) dK_b_18.2.2.2.2.2.1 rfl rfl <|
    aw_icmp_ge (pc := 55) C (tgt := 110) dK_b_18.2.2.2.2.2.2.1 rfl (fun _ =>
    aw_iload (pc := 110) C (i := 4) dK_b_22.2.1 rfl <|
    aw_if_ne (pc := 112) C (tgt := 120) dK_b_22.2.2.1 rfl (fun _ =>
    aw_iload (pc := 115) C (i := 6) dK_b_22.2.2.2.1 rfl <|
    aw_goto (pc := 117) C (tgt := 122) dK_b_22.2.2.2.2.1 rfl <|
    aw_iret (pc := 122) C dK_b_22.2.2.2.2.2.2.1 rfl rfl) (fun _ =>
    aw_iload (pc := 120) C (i := 7) dK_b_22.2.2.2.2.2.1 rfl <|
    aw_iret (pc := 122) C dK_b_22.2.2.2.2.2.2.1 rfl rfl)) (fun _ =>
    aw_aload_n (pc := 58) C (i := 0) dK_b_18.2.2.2.2.2.2.2.1 rfl rfl <|
    aw_getR (pc := 59) C (b := 52) dK_b_19.1 fl_X10_76 sC_0 rfl rC_0_2 <|
    aw_aload_n (pc := 62) C (i := 0) dK_b_19.2.1 rfl rfl <|
    aw_getR (pc := 63) C (b := 42) dK_b_19.2.2.1 fl_X10_72 sC_0 rfl rC_0_1 <|
    aw_callF (pc := 66) C (cr_V (rest := []) (F := (X5_copyFrom 52 42)) C (c_X5_copyFrom X.2.1 52 (Or.inr (Or.inl rfl)) 42 (Or.inl rfl)) dK_b_19.2.2.2.1 mf_X5_copyFrom ml_X10_121 im_X5_copyFrom se_X5_copyFrom (mt_s (Or.inr (Or.inl rfl))) rfl ⟨(Nat.le_of_ble_eq_true rfl), (Nat.le_of_ble_eq_true rfl)⟩ rfl rfl (Nat.le_of_ble_eq_true rfl)) rfl rfl rfl (Nat.zero_le _) (Nat.zero_le _) fun _ h13 =>
    aw_iload (pc := 69) C (i := 7) dK_b_19.2.2.2.2.1 rfl <|
    aw_aload_n (pc := 71) C (i := 0) dK_b_19.2.2.2.2.2.1 rfl rfl <|
    aw_iload_n (pc := 72) C (i := 1) dK_b_19.2.2.2.2.2.2.1 rfl rfl <|
    aw_callF (pc := 73) C (cr_V (rest := [.int v7]) (F := (X10_playToTheEnd v1)) C (c_X10_playToTheEnd X.2.1 v1) dK_b_19.2.2.2.2.2.2.2.1 mf_X10_playToTheEnd ml_X10_348 im_X10_playToTheEnd se_X10_playToTheEnd sC_0 rfl ⟨(Nat.le_of_ble_eq_true rfl), (Nat.le_of_ble_eq_true rfl)⟩ rfl rfl (Nat.le_of_ble_eq_true rfl)) rfl rfl rfl (Nat.zero_le _) (Nat.zero_le _) fun r14 h15 =>
    aw_iadd (pc := 76) C dK_b_20.1 <|
    aw_istoreV (pc := 77) C (i := 7) (fun x16 => [(0, .ref 0), (1, .int v1), (2, .int v2), (4, .int v4), (6, .int v6), (7, .int x16), (8, .int v8)]) dK_b_20.2.1 (by decide) (fun _ => rfl) fun x16 =>
    aw_iload (pc := 79) C (i := 6) dK_b_20.2.2.1 rfl <|
    aw_aload_n (pc := 81) C (i := 0) dK_b_20.2.2.2.1 rfl rfl <|
    aw_getR (pc := 82) C (b := 52) dK_b_20.2.2.2.2.1 fl_X10_76 sC_0 rfl rC_0_2 <|
    aw_aload_n (pc := 85) C (i := 0) dK_b_20.2.2.2.2.2.1 rfl rfl <|
    aw_getR (pc := 86) C (b := 5) dK_b_20.2.2.2.2.2.2.1 fl_X10_28 sC_0 rfl rC_0_10 <|
    aw_callF (pc := 89) C (cr_V (rest := [.int v6]) (F := (X5_leader 52)) C (c_X5_leader X.2.1 52 (Or.inr (Or.inl rfl))) dK_b_20.2.2.2.2.2.2.2.1 mf_X5_leader ml_X10_317 im_X5_leader se_X5_leader (mt_s (Or.inr (Or.inl rfl))) rfl ⟨(Nat.le_of_ble_eq_true rfl), (Nat.le_of_ble_eq_true rfl)⟩ rfl rfl (Nat.le_of_ble_eq_true rfl)) rfl rfl rfl (Nat.zero_le _) (Nat.zero_le _) fun r17 h18 =>
    aw_iload_n (pc := 92) C (i := 1) dK_b_21.1 rfl rfl <|
    aw_icmp_ne (pc := 93) C (tgt := 100) dK_b_21.2.1 rfl (fun _ =>
    aw_iconst (pc := 96) C (v := 1) dK_b_21.2.2.1 rfl <|
    aw_goto (pc := 97) C (tgt := 101) dK_b_21.2.2.2.1 rfl <|
    aw_drop [0, 1, 2, 3, 5, 6] (aX10_seeds_j101 C v1 v2 v4 x16 v8 (X10_seeds_l52 v1 v2 v4 n) ih 1 v6 h18)) (fun _ =>
    aw_iconst (pc := 100) C (v := 0) dK_b_21.2.2.2.2.1 rfl <|
    aw_drop [0, 1, 2, 3, 5, 6] (aX10_seeds_j101 C v1 v2 v4 x16 v8 (X10_seeds_l52 v1 v2 v4 n) ih 0 v6 h18)))
def X10_seeds (v1 : Int32) (v2 : Int32) (v3 : Int32) (v4 : Int32) (h : AH) : Option (Int32 × AH) :=
    bd (X10_nobody v1 h) fun r1 h2 =>
    bd (X10_outside v2 1 20 h2) fun r3 h4 =>
    bd (X10_first r1 r3 h4) fun r5 h6 =>
    bd (X10_noSuch v4 1 h6) fun r7 h8 =>
    bd (X10_first r5 r7 h8) fun r9 h10 =>
    if r9 = 0 then (vl (sI h10 0 17 v3) fun h11 =>
    X10_seeds_l52 v1 v2 v4 FU 0 0 0 h11)
    else (bd (X10_refuse r9 h10) fun r21 h22 =>
    some (r21, h22))
set_option maxRecDepth 100000 in
theorem c_X10_seeds (l : Launch) (v1 : Int32) (v2 : Int32) (v3 : Int32) (v4 : Int32) : MC l yX10_seeds cX10_seeds 9 (some .int) rmX10_seeds ZC [.ref 0, .int v1, .int v2, .int v3, .int v4] rvI (X10_seeds v1 v2 v3 v4) :=
  MC.of (own := RX10) pn_RX10 rfl (Nat.le_of_ble_eq_true rfl) fun X yd A h _ C =>
    aw_aload_n (pc := 0) C (i := 0) dK_b_15.1 rfl rfl <|
    aw_iload_n (pc := 1) C (i := 1) dK_b_15.2.1 rfl rfl <|
    aw_callF (pc := 2) C (cr_V (rest := []) (F := (X10_nobody v1)) C (c_X10_nobody X.2.1 v1) dK_b_15.2.2.1 mf_X10_nobody ml_X10_93 im_X10_nobody se_X10_nobody sC_0 rfl ⟨(Nat.le_of_ble_eq_true rfl), (Nat.le_of_ble_eq_true rfl)⟩ rfl rfl (Nat.le_of_ble_eq_true rfl)) rfl rfl rfl (Nat.zero_le _) (Nat.zero_le _) fun r1 h2 =>
    aw_iload_n (pc := 5) C (i := 2) dK_b_15.2.2.2.1 rfl rfl <|
    aw_iconst (pc := 6) C (v := 1) dK_b_15.2.2.2.2.1 rfl <|
    aw_bipush (pc := 7) C (v := 20) dK_b_15.2.2.2.2.2.1 rfl <|
    aw_callF (pc := 9) C (cr_S (rest := [.int r1]) (F := (X10_outside v2 1 20)) C (c_X10_outside X.2.1 v2 1 20) dK_b_15.2.2.2.2.2.2.1 mf_X10_outside ml_X10_104 st_X10_outside ⟨(Nat.le_of_ble_eq_true rfl), (Nat.le_of_ble_eq_true rfl)⟩ rfl rfl (Nat.le_of_ble_eq_true rfl)) rfl rfl rfl (Nat.zero_le _) (Nat.zero_le _) fun r3 h4 =>
    aw_callF (pc := 12) C (cr_S (rest := []) (F := (X10_first r1 r3)) C (c_X10_first X.2.1 r1 r3) dK_b_15.2.2.2.2.2.2.2.1 mf_X10_first ml_X10_97 st_X10_first ⟨(Nat.le_of_ble_eq_true rfl), (Nat.le_of_ble_eq_true rfl)⟩ rfl rfl (Nat.le_of_ble_eq_true rfl)) rfl rfl rfl (Nat.zero_le _) (Nat.zero_le _) fun r5 h6 =>
    aw_iload (pc := 15) C (i := 4) dK_b_16.1 rfl <|
    aw_iconst (pc := 17) C (v := 1) dK_b_16.2.1 rfl <|
    aw_callF (pc := 18) C (cr_S (rest := [.int r5]) (F := (X10_noSuch v4 1)) C (c_X10_noSuch X.2.1 v4 1) dK_b_16.2.2.1 mf_X10_noSuch ml_X10_101 st_X10_noSuch ⟨(Nat.le_of_ble_eq_true rfl), (Nat.le_of_ble_eq_true rfl)⟩ rfl rfl (Nat.le_of_ble_eq_true rfl)) rfl rfl rfl (Nat.zero_le _) (Nat.zero_le _) fun r7 h8 =>
    aw_callF (pc := 21) C (cr_S (rest := []) (F := (X10_first r5 r7)) C (c_X10_first X.2.1 r5 r7) dK_b_16.2.2.2.1 mf_X10_first ml_X10_97 st_X10_first ⟨(Nat.le_of_ble_eq_true rfl), (Nat.le_of_ble_eq_true rfl)⟩ rfl rfl (Nat.le_of_ble_eq_true rfl)) rfl rfl rfl (Nat.zero_le _) (Nat.zero_le _) fun r9 h10 =>
    aw_istore (pc := 24) C (i := 5) (lv' := [(0, .ref 0), (1, .int v1), (2, .int v2), (3, .int v3), (4, .int v4), (5, .int r9)]) dK_b_16.2.2.2.2.1 (by decide) rfl <|
    aw_iload (pc := 26) C (i := 5) dK_b_16.2.2.2.2.2.1 rfl <|
    aw_if_eq (pc := 28) C (tgt := 38) dK_b_16.2.2.2.2.2.2.1 rfl (fun _ =>
    aw_aload_n (pc := 38) C (i := 0) dK_b_17.2.2.2.1 rfl rfl <|
    aw_iload_n (pc := 39) C (i := 3) dK_b_17.2.2.2.2.1 rfl rfl <|
    aw_putI (pc := 40) C dK_b_17.2.2.2.2.2.1 fp_X10_345 sC_0 rfl fun h11 =>
    aw_iconst (pc := 43) C (v := 0) dK_b_17.2.2.2.2.2.2.1 rfl <|
    aw_istore (pc := 44) C (i := 6) (lv' := [(0, .ref 0), (1, .int v1), (2, .int v2), (3, .int v3), (4, .int v4), (5, .int r9), (6, .int 0)]) dK_b_17.2.2.2.2.2.2.2.1 (by decide) rfl <|
    aw_iconst (pc := 46) C (v := 0) dK_b_18.1 rfl <|
    aw_istore (pc := 47) C (i := 7) (lv' := [(0, .ref 0), (1, .int v1), (2, .int v2), (3, .int v3), (4, .int v4), (5, .int r9), (6, .int 0), (7, .int 0)]) dK_b_18.2.1 (by decide) rfl <|
    aw_iconst (pc := 49) C (v := 0) dK_b_18.2.2.1 rfl <|
    aw_istore (pc := 50) C (i := 8) (lv' := [(0, .ref 0), (1, .int v1), (2, .int v2), (3, .int v3), (4, .int v4), (5, .int r9), (6, .int 0), (7, .int 0), (8, .int 0)]) dK_b_18.2.2.2.1 (by decide) rfl <|
    aw_drop [0, 1, 2, 4, 6, 7, 8] (aX10_seeds_l52 C v1 v2 v4 FU 0 0 0 h11)) (fun _ =>
    aw_aload_n (pc := 31) C (i := 0) dK_b_16.2.2.2.2.2.2.2.1 rfl rfl <|
    aw_iload (pc := 32) C (i := 5) dK_b_17.1 rfl <|
    aw_callF (pc := 34) C (cr_V (rest := []) (F := (X10_refuse r9)) C (c_X10_refuse X.2.1 r9) dK_b_17.2.1 mf_X10_refuse ml_X10_111 im_X10_refuse se_X10_refuse sC_0 rfl ⟨(Nat.le_of_ble_eq_true rfl), (Nat.le_of_ble_eq_true rfl)⟩ rfl rfl (Nat.le_of_ble_eq_true rfl)) rfl rfl rfl (Nat.zero_le _) (Nat.zero_le _) fun r21 h22 =>
    aw_iret (pc := 37) C dK_b_17.2.2.1 rfl rfl)

abbrev rmX10_parts : Room := { frames := 6, cells := 0, slots := 0, locals := 158 }
def X10_parts (v1 : Int32) (v2 : Int32) (h : AH) : Option (Int32 × AH) :=
    bd (X10_nobody v1 h) fun r1 h2 =>
    bd (X10_outside v2 0 999 h2) fun r3 h4 =>
    bd (X10_first r1 r3 h4) fun r5 h6 =>
    if r5 = 0 then (bd (X10_spreadNow v1 0 h6) fun _ h8 =>
    ck v2 1000 (bd (X1_share (h8.2.1 31 v2.toNatClampNeg) h8) fun r9 h10 =>
    some (r9, h10)))
    else (bd (X10_refuse r5 h6) fun r11 h12 =>
    some (r11, h12))
set_option maxRecDepth 100000 in
theorem c_X10_parts (l : Launch) (v1 : Int32) (v2 : Int32) : MC l yX10_parts cX10_parts 4 (some .int) rmX10_parts ZC [.ref 0, .int v1, .int v2] rvI (X10_parts v1 v2) :=
  MC.of (own := RX10) pn_RX10 rfl (Nat.le_of_ble_eq_true rfl) fun X yd A h _ C =>
    aw_aload_n (pc := 0) C (i := 0) dK_b_42.1 rfl rfl <|
    aw_iload_n (pc := 1) C (i := 1) dK_b_42.2.1 rfl rfl <|
    aw_callF (pc := 2) C (cr_V (rest := []) (F := (X10_nobody v1)) C (c_X10_nobody X.2.1 v1) dK_b_42.2.2.1 mf_X10_nobody ml_X10_93 im_X10_nobody se_X10_nobody sC_0 rfl ⟨(Nat.le_of_ble_eq_true rfl), (Nat.le_of_ble_eq_true rfl)⟩ rfl rfl (Nat.le_of_ble_eq_true rfl)) rfl rfl rfl (Nat.zero_le _) (Nat.zero_le _) fun r1 h2 =>
    aw_iload_n (pc := 5) C (i := 2) dK_b_42.2.2.2.1 rfl rfl <|
    aw_iconst (pc := 6) C (v := 0) dK_b_42.2.2.2.2.1 rfl <|
    aw_sipush (pc := 7) C (v := 999) dK_b_42.2.2.2.2.2.1 rfl <|
    aw_callF (pc := 10) C (cr_S (rest := [.int r1]) (F := (X10_outside v2 0 999)) C (c_X10_outside X.2.1 v2 0 999) dK_b_42.2.2.2.2.2.2.1 mf_X10_outside ml_X10_104 st_X10_outside ⟨(Nat.le_of_ble_eq_true rfl), (Nat.le_of_ble_eq_true rfl)⟩ rfl rfl (Nat.le_of_ble_eq_true rfl)) rfl rfl rfl (Nat.zero_le _) (Nat.zero_le _) fun r3 h4 =>
    aw_callF (pc := 13) C (cr_S (rest := []) (F := (X10_first r1 r3)) C (c_X10_first X.2.1 r1 r3) dK_b_42.2.2.2.2.2.2.2.1 mf_X10_first ml_X10_97 st_X10_first ⟨(Nat.le_of_ble_eq_true rfl), (Nat.le_of_ble_eq_true rfl)⟩ rfl rfl (Nat.le_of_ble_eq_true rfl)) rfl rfl rfl (Nat.zero_le _) (Nat.zero_le _) fun r5 h6 =>
    aw_istore_n (pc := 16) C (i := 3) (lv' := [(0, .ref 0), (1, .int v1), (2, .int v2), (3, .int r5)]) dK_b_43.1 rfl (by decide) rfl <|
    aw_iload_n (pc := 17) C (i := 3) dK_b_43.2.1 rfl rfl <|
    aw_if_eq (pc := 18) C (tgt := 27) dK_b_43.2.2.1 rfl (fun _ =>
    aw_aload_n (pc := 27) C (i := 0) dK_b_43.2.2.2.2.2.2.2.1 rfl rfl <|
    aw_iload_n (pc := 28) C (i := 1) dK_b_44.1 rfl rfl <|
    aw_iconst (pc := 29) C (v := 0) dK_b_44.2.1 rfl <|
    aw_callF (pc := 30) C (cr_V (rest := []) (F := (X10_spreadNow v1 0)) C (c_X10_spreadNow X.2.1 v1 0) dK_b_44.2.2.1 mf_X10_spreadNow ml_X10_251 im_X10_spreadNow se_X10_spreadNow sC_0 rfl ⟨(Nat.le_of_ble_eq_true rfl), (Nat.le_of_ble_eq_true rfl)⟩ rfl rfl (Nat.le_of_ble_eq_true rfl)) rfl rfl rfl (Nat.zero_le _) (Nat.zero_le _) fun _ h8 =>
    aw_aload_n (pc := 33) C (i := 0) dK_b_44.2.2.2.1 rfl rfl <|
    aw_getR (pc := 34) C (b := 8) dK_b_44.2.2.2.2.1 fl_X10_35 sC_0 rfl rC_0_11 <|
    aw_aload_n (pc := 37) C (i := 0) dK_b_44.2.2.2.2.2.1 rfl rfl <|
    aw_getR (pc := 38) C (b := 8) dK_b_44.2.2.2.2.2.2.1 fl_X10_35 sC_0 rfl rC_0_11 <|
    aw_getR (pc := 41) C (b := 31) dK_b_44.2.2.2.2.2.2.2.1 fl_X10_367 sC_8 rfl rC_8_1 <|
    aw_iload_n (pc := 44) C (i := 2) dK_b_45.1 rfl rfl <|
    aw_lald (pc := 45) C dK_b_45.2.1 sC_31 rfl <|
    aw_callF (pc := 46) C (cr_V (rest := []) (F := (X1_share (h8.2.1 31 v2.toNatClampNeg))) C (c_X1_share X.2.1 (h8.2.1 31 v2.toNatClampNeg)) dK_b_45.2.2.1 mf_X1_share ml_X10_320 im_X1_share se_X1_share sC_8 rfl ⟨(Nat.le_of_ble_eq_true rfl), (Nat.le_of_ble_eq_true rfl)⟩ rfl rfl (Nat.le_of_ble_eq_true rfl)) rfl rfl rfl (Nat.zero_le _) (Nat.zero_le _) fun r9 h10 =>
    aw_iret (pc := 49) C dK_b_45.2.2.2.1 rfl rfl) (fun _ =>
    aw_aload_n (pc := 21) C (i := 0) dK_b_43.2.2.2.1 rfl rfl <|
    aw_iload_n (pc := 22) C (i := 3) dK_b_43.2.2.2.2.1 rfl rfl <|
    aw_callF (pc := 23) C (cr_V (rest := []) (F := (X10_refuse r5)) C (c_X10_refuse X.2.1 r5) dK_b_43.2.2.2.2.2.1 mf_X10_refuse ml_X10_111 im_X10_refuse se_X10_refuse sC_0 rfl ⟨(Nat.le_of_ble_eq_true rfl), (Nat.le_of_ble_eq_true rfl)⟩ rfl rfl (Nat.le_of_ble_eq_true rfl)) rfl rfl rfl (Nat.zero_le _) (Nat.zero_le _) fun r11 h12 =>
    aw_iret (pc := 26) C dK_b_43.2.2.2.2.2.2.1 rfl rfl)

abbrev rmX10_fillParts : Room := { frames := 5, cells := 0, slots := 0, locals := 136 }
def X10_fillParts_l34 (p1 : Nat) (n1 : Nat) : Nat → Int32 → AH → Option (Unit × AH)
  | 0, _, _ => none
  | n + 1, v4, h =>
    if (Int32.ofNat n1) ≤ v4 then (some ((), h))
    else (if 999 < v4 then (some ((), h))
    else (ck v4 1000 (bd (X1_share (h.2.1 31 v4.toNatClampNeg) h) fun r6 h7 =>
    ck v4 n1 (vl (sI h7 p1 v4.toNatClampNeg r6) fun h8 =>
    vl (v4 + 1) fun x9 =>
    (X10_fillParts_l34 p1 n1 n) x9 h8))))
set_option maxRecDepth 100000 in
theorem aX10_fillParts_l34 {X : MCx} {yd : Dyn} {A : Nat → Prop} (C : OK X cX10_fillParts RX10 5 none rmX10_fillParts A) (p1 : Nat) (n1 : Nat) (hA1 : ZC.1[p1]? = some (.inl (0, 0, n1))) : ∀ (n : Nat) (v4 : Int32) (h : AH), AW X 5 ZC yd A 0 0 (QF X rmX10_fillParts ZC yd rvV A) 34 [(0, .ref 0), (1, .ref p1), (4, .int v4)] [] h (X10_fillParts_l34 p1 n1 n v4 h) := by
  intro n
  induction n with
  | zero => intro v4 h; exact aw_none
  | succ n ih =>
    intro v4 h
    exact aw_iload (pc := 34) C (i := 4) dK_b_48.2.1 rfl <|
    aw_aload_n (pc := 36) C (i := 1) dK_b_48.2.2.1 rfl rfl <|
    aw_alenI (pc := 37) C (v := (Int32.ofNat n1)) (by decide) dK_b_48.2.2.2.1 hA1 rfl rfl <|
    aw_icmp_ge (pc := 38) C (tgt := 76) dK_b_48.2.2.2.2.1 rfl (fun _ =>
    aw_vret (pc := 76) C dK_b_50.2.2.2.2.2.1 rfl rfl) (fun _ =>
    aw_iload (pc := 41) C (i := 4) dK_b_48.2.2.2.2.2.1 rfl <|
    aw_sipush (pc := 43) C (v := 999) dK_b_48.2.2.2.2.2.2.1 rfl <|
    aw_icmp_gt (pc := 46) C (tgt := 76) dK_b_48.2.2.2.2.2.2.2.1 rfl (fun _ =>
    aw_vret (pc := 76) C dK_b_50.2.2.2.2.2.1 rfl rfl) (fun _ =>
    aw_aload_n (pc := 49) C (i := 1) dK_b_49.1 rfl rfl <|
    aw_iload (pc := 50) C (i := 4) dK_b_49.2.1 rfl <|
    aw_aload_n (pc := 52) C (i := 0) dK_b_49.2.2.1 rfl rfl <|
    aw_getR (pc := 53) C (b := 8) dK_b_49.2.2.2.1 fl_X10_35 sC_0 rfl rC_0_11 <|
    aw_aload_n (pc := 56) C (i := 0) dK_b_49.2.2.2.2.1 rfl rfl <|
    aw_getR (pc := 57) C (b := 8) dK_b_49.2.2.2.2.2.1 fl_X10_35 sC_0 rfl rC_0_11 <|
    aw_getR (pc := 60) C (b := 31) dK_b_49.2.2.2.2.2.2.1 fl_X10_367 sC_8 rfl rC_8_1 <|
    aw_iload (pc := 63) C (i := 4) dK_b_49.2.2.2.2.2.2.2.1 rfl <|
    aw_lald (pc := 65) C dK_b_50.1 sC_31 rfl <|
    aw_callF (pc := 66) C (cr_V (rest := [.int v4, .ref p1]) (F := (X1_share (h.2.1 31 v4.toNatClampNeg))) C (c_X1_share X.2.1 (h.2.1 31 v4.toNatClampNeg)) dK_b_50.2.1 mf_X1_share ml_X10_320 im_X1_share se_X1_share sC_8 rfl ⟨(Nat.le_of_ble_eq_true rfl), (Nat.le_of_ble_eq_true rfl)⟩ rfl rfl (Nat.le_of_ble_eq_true rfl)) rfl rfl rfl (Nat.zero_le _) (Nat.zero_le _) fun r6 h7 =>
    aw_iast (pc := 69) C dK_b_50.2.2.1 hA1 rfl fun h8 =>
    aw_iincV (pc := 70) C (i := 4) (cst := 1) (fun x9 => [(0, .ref 0), (1, .ref p1), (4, .int x9)]) dK_b_50.2.2.2.1 rfl rfl (by decide) (fun _ => rfl) fun x9 =>
    aw_goto (pc := 73) C (tgt := 34) dK_b_50.2.2.2.2.1 rfl <|
    (ih x9 h8)))
def X10_fillParts (p1 : Nat) (n1 : Nat) (v2 : Int32) (v3 : Int32) (h : AH) : Option (Unit × AH) :=
    bd (X5_at 42 v2 h) fun r1 h2 =>
    cs ZC r1 (.inr 2) (bd (X1_spread r1 (h2.1 42 0) (h2.1 42 1) v3 0 h2) fun _ h5 =>
    X10_fillParts_l34 p1 n1 FU 0 h5)
set_option maxRecDepth 100000 in
theorem c_X10_fillParts (l : Launch) (p1 : Nat) (n1 : Nat) (hA1 : ZC.1[p1]? = some (.inl (0, 0, n1))) (v2 : Int32) (v3 : Int32) : MC l yX10_fillParts cX10_fillParts 5 none rmX10_fillParts ZC [.ref 0, .ref p1, .int v2, .int v3] rvV (X10_fillParts p1 n1 v2 v3) :=
  MC.of (own := RX10) pn_RX10 rfl (Nat.le_of_ble_eq_true rfl) fun X yd A h _ C =>
    aw_aload_n (pc := 0) C (i := 0) dK_b_46.1 rfl rfl <|
    aw_getR (pc := 1) C (b := 8) dK_b_46.2.1 fl_X10_35 sC_0 rfl rC_0_11 <|
    aw_aload_n (pc := 4) C (i := 0) dK_b_46.2.2.1 rfl rfl <|
    aw_getR (pc := 5) C (b := 42) dK_b_46.2.2.2.1 fl_X10_72 sC_0 rfl rC_0_1 <|
    aw_iload_n (pc := 8) C (i := 2) dK_b_46.2.2.2.2.1 rfl rfl <|
    aw_callF (pc := 9) C (cr_V (rest := [.ref 8]) (F := (X5_at 42 v2)) C (c_X5_at X.2.1 42 (Or.inl rfl) v2) dK_b_46.2.2.2.2.2.1 mf_X5_at ml_X10_169 im_X5_at se_X5_at (mt_s (Or.inl rfl)) rfl ⟨(Nat.le_of_ble_eq_true rfl), (Nat.le_of_ble_eq_true rfl)⟩ rfl rfl (Nat.le_of_ble_eq_true rfl)) rfl rfl rfl (Nat.zero_le _) (Nat.zero_le _) fun r1 h2 =>
    aw_cs fun hs3 =>
    aw_aload_n (pc := 12) C (i := 0) dK_b_46.2.2.2.2.2.2.1 rfl rfl <|
    aw_getR (pc := 13) C (b := 42) dK_b_46.2.2.2.2.2.2.2.1 fl_X10_72 sC_0 rfl rC_0_1 <|
    aw_getI (pc := 16) C dK_b_47.1 fl_X10_163 (mt_s (Or.inl rfl)) rfl <|
    aw_aload_n (pc := 19) C (i := 0) dK_b_47.2.1 rfl rfl <|
    aw_getR (pc := 20) C (b := 42) dK_b_47.2.2.1 fl_X10_72 sC_0 rfl rC_0_1 <|
    aw_getI (pc := 23) C dK_b_47.2.2.2.1 fl_X10_157 (mt_s (Or.inl rfl)) rfl <|
    aw_iload_n (pc := 26) C (i := 3) dK_b_47.2.2.2.2.1 rfl rfl <|
    aw_iconst (pc := 27) C (v := 0) dK_b_47.2.2.2.2.2.1 rfl <|
    aw_callF (pc := 28) C (cr_V (rest := []) (F := (X1_spread r1 (h2.1 42 0) (h2.1 42 1) v3 0)) C (c_X1_spread X.2.1 r1 hs3 (h2.1 42 0) (h2.1 42 1) v3 0) dK_b_47.2.2.2.2.2.2.1 mf_X1_spread ml_X10_242 im_X1_spread se_X1_spread sC_8 rfl ⟨(Nat.le_of_ble_eq_true rfl), (Nat.le_of_ble_eq_true rfl)⟩ rfl rfl (Nat.le_of_ble_eq_true rfl)) rfl rfl rfl (Nat.zero_le _) (Nat.zero_le _) fun _ h5 =>
    aw_iconst (pc := 31) C (v := 0) dK_b_47.2.2.2.2.2.2.2.1 rfl <|
    aw_istore (pc := 32) C (i := 4) (lv' := [(0, .ref 0), (1, .ref p1), (2, .int v2), (3, .int v3), (4, .int 0)]) dK_b_48.1 (by decide) rfl <|
    aw_drop [0, 1, 4] (aX10_fillParts_l34 C p1 n1 hA1 FU 0 h5)

abbrev rmX10_moreByParts : Room := { frames := 0, cells := 0, slots := 0, locals := 0 }
def X10_moreByParts_l7  : Nat → Int64 → Int64 → Int32 → AH → Option (Int32 × AH)
  | 0, _, _, _, _ => none
  | n + 1, v1, v3, v5, h =>
    if 999 < v5 then (some ((v1 / 10000).toInt32, h))
    else (ck v5 1000 (vl (v1 + (((h.1 32 v5.toNatClampNeg).toInt64) * v3)) fun x1 =>
    ck v5 1000 (vl (v3 + ((h.1 33 v5.toNatClampNeg).toInt64)) fun x2 =>
    vl (v5 + 1) fun x3 =>
    (X10_moreByParts_l7 n) x1 x2 x3 h)))
set_option maxRecDepth 100000 in
theorem aX10_moreByParts_l7 {X : MCx} {yd : Dyn} {A : Nat → Prop} (C : OK X cX10_moreByParts RX10 6 (some .int) rmX10_moreByParts A)  : ∀ (n : Nat) (v1 : Int64) (v3 : Int64) (v5 : Int32) (h : AH), AW X 6 ZC yd A 0 0 (QF X rmX10_moreByParts ZC yd rvI A) 7 [(0, .ref 0), (1, .long v1), (3, .long v3), (5, .int v5)] [] h (X10_moreByParts_l7 n v1 v3 v5 h) := by
  intro n
  induction n with
  | zero => intro v1 v3 v5 h; exact aw_none
  | succ n ih =>
    intro v1 v3 v5 h
    exact aw_iload (pc := 7) C (i := 5) dK_b_51.2.2.2.2.2.2.1 rfl <|
    aw_sipush (pc := 9) C (v := 999) dK_b_51.2.2.2.2.2.2.2.1 rfl <|
    aw_icmp_gt (pc := 12) C (tgt := 45) dK_b_52.1 rfl (fun _ =>
    aw_lload_n (pc := 45) C (i := 1) dK_b_54.2.2.2.2.2.1 rfl rfl <|
    aw_ldc2_w (pc := 46) C (v := 10000) dK_b_54.2.2.2.2.2.2.1 kc_X10_371 <|
    aw_ldivK (pc := 49) C dK_b_54.2.2.2.2.2.2.2.1 (by decide) <|
    aw_l2i (pc := 50) C dK_b_55.1 <|
    aw_iret (pc := 51) C dK_b_55.2.1 rfl rfl) (fun _ =>
    aw_lload_n (pc := 15) C (i := 1) dK_b_52.2.1 rfl rfl <|
    aw_aload_n (pc := 16) C (i := 0) dK_b_52.2.2.1 rfl rfl <|
    aw_getR (pc := 17) C (b := 32) dK_b_52.2.2.2.1 fl_X10_39 sC_0 rfl rC_0_13 <|
    aw_iload (pc := 20) C (i := 5) dK_b_52.2.2.2.2.1 rfl <|
    aw_iald (pc := 22) C dK_b_52.2.2.2.2.2.1 sC_32 rfl <|
    aw_i2l (pc := 23) C dK_b_52.2.2.2.2.2.2.1 <|
    aw_lload_n (pc := 24) C (i := 3) dK_b_52.2.2.2.2.2.2.2.1 rfl rfl <|
    aw_lmul (pc := 25) C dK_b_53.1 <|
    aw_ladd (pc := 26) C dK_b_53.2.1 <|
    aw_lstoreV_n (pc := 27) C (i := 1) (fun x1 => [(0, .ref 0), (1, .long x1), (3, .long v3), (5, .int v5)]) dK_b_53.2.2.1 rfl (by decide) (fun _ => rfl) fun x1 =>
    aw_lload_n (pc := 28) C (i := 3) dK_b_53.2.2.2.1 rfl rfl <|
    aw_aload_n (pc := 29) C (i := 0) dK_b_53.2.2.2.2.1 rfl rfl <|
    aw_getR (pc := 30) C (b := 33) dK_b_53.2.2.2.2.2.1 fl_X10_42 sC_0 rfl rC_0_14 <|
    aw_iload (pc := 33) C (i := 5) dK_b_53.2.2.2.2.2.2.1 rfl <|
    aw_iald (pc := 35) C dK_b_53.2.2.2.2.2.2.2.1 sC_33 rfl <|
    aw_i2l (pc := 36) C dK_b_54.1 <|
    aw_ladd (pc := 37) C dK_b_54.2.1 <|
    aw_lstoreV_n (pc := 38) C (i := 3) (fun x2 => [(0, .ref 0), (1, .long x1), (3, .long x2), (5, .int v5)]) dK_b_54.2.2.1 rfl (by decide) (fun _ => rfl) fun x2 =>
    aw_iincV (pc := 39) C (i := 5) (cst := 1) (fun x3 => [(0, .ref 0), (1, .long x1), (3, .long x2), (5, .int x3)]) dK_b_54.2.2.2.1 rfl rfl (by decide) (fun _ => rfl) fun x3 =>
    aw_goto (pc := 42) C (tgt := 7) dK_b_54.2.2.2.2.1 rfl <|
    (ih x1 x2 x3 h))
def X10_moreByParts  (h : AH) : Option (Int32 × AH) :=
    X10_moreByParts_l7 FU 0 0 0 h
set_option maxRecDepth 100000 in
theorem c_X10_moreByParts (l : Launch)  : MC l yX10_moreByParts cX10_moreByParts 6 (some .int) rmX10_moreByParts ZC [.ref 0] rvI (X10_moreByParts) :=
  MC.of (own := RX10) pn_RX10 rfl (Nat.le_of_ble_eq_true rfl) fun X yd A h _ C =>
    aw_lconst (pc := 0) C (v := 0) dK_b_51.1 rfl <|
    aw_lstore_n (pc := 1) C (i := 1) (lv' := [(0, .ref 0), (1, .long 0)]) dK_b_51.2.1 rfl (by decide) rfl <|
    aw_lconst (pc := 2) C (v := 0) dK_b_51.2.2.1 rfl <|
    aw_lstore_n (pc := 3) C (i := 3) (lv' := [(0, .ref 0), (1, .long 0), (3, .long 0)]) dK_b_51.2.2.2.1 rfl (by decide) rfl <|
    aw_iconst (pc := 4) C (v := 0) dK_b_51.2.2.2.2.1 rfl <|
    aw_istore (pc := 5) C (i := 5) (lv' := [(0, .ref 0), (1, .long 0), (3, .long 0), (5, .int 0)]) dK_b_51.2.2.2.2.2.1 (by decide) rfl <|
    (aX10_moreByParts_l7 C FU 0 0 0 h)

abbrev rmX10_more : Room := { frames := 6, cells := 0, slots := 0, locals := 160 }
def X10_more (v1 : Int32) (v2 : Int32) (h : AH) : Option (Int32 × AH) :=
    bd (X10_nobodyOfTwo v1 v2 h) fun r1 h2 =>
    if r1 = 0 then (bd (X10_placeOf v1 h2) fun r3 h4 =>
    bd (X10_fillParts 32 1000 v1 r3 h4) fun _ h6 =>
    bd (X10_placeOf v2 h6) fun r7 h8 =>
    bd (X10_fillParts 33 1000 v2 r7 h8) fun _ h10 =>
    bd (X10_moreByParts h10) fun r11 h12 =>
    some (r11, h12))
    else (bd (X10_refuse r1 h2) fun r13 h14 =>
    some (r13, h14))
set_option maxRecDepth 100000 in
theorem c_X10_more (l : Launch) (v1 : Int32) (v2 : Int32) : MC l yX10_more cX10_more 4 (some .int) rmX10_more ZC [.ref 0, .int v1, .int v2] rvI (X10_more v1 v2) :=
  MC.of (own := RX10) pn_RX10 rfl (Nat.le_of_ble_eq_true rfl) fun X yd A h _ C =>
    aw_aload_n (pc := 0) C (i := 0) dK_b_56.1 rfl rfl <|
    aw_iload_n (pc := 1) C (i := 1) dK_b_56.2.1 rfl rfl <|
    aw_iload_n (pc := 2) C (i := 2) dK_b_56.2.2.1 rfl rfl <|
    aw_callF (pc := 3) C (cr_V (rest := []) (F := (X10_nobodyOfTwo v1 v2)) C (c_X10_nobodyOfTwo X.2.1 v1 v2) dK_b_56.2.2.2.1 mf_X10_nobodyOfTwo ml_X10_373 im_X10_nobodyOfTwo se_X10_nobodyOfTwo sC_0 rfl ⟨(Nat.le_of_ble_eq_true rfl), (Nat.le_of_ble_eq_true rfl)⟩ rfl rfl (Nat.le_of_ble_eq_true rfl)) rfl rfl rfl (Nat.zero_le _) (Nat.zero_le _) fun r1 h2 =>
    aw_istore_n (pc := 6) C (i := 3) (lv' := [(0, .ref 0), (1, .int v1), (2, .int v2), (3, .int r1)]) dK_b_56.2.2.2.2.1 rfl (by decide) rfl <|
    aw_iload_n (pc := 7) C (i := 3) dK_b_56.2.2.2.2.2.1 rfl rfl <|
    aw_if_eq (pc := 8) C (tgt := 17) dK_b_56.2.2.2.2.2.2.1 rfl (fun _ =>
    aw_aload_n (pc := 17) C (i := 0) dK_b_57.2.2.2.1 rfl rfl <|
    aw_aload_n (pc := 18) C (i := 0) dK_b_57.2.2.2.2.1 rfl rfl <|
    aw_getR (pc := 19) C (b := 32) dK_b_57.2.2.2.2.2.1 fl_X10_39 sC_0 rfl rC_0_13 <|
    aw_iload_n (pc := 22) C (i := 1) dK_b_57.2.2.2.2.2.2.1 rfl rfl <|
    aw_aload_n (pc := 23) C (i := 0) dK_b_57.2.2.2.2.2.2.2.1 rfl rfl <|
    aw_iload_n (pc := 24) C (i := 1) dK_b_58.1 rfl rfl <|
    aw_callF (pc := 25) C (cr_V (rest := [.int v1, .ref 32, .ref 0]) (F := (X10_placeOf v1)) C (c_X10_placeOf X.2.1 v1) dK_b_58.2.1 mf_X10_placeOf ml_X10_229 im_X10_placeOf se_X10_placeOf sC_0 rfl ⟨(Nat.le_of_ble_eq_true rfl), (Nat.le_of_ble_eq_true rfl)⟩ rfl rfl (Nat.le_of_ble_eq_true rfl)) rfl rfl rfl (Nat.zero_le _) (Nat.zero_le _) fun r3 h4 =>
    aw_callF (pc := 28) C (cr_V (rest := []) (F := (X10_fillParts 32 1000 v1 r3)) C (c_X10_fillParts X.2.1 32 1000 sC_32 v1 r3) dK_b_58.2.2.1 mf_X10_fillParts ml_X10_376 im_X10_fillParts se_X10_fillParts sC_0 rfl ⟨(Nat.le_of_ble_eq_true rfl), (Nat.le_of_ble_eq_true rfl)⟩ rfl rfl (Nat.le_of_ble_eq_true rfl)) rfl rfl rfl (Nat.zero_le _) (Nat.zero_le _) fun _ h6 =>
    aw_aload_n (pc := 31) C (i := 0) dK_b_58.2.2.2.1 rfl rfl <|
    aw_aload_n (pc := 32) C (i := 0) dK_b_58.2.2.2.2.1 rfl rfl <|
    aw_getR (pc := 33) C (b := 33) dK_b_58.2.2.2.2.2.1 fl_X10_42 sC_0 rfl rC_0_14 <|
    aw_iload_n (pc := 36) C (i := 2) dK_b_58.2.2.2.2.2.2.1 rfl rfl <|
    aw_aload_n (pc := 37) C (i := 0) dK_b_58.2.2.2.2.2.2.2.1 rfl rfl <|
    aw_iload_n (pc := 38) C (i := 2) dK_b_59.1 rfl rfl <|
    aw_callF (pc := 39) C (cr_V (rest := [.int v2, .ref 33, .ref 0]) (F := (X10_placeOf v2)) C (c_X10_placeOf X.2.1 v2) dK_b_59.2.1 mf_X10_placeOf ml_X10_229 im_X10_placeOf se_X10_placeOf sC_0 rfl ⟨(Nat.le_of_ble_eq_true rfl), (Nat.le_of_ble_eq_true rfl)⟩ rfl rfl (Nat.le_of_ble_eq_true rfl)) rfl rfl rfl (Nat.zero_le _) (Nat.zero_le _) fun r7 h8 =>
    aw_callF (pc := 42) C (cr_V (rest := []) (F := (X10_fillParts 33 1000 v2 r7)) C (c_X10_fillParts X.2.1 33 1000 sC_33 v2 r7) dK_b_59.2.2.1 mf_X10_fillParts ml_X10_376 im_X10_fillParts se_X10_fillParts sC_0 rfl ⟨(Nat.le_of_ble_eq_true rfl), (Nat.le_of_ble_eq_true rfl)⟩ rfl rfl (Nat.le_of_ble_eq_true rfl)) rfl rfl rfl (Nat.zero_le _) (Nat.zero_le _) fun _ h10 =>
    aw_aload_n (pc := 45) C (i := 0) dK_b_59.2.2.2.1 rfl rfl <|
    aw_callF (pc := 46) C (cr_V (rest := []) (F := X10_moreByParts) C (c_X10_moreByParts X.2.1 ) dK_b_59.2.2.2.2.1 mf_X10_moreByParts ml_X10_380 im_X10_moreByParts se_X10_moreByParts sC_0 rfl ⟨(Nat.le_of_ble_eq_true rfl), (Nat.le_of_ble_eq_true rfl)⟩ rfl rfl (Nat.le_of_ble_eq_true rfl)) rfl rfl rfl (Nat.zero_le _) (Nat.zero_le _) fun r11 h12 =>
    aw_iret (pc := 49) C dK_b_59.2.2.2.2.2.1 rfl rfl) (fun _ =>
    aw_aload_n (pc := 11) C (i := 0) dK_b_56.2.2.2.2.2.2.2.1 rfl rfl <|
    aw_iload_n (pc := 12) C (i := 3) dK_b_57.1 rfl rfl <|
    aw_callF (pc := 13) C (cr_V (rest := []) (F := (X10_refuse r1)) C (c_X10_refuse X.2.1 r1) dK_b_57.2.1 mf_X10_refuse ml_X10_111 im_X10_refuse se_X10_refuse sC_0 rfl ⟨(Nat.le_of_ble_eq_true rfl), (Nat.le_of_ble_eq_true rfl)⟩ rfl rfl (Nat.le_of_ble_eq_true rfl)) rfl rfl rfl (Nat.zero_le _) (Nat.zero_le _) fun r13 h14 =>
    aw_iret (pc := 16) C dK_b_57.2.2.1 rfl rfl)

abbrev rmX10_leastOfRow : Room := { frames := 1, cells := 0, slots := 0, locals := 45 }
def X10_leastOfRow (v1 : Int32) (h : AH) : Option (Int32 × AH) :=
    ck (3 * v1) 9 (ck ((3 * v1) + 1) 9 (ck ((3 * v1) + 2) 9 (some ((mn32 (h.1 34 (3 * v1).toNatClampNeg) (mn32 (h.1 34 ((3 * v1) + 1).toNatClampNeg) (h.1 34 ((3 * v1) + 2).toNatClampNeg))), h))))
set_option maxRecDepth 100000 in
theorem c_X10_leastOfRow (l : Launch) (v1 : Int32) : MC l yX10_leastOfRow cX10_leastOfRow 2 (some .int) rmX10_leastOfRow ZC [.ref 0, .int v1] rvI (X10_leastOfRow v1) :=
  MC.of (own := RX10) pn_RX10 rfl (Nat.le_of_ble_eq_true rfl) fun X yd A h _ C =>
    aw_aload_n (pc := 0) C (i := 0) dK_b_69.1 rfl rfl <|
    aw_getR (pc := 1) C (b := 34) dK_b_69.2.1 fl_X10_45 sC_0 rfl rC_0_15 <|
    aw_iconst (pc := 4) C (v := 3) dK_b_69.2.2.1 rfl <|
    aw_iload_n (pc := 5) C (i := 1) dK_b_69.2.2.2.1 rfl rfl <|
    aw_imul (pc := 6) C dK_b_69.2.2.2.2.1 <|
    aw_iald (pc := 7) C dK_b_69.2.2.2.2.2.1 sC_34 rfl <|
    aw_aload_n (pc := 8) C (i := 0) dK_b_69.2.2.2.2.2.2.1 rfl rfl <|
    aw_getR (pc := 9) C (b := 34) dK_b_69.2.2.2.2.2.2.2.1 fl_X10_45 sC_0 rfl rC_0_15 <|
    aw_iconst (pc := 12) C (v := 3) dK_b_70.1 rfl <|
    aw_iload_n (pc := 13) C (i := 1) dK_b_70.2.1 rfl rfl <|
    aw_imul (pc := 14) C dK_b_70.2.2.1 <|
    aw_iconst (pc := 15) C (v := 1) dK_b_70.2.2.2.1 rfl <|
    aw_iadd (pc := 16) C dK_b_70.2.2.2.2.1 <|
    aw_iald (pc := 17) C dK_b_70.2.2.2.2.2.1 sC_34 rfl <|
    aw_aload_n (pc := 18) C (i := 0) dK_b_70.2.2.2.2.2.2.1 rfl rfl <|
    aw_getR (pc := 19) C (b := 34) dK_b_70.2.2.2.2.2.2.2.1 fl_X10_45 sC_0 rfl rC_0_15 <|
    aw_iconst (pc := 22) C (v := 3) dK_b_71.1 rfl <|
    aw_iload_n (pc := 23) C (i := 1) dK_b_71.2.1 rfl rfl <|
    aw_imul (pc := 24) C dK_b_71.2.2.1 <|
    aw_iconst (pc := 25) C (v := 2) dK_b_71.2.2.2.1 rfl <|
    aw_iadd (pc := 26) C dK_b_71.2.2.2.2.1 <|
    aw_iald (pc := 27) C dK_b_71.2.2.2.2.2.1 sC_34 rfl <|
    aw_mmin (pc := 28) C dK_b_71.2.2.2.2.2.2.1 ml_X10_291 w_mminS w_mI w_mminC ⟨(Nat.le_of_ble_eq_true rfl), (Nat.le_of_ble_eq_true rfl)⟩ (Nat.zero_le _) (Nat.zero_le _) <|
    aw_mmin (pc := 31) C dK_b_71.2.2.2.2.2.2.2.1 ml_X10_291 w_mminS w_mI w_mminC ⟨(Nat.le_of_ble_eq_true rfl), (Nat.le_of_ble_eq_true rfl)⟩ (Nat.zero_le _) (Nat.zero_le _) <|
    aw_iret (pc := 34) C dK_b_72.1 rfl rfl
end
section
abbrev rmX10_sure : Room := { frames := 2, cells := 0, slots := 0, locals := 66 }
def X10_sure  (h : AH) : Option (Int32 × AH) :=
    bd (X10_leastOfRow 0 h) fun r1 h2 =>
    bd (X10_leastOfRow 1 h2) fun r3 h4 =>
    bd (X10_leastOfRow 2 h4) fun r5 h6 =>
    some ((mx32 r1 (mx32 r3 r5)), h6)
set_option maxRecDepth 100000 in
theorem c_X10_sure (l : Launch)  : MC l yX10_sure cX10_sure 1 (some .int) rmX10_sure ZC [.ref 0] rvI (X10_sure) :=
  MC.of (own := RX10) pn_RX10 rfl (Nat.le_of_ble_eq_true rfl) fun X yd A h _ C =>
    aw_aload_n (pc := 0) C (i := 0) dK_b_76.1 rfl rfl <|
    aw_iconst (pc := 1) C (v := 0) dK_b_76.2.1 rfl <|
    aw_callF (pc := 2) C (cr_V (rest := []) (F := (X10_leastOfRow 0)) C (c_X10_leastOfRow X.2.1 0) dK_b_76.2.2.1 mf_X10_leastOfRow ml_X10_389 im_X10_leastOfRow se_X10_leastOfRow sC_0 rfl ⟨(Nat.le_of_ble_eq_true rfl), (Nat.le_of_ble_eq_true rfl)⟩ rfl rfl (Nat.le_of_ble_eq_true rfl)) rfl rfl rfl (Nat.zero_le _) (Nat.zero_le _) fun r1 h2 =>
    aw_aload_n (pc := 5) C (i := 0) dK_b_76.2.2.2.1 rfl rfl <|
    aw_iconst (pc := 6) C (v := 1) dK_b_76.2.2.2.2.1 rfl <|
    aw_callF (pc := 7) C (cr_V (rest := [.int r1]) (F := (X10_leastOfRow 1)) C (c_X10_leastOfRow X.2.1 1) dK_b_76.2.2.2.2.2.1 mf_X10_leastOfRow ml_X10_389 im_X10_leastOfRow se_X10_leastOfRow sC_0 rfl ⟨(Nat.le_of_ble_eq_true rfl), (Nat.le_of_ble_eq_true rfl)⟩ rfl rfl (Nat.le_of_ble_eq_true rfl)) rfl rfl rfl (Nat.zero_le _) (Nat.zero_le _) fun r3 h4 =>
    aw_aload_n (pc := 10) C (i := 0) dK_b_76.2.2.2.2.2.2.1 rfl rfl <|
    aw_iconst (pc := 11) C (v := 2) dK_b_76.2.2.2.2.2.2.2.1 rfl <|
    aw_callF (pc := 12) C (cr_V (rest := [.int r3, .int r1]) (F := (X10_leastOfRow 2)) C (c_X10_leastOfRow X.2.1 2) dK_b_77.1 mf_X10_leastOfRow ml_X10_389 im_X10_leastOfRow se_X10_leastOfRow sC_0 rfl ⟨(Nat.le_of_ble_eq_true rfl), (Nat.le_of_ble_eq_true rfl)⟩ rfl rfl (Nat.le_of_ble_eq_true rfl)) rfl rfl rfl (Nat.zero_le _) (Nat.zero_le _) fun r5 h6 =>
    aw_mmax (pc := 15) C dK_b_77.2.1 ml_X10_286 w_mmaxS w_mI w_mmaxC ⟨(Nat.le_of_ble_eq_true rfl), (Nat.le_of_ble_eq_true rfl)⟩ (Nat.zero_le _) (Nat.zero_le _) <|
    aw_mmax (pc := 18) C dK_b_77.2.2.1 ml_X10_286 w_mmaxS w_mI w_mmaxC ⟨(Nat.le_of_ble_eq_true rfl), (Nat.le_of_ble_eq_true rfl)⟩ (Nat.zero_le _) (Nat.zero_le _) <|
    aw_iret (pc := 21) C dK_b_77.2.2.2.1 rfl rfl

abbrev rmX10_mostOfColumn : Room := { frames := 1, cells := 0, slots := 0, locals := 45 }
def X10_mostOfColumn (v1 : Int32) (h : AH) : Option (Int32 × AH) :=
    ck v1 9 (ck (3 + v1) 9 (ck (6 + v1) 9 (some ((mx32 (h.1 34 v1.toNatClampNeg) (mx32 (h.1 34 (3 + v1).toNatClampNeg) (h.1 34 (6 + v1).toNatClampNeg))), h))))
set_option maxRecDepth 100000 in
theorem c_X10_mostOfColumn (l : Launch) (v1 : Int32) : MC l yX10_mostOfColumn cX10_mostOfColumn 2 (some .int) rmX10_mostOfColumn ZC [.ref 0, .int v1] rvI (X10_mostOfColumn v1) :=
  MC.of (own := RX10) pn_RX10 rfl (Nat.le_of_ble_eq_true rfl) fun X yd A h _ C =>
    aw_aload_n (pc := 0) C (i := 0) dK_b_73.1 rfl rfl <|
    aw_getR (pc := 1) C (b := 34) dK_b_73.2.1 fl_X10_45 sC_0 rfl rC_0_15 <|
    aw_iload_n (pc := 4) C (i := 1) dK_b_73.2.2.1 rfl rfl <|
    aw_iald (pc := 5) C dK_b_73.2.2.2.1 sC_34 rfl <|
    aw_aload_n (pc := 6) C (i := 0) dK_b_73.2.2.2.2.1 rfl rfl <|
    aw_getR (pc := 7) C (b := 34) dK_b_73.2.2.2.2.2.1 fl_X10_45 sC_0 rfl rC_0_15 <|
    aw_iconst (pc := 10) C (v := 3) dK_b_73.2.2.2.2.2.2.1 rfl <|
    aw_iload_n (pc := 11) C (i := 1) dK_b_73.2.2.2.2.2.2.2.1 rfl rfl <|
    aw_iadd (pc := 12) C dK_b_74.1 <|
    aw_iald (pc := 13) C dK_b_74.2.1 sC_34 rfl <|
    aw_aload_n (pc := 14) C (i := 0) dK_b_74.2.2.1 rfl rfl <|
    aw_getR (pc := 15) C (b := 34) dK_b_74.2.2.2.1 fl_X10_45 sC_0 rfl rC_0_15 <|
    aw_bipush (pc := 18) C (v := 6) dK_b_74.2.2.2.2.1 rfl <|
    aw_iload_n (pc := 20) C (i := 1) dK_b_74.2.2.2.2.2.1 rfl rfl <|
    aw_iadd (pc := 21) C dK_b_74.2.2.2.2.2.2.1 <|
    aw_iald (pc := 22) C dK_b_74.2.2.2.2.2.2.2.1 sC_34 rfl <|
    aw_mmax (pc := 23) C dK_b_75.1 ml_X10_286 w_mmaxS w_mI w_mmaxC ⟨(Nat.le_of_ble_eq_true rfl), (Nat.le_of_ble_eq_true rfl)⟩ (Nat.zero_le _) (Nat.zero_le _) <|
    aw_mmax (pc := 26) C dK_b_75.2.1 ml_X10_286 w_mmaxS w_mI w_mmaxC ⟨(Nat.le_of_ble_eq_true rfl), (Nat.le_of_ble_eq_true rfl)⟩ (Nat.zero_le _) (Nat.zero_le _) <|
    aw_iret (pc := 29) C dK_b_75.2.2.1 rfl rfl

abbrev rmX10_calmPair : Room := { frames := 2, cells := 0, slots := 0, locals := 66 }
def X10_calmPair_j62  (v1 : Int32) (v2 : Int32) (v3 : Int32) (K2 : Int32 → AH → Option (Int32 × AH)) (K9 : Int32 → AH → Option (Int32 × AH)) (h : AH) : Option (Int32 × AH) :=
    vl (v3 + 1) fun x5 =>
    K9 x5 h
set_option maxRecDepth 100000 in
theorem aX10_calmPair_j62 {X : MCx} {yd : Dyn} {A : Nat → Prop} (C : OK X cX10_calmPair RX10 5 (some .int) rmX10_calmPair A)  (v1 : Int32) (v2 : Int32) (v3 : Int32) (K2 : Int32 → AH → Option (Int32 × AH)) (hK2 : ∀ (w2 : Int32) (h : AH), AW X 5 ZC yd A 0 0 (QF X rmX10_calmPair ZC yd rvI A) 2 [(0, .ref 0), (1, .int v1), (2, .int w2)] [] h (K2 w2 h)) (K9 : Int32 → AH → Option (Int32 × AH)) (hK9 : ∀ (w3 : Int32) (h : AH), AW X 5 ZC yd A 0 0 (QF X rmX10_calmPair ZC yd rvI A) 9 [(0, .ref 0), (1, .int v1), (2, .int v2), (3, .int w3)] [] h (K9 w3 h)) (h : AH) : AW X 5 ZC yd A 0 0 (QF X rmX10_calmPair ZC yd rvI A) 62 [(0, .ref 0), (1, .int v1), (2, .int v2), (3, .int v3)] [] h (X10_calmPair_j62 v1 v2 v3 K2 K9 h) := by
    exact aw_iincV (pc := 62) C (i := 3) (cst := 1) (fun x5 => [(0, .ref 0), (1, .int v1), (2, .int v2), (3, .int x5)]) dK_b_82.2.2.2.2.2.2.2.1 rfl rfl (by decide) (fun _ => rfl) fun x5 =>
    aw_goto (pc := 65) C (tgt := 9) dK_b_83.1 rfl <|
    (hK9 x5 h)
def X10_calmPair_l9  (v1 : Int32) (v2 : Int32) (K2 : Int32 → AH → Option (Int32 × AH)) : Nat → Int32 → AH → Option (Int32 × AH)
  | 0, _, _ => none
  | n + 1, v3, h =>
    if 3 ≤ v3 then (vl (v2 + 1) fun x1 =>
    K2 x1 h)
    else (ck ((3 * v2) + v3) 9 (vl (h.1 34 ((3 * v2) + v3).toNatClampNeg) fun x2 =>
    bd (X10_leastOfRow v2 h) fun r3 h4 =>
    if x2 = r3 then (bd (X10_mostOfColumn v3 h4) fun r6 h7 =>
    if x2 = r6 then (if v1 = 0 then (some (((10 * v2) + v3), h7))
    else (some (x2, h7)))
    else (X10_calmPair_j62 v1 v2 v3 K2 (X10_calmPair_l9 v1 v2 K2 n) h7))
    else (X10_calmPair_j62 v1 v2 v3 K2 (X10_calmPair_l9 v1 v2 K2 n) h4)))
set_option maxRecDepth 100000 in
theorem aX10_calmPair_l9 {X : MCx} {yd : Dyn} {A : Nat → Prop} (C : OK X cX10_calmPair RX10 5 (some .int) rmX10_calmPair A)  (v1 : Int32) (v2 : Int32) (K2 : Int32 → AH → Option (Int32 × AH)) (hK2 : ∀ (w2 : Int32) (h : AH), AW X 5 ZC yd A 0 0 (QF X rmX10_calmPair ZC yd rvI A) 2 [(0, .ref 0), (1, .int v1), (2, .int w2)] [] h (K2 w2 h)) : ∀ (n : Nat) (v3 : Int32) (h : AH), AW X 5 ZC yd A 0 0 (QF X rmX10_calmPair ZC yd rvI A) 9 [(0, .ref 0), (1, .int v1), (2, .int v2), (3, .int v3)] [] h (X10_calmPair_l9 v1 v2 K2 n v3 h) := by
  intro n
  induction n with
  | zero => intro v3 h; exact aw_none
  | succ n ih =>
    intro v3 h
    exact aw_iload_n (pc := 9) C (i := 3) dK_b_78.2.2.2.2.2.2.2.1 rfl rfl <|
    aw_iconst (pc := 10) C (v := 3) dK_b_79.1 rfl <|
    aw_icmp_ge (pc := 11) C (tgt := 68) dK_b_79.2.1 rfl (fun _ =>
    aw_iincV (pc := 68) C (i := 2) (cst := 1) (fun x1 => [(0, .ref 0), (1, .int v1), (2, .int x1), (3, .int v3)]) dK_b_83.2.1 rfl rfl (by decide) (fun _ => rfl) fun x1 =>
    aw_goto (pc := 71) C (tgt := 2) dK_b_83.2.2.1 rfl <|
    aw_drop [0, 1, 2] (hK2 x1 h)) (fun _ =>
    aw_aload_n (pc := 14) C (i := 0) dK_b_79.2.2.1 rfl rfl <|
    aw_getR (pc := 15) C (b := 34) dK_b_79.2.2.2.1 fl_X10_45 sC_0 rfl rC_0_15 <|
    aw_iconst (pc := 18) C (v := 3) dK_b_79.2.2.2.2.1 rfl <|
    aw_iload_n (pc := 19) C (i := 2) dK_b_79.2.2.2.2.2.1 rfl rfl <|
    aw_imul (pc := 20) C dK_b_79.2.2.2.2.2.2.1 <|
    aw_iload_n (pc := 21) C (i := 3) dK_b_79.2.2.2.2.2.2.2.1 rfl rfl <|
    aw_iadd (pc := 22) C dK_b_80.1 <|
    aw_iald (pc := 23) C dK_b_80.2.1 sC_34 rfl <|
    aw_istoreV (pc := 24) C (i := 4) (fun x2 => [(0, .ref 0), (1, .int v1), (2, .int v2), (3, .int v3), (4, .int x2)]) dK_b_80.2.2.1 (by decide) (fun _ => rfl) fun x2 =>
    aw_iload (pc := 26) C (i := 4) dK_b_80.2.2.2.1 rfl <|
    aw_aload_n (pc := 28) C (i := 0) dK_b_80.2.2.2.2.1 rfl rfl <|
    aw_iload_n (pc := 29) C (i := 2) dK_b_80.2.2.2.2.2.1 rfl rfl <|
    aw_callF (pc := 30) C (cr_V (rest := [.int x2]) (F := (X10_leastOfRow v2)) C (c_X10_leastOfRow X.2.1 v2) dK_b_80.2.2.2.2.2.2.1 mf_X10_leastOfRow ml_X10_389 im_X10_leastOfRow se_X10_leastOfRow sC_0 rfl ⟨(Nat.le_of_ble_eq_true rfl), (Nat.le_of_ble_eq_true rfl)⟩ rfl rfl (Nat.le_of_ble_eq_true rfl)) rfl rfl rfl (Nat.zero_le _) (Nat.zero_le _) fun r3 h4 =>
    aw_icmp_ne (pc := 33) C (tgt := 62) dK_b_80.2.2.2.2.2.2.2.1 rfl (fun _ =>
    aw_iload (pc := 36) C (i := 4) dK_b_81.1 rfl <|
    aw_aload_n (pc := 38) C (i := 0) dK_b_81.2.1 rfl rfl <|
    aw_iload_n (pc := 39) C (i := 3) dK_b_81.2.2.1 rfl rfl <|
    aw_callF (pc := 40) C (cr_V (rest := [.int x2]) (F := (X10_mostOfColumn v3)) C (c_X10_mostOfColumn X.2.1 v3) dK_b_81.2.2.2.1 mf_X10_mostOfColumn ml_X10_392 im_X10_mostOfColumn se_X10_mostOfColumn sC_0 rfl ⟨(Nat.le_of_ble_eq_true rfl), (Nat.le_of_ble_eq_true rfl)⟩ rfl rfl (Nat.le_of_ble_eq_true rfl)) rfl rfl rfl (Nat.zero_le _) (Nat.zero_le _) fun r6 h7 =>
    aw_icmp_ne (pc := 43) C (tgt := 62) dK_b_81.2.2.2.2.1 rfl (fun _ =>
    aw_iload_n (pc := 46) C (i := 1) dK_b_81.2.2.2.2.2.1 rfl rfl <|
    aw_if_ne (pc := 47) C (tgt := 59) dK_b_81.2.2.2.2.2.2.1 rfl (fun _ =>
    aw_bipush (pc := 50) C (v := 10) dK_b_81.2.2.2.2.2.2.2.1 rfl <|
    aw_iload_n (pc := 52) C (i := 2) dK_b_82.1 rfl rfl <|
    aw_imul (pc := 53) C dK_b_82.2.1 <|
    aw_iload_n (pc := 54) C (i := 3) dK_b_82.2.2.1 rfl rfl <|
    aw_iadd (pc := 55) C dK_b_82.2.2.2.1 <|
    aw_goto (pc := 56) C (tgt := 61) dK_b_82.2.2.2.2.1 rfl <|
    aw_iret (pc := 61) C dK_b_82.2.2.2.2.2.2.1 rfl rfl) (fun _ =>
    aw_iload (pc := 59) C (i := 4) dK_b_82.2.2.2.2.2.1 rfl <|
    aw_iret (pc := 61) C dK_b_82.2.2.2.2.2.2.1 rfl rfl)) (fun _ =>
    aw_drop [0, 1, 2, 3] (aX10_calmPair_j62 C v1 v2 v3 K2 hK2 (X10_calmPair_l9 v1 v2 K2 n) ih h7))) (fun _ =>
    aw_drop [0, 1, 2, 3] (aX10_calmPair_j62 C v1 v2 v3 K2 hK2 (X10_calmPair_l9 v1 v2 K2 n) ih h4)))
def X10_calmPair_l2  (v1 : Int32) : Nat → Int32 → AH → Option (Int32 × AH)
  | 0, _, _ => none
  | n + 1, v2, h =>
    if 3 ≤ v2 then (some ((-9), h))
    else (X10_calmPair_l9 v1 v2 (X10_calmPair_l2 v1 n) FU 0 h)
set_option maxRecDepth 100000 in
theorem aX10_calmPair_l2 {X : MCx} {yd : Dyn} {A : Nat → Prop} (C : OK X cX10_calmPair RX10 5 (some .int) rmX10_calmPair A)  (v1 : Int32) : ∀ (n : Nat) (v2 : Int32) (h : AH), AW X 5 ZC yd A 0 0 (QF X rmX10_calmPair ZC yd rvI A) 2 [(0, .ref 0), (1, .int v1), (2, .int v2)] [] h (X10_calmPair_l2 v1 n v2 h) := by
  intro n
  induction n with
  | zero => intro v2 h; exact aw_none
  | succ n ih =>
    intro v2 h
    exact aw_iload_n (pc := 2) C (i := 2) dK_b_78.2.2.1 rfl rfl <|
    aw_iconst (pc := 3) C (v := 3) dK_b_78.2.2.2.1 rfl <|
    aw_icmp_ge (pc := 4) C (tgt := 74) dK_b_78.2.2.2.2.1 rfl (fun _ =>
    aw_bipush (pc := 74) C (v := (-9)) dK_b_83.2.2.2.1 rfl <|
    aw_iret (pc := 76) C dK_b_83.2.2.2.2.1 rfl rfl) (fun _ =>
    aw_iconst (pc := 7) C (v := 0) dK_b_78.2.2.2.2.2.1 rfl <|
    aw_istore_n (pc := 8) C (i := 3) (lv' := [(0, .ref 0), (1, .int v1), (2, .int v2), (3, .int 0)]) dK_b_78.2.2.2.2.2.2.1 rfl (by decide) rfl <|
    (aX10_calmPair_l9 C v1 v2 (X10_calmPair_l2 v1 n) ih FU 0 h))
def X10_calmPair (v1 : Int32) (h : AH) : Option (Int32 × AH) :=
    X10_calmPair_l2 v1 FU 0 h
set_option maxRecDepth 100000 in
theorem c_X10_calmPair (l : Launch) (v1 : Int32) : MC l yX10_calmPair cX10_calmPair 5 (some .int) rmX10_calmPair ZC [.ref 0, .int v1] rvI (X10_calmPair v1) :=
  MC.of (own := RX10) pn_RX10 rfl (Nat.le_of_ble_eq_true rfl) fun X yd A h _ C =>
    aw_iconst (pc := 0) C (v := 0) dK_b_78.1 rfl <|
    aw_istore_n (pc := 1) C (i := 2) (lv' := [(0, .ref 0), (1, .int v1), (2, .int 0)]) dK_b_78.2.1 rfl (by decide) rfl <|
    (aX10_calmPair_l2 C v1 FU 0 h)

abbrev rmX10_duel : Room := { frames := 6, cells := 0, slots := 0, locals := 160 }
def X10_duel_l54  (v1 : Int32) (v2 : Int32) (v3 : Int32) (v5 : Int32) (K31 : Int32 → AH → Option (Int32 × AH)) : Nat → Int32 → AH → Option (Int32 × AH)
  | 0, _, _ => none
  | n + 1, v6, h =>
    if 3 ≤ v6 then (vl (v5 + 1) fun x13 =>
    K31 x13 h)
    else (bd (X10_fillParts 33 1000 v2 (6 * v6) h) fun _ h15 =>
    bd (X10_moreByParts h15) fun r16 h17 =>
    ck ((3 * v5) + v6) 9 (vl (sI h17 34 ((3 * v5) + v6).toNatClampNeg r16) fun h18 =>
    vl (v6 + 1) fun x19 =>
    (X10_duel_l54 v1 v2 v3 v5 K31 n) x19 h18))
set_option maxRecDepth 100000 in
theorem aX10_duel_l54 {X : MCx} {yd : Dyn} {A : Nat → Prop} (C : OK X cX10_duel RX10 7 (some .int) rmX10_duel A)  (v1 : Int32) (v2 : Int32) (v3 : Int32) (v5 : Int32) (K31 : Int32 → AH → Option (Int32 × AH)) (hK31 : ∀ (w5 : Int32) (h : AH), AW X 7 ZC yd A 0 0 (QF X rmX10_duel ZC yd rvI A) 31 [(0, .ref 0), (1, .int v1), (2, .int v2), (3, .int v3), (5, .int w5)] [] h (K31 w5 h)) : ∀ (n : Nat) (v6 : Int32) (h : AH), AW X 7 ZC yd A 0 0 (QF X rmX10_duel ZC yd rvI A) 54 [(0, .ref 0), (1, .int v1), (2, .int v2), (3, .int v3), (5, .int v5), (6, .int v6)] [] h (X10_duel_l54 v1 v2 v3 v5 K31 n v6 h) := by
  intro n
  induction n with
  | zero => intro v6 h; exact aw_none
  | succ n ih =>
    intro v6 h
    exact aw_iload (pc := 54) C (i := 6) dK_b_63.2.2.2.2.2.2.1 rfl <|
    aw_iconst (pc := 56) C (v := 3) dK_b_63.2.2.2.2.2.2.2.1 rfl <|
    aw_icmp_ge (pc := 57) C (tgt := 96) dK_b_64.1 rfl (fun _ =>
    aw_iincV (pc := 96) C (i := 5) (cst := 1) (fun x13 => [(0, .ref 0), (1, .int v1), (2, .int v2), (3, .int v3), (5, .int x13), (6, .int v6)]) dK_b_66.2.2.2.2.2.1 rfl rfl (by decide) (fun _ => rfl) fun x13 =>
    aw_goto (pc := 99) C (tgt := 31) dK_b_66.2.2.2.2.2.2.1 rfl <|
    aw_drop [0, 1, 2, 3, 4] (hK31 x13 h)) (fun _ =>
    aw_aload_n (pc := 60) C (i := 0) dK_b_64.2.1 rfl rfl <|
    aw_aload_n (pc := 61) C (i := 0) dK_b_64.2.2.1 rfl rfl <|
    aw_getR (pc := 62) C (b := 33) dK_b_64.2.2.2.1 fl_X10_42 sC_0 rfl rC_0_14 <|
    aw_iload_n (pc := 65) C (i := 2) dK_b_64.2.2.2.2.1 rfl rfl <|
    aw_bipush (pc := 66) C (v := 6) dK_b_64.2.2.2.2.2.1 rfl <|
    aw_iload (pc := 68) C (i := 6) dK_b_64.2.2.2.2.2.2.1 rfl <|
    aw_imul (pc := 70) C dK_b_64.2.2.2.2.2.2.2.1 <|
    aw_callF (pc := 71) C (cr_V (rest := []) (F := (X10_fillParts 33 1000 v2 (6 * v6))) C (c_X10_fillParts X.2.1 33 1000 sC_33 v2 (6 * v6)) dK_b_65.1 mf_X10_fillParts ml_X10_376 im_X10_fillParts se_X10_fillParts sC_0 rfl ⟨(Nat.le_of_ble_eq_true rfl), (Nat.le_of_ble_eq_true rfl)⟩ rfl rfl (Nat.le_of_ble_eq_true rfl)) rfl rfl rfl (Nat.zero_le _) (Nat.zero_le _) fun _ h15 =>
    aw_aload_n (pc := 74) C (i := 0) dK_b_65.2.1 rfl rfl <|
    aw_getR (pc := 75) C (b := 34) dK_b_65.2.2.1 fl_X10_45 sC_0 rfl rC_0_15 <|
    aw_iconst (pc := 78) C (v := 3) dK_b_65.2.2.2.1 rfl <|
    aw_iload (pc := 79) C (i := 5) dK_b_65.2.2.2.2.1 rfl <|
    aw_imul (pc := 81) C dK_b_65.2.2.2.2.2.1 <|
    aw_iload (pc := 82) C (i := 6) dK_b_65.2.2.2.2.2.2.1 rfl <|
    aw_iadd (pc := 84) C dK_b_65.2.2.2.2.2.2.2.1 <|
    aw_aload_n (pc := 85) C (i := 0) dK_b_66.1 rfl rfl <|
    aw_callF (pc := 86) C (cr_V (rest := [.int ((3 * v5) + v6), .ref 34]) (F := X10_moreByParts) C (c_X10_moreByParts X.2.1 ) dK_b_66.2.1 mf_X10_moreByParts ml_X10_380 im_X10_moreByParts se_X10_moreByParts sC_0 rfl ⟨(Nat.le_of_ble_eq_true rfl), (Nat.le_of_ble_eq_true rfl)⟩ rfl rfl (Nat.le_of_ble_eq_true rfl)) rfl rfl rfl (Nat.zero_le _) (Nat.zero_le _) fun r16 h17 =>
    aw_iast (pc := 89) C dK_b_66.2.2.1 sC_34 rfl fun h18 =>
    aw_iincV (pc := 90) C (i := 6) (cst := 1) (fun x19 => [(0, .ref 0), (1, .int v1), (2, .int v2), (3, .int v3), (5, .int v5), (6, .int x19)]) dK_b_66.2.2.2.1 rfl rfl (by decide) (fun _ => rfl) fun x19 =>
    aw_goto (pc := 93) C (tgt := 54) dK_b_66.2.2.2.2.1 rfl <|
    (ih x19 h18))
def X10_duel_l31  (v1 : Int32) (v2 : Int32) (v3 : Int32) : Nat → Int32 → AH → Option (Int32 × AH)
  | 0, _, _ => none
  | n + 1, v5, h =>
    if 3 ≤ v5 then (if v3 = 2 then (bd (X10_sure h) fun r9 h10 =>
    some (r9, h10))
    else (bd (X10_calmPair v3 h) fun r7 h8 =>
    some (r7, h8)))
    else (bd (X10_fillParts 32 1000 v1 (6 * v5) h) fun _ h12 =>
    X10_duel_l54 v1 v2 v3 v5 (X10_duel_l31 v1 v2 v3 n) FU 0 h12)
set_option maxRecDepth 100000 in
theorem aX10_duel_l31 {X : MCx} {yd : Dyn} {A : Nat → Prop} (C : OK X cX10_duel RX10 7 (some .int) rmX10_duel A)  (v1 : Int32) (v2 : Int32) (v3 : Int32) : ∀ (n : Nat) (v5 : Int32) (h : AH), AW X 7 ZC yd A 0 0 (QF X rmX10_duel ZC yd rvI A) 31 [(0, .ref 0), (1, .int v1), (2, .int v2), (3, .int v3), (5, .int v5)] [] h (X10_duel_l31 v1 v2 v3 n v5 h) := by
  intro n
  induction n with
  | zero => intro v5 h; exact aw_none
  | succ n ih =>
    intro v5 h
    exact aw_iload (pc := 31) C (i := 5) dK_b_62.2.1 rfl <|
    aw_iconst (pc := 33) C (v := 3) dK_b_62.2.2.1 rfl <|
    aw_icmp_ge (pc := 34) C (tgt := 102) dK_b_62.2.2.2.1 rfl (fun _ =>
    aw_iload_n (pc := 102) C (i := 3) dK_b_66.2.2.2.2.2.2.2.1 rfl rfl <|
    aw_iconst (pc := 103) C (v := 2) dK_b_67.1 rfl <|
    aw_icmp_ne (pc := 104) C (tgt := 114) dK_b_67.2.1 rfl (fun _ =>
    aw_aload_n (pc := 107) C (i := 0) dK_b_67.2.2.1 rfl rfl <|
    aw_callF (pc := 108) C (cr_V (rest := []) (F := X10_sure) C (c_X10_sure X.2.1 ) dK_b_67.2.2.2.1 mf_X10_sure ml_X10_383 im_X10_sure se_X10_sure sC_0 rfl ⟨(Nat.le_of_ble_eq_true rfl), (Nat.le_of_ble_eq_true rfl)⟩ rfl rfl (Nat.le_of_ble_eq_true rfl)) rfl rfl rfl (Nat.zero_le _) (Nat.zero_le _) fun r9 h10 =>
    aw_goto (pc := 111) C (tgt := 119) dK_b_67.2.2.2.2.1 rfl <|
    aw_iret (pc := 119) C dK_b_68.1 rfl rfl) (fun _ =>
    aw_aload_n (pc := 114) C (i := 0) dK_b_67.2.2.2.2.2.1 rfl rfl <|
    aw_iload_n (pc := 115) C (i := 3) dK_b_67.2.2.2.2.2.2.1 rfl rfl <|
    aw_callF (pc := 116) C (cr_V (rest := []) (F := (X10_calmPair v3)) C (c_X10_calmPair X.2.1 v3) dK_b_67.2.2.2.2.2.2.2.1 mf_X10_calmPair ml_X10_386 im_X10_calmPair se_X10_calmPair sC_0 rfl ⟨(Nat.le_of_ble_eq_true rfl), (Nat.le_of_ble_eq_true rfl)⟩ rfl rfl (Nat.le_of_ble_eq_true rfl)) rfl rfl rfl (Nat.zero_le _) (Nat.zero_le _) fun r7 h8 =>
    aw_iret (pc := 119) C dK_b_68.1 rfl rfl)) (fun _ =>
    aw_aload_n (pc := 37) C (i := 0) dK_b_62.2.2.2.2.1 rfl rfl <|
    aw_aload_n (pc := 38) C (i := 0) dK_b_62.2.2.2.2.2.1 rfl rfl <|
    aw_getR (pc := 39) C (b := 32) dK_b_62.2.2.2.2.2.2.1 fl_X10_39 sC_0 rfl rC_0_13 <|
    aw_iload_n (pc := 42) C (i := 1) dK_b_62.2.2.2.2.2.2.2.1 rfl rfl <|
    aw_bipush (pc := 43) C (v := 6) dK_b_63.1 rfl <|
    aw_iload (pc := 45) C (i := 5) dK_b_63.2.1 rfl <|
    aw_imul (pc := 47) C dK_b_63.2.2.1 <|
    aw_callF (pc := 48) C (cr_V (rest := []) (F := (X10_fillParts 32 1000 v1 (6 * v5))) C (c_X10_fillParts X.2.1 32 1000 sC_32 v1 (6 * v5)) dK_b_63.2.2.2.1 mf_X10_fillParts ml_X10_376 im_X10_fillParts se_X10_fillParts sC_0 rfl ⟨(Nat.le_of_ble_eq_true rfl), (Nat.le_of_ble_eq_true rfl)⟩ rfl rfl (Nat.le_of_ble_eq_true rfl)) rfl rfl rfl (Nat.zero_le _) (Nat.zero_le _) fun _ h12 =>
    aw_iconst (pc := 51) C (v := 0) dK_b_63.2.2.2.2.1 rfl <|
    aw_istore (pc := 52) C (i := 6) (lv' := [(0, .ref 0), (1, .int v1), (2, .int v2), (3, .int v3), (5, .int v5), (6, .int 0)]) dK_b_63.2.2.2.2.2.1 (by decide) rfl <|
    (aX10_duel_l54 C v1 v2 v3 v5 (X10_duel_l31 v1 v2 v3 n) ih FU 0 h12))
def X10_duel (v1 : Int32) (v2 : Int32) (v3 : Int32) (h : AH) : Option (Int32 × AH) :=
    bd (X10_nobodyOfTwo v1 v2 h) fun r1 h2 =>
    bd (X10_noSuch v3 2 h2) fun r3 h4 =>
    bd (X10_first r1 r3 h4) fun r5 h6 =>
    if r5 = 0 then (X10_duel_l31 v1 v2 v3 FU 0 h6)
    else (bd (X10_refuse r5 h6) fun r20 h21 =>
    some (r20, h21))
set_option maxRecDepth 100000 in
theorem c_X10_duel (l : Launch) (v1 : Int32) (v2 : Int32) (v3 : Int32) : MC l yX10_duel cX10_duel 7 (some .int) rmX10_duel ZC [.ref 0, .int v1, .int v2, .int v3] rvI (X10_duel v1 v2 v3) :=
  MC.of (own := RX10) pn_RX10 rfl (Nat.le_of_ble_eq_true rfl) fun X yd A h _ C =>
    aw_aload_n (pc := 0) C (i := 0) dK_b_60.1 rfl rfl <|
    aw_iload_n (pc := 1) C (i := 1) dK_b_60.2.1 rfl rfl <|
    aw_iload_n (pc := 2) C (i := 2) dK_b_60.2.2.1 rfl rfl <|
    aw_callF (pc := 3) C (cr_V (rest := []) (F := (X10_nobodyOfTwo v1 v2)) C (c_X10_nobodyOfTwo X.2.1 v1 v2) dK_b_60.2.2.2.1 mf_X10_nobodyOfTwo ml_X10_373 im_X10_nobodyOfTwo se_X10_nobodyOfTwo sC_0 rfl ⟨(Nat.le_of_ble_eq_true rfl), (Nat.le_of_ble_eq_true rfl)⟩ rfl rfl (Nat.le_of_ble_eq_true rfl)) rfl rfl rfl (Nat.zero_le _) (Nat.zero_le _) fun r1 h2 =>
    aw_iload_n (pc := 6) C (i := 3) dK_b_60.2.2.2.2.1 rfl rfl <|
    aw_iconst (pc := 7) C (v := 2) dK_b_60.2.2.2.2.2.1 rfl <|
    aw_callF (pc := 8) C (cr_S (rest := [.int r1]) (F := (X10_noSuch v3 2)) C (c_X10_noSuch X.2.1 v3 2) dK_b_60.2.2.2.2.2.2.1 mf_X10_noSuch ml_X10_101 st_X10_noSuch ⟨(Nat.le_of_ble_eq_true rfl), (Nat.le_of_ble_eq_true rfl)⟩ rfl rfl (Nat.le_of_ble_eq_true rfl)) rfl rfl rfl (Nat.zero_le _) (Nat.zero_le _) fun r3 h4 =>
    aw_callF (pc := 11) C (cr_S (rest := []) (F := (X10_first r1 r3)) C (c_X10_first X.2.1 r1 r3) dK_b_60.2.2.2.2.2.2.2.1 mf_X10_first ml_X10_97 st_X10_first ⟨(Nat.le_of_ble_eq_true rfl), (Nat.le_of_ble_eq_true rfl)⟩ rfl rfl (Nat.le_of_ble_eq_true rfl)) rfl rfl rfl (Nat.zero_le _) (Nat.zero_le _) fun r5 h6 =>
    aw_istore (pc := 14) C (i := 4) (lv' := [(0, .ref 0), (1, .int v1), (2, .int v2), (3, .int v3), (4, .int r5)]) dK_b_61.1 (by decide) rfl <|
    aw_iload (pc := 16) C (i := 4) dK_b_61.2.1 rfl <|
    aw_if_eq (pc := 18) C (tgt := 28) dK_b_61.2.2.1 rfl (fun _ =>
    aw_iconst (pc := 28) C (v := 0) dK_b_61.2.2.2.2.2.2.2.1 rfl <|
    aw_istore (pc := 29) C (i := 5) (lv' := [(0, .ref 0), (1, .int v1), (2, .int v2), (3, .int v3), (4, .int r5), (5, .int 0)]) dK_b_62.1 (by decide) rfl <|
    aw_drop [0, 1, 2, 3, 5] (aX10_duel_l31 C v1 v2 v3 FU 0 h6)) (fun _ =>
    aw_aload_n (pc := 21) C (i := 0) dK_b_61.2.2.2.1 rfl rfl <|
    aw_iload (pc := 22) C (i := 4) dK_b_61.2.2.2.2.1 rfl <|
    aw_callF (pc := 24) C (cr_V (rest := []) (F := (X10_refuse r5)) C (c_X10_refuse X.2.1 r5) dK_b_61.2.2.2.2.2.1 mf_X10_refuse ml_X10_111 im_X10_refuse se_X10_refuse sC_0 rfl ⟨(Nat.le_of_ble_eq_true rfl), (Nat.le_of_ble_eq_true rfl)⟩ rfl rfl (Nat.le_of_ble_eq_true rfl)) rfl rfl rfl (Nat.zero_le _) (Nat.zero_le _) fun r20 h21 =>
    aw_iret (pc := 27) C dK_b_61.2.2.2.2.2.2.1 rfl rfl)

abbrev rmX10_practised : Room := { frames := 0, cells := 0, slots := 0, locals := 0 }
def X10_practised_j109  (h : AH) : Option (Int32 × AH) :=
    if (h.1 72 5) < 0 then (cz 0 (some (0, h)))
    else (if (h.1 72 4) < 0 then (cz 0 (some (0, h)))
    else (if 99 < (h.1 72 6) then (cz 0 (some (0, h)))
    else (if (h.1 72 7) < 0 then (cz 0 (some (0, h)))
    else (if 4 < (h.1 72 7) then (cz 0 (some (0, h)))
    else (cz 1 (some (1, h)))))))
set_option maxRecDepth 100000 in
theorem aX10_practised_j109 {X : MCx} {yd : Dyn} {A : Nat → Prop} (C : OK X cX10_practised RX10 2 (some .boolean) rmX10_practised A)  (h : AH) : AW X 2 ZC yd A 0 0 (QF X rmX10_practised ZC yd rvI A) 109 [(0, .ref 0)] [] h (X10_practised_j109 h) := by
    exact aw_aload_n (pc := 109) C (i := 0) dK_b_100.2.1 rfl rfl <|
    aw_getR (pc := 110) C (b := 72) dK_b_100.2.2.1 fl_X10_85 sC_0 rfl rC_0_12 <|
    aw_getI (pc := 113) C dK_b_100.2.2.2.1 fl_X10_189 sC_72 rfl <|
    aw_if_lt (pc := 116) C (tgt := 166) dK_b_100.2.2.2.2.1 rfl (fun _ =>
    aw_iconst (pc := 166) C (v := 0) dK_b_103.2.1 rfl <|
    aw_zret (pc := 167) C dK_b_103.2.2.1 rfl rfl) (fun _ =>
    aw_aload_n (pc := 119) C (i := 0) dK_b_100.2.2.2.2.2.1 rfl rfl <|
    aw_getR (pc := 120) C (b := 72) dK_b_100.2.2.2.2.2.2.1 fl_X10_85 sC_0 rfl rC_0_12 <|
    aw_getI (pc := 123) C dK_b_100.2.2.2.2.2.2.2.1 fl_X10_186 sC_72 rfl <|
    aw_if_lt (pc := 126) C (tgt := 166) dK_b_101.1 rfl (fun _ =>
    aw_iconst (pc := 166) C (v := 0) dK_b_103.2.1 rfl <|
    aw_zret (pc := 167) C dK_b_103.2.2.1 rfl rfl) (fun _ =>
    aw_aload_n (pc := 129) C (i := 0) dK_b_101.2.1 rfl rfl <|
    aw_getR (pc := 130) C (b := 72) dK_b_101.2.2.1 fl_X10_85 sC_0 rfl rC_0_12 <|
    aw_getI (pc := 133) C dK_b_101.2.2.2.1 fl_X10_192 sC_72 rfl <|
    aw_bipush (pc := 136) C (v := 99) dK_b_101.2.2.2.2.1 rfl <|
    aw_icmp_gt (pc := 138) C (tgt := 166) dK_b_101.2.2.2.2.2.1 rfl (fun _ =>
    aw_iconst (pc := 166) C (v := 0) dK_b_103.2.1 rfl <|
    aw_zret (pc := 167) C dK_b_103.2.2.1 rfl rfl) (fun _ =>
    aw_aload_n (pc := 141) C (i := 0) dK_b_101.2.2.2.2.2.2.1 rfl rfl <|
    aw_getR (pc := 142) C (b := 72) dK_b_101.2.2.2.2.2.2.2.1 fl_X10_85 sC_0 rfl rC_0_12 <|
    aw_getI (pc := 145) C dK_b_102.1 fl_X10_195 sC_72 rfl <|
    aw_if_lt (pc := 148) C (tgt := 166) dK_b_102.2.1 rfl (fun _ =>
    aw_iconst (pc := 166) C (v := 0) dK_b_103.2.1 rfl <|
    aw_zret (pc := 167) C dK_b_103.2.2.1 rfl rfl) (fun _ =>
    aw_aload_n (pc := 151) C (i := 0) dK_b_102.2.2.1 rfl rfl <|
    aw_getR (pc := 152) C (b := 72) dK_b_102.2.2.2.1 fl_X10_85 sC_0 rfl rC_0_12 <|
    aw_getI (pc := 155) C dK_b_102.2.2.2.2.1 fl_X10_195 sC_72 rfl <|
    aw_iconst (pc := 158) C (v := 4) dK_b_102.2.2.2.2.2.1 rfl <|
    aw_icmp_gt (pc := 159) C (tgt := 166) dK_b_102.2.2.2.2.2.2.1 rfl (fun _ =>
    aw_iconst (pc := 166) C (v := 0) dK_b_103.2.1 rfl <|
    aw_zret (pc := 167) C dK_b_103.2.2.1 rfl rfl) (fun _ =>
    aw_iconst (pc := 162) C (v := 1) dK_b_102.2.2.2.2.2.2.2.1 rfl <|
    aw_goto (pc := 163) C (tgt := 167) dK_b_103.1 rfl <|
    aw_zret (pc := 167) C dK_b_103.2.2.1 rfl rfl)))))
def X10_practised (v1 : Int32) (h : AH) : Option (Int32 × AH) :=
    vl v1 fun y1 =>
    if y1 = 0 then (vl (sI h 72 5 ((h.1 72 5) - 1)) fun h2 =>
    X10_practised_j109 h2)
    else if y1 = 1 then (vl (sI h 72 4 ((h.1 72 4) - 1)) fun h4 =>
    X10_practised_j109 h4)
    else if y1 = 2 then (vl (sI h 72 6 ((h.1 72 6) + 1)) fun h6 =>
    X10_practised_j109 h6)
    else if y1 = 3 then (vl (sI h 72 7 ((h.1 72 7) + 1)) fun h8 =>
    X10_practised_j109 h8)
    else (vl (sI h 72 7 ((h.1 72 7) - 1)) fun h10 =>
    X10_practised_j109 h10)
set_option maxRecDepth 100000 in
theorem c_X10_practised (l : Launch) (v1 : Int32) : MC l yX10_practised cX10_practised 2 (some .boolean) rmX10_practised ZC [.ref 0, .int v1] rvI (X10_practised v1) :=
  MC.of (own := RX10) pn_RX10 rfl (Nat.le_of_ble_eq_true rfl) fun X yd A h _ C =>
    aw_iload_n (pc := 0) C (i := 1) dK_b_95.1 rfl rfl <|
    aw_vlI fun y1 =>
    aw_if (fun c3 => aw_tswA (pc := 1) C (off := 31) (tg := 32) 0 dK_b_95.2.1 (by rw [c3]; rfl) (by decide) (by decide) rfl rfl (aw_aload_n (pc := 32) C (i := 0) dK_b_95.2.2.1 rfl rfl <|
    aw_getR (pc := 33) C (b := 72) dK_b_95.2.2.2.1 fl_X10_85 sC_0 rfl rC_0_12 <|
    aw_dup (pc := 36) C dK_b_95.2.2.2.2.1 rfl <|
    aw_getI (pc := 37) C dK_b_95.2.2.2.2.2.1 fl_X10_189 sC_72 rfl <|
    aw_iconst (pc := 40) C (v := 1) dK_b_95.2.2.2.2.2.2.1 rfl <|
    aw_isub (pc := 41) C dK_b_95.2.2.2.2.2.2.2.1 <|
    aw_putI (pc := 42) C dK_b_96.1 fp_X10_189 sC_72 rfl fun h2 =>
    aw_goto (pc := 45) C (tgt := 109) dK_b_96.2.1 rfl <|
    aw_drop [0] (aX10_practised_j109 C h2))) (fun c3 =>
    aw_if (fun c5 => aw_tswA (pc := 1) C (off := 47) (tg := 48) 1 dK_b_95.2.1 (by rw [c5]; rfl) (by decide) (by decide) rfl rfl (aw_aload_n (pc := 48) C (i := 0) dK_b_96.2.2.1 rfl rfl <|
    aw_getR (pc := 49) C (b := 72) dK_b_96.2.2.2.1 fl_X10_85 sC_0 rfl rC_0_12 <|
    aw_dup (pc := 52) C dK_b_96.2.2.2.2.1 rfl <|
    aw_getI (pc := 53) C dK_b_96.2.2.2.2.2.1 fl_X10_186 sC_72 rfl <|
    aw_iconst (pc := 56) C (v := 1) dK_b_96.2.2.2.2.2.2.1 rfl <|
    aw_isub (pc := 57) C dK_b_96.2.2.2.2.2.2.2.1 <|
    aw_putI (pc := 58) C dK_b_97.1 fp_X10_186 sC_72 rfl fun h4 =>
    aw_goto (pc := 61) C (tgt := 109) dK_b_97.2.1 rfl <|
    aw_drop [0] (aX10_practised_j109 C h4))) (fun c5 =>
    aw_if (fun c7 => aw_tswA (pc := 1) C (off := 63) (tg := 64) 2 dK_b_95.2.1 (by rw [c7]; rfl) (by decide) (by decide) rfl rfl (aw_aload_n (pc := 64) C (i := 0) dK_b_97.2.2.1 rfl rfl <|
    aw_getR (pc := 65) C (b := 72) dK_b_97.2.2.2.1 fl_X10_85 sC_0 rfl rC_0_12 <|
    aw_dup (pc := 68) C dK_b_97.2.2.2.2.1 rfl <|
    aw_getI (pc := 69) C dK_b_97.2.2.2.2.2.1 fl_X10_192 sC_72 rfl <|
    aw_iconst (pc := 72) C (v := 1) dK_b_97.2.2.2.2.2.2.1 rfl <|
    aw_iadd (pc := 73) C dK_b_97.2.2.2.2.2.2.2.1 <|
    aw_putI (pc := 74) C dK_b_98.1 fp_X10_192 sC_72 rfl fun h6 =>
    aw_goto (pc := 77) C (tgt := 109) dK_b_98.2.1 rfl <|
    aw_drop [0] (aX10_practised_j109 C h6))) (fun c7 =>
    aw_if (fun c9 => aw_tswA (pc := 1) C (off := 79) (tg := 80) 3 dK_b_95.2.1 (by rw [c9]; rfl) (by decide) (by decide) rfl rfl (aw_aload_n (pc := 80) C (i := 0) dK_b_98.2.2.1 rfl rfl <|
    aw_getR (pc := 81) C (b := 72) dK_b_98.2.2.2.1 fl_X10_85 sC_0 rfl rC_0_12 <|
    aw_dup (pc := 84) C dK_b_98.2.2.2.2.1 rfl <|
    aw_getI (pc := 85) C dK_b_98.2.2.2.2.2.1 fl_X10_195 sC_72 rfl <|
    aw_iconst (pc := 88) C (v := 1) dK_b_98.2.2.2.2.2.2.1 rfl <|
    aw_iadd (pc := 89) C dK_b_98.2.2.2.2.2.2.2.1 <|
    aw_putI (pc := 90) C dK_b_99.1 fp_X10_195 sC_72 rfl fun h8 =>
    aw_goto (pc := 93) C (tgt := 109) dK_b_99.2.1 rfl <|
    aw_drop [0] (aX10_practised_j109 C h8))) (fun c9 =>
    aw_tswD (pc := 1) C (N := 4) (td := 96) [0, 1, 2, 3] dK_b_95.2.1 (List.forall_mem_cons.mpr ⟨ti_ne c3 rfl, List.forall_mem_cons.mpr ⟨ti_ne c5 rfl, List.forall_mem_cons.mpr ⟨ti_ne c7 rfl, List.forall_mem_cons.mpr ⟨ti_ne c9 rfl, fun _ hz => by cases hz⟩⟩⟩⟩) rfl (by decide) rfl (aw_aload_n (pc := 96) C (i := 0) dK_b_99.2.2.1 rfl rfl <|
    aw_getR (pc := 97) C (b := 72) dK_b_99.2.2.2.1 fl_X10_85 sC_0 rfl rC_0_12 <|
    aw_dup (pc := 100) C dK_b_99.2.2.2.2.1 rfl <|
    aw_getI (pc := 101) C dK_b_99.2.2.2.2.2.1 fl_X10_195 sC_72 rfl <|
    aw_iconst (pc := 104) C (v := 1) dK_b_99.2.2.2.2.2.2.1 rfl <|
    aw_isub (pc := 105) C dK_b_99.2.2.2.2.2.2.2.1 <|
    aw_putI (pc := 106) C dK_b_100.1 fp_X10_195 sC_72 rfl fun h10 =>
    aw_drop [0] (aX10_practised_j109 C h10))))))

abbrev rmX10_meanAt : Room := { frames := 5, cells := 0, slots := 0, locals := 136 }
def X10_meanAt (v1 : Int32) (h : AH) : Option (Int64 × AH) :=
    bd (X1_spread 72 (h.1 42 0) (h.1 42 1) v1 0 h) fun _ h2 =>
    bd (X1_meanWays h2) fun r3 h4 =>
    some (r3, h4)
set_option maxRecDepth 100000 in
theorem c_X10_meanAt (l : Launch) (v1 : Int32) : MC l yX10_meanAt cX10_meanAt 2 (some .long) rmX10_meanAt ZC [.ref 0, .int v1] rvL (X10_meanAt v1) :=
  MC.of (own := RX10) pn_RX10 rfl (Nat.le_of_ble_eq_true rfl) fun X yd A h _ C =>
    aw_aload_n (pc := 0) C (i := 0) dK_b_92.1 rfl rfl <|
    aw_getR (pc := 1) C (b := 8) dK_b_92.2.1 fl_X10_35 sC_0 rfl rC_0_11 <|
    aw_aload_n (pc := 4) C (i := 0) dK_b_92.2.2.1 rfl rfl <|
    aw_getR (pc := 5) C (b := 72) dK_b_92.2.2.2.1 fl_X10_85 sC_0 rfl rC_0_12 <|
    aw_aload_n (pc := 8) C (i := 0) dK_b_92.2.2.2.2.1 rfl rfl <|
    aw_getR (pc := 9) C (b := 42) dK_b_92.2.2.2.2.2.1 fl_X10_72 sC_0 rfl rC_0_1 <|
    aw_getI (pc := 12) C dK_b_92.2.2.2.2.2.2.1 fl_X10_163 (mt_s (Or.inl rfl)) rfl <|
    aw_aload_n (pc := 15) C (i := 0) dK_b_92.2.2.2.2.2.2.2.1 rfl rfl <|
    aw_getR (pc := 16) C (b := 42) dK_b_93.1 fl_X10_72 sC_0 rfl rC_0_1 <|
    aw_getI (pc := 19) C dK_b_93.2.1 fl_X10_157 (mt_s (Or.inl rfl)) rfl <|
    aw_iload_n (pc := 22) C (i := 1) dK_b_93.2.2.1 rfl rfl <|
    aw_iconst (pc := 23) C (v := 0) dK_b_93.2.2.2.1 rfl <|
    aw_callF (pc := 24) C (cr_V (rest := []) (F := (X1_spread 72 (h.1 42 0) (h.1 42 1) v1 0)) C (c_X1_spread X.2.1 72 sC_72 (h.1 42 0) (h.1 42 1) v1 0) dK_b_93.2.2.2.2.1 mf_X1_spread ml_X10_242 im_X1_spread se_X1_spread sC_8 rfl ⟨(Nat.le_of_ble_eq_true rfl), (Nat.le_of_ble_eq_true rfl)⟩ rfl rfl (Nat.le_of_ble_eq_true rfl)) rfl rfl rfl (Nat.zero_le _) (Nat.zero_le _) fun _ h2 =>
    aw_aload_n (pc := 27) C (i := 0) dK_b_93.2.2.2.2.2.1 rfl rfl <|
    aw_getR (pc := 28) C (b := 8) dK_b_93.2.2.2.2.2.2.1 fl_X10_35 sC_0 rfl rC_0_11 <|
    aw_callF (pc := 31) C (cr_V (rest := []) (F := X1_meanWays) C (c_X1_meanWays X.2.1 ) dK_b_93.2.2.2.2.2.2.2.1 mf_X1_meanWays ml_X10_269 im_X1_meanWays se_X1_meanWays sC_8 rfl ⟨(Nat.le_of_ble_eq_true rfl), (Nat.le_of_ble_eq_true rfl)⟩ rfl rfl (Nat.le_of_ble_eq_true rfl)) rfl rfl rfl (Nat.zero_le _) (Nat.zero_le _) fun r3 h4 =>
    aw_lret (pc := 34) C dK_b_94.1 rfl rfl

abbrev rmX10_practice : Room := { frames := 6, cells := 0, slots := 0, locals := 158 }
def X10_practice_j110  (v1 : Int32) (v3 : Int32) (v4 : Int64) (v6 : Int32) (v7 : Int32) (K51 : Int64 → Int32 → Int32 → AH → Option (Int32 × AH)) (h : AH) : Option (Int32 × AH) :=
    vl (v7 + 1) fun x20 =>
    K51 v4 v6 x20 h
set_option maxRecDepth 100000 in
theorem aX10_practice_j110 {X : MCx} {yd : Dyn} {A : Nat → Prop} (C : OK X cX10_practice RX10 10 (some .int) rmX10_practice A)  (v1 : Int32) (v3 : Int32) (v4 : Int64) (v6 : Int32) (v7 : Int32) (K51 : Int64 → Int32 → Int32 → AH → Option (Int32 × AH)) (hK51 : ∀ (w4 : Int64) (w6 : Int32) (w7 : Int32) (h : AH), AW X 10 ZC yd A 0 0 (QF X rmX10_practice ZC yd rvI A) 51 [(0, .ref 0), (1, .int v1), (3, .int v3), (4, .long w4), (6, .int w6), (7, .int w7)] [] h (K51 w4 w6 w7 h)) (h : AH) : AW X 10 ZC yd A 0 0 (QF X rmX10_practice ZC yd rvI A) 110 [(0, .ref 0), (1, .int v1), (3, .int v3), (4, .long v4), (6, .int v6), (7, .int v7)] [] h (X10_practice_j110 v1 v3 v4 v6 v7 K51 h) := by
    exact aw_iincV (pc := 110) C (i := 7) (cst := 1) (fun x20 => [(0, .ref 0), (1, .int v1), (3, .int v3), (4, .long v4), (6, .int v6), (7, .int x20)]) dK_b_91.2.1 rfl rfl (by decide) (fun _ => rfl) fun x20 =>
    aw_goto (pc := 113) C (tgt := 51) dK_b_91.2.2.1 rfl <|
    (hK51 v4 v6 x20 h)
def X10_practice_j92  (v1 : Int32) (v3 : Int32) (v4 : Int64) (v6 : Int32) (v7 : Int32) (K51 : Int64 → Int32 → Int32 → AH → Option (Int32 × AH)) (s0 : Int64) (h : AH) : Option (Int32 × AH) :=
    if (lcmpV s0 v4) ≤ 0 then (X10_practice_j110 v1 v3 v4 v6 v7 K51 h)
    else (X10_practice_j110 v1 v3 s0 v7 v7 K51 h)
set_option maxRecDepth 100000 in
theorem aX10_practice_j92 {X : MCx} {yd : Dyn} {A : Nat → Prop} (C : OK X cX10_practice RX10 10 (some .int) rmX10_practice A)  (v1 : Int32) (v3 : Int32) (v4 : Int64) (v6 : Int32) (v7 : Int32) (K51 : Int64 → Int32 → Int32 → AH → Option (Int32 × AH)) (hK51 : ∀ (w4 : Int64) (w6 : Int32) (w7 : Int32) (h : AH), AW X 10 ZC yd A 0 0 (QF X rmX10_practice ZC yd rvI A) 51 [(0, .ref 0), (1, .int v1), (3, .int v3), (4, .long w4), (6, .int w6), (7, .int w7)] [] h (K51 w4 w6 w7 h)) (s0 : Int64) (h : AH) : AW X 10 ZC yd A 0 0 (QF X rmX10_practice ZC yd rvI A) 92 [(0, .ref 0), (1, .int v1), (3, .int v3), (4, .long v4), (6, .int v6), (7, .int v7)] [.long s0] h (X10_practice_j92 v1 v3 v4 v6 v7 K51 s0 h) := by
    exact aw_lstore (pc := 92) C (i := 8) (lv' := [(0, .ref 0), (1, .int v1), (3, .int v3), (4, .long v4), (6, .int v6), (7, .int v7), (8, .long s0)]) dK_b_90.1 (by decide) rfl <|
    aw_lload (pc := 94) C (i := 8) dK_b_90.2.1 rfl <|
    aw_lload (pc := 96) C (i := 4) dK_b_90.2.2.1 rfl <|
    aw_lcmp (pc := 98) C dK_b_90.2.2.2.1 <|
    aw_if_le (pc := 99) C (tgt := 110) dK_b_90.2.2.2.2.1 rfl (fun _ =>
    aw_drop [0, 1, 2, 3, 4, 5] (aX10_practice_j110 C v1 v3 v4 v6 v7 K51 hK51 h)) (fun _ =>
    aw_lload (pc := 102) C (i := 8) dK_b_90.2.2.2.2.2.1 rfl <|
    aw_lstore (pc := 104) C (i := 4) (lv' := [(0, .ref 0), (1, .int v1), (3, .int v3), (4, .long s0), (6, .int v6), (7, .int v7), (8, .long s0)]) dK_b_90.2.2.2.2.2.2.1 (by decide) rfl <|
    aw_iload (pc := 106) C (i := 7) dK_b_90.2.2.2.2.2.2.2.1 rfl <|
    aw_istore (pc := 108) C (i := 6) (lv' := [(0, .ref 0), (1, .int v1), (3, .int v3), (4, .long s0), (6, .int v7), (7, .int v7), (8, .long s0)]) dK_b_91.1 (by decide) rfl <|
    aw_drop [0, 1, 2, 3, 4, 5] (aX10_practice_j110 C v1 v3 s0 v7 v7 K51 hK51 h))
def X10_practice_l51  (v1 : Int32) (v3 : Int32) : Nat → Int64 → Int32 → Int32 → AH → Option (Int32 × AH)
  | 0, _, _, _, _ => none
  | n + 1, v4, v6, v7, h =>
    if 5 ≤ v7 then (some (v6, h))
    else (bd (X5_at 42 v1 h) fun r13 h14 =>
    cs ZC r13 (.inr 2) (bd (X2_copyFrom 72 r13 h14) fun _ h17 =>
    bd (X10_practised v7 h17) fun r18 h19 =>
    if r18 = 0 then (X10_practice_j92 v1 v3 v4 v6 v7 (X10_practice_l51 v1 v3 n) (-1) h19)
    else (bd (X10_meanAt v3 h19) fun r21 h22 =>
    X10_practice_j92 v1 v3 v4 v6 v7 (X10_practice_l51 v1 v3 n) r21 h22)))
set_option maxRecDepth 100000 in
theorem aX10_practice_l51 {X : MCx} {yd : Dyn} {A : Nat → Prop} (C : OK X cX10_practice RX10 10 (some .int) rmX10_practice A)  (v1 : Int32) (v3 : Int32) : ∀ (n : Nat) (v4 : Int64) (v6 : Int32) (v7 : Int32) (h : AH), AW X 10 ZC yd A 0 0 (QF X rmX10_practice ZC yd rvI A) 51 [(0, .ref 0), (1, .int v1), (3, .int v3), (4, .long v4), (6, .int v6), (7, .int v7)] [] h (X10_practice_l51 v1 v3 n v4 v6 v7 h) := by
  intro n
  induction n with
  | zero => intro v4 v6 v7 h; exact aw_none
  | succ n ih =>
    intro v4 v6 v7 h
    exact aw_iload (pc := 51) C (i := 7) dK_b_87.2.2.2.2.2.1 rfl <|
    aw_iconst (pc := 53) C (v := 5) dK_b_87.2.2.2.2.2.2.1 rfl <|
    aw_icmp_ge (pc := 54) C (tgt := 116) dK_b_87.2.2.2.2.2.2.2.1 rfl (fun _ =>
    aw_iload (pc := 116) C (i := 6) dK_b_91.2.2.2.1 rfl <|
    aw_iret (pc := 118) C dK_b_91.2.2.2.2.1 rfl rfl) (fun _ =>
    aw_aload_n (pc := 57) C (i := 0) dK_b_88.1 rfl rfl <|
    aw_getR (pc := 58) C (b := 72) dK_b_88.2.1 fl_X10_85 sC_0 rfl rC_0_12 <|
    aw_aload_n (pc := 61) C (i := 0) dK_b_88.2.2.1 rfl rfl <|
    aw_getR (pc := 62) C (b := 42) dK_b_88.2.2.2.1 fl_X10_72 sC_0 rfl rC_0_1 <|
    aw_iload_n (pc := 65) C (i := 1) dK_b_88.2.2.2.2.1 rfl rfl <|
    aw_callF (pc := 66) C (cr_V (rest := [.ref 72]) (F := (X5_at 42 v1)) C (c_X5_at X.2.1 42 (Or.inl rfl) v1) dK_b_88.2.2.2.2.2.1 mf_X5_at ml_X10_169 im_X5_at se_X5_at (mt_s (Or.inl rfl)) rfl ⟨(Nat.le_of_ble_eq_true rfl), (Nat.le_of_ble_eq_true rfl)⟩ rfl rfl (Nat.le_of_ble_eq_true rfl)) rfl rfl rfl (Nat.zero_le _) (Nat.zero_le _) fun r13 h14 =>
    aw_cs fun hs15 =>
    aw_callF (pc := 69) C (cr_V (rest := []) (F := (X2_copyFrom 72 r13)) C (c_X2_copyFrom X.2.1 72 sC_72 r13 hs15) dK_b_88.2.2.2.2.2.2.1 mf_X2_copyFrom ml_X10_277 im_X2_copyFrom se_X2_copyFrom sC_72 rfl ⟨(Nat.le_of_ble_eq_true rfl), (Nat.le_of_ble_eq_true rfl)⟩ rfl rfl (Nat.le_of_ble_eq_true rfl)) rfl rfl rfl (Nat.zero_le _) (Nat.zero_le _) fun _ h17 =>
    aw_aload_n (pc := 72) C (i := 0) dK_b_88.2.2.2.2.2.2.2.1 rfl rfl <|
    aw_iload (pc := 73) C (i := 7) dK_b_89.1 rfl <|
    aw_callF (pc := 75) C (cr_V (rest := []) (F := (X10_practised v7)) C (c_X10_practised X.2.1 v7) dK_b_89.2.1 mf_X10_practised ml_X10_395 im_X10_practised se_X10_practised sC_0 rfl ⟨(Nat.le_of_ble_eq_true rfl), (Nat.le_of_ble_eq_true rfl)⟩ rfl rfl (Nat.le_of_ble_eq_true rfl)) rfl rfl rfl (Nat.zero_le _) (Nat.zero_le _) fun r18 h19 =>
    aw_if_eq (pc := 78) C (tgt := 89) dK_b_89.2.2.1 rfl (fun _ =>
    aw_ldc2_w (pc := 89) C (v := (-1)) dK_b_89.2.2.2.2.2.2.2.1 kc_X10_280 <|
    (aX10_practice_j92 C v1 v3 v4 v6 v7 (X10_practice_l51 v1 v3 n) ih (-1) h19)) (fun _ =>
    aw_aload_n (pc := 81) C (i := 0) dK_b_89.2.2.2.1 rfl rfl <|
    aw_iload_n (pc := 82) C (i := 3) dK_b_89.2.2.2.2.1 rfl rfl <|
    aw_callF (pc := 83) C (cr_V (rest := []) (F := (X10_meanAt v3)) C (c_X10_meanAt X.2.1 v3) dK_b_89.2.2.2.2.2.1 mf_X10_meanAt ml_X10_398 im_X10_meanAt se_X10_meanAt sC_0 rfl ⟨(Nat.le_of_ble_eq_true rfl), (Nat.le_of_ble_eq_true rfl)⟩ rfl rfl (Nat.le_of_ble_eq_true rfl)) rfl rfl rfl (Nat.zero_le _) (Nat.zero_le _) fun r21 h22 =>
    aw_goto (pc := 86) C (tgt := 92) dK_b_89.2.2.2.2.2.2.1 rfl <|
    (aX10_practice_j92 C v1 v3 v4 v6 v7 (X10_practice_l51 v1 v3 n) ih r21 h22)))
def X10_practice (v1 : Int32) (h : AH) : Option (Int32 × AH) :=
    bd (X10_nobody v1 h) fun r1 h2 =>
    if r1 = 0 then (bd (X10_placeOf v1 h2) fun r3 h4 =>
    bd (X5_at 42 v1 h4) fun r5 h6 =>
    cs ZC r5 (.inr 2) (bd (X10_spreadAt r5 r3 h6) fun _ h9 =>
    bd (X1_meanWays h9) fun r10 h11 =>
    vl (-9) fun x12 =>
    X10_practice_l51 v1 r3 FU r10 x12 0 h11))
    else (bd (X10_refuse r1 h2) fun r23 h24 =>
    some (r23, h24))
set_option maxRecDepth 100000 in
theorem c_X10_practice (l : Launch) (v1 : Int32) : MC l yX10_practice cX10_practice 10 (some .int) rmX10_practice ZC [.ref 0, .int v1] rvI (X10_practice v1) :=
  MC.of (own := RX10) pn_RX10 rfl (Nat.le_of_ble_eq_true rfl) fun X yd A h _ C =>
    aw_aload_n (pc := 0) C (i := 0) dK_b_84.1 rfl rfl <|
    aw_iload_n (pc := 1) C (i := 1) dK_b_84.2.1 rfl rfl <|
    aw_callF (pc := 2) C (cr_V (rest := []) (F := (X10_nobody v1)) C (c_X10_nobody X.2.1 v1) dK_b_84.2.2.1 mf_X10_nobody ml_X10_93 im_X10_nobody se_X10_nobody sC_0 rfl ⟨(Nat.le_of_ble_eq_true rfl), (Nat.le_of_ble_eq_true rfl)⟩ rfl rfl (Nat.le_of_ble_eq_true rfl)) rfl rfl rfl (Nat.zero_le _) (Nat.zero_le _) fun r1 h2 =>
    aw_istore_n (pc := 5) C (i := 2) (lv' := [(0, .ref 0), (1, .int v1), (2, .int r1)]) dK_b_84.2.2.2.1 rfl (by decide) rfl <|
    aw_iload_n (pc := 6) C (i := 2) dK_b_84.2.2.2.2.1 rfl rfl <|
    aw_if_eq (pc := 7) C (tgt := 16) dK_b_84.2.2.2.2.2.1 rfl (fun _ =>
    aw_aload_n (pc := 16) C (i := 0) dK_b_85.2.2.1 rfl rfl <|
    aw_iload_n (pc := 17) C (i := 1) dK_b_85.2.2.2.1 rfl rfl <|
    aw_callF (pc := 18) C (cr_V (rest := []) (F := (X10_placeOf v1)) C (c_X10_placeOf X.2.1 v1) dK_b_85.2.2.2.2.1 mf_X10_placeOf ml_X10_229 im_X10_placeOf se_X10_placeOf sC_0 rfl ⟨(Nat.le_of_ble_eq_true rfl), (Nat.le_of_ble_eq_true rfl)⟩ rfl rfl (Nat.le_of_ble_eq_true rfl)) rfl rfl rfl (Nat.zero_le _) (Nat.zero_le _) fun r3 h4 =>
    aw_istore_n (pc := 21) C (i := 3) (lv' := [(0, .ref 0), (1, .int v1), (2, .int r1), (3, .int r3)]) dK_b_85.2.2.2.2.2.1 rfl (by decide) rfl <|
    aw_aload_n (pc := 22) C (i := 0) dK_b_85.2.2.2.2.2.2.1 rfl rfl <|
    aw_aload_n (pc := 23) C (i := 0) dK_b_85.2.2.2.2.2.2.2.1 rfl rfl <|
    aw_getR (pc := 24) C (b := 42) dK_b_86.1 fl_X10_72 sC_0 rfl rC_0_1 <|
    aw_iload_n (pc := 27) C (i := 1) dK_b_86.2.1 rfl rfl <|
    aw_callF (pc := 28) C (cr_V (rest := [.ref 0]) (F := (X5_at 42 v1)) C (c_X5_at X.2.1 42 (Or.inl rfl) v1) dK_b_86.2.2.1 mf_X5_at ml_X10_169 im_X5_at se_X5_at (mt_s (Or.inl rfl)) rfl ⟨(Nat.le_of_ble_eq_true rfl), (Nat.le_of_ble_eq_true rfl)⟩ rfl rfl (Nat.le_of_ble_eq_true rfl)) rfl rfl rfl (Nat.zero_le _) (Nat.zero_le _) fun r5 h6 =>
    aw_cs fun hs7 =>
    aw_iload_n (pc := 31) C (i := 3) dK_b_86.2.2.2.1 rfl rfl <|
    aw_callF (pc := 32) C (cr_V (rest := []) (F := (X10_spreadAt r5 r3)) C (c_X10_spreadAt X.2.1 r5 hs7 r3) dK_b_86.2.2.2.2.1 mf_X10_spreadAt ml_X10_282 im_X10_spreadAt se_X10_spreadAt sC_0 rfl ⟨(Nat.le_of_ble_eq_true rfl), (Nat.le_of_ble_eq_true rfl)⟩ rfl rfl (Nat.le_of_ble_eq_true rfl)) rfl rfl rfl (Nat.zero_le _) (Nat.zero_le _) fun _ h9 =>
    aw_aload_n (pc := 35) C (i := 0) dK_b_86.2.2.2.2.2.1 rfl rfl <|
    aw_getR (pc := 36) C (b := 8) dK_b_86.2.2.2.2.2.2.1 fl_X10_35 sC_0 rfl rC_0_11 <|
    aw_callF (pc := 39) C (cr_V (rest := []) (F := X1_meanWays) C (c_X1_meanWays X.2.1 ) dK_b_86.2.2.2.2.2.2.2.1 mf_X1_meanWays ml_X10_269 im_X1_meanWays se_X1_meanWays sC_8 rfl ⟨(Nat.le_of_ble_eq_true rfl), (Nat.le_of_ble_eq_true rfl)⟩ rfl rfl (Nat.le_of_ble_eq_true rfl)) rfl rfl rfl (Nat.zero_le _) (Nat.zero_le _) fun r10 h11 =>
    aw_lstore (pc := 42) C (i := 4) (lv' := [(0, .ref 0), (1, .int v1), (2, .int r1), (3, .int r3), (4, .long r10)]) dK_b_87.1 (by decide) rfl <|
    aw_bipush (pc := 44) C (v := (-9)) dK_b_87.2.1 rfl <|
    aw_istoreV (pc := 46) C (i := 6) (fun x12 => [(0, .ref 0), (1, .int v1), (2, .int r1), (3, .int r3), (4, .long r10), (6, .int x12)]) dK_b_87.2.2.1 (by decide) (fun _ => rfl) fun x12 =>
    aw_iconst (pc := 48) C (v := 0) dK_b_87.2.2.2.1 rfl <|
    aw_istore (pc := 49) C (i := 7) (lv' := [(0, .ref 0), (1, .int v1), (2, .int r1), (3, .int r3), (4, .long r10), (6, .int x12), (7, .int 0)]) dK_b_87.2.2.2.2.1 (by decide) rfl <|
    aw_drop [0, 1, 3, 4, 5, 6] (aX10_practice_l51 C v1 r3 FU r10 x12 0 h11)) (fun _ =>
    aw_aload_n (pc := 10) C (i := 0) dK_b_84.2.2.2.2.2.2.1 rfl rfl <|
    aw_iload_n (pc := 11) C (i := 2) dK_b_84.2.2.2.2.2.2.2.1 rfl rfl <|
    aw_callF (pc := 12) C (cr_V (rest := []) (F := (X10_refuse r1)) C (c_X10_refuse X.2.1 r1) dK_b_85.1 mf_X10_refuse ml_X10_111 im_X10_refuse se_X10_refuse sC_0 rfl ⟨(Nat.le_of_ble_eq_true rfl), (Nat.le_of_ble_eq_true rfl)⟩ rfl rfl (Nat.le_of_ble_eq_true rfl)) rfl rfl rfl (Nat.zero_le _) (Nat.zero_le _) fun r23 h24 =>
    aw_iret (pc := 15) C dK_b_85.2.1 rfl rfl)

abbrev rmX10_bestRun : Room := { frames := 5, cells := 0, slots := 0, locals := 136 }
def X10_bestRun_j102  (v3 : Nat) (v4 : Int32) (v5 : Int64) (v7 : Int32) (K36 : Int32 → Int64 → Int32 → AH → Option (Int32 × AH)) (h : AH) : Option (Int32 × AH) :=
    vl (v7 + 1) fun x14 =>
    K36 v4 v5 x14 h
set_option maxRecDepth 100000 in
theorem aX10_bestRun_j102 {X : MCx} {yd : Dyn} {A : Nat → Prop} (C : OK X cX10_bestRun RX10 10 (some .int) rmX10_bestRun A)  (v3 : Nat) (hs3 : ZC.1[v3]? = some (.inr 2)) (v4 : Int32) (v5 : Int64) (v7 : Int32) (K36 : Int32 → Int64 → Int32 → AH → Option (Int32 × AH)) (hK36 : ∀ (w4 : Int32) (w5 : Int64) (w7 : Int32) (h : AH), AW X 10 ZC yd A 0 0 (QF X rmX10_bestRun ZC yd rvI A) 36 [(0, .ref 0), (3, .ref v3), (4, .int w4), (5, .long w5), (7, .int w7)] [] h (K36 w4 w5 w7 h)) (h : AH) : AW X 10 ZC yd A 0 0 (QF X rmX10_bestRun ZC yd rvI A) 102 [(0, .ref 0), (3, .ref v3), (4, .int v4), (5, .long v5), (7, .int v7)] [] h (X10_bestRun_j102 v3 v4 v5 v7 K36 h) := by
    exact aw_iincV (pc := 102) C (i := 7) (cst := 1) (fun x14 => [(0, .ref 0), (3, .ref v3), (4, .int v4), (5, .long v5), (7, .int x14)]) dK_b_110.2.2.2.2.2.2.2.1 rfl rfl (by decide) (fun _ => rfl) fun x14 =>
    aw_goto (pc := 105) C (tgt := 36) dK_b_111.1 rfl <|
    (hK36 v4 v5 x14 h)
def X10_bestRun_l36  (v3 : Nat) : Nat → Int32 → Int64 → Int32 → AH → Option (Int32 × AH)
  | 0, _, _, _, _ => none
  | n + 1, v4, v5, v7, h =>
    if 20 < v7 then (some (v4, h))
    else (bd (kd (h.2.2 v3) (X3_aimOf v3 h) (X7_aimOf v3 h) (X0_aimOf v3 h) (X4_aimOf v3 h) (X0_aimOf v3 h) (X8_aimOf v3 h)) fun r7 h8 =>
    bd (X1_spread v3 v7 (h.1 42 1) r7 0 h8) fun _ h10 =>
    bd (X1_meanWays h10) fun r11 h12 =>
    vl (shl64 r11 (2 * (20 - v7))) fun x13 =>
    if (lcmpV x13 v5) ≤ 0 then (X10_bestRun_j102 v3 v4 v5 v7 (X10_bestRun_l36 v3 n) h12)
    else (X10_bestRun_j102 v3 v7 x13 v7 (X10_bestRun_l36 v3 n) h12))
set_option maxRecDepth 100000 in
theorem aX10_bestRun_l36 {X : MCx} {yd : Dyn} {A : Nat → Prop} (C : OK X cX10_bestRun RX10 10 (some .int) rmX10_bestRun A)  (v3 : Nat) (hs3 : ZC.1[v3]? = some (.inr 2)) : ∀ (n : Nat) (v4 : Int32) (v5 : Int64) (v7 : Int32) (h : AH), AW X 10 ZC yd A 0 0 (QF X rmX10_bestRun ZC yd rvI A) 36 [(0, .ref 0), (3, .ref v3), (4, .int v4), (5, .long v5), (7, .int v7)] [] h (X10_bestRun_l36 v3 n v4 v5 v7 h) := by
  intro n
  induction n with
  | zero => intro v4 v5 v7 h; exact aw_none
  | succ n ih =>
    intro v4 v5 v7 h
    exact aw_iload (pc := 36) C (i := 7) dK_b_106.2.2.2.2.2.1 rfl <|
    aw_bipush (pc := 38) C (v := 20) dK_b_106.2.2.2.2.2.2.1 rfl <|
    aw_icmp_gt (pc := 40) C (tgt := 108) dK_b_106.2.2.2.2.2.2.2.1 rfl (fun _ =>
    aw_iload (pc := 108) C (i := 4) dK_b_111.2.1 rfl <|
    aw_iret (pc := 110) C dK_b_111.2.2.1 rfl rfl) (fun _ =>
    aw_aload_n (pc := 43) C (i := 0) dK_b_107.1 rfl rfl <|
    aw_getR (pc := 44) C (b := 8) dK_b_107.2.1 fl_X10_35 sC_0 rfl rC_0_11 <|
    aw_aload_n (pc := 47) C (i := 3) dK_b_107.2.2.1 rfl rfl <|
    aw_iload (pc := 48) C (i := 7) dK_b_107.2.2.2.1 rfl <|
    aw_aload_n (pc := 50) C (i := 0) dK_b_107.2.2.2.2.1 rfl rfl <|
    aw_getR (pc := 51) C (b := 42) dK_b_107.2.2.2.2.2.1 fl_X10_72 sC_0 rfl rC_0_1 <|
    aw_getI (pc := 54) C dK_b_107.2.2.2.2.2.2.1 fl_X10_157 (mt_s (Or.inl rfl)) rfl <|
    aw_aload_n (pc := 57) C (i := 3) dK_b_107.2.2.2.2.2.2.2.1 rfl rfl <|
    aw_getW (pc := 58) C (b := (36 + h.2.2 v3 % 6)) dK_b_108.1 fl_X10_173 hs3 rfl rfl <|
    aw_aload_n (pc := 61) C (i := 3) dK_b_108.2.1 rfl rfl <|
    aw_callF (pc := 62) C (kdA_aimOf C dK_b_108.2.2.1 ml_X10_354 (h.2.2 v3) v3 hs3  [.int (h.1 42 1), .int v7, .ref v3, .ref 8] ⟨⟨(Nat.le_of_ble_eq_true rfl), (Nat.le_of_ble_eq_true rfl)⟩, ⟨(Nat.le_of_ble_eq_true rfl), (Nat.le_of_ble_eq_true rfl)⟩, ⟨(Nat.le_of_ble_eq_true rfl), (Nat.le_of_ble_eq_true rfl)⟩, ⟨(Nat.le_of_ble_eq_true rfl), (Nat.le_of_ble_eq_true rfl)⟩, ⟨(Nat.le_of_ble_eq_true rfl), (Nat.le_of_ble_eq_true rfl)⟩, ⟨(Nat.le_of_ble_eq_true rfl), (Nat.le_of_ble_eq_true rfl)⟩⟩ (Nat.le_of_ble_eq_true rfl)) rfl rfl rfl (Nat.zero_le _) (Nat.zero_le _) fun r7 h8 =>
    aw_iconst (pc := 65) C (v := 0) dK_b_108.2.2.2.1 rfl <|
    aw_callF (pc := 66) C (cr_V (rest := []) (F := (X1_spread v3 v7 (h.1 42 1) r7 0)) C (c_X1_spread X.2.1 v3 hs3 v7 (h.1 42 1) r7 0) dK_b_108.2.2.2.2.1 mf_X1_spread ml_X10_242 im_X1_spread se_X1_spread sC_8 rfl ⟨(Nat.le_of_ble_eq_true rfl), (Nat.le_of_ble_eq_true rfl)⟩ rfl rfl (Nat.le_of_ble_eq_true rfl)) rfl rfl rfl (Nat.zero_le _) (Nat.zero_le _) fun _ h10 =>
    aw_aload_n (pc := 69) C (i := 0) dK_b_108.2.2.2.2.2.1 rfl rfl <|
    aw_getR (pc := 70) C (b := 8) dK_b_108.2.2.2.2.2.2.1 fl_X10_35 sC_0 rfl rC_0_11 <|
    aw_callF (pc := 73) C (cr_V (rest := []) (F := X1_meanWays) C (c_X1_meanWays X.2.1 ) dK_b_108.2.2.2.2.2.2.2.1 mf_X1_meanWays ml_X10_269 im_X1_meanWays se_X1_meanWays sC_8 rfl ⟨(Nat.le_of_ble_eq_true rfl), (Nat.le_of_ble_eq_true rfl)⟩ rfl rfl (Nat.le_of_ble_eq_true rfl)) rfl rfl rfl (Nat.zero_le _) (Nat.zero_le _) fun r11 h12 =>
    aw_iconst (pc := 76) C (v := 2) dK_b_109.1 rfl <|
    aw_bipush (pc := 77) C (v := 20) dK_b_109.2.1 rfl <|
    aw_iload (pc := 79) C (i := 7) dK_b_109.2.2.1 rfl <|
    aw_isub (pc := 81) C dK_b_109.2.2.2.1 <|
    aw_imul (pc := 82) C dK_b_109.2.2.2.2.1 <|
    aw_lshl (pc := 83) C dK_b_109.2.2.2.2.2.1 <|
    aw_lstoreV (pc := 84) C (i := 8) (fun x13 => [(0, .ref 0), (3, .ref v3), (4, .int v4), (5, .long v5), (7, .int v7), (8, .long x13)]) dK_b_109.2.2.2.2.2.2.1 (by decide) (fun _ => rfl) fun x13 =>
    aw_lload (pc := 86) C (i := 8) dK_b_109.2.2.2.2.2.2.2.1 rfl <|
    aw_lload (pc := 88) C (i := 5) dK_b_110.1 rfl <|
    aw_lcmp (pc := 90) C dK_b_110.2.1 <|
    aw_if_le (pc := 91) C (tgt := 102) dK_b_110.2.2.1 rfl (fun _ =>
    aw_drop [0, 1, 2, 3, 4] (aX10_bestRun_j102 C v3 hs3 v4 v5 v7 (X10_bestRun_l36 v3 n) ih h12)) (fun _ =>
    aw_lload (pc := 94) C (i := 8) dK_b_110.2.2.2.1 rfl <|
    aw_lstore (pc := 96) C (i := 5) (lv' := [(0, .ref 0), (3, .ref v3), (4, .int v4), (5, .long x13), (7, .int v7), (8, .long x13)]) dK_b_110.2.2.2.2.1 (by decide) rfl <|
    aw_iload (pc := 98) C (i := 7) dK_b_110.2.2.2.2.2.1 rfl <|
    aw_istore (pc := 100) C (i := 4) (lv' := [(0, .ref 0), (3, .ref v3), (4, .int v7), (5, .long x13), (7, .int v7), (8, .long x13)]) dK_b_110.2.2.2.2.2.2.1 (by decide) rfl <|
    aw_drop [0, 1, 2, 3, 4] (aX10_bestRun_j102 C v3 hs3 v7 x13 v7 (X10_bestRun_l36 v3 n) ih h12)))
def X10_bestRun (v1 : Int32) (h : AH) : Option (Int32 × AH) :=
    bd (X10_nobody v1 h) fun r1 h2 =>
    if r1 = 0 then (bd (X5_at 42 v1 h2) fun r3 h4 =>
    cs ZC r3 (.inr 2) (vl (-1) fun x6 =>
    X10_bestRun_l36 r3 FU 4 x6 4 h4))
    else (bd (X10_refuse r1 h2) fun r15 h16 =>
    some (r15, h16))
set_option maxRecDepth 100000 in
theorem c_X10_bestRun (l : Launch) (v1 : Int32) : MC l yX10_bestRun cX10_bestRun 10 (some .int) rmX10_bestRun ZC [.ref 0, .int v1] rvI (X10_bestRun v1) :=
  MC.of (own := RX10) pn_RX10 rfl (Nat.le_of_ble_eq_true rfl) fun X yd A h _ C =>
    aw_aload_n (pc := 0) C (i := 0) dK_b_104.1 rfl rfl <|
    aw_iload_n (pc := 1) C (i := 1) dK_b_104.2.1 rfl rfl <|
    aw_callF (pc := 2) C (cr_V (rest := []) (F := (X10_nobody v1)) C (c_X10_nobody X.2.1 v1) dK_b_104.2.2.1 mf_X10_nobody ml_X10_93 im_X10_nobody se_X10_nobody sC_0 rfl ⟨(Nat.le_of_ble_eq_true rfl), (Nat.le_of_ble_eq_true rfl)⟩ rfl rfl (Nat.le_of_ble_eq_true rfl)) rfl rfl rfl (Nat.zero_le _) (Nat.zero_le _) fun r1 h2 =>
    aw_istore_n (pc := 5) C (i := 2) (lv' := [(0, .ref 0), (1, .int v1), (2, .int r1)]) dK_b_104.2.2.2.1 rfl (by decide) rfl <|
    aw_iload_n (pc := 6) C (i := 2) dK_b_104.2.2.2.2.1 rfl rfl <|
    aw_if_eq (pc := 7) C (tgt := 16) dK_b_104.2.2.2.2.2.1 rfl (fun _ =>
    aw_aload_n (pc := 16) C (i := 0) dK_b_105.2.2.1 rfl rfl <|
    aw_getR (pc := 17) C (b := 42) dK_b_105.2.2.2.1 fl_X10_72 sC_0 rfl rC_0_1 <|
    aw_iload_n (pc := 20) C (i := 1) dK_b_105.2.2.2.2.1 rfl rfl <|
    aw_callF (pc := 21) C (cr_V (rest := []) (F := (X5_at 42 v1)) C (c_X5_at X.2.1 42 (Or.inl rfl) v1) dK_b_105.2.2.2.2.2.1 mf_X5_at ml_X10_169 im_X5_at se_X5_at (mt_s (Or.inl rfl)) rfl ⟨(Nat.le_of_ble_eq_true rfl), (Nat.le_of_ble_eq_true rfl)⟩ rfl rfl (Nat.le_of_ble_eq_true rfl)) rfl rfl rfl (Nat.zero_le _) (Nat.zero_le _) fun r3 h4 =>
    aw_cs fun hs5 =>
    aw_astore_n (pc := 24) C (i := 3) (lv' := [(0, .ref 0), (1, .int v1), (2, .int r1), (3, .ref r3)]) dK_b_105.2.2.2.2.2.2.1 rfl (by decide) rfl <|
    aw_iconst (pc := 25) C (v := 4) dK_b_105.2.2.2.2.2.2.2.1 rfl <|
    aw_istore (pc := 26) C (i := 4) (lv' := [(0, .ref 0), (1, .int v1), (2, .int r1), (3, .ref r3), (4, .int 4)]) dK_b_106.1 (by decide) rfl <|
    aw_ldc2_w (pc := 28) C (v := (-1)) dK_b_106.2.1 kc_X10_280 <|
    aw_lstoreV (pc := 31) C (i := 5) (fun x6 => [(0, .ref 0), (1, .int v1), (2, .int r1), (3, .ref r3), (4, .int 4), (5, .long x6)]) dK_b_106.2.2.1 (by decide) (fun _ => rfl) fun x6 =>
    aw_iconst (pc := 33) C (v := 4) dK_b_106.2.2.2.1 rfl <|
    aw_istore (pc := 34) C (i := 7) (lv' := [(0, .ref 0), (1, .int v1), (2, .int r1), (3, .ref r3), (4, .int 4), (5, .long x6), (7, .int 4)]) dK_b_106.2.2.2.2.1 (by decide) rfl <|
    aw_drop [0, 3, 4, 5, 6] (aX10_bestRun_l36 C r3 hs5 FU 4 x6 4 h4)) (fun _ =>
    aw_aload_n (pc := 10) C (i := 0) dK_b_104.2.2.2.2.2.2.1 rfl rfl <|
    aw_iload_n (pc := 11) C (i := 2) dK_b_104.2.2.2.2.2.2.2.1 rfl rfl <|
    aw_callF (pc := 12) C (cr_V (rest := []) (F := (X10_refuse r1)) C (c_X10_refuse X.2.1 r1) dK_b_105.1 mf_X10_refuse ml_X10_111 im_X10_refuse se_X10_refuse sC_0 rfl ⟨(Nat.le_of_ble_eq_true rfl), (Nat.le_of_ble_eq_true rfl)⟩ rfl rfl (Nat.le_of_ble_eq_true rfl)) rfl rfl rfl (Nat.zero_le _) (Nat.zero_le _) fun r15 h16 =>
    aw_iret (pc := 15) C dK_b_105.2.1 rfl rfl)

abbrev rmX10_markIn : Room := { frames := 4, cells := 0, slots := 0, locals := 93 }
def X10_markIn (v1 : Int32) (v2 : Int32) (h : AH) : Option (Int32 × AH) :=
    bd (X10_nobody v1 h) fun r1 h2 =>
    bd (X10_outside v2 (-9) 9 h2) fun r3 h4 =>
    bd (X10_first r1 r3 h4) fun r5 h6 =>
    if r5 = 0 then (bd (X5_at 42 v1 h6) fun r7 h8 =>
    cs ZC r7 (.inr 2) (bd (X2_path r7 (h8.1 42 0) v2 h8) fun r10 h11 =>
    bd (kd (h11.2.2 r7) (X3_aimOf r7 h11) (X7_aimOf r7 h11) (X0_aimOf r7 h11) (X4_aimOf r7 h11) (X0_aimOf r7 h11) (X8_aimOf r7 h11)) fun r12 h13 =>
    some ((mx32 0 (mn32 2400 (r10 + r12))), h13)))
    else (bd (X10_refuse r5 h6) fun r14 h15 =>
    some (r14, h15))
set_option maxRecDepth 100000 in
theorem c_X10_markIn (l : Launch) (v1 : Int32) (v2 : Int32) : MC l yX10_markIn cX10_markIn 5 (some .int) rmX10_markIn ZC [.ref 0, .int v1, .int v2] rvI (X10_markIn v1 v2) :=
  MC.of (own := RX10) pn_RX10 rfl (Nat.le_of_ble_eq_true rfl) fun X yd A h _ C =>
    aw_aload_n (pc := 0) C (i := 0) dK_b_112.1 rfl rfl <|
    aw_iload_n (pc := 1) C (i := 1) dK_b_112.2.1 rfl rfl <|
    aw_callF (pc := 2) C (cr_V (rest := []) (F := (X10_nobody v1)) C (c_X10_nobody X.2.1 v1) dK_b_112.2.2.1 mf_X10_nobody ml_X10_93 im_X10_nobody se_X10_nobody sC_0 rfl ⟨(Nat.le_of_ble_eq_true rfl), (Nat.le_of_ble_eq_true rfl)⟩ rfl rfl (Nat.le_of_ble_eq_true rfl)) rfl rfl rfl (Nat.zero_le _) (Nat.zero_le _) fun r1 h2 =>
    aw_iload_n (pc := 5) C (i := 2) dK_b_112.2.2.2.1 rfl rfl <|
    aw_bipush (pc := 6) C (v := (-9)) dK_b_112.2.2.2.2.1 rfl <|
    aw_bipush (pc := 8) C (v := 9) dK_b_112.2.2.2.2.2.1 rfl <|
    aw_callF (pc := 10) C (cr_S (rest := [.int r1]) (F := (X10_outside v2 (-9) 9)) C (c_X10_outside X.2.1 v2 (-9) 9) dK_b_112.2.2.2.2.2.2.1 mf_X10_outside ml_X10_104 st_X10_outside ⟨(Nat.le_of_ble_eq_true rfl), (Nat.le_of_ble_eq_true rfl)⟩ rfl rfl (Nat.le_of_ble_eq_true rfl)) rfl rfl rfl (Nat.zero_le _) (Nat.zero_le _) fun r3 h4 =>
    aw_callF (pc := 13) C (cr_S (rest := []) (F := (X10_first r1 r3)) C (c_X10_first X.2.1 r1 r3) dK_b_112.2.2.2.2.2.2.2.1 mf_X10_first ml_X10_97 st_X10_first ⟨(Nat.le_of_ble_eq_true rfl), (Nat.le_of_ble_eq_true rfl)⟩ rfl rfl (Nat.le_of_ble_eq_true rfl)) rfl rfl rfl (Nat.zero_le _) (Nat.zero_le _) fun r5 h6 =>
    aw_istore_n (pc := 16) C (i := 3) (lv' := [(0, .ref 0), (1, .int v1), (2, .int v2), (3, .int r5)]) dK_b_113.1 rfl (by decide) rfl <|
    aw_iload_n (pc := 17) C (i := 3) dK_b_113.2.1 rfl rfl <|
    aw_if_eq (pc := 18) C (tgt := 27) dK_b_113.2.2.1 rfl (fun _ =>
    aw_aload_n (pc := 27) C (i := 0) dK_b_113.2.2.2.2.2.2.2.1 rfl rfl <|
    aw_getR (pc := 28) C (b := 42) dK_b_114.1 fl_X10_72 sC_0 rfl rC_0_1 <|
    aw_iload_n (pc := 31) C (i := 1) dK_b_114.2.1 rfl rfl <|
    aw_callF (pc := 32) C (cr_V (rest := []) (F := (X5_at 42 v1)) C (c_X5_at X.2.1 42 (Or.inl rfl) v1) dK_b_114.2.2.1 mf_X5_at ml_X10_169 im_X5_at se_X5_at (mt_s (Or.inl rfl)) rfl ⟨(Nat.le_of_ble_eq_true rfl), (Nat.le_of_ble_eq_true rfl)⟩ rfl rfl (Nat.le_of_ble_eq_true rfl)) rfl rfl rfl (Nat.zero_le _) (Nat.zero_le _) fun r7 h8 =>
    aw_cs fun hs9 =>
    aw_astore (pc := 35) C (i := 4) (lv' := [(0, .ref 0), (1, .int v1), (2, .int v2), (3, .int r5), (4, .ref r7)]) dK_b_114.2.2.2.1 (by decide) rfl <|
    aw_iconst (pc := 37) C (v := 0) dK_b_114.2.2.2.2.1 rfl <|
    aw_sipush (pc := 38) C (v := 2400) dK_b_114.2.2.2.2.2.1 rfl <|
    aw_aload (pc := 41) C (i := 4) dK_b_114.2.2.2.2.2.2.1 rfl <|
    aw_aload_n (pc := 43) C (i := 0) dK_b_114.2.2.2.2.2.2.2.1 rfl rfl <|
    aw_getR (pc := 44) C (b := 42) dK_b_115.1 fl_X10_72 sC_0 rfl rC_0_1 <|
    aw_getI (pc := 47) C dK_b_115.2.1 fl_X10_163 (mt_s (Or.inl rfl)) rfl <|
    aw_iload_n (pc := 50) C (i := 2) dK_b_115.2.2.1 rfl rfl <|
    aw_callF (pc := 51) C (cr_V (rest := [.int 2400, .int 0]) (F := (X2_path r7 (h8.1 42 0) v2)) C (c_X2_path X.2.1 r7 hs9 (h8.1 42 0) v2) dK_b_115.2.2.2.1 mf_X2_path ml_X10_232 im_X2_path se_X2_path hs9 rfl ⟨(Nat.le_of_ble_eq_true rfl), (Nat.le_of_ble_eq_true rfl)⟩ rfl rfl (Nat.le_of_ble_eq_true rfl)) rfl rfl rfl (Nat.zero_le _) (Nat.zero_le _) fun r10 h11 =>
    aw_aload (pc := 54) C (i := 4) dK_b_115.2.2.2.2.1 rfl <|
    aw_getW (pc := 56) C (b := (36 + h11.2.2 r7 % 6)) dK_b_115.2.2.2.2.2.1 fl_X10_173 hs9 rfl rfl <|
    aw_aload (pc := 59) C (i := 4) dK_b_115.2.2.2.2.2.2.1 rfl <|
    aw_callF (pc := 61) C (kdA_aimOf C dK_b_115.2.2.2.2.2.2.2.1 ml_X10_354 (h11.2.2 r7) r7 hs9  [.int r10, .int 2400, .int 0] ⟨⟨(Nat.le_of_ble_eq_true rfl), (Nat.le_of_ble_eq_true rfl)⟩, ⟨(Nat.le_of_ble_eq_true rfl), (Nat.le_of_ble_eq_true rfl)⟩, ⟨(Nat.le_of_ble_eq_true rfl), (Nat.le_of_ble_eq_true rfl)⟩, ⟨(Nat.le_of_ble_eq_true rfl), (Nat.le_of_ble_eq_true rfl)⟩, ⟨(Nat.le_of_ble_eq_true rfl), (Nat.le_of_ble_eq_true rfl)⟩, ⟨(Nat.le_of_ble_eq_true rfl), (Nat.le_of_ble_eq_true rfl)⟩⟩ (Nat.le_of_ble_eq_true rfl)) rfl rfl rfl (Nat.zero_le _) (Nat.zero_le _) fun r12 h13 =>
    aw_iadd (pc := 64) C dK_b_116.1 <|
    aw_mmin (pc := 65) C dK_b_116.2.1 ml_X10_291 w_mminS w_mI w_mminC ⟨(Nat.le_of_ble_eq_true rfl), (Nat.le_of_ble_eq_true rfl)⟩ (Nat.zero_le _) (Nat.zero_le _) <|
    aw_mmax (pc := 68) C dK_b_116.2.2.1 ml_X10_286 w_mmaxS w_mI w_mmaxC ⟨(Nat.le_of_ble_eq_true rfl), (Nat.le_of_ble_eq_true rfl)⟩ (Nat.zero_le _) (Nat.zero_le _) <|
    aw_iret (pc := 71) C dK_b_116.2.2.2.1 rfl rfl) (fun _ =>
    aw_aload_n (pc := 21) C (i := 0) dK_b_113.2.2.2.1 rfl rfl <|
    aw_iload_n (pc := 22) C (i := 3) dK_b_113.2.2.2.2.1 rfl rfl <|
    aw_callF (pc := 23) C (cr_V (rest := []) (F := (X10_refuse r5)) C (c_X10_refuse X.2.1 r5) dK_b_113.2.2.2.2.2.1 mf_X10_refuse ml_X10_111 im_X10_refuse se_X10_refuse sC_0 rfl ⟨(Nat.le_of_ble_eq_true rfl), (Nat.le_of_ble_eq_true rfl)⟩ rfl rfl (Nat.le_of_ble_eq_true rfl)) rfl rfl rfl (Nat.zero_le _) (Nat.zero_le _) fun r14 h15 =>
    aw_iret (pc := 26) C dK_b_113.2.2.2.2.2.2.1 rfl rfl)

abbrev rmX10_fouled : Room := { frames := 2, cells := 0, slots := 0, locals := 45 }
def X10_fouled_j106  (v1 : Int32) (v2 : Int32) (v4 : Int32) (v5 : Int32) (v6 : Int32) (K37 : Int32 → Int32 → Int32 → AH → Option (Int64 × AH)) (h : AH) : Option (Int64 × AH) :=
    vl (v6 + 1) fun x9 =>
    K37 v4 v5 x9 h
set_option maxRecDepth 100000 in
theorem aX10_fouled_j106 {X : MCx} {yd : Dyn} {A : Nat → Prop} (C : OK X cX10_fouled RX10 7 (some .long) rmX10_fouled A)  (v1 : Int32) (v2 : Int32) (v4 : Int32) (v5 : Int32) (v6 : Int32) (K37 : Int32 → Int32 → Int32 → AH → Option (Int64 × AH)) (hK37 : ∀ (w4 : Int32) (w5 : Int32) (w6 : Int32) (h : AH), AW X 7 ZC yd A 0 0 (QF X rmX10_fouled ZC yd rvL A) 37 [(0, .ref 0), (1, .int v1), (2, .int v2), (4, .int w4), (5, .int w5), (6, .int w6)] [] h (K37 w4 w5 w6 h)) (h : AH) : AW X 7 ZC yd A 0 0 (QF X rmX10_fouled ZC yd rvL A) 106 [(0, .ref 0), (1, .int v1), (2, .int v2), (4, .int v4), (5, .int v5), (6, .int v6)] [] h (X10_fouled_j106 v1 v2 v4 v5 v6 K37 h) := by
    exact aw_iincV (pc := 106) C (i := 6) (cst := 1) (fun x9 => [(0, .ref 0), (1, .int v1), (2, .int v2), (4, .int v4), (5, .int v5), (6, .int x9)]) dK_b_123.2.2.2.2.2.2.2.1 rfl rfl (by decide) (fun _ => rfl) fun x9 =>
    aw_goto (pc := 109) C (tgt := 37) dK_b_124.1 rfl <|
    (hK37 v4 v5 x9 h)
def X10_fouled_j103  (v1 : Int32) (v2 : Int32) (v5 : Int32) (v6 : Int32) (K37 : Int32 → Int32 → Int32 → AH → Option (Int64 × AH)) (s0 : Int32) (s1 : Int32) (h : AH) : Option (Int64 × AH) :=
    vl (s1 + s0) fun x11 =>
    X10_fouled_j106 v1 v2 x11 v5 v6 K37 h
set_option maxRecDepth 100000 in
theorem aX10_fouled_j103 {X : MCx} {yd : Dyn} {A : Nat → Prop} (C : OK X cX10_fouled RX10 7 (some .long) rmX10_fouled A)  (v1 : Int32) (v2 : Int32) (v5 : Int32) (v6 : Int32) (K37 : Int32 → Int32 → Int32 → AH → Option (Int64 × AH)) (hK37 : ∀ (w4 : Int32) (w5 : Int32) (w6 : Int32) (h : AH), AW X 7 ZC yd A 0 0 (QF X rmX10_fouled ZC yd rvL A) 37 [(0, .ref 0), (1, .int v1), (2, .int v2), (4, .int w4), (5, .int w5), (6, .int w6)] [] h (K37 w4 w5 w6 h)) (s0 : Int32) (s1 : Int32) (h : AH) : AW X 7 ZC yd A 0 0 (QF X rmX10_fouled ZC yd rvL A) 103 [(0, .ref 0), (1, .int v1), (2, .int v2), (5, .int v5), (6, .int v6)] [.int s0, .int s1] h (X10_fouled_j103 v1 v2 v5 v6 K37 s0 s1 h) := by
    exact aw_iadd (pc := 103) C dK_b_123.2.2.2.2.2.1 <|
    aw_istoreV (pc := 104) C (i := 4) (fun x11 => [(0, .ref 0), (1, .int v1), (2, .int v2), (4, .int x11), (5, .int v5), (6, .int v6)]) dK_b_123.2.2.2.2.2.2.1 (by decide) (fun _ => rfl) fun x11 =>
    (aX10_fouled_j106 C v1 v2 x11 v5 v6 K37 hK37 h)
def X10_fouled_l37  (v1 : Int32) (v2 : Int32) : Nat → Int32 → Int32 → Int32 → AH → Option (Int64 × AH)
  | 0, _, _, _, _ => none
  | n + 1, v4, v5, v6, h =>
    if (h.1 42 4) ≤ v6 then (bd (X10_fraction v4.toInt64 ((mx32 1 v5).toInt64) v2 h) fun r7 h8 =>
    some (r7, h8))
    else (ck v6 24 (if (h.1 44 v6.toNatClampNeg) = v1 then (ck v6 24 (if (h.1 46 v6.toNatClampNeg) = (-8) then (X10_fouled_j106 v1 v2 v4 v5 v6 (X10_fouled_l37 v1 v2 n) h)
    else (vl (v5 + 1) fun x10 =>
    ck v6 24 (if (h.1 46 v6.toNatClampNeg) = (-9) then (X10_fouled_j103 v1 v2 x10 v6 (X10_fouled_l37 v1 v2 n) 1 v4 h)
    else (X10_fouled_j103 v1 v2 x10 v6 (X10_fouled_l37 v1 v2 n) 0 v4 h)))))
    else (X10_fouled_j106 v1 v2 v4 v5 v6 (X10_fouled_l37 v1 v2 n) h)))
set_option maxRecDepth 100000 in
theorem aX10_fouled_l37 {X : MCx} {yd : Dyn} {A : Nat → Prop} (C : OK X cX10_fouled RX10 7 (some .long) rmX10_fouled A)  (v1 : Int32) (v2 : Int32) : ∀ (n : Nat) (v4 : Int32) (v5 : Int32) (v6 : Int32) (h : AH), AW X 7 ZC yd A 0 0 (QF X rmX10_fouled ZC yd rvL A) 37 [(0, .ref 0), (1, .int v1), (2, .int v2), (4, .int v4), (5, .int v5), (6, .int v6)] [] h (X10_fouled_l37 v1 v2 n v4 v5 v6 h) := by
  intro n
  induction n with
  | zero => intro v4 v5 v6 h; exact aw_none
  | succ n ih =>
    intro v4 v5 v6 h
    exact aw_iload (pc := 37) C (i := 6) dK_b_119.2.2.2.2.2.2.1 rfl <|
    aw_aload_n (pc := 39) C (i := 0) dK_b_119.2.2.2.2.2.2.2.1 rfl rfl <|
    aw_getR (pc := 40) C (b := 42) dK_b_120.1 fl_X10_72 sC_0 rfl rC_0_1 <|
    aw_getI (pc := 43) C dK_b_120.2.1 fl_X10_160 (mt_s (Or.inl rfl)) rfl <|
    aw_icmp_ge (pc := 46) C (tgt := 112) dK_b_120.2.2.1 rfl (fun _ =>
    aw_iload (pc := 112) C (i := 4) dK_b_124.2.1 rfl <|
    aw_i2l (pc := 114) C dK_b_124.2.2.1 <|
    aw_iconst (pc := 115) C (v := 1) dK_b_124.2.2.2.1 rfl <|
    aw_iload (pc := 116) C (i := 5) dK_b_124.2.2.2.2.1 rfl <|
    aw_mmax (pc := 118) C dK_b_124.2.2.2.2.2.1 ml_X10_286 w_mmaxS w_mI w_mmaxC ⟨(Nat.le_of_ble_eq_true rfl), (Nat.le_of_ble_eq_true rfl)⟩ (Nat.zero_le _) (Nat.zero_le _) <|
    aw_i2l (pc := 121) C dK_b_124.2.2.2.2.2.2.1 <|
    aw_iload_n (pc := 122) C (i := 2) dK_b_124.2.2.2.2.2.2.2.1 rfl rfl <|
    aw_callF (pc := 123) C (cr_S (rest := []) (F := (X10_fraction v4.toInt64 ((mx32 1 v5).toInt64) v2)) C (c_X10_fraction X.2.1 v4.toInt64 ((mx32 1 v5).toInt64) v2) dK_b_125.1 mf_X10_fraction ml_X10_262 st_X10_fraction ⟨(Nat.le_of_ble_eq_true rfl), (Nat.le_of_ble_eq_true rfl)⟩ rfl rfl (Nat.le_of_ble_eq_true rfl)) rfl rfl rfl (Nat.zero_le _) (Nat.zero_le _) fun r7 h8 =>
    aw_lret (pc := 126) C dK_b_125.2.1 rfl rfl) (fun _ =>
    aw_aload_n (pc := 49) C (i := 0) dK_b_120.2.2.2.1 rfl rfl <|
    aw_getR (pc := 50) C (b := 42) dK_b_120.2.2.2.2.1 fl_X10_72 sC_0 rfl rC_0_1 <|
    aw_getR (pc := 53) C (b := 44) dK_b_120.2.2.2.2.2.1 fl_X10_297 (mt_s (Or.inl rfl)) rfl rC_42_6 <|
    aw_iload (pc := 56) C (i := 6) dK_b_120.2.2.2.2.2.2.1 rfl <|
    aw_iald (pc := 58) C dK_b_120.2.2.2.2.2.2.2.1 sC_44 rfl <|
    aw_iload_n (pc := 59) C (i := 1) dK_b_121.1 rfl rfl <|
    aw_icmp_ne (pc := 60) C (tgt := 106) dK_b_121.2.1 rfl (fun _ =>
    aw_aload_n (pc := 63) C (i := 0) dK_b_121.2.2.1 rfl rfl <|
    aw_getR (pc := 64) C (b := 42) dK_b_121.2.2.2.1 fl_X10_72 sC_0 rfl rC_0_1 <|
    aw_getR (pc := 67) C (b := 46) dK_b_121.2.2.2.2.1 fl_X10_303 (mt_s (Or.inl rfl)) rfl rC_42_8 <|
    aw_iload (pc := 70) C (i := 6) dK_b_121.2.2.2.2.2.1 rfl <|
    aw_iald (pc := 72) C dK_b_121.2.2.2.2.2.2.1 sC_46 rfl <|
    aw_bipush (pc := 73) C (v := (-8)) dK_b_121.2.2.2.2.2.2.2.1 rfl <|
    aw_icmp_eq (pc := 75) C (tgt := 106) dK_b_122.1 rfl (fun _ =>
    (aX10_fouled_j106 C v1 v2 v4 v5 v6 (X10_fouled_l37 v1 v2 n) ih h)) (fun _ =>
    aw_iincV (pc := 78) C (i := 5) (cst := 1) (fun x10 => [(0, .ref 0), (1, .int v1), (2, .int v2), (4, .int v4), (5, .int x10), (6, .int v6)]) dK_b_122.2.1 rfl rfl (by decide) (fun _ => rfl) fun x10 =>
    aw_iload (pc := 81) C (i := 4) dK_b_122.2.2.1 rfl <|
    aw_aload_n (pc := 83) C (i := 0) dK_b_122.2.2.2.1 rfl rfl <|
    aw_getR (pc := 84) C (b := 42) dK_b_122.2.2.2.2.1 fl_X10_72 sC_0 rfl rC_0_1 <|
    aw_getR (pc := 87) C (b := 46) dK_b_122.2.2.2.2.2.1 fl_X10_303 (mt_s (Or.inl rfl)) rfl rC_42_8 <|
    aw_iload (pc := 90) C (i := 6) dK_b_122.2.2.2.2.2.2.1 rfl <|
    aw_iald (pc := 92) C dK_b_122.2.2.2.2.2.2.2.1 sC_46 rfl <|
    aw_bipush (pc := 93) C (v := (-9)) dK_b_123.1 rfl <|
    aw_icmp_ne (pc := 95) C (tgt := 102) dK_b_123.2.1 rfl (fun _ =>
    aw_iconst (pc := 98) C (v := 1) dK_b_123.2.2.1 rfl <|
    aw_goto (pc := 99) C (tgt := 103) dK_b_123.2.2.2.1 rfl <|
    aw_drop [0, 1, 2, 4, 5] (aX10_fouled_j103 C v1 v2 x10 v6 (X10_fouled_l37 v1 v2 n) ih 1 v4 h)) (fun _ =>
    aw_iconst (pc := 102) C (v := 0) dK_b_123.2.2.2.2.1 rfl <|
    aw_drop [0, 1, 2, 4, 5] (aX10_fouled_j103 C v1 v2 x10 v6 (X10_fouled_l37 v1 v2 n) ih 0 v4 h)))) (fun _ =>
    (aX10_fouled_j106 C v1 v2 v4 v5 v6 (X10_fouled_l37 v1 v2 n) ih h)))
def X10_fouled (v1 : Int32) (v2 : Int32) (h : AH) : Option (Int64 × AH) :=
    bd (X10_nobody v1 h) fun r1 h2 =>
    bd (X10_noPart v2 h2) fun r3 h4 =>
    bd (X10_first r1 r3 h4) fun r5 h6 =>
    if r5 = 0 then (X10_fouled_l37 v1 v2 FU 0 0 0 h6)
    else (bd (X10_refuse r5 h6) fun r12 h13 =>
    some ((4000000000000000000 - r12.toInt64), h13))
set_option maxRecDepth 100000 in
theorem c_X10_fouled (l : Launch) (v1 : Int32) (v2 : Int32) : MC l yX10_fouled cX10_fouled 7 (some .long) rmX10_fouled ZC [.ref 0, .int v1, .int v2] rvL (X10_fouled v1 v2) :=
  MC.of (own := RX10) pn_RX10 rfl (Nat.le_of_ble_eq_true rfl) fun X yd A h _ C =>
    aw_aload_n (pc := 0) C (i := 0) dK_b_117.1 rfl rfl <|
    aw_iload_n (pc := 1) C (i := 1) dK_b_117.2.1 rfl rfl <|
    aw_callF (pc := 2) C (cr_V (rest := []) (F := (X10_nobody v1)) C (c_X10_nobody X.2.1 v1) dK_b_117.2.2.1 mf_X10_nobody ml_X10_93 im_X10_nobody se_X10_nobody sC_0 rfl ⟨(Nat.le_of_ble_eq_true rfl), (Nat.le_of_ble_eq_true rfl)⟩ rfl rfl (Nat.le_of_ble_eq_true rfl)) rfl rfl rfl (Nat.zero_le _) (Nat.zero_le _) fun r1 h2 =>
    aw_iload_n (pc := 5) C (i := 2) dK_b_117.2.2.2.1 rfl rfl <|
    aw_callF (pc := 6) C (cr_S (rest := [.int r1]) (F := (X10_noPart v2)) C (c_X10_noPart X.2.1 v2) dK_b_117.2.2.2.2.1 mf_X10_noPart ml_X10_246 st_X10_noPart ⟨(Nat.le_of_ble_eq_true rfl), (Nat.le_of_ble_eq_true rfl)⟩ rfl rfl (Nat.le_of_ble_eq_true rfl)) rfl rfl rfl (Nat.zero_le _) (Nat.zero_le _) fun r3 h4 =>
    aw_callF (pc := 9) C (cr_S (rest := []) (F := (X10_first r1 r3)) C (c_X10_first X.2.1 r1 r3) dK_b_117.2.2.2.2.2.1 mf_X10_first ml_X10_97 st_X10_first ⟨(Nat.le_of_ble_eq_true rfl), (Nat.le_of_ble_eq_true rfl)⟩ rfl rfl (Nat.le_of_ble_eq_true rfl)) rfl rfl rfl (Nat.zero_le _) (Nat.zero_le _) fun r5 h6 =>
    aw_istore_n (pc := 12) C (i := 3) (lv' := [(0, .ref 0), (1, .int v1), (2, .int v2), (3, .int r5)]) dK_b_117.2.2.2.2.2.2.1 rfl (by decide) rfl <|
    aw_iload_n (pc := 13) C (i := 3) dK_b_117.2.2.2.2.2.2.2.1 rfl rfl <|
    aw_if_eq (pc := 14) C (tgt := 28) dK_b_118.1 rfl (fun _ =>
    aw_iconst (pc := 28) C (v := 0) dK_b_119.1 rfl <|
    aw_istore (pc := 29) C (i := 4) (lv' := [(0, .ref 0), (1, .int v1), (2, .int v2), (3, .int r5), (4, .int 0)]) dK_b_119.2.1 (by decide) rfl <|
    aw_iconst (pc := 31) C (v := 0) dK_b_119.2.2.1 rfl <|
    aw_istore (pc := 32) C (i := 5) (lv' := [(0, .ref 0), (1, .int v1), (2, .int v2), (3, .int r5), (4, .int 0), (5, .int 0)]) dK_b_119.2.2.2.1 (by decide) rfl <|
    aw_iconst (pc := 34) C (v := 0) dK_b_119.2.2.2.2.1 rfl <|
    aw_istore (pc := 35) C (i := 6) (lv' := [(0, .ref 0), (1, .int v1), (2, .int v2), (3, .int r5), (4, .int 0), (5, .int 0), (6, .int 0)]) dK_b_119.2.2.2.2.2.1 (by decide) rfl <|
    aw_drop [0, 1, 2, 4, 5, 6] (aX10_fouled_l37 C v1 v2 FU 0 0 0 h6)) (fun _ =>
    aw_ldc2_w (pc := 17) C (v := 4000000000000000000) dK_b_118.2.1 kc_X10_249 <|
    aw_aload_n (pc := 20) C (i := 0) dK_b_118.2.2.1 rfl rfl <|
    aw_iload_n (pc := 21) C (i := 3) dK_b_118.2.2.2.1 rfl rfl <|
    aw_callF (pc := 22) C (cr_V (rest := [.long 4000000000000000000]) (F := (X10_refuse r5)) C (c_X10_refuse X.2.1 r5) dK_b_118.2.2.2.2.1 mf_X10_refuse ml_X10_111 im_X10_refuse se_X10_refuse sC_0 rfl ⟨(Nat.le_of_ble_eq_true rfl), (Nat.le_of_ble_eq_true rfl)⟩ rfl rfl (Nat.le_of_ble_eq_true rfl)) rfl rfl rfl (Nat.zero_le _) (Nat.zero_le _) fun r12 h13 =>
    aw_i2l (pc := 25) C dK_b_118.2.2.2.2.2.1 <|
    aw_lsub (pc := 26) C dK_b_118.2.2.2.2.2.2.1 <|
    aw_lret (pc := 27) C dK_b_118.2.2.2.2.2.2.2.1 rfl rfl)

abbrev rmX10_better : Room := { frames := 1, cells := 0, slots := 0, locals := 21 }
def X10_better_j78  (v1 : Int32) (v3 : Int32) (v4 : Int32) (v5 : Int32) (K24 : Int32 → Int32 → Int32 → AH → Option (Int32 × AH)) (h : AH) : Option (Int32 × AH) :=
    vl (v5 + 1) fun x3 =>
    K24 v3 v4 x3 h
set_option maxRecDepth 100000 in
theorem aX10_better_j78 {X : MCx} {yd : Dyn} {A : Nat → Prop} (C : OK X cX10_better RX10 6 (some .int) rmX10_better A)  (v1 : Int32) (v3 : Int32) (v4 : Int32) (v5 : Int32) (K24 : Int32 → Int32 → Int32 → AH → Option (Int32 × AH)) (hK24 : ∀ (w3 : Int32) (w4 : Int32) (w5 : Int32) (h : AH), AW X 6 ZC yd A 0 0 (QF X rmX10_better ZC yd rvI A) 24 [(0, .ref 0), (1, .int v1), (3, .int w3), (4, .int w4), (5, .int w5)] [] h (K24 w3 w4 w5 h)) (h : AH) : AW X 6 ZC yd A 0 0 (QF X rmX10_better ZC yd rvI A) 78 [(0, .ref 0), (1, .int v1), (3, .int v3), (4, .int v4), (5, .int v5)] [] h (X10_better_j78 v1 v3 v4 v5 K24 h) := by
    exact aw_iincV (pc := 78) C (i := 5) (cst := 1) (fun x3 => [(0, .ref 0), (1, .int v1), (3, .int v3), (4, .int v4), (5, .int x3)]) dK_b_131.2.2.1 rfl rfl (by decide) (fun _ => rfl) fun x3 =>
    aw_goto (pc := 81) C (tgt := 24) dK_b_131.2.2.2.1 rfl <|
    (hK24 v3 v4 x3 h)
def X10_better_l24  (v1 : Int32) : Nat → Int32 → Int32 → Int32 → AH → Option (Int32 × AH)
  | 0, _, _, _, _ => none
  | n + 1, v3, v4, v5, h =>
    if (h.1 42 4) ≤ v5 then (some (v4, h))
    else (ck v5 24 (if (h.1 44 v5.toNatClampNeg) = v1 then (ck v5 24 (if (h.1 46 v5.toNatClampNeg) ≤ v3 then (X10_better_j78 v1 v3 v4 v5 (X10_better_l24 v1 n) h)
    else (ck v5 24 (vl (h.1 46 v5.toNatClampNeg) fun x4 =>
    vl (v4 + 1) fun x5 =>
    X10_better_j78 v1 x4 x5 v5 (X10_better_l24 v1 n) h))))
    else (X10_better_j78 v1 v3 v4 v5 (X10_better_l24 v1 n) h)))
set_option maxRecDepth 100000 in
theorem aX10_better_l24 {X : MCx} {yd : Dyn} {A : Nat → Prop} (C : OK X cX10_better RX10 6 (some .int) rmX10_better A)  (v1 : Int32) : ∀ (n : Nat) (v3 : Int32) (v4 : Int32) (v5 : Int32) (h : AH), AW X 6 ZC yd A 0 0 (QF X rmX10_better ZC yd rvI A) 24 [(0, .ref 0), (1, .int v1), (3, .int v3), (4, .int v4), (5, .int v5)] [] h (X10_better_l24 v1 n v3 v4 v5 h) := by
  intro n
  induction n with
  | zero => intro v3 v4 v5 h; exact aw_none
  | succ n ih =>
    intro v3 v4 v5 h
    exact aw_iload (pc := 24) C (i := 5) dK_b_128.1 rfl <|
    aw_aload_n (pc := 26) C (i := 0) dK_b_128.2.1 rfl rfl <|
    aw_getR (pc := 27) C (b := 42) dK_b_128.2.2.1 fl_X10_72 sC_0 rfl rC_0_1 <|
    aw_getI (pc := 30) C dK_b_128.2.2.2.1 fl_X10_160 (mt_s (Or.inl rfl)) rfl <|
    aw_icmp_ge (pc := 33) C (tgt := 84) dK_b_128.2.2.2.2.1 rfl (fun _ =>
    aw_iload (pc := 84) C (i := 4) dK_b_131.2.2.2.2.1 rfl <|
    aw_iret (pc := 86) C dK_b_131.2.2.2.2.2.1 rfl rfl) (fun _ =>
    aw_aload_n (pc := 36) C (i := 0) dK_b_128.2.2.2.2.2.1 rfl rfl <|
    aw_getR (pc := 37) C (b := 42) dK_b_128.2.2.2.2.2.2.1 fl_X10_72 sC_0 rfl rC_0_1 <|
    aw_getR (pc := 40) C (b := 44) dK_b_128.2.2.2.2.2.2.2.1 fl_X10_297 (mt_s (Or.inl rfl)) rfl rC_42_6 <|
    aw_iload (pc := 43) C (i := 5) dK_b_129.1 rfl <|
    aw_iald (pc := 45) C dK_b_129.2.1 sC_44 rfl <|
    aw_iload_n (pc := 46) C (i := 1) dK_b_129.2.2.1 rfl rfl <|
    aw_icmp_ne (pc := 47) C (tgt := 78) dK_b_129.2.2.2.1 rfl (fun _ =>
    aw_aload_n (pc := 50) C (i := 0) dK_b_129.2.2.2.2.1 rfl rfl <|
    aw_getR (pc := 51) C (b := 42) dK_b_129.2.2.2.2.2.1 fl_X10_72 sC_0 rfl rC_0_1 <|
    aw_getR (pc := 54) C (b := 46) dK_b_129.2.2.2.2.2.2.1 fl_X10_303 (mt_s (Or.inl rfl)) rfl rC_42_8 <|
    aw_iload (pc := 57) C (i := 5) dK_b_129.2.2.2.2.2.2.2.1 rfl <|
    aw_iald (pc := 59) C dK_b_130.1 sC_46 rfl <|
    aw_iload_n (pc := 60) C (i := 3) dK_b_130.2.1 rfl rfl <|
    aw_icmp_le (pc := 61) C (tgt := 78) dK_b_130.2.2.1 rfl (fun _ =>
    (aX10_better_j78 C v1 v3 v4 v5 (X10_better_l24 v1 n) ih h)) (fun _ =>
    aw_aload_n (pc := 64) C (i := 0) dK_b_130.2.2.2.1 rfl rfl <|
    aw_getR (pc := 65) C (b := 42) dK_b_130.2.2.2.2.1 fl_X10_72 sC_0 rfl rC_0_1 <|
    aw_getR (pc := 68) C (b := 46) dK_b_130.2.2.2.2.2.1 fl_X10_303 (mt_s (Or.inl rfl)) rfl rC_42_8 <|
    aw_iload (pc := 71) C (i := 5) dK_b_130.2.2.2.2.2.2.1 rfl <|
    aw_iald (pc := 73) C dK_b_130.2.2.2.2.2.2.2.1 sC_46 rfl <|
    aw_istoreV_n (pc := 74) C (i := 3) (fun x4 => [(0, .ref 0), (1, .int v1), (3, .int x4), (4, .int v4), (5, .int v5)]) dK_b_131.1 rfl (by decide) (fun _ => rfl) fun x4 =>
    aw_iincV (pc := 75) C (i := 4) (cst := 1) (fun x5 => [(0, .ref 0), (1, .int v1), (3, .int x4), (4, .int x5), (5, .int v5)]) dK_b_131.2.1 rfl rfl (by decide) (fun _ => rfl) fun x5 =>
    (aX10_better_j78 C v1 x4 x5 v5 (X10_better_l24 v1 n) ih h))) (fun _ =>
    (aX10_better_j78 C v1 v3 v4 v5 (X10_better_l24 v1 n) ih h)))
def X10_better (v1 : Int32) (h : AH) : Option (Int32 × AH) :=
    bd (X10_nobody v1 h) fun r1 h2 =>
    if r1 = 0 then (X10_better_l24 v1 FU 0 0 0 h2)
    else (bd (X10_refuse r1 h2) fun r6 h7 =>
    some (r6, h7))
set_option maxRecDepth 100000 in
theorem c_X10_better (l : Launch) (v1 : Int32) : MC l yX10_better cX10_better 6 (some .int) rmX10_better ZC [.ref 0, .int v1] rvI (X10_better v1) :=
  MC.of (own := RX10) pn_RX10 rfl (Nat.le_of_ble_eq_true rfl) fun X yd A h _ C =>
    aw_aload_n (pc := 0) C (i := 0) dK_b_126.1 rfl rfl <|
    aw_iload_n (pc := 1) C (i := 1) dK_b_126.2.1 rfl rfl <|
    aw_callF (pc := 2) C (cr_V (rest := []) (F := (X10_nobody v1)) C (c_X10_nobody X.2.1 v1) dK_b_126.2.2.1 mf_X10_nobody ml_X10_93 im_X10_nobody se_X10_nobody sC_0 rfl ⟨(Nat.le_of_ble_eq_true rfl), (Nat.le_of_ble_eq_true rfl)⟩ rfl rfl (Nat.le_of_ble_eq_true rfl)) rfl rfl rfl (Nat.zero_le _) (Nat.zero_le _) fun r1 h2 =>
    aw_istore_n (pc := 5) C (i := 2) (lv' := [(0, .ref 0), (1, .int v1), (2, .int r1)]) dK_b_126.2.2.2.1 rfl (by decide) rfl <|
    aw_iload_n (pc := 6) C (i := 2) dK_b_126.2.2.2.2.1 rfl rfl <|
    aw_if_eq (pc := 7) C (tgt := 16) dK_b_126.2.2.2.2.2.1 rfl (fun _ =>
    aw_iconst (pc := 16) C (v := 0) dK_b_127.2.2.1 rfl <|
    aw_istore_n (pc := 17) C (i := 3) (lv' := [(0, .ref 0), (1, .int v1), (2, .int r1), (3, .int 0)]) dK_b_127.2.2.2.1 rfl (by decide) rfl <|
    aw_iconst (pc := 18) C (v := 0) dK_b_127.2.2.2.2.1 rfl <|
    aw_istore (pc := 19) C (i := 4) (lv' := [(0, .ref 0), (1, .int v1), (2, .int r1), (3, .int 0), (4, .int 0)]) dK_b_127.2.2.2.2.2.1 (by decide) rfl <|
    aw_iconst (pc := 21) C (v := 0) dK_b_127.2.2.2.2.2.2.1 rfl <|
    aw_istore (pc := 22) C (i := 5) (lv' := [(0, .ref 0), (1, .int v1), (2, .int r1), (3, .int 0), (4, .int 0), (5, .int 0)]) dK_b_127.2.2.2.2.2.2.2.1 (by decide) rfl <|
    aw_drop [0, 1, 3, 4, 5] (aX10_better_l24 C v1 FU 0 0 0 h2)) (fun _ =>
    aw_aload_n (pc := 10) C (i := 0) dK_b_126.2.2.2.2.2.2.1 rfl rfl <|
    aw_iload_n (pc := 11) C (i := 2) dK_b_126.2.2.2.2.2.2.2.1 rfl rfl <|
    aw_callF (pc := 12) C (cr_V (rest := []) (F := (X10_refuse r1)) C (c_X10_refuse X.2.1 r1) dK_b_127.1 mf_X10_refuse ml_X10_111 im_X10_refuse se_X10_refuse sC_0 rfl ⟨(Nat.le_of_ble_eq_true rfl), (Nat.le_of_ble_eq_true rfl)⟩ rfl rfl (Nat.le_of_ble_eq_true rfl)) rfl rfl rfl (Nat.zero_le _) (Nat.zero_le _) fun r6 h7 =>
    aw_iret (pc := 15) C dK_b_127.2.1 rfl rfl)
end
section
abbrev rmX10_fullLength : Room := { frames := 3, cells := 0, slots := 0, locals := 74 }
def X10_fullLength (v1 : Int32) (h : AH) : Option (Int32 × AH) :=
    bd (X5_at 42 v1 h) fun r1 h2 =>
    cs ZC r1 (.inr 2) (bd (kd (h2.2.2 r1) (X3_lengthOf r1 0 0 (h2.1 42 1) h2) (X7_lengthOf r1 0 0 (h2.1 42 1) h2) (X0_lengthOf r1 0 0 (h2.1 42 1) h2) (X7_lengthOf r1 0 0 (h2.1 42 1) h2) (X9_lengthOf r1 0 0 (h2.1 42 1) h2) (X8_lengthOf r1 0 0 (h2.1 42 1) h2)) fun r4 h5 =>
    some (r4, h5))
set_option maxRecDepth 100000 in
theorem c_X10_fullLength (l : Launch) (v1 : Int32) : MC l yX10_fullLength cX10_fullLength 3 (some .int) rmX10_fullLength ZC [.ref 0, .int v1] rvI (X10_fullLength v1) :=
  MC.of (own := RX10) pn_RX10 rfl (Nat.le_of_ble_eq_true rfl) fun X yd A h _ C =>
    aw_aload_n (pc := 0) C (i := 0) dK_b_144.1 rfl rfl <|
    aw_getR (pc := 1) C (b := 42) dK_b_144.2.1 fl_X10_72 sC_0 rfl rC_0_1 <|
    aw_iload_n (pc := 4) C (i := 1) dK_b_144.2.2.1 rfl rfl <|
    aw_callF (pc := 5) C (cr_V (rest := []) (F := (X5_at 42 v1)) C (c_X5_at X.2.1 42 (Or.inl rfl) v1) dK_b_144.2.2.2.1 mf_X5_at ml_X10_169 im_X5_at se_X5_at (mt_s (Or.inl rfl)) rfl ⟨(Nat.le_of_ble_eq_true rfl), (Nat.le_of_ble_eq_true rfl)⟩ rfl rfl (Nat.le_of_ble_eq_true rfl)) rfl rfl rfl (Nat.zero_le _) (Nat.zero_le _) fun r1 h2 =>
    aw_cs fun hs3 =>
    aw_astore_n (pc := 8) C (i := 2) (lv' := [(0, .ref 0), (1, .int v1), (2, .ref r1)]) dK_b_144.2.2.2.2.1 rfl (by decide) rfl <|
    aw_aload_n (pc := 9) C (i := 2) dK_b_144.2.2.2.2.2.1 rfl rfl <|
    aw_getW (pc := 10) C (b := (36 + h2.2.2 r1 % 6)) dK_b_144.2.2.2.2.2.2.1 fl_X10_173 hs3 rfl rfl <|
    aw_aload_n (pc := 13) C (i := 2) dK_b_144.2.2.2.2.2.2.2.1 rfl rfl <|
    aw_iconst (pc := 14) C (v := 0) dK_b_145.1 rfl <|
    aw_iconst (pc := 15) C (v := 0) dK_b_145.2.1 rfl <|
    aw_aload_n (pc := 16) C (i := 0) dK_b_145.2.2.1 rfl rfl <|
    aw_getR (pc := 17) C (b := 42) dK_b_145.2.2.2.1 fl_X10_72 sC_0 rfl rC_0_1 <|
    aw_getI (pc := 20) C dK_b_145.2.2.2.2.1 fl_X10_157 (mt_s (Or.inl rfl)) rfl <|
    aw_callF (pc := 23) C (kdA_lengthOf C dK_b_145.2.2.2.2.2.1 ml_X10_238 (h2.2.2 r1) r1 hs3 0 0 (h2.1 42 1) [] ⟨⟨(Nat.le_of_ble_eq_true rfl), (Nat.le_of_ble_eq_true rfl)⟩, ⟨(Nat.le_of_ble_eq_true rfl), (Nat.le_of_ble_eq_true rfl)⟩, ⟨(Nat.le_of_ble_eq_true rfl), (Nat.le_of_ble_eq_true rfl)⟩, ⟨(Nat.le_of_ble_eq_true rfl), (Nat.le_of_ble_eq_true rfl)⟩, ⟨(Nat.le_of_ble_eq_true rfl), (Nat.le_of_ble_eq_true rfl)⟩, ⟨(Nat.le_of_ble_eq_true rfl), (Nat.le_of_ble_eq_true rfl)⟩⟩ (Nat.le_of_ble_eq_true rfl)) rfl rfl rfl (Nat.zero_le _) (Nat.zero_le _) fun r4 h5 =>
    aw_iret (pc := 26) C dK_b_145.2.2.2.2.2.2.1 rfl rfl

abbrev rmX10_safe : Room := { frames := 4, cells := 0, slots := 0, locals := 96 }
def X10_safe_j66  (v1 : Int32) (v3 : Int32) (K37 : Int32 → AH → Option (Int32 × AH)) (h : AH) : Option (Int32 × AH) :=
    vl (v3 + 1) fun x9 =>
    K37 x9 h
set_option maxRecDepth 100000 in
theorem aX10_safe_j66 {X : MCx} {yd : Dyn} {A : Nat → Prop} (C : OK X cX10_safe RX10 4 (some .int) rmX10_safe A)  (v1 : Int32) (v3 : Int32) (K37 : Int32 → AH → Option (Int32 × AH)) (hK37 : ∀ (w3 : Int32) (h : AH), AW X 4 ZC yd A 0 0 (QF X rmX10_safe ZC yd rvI A) 37 [(0, .ref 0), (1, .int v1), (3, .int w3)] [] h (K37 w3 h)) (h : AH) : AW X 4 ZC yd A 0 0 (QF X rmX10_safe ZC yd rvI A) 66 [(0, .ref 0), (1, .int v1), (3, .int v3)] [] h (X10_safe_j66 v1 v3 K37 h) := by
    exact aw_iincV (pc := 66) C (i := 3) (cst := 1) (fun x9 => [(0, .ref 0), (1, .int v1), (3, .int x9)]) dK_b_150.2.2.2.2.1 rfl rfl (by decide) (fun _ => rfl) fun x9 =>
    aw_goto (pc := 69) C (tgt := 37) dK_b_150.2.2.2.2.2.1 rfl <|
    (hK37 x9 h)
def X10_safe_l37  (v1 : Int32) : Nat → Int32 → AH → Option (Int32 × AH)
  | 0, _, _ => none
  | n + 1, v3, h =>
    if (h.1 42 3) ≤ v3 then (bd (X5_finalists 42 h) fun r5 h6 =>
    bd (X10_leastFor v1 r5 h6) fun r7 h8 =>
    some (r7, h8))
    else (if v3 = v1 then (X10_safe_j66 v1 v3 (X10_safe_l37 v1 n) h)
    else (bd (X10_fullLength v3 h) fun r10 h11 =>
    bd (X6_add v3 r10 h11) fun _ h13 =>
    X10_safe_j66 v1 v3 (X10_safe_l37 v1 n) h13))
set_option maxRecDepth 100000 in
theorem aX10_safe_l37 {X : MCx} {yd : Dyn} {A : Nat → Prop} (C : OK X cX10_safe RX10 4 (some .int) rmX10_safe A)  (v1 : Int32) : ∀ (n : Nat) (v3 : Int32) (h : AH), AW X 4 ZC yd A 0 0 (QF X rmX10_safe ZC yd rvI A) 37 [(0, .ref 0), (1, .int v1), (3, .int v3)] [] h (X10_safe_l37 v1 n v3 h) := by
  intro n
  induction n with
  | zero => intro v3 h; exact aw_none
  | succ n ih =>
    intro v3 h
    exact aw_iload_n (pc := 37) C (i := 3) dK_b_148.2.2.2.2.2.1 rfl rfl <|
    aw_aload_n (pc := 38) C (i := 0) dK_b_148.2.2.2.2.2.2.1 rfl rfl <|
    aw_getR (pc := 39) C (b := 42) dK_b_148.2.2.2.2.2.2.2.1 fl_X10_72 sC_0 rfl rC_0_1 <|
    aw_getI (pc := 42) C dK_b_149.1 fl_X10_89 (mt_s (Or.inl rfl)) rfl <|
    aw_icmp_ge (pc := 45) C (tgt := 72) dK_b_149.2.1 rfl (fun _ =>
    aw_aload_n (pc := 72) C (i := 0) dK_b_150.2.2.2.2.2.2.1 rfl rfl <|
    aw_iload_n (pc := 73) C (i := 1) dK_b_150.2.2.2.2.2.2.2.1 rfl rfl <|
    aw_aload_n (pc := 74) C (i := 0) dK_b_151.1 rfl rfl <|
    aw_getR (pc := 75) C (b := 42) dK_b_151.2.1 fl_X10_72 sC_0 rfl rC_0_1 <|
    aw_callF (pc := 78) C (cr_V (rest := [.int v1, .ref 0]) (F := (X5_finalists 42)) C (c_X5_finalists X.2.1 42 (Or.inl rfl)) dK_b_151.2.2.1 mf_X5_finalists ml_X10_306 im_X5_finalists se_X5_finalists (mt_s (Or.inl rfl)) rfl ⟨(Nat.le_of_ble_eq_true rfl), (Nat.le_of_ble_eq_true rfl)⟩ rfl rfl (Nat.le_of_ble_eq_true rfl)) rfl rfl rfl (Nat.zero_le _) (Nat.zero_le _) fun r5 h6 =>
    aw_callF (pc := 81) C (cr_V (rest := []) (F := (X10_leastFor v1 r5)) C (c_X10_leastFor X.2.1 v1 r5) dK_b_151.2.2.2.1 mf_X10_leastFor ml_X10_309 im_X10_leastFor se_X10_leastFor sC_0 rfl ⟨(Nat.le_of_ble_eq_true rfl), (Nat.le_of_ble_eq_true rfl)⟩ rfl rfl (Nat.le_of_ble_eq_true rfl)) rfl rfl rfl (Nat.zero_le _) (Nat.zero_le _) fun r7 h8 =>
    aw_iret (pc := 84) C dK_b_151.2.2.2.2.1 rfl rfl) (fun _ =>
    aw_iload_n (pc := 48) C (i := 3) dK_b_149.2.2.1 rfl rfl <|
    aw_iload_n (pc := 49) C (i := 1) dK_b_149.2.2.2.1 rfl rfl <|
    aw_icmp_eq (pc := 50) C (tgt := 66) dK_b_149.2.2.2.2.1 rfl (fun _ =>
    (aX10_safe_j66 C v1 v3 (X10_safe_l37 v1 n) ih h)) (fun _ =>
    aw_aload_n (pc := 53) C (i := 0) dK_b_149.2.2.2.2.2.1 rfl rfl <|
    aw_getR (pc := 54) C (b := 5) dK_b_149.2.2.2.2.2.2.1 fl_X10_28 sC_0 rfl rC_0_10 <|
    aw_iload_n (pc := 57) C (i := 3) dK_b_149.2.2.2.2.2.2.2.1 rfl rfl <|
    aw_aload_n (pc := 58) C (i := 0) dK_b_150.1 rfl rfl <|
    aw_iload_n (pc := 59) C (i := 3) dK_b_150.2.1 rfl rfl <|
    aw_callF (pc := 60) C (cr_V (rest := [.int v3, .ref 5]) (F := (X10_fullLength v3)) C (c_X10_fullLength X.2.1 v3) dK_b_150.2.2.1 mf_X10_fullLength ml_X10_404 im_X10_fullLength se_X10_fullLength sC_0 rfl ⟨(Nat.le_of_ble_eq_true rfl), (Nat.le_of_ble_eq_true rfl)⟩ rfl rfl (Nat.le_of_ble_eq_true rfl)) rfl rfl rfl (Nat.zero_le _) (Nat.zero_le _) fun r10 h11 =>
    aw_callF (pc := 63) C (cr_V (rest := []) (F := (X6_add v3 r10)) C (c_X6_add X.2.1 v3 r10) dK_b_150.2.2.2.1 mf_X6_add ml_X10_339 im_X6_add se_X6_add sC_5 rfl ⟨(Nat.le_of_ble_eq_true rfl), (Nat.le_of_ble_eq_true rfl)⟩ rfl rfl (Nat.le_of_ble_eq_true rfl)) rfl rfl rfl (Nat.zero_le _) (Nat.zero_le _) fun _ h13 =>
    (aX10_safe_j66 C v1 v3 (X10_safe_l37 v1 n) ih h13)))
def X10_safe (v1 : Int32) (h : AH) : Option (Int32 × AH) :=
    bd (X10_nobody v1 h) fun r1 h2 =>
    if r1 = 0 then (bd (X5_rank 42 0 (h2.1 42 4) h2) fun _ h4 =>
    X10_safe_l37 v1 FU 0 h4)
    else (bd (X10_refuse r1 h2) fun r14 h15 =>
    some (r14, h15))
set_option maxRecDepth 100000 in
theorem c_X10_safe (l : Launch) (v1 : Int32) : MC l yX10_safe cX10_safe 4 (some .int) rmX10_safe ZC [.ref 0, .int v1] rvI (X10_safe v1) :=
  MC.of (own := RX10) pn_RX10 rfl (Nat.le_of_ble_eq_true rfl) fun X yd A h _ C =>
    aw_aload_n (pc := 0) C (i := 0) dK_b_146.1 rfl rfl <|
    aw_iload_n (pc := 1) C (i := 1) dK_b_146.2.1 rfl rfl <|
    aw_callF (pc := 2) C (cr_V (rest := []) (F := (X10_nobody v1)) C (c_X10_nobody X.2.1 v1) dK_b_146.2.2.1 mf_X10_nobody ml_X10_93 im_X10_nobody se_X10_nobody sC_0 rfl ⟨(Nat.le_of_ble_eq_true rfl), (Nat.le_of_ble_eq_true rfl)⟩ rfl rfl (Nat.le_of_ble_eq_true rfl)) rfl rfl rfl (Nat.zero_le _) (Nat.zero_le _) fun r1 h2 =>
    aw_istore_n (pc := 5) C (i := 2) (lv' := [(0, .ref 0), (1, .int v1), (2, .int r1)]) dK_b_146.2.2.2.1 rfl (by decide) rfl <|
    aw_iload_n (pc := 6) C (i := 2) dK_b_146.2.2.2.2.1 rfl rfl <|
    aw_if_eq (pc := 7) C (tgt := 16) dK_b_146.2.2.2.2.2.1 rfl (fun _ =>
    aw_aload_n (pc := 16) C (i := 0) dK_b_147.2.2.1 rfl rfl <|
    aw_getR (pc := 17) C (b := 42) dK_b_147.2.2.2.1 fl_X10_72 sC_0 rfl rC_0_1 <|
    aw_aload_n (pc := 20) C (i := 0) dK_b_147.2.2.2.2.1 rfl rfl <|
    aw_getR (pc := 21) C (b := 5) dK_b_147.2.2.2.2.2.1 fl_X10_28 sC_0 rfl rC_0_10 <|
    aw_iconst (pc := 24) C (v := 0) dK_b_147.2.2.2.2.2.2.1 rfl <|
    aw_aload_n (pc := 25) C (i := 0) dK_b_147.2.2.2.2.2.2.2.1 rfl rfl <|
    aw_getR (pc := 26) C (b := 42) dK_b_148.1 fl_X10_72 sC_0 rfl rC_0_1 <|
    aw_getI (pc := 29) C dK_b_148.2.1 fl_X10_160 (mt_s (Or.inl rfl)) rfl <|
    aw_callF (pc := 32) C (cr_V (rest := []) (F := (X5_rank 42 0 (h2.1 42 4))) C (c_X5_rank X.2.1 42 (Or.inl rfl) 0 (h2.1 42 4)) dK_b_148.2.2.1 mf_X5_rank ml_X10_214 im_X5_rank se_X5_rank (mt_s (Or.inl rfl)) rfl ⟨(Nat.le_of_ble_eq_true rfl), (Nat.le_of_ble_eq_true rfl)⟩ rfl rfl (Nat.le_of_ble_eq_true rfl)) rfl rfl rfl (Nat.zero_le _) (Nat.zero_le _) fun _ h4 =>
    aw_iconst (pc := 35) C (v := 0) dK_b_148.2.2.2.1 rfl <|
    aw_istore_n (pc := 36) C (i := 3) (lv' := [(0, .ref 0), (1, .int v1), (2, .int r1), (3, .int 0)]) dK_b_148.2.2.2.2.1 rfl (by decide) rfl <|
    aw_drop [0, 1, 3] (aX10_safe_l37 C v1 FU 0 h4)) (fun _ =>
    aw_aload_n (pc := 10) C (i := 0) dK_b_146.2.2.2.2.2.2.1 rfl rfl <|
    aw_iload_n (pc := 11) C (i := 2) dK_b_146.2.2.2.2.2.2.2.1 rfl rfl <|
    aw_callF (pc := 12) C (cr_V (rest := []) (F := (X10_refuse r1)) C (c_X10_refuse X.2.1 r1) dK_b_147.1 mf_X10_refuse ml_X10_111 im_X10_refuse se_X10_refuse sC_0 rfl ⟨(Nat.le_of_ble_eq_true rfl), (Nat.le_of_ble_eq_true rfl)⟩ rfl rfl (Nat.le_of_ble_eq_true rfl)) rfl rfl rfl (Nat.zero_le _) (Nat.zero_le _) fun r14 h15 =>
    aw_iret (pc := 15) C dK_b_147.2.1 rfl rfl)

abbrev rmX10_mayStill : Room := { frames := 4, cells := 0, slots := 0, locals := 96 }
def X10_mayStill_j82  (v1 : Int32) (v2 : Int32) (v3 : Int32) (K41 : Int32 → Int32 → AH → Option (Int32 × AH)) (h : AH) : Option (Int32 × AH) :=
    vl (v3 + 1) fun x9 =>
    K41 v2 x9 h
set_option maxRecDepth 100000 in
theorem aX10_mayStill_j82 {X : MCx} {yd : Dyn} {A : Nat → Prop} (C : OK X cX10_mayStill RX10 4 (some .int) rmX10_mayStill A)  (v1 : Int32) (v2 : Int32) (v3 : Int32) (K41 : Int32 → Int32 → AH → Option (Int32 × AH)) (hK41 : ∀ (w2 : Int32) (w3 : Int32) (h : AH), AW X 4 ZC yd A 0 0 (QF X rmX10_mayStill ZC yd rvI A) 41 [(0, .ref 0), (1, .int v1), (2, .int w2), (3, .int w3)] [] h (K41 w2 w3 h)) (h : AH) : AW X 4 ZC yd A 0 0 (QF X rmX10_mayStill ZC yd rvI A) 82 [(0, .ref 0), (1, .int v1), (2, .int v2), (3, .int v3)] [] h (X10_mayStill_j82 v1 v2 v3 K41 h) := by
    exact aw_iincV (pc := 82) C (i := 3) (cst := 1) (fun x9 => [(0, .ref 0), (1, .int v1), (2, .int v2), (3, .int x9)]) dK_b_157.2.2.2.2.2.1 rfl rfl (by decide) (fun _ => rfl) fun x9 =>
    aw_goto (pc := 85) C (tgt := 41) dK_b_157.2.2.2.2.2.2.1 rfl <|
    (hK41 v2 x9 h)
def X10_mayStill_j70  (v1 : Int32) (v2 : Int32) (v3 : Int32) (K41 : Int32 → Int32 → AH → Option (Int32 × AH)) (s0 : Int32) (s1 : Int32) (h : AH) : Option (Int32 × AH) :=
    bd (X6_ahead s1 s0 h) fun r7 h8 =>
    if r7 = 0 then (vl (v2 ||| (shl32 1 v3)) fun x10 =>
    X10_mayStill_j82 v1 x10 v3 K41 h8)
    else (X10_mayStill_j82 v1 v2 v3 K41 h8)
set_option maxRecDepth 100000 in
theorem aX10_mayStill_j70 {X : MCx} {yd : Dyn} {A : Nat → Prop} (C : OK X cX10_mayStill RX10 4 (some .int) rmX10_mayStill A)  (v1 : Int32) (v2 : Int32) (v3 : Int32) (K41 : Int32 → Int32 → AH → Option (Int32 × AH)) (hK41 : ∀ (w2 : Int32) (w3 : Int32) (h : AH), AW X 4 ZC yd A 0 0 (QF X rmX10_mayStill ZC yd rvI A) 41 [(0, .ref 0), (1, .int v1), (2, .int w2), (3, .int w3)] [] h (K41 w2 w3 h)) (s0 : Int32) (s1 : Int32) (h : AH) : AW X 4 ZC yd A 0 0 (QF X rmX10_mayStill ZC yd rvI A) 70 [(0, .ref 0), (1, .int v1), (2, .int v2), (3, .int v3)] [.int s0, .int s1, .ref 5] h (X10_mayStill_j70 v1 v2 v3 K41 s0 s1 h) := by
    exact aw_callF (pc := 70) C (cr_V (rest := []) (F := (X6_ahead s1 s0)) C (c_X6_ahead X.2.1 s1 s0) dK_b_156.2.2.2.2.2.1 mf_X6_ahead ml_X10_312 im_X6_ahead se_X6_ahead sC_5 rfl ⟨(Nat.le_of_ble_eq_true rfl), (Nat.le_of_ble_eq_true rfl)⟩ rfl rfl (Nat.le_of_ble_eq_true rfl)) rfl rfl rfl (Nat.zero_le _) (Nat.zero_le _) fun r7 h8 =>
    aw_if_ne (pc := 73) C (tgt := 82) dK_b_156.2.2.2.2.2.2.1 rfl (fun _ =>
    aw_iload_n (pc := 76) C (i := 2) dK_b_156.2.2.2.2.2.2.2.1 rfl rfl <|
    aw_iconst (pc := 77) C (v := 1) dK_b_157.1 rfl <|
    aw_iload_n (pc := 78) C (i := 3) dK_b_157.2.1 rfl rfl <|
    aw_ishl (pc := 79) C dK_b_157.2.2.1 <|
    aw_ior (pc := 80) C dK_b_157.2.2.2.1 <|
    aw_istoreV_n (pc := 81) C (i := 2) (fun x10 => [(0, .ref 0), (1, .int v1), (2, .int x10), (3, .int v3)]) dK_b_157.2.2.2.2.1 rfl (by decide) (fun _ => rfl) fun x10 =>
    (aX10_mayStill_j82 C v1 x10 v3 K41 hK41 h8)) (fun _ =>
    (aX10_mayStill_j82 C v1 v2 v3 K41 hK41 h8))
def X10_mayStill_l41  (v1 : Int32) : Nat → Int32 → Int32 → AH → Option (Int32 × AH)
  | 0, _, _, _ => none
  | n + 1, v2, v3, h =>
    if (h.1 42 3) ≤ v3 then (some (v2, h))
    else (if v1 = 0 then (bd (X10_fullLength v3 h) fun r5 h6 =>
    X10_mayStill_j70 v1 v2 v3 (X10_mayStill_l41 v1 n) r5 v3 h6)
    else (X10_mayStill_j70 v1 v2 v3 (X10_mayStill_l41 v1 n) 0 v3 h))
set_option maxRecDepth 100000 in
theorem aX10_mayStill_l41 {X : MCx} {yd : Dyn} {A : Nat → Prop} (C : OK X cX10_mayStill RX10 4 (some .int) rmX10_mayStill A)  (v1 : Int32) : ∀ (n : Nat) (v2 : Int32) (v3 : Int32) (h : AH), AW X 4 ZC yd A 0 0 (QF X rmX10_mayStill ZC yd rvI A) 41 [(0, .ref 0), (1, .int v1), (2, .int v2), (3, .int v3)] [] h (X10_mayStill_l41 v1 n v2 v3 h) := by
  intro n
  induction n with
  | zero => intro v2 v3 h; exact aw_none
  | succ n ih =>
    intro v2 v3 h
    exact aw_iload_n (pc := 41) C (i := 3) dK_b_154.2.2.2.2.2.2.1 rfl rfl <|
    aw_aload_n (pc := 42) C (i := 0) dK_b_154.2.2.2.2.2.2.2.1 rfl rfl <|
    aw_getR (pc := 43) C (b := 42) dK_b_155.1 fl_X10_72 sC_0 rfl rC_0_1 <|
    aw_getI (pc := 46) C dK_b_155.2.1 fl_X10_89 (mt_s (Or.inl rfl)) rfl <|
    aw_icmp_ge (pc := 49) C (tgt := 88) dK_b_155.2.2.1 rfl (fun _ =>
    aw_iload_n (pc := 88) C (i := 2) dK_b_157.2.2.2.2.2.2.2.1 rfl rfl <|
    aw_iret (pc := 89) C dK_b_158.1 rfl rfl) (fun _ =>
    aw_aload_n (pc := 52) C (i := 0) dK_b_155.2.2.2.1 rfl rfl <|
    aw_getR (pc := 53) C (b := 5) dK_b_155.2.2.2.2.1 fl_X10_28 sC_0 rfl rC_0_10 <|
    aw_iload_n (pc := 56) C (i := 3) dK_b_155.2.2.2.2.2.1 rfl rfl <|
    aw_iload_n (pc := 57) C (i := 1) dK_b_155.2.2.2.2.2.2.1 rfl rfl <|
    aw_if_eq (pc := 58) C (tgt := 65) dK_b_155.2.2.2.2.2.2.2.1 rfl (fun _ =>
    aw_aload_n (pc := 65) C (i := 0) dK_b_156.2.2.1 rfl rfl <|
    aw_iload_n (pc := 66) C (i := 3) dK_b_156.2.2.2.1 rfl rfl <|
    aw_callF (pc := 67) C (cr_V (rest := [.int v3, .ref 5]) (F := (X10_fullLength v3)) C (c_X10_fullLength X.2.1 v3) dK_b_156.2.2.2.2.1 mf_X10_fullLength ml_X10_404 im_X10_fullLength se_X10_fullLength sC_0 rfl ⟨(Nat.le_of_ble_eq_true rfl), (Nat.le_of_ble_eq_true rfl)⟩ rfl rfl (Nat.le_of_ble_eq_true rfl)) rfl rfl rfl (Nat.zero_le _) (Nat.zero_le _) fun r5 h6 =>
    (aX10_mayStill_j70 C v1 v2 v3 (X10_mayStill_l41 v1 n) ih r5 v3 h6)) (fun _ =>
    aw_iconst (pc := 61) C (v := 0) dK_b_156.1 rfl <|
    aw_goto (pc := 62) C (tgt := 70) dK_b_156.2.1 rfl <|
    (aX10_mayStill_j70 C v1 v2 v3 (X10_mayStill_l41 v1 n) ih 0 v3 h)))
def X10_mayStill_j17  (s0 : Int32) (h : AH) : Option (Int32 × AH) :=
    bd (X5_rank 42 0 (h.1 42 4) h) fun _ h4 =>
    X10_mayStill_l41 s0 FU 0 0 h4
set_option maxRecDepth 100000 in
theorem aX10_mayStill_j17 {X : MCx} {yd : Dyn} {A : Nat → Prop} (C : OK X cX10_mayStill RX10 4 (some .int) rmX10_mayStill A)  (s0 : Int32) (h : AH) : AW X 4 ZC yd A 0 0 (QF X rmX10_mayStill ZC yd rvI A) 17 [(0, .ref 0)] [.int s0] h (X10_mayStill_j17 s0 h) := by
    exact aw_istore_n (pc := 17) C (i := 1) (lv' := [(0, .ref 0), (1, .int s0)]) dK_b_153.1 rfl (by decide) rfl <|
    aw_aload_n (pc := 18) C (i := 0) dK_b_153.2.1 rfl rfl <|
    aw_getR (pc := 19) C (b := 42) dK_b_153.2.2.1 fl_X10_72 sC_0 rfl rC_0_1 <|
    aw_aload_n (pc := 22) C (i := 0) dK_b_153.2.2.2.1 rfl rfl <|
    aw_getR (pc := 23) C (b := 5) dK_b_153.2.2.2.2.1 fl_X10_28 sC_0 rfl rC_0_10 <|
    aw_iconst (pc := 26) C (v := 0) dK_b_153.2.2.2.2.2.1 rfl <|
    aw_aload_n (pc := 27) C (i := 0) dK_b_153.2.2.2.2.2.2.1 rfl rfl <|
    aw_getR (pc := 28) C (b := 42) dK_b_153.2.2.2.2.2.2.2.1 fl_X10_72 sC_0 rfl rC_0_1 <|
    aw_getI (pc := 31) C dK_b_154.1 fl_X10_160 (mt_s (Or.inl rfl)) rfl <|
    aw_callF (pc := 34) C (cr_V (rest := []) (F := (X5_rank 42 0 (h.1 42 4))) C (c_X5_rank X.2.1 42 (Or.inl rfl) 0 (h.1 42 4)) dK_b_154.2.1 mf_X5_rank ml_X10_214 im_X5_rank se_X5_rank (mt_s (Or.inl rfl)) rfl ⟨(Nat.le_of_ble_eq_true rfl), (Nat.le_of_ble_eq_true rfl)⟩ rfl rfl (Nat.le_of_ble_eq_true rfl)) rfl rfl rfl (Nat.zero_le _) (Nat.zero_le _) fun _ h4 =>
    aw_iconst (pc := 37) C (v := 0) dK_b_154.2.2.1 rfl <|
    aw_istore_n (pc := 38) C (i := 2) (lv' := [(0, .ref 0), (1, .int s0), (2, .int 0)]) dK_b_154.2.2.2.1 rfl (by decide) rfl <|
    aw_iconst (pc := 39) C (v := 0) dK_b_154.2.2.2.2.1 rfl <|
    aw_istore_n (pc := 40) C (i := 3) (lv' := [(0, .ref 0), (1, .int s0), (2, .int 0), (3, .int 0)]) dK_b_154.2.2.2.2.2.1 rfl (by decide) rfl <|
    (aX10_mayStill_l41 C s0 FU 0 0 h4)
def X10_mayStill  (h : AH) : Option (Int32 × AH) :=
    bd (X5_round 42 h) fun r1 h2 =>
    if r1 = 6 then (X10_mayStill_j17 1 h2)
    else (X10_mayStill_j17 0 h2)
set_option maxRecDepth 100000 in
theorem c_X10_mayStill (l : Launch)  : MC l yX10_mayStill cX10_mayStill 4 (some .int) rmX10_mayStill ZC [.ref 0] rvI (X10_mayStill) :=
  MC.of (own := RX10) pn_RX10 rfl (Nat.le_of_ble_eq_true rfl) fun X yd A h _ C =>
    aw_aload_n (pc := 0) C (i := 0) dK_b_152.1 rfl rfl <|
    aw_getR (pc := 1) C (b := 42) dK_b_152.2.1 fl_X10_72 sC_0 rfl rC_0_1 <|
    aw_callF (pc := 4) C (cr_V (rest := []) (F := (X5_round 42)) C (c_X5_round X.2.1 42 (Or.inl rfl)) dK_b_152.2.2.1 mf_X5_round ml_X10_336 im_X5_round se_X5_round (mt_s (Or.inl rfl)) rfl ⟨(Nat.le_of_ble_eq_true rfl), (Nat.le_of_ble_eq_true rfl)⟩ rfl rfl (Nat.le_of_ble_eq_true rfl)) rfl rfl rfl (Nat.zero_le _) (Nat.zero_le _) fun r1 h2 =>
    aw_bipush (pc := 7) C (v := 6) dK_b_152.2.2.2.1 rfl <|
    aw_icmp_ne (pc := 9) C (tgt := 16) dK_b_152.2.2.2.2.1 rfl (fun _ =>
    aw_iconst (pc := 12) C (v := 1) dK_b_152.2.2.2.2.2.1 rfl <|
    aw_goto (pc := 13) C (tgt := 17) dK_b_152.2.2.2.2.2.2.1 rfl <|
    (aX10_mayStill_j17 C 1 h2)) (fun _ =>
    aw_iconst (pc := 16) C (v := 0) dK_b_152.2.2.2.2.2.2.2.1 rfl <|
    (aX10_mayStill_j17 C 0 h2))

abbrev rmX10_image : Room := { frames := 2, cells := 0, slots := 0, locals := 67 }
def X10_image  (h : AH) : Option (Int32 × AH) :=
    bd (X5_copyFrom 62 42 h) fun _ h2 =>
    cz 1 (vl (sI h2 0 4 1) fun h3 =>
    some ((h3.1 42 4), h3))
set_option maxRecDepth 100000 in
theorem c_X10_image (l : Launch)  : MC l yX10_image cX10_image 1 (some .int) rmX10_image ZC [.ref 0] rvI (X10_image) :=
  MC.of (own := RX10) pn_RX10 rfl (Nat.le_of_ble_eq_true rfl) fun X yd A h _ C =>
    aw_aload_n (pc := 0) C (i := 0) dK_b_159.1 rfl rfl <|
    aw_getR (pc := 1) C (b := 62) dK_b_159.2.1 fl_X10_79 sC_0 rfl rC_0_3 <|
    aw_aload_n (pc := 4) C (i := 0) dK_b_159.2.2.1 rfl rfl <|
    aw_getR (pc := 5) C (b := 42) dK_b_159.2.2.2.1 fl_X10_72 sC_0 rfl rC_0_1 <|
    aw_callF (pc := 8) C (cr_V (rest := []) (F := (X5_copyFrom 62 42)) C (c_X5_copyFrom X.2.1 62 (Or.inr (Or.inr rfl)) 42 (Or.inl rfl)) dK_b_159.2.2.2.2.1 mf_X5_copyFrom ml_X10_121 im_X5_copyFrom se_X5_copyFrom (mt_s (Or.inr (Or.inr rfl))) rfl ⟨(Nat.le_of_ble_eq_true rfl), (Nat.le_of_ble_eq_true rfl)⟩ rfl rfl (Nat.le_of_ble_eq_true rfl)) rfl rfl rfl (Nat.zero_le _) (Nat.zero_le _) fun _ h2 =>
    aw_aload_n (pc := 11) C (i := 0) dK_b_159.2.2.2.2.2.1 rfl rfl <|
    aw_iconst (pc := 12) C (v := 1) dK_b_159.2.2.2.2.2.2.1 rfl <|
    aw_putZ (pc := 13) C dK_b_159.2.2.2.2.2.2.2.1 fp_X10_407 sC_0 rfl fun h3 =>
    aw_aload_n (pc := 16) C (i := 0) dK_b_160.1 rfl rfl <|
    aw_getR (pc := 17) C (b := 42) dK_b_160.2.1 fl_X10_72 sC_0 rfl rC_0_1 <|
    aw_getI (pc := 20) C dK_b_160.2.2.1 fl_X10_160 (mt_s (Or.inl rfl)) rfl <|
    aw_iret (pc := 23) C dK_b_160.2.2.2.1 rfl rfl

abbrev rmX10_restore : Room := { frames := 2, cells := 0, slots := 0, locals := 67 }
def X10_restore  (h : AH) : Option (Int32 × AH) :=
    if (h.1 0 4) = 0 then (bd (X10_refuse (-3) h) fun r3 h4 =>
    some (r3, h4))
    else (bd (X5_copyFrom 42 62 h) fun _ h2 =>
    some ((h2.1 42 4), h2))
set_option maxRecDepth 100000 in
theorem c_X10_restore (l : Launch)  : MC l yX10_restore cX10_restore 1 (some .int) rmX10_restore ZC [.ref 0] rvI (X10_restore) :=
  MC.of (own := RX10) pn_RX10 rfl (Nat.le_of_ble_eq_true rfl) fun X yd A h _ C =>
    aw_aload_n (pc := 0) C (i := 0) dK_b_161.1 rfl rfl <|
    aw_getI (pc := 1) C dK_b_161.2.1 fl_X10_407 sC_0 rfl <|
    aw_if_ne (pc := 4) C (tgt := 14) dK_b_161.2.2.1 rfl (fun _ =>
    aw_aload_n (pc := 7) C (i := 0) dK_b_161.2.2.2.1 rfl rfl <|
    aw_bipush (pc := 8) C (v := (-3)) dK_b_161.2.2.2.2.1 rfl <|
    aw_callF (pc := 10) C (cr_V (rest := []) (F := (X10_refuse (-3))) C (c_X10_refuse X.2.1 (-3)) dK_b_161.2.2.2.2.2.1 mf_X10_refuse ml_X10_111 im_X10_refuse se_X10_refuse sC_0 rfl ⟨(Nat.le_of_ble_eq_true rfl), (Nat.le_of_ble_eq_true rfl)⟩ rfl rfl (Nat.le_of_ble_eq_true rfl)) rfl rfl rfl (Nat.zero_le _) (Nat.zero_le _) fun r3 h4 =>
    aw_iret (pc := 13) C dK_b_161.2.2.2.2.2.2.1 rfl rfl) (fun _ =>
    aw_aload_n (pc := 14) C (i := 0) dK_b_161.2.2.2.2.2.2.2.1 rfl rfl <|
    aw_getR (pc := 15) C (b := 42) dK_b_162.1 fl_X10_72 sC_0 rfl rC_0_1 <|
    aw_aload_n (pc := 18) C (i := 0) dK_b_162.2.1 rfl rfl <|
    aw_getR (pc := 19) C (b := 62) dK_b_162.2.2.1 fl_X10_79 sC_0 rfl rC_0_3 <|
    aw_callF (pc := 22) C (cr_V (rest := []) (F := (X5_copyFrom 42 62)) C (c_X5_copyFrom X.2.1 42 (Or.inl rfl) 62 (Or.inr (Or.inr rfl))) dK_b_162.2.2.2.1 mf_X5_copyFrom ml_X10_121 im_X5_copyFrom se_X5_copyFrom (mt_s (Or.inl rfl)) rfl ⟨(Nat.le_of_ble_eq_true rfl), (Nat.le_of_ble_eq_true rfl)⟩ rfl rfl (Nat.le_of_ble_eq_true rfl)) rfl rfl rfl (Nat.zero_le _) (Nat.zero_le _) fun _ h2 =>
    aw_aload_n (pc := 25) C (i := 0) dK_b_162.2.2.2.2.1 rfl rfl <|
    aw_getR (pc := 26) C (b := 42) dK_b_162.2.2.2.2.2.1 fl_X10_72 sC_0 rfl rC_0_1 <|
    aw_getI (pc := 29) C dK_b_162.2.2.2.2.2.2.1 fl_X10_160 (mt_s (Or.inl rfl)) rfl <|
    aw_iret (pc := 32) C dK_b_162.2.2.2.2.2.2.2.1 rfl rfl)

abbrev rmX10_count : Room := { frames := 2, cells := 0, slots := 0, locals := 66 }
def X10_count (v1 : Int32) (h : AH) : Option (Int32 × AH) :=
    vl v1 fun y1 =>
    if y1 = 0 then (some ((h.1 42 3), h))
    else if y1 = 1 then (bd (X5_round 42 h) fun r3 h4 =>
    some (r3, h4))
    else if y1 = 2 then (some ((h.1 42 4), h))
    else if y1 = 3 then (some ((h.1 42 0), h))
    else if y1 = 4 then (some ((h.1 42 2), h))
    else if y1 = 5 then (bd (X5_triesWith 42 (-9) h) fun r9 h10 =>
    some (r9, h10))
    else if y1 = 6 then (bd (X5_triesWith 42 (-8) h) fun r12 h13 =>
    some (r12, h13))
    else if y1 = 7 then (some ((h.1 0 6), h))
    else if y1 = 8 then (some ((h.1 0 8), h))
    else (if v1 ≤ 10 then (some ((-9), h))
    else (if 7 ≤ (v1 - 10) then (some ((-9), h))
    else (ck (v1 - 10) 7 (some ((h.1 4 (v1 - 10).toNatClampNeg), h)))))
set_option maxRecDepth 100000 in
theorem c_X10_count (l : Launch) (v1 : Int32) : MC l yX10_count cX10_count 2 (some .int) rmX10_count ZC [.ref 0, .int v1] rvI (X10_count v1) :=
  MC.of (own := RX10) pn_RX10 rfl (Nat.le_of_ble_eq_true rfl) fun X yd A h _ C =>
    aw_iload_n (pc := 0) C (i := 1) dK_b_163.1 rfl rfl <|
    aw_vlI fun y1 =>
    aw_if (fun c2 => aw_tswA (pc := 1) C (off := 51) (tg := 52) 0 dK_b_163.2.1 (by rw [c2]; rfl) (by decide) (by decide) rfl rfl (aw_aload_n (pc := 52) C (i := 0) dK_b_163.2.2.1 rfl rfl <|
    aw_getR (pc := 53) C (b := 42) dK_b_163.2.2.2.1 fl_X10_72 sC_0 rfl rC_0_1 <|
    aw_getI (pc := 56) C dK_b_163.2.2.2.2.1 fl_X10_89 (mt_s (Or.inl rfl)) rfl <|
    aw_iret (pc := 59) C dK_b_163.2.2.2.2.2.1 rfl rfl)) (fun c2 =>
    aw_if (fun c5 => aw_tswA (pc := 1) C (off := 59) (tg := 60) 1 dK_b_163.2.1 (by rw [c5]; rfl) (by decide) (by decide) rfl rfl (aw_aload_n (pc := 60) C (i := 0) dK_b_163.2.2.2.2.2.2.1 rfl rfl <|
    aw_getR (pc := 61) C (b := 42) dK_b_163.2.2.2.2.2.2.2.1 fl_X10_72 sC_0 rfl rC_0_1 <|
    aw_callF (pc := 64) C (cr_V (rest := []) (F := (X5_round 42)) C (c_X5_round X.2.1 42 (Or.inl rfl)) dK_b_164.1 mf_X5_round ml_X10_336 im_X5_round se_X5_round (mt_s (Or.inl rfl)) rfl ⟨(Nat.le_of_ble_eq_true rfl), (Nat.le_of_ble_eq_true rfl)⟩ rfl rfl (Nat.le_of_ble_eq_true rfl)) rfl rfl rfl (Nat.zero_le _) (Nat.zero_le _) fun r3 h4 =>
    aw_iret (pc := 67) C dK_b_164.2.1 rfl rfl)) (fun c5 =>
    aw_if (fun c6 => aw_tswA (pc := 1) C (off := 67) (tg := 68) 2 dK_b_163.2.1 (by rw [c6]; rfl) (by decide) (by decide) rfl rfl (aw_aload_n (pc := 68) C (i := 0) dK_b_164.2.2.1 rfl rfl <|
    aw_getR (pc := 69) C (b := 42) dK_b_164.2.2.2.1 fl_X10_72 sC_0 rfl rC_0_1 <|
    aw_getI (pc := 72) C dK_b_164.2.2.2.2.1 fl_X10_160 (mt_s (Or.inl rfl)) rfl <|
    aw_iret (pc := 75) C dK_b_164.2.2.2.2.2.1 rfl rfl)) (fun c6 =>
    aw_if (fun c7 => aw_tswA (pc := 1) C (off := 75) (tg := 76) 3 dK_b_163.2.1 (by rw [c7]; rfl) (by decide) (by decide) rfl rfl (aw_aload_n (pc := 76) C (i := 0) dK_b_164.2.2.2.2.2.2.1 rfl rfl <|
    aw_getR (pc := 77) C (b := 42) dK_b_164.2.2.2.2.2.2.2.1 fl_X10_72 sC_0 rfl rC_0_1 <|
    aw_getI (pc := 80) C dK_b_165.1 fl_X10_163 (mt_s (Or.inl rfl)) rfl <|
    aw_iret (pc := 83) C dK_b_165.2.1 rfl rfl)) (fun c7 =>
    aw_if (fun c8 => aw_tswA (pc := 1) C (off := 83) (tg := 84) 4 dK_b_163.2.1 (by rw [c8]; rfl) (by decide) (by decide) rfl rfl (aw_aload_n (pc := 84) C (i := 0) dK_b_165.2.2.1 rfl rfl <|
    aw_getR (pc := 85) C (b := 42) dK_b_165.2.2.2.1 fl_X10_72 sC_0 rfl rC_0_1 <|
    aw_getI (pc := 88) C dK_b_165.2.2.2.2.1 fl_X10_166 (mt_s (Or.inl rfl)) rfl <|
    aw_iret (pc := 91) C dK_b_165.2.2.2.2.2.1 rfl rfl)) (fun c8 =>
    aw_if (fun c11 => aw_tswA (pc := 1) C (off := 91) (tg := 92) 5 dK_b_163.2.1 (by rw [c11]; rfl) (by decide) (by decide) rfl rfl (aw_aload_n (pc := 92) C (i := 0) dK_b_165.2.2.2.2.2.2.1 rfl rfl <|
    aw_getR (pc := 93) C (b := 42) dK_b_165.2.2.2.2.2.2.2.1 fl_X10_72 sC_0 rfl rC_0_1 <|
    aw_bipush (pc := 96) C (v := (-9)) dK_b_166.1 rfl <|
    aw_callF (pc := 98) C (cr_V (rest := []) (F := (X5_triesWith 42 (-9))) C (c_X5_triesWith X.2.1 42 (Or.inl rfl) (-9)) dK_b_166.2.1 mf_X5_triesWith ml_X10_411 im_X5_triesWith se_X5_triesWith (mt_s (Or.inl rfl)) rfl ⟨(Nat.le_of_ble_eq_true rfl), (Nat.le_of_ble_eq_true rfl)⟩ rfl rfl (Nat.le_of_ble_eq_true rfl)) rfl rfl rfl (Nat.zero_le _) (Nat.zero_le _) fun r9 h10 =>
    aw_iret (pc := 101) C dK_b_166.2.2.1 rfl rfl)) (fun c11 =>
    aw_if (fun c14 => aw_tswA (pc := 1) C (off := 101) (tg := 102) 6 dK_b_163.2.1 (by rw [c14]; rfl) (by decide) (by decide) rfl rfl (aw_aload_n (pc := 102) C (i := 0) dK_b_166.2.2.2.1 rfl rfl <|
    aw_getR (pc := 103) C (b := 42) dK_b_166.2.2.2.2.1 fl_X10_72 sC_0 rfl rC_0_1 <|
    aw_bipush (pc := 106) C (v := (-8)) dK_b_166.2.2.2.2.2.1 rfl <|
    aw_callF (pc := 108) C (cr_V (rest := []) (F := (X5_triesWith 42 (-8))) C (c_X5_triesWith X.2.1 42 (Or.inl rfl) (-8)) dK_b_166.2.2.2.2.2.2.1 mf_X5_triesWith ml_X10_411 im_X5_triesWith se_X5_triesWith (mt_s (Or.inl rfl)) rfl ⟨(Nat.le_of_ble_eq_true rfl), (Nat.le_of_ble_eq_true rfl)⟩ rfl rfl (Nat.le_of_ble_eq_true rfl)) rfl rfl rfl (Nat.zero_le _) (Nat.zero_le _) fun r12 h13 =>
    aw_iret (pc := 111) C dK_b_166.2.2.2.2.2.2.2.1 rfl rfl)) (fun c14 =>
    aw_if (fun c15 => aw_tswA (pc := 1) C (off := 111) (tg := 112) 7 dK_b_163.2.1 (by rw [c15]; rfl) (by decide) (by decide) rfl rfl (aw_aload_n (pc := 112) C (i := 0) dK_b_167.1 rfl rfl <|
    aw_getI (pc := 113) C dK_b_167.2.1 fl_X10_108 sC_0 rfl <|
    aw_iret (pc := 116) C dK_b_167.2.2.1 rfl rfl)) (fun c15 =>
    aw_if (fun c16 => aw_tswA (pc := 1) C (off := 116) (tg := 117) 8 dK_b_163.2.1 (by rw [c16]; rfl) (by decide) (by decide) rfl rfl (aw_aload_n (pc := 117) C (i := 0) dK_b_167.2.2.2.1 rfl rfl <|
    aw_getI (pc := 118) C dK_b_167.2.2.2.2.1 fl_X10_327 sC_0 rfl <|
    aw_iret (pc := 121) C dK_b_167.2.2.2.2.2.1 rfl rfl)) (fun c16 =>
    aw_tswD (pc := 1) C (N := 9) (td := 122) [0, 1, 2, 3, 4, 5, 6, 7, 8] dK_b_163.2.1 (List.forall_mem_cons.mpr ⟨ti_ne c2 rfl, List.forall_mem_cons.mpr ⟨ti_ne c5 rfl, List.forall_mem_cons.mpr ⟨ti_ne c6 rfl, List.forall_mem_cons.mpr ⟨ti_ne c7 rfl, List.forall_mem_cons.mpr ⟨ti_ne c8 rfl, List.forall_mem_cons.mpr ⟨ti_ne c11 rfl, List.forall_mem_cons.mpr ⟨ti_ne c14 rfl, List.forall_mem_cons.mpr ⟨ti_ne c15 rfl, List.forall_mem_cons.mpr ⟨ti_ne c16 rfl, fun _ hz => by cases hz⟩⟩⟩⟩⟩⟩⟩⟩⟩) rfl (by decide) rfl (aw_iload_n (pc := 122) C (i := 1) dK_b_167.2.2.2.2.2.2.1 rfl rfl <|
    aw_bipush (pc := 123) C (v := 10) dK_b_167.2.2.2.2.2.2.2.1 rfl <|
    aw_icmp_le (pc := 125) C (tgt := 152) dK_b_168.1 rfl (fun _ =>
    aw_bipush (pc := 152) C (v := (-9)) dK_b_169.2.2.2.2.2.2.2.1 rfl <|
    aw_iret (pc := 154) C dK_b_170.1 rfl rfl) (fun _ =>
    aw_iload_n (pc := 128) C (i := 1) dK_b_168.2.1 rfl rfl <|
    aw_bipush (pc := 129) C (v := 10) dK_b_168.2.2.1 rfl <|
    aw_isub (pc := 131) C dK_b_168.2.2.2.1 <|
    aw_aload_n (pc := 132) C (i := 0) dK_b_168.2.2.2.2.1 rfl rfl <|
    aw_getR (pc := 133) C (b := 4) dK_b_168.2.2.2.2.2.1 fl_X10_22 sC_0 rfl rC_0_9 <|
    aw_alenI (pc := 136) C (v := 7) (by decide) dK_b_168.2.2.2.2.2.2.1 sC_4 rfl rfl <|
    aw_icmp_ge (pc := 137) C (tgt := 152) dK_b_168.2.2.2.2.2.2.2.1 rfl (fun _ =>
    aw_bipush (pc := 152) C (v := (-9)) dK_b_169.2.2.2.2.2.2.2.1 rfl <|
    aw_iret (pc := 154) C dK_b_170.1 rfl rfl) (fun _ =>
    aw_aload_n (pc := 140) C (i := 0) dK_b_169.1 rfl rfl <|
    aw_getR (pc := 141) C (b := 4) dK_b_169.2.1 fl_X10_22 sC_0 rfl rC_0_9 <|
    aw_iload_n (pc := 144) C (i := 1) dK_b_169.2.2.1 rfl rfl <|
    aw_bipush (pc := 145) C (v := 10) dK_b_169.2.2.2.1 rfl <|
    aw_isub (pc := 147) C dK_b_169.2.2.2.2.1 <|
    aw_iald (pc := 148) C dK_b_169.2.2.2.2.2.1 sC_4 rfl <|
    aw_goto (pc := 149) C (tgt := 154) dK_b_169.2.2.2.2.2.2.1 rfl <|
    aw_iret (pc := 154) C dK_b_170.1 rfl rfl))))))))))))
end
section
abbrev rmX10_insert : Room := { frames := 0, cells := 0, slots := 0, locals := 0 }
def X10_insert_l2 (p0 : Nat) (n0 : Nat) (v2 : Int32) : Nat → Int32 → AH → Option (Unit × AH)
  | 0, _, _ => none
  | n + 1, v3, h =>
    if v3 ≤ 0 then (ck v3 n0 (vl (sI h p0 v3.toNatClampNeg v2) fun h1 =>
    some ((), h1)))
    else (ck (v3 - 1) n0 (if (h.1 p0 (v3 - 1).toNatClampNeg) ≤ v2 then (ck v3 n0 (vl (sI h p0 v3.toNatClampNeg v2) fun h2 =>
    some ((), h2)))
    else (ck (v3 - 1) n0 (ck v3 n0 (vl (sI h p0 v3.toNatClampNeg (h.1 p0 (v3 - 1).toNatClampNeg)) fun h3 =>
    vl (v3 + (-1)) fun x4 =>
    (X10_insert_l2 p0 n0 v2 n) x4 h3)))))
set_option maxRecDepth 100000 in
theorem aX10_insert_l2 {X : MCx} {yd : Dyn} {A : Nat → Prop} (C : OK X cX10_insert RX10 4 none rmX10_insert A) (Z : Stc) (p0 : Nat) (n0 : Nat) (t0 : Nat) (hA0 : Z.1[p0]? = some (.inl (t0, 0, n0))) (hT0 : Z.2.2.2[t0]? = some .int) (v2 : Int32) : ∀ (n : Nat) (v3 : Int32) (h : AH), AW X 4 Z yd A 0 0 (QF X rmX10_insert Z yd rvV A) 2 [(0, .ref p0), (2, .int v2), (3, .int v3)] [] h (X10_insert_l2 p0 n0 v2 n v3 h) := by
  intro n
  induction n with
  | zero => intro v3 h; exact aw_none
  | succ n ih =>
    intro v3 h
    exact aw_iload_n (pc := 2) C (i := 3) dK_b_140.2.2.1 rfl rfl <|
    aw_if_le (pc := 3) C (tgt := 29) dK_b_140.2.2.2.1 rfl (fun _ =>
    aw_aload_n (pc := 29) C (i := 0) dK_b_142.2.2.2.2.2.1 rfl rfl <|
    aw_iload_n (pc := 30) C (i := 3) dK_b_142.2.2.2.2.2.2.1 rfl rfl <|
    aw_iload_n (pc := 31) C (i := 2) dK_b_142.2.2.2.2.2.2.2.1 rfl rfl <|
    aw_iast (pc := 32) C dK_b_143.1 hA0 hT0 fun h1 =>
    aw_vret (pc := 33) C dK_b_143.2.1 rfl rfl) (fun _ =>
    aw_aload_n (pc := 6) C (i := 0) dK_b_140.2.2.2.2.1 rfl rfl <|
    aw_iload_n (pc := 7) C (i := 3) dK_b_140.2.2.2.2.2.1 rfl rfl <|
    aw_iconst (pc := 8) C (v := 1) dK_b_140.2.2.2.2.2.2.1 rfl <|
    aw_isub (pc := 9) C dK_b_140.2.2.2.2.2.2.2.1 <|
    aw_iald (pc := 10) C dK_b_141.1 hA0 hT0 <|
    aw_iload_n (pc := 11) C (i := 2) dK_b_141.2.1 rfl rfl <|
    aw_icmp_le (pc := 12) C (tgt := 29) dK_b_141.2.2.1 rfl (fun _ =>
    aw_aload_n (pc := 29) C (i := 0) dK_b_142.2.2.2.2.2.1 rfl rfl <|
    aw_iload_n (pc := 30) C (i := 3) dK_b_142.2.2.2.2.2.2.1 rfl rfl <|
    aw_iload_n (pc := 31) C (i := 2) dK_b_142.2.2.2.2.2.2.2.1 rfl rfl <|
    aw_iast (pc := 32) C dK_b_143.1 hA0 hT0 fun h2 =>
    aw_vret (pc := 33) C dK_b_143.2.1 rfl rfl) (fun _ =>
    aw_aload_n (pc := 15) C (i := 0) dK_b_141.2.2.2.1 rfl rfl <|
    aw_iload_n (pc := 16) C (i := 3) dK_b_141.2.2.2.2.1 rfl rfl <|
    aw_aload_n (pc := 17) C (i := 0) dK_b_141.2.2.2.2.2.1 rfl rfl <|
    aw_iload_n (pc := 18) C (i := 3) dK_b_141.2.2.2.2.2.2.1 rfl rfl <|
    aw_iconst (pc := 19) C (v := 1) dK_b_141.2.2.2.2.2.2.2.1 rfl <|
    aw_isub (pc := 20) C dK_b_142.1 <|
    aw_iald (pc := 21) C dK_b_142.2.1 hA0 hT0 <|
    aw_iast (pc := 22) C dK_b_142.2.2.1 hA0 hT0 fun h3 =>
    aw_iincV (pc := 23) C (i := 3) (cst := (-1)) (fun x4 => [(0, .ref p0), (2, .int v2), (3, .int x4)]) dK_b_142.2.2.2.1 rfl rfl (by decide) (fun _ => rfl) fun x4 =>
    aw_goto (pc := 26) C (tgt := 2) dK_b_142.2.2.2.2.1 rfl <|
    (ih x4 h3)))
def X10_insert (p0 : Nat) (n0 : Nat) (v1 : Int32) (v2 : Int32) (h : AH) : Option (Unit × AH) :=
    X10_insert_l2 p0 n0 v2 FU v1 h
set_option maxRecDepth 100000 in
theorem c_X10_insert (l : Launch) (Z : Stc) (p0 : Nat) (n0 : Nat) (t0 : Nat) (hA0 : Z.1[p0]? = some (.inl (t0, 0, n0))) (hT0 : Z.2.2.2[t0]? = some .int) (v1 : Int32) (v2 : Int32) : MC l yX10_insert cX10_insert 4 none rmX10_insert Z [.ref p0, .int v1, .int v2] rvV (X10_insert p0 n0 v1 v2) :=
  MC.of (own := RX10) pn_RX10 rfl (Nat.le_of_ble_eq_true rfl) fun X yd A h _ C =>
    aw_iload_n (pc := 0) C (i := 1) dK_b_140.1 rfl rfl <|
    aw_istore_n (pc := 1) C (i := 3) (lv' := [(0, .ref p0), (1, .int v1), (2, .int v2), (3, .int v1)]) dK_b_140.2.1 rfl (by decide) rfl <|
    aw_drop [0, 2, 3] (aX10_insert_l2 C Z p0 n0 t0 hA0 hT0 v2 FU v1 h)
end
section
/-! X10_half: a row made, and forgotten -/
def ZH : Stc := addS ZC (.inl (0, 0, 6))
theorem wf_ZC : WFs ZC := by
  refine ⟨fun o k b e => ?_, fun o e => ?_⟩
  · have e : rfC o k = some b := e
    show o < 73 ∧ b < 73
    unfold rfC at e
    split at e <;> (try split at e) <;> first | (cases e; done) | (have := Option.some.inj e; omega)
  · show 42 ≤ 73
    decide
section AWHalf
variable {X : MCx} {cc : ByteArray} {own : String} {nL : Nat} {ret : Option FieldType} {rm : Room} {Z : Stc} {yd : Dyn} {A : Nat → Prop} {k n k' n' : Nat} {α : Type} {Qf : α → AH → State → Prop} {pc : Nat} {lv : List (Nat × Value)} {st : List Value} {h : AH} {o : Option (α × AH)}
theorem aw_widen (h1 : k ≤ k') (h2 : n ≤ n') (q : AW X nL Z yd A k' n' Qf pc lv st h o) : AW X nL Z yd A k n Qf pc lv st h o := fun r h' e ls H locs hl hw => W.widen h1 h2 (q r h' e ls H locs hl hw)
theorem ent_ext {q o : Nat} {s sN : Shp} (hF : Frs Z) (e : Z.1[o]? = some s) : ent (addS Z sN) (ydN yd Z.1.length q) h o s = ent Z yd h o s := by
  have hl : o < Z.1.length := (List.getElem?_eq_some_iff.mp e).1
  have ho : o ≠ Z.1.length := by omega
  have hz : ent (addS Z sN) (ydN yd Z.1.length q) (zN h Z.1.length) o s = ent (addS Z sN) (ydN yd Z.1.length q) h o s := ent_same (fun _ => by simp [zN, ho]) (fun _ => by simp [zN, ho]) (by simp [zN, ho])
  rw [← hz, ent_new hF e]
theorem wld_ext {q : Nat} {sN : Shp} {D : va_G} {H : Heap} (hF : Frs Z) (hP : va_P D vwCl (wld (addS Z sN) (ydN yd Z.1.length q) h) H) : va_P D vwCl (wld Z yd h) H := by
  intro j x hx
  have hl : j < Z.1.length := by
    have := (List.getElem?_eq_some_iff.mp hx).1
    rwa [wld_len] at this
  obtain ⟨s, hs⟩ : ∃ s, Z.1[j]? = some s := ⟨_, List.getElem?_eq_getElem hl⟩
  rw [wld_at hs] at hx
  cases hx
  have hs2 : (addS Z sN).1[j]? = some s := by
    show (Z.1 ++ [sN])[j]? = some s
    rw [List.getElem?_append_left hl]; exact hs
  have g := hP j _ (wld_at hs2)
  rw [ent_ext hF hs, show (ydN yd Z.1.length q).1 j = yd.1 j from ydN_old j hl] at g
  exact g
theorem aw_iretH {a : Nat} (C : OK X cc own nL (some .int) rm A) {x : Int32} (d : decode cc pc = .ok (.ireturn, 1)) (hc : k = rm.cells) (hs : n = rm.slots) : AW X nL ZH (ydN yd 73 a) A k n (QF X rm ZC yd rvI A) pc lv [.int x] h (some (x, h)) := fun r h' e ls H locs hl hw => by
  cases e; subst hc; subst hs
  exact W.iret (v := x) C.1 C.2.1 C.2.2.2.2.2.2.1 (fun t ht hW => ⟨rfl, by rw [ht]; exact wld_ext (Z := ZC) (q := a) (sN := .inl (0, 0, 6)) wf_ZC.frs hw.1, hw.2.2.1.F ht⟩) hw.2.2.1.2.2 d C.2.2.2.2.2.1
end AWHalf
abbrev rmX10_half : Room := { frames := 1, cells := 1, slots := 6, locals := 45 }
def X10_half_j98  (v1 : Int32) (v4 : Int32) (v5 : Int32) (K27 : Int32 → Int32 → AH → Option (Int32 × AH)) (h : AH) : Option (Int32 × AH) :=
    vl (v5 + 1) fun x4 =>
    K27 v4 x4 h
set_option maxRecDepth 100000 in
theorem aX10_half_j98 {X : MCx} {yd : Dyn} {A : Nat → Prop} (C : OK X cX10_half RX10 6 (some .int) rmX10_half A) (a : Nat) (v1 : Int32) (v4 : Int32) (v5 : Int32) (K27 : Int32 → Int32 → AH → Option (Int32 × AH)) (hK27 : ∀ (w4 : Int32) (w5 : Int32) (h : AH), AW X 6 ZH (ydN yd 73 a) A (0 + 1) (0 + 6) (QF X rmX10_half ZC yd rvI A) 27 [(0, .ref 0), (1, .int v1), (3, .ref 73), (4, .int w4), (5, .int w5)] [] h (K27 w4 w5 h)) (h : AH) : AW X 6 ZH (ydN yd 73 a) A (0 + 1) (0 + 6) (QF X rmX10_half ZC yd rvI A) 98 [(0, .ref 0), (1, .int v1), (3, .ref 73), (4, .int v4), (5, .int v5)] [] h (X10_half_j98 v1 v4 v5 K27 h) := by
    exact aw_iincV (pc := 98) C (i := 5) (cst := 1) (fun x4 => [(0, .ref 0), (1, .int v1), (3, .ref 73), (4, .int v4), (5, .int x4)]) dK_b_138.2.2.1 rfl rfl (by decide) (fun _ => rfl) fun x4 =>
    aw_goto (pc := 101) C (tgt := 27) dK_b_138.2.2.2.1 rfl <|
    (hK27 v4 x4 h)
def X10_half_l27  (v1 : Int32) : Nat → Int32 → Int32 → AH → Option (Int32 × AH)
  | 0, _, _, _ => none
  | n + 1, v4, v5, h =>
    if (h.1 42 4) ≤ v5 then (if v4 = 0 then (some ((-9), h))
    else (ck ((v4 - 1) / 2) 6 (some ((h.1 73 ((v4 - 1) / 2).toNatClampNeg), h))))
    else (ck v5 24 (if (h.1 44 v5.toNatClampNeg) = v1 then (ck v5 24 (if (h.1 46 v5.toNatClampNeg) = (-8) then (X10_half_j98 v1 v4 v5 (X10_half_l27 v1 n) h)
    else (if 6 ≤ v4 then (X10_half_j98 v1 v4 v5 (X10_half_l27 v1 n) h)
    else (ck v5 24 (bd (X10_insert 73 6 v4 (mx32 0 (h.1 46 v5.toNatClampNeg)) h) fun _ h6 =>
    vl (v4 + 1) fun x7 =>
    X10_half_j98 v1 x7 v5 (X10_half_l27 v1 n) h6)))))
    else (X10_half_j98 v1 v4 v5 (X10_half_l27 v1 n) h)))
set_option maxRecDepth 100000 in
theorem aX10_half_l27 {X : MCx} {yd : Dyn} {A : Nat → Prop} (C : OK X cX10_half RX10 6 (some .int) rmX10_half A) (a : Nat) (v1 : Int32) : ∀ (n : Nat) (v4 : Int32) (v5 : Int32) (h : AH), AW X 6 ZH (ydN yd 73 a) A (0 + 1) (0 + 6) (QF X rmX10_half ZC yd rvI A) 27 [(0, .ref 0), (1, .int v1), (3, .ref 73), (4, .int v4), (5, .int v5)] [] h (X10_half_l27 v1 n v4 v5 h) := by
  intro n
  induction n with
  | zero => intro v4 v5 h; exact aw_none
  | succ n ih =>
    intro v4 v5 h
    exact aw_iload (pc := 27) C (i := 5) dK_b_134.2.1 rfl <|
    aw_aload_n (pc := 29) C (i := 0) dK_b_134.2.2.1 rfl rfl <|
    aw_getR (pc := 30) C (b := 42) dK_b_134.2.2.2.1 fl_X10_72 rfl rfl rfl <|
    aw_getI (pc := 33) C dK_b_134.2.2.2.2.1 fl_X10_160 rfl rfl <|
    aw_icmp_ge (pc := 36) C (tgt := 104) dK_b_134.2.2.2.2.2.1 rfl (fun _ =>
    aw_iload (pc := 104) C (i := 4) dK_b_138.2.2.2.2.1 rfl <|
    aw_if_ne (pc := 106) C (tgt := 114) dK_b_138.2.2.2.2.2.1 rfl (fun _ =>
    aw_bipush (pc := 109) C (v := (-9)) dK_b_138.2.2.2.2.2.2.1 rfl <|
    aw_goto (pc := 111) C (tgt := 122) dK_b_138.2.2.2.2.2.2.2.1 rfl <|
    aw_iretH (pc := 122) C dK_b_139.2.2.2.2.2.2.2.1 rfl rfl) (fun _ =>
    aw_aload_n (pc := 114) C (i := 3) dK_b_139.1 rfl rfl <|
    aw_iload (pc := 115) C (i := 4) dK_b_139.2.1 rfl <|
    aw_iconst (pc := 117) C (v := 1) dK_b_139.2.2.1 rfl <|
    aw_isub (pc := 118) C dK_b_139.2.2.2.1 <|
    aw_iconst (pc := 119) C (v := 2) dK_b_139.2.2.2.2.1 rfl <|
    aw_idivK (pc := 120) C dK_b_139.2.2.2.2.2.1 (by decide) <|
    aw_iald (pc := 121) C dK_b_139.2.2.2.2.2.2.1 rfl rfl <|
    aw_iretH (pc := 122) C dK_b_139.2.2.2.2.2.2.2.1 rfl rfl)) (fun _ =>
    aw_aload_n (pc := 39) C (i := 0) dK_b_134.2.2.2.2.2.2.1 rfl rfl <|
    aw_getR (pc := 40) C (b := 42) dK_b_134.2.2.2.2.2.2.2.1 fl_X10_72 rfl rfl rfl <|
    aw_getR (pc := 43) C (b := 44) dK_b_135.1 fl_X10_297 rfl rfl rfl <|
    aw_iload (pc := 46) C (i := 5) dK_b_135.2.1 rfl <|
    aw_iald (pc := 48) C dK_b_135.2.2.1 rfl rfl <|
    aw_iload_n (pc := 49) C (i := 1) dK_b_135.2.2.2.1 rfl rfl <|
    aw_icmp_ne (pc := 50) C (tgt := 98) dK_b_135.2.2.2.2.1 rfl (fun _ =>
    aw_aload_n (pc := 53) C (i := 0) dK_b_135.2.2.2.2.2.1 rfl rfl <|
    aw_getR (pc := 54) C (b := 42) dK_b_135.2.2.2.2.2.2.1 fl_X10_72 rfl rfl rfl <|
    aw_getR (pc := 57) C (b := 46) dK_b_135.2.2.2.2.2.2.2.1 fl_X10_303 rfl rfl rfl <|
    aw_iload (pc := 60) C (i := 5) dK_b_136.1 rfl <|
    aw_iald (pc := 62) C dK_b_136.2.1 rfl rfl <|
    aw_bipush (pc := 63) C (v := (-8)) dK_b_136.2.2.1 rfl <|
    aw_icmp_eq (pc := 65) C (tgt := 98) dK_b_136.2.2.2.1 rfl (fun _ =>
    (aX10_half_j98 C a v1 v4 v5 (X10_half_l27 v1 n) ih h)) (fun _ =>
    aw_iload (pc := 68) C (i := 4) dK_b_136.2.2.2.2.1 rfl <|
    aw_bipush (pc := 70) C (v := 6) dK_b_136.2.2.2.2.2.1 rfl <|
    aw_icmp_ge (pc := 72) C (tgt := 98) dK_b_136.2.2.2.2.2.2.1 rfl (fun _ =>
    (aX10_half_j98 C a v1 v4 v5 (X10_half_l27 v1 n) ih h)) (fun _ =>
    aw_aload_n (pc := 75) C (i := 3) dK_b_136.2.2.2.2.2.2.2.1 rfl rfl <|
    aw_iload (pc := 76) C (i := 4) dK_b_137.1 rfl <|
    aw_iconst (pc := 78) C (v := 0) dK_b_137.2.1 rfl <|
    aw_aload_n (pc := 79) C (i := 0) dK_b_137.2.2.1 rfl rfl <|
    aw_getR (pc := 80) C (b := 42) dK_b_137.2.2.2.1 fl_X10_72 rfl rfl rfl <|
    aw_getR (pc := 83) C (b := 46) dK_b_137.2.2.2.2.1 fl_X10_303 rfl rfl rfl <|
    aw_iload (pc := 86) C (i := 5) dK_b_137.2.2.2.2.2.1 rfl <|
    aw_iald (pc := 88) C dK_b_137.2.2.2.2.2.2.1 rfl rfl <|
    aw_mmax (pc := 89) C dK_b_137.2.2.2.2.2.2.2.1 ml_X10_286 w_mmaxS w_mI w_mmaxC ⟨(Nat.le_of_ble_eq_true rfl), (Nat.le_of_ble_eq_true rfl)⟩ (Nat.le_of_ble_eq_true rfl) (Nat.le_of_ble_eq_true rfl) <|
    aw_callF (pc := 92) C (cr_S (rest := []) (F := (X10_insert 73 6 v4 (mx32 0 (h.1 46 v5.toNatClampNeg)))) C (c_X10_insert X.2.1 ZH 73 6 0 rfl rfl v4 (mx32 0 (h.1 46 v5.toNatClampNeg))) dK_b_138.1 mf_X10_insert ml_X10_401 st_X10_insert ⟨(Nat.le_of_ble_eq_true rfl), (Nat.le_of_ble_eq_true rfl)⟩ rfl rfl (Nat.le_of_ble_eq_true rfl)) rfl rfl rfl (Nat.le_of_ble_eq_true rfl) (Nat.le_of_ble_eq_true rfl) fun _ h6 =>
    aw_iincV (pc := 95) C (i := 4) (cst := 1) (fun x7 => [(0, .ref 0), (1, .int v1), (3, .ref 73), (4, .int x7), (5, .int v5)]) dK_b_138.2.1 rfl rfl (by decide) (fun _ => rfl) fun x7 =>
    (aX10_half_j98 C a v1 x7 v5 (X10_half_l27 v1 n) ih h6)))) (fun _ =>
    (aX10_half_j98 C a v1 v4 v5 (X10_half_l27 v1 n) ih h)))
def X10_half (v1 : Int32) (h : AH) : Option (Int32 × AH) :=
    bd (X10_nobody v1 h) fun r1 h2 =>
    if r1 = 0 then (vl (zN h2 73) fun h3 =>
    X10_half_l27 v1 FU 0 0 h3)
    else (bd (X10_refuse r1 h2) fun r8 h9 =>
    some (r8, h9))
set_option maxRecDepth 100000 in
theorem c_X10_half (l : Launch) (v1 : Int32) : MC l yX10_half cX10_half 6 (some .int) rmX10_half ZC [.ref 0, .int v1] rvI (X10_half v1) :=
  MC.of (own := RX10) pn_RX10 rfl (Nat.le_of_ble_eq_true rfl) fun X yd A h _ C =>
    aw_aload_n (pc := 0) C (i := 0) dK_b_132.1 rfl rfl <|
    aw_iload_n (pc := 1) C (i := 1) dK_b_132.2.1 rfl rfl <|
    aw_callF (pc := 2) C (cr_V (rest := []) (F := (X10_nobody v1)) C (c_X10_nobody X.2.1 v1) dK_b_132.2.2.1 mf_X10_nobody ml_X10_93 im_X10_nobody se_X10_nobody sC_0 rfl ⟨(Nat.le_of_ble_eq_true rfl), (Nat.le_of_ble_eq_true rfl)⟩ rfl rfl (Nat.le_of_ble_eq_true rfl)) rfl rfl rfl (Nat.le_of_ble_eq_true rfl) (Nat.le_of_ble_eq_true rfl) fun r1 h2 =>
    aw_istore_n (pc := 5) C (i := 2) (lv' := [(0, .ref 0), (1, .int v1), (2, .int r1)]) dK_b_132.2.2.2.1 rfl (by decide) rfl <|
    aw_iload_n (pc := 6) C (i := 2) dK_b_132.2.2.2.2.1 rfl rfl <|
    aw_if_eq (pc := 7) C (tgt := 16) dK_b_132.2.2.2.2.2.1 rfl (fun _ =>
    aw_bipush (pc := 16) C (v := 6) dK_b_133.2.2.1 rfl <|
    aw_newIm (pc := 18) C (Z' := ZH) (N := 6) rfl wf_ZC dK_b_133.2.2.2.1 (by decide) rfl (by decide) rfl rfl rfl (Nat.le_of_ble_eq_true rfl) (Nat.le_of_ble_eq_true rfl) fun a h3 =>
    aw_astore_n (pc := 20) C (i := 3) (lv' := [(0, .ref 0), (1, .int v1), (2, .int r1), (3, .ref 73)]) dK_b_133.2.2.2.2.1 rfl (by decide) rfl <|
    aw_iconst (pc := 21) C (v := 0) dK_b_133.2.2.2.2.2.1 rfl <|
    aw_istore (pc := 22) C (i := 4) (lv' := [(0, .ref 0), (1, .int v1), (2, .int r1), (3, .ref 73), (4, .int 0)]) dK_b_133.2.2.2.2.2.2.1 (by decide) rfl <|
    aw_iconst (pc := 24) C (v := 0) dK_b_133.2.2.2.2.2.2.2.1 rfl <|
    aw_istore (pc := 25) C (i := 5) (lv' := [(0, .ref 0), (1, .int v1), (2, .int r1), (3, .ref 73), (4, .int 0), (5, .int 0)]) dK_b_134.1 (by decide) rfl <|
    aw_drop [0, 1, 3, 4, 5] (aX10_half_l27 C a v1 FU 0 0 h3)) (fun _ =>
    aw_aload_n (pc := 10) C (i := 0) dK_b_132.2.2.2.2.2.2.1 rfl rfl <|
    aw_iload_n (pc := 11) C (i := 2) dK_b_132.2.2.2.2.2.2.2.1 rfl rfl <|
    aw_callF (pc := 12) C (cr_V (rest := []) (F := (X10_refuse r1)) C (c_X10_refuse X.2.1 r1) dK_b_133.1 mf_X10_refuse ml_X10_111 im_X10_refuse se_X10_refuse sC_0 rfl ⟨(Nat.le_of_ble_eq_true rfl), (Nat.le_of_ble_eq_true rfl)⟩ rfl rfl (Nat.le_of_ble_eq_true rfl)) rfl rfl rfl (Nat.le_of_ble_eq_true rfl) (Nat.le_of_ble_eq_true rfl) fun r8 h9 =>
    aw_widen (Nat.le_of_ble_eq_true rfl) (Nat.le_of_ble_eq_true rfl) (aw_iret (pc := 15) C dK_b_133.2.1 rfl rfl))
end
