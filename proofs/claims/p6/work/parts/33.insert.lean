abbrev rmX10_insert : Room := { frames := 0, cells := 0, slots := 0, locals := 0 }
def X10_insert_l2 (p0 : Nat) (n0 : Nat) (v2 : Int32) : Nat → Int32 → AH → Option (Unit × AH)
  | 0, _, _ => none
  | n + 1, v3, h =>
    if v3 ≤ 0 then (ck v3 n0 (vl (sI h p0 v3.toNatClampNeg v2) fun h1 =>
    some ((), h1)))
    else (ck (v3 - 1) n0 (if (h.1 p0 (v3 - 1).toNatClampNeg) ≤ v2 then (ck v3 n0 (vl (sI h p0 v3.toNatClampNeg v2) fun h2 =>
    some ((), h2)))
    else (ck (v3 - 1) n0 (ck v3 n0 (vl (sI h p0 v3.toNatClampNeg (h.1 p0 (v3 - 1).toNatClampNeg)) fun h3 =>
    vl (v3 + (-1)) fun x4 =>
    (X10_insert_l2 p0 n0 v2 n) x4 h3)))))
set_option maxRecDepth 100000 in
theorem aX10_insert_l2 {X : MCx} {yd : Dyn} {A : Nat → Prop} (C : OK X cX10_insert RX10 4 none rmX10_insert A) (Z : Stc) (p0 : Nat) (n0 : Nat) (t0 : Nat) (hA0 : Z.1[p0]? = some (.inl (t0, 0, n0))) (hT0 : Z.2.2.2[t0]? = some .int) (v2 : Int32) : ∀ (n : Nat) (v3 : Int32) (h : AH), AW X 4 Z yd A 0 0 (QF X rmX10_insert Z yd rvV A) 2 [(0, .ref p0), (2, .int v2), (3, .int v3)] [] h (X10_insert_l2 p0 n0 v2 n v3 h) := by
  intro n
  induction n with
  | zero => intro v3 h; exact aw_none
  | succ n ih =>
    intro v3 h
    exact aw_iload_n (pc := 2) C (i := 3) dX10_insert_2 rfl rfl <|
    aw_if_le (pc := 3) C (tgt := 29) dX10_insert_3 rfl (fun _ =>
    aw_aload_n (pc := 29) C (i := 0) dX10_insert_29 rfl rfl <|
    aw_iload_n (pc := 30) C (i := 3) dX10_insert_30 rfl rfl <|
    aw_iload_n (pc := 31) C (i := 2) dX10_insert_31 rfl rfl <|
    aw_iast (pc := 32) C dX10_insert_32 hA0 hT0 fun h1 =>
    aw_vret (pc := 33) C dX10_insert_33 rfl rfl) (fun _ =>
    aw_aload_n (pc := 6) C (i := 0) dX10_insert_6 rfl rfl <|
    aw_iload_n (pc := 7) C (i := 3) dX10_insert_7 rfl rfl <|
    aw_iconst (pc := 8) C (v := 1) dX10_insert_8 rfl <|
    aw_isub (pc := 9) C dX10_insert_9 <|
    aw_iald (pc := 10) C dX10_insert_10 hA0 hT0 <|
    aw_iload_n (pc := 11) C (i := 2) dX10_insert_11 rfl rfl <|
    aw_icmp_le (pc := 12) C (tgt := 29) dX10_insert_12 rfl (fun _ =>
    aw_aload_n (pc := 29) C (i := 0) dX10_insert_29 rfl rfl <|
    aw_iload_n (pc := 30) C (i := 3) dX10_insert_30 rfl rfl <|
    aw_iload_n (pc := 31) C (i := 2) dX10_insert_31 rfl rfl <|
    aw_iast (pc := 32) C dX10_insert_32 hA0 hT0 fun h2 =>
    aw_vret (pc := 33) C dX10_insert_33 rfl rfl) (fun _ =>
    aw_aload_n (pc := 15) C (i := 0) dX10_insert_15 rfl rfl <|
    aw_iload_n (pc := 16) C (i := 3) dX10_insert_16 rfl rfl <|
    aw_aload_n (pc := 17) C (i := 0) dX10_insert_17 rfl rfl <|
    aw_iload_n (pc := 18) C (i := 3) dX10_insert_18 rfl rfl <|
    aw_iconst (pc := 19) C (v := 1) dX10_insert_19 rfl <|
    aw_isub (pc := 20) C dX10_insert_20 <|
    aw_iald (pc := 21) C dX10_insert_21 hA0 hT0 <|
    aw_iast (pc := 22) C dX10_insert_22 hA0 hT0 fun h3 =>
    aw_iincV (pc := 23) C (i := 3) (cst := (-1)) (fun x4 => [(0, .ref p0), (2, .int v2), (3, .int x4)]) dX10_insert_23 rfl rfl (by decide) (fun _ => rfl) fun x4 =>
    aw_goto (pc := 26) C (tgt := 2) dX10_insert_26 rfl <|
    (ih x4 h3)))
def X10_insert (p0 : Nat) (n0 : Nat) (v1 : Int32) (v2 : Int32) (h : AH) : Option (Unit × AH) :=
    X10_insert_l2 p0 n0 v2 FU v1 h
set_option maxRecDepth 100000 in
theorem c_X10_insert (l : Launch) (Z : Stc) (p0 : Nat) (n0 : Nat) (t0 : Nat) (hA0 : Z.1[p0]? = some (.inl (t0, 0, n0))) (hT0 : Z.2.2.2[t0]? = some .int) (v1 : Int32) (v2 : Int32) : MC l yX10_insert cX10_insert 4 none rmX10_insert Z [.ref p0, .int v1, .int v2] rvV (X10_insert p0 n0 v1 v2) :=
  MC.of (own := RX10) (by decide +kernel) rfl (Nat.le_of_ble_eq_true rfl) fun X yd A h _ C =>
    aw_iload_n (pc := 0) C (i := 1) dX10_insert_0 rfl rfl <|
    aw_istore_n (pc := 1) C (i := 3) (lv' := [(0, .ref p0), (1, .int v1), (2, .int v2), (3, .int v1)]) dX10_insert_1 rfl (by decide) rfl <|
    aw_drop [0, 2, 3] (aX10_insert_l2 C Z p0 n0 t0 hA0 hT0 v2 FU v1 h)
