/-! DECODING BY A WALK OVER THE BYTES: an opcode's entry says what the bytes behind it mean; each entry is held against the decoder -/
abbrev dV : Type := List UInt8 → Option (Instr × Nat)
def ev_fix (i : Instr) : dV := fun _ => some (i, 1)
def ev_u1 (f : Nat → Instr) : dV := fun t => match t with
  | a :: _ => some (f a.toNat, 2)
  | [] => none
def ev_s1 (f : Int → Instr) : dV := fun t => match t with
  | a :: _ => some (f (Reader.signed 8 a.toNat), 2)
  | [] => none
def ev_u2 (f : Nat → Instr) : dV := fun t => match t with
  | a :: b :: _ => some (f (a.toNat * 256 + b.toNat), 3)
  | _ => none
def ev_s2 (f : Int → Instr) : dV := fun t => match t with
  | a :: b :: _ => some (f (Reader.signed 16 (a.toNat * 256 + b.toNat)), 3)
  | _ => none
def ev_us (f : Nat → Int → Instr) : dV := fun t => match t with
  | a :: b :: _ => some (f a.toNat (Reader.signed 8 b.toNat), 3)
  | _ => none
theorem dr_bind {α β : Type} {r : Reader DecodeError α} {g : α → Reader DecodeError β} {c : ByteArray} {p q : Nat} {a : α} (h : r.runAt c p = .ok (a, q)) : (r >>= g).runAt c p = (g a).runAt c q := by
  have h2 : r c p = .ok (a, q) := h
  show (StateT.bind (r c) (fun a => g a c)) p = g a c q
  unfold StateT.bind
  rw [h2]
  rfl
theorem dr_u1 {c : ByteArray} {p : Nat} {b : UInt8} {t : List UInt8} (h : c.data.toList.drop p = b :: t) : (Reader.u1 (ε := DecodeError)).runAt c p = .ok (b.toNat, p + 1) := by
  have hl : p < c.size := by
    have h1 := congrArg List.length h
    rw [List.length_drop, List.length_cons] at h1
    have h2 : c.size = c.data.toList.length := rfl
    omega
  have hb : c[p]'hl = b := by
    have h2 := congrArg List.head? h
    rw [List.head?_drop] at h2
    rw [Array.getElem?_toList] at h2
    have h3 : c.data[p]? = some (c.data[p]'hl) := Array.getElem?_eq_getElem hl
    rw [h3] at h2
    exact Option.some.inj h2
  unfold Reader.u1
  have e1 : (read : Reader DecodeError ByteArray).runAt c p = .ok (c, p) := rfl
  have e2 : (get : Reader DecodeError Nat).runAt c p = .ok (p, p) := rfl
  refine (dr_bind e1).trans ((dr_bind e2).trans ?_)
  rw [dif_pos hl]
  have e3 : (set (p + 1) : Reader DecodeError PUnit).runAt c p = .ok (PUnit.unit, p + 1) := rfl
  refine (dr_bind e3).trans ?_
  show Except.ok ((c[p]'hl).toNat, p + 1) = _
  rw [hb]
theorem dr_tl {c : ByteArray} {p : Nat} {b : UInt8} {t : List UInt8} (h : c.data.toList.drop p = b :: t) : c.data.toList.drop (p + 1) = t := by
  have h1 := congrArg List.tail h
  rw [List.tail_drop] at h1
  exact h1
theorem dr_u2 {c : ByteArray} {p : Nat} {a b : UInt8} {t : List UInt8} (h : c.data.toList.drop p = a :: b :: t) : (Reader.u2 (ε := DecodeError)).runAt c p = .ok (a.toNat * 256 + b.toNat, p + 1 + 1) := by
  unfold Reader.u2
  exact (dr_bind (dr_u1 h)).trans ((dr_bind (dr_u1 (dr_tl h))).trans rfl)
theorem dr_map {α β : Type} {r : Reader DecodeError α} {f : α → β} {c : ByteArray} {p q : Nat} {a : α} (h : r.runAt c p = .ok (a, q)) : (f <$> r).runAt c p = .ok (f a, q) := by
  have h2 : r c p = .ok (a, q) := h
  show (StateT.map f (r c)) p = _
  unfold StateT.map
  rw [h2]
  rfl
theorem dr_s1 {c : ByteArray} {p : Nat} {b : UInt8} {t : List UInt8} (h : c.data.toList.drop p = b :: t) : (Reader.s1 (ε := DecodeError)).runAt c p = .ok (Reader.signed 8 b.toNat, p + 1) := dr_map (dr_u1 h)
theorem dr_s2 {c : ByteArray} {p : Nat} {a b : UInt8} {t : List UInt8} (h : c.data.toList.drop p = a :: b :: t) : (Reader.s2 (ε := DecodeError)).runAt c p = .ok (Reader.signed 16 (a.toNat * 256 + b.toNat), p + 1 + 1) := dr_map (dr_u2 h)
theorem dr_dec {c : ByteArray} {p n q : Nat} {i : Instr} (h : (Decoder.instr p).runAt c p = .ok (i, q)) (hq : q = p + n) : decode c p = .ok (i, n) := by
  unfold decode
  rw [h]
  show Except.ok (i, q - p) = _
  rw [hq, Nat.add_sub_cancel_left]
def dGood (k : Nat) (v : dV) : Prop := ∀ (c : ByteArray) (p : Nat) (b : UInt8) (t : List UInt8), c.data.toList.drop p = b :: t → b.toNat = k → ∀ x, v t = some x → decode c p = .ok x
/-- behind the opcode k the decoder runs R and makes f of what it answers -/
def dRun {α : Type} (k : Nat) (R : Reader DecodeError α) (f : α → Instr) : Prop := ∀ (c : ByteArray) (p q q2 : Nat) (a : α), (Reader.u1 (ε := DecodeError)).runAt c p = .ok (k, q) → R.runAt c q = .ok (a, q2) → (Decoder.instr p).runAt c p = .ok (f a, q2)
theorem gd_fix {k : Nat} {i : Instr} (H : ∀ (c : ByteArray) (p q : Nat), (Reader.u1 (ε := DecodeError)).runAt c p = .ok (k, q) → (Decoder.instr p).runAt c p = .ok (i, q)) : dGood k (ev_fix i) := by
  intro c p b t hd hk x hx
  have h1 := dr_u1 hd
  rw [hk] at h1
  have hx2 : (i, 1) = x := Option.some.inj hx
  rw [← hx2]
  exact dr_dec (H c p _ h1) rfl
theorem gd_u1 {k : Nat} {f : Nat → Instr} (H : dRun k Reader.u1 f) : dGood k (ev_u1 f) := by
  intro c p b t hd hk x hx
  have h1 := dr_u1 hd
  rw [hk] at h1
  cases t with
  | nil => exact absurd hx (by simp [ev_u1])
  | cons a t =>
    have hx2 : (f a.toNat, 2) = x := Option.some.inj hx
    rw [← hx2]
    exact dr_dec (H c p _ _ _ h1 (dr_u1 (dr_tl hd))) rfl
theorem gd_s1 {k : Nat} {f : Int → Instr} (H : dRun k Reader.s1 f) : dGood k (ev_s1 f) := by
  intro c p b t hd hk x hx
  have h1 := dr_u1 hd
  rw [hk] at h1
  cases t with
  | nil => exact absurd hx (by simp [ev_s1])
  | cons a t =>
    have hx2 : (f (Reader.signed 8 a.toNat), 2) = x := Option.some.inj hx
    rw [← hx2]
    exact dr_dec (H c p _ _ _ h1 (dr_s1 (dr_tl hd))) rfl
theorem gd_u2 {k : Nat} {f : Nat → Instr} (H : dRun k Reader.u2 f) : dGood k (ev_u2 f) := by
  intro c p b t hd hk x hx
  have h1 := dr_u1 hd
  rw [hk] at h1
  match t, hd, hx with
  | [], _, hx => exact absurd hx (by simp [ev_u2])
  | [_], _, hx => exact absurd hx (by simp [ev_u2])
  | a :: d :: t, hd, hx =>
    have hx2 : (f (a.toNat * 256 + d.toNat), 3) = x := Option.some.inj hx
    rw [← hx2]
    exact dr_dec (H c p _ _ _ h1 (dr_u2 (dr_tl hd))) rfl
theorem gd_s2 {k : Nat} {f : Int → Instr} (H : dRun k Reader.s2 f) : dGood k (ev_s2 f) := by
  intro c p b t hd hk x hx
  have h1 := dr_u1 hd
  rw [hk] at h1
  match t, hd, hx with
  | [], _, hx => exact absurd hx (by simp [ev_s2])
  | [_], _, hx => exact absurd hx (by simp [ev_s2])
  | a :: d :: t, hd, hx =>
    have hx2 : (f (Reader.signed 16 (a.toNat * 256 + d.toNat)), 3) = x := Option.some.inj hx
    rw [← hx2]
    exact dr_dec (H c p _ _ _ h1 (dr_s2 (dr_tl hd))) rfl
theorem gd_us {k : Nat} {f : Nat → Int → Instr} (H : ∀ (c : ByteArray) (p q q2 q3 : Nat) (a : Nat) (b : Int), (Reader.u1 (ε := DecodeError)).runAt c p = .ok (k, q) → (Reader.u1 (ε := DecodeError)).runAt c q = .ok (a, q2) → (Reader.s1 (ε := DecodeError)).runAt c q2 = .ok (b, q3) → (Decoder.instr p).runAt c p = .ok (f a b, q3)) : dGood k (ev_us f) := by
  intro c p b t hd hk x hx
  have h1 := dr_u1 hd
  rw [hk] at h1
  match t, hd, hx with
  | [], _, hx => exact absurd hx (by simp [ev_us])
  | [_], _, hx => exact absurd hx (by simp [ev_us])
  | a :: d :: t, hd, hx =>
    have hx2 : (f a.toNat (Reader.signed 8 d.toNat), 3) = x := Option.some.inj hx
    rw [← hx2]
    exact dr_dec (H c p _ _ _ _ _ h1 (dr_u1 (dr_tl hd)) (dr_s1 (dr_tl (dr_tl hd)))) rfl
theorem gd_none {k : Nat} : dGood k (fun _ => none) := fun _ _ _ _ _ _ _ hx => absurd hx (by simp)
theorem gd_if {k : Nat} {b : Bool} {x y : dV} (h1 : dGood k x) (h2 : dGood k y) : dGood k (bif b then x else y) := by
  cases b
  · exact h2
  · exact h1
theorem gd_leaf {k m : Nat} {v : dV} (h : dGood m v) : dGood k (bif Nat.beq k m then v else fun _ => none) := by
  cases e : Nat.beq k m with
  | false => exact gd_none
  | true => rw [Nat.eq_of_beq_eq_true e]; exact h
theorem op_2 : dGood 2 (ev_fix (.iconst (-1))) := gd_fix fun _ _ _ h1 => (dr_bind h1).trans rfl
theorem op_3 : dGood 3 (ev_fix (.iconst (0))) := gd_fix fun _ _ _ h1 => (dr_bind h1).trans rfl
theorem op_4 : dGood 4 (ev_fix (.iconst (1))) := gd_fix fun _ _ _ h1 => (dr_bind h1).trans rfl
theorem op_5 : dGood 5 (ev_fix (.iconst (2))) := gd_fix fun _ _ _ h1 => (dr_bind h1).trans rfl
theorem op_6 : dGood 6 (ev_fix (.iconst (3))) := gd_fix fun _ _ _ h1 => (dr_bind h1).trans rfl
theorem op_7 : dGood 7 (ev_fix (.iconst (4))) := gd_fix fun _ _ _ h1 => (dr_bind h1).trans rfl
theorem op_8 : dGood 8 (ev_fix (.iconst (5))) := gd_fix fun _ _ _ h1 => (dr_bind h1).trans rfl
theorem op_9 : dGood 9 (ev_fix (.lconst 0)) := gd_fix fun _ _ _ h1 => (dr_bind h1).trans rfl
theorem op_10 : dGood 10 (ev_fix (.lconst 1)) := gd_fix fun _ _ _ h1 => (dr_bind h1).trans rfl
theorem op_16 : dGood 16 (ev_s1 (.bipush)) := gd_s1 fun _ _ _ _ _ h1 h2 => (dr_bind h1).trans ((dr_bind h2).trans rfl)
theorem op_17 : dGood 17 (ev_s2 (.sipush)) := gd_s2 fun _ _ _ _ _ h1 h2 => (dr_bind h1).trans ((dr_bind h2).trans rfl)
theorem op_18 : dGood 18 (ev_u1 (.ldc)) := gd_u1 fun _ _ _ _ _ h1 h2 => (dr_bind h1).trans ((dr_bind h2).trans rfl)
theorem op_19 : dGood 19 (ev_u2 (.ldc_w)) := gd_u2 fun _ _ _ _ _ h1 h2 => (dr_bind h1).trans ((dr_bind h2).trans rfl)
theorem op_20 : dGood 20 (ev_u2 (.ldc2_w)) := gd_u2 fun _ _ _ _ _ h1 h2 => (dr_bind h1).trans ((dr_bind h2).trans rfl)
theorem op_21 : dGood 21 (ev_u1 (.iload)) := gd_u1 fun _ _ _ _ _ h1 h2 => (dr_bind h1).trans ((dr_bind h2).trans rfl)
theorem op_22 : dGood 22 (ev_u1 (.lload)) := gd_u1 fun _ _ _ _ _ h1 h2 => (dr_bind h1).trans ((dr_bind h2).trans rfl)
theorem op_25 : dGood 25 (ev_u1 (.aload)) := gd_u1 fun _ _ _ _ _ h1 h2 => (dr_bind h1).trans ((dr_bind h2).trans rfl)
theorem op_26 : dGood 26 (ev_fix (.iload_n 0)) := gd_fix fun _ _ _ h1 => (dr_bind h1).trans rfl
theorem op_27 : dGood 27 (ev_fix (.iload_n 1)) := gd_fix fun _ _ _ h1 => (dr_bind h1).trans rfl
theorem op_28 : dGood 28 (ev_fix (.iload_n 2)) := gd_fix fun _ _ _ h1 => (dr_bind h1).trans rfl
theorem op_29 : dGood 29 (ev_fix (.iload_n 3)) := gd_fix fun _ _ _ h1 => (dr_bind h1).trans rfl
theorem op_30 : dGood 30 (ev_fix (.lload_n 0)) := gd_fix fun _ _ _ h1 => (dr_bind h1).trans rfl
theorem op_31 : dGood 31 (ev_fix (.lload_n 1)) := gd_fix fun _ _ _ h1 => (dr_bind h1).trans rfl
theorem op_32 : dGood 32 (ev_fix (.lload_n 2)) := gd_fix fun _ _ _ h1 => (dr_bind h1).trans rfl
theorem op_33 : dGood 33 (ev_fix (.lload_n 3)) := gd_fix fun _ _ _ h1 => (dr_bind h1).trans rfl
theorem op_42 : dGood 42 (ev_fix (.aload_n 0)) := gd_fix fun _ _ _ h1 => (dr_bind h1).trans rfl
theorem op_43 : dGood 43 (ev_fix (.aload_n 1)) := gd_fix fun _ _ _ h1 => (dr_bind h1).trans rfl
theorem op_44 : dGood 44 (ev_fix (.aload_n 2)) := gd_fix fun _ _ _ h1 => (dr_bind h1).trans rfl
theorem op_45 : dGood 45 (ev_fix (.aload_n 3)) := gd_fix fun _ _ _ h1 => (dr_bind h1).trans rfl
theorem op_46 : dGood 46 (ev_fix (.iaload)) := gd_fix fun _ _ _ h1 => (dr_bind h1).trans rfl
theorem op_47 : dGood 47 (ev_fix (.laload)) := gd_fix fun _ _ _ h1 => (dr_bind h1).trans rfl
theorem op_50 : dGood 50 (ev_fix (.aaload)) := gd_fix fun _ _ _ h1 => (dr_bind h1).trans rfl
theorem op_54 : dGood 54 (ev_u1 (.istore)) := gd_u1 fun _ _ _ _ _ h1 h2 => (dr_bind h1).trans ((dr_bind h2).trans rfl)
theorem op_55 : dGood 55 (ev_u1 (.lstore)) := gd_u1 fun _ _ _ _ _ h1 h2 => (dr_bind h1).trans ((dr_bind h2).trans rfl)
theorem op_58 : dGood 58 (ev_u1 (.astore)) := gd_u1 fun _ _ _ _ _ h1 h2 => (dr_bind h1).trans ((dr_bind h2).trans rfl)
theorem op_59 : dGood 59 (ev_fix (.istore_n 0)) := gd_fix fun _ _ _ h1 => (dr_bind h1).trans rfl
theorem op_60 : dGood 60 (ev_fix (.istore_n 1)) := gd_fix fun _ _ _ h1 => (dr_bind h1).trans rfl
theorem op_61 : dGood 61 (ev_fix (.istore_n 2)) := gd_fix fun _ _ _ h1 => (dr_bind h1).trans rfl
theorem op_62 : dGood 62 (ev_fix (.istore_n 3)) := gd_fix fun _ _ _ h1 => (dr_bind h1).trans rfl
theorem op_63 : dGood 63 (ev_fix (.lstore_n 0)) := gd_fix fun _ _ _ h1 => (dr_bind h1).trans rfl
theorem op_64 : dGood 64 (ev_fix (.lstore_n 1)) := gd_fix fun _ _ _ h1 => (dr_bind h1).trans rfl
theorem op_65 : dGood 65 (ev_fix (.lstore_n 2)) := gd_fix fun _ _ _ h1 => (dr_bind h1).trans rfl
theorem op_66 : dGood 66 (ev_fix (.lstore_n 3)) := gd_fix fun _ _ _ h1 => (dr_bind h1).trans rfl
theorem op_75 : dGood 75 (ev_fix (.astore_n 0)) := gd_fix fun _ _ _ h1 => (dr_bind h1).trans rfl
theorem op_76 : dGood 76 (ev_fix (.astore_n 1)) := gd_fix fun _ _ _ h1 => (dr_bind h1).trans rfl
theorem op_77 : dGood 77 (ev_fix (.astore_n 2)) := gd_fix fun _ _ _ h1 => (dr_bind h1).trans rfl
theorem op_78 : dGood 78 (ev_fix (.astore_n 3)) := gd_fix fun _ _ _ h1 => (dr_bind h1).trans rfl
theorem op_79 : dGood 79 (ev_fix (.iastore)) := gd_fix fun _ _ _ h1 => (dr_bind h1).trans rfl
theorem op_80 : dGood 80 (ev_fix (.lastore)) := gd_fix fun _ _ _ h1 => (dr_bind h1).trans rfl
theorem op_83 : dGood 83 (ev_fix (.aastore)) := gd_fix fun _ _ _ h1 => (dr_bind h1).trans rfl
theorem op_87 : dGood 87 (ev_fix (.pop)) := gd_fix fun _ _ _ h1 => (dr_bind h1).trans rfl
theorem op_88 : dGood 88 (ev_fix (.pop2)) := gd_fix fun _ _ _ h1 => (dr_bind h1).trans rfl
theorem op_89 : dGood 89 (ev_fix (.dup)) := gd_fix fun _ _ _ h1 => (dr_bind h1).trans rfl
theorem op_92 : dGood 92 (ev_fix (.dup2)) := gd_fix fun _ _ _ h1 => (dr_bind h1).trans rfl
theorem op_96 : dGood 96 (ev_fix (.iadd)) := gd_fix fun _ _ _ h1 => (dr_bind h1).trans rfl
theorem op_97 : dGood 97 (ev_fix (.ladd)) := gd_fix fun _ _ _ h1 => (dr_bind h1).trans rfl
theorem op_100 : dGood 100 (ev_fix (.isub)) := gd_fix fun _ _ _ h1 => (dr_bind h1).trans rfl
theorem op_101 : dGood 101 (ev_fix (.lsub)) := gd_fix fun _ _ _ h1 => (dr_bind h1).trans rfl
theorem op_104 : dGood 104 (ev_fix (.imul)) := gd_fix fun _ _ _ h1 => (dr_bind h1).trans rfl
theorem op_105 : dGood 105 (ev_fix (.lmul)) := gd_fix fun _ _ _ h1 => (dr_bind h1).trans rfl
theorem op_108 : dGood 108 (ev_fix (.idiv)) := gd_fix fun _ _ _ h1 => (dr_bind h1).trans rfl
theorem op_109 : dGood 109 (ev_fix (.ldiv)) := gd_fix fun _ _ _ h1 => (dr_bind h1).trans rfl
theorem op_112 : dGood 112 (ev_fix (.irem)) := gd_fix fun _ _ _ h1 => (dr_bind h1).trans rfl
theorem op_113 : dGood 113 (ev_fix (.lrem)) := gd_fix fun _ _ _ h1 => (dr_bind h1).trans rfl
theorem op_116 : dGood 116 (ev_fix (.ineg)) := gd_fix fun _ _ _ h1 => (dr_bind h1).trans rfl
theorem op_120 : dGood 120 (ev_fix (.ishl)) := gd_fix fun _ _ _ h1 => (dr_bind h1).trans rfl
theorem op_121 : dGood 121 (ev_fix (.lshl)) := gd_fix fun _ _ _ h1 => (dr_bind h1).trans rfl
theorem op_122 : dGood 122 (ev_fix (.ishr)) := gd_fix fun _ _ _ h1 => (dr_bind h1).trans rfl
theorem op_123 : dGood 123 (ev_fix (.lshr)) := gd_fix fun _ _ _ h1 => (dr_bind h1).trans rfl
theorem op_126 : dGood 126 (ev_fix (.iand)) := gd_fix fun _ _ _ h1 => (dr_bind h1).trans rfl
theorem op_127 : dGood 127 (ev_fix (.land)) := gd_fix fun _ _ _ h1 => (dr_bind h1).trans rfl
theorem op_128 : dGood 128 (ev_fix (.ior)) := gd_fix fun _ _ _ h1 => (dr_bind h1).trans rfl
theorem op_129 : dGood 129 (ev_fix (.lor)) := gd_fix fun _ _ _ h1 => (dr_bind h1).trans rfl
theorem op_132 : dGood 132 (ev_us .iinc) := gd_us fun _ _ _ _ _ _ _ h1 h2 h3 => (dr_bind h1).trans ((dr_bind h2).trans ((dr_bind h3).trans rfl))
theorem op_133 : dGood 133 (ev_fix (.i2l)) := gd_fix fun _ _ _ h1 => (dr_bind h1).trans rfl
theorem op_136 : dGood 136 (ev_fix (.l2i)) := gd_fix fun _ _ _ h1 => (dr_bind h1).trans rfl
theorem op_148 : dGood 148 (ev_fix (.lcmp)) := gd_fix fun _ _ _ h1 => (dr_bind h1).trans rfl
theorem op_153 : dGood 153 (ev_s2 (.ifCond .eq)) := gd_s2 fun _ _ _ _ _ h1 h2 => (dr_bind h1).trans ((dr_bind h2).trans rfl)
theorem op_154 : dGood 154 (ev_s2 (.ifCond .ne)) := gd_s2 fun _ _ _ _ _ h1 h2 => (dr_bind h1).trans ((dr_bind h2).trans rfl)
theorem op_155 : dGood 155 (ev_s2 (.ifCond .lt)) := gd_s2 fun _ _ _ _ _ h1 h2 => (dr_bind h1).trans ((dr_bind h2).trans rfl)
theorem op_156 : dGood 156 (ev_s2 (.ifCond .ge)) := gd_s2 fun _ _ _ _ _ h1 h2 => (dr_bind h1).trans ((dr_bind h2).trans rfl)
theorem op_157 : dGood 157 (ev_s2 (.ifCond .gt)) := gd_s2 fun _ _ _ _ _ h1 h2 => (dr_bind h1).trans ((dr_bind h2).trans rfl)
theorem op_158 : dGood 158 (ev_s2 (.ifCond .le)) := gd_s2 fun _ _ _ _ _ h1 h2 => (dr_bind h1).trans ((dr_bind h2).trans rfl)
theorem op_159 : dGood 159 (ev_s2 (.if_icmp .eq)) := gd_s2 fun _ _ _ _ _ h1 h2 => (dr_bind h1).trans ((dr_bind h2).trans rfl)
theorem op_160 : dGood 160 (ev_s2 (.if_icmp .ne)) := gd_s2 fun _ _ _ _ _ h1 h2 => (dr_bind h1).trans ((dr_bind h2).trans rfl)
theorem op_161 : dGood 161 (ev_s2 (.if_icmp .lt)) := gd_s2 fun _ _ _ _ _ h1 h2 => (dr_bind h1).trans ((dr_bind h2).trans rfl)
theorem op_162 : dGood 162 (ev_s2 (.if_icmp .ge)) := gd_s2 fun _ _ _ _ _ h1 h2 => (dr_bind h1).trans ((dr_bind h2).trans rfl)
theorem op_163 : dGood 163 (ev_s2 (.if_icmp .gt)) := gd_s2 fun _ _ _ _ _ h1 h2 => (dr_bind h1).trans ((dr_bind h2).trans rfl)
theorem op_164 : dGood 164 (ev_s2 (.if_icmp .le)) := gd_s2 fun _ _ _ _ _ h1 h2 => (dr_bind h1).trans ((dr_bind h2).trans rfl)
theorem op_167 : dGood 167 (ev_s2 (.goto)) := gd_s2 fun _ _ _ _ _ h1 h2 => (dr_bind h1).trans ((dr_bind h2).trans rfl)
theorem op_172 : dGood 172 (ev_fix (.ireturn)) := gd_fix fun _ _ _ h1 => (dr_bind h1).trans rfl
theorem op_173 : dGood 173 (ev_fix (.lreturn)) := gd_fix fun _ _ _ h1 => (dr_bind h1).trans rfl
theorem op_176 : dGood 176 (ev_fix (.areturn)) := gd_fix fun _ _ _ h1 => (dr_bind h1).trans rfl
theorem op_177 : dGood 177 (ev_fix (.return_)) := gd_fix fun _ _ _ h1 => (dr_bind h1).trans rfl
theorem op_180 : dGood 180 (ev_u2 (.getfield)) := gd_u2 fun _ _ _ _ _ h1 h2 => (dr_bind h1).trans ((dr_bind h2).trans rfl)
theorem op_181 : dGood 181 (ev_u2 (.putfield)) := gd_u2 fun _ _ _ _ _ h1 h2 => (dr_bind h1).trans ((dr_bind h2).trans rfl)
theorem op_182 : dGood 182 (ev_u2 (.invokevirtual)) := gd_u2 fun _ _ _ _ _ h1 h2 => (dr_bind h1).trans ((dr_bind h2).trans rfl)
theorem op_183 : dGood 183 (ev_u2 (.invokespecial)) := gd_u2 fun _ _ _ _ _ h1 h2 => (dr_bind h1).trans ((dr_bind h2).trans rfl)
theorem op_184 : dGood 184 (ev_u2 (.invokestatic)) := gd_u2 fun _ _ _ _ _ h1 h2 => (dr_bind h1).trans ((dr_bind h2).trans rfl)
theorem op_187 : dGood 187 (ev_u2 (.new)) := gd_u2 fun _ _ _ _ _ h1 h2 => (dr_bind h1).trans ((dr_bind h2).trans rfl)
theorem op_189 : dGood 189 (ev_u2 (.anewarray)) := gd_u2 fun _ _ _ _ _ h1 h2 => (dr_bind h1).trans ((dr_bind h2).trans rfl)
theorem op_190 : dGood 190 (ev_fix (.arraylength)) := gd_fix fun _ _ _ h1 => (dr_bind h1).trans rfl
def dTr (k : Nat) : dV := (bif Nat.ble 88 k then (bif Nat.ble 148 k then (bif Nat.ble 167 k then (bif Nat.ble 181 k then (bif Nat.ble 184 k then (bif Nat.ble 189 k then (bif Nat.ble 190 k then (bif Nat.beq k 190 then ev_fix (.arraylength) else fun _ => none) else (bif Nat.beq k 189 then ev_u2 (.anewarray) else fun _ => none)) else (bif Nat.ble 187 k then (bif Nat.beq k 187 then ev_u2 (.new) else fun _ => none) else (bif Nat.beq k 184 then ev_u2 (.invokestatic) else fun _ => none))) else (bif Nat.ble 182 k then (bif Nat.ble 183 k then (bif Nat.beq k 183 then ev_u2 (.invokespecial) else fun _ => none) else (bif Nat.beq k 182 then ev_u2 (.invokevirtual) else fun _ => none)) else (bif Nat.beq k 181 then ev_u2 (.putfield) else fun _ => none))) else (bif Nat.ble 176 k then (bif Nat.ble 177 k then (bif Nat.ble 180 k then (bif Nat.beq k 180 then ev_u2 (.getfield) else fun _ => none) else (bif Nat.beq k 177 then ev_fix (.return_) else fun _ => none)) else (bif Nat.beq k 176 then ev_fix (.areturn) else fun _ => none)) else (bif Nat.ble 172 k then (bif Nat.ble 173 k then (bif Nat.beq k 173 then ev_fix (.lreturn) else fun _ => none) else (bif Nat.beq k 172 then ev_fix (.ireturn) else fun _ => none)) else (bif Nat.beq k 167 then ev_s2 (.goto) else fun _ => none)))) else (bif Nat.ble 158 k then (bif Nat.ble 161 k then (bif Nat.ble 163 k then (bif Nat.ble 164 k then (bif Nat.beq k 164 then ev_s2 (.if_icmp .le) else fun _ => none) else (bif Nat.beq k 163 then ev_s2 (.if_icmp .gt) else fun _ => none)) else (bif Nat.ble 162 k then (bif Nat.beq k 162 then ev_s2 (.if_icmp .ge) else fun _ => none) else (bif Nat.beq k 161 then ev_s2 (.if_icmp .lt) else fun _ => none))) else (bif Nat.ble 159 k then (bif Nat.ble 160 k then (bif Nat.beq k 160 then ev_s2 (.if_icmp .ne) else fun _ => none) else (bif Nat.beq k 159 then ev_s2 (.if_icmp .eq) else fun _ => none)) else (bif Nat.beq k 158 then ev_s2 (.ifCond .le) else fun _ => none))) else (bif Nat.ble 155 k then (bif Nat.ble 156 k then (bif Nat.ble 157 k then (bif Nat.beq k 157 then ev_s2 (.ifCond .gt) else fun _ => none) else (bif Nat.beq k 156 then ev_s2 (.ifCond .ge) else fun _ => none)) else (bif Nat.beq k 155 then ev_s2 (.ifCond .lt) else fun _ => none)) else (bif Nat.ble 153 k then (bif Nat.ble 154 k then (bif Nat.beq k 154 then ev_s2 (.ifCond .ne) else fun _ => none) else (bif Nat.beq k 153 then ev_s2 (.ifCond .eq) else fun _ => none)) else (bif Nat.beq k 148 then ev_fix (.lcmp) else fun _ => none))))) else (bif Nat.ble 113 k then (bif Nat.ble 126 k then (bif Nat.ble 129 k then (bif Nat.ble 133 k then (bif Nat.ble 136 k then (bif Nat.beq k 136 then ev_fix (.l2i) else fun _ => none) else (bif Nat.beq k 133 then ev_fix (.i2l) else fun _ => none)) else (bif Nat.ble 132 k then (bif Nat.beq k 132 then ev_us (.iinc) else fun _ => none) else (bif Nat.beq k 129 then ev_fix (.lor) else fun _ => none))) else (bif Nat.ble 127 k then (bif Nat.ble 128 k then (bif Nat.beq k 128 then ev_fix (.ior) else fun _ => none) else (bif Nat.beq k 127 then ev_fix (.land) else fun _ => none)) else (bif Nat.beq k 126 then ev_fix (.iand) else fun _ => none))) else (bif Nat.ble 121 k then (bif Nat.ble 122 k then (bif Nat.ble 123 k then (bif Nat.beq k 123 then ev_fix (.lshr) else fun _ => none) else (bif Nat.beq k 122 then ev_fix (.ishr) else fun _ => none)) else (bif Nat.beq k 121 then ev_fix (.lshl) else fun _ => none)) else (bif Nat.ble 116 k then (bif Nat.ble 120 k then (bif Nat.beq k 120 then ev_fix (.ishl) else fun _ => none) else (bif Nat.beq k 116 then ev_fix (.ineg) else fun _ => none)) else (bif Nat.beq k 113 then ev_fix (.lrem) else fun _ => none)))) else (bif Nat.ble 101 k then (bif Nat.ble 108 k then (bif Nat.ble 109 k then (bif Nat.ble 112 k then (bif Nat.beq k 112 then ev_fix (.irem) else fun _ => none) else (bif Nat.beq k 109 then ev_fix (.ldiv) else fun _ => none)) else (bif Nat.beq k 108 then ev_fix (.idiv) else fun _ => none)) else (bif Nat.ble 104 k then (bif Nat.ble 105 k then (bif Nat.beq k 105 then ev_fix (.lmul) else fun _ => none) else (bif Nat.beq k 104 then ev_fix (.imul) else fun _ => none)) else (bif Nat.beq k 101 then ev_fix (.lsub) else fun _ => none))) else (bif Nat.ble 96 k then (bif Nat.ble 97 k then (bif Nat.ble 100 k then (bif Nat.beq k 100 then ev_fix (.isub) else fun _ => none) else (bif Nat.beq k 97 then ev_fix (.ladd) else fun _ => none)) else (bif Nat.beq k 96 then ev_fix (.iadd) else fun _ => none)) else (bif Nat.ble 89 k then (bif Nat.ble 92 k then (bif Nat.beq k 92 then ev_fix (.dup2) else fun _ => none) else (bif Nat.beq k 89 then ev_fix (.dup) else fun _ => none)) else (bif Nat.beq k 88 then ev_fix (.pop2) else fun _ => none)))))) else (bif Nat.ble 42 k then (bif Nat.ble 62 k then (bif Nat.ble 76 k then (bif Nat.ble 79 k then (bif Nat.ble 83 k then (bif Nat.ble 87 k then (bif Nat.beq k 87 then ev_fix (.pop) else fun _ => none) else (bif Nat.beq k 83 then ev_fix (.aastore) else fun _ => none)) else (bif Nat.ble 80 k then (bif Nat.beq k 80 then ev_fix (.lastore) else fun _ => none) else (bif Nat.beq k 79 then ev_fix (.iastore) else fun _ => none))) else (bif Nat.ble 77 k then (bif Nat.ble 78 k then (bif Nat.beq k 78 then ev_fix (.astore_n 3) else fun _ => none) else (bif Nat.beq k 77 then ev_fix (.astore_n 2) else fun _ => none)) else (bif Nat.beq k 76 then ev_fix (.astore_n 1) else fun _ => none))) else (bif Nat.ble 65 k then (bif Nat.ble 66 k then (bif Nat.ble 75 k then (bif Nat.beq k 75 then ev_fix (.astore_n 0) else fun _ => none) else (bif Nat.beq k 66 then ev_fix (.lstore_n 3) else fun _ => none)) else (bif Nat.beq k 65 then ev_fix (.lstore_n 2) else fun _ => none)) else (bif Nat.ble 63 k then (bif Nat.ble 64 k then (bif Nat.beq k 64 then ev_fix (.lstore_n 1) else fun _ => none) else (bif Nat.beq k 63 then ev_fix (.lstore_n 0) else fun _ => none)) else (bif Nat.beq k 62 then ev_fix (.istore_n 3) else fun _ => none)))) else (bif Nat.ble 50 k then (bif Nat.ble 58 k then (bif Nat.ble 60 k then (bif Nat.ble 61 k then (bif Nat.beq k 61 then ev_fix (.istore_n 2) else fun _ => none) else (bif Nat.beq k 60 then ev_fix (.istore_n 1) else fun _ => none)) else (bif Nat.ble 59 k then (bif Nat.beq k 59 then ev_fix (.istore_n 0) else fun _ => none) else (bif Nat.beq k 58 then ev_u1 (.astore) else fun _ => none))) else (bif Nat.ble 54 k then (bif Nat.ble 55 k then (bif Nat.beq k 55 then ev_u1 (.lstore) else fun _ => none) else (bif Nat.beq k 54 then ev_u1 (.istore) else fun _ => none)) else (bif Nat.beq k 50 then ev_fix (.aaload) else fun _ => none))) else (bif Nat.ble 45 k then (bif Nat.ble 46 k then (bif Nat.ble 47 k then (bif Nat.beq k 47 then ev_fix (.laload) else fun _ => none) else (bif Nat.beq k 46 then ev_fix (.iaload) else fun _ => none)) else (bif Nat.beq k 45 then ev_fix (.aload_n 3) else fun _ => none)) else (bif Nat.ble 43 k then (bif Nat.ble 44 k then (bif Nat.beq k 44 then ev_fix (.aload_n 2) else fun _ => none) else (bif Nat.beq k 43 then ev_fix (.aload_n 1) else fun _ => none)) else (bif Nat.beq k 42 then ev_fix (.aload_n 0) else fun _ => none))))) else (bif Nat.ble 19 k then (bif Nat.ble 27 k then (bif Nat.ble 30 k then (bif Nat.ble 32 k then (bif Nat.ble 33 k then (bif Nat.beq k 33 then ev_fix (.lload_n 3) else fun _ => none) else (bif Nat.beq k 32 then ev_fix (.lload_n 2) else fun _ => none)) else (bif Nat.ble 31 k then (bif Nat.beq k 31 then ev_fix (.lload_n 1) else fun _ => none) else (bif Nat.beq k 30 then ev_fix (.lload_n 0) else fun _ => none))) else (bif Nat.ble 28 k then (bif Nat.ble 29 k then (bif Nat.beq k 29 then ev_fix (.iload_n 3) else fun _ => none) else (bif Nat.beq k 28 then ev_fix (.iload_n 2) else fun _ => none)) else (bif Nat.beq k 27 then ev_fix (.iload_n 1) else fun _ => none))) else (bif Nat.ble 22 k then (bif Nat.ble 25 k then (bif Nat.ble 26 k then (bif Nat.beq k 26 then ev_fix (.iload_n 0) else fun _ => none) else (bif Nat.beq k 25 then ev_u1 (.aload) else fun _ => none)) else (bif Nat.beq k 22 then ev_u1 (.lload) else fun _ => none)) else (bif Nat.ble 20 k then (bif Nat.ble 21 k then (bif Nat.beq k 21 then ev_u1 (.iload) else fun _ => none) else (bif Nat.beq k 20 then ev_u2 (.ldc2_w) else fun _ => none)) else (bif Nat.beq k 19 then ev_u2 (.ldc_w) else fun _ => none)))) else (bif Nat.ble 8 k then (bif Nat.ble 16 k then (bif Nat.ble 17 k then (bif Nat.ble 18 k then (bif Nat.beq k 18 then ev_u1 (.ldc) else fun _ => none) else (bif Nat.beq k 17 then ev_s2 (.sipush) else fun _ => none)) else (bif Nat.beq k 16 then ev_s1 (.bipush) else fun _ => none)) else (bif Nat.ble 9 k then (bif Nat.ble 10 k then (bif Nat.beq k 10 then ev_fix (.lconst 1) else fun _ => none) else (bif Nat.beq k 9 then ev_fix (.lconst 0) else fun _ => none)) else (bif Nat.beq k 8 then ev_fix (.iconst (5)) else fun _ => none))) else (bif Nat.ble 5 k then (bif Nat.ble 6 k then (bif Nat.ble 7 k then (bif Nat.beq k 7 then ev_fix (.iconst (4)) else fun _ => none) else (bif Nat.beq k 6 then ev_fix (.iconst (3)) else fun _ => none)) else (bif Nat.beq k 5 then ev_fix (.iconst (2)) else fun _ => none)) else (bif Nat.ble 3 k then (bif Nat.ble 4 k then (bif Nat.beq k 4 then ev_fix (.iconst (1)) else fun _ => none) else (bif Nat.beq k 3 then ev_fix (.iconst (0)) else fun _ => none)) else (bif Nat.beq k 2 then ev_fix (.iconst (-1)) else fun _ => none)))))))
theorem dTr_ok (k : Nat) : dGood k (dTr k) := by
  unfold dTr
  exact (gd_if (gd_if (gd_if (gd_if (gd_if (gd_if (gd_if (gd_leaf op_190) (gd_leaf op_189)) (gd_if (gd_leaf op_187) (gd_leaf op_184))) (gd_if (gd_if (gd_leaf op_183) (gd_leaf op_182)) (gd_leaf op_181))) (gd_if (gd_if (gd_if (gd_leaf op_180) (gd_leaf op_177)) (gd_leaf op_176)) (gd_if (gd_if (gd_leaf op_173) (gd_leaf op_172)) (gd_leaf op_167)))) (gd_if (gd_if (gd_if (gd_if (gd_leaf op_164) (gd_leaf op_163)) (gd_if (gd_leaf op_162) (gd_leaf op_161))) (gd_if (gd_if (gd_leaf op_160) (gd_leaf op_159)) (gd_leaf op_158))) (gd_if (gd_if (gd_if (gd_leaf op_157) (gd_leaf op_156)) (gd_leaf op_155)) (gd_if (gd_if (gd_leaf op_154) (gd_leaf op_153)) (gd_leaf op_148))))) (gd_if (gd_if (gd_if (gd_if (gd_if (gd_leaf op_136) (gd_leaf op_133)) (gd_if (gd_leaf op_132) (gd_leaf op_129))) (gd_if (gd_if (gd_leaf op_128) (gd_leaf op_127)) (gd_leaf op_126))) (gd_if (gd_if (gd_if (gd_leaf op_123) (gd_leaf op_122)) (gd_leaf op_121)) (gd_if (gd_if (gd_leaf op_120) (gd_leaf op_116)) (gd_leaf op_113)))) (gd_if (gd_if (gd_if (gd_if (gd_leaf op_112) (gd_leaf op_109)) (gd_leaf op_108)) (gd_if (gd_if (gd_leaf op_105) (gd_leaf op_104)) (gd_leaf op_101))) (gd_if (gd_if (gd_if (gd_leaf op_100) (gd_leaf op_97)) (gd_leaf op_96)) (gd_if (gd_if (gd_leaf op_92) (gd_leaf op_89)) (gd_leaf op_88)))))) (gd_if (gd_if (gd_if (gd_if (gd_if (gd_if (gd_leaf op_87) (gd_leaf op_83)) (gd_if (gd_leaf op_80) (gd_leaf op_79))) (gd_if (gd_if (gd_leaf op_78) (gd_leaf op_77)) (gd_leaf op_76))) (gd_if (gd_if (gd_if (gd_leaf op_75) (gd_leaf op_66)) (gd_leaf op_65)) (gd_if (gd_if (gd_leaf op_64) (gd_leaf op_63)) (gd_leaf op_62)))) (gd_if (gd_if (gd_if (gd_if (gd_leaf op_61) (gd_leaf op_60)) (gd_if (gd_leaf op_59) (gd_leaf op_58))) (gd_if (gd_if (gd_leaf op_55) (gd_leaf op_54)) (gd_leaf op_50))) (gd_if (gd_if (gd_if (gd_leaf op_47) (gd_leaf op_46)) (gd_leaf op_45)) (gd_if (gd_if (gd_leaf op_44) (gd_leaf op_43)) (gd_leaf op_42))))) (gd_if (gd_if (gd_if (gd_if (gd_if (gd_leaf op_33) (gd_leaf op_32)) (gd_if (gd_leaf op_31) (gd_leaf op_30))) (gd_if (gd_if (gd_leaf op_29) (gd_leaf op_28)) (gd_leaf op_27))) (gd_if (gd_if (gd_if (gd_leaf op_26) (gd_leaf op_25)) (gd_leaf op_22)) (gd_if (gd_if (gd_leaf op_21) (gd_leaf op_20)) (gd_leaf op_19)))) (gd_if (gd_if (gd_if (gd_if (gd_leaf op_18) (gd_leaf op_17)) (gd_leaf op_16)) (gd_if (gd_if (gd_leaf op_10) (gd_leaf op_9)) (gd_leaf op_8))) (gd_if (gd_if (gd_if (gd_leaf op_7) (gd_leaf op_6)) (gd_leaf op_5)) (gd_if (gd_if (gd_leaf op_4) (gd_leaf op_3)) (gd_leaf op_2)))))))
def dw_one (c : ByteArray) (p : Nat) (b : UInt8) (t : List UInt8) (x : Instr × Nat) : Bool := match dTr b.toNat t with
  | some y => decide (y = x)
  | none => decide (decode c p = .ok x)
theorem dw_one_ok {c : ByteArray} {p : Nat} {b : UInt8} {t : List UInt8} {x : Instr × Nat} (hd : c.data.toList.drop p = b :: t) (h : dw_one c p b t x = true) : decode c p = .ok x := by
  unfold dw_one at h
  cases hv : dTr b.toNat t with
  | some y =>
    rw [hv] at h
    have e : y = x := of_decide_eq_true h
    exact dTr_ok b.toNat c p b t hd rfl x (by rw [hv, e])
  | none =>
    rw [hv] at h
    exact of_decide_eq_true h
def dw_ok (c : ByteArray) : List (Nat × (Instr × Nat)) → Nat → List UInt8 → Bool
  | [], _, _ => true
  | (p, x) :: r, pos, s => Nat.ble pos p && match s.drop (p - pos) with
    | [] => false
    | b :: t => dw_one c p b t x && dw_ok c r p (b :: t)
def dk_P (c : ByteArray) : List (Nat × (Instr × Nat)) → Prop
  | [] => True
  | (p, x) :: r => decode c p = .ok x ∧ dk_P c r
theorem dw_all {c : ByteArray} : ∀ (l : List (Nat × (Instr × Nat))) (pos : Nat) (s : List UInt8), s = c.data.toList.drop pos → dw_ok c l pos s = true → dk_P c l
  | [], _, _, _, _ => trivial
  | (p, x) :: r, pos, s, hs, h => by
    unfold dw_ok at h
    rw [Bool.and_eq_true] at h
    have hp := Nat.le_of_ble_eq_true h.1
    have h2 := h.2
    cases hd : s.drop (p - pos) with
    | nil => rw [hd] at h2; simp at h2
    | cons b t =>
      rw [hd] at h2
      have hdr : c.data.toList.drop p = b :: t := by
        rw [← hd, hs, List.drop_drop]
        congr 1
        omega
      have h3 : (dw_one c p b t x && dw_ok c r p (b :: t)) = true := h2
      rw [Bool.and_eq_true] at h3
      exact ⟨dw_one_ok hdr h3.1, dw_all r p (b :: t) hdr.symm h3.2⟩
theorem dk_of {c : ByteArray} {l : List (Nat × (Instr × Nat))} (s0 : Nat) (h : dw_ok c l s0 (c.data.toList.drop s0) = true) : dk_P c l := dw_all l s0 _ rfl h
