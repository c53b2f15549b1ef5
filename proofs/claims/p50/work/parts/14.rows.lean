section
/-! the words that a call keeps; what they say of fields and methods -/
/-- the words of the tables that a call keeps -/
def TB : List Cond := lw_tbl.filter goodWord
theorem tb_in {w : Cond} (i : Nat) (h : lw_tbl[i]? = some w) (g : goodWord w = true) : w ∈ TB := List.mem_filter.mpr ⟨List.mem_of_getElem? h, g⟩
theorem tb_good {w : Cond} (h : w ∈ TB) : goodWord w = true := (List.mem_filter.mp h).2
/-- a field by a pool number: the class's number, the slot -/
def FL (own : String) (ix ci k : Nat) : Prop := ∃ (D : String) (T : u_T) (N : Nat), vwCl[ci]? = some (D, T, N) ∧ k < N ∧ (∀ w ∈ u_ws D T N, w ∈ TB) ∧ Cond.fieldLink own ix (T k).1 (T k).2.1 (T k).2.2.1 ∈ TB
/-- a field that is written, of a type -/
def FP (own : String) (ix ci k : Nat) (ty : FieldType) : Prop := ∃ (D : String) (T : u_T) (N : Nat) (ty0 : Nat → FieldType), vwCl[ci]? = some (D, T, N) ∧ k < N ∧ (∀ w ∈ u_ws D T N, w ∈ TB) ∧ Cond.fieldLink own ix (T k).1 (T k).2.1 (T k).2.2.1 ∈ TB ∧ (∀ j, j < N → parseFieldDescriptor (T j).2.2.1 = some (ty0 j)) ∧ (∀ a, a < N → ∀ b, b < N → a ≠ b → (T a).2.1 ≠ (T b).2.1) ∧ (T k).2.2.2 = false ∧ parseFieldDescriptor (T k).2.2.1 = some ty
/-- a method's own facts: its class is there, its code, how many arguments -/
def MF (y : MethodName) (bytes : ByteArray) (maxL : Nat) (ret : Option FieldType) (np : Nat) : Prop := Cond.initialized y.cls ∈ TB ∧ Cond.code y bytes maxL ret ∈ TB ∧ (y.cls ≠ "java/lang/invoke/MethodHandle" ∧ y.cls ≠ "java/lang/invoke/VarHandle") ∧ (parseMethodDescriptor y.desc).map (fun d => d.parameters.length) = some np
end
section
theorem tn_RX0 : RX0 ≠ "java/lang/invoke/MethodHandle" ∧ RX0 ≠ "java/lang/invoke/VarHandle" := by decide +kernel
theorem tp_0 : (parseMethodDescriptor "()V").map (fun d => d.parameters.length) = some 0 := by decide +kernel
theorem tp_1 : (parseMethodDescriptor "(LMarkToBoard$Jumper;)I").map (fun d => d.parameters.length) = some 1 := by decide +kernel
theorem tp_2 : (parseMethodDescriptor "(LMarkToBoard$Jumper;II)I").map (fun d => d.parameters.length) = some 3 := by decide +kernel
theorem tp_3 : (parseMethodDescriptor "(LMarkToBoard$Jumper;III)I").map (fun d => d.parameters.length) = some 4 := by decide +kernel
theorem tn_RX1 : RX1 ≠ "java/lang/invoke/MethodHandle" ∧ RX1 ≠ "java/lang/invoke/VarHandle" := by decide +kernel
theorem tp_4 : (parseMethodDescriptor "(LMarkToBoard$Jumper;IIII)V").map (fun d => d.parameters.length) = some 5 := by decide +kernel
theorem tp_5 : (parseMethodDescriptor "(LMarkToBoard$Jumper;IIIIJ)V").map (fun d => d.parameters.length) = some 6 := by decide +kernel
theorem tp_6 : (parseMethodDescriptor "()J").map (fun d => d.parameters.length) = some 0 := by decide +kernel
theorem tp_7 : (parseMethodDescriptor "(I)J").map (fun d => d.parameters.length) = some 1 := by decide +kernel
theorem tp_8 : (parseMethodDescriptor "(J)I").map (fun d => d.parameters.length) = some 1 := by decide +kernel
theorem tn_RX2 : RX2 ≠ "java/lang/invoke/MethodHandle" ∧ RX2 ≠ "java/lang/invoke/VarHandle" := by decide +kernel
theorem tp_9 : (parseMethodDescriptor "(LMarkToBoard$Kind;)V").map (fun d => d.parameters.length) = some 1 := by decide +kernel
theorem tp_10 : (parseMethodDescriptor "(LMarkToBoard$Jumper;)V").map (fun d => d.parameters.length) = some 1 := by decide +kernel
theorem tp_11 : (parseMethodDescriptor "(I)I").map (fun d => d.parameters.length) = some 1 := by decide +kernel
theorem tp_12 : (parseMethodDescriptor "(II)I").map (fun d => d.parameters.length) = some 2 := by decide +kernel
theorem tn_RX3 : RX3 ≠ "java/lang/invoke/MethodHandle" ∧ RX3 ≠ "java/lang/invoke/VarHandle" := by decide +kernel
theorem tn_RX4 : RX4 ≠ "java/lang/invoke/MethodHandle" ∧ RX4 ≠ "java/lang/invoke/VarHandle" := by decide +kernel
theorem tn_RX5 : RX5 ≠ "java/lang/invoke/MethodHandle" ∧ RX5 ≠ "java/lang/invoke/VarHandle" := by decide +kernel
theorem tp_13 : (parseMethodDescriptor "(LMarkToBoard$Meet;)V").map (fun d => d.parameters.length) = some 1 := by decide +kernel
theorem tp_14 : (parseMethodDescriptor "(I)LMarkToBoard$Jumper;").map (fun d => d.parameters.length) = some 1 := by decide +kernel
theorem tp_15 : (parseMethodDescriptor "()I").map (fun d => d.parameters.length) = some 0 := by decide +kernel
theorem tp_16 : (parseMethodDescriptor "(LMarkToBoard$Ranking;)I").map (fun d => d.parameters.length) = some 1 := by decide +kernel
theorem tp_17 : (parseMethodDescriptor "(III)I").map (fun d => d.parameters.length) = some 3 := by decide +kernel
theorem tp_18 : (parseMethodDescriptor "(LMarkToBoard$Ranking;II)V").map (fun d => d.parameters.length) = some 3 := by decide +kernel
theorem tn_RX6 : RX6 ≠ "java/lang/invoke/MethodHandle" ∧ RX6 ≠ "java/lang/invoke/VarHandle" := by decide +kernel
theorem tp_19 : (parseMethodDescriptor "(I)V").map (fun d => d.parameters.length) = some 1 := by decide +kernel
theorem tp_20 : (parseMethodDescriptor "(II)V").map (fun d => d.parameters.length) = some 2 := by decide +kernel
theorem tn_RX7 : RX7 ≠ "java/lang/invoke/MethodHandle" ∧ RX7 ≠ "java/lang/invoke/VarHandle" := by decide +kernel
theorem tn_RX8 : RX8 ≠ "java/lang/invoke/MethodHandle" ∧ RX8 ≠ "java/lang/invoke/VarHandle" := by decide +kernel
theorem tn_RX9 : RX9 ≠ "java/lang/invoke/MethodHandle" ∧ RX9 ≠ "java/lang/invoke/VarHandle" := by decide +kernel
theorem tn_RX10 : RX10 ≠ "java/lang/invoke/MethodHandle" ∧ RX10 ≠ "java/lang/invoke/VarHandle" := by decide +kernel
theorem tp_21 : (parseMethodDescriptor "(I)Z").map (fun d => d.parameters.length) = some 1 := by decide +kernel
theorem tp_22 : (parseMethodDescriptor "(ZI)Z").map (fun d => d.parameters.length) = some 2 := by decide +kernel
theorem tp_23 : (parseMethodDescriptor "(JJI)J").map (fun d => d.parameters.length) = some 3 := by decide +kernel
theorem tp_24 : (parseMethodDescriptor "(LMarkToBoard$Jumper;I)V").map (fun d => d.parameters.length) = some 2 := by decide +kernel
theorem tp_25 : (parseMethodDescriptor "(III)J").map (fun d => d.parameters.length) = some 3 := by decide +kernel
theorem tp_26 : (parseMethodDescriptor "(IIII)I").map (fun d => d.parameters.length) = some 4 := by decide +kernel
theorem tp_27 : (parseMethodDescriptor "(II)J").map (fun d => d.parameters.length) = some 2 := by decide +kernel
theorem tp_28 : (parseMethodDescriptor "([III)V").map (fun d => d.parameters.length) = some 3 := by decide +kernel
theorem tn_RX11 : RX11 ≠ "java/lang/invoke/MethodHandle" ∧ RX11 ≠ "java/lang/invoke/VarHandle" := by decide +kernel
theorem tp_29 : (parseMethodDescriptor "(III)Z").map (fun d => d.parameters.length) = some 3 := by decide +kernel
theorem tp_30 : (parseMethodDescriptor "(II)Z").map (fun d => d.parameters.length) = some 2 := by decide +kernel
theorem tp_31 : (parseMethodDescriptor "()Z").map (fun d => d.parameters.length) = some 0 := by decide +kernel
theorem tp_32 : (parseMethodDescriptor "([I)V").map (fun d => d.parameters.length) = some 1 := by decide +kernel
theorem tp_33 : (parseMethodDescriptor "(IZ)V").map (fun d => d.parameters.length) = some 2 := by decide +kernel
theorem tp_34 : (parseMethodDescriptor "([JI)V").map (fun d => d.parameters.length) = some 2 := by decide +kernel
theorem tp_35 : (parseMethodDescriptor "(IIII)J").map (fun d => d.parameters.length) = some 4 := by decide +kernel
theorem tp_36 : (parseMethodDescriptor "(IIIII)I").map (fun d => d.parameters.length) = some 5 := by decide +kernel
theorem tp_37 : (parseMethodDescriptor "(JJ)J").map (fun d => d.parameters.length) = some 2 := by decide +kernel
theorem tp_38 : (parseMethodDescriptor "(III)V").map (fun d => d.parameters.length) = some 3 := by decide +kernel
theorem tp_39 : (parseMethodDescriptor "(II[J)V").map (fun d => d.parameters.length) = some 3 := by decide +kernel
theorem tp_40 : (parseMethodDescriptor "(J)J").map (fun d => d.parameters.length) = some 1 := by decide +kernel
theorem tn_RJ9 : RJ9 ≠ "java/lang/invoke/MethodHandle" ∧ RJ9 ≠ "java/lang/invoke/VarHandle" := by decide +kernel
theorem tn_RJ7 : RJ7 ≠ "java/lang/invoke/MethodHandle" ∧ RJ7 ≠ "java/lang/invoke/VarHandle" := by decide +kernel
theorem tp_41 : (parseMethodDescriptor "([JJ)V").map (fun d => d.parameters.length) = some 2 := by decide +kernel
theorem tp_42 : (parseMethodDescriptor "([II)V").map (fun d => d.parameters.length) = some 2 := by decide +kernel
theorem pn_RJ7 : plainName RJ7 = true := by decide +kernel
theorem pn_RX0 : plainName RX0 = true := by decide +kernel
theorem pn_RX1 : plainName RX1 = true := by decide +kernel
theorem pn_RX10 : plainName RX10 = true := by decide +kernel
theorem pn_RX11 : plainName RX11 = true := by decide +kernel
theorem pn_RX2 : plainName RX2 = true := by decide +kernel
theorem pn_RX3 : plainName RX3 = true := by decide +kernel
theorem pn_RX4 : plainName RX4 = true := by decide +kernel
theorem pn_RX5 : plainName RX5 = true := by decide +kernel
theorem pn_RX6 : plainName RX6 = true := by decide +kernel
theorem pn_RX7 : plainName RX7 = true := by decide +kernel
theorem pn_RX8 : plainName RX8 = true := by decide +kernel
theorem pn_RX9 : plainName RX9 = true := by decide +kernel
end
section
/-- what the tables' words are good for, one behind the other -/
noncomputable abbrev tk_AM (l : List Cond) : Prop := List.rec (motive := fun _ => Prop) True (fun a _ ih => (goodWord a = true → a ∈ TB) ∧ ih) l
theorem tk_am : ∀ l : List Cond, (∀ x, x ∈ l → x ∈ lw_tbl) → tk_AM l
  | [], _ => trivial
  | a :: l, h => ⟨fun hg => List.mem_filter.mpr ⟨h a (List.mem_cons_self ..), hg⟩, tk_am l (fun x hx => h x (List.mem_cons_of_mem _ hx))⟩
theorem tk_0 : tk_AM (k2_sels lw_privs) := tk_am _ fun _ h => List.mem_append_left _ h
theorem tk_1 : tk_AM tables_1_1 := tk_am _ fun _ h => List.mem_append_right _ (List.mem_append_left _ h)
theorem tk_2 : tk_AM tables_1_2 := tk_am _ fun _ h => List.mem_append_right _ (List.mem_append_right _ (List.mem_append_left _ h))
theorem tk_3 : tk_AM tables_1_3 := tk_am _ fun _ h => List.mem_append_right _ (List.mem_append_right _ (List.mem_append_right _ (List.mem_append_left _ h)))
theorem tk_4 : tk_AM tables_1_4 := tk_am _ fun _ h => List.mem_append_right _ (List.mem_append_right _ (List.mem_append_right _ (List.mem_append_right _ (List.mem_append_left _ h))))
theorem tk_5 : tk_AM tables_1_5 := tk_am _ fun _ h => List.mem_append_right _ (List.mem_append_right _ (List.mem_append_right _ (List.mem_append_right _ (List.mem_append_right _ (List.mem_append_left _ h)))))
theorem tk_6 : tk_AM tables_1_6 := tk_am _ fun _ h => List.mem_append_right _ (List.mem_append_right _ (List.mem_append_right _ (List.mem_append_right _ (List.mem_append_right _ (List.mem_append_right _ h)))))
def ts_0_1 := tk_0.2.2.2.2.2.2.2.2.2.2.2.2.2.2.2.2
def ts_0_2 := ts_0_1.2.2.2.2.2.2.2.2.2.2.2.2.2.2.2.2
def ts_0_3 := ts_0_2.2.2.2.2.2.2.2.2.2.2.2.2.2.2.2.2
def ts_0_4 := ts_0_3.2.2.2.2.2.2.2.2.2.2.2.2.2.2.2.2
def ts_0_5 := ts_0_4.2.2.2.2.2.2.2.2.2.2.2.2.2.2.2.2
def ts_1_1 := tk_1.2.2.2.2.2.2.2.2.2.2.2.2.2.2.2.2
def ts_1_2 := ts_1_1.2.2.2.2.2.2.2.2.2.2.2.2.2.2.2.2
def ts_1_3 := ts_1_2.2.2.2.2.2.2.2.2.2.2.2.2.2.2.2.2
def ts_1_4 := ts_1_3.2.2.2.2.2.2.2.2.2.2.2.2.2.2.2.2
def ts_1_5 := ts_1_4.2.2.2.2.2.2.2.2.2.2.2.2.2.2.2.2
def ts_1_6 := ts_1_5.2.2.2.2.2.2.2.2.2.2.2.2.2.2.2.2
def ts_1_7 := ts_1_6.2.2.2.2.2.2.2.2.2.2.2.2.2.2.2.2
def ts_1_8 := ts_1_7.2.2.2.2.2.2.2.2.2.2.2.2.2.2.2.2
def ts_1_9 := ts_1_8.2.2.2.2.2.2.2.2.2.2.2.2.2.2.2.2
def ts_1_10 := ts_1_9.2.2.2.2.2.2.2.2.2.2.2.2.2.2.2.2
def ts_1_11 := ts_1_10.2.2.2.2.2.2.2.2.2.2.2.2.2.2.2.2
def ts_1_12 := ts_1_11.2.2.2.2.2.2.2.2.2.2.2.2.2.2.2.2
def ts_1_13 := ts_1_12.2.2.2.2.2.2.2.2.2.2.2.2.2.2.2.2
def ts_1_14 := ts_1_13.2.2.2.2.2.2.2.2.2.2.2.2.2.2.2.2
def ts_2_1 := tk_2.2.2.2.2.2.2.2.2.2.2.2.2.2.2.2.2
def ts_2_2 := ts_2_1.2.2.2.2.2.2.2.2.2.2.2.2.2.2.2.2
def ts_2_3 := ts_2_2.2.2.2.2.2.2.2.2.2.2.2.2.2.2.2.2
def ts_2_4 := ts_2_3.2.2.2.2.2.2.2.2.2.2.2.2.2.2.2.2
def ts_2_5 := ts_2_4.2.2.2.2.2.2.2.2.2.2.2.2.2.2.2.2
def ts_2_6 := ts_2_5.2.2.2.2.2.2.2.2.2.2.2.2.2.2.2.2
def ts_2_7 := ts_2_6.2.2.2.2.2.2.2.2.2.2.2.2.2.2.2.2
def ts_2_8 := ts_2_7.2.2.2.2.2.2.2.2.2.2.2.2.2.2.2.2
def ts_2_9 := ts_2_8.2.2.2.2.2.2.2.2.2.2.2.2.2.2.2.2
def ts_2_10 := ts_2_9.2.2.2.2.2.2.2.2.2.2.2.2.2.2.2.2
def ts_2_11 := ts_2_10.2.2.2.2.2.2.2.2.2.2.2.2.2.2.2.2
def ts_2_12 := ts_2_11.2.2.2.2.2.2.2.2.2.2.2.2.2.2.2.2
def ts_2_13 := ts_2_12.2.2.2.2.2.2.2.2.2.2.2.2.2.2.2.2
def ts_2_14 := ts_2_13.2.2.2.2.2.2.2.2.2.2.2.2.2.2.2.2
def ts_3_1 := tk_3.2.2.2.2.2.2.2.2.2.2.2.2.2.2.2.2
def ts_3_2 := ts_3_1.2.2.2.2.2.2.2.2.2.2.2.2.2.2.2.2
def ts_3_3 := ts_3_2.2.2.2.2.2.2.2.2.2.2.2.2.2.2.2.2
def ts_3_4 := ts_3_3.2.2.2.2.2.2.2.2.2.2.2.2.2.2.2.2
def ts_3_5 := ts_3_4.2.2.2.2.2.2.2.2.2.2.2.2.2.2.2.2
def ts_3_6 := ts_3_5.2.2.2.2.2.2.2.2.2.2.2.2.2.2.2.2
def ts_3_7 := ts_3_6.2.2.2.2.2.2.2.2.2.2.2.2.2.2.2.2
def ts_3_8 := ts_3_7.2.2.2.2.2.2.2.2.2.2.2.2.2.2.2.2
def ts_3_9 := ts_3_8.2.2.2.2.2.2.2.2.2.2.2.2.2.2.2.2
def ts_3_10 := ts_3_9.2.2.2.2.2.2.2.2.2.2.2.2.2.2.2.2
def ts_3_11 := ts_3_10.2.2.2.2.2.2.2.2.2.2.2.2.2.2.2.2
def ts_3_12 := ts_3_11.2.2.2.2.2.2.2.2.2.2.2.2.2.2.2.2
def ts_3_13 := ts_3_12.2.2.2.2.2.2.2.2.2.2.2.2.2.2.2.2
def ts_3_14 := ts_3_13.2.2.2.2.2.2.2.2.2.2.2.2.2.2.2.2
def ts_4_1 := tk_4.2.2.2.2.2.2.2.2.2.2.2.2.2.2.2.2
def ts_4_2 := ts_4_1.2.2.2.2.2.2.2.2.2.2.2.2.2.2.2.2
def ts_4_3 := ts_4_2.2.2.2.2.2.2.2.2.2.2.2.2.2.2.2.2
def ts_4_4 := ts_4_3.2.2.2.2.2.2.2.2.2.2.2.2.2.2.2.2
def ts_4_5 := ts_4_4.2.2.2.2.2.2.2.2.2.2.2.2.2.2.2.2
def ts_4_6 := ts_4_5.2.2.2.2.2.2.2.2.2.2.2.2.2.2.2.2
def ts_4_7 := ts_4_6.2.2.2.2.2.2.2.2.2.2.2.2.2.2.2.2
def ts_4_8 := ts_4_7.2.2.2.2.2.2.2.2.2.2.2.2.2.2.2.2
def ts_4_9 := ts_4_8.2.2.2.2.2.2.2.2.2.2.2.2.2.2.2.2
def ts_4_10 := ts_4_9.2.2.2.2.2.2.2.2.2.2.2.2.2.2.2.2
def ts_5_1 := tk_5.2.2.2.2.2.2.2.2.2.2.2.2.2.2.2.2
def ts_5_2 := ts_5_1.2.2.2.2.2.2.2.2.2.2.2.2.2.2.2.2
def ts_5_3 := ts_5_2.2.2.2.2.2.2.2.2.2.2.2.2.2.2.2.2
def ts_5_4 := ts_5_3.2.2.2.2.2.2.2.2.2.2.2.2.2.2.2.2
def ts_5_5 := ts_5_4.2.2.2.2.2.2.2.2.2.2.2.2.2.2.2.2
def ts_5_6 := ts_5_5.2.2.2.2.2.2.2.2.2.2.2.2.2.2.2.2
def ts_5_7 := ts_5_6.2.2.2.2.2.2.2.2.2.2.2.2.2.2.2.2
def ts_5_8 := ts_5_7.2.2.2.2.2.2.2.2.2.2.2.2.2.2.2.2
def ts_5_9 := ts_5_8.2.2.2.2.2.2.2.2.2.2.2.2.2.2.2.2
def ts_5_10 := ts_5_9.2.2.2.2.2.2.2.2.2.2.2.2.2.2.2.2
def ts_5_11 := ts_5_10.2.2.2.2.2.2.2.2.2.2.2.2.2.2.2.2
def ts_5_12 := ts_5_11.2.2.2.2.2.2.2.2.2.2.2.2.2.2.2.2
def ts_5_13 := ts_5_12.2.2.2.2.2.2.2.2.2.2.2.2.2.2.2.2
def ts_5_14 := ts_5_13.2.2.2.2.2.2.2.2.2.2.2.2.2.2.2.2
def ts_6_1 := tk_6.2.2.2.2.2.2.2.2.2.2.2.2.2.2.2.2
def ts_6_2 := ts_6_1.2.2.2.2.2.2.2.2.2.2.2.2.2.2.2.2
def ts_6_3 := ts_6_2.2.2.2.2.2.2.2.2.2.2.2.2.2.2.2.2
def ts_6_4 := ts_6_3.2.2.2.2.2.2.2.2.2.2.2.2.2.2.2.2
def ts_6_5 := ts_6_4.2.2.2.2.2.2.2.2.2.2.2.2.2.2.2.2
def ts_6_6 := ts_6_5.2.2.2.2.2.2.2.2.2.2.2.2.2.2.2.2
def ts_6_7 := ts_6_6.2.2.2.2.2.2.2.2.2.2.2.2.2.2.2.2
def ts_6_8 := ts_6_7.2.2.2.2.2.2.2.2.2.2.2.2.2.2.2.2
def ts_6_9 := ts_6_8.2.2.2.2.2.2.2.2.2.2.2.2.2.2.2.2
def ts_6_10 := ts_6_9.2.2.2.2.2.2.2.2.2.2.2.2.2.2.2.2
def ts_6_11 := ts_6_10.2.2.2.2.2.2.2.2.2.2.2.2.2.2.2.2
def ts_6_12 := ts_6_11.2.2.2.2.2.2.2.2.2.2.2.2.2.2.2.2
def ts_6_13 := ts_6_12.2.2.2.2.2.2.2.2.2.2.2.2.2.2.2.2
end
section
/-! FACTS, by program: what the tables say of fields, methods, links -/
theorem tb_ws {ws : List Cond} (ps : List Nat) (hp : ws = ps.filterMap (fun i => lw_tbl[i]?)) (h : ws.all goodWord = true) : ∀ w ∈ ws, w ∈ TB := by
  intro w hw
  have h1 := List.all_eq_true.mp h w hw
  rw [hp] at hw
  obtain ⟨i, -, hi⟩ := List.mem_filterMap.mp hw
  exact tb_in i hi h1
theorem wsin_X1 : ∀ w ∈ u_ws RX1 TX1 5, w ∈ TB := tb_ws [150, 152, 154, 156, 158] (by decide +kernel) (by decide +kernel)
theorem wsin_X2 : ∀ w ∈ u_ws RX2 TX2 9, w ∈ TB := tb_ws [243, 245, 247, 249, 251, 253, 255, 257, 259] (by decide +kernel) (by decide +kernel)
theorem wsin_X5 : ∀ w ∈ u_ws RX5 TX5 10, w ∈ TB := tb_ws [279, 281, 283, 285, 287, 289, 291, 293, 295, 297] (by decide +kernel) (by decide +kernel)
theorem wsin_X6 : ∀ w ∈ u_ws RX6 TX6 3, w ∈ TB := tb_ws [124, 126, 128] (by decide +kernel) (by decide +kernel)
theorem wsin_X10 : ∀ w ∈ u_ws RX10 TX10 18, w ∈ TB := tb_ws [320, 322, 324, 326, 328, 330, 332, 334, 336, 338, 340, 342, 344, 346, 348, 350, 352, 354] (by decide +kernel) (by decide +kernel)
theorem wsin_X11 : ∀ w ∈ u_ws RX11 TX11 41, w ∈ TB := tb_ws [975, 977, 979, 981, 983, 985, 987, 989, 991, 993, 995, 997, 999, 1001, 1003, 1005, 1007, 1009, 1011, 1013, 1015, 1017, 1019, 1021, 1023, 1025, 1027, 1029, 1031, 1033, 1035, 1037, 1039, 1041, 1043, 1045, 1047, 1049, 1051, 1053, 1055] (by decide +kernel) (by decide +kernel)
theorem mf_X0_init : MF yX0_init cX0_init 1 none 0 := ⟨(tk_1.2.2.2.2.2.2.1 rfl), (ts_1_5.2.2.2.2.2.2.2.2.2.2.1 rfl), tn_RX0, tp_0⟩
theorem im_X0_init : Cond.instanceMethod yX0_init ∈ TB := (ts_1_5.2.2.2.2.2.2.2.2.2.1 rfl)
theorem mf_X0_aimOf : MF yX0_aimOf cX0_aimOf 2 (some .int) 1 := ⟨(tk_1.2.2.2.2.2.2.1 rfl), (ts_2_12.2.2.2.2.2.2.2.2.2.2.2.1 rfl), tn_RX0, tp_1⟩
theorem im_X0_aimOf : Cond.instanceMethod yX0_aimOf ∈ TB := (ts_2_12.2.2.2.2.2.2.2.2.2.2.1 rfl)
theorem mf_X0_strideOf : MF yX0_strideOf cX0_strideOf 4 (some .int) 3 := ⟨(tk_1.2.2.2.2.2.2.1 rfl), (ts_3_1.2.1 rfl), tn_RX0, tp_2⟩
theorem im_X0_strideOf : Cond.instanceMethod yX0_strideOf ∈ TB := (ts_3_1.1 rfl)
theorem mf_X0_lengthOf : MF yX0_lengthOf cX0_lengthOf 5 (some .int) 4 := ⟨(tk_1.2.2.2.2.2.2.1 rfl), (ts_2_10.2.1 rfl), tn_RX0, tp_3⟩
theorem im_X0_lengthOf : Cond.instanceMethod yX0_lengthOf ∈ TB := (ts_2_10.1 rfl)
theorem mf_X1_init : MF yX1_init cX1_init 3 none 0 := ⟨(tk_1.2.2.2.1 rfl), (ts_1_2.2.2.2.2.2.2.2.2.2.2.2.2.2.2.2.1 rfl), tn_RX1, tp_0⟩
theorem im_X1_init : Cond.instanceMethod yX1_init ∈ TB := (ts_1_2.2.2.2.2.2.2.2.2.2.2.2.2.2.2.1 rfl)
theorem mf_X1_spread : MF yX1_spread cX1_spread 11 none 5 := ⟨(tk_1.2.2.2.1 rfl), (ts_3_4.2.2.2.2.1 rfl), tn_RX1, tp_4⟩
theorem im_X1_spread : Cond.instanceMethod yX1_spread ∈ TB := (ts_3_4.2.2.1 rfl)
theorem se_X1_spread : Cond.selects yX1_spread.cls yX1_spread yX1_spread ∈ TB := (ts_3_4.2.2.2.1 rfl)
theorem mf_X1_spreadLast : MF yX1_spreadLast cX1_spreadLast 13 none 6 := ⟨(tk_1.2.2.2.1 rfl), (ts_3_4.2.2.2.2.2.2.2.2.2.2.2.2.2.2.2.1 rfl), tn_RX1, tp_5⟩
theorem im_X1_spreadLast : Cond.instanceMethod yX1_spreadLast ∈ TB := (ts_3_4.2.2.2.2.2.2.2.2.2.2.2.2.2.2.1 rfl)
theorem se_X1_spreadLast : Cond.selects yX1_spreadLast.cls yX1_spreadLast yX1_spreadLast ∈ TB := (tk_0.2.2.2.2.2.2.2.2.2.2.2.2.2.2.1 rfl)
theorem mf_X1_meanWays : MF yX1_meanWays cX1_meanWays 4 (some .long) 0 := ⟨(tk_1.2.2.2.1 rfl), (ts_3_5.2.2.2.2.2.2.2.2.2.2.2.1 rfl), tn_RX1, tp_6⟩
theorem im_X1_meanWays : Cond.instanceMethod yX1_meanWays ∈ TB := (ts_3_5.2.2.2.2.2.2.2.2.2.1 rfl)
theorem se_X1_meanWays : Cond.selects yX1_meanWays.cls yX1_meanWays yX1_meanWays ∈ TB := (ts_3_5.2.2.2.2.2.2.2.2.2.2.1 rfl)
theorem mf_X1_waysPast : MF yX1_waysPast cX1_waysPast 5 (some .long) 1 := ⟨(tk_1.2.2.2.1 rfl), (ts_3_6.2.2.2.1 rfl), tn_RX1, tp_7⟩
theorem im_X1_waysPast : Cond.instanceMethod yX1_waysPast ∈ TB := (ts_3_6.2.1 rfl)
theorem se_X1_waysPast : Cond.selects yX1_waysPast.cls yX1_waysPast yX1_waysPast ∈ TB := (ts_3_6.2.2.1 rfl)
theorem mf_X1_share : MF yX1_share cX1_share 3 (some .int) 1 := ⟨(tk_1.2.2.2.1 rfl), (ts_3_11.2.2.2.2.2.2.2.1 rfl), tn_RX1, tp_8⟩
theorem im_X1_share : Cond.instanceMethod yX1_share ∈ TB := (ts_3_11.2.2.2.2.2.1 rfl)
theorem se_X1_share : Cond.selects yX1_share.cls yX1_share yX1_share ∈ TB := (ts_3_11.2.2.2.2.2.2.1 rfl)
theorem mf_X2_init : MF yX2_init cX2_init 2 none 1 := ⟨(tk_1.2.2.2.2.2.2.2.2.2.2.2.1 rfl), (ts_1_7.2.2.2.2.2.2.2.2.2.2.2.2.2.1 rfl), tn_RX2, tp_9⟩
theorem im_X2_init : Cond.instanceMethod yX2_init ∈ TB := (ts_1_7.2.2.2.2.2.2.2.2.2.2.2.2.1 rfl)
theorem mf_X2_copyFrom : MF yX2_copyFrom cX2_copyFrom 2 none 1 := ⟨(tk_1.2.2.2.2.2.2.2.2.2.2.2.1 rfl), (ts_2_4.1 rfl), tn_RX2, tp_10⟩
theorem im_X2_copyFrom : Cond.instanceMethod yX2_copyFrom ∈ TB := (ts_2_3.2.2.2.2.2.2.2.2.2.2.2.2.2.2.1 rfl)
theorem se_X2_copyFrom : Cond.selects yX2_copyFrom.cls yX2_copyFrom yX2_copyFrom ∈ TB := (ts_2_3.2.2.2.2.2.2.2.2.2.2.2.2.2.2.2.1 rfl)
theorem mf_X2_property : MF yX2_property cX2_property 2 (some .int) 1 := ⟨(tk_1.2.2.2.2.2.2.2.2.2.2.2.1 rfl), (ts_2_12.2.2.2.2.1 rfl), tn_RX2, tp_11⟩
theorem im_X2_property : Cond.instanceMethod yX2_property ∈ TB := (ts_2_12.2.2.1 rfl)
theorem se_X2_property : Cond.selects yX2_property.cls yX2_property yX2_property ∈ TB := (ts_2_12.2.2.2.1 rfl)
theorem mf_X2_path : MF yX2_path cX2_path 5 (some .int) 2 := ⟨(tk_1.2.2.2.2.2.2.2.2.2.2.2.1 rfl), (ts_3_2.2.2.2.2.2.2.2.2.2.2.2.1 rfl), tn_RX2, tp_12⟩
theorem im_X2_path : Cond.instanceMethod yX2_path ∈ TB := (ts_3_2.2.2.2.2.2.2.2.2.2.1 rfl)
theorem se_X2_path : Cond.selects yX2_path.cls yX2_path yX2_path ∈ TB := (ts_3_2.2.2.2.2.2.2.2.2.2.2.1 rfl)
theorem mf_X3_init : MF yX3_init cX3_init 1 none 0 := ⟨(tk_1.2.2.2.2.1 rfl), (ts_1_4.2.2.2.2.2.2.2.2.2.2.2.2.1 rfl), tn_RX3, tp_0⟩
theorem im_X3_init : Cond.instanceMethod yX3_init ∈ TB := (ts_1_4.2.2.2.2.2.2.2.2.2.2.2.1 rfl)
theorem mf_X3_aimOf : MF yX3_aimOf cX3_aimOf 2 (some .int) 1 := ⟨(tk_1.2.2.2.2.1 rfl), (ts_2_13.2.2.2.2.2.2.2.2.1 rfl), tn_RX3, tp_1⟩
theorem im_X3_aimOf : Cond.instanceMethod yX3_aimOf ∈ TB := (ts_2_12.2.2.2.2.2.2.1 rfl)
theorem se_X3_aimOf : Cond.selects yX3_aimOf.cls yX3_aimOf yX3_aimOf ∈ TB := (ts_2_12.2.2.2.2.2.2.2.1 rfl)
theorem mf_X3_strideOf : MF yX3_strideOf cX3_strideOf 4 (some .int) 3 := ⟨(tk_1.2.2.2.2.1 rfl), (ts_3_1.2.2.2.2.2.2.2.2.2.2.2.2.2.2.2.1 rfl), tn_RX3, tp_2⟩
theorem im_X3_strideOf : Cond.instanceMethod yX3_strideOf ∈ TB := (tk_3.2.2.2.2.2.2.2.2.2.2.2.2.1 rfl)
theorem se_X3_strideOf : Cond.selects yX3_strideOf.cls yX3_strideOf yX3_strideOf ∈ TB := (tk_3.2.2.2.2.2.2.2.2.2.2.2.2.2.1 rfl)
theorem mf_X3_lengthOf : MF yX3_lengthOf cX3_lengthOf 6 (some .int) 4 := ⟨(tk_1.2.2.2.2.1 rfl), (ts_2_11.2.2.1 rfl), tn_RX3, tp_3⟩
theorem im_X3_lengthOf : Cond.instanceMethod yX3_lengthOf ∈ TB := (ts_2_9.2.2.2.2.2.2.2.2.2.2.2.2.1 rfl)
theorem se_X3_lengthOf : Cond.selects yX3_lengthOf.cls yX3_lengthOf yX3_lengthOf ∈ TB := (ts_2_9.2.2.2.2.2.2.2.2.2.2.2.2.2.1 rfl)
theorem mf_X4_init : MF yX4_init cX4_init 1 none 0 := ⟨(tk_1.2.2.2.2.2.2.2.1 rfl), (ts_1_6.2.1 rfl), tn_RX4, tp_0⟩
theorem im_X4_init : Cond.instanceMethod yX4_init ∈ TB := (ts_1_6.1 rfl)
theorem mf_X4_aimOf : MF yX4_aimOf cX4_aimOf 2 (some .int) 1 := ⟨(tk_1.2.2.2.2.2.2.2.1 rfl), (ts_2_12.2.2.2.2.2.2.2.2.2.2.2.2.2.2.1 rfl), tn_RX4, tp_1⟩
theorem im_X4_aimOf : Cond.instanceMethod yX4_aimOf ∈ TB := (ts_2_12.2.2.2.2.2.2.2.2.2.2.2.2.2.1 rfl)
theorem mf_X5_init : MF yX5_init cX5_init 3 none 1 := ⟨(tk_1.2.2.2.2.2.2.2.2.2.2.1 rfl), (ts_1_7.2.2.2.2.2.2.1 rfl), tn_RX5, tp_9⟩
theorem im_X5_init : Cond.instanceMethod yX5_init ∈ TB := (ts_1_7.2.2.2.2.2.1 rfl)
theorem mf_X5_copyFrom : MF yX5_copyFrom cX5_copyFrom 3 none 1 := ⟨(tk_1.2.2.2.2.2.2.2.2.2.2.1 rfl), (ts_2_3.2.2.2.2.2.2.2.2.2.2.2.2.1 rfl), tn_RX5, tp_13⟩
theorem im_X5_copyFrom : Cond.instanceMethod yX5_copyFrom ∈ TB := (ts_2_3.2.2.2.2.2.2.2.2.2.2.1 rfl)
theorem se_X5_copyFrom : Cond.selects yX5_copyFrom.cls yX5_copyFrom yX5_copyFrom ∈ TB := (ts_2_3.2.2.2.2.2.2.2.2.2.2.2.1 rfl)
theorem mf_X5_at : MF yX5_at cX5_at 2 (some (.object "MarkToBoard$Jumper")) 1 := ⟨(tk_1.2.2.2.2.2.2.2.2.2.2.1 rfl), (ts_2_6.2.2.2.1 rfl), tn_RX5, tp_14⟩
theorem im_X5_at : Cond.instanceMethod yX5_at ∈ TB := (ts_2_6.2.1 rfl)
theorem se_X5_at : Cond.selects yX5_at.cls yX5_at yX5_at ∈ TB := (ts_2_6.2.2.1 rfl)
theorem mf_X5_finalists : MF yX5_finalists cX5_finalists 1 (some .int) 0 := ⟨(tk_1.2.2.2.2.2.2.2.2.2.2.1 rfl), (ts_2_6.2.2.2.2.2.2.2.2.2.2.2.2.2.2.2.1 rfl), tn_RX5, tp_15⟩
theorem im_X5_finalists : Cond.instanceMethod yX5_finalists ∈ TB := (ts_2_6.2.2.2.2.2.2.2.2.2.2.2.2.2.1 rfl)
theorem se_X5_finalists : Cond.selects yX5_finalists.cls yX5_finalists yX5_finalists ∈ TB := (ts_2_6.2.2.2.2.2.2.2.2.2.2.2.2.2.2.1 rfl)
theorem mf_X5_round : MF yX5_round cX5_round 2 (some .int) 0 := ⟨(tk_1.2.2.2.2.2.2.2.2.2.2.1 rfl), (ts_2_7.2.2.2.1 rfl), tn_RX5, tp_15⟩
theorem im_X5_round : Cond.instanceMethod yX5_round ∈ TB := (ts_2_7.2.1 rfl)
theorem se_X5_round : Cond.selects yX5_round.cls yX5_round yX5_round ∈ TB := (ts_2_7.2.2.1 rfl)
theorem mf_X5_inTurn : MF yX5_inTurn cX5_inTurn 3 (some .int) 1 := ⟨(tk_1.2.2.2.2.2.2.2.2.2.2.1 rfl), (ts_2_6.2.2.2.2.2.2.2.2.2.2.2.1 rfl), tn_RX5, tp_16⟩
theorem im_X5_inTurn : Cond.instanceMethod yX5_inTurn ∈ TB := (ts_2_6.2.2.2.2.2.2.2.2.2.1 rfl)
theorem se_X5_inTurn : Cond.selects yX5_inTurn.cls yX5_inTurn yX5_inTurn ∈ TB := (ts_2_6.2.2.2.2.2.2.2.2.2.2.1 rfl)
theorem mf_X5_record : MF yX5_record cX5_record 6 (some .int) 3 := ⟨(tk_1.2.2.2.2.2.2.2.2.2.2.1 rfl), (ts_2_9.2.2.2.2.2.2.2.2.2.1 rfl), tn_RX5, tp_17⟩
theorem im_X5_record : Cond.instanceMethod yX5_record ∈ TB := (ts_2_9.2.2.2.2.2.2.2.1 rfl)
theorem se_X5_record : Cond.selects yX5_record.cls yX5_record yX5_record ∈ TB := (ts_2_9.2.2.2.2.2.2.2.2.1 rfl)
theorem mf_X5_lengthBy : MF yX5_lengthBy cX5_lengthBy 3 (some .int) 2 := ⟨(tk_1.2.2.2.2.2.2.2.2.2.2.1 rfl), (ts_2_8.2.2.2.2.2.2.2.2.2.1 rfl), tn_RX5, tp_12⟩
theorem im_X5_lengthBy : Cond.instanceMethod yX5_lengthBy ∈ TB := (ts_2_8.2.2.2.2.2.2.2.1 rfl)
theorem se_X5_lengthBy : Cond.selects yX5_lengthBy.cls yX5_lengthBy yX5_lengthBy ∈ TB := (ts_2_8.2.2.2.2.2.2.2.2.1 rfl)
theorem mf_X5_rank : MF yX5_rank cX5_rank 5 none 3 := ⟨(tk_1.2.2.2.2.2.2.2.2.2.2.1 rfl), (ts_2_7.2.2.2.2.2.2.2.2.2.2.1 rfl), tn_RX5, tp_18⟩
theorem im_X5_rank : Cond.instanceMethod yX5_rank ∈ TB := (ts_2_7.2.2.2.2.2.2.2.2.1 rfl)
theorem se_X5_rank : Cond.selects yX5_rank.cls yX5_rank yX5_rank ∈ TB := (ts_2_7.2.2.2.2.2.2.2.2.2.1 rfl)
theorem mf_X5_leader : MF yX5_leader cX5_leader 2 (some .int) 1 := ⟨(tk_1.2.2.2.2.2.2.2.2.2.2.1 rfl), (ts_3_10.2.2.2.2.2.2.2.2.2.2.2.1 rfl), tn_RX5, tp_16⟩
theorem im_X5_leader : Cond.instanceMethod yX5_leader ∈ TB := (ts_3_10.2.2.2.2.2.2.2.2.2.1 rfl)
theorem se_X5_leader : Cond.selects yX5_leader.cls yX5_leader yX5_leader ∈ TB := (ts_3_10.2.2.2.2.2.2.2.2.2.2.1 rfl)
theorem mf_X5_triesOf : MF yX5_triesOf cX5_triesOf 4 (some .int) 1 := ⟨(tk_1.2.2.2.2.2.2.2.2.2.2.1 rfl), (ts_2_13.2.2.2.2.2.2.2.2.2.2.2.2.1 rfl), tn_RX5, tp_11⟩
theorem im_X5_triesOf : Cond.instanceMethod yX5_triesOf ∈ TB := (ts_2_13.2.2.2.2.2.2.2.2.2.2.1 rfl)
theorem se_X5_triesOf : Cond.selects yX5_triesOf.cls yX5_triesOf yX5_triesOf ∈ TB := (ts_2_13.2.2.2.2.2.2.2.2.2.2.2.1 rfl)
theorem mf_X5_triesWith : MF yX5_triesWith cX5_triesWith 4 (some .int) 1 := ⟨(tk_1.2.2.2.2.2.2.2.2.2.2.1 rfl), (ts_4_7.2.2.2.2.2.2.1 rfl), tn_RX5, tp_11⟩
theorem im_X5_triesWith : Cond.instanceMethod yX5_triesWith ∈ TB := (ts_4_7.2.2.2.2.1 rfl)
theorem se_X5_triesWith : Cond.selects yX5_triesWith.cls yX5_triesWith yX5_triesWith ∈ TB := (ts_4_7.2.2.2.2.2.1 rfl)
theorem mf_X5_find : MF yX5_find cX5_find 5 (some .int) 2 := ⟨(tk_1.2.2.2.2.2.2.2.2.2.2.1 rfl), (ts_3_9.2.2.2.2.1 rfl), tn_RX5, tp_12⟩
theorem im_X5_find : Cond.instanceMethod yX5_find ∈ TB := (ts_3_9.2.2.1 rfl)
theorem se_X5_find : Cond.selects yX5_find.cls yX5_find yX5_find ∈ TB := (ts_3_9.2.2.2.1 rfl)
theorem mf_X6_init : MF yX6_init cX6_init 1 none 0 := ⟨(tk_1.2.2.1 rfl), (ts_1_1.2.2.2.2.2.2.2.2.2.2.2.2.2.2.1 rfl), tn_RX6, tp_0⟩
theorem im_X6_init : Cond.instanceMethod yX6_init ∈ TB := (ts_1_1.2.2.2.2.2.2.2.2.2.2.2.2.2.1 rfl)
theorem mf_X6_start : MF yX6_start cX6_start 2 none 1 := ⟨(tk_1.2.2.1 rfl), (ts_2_7.2.2.2.2.2.2.2.2.2.2.2.2.2.2.1 rfl), tn_RX6, tp_19⟩
theorem im_X6_start : Cond.instanceMethod yX6_start ∈ TB := (ts_2_7.2.2.2.2.2.2.2.2.2.2.2.2.1 rfl)
theorem se_X6_start : Cond.selects yX6_start.cls yX6_start yX6_start ∈ TB := (ts_2_7.2.2.2.2.2.2.2.2.2.2.2.2.2.1 rfl)
theorem mf_X6_add : MF yX6_add cX6_add 3 none 2 := ⟨(tk_1.2.2.1 rfl), (ts_2_8.2.2.2.2.2.2.2.2.2.2.2.2.2.1 rfl), tn_RX6, tp_20⟩
theorem im_X6_add : Cond.instanceMethod yX6_add ∈ TB := (ts_2_8.2.2.2.2.2.2.2.2.2.2.2.1 rfl)
theorem se_X6_add : Cond.selects yX6_add.cls yX6_add yX6_add ∈ TB := (ts_2_8.2.2.2.2.2.2.2.2.2.2.2.2.1 rfl)
theorem mf_X6_longest : MF yX6_longest cX6_longest 2 (some .int) 1 := ⟨(tk_1.2.2.1 rfl), (ts_2_14.2.1 rfl), tn_RX6, tp_11⟩
theorem im_X6_longest : Cond.instanceMethod yX6_longest ∈ TB := (ts_2_13.2.2.2.2.2.2.2.2.2.2.2.2.2.2.2.1 rfl)
theorem se_X6_longest : Cond.selects yX6_longest.cls yX6_longest yX6_longest ∈ TB := (ts_2_14.1 rfl)
theorem mf_X6_secondLongest : MF yX6_secondLongest cX6_secondLongest 2 (some .int) 1 := ⟨(tk_1.2.2.1 rfl), (ts_2_14.2.2.2.2.2.1 rfl), tn_RX6, tp_11⟩
theorem im_X6_secondLongest : Cond.instanceMethod yX6_secondLongest ∈ TB := (ts_2_14.2.2.2.1 rfl)
theorem se_X6_secondLongest : Cond.selects yX6_secondLongest.cls yX6_secondLongest yX6_secondLongest ∈ TB := (ts_2_14.2.2.2.2.1 rfl)
theorem mf_X6_ahead : MF yX6_ahead cX6_ahead 8 (some .int) 2 := ⟨(tk_1.2.2.1 rfl), (ts_2_9.2.2.2.2.2.1 rfl), tn_RX6, tp_12⟩
theorem im_X6_ahead : Cond.instanceMethod yX6_ahead ∈ TB := (ts_2_9.2.2.2.1 rfl)
theorem se_X6_ahead : Cond.selects yX6_ahead.cls yX6_ahead yX6_ahead ∈ TB := (ts_2_9.2.2.2.2.1 rfl)
theorem mf_X6_at : MF yX6_at cX6_at 3 (some .int) 1 := ⟨(tk_1.2.2.1 rfl), (ts_2_9.2.1 rfl), tn_RX6, tp_11⟩
theorem im_X6_at : Cond.instanceMethod yX6_at ∈ TB := (ts_2_8.2.2.2.2.2.2.2.2.2.2.2.2.2.2.2.1 rfl)
theorem se_X6_at : Cond.selects yX6_at.cls yX6_at yX6_at ∈ TB := (ts_2_9.1 rfl)
theorem mf_X7_init : MF yX7_init cX7_init 1 none 0 := ⟨(tk_1.2.2.2.2.2.1 rfl), (ts_1_5.2.2.2.1 rfl), tn_RX7, tp_0⟩
theorem im_X7_init : Cond.instanceMethod yX7_init ∈ TB := (ts_1_5.2.2.1 rfl)
theorem mf_X7_aimOf : MF yX7_aimOf cX7_aimOf 2 (some .int) 1 := ⟨(tk_1.2.2.2.2.2.1 rfl), (ts_2_13.2.1 rfl), tn_RX7, tp_1⟩
theorem im_X7_aimOf : Cond.instanceMethod yX7_aimOf ∈ TB := (ts_2_13.1 rfl)
theorem mf_X7_lengthOf : MF yX7_lengthOf cX7_lengthOf 6 (some .int) 4 := ⟨(tk_1.2.2.2.2.2.1 rfl), (ts_2_10.2.2.2.2.2.1 rfl), tn_RX7, tp_3⟩
theorem im_X7_lengthOf : Cond.instanceMethod yX7_lengthOf ∈ TB := (ts_2_10.2.2.2.2.1 rfl)
theorem mf_X8_init : MF yX8_init cX8_init 1 none 0 := ⟨(tk_1.2.2.2.2.2.2.2.2.2.1 rfl), (ts_1_6.2.2.2.2.2.2.2.2.2.2.2.2.2.2.2.1 rfl), tn_RX8, tp_0⟩
theorem im_X8_init : Cond.instanceMethod yX8_init ∈ TB := (ts_1_6.2.2.2.2.2.2.2.2.2.2.2.2.2.2.1 rfl)
theorem mf_X8_aimOf : MF yX8_aimOf cX8_aimOf 2 (some .int) 1 := ⟨(tk_1.2.2.2.2.2.2.2.2.2.1 rfl), (ts_2_13.2.2.2.2.2.1 rfl), tn_RX8, tp_1⟩
theorem im_X8_aimOf : Cond.instanceMethod yX8_aimOf ∈ TB := (ts_2_13.2.2.2.2.1 rfl)
theorem mf_X8_strideOf : MF yX8_strideOf cX8_strideOf 4 (some .int) 3 := ⟨(tk_1.2.2.2.2.2.2.2.2.2.1 rfl), (ts_3_1.2.2.2.2.2.2.2.1 rfl), tn_RX8, tp_2⟩
theorem im_X8_strideOf : Cond.instanceMethod yX8_strideOf ∈ TB := (ts_3_1.2.2.2.2.2.2.1 rfl)
theorem mf_X8_lengthOf : MF yX8_lengthOf cX8_lengthOf 5 (some .int) 4 := ⟨(tk_1.2.2.2.2.2.2.2.2.2.1 rfl), (ts_2_10.2.2.2.2.2.2.2.2.2.2.1 rfl), tn_RX8, tp_3⟩
theorem im_X8_lengthOf : Cond.instanceMethod yX8_lengthOf ∈ TB := (ts_2_10.2.2.2.2.2.2.2.2.2.1 rfl)
theorem mf_X9_init : MF yX9_init cX9_init 1 none 0 := ⟨(tk_1.2.2.2.2.2.2.2.2.1 rfl), (ts_1_6.2.2.2.2.2.2.2.2.1 rfl), tn_RX9, tp_0⟩
theorem im_X9_init : Cond.instanceMethod yX9_init ∈ TB := (ts_1_6.2.2.2.2.2.2.2.1 rfl)
theorem mf_X9_strideOf : MF yX9_strideOf cX9_strideOf 4 (some .int) 3 := ⟨(tk_1.2.2.2.2.2.2.2.2.1 rfl), (ts_3_1.2.2.2.2.2.2.2.2.2.2.2.2.2.1 rfl), tn_RX9, tp_2⟩
theorem im_X9_strideOf : Cond.instanceMethod yX9_strideOf ∈ TB := (ts_3_1.2.2.2.2.2.2.2.2.2.2.2.2.1 rfl)
theorem mf_X9_lengthOf : MF yX9_lengthOf cX9_lengthOf 6 (some .int) 4 := ⟨(tk_1.2.2.2.2.2.2.2.2.1 rfl), (ts_2_11.1 rfl), tn_RX9, tp_3⟩
theorem im_X9_lengthOf : Cond.instanceMethod yX9_lengthOf ∈ TB := (ts_2_10.2.2.2.2.2.2.2.2.2.2.2.2.2.2.2.1 rfl)
theorem mf_X10_init : MF yX10_init cX10_init 2 none 0 := ⟨(tk_1.2.1 rfl), (ts_1_1.2.2.2.2.1 rfl), tn_RX10, tp_0⟩
theorem im_X10_init : Cond.instanceMethod yX10_init ∈ TB := (ts_1_1.2.2.2.1 rfl)
theorem mf_X10_refuse : MF yX10_refuse cX10_refuse 2 (some .int) 1 := ⟨(tk_1.2.1 rfl), (ts_2_2.2.2.2.2.2.2.2.2.2.1 rfl), tn_RX10, tp_11⟩
theorem im_X10_refuse : Cond.instanceMethod yX10_refuse ∈ TB := (ts_2_2.2.2.2.2.2.2.2.2.1 rfl)
theorem se_X10_refuse : Cond.selects yX10_refuse.cls yX10_refuse yX10_refuse ∈ TB := (tk_0.1 rfl)
theorem mf_X10_first : MF yX10_first cX10_first 2 (some .int) 2 := ⟨(tk_1.2.1 rfl), (ts_2_2.2.2.2.2.2.1 rfl), tn_RX10, tp_12⟩
theorem st_X10_first : Cond.static yX10_first ∈ TB := (ts_2_2.2.2.2.2.1 rfl)
theorem mf_X10_nobody : MF yX10_nobody cX10_nobody 2 (some .int) 1 := ⟨(tk_1.2.1 rfl), (ts_2_11.2.2.2.2.2.2.2.2.2.2.2.2.2.1 rfl), tn_RX10, tp_11⟩
theorem im_X10_nobody : Cond.instanceMethod yX10_nobody ∈ TB := (ts_2_11.2.2.2.2.2.2.2.2.2.2.2.2.1 rfl)
theorem se_X10_nobody : Cond.selects yX10_nobody.cls yX10_nobody yX10_nobody ∈ TB := (tk_0.2.2.2.2.2.2.2.2.2.2.2.1 rfl)
theorem mf_X10_nobodyOfTwo : MF yX10_nobodyOfTwo cX10_nobodyOfTwo 3 (some .int) 2 := ⟨(tk_1.2.1 rfl), (ts_4_1.2.2.2.2.2.2.2.2.2.2.1 rfl), tn_RX10, tp_12⟩
theorem im_X10_nobodyOfTwo : Cond.instanceMethod yX10_nobodyOfTwo ∈ TB := (ts_4_1.2.2.2.2.2.2.2.2.2.1 rfl)
theorem se_X10_nobodyOfTwo : Cond.selects yX10_nobodyOfTwo.cls yX10_nobodyOfTwo yX10_nobodyOfTwo ∈ TB := (ts_0_1.2.2.2.2.2.2.2.2.1 rfl)
theorem mf_X10_noSuch : MF yX10_noSuch cX10_noSuch 2 (some .int) 2 := ⟨(tk_1.2.1 rfl), (ts_2_12.1 rfl), tn_RX10, tp_12⟩
theorem st_X10_noSuch : Cond.static yX10_noSuch ∈ TB := (ts_2_11.2.2.2.2.2.2.2.2.2.2.2.2.2.2.2.1 rfl)
theorem mf_X10_outside : MF yX10_outside cX10_outside 3 (some .int) 3 := ⟨(tk_1.2.1 rfl), (ts_2_2.2.2.1 rfl), tn_RX10, tp_17⟩
theorem st_X10_outside : Cond.static yX10_outside ∈ TB := (ts_2_2.2.1 rfl)
theorem mf_X10_noPart : MF yX10_noPart cX10_noPart 1 (some .int) 1 := ⟨(tk_1.2.1 rfl), (ts_3_3.2.2.2.2.2.2.2.2.2.2.2.1 rfl), tn_RX10, tp_11⟩
theorem st_X10_noPart : Cond.static yX10_noPart ∈ TB := (ts_3_3.2.2.2.2.2.2.2.2.2.2.1 rfl)
theorem mf_X10_outsideTwo : MF yX10_outsideTwo cX10_outsideTwo 2 (some .int) 2 := ⟨(tk_1.2.1 rfl), (ts_3_3.2.2.2.1 rfl), tn_RX10, tp_12⟩
theorem st_X10_outsideTwo : Cond.static yX10_outsideTwo ∈ TB := (ts_3_3.2.2.1 rfl)
theorem mf_X10_feed : MF yX10_feed cX10_feed 3 (some .int) 1 := ⟨(tk_1.2.1 rfl), (ts_2_1.2.2.2.2.2.2.2.2.2.2.2.2.2.2.2.1 rfl), tn_RX10, tp_11⟩
theorem im_X10_feed : Cond.instanceMethod yX10_feed ∈ TB := (ts_2_1.2.2.2.2.2.2.2.2.2.2.2.2.2.1 rfl)
theorem se_X10_feed : Cond.selects yX10_feed.cls yX10_feed yX10_feed ∈ TB := (ts_2_1.2.2.2.2.2.2.2.2.2.2.2.2.2.2.1 rfl)
theorem mf_X10_ground : MF yX10_ground cX10_ground 3 (some .int) 0 := ⟨(tk_1.2.1 rfl), (ts_2_2.2.2.2.2.2.2.2.2.2.2.2.2.2.1 rfl), tn_RX10, tp_15⟩
theorem im_X10_ground : Cond.instanceMethod yX10_ground ∈ TB := (ts_2_2.2.2.2.2.2.2.2.2.2.2.2.1 rfl)
theorem se_X10_ground : Cond.selects yX10_ground.cls yX10_ground yX10_ground ∈ TB := (ts_2_2.2.2.2.2.2.2.2.2.2.2.2.2.1 rfl)
theorem mf_X10_digitsBehind : MF yX10_digitsBehind cX10_digitsBehind 1 (some .int) 1 := ⟨(tk_1.2.1 rfl), (ts_2_3.2.2.2.2.1 rfl), tn_RX10, tp_11⟩
theorem st_X10_digitsBehind : Cond.static yX10_digitsBehind ∈ TB := (ts_2_3.2.2.2.1 rfl)
theorem mf_X10_firstBadLetter : MF yX10_firstBadLetter cX10_firstBadLetter 6 (some .int) 0 := ⟨(tk_1.2.1 rfl), (ts_2_3.2.1 rfl), tn_RX10, tp_15⟩
theorem im_X10_firstBadLetter : Cond.instanceMethod yX10_firstBadLetter ∈ TB := (ts_2_3.1 rfl)
theorem se_X10_firstBadLetter : Cond.selects yX10_firstBadLetter.cls yX10_firstBadLetter yX10_firstBadLetter ∈ TB := (tk_0.2.1 rfl)
theorem mf_X10_span : MF yX10_span cX10_span 2 (some .int) 1 := ⟨(tk_1.2.1 rfl), (ts_2_11.2.2.2.2.2.1 rfl), tn_RX10, tp_11⟩
theorem st_X10_span : Cond.static yX10_span ∈ TB := (ts_2_11.2.2.2.2.1 rfl)
theorem mf_X10_statementsInMind : MF yX10_statementsInMind cX10_statementsInMind 3 (some .int) 0 := ⟨(tk_1.2.1 rfl), (ts_2_3.2.2.2.2.2.2.2.2.1 rfl), tn_RX10, tp_15⟩
theorem im_X10_statementsInMind : Cond.instanceMethod yX10_statementsInMind ∈ TB := (ts_2_3.2.2.2.2.2.2.2.1 rfl)
theorem se_X10_statementsInMind : Cond.selects yX10_statementsInMind.cls yX10_statementsInMind yX10_statementsInMind ∈ TB := (tk_0.2.2.1 rfl)
theorem mf_X10_comes : MF yX10_comes cX10_comes 2 (some .boolean) 1 := ⟨(tk_1.2.1 rfl), (ts_2_4.2.2.2.2.2.2.2.1 rfl), tn_RX10, tp_21⟩
theorem im_X10_comes : Cond.instanceMethod yX10_comes ∈ TB := (ts_2_4.2.2.2.2.2.2.1 rfl)
theorem se_X10_comes : Cond.selects yX10_comes.cls yX10_comes yX10_comes ∈ TB := (tk_0.2.2.2.1 rfl)
theorem mf_X10_isMinus : MF yX10_isMinus cX10_isMinus 2 (some .boolean) 1 := ⟨(tk_1.2.1 rfl), (ts_2_5.2.2.2.1 rfl), tn_RX10, tp_21⟩
theorem im_X10_isMinus : Cond.instanceMethod yX10_isMinus ∈ TB := (ts_2_5.2.2.1 rfl)
theorem se_X10_isMinus : Cond.selects yX10_isMinus.cls yX10_isMinus yX10_isMinus ∈ TB := (tk_0.2.2.2.2.2.2.1 rfl)
theorem mf_X10_number : MF yX10_number cX10_number 5 (some .int) 2 := ⟨(tk_1.2.1 rfl), (ts_2_4.2.2.2.2.2.2.2.2.2.2.2.1 rfl), tn_RX10, tp_12⟩
theorem im_X10_number : Cond.instanceMethod yX10_number ∈ TB := (ts_2_4.2.2.2.2.2.2.2.2.2.2.1 rfl)
theorem se_X10_number : Cond.selects yX10_number.cls yX10_number yX10_number ∈ TB := (tk_0.2.2.2.2.1 rfl)
theorem mf_X10_windComes : MF yX10_windComes cX10_windComes 3 (some .boolean) 2 := ⟨(tk_1.2.1 rfl), (ts_2_5.2.2.2.2.2.2.2.1 rfl), tn_RX10, tp_22⟩
theorem im_X10_windComes : Cond.instanceMethod yX10_windComes ∈ TB := (ts_2_5.2.2.2.2.2.2.1 rfl)
theorem se_X10_windComes : Cond.selects yX10_windComes.cls yX10_windComes yX10_windComes ∈ TB := (tk_0.2.2.2.2.2.2.2.1 rfl)
theorem mf_X10_stridesCome : MF yX10_stridesCome cX10_stridesCome 3 (some .boolean) 1 := ⟨(tk_1.2.1 rfl), (ts_2_4.2.2.2.2.2.2.2.2.2.2.2.2.2.2.2.1 rfl), tn_RX10, tp_21⟩
theorem im_X10_stridesCome : Cond.instanceMethod yX10_stridesCome ∈ TB := (ts_2_4.2.2.2.2.2.2.2.2.2.2.2.2.2.2.1 rfl)
theorem se_X10_stridesCome : Cond.selects yX10_stridesCome.cls yX10_stridesCome yX10_stridesCome ∈ TB := (tk_0.2.2.2.2.2.1 rfl)
theorem mf_X10_goOnComes : MF yX10_goOnComes cX10_goOnComes 3 (some .boolean) 1 := ⟨(tk_1.2.1 rfl), (ts_2_5.2.2.2.2.2.2.2.2.2.2.2.1 rfl), tn_RX10, tp_21⟩
theorem im_X10_goOnComes : Cond.instanceMethod yX10_goOnComes ∈ TB := (ts_2_5.2.2.2.2.2.2.2.2.2.2.1 rfl)
theorem se_X10_goOnComes : Cond.selects yX10_goOnComes.cls yX10_goOnComes yX10_goOnComes ∈ TB := (tk_0.2.2.2.2.2.2.2.2.1 rfl)
theorem mf_X10_jumperComes : MF yX10_jumperComes cX10_jumperComes 4 (some .boolean) 1 := ⟨(tk_1.2.1 rfl), (ts_2_5.2.2.2.2.2.2.2.2.2.2.2.2.2.2.2.1 rfl), tn_RX10, tp_21⟩
theorem im_X10_jumperComes : Cond.instanceMethod yX10_jumperComes ∈ TB := (ts_2_5.2.2.2.2.2.2.2.2.2.2.2.2.2.2.1 rfl)
theorem se_X10_jumperComes : Cond.selects yX10_jumperComes.cls yX10_jumperComes yX10_jumperComes ∈ TB := (tk_0.2.2.2.2.2.2.2.2.2.1 rfl)
theorem mf_X10_tryComes : MF yX10_tryComes cX10_tryComes 3 (some .boolean) 1 := ⟨(tk_1.2.1 rfl), (ts_2_6.2.2.2.2.2.2.2.1 rfl), tn_RX10, tp_21⟩
theorem im_X10_tryComes : Cond.instanceMethod yX10_tryComes ∈ TB := (ts_2_6.2.2.2.2.2.2.1 rfl)
theorem se_X10_tryComes : Cond.selects yX10_tryComes.cls yX10_tryComes yX10_tryComes ∈ TB := (tk_0.2.2.2.2.2.2.2.2.2.2.1 rfl)
theorem mf_X10_jumper : MF yX10_jumper cX10_jumper 4 (some .int) 2 := ⟨(tk_1.2.1 rfl), (ts_2_11.2.2.2.2.2.2.2.2.2.1 rfl), tn_RX10, tp_12⟩
theorem im_X10_jumper : Cond.instanceMethod yX10_jumper ∈ TB := (ts_2_11.2.2.2.2.2.2.2.1 rfl)
theorem se_X10_jumper : Cond.selects yX10_jumper.cls yX10_jumper yX10_jumper ∈ TB := (ts_2_11.2.2.2.2.2.2.2.2.1 rfl)
theorem mf_X10_mark : MF yX10_mark cX10_mark 5 (some .int) 2 := ⟨(tk_1.2.1 rfl), (ts_2_14.2.2.2.2.2.2.2.2.2.1 rfl), tn_RX10, tp_12⟩
theorem im_X10_mark : Cond.instanceMethod yX10_mark ∈ TB := (ts_2_14.2.2.2.2.2.2.2.1 rfl)
theorem se_X10_mark : Cond.selects yX10_mark.cls yX10_mark yX10_mark ∈ TB := (ts_2_14.2.2.2.2.2.2.2.2.1 rfl)
theorem mf_X10_look : MF yX10_look cX10_look 5 (some .int) 2 := ⟨(tk_1.2.1 rfl), (ts_2_14.2.2.2.2.2.2.2.2.2.2.2.2.2.1 rfl), tn_RX10, tp_12⟩
theorem im_X10_look : Cond.instanceMethod yX10_look ∈ TB := (ts_2_14.2.2.2.2.2.2.2.2.2.2.2.1 rfl)
theorem se_X10_look : Cond.selects yX10_look.cls yX10_look yX10_look ∈ TB := (ts_2_14.2.2.2.2.2.2.2.2.2.2.2.2.1 rfl)
theorem mf_X10_set : MF yX10_set cX10_set 5 (some .int) 2 := ⟨(tk_1.2.1 rfl), (tk_3.2.1 rfl), tn_RX10, tp_12⟩
theorem im_X10_set : Cond.instanceMethod yX10_set ∈ TB := (ts_2_14.2.2.2.2.2.2.2.2.2.2.2.2.2.2.2.1 rfl)
theorem se_X10_set : Cond.selects yX10_set.cls yX10_set yX10_set ∈ TB := (tk_3.1 rfl)
theorem mf_X10_wind : MF yX10_wind cX10_wind 4 (some .int) 1 := ⟨(tk_1.2.1 rfl), (tk_3.2.2.2.2.2.1 rfl), tn_RX10, tp_11⟩
theorem im_X10_wind : Cond.instanceMethod yX10_wind ∈ TB := (tk_3.2.2.2.1 rfl)
theorem se_X10_wind : Cond.selects yX10_wind.cls yX10_wind yX10_wind ∈ TB := (tk_3.2.2.2.2.1 rfl)
theorem mf_X10_stride : MF yX10_stride cX10_stride 5 (some .int) 2 := ⟨(tk_1.2.1 rfl), (tk_3.2.2.2.2.2.2.2.2.2.2.1 rfl), tn_RX10, tp_12⟩
theorem im_X10_stride : Cond.instanceMethod yX10_stride ∈ TB := (tk_3.2.2.2.2.2.2.2.2.1 rfl)
theorem se_X10_stride : Cond.selects yX10_stride.cls yX10_stride yX10_stride ∈ TB := (tk_3.2.2.2.2.2.2.2.2.2.1 rfl)
theorem mf_X10_place : MF yX10_place cX10_place 3 (some .int) 1 := ⟨(tk_1.2.1 rfl), (ts_3_2.2.2.2.1 rfl), tn_RX10, tp_11⟩
theorem im_X10_place : Cond.instanceMethod yX10_place ∈ TB := (ts_3_2.2.1 rfl)
theorem se_X10_place : Cond.selects yX10_place.cls yX10_place yX10_place ∈ TB := (ts_3_2.2.2.1 rfl)
theorem mf_X10_placeOf : MF yX10_placeOf cX10_placeOf 3 (some .int) 1 := ⟨(tk_1.2.1 rfl), (ts_3_2.2.2.2.2.2.2.2.1 rfl), tn_RX10, tp_11⟩
theorem im_X10_placeOf : Cond.instanceMethod yX10_placeOf ∈ TB := (ts_3_2.2.2.2.2.2.2.1 rfl)
theorem se_X10_placeOf : Cond.selects yX10_placeOf.cls yX10_placeOf yX10_placeOf ∈ TB := (tk_0.2.2.2.2.2.2.2.2.2.2.2.2.1 rfl)
theorem mf_X10_length : MF yX10_length cX10_length 6 (some .int) 3 := ⟨(tk_1.2.1 rfl), (ts_3_3.1 rfl), tn_RX10, tp_17⟩
theorem im_X10_length : Cond.instanceMethod yX10_length ∈ TB := (ts_3_2.2.2.2.2.2.2.2.2.2.2.2.2.2.2.1 rfl)
theorem se_X10_length : Cond.selects yX10_length.cls yX10_length yX10_length ∈ TB := (ts_3_2.2.2.2.2.2.2.2.2.2.2.2.2.2.2.2.1 rfl)
theorem mf_X10_fraction : MF yX10_fraction cX10_fraction 12 (some .long) 3 := ⟨(tk_1.2.1 rfl), (ts_3_5.2.2.2.1 rfl), tn_RX10, tp_23⟩
theorem st_X10_fraction : Cond.static yX10_fraction ∈ TB := (ts_3_5.2.2.1 rfl)
theorem mf_X10_spreadNow : MF yX10_spreadNow cX10_spreadNow 3 none 2 := ⟨(tk_1.2.1 rfl), (ts_3_4.1 rfl), tn_RX10, tp_20⟩
theorem im_X10_spreadNow : Cond.instanceMethod yX10_spreadNow ∈ TB := (ts_3_3.2.2.2.2.2.2.2.2.2.2.2.2.2.2.2.1 rfl)
theorem se_X10_spreadNow : Cond.selects yX10_spreadNow.cls yX10_spreadNow yX10_spreadNow ∈ TB := (tk_0.2.2.2.2.2.2.2.2.2.2.2.2.2.1 rfl)
theorem mf_X10_spreadAt : MF yX10_spreadAt cX10_spreadAt 3 none 2 := ⟨(tk_1.2.1 rfl), (ts_3_6.2.2.2.2.2.2.2.2.2.2.2.2.2.2.1 rfl), tn_RX10, tp_24⟩
theorem im_X10_spreadAt : Cond.instanceMethod yX10_spreadAt ∈ TB := (ts_3_6.2.2.2.2.2.2.2.2.2.2.2.2.2.1 rfl)
theorem se_X10_spreadAt : Cond.selects yX10_spreadAt.cls yX10_spreadAt yX10_spreadAt ∈ TB := (tk_0.2.2.2.2.2.2.2.2.2.2.2.2.2.2.2.1 rfl)
theorem mf_X10_off : MF yX10_off cX10_off 5 (some .long) 3 := ⟨(tk_1.2.1 rfl), (ts_3_3.2.2.2.2.2.2.2.2.1 rfl), tn_RX10, tp_25⟩
theorem im_X10_off : Cond.instanceMethod yX10_off ∈ TB := (ts_3_3.2.2.2.2.2.2.1 rfl)
theorem se_X10_off : Cond.selects yX10_off.cls yX10_off yX10_off ∈ TB := (ts_3_3.2.2.2.2.2.2.2.1 rfl)
theorem mf_X10_mean : MF yX10_mean cX10_mean 5 (some .long) 3 := ⟨(tk_1.2.1 rfl), (ts_3_5.2.2.2.2.2.2.2.1 rfl), tn_RX10, tp_25⟩
theorem im_X10_mean : Cond.instanceMethod yX10_mean ∈ TB := (ts_3_5.2.2.2.2.2.1 rfl)
theorem se_X10_mean : Cond.selects yX10_mean.cls yX10_mean yX10_mean ∈ TB := (ts_3_5.2.2.2.2.2.2.1 rfl)
theorem mf_X10_past : MF yX10_past cX10_past 5 (some .long) 3 := ⟨(tk_1.2.1 rfl), (ts_3_5.2.2.2.2.2.2.2.2.2.2.2.2.2.2.2.1 rfl), tn_RX10, tp_25⟩
theorem im_X10_past : Cond.instanceMethod yX10_past ∈ TB := (ts_3_5.2.2.2.2.2.2.2.2.2.2.2.2.2.1 rfl)
theorem se_X10_past : Cond.selects yX10_past.cls yX10_past yX10_past ∈ TB := (ts_3_5.2.2.2.2.2.2.2.2.2.2.2.2.2.2.1 rfl)
theorem mf_X10_bestLook : MF yX10_bestLook cX10_bestLook 10 (some .int) 1 := ⟨(tk_1.2.1 rfl), (ts_3_6.2.2.2.2.2.2.2.2.1 rfl), tn_RX10, tp_11⟩
theorem im_X10_bestLook : Cond.instanceMethod yX10_bestLook ∈ TB := (ts_3_6.2.2.2.2.2.2.1 rfl)
theorem se_X10_bestLook : Cond.selects yX10_bestLook.cls yX10_bestLook yX10_bestLook ∈ TB := (ts_3_6.2.2.2.2.2.2.2.1 rfl)
theorem mf_X10_bestMark : MF yX10_bestMark cX10_bestMark 12 (some .int) 2 := ⟨(tk_1.2.1 rfl), (ts_3_7.2.2.1 rfl), tn_RX10, tp_12⟩
theorem im_X10_bestMark : Cond.instanceMethod yX10_bestMark ∈ TB := (ts_3_7.1 rfl)
theorem se_X10_bestMark : Cond.selects yX10_bestMark.cls yX10_bestMark yX10_bestMark ∈ TB := (ts_3_7.2.1 rfl)
theorem mf_X10_back : MF yX10_back cX10_back 5 (some .int) 2 := ⟨(tk_1.2.1 rfl), (ts_3_7.2.2.2.2.2.2.2.2.1 rfl), tn_RX10, tp_12⟩
theorem im_X10_back : Cond.instanceMethod yX10_back ∈ TB := (ts_3_7.2.2.2.2.2.2.1 rfl)
theorem se_X10_back : Cond.selects yX10_back.cls yX10_back yX10_back ∈ TB := (ts_3_7.2.2.2.2.2.2.2.1 rfl)
theorem mf_X10_turn : MF yX10_turn cX10_turn 1 (some .int) 0 := ⟨(tk_1.2.1 rfl), (ts_3_7.2.2.2.2.2.2.2.2.2.2.2.2.1 rfl), tn_RX10, tp_15⟩
theorem im_X10_turn : Cond.instanceMethod yX10_turn ∈ TB := (ts_3_7.2.2.2.2.2.2.2.2.2.2.1 rfl)
theorem se_X10_turn : Cond.selects yX10_turn.cls yX10_turn yX10_turn ∈ TB := (ts_3_7.2.2.2.2.2.2.2.2.2.2.2.1 rfl)
theorem mf_X10_notInTurn : MF yX10_notInTurn cX10_notInTurn 2 (some .int) 1 := ⟨(tk_1.2.1 rfl), (ts_3_8.2.2.2.2.1 rfl), tn_RX10, tp_11⟩
theorem im_X10_notInTurn : Cond.instanceMethod yX10_notInTurn ∈ TB := (ts_3_8.2.2.2.1 rfl)
theorem se_X10_notInTurn : Cond.selects yX10_notInTurn.cls yX10_notInTurn yX10_notInTurn ∈ TB := (ts_0_1.1 rfl)
theorem mf_X10_jump : MF yX10_jump cX10_jump 4 (some .int) 2 := ⟨(tk_1.2.1 rfl), (ts_3_8.1 rfl), tn_RX10, tp_12⟩
theorem im_X10_jump : Cond.instanceMethod yX10_jump ∈ TB := (ts_3_7.2.2.2.2.2.2.2.2.2.2.2.2.2.2.1 rfl)
theorem se_X10_jump : Cond.selects yX10_jump.cls yX10_jump yX10_jump ∈ TB := (ts_3_7.2.2.2.2.2.2.2.2.2.2.2.2.2.2.2.1 rfl)
theorem mf_X10_none : MF yX10_none cX10_none 4 (some .int) 2 := ⟨(tk_1.2.1 rfl), (ts_3_8.2.2.2.2.2.2.2.2.1 rfl), tn_RX10, tp_12⟩
theorem im_X10_none : Cond.instanceMethod yX10_none ∈ TB := (ts_3_8.2.2.2.2.2.2.1 rfl)
theorem se_X10_none : Cond.selects yX10_none.cls yX10_none yX10_none ∈ TB := (ts_3_8.2.2.2.2.2.2.2.1 rfl)
theorem mf_X10_undo : MF yX10_undo cX10_undo 1 (some .int) 0 := ⟨(tk_1.2.1 rfl), (ts_3_8.2.2.2.2.2.2.2.2.2.2.2.2.1 rfl), tn_RX10, tp_15⟩
theorem im_X10_undo : Cond.instanceMethod yX10_undo ∈ TB := (ts_3_8.2.2.2.2.2.2.2.2.2.2.1 rfl)
theorem se_X10_undo : Cond.selects yX10_undo.cls yX10_undo yX10_undo ∈ TB := (ts_3_8.2.2.2.2.2.2.2.2.2.2.2.1 rfl)
theorem mf_X10_tried : MF yX10_tried cX10_tried 4 (some .int) 2 := ⟨(tk_1.2.1 rfl), (ts_3_9.1 rfl), tn_RX10, tp_12⟩
theorem im_X10_tried : Cond.instanceMethod yX10_tried ∈ TB := (ts_3_8.2.2.2.2.2.2.2.2.2.2.2.2.2.2.1 rfl)
theorem se_X10_tried : Cond.selects yX10_tried.cls yX10_tried yX10_tried ∈ TB := (ts_3_8.2.2.2.2.2.2.2.2.2.2.2.2.2.2.2.1 rfl)
theorem mf_X10_needs : MF yX10_needs cX10_needs 4 (some .int) 2 := ⟨(tk_1.2.1 rfl), (ts_3_9.2.2.2.2.2.2.2.2.1 rfl), tn_RX10, tp_12⟩
theorem im_X10_needs : Cond.instanceMethod yX10_needs ∈ TB := (ts_3_9.2.2.2.2.2.2.1 rfl)
theorem se_X10_needs : Cond.selects yX10_needs.cls yX10_needs yX10_needs ∈ TB := (ts_3_9.2.2.2.2.2.2.2.1 rfl)
theorem mf_X10_leastFor : MF yX10_leastFor cX10_leastFor 4 (some .int) 2 := ⟨(tk_1.2.1 rfl), (ts_3_9.2.2.2.2.2.2.2.2.2.2.2.2.2.1 rfl), tn_RX10, tp_12⟩
theorem im_X10_leastFor : Cond.instanceMethod yX10_leastFor ∈ TB := (ts_3_9.2.2.2.2.2.2.2.2.2.2.2.2.1 rfl)
theorem se_X10_leastFor : Cond.selects yX10_leastFor.cls yX10_leastFor yX10_leastFor ∈ TB := (ts_0_1.2.1 rfl)
theorem mf_X10_ranks : MF yX10_ranks cX10_ranks 5 (some .int) 1 := ⟨(tk_1.2.1 rfl), (ts_3_10.2.2.1 rfl), tn_RX10, tp_11⟩
theorem im_X10_ranks : Cond.instanceMethod yX10_ranks ∈ TB := (ts_3_10.1 rfl)
theorem se_X10_ranks : Cond.selects yX10_ranks.cls yX10_ranks yX10_ranks ∈ TB := (ts_3_10.2.1 rfl)
theorem mf_X10_leads : MF yX10_leads cX10_leads 1 (some .int) 0 := ⟨(tk_1.2.1 rfl), (ts_3_10.2.2.2.2.2.2.2.1 rfl), tn_RX10, tp_15⟩
theorem im_X10_leads : Cond.instanceMethod yX10_leads ∈ TB := (ts_3_10.2.2.2.2.2.1 rfl)
theorem se_X10_leads : Cond.selects yX10_leads.cls yX10_leads yX10_leads ∈ TB := (ts_3_10.2.2.2.2.2.2.1 rfl)
theorem mf_X10_goOn : MF yX10_goOn cX10_goOn 3 (some .int) 0 := ⟨(tk_1.2.1 rfl), (ts_3_10.2.2.2.2.2.2.2.2.2.2.2.2.2.2.2.1 rfl), tn_RX10, tp_15⟩
theorem im_X10_goOn : Cond.instanceMethod yX10_goOn ∈ TB := (ts_3_10.2.2.2.2.2.2.2.2.2.2.2.2.2.1 rfl)
theorem se_X10_goOn : Cond.selects yX10_goOn.cls yX10_goOn yX10_goOn ∈ TB := (ts_3_10.2.2.2.2.2.2.2.2.2.2.2.2.2.2.1 rfl)
theorem mf_X10_aim : MF yX10_aim cX10_aim 10 (some .int) 4 := ⟨(tk_1.2.1 rfl), (ts_3_11.2.2.2.1 rfl), tn_RX10, tp_26⟩
theorem im_X10_aim : Cond.instanceMethod yX10_aim ∈ TB := (ts_3_11.2.1 rfl)
theorem se_X10_aim : Cond.selects yX10_aim.cls yX10_aim yX10_aim ∈ TB := (ts_3_11.2.2.1 rfl)
theorem mf_X10_leftOf : MF yX10_leftOf cX10_leftOf 4 (some .int) 2 := ⟨(tk_1.2.1 rfl), (ts_3_11.2.2.2.2.2.2.2.2.2.2.2.1 rfl), tn_RX10, tp_12⟩
theorem st_X10_leftOf : Cond.static yX10_leftOf ∈ TB := (ts_3_11.2.2.2.2.2.2.2.2.2.2.1 rfl)
theorem mf_X10_tooLong : MF yX10_tooLong cX10_tooLong 3 (some .int) 0 := ⟨(tk_1.2.1 rfl), (ts_3_11.2.2.2.2.2.2.2.2.2.2.2.2.2.2.2.1 rfl), tn_RX10, tp_15⟩
theorem im_X10_tooLong : Cond.instanceMethod yX10_tooLong ∈ TB := (ts_3_11.2.2.2.2.2.2.2.2.2.2.2.2.2.1 rfl)
theorem se_X10_tooLong : Cond.selects yX10_tooLong.cls yX10_tooLong yX10_tooLong ∈ TB := (ts_3_11.2.2.2.2.2.2.2.2.2.2.2.2.2.2.1 rfl)
theorem mf_X10_unlike : MF yX10_unlike cX10_unlike 1 (some .int) 0 := ⟨(tk_1.2.1 rfl), (ts_3_12.2.2.2.1 rfl), tn_RX10, tp_15⟩
theorem im_X10_unlike : Cond.instanceMethod yX10_unlike ∈ TB := (ts_3_12.2.1 rfl)
theorem se_X10_unlike : Cond.selects yX10_unlike.cls yX10_unlike yX10_unlike ∈ TB := (ts_3_12.2.2.1 rfl)
theorem mf_X10_greatestFrom : MF yX10_greatestFrom cX10_greatestFrom 4 (some .int) 1 := ⟨(tk_1.2.1 rfl), (ts_3_12.2.2.2.2.2.2.2.1 rfl), tn_RX10, tp_11⟩
theorem im_X10_greatestFrom : Cond.instanceMethod yX10_greatestFrom ∈ TB := (ts_3_12.2.2.2.2.2.2.1 rfl)
theorem se_X10_greatestFrom : Cond.selects yX10_greatestFrom.cls yX10_greatestFrom yX10_greatestFrom ∈ TB := (ts_0_1.2.2.1 rfl)
theorem mf_X10_leastAhead : MF yX10_leastAhead cX10_leastAhead 4 (some .int) 1 := ⟨(tk_1.2.1 rfl), (ts_3_12.2.2.2.2.2.2.2.2.2.2.2.1 rfl), tn_RX10, tp_11⟩
theorem im_X10_leastAhead : Cond.instanceMethod yX10_leastAhead ∈ TB := (ts_3_12.2.2.2.2.2.2.2.2.2.2.1 rfl)
theorem se_X10_leastAhead : Cond.selects yX10_leastAhead.cls yX10_leastAhead yX10_leastAhead ∈ TB := (ts_0_1.2.2.2.1 rfl)
theorem mf_X10_moved : MF yX10_moved cX10_moved 4 (some .int) 1 := ⟨(tk_1.2.1 rfl), (ts_3_12.2.2.2.2.2.2.2.2.2.2.2.2.2.2.2.1 rfl), tn_RX10, tp_11⟩
theorem im_X10_moved : Cond.instanceMethod yX10_moved ∈ TB := (ts_3_12.2.2.2.2.2.2.2.2.2.2.2.2.2.1 rfl)
theorem se_X10_moved : Cond.selects yX10_moved.cls yX10_moved yX10_moved ∈ TB := (ts_3_12.2.2.2.2.2.2.2.2.2.2.2.2.2.2.1 rfl)
theorem mf_X10_gusts : MF yX10_gusts cX10_gusts 11 (some .int) 1 := ⟨(tk_1.2.1 rfl), (ts_3_13.2.2.2.1 rfl), tn_RX10, tp_11⟩
theorem im_X10_gusts : Cond.instanceMethod yX10_gusts ∈ TB := (ts_3_13.2.1 rfl)
theorem se_X10_gusts : Cond.selects yX10_gusts.cls yX10_gusts yX10_gusts ∈ TB := (ts_3_13.2.2.1 rfl)
theorem mf_X10_on : MF yX10_on cX10_on 9 (some .long) 2 := ⟨(tk_1.2.1 rfl), (ts_3_13.2.2.2.2.2.2.2.1 rfl), tn_RX10, tp_27⟩
theorem im_X10_on : Cond.instanceMethod yX10_on ∈ TB := (ts_3_13.2.2.2.2.2.1 rfl)
theorem se_X10_on : Cond.selects yX10_on.cls yX10_on yX10_on ∈ TB := (ts_3_13.2.2.2.2.2.2.1 rfl)
theorem mf_X10_row : MF yX10_row cX10_row 3 (some .int) 1 := ⟨(tk_1.2.1 rfl), (ts_3_13.2.2.2.2.2.2.2.2.2.2.2.2.2.1 rfl), tn_RX10, tp_11⟩
theorem im_X10_row : Cond.instanceMethod yX10_row ∈ TB := (ts_3_13.2.2.2.2.2.2.2.2.2.2.2.1 rfl)
theorem se_X10_row : Cond.selects yX10_row.cls yX10_row yX10_row ∈ TB := (ts_3_13.2.2.2.2.2.2.2.2.2.2.2.2.1 rfl)
theorem mf_X10_judge : MF yX10_judge cX10_judge 2 (some .int) 0 := ⟨(tk_1.2.1 rfl), (ts_3_14.2.1 rfl), tn_RX10, tp_15⟩
theorem im_X10_judge : Cond.instanceMethod yX10_judge ∈ TB := (ts_3_13.2.2.2.2.2.2.2.2.2.2.2.2.2.2.2.1 rfl)
theorem se_X10_judge : Cond.selects yX10_judge.cls yX10_judge yX10_judge ∈ TB := (ts_3_14.1 rfl)
theorem mf_X10_judged : MF yX10_judged cX10_judged 4 (some .int) 0 := ⟨(tk_1.2.1 rfl), (ts_3_14.2.2.2.2.2.1 rfl), tn_RX10, tp_15⟩
theorem im_X10_judged : Cond.instanceMethod yX10_judged ∈ TB := (ts_3_14.2.2.2.2.1 rfl)
theorem se_X10_judged : Cond.selects yX10_judged.cls yX10_judged yX10_judged ∈ TB := (ts_0_1.2.2.2.2.1 rfl)
theorem mf_X10_clear : MF yX10_clear cX10_clear 2 (some .int) 0 := ⟨(tk_1.2.1 rfl), (ts_3_14.2.2.2.2.2.2.2.2.2.1 rfl), tn_RX10, tp_15⟩
theorem im_X10_clear : Cond.instanceMethod yX10_clear ∈ TB := (ts_3_14.2.2.2.2.2.2.2.1 rfl)
theorem se_X10_clear : Cond.selects yX10_clear.cls yX10_clear yX10_clear ∈ TB := (ts_3_14.2.2.2.2.2.2.2.2.1 rfl)
theorem mf_X10_seeds : MF yX10_seeds cX10_seeds 9 (some .int) 4 := ⟨(tk_1.2.1 rfl), (ts_3_14.2.2.2.2.2.2.2.2.2.2.2.2.2.1 rfl), tn_RX10, tp_26⟩
theorem im_X10_seeds : Cond.instanceMethod yX10_seeds ∈ TB := (ts_3_14.2.2.2.2.2.2.2.2.2.2.2.1 rfl)
theorem se_X10_seeds : Cond.selects yX10_seeds.cls yX10_seeds yX10_seeds ∈ TB := (ts_3_14.2.2.2.2.2.2.2.2.2.2.2.2.1 rfl)
theorem mf_X10_playToTheEnd : MF yX10_playToTheEnd cX10_playToTheEnd 6 (some .int) 1 := ⟨(tk_1.2.1 rfl), (tk_4.2.1 rfl), tn_RX10, tp_11⟩
theorem im_X10_playToTheEnd : Cond.instanceMethod yX10_playToTheEnd ∈ TB := (tk_4.1 rfl)
theorem se_X10_playToTheEnd : Cond.selects yX10_playToTheEnd.cls yX10_playToTheEnd yX10_playToTheEnd ∈ TB := (ts_0_1.2.2.2.2.2.1 rfl)
theorem mf_X10_runByDraws : MF yX10_runByDraws cX10_runByDraws 7 (some .int) 1 := ⟨(tk_1.2.1 rfl), (tk_4.2.2.2.2.2.1 rfl), tn_RX10, tp_11⟩
theorem im_X10_runByDraws : Cond.instanceMethod yX10_runByDraws ∈ TB := (tk_4.2.2.2.2.1 rfl)
theorem se_X10_runByDraws : Cond.selects yX10_runByDraws.cls yX10_runByDraws yX10_runByDraws ∈ TB := (ts_0_1.2.2.2.2.2.2.1 rfl)
theorem mf_X10_drawBelow : MF yX10_drawBelow cX10_drawBelow 2 (some .int) 1 := ⟨(tk_1.2.1 rfl), (tk_4.2.2.2.2.2.2.2.2.2.2.2.1 rfl), tn_RX10, tp_11⟩
theorem im_X10_drawBelow : Cond.instanceMethod yX10_drawBelow ∈ TB := (tk_4.2.2.2.2.2.2.2.2.2.2.1 rfl)
theorem se_X10_drawBelow : Cond.selects yX10_drawBelow.cls yX10_drawBelow yX10_drawBelow ∈ TB := (ts_0_1.2.2.2.2.2.2.2.1 rfl)
theorem mf_X10_parts : MF yX10_parts cX10_parts 4 (some .int) 2 := ⟨(tk_1.2.1 rfl), (ts_4_1.2.2.1 rfl), tn_RX10, tp_12⟩
theorem im_X10_parts : Cond.instanceMethod yX10_parts ∈ TB := (ts_4_1.1 rfl)
theorem se_X10_parts : Cond.selects yX10_parts.cls yX10_parts yX10_parts ∈ TB := (ts_4_1.2.1 rfl)
theorem mf_X10_fillParts : MF yX10_fillParts cX10_fillParts 5 none 3 := ⟨(tk_1.2.1 rfl), (ts_4_1.2.2.2.2.2.2.2.2.2.2.2.2.2.2.1 rfl), tn_RX10, tp_28⟩
theorem im_X10_fillParts : Cond.instanceMethod yX10_fillParts ∈ TB := (ts_4_1.2.2.2.2.2.2.2.2.2.2.2.2.2.1 rfl)
theorem se_X10_fillParts : Cond.selects yX10_fillParts.cls yX10_fillParts yX10_fillParts ∈ TB := (ts_0_1.2.2.2.2.2.2.2.2.2.1 rfl)
theorem mf_X10_moreByParts : MF yX10_moreByParts cX10_moreByParts 6 (some .int) 0 := ⟨(tk_1.2.1 rfl), (ts_4_2.2.2.1 rfl), tn_RX10, tp_15⟩
theorem im_X10_moreByParts : Cond.instanceMethod yX10_moreByParts ∈ TB := (ts_4_2.2.1 rfl)
theorem se_X10_moreByParts : Cond.selects yX10_moreByParts.cls yX10_moreByParts yX10_moreByParts ∈ TB := (ts_0_1.2.2.2.2.2.2.2.2.2.2.1 rfl)
theorem mf_X10_more : MF yX10_more cX10_more 4 (some .int) 2 := ⟨(tk_1.2.1 rfl), (ts_4_1.2.2.2.2.2.2.1 rfl), tn_RX10, tp_12⟩
theorem im_X10_more : Cond.instanceMethod yX10_more ∈ TB := (ts_4_1.2.2.2.2.1 rfl)
theorem se_X10_more : Cond.selects yX10_more.cls yX10_more yX10_more ∈ TB := (ts_4_1.2.2.2.2.2.1 rfl)
theorem mf_X10_duel : MF yX10_duel cX10_duel 7 (some .int) 3 := ⟨(tk_1.2.1 rfl), (ts_4_2.2.2.2.2.2.2.2.1 rfl), tn_RX10, tp_17⟩
theorem im_X10_duel : Cond.instanceMethod yX10_duel ∈ TB := (ts_4_2.2.2.2.2.2.1 rfl)
theorem se_X10_duel : Cond.selects yX10_duel.cls yX10_duel yX10_duel ∈ TB := (ts_4_2.2.2.2.2.2.2.1 rfl)
theorem mf_X10_leastOfRow : MF yX10_leastOfRow cX10_leastOfRow 2 (some .int) 1 := ⟨(tk_1.2.1 rfl), (ts_4_2.2.2.2.2.2.2.2.2.2.2.2.2.2.2.2.1 rfl), tn_RX10, tp_11⟩
theorem im_X10_leastOfRow : Cond.instanceMethod yX10_leastOfRow ∈ TB := (ts_4_2.2.2.2.2.2.2.2.2.2.2.2.2.2.2.1 rfl)
theorem se_X10_leastOfRow : Cond.selects yX10_leastOfRow.cls yX10_leastOfRow yX10_leastOfRow ∈ TB := (ts_0_1.2.2.2.2.2.2.2.2.2.2.2.2.1 rfl)
theorem mf_X10_mostOfColumn : MF yX10_mostOfColumn cX10_mostOfColumn 2 (some .int) 1 := ⟨(tk_1.2.1 rfl), (ts_4_3.2.2.2.2.2.2.2.1 rfl), tn_RX10, tp_11⟩
theorem im_X10_mostOfColumn : Cond.instanceMethod yX10_mostOfColumn ∈ TB := (ts_4_3.2.2.2.2.2.2.1 rfl)
theorem se_X10_mostOfColumn : Cond.selects yX10_mostOfColumn.cls yX10_mostOfColumn yX10_mostOfColumn ∈ TB := (ts_0_1.2.2.2.2.2.2.2.2.2.2.2.2.2.2.1 rfl)
theorem mf_X10_sure : MF yX10_sure cX10_sure 1 (some .int) 0 := ⟨(tk_1.2.1 rfl), (ts_4_2.2.2.2.2.2.2.2.2.2.2.2.1 rfl), tn_RX10, tp_15⟩
theorem im_X10_sure : Cond.instanceMethod yX10_sure ∈ TB := (ts_4_2.2.2.2.2.2.2.2.2.2.2.1 rfl)
theorem se_X10_sure : Cond.selects yX10_sure.cls yX10_sure yX10_sure ∈ TB := (ts_0_1.2.2.2.2.2.2.2.2.2.2.2.1 rfl)
theorem mf_X10_calmPair : MF yX10_calmPair cX10_calmPair 5 (some .int) 1 := ⟨(tk_1.2.1 rfl), (ts_4_3.2.2.2.1 rfl), tn_RX10, tp_11⟩
theorem im_X10_calmPair : Cond.instanceMethod yX10_calmPair ∈ TB := (ts_4_3.2.2.1 rfl)
theorem se_X10_calmPair : Cond.selects yX10_calmPair.cls yX10_calmPair yX10_calmPair ∈ TB := (ts_0_1.2.2.2.2.2.2.2.2.2.2.2.2.2.1 rfl)
theorem mf_X10_practice : MF yX10_practice cX10_practice 10 (some .int) 1 := ⟨(tk_1.2.1 rfl), (ts_4_3.2.2.2.2.2.2.2.2.2.2.2.1 rfl), tn_RX10, tp_11⟩
theorem im_X10_practice : Cond.instanceMethod yX10_practice ∈ TB := (ts_4_3.2.2.2.2.2.2.2.2.2.1 rfl)
theorem se_X10_practice : Cond.selects yX10_practice.cls yX10_practice yX10_practice ∈ TB := (ts_4_3.2.2.2.2.2.2.2.2.2.2.1 rfl)
theorem mf_X10_meanAt : MF yX10_meanAt cX10_meanAt 2 (some .long) 1 := ⟨(tk_1.2.1 rfl), (ts_4_4.2.2.2.1 rfl), tn_RX10, tp_7⟩
theorem im_X10_meanAt : Cond.instanceMethod yX10_meanAt ∈ TB := (ts_4_4.2.2.1 rfl)
theorem se_X10_meanAt : Cond.selects yX10_meanAt.cls yX10_meanAt yX10_meanAt ∈ TB := (ts_0_2.1 rfl)
theorem mf_X10_practised : MF yX10_practised cX10_practised 2 (some .boolean) 1 := ⟨(tk_1.2.1 rfl), (ts_4_3.2.2.2.2.2.2.2.2.2.2.2.2.2.2.2.1 rfl), tn_RX10, tp_21⟩
theorem im_X10_practised : Cond.instanceMethod yX10_practised ∈ TB := (ts_4_3.2.2.2.2.2.2.2.2.2.2.2.2.2.2.1 rfl)
theorem se_X10_practised : Cond.selects yX10_practised.cls yX10_practised yX10_practised ∈ TB := (ts_0_1.2.2.2.2.2.2.2.2.2.2.2.2.2.2.2.1 rfl)
theorem mf_X10_bestRun : MF yX10_bestRun cX10_bestRun 10 (some .int) 1 := ⟨(tk_1.2.1 rfl), (ts_4_4.2.2.2.2.2.2.2.1 rfl), tn_RX10, tp_11⟩
theorem im_X10_bestRun : Cond.instanceMethod yX10_bestRun ∈ TB := (ts_4_4.2.2.2.2.2.1 rfl)
theorem se_X10_bestRun : Cond.selects yX10_bestRun.cls yX10_bestRun yX10_bestRun ∈ TB := (ts_4_4.2.2.2.2.2.2.1 rfl)
theorem mf_X10_markIn : MF yX10_markIn cX10_markIn 5 (some .int) 2 := ⟨(tk_1.2.1 rfl), (ts_4_4.2.2.2.2.2.2.2.2.2.2.2.1 rfl), tn_RX10, tp_12⟩
theorem im_X10_markIn : Cond.instanceMethod yX10_markIn ∈ TB := (ts_4_4.2.2.2.2.2.2.2.2.2.1 rfl)
theorem se_X10_markIn : Cond.selects yX10_markIn.cls yX10_markIn yX10_markIn ∈ TB := (ts_4_4.2.2.2.2.2.2.2.2.2.2.1 rfl)
theorem mf_X10_fouled : MF yX10_fouled cX10_fouled 7 (some .long) 2 := ⟨(tk_1.2.1 rfl), (ts_4_4.2.2.2.2.2.2.2.2.2.2.2.2.2.2.2.1 rfl), tn_RX10, tp_27⟩
theorem im_X10_fouled : Cond.instanceMethod yX10_fouled ∈ TB := (ts_4_4.2.2.2.2.2.2.2.2.2.2.2.2.2.1 rfl)
theorem se_X10_fouled : Cond.selects yX10_fouled.cls yX10_fouled yX10_fouled ∈ TB := (ts_4_4.2.2.2.2.2.2.2.2.2.2.2.2.2.2.1 rfl)
theorem mf_X10_better : MF yX10_better cX10_better 6 (some .int) 1 := ⟨(tk_1.2.1 rfl), (ts_4_5.2.2.2.1 rfl), tn_RX10, tp_11⟩
theorem im_X10_better : Cond.instanceMethod yX10_better ∈ TB := (ts_4_5.2.1 rfl)
theorem se_X10_better : Cond.selects yX10_better.cls yX10_better yX10_better ∈ TB := (ts_4_5.2.2.1 rfl)
theorem mf_X10_half : MF yX10_half cX10_half 6 (some .int) 1 := ⟨(tk_1.2.1 rfl), (ts_4_5.2.2.2.2.2.2.2.1 rfl), tn_RX10, tp_11⟩
theorem im_X10_half : Cond.instanceMethod yX10_half ∈ TB := (ts_4_5.2.2.2.2.2.1 rfl)
theorem se_X10_half : Cond.selects yX10_half.cls yX10_half yX10_half ∈ TB := (ts_4_5.2.2.2.2.2.2.1 rfl)
theorem mf_X10_insert : MF yX10_insert cX10_insert 4 none 3 := ⟨(tk_1.2.1 rfl), (ts_4_5.2.2.2.2.2.2.2.2.2.2.1 rfl), tn_RX10, tp_28⟩
theorem st_X10_insert : Cond.static yX10_insert ∈ TB := (ts_4_5.2.2.2.2.2.2.2.2.2.1 rfl)
theorem mf_X10_fullLength : MF yX10_fullLength cX10_fullLength 3 (some .int) 1 := ⟨(tk_1.2.1 rfl), (ts_4_6.2.2.1 rfl), tn_RX10, tp_11⟩
theorem im_X10_fullLength : Cond.instanceMethod yX10_fullLength ∈ TB := (ts_4_6.2.1 rfl)
theorem se_X10_fullLength : Cond.selects yX10_fullLength.cls yX10_fullLength yX10_fullLength ∈ TB := (ts_0_2.2.1 rfl)
theorem mf_X10_safe : MF yX10_safe cX10_safe 4 (some .int) 1 := ⟨(tk_1.2.1 rfl), (ts_4_5.2.2.2.2.2.2.2.2.2.2.2.2.2.2.1 rfl), tn_RX10, tp_11⟩
theorem im_X10_safe : Cond.instanceMethod yX10_safe ∈ TB := (ts_4_5.2.2.2.2.2.2.2.2.2.2.2.2.1 rfl)
theorem se_X10_safe : Cond.selects yX10_safe.cls yX10_safe yX10_safe ∈ TB := (ts_4_5.2.2.2.2.2.2.2.2.2.2.2.2.2.1 rfl)
theorem mf_X10_mayStill : MF yX10_mayStill cX10_mayStill 4 (some .int) 0 := ⟨(tk_1.2.1 rfl), (ts_4_6.2.2.2.2.2.2.1 rfl), tn_RX10, tp_15⟩
theorem im_X10_mayStill : Cond.instanceMethod yX10_mayStill ∈ TB := (ts_4_6.2.2.2.2.1 rfl)
theorem se_X10_mayStill : Cond.selects yX10_mayStill.cls yX10_mayStill yX10_mayStill ∈ TB := (ts_4_6.2.2.2.2.2.1 rfl)
theorem mf_X10_image : MF yX10_image cX10_image 1 (some .int) 0 := ⟨(tk_1.2.1 rfl), (ts_4_6.2.2.2.2.2.2.2.2.2.2.1 rfl), tn_RX10, tp_15⟩
theorem im_X10_image : Cond.instanceMethod yX10_image ∈ TB := (ts_4_6.2.2.2.2.2.2.2.2.1 rfl)
theorem se_X10_image : Cond.selects yX10_image.cls yX10_image yX10_image ∈ TB := (ts_4_6.2.2.2.2.2.2.2.2.2.1 rfl)
theorem mf_X10_restore : MF yX10_restore cX10_restore 1 (some .int) 0 := ⟨(tk_1.2.1 rfl), (ts_4_6.2.2.2.2.2.2.2.2.2.2.2.2.2.2.1 rfl), tn_RX10, tp_15⟩
theorem im_X10_restore : Cond.instanceMethod yX10_restore ∈ TB := (ts_4_6.2.2.2.2.2.2.2.2.2.2.2.2.1 rfl)
theorem se_X10_restore : Cond.selects yX10_restore.cls yX10_restore yX10_restore ∈ TB := (ts_4_6.2.2.2.2.2.2.2.2.2.2.2.2.2.1 rfl)
theorem mf_X10_count : MF yX10_count cX10_count 2 (some .int) 1 := ⟨(tk_1.2.1 rfl), (ts_4_7.2.2.1 rfl), tn_RX10, tp_11⟩
theorem im_X10_count : Cond.instanceMethod yX10_count ∈ TB := (ts_4_7.1 rfl)
theorem se_X10_count : Cond.selects yX10_count.cls yX10_count yX10_count ∈ TB := (ts_4_7.2.1 rfl)
theorem mf_X11_init : MF yX11_init cX11_init 1 none 0 := ⟨(tk_1.2.2.2.2.2.2.2.2.2.2.2.2.1 rfl), (ts_4_7.2.2.2.2.2.2.2.2.2.2.2.1 rfl), tn_RX11, tp_0⟩
theorem im_X11_init : Cond.instanceMethod yX11_init ∈ TB := (ts_4_7.2.2.2.2.2.2.2.2.2.2.1 rfl)
theorem mf_X11_no : MF yX11_no cX11_no 2 (some .int) 1 := ⟨(tk_1.2.2.2.2.2.2.2.2.2.2.2.2.1 rfl), (ts_5_1.2.2.2.1 rfl), tn_RX11, tp_11⟩
theorem im_X11_no : Cond.instanceMethod yX11_no ∈ TB := (ts_5_1.2.2.1 rfl)
theorem se_X11_no : Cond.selects yX11_no.cls yX11_no yX11_no ∈ TB := (ts_0_2.2.2.1 rfl)
theorem mf_X11_lower : MF yX11_lower cX11_lower 2 (some .int) 1 := ⟨(tk_1.2.2.2.2.2.2.2.2.2.2.2.2.1 rfl), (ts_5_9.2.2.2.2.2.2.2.2.2.2.2.2.2.1 rfl), tn_RX11, tp_11⟩
theorem im_X11_lower : Cond.instanceMethod yX11_lower ∈ TB := (ts_5_9.2.2.2.2.2.2.2.2.2.2.2.2.1 rfl)
theorem se_X11_lower : Cond.selects yX11_lower.cls yX11_lower yX11_lower ∈ TB := (ts_0_3.2.2.2.2.2.2.2.2.2.2.2.1 rfl)
theorem mf_X11_lowest : MF yX11_lowest cX11_lowest 2 (some .long) 1 := ⟨(tk_1.2.2.2.2.2.2.2.2.2.2.2.2.1 rfl), (ts_5_11.2.2.2.2.2.2.2.2.2.2.2.2.2.2.1 rfl), tn_RX11, tp_7⟩
theorem im_X11_lowest : Cond.instanceMethod yX11_lowest ∈ TB := (ts_5_11.2.2.2.2.2.2.2.2.2.2.2.2.2.1 rfl)
theorem se_X11_lowest : Cond.selects yX11_lowest.cls yX11_lowest yX11_lowest ∈ TB := (ts_0_3.2.2.2.2.2.2.2.2.2.2.2.2.2.2.2.1 rfl)
theorem mf_X11_isIn : MF yX11_isIn cX11_isIn 3 (some .boolean) 3 := ⟨(tk_1.2.2.2.2.2.2.2.2.2.2.2.2.1 rfl), (ts_5_2.2.2.2.2.2.2.2.2.2.2.1 rfl), tn_RX11, tp_29⟩
theorem st_X11_isIn : Cond.static yX11_isIn ∈ TB := (ts_5_2.2.2.2.2.2.2.2.2.2.1 rfl)
theorem mf_X11_bound : MF yX11_bound cX11_bound 3 (some .int) 3 := ⟨(tk_1.2.2.2.2.2.2.2.2.2.2.2.2.1 rfl), (tk_5.2.2.2.2.2.2.2.2.2.2.2.2.2.2.2.1 rfl), tn_RX11, tp_17⟩
theorem st_X11_bound : Cond.static yX11_bound ∈ TB := (tk_5.2.2.2.2.2.2.2.2.2.2.2.2.2.2.1 rfl)
theorem mf_X11_atLeast0 : MF yX11_atLeast0 cX11_atLeast0 1 (some .int) 1 := ⟨(tk_1.2.2.2.2.2.2.2.2.2.2.2.2.1 rfl), (ts_5_5.2.2.2.2.2.2.2.2.2.2.2.2.2.1 rfl), tn_RX11, tp_11⟩
theorem st_X11_atLeast0 : Cond.static yX11_atLeast0 ∈ TB := (ts_5_5.2.2.2.2.2.2.2.2.2.2.2.2.1 rfl)
theorem mf_X11_isJumper : MF yX11_isJumper cX11_isJumper 2 (some .boolean) 1 := ⟨(tk_1.2.2.2.2.2.2.2.2.2.2.2.2.1 rfl), (ts_5_8.2.1 rfl), tn_RX11, tp_21⟩
theorem im_X11_isJumper : Cond.instanceMethod yX11_isJumper ∈ TB := (ts_5_8.1 rfl)
theorem se_X11_isJumper : Cond.selects yX11_isJumper.cls yX11_isJumper yX11_isJumper ∈ TB := (ts_0_3.2.2.2.2.2.2.2.2.1 rfl)
theorem mf_X11_feed : MF yX11_feed cX11_feed 3 (some .int) 1 := ⟨(tk_1.2.2.2.2.2.2.2.2.2.2.2.2.1 rfl), (tk_5.2.2.2.2.2.2.2.2.2.2.2.2.1 rfl), tn_RX11, tp_11⟩
theorem im_X11_feed : Cond.instanceMethod yX11_feed ∈ TB := (tk_5.2.2.2.2.2.2.2.2.2.2.1 rfl)
theorem se_X11_feed : Cond.selects yX11_feed.cls yX11_feed yX11_feed ∈ TB := (tk_5.2.2.2.2.2.2.2.2.2.2.2.1 rfl)
theorem mf_X11_next : MF yX11_next cX11_next 1 (some .int) 0 := ⟨(tk_1.2.2.2.2.2.2.2.2.2.2.2.2.1 rfl), (ts_5_1.2.2.2.2.2.2.2.2.2.2.2.2.2.2.2.1 rfl), tn_RX11, tp_15⟩
theorem im_X11_next : Cond.instanceMethod yX11_next ∈ TB := (ts_5_1.2.2.2.2.2.2.2.2.2.2.2.2.2.2.1 rfl)
theorem se_X11_next : Cond.selects yX11_next.cls yX11_next yX11_next ∈ TB := (ts_0_2.2.2.2.2.1 rfl)
theorem mf_X11_readsDigits : MF yX11_readsDigits cX11_readsDigits 5 (some .boolean) 2 := ⟨(tk_1.2.2.2.2.2.2.2.2.2.2.2.2.1 rfl), (ts_5_2.2.2.2.2.2.2.2.1 rfl), tn_RX11, tp_30⟩
theorem im_X11_readsDigits : Cond.instanceMethod yX11_readsDigits ∈ TB := (ts_5_2.2.2.2.2.2.2.1 rfl)
theorem se_X11_readsDigits : Cond.selects yX11_readsDigits.cls yX11_readsDigits yX11_readsDigits ∈ TB := (ts_0_2.2.2.2.2.2.2.1 rfl)
theorem mf_X11_readsWind : MF yX11_readsWind cX11_readsWind 3 (some .boolean) 1 := ⟨(tk_1.2.2.2.2.2.2.2.2.2.2.2.2.1 rfl), (ts_5_2.2.2.2.2.2.2.2.2.2.2.2.2.2.2.1 rfl), tn_RX11, tp_21⟩
theorem im_X11_readsWind : Cond.instanceMethod yX11_readsWind ∈ TB := (ts_5_2.2.2.2.2.2.2.2.2.2.2.2.2.2.1 rfl)
theorem se_X11_readsWind : Cond.selects yX11_readsWind.cls yX11_readsWind yX11_readsWind ∈ TB := (ts_0_2.2.2.2.2.2.2.2.1 rfl)
theorem mf_X11_readsJumper : MF yX11_readsJumper cX11_readsJumper 2 (some .boolean) 1 := ⟨(tk_1.2.2.2.2.2.2.2.2.2.2.2.2.1 rfl), (ts_5_3.2.2.1 rfl), tn_RX11, tp_21⟩
theorem im_X11_readsJumper : Cond.instanceMethod yX11_readsJumper ∈ TB := (ts_5_3.2.1 rfl)
theorem se_X11_readsJumper : Cond.selects yX11_readsJumper.cls yX11_readsJumper yX11_readsJumper ∈ TB := (ts_0_2.2.2.2.2.2.2.2.2.1 rfl)
theorem mf_X11_readsAll : MF yX11_readsAll cX11_readsAll 3 (some .boolean) 2 := ⟨(tk_1.2.2.2.2.2.2.2.2.2.2.2.2.1 rfl), (ts_5_2.2.2.2.1 rfl), tn_RX11, tp_30⟩
theorem im_X11_readsAll : Cond.instanceMethod yX11_readsAll ∈ TB := (ts_5_2.2.2.1 rfl)
theorem se_X11_readsAll : Cond.selects yX11_readsAll.cls yX11_readsAll yX11_readsAll ∈ TB := (ts_0_2.2.2.2.2.2.1 rfl)
theorem mf_X11_statement : MF yX11_statement cX11_statement 2 (some .boolean) 0 := ⟨(tk_1.2.2.2.2.2.2.2.2.2.2.2.2.1 rfl), (ts_5_1.2.2.2.2.2.2.2.2.2.2.2.1 rfl), tn_RX11, tp_31⟩
theorem im_X11_statement : Cond.instanceMethod yX11_statement ∈ TB := (ts_5_1.2.2.2.2.2.2.2.2.2.2.1 rfl)
theorem se_X11_statement : Cond.selects yX11_statement.cls yX11_statement yX11_statement ∈ TB := (ts_0_2.2.2.2.1 rfl)
theorem mf_X11_comesJumper : MF yX11_comesJumper cX11_comesJumper 2 (some .boolean) 1 := ⟨(tk_1.2.2.2.2.2.2.2.2.2.2.2.2.1 rfl), (ts_5_4.2.2.2.2.2.2.1 rfl), tn_RX11, tp_21⟩
theorem im_X11_comesJumper : Cond.instanceMethod yX11_comesJumper ∈ TB := (ts_5_4.2.2.2.2.2.1 rfl)
theorem se_X11_comesJumper : Cond.selects yX11_comesJumper.cls yX11_comesJumper yX11_comesJumper ∈ TB := (ts_0_2.2.2.2.2.2.2.2.2.2.2.2.2.2.1 rfl)
theorem mf_X11_comesTry : MF yX11_comesTry cX11_comesTry 3 (some .boolean) 2 := ⟨(tk_1.2.2.2.2.2.2.2.2.2.2.2.2.1 rfl), (ts_5_6.2.2.2.2.2.2.2.2.2.2.2.2.2.1 rfl), tn_RX11, tp_30⟩
theorem im_X11_comesTry : Cond.instanceMethod yX11_comesTry ∈ TB := (ts_5_6.2.2.2.2.2.2.2.2.2.2.2.2.1 rfl)
theorem se_X11_comesTry : Cond.selects yX11_comesTry.cls yX11_comesTry yX11_comesTry ∈ TB := (ts_0_3.2.2.2.2.2.2.1 rfl)
theorem mf_X11_comes : MF yX11_comes cX11_comes 4 (some .boolean) 1 := ⟨(tk_1.2.2.2.2.2.2.2.2.2.2.2.2.1 rfl), (ts_5_4.2.2.1 rfl), tn_RX11, tp_21⟩
theorem im_X11_comes : Cond.instanceMethod yX11_comes ∈ TB := (ts_5_4.2.1 rfl)
theorem se_X11_comes : Cond.selects yX11_comes.cls yX11_comes yX11_comes ∈ TB := (ts_0_2.2.2.2.2.2.2.2.2.2.2.2.2.1 rfl)
theorem mf_X11_ground : MF yX11_ground cX11_ground 3 (some .int) 0 := ⟨(tk_1.2.2.2.2.2.2.2.2.2.2.2.2.1 rfl), (ts_5_1.2.2.2.2.2.2.2.1 rfl), tn_RX11, tp_15⟩
theorem im_X11_ground : Cond.instanceMethod yX11_ground ∈ TB := (ts_5_1.2.2.2.2.2.1 rfl)
theorem se_X11_ground : Cond.selects yX11_ground.cls yX11_ground yX11_ground ∈ TB := (ts_5_1.2.2.2.2.2.2.1 rfl)
theorem mf_X11_passes : MF yX11_passes cX11_passes 3 none 1 := ⟨(tk_1.2.2.2.2.2.2.2.2.2.2.2.2.1 rfl), (ts_5_3.2.2.2.2.2.2.2.2.2.2.1 rfl), tn_RX11, tp_32⟩
theorem im_X11_passes : Cond.instanceMethod yX11_passes ∈ TB := (ts_5_3.2.2.2.2.2.2.2.2.2.1 rfl)
theorem se_X11_passes : Cond.selects yX11_passes.cls yX11_passes yX11_passes ∈ TB := (ts_0_2.2.2.2.2.2.2.2.2.2.2.1 rfl)
theorem mf_X11_passOne : MF yX11_passOne cX11_passOne 3 (some .int) 1 := ⟨(tk_1.2.2.2.2.2.2.2.2.2.2.2.2.1 rfl), (ts_5_3.2.2.2.2.2.2.2.2.2.2.2.2.2.2.1 rfl), tn_RX11, tp_11⟩
theorem im_X11_passOne : Cond.instanceMethod yX11_passOne ∈ TB := (ts_5_3.2.2.2.2.2.2.2.2.2.2.2.2.2.1 rfl)
theorem se_X11_passOne : Cond.selects yX11_passOne.cls yX11_passOne yX11_passOne ∈ TB := (ts_0_2.2.2.2.2.2.2.2.2.2.2.2.1 rfl)
theorem mf_X11_passesAll : MF yX11_passesAll cX11_passesAll 3 none 2 := ⟨(tk_1.2.2.2.2.2.2.2.2.2.2.2.2.1 rfl), (ts_5_3.2.2.2.2.2.2.1 rfl), tn_RX11, tp_33⟩
theorem im_X11_passesAll : Cond.instanceMethod yX11_passesAll ∈ TB := (ts_5_3.2.2.2.2.2.1 rfl)
theorem se_X11_passesAll : Cond.selects yX11_passesAll.cls yX11_passesAll yX11_passesAll ∈ TB := (ts_0_2.2.2.2.2.2.2.2.2.2.1 rfl)
theorem mf_X11_image : MF yX11_image cX11_image 1 (some .int) 0 := ⟨(tk_1.2.2.2.2.2.2.2.2.2.2.2.2.1 rfl), (ts_5_7.2.2.2.2.2.1 rfl), tn_RX11, tp_15⟩
theorem im_X11_image : Cond.instanceMethod yX11_image ∈ TB := (ts_5_7.2.2.2.1 rfl)
theorem se_X11_image : Cond.selects yX11_image.cls yX11_image yX11_image ∈ TB := (ts_5_7.2.2.2.2.1 rfl)
theorem mf_X11_restore : MF yX11_restore cX11_restore 1 (some .int) 0 := ⟨(tk_1.2.2.2.2.2.2.2.2.2.2.2.2.1 rfl), (ts_5_7.2.2.2.2.2.2.2.2.2.1 rfl), tn_RX11, tp_15⟩
theorem im_X11_restore : Cond.instanceMethod yX11_restore ∈ TB := (ts_5_7.2.2.2.2.2.2.2.1 rfl)
theorem se_X11_restore : Cond.selects yX11_restore.cls yX11_restore yX11_restore ∈ TB := (ts_5_7.2.2.2.2.2.2.2.2.1 rfl)
theorem mf_X11_strideIn : MF yX11_strideIn cX11_strideIn 5 (some .int) 3 := ⟨(tk_1.2.2.2.2.2.2.2.2.2.2.2.2.1 rfl), (ts_5_10.2.2.2.2.2.2.1 rfl), tn_RX11, tp_17⟩
theorem im_X11_strideIn : Cond.instanceMethod yX11_strideIn ∈ TB := (ts_5_10.2.2.2.2.2.1 rfl)
theorem se_X11_strideIn : Cond.selects yX11_strideIn.cls yX11_strideIn yX11_strideIn ∈ TB := (ts_0_3.2.2.2.2.2.2.2.2.2.2.2.2.1 rfl)
theorem mf_X11_allStrides : MF yX11_allStrides cX11_allStrides 5 (some .int) 2 := ⟨(tk_1.2.2.2.2.2.2.2.2.2.2.2.2.1 rfl), (ts_5_11.2.2.1 rfl), tn_RX11, tp_12⟩
theorem im_X11_allStrides : Cond.instanceMethod yX11_allStrides ∈ TB := (ts_5_11.2.1 rfl)
theorem se_X11_allStrides : Cond.selects yX11_allStrides.cls yX11_allStrides yX11_allStrides ∈ TB := (ts_0_3.2.2.2.2.2.2.2.2.2.2.2.2.2.2.1 rfl)
theorem mf_X11_placeOf : MF yX11_placeOf cX11_placeOf 2 (some .int) 1 := ⟨(tk_1.2.2.2.2.2.2.2.2.2.2.2.2.1 rfl), (ts_5_10.2.2.2.2.2.2.2.2.2.2.2.2.2.2.1 rfl), tn_RX11, tp_11⟩
theorem im_X11_placeOf : Cond.instanceMethod yX11_placeOf ∈ TB := (ts_5_10.2.2.2.2.2.2.2.2.2.2.2.2.2.1 rfl)
theorem se_X11_placeOf : Cond.selects yX11_placeOf.cls yX11_placeOf yX11_placeOf ∈ TB := (ts_0_3.2.2.2.2.2.2.2.2.2.2.2.2.2.1 rfl)
theorem mf_X11_aimOf : MF yX11_aimOf cX11_aimOf 3 (some .int) 1 := ⟨(tk_1.2.2.2.2.2.2.2.2.2.2.2.2.1 rfl), (ts_5_8.2.2.2.2.2.1 rfl), tn_RX11, tp_11⟩
theorem im_X11_aimOf : Cond.instanceMethod yX11_aimOf ∈ TB := (ts_5_8.2.2.2.2.1 rfl)
theorem se_X11_aimOf : Cond.selects yX11_aimOf.cls yX11_aimOf yX11_aimOf ∈ TB := (ts_0_3.2.2.2.2.2.2.2.2.2.1 rfl)
theorem mf_X11_lengthOf : MF yX11_lengthOf cX11_lengthOf 6 (some .int) 3 := ⟨(tk_1.2.2.2.2.2.2.2.2.2.2.2.2.1 rfl), (ts_5_5.2.2.2.2.2.2.2.2.2.2.1 rfl), tn_RX11, tp_17⟩
theorem im_X11_lengthOf : Cond.instanceMethod yX11_lengthOf ∈ TB := (ts_5_5.2.2.2.2.2.2.2.2.2.1 rfl)
theorem se_X11_lengthOf : Cond.selects yX11_lengthOf.cls yX11_lengthOf yX11_lengthOf ∈ TB := (ts_0_3.2.2.1 rfl)
theorem mf_X11_jumper : MF yX11_jumper cX11_jumper 3 (some .int) 2 := ⟨(tk_1.2.2.2.2.2.2.2.2.2.2.2.2.1 rfl), (ts_5_7.2.2.2.2.2.2.2.2.2.2.2.2.2.1 rfl), tn_RX11, tp_12⟩
theorem im_X11_jumper : Cond.instanceMethod yX11_jumper ∈ TB := (ts_5_7.2.2.2.2.2.2.2.2.2.2.2.1 rfl)
theorem se_X11_jumper : Cond.selects yX11_jumper.cls yX11_jumper yX11_jumper ∈ TB := (ts_5_7.2.2.2.2.2.2.2.2.2.2.2.2.1 rfl)
theorem mf_X11_mark : MF yX11_mark cX11_mark 5 (some .int) 2 := ⟨(tk_1.2.2.2.2.2.2.2.2.2.2.2.2.1 rfl), (ts_5_8.2.2.2.2.2.2.2.2.2.2.2.2.2.1 rfl), tn_RX11, tp_12⟩
theorem im_X11_mark : Cond.instanceMethod yX11_mark ∈ TB := (ts_5_8.2.2.2.2.2.2.2.2.2.2.2.1 rfl)
theorem se_X11_mark : Cond.selects yX11_mark.cls yX11_mark yX11_mark ∈ TB := (ts_5_8.2.2.2.2.2.2.2.2.2.2.2.2.1 rfl)
theorem mf_X11_look : MF yX11_look cX11_look 5 (some .int) 2 := ⟨(tk_1.2.2.2.2.2.2.2.2.2.2.2.2.1 rfl), (ts_5_9.2.1 rfl), tn_RX11, tp_12⟩
theorem im_X11_look : Cond.instanceMethod yX11_look ∈ TB := (ts_5_8.2.2.2.2.2.2.2.2.2.2.2.2.2.2.2.1 rfl)
theorem se_X11_look : Cond.selects yX11_look.cls yX11_look yX11_look ∈ TB := (ts_5_9.1 rfl)
theorem mf_X11_set : MF yX11_set cX11_set 5 (some .int) 2 := ⟨(tk_1.2.2.2.2.2.2.2.2.2.2.2.2.1 rfl), (ts_5_9.2.2.2.2.2.1 rfl), tn_RX11, tp_12⟩
theorem im_X11_set : Cond.instanceMethod yX11_set ∈ TB := (ts_5_9.2.2.2.1 rfl)
theorem se_X11_set : Cond.selects yX11_set.cls yX11_set yX11_set ∈ TB := (ts_5_9.2.2.2.2.1 rfl)
theorem mf_X11_wind : MF yX11_wind cX11_wind 4 (some .int) 1 := ⟨(tk_1.2.2.2.2.2.2.2.2.2.2.2.2.1 rfl), (ts_5_9.2.2.2.2.2.2.2.2.2.1 rfl), tn_RX11, tp_11⟩
theorem im_X11_wind : Cond.instanceMethod yX11_wind ∈ TB := (ts_5_9.2.2.2.2.2.2.2.1 rfl)
theorem se_X11_wind : Cond.selects yX11_wind.cls yX11_wind yX11_wind ∈ TB := (ts_5_9.2.2.2.2.2.2.2.2.1 rfl)
theorem mf_X11_stride : MF yX11_stride cX11_stride 4 (some .int) 2 := ⟨(tk_1.2.2.2.2.2.2.2.2.2.2.2.2.1 rfl), (ts_5_10.2.2.1 rfl), tn_RX11, tp_12⟩
theorem im_X11_stride : Cond.instanceMethod yX11_stride ∈ TB := (ts_5_10.1 rfl)
theorem se_X11_stride : Cond.selects yX11_stride.cls yX11_stride yX11_stride ∈ TB := (ts_5_10.2.1 rfl)
theorem mf_X11_place : MF yX11_place cX11_place 2 (some .int) 1 := ⟨(tk_1.2.2.2.2.2.2.2.2.2.2.2.2.1 rfl), (ts_5_10.2.2.2.2.2.2.2.2.2.2.1 rfl), tn_RX11, tp_11⟩
theorem im_X11_place : Cond.instanceMethod yX11_place ∈ TB := (ts_5_10.2.2.2.2.2.2.2.2.1 rfl)
theorem se_X11_place : Cond.selects yX11_place.cls yX11_place yX11_place ∈ TB := (ts_5_10.2.2.2.2.2.2.2.2.2.1 rfl)
theorem mf_X11_length : MF yX11_length cX11_length 5 (some .int) 3 := ⟨(tk_1.2.2.2.2.2.2.2.2.2.2.2.2.1 rfl), (ts_5_11.2.2.2.2.2.2.1 rfl), tn_RX11, tp_17⟩
theorem im_X11_length : Cond.instanceMethod yX11_length ∈ TB := (ts_5_11.2.2.2.2.1 rfl)
theorem se_X11_length : Cond.selects yX11_length.cls yX11_length yX11_length ∈ TB := (ts_5_11.2.2.2.2.2.1 rfl)
theorem mf_X11_findWays : MF yX11_findWays cX11_findWays 7 none 2 := ⟨(tk_1.2.2.2.2.2.2.2.2.2.2.2.2.1 rfl), (ts_5_12.2.2.2.2.2.2.1 rfl), tn_RX11, tp_34⟩
theorem st_X11_findWays : Cond.static yX11_findWays ∈ TB := (ts_5_12.2.2.2.2.2.1 rfl)
theorem mf_X11_counted : MF yX11_counted cX11_counted 13 (some .long) 4 := ⟨(tk_1.2.2.2.2.2.2.2.2.2.2.2.2.1 rfl), (ts_5_12.2.2.2.1 rfl), tn_RX11, tp_35⟩
theorem im_X11_counted : Cond.instanceMethod yX11_counted ∈ TB := (ts_5_12.2.2.1 rfl)
theorem se_X11_counted : Cond.selects yX11_counted.cls yX11_counted yX11_counted ∈ TB := (ts_0_4.1 rfl)
theorem mf_X11_countedOne : MF yX11_countedOne cX11_countedOne 6 (some .int) 5 := ⟨(tk_1.2.2.2.2.2.2.2.2.2.2.2.2.1 rfl), (ts_5_12.2.2.2.2.2.2.2.2.2.2.1 rfl), tn_RX11, tp_36⟩
theorem im_X11_countedOne : Cond.instanceMethod yX11_countedOne ∈ TB := (ts_5_12.2.2.2.2.2.2.2.2.2.1 rfl)
theorem se_X11_countedOne : Cond.selects yX11_countedOne.cls yX11_countedOne yX11_countedOne ∈ TB := (ts_0_4.2.1 rfl)
theorem mf_X11_allWays : MF yX11_allWays cX11_allWays 1 (some .long) 0 := ⟨(tk_1.2.2.2.2.2.2.2.2.2.2.2.2.1 rfl), (ts_5_12.2.2.2.2.2.2.2.2.2.2.2.2.2.2.1 rfl), tn_RX11, tp_6⟩
theorem im_X11_allWays : Cond.instanceMethod yX11_allWays ∈ TB := (ts_5_12.2.2.2.2.2.2.2.2.2.2.2.2.2.1 rfl)
theorem se_X11_allWays : Cond.selects yX11_allWays.cls yX11_allWays yX11_allWays ∈ TB := (ts_0_4.2.2.1 rfl)
theorem mf_X11_divisor : MF yX11_divisor cX11_divisor 10 (some .long) 2 := ⟨(tk_1.2.2.2.2.2.2.2.2.2.2.2.2.1 rfl), (ts_5_13.2.2.2.2.1 rfl), tn_RX11, tp_37⟩
theorem st_X11_divisor : Cond.static yX11_divisor ∈ TB := (ts_5_13.2.2.2.1 rfl)
theorem mf_X11_partOf : MF yX11_partOf cX11_partOf 5 (some .long) 3 := ⟨(tk_1.2.2.2.2.2.2.2.2.2.2.2.2.1 rfl), (ts_5_13.2.1 rfl), tn_RX11, tp_23⟩
theorem st_X11_partOf : Cond.static yX11_partOf ∈ TB := (ts_5_13.1 rfl)
theorem mf_X11_off : MF yX11_off cX11_off 5 (some .long) 3 := ⟨(tk_1.2.2.2.2.2.2.2.2.2.2.2.2.1 rfl), (ts_5_11.2.2.2.2.2.2.2.2.2.2.1 rfl), tn_RX11, tp_25⟩
theorem im_X11_off : Cond.instanceMethod yX11_off ∈ TB := (ts_5_11.2.2.2.2.2.2.2.2.1 rfl)
theorem se_X11_off : Cond.selects yX11_off.cls yX11_off yX11_off ∈ TB := (ts_5_11.2.2.2.2.2.2.2.2.2.1 rfl)
theorem mf_X11_meanParts : MF yX11_meanParts cX11_meanParts 2 (some .long) 1 := ⟨(tk_1.2.2.2.2.2.2.2.2.2.2.2.2.1 rfl), (ts_5_13.2.2.2.2.2.2.2.2.2.2.2.2.1 rfl), tn_RX11, tp_7⟩
theorem im_X11_meanParts : Cond.instanceMethod yX11_meanParts ∈ TB := (ts_5_13.2.2.2.2.2.2.2.2.2.2.2.1 rfl)
theorem se_X11_meanParts : Cond.selects yX11_meanParts.cls yX11_meanParts yX11_meanParts ∈ TB := (ts_0_4.2.2.2.1 rfl)
theorem mf_X11_mean : MF yX11_mean cX11_mean 4 (some .long) 3 := ⟨(tk_1.2.2.2.2.2.2.2.2.2.2.2.2.1 rfl), (ts_5_13.2.2.2.2.2.2.2.2.1 rfl), tn_RX11, tp_25⟩
theorem im_X11_mean : Cond.instanceMethod yX11_mean ∈ TB := (ts_5_13.2.2.2.2.2.2.1 rfl)
theorem se_X11_mean : Cond.selects yX11_mean.cls yX11_mean yX11_mean ∈ TB := (ts_5_13.2.2.2.2.2.2.2.1 rfl)
theorem mf_X11_past : MF yX11_past cX11_past 5 (some .long) 3 := ⟨(tk_1.2.2.2.2.2.2.2.2.2.2.2.2.1 rfl), (ts_5_14.1 rfl), tn_RX11, tp_25⟩
theorem im_X11_past : Cond.instanceMethod yX11_past ∈ TB := (ts_5_13.2.2.2.2.2.2.2.2.2.2.2.2.2.2.1 rfl)
theorem se_X11_past : Cond.selects yX11_past.cls yX11_past yX11_past ∈ TB := (ts_5_13.2.2.2.2.2.2.2.2.2.2.2.2.2.2.2.1 rfl)
theorem mf_X11_bestLook : MF yX11_bestLook cX11_bestLook 9 (some .int) 1 := ⟨(tk_1.2.2.2.2.2.2.2.2.2.2.2.2.1 rfl), (ts_5_14.2.2.2.2.1 rfl), tn_RX11, tp_11⟩
theorem im_X11_bestLook : Cond.instanceMethod yX11_bestLook ∈ TB := (ts_5_14.2.2.1 rfl)
theorem se_X11_bestLook : Cond.selects yX11_bestLook.cls yX11_bestLook yX11_bestLook ∈ TB := (ts_5_14.2.2.2.1 rfl)
theorem mf_X11_bestMark : MF yX11_bestMark cX11_bestMark 11 (some .int) 2 := ⟨(tk_1.2.2.2.2.2.2.2.2.2.2.2.2.1 rfl), (ts_5_14.2.2.2.2.2.2.2.2.2.1 rfl), tn_RX11, tp_12⟩
theorem im_X11_bestMark : Cond.instanceMethod yX11_bestMark ∈ TB := (ts_5_14.2.2.2.2.2.2.2.1 rfl)
theorem se_X11_bestMark : Cond.selects yX11_bestMark.cls yX11_bestMark yX11_bestMark ∈ TB := (ts_5_14.2.2.2.2.2.2.2.2.1 rfl)
theorem mf_X11_back : MF yX11_back cX11_back 4 (some .int) 2 := ⟨(tk_1.2.2.2.2.2.2.2.2.2.2.2.2.1 rfl), (ts_5_14.2.2.2.2.2.2.2.2.2.2.2.2.2.1 rfl), tn_RX11, tp_12⟩
theorem im_X11_back : Cond.instanceMethod yX11_back ∈ TB := (ts_5_14.2.2.2.2.2.2.2.2.2.2.2.1 rfl)
theorem se_X11_back : Cond.selects yX11_back.cls yX11_back yX11_back ∈ TB := (ts_5_14.2.2.2.2.2.2.2.2.2.2.2.2.1 rfl)
theorem mf_X11_triedAs : MF yX11_triedAs cX11_triedAs 3 (some .int) 2 := ⟨(tk_1.2.2.2.2.2.2.2.2.2.2.2.2.1 rfl), (ts_5_5.2.2.2.2.2.2.1 rfl), tn_RX11, tp_12⟩
theorem im_X11_triedAs : Cond.instanceMethod yX11_triedAs ∈ TB := (ts_5_5.2.2.2.2.2.1 rfl)
theorem se_X11_triedAs : Cond.selects yX11_triedAs.cls yX11_triedAs yX11_triedAs ∈ TB := (ts_0_3.2.1 rfl)
theorem mf_X11_findBest : MF yX11_findBest cX11_findBest 4 none 2 := ⟨(tk_1.2.2.2.2.2.2.2.2.2.2.2.2.1 rfl), (ts_5_5.2.2.1 rfl), tn_RX11, tp_20⟩
theorem im_X11_findBest : Cond.instanceMethod yX11_findBest ∈ TB := (ts_5_5.2.1 rfl)
theorem se_X11_findBest : Cond.selects yX11_findBest.cls yX11_findBest yX11_findBest ∈ TB := (ts_0_3.1 rfl)
theorem mf_X11_comesLength : MF yX11_comesLength cX11_comesLength 3 none 2 := ⟨(tk_1.2.2.2.2.2.2.2.2.2.2.2.2.1 rfl), (ts_5_6.2.1 rfl), tn_RX11, tp_20⟩
theorem im_X11_comesLength : Cond.instanceMethod yX11_comesLength ∈ TB := (ts_5_6.1 rfl)
theorem se_X11_comesLength : Cond.selects yX11_comesLength.cls yX11_comesLength yX11_comesLength ∈ TB := (ts_0_3.2.2.2.1 rfl)
theorem mf_X11_isAhead : MF yX11_isAhead cX11_isAhead 3 (some .boolean) 2 := ⟨(tk_1.2.2.2.2.2.2.2.2.2.2.2.2.1 rfl), (ts_5_6.2.2.2.2.2.2.2.2.2.1 rfl), tn_RX11, tp_30⟩
theorem im_X11_isAhead : Cond.instanceMethod yX11_isAhead ∈ TB := (ts_5_6.2.2.2.2.2.2.2.2.1 rfl)
theorem se_X11_isAhead : Cond.selects yX11_isAhead.cls yX11_isAhead yX11_isAhead ∈ TB := (ts_0_3.2.2.2.2.2.1 rfl)
theorem mf_X11_sorts : MF yX11_sorts cX11_sorts 3 none 0 := ⟨(tk_1.2.2.2.2.2.2.2.2.2.2.2.2.1 rfl), (ts_5_6.2.2.2.2.2.1 rfl), tn_RX11, tp_0⟩
theorem im_X11_sorts : Cond.instanceMethod yX11_sorts ∈ TB := (ts_5_6.2.2.2.2.1 rfl)
theorem se_X11_sorts : Cond.selects yX11_sorts.cls yX11_sorts yX11_sorts ∈ TB := (ts_0_3.2.2.2.2.1 rfl)
theorem mf_X11_ranksNow : MF yX11_ranksNow cX11_ranksNow 1 none 0 := ⟨(tk_1.2.2.2.2.2.2.2.2.2.2.2.2.1 rfl), (ts_6_2.2.2.2.2.2.2.2.2.2.2.2.2.2.1 rfl), tn_RX11, tp_0⟩
theorem im_X11_ranksNow : Cond.instanceMethod yX11_ranksNow ∈ TB := (ts_6_2.2.2.2.2.2.2.2.2.2.2.2.2.1 rfl)
theorem se_X11_ranksNow : Cond.selects yX11_ranksNow.cls yX11_ranksNow yX11_ranksNow ∈ TB := (ts_0_4.2.2.2.2.2.2.2.1 rfl)
theorem mf_X11_finalists : MF yX11_finalists cX11_finalists 1 (some .int) 0 := ⟨(tk_1.2.2.2.2.2.2.2.2.2.2.2.2.1 rfl), (ts_5_4.2.2.2.2.2.2.2.2.2.2.2.2.2.2.1 rfl), tn_RX11, tp_15⟩
theorem im_X11_finalists : Cond.instanceMethod yX11_finalists ∈ TB := (ts_5_4.2.2.2.2.2.2.2.2.2.2.2.2.2.1 rfl)
theorem se_X11_finalists : Cond.selects yX11_finalists.cls yX11_finalists yX11_finalists ∈ TB := (ts_0_2.2.2.2.2.2.2.2.2.2.2.2.2.2.2.2.1 rfl)
theorem mf_X11_turnNow : MF yX11_turnNow cX11_turnNow 1 (some .int) 0 := ⟨(tk_1.2.2.2.2.2.2.2.2.2.2.2.2.1 rfl), (ts_5_4.2.2.2.2.2.2.2.2.2.2.1 rfl), tn_RX11, tp_15⟩
theorem im_X11_turnNow : Cond.instanceMethod yX11_turnNow ∈ TB := (ts_5_4.2.2.2.2.2.2.2.2.2.1 rfl)
theorem se_X11_turnNow : Cond.selects yX11_turnNow.cls yX11_turnNow yX11_turnNow ∈ TB := (ts_0_2.2.2.2.2.2.2.2.2.2.2.2.2.2.2.1 rfl)
theorem mf_X11_roundNow : MF yX11_roundNow cX11_roundNow 1 (some .int) 0 := ⟨(tk_1.2.2.2.2.2.2.2.2.2.2.2.2.1 rfl), (ts_6_5.2.2.2.2.2.2.2.2.2.2.1 rfl), tn_RX11, tp_15⟩
theorem im_X11_roundNow : Cond.instanceMethod yX11_roundNow ∈ TB := (ts_6_5.2.2.2.2.2.2.2.2.2.1 rfl)
theorem se_X11_roundNow : Cond.selects yX11_roundNow.cls yX11_roundNow yX11_roundNow ∈ TB := (ts_0_4.2.2.2.2.2.2.2.2.2.2.2.1 rfl)
theorem mf_X11_putsTry : MF yX11_putsTry cX11_putsTry 4 none 3 := ⟨(tk_1.2.2.2.2.2.2.2.2.2.2.2.2.1 rfl), (ts_5_7.2.1 rfl), tn_RX11, tp_38⟩
theorem im_X11_putsTry : Cond.instanceMethod yX11_putsTry ∈ TB := (ts_5_7.1 rfl)
theorem se_X11_putsTry : Cond.selects yX11_putsTry.cls yX11_putsTry yX11_putsTry ∈ TB := (ts_0_3.2.2.2.2.2.2.2.1 rfl)
theorem mf_X11_triesOf : MF yX11_triesOf cX11_triesOf 4 (some .int) 1 := ⟨(tk_1.2.2.2.2.2.2.2.2.2.2.2.2.1 rfl), (ts_5_8.2.2.2.2.2.2.2.2.2.1 rfl), tn_RX11, tp_11⟩
theorem im_X11_triesOf : Cond.instanceMethod yX11_triesOf ∈ TB := (ts_5_8.2.2.2.2.2.2.2.2.1 rfl)
theorem se_X11_triesOf : Cond.selects yX11_triesOf.cls yX11_triesOf yX11_triesOf ∈ TB := (ts_0_3.2.2.2.2.2.2.2.2.2.2.1 rfl)
theorem mf_X11_turn : MF yX11_turn cX11_turn 1 (some .int) 0 := ⟨(tk_1.2.2.2.2.2.2.2.2.2.2.2.2.1 rfl), (tk_6.2.1 rfl), tn_RX11, tp_15⟩
theorem im_X11_turn : Cond.instanceMethod yX11_turn ∈ TB := (ts_5_14.2.2.2.2.2.2.2.2.2.2.2.2.2.2.2.1 rfl)
theorem se_X11_turn : Cond.selects yX11_turn.cls yX11_turn yX11_turn ∈ TB := (tk_6.1 rfl)
theorem mf_X11_jump : MF yX11_jump cX11_jump 4 (some .int) 2 := ⟨(tk_1.2.2.2.2.2.2.2.2.2.2.2.2.1 rfl), (tk_6.2.2.2.2.2.1 rfl), tn_RX11, tp_12⟩
theorem im_X11_jump : Cond.instanceMethod yX11_jump ∈ TB := (tk_6.2.2.2.1 rfl)
theorem se_X11_jump : Cond.selects yX11_jump.cls yX11_jump yX11_jump ∈ TB := (tk_6.2.2.2.2.1 rfl)
theorem mf_X11_none : MF yX11_none cX11_none 4 (some .int) 2 := ⟨(tk_1.2.2.2.2.2.2.2.2.2.2.2.2.1 rfl), (tk_6.2.2.2.2.2.2.2.2.2.1 rfl), tn_RX11, tp_12⟩
theorem im_X11_none : Cond.instanceMethod yX11_none ∈ TB := (tk_6.2.2.2.2.2.2.2.1 rfl)
theorem se_X11_none : Cond.selects yX11_none.cls yX11_none yX11_none ∈ TB := (tk_6.2.2.2.2.2.2.2.2.1 rfl)
theorem mf_X11_undo : MF yX11_undo cX11_undo 1 (some .int) 0 := ⟨(tk_1.2.2.2.2.2.2.2.2.2.2.2.2.1 rfl), (tk_6.2.2.2.2.2.2.2.2.2.2.2.2.2.1 rfl), tn_RX11, tp_15⟩
theorem im_X11_undo : Cond.instanceMethod yX11_undo ∈ TB := (tk_6.2.2.2.2.2.2.2.2.2.2.2.1 rfl)
theorem se_X11_undo : Cond.selects yX11_undo.cls yX11_undo yX11_undo ∈ TB := (tk_6.2.2.2.2.2.2.2.2.2.2.2.2.1 rfl)
theorem mf_X11_tried : MF yX11_tried cX11_tried 5 (some .int) 2 := ⟨(tk_1.2.2.2.2.2.2.2.2.2.2.2.2.1 rfl), (ts_6_1.2.1 rfl), tn_RX11, tp_12⟩
theorem im_X11_tried : Cond.instanceMethod yX11_tried ∈ TB := (tk_6.2.2.2.2.2.2.2.2.2.2.2.2.2.2.2.1 rfl)
theorem se_X11_tried : Cond.selects yX11_tried.cls yX11_tried yX11_tried ∈ TB := (ts_6_1.1 rfl)
theorem mf_X11_rankOf : MF yX11_rankOf cX11_rankOf 3 (some .int) 1 := ⟨(tk_1.2.2.2.2.2.2.2.2.2.2.2.2.1 rfl), (ts_6_1.2.2.2.2.2.2.2.2.2.2.2.2.2.1 rfl), tn_RX11, tp_11⟩
theorem im_X11_rankOf : Cond.instanceMethod yX11_rankOf ∈ TB := (ts_6_1.2.2.2.2.2.2.2.2.2.2.2.2.1 rfl)
theorem se_X11_rankOf : Cond.selects yX11_rankOf.cls yX11_rankOf yX11_rankOf ∈ TB := (ts_0_4.2.2.2.2.2.1 rfl)
theorem mf_X11_isEnough : MF yX11_isEnough cX11_isEnough 4 (some .boolean) 3 := ⟨(tk_1.2.2.2.2.2.2.2.2.2.2.2.2.1 rfl), (ts_6_1.2.2.2.2.2.2.2.2.2.1 rfl), tn_RX11, tp_29⟩
theorem im_X11_isEnough : Cond.instanceMethod yX11_isEnough ∈ TB := (ts_6_1.2.2.2.2.2.2.2.2.1 rfl)
theorem se_X11_isEnough : Cond.selects yX11_isEnough.cls yX11_isEnough yX11_isEnough ∈ TB := (ts_0_4.2.2.2.2.1 rfl)
theorem mf_X11_needs : MF yX11_needs cX11_needs 5 (some .int) 2 := ⟨(tk_1.2.2.2.2.2.2.2.2.2.2.2.2.1 rfl), (ts_6_1.2.2.2.2.2.1 rfl), tn_RX11, tp_12⟩
theorem im_X11_needs : Cond.instanceMethod yX11_needs ∈ TB := (ts_6_1.2.2.2.1 rfl)
theorem se_X11_needs : Cond.selects yX11_needs.cls yX11_needs yX11_needs ∈ TB := (ts_6_1.2.2.2.2.1 rfl)
theorem mf_X11_ranks : MF yX11_ranks cX11_ranks 4 (some .int) 1 := ⟨(tk_1.2.2.2.2.2.2.2.2.2.2.2.2.1 rfl), (ts_6_2.2.1 rfl), tn_RX11, tp_11⟩
theorem im_X11_ranks : Cond.instanceMethod yX11_ranks ∈ TB := (ts_6_1.2.2.2.2.2.2.2.2.2.2.2.2.2.2.2.1 rfl)
theorem se_X11_ranks : Cond.selects yX11_ranks.cls yX11_ranks yX11_ranks ∈ TB := (ts_6_2.1 rfl)
theorem mf_X11_leader : MF yX11_leader cX11_leader 1 (some .int) 0 := ⟨(tk_1.2.2.2.2.2.2.2.2.2.2.2.2.1 rfl), (ts_6_2.2.2.2.2.2.2.2.2.2.1 rfl), tn_RX11, tp_15⟩
theorem im_X11_leader : Cond.instanceMethod yX11_leader ∈ TB := (ts_6_2.2.2.2.2.2.2.2.2.1 rfl)
theorem se_X11_leader : Cond.selects yX11_leader.cls yX11_leader yX11_leader ∈ TB := (ts_0_4.2.2.2.2.2.2.1 rfl)
theorem mf_X11_leads : MF yX11_leads cX11_leads 1 (some .int) 0 := ⟨(tk_1.2.2.2.2.2.2.2.2.2.2.2.2.1 rfl), (ts_6_2.2.2.2.2.2.1 rfl), tn_RX11, tp_15⟩
theorem im_X11_leads : Cond.instanceMethod yX11_leads ∈ TB := (ts_6_2.2.2.2.1 rfl)
theorem se_X11_leads : Cond.selects yX11_leads.cls yX11_leads yX11_leads ∈ TB := (ts_6_2.2.2.2.2.1 rfl)
theorem mf_X11_goOnBits : MF yX11_goOnBits cX11_goOnBits 3 (some .int) 0 := ⟨(tk_1.2.2.2.2.2.2.2.2.2.2.2.2.1 rfl), (ts_6_3.2.2.2.2.2.1 rfl), tn_RX11, tp_15⟩
theorem im_X11_goOnBits : Cond.instanceMethod yX11_goOnBits ∈ TB := (ts_6_3.2.2.2.2.1 rfl)
theorem se_X11_goOnBits : Cond.selects yX11_goOnBits.cls yX11_goOnBits yX11_goOnBits ∈ TB := (ts_0_4.2.2.2.2.2.2.2.2.1 rfl)
theorem mf_X11_goOn : MF yX11_goOn cX11_goOn 1 (some .int) 0 := ⟨(tk_1.2.2.2.2.2.2.2.2.2.2.2.2.1 rfl), (ts_6_3.2.1 rfl), tn_RX11, tp_15⟩
theorem im_X11_goOn : Cond.instanceMethod yX11_goOn ∈ TB := (ts_6_2.2.2.2.2.2.2.2.2.2.2.2.2.2.2.2.1 rfl)
theorem se_X11_goOn : Cond.selects yX11_goOn.cls yX11_goOn yX11_goOn ∈ TB := (ts_6_3.1 rfl)
theorem mf_X11_tenThousandths : MF yX11_tenThousandths cX11_tenThousandths 10 (some .int) 4 := ⟨(tk_1.2.2.2.2.2.2.2.2.2.2.2.2.1 rfl), (ts_6_3.2.2.2.2.2.2.2.2.2.2.2.2.2.1 rfl), tn_RX11, tp_26⟩
theorem im_X11_tenThousandths : Cond.instanceMethod yX11_tenThousandths ∈ TB := (ts_6_3.2.2.2.2.2.2.2.2.2.2.2.2.1 rfl)
theorem se_X11_tenThousandths : Cond.selects yX11_tenThousandths.cls yX11_tenThousandths yX11_tenThousandths ∈ TB := (ts_0_4.2.2.2.2.2.2.2.2.2.1 rfl)
theorem mf_X11_aim : MF yX11_aim cX11_aim 10 (some .int) 4 := ⟨(tk_1.2.2.2.2.2.2.2.2.2.2.2.2.1 rfl), (ts_6_3.2.2.2.2.2.2.2.2.2.1 rfl), tn_RX11, tp_26⟩
theorem im_X11_aim : Cond.instanceMethod yX11_aim ∈ TB := (ts_6_3.2.2.2.2.2.2.2.1 rfl)
theorem se_X11_aim : Cond.selects yX11_aim.cls yX11_aim yX11_aim ∈ TB := (ts_6_3.2.2.2.2.2.2.2.2.1 rfl)
theorem mf_X11_tooLong : MF yX11_tooLong cX11_tooLong 3 (some .int) 0 := ⟨(tk_1.2.2.2.2.2.2.2.2.2.2.2.2.1 rfl), (ts_6_4.2.2.1 rfl), tn_RX11, tp_15⟩
theorem im_X11_tooLong : Cond.instanceMethod yX11_tooLong ∈ TB := (ts_6_4.1 rfl)
theorem se_X11_tooLong : Cond.selects yX11_tooLong.cls yX11_tooLong yX11_tooLong ∈ TB := (ts_6_4.2.1 rfl)
theorem mf_X11_unlike : MF yX11_unlike cX11_unlike 4 (some .int) 0 := ⟨(tk_1.2.2.2.2.2.2.2.2.2.2.2.2.1 rfl), (ts_6_4.2.2.2.2.2.2.1 rfl), tn_RX11, tp_15⟩
theorem im_X11_unlike : Cond.instanceMethod yX11_unlike ∈ TB := (ts_6_4.2.2.2.2.1 rfl)
theorem se_X11_unlike : Cond.selects yX11_unlike.cls yX11_unlike yX11_unlike ∈ TB := (ts_6_4.2.2.2.2.2.1 rfl)
theorem mf_X11_isMovedFrom : MF yX11_isMovedFrom cX11_isMovedFrom 5 (some .boolean) 2 := ⟨(tk_1.2.2.2.2.2.2.2.2.2.2.2.2.1 rfl), (ts_6_4.2.2.2.2.2.2.2.2.2.2.2.2.2.2.1 rfl), tn_RX11, tp_30⟩
theorem im_X11_isMovedFrom : Cond.instanceMethod yX11_isMovedFrom ∈ TB := (ts_6_4.2.2.2.2.2.2.2.2.2.2.2.2.2.1 rfl)
theorem se_X11_isMovedFrom : Cond.selects yX11_isMovedFrom.cls yX11_isMovedFrom yX11_isMovedFrom ∈ TB := (ts_0_4.2.2.2.2.2.2.2.2.2.2.1 rfl)
theorem mf_X11_moved : MF yX11_moved cX11_moved 4 (some .int) 1 := ⟨(tk_1.2.2.2.2.2.2.2.2.2.2.2.2.1 rfl), (ts_6_4.2.2.2.2.2.2.2.2.2.2.1 rfl), tn_RX11, tp_11⟩
theorem im_X11_moved : Cond.instanceMethod yX11_moved ∈ TB := (ts_6_4.2.2.2.2.2.2.2.2.1 rfl)
theorem se_X11_moved : Cond.selects yX11_moved.cls yX11_moved yX11_moved ∈ TB := (ts_6_4.2.2.2.2.2.2.2.2.2.1 rfl)
theorem mf_X11_gusts : MF yX11_gusts cX11_gusts 10 (some .int) 1 := ⟨(tk_1.2.2.2.2.2.2.2.2.2.2.2.2.1 rfl), (ts_6_5.2.2.1 rfl), tn_RX11, tp_11⟩
theorem im_X11_gusts : Cond.instanceMethod yX11_gusts ∈ TB := (ts_6_5.1 rfl)
theorem se_X11_gusts : Cond.selects yX11_gusts.cls yX11_gusts yX11_gusts ∈ TB := (ts_6_5.2.1 rfl)
theorem mf_X11_on : MF yX11_on cX11_on 10 (some .long) 2 := ⟨(tk_1.2.2.2.2.2.2.2.2.2.2.2.2.1 rfl), (ts_6_5.2.2.2.2.2.2.1 rfl), tn_RX11, tp_27⟩
theorem im_X11_on : Cond.instanceMethod yX11_on ∈ TB := (ts_6_5.2.2.2.2.1 rfl)
theorem se_X11_on : Cond.selects yX11_on.cls yX11_on yX11_on ∈ TB := (ts_6_5.2.2.2.2.2.1 rfl)
theorem mf_X11_row : MF yX11_row cX11_row 3 (some .int) 1 := ⟨(tk_1.2.2.2.2.2.2.2.2.2.2.2.2.1 rfl), (ts_6_5.2.2.2.2.2.2.2.2.2.2.2.2.2.2.1 rfl), tn_RX11, tp_11⟩
theorem im_X11_row : Cond.instanceMethod yX11_row ∈ TB := (ts_6_5.2.2.2.2.2.2.2.2.2.2.2.2.1 rfl)
theorem se_X11_row : Cond.selects yX11_row.cls yX11_row yX11_row ∈ TB := (ts_6_5.2.2.2.2.2.2.2.2.2.2.2.2.2.1 rfl)
theorem mf_X11_isOther : MF yX11_isOther cX11_isOther 4 (some .boolean) 1 := ⟨(tk_1.2.2.2.2.2.2.2.2.2.2.2.2.1 rfl), (ts_6_6.2.2.2.2.2.2.1 rfl), tn_RX11, tp_21⟩
theorem im_X11_isOther : Cond.instanceMethod yX11_isOther ∈ TB := (ts_6_6.2.2.2.2.2.1 rfl)
theorem se_X11_isOther : Cond.selects yX11_isOther.cls yX11_isOther yX11_isOther ∈ TB := (ts_0_4.2.2.2.2.2.2.2.2.2.2.2.2.1 rfl)
theorem mf_X11_judge : MF yX11_judge cX11_judge 5 (some .int) 0 := ⟨(tk_1.2.2.2.2.2.2.2.2.2.2.2.2.1 rfl), (ts_6_6.2.2.1 rfl), tn_RX11, tp_15⟩
theorem im_X11_judge : Cond.instanceMethod yX11_judge ∈ TB := (ts_6_6.1 rfl)
theorem se_X11_judge : Cond.selects yX11_judge.cls yX11_judge yX11_judge ∈ TB := (ts_6_6.2.1 rfl)
theorem mf_X11_clear : MF yX11_clear cX11_clear 2 (some .int) 0 := ⟨(tk_1.2.2.2.2.2.2.2.2.2.2.2.2.1 rfl), (ts_6_6.2.2.2.2.2.2.2.2.2.2.1 rfl), tn_RX11, tp_15⟩
theorem im_X11_clear : Cond.instanceMethod yX11_clear ∈ TB := (ts_6_6.2.2.2.2.2.2.2.2.1 rfl)
theorem se_X11_clear : Cond.selects yX11_clear.cls yX11_clear yX11_clear ∈ TB := (ts_6_6.2.2.2.2.2.2.2.2.2.1 rfl)
theorem mf_X11_findLengths : MF yX11_findLengths cX11_findLengths 10 none 3 := ⟨(tk_1.2.2.2.2.2.2.2.2.2.2.2.2.1 rfl), (ts_6_7.2.2.1 rfl), tn_RX11, tp_39⟩
theorem im_X11_findLengths : Cond.instanceMethod yX11_findLengths ∈ TB := (ts_6_7.2.1 rfl)
theorem se_X11_findLengths : Cond.selects yX11_findLengths.cls yX11_findLengths yX11_findLengths ∈ TB := (ts_0_4.2.2.2.2.2.2.2.2.2.2.2.2.2.1 rfl)
theorem mf_X11_partOfWays : MF yX11_partOfWays cX11_partOfWays 3 (some .long) 1 := ⟨(tk_1.2.2.2.2.2.2.2.2.2.2.2.2.1 rfl), (ts_6_7.2.2.2.2.2.2.1 rfl), tn_RX11, tp_40⟩
theorem im_X11_partOfWays : Cond.instanceMethod yX11_partOfWays ∈ TB := (ts_6_7.2.2.2.2.2.1 rfl)
theorem se_X11_partOfWays : Cond.selects yX11_partOfWays.cls yX11_partOfWays yX11_partOfWays ∈ TB := (ts_0_4.2.2.2.2.2.2.2.2.2.2.2.2.2.2.1 rfl)
theorem mf_X11_parts : MF yX11_parts cX11_parts 4 (some .int) 2 := ⟨(tk_1.2.2.2.2.2.2.2.2.2.2.2.2.1 rfl), (ts_6_6.2.2.2.2.2.2.2.2.2.2.2.2.2.2.1 rfl), tn_RX11, tp_12⟩
theorem im_X11_parts : Cond.instanceMethod yX11_parts ∈ TB := (ts_6_6.2.2.2.2.2.2.2.2.2.2.2.2.1 rfl)
theorem se_X11_parts : Cond.selects yX11_parts.cls yX11_parts yX11_parts ∈ TB := (ts_6_6.2.2.2.2.2.2.2.2.2.2.2.2.2.1 rfl)
theorem mf_X11_areTwo : MF yX11_areTwo cX11_areTwo 3 (some .boolean) 2 := ⟨(tk_1.2.2.2.2.2.2.2.2.2.2.2.2.1 rfl), (ts_6_7.2.2.2.2.2.2.2.2.2.2.2.2.2.2.1 rfl), tn_RX11, tp_30⟩
theorem im_X11_areTwo : Cond.instanceMethod yX11_areTwo ∈ TB := (ts_6_7.2.2.2.2.2.2.2.2.2.2.2.2.2.1 rfl)
theorem se_X11_areTwo : Cond.selects yX11_areTwo.cls yX11_areTwo yX11_areTwo ∈ TB := (ts_0_4.2.2.2.2.2.2.2.2.2.2.2.2.2.2.2.1 rfl)
theorem mf_X11_moreFrom : MF yX11_moreFrom cX11_moreFrom 10 (some .int) 4 := ⟨(tk_1.2.2.2.2.2.2.2.2.2.2.2.2.1 rfl), (ts_6_8.2.2.1 rfl), tn_RX11, tp_26⟩
theorem im_X11_moreFrom : Cond.instanceMethod yX11_moreFrom ∈ TB := (ts_6_8.2.1 rfl)
theorem se_X11_moreFrom : Cond.selects yX11_moreFrom.cls yX11_moreFrom yX11_moreFrom ∈ TB := (ts_0_5.1 rfl)
theorem mf_X11_more : MF yX11_more cX11_more 3 (some .int) 2 := ⟨(tk_1.2.2.2.2.2.2.2.2.2.2.2.2.1 rfl), (ts_6_7.2.2.2.2.2.2.2.2.2.2.1 rfl), tn_RX11, tp_12⟩
theorem im_X11_more : Cond.instanceMethod yX11_more ∈ TB := (ts_6_7.2.2.2.2.2.2.2.2.1 rfl)
theorem se_X11_more : Cond.selects yX11_more.cls yX11_more yX11_more ∈ TB := (ts_6_7.2.2.2.2.2.2.2.2.2.1 rfl)
theorem mf_X11_rests : MF yX11_rests cX11_rests 3 (some .boolean) 1 := ⟨(tk_1.2.2.2.2.2.2.2.2.2.2.2.2.1 rfl), (ts_6_8.2.2.2.2.2.2.2.2.2.2.2.2.2.2.1 rfl), tn_RX11, tp_21⟩
theorem im_X11_rests : Cond.instanceMethod yX11_rests ∈ TB := (ts_6_8.2.2.2.2.2.2.2.2.2.2.2.2.2.1 rfl)
theorem se_X11_rests : Cond.selects yX11_rests.cls yX11_rests yX11_rests ∈ TB := (ts_0_5.2.2.1 rfl)
theorem mf_X11_sureMore : MF yX11_sureMore cX11_sureMore 5 (some .int) 0 := ⟨(tk_1.2.2.2.2.2.2.2.2.2.2.2.2.1 rfl), (ts_6_8.2.2.2.2.2.2.2.2.2.2.1 rfl), tn_RX11, tp_15⟩
theorem im_X11_sureMore : Cond.instanceMethod yX11_sureMore ∈ TB := (ts_6_8.2.2.2.2.2.2.2.2.2.1 rfl)
theorem se_X11_sureMore : Cond.selects yX11_sureMore.cls yX11_sureMore yX11_sureMore ∈ TB := (ts_0_5.2.1 rfl)
theorem mf_X11_duel : MF yX11_duel cX11_duel 6 (some .int) 3 := ⟨(tk_1.2.2.2.2.2.2.2.2.2.2.2.2.1 rfl), (ts_6_8.2.2.2.2.2.2.1 rfl), tn_RX11, tp_17⟩
theorem im_X11_duel : Cond.instanceMethod yX11_duel ∈ TB := (ts_6_8.2.2.2.2.1 rfl)
theorem se_X11_duel : Cond.selects yX11_duel.cls yX11_duel yX11_duel ∈ TB := (ts_6_8.2.2.2.2.2.1 rfl)
theorem mf_X11_canPractise : MF yX11_canPractise cX11_canPractise 3 (some .boolean) 2 := ⟨(tk_1.2.2.2.2.2.2.2.2.2.2.2.2.1 rfl), (ts_6_9.2.2.2.2.2.2.1 rfl), tn_RX11, tp_30⟩
theorem im_X11_canPractise : Cond.instanceMethod yX11_canPractise ∈ TB := (ts_6_9.2.2.2.2.2.1 rfl)
theorem se_X11_canPractise : Cond.selects yX11_canPractise.cls yX11_canPractise yX11_canPractise ∈ TB := (ts_0_5.2.2.2.1 rfl)
theorem mf_X11_practises : MF yX11_practises cX11_practises 4 none 3 := ⟨(tk_1.2.2.2.2.2.2.2.2.2.2.2.2.1 rfl), (ts_6_9.2.2.2.2.2.2.2.2.2.2.1 rfl), tn_RX11, tp_38⟩
theorem im_X11_practises : Cond.instanceMethod yX11_practises ∈ TB := (ts_6_9.2.2.2.2.2.2.2.2.2.1 rfl)
theorem se_X11_practises : Cond.selects yX11_practises.cls yX11_practises yX11_practises ∈ TB := (ts_0_5.2.2.2.2.1 rfl)
theorem mf_X11_practice : MF yX11_practice cX11_practice 9 (some .int) 1 := ⟨(tk_1.2.2.2.2.2.2.2.2.2.2.2.2.1 rfl), (ts_6_9.2.2.1 rfl), tn_RX11, tp_11⟩
theorem im_X11_practice : Cond.instanceMethod yX11_practice ∈ TB := (ts_6_9.1 rfl)
theorem se_X11_practice : Cond.selects yX11_practice.cls yX11_practice yX11_practice ∈ TB := (ts_6_9.2.1 rfl)
theorem mf_X11_bestRun : MF yX11_bestRun cX11_bestRun 11 (some .int) 1 := ⟨(tk_1.2.2.2.2.2.2.2.2.2.2.2.2.1 rfl), (ts_6_9.2.2.2.2.2.2.2.2.2.2.2.2.2.2.1 rfl), tn_RX11, tp_11⟩
theorem im_X11_bestRun : Cond.instanceMethod yX11_bestRun ∈ TB := (ts_6_9.2.2.2.2.2.2.2.2.2.2.2.2.1 rfl)
theorem se_X11_bestRun : Cond.selects yX11_bestRun.cls yX11_bestRun yX11_bestRun ∈ TB := (ts_6_9.2.2.2.2.2.2.2.2.2.2.2.2.2.1 rfl)
theorem mf_X11_markIn : MF yX11_markIn cX11_markIn 5 (some .int) 2 := ⟨(tk_1.2.2.2.2.2.2.2.2.2.2.2.2.1 rfl), (ts_6_10.2.2.1 rfl), tn_RX11, tp_12⟩
theorem im_X11_markIn : Cond.instanceMethod yX11_markIn ∈ TB := (ts_6_10.1 rfl)
theorem se_X11_markIn : Cond.selects yX11_markIn.cls yX11_markIn yX11_markIn ∈ TB := (ts_6_10.2.1 rfl)
theorem mf_X11_triesBy : MF yX11_triesBy cX11_triesBy 5 (some .int) 2 := ⟨(tk_1.2.2.2.2.2.2.2.2.2.2.2.2.1 rfl), (ts_6_10.2.2.2.2.2.2.2.2.2.2.1 rfl), tn_RX11, tp_12⟩
theorem im_X11_triesBy : Cond.instanceMethod yX11_triesBy ∈ TB := (ts_6_10.2.2.2.2.2.2.2.2.2.1 rfl)
theorem se_X11_triesBy : Cond.selects yX11_triesBy.cls yX11_triesBy yX11_triesBy ∈ TB := (ts_0_5.2.2.2.2.2.1 rfl)
theorem mf_X11_fouled : MF yX11_fouled cX11_fouled 4 (some .long) 2 := ⟨(tk_1.2.2.2.2.2.2.2.2.2.2.2.2.1 rfl), (ts_6_10.2.2.2.2.2.2.1 rfl), tn_RX11, tp_27⟩
theorem im_X11_fouled : Cond.instanceMethod yX11_fouled ∈ TB := (ts_6_10.2.2.2.2.1 rfl)
theorem se_X11_fouled : Cond.selects yX11_fouled.cls yX11_fouled yX11_fouled ∈ TB := (ts_6_10.2.2.2.2.2.1 rfl)
theorem mf_X11_better : MF yX11_better cX11_better 5 (some .int) 1 := ⟨(tk_1.2.2.2.2.2.2.2.2.2.2.2.2.1 rfl), (ts_6_10.2.2.2.2.2.2.2.2.2.2.2.2.2.2.1 rfl), tn_RX11, tp_11⟩
theorem im_X11_better : Cond.instanceMethod yX11_better ∈ TB := (ts_6_10.2.2.2.2.2.2.2.2.2.2.2.2.1 rfl)
theorem se_X11_better : Cond.selects yX11_better.cls yX11_better yX11_better ∈ TB := (ts_6_10.2.2.2.2.2.2.2.2.2.2.2.2.2.1 rfl)
theorem mf_X11_half : MF yX11_half cX11_half 6 (some .int) 1 := ⟨(tk_1.2.2.2.2.2.2.2.2.2.2.2.2.1 rfl), (ts_6_11.2.2.1 rfl), tn_RX11, tp_11⟩
theorem im_X11_half : Cond.instanceMethod yX11_half ∈ TB := (ts_6_11.1 rfl)
theorem se_X11_half : Cond.selects yX11_half.cls yX11_half yX11_half ∈ TB := (ts_6_11.2.1 rfl)
theorem mf_X11_safe : MF yX11_safe cX11_safe 4 (some .int) 1 := ⟨(tk_1.2.2.2.2.2.2.2.2.2.2.2.2.1 rfl), (ts_6_11.2.2.2.2.2.2.1 rfl), tn_RX11, tp_11⟩
theorem im_X11_safe : Cond.instanceMethod yX11_safe ∈ TB := (ts_6_11.2.2.2.2.1 rfl)
theorem se_X11_safe : Cond.selects yX11_safe.cls yX11_safe yX11_safe ∈ TB := (ts_6_11.2.2.2.2.2.1 rfl)
theorem mf_X11_mayStill : MF yX11_mayStill cX11_mayStill 4 (some .int) 0 := ⟨(tk_1.2.2.2.2.2.2.2.2.2.2.2.2.1 rfl), (ts_6_11.2.2.2.2.2.2.2.2.2.2.1 rfl), tn_RX11, tp_15⟩
theorem im_X11_mayStill : Cond.instanceMethod yX11_mayStill ∈ TB := (ts_6_11.2.2.2.2.2.2.2.2.1 rfl)
theorem se_X11_mayStill : Cond.selects yX11_mayStill.cls yX11_mayStill yX11_mayStill ∈ TB := (ts_6_11.2.2.2.2.2.2.2.2.2.1 rfl)
theorem mf_X11_drawnSlip : MF yX11_drawnSlip cX11_drawnSlip 3 (some .int) 1 := ⟨(tk_1.2.2.2.2.2.2.2.2.2.2.2.2.1 rfl), (ts_6_12.2.2.2.2.2.2.1 rfl), tn_RX11, tp_11⟩
theorem im_X11_drawnSlip : Cond.instanceMethod yX11_drawnSlip ∈ TB := (ts_6_12.2.2.2.2.2.1 rfl)
theorem se_X11_drawnSlip : Cond.selects yX11_drawnSlip.cls yX11_drawnSlip yX11_drawnSlip ∈ TB := (ts_0_5.2.2.2.2.2.2.2.1 rfl)
theorem mf_X11_triesByLot : MF yX11_triesByLot cX11_triesByLot 6 none 1 := ⟨(tk_1.2.2.2.2.2.2.2.2.2.2.2.2.1 rfl), (ts_6_12.2.2.1 rfl), tn_RX11, tp_19⟩
theorem im_X11_triesByLot : Cond.instanceMethod yX11_triesByLot ∈ TB := (ts_6_12.2.1 rfl)
theorem se_X11_triesByLot : Cond.selects yX11_triesByLot.cls yX11_triesByLot yX11_triesByLot ∈ TB := (ts_0_5.2.2.2.2.2.2.1 rfl)
theorem mf_X11_seeds : MF yX11_seeds cX11_seeds 11 (some .int) 4 := ⟨(tk_1.2.2.2.2.2.2.2.2.2.2.2.2.1 rfl), (ts_6_11.2.2.2.2.2.2.2.2.2.2.2.2.2.2.1 rfl), tn_RX11, tp_26⟩
theorem im_X11_seeds : Cond.instanceMethod yX11_seeds ∈ TB := (ts_6_11.2.2.2.2.2.2.2.2.2.2.2.2.1 rfl)
theorem se_X11_seeds : Cond.selects yX11_seeds.cls yX11_seeds yX11_seeds ∈ TB := (ts_6_11.2.2.2.2.2.2.2.2.2.2.2.2.2.1 rfl)
theorem mf_X11_triesAs : MF yX11_triesAs cX11_triesAs 4 (some .int) 1 := ⟨(tk_1.2.2.2.2.2.2.2.2.2.2.2.2.1 rfl), (ts_6_13.2.1 rfl), tn_RX11, tp_11⟩
theorem im_X11_triesAs : Cond.instanceMethod yX11_triesAs ∈ TB := (ts_6_13.1 rfl)
theorem se_X11_triesAs : Cond.selects yX11_triesAs.cls yX11_triesAs yX11_triesAs ∈ TB := (ts_0_5.2.2.2.2.2.2.2.2.1 rfl)
theorem mf_X11_count : MF yX11_count cX11_count 2 (some .int) 1 := ⟨(tk_1.2.2.2.2.2.2.2.2.2.2.2.2.1 rfl), (ts_6_12.2.2.2.2.2.2.2.2.2.2.2.2.2.1 rfl), tn_RX11, tp_11⟩
theorem im_X11_count : Cond.instanceMethod yX11_count ∈ TB := (ts_6_12.2.2.2.2.2.2.2.2.2.2.2.1 rfl)
theorem se_X11_count : Cond.selects yX11_count.cls yX11_count yX11_count ∈ TB := (ts_6_12.2.2.2.2.2.2.2.2.2.2.2.2.1 rfl)
theorem mf_J9_abs_0f7a4 : MF yJ9_abs_0f7a4 cJ9_abs_0f7a4 1 (some .int) 1 := ⟨(tk_1.2.2.2.2.2.2.2.2.2.2.2.2.2.2.1 rfl), (ts_3_4.2.2.2.2.2.2.2.2.2.2.2.1 rfl), tn_RJ9, tp_11⟩
theorem st_J9_abs_0f7a4 : Cond.static yJ9_abs_0f7a4 ∈ TB := (ts_3_4.2.2.2.2.2.2.2.2.2.2.1 rfl)
theorem mf_J9_max_7cf53 : MF yJ9_max_7cf53 cJ9_max_7cf53 2 (some .int) 2 := ⟨(tk_1.2.2.2.2.2.2.2.2.2.2.2.2.2.2.1 rfl), (ts_2_8.2.2.1 rfl), tn_RJ9, tp_12⟩
theorem st_J9_max_7cf53 : Cond.static yJ9_max_7cf53 ∈ TB := (ts_2_8.2.1 rfl)
theorem mf_J9_min_7cf53 : MF yJ9_min_7cf53 cJ9_min_7cf53 2 (some .int) 2 := ⟨(tk_1.2.2.2.2.2.2.2.2.2.2.2.2.2.2.1 rfl), (ts_2_7.2.2.2.2.2.2.1 rfl), tn_RJ9, tp_12⟩
theorem st_J9_min_7cf53 : Cond.static yJ9_min_7cf53 ∈ TB := (ts_2_7.2.2.2.2.2.1 rfl)
theorem mf_J7_fill_d0a16 : MF yJ7_fill_d0a16 cJ7_fill_d0a16 5 none 2 := ⟨(tk_1.2.2.2.2.2.2.2.2.2.2.2.2.2.2.2.1 rfl), (ts_3_4.2.2.2.2.2.2.2.1 rfl), tn_RJ7, tp_41⟩
theorem st_J7_fill_d0a16 : Cond.static yJ7_fill_d0a16 ∈ TB := (ts_3_4.2.2.2.2.2.2.1 rfl)
theorem mf_J7_fill_53178 : MF yJ7_fill_53178 cJ7_fill_53178 4 none 2 := ⟨(tk_1.2.2.2.2.2.2.2.2.2.2.2.2.2.2.2.1 rfl), (ts_2_8.2.2.2.2.2.1 rfl), tn_RJ7, tp_42⟩
theorem st_J7_fill_53178 : Cond.static yJ7_fill_53178 ∈ TB := (ts_2_8.2.2.2.2.1 rfl)
theorem w_arrI : Cond.arrayClass .int ∈ TB := (ts_1_2.2.2.2.2.2.2.2.2.2.2.1 rfl)
theorem w_acN : Cond.native arraycopyName ∈ TB := (ts_2_4.2.2.2.1 rfl)
theorem w_acS : Cond.static arraycopyName ∈ TB := (ts_2_4.2.2.1 rfl)
theorem w_acI : Cond.initialized "java/lang/System" ∈ TB := (tk_1.2.2.2.2.2.2.2.2.2.2.2.2.2.1 rfl)
theorem ml_X0_7 : Cond.methodLink RX0 7 yX3_strideOf ∈ TB := (ts_3_1.2.2.1 rfl)
theorem ml_X0_11 : Cond.methodLink RX0 11 yX3_lengthOf ∈ TB := (ts_2_10.2.2.1 rfl)
theorem fl_X1_16 : FL RX1 16 1 1 := ⟨RX1, TX1, 5, rfl, by decide, wsin_X1, (ts_1_3.2.2.2.2.2.1 rfl)⟩
theorem ml_X1_26 : Cond.methodLink RX1 26 yJ7_fill_d0a16 ∈ TB := (ts_3_4.2.2.2.2.2.1 rfl)
theorem fl_X1_32 : FL RX1 32 1 3 := ⟨RX1, TX1, 5, rfl, by decide, wsin_X1, (ts_1_3.2.2.2.2.2.2.2.2.2.1 rfl)⟩
theorem fp_X1_32 : FP RX1 32 1 3 .long := ⟨RX1, TX1, 5, tyX1, rfl, by decide, wsin_X1, (ts_1_3.2.2.2.2.2.2.2.2.2.1 rfl), tyX1_ok, nmX1, rfl, by decide +kernel⟩
theorem fl_X1_35 : FL RX1 35 1 4 := ⟨RX1, TX1, 5, rfl, by decide, wsin_X1, (ts_1_3.2.2.2.2.2.2.2.2.2.2.2.1 rfl)⟩
theorem fp_X1_35 : FP RX1 35 1 4 .long := ⟨RX1, TX1, 5, tyX1, rfl, by decide, wsin_X1, (ts_1_3.2.2.2.2.2.2.2.2.2.2.2.1 rfl), tyX1_ok, nmX1, rfl, by decide +kernel⟩
theorem fl_X1_38 : FL RX1 38 2 7 := ⟨RX2, TX2, 9, rfl, by decide, wsin_X2, (ts_1_9.2.2.2.2.2.1 rfl)⟩
theorem fl_X1_20 : FL RX1 20 1 2 := ⟨RX1, TX1, 5, rfl, by decide, wsin_X1, (ts_1_3.2.2.2.2.2.2.2.1 rfl)⟩
theorem fp_X1_20 : FP RX1 20 1 2 .long := ⟨RX1, TX1, 5, tyX1, rfl, by decide, wsin_X1, (ts_1_3.2.2.2.2.2.2.2.1 rfl), tyX1_ok, nmX1, rfl, by decide +kernel⟩
theorem fl_X1_44 : FL RX1 44 2 0 := ⟨RX2, TX2, 9, rfl, by decide, wsin_X2, (ts_1_8.1 rfl)⟩
theorem ml_X1_48 : Cond.methodLink RX1 48 yX3_aimOf ∈ TB := (ts_3_4.2.2.2.2.2.2.2.2.1 rfl)
theorem fl_X1_54 : FL RX1 54 2 5 := ⟨RX2, TX2, 9, rfl, by decide, wsin_X2, (ts_1_9.1 rfl)⟩
theorem ml_X1_57 : Cond.methodLink RX1 57 yJ9_abs_0f7a4 ∈ TB := (ts_3_4.2.2.2.2.2.2.2.2.2.1 rfl)
theorem fl_X1_11 : FL RX1 11 1 0 := ⟨RX1, TX1, 5, rfl, by decide, wsin_X1, (ts_1_3.2.2.2.2.1 rfl)⟩
theorem ml_X1_63 : Cond.methodLink RX1 63 yX1_spreadLast ∈ TB := (ts_3_4.2.2.2.2.2.2.2.2.2.2.2.2.1 rfl)
theorem ml_X1_67 : Cond.methodLink RX1 67 yX3_lengthOf ∈ TB := (ts_3_5.1 rfl)
theorem ml_X1_71 : Cond.methodLink RX1 71 yJ9_max_7cf53 ∈ TB := (ts_3_6.2.2.2.2.1 rfl)
theorem kc_X1_75 : Cond.constantLong RX1 75 (10000) ∈ TB := (ts_3_11.2.2.2.2.2.2.2.2.1 rfl)
theorem fl_X2_7 : FL RX2 7 2 0 := ⟨RX2, TX2, 9, rfl, by decide, wsin_X2, (ts_1_7.2.2.2.2.2.2.2.2.2.2.2.2.2.2.2.1 rfl)⟩
theorem fp_X2_7 : FP RX2 7 2 0 (.object "MarkToBoard$Kind") := ⟨RX2, TX2, 9, tyX2, rfl, by decide, wsin_X2, (ts_1_7.2.2.2.2.2.2.2.2.2.2.2.2.2.2.2.1 rfl), tyX2_ok, nmX2, rfl, by decide +kernel⟩
theorem fl_X2_13 : FL RX2 13 2 1 := ⟨RX2, TX2, 9, rfl, by decide, wsin_X2, (ts_1_8.2.2.2.1 rfl)⟩
theorem fp_X2_13 : FP RX2 13 2 1 .int := ⟨RX2, TX2, 9, tyX2, rfl, by decide, wsin_X2, (ts_1_8.2.2.2.1 rfl), tyX2_ok, nmX2, rfl, by decide +kernel⟩
theorem fl_X2_17 : FL RX2 17 2 2 := ⟨RX2, TX2, 9, rfl, by decide, wsin_X2, (ts_1_8.2.2.2.2.2.2.1 rfl)⟩
theorem fp_X2_17 : FP RX2 17 2 2 .int := ⟨RX2, TX2, 9, tyX2, rfl, by decide, wsin_X2, (ts_1_8.2.2.2.2.2.2.1 rfl), tyX2_ok, nmX2, rfl, by decide +kernel⟩
theorem fl_X2_20 : FL RX2 20 2 3 := ⟨RX2, TX2, 9, rfl, by decide, wsin_X2, (ts_1_8.2.2.2.2.2.2.2.2.2.1 rfl)⟩
theorem fp_X2_20 : FP RX2 20 2 3 .int := ⟨RX2, TX2, 9, tyX2, rfl, by decide, wsin_X2, (ts_1_8.2.2.2.2.2.2.2.2.2.1 rfl), tyX2_ok, nmX2, rfl, by decide +kernel⟩
theorem fl_X2_23 : FL RX2 23 2 4 := ⟨RX2, TX2, 9, rfl, by decide, wsin_X2, (ts_1_8.2.2.2.2.2.2.2.2.2.2.2.2.1 rfl)⟩
theorem fp_X2_23 : FP RX2 23 2 4 .int := ⟨RX2, TX2, 9, tyX2, rfl, by decide, wsin_X2, (ts_1_8.2.2.2.2.2.2.2.2.2.2.2.2.1 rfl), tyX2_ok, nmX2, rfl, by decide +kernel⟩
theorem fl_X2_26 : FL RX2 26 2 5 := ⟨RX2, TX2, 9, rfl, by decide, wsin_X2, (ts_1_8.2.2.2.2.2.2.2.2.2.2.2.2.2.2.2.1 rfl)⟩
theorem fp_X2_26 : FP RX2 26 2 5 .int := ⟨RX2, TX2, 9, tyX2, rfl, by decide, wsin_X2, (ts_1_8.2.2.2.2.2.2.2.2.2.2.2.2.2.2.2.1 rfl), tyX2_ok, nmX2, rfl, by decide +kernel⟩
theorem fl_X2_29 : FL RX2 29 2 6 := ⟨RX2, TX2, 9, rfl, by decide, wsin_X2, (ts_1_9.2.2.1 rfl)⟩
theorem fp_X2_29 : FP RX2 29 2 6 .int := ⟨RX2, TX2, 9, tyX2, rfl, by decide, wsin_X2, (ts_1_9.2.2.1 rfl), tyX2_ok, nmX2, rfl, by decide +kernel⟩
theorem fl_X2_32 : FL RX2 32 2 7 := ⟨RX2, TX2, 9, rfl, by decide, wsin_X2, (ts_1_9.2.2.2.2.2.2.1 rfl)⟩
theorem fp_X2_32 : FP RX2 32 2 7 .int := ⟨RX2, TX2, 9, tyX2, rfl, by decide, wsin_X2, (ts_1_9.2.2.2.2.2.2.1 rfl), tyX2_ok, nmX2, rfl, by decide +kernel⟩
theorem fl_X2_35 : FL RX2 35 2 8 := ⟨RX2, TX2, 9, rfl, by decide, wsin_X2, (ts_1_9.2.2.2.2.2.2.2.2.1 rfl)⟩
theorem fp_X2_35 : FP RX2 35 2 8 .int := ⟨RX2, TX2, 9, tyX2, rfl, by decide, wsin_X2, (ts_1_9.2.2.2.2.2.2.2.2.1 rfl), tyX2_ok, nmX2, rfl, by decide +kernel⟩
theorem ml_X2_38 : Cond.methodLink RX2 38 yX3_aimOf ∈ TB := (ts_2_12.2.2.2.2.2.1 rfl)
theorem ml_X2_44 : Cond.methodLink RX2 44 yX3_strideOf ∈ TB := (ts_3_2.2.2.2.2.2.2.2.2.2.2.2.2.1 rfl)
theorem fl_X3_7 : FL RX3 7 2 3 := ⟨RX2, TX2, 9, rfl, by decide, wsin_X2, (ts_1_8.2.2.2.2.2.2.2.2.2.2.1 rfl)⟩
theorem fl_X3_13 : FL RX3 13 2 4 := ⟨RX2, TX2, 9, rfl, by decide, wsin_X2, (ts_1_8.2.2.2.2.2.2.2.2.2.2.2.2.2.1 rfl)⟩
theorem fl_X3_16 : FL RX3 16 2 6 := ⟨RX2, TX2, 9, rfl, by decide, wsin_X2, (ts_1_9.2.2.2.1 rfl)⟩
theorem fl_X3_19 : FL RX3 19 2 2 := ⟨RX2, TX2, 9, rfl, by decide, wsin_X2, (ts_1_8.2.2.2.2.2.2.2.1 rfl)⟩
theorem ml_X4_7 : Cond.methodLink RX4 7 yX7_aimOf ∈ TB := (ts_2_12.2.2.2.2.2.2.2.2.2.2.2.2.2.2.2.1 rfl)
theorem fl_X5_9 : FL RX5 9 5 0 := ⟨RX5, TX5, 10, rfl, by decide, wsin_X5, (ts_1_10.2.2.2.2.2.2.2.2.2.2.2.2.2.1 rfl)⟩
theorem fp_X5_9 : FP RX5 9 5 0 .int := ⟨RX5, TX5, 10, tyX5, rfl, by decide, wsin_X5, (ts_1_10.2.2.2.2.2.2.2.2.2.2.2.2.2.1 rfl), tyX5_ok, nmX5, rfl, by decide +kernel⟩
theorem fl_X5_40 : FL RX5 40 5 1 := ⟨RX5, TX5, 10, rfl, by decide, wsin_X5, (ts_1_10.2.2.2.2.2.2.2.2.2.2.2.2.2.2.2.1 rfl)⟩
theorem fp_X5_40 : FP RX5 40 5 1 .int := ⟨RX5, TX5, 10, tyX5, rfl, by decide, wsin_X5, (ts_1_10.2.2.2.2.2.2.2.2.2.2.2.2.2.2.2.1 rfl), tyX5_ok, nmX5, rfl, by decide +kernel⟩
theorem fl_X5_15 : FL RX5 15 5 2 := ⟨RX5, TX5, 10, rfl, by decide, wsin_X5, (ts_1_11.2.1 rfl)⟩
theorem fp_X5_15 : FP RX5 15 5 2 .int := ⟨RX5, TX5, 10, tyX5, rfl, by decide, wsin_X5, (ts_1_11.2.1 rfl), tyX5_ok, nmX5, rfl, by decide +kernel⟩
theorem fl_X5_43 : FL RX5 43 5 3 := ⟨RX5, TX5, 10, rfl, by decide, wsin_X5, (ts_1_11.2.2.2.1 rfl)⟩
theorem fp_X5_43 : FP RX5 43 5 3 .int := ⟨RX5, TX5, 10, tyX5, rfl, by decide, wsin_X5, (ts_1_11.2.2.2.1 rfl), tyX5_ok, nmX5, rfl, by decide +kernel⟩
theorem fl_X5_46 : FL RX5 46 5 4 := ⟨RX5, TX5, 10, rfl, by decide, wsin_X5, (ts_1_11.2.2.2.2.2.1 rfl)⟩
theorem fp_X5_46 : FP RX5 46 5 4 .int := ⟨RX5, TX5, 10, tyX5, rfl, by decide, wsin_X5, (ts_1_11.2.2.2.2.2.1 rfl), tyX5_ok, nmX5, rfl, by decide +kernel⟩
theorem fl_X5_20 : FL RX5 20 5 5 := ⟨RX5, TX5, 10, rfl, by decide, wsin_X5, (ts_1_11.2.2.2.2.2.2.2.1 rfl)⟩
theorem ml_X5_49 : Cond.methodLink RX5 49 yX2_copyFrom ∈ TB := (ts_2_3.2.2.2.2.2.2.2.2.2.2.2.2.2.1 rfl)
theorem fl_X5_24 : FL RX5 24 5 6 := ⟨RX5, TX5, 10, rfl, by decide, wsin_X5, (ts_1_11.2.2.2.2.2.2.2.2.1 rfl)⟩
theorem ml_X5_53 : Cond.methodLink RX5 53 arraycopyName ∈ TB := (ts_2_4.2.1 rfl)
theorem fl_X5_28 : FL RX5 28 5 7 := ⟨RX5, TX5, 10, rfl, by decide, wsin_X5, (ts_1_11.2.2.2.2.2.2.2.2.2.2.1 rfl)⟩
theorem fl_X5_31 : FL RX5 31 5 8 := ⟨RX5, TX5, 10, rfl, by decide, wsin_X5, (ts_1_11.2.2.2.2.2.2.2.2.2.2.2.1 rfl)⟩
theorem fl_X5_34 : FL RX5 34 5 9 := ⟨RX5, TX5, 10, rfl, by decide, wsin_X5, (ts_1_11.2.2.2.2.2.2.2.2.2.2.2.2.2.1 rfl)⟩
theorem ml_X5_59 : Cond.methodLink RX5 59 yX5_finalists ∈ TB := (ts_2_6.2.2.2.2.2.2.2.2.2.2.2.2.1 rfl)
theorem ml_X5_63 : Cond.methodLink RX5 63 yJ9_min_7cf53 ∈ TB := (ts_2_7.2.2.2.2.1 rfl)
theorem ml_X5_69 : Cond.methodLink RX5 69 yX5_round ∈ TB := (ts_2_7.1 rfl)
theorem ml_X5_72 : Cond.methodLink RX5 72 yX5_rank ∈ TB := (ts_2_7.2.2.2.2.2.2.2.1 rfl)
theorem ml_X5_76 : Cond.methodLink RX5 76 yX6_at ∈ TB := (ts_2_8.2.2.2.2.2.2.2.2.2.2.2.2.2.2.1 rfl)
theorem ml_X5_82 : Cond.methodLink RX5 82 yX5_at ∈ TB := (ts_2_9.2.2.2.2.2.2.2.2.2.2.1 rfl)
theorem fl_X5_85 : FL RX5 85 2 0 := ⟨RX2, TX2, 9, rfl, by decide, wsin_X2, (ts_1_8.2.1 rfl)⟩
theorem ml_X5_89 : Cond.methodLink RX5 89 yX3_lengthOf ∈ TB := (ts_2_9.2.2.2.2.2.2.2.2.2.2.2.1 rfl)
theorem ml_X5_95 : Cond.methodLink RX5 95 yX6_start ∈ TB := (ts_2_7.2.2.2.2.2.2.2.2.2.2.2.1 rfl)
theorem ml_X5_99 : Cond.methodLink RX5 99 yX5_lengthBy ∈ TB := (ts_2_8.2.2.2.2.2.2.1 rfl)
theorem ml_X5_102 : Cond.methodLink RX5 102 yX6_add ∈ TB := (ts_2_8.2.2.2.2.2.2.2.2.2.2.1 rfl)
theorem ml_X6_18 : Cond.methodLink RX6 18 yJ9_min_7cf53 ∈ TB := (ts_2_7.2.2.2.2.2.2.2.2.2.2.2.2.2.2.2.1 rfl)
theorem ml_X6_24 : Cond.methodLink RX6 24 yJ9_max_7cf53 ∈ TB := (ts_2_8.1 rfl)
theorem fl_X6_27 : FL RX6 27 6 0 := ⟨RX6, TX6, 3, rfl, by decide, wsin_X6, (ts_1_2.1 rfl)⟩
theorem fp_X6_27 : FP RX6 27 6 0 .int := ⟨RX6, TX6, 3, tyX6, rfl, by decide, wsin_X6, (ts_1_2.1 rfl), tyX6_ok, nmX6, rfl, by decide +kernel⟩
theorem fl_X6_9 : FL RX6 9 6 1 := ⟨RX6, TX6, 3, rfl, by decide, wsin_X6, (ts_1_2.2.1 rfl)⟩
theorem ml_X6_31 : Cond.methodLink RX6 31 yJ7_fill_53178 ∈ TB := (ts_2_8.2.2.2.1 rfl)
theorem fl_X6_15 : FL RX6 15 6 2 := ⟨RX6, TX6, 3, rfl, by decide, wsin_X6, (ts_1_2.2.2.1 rfl)⟩
theorem ml_X6_37 : Cond.methodLink RX6 37 yX6_ahead ∈ TB := (ts_2_9.2.2.1 rfl)
theorem fl_X7_7 : FL RX7 7 2 2 := ⟨RX2, TX2, 9, rfl, by decide, wsin_X2, (ts_1_8.2.2.2.2.2.1 rfl)⟩
theorem ml_X7_13 : Cond.methodLink RX7 13 yX3_lengthOf ∈ TB := (ts_2_10.2.2.2.2.2.2.1 rfl)
theorem ml_X8_7 : Cond.methodLink RX8 7 yX4_aimOf ∈ TB := (ts_2_13.2.2.2.2.2.2.1 rfl)
theorem ml_X8_11 : Cond.methodLink RX8 11 ⟨"MarkToBoard$Looker", "strideOf", "(LMarkToBoard$Jumper;II)I"⟩ ∈ TB := (ts_3_1.2.2.2.2.2.2.2.2.1 rfl)
theorem ml_X8_15 : Cond.methodLink RX8 15 ⟨"MarkToBoard$Looker", "lengthOf", "(LMarkToBoard$Jumper;III)I"⟩ ∈ TB := (ts_2_10.2.2.2.2.2.2.2.2.2.2.2.1 rfl)
theorem ml_X9_7 : Cond.methodLink RX9 7 yX0_strideOf ∈ TB := (ts_3_1.2.2.2.2.2.2.2.2.2.2.2.2.2.2.1 rfl)
theorem ml_X9_11 : Cond.methodLink RX9 11 yX0_lengthOf ∈ TB := (ts_2_11.2.1 rfl)
theorem fl_X10_22 : FL RX10 22 10 9 := ⟨RX10, TX10, 18, rfl, by decide, wsin_X10, (ts_1_13.2.2.2.2.2.2.2.2.2.2.2.2.2.2.1 rfl)⟩
theorem fl_X10_72 : FL RX10 72 10 1 := ⟨RX10, TX10, 18, rfl, by decide, wsin_X10, (ts_1_13.2.2.2.2.2.2.1 rfl)⟩
theorem fl_X10_89 : FL RX10 89 5 3 := ⟨RX5, TX5, 10, rfl, by decide, wsin_X5, (ts_1_11.2.2.2.2.1 rfl)⟩
theorem ml_X10_93 : Cond.methodLink RX10 93 yX10_nobody ∈ TB := (ts_2_11.2.2.2.2.2.2.2.2.2.2.1 rfl)
theorem ml_X10_97 : Cond.methodLink RX10 97 yX10_first ∈ TB := (ts_2_2.2.2.2.1 rfl)
theorem ml_X10_101 : Cond.methodLink RX10 101 yX10_noSuch ∈ TB := (ts_2_11.2.2.2.2.2.2.2.2.2.2.2.2.2.2.1 rfl)
theorem ml_X10_104 : Cond.methodLink RX10 104 yX10_outside ∈ TB := (ts_2_2.1 rfl)
theorem fl_X10_108 : FL RX10 108 10 6 := ⟨RX10, TX10, 18, rfl, by decide, wsin_X10, (ts_1_13.2.2.2.2.2.2.2.2.2.2.2.1 rfl)⟩
theorem ml_X10_111 : Cond.methodLink RX10 111 yX10_refuse ∈ TB := (ts_2_2.2.2.2.2.2.2.1 rfl)
theorem fl_X10_15 : FL RX10 15 10 5 := ⟨RX10, TX10, 18, rfl, by decide, wsin_X10, (ts_1_13.2.2.2.2.2.2.2.2.2.2.1 rfl)⟩
theorem fp_X10_108 : FP RX10 108 10 6 .int := ⟨RX10, TX10, 18, tyX10, rfl, by decide, wsin_X10, (ts_1_13.2.2.2.2.2.2.2.2.2.2.2.1 rfl), tyX10_ok, nmX10, rfl, by decide +kernel⟩
theorem ml_X10_114 : Cond.methodLink RX10 114 yX10_firstBadLetter ∈ TB := (ts_2_2.2.2.2.2.2.2.2.2.2.2.2.2.2.2.1 rfl)
theorem ml_X10_118 : Cond.methodLink RX10 118 yX10_statementsInMind ∈ TB := (ts_2_3.2.2.2.2.2.1 rfl)
theorem fl_X10_76 : FL RX10 76 10 2 := ⟨RX10, TX10, 18, rfl, by decide, wsin_X10, (ts_1_13.2.2.2.2.2.2.2.1 rfl)⟩
theorem ml_X10_121 : Cond.methodLink RX10 121 yX5_copyFrom ∈ TB := (ts_2_3.2.2.2.2.2.2.2.2.2.1 rfl)
theorem ml_X10_125 : Cond.methodLink RX10 125 yX10_digitsBehind ∈ TB := (ts_2_3.2.2.1 rfl)
theorem ml_X10_128 : Cond.methodLink RX10 128 yX10_comes ∈ TB := (ts_2_4.2.2.2.2.1 rfl)
theorem ml_X10_132 : Cond.methodLink RX10 132 yX10_span ∈ TB := (ts_2_11.2.2.2.1 rfl)
theorem ml_X10_135 : Cond.methodLink RX10 135 yX10_number ∈ TB := (ts_2_4.2.2.2.2.2.2.2.2.1 rfl)
theorem ml_X10_138 : Cond.methodLink RX10 138 yX10_stridesCome ∈ TB := (ts_2_4.2.2.2.2.2.2.2.2.2.2.2.2.1 rfl)
theorem ml_X10_141 : Cond.methodLink RX10 141 yX10_isMinus ∈ TB := (ts_2_5.1 rfl)
theorem ml_X10_144 : Cond.methodLink RX10 144 yX10_windComes ∈ TB := (ts_2_5.2.2.2.2.1 rfl)
theorem ml_X10_148 : Cond.methodLink RX10 148 yX10_goOnComes ∈ TB := (ts_2_5.2.2.2.2.2.2.2.2.1 rfl)
theorem ml_X10_151 : Cond.methodLink RX10 151 yX10_jumperComes ∈ TB := (ts_2_5.2.2.2.2.2.2.2.2.2.2.2.2.1 rfl)
theorem ml_X10_154 : Cond.methodLink RX10 154 yX10_tryComes ∈ TB := (ts_2_6.2.2.2.2.1 rfl)
theorem fl_X10_157 : FL RX10 157 5 1 := ⟨RX5, TX5, 10, rfl, by decide, wsin_X5, (ts_1_11.1 rfl)⟩
theorem fp_X10_157 : FP RX10 157 5 1 .int := ⟨RX5, TX5, 10, tyX5, rfl, by decide, wsin_X5, (ts_1_11.1 rfl), tyX5_ok, nmX5, rfl, by decide +kernel⟩
theorem fl_X10_160 : FL RX10 160 5 4 := ⟨RX5, TX5, 10, rfl, by decide, wsin_X5, (ts_1_11.2.2.2.2.2.2.1 rfl)⟩
theorem fl_X10_163 : FL RX10 163 5 0 := ⟨RX5, TX5, 10, rfl, by decide, wsin_X5, (ts_1_10.2.2.2.2.2.2.2.2.2.2.2.2.2.2.1 rfl)⟩
theorem fp_X10_163 : FP RX10 163 5 0 .int := ⟨RX5, TX5, 10, tyX5, rfl, by decide, wsin_X5, (ts_1_10.2.2.2.2.2.2.2.2.2.2.2.2.2.2.1 rfl), tyX5_ok, nmX5, rfl, by decide +kernel⟩
theorem fl_X10_166 : FL RX10 166 5 2 := ⟨RX5, TX5, 10, rfl, by decide, wsin_X5, (ts_1_11.2.2.1 rfl)⟩
theorem fp_X10_166 : FP RX10 166 5 2 .int := ⟨RX5, TX5, 10, tyX5, rfl, by decide, wsin_X5, (ts_1_11.2.2.1 rfl), tyX5_ok, nmX5, rfl, by decide +kernel⟩
theorem ml_X10_169 : Cond.methodLink RX10 169 yX5_at ∈ TB := (ts_2_6.1 rfl)
theorem fl_X10_11 : FL RX10 11 10 0 := ⟨RX10, TX10, 18, rfl, by decide, wsin_X10, (ts_1_13.2.2.2.2.2.1 rfl)⟩
theorem fl_X10_173 : FL RX10 173 2 0 := ⟨RX2, TX2, 9, rfl, by decide, wsin_X2, (ts_1_8.2.2.1 rfl)⟩
theorem fp_X10_173 : FP RX10 173 2 0 (.object "MarkToBoard$Kind") := ⟨RX2, TX2, 9, tyX2, rfl, by decide, wsin_X2, (ts_1_8.2.2.1 rfl), tyX2_ok, nmX2, rfl, by decide +kernel⟩
theorem fl_X10_177 : FL RX10 177 2 1 := ⟨RX2, TX2, 9, rfl, by decide, wsin_X2, (ts_1_8.2.2.2.2.1 rfl)⟩
theorem fp_X10_177 : FP RX10 177 2 1 .int := ⟨RX2, TX2, 9, tyX2, rfl, by decide, wsin_X2, (ts_1_8.2.2.2.2.1 rfl), tyX2_ok, nmX2, rfl, by decide +kernel⟩
theorem fl_X10_180 : FL RX10 180 2 2 := ⟨RX2, TX2, 9, rfl, by decide, wsin_X2, (ts_1_8.2.2.2.2.2.2.2.2.1 rfl)⟩
theorem fp_X10_180 : FP RX10 180 2 2 .int := ⟨RX2, TX2, 9, tyX2, rfl, by decide, wsin_X2, (ts_1_8.2.2.2.2.2.2.2.2.1 rfl), tyX2_ok, nmX2, rfl, by decide +kernel⟩
theorem fl_X10_183 : FL RX10 183 2 3 := ⟨RX2, TX2, 9, rfl, by decide, wsin_X2, (ts_1_8.2.2.2.2.2.2.2.2.2.2.2.1 rfl)⟩
theorem fp_X10_183 : FP RX10 183 2 3 .int := ⟨RX2, TX2, 9, tyX2, rfl, by decide, wsin_X2, (ts_1_8.2.2.2.2.2.2.2.2.2.2.2.1 rfl), tyX2_ok, nmX2, rfl, by decide +kernel⟩
theorem fl_X10_186 : FL RX10 186 2 4 := ⟨RX2, TX2, 9, rfl, by decide, wsin_X2, (ts_1_8.2.2.2.2.2.2.2.2.2.2.2.2.2.2.1 rfl)⟩
theorem fp_X10_186 : FP RX10 186 2 4 .int := ⟨RX2, TX2, 9, tyX2, rfl, by decide, wsin_X2, (ts_1_8.2.2.2.2.2.2.2.2.2.2.2.2.2.2.1 rfl), tyX2_ok, nmX2, rfl, by decide +kernel⟩
theorem fl_X10_189 : FL RX10 189 2 5 := ⟨RX2, TX2, 9, rfl, by decide, wsin_X2, (ts_1_9.2.1 rfl)⟩
theorem fp_X10_189 : FP RX10 189 2 5 .int := ⟨RX2, TX2, 9, tyX2, rfl, by decide, wsin_X2, (ts_1_9.2.1 rfl), tyX2_ok, nmX2, rfl, by decide +kernel⟩
theorem fl_X10_192 : FL RX10 192 2 6 := ⟨RX2, TX2, 9, rfl, by decide, wsin_X2, (ts_1_9.2.2.2.2.1 rfl)⟩
theorem fp_X10_192 : FP RX10 192 2 6 .int := ⟨RX2, TX2, 9, tyX2, rfl, by decide, wsin_X2, (ts_1_9.2.2.2.2.1 rfl), tyX2_ok, nmX2, rfl, by decide +kernel⟩
theorem fl_X10_195 : FL RX10 195 2 7 := ⟨RX2, TX2, 9, rfl, by decide, wsin_X2, (ts_1_9.2.2.2.2.2.2.2.1 rfl)⟩
theorem fp_X10_195 : FP RX10 195 2 7 .int := ⟨RX2, TX2, 9, tyX2, rfl, by decide, wsin_X2, (ts_1_9.2.2.2.2.2.2.2.1 rfl), tyX2_ok, nmX2, rfl, by decide +kernel⟩
theorem fl_X10_198 : FL RX10 198 2 8 := ⟨RX2, TX2, 9, rfl, by decide, wsin_X2, (ts_1_9.2.2.2.2.2.2.2.2.2.1 rfl)⟩
theorem fp_X10_198 : FP RX10 198 2 8 .int := ⟨RX2, TX2, 9, tyX2, rfl, by decide, wsin_X2, (ts_1_9.2.2.2.2.2.2.2.2.2.1 rfl), tyX2_ok, nmX2, rfl, by decide +kernel⟩
theorem fp_X10_89 : FP RX10 89 5 3 .int := ⟨RX5, TX5, 10, tyX5, rfl, by decide, wsin_X5, (ts_1_11.2.2.2.2.1 rfl), tyX5_ok, nmX5, rfl, by decide +kernel⟩
theorem fl_X10_28 : FL RX10 28 10 10 := ⟨RX10, TX10, 18, rfl, by decide, wsin_X10, (ts_1_13.2.2.2.2.2.2.2.2.2.2.2.2.2.2.2.1 rfl)⟩
theorem ml_X10_201 : Cond.methodLink RX10 201 yX5_inTurn ∈ TB := (ts_2_6.2.2.2.2.2.2.2.2.1 rfl)
theorem ml_X10_205 : Cond.methodLink RX10 205 yX5_record ∈ TB := (ts_2_9.2.2.2.2.2.2.1 rfl)
theorem ml_X10_208 : Cond.methodLink RX10 208 yX2_property ∈ TB := (ts_2_12.2.1 rfl)
theorem ml_X10_211 : Cond.methodLink RX10 211 yX5_triesOf ∈ TB := (ts_2_13.2.2.2.2.2.2.2.2.2.1 rfl)
theorem ml_X10_214 : Cond.methodLink RX10 214 yX5_rank ∈ TB := (ts_2_13.2.2.2.2.2.2.2.2.2.2.2.2.2.1 rfl)
theorem ml_X10_218 : Cond.methodLink RX10 218 yX6_longest ∈ TB := (ts_2_13.2.2.2.2.2.2.2.2.2.2.2.2.2.2.1 rfl)
theorem ml_X10_221 : Cond.methodLink RX10 221 yX6_secondLongest ∈ TB := (ts_2_14.2.2.1 rfl)
theorem kc_X10_224 : Cond.constant RX10 224 (1000000000) ∈ TB := (tk_3.2.2.2.2.2.2.1 rfl)
theorem ml_X10_225 : Cond.methodLink RX10 225 yX3_strideOf ∈ TB := (tk_3.2.2.2.2.2.2.2.2.2.2.2.1 rfl)
theorem ml_X10_229 : Cond.methodLink RX10 229 yX10_placeOf ∈ TB := (ts_3_2.2.2.2.2.1 rfl)
theorem ml_X10_232 : Cond.methodLink RX10 232 yX2_path ∈ TB := (ts_3_2.2.2.2.2.2.2.2.2.1 rfl)
theorem ml_X10_235 : Cond.methodLink RX10 235 yX10_outsideTwo ∈ TB := (ts_3_3.2.1 rfl)
theorem ml_X10_238 : Cond.methodLink RX10 238 yX3_lengthOf ∈ TB := (ts_3_3.2.2.2.2.1 rfl)
theorem fl_X10_35 : FL RX10 35 10 11 := ⟨RX10, TX10, 18, rfl, by decide, wsin_X10, (ts_1_14.1 rfl)⟩
theorem ml_X10_242 : Cond.methodLink RX10 242 yX1_spread ∈ TB := (ts_3_4.2.1 rfl)
theorem ml_X10_246 : Cond.methodLink RX10 246 yX10_noPart ∈ TB := (ts_3_3.2.2.2.2.2.2.2.2.2.1 rfl)
theorem kc_X10_249 : Cond.constantLong RX10 249 (4000000000000000000) ∈ TB := (ts_3_3.2.2.2.2.2.2.2.2.2.2.2.2.1 rfl)
theorem ml_X10_251 : Cond.methodLink RX10 251 yX10_spreadNow ∈ TB := (ts_3_3.2.2.2.2.2.2.2.2.2.2.2.2.2.1 rfl)
theorem fl_X10_255 : FL RX10 255 1 4 := ⟨RX1, TX1, 5, rfl, by decide, wsin_X1, (ts_1_3.2.2.2.2.2.2.2.2.2.2.2.2.1 rfl)⟩
theorem fl_X10_259 : FL RX10 259 1 2 := ⟨RX1, TX1, 5, rfl, by decide, wsin_X1, (ts_1_3.2.2.2.2.2.2.2.2.1 rfl)⟩
theorem ml_X10_262 : Cond.methodLink RX10 262 yX10_fraction ∈ TB := (ts_3_5.2.1 rfl)
theorem fl_X10_266 : FL RX10 266 1 3 := ⟨RX1, TX1, 5, rfl, by decide, wsin_X1, (ts_1_3.2.2.2.2.2.2.2.2.2.2.1 rfl)⟩
theorem ml_X10_269 : Cond.methodLink RX10 269 yX1_meanWays ∈ TB := (ts_3_5.2.2.2.2.2.2.2.2.1 rfl)
theorem ml_X10_273 : Cond.methodLink RX10 273 yX1_waysPast ∈ TB := (ts_3_6.1 rfl)
theorem fl_X10_85 : FL RX10 85 10 12 := ⟨RX10, TX10, 18, rfl, by decide, wsin_X10, (ts_1_14.2.1 rfl)⟩
theorem ml_X10_277 : Cond.methodLink RX10 277 yX2_copyFrom ∈ TB := (ts_3_6.2.2.2.2.2.2.2.2.2.1 rfl)
theorem kc_X10_280 : Cond.constantLong RX10 280 (-1) ∈ TB := (ts_3_6.2.2.2.2.2.2.2.2.2.2.1 rfl)
theorem ml_X10_282 : Cond.methodLink RX10 282 yX10_spreadAt ∈ TB := (ts_3_6.2.2.2.2.2.2.2.2.2.2.2.1 rfl)
theorem ml_X10_286 : Cond.methodLink RX10 286 yJ9_max_7cf53 ∈ TB := (ts_3_7.2.2.2.1 rfl)
theorem ml_X10_291 : Cond.methodLink RX10 291 yJ9_min_7cf53 ∈ TB := (ts_3_7.2.2.2.2.1 rfl)
theorem ml_X10_294 : Cond.methodLink RX10 294 yX10_notInTurn ∈ TB := (ts_3_8.2.1 rfl)
theorem fp_X10_160 : FP RX10 160 5 4 .int := ⟨RX5, TX5, 10, tyX5, rfl, by decide, wsin_X5, (ts_1_11.2.2.2.2.2.2.1 rfl), tyX5_ok, nmX5, rfl, by decide +kernel⟩
theorem fl_X10_297 : FL RX10 297 5 6 := ⟨RX5, TX5, 10, rfl, by decide, wsin_X5, (ts_1_11.2.2.2.2.2.2.2.2.2.1 rfl)⟩
theorem ml_X10_300 : Cond.methodLink RX10 300 yX5_find ∈ TB := (ts_3_9.2.1 rfl)
theorem fl_X10_303 : FL RX10 303 5 8 := ⟨RX5, TX5, 10, rfl, by decide, wsin_X5, (ts_1_11.2.2.2.2.2.2.2.2.2.2.2.2.1 rfl)⟩
theorem ml_X10_306 : Cond.methodLink RX10 306 yX5_finalists ∈ TB := (ts_3_9.2.2.2.2.2.2.2.2.2.1 rfl)
theorem ml_X10_309 : Cond.methodLink RX10 309 yX10_leastFor ∈ TB := (ts_3_9.2.2.2.2.2.2.2.2.2.2.1 rfl)
theorem ml_X10_312 : Cond.methodLink RX10 312 yX6_ahead ∈ TB := (ts_3_9.2.2.2.2.2.2.2.2.2.2.2.2.2.2.1 rfl)
theorem ml_X10_315 : Cond.methodLink RX10 315 yX6_at ∈ TB := (ts_3_10.2.2.2.1 rfl)
theorem ml_X10_317 : Cond.methodLink RX10 317 yX5_leader ∈ TB := (ts_3_10.2.2.2.2.2.2.2.2.1 rfl)
theorem ml_X10_320 : Cond.methodLink RX10 320 yX1_share ∈ TB := (ts_3_11.2.2.2.2.1 rfl)
theorem ml_X10_324 : Cond.methodLink RX10 324 yX10_leftOf ∈ TB := (ts_3_11.2.2.2.2.2.2.2.2.2.1 rfl)
theorem fl_X10_327 : FL RX10 327 10 8 := ⟨RX10, TX10, 18, rfl, by decide, wsin_X10, (ts_1_13.2.2.2.2.2.2.2.2.2.2.2.2.2.1 rfl)⟩
theorem fl_X10_19 : FL RX10 19 10 7 := ⟨RX10, TX10, 18, rfl, by decide, wsin_X10, (ts_1_13.2.2.2.2.2.2.2.2.2.2.2.2.1 rfl)⟩
theorem ml_X10_330 : Cond.methodLink RX10 330 yX10_greatestFrom ∈ TB := (ts_3_12.2.2.2.2.1 rfl)
theorem ml_X10_333 : Cond.methodLink RX10 333 yX10_leastAhead ∈ TB := (ts_3_12.2.2.2.2.2.2.2.2.1 rfl)
theorem ml_X10_336 : Cond.methodLink RX10 336 yX5_round ∈ TB := (ts_3_13.2.2.2.2.2.2.2.2.1 rfl)
theorem fl_X10_48 : FL RX10 48 10 16 := ⟨RX10, TX10, 18, rfl, by decide, wsin_X10, (ts_1_14.2.2.2.2.2.1 rfl)⟩
theorem ml_X10_339 : Cond.methodLink RX10 339 yX6_add ∈ TB := (ts_3_13.2.2.2.2.2.2.2.2.2.1 rfl)
theorem fp_X10_327 : FP RX10 327 10 8 .int := ⟨RX10, TX10, 18, tyX10, rfl, by decide, wsin_X10, (ts_1_13.2.2.2.2.2.2.2.2.2.2.2.2.2.1 rfl), tyX10_ok, nmX10, rfl, by decide +kernel⟩
theorem ml_X10_342 : Cond.methodLink RX10 342 yX10_judged ∈ TB := (ts_3_14.2.2.1 rfl)
theorem fl_X10_345 : FL RX10 345 10 17 := ⟨RX10, TX10, 18, rfl, by decide, wsin_X10, (ts_1_14.2.2.2.2.2.2.1 rfl)⟩
theorem fp_X10_345 : FP RX10 345 10 17 .int := ⟨RX10, TX10, 18, tyX10, rfl, by decide, wsin_X10, (ts_1_14.2.2.2.2.2.2.1 rfl), tyX10_ok, nmX10, rfl, by decide +kernel⟩
theorem ml_X10_348 : Cond.methodLink RX10 348 yX10_playToTheEnd ∈ TB := (ts_3_14.2.2.2.2.2.2.2.2.2.2.2.2.2.2.1 rfl)
theorem ml_X10_351 : Cond.methodLink RX10 351 yX10_runByDraws ∈ TB := (tk_4.2.2.1 rfl)
theorem ml_X10_354 : Cond.methodLink RX10 354 yX3_aimOf ∈ TB := (tk_4.2.2.2.2.2.2.1 rfl)
theorem ml_X10_358 : Cond.methodLink RX10 358 yJ9_abs_0f7a4 ∈ TB := (tk_4.2.2.2.2.2.2.2.1 rfl)
theorem ml_X10_361 : Cond.methodLink RX10 361 yX10_drawBelow ∈ TB := (tk_4.2.2.2.2.2.2.2.2.1 rfl)
theorem kc_X10_364 : Cond.constant RX10 364 (1103515245) ∈ TB := (tk_4.2.2.2.2.2.2.2.2.2.2.2.2.1 rfl)
theorem kc_X10_365 : Cond.constant RX10 365 (2147483647) ∈ TB := (tk_4.2.2.2.2.2.2.2.2.2.2.2.2.2.1 rfl)
theorem kc_X10_366 : Cond.constant RX10 366 (65536) ∈ TB := (tk_4.2.2.2.2.2.2.2.2.2.2.2.2.2.2.1 rfl)
theorem fl_X10_367 : FL RX10 367 1 1 := ⟨RX1, TX1, 5, rfl, by decide, wsin_X1, (ts_1_3.2.2.2.2.2.2.1 rfl)⟩
theorem fl_X10_39 : FL RX10 39 10 13 := ⟨RX10, TX10, 18, rfl, by decide, wsin_X10, (ts_1_14.2.2.1 rfl)⟩
theorem fl_X10_42 : FL RX10 42 10 14 := ⟨RX10, TX10, 18, rfl, by decide, wsin_X10, (ts_1_14.2.2.2.1 rfl)⟩
theorem kc_X10_371 : Cond.constantLong RX10 371 (10000) ∈ TB := (ts_4_2.2.2.2.1 rfl)
theorem ml_X10_373 : Cond.methodLink RX10 373 yX10_nobodyOfTwo ∈ TB := (ts_4_1.2.2.2.2.2.2.2.1 rfl)
theorem ml_X10_376 : Cond.methodLink RX10 376 yX10_fillParts ∈ TB := (ts_4_1.2.2.2.2.2.2.2.2.2.2.2.1 rfl)
theorem ml_X10_380 : Cond.methodLink RX10 380 yX10_moreByParts ∈ TB := (ts_4_1.2.2.2.2.2.2.2.2.2.2.2.2.2.2.2.1 rfl)
theorem fl_X10_45 : FL RX10 45 10 15 := ⟨RX10, TX10, 18, rfl, by decide, wsin_X10, (ts_1_14.2.2.2.2.1 rfl)⟩
theorem ml_X10_383 : Cond.methodLink RX10 383 yX10_sure ∈ TB := (ts_4_2.2.2.2.2.2.2.2.2.1 rfl)
theorem ml_X10_386 : Cond.methodLink RX10 386 yX10_calmPair ∈ TB := (ts_4_3.1 rfl)
theorem ml_X10_389 : Cond.methodLink RX10 389 yX10_leastOfRow ∈ TB := (ts_4_2.2.2.2.2.2.2.2.2.2.2.2.2.1 rfl)
theorem ml_X10_392 : Cond.methodLink RX10 392 yX10_mostOfColumn ∈ TB := (ts_4_3.2.2.2.2.1 rfl)
theorem ml_X10_395 : Cond.methodLink RX10 395 yX10_practised ∈ TB := (ts_4_3.2.2.2.2.2.2.2.2.2.2.2.2.1 rfl)
theorem ml_X10_398 : Cond.methodLink RX10 398 yX10_meanAt ∈ TB := (ts_4_4.1 rfl)
theorem ml_X10_401 : Cond.methodLink RX10 401 yX10_insert ∈ TB := (ts_4_5.2.2.2.2.2.2.2.2.1 rfl)
theorem ml_X10_404 : Cond.methodLink RX10 404 yX10_fullLength ∈ TB := (ts_4_5.2.2.2.2.2.2.2.2.2.2.2.2.2.2.2.1 rfl)
theorem fl_X10_79 : FL RX10 79 10 3 := ⟨RX10, TX10, 18, rfl, by decide, wsin_X10, (ts_1_13.2.2.2.2.2.2.2.2.1 rfl)⟩
theorem fl_X10_407 : FL RX10 407 10 4 := ⟨RX10, TX10, 18, rfl, by decide, wsin_X10, (ts_1_13.2.2.2.2.2.2.2.2.2.1 rfl)⟩
theorem fp_X10_407 : FP RX10 407 10 4 .boolean := ⟨RX10, TX10, 18, tyX10, rfl, by decide, wsin_X10, (ts_1_13.2.2.2.2.2.2.2.2.2.1 rfl), tyX10_ok, nmX10, rfl, by decide +kernel⟩
theorem ml_X10_411 : Cond.methodLink RX10 411 yX5_triesWith ∈ TB := (ts_4_7.2.2.2.1 rfl)
theorem fl_X11_7 : FL RX11 7 11 0 := ⟨RX11, TX11, 41, rfl, by decide, wsin_X11, (ts_4_7.2.2.2.2.2.2.2.2.2.2.2.2.2.1 rfl)⟩
theorem kc_X11_102 : Cond.constant RX11 102 (1000000000) ∈ TB := (ts_5_9.2.2.2.2.2.2.2.2.2.2.2.2.2.2.1 rfl)
theorem kc_X11_103 : Cond.constantLong RX11 103 (4000000000000000000) ∈ TB := (ts_5_11.2.2.2.2.2.2.2.2.2.2.2.2.2.2.2.1 rfl)
theorem fl_X11_105 : FL RX11 105 11 15 := ⟨RX11, TX11, 41, rfl, by decide, wsin_X11, (ts_4_8.2.2.2.2.2.2.2.2.2.2.2.2.1 rfl)⟩
theorem ml_X11_108 : Cond.methodLink RX11 108 yX11_bound ∈ TB := (tk_5.2.2.2.2.2.2.2.2.2.2.2.2.2.1 rfl)
theorem fl_X11_112 : FL RX11 112 11 21 := ⟨RX11, TX11, 41, rfl, by decide, wsin_X11, (ts_4_9.2.2.1 rfl)⟩
theorem ml_X11_115 : Cond.methodLink RX11 115 yX11_no ∈ TB := (ts_5_1.1 rfl)
theorem fl_X11_46 : FL RX11 46 11 17 := ⟨RX11, TX11, 41, rfl, by decide, wsin_X11, (ts_4_8.2.2.2.2.2.2.2.2.2.2.2.2.2.2.1 rfl)⟩
theorem fp_X11_112 : FP RX11 112 11 21 .int := ⟨RX11, TX11, 41, tyX11, rfl, by decide, wsin_X11, (ts_4_9.2.2.1 rfl), tyX11_ok, nmX11, rfl, by decide +kernel⟩
theorem fl_X11_119 : FL RX11 119 11 22 := ⟨RX11, TX11, 41, rfl, by decide, wsin_X11, (ts_4_9.2.2.2.1 rfl)⟩
theorem ml_X11_122 : Cond.methodLink RX11 122 yX11_next ∈ TB := (ts_5_1.2.2.2.2.2.2.2.2.2.2.2.2.1 rfl)
theorem ml_X11_126 : Cond.methodLink RX11 126 yX11_isIn ∈ TB := (ts_5_2.2.2.2.2.2.2.2.2.1 rfl)
theorem fp_X11_119 : FP RX11 119 11 22 .int := ⟨RX11, TX11, 41, tyX11, rfl, by decide, wsin_X11, (ts_4_9.2.2.2.1 rfl), tyX11_ok, nmX11, rfl, by decide +kernel⟩
theorem fl_X11_55 : FL RX11 55 11 20 := ⟨RX11, TX11, 41, rfl, by decide, wsin_X11, (ts_4_9.2.1 rfl)⟩
theorem ml_X11_130 : Cond.methodLink RX11 130 yX11_readsDigits ∈ TB := (ts_5_2.2.2.2.2.1 rfl)
theorem ml_X11_134 : Cond.methodLink RX11 134 yX11_readsWind ∈ TB := (ts_5_2.2.2.2.2.2.2.2.2.2.2.2.1 rfl)
theorem ml_X11_138 : Cond.methodLink RX11 138 yX11_readsJumper ∈ TB := (ts_5_2.2.2.2.2.2.2.2.2.2.2.2.2.2.2.2.1 rfl)
theorem fl_X11_49 : FL RX11 49 11 18 := ⟨RX11, TX11, 41, rfl, by decide, wsin_X11, (ts_4_8.2.2.2.2.2.2.2.2.2.2.2.2.2.2.2.1 rfl)⟩
theorem fl_X11_141 : FL RX11 141 11 23 := ⟨RX11, TX11, 41, rfl, by decide, wsin_X11, (ts_4_9.2.2.2.2.1 rfl)⟩
theorem fl_X11_52 : FL RX11 52 11 19 := ⟨RX11, TX11, 41, rfl, by decide, wsin_X11, (ts_4_9.1 rfl)⟩
theorem ml_X11_144 : Cond.methodLink RX11 144 yX11_readsAll ∈ TB := (ts_5_2.1 rfl)
theorem fl_X11_147 : FL RX11 147 11 16 := ⟨RX11, TX11, 41, rfl, by decide, wsin_X11, (ts_4_8.2.2.2.2.2.2.2.2.2.2.2.2.2.1 rfl)⟩
theorem fl_X11_13 : FL RX11 13 11 1 := ⟨RX11, TX11, 41, rfl, by decide, wsin_X11, (ts_4_7.2.2.2.2.2.2.2.2.2.2.2.2.2.2.1 rfl)⟩
theorem fl_X11_16 : FL RX11 16 11 2 := ⟨RX11, TX11, 41, rfl, by decide, wsin_X11, (ts_4_7.2.2.2.2.2.2.2.2.2.2.2.2.2.2.2.1 rfl)⟩
theorem fl_X11_19 : FL RX11 19 11 3 := ⟨RX11, TX11, 41, rfl, by decide, wsin_X11, (ts_4_8.1 rfl)⟩
theorem fl_X11_22 : FL RX11 22 11 4 := ⟨RX11, TX11, 41, rfl, by decide, wsin_X11, (ts_4_8.2.1 rfl)⟩
theorem fl_X11_25 : FL RX11 25 11 5 := ⟨RX11, TX11, 41, rfl, by decide, wsin_X11, (ts_4_8.2.2.1 rfl)⟩
theorem fl_X11_28 : FL RX11 28 11 6 := ⟨RX11, TX11, 41, rfl, by decide, wsin_X11, (ts_4_8.2.2.2.1 rfl)⟩
theorem fl_X11_31 : FL RX11 31 11 7 := ⟨RX11, TX11, 41, rfl, by decide, wsin_X11, (ts_4_8.2.2.2.2.1 rfl)⟩
theorem fl_X11_34 : FL RX11 34 11 8 := ⟨RX11, TX11, 41, rfl, by decide, wsin_X11, (ts_4_8.2.2.2.2.2.1 rfl)⟩
theorem fp_X11_105 : FP RX11 105 11 15 .int := ⟨RX11, TX11, 41, tyX11, rfl, by decide, wsin_X11, (ts_4_8.2.2.2.2.2.2.2.2.2.2.2.2.1 rfl), tyX11_ok, nmX11, rfl, by decide +kernel⟩
theorem ml_X11_150 : Cond.methodLink RX11 150 yX11_turnNow ∈ TB := (ts_5_4.2.2.2.2.2.2.2.1 rfl)
theorem ml_X11_153 : Cond.methodLink RX11 153 yX11_putsTry ∈ TB := (ts_5_6.2.2.2.2.2.2.2.2.2.2.2.2.2.2.1 rfl)
theorem fl_X11_95 : FL RX11 95 11 12 := ⟨RX11, TX11, 41, rfl, by decide, wsin_X11, (ts_4_8.2.2.2.2.2.2.2.2.2.1 rfl)⟩
theorem fp_X11_95 : FP RX11 95 11 12 .int := ⟨RX11, TX11, 41, tyX11, rfl, by decide, wsin_X11, (ts_4_8.2.2.2.2.2.2.2.2.2.1 rfl), tyX11_ok, nmX11, rfl, by decide +kernel⟩
theorem fl_X11_157 : FL RX11 157 11 14 := ⟨RX11, TX11, 41, rfl, by decide, wsin_X11, (ts_4_8.2.2.2.2.2.2.2.2.2.2.2.1 rfl)⟩
theorem fp_X11_157 : FP RX11 157 11 14 .int := ⟨RX11, TX11, 41, tyX11, rfl, by decide, wsin_X11, (ts_4_8.2.2.2.2.2.2.2.2.2.2.2.1 rfl), tyX11_ok, nmX11, rfl, by decide +kernel⟩
theorem fl_X11_99 : FL RX11 99 11 13 := ⟨RX11, TX11, 41, rfl, by decide, wsin_X11, (ts_4_8.2.2.2.2.2.2.2.2.2.2.1 rfl)⟩
theorem fp_X11_99 : FP RX11 99 11 13 .int := ⟨RX11, TX11, 41, tyX11, rfl, by decide, wsin_X11, (ts_4_8.2.2.2.2.2.2.2.2.2.2.1 rfl), tyX11_ok, nmX11, rfl, by decide +kernel⟩
theorem ml_X11_160 : Cond.methodLink RX11 160 yX11_comesJumper ∈ TB := (ts_5_4.2.2.2.1 rfl)
theorem ml_X11_163 : Cond.methodLink RX11 163 yX11_lengthOf ∈ TB := (ts_5_5.2.2.2.2.2.2.2.1 rfl)
theorem ml_X11_166 : Cond.methodLink RX11 166 yX11_comesTry ∈ TB := (ts_5_6.2.2.2.2.2.2.2.2.2.2.1 rfl)
theorem fp_X11_141 : FP RX11 141 11 23 .int := ⟨RX11, TX11, 41, tyX11, rfl, by decide, wsin_X11, (ts_4_9.2.2.2.2.1 rfl), tyX11_ok, nmX11, rfl, by decide +kernel⟩
theorem ml_X11_169 : Cond.methodLink RX11 169 yX11_statement ∈ TB := (ts_5_1.2.2.2.2.2.2.2.2.1 rfl)
theorem ml_X11_173 : Cond.methodLink RX11 173 yX11_passesAll ∈ TB := (ts_5_3.2.2.2.1 rfl)
theorem ml_X11_177 : Cond.methodLink RX11 177 yX11_comes ∈ TB := (ts_5_3.2.2.2.2.2.2.2.2.2.2.2.2.2.2.2.1 rfl)
theorem fl_X11_180 : FL RX11 180 11 26 := ⟨RX11, TX11, 41, rfl, by decide, wsin_X11, (ts_4_9.2.2.2.2.2.2.2.1 rfl)⟩
theorem fl_X11_58 : FL RX11 58 11 24 := ⟨RX11, TX11, 41, rfl, by decide, wsin_X11, (ts_4_9.2.2.2.2.2.1 rfl)⟩
theorem fl_X11_184 : FL RX11 184 11 27 := ⟨RX11, TX11, 41, rfl, by decide, wsin_X11, (ts_4_9.2.2.2.2.2.2.2.2.1 rfl)⟩
theorem fp_X11_184 : FP RX11 184 11 27 .int := ⟨RX11, TX11, 41, tyX11, rfl, by decide, wsin_X11, (ts_4_9.2.2.2.2.2.2.2.2.1 rfl), tyX11_ok, nmX11, rfl, by decide +kernel⟩
theorem fp_X11_180 : FP RX11 180 11 26 .boolean := ⟨RX11, TX11, 41, tyX11, rfl, by decide, wsin_X11, (ts_4_9.2.2.2.2.2.2.2.1 rfl), tyX11_ok, nmX11, rfl, by decide +kernel⟩
theorem ml_X11_187 : Cond.methodLink RX11 187 yX11_passes ∈ TB := (ts_5_3.2.2.2.2.2.2.2.1 rfl)
theorem fl_X11_37 : FL RX11 37 11 9 := ⟨RX11, TX11, 41, rfl, by decide, wsin_X11, (ts_4_8.2.2.2.2.2.2.1 rfl)⟩
theorem fl_X11_40 : FL RX11 40 11 10 := ⟨RX11, TX11, 41, rfl, by decide, wsin_X11, (ts_4_8.2.2.2.2.2.2.2.1 rfl)⟩
theorem fl_X11_43 : FL RX11 43 11 11 := ⟨RX11, TX11, 41, rfl, by decide, wsin_X11, (ts_4_8.2.2.2.2.2.2.2.2.1 rfl)⟩
theorem ml_X11_191 : Cond.methodLink RX11 191 yX11_passOne ∈ TB := (ts_5_3.2.2.2.2.2.2.2.2.2.2.2.1 rfl)
theorem fp_X11_147 : FP RX11 147 11 16 .int := ⟨RX11, TX11, 41, tyX11, rfl, by decide, wsin_X11, (ts_4_8.2.2.2.2.2.2.2.2.2.2.2.2.2.1 rfl), tyX11_ok, nmX11, rfl, by decide +kernel⟩
theorem fl_X11_194 : FL RX11 194 11 25 := ⟨RX11, TX11, 41, rfl, by decide, wsin_X11, (ts_4_9.2.2.2.2.2.2.1 rfl)⟩
theorem fp_X11_194 : FP RX11 194 11 25 .boolean := ⟨RX11, TX11, 41, tyX11, rfl, by decide, wsin_X11, (ts_4_9.2.2.2.2.2.2.1 rfl), tyX11_ok, nmX11, rfl, by decide +kernel⟩
theorem ml_X11_197 : Cond.methodLink RX11 197 yX11_strideIn ∈ TB := (ts_5_10.2.2.2.1 rfl)
theorem ml_X11_200 : Cond.methodLink RX11 200 yX11_allStrides ∈ TB := (ts_5_10.2.2.2.2.2.2.2.2.2.2.2.2.2.2.2.1 rfl)
theorem ml_X11_204 : Cond.methodLink RX11 204 yX11_atLeast0 ∈ TB := (ts_5_5.2.2.2.2.2.2.2.2.2.2.2.1 rfl)
theorem ml_X11_207 : Cond.methodLink RX11 207 yX11_isJumper ∈ TB := (ts_5_7.2.2.2.2.2.2.2.2.2.2.2.2.2.2.1 rfl)
theorem ml_X11_210 : Cond.methodLink RX11 210 yX11_aimOf ∈ TB := (ts_5_8.2.2.1 rfl)
theorem ml_X11_213 : Cond.methodLink RX11 213 yX11_findBest ∈ TB := (ts_5_4.2.2.2.2.2.2.2.2.2.2.2.2.2.2.2.1 rfl)
theorem fl_X11_68 : FL RX11 68 11 30 := ⟨RX11, TX11, 41, rfl, by decide, wsin_X11, (ts_4_9.2.2.2.2.2.2.2.2.2.2.2.1 rfl)⟩
theorem fl_X11_71 : FL RX11 71 11 31 := ⟨RX11, TX11, 41, rfl, by decide, wsin_X11, (ts_4_9.2.2.2.2.2.2.2.2.2.2.2.2.1 rfl)⟩
theorem ml_X11_217 : Cond.methodLink RX11 217 yX11_triesOf ∈ TB := (ts_5_8.2.2.2.2.2.2.1 rfl)
theorem ml_X11_220 : Cond.methodLink RX11 220 yX11_lower ∈ TB := (ts_5_9.2.2.2.2.2.2.2.2.2.2.1 rfl)
theorem ml_X11_223 : Cond.methodLink RX11 223 yX11_placeOf ∈ TB := (ts_5_10.2.2.2.2.2.2.2.2.2.2.2.1 rfl)
theorem fl_X11_61 : FL RX11 61 11 28 := ⟨RX11, TX11, 41, rfl, by decide, wsin_X11, (ts_4_9.2.2.2.2.2.2.2.2.2.1 rfl)⟩
theorem ml_X11_226 : Cond.methodLink RX11 226 yX11_findWays ∈ TB := (ts_5_12.2.2.2.2.1 rfl)
theorem fl_X11_65 : FL RX11 65 11 29 := ⟨RX11, TX11, 41, rfl, by decide, wsin_X11, (ts_4_9.2.2.2.2.2.2.2.2.2.2.1 rfl)⟩
theorem ml_X11_230 : Cond.methodLink RX11 230 yX11_countedOne ∈ TB := (ts_5_12.2.2.2.2.2.2.2.1 rfl)
theorem ml_X11_234 : Cond.methodLink RX11 234 yX11_divisor ∈ TB := (ts_5_13.2.2.1 rfl)
theorem ml_X11_238 : Cond.methodLink RX11 238 yX11_lowest ∈ TB := (ts_5_11.2.2.2.2.2.2.2.2.2.2.2.1 rfl)
theorem ml_X11_242 : Cond.methodLink RX11 242 yX11_counted ∈ TB := (ts_5_12.1 rfl)
theorem ml_X11_246 : Cond.methodLink RX11 246 yX11_allWays ∈ TB := (ts_5_12.2.2.2.2.2.2.2.2.2.2.2.1 rfl)
theorem ml_X11_250 : Cond.methodLink RX11 250 yX11_partOf ∈ TB := (ts_5_12.2.2.2.2.2.2.2.2.2.2.2.2.2.2.2.1 rfl)
theorem ml_X11_254 : Cond.methodLink RX11 254 yX11_meanParts ∈ TB := (ts_5_13.2.2.2.2.2.2.2.2.2.1 rfl)
theorem kc_X11_257 : Cond.constantLong RX11 257 (-1) ∈ TB := (ts_5_14.2.2.2.2.2.1 rfl)
theorem ml_X11_259 : Cond.methodLink RX11 259 yX11_triedAs ∈ TB := (ts_5_5.2.2.2.1 rfl)
theorem ml_X11_262 : Cond.methodLink RX11 262 yX11_comesLength ∈ TB := (ts_5_5.2.2.2.2.2.2.2.2.2.2.2.2.2.2.1 rfl)
theorem fl_X11_74 : FL RX11 74 11 32 := ⟨RX11, TX11, 41, rfl, by decide, wsin_X11, (ts_4_9.2.2.2.2.2.2.2.2.2.2.2.2.2.1 rfl)⟩
theorem ml_X11_265 : Cond.methodLink RX11 265 yX11_isAhead ∈ TB := (ts_5_6.2.2.2.2.2.2.1 rfl)
theorem ml_X11_268 : Cond.methodLink RX11 268 yX11_sorts ∈ TB := (ts_5_6.2.2.1 rfl)
theorem ml_X11_271 : Cond.methodLink RX11 271 yX11_finalists ∈ TB := (ts_5_4.2.2.2.2.2.2.2.2.2.2.2.1 rfl)
theorem ml_X11_274 : Cond.methodLink RX11 274 yX11_rankOf ∈ TB := (ts_6_1.2.2.2.2.2.2.2.2.2.2.1 rfl)
theorem ml_X11_277 : Cond.methodLink RX11 277 yX11_isEnough ∈ TB := (ts_6_1.2.2.2.2.2.2.1 rfl)
theorem ml_X11_280 : Cond.methodLink RX11 280 yX11_ranksNow ∈ TB := (ts_6_2.2.2.2.2.2.2.2.2.2.2.1 rfl)
theorem ml_X11_283 : Cond.methodLink RX11 283 yX11_leader ∈ TB := (ts_6_2.2.2.2.2.2.2.1 rfl)
theorem ml_X11_286 : Cond.methodLink RX11 286 yX11_goOnBits ∈ TB := (ts_6_3.2.2.1 rfl)
theorem kc_X11_289 : Cond.constantLong RX11 289 (10000) ∈ TB := (ts_6_3.2.2.2.2.2.2.2.2.2.2.2.2.2.2.1 rfl)
theorem ml_X11_291 : Cond.methodLink RX11 291 yX11_tenThousandths ∈ TB := (ts_6_3.2.2.2.2.2.2.2.2.2.2.1 rfl)
theorem fl_X11_295 : FL RX11 295 11 34 := ⟨RX11, TX11, 41, rfl, by decide, wsin_X11, (ts_4_9.2.2.2.2.2.2.2.2.2.2.2.2.2.2.2.1 rfl)⟩
theorem fl_X11_77 : FL RX11 77 11 33 := ⟨RX11, TX11, 41, rfl, by decide, wsin_X11, (ts_4_9.2.2.2.2.2.2.2.2.2.2.2.2.2.2.1 rfl)⟩
theorem ml_X11_298 : Cond.methodLink RX11 298 yX11_isMovedFrom ∈ TB := (ts_6_4.2.2.2.2.2.2.2.2.2.2.2.1 rfl)
theorem ml_X11_301 : Cond.methodLink RX11 301 yX11_roundNow ∈ TB := (ts_6_5.2.2.2.2.2.2.2.1 rfl)
theorem fl_X11_80 : FL RX11 80 11 35 := ⟨RX11, TX11, 41, rfl, by decide, wsin_X11, (ts_4_10.1 rfl)⟩
theorem fp_X11_295 : FP RX11 295 11 34 .int := ⟨RX11, TX11, 41, tyX11, rfl, by decide, wsin_X11, (ts_4_9.2.2.2.2.2.2.2.2.2.2.2.2.2.2.2.1 rfl), tyX11_ok, nmX11, rfl, by decide +kernel⟩
theorem ml_X11_304 : Cond.methodLink RX11 304 yX11_isOther ∈ TB := (ts_6_6.2.2.2.1 rfl)
theorem ml_X11_307 : Cond.methodLink RX11 307 yX11_partOfWays ∈ TB := (ts_6_7.2.2.2.1 rfl)
theorem fl_X11_83 : FL RX11 83 11 36 := ⟨RX11, TX11, 41, rfl, by decide, wsin_X11, (ts_4_10.2.1 rfl)⟩
theorem ml_X11_311 : Cond.methodLink RX11 311 yX11_findLengths ∈ TB := (ts_6_6.2.2.2.2.2.2.2.2.2.2.2.2.2.2.2.1 rfl)
theorem fl_X11_86 : FL RX11 86 11 37 := ⟨RX11, TX11, 41, rfl, by decide, wsin_X11, (ts_4_10.2.2.1 rfl)⟩
theorem ml_X11_315 : Cond.methodLink RX11 315 yX11_areTwo ∈ TB := (ts_6_7.2.2.2.2.2.2.2.2.2.2.2.1 rfl)
theorem ml_X11_318 : Cond.methodLink RX11 318 yX11_moreFrom ∈ TB := (ts_6_7.2.2.2.2.2.2.2.2.2.2.2.2.2.2.2.1 rfl)
theorem fl_X11_89 : FL RX11 89 11 38 := ⟨RX11, TX11, 41, rfl, by decide, wsin_X11, (ts_4_10.2.2.2.1 rfl)⟩
theorem ml_X11_321 : Cond.methodLink RX11 321 yX11_sureMore ∈ TB := (ts_6_8.2.2.2.2.2.2.2.1 rfl)
theorem ml_X11_324 : Cond.methodLink RX11 324 yX11_rests ∈ TB := (ts_6_8.2.2.2.2.2.2.2.2.2.2.2.1 rfl)
theorem ml_X11_327 : Cond.methodLink RX11 327 yX11_canPractise ∈ TB := (ts_6_9.2.2.2.1 rfl)
theorem ml_X11_330 : Cond.methodLink RX11 330 yX11_practises ∈ TB := (ts_6_9.2.2.2.2.2.2.2.1 rfl)
theorem ml_X11_333 : Cond.methodLink RX11 333 yX11_triesBy ∈ TB := (ts_6_10.2.2.2.2.2.2.2.1 rfl)
theorem fl_X11_92 : FL RX11 92 11 39 := ⟨RX11, TX11, 41, rfl, by decide, wsin_X11, (ts_4_10.2.2.2.2.1 rfl)⟩
theorem fl_X11_336 : FL RX11 336 11 40 := ⟨RX11, TX11, 41, rfl, by decide, wsin_X11, (ts_4_10.2.2.2.2.2.1 rfl)⟩
theorem kc_X11_339 : Cond.constant RX11 339 (1103515245) ∈ TB := (ts_6_12.2.2.2.2.2.2.2.1 rfl)
theorem fp_X11_336 : FP RX11 336 11 40 .int := ⟨RX11, TX11, 41, tyX11, rfl, by decide, wsin_X11, (ts_4_10.2.2.2.2.2.1 rfl), tyX11_ok, nmX11, rfl, by decide +kernel⟩
theorem kc_X11_340 : Cond.constant RX11 340 (2147483647) ∈ TB := (ts_6_12.2.2.2.2.2.2.2.2.1 rfl)
theorem kc_X11_341 : Cond.constant RX11 341 (65536) ∈ TB := (ts_6_12.2.2.2.2.2.2.2.2.2.1 rfl)
theorem ml_X11_342 : Cond.methodLink RX11 342 yX11_drawnSlip ∈ TB := (ts_6_12.2.2.2.1 rfl)
theorem ml_X11_345 : Cond.methodLink RX11 345 yX11_triesByLot ∈ TB := (ts_6_11.2.2.2.2.2.2.2.2.2.2.2.2.2.2.2.1 rfl)
theorem ml_X11_349 : Cond.methodLink RX11 349 yX11_triesAs ∈ TB := (ts_6_12.2.2.2.2.2.2.2.2.2.2.2.2.2.2.1 rfl)
theorem su_X0_X3 : Cond.superclass RX0 RX3 ∈ TB := (ts_1_5.2.2.2.2.2.2.2.2.2.2.2.2.1 rfl)
theorem su_X4_X7 : Cond.superclass RX4 RX7 ∈ TB := (ts_1_6.2.2.2.1 rfl)
theorem su_X7_X3 : Cond.superclass RX7 RX3 ∈ TB := (ts_1_5.2.2.2.2.2.1 rfl)
theorem su_X8_X4 : Cond.superclass RX8 RX4 ∈ TB := (ts_1_7.2.1 rfl)
theorem su_X9_X0 : Cond.superclass RX9 RX0 ∈ TB := (ts_1_6.2.2.2.2.2.2.2.2.2.2.1 rfl)
theorem sm_Kind_Kind_lengthOf : Cond.sameMethod "MarkToBoard$Kind" "MarkToBoard$Kind" "lengthOf" "(LMarkToBoard$Jumper;III)I" ∈ TB := (ts_2_9.2.2.2.2.2.2.2.2.2.2.2.2.2.2.1 rfl)
theorem sm_Looker_Safe_lengthOf : Cond.sameMethod "MarkToBoard$Looker" "MarkToBoard$Safe" "lengthOf" "(LMarkToBoard$Jumper;III)I" ∈ TB := (ts_2_10.2.2.2.2.2.2.2.2.2.2.2.2.1 rfl)
theorem sm_Kind_Kind_aimOf : Cond.sameMethod "MarkToBoard$Kind" "MarkToBoard$Kind" "aimOf" "(LMarkToBoard$Jumper;)I" ∈ TB := (ts_2_12.2.2.2.2.2.2.2.2.1 rfl)
theorem sm_Kind_Kind_strideOf : Cond.sameMethod "MarkToBoard$Kind" "MarkToBoard$Kind" "strideOf" "(LMarkToBoard$Jumper;II)I" ∈ TB := (tk_3.2.2.2.2.2.2.2.2.2.2.2.2.2.2.1 rfl)
theorem sm_Looker_Kind_strideOf : Cond.sameMethod "MarkToBoard$Looker" "MarkToBoard$Kind" "strideOf" "(LMarkToBoard$Jumper;II)I" ∈ TB := (ts_3_1.2.2.2.2.2.2.2.2.2.1 rfl)
theorem sm_Bold_Bold_lengthOf : Cond.sameMethod "MarkToBoard$Bold" "MarkToBoard$Bold" "lengthOf" "(LMarkToBoard$Jumper;III)I" ∈ TB := (ts_6_13.2.2.1 rfl)
theorem sm_Safe_Safe_aimOf : Cond.sameMethod "MarkToBoard$Safe" "MarkToBoard$Safe" "aimOf" "(LMarkToBoard$Jumper;)I" ∈ TB := (ts_6_13.2.2.2.1 rfl)
theorem sm_Looker_Looker_aimOf : Cond.sameMethod "MarkToBoard$Looker" "MarkToBoard$Looker" "aimOf" "(LMarkToBoard$Jumper;)I" ∈ TB := (ts_6_13.2.2.2.2.1 rfl)
theorem sm_Bold_Bold_strideOf : Cond.sameMethod "MarkToBoard$Bold" "MarkToBoard$Bold" "strideOf" "(LMarkToBoard$Jumper;II)I" ∈ TB := (ts_6_13.2.2.2.2.2.1 rfl)
theorem sx_Bold_Kind_Bold_lengthOf : Cond.selects "MarkToBoard$Bold" ⟨"MarkToBoard$Kind", "lengthOf", "(LMarkToBoard$Jumper;III)I"⟩ ⟨"MarkToBoard$Bold", "lengthOf", "(LMarkToBoard$Jumper;III)I"⟩ ∈ TB := (ts_2_9.2.2.2.2.2.2.2.2.2.2.2.2.2.2.2.1 rfl)
theorem sx_Looker_Kind_Safe_lengthOf : Cond.selects "MarkToBoard$Looker" ⟨"MarkToBoard$Kind", "lengthOf", "(LMarkToBoard$Jumper;III)I"⟩ ⟨"MarkToBoard$Safe", "lengthOf", "(LMarkToBoard$Jumper;III)I"⟩ ∈ TB := (ts_2_10.2.2.2.1 rfl)
theorem sx_Safe_Kind_Safe_lengthOf : Cond.selects "MarkToBoard$Safe" ⟨"MarkToBoard$Kind", "lengthOf", "(LMarkToBoard$Jumper;III)I"⟩ ⟨"MarkToBoard$Safe", "lengthOf", "(LMarkToBoard$Jumper;III)I"⟩ ∈ TB := (ts_2_10.2.2.2.2.2.2.2.1 rfl)
theorem sx_Steady_Kind_Steady_lengthOf : Cond.selects "MarkToBoard$Steady" ⟨"MarkToBoard$Kind", "lengthOf", "(LMarkToBoard$Jumper;III)I"⟩ ⟨"MarkToBoard$Steady", "lengthOf", "(LMarkToBoard$Jumper;III)I"⟩ ∈ TB := (ts_2_10.2.2.2.2.2.2.2.2.1 rfl)
theorem sx_Winded_Kind_Winded_lengthOf : Cond.selects "MarkToBoard$Winded" ⟨"MarkToBoard$Kind", "lengthOf", "(LMarkToBoard$Jumper;III)I"⟩ ⟨"MarkToBoard$Winded", "lengthOf", "(LMarkToBoard$Jumper;III)I"⟩ ∈ TB := (ts_2_10.2.2.2.2.2.2.2.2.2.2.2.2.2.2.1 rfl)
theorem sx_Bold_Kind_Bold_aimOf : Cond.selects "MarkToBoard$Bold" ⟨"MarkToBoard$Kind", "aimOf", "(LMarkToBoard$Jumper;)I"⟩ ⟨"MarkToBoard$Bold", "aimOf", "(LMarkToBoard$Jumper;)I"⟩ ∈ TB := (ts_2_12.2.2.2.2.2.2.2.2.2.1 rfl)
theorem sx_Looker_Kind_Looker_aimOf : Cond.selects "MarkToBoard$Looker" ⟨"MarkToBoard$Kind", "aimOf", "(LMarkToBoard$Jumper;)I"⟩ ⟨"MarkToBoard$Looker", "aimOf", "(LMarkToBoard$Jumper;)I"⟩ ∈ TB := (ts_2_12.2.2.2.2.2.2.2.2.2.2.2.2.1 rfl)
theorem sx_Safe_Kind_Safe_aimOf : Cond.selects "MarkToBoard$Safe" ⟨"MarkToBoard$Kind", "aimOf", "(LMarkToBoard$Jumper;)I"⟩ ⟨"MarkToBoard$Safe", "aimOf", "(LMarkToBoard$Jumper;)I"⟩ ∈ TB := (ts_2_13.2.2.1 rfl)
theorem sx_Steady_Kind_Steady_aimOf : Cond.selects "MarkToBoard$Steady" ⟨"MarkToBoard$Kind", "aimOf", "(LMarkToBoard$Jumper;)I"⟩ ⟨"MarkToBoard$Steady", "aimOf", "(LMarkToBoard$Jumper;)I"⟩ ∈ TB := (ts_2_13.2.2.2.1 rfl)
theorem sx_Winded_Kind_Bold_aimOf : Cond.selects "MarkToBoard$Winded" ⟨"MarkToBoard$Kind", "aimOf", "(LMarkToBoard$Jumper;)I"⟩ ⟨"MarkToBoard$Bold", "aimOf", "(LMarkToBoard$Jumper;)I"⟩ ∈ TB := (ts_2_13.2.2.2.2.2.2.2.1 rfl)
theorem sx_Bold_Kind_Bold_strideOf : Cond.selects "MarkToBoard$Bold" ⟨"MarkToBoard$Kind", "strideOf", "(LMarkToBoard$Jumper;II)I"⟩ ⟨"MarkToBoard$Bold", "strideOf", "(LMarkToBoard$Jumper;II)I"⟩ ∈ TB := (tk_3.2.2.2.2.2.2.2.2.2.2.2.2.2.2.2.1 rfl)
theorem sx_Looker_Kind_Kind_strideOf : Cond.selects "MarkToBoard$Looker" ⟨"MarkToBoard$Kind", "strideOf", "(LMarkToBoard$Jumper;II)I"⟩ ⟨"MarkToBoard$Kind", "strideOf", "(LMarkToBoard$Jumper;II)I"⟩ ∈ TB := (ts_3_1.2.2.2.1 rfl)
theorem sx_Safe_Kind_Kind_strideOf : Cond.selects "MarkToBoard$Safe" ⟨"MarkToBoard$Kind", "strideOf", "(LMarkToBoard$Jumper;II)I"⟩ ⟨"MarkToBoard$Kind", "strideOf", "(LMarkToBoard$Jumper;II)I"⟩ ∈ TB := (ts_3_1.2.2.2.2.1 rfl)
theorem sx_Steady_Kind_Steady_strideOf : Cond.selects "MarkToBoard$Steady" ⟨"MarkToBoard$Kind", "strideOf", "(LMarkToBoard$Jumper;II)I"⟩ ⟨"MarkToBoard$Steady", "strideOf", "(LMarkToBoard$Jumper;II)I"⟩ ∈ TB := (ts_3_1.2.2.2.2.2.1 rfl)
theorem sx_Winded_Kind_Winded_strideOf : Cond.selects "MarkToBoard$Winded" ⟨"MarkToBoard$Kind", "strideOf", "(LMarkToBoard$Jumper;II)I"⟩ ⟨"MarkToBoard$Winded", "strideOf", "(LMarkToBoard$Jumper;II)I"⟩ ∈ TB := (ts_3_1.2.2.2.2.2.2.2.2.2.2.2.1 rfl)
end
section
/-- what the printed row below asks of the tables: it has no definition in the kit -/
def va_AOA (ty : FieldType) (U : State) : Prop := (Cond.arrayOver (.array ty)).before #[] U = true
theorem va_AOA.use {ty : FieldType} {A : Array Value} {U : State} (h : va_AOA ty U) : (Cond.arrayOver (.array ty)).before A U = true := h
/-! ===== BEGIN new T[n][m]: the outer array a place, the inner ones among the pooled ===== -/
/-- f, but v at every address of l -/
def vr_up {α : Type} (f : Nat → α) (l : List Nat) (v : α) : Nat → α := fun a => if a ∈ l then v else f a
theorem vr_up_in {α : Type} {f : Nat → α} {l : List Nat} {v : α} {a : Nat} (h : a ∈ l) : vr_up f l v a = v := if_pos h
theorem vr_up_ne {α : Type} {f : Nat → α} {l : List Nat} {v : α} {a : Nat} (h : a ∉ l) : vr_up f l v a = f a := if_neg h
theorem vr_rows {L l : List Nat} {f : Nat → va_E} {e : va_E} (h : ∀ a, a ∈ l → a ∉ L) : va_pl L f ++ l.map (fun a => (a, e)) = va_pl (L ++ l) (vr_up f l e) := by
  unfold va_pl
  rw [List.map_append]
  congr 1
  · apply List.map_congr_left
    intro a ha
    rw [vr_up_ne (fun q => h a q ha)]
  · apply List.map_congr_left
    intro a ha
    rw [vr_up_in ha]
theorem vr_lay {X rows : va_W} {x : Nat × va_E} {pl : va_W} {D : va_G} {cl : List vw_C} {H : Heap} (hP : va_P D cl (((X ++ pl) ++ [x]) ++ rows) H) : va_P D cl ((X ++ [x]) ++ (pl ++ rows)) H := by
  rw [List.append_assoc (X ++ pl)] at hP
  have h := va_P.swap hP
  rw [← List.append_assoc X] at h
  have h2 := va_P.swap h
  rw [List.append_assoc (X ++ [x])] at h2
  exact h2
theorem vr_layD {X rows : va_W} {x : Nat × va_E} {pl : va_W} {A : Nat → Prop} (hD : va_D A (((X ++ pl) ++ [x]) ++ rows)) : va_D A ((X ++ [x]) ++ (pl ++ rows)) := by
  rw [List.append_assoc (X ++ pl)] at hD
  have h := va_D.swap hD
  rw [← List.append_assoc X] at h
  have h2 := va_D.swap h
  rw [List.append_assoc (X ++ [x])] at h2
  exact h2
theorem vr_outer (c : ClassId) (N h0 : Nat) : ∀ i : Nat, Jvm.Free.Multi.outerC c N h0 i = arrV c N (fun j => va_rf (if j < i then some (h0 + 1 + j) else none))
  | 0 => by
    show ({ cls := c, slots := Array.replicate N .null, vm := .none } : Cell) = _
    rw [arrV_new]
    refine congrArg (arrV c N) (funext fun j => ?_)
    simp [va_rf]
  | i + 1 => by
    show (Jvm.Free.Multi.outerC c N h0 i).setSlot i (.ref (h0 + 1 + i)) = _
    rw [vr_outer c N h0 i, arrV_store]
    refine congrArg (arrV c N) (funext fun j => ?_)
    by_cases e : j = i
    · subst e
      simp [updV, va_rf]
    · by_cases h : j < i
      · simp [updV, e, h, Nat.lt_succ_of_lt h]
      · simp [updV, e, h, show ¬ j < i + 1 by omega]
section VGM
variable {p : Program} {l : Launch} {e : Env} {R : Room} {s : State} {m : MethodId} {args : Array Value} {below : List Frame} {meth : Method} {c : Code} {H : Heap} {locs : List Loc} {cells slots : Nat} {Q : State → Prop}
variable {cc : ByteArray} {pc : Nat} {ls : Array Slot} {rest : List Value} {D : va_G} {cl : List vw_C} {A : Nat → Prop} {a : Nat} {tys : List (ClassId × FieldType)} {ws : va_W} {H0 : Heap}
theorem va_mna {X : va_W} {L : List Nat} {f : Nat → va_E} {cc : ByteArray} (hexec : p.tables.exec = Jvm.exec) (hb : c.code = cc) {own : String} {index : Nat} {ty : FieldType} {cy : ClassId} (hown : s.vm.findClass own = some m.cls) (hclink : (Cond.classLink own index ("[" ++ (FieldType.array ty).toString)).before args s = true) (hover : va_AOA ty s) (harr : (Cond.arrayClass ty).before args s = true) (hcy : s.vm.findClass (FieldType.array ty).toString = some cy)
    (hK : va_K D cl tys s) (hP : va_P D cl (X ++ va_pl L f) H) (hD : va_D A (X ++ va_pl L f)) (hS : va_S A H0 H locs) (hA : ∀ q, H0.size ≤ q → A q) {n k : Int32} {N' K' : Nat} {z : vp_A} (hn : ¬ n < 0) (hk : ¬ k < 0) (hN : n.toNatClampNeg = N') (hM : k.toNatClampNeg = K')
    (hb1 : N' * 4 ≤ 536870912) (hb2 : K' * componentBytes ty ≤ 536870912) (hb3 : K' ≤ 536870912) (hdf : fits ty (defaultValue ty) = true) (hdd : (defaultValue ty).isDefault = true) (hcells : cells + (1 + N') ≤ R.cells) (hslots : slots + (N' + N' * K') ≤ R.slots) (hz : ∀ c : ClassId, Jvm.Free.Multi.innerC c K' (defaultValue ty) = vp_cell c z) (hdg : decode cc pc = .ok (.multianewarray index 2, 4))
    (kk : ∀ (q : Nat) (r : Nat → Nat) (cA : ClassId) (H1 : Heap), (∀ i j : Nat, i < N' → j < N' → r i = r j → i = j) → (∀ i : Nat, i < N' → r i ∉ L) → va_K D cl (tys ++ [(cA, .array ty)]) s →
      va_P D cl ((X ++ [(q, .inl (cA, N', .inr (.inr (.inr (.inr (fun i => if i < N' then some (r i) else none))))))]) ++ va_pl (L ++ (List.range N').map r) (vr_up f ((List.range N').map r) (.inl (cy, z)))) H1 → va_D A ((X ++ [(q, .inl (cA, N', .inr (.inr (.inr (.inr (fun i => if i < N' then some (r i) else none))))))]) ++ va_pl (L ++ (List.range N').map r) (vr_up f ((List.range N').map r) (.inl (cy, z)))) → va_S A H0 H1 locs →
      W p l e R s m args below meth c H1 locs (cells + 1 + N') (slots + N' + N' * K') Q (F0 m (pc + 4) ls (.ref q :: rest))) : W p l e R s m args below meth c H locs cells slots Q (F0 m pc ls (.int k :: .int n :: rest)) := by
  subst hN
  subst hM
  intro T hT Xs
  obtain ⟨vm₁, cA, comp, -, fA, fC, hO, -, X', step⟩ := Xs.multianewarray2F hexec hown hclink (va_AOA.use hover) harr (g := F0 m pc ls (.int k :: .int n :: rest)) rfl (by rw [hb]; exact hdg) rfl hn hk hb1 hb2 hb3 hdf hdd hcells hslots
  have ec : some cy = some comp := hcy.symm.trans fC
  cases ec
  generalize hF : Jvm.Free.Multi.fill (T.setVm vm₁) cA cy n.toNatClampNeg k.toNatClampNeg (defaultValue ty) n.toNatClampNeg = F at X' step
  have hTh : (T.setVm vm₁).heap = H := hT
  obtain ⟨f1, f2, -, -⟩ := Jvm.Free.Multi.fill_facts (T.setVm vm₁) cA cy n.toNatClampNeg k.toNatClampNeg (defaultValue ty) n.toNatClampNeg
  rw [hF, hTh] at f1 f2
  have hold : ∀ x : Nat, x < H.size → F.heap[x]? = H[x]? := fun x hx => by
    have := Jvm.Free.Multi.fill_old (T.setVm vm₁) cA cy n.toNatClampNeg k.toNatClampNeg (defaultValue ty) (a := x) (by rw [hTh]; exact hx) n.toNatClampNeg
    rw [hF, hTh] at this
    exact this
  have hrow : ∀ j : Nat, j < n.toNatClampNeg → F.heap[H.size + 1 + j]? = some (vp_cell cy z) := fun j hj => by
    have := Jvm.Free.Multi.fill_inner (T.setVm vm₁) cA cy n.toNatClampNeg k.toNatClampNeg (defaultValue ty) n.toNatClampNeg j hj
    rw [hF, hTh, hz] at this
    exact this
  have hout : Jvm.Free.Multi.outerC cA n.toNatClampNeg H.size n.toNatClampNeg = vp_cell cA (n.toNatClampNeg, .inr (.inr (.inr (.inr (fun i => if i < n.toNatClampNeg then some (H.size + 1 + i) else none))))) := by
    rw [vp_cell_q]
    exact vr_outer cA n.toNatClampNeg H.size n.toNatClampNeg
  rw [hout] at f2
  have hlt : ∀ a, a ∈ L → a < H.size := fun a ha => by
    obtain ⟨k9, hk9⟩ := va_pl_get (X := X) (f := f) ha
    exact (hP k9 _ hk9).lt
  have hnl : ∀ i : Nat, i < n.toNatClampNeg → H.size + 1 + i ∉ L := fun i _ h => by
    have := hlt _ h
    omega
  have hnm : ∀ a, a ∈ (List.range n.toNatClampNeg).map (fun i => H.size + 1 + i) → a ∉ L := fun a ha h => by
    obtain ⟨i, -, rfl⟩ := List.mem_map.mp ha
    have := hlt _ h
    omega
  have hP0 : va_P D cl (X ++ va_pl L f) F.heap := hP.kept (fun k9 x hx => hold x.1 ((hP k9 x hx).lt))
  have hP1 : va_P D cl ((X ++ va_pl L f) ++ [(H.size, .inl (cA, n.toNatClampNeg, .inr (.inr (.inr (.inr (fun i => if i < n.toNatClampNeg then some (H.size + 1 + i) else none))))))]) F.heap := hP0.app (fun k9 x hx => by
    have h0 : k9 < 1 := (List.getElem?_eq_some_iff.mp hx).1
    rw [show k9 = 0 by omega] at hx
    cases hx
    exact f2)
  have hP2 : va_P D cl (((X ++ va_pl L f) ++ [(H.size, .inl (cA, n.toNatClampNeg, .inr (.inr (.inr (.inr (fun i => if i < n.toNatClampNeg then some (H.size + 1 + i) else none))))))]) ++ ((List.range n.toNatClampNeg).map (fun i => H.size + 1 + i)).map (fun a => (a, .inl (cy, z)))) F.heap := hP1.app (fun k9 x hx => by
    obtain ⟨a, ha, rfl⟩ := List.mem_map.mp (List.mem_of_getElem? hx)
    obtain ⟨i, hi, rfl⟩ := List.mem_map.mp ha
    exact hrow i (List.mem_range.mp hi))
  have hD2 : va_D A (((X ++ va_pl L f) ++ [(H.size, .inl (cA, n.toNatClampNeg, .inr (.inr (.inr (.inr (fun i => if i < n.toNatClampNeg then some (H.size + 1 + i) else none))))))]) ++ ((List.range n.toNatClampNeg).map (fun i => H.size + 1 + i)).map (fun a => (a, .inl (cy, z)))) := by
    have hD1 := hD.push (e := .inl (cA, n.toNatClampNeg, .inr (.inr (.inr (.inr (fun i => if i < n.toNatClampNeg then some (H.size + 1 + i) else none)))))) hP rfl (hA _ hS.1)
    generalize hW1 : (X ++ va_pl L f) ++ [(H.size, .inl (cA, n.toNatClampNeg, .inr (.inr (.inr (.inr (fun i => if i < n.toNatClampNeg then some (H.size + 1 + i) else none))))))] = W1 at hD1 hP1 ⊢
    have hle : ∀ (k9 : Nat) (x : Nat × va_E), W1[k9]? = some x → x.1 ≤ H.size := fun k9 x hx => by
      rw [← hW1] at hx
      by_cases hl : k9 < (X ++ va_pl L f).length
      · rw [List.getElem?_append_left hl] at hx
        exact Nat.le_of_lt ((hP k9 x hx).lt)
      · rw [List.getElem?_append_right (by omega)] at hx
        have h0 : k9 - (X ++ va_pl L f).length < 1 := (List.getElem?_eq_some_iff.mp hx).1
        rw [show k9 - (X ++ va_pl L f).length = 0 by omega] at hx
        cases hx
        exact Nat.le_refl _
    have hr : ∀ (k9 : Nat) (x : Nat × va_E), (((List.range n.toNatClampNeg).map (fun i => H.size + 1 + i)).map (fun a => ((a, .inl (cy, z)) : Nat × va_E)))[k9]? = some x → x.1 = H.size + 1 + k9 := fun k9 x hx => by
      rw [List.getElem?_map, List.getElem?_map] at hx
      by_cases h9 : k9 < n.toNatClampNeg
      · rw [List.getElem?_range h9] at hx
        cases hx
        rfl
      · have hn0 : (List.range n.toNatClampNeg)[k9]? = none := List.getElem?_eq_none (by rw [List.length_range]; omega)
        rw [hn0] at hx
        cases hx
    refine ⟨fun i j x y hi hj hxy => ?_, fun k9 x hx => ?_⟩
    · by_cases h1 : i < W1.length <;> by_cases h2 : j < W1.length
      · rw [List.getElem?_append_left h1] at hi
        rw [List.getElem?_append_left h2] at hj
        exact hD1.1 i j x y hi hj hxy
      · rw [List.getElem?_append_left h1] at hi
        rw [List.getElem?_append_right (by omega)] at hj
        have := hle _ _ hi
        have := hr _ _ hj
        omega
      · rw [List.getElem?_append_right (by omega)] at hi
        rw [List.getElem?_append_left h2] at hj
        have := hle _ _ hj
        have := hr _ _ hi
        omega
      · rw [List.getElem?_append_right (by omega)] at hi hj
        have := hr _ _ hi
        have := hr _ _ hj
        omega
    · by_cases h1 : k9 < W1.length
      · rw [List.getElem?_append_left h1] at hx
        exact hD1.2 k9 x hx
      · rw [List.getElem?_append_right (by omega)] at hx
        have := hr _ _ hx
        exact hA _ (by have := hS.1; omega)
  have hAr : ArrOfT s cA (.array ty) := fun N9 z9 => by
    obtain ⟨-, k9, hk9, cm9, hkk9⟩ := (hO 0 0 0).1
    exact ⟨(fun q hq => by cases hq), k9, hk9, cm9, hkk9⟩
  have hK2 : va_K D cl (tys ++ [(cA, .array ty)]) s := ⟨hK.1, fun k9 x hx => by
    by_cases hl : k9 < tys.length
    · rw [List.getElem?_append_left hl] at hx
      exact hK.2 k9 x hx
    · rw [List.getElem?_append_right (by omega)] at hx
      have h0 : k9 - tys.length < 1 := (List.getElem?_eq_some_iff.mp hx).1
      rw [show k9 - tys.length = 0 by omega] at hx
      cases hx
      exact ⟨hAr, fA⟩⟩
  obtain ⟨t, a1, b1⟩ := kk H.size (fun i => H.size + 1 + i) cA F.heap (fun i j _ _ h => by have h9 : H.size + 1 + i = H.size + 1 + j := h; omega) hnl hK2 (by rw [← vr_rows hnm]; exact vr_lay hP2) (by rw [← vr_rows hnm]; exact vr_layD hD2) ⟨by rw [f1]; have := hS.1; omega, fun x h1 h2 => (hold x (Nat.lt_of_lt_of_le h1 hS.1)).trans (hS.2.1 x h1 h2), hS.2.2⟩ F rfl X'
  refine ⟨t, step t ?_, b1⟩
  have e : T.heap.size = H.size := by rw [hT]
  rw [e]
  exact a1
end VGM
/-! ===== END ===== -/
end
section
/-! THE ABSTRACT HEAP: whole numbers by object and slot; what a reference field holds for good stands in the static table -/
abbrev AH : Type := (Nat → Nat → Int32) × (Nat → Nat → Int64) × (Nat → Nat)
abbrev Shp : Type := (Nat × Nat × Nat) ⊕ Nat
abbrev Stc : Type := List Shp × (Nat → Nat → Option Nat) × Nat × List FieldType
abbrev Dyn : Type := (Nat → Nat) × va_G × List (ClassId × FieldType)
def sI (h : AH) (o k : Nat) (v : Int32) : AH := (fun o' k' => if o' = o ∧ k' = k then v else h.1 o' k', h.2)
def sL (h : AH) (o k : Nat) (v : Int64) : AH := (h.1, fun o' k' => if o' = o ∧ k' = k then v else h.2.1 o' k', h.2.2)
def sK (h : AH) (o v : Nat) : AH := (h.1, h.2.1, fun o' => if o' = o then v else h.2.2 o')
/-- the kinds of a class's fields, by slots: 0 int, 1 long, 2 a reference for good, 3 a jumper's way -/
def fty (ci : Nat) : List Nat := match ci with
  | 1 => [2, 2, 1, 1, 1]
  | 2 => [3, 0, 0, 0, 0, 0, 0, 0, 0]
  | 5 => [0, 0, 0, 0, 0, 2, 2, 2, 2, 2]
  | 6 => [0, 2, 2]
  | 10 => [2, 2, 2, 2, 0, 2, 0, 2, 0, 2, 2, 2, 2, 2, 2, 2, 2, 0]
  | 11 => [2, 2, 2, 2, 2, 2, 2, 2, 2, 2, 2, 2, 0, 0, 0, 0, 0, 2, 2, 2, 2, 0, 0, 0, 2, 0, 0, 0, 2, 2, 2, 2, 2, 2, 0, 2, 2, 2, 2, 2, 0]
  | _ => []
/-- the same of an object as it is made: a way is null -/
def rty (ci : Nat) : List Nat := match ci with
  | 2 => [4, 0, 0, 0, 0, 0, 0, 0, 0]
  | _ => []
def eF (Z : Stc) (ad : Nat → Nat) (h : AH) (o k t : Nat) : Value := match t with
  | 0 => .int (h.1 o k)
  | 1 => .long (h.2.1 o k)
  | 2 => va_rf ((Z.2.1 o k).map ad)
  | 3 => .ref (ad (Z.2.2.1 + h.2.2 o % 6))
  | _ => .null
def eFs (Z : Stc) (ad : Nat → Nat) (h : AH) (o : Nat) : Nat → List Nat → List Value
  | _, [] => []
  | k, t :: l => eF Z ad h o k t :: eFs Z ad h o (k + 1) l
def eA (Z : Stc) (ad : Nat → Nat) (h : AH) (o kd n : Nat) : vp_A := match kd with
  | 0 => (n, .inl (h.1 o))
  | 1 => (n, .inr (.inl (h.2.1 o)))
  | _ => (n, .inr (.inr (.inr (.inr (fun j => (Z.2.1 o j).map ad)))))
def tcl (yd : Dyn) (t : Nat) : ClassId := ((yd.2.2[t]?).map (·.1)).getD 0
def ent (Z : Stc) (yd : Dyn) (h : AH) (o : Nat) (s : Shp) : va_E := match s with
  | .inl q => match q.2.1 with
    | 9 => .inr (q.2.2, eFs Z yd.1 h o 0 (rty q.2.2))
    | kd => .inl (tcl yd q.1, eA Z yd.1 h o kd q.2.2)
  | .inr ci => .inr (ci, eFs Z yd.1 h o 0 (fty ci))
def wld (Z : Stc) (yd : Dyn) (h : AH) : va_W := (List.range Z.1.length).map (fun o => (yd.1 o, ent Z yd h o ((Z.1[o]?).getD (.inr 0))))
theorem wld_len (Z : Stc) (yd : Dyn) (h : AH) : (wld Z yd h).length = Z.1.length := by simp [wld]
theorem wld_at {Z : Stc} {yd : Dyn} {h : AH} {o : Nat} {s : Shp} (e : Z.1[o]? = some s) : (wld Z yd h)[o]? = some (yd.1 o, ent Z yd h o s) := by
  have hl : o < Z.1.length := (List.getElem?_eq_some_iff.mp e).1
  simp [wld, List.getElem?_map, List.getElem?_range hl, e]
theorem wld_set {Z : Stc} {yd : Dyn} {h h' : AH} {o : Nat} {s : Shp} {x : va_E} (e : Z.1[o]? = some s) (hx : ent Z yd h' o s = x) (ho : ∀ o' s', o' ≠ o → ent Z yd h' o' s' = ent Z yd h o' s') : (wld Z yd h).set o (yd.1 o, x) = wld Z yd h' := by
  have hl : o < Z.1.length := (List.getElem?_eq_some_iff.mp e).1
  apply List.ext_getElem?
  intro j
  by_cases hj : j = o
  · subst hj
    rw [List.getElem?_set_self (by rw [wld_len]; exact hl), wld_at e, hx]
  · rw [List.getElem?_set_ne (Ne.symm hj)]
    by_cases hjl : j < Z.1.length
    · obtain ⟨t, ht⟩ : ∃ t, Z.1[j]? = some t := ⟨_, List.getElem?_eq_getElem hjl⟩
      rw [wld_at ht, wld_at ht, ho j t hj]
    · rw [List.getElem?_eq_none (by rw [wld_len]; omega), List.getElem?_eq_none (by rw [wld_len]; omega)]
theorem eFs_get (Z : Stc) (ad : Nat → Nat) (h : AH) (o : Nat) : ∀ (l : List Nat) (k i : Nat), (eFs Z ad h o k l)[i]? = (l[i]?).map (eF Z ad h o (k + i))
  | [], _, _ => by simp [eFs]
  | t :: l, k, 0 => by simp [eFs]
  | t :: l, k, i + 1 => by simp only [eFs, List.getElem?_cons_succ]; rw [eFs_get Z ad h o l (k + 1) i, Nat.add_assoc, Nat.add_comm 1 i]
theorem eFs_len (Z : Stc) (ad : Nat → Nat) (h : AH) (o : Nat) : ∀ (l : List Nat) (k : Nat), (eFs Z ad h o k l).length = l.length
  | [], _ => rfl
  | _ :: l, k => by simp only [eFs, List.length_cons]; rw [eFs_len Z ad h o l (k + 1)]
theorem eFs_set {Z : Stc} {ad : Nat → Nat} {h h' : AH} {o i t : Nat} {l : List Nat} {v : Value} (ht : l[i]? = some t) (hv : eF Z ad h' o i t = v) (ho : ∀ k t', k ≠ i → eF Z ad h' o k t' = eF Z ad h o k t') (hi : ∀ t', l[i]? = some t' → t' = t) : eFs Z ad h' o 0 l = (eFs Z ad h o 0 l).set i v := by
  have hl : i < l.length := (List.getElem?_eq_some_iff.mp ht).1
  apply List.ext_getElem?
  intro j
  by_cases hj : j = i
  · subst hj
    rw [List.getElem?_set_self (by rw [eFs_len]; exact hl), eFs_get, ht, Nat.zero_add]
    simp [hv]
  · rw [List.getElem?_set_ne (Ne.symm hj), eFs_get, eFs_get, Nat.zero_add]
    cases l[j]? with
    | none => rfl
    | some t' => simp [ho j t' hj]
theorem eFs_same {Z : Stc} {ad : Nat → Nat} {h h' : AH} {o : Nat} (he : ∀ k t, eF Z ad h' o k t = eF Z ad h o k t) : ∀ (l : List Nat) (k : Nat), eFs Z ad h' o k l = eFs Z ad h o k l
  | [], _ => rfl
  | t :: l, k => by simp only [eFs]; rw [he k t, eFs_same he l (k + 1)]
theorem ent_same {Z : Stc} {yd : Dyn} {h h' : AH} {o : Nat} {s : Shp} (h1 : ∀ k, h'.1 o k = h.1 o k) (h2 : ∀ k, h'.2.1 o k = h.2.1 o k) (h3 : h'.2.2 o = h.2.2 o) : ent Z yd h' o s = ent Z yd h o s := by
  have g1 : h'.1 o = h.1 o := funext h1
  have g2 : h'.2.1 o = h.2.1 o := funext h2
  have he : ∀ k t, eF Z yd.1 h' o k t = eF Z yd.1 h o k t := by
    intro k t
    unfold eF
    split <;> simp [g1, g2, h3]
  cases s with
  | inl q =>
    unfold ent
    simp only
    split
    · rw [eFs_same he]
    · unfold eA
      split <;> simp [g1, g2]
  | inr ci => simp only [ent]; rw [eFs_same he]
theorem sI_self (h : AH) (o k : Nat) (v : Int32) : (sI h o k v).1 o k = v := by simp [sI]
theorem sI_ne {h : AH} {o k o' k' : Nat} (v : Int32) (hn : ¬ (o' = o ∧ k' = k)) : (sI h o k v).1 o' k' = h.1 o' k' := by simp only [sI, if_neg hn]
theorem sL_self (h : AH) (o k : Nat) (v : Int64) : (sL h o k v).2.1 o k = v := by simp [sL]
theorem sL_ne {h : AH} {o k o' k' : Nat} (v : Int64) (hn : ¬ (o' = o ∧ k' = k)) : (sL h o k v).2.1 o' k' = h.2.1 o' k' := by simp only [sL, if_neg hn]
theorem sI_2 (h : AH) (o k : Nat) (v : Int32) : (sI h o k v).2 = h.2 := rfl
theorem sL_1 (h : AH) (o k : Nat) (v : Int64) : (sL h o k v).1 = h.1 := rfl
theorem sL_22 (h : AH) (o k : Nat) (v : Int64) : (sL h o k v).2.2 = h.2.2 := rfl
theorem sK_1 (h : AH) (o v : Nat) : (sK h o v).1 = h.1 := rfl
theorem sK_21 (h : AH) (o v : Nat) : (sK h o v).2.1 = h.2.1 := rfl
theorem ent_sI_ne (Z : Stc) (yd : Dyn) (h : AH) {o o' : Nat} (k : Nat) (v : Int32) (s : Shp) (hn : o' ≠ o) : ent Z yd (sI h o k v) o' s = ent Z yd h o' s :=
  ent_same (fun _ => sI_ne v (fun q => hn q.1)) (fun _ => rfl) rfl
theorem ent_sL_ne (Z : Stc) (yd : Dyn) (h : AH) {o o' : Nat} (k : Nat) (v : Int64) (s : Shp) (hn : o' ≠ o) : ent Z yd (sL h o k v) o' s = ent Z yd h o' s :=
  ent_same (fun _ => rfl) (fun _ => sL_ne v (fun q => hn q.1)) rfl
theorem ent_sK_ne (Z : Stc) (yd : Dyn) (h : AH) {o o' : Nat} (v : Nat) (s : Shp) (hn : o' ≠ o) : ent Z yd (sK h o v) o' s = ent Z yd h o' s :=
  ent_same (fun _ => rfl) (fun _ => rfl) (by simp [sK, hn])
theorem wld_putI {Z : Stc} {yd : Dyn} {h : AH} {o ci k : Nat} (v : Int32) (e : Z.1[o]? = some (.inr ci)) (hk : (fty ci)[k]? = some 0) : (wld Z yd h).set o (yd.1 o, .inr (ci, (eFs Z yd.1 h o 0 (fty ci)).set k (.int v))) = wld Z yd (sI h o k v) := by
  refine wld_set e ?_ (fun o' s' hn => ent_sI_ne Z yd h k v s' hn)
  show Sum.inr (ci, _) = _
  rw [eFs_set (h := h) hk (v := .int v) (by show Value.int _ = _; rw [sI_self]) (fun k' t' hn => by unfold eF; split <;> simp [sI, hn]) (fun t' ht => by rw [hk] at ht; exact (Option.some.inj ht).symm)]
theorem wld_putL {Z : Stc} {yd : Dyn} {h : AH} {o ci k : Nat} (v : Int64) (e : Z.1[o]? = some (.inr ci)) (hk : (fty ci)[k]? = some 1) : (wld Z yd h).set o (yd.1 o, .inr (ci, (eFs Z yd.1 h o 0 (fty ci)).set k (.long v))) = wld Z yd (sL h o k v) := by
  refine wld_set e ?_ (fun o' s' hn => ent_sL_ne Z yd h k v s' hn)
  show Sum.inr (ci, _) = _
  rw [eFs_set (h := h) hk (v := .long v) (by show Value.long _ = _; rw [sL_self]) (fun k' t' hn => by unfold eF; split <;> simp [sL, hn]) (fun t' ht => by rw [hk] at ht; exact (Option.some.inj ht).symm)]
theorem wld_putK {Z : Stc} {yd : Dyn} {h : AH} {o ci : Nat} (v : Nat) (e : Z.1[o]? = some (.inr ci)) (hk : (fty ci)[0]? = some 3) (h3 : ∀ k, k ≠ 0 → (fty ci)[k]? ≠ some 3) (hm : ∀ (k t : Nat), (fty ci)[k]? = some t → t ≤ 3) : (wld Z yd h).set o (yd.1 o, .inr (ci, (eFs Z yd.1 h o 0 (fty ci)).set 0 (.ref (yd.1 (Z.2.2.1 + v % 6))))) = wld Z yd (sK h o v) := by
  refine wld_set e ?_ (fun o' s' hn => ent_sK_ne Z yd h v s' hn)
  show Sum.inr (ci, _) = Sum.inr (ci, _)
  congr 2
  have hl : 0 < (fty ci).length := (List.getElem?_eq_some_iff.mp hk).1
  apply List.ext_getElem?
  intro j
  by_cases hj : j = 0
  · subst hj
    rw [List.getElem?_set_self (by rw [eFs_len]; exact hl), eFs_get, hk]
    simp [eF, sK]
  · rw [List.getElem?_set_ne (Ne.symm hj), eFs_get, eFs_get]
    cases ht : (fty ci)[j]? with
    | none => rfl
    | some t =>
      have h1 := hm j t ht
      have h2 : t ≠ 3 := fun q => h3 j hj (by rw [ht, q])
      match t, h1, h2 with
      | 0, _, _ => rfl
      | 1, _, _ => rfl
      | 2, _, _ => rfl
      | t + 3, h1, h2 => exact absurd (by omega : t + 3 = 3) h2
theorem wld_astI {Z : Stc} {yd : Dyn} {h : AH} {o t n k : Nat} (v : Int32) (e : Z.1[o]? = some (.inl (t, 0, n))) : (wld Z yd h).set o (yd.1 o, .inl (tcl yd t, n, .inl (upd (h.1 o) k v))) = wld Z yd (sI h o k v) := by
  refine wld_set e ?_ (fun o' s' hn => ent_sI_ne Z yd h k v s' hn)
  show Sum.inl (tcl yd t, n, Sum.inl _) = _
  rw [show (sI h o k v).1 o = upd (h.1 o) k v from funext fun j => by simp [sI, upd]]
theorem wld_astL {Z : Stc} {yd : Dyn} {h : AH} {o t n k : Nat} (v : Int64) (e : Z.1[o]? = some (.inl (t, 1, n))) : (wld Z yd h).set o (yd.1 o, .inl (tcl yd t, n, .inr (.inl (vp_updL (h.2.1 o) k v)))) = wld Z yd (sL h o k v) := by
  refine wld_set e ?_ (fun o' s' hn => ent_sL_ne Z yd h k v s' hn)
  show Sum.inl (tcl yd t, n, Sum.inr (Sum.inl _)) = _
  rw [show (sL h o k v).2.1 o = vp_updL (h.2.1 o) k v from funext fun j => by simp [sL, vp_updL]]
/-! abstract values: a reference is the number of an object -/
def cv (ad : Nat → Nat) (v : Value) : Value := match v with
  | .ref i => .ref (ad i)
  | w => w
theorem cv_cat (ad : Nat → Nat) (v : Value) : (cv ad v).category = v.category := by cases v <;> rfl
def lvc (ad : Nat → Nat) (lv : List (Nat × Value)) : List (Nat × Value) := lv.map (fun q => (q.1, cv ad q.2))
def lget : List (Nat × Value) → Nat → Option Value
  | [], _ => none
  | q :: l, i => match Nat.beq q.1 i with
    | true => some q.2
    | false => lget l i
theorem lget_mem : ∀ {l : List (Nat × Value)} {i : Nat} {v : Value}, lget l i = some v → (i, v) ∈ l
  | q :: l, i, v, h => by
    unfold lget at h
    split at h
    next e => cases h; rw [← Nat.eq_of_beq_eq_true e]; exact List.mem_cons_self
    next e => exact List.mem_cons_of_mem _ (lget_mem h)
/-- a new value at a place: what else is kept, by places -/
def two (v : Value) : Bool := match v with
  | .long _ => true
  | .double _ => true
  | _ => false
theorem two_cat {v : Value} (h : two v = false) : ¬ v.category = 2 := by cases v <;> simp [two, Value.category] at h ⊢
def lin1 (i : Nat) (v : Value) : List (Nat × Value) → List (Nat × Value)
  | [] => [(i, v)]
  | q :: l => match Nat.blt i q.1 with
    | true => (i, v) :: q :: l
    | false => match Nat.beq q.1 i with
      | true => (i, v) :: l
      | false => match Nat.beq (q.1 + 1) i with
        | true => match two q.2 with
          | true => lin1 i v l
          | false => q :: lin1 i v l
        | false => q :: lin1 i v l
/-- sorted by places -/
def srt : Nat → List (Nat × Value) → Bool
  | _, [] => true
  | k, q :: l => Nat.ble k q.1 && srt (q.1 + 1) l
theorem srt_ge : ∀ {l : List (Nat × Value)} {k : Nat} {q : Nat × Value}, srt k l = true → q ∈ l → k ≤ q.1
  | a :: l, k, q, h, hq => by
    simp only [srt, Bool.and_eq_true] at h
    have h1 : k ≤ a.1 := Nat.le_of_ble_eq_true h.1
    rcases List.mem_cons.mp hq with e | e
    · rw [e]; exact h1
    · have := srt_ge h.2 e
      omega
theorem srt_tail {a : Nat × Value} {l : List (Nat × Value)} {k : Nat} (h : srt k (a :: l) = true) : srt (a.1 + 1) l = true := by
  simp only [srt, Bool.and_eq_true] at h
  exact h.2
theorem lin1_mem {i : Nat} {v : Value} : ∀ {l : List (Nat × Value)} {k : Nat} {q : Nat × Value}, srt k l = true → q ∈ lin1 i v l → q = (i, v) ∨ (q ∈ l ∧ ¬ q.1 = i ∧ ¬ (q.1 + 1 = i ∧ q.2.category = 2))
  | [], _, q, _, h => by simp [lin1] at h; exact Or.inl h
  | a :: l, k, q, hs, h => by
    have ht := srt_tail hs
    unfold lin1 at h
    split at h
    next e =>
      have hlt : i < a.1 := Nat.le_of_ble_eq_true e
      rcases List.mem_cons.mp h with h | h
      · exact Or.inl h
      · refine Or.inr ⟨h, ?_⟩
        have hge : a.1 ≤ q.1 := by
          rcases List.mem_cons.mp h with e2 | e2
          · rw [e2]; exact Nat.le_refl _
          · have := srt_ge ht e2
            omega
        exact ⟨by omega, fun z => by omega⟩
    next e =>
      split at h
      next e2 =>
        have e3 := Nat.eq_of_beq_eq_true e2
        rcases List.mem_cons.mp h with h | h
        · exact Or.inl h
        · have := srt_ge ht h
          exact Or.inr ⟨List.mem_cons_of_mem _ h, by omega, fun z => by omega⟩
      next e2 =>
        have n2 : ¬ a.1 = i := fun z => by rw [z, Nat.beq_refl] at e2; cases e2
        have keep : ∀ {q : Nat × Value}, q ∈ lin1 i v l → q = (i, v) ∨ (q ∈ a :: l ∧ ¬ q.1 = i ∧ ¬ (q.1 + 1 = i ∧ q.2.category = 2)) := by
          intro q hq
          rcases lin1_mem ht hq with h | h
          · exact Or.inl h
          · exact Or.inr ⟨List.mem_cons_of_mem _ h.1, h.2⟩
        split at h
        next e3 =>
          split at h
          next e4 => exact keep h
          next e4 =>
            rcases List.mem_cons.mp h with h | h
            · subst h
              exact Or.inr ⟨List.mem_cons_self, n2, fun z => two_cat e4 z.2⟩
            · exact keep h
        next e3 =>
          have n3 : ¬ a.1 + 1 = i := fun z => by rw [z, Nat.beq_refl] at e3; cases e3
          rcases List.mem_cons.mp h with h | h
          · subst h
            exact Or.inr ⟨List.mem_cons_self, n2, fun z => n3 z.1⟩
          · exact keep h
/-- the place behind is lost too -/
def ldel (i : Nat) : List (Nat × Value) → List (Nat × Value)
  | [] => []
  | q :: l => match Nat.beq q.1 i with
    | true => l
    | false => q :: ldel i l
theorem ldel_mem {i : Nat} : ∀ {l : List (Nat × Value)} {k : Nat} {q : Nat × Value}, srt k l = true → q ∈ ldel i l → q ∈ l ∧ ¬ q.1 = i
  | a :: l, k, q, hs, h => by
    have ht := srt_tail hs
    unfold ldel at h
    split at h
    next e =>
      have e3 := Nat.eq_of_beq_eq_true e
      have := srt_ge ht h
      exact ⟨List.mem_cons_of_mem _ h, by omega⟩
    next e =>
      have n2 : ¬ a.1 = i := fun z => by rw [z, Nat.beq_refl] at e; cases e
      rcases List.mem_cons.mp h with h | h
      · subst h
        exact ⟨List.mem_cons_self, n2⟩
      · have := ldel_mem ht h
        exact ⟨List.mem_cons_of_mem _ this.1, this.2⟩
def lup1 (lv : List (Nat × Value)) (i : Nat) (v : Value) : List (Nat × Value) := match srt 0 lv with
  | true => lin1 i v lv
  | false => []
def lup2 (lv : List (Nat × Value)) (i : Nat) (v : Value) : List (Nat × Value) := match srt 0 lv with
  | true => match srt 0 (ldel (i + 1) lv) with
    | true => lin1 i v (ldel (i + 1) lv)
    | false => []
  | false => []
theorem lup1_has {ls : Array Slot} {nL i : Nat} {ad : Nat → Nat} {lv : List (Nat × Value)} {v : Value} (h : lv_has ls nL ((i, cv ad v) :: (lvc ad lv).filter (fun q => !(q.1 == i) && !(q.1 + 1 == i && q.2.category == 2)))) : lv_has ls nL (lvc ad (lup1 lv i v)) := by
  refine ⟨h.1, h.2.1, fun q hq => ?_⟩
  unfold lup1 at hq
  split at hq
  next hs =>
    obtain ⟨a, ha, rfl⟩ := List.mem_map.mp hq
    rcases lin1_mem hs ha with e | e
    · subst e
      exact h.2.2 (i, cv ad v) List.mem_cons_self
    · refine h.2.2 (a.1, cv ad a.2) (List.mem_cons_of_mem _ (List.mem_filter.mpr ⟨List.mem_map.mpr ⟨a, e.1, rfl⟩, ?_⟩))
      have h1 := e.2.1
      have h2 := e.2.2
      simp only [cv_cat, Bool.and_eq_true, Bool.not_eq_true', beq_eq_false_iff_ne, ne_eq, Bool.and_eq_false_iff]
      refine ⟨h1, ?_⟩
      by_cases z : a.1 + 1 = i
      · exact Or.inr (fun z2 => h2 ⟨z, z2⟩)
      · exact Or.inl z
  next hs => cases hq
theorem lup2_has {ls : Array Slot} {nL i : Nat} {ad : Nat → Nat} {lv : List (Nat × Value)} {v : Value} (h : lv_has ls nL ((i, cv ad v) :: (lvc ad lv).filter (fun q => !(q.1 == i) && (!(q.1 == i + 1) && !(q.1 + 1 == i && q.2.category == 2))))) : lv_has ls nL (lvc ad (lup2 lv i v)) := by
  refine ⟨h.1, h.2.1, fun q hq => ?_⟩
  unfold lup2 at hq
  split at hq
  next hs =>
    split at hq
    next hs2 =>
      obtain ⟨a, ha, rfl⟩ := List.mem_map.mp hq
      rcases lin1_mem hs2 ha with e | e
      · subst e
        exact h.2.2 (i, cv ad v) List.mem_cons_self
      · have hd := ldel_mem hs e.1
        refine h.2.2 (a.1, cv ad a.2) (List.mem_cons_of_mem _ (List.mem_filter.mpr ⟨List.mem_map.mpr ⟨a, hd.1, rfl⟩, ?_⟩))
        have h1 := e.2.1
        have h2 := e.2.2
        have h3 := hd.2
        simp only [cv_cat, Bool.and_eq_true, Bool.not_eq_true', beq_eq_false_iff_ne, ne_eq, Bool.and_eq_false_iff]
        refine ⟨h1, h3, ?_⟩
        by_cases z : a.1 + 1 = i
        · exact Or.inr (fun z2 => h2 ⟨z, z2⟩)
        · exact Or.inl z
    next hs2 => cases hq
  next hs => cases hq
theorem lv_get {ls : Array Slot} {nL i : Nat} {ad : Nat → Nat} {lv : List (Nat × Value)} {v : Value} (h : lv_has ls nL (lvc ad lv)) (e : lget lv i = some v) : ls[i]? = some (.val (cv ad v)) := h.2.2 (i, cv ad v) (List.mem_map.mpr ⟨(i, v), lget_mem e, rfl⟩)
theorem lv_drop {ls : Array Slot} {nL : Nat} {ad : Nat → Nat} {lv : List (Nat × Value)} (ks : List Nat) (h : lv_has ls nL (lvc ad lv)) : lv_has ls nL (lvc ad (lv_pick lv ks)) := by
  refine ⟨h.1, h.2.1, fun q hq => ?_⟩
  obtain ⟨a, ha, rfl⟩ := List.mem_map.mp hq
  obtain ⟨k, -, hk⟩ := List.mem_filterMap.mp ha
  exact h.2.2 _ (List.mem_map.mpr ⟨a, List.mem_of_getElem? hk, rfl⟩)
end
section
/-! THE WALK: the machine at a frame with abstract locals, stack and heap does what the option says, if it says anything -/
abbrev MCx : Type := Program × Launch × Env × Room × State × MethodId × Array Value × List Frame × Method × Code
abbrev WX (X : MCx) (H : Heap) (locs : List Loc) (k n : Nat) (Q : State → Prop) (g : JFrame) : Prop := W X.1 X.2.1 X.2.2.1 X.2.2.2.1 X.2.2.2.2.1 X.2.2.2.2.2.1 X.2.2.2.2.2.2.1 X.2.2.2.2.2.2.2.1 X.2.2.2.2.2.2.2.2.1 X.2.2.2.2.2.2.2.2.2 H locs k n Q g
abbrev xS (X : MCx) : State := X.2.2.2.2.1
abbrev xM (X : MCx) : MethodId := X.2.2.2.2.2.1
def WR (X : MCx) (Z : Stc) (yd : Dyn) (A : Nat → Prop) (h : AH) (H : Heap) (locs : List Loc) : Prop :=
  va_P yd.2.1 vwCl (wld Z yd h) H ∧ va_D A (wld Z yd h) ∧ va_S A (xS X).heap H locs ∧ va_K yd.2.1 vwCl yd.2.2 (xS X) ∧ yd.2.2.map (·.2) = Z.2.2.2
def AW (X : MCx) (nL : Nat) (Z : Stc) (yd : Dyn) (A : Nat → Prop) (k n : Nat) {α : Type} (Qf : α → AH → State → Prop) (pc : Nat) (lv : List (Nat × Value)) (st : List Value) (h : AH) (o : Option (α × AH)) : Prop :=
  ∀ (r : α) (h' : AH), o = some (r, h') → ∀ (ls : Array Slot) (H : Heap) (locs : List Loc), lv_has ls nL (lvc yd.1 lv) → WR X Z yd A h H locs → WX X H locs k n (Qf r h') (F0 (xM X) pc ls (st.map (cv yd.1)))
def OK (X : MCx) (cc : ByteArray) (own : String) (nL : Nat) (ret : Option FieldType) (rm : Room) (A : Nat → Prop) : Prop :=
  X.1.tables.exec = Jvm.exec ∧ X.2.2.2.2.2.2.2.2.2.code = cc ∧ X.2.2.2.2.2.2.2.2.2.maxLocals = nL ∧ (xS X).vm.findClass own = some (xM X).cls ∧ (∀ w ∈ TB, w.before X.2.2.2.2.2.2.1 (xS X) = true) ∧ X.2.2.2.2.2.2.2.2.1.locks = false ∧ X.2.2.2.2.2.2.2.2.1.sig.returnType = ret ∧ (∀ q, (xS X).heap.size ≤ q → A q) ∧ X.2.2.2.1 = rm
/-- a step named; a value named; a call's end; an index looked at; a check -/
def vl {α β : Type} (e : α) (f : α → β) : β := f e
def bd {α β : Type} (o : Option (α × AH)) (f : α → AH → Option β) : Option β := match o with
  | none => none
  | some p => f p.1 p.2
def ck {β : Type} (i : Int32) (n : Nat) (o : Option β) : Option β := if i < 0 ∨ n ≤ i.toNatClampNeg then none else o
def cs {β : Type} (Z : Stc) (a : Nat) (s : Shp) (o : Option β) : Option β := if Z.1[a]? = some s then o else none
def cz {β : Type} (x : Int32) (o : Option β) : Option β := if x = 0 ∨ x = 1 then o else none
/-- the machine's own arithmetic, named -/
def rm32 (x y : Int32) : Int32 := x - x / y * y
def rm64 (x y : Int64) : Int64 := x - x / y * y
def shl32 (x y : Int32) : Int32 := x <<< (y &&& 31)
def sar32 (x y : Int32) : Int32 := x >>> (y &&& 31)
def shl64 (x : Int64) (y : Int32) : Int64 := x <<< (y.toInt64 &&& 63)
def sar64 (x : Int64) (y : Int32) : Int64 := x >>> (y.toInt64 &&& 63)
section AWS
variable {X : MCx} {cc : ByteArray} {own : String} {nL : Nat} {ret : Option FieldType} {rm : Room} {Z : Stc} {yd : Dyn} {A : Nat → Prop} {k n : Nat} {α : Type} {Qf : α → AH → State → Prop} {pc : Nat} {lv : List (Nat × Value)} {st : List Value} {h : AH} {o o1 o2 : Option (α × AH)}
theorem aw_none : AW X nL Z yd A k n Qf pc lv st h none := fun _ _ e => by cases e
theorem aw_drop (ks : List Nat) (q : AW X nL Z yd A k n Qf pc (lv_pick lv ks) st h o) : AW X nL Z yd A k n Qf pc lv st h o := fun r h' e ls H locs hl hw => q r h' e ls H locs (lv_drop ks hl) hw
theorem aw_eq {lv' : List (Nat × Value)} {st' : List Value} (e1 : lv = lv') (e2 : st = st') (q : AW X nL Z yd A k n Qf pc lv' st' h o) : AW X nL Z yd A k n Qf pc lv st h o := by subst e1; subst e2; exact q
theorem aw_if {c : Prop} [Decidable c] (q1 : c → AW X nL Z yd A k n Qf pc lv st h o1) (q2 : ¬ c → AW X nL Z yd A k n Qf pc lv st h o2) : AW X nL Z yd A k n Qf pc lv st h (if c then o1 else o2) := by
  by_cases e : c
  · rw [if_pos e]; exact q1 e
  · rw [if_neg e]; exact q2 e
theorem aw_cs {a : Nat} {s : Shp} (q : Z.1[a]? = some s → AW X nL Z yd A k n Qf pc lv st h o) : AW X nL Z yd A k n Qf pc lv st h (cs Z a s o) := aw_if q (fun _ => aw_none)
theorem aw_vlI {e : Int32} {f : Int32 → Option (α × AH)} (q : ∀ x, AW X nL Z yd A k n Qf pc lv (.int x :: st) h (f x)) : AW X nL Z yd A k n Qf pc lv (.int e :: st) h (vl e f) := q e
theorem aw_vlL {e : Int64} {f : Int64 → Option (α × AH)} (q : ∀ x, AW X nL Z yd A k n Qf pc lv (.long x :: st) h (f x)) : AW X nL Z yd A k n Qf pc lv (.long e :: st) h (vl e f) := q e
theorem aw_iconst (C : OK X cc own nL ret rm A) {z : Int} {v : Int32} (d : decode cc pc = .ok (.iconst z, 1)) (hv : Int32.ofInt z = v) (q : AW X nL Z yd A k n Qf (pc + 1) lv (.int v :: st) h o) : AW X nL Z yd A k n Qf pc lv st h o := fun r h' e ls H locs hl hw => lv_iconst C.1 C.2.1 d hv (q r h' e ls H locs hl hw)
theorem aw_bipush (C : OK X cc own nL ret rm A) {z : Int} {v : Int32} (d : decode cc pc = .ok (.bipush z, 2)) (hv : (Int8.ofInt z).toInt32 = v) (q : AW X nL Z yd A k n Qf (pc + 2) lv (.int v :: st) h o) : AW X nL Z yd A k n Qf pc lv st h o := fun r h' e ls H locs hl hw => lv_bipush C.1 C.2.1 d hv (q r h' e ls H locs hl hw)
theorem aw_sipush (C : OK X cc own nL ret rm A) {z : Int} {v : Int32} (d : decode cc pc = .ok (.sipush z, 3)) (hv : (Int16.ofInt z).toInt32 = v) (q : AW X nL Z yd A k n Qf (pc + 3) lv (.int v :: st) h o) : AW X nL Z yd A k n Qf pc lv st h o := fun r h' e ls H locs hl hw => lv_sipush C.1 C.2.1 d hv (q r h' e ls H locs hl hw)
theorem aw_lconst (C : OK X cc own nL ret rm A) {z : Fin 2} {v : Int64} (d : decode cc pc = .ok (.lconst z, 1)) (hv : Int64.ofNat (z : Nat) = v) (q : AW X nL Z yd A k n Qf (pc + 1) lv (.long v :: st) h o) : AW X nL Z yd A k n Qf pc lv st h o := fun r h' e ls H locs hl hw => lv_lconst C.1 C.2.1 d hv (q r h' e ls H locs hl hw)
theorem aw_iload_n (C : OK X cc own nL ret rm A) {z : Fin 4} {i : Nat} {x : Int32} (d : decode cc pc = .ok (.iload_n z, 1)) (hi : (z : Nat) = i) (g : lget lv i = some (.int x)) (q : AW X nL Z yd A k n Qf (pc + 1) lv (.int x :: st) h o) : AW X nL Z yd A k n Qf pc lv st h o := fun r h' e ls H locs hl hw => lv_iload_n C.1 C.2.1 d hi (lv_get hl g) (q r h' e ls H locs hl hw)
theorem aw_iload (C : OK X cc own nL ret rm A) {i : Nat} {x : Int32} (d : decode cc pc = .ok (.iload i, 2)) (g : lget lv i = some (.int x)) (q : AW X nL Z yd A k n Qf (pc + 2) lv (.int x :: st) h o) : AW X nL Z yd A k n Qf pc lv st h o := fun r h' e ls H locs hl hw => lv_iload C.1 C.2.1 d (lv_get hl g) (q r h' e ls H locs hl hw)
theorem aw_lload_n (C : OK X cc own nL ret rm A) {z : Fin 4} {i : Nat} {x : Int64} (d : decode cc pc = .ok (.lload_n z, 1)) (hi : (z : Nat) = i) (g : lget lv i = some (.long x)) (q : AW X nL Z yd A k n Qf (pc + 1) lv (.long x :: st) h o) : AW X nL Z yd A k n Qf pc lv st h o := fun r h' e ls H locs hl hw => lv_lload_n C.1 C.2.1 d hi (lv_get hl g) (q r h' e ls H locs hl hw)
theorem aw_lload (C : OK X cc own nL ret rm A) {i : Nat} {x : Int64} (d : decode cc pc = .ok (.lload i, 2)) (g : lget lv i = some (.long x)) (q : AW X nL Z yd A k n Qf (pc + 2) lv (.long x :: st) h o) : AW X nL Z yd A k n Qf pc lv st h o := fun r h' e ls H locs hl hw => lv_lload C.1 C.2.1 d (lv_get hl g) (q r h' e ls H locs hl hw)
theorem aw_aload_n (C : OK X cc own nL ret rm A) {z : Fin 4} {i : Nat} {x : Nat} (d : decode cc pc = .ok (.aload_n z, 1)) (hi : (z : Nat) = i) (g : lget lv i = some (.ref x)) (q : AW X nL Z yd A k n Qf (pc + 1) lv (.ref x :: st) h o) : AW X nL Z yd A k n Qf pc lv st h o := fun r h' e ls H locs hl hw => lv_aload_n C.1 C.2.1 d hi (lv_get hl g) (q r h' e ls H locs hl hw)
theorem aw_aload (C : OK X cc own nL ret rm A) {i : Nat} {x : Nat} (d : decode cc pc = .ok (.aload i, 2)) (g : lget lv i = some (.ref x)) (q : AW X nL Z yd A k n Qf (pc + 2) lv (.ref x :: st) h o) : AW X nL Z yd A k n Qf pc lv st h o := fun r h' e ls H locs hl hw => lv_aload C.1 C.2.1 d (lv_get hl g) (q r h' e ls H locs hl hw)
theorem aw_istore_n (C : OK X cc own nL ret rm A) {z : Fin 4} {i : Nat} {x : Int32} {lv' : List (Nat × Value)} (d : decode cc pc = .ok (.istore_n z, 1)) (hi : (z : Nat) = i) (hn : i < nL) (hv : lup1 lv i (.int x) = lv') (q : AW X nL Z yd A k n Qf (pc + 1) lv' st h o) : AW X nL Z yd A k n Qf pc lv (.int x :: st) h o := fun r h' e ls H locs hl hw => lv_istore_n C.1 C.2.1 d hi hl hn rfl (fun ls' hl' => q r h' e ls' H locs (by rw [← hv]; exact lup1_has hl') hw)
theorem aw_istore (C : OK X cc own nL ret rm A) {i : Nat} {x : Int32} {lv' : List (Nat × Value)} (d : decode cc pc = .ok (.istore i, 2)) (hn : i < nL) (hv : lup1 lv i (.int x) = lv') (q : AW X nL Z yd A k n Qf (pc + 2) lv' st h o) : AW X nL Z yd A k n Qf pc lv (.int x :: st) h o := fun r h' e ls H locs hl hw => lv_istore C.1 C.2.1 d hl hn rfl (fun ls' hl' => q r h' e ls' H locs (by rw [← hv]; exact lup1_has hl') hw)
theorem aw_lstore_n (C : OK X cc own nL ret rm A) {z : Fin 4} {i : Nat} {x : Int64} {lv' : List (Nat × Value)} (d : decode cc pc = .ok (.lstore_n z, 1)) (hi : (z : Nat) = i) (hn : i + 1 < nL) (hv : lup2 lv i (.long x) = lv') (q : AW X nL Z yd A k n Qf (pc + 1) lv' st h o) : AW X nL Z yd A k n Qf pc lv (.long x :: st) h o := fun r h' e ls H locs hl hw => lv_lstore_n C.1 C.2.1 d hi hl hn rfl (fun ls' hl' => q r h' e ls' H locs (by rw [← hv]; exact lup2_has hl') hw)
theorem aw_lstore (C : OK X cc own nL ret rm A) {i : Nat} {x : Int64} {lv' : List (Nat × Value)} (d : decode cc pc = .ok (.lstore i, 2)) (hn : i + 1 < nL) (hv : lup2 lv i (.long x) = lv') (q : AW X nL Z yd A k n Qf (pc + 2) lv' st h o) : AW X nL Z yd A k n Qf pc lv (.long x :: st) h o := fun r h' e ls H locs hl hw => lv_lstore C.1 C.2.1 d hl hn rfl (fun ls' hl' => q r h' e ls' H locs (by rw [← hv]; exact lup2_has hl') hw)
theorem aw_astore_n (C : OK X cc own nL ret rm A) {z : Fin 4} {i : Nat} {x : Nat} {lv' : List (Nat × Value)} (d : decode cc pc = .ok (.astore_n z, 1)) (hi : (z : Nat) = i) (hn : i < nL) (hv : lup1 lv i (.ref x) = lv') (q : AW X nL Z yd A k n Qf (pc + 1) lv' st h o) : AW X nL Z yd A k n Qf pc lv (.ref x :: st) h o := fun r h' e ls H locs hl hw => lv_astore_n C.1 C.2.1 d hi hl hn rfl (fun ls' hl' => q r h' e ls' H locs (by rw [← hv]; exact lup1_has hl') hw)
theorem aw_astore (C : OK X cc own nL ret rm A) {i : Nat} {x : Nat} {lv' : List (Nat × Value)} (d : decode cc pc = .ok (.astore i, 2)) (hn : i < nL) (hv : lup1 lv i (.ref x) = lv') (q : AW X nL Z yd A k n Qf (pc + 2) lv' st h o) : AW X nL Z yd A k n Qf pc lv (.ref x :: st) h o := fun r h' e ls H locs hl hw => lv_astore C.1 C.2.1 d hl hn rfl (fun ls' hl' => q r h' e ls' H locs (by rw [← hv]; exact lup1_has hl') hw)
theorem aw_iinc (C : OK X cc own nL ret rm A) {i : Nat} {z : Int} {x : Int32} {lv' : List (Nat × Value)} (d : decode cc pc = .ok (.iinc i z, 3)) (g : lget lv i = some (.int x)) (hn : i < nL) (hv : lup1 lv i (.int (x + Int32.ofInt z)) = lv') (q : AW X nL Z yd A k n Qf (pc + 3) lv' st h o) : AW X nL Z yd A k n Qf pc lv st h o := fun r h' e ls H locs hl hw => by
  obtain ⟨j, hj⟩ := List.getElem?_of_mem (List.mem_map.mpr ⟨(i, .int x), lget_mem g, rfl⟩ : (i, cv yd.1 (.int x)) ∈ lvc yd.1 lv)
  exact lv_iinc C.1 C.2.1 d hl hj rfl hn rfl (fun ls' hl' => q r h' e ls' H locs (by rw [← hv]; exact lup1_has hl') hw)
theorem aw_iincV (C : OK X cc own nL ret rm A) {i : Nat} {z : Int} {x : Int32} {f : Int32 → Option (α × AH)} (lv' : Int32 → List (Nat × Value)) {cst : Int32} (d : decode cc pc = .ok (.iinc i z, 3)) (hc : Int32.ofInt z = cst) (g : lget lv i = some (.int x)) (hn : i < nL) (hv : ∀ y, lup1 lv i (.int y) = lv' y) (q : ∀ y : Int32, AW X nL Z yd A k n Qf (pc + 3) (lv' y) st h (f y)) : AW X nL Z yd A k n Qf pc lv st h (vl (x + cst) f) := by
  subst hc
  exact aw_iinc C d g hn (hv _) (q _)
theorem aw_istoreV_n (C : OK X cc own nL ret rm A) {z : Fin 4} {i : Nat} {x : Int32} {f : Int32 → Option (α × AH)} (lv' : Int32 → List (Nat × Value)) (d : decode cc pc = .ok (.istore_n z, 1)) (hi : (z : Nat) = i) (hn : i < nL) (hv : ∀ y, lup1 lv i (.int y) = lv' y) (q : ∀ y : Int32, AW X nL Z yd A k n Qf (pc + 1) (lv' y) st h (f y)) : AW X nL Z yd A k n Qf pc lv (.int x :: st) h (vl x f) := aw_istore_n C d hi hn (hv _) (q _)
theorem aw_istoreV (C : OK X cc own nL ret rm A) {i : Nat} {x : Int32} {f : Int32 → Option (α × AH)} (lv' : Int32 → List (Nat × Value)) (d : decode cc pc = .ok (.istore i, 2)) (hn : i < nL) (hv : ∀ y, lup1 lv i (.int y) = lv' y) (q : ∀ y : Int32, AW X nL Z yd A k n Qf (pc + 2) (lv' y) st h (f y)) : AW X nL Z yd A k n Qf pc lv (.int x :: st) h (vl x f) := aw_istore C d hn (hv _) (q _)
theorem aw_lstoreV_n (C : OK X cc own nL ret rm A) {z : Fin 4} {i : Nat} {x : Int64} {f : Int64 → Option (α × AH)} (lv' : Int64 → List (Nat × Value)) (d : decode cc pc = .ok (.lstore_n z, 1)) (hi : (z : Nat) = i) (hn : i + 1 < nL) (hv : ∀ y, lup2 lv i (.long y) = lv' y) (q : ∀ y : Int64, AW X nL Z yd A k n Qf (pc + 1) (lv' y) st h (f y)) : AW X nL Z yd A k n Qf pc lv (.long x :: st) h (vl x f) := aw_lstore_n C d hi hn (hv _) (q _)
theorem aw_lstoreV (C : OK X cc own nL ret rm A) {i : Nat} {x : Int64} {f : Int64 → Option (α × AH)} (lv' : Int64 → List (Nat × Value)) (d : decode cc pc = .ok (.lstore i, 2)) (hn : i + 1 < nL) (hv : ∀ y, lup2 lv i (.long y) = lv' y) (q : ∀ y : Int64, AW X nL Z yd A k n Qf (pc + 2) (lv' y) st h (f y)) : AW X nL Z yd A k n Qf pc lv (.long x :: st) h (vl x f) := aw_lstore C d hn (hv _) (q _)
theorem aw_iadd (C : OK X cc own nL ret rm A) {x y : Int32} (d : decode cc pc = .ok (.iadd, 1)) (q : AW X nL Z yd A k n Qf (pc + 1) lv (.int (x + y) :: st) h o) : AW X nL Z yd A k n Qf pc lv (.int y :: .int x :: st) h o := fun r h' e ls H locs hl hw => lv_iadd C.1 C.2.1 d (q r h' e ls H locs hl hw)
theorem aw_isub (C : OK X cc own nL ret rm A) {x y : Int32} (d : decode cc pc = .ok (.isub, 1)) (q : AW X nL Z yd A k n Qf (pc + 1) lv (.int (x - y) :: st) h o) : AW X nL Z yd A k n Qf pc lv (.int y :: .int x :: st) h o := fun r h' e ls H locs hl hw => lv_isub C.1 C.2.1 d (q r h' e ls H locs hl hw)
theorem aw_imul (C : OK X cc own nL ret rm A) {x y : Int32} (d : decode cc pc = .ok (.imul, 1)) (q : AW X nL Z yd A k n Qf (pc + 1) lv (.int (x * y) :: st) h o) : AW X nL Z yd A k n Qf pc lv (.int y :: .int x :: st) h o := fun r h' e ls H locs hl hw => lv_imul C.1 C.2.1 d (q r h' e ls H locs hl hw)
theorem aw_iand (C : OK X cc own nL ret rm A) {x y : Int32} (d : decode cc pc = .ok (.iand, 1)) (q : AW X nL Z yd A k n Qf (pc + 1) lv (.int (x &&& y) :: st) h o) : AW X nL Z yd A k n Qf pc lv (.int y :: .int x :: st) h o := fun r h' e ls H locs hl hw => lv_iand C.1 C.2.1 d (q r h' e ls H locs hl hw)
theorem aw_ior (C : OK X cc own nL ret rm A) {x y : Int32} (d : decode cc pc = .ok (.ior, 1)) (q : AW X nL Z yd A k n Qf (pc + 1) lv (.int (x ||| y) :: st) h o) : AW X nL Z yd A k n Qf pc lv (.int y :: .int x :: st) h o := fun r h' e ls H locs hl hw => lv_ior C.1 C.2.1 d (q r h' e ls H locs hl hw)
theorem aw_ishl (C : OK X cc own nL ret rm A) {x y : Int32} (d : decode cc pc = .ok (.ishl, 1)) (q : AW X nL Z yd A k n Qf (pc + 1) lv (.int (shl32 x y) :: st) h o) : AW X nL Z yd A k n Qf pc lv (.int y :: .int x :: st) h o := fun r h' e ls H locs hl hw => lv_ishl C.1 C.2.1 d (q r h' e ls H locs hl hw)
theorem aw_ishr (C : OK X cc own nL ret rm A) {x y : Int32} (d : decode cc pc = .ok (.ishr, 1)) (q : AW X nL Z yd A k n Qf (pc + 1) lv (.int (sar32 x y) :: st) h o) : AW X nL Z yd A k n Qf pc lv (.int y :: .int x :: st) h o := fun r h' e ls H locs hl hw => lv_ishr C.1 C.2.1 d (q r h' e ls H locs hl hw)
theorem aw_ladd (C : OK X cc own nL ret rm A) {x y : Int64} (d : decode cc pc = .ok (.ladd, 1)) (q : AW X nL Z yd A k n Qf (pc + 1) lv (.long (x + y) :: st) h o) : AW X nL Z yd A k n Qf pc lv (.long y :: .long x :: st) h o := fun r h' e ls H locs hl hw => lv_ladd C.1 C.2.1 d (q r h' e ls H locs hl hw)
theorem aw_lsub (C : OK X cc own nL ret rm A) {x y : Int64} (d : decode cc pc = .ok (.lsub, 1)) (q : AW X nL Z yd A k n Qf (pc + 1) lv (.long (x - y) :: st) h o) : AW X nL Z yd A k n Qf pc lv (.long y :: .long x :: st) h o := fun r h' e ls H locs hl hw => lv_lsub C.1 C.2.1 d (q r h' e ls H locs hl hw)
theorem aw_lmul (C : OK X cc own nL ret rm A) {x y : Int64} (d : decode cc pc = .ok (.lmul, 1)) (q : AW X nL Z yd A k n Qf (pc + 1) lv (.long (x * y) :: st) h o) : AW X nL Z yd A k n Qf pc lv (.long y :: .long x :: st) h o := fun r h' e ls H locs hl hw => lv_lmul C.1 C.2.1 d (q r h' e ls H locs hl hw)
theorem aw_lshl (C : OK X cc own nL ret rm A) {x : Int64} {y : Int32} (d : decode cc pc = .ok (.lshl, 1)) (q : AW X nL Z yd A k n Qf (pc + 1) lv (.long (shl64 x y) :: st) h o) : AW X nL Z yd A k n Qf pc lv (.int y :: .long x :: st) h o := fun r h' e ls H locs hl hw => lv_lshl C.1 C.2.1 d rfl (q r h' e ls H locs hl hw)
theorem aw_lshr (C : OK X cc own nL ret rm A) {x : Int64} {y : Int32} (d : decode cc pc = .ok (.lshr, 1)) (q : AW X nL Z yd A k n Qf (pc + 1) lv (.long (sar64 x y) :: st) h o) : AW X nL Z yd A k n Qf pc lv (.int y :: .long x :: st) h o := fun r h' e ls H locs hl hw => lv_lshr C.1 C.2.1 d rfl (q r h' e ls H locs hl hw)
theorem aw_ineg (C : OK X cc own nL ret rm A) {x : Int32} (d : decode cc pc = .ok (.ineg, 1)) (q : AW X nL Z yd A k n Qf (pc + 1) lv (.int (-x) :: st) h o) : AW X nL Z yd A k n Qf pc lv (.int x :: st) h o := fun r h' e ls H locs hl hw => lv_ineg C.1 C.2.1 d (q r h' e ls H locs hl hw)
theorem aw_i2l (C : OK X cc own nL ret rm A) {x : Int32} (d : decode cc pc = .ok (.i2l, 1)) (q : AW X nL Z yd A k n Qf (pc + 1) lv (.long x.toInt64 :: st) h o) : AW X nL Z yd A k n Qf pc lv (.int x :: st) h o := fun r h' e ls H locs hl hw => lv_i2l C.1 C.2.1 d rfl (q r h' e ls H locs hl hw)
theorem aw_l2i (C : OK X cc own nL ret rm A) {x : Int64} (d : decode cc pc = .ok (.l2i, 1)) (q : AW X nL Z yd A k n Qf (pc + 1) lv (.int x.toInt32 :: st) h o) : AW X nL Z yd A k n Qf pc lv (.long x :: st) h o := fun r h' e ls H locs hl hw => lv_l2i C.1 C.2.1 d rfl (q r h' e ls H locs hl hw)
theorem aw_idiv (C : OK X cc own nL ret rm A) {x y : Int32} (d : decode cc pc = .ok (.idiv, 1)) (q : AW X nL Z yd A k n Qf (pc + 1) lv (.int (x / y) :: st) h o) : AW X nL Z yd A k n Qf pc lv (.int y :: .int x :: st) h (if y = 0 then none else o) := aw_if (fun _ => aw_none) (fun hy => fun r h' e ls H locs hl hw => lv_idiv C.1 C.2.1 d hy (q r h' e ls H locs hl hw))
theorem aw_idivK (C : OK X cc own nL ret rm A) {x y : Int32} (d : decode cc pc = .ok (.idiv, 1)) (hy : ¬ y = 0) (q : AW X nL Z yd A k n Qf (pc + 1) lv (.int (x / y) :: st) h o) : AW X nL Z yd A k n Qf pc lv (.int y :: .int x :: st) h o := fun r h' e ls H locs hl hw => lv_idiv C.1 C.2.1 d hy (q r h' e ls H locs hl hw)
theorem aw_irem (C : OK X cc own nL ret rm A) {x y : Int32} (d : decode cc pc = .ok (.irem, 1)) (q : AW X nL Z yd A k n Qf (pc + 1) lv (.int (rm32 x y) :: st) h o) : AW X nL Z yd A k n Qf pc lv (.int y :: .int x :: st) h (if y = 0 then none else o) := aw_if (fun _ => aw_none) (fun hy => fun r h' e ls H locs hl hw => lv_irem C.1 C.2.1 d hy (q r h' e ls H locs hl hw))
theorem aw_iremK (C : OK X cc own nL ret rm A) {x y : Int32} (d : decode cc pc = .ok (.irem, 1)) (hy : ¬ y = 0) (q : AW X nL Z yd A k n Qf (pc + 1) lv (.int (rm32 x y) :: st) h o) : AW X nL Z yd A k n Qf pc lv (.int y :: .int x :: st) h o := fun r h' e ls H locs hl hw => lv_irem C.1 C.2.1 d hy (q r h' e ls H locs hl hw)
theorem aw_ldiv (C : OK X cc own nL ret rm A) {x y : Int64} (d : decode cc pc = .ok (.ldiv, 1)) (q : AW X nL Z yd A k n Qf (pc + 1) lv (.long (x / y) :: st) h o) : AW X nL Z yd A k n Qf pc lv (.long y :: .long x :: st) h (if y = 0 then none else o) := aw_if (fun _ => aw_none) (fun hy => fun r h' e ls H locs hl hw => lv_ldiv C.1 C.2.1 d hy (q r h' e ls H locs hl hw))
theorem aw_ldivK (C : OK X cc own nL ret rm A) {x y : Int64} (d : decode cc pc = .ok (.ldiv, 1)) (hy : ¬ y = 0) (q : AW X nL Z yd A k n Qf (pc + 1) lv (.long (x / y) :: st) h o) : AW X nL Z yd A k n Qf pc lv (.long y :: .long x :: st) h o := fun r h' e ls H locs hl hw => lv_ldiv C.1 C.2.1 d hy (q r h' e ls H locs hl hw)
theorem aw_lrem (C : OK X cc own nL ret rm A) {x y : Int64} (d : decode cc pc = .ok (.lrem, 1)) (q : AW X nL Z yd A k n Qf (pc + 1) lv (.long (rm64 x y) :: st) h o) : AW X nL Z yd A k n Qf pc lv (.long y :: .long x :: st) h (if y = 0 then none else o) := aw_if (fun _ => aw_none) (fun hy => fun r h' e ls H locs hl hw => lv_lrem C.1 C.2.1 d hy (q r h' e ls H locs hl hw))
theorem aw_lremK (C : OK X cc own nL ret rm A) {x y : Int64} (d : decode cc pc = .ok (.lrem, 1)) (hy : ¬ y = 0) (q : AW X nL Z yd A k n Qf (pc + 1) lv (.long (rm64 x y) :: st) h o) : AW X nL Z yd A k n Qf pc lv (.long y :: .long x :: st) h o := fun r h' e ls H locs hl hw => lv_lrem C.1 C.2.1 d hy (q r h' e ls H locs hl hw)
def lcmpV (x y : Int64) : Int32 := if y < x then 1 else if x = y then 0 else -1
theorem aw_dup (C : OK X cc own nL ret rm A) {v : Value} (d : decode cc pc = .ok (.dup, 1)) (hv : v.category = 1) (q : AW X nL Z yd A k n Qf (pc + 1) lv (v :: v :: st) h o) : AW X nL Z yd A k n Qf pc lv (v :: st) h o := fun r h' e ls H locs hl hw => lv_dup C.1 C.2.1 d (by rw [cv_cat]; exact hv) (q r h' e ls H locs hl hw)
theorem aw_pop (C : OK X cc own nL ret rm A) {v : Value} (d : decode cc pc = .ok (.pop, 1)) (hv : v.category = 1) (q : AW X nL Z yd A k n Qf (pc + 1) lv st h o) : AW X nL Z yd A k n Qf pc lv (v :: st) h o := fun r h' e ls H locs hl hw => lv_pop C.1 C.2.1 d (by rw [cv_cat]; exact hv) (q r h' e ls H locs hl hw)
theorem aw_dup2 (C : OK X cc own nL ret rm A) {v u : Value} (d : decode cc pc = .ok (.dup2, 1)) (hv : v.category = 1) (hu : u.category = 1) (q : AW X nL Z yd A k n Qf (pc + 1) lv (v :: u :: v :: u :: st) h o) : AW X nL Z yd A k n Qf pc lv (v :: u :: st) h o := fun r h' e ls H locs hl hw => lv_dup2_11 C.1 C.2.1 d (by rw [cv_cat]; exact hv) (by rw [cv_cat]; exact hu) (q r h' e ls H locs hl hw)
theorem aw_dup2L (C : OK X cc own nL ret rm A) {v : Value} (d : decode cc pc = .ok (.dup2, 1)) (hv : v.category = 2) (q : AW X nL Z yd A k n Qf (pc + 1) lv (v :: v :: st) h o) : AW X nL Z yd A k n Qf pc lv (v :: st) h o := fun r h' e ls H locs hl hw => lv_dup2_2 C.1 C.2.1 d (by rw [cv_cat]; exact hv) (q r h' e ls H locs hl hw)
theorem aw_goto (C : OK X cc own nL ret rm A) {off : Int} {tgt : Nat} (d : decode cc pc = .ok (.goto off, 3)) (ht : (pc : Int) + off = (tgt : Int)) (q : AW X nL Z yd A k n Qf tgt lv st h o) : AW X nL Z yd A k n Qf pc lv st h o := fun r h' e ls H locs hl hw => lv_goto C.1 C.2.1 d ht (q r h' e ls H locs hl hw)
theorem aw_icmp_eq (C : OK X cc own nL ret rm A) {x y : Int32} {off : Int} {tgt : Nat} (d : decode cc pc = .ok (.if_icmp .eq off, 3)) (ht : (pc : Int) + off = (tgt : Int)) (q1 : x = y → AW X nL Z yd A k n Qf tgt lv st h o1) (q2 : ¬ x = y → AW X nL Z yd A k n Qf (pc + 3) lv st h o2) : AW X nL Z yd A k n Qf pc lv (.int y :: .int x :: st) h (if x = y then o1 else o2) := fun r h' e ls H locs hl hw => lv_icmp_eq C.1 C.2.1 d ht (fun c => q1 c r h' (by rw [if_pos c] at e; exact e) ls H locs hl hw) (fun c => q2 c r h' (by rw [if_neg c] at e; exact e) ls H locs hl hw)
theorem aw_if_eq (C : OK X cc own nL ret rm A) {x : Int32} {off : Int} {tgt : Nat} (d : decode cc pc = .ok (.ifCond .eq off, 3)) (ht : (pc : Int) + off = (tgt : Int)) (q1 : x = 0 → AW X nL Z yd A k n Qf tgt lv st h o1) (q2 : ¬ x = 0 → AW X nL Z yd A k n Qf (pc + 3) lv st h o2) : AW X nL Z yd A k n Qf pc lv (.int x :: st) h (if x = 0 then o1 else o2) := fun r h' e ls H locs hl hw => lv_if_eq C.1 C.2.1 d ht (fun c => q1 c r h' (by rw [if_pos c] at e; exact e) ls H locs hl hw) (fun c => q2 c r h' (by rw [if_neg c] at e; exact e) ls H locs hl hw)
theorem aw_icmp_ne (C : OK X cc own nL ret rm A) {x y : Int32} {off : Int} {tgt : Nat} (d : decode cc pc = .ok (.if_icmp .ne off, 3)) (ht : (pc : Int) + off = (tgt : Int)) (q1 : x = y → AW X nL Z yd A k n Qf (pc + 3) lv st h o1) (q2 : ¬ x = y → AW X nL Z yd A k n Qf tgt lv st h o2) : AW X nL Z yd A k n Qf pc lv (.int y :: .int x :: st) h (if x = y then o1 else o2) := fun r h' e ls H locs hl hw => lv_icmp_ne C.1 C.2.1 d ht (fun c => q2 c r h' (by rw [if_neg c] at e; exact e) ls H locs hl hw) (fun c => q1 c r h' (by rw [if_pos c] at e; exact e) ls H locs hl hw)
theorem aw_if_ne (C : OK X cc own nL ret rm A) {x : Int32} {off : Int} {tgt : Nat} (d : decode cc pc = .ok (.ifCond .ne off, 3)) (ht : (pc : Int) + off = (tgt : Int)) (q1 : x = 0 → AW X nL Z yd A k n Qf (pc + 3) lv st h o1) (q2 : ¬ x = 0 → AW X nL Z yd A k n Qf tgt lv st h o2) : AW X nL Z yd A k n Qf pc lv (.int x :: st) h (if x = 0 then o1 else o2) := fun r h' e ls H locs hl hw => lv_if_ne C.1 C.2.1 d ht (fun c => q2 c r h' (by rw [if_neg c] at e; exact e) ls H locs hl hw) (fun c => q1 c r h' (by rw [if_pos c] at e; exact e) ls H locs hl hw)
theorem aw_icmp_lt (C : OK X cc own nL ret rm A) {x y : Int32} {off : Int} {tgt : Nat} (d : decode cc pc = .ok (.if_icmp .lt off, 3)) (ht : (pc : Int) + off = (tgt : Int)) (q1 : x < y → AW X nL Z yd A k n Qf tgt lv st h o1) (q2 : ¬ x < y → AW X nL Z yd A k n Qf (pc + 3) lv st h o2) : AW X nL Z yd A k n Qf pc lv (.int y :: .int x :: st) h (if x < y then o1 else o2) := fun r h' e ls H locs hl hw => lv_icmp_lt C.1 C.2.1 d ht (fun c => q1 c r h' (by rw [if_pos c] at e; exact e) ls H locs hl hw) (fun c => q2 c r h' (by rw [if_neg c] at e; exact e) ls H locs hl hw)
theorem aw_if_lt (C : OK X cc own nL ret rm A) {x : Int32} {off : Int} {tgt : Nat} (d : decode cc pc = .ok (.ifCond .lt off, 3)) (ht : (pc : Int) + off = (tgt : Int)) (q1 : x < 0 → AW X nL Z yd A k n Qf tgt lv st h o1) (q2 : ¬ x < 0 → AW X nL Z yd A k n Qf (pc + 3) lv st h o2) : AW X nL Z yd A k n Qf pc lv (.int x :: st) h (if x < 0 then o1 else o2) := fun r h' e ls H locs hl hw => lv_if_lt C.1 C.2.1 d ht (fun c => q1 c r h' (by rw [if_pos c] at e; exact e) ls H locs hl hw) (fun c => q2 c r h' (by rw [if_neg c] at e; exact e) ls H locs hl hw)
theorem aw_icmp_ge (C : OK X cc own nL ret rm A) {x y : Int32} {off : Int} {tgt : Nat} (d : decode cc pc = .ok (.if_icmp .ge off, 3)) (ht : (pc : Int) + off = (tgt : Int)) (q1 : y ≤ x → AW X nL Z yd A k n Qf tgt lv st h o1) (q2 : ¬ y ≤ x → AW X nL Z yd A k n Qf (pc + 3) lv st h o2) : AW X nL Z yd A k n Qf pc lv (.int y :: .int x :: st) h (if y ≤ x then o1 else o2) := fun r h' e ls H locs hl hw => lv_icmp_ge C.1 C.2.1 d ht (fun c => q1 c r h' (by rw [if_pos c] at e; exact e) ls H locs hl hw) (fun c => q2 c r h' (by rw [if_neg c] at e; exact e) ls H locs hl hw)
theorem aw_if_ge (C : OK X cc own nL ret rm A) {x : Int32} {off : Int} {tgt : Nat} (d : decode cc pc = .ok (.ifCond .ge off, 3)) (ht : (pc : Int) + off = (tgt : Int)) (q1 : 0 ≤ x → AW X nL Z yd A k n Qf tgt lv st h o1) (q2 : ¬ 0 ≤ x → AW X nL Z yd A k n Qf (pc + 3) lv st h o2) : AW X nL Z yd A k n Qf pc lv (.int x :: st) h (if 0 ≤ x then o1 else o2) := fun r h' e ls H locs hl hw => lv_if_ge C.1 C.2.1 d ht (fun c => q1 c r h' (by rw [if_pos c] at e; exact e) ls H locs hl hw) (fun c => q2 c r h' (by rw [if_neg c] at e; exact e) ls H locs hl hw)
theorem aw_icmp_gt (C : OK X cc own nL ret rm A) {x y : Int32} {off : Int} {tgt : Nat} (d : decode cc pc = .ok (.if_icmp .gt off, 3)) (ht : (pc : Int) + off = (tgt : Int)) (q1 : y < x → AW X nL Z yd A k n Qf tgt lv st h o1) (q2 : ¬ y < x → AW X nL Z yd A k n Qf (pc + 3) lv st h o2) : AW X nL Z yd A k n Qf pc lv (.int y :: .int x :: st) h (if y < x then o1 else o2) := fun r h' e ls H locs hl hw => lv_icmp_gt C.1 C.2.1 d ht (fun c => q1 c r h' (by rw [if_pos c] at e; exact e) ls H locs hl hw) (fun c => q2 c r h' (by rw [if_neg c] at e; exact e) ls H locs hl hw)
theorem aw_if_gt (C : OK X cc own nL ret rm A) {x : Int32} {off : Int} {tgt : Nat} (d : decode cc pc = .ok (.ifCond .gt off, 3)) (ht : (pc : Int) + off = (tgt : Int)) (q1 : 0 < x → AW X nL Z yd A k n Qf tgt lv st h o1) (q2 : ¬ 0 < x → AW X nL Z yd A k n Qf (pc + 3) lv st h o2) : AW X nL Z yd A k n Qf pc lv (.int x :: st) h (if 0 < x then o1 else o2) := fun r h' e ls H locs hl hw => lv_if_gt C.1 C.2.1 d ht (fun c => q1 c r h' (by rw [if_pos c] at e; exact e) ls H locs hl hw) (fun c => q2 c r h' (by rw [if_neg c] at e; exact e) ls H locs hl hw)
theorem aw_icmp_le (C : OK X cc own nL ret rm A) {x y : Int32} {off : Int} {tgt : Nat} (d : decode cc pc = .ok (.if_icmp .le off, 3)) (ht : (pc : Int) + off = (tgt : Int)) (q1 : x ≤ y → AW X nL Z yd A k n Qf tgt lv st h o1) (q2 : ¬ x ≤ y → AW X nL Z yd A k n Qf (pc + 3) lv st h o2) : AW X nL Z yd A k n Qf pc lv (.int y :: .int x :: st) h (if x ≤ y then o1 else o2) := fun r h' e ls H locs hl hw => lv_icmp_le C.1 C.2.1 d ht (fun c => q1 c r h' (by rw [if_pos c] at e; exact e) ls H locs hl hw) (fun c => q2 c r h' (by rw [if_neg c] at e; exact e) ls H locs hl hw)
theorem aw_if_le (C : OK X cc own nL ret rm A) {x : Int32} {off : Int} {tgt : Nat} (d : decode cc pc = .ok (.ifCond .le off, 3)) (ht : (pc : Int) + off = (tgt : Int)) (q1 : x ≤ 0 → AW X nL Z yd A k n Qf tgt lv st h o1) (q2 : ¬ x ≤ 0 → AW X nL Z yd A k n Qf (pc + 3) lv st h o2) : AW X nL Z yd A k n Qf pc lv (.int x :: st) h (if x ≤ 0 then o1 else o2) := fun r h' e ls H locs hl hw => lv_if_le C.1 C.2.1 d ht (fun c => q1 c r h' (by rw [if_pos c] at e; exact e) ls H locs hl hw) (fun c => q2 c r h' (by rw [if_neg c] at e; exact e) ls H locs hl hw)
theorem aw_tswA (C : OK X cc own nL ret rm A) {dflt lo hi : Int} {offs : Array Int} {len : Nat} {x : Int32} {off : Int} {tg : Nat} (v : Int) (d : decode cc pc = .ok (.tableswitch dflt lo hi offs, len)) (hx : x.toInt = v) (h1 : ¬ v < lo) (h2 : ¬ hi < v) (ho : offs[(v - lo).toNat]? = some off) (ht : (pc : Int) + off = (tg : Int)) (q : AW X nL Z yd A k n Qf tg lv st h o) : AW X nL Z yd A k n Qf pc lv (.int x :: st) h o := fun r h' e ls H locs hl hw => lv_tableIn C.1 C.2.1 d (by rw [hx]; exact h1) (by rw [hx]; exact h2) (by rw [hx]; exact ho) ht (q r h' e ls H locs hl hw)
theorem aw_tswD (C : OK X cc own nL ret rm A) {dflt lo hi : Int} {offs : Array Int} {len N : Nat} {x : Int32} {td : Nat} (vs : List Int) (d : decode cc pc = .ok (.tableswitch dflt lo hi offs, len)) (hvs : ∀ v ∈ vs, x.toInt ≠ v) (hN : hi - lo + 1 = (N : Int)) (hck : (List.range N).all (fun j => offs[j]? == some dflt || vs.contains (lo + j)) = true) (ht : (pc : Int) + dflt = (td : Int)) (q : AW X nL Z yd A k n Qf td lv st h o) : AW X nL Z yd A k n Qf pc lv (.int x :: st) h o := fun r h' e ls H locs hl hw => by
  by_cases c : x.toInt < lo ∨ hi < x.toInt
  · exact lv_tableOut C.1 C.2.1 d c ht (q r h' e ls H locs hl hw)
  · have c1 : ¬ x.toInt < lo := fun z => c (Or.inl z)
    have c2 : ¬ hi < x.toInt := fun z => c (Or.inr z)
    have hj : (x.toInt - lo).toNat < N := by omega
    have hk := List.all_eq_true.mp hck _ (List.mem_range.mpr hj)
    rcases Bool.or_eq_true_iff.mp hk with z | z
    · exact lv_tableIn C.1 C.2.1 d c1 c2 (by simpa using z) ht (q r h' e ls H locs hl hw)
    · have h3 : x.toInt ∈ vs := by
        have h4 : lo + ((x.toInt - lo).toNat : Int) = x.toInt := by omega
        rw [h4] at z
        simpa using z
      exact absurd rfl (hvs _ h3)
theorem aw_lsw (C : OK X cc own nL ret rm A) {dflt : Int} {ps : Array (Int × Int)} {len : Nat} {x : Int32} {tg : Nat} (d : decode cc pc = .ok (.lookupswitch dflt ps, len)) (hp : (ps.toList.zip (ps.toList.drop 1)).all (fun (a, next) => a.1 < next.1) = true) {off : Int} (ho : Op.lookupswitch.offset ps.toList dflt x.toInt = off) (ht : (pc : Int) + off = (tg : Int)) (q : AW X nL Z yd A k n Qf tg lv st h o) : AW X nL Z yd A k n Qf pc lv (.int x :: st) h o := fun r h' e ls H locs hl hw => lv_lookup C.1 C.2.1 d hp ho ht (q r h' e ls H locs hl hw)
theorem ti_ne {x v : Int32} {a : Int} (h : ¬ x = v) (hk : v.toInt = a) : x.toInt ≠ a := fun q => h (Int32.toInt_inj.mp (by rw [hk]; exact q))
theorem aw_ldc (C : OK X cc own nL ret rm A) {ix : Nat} {v : Int32} (d : decode cc pc = .ok (.ldc ix, 2)) (hc : Cond.constant own ix v ∈ TB) (q : AW X nL Z yd A k n Qf (pc + 2) lv (.int v :: st) h o) : AW X nL Z yd A k n Qf pc lv st h o := fun r h' e ls H locs hl hw => lv_ldc C.1 C.2.1 C.2.2.2.1 (C.2.2.2.2.1 _ hc) d (q r h' e ls H locs hl hw)
theorem aw_ldc_w (C : OK X cc own nL ret rm A) {ix : Nat} {v : Int32} (d : decode cc pc = .ok (.ldc_w ix, 3)) (hc : Cond.constant own ix v ∈ TB) (q : AW X nL Z yd A k n Qf (pc + 3) lv (.int v :: st) h o) : AW X nL Z yd A k n Qf pc lv st h o := fun r h' e ls H locs hl hw => lv_ldcw C.1 C.2.1 C.2.2.2.1 (C.2.2.2.2.1 _ hc) d (q r h' e ls H locs hl hw)
theorem aw_ldc2_w (C : OK X cc own nL ret rm A) {ix : Nat} {v : Int64} (d : decode cc pc = .ok (.ldc2_w ix, 3)) (hc : Cond.constantLong own ix v ∈ TB) (q : AW X nL Z yd A k n Qf (pc + 3) lv (.long v :: st) h o) : AW X nL Z yd A k n Qf pc lv st h o := fun r h' e ls H locs hl hw => lv_ldc2 C.1 C.2.1 C.2.2.2.1 (C.2.2.2.2.1 _ hc) d (q r h' e ls H locs hl hw)
theorem aw_lcmp (C : OK X cc own nL ret rm A) {x y : Int64} (d : decode cc pc = .ok (.lcmp, 1)) (q : AW X nL Z yd A k n Qf (pc + 1) lv (.int (lcmpV x y) :: st) h o) : AW X nL Z yd A k n Qf pc lv (.long y :: .long x :: st) h o := fun r h' e ls H locs hl hw => W.lcmp C.1 C.2.1 d (q r h' e ls H locs hl hw)
end AWS
end
section
/-! fields, arrays, calls, ends of the walk -/
theorem tyAt {yd : Dyn} {tl : List FieldType} {t : Nat} {ty : FieldType} (h : yd.2.2.map (·.2) = tl) (e : tl[t]? = some ty) : yd.2.2[t]? = some (tcl yd t, ty) := by
  rw [← h, List.getElem?_map] at e
  unfold tcl
  cases hq : yd.2.2[t]? with
  | none => rw [hq] at e; cases e
  | some q => rw [hq] at e; cases e; rfl
section AWH
variable {X : MCx} {cc : ByteArray} {own : String} {nL : Nat} {ret : Option FieldType} {rm : Room} {Z : Stc} {yd : Dyn} {A : Nat → Prop} {k n : Nat} {α : Type} {Qf : α → AH → State → Prop} {pc : Nat} {lv : List (Nat × Value)} {st : List Value} {h : AH} {o o1 o2 : Option (α × AH)} {a ix ci j t N : Nat}
theorem aw_getV (C : OK X cc own nL ret rm A) {v w : Value} {c : Nat} (d : decode cc pc = .ok (.getfield ix, 3)) (hf : FL own ix ci j) (hs : Z.1[a]? = some (.inr ci)) (hk : (fty ci)[j]? = some c) (hv : eF Z yd.1 h a j c = cv yd.1 v) (q : AW X nL Z yd A k n Qf (pc + 3) lv (v :: st) h o) : AW X nL Z yd A k n Qf pc lv (.ref a :: st) h o := fun r h' e ls H locs hl hw => by
  obtain ⟨D, T, N, e1, e2, e3, e4⟩ := hf
  have he := wld_at (yd := yd) (h := h) hs
  refine va_get (v := cv yd.1 v) C.1 C.2.1 C.2.2.2.2.1 e3 C.2.2.2.1 hw.2.2.2.1 hw.1 a he e1 j e2 (C.2.2.2.2.1 _ e4) (fun _ h9 => h9) ?_ d (q r h' e ls H locs hl hw)
  rw [eFs_get, hk, Nat.zero_add]
  simp [hv]
theorem aw_getI (C : OK X cc own nL ret rm A) (d : decode cc pc = .ok (.getfield ix, 3)) (hf : FL own ix ci j) (hs : Z.1[a]? = some (.inr ci)) (hk : (fty ci)[j]? = some 0) (q : AW X nL Z yd A k n Qf (pc + 3) lv (.int (h.1 a j) :: st) h o) : AW X nL Z yd A k n Qf pc lv (.ref a :: st) h o := aw_getV (w := .null) C d hf hs hk rfl q
theorem aw_getL (C : OK X cc own nL ret rm A) (d : decode cc pc = .ok (.getfield ix, 3)) (hf : FL own ix ci j) (hs : Z.1[a]? = some (.inr ci)) (hk : (fty ci)[j]? = some 1) (q : AW X nL Z yd A k n Qf (pc + 3) lv (.long (h.2.1 a j) :: st) h o) : AW X nL Z yd A k n Qf pc lv (.ref a :: st) h o := aw_getV (w := .null) C d hf hs hk rfl q
theorem aw_getR (C : OK X cc own nL ret rm A) {b : Nat} (d : decode cc pc = .ok (.getfield ix, 3)) (hf : FL own ix ci j) (hs : Z.1[a]? = some (.inr ci)) (hk : (fty ci)[j]? = some 2) (hr : Z.2.1 a j = some b) (q : AW X nL Z yd A k n Qf (pc + 3) lv (.ref b :: st) h o) : AW X nL Z yd A k n Qf pc lv (.ref a :: st) h o := aw_getV (w := .null) (v := .ref b) C d hf hs hk (by show va_rf ((Z.2.1 a j).map yd.1) = _; rw [hr]; rfl) q
theorem aw_getW (C : OK X cc own nL ret rm A) {b : Nat} (d : decode cc pc = .ok (.getfield ix, 3)) (hf : FL own ix ci j) (hs : Z.1[a]? = some (.inr ci)) (hk : (fty ci)[j]? = some 3) (hr : Z.2.2.1 + h.2.2 a % 6 = b) (q : AW X nL Z yd A k n Qf (pc + 3) lv (.ref b :: st) h o) : AW X nL Z yd A k n Qf pc lv (.ref a :: st) h o := aw_getV (w := .null) (v := .ref b) C d hf hs hk (by rw [← hr]; rfl) q
theorem aw_putI (C : OK X cc own nL ret rm A) {x : Int32} {f : AH → Option (α × AH)} (d : decode cc pc = .ok (.putfield ix, 3)) (hf : FP own ix ci j .int) (hs : Z.1[a]? = some (.inr ci)) (hk : (fty ci)[j]? = some 0) (q : ∀ h1, AW X nL Z yd A k n Qf (pc + 3) lv st h1 (f h1)) : AW X nL Z yd A k n Qf pc lv (.int x :: .ref a :: st) h (vl (sI h a j x) f) := fun r h' e ls H locs hl hw => by
  obtain ⟨D, T, N, ty0, e1, e2, e3, e4, e5, e6, e7, e8⟩ := hf
  have he := wld_at (yd := yd) (h := h) hs
  refine va_put (v := .int x) (ty := .int) C.1 C.2.1 C.2.2.2.2.1 e3 ty0 e5 e6 C.2.2.2.1 hw.2.2.2.1 hw.1 hw.2.1 hw.2.2.1 a he e1 j e2 (C.2.2.2.2.1 _ e4) (fun _ h9 => h9) e7 e8 rfl rfl (by rw [eFs_len]; exact (List.getElem?_eq_some_iff.mp hk).1) d (fun H1 locs1 p1 p2 p3 => ?_)
  rw [wld_putI x hs hk] at p1 p2
  exact q _ r h' e ls H1 locs1 hl ⟨p1, p2, p3, hw.2.2.2⟩
theorem aw_putZ (C : OK X cc own nL ret rm A) {x : Int32} {f : AH → Option (α × AH)} (d : decode cc pc = .ok (.putfield ix, 3)) (hf : FP own ix ci j .boolean) (hs : Z.1[a]? = some (.inr ci)) (hk : (fty ci)[j]? = some 0) (q : ∀ h1, AW X nL Z yd A k n Qf (pc + 3) lv st h1 (f h1)) : AW X nL Z yd A k n Qf pc lv (.int x :: .ref a :: st) h (cz x (vl (sI h a j x) f)) := aw_if (fun c r h' e ls H locs hl hw => by
  obtain ⟨D, T, N, ty0, e1, e2, e3, e4, e5, e6, e7, e8⟩ := hf
  have he := wld_at (yd := yd) (h := h) hs
  refine va_put (v := .int x) (ty := .boolean) C.1 C.2.1 C.2.2.2.2.1 e3 ty0 e5 e6 C.2.2.2.1 hw.2.2.2.1 hw.1 hw.2.1 hw.2.2.1 a he e1 j e2 (C.2.2.2.2.1 _ e4) (fun _ h9 => h9) e7 e8 (by rcases c with c | c <;> subst c <;> rfl) (by rcases c with c | c <;> subst c <;> rfl) (by rw [eFs_len]; exact (List.getElem?_eq_some_iff.mp hk).1) d (fun H1 locs1 p1 p2 p3 => ?_)
  rw [wld_putI x hs hk] at p1 p2
  exact q _ r h' e ls H1 locs1 hl ⟨p1, p2, p3, hw.2.2.2⟩) (fun _ => aw_none)
theorem aw_putL (C : OK X cc own nL ret rm A) {x : Int64} {f : AH → Option (α × AH)} (d : decode cc pc = .ok (.putfield ix, 3)) (hf : FP own ix ci j .long) (hs : Z.1[a]? = some (.inr ci)) (hk : (fty ci)[j]? = some 1) (q : ∀ h1, AW X nL Z yd A k n Qf (pc + 3) lv st h1 (f h1)) : AW X nL Z yd A k n Qf pc lv (.long x :: .ref a :: st) h (vl (sL h a j x) f) := fun r h' e ls H locs hl hw => by
  obtain ⟨D, T, N, ty0, e1, e2, e3, e4, e5, e6, e7, e8⟩ := hf
  have he := wld_at (yd := yd) (h := h) hs
  refine va_put (v := .long x) (ty := .long) C.1 C.2.1 C.2.2.2.2.1 e3 ty0 e5 e6 C.2.2.2.1 hw.2.2.2.1 hw.1 hw.2.1 hw.2.2.1 a he e1 j e2 (C.2.2.2.2.1 _ e4) (fun _ h9 => h9) e7 e8 rfl rfl (by rw [eFs_len]; exact (List.getElem?_eq_some_iff.mp hk).1) d (fun H1 locs1 p1 p2 p3 => ?_)
  rw [wld_putL x hs hk] at p1 p2
  exact q _ r h' e ls H1 locs1 hl ⟨p1, p2, p3, hw.2.2.2⟩
theorem aw_putW (C : OK X cc own nL ret rm A) {b v : Nat} {D0 : String} {f : AH → Option (α × AH)} (d : decode cc pc = .ok (.putfield ix, 3)) (hf : FP own ix ci 0 (.object D0)) (hs : Z.1[a]? = some (.inr ci)) (hk : (fty ci)[0]? = some 3) (h3 : ∀ k, k ≠ 0 → (fty ci)[k]? ≠ some 3) (hm : ∀ (k t : Nat), (fty ci)[k]? = some t → t ≤ 3) (hb : Z.2.2.1 + v % 6 = b) (q : ∀ h1, AW X nL Z yd A k n Qf (pc + 3) lv st h1 (f h1)) : AW X nL Z yd A k n Qf pc lv (.ref b :: .ref a :: st) h (vl (sK h a v) f) := fun r h' e ls H locs hl hw => by
  obtain ⟨D, T, N, ty0, e1, e2, e3, e4, e5, e6, e7, e8⟩ := hf
  have he := wld_at (yd := yd) (h := h) hs
  subst hb
  refine va_put (v := .ref (yd.1 (Z.2.2.1 + v % 6))) (ty := .object D0) C.1 C.2.1 C.2.2.2.2.1 e3 ty0 e5 e6 C.2.2.2.1 hw.2.2.2.1 hw.1 hw.2.1 hw.2.2.1 a he e1 0 e2 (C.2.2.2.2.1 _ e4) (fun _ h9 => h9) e7 e8 rfl rfl (by rw [eFs_len]; exact (List.getElem?_eq_some_iff.mp hk).1) d (fun H1 locs1 p1 p2 p3 => ?_)
  rw [wld_putK v hs hk h3 hm] at p1 p2
  exact q _ r h' e ls H1 locs1 hl ⟨p1, p2, p3, hw.2.2.2⟩
theorem aw_iald (C : OK X cc own nL ret rm A) {i : Int32} (d : decode cc pc = .ok (.iaload, 1)) (hs : Z.1[a]? = some (.inl (t, 0, N))) (ht : Z.2.2.2[t]? = some .int) (q : AW X nL Z yd A k n Qf (pc + 1) lv (.int (h.1 a i.toNatClampNeg) :: st) h o) : AW X nL Z yd A k n Qf pc lv (.int i :: .ref a :: st) h (ck i N o) := aw_if (fun _ => aw_none) (fun hi r h' e ls H locs hl hw => va_iald C.1 C.2.1 hw.2.2.2.1 hw.1 a t (wld_at hs) (tyAt hw.2.2.2.2 ht) hi d (q r h' e ls H locs hl hw))
theorem aw_lald (C : OK X cc own nL ret rm A) {i : Int32} (d : decode cc pc = .ok (.laload, 1)) (hs : Z.1[a]? = some (.inl (t, 1, N))) (ht : Z.2.2.2[t]? = some .long) (q : AW X nL Z yd A k n Qf (pc + 1) lv (.long (h.2.1 a i.toNatClampNeg) :: st) h o) : AW X nL Z yd A k n Qf pc lv (.int i :: .ref a :: st) h (ck i N o) := aw_if (fun _ => aw_none) (fun hi r h' e ls H locs hl hw => va_lald C.1 C.2.1 hw.2.2.2.1 hw.1 a t (wld_at hs) (tyAt hw.2.2.2.2 ht) hi d (q r h' e ls H locs hl hw))
theorem aw_aald (C : OK X cc own nL ret rm A) {i : Int32} {b : Nat} {ty : FieldType} (d : decode cc pc = .ok (.aaload, 1)) (hs : Z.1[a]? = some (.inl (t, 2, N))) (ht : Z.2.2.2[t]? = some ty) (hty : ty.isReference = true) (hr : Z.2.1 a i.toNatClampNeg = some b) (q : AW X nL Z yd A k n Qf (pc + 1) lv (.ref b :: st) h o) : AW X nL Z yd A k n Qf pc lv (.int i :: .ref a :: st) h (ck i N o) := aw_if (fun _ => aw_none) (fun hin r h' e ls H locs hl hw => by
  have hlt : i.toNatClampNeg < N := Nat.not_le.mp fun q => hin (Or.inr q)
  have hP : H[yd.1 a]? = some (arrV (tcl yd t) N (fun j => va_rf ((Z.2.1 a j).map yd.1))) := hw.1 a _ (wld_at hs)
  exact W.aald (v := va_rf ((Z.2.1 a i.toNatClampNeg).map yd.1)) (ty := ty) C.1 C.2.1 hP ((hw.2.2.2.1.2 t _ (tyAt hw.2.2.2.2 ht)).1 N (fun j => va_rf ((Z.2.1 a j).map yd.1))) hty (fun q => by cases q) (by rw [arrV_size]; exact hin) (by rw [arrV_read _ _ hlt]) rfl rfl d (by rw [hr]; exact q r h' e ls H locs hl hw))
theorem aw_iast (C : OK X cc own nL ret rm A) {i x : Int32} {f : AH → Option (α × AH)} (d : decode cc pc = .ok (.iastore, 1)) (hs : Z.1[a]? = some (.inl (t, 0, N))) (ht : Z.2.2.2[t]? = some .int) (q : ∀ h1, AW X nL Z yd A k n Qf (pc + 1) lv st h1 (f h1)) : AW X nL Z yd A k n Qf pc lv (.int x :: .int i :: .ref a :: st) h (ck i N (vl (sI h a i.toNatClampNeg x) f)) := aw_if (fun _ => aw_none) (fun hi r h' e ls H locs hl hw => by
  refine va_iast C.1 C.2.1 hw.2.2.2.1 hw.1 hw.2.1 hw.2.2.1 a t (wld_at hs) (tyAt hw.2.2.2.2 ht) hi d (fun H1 locs1 p1 p2 p3 => ?_)
  rw [wld_astI x hs] at p1 p2
  exact q _ r h' e ls H1 locs1 hl ⟨p1, p2, p3, hw.2.2.2⟩)
theorem aw_last (C : OK X cc own nL ret rm A) {i : Int32} {x : Int64} {f : AH → Option (α × AH)} (d : decode cc pc = .ok (.lastore, 1)) (hs : Z.1[a]? = some (.inl (t, 1, N))) (ht : Z.2.2.2[t]? = some .long) (q : ∀ h1, AW X nL Z yd A k n Qf (pc + 1) lv st h1 (f h1)) : AW X nL Z yd A k n Qf pc lv (.long x :: .int i :: .ref a :: st) h (ck i N (vl (sL h a i.toNatClampNeg x) f)) := aw_if (fun _ => aw_none) (fun hi r h' e ls H locs hl hw => by
  refine va_last C.1 C.2.1 hw.2.2.2.1 hw.1 hw.2.1 hw.2.2.1 a t (wld_at hs) (tyAt hw.2.2.2.2 ht) hi d (fun H1 locs1 p1 p2 p3 => ?_)
  rw [wld_astL x hs] at p1 p2
  exact q _ r h' e ls H1 locs1 hl ⟨p1, p2, p3, hw.2.2.2⟩)
theorem aw_alenI (C : OK X cc own nL ret rm A) {v : Int32} {ty : FieldType} {kd : Nat} (h9 : kd ≠ 9) (d : decode cc pc = .ok (.arraylength, 1)) (hs : Z.1[a]? = some (.inl (t, kd, N))) (ht : Z.2.2.2[t]? = some ty) (hv : Int32.ofNat N = v) (q : AW X nL Z yd A k n Qf (pc + 1) lv (.int v :: st) h o) : AW X nL Z yd A k n Qf pc lv (.ref a :: st) h o := fun r h' e ls H locs hl hw => by
  have hx : (eA Z yd.1 h a kd N).1 = N := by unfold eA; split <;> rfl
  have he : ent Z yd h a (.inl (t, kd, N)) = .inl (tcl yd t, eA Z yd.1 h a kd N) := by
    unfold ent
    simp only
  have hat := wld_at (yd := yd) (h := h) hs
  rw [he] at hat
  exact va_alen C.1 C.2.1 hw.2.2.2.1 hw.1 a t hat (tyAt hw.2.2.2.2 ht) (by rw [hx]; exact hv) d (q r h' e ls H locs hl hw)
end AWH
/-! contracts: any caller, the whole world of the object -/
def AA (yd : Dyn) (Z : Stc) (sz : Nat) : Nat → Prop := fun q => (∃ o, o < Z.1.length ∧ q = yd.1 o) ∨ sz ≤ q
def PreB (Z : Stc) (yd : Dyn) (h : AH) (sz : Nat) : State → Prop := fun U => U.heap.size = sz ∧ va_P yd.2.1 vwCl (wld Z yd h) U.heap ∧ va_K yd.2.1 vwCl yd.2.2 U ∧ va_D (fun _ => True) (wld Z yd h) ∧ yd.2.2.map (·.2) = Z.2.2.2
def PostB (Z : Stc) (yd : Dyn) {α : Type} (rv : α → Option Value) (A : Nat → Prop) (r : α) (h' : AH) : Array Value → State → Outcome → State → Prop := fun _ s o t => o = .returned ((rv r).map (cv yd.1)) ∧ va_P yd.2.1 vwCl (wld Z yd h') t.heap ∧ va_F A s t
def MC (l : Launch) (y : MethodName) (cc : ByteArray) (nL : Nat) (ret : Option FieldType) (rm : Room) (Z : Stc) (avs : List Value) {α : Type} (rv : α → Option Value) (F : AH → Option (α × AH)) : Prop :=
  ∀ (yd : Dyn) (h : AH) (r : α) (h' : AH) (sz : Nat), F h = some (r, h') → Met l y (.code y cc nL ret :: TB) rm (va_Pc (avs.map (cv yd.1)) (PreB Z yd h sz)) (PostB Z yd rv (AA yd Z sz) r h') rm.cells rm.slots (AA yd Z sz)
def QF (X : MCx) (rm : Room) (Z : Stc) (yd : Dyn) {α : Type} (rv : α → Option Value) (A : Nat → Prop) (r : α) (h' : AH) : State → Prop := MQ X.2.2.2.2.2.2.2.1 (PostB Z yd rv A r h') X.2.2.2.2.2.2.1 (xS X) rm.cells rm.slots A
def rvI (x : Int32) : Option Value := some (.int x)
def rvL (x : Int64) : Option Value := some (.long x)
def rvV (_ : Unit) : Option Value := none
def rvR (x : Nat) : Option Value := some (.ref x)
theorem AA_D {yd : Dyn} {Z : Stc} {h : AH} {sz : Nat} (hD : va_D (fun _ => True) (wld Z yd h)) : va_D (AA yd Z sz) (wld Z yd h) := by
  refine hD.weaken (fun k q hk _ => Or.inl ?_)
  obtain ⟨o, ho, rfl⟩ := List.mem_map.mp (List.mem_of_getElem? hk)
  exact ⟨o, List.mem_range.mp ho, rfl⟩
theorem lvc_args (ad : Nat → Nat) : ∀ (avs : List Value) (i : Nat), lv_args i (avs.map (cv ad)) = lvc ad (lv_args i avs)
  | [], _ => rfl
  | v :: l, i => by
    simp only [List.map_cons, lv_args, cv_cat]
    rw [lvc_args ad l]
    rfl
theorem sl_len (ad : Nat → Nat) : ∀ (avs : List Value), (lg_sl (avs.map (cv ad))).length = (lg_sl avs).length
  | [] => rfl
  | v :: l => by
    have ih := sl_len ad l
    simp only [lg_sl, List.map_cons, List.flatMap_cons, List.length_append] at ih ⊢
    rw [ih]
    cases v <;> rfl
theorem MC.of {l : Launch} {y : MethodName} {cc : ByteArray} {nL : Nat} {ret : Option FieldType} {rm : Room} {Z : Stc} {avs : List Value} {α : Type} {rv : α → Option Value} {F : AH → Option (α × AH)} {own : String} (hy : plainName y.cls = true) (hown : y.cls = own) (hl : (lg_sl avs).length ≤ nL)
    (body : ∀ (X : MCx) (yd : Dyn) (A : Nat → Prop) (h : AH), X.2.1 = l → OK X cc own nL ret rm A → AW X nL Z yd A 0 0 (QF X rm Z yd rv A) 0 (lv_args 0 avs) [] h (F h)) : MC l y cc nL ret rm Z avs rv F := by
  intro yd h r h' sz hF
  refine Met.ofW (cc := cc) (maxL := nL) (ret := ret) hy rfl ?_
  intro p e s m args below meth c s₁ B hml hv
  obtain ⟨rfl, hsz, hP, hK, hD0, hT⟩ := hv
  have hts := atoms_spec (ws := .code y cc nL ret :: TB) B.pre
  have hown2 : s.vm.findClass y.cls = some m.cls := findClass_of_methodNamed B.named
  have hlv := lv_entry (avs.map (cv yd.1)) (n := nL) (by rw [sl_len]; exact hl)
  rw [lg_entry_eq]
  rw [lvc_args] at hlv
  have hA : ∀ q, s.heap.size ≤ q → AA yd Z sz q := fun q hq => Or.inr (hsz ▸ hq)
  exact body (p, l, e, (headSpec (.code y cc nL ret :: TB) rm).room, s, m, (avs.map (cv yd.1)).toArray, below, meth, c) yd (AA yd Z sz) h rfl ⟨B.exec, B.bytes, hml, hown ▸ hown2, fun w hw => hts w (List.mem_cons_of_mem _ hw), B.notSynchronized, B.returns, hA, rfl⟩ r h' hF _ s.heap [] hlv ⟨hP, AA_D hD0, va_S.rf, hK, hT⟩
section AWE
variable {X : MCx} {cc : ByteArray} {own : String} {nL : Nat} {ret : Option FieldType} {rm : Room} {Z : Stc} {yd : Dyn} {A : Nat → Prop} {k n : Nat} {pc : Nat} {lv : List (Nat × Value)} {st : List Value} {h : AH}
theorem aw_iret (C : OK X cc own nL (some .int) rm A) {x : Int32} (d : decode cc pc = .ok (.ireturn, 1)) (hc : k = rm.cells) (hs : n = rm.slots) : AW X nL Z yd A k n (QF X rm Z yd rvI A) pc lv [.int x] h (some (x, h)) := fun r h' e ls H locs hl hw => by
  cases e; subst hc; subst hs
  exact W.iret (v := x) C.1 C.2.1 C.2.2.2.2.2.2.1 (fun t ht hW => ⟨rfl, by rw [ht]; exact hw.1, hw.2.2.1.F ht⟩) hw.2.2.1.2.2 d C.2.2.2.2.2.1
theorem aw_zret (C : OK X cc own nL (some .boolean) rm A) {x : Int32} (d : decode cc pc = .ok (.ireturn, 1)) (hc : k = rm.cells) (hs : n = rm.slots) : AW X nL Z yd A k n (QF X rm Z yd rvI A) pc lv [.int x] h (cz x (some (x, h))) := aw_if (fun c r h' e ls H locs hl hw => by
  cases e; subst hc; subst hs
  exact W.zret (v := x) (ty := .boolean) C.1 C.2.1 C.2.2.2.2.2.2.1 (by rcases c with c | c <;> subst c <;> rfl) (fun t ht hW => ⟨rfl, by rw [ht]; exact hw.1, hw.2.2.1.F ht⟩) hw.2.2.1.2.2 d C.2.2.2.2.2.1) (fun _ => aw_none)
theorem aw_lret (C : OK X cc own nL (some .long) rm A) {x : Int64} (d : decode cc pc = .ok (.lreturn, 1)) (hc : k = rm.cells) (hs : n = rm.slots) : AW X nL Z yd A k n (QF X rm Z yd rvL A) pc lv [.long x] h (some (x, h)) := fun r h' e ls H locs hl hw => by
  cases e; subst hc; subst hs
  exact W.lret (v := x) C.1 C.2.1 C.2.2.2.2.2.2.1 (fun t ht hW => ⟨rfl, by rw [ht]; exact hw.1, hw.2.2.1.F ht⟩) hw.2.2.1.2.2 d C.2.2.2.2.2.1
theorem aw_vret (C : OK X cc own nL none rm A) (d : decode cc pc = .ok (.return_, 1)) (hc : k = rm.cells) (hs : n = rm.slots) : AW X nL Z yd A k n (QF X rm Z yd rvV A) pc lv [] h (some ((), h)) := fun r h' e ls H locs hl hw => by
  cases e; subst hc; subst hs
  exact W.vret C.1 C.2.1 C.2.2.2.2.2.2.1 (fun t ht hW => ⟨rfl, by rw [ht]; exact hw.1, hw.2.2.1.F ht⟩) hw.2.2.1.2.2 d C.2.2.2.2.2.1
end AWE
end
section
/-! calls -/
def CR (X : MCx) (nL : Nat) (Z : Stc) (yd : Dyn) (A : Nat → Prop) (mc ms pc : Nat) (st rest : List Value) {β : Type} (rv : β → Option Value) (F : AH → Option (β × AH)) : Prop :=
  ∀ (h : AH) (r : β) (h' : AH), F h = some (r, h') → ∀ (ls : Array Slot) (H : Heap) (locs : List Loc) (k n : Nat), ls.size = nL → WR X Z yd A h H locs → k + mc ≤ X.2.2.2.1.cells ∧ n + ms ≤ X.2.2.2.1.slots →
    va_Run X.1 X.2.1 X.2.2.1 X.2.2.2.1 (xS X) (xM X) X.2.2.2.2.2.2.1 X.2.2.2.2.2.2.2.1 X.2.2.2.2.2.2.2.2.1 X.2.2.2.2.2.2.2.2.2 H locs k n mc ms (F0 (xM X) pc ls (st.map (cv yd.1))) (rest.map (cv yd.1)) (PostB Z yd rv (AA yd Z H.size) r h' #[]) (AA yd Z H.size)
theorem wld_D {A : Nat → Prop} {Z : Stc} {yd : Dyn} {h h' : AH} (hD : va_D A (wld Z yd h)) : va_D A (wld Z yd h') := by
  have key : ∀ (k : Nat) (q : Nat × va_E), (wld Z yd h')[k]? = some q → ∃ e, (wld Z yd h)[k]? = some (q.1, e) := by
    intro k q hk
    have hl : k < Z.1.length := by
      have := (List.getElem?_eq_some_iff.mp hk).1
      rwa [wld_len] at this
    obtain ⟨t, ht⟩ : ∃ t, Z.1[k]? = some t := ⟨_, List.getElem?_eq_getElem hl⟩
    rw [wld_at ht] at hk
    cases hk
    exact ⟨_, wld_at ht⟩
  refine ⟨fun i j p q hi hj e => ?_, fun k q hk => ?_⟩
  · obtain ⟨e1, h1⟩ := key i p hi
    obtain ⟨e2, h2⟩ := key j q hj
    exact hD.1 i j _ _ h1 h2 e
  · obtain ⟨e1, h1⟩ := key k q hk
    exact hD.2 k (q.1, e1) h1
theorem AA_in {X : MCx} {Z : Stc} {yd : Dyn} {A : Nat → Prop} {h : AH} {H : Heap} {locs : List Loc} (hw : WR X Z yd A h H locs) (hA : ∀ q, (xS X).heap.size ≤ q → A q) : ∀ q, AA yd Z H.size q → A q := by
  intro q hq
  rcases hq with ⟨o, ho, rfl⟩ | hq
  · obtain ⟨t, ht⟩ : ∃ t, Z.1[o]? = some t := ⟨_, List.getElem?_eq_getElem ho⟩
    exact hw.2.1.2 o _ (wld_at ht)
  · exact hA q (Nat.le_trans hw.2.2.1.1 hq)
section AWC
variable {X : MCx} {cc : ByteArray} {own : String} {nL : Nat} {ret : Option FieldType} {rm : Room} {Z : Stc} {yd : Dyn} {A : Nat → Prop} {k n : Nat} {α β : Type} {Qf : α → AH → State → Prop} {pc : Nat} {lv : List (Nat × Value)} {st rest : List Value} {h : AH} {rv : β → Option Value} {F : AH → Option (β × AH)}
theorem aw_callN (C : OK X cc own nL ret rm A) {mc ms : Nat} (R : CR X nL Z yd A mc ms pc st rest rv F) {f : β → AH → Option (α × AH)} (hc : k + mc ≤ rm.cells) (hs : n + ms ≤ rm.slots) (q : ∀ r h1, AW X nL Z yd A (k + mc) (n + ms) Qf (pc + 3) lv ((rv r).toList ++ rest) h1 (f r h1)) : AW X nL Z yd A k n Qf pc lv st h (bd (F h) f) := by
  intro r h' e ls H locs hl hw
  cases hF : F h with
  | none => rw [hF] at e; cases e
  | some p =>
    rw [hF] at e
    have e : f p.1 p.2 = some (r, h') := e
    have run := R h p.1 p.2 hF ls H locs k n hl.1 hw (by rw [C.2.2.2.2.2.2.2.2]; exact ⟨hc, hs⟩)
    intro T hT XX
    obtain ⟨v, st₀, t, T', L, h0, X', hL, e1, e2, ⟨hv, hP1, hz, hk⟩, stp⟩ := run T hT XX
    cases hv
    rw [h0] at hz hk
    have hin := AA_in hw C.2.2.2.2.2.2.2.1
    have hS : va_S A (xS X).heap T'.heap (locs ++ L) := ⟨Nat.le_trans hw.2.2.1.1 (by rw [e1]; exact hz), fun q h1 h2 => by rw [e1, hk q (Nat.lt_of_lt_of_le h1 hw.2.2.1.1) (fun z => h2 (hin q z))]; exact hw.2.2.1.2.1 q h1 h2, fun q hq => by
      rcases List.mem_append.mp hq with h | h
      · exact hw.2.2.1.2.2 q h
      · exact hin _ (hL q h)⟩
    have hst : ((rv p.1).map (cv yd.1)).toList ++ rest.map (cv yd.1) = ((rv p.1).toList ++ rest).map (cv yd.1) := by
      cases rv p.1 <;> simp
    obtain ⟨t2, a1, b1⟩ := q p.1 p.2 r h' e ls T'.heap (locs ++ L) hl ⟨by rw [e1]; exact hP1, wld_D hw.2.1, hS, hw.2.2.2⟩ T' rfl X'
    refine ⟨t2, stp t2 ?_, b1⟩
    show Steps _ _ _ (T'.setTop (F0 (xM X) (pc + 3) ls (((rv p.1).map (cv yd.1)).toList ++ rest.map (cv yd.1)))) _
    rw [hst]
    exact a1
theorem aw_call (C : OK X cc own nL ret rm A) (R : CR X nL Z yd A 0 0 pc st rest rv F) {f : β → AH → Option (α × AH)} (hc : k ≤ rm.cells) (hs : n ≤ rm.slots) (q : ∀ r h1, AW X nL Z yd A k n Qf (pc + 3) lv ((rv r).toList ++ rest) h1 (f r h1)) : AW X nL Z yd A k n Qf pc lv st h (bd (F h) f) := aw_callN (mc := 0) (ms := 0) C R hc hs q
end AWC
theorem MF.n {y : MethodName} {bytes : ByteArray} {maxL np : Nat} {ret : Option FieldType} (h : MF y bytes maxL ret np) : ∀ sig, parseMethodDescriptor y.desc = some sig → np = sig.parameters.length := by
  intro sig hs
  have h2 := h.2.2.2
  rw [hs] at h2
  exact (Option.some.inj h2).symm
/-- the room of a call -/
def RmOk (rm' rm : Room) (maxL : Nat) : Prop := rm'.frames + 1 ≤ rm.frames ∧ 8 + (maxL + 11) + rm'.locals ≤ rm.locals
section AWR
variable {X : MCx} {cc bytes : ByteArray} {own : String} {nL maxL np : Nat} {ret ret' : Option FieldType} {rm rm' : Room} {Z : Stc} {yd : Dyn} {A : Nat → Prop} {k n : Nat} {β : Type} {pc ix : Nat} {st rest As : List Value} {h : AH} {rv : β → Option Value} {F : AH → Option (β × AH)} {y : MethodName}
theorem OK.warm (C : OK X cc own nL ret rm A) (hc : Cond.code y bytes maxL ret' ∈ TB) : ∀ w ∈ (Cond.code y bytes maxL ret' :: TB), ∀ (a' : Array Value) (U : State), (xS X).WarmedH U.vm → w.before a' U = true := by
  intro w hw a' U hW
  have hw2 : w ∈ TB := by
    rcases List.mem_cons.mp hw with e | e
    · rw [e]; exact hc
    · exact e
  exact word_at hW (good_of_word (tb_good hw2)) (C.2.2.2.2.1 w hw2)
theorem pre_blind {avs : List Value} {sz : Nat} : FrameBlind (va_Pc avs (PreB Z yd h sz)) := fun a U g mk q => by
  obtain ⟨q0, q1, qP, qK, qD⟩ := q
  exact ⟨q0, q1, qP, va_K.moved (u := U) (U := U.calling g mk a) (Vm.Alike.refl U.vm) qK, qD⟩
theorem pre_at {H : Heap} {locs : List Loc} {avs : List Value} (hw : WR X Z yd A h H locs) : ∀ U : State, U.heap = H → (xS X).WarmedH U.vm → va_Pc avs (PreB Z yd h H.size) avs.toArray U := fun U hU hW => ⟨rfl, by rw [hU], by rw [hU]; exact hw.1, va_K.moved hW.alike hw.2.2.2.1, hw.2.1.weaken (fun _ _ _ _ => trivial), hw.2.2.2.2⟩
theorem OK.callB (C : OK X cc own nL ret rm A) (M : MF y bytes maxL ret' np) (hl : Cond.methodLink own ix y ∈ TB) (hR : RmOk rm' rm maxL) : CallB X.2.2.2.1 (xS X) X.2.2.2.2.2.2.1 own ix y bytes maxL ret' (Cond.code y bytes maxL ret' :: TB) rm' rm'.cells rm'.slots np :=
  ⟨rfl, rfl, by rw [C.2.2.2.2.2.2.2.2]; exact hR.1, by rw [C.2.2.2.2.2.2.2.2]; exact hR.2, C.warm M.2.1, List.mem_cons_self, C.2.2.2.2.1 _ M.2.1, C.2.2.2.2.1 _ M.1, M.2.2.1, M.n, C.2.2.2.2.1 _ hl⟩
theorem recv_at {H : Heap} {locs : List Loc} {b ci : Nat} {q : vw_C} (hw : WR X Z yd A h H locs) (hs : Z.1[b]? = some (.inr ci)) (hc : vwCl[ci]? = some q) : ∃ cell : Cell, H[yd.1 b]? = some cell ∧ cell.vm.isStatics = false ∧ (xS X).vm.findClass q.1 = some cell.cls := va_recv hw.2.2.2.1 hw.1 hc (wld_at hs)
theorem cr_S (C : OK X cc own nL ret rm A) (hX : MC X.2.1 y bytes maxL ret' rm' Z As rv F) (d : decode cc pc = .ok (.invokestatic ix, 3)) (M : MF y bytes maxL ret' np) (hl : Cond.methodLink own ix y ∈ TB) (hst : Cond.static y ∈ TB) (hR : RmOk rm' rm maxL) (hn : As.length = np) (hs : st = As.reverse ++ rest) (hW : ((rest.map (cv yd.1)).map fun v => v.category).sum ≤ 8) : CR X nL Z yd A rm'.cells rm'.slots pc st rest rv F := by
  intro h r h' hF ls H locs k n hls hw hf
  exact va_runS (As := As.map (cv yd.1)) (Ts := TB) ⟨C.1, C.2.1, C.2.2.1, C.2.2.2.1, C.2.2.2.2.1⟩ (hX yd h r h' H.size hF) ⟨C.callB M hl hR, C.2.2.2.2.1 _ hst⟩ ⟨pre_blind, pre_at hw⟩ rfl (by rw [List.length_map]; exact hn) hls (by rw [hs]; simp) (lv_room hW) d hf
theorem cr_V (C : OK X cc own nL ret rm A) {b ci : Nat} {T : u_T} {N : Nat} (hX : MC X.2.1 y bytes maxL ret' rm' Z (.ref b :: As) rv F) (d : decode cc pc = .ok (.invokevirtual ix, 3)) (M : MF y bytes maxL ret' np) (hl : Cond.methodLink own ix y ∈ TB) (hi : Cond.instanceMethod y ∈ TB) (hsel : Cond.selects y.cls y y ∈ TB) (hb : Z.1[b]? = some (.inr ci)) (hc : vwCl[ci]? = some (y.cls, T, N)) (hR : RmOk rm' rm maxL) (hn : As.length = np) (hs : st = As.reverse ++ .ref b :: rest) (hW : ((rest.map (cv yd.1)).map fun v => v.category).sum ≤ 8) : CR X nL Z yd A rm'.cells rm'.slots pc st rest rv F := by
  intro h r h' hF ls H locs k n hls hw hf
  exact va_runV (C := y.cls) (b := yd.1 b) (As := As.map (cv yd.1)) (Ts := TB) ⟨C.1, C.2.1, C.2.2.1, C.2.2.2.1, C.2.2.2.2.1⟩ (hX yd h r h' H.size hF) ⟨C.callB M hl hR, C.2.2.2.2.1 _ hi, C.2.2.2.2.1 _ hsel⟩ ⟨pre_blind, recv_at hw hb hc, pre_at hw⟩ rfl (by rw [List.length_map]; exact hn) hls (by rw [hs]; simp [cv]) (lv_room hW) d hf
/-- a method of a class above: super's -/
theorem cr_SU (C : OK X cc own nL ret rm A) {b ci : Nat} {q : vw_C} (hX : MC X.2.1 y bytes maxL ret' rm' Z (.ref b :: As) rv F) (d : decode cc pc = .ok (.invokespecial ix, 3)) (M : MF y bytes maxL ret' np) (hl : Cond.methodLink own ix y ∈ TB) (hsm : Cond.sameMethod y.cls y.cls y.name y.desc ∈ TB) (hsup : Cond.superclass own y.cls ∈ TB) (hi : Cond.instanceMethod y ∈ TB) (hno : y.name ≠ "<init>") (hb : Z.1[b]? = some (.inr ci)) (hc : vwCl[ci]? = some q) (hR : RmOk rm' rm maxL) (hn : As.length = np) (hs : st = As.reverse ++ .ref b :: rest) (hW : ((rest.map (cv yd.1)).map fun v => v.category).sum ≤ 8) : CR X nL Z yd A rm'.cells rm'.slots pc st rest rv F := by
  intro h r h' hF ls H locs k n hls hw hf
  exact va_runSU (C := q.1) (b := yd.1 b) (As := As.map (cv yd.1)) (Ts := TB) (hw.2.2.2.1.1 ci q hc).2 ⟨C.1, C.2.1, C.2.2.1, C.2.2.2.1, C.2.2.2.2.1⟩ (hX yd h r h' H.size hF) ⟨⟨rfl, rfl, by rw [C.2.2.2.2.2.2.2.2]; exact hR.1, by rw [C.2.2.2.2.2.2.2.2]; exact hR.2, C.warm M.2.1, List.mem_cons_self⟩, C.2.2.2.2.1 _ hl, C.2.2.2.2.1 _ hsm, C.2.2.2.2.1 _ hsup, C.2.2.2.2.1 _ hi, C.2.2.2.2.1 _ M.1, C.2.2.2.2.1 _ M.2.1, hno, M.n⟩ ⟨pre_blind, recv_at hw hb hc, pre_at hw⟩ rfl (by rw [List.length_map]; exact hn) hls (by rw [hs]; simp [cv]) (lv_room hW) d hf
/-- a method that is overridden or inherited: the reference x, the class of the receiver, its code y -/
theorem cr_U (C : OK X cc own nL ret rm A) {b ci : Nat} {q : vw_C} {owner : String} {x : MethodName} {b0 : ByteArray} {m0 : Nat} {r0 : Option FieldType} (hX : MC X.2.1 y bytes maxL ret' rm' Z (.ref b :: As) rv F) (d : decode cc pc = .ok (.invokevirtual ix, 3)) (M : MF y bytes maxL ret' np) (hl : Cond.methodLink own ix x ∈ TB) (hsm : Cond.sameMethod x.cls owner x.name x.desc ∈ TB) (ho : Cond.instanceMethod ⟨owner, x.name, x.desc⟩ ∈ TB) (ho2 : Cond.code ⟨owner, x.name, x.desc⟩ b0 m0 r0 ∈ TB) (hmh : owner ≠ "java/lang/invoke/MethodHandle" ∧ owner ≠ "java/lang/invoke/VarHandle") (hnp : (parseMethodDescriptor x.desc).map (fun d => d.parameters.length) = some np) (hsel : Cond.selects q.1 x y ∈ TB) (hi : Cond.instanceMethod y ∈ TB) (hb : Z.1[b]? = some (.inr ci)) (hc : vwCl[ci]? = some q) (hR : RmOk rm' rm maxL) (hn : As.length = np) (hs : st = As.reverse ++ .ref b :: rest) (hW : ((rest.map (cv yd.1)).map fun v => v.category).sum ≤ 8) : CR X nL Z yd A rm'.cells rm'.slots pc st rest rv F := by
  intro h r h' hF ls H locs k n hls hw hf
  exact va_runU (C := q.1) (owner := owner) (b := yd.1 b) (As := As.map (cv yd.1)) (Ts := TB) ⟨C.1, C.2.1, C.2.2.1, C.2.2.2.1, C.2.2.2.2.1⟩ (hX yd h r h' H.size hF) ⟨⟨rfl, rfl, by rw [C.2.2.2.2.2.2.2.2]; exact hR.1, by rw [C.2.2.2.2.2.2.2.2]; exact hR.2, C.warm M.2.1, List.mem_cons_self⟩, C.2.2.2.2.1 _ M.2.1, C.2.2.2.2.1 _ M.1, hmh, fun sig h => (by rw [h] at hnp; exact (Option.some.inj hnp).symm), C.2.2.2.2.1 _ hl, C.2.2.2.2.1 _ hsm, va_Decl.of (C.2.2.2.2.1 _ ho) (C.2.2.2.2.1 _ ho2), C.2.2.2.2.1 _ hsel, C.2.2.2.2.1 _ hi⟩ ⟨pre_blind, recv_at hw hb hc, pre_at hw⟩ rfl (by rw [List.length_map]; exact hn) hls (by rw [hs]; simp [cv]) (lv_room hW) d hf
end AWR
end
section
/-! a reference answered; rows copied; a row made -/
def cpI (h : AH) (src dst n : Nat) : AH := (fun o k => if o = dst ∧ k < n then h.1 src k else h.1 o k, h.2)
section AWM
variable {X : MCx} {cc : ByteArray} {own : String} {nL : Nat} {ret : Option FieldType} {rm : Room} {Z : Stc} {yd : Dyn} {A : Nat → Prop} {k n : Nat} {α : Type} {Qf : α → AH → State → Prop} {pc ix : Nat} {lv : List (Nat × Value)} {st : List Value} {h : AH} {o : Option (α × AH)}
theorem aw_aret {D : String} (C : OK X cc own nL (some (.object D)) rm A) {x : Nat} (d : decode cc pc = .ok (.areturn, 1)) (hc : k = rm.cells) (hs : n = rm.slots) : AW X nL Z yd A k n (QF X rm Z yd rvR A) pc lv [.ref x] h (some (x, h)) := fun r h' e ls H locs hl hw => by
  cases e; subst hc; subst hs
  exact W.aret (v := .ref (yd.1 x)) C.1 C.2.1 C.2.2.2.2.2.2.1 (Or.inl ⟨_, rfl⟩) (Or.inr ⟨_, rfl⟩) (fun t ht hW => ⟨rfl, by rw [ht]; exact hw.1, hw.2.2.1.F ht⟩) hw.2.2.1.2.2 d C.2.2.2.2.2.1
theorem aw_copy (C : OK X cc own nL ret rm A) {a b t N M : Nat} {m : Int32} {f : AH → Option (α × AH)} (d : decode cc pc = .ok (.invokestatic ix, 3)) (hl : Cond.methodLink own ix arraycopyName ∈ TB) (hnat : Cond.native arraycopyName ∈ TB) (hst : Cond.static arraycopyName ∈ TB) (hini : Cond.initialized "java/lang/System" ∈ TB) (ha : Z.1[a]? = some (.inl (t, 0, N))) (hb : Z.1[b]? = some (.inl (t, 0, N))) (ht : Z.2.2.2[t]? = some .int) (h3 : ¬ m < 0) (hM : m.toNatClampNeg = M) (h4 : M ≤ N) (hR : 1 ≤ rm.frames ∧ ((st.map (cv yd.1)).map fun v => v.category).sum + (nativeFrameWords "java/lang/System" "arraycopy" 5 + 11) ≤ rm.locals) (q : ∀ h1, AW X nL Z yd A k n Qf (pc + 3) lv st h1 (f h1)) : AW X nL Z yd A k n Qf pc lv (.int m :: .int 0 :: .ref b :: .int 0 :: .ref a :: st) h (vl (cpI h a b M) f) := fun r h' e ls H locs hll hw => by
  have z0 : (0 : Int32).toNatClampNeg = 0 := rfl
  refine va_copyi (own := own) C.1 C.2.1 (by rw [C.2.2.1]; exact hll.1.symm) C.2.2.2.1 (C.2.2.2.2.1 _ hl) (C.2.2.2.2.1 _ hnat) (C.2.2.2.2.1 _ hst) (C.2.2.2.2.1 _ hini) hw.2.2.2.1 hw.1 hw.2.1 hw.2.2.1 a b t t (wld_at ha) (wld_at hb) (tyAt hw.2.2.2.2 ht) (tyAt hw.2.2.2.2 ht) rfl (by decide) (by decide) h3 (by rw [hM, z0, Nat.zero_add]; exact h4) (by rw [hM, z0, Nat.zero_add]; exact h4) (fun i _ => rfl) (by rw [C.2.2.2.2.2.2.2.2]; exact hR.1) (by rw [C.2.2.2.2.2.2.2.2]; exact hR.2) d (fun H1 locs1 p1 p2 p3 => ?_)
  have e1 : (wld Z yd h).set b (yd.1 b, .inl (tcl yd t, N, .inl (va_cpy (h.1 a) (h.1 b) (0 : Int32).toNatClampNeg (0 : Int32).toNatClampNeg m.toNatClampNeg))) = wld Z yd (cpI h a b M) := by
    refine wld_set hb ?_ (fun o' s' hn => ent_same (fun j => by simp [cpI, hn]) (fun _ => rfl) rfl)
    show Sum.inl (tcl yd t, N, Sum.inl _) = _
    rw [show (cpI h a b M).1 b = va_cpy (h.1 a) (h.1 b) (0 : Int32).toNatClampNeg (0 : Int32).toNatClampNeg m.toNatClampNeg from funext fun j => by simp [cpI, va_cpy, hM, z0]]
  rw [e1] at p1 p2
  exact q _ r h' e ls H1 locs1 hll ⟨p1, p2, p3, hw.2.2.2⟩
end AWM
/-- what a call's end gives for either of some cases -/
def kd {β : Type} (j : Nat) (o0 o1 o2 o3 o4 o5 : β) : β := if j % 6 = 0 then o0 else if j % 6 = 1 then o1 else if j % 6 = 2 then o2 else if j % 6 = 3 then o3 else if j % 6 = 4 then o4 else o5
theorem cr_kd {X : MCx} {nL : Nat} {Z : Stc} {yd : Dyn} {A : Nat → Prop} {mc ms pc : Nat} {st rest : List Value} {β : Type} {rv : β → Option Value} {F0 F1 F2 F3 F4 F5 : AH → Option (β × AH)} (j : Nat) (R0 : j % 6 = 0 → CR X nL Z yd A mc ms pc st rest rv F0) (R1 : j % 6 = 1 → CR X nL Z yd A mc ms pc st rest rv F1) (R2 : j % 6 = 2 → CR X nL Z yd A mc ms pc st rest rv F2) (R3 : j % 6 = 3 → CR X nL Z yd A mc ms pc st rest rv F3) (R4 : j % 6 = 4 → CR X nL Z yd A mc ms pc st rest rv F4) (R5 : j % 6 = 5 → CR X nL Z yd A mc ms pc st rest rv F5) : CR X nL Z yd A mc ms pc st rest rv (fun h => kd j (F0 h) (F1 h) (F2 h) (F3 h) (F4 h) (F5 h)) := by
  intro h r h' hF
  have hF : kd j (F0 h) (F1 h) (F2 h) (F3 h) (F4 h) (F5 h) = some (r, h') := hF
  unfold kd at hF
  split at hF
  next e => exact R0 e h r h' hF
  split at hF
  next e => exact R1 e h r h' hF
  split at hF
  next e => exact R2 e h r h' hF
  split at hF
  next e => exact R3 e h r h' hF
  split at hF
  next e => exact R4 e h r h' hF
  next => exact R5 (by omega) h r h' hF
theorem aw_callF {X : MCx} {cc : ByteArray} {own : String} {nL : Nat} {ret : Option FieldType} {rm : Room} {Z : Stc} {yd : Dyn} {A : Nat → Prop} {k n pc : Nat} {α β : Type} {Qf : α → AH → State → Prop} {lv : List (Nat × Value)} {st rest : List Value} {h : AH} {rv : β → Option Value} {F : AH → Option (β × AH)} {oc : Option (β × AH)} (C : OK X cc own nL ret rm A) {mc ms : Nat} (R : CR X nL Z yd A mc ms pc st rest rv F) (hF : F h = oc) {f : β → AH → Option (α × AH)} (h0 : mc = 0) (h1 : ms = 0) (hc : k ≤ rm.cells) (hs : n ≤ rm.slots) (q : ∀ r h1, AW X nL Z yd A k n Qf (pc + 3) lv ((rv r).toList ++ rest) h1 (f r h1)) : AW X nL Z yd A k n Qf pc lv st h (bd oc f) := by
  subst hF; subst h0; subst h1
  exact aw_call C R hc hs q
end
