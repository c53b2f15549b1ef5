/-! what the constructors ask of the tables -/
theorem w_arrJ : Cond.arrayClass .long ∈ TB := tb_in 161 (by decide +kernel) (by decide +kernel)
theorem w_oi : Cond.instanceMethod Lib.objectInit ∈ TB := tb_in 111 (by decide +kernel) (by decide +kernel)
theorem w_oc : Cond.code Lib.objectInit ⟨#[0xb1]⟩ 1 none ∈ TB := tb_in 112 (by decide +kernel) (by decide +kernel)
theorem kl_X1_9 : Cond.classLink RX1 9 "[[J" ∈ TB := tb_in 138 (by decide +kernel) (by decide +kernel)
theorem kl_X10_25 : Cond.classLink RX10 25 "MarkToBoard$Ranking" ∈ TB := tb_in 115 (by decide +kernel) (by decide +kernel)
theorem kl_X10_32 : Cond.classLink RX10 32 "MarkToBoard$Chances" ∈ TB := tb_in 132 (by decide +kernel) (by decide +kernel)
theorem kl_X10_52 : Cond.classLink RX10 52 "MarkToBoard$Safe" ∈ TB := tb_in 168 (by decide +kernel) (by decide +kernel)
theorem kl_X10_55 : Cond.classLink RX10 55 "MarkToBoard$Bold" ∈ TB := tb_in 175 (by decide +kernel) (by decide +kernel)
theorem kl_X10_58 : Cond.classLink RX10 58 "MarkToBoard$Looker" ∈ TB := tb_in 182 (by decide +kernel) (by decide +kernel)
theorem kl_X10_61 : Cond.classLink RX10 61 "MarkToBoard$Winded" ∈ TB := tb_in 189 (by decide +kernel) (by decide +kernel)
theorem kl_X10_64 : Cond.classLink RX10 64 "MarkToBoard$Steady" ∈ TB := tb_in 196 (by decide +kernel) (by decide +kernel)
theorem kl_X10_67 : Cond.classLink RX10 67 "MarkToBoard$Meet" ∈ TB := tb_in 203 (by decide +kernel) (by decide +kernel)
theorem kl_X10_82 : Cond.classLink RX10 82 "MarkToBoard$Jumper" ∈ TB := tb_in 300 (by decide +kernel) (by decide +kernel)
theorem kl_X10_9 : Cond.classLink RX10 9 "MarkToBoard$Kind" ∈ TB := tb_in 113 (by decide +kernel) (by decide +kernel)
theorem kl_X5_18 : Cond.classLink RX5 18 "MarkToBoard$Jumper" ∈ TB := tb_in 209 (by decide +kernel) (by decide +kernel)
theorem fpf_X1_11 : FPF RX1 11 1 0 (.array (.array .long)) := ⟨RX1, TX1, 5, tyX1, rfl, by decide, wsin_X1, tb_in 141 (by decide +kernel) (by decide +kernel), tyX1_ok, nmX1, rfl, rfl, by decide +kernel⟩
theorem fpf_X1_16 : FPF RX1 16 1 1 (.array .long) := ⟨RX1, TX1, 5, tyX1, rfl, by decide, wsin_X1, tb_in 142 (by decide +kernel) (by decide +kernel), tyX1_ok, nmX1, rfl, rfl, by decide +kernel⟩
theorem fpf_X10_11 : FPF RX10 11 10 0 (.array (.object "MarkToBoard$Kind")) := ⟨RX10, TX10, 18, tyX10, rfl, by decide, wsin_X10, tb_in 302 (by decide +kernel) (by decide +kernel), tyX10_ok, nmX10, rfl, rfl, by decide +kernel⟩
theorem fpf_X10_15 : FPF RX10 15 10 5 (.array .int) := ⟨RX10, TX10, 18, tyX10, rfl, by decide, wsin_X10, tb_in 307 (by decide +kernel) (by decide +kernel), tyX10_ok, nmX10, rfl, rfl, by decide +kernel⟩
theorem fpf_X10_19 : FPF RX10 19 10 7 (.array .int) := ⟨RX10, TX10, 18, tyX10, rfl, by decide, wsin_X10, tb_in 309 (by decide +kernel) (by decide +kernel), tyX10_ok, nmX10, rfl, rfl, by decide +kernel⟩
theorem fpf_X10_22 : FPF RX10 22 10 9 (.array .int) := ⟨RX10, TX10, 18, tyX10, rfl, by decide, wsin_X10, tb_in 311 (by decide +kernel) (by decide +kernel), tyX10_ok, nmX10, rfl, rfl, by decide +kernel⟩
theorem fpf_X10_28 : FPF RX10 28 10 10 (.object "MarkToBoard$Ranking") := ⟨RX10, TX10, 18, tyX10, rfl, by decide, wsin_X10, tb_in 312 (by decide +kernel) (by decide +kernel), tyX10_ok, nmX10, rfl, rfl, by decide +kernel⟩
theorem fpf_X10_35 : FPF RX10 35 10 11 (.object "MarkToBoard$Chances") := ⟨RX10, TX10, 18, tyX10, rfl, by decide, wsin_X10, tb_in 313 (by decide +kernel) (by decide +kernel), tyX10_ok, nmX10, rfl, rfl, by decide +kernel⟩
theorem fpf_X10_39 : FPF RX10 39 10 13 (.array .int) := ⟨RX10, TX10, 18, tyX10, rfl, by decide, wsin_X10, tb_in 315 (by decide +kernel) (by decide +kernel), tyX10_ok, nmX10, rfl, rfl, by decide +kernel⟩
theorem fpf_X10_42 : FPF RX10 42 10 14 (.array .int) := ⟨RX10, TX10, 18, tyX10, rfl, by decide, wsin_X10, tb_in 316 (by decide +kernel) (by decide +kernel), tyX10_ok, nmX10, rfl, rfl, by decide +kernel⟩
theorem fpf_X10_45 : FPF RX10 45 10 15 (.array .int) := ⟨RX10, TX10, 18, tyX10, rfl, by decide, wsin_X10, tb_in 317 (by decide +kernel) (by decide +kernel), tyX10_ok, nmX10, rfl, rfl, by decide +kernel⟩
theorem fpf_X10_48 : FPF RX10 48 10 16 (.array .int) := ⟨RX10, TX10, 18, tyX10, rfl, by decide, wsin_X10, tb_in 318 (by decide +kernel) (by decide +kernel), tyX10_ok, nmX10, rfl, rfl, by decide +kernel⟩
theorem fpf_X10_72 : FPF RX10 72 10 1 (.object "MarkToBoard$Meet") := ⟨RX10, TX10, 18, tyX10, rfl, by decide, wsin_X10, tb_in 303 (by decide +kernel) (by decide +kernel), tyX10_ok, nmX10, rfl, rfl, by decide +kernel⟩
theorem fpf_X10_76 : FPF RX10 76 10 2 (.object "MarkToBoard$Meet") := ⟨RX10, TX10, 18, tyX10, rfl, by decide, wsin_X10, tb_in 304 (by decide +kernel) (by decide +kernel), tyX10_ok, nmX10, rfl, rfl, by decide +kernel⟩
theorem fpf_X10_79 : FPF RX10 79 10 3 (.object "MarkToBoard$Meet") := ⟨RX10, TX10, 18, tyX10, rfl, by decide, wsin_X10, tb_in 305 (by decide +kernel) (by decide +kernel), tyX10_ok, nmX10, rfl, rfl, by decide +kernel⟩
theorem fpf_X10_85 : FPF RX10 85 10 12 (.object "MarkToBoard$Jumper") := ⟨RX10, TX10, 18, tyX10, rfl, by decide, wsin_X10, tb_in 314 (by decide +kernel) (by decide +kernel), tyX10_ok, nmX10, rfl, rfl, by decide +kernel⟩
theorem fpf_X11_13 : FPF RX11 13 11 1 (.array .int) := ⟨RX11, TX11, 41, tyX11, rfl, by decide, wsin_X11, tb_in 935 (by decide +kernel) (by decide +kernel), tyX11_ok, nmX11, rfl, rfl, by decide +kernel⟩
theorem fpf_X11_16 : FPF RX11 16 11 2 (.array .int) := ⟨RX11, TX11, 41, tyX11, rfl, by decide, wsin_X11, tb_in 936 (by decide +kernel) (by decide +kernel), tyX11_ok, nmX11, rfl, rfl, by decide +kernel⟩
theorem fpf_X11_19 : FPF RX11 19 11 3 (.array .int) := ⟨RX11, TX11, 41, tyX11, rfl, by decide, wsin_X11, tb_in 937 (by decide +kernel) (by decide +kernel), tyX11_ok, nmX11, rfl, rfl, by decide +kernel⟩
theorem fpf_X11_22 : FPF RX11 22 11 4 (.array .int) := ⟨RX11, TX11, 41, tyX11, rfl, by decide, wsin_X11, tb_in 938 (by decide +kernel) (by decide +kernel), tyX11_ok, nmX11, rfl, rfl, by decide +kernel⟩
theorem fpf_X11_25 : FPF RX11 25 11 5 (.array .int) := ⟨RX11, TX11, 41, tyX11, rfl, by decide, wsin_X11, tb_in 939 (by decide +kernel) (by decide +kernel), tyX11_ok, nmX11, rfl, rfl, by decide +kernel⟩
theorem fpf_X11_28 : FPF RX11 28 11 6 (.array .int) := ⟨RX11, TX11, 41, tyX11, rfl, by decide, wsin_X11, tb_in 940 (by decide +kernel) (by decide +kernel), tyX11_ok, nmX11, rfl, rfl, by decide +kernel⟩
theorem fpf_X11_31 : FPF RX11 31 11 7 (.array .int) := ⟨RX11, TX11, 41, tyX11, rfl, by decide, wsin_X11, tb_in 941 (by decide +kernel) (by decide +kernel), tyX11_ok, nmX11, rfl, rfl, by decide +kernel⟩
theorem fpf_X11_34 : FPF RX11 34 11 8 (.array .int) := ⟨RX11, TX11, 41, tyX11, rfl, by decide, wsin_X11, tb_in 942 (by decide +kernel) (by decide +kernel), tyX11_ok, nmX11, rfl, rfl, by decide +kernel⟩
theorem fpf_X11_37 : FPF RX11 37 11 9 (.array .int) := ⟨RX11, TX11, 41, tyX11, rfl, by decide, wsin_X11, tb_in 943 (by decide +kernel) (by decide +kernel), tyX11_ok, nmX11, rfl, rfl, by decide +kernel⟩
theorem fpf_X11_40 : FPF RX11 40 11 10 (.array .int) := ⟨RX11, TX11, 41, tyX11, rfl, by decide, wsin_X11, tb_in 944 (by decide +kernel) (by decide +kernel), tyX11_ok, nmX11, rfl, rfl, by decide +kernel⟩
theorem fpf_X11_43 : FPF RX11 43 11 11 (.array .int) := ⟨RX11, TX11, 41, tyX11, rfl, by decide, wsin_X11, tb_in 945 (by decide +kernel) (by decide +kernel), tyX11_ok, nmX11, rfl, rfl, by decide +kernel⟩
theorem fpf_X11_46 : FPF RX11 46 11 17 (.array .int) := ⟨RX11, TX11, 41, tyX11, rfl, by decide, wsin_X11, tb_in 951 (by decide +kernel) (by decide +kernel), tyX11_ok, nmX11, rfl, rfl, by decide +kernel⟩
theorem fpf_X11_49 : FPF RX11 49 11 18 (.array .int) := ⟨RX11, TX11, 41, tyX11, rfl, by decide, wsin_X11, tb_in 952 (by decide +kernel) (by decide +kernel), tyX11_ok, nmX11, rfl, rfl, by decide +kernel⟩
theorem fpf_X11_52 : FPF RX11 52 11 19 (.array .int) := ⟨RX11, TX11, 41, tyX11, rfl, by decide, wsin_X11, tb_in 953 (by decide +kernel) (by decide +kernel), tyX11_ok, nmX11, rfl, rfl, by decide +kernel⟩
theorem fpf_X11_55 : FPF RX11 55 11 20 (.array .int) := ⟨RX11, TX11, 41, tyX11, rfl, by decide, wsin_X11, tb_in 954 (by decide +kernel) (by decide +kernel), tyX11_ok, nmX11, rfl, rfl, by decide +kernel⟩
theorem fpf_X11_58 : FPF RX11 58 11 24 (.array .int) := ⟨RX11, TX11, 41, tyX11, rfl, by decide, wsin_X11, tb_in 958 (by decide +kernel) (by decide +kernel), tyX11_ok, nmX11, rfl, rfl, by decide +kernel⟩
theorem fpf_X11_61 : FPF RX11 61 11 28 (.array .long) := ⟨RX11, TX11, 41, tyX11, rfl, by decide, wsin_X11, tb_in 962 (by decide +kernel) (by decide +kernel), tyX11_ok, nmX11, rfl, rfl, by decide +kernel⟩
theorem fpf_X11_65 : FPF RX11 65 11 29 (.array .long) := ⟨RX11, TX11, 41, tyX11, rfl, by decide, wsin_X11, tb_in 963 (by decide +kernel) (by decide +kernel), tyX11_ok, nmX11, rfl, rfl, by decide +kernel⟩
theorem fpf_X11_68 : FPF RX11 68 11 30 (.array .int) := ⟨RX11, TX11, 41, tyX11, rfl, by decide, wsin_X11, tb_in 964 (by decide +kernel) (by decide +kernel), tyX11_ok, nmX11, rfl, rfl, by decide +kernel⟩
theorem fpf_X11_7 : FPF RX11 7 11 0 (.array .int) := ⟨RX11, TX11, 41, tyX11, rfl, by decide, wsin_X11, tb_in 934 (by decide +kernel) (by decide +kernel), tyX11_ok, nmX11, rfl, rfl, by decide +kernel⟩
theorem fpf_X11_71 : FPF RX11 71 11 31 (.array .int) := ⟨RX11, TX11, 41, tyX11, rfl, by decide, wsin_X11, tb_in 965 (by decide +kernel) (by decide +kernel), tyX11_ok, nmX11, rfl, rfl, by decide +kernel⟩
theorem fpf_X11_74 : FPF RX11 74 11 32 (.array .int) := ⟨RX11, TX11, 41, tyX11, rfl, by decide, wsin_X11, tb_in 966 (by decide +kernel) (by decide +kernel), tyX11_ok, nmX11, rfl, rfl, by decide +kernel⟩
theorem fpf_X11_77 : FPF RX11 77 11 33 (.array .int) := ⟨RX11, TX11, 41, tyX11, rfl, by decide, wsin_X11, tb_in 967 (by decide +kernel) (by decide +kernel), tyX11_ok, nmX11, rfl, rfl, by decide +kernel⟩
theorem fpf_X11_80 : FPF RX11 80 11 35 (.array .int) := ⟨RX11, TX11, 41, tyX11, rfl, by decide, wsin_X11, tb_in 969 (by decide +kernel) (by decide +kernel), tyX11_ok, nmX11, rfl, rfl, by decide +kernel⟩
theorem fpf_X11_83 : FPF RX11 83 11 36 (.array .long) := ⟨RX11, TX11, 41, tyX11, rfl, by decide, wsin_X11, tb_in 970 (by decide +kernel) (by decide +kernel), tyX11_ok, nmX11, rfl, rfl, by decide +kernel⟩
theorem fpf_X11_86 : FPF RX11 86 11 37 (.array .long) := ⟨RX11, TX11, 41, tyX11, rfl, by decide, wsin_X11, tb_in 971 (by decide +kernel) (by decide +kernel), tyX11_ok, nmX11, rfl, rfl, by decide +kernel⟩
theorem fpf_X11_89 : FPF RX11 89 11 38 (.array .int) := ⟨RX11, TX11, 41, tyX11, rfl, by decide, wsin_X11, tb_in 972 (by decide +kernel) (by decide +kernel), tyX11_ok, nmX11, rfl, rfl, by decide +kernel⟩
theorem fpf_X11_92 : FPF RX11 92 11 39 (.array .int) := ⟨RX11, TX11, 41, tyX11, rfl, by decide, wsin_X11, tb_in 973 (by decide +kernel) (by decide +kernel), tyX11_ok, nmX11, rfl, rfl, by decide +kernel⟩
theorem fpf_X5_20 : FPF RX5 20 5 5 (.array (.object "MarkToBoard$Jumper")) := ⟨RX5, TX5, 10, tyX5, rfl, by decide, wsin_X5, tb_in 272 (by decide +kernel) (by decide +kernel), tyX5_ok, nmX5, rfl, rfl, by decide +kernel⟩
theorem fpf_X5_24 : FPF RX5 24 5 6 (.array .int) := ⟨RX5, TX5, 10, tyX5, rfl, by decide, wsin_X5, tb_in 273 (by decide +kernel) (by decide +kernel), tyX5_ok, nmX5, rfl, rfl, by decide +kernel⟩
theorem fpf_X5_28 : FPF RX5 28 5 7 (.array .int) := ⟨RX5, TX5, 10, tyX5, rfl, by decide, wsin_X5, tb_in 275 (by decide +kernel) (by decide +kernel), tyX5_ok, nmX5, rfl, rfl, by decide +kernel⟩
theorem fpf_X5_31 : FPF RX5 31 5 8 (.array .int) := ⟨RX5, TX5, 10, tyX5, rfl, by decide, wsin_X5, tb_in 276 (by decide +kernel) (by decide +kernel), tyX5_ok, nmX5, rfl, rfl, by decide +kernel⟩
theorem fpf_X5_34 : FPF RX5 34 5 9 (.array .int) := ⟨RX5, TX5, 10, tyX5, rfl, by decide, wsin_X5, tb_in 278 (by decide +kernel) (by decide +kernel), tyX5_ok, nmX5, rfl, rfl, by decide +kernel⟩
theorem fpf_X6_15 : FPF RX6 15 6 2 (.array .int) := ⟨RX6, TX6, 3, tyX6, rfl, by decide, wsin_X6, tb_in 123 (by decide +kernel) (by decide +kernel), tyX6_ok, nmX6, rfl, rfl, by decide +kernel⟩
theorem fpf_X6_9 : FPF RX6 9 6 1 (.array .int) := ⟨RX6, TX6, 3, tyX6, rfl, by decide, wsin_X6, tb_in 122 (by decide +kernel) (by decide +kernel), tyX6_ok, nmX6, rfl, rfl, by decide +kernel⟩
theorem ki_X0 : Cond.instantiable RX0 0 ∈ TB := tb_in 176 (by decide +kernel) (by decide +kernel)
theorem n3_X0 : ∀ k : Nat, (fty 0)[k]? ≠ some 3 := fun k e => by
  have := List.mem_of_getElem? e
  simp [fty, rty] at this
theorem df_X0 : ∀ j : Nat, j < 0 → defaultValue (tyX0 j) = vp_V ((fty 0).map (fun c => dvF (some c))) j := by decide +kernel
theorem wsin_X0 : ∀ w ∈ u_ws RX0 TX0 0, w ∈ TB := fun w h => by simp [u_ws] at h
theorem ki_X1 : Cond.instantiable RX1 5 ∈ TB := tb_in 133 (by decide +kernel) (by decide +kernel)
theorem n3_X1 : ∀ k : Nat, (fty 1)[k]? ≠ some 3 := fun k e => by
  have := List.mem_of_getElem? e
  simp [fty, rty] at this
theorem df_X1 : ∀ j : Nat, j < 5 → defaultValue (tyX1 j) = vp_V ((fty 1).map (fun c => dvF (some c))) j := by decide +kernel
theorem ki_X2 : Cond.instantiable RX2 9 ∈ TB := tb_in 211 (by decide +kernel) (by decide +kernel)
theorem n3_X2 : ∀ k : Nat, (rty 2)[k]? ≠ some 3 := fun k e => by
  have := List.mem_of_getElem? e
  simp [fty, rty] at this
theorem df_X2 : ∀ j : Nat, j < 9 → defaultValue (tyX2 j) = vp_V ((rty 2).map (fun c => dvF (some c))) j := by decide +kernel
theorem ki_X3 : Cond.instantiable RX3 0 ∈ TB := tb_in 162 (by decide +kernel) (by decide +kernel)
theorem n3_X3 : ∀ k : Nat, (fty 3)[k]? ≠ some 3 := fun k e => by
  have := List.mem_of_getElem? e
  simp [fty, rty] at this
theorem df_X3 : ∀ j : Nat, j < 0 → defaultValue (tyX3 j) = vp_V ((fty 3).map (fun c => dvF (some c))) j := by decide +kernel
theorem wsin_X3 : ∀ w ∈ u_ws RX3 TX3 0, w ∈ TB := fun w h => by simp [u_ws] at h
theorem ki_X4 : Cond.instantiable RX4 0 ∈ TB := tb_in 183 (by decide +kernel) (by decide +kernel)
theorem n3_X4 : ∀ k : Nat, (fty 4)[k]? ≠ some 3 := fun k e => by
  have := List.mem_of_getElem? e
  simp [fty, rty] at this
theorem df_X4 : ∀ j : Nat, j < 0 → defaultValue (tyX4 j) = vp_V ((fty 4).map (fun c => dvF (some c))) j := by decide +kernel
theorem wsin_X4 : ∀ w ∈ u_ws RX4 TX4 0, w ∈ TB := fun w h => by simp [u_ws] at h
theorem ki_X5 : Cond.instantiable RX5 10 ∈ TB := tb_in 204 (by decide +kernel) (by decide +kernel)
theorem n3_X5 : ∀ k : Nat, (fty 5)[k]? ≠ some 3 := fun k e => by
  have := List.mem_of_getElem? e
  simp [fty, rty] at this
theorem df_X5 : ∀ j : Nat, j < 10 → defaultValue (tyX5 j) = vp_V ((fty 5).map (fun c => dvF (some c))) j := by decide +kernel
theorem ki_X6 : Cond.instantiable RX6 3 ∈ TB := tb_in 116 (by decide +kernel) (by decide +kernel)
theorem n3_X6 : ∀ k : Nat, (fty 6)[k]? ≠ some 3 := fun k e => by
  have := List.mem_of_getElem? e
  simp [fty, rty] at this
theorem df_X6 : ∀ j : Nat, j < 3 → defaultValue (tyX6 j) = vp_V ((fty 6).map (fun c => dvF (some c))) j := by decide +kernel
theorem ki_X7 : Cond.instantiable RX7 0 ∈ TB := tb_in 169 (by decide +kernel) (by decide +kernel)
theorem n3_X7 : ∀ k : Nat, (fty 7)[k]? ≠ some 3 := fun k e => by
  have := List.mem_of_getElem? e
  simp [fty, rty] at this
theorem df_X7 : ∀ j : Nat, j < 0 → defaultValue (tyX7 j) = vp_V ((fty 7).map (fun c => dvF (some c))) j := by decide +kernel
theorem wsin_X7 : ∀ w ∈ u_ws RX7 TX7 0, w ∈ TB := fun w h => by simp [u_ws] at h
theorem ki_X8 : Cond.instantiable RX8 0 ∈ TB := tb_in 197 (by decide +kernel) (by decide +kernel)
theorem n3_X8 : ∀ k : Nat, (fty 8)[k]? ≠ some 3 := fun k e => by
  have := List.mem_of_getElem? e
  simp [fty, rty] at this
theorem df_X8 : ∀ j : Nat, j < 0 → defaultValue (tyX8 j) = vp_V ((fty 8).map (fun c => dvF (some c))) j := by decide +kernel
theorem wsin_X8 : ∀ w ∈ u_ws RX8 TX8 0, w ∈ TB := fun w h => by simp [u_ws] at h
theorem ki_X9 : Cond.instantiable RX9 0 ∈ TB := tb_in 190 (by decide +kernel) (by decide +kernel)
theorem n3_X9 : ∀ k : Nat, (fty 9)[k]? ≠ some 3 := fun k e => by
  have := List.mem_of_getElem? e
  simp [fty, rty] at this
theorem df_X9 : ∀ j : Nat, j < 0 → defaultValue (tyX9 j) = vp_V ((fty 9).map (fun c => dvF (some c))) j := by decide +kernel
theorem wsin_X9 : ∀ w ∈ u_ws RX9 TX9 0, w ∈ TB := fun w h => by simp [u_ws] at h
theorem kn_X0 : Cond.initialized RX0 ∈ TB := tb_in 95 (by decide +kernel) (by decide +kernel)
theorem kn_X1 : Cond.initialized RX1 ∈ TB := tb_in 92 (by decide +kernel) (by decide +kernel)
theorem kn_X2 : Cond.initialized RX2 ∈ TB := tb_in 100 (by decide +kernel) (by decide +kernel)
theorem kn_X3 : Cond.initialized RX3 ∈ TB := tb_in 93 (by decide +kernel) (by decide +kernel)
theorem kn_X4 : Cond.initialized RX4 ∈ TB := tb_in 96 (by decide +kernel) (by decide +kernel)
theorem kn_X5 : Cond.initialized RX5 ∈ TB := tb_in 99 (by decide +kernel) (by decide +kernel)
theorem kn_X6 : Cond.initialized RX6 ∈ TB := tb_in 91 (by decide +kernel) (by decide +kernel)
theorem kn_X7 : Cond.initialized RX7 ∈ TB := tb_in 94 (by decide +kernel) (by decide +kernel)
theorem kn_X8 : Cond.initialized RX8 ∈ TB := tb_in 98 (by decide +kernel) (by decide +kernel)
theorem kn_X9 : Cond.initialized RX9 ∈ TB := tb_in 97 (by decide +kernel) (by decide +kernel)
theorem kc_X1_24 : Cond.constantLong RX1 24 (2) ∈ TB := tb_in 140 (by decide +kernel) (by decide +kernel)
theorem mj_X10_34 : Cond.methodLink RX10 34 yX1_init ∈ TB := tb_in 134 (by decide +kernel) (by decide +kernel)
theorem mj_X10_69 : Cond.methodLink RX10 69 yX5_init ∈ TB := tb_in 205 (by decide +kernel) (by decide +kernel)
theorem mj_X10_84 : Cond.methodLink RX10 84 yX2_init ∈ TB := tb_in 301 (by decide +kernel) (by decide +kernel)
theorem mj_X5_37 : Cond.methodLink RX5 37 yX2_init ∈ TB := tb_in 212 (by decide +kernel) (by decide +kernel)
theorem mo_X1_3 : Cond.methodLink RX1 3 Lib.objectInit ∈ TB := tb_in 137 (by decide +kernel) (by decide +kernel)
theorem mo_X10_1 : Cond.methodLink RX10 1 Lib.objectInit ∈ TB := tb_in 110 (by decide +kernel) (by decide +kernel)
theorem mo_X11_1 : Cond.methodLink RX11 1 Lib.objectInit ∈ TB := tb_in 933 (by decide +kernel) (by decide +kernel)
theorem mo_X2_1 : Cond.methodLink RX2 1 Lib.objectInit ∈ TB := tb_in 215 (by decide +kernel) (by decide +kernel)
theorem mo_X3_1 : Cond.methodLink RX3 1 Lib.objectInit ∈ TB := tb_in 166 (by decide +kernel) (by decide +kernel)
theorem mo_X5_3 : Cond.methodLink RX5 3 Lib.objectInit ∈ TB := tb_in 208 (by decide +kernel) (by decide +kernel)
theorem mo_X6_3 : Cond.methodLink RX6 3 Lib.objectInit ∈ TB := tb_in 120 (by decide +kernel) (by decide +kernel)
theorem wf_one {s : Shp} {K : Nat} {tl : List FieldType} (hs : s ≠ .inr 2) : WFs ([s], (fun _ _ => none), K, tl) := by
  refine ⟨fun o k b e => (by cases e), fun o e => ?_⟩
  have h1 := List.mem_of_getElem? e
  have h2 : (Sum.inr 2 : Shp) = s := by simpa using h1
  exact absurd h2.symm hs
def kxN : List (String × Nat × MethodName × String) := [(RX0, 1, yX3_init, "MarkToBoard"), (RX10, 27, yX6_init, "MarkToBoard"), (RX10, 51, yX3_init, "MarkToBoard"), (RX10, 54, yX7_init, "MarkToBoard"), (RX10, 57, yX0_init, "MarkToBoard"), (RX10, 60, yX4_init, "MarkToBoard"), (RX10, 63, yX9_init, "MarkToBoard"), (RX10, 66, yX8_init, "MarkToBoard"), (RX4, 1, yX7_init, "MarkToBoard"), (RX7, 1, yX3_init, "MarkToBoard"), (RX8, 1, yX4_init, "MarkToBoard"), (RX9, 1, yX0_init, "MarkToBoard")]
def kxC : List (String × String) := [(RX7, "MarkToBoard$Kind"), (RX0, "MarkToBoard$Kind"), (RX4, "MarkToBoard$Kind"), (RX9, "MarkToBoard$Kind"), (RX8, "MarkToBoard$Kind")]
/-- what holds of the tables besides, all along -/
def KX (U : State) : Prop := va_AO "MarkToBoard$Kind" U ∧ va_AO "MarkToBoard$Jumper" U ∧ va_AOA .long U ∧ (∀ q ∈ kxN, va_Nw (.methodLinkNest q.1 q.2.1 q.2.2.1 q.2.2.2) U) ∧ (∀ q ∈ kxC, va_Nw (.castable q.1 q.2) U)
theorem va_AOA.spec {ty : FieldType} {U : State} (h : va_AOA ty U) : ∃ comp c k, U.vm.findClass (FieldType.array ty).toString = some comp ∧ (U.vm.classes.findIdx? fun x => match x.kind with | .array component _ => component == comp | _ => false) = some c ∧ U.vm.classes[c]? = some k ∧ k.kind = .array comp (.array ty) ∧ U.vm.findClass ("[" ++ (FieldType.array ty).toString) = some c := by
  have h : (Cond.arrayOver (.array ty)).holds #[] U none U [] = true := h
  simp only [Cond.holds, Cond.value, beq_iff_eq] at h
  cases hc : U.vm.findClass (FieldType.array ty).toString with
  | none => simp [hc] at h
  | some comp =>
    simp only [hc, Option.bind_some, Option.bind_eq_some_iff, Option.map_eq_some_iff] at h
    obtain ⟨c, hi, k, hk, hb⟩ := h
    obtain ⟨hlt, hp, -⟩ := Array.findIdx?_eq_some_iff_getElem.mp hi
    have hkk : U.vm.classes[c] = k := (Array.getElem?_eq_some_iff.mp hk).2
    rw [hkk] at hp
    cases hkind : k.kind with
    | array component t =>
      rw [hkind] at hb hp
      simp at hb hp
      exact ⟨comp, c, k, rfl, hi, hk, by rw [hkind, hp, hb.1], hb.2⟩
    | _ => rw [hkind] at hb; simp at hb
theorem va_AOA.moved {ty : FieldType} {u U : State} (hvm : u.vm.Alike U.vm) (h : va_AOA ty u) : va_AOA ty U := by
  obtain ⟨comp, c, k, h1, h2, h3, h4, h5⟩ := va_AOA.spec h
  obtain ⟨k', hk', he⟩ := hvm.2.2 _ _ h3
  have hi : (U.vm.classes.findIdx? fun (x : Class) => match x.kind with | .array component _ => component == comp | _ => false) = some c := by
    refine (va_idx_bare (vm := U.vm) (comp := comp)).symm.trans ?_
    have hb : U.vm.bare = u.vm.bare := by first | exact hvm.bare_eq | exact hvm.bare_eq.symm
    rw [hb]
    exact (va_idx_bare (vm := u.vm) (comp := comp)).trans h2
  have hkind : k'.kind = .array comp (.array ty) := by rw [he]; exact h4
  have f1 : U.vm.findClass (FieldType.array ty).toString = some comp := by rw [hvm.findClass]; exact h1
  have f2 : U.vm.findClass ("[" ++ (FieldType.array ty).toString) = some c := by rw [hvm.findClass]; exact h5
  unfold va_AOA Cond.before Cond.holds
  simp only [Cond.value]
  rw [f1, Option.bind_some]
  refine (congrArg (fun o : Option Nat => (o.bind (fun c => (U.vm.classes[c]?).map fun (k : Class) => match k.kind with | .array _ t => decide (t = FieldType.array ty) && decide (U.vm.findClass ("[" ++ (FieldType.array ty).toString) = some c) | _ => false) == some true)) hi).trans ?_
  simp [hk', hkind, f2]
theorem kx_m : ∀ u U : State, u.WarmedH U.vm → KX u → KX U := fun u U hW h => ⟨va_AO.moved hW.alike h.1, va_AO.moved hW.alike h.2.1, va_AOA.moved hW.alike h.2.2.1, fun q hq => va_Nw.warmM hW (h.2.2.2.1 q hq), fun q hq => va_Nw.warmC hW (h.2.2.2.2 q hq)⟩
theorem kx_b : ∀ (a : Array Value) (U : State) (g : JFrame) (mk : MethodId), KX U → KX (U.calling g mk a) := fun a U g mk h => ⟨va_AO.moved (Vm.Alike.refl U.vm) h.1, va_AO.moved (Vm.Alike.refl U.vm) h.2.1, va_AOA.moved (Vm.Alike.refl U.vm) h.2.2.1, fun q hq => va_Nw.same rfl rfl (h.2.2.2.1 q hq), fun q hq => va_Nw.same rfl rfl (h.2.2.2.2 q hq)⟩
theorem kx_X0_1 : (RX0, 1, yX3_init, "MarkToBoard") ∈ kxN := List.mem_of_getElem? (i := 0) rfl
theorem kx_X10_27 : (RX10, 27, yX6_init, "MarkToBoard") ∈ kxN := List.mem_of_getElem? (i := 1) rfl
theorem kx_X10_51 : (RX10, 51, yX3_init, "MarkToBoard") ∈ kxN := List.mem_of_getElem? (i := 2) rfl
theorem kx_X10_54 : (RX10, 54, yX7_init, "MarkToBoard") ∈ kxN := List.mem_of_getElem? (i := 3) rfl
theorem kx_X10_57 : (RX10, 57, yX0_init, "MarkToBoard") ∈ kxN := List.mem_of_getElem? (i := 4) rfl
theorem kx_X10_60 : (RX10, 60, yX4_init, "MarkToBoard") ∈ kxN := List.mem_of_getElem? (i := 5) rfl
theorem kx_X10_63 : (RX10, 63, yX9_init, "MarkToBoard") ∈ kxN := List.mem_of_getElem? (i := 6) rfl
theorem kx_X10_66 : (RX10, 66, yX8_init, "MarkToBoard") ∈ kxN := List.mem_of_getElem? (i := 7) rfl
theorem kx_X4_1 : (RX4, 1, yX7_init, "MarkToBoard") ∈ kxN := List.mem_of_getElem? (i := 8) rfl
theorem kx_X7_1 : (RX7, 1, yX3_init, "MarkToBoard") ∈ kxN := List.mem_of_getElem? (i := 9) rfl
theorem kx_X8_1 : (RX8, 1, yX4_init, "MarkToBoard") ∈ kxN := List.mem_of_getElem? (i := 10) rfl
theorem kx_X9_1 : (RX9, 1, yX0_init, "MarkToBoard") ∈ kxN := List.mem_of_getElem? (i := 11) rfl
theorem as_X7 {X : MCx} (h : KX (xS X)) : AsgOk X RX7 "MarkToBoard$Kind" := fun c e h1 h2 => vb_asgC (h.2.2.2.2 (RX7, "MarkToBoard$Kind") (List.mem_of_getElem? (i := 0) rfl)) e c h2 h1
theorem as_X0 {X : MCx} (h : KX (xS X)) : AsgOk X RX0 "MarkToBoard$Kind" := fun c e h1 h2 => vb_asgC (h.2.2.2.2 (RX0, "MarkToBoard$Kind") (List.mem_of_getElem? (i := 1) rfl)) e c h2 h1
theorem as_X4 {X : MCx} (h : KX (xS X)) : AsgOk X RX4 "MarkToBoard$Kind" := fun c e h1 h2 => vb_asgC (h.2.2.2.2 (RX4, "MarkToBoard$Kind") (List.mem_of_getElem? (i := 2) rfl)) e c h2 h1
theorem as_X9 {X : MCx} (h : KX (xS X)) : AsgOk X RX9 "MarkToBoard$Kind" := fun c e h1 h2 => vb_asgC (h.2.2.2.2 (RX9, "MarkToBoard$Kind") (List.mem_of_getElem? (i := 3) rfl)) e c h2 h1
theorem as_X8 {X : MCx} (h : KX (xS X)) : AsgOk X RX8 "MarkToBoard$Kind" := fun c e h1 h2 => vb_asgC (h.2.2.2.2 (RX8, "MarkToBoard$Kind") (List.mem_of_getElem? (i := 4) rfl)) e c h2 h1
theorem as_X3 {X : MCx} (_ : KX (xS X)) : AsgOk X RX3 "MarkToBoard$Kind" := fun c e h1 h2 => by
  have e1 : c = e := Option.some.inj (h1.symm.trans h2)
  subst e1
  unfold Vm.assignable Vm.assignableAux
  simp
theorem as_X2 {X : MCx} (_ : KX (xS X)) : AsgOk X RX2 "MarkToBoard$Jumper" := fun c e h1 h2 => by
  have e1 : c = e := Option.some.inj (h1.symm.trans h2)
  subst e1
  unfold Vm.assignable Vm.assignableAux
  simp
theorem aw_aaldI {X : MCx} {cc : ByteArray} {own : String} {nL : Nat} {ret : Option FieldType} {rm : Room} {Z : Stc} {yd : Dyn} {A : Nat → Prop} {k n a t N : Nat} {α : Type} {Qf : α → AH → State → Prop} {pc : Nat} {lv : List (Nat × Value)} {st : List Value} {h : AH} {o : Option (α × AH)} (C : OK X cc own nL ret rm A) {i : Int32} {b : Nat} {ty : FieldType} (d : decode cc pc = .ok (.aaload, 1)) (hs : Z.1[a]? = some (.inl (t, 2, N))) (ht : Z.2.2.2[t]? = some ty) (hty : ty.isReference = true) (hr : i.toNatClampNeg < N → Z.2.1 a i.toNatClampNeg = some b) (q : AW X nL Z yd A k n Qf (pc + 1) lv (.ref b :: st) h o) : AW X nL Z yd A k n Qf pc lv (.int i :: .ref a :: st) h (ck i N o) := by
  by_cases hi : i < 0 ∨ N ≤ i.toNatClampNeg
  · unfold ck
    rw [if_pos hi]
    exact aw_none
  · exact aw_aald C d hs ht hty (hr (Nat.not_le.mp fun z => hi (Or.inr z))) q
