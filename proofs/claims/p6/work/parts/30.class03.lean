abbrev rmX10_comes : Room := { frames := 5, cells := 0, slots := 0, locals := 138 }
def X10_comes (v1 : Int32) (h : AH) : Option (Int32 × AH) :=
    ck v1 96 (vl (h.1 2 v1.toNatClampNeg) fun y1 =>
    if y1 = 102 then (bd (X10_tryComes (-9) h) fun r2 h3 =>
    cz r2 (some (r2, h3)))
    else if y1 = 103 then (bd (X10_number (v1 + 1) 1 h) fun r5 h6 =>
    bd (X10_goOnComes r5 h6) fun r7 h8 =>
    cz r7 (some (r7, h8)))
    else if y1 = 106 then (bd (X10_jumperComes v1 h) fun r10 h11 =>
    cz r10 (some (r10, h11)))
    else if y1 = 110 then (bd (X10_number (v1 + 1) 2 h) fun r13 h14 =>
    bd (X10_stridesCome r13 h14) fun r15 h16 =>
    cz r15 (some (r15, h16)))
    else if y1 = 112 then (bd (X10_tryComes (-8) h) fun r18 h19 =>
    cz r18 (some (r18, h19)))
    else if y1 = 116 then (bd (X10_number (v1 + 1) 2 h) fun r21 h22 =>
    bd (X10_tryComes r21 h22) fun r23 h24 =>
    cz r23 (some (r23, h24)))
    else if y1 = 119 then (bd (X10_isMinus (v1 + 1) h) fun r26 h27 =>
    bd (X10_number (v1 + 2) 1 h27) fun r28 h29 =>
    bd (X10_windComes r26 r28 h29) fun r30 h31 =>
    cz r30 (some (r30, h31)))
    else (cz 0 (some (0, h))))
set_option maxRecDepth 100000 in
theorem c_X10_comes (l : Launch) (v1 : Int32) : MC l yX10_comes cX10_comes 2 (some .boolean) rmX10_comes ZC [.ref 0, .int v1] rvI (X10_comes v1) :=
  MC.of (own := RX10) (by decide +kernel) rfl (Nat.le_of_ble_eq_true rfl) fun X yd A h _ C =>
    aw_aload_n (pc := 0) C (i := 0) dX10_comes_0 rfl rfl <|
    aw_getR (pc := 1) C (b := 2) dX10_comes_1 fl_X10_15 sC_0 rfl rC_0_5 <|
    aw_iload_n (pc := 4) C (i := 1) dX10_comes_4 rfl rfl <|
    aw_iald (pc := 5) C dX10_comes_5 sC_2 rfl <|
    aw_vlI fun y1 =>
    aw_if (fun c4 => aw_tswA (pc := 6) C (off := 151) (tg := 157) 102 dX10_comes_6 (by rw [c4]; rfl) (by decide) (by decide) rfl rfl (aw_aload_n (pc := 157) C (i := 0) dX10_comes_157 rfl rfl <|
    aw_bipush (pc := 158) C (v := (-9)) dX10_comes_158 rfl <|
    aw_callF (pc := 160) C (cr_V (rest := []) (F := (X10_tryComes (-9))) C (c_X10_tryComes X.2.1 (-9)) dX10_comes_160 mf_X10_tryComes ml_X10_154 im_X10_tryComes se_X10_tryComes sC_0 rfl ⟨(Nat.le_of_ble_eq_true rfl), (Nat.le_of_ble_eq_true rfl)⟩ rfl rfl (Nat.le_of_ble_eq_true rfl)) rfl rfl rfl (Nat.zero_le _) (Nat.zero_le _) fun r2 h3 =>
    aw_zret (pc := 163) C dX10_comes_163 rfl rfl)) (fun c4 =>
    aw_if (fun c9 => aw_tswA (pc := 6) C (off := 119) (tg := 125) 103 dX10_comes_6 (by rw [c9]; rfl) (by decide) (by decide) rfl rfl (aw_aload_n (pc := 125) C (i := 0) dX10_comes_125 rfl rfl <|
    aw_aload_n (pc := 126) C (i := 0) dX10_comes_126 rfl rfl <|
    aw_iload_n (pc := 127) C (i := 1) dX10_comes_127 rfl rfl <|
    aw_iconst (pc := 128) C (v := 1) dX10_comes_128 rfl <|
    aw_iadd (pc := 129) C dX10_comes_129 <|
    aw_iconst (pc := 130) C (v := 1) dX10_comes_130 rfl <|
    aw_callF (pc := 131) C (cr_V (rest := [.ref 0]) (F := (X10_number (v1 + 1) 1)) C (c_X10_number X.2.1 (v1 + 1) 1) dX10_comes_131 mf_X10_number ml_X10_135 im_X10_number se_X10_number sC_0 rfl ⟨(Nat.le_of_ble_eq_true rfl), (Nat.le_of_ble_eq_true rfl)⟩ rfl rfl (Nat.le_of_ble_eq_true rfl)) rfl rfl rfl (Nat.zero_le _) (Nat.zero_le _) fun r5 h6 =>
    aw_callF (pc := 134) C (cr_V (rest := []) (F := (X10_goOnComes r5)) C (c_X10_goOnComes X.2.1 r5) dX10_comes_134 mf_X10_goOnComes ml_X10_148 im_X10_goOnComes se_X10_goOnComes sC_0 rfl ⟨(Nat.le_of_ble_eq_true rfl), (Nat.le_of_ble_eq_true rfl)⟩ rfl rfl (Nat.le_of_ble_eq_true rfl)) rfl rfl rfl (Nat.zero_le _) (Nat.zero_le _) fun r7 h8 =>
    aw_zret (pc := 137) C dX10_comes_137 rfl rfl)) (fun c9 =>
    aw_if (fun c12 => aw_tswA (pc := 6) C (off := 132) (tg := 138) 106 dX10_comes_6 (by rw [c12]; rfl) (by decide) (by decide) rfl rfl (aw_aload_n (pc := 138) C (i := 0) dX10_comes_138 rfl rfl <|
    aw_iload_n (pc := 139) C (i := 1) dX10_comes_139 rfl rfl <|
    aw_callF (pc := 140) C (cr_V (rest := []) (F := (X10_jumperComes v1)) C (c_X10_jumperComes X.2.1 v1) dX10_comes_140 mf_X10_jumperComes ml_X10_151 im_X10_jumperComes se_X10_jumperComes sC_0 rfl ⟨(Nat.le_of_ble_eq_true rfl), (Nat.le_of_ble_eq_true rfl)⟩ rfl rfl (Nat.le_of_ble_eq_true rfl)) rfl rfl rfl (Nat.zero_le _) (Nat.zero_le _) fun r10 h11 =>
    aw_zret (pc := 143) C dX10_comes_143 rfl rfl)) (fun c12 =>
    aw_if (fun c17 => aw_tswA (pc := 6) C (off := 86) (tg := 92) 110 dX10_comes_6 (by rw [c17]; rfl) (by decide) (by decide) rfl rfl (aw_aload_n (pc := 92) C (i := 0) dX10_comes_92 rfl rfl <|
    aw_aload_n (pc := 93) C (i := 0) dX10_comes_93 rfl rfl <|
    aw_iload_n (pc := 94) C (i := 1) dX10_comes_94 rfl rfl <|
    aw_iconst (pc := 95) C (v := 1) dX10_comes_95 rfl <|
    aw_iadd (pc := 96) C dX10_comes_96 <|
    aw_iconst (pc := 97) C (v := 2) dX10_comes_97 rfl <|
    aw_callF (pc := 98) C (cr_V (rest := [.ref 0]) (F := (X10_number (v1 + 1) 2)) C (c_X10_number X.2.1 (v1 + 1) 2) dX10_comes_98 mf_X10_number ml_X10_135 im_X10_number se_X10_number sC_0 rfl ⟨(Nat.le_of_ble_eq_true rfl), (Nat.le_of_ble_eq_true rfl)⟩ rfl rfl (Nat.le_of_ble_eq_true rfl)) rfl rfl rfl (Nat.zero_le _) (Nat.zero_le _) fun r13 h14 =>
    aw_callF (pc := 101) C (cr_V (rest := []) (F := (X10_stridesCome r13)) C (c_X10_stridesCome X.2.1 r13) dX10_comes_101 mf_X10_stridesCome ml_X10_138 im_X10_stridesCome se_X10_stridesCome sC_0 rfl ⟨(Nat.le_of_ble_eq_true rfl), (Nat.le_of_ble_eq_true rfl)⟩ rfl rfl (Nat.le_of_ble_eq_true rfl)) rfl rfl rfl (Nat.zero_le _) (Nat.zero_le _) fun r15 h16 =>
    aw_zret (pc := 104) C dX10_comes_104 rfl rfl)) (fun c17 =>
    aw_if (fun c20 => aw_tswA (pc := 6) C (off := 158) (tg := 164) 112 dX10_comes_6 (by rw [c20]; rfl) (by decide) (by decide) rfl rfl (aw_aload_n (pc := 164) C (i := 0) dX10_comes_164 rfl rfl <|
    aw_bipush (pc := 165) C (v := (-8)) dX10_comes_165 rfl <|
    aw_callF (pc := 167) C (cr_V (rest := []) (F := (X10_tryComes (-8))) C (c_X10_tryComes X.2.1 (-8)) dX10_comes_167 mf_X10_tryComes ml_X10_154 im_X10_tryComes se_X10_tryComes sC_0 rfl ⟨(Nat.le_of_ble_eq_true rfl), (Nat.le_of_ble_eq_true rfl)⟩ rfl rfl (Nat.le_of_ble_eq_true rfl)) rfl rfl rfl (Nat.zero_le _) (Nat.zero_le _) fun r18 h19 =>
    aw_zret (pc := 170) C dX10_comes_170 rfl rfl)) (fun c20 =>
    aw_if (fun c25 => aw_tswA (pc := 6) C (off := 138) (tg := 144) 116 dX10_comes_6 (by rw [c25]; rfl) (by decide) (by decide) rfl rfl (aw_aload_n (pc := 144) C (i := 0) dX10_comes_144 rfl rfl <|
    aw_aload_n (pc := 145) C (i := 0) dX10_comes_145 rfl rfl <|
    aw_iload_n (pc := 146) C (i := 1) dX10_comes_146 rfl rfl <|
    aw_iconst (pc := 147) C (v := 1) dX10_comes_147 rfl <|
    aw_iadd (pc := 148) C dX10_comes_148 <|
    aw_iconst (pc := 149) C (v := 2) dX10_comes_149 rfl <|
    aw_callF (pc := 150) C (cr_V (rest := [.ref 0]) (F := (X10_number (v1 + 1) 2)) C (c_X10_number X.2.1 (v1 + 1) 2) dX10_comes_150 mf_X10_number ml_X10_135 im_X10_number se_X10_number sC_0 rfl ⟨(Nat.le_of_ble_eq_true rfl), (Nat.le_of_ble_eq_true rfl)⟩ rfl rfl (Nat.le_of_ble_eq_true rfl)) rfl rfl rfl (Nat.zero_le _) (Nat.zero_le _) fun r21 h22 =>
    aw_callF (pc := 153) C (cr_V (rest := []) (F := (X10_tryComes r21)) C (c_X10_tryComes X.2.1 r21) dX10_comes_153 mf_X10_tryComes ml_X10_154 im_X10_tryComes se_X10_tryComes sC_0 rfl ⟨(Nat.le_of_ble_eq_true rfl), (Nat.le_of_ble_eq_true rfl)⟩ rfl rfl (Nat.le_of_ble_eq_true rfl)) rfl rfl rfl (Nat.zero_le _) (Nat.zero_le _) fun r23 h24 =>
    aw_zret (pc := 156) C dX10_comes_156 rfl rfl)) (fun c25 =>
    aw_if (fun c32 => aw_tswA (pc := 6) C (off := 99) (tg := 105) 119 dX10_comes_6 (by rw [c32]; rfl) (by decide) (by decide) rfl rfl (aw_aload_n (pc := 105) C (i := 0) dX10_comes_105 rfl rfl <|
    aw_aload_n (pc := 106) C (i := 0) dX10_comes_106 rfl rfl <|
    aw_iload_n (pc := 107) C (i := 1) dX10_comes_107 rfl rfl <|
    aw_iconst (pc := 108) C (v := 1) dX10_comes_108 rfl <|
    aw_iadd (pc := 109) C dX10_comes_109 <|
    aw_callF (pc := 110) C (cr_V (rest := [.ref 0]) (F := (X10_isMinus (v1 + 1))) C (c_X10_isMinus X.2.1 (v1 + 1)) dX10_comes_110 mf_X10_isMinus ml_X10_141 im_X10_isMinus se_X10_isMinus sC_0 rfl ⟨(Nat.le_of_ble_eq_true rfl), (Nat.le_of_ble_eq_true rfl)⟩ rfl rfl (Nat.le_of_ble_eq_true rfl)) rfl rfl rfl (Nat.zero_le _) (Nat.zero_le _) fun r26 h27 =>
    aw_aload_n (pc := 113) C (i := 0) dX10_comes_113 rfl rfl <|
    aw_iload_n (pc := 114) C (i := 1) dX10_comes_114 rfl rfl <|
    aw_iconst (pc := 115) C (v := 2) dX10_comes_115 rfl <|
    aw_iadd (pc := 116) C dX10_comes_116 <|
    aw_iconst (pc := 117) C (v := 1) dX10_comes_117 rfl <|
    aw_callF (pc := 118) C (cr_V (rest := [.int r26, .ref 0]) (F := (X10_number (v1 + 2) 1)) C (c_X10_number X.2.1 (v1 + 2) 1) dX10_comes_118 mf_X10_number ml_X10_135 im_X10_number se_X10_number sC_0 rfl ⟨(Nat.le_of_ble_eq_true rfl), (Nat.le_of_ble_eq_true rfl)⟩ rfl rfl (Nat.le_of_ble_eq_true rfl)) rfl rfl rfl (Nat.zero_le _) (Nat.zero_le _) fun r28 h29 =>
    aw_callF (pc := 121) C (cr_V (rest := []) (F := (X10_windComes r26 r28)) C (c_X10_windComes X.2.1 r26 r28) dX10_comes_121 mf_X10_windComes ml_X10_144 im_X10_windComes se_X10_windComes sC_0 rfl ⟨(Nat.le_of_ble_eq_true rfl), (Nat.le_of_ble_eq_true rfl)⟩ rfl rfl (Nat.le_of_ble_eq_true rfl)) rfl rfl rfl (Nat.zero_le _) (Nat.zero_le _) fun r30 h31 =>
    aw_zret (pc := 124) C dX10_comes_124 rfl rfl)) (fun c32 =>
    aw_tswD (pc := 6) C (N := 18) (td := 171) [102, 103, 106, 110, 112, 116, 119] dX10_comes_6 (List.forall_mem_cons.mpr ⟨ti_ne c4 rfl, List.forall_mem_cons.mpr ⟨ti_ne c9 rfl, List.forall_mem_cons.mpr ⟨ti_ne c12 rfl, List.forall_mem_cons.mpr ⟨ti_ne c17 rfl, List.forall_mem_cons.mpr ⟨ti_ne c20 rfl, List.forall_mem_cons.mpr ⟨ti_ne c25 rfl, List.forall_mem_cons.mpr ⟨ti_ne c32 rfl, fun _ hz => by cases hz⟩⟩⟩⟩⟩⟩⟩) rfl (by decide) rfl (aw_iconst (pc := 171) C (v := 0) dX10_comes_171 rfl <|
    aw_zret (pc := 172) C dX10_comes_172 rfl rfl))))))))

abbrev rmX10_span : Room := { frames := 1, cells := 0, slots := 0, locals := 20 }
def X10_span_j14  (v0 : Int32) (s0 : Int32) (h : AH) : Option (Int32 × AH) :=
    if v0 = 119 then (some ((s0 + 3), h))
    else (some ((s0 + 2), h))
set_option maxRecDepth 100000 in
theorem aX10_span_j14 {X : MCx} {yd : Dyn} {A : Nat → Prop} (C : OK X cX10_span RX10 2 (some .int) rmX10_span A)  (v0 : Int32) (s0 : Int32) (h : AH) : AW X 2 ZC yd A 0 0 (QF X rmX10_span ZC yd rvI A) 14 [(0, .int v0)] [.int s0] h (X10_span_j14 v0 s0 h) := by
    exact aw_iload_n (pc := 14) C (i := 0) dX10_span_14 rfl rfl <|
    aw_bipush (pc := 15) C (v := 119) dX10_span_15 rfl <|
    aw_icmp_ne (pc := 17) C (tgt := 24) dX10_span_17 rfl (fun _ =>
    aw_iconst (pc := 20) C (v := 3) dX10_span_20 rfl <|
    aw_goto (pc := 21) C (tgt := 25) dX10_span_21 rfl <|
    aw_iadd (pc := 25) C dX10_span_25 <|
    aw_iret (pc := 26) C dX10_span_26 rfl rfl) (fun _ =>
    aw_iconst (pc := 24) C (v := 2) dX10_span_24 rfl <|
    aw_iadd (pc := 25) C dX10_span_25 <|
    aw_iret (pc := 26) C dX10_span_26 rfl rfl)
def X10_span (v0 : Int32) (h : AH) : Option (Int32 × AH) :=
    bd (X10_digitsBehind v0 h) fun r1 h2 =>
    if 0 ≤ r1 then (X10_span_j14 v0 r1 h2)
    else (X10_span_j14 v0 0 h2)
set_option maxRecDepth 100000 in
theorem c_X10_span (l : Launch) (v0 : Int32) : MC l yX10_span cX10_span 2 (some .int) rmX10_span ZC [.int v0] rvI (X10_span v0) :=
  MC.of (own := RX10) (by decide +kernel) rfl (Nat.le_of_ble_eq_true rfl) fun X yd A h _ C =>
    aw_iload_n (pc := 0) C (i := 0) dX10_span_0 rfl rfl <|
    aw_callF (pc := 1) C (cr_S (rest := []) (F := (X10_digitsBehind v0)) C (c_X10_digitsBehind X.2.1 v0) dX10_span_1 mf_X10_digitsBehind ml_X10_125 st_X10_digitsBehind ⟨(Nat.le_of_ble_eq_true rfl), (Nat.le_of_ble_eq_true rfl)⟩ rfl rfl (Nat.le_of_ble_eq_true rfl)) rfl rfl rfl (Nat.zero_le _) (Nat.zero_le _) fun r1 h2 =>
    aw_istore_n (pc := 4) C (i := 1) (lv' := [(0, .int v0), (1, .int r1)]) dX10_span_4 rfl (by decide) rfl <|
    aw_iload_n (pc := 5) C (i := 1) dX10_span_5 rfl rfl <|
    aw_if_ge (pc := 6) C (tgt := 13) dX10_span_6 rfl (fun _ =>
    aw_iload_n (pc := 13) C (i := 1) dX10_span_13 rfl rfl <|
    aw_drop [0] (aX10_span_j14 C v0 r1 h2)) (fun _ =>
    aw_iconst (pc := 9) C (v := 0) dX10_span_9 rfl <|
    aw_goto (pc := 10) C (tgt := 14) dX10_span_10 rfl <|
    aw_drop [0] (aX10_span_j14 C v0 0 h2))

abbrev rmX10_statementsInMind : Room := { frames := 6, cells := 0, slots := 0, locals := 159 }
def X10_statementsInMind_l15  : Nat → Int32 → Int32 → AH → Option (Int32 × AH)
  | 0, _, _, _ => none
  | n + 1, v1, v2, h =>
    if (h.1 0 6) ≤ v2 then (some (v1, h))
    else (bd (X10_comes v2 h) fun r3 h4 =>
    if r3 = 0 then (some (((-2000) - v2), h4))
    else (vl (v1 + 1) fun x5 =>
    ck v2 96 (bd (X10_span (h4.1 2 v2.toNatClampNeg) h4) fun r6 h7 =>
    vl (v2 + r6) fun x8 =>
    (X10_statementsInMind_l15 n) x5 x8 h7)))
set_option maxRecDepth 100000 in
theorem aX10_statementsInMind_l15 {X : MCx} {yd : Dyn} {A : Nat → Prop} (C : OK X cX10_statementsInMind RX10 3 (some .int) rmX10_statementsInMind A)  : ∀ (n : Nat) (v1 : Int32) (v2 : Int32) (h : AH), AW X 3 ZC yd A 0 0 (QF X rmX10_statementsInMind ZC yd rvI A) 15 [(0, .ref 0), (1, .int v1), (2, .int v2)] [] h (X10_statementsInMind_l15 n v1 v2 h) := by
  intro n
  induction n with
  | zero => intro v1 v2 h; exact aw_none
  | succ n ih =>
    intro v1 v2 h
    exact aw_iload_n (pc := 15) C (i := 2) dX10_statementsInMind_15 rfl rfl <|
    aw_aload_n (pc := 16) C (i := 0) dX10_statementsInMind_16 rfl rfl <|
    aw_getI (pc := 17) C dX10_statementsInMind_17 fl_X10_108 sC_0 rfl <|
    aw_icmp_ge (pc := 20) C (tgt := 55) dX10_statementsInMind_20 rfl (fun _ =>
    aw_iload_n (pc := 55) C (i := 1) dX10_statementsInMind_55 rfl rfl <|
    aw_iret (pc := 56) C dX10_statementsInMind_56 rfl rfl) (fun _ =>
    aw_aload_n (pc := 23) C (i := 0) dX10_statementsInMind_23 rfl rfl <|
    aw_iload_n (pc := 24) C (i := 2) dX10_statementsInMind_24 rfl rfl <|
    aw_callF (pc := 25) C (cr_V (rest := []) (F := (X10_comes v2)) C (c_X10_comes X.2.1 v2) dX10_statementsInMind_25 mf_X10_comes ml_X10_128 im_X10_comes se_X10_comes sC_0 rfl ⟨(Nat.le_of_ble_eq_true rfl), (Nat.le_of_ble_eq_true rfl)⟩ rfl rfl (Nat.le_of_ble_eq_true rfl)) rfl rfl rfl (Nat.zero_le _) (Nat.zero_le _) fun r3 h4 =>
    aw_if_ne (pc := 28) C (tgt := 37) dX10_statementsInMind_28 rfl (fun _ =>
    aw_sipush (pc := 31) C (v := (-2000)) dX10_statementsInMind_31 rfl <|
    aw_iload_n (pc := 34) C (i := 2) dX10_statementsInMind_34 rfl rfl <|
    aw_isub (pc := 35) C dX10_statementsInMind_35 <|
    aw_iret (pc := 36) C dX10_statementsInMind_36 rfl rfl) (fun _ =>
    aw_iincV (pc := 37) C (i := 1) (cst := 1) (fun x5 => [(0, .ref 0), (1, .int x5), (2, .int v2)]) dX10_statementsInMind_37 rfl rfl (by decide) (fun _ => rfl) fun x5 =>
    aw_iload_n (pc := 40) C (i := 2) dX10_statementsInMind_40 rfl rfl <|
    aw_aload_n (pc := 41) C (i := 0) dX10_statementsInMind_41 rfl rfl <|
    aw_getR (pc := 42) C (b := 2) dX10_statementsInMind_42 fl_X10_15 sC_0 rfl rC_0_5 <|
    aw_iload_n (pc := 45) C (i := 2) dX10_statementsInMind_45 rfl rfl <|
    aw_iald (pc := 46) C dX10_statementsInMind_46 sC_2 rfl <|
    aw_callF (pc := 47) C (cr_S (rest := [.int v2]) (F := (X10_span (h4.1 2 v2.toNatClampNeg))) C (c_X10_span X.2.1 (h4.1 2 v2.toNatClampNeg)) dX10_statementsInMind_47 mf_X10_span ml_X10_132 st_X10_span ⟨(Nat.le_of_ble_eq_true rfl), (Nat.le_of_ble_eq_true rfl)⟩ rfl rfl (Nat.le_of_ble_eq_true rfl)) rfl rfl rfl (Nat.zero_le _) (Nat.zero_le _) fun r6 h7 =>
    aw_iadd (pc := 50) C dX10_statementsInMind_50 <|
    aw_istoreV_n (pc := 51) C (i := 2) (fun x8 => [(0, .ref 0), (1, .int x5), (2, .int x8)]) dX10_statementsInMind_51 rfl (by decide) (fun _ => rfl) fun x8 =>
    aw_goto (pc := 52) C (tgt := 15) dX10_statementsInMind_52 rfl <|
    (ih x5 x8 h7)))
def X10_statementsInMind  (h : AH) : Option (Int32 × AH) :=
    bd (X5_copyFrom 52 42 h) fun _ h2 =>
    X10_statementsInMind_l15 FU 0 0 h2
set_option maxRecDepth 100000 in
theorem c_X10_statementsInMind (l : Launch)  : MC l yX10_statementsInMind cX10_statementsInMind 3 (some .int) rmX10_statementsInMind ZC [.ref 0] rvI (X10_statementsInMind) :=
  MC.of (own := RX10) (by decide +kernel) rfl (Nat.le_of_ble_eq_true rfl) fun X yd A h _ C =>
    aw_aload_n (pc := 0) C (i := 0) dX10_statementsInMind_0 rfl rfl <|
    aw_getR (pc := 1) C (b := 52) dX10_statementsInMind_1 fl_X10_76 sC_0 rfl rC_0_2 <|
    aw_aload_n (pc := 4) C (i := 0) dX10_statementsInMind_4 rfl rfl <|
    aw_getR (pc := 5) C (b := 42) dX10_statementsInMind_5 fl_X10_72 sC_0 rfl rC_0_1 <|
    aw_callF (pc := 8) C (cr_V (rest := []) (F := (X5_copyFrom 52 42)) C (c_X5_copyFrom X.2.1 52 (Or.inr (Or.inl rfl)) 42 (Or.inl rfl)) dX10_statementsInMind_8 mf_X5_copyFrom ml_X10_121 im_X5_copyFrom se_X5_copyFrom (mt_s (Or.inr (Or.inl rfl))) rfl ⟨(Nat.le_of_ble_eq_true rfl), (Nat.le_of_ble_eq_true rfl)⟩ rfl rfl (Nat.le_of_ble_eq_true rfl)) rfl rfl rfl (Nat.zero_le _) (Nat.zero_le _) fun _ h2 =>
    aw_iconst (pc := 11) C (v := 0) dX10_statementsInMind_11 rfl <|
    aw_istore_n (pc := 12) C (i := 1) (lv' := [(0, .ref 0), (1, .int 0)]) dX10_statementsInMind_12 rfl (by decide) rfl <|
    aw_iconst (pc := 13) C (v := 0) dX10_statementsInMind_13 rfl <|
    aw_istore_n (pc := 14) C (i := 2) (lv' := [(0, .ref 0), (1, .int 0), (2, .int 0)]) dX10_statementsInMind_14 rfl (by decide) rfl <|
    (aX10_statementsInMind_l15 C FU 0 0 h2)

abbrev rmX10_ground : Room := { frames := 7, cells := 0, slots := 0, locals := 181 }
def X10_ground_j22  (s0 : Int32) (h : AH) : Option (Int32 × AH) :=
    vl (sI h 0 6 0) fun h5 =>
    if s0 < 0 then (some (s0, h5))
    else (bd (X5_copyFrom 42 52 h5) fun _ h7 =>
    some (s0, h7))
set_option maxRecDepth 100000 in
theorem aX10_ground_j22 {X : MCx} {yd : Dyn} {A : Nat → Prop} (C : OK X cX10_ground RX10 3 (some .int) rmX10_ground A)  (s0 : Int32) (h : AH) : AW X 3 ZC yd A 0 0 (QF X rmX10_ground ZC yd rvI A) 22 [(0, .ref 0)] [.int s0] h (X10_ground_j22 s0 h) := by
    exact aw_istore_n (pc := 22) C (i := 2) (lv' := [(0, .ref 0), (2, .int s0)]) dX10_ground_22 rfl (by decide) rfl <|
    aw_aload_n (pc := 23) C (i := 0) dX10_ground_23 rfl rfl <|
    aw_iconst (pc := 24) C (v := 0) dX10_ground_24 rfl <|
    aw_putI (pc := 25) C dX10_ground_25 fp_X10_108 sC_0 rfl fun h5 =>
    aw_iload_n (pc := 28) C (i := 2) dX10_ground_28 rfl rfl <|
    aw_if_lt (pc := 29) C (tgt := 43) dX10_ground_29 rfl (fun _ =>
    aw_iload_n (pc := 43) C (i := 2) dX10_ground_43 rfl rfl <|
    aw_iret (pc := 44) C dX10_ground_44 rfl rfl) (fun _ =>
    aw_aload_n (pc := 32) C (i := 0) dX10_ground_32 rfl rfl <|
    aw_getR (pc := 33) C (b := 42) dX10_ground_33 fl_X10_72 sC_0 rfl rC_0_1 <|
    aw_aload_n (pc := 36) C (i := 0) dX10_ground_36 rfl rfl <|
    aw_getR (pc := 37) C (b := 52) dX10_ground_37 fl_X10_76 sC_0 rfl rC_0_2 <|
    aw_callF (pc := 40) C (cr_V (rest := []) (F := (X5_copyFrom 42 52)) C (c_X5_copyFrom X.2.1 42 (Or.inl rfl) 52 (Or.inr (Or.inl rfl))) dX10_ground_40 mf_X5_copyFrom ml_X10_121 im_X5_copyFrom se_X5_copyFrom (mt_s (Or.inl rfl)) rfl ⟨(Nat.le_of_ble_eq_true rfl), (Nat.le_of_ble_eq_true rfl)⟩ rfl rfl (Nat.le_of_ble_eq_true rfl)) rfl rfl rfl (Nat.zero_le _) (Nat.zero_le _) fun _ h7 =>
    aw_iload_n (pc := 43) C (i := 2) dX10_ground_43 rfl rfl <|
    aw_iret (pc := 44) C dX10_ground_44 rfl rfl)
def X10_ground  (h : AH) : Option (Int32 × AH) :=
    bd (X10_firstBadLetter h) fun r1 h2 =>
    if r1 = (-1) then (bd (X10_statementsInMind h2) fun r3 h4 =>
    X10_ground_j22 r3 h4)
    else (X10_ground_j22 ((-1000) - r1) h2)
set_option maxRecDepth 100000 in
theorem c_X10_ground (l : Launch)  : MC l yX10_ground cX10_ground 3 (some .int) rmX10_ground ZC [.ref 0] rvI (X10_ground) :=
  MC.of (own := RX10) (by decide +kernel) rfl (Nat.le_of_ble_eq_true rfl) fun X yd A h _ C =>
    aw_aload_n (pc := 0) C (i := 0) dX10_ground_0 rfl rfl <|
    aw_callF (pc := 1) C (cr_V (rest := []) (F := X10_firstBadLetter) C (c_X10_firstBadLetter X.2.1 ) dX10_ground_1 mf_X10_firstBadLetter ml_X10_114 im_X10_firstBadLetter se_X10_firstBadLetter sC_0 rfl ⟨(Nat.le_of_ble_eq_true rfl), (Nat.le_of_ble_eq_true rfl)⟩ rfl rfl (Nat.le_of_ble_eq_true rfl)) rfl rfl rfl (Nat.zero_le _) (Nat.zero_le _) fun r1 h2 =>
    aw_istore_n (pc := 4) C (i := 1) (lv' := [(0, .ref 0), (1, .int r1)]) dX10_ground_4 rfl (by decide) rfl <|
    aw_iload_n (pc := 5) C (i := 1) dX10_ground_5 rfl rfl <|
    aw_iconst (pc := 6) C (v := (-1)) dX10_ground_6 rfl <|
    aw_icmp_eq (pc := 7) C (tgt := 18) dX10_ground_7 rfl (fun _ =>
    aw_aload_n (pc := 18) C (i := 0) dX10_ground_18 rfl rfl <|
    aw_callF (pc := 19) C (cr_V (rest := []) (F := X10_statementsInMind) C (c_X10_statementsInMind X.2.1 ) dX10_ground_19 mf_X10_statementsInMind ml_X10_118 im_X10_statementsInMind se_X10_statementsInMind sC_0 rfl ⟨(Nat.le_of_ble_eq_true rfl), (Nat.le_of_ble_eq_true rfl)⟩ rfl rfl (Nat.le_of_ble_eq_true rfl)) rfl rfl rfl (Nat.zero_le _) (Nat.zero_le _) fun r3 h4 =>
    aw_drop [0] (aX10_ground_j22 C r3 h4)) (fun _ =>
    aw_sipush (pc := 10) C (v := (-1000)) dX10_ground_10 rfl <|
    aw_iload_n (pc := 13) C (i := 1) dX10_ground_13 rfl rfl <|
    aw_isub (pc := 14) C dX10_ground_14 <|
    aw_goto (pc := 15) C (tgt := 22) dX10_ground_15 rfl <|
    aw_drop [0] (aX10_ground_j22 C ((-1000) - r1) h2))

abbrev rmX10_jumper : Room := { frames := 4, cells := 0, slots := 0, locals := 90 }
def X10_jumper (v1 : Int32) (v2 : Int32) (h : AH) : Option (Int32 × AH) :=
    bd (X10_nobody v1 h) fun r1 h2 =>
    bd (X10_noSuch v2 11 h2) fun r3 h4 =>
    bd (X10_first r1 r3 h4) fun r5 h6 =>
    if r5 = 0 then (if 9 ≤ v2 then (if v2 = 11 then (bd (X5_triesOf 42 v1 h6) fun r13 h14 =>
    some (r13, h14))
    else (bd (X5_rank 42 0 (h6.1 42 4) h6) fun _ h8 =>
    if v2 = 9 then (bd (X6_longest v1 h8) fun r11 h12 =>
    some (r11, h12))
    else (bd (X6_secondLongest v1 h8) fun r9 h10 =>
    some (r9, h10))))
    else (bd (X5_at 42 v1 h6) fun r15 h16 =>
    cs ZC r15 (.inr 2) (bd (X2_property r15 v2 h16) fun r18 h19 =>
    some (r18, h19))))
    else (bd (X10_refuse r5 h6) fun r20 h21 =>
    some (r20, h21))
set_option maxRecDepth 100000 in
theorem c_X10_jumper (l : Launch) (v1 : Int32) (v2 : Int32) : MC l yX10_jumper cX10_jumper 4 (some .int) rmX10_jumper ZC [.ref 0, .int v1, .int v2] rvI (X10_jumper v1 v2) :=
  MC.of (own := RX10) (by decide +kernel) rfl (Nat.le_of_ble_eq_true rfl) fun X yd A h _ C =>
    aw_aload_n (pc := 0) C (i := 0) dX10_jumper_0 rfl rfl <|
    aw_iload_n (pc := 1) C (i := 1) dX10_jumper_1 rfl rfl <|
    aw_callF (pc := 2) C (cr_V (rest := []) (F := (X10_nobody v1)) C (c_X10_nobody X.2.1 v1) dX10_jumper_2 mf_X10_nobody ml_X10_93 im_X10_nobody se_X10_nobody sC_0 rfl ⟨(Nat.le_of_ble_eq_true rfl), (Nat.le_of_ble_eq_true rfl)⟩ rfl rfl (Nat.le_of_ble_eq_true rfl)) rfl rfl rfl (Nat.zero_le _) (Nat.zero_le _) fun r1 h2 =>
    aw_iload_n (pc := 5) C (i := 2) dX10_jumper_5 rfl rfl <|
    aw_bipush (pc := 6) C (v := 11) dX10_jumper_6 rfl <|
    aw_callF (pc := 8) C (cr_S (rest := [.int r1]) (F := (X10_noSuch v2 11)) C (c_X10_noSuch X.2.1 v2 11) dX10_jumper_8 mf_X10_noSuch ml_X10_101 st_X10_noSuch ⟨(Nat.le_of_ble_eq_true rfl), (Nat.le_of_ble_eq_true rfl)⟩ rfl rfl (Nat.le_of_ble_eq_true rfl)) rfl rfl rfl (Nat.zero_le _) (Nat.zero_le _) fun r3 h4 =>
    aw_callF (pc := 11) C (cr_S (rest := []) (F := (X10_first r1 r3)) C (c_X10_first X.2.1 r1 r3) dX10_jumper_11 mf_X10_first ml_X10_97 st_X10_first ⟨(Nat.le_of_ble_eq_true rfl), (Nat.le_of_ble_eq_true rfl)⟩ rfl rfl (Nat.le_of_ble_eq_true rfl)) rfl rfl rfl (Nat.zero_le _) (Nat.zero_le _) fun r5 h6 =>
    aw_istore_n (pc := 14) C (i := 3) (lv' := [(0, .ref 0), (1, .int v1), (2, .int v2), (3, .int r5)]) dX10_jumper_14 rfl (by decide) rfl <|
    aw_iload_n (pc := 15) C (i := 3) dX10_jumper_15 rfl rfl <|
    aw_if_eq (pc := 16) C (tgt := 25) dX10_jumper_16 rfl (fun _ =>
    aw_iload_n (pc := 25) C (i := 2) dX10_jumper_25 rfl rfl <|
    aw_bipush (pc := 26) C (v := 9) dX10_jumper_26 rfl <|
    aw_icmp_ge (pc := 28) C (tgt := 44) dX10_jumper_28 rfl (fun _ =>
    aw_iload_n (pc := 44) C (i := 2) dX10_jumper_44 rfl rfl <|
    aw_bipush (pc := 45) C (v := 11) dX10_jumper_45 rfl <|
    aw_icmp_ne (pc := 47) C (tgt := 59) dX10_jumper_47 rfl (fun _ =>
    aw_aload_n (pc := 50) C (i := 0) dX10_jumper_50 rfl rfl <|
    aw_getR (pc := 51) C (b := 42) dX10_jumper_51 fl_X10_72 sC_0 rfl rC_0_1 <|
    aw_iload_n (pc := 54) C (i := 1) dX10_jumper_54 rfl rfl <|
    aw_callF (pc := 55) C (cr_V (rest := []) (F := (X5_triesOf 42 v1)) C (c_X5_triesOf X.2.1 42 (Or.inl rfl) v1) dX10_jumper_55 mf_X5_triesOf ml_X10_211 im_X5_triesOf se_X5_triesOf (mt_s (Or.inl rfl)) rfl ⟨(Nat.le_of_ble_eq_true rfl), (Nat.le_of_ble_eq_true rfl)⟩ rfl rfl (Nat.le_of_ble_eq_true rfl)) rfl rfl rfl (Nat.zero_le _) (Nat.zero_le _) fun r13 h14 =>
    aw_iret (pc := 58) C dX10_jumper_58 rfl rfl) (fun _ =>
    aw_aload_n (pc := 59) C (i := 0) dX10_jumper_59 rfl rfl <|
    aw_getR (pc := 60) C (b := 42) dX10_jumper_60 fl_X10_72 sC_0 rfl rC_0_1 <|
    aw_aload_n (pc := 63) C (i := 0) dX10_jumper_63 rfl rfl <|
    aw_getR (pc := 64) C (b := 5) dX10_jumper_64 fl_X10_28 sC_0 rfl rC_0_10 <|
    aw_iconst (pc := 67) C (v := 0) dX10_jumper_67 rfl <|
    aw_aload_n (pc := 68) C (i := 0) dX10_jumper_68 rfl rfl <|
    aw_getR (pc := 69) C (b := 42) dX10_jumper_69 fl_X10_72 sC_0 rfl rC_0_1 <|
    aw_getI (pc := 72) C dX10_jumper_72 fl_X10_160 (mt_s (Or.inl rfl)) rfl <|
    aw_callF (pc := 75) C (cr_V (rest := []) (F := (X5_rank 42 0 (h6.1 42 4))) C (c_X5_rank X.2.1 42 (Or.inl rfl) 0 (h6.1 42 4)) dX10_jumper_75 mf_X5_rank ml_X10_214 im_X5_rank se_X5_rank (mt_s (Or.inl rfl)) rfl ⟨(Nat.le_of_ble_eq_true rfl), (Nat.le_of_ble_eq_true rfl)⟩ rfl rfl (Nat.le_of_ble_eq_true rfl)) rfl rfl rfl (Nat.zero_le _) (Nat.zero_le _) fun _ h8 =>
    aw_iload_n (pc := 78) C (i := 2) dX10_jumper_78 rfl rfl <|
    aw_bipush (pc := 79) C (v := 9) dX10_jumper_79 rfl <|
    aw_icmp_ne (pc := 81) C (tgt := 95) dX10_jumper_81 rfl (fun _ =>
    aw_aload_n (pc := 84) C (i := 0) dX10_jumper_84 rfl rfl <|
    aw_getR (pc := 85) C (b := 5) dX10_jumper_85 fl_X10_28 sC_0 rfl rC_0_10 <|
    aw_iload_n (pc := 88) C (i := 1) dX10_jumper_88 rfl rfl <|
    aw_callF (pc := 89) C (cr_V (rest := []) (F := (X6_longest v1)) C (c_X6_longest X.2.1 v1) dX10_jumper_89 mf_X6_longest ml_X10_218 im_X6_longest se_X6_longest sC_5 rfl ⟨(Nat.le_of_ble_eq_true rfl), (Nat.le_of_ble_eq_true rfl)⟩ rfl rfl (Nat.le_of_ble_eq_true rfl)) rfl rfl rfl (Nat.zero_le _) (Nat.zero_le _) fun r11 h12 =>
    aw_goto (pc := 92) C (tgt := 103) dX10_jumper_92 rfl <|
    aw_iret (pc := 103) C dX10_jumper_103 rfl rfl) (fun _ =>
    aw_aload_n (pc := 95) C (i := 0) dX10_jumper_95 rfl rfl <|
    aw_getR (pc := 96) C (b := 5) dX10_jumper_96 fl_X10_28 sC_0 rfl rC_0_10 <|
    aw_iload_n (pc := 99) C (i := 1) dX10_jumper_99 rfl rfl <|
    aw_callF (pc := 100) C (cr_V (rest := []) (F := (X6_secondLongest v1)) C (c_X6_secondLongest X.2.1 v1) dX10_jumper_100 mf_X6_secondLongest ml_X10_221 im_X6_secondLongest se_X6_secondLongest sC_5 rfl ⟨(Nat.le_of_ble_eq_true rfl), (Nat.le_of_ble_eq_true rfl)⟩ rfl rfl (Nat.le_of_ble_eq_true rfl)) rfl rfl rfl (Nat.zero_le _) (Nat.zero_le _) fun r9 h10 =>
    aw_iret (pc := 103) C dX10_jumper_103 rfl rfl))) (fun _ =>
    aw_aload_n (pc := 31) C (i := 0) dX10_jumper_31 rfl rfl <|
    aw_getR (pc := 32) C (b := 42) dX10_jumper_32 fl_X10_72 sC_0 rfl rC_0_1 <|
    aw_iload_n (pc := 35) C (i := 1) dX10_jumper_35 rfl rfl <|
    aw_callF (pc := 36) C (cr_V (rest := []) (F := (X5_at 42 v1)) C (c_X5_at X.2.1 42 (Or.inl rfl) v1) dX10_jumper_36 mf_X5_at ml_X10_169 im_X5_at se_X5_at (mt_s (Or.inl rfl)) rfl ⟨(Nat.le_of_ble_eq_true rfl), (Nat.le_of_ble_eq_true rfl)⟩ rfl rfl (Nat.le_of_ble_eq_true rfl)) rfl rfl rfl (Nat.zero_le _) (Nat.zero_le _) fun r15 h16 =>
    aw_cs fun hs17 =>
    aw_iload_n (pc := 39) C (i := 2) dX10_jumper_39 rfl rfl <|
    aw_callF (pc := 40) C (cr_V (rest := []) (F := (X2_property r15 v2)) C (c_X2_property X.2.1 r15 hs17 v2) dX10_jumper_40 mf_X2_property ml_X10_208 im_X2_property se_X2_property hs17 rfl ⟨(Nat.le_of_ble_eq_true rfl), (Nat.le_of_ble_eq_true rfl)⟩ rfl rfl (Nat.le_of_ble_eq_true rfl)) rfl rfl rfl (Nat.zero_le _) (Nat.zero_le _) fun r18 h19 =>
    aw_iret (pc := 43) C dX10_jumper_43 rfl rfl)) (fun _ =>
    aw_aload_n (pc := 19) C (i := 0) dX10_jumper_19 rfl rfl <|
    aw_iload_n (pc := 20) C (i := 3) dX10_jumper_20 rfl rfl <|
    aw_callF (pc := 21) C (cr_V (rest := []) (F := (X10_refuse r5)) C (c_X10_refuse X.2.1 r5) dX10_jumper_21 mf_X10_refuse ml_X10_111 im_X10_refuse se_X10_refuse sC_0 rfl ⟨(Nat.le_of_ble_eq_true rfl), (Nat.le_of_ble_eq_true rfl)⟩ rfl rfl (Nat.le_of_ble_eq_true rfl)) rfl rfl rfl (Nat.zero_le _) (Nat.zero_le _) fun r20 h21 =>
    aw_iret (pc := 24) C dX10_jumper_24 rfl rfl)

abbrev rmX10_mark : Room := { frames := 1, cells := 0, slots := 0, locals := 22 }
def X10_mark (v1 : Int32) (v2 : Int32) (h : AH) : Option (Int32 × AH) :=
    bd (X10_nobody v1 h) fun r1 h2 =>
    bd (X10_outside v2 0 2400 h2) fun r3 h4 =>
    bd (X10_first r1 r3 h4) fun r5 h6 =>
    if r5 = 0 then (bd (X5_at 42 v1 h6) fun r7 h8 =>
    cs ZC r7 (.inr 2) (vl (h8.1 r7 8) fun x10 =>
    bd (X5_at 42 v1 h8) fun r11 h12 =>
    cs ZC r11 (.inr 2) (vl (sI h12 r11 8 v2) fun h14 =>
    some (x10, h14))))
    else (bd (X10_refuse r5 h6) fun r15 h16 =>
    some (r15, h16))
set_option maxRecDepth 100000 in
theorem c_X10_mark (l : Launch) (v1 : Int32) (v2 : Int32) : MC l yX10_mark cX10_mark 5 (some .int) rmX10_mark ZC [.ref 0, .int v1, .int v2] rvI (X10_mark v1 v2) :=
  MC.of (own := RX10) (by decide +kernel) rfl (Nat.le_of_ble_eq_true rfl) fun X yd A h _ C =>
    aw_aload_n (pc := 0) C (i := 0) dX10_mark_0 rfl rfl <|
    aw_iload_n (pc := 1) C (i := 1) dX10_mark_1 rfl rfl <|
    aw_callF (pc := 2) C (cr_V (rest := []) (F := (X10_nobody v1)) C (c_X10_nobody X.2.1 v1) dX10_mark_2 mf_X10_nobody ml_X10_93 im_X10_nobody se_X10_nobody sC_0 rfl ⟨(Nat.le_of_ble_eq_true rfl), (Nat.le_of_ble_eq_true rfl)⟩ rfl rfl (Nat.le_of_ble_eq_true rfl)) rfl rfl rfl (Nat.zero_le _) (Nat.zero_le _) fun r1 h2 =>
    aw_iload_n (pc := 5) C (i := 2) dX10_mark_5 rfl rfl <|
    aw_iconst (pc := 6) C (v := 0) dX10_mark_6 rfl <|
    aw_sipush (pc := 7) C (v := 2400) dX10_mark_7 rfl <|
    aw_callF (pc := 10) C (cr_S (rest := [.int r1]) (F := (X10_outside v2 0 2400)) C (c_X10_outside X.2.1 v2 0 2400) dX10_mark_10 mf_X10_outside ml_X10_104 st_X10_outside ⟨(Nat.le_of_ble_eq_true rfl), (Nat.le_of_ble_eq_true rfl)⟩ rfl rfl (Nat.le_of_ble_eq_true rfl)) rfl rfl rfl (Nat.zero_le _) (Nat.zero_le _) fun r3 h4 =>
    aw_callF (pc := 13) C (cr_S (rest := []) (F := (X10_first r1 r3)) C (c_X10_first X.2.1 r1 r3) dX10_mark_13 mf_X10_first ml_X10_97 st_X10_first ⟨(Nat.le_of_ble_eq_true rfl), (Nat.le_of_ble_eq_true rfl)⟩ rfl rfl (Nat.le_of_ble_eq_true rfl)) rfl rfl rfl (Nat.zero_le _) (Nat.zero_le _) fun r5 h6 =>
    aw_istore_n (pc := 16) C (i := 3) (lv' := [(0, .ref 0), (1, .int v1), (2, .int v2), (3, .int r5)]) dX10_mark_16 rfl (by decide) rfl <|
    aw_iload_n (pc := 17) C (i := 3) dX10_mark_17 rfl rfl <|
    aw_if_eq (pc := 18) C (tgt := 27) dX10_mark_18 rfl (fun _ =>
    aw_aload_n (pc := 27) C (i := 0) dX10_mark_27 rfl rfl <|
    aw_getR (pc := 28) C (b := 42) dX10_mark_28 fl_X10_72 sC_0 rfl rC_0_1 <|
    aw_iload_n (pc := 31) C (i := 1) dX10_mark_31 rfl rfl <|
    aw_callF (pc := 32) C (cr_V (rest := []) (F := (X5_at 42 v1)) C (c_X5_at X.2.1 42 (Or.inl rfl) v1) dX10_mark_32 mf_X5_at ml_X10_169 im_X5_at se_X5_at (mt_s (Or.inl rfl)) rfl ⟨(Nat.le_of_ble_eq_true rfl), (Nat.le_of_ble_eq_true rfl)⟩ rfl rfl (Nat.le_of_ble_eq_true rfl)) rfl rfl rfl (Nat.zero_le _) (Nat.zero_le _) fun r7 h8 =>
    aw_cs fun hs9 =>
    aw_getI (pc := 35) C dX10_mark_35 fl_X10_198 hs9 rfl <|
    aw_istoreV (pc := 38) C (i := 4) (fun x10 => [(0, .ref 0), (1, .int v1), (2, .int v2), (3, .int r5), (4, .int x10)]) dX10_mark_38 (by decide) (fun _ => rfl) fun x10 =>
    aw_aload_n (pc := 40) C (i := 0) dX10_mark_40 rfl rfl <|
    aw_getR (pc := 41) C (b := 42) dX10_mark_41 fl_X10_72 sC_0 rfl rC_0_1 <|
    aw_iload_n (pc := 44) C (i := 1) dX10_mark_44 rfl rfl <|
    aw_callF (pc := 45) C (cr_V (rest := []) (F := (X5_at 42 v1)) C (c_X5_at X.2.1 42 (Or.inl rfl) v1) dX10_mark_45 mf_X5_at ml_X10_169 im_X5_at se_X5_at (mt_s (Or.inl rfl)) rfl ⟨(Nat.le_of_ble_eq_true rfl), (Nat.le_of_ble_eq_true rfl)⟩ rfl rfl (Nat.le_of_ble_eq_true rfl)) rfl rfl rfl (Nat.zero_le _) (Nat.zero_le _) fun r11 h12 =>
    aw_cs fun hs13 =>
    aw_iload_n (pc := 48) C (i := 2) dX10_mark_48 rfl rfl <|
    aw_putI (pc := 49) C dX10_mark_49 fp_X10_198 hs13 rfl fun h14 =>
    aw_iload (pc := 52) C (i := 4) dX10_mark_52 rfl <|
    aw_iret (pc := 54) C dX10_mark_54 rfl rfl) (fun _ =>
    aw_aload_n (pc := 21) C (i := 0) dX10_mark_21 rfl rfl <|
    aw_iload_n (pc := 22) C (i := 3) dX10_mark_22 rfl rfl <|
    aw_callF (pc := 23) C (cr_V (rest := []) (F := (X10_refuse r5)) C (c_X10_refuse X.2.1 r5) dX10_mark_23 mf_X10_refuse ml_X10_111 im_X10_refuse se_X10_refuse sC_0 rfl ⟨(Nat.le_of_ble_eq_true rfl), (Nat.le_of_ble_eq_true rfl)⟩ rfl rfl (Nat.le_of_ble_eq_true rfl)) rfl rfl rfl (Nat.zero_le _) (Nat.zero_le _) fun r15 h16 =>
    aw_iret (pc := 26) C dX10_mark_26 rfl rfl)

abbrev rmX10_look : Room := { frames := 1, cells := 0, slots := 0, locals := 22 }
def X10_look (v1 : Int32) (v2 : Int32) (h : AH) : Option (Int32 × AH) :=
    bd (X10_nobody v1 h) fun r1 h2 =>
    bd (X10_outside v2 0 4 h2) fun r3 h4 =>
    bd (X10_first r1 r3 h4) fun r5 h6 =>
    if r5 = 0 then (bd (X5_at 42 v1 h6) fun r7 h8 =>
    cs ZC r7 (.inr 2) (vl (h8.1 r7 7) fun x10 =>
    bd (X5_at 42 v1 h8) fun r11 h12 =>
    cs ZC r11 (.inr 2) (vl (sI h12 r11 7 v2) fun h14 =>
    some (x10, h14))))
    else (bd (X10_refuse r5 h6) fun r15 h16 =>
    some (r15, h16))
set_option maxRecDepth 100000 in
theorem c_X10_look (l : Launch) (v1 : Int32) (v2 : Int32) : MC l yX10_look cX10_look 5 (some .int) rmX10_look ZC [.ref 0, .int v1, .int v2] rvI (X10_look v1 v2) :=
  MC.of (own := RX10) (by decide +kernel) rfl (Nat.le_of_ble_eq_true rfl) fun X yd A h _ C =>
    aw_aload_n (pc := 0) C (i := 0) dX10_look_0 rfl rfl <|
    aw_iload_n (pc := 1) C (i := 1) dX10_look_1 rfl rfl <|
    aw_callF (pc := 2) C (cr_V (rest := []) (F := (X10_nobody v1)) C (c_X10_nobody X.2.1 v1) dX10_look_2 mf_X10_nobody ml_X10_93 im_X10_nobody se_X10_nobody sC_0 rfl ⟨(Nat.le_of_ble_eq_true rfl), (Nat.le_of_ble_eq_true rfl)⟩ rfl rfl (Nat.le_of_ble_eq_true rfl)) rfl rfl rfl (Nat.zero_le _) (Nat.zero_le _) fun r1 h2 =>
    aw_iload_n (pc := 5) C (i := 2) dX10_look_5 rfl rfl <|
    aw_iconst (pc := 6) C (v := 0) dX10_look_6 rfl <|
    aw_iconst (pc := 7) C (v := 4) dX10_look_7 rfl <|
    aw_callF (pc := 8) C (cr_S (rest := [.int r1]) (F := (X10_outside v2 0 4)) C (c_X10_outside X.2.1 v2 0 4) dX10_look_8 mf_X10_outside ml_X10_104 st_X10_outside ⟨(Nat.le_of_ble_eq_true rfl), (Nat.le_of_ble_eq_true rfl)⟩ rfl rfl (Nat.le_of_ble_eq_true rfl)) rfl rfl rfl (Nat.zero_le _) (Nat.zero_le _) fun r3 h4 =>
    aw_callF (pc := 11) C (cr_S (rest := []) (F := (X10_first r1 r3)) C (c_X10_first X.2.1 r1 r3) dX10_look_11 mf_X10_first ml_X10_97 st_X10_first ⟨(Nat.le_of_ble_eq_true rfl), (Nat.le_of_ble_eq_true rfl)⟩ rfl rfl (Nat.le_of_ble_eq_true rfl)) rfl rfl rfl (Nat.zero_le _) (Nat.zero_le _) fun r5 h6 =>
    aw_istore_n (pc := 14) C (i := 3) (lv' := [(0, .ref 0), (1, .int v1), (2, .int v2), (3, .int r5)]) dX10_look_14 rfl (by decide) rfl <|
    aw_iload_n (pc := 15) C (i := 3) dX10_look_15 rfl rfl <|
    aw_if_eq (pc := 16) C (tgt := 25) dX10_look_16 rfl (fun _ =>
    aw_aload_n (pc := 25) C (i := 0) dX10_look_25 rfl rfl <|
    aw_getR (pc := 26) C (b := 42) dX10_look_26 fl_X10_72 sC_0 rfl rC_0_1 <|
    aw_iload_n (pc := 29) C (i := 1) dX10_look_29 rfl rfl <|
    aw_callF (pc := 30) C (cr_V (rest := []) (F := (X5_at 42 v1)) C (c_X5_at X.2.1 42 (Or.inl rfl) v1) dX10_look_30 mf_X5_at ml_X10_169 im_X5_at se_X5_at (mt_s (Or.inl rfl)) rfl ⟨(Nat.le_of_ble_eq_true rfl), (Nat.le_of_ble_eq_true rfl)⟩ rfl rfl (Nat.le_of_ble_eq_true rfl)) rfl rfl rfl (Nat.zero_le _) (Nat.zero_le _) fun r7 h8 =>
    aw_cs fun hs9 =>
    aw_getI (pc := 33) C dX10_look_33 fl_X10_195 hs9 rfl <|
    aw_istoreV (pc := 36) C (i := 4) (fun x10 => [(0, .ref 0), (1, .int v1), (2, .int v2), (3, .int r5), (4, .int x10)]) dX10_look_36 (by decide) (fun _ => rfl) fun x10 =>
    aw_aload_n (pc := 38) C (i := 0) dX10_look_38 rfl rfl <|
    aw_getR (pc := 39) C (b := 42) dX10_look_39 fl_X10_72 sC_0 rfl rC_0_1 <|
    aw_iload_n (pc := 42) C (i := 1) dX10_look_42 rfl rfl <|
    aw_callF (pc := 43) C (cr_V (rest := []) (F := (X5_at 42 v1)) C (c_X5_at X.2.1 42 (Or.inl rfl) v1) dX10_look_43 mf_X5_at ml_X10_169 im_X5_at se_X5_at (mt_s (Or.inl rfl)) rfl ⟨(Nat.le_of_ble_eq_true rfl), (Nat.le_of_ble_eq_true rfl)⟩ rfl rfl (Nat.le_of_ble_eq_true rfl)) rfl rfl rfl (Nat.zero_le _) (Nat.zero_le _) fun r11 h12 =>
    aw_cs fun hs13 =>
    aw_iload_n (pc := 46) C (i := 2) dX10_look_46 rfl rfl <|
    aw_putI (pc := 47) C dX10_look_47 fp_X10_195 hs13 rfl fun h14 =>
    aw_iload (pc := 50) C (i := 4) dX10_look_50 rfl <|
    aw_iret (pc := 52) C dX10_look_52 rfl rfl) (fun _ =>
    aw_aload_n (pc := 19) C (i := 0) dX10_look_19 rfl rfl <|
    aw_iload_n (pc := 20) C (i := 3) dX10_look_20 rfl rfl <|
    aw_callF (pc := 21) C (cr_V (rest := []) (F := (X10_refuse r5)) C (c_X10_refuse X.2.1 r5) dX10_look_21 mf_X10_refuse ml_X10_111 im_X10_refuse se_X10_refuse sC_0 rfl ⟨(Nat.le_of_ble_eq_true rfl), (Nat.le_of_ble_eq_true rfl)⟩ rfl rfl (Nat.le_of_ble_eq_true rfl)) rfl rfl rfl (Nat.zero_le _) (Nat.zero_le _) fun r15 h16 =>
    aw_iret (pc := 24) C dX10_look_24 rfl rfl)

abbrev rmX10_set : Room := { frames := 1, cells := 0, slots := 0, locals := 22 }
def X10_set_j83  (v1 : Int32) (v2 : Int32) (s0 : Int32) (h : AH) : Option (Int32 × AH) :=
    if v1 = 0 then (vl (sI h 42 0 v2) fun h6 =>
    some (s0, h6))
    else (vl (sI h 42 2 v2) fun h5 =>
    some (s0, h5))
set_option maxRecDepth 100000 in
theorem aX10_set_j83 {X : MCx} {yd : Dyn} {A : Nat → Prop} (C : OK X cX10_set RX10 5 (some .int) rmX10_set A)  (v1 : Int32) (v2 : Int32) (s0 : Int32) (h : AH) : AW X 5 ZC yd A 0 0 (QF X rmX10_set ZC yd rvI A) 83 [(0, .ref 0), (1, .int v1), (2, .int v2)] [.int s0] h (X10_set_j83 v1 v2 s0 h) := by
    exact aw_istore (pc := 83) C (i := 4) (lv' := [(0, .ref 0), (1, .int v1), (2, .int v2), (4, .int s0)]) dX10_set_83 (by decide) rfl <|
    aw_iload_n (pc := 85) C (i := 1) dX10_set_85 rfl rfl <|
    aw_if_ne (pc := 86) C (tgt := 100) dX10_set_86 rfl (fun _ =>
    aw_aload_n (pc := 89) C (i := 0) dX10_set_89 rfl rfl <|
    aw_getR (pc := 90) C (b := 42) dX10_set_90 fl_X10_72 sC_0 rfl rC_0_1 <|
    aw_iload_n (pc := 93) C (i := 2) dX10_set_93 rfl rfl <|
    aw_putI (pc := 94) C dX10_set_94 fp_X10_163 (mt_s (Or.inl rfl)) rfl fun h6 =>
    aw_goto (pc := 97) C (tgt := 108) dX10_set_97 rfl <|
    aw_iload (pc := 108) C (i := 4) dX10_set_108 rfl <|
    aw_iret (pc := 110) C dX10_set_110 rfl rfl) (fun _ =>
    aw_aload_n (pc := 100) C (i := 0) dX10_set_100 rfl rfl <|
    aw_getR (pc := 101) C (b := 42) dX10_set_101 fl_X10_72 sC_0 rfl rC_0_1 <|
    aw_iload_n (pc := 104) C (i := 2) dX10_set_104 rfl rfl <|
    aw_putI (pc := 105) C dX10_set_105 fp_X10_166 (mt_s (Or.inl rfl)) rfl fun h5 =>
    aw_iload (pc := 108) C (i := 4) dX10_set_108 rfl <|
    aw_iret (pc := 110) C dX10_set_110 rfl rfl)
def X10_set_j48  (v1 : Int32) (v2 : Int32) (s0 : Int32) (s1 : Int32) (h : AH) : Option (Int32 × AH) :=
    bd (X10_first s1 s0 h) fun r3 h4 =>
    if r3 = 0 then (if v1 = 0 then (X10_set_j83 v1 v2 (h4.1 42 0) h4)
    else (X10_set_j83 v1 v2 (h4.1 42 2) h4))
    else (bd (X10_refuse r3 h4) fun r7 h8 =>
    some (r7, h8))
set_option maxRecDepth 100000 in
theorem aX10_set_j48 {X : MCx} {yd : Dyn} {A : Nat → Prop} (C : OK X cX10_set RX10 5 (some .int) rmX10_set A)  (v1 : Int32) (v2 : Int32) (s0 : Int32) (s1 : Int32) (h : AH) : AW X 5 ZC yd A 0 0 (QF X rmX10_set ZC yd rvI A) 48 [(0, .ref 0), (1, .int v1), (2, .int v2)] [.int s0, .int s1] h (X10_set_j48 v1 v2 s0 s1 h) := by
    exact aw_callF (pc := 48) C (cr_S (rest := []) (F := (X10_first s1 s0)) C (c_X10_first X.2.1 s1 s0) dX10_set_48 mf_X10_first ml_X10_97 st_X10_first ⟨(Nat.le_of_ble_eq_true rfl), (Nat.le_of_ble_eq_true rfl)⟩ rfl rfl (Nat.le_of_ble_eq_true rfl)) rfl rfl rfl (Nat.zero_le _) (Nat.zero_le _) fun r3 h4 =>
    aw_istore_n (pc := 51) C (i := 3) (lv' := [(0, .ref 0), (1, .int v1), (2, .int v2), (3, .int r3)]) dX10_set_51 rfl (by decide) rfl <|
    aw_iload_n (pc := 52) C (i := 3) dX10_set_52 rfl rfl <|
    aw_if_eq (pc := 53) C (tgt := 62) dX10_set_53 rfl (fun _ =>
    aw_iload_n (pc := 62) C (i := 1) dX10_set_62 rfl rfl <|
    aw_if_ne (pc := 63) C (tgt := 76) dX10_set_63 rfl (fun _ =>
    aw_aload_n (pc := 66) C (i := 0) dX10_set_66 rfl rfl <|
    aw_getR (pc := 67) C (b := 42) dX10_set_67 fl_X10_72 sC_0 rfl rC_0_1 <|
    aw_getI (pc := 70) C dX10_set_70 fl_X10_163 (mt_s (Or.inl rfl)) rfl <|
    aw_goto (pc := 73) C (tgt := 83) dX10_set_73 rfl <|
    aw_drop [0, 1, 2] (aX10_set_j83 C v1 v2 (h4.1 42 0) h4)) (fun _ =>
    aw_aload_n (pc := 76) C (i := 0) dX10_set_76 rfl rfl <|
    aw_getR (pc := 77) C (b := 42) dX10_set_77 fl_X10_72 sC_0 rfl rC_0_1 <|
    aw_getI (pc := 80) C dX10_set_80 fl_X10_166 (mt_s (Or.inl rfl)) rfl <|
    aw_drop [0, 1, 2] (aX10_set_j83 C v1 v2 (h4.1 42 2) h4))) (fun _ =>
    aw_aload_n (pc := 56) C (i := 0) dX10_set_56 rfl rfl <|
    aw_iload_n (pc := 57) C (i := 3) dX10_set_57 rfl rfl <|
    aw_callF (pc := 58) C (cr_V (rest := []) (F := (X10_refuse r3)) C (c_X10_refuse X.2.1 r3) dX10_set_58 mf_X10_refuse ml_X10_111 im_X10_refuse se_X10_refuse sC_0 rfl ⟨(Nat.le_of_ble_eq_true rfl), (Nat.le_of_ble_eq_true rfl)⟩ rfl rfl (Nat.le_of_ble_eq_true rfl)) rfl rfl rfl (Nat.zero_le _) (Nat.zero_le _) fun r7 h8 =>
    aw_iret (pc := 61) C dX10_set_61 rfl rfl)
def X10_set_j31  (v1 : Int32) (v2 : Int32) (v3 : Int32) (h : AH) : Option (Int32 × AH) :=
    if (h.1 42 4) ≤ 0 then (X10_set_j48 v1 v2 0 v3 h)
    else (X10_set_j48 v1 v2 (-3) v3 h)
set_option maxRecDepth 100000 in
theorem aX10_set_j31 {X : MCx} {yd : Dyn} {A : Nat → Prop} (C : OK X cX10_set RX10 5 (some .int) rmX10_set A)  (v1 : Int32) (v2 : Int32) (v3 : Int32) (h : AH) : AW X 5 ZC yd A 0 0 (QF X rmX10_set ZC yd rvI A) 31 [(0, .ref 0), (1, .int v1), (2, .int v2), (3, .int v3)] [] h (X10_set_j31 v1 v2 v3 h) := by
    exact aw_iload_n (pc := 31) C (i := 3) dX10_set_31 rfl rfl <|
    aw_aload_n (pc := 32) C (i := 0) dX10_set_32 rfl rfl <|
    aw_getR (pc := 33) C (b := 42) dX10_set_33 fl_X10_72 sC_0 rfl rC_0_1 <|
    aw_getI (pc := 36) C dX10_set_36 fl_X10_160 (mt_s (Or.inl rfl)) rfl <|
    aw_if_le (pc := 39) C (tgt := 47) dX10_set_39 rfl (fun _ =>
    aw_iconst (pc := 47) C (v := 0) dX10_set_47 rfl <|
    aw_drop [0, 1, 2] (aX10_set_j48 C v1 v2 0 v3 h)) (fun _ =>
    aw_bipush (pc := 42) C (v := (-3)) dX10_set_42 rfl <|
    aw_goto (pc := 44) C (tgt := 48) dX10_set_44 rfl <|
    aw_drop [0, 1, 2] (aX10_set_j48 C v1 v2 (-3) v3 h))
def X10_set_j30  (v1 : Int32) (v2 : Int32) (s0 : Int32) (h : AH) : Option (Int32 × AH) :=
    X10_set_j31 v1 v2 s0 h
set_option maxRecDepth 100000 in
theorem aX10_set_j30 {X : MCx} {yd : Dyn} {A : Nat → Prop} (C : OK X cX10_set RX10 5 (some .int) rmX10_set A)  (v1 : Int32) (v2 : Int32) (s0 : Int32) (h : AH) : AW X 5 ZC yd A 0 0 (QF X rmX10_set ZC yd rvI A) 30 [(0, .ref 0), (1, .int v1), (2, .int v2)] [.int s0] h (X10_set_j30 v1 v2 s0 h) := by
    exact aw_istore_n (pc := 30) C (i := 3) (lv' := [(0, .ref 0), (1, .int v1), (2, .int v2), (3, .int s0)]) dX10_set_30 rfl (by decide) rfl <|
    (aX10_set_j31 C v1 v2 s0 h)
def X10_set (v1 : Int32) (v2 : Int32) (h : AH) : Option (Int32 × AH) :=
    bd (X10_noSuch v1 1 h) fun r1 h2 =>
    if r1 = 0 then (if v1 = 0 then (bd (X10_outside v2 4 20 h2) fun r11 h12 =>
    X10_set_j30 v1 v2 r11 h12)
    else (bd (X10_outside v2 1 4 h2) fun r9 h10 =>
    X10_set_j30 v1 v2 r9 h10))
    else (X10_set_j31 v1 v2 r1 h2)
set_option maxRecDepth 100000 in
theorem c_X10_set (l : Launch) (v1 : Int32) (v2 : Int32) : MC l yX10_set cX10_set 5 (some .int) rmX10_set ZC [.ref 0, .int v1, .int v2] rvI (X10_set v1 v2) :=
  MC.of (own := RX10) (by decide +kernel) rfl (Nat.le_of_ble_eq_true rfl) fun X yd A h _ C =>
    aw_iload_n (pc := 0) C (i := 1) dX10_set_0 rfl rfl <|
    aw_iconst (pc := 1) C (v := 1) dX10_set_1 rfl <|
    aw_callF (pc := 2) C (cr_S (rest := []) (F := (X10_noSuch v1 1)) C (c_X10_noSuch X.2.1 v1 1) dX10_set_2 mf_X10_noSuch ml_X10_101 st_X10_noSuch ⟨(Nat.le_of_ble_eq_true rfl), (Nat.le_of_ble_eq_true rfl)⟩ rfl rfl (Nat.le_of_ble_eq_true rfl)) rfl rfl rfl (Nat.zero_le _) (Nat.zero_le _) fun r1 h2 =>
    aw_istore_n (pc := 5) C (i := 3) (lv' := [(0, .ref 0), (1, .int v1), (2, .int v2), (3, .int r1)]) dX10_set_5 rfl (by decide) rfl <|
    aw_iload_n (pc := 6) C (i := 3) dX10_set_6 rfl rfl <|
    aw_if_ne (pc := 7) C (tgt := 31) dX10_set_7 rfl (fun _ =>
    aw_iload_n (pc := 10) C (i := 1) dX10_set_10 rfl rfl <|
    aw_if_ne (pc := 11) C (tgt := 24) dX10_set_11 rfl (fun _ =>
    aw_iload_n (pc := 14) C (i := 2) dX10_set_14 rfl rfl <|
    aw_iconst (pc := 15) C (v := 4) dX10_set_15 rfl <|
    aw_bipush (pc := 16) C (v := 20) dX10_set_16 rfl <|
    aw_callF (pc := 18) C (cr_S (rest := []) (F := (X10_outside v2 4 20)) C (c_X10_outside X.2.1 v2 4 20) dX10_set_18 mf_X10_outside ml_X10_104 st_X10_outside ⟨(Nat.le_of_ble_eq_true rfl), (Nat.le_of_ble_eq_true rfl)⟩ rfl rfl (Nat.le_of_ble_eq_true rfl)) rfl rfl rfl (Nat.zero_le _) (Nat.zero_le _) fun r11 h12 =>
    aw_goto (pc := 21) C (tgt := 30) dX10_set_21 rfl <|
    aw_drop [0, 1, 2] (aX10_set_j30 C v1 v2 r11 h12)) (fun _ =>
    aw_iload_n (pc := 24) C (i := 2) dX10_set_24 rfl rfl <|
    aw_iconst (pc := 25) C (v := 1) dX10_set_25 rfl <|
    aw_iconst (pc := 26) C (v := 4) dX10_set_26 rfl <|
    aw_callF (pc := 27) C (cr_S (rest := []) (F := (X10_outside v2 1 4)) C (c_X10_outside X.2.1 v2 1 4) dX10_set_27 mf_X10_outside ml_X10_104 st_X10_outside ⟨(Nat.le_of_ble_eq_true rfl), (Nat.le_of_ble_eq_true rfl)⟩ rfl rfl (Nat.le_of_ble_eq_true rfl)) rfl rfl rfl (Nat.zero_le _) (Nat.zero_le _) fun r9 h10 =>
    aw_drop [0, 1, 2] (aX10_set_j30 C v1 v2 r9 h10))) (fun _ =>
    (aX10_set_j31 C v1 v2 r1 h2))

abbrev rmX10_wind : Room := { frames := 1, cells := 0, slots := 0, locals := 22 }
def X10_wind (v1 : Int32) (h : AH) : Option (Int32 × AH) :=
    bd (X10_outside v1 (-9) 9 h) fun r1 h2 =>
    if r1 = 0 then (vl (h2.1 42 1) fun x3 =>
    vl (sI h2 42 1 v1) fun h4 =>
    some (x3, h4))
    else (bd (X10_refuse r1 h2) fun r5 h6 =>
    some ((1000000000 - r5), h6))
set_option maxRecDepth 100000 in
theorem c_X10_wind (l : Launch) (v1 : Int32) : MC l yX10_wind cX10_wind 4 (some .int) rmX10_wind ZC [.ref 0, .int v1] rvI (X10_wind v1) :=
  MC.of (own := RX10) (by decide +kernel) rfl (Nat.le_of_ble_eq_true rfl) fun X yd A h _ C =>
    aw_iload_n (pc := 0) C (i := 1) dX10_wind_0 rfl rfl <|
    aw_bipush (pc := 1) C (v := (-9)) dX10_wind_1 rfl <|
    aw_bipush (pc := 3) C (v := 9) dX10_wind_3 rfl <|
    aw_callF (pc := 5) C (cr_S (rest := []) (F := (X10_outside v1 (-9) 9)) C (c_X10_outside X.2.1 v1 (-9) 9) dX10_wind_5 mf_X10_outside ml_X10_104 st_X10_outside ⟨(Nat.le_of_ble_eq_true rfl), (Nat.le_of_ble_eq_true rfl)⟩ rfl rfl (Nat.le_of_ble_eq_true rfl)) rfl rfl rfl (Nat.zero_le _) (Nat.zero_le _) fun r1 h2 =>
    aw_istore_n (pc := 8) C (i := 2) (lv' := [(0, .ref 0), (1, .int v1), (2, .int r1)]) dX10_wind_8 rfl (by decide) rfl <|
    aw_iload_n (pc := 9) C (i := 2) dX10_wind_9 rfl rfl <|
    aw_if_eq (pc := 10) C (tgt := 22) dX10_wind_10 rfl (fun _ =>
    aw_aload_n (pc := 22) C (i := 0) dX10_wind_22 rfl rfl <|
    aw_getR (pc := 23) C (b := 42) dX10_wind_23 fl_X10_72 sC_0 rfl rC_0_1 <|
    aw_getI (pc := 26) C dX10_wind_26 fl_X10_157 (mt_s (Or.inl rfl)) rfl <|
    aw_istoreV_n (pc := 29) C (i := 3) (fun x3 => [(0, .ref 0), (1, .int v1), (2, .int r1), (3, .int x3)]) dX10_wind_29 rfl (by decide) (fun _ => rfl) fun x3 =>
    aw_aload_n (pc := 30) C (i := 0) dX10_wind_30 rfl rfl <|
    aw_getR (pc := 31) C (b := 42) dX10_wind_31 fl_X10_72 sC_0 rfl rC_0_1 <|
    aw_iload_n (pc := 34) C (i := 1) dX10_wind_34 rfl rfl <|
    aw_putI (pc := 35) C dX10_wind_35 fp_X10_157 (mt_s (Or.inl rfl)) rfl fun h4 =>
    aw_iload_n (pc := 38) C (i := 3) dX10_wind_38 rfl rfl <|
    aw_iret (pc := 39) C dX10_wind_39 rfl rfl) (fun _ =>
    aw_ldc (pc := 13) C (v := 1000000000) dX10_wind_13 kc_X10_224 <|
    aw_aload_n (pc := 15) C (i := 0) dX10_wind_15 rfl rfl <|
    aw_iload_n (pc := 16) C (i := 2) dX10_wind_16 rfl rfl <|
    aw_callF (pc := 17) C (cr_V (rest := [.int 1000000000]) (F := (X10_refuse r1)) C (c_X10_refuse X.2.1 r1) dX10_wind_17 mf_X10_refuse ml_X10_111 im_X10_refuse se_X10_refuse sC_0 rfl ⟨(Nat.le_of_ble_eq_true rfl), (Nat.le_of_ble_eq_true rfl)⟩ rfl rfl (Nat.le_of_ble_eq_true rfl)) rfl rfl rfl (Nat.zero_le _) (Nat.zero_le _) fun r5 h6 =>
    aw_isub (pc := 20) C dX10_wind_20 <|
    aw_iret (pc := 21) C dX10_wind_21 rfl rfl)

abbrev rmX10_stride : Room := { frames := 3, cells := 0, slots := 0, locals := 69 }
def X10_stride (v1 : Int32) (v2 : Int32) (h : AH) : Option (Int32 × AH) :=
    bd (X10_nobody v1 h) fun r1 h2 =>
    bd (X10_outside v2 0 ((h2.1 42 0) - 1) h2) fun r3 h4 =>
    bd (X10_first r1 r3 h4) fun r5 h6 =>
    if r5 = 0 then (bd (X5_at 42 v1 h6) fun r7 h8 =>
    cs ZC r7 (.inr 2) (bd (kd (h8.2.2 r7) (X3_strideOf r7 v2 (h8.1 42 1) h8) (X3_strideOf r7 v2 (h8.1 42 1) h8) (X0_strideOf r7 v2 (h8.1 42 1) h8) (X3_strideOf r7 v2 (h8.1 42 1) h8) (X9_strideOf r7 v2 (h8.1 42 1) h8) (X8_strideOf r7 v2 (h8.1 42 1) h8)) fun r10 h11 =>
    some (r10, h11)))
    else (bd (X10_refuse r5 h6) fun r12 h13 =>
    some (r12, h13))
set_option maxRecDepth 100000 in
theorem c_X10_stride (l : Launch) (v1 : Int32) (v2 : Int32) : MC l yX10_stride cX10_stride 5 (some .int) rmX10_stride ZC [.ref 0, .int v1, .int v2] rvI (X10_stride v1 v2) :=
  MC.of (own := RX10) (by decide +kernel) rfl (Nat.le_of_ble_eq_true rfl) fun X yd A h _ C =>
    aw_aload_n (pc := 0) C (i := 0) dX10_stride_0 rfl rfl <|
    aw_iload_n (pc := 1) C (i := 1) dX10_stride_1 rfl rfl <|
    aw_callF (pc := 2) C (cr_V (rest := []) (F := (X10_nobody v1)) C (c_X10_nobody X.2.1 v1) dX10_stride_2 mf_X10_nobody ml_X10_93 im_X10_nobody se_X10_nobody sC_0 rfl ⟨(Nat.le_of_ble_eq_true rfl), (Nat.le_of_ble_eq_true rfl)⟩ rfl rfl (Nat.le_of_ble_eq_true rfl)) rfl rfl rfl (Nat.zero_le _) (Nat.zero_le _) fun r1 h2 =>
    aw_iload_n (pc := 5) C (i := 2) dX10_stride_5 rfl rfl <|
    aw_iconst (pc := 6) C (v := 0) dX10_stride_6 rfl <|
    aw_aload_n (pc := 7) C (i := 0) dX10_stride_7 rfl rfl <|
    aw_getR (pc := 8) C (b := 42) dX10_stride_8 fl_X10_72 sC_0 rfl rC_0_1 <|
    aw_getI (pc := 11) C dX10_stride_11 fl_X10_163 (mt_s (Or.inl rfl)) rfl <|
    aw_iconst (pc := 14) C (v := 1) dX10_stride_14 rfl <|
    aw_isub (pc := 15) C dX10_stride_15 <|
    aw_callF (pc := 16) C (cr_S (rest := [.int r1]) (F := (X10_outside v2 0 ((h2.1 42 0) - 1))) C (c_X10_outside X.2.1 v2 0 ((h2.1 42 0) - 1)) dX10_stride_16 mf_X10_outside ml_X10_104 st_X10_outside ⟨(Nat.le_of_ble_eq_true rfl), (Nat.le_of_ble_eq_true rfl)⟩ rfl rfl (Nat.le_of_ble_eq_true rfl)) rfl rfl rfl (Nat.zero_le _) (Nat.zero_le _) fun r3 h4 =>
    aw_callF (pc := 19) C (cr_S (rest := []) (F := (X10_first r1 r3)) C (c_X10_first X.2.1 r1 r3) dX10_stride_19 mf_X10_first ml_X10_97 st_X10_first ⟨(Nat.le_of_ble_eq_true rfl), (Nat.le_of_ble_eq_true rfl)⟩ rfl rfl (Nat.le_of_ble_eq_true rfl)) rfl rfl rfl (Nat.zero_le _) (Nat.zero_le _) fun r5 h6 =>
    aw_istore_n (pc := 22) C (i := 3) (lv' := [(0, .ref 0), (1, .int v1), (2, .int v2), (3, .int r5)]) dX10_stride_22 rfl (by decide) rfl <|
    aw_iload_n (pc := 23) C (i := 3) dX10_stride_23 rfl rfl <|
    aw_if_eq (pc := 24) C (tgt := 33) dX10_stride_24 rfl (fun _ =>
    aw_aload_n (pc := 33) C (i := 0) dX10_stride_33 rfl rfl <|
    aw_getR (pc := 34) C (b := 42) dX10_stride_34 fl_X10_72 sC_0 rfl rC_0_1 <|
    aw_iload_n (pc := 37) C (i := 1) dX10_stride_37 rfl rfl <|
    aw_callF (pc := 38) C (cr_V (rest := []) (F := (X5_at 42 v1)) C (c_X5_at X.2.1 42 (Or.inl rfl) v1) dX10_stride_38 mf_X5_at ml_X10_169 im_X5_at se_X5_at (mt_s (Or.inl rfl)) rfl ⟨(Nat.le_of_ble_eq_true rfl), (Nat.le_of_ble_eq_true rfl)⟩ rfl rfl (Nat.le_of_ble_eq_true rfl)) rfl rfl rfl (Nat.zero_le _) (Nat.zero_le _) fun r7 h8 =>
    aw_cs fun hs9 =>
    aw_astore (pc := 41) C (i := 4) (lv' := [(0, .ref 0), (1, .int v1), (2, .int v2), (3, .int r5), (4, .ref r7)]) dX10_stride_41 (by decide) rfl <|
    aw_aload (pc := 43) C (i := 4) dX10_stride_43 rfl <|
    aw_getW (pc := 45) C (b := (36 + h8.2.2 r7 % 6)) dX10_stride_45 fl_X10_173 hs9 rfl rfl <|
    aw_aload (pc := 48) C (i := 4) dX10_stride_48 rfl <|
    aw_iload_n (pc := 50) C (i := 2) dX10_stride_50 rfl rfl <|
    aw_aload_n (pc := 51) C (i := 0) dX10_stride_51 rfl rfl <|
    aw_getR (pc := 52) C (b := 42) dX10_stride_52 fl_X10_72 sC_0 rfl rC_0_1 <|
    aw_getI (pc := 55) C dX10_stride_55 fl_X10_157 (mt_s (Or.inl rfl)) rfl <|
    aw_callF (pc := 58) C (kdA_strideOf C dX10_stride_58 ml_X10_225 (h8.2.2 r7) r7 hs9 v2 (h8.1 42 1) [] ⟨⟨(Nat.le_of_ble_eq_true rfl), (Nat.le_of_ble_eq_true rfl)⟩, ⟨(Nat.le_of_ble_eq_true rfl), (Nat.le_of_ble_eq_true rfl)⟩, ⟨(Nat.le_of_ble_eq_true rfl), (Nat.le_of_ble_eq_true rfl)⟩, ⟨(Nat.le_of_ble_eq_true rfl), (Nat.le_of_ble_eq_true rfl)⟩, ⟨(Nat.le_of_ble_eq_true rfl), (Nat.le_of_ble_eq_true rfl)⟩, ⟨(Nat.le_of_ble_eq_true rfl), (Nat.le_of_ble_eq_true rfl)⟩⟩ (Nat.le_of_ble_eq_true rfl)) rfl rfl rfl (Nat.zero_le _) (Nat.zero_le _) fun r10 h11 =>
    aw_iret (pc := 61) C dX10_stride_61 rfl rfl) (fun _ =>
    aw_aload_n (pc := 27) C (i := 0) dX10_stride_27 rfl rfl <|
    aw_iload_n (pc := 28) C (i := 3) dX10_stride_28 rfl rfl <|
    aw_callF (pc := 29) C (cr_V (rest := []) (F := (X10_refuse r5)) C (c_X10_refuse X.2.1 r5) dX10_stride_29 mf_X10_refuse ml_X10_111 im_X10_refuse se_X10_refuse sC_0 rfl ⟨(Nat.le_of_ble_eq_true rfl), (Nat.le_of_ble_eq_true rfl)⟩ rfl rfl (Nat.le_of_ble_eq_true rfl)) rfl rfl rfl (Nat.zero_le _) (Nat.zero_le _) fun r12 h13 =>
    aw_iret (pc := 32) C dX10_stride_32 rfl rfl)

abbrev rmX10_placeOf : Room := { frames := 4, cells := 0, slots := 0, locals := 93 }
def X10_placeOf (v1 : Int32) (h : AH) : Option (Int32 × AH) :=
    bd (X5_at 42 v1 h) fun r1 h2 =>
    cs ZC r1 (.inr 2) (bd (X2_path r1 (h2.1 42 0) (h2.1 42 1) h2) fun r4 h5 =>
    some (((h2.1 r1 8) - r4), h5))
set_option maxRecDepth 100000 in
theorem c_X10_placeOf (l : Launch) (v1 : Int32) : MC l yX10_placeOf cX10_placeOf 3 (some .int) rmX10_placeOf ZC [.ref 0, .int v1] rvI (X10_placeOf v1) :=
  MC.of (own := RX10) (by decide +kernel) rfl (Nat.le_of_ble_eq_true rfl) fun X yd A h _ C =>
    aw_aload_n (pc := 0) C (i := 0) dX10_placeOf_0 rfl rfl <|
    aw_getR (pc := 1) C (b := 42) dX10_placeOf_1 fl_X10_72 sC_0 rfl rC_0_1 <|
    aw_iload_n (pc := 4) C (i := 1) dX10_placeOf_4 rfl rfl <|
    aw_callF (pc := 5) C (cr_V (rest := []) (F := (X5_at 42 v1)) C (c_X5_at X.2.1 42 (Or.inl rfl) v1) dX10_placeOf_5 mf_X5_at ml_X10_169 im_X5_at se_X5_at (mt_s (Or.inl rfl)) rfl ⟨(Nat.le_of_ble_eq_true rfl), (Nat.le_of_ble_eq_true rfl)⟩ rfl rfl (Nat.le_of_ble_eq_true rfl)) rfl rfl rfl (Nat.zero_le _) (Nat.zero_le _) fun r1 h2 =>
    aw_cs fun hs3 =>
    aw_astore_n (pc := 8) C (i := 2) (lv' := [(0, .ref 0), (1, .int v1), (2, .ref r1)]) dX10_placeOf_8 rfl (by decide) rfl <|
    aw_aload_n (pc := 9) C (i := 2) dX10_placeOf_9 rfl rfl <|
    aw_getI (pc := 10) C dX10_placeOf_10 fl_X10_198 hs3 rfl <|
    aw_aload_n (pc := 13) C (i := 2) dX10_placeOf_13 rfl rfl <|
    aw_aload_n (pc := 14) C (i := 0) dX10_placeOf_14 rfl rfl <|
    aw_getR (pc := 15) C (b := 42) dX10_placeOf_15 fl_X10_72 sC_0 rfl rC_0_1 <|
    aw_getI (pc := 18) C dX10_placeOf_18 fl_X10_163 (mt_s (Or.inl rfl)) rfl <|
    aw_aload_n (pc := 21) C (i := 0) dX10_placeOf_21 rfl rfl <|
    aw_getR (pc := 22) C (b := 42) dX10_placeOf_22 fl_X10_72 sC_0 rfl rC_0_1 <|
    aw_getI (pc := 25) C dX10_placeOf_25 fl_X10_157 (mt_s (Or.inl rfl)) rfl <|
    aw_callF (pc := 28) C (cr_V (rest := [.int (h2.1 r1 8)]) (F := (X2_path r1 (h2.1 42 0) (h2.1 42 1))) C (c_X2_path X.2.1 r1 hs3 (h2.1 42 0) (h2.1 42 1)) dX10_placeOf_28 mf_X2_path ml_X10_232 im_X2_path se_X2_path hs3 rfl ⟨(Nat.le_of_ble_eq_true rfl), (Nat.le_of_ble_eq_true rfl)⟩ rfl rfl (Nat.le_of_ble_eq_true rfl)) rfl rfl rfl (Nat.zero_le _) (Nat.zero_le _) fun r4 h5 =>
    aw_isub (pc := 31) C dX10_placeOf_31 <|
    aw_iret (pc := 32) C dX10_placeOf_32 rfl rfl

abbrev rmX10_place : Room := { frames := 5, cells := 0, slots := 0, locals := 115 }
def X10_place (v1 : Int32) (h : AH) : Option (Int32 × AH) :=
    bd (X10_nobody v1 h) fun r1 h2 =>
    if r1 = 0 then (bd (X10_placeOf v1 h2) fun r3 h4 =>
    some (r3, h4))
    else (bd (X10_refuse r1 h2) fun r5 h6 =>
    some ((1000000000 - r5), h6))
set_option maxRecDepth 100000 in
theorem c_X10_place (l : Launch) (v1 : Int32) : MC l yX10_place cX10_place 3 (some .int) rmX10_place ZC [.ref 0, .int v1] rvI (X10_place v1) :=
  MC.of (own := RX10) (by decide +kernel) rfl (Nat.le_of_ble_eq_true rfl) fun X yd A h _ C =>
    aw_aload_n (pc := 0) C (i := 0) dX10_place_0 rfl rfl <|
    aw_iload_n (pc := 1) C (i := 1) dX10_place_1 rfl rfl <|
    aw_callF (pc := 2) C (cr_V (rest := []) (F := (X10_nobody v1)) C (c_X10_nobody X.2.1 v1) dX10_place_2 mf_X10_nobody ml_X10_93 im_X10_nobody se_X10_nobody sC_0 rfl ⟨(Nat.le_of_ble_eq_true rfl), (Nat.le_of_ble_eq_true rfl)⟩ rfl rfl (Nat.le_of_ble_eq_true rfl)) rfl rfl rfl (Nat.zero_le _) (Nat.zero_le _) fun r1 h2 =>
    aw_istore_n (pc := 5) C (i := 2) (lv' := [(0, .ref 0), (1, .int v1), (2, .int r1)]) dX10_place_5 rfl (by decide) rfl <|
    aw_iload_n (pc := 6) C (i := 2) dX10_place_6 rfl rfl <|
    aw_if_eq (pc := 7) C (tgt := 21) dX10_place_7 rfl (fun _ =>
    aw_aload_n (pc := 21) C (i := 0) dX10_place_21 rfl rfl <|
    aw_iload_n (pc := 22) C (i := 1) dX10_place_22 rfl rfl <|
    aw_callF (pc := 23) C (cr_V (rest := []) (F := (X10_placeOf v1)) C (c_X10_placeOf X.2.1 v1) dX10_place_23 mf_X10_placeOf ml_X10_229 im_X10_placeOf se_X10_placeOf sC_0 rfl ⟨(Nat.le_of_ble_eq_true rfl), (Nat.le_of_ble_eq_true rfl)⟩ rfl rfl (Nat.le_of_ble_eq_true rfl)) rfl rfl rfl (Nat.zero_le _) (Nat.zero_le _) fun r3 h4 =>
    aw_iret (pc := 26) C dX10_place_26 rfl rfl) (fun _ =>
    aw_ldc (pc := 10) C (v := 1000000000) dX10_place_10 kc_X10_224 <|
    aw_aload_n (pc := 12) C (i := 0) dX10_place_12 rfl rfl <|
    aw_iload_n (pc := 13) C (i := 2) dX10_place_13 rfl rfl <|
    aw_callF (pc := 14) C (cr_V (rest := [.int 1000000000]) (F := (X10_refuse r1)) C (c_X10_refuse X.2.1 r1) dX10_place_14 mf_X10_refuse ml_X10_111 im_X10_refuse se_X10_refuse sC_0 rfl ⟨(Nat.le_of_ble_eq_true rfl), (Nat.le_of_ble_eq_true rfl)⟩ rfl rfl (Nat.le_of_ble_eq_true rfl)) rfl rfl rfl (Nat.zero_le _) (Nat.zero_le _) fun r5 h6 =>
    aw_isub (pc := 17) C dX10_place_17 <|
    aw_goto (pc := 18) C (tgt := 26) dX10_place_18 rfl <|
    aw_iret (pc := 26) C dX10_place_26 rfl rfl)

abbrev rmX10_length : Room := { frames := 3, cells := 0, slots := 0, locals := 74 }
def X10_length (v1 : Int32) (v2 : Int32) (v3 : Int32) (h : AH) : Option (Int32 × AH) :=
    bd (X10_nobody v1 h) fun r1 h2 =>
    bd (X10_outside v2 0 300 h2) fun r3 h4 =>
    bd (X10_outside v3 0 99 h4) fun r5 h6 =>
    bd (X10_outsideTwo r3 r5 h6) fun r7 h8 =>
    bd (X10_first r1 r7 h8) fun r9 h10 =>
    if r9 = 0 then (bd (X5_at 42 v1 h10) fun r11 h12 =>
    cs ZC r11 (.inr 2) (bd (kd (h12.2.2 r11) (X3_lengthOf r11 v2 v3 (h12.1 42 1) h12) (X7_lengthOf r11 v2 v3 (h12.1 42 1) h12) (X0_lengthOf r11 v2 v3 (h12.1 42 1) h12) (X7_lengthOf r11 v2 v3 (h12.1 42 1) h12) (X9_lengthOf r11 v2 v3 (h12.1 42 1) h12) (X8_lengthOf r11 v2 v3 (h12.1 42 1) h12)) fun r14 h15 =>
    some (r14, h15)))
    else (bd (X10_refuse r9 h10) fun r16 h17 =>
    some (r16, h17))
set_option maxRecDepth 100000 in
theorem c_X10_length (l : Launch) (v1 : Int32) (v2 : Int32) (v3 : Int32) : MC l yX10_length cX10_length 6 (some .int) rmX10_length ZC [.ref 0, .int v1, .int v2, .int v3] rvI (X10_length v1 v2 v3) :=
  MC.of (own := RX10) (by decide +kernel) rfl (Nat.le_of_ble_eq_true rfl) fun X yd A h _ C =>
    aw_aload_n (pc := 0) C (i := 0) dX10_length_0 rfl rfl <|
    aw_iload_n (pc := 1) C (i := 1) dX10_length_1 rfl rfl <|
    aw_callF (pc := 2) C (cr_V (rest := []) (F := (X10_nobody v1)) C (c_X10_nobody X.2.1 v1) dX10_length_2 mf_X10_nobody ml_X10_93 im_X10_nobody se_X10_nobody sC_0 rfl ⟨(Nat.le_of_ble_eq_true rfl), (Nat.le_of_ble_eq_true rfl)⟩ rfl rfl (Nat.le_of_ble_eq_true rfl)) rfl rfl rfl (Nat.zero_le _) (Nat.zero_le _) fun r1 h2 =>
    aw_iload_n (pc := 5) C (i := 2) dX10_length_5 rfl rfl <|
    aw_iconst (pc := 6) C (v := 0) dX10_length_6 rfl <|
    aw_sipush (pc := 7) C (v := 300) dX10_length_7 rfl <|
    aw_callF (pc := 10) C (cr_S (rest := [.int r1]) (F := (X10_outside v2 0 300)) C (c_X10_outside X.2.1 v2 0 300) dX10_length_10 mf_X10_outside ml_X10_104 st_X10_outside ⟨(Nat.le_of_ble_eq_true rfl), (Nat.le_of_ble_eq_true rfl)⟩ rfl rfl (Nat.le_of_ble_eq_true rfl)) rfl rfl rfl (Nat.zero_le _) (Nat.zero_le _) fun r3 h4 =>
    aw_iload_n (pc := 13) C (i := 3) dX10_length_13 rfl rfl <|
    aw_iconst (pc := 14) C (v := 0) dX10_length_14 rfl <|
    aw_bipush (pc := 15) C (v := 99) dX10_length_15 rfl <|
    aw_callF (pc := 17) C (cr_S (rest := [.int r3, .int r1]) (F := (X10_outside v3 0 99)) C (c_X10_outside X.2.1 v3 0 99) dX10_length_17 mf_X10_outside ml_X10_104 st_X10_outside ⟨(Nat.le_of_ble_eq_true rfl), (Nat.le_of_ble_eq_true rfl)⟩ rfl rfl (Nat.le_of_ble_eq_true rfl)) rfl rfl rfl (Nat.zero_le _) (Nat.zero_le _) fun r5 h6 =>
    aw_callF (pc := 20) C (cr_S (rest := [.int r1]) (F := (X10_outsideTwo r3 r5)) C (c_X10_outsideTwo X.2.1 r3 r5) dX10_length_20 mf_X10_outsideTwo ml_X10_235 st_X10_outsideTwo ⟨(Nat.le_of_ble_eq_true rfl), (Nat.le_of_ble_eq_true rfl)⟩ rfl rfl (Nat.le_of_ble_eq_true rfl)) rfl rfl rfl (Nat.zero_le _) (Nat.zero_le _) fun r7 h8 =>
    aw_callF (pc := 23) C (cr_S (rest := []) (F := (X10_first r1 r7)) C (c_X10_first X.2.1 r1 r7) dX10_length_23 mf_X10_first ml_X10_97 st_X10_first ⟨(Nat.le_of_ble_eq_true rfl), (Nat.le_of_ble_eq_true rfl)⟩ rfl rfl (Nat.le_of_ble_eq_true rfl)) rfl rfl rfl (Nat.zero_le _) (Nat.zero_le _) fun r9 h10 =>
    aw_istore (pc := 26) C (i := 4) (lv' := [(0, .ref 0), (1, .int v1), (2, .int v2), (3, .int v3), (4, .int r9)]) dX10_length_26 (by decide) rfl <|
    aw_iload (pc := 28) C (i := 4) dX10_length_28 rfl <|
    aw_if_eq (pc := 30) C (tgt := 40) dX10_length_30 rfl (fun _ =>
    aw_aload_n (pc := 40) C (i := 0) dX10_length_40 rfl rfl <|
    aw_getR (pc := 41) C (b := 42) dX10_length_41 fl_X10_72 sC_0 rfl rC_0_1 <|
    aw_iload_n (pc := 44) C (i := 1) dX10_length_44 rfl rfl <|
    aw_callF (pc := 45) C (cr_V (rest := []) (F := (X5_at 42 v1)) C (c_X5_at X.2.1 42 (Or.inl rfl) v1) dX10_length_45 mf_X5_at ml_X10_169 im_X5_at se_X5_at (mt_s (Or.inl rfl)) rfl ⟨(Nat.le_of_ble_eq_true rfl), (Nat.le_of_ble_eq_true rfl)⟩ rfl rfl (Nat.le_of_ble_eq_true rfl)) rfl rfl rfl (Nat.zero_le _) (Nat.zero_le _) fun r11 h12 =>
    aw_cs fun hs13 =>
    aw_astore (pc := 48) C (i := 5) (lv' := [(0, .ref 0), (1, .int v1), (2, .int v2), (3, .int v3), (4, .int r9), (5, .ref r11)]) dX10_length_48 (by decide) rfl <|
    aw_aload (pc := 50) C (i := 5) dX10_length_50 rfl <|
    aw_getW (pc := 52) C (b := (36 + h12.2.2 r11 % 6)) dX10_length_52 fl_X10_173 hs13 rfl rfl <|
    aw_aload (pc := 55) C (i := 5) dX10_length_55 rfl <|
    aw_iload_n (pc := 57) C (i := 2) dX10_length_57 rfl rfl <|
    aw_iload_n (pc := 58) C (i := 3) dX10_length_58 rfl rfl <|
    aw_aload_n (pc := 59) C (i := 0) dX10_length_59 rfl rfl <|
    aw_getR (pc := 60) C (b := 42) dX10_length_60 fl_X10_72 sC_0 rfl rC_0_1 <|
    aw_getI (pc := 63) C dX10_length_63 fl_X10_157 (mt_s (Or.inl rfl)) rfl <|
    aw_callF (pc := 66) C (kdA_lengthOf C dX10_length_66 ml_X10_238 (h12.2.2 r11) r11 hs13 v2 v3 (h12.1 42 1) [] ⟨⟨(Nat.le_of_ble_eq_true rfl), (Nat.le_of_ble_eq_true rfl)⟩, ⟨(Nat.le_of_ble_eq_true rfl), (Nat.le_of_ble_eq_true rfl)⟩, ⟨(Nat.le_of_ble_eq_true rfl), (Nat.le_of_ble_eq_true rfl)⟩, ⟨(Nat.le_of_ble_eq_true rfl), (Nat.le_of_ble_eq_true rfl)⟩, ⟨(Nat.le_of_ble_eq_true rfl), (Nat.le_of_ble_eq_true rfl)⟩, ⟨(Nat.le_of_ble_eq_true rfl), (Nat.le_of_ble_eq_true rfl)⟩⟩ (Nat.le_of_ble_eq_true rfl)) rfl rfl rfl (Nat.zero_le _) (Nat.zero_le _) fun r14 h15 =>
    aw_iret (pc := 69) C dX10_length_69 rfl rfl) (fun _ =>
    aw_aload_n (pc := 33) C (i := 0) dX10_length_33 rfl rfl <|
    aw_iload (pc := 34) C (i := 4) dX10_length_34 rfl <|
    aw_callF (pc := 36) C (cr_V (rest := []) (F := (X10_refuse r9)) C (c_X10_refuse X.2.1 r9) dX10_length_36 mf_X10_refuse ml_X10_111 im_X10_refuse se_X10_refuse sC_0 rfl ⟨(Nat.le_of_ble_eq_true rfl), (Nat.le_of_ble_eq_true rfl)⟩ rfl rfl (Nat.le_of_ble_eq_true rfl)) rfl rfl rfl (Nat.zero_le _) (Nat.zero_le _) fun r16 h17 =>
    aw_iret (pc := 39) C dX10_length_39 rfl rfl)

abbrev rmX10_fraction : Room := { frames := 0, cells := 0, slots := 0, locals := 0 }
def X10_fraction_j55  (v5 : Int64) (s0 : Int64) (h : AH) : Option (Int64 × AH) :=
    if (lcmpV v5 0) = 0 then (some (s0, h))
    else (if v5 = 0 then none else (some ((s0 / v5), h)))
set_option maxRecDepth 100000 in
theorem aX10_fraction_j55 {X : MCx} {yd : Dyn} {A : Nat → Prop} (C : OK X cX10_fraction RX10 12 (some .long) rmX10_fraction A)  (v5 : Int64) (s0 : Int64) (h : AH) : AW X 12 ZC yd A 0 0 (QF X rmX10_fraction ZC yd rvL A) 55 [(5, .long v5)] [.long s0] h (X10_fraction_j55 v5 s0 h) := by
    exact aw_lstore (pc := 55) C (i := 9) (lv' := [(5, .long v5), (9, .long s0)]) dX10_fraction_55 (by decide) rfl <|
    aw_lload (pc := 57) C (i := 5) dX10_fraction_57 rfl <|
    aw_lconst (pc := 59) C (v := 0) dX10_fraction_59 rfl <|
    aw_lcmp (pc := 60) C dX10_fraction_60 <|
    aw_if_ne (pc := 61) C (tgt := 69) dX10_fraction_61 rfl (fun _ =>
    aw_lload (pc := 64) C (i := 9) dX10_fraction_64 rfl <|
    aw_goto (pc := 66) C (tgt := 74) dX10_fraction_66 rfl <|
    aw_lret (pc := 74) C dX10_fraction_74 rfl rfl) (fun _ =>
    aw_lload (pc := 69) C (i := 9) dX10_fraction_69 rfl <|
    aw_lload (pc := 71) C (i := 5) dX10_fraction_71 rfl <|
    aw_ldiv (pc := 73) C dX10_fraction_73 <|
    aw_lret (pc := 74) C dX10_fraction_74 rfl rfl)
def X10_fraction_j45  (v0 : Int64) (v2 : Int64) (v4 : Int32) (v5 : Int64) (h : AH) : Option (Int64 × AH) :=
    if v4 = 0 then (X10_fraction_j55 v5 v0 h)
    else (X10_fraction_j55 v5 v2 h)
set_option maxRecDepth 100000 in
theorem aX10_fraction_j45 {X : MCx} {yd : Dyn} {A : Nat → Prop} (C : OK X cX10_fraction RX10 12 (some .long) rmX10_fraction A)  (v0 : Int64) (v2 : Int64) (v4 : Int32) (v5 : Int64) (h : AH) : AW X 12 ZC yd A 0 0 (QF X rmX10_fraction ZC yd rvL A) 45 [(0, .long v0), (2, .long v2), (4, .int v4), (5, .long v5)] [] h (X10_fraction_j45 v0 v2 v4 v5 h) := by
    exact aw_iload (pc := 45) C (i := 4) dX10_fraction_45 rfl <|
    aw_if_ne (pc := 47) C (tgt := 54) dX10_fraction_47 rfl (fun _ =>
    aw_lload_n (pc := 50) C (i := 0) dX10_fraction_50 rfl rfl <|
    aw_goto (pc := 51) C (tgt := 55) dX10_fraction_51 rfl <|
    aw_drop [3] (aX10_fraction_j55 C v5 v0 h)) (fun _ =>
    aw_lload_n (pc := 54) C (i := 2) dX10_fraction_54 rfl rfl <|
    aw_drop [3] (aX10_fraction_j55 C v5 v2 h))
def X10_fraction_l9  (v0 : Int64) (v2 : Int64) (v4 : Int32) : Nat → Int64 → Int64 → Int32 → AH → Option (Int64 × AH)
  | 0, _, _, _, _ => none
  | n + 1, v5, v7, v9, h =>
    if 1000 ≤ v9 then (X10_fraction_j45 v0 v2 v4 v5 h)
    else (if (lcmpV v7 0) = 0 then (X10_fraction_j45 v0 v2 v4 v5 h)
    else (if v7 = 0 then none else (vl (rm64 v5 v7) fun x1 =>
    vl (v9 + 1) fun x2 =>
    (X10_fraction_l9 v0 v2 v4 n) v7 x1 x2 h)))
set_option maxRecDepth 100000 in
theorem aX10_fraction_l9 {X : MCx} {yd : Dyn} {A : Nat → Prop} (C : OK X cX10_fraction RX10 12 (some .long) rmX10_fraction A)  (v0 : Int64) (v2 : Int64) (v4 : Int32) : ∀ (n : Nat) (v5 : Int64) (v7 : Int64) (v9 : Int32) (h : AH), AW X 12 ZC yd A 0 0 (QF X rmX10_fraction ZC yd rvL A) 9 [(0, .long v0), (2, .long v2), (4, .int v4), (5, .long v5), (7, .long v7), (9, .int v9)] [] h (X10_fraction_l9 v0 v2 v4 n v5 v7 v9 h) := by
  intro n
  induction n with
  | zero => intro v5 v7 v9 h; exact aw_none
  | succ n ih =>
    intro v5 v7 v9 h
    exact aw_iload (pc := 9) C (i := 9) dX10_fraction_9 rfl <|
    aw_sipush (pc := 11) C (v := 1000) dX10_fraction_11 rfl <|
    aw_icmp_ge (pc := 14) C (tgt := 45) dX10_fraction_14 rfl (fun _ =>
    aw_drop [0, 1, 2, 3] (aX10_fraction_j45 C v0 v2 v4 v5 h)) (fun _ =>
    aw_lload (pc := 17) C (i := 7) dX10_fraction_17 rfl <|
    aw_lconst (pc := 19) C (v := 0) dX10_fraction_19 rfl <|
    aw_lcmp (pc := 20) C dX10_fraction_20 <|
    aw_if_eq (pc := 21) C (tgt := 45) dX10_fraction_21 rfl (fun _ =>
    aw_drop [0, 1, 2, 3] (aX10_fraction_j45 C v0 v2 v4 v5 h)) (fun _ =>
    aw_lload (pc := 24) C (i := 5) dX10_fraction_24 rfl <|
    aw_lload (pc := 26) C (i := 7) dX10_fraction_26 rfl <|
    aw_lrem (pc := 28) C dX10_fraction_28 <|
    aw_lstoreV (pc := 29) C (i := 10) (fun x1 => [(0, .long v0), (2, .long v2), (4, .int v4), (5, .long v5), (7, .long v7), (9, .int v9), (10, .long x1)]) dX10_fraction_29 (by decide) (fun _ => rfl) fun x1 =>
    aw_lload (pc := 31) C (i := 7) dX10_fraction_31 rfl <|
    aw_lstore (pc := 33) C (i := 5) (lv' := [(0, .long v0), (2, .long v2), (4, .int v4), (5, .long v7), (7, .long v7), (9, .int v9), (10, .long x1)]) dX10_fraction_33 (by decide) rfl <|
    aw_lload (pc := 35) C (i := 10) dX10_fraction_35 rfl <|
    aw_lstore (pc := 37) C (i := 7) (lv' := [(0, .long v0), (2, .long v2), (4, .int v4), (5, .long v7), (7, .long x1), (9, .int v9), (10, .long x1)]) dX10_fraction_37 (by decide) rfl <|
    aw_iincV (pc := 39) C (i := 9) (cst := 1) (fun x2 => [(0, .long v0), (2, .long v2), (4, .int v4), (5, .long v7), (7, .long x1), (9, .int x2), (10, .long x1)]) dX10_fraction_39 rfl rfl (by decide) (fun _ => rfl) fun x2 =>
    aw_goto (pc := 42) C (tgt := 9) dX10_fraction_42 rfl <|
    aw_drop [0, 1, 2, 3, 4, 5] (ih v7 x1 x2 h)))
def X10_fraction (v0 : Int64) (v2 : Int64) (v4 : Int32) (h : AH) : Option (Int64 × AH) :=
    X10_fraction_l9 v0 v2 v4 FU v0 v2 0 h
set_option maxRecDepth 100000 in
theorem c_X10_fraction (l : Launch) (v0 : Int64) (v2 : Int64) (v4 : Int32) : MC l yX10_fraction cX10_fraction 12 (some .long) rmX10_fraction ZC [.long v0, .long v2, .int v4] rvL (X10_fraction v0 v2 v4) :=
  MC.of (own := RX10) (by decide +kernel) rfl (Nat.le_of_ble_eq_true rfl) fun X yd A h _ C =>
    aw_lload_n (pc := 0) C (i := 0) dX10_fraction_0 rfl rfl <|
    aw_lstore (pc := 1) C (i := 5) (lv' := [(0, .long v0), (2, .long v2), (4, .int v4), (5, .long v0)]) dX10_fraction_1 (by decide) rfl <|
    aw_lload_n (pc := 3) C (i := 2) dX10_fraction_3 rfl rfl <|
    aw_lstore (pc := 4) C (i := 7) (lv' := [(0, .long v0), (2, .long v2), (4, .int v4), (5, .long v0), (7, .long v2)]) dX10_fraction_4 (by decide) rfl <|
    aw_iconst (pc := 6) C (v := 0) dX10_fraction_6 rfl <|
    aw_istore (pc := 7) C (i := 9) (lv' := [(0, .long v0), (2, .long v2), (4, .int v4), (5, .long v0), (7, .long v2), (9, .int 0)]) dX10_fraction_7 (by decide) rfl <|
    (aX10_fraction_l9 C v0 v2 v4 FU v0 v2 0 h)
