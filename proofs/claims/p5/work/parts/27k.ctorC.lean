abbrev rmX10_init_i0 : Room := { frames := 5, cells := 72, slots := 4479, locals := 100 }
def X10_init_i0 (h : AH) : Option (Unit × AH) :=
    vl (zN h 1) fun h1 =>
    vl (zN h1 2) fun h3 =>
    vl (zN h3 3) fun h5 =>
    vl (zN h5 4) fun h7 =>
    vl (zN h7 5) fun h9 =>
    bd (X6_init_i5 h9) fun _ h11 =>
    vl (zN h11 8) fun h14 =>
    bd (X1_init_i8 h14) fun _ h16 =>
    vl (zN h16 32) fun h19 =>
    vl (zN h19 33) fun h21 =>
    vl (zN h21 34) fun h23 =>
    vl (zN h23 35) fun h25 =>
    vl (zN h25 36) fun h27 =>
    bd (X3_init_i36 h27) fun _ h29 =>
    vl (zN h29 37) fun h32 =>
    bd (X7_init_i37 h32) fun _ h34 =>
    vl (zN h34 38) fun h37 =>
    bd (X0_init_i38 h37) fun _ h39 =>
    vl (zN h39 39) fun h42 =>
    bd (X4_init_i39 h42) fun _ h44 =>
    vl (zN h44 40) fun h47 =>
    bd (X9_init_i40 h47) fun _ h49 =>
    vl (zN h49 41) fun h52 =>
    bd (X8_init_i41 h52) fun _ h54 =>
    vl (zN h54 42) fun h57 =>
    bd (X5_init_i42 h57) fun _ h59 =>
    vl (zN h59 52) fun h62 =>
    bd (X5_init_i52 h62) fun _ h64 =>
    vl (zN h64 62) fun h67 =>
    bd (X5_init_i62 h67) fun _ h69 =>
    vl (zN h69 72) fun h72 =>
    bd (X2_init_i72 h72) fun _ h74 =>
    some ((), h74)
set_option maxRecDepth 100000 in
set_option maxHeartbeats 4000000 in
theorem c_X10_init_i0 (l : Launch) : MCN l yX10_init cX10_init 2 rmX10_init_i0 KX YC0 YC115 [.ref 0] X10_init_i0 :=
  MCN.of (own := RX10) (by decide +kernel) rfl rfl (Nat.le_of_ble_eq_true rfl) fun X yd A h C hKX hin =>
    aw_aload_n (pc := 0) C (i := 0) dX10_init_0 rfl rfl <|
    aw_objInit (pc := 1) C dX10_init_1 mo_X10_1 w_oi w_oc ⟨(Nat.le_of_ble_eq_true rfl), (Nat.le_of_ble_eq_true rfl)⟩ <|
    aw_aload_n (pc := 4) C (i := 0) dX10_init_4 rfl rfl <|
    aw_bipush (pc := 5) C (v := 6) dX10_init_5 rfl <|
    aw_newqm (pc := 7) C (Z' := YC1) (N := 6) (t := 3) hKX.1 kl_X10_9 ln_YC0 wf_YC0 dX10_init_7 (by decide) rfl (by decide) rfl rfl rfl (Nat.le_of_ble_eq_true rfl) (Nat.le_of_ble_eq_true rfl) fun a2 h1 =>
    aw_putRF (pc := 10) C (Z' := YC2) hin dX10_init_10 fpf_X10_11 rfl rfl (fun _ => rfl) (fun _ => rfl) rfl <|
    aw_aload_n (pc := 13) C (i := 0) dX10_init_13 rfl rfl <|
    aw_bipush (pc := 14) C (v := 96) dX10_init_14 rfl <|
    aw_newIm (pc := 16) C (Z' := YC3) (N := 96) ln_YC2 wf_YC2 dX10_init_16 (by decide) rfl (by decide) rfl rfl rfl (Nat.le_of_ble_eq_true rfl) (Nat.le_of_ble_eq_true rfl) fun a4 h3 =>
    aw_putRF (pc := 18) C (Z' := YC4) hin dX10_init_18 fpf_X10_15 rfl rfl (fun _ => rfl) (fun _ => rfl) rfl <|
    aw_aload_n (pc := 21) C (i := 0) dX10_init_21 rfl rfl <|
    aw_bipush (pc := 22) C (v := 12) dX10_init_22 rfl <|
    aw_newIm (pc := 24) C (Z' := YC5) (N := 12) ln_YC4 wf_YC4 dX10_init_24 (by decide) rfl (by decide) rfl rfl rfl (Nat.le_of_ble_eq_true rfl) (Nat.le_of_ble_eq_true rfl) fun a6 h5 =>
    aw_putRF (pc := 26) C (Z' := YC6) hin dX10_init_26 fpf_X10_19 rfl rfl (fun _ => rfl) (fun _ => rfl) rfl <|
    aw_aload_n (pc := 29) C (i := 0) dX10_init_29 rfl rfl <|
    aw_bipush (pc := 30) C (v := 7) dX10_init_30 rfl <|
    aw_newIm (pc := 32) C (Z' := YC7) (N := 7) ln_YC6 wf_YC6 dX10_init_32 (by decide) rfl (by decide) rfl rfl rfl (Nat.le_of_ble_eq_true rfl) (Nat.le_of_ble_eq_true rfl) fun a8 h7 =>
    aw_putRF (pc := 34) C (Z' := YC8) hin dX10_init_34 fpf_X10_22 rfl rfl (fun _ => rfl) (fun _ => rfl) rfl <|
    aw_aload_n (pc := 37) C (i := 0) dX10_init_37 rfl rfl <|
    aw_newm (pc := 38) C (Z' := YC9) (ci := 6) (N := 3) (T := TX6) (codes := fty 6) (.inr 6) ln_YC8 wf_YC8 dX10_init_38 rfl wsin_X6 tyX6_ok kl_X10_25 ki_X6 kn_X6 (fun _ _ _ _ => rfl) n3_X6 df_X6 rfl rfl (Nat.le_of_ble_eq_true rfl) (Nat.le_of_ble_eq_true rfl) fun a10 h9 =>
    aw_dup (pc := 41) C dX10_init_41 rfl <|
    aw_callC (pc := 42) C (Z' := YC13) (rm' := rmX6_init_i5) (F := X6_init_i5) (run_IN (host := "MarkToBoard") (As := []) (rest := [.ref 5, .ref 0]) (b := 5) C kx_m kx_b hKX (c_X6_init_i5 X.2.1) dX10_init_42 mf_X6_init (hKX.2.2.2.1 _ kx_X10_27) im_X6_init rfl ⟨(Nat.le_of_ble_eq_true rfl), (Nat.le_of_ble_eq_true rfl)⟩ rfl rfl (Nat.le_of_ble_eq_true rfl) ⟨(Nat.le_of_ble_eq_true rfl), (Nat.le_of_ble_eq_true rfl)⟩) rfl rfl (fun ad12 h11 ha13 =>
    aw_putRF (pc := 45) C (Z' := YC14) hin dX10_init_45 fpf_X10_28 rfl rfl (fun _ => rfl) (fun _ => rfl) rfl <|
    aw_aload_n (pc := 48) C (i := 0) dX10_init_48 rfl rfl <|
    aw_newm (pc := 49) C (Z' := YC15) (ci := 1) (N := 5) (T := TX1) (codes := fty 1) (.inr 1) ln_YC14 wf_YC14 dX10_init_49 rfl wsin_X1 tyX1_ok kl_X10_32 ki_X1 kn_X1 (fun _ _ _ _ => rfl) n3_X1 df_X1 rfl rfl (Nat.le_of_ble_eq_true rfl) (Nat.le_of_ble_eq_true rfl) fun a15 h14 =>
    aw_dup (pc := 52) C dX10_init_52 rfl <|
    aw_callC (pc := 53) C (Z' := YC19) (rm' := rmX1_init_i8) (F := X1_init_i8) (run_I (As := []) (rest := [.ref 8, .ref 0]) (b := 8) C kx_m kx_b hKX (c_X1_init_i8 X.2.1) dX10_init_53 mf_X1_init mj_X10_34 im_X1_init rfl ⟨(Nat.le_of_ble_eq_true rfl), (Nat.le_of_ble_eq_true rfl)⟩ rfl rfl (Nat.le_of_ble_eq_true rfl) ⟨(Nat.le_of_ble_eq_true rfl), (Nat.le_of_ble_eq_true rfl)⟩) rfl rfl (fun ad17 h16 ha18 =>
    aw_putRF (pc := 56) C (Z' := YC20) hin dX10_init_56 fpf_X10_35 rfl rfl (fun _ => rfl) (fun _ => rfl) rfl <|
    aw_aload_n (pc := 59) C (i := 0) dX10_init_59 rfl rfl <|
    aw_sipush (pc := 60) C (v := 1000) dX10_init_60 rfl <|
    aw_newIm (pc := 63) C (Z' := YC21) (N := 1000) ln_YC20 wf_YC20 dX10_init_63 (by decide) rfl (by decide) rfl rfl rfl (Nat.le_of_ble_eq_true rfl) (Nat.le_of_ble_eq_true rfl) fun a20 h19 =>
    aw_putRF (pc := 65) C (Z' := YC22) hin dX10_init_65 fpf_X10_39 rfl rfl (fun _ => rfl) (fun _ => rfl) rfl <|
    aw_aload_n (pc := 68) C (i := 0) dX10_init_68 rfl rfl <|
    aw_sipush (pc := 69) C (v := 1000) dX10_init_69 rfl <|
    aw_newIm (pc := 72) C (Z' := YC23) (N := 1000) ln_YC22 wf_YC22 dX10_init_72 (by decide) rfl (by decide) rfl rfl rfl (Nat.le_of_ble_eq_true rfl) (Nat.le_of_ble_eq_true rfl) fun a22 h21 =>
    aw_putRF (pc := 74) C (Z' := YC24) hin dX10_init_74 fpf_X10_42 rfl rfl (fun _ => rfl) (fun _ => rfl) rfl <|
    aw_aload_n (pc := 77) C (i := 0) dX10_init_77 rfl rfl <|
    aw_bipush (pc := 78) C (v := 9) dX10_init_78 rfl <|
    aw_newIm (pc := 80) C (Z' := YC25) (N := 9) ln_YC24 wf_YC24 dX10_init_80 (by decide) rfl (by decide) rfl rfl rfl (Nat.le_of_ble_eq_true rfl) (Nat.le_of_ble_eq_true rfl) fun a24 h23 =>
    aw_putRF (pc := 82) C (Z' := YC26) hin dX10_init_82 fpf_X10_45 rfl rfl (fun _ => rfl) (fun _ => rfl) rfl <|
    aw_aload_n (pc := 85) C (i := 0) dX10_init_85 rfl rfl <|
    aw_iconst (pc := 86) C (v := 4) dX10_init_86 rfl <|
    aw_newIm (pc := 87) C (Z' := YC27) (N := 4) ln_YC26 wf_YC26 dX10_init_87 (by decide) rfl (by decide) rfl rfl rfl (Nat.le_of_ble_eq_true rfl) (Nat.le_of_ble_eq_true rfl) fun a26 h25 =>
    aw_putRF (pc := 89) C (Z' := YC28) hin dX10_init_89 fpf_X10_48 rfl rfl (fun _ => rfl) (fun _ => rfl) rfl <|
    aw_newm (pc := 92) C (Z' := YC29) (ci := 3) (N := 0) (T := TX3) (codes := fty 3) (.inr 3) ln_YC28 wf_YC28 dX10_init_92 rfl wsin_X3 tyX3_ok kl_X10_9 ki_X3 kn_X3 (fun _ _ _ _ => rfl) n3_X3 df_X3 rfl rfl (Nat.le_of_ble_eq_true rfl) (Nat.le_of_ble_eq_true rfl) fun a28 h27 =>
    aw_dup (pc := 95) C dX10_init_95 rfl <|
    aw_callC (pc := 96) C (Z' := YC29) (rm' := rmX3_init_i36) (F := X3_init_i36) (run_IN (host := "MarkToBoard") (As := []) (rest := [.ref 36]) (b := 36) C kx_m kx_b hKX (c_X3_init_i36 X.2.1) dX10_init_96 mf_X3_init (hKX.2.2.2.1 _ kx_X10_51) im_X3_init rfl ⟨(Nat.le_of_ble_eq_true rfl), (Nat.le_of_ble_eq_true rfl)⟩ rfl rfl (Nat.le_of_ble_eq_true rfl) ⟨(Nat.le_of_ble_eq_true rfl), (Nat.le_of_ble_eq_true rfl)⟩) rfl rfl (fun ad30 h29 ha31 =>
    aw_astore_n (pc := 99) C (i := 1) (lv' := [(0, .ref 0), (1, .ref 36)]) dX10_init_99 rfl (by decide) rfl <|
    aw_aload_n (pc := 100) C (i := 0) dX10_init_100 rfl rfl <|
    aw_getR (pc := 101) C (b := 1) dX10_init_101 fl_X10_11 rfl rfl rfl <|
    aw_iconst (pc := 104) C (v := 0) dX10_init_104 rfl <|
    aw_aload_n (pc := 105) C (i := 1) dX10_init_105 rfl rfl <|
    aw_aast (pc := 106) C (Z' := YC30) (E := "MarkToBoard$Kind") dX10_init_106 rfl rfl rfl rfl (as_X3 hKX) (by decide) (by decide) rfl <|
    aw_aload_n (pc := 107) C (i := 0) dX10_init_107 rfl rfl <|
    aw_getR (pc := 108) C (b := 1) dX10_init_108 fl_X10_11 rfl rfl rfl <|
    aw_iconst (pc := 111) C (v := 1) dX10_init_111 rfl <|
    aw_newm (pc := 112) C (Z' := YC31) (ci := 7) (N := 0) (T := TX7) (codes := fty 7) (.inr 7) ln_YC30 wf_YC30 dX10_init_112 rfl wsin_X7 tyX7_ok kl_X10_52 ki_X7 kn_X7 (fun _ _ _ _ => rfl) n3_X7 df_X7 rfl rfl (Nat.le_of_ble_eq_true rfl) (Nat.le_of_ble_eq_true rfl) fun a33 h32 =>
    aw_dup (pc := 115) C dX10_init_115 rfl <|
    aw_callC (pc := 116) C (Z' := YC31) (rm' := rmX7_init_i37) (F := X7_init_i37) (run_IN (host := "MarkToBoard") (As := []) (rest := [.ref 37, .int 1, .ref 1]) (b := 37) C kx_m kx_b hKX (c_X7_init_i37 X.2.1) dX10_init_116 mf_X7_init (hKX.2.2.2.1 _ kx_X10_54) im_X7_init rfl ⟨(Nat.le_of_ble_eq_true rfl), (Nat.le_of_ble_eq_true rfl)⟩ rfl rfl (Nat.le_of_ble_eq_true rfl) ⟨(Nat.le_of_ble_eq_true rfl), (Nat.le_of_ble_eq_true rfl)⟩) rfl rfl (fun ad35 h34 ha36 =>
    aw_aast (pc := 119) C (Z' := YC32) (E := "MarkToBoard$Kind") dX10_init_119 rfl rfl rfl rfl (as_X7 hKX) (by decide) (by decide) rfl <|
    aw_aload_n (pc := 120) C (i := 0) dX10_init_120 rfl rfl <|
    aw_getR (pc := 121) C (b := 1) dX10_init_121 fl_X10_11 rfl rfl rfl <|
    aw_iconst (pc := 124) C (v := 2) dX10_init_124 rfl <|
    aw_newm (pc := 125) C (Z' := YC33) (ci := 0) (N := 0) (T := TX0) (codes := fty 0) (.inr 0) ln_YC32 wf_YC32 dX10_init_125 rfl wsin_X0 tyX0_ok kl_X10_55 ki_X0 kn_X0 (fun _ _ _ _ => rfl) n3_X0 df_X0 rfl rfl (Nat.le_of_ble_eq_true rfl) (Nat.le_of_ble_eq_true rfl) fun a38 h37 =>
    aw_dup (pc := 128) C dX10_init_128 rfl <|
    aw_callC (pc := 129) C (Z' := YC33) (rm' := rmX0_init_i38) (F := X0_init_i38) (run_IN (host := "MarkToBoard") (As := []) (rest := [.ref 38, .int 2, .ref 1]) (b := 38) C kx_m kx_b hKX (c_X0_init_i38 X.2.1) dX10_init_129 mf_X0_init (hKX.2.2.2.1 _ kx_X10_57) im_X0_init rfl ⟨(Nat.le_of_ble_eq_true rfl), (Nat.le_of_ble_eq_true rfl)⟩ rfl rfl (Nat.le_of_ble_eq_true rfl) ⟨(Nat.le_of_ble_eq_true rfl), (Nat.le_of_ble_eq_true rfl)⟩) rfl rfl (fun ad40 h39 ha41 =>
    aw_aast (pc := 132) C (Z' := YC34) (E := "MarkToBoard$Kind") dX10_init_132 rfl rfl rfl rfl (as_X0 hKX) (by decide) (by decide) rfl <|
    aw_aload_n (pc := 133) C (i := 0) dX10_init_133 rfl rfl <|
    aw_getR (pc := 134) C (b := 1) dX10_init_134 fl_X10_11 rfl rfl rfl <|
    aw_iconst (pc := 137) C (v := 3) dX10_init_137 rfl <|
    aw_newm (pc := 138) C (Z' := YC35) (ci := 4) (N := 0) (T := TX4) (codes := fty 4) (.inr 4) ln_YC34 wf_YC34 dX10_init_138 rfl wsin_X4 tyX4_ok kl_X10_58 ki_X4 kn_X4 (fun _ _ _ _ => rfl) n3_X4 df_X4 rfl rfl (Nat.le_of_ble_eq_true rfl) (Nat.le_of_ble_eq_true rfl) fun a43 h42 =>
    aw_dup (pc := 141) C dX10_init_141 rfl <|
    aw_callC (pc := 142) C (Z' := YC35) (rm' := rmX4_init_i39) (F := X4_init_i39) (run_IN (host := "MarkToBoard") (As := []) (rest := [.ref 39, .int 3, .ref 1]) (b := 39) C kx_m kx_b hKX (c_X4_init_i39 X.2.1) dX10_init_142 mf_X4_init (hKX.2.2.2.1 _ kx_X10_60) im_X4_init rfl ⟨(Nat.le_of_ble_eq_true rfl), (Nat.le_of_ble_eq_true rfl)⟩ rfl rfl (Nat.le_of_ble_eq_true rfl) ⟨(Nat.le_of_ble_eq_true rfl), (Nat.le_of_ble_eq_true rfl)⟩) rfl rfl (fun ad45 h44 ha46 =>
    aw_aast (pc := 145) C (Z' := YC36) (E := "MarkToBoard$Kind") dX10_init_145 rfl rfl rfl rfl (as_X4 hKX) (by decide) (by decide) rfl <|
    aw_aload_n (pc := 146) C (i := 0) dX10_init_146 rfl rfl <|
    aw_getR (pc := 147) C (b := 1) dX10_init_147 fl_X10_11 rfl rfl rfl <|
    aw_iconst (pc := 150) C (v := 4) dX10_init_150 rfl <|
    aw_newm (pc := 151) C (Z' := YC37) (ci := 9) (N := 0) (T := TX9) (codes := fty 9) (.inr 9) ln_YC36 wf_YC36 dX10_init_151 rfl wsin_X9 tyX9_ok kl_X10_61 ki_X9 kn_X9 (fun _ _ _ _ => rfl) n3_X9 df_X9 rfl rfl (Nat.le_of_ble_eq_true rfl) (Nat.le_of_ble_eq_true rfl) fun a48 h47 =>
    aw_dup (pc := 154) C dX10_init_154 rfl <|
    aw_callC (pc := 155) C (Z' := YC37) (rm' := rmX9_init_i40) (F := X9_init_i40) (run_IN (host := "MarkToBoard") (As := []) (rest := [.ref 40, .int 4, .ref 1]) (b := 40) C kx_m kx_b hKX (c_X9_init_i40 X.2.1) dX10_init_155 mf_X9_init (hKX.2.2.2.1 _ kx_X10_63) im_X9_init rfl ⟨(Nat.le_of_ble_eq_true rfl), (Nat.le_of_ble_eq_true rfl)⟩ rfl rfl (Nat.le_of_ble_eq_true rfl) ⟨(Nat.le_of_ble_eq_true rfl), (Nat.le_of_ble_eq_true rfl)⟩) rfl rfl (fun ad50 h49 ha51 =>
    aw_aast (pc := 158) C (Z' := YC38) (E := "MarkToBoard$Kind") dX10_init_158 rfl rfl rfl rfl (as_X9 hKX) (by decide) (by decide) rfl <|
    aw_aload_n (pc := 159) C (i := 0) dX10_init_159 rfl rfl <|
    aw_getR (pc := 160) C (b := 1) dX10_init_160 fl_X10_11 rfl rfl rfl <|
    aw_iconst (pc := 163) C (v := 5) dX10_init_163 rfl <|
    aw_newm (pc := 164) C (Z' := YC39) (ci := 8) (N := 0) (T := TX8) (codes := fty 8) (.inr 8) ln_YC38 wf_YC38 dX10_init_164 rfl wsin_X8 tyX8_ok kl_X10_64 ki_X8 kn_X8 (fun _ _ _ _ => rfl) n3_X8 df_X8 rfl rfl (Nat.le_of_ble_eq_true rfl) (Nat.le_of_ble_eq_true rfl) fun a53 h52 =>
    aw_dup (pc := 167) C dX10_init_167 rfl <|
    aw_callC (pc := 168) C (Z' := YC39) (rm' := rmX8_init_i41) (F := X8_init_i41) (run_IN (host := "MarkToBoard") (As := []) (rest := [.ref 41, .int 5, .ref 1]) (b := 41) C kx_m kx_b hKX (c_X8_init_i41 X.2.1) dX10_init_168 mf_X8_init (hKX.2.2.2.1 _ kx_X10_66) im_X8_init rfl ⟨(Nat.le_of_ble_eq_true rfl), (Nat.le_of_ble_eq_true rfl)⟩ rfl rfl (Nat.le_of_ble_eq_true rfl) ⟨(Nat.le_of_ble_eq_true rfl), (Nat.le_of_ble_eq_true rfl)⟩) rfl rfl (fun ad55 h54 ha56 =>
    aw_aast (pc := 171) C (Z' := YC40) (E := "MarkToBoard$Kind") dX10_init_171 rfl rfl rfl rfl (as_X8 hKX) (by decide) (by decide) rfl <|
    aw_aload_n (pc := 172) C (i := 0) dX10_init_172 rfl rfl <|
    aw_newm (pc := 173) C (Z' := YC41) (ci := 5) (N := 10) (T := TX5) (codes := fty 5) (.inr 5) ln_YC40 wf_YC40 dX10_init_173 rfl wsin_X5 tyX5_ok kl_X10_67 ki_X5 kn_X5 (fun _ _ _ _ => rfl) n3_X5 df_X5 rfl rfl (Nat.le_of_ble_eq_true rfl) (Nat.le_of_ble_eq_true rfl) fun a58 h57 =>
    aw_dup (pc := 176) C dX10_init_176 rfl <|
    aw_aload_n (pc := 177) C (i := 1) dX10_init_177 rfl rfl <|
    aw_callC (pc := 178) C (Z' := YC63) (rm' := rmX5_init_i42) (F := X5_init_i42) (run_I (As := [.ref 36]) (rest := [.ref 42, .ref 0]) (b := 42) C kx_m kx_b hKX (c_X5_init_i42 X.2.1) dX10_init_178 mf_X5_init mj_X10_69 im_X5_init rfl ⟨(Nat.le_of_ble_eq_true rfl), (Nat.le_of_ble_eq_true rfl)⟩ rfl rfl (Nat.le_of_ble_eq_true rfl) ⟨(Nat.le_of_ble_eq_true rfl), (Nat.le_of_ble_eq_true rfl)⟩) rfl rfl (fun ad60 h59 ha61 =>
    aw_putRF (pc := 181) C (Z' := YC64) hin dX10_init_181 fpf_X10_72 rfl rfl (fun _ => rfl) (fun _ => rfl) rfl <|
    aw_aload_n (pc := 184) C (i := 0) dX10_init_184 rfl rfl <|
    aw_newm (pc := 185) C (Z' := YC65) (ci := 5) (N := 10) (T := TX5) (codes := fty 5) (.inr 5) ln_YC64 wf_YC64 dX10_init_185 rfl wsin_X5 tyX5_ok kl_X10_67 ki_X5 kn_X5 (fun _ _ _ _ => rfl) n3_X5 df_X5 rfl rfl (Nat.le_of_ble_eq_true rfl) (Nat.le_of_ble_eq_true rfl) fun a63 h62 =>
    aw_dup (pc := 188) C dX10_init_188 rfl <|
    aw_aload_n (pc := 189) C (i := 1) dX10_init_189 rfl rfl <|
    aw_callC (pc := 190) C (Z' := YC87) (rm' := rmX5_init_i52) (F := X5_init_i52) (run_I (As := [.ref 36]) (rest := [.ref 52, .ref 0]) (b := 52) C kx_m kx_b hKX (c_X5_init_i52 X.2.1) dX10_init_190 mf_X5_init mj_X10_69 im_X5_init rfl ⟨(Nat.le_of_ble_eq_true rfl), (Nat.le_of_ble_eq_true rfl)⟩ rfl rfl (Nat.le_of_ble_eq_true rfl) ⟨(Nat.le_of_ble_eq_true rfl), (Nat.le_of_ble_eq_true rfl)⟩) rfl rfl (fun ad65 h64 ha66 =>
    aw_putRF (pc := 193) C (Z' := YC88) hin dX10_init_193 fpf_X10_76 rfl rfl (fun _ => rfl) (fun _ => rfl) rfl <|
    aw_aload_n (pc := 196) C (i := 0) dX10_init_196 rfl rfl <|
    aw_newm (pc := 197) C (Z' := YC89) (ci := 5) (N := 10) (T := TX5) (codes := fty 5) (.inr 5) ln_YC88 wf_YC88 dX10_init_197 rfl wsin_X5 tyX5_ok kl_X10_67 ki_X5 kn_X5 (fun _ _ _ _ => rfl) n3_X5 df_X5 rfl rfl (Nat.le_of_ble_eq_true rfl) (Nat.le_of_ble_eq_true rfl) fun a68 h67 =>
    aw_dup (pc := 200) C dX10_init_200 rfl <|
    aw_aload_n (pc := 201) C (i := 1) dX10_init_201 rfl rfl <|
    aw_callC (pc := 202) C (Z' := YC111) (rm' := rmX5_init_i62) (F := X5_init_i62) (run_I (As := [.ref 36]) (rest := [.ref 62, .ref 0]) (b := 62) C kx_m kx_b hKX (c_X5_init_i62 X.2.1) dX10_init_202 mf_X5_init mj_X10_69 im_X5_init rfl ⟨(Nat.le_of_ble_eq_true rfl), (Nat.le_of_ble_eq_true rfl)⟩ rfl rfl (Nat.le_of_ble_eq_true rfl) ⟨(Nat.le_of_ble_eq_true rfl), (Nat.le_of_ble_eq_true rfl)⟩) rfl rfl (fun ad70 h69 ha71 =>
    aw_putRF (pc := 205) C (Z' := YC112) hin dX10_init_205 fpf_X10_79 rfl rfl (fun _ => rfl) (fun _ => rfl) rfl <|
    aw_aload_n (pc := 208) C (i := 0) dX10_init_208 rfl rfl <|
    aw_newm (pc := 209) C (Z' := YC113) (ci := 2) (N := 9) (T := TX2) (codes := rty 2) (.inl (0, 9, 2)) ln_YC112 wf_YC112 dX10_init_209 rfl wsin_X2 tyX2_ok kl_X10_82 ki_X2 kn_X2 (fun _ _ _ _ => rfl) n3_X2 df_X2 rfl rfl (Nat.le_of_ble_eq_true rfl) (Nat.le_of_ble_eq_true rfl) fun a73 h72 =>
    aw_dup (pc := 212) C dX10_init_212 rfl <|
    aw_aload_n (pc := 213) C (i := 1) dX10_init_213 rfl rfl <|
    aw_callC (pc := 214) C (Z' := YC114) (rm' := rmX2_init_i72) (F := X2_init_i72) (run_I (As := [.ref 36]) (rest := [.ref 72, .ref 0]) (b := 72) C kx_m kx_b hKX (c_X2_init_i72 X.2.1) dX10_init_214 mf_X2_init mj_X10_84 im_X2_init rfl ⟨(Nat.le_of_ble_eq_true rfl), (Nat.le_of_ble_eq_true rfl)⟩ rfl rfl (Nat.le_of_ble_eq_true rfl) ⟨(Nat.le_of_ble_eq_true rfl), (Nat.le_of_ble_eq_true rfl)⟩) rfl rfl (fun ad75 h74 ha76 =>
    aw_putRF (pc := 217) C (Z' := YC115) hin dX10_init_217 fpf_X10_85 rfl rfl (fun _ => rfl) (fun _ => rfl) rfl <|
    aw_vretN (pc := 220) C (Agr.call (n := 73) (Agr.new (n := 72) (Agr.call (n := 63) (Agr.new (n := 62) (Agr.call (n := 53) (Agr.new (n := 52) (Agr.call (n := 43) (Agr.new (n := 42) (Agr.call (n := 42) (Agr.new (n := 41) (Agr.call (n := 41) (Agr.new (n := 40) (Agr.call (n := 40) (Agr.new (n := 39) (Agr.call (n := 39) (Agr.new (n := 38) (Agr.call (n := 38) (Agr.new (n := 37) (Agr.call (n := 37) (Agr.new (n := 36) (Agr.new (n := 35) (Agr.new (n := 34) (Agr.new (n := 33) (Agr.new (n := 32) (Agr.call (n := 9) (Agr.new (n := 8) (Agr.call (n := 6) (Agr.new (n := 5) (Agr.new (n := 4) (Agr.new (n := 3) (Agr.new (n := 2) (Agr.new (n := 1) (Agr.rf) (Nat.le_of_ble_eq_true rfl)) (Nat.le_of_ble_eq_true rfl)) (Nat.le_of_ble_eq_true rfl)) (Nat.le_of_ble_eq_true rfl)) (Nat.le_of_ble_eq_true rfl)) (Nat.le_of_ble_eq_true rfl) (ha13)) (Nat.le_of_ble_eq_true rfl)) (Nat.le_of_ble_eq_true rfl) (ha18)) (Nat.le_of_ble_eq_true rfl)) (Nat.le_of_ble_eq_true rfl)) (Nat.le_of_ble_eq_true rfl)) (Nat.le_of_ble_eq_true rfl)) (Nat.le_of_ble_eq_true rfl)) (Nat.le_of_ble_eq_true rfl) (ha31)) (Nat.le_of_ble_eq_true rfl)) (Nat.le_of_ble_eq_true rfl) (ha36)) (Nat.le_of_ble_eq_true rfl)) (Nat.le_of_ble_eq_true rfl) (ha41)) (Nat.le_of_ble_eq_true rfl)) (Nat.le_of_ble_eq_true rfl) (ha46)) (Nat.le_of_ble_eq_true rfl)) (Nat.le_of_ble_eq_true rfl) (ha51)) (Nat.le_of_ble_eq_true rfl)) (Nat.le_of_ble_eq_true rfl) (ha56)) (Nat.le_of_ble_eq_true rfl)) (Nat.le_of_ble_eq_true rfl) (ha61)) (Nat.le_of_ble_eq_true rfl)) (Nat.le_of_ble_eq_true rfl) (ha66)) (Nat.le_of_ble_eq_true rfl)) (Nat.le_of_ble_eq_true rfl) (ha71)) (Nat.le_of_ble_eq_true rfl)) (Nat.le_of_ble_eq_true rfl) (ha76)) dX10_init_220 rfl rfl) rfl) rfl) rfl) rfl) rfl) rfl) rfl) rfl) rfl) rfl) rfl) rfl
