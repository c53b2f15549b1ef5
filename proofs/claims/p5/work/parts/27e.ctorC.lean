abbrev rmX5_init_i42 : Room := { frames := 2, cells := 9, slots := 136, locals := 41 }
def X5_init_i42 (h : AH) : Option (Unit × AH) :=
    vl (sI h 42 0 10) fun h1 =>
    vl (sI h1 42 2 2) fun h2 =>
    vl (zN h2 43) fun h3 =>
    vl (zN h3 44) fun h5 =>
    vl (zN h5 45) fun h7 =>
    vl (zN h7 46) fun h9 =>
    vl (zN h9 47) fun h11 =>
    vl (zN h11 48) fun h13 =>
    bd (X2_init_i48 h13) fun _ h15 =>
    vl (zN h15 49) fun h18 =>
    bd (X2_init_i49 h18) fun _ h20 =>
    vl (zN h20 50) fun h23 =>
    bd (X2_init_i50 h23) fun _ h25 =>
    vl (zN h25 51) fun h28 =>
    bd (X2_init_i51 h28) fun _ h30 =>
    some ((), h30)
set_option maxRecDepth 100000 in
set_option maxHeartbeats 4000000 in
theorem c_X5_init_i42 (l : Launch) : MCN l yX5_init cX5_init 3 rmX5_init_i42 KX YC41 YC63 [.ref 42, .ref 36] X5_init_i42 :=
  MCN.of (own := RX5) (by decide +kernel) rfl rfl (Nat.le_of_ble_eq_true rfl) fun X yd A h C hKX hin =>
    aw_aload_n (pc := 0) C (i := 0) dX5_init_0 rfl rfl <|
    aw_objInit (pc := 1) C dX5_init_1 mo_X5_3 w_oi w_oc ⟨(Nat.le_of_ble_eq_true rfl), (Nat.le_of_ble_eq_true rfl)⟩ <|
    aw_aload_n (pc := 4) C (i := 0) dX5_init_4 rfl rfl <|
    aw_bipush (pc := 5) C (v := 10) dX5_init_5 rfl <|
    aw_putI (pc := 7) C dX5_init_7 fp_X5_9 rfl rfl fun h1 =>
    aw_aload_n (pc := 10) C (i := 0) dX5_init_10 rfl rfl <|
    aw_iconst (pc := 11) C (v := 2) dX5_init_11 rfl <|
    aw_putI (pc := 12) C dX5_init_12 fp_X5_15 rfl rfl fun h2 =>
    aw_aload_n (pc := 15) C (i := 0) dX5_init_15 rfl rfl <|
    aw_iconst (pc := 16) C (v := 4) dX5_init_16 rfl <|
    aw_newqm (pc := 17) C (Z' := YC42) (N := 4) (t := 2) hKX.2.1 kl_X5_18 ln_YC41 wf_YC41 dX5_init_17 (by decide) rfl (by decide) rfl rfl rfl (Nat.le_of_ble_eq_true rfl) (Nat.le_of_ble_eq_true rfl) fun a4 h3 =>
    aw_putRF (pc := 20) C (Z' := YC43) hin dX5_init_20 fpf_X5_20 rfl rfl (fun _ => rfl) (fun _ => rfl) rfl <|
    aw_aload_n (pc := 23) C (i := 0) dX5_init_23 rfl rfl <|
    aw_bipush (pc := 24) C (v := 24) dX5_init_24 rfl <|
    aw_newIm (pc := 26) C (Z' := YC44) (N := 24) ln_YC43 wf_YC43 dX5_init_26 (by decide) rfl (by decide) rfl rfl rfl (Nat.le_of_ble_eq_true rfl) (Nat.le_of_ble_eq_true rfl) fun a6 h5 =>
    aw_putRF (pc := 28) C (Z' := YC45) hin dX5_init_28 fpf_X5_24 rfl rfl (fun _ => rfl) (fun _ => rfl) rfl <|
    aw_aload_n (pc := 31) C (i := 0) dX5_init_31 rfl rfl <|
    aw_bipush (pc := 32) C (v := 24) dX5_init_32 rfl <|
    aw_newIm (pc := 34) C (Z' := YC46) (N := 24) ln_YC45 wf_YC45 dX5_init_34 (by decide) rfl (by decide) rfl rfl rfl (Nat.le_of_ble_eq_true rfl) (Nat.le_of_ble_eq_true rfl) fun a8 h7 =>
    aw_putRF (pc := 36) C (Z' := YC47) hin dX5_init_36 fpf_X5_28 rfl rfl (fun _ => rfl) (fun _ => rfl) rfl <|
    aw_aload_n (pc := 39) C (i := 0) dX5_init_39 rfl rfl <|
    aw_bipush (pc := 40) C (v := 24) dX5_init_40 rfl <|
    aw_newIm (pc := 42) C (Z' := YC48) (N := 24) ln_YC47 wf_YC47 dX5_init_42 (by decide) rfl (by decide) rfl rfl rfl (Nat.le_of_ble_eq_true rfl) (Nat.le_of_ble_eq_true rfl) fun a10 h9 =>
    aw_putRF (pc := 44) C (Z' := YC49) hin dX5_init_44 fpf_X5_31 rfl rfl (fun _ => rfl) (fun _ => rfl) rfl <|
    aw_aload_n (pc := 47) C (i := 0) dX5_init_47 rfl rfl <|
    aw_bipush (pc := 48) C (v := 24) dX5_init_48 rfl <|
    aw_newIm (pc := 50) C (Z' := YC50) (N := 24) ln_YC49 wf_YC49 dX5_init_50 (by decide) rfl (by decide) rfl rfl rfl (Nat.le_of_ble_eq_true rfl) (Nat.le_of_ble_eq_true rfl) fun a12 h11 =>
    aw_putRF (pc := 52) C (Z' := YC51) hin dX5_init_52 fpf_X5_34 rfl rfl (fun _ => rfl) (fun _ => rfl) rfl <|
    aw_iconst (pc := 55) C (v := 0) dX5_init_55 rfl <|
    aw_istore_n (pc := 56) C (i := 2) (lv' := [(0, .ref 42), (1, .ref 36), (2, .int 0)]) dX5_init_56 rfl (by decide) rfl <|
    aw_iload_n (pc := 57) C (i := 2) dX5_init_57 rfl rfl <|
    aw_iconst (pc := 58) C (v := 4) dX5_init_58 rfl <|
    aw_dec (aw_icmp_ge (pc := 59) C (tgt := 82) dX5_init_59 rfl (fun c => absurd c (by decide)) (fun _ =>
    aw_aload_n (pc := 62) C (i := 0) dX5_init_62 rfl rfl <|
    aw_getR (pc := 63) C (b := 43) dX5_init_63 fl_X5_20 rfl rfl rfl <|
    aw_iload_n (pc := 66) C (i := 2) dX5_init_66 rfl rfl <|
    aw_newm (pc := 67) C (Z' := YC52) (ci := 2) (N := 9) (T := TX2) (codes := rty 2) (.inl (0, 9, 2)) ln_YC51 wf_YC51 dX5_init_67 rfl wsin_X2 tyX2_ok kl_X5_18 ki_X2 kn_X2 (fun _ _ _ _ => rfl) n3_X2 df_X2 rfl rfl (Nat.le_of_ble_eq_true rfl) (Nat.le_of_ble_eq_true rfl) fun a14 h13 =>
    aw_dup (pc := 70) C dX5_init_70 rfl <|
    aw_aload_n (pc := 71) C (i := 1) dX5_init_71 rfl rfl <|
    aw_callC (pc := 72) C (Z' := YC53) (rm' := rmX2_init_i48) (F := X2_init_i48) (run_I (As := [.ref 36]) (rest := [.ref 48, .int 0, .ref 43]) (b := 48) C kx_m kx_b hKX (c_X2_init_i48 X.2.1) dX5_init_72 mf_X2_init mj_X5_37 im_X2_init rfl ⟨(Nat.le_of_ble_eq_true rfl), (Nat.le_of_ble_eq_true rfl)⟩ rfl rfl (Nat.le_of_ble_eq_true rfl) ⟨(Nat.le_of_ble_eq_true rfl), (Nat.le_of_ble_eq_true rfl)⟩) rfl rfl (fun ad16 h15 ha17 =>
    aw_aast (pc := 75) C (Z' := YC54) (E := "MarkToBoard$Jumper") dX5_init_75 rfl rfl rfl rfl (as_X2 hKX) (by decide) (by decide) rfl <|
    aw_iinc (pc := 76) C (i := 2) (lv' := [(0, .ref 42), (1, .ref 36), (2, .int 1)]) dX5_init_76 rfl (by decide) rfl <|
    aw_goto (pc := 79) C (tgt := 57) dX5_init_79 rfl <|
    aw_iload_n (pc := 57) C (i := 2) dX5_init_57 rfl rfl <|
    aw_iconst (pc := 58) C (v := 4) dX5_init_58 rfl <|
    aw_dec (aw_icmp_ge (pc := 59) C (tgt := 82) dX5_init_59 rfl (fun c => absurd c (by decide)) (fun _ =>
    aw_aload_n (pc := 62) C (i := 0) dX5_init_62 rfl rfl <|
    aw_getR (pc := 63) C (b := 43) dX5_init_63 fl_X5_20 rfl rfl rfl <|
    aw_iload_n (pc := 66) C (i := 2) dX5_init_66 rfl rfl <|
    aw_newm (pc := 67) C (Z' := YC55) (ci := 2) (N := 9) (T := TX2) (codes := rty 2) (.inl (0, 9, 2)) ln_YC54 wf_YC54 dX5_init_67 rfl wsin_X2 tyX2_ok kl_X5_18 ki_X2 kn_X2 (fun _ _ _ _ => rfl) n3_X2 df_X2 rfl rfl (Nat.le_of_ble_eq_true rfl) (Nat.le_of_ble_eq_true rfl) fun a19 h18 =>
    aw_dup (pc := 70) C dX5_init_70 rfl <|
    aw_aload_n (pc := 71) C (i := 1) dX5_init_71 rfl rfl <|
    aw_callC (pc := 72) C (Z' := YC56) (rm' := rmX2_init_i49) (F := X2_init_i49) (run_I (As := [.ref 36]) (rest := [.ref 49, .int 1, .ref 43]) (b := 49) C kx_m kx_b hKX (c_X2_init_i49 X.2.1) dX5_init_72 mf_X2_init mj_X5_37 im_X2_init rfl ⟨(Nat.le_of_ble_eq_true rfl), (Nat.le_of_ble_eq_true rfl)⟩ rfl rfl (Nat.le_of_ble_eq_true rfl) ⟨(Nat.le_of_ble_eq_true rfl), (Nat.le_of_ble_eq_true rfl)⟩) rfl rfl (fun ad21 h20 ha22 =>
    aw_aast (pc := 75) C (Z' := YC57) (E := "MarkToBoard$Jumper") dX5_init_75 rfl rfl rfl rfl (as_X2 hKX) (by decide) (by decide) rfl <|
    aw_iinc (pc := 76) C (i := 2) (lv' := [(0, .ref 42), (1, .ref 36), (2, .int 2)]) dX5_init_76 rfl (by decide) rfl <|
    aw_goto (pc := 79) C (tgt := 57) dX5_init_79 rfl <|
    aw_iload_n (pc := 57) C (i := 2) dX5_init_57 rfl rfl <|
    aw_iconst (pc := 58) C (v := 4) dX5_init_58 rfl <|
    aw_dec (aw_icmp_ge (pc := 59) C (tgt := 82) dX5_init_59 rfl (fun c => absurd c (by decide)) (fun _ =>
    aw_aload_n (pc := 62) C (i := 0) dX5_init_62 rfl rfl <|
    aw_getR (pc := 63) C (b := 43) dX5_init_63 fl_X5_20 rfl rfl rfl <|
    aw_iload_n (pc := 66) C (i := 2) dX5_init_66 rfl rfl <|
    aw_newm (pc := 67) C (Z' := YC58) (ci := 2) (N := 9) (T := TX2) (codes := rty 2) (.inl (0, 9, 2)) ln_YC57 wf_YC57 dX5_init_67 rfl wsin_X2 tyX2_ok kl_X5_18 ki_X2 kn_X2 (fun _ _ _ _ => rfl) n3_X2 df_X2 rfl rfl (Nat.le_of_ble_eq_true rfl) (Nat.le_of_ble_eq_true rfl) fun a24 h23 =>
    aw_dup (pc := 70) C dX5_init_70 rfl <|
    aw_aload_n (pc := 71) C (i := 1) dX5_init_71 rfl rfl <|
    aw_callC (pc := 72) C (Z' := YC59) (rm' := rmX2_init_i50) (F := X2_init_i50) (run_I (As := [.ref 36]) (rest := [.ref 50, .int 2, .ref 43]) (b := 50) C kx_m kx_b hKX (c_X2_init_i50 X.2.1) dX5_init_72 mf_X2_init mj_X5_37 im_X2_init rfl ⟨(Nat.le_of_ble_eq_true rfl), (Nat.le_of_ble_eq_true rfl)⟩ rfl rfl (Nat.le_of_ble_eq_true rfl) ⟨(Nat.le_of_ble_eq_true rfl), (Nat.le_of_ble_eq_true rfl)⟩) rfl rfl (fun ad26 h25 ha27 =>
    aw_aast (pc := 75) C (Z' := YC60) (E := "MarkToBoard$Jumper") dX5_init_75 rfl rfl rfl rfl (as_X2 hKX) (by decide) (by decide) rfl <|
    aw_iinc (pc := 76) C (i := 2) (lv' := [(0, .ref 42), (1, .ref 36), (2, .int 3)]) dX5_init_76 rfl (by decide) rfl <|
    aw_goto (pc := 79) C (tgt := 57) dX5_init_79 rfl <|
    aw_iload_n (pc := 57) C (i := 2) dX5_init_57 rfl rfl <|
    aw_iconst (pc := 58) C (v := 4) dX5_init_58 rfl <|
    aw_dec (aw_icmp_ge (pc := 59) C (tgt := 82) dX5_init_59 rfl (fun c => absurd c (by decide)) (fun _ =>
    aw_aload_n (pc := 62) C (i := 0) dX5_init_62 rfl rfl <|
    aw_getR (pc := 63) C (b := 43) dX5_init_63 fl_X5_20 rfl rfl rfl <|
    aw_iload_n (pc := 66) C (i := 2) dX5_init_66 rfl rfl <|
    aw_newm (pc := 67) C (Z' := YC61) (ci := 2) (N := 9) (T := TX2) (codes := rty 2) (.inl (0, 9, 2)) ln_YC60 wf_YC60 dX5_init_67 rfl wsin_X2 tyX2_ok kl_X5_18 ki_X2 kn_X2 (fun _ _ _ _ => rfl) n3_X2 df_X2 rfl rfl (Nat.le_of_ble_eq_true rfl) (Nat.le_of_ble_eq_true rfl) fun a29 h28 =>
    aw_dup (pc := 70) C dX5_init_70 rfl <|
    aw_aload_n (pc := 71) C (i := 1) dX5_init_71 rfl rfl <|
    aw_callC (pc := 72) C (Z' := YC62) (rm' := rmX2_init_i51) (F := X2_init_i51) (run_I (As := [.ref 36]) (rest := [.ref 51, .int 3, .ref 43]) (b := 51) C kx_m kx_b hKX (c_X2_init_i51 X.2.1) dX5_init_72 mf_X2_init mj_X5_37 im_X2_init rfl ⟨(Nat.le_of_ble_eq_true rfl), (Nat.le_of_ble_eq_true rfl)⟩ rfl rfl (Nat.le_of_ble_eq_true rfl) ⟨(Nat.le_of_ble_eq_true rfl), (Nat.le_of_ble_eq_true rfl)⟩) rfl rfl (fun ad31 h30 ha32 =>
    aw_aast (pc := 75) C (Z' := YC63) (E := "MarkToBoard$Jumper") dX5_init_75 rfl rfl rfl rfl (as_X2 hKX) (by decide) (by decide) rfl <|
    aw_iinc (pc := 76) C (i := 2) (lv' := [(0, .ref 42), (1, .ref 36), (2, .int 4)]) dX5_init_76 rfl (by decide) rfl <|
    aw_goto (pc := 79) C (tgt := 57) dX5_init_79 rfl <|
    aw_iload_n (pc := 57) C (i := 2) dX5_init_57 rfl rfl <|
    aw_iconst (pc := 58) C (v := 4) dX5_init_58 rfl <|
    aw_dec (aw_icmp_ge (pc := 59) C (tgt := 82) dX5_init_59 rfl (fun _ =>
    aw_vretN (pc := 82) C (Agr.call (n := 52) (Agr.new (n := 51) (Agr.call (n := 51) (Agr.new (n := 50) (Agr.call (n := 50) (Agr.new (n := 49) (Agr.call (n := 49) (Agr.new (n := 48) (Agr.new (n := 47) (Agr.new (n := 46) (Agr.new (n := 45) (Agr.new (n := 44) (Agr.new (n := 43) (Agr.rf) (Nat.le_of_ble_eq_true rfl)) (Nat.le_of_ble_eq_true rfl)) (Nat.le_of_ble_eq_true rfl)) (Nat.le_of_ble_eq_true rfl)) (Nat.le_of_ble_eq_true rfl)) (Nat.le_of_ble_eq_true rfl)) (Nat.le_of_ble_eq_true rfl) (ha17)) (Nat.le_of_ble_eq_true rfl)) (Nat.le_of_ble_eq_true rfl) (ha22)) (Nat.le_of_ble_eq_true rfl)) (Nat.le_of_ble_eq_true rfl) (ha27)) (Nat.le_of_ble_eq_true rfl)) (Nat.le_of_ble_eq_true rfl) (ha32)) dX5_init_82 rfl rfl) (fun c => absurd (by decide) c))) rfl))) rfl))) rfl))) rfl))
