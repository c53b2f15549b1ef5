abbrev rmX5_init_i52 : Room := { frames := 2, cells := 9, slots := 136, locals := 41 }
def X5_init_i52 (h : AH) : Option (Unit × AH) :=
    vl (sI h 52 0 10) fun h1 =>
    vl (sI h1 52 2 2) fun h2 =>
    vl (zN h2 53) fun h3 =>
    vl (zN h3 54) fun h5 =>
    vl (zN h5 55) fun h7 =>
    vl (zN h7 56) fun h9 =>
    vl (zN h9 57) fun h11 =>
    vl (zN h11 58) fun h13 =>
    bd (X2_init_i58 h13) fun _ h15 =>
    vl (zN h15 59) fun h18 =>
    bd (X2_init_i59 h18) fun _ h20 =>
    vl (zN h20 60) fun h23 =>
    bd (X2_init_i60 h23) fun _ h25 =>
    vl (zN h25 61) fun h28 =>
    bd (X2_init_i61 h28) fun _ h30 =>
    some ((), h30)
set_option maxRecDepth 100000 in
set_option maxHeartbeats 4000000 in
theorem c_X5_init_i52 (l : Launch) : MCN l yX5_init cX5_init 3 rmX5_init_i52 KX YC65 YC87 [.ref 52, .ref 36] X5_init_i52 :=
  MCN.of (own := RX5) (by decide +kernel) rfl rfl (Nat.le_of_ble_eq_true rfl) fun X yd A h C hKX hin =>
    aw_aload_n (pc := 0) C (i := 0) dX5_init_0 rfl rfl <|
    aw_objInit (pc := 1) C dX5_init_1 mo_X5_3 w_oi w_oc ⟨(Nat.le_of_ble_eq_true rfl), (Nat.le_of_ble_eq_true rfl)⟩ <|
    aw_aload_n (pc := 4) C (i := 0) dX5_init_4 rfl rfl <|
    aw_bipush (pc := 5) C (v := 10) dX5_init_5 rfl <|
    aw_putI (pc := 7) C dX5_init_7 fp_X5_9 rfl rfl fun h1 =>
    aw_aload_n (pc := 10) C (i := 0) dX5_init_10 rfl rfl <|
    aw_iconst (pc := 11) C (v := 2) dX5_init_11 rfl <|
    aw_putI (pc := 12) C dX5_init_12 fp_X5_15 rfl rfl fun h2 =>
    aw_aload_n (pc := 15) C (i := 0) dX5_init_15 rfl rfl <|
    aw_iconst (pc := 16) C (v := 4) dX5_init_16 rfl <|
    aw_newqm (pc := 17) C (Z' := YC66) (N := 4) (t := 2) hKX.2.1 kl_X5_18 ln_YC65 wf_YC65 dX5_init_17 (by decide) rfl (by decide) rfl rfl rfl (Nat.le_of_ble_eq_true rfl) (Nat.le_of_ble_eq_true rfl) fun a4 h3 =>
    aw_putRF (pc := 20) C (Z' := YC67) hin dX5_init_20 fpf_X5_20 rfl rfl (fun _ => rfl) (fun _ => rfl) rfl <|
    aw_aload_n (pc := 23) C (i := 0) dX5_init_23 rfl rfl <|
    aw_bipush (pc := 24) C (v := 24) dX5_init_24 rfl <|
    aw_newIm (pc := 26) C (Z' := YC68) (N := 24) ln_YC67 wf_YC67 dX5_init_26 (by decide) rfl (by decide) rfl rfl rfl (Nat.le_of_ble_eq_true rfl) (Nat.le_of_ble_eq_true rfl) fun a6 h5 =>
    aw_putRF (pc := 28) C (Z' := YC69) hin dX5_init_28 fpf_X5_24 rfl rfl (fun _ => rfl) (fun _ => rfl) rfl <|
    aw_aload_n (pc := 31) C (i := 0) dX5_init_31 rfl rfl <|
    aw_bipush (pc := 32) C (v := 24) dX5_init_32 rfl <|
    aw_newIm (pc := 34) C (Z' := YC70) (N := 24) ln_YC69 wf_YC69 dX5_init_34 (by decide) rfl (by decide) rfl rfl rfl (Nat.le_of_ble_eq_true rfl) (Nat.le_of_ble_eq_true rfl) fun a8 h7 =>
    aw_putRF (pc := 36) C (Z' := YC71) hin dX5_init_36 fpf_X5_28 rfl rfl (fun _ => rfl) (fun _ => rfl) rfl <|
    aw_aload_n (pc := 39) C (i := 0) dX5_init_39 rfl rfl <|
    aw_bipush (pc := 40) C (v := 24) dX5_init_40 rfl <|
    aw_newIm (pc := 42) C (Z' := YC72) (N := 24) ln_YC71 wf_YC71 dX5_init_42 (by decide) rfl (by decide) rfl rfl rfl (Nat.le_of_ble_eq_true rfl) (Nat.le_of_ble_eq_true rfl) fun a10 h9 =>
    aw_putRF (pc := 44) C (Z' := YC73) hin dX5_init_44 fpf_X5_31 rfl rfl (fun _ => rfl) (fun _ => rfl) rfl <|
    aw_aload_n (pc := 47) C (i := 0) dX5_init_47 rfl rfl <|
    aw_bipush (pc := 48) C (v := 24) dX5_init_48 rfl <|
    aw_newIm (pc := 50) C (Z' := YC74) (N := 24) ln_YC73 wf_YC73 dX5_init_50 (by decide) rfl (by decide) rfl rfl rfl (Nat.le_of_ble_eq_true rfl) (Nat.le_of_ble_eq_true rfl) fun a12 h11 =>
    aw_putRF (pc := 52) C (Z' := YC75) hin dX5_init_52 fpf_X5_34 rfl rfl (fun _ => rfl) (fun _ => rfl) rfl <|
    aw_iconst (pc := 55) C (v := 0) dX5_init_55 rfl <|
    aw_istore_n (pc := 56) C (i := 2) (lv' := [(0, .ref 52), (1, .ref 36), (2, .int 0)]) dX5_init_56 rfl (by decide) rfl <|
    aw_iload_n (pc := 57) C (i := 2) dX5_init_57 rfl rfl <|
    aw_iconst (pc := 58) C (v := 4) dX5_init_58 rfl <|
    aw_dec (aw_icmp_ge (pc := 59) C (tgt := 82) dX5_init_59 rfl (fun c => absurd c (by decide)) (fun _ =>
    aw_aload_n (pc := 62) C (i := 0) dX5_init_62 rfl rfl <|
    aw_getR (pc := 63) C (b := 53) dX5_init_63 fl_X5_20 rfl rfl rfl <|
    aw_iload_n (pc := 66) C (i := 2) dX5_init_66 rfl rfl <|
    aw_newm (pc := 67) C (Z' := YC76) (ci := 2) (N := 9) (T := TX2) (codes := rty 2) (.inl (0, 9, 2)) ln_YC75 wf_YC75 dX5_init_67 rfl wsin_X2 tyX2_ok kl_X5_18 ki_X2 kn_X2 (fun _ _ _ _ => rfl) n3_X2 df_X2 rfl rfl (Nat.le_of_ble_eq_true rfl) (Nat.le_of_ble_eq_true rfl) fun a14 h13 =>
    aw_dup (pc := 70) C dX5_init_70 rfl <|
    aw_aload_n (pc := 71) C (i := 1) dX5_init_71 rfl rfl <|
    aw_callC (pc := 72) C (Z' := YC77) (rm' := rmX2_init_i58) (F := X2_init_i58) (run_I (As := [.ref 36]) (rest := [.ref 58, .int 0, .ref 53]) (b := 58) C kx_m kx_b hKX (c_X2_init_i58 X.2.1) dX5_init_72 mf_X2_init mj_X5_37 im_X2_init rfl ⟨(Nat.le_of_ble_eq_true rfl), (Nat.le_of_ble_eq_true rfl)⟩ rfl rfl (Nat.le_of_ble_eq_true rfl) ⟨(Nat.le_of_ble_eq_true rfl), (Nat.le_of_ble_eq_true rfl)⟩) rfl rfl (fun ad16 h15 ha17 =>
    aw_aast (pc := 75) C (Z' := YC78) (E := "MarkToBoard$Jumper") dX5_init_75 rfl rfl rfl rfl (as_X2 hKX) (by decide) (by decide) rfl <|
    aw_iinc (pc := 76) C (i := 2) (lv' := [(0, .ref 52), (1, .ref 36), (2, .int 1)]) dX5_init_76 rfl (by decide) rfl <|
    aw_goto (pc := 79) C (tgt := 57) dX5_init_79 rfl <|
    aw_iload_n (pc := 57) C (i := 2) dX5_init_57 rfl rfl <|
    aw_iconst (pc := 58) C (v := 4) dX5_init_58 rfl <|
    aw_dec (aw_icmp_ge (pc := 59) C (tgt := 82) dX5_init_59 rfl (fun c => absurd c (by decide)) (fun _ =>
    aw_aload_n (pc := 62) C (i := 0) dX5_init_62 rfl rfl <|
    aw_getR (pc := 63) C (b := 53) dX5_init_63 fl_X5_20 rfl rfl rfl <|
    aw_iload_n (pc := 66) C (i := 2) dX5_init_66 rfl rfl <|
    aw_newm (pc := 67) C (Z' := YC79) (ci := 2) (N := 9) (T := TX2) (codes := rty 2) (.inl (0, 9, 2)) ln_YC78 wf_YC78 dX5_init_67 rfl wsin_X2 tyX2_ok kl_X5_18 ki_X2 kn_X2 (fun _ _ _ _ => rfl) n3_X2 df_X2 rfl rfl (Nat.le_of_ble_eq_true rfl) (Nat.le_of_ble_eq_true rfl) fun a19 h18 =>
    aw_dup (pc := 70) C dX5_init_70 rfl <|
    aw_aload_n (pc := 71) C (i := 1) dX5_init_71 rfl rfl <|
    aw_callC (pc := 72) C (Z' := YC80) (rm' := rmX2_init_i59) (F := X2_init_i59) (run_I (As := [.ref 36]) (rest := [.ref 59, .int 1, .ref 53]) (b := 59) C kx_m kx_b hKX (c_X2_init_i59 X.2.1) dX5_init_72 mf_X2_init mj_X5_37 im_X2_init rfl ⟨(Nat.le_of_ble_eq_true rfl), (Nat.le_of_ble_eq_true rfl)⟩ rfl rfl (Nat.le_of_ble_eq_true rfl) ⟨(Nat.le_of_ble_eq_true rfl), (Nat.le_of_ble_eq_true rfl)⟩) rfl rfl (fun ad21 h20 ha22 =>
    aw_aast (pc := 75) C (Z' := YC81) (E := "MarkToBoard$Jumper") dX5_init_75 rfl rfl rfl rfl (as_X2 hKX) (by decide) (by decide) rfl <|
    aw_iinc (pc := 76) C (i := 2) (lv' := [(0, .ref 52), (1, .ref 36), (2, .int 2)]) dX5_init_76 rfl (by decide) rfl <|
    aw_goto (pc := 79) C (tgt := 57) dX5_init_79 rfl <|
    aw_iload_n (pc := 57) C (i := 2) dX5_init_57 rfl rfl <|
    aw_iconst (pc := 58) C (v := 4) dX5_init_58 rfl <|
    aw_dec (aw_icmp_ge (pc := 59) C (tgt := 82) dX5_init_59 rfl (fun c => absurd c (by decide)) (fun _ =>
    aw_aload_n (pc := 62) C (i := 0) dX5_init_62 rfl rfl <|
    aw_getR (pc := 63) C (b := 53) dX5_init_63 fl_X5_20 rfl rfl rfl <|
    aw_iload_n (pc := 66) C (i := 2) dX5_init_66 rfl rfl <|
    aw_newm (pc := 67) C (Z' := YC82) (ci := 2) (N := 9) (T := TX2) (codes := rty 2) (.inl (0, 9, 2)) ln_YC81 wf_YC81 dX5_init_67 rfl wsin_X2 tyX2_ok kl_X5_18 ki_X2 kn_X2 (fun _ _ _ _ => rfl) n3_X2 df_X2 rfl rfl (Nat.le_of_ble_eq_true rfl) (Nat.le_of_ble_eq_true rfl) fun a24 h23 =>
    aw_dup (pc := 70) C dX5_init_70 rfl <|
    aw_aload_n (pc := 71) C (i := 1) dX5_init_71 rfl rfl <|
    aw_callC (pc := 72) C (Z' := YC83) (rm' := rmX2_init_i60) (F := X2_init_i60) (run_I (As := [.ref 36]) (rest := [.ref 60, .int 2, .ref 53]) (b := 60) C kx_m kx_b hKX (c_X2_init_i60 X.2.1) dX5_init_72 mf_X2_init mj_X5_37 im_X2_init rfl ⟨(Nat.le_of_ble_eq_true rfl), (Nat.le_of_ble_eq_true rfl)⟩ rfl rfl (Nat.le_of_ble_eq_true rfl) ⟨(Nat.le_of_ble_eq_true rfl), (Nat.le_of_ble_eq_true rfl)⟩) rfl rfl (fun ad26 h25 ha27 =>
    aw_aast (pc := 75) C (Z' := YC84) (E := "MarkToBoard$Jumper") dX5_init_75 rfl rfl rfl rfl (as_X2 hKX) (by decide) (by decide) rfl <|
    aw_iinc (pc := 76) C (i := 2) (lv' := [(0, .ref 52), (1, .ref 36), (2, .int 3)]) dX5_init_76 rfl (by decide) rfl <|
    aw_goto (pc := 79) C (tgt := 57) dX5_init_79 rfl <|
    aw_iload_n (pc := 57) C (i := 2) dX5_init_57 rfl rfl <|
    aw_iconst (pc := 58) C (v := 4) dX5_init_58 rfl <|
    aw_dec (aw_icmp_ge (pc := 59) C (tgt := 82) dX5_init_59 rfl (fun c => absurd c (by decide)) (fun _ =>
    aw_aload_n (pc := 62) C (i := 0) dX5_init_62 rfl rfl <|
    aw_getR (pc := 63) C (b := 53) dX5_init_63 fl_X5_20 rfl rfl rfl <|
    aw_iload_n (pc := 66) C (i := 2) dX5_init_66 rfl rfl <|
    aw_newm (pc := 67) C (Z' := YC85) (ci := 2) (N := 9) (T := TX2) (codes := rty 2) (.inl (0, 9, 2)) ln_YC84 wf_YC84 dX5_init_67 rfl wsin_X2 tyX2_ok kl_X5_18 ki_X2 kn_X2 (fun _ _ _ _ => rfl) n3_X2 df_X2 rfl rfl (Nat.le_of_ble_eq_true rfl) (Nat.le_of_ble_eq_true rfl) fun a29 h28 =>
    aw_dup (pc := 70) C dX5_init_70 rfl <|
    aw_aload_n (pc := 71) C (i := 1) dX5_init_71 rfl rfl <|
    aw_callC (pc := 72) C (Z' := YC86) (rm' := rmX2_init_i61) (F := X2_init_i61) (run_I (As := [.ref 36]) (rest := [.ref 61, .int 3, .ref 53]) (b := 61) C kx_m kx_b hKX (c_X2_init_i61 X.2.1) dX5_init_72 mf_X2_init mj_X5_37 im_X2_init rfl ⟨(Nat.le_of_ble_eq_true rfl), (Nat.le_of_ble_eq_true rfl)⟩ rfl rfl (Nat.le_of_ble_eq_true rfl) ⟨(Nat.le_of_ble_eq_true rfl), (Nat.le_of_ble_eq_true rfl)⟩) rfl rfl (fun ad31 h30 ha32 =>
    aw_aast (pc := 75) C (Z' := YC87) (E := "MarkToBoard$Jumper") dX5_init_75 rfl rfl rfl rfl (as_X2 hKX) (by decide) (by decide) rfl <|
    aw_iinc (pc := 76) C (i := 2) (lv' := [(0, .ref 52), (1, .ref 36), (2, .int 4)]) dX5_init_76 rfl (by decide) rfl <|
    aw_goto (pc := 79) C (tgt := 57) dX5_init_79 rfl <|
    aw_iload_n (pc := 57) C (i := 2) dX5_init_57 rfl rfl <|
    aw_iconst (pc := 58) C (v := 4) dX5_init_58 rfl <|
    aw_dec (aw_icmp_ge (pc := 59) C (tgt := 82) dX5_init_59 rfl (fun _ =>
    aw_vretN (pc := 82) C (Agr.call (n := 62) (Agr.new (n := 61) (Agr.call (n := 61) (Agr.new (n := 60) (Agr.call (n := 60) (Agr.new (n := 59) (Agr.call (n := 59) (Agr.new (n := 58) (Agr.new (n := 57) (Agr.new (n := 56) (Agr.new (n := 55) (Agr.new (n := 54) (Agr.new (n := 53) (Agr.rf) (Nat.le_of_ble_eq_true rfl)) (Nat.le_of_ble_eq_true rfl)) (Nat.le_of_ble_eq_true rfl)) (Nat.le_of_ble_eq_true rfl)) (Nat.le_of_ble_eq_true rfl)) (Nat.le_of_ble_eq_true rfl)) (Nat.le_of_ble_eq_true rfl) (ha17)) (Nat.le_of_ble_eq_true rfl)) (Nat.le_of_ble_eq_true rfl) (ha22)) (Nat.le_of_ble_eq_true rfl)) (Nat.le_of_ble_eq_true rfl) (ha27)) (Nat.le_of_ble_eq_true rfl)) (Nat.le_of_ble_eq_true rfl) (ha32)) dX5_init_82 rfl rfl) (fun c => absurd (by decide) c))) rfl))) rfl))) rfl))) rfl))
