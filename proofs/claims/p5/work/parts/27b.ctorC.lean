abbrev rmX6_init_i5 : Room := { frames := 1, cells := 2, slots := 8, locals := 20 }
def X6_init_i5 (h : AH) : Option (Unit × AH) :=
    vl (zN h 6) fun h1 =>
    vl (zN h1 7) fun h3 =>
    some ((), h3)
set_option maxRecDepth 100000 in
set_option maxHeartbeats 4000000 in
theorem c_X6_init_i5 (l : Launch) : MCN l yX6_init cX6_init 1 rmX6_init_i5 KX YC9 YC13 [.ref 5] X6_init_i5 :=
  MCN.of (own := RX6) (by decide +kernel) rfl rfl (Nat.le_of_ble_eq_true rfl) fun X yd A h C hKX hin =>
    aw_aload_n (pc := 0) C (i := 0) dX6_init_0 rfl rfl <|
    aw_objInit (pc := 1) C dX6_init_1 mo_X6_3 w_oi w_oc ⟨(Nat.le_of_ble_eq_true rfl), (Nat.le_of_ble_eq_true rfl)⟩ <|
    aw_aload_n (pc := 4) C (i := 0) dX6_init_4 rfl rfl <|
    aw_iconst (pc := 5) C (v := 4) dX6_init_5 rfl <|
    aw_newIm (pc := 6) C (Z' := YC10) (N := 4) ln_YC9 wf_YC9 dX6_init_6 (by decide) rfl (by decide) rfl rfl rfl (Nat.le_of_ble_eq_true rfl) (Nat.le_of_ble_eq_true rfl) fun a2 h1 =>
    aw_putRF (pc := 8) C (Z' := YC11) hin dX6_init_8 fpf_X6_9 rfl rfl (fun _ => rfl) (fun _ => rfl) rfl <|
    aw_aload_n (pc := 11) C (i := 0) dX6_init_11 rfl rfl <|
    aw_iconst (pc := 12) C (v := 4) dX6_init_12 rfl <|
    aw_newIm (pc := 13) C (Z' := YC12) (N := 4) ln_YC11 wf_YC11 dX6_init_13 (by decide) rfl (by decide) rfl rfl rfl (Nat.le_of_ble_eq_true rfl) (Nat.le_of_ble_eq_true rfl) fun a4 h3 =>
    aw_putRF (pc := 15) C (Z' := YC13) hin dX6_init_15 fpf_X6_15 rfl rfl (fun _ => rfl) (fun _ => rfl) rfl <|
    aw_vretN (pc := 18) C (Agr.new (n := 7) (Agr.new (n := 6) (Agr.rf) (Nat.le_of_ble_eq_true rfl)) (Nat.le_of_ble_eq_true rfl)) dX6_init_18 rfl rfl
