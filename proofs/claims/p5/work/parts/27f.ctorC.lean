abbrev rmX2_init_i58 : Room := { frames := 1, cells := 0, slots := 0, locals := 20 }
def X2_init_i58 (h : AH) : Option (Unit × AH) :=
    vl (sK h 58 0) fun h1 =>
    some ((), h1)
set_option maxRecDepth 100000 in
set_option maxHeartbeats 4000000 in
theorem c_X2_init_i58 (l : Launch) : MCN l yX2_init cX2_init 2 rmX2_init_i58 KX YC76 YC77 [.ref 58, .ref 36] X2_init_i58 :=
  MCN.of (own := RX2) (by decide +kernel) rfl rfl (Nat.le_of_ble_eq_true rfl) fun X yd A h C hKX hin =>
    aw_aload_n (pc := 0) C (i := 0) dX2_init_0 rfl rfl <|
    aw_objInit (pc := 1) C dX2_init_1 mo_X2_1 w_oi w_oc ⟨(Nat.le_of_ble_eq_true rfl), (Nat.le_of_ble_eq_true rfl)⟩ <|
    aw_aload_n (pc := 4) C (i := 0) dX2_init_4 rfl rfl <|
    aw_aload_n (pc := 5) C (i := 1) dX2_init_5 rfl rfl <|
    aw_putW0 (pc := 6) C (Z' := YC77) (v := 0) dX2_init_6 fp_X2_7 rfl rfl rfl fun h1 =>
    aw_vretN (pc := 9) C (Agr.rf) dX2_init_9 rfl rfl
abbrev rmX2_init_i59 : Room := { frames := 1, cells := 0, slots := 0, locals := 20 }
def X2_init_i59 (h : AH) : Option (Unit × AH) :=
    vl (sK h 59 0) fun h1 =>
    some ((), h1)
set_option maxRecDepth 100000 in
set_option maxHeartbeats 4000000 in
theorem c_X2_init_i59 (l : Launch) : MCN l yX2_init cX2_init 2 rmX2_init_i59 KX YC79 YC80 [.ref 59, .ref 36] X2_init_i59 :=
  MCN.of (own := RX2) (by decide +kernel) rfl rfl (Nat.le_of_ble_eq_true rfl) fun X yd A h C hKX hin =>
    aw_aload_n (pc := 0) C (i := 0) dX2_init_0 rfl rfl <|
    aw_objInit (pc := 1) C dX2_init_1 mo_X2_1 w_oi w_oc ⟨(Nat.le_of_ble_eq_true rfl), (Nat.le_of_ble_eq_true rfl)⟩ <|
    aw_aload_n (pc := 4) C (i := 0) dX2_init_4 rfl rfl <|
    aw_aload_n (pc := 5) C (i := 1) dX2_init_5 rfl rfl <|
    aw_putW0 (pc := 6) C (Z' := YC80) (v := 0) dX2_init_6 fp_X2_7 rfl rfl rfl fun h1 =>
    aw_vretN (pc := 9) C (Agr.rf) dX2_init_9 rfl rfl
abbrev rmX2_init_i60 : Room := { frames := 1, cells := 0, slots := 0, locals := 20 }
def X2_init_i60 (h : AH) : Option (Unit × AH) :=
    vl (sK h 60 0) fun h1 =>
    some ((), h1)
set_option maxRecDepth 100000 in
set_option maxHeartbeats 4000000 in
theorem c_X2_init_i60 (l : Launch) : MCN l yX2_init cX2_init 2 rmX2_init_i60 KX YC82 YC83 [.ref 60, .ref 36] X2_init_i60 :=
  MCN.of (own := RX2) (by decide +kernel) rfl rfl (Nat.le_of_ble_eq_true rfl) fun X yd A h C hKX hin =>
    aw_aload_n (pc := 0) C (i := 0) dX2_init_0 rfl rfl <|
    aw_objInit (pc := 1) C dX2_init_1 mo_X2_1 w_oi w_oc ⟨(Nat.le_of_ble_eq_true rfl), (Nat.le_of_ble_eq_true rfl)⟩ <|
    aw_aload_n (pc := 4) C (i := 0) dX2_init_4 rfl rfl <|
    aw_aload_n (pc := 5) C (i := 1) dX2_init_5 rfl rfl <|
    aw_putW0 (pc := 6) C (Z' := YC83) (v := 0) dX2_init_6 fp_X2_7 rfl rfl rfl fun h1 =>
    aw_vretN (pc := 9) C (Agr.rf) dX2_init_9 rfl rfl
abbrev rmX2_init_i61 : Room := { frames := 1, cells := 0, slots := 0, locals := 20 }
def X2_init_i61 (h : AH) : Option (Unit × AH) :=
    vl (sK h 61 0) fun h1 =>
    some ((), h1)
set_option maxRecDepth 100000 in
set_option maxHeartbeats 4000000 in
theorem c_X2_init_i61 (l : Launch) : MCN l yX2_init cX2_init 2 rmX2_init_i61 KX YC85 YC86 [.ref 61, .ref 36] X2_init_i61 :=
  MCN.of (own := RX2) (by decide +kernel) rfl rfl (Nat.le_of_ble_eq_true rfl) fun X yd A h C hKX hin =>
    aw_aload_n (pc := 0) C (i := 0) dX2_init_0 rfl rfl <|
    aw_objInit (pc := 1) C dX2_init_1 mo_X2_1 w_oi w_oc ⟨(Nat.le_of_ble_eq_true rfl), (Nat.le_of_ble_eq_true rfl)⟩ <|
    aw_aload_n (pc := 4) C (i := 0) dX2_init_4 rfl rfl <|
    aw_aload_n (pc := 5) C (i := 1) dX2_init_5 rfl rfl <|
    aw_putW0 (pc := 6) C (Z' := YC86) (v := 0) dX2_init_6 fp_X2_7 rfl rfl rfl fun h1 =>
    aw_vretN (pc := 9) C (Agr.rf) dX2_init_9 rfl rfl
