abbrev rmX3_init_i36 : Room := { frames := 1, cells := 0, slots := 0, locals := 20 }
def X3_init_i36 (h : AH) : Option (Unit × AH) :=
    some ((), h)
set_option maxRecDepth 100000 in
set_option maxHeartbeats 4000000 in
theorem c_X3_init_i36 (l : Launch) : MCN l yX3_init cX3_init 1 rmX3_init_i36 KX YC29 YC29 [.ref 36] X3_init_i36 :=
  MCN.of (own := RX3) (by decide +kernel) rfl rfl (Nat.le_of_ble_eq_true rfl) fun X yd A h C hKX hin =>
    aw_aload_n (pc := 0) C (i := 0) dX3_init_0 rfl rfl <|
    aw_objInit (pc := 1) C dX3_init_1 mo_X3_1 w_oi w_oc ⟨(Nat.le_of_ble_eq_true rfl), (Nat.le_of_ble_eq_true rfl)⟩ <|
    aw_vretN (pc := 4) C (Agr.rf) dX3_init_4 rfl rfl
abbrev rmX3_init_i37 : Room := { frames := 1, cells := 0, slots := 0, locals := 20 }
def X3_init_i37 (h : AH) : Option (Unit × AH) :=
    some ((), h)
set_option maxRecDepth 100000 in
set_option maxHeartbeats 4000000 in
theorem c_X3_init_i37 (l : Launch) : MCN l yX3_init cX3_init 1 rmX3_init_i37 KX YC31 YC31 [.ref 37] X3_init_i37 :=
  MCN.of (own := RX3) (by decide +kernel) rfl rfl (Nat.le_of_ble_eq_true rfl) fun X yd A h C hKX hin =>
    aw_aload_n (pc := 0) C (i := 0) dX3_init_0 rfl rfl <|
    aw_objInit (pc := 1) C dX3_init_1 mo_X3_1 w_oi w_oc ⟨(Nat.le_of_ble_eq_true rfl), (Nat.le_of_ble_eq_true rfl)⟩ <|
    aw_vretN (pc := 4) C (Agr.rf) dX3_init_4 rfl rfl
abbrev rmX7_init_i37 : Room := { frames := 2, cells := 0, slots := 0, locals := 40 }
def X7_init_i37 (h : AH) : Option (Unit × AH) :=
    bd (X3_init_i37 h) fun _ h1 =>
    some ((), h1)
set_option maxRecDepth 100000 in
set_option maxHeartbeats 4000000 in
theorem c_X7_init_i37 (l : Launch) : MCN l yX7_init cX7_init 1 rmX7_init_i37 KX YC31 YC31 [.ref 37] X7_init_i37 :=
  MCN.of (own := RX7) (by decide +kernel) rfl rfl (Nat.le_of_ble_eq_true rfl) fun X yd A h C hKX hin =>
    aw_aload_n (pc := 0) C (i := 0) dX7_init_0 rfl rfl <|
    aw_callC (pc := 1) C (Z' := YC31) (rm' := rmX3_init_i37) (F := X3_init_i37) (run_IN (host := "MarkToBoard") (As := []) (rest := []) (b := 37) C kx_m kx_b hKX (c_X3_init_i37 X.2.1) dX7_init_1 mf_X3_init (hKX.2.2.2.1 _ kx_X7_1) im_X3_init rfl ⟨(Nat.le_of_ble_eq_true rfl), (Nat.le_of_ble_eq_true rfl)⟩ rfl rfl (Nat.le_of_ble_eq_true rfl) ⟨(Nat.le_of_ble_eq_true rfl), (Nat.le_of_ble_eq_true rfl)⟩) rfl rfl (fun ad2 h1 ha3 =>
    aw_vretN (pc := 4) C (Agr.call (n := 38) (Agr.rf) (Nat.le_of_ble_eq_true rfl) (ha3)) dX7_init_4 rfl rfl) rfl
abbrev rmX3_init_i38 : Room := { frames := 1, cells := 0, slots := 0, locals := 20 }
def X3_init_i38 (h : AH) : Option (Unit × AH) :=
    some ((), h)
set_option maxRecDepth 100000 in
set_option maxHeartbeats 4000000 in
theorem c_X3_init_i38 (l : Launch) : MCN l yX3_init cX3_init 1 rmX3_init_i38 KX YC33 YC33 [.ref 38] X3_init_i38 :=
  MCN.of (own := RX3) (by decide +kernel) rfl rfl (Nat.le_of_ble_eq_true rfl) fun X yd A h C hKX hin =>
    aw_aload_n (pc := 0) C (i := 0) dX3_init_0 rfl rfl <|
    aw_objInit (pc := 1) C dX3_init_1 mo_X3_1 w_oi w_oc ⟨(Nat.le_of_ble_eq_true rfl), (Nat.le_of_ble_eq_true rfl)⟩ <|
    aw_vretN (pc := 4) C (Agr.rf) dX3_init_4 rfl rfl
abbrev rmX0_init_i38 : Room := { frames := 2, cells := 0, slots := 0, locals := 40 }
def X0_init_i38 (h : AH) : Option (Unit × AH) :=
    bd (X3_init_i38 h) fun _ h1 =>
    some ((), h1)
set_option maxRecDepth 100000 in
set_option maxHeartbeats 4000000 in
theorem c_X0_init_i38 (l : Launch) : MCN l yX0_init cX0_init 1 rmX0_init_i38 KX YC33 YC33 [.ref 38] X0_init_i38 :=
  MCN.of (own := RX0) (by decide +kernel) rfl rfl (Nat.le_of_ble_eq_true rfl) fun X yd A h C hKX hin =>
    aw_aload_n (pc := 0) C (i := 0) dX0_init_0 rfl rfl <|
    aw_callC (pc := 1) C (Z' := YC33) (rm' := rmX3_init_i38) (F := X3_init_i38) (run_IN (host := "MarkToBoard") (As := []) (rest := []) (b := 38) C kx_m kx_b hKX (c_X3_init_i38 X.2.1) dX0_init_1 mf_X3_init (hKX.2.2.2.1 _ kx_X0_1) im_X3_init rfl ⟨(Nat.le_of_ble_eq_true rfl), (Nat.le_of_ble_eq_true rfl)⟩ rfl rfl (Nat.le_of_ble_eq_true rfl) ⟨(Nat.le_of_ble_eq_true rfl), (Nat.le_of_ble_eq_true rfl)⟩) rfl rfl (fun ad2 h1 ha3 =>
    aw_vretN (pc := 4) C (Agr.call (n := 39) (Agr.rf) (Nat.le_of_ble_eq_true rfl) (ha3)) dX0_init_4 rfl rfl) rfl
abbrev rmX3_init_i39 : Room := { frames := 1, cells := 0, slots := 0, locals := 20 }
def X3_init_i39 (h : AH) : Option (Unit × AH) :=
    some ((), h)
set_option maxRecDepth 100000 in
set_option maxHeartbeats 4000000 in
theorem c_X3_init_i39 (l : Launch) : MCN l yX3_init cX3_init 1 rmX3_init_i39 KX YC35 YC35 [.ref 39] X3_init_i39 :=
  MCN.of (own := RX3) (by decide +kernel) rfl rfl (Nat.le_of_ble_eq_true rfl) fun X yd A h C hKX hin =>
    aw_aload_n (pc := 0) C (i := 0) dX3_init_0 rfl rfl <|
    aw_objInit (pc := 1) C dX3_init_1 mo_X3_1 w_oi w_oc ⟨(Nat.le_of_ble_eq_true rfl), (Nat.le_of_ble_eq_true rfl)⟩ <|
    aw_vretN (pc := 4) C (Agr.rf) dX3_init_4 rfl rfl
abbrev rmX7_init_i39 : Room := { frames := 2, cells := 0, slots := 0, locals := 40 }
def X7_init_i39 (h : AH) : Option (Unit × AH) :=
    bd (X3_init_i39 h) fun _ h1 =>
    some ((), h1)
set_option maxRecDepth 100000 in
set_option maxHeartbeats 4000000 in
theorem c_X7_init_i39 (l : Launch) : MCN l yX7_init cX7_init 1 rmX7_init_i39 KX YC35 YC35 [.ref 39] X7_init_i39 :=
  MCN.of (own := RX7) (by decide +kernel) rfl rfl (Nat.le_of_ble_eq_true rfl) fun X yd A h C hKX hin =>
    aw_aload_n (pc := 0) C (i := 0) dX7_init_0 rfl rfl <|
    aw_callC (pc := 1) C (Z' := YC35) (rm' := rmX3_init_i39) (F := X3_init_i39) (run_IN (host := "MarkToBoard") (As := []) (rest := []) (b := 39) C kx_m kx_b hKX (c_X3_init_i39 X.2.1) dX7_init_1 mf_X3_init (hKX.2.2.2.1 _ kx_X7_1) im_X3_init rfl ⟨(Nat.le_of_ble_eq_true rfl), (Nat.le_of_ble_eq_true rfl)⟩ rfl rfl (Nat.le_of_ble_eq_true rfl) ⟨(Nat.le_of_ble_eq_true rfl), (Nat.le_of_ble_eq_true rfl)⟩) rfl rfl (fun ad2 h1 ha3 =>
    aw_vretN (pc := 4) C (Agr.call (n := 40) (Agr.rf) (Nat.le_of_ble_eq_true rfl) (ha3)) dX7_init_4 rfl rfl) rfl
abbrev rmX4_init_i39 : Room := { frames := 3, cells := 0, slots := 0, locals := 60 }
def X4_init_i39 (h : AH) : Option (Unit × AH) :=
    bd (X7_init_i39 h) fun _ h1 =>
    some ((), h1)
set_option maxRecDepth 100000 in
set_option maxHeartbeats 4000000 in
theorem c_X4_init_i39 (l : Launch) : MCN l yX4_init cX4_init 1 rmX4_init_i39 KX YC35 YC35 [.ref 39] X4_init_i39 :=
  MCN.of (own := RX4) (by decide +kernel) rfl rfl (Nat.le_of_ble_eq_true rfl) fun X yd A h C hKX hin =>
    aw_aload_n (pc := 0) C (i := 0) dX4_init_0 rfl rfl <|
    aw_callC (pc := 1) C (Z' := YC35) (rm' := rmX7_init_i39) (F := X7_init_i39) (run_IN (host := "MarkToBoard") (As := []) (rest := []) (b := 39) C kx_m kx_b hKX (c_X7_init_i39 X.2.1) dX4_init_1 mf_X7_init (hKX.2.2.2.1 _ kx_X4_1) im_X7_init rfl ⟨(Nat.le_of_ble_eq_true rfl), (Nat.le_of_ble_eq_true rfl)⟩ rfl rfl (Nat.le_of_ble_eq_true rfl) ⟨(Nat.le_of_ble_eq_true rfl), (Nat.le_of_ble_eq_true rfl)⟩) rfl rfl (fun ad2 h1 ha3 =>
    aw_vretN (pc := 4) C (Agr.call (n := 40) (Agr.rf) (Nat.le_of_ble_eq_true rfl) (ha3)) dX4_init_4 rfl rfl) rfl
abbrev rmX3_init_i40 : Room := { frames := 1, cells := 0, slots := 0, locals := 20 }
def X3_init_i40 (h : AH) : Option (Unit × AH) :=
    some ((), h)
set_option maxRecDepth 100000 in
set_option maxHeartbeats 4000000 in
theorem c_X3_init_i40 (l : Launch) : MCN l yX3_init cX3_init 1 rmX3_init_i40 KX YC37 YC37 [.ref 40] X3_init_i40 :=
  MCN.of (own := RX3) (by decide +kernel) rfl rfl (Nat.le_of_ble_eq_true rfl) fun X yd A h C hKX hin =>
    aw_aload_n (pc := 0) C (i := 0) dX3_init_0 rfl rfl <|
    aw_objInit (pc := 1) C dX3_init_1 mo_X3_1 w_oi w_oc ⟨(Nat.le_of_ble_eq_true rfl), (Nat.le_of_ble_eq_true rfl)⟩ <|
    aw_vretN (pc := 4) C (Agr.rf) dX3_init_4 rfl rfl
abbrev rmX0_init_i40 : Room := { frames := 2, cells := 0, slots := 0, locals := 40 }
def X0_init_i40 (h : AH) : Option (Unit × AH) :=
    bd (X3_init_i40 h) fun _ h1 =>
    some ((), h1)
set_option maxRecDepth 100000 in
set_option maxHeartbeats 4000000 in
theorem c_X0_init_i40 (l : Launch) : MCN l yX0_init cX0_init 1 rmX0_init_i40 KX YC37 YC37 [.ref 40] X0_init_i40 :=
  MCN.of (own := RX0) (by decide +kernel) rfl rfl (Nat.le_of_ble_eq_true rfl) fun X yd A h C hKX hin =>
    aw_aload_n (pc := 0) C (i := 0) dX0_init_0 rfl rfl <|
    aw_callC (pc := 1) C (Z' := YC37) (rm' := rmX3_init_i40) (F := X3_init_i40) (run_IN (host := "MarkToBoard") (As := []) (rest := []) (b := 40) C kx_m kx_b hKX (c_X3_init_i40 X.2.1) dX0_init_1 mf_X3_init (hKX.2.2.2.1 _ kx_X0_1) im_X3_init rfl ⟨(Nat.le_of_ble_eq_true rfl), (Nat.le_of_ble_eq_true rfl)⟩ rfl rfl (Nat.le_of_ble_eq_true rfl) ⟨(Nat.le_of_ble_eq_true rfl), (Nat.le_of_ble_eq_true rfl)⟩) rfl rfl (fun ad2 h1 ha3 =>
    aw_vretN (pc := 4) C (Agr.call (n := 41) (Agr.rf) (Nat.le_of_ble_eq_true rfl) (ha3)) dX0_init_4 rfl rfl) rfl
abbrev rmX9_init_i40 : Room := { frames := 3, cells := 0, slots := 0, locals := 60 }
def X9_init_i40 (h : AH) : Option (Unit × AH) :=
    bd (X0_init_i40 h) fun _ h1 =>
    some ((), h1)
set_option maxRecDepth 100000 in
set_option maxHeartbeats 4000000 in
theorem c_X9_init_i40 (l : Launch) : MCN l yX9_init cX9_init 1 rmX9_init_i40 KX YC37 YC37 [.ref 40] X9_init_i40 :=
  MCN.of (own := RX9) (by decide +kernel) rfl rfl (Nat.le_of_ble_eq_true rfl) fun X yd A h C hKX hin =>
    aw_aload_n (pc := 0) C (i := 0) dX9_init_0 rfl rfl <|
    aw_callC (pc := 1) C (Z' := YC37) (rm' := rmX0_init_i40) (F := X0_init_i40) (run_IN (host := "MarkToBoard") (As := []) (rest := []) (b := 40) C kx_m kx_b hKX (c_X0_init_i40 X.2.1) dX9_init_1 mf_X0_init (hKX.2.2.2.1 _ kx_X9_1) im_X0_init rfl ⟨(Nat.le_of_ble_eq_true rfl), (Nat.le_of_ble_eq_true rfl)⟩ rfl rfl (Nat.le_of_ble_eq_true rfl) ⟨(Nat.le_of_ble_eq_true rfl), (Nat.le_of_ble_eq_true rfl)⟩) rfl rfl (fun ad2 h1 ha3 =>
    aw_vretN (pc := 4) C (Agr.call (n := 41) (Agr.rf) (Nat.le_of_ble_eq_true rfl) (ha3)) dX9_init_4 rfl rfl) rfl
abbrev rmX3_init_i41 : Room := { frames := 1, cells := 0, slots := 0, locals := 20 }
def X3_init_i41 (h : AH) : Option (Unit × AH) :=
    some ((), h)
set_option maxRecDepth 100000 in
set_option maxHeartbeats 4000000 in
theorem c_X3_init_i41 (l : Launch) : MCN l yX3_init cX3_init 1 rmX3_init_i41 KX YC39 YC39 [.ref 41] X3_init_i41 :=
  MCN.of (own := RX3) (by decide +kernel) rfl rfl (Nat.le_of_ble_eq_true rfl) fun X yd A h C hKX hin =>
    aw_aload_n (pc := 0) C (i := 0) dX3_init_0 rfl rfl <|
    aw_objInit (pc := 1) C dX3_init_1 mo_X3_1 w_oi w_oc ⟨(Nat.le_of_ble_eq_true rfl), (Nat.le_of_ble_eq_true rfl)⟩ <|
    aw_vretN (pc := 4) C (Agr.rf) dX3_init_4 rfl rfl
abbrev rmX7_init_i41 : Room := { frames := 2, cells := 0, slots := 0, locals := 40 }
def X7_init_i41 (h : AH) : Option (Unit × AH) :=
    bd (X3_init_i41 h) fun _ h1 =>
    some ((), h1)
set_option maxRecDepth 100000 in
set_option maxHeartbeats 4000000 in
theorem c_X7_init_i41 (l : Launch) : MCN l yX7_init cX7_init 1 rmX7_init_i41 KX YC39 YC39 [.ref 41] X7_init_i41 :=
  MCN.of (own := RX7) (by decide +kernel) rfl rfl (Nat.le_of_ble_eq_true rfl) fun X yd A h C hKX hin =>
    aw_aload_n (pc := 0) C (i := 0) dX7_init_0 rfl rfl <|
    aw_callC (pc := 1) C (Z' := YC39) (rm' := rmX3_init_i41) (F := X3_init_i41) (run_IN (host := "MarkToBoard") (As := []) (rest := []) (b := 41) C kx_m kx_b hKX (c_X3_init_i41 X.2.1) dX7_init_1 mf_X3_init (hKX.2.2.2.1 _ kx_X7_1) im_X3_init rfl ⟨(Nat.le_of_ble_eq_true rfl), (Nat.le_of_ble_eq_true rfl)⟩ rfl rfl (Nat.le_of_ble_eq_true rfl) ⟨(Nat.le_of_ble_eq_true rfl), (Nat.le_of_ble_eq_true rfl)⟩) rfl rfl (fun ad2 h1 ha3 =>
    aw_vretN (pc := 4) C (Agr.call (n := 42) (Agr.rf) (Nat.le_of_ble_eq_true rfl) (ha3)) dX7_init_4 rfl rfl) rfl
abbrev rmX4_init_i41 : Room := { frames := 3, cells := 0, slots := 0, locals := 60 }
def X4_init_i41 (h : AH) : Option (Unit × AH) :=
    bd (X7_init_i41 h) fun _ h1 =>
    some ((), h1)
set_option maxRecDepth 100000 in
set_option maxHeartbeats 4000000 in
theorem c_X4_init_i41 (l : Launch) : MCN l yX4_init cX4_init 1 rmX4_init_i41 KX YC39 YC39 [.ref 41] X4_init_i41 :=
  MCN.of (own := RX4) (by decide +kernel) rfl rfl (Nat.le_of_ble_eq_true rfl) fun X yd A h C hKX hin =>
    aw_aload_n (pc := 0) C (i := 0) dX4_init_0 rfl rfl <|
    aw_callC (pc := 1) C (Z' := YC39) (rm' := rmX7_init_i41) (F := X7_init_i41) (run_IN (host := "MarkToBoard") (As := []) (rest := []) (b := 41) C kx_m kx_b hKX (c_X7_init_i41 X.2.1) dX4_init_1 mf_X7_init (hKX.2.2.2.1 _ kx_X4_1) im_X7_init rfl ⟨(Nat.le_of_ble_eq_true rfl), (Nat.le_of_ble_eq_true rfl)⟩ rfl rfl (Nat.le_of_ble_eq_true rfl) ⟨(Nat.le_of_ble_eq_true rfl), (Nat.le_of_ble_eq_true rfl)⟩) rfl rfl (fun ad2 h1 ha3 =>
    aw_vretN (pc := 4) C (Agr.call (n := 42) (Agr.rf) (Nat.le_of_ble_eq_true rfl) (ha3)) dX4_init_4 rfl rfl) rfl
abbrev rmX8_init_i41 : Room := { frames := 4, cells := 0, slots := 0, locals := 80 }
def X8_init_i41 (h : AH) : Option (Unit × AH) :=
    bd (X4_init_i41 h) fun _ h1 =>
    some ((), h1)
set_option maxRecDepth 100000 in
set_option maxHeartbeats 4000000 in
theorem c_X8_init_i41 (l : Launch) : MCN l yX8_init cX8_init 1 rmX8_init_i41 KX YC39 YC39 [.ref 41] X8_init_i41 :=
  MCN.of (own := RX8) (by decide +kernel) rfl rfl (Nat.le_of_ble_eq_true rfl) fun X yd A h C hKX hin =>
    aw_aload_n (pc := 0) C (i := 0) dX8_init_0 rfl rfl <|
    aw_callC (pc := 1) C (Z' := YC39) (rm' := rmX4_init_i41) (F := X4_init_i41) (run_IN (host := "MarkToBoard") (As := []) (rest := []) (b := 41) C kx_m kx_b hKX (c_X4_init_i41 X.2.1) dX8_init_1 mf_X4_init (hKX.2.2.2.1 _ kx_X8_1) im_X4_init rfl ⟨(Nat.le_of_ble_eq_true rfl), (Nat.le_of_ble_eq_true rfl)⟩ rfl rfl (Nat.le_of_ble_eq_true rfl) ⟨(Nat.le_of_ble_eq_true rfl), (Nat.le_of_ble_eq_true rfl)⟩) rfl rfl (fun ad2 h1 ha3 =>
    aw_vretN (pc := 4) C (Agr.call (n := 42) (Agr.rf) (Nat.le_of_ble_eq_true rfl) (ha3)) dX8_init_4 rfl rfl) rfl
abbrev rmX2_init_i48 : Room := { frames := 1, cells := 0, slots := 0, locals := 20 }
def X2_init_i48 (h : AH) : Option (Unit × AH) :=
    vl (sK h 48 0) fun h1 =>
    some ((), h1)
set_option maxRecDepth 100000 in
set_option maxHeartbeats 4000000 in
theorem c_X2_init_i48 (l : Launch) : MCN l yX2_init cX2_init 2 rmX2_init_i48 KX YC52 YC53 [.ref 48, .ref 36] X2_init_i48 :=
  MCN.of (own := RX2) (by decide +kernel) rfl rfl (Nat.le_of_ble_eq_true rfl) fun X yd A h C hKX hin =>
    aw_aload_n (pc := 0) C (i := 0) dX2_init_0 rfl rfl <|
    aw_objInit (pc := 1) C dX2_init_1 mo_X2_1 w_oi w_oc ⟨(Nat.le_of_ble_eq_true rfl), (Nat.le_of_ble_eq_true rfl)⟩ <|
    aw_aload_n (pc := 4) C (i := 0) dX2_init_4 rfl rfl <|
    aw_aload_n (pc := 5) C (i := 1) dX2_init_5 rfl rfl <|
    aw_putW0 (pc := 6) C (Z' := YC53) (v := 0) dX2_init_6 fp_X2_7 rfl rfl rfl fun h1 =>
    aw_vretN (pc := 9) C (Agr.rf) dX2_init_9 rfl rfl
abbrev rmX2_init_i49 : Room := { frames := 1, cells := 0, slots := 0, locals := 20 }
def X2_init_i49 (h : AH) : Option (Unit × AH) :=
    vl (sK h 49 0) fun h1 =>
    some ((), h1)
set_option maxRecDepth 100000 in
set_option maxHeartbeats 4000000 in
theorem c_X2_init_i49 (l : Launch) : MCN l yX2_init cX2_init 2 rmX2_init_i49 KX YC55 YC56 [.ref 49, .ref 36] X2_init_i49 :=
  MCN.of (own := RX2) (by decide +kernel) rfl rfl (Nat.le_of_ble_eq_true rfl) fun X yd A h C hKX hin =>
    aw_aload_n (pc := 0) C (i := 0) dX2_init_0 rfl rfl <|
    aw_objInit (pc := 1) C dX2_init_1 mo_X2_1 w_oi w_oc ⟨(Nat.le_of_ble_eq_true rfl), (Nat.le_of_ble_eq_true rfl)⟩ <|
    aw_aload_n (pc := 4) C (i := 0) dX2_init_4 rfl rfl <|
    aw_aload_n (pc := 5) C (i := 1) dX2_init_5 rfl rfl <|
    aw_putW0 (pc := 6) C (Z' := YC56) (v := 0) dX2_init_6 fp_X2_7 rfl rfl rfl fun h1 =>
    aw_vretN (pc := 9) C (Agr.rf) dX2_init_9 rfl rfl
abbrev rmX2_init_i50 : Room := { frames := 1, cells := 0, slots := 0, locals := 20 }
def X2_init_i50 (h : AH) : Option (Unit × AH) :=
    vl (sK h 50 0) fun h1 =>
    some ((), h1)
set_option maxRecDepth 100000 in
set_option maxHeartbeats 4000000 in
theorem c_X2_init_i50 (l : Launch) : MCN l yX2_init cX2_init 2 rmX2_init_i50 KX YC58 YC59 [.ref 50, .ref 36] X2_init_i50 :=
  MCN.of (own := RX2) (by decide +kernel) rfl rfl (Nat.le_of_ble_eq_true rfl) fun X yd A h C hKX hin =>
    aw_aload_n (pc := 0) C (i := 0) dX2_init_0 rfl rfl <|
    aw_objInit (pc := 1) C dX2_init_1 mo_X2_1 w_oi w_oc ⟨(Nat.le_of_ble_eq_true rfl), (Nat.le_of_ble_eq_true rfl)⟩ <|
    aw_aload_n (pc := 4) C (i := 0) dX2_init_4 rfl rfl <|
    aw_aload_n (pc := 5) C (i := 1) dX2_init_5 rfl rfl <|
    aw_putW0 (pc := 6) C (Z' := YC59) (v := 0) dX2_init_6 fp_X2_7 rfl rfl rfl fun h1 =>
    aw_vretN (pc := 9) C (Agr.rf) dX2_init_9 rfl rfl
abbrev rmX2_init_i51 : Room := { frames := 1, cells := 0, slots := 0, locals := 20 }
def X2_init_i51 (h : AH) : Option (Unit × AH) :=
    vl (sK h 51 0) fun h1 =>
    some ((), h1)
set_option maxRecDepth 100000 in
set_option maxHeartbeats 4000000 in
theorem c_X2_init_i51 (l : Launch) : MCN l yX2_init cX2_init 2 rmX2_init_i51 KX YC61 YC62 [.ref 51, .ref 36] X2_init_i51 :=
  MCN.of (own := RX2) (by decide +kernel) rfl rfl (Nat.le_of_ble_eq_true rfl) fun X yd A h C hKX hin =>
    aw_aload_n (pc := 0) C (i := 0) dX2_init_0 rfl rfl <|
    aw_objInit (pc := 1) C dX2_init_1 mo_X2_1 w_oi w_oc ⟨(Nat.le_of_ble_eq_true rfl), (Nat.le_of_ble_eq_true rfl)⟩ <|
    aw_aload_n (pc := 4) C (i := 0) dX2_init_4 rfl rfl <|
    aw_aload_n (pc := 5) C (i := 1) dX2_init_5 rfl rfl <|
    aw_putW0 (pc := 6) C (Z' := YC62) (v := 0) dX2_init_6 fp_X2_7 rfl rfl rfl fun h1 =>
    aw_vretN (pc := 9) C (Agr.rf) dX2_init_9 rfl rfl
