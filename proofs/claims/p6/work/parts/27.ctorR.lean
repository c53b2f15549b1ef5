def YR0 : Stc := ([.inr 11], (fun _ _ => none), 0, tlR)
theorem ln_YR0 : YR0.1.length = 1 := rfl
theorem wf_YR0 : WFs YR0 := wf_one (by decide)
def YR1 : Stc := addS YR0 (.inl (0, 0, 7))
theorem ln_YR1 : YR1.1.length = 2 := ln_add ln_YR0
theorem wf_YR1 : WFs YR1 := wf_add wf_YR0 (by decide)
def YR2 : Stc := putR YR1 0 0 1
theorem ln_YR2 : YR2.1.length = 2 := ln_YR1
theorem wf_YR2 : WFs YR2 := wf_put wf_YR1 (by rw [ln_YR1]; decide) (by rw [ln_YR1]; decide)
def YR3 : Stc := addS YR2 (.inl (0, 0, 4))
theorem ln_YR3 : YR3.1.length = 3 := ln_add ln_YR2
theorem wf_YR3 : WFs YR3 := wf_add wf_YR2 (by decide)
def YR4 : Stc := putR YR3 0 1 2
theorem ln_YR4 : YR4.1.length = 3 := ln_YR3
theorem wf_YR4 : WFs YR4 := wf_put wf_YR3 (by rw [ln_YR3]; decide) (by rw [ln_YR3]; decide)
def YR5 : Stc := addS YR4 (.inl (0, 0, 4))
theorem ln_YR5 : YR5.1.length = 4 := ln_add ln_YR4
theorem wf_YR5 : WFs YR5 := wf_add wf_YR4 (by decide)
def YR6 : Stc := putR YR5 0 2 3
theorem ln_YR6 : YR6.1.length = 4 := ln_YR5
theorem wf_YR6 : WFs YR6 := wf_put wf_YR5 (by rw [ln_YR5]; decide) (by rw [ln_YR5]; decide)
def YR7 : Stc := addS YR6 (.inl (0, 0, 4))
theorem ln_YR7 : YR7.1.length = 5 := ln_add ln_YR6
theorem wf_YR7 : WFs YR7 := wf_add wf_YR6 (by decide)
def YR8 : Stc := putR YR7 0 3 4
theorem ln_YR8 : YR8.1.length = 5 := ln_YR7
theorem wf_YR8 : WFs YR8 := wf_put wf_YR7 (by rw [ln_YR7]; decide) (by rw [ln_YR7]; decide)
def YR9 : Stc := addS YR8 (.inl (0, 0, 4))
theorem ln_YR9 : YR9.1.length = 6 := ln_add ln_YR8
theorem wf_YR9 : WFs YR9 := wf_add wf_YR8 (by decide)
def YR10 : Stc := putR YR9 0 4 5
theorem ln_YR10 : YR10.1.length = 6 := ln_YR9
theorem wf_YR10 : WFs YR10 := wf_put wf_YR9 (by rw [ln_YR9]; decide) (by rw [ln_YR9]; decide)
def YR11 : Stc := addS YR10 (.inl (0, 0, 4))
theorem ln_YR11 : YR11.1.length = 7 := ln_add ln_YR10
theorem wf_YR11 : WFs YR11 := wf_add wf_YR10 (by decide)
def YR12 : Stc := putR YR11 0 5 6
theorem ln_YR12 : YR12.1.length = 7 := ln_YR11
theorem wf_YR12 : WFs YR12 := wf_put wf_YR11 (by rw [ln_YR11]; decide) (by rw [ln_YR11]; decide)
def YR13 : Stc := addS YR12 (.inl (0, 0, 4))
theorem ln_YR13 : YR13.1.length = 8 := ln_add ln_YR12
theorem wf_YR13 : WFs YR13 := wf_add wf_YR12 (by decide)
def YR14 : Stc := putR YR13 0 6 7
theorem ln_YR14 : YR14.1.length = 8 := ln_YR13
theorem wf_YR14 : WFs YR14 := wf_put wf_YR13 (by rw [ln_YR13]; decide) (by rw [ln_YR13]; decide)
def YR15 : Stc := addS YR14 (.inl (0, 0, 4))
theorem ln_YR15 : YR15.1.length = 9 := ln_add ln_YR14
theorem wf_YR15 : WFs YR15 := wf_add wf_YR14 (by decide)
def YR16 : Stc := putR YR15 0 7 8
theorem ln_YR16 : YR16.1.length = 9 := ln_YR15
theorem wf_YR16 : WFs YR16 := wf_put wf_YR15 (by rw [ln_YR15]; decide) (by rw [ln_YR15]; decide)
def YR17 : Stc := addS YR16 (.inl (0, 0, 4))
theorem ln_YR17 : YR17.1.length = 10 := ln_add ln_YR16
theorem wf_YR17 : WFs YR17 := wf_add wf_YR16 (by decide)
def YR18 : Stc := putR YR17 0 8 9
theorem ln_YR18 : YR18.1.length = 10 := ln_YR17
theorem wf_YR18 : WFs YR18 := wf_put wf_YR17 (by rw [ln_YR17]; decide) (by rw [ln_YR17]; decide)
def YR19 : Stc := addS YR18 (.inl (0, 0, 24))
theorem ln_YR19 : YR19.1.length = 11 := ln_add ln_YR18
theorem wf_YR19 : WFs YR19 := wf_add wf_YR18 (by decide)
def YR20 : Stc := putR YR19 0 9 10
theorem ln_YR20 : YR20.1.length = 11 := ln_YR19
theorem wf_YR20 : WFs YR20 := wf_put wf_YR19 (by rw [ln_YR19]; decide) (by rw [ln_YR19]; decide)
def YR21 : Stc := addS YR20 (.inl (0, 0, 24))
theorem ln_YR21 : YR21.1.length = 12 := ln_add ln_YR20
theorem wf_YR21 : WFs YR21 := wf_add wf_YR20 (by decide)
def YR22 : Stc := putR YR21 0 10 11
theorem ln_YR22 : YR22.1.length = 12 := ln_YR21
theorem wf_YR22 : WFs YR22 := wf_put wf_YR21 (by rw [ln_YR21]; decide) (by rw [ln_YR21]; decide)
def YR23 : Stc := addS YR22 (.inl (0, 0, 24))
theorem ln_YR23 : YR23.1.length = 13 := ln_add ln_YR22
theorem wf_YR23 : WFs YR23 := wf_add wf_YR22 (by decide)
def YR24 : Stc := putR YR23 0 11 12
theorem ln_YR24 : YR24.1.length = 13 := ln_YR23
theorem wf_YR24 : WFs YR24 := wf_put wf_YR23 (by rw [ln_YR23]; decide) (by rw [ln_YR23]; decide)
def YR25 : Stc := addS YR24 (.inl (0, 0, 96))
theorem ln_YR25 : YR25.1.length = 14 := ln_add ln_YR24
theorem wf_YR25 : WFs YR25 := wf_add wf_YR24 (by decide)
def YR26 : Stc := putR YR25 0 17 13
theorem ln_YR26 : YR26.1.length = 14 := ln_YR25
theorem wf_YR26 : WFs YR26 := wf_put wf_YR25 (by rw [ln_YR25]; decide) (by rw [ln_YR25]; decide)
def YR27 : Stc := addS YR26 (.inl (0, 0, 48))
theorem ln_YR27 : YR27.1.length = 15 := ln_add ln_YR26
theorem wf_YR27 : WFs YR27 := wf_add wf_YR26 (by decide)
def YR28 : Stc := putR YR27 0 18 14
theorem ln_YR28 : YR28.1.length = 15 := ln_YR27
theorem wf_YR28 : WFs YR28 := wf_put wf_YR27 (by rw [ln_YR27]; decide) (by rw [ln_YR27]; decide)
def YR29 : Stc := addS YR28 (.inl (0, 0, 48))
theorem ln_YR29 : YR29.1.length = 16 := ln_add ln_YR28
theorem wf_YR29 : WFs YR29 := wf_add wf_YR28 (by decide)
def YR30 : Stc := putR YR29 0 19 15
theorem ln_YR30 : YR30.1.length = 16 := ln_YR29
theorem wf_YR30 : WFs YR30 := wf_put wf_YR29 (by rw [ln_YR29]; decide) (by rw [ln_YR29]; decide)
def YR31 : Stc := addS YR30 (.inl (0, 0, 384))
theorem ln_YR31 : YR31.1.length = 17 := ln_add ln_YR30
theorem wf_YR31 : WFs YR31 := wf_add wf_YR30 (by decide)
def YR32 : Stc := putR YR31 0 20 16
theorem ln_YR32 : YR32.1.length = 17 := ln_YR31
theorem wf_YR32 : WFs YR32 := wf_put wf_YR31 (by rw [ln_YR31]; decide) (by rw [ln_YR31]; decide)
def YR33 : Stc := addS YR32 (.inl (0, 0, 240))
theorem ln_YR33 : YR33.1.length = 18 := ln_add ln_YR32
theorem wf_YR33 : WFs YR33 := wf_add wf_YR32 (by decide)
def YR34 : Stc := putR YR33 0 24 17
theorem ln_YR34 : YR34.1.length = 18 := ln_YR33
theorem wf_YR34 : WFs YR34 := wf_put wf_YR33 (by rw [ln_YR33]; decide) (by rw [ln_YR33]; decide)
def YR35 : Stc := addS YR34 (.inl (1, 1, 41))
theorem ln_YR35 : YR35.1.length = 19 := ln_add ln_YR34
theorem wf_YR35 : WFs YR35 := wf_add wf_YR34 (by decide)
def YR36 : Stc := putR YR35 0 28 18
theorem ln_YR36 : YR36.1.length = 19 := ln_YR35
theorem wf_YR36 : WFs YR36 := wf_put wf_YR35 (by rw [ln_YR35]; decide) (by rw [ln_YR35]; decide)
def YR37 : Stc := addS YR36 (.inl (1, 1, 41))
theorem ln_YR37 : YR37.1.length = 20 := ln_add ln_YR36
theorem wf_YR37 : WFs YR37 := wf_add wf_YR36 (by decide)
def YR38 : Stc := putR YR37 0 29 19
theorem ln_YR38 : YR38.1.length = 20 := ln_YR37
theorem wf_YR38 : WFs YR38 := wf_put wf_YR37 (by rw [ln_YR37]; decide) (by rw [ln_YR37]; decide)
def YR39 : Stc := addS YR38 (.inl (0, 0, 4))
theorem ln_YR39 : YR39.1.length = 21 := ln_add ln_YR38
theorem wf_YR39 : WFs YR39 := wf_add wf_YR38 (by decide)
def YR40 : Stc := putR YR39 0 30 20
theorem ln_YR40 : YR40.1.length = 21 := ln_YR39
theorem wf_YR40 : WFs YR40 := wf_put wf_YR39 (by rw [ln_YR39]; decide) (by rw [ln_YR39]; decide)
def YR41 : Stc := addS YR40 (.inl (0, 0, 4))
theorem ln_YR41 : YR41.1.length = 22 := ln_add ln_YR40
theorem wf_YR41 : WFs YR41 := wf_add wf_YR40 (by decide)
def YR42 : Stc := putR YR41 0 31 21
theorem ln_YR42 : YR42.1.length = 22 := ln_YR41
theorem wf_YR42 : WFs YR42 := wf_put wf_YR41 (by rw [ln_YR41]; decide) (by rw [ln_YR41]; decide)
def YR43 : Stc := addS YR42 (.inl (0, 0, 4))
theorem ln_YR43 : YR43.1.length = 23 := ln_add ln_YR42
theorem wf_YR43 : WFs YR43 := wf_add wf_YR42 (by decide)
def YR44 : Stc := putR YR43 0 32 22
theorem ln_YR44 : YR44.1.length = 23 := ln_YR43
theorem wf_YR44 : WFs YR44 := wf_put wf_YR43 (by rw [ln_YR43]; decide) (by rw [ln_YR43]; decide)
def YR45 : Stc := addS YR44 (.inl (0, 0, 12))
theorem ln_YR45 : YR45.1.length = 24 := ln_add ln_YR44
theorem wf_YR45 : WFs YR45 := wf_add wf_YR44 (by decide)
def YR46 : Stc := putR YR45 0 33 23
theorem ln_YR46 : YR46.1.length = 24 := ln_YR45
theorem wf_YR46 : WFs YR46 := wf_put wf_YR45 (by rw [ln_YR45]; decide) (by rw [ln_YR45]; decide)
def YR47 : Stc := addS YR46 (.inl (0, 0, 4))
theorem ln_YR47 : YR47.1.length = 25 := ln_add ln_YR46
theorem wf_YR47 : WFs YR47 := wf_add wf_YR46 (by decide)
def YR48 : Stc := putR YR47 0 35 24
theorem ln_YR48 : YR48.1.length = 25 := ln_YR47
theorem wf_YR48 : WFs YR48 := wf_put wf_YR47 (by rw [ln_YR47]; decide) (by rw [ln_YR47]; decide)
def YR49 : Stc := addS YR48 (.inl (1, 1, 1000))
theorem ln_YR49 : YR49.1.length = 26 := ln_add ln_YR48
theorem wf_YR49 : WFs YR49 := wf_add wf_YR48 (by decide)
def YR50 : Stc := putR YR49 0 36 25
theorem ln_YR50 : YR50.1.length = 26 := ln_YR49
theorem wf_YR50 : WFs YR50 := wf_put wf_YR49 (by rw [ln_YR49]; decide) (by rw [ln_YR49]; decide)
def YR51 : Stc := addS YR50 (.inl (1, 1, 1000))
theorem ln_YR51 : YR51.1.length = 27 := ln_add ln_YR50
theorem wf_YR51 : WFs YR51 := wf_add wf_YR50 (by decide)
def YR52 : Stc := putR YR51 0 37 26
theorem ln_YR52 : YR52.1.length = 27 := ln_YR51
theorem wf_YR52 : WFs YR52 := wf_put wf_YR51 (by rw [ln_YR51]; decide) (by rw [ln_YR51]; decide)
def YR53 : Stc := addS YR52 (.inl (0, 0, 9))
theorem ln_YR53 : YR53.1.length = 28 := ln_add ln_YR52
theorem wf_YR53 : WFs YR53 := wf_add wf_YR52 (by decide)
def YR54 : Stc := putR YR53 0 38 27
theorem ln_YR54 : YR54.1.length = 28 := ln_YR53
theorem wf_YR54 : WFs YR54 := wf_put wf_YR53 (by rw [ln_YR53]; decide) (by rw [ln_YR53]; decide)
def YR55 : Stc := addS YR54 (.inl (0, 0, 6))
theorem ln_YR55 : YR55.1.length = 29 := ln_add ln_YR54
theorem wf_YR55 : WFs YR55 := wf_add wf_YR54 (by decide)
def YR56 : Stc := putR YR55 0 39 28
theorem ln_YR56 : YR56.1.length = 29 := ln_YR55
theorem wf_YR56 : WFs YR56 := wf_put wf_YR55 (by rw [ln_YR55]; decide) (by rw [ln_YR55]; decide)
abbrev rmX11_init_i0 : Room := { frames := 1, cells := 28, slots := 3052, locals := 20 }
def X11_init_i0 (h : AH) : Option (Unit × AH) :=
    vl (zN h 1) fun h1 =>
    vl (zN h1 2) fun h3 =>
    vl (zN h3 3) fun h5 =>
    vl (zN h5 4) fun h7 =>
    vl (zN h7 5) fun h9 =>
    vl (zN h9 6) fun h11 =>
    vl (zN h11 7) fun h13 =>
    vl (zN h13 8) fun h15 =>
    vl (zN h15 9) fun h17 =>
    vl (zN h17 10) fun h19 =>
    vl (zN h19 11) fun h21 =>
    vl (zN h21 12) fun h23 =>
    vl (zN h23 13) fun h25 =>
    vl (zN h25 14) fun h27 =>
    vl (zN h27 15) fun h29 =>
    vl (zN h29 16) fun h31 =>
    vl (zN h31 17) fun h33 =>
    vl (zN h33 18) fun h35 =>
    vl (zN h35 19) fun h37 =>
    vl (zN h37 20) fun h39 =>
    vl (zN h39 21) fun h41 =>
    vl (zN h41 22) fun h43 =>
    vl (zN h43 23) fun h45 =>
    vl (zN h45 24) fun h47 =>
    vl (zN h47 25) fun h49 =>
    vl (zN h49 26) fun h51 =>
    vl (zN h51 27) fun h53 =>
    vl (zN h53 28) fun h55 =>
    vl (sI h55 0 12 10) fun h57 =>
    vl (sI h57 0 13 2) fun h58 =>
    some ((), h58)
set_option maxRecDepth 100000 in
set_option maxHeartbeats 4000000 in
theorem c_X11_init_i0 (l : Launch) : MCN l yX11_init cX11_init 1 rmX11_init_i0 KX YR0 YR56 [.ref 0] X11_init_i0 :=
  MCN.of (own := RX11) (by decide +kernel) rfl rfl (Nat.le_of_ble_eq_true rfl) fun X yd A h C hKX hin =>
    aw_aload_n (pc := 0) C (i := 0) dX11_init_0 rfl rfl <|
    aw_objInit (pc := 1) C dX11_init_1 mo_X11_1 w_oi w_oc ⟨(Nat.le_of_ble_eq_true rfl), (Nat.le_of_ble_eq_true rfl)⟩ <|
    aw_aload_n (pc := 4) C (i := 0) dX11_init_4 rfl rfl <|
    aw_bipush (pc := 5) C (v := 7) dX11_init_5 rfl <|
    aw_newIm (pc := 7) C (Z' := YR1) (N := 7) ln_YR0 wf_YR0 dX11_init_7 (by decide) rfl (by decide) rfl rfl rfl (Nat.le_of_ble_eq_true rfl) (Nat.le_of_ble_eq_true rfl) fun a2 h1 =>
    aw_putRF (pc := 9) C (Z' := YR2) hin dX11_init_9 fpf_X11_7 rfl rfl (fun _ => rfl) (fun _ => rfl) rfl <|
    aw_aload_n (pc := 12) C (i := 0) dX11_init_12 rfl rfl <|
    aw_iconst (pc := 13) C (v := 4) dX11_init_13 rfl <|
    aw_newIm (pc := 14) C (Z' := YR3) (N := 4) ln_YR2 wf_YR2 dX11_init_14 (by decide) rfl (by decide) rfl rfl rfl (Nat.le_of_ble_eq_true rfl) (Nat.le_of_ble_eq_true rfl) fun a4 h3 =>
    aw_putRF (pc := 16) C (Z' := YR4) hin dX11_init_16 fpf_X11_13 rfl rfl (fun _ => rfl) (fun _ => rfl) rfl <|
    aw_aload_n (pc := 19) C (i := 0) dX11_init_19 rfl rfl <|
    aw_iconst (pc := 20) C (v := 4) dX11_init_20 rfl <|
    aw_newIm (pc := 21) C (Z' := YR5) (N := 4) ln_YR4 wf_YR4 dX11_init_21 (by decide) rfl (by decide) rfl rfl rfl (Nat.le_of_ble_eq_true rfl) (Nat.le_of_ble_eq_true rfl) fun a6 h5 =>
    aw_putRF (pc := 23) C (Z' := YR6) hin dX11_init_23 fpf_X11_16 rfl rfl (fun _ => rfl) (fun _ => rfl) rfl <|
    aw_aload_n (pc := 26) C (i := 0) dX11_init_26 rfl rfl <|
    aw_iconst (pc := 27) C (v := 4) dX11_init_27 rfl <|
    aw_newIm (pc := 28) C (Z' := YR7) (N := 4) ln_YR6 wf_YR6 dX11_init_28 (by decide) rfl (by decide) rfl rfl rfl (Nat.le_of_ble_eq_true rfl) (Nat.le_of_ble_eq_true rfl) fun a8 h7 =>
    aw_putRF (pc := 30) C (Z' := YR8) hin dX11_init_30 fpf_X11_19 rfl rfl (fun _ => rfl) (fun _ => rfl) rfl <|
    aw_aload_n (pc := 33) C (i := 0) dX11_init_33 rfl rfl <|
    aw_iconst (pc := 34) C (v := 4) dX11_init_34 rfl <|
    aw_newIm (pc := 35) C (Z' := YR9) (N := 4) ln_YR8 wf_YR8 dX11_init_35 (by decide) rfl (by decide) rfl rfl rfl (Nat.le_of_ble_eq_true rfl) (Nat.le_of_ble_eq_true rfl) fun a10 h9 =>
    aw_putRF (pc := 37) C (Z' := YR10) hin dX11_init_37 fpf_X11_22 rfl rfl (fun _ => rfl) (fun _ => rfl) rfl <|
    aw_aload_n (pc := 40) C (i := 0) dX11_init_40 rfl rfl <|
    aw_iconst (pc := 41) C (v := 4) dX11_init_41 rfl <|
    aw_newIm (pc := 42) C (Z' := YR11) (N := 4) ln_YR10 wf_YR10 dX11_init_42 (by decide) rfl (by decide) rfl rfl rfl (Nat.le_of_ble_eq_true rfl) (Nat.le_of_ble_eq_true rfl) fun a12 h11 =>
    aw_putRF (pc := 44) C (Z' := YR12) hin dX11_init_44 fpf_X11_25 rfl rfl (fun _ => rfl) (fun _ => rfl) rfl <|
    aw_aload_n (pc := 47) C (i := 0) dX11_init_47 rfl rfl <|
    aw_iconst (pc := 48) C (v := 4) dX11_init_48 rfl <|
    aw_newIm (pc := 49) C (Z' := YR13) (N := 4) ln_YR12 wf_YR12 dX11_init_49 (by decide) rfl (by decide) rfl rfl rfl (Nat.le_of_ble_eq_true rfl) (Nat.le_of_ble_eq_true rfl) fun a14 h13 =>
    aw_putRF (pc := 51) C (Z' := YR14) hin dX11_init_51 fpf_X11_28 rfl rfl (fun _ => rfl) (fun _ => rfl) rfl <|
    aw_aload_n (pc := 54) C (i := 0) dX11_init_54 rfl rfl <|
    aw_iconst (pc := 55) C (v := 4) dX11_init_55 rfl <|
    aw_newIm (pc := 56) C (Z' := YR15) (N := 4) ln_YR14 wf_YR14 dX11_init_56 (by decide) rfl (by decide) rfl rfl rfl (Nat.le_of_ble_eq_true rfl) (Nat.le_of_ble_eq_true rfl) fun a16 h15 =>
    aw_putRF (pc := 58) C (Z' := YR16) hin dX11_init_58 fpf_X11_31 rfl rfl (fun _ => rfl) (fun _ => rfl) rfl <|
    aw_aload_n (pc := 61) C (i := 0) dX11_init_61 rfl rfl <|
    aw_iconst (pc := 62) C (v := 4) dX11_init_62 rfl <|
    aw_newIm (pc := 63) C (Z' := YR17) (N := 4) ln_YR16 wf_YR16 dX11_init_63 (by decide) rfl (by decide) rfl rfl rfl (Nat.le_of_ble_eq_true rfl) (Nat.le_of_ble_eq_true rfl) fun a18 h17 =>
    aw_putRF (pc := 65) C (Z' := YR18) hin dX11_init_65 fpf_X11_34 rfl rfl (fun _ => rfl) (fun _ => rfl) rfl <|
    aw_aload_n (pc := 68) C (i := 0) dX11_init_68 rfl rfl <|
    aw_bipush (pc := 69) C (v := 24) dX11_init_69 rfl <|
    aw_newIm (pc := 71) C (Z' := YR19) (N := 24) ln_YR18 wf_YR18 dX11_init_71 (by decide) rfl (by decide) rfl rfl rfl (Nat.le_of_ble_eq_true rfl) (Nat.le_of_ble_eq_true rfl) fun a20 h19 =>
    aw_putRF (pc := 73) C (Z' := YR20) hin dX11_init_73 fpf_X11_37 rfl rfl (fun _ => rfl) (fun _ => rfl) rfl <|
    aw_aload_n (pc := 76) C (i := 0) dX11_init_76 rfl rfl <|
    aw_bipush (pc := 77) C (v := 24) dX11_init_77 rfl <|
    aw_newIm (pc := 79) C (Z' := YR21) (N := 24) ln_YR20 wf_YR20 dX11_init_79 (by decide) rfl (by decide) rfl rfl rfl (Nat.le_of_ble_eq_true rfl) (Nat.le_of_ble_eq_true rfl) fun a22 h21 =>
    aw_putRF (pc := 81) C (Z' := YR22) hin dX11_init_81 fpf_X11_40 rfl rfl (fun _ => rfl) (fun _ => rfl) rfl <|
    aw_aload_n (pc := 84) C (i := 0) dX11_init_84 rfl rfl <|
    aw_bipush (pc := 85) C (v := 24) dX11_init_85 rfl <|
    aw_newIm (pc := 87) C (Z' := YR23) (N := 24) ln_YR22 wf_YR22 dX11_init_87 (by decide) rfl (by decide) rfl rfl rfl (Nat.le_of_ble_eq_true rfl) (Nat.le_of_ble_eq_true rfl) fun a24 h23 =>
    aw_putRF (pc := 89) C (Z' := YR24) hin dX11_init_89 fpf_X11_43 rfl rfl (fun _ => rfl) (fun _ => rfl) rfl <|
    aw_aload_n (pc := 92) C (i := 0) dX11_init_92 rfl rfl <|
    aw_bipush (pc := 93) C (v := 96) dX11_init_93 rfl <|
    aw_newIm (pc := 95) C (Z' := YR25) (N := 96) ln_YR24 wf_YR24 dX11_init_95 (by decide) rfl (by decide) rfl rfl rfl (Nat.le_of_ble_eq_true rfl) (Nat.le_of_ble_eq_true rfl) fun a26 h25 =>
    aw_putRF (pc := 97) C (Z' := YR26) hin dX11_init_97 fpf_X11_46 rfl rfl (fun _ => rfl) (fun _ => rfl) rfl <|
    aw_aload_n (pc := 100) C (i := 0) dX11_init_100 rfl rfl <|
    aw_bipush (pc := 101) C (v := 48) dX11_init_101 rfl <|
    aw_newIm (pc := 103) C (Z' := YR27) (N := 48) ln_YR26 wf_YR26 dX11_init_103 (by decide) rfl (by decide) rfl rfl rfl (Nat.le_of_ble_eq_true rfl) (Nat.le_of_ble_eq_true rfl) fun a28 h27 =>
    aw_putRF (pc := 105) C (Z' := YR28) hin dX11_init_105 fpf_X11_49 rfl rfl (fun _ => rfl) (fun _ => rfl) rfl <|
    aw_aload_n (pc := 108) C (i := 0) dX11_init_108 rfl rfl <|
    aw_bipush (pc := 109) C (v := 48) dX11_init_109 rfl <|
    aw_newIm (pc := 111) C (Z' := YR29) (N := 48) ln_YR28 wf_YR28 dX11_init_111 (by decide) rfl (by decide) rfl rfl rfl (Nat.le_of_ble_eq_true rfl) (Nat.le_of_ble_eq_true rfl) fun a30 h29 =>
    aw_putRF (pc := 113) C (Z' := YR30) hin dX11_init_113 fpf_X11_52 rfl rfl (fun _ => rfl) (fun _ => rfl) rfl <|
    aw_aload_n (pc := 116) C (i := 0) dX11_init_116 rfl rfl <|
    aw_sipush (pc := 117) C (v := 384) dX11_init_117 rfl <|
    aw_newIm (pc := 120) C (Z' := YR31) (N := 384) ln_YR30 wf_YR30 dX11_init_120 (by decide) rfl (by decide) rfl rfl rfl (Nat.le_of_ble_eq_true rfl) (Nat.le_of_ble_eq_true rfl) fun a32 h31 =>
    aw_putRF (pc := 122) C (Z' := YR32) hin dX11_init_122 fpf_X11_55 rfl rfl (fun _ => rfl) (fun _ => rfl) rfl <|
    aw_aload_n (pc := 125) C (i := 0) dX11_init_125 rfl rfl <|
    aw_sipush (pc := 126) C (v := 240) dX11_init_126 rfl <|
    aw_newIm (pc := 129) C (Z' := YR33) (N := 240) ln_YR32 wf_YR32 dX11_init_129 (by decide) rfl (by decide) rfl rfl rfl (Nat.le_of_ble_eq_true rfl) (Nat.le_of_ble_eq_true rfl) fun a34 h33 =>
    aw_putRF (pc := 131) C (Z' := YR34) hin dX11_init_131 fpf_X11_58 rfl rfl (fun _ => rfl) (fun _ => rfl) rfl <|
    aw_aload_n (pc := 134) C (i := 0) dX11_init_134 rfl rfl <|
    aw_bipush (pc := 135) C (v := 41) dX11_init_135 rfl <|
    aw_newJm (pc := 137) C (Z' := YR35) (N := 41) w_arrJ ln_YR34 wf_YR34 dX11_init_137 (by decide) rfl (by decide) rfl rfl rfl (Nat.le_of_ble_eq_true rfl) (Nat.le_of_ble_eq_true rfl) fun a36 h35 =>
    aw_putRF (pc := 139) C (Z' := YR36) hin dX11_init_139 fpf_X11_61 rfl rfl (fun _ => rfl) (fun _ => rfl) rfl <|
    aw_aload_n (pc := 142) C (i := 0) dX11_init_142 rfl rfl <|
    aw_bipush (pc := 143) C (v := 41) dX11_init_143 rfl <|
    aw_newJm (pc := 145) C (Z' := YR37) (N := 41) w_arrJ ln_YR36 wf_YR36 dX11_init_145 (by decide) rfl (by decide) rfl rfl rfl (Nat.le_of_ble_eq_true rfl) (Nat.le_of_ble_eq_true rfl) fun a38 h37 =>
    aw_putRF (pc := 147) C (Z' := YR38) hin dX11_init_147 fpf_X11_65 rfl rfl (fun _ => rfl) (fun _ => rfl) rfl <|
    aw_aload_n (pc := 150) C (i := 0) dX11_init_150 rfl rfl <|
    aw_iconst (pc := 151) C (v := 4) dX11_init_151 rfl <|
    aw_newIm (pc := 152) C (Z' := YR39) (N := 4) ln_YR38 wf_YR38 dX11_init_152 (by decide) rfl (by decide) rfl rfl rfl (Nat.le_of_ble_eq_true rfl) (Nat.le_of_ble_eq_true rfl) fun a40 h39 =>
    aw_putRF (pc := 154) C (Z' := YR40) hin dX11_init_154 fpf_X11_68 rfl rfl (fun _ => rfl) (fun _ => rfl) rfl <|
    aw_aload_n (pc := 157) C (i := 0) dX11_init_157 rfl rfl <|
    aw_iconst (pc := 158) C (v := 4) dX11_init_158 rfl <|
    aw_newIm (pc := 159) C (Z' := YR41) (N := 4) ln_YR40 wf_YR40 dX11_init_159 (by decide) rfl (by decide) rfl rfl rfl (Nat.le_of_ble_eq_true rfl) (Nat.le_of_ble_eq_true rfl) fun a42 h41 =>
    aw_putRF (pc := 161) C (Z' := YR42) hin dX11_init_161 fpf_X11_71 rfl rfl (fun _ => rfl) (fun _ => rfl) rfl <|
    aw_aload_n (pc := 164) C (i := 0) dX11_init_164 rfl rfl <|
    aw_iconst (pc := 165) C (v := 4) dX11_init_165 rfl <|
    aw_newIm (pc := 166) C (Z' := YR43) (N := 4) ln_YR42 wf_YR42 dX11_init_166 (by decide) rfl (by decide) rfl rfl rfl (Nat.le_of_ble_eq_true rfl) (Nat.le_of_ble_eq_true rfl) fun a44 h43 =>
    aw_putRF (pc := 168) C (Z' := YR44) hin dX11_init_168 fpf_X11_74 rfl rfl (fun _ => rfl) (fun _ => rfl) rfl <|
    aw_aload_n (pc := 171) C (i := 0) dX11_init_171 rfl rfl <|
    aw_bipush (pc := 172) C (v := 12) dX11_init_172 rfl <|
    aw_newIm (pc := 174) C (Z' := YR45) (N := 12) ln_YR44 wf_YR44 dX11_init_174 (by decide) rfl (by decide) rfl rfl rfl (Nat.le_of_ble_eq_true rfl) (Nat.le_of_ble_eq_true rfl) fun a46 h45 =>
    aw_putRF (pc := 176) C (Z' := YR46) hin dX11_init_176 fpf_X11_77 rfl rfl (fun _ => rfl) (fun _ => rfl) rfl <|
    aw_aload_n (pc := 179) C (i := 0) dX11_init_179 rfl rfl <|
    aw_iconst (pc := 180) C (v := 4) dX11_init_180 rfl <|
    aw_newIm (pc := 181) C (Z' := YR47) (N := 4) ln_YR46 wf_YR46 dX11_init_181 (by decide) rfl (by decide) rfl rfl rfl (Nat.le_of_ble_eq_true rfl) (Nat.le_of_ble_eq_true rfl) fun a48 h47 =>
    aw_putRF (pc := 183) C (Z' := YR48) hin dX11_init_183 fpf_X11_80 rfl rfl (fun _ => rfl) (fun _ => rfl) rfl <|
    aw_aload_n (pc := 186) C (i := 0) dX11_init_186 rfl rfl <|
    aw_sipush (pc := 187) C (v := 1000) dX11_init_187 rfl <|
    aw_newJm (pc := 190) C (Z' := YR49) (N := 1000) w_arrJ ln_YR48 wf_YR48 dX11_init_190 (by decide) rfl (by decide) rfl rfl rfl (Nat.le_of_ble_eq_true rfl) (Nat.le_of_ble_eq_true rfl) fun a50 h49 =>
    aw_putRF (pc := 192) C (Z' := YR50) hin dX11_init_192 fpf_X11_83 rfl rfl (fun _ => rfl) (fun _ => rfl) rfl <|
    aw_aload_n (pc := 195) C (i := 0) dX11_init_195 rfl rfl <|
    aw_sipush (pc := 196) C (v := 1000) dX11_init_196 rfl <|
    aw_newJm (pc := 199) C (Z' := YR51) (N := 1000) w_arrJ ln_YR50 wf_YR50 dX11_init_199 (by decide) rfl (by decide) rfl rfl rfl (Nat.le_of_ble_eq_true rfl) (Nat.le_of_ble_eq_true rfl) fun a52 h51 =>
    aw_putRF (pc := 201) C (Z' := YR52) hin dX11_init_201 fpf_X11_86 rfl rfl (fun _ => rfl) (fun _ => rfl) rfl <|
    aw_aload_n (pc := 204) C (i := 0) dX11_init_204 rfl rfl <|
    aw_bipush (pc := 205) C (v := 9) dX11_init_205 rfl <|
    aw_newIm (pc := 207) C (Z' := YR53) (N := 9) ln_YR52 wf_YR52 dX11_init_207 (by decide) rfl (by decide) rfl rfl rfl (Nat.le_of_ble_eq_true rfl) (Nat.le_of_ble_eq_true rfl) fun a54 h53 =>
    aw_putRF (pc := 209) C (Z' := YR54) hin dX11_init_209 fpf_X11_89 rfl rfl (fun _ => rfl) (fun _ => rfl) rfl <|
    aw_aload_n (pc := 212) C (i := 0) dX11_init_212 rfl rfl <|
    aw_bipush (pc := 213) C (v := 6) dX11_init_213 rfl <|
    aw_newIm (pc := 215) C (Z' := YR55) (N := 6) ln_YR54 wf_YR54 dX11_init_215 (by decide) rfl (by decide) rfl rfl rfl (Nat.le_of_ble_eq_true rfl) (Nat.le_of_ble_eq_true rfl) fun a56 h55 =>
    aw_putRF (pc := 217) C (Z' := YR56) hin dX11_init_217 fpf_X11_92 rfl rfl (fun _ => rfl) (fun _ => rfl) rfl <|
    aw_aload_n (pc := 220) C (i := 0) dX11_init_220 rfl rfl <|
    aw_bipush (pc := 221) C (v := 10) dX11_init_221 rfl <|
    aw_putI (pc := 223) C dX11_init_223 fp_X11_95 rfl rfl fun h57 =>
    aw_aload_n (pc := 226) C (i := 0) dX11_init_226 rfl rfl <|
    aw_iconst (pc := 227) C (v := 2) dX11_init_227 rfl <|
    aw_putI (pc := 228) C dX11_init_228 fp_X11_99 rfl rfl fun h58 =>
    aw_vretN (pc := 231) C (Agr.new (n := 28) (Agr.new (n := 27) (Agr.new (n := 26) (Agr.new (n := 25) (Agr.new (n := 24) (Agr.new (n := 23) (Agr.new (n := 22) (Agr.new (n := 21) (Agr.new (n := 20) (Agr.new (n := 19) (Agr.new (n := 18) (Agr.new (n := 17) (Agr.new (n := 16) (Agr.new (n := 15) (Agr.new (n := 14) (Agr.new (n := 13) (Agr.new (n := 12) (Agr.new (n := 11) (Agr.new (n := 10) (Agr.new (n := 9) (Agr.new (n := 8) (Agr.new (n := 7) (Agr.new (n := 6) (Agr.new (n := 5) (Agr.new (n := 4) (Agr.new (n := 3) (Agr.new (n := 2) (Agr.new (n := 1) (Agr.rf) (Nat.le_of_ble_eq_true rfl)) (Nat.le_of_ble_eq_true rfl)) (Nat.le_of_ble_eq_true rfl)) (Nat.le_of_ble_eq_true rfl)) (Nat.le_of_ble_eq_true rfl)) (Nat.le_of_ble_eq_true rfl)) (Nat.le_of_ble_eq_true rfl)) (Nat.le_of_ble_eq_true rfl)) (Nat.le_of_ble_eq_true rfl)) (Nat.le_of_ble_eq_true rfl)) (Nat.le_of_ble_eq_true rfl)) (Nat.le_of_ble_eq_true rfl)) (Nat.le_of_ble_eq_true rfl)) (Nat.le_of_ble_eq_true rfl)) (Nat.le_of_ble_eq_true rfl)) (Nat.le_of_ble_eq_true rfl)) (Nat.le_of_ble_eq_true rfl)) (Nat.le_of_ble_eq_true rfl)) (Nat.le_of_ble_eq_true rfl)) (Nat.le_of_ble_eq_true rfl)) (Nat.le_of_ble_eq_true rfl)) (Nat.le_of_ble_eq_true rfl)) (Nat.le_of_ble_eq_true rfl)) (Nat.le_of_ble_eq_true rfl)) (Nat.le_of_ble_eq_true rfl)) (Nat.le_of_ble_eq_true rfl)) (Nat.le_of_ble_eq_true rfl)) (Nat.le_of_ble_eq_true rfl)) dX11_init_231 rfl rfl
