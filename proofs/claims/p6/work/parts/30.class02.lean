abbrev rmX6_secondLongest : Room := { frames := 0, cells := 0, slots := 0, locals := 0 }
def X6_secondLongest_j9  (h : AH) : Option (Int32 × AH) :=
    some (0, h)
set_option maxRecDepth 100000 in
theorem aX6_secondLongest_j9 {X : MCx} {yd : Dyn} {A : Nat → Prop} (C : OK X cX6_secondLongest RX6 2 (some .int) rmX6_secondLongest A)  (h : AH) : AW X 2 ZC yd A 0 0 (QF X rmX6_secondLongest ZC yd rvI A) 9 [] [] h (X6_secondLongest_j9 h) := by
    exact aw_iconst (pc := 9) C (v := 0) dX6_secondLongest_9 rfl <|
    aw_goto (pc := 10) C (tgt := 19) dX6_secondLongest_10 rfl <|
    aw_iret (pc := 19) C dX6_secondLongest_19 rfl rfl
def X6_secondLongest (v1 : Int32) (h : AH) : Option (Int32 × AH) :=
    if v1 < 0 then (X6_secondLongest_j9 h)
    else (if v1 < 4 then (ck v1 4 (some ((h.1 7 v1.toNatClampNeg), h)))
    else (X6_secondLongest_j9 h))
set_option maxRecDepth 100000 in
theorem c_X6_secondLongest (l : Launch) (v1 : Int32) : MC l yX6_secondLongest cX6_secondLongest 2 (some .int) rmX6_secondLongest ZC [.ref 5, .int v1] rvI (X6_secondLongest v1) :=
  MC.of (own := RX6) (by decide +kernel) rfl (Nat.le_of_ble_eq_true rfl) fun X yd A h _ C =>
    aw_iload_n (pc := 0) C (i := 1) dX6_secondLongest_0 rfl rfl <|
    aw_if_lt (pc := 1) C (tgt := 9) dX6_secondLongest_1 rfl (fun _ =>
    aw_drop [] (aX6_secondLongest_j9 C h)) (fun _ =>
    aw_iload_n (pc := 4) C (i := 1) dX6_secondLongest_4 rfl rfl <|
    aw_iconst (pc := 5) C (v := 4) dX6_secondLongest_5 rfl <|
    aw_icmp_lt (pc := 6) C (tgt := 13) dX6_secondLongest_6 rfl (fun _ =>
    aw_aload_n (pc := 13) C (i := 0) dX6_secondLongest_13 rfl rfl <|
    aw_getR (pc := 14) C (b := 7) dX6_secondLongest_14 fl_X6_15 sC_5 rfl rC_5_2 <|
    aw_iload_n (pc := 17) C (i := 1) dX6_secondLongest_17 rfl rfl <|
    aw_iald (pc := 18) C dX6_secondLongest_18 sC_7 rfl <|
    aw_iret (pc := 19) C dX6_secondLongest_19 rfl rfl) (fun _ =>
    aw_drop [] (aX6_secondLongest_j9 C h)))

abbrev rmX10_refuse : Room := { frames := 0, cells := 0, slots := 0, locals := 0 }
def X10_refuse (v1 : Int32) (h : AH) : Option (Int32 × AH) :=
    if 0 ≤ v1 then (some (v1, h))
    else (if 7 ≤ (-v1) then (some (v1, h))
    else (ck (-v1) 7 (ck (-v1) 7 (vl (sI h 4 (-v1).toNatClampNeg ((h.1 4 (-v1).toNatClampNeg) + 1)) fun h1 =>
    some (v1, h1)))))
set_option maxRecDepth 100000 in
theorem c_X10_refuse (l : Launch) (v1 : Int32) : MC l yX10_refuse cX10_refuse 2 (some .int) rmX10_refuse ZC [.ref 0, .int v1] rvI (X10_refuse v1) :=
  MC.of (own := RX10) (by decide +kernel) rfl (Nat.le_of_ble_eq_true rfl) fun X yd A h _ C =>
    aw_iload_n (pc := 0) C (i := 1) dX10_refuse_0 rfl rfl <|
    aw_if_ge (pc := 1) C (tgt := 25) dX10_refuse_1 rfl (fun _ =>
    aw_iload_n (pc := 25) C (i := 1) dX10_refuse_25 rfl rfl <|
    aw_iret (pc := 26) C dX10_refuse_26 rfl rfl) (fun _ =>
    aw_iload_n (pc := 4) C (i := 1) dX10_refuse_4 rfl rfl <|
    aw_ineg (pc := 5) C dX10_refuse_5 <|
    aw_aload_n (pc := 6) C (i := 0) dX10_refuse_6 rfl rfl <|
    aw_getR (pc := 7) C (b := 4) dX10_refuse_7 fl_X10_22 sC_0 rfl rC_0_9 <|
    aw_alenI (pc := 10) C (v := 7) (by decide) dX10_refuse_10 sC_4 rfl rfl <|
    aw_icmp_ge (pc := 11) C (tgt := 25) dX10_refuse_11 rfl (fun _ =>
    aw_iload_n (pc := 25) C (i := 1) dX10_refuse_25 rfl rfl <|
    aw_iret (pc := 26) C dX10_refuse_26 rfl rfl) (fun _ =>
    aw_aload_n (pc := 14) C (i := 0) dX10_refuse_14 rfl rfl <|
    aw_getR (pc := 15) C (b := 4) dX10_refuse_15 fl_X10_22 sC_0 rfl rC_0_9 <|
    aw_iload_n (pc := 18) C (i := 1) dX10_refuse_18 rfl rfl <|
    aw_ineg (pc := 19) C dX10_refuse_19 <|
    aw_dup2 (pc := 20) C dX10_refuse_20 rfl rfl <|
    aw_iald (pc := 21) C dX10_refuse_21 sC_4 rfl <|
    aw_iconst (pc := 22) C (v := 1) dX10_refuse_22 rfl <|
    aw_iadd (pc := 23) C dX10_refuse_23 <|
    aw_iast (pc := 24) C dX10_refuse_24 sC_4 rfl fun h1 =>
    aw_iload_n (pc := 25) C (i := 1) dX10_refuse_25 rfl rfl <|
    aw_iret (pc := 26) C dX10_refuse_26 rfl rfl))

abbrev rmX10_first : Room := { frames := 0, cells := 0, slots := 0, locals := 0 }
def X10_first (v0 : Int32) (v1 : Int32) (h : AH) : Option (Int32 × AH) :=
    if v0 = 0 then (some (v1, h))
    else (some (v0, h))
set_option maxRecDepth 100000 in
theorem c_X10_first (l : Launch) (v0 : Int32) (v1 : Int32) : MC l yX10_first cX10_first 2 (some .int) rmX10_first ZC [.int v0, .int v1] rvI (X10_first v0 v1) :=
  MC.of (own := RX10) (by decide +kernel) rfl (Nat.le_of_ble_eq_true rfl) fun X yd A h _ C =>
    aw_iload_n (pc := 0) C (i := 0) dX10_first_0 rfl rfl <|
    aw_if_eq (pc := 1) C (tgt := 8) dX10_first_1 rfl (fun _ =>
    aw_iload_n (pc := 8) C (i := 1) dX10_first_8 rfl rfl <|
    aw_iret (pc := 9) C dX10_first_9 rfl rfl) (fun _ =>
    aw_iload_n (pc := 4) C (i := 0) dX10_first_4 rfl rfl <|
    aw_goto (pc := 5) C (tgt := 9) dX10_first_5 rfl <|
    aw_iret (pc := 9) C dX10_first_9 rfl rfl)

abbrev rmX10_nobody : Room := { frames := 0, cells := 0, slots := 0, locals := 0 }
def X10_nobody_j15  (h : AH) : Option (Int32 × AH) :=
    some ((-1), h)
set_option maxRecDepth 100000 in
theorem aX10_nobody_j15 {X : MCx} {yd : Dyn} {A : Nat → Prop} (C : OK X cX10_nobody RX10 2 (some .int) rmX10_nobody A)  (h : AH) : AW X 2 ZC yd A 0 0 (QF X rmX10_nobody ZC yd rvI A) 15 [] [] h (X10_nobody_j15 h) := by
    exact aw_iconst (pc := 15) C (v := (-1)) dX10_nobody_15 rfl <|
    aw_goto (pc := 16) C (tgt := 20) dX10_nobody_16 rfl <|
    aw_iret (pc := 20) C dX10_nobody_20 rfl rfl
def X10_nobody (v1 : Int32) (h : AH) : Option (Int32 × AH) :=
    if v1 < 0 then (X10_nobody_j15 h)
    else (if v1 < (h.1 42 3) then (some (0, h))
    else (X10_nobody_j15 h))
set_option maxRecDepth 100000 in
theorem c_X10_nobody (l : Launch) (v1 : Int32) : MC l yX10_nobody cX10_nobody 2 (some .int) rmX10_nobody ZC [.ref 0, .int v1] rvI (X10_nobody v1) :=
  MC.of (own := RX10) (by decide +kernel) rfl (Nat.le_of_ble_eq_true rfl) fun X yd A h _ C =>
    aw_iload_n (pc := 0) C (i := 1) dX10_nobody_0 rfl rfl <|
    aw_if_lt (pc := 1) C (tgt := 15) dX10_nobody_1 rfl (fun _ =>
    aw_drop [] (aX10_nobody_j15 C h)) (fun _ =>
    aw_iload_n (pc := 4) C (i := 1) dX10_nobody_4 rfl rfl <|
    aw_aload_n (pc := 5) C (i := 0) dX10_nobody_5 rfl rfl <|
    aw_getR (pc := 6) C (b := 42) dX10_nobody_6 fl_X10_72 sC_0 rfl rC_0_1 <|
    aw_getI (pc := 9) C dX10_nobody_9 fl_X10_89 (mt_s (Or.inl rfl)) rfl <|
    aw_icmp_lt (pc := 12) C (tgt := 19) dX10_nobody_12 rfl (fun _ =>
    aw_iconst (pc := 19) C (v := 0) dX10_nobody_19 rfl <|
    aw_iret (pc := 20) C dX10_nobody_20 rfl rfl) (fun _ =>
    aw_drop [] (aX10_nobody_j15 C h)))

abbrev rmX10_nobodyOfTwo : Room := { frames := 1, cells := 0, slots := 0, locals := 21 }
def X10_nobodyOfTwo (v1 : Int32) (v2 : Int32) (h : AH) : Option (Int32 × AH) :=
    if v1 = v2 then (some ((-1), h))
    else (bd (X10_nobody v1 h) fun r1 h2 =>
    bd (X10_nobody v2 h2) fun r3 h4 =>
    bd (X10_first r1 r3 h4) fun r5 h6 =>
    some (r5, h6))
set_option maxRecDepth 100000 in
theorem c_X10_nobodyOfTwo (l : Launch) (v1 : Int32) (v2 : Int32) : MC l yX10_nobodyOfTwo cX10_nobodyOfTwo 3 (some .int) rmX10_nobodyOfTwo ZC [.ref 0, .int v1, .int v2] rvI (X10_nobodyOfTwo v1 v2) :=
  MC.of (own := RX10) (by decide +kernel) rfl (Nat.le_of_ble_eq_true rfl) fun X yd A h _ C =>
    aw_iload_n (pc := 0) C (i := 1) dX10_nobodyOfTwo_0 rfl rfl <|
    aw_iload_n (pc := 1) C (i := 2) dX10_nobodyOfTwo_1 rfl rfl <|
    aw_icmp_ne (pc := 2) C (tgt := 9) dX10_nobodyOfTwo_2 rfl (fun _ =>
    aw_iconst (pc := 5) C (v := (-1)) dX10_nobodyOfTwo_5 rfl <|
    aw_goto (pc := 6) C (tgt := 22) dX10_nobodyOfTwo_6 rfl <|
    aw_iret (pc := 22) C dX10_nobodyOfTwo_22 rfl rfl) (fun _ =>
    aw_aload_n (pc := 9) C (i := 0) dX10_nobodyOfTwo_9 rfl rfl <|
    aw_iload_n (pc := 10) C (i := 1) dX10_nobodyOfTwo_10 rfl rfl <|
    aw_callF (pc := 11) C (cr_V (rest := []) (F := (X10_nobody v1)) C (c_X10_nobody X.2.1 v1) dX10_nobodyOfTwo_11 mf_X10_nobody ml_X10_93 im_X10_nobody se_X10_nobody sC_0 rfl ⟨(Nat.le_of_ble_eq_true rfl), (Nat.le_of_ble_eq_true rfl)⟩ rfl rfl (Nat.le_of_ble_eq_true rfl)) rfl rfl rfl (Nat.zero_le _) (Nat.zero_le _) fun r1 h2 =>
    aw_aload_n (pc := 14) C (i := 0) dX10_nobodyOfTwo_14 rfl rfl <|
    aw_iload_n (pc := 15) C (i := 2) dX10_nobodyOfTwo_15 rfl rfl <|
    aw_callF (pc := 16) C (cr_V (rest := [.int r1]) (F := (X10_nobody v2)) C (c_X10_nobody X.2.1 v2) dX10_nobodyOfTwo_16 mf_X10_nobody ml_X10_93 im_X10_nobody se_X10_nobody sC_0 rfl ⟨(Nat.le_of_ble_eq_true rfl), (Nat.le_of_ble_eq_true rfl)⟩ rfl rfl (Nat.le_of_ble_eq_true rfl)) rfl rfl rfl (Nat.zero_le _) (Nat.zero_le _) fun r3 h4 =>
    aw_callF (pc := 19) C (cr_S (rest := []) (F := (X10_first r1 r3)) C (c_X10_first X.2.1 r1 r3) dX10_nobodyOfTwo_19 mf_X10_first ml_X10_97 st_X10_first ⟨(Nat.le_of_ble_eq_true rfl), (Nat.le_of_ble_eq_true rfl)⟩ rfl rfl (Nat.le_of_ble_eq_true rfl)) rfl rfl rfl (Nat.zero_le _) (Nat.zero_le _) fun r5 h6 =>
    aw_iret (pc := 22) C dX10_nobodyOfTwo_22 rfl rfl)

abbrev rmX10_noSuch : Room := { frames := 0, cells := 0, slots := 0, locals := 0 }
def X10_noSuch_j9  (h : AH) : Option (Int32 × AH) :=
    some ((-2), h)
set_option maxRecDepth 100000 in
theorem aX10_noSuch_j9 {X : MCx} {yd : Dyn} {A : Nat → Prop} (C : OK X cX10_noSuch RX10 2 (some .int) rmX10_noSuch A)  (h : AH) : AW X 2 ZC yd A 0 0 (QF X rmX10_noSuch ZC yd rvI A) 9 [] [] h (X10_noSuch_j9 h) := by
    exact aw_bipush (pc := 9) C (v := (-2)) dX10_noSuch_9 rfl <|
    aw_goto (pc := 11) C (tgt := 15) dX10_noSuch_11 rfl <|
    aw_iret (pc := 15) C dX10_noSuch_15 rfl rfl
def X10_noSuch (v0 : Int32) (v1 : Int32) (h : AH) : Option (Int32 × AH) :=
    if v0 < 0 then (X10_noSuch_j9 h)
    else (if v0 ≤ v1 then (some (0, h))
    else (X10_noSuch_j9 h))
set_option maxRecDepth 100000 in
theorem c_X10_noSuch (l : Launch) (v0 : Int32) (v1 : Int32) : MC l yX10_noSuch cX10_noSuch 2 (some .int) rmX10_noSuch ZC [.int v0, .int v1] rvI (X10_noSuch v0 v1) :=
  MC.of (own := RX10) (by decide +kernel) rfl (Nat.le_of_ble_eq_true rfl) fun X yd A h _ C =>
    aw_iload_n (pc := 0) C (i := 0) dX10_noSuch_0 rfl rfl <|
    aw_if_lt (pc := 1) C (tgt := 9) dX10_noSuch_1 rfl (fun _ =>
    aw_drop [] (aX10_noSuch_j9 C h)) (fun _ =>
    aw_iload_n (pc := 4) C (i := 0) dX10_noSuch_4 rfl rfl <|
    aw_iload_n (pc := 5) C (i := 1) dX10_noSuch_5 rfl rfl <|
    aw_icmp_le (pc := 6) C (tgt := 14) dX10_noSuch_6 rfl (fun _ =>
    aw_iconst (pc := 14) C (v := 0) dX10_noSuch_14 rfl <|
    aw_iret (pc := 15) C dX10_noSuch_15 rfl rfl) (fun _ =>
    aw_drop [] (aX10_noSuch_j9 C h)))

abbrev rmX10_outside : Room := { frames := 0, cells := 0, slots := 0, locals := 0 }
def X10_outside (v0 : Int32) (v1 : Int32) (v2 : Int32) (h : AH) : Option (Int32 × AH) :=
    if v1 ≤ v0 then (if v0 ≤ v2 then (some (0, h))
    else (some ((-6), h)))
    else (some ((-4), h))
set_option maxRecDepth 100000 in
theorem c_X10_outside (l : Launch) (v0 : Int32) (v1 : Int32) (v2 : Int32) : MC l yX10_outside cX10_outside 3 (some .int) rmX10_outside ZC [.int v0, .int v1, .int v2] rvI (X10_outside v0 v1 v2) :=
  MC.of (own := RX10) (by decide +kernel) rfl (Nat.le_of_ble_eq_true rfl) fun X yd A h _ C =>
    aw_iload_n (pc := 0) C (i := 0) dX10_outside_0 rfl rfl <|
    aw_iload_n (pc := 1) C (i := 1) dX10_outside_1 rfl rfl <|
    aw_icmp_ge (pc := 2) C (tgt := 10) dX10_outside_2 rfl (fun _ =>
    aw_iload_n (pc := 10) C (i := 0) dX10_outside_10 rfl rfl <|
    aw_iload_n (pc := 11) C (i := 2) dX10_outside_11 rfl rfl <|
    aw_icmp_le (pc := 12) C (tgt := 20) dX10_outside_12 rfl (fun _ =>
    aw_iconst (pc := 20) C (v := 0) dX10_outside_20 rfl <|
    aw_iret (pc := 21) C dX10_outside_21 rfl rfl) (fun _ =>
    aw_bipush (pc := 15) C (v := (-6)) dX10_outside_15 rfl <|
    aw_goto (pc := 17) C (tgt := 21) dX10_outside_17 rfl <|
    aw_iret (pc := 21) C dX10_outside_21 rfl rfl)) (fun _ =>
    aw_bipush (pc := 5) C (v := (-4)) dX10_outside_5 rfl <|
    aw_goto (pc := 7) C (tgt := 21) dX10_outside_7 rfl <|
    aw_iret (pc := 21) C dX10_outside_21 rfl rfl)

abbrev rmX10_noPart : Room := { frames := 1, cells := 0, slots := 0, locals := 21 }
def X10_noPart (v0 : Int32) (h : AH) : Option (Int32 × AH) :=
    bd (X10_noSuch v0 1 h) fun r1 h2 =>
    some (r1, h2)
set_option maxRecDepth 100000 in
theorem c_X10_noPart (l : Launch) (v0 : Int32) : MC l yX10_noPart cX10_noPart 1 (some .int) rmX10_noPart ZC [.int v0] rvI (X10_noPart v0) :=
  MC.of (own := RX10) (by decide +kernel) rfl (Nat.le_of_ble_eq_true rfl) fun X yd A h _ C =>
    aw_iload_n (pc := 0) C (i := 0) dX10_noPart_0 rfl rfl <|
    aw_iconst (pc := 1) C (v := 1) dX10_noPart_1 rfl <|
    aw_callF (pc := 2) C (cr_S (rest := []) (F := (X10_noSuch v0 1)) C (c_X10_noSuch X.2.1 v0 1) dX10_noPart_2 mf_X10_noSuch ml_X10_101 st_X10_noSuch ⟨(Nat.le_of_ble_eq_true rfl), (Nat.le_of_ble_eq_true rfl)⟩ rfl rfl (Nat.le_of_ble_eq_true rfl)) rfl rfl rfl (Nat.zero_le _) (Nat.zero_le _) fun r1 h2 =>
    aw_iret (pc := 5) C dX10_noPart_5 rfl rfl

abbrev rmX10_outsideTwo : Room := { frames := 1, cells := 0, slots := 0, locals := 21 }
def X10_outsideTwo_j12  (h : AH) : Option (Int32 × AH) :=
    some ((-4), h)
set_option maxRecDepth 100000 in
theorem aX10_outsideTwo_j12 {X : MCx} {yd : Dyn} {A : Nat → Prop} (C : OK X cX10_outsideTwo RX10 2 (some .int) rmX10_outsideTwo A)  (h : AH) : AW X 2 ZC yd A 0 0 (QF X rmX10_outsideTwo ZC yd rvI A) 12 [] [] h (X10_outsideTwo_j12 h) := by
    exact aw_bipush (pc := 12) C (v := (-4)) dX10_outsideTwo_12 rfl <|
    aw_goto (pc := 14) C (tgt := 22) dX10_outsideTwo_14 rfl <|
    aw_iret (pc := 22) C dX10_outsideTwo_22 rfl rfl
def X10_outsideTwo (v0 : Int32) (v1 : Int32) (h : AH) : Option (Int32 × AH) :=
    if v0 = (-4) then (X10_outsideTwo_j12 h)
    else (if v1 = (-4) then (X10_outsideTwo_j12 h)
    else (bd (X10_first v0 v1 h) fun r1 h2 =>
    some (r1, h2)))
set_option maxRecDepth 100000 in
theorem c_X10_outsideTwo (l : Launch) (v0 : Int32) (v1 : Int32) : MC l yX10_outsideTwo cX10_outsideTwo 2 (some .int) rmX10_outsideTwo ZC [.int v0, .int v1] rvI (X10_outsideTwo v0 v1) :=
  MC.of (own := RX10) (by decide +kernel) rfl (Nat.le_of_ble_eq_true rfl) fun X yd A h _ C =>
    aw_iload_n (pc := 0) C (i := 0) dX10_outsideTwo_0 rfl rfl <|
    aw_bipush (pc := 1) C (v := (-4)) dX10_outsideTwo_1 rfl <|
    aw_icmp_eq (pc := 3) C (tgt := 12) dX10_outsideTwo_3 rfl (fun _ =>
    aw_drop [] (aX10_outsideTwo_j12 C h)) (fun _ =>
    aw_iload_n (pc := 6) C (i := 1) dX10_outsideTwo_6 rfl rfl <|
    aw_bipush (pc := 7) C (v := (-4)) dX10_outsideTwo_7 rfl <|
    aw_icmp_ne (pc := 9) C (tgt := 17) dX10_outsideTwo_9 rfl (fun _ =>
    aw_drop [] (aX10_outsideTwo_j12 C h)) (fun _ =>
    aw_iload_n (pc := 17) C (i := 0) dX10_outsideTwo_17 rfl rfl <|
    aw_iload_n (pc := 18) C (i := 1) dX10_outsideTwo_18 rfl rfl <|
    aw_callF (pc := 19) C (cr_S (rest := []) (F := (X10_first v0 v1)) C (c_X10_first X.2.1 v0 v1) dX10_outsideTwo_19 mf_X10_first ml_X10_97 st_X10_first ⟨(Nat.le_of_ble_eq_true rfl), (Nat.le_of_ble_eq_true rfl)⟩ rfl rfl (Nat.le_of_ble_eq_true rfl)) rfl rfl rfl (Nat.zero_le _) (Nat.zero_le _) fun r1 h2 =>
    aw_iret (pc := 22) C dX10_outsideTwo_22 rfl rfl))

abbrev rmX10_feed : Room := { frames := 1, cells := 0, slots := 0, locals := 22 }
def X10_feed (v1 : Int32) (h : AH) : Option (Int32 × AH) :=
    bd (X10_outside v1 0 255 h) fun r1 h2 =>
    bd (X10_outside (h2.1 0 6) 0 95 h2) fun r3 h4 =>
    bd (X10_first r1 r3 h4) fun r5 h6 =>
    if r5 = 0 then (ck (h6.1 0 6) 96 (vl (sI h6 2 (h6.1 0 6).toNatClampNeg v1) fun h7 =>
    vl (sI h7 0 6 ((h7.1 0 6) + 1)) fun h8 =>
    some ((h8.1 0 6), h8)))
    else (bd (X10_refuse r5 h6) fun r9 h10 =>
    some (r9, h10))
set_option maxRecDepth 100000 in
theorem c_X10_feed (l : Launch) (v1 : Int32) : MC l yX10_feed cX10_feed 3 (some .int) rmX10_feed ZC [.ref 0, .int v1] rvI (X10_feed v1) :=
  MC.of (own := RX10) (by decide +kernel) rfl (Nat.le_of_ble_eq_true rfl) fun X yd A h _ C =>
    aw_iload_n (pc := 0) C (i := 1) dX10_feed_0 rfl rfl <|
    aw_iconst (pc := 1) C (v := 0) dX10_feed_1 rfl <|
    aw_sipush (pc := 2) C (v := 255) dX10_feed_2 rfl <|
    aw_callF (pc := 5) C (cr_S (rest := []) (F := (X10_outside v1 0 255)) C (c_X10_outside X.2.1 v1 0 255) dX10_feed_5 mf_X10_outside ml_X10_104 st_X10_outside ⟨(Nat.le_of_ble_eq_true rfl), (Nat.le_of_ble_eq_true rfl)⟩ rfl rfl (Nat.le_of_ble_eq_true rfl)) rfl rfl rfl (Nat.zero_le _) (Nat.zero_le _) fun r1 h2 =>
    aw_aload_n (pc := 8) C (i := 0) dX10_feed_8 rfl rfl <|
    aw_getI (pc := 9) C dX10_feed_9 fl_X10_108 sC_0 rfl <|
    aw_iconst (pc := 12) C (v := 0) dX10_feed_12 rfl <|
    aw_bipush (pc := 13) C (v := 95) dX10_feed_13 rfl <|
    aw_callF (pc := 15) C (cr_S (rest := [.int r1]) (F := (X10_outside (h2.1 0 6) 0 95)) C (c_X10_outside X.2.1 (h2.1 0 6) 0 95) dX10_feed_15 mf_X10_outside ml_X10_104 st_X10_outside ⟨(Nat.le_of_ble_eq_true rfl), (Nat.le_of_ble_eq_true rfl)⟩ rfl rfl (Nat.le_of_ble_eq_true rfl)) rfl rfl rfl (Nat.zero_le _) (Nat.zero_le _) fun r3 h4 =>
    aw_callF (pc := 18) C (cr_S (rest := []) (F := (X10_first r1 r3)) C (c_X10_first X.2.1 r1 r3) dX10_feed_18 mf_X10_first ml_X10_97 st_X10_first ⟨(Nat.le_of_ble_eq_true rfl), (Nat.le_of_ble_eq_true rfl)⟩ rfl rfl (Nat.le_of_ble_eq_true rfl)) rfl rfl rfl (Nat.zero_le _) (Nat.zero_le _) fun r5 h6 =>
    aw_istore_n (pc := 21) C (i := 2) (lv' := [(0, .ref 0), (1, .int v1), (2, .int r5)]) dX10_feed_21 rfl (by decide) rfl <|
    aw_iload_n (pc := 22) C (i := 2) dX10_feed_22 rfl rfl <|
    aw_if_eq (pc := 23) C (tgt := 32) dX10_feed_23 rfl (fun _ =>
    aw_aload_n (pc := 32) C (i := 0) dX10_feed_32 rfl rfl <|
    aw_getR (pc := 33) C (b := 2) dX10_feed_33 fl_X10_15 sC_0 rfl rC_0_5 <|
    aw_aload_n (pc := 36) C (i := 0) dX10_feed_36 rfl rfl <|
    aw_getI (pc := 37) C dX10_feed_37 fl_X10_108 sC_0 rfl <|
    aw_iload_n (pc := 40) C (i := 1) dX10_feed_40 rfl rfl <|
    aw_iast (pc := 41) C dX10_feed_41 sC_2 rfl fun h7 =>
    aw_aload_n (pc := 42) C (i := 0) dX10_feed_42 rfl rfl <|
    aw_dup (pc := 43) C dX10_feed_43 rfl <|
    aw_getI (pc := 44) C dX10_feed_44 fl_X10_108 sC_0 rfl <|
    aw_iconst (pc := 47) C (v := 1) dX10_feed_47 rfl <|
    aw_iadd (pc := 48) C dX10_feed_48 <|
    aw_putI (pc := 49) C dX10_feed_49 fp_X10_108 sC_0 rfl fun h8 =>
    aw_aload_n (pc := 52) C (i := 0) dX10_feed_52 rfl rfl <|
    aw_getI (pc := 53) C dX10_feed_53 fl_X10_108 sC_0 rfl <|
    aw_iret (pc := 56) C dX10_feed_56 rfl rfl) (fun _ =>
    aw_aload_n (pc := 26) C (i := 0) dX10_feed_26 rfl rfl <|
    aw_iload_n (pc := 27) C (i := 2) dX10_feed_27 rfl rfl <|
    aw_callF (pc := 28) C (cr_V (rest := []) (F := (X10_refuse r5)) C (c_X10_refuse X.2.1 r5) dX10_feed_28 mf_X10_refuse ml_X10_111 im_X10_refuse se_X10_refuse sC_0 rfl ⟨(Nat.le_of_ble_eq_true rfl), (Nat.le_of_ble_eq_true rfl)⟩ rfl rfl (Nat.le_of_ble_eq_true rfl)) rfl rfl rfl (Nat.zero_le _) (Nat.zero_le _) fun r9 h10 =>
    aw_iret (pc := 31) C dX10_feed_31 rfl rfl)

abbrev rmX10_digitsBehind : Room := { frames := 0, cells := 0, slots := 0, locals := 0 }
def X10_digitsBehind (v0 : Int32) (h : AH) : Option (Int32 × AH) :=
    vl v0 fun y1 =>
    if y1 = 102 then (some (0, h))
    else if y1 = 103 then (some (1, h))
    else if y1 = 106 then (some (13, h))
    else if y1 = 110 then (some (2, h))
    else if y1 = 112 then (some (0, h))
    else if y1 = 116 then (some (2, h))
    else if y1 = 119 then (some (1, h))
    else (some ((-1), h))
set_option maxRecDepth 100000 in
theorem c_X10_digitsBehind (l : Launch) (v0 : Int32) : MC l yX10_digitsBehind cX10_digitsBehind 1 (some .int) rmX10_digitsBehind ZC [.int v0] rvI (X10_digitsBehind v0) :=
  MC.of (own := RX10) (by decide +kernel) rfl (Nat.le_of_ble_eq_true rfl) fun X yd A h _ C =>
    aw_iload_n (pc := 0) C (i := 0) dX10_digitsBehind_0 rfl rfl <|
    aw_vlI fun y1 =>
    aw_if (fun c2 => aw_tswA (pc := 1) C (off := 94) (tg := 95) 102 dX10_digitsBehind_1 (by rw [c2]; rfl) (by decide) (by decide) rfl rfl (aw_iconst (pc := 95) C (v := 0) dX10_digitsBehind_95 rfl <|
    aw_iret (pc := 96) C dX10_digitsBehind_96 rfl rfl)) (fun c2 =>
    aw_if (fun c3 => aw_tswA (pc := 1) C (off := 89) (tg := 90) 103 dX10_digitsBehind_1 (by rw [c3]; rfl) (by decide) (by decide) rfl rfl (aw_iconst (pc := 90) C (v := 1) dX10_digitsBehind_90 rfl <|
    aw_iret (pc := 91) C dX10_digitsBehind_91 rfl rfl)) (fun c3 =>
    aw_if (fun c4 => aw_tswA (pc := 1) C (off := 91) (tg := 92) 106 dX10_digitsBehind_1 (by rw [c4]; rfl) (by decide) (by decide) rfl rfl (aw_bipush (pc := 92) C (v := 13) dX10_digitsBehind_92 rfl <|
    aw_iret (pc := 94) C dX10_digitsBehind_94 rfl rfl)) (fun c4 =>
    aw_if (fun c5 => aw_tswA (pc := 1) C (off := 87) (tg := 88) 110 dX10_digitsBehind_1 (by rw [c5]; rfl) (by decide) (by decide) rfl rfl (aw_iconst (pc := 88) C (v := 2) dX10_digitsBehind_88 rfl <|
    aw_iret (pc := 89) C dX10_digitsBehind_89 rfl rfl)) (fun c5 =>
    aw_if (fun c6 => aw_tswA (pc := 1) C (off := 94) (tg := 95) 112 dX10_digitsBehind_1 (by rw [c6]; rfl) (by decide) (by decide) rfl rfl (aw_iconst (pc := 95) C (v := 0) dX10_digitsBehind_95 rfl <|
    aw_iret (pc := 96) C dX10_digitsBehind_96 rfl rfl)) (fun c6 =>
    aw_if (fun c7 => aw_tswA (pc := 1) C (off := 87) (tg := 88) 116 dX10_digitsBehind_1 (by rw [c7]; rfl) (by decide) (by decide) rfl rfl (aw_iconst (pc := 88) C (v := 2) dX10_digitsBehind_88 rfl <|
    aw_iret (pc := 89) C dX10_digitsBehind_89 rfl rfl)) (fun c7 =>
    aw_if (fun c8 => aw_tswA (pc := 1) C (off := 89) (tg := 90) 119 dX10_digitsBehind_1 (by rw [c8]; rfl) (by decide) (by decide) rfl rfl (aw_iconst (pc := 90) C (v := 1) dX10_digitsBehind_90 rfl <|
    aw_iret (pc := 91) C dX10_digitsBehind_91 rfl rfl)) (fun c8 =>
    aw_tswD (pc := 1) C (N := 18) (td := 97) [102, 103, 106, 110, 112, 116, 119] dX10_digitsBehind_1 (List.forall_mem_cons.mpr ⟨ti_ne c2 rfl, List.forall_mem_cons.mpr ⟨ti_ne c3 rfl, List.forall_mem_cons.mpr ⟨ti_ne c4 rfl, List.forall_mem_cons.mpr ⟨ti_ne c5 rfl, List.forall_mem_cons.mpr ⟨ti_ne c6 rfl, List.forall_mem_cons.mpr ⟨ti_ne c7 rfl, List.forall_mem_cons.mpr ⟨ti_ne c8 rfl, fun _ hz => by cases hz⟩⟩⟩⟩⟩⟩⟩) rfl (by decide) rfl (aw_iconst (pc := 97) C (v := (-1)) dX10_digitsBehind_97 rfl <|
    aw_iret (pc := 98) C dX10_digitsBehind_98 rfl rfl))))))))

abbrev rmX10_firstBadLetter : Room := { frames := 1, cells := 0, slots := 0, locals := 20 }
def X10_firstBadLetter_j144  (h : AH) : Option (Int32 × AH) :=
    some ((h.1 0 6), h)
set_option maxRecDepth 100000 in
theorem aX10_firstBadLetter_j144 {X : MCx} {yd : Dyn} {A : Nat → Prop} (C : OK X cX10_firstBadLetter RX10 6 (some .int) rmX10_firstBadLetter A)  (h : AH) : AW X 6 ZC yd A 0 0 (QF X rmX10_firstBadLetter ZC yd rvI A) 144 [(0, .ref 0)] [] h (X10_firstBadLetter_j144 h) := by
    exact aw_aload_n (pc := 144) C (i := 0) dX10_firstBadLetter_144 rfl rfl <|
    aw_getI (pc := 145) C dX10_firstBadLetter_145 fl_X10_108 sC_0 rfl <|
    aw_goto (pc := 148) C (tgt := 152) dX10_firstBadLetter_148 rfl <|
    aw_iret (pc := 152) C dX10_firstBadLetter_152 rfl rfl
def X10_firstBadLetter_j127  (v1 : Int32) (v2 : Int32) (v3 : Int32) (v4 : Int32) (K9 : Int32 → Int32 → Int32 → Int32 → AH → Option (Int32 × AH)) (h : AH) : Option (Int32 × AH) :=
    vl (v4 + 1) fun x2 =>
    K9 v1 v2 v3 x2 h
set_option maxRecDepth 100000 in
theorem aX10_firstBadLetter_j127 {X : MCx} {yd : Dyn} {A : Nat → Prop} (C : OK X cX10_firstBadLetter RX10 6 (some .int) rmX10_firstBadLetter A)  (v1 : Int32) (v2 : Int32) (v3 : Int32) (v4 : Int32) (K9 : Int32 → Int32 → Int32 → Int32 → AH → Option (Int32 × AH)) (hK9 : ∀ (w1 : Int32) (w2 : Int32) (w3 : Int32) (w4 : Int32) (h : AH), AW X 6 ZC yd A 0 0 (QF X rmX10_firstBadLetter ZC yd rvI A) 9 [(0, .ref 0), (1, .int w1), (2, .int w2), (3, .int w3), (4, .int w4)] [] h (K9 w1 w2 w3 w4 h)) (h : AH) : AW X 6 ZC yd A 0 0 (QF X rmX10_firstBadLetter ZC yd rvI A) 127 [(0, .ref 0), (1, .int v1), (2, .int v2), (3, .int v3), (4, .int v4)] [] h (X10_firstBadLetter_j127 v1 v2 v3 v4 K9 h) := by
    exact aw_iincV (pc := 127) C (i := 4) (cst := 1) (fun x2 => [(0, .ref 0), (1, .int v1), (2, .int v2), (3, .int v3), (4, .int x2)]) dX10_firstBadLetter_127 rfl rfl (by decide) (fun _ => rfl) fun x2 =>
    aw_goto (pc := 130) C (tgt := 9) dX10_firstBadLetter_130 rfl <|
    (hK9 v1 v2 v3 x2 h)
def X10_firstBadLetter_j83  (v1 : Int32) (v3 : Int32) (v4 : Int32) (K9 : Int32 → Int32 → Int32 → Int32 → AH → Option (Int32 × AH)) (h : AH) : Option (Int32 × AH) :=
    X10_firstBadLetter_j127 v1 0 v3 v4 K9 h
set_option maxRecDepth 100000 in
theorem aX10_firstBadLetter_j83 {X : MCx} {yd : Dyn} {A : Nat → Prop} (C : OK X cX10_firstBadLetter RX10 6 (some .int) rmX10_firstBadLetter A)  (v1 : Int32) (v3 : Int32) (v4 : Int32) (K9 : Int32 → Int32 → Int32 → Int32 → AH → Option (Int32 × AH)) (hK9 : ∀ (w1 : Int32) (w2 : Int32) (w3 : Int32) (w4 : Int32) (h : AH), AW X 6 ZC yd A 0 0 (QF X rmX10_firstBadLetter ZC yd rvI A) 9 [(0, .ref 0), (1, .int w1), (2, .int w2), (3, .int w3), (4, .int w4)] [] h (K9 w1 w2 w3 w4 h)) (h : AH) : AW X 6 ZC yd A 0 0 (QF X rmX10_firstBadLetter ZC yd rvI A) 83 [(0, .ref 0), (1, .int v1), (3, .int v3), (4, .int v4)] [] h (X10_firstBadLetter_j83 v1 v3 v4 K9 h) := by
    exact aw_iconst (pc := 83) C (v := 0) dX10_firstBadLetter_83 rfl <|
    aw_istore_n (pc := 84) C (i := 2) (lv' := [(0, .ref 0), (1, .int v1), (2, .int 0), (3, .int v3), (4, .int v4)]) dX10_firstBadLetter_84 rfl (by decide) rfl <|
    aw_goto (pc := 85) C (tgt := 127) dX10_firstBadLetter_85 rfl <|
    (aX10_firstBadLetter_j127 C v1 0 v3 v4 K9 hK9 h)
def X10_firstBadLetter_j56  (v3 : Int32) (v4 : Int32) (K9 : Int32 → Int32 → Int32 → Int32 → AH → Option (Int32 × AH)) (s0 : Int32) (h : AH) : Option (Int32 × AH) :=
    X10_firstBadLetter_j127 1 s0 v3 v4 K9 h
set_option maxRecDepth 100000 in
theorem aX10_firstBadLetter_j56 {X : MCx} {yd : Dyn} {A : Nat → Prop} (C : OK X cX10_firstBadLetter RX10 6 (some .int) rmX10_firstBadLetter A)  (v3 : Int32) (v4 : Int32) (K9 : Int32 → Int32 → Int32 → Int32 → AH → Option (Int32 × AH)) (hK9 : ∀ (w1 : Int32) (w2 : Int32) (w3 : Int32) (w4 : Int32) (h : AH), AW X 6 ZC yd A 0 0 (QF X rmX10_firstBadLetter ZC yd rvI A) 9 [(0, .ref 0), (1, .int w1), (2, .int w2), (3, .int w3), (4, .int w4)] [] h (K9 w1 w2 w3 w4 h)) (s0 : Int32) (h : AH) : AW X 6 ZC yd A 0 0 (QF X rmX10_firstBadLetter ZC yd rvI A) 56 [(0, .ref 0), (3, .int v3), (4, .int v4)] [.int s0] h (X10_firstBadLetter_j56 v3 v4 K9 s0 h) := by
    exact aw_istore_n (pc := 56) C (i := 2) (lv' := [(0, .ref 0), (2, .int s0), (3, .int v3), (4, .int v4)]) dX10_firstBadLetter_56 rfl (by decide) rfl <|
    aw_iconst (pc := 57) C (v := 1) dX10_firstBadLetter_57 rfl <|
    aw_istore_n (pc := 58) C (i := 1) (lv' := [(0, .ref 0), (1, .int 1), (2, .int s0), (3, .int v3), (4, .int v4)]) dX10_firstBadLetter_58 rfl (by decide) rfl <|
    aw_goto (pc := 59) C (tgt := 127) dX10_firstBadLetter_59 rfl <|
    (aX10_firstBadLetter_j127 C 1 s0 v3 v4 K9 hK9 h)
def X10_firstBadLetter_l9  : Nat → Int32 → Int32 → Int32 → Int32 → AH → Option (Int32 × AH)
  | 0, _, _, _, _, _ => none
  | n + 1, v1, v2, v3, v4, h =>
    if (h.1 0 6) ≤ v4 then (if v1 = 0 then (if (h.1 0 6) = 0 then (X10_firstBadLetter_j144 h)
    else (some ((-1), h)))
    else (X10_firstBadLetter_j144 h))
    else (ck v4 96 (vl (h.1 2 v4.toNatClampNeg) fun x1 =>
    if v1 = 0 then (bd (X10_digitsBehind x1 h) fun r4 h5 =>
    if 0 ≤ r4 then (if x1 = 119 then (X10_firstBadLetter_j56 r4 v4 (X10_firstBadLetter_l9 n) 1 h5)
    else (X10_firstBadLetter_j56 r4 v4 (X10_firstBadLetter_l9 n) 0 h5))
    else (some (v4, h5)))
    else (if v2 = 0 then (if v3 ≤ 0 then (if x1 = 59 then (X10_firstBadLetter_j127 0 v2 v3 v4 (X10_firstBadLetter_l9 n) h)
    else (some (v4, h)))
    else (if x1 < 48 then (some (v4, h))
    else (if x1 ≤ 57 then (vl (v3 + (-1)) fun x3 =>
    X10_firstBadLetter_j127 v1 v2 x3 v4 (X10_firstBadLetter_l9 n) h)
    else (some (v4, h)))))
    else (if x1 = 43 then (X10_firstBadLetter_j83 v1 v3 v4 (X10_firstBadLetter_l9 n) h)
    else (if x1 = 45 then (X10_firstBadLetter_j83 v1 v3 v4 (X10_firstBadLetter_l9 n) h)
    else (some (v4, h)))))))
set_option maxRecDepth 100000 in
theorem aX10_firstBadLetter_l9 {X : MCx} {yd : Dyn} {A : Nat → Prop} (C : OK X cX10_firstBadLetter RX10 6 (some .int) rmX10_firstBadLetter A)  : ∀ (n : Nat) (v1 : Int32) (v2 : Int32) (v3 : Int32) (v4 : Int32) (h : AH), AW X 6 ZC yd A 0 0 (QF X rmX10_firstBadLetter ZC yd rvI A) 9 [(0, .ref 0), (1, .int v1), (2, .int v2), (3, .int v3), (4, .int v4)] [] h (X10_firstBadLetter_l9 n v1 v2 v3 v4 h) := by
  intro n
  induction n with
  | zero => intro v1 v2 v3 v4 h; exact aw_none
  | succ n ih =>
    intro v1 v2 v3 v4 h
    exact aw_iload (pc := 9) C (i := 4) dX10_firstBadLetter_9 rfl <|
    aw_aload_n (pc := 11) C (i := 0) dX10_firstBadLetter_11 rfl rfl <|
    aw_getI (pc := 12) C dX10_firstBadLetter_12 fl_X10_108 sC_0 rfl <|
    aw_icmp_ge (pc := 15) C (tgt := 133) dX10_firstBadLetter_15 rfl (fun _ =>
    aw_iload_n (pc := 133) C (i := 1) dX10_firstBadLetter_133 rfl rfl <|
    aw_if_ne (pc := 134) C (tgt := 144) dX10_firstBadLetter_134 rfl (fun _ =>
    aw_aload_n (pc := 137) C (i := 0) dX10_firstBadLetter_137 rfl rfl <|
    aw_getI (pc := 138) C dX10_firstBadLetter_138 fl_X10_108 sC_0 rfl <|
    aw_if_ne (pc := 141) C (tgt := 151) dX10_firstBadLetter_141 rfl (fun _ =>
    aw_drop [0] (aX10_firstBadLetter_j144 C h)) (fun _ =>
    aw_iconst (pc := 151) C (v := (-1)) dX10_firstBadLetter_151 rfl <|
    aw_iret (pc := 152) C dX10_firstBadLetter_152 rfl rfl)) (fun _ =>
    aw_drop [0] (aX10_firstBadLetter_j144 C h))) (fun _ =>
    aw_aload_n (pc := 18) C (i := 0) dX10_firstBadLetter_18 rfl rfl <|
    aw_getR (pc := 19) C (b := 2) dX10_firstBadLetter_19 fl_X10_15 sC_0 rfl rC_0_5 <|
    aw_iload (pc := 22) C (i := 4) dX10_firstBadLetter_22 rfl <|
    aw_iald (pc := 24) C dX10_firstBadLetter_24 sC_2 rfl <|
    aw_istoreV (pc := 25) C (i := 5) (fun x1 => [(0, .ref 0), (1, .int v1), (2, .int v2), (3, .int v3), (4, .int v4), (5, .int x1)]) dX10_firstBadLetter_25 (by decide) (fun _ => rfl) fun x1 =>
    aw_iload_n (pc := 27) C (i := 1) dX10_firstBadLetter_27 rfl rfl <|
    aw_if_ne (pc := 28) C (tgt := 62) dX10_firstBadLetter_28 rfl (fun _ =>
    aw_iload (pc := 31) C (i := 5) dX10_firstBadLetter_31 rfl <|
    aw_callF (pc := 33) C (cr_S (rest := []) (F := (X10_digitsBehind x1)) C (c_X10_digitsBehind X.2.1 x1) dX10_firstBadLetter_33 mf_X10_digitsBehind ml_X10_125 st_X10_digitsBehind ⟨(Nat.le_of_ble_eq_true rfl), (Nat.le_of_ble_eq_true rfl)⟩ rfl rfl (Nat.le_of_ble_eq_true rfl)) rfl rfl rfl (Nat.zero_le _) (Nat.zero_le _) fun r4 h5 =>
    aw_istore_n (pc := 36) C (i := 3) (lv' := [(0, .ref 0), (1, .int v1), (2, .int v2), (3, .int r4), (4, .int v4), (5, .int x1)]) dX10_firstBadLetter_36 rfl (by decide) rfl <|
    aw_iload_n (pc := 37) C (i := 3) dX10_firstBadLetter_37 rfl rfl <|
    aw_if_ge (pc := 38) C (tgt := 44) dX10_firstBadLetter_38 rfl (fun _ =>
    aw_iload (pc := 44) C (i := 5) dX10_firstBadLetter_44 rfl <|
    aw_bipush (pc := 46) C (v := 119) dX10_firstBadLetter_46 rfl <|
    aw_icmp_ne (pc := 48) C (tgt := 55) dX10_firstBadLetter_48 rfl (fun _ =>
    aw_iconst (pc := 51) C (v := 1) dX10_firstBadLetter_51 rfl <|
    aw_goto (pc := 52) C (tgt := 56) dX10_firstBadLetter_52 rfl <|
    aw_drop [0, 3, 4] (aX10_firstBadLetter_j56 C r4 v4 (X10_firstBadLetter_l9 n) ih 1 h5)) (fun _ =>
    aw_iconst (pc := 55) C (v := 0) dX10_firstBadLetter_55 rfl <|
    aw_drop [0, 3, 4] (aX10_firstBadLetter_j56 C r4 v4 (X10_firstBadLetter_l9 n) ih 0 h5))) (fun _ =>
    aw_iload (pc := 41) C (i := 4) dX10_firstBadLetter_41 rfl <|
    aw_iret (pc := 43) C dX10_firstBadLetter_43 rfl rfl)) (fun _ =>
    aw_iload_n (pc := 62) C (i := 2) dX10_firstBadLetter_62 rfl rfl <|
    aw_if_eq (pc := 63) C (tgt := 88) dX10_firstBadLetter_63 rfl (fun _ =>
    aw_iload_n (pc := 88) C (i := 3) dX10_firstBadLetter_88 rfl rfl <|
    aw_if_le (pc := 89) C (tgt := 115) dX10_firstBadLetter_89 rfl (fun _ =>
    aw_iload (pc := 115) C (i := 5) dX10_firstBadLetter_115 rfl <|
    aw_bipush (pc := 117) C (v := 59) dX10_firstBadLetter_117 rfl <|
    aw_icmp_eq (pc := 119) C (tgt := 125) dX10_firstBadLetter_119 rfl (fun _ =>
    aw_iconst (pc := 125) C (v := 0) dX10_firstBadLetter_125 rfl <|
    aw_istore_n (pc := 126) C (i := 1) (lv' := [(0, .ref 0), (1, .int 0), (2, .int v2), (3, .int v3), (4, .int v4), (5, .int x1)]) dX10_firstBadLetter_126 rfl (by decide) rfl <|
    aw_drop [0, 1, 2, 3, 4] (aX10_firstBadLetter_j127 C 0 v2 v3 v4 (X10_firstBadLetter_l9 n) ih h)) (fun _ =>
    aw_iload (pc := 122) C (i := 4) dX10_firstBadLetter_122 rfl <|
    aw_iret (pc := 124) C dX10_firstBadLetter_124 rfl rfl)) (fun _ =>
    aw_iload (pc := 92) C (i := 5) dX10_firstBadLetter_92 rfl <|
    aw_bipush (pc := 94) C (v := 48) dX10_firstBadLetter_94 rfl <|
    aw_icmp_lt (pc := 96) C (tgt := 106) dX10_firstBadLetter_96 rfl (fun _ =>
    aw_iload (pc := 106) C (i := 4) dX10_firstBadLetter_106 rfl <|
    aw_iret (pc := 108) C dX10_firstBadLetter_108 rfl rfl) (fun _ =>
    aw_iload (pc := 99) C (i := 5) dX10_firstBadLetter_99 rfl <|
    aw_bipush (pc := 101) C (v := 57) dX10_firstBadLetter_101 rfl <|
    aw_icmp_le (pc := 103) C (tgt := 109) dX10_firstBadLetter_103 rfl (fun _ =>
    aw_iincV (pc := 109) C (i := 3) (cst := (-1)) (fun x3 => [(0, .ref 0), (1, .int v1), (2, .int v2), (3, .int x3), (4, .int v4), (5, .int x1)]) dX10_firstBadLetter_109 rfl rfl (by decide) (fun _ => rfl) fun x3 =>
    aw_goto (pc := 112) C (tgt := 127) dX10_firstBadLetter_112 rfl <|
    aw_drop [0, 1, 2, 3, 4] (aX10_firstBadLetter_j127 C v1 v2 x3 v4 (X10_firstBadLetter_l9 n) ih h)) (fun _ =>
    aw_iload (pc := 106) C (i := 4) dX10_firstBadLetter_106 rfl <|
    aw_iret (pc := 108) C dX10_firstBadLetter_108 rfl rfl)))) (fun _ =>
    aw_iload (pc := 66) C (i := 5) dX10_firstBadLetter_66 rfl <|
    aw_bipush (pc := 68) C (v := 43) dX10_firstBadLetter_68 rfl <|
    aw_icmp_eq (pc := 70) C (tgt := 83) dX10_firstBadLetter_70 rfl (fun _ =>
    aw_drop [0, 1, 3, 4] (aX10_firstBadLetter_j83 C v1 v3 v4 (X10_firstBadLetter_l9 n) ih h)) (fun _ =>
    aw_iload (pc := 73) C (i := 5) dX10_firstBadLetter_73 rfl <|
    aw_bipush (pc := 75) C (v := 45) dX10_firstBadLetter_75 rfl <|
    aw_icmp_eq (pc := 77) C (tgt := 83) dX10_firstBadLetter_77 rfl (fun _ =>
    aw_drop [0, 1, 3, 4] (aX10_firstBadLetter_j83 C v1 v3 v4 (X10_firstBadLetter_l9 n) ih h)) (fun _ =>
    aw_iload (pc := 80) C (i := 4) dX10_firstBadLetter_80 rfl <|
    aw_iret (pc := 82) C dX10_firstBadLetter_82 rfl rfl)))))
def X10_firstBadLetter  (h : AH) : Option (Int32 × AH) :=
    X10_firstBadLetter_l9 FU 0 0 0 0 h
set_option maxRecDepth 100000 in
theorem c_X10_firstBadLetter (l : Launch)  : MC l yX10_firstBadLetter cX10_firstBadLetter 6 (some .int) rmX10_firstBadLetter ZC [.ref 0] rvI (X10_firstBadLetter) :=
  MC.of (own := RX10) (by decide +kernel) rfl (Nat.le_of_ble_eq_true rfl) fun X yd A h _ C =>
    aw_iconst (pc := 0) C (v := 0) dX10_firstBadLetter_0 rfl <|
    aw_istore_n (pc := 1) C (i := 1) (lv' := [(0, .ref 0), (1, .int 0)]) dX10_firstBadLetter_1 rfl (by decide) rfl <|
    aw_iconst (pc := 2) C (v := 0) dX10_firstBadLetter_2 rfl <|
    aw_istore_n (pc := 3) C (i := 2) (lv' := [(0, .ref 0), (1, .int 0), (2, .int 0)]) dX10_firstBadLetter_3 rfl (by decide) rfl <|
    aw_iconst (pc := 4) C (v := 0) dX10_firstBadLetter_4 rfl <|
    aw_istore_n (pc := 5) C (i := 3) (lv' := [(0, .ref 0), (1, .int 0), (2, .int 0), (3, .int 0)]) dX10_firstBadLetter_5 rfl (by decide) rfl <|
    aw_iconst (pc := 6) C (v := 0) dX10_firstBadLetter_6 rfl <|
    aw_istore (pc := 7) C (i := 4) (lv' := [(0, .ref 0), (1, .int 0), (2, .int 0), (3, .int 0), (4, .int 0)]) dX10_firstBadLetter_7 (by decide) rfl <|
    (aX10_firstBadLetter_l9 C FU 0 0 0 0 h)

abbrev rmX10_number : Room := { frames := 0, cells := 0, slots := 0, locals := 0 }
def X10_number_l5  (v1 : Int32) (v2 : Int32) : Nat → Int32 → Int32 → AH → Option (Int32 × AH)
  | 0, _, _, _ => none
  | n + 1, v3, v4, h =>
    if (v1 + v2) ≤ v4 then (some (v3, h))
    else (if (h.1 0 6) ≤ v4 then (some (v3, h))
    else (ck v4 96 (vl (((10 * v3) + (h.1 2 v4.toNatClampNeg)) - 48) fun x1 =>
    vl (v4 + 1) fun x2 =>
    (X10_number_l5 v1 v2 n) x1 x2 h)))
set_option maxRecDepth 100000 in
theorem aX10_number_l5 {X : MCx} {yd : Dyn} {A : Nat → Prop} (C : OK X cX10_number RX10 5 (some .int) rmX10_number A)  (v1 : Int32) (v2 : Int32) : ∀ (n : Nat) (v3 : Int32) (v4 : Int32) (h : AH), AW X 5 ZC yd A 0 0 (QF X rmX10_number ZC yd rvI A) 5 [(0, .ref 0), (1, .int v1), (2, .int v2), (3, .int v3), (4, .int v4)] [] h (X10_number_l5 v1 v2 n v3 v4 h) := by
  intro n
  induction n with
  | zero => intro v3 v4 h; exact aw_none
  | succ n ih =>
    intro v3 v4 h
    exact aw_iload (pc := 5) C (i := 4) dX10_number_5 rfl <|
    aw_iload_n (pc := 7) C (i := 1) dX10_number_7 rfl rfl <|
    aw_iload_n (pc := 8) C (i := 2) dX10_number_8 rfl rfl <|
    aw_iadd (pc := 9) C dX10_number_9 <|
    aw_icmp_ge (pc := 10) C (tgt := 44) dX10_number_10 rfl (fun _ =>
    aw_iload_n (pc := 44) C (i := 3) dX10_number_44 rfl rfl <|
    aw_iret (pc := 45) C dX10_number_45 rfl rfl) (fun _ =>
    aw_iload (pc := 13) C (i := 4) dX10_number_13 rfl <|
    aw_aload_n (pc := 15) C (i := 0) dX10_number_15 rfl rfl <|
    aw_getI (pc := 16) C dX10_number_16 fl_X10_108 sC_0 rfl <|
    aw_icmp_ge (pc := 19) C (tgt := 44) dX10_number_19 rfl (fun _ =>
    aw_iload_n (pc := 44) C (i := 3) dX10_number_44 rfl rfl <|
    aw_iret (pc := 45) C dX10_number_45 rfl rfl) (fun _ =>
    aw_bipush (pc := 22) C (v := 10) dX10_number_22 rfl <|
    aw_iload_n (pc := 24) C (i := 3) dX10_number_24 rfl rfl <|
    aw_imul (pc := 25) C dX10_number_25 <|
    aw_aload_n (pc := 26) C (i := 0) dX10_number_26 rfl rfl <|
    aw_getR (pc := 27) C (b := 2) dX10_number_27 fl_X10_15 sC_0 rfl rC_0_5 <|
    aw_iload (pc := 30) C (i := 4) dX10_number_30 rfl <|
    aw_iald (pc := 32) C dX10_number_32 sC_2 rfl <|
    aw_iadd (pc := 33) C dX10_number_33 <|
    aw_bipush (pc := 34) C (v := 48) dX10_number_34 rfl <|
    aw_isub (pc := 36) C dX10_number_36 <|
    aw_istoreV_n (pc := 37) C (i := 3) (fun x1 => [(0, .ref 0), (1, .int v1), (2, .int v2), (3, .int x1), (4, .int v4)]) dX10_number_37 rfl (by decide) (fun _ => rfl) fun x1 =>
    aw_iincV (pc := 38) C (i := 4) (cst := 1) (fun x2 => [(0, .ref 0), (1, .int v1), (2, .int v2), (3, .int x1), (4, .int x2)]) dX10_number_38 rfl rfl (by decide) (fun _ => rfl) fun x2 =>
    aw_goto (pc := 41) C (tgt := 5) dX10_number_41 rfl <|
    (ih x1 x2 h)))
def X10_number (v1 : Int32) (v2 : Int32) (h : AH) : Option (Int32 × AH) :=
    X10_number_l5 v1 v2 FU 0 v1 h
set_option maxRecDepth 100000 in
theorem c_X10_number (l : Launch) (v1 : Int32) (v2 : Int32) : MC l yX10_number cX10_number 5 (some .int) rmX10_number ZC [.ref 0, .int v1, .int v2] rvI (X10_number v1 v2) :=
  MC.of (own := RX10) (by decide +kernel) rfl (Nat.le_of_ble_eq_true rfl) fun X yd A h _ C =>
    aw_iconst (pc := 0) C (v := 0) dX10_number_0 rfl <|
    aw_istore_n (pc := 1) C (i := 3) (lv' := [(0, .ref 0), (1, .int v1), (2, .int v2), (3, .int 0)]) dX10_number_1 rfl (by decide) rfl <|
    aw_iload_n (pc := 2) C (i := 1) dX10_number_2 rfl rfl <|
    aw_istore (pc := 3) C (i := 4) (lv' := [(0, .ref 0), (1, .int v1), (2, .int v2), (3, .int 0), (4, .int v1)]) dX10_number_3 (by decide) rfl <|
    (aX10_number_l5 C v1 v2 FU 0 v1 h)

abbrev rmX10_stridesCome : Room := { frames := 1, cells := 0, slots := 0, locals := 22 }
def X10_stridesCome_j25  (v1 : Int32) (s0 : Int32) (h : AH) : Option (Int32 × AH) :=
    if s0 = 0 then (cz s0 (some (s0, h)))
    else (vl (sI h 52 0 v1) fun h1 =>
    cz s0 (some (s0, h1)))
set_option maxRecDepth 100000 in
theorem aX10_stridesCome_j25 {X : MCx} {yd : Dyn} {A : Nat → Prop} (C : OK X cX10_stridesCome RX10 3 (some .boolean) rmX10_stridesCome A)  (v1 : Int32) (s0 : Int32) (h : AH) : AW X 3 ZC yd A 0 0 (QF X rmX10_stridesCome ZC yd rvI A) 25 [(0, .ref 0), (1, .int v1)] [.int s0] h (X10_stridesCome_j25 v1 s0 h) := by
    exact aw_istore_n (pc := 25) C (i := 2) (lv' := [(0, .ref 0), (1, .int v1), (2, .int s0)]) dX10_stridesCome_25 rfl (by decide) rfl <|
    aw_iload_n (pc := 26) C (i := 2) dX10_stridesCome_26 rfl rfl <|
    aw_if_eq (pc := 27) C (tgt := 38) dX10_stridesCome_27 rfl (fun _ =>
    aw_iload_n (pc := 38) C (i := 2) dX10_stridesCome_38 rfl rfl <|
    aw_zret (pc := 39) C dX10_stridesCome_39 rfl rfl) (fun _ =>
    aw_aload_n (pc := 30) C (i := 0) dX10_stridesCome_30 rfl rfl <|
    aw_getR (pc := 31) C (b := 52) dX10_stridesCome_31 fl_X10_76 sC_0 rfl rC_0_2 <|
    aw_iload_n (pc := 34) C (i := 1) dX10_stridesCome_34 rfl rfl <|
    aw_putI (pc := 35) C dX10_stridesCome_35 fp_X10_163 (mt_s (Or.inr (Or.inl rfl))) rfl fun h1 =>
    aw_iload_n (pc := 38) C (i := 2) dX10_stridesCome_38 rfl rfl <|
    aw_zret (pc := 39) C dX10_stridesCome_39 rfl rfl)
def X10_stridesCome_j24  (v1 : Int32) (h : AH) : Option (Int32 × AH) :=
    X10_stridesCome_j25 v1 0 h
set_option maxRecDepth 100000 in
theorem aX10_stridesCome_j24 {X : MCx} {yd : Dyn} {A : Nat → Prop} (C : OK X cX10_stridesCome RX10 3 (some .boolean) rmX10_stridesCome A)  (v1 : Int32) (h : AH) : AW X 3 ZC yd A 0 0 (QF X rmX10_stridesCome ZC yd rvI A) 24 [(0, .ref 0), (1, .int v1)] [] h (X10_stridesCome_j24 v1 h) := by
    exact aw_iconst (pc := 24) C (v := 0) dX10_stridesCome_24 rfl <|
    (aX10_stridesCome_j25 C v1 0 h)
def X10_stridesCome (v1 : Int32) (h : AH) : Option (Int32 × AH) :=
    if (h.1 52 4) = 0 then (bd (X10_outside v1 4 20 h) fun r2 h3 =>
    if r2 = 0 then (X10_stridesCome_j25 v1 1 h3)
    else (X10_stridesCome_j24 v1 h3))
    else (X10_stridesCome_j24 v1 h)
set_option maxRecDepth 100000 in
theorem c_X10_stridesCome (l : Launch) (v1 : Int32) : MC l yX10_stridesCome cX10_stridesCome 3 (some .boolean) rmX10_stridesCome ZC [.ref 0, .int v1] rvI (X10_stridesCome v1) :=
  MC.of (own := RX10) (by decide +kernel) rfl (Nat.le_of_ble_eq_true rfl) fun X yd A h _ C =>
    aw_aload_n (pc := 0) C (i := 0) dX10_stridesCome_0 rfl rfl <|
    aw_getR (pc := 1) C (b := 52) dX10_stridesCome_1 fl_X10_76 sC_0 rfl rC_0_2 <|
    aw_getI (pc := 4) C dX10_stridesCome_4 fl_X10_160 (mt_s (Or.inr (Or.inl rfl))) rfl <|
    aw_if_ne (pc := 7) C (tgt := 24) dX10_stridesCome_7 rfl (fun _ =>
    aw_iload_n (pc := 10) C (i := 1) dX10_stridesCome_10 rfl rfl <|
    aw_iconst (pc := 11) C (v := 4) dX10_stridesCome_11 rfl <|
    aw_bipush (pc := 12) C (v := 20) dX10_stridesCome_12 rfl <|
    aw_callF (pc := 14) C (cr_S (rest := []) (F := (X10_outside v1 4 20)) C (c_X10_outside X.2.1 v1 4 20) dX10_stridesCome_14 mf_X10_outside ml_X10_104 st_X10_outside ⟨(Nat.le_of_ble_eq_true rfl), (Nat.le_of_ble_eq_true rfl)⟩ rfl rfl (Nat.le_of_ble_eq_true rfl)) rfl rfl rfl (Nat.zero_le _) (Nat.zero_le _) fun r2 h3 =>
    aw_if_ne (pc := 17) C (tgt := 24) dX10_stridesCome_17 rfl (fun _ =>
    aw_iconst (pc := 20) C (v := 1) dX10_stridesCome_20 rfl <|
    aw_goto (pc := 21) C (tgt := 25) dX10_stridesCome_21 rfl <|
    (aX10_stridesCome_j25 C v1 1 h3)) (fun _ =>
    (aX10_stridesCome_j24 C v1 h3))) (fun _ =>
    (aX10_stridesCome_j24 C v1 h))

abbrev rmX10_isMinus : Room := { frames := 0, cells := 0, slots := 0, locals := 0 }
def X10_isMinus (v1 : Int32) (h : AH) : Option (Int32 × AH) :=
    if (h.1 0 6) ≤ v1 then (cz 0 (some (0, h)))
    else (ck v1 96 (if (h.1 2 v1.toNatClampNeg) = 45 then (cz 1 (some (1, h)))
    else (cz 0 (some (0, h)))))
set_option maxRecDepth 100000 in
theorem c_X10_isMinus (l : Launch) (v1 : Int32) : MC l yX10_isMinus cX10_isMinus 2 (some .boolean) rmX10_isMinus ZC [.ref 0, .int v1] rvI (X10_isMinus v1) :=
  MC.of (own := RX10) (by decide +kernel) rfl (Nat.le_of_ble_eq_true rfl) fun X yd A h _ C =>
    aw_iload_n (pc := 0) C (i := 1) dX10_isMinus_0 rfl rfl <|
    aw_aload_n (pc := 1) C (i := 0) dX10_isMinus_1 rfl rfl <|
    aw_getI (pc := 2) C dX10_isMinus_2 fl_X10_108 sC_0 rfl <|
    aw_icmp_ge (pc := 5) C (tgt := 23) dX10_isMinus_5 rfl (fun _ =>
    aw_iconst (pc := 23) C (v := 0) dX10_isMinus_23 rfl <|
    aw_zret (pc := 24) C dX10_isMinus_24 rfl rfl) (fun _ =>
    aw_aload_n (pc := 8) C (i := 0) dX10_isMinus_8 rfl rfl <|
    aw_getR (pc := 9) C (b := 2) dX10_isMinus_9 fl_X10_15 sC_0 rfl rC_0_5 <|
    aw_iload_n (pc := 12) C (i := 1) dX10_isMinus_12 rfl rfl <|
    aw_iald (pc := 13) C dX10_isMinus_13 sC_2 rfl <|
    aw_bipush (pc := 14) C (v := 45) dX10_isMinus_14 rfl <|
    aw_icmp_ne (pc := 16) C (tgt := 23) dX10_isMinus_16 rfl (fun _ =>
    aw_iconst (pc := 19) C (v := 1) dX10_isMinus_19 rfl <|
    aw_goto (pc := 20) C (tgt := 24) dX10_isMinus_20 rfl <|
    aw_zret (pc := 24) C dX10_isMinus_24 rfl rfl) (fun _ =>
    aw_iconst (pc := 23) C (v := 0) dX10_isMinus_23 rfl <|
    aw_zret (pc := 24) C dX10_isMinus_24 rfl rfl))

abbrev rmX10_windComes : Room := { frames := 0, cells := 0, slots := 0, locals := 0 }
def X10_windComes_j14  (s0 : Int32) (h : AH) : Option (Int32 × AH) :=
    vl (sI h 52 1 s0) fun h1 =>
    cz 1 (some (1, h1))
set_option maxRecDepth 100000 in
theorem aX10_windComes_j14 {X : MCx} {yd : Dyn} {A : Nat → Prop} (C : OK X cX10_windComes RX10 3 (some .boolean) rmX10_windComes A)  (s0 : Int32) (h : AH) : AW X 3 ZC yd A 0 0 (QF X rmX10_windComes ZC yd rvI A) 14 [] [.int s0, .ref 52] h (X10_windComes_j14 s0 h) := by
    exact aw_putI (pc := 14) C dX10_windComes_14 fp_X10_157 (mt_s (Or.inr (Or.inl rfl))) rfl fun h1 =>
    aw_iconst (pc := 17) C (v := 1) dX10_windComes_17 rfl <|
    aw_zret (pc := 18) C dX10_windComes_18 rfl rfl
def X10_windComes (v1 : Int32) (v2 : Int32) (h : AH) : Option (Int32 × AH) :=
    if v1 = 0 then (X10_windComes_j14 v2 h)
    else (X10_windComes_j14 (-v2) h)
set_option maxRecDepth 100000 in
theorem c_X10_windComes (l : Launch) (v1 : Int32) (v2 : Int32) : MC l yX10_windComes cX10_windComes 3 (some .boolean) rmX10_windComes ZC [.ref 0, .int v1, .int v2] rvI (X10_windComes v1 v2) :=
  MC.of (own := RX10) (by decide +kernel) rfl (Nat.le_of_ble_eq_true rfl) fun X yd A h _ C =>
    aw_aload_n (pc := 0) C (i := 0) dX10_windComes_0 rfl rfl <|
    aw_getR (pc := 1) C (b := 52) dX10_windComes_1 fl_X10_76 sC_0 rfl rC_0_2 <|
    aw_iload_n (pc := 4) C (i := 1) dX10_windComes_4 rfl rfl <|
    aw_if_eq (pc := 5) C (tgt := 13) dX10_windComes_5 rfl (fun _ =>
    aw_iload_n (pc := 13) C (i := 2) dX10_windComes_13 rfl rfl <|
    aw_drop [] (aX10_windComes_j14 C v2 h)) (fun _ =>
    aw_iload_n (pc := 8) C (i := 2) dX10_windComes_8 rfl rfl <|
    aw_ineg (pc := 9) C dX10_windComes_9 <|
    aw_goto (pc := 10) C (tgt := 14) dX10_windComes_10 rfl <|
    aw_drop [] (aX10_windComes_j14 C (-v2) h))

abbrev rmX10_goOnComes : Room := { frames := 1, cells := 0, slots := 0, locals := 22 }
def X10_goOnComes_j24  (v1 : Int32) (s0 : Int32) (h : AH) : Option (Int32 × AH) :=
    if s0 = 0 then (cz s0 (some (s0, h)))
    else (vl (sI h 52 2 v1) fun h1 =>
    cz s0 (some (s0, h1)))
set_option maxRecDepth 100000 in
theorem aX10_goOnComes_j24 {X : MCx} {yd : Dyn} {A : Nat → Prop} (C : OK X cX10_goOnComes RX10 3 (some .boolean) rmX10_goOnComes A)  (v1 : Int32) (s0 : Int32) (h : AH) : AW X 3 ZC yd A 0 0 (QF X rmX10_goOnComes ZC yd rvI A) 24 [(0, .ref 0), (1, .int v1)] [.int s0] h (X10_goOnComes_j24 v1 s0 h) := by
    exact aw_istore_n (pc := 24) C (i := 2) (lv' := [(0, .ref 0), (1, .int v1), (2, .int s0)]) dX10_goOnComes_24 rfl (by decide) rfl <|
    aw_iload_n (pc := 25) C (i := 2) dX10_goOnComes_25 rfl rfl <|
    aw_if_eq (pc := 26) C (tgt := 37) dX10_goOnComes_26 rfl (fun _ =>
    aw_iload_n (pc := 37) C (i := 2) dX10_goOnComes_37 rfl rfl <|
    aw_zret (pc := 38) C dX10_goOnComes_38 rfl rfl) (fun _ =>
    aw_aload_n (pc := 29) C (i := 0) dX10_goOnComes_29 rfl rfl <|
    aw_getR (pc := 30) C (b := 52) dX10_goOnComes_30 fl_X10_76 sC_0 rfl rC_0_2 <|
    aw_iload_n (pc := 33) C (i := 1) dX10_goOnComes_33 rfl rfl <|
    aw_putI (pc := 34) C dX10_goOnComes_34 fp_X10_166 (mt_s (Or.inr (Or.inl rfl))) rfl fun h1 =>
    aw_iload_n (pc := 37) C (i := 2) dX10_goOnComes_37 rfl rfl <|
    aw_zret (pc := 38) C dX10_goOnComes_38 rfl rfl)
def X10_goOnComes_j23  (v1 : Int32) (h : AH) : Option (Int32 × AH) :=
    X10_goOnComes_j24 v1 0 h
set_option maxRecDepth 100000 in
theorem aX10_goOnComes_j23 {X : MCx} {yd : Dyn} {A : Nat → Prop} (C : OK X cX10_goOnComes RX10 3 (some .boolean) rmX10_goOnComes A)  (v1 : Int32) (h : AH) : AW X 3 ZC yd A 0 0 (QF X rmX10_goOnComes ZC yd rvI A) 23 [(0, .ref 0), (1, .int v1)] [] h (X10_goOnComes_j23 v1 h) := by
    exact aw_iconst (pc := 23) C (v := 0) dX10_goOnComes_23 rfl <|
    (aX10_goOnComes_j24 C v1 0 h)
def X10_goOnComes (v1 : Int32) (h : AH) : Option (Int32 × AH) :=
    if (h.1 52 4) = 0 then (bd (X10_outside v1 1 4 h) fun r2 h3 =>
    if r2 = 0 then (X10_goOnComes_j24 v1 1 h3)
    else (X10_goOnComes_j23 v1 h3))
    else (X10_goOnComes_j23 v1 h)
set_option maxRecDepth 100000 in
theorem c_X10_goOnComes (l : Launch) (v1 : Int32) : MC l yX10_goOnComes cX10_goOnComes 3 (some .boolean) rmX10_goOnComes ZC [.ref 0, .int v1] rvI (X10_goOnComes v1) :=
  MC.of (own := RX10) (by decide +kernel) rfl (Nat.le_of_ble_eq_true rfl) fun X yd A h _ C =>
    aw_aload_n (pc := 0) C (i := 0) dX10_goOnComes_0 rfl rfl <|
    aw_getR (pc := 1) C (b := 52) dX10_goOnComes_1 fl_X10_76 sC_0 rfl rC_0_2 <|
    aw_getI (pc := 4) C dX10_goOnComes_4 fl_X10_160 (mt_s (Or.inr (Or.inl rfl))) rfl <|
    aw_if_ne (pc := 7) C (tgt := 23) dX10_goOnComes_7 rfl (fun _ =>
    aw_iload_n (pc := 10) C (i := 1) dX10_goOnComes_10 rfl rfl <|
    aw_iconst (pc := 11) C (v := 1) dX10_goOnComes_11 rfl <|
    aw_iconst (pc := 12) C (v := 4) dX10_goOnComes_12 rfl <|
    aw_callF (pc := 13) C (cr_S (rest := []) (F := (X10_outside v1 1 4)) C (c_X10_outside X.2.1 v1 1 4) dX10_goOnComes_13 mf_X10_outside ml_X10_104 st_X10_outside ⟨(Nat.le_of_ble_eq_true rfl), (Nat.le_of_ble_eq_true rfl)⟩ rfl rfl (Nat.le_of_ble_eq_true rfl)) rfl rfl rfl (Nat.zero_le _) (Nat.zero_le _) fun r2 h3 =>
    aw_if_ne (pc := 16) C (tgt := 23) dX10_goOnComes_16 rfl (fun _ =>
    aw_iconst (pc := 19) C (v := 1) dX10_goOnComes_19 rfl <|
    aw_goto (pc := 20) C (tgt := 24) dX10_goOnComes_20 rfl <|
    (aX10_goOnComes_j24 C v1 1 h3)) (fun _ =>
    (aX10_goOnComes_j23 C v1 h3))) (fun _ =>
    (aX10_goOnComes_j23 C v1 h))

abbrev rmX10_jumperComes : Room := { frames := 1, cells := 0, slots := 0, locals := 24 }
def X10_jumperComes (v1 : Int32) (h : AH) : Option (Int32 × AH) :=
    bd (X10_number (v1 + 1) 1 h) fun r1 h2 =>
    if 0 < (h2.1 52 4) then (cz 0 (some (0, h2)))
    else (if 4 ≤ (h2.1 52 3) then (cz 0 (some (0, h2)))
    else (bd (X10_outside r1 0 5 h2) fun r3 h4 =>
    if r3 = 0 then (bd (X5_at 52 (h4.1 52 3) h4) fun r5 h6 =>
    cs ZC r5 (.inr 2) (ck r1 6 (vl (sK h6 r5 (r1.toNatClampNeg)) fun h8 =>
    vl (sI h8 r5 1 r1) fun h9 =>
    bd (X10_number (v1 + 2) 1 h9) fun r10 h11 =>
    vl (sI h11 r5 2 r10) fun h12 =>
    bd (X10_number (v1 + 3) 2 h12) fun r13 h14 =>
    vl (sI h14 r5 3 r13) fun h15 =>
    bd (X10_number (v1 + 5) 1 h15) fun r16 h17 =>
    vl (sI h17 r5 4 r16) fun h18 =>
    bd (X10_number (v1 + 6) 1 h18) fun r19 h20 =>
    vl (sI h20 r5 5 r19) fun h21 =>
    bd (X10_number (v1 + 7) 2 h21) fun r22 h23 =>
    vl (sI h23 r5 6 r22) fun h24 =>
    bd (X10_number (v1 + 9) 1 h24) fun r25 h26 =>
    vl (sI h26 r5 7 r25) fun h27 =>
    bd (X10_number (v1 + 10) 4 h27) fun r28 h29 =>
    vl (sI h29 r5 8 r28) fun h30 =>
    vl (sI h30 52 3 ((h30.1 52 3) + 1)) fun h31 =>
    if (h31.1 r5 3) < 40 then (cz 0 (some (0, h31)))
    else (if 6 < (h31.1 r5 5) then (cz 0 (some (0, h31)))
    else (if (h31.1 r5 6) < 20 then (cz 0 (some (0, h31)))
    else (if 4 < (h31.1 r5 7) then (cz 0 (some (0, h31)))
    else (if 2400 < (h31.1 r5 8) then (cz 0 (some (0, h31)))
    else (cz 1 (some (1, h31))))))))))
    else (cz 0 (some (0, h4)))))
set_option maxRecDepth 100000 in
theorem c_X10_jumperComes (l : Launch) (v1 : Int32) : MC l yX10_jumperComes cX10_jumperComes 4 (some .boolean) rmX10_jumperComes ZC [.ref 0, .int v1] rvI (X10_jumperComes v1) :=
  MC.of (own := RX10) (by decide +kernel) rfl (Nat.le_of_ble_eq_true rfl) fun X yd A h _ C =>
    aw_aload_n (pc := 0) C (i := 0) dX10_jumperComes_0 rfl rfl <|
    aw_iload_n (pc := 1) C (i := 1) dX10_jumperComes_1 rfl rfl <|
    aw_iconst (pc := 2) C (v := 1) dX10_jumperComes_2 rfl <|
    aw_iadd (pc := 3) C dX10_jumperComes_3 <|
    aw_iconst (pc := 4) C (v := 1) dX10_jumperComes_4 rfl <|
    aw_callF (pc := 5) C (cr_V (rest := []) (F := (X10_number (v1 + 1) 1)) C (c_X10_number X.2.1 (v1 + 1) 1) dX10_jumperComes_5 mf_X10_number ml_X10_135 im_X10_number se_X10_number sC_0 rfl ⟨(Nat.le_of_ble_eq_true rfl), (Nat.le_of_ble_eq_true rfl)⟩ rfl rfl (Nat.le_of_ble_eq_true rfl)) rfl rfl rfl (Nat.zero_le _) (Nat.zero_le _) fun r1 h2 =>
    aw_istore_n (pc := 8) C (i := 2) (lv' := [(0, .ref 0), (1, .int v1), (2, .int r1)]) dX10_jumperComes_8 rfl (by decide) rfl <|
    aw_aload_n (pc := 9) C (i := 0) dX10_jumperComes_9 rfl rfl <|
    aw_getR (pc := 10) C (b := 52) dX10_jumperComes_10 fl_X10_76 sC_0 rfl rC_0_2 <|
    aw_getI (pc := 13) C dX10_jumperComes_13 fl_X10_160 (mt_s (Or.inr (Or.inl rfl))) rfl <|
    aw_if_gt (pc := 16) C (tgt := 39) dX10_jumperComes_16 rfl (fun _ =>
    aw_iconst (pc := 39) C (v := 0) dX10_jumperComes_39 rfl <|
    aw_zret (pc := 40) C dX10_jumperComes_40 rfl rfl) (fun _ =>
    aw_aload_n (pc := 19) C (i := 0) dX10_jumperComes_19 rfl rfl <|
    aw_getR (pc := 20) C (b := 52) dX10_jumperComes_20 fl_X10_76 sC_0 rfl rC_0_2 <|
    aw_getI (pc := 23) C dX10_jumperComes_23 fl_X10_89 (mt_s (Or.inr (Or.inl rfl))) rfl <|
    aw_iconst (pc := 26) C (v := 4) dX10_jumperComes_26 rfl <|
    aw_icmp_ge (pc := 27) C (tgt := 39) dX10_jumperComes_27 rfl (fun _ =>
    aw_iconst (pc := 39) C (v := 0) dX10_jumperComes_39 rfl <|
    aw_zret (pc := 40) C dX10_jumperComes_40 rfl rfl) (fun _ =>
    aw_iload_n (pc := 30) C (i := 2) dX10_jumperComes_30 rfl rfl <|
    aw_iconst (pc := 31) C (v := 0) dX10_jumperComes_31 rfl <|
    aw_iconst (pc := 32) C (v := 5) dX10_jumperComes_32 rfl <|
    aw_callF (pc := 33) C (cr_S (rest := []) (F := (X10_outside r1 0 5)) C (c_X10_outside X.2.1 r1 0 5) dX10_jumperComes_33 mf_X10_outside ml_X10_104 st_X10_outside ⟨(Nat.le_of_ble_eq_true rfl), (Nat.le_of_ble_eq_true rfl)⟩ rfl rfl (Nat.le_of_ble_eq_true rfl)) rfl rfl rfl (Nat.zero_le _) (Nat.zero_le _) fun r3 h4 =>
    aw_if_eq (pc := 36) C (tgt := 41) dX10_jumperComes_36 rfl (fun _ =>
    aw_aload_n (pc := 41) C (i := 0) dX10_jumperComes_41 rfl rfl <|
    aw_getR (pc := 42) C (b := 52) dX10_jumperComes_42 fl_X10_76 sC_0 rfl rC_0_2 <|
    aw_aload_n (pc := 45) C (i := 0) dX10_jumperComes_45 rfl rfl <|
    aw_getR (pc := 46) C (b := 52) dX10_jumperComes_46 fl_X10_76 sC_0 rfl rC_0_2 <|
    aw_getI (pc := 49) C dX10_jumperComes_49 fl_X10_89 (mt_s (Or.inr (Or.inl rfl))) rfl <|
    aw_callF (pc := 52) C (cr_V (rest := []) (F := (X5_at 52 (h4.1 52 3))) C (c_X5_at X.2.1 52 (Or.inr (Or.inl rfl)) (h4.1 52 3)) dX10_jumperComes_52 mf_X5_at ml_X10_169 im_X5_at se_X5_at (mt_s (Or.inr (Or.inl rfl))) rfl ⟨(Nat.le_of_ble_eq_true rfl), (Nat.le_of_ble_eq_true rfl)⟩ rfl rfl (Nat.le_of_ble_eq_true rfl)) rfl rfl rfl (Nat.zero_le _) (Nat.zero_le _) fun r5 h6 =>
    aw_cs fun hs7 =>
    aw_astore_n (pc := 55) C (i := 3) (lv' := [(0, .ref 0), (1, .int v1), (2, .int r1), (3, .ref r5)]) dX10_jumperComes_55 rfl (by decide) rfl <|
    aw_aload_n (pc := 56) C (i := 3) dX10_jumperComes_56 rfl rfl <|
    aw_aload_n (pc := 57) C (i := 0) dX10_jumperComes_57 rfl rfl <|
    aw_getR (pc := 58) C (b := 1) dX10_jumperComes_58 fl_X10_11 sC_0 rfl rC_0_0 <|
    aw_iload_n (pc := 61) C (i := 2) dX10_jumperComes_61 rfl rfl <|
    aw_aald (pc := 62) C (b := (36 + r1.toNatClampNeg % 6)) dX10_jumperComes_62 sC_1 rfl rfl (rC_1 _) <|
    aw_putW (pc := 63) C (v := (r1.toNatClampNeg)) dX10_jumperComes_63 fp_X10_173 hs7 rfl j_3 j_m rfl fun h8 =>
    aw_aload_n (pc := 66) C (i := 3) dX10_jumperComes_66 rfl rfl <|
    aw_iload_n (pc := 67) C (i := 2) dX10_jumperComes_67 rfl rfl <|
    aw_putI (pc := 68) C dX10_jumperComes_68 fp_X10_177 hs7 rfl fun h9 =>
    aw_aload_n (pc := 71) C (i := 3) dX10_jumperComes_71 rfl rfl <|
    aw_aload_n (pc := 72) C (i := 0) dX10_jumperComes_72 rfl rfl <|
    aw_iload_n (pc := 73) C (i := 1) dX10_jumperComes_73 rfl rfl <|
    aw_iconst (pc := 74) C (v := 2) dX10_jumperComes_74 rfl <|
    aw_iadd (pc := 75) C dX10_jumperComes_75 <|
    aw_iconst (pc := 76) C (v := 1) dX10_jumperComes_76 rfl <|
    aw_callF (pc := 77) C (cr_V (rest := [.ref r5]) (F := (X10_number (v1 + 2) 1)) C (c_X10_number X.2.1 (v1 + 2) 1) dX10_jumperComes_77 mf_X10_number ml_X10_135 im_X10_number se_X10_number sC_0 rfl ⟨(Nat.le_of_ble_eq_true rfl), (Nat.le_of_ble_eq_true rfl)⟩ rfl rfl (Nat.le_of_ble_eq_true rfl)) rfl rfl rfl (Nat.zero_le _) (Nat.zero_le _) fun r10 h11 =>
    aw_putI (pc := 80) C dX10_jumperComes_80 fp_X10_180 hs7 rfl fun h12 =>
    aw_aload_n (pc := 83) C (i := 3) dX10_jumperComes_83 rfl rfl <|
    aw_aload_n (pc := 84) C (i := 0) dX10_jumperComes_84 rfl rfl <|
    aw_iload_n (pc := 85) C (i := 1) dX10_jumperComes_85 rfl rfl <|
    aw_iconst (pc := 86) C (v := 3) dX10_jumperComes_86 rfl <|
    aw_iadd (pc := 87) C dX10_jumperComes_87 <|
    aw_iconst (pc := 88) C (v := 2) dX10_jumperComes_88 rfl <|
    aw_callF (pc := 89) C (cr_V (rest := [.ref r5]) (F := (X10_number (v1 + 3) 2)) C (c_X10_number X.2.1 (v1 + 3) 2) dX10_jumperComes_89 mf_X10_number ml_X10_135 im_X10_number se_X10_number sC_0 rfl ⟨(Nat.le_of_ble_eq_true rfl), (Nat.le_of_ble_eq_true rfl)⟩ rfl rfl (Nat.le_of_ble_eq_true rfl)) rfl rfl rfl (Nat.zero_le _) (Nat.zero_le _) fun r13 h14 =>
    aw_putI (pc := 92) C dX10_jumperComes_92 fp_X10_183 hs7 rfl fun h15 =>
    aw_aload_n (pc := 95) C (i := 3) dX10_jumperComes_95 rfl rfl <|
    aw_aload_n (pc := 96) C (i := 0) dX10_jumperComes_96 rfl rfl <|
    aw_iload_n (pc := 97) C (i := 1) dX10_jumperComes_97 rfl rfl <|
    aw_iconst (pc := 98) C (v := 5) dX10_jumperComes_98 rfl <|
    aw_iadd (pc := 99) C dX10_jumperComes_99 <|
    aw_iconst (pc := 100) C (v := 1) dX10_jumperComes_100 rfl <|
    aw_callF (pc := 101) C (cr_V (rest := [.ref r5]) (F := (X10_number (v1 + 5) 1)) C (c_X10_number X.2.1 (v1 + 5) 1) dX10_jumperComes_101 mf_X10_number ml_X10_135 im_X10_number se_X10_number sC_0 rfl ⟨(Nat.le_of_ble_eq_true rfl), (Nat.le_of_ble_eq_true rfl)⟩ rfl rfl (Nat.le_of_ble_eq_true rfl)) rfl rfl rfl (Nat.zero_le _) (Nat.zero_le _) fun r16 h17 =>
    aw_putI (pc := 104) C dX10_jumperComes_104 fp_X10_186 hs7 rfl fun h18 =>
    aw_aload_n (pc := 107) C (i := 3) dX10_jumperComes_107 rfl rfl <|
    aw_aload_n (pc := 108) C (i := 0) dX10_jumperComes_108 rfl rfl <|
    aw_iload_n (pc := 109) C (i := 1) dX10_jumperComes_109 rfl rfl <|
    aw_bipush (pc := 110) C (v := 6) dX10_jumperComes_110 rfl <|
    aw_iadd (pc := 112) C dX10_jumperComes_112 <|
    aw_iconst (pc := 113) C (v := 1) dX10_jumperComes_113 rfl <|
    aw_callF (pc := 114) C (cr_V (rest := [.ref r5]) (F := (X10_number (v1 + 6) 1)) C (c_X10_number X.2.1 (v1 + 6) 1) dX10_jumperComes_114 mf_X10_number ml_X10_135 im_X10_number se_X10_number sC_0 rfl ⟨(Nat.le_of_ble_eq_true rfl), (Nat.le_of_ble_eq_true rfl)⟩ rfl rfl (Nat.le_of_ble_eq_true rfl)) rfl rfl rfl (Nat.zero_le _) (Nat.zero_le _) fun r19 h20 =>
    aw_putI (pc := 117) C dX10_jumperComes_117 fp_X10_189 hs7 rfl fun h21 =>
    aw_aload_n (pc := 120) C (i := 3) dX10_jumperComes_120 rfl rfl <|
    aw_aload_n (pc := 121) C (i := 0) dX10_jumperComes_121 rfl rfl <|
    aw_iload_n (pc := 122) C (i := 1) dX10_jumperComes_122 rfl rfl <|
    aw_bipush (pc := 123) C (v := 7) dX10_jumperComes_123 rfl <|
    aw_iadd (pc := 125) C dX10_jumperComes_125 <|
    aw_iconst (pc := 126) C (v := 2) dX10_jumperComes_126 rfl <|
    aw_callF (pc := 127) C (cr_V (rest := [.ref r5]) (F := (X10_number (v1 + 7) 2)) C (c_X10_number X.2.1 (v1 + 7) 2) dX10_jumperComes_127 mf_X10_number ml_X10_135 im_X10_number se_X10_number sC_0 rfl ⟨(Nat.le_of_ble_eq_true rfl), (Nat.le_of_ble_eq_true rfl)⟩ rfl rfl (Nat.le_of_ble_eq_true rfl)) rfl rfl rfl (Nat.zero_le _) (Nat.zero_le _) fun r22 h23 =>
    aw_putI (pc := 130) C dX10_jumperComes_130 fp_X10_192 hs7 rfl fun h24 =>
    aw_aload_n (pc := 133) C (i := 3) dX10_jumperComes_133 rfl rfl <|
    aw_aload_n (pc := 134) C (i := 0) dX10_jumperComes_134 rfl rfl <|
    aw_iload_n (pc := 135) C (i := 1) dX10_jumperComes_135 rfl rfl <|
    aw_bipush (pc := 136) C (v := 9) dX10_jumperComes_136 rfl <|
    aw_iadd (pc := 138) C dX10_jumperComes_138 <|
    aw_iconst (pc := 139) C (v := 1) dX10_jumperComes_139 rfl <|
    aw_callF (pc := 140) C (cr_V (rest := [.ref r5]) (F := (X10_number (v1 + 9) 1)) C (c_X10_number X.2.1 (v1 + 9) 1) dX10_jumperComes_140 mf_X10_number ml_X10_135 im_X10_number se_X10_number sC_0 rfl ⟨(Nat.le_of_ble_eq_true rfl), (Nat.le_of_ble_eq_true rfl)⟩ rfl rfl (Nat.le_of_ble_eq_true rfl)) rfl rfl rfl (Nat.zero_le _) (Nat.zero_le _) fun r25 h26 =>
    aw_putI (pc := 143) C dX10_jumperComes_143 fp_X10_195 hs7 rfl fun h27 =>
    aw_aload_n (pc := 146) C (i := 3) dX10_jumperComes_146 rfl rfl <|
    aw_aload_n (pc := 147) C (i := 0) dX10_jumperComes_147 rfl rfl <|
    aw_iload_n (pc := 148) C (i := 1) dX10_jumperComes_148 rfl rfl <|
    aw_bipush (pc := 149) C (v := 10) dX10_jumperComes_149 rfl <|
    aw_iadd (pc := 151) C dX10_jumperComes_151 <|
    aw_iconst (pc := 152) C (v := 4) dX10_jumperComes_152 rfl <|
    aw_callF (pc := 153) C (cr_V (rest := [.ref r5]) (F := (X10_number (v1 + 10) 4)) C (c_X10_number X.2.1 (v1 + 10) 4) dX10_jumperComes_153 mf_X10_number ml_X10_135 im_X10_number se_X10_number sC_0 rfl ⟨(Nat.le_of_ble_eq_true rfl), (Nat.le_of_ble_eq_true rfl)⟩ rfl rfl (Nat.le_of_ble_eq_true rfl)) rfl rfl rfl (Nat.zero_le _) (Nat.zero_le _) fun r28 h29 =>
    aw_putI (pc := 156) C dX10_jumperComes_156 fp_X10_198 hs7 rfl fun h30 =>
    aw_aload_n (pc := 159) C (i := 0) dX10_jumperComes_159 rfl rfl <|
    aw_getR (pc := 160) C (b := 52) dX10_jumperComes_160 fl_X10_76 sC_0 rfl rC_0_2 <|
    aw_dup (pc := 163) C dX10_jumperComes_163 rfl <|
    aw_getI (pc := 164) C dX10_jumperComes_164 fl_X10_89 (mt_s (Or.inr (Or.inl rfl))) rfl <|
    aw_iconst (pc := 167) C (v := 1) dX10_jumperComes_167 rfl <|
    aw_iadd (pc := 168) C dX10_jumperComes_168 <|
    aw_putI (pc := 169) C dX10_jumperComes_169 fp_X10_89 (mt_s (Or.inr (Or.inl rfl))) rfl fun h31 =>
    aw_aload_n (pc := 172) C (i := 3) dX10_jumperComes_172 rfl rfl <|
    aw_getI (pc := 173) C dX10_jumperComes_173 fl_X10_183 hs7 rfl <|
    aw_bipush (pc := 176) C (v := 40) dX10_jumperComes_176 rfl <|
    aw_icmp_lt (pc := 178) C (tgt := 221) dX10_jumperComes_178 rfl (fun _ =>
    aw_iconst (pc := 221) C (v := 0) dX10_jumperComes_221 rfl <|
    aw_zret (pc := 222) C dX10_jumperComes_222 rfl rfl) (fun _ =>
    aw_aload_n (pc := 181) C (i := 3) dX10_jumperComes_181 rfl rfl <|
    aw_getI (pc := 182) C dX10_jumperComes_182 fl_X10_189 hs7 rfl <|
    aw_bipush (pc := 185) C (v := 6) dX10_jumperComes_185 rfl <|
    aw_icmp_gt (pc := 187) C (tgt := 221) dX10_jumperComes_187 rfl (fun _ =>
    aw_iconst (pc := 221) C (v := 0) dX10_jumperComes_221 rfl <|
    aw_zret (pc := 222) C dX10_jumperComes_222 rfl rfl) (fun _ =>
    aw_aload_n (pc := 190) C (i := 3) dX10_jumperComes_190 rfl rfl <|
    aw_getI (pc := 191) C dX10_jumperComes_191 fl_X10_192 hs7 rfl <|
    aw_bipush (pc := 194) C (v := 20) dX10_jumperComes_194 rfl <|
    aw_icmp_lt (pc := 196) C (tgt := 221) dX10_jumperComes_196 rfl (fun _ =>
    aw_iconst (pc := 221) C (v := 0) dX10_jumperComes_221 rfl <|
    aw_zret (pc := 222) C dX10_jumperComes_222 rfl rfl) (fun _ =>
    aw_aload_n (pc := 199) C (i := 3) dX10_jumperComes_199 rfl rfl <|
    aw_getI (pc := 200) C dX10_jumperComes_200 fl_X10_195 hs7 rfl <|
    aw_iconst (pc := 203) C (v := 4) dX10_jumperComes_203 rfl <|
    aw_icmp_gt (pc := 204) C (tgt := 221) dX10_jumperComes_204 rfl (fun _ =>
    aw_iconst (pc := 221) C (v := 0) dX10_jumperComes_221 rfl <|
    aw_zret (pc := 222) C dX10_jumperComes_222 rfl rfl) (fun _ =>
    aw_aload_n (pc := 207) C (i := 3) dX10_jumperComes_207 rfl rfl <|
    aw_getI (pc := 208) C dX10_jumperComes_208 fl_X10_198 hs7 rfl <|
    aw_sipush (pc := 211) C (v := 2400) dX10_jumperComes_211 rfl <|
    aw_icmp_gt (pc := 214) C (tgt := 221) dX10_jumperComes_214 rfl (fun _ =>
    aw_iconst (pc := 221) C (v := 0) dX10_jumperComes_221 rfl <|
    aw_zret (pc := 222) C dX10_jumperComes_222 rfl rfl) (fun _ =>
    aw_iconst (pc := 217) C (v := 1) dX10_jumperComes_217 rfl <|
    aw_goto (pc := 218) C (tgt := 222) dX10_jumperComes_218 rfl <|
    aw_zret (pc := 222) C dX10_jumperComes_222 rfl rfl)))))) (fun _ =>
    aw_iconst (pc := 39) C (v := 0) dX10_jumperComes_39 rfl <|
    aw_zret (pc := 40) C dX10_jumperComes_40 rfl rfl)))

abbrev rmX10_tryComes : Room := { frames := 4, cells := 0, slots := 0, locals := 116 }
def X10_tryComes (v1 : Int32) (h : AH) : Option (Int32 × AH) :=
    bd (X5_inTurn 52 h) fun r1 h2 =>
    if 0 ≤ r1 then (bd (X5_record 52 r1 v1 0 h2) fun r3 h4 =>
    cz 1 (some (1, h4)))
    else (cz 0 (some (0, h2)))
set_option maxRecDepth 100000 in
theorem c_X10_tryComes (l : Launch) (v1 : Int32) : MC l yX10_tryComes cX10_tryComes 3 (some .boolean) rmX10_tryComes ZC [.ref 0, .int v1] rvI (X10_tryComes v1) :=
  MC.of (own := RX10) (by decide +kernel) rfl (Nat.le_of_ble_eq_true rfl) fun X yd A h _ C =>
    aw_aload_n (pc := 0) C (i := 0) dX10_tryComes_0 rfl rfl <|
    aw_getR (pc := 1) C (b := 52) dX10_tryComes_1 fl_X10_76 sC_0 rfl rC_0_2 <|
    aw_aload_n (pc := 4) C (i := 0) dX10_tryComes_4 rfl rfl <|
    aw_getR (pc := 5) C (b := 5) dX10_tryComes_5 fl_X10_28 sC_0 rfl rC_0_10 <|
    aw_callF (pc := 8) C (cr_V (rest := []) (F := (X5_inTurn 52)) C (c_X5_inTurn X.2.1 52 (Or.inr (Or.inl rfl))) dX10_tryComes_8 mf_X5_inTurn ml_X10_201 im_X5_inTurn se_X5_inTurn (mt_s (Or.inr (Or.inl rfl))) rfl ⟨(Nat.le_of_ble_eq_true rfl), (Nat.le_of_ble_eq_true rfl)⟩ rfl rfl (Nat.le_of_ble_eq_true rfl)) rfl rfl rfl (Nat.zero_le _) (Nat.zero_le _) fun r1 h2 =>
    aw_istore_n (pc := 11) C (i := 2) (lv' := [(0, .ref 0), (1, .int v1), (2, .int r1)]) dX10_tryComes_11 rfl (by decide) rfl <|
    aw_iload_n (pc := 12) C (i := 2) dX10_tryComes_12 rfl rfl <|
    aw_if_ge (pc := 13) C (tgt := 18) dX10_tryComes_13 rfl (fun _ =>
    aw_aload_n (pc := 18) C (i := 0) dX10_tryComes_18 rfl rfl <|
    aw_getR (pc := 19) C (b := 52) dX10_tryComes_19 fl_X10_76 sC_0 rfl rC_0_2 <|
    aw_iload_n (pc := 22) C (i := 2) dX10_tryComes_22 rfl rfl <|
    aw_iload_n (pc := 23) C (i := 1) dX10_tryComes_23 rfl rfl <|
    aw_iconst (pc := 24) C (v := 0) dX10_tryComes_24 rfl <|
    aw_callF (pc := 25) C (cr_V (rest := []) (F := (X5_record 52 r1 v1 0)) C (c_X5_record X.2.1 52 (Or.inr (Or.inl rfl)) r1 v1 0) dX10_tryComes_25 mf_X5_record ml_X10_205 im_X5_record se_X5_record (mt_s (Or.inr (Or.inl rfl))) rfl ⟨(Nat.le_of_ble_eq_true rfl), (Nat.le_of_ble_eq_true rfl)⟩ rfl rfl (Nat.le_of_ble_eq_true rfl)) rfl rfl rfl (Nat.zero_le _) (Nat.zero_le _) fun r3 h4 =>
    aw_pop (pc := 28) C dX10_tryComes_28 rfl <|
    aw_iconst (pc := 29) C (v := 1) dX10_tryComes_29 rfl <|
    aw_zret (pc := 30) C dX10_tryComes_30 rfl rfl) (fun _ =>
    aw_iconst (pc := 16) C (v := 0) dX10_tryComes_16 rfl <|
    aw_zret (pc := 17) C dX10_tryComes_17 rfl rfl)
