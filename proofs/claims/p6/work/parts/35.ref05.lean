abbrev rmX11_isEnough : Room := { frames := 4, cells := 0, slots := 0, locals := 90 }
def X11_isEnough (v1 : Int32) (v2 : Int32) (v3 : Int32) (h : AH) : Option (Int32 × AH) :=
    bd (X11_findBest 0 (h.1 0 16) h) fun _ h2 =>
    bd (X11_comesLength v1 v2 h2) fun _ h4 =>
    bd (X11_sorts h4) fun _ h6 =>
    bd (X11_rankOf v1 h6) fun r7 h8 =>
    if v3 ≤ r7 then (cz 0 (some (0, h8)))
    else (cz 1 (some (1, h8)))
set_option maxRecDepth 100000 in
theorem c_X11_isEnough (l : Launch) (v1 : Int32) (v2 : Int32) (v3 : Int32) : MC l yX11_isEnough cX11_isEnough 4 (some .boolean) rmX11_isEnough ZR [.ref 0, .int v1, .int v2, .int v3] rvI (X11_isEnough v1 v2 v3) :=
  MC.of (own := RX11) (by decide +kernel) rfl (Nat.le_of_ble_eq_true rfl) fun X yd A h _ C =>
    aw_aload_n (pc := 0) C (i := 0) dX11_isEnough_0 rfl rfl <|
    aw_iconst (pc := 1) C (v := 0) dX11_isEnough_1 rfl <|
    aw_aload_n (pc := 2) C (i := 0) dX11_isEnough_2 rfl rfl <|
    aw_getI (pc := 3) C dX11_isEnough_3 fl_X11_147 sR_0 rfl <|
    aw_callF (pc := 6) C (cr_V (rest := []) (F := (X11_findBest 0 (h.1 0 16))) C (c_X11_findBest X.2.1 0 (h.1 0 16)) dX11_isEnough_6 mf_X11_findBest ml_X11_213 im_X11_findBest se_X11_findBest sR_0 rfl ⟨(Nat.le_of_ble_eq_true rfl), (Nat.le_of_ble_eq_true rfl)⟩ rfl rfl (Nat.le_of_ble_eq_true rfl)) rfl rfl rfl (Nat.zero_le _) (Nat.zero_le _) fun _ h2 =>
    aw_aload_n (pc := 9) C (i := 0) dX11_isEnough_9 rfl rfl <|
    aw_iload_n (pc := 10) C (i := 1) dX11_isEnough_10 rfl rfl <|
    aw_iload_n (pc := 11) C (i := 2) dX11_isEnough_11 rfl rfl <|
    aw_callF (pc := 12) C (cr_V (rest := []) (F := (X11_comesLength v1 v2)) C (c_X11_comesLength X.2.1 v1 v2) dX11_isEnough_12 mf_X11_comesLength ml_X11_262 im_X11_comesLength se_X11_comesLength sR_0 rfl ⟨(Nat.le_of_ble_eq_true rfl), (Nat.le_of_ble_eq_true rfl)⟩ rfl rfl (Nat.le_of_ble_eq_true rfl)) rfl rfl rfl (Nat.zero_le _) (Nat.zero_le _) fun _ h4 =>
    aw_aload_n (pc := 15) C (i := 0) dX11_isEnough_15 rfl rfl <|
    aw_callF (pc := 16) C (cr_V (rest := []) (F := X11_sorts) C (c_X11_sorts X.2.1 ) dX11_isEnough_16 mf_X11_sorts ml_X11_268 im_X11_sorts se_X11_sorts sR_0 rfl ⟨(Nat.le_of_ble_eq_true rfl), (Nat.le_of_ble_eq_true rfl)⟩ rfl rfl (Nat.le_of_ble_eq_true rfl)) rfl rfl rfl (Nat.zero_le _) (Nat.zero_le _) fun _ h6 =>
    aw_aload_n (pc := 19) C (i := 0) dX11_isEnough_19 rfl rfl <|
    aw_iload_n (pc := 20) C (i := 1) dX11_isEnough_20 rfl rfl <|
    aw_callF (pc := 21) C (cr_V (rest := []) (F := (X11_rankOf v1)) C (c_X11_rankOf X.2.1 v1) dX11_isEnough_21 mf_X11_rankOf ml_X11_274 im_X11_rankOf se_X11_rankOf sR_0 rfl ⟨(Nat.le_of_ble_eq_true rfl), (Nat.le_of_ble_eq_true rfl)⟩ rfl rfl (Nat.le_of_ble_eq_true rfl)) rfl rfl rfl (Nat.zero_le _) (Nat.zero_le _) fun r7 h8 =>
    aw_iload_n (pc := 24) C (i := 3) dX11_isEnough_24 rfl rfl <|
    aw_icmp_ge (pc := 25) C (tgt := 32) dX11_isEnough_25 rfl (fun _ =>
    aw_iconst (pc := 32) C (v := 0) dX11_isEnough_32 rfl <|
    aw_zret (pc := 33) C dX11_isEnough_33 rfl rfl) (fun _ =>
    aw_iconst (pc := 28) C (v := 1) dX11_isEnough_28 rfl <|
    aw_goto (pc := 29) C (tgt := 33) dX11_isEnough_29 rfl <|
    aw_zret (pc := 33) C dX11_isEnough_33 rfl rfl)

abbrev rmX11_needs : Room := { frames := 5, cells := 0, slots := 0, locals := 113 }
def X11_needs_j65  (v1 : Int32) (v2 : Int32) (v4 : Int32) (K41 : Int32 → AH → Option (Int32 × AH)) (s0 : Int32) (s1 : Int32) (s2 : Int32) (h : AH) : Option (Int32 × AH) :=
    bd (X11_isEnough s2 s1 s0 h) fun r7 h8 =>
    if r7 = 0 then (vl (v4 + 1) fun x9 =>
    K41 x9 h8)
    else (some (v4, h8))
set_option maxRecDepth 100000 in
theorem aX11_needs_j65 {X : MCx} {yd : Dyn} {A : Nat → Prop} (C : OK X cX11_needs RX11 5 (some .int) rmX11_needs A)  (v1 : Int32) (v2 : Int32) (v4 : Int32) (K41 : Int32 → AH → Option (Int32 × AH)) (hK41 : ∀ (w4 : Int32) (h : AH), AW X 5 ZR yd A 0 0 (QF X rmX11_needs ZR yd rvI A) 41 [(0, .ref 0), (1, .int v1), (2, .int v2), (4, .int w4)] [] h (K41 w4 h)) (s0 : Int32) (s1 : Int32) (s2 : Int32) (h : AH) : AW X 5 ZR yd A 0 0 (QF X rmX11_needs ZR yd rvI A) 65 [(0, .ref 0), (1, .int v1), (2, .int v2), (4, .int v4)] [.int s0, .int s1, .int s2, .ref 0] h (X11_needs_j65 v1 v2 v4 K41 s0 s1 s2 h) := by
    exact aw_callF (pc := 65) C (cr_V (rest := []) (F := (X11_isEnough s2 s1 s0)) C (c_X11_isEnough X.2.1 s2 s1 s0) dX11_needs_65 mf_X11_isEnough ml_X11_277 im_X11_isEnough se_X11_isEnough sR_0 rfl ⟨(Nat.le_of_ble_eq_true rfl), (Nat.le_of_ble_eq_true rfl)⟩ rfl rfl (Nat.le_of_ble_eq_true rfl)) rfl rfl rfl (Nat.zero_le _) (Nat.zero_le _) fun r7 h8 =>
    aw_if_eq (pc := 68) C (tgt := 74) dX11_needs_68 rfl (fun _ =>
    aw_iincV (pc := 74) C (i := 4) (cst := 1) (fun x9 => [(0, .ref 0), (1, .int v1), (2, .int v2), (4, .int x9)]) dX11_needs_74 rfl rfl (by decide) (fun _ => rfl) fun x9 =>
    aw_goto (pc := 77) C (tgt := 41) dX11_needs_77 rfl <|
    (hK41 x9 h8)) (fun _ =>
    aw_iload (pc := 71) C (i := 4) dX11_needs_71 rfl <|
    aw_iret (pc := 73) C dX11_needs_73 rfl rfl)
def X11_needs_l41  (v1 : Int32) (v2 : Int32) : Nat → Int32 → AH → Option (Int32 × AH)
  | 0, _, _ => none
  | n + 1, v4, h =>
    if 1000 ≤ v4 then (some ((-9), h))
    else (if v2 = 0 then (X11_needs_j65 v1 v2 v4 (X11_needs_l41 v1 v2 n) 1 v4 v1 h)
    else (bd (X11_finalists h) fun r5 h6 =>
    X11_needs_j65 v1 v2 v4 (X11_needs_l41 v1 v2 n) r5 v4 v1 h6))
set_option maxRecDepth 100000 in
theorem aX11_needs_l41 {X : MCx} {yd : Dyn} {A : Nat → Prop} (C : OK X cX11_needs RX11 5 (some .int) rmX11_needs A)  (v1 : Int32) (v2 : Int32) : ∀ (n : Nat) (v4 : Int32) (h : AH), AW X 5 ZR yd A 0 0 (QF X rmX11_needs ZR yd rvI A) 41 [(0, .ref 0), (1, .int v1), (2, .int v2), (4, .int v4)] [] h (X11_needs_l41 v1 v2 n v4 h) := by
  intro n
  induction n with
  | zero => intro v4 h; exact aw_none
  | succ n ih =>
    intro v4 h
    exact aw_iload (pc := 41) C (i := 4) dX11_needs_41 rfl <|
    aw_sipush (pc := 43) C (v := 1000) dX11_needs_43 rfl <|
    aw_icmp_ge (pc := 46) C (tgt := 80) dX11_needs_46 rfl (fun _ =>
    aw_bipush (pc := 80) C (v := (-9)) dX11_needs_80 rfl <|
    aw_iret (pc := 82) C dX11_needs_82 rfl rfl) (fun _ =>
    aw_aload_n (pc := 49) C (i := 0) dX11_needs_49 rfl rfl <|
    aw_iload_n (pc := 50) C (i := 1) dX11_needs_50 rfl rfl <|
    aw_iload (pc := 51) C (i := 4) dX11_needs_51 rfl <|
    aw_iload_n (pc := 53) C (i := 2) dX11_needs_53 rfl rfl <|
    aw_if_ne (pc := 54) C (tgt := 61) dX11_needs_54 rfl (fun _ =>
    aw_iconst (pc := 57) C (v := 1) dX11_needs_57 rfl <|
    aw_goto (pc := 58) C (tgt := 65) dX11_needs_58 rfl <|
    (aX11_needs_j65 C v1 v2 v4 (X11_needs_l41 v1 v2 n) ih 1 v4 v1 h)) (fun _ =>
    aw_aload_n (pc := 61) C (i := 0) dX11_needs_61 rfl rfl <|
    aw_callF (pc := 62) C (cr_V (rest := [.int v4, .int v1, .ref 0]) (F := X11_finalists) C (c_X11_finalists X.2.1 ) dX11_needs_62 mf_X11_finalists ml_X11_271 im_X11_finalists se_X11_finalists sR_0 rfl ⟨(Nat.le_of_ble_eq_true rfl), (Nat.le_of_ble_eq_true rfl)⟩ rfl rfl (Nat.le_of_ble_eq_true rfl)) rfl rfl rfl (Nat.zero_le _) (Nat.zero_le _) fun r5 h6 =>
    (aX11_needs_j65 C v1 v2 v4 (X11_needs_l41 v1 v2 n) ih r5 v4 v1 h6)))
def X11_needs_j27  (v1 : Int32) (v2 : Int32) (s0 : Int32) (h : AH) : Option (Int32 × AH) :=
    if s0 = 0 then (X11_needs_l41 v1 v2 FU 0 h)
    else (bd (X11_no s0 h) fun r10 h11 =>
    some (r10, h11))
set_option maxRecDepth 100000 in
theorem aX11_needs_j27 {X : MCx} {yd : Dyn} {A : Nat → Prop} (C : OK X cX11_needs RX11 5 (some .int) rmX11_needs A)  (v1 : Int32) (v2 : Int32) (s0 : Int32) (h : AH) : AW X 5 ZR yd A 0 0 (QF X rmX11_needs ZR yd rvI A) 27 [(0, .ref 0), (1, .int v1), (2, .int v2)] [.int s0] h (X11_needs_j27 v1 v2 s0 h) := by
    exact aw_istore_n (pc := 27) C (i := 3) (lv' := [(0, .ref 0), (1, .int v1), (2, .int v2), (3, .int s0)]) dX11_needs_27 rfl (by decide) rfl <|
    aw_iload_n (pc := 28) C (i := 3) dX11_needs_28 rfl rfl <|
    aw_if_eq (pc := 29) C (tgt := 38) dX11_needs_29 rfl (fun _ =>
    aw_iconst (pc := 38) C (v := 0) dX11_needs_38 rfl <|
    aw_istore (pc := 39) C (i := 4) (lv' := [(0, .ref 0), (1, .int v1), (2, .int v2), (3, .int s0), (4, .int 0)]) dX11_needs_39 (by decide) rfl <|
    aw_drop [0, 1, 2, 4] (aX11_needs_l41 C v1 v2 FU 0 h)) (fun _ =>
    aw_aload_n (pc := 32) C (i := 0) dX11_needs_32 rfl rfl <|
    aw_iload_n (pc := 33) C (i := 3) dX11_needs_33 rfl rfl <|
    aw_callF (pc := 34) C (cr_V (rest := []) (F := (X11_no s0)) C (c_X11_no X.2.1 s0) dX11_needs_34 mf_X11_no ml_X11_115 im_X11_no se_X11_no sR_0 rfl ⟨(Nat.le_of_ble_eq_true rfl), (Nat.le_of_ble_eq_true rfl)⟩ rfl rfl (Nat.le_of_ble_eq_true rfl)) rfl rfl rfl (Nat.zero_le _) (Nat.zero_le _) fun r10 h11 =>
    aw_iret (pc := 37) C dX11_needs_37 rfl rfl)
def X11_needs (v1 : Int32) (v2 : Int32) (h : AH) : Option (Int32 × AH) :=
    bd (X11_isJumper v1 h) fun r1 h2 =>
    if r1 = 0 then (X11_needs_j27 v1 v2 (-1) h2)
    else (bd (X11_isIn v2 0 1 h2) fun r3 h4 =>
    if r3 = 0 then (X11_needs_j27 v1 v2 (-2) h4)
    else (X11_needs_j27 v1 v2 0 h4))
set_option maxRecDepth 100000 in
theorem c_X11_needs (l : Launch) (v1 : Int32) (v2 : Int32) : MC l yX11_needs cX11_needs 5 (some .int) rmX11_needs ZR [.ref 0, .int v1, .int v2] rvI (X11_needs v1 v2) :=
  MC.of (own := RX11) (by decide +kernel) rfl (Nat.le_of_ble_eq_true rfl) fun X yd A h _ C =>
    aw_aload_n (pc := 0) C (i := 0) dX11_needs_0 rfl rfl <|
    aw_iload_n (pc := 1) C (i := 1) dX11_needs_1 rfl rfl <|
    aw_callF (pc := 2) C (cr_V (rest := []) (F := (X11_isJumper v1)) C (c_X11_isJumper X.2.1 v1) dX11_needs_2 mf_X11_isJumper ml_X11_207 im_X11_isJumper se_X11_isJumper sR_0 rfl ⟨(Nat.le_of_ble_eq_true rfl), (Nat.le_of_ble_eq_true rfl)⟩ rfl rfl (Nat.le_of_ble_eq_true rfl)) rfl rfl rfl (Nat.zero_le _) (Nat.zero_le _) fun r1 h2 =>
    aw_if_ne (pc := 5) C (tgt := 12) dX11_needs_5 rfl (fun _ =>
    aw_iconst (pc := 8) C (v := (-1)) dX11_needs_8 rfl <|
    aw_goto (pc := 9) C (tgt := 27) dX11_needs_9 rfl <|
    (aX11_needs_j27 C v1 v2 (-1) h2)) (fun _ =>
    aw_iload_n (pc := 12) C (i := 2) dX11_needs_12 rfl rfl <|
    aw_iconst (pc := 13) C (v := 0) dX11_needs_13 rfl <|
    aw_iconst (pc := 14) C (v := 1) dX11_needs_14 rfl <|
    aw_callF (pc := 15) C (cr_S (rest := []) (F := (X11_isIn v2 0 1)) C (c_X11_isIn X.2.1 v2 0 1) dX11_needs_15 mf_X11_isIn ml_X11_126 st_X11_isIn ⟨(Nat.le_of_ble_eq_true rfl), (Nat.le_of_ble_eq_true rfl)⟩ rfl rfl (Nat.le_of_ble_eq_true rfl)) rfl rfl rfl (Nat.zero_le _) (Nat.zero_le _) fun r3 h4 =>
    aw_if_ne (pc := 18) C (tgt := 26) dX11_needs_18 rfl (fun _ =>
    aw_bipush (pc := 21) C (v := (-2)) dX11_needs_21 rfl <|
    aw_goto (pc := 23) C (tgt := 27) dX11_needs_23 rfl <|
    (aX11_needs_j27 C v1 v2 (-2) h4)) (fun _ =>
    aw_iconst (pc := 26) C (v := 0) dX11_needs_26 rfl <|
    (aX11_needs_j27 C v1 v2 0 h4)))

abbrev rmX11_ranks : Room := { frames := 4, cells := 0, slots := 0, locals := 90 }
def X11_ranks_l38  : Nat → Int32 → Int32 → AH → Option (Int32 × AH)
  | 0, _, _, _ => none
  | n + 1, v2, v3, h =>
    if v3 < 0 then (some (v2, h))
    else (ck v3 4 (vl ((10 * v2) + (h.1 22 v3.toNatClampNeg)) fun x8 =>
    vl (v3 + (-1)) fun x9 =>
    (X11_ranks_l38 n) x8 x9 h))
set_option maxRecDepth 100000 in
theorem aX11_ranks_l38 {X : MCx} {yd : Dyn} {A : Nat → Prop} (C : OK X cX11_ranks RX11 4 (some .int) rmX11_ranks A)  : ∀ (n : Nat) (v2 : Int32) (v3 : Int32) (h : AH), AW X 4 ZR yd A 0 0 (QF X rmX11_ranks ZR yd rvI A) 38 [(0, .ref 0), (2, .int v2), (3, .int v3)] [] h (X11_ranks_l38 n v2 v3 h) := by
  intro n
  induction n with
  | zero => intro v2 v3 h; exact aw_none
  | succ n ih =>
    intro v2 v3 h
    exact aw_iload_n (pc := 38) C (i := 3) dX11_ranks_38 rfl rfl <|
    aw_if_lt (pc := 39) C (tgt := 60) dX11_ranks_39 rfl (fun _ =>
    aw_iload_n (pc := 60) C (i := 2) dX11_ranks_60 rfl rfl <|
    aw_iret (pc := 61) C dX11_ranks_61 rfl rfl) (fun _ =>
    aw_bipush (pc := 42) C (v := 10) dX11_ranks_42 rfl <|
    aw_iload_n (pc := 44) C (i := 2) dX11_ranks_44 rfl rfl <|
    aw_imul (pc := 45) C dX11_ranks_45 <|
    aw_aload_n (pc := 46) C (i := 0) dX11_ranks_46 rfl rfl <|
    aw_getR (pc := 47) C (b := 22) dX11_ranks_47 fl_X11_74 sR_0 rfl rR_0_32 <|
    aw_iload_n (pc := 50) C (i := 3) dX11_ranks_50 rfl rfl <|
    aw_iald (pc := 51) C dX11_ranks_51 sR_22 rfl <|
    aw_iadd (pc := 52) C dX11_ranks_52 <|
    aw_istoreV_n (pc := 53) C (i := 2) (fun x8 => [(0, .ref 0), (2, .int x8), (3, .int v3)]) dX11_ranks_53 rfl (by decide) (fun _ => rfl) fun x8 =>
    aw_iincV (pc := 54) C (i := 3) (cst := (-1)) (fun x9 => [(0, .ref 0), (2, .int x8), (3, .int x9)]) dX11_ranks_54 rfl rfl (by decide) (fun _ => rfl) fun x9 =>
    aw_goto (pc := 57) C (tgt := 38) dX11_ranks_57 rfl <|
    (ih x8 x9 h))
def X11_ranks (v1 : Int32) (h : AH) : Option (Int32 × AH) :=
    bd (X11_isIn v1 0 2 h) fun r1 h2 =>
    if r1 = 0 then (bd (X11_no (-2) h2) fun r10 h11 =>
    some (r10, h11))
    else (bd (X11_findBest v1 (h2.1 0 16) h2) fun _ h4 =>
    bd (X11_sorts h4) fun _ h6 =>
    vl ((h6.1 0 15) - 1) fun x7 =>
    X11_ranks_l38 FU 0 x7 h6)
set_option maxRecDepth 100000 in
theorem c_X11_ranks (l : Launch) (v1 : Int32) : MC l yX11_ranks cX11_ranks 4 (some .int) rmX11_ranks ZR [.ref 0, .int v1] rvI (X11_ranks v1) :=
  MC.of (own := RX11) (by decide +kernel) rfl (Nat.le_of_ble_eq_true rfl) fun X yd A h _ C =>
    aw_iload_n (pc := 0) C (i := 1) dX11_ranks_0 rfl rfl <|
    aw_iconst (pc := 1) C (v := 0) dX11_ranks_1 rfl <|
    aw_iconst (pc := 2) C (v := 2) dX11_ranks_2 rfl <|
    aw_callF (pc := 3) C (cr_S (rest := []) (F := (X11_isIn v1 0 2)) C (c_X11_isIn X.2.1 v1 0 2) dX11_ranks_3 mf_X11_isIn ml_X11_126 st_X11_isIn ⟨(Nat.le_of_ble_eq_true rfl), (Nat.le_of_ble_eq_true rfl)⟩ rfl rfl (Nat.le_of_ble_eq_true rfl)) rfl rfl rfl (Nat.zero_le _) (Nat.zero_le _) fun r1 h2 =>
    aw_if_ne (pc := 6) C (tgt := 16) dX11_ranks_6 rfl (fun _ =>
    aw_aload_n (pc := 9) C (i := 0) dX11_ranks_9 rfl rfl <|
    aw_bipush (pc := 10) C (v := (-2)) dX11_ranks_10 rfl <|
    aw_callF (pc := 12) C (cr_V (rest := []) (F := (X11_no (-2))) C (c_X11_no X.2.1 (-2)) dX11_ranks_12 mf_X11_no ml_X11_115 im_X11_no se_X11_no sR_0 rfl ⟨(Nat.le_of_ble_eq_true rfl), (Nat.le_of_ble_eq_true rfl)⟩ rfl rfl (Nat.le_of_ble_eq_true rfl)) rfl rfl rfl (Nat.zero_le _) (Nat.zero_le _) fun r10 h11 =>
    aw_iret (pc := 15) C dX11_ranks_15 rfl rfl) (fun _ =>
    aw_aload_n (pc := 16) C (i := 0) dX11_ranks_16 rfl rfl <|
    aw_iload_n (pc := 17) C (i := 1) dX11_ranks_17 rfl rfl <|
    aw_aload_n (pc := 18) C (i := 0) dX11_ranks_18 rfl rfl <|
    aw_getI (pc := 19) C dX11_ranks_19 fl_X11_147 sR_0 rfl <|
    aw_callF (pc := 22) C (cr_V (rest := []) (F := (X11_findBest v1 (h2.1 0 16))) C (c_X11_findBest X.2.1 v1 (h2.1 0 16)) dX11_ranks_22 mf_X11_findBest ml_X11_213 im_X11_findBest se_X11_findBest sR_0 rfl ⟨(Nat.le_of_ble_eq_true rfl), (Nat.le_of_ble_eq_true rfl)⟩ rfl rfl (Nat.le_of_ble_eq_true rfl)) rfl rfl rfl (Nat.zero_le _) (Nat.zero_le _) fun _ h4 =>
    aw_aload_n (pc := 25) C (i := 0) dX11_ranks_25 rfl rfl <|
    aw_callF (pc := 26) C (cr_V (rest := []) (F := X11_sorts) C (c_X11_sorts X.2.1 ) dX11_ranks_26 mf_X11_sorts ml_X11_268 im_X11_sorts se_X11_sorts sR_0 rfl ⟨(Nat.le_of_ble_eq_true rfl), (Nat.le_of_ble_eq_true rfl)⟩ rfl rfl (Nat.le_of_ble_eq_true rfl)) rfl rfl rfl (Nat.zero_le _) (Nat.zero_le _) fun _ h6 =>
    aw_iconst (pc := 29) C (v := 0) dX11_ranks_29 rfl <|
    aw_istore_n (pc := 30) C (i := 2) (lv' := [(0, .ref 0), (1, .int v1), (2, .int 0)]) dX11_ranks_30 rfl (by decide) rfl <|
    aw_aload_n (pc := 31) C (i := 0) dX11_ranks_31 rfl rfl <|
    aw_getI (pc := 32) C dX11_ranks_32 fl_X11_105 sR_0 rfl <|
    aw_iconst (pc := 35) C (v := 1) dX11_ranks_35 rfl <|
    aw_isub (pc := 36) C dX11_ranks_36 <|
    aw_istoreV_n (pc := 37) C (i := 3) (fun x7 => [(0, .ref 0), (1, .int v1), (2, .int 0), (3, .int x7)]) dX11_ranks_37 rfl (by decide) (fun _ => rfl) fun x7 =>
    aw_drop [0, 2, 3] (aX11_ranks_l38 C FU 0 x7 h6))

abbrev rmX11_leader : Room := { frames := 5, cells := 0, slots := 0, locals := 110 }
def X11_leader  (h : AH) : Option (Int32 × AH) :=
    if (h.1 0 15) = 0 then (some ((-9), h))
    else (bd (X11_ranksNow h) fun _ h2 =>
    ck 0 4 (some ((h2.1 22 (0 : Int32).toNatClampNeg), h2)))
set_option maxRecDepth 100000 in
theorem c_X11_leader (l : Launch)  : MC l yX11_leader cX11_leader 1 (some .int) rmX11_leader ZR [.ref 0] rvI (X11_leader) :=
  MC.of (own := RX11) (by decide +kernel) rfl (Nat.le_of_ble_eq_true rfl) fun X yd A h _ C =>
    aw_aload_n (pc := 0) C (i := 0) dX11_leader_0 rfl rfl <|
    aw_getI (pc := 1) C dX11_leader_1 fl_X11_105 sR_0 rfl <|
    aw_if_ne (pc := 4) C (tgt := 10) dX11_leader_4 rfl (fun _ =>
    aw_bipush (pc := 7) C (v := (-9)) dX11_leader_7 rfl <|
    aw_iret (pc := 9) C dX11_leader_9 rfl rfl) (fun _ =>
    aw_aload_n (pc := 10) C (i := 0) dX11_leader_10 rfl rfl <|
    aw_callF (pc := 11) C (cr_V (rest := []) (F := X11_ranksNow) C (c_X11_ranksNow X.2.1 ) dX11_leader_11 mf_X11_ranksNow ml_X11_280 im_X11_ranksNow se_X11_ranksNow sR_0 rfl ⟨(Nat.le_of_ble_eq_true rfl), (Nat.le_of_ble_eq_true rfl)⟩ rfl rfl (Nat.le_of_ble_eq_true rfl)) rfl rfl rfl (Nat.zero_le _) (Nat.zero_le _) fun _ h2 =>
    aw_aload_n (pc := 14) C (i := 0) dX11_leader_14 rfl rfl <|
    aw_getR (pc := 15) C (b := 22) dX11_leader_15 fl_X11_74 sR_0 rfl rR_0_32 <|
    aw_iconst (pc := 18) C (v := 0) dX11_leader_18 rfl <|
    aw_iald (pc := 19) C dX11_leader_19 sR_22 rfl <|
    aw_iret (pc := 20) C dX11_leader_20 rfl rfl)

abbrev rmX11_leads : Room := { frames := 6, cells := 0, slots := 0, locals := 130 }
def X11_leads  (h : AH) : Option (Int32 × AH) :=
    bd (X11_leader h) fun r1 h2 =>
    some (r1, h2)
set_option maxRecDepth 100000 in
theorem c_X11_leads (l : Launch)  : MC l yX11_leads cX11_leads 1 (some .int) rmX11_leads ZR [.ref 0] rvI (X11_leads) :=
  MC.of (own := RX11) (by decide +kernel) rfl (Nat.le_of_ble_eq_true rfl) fun X yd A h _ C =>
    aw_aload_n (pc := 0) C (i := 0) dX11_leads_0 rfl rfl <|
    aw_callF (pc := 1) C (cr_V (rest := []) (F := X11_leader) C (c_X11_leader X.2.1 ) dX11_leads_1 mf_X11_leader ml_X11_283 im_X11_leader se_X11_leader sR_0 rfl ⟨(Nat.le_of_ble_eq_true rfl), (Nat.le_of_ble_eq_true rfl)⟩ rfl rfl (Nat.le_of_ble_eq_true rfl)) rfl rfl rfl (Nat.zero_le _) (Nat.zero_le _) fun r1 h2 =>
    aw_iret (pc := 4) C dX11_leads_4 rfl rfl

abbrev rmX11_goOnBits : Room := { frames := 5, cells := 0, slots := 0, locals := 110 }
def X11_goOnBits_l8  : Nat → Int32 → Int32 → AH → Option (Int32 × AH)
  | 0, _, _, _ => none
  | n + 1, v1, v2, h =>
    bd (X11_finalists h) fun r3 h4 =>
    if r3 ≤ v2 then (some (v1, h4))
    else (ck v2 4 (vl (v1 ||| (shl32 1 (h4.1 22 v2.toNatClampNeg))) fun x5 =>
    vl (v2 + 1) fun x6 =>
    (X11_goOnBits_l8 n) x5 x6 h4))
set_option maxRecDepth 100000 in
theorem aX11_goOnBits_l8 {X : MCx} {yd : Dyn} {A : Nat → Prop} (C : OK X cX11_goOnBits RX11 3 (some .int) rmX11_goOnBits A)  : ∀ (n : Nat) (v1 : Int32) (v2 : Int32) (h : AH), AW X 3 ZR yd A 0 0 (QF X rmX11_goOnBits ZR yd rvI A) 8 [(0, .ref 0), (1, .int v1), (2, .int v2)] [] h (X11_goOnBits_l8 n v1 v2 h) := by
  intro n
  induction n with
  | zero => intro v1 v2 h; exact aw_none
  | succ n ih =>
    intro v1 v2 h
    exact aw_iload_n (pc := 8) C (i := 2) dX11_goOnBits_8 rfl rfl <|
    aw_aload_n (pc := 9) C (i := 0) dX11_goOnBits_9 rfl rfl <|
    aw_callF (pc := 10) C (cr_V (rest := [.int v2]) (F := X11_finalists) C (c_X11_finalists X.2.1 ) dX11_goOnBits_10 mf_X11_finalists ml_X11_271 im_X11_finalists se_X11_finalists sR_0 rfl ⟨(Nat.le_of_ble_eq_true rfl), (Nat.le_of_ble_eq_true rfl)⟩ rfl rfl (Nat.le_of_ble_eq_true rfl)) rfl rfl rfl (Nat.zero_le _) (Nat.zero_le _) fun r3 h4 =>
    aw_icmp_ge (pc := 13) C (tgt := 33) dX11_goOnBits_13 rfl (fun _ =>
    aw_iload_n (pc := 33) C (i := 1) dX11_goOnBits_33 rfl rfl <|
    aw_iret (pc := 34) C dX11_goOnBits_34 rfl rfl) (fun _ =>
    aw_iload_n (pc := 16) C (i := 1) dX11_goOnBits_16 rfl rfl <|
    aw_iconst (pc := 17) C (v := 1) dX11_goOnBits_17 rfl <|
    aw_aload_n (pc := 18) C (i := 0) dX11_goOnBits_18 rfl rfl <|
    aw_getR (pc := 19) C (b := 22) dX11_goOnBits_19 fl_X11_74 sR_0 rfl rR_0_32 <|
    aw_iload_n (pc := 22) C (i := 2) dX11_goOnBits_22 rfl rfl <|
    aw_iald (pc := 23) C dX11_goOnBits_23 sR_22 rfl <|
    aw_ishl (pc := 24) C dX11_goOnBits_24 <|
    aw_ior (pc := 25) C dX11_goOnBits_25 <|
    aw_istoreV_n (pc := 26) C (i := 1) (fun x5 => [(0, .ref 0), (1, .int x5), (2, .int v2)]) dX11_goOnBits_26 rfl (by decide) (fun _ => rfl) fun x5 =>
    aw_iincV (pc := 27) C (i := 2) (cst := 1) (fun x6 => [(0, .ref 0), (1, .int x5), (2, .int x6)]) dX11_goOnBits_27 rfl rfl (by decide) (fun _ => rfl) fun x6 =>
    aw_goto (pc := 30) C (tgt := 8) dX11_goOnBits_30 rfl <|
    (ih x5 x6 h4))
def X11_goOnBits  (h : AH) : Option (Int32 × AH) :=
    bd (X11_ranksNow h) fun _ h2 =>
    X11_goOnBits_l8 FU 0 0 h2
set_option maxRecDepth 100000 in
theorem c_X11_goOnBits (l : Launch)  : MC l yX11_goOnBits cX11_goOnBits 3 (some .int) rmX11_goOnBits ZR [.ref 0] rvI (X11_goOnBits) :=
  MC.of (own := RX11) (by decide +kernel) rfl (Nat.le_of_ble_eq_true rfl) fun X yd A h _ C =>
    aw_aload_n (pc := 0) C (i := 0) dX11_goOnBits_0 rfl rfl <|
    aw_callF (pc := 1) C (cr_V (rest := []) (F := X11_ranksNow) C (c_X11_ranksNow X.2.1 ) dX11_goOnBits_1 mf_X11_ranksNow ml_X11_280 im_X11_ranksNow se_X11_ranksNow sR_0 rfl ⟨(Nat.le_of_ble_eq_true rfl), (Nat.le_of_ble_eq_true rfl)⟩ rfl rfl (Nat.le_of_ble_eq_true rfl)) rfl rfl rfl (Nat.zero_le _) (Nat.zero_le _) fun _ h2 =>
    aw_iconst (pc := 4) C (v := 0) dX11_goOnBits_4 rfl <|
    aw_istore_n (pc := 5) C (i := 1) (lv' := [(0, .ref 0), (1, .int 0)]) dX11_goOnBits_5 rfl (by decide) rfl <|
    aw_iconst (pc := 6) C (v := 0) dX11_goOnBits_6 rfl <|
    aw_istore_n (pc := 7) C (i := 2) (lv' := [(0, .ref 0), (1, .int 0), (2, .int 0)]) dX11_goOnBits_7 rfl (by decide) rfl <|
    (aX11_goOnBits_l8 C FU 0 0 h2)

abbrev rmX11_goOn : Room := { frames := 6, cells := 0, slots := 0, locals := 132 }
def X11_goOn  (h : AH) : Option (Int32 × AH) :=
    bd (X11_goOnBits h) fun r1 h2 =>
    some (r1, h2)
set_option maxRecDepth 100000 in
theorem c_X11_goOn (l : Launch)  : MC l yX11_goOn cX11_goOn 1 (some .int) rmX11_goOn ZR [.ref 0] rvI (X11_goOn) :=
  MC.of (own := RX11) (by decide +kernel) rfl (Nat.le_of_ble_eq_true rfl) fun X yd A h _ C =>
    aw_aload_n (pc := 0) C (i := 0) dX11_goOn_0 rfl rfl <|
    aw_callF (pc := 1) C (cr_V (rest := []) (F := X11_goOnBits) C (c_X11_goOnBits X.2.1 ) dX11_goOn_1 mf_X11_goOnBits ml_X11_286 im_X11_goOnBits se_X11_goOnBits sR_0 rfl ⟨(Nat.le_of_ble_eq_true rfl), (Nat.le_of_ble_eq_true rfl)⟩ rfl rfl (Nat.le_of_ble_eq_true rfl)) rfl rfl rfl (Nat.zero_le _) (Nat.zero_le _) fun r1 h2 =>
    aw_iret (pc := 4) C dX11_goOn_4 rfl rfl

abbrev rmX11_tenThousandths : Room := { frames := 4, cells := 0, slots := 0, locals := 102 }
def X11_tenThousandths_l28  (v3 : Int32) (v5 : Int64) : Nat → Int64 → Int32 → AH → Option (Int32 × AH)
  | 0, _, _, _ => none
  | n + 1, v7, v9, h =>
    if v3 ≤ v9 then (some ((10000 - v7.toInt32), h))
    else (vl ((v7 * (10000 - v5)) / 10000) fun x6 =>
    vl (v9 + 1) fun x7 =>
    (X11_tenThousandths_l28 v3 v5 n) x6 x7 h)
set_option maxRecDepth 100000 in
theorem aX11_tenThousandths_l28 {X : MCx} {yd : Dyn} {A : Nat → Prop} (C : OK X cX11_tenThousandths RX11 10 (some .int) rmX11_tenThousandths A)  (v3 : Int32) (v5 : Int64) : ∀ (n : Nat) (v7 : Int64) (v9 : Int32) (h : AH), AW X 10 ZR yd A 0 0 (QF X rmX11_tenThousandths ZR yd rvI A) 28 [(3, .int v3), (5, .long v5), (7, .long v7), (9, .int v9)] [] h (X11_tenThousandths_l28 v3 v5 n v7 v9 h) := by
  intro n
  induction n with
  | zero => intro v7 v9 h; exact aw_none
  | succ n ih =>
    intro v7 v9 h
    exact aw_iload (pc := 28) C (i := 9) dX11_tenThousandths_28 rfl <|
    aw_iload_n (pc := 30) C (i := 3) dX11_tenThousandths_30 rfl rfl <|
    aw_icmp_ge (pc := 31) C (tgt := 55) dX11_tenThousandths_31 rfl (fun _ =>
    aw_sipush (pc := 55) C (v := 10000) dX11_tenThousandths_55 rfl <|
    aw_lload (pc := 58) C (i := 7) dX11_tenThousandths_58 rfl <|
    aw_l2i (pc := 60) C dX11_tenThousandths_60 <|
    aw_isub (pc := 61) C dX11_tenThousandths_61 <|
    aw_iret (pc := 62) C dX11_tenThousandths_62 rfl rfl) (fun _ =>
    aw_lload (pc := 34) C (i := 7) dX11_tenThousandths_34 rfl <|
    aw_ldc2_w (pc := 36) C (v := 10000) dX11_tenThousandths_36 kc_X11_289 <|
    aw_lload (pc := 39) C (i := 5) dX11_tenThousandths_39 rfl <|
    aw_lsub (pc := 41) C dX11_tenThousandths_41 <|
    aw_lmul (pc := 42) C dX11_tenThousandths_42 <|
    aw_ldc2_w (pc := 43) C (v := 10000) dX11_tenThousandths_43 kc_X11_289 <|
    aw_ldivK (pc := 46) C dX11_tenThousandths_46 (by decide) <|
    aw_lstoreV (pc := 47) C (i := 7) (fun x6 => [(3, .int v3), (5, .long v5), (7, .long x6), (9, .int v9)]) dX11_tenThousandths_47 (by decide) (fun _ => rfl) fun x6 =>
    aw_iincV (pc := 49) C (i := 9) (cst := 1) (fun x7 => [(3, .int v3), (5, .long v5), (7, .long x6), (9, .int x7)]) dX11_tenThousandths_49 rfl rfl (by decide) (fun _ => rfl) fun x7 =>
    aw_goto (pc := 52) C (tgt := 28) dX11_tenThousandths_52 rfl <|
    (ih x6 x7 h))
def X11_tenThousandths (v1 : Int32) (v2 : Int32) (v3 : Int32) (v4 : Int32) (h : AH) : Option (Int32 × AH) :=
    bd (X11_counted v1 v2 3 v4 h) fun r1 h2 =>
    bd (X11_allWays h2) fun r3 h4 =>
    if r3 = 0 then none else (vl ((10000 * r1) / r3) fun x5 =>
    X11_tenThousandths_l28 v3 x5 FU 10000 0 h4)
set_option maxRecDepth 100000 in
theorem c_X11_tenThousandths (l : Launch) (v1 : Int32) (v2 : Int32) (v3 : Int32) (v4 : Int32) : MC l yX11_tenThousandths cX11_tenThousandths 10 (some .int) rmX11_tenThousandths ZR [.ref 0, .int v1, .int v2, .int v3, .int v4] rvI (X11_tenThousandths v1 v2 v3 v4) :=
  MC.of (own := RX11) (by decide +kernel) rfl (Nat.le_of_ble_eq_true rfl) fun X yd A h _ C =>
    aw_ldc2_w (pc := 0) C (v := 10000) dX11_tenThousandths_0 kc_X11_289 <|
    aw_aload_n (pc := 3) C (i := 0) dX11_tenThousandths_3 rfl rfl <|
    aw_iload_n (pc := 4) C (i := 1) dX11_tenThousandths_4 rfl rfl <|
    aw_iload_n (pc := 5) C (i := 2) dX11_tenThousandths_5 rfl rfl <|
    aw_iconst (pc := 6) C (v := 3) dX11_tenThousandths_6 rfl <|
    aw_iload (pc := 7) C (i := 4) dX11_tenThousandths_7 rfl <|
    aw_callF (pc := 9) C (cr_V (rest := [.long 10000]) (F := (X11_counted v1 v2 3 v4)) C (c_X11_counted X.2.1 v1 v2 3 v4) dX11_tenThousandths_9 mf_X11_counted ml_X11_242 im_X11_counted se_X11_counted sR_0 rfl ⟨(Nat.le_of_ble_eq_true rfl), (Nat.le_of_ble_eq_true rfl)⟩ rfl rfl (Nat.le_of_ble_eq_true rfl)) rfl rfl rfl (Nat.zero_le _) (Nat.zero_le _) fun r1 h2 =>
    aw_lmul (pc := 12) C dX11_tenThousandths_12 <|
    aw_aload_n (pc := 13) C (i := 0) dX11_tenThousandths_13 rfl rfl <|
    aw_callF (pc := 14) C (cr_V (rest := [.long (10000 * r1)]) (F := X11_allWays) C (c_X11_allWays X.2.1 ) dX11_tenThousandths_14 mf_X11_allWays ml_X11_246 im_X11_allWays se_X11_allWays sR_0 rfl ⟨(Nat.le_of_ble_eq_true rfl), (Nat.le_of_ble_eq_true rfl)⟩ rfl rfl (Nat.le_of_ble_eq_true rfl)) rfl rfl rfl (Nat.zero_le _) (Nat.zero_le _) fun r3 h4 =>
    aw_ldiv (pc := 17) C dX11_tenThousandths_17 <|
    aw_lstoreV (pc := 18) C (i := 5) (fun x5 => [(0, .ref 0), (1, .int v1), (2, .int v2), (3, .int v3), (4, .int v4), (5, .long x5)]) dX11_tenThousandths_18 (by decide) (fun _ => rfl) fun x5 =>
    aw_ldc2_w (pc := 20) C (v := 10000) dX11_tenThousandths_20 kc_X11_289 <|
    aw_lstore (pc := 23) C (i := 7) (lv' := [(0, .ref 0), (1, .int v1), (2, .int v2), (3, .int v3), (4, .int v4), (5, .long x5), (7, .long 10000)]) dX11_tenThousandths_23 (by decide) rfl <|
    aw_iconst (pc := 25) C (v := 0) dX11_tenThousandths_25 rfl <|
    aw_istore (pc := 26) C (i := 9) (lv' := [(0, .ref 0), (1, .int v1), (2, .int v2), (3, .int v3), (4, .int v4), (5, .long x5), (7, .long 10000), (9, .int 0)]) dX11_tenThousandths_26 (by decide) rfl <|
    aw_drop [3, 5, 6, 7] (aX11_tenThousandths_l28 C v3 x5 FU 10000 0 h4)

abbrev rmX11_aim : Room := { frames := 5, cells := 0, slots := 0, locals := 131 }
def X11_aim_j118  (v1 : Int32) (v2 : Int32) (v3 : Int32) (v4 : Int32) (v6 : Int32) (v7 : Int32) (v8 : Int32) (K82 : Int32 → Int32 → Int32 → AH → Option (Int32 × AH)) (h : AH) : Option (Int32 × AH) :=
    vl (v8 + 1) fun x6 =>
    K82 v6 v7 x6 h
set_option maxRecDepth 100000 in
theorem aX11_aim_j118 {X : MCx} {yd : Dyn} {A : Nat → Prop} (C : OK X cX11_aim RX11 10 (some .int) rmX11_aim A)  (v1 : Int32) (v2 : Int32) (v3 : Int32) (v4 : Int32) (v6 : Int32) (v7 : Int32) (v8 : Int32) (K82 : Int32 → Int32 → Int32 → AH → Option (Int32 × AH)) (hK82 : ∀ (w6 : Int32) (w7 : Int32) (w8 : Int32) (h : AH), AW X 10 ZR yd A 0 0 (QF X rmX11_aim ZR yd rvI A) 82 [(0, .ref 0), (1, .int v1), (2, .int v2), (3, .int v3), (4, .int v4), (6, .int w6), (7, .int w7), (8, .int w8)] [] h (K82 w6 w7 w8 h)) (h : AH) : AW X 10 ZR yd A 0 0 (QF X rmX11_aim ZR yd rvI A) 118 [(0, .ref 0), (1, .int v1), (2, .int v2), (3, .int v3), (4, .int v4), (6, .int v6), (7, .int v7), (8, .int v8)] [] h (X11_aim_j118 v1 v2 v3 v4 v6 v7 v8 K82 h) := by
    exact aw_iincV (pc := 118) C (i := 8) (cst := 1) (fun x6 => [(0, .ref 0), (1, .int v1), (2, .int v2), (3, .int v3), (4, .int v4), (6, .int v6), (7, .int v7), (8, .int x6)]) dX11_aim_118 rfl rfl (by decide) (fun _ => rfl) fun x6 =>
    aw_goto (pc := 121) C (tgt := 82) dX11_aim_121 rfl <|
    (hK82 v6 v7 x6 h)
def X11_aim_l82  (v1 : Int32) (v2 : Int32) (v3 : Int32) (v4 : Int32) : Nat → Int32 → Int32 → Int32 → AH → Option (Int32 × AH)
  | 0, _, _, _, _ => none
  | n + 1, v6, v7, v8, h =>
    if 21 ≤ v8 then (if v4 = 0 then (some (v6, h))
    else (some (v7, h)))
    else (bd (X11_tenThousandths v1 v8 v2 v3 h) fun r4 h5 =>
    if v7 < r4 then (X11_aim_j118 v1 v2 v3 v4 v8 r4 v8 (X11_aim_l82 v1 v2 v3 v4 n) h5)
    else (X11_aim_j118 v1 v2 v3 v4 v6 v7 v8 (X11_aim_l82 v1 v2 v3 v4 n) h5))
set_option maxRecDepth 100000 in
theorem aX11_aim_l82 {X : MCx} {yd : Dyn} {A : Nat → Prop} (C : OK X cX11_aim RX11 10 (some .int) rmX11_aim A)  (v1 : Int32) (v2 : Int32) (v3 : Int32) (v4 : Int32) : ∀ (n : Nat) (v6 : Int32) (v7 : Int32) (v8 : Int32) (h : AH), AW X 10 ZR yd A 0 0 (QF X rmX11_aim ZR yd rvI A) 82 [(0, .ref 0), (1, .int v1), (2, .int v2), (3, .int v3), (4, .int v4), (6, .int v6), (7, .int v7), (8, .int v8)] [] h (X11_aim_l82 v1 v2 v3 v4 n v6 v7 v8 h) := by
  intro n
  induction n with
  | zero => intro v6 v7 v8 h; exact aw_none
  | succ n ih =>
    intro v6 v7 v8 h
    exact aw_iload (pc := 82) C (i := 8) dX11_aim_82 rfl <|
    aw_bipush (pc := 84) C (v := 21) dX11_aim_84 rfl <|
    aw_icmp_ge (pc := 86) C (tgt := 124) dX11_aim_86 rfl (fun _ =>
    aw_iload (pc := 124) C (i := 4) dX11_aim_124 rfl <|
    aw_if_ne (pc := 126) C (tgt := 134) dX11_aim_126 rfl (fun _ =>
    aw_iload (pc := 129) C (i := 6) dX11_aim_129 rfl <|
    aw_goto (pc := 131) C (tgt := 136) dX11_aim_131 rfl <|
    aw_iret (pc := 136) C dX11_aim_136 rfl rfl) (fun _ =>
    aw_iload (pc := 134) C (i := 7) dX11_aim_134 rfl <|
    aw_iret (pc := 136) C dX11_aim_136 rfl rfl)) (fun _ =>
    aw_aload_n (pc := 89) C (i := 0) dX11_aim_89 rfl rfl <|
    aw_iload_n (pc := 90) C (i := 1) dX11_aim_90 rfl rfl <|
    aw_iload (pc := 91) C (i := 8) dX11_aim_91 rfl <|
    aw_iload_n (pc := 93) C (i := 2) dX11_aim_93 rfl rfl <|
    aw_iload_n (pc := 94) C (i := 3) dX11_aim_94 rfl rfl <|
    aw_callF (pc := 95) C (cr_V (rest := []) (F := (X11_tenThousandths v1 v8 v2 v3)) C (c_X11_tenThousandths X.2.1 v1 v8 v2 v3) dX11_aim_95 mf_X11_tenThousandths ml_X11_291 im_X11_tenThousandths se_X11_tenThousandths sR_0 rfl ⟨(Nat.le_of_ble_eq_true rfl), (Nat.le_of_ble_eq_true rfl)⟩ rfl rfl (Nat.le_of_ble_eq_true rfl)) rfl rfl rfl (Nat.zero_le _) (Nat.zero_le _) fun r4 h5 =>
    aw_istore (pc := 98) C (i := 9) (lv' := [(0, .ref 0), (1, .int v1), (2, .int v2), (3, .int v3), (4, .int v4), (6, .int v6), (7, .int v7), (8, .int v8), (9, .int r4)]) dX11_aim_98 (by decide) rfl <|
    aw_iload (pc := 100) C (i := 9) dX11_aim_100 rfl <|
    aw_iload (pc := 102) C (i := 7) dX11_aim_102 rfl <|
    aw_icmp_gt (pc := 104) C (tgt := 110) dX11_aim_104 rfl (fun _ =>
    aw_iload (pc := 110) C (i := 8) dX11_aim_110 rfl <|
    aw_istore (pc := 112) C (i := 6) (lv' := [(0, .ref 0), (1, .int v1), (2, .int v2), (3, .int v3), (4, .int v4), (6, .int v8), (7, .int v7), (8, .int v8), (9, .int r4)]) dX11_aim_112 (by decide) rfl <|
    aw_iload (pc := 114) C (i := 9) dX11_aim_114 rfl <|
    aw_istore (pc := 116) C (i := 7) (lv' := [(0, .ref 0), (1, .int v1), (2, .int v2), (3, .int v3), (4, .int v4), (6, .int v8), (7, .int r4), (8, .int v8), (9, .int r4)]) dX11_aim_116 (by decide) rfl <|
    aw_drop [0, 1, 2, 3, 4, 5, 6, 7] (aX11_aim_j118 C v1 v2 v3 v4 v8 r4 v8 (X11_aim_l82 v1 v2 v3 v4 n) ih h5)) (fun _ =>
    aw_goto (pc := 107) C (tgt := 118) dX11_aim_107 rfl <|
    aw_drop [0, 1, 2, 3, 4, 5, 6, 7] (aX11_aim_j118 C v1 v2 v3 v4 v6 v7 v8 (X11_aim_l82 v1 v2 v3 v4 n) ih h5)))
def X11_aim_j59  (v1 : Int32) (v2 : Int32) (v3 : Int32) (v4 : Int32) (s0 : Int32) (h : AH) : Option (Int32 × AH) :=
    if s0 = 0 then (vl (-1) fun x3 =>
    X11_aim_l82 v1 v2 v3 v4 FU 0 x3 0 h)
    else (bd (X11_no s0 h) fun r7 h8 =>
    some (r7, h8))
set_option maxRecDepth 100000 in
theorem aX11_aim_j59 {X : MCx} {yd : Dyn} {A : Nat → Prop} (C : OK X cX11_aim RX11 10 (some .int) rmX11_aim A)  (v1 : Int32) (v2 : Int32) (v3 : Int32) (v4 : Int32) (s0 : Int32) (h : AH) : AW X 10 ZR yd A 0 0 (QF X rmX11_aim ZR yd rvI A) 59 [(0, .ref 0), (1, .int v1), (2, .int v2), (3, .int v3), (4, .int v4)] [.int s0] h (X11_aim_j59 v1 v2 v3 v4 s0 h) := by
    exact aw_istore (pc := 59) C (i := 5) (lv' := [(0, .ref 0), (1, .int v1), (2, .int v2), (3, .int v3), (4, .int v4), (5, .int s0)]) dX11_aim_59 (by decide) rfl <|
    aw_iload (pc := 61) C (i := 5) dX11_aim_61 rfl <|
    aw_if_eq (pc := 63) C (tgt := 73) dX11_aim_63 rfl (fun _ =>
    aw_iconst (pc := 73) C (v := 0) dX11_aim_73 rfl <|
    aw_istore (pc := 74) C (i := 6) (lv' := [(0, .ref 0), (1, .int v1), (2, .int v2), (3, .int v3), (4, .int v4), (5, .int s0), (6, .int 0)]) dX11_aim_74 (by decide) rfl <|
    aw_iconst (pc := 76) C (v := (-1)) dX11_aim_76 rfl <|
    aw_istoreV (pc := 77) C (i := 7) (fun x3 => [(0, .ref 0), (1, .int v1), (2, .int v2), (3, .int v3), (4, .int v4), (5, .int s0), (6, .int 0), (7, .int x3)]) dX11_aim_77 (by decide) (fun _ => rfl) fun x3 =>
    aw_iconst (pc := 79) C (v := 0) dX11_aim_79 rfl <|
    aw_istore (pc := 80) C (i := 8) (lv' := [(0, .ref 0), (1, .int v1), (2, .int v2), (3, .int v3), (4, .int v4), (5, .int s0), (6, .int 0), (7, .int x3), (8, .int 0)]) dX11_aim_80 (by decide) rfl <|
    aw_drop [0, 1, 2, 3, 4, 6, 7, 8] (aX11_aim_l82 C v1 v2 v3 v4 FU 0 x3 0 h)) (fun _ =>
    aw_aload_n (pc := 66) C (i := 0) dX11_aim_66 rfl rfl <|
    aw_iload (pc := 67) C (i := 5) dX11_aim_67 rfl <|
    aw_callF (pc := 69) C (cr_V (rest := []) (F := (X11_no s0)) C (c_X11_no X.2.1 s0) dX11_aim_69 mf_X11_no ml_X11_115 im_X11_no se_X11_no sR_0 rfl ⟨(Nat.le_of_ble_eq_true rfl), (Nat.le_of_ble_eq_true rfl)⟩ rfl rfl (Nat.le_of_ble_eq_true rfl)) rfl rfl rfl (Nat.zero_le _) (Nat.zero_le _) fun r7 h8 =>
    aw_iret (pc := 72) C dX11_aim_72 rfl rfl)
def X11_aim_j21  (v1 : Int32) (v2 : Int32) (v3 : Int32) (v4 : Int32) (h : AH) : Option (Int32 × AH) :=
    X11_aim_j59 v1 v2 v3 v4 (-4) h
set_option maxRecDepth 100000 in
theorem aX11_aim_j21 {X : MCx} {yd : Dyn} {A : Nat → Prop} (C : OK X cX11_aim RX11 10 (some .int) rmX11_aim A)  (v1 : Int32) (v2 : Int32) (v3 : Int32) (v4 : Int32) (h : AH) : AW X 10 ZR yd A 0 0 (QF X rmX11_aim ZR yd rvI A) 21 [(0, .ref 0), (1, .int v1), (2, .int v2), (3, .int v3), (4, .int v4)] [] h (X11_aim_j21 v1 v2 v3 v4 h) := by
    exact aw_bipush (pc := 21) C (v := (-4)) dX11_aim_21 rfl <|
    aw_goto (pc := 23) C (tgt := 59) dX11_aim_23 rfl <|
    (aX11_aim_j59 C v1 v2 v3 v4 (-4) h)
def X11_aim_j38  (v1 : Int32) (v2 : Int32) (v3 : Int32) (v4 : Int32) (h : AH) : Option (Int32 × AH) :=
    X11_aim_j59 v1 v2 v3 v4 (-6) h
set_option maxRecDepth 100000 in
theorem aX11_aim_j38 {X : MCx} {yd : Dyn} {A : Nat → Prop} (C : OK X cX11_aim RX11 10 (some .int) rmX11_aim A)  (v1 : Int32) (v2 : Int32) (v3 : Int32) (v4 : Int32) (h : AH) : AW X 10 ZR yd A 0 0 (QF X rmX11_aim ZR yd rvI A) 38 [(0, .ref 0), (1, .int v1), (2, .int v2), (3, .int v3), (4, .int v4)] [] h (X11_aim_j38 v1 v2 v3 v4 h) := by
    exact aw_bipush (pc := 38) C (v := (-6)) dX11_aim_38 rfl <|
    aw_goto (pc := 40) C (tgt := 59) dX11_aim_40 rfl <|
    (aX11_aim_j59 C v1 v2 v3 v4 (-6) h)
def X11_aim (v1 : Int32) (v2 : Int32) (v3 : Int32) (v4 : Int32) (h : AH) : Option (Int32 × AH) :=
    bd (X11_isJumper v1 h) fun r1 h2 =>
    if r1 = 0 then (X11_aim_j59 v1 v2 v3 v4 (-1) h2)
    else (if v2 < 1 then (X11_aim_j21 v1 v2 v3 v4 h2)
    else (if 0 ≤ v3 then (if 3 < v2 then (X11_aim_j38 v1 v2 v3 v4 h2)
    else (if v3 ≤ 999 then (bd (X11_isIn v4 0 1 h2) fun r9 h10 =>
    if r9 = 0 then (X11_aim_j59 v1 v2 v3 v4 (-2) h10)
    else (X11_aim_j59 v1 v2 v3 v4 0 h10))
    else (X11_aim_j38 v1 v2 v3 v4 h2)))
    else (X11_aim_j21 v1 v2 v3 v4 h2)))
set_option maxRecDepth 100000 in
theorem c_X11_aim (l : Launch) (v1 : Int32) (v2 : Int32) (v3 : Int32) (v4 : Int32) : MC l yX11_aim cX11_aim 10 (some .int) rmX11_aim ZR [.ref 0, .int v1, .int v2, .int v3, .int v4] rvI (X11_aim v1 v2 v3 v4) :=
  MC.of (own := RX11) (by decide +kernel) rfl (Nat.le_of_ble_eq_true rfl) fun X yd A h _ C =>
    aw_aload_n (pc := 0) C (i := 0) dX11_aim_0 rfl rfl <|
    aw_iload_n (pc := 1) C (i := 1) dX11_aim_1 rfl rfl <|
    aw_callF (pc := 2) C (cr_V (rest := []) (F := (X11_isJumper v1)) C (c_X11_isJumper X.2.1 v1) dX11_aim_2 mf_X11_isJumper ml_X11_207 im_X11_isJumper se_X11_isJumper sR_0 rfl ⟨(Nat.le_of_ble_eq_true rfl), (Nat.le_of_ble_eq_true rfl)⟩ rfl rfl (Nat.le_of_ble_eq_true rfl)) rfl rfl rfl (Nat.zero_le _) (Nat.zero_le _) fun r1 h2 =>
    aw_if_ne (pc := 5) C (tgt := 12) dX11_aim_5 rfl (fun _ =>
    aw_iconst (pc := 8) C (v := (-1)) dX11_aim_8 rfl <|
    aw_goto (pc := 9) C (tgt := 59) dX11_aim_9 rfl <|
    (aX11_aim_j59 C v1 v2 v3 v4 (-1) h2)) (fun _ =>
    aw_iload_n (pc := 12) C (i := 2) dX11_aim_12 rfl rfl <|
    aw_iconst (pc := 13) C (v := 1) dX11_aim_13 rfl <|
    aw_icmp_lt (pc := 14) C (tgt := 21) dX11_aim_14 rfl (fun _ =>
    (aX11_aim_j21 C v1 v2 v3 v4 h2)) (fun _ =>
    aw_iload_n (pc := 17) C (i := 3) dX11_aim_17 rfl rfl <|
    aw_if_ge (pc := 18) C (tgt := 26) dX11_aim_18 rfl (fun _ =>
    aw_iload_n (pc := 26) C (i := 2) dX11_aim_26 rfl rfl <|
    aw_iconst (pc := 27) C (v := 3) dX11_aim_27 rfl <|
    aw_icmp_gt (pc := 28) C (tgt := 38) dX11_aim_28 rfl (fun _ =>
    (aX11_aim_j38 C v1 v2 v3 v4 h2)) (fun _ =>
    aw_iload_n (pc := 31) C (i := 3) dX11_aim_31 rfl rfl <|
    aw_sipush (pc := 32) C (v := 999) dX11_aim_32 rfl <|
    aw_icmp_le (pc := 35) C (tgt := 43) dX11_aim_35 rfl (fun _ =>
    aw_iload (pc := 43) C (i := 4) dX11_aim_43 rfl <|
    aw_iconst (pc := 45) C (v := 0) dX11_aim_45 rfl <|
    aw_iconst (pc := 46) C (v := 1) dX11_aim_46 rfl <|
    aw_callF (pc := 47) C (cr_S (rest := []) (F := (X11_isIn v4 0 1)) C (c_X11_isIn X.2.1 v4 0 1) dX11_aim_47 mf_X11_isIn ml_X11_126 st_X11_isIn ⟨(Nat.le_of_ble_eq_true rfl), (Nat.le_of_ble_eq_true rfl)⟩ rfl rfl (Nat.le_of_ble_eq_true rfl)) rfl rfl rfl (Nat.zero_le _) (Nat.zero_le _) fun r9 h10 =>
    aw_if_ne (pc := 50) C (tgt := 58) dX11_aim_50 rfl (fun _ =>
    aw_bipush (pc := 53) C (v := (-2)) dX11_aim_53 rfl <|
    aw_goto (pc := 55) C (tgt := 59) dX11_aim_55 rfl <|
    (aX11_aim_j59 C v1 v2 v3 v4 (-2) h10)) (fun _ =>
    aw_iconst (pc := 58) C (v := 0) dX11_aim_58 rfl <|
    (aX11_aim_j59 C v1 v2 v3 v4 0 h10))) (fun _ =>
    (aX11_aim_j38 C v1 v2 v3 v4 h2)))) (fun _ =>
    (aX11_aim_j21 C v1 v2 v3 v4 h2))))

abbrev rmX11_tooLong : Room := { frames := 1, cells := 0, slots := 0, locals := 21 }
def X11_tooLong_l18  : Nat → Int32 → Int32 → AH → Option (Int32 × AH)
  | 0, _, _, _ => none
  | n + 1, v1, v2, h =>
    if (h.1 0 34) ≤ v2 then (if v1 ≤ 0 then (if 0 ≤ v1 then (some (0, h))
    else (some (2, h)))
    else (some (1, h)))
    else (ck v2 12 (vl (v1 + ((h.1 23 v2.toNatClampNeg) - 50)) fun x1 =>
    vl (v2 + 1) fun x2 =>
    (X11_tooLong_l18 n) x1 x2 h))
set_option maxRecDepth 100000 in
theorem aX11_tooLong_l18 {X : MCx} {yd : Dyn} {A : Nat → Prop} (C : OK X cX11_tooLong RX11 3 (some .int) rmX11_tooLong A)  : ∀ (n : Nat) (v1 : Int32) (v2 : Int32) (h : AH), AW X 3 ZR yd A 0 0 (QF X rmX11_tooLong ZR yd rvI A) 18 [(0, .ref 0), (1, .int v1), (2, .int v2)] [] h (X11_tooLong_l18 n v1 v2 h) := by
  intro n
  induction n with
  | zero => intro v1 v2 h; exact aw_none
  | succ n ih =>
    intro v1 v2 h
    exact aw_iload_n (pc := 18) C (i := 2) dX11_tooLong_18 rfl rfl <|
    aw_aload_n (pc := 19) C (i := 0) dX11_tooLong_19 rfl rfl <|
    aw_getI (pc := 20) C dX11_tooLong_20 fl_X11_295 sR_0 rfl <|
    aw_icmp_ge (pc := 23) C (tgt := 44) dX11_tooLong_23 rfl (fun _ =>
    aw_iload_n (pc := 44) C (i := 1) dX11_tooLong_44 rfl rfl <|
    aw_if_le (pc := 45) C (tgt := 52) dX11_tooLong_45 rfl (fun _ =>
    aw_iload_n (pc := 52) C (i := 1) dX11_tooLong_52 rfl rfl <|
    aw_if_ge (pc := 53) C (tgt := 60) dX11_tooLong_53 rfl (fun _ =>
    aw_iconst (pc := 60) C (v := 0) dX11_tooLong_60 rfl <|
    aw_iret (pc := 61) C dX11_tooLong_61 rfl rfl) (fun _ =>
    aw_iconst (pc := 56) C (v := 2) dX11_tooLong_56 rfl <|
    aw_goto (pc := 57) C (tgt := 61) dX11_tooLong_57 rfl <|
    aw_iret (pc := 61) C dX11_tooLong_61 rfl rfl)) (fun _ =>
    aw_iconst (pc := 48) C (v := 1) dX11_tooLong_48 rfl <|
    aw_goto (pc := 49) C (tgt := 61) dX11_tooLong_49 rfl <|
    aw_iret (pc := 61) C dX11_tooLong_61 rfl rfl)) (fun _ =>
    aw_iload_n (pc := 26) C (i := 1) dX11_tooLong_26 rfl rfl <|
    aw_aload_n (pc := 27) C (i := 0) dX11_tooLong_27 rfl rfl <|
    aw_getR (pc := 28) C (b := 23) dX11_tooLong_28 fl_X11_77 sR_0 rfl rR_0_33 <|
    aw_iload_n (pc := 31) C (i := 2) dX11_tooLong_31 rfl rfl <|
    aw_iald (pc := 32) C dX11_tooLong_32 sR_23 rfl <|
    aw_bipush (pc := 33) C (v := 50) dX11_tooLong_33 rfl <|
    aw_isub (pc := 35) C dX11_tooLong_35 <|
    aw_iadd (pc := 36) C dX11_tooLong_36 <|
    aw_istoreV_n (pc := 37) C (i := 1) (fun x1 => [(0, .ref 0), (1, .int x1), (2, .int v2)]) dX11_tooLong_37 rfl (by decide) (fun _ => rfl) fun x1 =>
    aw_iincV (pc := 38) C (i := 2) (cst := 1) (fun x2 => [(0, .ref 0), (1, .int x1), (2, .int x2)]) dX11_tooLong_38 rfl rfl (by decide) (fun _ => rfl) fun x2 =>
    aw_goto (pc := 41) C (tgt := 18) dX11_tooLong_41 rfl <|
    (ih x1 x2 h))
def X11_tooLong  (h : AH) : Option (Int32 × AH) :=
    if (h.1 0 34) = 0 then (bd (X11_no (-3) h) fun r3 h4 =>
    some (r3, h4))
    else (X11_tooLong_l18 FU 0 0 h)
set_option maxRecDepth 100000 in
theorem c_X11_tooLong (l : Launch)  : MC l yX11_tooLong cX11_tooLong 3 (some .int) rmX11_tooLong ZR [.ref 0] rvI (X11_tooLong) :=
  MC.of (own := RX11) (by decide +kernel) rfl (Nat.le_of_ble_eq_true rfl) fun X yd A h _ C =>
    aw_aload_n (pc := 0) C (i := 0) dX11_tooLong_0 rfl rfl <|
    aw_getI (pc := 1) C dX11_tooLong_1 fl_X11_295 sR_0 rfl <|
    aw_if_ne (pc := 4) C (tgt := 14) dX11_tooLong_4 rfl (fun _ =>
    aw_aload_n (pc := 7) C (i := 0) dX11_tooLong_7 rfl rfl <|
    aw_bipush (pc := 8) C (v := (-3)) dX11_tooLong_8 rfl <|
    aw_callF (pc := 10) C (cr_V (rest := []) (F := (X11_no (-3))) C (c_X11_no X.2.1 (-3)) dX11_tooLong_10 mf_X11_no ml_X11_115 im_X11_no se_X11_no sR_0 rfl ⟨(Nat.le_of_ble_eq_true rfl), (Nat.le_of_ble_eq_true rfl)⟩ rfl rfl (Nat.le_of_ble_eq_true rfl)) rfl rfl rfl (Nat.zero_le _) (Nat.zero_le _) fun r3 h4 =>
    aw_iret (pc := 13) C dX11_tooLong_13 rfl rfl) (fun _ =>
    aw_iconst (pc := 14) C (v := 0) dX11_tooLong_14 rfl <|
    aw_istore_n (pc := 15) C (i := 1) (lv' := [(0, .ref 0), (1, .int 0)]) dX11_tooLong_15 rfl (by decide) rfl <|
    aw_iconst (pc := 16) C (v := 0) dX11_tooLong_16 rfl <|
    aw_istore_n (pc := 17) C (i := 2) (lv' := [(0, .ref 0), (1, .int 0), (2, .int 0)]) dX11_tooLong_17 rfl (by decide) rfl <|
    (aX11_tooLong_l18 C FU 0 0 h))

abbrev rmX11_unlike : Room := { frames := 1, cells := 0, slots := 0, locals := 21 }
def X11_unlike_j70  (v1 : Int32) (v3 : Int32) (K21 : Int32 → Int32 → Int32 → AH → Option (Int32 × AH)) (s0 : Int32) (h : AH) : Option (Int32 × AH) :=
    vl (v3 + 1) fun x1 =>
    K21 v1 s0 x1 h
set_option maxRecDepth 100000 in
theorem aX11_unlike_j70 {X : MCx} {yd : Dyn} {A : Nat → Prop} (C : OK X cX11_unlike RX11 4 (some .int) rmX11_unlike A)  (v1 : Int32) (v3 : Int32) (K21 : Int32 → Int32 → Int32 → AH → Option (Int32 × AH)) (hK21 : ∀ (w1 : Int32) (w2 : Int32) (w3 : Int32) (h : AH), AW X 4 ZR yd A 0 0 (QF X rmX11_unlike ZR yd rvI A) 21 [(0, .ref 0), (1, .int w1), (2, .int w2), (3, .int w3)] [] h (K21 w1 w2 w3 h)) (s0 : Int32) (h : AH) : AW X 4 ZR yd A 0 0 (QF X rmX11_unlike ZR yd rvI A) 70 [(0, .ref 0), (1, .int v1), (3, .int v3)] [.int s0] h (X11_unlike_j70 v1 v3 K21 s0 h) := by
    exact aw_istore_n (pc := 70) C (i := 2) (lv' := [(0, .ref 0), (1, .int v1), (2, .int s0), (3, .int v3)]) dX11_unlike_70 rfl (by decide) rfl <|
    aw_iincV (pc := 71) C (i := 3) (cst := 1) (fun x1 => [(0, .ref 0), (1, .int v1), (2, .int s0), (3, .int x1)]) dX11_unlike_71 rfl rfl (by decide) (fun _ => rfl) fun x1 =>
    aw_goto (pc := 74) C (tgt := 21) dX11_unlike_74 rfl <|
    (hK21 v1 s0 x1 h)
def X11_unlike_j49  (v2 : Int32) (v3 : Int32) (K21 : Int32 → Int32 → Int32 → AH → Option (Int32 × AH)) (s0 : Int32) (h : AH) : Option (Int32 × AH) :=
    ck v3 12 (if (h.1 23 v3.toNatClampNeg) ≤ v2 then (X11_unlike_j70 s0 v3 K21 v2 h)
    else (ck v3 12 (X11_unlike_j70 s0 v3 K21 (h.1 23 v3.toNatClampNeg) h)))
set_option maxRecDepth 100000 in
theorem aX11_unlike_j49 {X : MCx} {yd : Dyn} {A : Nat → Prop} (C : OK X cX11_unlike RX11 4 (some .int) rmX11_unlike A)  (v2 : Int32) (v3 : Int32) (K21 : Int32 → Int32 → Int32 → AH → Option (Int32 × AH)) (hK21 : ∀ (w1 : Int32) (w2 : Int32) (w3 : Int32) (h : AH), AW X 4 ZR yd A 0 0 (QF X rmX11_unlike ZR yd rvI A) 21 [(0, .ref 0), (1, .int w1), (2, .int w2), (3, .int w3)] [] h (K21 w1 w2 w3 h)) (s0 : Int32) (h : AH) : AW X 4 ZR yd A 0 0 (QF X rmX11_unlike ZR yd rvI A) 49 [(0, .ref 0), (2, .int v2), (3, .int v3)] [.int s0] h (X11_unlike_j49 v2 v3 K21 s0 h) := by
    exact aw_istore_n (pc := 49) C (i := 1) (lv' := [(0, .ref 0), (1, .int s0), (2, .int v2), (3, .int v3)]) dX11_unlike_49 rfl (by decide) rfl <|
    aw_aload_n (pc := 50) C (i := 0) dX11_unlike_50 rfl rfl <|
    aw_getR (pc := 51) C (b := 23) dX11_unlike_51 fl_X11_77 sR_0 rfl rR_0_33 <|
    aw_iload_n (pc := 54) C (i := 3) dX11_unlike_54 rfl rfl <|
    aw_iald (pc := 55) C dX11_unlike_55 sR_23 rfl <|
    aw_iload_n (pc := 56) C (i := 2) dX11_unlike_56 rfl rfl <|
    aw_icmp_le (pc := 57) C (tgt := 69) dX11_unlike_57 rfl (fun _ =>
    aw_iload_n (pc := 69) C (i := 2) dX11_unlike_69 rfl rfl <|
    aw_drop [0, 1, 3] (aX11_unlike_j70 C s0 v3 K21 hK21 v2 h)) (fun _ =>
    aw_aload_n (pc := 60) C (i := 0) dX11_unlike_60 rfl rfl <|
    aw_getR (pc := 61) C (b := 23) dX11_unlike_61 fl_X11_77 sR_0 rfl rR_0_33 <|
    aw_iload_n (pc := 64) C (i := 3) dX11_unlike_64 rfl rfl <|
    aw_iald (pc := 65) C dX11_unlike_65 sR_23 rfl <|
    aw_goto (pc := 66) C (tgt := 70) dX11_unlike_66 rfl <|
    aw_drop [0, 1, 3] (aX11_unlike_j70 C s0 v3 K21 hK21 (h.1 23 v3.toNatClampNeg) h))
def X11_unlike_l21  : Nat → Int32 → Int32 → Int32 → AH → Option (Int32 × AH)
  | 0, _, _, _, _ => none
  | n + 1, v1, v2, v3, h =>
    if (h.1 0 34) ≤ v3 then (some ((v2 - v1), h))
    else (ck v3 12 (if v1 ≤ (h.1 23 v3.toNatClampNeg) then (X11_unlike_j49 v2 v3 (X11_unlike_l21 n) v1 h)
    else (ck v3 12 (X11_unlike_j49 v2 v3 (X11_unlike_l21 n) (h.1 23 v3.toNatClampNeg) h))))
set_option maxRecDepth 100000 in
theorem aX11_unlike_l21 {X : MCx} {yd : Dyn} {A : Nat → Prop} (C : OK X cX11_unlike RX11 4 (some .int) rmX11_unlike A)  : ∀ (n : Nat) (v1 : Int32) (v2 : Int32) (v3 : Int32) (h : AH), AW X 4 ZR yd A 0 0 (QF X rmX11_unlike ZR yd rvI A) 21 [(0, .ref 0), (1, .int v1), (2, .int v2), (3, .int v3)] [] h (X11_unlike_l21 n v1 v2 v3 h) := by
  intro n
  induction n with
  | zero => intro v1 v2 v3 h; exact aw_none
  | succ n ih =>
    intro v1 v2 v3 h
    exact aw_iload_n (pc := 21) C (i := 3) dX11_unlike_21 rfl rfl <|
    aw_aload_n (pc := 22) C (i := 0) dX11_unlike_22 rfl rfl <|
    aw_getI (pc := 23) C dX11_unlike_23 fl_X11_295 sR_0 rfl <|
    aw_icmp_ge (pc := 26) C (tgt := 77) dX11_unlike_26 rfl (fun _ =>
    aw_iload_n (pc := 77) C (i := 2) dX11_unlike_77 rfl rfl <|
    aw_iload_n (pc := 78) C (i := 1) dX11_unlike_78 rfl rfl <|
    aw_isub (pc := 79) C dX11_unlike_79 <|
    aw_iret (pc := 80) C dX11_unlike_80 rfl rfl) (fun _ =>
    aw_aload_n (pc := 29) C (i := 0) dX11_unlike_29 rfl rfl <|
    aw_getR (pc := 30) C (b := 23) dX11_unlike_30 fl_X11_77 sR_0 rfl rR_0_33 <|
    aw_iload_n (pc := 33) C (i := 3) dX11_unlike_33 rfl rfl <|
    aw_iald (pc := 34) C dX11_unlike_34 sR_23 rfl <|
    aw_iload_n (pc := 35) C (i := 1) dX11_unlike_35 rfl rfl <|
    aw_icmp_ge (pc := 36) C (tgt := 48) dX11_unlike_36 rfl (fun _ =>
    aw_iload_n (pc := 48) C (i := 1) dX11_unlike_48 rfl rfl <|
    aw_drop [0, 2, 3] (aX11_unlike_j49 C v2 v3 (X11_unlike_l21 n) ih v1 h)) (fun _ =>
    aw_aload_n (pc := 39) C (i := 0) dX11_unlike_39 rfl rfl <|
    aw_getR (pc := 40) C (b := 23) dX11_unlike_40 fl_X11_77 sR_0 rfl rR_0_33 <|
    aw_iload_n (pc := 43) C (i := 3) dX11_unlike_43 rfl rfl <|
    aw_iald (pc := 44) C dX11_unlike_44 sR_23 rfl <|
    aw_goto (pc := 45) C (tgt := 49) dX11_unlike_45 rfl <|
    aw_drop [0, 2, 3] (aX11_unlike_j49 C v2 v3 (X11_unlike_l21 n) ih (h.1 23 v3.toNatClampNeg) h)))
def X11_unlike  (h : AH) : Option (Int32 × AH) :=
    if (h.1 0 34) = 0 then (bd (X11_no (-3) h) fun r2 h3 =>
    some (r2, h3))
    else (X11_unlike_l21 FU 99 0 0 h)
set_option maxRecDepth 100000 in
theorem c_X11_unlike (l : Launch)  : MC l yX11_unlike cX11_unlike 4 (some .int) rmX11_unlike ZR [.ref 0] rvI (X11_unlike) :=
  MC.of (own := RX11) (by decide +kernel) rfl (Nat.le_of_ble_eq_true rfl) fun X yd A h _ C =>
    aw_aload_n (pc := 0) C (i := 0) dX11_unlike_0 rfl rfl <|
    aw_getI (pc := 1) C dX11_unlike_1 fl_X11_295 sR_0 rfl <|
    aw_if_ne (pc := 4) C (tgt := 14) dX11_unlike_4 rfl (fun _ =>
    aw_aload_n (pc := 7) C (i := 0) dX11_unlike_7 rfl rfl <|
    aw_bipush (pc := 8) C (v := (-3)) dX11_unlike_8 rfl <|
    aw_callF (pc := 10) C (cr_V (rest := []) (F := (X11_no (-3))) C (c_X11_no X.2.1 (-3)) dX11_unlike_10 mf_X11_no ml_X11_115 im_X11_no se_X11_no sR_0 rfl ⟨(Nat.le_of_ble_eq_true rfl), (Nat.le_of_ble_eq_true rfl)⟩ rfl rfl (Nat.le_of_ble_eq_true rfl)) rfl rfl rfl (Nat.zero_le _) (Nat.zero_le _) fun r2 h3 =>
    aw_iret (pc := 13) C dX11_unlike_13 rfl rfl) (fun _ =>
    aw_bipush (pc := 14) C (v := 99) dX11_unlike_14 rfl <|
    aw_istore_n (pc := 16) C (i := 1) (lv' := [(0, .ref 0), (1, .int 99)]) dX11_unlike_16 rfl (by decide) rfl <|
    aw_iconst (pc := 17) C (v := 0) dX11_unlike_17 rfl <|
    aw_istore_n (pc := 18) C (i := 2) (lv' := [(0, .ref 0), (1, .int 99), (2, .int 0)]) dX11_unlike_18 rfl (by decide) rfl <|
    aw_iconst (pc := 19) C (v := 0) dX11_unlike_19 rfl <|
    aw_istore_n (pc := 20) C (i := 3) (lv' := [(0, .ref 0), (1, .int 99), (2, .int 0), (3, .int 0)]) dX11_unlike_20 rfl (by decide) rfl <|
    (aX11_unlike_l21 C FU 99 0 0 h))

abbrev rmX11_isMovedFrom : Room := { frames := 0, cells := 0, slots := 0, locals := 0 }
def X11_isMovedFrom_l13  (v1 : Int32) (v2 : Int32) (v3 : Int32) (K2 : Int32 → AH → Option (Int32 × AH)) : Nat → Int32 → AH → Option (Int32 × AH)
  | 0, _, _ => none
  | n + 1, v4, h =>
    if v1 ≤ v4 then (vl (v3 + 1) fun x1 =>
    K2 x1 h)
    else (ck v3 12 (ck v4 12 (if (h.1 23 v3.toNatClampNeg) ≤ ((h.1 23 v4.toNatClampNeg) - v2) then (vl (v4 + 1) fun x2 =>
    (X11_isMovedFrom_l13 v1 v2 v3 K2 n) x2 h)
    else (cz 0 (some (0, h))))))
set_option maxRecDepth 100000 in
theorem aX11_isMovedFrom_l13 {X : MCx} {yd : Dyn} {A : Nat → Prop} (C : OK X cX11_isMovedFrom RX11 5 (some .boolean) rmX11_isMovedFrom A)  (v1 : Int32) (v2 : Int32) (v3 : Int32) (K2 : Int32 → AH → Option (Int32 × AH)) (hK2 : ∀ (w3 : Int32) (h : AH), AW X 5 ZR yd A 0 0 (QF X rmX11_isMovedFrom ZR yd rvI A) 2 [(0, .ref 0), (1, .int v1), (2, .int v2), (3, .int w3)] [] h (K2 w3 h)) : ∀ (n : Nat) (v4 : Int32) (h : AH), AW X 5 ZR yd A 0 0 (QF X rmX11_isMovedFrom ZR yd rvI A) 13 [(0, .ref 0), (1, .int v1), (2, .int v2), (3, .int v3), (4, .int v4)] [] h (X11_isMovedFrom_l13 v1 v2 v3 K2 n v4 h) := by
  intro n
  induction n with
  | zero => intro v4 h; exact aw_none
  | succ n ih =>
    intro v4 h
    exact aw_iload (pc := 13) C (i := 4) dX11_isMovedFrom_13 rfl <|
    aw_iload_n (pc := 15) C (i := 1) dX11_isMovedFrom_15 rfl rfl <|
    aw_icmp_ge (pc := 16) C (tgt := 45) dX11_isMovedFrom_16 rfl (fun _ =>
    aw_iincV (pc := 45) C (i := 3) (cst := 1) (fun x1 => [(0, .ref 0), (1, .int v1), (2, .int v2), (3, .int x1), (4, .int v4)]) dX11_isMovedFrom_45 rfl rfl (by decide) (fun _ => rfl) fun x1 =>
    aw_goto (pc := 48) C (tgt := 2) dX11_isMovedFrom_48 rfl <|
    aw_drop [0, 1, 2, 3] (hK2 x1 h)) (fun _ =>
    aw_aload_n (pc := 19) C (i := 0) dX11_isMovedFrom_19 rfl rfl <|
    aw_getR (pc := 20) C (b := 23) dX11_isMovedFrom_20 fl_X11_77 sR_0 rfl rR_0_33 <|
    aw_iload_n (pc := 23) C (i := 3) dX11_isMovedFrom_23 rfl rfl <|
    aw_iald (pc := 24) C dX11_isMovedFrom_24 sR_23 rfl <|
    aw_aload_n (pc := 25) C (i := 0) dX11_isMovedFrom_25 rfl rfl <|
    aw_getR (pc := 26) C (b := 23) dX11_isMovedFrom_26 fl_X11_77 sR_0 rfl rR_0_33 <|
    aw_iload (pc := 29) C (i := 4) dX11_isMovedFrom_29 rfl <|
    aw_iald (pc := 31) C dX11_isMovedFrom_31 sR_23 rfl <|
    aw_iload_n (pc := 32) C (i := 2) dX11_isMovedFrom_32 rfl rfl <|
    aw_isub (pc := 33) C dX11_isMovedFrom_33 <|
    aw_icmp_le (pc := 34) C (tgt := 39) dX11_isMovedFrom_34 rfl (fun _ =>
    aw_iincV (pc := 39) C (i := 4) (cst := 1) (fun x2 => [(0, .ref 0), (1, .int v1), (2, .int v2), (3, .int v3), (4, .int x2)]) dX11_isMovedFrom_39 rfl rfl (by decide) (fun _ => rfl) fun x2 =>
    aw_goto (pc := 42) C (tgt := 13) dX11_isMovedFrom_42 rfl <|
    (ih x2 h)) (fun _ =>
    aw_iconst (pc := 37) C (v := 0) dX11_isMovedFrom_37 rfl <|
    aw_zret (pc := 38) C dX11_isMovedFrom_38 rfl rfl))
def X11_isMovedFrom_l2  (v1 : Int32) (v2 : Int32) : Nat → Int32 → AH → Option (Int32 × AH)
  | 0, _, _ => none
  | n + 1, v3, h =>
    if (h.1 0 34) ≤ v3 then (cz 1 (some (1, h)))
    else (X11_isMovedFrom_l13 v1 v2 v3 (X11_isMovedFrom_l2 v1 v2 n) FU 0 h)
set_option maxRecDepth 100000 in
theorem aX11_isMovedFrom_l2 {X : MCx} {yd : Dyn} {A : Nat → Prop} (C : OK X cX11_isMovedFrom RX11 5 (some .boolean) rmX11_isMovedFrom A)  (v1 : Int32) (v2 : Int32) : ∀ (n : Nat) (v3 : Int32) (h : AH), AW X 5 ZR yd A 0 0 (QF X rmX11_isMovedFrom ZR yd rvI A) 2 [(0, .ref 0), (1, .int v1), (2, .int v2), (3, .int v3)] [] h (X11_isMovedFrom_l2 v1 v2 n v3 h) := by
  intro n
  induction n with
  | zero => intro v3 h; exact aw_none
  | succ n ih =>
    intro v3 h
    exact aw_iload_n (pc := 2) C (i := 3) dX11_isMovedFrom_2 rfl rfl <|
    aw_aload_n (pc := 3) C (i := 0) dX11_isMovedFrom_3 rfl rfl <|
    aw_getI (pc := 4) C dX11_isMovedFrom_4 fl_X11_295 sR_0 rfl <|
    aw_icmp_ge (pc := 7) C (tgt := 51) dX11_isMovedFrom_7 rfl (fun _ =>
    aw_iconst (pc := 51) C (v := 1) dX11_isMovedFrom_51 rfl <|
    aw_zret (pc := 52) C dX11_isMovedFrom_52 rfl rfl) (fun _ =>
    aw_iconst (pc := 10) C (v := 0) dX11_isMovedFrom_10 rfl <|
    aw_istore (pc := 11) C (i := 4) (lv' := [(0, .ref 0), (1, .int v1), (2, .int v2), (3, .int v3), (4, .int 0)]) dX11_isMovedFrom_11 (by decide) rfl <|
    (aX11_isMovedFrom_l13 C v1 v2 v3 (X11_isMovedFrom_l2 v1 v2 n) ih FU 0 h))
def X11_isMovedFrom (v1 : Int32) (v2 : Int32) (h : AH) : Option (Int32 × AH) :=
    X11_isMovedFrom_l2 v1 v2 FU v1 h
set_option maxRecDepth 100000 in
theorem c_X11_isMovedFrom (l : Launch) (v1 : Int32) (v2 : Int32) : MC l yX11_isMovedFrom cX11_isMovedFrom 5 (some .boolean) rmX11_isMovedFrom ZR [.ref 0, .int v1, .int v2] rvI (X11_isMovedFrom v1 v2) :=
  MC.of (own := RX11) (by decide +kernel) rfl (Nat.le_of_ble_eq_true rfl) fun X yd A h _ C =>
    aw_iload_n (pc := 0) C (i := 1) dX11_isMovedFrom_0 rfl rfl <|
    aw_istore_n (pc := 1) C (i := 3) (lv' := [(0, .ref 0), (1, .int v1), (2, .int v2), (3, .int v1)]) dX11_isMovedFrom_1 rfl (by decide) rfl <|
    (aX11_isMovedFrom_l2 C v1 v2 FU v1 h)

abbrev rmX11_moved : Room := { frames := 1, cells := 0, slots := 0, locals := 24 }
def X11_moved_l20  (v1 : Int32) : Nat → Int32 → AH → Option (Int32 × AH)
  | 0, _, _ => none
  | n + 1, v3, h =>
    if (h.1 0 34) ≤ v3 then (some ((-9), h))
    else (bd (X11_isMovedFrom v3 v1 h) fun r3 h4 =>
    if r3 = 0 then (vl (v3 + 1) fun x5 =>
    (X11_moved_l20 v1 n) x5 h4)
    else (some (v3, h4)))
set_option maxRecDepth 100000 in
theorem aX11_moved_l20 {X : MCx} {yd : Dyn} {A : Nat → Prop} (C : OK X cX11_moved RX11 4 (some .int) rmX11_moved A)  (v1 : Int32) : ∀ (n : Nat) (v3 : Int32) (h : AH), AW X 4 ZR yd A 0 0 (QF X rmX11_moved ZR yd rvI A) 20 [(0, .ref 0), (1, .int v1), (3, .int v3)] [] h (X11_moved_l20 v1 n v3 h) := by
  intro n
  induction n with
  | zero => intro v3 h; exact aw_none
  | succ n ih =>
    intro v3 h
    exact aw_iload_n (pc := 20) C (i := 3) dX11_moved_20 rfl rfl <|
    aw_aload_n (pc := 21) C (i := 0) dX11_moved_21 rfl rfl <|
    aw_getI (pc := 22) C dX11_moved_22 fl_X11_295 sR_0 rfl <|
    aw_icmp_ge (pc := 25) C (tgt := 45) dX11_moved_25 rfl (fun _ =>
    aw_bipush (pc := 45) C (v := (-9)) dX11_moved_45 rfl <|
    aw_iret (pc := 47) C dX11_moved_47 rfl rfl) (fun _ =>
    aw_aload_n (pc := 28) C (i := 0) dX11_moved_28 rfl rfl <|
    aw_iload_n (pc := 29) C (i := 3) dX11_moved_29 rfl rfl <|
    aw_iload_n (pc := 30) C (i := 1) dX11_moved_30 rfl rfl <|
    aw_callF (pc := 31) C (cr_V (rest := []) (F := (X11_isMovedFrom v3 v1)) C (c_X11_isMovedFrom X.2.1 v3 v1) dX11_moved_31 mf_X11_isMovedFrom ml_X11_298 im_X11_isMovedFrom se_X11_isMovedFrom sR_0 rfl ⟨(Nat.le_of_ble_eq_true rfl), (Nat.le_of_ble_eq_true rfl)⟩ rfl rfl (Nat.le_of_ble_eq_true rfl)) rfl rfl rfl (Nat.zero_le _) (Nat.zero_le _) fun r3 h4 =>
    aw_if_eq (pc := 34) C (tgt := 39) dX11_moved_34 rfl (fun _ =>
    aw_iincV (pc := 39) C (i := 3) (cst := 1) (fun x5 => [(0, .ref 0), (1, .int v1), (3, .int x5)]) dX11_moved_39 rfl rfl (by decide) (fun _ => rfl) fun x5 =>
    aw_goto (pc := 42) C (tgt := 20) dX11_moved_42 rfl <|
    (ih x5 h4)) (fun _ =>
    aw_iload_n (pc := 37) C (i := 3) dX11_moved_37 rfl rfl <|
    aw_iret (pc := 38) C dX11_moved_38 rfl rfl))
def X11_moved (v1 : Int32) (h : AH) : Option (Int32 × AH) :=
    bd (X11_bound v1 1 99 h) fun r1 h2 =>
    if r1 = 0 then (X11_moved_l20 v1 FU 1 h2)
    else (bd (X11_no r1 h2) fun r6 h7 =>
    some (r6, h7))
set_option maxRecDepth 100000 in
theorem c_X11_moved (l : Launch) (v1 : Int32) : MC l yX11_moved cX11_moved 4 (some .int) rmX11_moved ZR [.ref 0, .int v1] rvI (X11_moved v1) :=
  MC.of (own := RX11) (by decide +kernel) rfl (Nat.le_of_ble_eq_true rfl) fun X yd A h _ C =>
    aw_iload_n (pc := 0) C (i := 1) dX11_moved_0 rfl rfl <|
    aw_iconst (pc := 1) C (v := 1) dX11_moved_1 rfl <|
    aw_bipush (pc := 2) C (v := 99) dX11_moved_2 rfl <|
    aw_callF (pc := 4) C (cr_S (rest := []) (F := (X11_bound v1 1 99)) C (c_X11_bound X.2.1 v1 1 99) dX11_moved_4 mf_X11_bound ml_X11_108 st_X11_bound ⟨(Nat.le_of_ble_eq_true rfl), (Nat.le_of_ble_eq_true rfl)⟩ rfl rfl (Nat.le_of_ble_eq_true rfl)) rfl rfl rfl (Nat.zero_le _) (Nat.zero_le _) fun r1 h2 =>
    aw_istore_n (pc := 7) C (i := 2) (lv' := [(0, .ref 0), (1, .int v1), (2, .int r1)]) dX11_moved_7 rfl (by decide) rfl <|
    aw_iload_n (pc := 8) C (i := 2) dX11_moved_8 rfl rfl <|
    aw_if_eq (pc := 9) C (tgt := 18) dX11_moved_9 rfl (fun _ =>
    aw_iconst (pc := 18) C (v := 1) dX11_moved_18 rfl <|
    aw_istore_n (pc := 19) C (i := 3) (lv' := [(0, .ref 0), (1, .int v1), (2, .int r1), (3, .int 1)]) dX11_moved_19 rfl (by decide) rfl <|
    aw_drop [0, 1, 3] (aX11_moved_l20 C v1 FU 1 h2)) (fun _ =>
    aw_aload_n (pc := 12) C (i := 0) dX11_moved_12 rfl rfl <|
    aw_iload_n (pc := 13) C (i := 2) dX11_moved_13 rfl rfl <|
    aw_callF (pc := 14) C (cr_V (rest := []) (F := (X11_no r1)) C (c_X11_no X.2.1 r1) dX11_moved_14 mf_X11_no ml_X11_115 im_X11_no se_X11_no sR_0 rfl ⟨(Nat.le_of_ble_eq_true rfl), (Nat.le_of_ble_eq_true rfl)⟩ rfl rfl (Nat.le_of_ble_eq_true rfl)) rfl rfl rfl (Nat.zero_le _) (Nat.zero_le _) fun r6 h7 =>
    aw_iret (pc := 17) C dX11_moved_17 rfl rfl)

abbrev rmX11_gusts : Room := { frames := 5, cells := 0, slots := 0, locals := 123 }
def X11_gusts_j128  (v1 : Int32) (v3 : Int32) (v4 : Int32) (v5 : Int64) (v7 : Int32) (K79 : Int32 → Int64 → Int32 → AH → Option (Int32 × AH)) (h : AH) : Option (Int32 × AH) :=
    vl (v7 + 1) fun x10 =>
    K79 v4 v5 x10 h
set_option maxRecDepth 100000 in
theorem aX11_gusts_j128 {X : MCx} {yd : Dyn} {A : Nat → Prop} (C : OK X cX11_gusts RX11 10 (some .int) rmX11_gusts A)  (v1 : Int32) (v3 : Int32) (v4 : Int32) (v5 : Int64) (v7 : Int32) (K79 : Int32 → Int64 → Int32 → AH → Option (Int32 × AH)) (hK79 : ∀ (w4 : Int32) (w5 : Int64) (w7 : Int32) (h : AH), AW X 10 ZR yd A 0 0 (QF X rmX11_gusts ZR yd rvI A) 79 [(0, .ref 0), (1, .int v1), (3, .int v3), (4, .int w4), (5, .long w5), (7, .int w7)] [] h (K79 w4 w5 w7 h)) (h : AH) : AW X 10 ZR yd A 0 0 (QF X rmX11_gusts ZR yd rvI A) 128 [(0, .ref 0), (1, .int v1), (3, .int v3), (4, .int v4), (5, .long v5), (7, .int v7)] [] h (X11_gusts_j128 v1 v3 v4 v5 v7 K79 h) := by
    exact aw_iincV (pc := 128) C (i := 7) (cst := 1) (fun x10 => [(0, .ref 0), (1, .int v1), (3, .int v3), (4, .int v4), (5, .long v5), (7, .int x10)]) dX11_gusts_128 rfl rfl (by decide) (fun _ => rfl) fun x10 =>
    aw_goto (pc := 131) C (tgt := 79) dX11_gusts_131 rfl <|
    (hK79 v4 v5 x10 h)
def X11_gusts_l79  (v1 : Int32) (v3 : Int32) : Nat → Int32 → Int64 → Int32 → AH → Option (Int32 × AH)
  | 0, _, _, _, _ => none
  | n + 1, v4, v5, v7, h =>
    if (h.1 0 34) ≤ v7 then (vl (sI h 0 14 v3) fun h6 =>
    some (v4, h6))
    else (ck v7 12 (vl (sI h 0 14 ((h.1 23 v7.toNatClampNeg) - 9)) fun h7 =>
    bd (X11_meanParts v1 h7) fun r8 h9 =>
    if 0 < (lcmpV r8 v5) then (X11_gusts_j128 v1 v3 v7 r8 v7 (X11_gusts_l79 v1 v3 n) h9)
    else (X11_gusts_j128 v1 v3 v4 v5 v7 (X11_gusts_l79 v1 v3 n) h9)))
set_option maxRecDepth 100000 in
theorem aX11_gusts_l79 {X : MCx} {yd : Dyn} {A : Nat → Prop} (C : OK X cX11_gusts RX11 10 (some .int) rmX11_gusts A)  (v1 : Int32) (v3 : Int32) : ∀ (n : Nat) (v4 : Int32) (v5 : Int64) (v7 : Int32) (h : AH), AW X 10 ZR yd A 0 0 (QF X rmX11_gusts ZR yd rvI A) 79 [(0, .ref 0), (1, .int v1), (3, .int v3), (4, .int v4), (5, .long v5), (7, .int v7)] [] h (X11_gusts_l79 v1 v3 n v4 v5 v7 h) := by
  intro n
  induction n with
  | zero => intro v4 v5 v7 h; exact aw_none
  | succ n ih =>
    intro v4 v5 v7 h
    exact aw_iload (pc := 79) C (i := 7) dX11_gusts_79 rfl <|
    aw_aload_n (pc := 81) C (i := 0) dX11_gusts_81 rfl rfl <|
    aw_getI (pc := 82) C dX11_gusts_82 fl_X11_295 sR_0 rfl <|
    aw_icmp_ge (pc := 85) C (tgt := 134) dX11_gusts_85 rfl (fun _ =>
    aw_aload_n (pc := 134) C (i := 0) dX11_gusts_134 rfl rfl <|
    aw_iload_n (pc := 135) C (i := 3) dX11_gusts_135 rfl rfl <|
    aw_putI (pc := 136) C dX11_gusts_136 fp_X11_157 sR_0 rfl fun h6 =>
    aw_iload (pc := 139) C (i := 4) dX11_gusts_139 rfl <|
    aw_iret (pc := 141) C dX11_gusts_141 rfl rfl) (fun _ =>
    aw_aload_n (pc := 88) C (i := 0) dX11_gusts_88 rfl rfl <|
    aw_aload_n (pc := 89) C (i := 0) dX11_gusts_89 rfl rfl <|
    aw_getR (pc := 90) C (b := 23) dX11_gusts_90 fl_X11_77 sR_0 rfl rR_0_33 <|
    aw_iload (pc := 93) C (i := 7) dX11_gusts_93 rfl <|
    aw_iald (pc := 95) C dX11_gusts_95 sR_23 rfl <|
    aw_bipush (pc := 96) C (v := 9) dX11_gusts_96 rfl <|
    aw_isub (pc := 98) C dX11_gusts_98 <|
    aw_putI (pc := 99) C dX11_gusts_99 fp_X11_157 sR_0 rfl fun h7 =>
    aw_aload_n (pc := 102) C (i := 0) dX11_gusts_102 rfl rfl <|
    aw_iload_n (pc := 103) C (i := 1) dX11_gusts_103 rfl rfl <|
    aw_callF (pc := 104) C (cr_V (rest := []) (F := (X11_meanParts v1)) C (c_X11_meanParts X.2.1 v1) dX11_gusts_104 mf_X11_meanParts ml_X11_254 im_X11_meanParts se_X11_meanParts sR_0 rfl ⟨(Nat.le_of_ble_eq_true rfl), (Nat.le_of_ble_eq_true rfl)⟩ rfl rfl (Nat.le_of_ble_eq_true rfl)) rfl rfl rfl (Nat.zero_le _) (Nat.zero_le _) fun r8 h9 =>
    aw_lstore (pc := 107) C (i := 8) (lv' := [(0, .ref 0), (1, .int v1), (3, .int v3), (4, .int v4), (5, .long v5), (7, .int v7), (8, .long r8)]) dX11_gusts_107 (by decide) rfl <|
    aw_lload (pc := 109) C (i := 8) dX11_gusts_109 rfl <|
    aw_lload (pc := 111) C (i := 5) dX11_gusts_111 rfl <|
    aw_lcmp (pc := 113) C dX11_gusts_113 <|
    aw_if_gt (pc := 114) C (tgt := 120) dX11_gusts_114 rfl (fun _ =>
    aw_iload (pc := 120) C (i := 7) dX11_gusts_120 rfl <|
    aw_istore (pc := 122) C (i := 4) (lv' := [(0, .ref 0), (1, .int v1), (3, .int v3), (4, .int v7), (5, .long v5), (7, .int v7), (8, .long r8)]) dX11_gusts_122 (by decide) rfl <|
    aw_lload (pc := 124) C (i := 8) dX11_gusts_124 rfl <|
    aw_lstore (pc := 126) C (i := 5) (lv' := [(0, .ref 0), (1, .int v1), (3, .int v3), (4, .int v7), (5, .long r8), (7, .int v7), (8, .long r8)]) dX11_gusts_126 (by decide) rfl <|
    aw_drop [0, 1, 2, 3, 4, 5] (aX11_gusts_j128 C v1 v3 v7 r8 v7 (X11_gusts_l79 v1 v3 n) ih h9)) (fun _ =>
    aw_goto (pc := 117) C (tgt := 128) dX11_gusts_117 rfl <|
    aw_drop [0, 1, 2, 3, 4, 5] (aX11_gusts_j128 C v1 v3 v4 v5 v7 (X11_gusts_l79 v1 v3 n) ih h9)))
def X11_gusts_j52  (v1 : Int32) (v2 : Int32) (h : AH) : Option (Int32 × AH) :=
    if v2 = 0 then (vl (h.1 0 14) fun x3 =>
    vl (-9) fun x4 =>
    vl (-1) fun x5 =>
    X11_gusts_l79 v1 x3 FU x4 x5 0 h)
    else (bd (X11_no v2 h) fun r11 h12 =>
    some (r11, h12))
set_option maxRecDepth 100000 in
theorem aX11_gusts_j52 {X : MCx} {yd : Dyn} {A : Nat → Prop} (C : OK X cX11_gusts RX11 10 (some .int) rmX11_gusts A)  (v1 : Int32) (v2 : Int32) (h : AH) : AW X 10 ZR yd A 0 0 (QF X rmX11_gusts ZR yd rvI A) 52 [(0, .ref 0), (1, .int v1), (2, .int v2)] [] h (X11_gusts_j52 v1 v2 h) := by
    exact aw_iload_n (pc := 52) C (i := 2) dX11_gusts_52 rfl rfl <|
    aw_if_eq (pc := 53) C (tgt := 62) dX11_gusts_53 rfl (fun _ =>
    aw_aload_n (pc := 62) C (i := 0) dX11_gusts_62 rfl rfl <|
    aw_getI (pc := 63) C dX11_gusts_63 fl_X11_157 sR_0 rfl <|
    aw_istoreV_n (pc := 66) C (i := 3) (fun x3 => [(0, .ref 0), (1, .int v1), (2, .int v2), (3, .int x3)]) dX11_gusts_66 rfl (by decide) (fun _ => rfl) fun x3 =>
    aw_bipush (pc := 67) C (v := (-9)) dX11_gusts_67 rfl <|
    aw_istoreV (pc := 69) C (i := 4) (fun x4 => [(0, .ref 0), (1, .int v1), (2, .int v2), (3, .int x3), (4, .int x4)]) dX11_gusts_69 (by decide) (fun _ => rfl) fun x4 =>
    aw_ldc2_w (pc := 71) C (v := (-1)) dX11_gusts_71 kc_X11_257 <|
    aw_lstoreV (pc := 74) C (i := 5) (fun x5 => [(0, .ref 0), (1, .int v1), (2, .int v2), (3, .int x3), (4, .int x4), (5, .long x5)]) dX11_gusts_74 (by decide) (fun _ => rfl) fun x5 =>
    aw_iconst (pc := 76) C (v := 0) dX11_gusts_76 rfl <|
    aw_istore (pc := 77) C (i := 7) (lv' := [(0, .ref 0), (1, .int v1), (2, .int v2), (3, .int x3), (4, .int x4), (5, .long x5), (7, .int 0)]) dX11_gusts_77 (by decide) rfl <|
    aw_drop [0, 1, 3, 4, 5, 6] (aX11_gusts_l79 C v1 x3 FU x4 x5 0 h)) (fun _ =>
    aw_aload_n (pc := 56) C (i := 0) dX11_gusts_56 rfl rfl <|
    aw_iload_n (pc := 57) C (i := 2) dX11_gusts_57 rfl rfl <|
    aw_callF (pc := 58) C (cr_V (rest := []) (F := (X11_no v2)) C (c_X11_no X.2.1 v2) dX11_gusts_58 mf_X11_no ml_X11_115 im_X11_no se_X11_no sR_0 rfl ⟨(Nat.le_of_ble_eq_true rfl), (Nat.le_of_ble_eq_true rfl)⟩ rfl rfl (Nat.le_of_ble_eq_true rfl)) rfl rfl rfl (Nat.zero_le _) (Nat.zero_le _) fun r11 h12 =>
    aw_iret (pc := 61) C dX11_gusts_61 rfl rfl)
def X11_gusts_j45  (v1 : Int32) (v3 : Int32) (K16 : Int32 → Int32 → AH → Option (Int32 × AH)) (s0 : Int32) (h : AH) : Option (Int32 × AH) :=
    vl (v3 + 1) fun x13 =>
    K16 s0 x13 h
set_option maxRecDepth 100000 in
theorem aX11_gusts_j45 {X : MCx} {yd : Dyn} {A : Nat → Prop} (C : OK X cX11_gusts RX11 10 (some .int) rmX11_gusts A)  (v1 : Int32) (v3 : Int32) (K16 : Int32 → Int32 → AH → Option (Int32 × AH)) (hK16 : ∀ (w2 : Int32) (w3 : Int32) (h : AH), AW X 10 ZR yd A 0 0 (QF X rmX11_gusts ZR yd rvI A) 16 [(0, .ref 0), (1, .int v1), (2, .int w2), (3, .int w3)] [] h (K16 w2 w3 h)) (s0 : Int32) (h : AH) : AW X 10 ZR yd A 0 0 (QF X rmX11_gusts ZR yd rvI A) 45 [(0, .ref 0), (1, .int v1), (3, .int v3)] [.int s0] h (X11_gusts_j45 v1 v3 K16 s0 h) := by
    exact aw_istore_n (pc := 45) C (i := 2) (lv' := [(0, .ref 0), (1, .int v1), (2, .int s0), (3, .int v3)]) dX11_gusts_45 rfl (by decide) rfl <|
    aw_iincV (pc := 46) C (i := 3) (cst := 1) (fun x13 => [(0, .ref 0), (1, .int v1), (2, .int s0), (3, .int x13)]) dX11_gusts_46 rfl rfl (by decide) (fun _ => rfl) fun x13 =>
    aw_goto (pc := 49) C (tgt := 16) dX11_gusts_49 rfl <|
    (hK16 s0 x13 h)
def X11_gusts_l16  (v1 : Int32) : Nat → Int32 → Int32 → AH → Option (Int32 × AH)
  | 0, _, _, _ => none
  | n + 1, v2, v3, h =>
    if (h.1 0 34) ≤ v3 then (X11_gusts_j52 v1 v2 h)
    else (if v2 = 0 then (ck v3 12 (if (h.1 23 v3.toNatClampNeg) ≤ 18 then (X11_gusts_j45 v1 v3 (X11_gusts_l16 v1 n) 0 h)
    else (X11_gusts_j45 v1 v3 (X11_gusts_l16 v1 n) (-3) h)))
    else (X11_gusts_j52 v1 v2 h))
set_option maxRecDepth 100000 in
theorem aX11_gusts_l16 {X : MCx} {yd : Dyn} {A : Nat → Prop} (C : OK X cX11_gusts RX11 10 (some .int) rmX11_gusts A)  (v1 : Int32) : ∀ (n : Nat) (v2 : Int32) (v3 : Int32) (h : AH), AW X 10 ZR yd A 0 0 (QF X rmX11_gusts ZR yd rvI A) 16 [(0, .ref 0), (1, .int v1), (2, .int v2), (3, .int v3)] [] h (X11_gusts_l16 v1 n v2 v3 h) := by
  intro n
  induction n with
  | zero => intro v2 v3 h; exact aw_none
  | succ n ih =>
    intro v2 v3 h
    exact aw_iload_n (pc := 16) C (i := 3) dX11_gusts_16 rfl rfl <|
    aw_aload_n (pc := 17) C (i := 0) dX11_gusts_17 rfl rfl <|
    aw_getI (pc := 18) C dX11_gusts_18 fl_X11_295 sR_0 rfl <|
    aw_icmp_ge (pc := 21) C (tgt := 52) dX11_gusts_21 rfl (fun _ =>
    aw_drop [0, 1, 2] (aX11_gusts_j52 C v1 v2 h)) (fun _ =>
    aw_iload_n (pc := 24) C (i := 2) dX11_gusts_24 rfl rfl <|
    aw_if_ne (pc := 25) C (tgt := 52) dX11_gusts_25 rfl (fun _ =>
    aw_aload_n (pc := 28) C (i := 0) dX11_gusts_28 rfl rfl <|
    aw_getR (pc := 29) C (b := 23) dX11_gusts_29 fl_X11_77 sR_0 rfl rR_0_33 <|
    aw_iload_n (pc := 32) C (i := 3) dX11_gusts_32 rfl rfl <|
    aw_iald (pc := 33) C dX11_gusts_33 sR_23 rfl <|
    aw_bipush (pc := 34) C (v := 18) dX11_gusts_34 rfl <|
    aw_icmp_le (pc := 36) C (tgt := 44) dX11_gusts_36 rfl (fun _ =>
    aw_iconst (pc := 44) C (v := 0) dX11_gusts_44 rfl <|
    aw_drop [0, 1, 3] (aX11_gusts_j45 C v1 v3 (X11_gusts_l16 v1 n) ih 0 h)) (fun _ =>
    aw_bipush (pc := 39) C (v := (-3)) dX11_gusts_39 rfl <|
    aw_goto (pc := 41) C (tgt := 45) dX11_gusts_41 rfl <|
    aw_drop [0, 1, 3] (aX11_gusts_j45 C v1 v3 (X11_gusts_l16 v1 n) ih (-3) h))) (fun _ =>
    aw_drop [0, 1, 2] (aX11_gusts_j52 C v1 v2 h)))
def X11_gusts_j13  (v1 : Int32) (s0 : Int32) (h : AH) : Option (Int32 × AH) :=
    X11_gusts_l16 v1 FU s0 0 h
set_option maxRecDepth 100000 in
theorem aX11_gusts_j13 {X : MCx} {yd : Dyn} {A : Nat → Prop} (C : OK X cX11_gusts RX11 10 (some .int) rmX11_gusts A)  (v1 : Int32) (s0 : Int32) (h : AH) : AW X 10 ZR yd A 0 0 (QF X rmX11_gusts ZR yd rvI A) 13 [(0, .ref 0), (1, .int v1)] [.int s0] h (X11_gusts_j13 v1 s0 h) := by
    exact aw_istore_n (pc := 13) C (i := 2) (lv' := [(0, .ref 0), (1, .int v1), (2, .int s0)]) dX11_gusts_13 rfl (by decide) rfl <|
    aw_iconst (pc := 14) C (v := 0) dX11_gusts_14 rfl <|
    aw_istore_n (pc := 15) C (i := 3) (lv' := [(0, .ref 0), (1, .int v1), (2, .int s0), (3, .int 0)]) dX11_gusts_15 rfl (by decide) rfl <|
    (aX11_gusts_l16 C v1 FU s0 0 h)
def X11_gusts (v1 : Int32) (h : AH) : Option (Int32 × AH) :=
    bd (X11_isJumper v1 h) fun r1 h2 =>
    if r1 = 0 then (X11_gusts_j13 v1 (-1) h2)
    else (X11_gusts_j13 v1 0 h2)
set_option maxRecDepth 100000 in
theorem c_X11_gusts (l : Launch) (v1 : Int32) : MC l yX11_gusts cX11_gusts 10 (some .int) rmX11_gusts ZR [.ref 0, .int v1] rvI (X11_gusts v1) :=
  MC.of (own := RX11) (by decide +kernel) rfl (Nat.le_of_ble_eq_true rfl) fun X yd A h _ C =>
    aw_aload_n (pc := 0) C (i := 0) dX11_gusts_0 rfl rfl <|
    aw_iload_n (pc := 1) C (i := 1) dX11_gusts_1 rfl rfl <|
    aw_callF (pc := 2) C (cr_V (rest := []) (F := (X11_isJumper v1)) C (c_X11_isJumper X.2.1 v1) dX11_gusts_2 mf_X11_isJumper ml_X11_207 im_X11_isJumper se_X11_isJumper sR_0 rfl ⟨(Nat.le_of_ble_eq_true rfl), (Nat.le_of_ble_eq_true rfl)⟩ rfl rfl (Nat.le_of_ble_eq_true rfl)) rfl rfl rfl (Nat.zero_le _) (Nat.zero_le _) fun r1 h2 =>
    aw_if_ne (pc := 5) C (tgt := 12) dX11_gusts_5 rfl (fun _ =>
    aw_iconst (pc := 8) C (v := (-1)) dX11_gusts_8 rfl <|
    aw_goto (pc := 9) C (tgt := 13) dX11_gusts_9 rfl <|
    (aX11_gusts_j13 C v1 (-1) h2)) (fun _ =>
    aw_iconst (pc := 12) C (v := 0) dX11_gusts_12 rfl <|
    (aX11_gusts_j13 C v1 0 h2))
