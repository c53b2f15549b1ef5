/-! X10_half: a row made, and forgotten -/
def ZH : Stc := addS ZC (.inl (0, 0, 6))
theorem wf_ZC : WFs ZC := by
  refine ⟨fun o k b e => ?_, fun o e => ?_⟩
  · have e : rfC o k = some b := e
    show o < 73 ∧ b < 73
    unfold rfC at e
    split at e <;> (try split at e) <;> first | (cases e; done) | (have := Option.some.inj e; omega)
  · show 42 ≤ 73
    decide
section AWHalf
variable {X : MCx} {cc : ByteArray} {own : String} {nL : Nat} {ret : Option FieldType} {rm : Room} {Z : Stc} {yd : Dyn} {A : Nat → Prop} {k n k' n' : Nat} {α : Type} {Qf : α → AH → State → Prop} {pc : Nat} {lv : List (Nat × Value)} {st : List Value} {h : AH} {o : Option (α × AH)}
theorem aw_widen (h1 : k ≤ k') (h2 : n ≤ n') (q : AW X nL Z yd A k' n' Qf pc lv st h o) : AW X nL Z yd A k n Qf pc lv st h o := fun r h' e ls H locs hl hw => W.widen h1 h2 (q r h' e ls H locs hl hw)
theorem ent_ext {q o : Nat} {s sN : Shp} (hF : Frs Z) (e : Z.1[o]? = some s) : ent (addS Z sN) (ydN yd Z.1.length q) h o s = ent Z yd h o s := by
  have hl : o < Z.1.length := (List.getElem?_eq_some_iff.mp e).1
  have ho : o ≠ Z.1.length := by omega
  have hz : ent (addS Z sN) (ydN yd Z.1.length q) (zN h Z.1.length) o s = ent (addS Z sN) (ydN yd Z.1.length q) h o s := ent_same (fun _ => by simp [zN, ho]) (fun _ => by simp [zN, ho]) (by simp [zN, ho])
  rw [← hz, ent_new hF e]
theorem wld_ext {q : Nat} {sN : Shp} {D : va_G} {H : Heap} (hF : Frs Z) (hP : va_P D vwCl (wld (addS Z sN) (ydN yd Z.1.length q) h) H) : va_P D vwCl (wld Z yd h) H := by
  intro j x hx
  have hl : j < Z.1.length := by
    have := (List.getElem?_eq_some_iff.mp hx).1
    rwa [wld_len] at this
  obtain ⟨s, hs⟩ : ∃ s, Z.1[j]? = some s := ⟨_, List.getElem?_eq_getElem hl⟩
  rw [wld_at hs] at hx
  cases hx
  have hs2 : (addS Z sN).1[j]? = some s := by
    show (Z.1 ++ [sN])[j]? = some s
    rw [List.getElem?_append_left hl]; exact hs
  have g := hP j _ (wld_at hs2)
  rw [ent_ext hF hs, show (ydN yd Z.1.length q).1 j = yd.1 j from ydN_old j hl] at g
  exact g
theorem aw_iretH {a : Nat} (C : OK X cc own nL (some .int) rm A) {x : Int32} (d : decode cc pc = .ok (.ireturn, 1)) (hc : k = rm.cells) (hs : n = rm.slots) : AW X nL ZH (ydN yd 73 a) A k n (QF X rm ZC yd rvI A) pc lv [.int x] h (some (x, h)) := fun r h' e ls H locs hl hw => by
  cases e; subst hc; subst hs
  exact W.iret (v := x) C.1 C.2.1 C.2.2.2.2.2.2.1 (fun t ht hW => ⟨rfl, by rw [ht]; exact wld_ext (Z := ZC) (q := a) (sN := .inl (0, 0, 6)) wf_ZC.frs hw.1, hw.2.2.1.F ht⟩) hw.2.2.1.2.2 d C.2.2.2.2.2.1
end AWHalf
abbrev rmX10_half : Room := { frames := 1, cells := 1, slots := 6, locals := 45 }
def X10_half_j98  (v1 : Int32) (v4 : Int32) (v5 : Int32) (K27 : Int32 → Int32 → AH → Option (Int32 × AH)) (h : AH) : Option (Int32 × AH) :=
    vl (v5 + 1) fun x4 =>
    K27 v4 x4 h
set_option maxRecDepth 100000 in
theorem aX10_half_j98 {X : MCx} {yd : Dyn} {A : Nat → Prop} (C : OK X cX10_half RX10 6 (some .int) rmX10_half A) (a : Nat) (v1 : Int32) (v4 : Int32) (v5 : Int32) (K27 : Int32 → Int32 → AH → Option (Int32 × AH)) (hK27 : ∀ (w4 : Int32) (w5 : Int32) (h : AH), AW X 6 ZH (ydN yd 73 a) A (0 + 1) (0 + 6) (QF X rmX10_half ZC yd rvI A) 27 [(0, .ref 0), (1, .int v1), (3, .ref 73), (4, .int w4), (5, .int w5)] [] h (K27 w4 w5 h)) (h : AH) : AW X 6 ZH (ydN yd 73 a) A (0 + 1) (0 + 6) (QF X rmX10_half ZC yd rvI A) 98 [(0, .ref 0), (1, .int v1), (3, .ref 73), (4, .int v4), (5, .int v5)] [] h (X10_half_j98 v1 v4 v5 K27 h) := by
    exact aw_iincV (pc := 98) C (i := 5) (cst := 1) (fun x4 => [(0, .ref 0), (1, .int v1), (3, .ref 73), (4, .int v4), (5, .int x4)]) dX10_half_98 rfl rfl (by decide) (fun _ => rfl) fun x4 =>
    aw_goto (pc := 101) C (tgt := 27) dX10_half_101 rfl <|
    (hK27 v4 x4 h)
def X10_half_l27  (v1 : Int32) : Nat → Int32 → Int32 → AH → Option (Int32 × AH)
  | 0, _, _, _ => none
  | n + 1, v4, v5, h =>
    if (h.1 42 4) ≤ v5 then (if v4 = 0 then (some ((-9), h))
    else (ck ((v4 - 1) / 2) 6 (some ((h.1 73 ((v4 - 1) / 2).toNatClampNeg), h))))
    else (ck v5 24 (if (h.1 44 v5.toNatClampNeg) = v1 then (ck v5 24 (if (h.1 46 v5.toNatClampNeg) = (-8) then (X10_half_j98 v1 v4 v5 (X10_half_l27 v1 n) h)
    else (if 6 ≤ v4 then (X10_half_j98 v1 v4 v5 (X10_half_l27 v1 n) h)
    else (ck v5 24 (bd (X10_insert 73 6 v4 (mx32 0 (h.1 46 v5.toNatClampNeg)) h) fun _ h6 =>
    vl (v4 + 1) fun x7 =>
    X10_half_j98 v1 x7 v5 (X10_half_l27 v1 n) h6)))))
    else (X10_half_j98 v1 v4 v5 (X10_half_l27 v1 n) h)))
set_option maxRecDepth 100000 in
theorem aX10_half_l27 {X : MCx} {yd : Dyn} {A : Nat → Prop} (C : OK X cX10_half RX10 6 (some .int) rmX10_half A) (a : Nat) (v1 : Int32) : ∀ (n : Nat) (v4 : Int32) (v5 : Int32) (h : AH), AW X 6 ZH (ydN yd 73 a) A (0 + 1) (0 + 6) (QF X rmX10_half ZC yd rvI A) 27 [(0, .ref 0), (1, .int v1), (3, .ref 73), (4, .int v4), (5, .int v5)] [] h (X10_half_l27 v1 n v4 v5 h) := by
  intro n
  induction n with
  | zero => intro v4 v5 h; exact aw_none
  | succ n ih =>
    intro v4 v5 h
    exact aw_iload (pc := 27) C (i := 5) dX10_half_27 rfl <|
    aw_aload_n (pc := 29) C (i := 0) dX10_half_29 rfl rfl <|
    aw_getR (pc := 30) C (b := 42) dX10_half_30 fl_X10_72 rfl rfl rfl <|
    aw_getI (pc := 33) C dX10_half_33 fl_X10_160 rfl rfl <|
    aw_icmp_ge (pc := 36) C (tgt := 104) dX10_half_36 rfl (fun _ =>
    aw_iload (pc := 104) C (i := 4) dX10_half_104 rfl <|
    aw_if_ne (pc := 106) C (tgt := 114) dX10_half_106 rfl (fun _ =>
    aw_bipush (pc := 109) C (v := (-9)) dX10_half_109 rfl <|
    aw_goto (pc := 111) C (tgt := 122) dX10_half_111 rfl <|
    aw_iretH (pc := 122) C dX10_half_122 rfl rfl) (fun _ =>
    aw_aload_n (pc := 114) C (i := 3) dX10_half_114 rfl rfl <|
    aw_iload (pc := 115) C (i := 4) dX10_half_115 rfl <|
    aw_iconst (pc := 117) C (v := 1) dX10_half_117 rfl <|
    aw_isub (pc := 118) C dX10_half_118 <|
    aw_iconst (pc := 119) C (v := 2) dX10_half_119 rfl <|
    aw_idivK (pc := 120) C dX10_half_120 (by decide) <|
    aw_iald (pc := 121) C dX10_half_121 rfl rfl <|
    aw_iretH (pc := 122) C dX10_half_122 rfl rfl)) (fun _ =>
    aw_aload_n (pc := 39) C (i := 0) dX10_half_39 rfl rfl <|
    aw_getR (pc := 40) C (b := 42) dX10_half_40 fl_X10_72 rfl rfl rfl <|
    aw_getR (pc := 43) C (b := 44) dX10_half_43 fl_X10_297 rfl rfl rfl <|
    aw_iload (pc := 46) C (i := 5) dX10_half_46 rfl <|
    aw_iald (pc := 48) C dX10_half_48 rfl rfl <|
    aw_iload_n (pc := 49) C (i := 1) dX10_half_49 rfl rfl <|
    aw_icmp_ne (pc := 50) C (tgt := 98) dX10_half_50 rfl (fun _ =>
    aw_aload_n (pc := 53) C (i := 0) dX10_half_53 rfl rfl <|
    aw_getR (pc := 54) C (b := 42) dX10_half_54 fl_X10_72 rfl rfl rfl <|
    aw_getR (pc := 57) C (b := 46) dX10_half_57 fl_X10_303 rfl rfl rfl <|
    aw_iload (pc := 60) C (i := 5) dX10_half_60 rfl <|
    aw_iald (pc := 62) C dX10_half_62 rfl rfl <|
    aw_bipush (pc := 63) C (v := (-8)) dX10_half_63 rfl <|
    aw_icmp_eq (pc := 65) C (tgt := 98) dX10_half_65 rfl (fun _ =>
    (aX10_half_j98 C a v1 v4 v5 (X10_half_l27 v1 n) ih h)) (fun _ =>
    aw_iload (pc := 68) C (i := 4) dX10_half_68 rfl <|
    aw_bipush (pc := 70) C (v := 6) dX10_half_70 rfl <|
    aw_icmp_ge (pc := 72) C (tgt := 98) dX10_half_72 rfl (fun _ =>
    (aX10_half_j98 C a v1 v4 v5 (X10_half_l27 v1 n) ih h)) (fun _ =>
    aw_aload_n (pc := 75) C (i := 3) dX10_half_75 rfl rfl <|
    aw_iload (pc := 76) C (i := 4) dX10_half_76 rfl <|
    aw_iconst (pc := 78) C (v := 0) dX10_half_78 rfl <|
    aw_aload_n (pc := 79) C (i := 0) dX10_half_79 rfl rfl <|
    aw_getR (pc := 80) C (b := 42) dX10_half_80 fl_X10_72 rfl rfl rfl <|
    aw_getR (pc := 83) C (b := 46) dX10_half_83 fl_X10_303 rfl rfl rfl <|
    aw_iload (pc := 86) C (i := 5) dX10_half_86 rfl <|
    aw_iald (pc := 88) C dX10_half_88 rfl rfl <|
    aw_mmax (pc := 89) C dX10_half_89 ml_X10_286 w_mmaxS w_mI w_mmaxC ⟨(Nat.le_of_ble_eq_true rfl), (Nat.le_of_ble_eq_true rfl)⟩ (Nat.le_of_ble_eq_true rfl) (Nat.le_of_ble_eq_true rfl) <|
    aw_callF (pc := 92) C (cr_S (rest := []) (F := (X10_insert 73 6 v4 (mx32 0 (h.1 46 v5.toNatClampNeg)))) C (c_X10_insert X.2.1 ZH 73 6 0 rfl rfl v4 (mx32 0 (h.1 46 v5.toNatClampNeg))) dX10_half_92 mf_X10_insert ml_X10_401 st_X10_insert ⟨(Nat.le_of_ble_eq_true rfl), (Nat.le_of_ble_eq_true rfl)⟩ rfl rfl (Nat.le_of_ble_eq_true rfl)) rfl rfl rfl (Nat.le_of_ble_eq_true rfl) (Nat.le_of_ble_eq_true rfl) fun _ h6 =>
    aw_iincV (pc := 95) C (i := 4) (cst := 1) (fun x7 => [(0, .ref 0), (1, .int v1), (3, .ref 73), (4, .int x7), (5, .int v5)]) dX10_half_95 rfl rfl (by decide) (fun _ => rfl) fun x7 =>
    (aX10_half_j98 C a v1 x7 v5 (X10_half_l27 v1 n) ih h6)))) (fun _ =>
    (aX10_half_j98 C a v1 v4 v5 (X10_half_l27 v1 n) ih h)))
def X10_half (v1 : Int32) (h : AH) : Option (Int32 × AH) :=
    bd (X10_nobody v1 h) fun r1 h2 =>
    if r1 = 0 then (vl (zN h2 73) fun h3 =>
    X10_half_l27 v1 FU 0 0 h3)
    else (bd (X10_refuse r1 h2) fun r8 h9 =>
    some (r8, h9))
set_option maxRecDepth 100000 in
theorem c_X10_half (l : Launch) (v1 : Int32) : MC l yX10_half cX10_half 6 (some .int) rmX10_half ZC [.ref 0, .int v1] rvI (X10_half v1) :=
  MC.of (own := RX10) (by decide +kernel) rfl (Nat.le_of_ble_eq_true rfl) fun X yd A h _ C =>
    aw_aload_n (pc := 0) C (i := 0) dX10_half_0 rfl rfl <|
    aw_iload_n (pc := 1) C (i := 1) dX10_half_1 rfl rfl <|
    aw_callF (pc := 2) C (cr_V (rest := []) (F := (X10_nobody v1)) C (c_X10_nobody X.2.1 v1) dX10_half_2 mf_X10_nobody ml_X10_93 im_X10_nobody se_X10_nobody sC_0 rfl ⟨(Nat.le_of_ble_eq_true rfl), (Nat.le_of_ble_eq_true rfl)⟩ rfl rfl (Nat.le_of_ble_eq_true rfl)) rfl rfl rfl (Nat.le_of_ble_eq_true rfl) (Nat.le_of_ble_eq_true rfl) fun r1 h2 =>
    aw_istore_n (pc := 5) C (i := 2) (lv' := [(0, .ref 0), (1, .int v1), (2, .int r1)]) dX10_half_5 rfl (by decide) rfl <|
    aw_iload_n (pc := 6) C (i := 2) dX10_half_6 rfl rfl <|
    aw_if_eq (pc := 7) C (tgt := 16) dX10_half_7 rfl (fun _ =>
    aw_bipush (pc := 16) C (v := 6) dX10_half_16 rfl <|
    aw_newIm (pc := 18) C (Z' := ZH) (N := 6) rfl wf_ZC dX10_half_18 (by decide) rfl (by decide) rfl rfl rfl (Nat.le_of_ble_eq_true rfl) (Nat.le_of_ble_eq_true rfl) fun a h3 =>
    aw_astore_n (pc := 20) C (i := 3) (lv' := [(0, .ref 0), (1, .int v1), (2, .int r1), (3, .ref 73)]) dX10_half_20 rfl (by decide) rfl <|
    aw_iconst (pc := 21) C (v := 0) dX10_half_21 rfl <|
    aw_istore (pc := 22) C (i := 4) (lv' := [(0, .ref 0), (1, .int v1), (2, .int r1), (3, .ref 73), (4, .int 0)]) dX10_half_22 (by decide) rfl <|
    aw_iconst (pc := 24) C (v := 0) dX10_half_24 rfl <|
    aw_istore (pc := 25) C (i := 5) (lv' := [(0, .ref 0), (1, .int v1), (2, .int r1), (3, .ref 73), (4, .int 0), (5, .int 0)]) dX10_half_25 (by decide) rfl <|
    aw_drop [0, 1, 3, 4, 5] (aX10_half_l27 C a v1 FU 0 0 h3)) (fun _ =>
    aw_aload_n (pc := 10) C (i := 0) dX10_half_10 rfl rfl <|
    aw_iload_n (pc := 11) C (i := 2) dX10_half_11 rfl rfl <|
    aw_callF (pc := 12) C (cr_V (rest := []) (F := (X10_refuse r1)) C (c_X10_refuse X.2.1 r1) dX10_half_12 mf_X10_refuse ml_X10_111 im_X10_refuse se_X10_refuse sC_0 rfl ⟨(Nat.le_of_ble_eq_true rfl), (Nat.le_of_ble_eq_true rfl)⟩ rfl rfl (Nat.le_of_ble_eq_true rfl)) rfl rfl rfl (Nat.le_of_ble_eq_true rfl) (Nat.le_of_ble_eq_true rfl) fun r8 h9 =>
    aw_widen (Nat.le_of_ble_eq_true rfl) (Nat.le_of_ble_eq_true rfl) (aw_iret (pc := 15) C dX10_half_15 rfl rfl))
