abbrev rmX11_on : Room := { frames := 6, cells := 0, slots := 0, locals := 130 }
def X11_on_j205  (v1 : Int32) (v2 : Int32) (v4 : Int32) (v5 : Int32) (v8 : Int32) (K114 : Int64 → Int32 → AH → Option (Int64 × AH)) (s0 : Int64) (s1 : Int64) (h : AH) : Option (Int64 × AH) :=
    vl (s1 + s0) fun x19 =>
    vl (v8 + 1) fun x20 =>
    K114 x19 x20 h
set_option maxRecDepth 100000 in
theorem aX11_on_j205 {X : MCx} {yd : Dyn} {A : Nat → Prop} (C : OK X cX11_on RX11 10 (some .long) rmX11_on A)  (v1 : Int32) (v2 : Int32) (v4 : Int32) (v5 : Int32) (v8 : Int32) (K114 : Int64 → Int32 → AH → Option (Int64 × AH)) (hK114 : ∀ (w6 : Int64) (w8 : Int32) (h : AH), AW X 10 ZR yd A 0 0 (QF X rmX11_on ZR yd rvL A) 114 [(0, .ref 0), (1, .int v1), (2, .int v2), (4, .int v4), (5, .int v5), (6, .long w6), (8, .int w8)] [] h (K114 w6 w8 h)) (s0 : Int64) (s1 : Int64) (h : AH) : AW X 10 ZR yd A 0 0 (QF X rmX11_on ZR yd rvL A) 205 [(0, .ref 0), (1, .int v1), (2, .int v2), (4, .int v4), (5, .int v5), (8, .int v8)] [.long s0, .long s1] h (X11_on_j205 v1 v2 v4 v5 v8 K114 s0 s1 h) := by
    exact aw_ladd (pc := 205) C dX11_on_205 <|
    aw_lstoreV (pc := 206) C (i := 6) (fun x19 => [(0, .ref 0), (1, .int v1), (2, .int v2), (4, .int v4), (5, .int v5), (6, .long x19), (8, .int v8)]) dX11_on_206 (by decide) (fun _ => rfl) fun x19 =>
    aw_iincV (pc := 208) C (i := 8) (cst := 1) (fun x20 => [(0, .ref 0), (1, .int v1), (2, .int v2), (4, .int v4), (5, .int v5), (6, .long x19), (8, .int x20)]) dX11_on_208 rfl rfl (by decide) (fun _ => rfl) fun x20 =>
    aw_goto (pc := 211) C (tgt := 114) dX11_on_211 rfl <|
    (hK114 x19 x20 h)
def X11_on_j173  (v1 : Int32) (v2 : Int32) (v4 : Int32) (v5 : Int32) (v6 : Int64) (v8 : Int32) (v9 : Int32) (K114 : Int64 → Int32 → AH → Option (Int64 × AH)) (K135 : Int32 → AH → Option (Int64 × AH)) (s0 : Int32) (s1 : Int32) (h : AH) : Option (Int64 × AH) :=
    bd (X11_comesLength s1 s0 h) fun _ h22 =>
    vl (v9 + 1) fun x23 =>
    K135 x23 h22
set_option maxRecDepth 100000 in
theorem aX11_on_j173 {X : MCx} {yd : Dyn} {A : Nat → Prop} (C : OK X cX11_on RX11 10 (some .long) rmX11_on A)  (v1 : Int32) (v2 : Int32) (v4 : Int32) (v5 : Int32) (v6 : Int64) (v8 : Int32) (v9 : Int32) (K114 : Int64 → Int32 → AH → Option (Int64 × AH)) (hK114 : ∀ (w6 : Int64) (w8 : Int32) (h : AH), AW X 10 ZR yd A 0 0 (QF X rmX11_on ZR yd rvL A) 114 [(0, .ref 0), (1, .int v1), (2, .int v2), (4, .int v4), (5, .int v5), (6, .long w6), (8, .int w8)] [] h (K114 w6 w8 h)) (K135 : Int32 → AH → Option (Int64 × AH)) (hK135 : ∀ (w9 : Int32) (h : AH), AW X 10 ZR yd A 0 0 (QF X rmX11_on ZR yd rvL A) 135 [(0, .ref 0), (1, .int v1), (2, .int v2), (4, .int v4), (5, .int v5), (6, .long v6), (8, .int v8), (9, .int w9)] [] h (K135 w9 h)) (s0 : Int32) (s1 : Int32) (h : AH) : AW X 10 ZR yd A 0 0 (QF X rmX11_on ZR yd rvL A) 173 [(0, .ref 0), (1, .int v1), (2, .int v2), (4, .int v4), (5, .int v5), (6, .long v6), (8, .int v8), (9, .int v9)] [.int s0, .int s1, .ref 0] h (X11_on_j173 v1 v2 v4 v5 v6 v8 v9 K114 K135 s0 s1 h) := by
    exact aw_callF (pc := 173) C (cr_V (rest := []) (F := (X11_comesLength s1 s0)) C (c_X11_comesLength X.2.1 s1 s0) dX11_on_173 mf_X11_comesLength ml_X11_262 im_X11_comesLength se_X11_comesLength sR_0 rfl ⟨(Nat.le_of_ble_eq_true rfl), (Nat.le_of_ble_eq_true rfl)⟩ rfl rfl (Nat.le_of_ble_eq_true rfl)) rfl rfl rfl (Nat.zero_le _) (Nat.zero_le _) fun _ h22 =>
    aw_iincV (pc := 176) C (i := 9) (cst := 1) (fun x23 => [(0, .ref 0), (1, .int v1), (2, .int v2), (4, .int v4), (5, .int v5), (6, .long v6), (8, .int v8), (9, .int x23)]) dX11_on_176 rfl rfl (by decide) (fun _ => rfl) fun x23 =>
    aw_goto (pc := 179) C (tgt := 135) dX11_on_179 rfl <|
    (hK135 x23 h22)
def X11_on_l135  (v1 : Int32) (v2 : Int32) (v4 : Int32) (v5 : Int32) (v6 : Int64) (v8 : Int32) (K114 : Int64 → Int32 → AH → Option (Int64 × AH)) : Nat → Int32 → AH → Option (Int64 × AH)
  | 0, _, _ => none
  | n + 1, v9, h =>
    if v5 ≤ v9 then (bd (X11_sorts h) fun _ h14 =>
    bd (X11_rankOf v1 h14) fun r15 h16 =>
    bd (X11_finalists h16) fun r17 h18 =>
    if r17 ≤ r15 then (X11_on_j205 v1 v2 v4 v5 v8 K114 0 v6 h18)
    else (X11_on_j205 v1 v2 v4 v5 v8 K114 1 v6 h18))
    else (if ((sar32 v8 v9) &&& 1) = 1 then (ck (v4 + v9) 4 (X11_on_j173 v1 v2 v4 v5 v6 v8 v9 K114 (X11_on_l135 v1 v2 v4 v5 v6 v8 K114 n) (h.1 24 (v4 + v9).toNatClampNeg) (v4 + v9) h))
    else (X11_on_j173 v1 v2 v4 v5 v6 v8 v9 K114 (X11_on_l135 v1 v2 v4 v5 v6 v8 K114 n) 0 (v4 + v9) h))
set_option maxRecDepth 100000 in
theorem aX11_on_l135 {X : MCx} {yd : Dyn} {A : Nat → Prop} (C : OK X cX11_on RX11 10 (some .long) rmX11_on A)  (v1 : Int32) (v2 : Int32) (v4 : Int32) (v5 : Int32) (v6 : Int64) (v8 : Int32) (K114 : Int64 → Int32 → AH → Option (Int64 × AH)) (hK114 : ∀ (w6 : Int64) (w8 : Int32) (h : AH), AW X 10 ZR yd A 0 0 (QF X rmX11_on ZR yd rvL A) 114 [(0, .ref 0), (1, .int v1), (2, .int v2), (4, .int v4), (5, .int v5), (6, .long w6), (8, .int w8)] [] h (K114 w6 w8 h)) : ∀ (n : Nat) (v9 : Int32) (h : AH), AW X 10 ZR yd A 0 0 (QF X rmX11_on ZR yd rvL A) 135 [(0, .ref 0), (1, .int v1), (2, .int v2), (4, .int v4), (5, .int v5), (6, .long v6), (8, .int v8), (9, .int v9)] [] h (X11_on_l135 v1 v2 v4 v5 v6 v8 K114 n v9 h) := by
  intro n
  induction n with
  | zero => intro v9 h; exact aw_none
  | succ n ih =>
    intro v9 h
    exact aw_iload (pc := 135) C (i := 9) dX11_on_135 rfl <|
    aw_iload (pc := 137) C (i := 5) dX11_on_137 rfl <|
    aw_icmp_ge (pc := 139) C (tgt := 182) dX11_on_139 rfl (fun _ =>
    aw_aload_n (pc := 182) C (i := 0) dX11_on_182 rfl rfl <|
    aw_callF (pc := 183) C (cr_V (rest := []) (F := X11_sorts) C (c_X11_sorts X.2.1 ) dX11_on_183 mf_X11_sorts ml_X11_268 im_X11_sorts se_X11_sorts sR_0 rfl ⟨(Nat.le_of_ble_eq_true rfl), (Nat.le_of_ble_eq_true rfl)⟩ rfl rfl (Nat.le_of_ble_eq_true rfl)) rfl rfl rfl (Nat.zero_le _) (Nat.zero_le _) fun _ h14 =>
    aw_lload (pc := 186) C (i := 6) dX11_on_186 rfl <|
    aw_aload_n (pc := 188) C (i := 0) dX11_on_188 rfl rfl <|
    aw_iload_n (pc := 189) C (i := 1) dX11_on_189 rfl rfl <|
    aw_callF (pc := 190) C (cr_V (rest := [.long v6]) (F := (X11_rankOf v1)) C (c_X11_rankOf X.2.1 v1) dX11_on_190 mf_X11_rankOf ml_X11_274 im_X11_rankOf se_X11_rankOf sR_0 rfl ⟨(Nat.le_of_ble_eq_true rfl), (Nat.le_of_ble_eq_true rfl)⟩ rfl rfl (Nat.le_of_ble_eq_true rfl)) rfl rfl rfl (Nat.zero_le _) (Nat.zero_le _) fun r15 h16 =>
    aw_aload_n (pc := 193) C (i := 0) dX11_on_193 rfl rfl <|
    aw_callF (pc := 194) C (cr_V (rest := [.int r15, .long v6]) (F := X11_finalists) C (c_X11_finalists X.2.1 ) dX11_on_194 mf_X11_finalists ml_X11_271 im_X11_finalists se_X11_finalists sR_0 rfl ⟨(Nat.le_of_ble_eq_true rfl), (Nat.le_of_ble_eq_true rfl)⟩ rfl rfl (Nat.le_of_ble_eq_true rfl)) rfl rfl rfl (Nat.zero_le _) (Nat.zero_le _) fun r17 h18 =>
    aw_icmp_ge (pc := 197) C (tgt := 204) dX11_on_197 rfl (fun _ =>
    aw_lconst (pc := 204) C (v := 0) dX11_on_204 rfl <|
    aw_drop [0, 1, 2, 3, 4, 6] (aX11_on_j205 C v1 v2 v4 v5 v8 K114 hK114 0 v6 h18)) (fun _ =>
    aw_lconst (pc := 200) C (v := 1) dX11_on_200 rfl <|
    aw_goto (pc := 201) C (tgt := 205) dX11_on_201 rfl <|
    aw_drop [0, 1, 2, 3, 4, 6] (aX11_on_j205 C v1 v2 v4 v5 v8 K114 hK114 1 v6 h18))) (fun _ =>
    aw_aload_n (pc := 142) C (i := 0) dX11_on_142 rfl rfl <|
    aw_iload (pc := 143) C (i := 4) dX11_on_143 rfl <|
    aw_iload (pc := 145) C (i := 9) dX11_on_145 rfl <|
    aw_iadd (pc := 147) C dX11_on_147 <|
    aw_iload (pc := 148) C (i := 8) dX11_on_148 rfl <|
    aw_iload (pc := 150) C (i := 9) dX11_on_150 rfl <|
    aw_ishr (pc := 152) C dX11_on_152 <|
    aw_iconst (pc := 153) C (v := 1) dX11_on_153 rfl <|
    aw_iand (pc := 154) C dX11_on_154 <|
    aw_iconst (pc := 155) C (v := 1) dX11_on_155 rfl <|
    aw_icmp_ne (pc := 156) C (tgt := 172) dX11_on_156 rfl (fun _ =>
    aw_aload_n (pc := 159) C (i := 0) dX11_on_159 rfl rfl <|
    aw_getR (pc := 160) C (b := 24) dX11_on_160 fl_X11_80 sR_0 rfl rR_0_35 <|
    aw_iload (pc := 163) C (i := 4) dX11_on_163 rfl <|
    aw_iload (pc := 165) C (i := 9) dX11_on_165 rfl <|
    aw_iadd (pc := 167) C dX11_on_167 <|
    aw_iald (pc := 168) C dX11_on_168 sR_24 rfl <|
    aw_goto (pc := 169) C (tgt := 173) dX11_on_169 rfl <|
    (aX11_on_j173 C v1 v2 v4 v5 v6 v8 v9 K114 hK114 (X11_on_l135 v1 v2 v4 v5 v6 v8 K114 n) ih (h.1 24 (v4 + v9).toNatClampNeg) (v4 + v9) h)) (fun _ =>
    aw_iconst (pc := 172) C (v := 0) dX11_on_172 rfl <|
    (aX11_on_j173 C v1 v2 v4 v5 v6 v8 v9 K114 hK114 (X11_on_l135 v1 v2 v4 v5 v6 v8 K114 n) ih 0 (v4 + v9) h)))
def X11_on_l114  (v1 : Int32) (v2 : Int32) (v4 : Int32) (v5 : Int32) : Nat → Int64 → Int32 → AH → Option (Int64 × AH)
  | 0, _, _, _ => none
  | n + 1, v6, v8, h =>
    if (shl32 1 v5) ≤ v8 then (bd (X11_partOf v6 (shl64 1 v5) v2 h) fun r9 h10 =>
    some (r9, h10))
    else (bd (X11_findBest 0 (h.1 0 16) h) fun _ h12 =>
    X11_on_l135 v1 v2 v4 v5 v6 v8 (X11_on_l114 v1 v2 v4 v5 n) FU 0 h12)
set_option maxRecDepth 100000 in
theorem aX11_on_l114 {X : MCx} {yd : Dyn} {A : Nat → Prop} (C : OK X cX11_on RX11 10 (some .long) rmX11_on A)  (v1 : Int32) (v2 : Int32) (v4 : Int32) (v5 : Int32) : ∀ (n : Nat) (v6 : Int64) (v8 : Int32) (h : AH), AW X 10 ZR yd A 0 0 (QF X rmX11_on ZR yd rvL A) 114 [(0, .ref 0), (1, .int v1), (2, .int v2), (4, .int v4), (5, .int v5), (6, .long v6), (8, .int v8)] [] h (X11_on_l114 v1 v2 v4 v5 n v6 v8 h) := by
  intro n
  induction n with
  | zero => intro v6 v8 h; exact aw_none
  | succ n ih =>
    intro v6 v8 h
    exact aw_iload (pc := 114) C (i := 8) dX11_on_114 rfl <|
    aw_iconst (pc := 116) C (v := 1) dX11_on_116 rfl <|
    aw_iload (pc := 117) C (i := 5) dX11_on_117 rfl <|
    aw_ishl (pc := 119) C dX11_on_119 <|
    aw_icmp_ge (pc := 120) C (tgt := 214) dX11_on_120 rfl (fun _ =>
    aw_lload (pc := 214) C (i := 6) dX11_on_214 rfl <|
    aw_lconst (pc := 216) C (v := 1) dX11_on_216 rfl <|
    aw_iload (pc := 217) C (i := 5) dX11_on_217 rfl <|
    aw_lshl (pc := 219) C dX11_on_219 <|
    aw_iload_n (pc := 220) C (i := 2) dX11_on_220 rfl rfl <|
    aw_callF (pc := 221) C (cr_S (rest := []) (F := (X11_partOf v6 (shl64 1 v5) v2)) C (c_X11_partOf X.2.1 v6 (shl64 1 v5) v2) dX11_on_221 mf_X11_partOf ml_X11_250 st_X11_partOf ⟨(Nat.le_of_ble_eq_true rfl), (Nat.le_of_ble_eq_true rfl)⟩ rfl rfl (Nat.le_of_ble_eq_true rfl)) rfl rfl rfl (Nat.zero_le _) (Nat.zero_le _) fun r9 h10 =>
    aw_lret (pc := 224) C dX11_on_224 rfl rfl) (fun _ =>
    aw_aload_n (pc := 123) C (i := 0) dX11_on_123 rfl rfl <|
    aw_iconst (pc := 124) C (v := 0) dX11_on_124 rfl <|
    aw_aload_n (pc := 125) C (i := 0) dX11_on_125 rfl rfl <|
    aw_getI (pc := 126) C dX11_on_126 fl_X11_147 sR_0 rfl <|
    aw_callF (pc := 129) C (cr_V (rest := []) (F := (X11_findBest 0 (h.1 0 16))) C (c_X11_findBest X.2.1 0 (h.1 0 16)) dX11_on_129 mf_X11_findBest ml_X11_213 im_X11_findBest se_X11_findBest sR_0 rfl ⟨(Nat.le_of_ble_eq_true rfl), (Nat.le_of_ble_eq_true rfl)⟩ rfl rfl (Nat.le_of_ble_eq_true rfl)) rfl rfl rfl (Nat.zero_le _) (Nat.zero_le _) fun _ h12 =>
    aw_iconst (pc := 132) C (v := 0) dX11_on_132 rfl <|
    aw_istore (pc := 133) C (i := 9) (lv' := [(0, .ref 0), (1, .int v1), (2, .int v2), (4, .int v4), (5, .int v5), (6, .long v6), (8, .int v8), (9, .int 0)]) dX11_on_133 (by decide) rfl <|
    (aX11_on_l135 C v1 v2 v4 v5 v6 v8 (X11_on_l114 v1 v2 v4 v5 n) ih FU 0 h12))
def X11_on_l74  (v1 : Int32) (v2 : Int32) (v4 : Int32) (v5 : Int32) : Nat → Int32 → AH → Option (Int64 × AH)
  | 0, _, _ => none
  | n + 1, v6, h =>
    if (h.1 0 15) ≤ v6 then (X11_on_l114 v1 v2 v4 v5 FU 0 0 h)
    else (bd (X11_meanParts v6 h) fun r24 h25 =>
    bd (X11_allWays h25) fun r26 h27 =>
    if r26 = 0 then none else (ck v6 4 (vl (sI h27 24 v6.toNatClampNeg ((r24 / r26).toInt32)) fun h28 =>
    vl (v6 + 1) fun x29 =>
    (X11_on_l74 v1 v2 v4 v5 n) x29 h28)))
set_option maxRecDepth 100000 in
theorem aX11_on_l74 {X : MCx} {yd : Dyn} {A : Nat → Prop} (C : OK X cX11_on RX11 10 (some .long) rmX11_on A)  (v1 : Int32) (v2 : Int32) (v4 : Int32) (v5 : Int32) : ∀ (n : Nat) (v6 : Int32) (h : AH), AW X 10 ZR yd A 0 0 (QF X rmX11_on ZR yd rvL A) 74 [(0, .ref 0), (1, .int v1), (2, .int v2), (4, .int v4), (5, .int v5), (6, .int v6)] [] h (X11_on_l74 v1 v2 v4 v5 n v6 h) := by
  intro n
  induction n with
  | zero => intro v6 h; exact aw_none
  | succ n ih =>
    intro v6 h
    exact aw_iload (pc := 74) C (i := 6) dX11_on_74 rfl <|
    aw_aload_n (pc := 76) C (i := 0) dX11_on_76 rfl rfl <|
    aw_getI (pc := 77) C dX11_on_77 fl_X11_105 sR_0 rfl <|
    aw_icmp_ge (pc := 80) C (tgt := 108) dX11_on_80 rfl (fun _ =>
    aw_lconst (pc := 108) C (v := 0) dX11_on_108 rfl <|
    aw_lstore (pc := 109) C (i := 6) (lv' := [(0, .ref 0), (1, .int v1), (2, .int v2), (4, .int v4), (5, .int v5), (6, .long 0)]) dX11_on_109 (by decide) rfl <|
    aw_iconst (pc := 111) C (v := 0) dX11_on_111 rfl <|
    aw_istore (pc := 112) C (i := 8) (lv' := [(0, .ref 0), (1, .int v1), (2, .int v2), (4, .int v4), (5, .int v5), (6, .long 0), (8, .int 0)]) dX11_on_112 (by decide) rfl <|
    (aX11_on_l114 C v1 v2 v4 v5 FU 0 0 h)) (fun _ =>
    aw_aload_n (pc := 83) C (i := 0) dX11_on_83 rfl rfl <|
    aw_getR (pc := 84) C (b := 24) dX11_on_84 fl_X11_80 sR_0 rfl rR_0_35 <|
    aw_iload (pc := 87) C (i := 6) dX11_on_87 rfl <|
    aw_aload_n (pc := 89) C (i := 0) dX11_on_89 rfl rfl <|
    aw_iload (pc := 90) C (i := 6) dX11_on_90 rfl <|
    aw_callF (pc := 92) C (cr_V (rest := [.int v6, .ref 24]) (F := (X11_meanParts v6)) C (c_X11_meanParts X.2.1 v6) dX11_on_92 mf_X11_meanParts ml_X11_254 im_X11_meanParts se_X11_meanParts sR_0 rfl ⟨(Nat.le_of_ble_eq_true rfl), (Nat.le_of_ble_eq_true rfl)⟩ rfl rfl (Nat.le_of_ble_eq_true rfl)) rfl rfl rfl (Nat.zero_le _) (Nat.zero_le _) fun r24 h25 =>
    aw_aload_n (pc := 95) C (i := 0) dX11_on_95 rfl rfl <|
    aw_callF (pc := 96) C (cr_V (rest := [.long r24, .int v6, .ref 24]) (F := X11_allWays) C (c_X11_allWays X.2.1 ) dX11_on_96 mf_X11_allWays ml_X11_246 im_X11_allWays se_X11_allWays sR_0 rfl ⟨(Nat.le_of_ble_eq_true rfl), (Nat.le_of_ble_eq_true rfl)⟩ rfl rfl (Nat.le_of_ble_eq_true rfl)) rfl rfl rfl (Nat.zero_le _) (Nat.zero_le _) fun r26 h27 =>
    aw_ldiv (pc := 99) C dX11_on_99 <|
    aw_l2i (pc := 100) C dX11_on_100 <|
    aw_iast (pc := 101) C dX11_on_101 sR_24 rfl fun h28 =>
    aw_iincV (pc := 102) C (i := 6) (cst := 1) (fun x29 => [(0, .ref 0), (1, .int v1), (2, .int v2), (4, .int v4), (5, .int v5), (6, .int x29)]) dX11_on_102 rfl rfl (by decide) (fun _ => rfl) fun x29 =>
    aw_goto (pc := 105) C (tgt := 74) dX11_on_105 rfl <|
    (ih x29 h28))
def X11_on_j40  (v1 : Int32) (v2 : Int32) (s0 : Int32) (h : AH) : Option (Int64 × AH) :=
    if s0 = 0 then (if (h.1 0 15) = 0 then none else (vl (rm32 (h.1 0 16) (h.1 0 15)) fun x7 =>
    vl ((h.1 0 15) - x7) fun x8 =>
    X11_on_l74 v1 v2 x7 x8 FU 0 h))
    else (bd (X11_lowest s0 h) fun r30 h31 =>
    some (r30, h31))
set_option maxRecDepth 100000 in
theorem aX11_on_j40 {X : MCx} {yd : Dyn} {A : Nat → Prop} (C : OK X cX11_on RX11 10 (some .long) rmX11_on A)  (v1 : Int32) (v2 : Int32) (s0 : Int32) (h : AH) : AW X 10 ZR yd A 0 0 (QF X rmX11_on ZR yd rvL A) 40 [(0, .ref 0), (1, .int v1), (2, .int v2)] [.int s0] h (X11_on_j40 v1 v2 s0 h) := by
    exact aw_istore_n (pc := 40) C (i := 3) (lv' := [(0, .ref 0), (1, .int v1), (2, .int v2), (3, .int s0)]) dX11_on_40 rfl (by decide) rfl <|
    aw_iload_n (pc := 41) C (i := 3) dX11_on_41 rfl rfl <|
    aw_if_eq (pc := 42) C (tgt := 51) dX11_on_42 rfl (fun _ =>
    aw_aload_n (pc := 51) C (i := 0) dX11_on_51 rfl rfl <|
    aw_getI (pc := 52) C dX11_on_52 fl_X11_147 sR_0 rfl <|
    aw_aload_n (pc := 55) C (i := 0) dX11_on_55 rfl rfl <|
    aw_getI (pc := 56) C dX11_on_56 fl_X11_105 sR_0 rfl <|
    aw_irem (pc := 59) C dX11_on_59 <|
    aw_istoreV (pc := 60) C (i := 4) (fun x7 => [(0, .ref 0), (1, .int v1), (2, .int v2), (3, .int s0), (4, .int x7)]) dX11_on_60 (by decide) (fun _ => rfl) fun x7 =>
    aw_aload_n (pc := 62) C (i := 0) dX11_on_62 rfl rfl <|
    aw_getI (pc := 63) C dX11_on_63 fl_X11_105 sR_0 rfl <|
    aw_iload (pc := 66) C (i := 4) dX11_on_66 rfl <|
    aw_isub (pc := 68) C dX11_on_68 <|
    aw_istoreV (pc := 69) C (i := 5) (fun x8 => [(0, .ref 0), (1, .int v1), (2, .int v2), (3, .int s0), (4, .int x7), (5, .int x8)]) dX11_on_69 (by decide) (fun _ => rfl) fun x8 =>
    aw_iconst (pc := 71) C (v := 0) dX11_on_71 rfl <|
    aw_istore (pc := 72) C (i := 6) (lv' := [(0, .ref 0), (1, .int v1), (2, .int v2), (3, .int s0), (4, .int x7), (5, .int x8), (6, .int 0)]) dX11_on_72 (by decide) rfl <|
    aw_drop [0, 1, 2, 4, 5, 6] (aX11_on_l74 C v1 v2 x7 x8 FU 0 h)) (fun _ =>
    aw_aload_n (pc := 45) C (i := 0) dX11_on_45 rfl rfl <|
    aw_iload_n (pc := 46) C (i := 3) dX11_on_46 rfl rfl <|
    aw_callF (pc := 47) C (cr_V (rest := []) (F := (X11_lowest s0)) C (c_X11_lowest X.2.1 s0) dX11_on_47 mf_X11_lowest ml_X11_238 im_X11_lowest se_X11_lowest sR_0 rfl ⟨(Nat.le_of_ble_eq_true rfl), (Nat.le_of_ble_eq_true rfl)⟩ rfl rfl (Nat.le_of_ble_eq_true rfl)) rfl rfl rfl (Nat.zero_le _) (Nat.zero_le _) fun r30 h31 =>
    aw_lret (pc := 50) C dX11_on_50 rfl rfl)
def X11_on (v1 : Int32) (v2 : Int32) (h : AH) : Option (Int64 × AH) :=
    bd (X11_isJumper v1 h) fun r1 h2 =>
    if r1 = 0 then (X11_on_j40 v1 v2 (-1) h2)
    else (bd (X11_isIn v2 0 1 h2) fun r3 h4 =>
    if r3 = 0 then (X11_on_j40 v1 v2 (-2) h4)
    else (bd (X11_roundNow h4) fun r5 h6 =>
    if r5 ≤ 2 then (X11_on_j40 v1 v2 0 h6)
    else (X11_on_j40 v1 v2 (-3) h6)))
set_option maxRecDepth 100000 in
theorem c_X11_on (l : Launch) (v1 : Int32) (v2 : Int32) : MC l yX11_on cX11_on 10 (some .long) rmX11_on ZR [.ref 0, .int v1, .int v2] rvL (X11_on v1 v2) :=
  MC.of (own := RX11) (by decide +kernel) rfl (Nat.le_of_ble_eq_true rfl) fun X yd A h _ C =>
    aw_aload_n (pc := 0) C (i := 0) dX11_on_0 rfl rfl <|
    aw_iload_n (pc := 1) C (i := 1) dX11_on_1 rfl rfl <|
    aw_callF (pc := 2) C (cr_V (rest := []) (F := (X11_isJumper v1)) C (c_X11_isJumper X.2.1 v1) dX11_on_2 mf_X11_isJumper ml_X11_207 im_X11_isJumper se_X11_isJumper sR_0 rfl ⟨(Nat.le_of_ble_eq_true rfl), (Nat.le_of_ble_eq_true rfl)⟩ rfl rfl (Nat.le_of_ble_eq_true rfl)) rfl rfl rfl (Nat.zero_le _) (Nat.zero_le _) fun r1 h2 =>
    aw_if_ne (pc := 5) C (tgt := 12) dX11_on_5 rfl (fun _ =>
    aw_iconst (pc := 8) C (v := (-1)) dX11_on_8 rfl <|
    aw_goto (pc := 9) C (tgt := 40) dX11_on_9 rfl <|
    (aX11_on_j40 C v1 v2 (-1) h2)) (fun _ =>
    aw_iload_n (pc := 12) C (i := 2) dX11_on_12 rfl rfl <|
    aw_iconst (pc := 13) C (v := 0) dX11_on_13 rfl <|
    aw_iconst (pc := 14) C (v := 1) dX11_on_14 rfl <|
    aw_callF (pc := 15) C (cr_S (rest := []) (F := (X11_isIn v2 0 1)) C (c_X11_isIn X.2.1 v2 0 1) dX11_on_15 mf_X11_isIn ml_X11_126 st_X11_isIn ⟨(Nat.le_of_ble_eq_true rfl), (Nat.le_of_ble_eq_true rfl)⟩ rfl rfl (Nat.le_of_ble_eq_true rfl)) rfl rfl rfl (Nat.zero_le _) (Nat.zero_le _) fun r3 h4 =>
    aw_if_ne (pc := 18) C (tgt := 26) dX11_on_18 rfl (fun _ =>
    aw_bipush (pc := 21) C (v := (-2)) dX11_on_21 rfl <|
    aw_goto (pc := 23) C (tgt := 40) dX11_on_23 rfl <|
    (aX11_on_j40 C v1 v2 (-2) h4)) (fun _ =>
    aw_aload_n (pc := 26) C (i := 0) dX11_on_26 rfl rfl <|
    aw_callF (pc := 27) C (cr_V (rest := []) (F := X11_roundNow) C (c_X11_roundNow X.2.1 ) dX11_on_27 mf_X11_roundNow ml_X11_301 im_X11_roundNow se_X11_roundNow sR_0 rfl ⟨(Nat.le_of_ble_eq_true rfl), (Nat.le_of_ble_eq_true rfl)⟩ rfl rfl (Nat.le_of_ble_eq_true rfl)) rfl rfl rfl (Nat.zero_le _) (Nat.zero_le _) fun r5 h6 =>
    aw_iconst (pc := 30) C (v := 2) dX11_on_30 rfl <|
    aw_icmp_le (pc := 31) C (tgt := 39) dX11_on_31 rfl (fun _ =>
    aw_iconst (pc := 39) C (v := 0) dX11_on_39 rfl <|
    (aX11_on_j40 C v1 v2 0 h6)) (fun _ =>
    aw_bipush (pc := 34) C (v := (-3)) dX11_on_34 rfl <|
    aw_goto (pc := 36) C (tgt := 40) dX11_on_36 rfl <|
    (aX11_on_j40 C v1 v2 (-3) h6))))

abbrev rmX11_row : Room := { frames := 1, cells := 0, slots := 0, locals := 22 }
def X11_row_j24  (v1 : Int32) (v2 : Int32) (h : AH) : Option (Int32 × AH) :=
    if v2 = 0 then (ck (h.1 0 34) 12 (vl (sI h 23 (h.1 0 34).toNatClampNeg v1) fun h3 =>
    vl (sI h3 0 34 ((h3.1 0 34) + 1)) fun h4 =>
    some ((h4.1 0 34), h4)))
    else (bd (X11_no v2 h) fun r5 h6 =>
    some (r5, h6))
set_option maxRecDepth 100000 in
theorem aX11_row_j24 {X : MCx} {yd : Dyn} {A : Nat → Prop} (C : OK X cX11_row RX11 3 (some .int) rmX11_row A)  (v1 : Int32) (v2 : Int32) (h : AH) : AW X 3 ZR yd A 0 0 (QF X rmX11_row ZR yd rvI A) 24 [(0, .ref 0), (1, .int v1), (2, .int v2)] [] h (X11_row_j24 v1 v2 h) := by
    exact aw_iload_n (pc := 24) C (i := 2) dX11_row_24 rfl rfl <|
    aw_if_eq (pc := 25) C (tgt := 34) dX11_row_25 rfl (fun _ =>
    aw_aload_n (pc := 34) C (i := 0) dX11_row_34 rfl rfl <|
    aw_getR (pc := 35) C (b := 23) dX11_row_35 fl_X11_77 sR_0 rfl rR_0_33 <|
    aw_aload_n (pc := 38) C (i := 0) dX11_row_38 rfl rfl <|
    aw_getI (pc := 39) C dX11_row_39 fl_X11_295 sR_0 rfl <|
    aw_iload_n (pc := 42) C (i := 1) dX11_row_42 rfl rfl <|
    aw_iast (pc := 43) C dX11_row_43 sR_23 rfl fun h3 =>
    aw_aload_n (pc := 44) C (i := 0) dX11_row_44 rfl rfl <|
    aw_dup (pc := 45) C dX11_row_45 rfl <|
    aw_getI (pc := 46) C dX11_row_46 fl_X11_295 sR_0 rfl <|
    aw_iconst (pc := 49) C (v := 1) dX11_row_49 rfl <|
    aw_iadd (pc := 50) C dX11_row_50 <|
    aw_putI (pc := 51) C dX11_row_51 fp_X11_295 sR_0 rfl fun h4 =>
    aw_aload_n (pc := 54) C (i := 0) dX11_row_54 rfl rfl <|
    aw_getI (pc := 55) C dX11_row_55 fl_X11_295 sR_0 rfl <|
    aw_iret (pc := 58) C dX11_row_58 rfl rfl) (fun _ =>
    aw_aload_n (pc := 28) C (i := 0) dX11_row_28 rfl rfl <|
    aw_iload_n (pc := 29) C (i := 2) dX11_row_29 rfl rfl <|
    aw_callF (pc := 30) C (cr_V (rest := []) (F := (X11_no v2)) C (c_X11_no X.2.1 v2) dX11_row_30 mf_X11_no ml_X11_115 im_X11_no se_X11_no sR_0 rfl ⟨(Nat.le_of_ble_eq_true rfl), (Nat.le_of_ble_eq_true rfl)⟩ rfl rfl (Nat.le_of_ble_eq_true rfl)) rfl rfl rfl (Nat.zero_le _) (Nat.zero_le _) fun r5 h6 =>
    aw_iret (pc := 33) C dX11_row_33 rfl rfl)
def X11_row (v1 : Int32) (h : AH) : Option (Int32 × AH) :=
    bd (X11_bound v1 0 99 h) fun r1 h2 =>
    if r1 = 0 then (if (h2.1 0 34) = 12 then (vl (-6) fun x7 =>
    X11_row_j24 v1 x7 h2)
    else (X11_row_j24 v1 r1 h2))
    else (X11_row_j24 v1 r1 h2)
set_option maxRecDepth 100000 in
theorem c_X11_row (l : Launch) (v1 : Int32) : MC l yX11_row cX11_row 3 (some .int) rmX11_row ZR [.ref 0, .int v1] rvI (X11_row v1) :=
  MC.of (own := RX11) (by decide +kernel) rfl (Nat.le_of_ble_eq_true rfl) fun X yd A h _ C =>
    aw_iload_n (pc := 0) C (i := 1) dX11_row_0 rfl rfl <|
    aw_iconst (pc := 1) C (v := 0) dX11_row_1 rfl <|
    aw_bipush (pc := 2) C (v := 99) dX11_row_2 rfl <|
    aw_callF (pc := 4) C (cr_S (rest := []) (F := (X11_bound v1 0 99)) C (c_X11_bound X.2.1 v1 0 99) dX11_row_4 mf_X11_bound ml_X11_108 st_X11_bound ⟨(Nat.le_of_ble_eq_true rfl), (Nat.le_of_ble_eq_true rfl)⟩ rfl rfl (Nat.le_of_ble_eq_true rfl)) rfl rfl rfl (Nat.zero_le _) (Nat.zero_le _) fun r1 h2 =>
    aw_istore_n (pc := 7) C (i := 2) (lv' := [(0, .ref 0), (1, .int v1), (2, .int r1)]) dX11_row_7 rfl (by decide) rfl <|
    aw_iload_n (pc := 8) C (i := 2) dX11_row_8 rfl rfl <|
    aw_if_ne (pc := 9) C (tgt := 24) dX11_row_9 rfl (fun _ =>
    aw_aload_n (pc := 12) C (i := 0) dX11_row_12 rfl rfl <|
    aw_getI (pc := 13) C dX11_row_13 fl_X11_295 sR_0 rfl <|
    aw_bipush (pc := 16) C (v := 12) dX11_row_16 rfl <|
    aw_icmp_ne (pc := 18) C (tgt := 24) dX11_row_18 rfl (fun _ =>
    aw_bipush (pc := 21) C (v := (-6)) dX11_row_21 rfl <|
    aw_istoreV_n (pc := 23) C (i := 2) (fun x7 => [(0, .ref 0), (1, .int v1), (2, .int x7)]) dX11_row_23 rfl (by decide) (fun _ => rfl) fun x7 =>
    (aX11_row_j24 C v1 x7 h2)) (fun _ =>
    (aX11_row_j24 C v1 r1 h2))) (fun _ =>
    (aX11_row_j24 C v1 r1 h2))

abbrev rmX11_isOther : Room := { frames := 6, cells := 0, slots := 0, locals := 130 }
def X11_isOther_j34  (v1 : Int32) (v3 : Int32) (s0 : Int32) (s1 : Int32) (h : AH) : Option (Int32 × AH) :=
    bd (X11_putsTry s1 s0 v1 h) fun _ h8 =>
    bd (X11_leader h8) fun r9 h10 =>
    if r9 = v3 then (cz 0 (some (0, h10)))
    else (cz 1 (some (1, h10)))
set_option maxRecDepth 100000 in
theorem aX11_isOther_j34 {X : MCx} {yd : Dyn} {A : Nat → Prop} (C : OK X cX11_isOther RX11 4 (some .boolean) rmX11_isOther A)  (v1 : Int32) (v3 : Int32) (s0 : Int32) (s1 : Int32) (h : AH) : AW X 4 ZR yd A 0 0 (QF X rmX11_isOther ZR yd rvI A) 34 [(0, .ref 0), (1, .int v1), (3, .int v3)] [.int s0, .int s1, .ref 0] h (X11_isOther_j34 v1 v3 s0 s1 h) := by
    exact aw_iload_n (pc := 34) C (i := 1) dX11_isOther_34 rfl rfl <|
    aw_callF (pc := 35) C (cr_V (rest := []) (F := (X11_putsTry s1 s0 v1)) C (c_X11_putsTry X.2.1 s1 s0 v1) dX11_isOther_35 mf_X11_putsTry ml_X11_153 im_X11_putsTry se_X11_putsTry sR_0 rfl ⟨(Nat.le_of_ble_eq_true rfl), (Nat.le_of_ble_eq_true rfl)⟩ rfl rfl (Nat.le_of_ble_eq_true rfl)) rfl rfl rfl (Nat.zero_le _) (Nat.zero_le _) fun _ h8 =>
    aw_aload_n (pc := 38) C (i := 0) dX11_isOther_38 rfl rfl <|
    aw_callF (pc := 39) C (cr_V (rest := []) (F := X11_leader) C (c_X11_leader X.2.1 ) dX11_isOther_39 mf_X11_leader ml_X11_283 im_X11_leader se_X11_leader sR_0 rfl ⟨(Nat.le_of_ble_eq_true rfl), (Nat.le_of_ble_eq_true rfl)⟩ rfl rfl (Nat.le_of_ble_eq_true rfl)) rfl rfl rfl (Nat.zero_le _) (Nat.zero_le _) fun r9 h10 =>
    aw_iload_n (pc := 42) C (i := 3) dX11_isOther_42 rfl rfl <|
    aw_icmp_eq (pc := 43) C (tgt := 50) dX11_isOther_43 rfl (fun _ =>
    aw_iconst (pc := 50) C (v := 0) dX11_isOther_50 rfl <|
    aw_zret (pc := 51) C dX11_isOther_51 rfl rfl) (fun _ =>
    aw_iconst (pc := 46) C (v := 1) dX11_isOther_46 rfl <|
    aw_goto (pc := 47) C (tgt := 51) dX11_isOther_47 rfl <|
    aw_zret (pc := 51) C dX11_isOther_51 rfl rfl)
def X11_isOther (v1 : Int32) (h : AH) : Option (Int32 × AH) :=
    bd (X11_turnNow h) fun r1 h2 =>
    if 0 ≤ r1 then (bd (X11_leader h2) fun r3 h4 =>
    if 0 ≤ v1 then (bd (X11_lengthOf r1 v1 0 h4) fun r5 h6 =>
    X11_isOther_j34 v1 r3 r5 r1 h6)
    else (X11_isOther_j34 v1 r3 (-9) r1 h4))
    else (cz 1 (some (1, h2)))
set_option maxRecDepth 100000 in
theorem c_X11_isOther (l : Launch) (v1 : Int32) : MC l yX11_isOther cX11_isOther 4 (some .boolean) rmX11_isOther ZR [.ref 0, .int v1] rvI (X11_isOther v1) :=
  MC.of (own := RX11) (by decide +kernel) rfl (Nat.le_of_ble_eq_true rfl) fun X yd A h _ C =>
    aw_aload_n (pc := 0) C (i := 0) dX11_isOther_0 rfl rfl <|
    aw_callF (pc := 1) C (cr_V (rest := []) (F := X11_turnNow) C (c_X11_turnNow X.2.1 ) dX11_isOther_1 mf_X11_turnNow ml_X11_150 im_X11_turnNow se_X11_turnNow sR_0 rfl ⟨(Nat.le_of_ble_eq_true rfl), (Nat.le_of_ble_eq_true rfl)⟩ rfl rfl (Nat.le_of_ble_eq_true rfl)) rfl rfl rfl (Nat.zero_le _) (Nat.zero_le _) fun r1 h2 =>
    aw_istore_n (pc := 4) C (i := 2) (lv' := [(0, .ref 0), (1, .int v1), (2, .int r1)]) dX11_isOther_4 rfl (by decide) rfl <|
    aw_iload_n (pc := 5) C (i := 2) dX11_isOther_5 rfl rfl <|
    aw_if_ge (pc := 6) C (tgt := 11) dX11_isOther_6 rfl (fun _ =>
    aw_aload_n (pc := 11) C (i := 0) dX11_isOther_11 rfl rfl <|
    aw_callF (pc := 12) C (cr_V (rest := []) (F := X11_leader) C (c_X11_leader X.2.1 ) dX11_isOther_12 mf_X11_leader ml_X11_283 im_X11_leader se_X11_leader sR_0 rfl ⟨(Nat.le_of_ble_eq_true rfl), (Nat.le_of_ble_eq_true rfl)⟩ rfl rfl (Nat.le_of_ble_eq_true rfl)) rfl rfl rfl (Nat.zero_le _) (Nat.zero_le _) fun r3 h4 =>
    aw_istore_n (pc := 15) C (i := 3) (lv' := [(0, .ref 0), (1, .int v1), (2, .int r1), (3, .int r3)]) dX11_isOther_15 rfl (by decide) rfl <|
    aw_aload_n (pc := 16) C (i := 0) dX11_isOther_16 rfl rfl <|
    aw_iload_n (pc := 17) C (i := 2) dX11_isOther_17 rfl rfl <|
    aw_iload_n (pc := 18) C (i := 1) dX11_isOther_18 rfl rfl <|
    aw_if_ge (pc := 19) C (tgt := 27) dX11_isOther_19 rfl (fun _ =>
    aw_aload_n (pc := 27) C (i := 0) dX11_isOther_27 rfl rfl <|
    aw_iload_n (pc := 28) C (i := 2) dX11_isOther_28 rfl rfl <|
    aw_iload_n (pc := 29) C (i := 1) dX11_isOther_29 rfl rfl <|
    aw_iconst (pc := 30) C (v := 0) dX11_isOther_30 rfl <|
    aw_callF (pc := 31) C (cr_V (rest := [.int r1, .ref 0]) (F := (X11_lengthOf r1 v1 0)) C (c_X11_lengthOf X.2.1 r1 v1 0) dX11_isOther_31 mf_X11_lengthOf ml_X11_163 im_X11_lengthOf se_X11_lengthOf sR_0 rfl ⟨(Nat.le_of_ble_eq_true rfl), (Nat.le_of_ble_eq_true rfl)⟩ rfl rfl (Nat.le_of_ble_eq_true rfl)) rfl rfl rfl (Nat.zero_le _) (Nat.zero_le _) fun r5 h6 =>
    aw_drop [0, 1, 3] (aX11_isOther_j34 C v1 r3 r5 r1 h6)) (fun _ =>
    aw_bipush (pc := 22) C (v := (-9)) dX11_isOther_22 rfl <|
    aw_goto (pc := 24) C (tgt := 34) dX11_isOther_24 rfl <|
    aw_drop [0, 1, 3] (aX11_isOther_j34 C v1 r3 (-9) r1 h4))) (fun _ =>
    aw_iconst (pc := 9) C (v := 1) dX11_isOther_9 rfl <|
    aw_zret (pc := 10) C dX11_isOther_10 rfl rfl)

abbrev rmX11_judge : Room := { frames := 7, cells := 0, slots := 0, locals := 153 }
def X11_judge_j62  (v2 : Int32) (v3 : Int32) (h : AH) : Option (Int32 × AH) :=
    vl (sI h 0 16 v2) fun h5 =>
    some (v3, h5)
set_option maxRecDepth 100000 in
theorem aX11_judge_j62 {X : MCx} {yd : Dyn} {A : Nat → Prop} (C : OK X cX11_judge RX11 5 (some .int) rmX11_judge A)  (v2 : Int32) (v3 : Int32) (h : AH) : AW X 5 ZR yd A 0 0 (QF X rmX11_judge ZR yd rvI A) 62 [(0, .ref 0), (2, .int v2), (3, .int v3)] [] h (X11_judge_j62 v2 v3 h) := by
    exact aw_aload_n (pc := 62) C (i := 0) dX11_judge_62 rfl rfl <|
    aw_iload_n (pc := 63) C (i := 2) dX11_judge_63 rfl rfl <|
    aw_putI (pc := 64) C dX11_judge_64 fp_X11_147 sR_0 rfl fun h5 =>
    aw_iload_n (pc := 67) C (i := 3) dX11_judge_67 rfl rfl <|
    aw_iret (pc := 68) C dX11_judge_68 rfl rfl
def X11_judge_j55  (v1 : Int32) (v2 : Int32) (v4 : Int32) (K21 : Int32 → Int32 → AH → Option (Int32 × AH)) (s0 : Int32) (h : AH) : Option (Int32 × AH) :=
    vl (v4 + 1) fun x8 =>
    K21 s0 x8 h
set_option maxRecDepth 100000 in
theorem aX11_judge_j55 {X : MCx} {yd : Dyn} {A : Nat → Prop} (C : OK X cX11_judge RX11 5 (some .int) rmX11_judge A)  (v1 : Int32) (v2 : Int32) (v4 : Int32) (K21 : Int32 → Int32 → AH → Option (Int32 × AH)) (hK21 : ∀ (w3 : Int32) (w4 : Int32) (h : AH), AW X 5 ZR yd A 0 0 (QF X rmX11_judge ZR yd rvI A) 21 [(0, .ref 0), (1, .int v1), (2, .int v2), (3, .int w3), (4, .int w4)] [] h (K21 w3 w4 h)) (s0 : Int32) (h : AH) : AW X 5 ZR yd A 0 0 (QF X rmX11_judge ZR yd rvI A) 55 [(0, .ref 0), (1, .int v1), (2, .int v2), (4, .int v4)] [.int s0] h (X11_judge_j55 v1 v2 v4 K21 s0 h) := by
    exact aw_istore_n (pc := 55) C (i := 3) (lv' := [(0, .ref 0), (1, .int v1), (2, .int v2), (3, .int s0), (4, .int v4)]) dX11_judge_55 rfl (by decide) rfl <|
    aw_iincV (pc := 56) C (i := 4) (cst := 1) (fun x8 => [(0, .ref 0), (1, .int v1), (2, .int v2), (3, .int s0), (4, .int x8)]) dX11_judge_56 rfl rfl (by decide) (fun _ => rfl) fun x8 =>
    aw_goto (pc := 59) C (tgt := 21) dX11_judge_59 rfl <|
    (hK21 s0 x8 h)
def X11_judge_l21  (v1 : Int32) (v2 : Int32) : Nat → Int32 → Int32 → AH → Option (Int32 × AH)
  | 0, _, _, _ => none
  | n + 1, v3, v4, h =>
    if v1 ≤ v4 then (X11_judge_j62 v2 v3 h)
    else (if 0 ≤ v3 then (X11_judge_j62 v2 v3 h)
    else (ck v4 12 (bd (X11_isOther ((h.1 23 v4.toNatClampNeg) - 50) h) fun r6 h7 =>
    if r6 = 0 then (X11_judge_j55 v1 v2 v4 (X11_judge_l21 v1 v2 n) (-9) h7)
    else (X11_judge_j55 v1 v2 v4 (X11_judge_l21 v1 v2 n) v4 h7))))
set_option maxRecDepth 100000 in
theorem aX11_judge_l21 {X : MCx} {yd : Dyn} {A : Nat → Prop} (C : OK X cX11_judge RX11 5 (some .int) rmX11_judge A)  (v1 : Int32) (v2 : Int32) : ∀ (n : Nat) (v3 : Int32) (v4 : Int32) (h : AH), AW X 5 ZR yd A 0 0 (QF X rmX11_judge ZR yd rvI A) 21 [(0, .ref 0), (1, .int v1), (2, .int v2), (3, .int v3), (4, .int v4)] [] h (X11_judge_l21 v1 v2 n v3 v4 h) := by
  intro n
  induction n with
  | zero => intro v3 v4 h; exact aw_none
  | succ n ih =>
    intro v3 v4 h
    exact aw_iload (pc := 21) C (i := 4) dX11_judge_21 rfl <|
    aw_iload_n (pc := 23) C (i := 1) dX11_judge_23 rfl rfl <|
    aw_icmp_ge (pc := 24) C (tgt := 62) dX11_judge_24 rfl (fun _ =>
    aw_drop [0, 2, 3] (aX11_judge_j62 C v2 v3 h)) (fun _ =>
    aw_iload_n (pc := 27) C (i := 3) dX11_judge_27 rfl rfl <|
    aw_if_ge (pc := 28) C (tgt := 62) dX11_judge_28 rfl (fun _ =>
    aw_drop [0, 2, 3] (aX11_judge_j62 C v2 v3 h)) (fun _ =>
    aw_aload_n (pc := 31) C (i := 0) dX11_judge_31 rfl rfl <|
    aw_aload_n (pc := 32) C (i := 0) dX11_judge_32 rfl rfl <|
    aw_getR (pc := 33) C (b := 23) dX11_judge_33 fl_X11_77 sR_0 rfl rR_0_33 <|
    aw_iload (pc := 36) C (i := 4) dX11_judge_36 rfl <|
    aw_iald (pc := 38) C dX11_judge_38 sR_23 rfl <|
    aw_bipush (pc := 39) C (v := 50) dX11_judge_39 rfl <|
    aw_isub (pc := 41) C dX11_judge_41 <|
    aw_callF (pc := 42) C (cr_V (rest := []) (F := (X11_isOther ((h.1 23 v4.toNatClampNeg) - 50))) C (c_X11_isOther X.2.1 ((h.1 23 v4.toNatClampNeg) - 50)) dX11_judge_42 mf_X11_isOther ml_X11_304 im_X11_isOther se_X11_isOther sR_0 rfl ⟨(Nat.le_of_ble_eq_true rfl), (Nat.le_of_ble_eq_true rfl)⟩ rfl rfl (Nat.le_of_ble_eq_true rfl)) rfl rfl rfl (Nat.zero_le _) (Nat.zero_le _) fun r6 h7 =>
    aw_if_eq (pc := 45) C (tgt := 53) dX11_judge_45 rfl (fun _ =>
    aw_bipush (pc := 53) C (v := (-9)) dX11_judge_53 rfl <|
    aw_drop [0, 1, 2, 4] (aX11_judge_j55 C v1 v2 v4 (X11_judge_l21 v1 v2 n) ih (-9) h7)) (fun _ =>
    aw_iload (pc := 48) C (i := 4) dX11_judge_48 rfl <|
    aw_goto (pc := 50) C (tgt := 55) dX11_judge_50 rfl <|
    aw_drop [0, 1, 2, 4] (aX11_judge_j55 C v1 v2 v4 (X11_judge_l21 v1 v2 n) ih v4 h7))))
def X11_judge  (h : AH) : Option (Int32 × AH) :=
    vl (h.1 0 34) fun x1 =>
    vl (h.1 0 16) fun x2 =>
    vl (sI h 0 34 0) fun h3 =>
    vl (-9) fun x4 =>
    X11_judge_l21 x1 x2 FU x4 0 h3
set_option maxRecDepth 100000 in
theorem c_X11_judge (l : Launch)  : MC l yX11_judge cX11_judge 5 (some .int) rmX11_judge ZR [.ref 0] rvI (X11_judge) :=
  MC.of (own := RX11) (by decide +kernel) rfl (Nat.le_of_ble_eq_true rfl) fun X yd A h _ C =>
    aw_aload_n (pc := 0) C (i := 0) dX11_judge_0 rfl rfl <|
    aw_getI (pc := 1) C dX11_judge_1 fl_X11_295 sR_0 rfl <|
    aw_istoreV_n (pc := 4) C (i := 1) (fun x1 => [(0, .ref 0), (1, .int x1)]) dX11_judge_4 rfl (by decide) (fun _ => rfl) fun x1 =>
    aw_aload_n (pc := 5) C (i := 0) dX11_judge_5 rfl rfl <|
    aw_getI (pc := 6) C dX11_judge_6 fl_X11_147 sR_0 rfl <|
    aw_istoreV_n (pc := 9) C (i := 2) (fun x2 => [(0, .ref 0), (1, .int x1), (2, .int x2)]) dX11_judge_9 rfl (by decide) (fun _ => rfl) fun x2 =>
    aw_aload_n (pc := 10) C (i := 0) dX11_judge_10 rfl rfl <|
    aw_iconst (pc := 11) C (v := 0) dX11_judge_11 rfl <|
    aw_putI (pc := 12) C dX11_judge_12 fp_X11_295 sR_0 rfl fun h3 =>
    aw_bipush (pc := 15) C (v := (-9)) dX11_judge_15 rfl <|
    aw_istoreV_n (pc := 17) C (i := 3) (fun x4 => [(0, .ref 0), (1, .int x1), (2, .int x2), (3, .int x4)]) dX11_judge_17 rfl (by decide) (fun _ => rfl) fun x4 =>
    aw_iconst (pc := 18) C (v := 0) dX11_judge_18 rfl <|
    aw_istore (pc := 19) C (i := 4) (lv' := [(0, .ref 0), (1, .int x1), (2, .int x2), (3, .int x4), (4, .int 0)]) dX11_judge_19 (by decide) rfl <|
    (aX11_judge_l21 C x1 x2 FU x4 0 h3)

abbrev rmX11_clear : Room := { frames := 0, cells := 0, slots := 0, locals := 0 }
def X11_clear  (h : AH) : Option (Int32 × AH) :=
    vl (h.1 0 34) fun x1 =>
    vl (sI h 0 34 0) fun h2 =>
    some (x1, h2)
set_option maxRecDepth 100000 in
theorem c_X11_clear (l : Launch)  : MC l yX11_clear cX11_clear 2 (some .int) rmX11_clear ZR [.ref 0] rvI (X11_clear) :=
  MC.of (own := RX11) (by decide +kernel) rfl (Nat.le_of_ble_eq_true rfl) fun X yd A h _ C =>
    aw_aload_n (pc := 0) C (i := 0) dX11_clear_0 rfl rfl <|
    aw_getI (pc := 1) C dX11_clear_1 fl_X11_295 sR_0 rfl <|
    aw_istoreV_n (pc := 4) C (i := 1) (fun x1 => [(0, .ref 0), (1, .int x1)]) dX11_clear_4 rfl (by decide) (fun _ => rfl) fun x1 =>
    aw_aload_n (pc := 5) C (i := 0) dX11_clear_5 rfl rfl <|
    aw_iconst (pc := 6) C (v := 0) dX11_clear_6 rfl <|
    aw_putI (pc := 7) C dX11_clear_7 fp_X11_295 sR_0 rfl fun h2 =>
    aw_iload_n (pc := 10) C (i := 1) dX11_clear_10 rfl rfl <|
    aw_iret (pc := 11) C dX11_clear_11 rfl rfl

abbrev rmX11_partOfWays : Room := { frames := 1, cells := 0, slots := 0, locals := 20 }
def X11_partOfWays (v1 : Int64) (h : AH) : Option (Int64 × AH) :=
    bd (X11_allWays h) fun r1 h2 =>
    if r1 = 0 then none else (bd (X11_allWays h2) fun r3 h4 =>
    if r3 = 0 then none else (bd (X11_allWays h4) fun r5 h6 =>
    if r5 = 0 then none else (some ((((v1 / r1) * 10000) + (((rm64 v1 r3) * 10000) / r5)), h6))))
set_option maxRecDepth 100000 in
theorem c_X11_partOfWays (l : Launch) (v1 : Int64) : MC l yX11_partOfWays cX11_partOfWays 3 (some .long) rmX11_partOfWays ZR [.ref 0, .long v1] rvL (X11_partOfWays v1) :=
  MC.of (own := RX11) (by decide +kernel) rfl (Nat.le_of_ble_eq_true rfl) fun X yd A h _ C =>
    aw_lload_n (pc := 0) C (i := 1) dX11_partOfWays_0 rfl rfl <|
    aw_aload_n (pc := 1) C (i := 0) dX11_partOfWays_1 rfl rfl <|
    aw_callF (pc := 2) C (cr_V (rest := [.long v1]) (F := X11_allWays) C (c_X11_allWays X.2.1 ) dX11_partOfWays_2 mf_X11_allWays ml_X11_246 im_X11_allWays se_X11_allWays sR_0 rfl ⟨(Nat.le_of_ble_eq_true rfl), (Nat.le_of_ble_eq_true rfl)⟩ rfl rfl (Nat.le_of_ble_eq_true rfl)) rfl rfl rfl (Nat.zero_le _) (Nat.zero_le _) fun r1 h2 =>
    aw_ldiv (pc := 5) C dX11_partOfWays_5 <|
    aw_ldc2_w (pc := 6) C (v := 10000) dX11_partOfWays_6 kc_X11_289 <|
    aw_lmul (pc := 9) C dX11_partOfWays_9 <|
    aw_lload_n (pc := 10) C (i := 1) dX11_partOfWays_10 rfl rfl <|
    aw_aload_n (pc := 11) C (i := 0) dX11_partOfWays_11 rfl rfl <|
    aw_callF (pc := 12) C (cr_V (rest := [.long v1, .long ((v1 / r1) * 10000)]) (F := X11_allWays) C (c_X11_allWays X.2.1 ) dX11_partOfWays_12 mf_X11_allWays ml_X11_246 im_X11_allWays se_X11_allWays sR_0 rfl ⟨(Nat.le_of_ble_eq_true rfl), (Nat.le_of_ble_eq_true rfl)⟩ rfl rfl (Nat.le_of_ble_eq_true rfl)) rfl rfl rfl (Nat.zero_le _) (Nat.zero_le _) fun r3 h4 =>
    aw_lrem (pc := 15) C dX11_partOfWays_15 <|
    aw_ldc2_w (pc := 16) C (v := 10000) dX11_partOfWays_16 kc_X11_289 <|
    aw_lmul (pc := 19) C dX11_partOfWays_19 <|
    aw_aload_n (pc := 20) C (i := 0) dX11_partOfWays_20 rfl rfl <|
    aw_callF (pc := 21) C (cr_V (rest := [.long ((rm64 v1 r3) * 10000), .long ((v1 / r1) * 10000)]) (F := X11_allWays) C (c_X11_allWays X.2.1 ) dX11_partOfWays_21 mf_X11_allWays ml_X11_246 im_X11_allWays se_X11_allWays sR_0 rfl ⟨(Nat.le_of_ble_eq_true rfl), (Nat.le_of_ble_eq_true rfl)⟩ rfl rfl (Nat.le_of_ble_eq_true rfl)) rfl rfl rfl (Nat.zero_le _) (Nat.zero_le _) fun r5 h6 =>
    aw_ldiv (pc := 24) C dX11_partOfWays_24 <|
    aw_ladd (pc := 25) C dX11_partOfWays_25 <|
    aw_lret (pc := 26) C dX11_partOfWays_26 rfl rfl

abbrev rmX11_findLengths : Room := { frames := 2, cells := 0, slots := 0, locals := 45 }
def X11_findLengths_l207 (p3 : Nat) (n3 : Nat) : Nat → Int32 → AH → Option (Unit × AH)
  | 0, _, _ => none
  | n + 1, v5, h =>
    if 1000 ≤ v5 then (some ((), h))
    else (ck v5 n3 (bd (X11_partOfWays (h.2.1 p3 v5.toNatClampNeg) h) fun r6 h7 =>
    ck v5 n3 (vl (sL h7 p3 v5.toNatClampNeg r6) fun h8 =>
    vl (v5 + 1) fun x9 =>
    (X11_findLengths_l207 p3 n3 n) x9 h8)))
set_option maxRecDepth 100000 in
theorem aX11_findLengths_l207 {X : MCx} {yd : Dyn} {A : Nat → Prop} (C : OK X cX11_findLengths RX11 10 none rmX11_findLengths A) (p3 : Nat) (n3 : Nat) (hA3 : ZR.1[p3]? = some (.inl (1, 1, n3))) : ∀ (n : Nat) (v5 : Int32) (h : AH), AW X 10 ZR yd A 0 0 (QF X rmX11_findLengths ZR yd rvV A) 207 [(0, .ref 0), (3, .ref p3), (5, .int v5)] [] h (X11_findLengths_l207 p3 n3 n v5 h) := by
  intro n
  induction n with
  | zero => intro v5 h; exact aw_none
  | succ n ih =>
    intro v5 h
    exact aw_iload (pc := 207) C (i := 5) dX11_findLengths_207 rfl <|
    aw_sipush (pc := 209) C (v := 1000) dX11_findLengths_209 rfl <|
    aw_icmp_ge (pc := 212) C (tgt := 233) dX11_findLengths_212 rfl (fun _ =>
    aw_vret (pc := 233) C dX11_findLengths_233 rfl rfl) (fun _ =>
    aw_aload_n (pc := 215) C (i := 3) dX11_findLengths_215 rfl rfl <|
    aw_iload (pc := 216) C (i := 5) dX11_findLengths_216 rfl <|
    aw_aload_n (pc := 218) C (i := 0) dX11_findLengths_218 rfl rfl <|
    aw_aload_n (pc := 219) C (i := 3) dX11_findLengths_219 rfl rfl <|
    aw_iload (pc := 220) C (i := 5) dX11_findLengths_220 rfl <|
    aw_lald (pc := 222) C dX11_findLengths_222 hA3 rfl <|
    aw_callF (pc := 223) C (cr_V (rest := [.int v5, .ref p3]) (F := (X11_partOfWays (h.2.1 p3 v5.toNatClampNeg))) C (c_X11_partOfWays X.2.1 (h.2.1 p3 v5.toNatClampNeg)) dX11_findLengths_223 mf_X11_partOfWays ml_X11_307 im_X11_partOfWays se_X11_partOfWays sR_0 rfl ⟨(Nat.le_of_ble_eq_true rfl), (Nat.le_of_ble_eq_true rfl)⟩ rfl rfl (Nat.le_of_ble_eq_true rfl)) rfl rfl rfl (Nat.zero_le _) (Nat.zero_le _) fun r6 h7 =>
    aw_last (pc := 226) C dX11_findLengths_226 hA3 rfl fun h8 =>
    aw_iincV (pc := 227) C (i := 5) (cst := 1) (fun x9 => [(0, .ref 0), (3, .ref p3), (5, .int x9)]) dX11_findLengths_227 rfl rfl (by decide) (fun _ => rfl) fun x9 =>
    aw_goto (pc := 230) C (tgt := 207) dX11_findLengths_230 rfl <|
    (ih x9 h8))
def X11_findLengths_j198 (p3 : Nat) (n3 : Nat) (v1 : Int32) (v2 : Int32) (v4 : Int32) (v5 : Int32) (K56 : Int32 → AH → Option (Unit × AH)) (h : AH) : Option (Unit × AH) :=
    vl (v5 + 1) fun x18 =>
    K56 x18 h
set_option maxRecDepth 100000 in
theorem aX11_findLengths_j198 {X : MCx} {yd : Dyn} {A : Nat → Prop} (C : OK X cX11_findLengths RX11 10 none rmX11_findLengths A) (p3 : Nat) (n3 : Nat) (hA3 : ZR.1[p3]? = some (.inl (1, 1, n3))) (v1 : Int32) (v2 : Int32) (v4 : Int32) (v5 : Int32) (K56 : Int32 → AH → Option (Unit × AH)) (hK56 : ∀ (w5 : Int32) (h : AH), AW X 10 ZR yd A 0 0 (QF X rmX11_findLengths ZR yd rvV A) 56 [(0, .ref 0), (1, .int v1), (2, .int v2), (3, .ref p3), (4, .int v4), (5, .int w5)] [] h (K56 w5 h)) (h : AH) : AW X 10 ZR yd A 0 0 (QF X rmX11_findLengths ZR yd rvV A) 198 [(0, .ref 0), (1, .int v1), (2, .int v2), (3, .ref p3), (4, .int v4), (5, .int v5)] [] h (X11_findLengths_j198 p3 n3 v1 v2 v4 v5 K56 h) := by
    exact aw_iincV (pc := 198) C (i := 5) (cst := 1) (fun x18 => [(0, .ref 0), (1, .int v1), (2, .int v2), (3, .ref p3), (4, .int v4), (5, .int x18)]) dX11_findLengths_198 rfl rfl (by decide) (fun _ => rfl) fun x18 =>
    aw_goto (pc := 201) C (tgt := 56) dX11_findLengths_201 rfl <|
    (hK56 x18 h)
def X11_findLengths_j192 (p3 : Nat) (n3 : Nat) (v1 : Int32) (v2 : Int32) (v4 : Int32) (v5 : Int32) (v6 : Int64) (K56 : Int32 → AH → Option (Unit × AH)) (s0 : Int32) (h : AH) : Option (Unit × AH) :=
    ck s0 n3 (ck s0 n3 (vl (sL h p3 s0.toNatClampNeg ((h.2.1 p3 s0.toNatClampNeg) + v6)) fun h17 =>
    X11_findLengths_j198 p3 n3 v1 v2 v4 v5 K56 h17))
set_option maxRecDepth 100000 in
theorem aX11_findLengths_j192 {X : MCx} {yd : Dyn} {A : Nat → Prop} (C : OK X cX11_findLengths RX11 10 none rmX11_findLengths A) (p3 : Nat) (n3 : Nat) (hA3 : ZR.1[p3]? = some (.inl (1, 1, n3))) (v1 : Int32) (v2 : Int32) (v4 : Int32) (v5 : Int32) (v6 : Int64) (K56 : Int32 → AH → Option (Unit × AH)) (hK56 : ∀ (w5 : Int32) (h : AH), AW X 10 ZR yd A 0 0 (QF X rmX11_findLengths ZR yd rvV A) 56 [(0, .ref 0), (1, .int v1), (2, .int v2), (3, .ref p3), (4, .int v4), (5, .int w5)] [] h (K56 w5 h)) (s0 : Int32) (h : AH) : AW X 10 ZR yd A 0 0 (QF X rmX11_findLengths ZR yd rvV A) 192 [(0, .ref 0), (1, .int v1), (2, .int v2), (3, .ref p3), (4, .int v4), (5, .int v5), (6, .long v6)] [.int s0, .ref p3] h (X11_findLengths_j192 p3 n3 v1 v2 v4 v5 v6 K56 s0 h) := by
    exact aw_dup2 (pc := 192) C dX11_findLengths_192 rfl rfl <|
    aw_lald (pc := 193) C dX11_findLengths_193 hA3 rfl <|
    aw_lload (pc := 194) C (i := 6) dX11_findLengths_194 rfl <|
    aw_ladd (pc := 196) C dX11_findLengths_196 <|
    aw_last (pc := 197) C dX11_findLengths_197 hA3 rfl fun h17 =>
    aw_drop [0, 1, 2, 3, 4, 5] (aX11_findLengths_j198 C p3 n3 hA3 v1 v2 v4 v5 K56 hK56 h17)
def X11_findLengths_j187 (p3 : Nat) (n3 : Nat) (v1 : Int32) (v2 : Int32) (v4 : Int32) (v5 : Int32) (v6 : Int64) (K56 : Int32 → AH → Option (Unit × AH)) (s0 : Int32) (s1 : Int32) (s2 : Int32) (h : AH) : Option (Unit × AH) :=
    bd (X11_lengthOf s2 s1 (s0 / 4) h) fun r15 h16 =>
    X11_findLengths_j192 p3 n3 v1 v2 v4 v5 v6 K56 r15 h16
set_option maxRecDepth 100000 in
theorem aX11_findLengths_j187 {X : MCx} {yd : Dyn} {A : Nat → Prop} (C : OK X cX11_findLengths RX11 10 none rmX11_findLengths A) (p3 : Nat) (n3 : Nat) (hA3 : ZR.1[p3]? = some (.inl (1, 1, n3))) (v1 : Int32) (v2 : Int32) (v4 : Int32) (v5 : Int32) (v6 : Int64) (K56 : Int32 → AH → Option (Unit × AH)) (hK56 : ∀ (w5 : Int32) (h : AH), AW X 10 ZR yd A 0 0 (QF X rmX11_findLengths ZR yd rvV A) 56 [(0, .ref 0), (1, .int v1), (2, .int v2), (3, .ref p3), (4, .int v4), (5, .int w5)] [] h (K56 w5 h)) (s0 : Int32) (s1 : Int32) (s2 : Int32) (h : AH) : AW X 10 ZR yd A 0 0 (QF X rmX11_findLengths ZR yd rvV A) 187 [(0, .ref 0), (1, .int v1), (2, .int v2), (3, .ref p3), (4, .int v4), (5, .int v5), (6, .long v6)] [.int s0, .int s1, .int s2, .ref 0, .ref p3] h (X11_findLengths_j187 p3 n3 v1 v2 v4 v5 v6 K56 s0 s1 s2 h) := by
    exact aw_iconst (pc := 187) C (v := 4) dX11_findLengths_187 rfl <|
    aw_idivK (pc := 188) C dX11_findLengths_188 (by decide) <|
    aw_callF (pc := 189) C (cr_V (rest := [.ref p3]) (F := (X11_lengthOf s2 s1 (s0 / 4))) C (c_X11_lengthOf X.2.1 s2 s1 (s0 / 4)) dX11_findLengths_189 mf_X11_lengthOf ml_X11_163 im_X11_lengthOf se_X11_lengthOf sR_0 rfl ⟨(Nat.le_of_ble_eq_true rfl), (Nat.le_of_ble_eq_true rfl)⟩ rfl rfl (Nat.le_of_ble_eq_true rfl)) rfl rfl rfl (Nat.zero_le _) (Nat.zero_le _) fun r15 h16 =>
    (aX11_findLengths_j192 C p3 n3 hA3 v1 v2 v4 v5 v6 K56 hK56 r15 h16)
def X11_findLengths_j135 (p3 : Nat) (n3 : Nat) (v1 : Int32) (v2 : Int32) (v4 : Int32) (v5 : Int32) (v6 : Int64) (v8 : Int32) (K56 : Int32 → AH → Option (Unit × AH)) (s0 : Int32) (h : AH) : Option (Unit × AH) :=
    ck v1 4 (vl (v8 - (s0 + ((h.1 6 v1.toNatClampNeg) * ((rm32 v5 41) - 20)))) fun x14 =>
    if 0 ≤ x14 then (if 0 ≤ s0 then (X11_findLengths_j187 p3 n3 v1 v2 v4 v5 v6 K56 s0 x14 v1 h)
    else (X11_findLengths_j187 p3 n3 v1 v2 v4 v5 v6 K56 (-s0) x14 v1 h))
    else (X11_findLengths_j192 p3 n3 v1 v2 v4 v5 v6 K56 0 h))
set_option maxRecDepth 100000 in
theorem aX11_findLengths_j135 {X : MCx} {yd : Dyn} {A : Nat → Prop} (C : OK X cX11_findLengths RX11 10 none rmX11_findLengths A) (p3 : Nat) (n3 : Nat) (hA3 : ZR.1[p3]? = some (.inl (1, 1, n3))) (v1 : Int32) (v2 : Int32) (v4 : Int32) (v5 : Int32) (v6 : Int64) (v8 : Int32) (K56 : Int32 → AH → Option (Unit × AH)) (hK56 : ∀ (w5 : Int32) (h : AH), AW X 10 ZR yd A 0 0 (QF X rmX11_findLengths ZR yd rvV A) 56 [(0, .ref 0), (1, .int v1), (2, .int v2), (3, .ref p3), (4, .int v4), (5, .int w5)] [] h (K56 w5 h)) (s0 : Int32) (h : AH) : AW X 10 ZR yd A 0 0 (QF X rmX11_findLengths ZR yd rvV A) 135 [(0, .ref 0), (1, .int v1), (2, .int v2), (3, .ref p3), (4, .int v4), (5, .int v5), (6, .long v6), (8, .int v8)] [.int s0] h (X11_findLengths_j135 p3 n3 v1 v2 v4 v5 v6 v8 K56 s0 h) := by
    exact aw_istore (pc := 135) C (i := 9) (lv' := [(0, .ref 0), (1, .int v1), (2, .int v2), (3, .ref p3), (4, .int v4), (5, .int v5), (6, .long v6), (8, .int v8), (9, .int s0)]) dX11_findLengths_135 (by decide) rfl <|
    aw_iload (pc := 137) C (i := 8) dX11_findLengths_137 rfl <|
    aw_iload (pc := 139) C (i := 9) dX11_findLengths_139 rfl <|
    aw_aload_n (pc := 141) C (i := 0) dX11_findLengths_141 rfl rfl <|
    aw_getR (pc := 142) C (b := 6) dX11_findLengths_142 fl_X11_25 sR_0 rfl rR_0_5 <|
    aw_iload_n (pc := 145) C (i := 1) dX11_findLengths_145 rfl rfl <|
    aw_iald (pc := 146) C dX11_findLengths_146 sR_6 rfl <|
    aw_iload (pc := 147) C (i := 5) dX11_findLengths_147 rfl <|
    aw_bipush (pc := 149) C (v := 41) dX11_findLengths_149 rfl <|
    aw_iremK (pc := 151) C dX11_findLengths_151 (by decide) <|
    aw_bipush (pc := 152) C (v := 20) dX11_findLengths_152 rfl <|
    aw_isub (pc := 154) C dX11_findLengths_154 <|
    aw_imul (pc := 155) C dX11_findLengths_155 <|
    aw_iadd (pc := 156) C dX11_findLengths_156 <|
    aw_isub (pc := 157) C dX11_findLengths_157 <|
    aw_istoreV (pc := 158) C (i := 8) (fun x14 => [(0, .ref 0), (1, .int v1), (2, .int v2), (3, .ref p3), (4, .int v4), (5, .int v5), (6, .long v6), (8, .int x14), (9, .int s0)]) dX11_findLengths_158 (by decide) (fun _ => rfl) fun x14 =>
    aw_aload_n (pc := 160) C (i := 3) dX11_findLengths_160 rfl rfl <|
    aw_iload (pc := 161) C (i := 8) dX11_findLengths_161 rfl <|
    aw_if_ge (pc := 163) C (tgt := 170) dX11_findLengths_163 rfl (fun _ =>
    aw_aload_n (pc := 170) C (i := 0) dX11_findLengths_170 rfl rfl <|
    aw_iload_n (pc := 171) C (i := 1) dX11_findLengths_171 rfl rfl <|
    aw_iload (pc := 172) C (i := 8) dX11_findLengths_172 rfl <|
    aw_iload (pc := 174) C (i := 9) dX11_findLengths_174 rfl <|
    aw_if_ge (pc := 176) C (tgt := 185) dX11_findLengths_176 rfl (fun _ =>
    aw_iload (pc := 185) C (i := 9) dX11_findLengths_185 rfl <|
    aw_drop [0, 1, 2, 3, 4, 5, 6] (aX11_findLengths_j187 C p3 n3 hA3 v1 v2 v4 v5 v6 K56 hK56 s0 x14 v1 h)) (fun _ =>
    aw_iload (pc := 179) C (i := 9) dX11_findLengths_179 rfl <|
    aw_ineg (pc := 181) C dX11_findLengths_181 <|
    aw_goto (pc := 182) C (tgt := 187) dX11_findLengths_182 rfl <|
    aw_drop [0, 1, 2, 3, 4, 5, 6] (aX11_findLengths_j187 C p3 n3 hA3 v1 v2 v4 v5 v6 K56 hK56 (-s0) x14 v1 h))) (fun _ =>
    aw_iconst (pc := 166) C (v := 0) dX11_findLengths_166 rfl <|
    aw_goto (pc := 167) C (tgt := 192) dX11_findLengths_167 rfl <|
    aw_drop [0, 1, 2, 3, 4, 5, 6] (aX11_findLengths_j192 C p3 n3 hA3 v1 v2 v4 v5 v6 K56 hK56 0 h))
def X11_findLengths_l56 (p3 : Nat) (n3 : Nat) (v1 : Int32) (v2 : Int32) (v4 : Int32) : Nat → Int32 → AH → Option (Unit × AH)
  | 0, _, _ => none
  | n + 1, v5, h =>
    if 1681 ≤ v5 then (X11_findLengths_l207 p3 n3 FU 0 h)
    else (ck (v5 / 41) 41 (ck (rm32 v5 41) 41 (vl ((h.2.1 18 (v5 / 41).toNatClampNeg) * (h.2.1 19 (rm32 v5 41).toNatClampNeg)) fun x10 =>
    if (lcmpV x10 0) = 0 then (X11_findLengths_j198 p3 n3 v1 v2 v4 v5 (X11_findLengths_l56 p3 n3 v1 v2 v4 n) h)
    else (ck v1 4 (vl (v2 - ((h.1 6 v1.toNatClampNeg) * ((v5 / 41) - 20))) fun x11 =>
    if v4 = 0 then (X11_findLengths_j135 p3 n3 v1 v2 v4 v5 x10 x11 (X11_findLengths_l56 p3 n3 v1 v2 v4 n) 0 h)
    else (bd (X11_aimOf v1 h) fun r12 h13 =>
    X11_findLengths_j135 p3 n3 v1 v2 v4 v5 x10 x11 (X11_findLengths_l56 p3 n3 v1 v2 v4 n) ((x11 - r12) / 2) h13))))))
set_option maxRecDepth 100000 in
theorem aX11_findLengths_l56 {X : MCx} {yd : Dyn} {A : Nat → Prop} (C : OK X cX11_findLengths RX11 10 none rmX11_findLengths A) (p3 : Nat) (n3 : Nat) (hA3 : ZR.1[p3]? = some (.inl (1, 1, n3))) (v1 : Int32) (v2 : Int32) (v4 : Int32) : ∀ (n : Nat) (v5 : Int32) (h : AH), AW X 10 ZR yd A 0 0 (QF X rmX11_findLengths ZR yd rvV A) 56 [(0, .ref 0), (1, .int v1), (2, .int v2), (3, .ref p3), (4, .int v4), (5, .int v5)] [] h (X11_findLengths_l56 p3 n3 v1 v2 v4 n v5 h) := by
  intro n
  induction n with
  | zero => intro v5 h; exact aw_none
  | succ n ih =>
    intro v5 h
    exact aw_iload (pc := 56) C (i := 5) dX11_findLengths_56 rfl <|
    aw_sipush (pc := 58) C (v := 1681) dX11_findLengths_58 rfl <|
    aw_icmp_ge (pc := 61) C (tgt := 204) dX11_findLengths_61 rfl (fun _ =>
    aw_iconst (pc := 204) C (v := 0) dX11_findLengths_204 rfl <|
    aw_istore (pc := 205) C (i := 5) (lv' := [(0, .ref 0), (1, .int v1), (2, .int v2), (3, .ref p3), (4, .int v4), (5, .int 0)]) dX11_findLengths_205 (by decide) rfl <|
    aw_drop [0, 3, 5] (aX11_findLengths_l207 C p3 n3 hA3 FU 0 h)) (fun _ =>
    aw_aload_n (pc := 64) C (i := 0) dX11_findLengths_64 rfl rfl <|
    aw_getR (pc := 65) C (b := 18) dX11_findLengths_65 fl_X11_61 sR_0 rfl rR_0_28 <|
    aw_iload (pc := 68) C (i := 5) dX11_findLengths_68 rfl <|
    aw_bipush (pc := 70) C (v := 41) dX11_findLengths_70 rfl <|
    aw_idivK (pc := 72) C dX11_findLengths_72 (by decide) <|
    aw_lald (pc := 73) C dX11_findLengths_73 sR_18 rfl <|
    aw_aload_n (pc := 74) C (i := 0) dX11_findLengths_74 rfl rfl <|
    aw_getR (pc := 75) C (b := 19) dX11_findLengths_75 fl_X11_65 sR_0 rfl rR_0_29 <|
    aw_iload (pc := 78) C (i := 5) dX11_findLengths_78 rfl <|
    aw_bipush (pc := 80) C (v := 41) dX11_findLengths_80 rfl <|
    aw_iremK (pc := 82) C dX11_findLengths_82 (by decide) <|
    aw_lald (pc := 83) C dX11_findLengths_83 sR_19 rfl <|
    aw_lmul (pc := 84) C dX11_findLengths_84 <|
    aw_lstoreV (pc := 85) C (i := 6) (fun x10 => [(0, .ref 0), (1, .int v1), (2, .int v2), (3, .ref p3), (4, .int v4), (5, .int v5), (6, .long x10)]) dX11_findLengths_85 (by decide) (fun _ => rfl) fun x10 =>
    aw_lload (pc := 87) C (i := 6) dX11_findLengths_87 rfl <|
    aw_lconst (pc := 89) C (v := 0) dX11_findLengths_89 rfl <|
    aw_lcmp (pc := 90) C dX11_findLengths_90 <|
    aw_if_ne (pc := 91) C (tgt := 97) dX11_findLengths_91 rfl (fun _ =>
    aw_goto (pc := 94) C (tgt := 198) dX11_findLengths_94 rfl <|
    aw_drop [0, 1, 2, 3, 4, 5] (aX11_findLengths_j198 C p3 n3 hA3 v1 v2 v4 v5 (X11_findLengths_l56 p3 n3 v1 v2 v4 n) ih h)) (fun _ =>
    aw_iload_n (pc := 97) C (i := 2) dX11_findLengths_97 rfl rfl <|
    aw_aload_n (pc := 98) C (i := 0) dX11_findLengths_98 rfl rfl <|
    aw_getR (pc := 99) C (b := 6) dX11_findLengths_99 fl_X11_25 sR_0 rfl rR_0_5 <|
    aw_iload_n (pc := 102) C (i := 1) dX11_findLengths_102 rfl rfl <|
    aw_iald (pc := 103) C dX11_findLengths_103 sR_6 rfl <|
    aw_iload (pc := 104) C (i := 5) dX11_findLengths_104 rfl <|
    aw_bipush (pc := 106) C (v := 41) dX11_findLengths_106 rfl <|
    aw_idivK (pc := 108) C dX11_findLengths_108 (by decide) <|
    aw_bipush (pc := 109) C (v := 20) dX11_findLengths_109 rfl <|
    aw_isub (pc := 111) C dX11_findLengths_111 <|
    aw_imul (pc := 112) C dX11_findLengths_112 <|
    aw_isub (pc := 113) C dX11_findLengths_113 <|
    aw_istoreV (pc := 114) C (i := 8) (fun x11 => [(0, .ref 0), (1, .int v1), (2, .int v2), (3, .ref p3), (4, .int v4), (5, .int v5), (6, .long x10), (8, .int x11)]) dX11_findLengths_114 (by decide) (fun _ => rfl) fun x11 =>
    aw_iload (pc := 116) C (i := 4) dX11_findLengths_116 rfl <|
    aw_if_ne (pc := 118) C (tgt := 125) dX11_findLengths_118 rfl (fun _ =>
    aw_iconst (pc := 121) C (v := 0) dX11_findLengths_121 rfl <|
    aw_goto (pc := 122) C (tgt := 135) dX11_findLengths_122 rfl <|
    (aX11_findLengths_j135 C p3 n3 hA3 v1 v2 v4 v5 x10 x11 (X11_findLengths_l56 p3 n3 v1 v2 v4 n) ih 0 h)) (fun _ =>
    aw_iload (pc := 125) C (i := 8) dX11_findLengths_125 rfl <|
    aw_aload_n (pc := 127) C (i := 0) dX11_findLengths_127 rfl rfl <|
    aw_iload_n (pc := 128) C (i := 1) dX11_findLengths_128 rfl rfl <|
    aw_callF (pc := 129) C (cr_V (rest := [.int x11]) (F := (X11_aimOf v1)) C (c_X11_aimOf X.2.1 v1) dX11_findLengths_129 mf_X11_aimOf ml_X11_210 im_X11_aimOf se_X11_aimOf sR_0 rfl ⟨(Nat.le_of_ble_eq_true rfl), (Nat.le_of_ble_eq_true rfl)⟩ rfl rfl (Nat.le_of_ble_eq_true rfl)) rfl rfl rfl (Nat.zero_le _) (Nat.zero_le _) fun r12 h13 =>
    aw_isub (pc := 132) C dX11_findLengths_132 <|
    aw_iconst (pc := 133) C (v := 2) dX11_findLengths_133 rfl <|
    aw_idivK (pc := 134) C dX11_findLengths_134 (by decide) <|
    (aX11_findLengths_j135 C p3 n3 hA3 v1 v2 v4 v5 x10 x11 (X11_findLengths_l56 p3 n3 v1 v2 v4 n) ih ((x11 - r12) / 2) h13))))
def X11_findLengths_l3 (p3 : Nat) (n3 : Nat) (v1 : Int32) (v2 : Int32) : Nat → Int32 → AH → Option (Unit × AH)
  | 0, _, _ => none
  | n + 1, v4, h =>
    if 1000 ≤ v4 then (ck v1 4 (vl (h.1 8 v1.toNatClampNeg) fun x1 =>
    bd (X11_findWays 18 41 ((h.1 0 12) - x1) h) fun _ h3 =>
    bd (X11_findWays 19 41 x1 h3) fun _ h5 =>
    X11_findLengths_l56 p3 n3 v1 v2 x1 FU 0 h5))
    else (ck v4 n3 (vl (sL h p3 v4.toNatClampNeg 0) fun h19 =>
    vl (v4 + 1) fun x20 =>
    (X11_findLengths_l3 p3 n3 v1 v2 n) x20 h19))
set_option maxRecDepth 100000 in
theorem aX11_findLengths_l3 {X : MCx} {yd : Dyn} {A : Nat → Prop} (C : OK X cX11_findLengths RX11 10 none rmX11_findLengths A) (p3 : Nat) (n3 : Nat) (hA3 : ZR.1[p3]? = some (.inl (1, 1, n3))) (v1 : Int32) (v2 : Int32) : ∀ (n : Nat) (v4 : Int32) (h : AH), AW X 10 ZR yd A 0 0 (QF X rmX11_findLengths ZR yd rvV A) 3 [(0, .ref 0), (1, .int v1), (2, .int v2), (3, .ref p3), (4, .int v4)] [] h (X11_findLengths_l3 p3 n3 v1 v2 n v4 h) := by
  intro n
  induction n with
  | zero => intro v4 h; exact aw_none
  | succ n ih =>
    intro v4 h
    exact aw_iload (pc := 3) C (i := 4) dX11_findLengths_3 rfl <|
    aw_sipush (pc := 5) C (v := 1000) dX11_findLengths_5 rfl <|
    aw_icmp_ge (pc := 8) C (tgt := 22) dX11_findLengths_8 rfl (fun _ =>
    aw_aload_n (pc := 22) C (i := 0) dX11_findLengths_22 rfl rfl <|
    aw_getR (pc := 23) C (b := 8) dX11_findLengths_23 fl_X11_31 sR_0 rfl rR_0_7 <|
    aw_iload_n (pc := 26) C (i := 1) dX11_findLengths_26 rfl rfl <|
    aw_iald (pc := 27) C dX11_findLengths_27 sR_8 rfl <|
    aw_istoreV (pc := 28) C (i := 4) (fun x1 => [(0, .ref 0), (1, .int v1), (2, .int v2), (3, .ref p3), (4, .int x1)]) dX11_findLengths_28 (by decide) (fun _ => rfl) fun x1 =>
    aw_aload_n (pc := 30) C (i := 0) dX11_findLengths_30 rfl rfl <|
    aw_getR (pc := 31) C (b := 18) dX11_findLengths_31 fl_X11_61 sR_0 rfl rR_0_28 <|
    aw_aload_n (pc := 34) C (i := 0) dX11_findLengths_34 rfl rfl <|
    aw_getI (pc := 35) C dX11_findLengths_35 fl_X11_95 sR_0 rfl <|
    aw_iload (pc := 38) C (i := 4) dX11_findLengths_38 rfl <|
    aw_isub (pc := 40) C dX11_findLengths_40 <|
    aw_callF (pc := 41) C (cr_S (rest := []) (F := (X11_findWays 18 41 ((h.1 0 12) - x1))) C (c_X11_findWays X.2.1 18 41 sR_18 ((h.1 0 12) - x1)) dX11_findLengths_41 mf_X11_findWays ml_X11_226 st_X11_findWays ⟨(Nat.le_of_ble_eq_true rfl), (Nat.le_of_ble_eq_true rfl)⟩ rfl rfl (Nat.le_of_ble_eq_true rfl)) rfl rfl rfl (Nat.zero_le _) (Nat.zero_le _) fun _ h3 =>
    aw_aload_n (pc := 44) C (i := 0) dX11_findLengths_44 rfl rfl <|
    aw_getR (pc := 45) C (b := 19) dX11_findLengths_45 fl_X11_65 sR_0 rfl rR_0_29 <|
    aw_iload (pc := 48) C (i := 4) dX11_findLengths_48 rfl <|
    aw_callF (pc := 50) C (cr_S (rest := []) (F := (X11_findWays 19 41 x1)) C (c_X11_findWays X.2.1 19 41 sR_19 x1) dX11_findLengths_50 mf_X11_findWays ml_X11_226 st_X11_findWays ⟨(Nat.le_of_ble_eq_true rfl), (Nat.le_of_ble_eq_true rfl)⟩ rfl rfl (Nat.le_of_ble_eq_true rfl)) rfl rfl rfl (Nat.zero_le _) (Nat.zero_le _) fun _ h5 =>
    aw_iconst (pc := 53) C (v := 0) dX11_findLengths_53 rfl <|
    aw_istore (pc := 54) C (i := 5) (lv' := [(0, .ref 0), (1, .int v1), (2, .int v2), (3, .ref p3), (4, .int x1), (5, .int 0)]) dX11_findLengths_54 (by decide) rfl <|
    (aX11_findLengths_l56 C p3 n3 hA3 v1 v2 x1 FU 0 h5)) (fun _ =>
    aw_aload_n (pc := 11) C (i := 3) dX11_findLengths_11 rfl rfl <|
    aw_iload (pc := 12) C (i := 4) dX11_findLengths_12 rfl <|
    aw_lconst (pc := 14) C (v := 0) dX11_findLengths_14 rfl <|
    aw_last (pc := 15) C dX11_findLengths_15 hA3 rfl fun h19 =>
    aw_iincV (pc := 16) C (i := 4) (cst := 1) (fun x20 => [(0, .ref 0), (1, .int v1), (2, .int v2), (3, .ref p3), (4, .int x20)]) dX11_findLengths_16 rfl rfl (by decide) (fun _ => rfl) fun x20 =>
    aw_goto (pc := 19) C (tgt := 3) dX11_findLengths_19 rfl <|
    (ih x20 h19))
def X11_findLengths (v1 : Int32) (v2 : Int32) (p3 : Nat) (n3 : Nat) (h : AH) : Option (Unit × AH) :=
    X11_findLengths_l3 p3 n3 v1 v2 FU 0 h
set_option maxRecDepth 100000 in
theorem c_X11_findLengths (l : Launch) (v1 : Int32) (v2 : Int32) (p3 : Nat) (n3 : Nat) (hA3 : ZR.1[p3]? = some (.inl (1, 1, n3))) : MC l yX11_findLengths cX11_findLengths 10 none rmX11_findLengths ZR [.ref 0, .int v1, .int v2, .ref p3] rvV (X11_findLengths v1 v2 p3 n3) :=
  MC.of (own := RX11) (by decide +kernel) rfl (Nat.le_of_ble_eq_true rfl) fun X yd A h _ C =>
    aw_iconst (pc := 0) C (v := 0) dX11_findLengths_0 rfl <|
    aw_istore (pc := 1) C (i := 4) (lv' := [(0, .ref 0), (1, .int v1), (2, .int v2), (3, .ref p3), (4, .int 0)]) dX11_findLengths_1 (by decide) rfl <|
    (aX11_findLengths_l3 C p3 n3 hA3 v1 v2 FU 0 h)

abbrev rmX11_parts : Room := { frames := 3, cells := 0, slots := 0, locals := 74 }
def X11_parts_j20  (v1 : Int32) (v2 : Int32) (s0 : Int32) (h : AH) : Option (Int32 × AH) :=
    if s0 = 0 then (bd (X11_placeOf v1 h) fun r5 h6 =>
    bd (X11_findLengths v1 r5 25 1000 h6) fun _ h8 =>
    ck v2 1000 (some ((h8.2.1 25 v2.toNatClampNeg).toInt32, h8)))
    else (bd (X11_no s0 h) fun r9 h10 =>
    some (r9, h10))
set_option maxRecDepth 100000 in
theorem aX11_parts_j20 {X : MCx} {yd : Dyn} {A : Nat → Prop} (C : OK X cX11_parts RX11 4 (some .int) rmX11_parts A)  (v1 : Int32) (v2 : Int32) (s0 : Int32) (h : AH) : AW X 4 ZR yd A 0 0 (QF X rmX11_parts ZR yd rvI A) 20 [(0, .ref 0), (1, .int v1), (2, .int v2)] [.int s0] h (X11_parts_j20 v1 v2 s0 h) := by
    exact aw_istore_n (pc := 20) C (i := 3) (lv' := [(0, .ref 0), (1, .int v1), (2, .int v2), (3, .int s0)]) dX11_parts_20 rfl (by decide) rfl <|
    aw_iload_n (pc := 21) C (i := 3) dX11_parts_21 rfl rfl <|
    aw_if_eq (pc := 22) C (tgt := 31) dX11_parts_22 rfl (fun _ =>
    aw_aload_n (pc := 31) C (i := 0) dX11_parts_31 rfl rfl <|
    aw_iload_n (pc := 32) C (i := 1) dX11_parts_32 rfl rfl <|
    aw_aload_n (pc := 33) C (i := 0) dX11_parts_33 rfl rfl <|
    aw_iload_n (pc := 34) C (i := 1) dX11_parts_34 rfl rfl <|
    aw_callF (pc := 35) C (cr_V (rest := [.int v1, .ref 0]) (F := (X11_placeOf v1)) C (c_X11_placeOf X.2.1 v1) dX11_parts_35 mf_X11_placeOf ml_X11_223 im_X11_placeOf se_X11_placeOf sR_0 rfl ⟨(Nat.le_of_ble_eq_true rfl), (Nat.le_of_ble_eq_true rfl)⟩ rfl rfl (Nat.le_of_ble_eq_true rfl)) rfl rfl rfl (Nat.zero_le _) (Nat.zero_le _) fun r5 h6 =>
    aw_aload_n (pc := 38) C (i := 0) dX11_parts_38 rfl rfl <|
    aw_getR (pc := 39) C (b := 25) dX11_parts_39 fl_X11_83 sR_0 rfl rR_0_36 <|
    aw_callF (pc := 42) C (cr_V (rest := []) (F := (X11_findLengths v1 r5 25 1000)) C (c_X11_findLengths X.2.1 v1 r5 25 1000 sR_25) dX11_parts_42 mf_X11_findLengths ml_X11_311 im_X11_findLengths se_X11_findLengths sR_0 rfl ⟨(Nat.le_of_ble_eq_true rfl), (Nat.le_of_ble_eq_true rfl)⟩ rfl rfl (Nat.le_of_ble_eq_true rfl)) rfl rfl rfl (Nat.zero_le _) (Nat.zero_le _) fun _ h8 =>
    aw_aload_n (pc := 45) C (i := 0) dX11_parts_45 rfl rfl <|
    aw_getR (pc := 46) C (b := 25) dX11_parts_46 fl_X11_83 sR_0 rfl rR_0_36 <|
    aw_iload_n (pc := 49) C (i := 2) dX11_parts_49 rfl rfl <|
    aw_lald (pc := 50) C dX11_parts_50 sR_25 rfl <|
    aw_l2i (pc := 51) C dX11_parts_51 <|
    aw_iret (pc := 52) C dX11_parts_52 rfl rfl) (fun _ =>
    aw_aload_n (pc := 25) C (i := 0) dX11_parts_25 rfl rfl <|
    aw_iload_n (pc := 26) C (i := 3) dX11_parts_26 rfl rfl <|
    aw_callF (pc := 27) C (cr_V (rest := []) (F := (X11_no s0)) C (c_X11_no X.2.1 s0) dX11_parts_27 mf_X11_no ml_X11_115 im_X11_no se_X11_no sR_0 rfl ⟨(Nat.le_of_ble_eq_true rfl), (Nat.le_of_ble_eq_true rfl)⟩ rfl rfl (Nat.le_of_ble_eq_true rfl)) rfl rfl rfl (Nat.zero_le _) (Nat.zero_le _) fun r9 h10 =>
    aw_iret (pc := 30) C dX11_parts_30 rfl rfl)
def X11_parts (v1 : Int32) (v2 : Int32) (h : AH) : Option (Int32 × AH) :=
    bd (X11_isJumper v1 h) fun r1 h2 =>
    if r1 = 0 then (X11_parts_j20 v1 v2 (-1) h2)
    else (bd (X11_bound v2 0 999 h2) fun r3 h4 =>
    X11_parts_j20 v1 v2 r3 h4)
set_option maxRecDepth 100000 in
theorem c_X11_parts (l : Launch) (v1 : Int32) (v2 : Int32) : MC l yX11_parts cX11_parts 4 (some .int) rmX11_parts ZR [.ref 0, .int v1, .int v2] rvI (X11_parts v1 v2) :=
  MC.of (own := RX11) (by decide +kernel) rfl (Nat.le_of_ble_eq_true rfl) fun X yd A h _ C =>
    aw_aload_n (pc := 0) C (i := 0) dX11_parts_0 rfl rfl <|
    aw_iload_n (pc := 1) C (i := 1) dX11_parts_1 rfl rfl <|
    aw_callF (pc := 2) C (cr_V (rest := []) (F := (X11_isJumper v1)) C (c_X11_isJumper X.2.1 v1) dX11_parts_2 mf_X11_isJumper ml_X11_207 im_X11_isJumper se_X11_isJumper sR_0 rfl ⟨(Nat.le_of_ble_eq_true rfl), (Nat.le_of_ble_eq_true rfl)⟩ rfl rfl (Nat.le_of_ble_eq_true rfl)) rfl rfl rfl (Nat.zero_le _) (Nat.zero_le _) fun r1 h2 =>
    aw_if_ne (pc := 5) C (tgt := 12) dX11_parts_5 rfl (fun _ =>
    aw_iconst (pc := 8) C (v := (-1)) dX11_parts_8 rfl <|
    aw_goto (pc := 9) C (tgt := 20) dX11_parts_9 rfl <|
    (aX11_parts_j20 C v1 v2 (-1) h2)) (fun _ =>
    aw_iload_n (pc := 12) C (i := 2) dX11_parts_12 rfl rfl <|
    aw_iconst (pc := 13) C (v := 0) dX11_parts_13 rfl <|
    aw_sipush (pc := 14) C (v := 999) dX11_parts_14 rfl <|
    aw_callF (pc := 17) C (cr_S (rest := []) (F := (X11_bound v2 0 999)) C (c_X11_bound X.2.1 v2 0 999) dX11_parts_17 mf_X11_bound ml_X11_108 st_X11_bound ⟨(Nat.le_of_ble_eq_true rfl), (Nat.le_of_ble_eq_true rfl)⟩ rfl rfl (Nat.le_of_ble_eq_true rfl)) rfl rfl rfl (Nat.zero_le _) (Nat.zero_le _) fun r3 h4 =>
    (aX11_parts_j20 C v1 v2 r3 h4))

abbrev rmX11_areTwo : Room := { frames := 1, cells := 0, slots := 0, locals := 21 }
def X11_areTwo (v1 : Int32) (v2 : Int32) (h : AH) : Option (Int32 × AH) :=
    bd (X11_isJumper v1 h) fun r1 h2 =>
    if r1 = 0 then (cz 0 (some (0, h2)))
    else (bd (X11_isJumper v2 h2) fun r3 h4 =>
    if r3 = 0 then (cz 0 (some (0, h4)))
    else (if v1 = v2 then (cz 0 (some (0, h4)))
    else (cz 1 (some (1, h4)))))
set_option maxRecDepth 100000 in
theorem c_X11_areTwo (l : Launch) (v1 : Int32) (v2 : Int32) : MC l yX11_areTwo cX11_areTwo 3 (some .boolean) rmX11_areTwo ZR [.ref 0, .int v1, .int v2] rvI (X11_areTwo v1 v2) :=
  MC.of (own := RX11) (by decide +kernel) rfl (Nat.le_of_ble_eq_true rfl) fun X yd A h _ C =>
    aw_aload_n (pc := 0) C (i := 0) dX11_areTwo_0 rfl rfl <|
    aw_iload_n (pc := 1) C (i := 1) dX11_areTwo_1 rfl rfl <|
    aw_callF (pc := 2) C (cr_V (rest := []) (F := (X11_isJumper v1)) C (c_X11_isJumper X.2.1 v1) dX11_areTwo_2 mf_X11_isJumper ml_X11_207 im_X11_isJumper se_X11_isJumper sR_0 rfl ⟨(Nat.le_of_ble_eq_true rfl), (Nat.le_of_ble_eq_true rfl)⟩ rfl rfl (Nat.le_of_ble_eq_true rfl)) rfl rfl rfl (Nat.zero_le _) (Nat.zero_le _) fun r1 h2 =>
    aw_if_eq (pc := 5) C (tgt := 25) dX11_areTwo_5 rfl (fun _ =>
    aw_iconst (pc := 25) C (v := 0) dX11_areTwo_25 rfl <|
    aw_zret (pc := 26) C dX11_areTwo_26 rfl rfl) (fun _ =>
    aw_aload_n (pc := 8) C (i := 0) dX11_areTwo_8 rfl rfl <|
    aw_iload_n (pc := 9) C (i := 2) dX11_areTwo_9 rfl rfl <|
    aw_callF (pc := 10) C (cr_V (rest := []) (F := (X11_isJumper v2)) C (c_X11_isJumper X.2.1 v2) dX11_areTwo_10 mf_X11_isJumper ml_X11_207 im_X11_isJumper se_X11_isJumper sR_0 rfl ⟨(Nat.le_of_ble_eq_true rfl), (Nat.le_of_ble_eq_true rfl)⟩ rfl rfl (Nat.le_of_ble_eq_true rfl)) rfl rfl rfl (Nat.zero_le _) (Nat.zero_le _) fun r3 h4 =>
    aw_if_eq (pc := 13) C (tgt := 25) dX11_areTwo_13 rfl (fun _ =>
    aw_iconst (pc := 25) C (v := 0) dX11_areTwo_25 rfl <|
    aw_zret (pc := 26) C dX11_areTwo_26 rfl rfl) (fun _ =>
    aw_iload_n (pc := 16) C (i := 1) dX11_areTwo_16 rfl rfl <|
    aw_iload_n (pc := 17) C (i := 2) dX11_areTwo_17 rfl rfl <|
    aw_icmp_eq (pc := 18) C (tgt := 25) dX11_areTwo_18 rfl (fun _ =>
    aw_iconst (pc := 25) C (v := 0) dX11_areTwo_25 rfl <|
    aw_zret (pc := 26) C dX11_areTwo_26 rfl rfl) (fun _ =>
    aw_iconst (pc := 21) C (v := 1) dX11_areTwo_21 rfl <|
    aw_goto (pc := 22) C (tgt := 26) dX11_areTwo_22 rfl <|
    aw_zret (pc := 26) C dX11_areTwo_26 rfl rfl)))

abbrev rmX11_moreFrom : Room := { frames := 3, cells := 0, slots := 0, locals := 74 }
def X11_moreFrom_l30  : Nat → Int64 → Int64 → Int32 → AH → Option (Int32 × AH)
  | 0, _, _, _, _ => none
  | n + 1, v5, v7, v9, h =>
    if 1000 ≤ v9 then (some ((v5 / 10000).toInt32, h))
    else (ck v9 1000 (vl (v5 + ((h.2.1 25 v9.toNatClampNeg) * v7)) fun x5 =>
    ck v9 1000 (vl (v7 + (h.2.1 26 v9.toNatClampNeg)) fun x6 =>
    vl (v9 + 1) fun x7 =>
    (X11_moreFrom_l30 n) x5 x6 x7 h)))
set_option maxRecDepth 100000 in
theorem aX11_moreFrom_l30 {X : MCx} {yd : Dyn} {A : Nat → Prop} (C : OK X cX11_moreFrom RX11 10 (some .int) rmX11_moreFrom A)  : ∀ (n : Nat) (v5 : Int64) (v7 : Int64) (v9 : Int32) (h : AH), AW X 10 ZR yd A 0 0 (QF X rmX11_moreFrom ZR yd rvI A) 30 [(0, .ref 0), (5, .long v5), (7, .long v7), (9, .int v9)] [] h (X11_moreFrom_l30 n v5 v7 v9 h) := by
  intro n
  induction n with
  | zero => intro v5 v7 v9 h; exact aw_none
  | succ n ih =>
    intro v5 v7 v9 h
    exact aw_iload (pc := 30) C (i := 9) dX11_moreFrom_30 rfl <|
    aw_sipush (pc := 32) C (v := 1000) dX11_moreFrom_32 rfl <|
    aw_icmp_ge (pc := 35) C (tgt := 71) dX11_moreFrom_35 rfl (fun _ =>
    aw_lload (pc := 71) C (i := 5) dX11_moreFrom_71 rfl <|
    aw_ldc2_w (pc := 73) C (v := 10000) dX11_moreFrom_73 kc_X11_289 <|
    aw_ldivK (pc := 76) C dX11_moreFrom_76 (by decide) <|
    aw_l2i (pc := 77) C dX11_moreFrom_77 <|
    aw_iret (pc := 78) C dX11_moreFrom_78 rfl rfl) (fun _ =>
    aw_lload (pc := 38) C (i := 5) dX11_moreFrom_38 rfl <|
    aw_aload_n (pc := 40) C (i := 0) dX11_moreFrom_40 rfl rfl <|
    aw_getR (pc := 41) C (b := 25) dX11_moreFrom_41 fl_X11_83 sR_0 rfl rR_0_36 <|
    aw_iload (pc := 44) C (i := 9) dX11_moreFrom_44 rfl <|
    aw_lald (pc := 46) C dX11_moreFrom_46 sR_25 rfl <|
    aw_lload (pc := 47) C (i := 7) dX11_moreFrom_47 rfl <|
    aw_lmul (pc := 49) C dX11_moreFrom_49 <|
    aw_ladd (pc := 50) C dX11_moreFrom_50 <|
    aw_lstoreV (pc := 51) C (i := 5) (fun x5 => [(0, .ref 0), (5, .long x5), (7, .long v7), (9, .int v9)]) dX11_moreFrom_51 (by decide) (fun _ => rfl) fun x5 =>
    aw_lload (pc := 53) C (i := 7) dX11_moreFrom_53 rfl <|
    aw_aload_n (pc := 55) C (i := 0) dX11_moreFrom_55 rfl rfl <|
    aw_getR (pc := 56) C (b := 26) dX11_moreFrom_56 fl_X11_86 sR_0 rfl rR_0_37 <|
    aw_iload (pc := 59) C (i := 9) dX11_moreFrom_59 rfl <|
    aw_lald (pc := 61) C dX11_moreFrom_61 sR_26 rfl <|
    aw_ladd (pc := 62) C dX11_moreFrom_62 <|
    aw_lstoreV (pc := 63) C (i := 7) (fun x6 => [(0, .ref 0), (5, .long x5), (7, .long x6), (9, .int v9)]) dX11_moreFrom_63 (by decide) (fun _ => rfl) fun x6 =>
    aw_iincV (pc := 65) C (i := 9) (cst := 1) (fun x7 => [(0, .ref 0), (5, .long x5), (7, .long x6), (9, .int x7)]) dX11_moreFrom_65 rfl rfl (by decide) (fun _ => rfl) fun x7 =>
    aw_goto (pc := 68) C (tgt := 30) dX11_moreFrom_68 rfl <|
    (ih x5 x6 x7 h))
def X11_moreFrom (v1 : Int32) (v2 : Int32) (v3 : Int32) (v4 : Int32) (h : AH) : Option (Int32 × AH) :=
    bd (X11_findLengths v1 v2 25 1000 h) fun _ h2 =>
    bd (X11_findLengths v3 v4 26 1000 h2) fun _ h4 =>
    X11_moreFrom_l30 FU 0 0 0 h4
set_option maxRecDepth 100000 in
theorem c_X11_moreFrom (l : Launch) (v1 : Int32) (v2 : Int32) (v3 : Int32) (v4 : Int32) : MC l yX11_moreFrom cX11_moreFrom 10 (some .int) rmX11_moreFrom ZR [.ref 0, .int v1, .int v2, .int v3, .int v4] rvI (X11_moreFrom v1 v2 v3 v4) :=
  MC.of (own := RX11) (by decide +kernel) rfl (Nat.le_of_ble_eq_true rfl) fun X yd A h _ C =>
    aw_aload_n (pc := 0) C (i := 0) dX11_moreFrom_0 rfl rfl <|
    aw_iload_n (pc := 1) C (i := 1) dX11_moreFrom_1 rfl rfl <|
    aw_iload_n (pc := 2) C (i := 2) dX11_moreFrom_2 rfl rfl <|
    aw_aload_n (pc := 3) C (i := 0) dX11_moreFrom_3 rfl rfl <|
    aw_getR (pc := 4) C (b := 25) dX11_moreFrom_4 fl_X11_83 sR_0 rfl rR_0_36 <|
    aw_callF (pc := 7) C (cr_V (rest := []) (F := (X11_findLengths v1 v2 25 1000)) C (c_X11_findLengths X.2.1 v1 v2 25 1000 sR_25) dX11_moreFrom_7 mf_X11_findLengths ml_X11_311 im_X11_findLengths se_X11_findLengths sR_0 rfl ⟨(Nat.le_of_ble_eq_true rfl), (Nat.le_of_ble_eq_true rfl)⟩ rfl rfl (Nat.le_of_ble_eq_true rfl)) rfl rfl rfl (Nat.zero_le _) (Nat.zero_le _) fun _ h2 =>
    aw_aload_n (pc := 10) C (i := 0) dX11_moreFrom_10 rfl rfl <|
    aw_iload_n (pc := 11) C (i := 3) dX11_moreFrom_11 rfl rfl <|
    aw_iload (pc := 12) C (i := 4) dX11_moreFrom_12 rfl <|
    aw_aload_n (pc := 14) C (i := 0) dX11_moreFrom_14 rfl rfl <|
    aw_getR (pc := 15) C (b := 26) dX11_moreFrom_15 fl_X11_86 sR_0 rfl rR_0_37 <|
    aw_callF (pc := 18) C (cr_V (rest := []) (F := (X11_findLengths v3 v4 26 1000)) C (c_X11_findLengths X.2.1 v3 v4 26 1000 sR_26) dX11_moreFrom_18 mf_X11_findLengths ml_X11_311 im_X11_findLengths se_X11_findLengths sR_0 rfl ⟨(Nat.le_of_ble_eq_true rfl), (Nat.le_of_ble_eq_true rfl)⟩ rfl rfl (Nat.le_of_ble_eq_true rfl)) rfl rfl rfl (Nat.zero_le _) (Nat.zero_le _) fun _ h4 =>
    aw_lconst (pc := 21) C (v := 0) dX11_moreFrom_21 rfl <|
    aw_lstore (pc := 22) C (i := 5) (lv' := [(0, .ref 0), (1, .int v1), (2, .int v2), (3, .int v3), (4, .int v4), (5, .long 0)]) dX11_moreFrom_22 (by decide) rfl <|
    aw_lconst (pc := 24) C (v := 0) dX11_moreFrom_24 rfl <|
    aw_lstore (pc := 25) C (i := 7) (lv' := [(0, .ref 0), (1, .int v1), (2, .int v2), (3, .int v3), (4, .int v4), (5, .long 0), (7, .long 0)]) dX11_moreFrom_25 (by decide) rfl <|
    aw_iconst (pc := 27) C (v := 0) dX11_moreFrom_27 rfl <|
    aw_istore (pc := 28) C (i := 9) (lv' := [(0, .ref 0), (1, .int v1), (2, .int v2), (3, .int v3), (4, .int v4), (5, .long 0), (7, .long 0), (9, .int 0)]) dX11_moreFrom_28 (by decide) rfl <|
    aw_drop [0, 5, 6, 7] (aX11_moreFrom_l30 C FU 0 0 0 h4)
