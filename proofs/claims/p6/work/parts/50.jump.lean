/-! JUMPERS: lengths, aims, strides, the way to the edge -/
def clp (x : Int32) : Int32 := if 0 ≤ x then x else 0
def lenP (fg pc wd b l : Int32) : Int32 := clp (((((4 * pc) + (2 * wd)) + fg) - b) - (2 * l))
def lenS (kd fg pc wd b l : Int32) : Int32 :=
  if kd = 1 then clp (lenP fg pc wd b l - 3)
  else if kd = 2 then lenP fg pc wd b l + 3
  else if kd = 3 then clp (lenP fg pc wd b l - 3)
  else if kd = 4 then clp ((lenP fg pc wd b l + 3) + wd)
  else if kd = 5 then clp (lenP fg pc wd b l - 3) + 1
  else lenP fg pc wd b l
def aimS (kd fg : Int32) : Int32 :=
  if kd = 1 then fg + 2 else if kd = 2 then 1 else if kd = 3 then (fg + 2) / 2 else if kd = 4 then 1 else if kd = 5 then (fg + 2) / 2 + 1 else 0
def strS (kd st gr wd k : Int32) : Int32 :=
  if kd = 2 then ((st + ((gr * k) / 10)) + ((wd * k) / 10)) + (rm32 k 2)
  else if kd = 4 then (((st + ((gr * k) / 10)) + ((wd * k) / 10)) + (rm32 k 2)) + ((wd * k) / 10)
  else if kd = 5 then st + ((gr * k) / 10)
  else (st + ((gr * k) / 10)) + ((wd * k) / 10)
def pathS (kd st gr wd : Int32) : Nat → Int32
  | 0 => 0
  | k + 1 => pathS kd st gr wd k + strS kd st gr wd (nI k)
theorem clp_if {x : Int32} {h : AH} : (if 0 ≤ x then some (x, h) else some ((0 : Int32), h)) = some (clp x, h) := by
  unfold clp
  split <;> rfl
/-- a jumper of the class: its way is its kind -/
def JK (h : AH) (p : Nat) : Prop := ∃ κ : Nat, κ < 6 ∧ h.2.2 p = κ ∧ h.1 p 1 = nI κ
theorem s_len3 (p : Nat) (b l wd : Int32) (h : AH) : X3_lengthOf p b l wd h = some (lenP (h.1 p 2) (h.1 p 6) wd b l, h) := by
  unfold X3_lengthOf
  rw [vl_e, clp_if]
  rfl
theorem s_len7 (p : Nat) (b l wd : Int32) (h : AH) : X7_lengthOf p b l wd h = some (clp (lenP (h.1 p 2) (h.1 p 6) wd b l - 3), h) := by
  unfold X7_lengthOf
  rw [s_len3, bd_s, vl_e, clp_if]
theorem s_len0 (p : Nat) (b l wd : Int32) (h : AH) : X0_lengthOf p b l wd h = some (lenP (h.1 p 2) (h.1 p 6) wd b l + 3, h) := by
  unfold X0_lengthOf
  rw [s_len3, bd_s]
theorem s_len9 (p : Nat) (b l wd : Int32) (h : AH) : X9_lengthOf p b l wd h = some (clp ((lenP (h.1 p 2) (h.1 p 6) wd b l + 3) + wd), h) := by
  unfold X9_lengthOf
  rw [s_len0, bd_s, vl_e, clp_if]
theorem s_len8 (p : Nat) (b l wd : Int32) (h : AH) : X8_lengthOf p b l wd h = some (clp (lenP (h.1 p 2) (h.1 p 6) wd b l - 3) + 1, h) := by
  unfold X8_lengthOf
  rw [s_len7, bd_s]
theorem s_lenC {p : Nat} {h : AH} (hk : JK h p) (b l wd : Int32) : kd (h.2.2 p) (X3_lengthOf p b l wd h) (X7_lengthOf p b l wd h) (X0_lengthOf p b l wd h) (X7_lengthOf p b l wd h) (X9_lengthOf p b l wd h) (X8_lengthOf p b l wd h) = some (lenS (h.1 p 1) (h.1 p 2) (h.1 p 6) wd b l, h) := by
  rw [s_len3, s_len7, s_len0, s_len9, s_len8]
  obtain ⟨κ, hκ, e1, e2⟩ := hk
  rw [e1, e2]
  match κ, hκ with
  | 0, _ => rfl
  | 1, _ => rfl
  | 2, _ => rfl
  | 3, _ => rfl
  | 4, _ => rfl
  | 5, _ => rfl
theorem s_aimC {p : Nat} {h : AH} (hk : JK h p) : kd (h.2.2 p) (X3_aimOf p h) (X7_aimOf p h) (X0_aimOf p h) (X4_aimOf p h) (X0_aimOf p h) (X8_aimOf p h) = some (aimS (h.1 p 1) (h.1 p 2), h) := by
  obtain ⟨κ, hκ, e1, e2⟩ := hk
  rw [e1, e2]
  match κ, hκ with
  | 0, _ => rfl
  | 1, _ => rfl
  | 2, _ => rfl
  | 3, _ => rfl
  | 4, _ => rfl
  | 5, _ => rfl
theorem s_strC {p : Nat} {h : AH} (hk : JK h p) (k wd : Int32) : kd (h.2.2 p) (X3_strideOf p k wd h) (X3_strideOf p k wd h) (X0_strideOf p k wd h) (X3_strideOf p k wd h) (X9_strideOf p k wd h) (X8_strideOf p k wd h) = some (strS (h.1 p 1) (h.1 p 3) (h.1 p 4) wd k, h) := by
  obtain ⟨κ, hκ, e1, e2⟩ := hk
  rw [e1, e2]
  match κ, hκ with
  | 0, _ => rfl
  | 1, _ => rfl
  | 2, _ => rfl
  | 3, _ => rfl
  | 4, _ => rfl
  | 5, _ =>
    show X8_strideOf p k wd h = _
    unfold X8_strideOf X3_strideOf
    rw [bd_s]
    show some ((((h.1 p 3) + (((h.1 p 4) * k) / 10)) + ((wd * k) / 10)) - ((wd * k) / 10), h) = some ((h.1 p 3) + (((h.1 p 4) * k) / 10), h)
    rw [Int32.add_sub_cancel]
theorem s_pathC {p : Nat} {h : AH} (hk : JK h p) {S : Nat} (hS : S < 2 ^ 31) (wd : Int32) : ∀ (f i : Nat), S < i + f → i ≤ S → X2_path_l5 p (nI S) wd f (pathS (h.1 p 1) (h.1 p 3) (h.1 p 4) wd i) (nI i) h = some (pathS (h.1 p 1) (h.1 p 3) (h.1 p 4) wd S, h) := by
  intro f
  induction f with
  | zero => intro i h1 h2; omega
  | succ f ih =>
    intro i h1 h2
    rw [X2_path_l5.eq_2]
    by_cases c : i = S
    · subst c
      rw [if_pos (Int32.le_refl _)]
    · rw [if_neg (nI_ge (by omega) hS), s_strC hk, bd_s, vl_e, vl_e, nI_1]
      exact ih (i + 1) (by omega) (by omega)
theorem s_path {p : Nat} {h : AH} (hk : JK h p) {S : Nat} (hS : S < 4000) (wd : Int32) : X2_path p (nI S) wd h = some (pathS (h.1 p 1) (h.1 p 3) (h.1 p 4) wd S, h) :=
  s_pathC hk (by omega) wd FU 0 (by unfold FU; omega) (by omega)
/-! the reference's -/
theorem s_al0 (x : Int32) (h : AH) : X11_atLeast0 x h = some (clp x, h) := by
  unfold X11_atLeast0
  rw [clp_if]
theorem s_lenR {j : Nat} (hj : j < 4) (b l : Int32) (h : AH) : X11_lengthOf (nI j) b l h = some (lenS (h.1 2 j) (h.1 3 j) (h.1 7 j) (h.1 0 14) b l, h) := by
  unfold X11_lengthOf
  rw [ck_nI _ hj (by decide), ck_nI _ hj (by decide), nI_clamp (by omega), s_al0, bd_s, s_al0, bd_s, ck_nI _ hj (by decide), vl_e, s_al0, bd_s]
  unfold lenS lenP
  repeat (first | rfl | split)
theorem s_aimR {j : Nat} (hj : j < 4) (h : AH) : X11_aimOf (nI j) h = some (aimS (h.1 2 j) (h.1 3 j), h) := by
  unfold X11_aimOf
  rw [ck_nI _ hj (by decide), nI_clamp (by omega), vl_e, ck_nI _ hj (by decide), vl_e]
  unfold aimS
  repeat (first | rfl | split)
theorem s_strR {j : Nat} (hj : j < 4) (k wd : Int32) (h : AH) : X11_strideIn (nI j) k wd h = some (strS (h.1 2 j) (h.1 4 j) (h.1 5 j) wd k, h) := by
  unfold X11_strideIn
  rw [ck_nI _ hj (by decide), ck_nI _ hj (by decide), nI_clamp (by omega), vl_e, ck_nI _ hj (by decide), vl_e, ck_nI _ hj (by decide), ck_nI _ hj (by decide)]
  unfold strS
  repeat (first | rfl | split)
theorem s_pathRL {j : Nat} (hj : j < 4) {h : AH} {S : Nat} (hS : S < 2 ^ 31) (e : h.1 0 12 = nI S) (wd : Int32) : ∀ (f i : Nat), S < i + f → i ≤ S → X11_allStrides_l5 (nI j) wd f (pathS (h.1 2 j) (h.1 4 j) (h.1 5 j) wd i) (nI i) h = some (pathS (h.1 2 j) (h.1 4 j) (h.1 5 j) wd S, h) := by
  intro f
  induction f with
  | zero => intro i h1 h2; omega
  | succ f ih =>
    intro i h1 h2
    rw [X11_allStrides_l5.eq_2, e]
    by_cases c : i = S
    · subst c
      rw [if_pos (Int32.le_refl _)]
    · rw [if_neg (nI_ge (by omega) hS), s_strR hj, bd_s, vl_e, vl_e, nI_1]
      exact ih (i + 1) (by omega) (by omega)
theorem s_pathR {j : Nat} (hj : j < 4) {h : AH} {S : Nat} (hS : S < 4000) (e : h.1 0 12 = nI S) (wd : Int32) : X11_allStrides (nI j) wd h = some (pathS (h.1 2 j) (h.1 4 j) (h.1 5 j) wd S, h) :=
  s_pathRL hj (by omega) e wd FU 0 (by unfold FU; omega) (by omega)
theorem s_placeR {j : Nat} (hj : j < 4) {h : AH} {S : Nat} (hS : S < 4000) (e : h.1 0 12 = nI S) : X11_placeOf (nI j) h = some (h.1 9 j - pathS (h.1 2 j) (h.1 4 j) (h.1 5 j) (h.1 0 14) S, h) := by
  unfold X11_placeOf
  rw [ck_nI _ hj (by decide), s_pathR hj hS e, bd_s, nI_clamp (by omega)]
/-! the class's, by number -/
theorem zc_j {o j : Nat} (ho : o = 42 ∨ o = 52 ∨ o = 62) (hj : j < 4) : ZC.1[o + 6 + j]? = some (.inr 2) := by
  rcases ho with e | e | e <;> subst e
  · match j, hj with
    | 0, _ => exact sC_48
    | 1, _ => exact sC_49
    | 2, _ => exact sC_50
    | 3, _ => exact sC_51
  · match j, hj with
    | 0, _ => exact sC_58
    | 1, _ => exact sC_59
    | 2, _ => exact sC_60
    | 3, _ => exact sC_61
  · match j, hj with
    | 0, _ => exact sC_68
    | 1, _ => exact sC_69
    | 2, _ => exact sC_70
    | 3, _ => exact sC_71
theorem s_at (o : Nat) {j : Nat} (hj : j < 4) (h : AH) : X5_at o (nI j) h = some (o + 6 + j, h) := by
  unfold X5_at
  rw [if_neg (nI_pos (by omega)), if_pos (show nI j < 4 from nI_lt (b := 4) hj (by decide)), ck_nI _ hj (by decide), nI_clamp (by omega), Nat.mod_eq_of_lt hj]
theorem s_placeC {j : Nat} (hj : j < 4) {h : AH} (hk : JK h (48 + j)) {S : Nat} (hS : S < 4000) (e : h.1 42 0 = nI S) : X10_placeOf (nI j) h = some (h.1 (48 + j) 8 - pathS (h.1 (48 + j) 1) (h.1 (48 + j) 3) (h.1 (48 + j) 4) (h.1 42 1) S, h) := by
  unfold X10_placeOf
  rw [s_at 42 hj, bd_s, cs_in _ (zc_j (Or.inl rfl) hj), e, s_path hk hS, bd_s]
/-! bounds -/
/-- a wind -/
def WW (w : Int32) : Prop := ∃ p : Nat, p < 19 ∧ w = nI p - 9
theorem ww_toInt {w : Int32} (h : WW w) : -9 ≤ w.toInt ∧ w.toInt ≤ 9 := by
  obtain ⟨p, hp, rfl⟩ := h
  have : (nI p - 9).toInt = (p : Int) - 9 := pk_sub_toInt (a := p) (b := 9) (by omega) (by decide)
  omega
theorem ww_of {w : Int32} (h1 : -9 ≤ w.toInt) (h2 : w.toInt ≤ 9) : WW w := by
  refine ⟨(w.toInt + 9).toNat, by omega, ?_⟩
  have e : (nI (w.toInt + 9).toNat - 9).toInt = ((w.toInt + 9).toNat : Int) - 9 := pk_sub_toInt (a := (w.toInt + 9).toNat) (b := 9) (by omega) (by decide)
  rw [fa_eq, e]
  omega
theorem wk_tab : ∀ p : Nat, p < 19 → ∀ k : Nat, k < 20 → -17 ≤ (((nI p - 9) * nI k) / 10).toInt ∧ (((nI p - 9) * nI k) / 10).toInt ≤ 17 := by decide +kernel
theorem wk_b {w : Int32} (h : WW w) {k : Nat} (hk : k < 20) : -17 ≤ ((w * nI k) / 10).toInt ∧ ((w * nI k) / 10).toInt ≤ 17 := by
  obtain ⟨p, hp, rfl⟩ := h
  exact wk_tab p hp k hk
theorem toInt_nI {n : Nat} (h : n < 2 ^ 31) : (nI n).toInt = (n : Int) := nI_toInt h
theorem gk_e {g k : Nat} (hg : g ≤ 9) (hk : k < 20) : ((nI g * nI k) / 10) = nI (g * k / 10) := by
  have h1 : g * k ≤ 9 * 19 := Nat.mul_le_mul hg (by omega)
  rw [pk_mul]
  exact pk_div (by omega) (by decide) (by decide)
theorem gk_b {g k : Nat} (hg : g ≤ 9) (hk : k < 20) : g * k / 10 ≤ 17 := by
  have h1 : g * k ≤ 9 * 19 := Nat.mul_le_mul hg (by omega)
  omega
theorem str_b {kd st gr wd : Int32} {a g k : Nat} (ha : a ≤ 99) (hg : g ≤ 9) (es : st = nI a) (eg : gr = nI g) (hw : WW wd) (hk : k < 20) : -40 ≤ (strS kd st gr wd (nI k)).toInt ∧ (strS kd st gr wd (nI k)).toInt ≤ 160 := by
  subst es
  subst eg
  have h1 := wk_b hw hk
  have h2 := gk_b hg hk
  have e2 : rm32 (nI k) 2 = nI (k % 2) := pk_rem (a := k) (d := 2) (by omega) (by decide) (by decide)
  have t0 : (nI a + nI (g * k / 10)).toInt = (a : Int) + (g * k / 10 : Nat) := by
    rw [nI_add, nI_toInt (by omega)]
    omega
  have t1 : (nI a + nI (g * k / 10) + (wd * nI k) / 10).toInt = (a : Int) + (g * k / 10 : Nat) + ((wd * nI k) / 10).toInt := by
    rw [fb_addI (by omega) (by omega), t0]
  have t2 : (nI a + nI (g * k / 10) + (wd * nI k) / 10 + nI (k % 2)).toInt = (a : Int) + (g * k / 10 : Nat) + ((wd * nI k) / 10).toInt + (k % 2 : Nat) := by
    rw [fb_addI (by rw [t1, nI_toInt (by omega)]; omega) (by rw [t1, nI_toInt (by omega)]; omega), t1, nI_toInt (by omega)]
  have t3 : (nI a + nI (g * k / 10) + (wd * nI k) / 10 + nI (k % 2) + (wd * nI k) / 10).toInt = (a : Int) + (g * k / 10 : Nat) + ((wd * nI k) / 10).toInt + (k % 2 : Nat) + ((wd * nI k) / 10).toInt := by
    rw [fb_addI (by omega) (by omega), t2]
  unfold strS
  rw [gk_e hg hk, e2]
  split
  · omega
  · split
    · omega
    · split
      · omega
      · omega
theorem path_b {kd st gr wd : Int32} {a g : Nat} (ha : a ≤ 99) (hg : g ≤ 9) (es : st = nI a) (eg : gr = nI g) (hw : WW wd) : ∀ S : Nat, S ≤ 20 → -40 * (S : Int) ≤ (pathS kd st gr wd S).toInt ∧ (pathS kd st gr wd S).toInt ≤ 160 * (S : Int) := by
  intro S
  induction S with
  | zero => intro _; exact ⟨Int.le_refl 0, Int.le_refl 0⟩
  | succ S ih =>
    intro hS
    have h1 := ih (by omega)
    have h2 := str_b (kd := kd) (k := S) ha hg es eg hw (by omega)
    have e : (pathS kd st gr wd (S + 1)).toInt = (pathS kd st gr wd S).toInt + (strS kd st gr wd (nI S)).toInt := by
      show (pathS kd st gr wd S + strS kd st gr wd (nI S)).toInt = _
      rw [fb_addI (by omega) (by omega)]
    rw [e]
    omega
theorem clp_b (x : Int32) : 0 ≤ (clp x).toInt ∧ (clp x).toInt = max 0 x.toInt := by
  unfold clp
  split
  next h => rw [fa_le] at h; have e : (0 : Int32).toInt = 0 := rfl; omega
  next h => rw [fa_le] at h; have e : (0 : Int32).toInt = 0 := rfl; omega
theorem len_b {kd fg pc wd b l : Int32} {f p : Nat} (hf : f ≤ 9) (hp : p ≤ 99) (ef : fg = nI f) (ep : pc = nI p) (hw : WW wd) (hb : 0 ≤ b.toInt) (hb2 : b.toInt ≤ 100000) (hl : 0 ≤ l.toInt) (hl2 : l.toInt ≤ 100000) : 0 ≤ (lenS kd fg pc wd b l).toInt ∧ (lenS kd fg pc wd b l).toInt ≤ 435 := by
  subst ef
  subst ep
  have h1 := ww_toInt hw
  have e4 : (4 * nI p).toInt = 4 * (p : Int) := by
    show (nI 4 * nI p).toInt = _
    rw [pk_mul, nI_toInt (by omega)]
    omega
  have e2 : (2 : Int32).toInt = 2 := rfl
  have ew : (2 * wd).toInt = 2 * wd.toInt := by rw [fb_mulI (by rw [e2]; omega) (by rw [e2]; omega), e2]
  have el : (2 * l).toInt = 2 * l.toInt := by rw [fb_mulI (by rw [e2]; omega) (by rw [e2]; omega), e2]
  have t1 : (4 * nI p + 2 * wd).toInt = 4 * (p : Int) + 2 * wd.toInt := by rw [fb_addI (by omega) (by omega), e4, ew]
  have t2 : (4 * nI p + 2 * wd + nI f).toInt = 4 * (p : Int) + 2 * wd.toInt + f := by rw [fb_addI (by rw [t1, nI_toInt (by omega)]; omega) (by rw [t1, nI_toInt (by omega)]; omega), t1, nI_toInt (by omega)]
  have t3 : (4 * nI p + 2 * wd + nI f - b).toInt = 4 * (p : Int) + 2 * wd.toInt + f - b.toInt := by rw [fb_subI (by omega) (by omega), t2]
  have t4 : (4 * nI p + 2 * wd + nI f - b - 2 * l).toInt = 4 * (p : Int) + 2 * wd.toInt + f - b.toInt - 2 * l.toInt := by rw [fb_subI (by omega) (by omega), t3, el]
  have c1 := clp_b (4 * nI p + 2 * wd + nI f - b - 2 * l)
  have e0 : (lenP (nI f) (nI p) wd b l).toInt = max 0 (4 * (p : Int) + 2 * wd.toInt + f - b.toInt - 2 * l.toInt) := by
    unfold lenP
    rw [c1.2, t4]
  have e3 : (3 : Int32).toInt = 3 := rfl
  have e1 : (1 : Int32).toInt = 1 := rfl
  have s1 : (lenP (nI f) (nI p) wd b l - 3).toInt = (lenP (nI f) (nI p) wd b l).toInt - 3 := by rw [fb_subI (by rw [e3]; omega) (by rw [e3]; omega), e3]
  have c2 := clp_b (lenP (nI f) (nI p) wd b l - 3)
  have s2 : (lenP (nI f) (nI p) wd b l + 3).toInt = (lenP (nI f) (nI p) wd b l).toInt + 3 := by rw [fb_addI (by rw [e3]; omega) (by rw [e3]; omega), e3]
  have s3 : (lenP (nI f) (nI p) wd b l + 3 + wd).toInt = (lenP (nI f) (nI p) wd b l).toInt + 3 + wd.toInt := by rw [fb_addI (by omega) (by omega), s2]
  have c3 := clp_b (lenP (nI f) (nI p) wd b l + 3 + wd)
  have s4 : (clp (lenP (nI f) (nI p) wd b l - 3) + 1).toInt = (clp (lenP (nI f) (nI p) wd b l - 3)).toInt + 1 := by rw [fb_addI (by rw [e1]; omega) (by rw [e1]; omega), e1]
  unfold lenS
  split
  · omega
  · split
    · omega
    · split
      · omega
      · split
        · omega
        · split
          · omega
          · omega
theorem aim_b {kd fg : Int32} {f : Nat} (hf : f ≤ 9) (ef : fg = nI f) : 0 ≤ (aimS kd fg).toInt ∧ (aimS kd fg).toInt ≤ 11 := by
  subst ef
  have e1 : (nI f + 2) = nI (f + 2) := nI_add f 2
  have e2 : nI (f + 2) / 2 = nI ((f + 2) / 2) := pk_div (a := f + 2) (d := 2) (by omega) (by decide) (by decide)
  have e3 : nI ((f + 2) / 2) + 1 = nI ((f + 2) / 2 + 1) := nI_1 _
  have t1 := nI_toInt (n := f + 2) (by omega)
  have t2 := nI_toInt (n := (f + 2) / 2) (by omega)
  have t3 := nI_toInt (n := (f + 2) / 2 + 1) (by omega)
  unfold aimS
  rw [e1, e2, e3]
  split
  · rw [t1]; omega
  · split
    · exact ⟨by decide, by decide⟩
    · split
      · rw [t2]; omega
      · split
        · exact ⟨by decide, by decide⟩
        · split
          · rw [t3]; omega
          · exact ⟨by decide, by decide⟩
