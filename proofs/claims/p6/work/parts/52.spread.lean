/-! ALL SLIPS: what one run gives, and the sums over all -/
def bh0S (pl sl : Int32) (e i : Nat) : Int32 := pl - sl * (nI i - nI e)
def bkS (aim : Int32) (l : Nat) (b0 : Int32) : Int32 := if l = 0 then 0 else (b0 - aim) / 2
def lsS (pl sl aim : Int32) (e l i : Nat) : Int32 := ab32 (bkS aim l (bh0S pl sl e i)) / 4
def bhS (pl sl aim : Int32) (e l i t : Nat) : Int32 := (bh0S pl sl e i - bkS aim l (bh0S pl sl e i)) - sl * (nI t - nI l)
def lnS (kd fg sl pc wd pl aim : Int32) (e l i t : Nat) : Int32 := if 0 ≤ bhS pl sl aim e l i t then lenS kd fg pc wd (bhS pl sl aim e l i t) (lsS pl sl aim e l i) else 0
/-- the sum over all slips of what φ says of take-off and LENGTH -/
def RS (kd fg sl pc wd pl aim : Int32) (e l : Nat) (φ : Int32 → Int32 → Int64) : Int64 :=
  sm (2 * e + 1) (fun i => sm (2 * l + 1) (fun t => (lN (cb (2 * e) i) * lN (cb (2 * l) t)) * φ (bhS pl sl aim e l i t) (lnS kd fg sl pc wd pl aim e l i t)))
theorem sg_add (t l : Nat) : nI l + (nI t - nI l) = nI t := by
  rw [Int32.add_comm, Int32.sub_add_cancel]
theorem sg_next (t l : Nat) : (nI t - nI l) + 1 = nI (t + 1) - nI l := by
  rw [Int32.sub_eq_add_neg, Int32.add_assoc, Int32.add_comm (-nI l) 1, ← Int32.add_assoc, nI_1, Int32.sub_eq_add_neg]
theorem sg_0 (l : Nat) : -(nI l) = nI 0 - nI l := (Int32.zero_sub _).symm
theorem sg_lt {t l : Nat} (ht : t < 2 ^ 30) (hl : l < 2 ^ 30) : nI l < nI t - nI l ↔ 2 * l < t := by
  rw [fa_lt, pk_sub_toInt ht hl, nI_toInt (by omega)]
  omega
/-! bounds -/
theorem sl_b {s i e : Nat} (hs : s ≤ 6) (hi : i ≤ 40) (he : e ≤ 20) (hie : i ≤ 2 * e) : -120 ≤ (nI s * (nI i - nI e)).toInt ∧ (nI s * (nI i - nI e)).toInt ≤ 120 := by
  have h1 := pk_sub_toInt (a := i) (b := e) (by omega) (by omega)
  have h2 := nI_toInt (n := s) (by omega)
  have key : -120 ≤ (s : Int) * ((i : Int) - e) ∧ (s : Int) * ((i : Int) - e) ≤ 120 := by
    rcases (by omega : s = 0 ∨ s = 1 ∨ s = 2 ∨ s = 3 ∨ s = 4 ∨ s = 5 ∨ s = 6) with z | z | z | z | z | z | z <;> subst z <;> omega
  rw [fb_mulI (by rw [h1, h2]; omega) (by rw [h1, h2]; omega), h1, h2]
  exact key
theorem td_b (z : Int) (d : Int) (hd : 0 < d) : (0 ≤ z → 0 ≤ z.tdiv d ∧ z.tdiv d ≤ z) ∧ (z ≤ 0 → z ≤ z.tdiv d ∧ z.tdiv d ≤ 0) := by
  have pos : ∀ y : Int, 0 ≤ y → 0 ≤ y.tdiv d ∧ y.tdiv d ≤ y := by
    intro y hy
    rw [Int.tdiv_eq_ediv_of_nonneg hy]
    exact ⟨Int.ediv_nonneg hy (by omega), Int.ediv_le_self d hy⟩
  refine ⟨pos z, fun hz => ?_⟩
  have h := pos (-z) (by omega)
  rw [Int.neg_tdiv] at h
  omega
theorem bk_b {aim b0 : Int32} {l : Nat} (ha : 0 ≤ aim.toInt) (ha2 : aim.toInt ≤ 11) (hb : -10000 ≤ b0.toInt) (hb2 : b0.toInt ≤ 10000) : -10011 ≤ (bkS aim l b0).toInt ∧ (bkS aim l b0).toInt ≤ 10011 := by
  unfold bkS
  split
  · exact ⟨by decide, by decide⟩
  · have h1 : (b0 - aim).toInt = b0.toInt - aim.toInt := fb_subI (by omega) (by omega)
    have h2 : (2 : Int32).toInt = 2 := rfl
    rw [Int32.toInt_div_of_ne_right _ _ (by decide), h1, h2]
    have h3 := td_b (b0.toInt - aim.toInt) 2 (by omega)
    omega
theorem ab_b {x : Int32} (h1 : -10011 ≤ x.toInt) (h2 : x.toInt ≤ 10011) : 0 ≤ (ab32 x / 4).toInt ∧ (ab32 x / 4).toInt ≤ 10011 := by
  have h4 : (4 : Int32).toInt = 4 := rfl
  have h0 : (0 : Int32).toInt = 0 := rfl
  rw [Int32.toInt_div_of_ne_right _ _ (by decide), h4]
  have hx : 0 ≤ (ab32 x).toInt ∧ (ab32 x).toInt ≤ 10011 := by
    unfold ab32
    split
    next c => rw [fa_le, h0] at c; omega
    next c =>
      rw [fa_le, h0] at c
      rw [fb_subI (by omega) (by omega), h0]
      omega
  have h3 := (td_b (ab32 x).toInt 4 (by omega)).1 hx.1
  omega
theorem run_b {pl sl aim : Int32} {s e l i t : Nat} (hs : s ≤ 6) (es : sl = nI s) (he : e ≤ 20) (hl : l ≤ 4) (hi : i ≤ 2 * e) (ht : t ≤ 2 * l) (hp : -5000 ≤ pl.toInt) (hp2 : pl.toInt ≤ 5000) (ha : 0 ≤ aim.toInt) (ha2 : aim.toInt ≤ 11) :
    (bhS pl sl aim e l i t).toInt ≤ 100000 ∧ -100000 ≤ (bhS pl sl aim e l i t).toInt ∧ 0 ≤ (lsS pl sl aim e l i).toInt ∧ (lsS pl sl aim e l i).toInt ≤ 100000 := by
  subst es
  have h1 := sl_b hs (i := i) (e := e) (by omega) he hi
  have h2 := sl_b hs (i := t) (e := l) (by omega) (by omega) ht
  have h3 : (bh0S pl (nI s) e i).toInt = pl.toInt - (nI s * (nI i - nI e)).toInt := fb_subI (by omega) (by omega)
  have h4 := bk_b (b0 := bh0S pl (nI s) e i) (l := l) ha ha2 (by omega) (by omega)
  have h5 : (bh0S pl (nI s) e i - bkS aim l (bh0S pl (nI s) e i)).toInt = (bh0S pl (nI s) e i).toInt - (bkS aim l (bh0S pl (nI s) e i)).toInt := fb_subI (by omega) (by omega)
  have h6 : (bhS pl (nI s) aim e l i t).toInt = (bh0S pl (nI s) e i - bkS aim l (bh0S pl (nI s) e i)).toInt - (nI s * (nI t - nI l)).toInt := fb_subI (by omega) (by omega)
  have h7 := ab_b (x := bkS aim l (bh0S pl (nI s) e i)) (by omega) (by omega)
  refine ⟨by omega, by omega, ?_, ?_⟩
  · exact h7.1
  · have := h7.2
    show (ab32 (bkS aim l (bh0S pl (nI s) e i)) / 4).toInt ≤ 100000
    omega
/-- a jumper's numbers as they may be -/
def JB (kd fg st gr sl pc lk mk : Int32) : Prop := ∃ κ f a g s p l m : Nat, κ < 6 ∧ f ≤ 9 ∧ a ≤ 99 ∧ g ≤ 9 ∧ s ≤ 6 ∧ p ≤ 99 ∧ l ≤ 4 ∧ m ≤ 2400 ∧ kd = nI κ ∧ fg = nI f ∧ st = nI a ∧ gr = nI g ∧ sl = nI s ∧ pc = nI p ∧ lk = nI l ∧ mk = nI m
theorem ln_b {kd fg sl pc wd pl aim : Int32} {f p s e l i t : Nat} (hf : f ≤ 9) (ef : fg = nI f) (hpc : p ≤ 99) (ep : pc = nI p) (hw : WW wd) (hs : s ≤ 6) (es : sl = nI s) (he : e ≤ 20) (hl : l ≤ 4) (hi : i ≤ 2 * e) (ht : t ≤ 2 * l) (hp : -5000 ≤ pl.toInt) (hp2 : pl.toInt ≤ 5000) (ha : 0 ≤ aim.toInt) (ha2 : aim.toInt ≤ 11) :
    ∃ n : Nat, n ≤ 435 ∧ lnS kd fg sl pc wd pl aim e l i t = nI n := by
  have h1 := run_b hs es he hl hi ht hp hp2 ha ha2
  unfold lnS
  split
  next c =>
    rw [fa_le] at c
    have h2 := len_b (kd := kd) hf hpc ef ep hw c h1.1 h1.2.2.1 h1.2.2.2
    refine ⟨(lenS kd fg pc wd (bhS pl sl aim e l i t) (lsS pl sl aim e l i)).toInt.toNat, by omega, ?_⟩
    rw [fa_eq, nI_toInt (by omega)]
    omega
  next c => exact ⟨0, by omega, rfl⟩
/-! the class -/
theorem s_fillL (p n : Nat) (v : Int64) (hn : n < 2 ^ 31) : ∀ (f i : Nat) (h : AH), n < i + f → i ≤ n → ∃ h', J7_fill_d0a16_l6 p n v (nI n) f (nI i) h = some ((), h') ∧ LO p h h' ∧ ∀ k, h'.2.1 p k = if i ≤ k ∧ k < n then v else h.2.1 p k := by
  intro f
  induction f with
  | zero => intro i h h1 h2; omega
  | succ f ih =>
    intro i h h1 h2
    rw [J7_fill_d0a16_l6.eq_2]
    by_cases e : i = n
    · subst e
      rw [if_pos (Int32.le_refl _)]
      exact ⟨h, rfl, LO.rf, fun k => by rw [if_neg (by omega)]⟩
    · rw [if_neg (nI_ge (by omega) hn), ck_nI _ (by omega) hn, vl_e, vl_e, nI_clamp (by omega), nI_1]
      obtain ⟨h', a1, a2, a3⟩ := ih (i + 1) (sL h p i v) (by omega) (by omega)
      refine ⟨h', a1, (LO.set h _ _).tr a2, fun k => ?_⟩
      rw [a3, sL_at]
      by_cases c : i ≤ k ∧ k < n
      · rw [if_pos c]
        by_cases c2 : k = i
        · rw [if_neg (by omega), if_pos ⟨rfl, c2⟩]
        · rw [if_pos (by omega)]
      · rw [if_neg c, if_neg (by omega), if_neg (by omega)]
/-- what a spread touches -/
def SP (h h' : AH) : Prop := h'.1 = h.1 ∧ h'.2.2 = h.2.2 ∧ (∀ o, o ≠ 8 → o ≠ 31 → h'.2.1 o = h.2.1 o) ∧ h'.2.1 8 2 = h.2.1 8 2
theorem SP.rf {h : AH} : SP h h := ⟨rfl, rfl, fun _ _ _ => rfl, rfl⟩
theorem SP.tr {h h' h2 : AH} (a : SP h h') (b : SP h' h2) : SP h h2 := ⟨b.1.trans a.1, b.2.1.trans a.2.1, fun o h1 h2 => (b.2.2.1 o h1 h2).trans (a.2.2.1 o h1 h2), b.2.2.2.trans a.2.2.2⟩
def Ph (g : Nat → Int64) (h : AH) : Int64 := sm 1000 (fun v => g v * h.2.1 31 v)
/-- what has come to the counts since g0 -/
def Ac (g0 h : AH) (S : (Int32 → Int32 → Int64) → Int64) (b : Int32) : Prop := SP g0 h ∧ (∀ g : Nat → Int64, Ph g h = Ph g g0 + S (fun _ n => g n.toNatClampNeg)) ∧ h.2.1 8 3 = g0.2.1 8 3 + S (fun x _ => if x < 0 then 1 else 0) ∧ h.2.1 8 4 = g0.2.1 8 4 + S (fun x _ => if x = b then 1 else 0)
theorem ac_one {g0 h : AH} {S S' : (Int32 → Int32 → Int64) → Int64} {b x ln : Int32} {w : Int64} {n : Nat} (A : Ac g0 h S b) (hn : n ≤ 435) (en : ln = nI n) (hS : ∀ φ, S' φ = S φ + w * φ x ln) {h1 : AH}
    (e1 : h1.1 = h.1) (e2 : h1.2.2 = h.2.2) (e3 : ∀ o j, h1.2.1 o j = if o = 31 ∧ j = n then h.2.1 31 n + w else if o = 8 ∧ j = 4 then h.2.1 8 4 + (if x = b then w else 0) else if o = 8 ∧ j = 3 then h.2.1 8 3 + (if x < 0 then w else 0) else h.2.1 o j) : Ac g0 h1 S' b := by
  obtain ⟨a1, a2, a3, a4⟩ := A
  refine ⟨a1.tr ⟨e1, e2, fun o p1 p2 => funext fun j => ?_, ?_⟩, fun g => ?_, ?_, ?_⟩
  · rw [e3, if_neg (fun z => p2 z.1), if_neg (fun z => p1 z.1), if_neg (fun z => p1 z.1)]
  · rw [e3, if_neg (by omega), if_neg (by omega), if_neg (by omega)]
  · rw [hS, en, nI_clamp (by omega), ← Int64.add_assoc, ← a2 g]
    unfold Ph
    refine sm_upd (a := n) (by omega) _ _ _ ?_ (fun i hi => ?_)
    · rw [e3, if_pos ⟨rfl, rfl⟩, Int64.mul_add, Int64.mul_comm (g n) w]
    · rw [e3, if_neg (fun z => hi z.2), if_neg (by omega), if_neg (by omega)]
  · rw [e3, if_neg (by omega), if_neg (by omega), if_pos ⟨rfl, rfl⟩, hS, a3, Int64.add_assoc]
    congr 2
    split
    · exact (Int64.mul_one _).symm
    · exact Int64.mul_zero.symm
  · rw [e3, if_neg (by omega), if_pos ⟨rfl, rfl⟩, hS, a4, Int64.add_assoc]
    congr 2
    split
    · exact (Int64.mul_one _).symm
    · exact Int64.mul_zero.symm
theorem s_last (p : Nat) (wd v3 v4 b : Int32) (v6 : Int64) (v8 : Int32) (w : Int64) (x : Int32) (K : Int32 → AH → Option (Unit × AH)) {ln : Int32} {n : Nat} (h : AH) (hn : n ≤ 435) (en : ln = nI n) :
    ∃ h1, X1_spreadLast_j71 p wd v3 v4 b v6 v8 w x K ln h = K (v8 + 1) h1 ∧ h1.1 = h.1 ∧ h1.2.2 = h.2.2 ∧ ∀ o j, h1.2.1 o j = if o = 31 ∧ j = n then h.2.1 31 n + w else if o = 8 ∧ j = 4 then h.2.1 8 4 + (if x = b then w else 0) else if o = 8 ∧ j = 3 then h.2.1 8 3 + (if x < 0 then w else 0) else h.2.1 o j := by
  have key : ∀ (s0 : Int64) (h6 : AH), ∃ h1, X1_spreadLast_j111 p wd v3 v4 b v6 v8 w ln K s0 (h6.2.1 8 4) h6 = K (v8 + 1) h1 ∧ h1.1 = h6.1 ∧ h1.2.2 = h6.2.2 ∧ ∀ o j, h1.2.1 o j = if o = 31 ∧ j = n then h6.2.1 31 n + w else if o = 8 ∧ j = 4 then h6.2.1 8 4 + s0 else h6.2.1 o j := by
    intro s0 h6
    unfold X1_spreadLast_j111 X1_spreadLast_j140
    rw [vl_e, en, if_neg (nI_pos (by omega)), if_neg (show ¬ (999 : Int32) < nI n from nI_nlt (a := 999) (by omega) (by decide)), ck_nI _ (by omega) (by decide), ck_nI _ (by omega) (by decide), vl_e, vl_e, nI_clamp (by omega)]
    refine ⟨_, rfl, rfl, rfl, fun o j => ?_⟩
    rw [sL_at, sL_at, sL_at, if_neg (by omega : ¬ (31 = 8 ∧ n = 4))]
  have key2 : ∀ s0 : Int64, ∃ h1, X1_spreadLast_j89 p wd v3 v4 b v6 v8 w x ln K s0 (h.2.1 8 3) h = K (v8 + 1) h1 ∧ h1.1 = h.1 ∧ h1.2.2 = h.2.2 ∧ ∀ o j, h1.2.1 o j = if o = 31 ∧ j = n then h.2.1 31 n + w else if o = 8 ∧ j = 4 then h.2.1 8 4 + (if x = b then w else 0) else if o = 8 ∧ j = 3 then h.2.1 8 3 + s0 else h.2.1 o j := by
    intro s0
    unfold X1_spreadLast_j89
    rw [vl_e]
    have fin : ∀ s1, ∃ h1, X1_spreadLast_j111 p wd v3 v4 b v6 v8 w ln K s1 ((sL h 8 3 (h.2.1 8 3 + s0)).2.1 8 4) (sL h 8 3 (h.2.1 8 3 + s0)) = K (v8 + 1) h1 ∧ h1.1 = h.1 ∧ h1.2.2 = h.2.2 ∧ ∀ o j, h1.2.1 o j = if o = 31 ∧ j = n then h.2.1 31 n + w else if o = 8 ∧ j = 4 then h.2.1 8 4 + s1 else if o = 8 ∧ j = 3 then h.2.1 8 3 + s0 else h.2.1 o j := by
      intro s1
      obtain ⟨h1, a1, a2, a3, a4⟩ := key s1 (sL h 8 3 (h.2.1 8 3 + s0))
      refine ⟨h1, a1, a2, a3, fun o j => ?_⟩
      rw [a4, sL_at, sL_at, sL_at, if_neg (by omega : ¬ (31 = 8 ∧ n = 3)), if_neg (by omega : ¬ (8 = 8 ∧ 4 = 3))]
    split
    · exact fin w
    · exact fin 0
  unfold X1_spreadLast_j71
  by_cases c : 0 ≤ x
  · rw [if_pos c]
    have c2 : ¬ x < 0 := Int32.not_lt.mpr c
    rw [if_neg c2]
    exact key2 0
  · rw [if_neg c]
    have c2 : x < 0 := Int32.not_le.mp c
    rw [if_pos c2]
    exact key2 w
theorem bd_of {α β : Type} {F : Option (α × AH)} {a : α} {h : AH} (e : F = some (a, h)) (f : α → AH → Option β) : bd F f = f a h := by
  rw [e, bd_s]
theorem ac_cong {g0 h : AH} {S S' : (Int32 → Int32 → Int64) → Int64} {b : Int32} (e : ∀ φ, S' φ = S φ) (A : Ac g0 h S b) : Ac g0 h S' b := ⟨A.1, fun g => by rw [e]; exact A.2.1 g, by rw [e]; exact A.2.2.1, by rw [e]; exact A.2.2.2⟩
theorem ab_neg (x : Int32) : (if 0 ≤ x then x else -x) = ab32 x := by
  unfold ab32
  rw [Int32.zero_sub]
/-- a jumper in the class's heap, with its numbers -/
def JN (h : AH) (p f pp s l : Nat) : Prop := JK h p ∧ f ≤ 9 ∧ h.1 p 2 = nI f ∧ pp ≤ 99 ∧ h.1 p 6 = nI pp ∧ s ≤ 6 ∧ h.1 p 5 = nI s ∧ l ≤ 4 ∧ h.1 p 7 = nI l
/-- the class's table of ways -/
def WT (h : AH) : Prop := ∀ n j, n ≤ 20 → h.2.1 (10 + n) j = lN (cb (2 * n) j)
theorem JK.of {h h' : AH} {p : Nat} (k : JK h p) (e1 : h'.1 = h.1) (e2 : h'.2.2 = h.2.2) : JK h' p := by
  obtain ⟨κ, a, b, c⟩ := k
  exact ⟨κ, a, by rw [e2]; exact b, by rw [e1]; exact c⟩
section SPR
variable {g0 : AH} {p f pp s l e : Nat} {wd pl b : Int32}
theorem s_inner (J : JN g0 p f pp s l) (T : WT g0) (hw : WW wd) (he : e ≤ 20) {i : Nat} (hi : i ≤ 2 * e) (hp : -5000 ≤ pl.toInt) (hp2 : pl.toInt ≤ 5000) (S0 : (Int32 → Int32 → Int64) → Int64) (w : Int64) : ∀ (n t : Nat) (h : AH), 2 * l + 1 < t + n → t ≤ 2 * l + 1 →
    Ac g0 h (fun φ => S0 φ + sm t (fun t' => (w * lN (cb (2 * l) t')) * φ (bhS pl (g0.1 p 5) (aimS (g0.1 p 1) (g0.1 p 2)) e l i t') (lnS (g0.1 p 1) (g0.1 p 2) (g0.1 p 5) (g0.1 p 6) wd pl (aimS (g0.1 p 1) (g0.1 p 2)) e l i t'))) b →
    ∃ h', X1_spreadLast_l7 p wd (bh0S pl (g0.1 p 5) e i - bkS (aimS (g0.1 p 1) (g0.1 p 2)) l (bh0S pl (g0.1 p 5) e i)) (lsS pl (g0.1 p 5) (aimS (g0.1 p 1) (g0.1 p 2)) e l i) b w n (nI t - nI l) h = some ((), h') ∧
    Ac g0 h' (fun φ => S0 φ + sm (2 * l + 1) (fun t' => (w * lN (cb (2 * l) t')) * φ (bhS pl (g0.1 p 5) (aimS (g0.1 p 1) (g0.1 p 2)) e l i t') (lnS (g0.1 p 1) (g0.1 p 2) (g0.1 p 5) (g0.1 p 6) wd pl (aimS (g0.1 p 1) (g0.1 p 2)) e l i t'))) b := by
  obtain ⟨hk, hf, ef, hpp, epp, hs, es, hl, el⟩ := J
  intro n
  induction n with
  | zero => intro t h h1 h2; omega
  | succ n ih =>
    intro t h h1 h2 A
    have A1 : h.1 = g0.1 := A.1.1
    rw [X1_spreadLast_l7.eq_2, A1, el]
    by_cases c : t = 2 * l + 1
    · subst c
      rw [if_pos ((sg_lt (by omega) (by omega)).mpr (by omega))]
      exact ⟨h, rfl, A⟩
    · rw [if_neg (fun z => c (by have := (sg_lt (by omega) (by omega)).mp z; omega)), sg_add, ck_nI _ (by omega) (by decide), ck_nI _ (by omega) (by decide), vl_e, vl_e, nI_clamp (by omega), nI_clamp (by omega), Nat.mod_eq_of_lt (by omega), A.1.2.2.1 (10 + l) (by omega) (by omega), T l t (by omega)]
      have ha := aim_b (kd := g0.1 p 1) hf ef
      obtain ⟨nn, hnn, enn⟩ := ln_b (kd := g0.1 p 1) (fg := g0.1 p 2) (sl := g0.1 p 5) (pc := g0.1 p 6) (aim := aimS (g0.1 p 1) (g0.1 p 2)) (i := i) (t := t) hf ef hpp epp hw hs es he hl hi (by omega) hp hp2 ha.1 ha.2
      obtain ⟨h1', a1, a2, a3, a4⟩ := s_last p wd (bh0S pl (g0.1 p 5) e i - bkS (aimS (g0.1 p 1) (g0.1 p 2)) l (bh0S pl (g0.1 p 5) e i)) (lsS pl (g0.1 p 5) (aimS (g0.1 p 1) (g0.1 p 2)) e l i) b w (nI t - nI l) (w * lN (cb (2 * l) t)) (bhS pl (g0.1 p 5) (aimS (g0.1 p 1) (g0.1 p 2)) e l i t) (X1_spreadLast_l7 p wd (bh0S pl (g0.1 p 5) e i - bkS (aimS (g0.1 p 1) (g0.1 p 2)) l (bh0S pl (g0.1 p 5) e i)) (lsS pl (g0.1 p 5) (aimS (g0.1 p 1) (g0.1 p 2)) e l i) b w n) h hnn enn
      rw [sg_next] at a1
      obtain ⟨h2', b1, b2⟩ := ih (t + 1) h1' (by omega) (by omega) (ac_one (x := bhS pl (g0.1 p 5) (aimS (g0.1 p 1) (g0.1 p 2)) e l i t) A hnn enn (fun φ => (Int64.add_assoc _ _ _).symm) a2 a3 a4)
      refine ⟨h2', ?_, b2⟩
      rw [← b1, ← a1]
      show (if 0 ≤ bhS pl (g0.1 p 5) (aimS (g0.1 p 1) (g0.1 p 2)) e l i t then _ else _) = _
      by_cases d : 0 ≤ bhS pl (g0.1 p 5) (aimS (g0.1 p 1) (g0.1 p 2)) e l i t
      · have e9 : lnS (g0.1 p 1) (g0.1 p 2) (g0.1 p 5) (g0.1 p 6) wd pl (aimS (g0.1 p 1) (g0.1 p 2)) e l i t = lenS (h.1 p 1) (h.1 p 2) (h.1 p 6) wd (bhS pl (g0.1 p 5) (aimS (g0.1 p 1) (g0.1 p 2)) e l i t) (lsS pl (g0.1 p 5) (aimS (g0.1 p 1) (g0.1 p 2)) e l i) := by
          unfold lnS
          rw [if_pos d, A1]
        rw [if_pos d, e9]
        exact bd_of (s_lenC (hk.of A.1.1 A.1.2.1) _ _ _) _
      · have e9 : lnS (g0.1 p 1) (g0.1 p 2) (g0.1 p 5) (g0.1 p 6) wd pl (aimS (g0.1 p 1) (g0.1 p 2)) e l i t = 0 := by
          unfold lnS
          rw [if_neg d]
        rw [if_neg d, e9]
        rfl
theorem s_outer (J : JN g0 p f pp s l) (T : WT g0) (hw : WW wd) (he : e ≤ 20) (hp : -5000 ≤ pl.toInt) (hp2 : pl.toInt ≤ 5000) : ∀ (n i : Nat) (h : AH), 2 * e + 1 < i + n → i ≤ 2 * e + 1 →
    Ac g0 h (fun φ => sm i (fun i => sm (2 * l + 1) (fun t => (lN (cb (2 * e) i) * lN (cb (2 * l) t)) * φ (bhS pl (g0.1 p 5) (aimS (g0.1 p 1) (g0.1 p 2)) e l i t) (lnS (g0.1 p 1) (g0.1 p 2) (g0.1 p 5) (g0.1 p 6) wd pl (aimS (g0.1 p 1) (g0.1 p 2)) e l i t)))) b →
    ∃ h', X1_spread_l77 p wd pl b (nI e) (aimS (g0.1 p 1) (g0.1 p 2)) n (nI i - nI e) h = some ((), h') ∧ Ac g0 h' (RS (g0.1 p 1) (g0.1 p 2) (g0.1 p 5) (g0.1 p 6) wd pl (aimS (g0.1 p 1) (g0.1 p 2)) e l) b := by
  have J' := J
  obtain ⟨hk, hf, ef, hpp, epp, hs, es, hl, el⟩ := J'
  intro n
  induction n with
  | zero => intro i h h1 h2; omega
  | succ n ih =>
    intro i h h1 h2 A
    have A1 : h.1 = g0.1 := A.1.1
    by_cases c : i = 2 * e + 1
    · subst c
      rw [X1_spread_l77.eq_2, if_pos ((sg_lt (by omega) (by omega)).mpr (by omega))]
      exact ⟨h, rfl, A⟩
    · have step : X1_spread_j114 p wd pl b (nI e) (aimS (g0.1 p 1) (g0.1 p 2)) (nI i - nI e) (bh0S pl (g0.1 p 5) e i) (X1_spread_l77 p wd pl b (nI e) (aimS (g0.1 p 1) (g0.1 p 2)) n) (bkS (aimS (g0.1 p 1) (g0.1 p 2)) l (bh0S pl (g0.1 p 5) e i)) h = X1_spread_l77 p wd pl b (nI e) (aimS (g0.1 p 1) (g0.1 p 2)) (n + 1) (nI i - nI e) h := by
        rw [X1_spread_l77.eq_2, if_neg (fun z => c (by have := (sg_lt (by omega) (by omega)).mp z; omega)), vl_e, A1, el]
        by_cases d : l = 0
        · rw [if_pos (by rw [d]; exact Int32.le_refl _)]
          have e0 : bkS (aimS (g0.1 p 1) (g0.1 p 2)) l (bh0S pl (g0.1 p 5) e i) = 0 := if_pos d
          rw [e0]
          rfl
        · rw [if_neg (nI_nle (by omega) (by omega))]
          have e0 : bkS (aimS (g0.1 p 1) (g0.1 p 2)) l (bh0S pl (g0.1 p 5) e i) = (bh0S pl (g0.1 p 5) e i - aimS (g0.1 p 1) (g0.1 p 2)) / 2 := if_neg d
          rw [e0]
          rfl
      obtain ⟨h', a1, a2⟩ := s_inner (b := b) J T hw he (i := i) (by omega) hp hp2 (fun φ => sm i (fun i => sm (2 * l + 1) (fun t => (lN (cb (2 * e) i) * lN (cb (2 * l) t)) * φ (bhS pl (g0.1 p 5) (aimS (g0.1 p 1) (g0.1 p 2)) e l i t) (lnS (g0.1 p 1) (g0.1 p 2) (g0.1 p 5) (g0.1 p 6) wd pl (aimS (g0.1 p 1) (g0.1 p 2)) e l i t)))) (lN (cb (2 * e) i)) FU 0 h (by unfold FU; omega) (by omega) (ac_cong (fun φ => Int64.add_zero _) A)
      obtain ⟨h2', b1, b2⟩ := ih (i + 1) h' (by omega) (by omega) a2
      refine ⟨h2', ?_, b2⟩
      have e5 : X1_spread_j114 p wd pl b (nI e) (aimS (g0.1 p 1) (g0.1 p 2)) (nI i - nI e) (bh0S pl (g0.1 p 5) e i) (X1_spread_l77 p wd pl b (nI e) (aimS (g0.1 p 1) (g0.1 p 2)) n) (bkS (aimS (g0.1 p 1) (g0.1 p 2)) l (bh0S pl (g0.1 p 5) e i)) h = X1_spread_l77 p wd pl b (nI e) (aimS (g0.1 p 1) (g0.1 p 2)) n (nI (i + 1) - nI e) h' := by
        unfold X1_spread_j114 X1_spreadLast
        rw [sg_add, ck_nI _ (by omega) (by decide), ck_nI _ (by omega) (by decide), nI_clamp (by omega), nI_clamp (by omega), Nat.mod_eq_of_lt (by omega), A.1.2.2.1 (10 + e) (by omega) (by omega), T e i he, vl_e, A1, el, sg_0]
        have a1' : X1_spreadLast_l7 p wd (bh0S pl (g0.1 p 5) e i - bkS (aimS (g0.1 p 1) (g0.1 p 2)) l (bh0S pl (g0.1 p 5) e i)) (ab32 (bkS (aimS (g0.1 p 1) (g0.1 p 2)) l (bh0S pl (g0.1 p 5) e i)) / 4) b (lN (cb (2 * e) i)) FU (nI 0 - nI l) h = some ((), h') := a1
        rw [a1', bd_s, vl_e, sg_next]
      rw [← step, e5]
      exact b1
end SPR
