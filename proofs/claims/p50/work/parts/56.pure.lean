section
/-! pasted from kit/laws (NUMBERS, COUNTS): plain facts of ints and longs -/
theorem fa_lt (a b : Int32) : a < b ↔ a.toInt < b.toInt := Int32.lt_iff_toInt_lt
theorem fa_le (a b : Int32) : a ≤ b ↔ a.toInt ≤ b.toInt := Int32.le_iff_toInt_le
theorem fa_eq (a b : Int32) : a = b ↔ a.toInt = b.toInt := Int32.toInt_inj.symm
theorem fa_lt64 (a b : Int64) : a < b ↔ a.toInt < b.toInt := Int64.lt_iff_toInt_lt
theorem fa_le64 (a b : Int64) : a ≤ b ↔ a.toInt ≤ b.toInt := Int64.le_iff_toInt_le
theorem fa_eq64 (a b : Int64) : a = b ↔ a.toInt = b.toInt := Int64.toInt_inj.symm
/-- a comparison of two ints taken as longs -/
theorem fa_wide_lt (a b : Int32) : a.toInt64 < b.toInt64 ↔ a < b := by rw [fa_lt64, fa_lt, Int32.toInt_toInt64, Int32.toInt_toInt64]
theorem fa_wide_le (a b : Int32) : a.toInt64 ≤ b.toInt64 ↔ a ≤ b := by rw [fa_le64, fa_le, Int32.toInt_toInt64, Int32.toInt_toInt64]
theorem fa_wide_eq (a b : Int32) : a.toInt64 = b.toInt64 ↔ a = b := by rw [fa_eq64, fa_eq, Int32.toInt_toInt64, Int32.toInt_toInt64]
/-- one strict comparison gives all the others -/
theorem fa_of_lt {a b : Int32} (h : a < b) : a ≤ b ∧ ¬ b ≤ a ∧ ¬ b < a ∧ a ≠ b ∧ b ≠ a := by
  rw [fa_lt] at h
  refine ⟨?_, ?_, ?_, ?_, ?_⟩
  · rw [fa_le]; omega
  · rw [fa_le]; omega
  · rw [fa_lt]; omega
  · intro e; rw [fa_eq] at e; omega
  · intro e; rw [fa_eq] at e; omega
theorem fa_of_nlt {a b : Int32} (h : ¬ a < b) : b ≤ a := by
  rw [fa_lt] at h
  rw [fa_le]
  omega
theorem fa_of_nle {a b : Int32} (h : ¬ a ≤ b) : b < a := by
  rw [fa_le] at h
  rw [fa_lt]
  omega
theorem fa_le_ne {a b : Int32} (h : a ≤ b) (h2 : a ≠ b) : a < b := by
  rw [fa_le] at h
  rw [fa_lt]
  have h3 : a.toInt ≠ b.toInt := fun e => h2 ((fa_eq a b).mpr e)
  omega
theorem fa_three (a b : Int32) : a < b ∨ a = b ∨ b < a := by
  rw [fa_lt, fa_lt, fa_eq]
  omega
theorem fa_trans {a b c : Int32} (h : a < b) (h2 : b ≤ c) : a < c := by
  rw [fa_lt] at *
  rw [fa_le] at h2
  omega
/-! ===== small literals as numbers ===== -/
theorem fa_lit (n : Nat) : (OfNat.ofNat n : Int32) = nI n := rfl
theorem fa_litL (n : Nat) : (OfNat.ofNat n : Int64) = lN n := rfl
theorem fb_rng (x : Int32) : -2147483648 ≤ x.toInt ∧ x.toInt < 2147483648 := by
  have h1 := Int32.le_toInt x
  have h2 := Int32.toInt_lt x
  omega
theorem fb_bmod {z : Int} (h1 : -2147483648 ≤ z) (h2 : z < 2147483648) : z.bmod (2 ^ 32) = z := by
  rw [Int.bmod_eq_of_le (by omega) (by omega)]
theorem fb_addI {x y : Int32} (h1 : -2147483648 ≤ x.toInt + y.toInt) (h2 : x.toInt + y.toInt < 2147483648) : (x + y).toInt = x.toInt + y.toInt := by
  rw [Int32.toInt_add, fb_bmod h1 h2]
theorem fb_subI {x y : Int32} (h1 : -2147483648 ≤ x.toInt - y.toInt) (h2 : x.toInt - y.toInt < 2147483648) : (x - y).toInt = x.toInt - y.toInt := by
  rw [Int32.toInt_sub, fb_bmod h1 h2]
theorem fb_mulI {x y : Int32} (h1 : -2147483648 ≤ x.toInt * y.toInt) (h2 : x.toInt * y.toInt < 2147483648) : (x * y).toInt = x.toInt * y.toInt := by
  rw [Int32.toInt_mul, fb_bmod h1 h2]
theorem fb_negI {x : Int32} (h : x.toInt ≠ -2147483648) : (-x).toInt = -x.toInt := by
  have := fb_rng x
  rw [Int32.toInt_neg, fb_bmod (by omega) (by omega)]
theorem fb_ofI {z : Int} (h1 : -2147483648 ≤ z) (h2 : z < 2147483648) : (Int32.ofInt z).toInt = z := by
  rw [Int32.toInt_ofInt, fb_bmod h1 h2]
theorem fb_asI (x : Int32) : Int32.ofInt x.toInt = x := Int32.ofInt_toInt x
theorem fb_rngL (x : Int64) : -9223372036854775808 ≤ x.toInt ∧ x.toInt < 9223372036854775808 := by
  have h1 := Int64.le_toInt x
  have h2 := Int64.toInt_lt x
  omega
theorem fb_bmodL {z : Int} (h1 : -9223372036854775808 ≤ z) (h2 : z < 9223372036854775808) : z.bmod (2 ^ 64) = z := by
  rw [Int.bmod_eq_of_le (by omega) (by omega)]
theorem fb_addL {x y : Int64} (h1 : -9223372036854775808 ≤ x.toInt + y.toInt) (h2 : x.toInt + y.toInt < 9223372036854775808) : (x + y).toInt = x.toInt + y.toInt := by
  rw [Int64.toInt_add, fb_bmodL h1 h2]
theorem fb_subL {x y : Int64} (h1 : -9223372036854775808 ≤ x.toInt - y.toInt) (h2 : x.toInt - y.toInt < 9223372036854775808) : (x - y).toInt = x.toInt - y.toInt := by
  rw [Int64.toInt_sub, fb_bmodL h1 h2]
theorem fb_mulL {x y : Int64} (h1 : -9223372036854775808 ≤ x.toInt * y.toInt) (h2 : x.toInt * y.toInt < 9223372036854775808) : (x * y).toInt = x.toInt * y.toInt := by
  rw [Int64.toInt_mul, fb_bmodL h1 h2]
end
section
/-! THE PURE PART: what the L2 functions answer. Small words first -/
theorem bd_s {α β : Type} (a : α) (h : AH) (f : α → AH → Option β) : bd (some (a, h)) f = f a h := (rfl)
theorem vl_e {α β : Type} (e : α) (f : α → β) : vl e f = f e := (rfl)
theorem ck_in {β : Type} {i : Int32} {n : Nat} (o : Option β) (h : ¬ (i < 0 ∨ n ≤ i.toNatClampNeg)) : ck i n o = o := if_neg h
theorem ck_nI {β : Type} {i n : Nat} (o : Option β) (h : i < n) (hn : n < 2 ^ 31) : ck (nI i) n o = o := if_neg (nI_in h hn)
theorem cz_0 {β : Type} (o : Option β) : cz 0 o = o := if_pos (Or.inl rfl)
theorem cz_1 {β : Type} (o : Option β) : cz 1 o = o := if_pos (Or.inr rfl)
theorem cs_in {β : Type} {Z : Stc} {a : Nat} {s : Shp} (o : Option β) (h : Z.1[a]? = some s) : cs Z a s o = o := if_pos h
theorem s_first (a b : Int32) (h : AH) : X10_first a b h = some (if a = 0 then b else a, h) := by
  unfold X10_first
  split <;> rfl
theorem s_nobody (v : Int32) (h : AH) : X10_nobody v h = some (if v < 0 ∨ h.1 42 3 ≤ v then -1 else 0, h) := by
  unfold X10_nobody X10_nobody_j15
  by_cases h1 : v < 0
  · rw [if_pos h1, if_pos (Or.inl h1)]
  · rw [if_neg h1]
    by_cases h2 : v < h.1 42 3
    · rw [if_pos h2, if_neg (fun q => q.elim h1 (fun q => Int32.not_le.mpr h2 q))]
    · rw [if_neg h2, if_pos (Or.inr (Int32.not_lt.mp h2))]
theorem s_noSuch (v m : Int32) (h : AH) : X10_noSuch v m h = some (if v < 0 ∨ m < v then -2 else 0, h) := by
  unfold X10_noSuch X10_noSuch_j9
  by_cases h1 : v < 0
  · rw [if_pos h1, if_pos (Or.inl h1)]
  · rw [if_neg h1]
    by_cases h2 : v ≤ m
    · rw [if_pos h2, if_neg (fun q => q.elim h1 (fun q => Int32.not_lt.mpr h2 q))]
    · rw [if_neg h2, if_pos (Or.inr (Int32.not_le.mp h2))]
theorem s_noPart (v : Int32) (h : AH) : X10_noPart v h = some (if v < 0 ∨ 1 < v then -2 else 0, h) := by
  unfold X10_noPart
  rw [s_noSuch]
  rfl
theorem s_outside (v a b : Int32) (h : AH) : X10_outside v a b h = some (if v < a then -4 else if b < v then -6 else 0, h) := by
  unfold X10_outside
  by_cases h1 : v < a
  · rw [if_neg (Int32.not_le.mpr h1), if_pos h1]
  · rw [if_pos (Int32.not_lt.mp h1), if_neg h1]
    by_cases h2 : b < v
    · rw [if_neg (Int32.not_le.mpr h2), if_pos h2]
    · rw [if_pos (Int32.not_lt.mp h2), if_neg h2]
theorem s_outsideTwo (a b : Int32) (h : AH) : X10_outsideTwo a b h = some (if a = -4 ∨ b = -4 then -4 else if a = 0 then b else a, h) := by
  unfold X10_outsideTwo X10_outsideTwo_j12
  by_cases h1 : a = -4
  · rw [if_pos h1, if_pos (Or.inl h1)]
  · rw [if_neg h1]
    by_cases h2 : b = -4
    · rw [if_pos h2, if_pos (Or.inr h2)]
    · rw [if_neg h2, if_neg (fun q => q.elim h1 h2), s_first]
      rfl
theorem s_bound (v a b : Int32) (h : AH) : X11_bound v a b h = some (if v < a then -4 else if b < v then -6 else 0, h) := s_outside v a b h
theorem s_isJumper (v : Int32) (h : AH) : X11_isJumper v h = some (if v < 0 ∨ h.1 0 15 ≤ v then 0 else 1, h) := by
  unfold X11_isJumper
  by_cases h1 : v < 0
  · rw [if_pos h1, if_pos (Or.inl h1), cz_0]
  · rw [if_neg h1]
    by_cases h2 : h.1 0 15 ≤ v
    · rw [if_pos h2, if_pos (Or.inr h2), cz_0]
    · rw [if_neg h2, if_neg (fun q => q.elim h1 h2), cz_1]
theorem s_isIn (v a b : Int32) (h : AH) : X11_isIn v a b h = some (if v < a ∨ b < v then 0 else 1, h) := by
  unfold X11_isIn
  by_cases h1 : v < a
  · rw [if_pos h1, if_pos (Or.inl h1), cz_0]
  · rw [if_neg h1]
    by_cases h2 : b < v
    · rw [if_pos h2, if_pos (Or.inr h2), cz_0]
    · rw [if_neg h2, if_neg (fun q => q.elim h1 h2), cz_1]
/-- a refusal's numbers, on both sides -/
theorem s_ref {x : Int32} (hx : x = -1 ∨ x = -2 ∨ x = -3 ∨ x = -4 ∨ x = -6) : ∃ w : Nat, w < 7 ∧ ∀ h : AH, X10_refuse x h = some (x, sI h 4 w (h.1 4 w + 1)) ∧ X11_no x h = some (x, sI h 1 w (h.1 1 w + 1)) ∧ X11_lower x h = some (1000000000 - x, sI h 1 w (h.1 1 w + 1)) ∧ X11_lowest x h = some (4000000000000000000 - x.toInt64, sI h 1 w (h.1 1 w + 1)) := by
  have key : ∀ (x : Int32) (w : Nat), (¬ 0 ≤ x) → (¬ 7 ≤ -x) → (¬ (-x < 0 ∨ 7 ≤ (-x).toNatClampNeg)) → (-x).toNatClampNeg = w → ∀ h : AH, X10_refuse x h = some (x, sI h 4 w (h.1 4 w + 1)) ∧ X11_no x h = some (x, sI h 1 w (h.1 1 w + 1)) ∧ X11_lower x h = some (1000000000 - x, sI h 1 w (h.1 1 w + 1)) ∧ X11_lowest x h = some (4000000000000000000 - x.toInt64, sI h 1 w (h.1 1 w + 1)) := by
    intro x w h1 h2 h3 h4 h
    refine ⟨?_, ?_, ?_, ?_⟩
    · unfold X10_refuse
      rw [if_neg h1, if_neg h2, ck_in _ h3, ck_in _ h3, vl_e, h4]
    · unfold X11_no
      rw [ck_in _ h3, ck_in _ h3, vl_e, h4]
    · unfold X11_lower
      rw [ck_in _ h3, ck_in _ h3, vl_e, h4]
    · unfold X11_lowest
      rw [ck_in _ h3, ck_in _ h3, vl_e, h4]
  rcases hx with e | e | e | e | e <;> subst e
  · exact ⟨1, by decide, key _ 1 (by decide) (by decide) (by decide) (by decide)⟩
  · exact ⟨2, by decide, key _ 2 (by decide) (by decide) (by decide) (by decide)⟩
  · exact ⟨3, by decide, key _ 3 (by decide) (by decide) (by decide) (by decide)⟩
  · exact ⟨4, by decide, key _ 4 (by decide) (by decide) (by decide) (by decide)⟩
  · exact ⟨6, by decide, key _ 6 (by decide) (by decide) (by decide) (by decide)⟩
/-! rows filled, copied, kept -/
theorem s_fillI (p n : Nat) (v : Int32) (hn : n < 2 ^ 31) : ∀ (f i : Nat) (h : AH), n < i + f → i ≤ n → J7_fill_53178_l5 p n v (nI n) f (nI i) h = some ((), (fun o k => if o = p ∧ i ≤ k ∧ k < n then v else h.1 o k, h.2)) := by
  intro f
  induction f with
  | zero => intro i h h1 h2; omega
  | succ f ih =>
    intro i h h1 h2
    unfold J7_fill_53178_l5
    by_cases e : i = n
    · subst e
      rw [if_pos (Int32.le_refl _)]
      refine congrArg some (congrArg (Prod.mk ()) (Prod.ext ?_ rfl))
      funext o k
      show h.1 o k = if o = p ∧ i ≤ k ∧ k < i then v else h.1 o k
      rw [if_neg (by omega)]
    · rw [if_neg (nI_ge (by omega) hn), ck_nI _ (by omega) hn, vl_e, vl_e, nI_clamp (by omega), nI_1, ih (i + 1) _ (by omega) (by omega)]
      refine congrArg some (congrArg (Prod.mk ()) (Prod.ext ?_ rfl))
      funext o k
      show (if o = p ∧ i + 1 ≤ k ∧ k < n then v else if o = p ∧ k = i then v else h.1 o k) = if o = p ∧ i ≤ k ∧ k < n then v else h.1 o k
      by_cases c : o = p ∧ i ≤ k ∧ k < n
      · rw [if_pos c]
        by_cases c2 : k = i
        · rw [if_neg (by omega), if_pos ⟨c.1, c2⟩]
        · rw [if_pos (by omega)]
      · rw [if_neg c, if_neg (by omega), if_neg (by omega)]
theorem s_fill4 (p : Nat) (v : Int32) (h : AH) : J7_fill_53178 p 4 v h = some ((), (fun o k => if o = p ∧ k < 4 then v else h.1 o k, h.2)) := by
  unfold J7_fill_53178
  rw [vl_e]
  show J7_fill_53178_l5 p 4 v (nI 4) FU (nI 0) h = _
  rw [s_fillI p 4 v (by decide) FU 0 h (by decide) (by decide)]
  refine congrArg some (congrArg (Prod.mk ()) (Prod.ext ?_ rfl))
  funext o k
  show (if o = p ∧ 0 ≤ k ∧ k < 4 then v else h.1 o k) = (if o = p ∧ k < 4 then v else h.1 o k)
  by_cases c : o = p ∧ k < 4
  · rw [if_pos c, if_pos (by omega)]
  · rw [if_neg c, if_neg (by omega)]
/-- the ranking, begun -/
def rk0 (h : AH) (n : Int32) : AH := (fun o k => if o = 7 ∧ k < 4 then 0 else if o = 6 ∧ k < 4 then 0 else if o = 5 ∧ k = 0 then n else h.1 o k, h.2)
theorem s_start (v : Int32) (h : AH) : X6_start v h = some ((), rk0 h (mx32 0 (mn32 4 v))) := by
  unfold X6_start
  rw [vl_e, s_fill4, bd_s, s_fill4, bd_s]
  rfl
/-- a jumper copied -/
def jcp (o p : Nat) (h : AH) : AH := (fun q k => if q = o ∧ 1 ≤ k ∧ k ≤ 8 then h.1 p k else h.1 q k, h.2.1, fun q => if q = o then h.2.2 p else h.2.2 q)
theorem s_jcp {o p : Nat} (hop : o ≠ p) (h : AH) : X2_copyFrom o p h = some ((), jcp o p h) := by
  unfold X2_copyFrom
  simp only [vl_e]
  refine congrArg some (congrArg (Prod.mk ()) (Prod.ext ?_ (Prod.ext rfl ?_)))
  · funext q k
    simp only [sI, sK, jcp]
    by_cases hq : q = o
    · subst hq
      have hp : ¬ p = q := fun e => hop e.symm
      match k with
      | 0 => simp
      | 1 => simp [hp]
      | 2 => simp [hp]
      | 3 => simp [hp]
      | 4 => simp [hp]
      | 5 => simp [hp]
      | 6 => simp [hp]
      | 7 => simp [hp]
      | 8 => simp [hp]
      | k + 9 =>
        have : ¬ (k + 9 ≤ 8) := by omega
        simp [this]
    · simp [hq]
  · funext q
    simp only [sI, sK, jcp]
/-- a meet copied -/
def mcp (o p : Nat) (h : AH) : AH := (fun q k => if q = o ∧ k < 5 then h.1 p k else if o + 2 ≤ q ∧ q < o + 6 ∧ k < 24 then h.1 (p + (q - o)) k else if o + 6 ≤ q ∧ q < o + 10 ∧ 1 ≤ k ∧ k ≤ 8 then h.1 (p + (q - o)) k else h.1 q k, h.2.1, fun q => if o + 6 ≤ q ∧ q < o + 10 then h.2.2 (p + (q - o)) else h.2.2 q)
theorem cpI_at (h : AH) (s d n o k : Nat) : (cpI h s d n).1 o k = if o = d ∧ k < n then h.1 s k else h.1 o k := rfl
theorem jcp_at (o p : Nat) (h : AH) (q k : Nat) : (jcp o p h).1 q k = if q = o ∧ 1 ≤ k ∧ k ≤ 8 then h.1 p k else h.1 q k := rfl
theorem jcp_22 (o p : Nat) (h : AH) (q : Nat) : (jcp o p h).2.2 q = if q = o then h.2.2 p else h.2.2 q := rfl
theorem sI_at (h : AH) (o k : Nat) (v : Int32) (q j : Nat) : (sI h o k v).1 q j = if q = o ∧ j = k then v else h.1 q j := rfl
theorem sK_at (h : AH) (o v q : Nat) : (sK h o v).2.2 q = if q = o then v else h.2.2 q := rfl
theorem cf_step (o p : Nat) {i : Nat} (hi : i < 4) (hop : o + 10 ≤ p ∨ p + 10 ≤ o) (n : Nat) (h : AH) : X5_copyFrom_l42 o p (n + 1) (nI i) h = X5_copyFrom_l42 o p n (nI (i + 1)) (jcp (o + 6 + i) (p + 6 + i) h) := by
  have h4 : ¬ (4 : Int32) ≤ nI i := nI_ge (a := i) (b := 4) hi (by decide)
  rw [X5_copyFrom_l42.eq_2, if_neg h4, ck_nI _ hi (by decide), ck_nI _ hi (by decide), nI_clamp (by omega), Nat.mod_eq_of_lt hi, s_jcp (by omega), bd_s, vl_e, nI_1]
theorem cf_end (o p n : Nat) (h : AH) : X5_copyFrom_l42 o p (n + 1) (nI 4) h = some ((), cpI (cpI (cpI (cpI h (p + 2) (o + 2) 24) (p + 3) (o + 3) 24) (p + 4) (o + 4) 24) (p + 5) (o + 5) 24) := by
  have h4 : (4 : Int32) ≤ nI 4 := nI_le (Nat.le_refl 4) (by decide)
  rw [X5_copyFrom_l42.eq_2, if_pos h4]
  rfl
set_option maxRecDepth 10000 in
set_option maxHeartbeats 4000000 in
theorem s_mcp {o p : Nat} (hop : o + 10 ≤ p ∨ p + 10 ≤ o) (h : AH) : X5_copyFrom o p h = some ((), mcp o p h) := by
  unfold X5_copyFrom
  simp only [vl_e]
  show X5_copyFrom_l42 o p (4995 + 1 + 1 + 1 + 1 + 1) (nI 0) _ = _
  rw [cf_step o p (by decide) hop, cf_step o p (by decide) hop, cf_step o p (by decide) hop, cf_step o p (by decide) hop, cf_end]
  refine congrArg some (congrArg (Prod.mk ()) (Prod.ext ?_ (Prod.ext rfl ?_)))
  · funext q k
    show _ = if q = o ∧ k < 5 then h.1 p k else if o + 2 ≤ q ∧ q < o + 6 ∧ k < 24 then h.1 (p + (q - o)) k else if o + 6 ≤ q ∧ q < o + 10 ∧ 1 ≤ k ∧ k ≤ 8 then h.1 (p + (q - o)) k else h.1 q k
    by_cases c1 : q = o ∧ k < 5
    · obtain ⟨rfl, c1⟩ := c1
      rw [if_pos ⟨rfl, c1⟩]
      match k, c1 with
      | 0, _ => repeat (first | rw [if_neg (by omega)] | rw [if_pos (by omega)] | rw [cpI_at] | rw [jcp_at] | rw [sI_at])
      | 1, _ => repeat (first | rw [if_neg (by omega)] | rw [if_pos (by omega)] | rw [cpI_at] | rw [jcp_at] | rw [sI_at])
      | 2, _ => repeat (first | rw [if_neg (by omega)] | rw [if_pos (by omega)] | rw [cpI_at] | rw [jcp_at] | rw [sI_at])
      | 3, _ => repeat (first | rw [if_neg (by omega)] | rw [if_pos (by omega)] | rw [cpI_at] | rw [jcp_at] | rw [sI_at])
      | 4, _ => repeat (first | rw [if_neg (by omega)] | rw [if_pos (by omega)] | rw [cpI_at] | rw [jcp_at] | rw [sI_at])
    · by_cases c2 : o + 2 ≤ q ∧ q < o + 6 ∧ k < 24
      · rw [if_neg c1, if_pos c2]
        rcases (by omega : q = o + 2 ∨ q = o + 3 ∨ q = o + 4 ∨ q = o + 5) with e | e | e | e
        · rw [show p + (q - o) = p + 2 from by omega]
          repeat (first | rw [if_neg (by omega)] | rw [if_pos (by omega)] | rw [cpI_at] | rw [jcp_at] | rw [sI_at])
        · rw [show p + (q - o) = p + 3 from by omega]
          repeat (first | rw [if_neg (by omega)] | rw [if_pos (by omega)] | rw [cpI_at] | rw [jcp_at] | rw [sI_at])
        · rw [show p + (q - o) = p + 4 from by omega]
          repeat (first | rw [if_neg (by omega)] | rw [if_pos (by omega)] | rw [cpI_at] | rw [jcp_at] | rw [sI_at])
        · rw [show p + (q - o) = p + 5 from by omega]
          repeat (first | rw [if_neg (by omega)] | rw [if_pos (by omega)] | rw [cpI_at] | rw [jcp_at] | rw [sI_at])
      · by_cases c3 : o + 6 ≤ q ∧ q < o + 10 ∧ 1 ≤ k ∧ k ≤ 8
        · rw [if_neg c1, if_neg c2, if_pos c3]
          rcases (by omega : q = o + 6 ∨ q = o + 7 ∨ q = o + 8 ∨ q = o + 9) with e | e | e | e
          · rw [show p + (q - o) = p + 6 + 0 from by omega]
            repeat (first | rw [if_neg (by omega)] | rw [if_pos (by omega)] | rw [cpI_at] | rw [jcp_at] | rw [sI_at])
          · rw [show p + (q - o) = p + 6 + (0 + 1) from by omega]
            repeat (first | rw [if_neg (by omega)] | rw [if_pos (by omega)] | rw [cpI_at] | rw [jcp_at] | rw [sI_at])
          · rw [show p + (q - o) = p + 6 + (0 + 1 + 1) from by omega]
            repeat (first | rw [if_neg (by omega)] | rw [if_pos (by omega)] | rw [cpI_at] | rw [jcp_at] | rw [sI_at])
          · rw [show p + (q - o) = p + 6 + (0 + 1 + 1 + 1) from by omega]
            repeat (first | rw [if_neg (by omega)] | rw [if_pos (by omega)] | rw [cpI_at] | rw [jcp_at] | rw [sI_at])
        · rw [if_neg c1, if_neg c2, if_neg c3]
          repeat (first | rw [if_neg (by omega)] | rw [if_pos (by omega)] | rw [cpI_at] | rw [jcp_at] | rw [sI_at])
  · funext q
    show _ = if o + 6 ≤ q ∧ q < o + 10 then h.2.2 (p + (q - o)) else h.2.2 q
    show (jcp (o + 6 + (0 + 1 + 1 + 1)) (p + 6 + (0 + 1 + 1 + 1)) (jcp (o + 6 + (0 + 1 + 1)) (p + 6 + (0 + 1 + 1)) (jcp (o + 6 + (0 + 1)) (p + 6 + (0 + 1)) (jcp (o + 6 + 0) (p + 6 + 0) (h))))).2.2 q = _
    by_cases c3 : o + 6 ≤ q ∧ q < o + 10
    · rw [if_pos c3]
      rcases (by omega : q = o + 6 ∨ q = o + 7 ∨ q = o + 8 ∨ q = o + 9) with e | e | e | e
      · rw [show p + (q - o) = p + 6 + 0 from by omega]
        repeat (first | rw [if_neg (by omega)] | rw [if_pos (by omega)] | rw [jcp_22])
      · rw [show p + (q - o) = p + 6 + (0 + 1) from by omega]
        repeat (first | rw [if_neg (by omega)] | rw [if_pos (by omega)] | rw [jcp_22])
      · rw [show p + (q - o) = p + 6 + (0 + 1 + 1) from by omega]
        repeat (first | rw [if_neg (by omega)] | rw [if_pos (by omega)] | rw [jcp_22])
      · rw [show p + (q - o) = p + 6 + (0 + 1 + 1 + 1) from by omega]
        repeat (first | rw [if_neg (by omega)] | rw [if_pos (by omega)] | rw [jcp_22])
    · rw [if_neg c3]
      repeat (first | rw [if_neg (by omega)] | rw [if_pos (by omega)] | rw [jcp_22])
/-- a row of the reference kept -/
def kpI (h : AH) (p q n : Nat) : AH := (fun o k => if o = 17 ∧ q ≤ k ∧ k < q + n then h.1 p (k - q) else if o = 0 ∧ k = 27 then nI (q + n) else h.1 o k, h.2)
theorem kpI_at (h : AH) (p q n o k : Nat) : (kpI h p q n).1 o k = if o = 17 ∧ q ≤ k ∧ k < q + n then h.1 p (k - q) else if o = 0 ∧ k = 27 then nI (q + n) else h.1 o k := rfl
theorem s_keepL (p n q : Nat) (hp : p ≠ 17) (hp0 : p ≠ 0) (hn : q + n ≤ 240) : ∀ (f i : Nat) (h g : AH), n < i + f → i ≤ n → h = kpI g p q i → ¬ g.1 0 26 = 0 → X11_passes_l2 p n f (nI i) h = some ((), kpI g p q n) := by
  intro f
  induction f with
  | zero => intro i h g h1 h2; omega
  | succ f ih =>
    intro i h g h1 h2 e hg
    rw [X11_passes_l2.eq_2]
    by_cases c : i = n
    · subst c
      rw [if_pos (show Int32.ofNat i ≤ nI i from Int32.le_refl _), e]
    · have e26 : h.1 0 26 = g.1 0 26 := by rw [e, kpI_at, if_neg (by omega), if_neg (by omega)]
      have e27 : h.1 0 27 = nI (q + i) := by rw [e, kpI_at, if_neg (by omega), if_pos ⟨rfl, rfl⟩]
      have ep : h.1 p i = g.1 p i := by rw [e, kpI_at, if_neg (by omega), if_neg (by omega)]
      rw [if_neg (show ¬ Int32.ofNat n ≤ nI i from nI_ge (by omega) (by omega)), if_neg (by rw [e26]; exact hg), ck_nI _ (by omega) (by omega), e27, ck_nI _ (by omega) (by omega), vl_e, nI_clamp (by omega), nI_clamp (by omega)]
      unfold X11_passes_j42
      rw [vl_e, vl_e, nI_1]
      refine ih (i + 1) _ g (by omega) (by omega) ?_ hg
      refine Prod.ext ?_ (by rw [e]; rfl)
      funext o k
      rw [kpI_at, sI_at, sI_at, sI_at, if_neg (by omega : ¬ (0 = 17 ∧ 27 = q + i)), e27, ep, nI_1, e, kpI_at]
      by_cases c1 : o = 0 ∧ k = 27
      · rw [if_pos c1, if_neg (by omega), if_pos c1]
        rfl
      · rw [if_neg c1]
        by_cases c2 : o = 17 ∧ k = q + i
        · rw [if_pos c2, if_pos (by omega), show k - q = i from by omega]
        · rw [if_neg c2, if_neg c1, if_neg c1]
          by_cases c3 : o = 17 ∧ q ≤ k ∧ k < q + i
          · rw [if_pos c3, if_pos (by omega)]
          · rw [if_neg c3, if_neg (by omega)]
theorem s_keep {p n q : Nat} {h : AH} (hp : p ≠ 17) (hp0 : p ≠ 0) (hn : q + n ≤ 240) (h26 : ¬ h.1 0 26 = 0) (h27 : h.1 0 27 = nI q) : X11_passes p n h = some ((), kpI h p q n) := by
  unfold X11_passes
  refine s_keepL p n q hp hp0 hn FU 0 h h (by unfold FU; omega) (by omega) ?_ h26
  refine Prod.ext ?_ rfl
  funext o k
  rw [kpI_at, if_neg (by omega)]
  by_cases c1 : o = 0 ∧ k = 27
  · rw [if_pos c1, c1.1, c1.2]
    exact h27
  · rw [if_neg c1]
/-- a row of the reference put back -/
def bkI (h : AH) (p q n : Nat) : AH := (fun o k => if o = p ∧ k < n then h.1 17 (q + k) else if o = 0 ∧ k = 27 then nI (q + n) else h.1 o k, h.2)
theorem bkI_at (h : AH) (p q n o k : Nat) : (bkI h p q n).1 o k = if o = p ∧ k < n then h.1 17 (q + k) else if o = 0 ∧ k = 27 then nI (q + n) else h.1 o k := rfl
theorem s_backL (p n q : Nat) (hp : p ≠ 17) (hp0 : p ≠ 0) (hn : q + n ≤ 240) : ∀ (f i : Nat) (h g : AH), n < i + f → i ≤ n → h = bkI g p q i → g.1 0 26 = 0 → X11_passes_l2 p n f (nI i) h = some ((), bkI g p q n) := by
  intro f
  induction f with
  | zero => intro i h g h1 h2; omega
  | succ f ih =>
    intro i h g h1 h2 e hg
    rw [X11_passes_l2.eq_2]
    by_cases c : i = n
    · subst c
      rw [if_pos (show Int32.ofNat i ≤ nI i from Int32.le_refl _), e]
    · have e26 : h.1 0 26 = g.1 0 26 := by rw [e, bkI_at, if_neg (by omega), if_neg (by omega)]
      have e27 : h.1 0 27 = nI (q + i) := by rw [e, bkI_at, if_neg (by omega), if_pos ⟨rfl, rfl⟩]
      have ep : h.1 17 (q + i) = g.1 17 (q + i) := by rw [e, bkI_at, if_neg (by omega), if_neg (by omega)]
      rw [if_neg (show ¬ Int32.ofNat n ≤ nI i from nI_ge (by omega) (by omega)), if_pos (by rw [e26]; exact hg), e27, ck_nI _ (by omega) (by omega), ck_nI _ (by omega) (by omega), vl_e, nI_clamp (by omega), nI_clamp (by omega)]
      unfold X11_passes_j42
      rw [vl_e, vl_e, nI_1]
      refine ih (i + 1) _ g (by omega) (by omega) ?_ hg
      refine Prod.ext ?_ (by rw [e]; rfl)
      funext o k
      rw [bkI_at, sI_at, sI_at, sI_at, if_neg (by omega : ¬ (0 = p ∧ 27 = i)), e27, ep, nI_1, e, bkI_at]
      by_cases c1 : o = 0 ∧ k = 27
      · rw [if_pos c1, if_neg (by omega), if_pos c1]
        rfl
      · rw [if_neg c1]
        by_cases c2 : o = p ∧ k = i
        · rw [if_pos c2, if_pos (by omega), c2.2]
        · rw [if_neg c2, if_neg c1, if_neg c1]
          by_cases c3 : o = p ∧ k < i
          · rw [if_pos c3, if_pos (by omega)]
          · rw [if_neg c3, if_neg (by omega)]
theorem s_back {p n q : Nat} {h : AH} (hp : p ≠ 17) (hp0 : p ≠ 0) (hn : q + n ≤ 240) (h26 : h.1 0 26 = 0) (h27 : h.1 0 27 = nI q) : X11_passes p n h = some ((), bkI h p q n) := by
  unfold X11_passes
  refine s_backL p n q hp hp0 hn FU 0 h h (by unfold FU; omega) (by omega) ?_ h26
  refine Prod.ext ?_ rfl
  funext o k
  rw [bkI_at, if_neg (by omega)]
  by_cases c1 : o = 0 ∧ k = 27
  · rw [if_pos c1, c1.1, c1.2]
    exact h27
  · rw [if_neg c1]
theorem s_keep1 {q : Nat} {h : AH} (v : Int32) (hn : q < 240) (h26 : ¬ h.1 0 26 = 0) (h27 : h.1 0 27 = nI q) : X11_passOne v h = some (v, sI (sI h 17 q v) 0 27 (nI (q + 1))) := by
  unfold X11_passOne X11_passOne_j20 X11_passOne_j38
  rw [if_neg h26, if_neg h26, h27, ck_nI _ hn (by decide), vl_e, nI_clamp (by omega), vl_e, sI_at, if_neg (by omega), h27, nI_1]
theorem s_back1 {q : Nat} {h : AH} (v : Int32) (hn : q < 240) (h26 : h.1 0 26 = 0) (h27 : h.1 0 27 = nI q) : X11_passOne v h = some (h.1 17 q, sI h 0 27 (nI (q + 1))) := by
  unfold X11_passOne X11_passOne_j20 X11_passOne_j38
  rw [if_pos h26, if_pos h26, h27, ck_nI _ hn (by decide), vl_e, nI_clamp (by omega), nI_1]
end
section
/-! all that the reference keeps, and puts back: which object, which place at which distance -/
def kob (d : Nat) : Nat := if d < 32 then 2 + d / 4 else if d < 104 then 10 + (d - 32) / 24 else 0
def kix (d : Nat) : Nat := if d < 32 then d % 4 else if d < 104 then (d - 32) % 24 else 12 + (d - 104)
theorem ko_a {d i : Nat} (j : Nat) (hj : j < 8) (hi : i < 4) (e : d = 4 * j + i) : kob d = 2 + j ∧ kix d = i := by
  unfold kob kix
  rw [if_pos (by omega), if_pos (by omega)]
  omega
theorem ko_b {d i : Nat} (j : Nat) (hj : j < 3) (hi : i < 24) (e : d = 32 + 24 * j + i) : kob d = 10 + j ∧ kix d = i := by
  unfold kob kix
  rw [if_neg (by omega), if_pos (by omega), if_neg (by omega), if_pos (by omega)]
  omega
theorem ko_c {d : Nat} (j : Nat) (e : d = 104 + j) : kob d = 0 ∧ kix d = 12 + j := by
  unfold kob kix
  rw [if_neg (by omega), if_neg (by omega), if_neg (by omega), if_neg (by omega)]
  omega
theorem ko_cases (d : Nat) (hd : d < 109) : (∃ j i, j < 8 ∧ i < 4 ∧ d = 4 * j + i) ∨ (∃ j i, j < 3 ∧ i < 24 ∧ d = 32 + 24 * j + i) ∨ ∃ j, j < 5 ∧ d = 104 + j := by
  by_cases h1 : d < 32
  · exact Or.inl ⟨d / 4, d % 4, by omega, by omega, by omega⟩
  · by_cases h2 : d < 104
    · exact Or.inr (Or.inl ⟨(d - 32) / 24, (d - 32) % 24, by omega, by omega, by omega⟩)
    · exact Or.inr (Or.inr ⟨d - 104, by omega, by omega⟩)
/-- kept as far as d -/
def KI (g : AH) (w d : Nat) (h : AH) : Prop := h.1 0 27 = nI (120 * w + d) ∧ ¬ h.1 0 26 = 0 ∧ h.2 = g.2 ∧ (∀ o k, o ≠ 17 → ¬ (o = 0 ∧ (k = 26 ∨ k = 27)) → h.1 o k = g.1 o k) ∧ (∀ k, (k < 120 * w ∨ 120 * w + d ≤ k) → h.1 17 k = g.1 17 k) ∧ ∀ a, a < d → h.1 17 (120 * w + a) = g.1 (kob a) (kix a)
theorem KI.row {g h : AH} {w d p n : Nat} (A : KI g w d h) (hw : w < 2) (hd : d + n ≤ 109) (hp : p ≠ 17) (hp0 : p ≠ 0) (hk : ∀ i, i < n → kob (d + i) = p ∧ kix (d + i) = i) : ∃ h', X11_passes p n h = some ((), h') ∧ KI g w (d + n) h' := by
  obtain ⟨a1, a2, a3, a4, a5, a6⟩ := A
  refine ⟨_, s_keep hp hp0 (by omega) a2 a1, ?_, ?_, a3, fun o k ho hk2 => ?_, fun k hk2 => ?_, fun a ha => ?_⟩
  · rw [kpI_at, if_neg (by omega), if_pos ⟨rfl, rfl⟩, Nat.add_assoc]
  · rw [kpI_at, if_neg (by omega), if_neg (by omega)]
    exact a2
  · rw [kpI_at, if_neg (fun z => ho z.1), if_neg (fun z => hk2 ⟨z.1, Or.inr z.2⟩)]
    exact a4 o k ho hk2
  · rw [kpI_at, if_neg (by omega), if_neg (by omega)]
    exact a5 k (by omega)
  · rw [kpI_at]
    by_cases c : a < d
    · rw [if_neg (by omega), if_neg (by omega)]
      exact a6 a c
    · rw [if_pos (by omega), show 120 * w + a - (120 * w + d) = a - d from by omega, a4 p _ hp (fun z => hp0 z.1)]
      have h2 := hk (a - d) (by omega)
      rw [show d + (a - d) = a from by omega] at h2
      rw [h2.1, h2.2]
theorem KI.one {g h : AH} {w d j : Nat} (A : KI g w d h) (hw : w < 2) (hj : j < 5) (hd : d = 104 + j) : ∃ h', X11_passOne (h.1 0 (12 + j)) h = some (h.1 0 (12 + j), h') ∧ KI g w (d + 1) (sI h' 0 (12 + j) (h.1 0 (12 + j))) := by
  obtain ⟨a1, a2, a3, a4, a5, a6⟩ := A
  have e4 := a4 0 (12 + j) (by decide) (by omega)
  refine ⟨_, s_keep1 _ (by omega) a2 a1, ?_, ?_, a3, fun o k ho hk2 => ?_, fun k hk2 => ?_, fun a ha => ?_⟩
  · rw [sI_at, if_neg (by omega), sI_at, if_pos ⟨rfl, rfl⟩, Nat.add_assoc]
  · rw [sI_at, if_neg (by omega), sI_at, if_neg (by omega), sI_at, if_neg (by omega)]
    exact a2
  · rw [sI_at]
    by_cases c : o = 0 ∧ k = 12 + j
    · rw [if_pos c, c.1, c.2]
      exact e4
    · rw [if_neg c, sI_at, if_neg (fun z => hk2 ⟨z.1, Or.inr z.2⟩), sI_at, if_neg (fun z => ho z.1)]
      exact a4 o k ho hk2
  · rw [sI_at, if_neg (by omega), sI_at, if_neg (by omega), sI_at, if_neg (by omega)]
    exact a5 k (by omega)
  · rw [sI_at, if_neg (by omega), sI_at, if_neg (by omega), sI_at]
    by_cases c : a < d
    · rw [if_neg (by omega)]
      exact a6 a c
    · have e : a = 104 + j := by omega
      rw [if_pos (by omega), (ko_c j e).1, (ko_c j e).2, e4]
theorem kb_n0 {a : Nat} (h : a < 104) : kob a ≠ 0 := by
  unfold kob
  by_cases c : a < 32
  · rw [if_pos c]; omega
  · rw [if_neg c, if_pos h]; omega
theorem kb_ne {a p : Nat} (h : a < 104) (hp : (p < 10 ∧ a < 4 * (p - 2)) ∨ (10 ≤ p ∧ p ≤ 12 ∧ a < 32 + 24 * (p - 10))) : kob a ≠ p := by
  unfold kob
  by_cases c : a < 32
  · rw [if_pos c]; omega
  · rw [if_neg c, if_pos h]; omega
/-- put back as far as d -/
def BI (g : AH) (w d : Nat) (h : AH) : Prop := h.1 0 27 = nI (120 * w + d) ∧ h.1 0 26 = 0 ∧ h.2 = g.2 ∧ (∀ o k, (o < 2 ∨ 12 < o) → ¬ (o = 0 ∧ (12 ≤ k ∧ k ≤ 16 ∨ k = 26 ∨ k = 27)) → h.1 o k = g.1 o k) ∧ (∀ o k, 2 ≤ o → o ≤ 12 → (o < 10 → 4 ≤ k) → (10 ≤ o → 24 ≤ k) → h.1 o k = g.1 o k) ∧ ∀ a, a < d → h.1 (kob a) (kix a) = g.1 17 (120 * w + a)
theorem BI.row {g h : AH} {w d p n : Nat} (A : BI g w d h) (hw : w < 2) (hd : d + n ≤ 109) (hp : 2 ≤ p) (hp0 : p ≤ 12) (hn : (p < 10 → n ≤ 4) ∧ (10 ≤ p → n ≤ 24)) (hk : ∀ i, i < n → kob (d + i) = p ∧ kix (d + i) = i) (hk0 : ∀ a, a < d → kob a ≠ p) (hk1 : ∀ a, a < d → kob a ≠ 0) : ∃ h', X11_passes p n h = some ((), h') ∧ BI g w (d + n) h' := by
  obtain ⟨a1, a2, a3, a4, a5, a6⟩ := A
  refine ⟨_, s_back (by omega) (by omega) (by omega) a2 a1, ?_, ?_, a3, fun o k ho hk2 => ?_, fun o k h1 h2 h3 h4 => ?_, fun a ha => ?_⟩
  · rw [bkI_at, if_neg (by omega), if_pos ⟨rfl, rfl⟩, Nat.add_assoc]
  · rw [bkI_at, if_neg (by omega), if_neg (by omega)]
    exact a2
  · rw [bkI_at, if_neg (by omega), if_neg (by omega)]
    exact a4 o k ho hk2
  · rw [bkI_at, if_neg (by omega), if_neg (by omega)]
    exact a5 o k h1 h2 h3 h4
  · rw [bkI_at]
    by_cases c : a < d
    · have z1 := hk0 a c
      have z2 := hk1 a c
      rw [if_neg (fun z => z1 z.1), if_neg (fun z => z2 z.1)]
      exact a6 a c
    · have h2 := hk (a - d) (by omega)
      rw [show d + (a - d) = a from by omega] at h2
      rw [h2.1, h2.2, if_pos ⟨rfl, by omega⟩, show 120 * w + d + (a - d) = 120 * w + a from by omega]
      exact a4 17 _ (by omega) (by omega)
theorem BI.one {g h : AH} {w d j : Nat} (A : BI g w d h) (hw : w < 2) (hj : j < 5) (hd : d = 104 + j) : ∃ h' x, X11_passOne (h.1 0 (12 + j)) h = some (x, h') ∧ BI g w (d + 1) (sI h' 0 (12 + j) x) := by
  obtain ⟨a1, a2, a3, a4, a5, a6⟩ := A
  refine ⟨_, _, s_back1 _ (by omega) a2 a1, ?_, ?_, a3, fun o k ho hk2 => ?_, fun o k h1 h2 h3 h4 => ?_, fun a ha => ?_⟩
  · rw [sI_at, if_neg (by omega), sI_at, if_pos ⟨rfl, rfl⟩, Nat.add_assoc]
  · rw [sI_at, if_neg (by omega), sI_at, if_neg (by omega)]
    exact a2
  · rw [sI_at, if_neg (by omega), sI_at, if_neg (by omega)]
    exact a4 o k ho hk2
  · rw [sI_at, if_neg (by omega), sI_at, if_neg (by omega)]
    exact a5 o k h1 h2 h3 h4
  · by_cases c : a < d
    · have hz : ¬ (kob a = 0 ∧ kix a = 12 + j) ∧ ¬ (kob a = 0 ∧ kix a = 27) := by
        rcases ko_cases a (by omega) with ⟨j2, i2, h1, h2, h3⟩ | ⟨j2, i2, h1, h2, h3⟩ | ⟨j2, h1, h3⟩
        · have z := ko_a j2 h1 h2 h3
          rw [z.1]
          omega
        · have z := ko_b j2 h1 h2 h3
          rw [z.1]
          omega
        · have z := ko_c j2 h3
          rw [z.2]
          omega
      rw [sI_at, if_neg hz.1, sI_at, if_neg hz.2]
      exact a6 a c
    · have e : a = 104 + j := by omega
      rw [(ko_c j e).1, (ko_c j e).2, sI_at, if_pos ⟨rfl, rfl⟩, show 120 * w + a = 120 * w + d from by omega]
      exact a4 17 _ (by omega) (by omega)
set_option maxHeartbeats 4000000 in
theorem s_keepAll {h : AH} {w : Nat} (hw : w < 2) : ∃ h', X11_passesAll (nI w) 1 h = some ((), h') ∧ (∀ o k, o ≠ 17 → ¬ (o = 0 ∧ (k = 26 ∨ k = 27)) → h'.1 o k = h.1 o k) ∧ h'.2 = h.2 ∧ (∀ k, (k < 120 * w ∨ 120 * w + 109 ≤ k) → h'.1 17 k = h.1 17 k) ∧ ∀ a, a < 109 → h'.1 17 (120 * w + a) = h.1 (kob a) (kix a) := by
  have A0 : KI h w 0 (sI (sI h 0 27 (120 * nI w)) 0 26 1) := by
    refine ⟨?_, ?_, rfl, fun o k ho hk => ?_, ?_, fun a ha => absurd ha (Nat.not_lt_zero a)⟩
    · rw [sI_at, if_neg (by omega), sI_at, if_pos ⟨rfl, rfl⟩]
      exact pk_mul 120 w
    · rw [sI_at, if_pos ⟨rfl, rfl⟩]
      decide
    · rw [sI_at, if_neg (by omega), sI_at, if_neg (by omega)]
    · intro k hk
      rw [sI_at, if_neg (by omega), sI_at, if_neg (by omega)]
  obtain ⟨g1, e1, A1⟩ := A0.row (p := 2) (n := 4) hw (by omega) (by decide) (by decide) (fun i hi => ko_a 0 (by decide) hi (by omega))
  obtain ⟨g2, e2, A2⟩ := A1.row (p := 3) (n := 4) hw (by omega) (by decide) (by decide) (fun i hi => ko_a 1 (by decide) hi (by omega))
  obtain ⟨g3, e3, A3⟩ := A2.row (p := 4) (n := 4) hw (by omega) (by decide) (by decide) (fun i hi => ko_a 2 (by decide) hi (by omega))
  obtain ⟨g4, e4, A4⟩ := A3.row (p := 5) (n := 4) hw (by omega) (by decide) (by decide) (fun i hi => ko_a 3 (by decide) hi (by omega))
  obtain ⟨g5, e5, A5⟩ := A4.row (p := 6) (n := 4) hw (by omega) (by decide) (by decide) (fun i hi => ko_a 4 (by decide) hi (by omega))
  obtain ⟨g6, e6, A6⟩ := A5.row (p := 7) (n := 4) hw (by omega) (by decide) (by decide) (fun i hi => ko_a 5 (by decide) hi (by omega))
  obtain ⟨g7, e7, A7⟩ := A6.row (p := 8) (n := 4) hw (by omega) (by decide) (by decide) (fun i hi => ko_a 6 (by decide) hi (by omega))
  obtain ⟨g8, e8, A8⟩ := A7.row (p := 9) (n := 4) hw (by omega) (by decide) (by decide) (fun i hi => ko_a 7 (by decide) hi (by omega))
  obtain ⟨g9, e9, A9⟩ := A8.row (p := 10) (n := 24) hw (by omega) (by decide) (by decide) (fun i hi => ko_b 0 (by decide) hi (by omega))
  obtain ⟨g10, e10, A10⟩ := A9.row (p := 11) (n := 24) hw (by omega) (by decide) (by decide) (fun i hi => ko_b 1 (by decide) hi (by omega))
  obtain ⟨g11, e11, A11⟩ := A10.row (p := 12) (n := 24) hw (by omega) (by decide) (by decide) (fun i hi => ko_b 2 (by decide) hi (by omega))
  obtain ⟨k0, a0, B0⟩ := A11.one (j := 0) hw (by decide) (by omega)
  obtain ⟨k1, a1, B1⟩ := B0.one (j := 1) hw (by decide) (by omega)
  obtain ⟨k2, a2, B2⟩ := B1.one (j := 2) hw (by decide) (by omega)
  obtain ⟨k3, a3, B3⟩ := B2.one (j := 3) hw (by decide) (by omega)
  obtain ⟨k4, a4, B4⟩ := B3.one (j := 4) hw (by decide) (by omega)
  refine ⟨_, ?_, B4.2.2.2.1, B4.2.2.1, fun k hk => B4.2.2.2.2.1 k (by omega), fun a ha => B4.2.2.2.2.2 a (by omega)⟩
  unfold X11_passesAll
  simp only [vl_e, cz_1]
  rw [e1, bd_s, e2, bd_s, e3, bd_s, e4, bd_s, e5, bd_s, e6, bd_s, e7, bd_s, e8, bd_s, e9, bd_s, e10, bd_s, e11, bd_s]
  rw [show 12 + 0 = 12 from rfl] at a0
  rw [show 12 + 1 = 13 from rfl] at a1
  rw [show 12 + 2 = 14 from rfl] at a2
  rw [show 12 + 3 = 15 from rfl] at a3
  rw [show 12 + 4 = 16 from rfl] at a4
  rw [a0, bd_s, a1, bd_s, a2, bd_s, a3, bd_s, a4, bd_s]
set_option maxHeartbeats 4000000 in
theorem s_backAll {h : AH} {w : Nat} (hw : w < 2) : ∃ h', X11_passesAll (nI w) 0 h = some ((), h') ∧ (∀ o k, (o < 2 ∨ 12 < o) → ¬ (o = 0 ∧ (12 ≤ k ∧ k ≤ 16 ∨ k = 26 ∨ k = 27)) → h'.1 o k = h.1 o k) ∧ h'.2 = h.2 ∧ (∀ o k, 2 ≤ o → o ≤ 12 → (o < 10 → 4 ≤ k) → (10 ≤ o → 24 ≤ k) → h'.1 o k = h.1 o k) ∧ ∀ a, a < 109 → h'.1 (kob a) (kix a) = h.1 17 (120 * w + a) := by
  have A0 : BI h w 0 (sI (sI h 0 27 (120 * nI w)) 0 26 0) := by
    refine ⟨?_, ?_, rfl, fun o k ho hk => ?_, ?_, fun a ha => absurd ha (Nat.not_lt_zero a)⟩
    · rw [sI_at, if_neg (by omega), sI_at, if_pos ⟨rfl, rfl⟩]
      exact pk_mul 120 w
    · rw [sI_at, if_pos ⟨rfl, rfl⟩]
    · rw [sI_at, if_neg (by omega), sI_at, if_neg (by omega)]
    · intro o k h1 h2 h3 h4
      rw [sI_at, if_neg (by omega), sI_at, if_neg (by omega)]
  obtain ⟨g1, e1, A1⟩ := A0.row (p := 2) (n := 4) hw (by omega) (by decide) (by decide) ⟨fun _ => by omega, fun _ => by omega⟩ (fun i hi => ko_a 0 (by decide) hi (by omega)) (fun a ha => kb_ne (by omega) (Or.inl ⟨by decide, by omega⟩)) (fun a ha => kb_n0 (by omega))
  obtain ⟨g2, e2, A2⟩ := A1.row (p := 3) (n := 4) hw (by omega) (by decide) (by decide) ⟨fun _ => by omega, fun _ => by omega⟩ (fun i hi => ko_a 1 (by decide) hi (by omega)) (fun a ha => kb_ne (by omega) (Or.inl ⟨by decide, by omega⟩)) (fun a ha => kb_n0 (by omega))
  obtain ⟨g3, e3, A3⟩ := A2.row (p := 4) (n := 4) hw (by omega) (by decide) (by decide) ⟨fun _ => by omega, fun _ => by omega⟩ (fun i hi => ko_a 2 (by decide) hi (by omega)) (fun a ha => kb_ne (by omega) (Or.inl ⟨by decide, by omega⟩)) (fun a ha => kb_n0 (by omega))
  obtain ⟨g4, e4, A4⟩ := A3.row (p := 5) (n := 4) hw (by omega) (by decide) (by decide) ⟨fun _ => by omega, fun _ => by omega⟩ (fun i hi => ko_a 3 (by decide) hi (by omega)) (fun a ha => kb_ne (by omega) (Or.inl ⟨by decide, by omega⟩)) (fun a ha => kb_n0 (by omega))
  obtain ⟨g5, e5, A5⟩ := A4.row (p := 6) (n := 4) hw (by omega) (by decide) (by decide) ⟨fun _ => by omega, fun _ => by omega⟩ (fun i hi => ko_a 4 (by decide) hi (by omega)) (fun a ha => kb_ne (by omega) (Or.inl ⟨by decide, by omega⟩)) (fun a ha => kb_n0 (by omega))
  obtain ⟨g6, e6, A6⟩ := A5.row (p := 7) (n := 4) hw (by omega) (by decide) (by decide) ⟨fun _ => by omega, fun _ => by omega⟩ (fun i hi => ko_a 5 (by decide) hi (by omega)) (fun a ha => kb_ne (by omega) (Or.inl ⟨by decide, by omega⟩)) (fun a ha => kb_n0 (by omega))
  obtain ⟨g7, e7, A7⟩ := A6.row (p := 8) (n := 4) hw (by omega) (by decide) (by decide) ⟨fun _ => by omega, fun _ => by omega⟩ (fun i hi => ko_a 6 (by decide) hi (by omega)) (fun a ha => kb_ne (by omega) (Or.inl ⟨by decide, by omega⟩)) (fun a ha => kb_n0 (by omega))
  obtain ⟨g8, e8, A8⟩ := A7.row (p := 9) (n := 4) hw (by omega) (by decide) (by decide) ⟨fun _ => by omega, fun _ => by omega⟩ (fun i hi => ko_a 7 (by decide) hi (by omega)) (fun a ha => kb_ne (by omega) (Or.inl ⟨by decide, by omega⟩)) (fun a ha => kb_n0 (by omega))
  obtain ⟨g9, e9, A9⟩ := A8.row (p := 10) (n := 24) hw (by omega) (by decide) (by decide) ⟨fun _ => by omega, fun _ => by omega⟩ (fun i hi => ko_b 0 (by decide) hi (by omega)) (fun a ha => kb_ne (by omega) (Or.inr ⟨by decide, by decide, by omega⟩)) (fun a ha => kb_n0 (by omega))
  obtain ⟨g10, e10, A10⟩ := A9.row (p := 11) (n := 24) hw (by omega) (by decide) (by decide) ⟨fun _ => by omega, fun _ => by omega⟩ (fun i hi => ko_b 1 (by decide) hi (by omega)) (fun a ha => kb_ne (by omega) (Or.inr ⟨by decide, by decide, by omega⟩)) (fun a ha => kb_n0 (by omega))
  obtain ⟨g11, e11, A11⟩ := A10.row (p := 12) (n := 24) hw (by omega) (by decide) (by decide) ⟨fun _ => by omega, fun _ => by omega⟩ (fun i hi => ko_b 2 (by decide) hi (by omega)) (fun a ha => kb_ne (by omega) (Or.inr ⟨by decide, by decide, by omega⟩)) (fun a ha => kb_n0 (by omega))
  obtain ⟨k0, x0, a0, B0⟩ := A11.one (j := 0) hw (by decide) (by omega)
  obtain ⟨k1, x1, a1, B1⟩ := B0.one (j := 1) hw (by decide) (by omega)
  obtain ⟨k2, x2, a2, B2⟩ := B1.one (j := 2) hw (by decide) (by omega)
  obtain ⟨k3, x3, a3, B3⟩ := B2.one (j := 3) hw (by decide) (by omega)
  obtain ⟨k4, x4, a4, B4⟩ := B3.one (j := 4) hw (by decide) (by omega)
  refine ⟨_, ?_, B4.2.2.2.1, B4.2.2.1, B4.2.2.2.2.1, fun a ha => B4.2.2.2.2.2 a (by omega)⟩
  unfold X11_passesAll
  simp only [vl_e, cz_0]
  rw [e1, bd_s, e2, bd_s, e3, bd_s, e4, bd_s, e5, bd_s, e6, bd_s, e7, bd_s, e8, bd_s, e9, bd_s, e10, bd_s, e11, bd_s]
  rw [show 12 + 0 = 12 from rfl] at a0
  rw [show 12 + 1 = 13 from rfl] at a1
  rw [show 12 + 2 = 14 from rfl] at a2
  rw [show 12 + 3 = 15 from rfl] at a3
  rw [show 12 + 4 = 16 from rfl] at a4
  rw [a0, bd_s, a1, bd_s, a2, bd_s, a3, bd_s, a4, bd_s]
end
section
/-! a refusal's numbers one by one -/
theorem rf_1 (h : AH) : X10_refuse (-1) h = some (-1, sI h 4 1 (h.1 4 1 + 1)) := by
  unfold X10_refuse
  rw [if_neg (by decide), if_neg (by decide), ck_in _ (by decide), ck_in _ (by decide), vl_e]
  rfl
theorem rf_2 (h : AH) : X10_refuse (-2) h = some (-2, sI h 4 2 (h.1 4 2 + 1)) := by
  unfold X10_refuse
  rw [if_neg (by decide), if_neg (by decide), ck_in _ (by decide), ck_in _ (by decide), vl_e]
  rfl
theorem rf_3 (h : AH) : X10_refuse (-3) h = some (-3, sI h 4 3 (h.1 4 3 + 1)) := by
  unfold X10_refuse
  rw [if_neg (by decide), if_neg (by decide), ck_in _ (by decide), ck_in _ (by decide), vl_e]
  rfl
theorem rf_4 (h : AH) : X10_refuse (-4) h = some (-4, sI h 4 4 (h.1 4 4 + 1)) := by
  unfold X10_refuse
  rw [if_neg (by decide), if_neg (by decide), ck_in _ (by decide), ck_in _ (by decide), vl_e]
  rfl
theorem rf_6 (h : AH) : X10_refuse (-6) h = some (-6, sI h 4 6 (h.1 4 6 + 1)) := by
  unfold X10_refuse
  rw [if_neg (by decide), if_neg (by decide), ck_in _ (by decide), ck_in _ (by decide), vl_e]
  rfl
theorem no_g {x : Int32} {w : Nat} (h3 : ¬ (-x < 0 ∨ 7 ≤ (-x).toNatClampNeg)) (h4 : (-x).toNatClampNeg = w) (h : AH) : X11_no x h = some (x, sI h 1 w (h.1 1 w + 1)) := by
  unfold X11_no
  rw [ck_in _ h3, ck_in _ h3, vl_e, h4]
theorem no_1 (h : AH) : X11_no (-1) h = some (-1, sI h 1 1 (h.1 1 1 + 1)) := no_g (by decide) (by decide) h
theorem no_2 (h : AH) : X11_no (-2) h = some (-2, sI h 1 2 (h.1 1 2 + 1)) := no_g (by decide) (by decide) h
theorem no_3 (h : AH) : X11_no (-3) h = some (-3, sI h 1 3 (h.1 1 3 + 1)) := no_g (by decide) (by decide) h
theorem no_4 (h : AH) : X11_no (-4) h = some (-4, sI h 1 4 (h.1 1 4 + 1)) := no_g (by decide) (by decide) h
theorem no_6 (h : AH) : X11_no (-6) h = some (-6, sI h 1 6 (h.1 1 6 + 1)) := no_g (by decide) (by decide) h
theorem lo_g {x : Int32} {w : Nat} (h3 : ¬ (-x < 0 ∨ 7 ≤ (-x).toNatClampNeg)) (h4 : (-x).toNatClampNeg = w) (h : AH) : X11_lower x h = some (1000000000 - x, sI h 1 w (h.1 1 w + 1)) := by
  unfold X11_lower
  rw [ck_in _ h3, ck_in _ h3, vl_e, h4]
theorem lo_1 (h : AH) : X11_lower (-1) h = some (1000000000 - (-1), sI h 1 1 (h.1 1 1 + 1)) := lo_g (by decide) (by decide) h
theorem lo_4 (h : AH) : X11_lower (-4) h = some (1000000000 - (-4), sI h 1 4 (h.1 1 4 + 1)) := lo_g (by decide) (by decide) h
theorem lo_6 (h : AH) : X11_lower (-6) h = some (1000000000 - (-6), sI h 1 6 (h.1 1 6 + 1)) := lo_g (by decide) (by decide) h
theorem ll_1 (h : AH) : X11_lowest (-1) h = some (4000000000000000000 - (-1 : Int32).toInt64, sI h 1 1 (h.1 1 1 + 1)) := by
  unfold X11_lowest
  rw [ck_in _ (by decide), ck_in _ (by decide), vl_e]
  rfl
theorem i_0 {α : Type} (a b : α) : (if (0 : Int32) = 0 then a else b) = a := if_pos rfl
theorem i_le {α : Type} (a b : α) : (if (0 : Int32) ≤ 0 then a else b) = a := if_pos (Int32.le_refl 0)
theorem k_0 {β : Type} {n : Nat} (o : Option β) (hn : 0 < n) : ck 0 n o = o := ck_in o (fun z => z.elim (fun z => absurd z (by decide)) (fun z => absurd z (by show ¬ n ≤ 0; omega)))
theorem i_10 {α : Type} (a b : α) : (if (1 : Int32) = 0 then a else b) = b := if_neg (by decide)
theorem i_1 {α : Type} (a b : α) : (if (-1 : Int32) = 0 then a else b) = b := if_neg (by decide)
theorem i_2 {α : Type} (a b : α) : (if (-2 : Int32) = 0 then a else b) = b := if_neg (by decide)
theorem i_3 {α : Type} (a b : α) : (if (-3 : Int32) = 0 then a else b) = b := if_neg (by decide)
theorem i_4 {α : Type} (a b : α) : (if (-4 : Int32) = 0 then a else b) = b := if_neg (by decide)
theorem i_6 {α : Type} (a b : α) : (if (-6 : Int32) = 0 then a else b) = b := if_neg (by decide)
theorem rk0_at (h : AH) (n : Int32) (o k : Nat) (ho : o ≠ 5 ∧ o ≠ 6 ∧ o ≠ 7) : (rk0 h n).1 o k = h.1 o k := by
  show (if o = 7 ∧ k < 4 then 0 else if o = 6 ∧ k < 4 then 0 else if o = 5 ∧ k = 0 then n else h.1 o k) = _
  rw [if_neg (by omega), if_neg (by omega), if_neg (by omega)]
end
section
/-! THE START: what the constructors leave -/
/-- n over k -/
def cb : Nat → Nat → Nat
  | 0, k => if k = 0 then 1 else 0
  | n + 1, k => cb n k + (match k with | 0 => 0 | j + 1 => cb n j)
def cbp (n k d : Nat) : Nat := if d ≤ k then cb n (k - d) else 0
theorem cb_s (n k : Nat) : cb (n + 1) k = cb n k + cbp n k 1 := by
  unfold cbp
  cases k with
  | zero => rfl
  | succ k => rfl
theorem cb_s2 (n k : Nat) : cb (n + 2) k = cb n k + 2 * cbp n k 1 + cbp n k 2 := by
  have h1 : cb (n + 2) k = cb (n + 1) k + cbp (n + 1) k 1 := cb_s (n + 1) k
  rw [h1, cb_s]
  unfold cbp
  match k with
  | 0 => rfl
  | 1 =>
    simp only [Nat.sub_self, Nat.le_refl, if_true, if_neg (show ¬ 2 ≤ 1 from by decide)]
    rw [cb_s]
    unfold cbp
    simp
    omega
  | k + 2 =>
    rw [if_pos (by omega), if_pos (by omega), if_pos (by omega), cb_s]
    unfold cbp
    rw [if_pos (by omega), show k + 2 - 1 - 1 = k + 2 - 2 from by omega]
    omega
theorem cb_big (n : Nat) : ∀ k, n < k → cb n k = 0 := by
  induction n with
  | zero => intro k hk; show (if k = 0 then 1 else 0) = 0; rw [if_neg (by omega)]
  | succ n ih =>
    intro k hk
    rw [cb_s, ih k (by omega)]
    unfold cbp
    split
    · rw [ih _ (by omega)]
    · rfl
/-- a row of the table, as far as i -/
def wpt (f : Nat → Nat) (i j : Nat) : Nat := (if j < i then f j else 0) + 2 * (if 1 ≤ j ∧ j - 1 < i then f (j - 1) else 0) + (if 2 ≤ j ∧ j - 2 < i then f (j - 2) else 0)
theorem wpt_s (f : Nat → Nat) (i j : Nat) : wpt f (i + 1) j = wpt f i j + (if j = i then f i else 0) + (if j = i + 1 then 2 * f i else 0) + (if j = i + 2 then f i else 0) := by
  unfold wpt
  by_cases b : 1 ≤ j
  · by_cases c : 2 ≤ j
    · by_cases a0 : j = i
      · subst a0
        repeat (first | rw [if_pos (by omega)] | rw [if_neg (by omega)])
        all_goals omega
      · by_cases a1 : j = i + 1
        · subst a1
          repeat (first | rw [if_pos (by omega)] | rw [if_neg (by omega)])
          rw [Nat.add_sub_cancel]
          all_goals omega
        · by_cases a2 : j = i + 2
          · subst a2
            repeat (first | rw [if_pos (by omega)] | rw [if_neg (by omega)])
            rw [Nat.add_sub_cancel]
            all_goals omega
          · by_cases d : j < i
            · repeat (first | rw [if_pos (by omega)] | rw [if_neg (by omega)])
              all_goals omega
            · repeat (first | rw [if_pos (by omega)] | rw [if_neg (by omega)])
              all_goals omega
    · have e : j = 1 := by omega
      subst e
      by_cases a0 : 1 = i
      · subst a0
        repeat (first | rw [if_pos (by omega)] | rw [if_neg (by omega)])
        all_goals omega
      · by_cases a1 : 1 = i + 1
        · have e : i = 0 := by omega
          subst e
          repeat (first | rw [if_pos (by omega)] | rw [if_neg (by omega)])
          all_goals omega
        · repeat (first | rw [if_pos (by omega)] | rw [if_neg (by omega)])
          all_goals omega
  · have e : j = 0 := by omega
    subst e
    by_cases a0 : 0 = i
    · subst a0
      repeat (first | rw [if_pos (by omega)] | rw [if_neg (by omega)])
      all_goals omega
    · repeat (first | rw [if_pos (by omega)] | rw [if_neg (by omega)])
      all_goals omega
theorem wpt_end (n j : Nat) : wpt (cb n) (n + 1) j = cb (n + 2) j := by
  rw [cb_s2]
  unfold wpt cbp
  congr 1
  · congr 1
    · split
      · rfl
      · rw [cb_big n j (by omega)]
    · by_cases c : 1 ≤ j
      · rw [if_pos c]
        by_cases d : j - 1 < n + 1
        · rw [if_pos ⟨c, d⟩]
        · rw [if_neg (by omega), cb_big n _ (by omega)]
      · rw [if_neg c, if_neg (by omega)]
  · by_cases c : 2 ≤ j
    · rw [if_pos c]
      by_cases d : j - 2 < n + 1
      · rw [if_pos ⟨c, d⟩]
      · rw [if_neg (by omega), cb_big n _ (by omega)]
    · rw [if_neg c, if_neg (by omega)]
theorem sL_at (h : AH) (o k : Nat) (v : Int64) (q j : Nat) : (sL h o k v).2.1 q j = if q = o ∧ j = k then v else h.2.1 q j := rfl
theorem lN_2 (a : Nat) : 2 * lN a = lN (2 * a) := lN_mul 2 a
theorem s_ways1 {m : Nat} (hm : m < 20) (K : Int32 → AH → Option (Unit × AH)) : ∀ (f i : Nat) (h : AH), 2 * m + 1 < i + f → i ≤ 2 * m + 1 → (∀ j, h.2.1 (11 + m) j = lN (wpt (cb (2 * m)) i j)) → (∀ j, h.2.1 (10 + m) j = lN (cb (2 * m) j)) →
    ∃ h', X1_init_i8_l49 (nI (m + 1)) K f (nI i) h = K (nI (m + 2)) h' ∧ h'.1 = h.1 ∧ h'.2.2 = h.2.2 ∧ (∀ o j, o ≠ 11 + m → h'.2.1 o j = h.2.1 o j) ∧ (∀ j, h'.2.1 (11 + m) j = lN (cb (2 * m + 2) j)) := by
  intro f
  induction f with
  | zero => intro i h h1 h2; omega
  | succ f ih =>
    intro i h h1 h2 hR hP
    rw [X1_init_i8_l49.eq_2]
    have e2 : (2 : Int32) * nI (m + 1) - 2 = nI (2 * m) := by
      show nI 2 * nI (m + 1) - nI 2 = _
      rw [pk_mul, pk_sub (by omega)]
      congr 1
      all_goals omega
    rw [e2]
    by_cases c : i = 2 * m + 1
    · subst c
      rw [if_pos (nI_lt (by omega) (by omega)), vl_e, nI_1]
      exact ⟨h, rfl, rfl, rfl, fun o j _ => rfl, fun j => by rw [hR, wpt_end]⟩
    · rw [if_neg (nI_nlt (by omega) (by omega))]
      have e1 : nI (m + 1) - 1 = nI m := nI_pred m
      have e3 : nI i + 2 = nI (i + 2) := nI_add i 2
      simp only [e1, e3, nI_1, vl_e]
      rw [ck_nI _ (by omega) (by omega), ck_nI _ (by omega) (by omega), ck_nI _ (by omega) (by omega), ck_nI _ (by omega) (by omega), ck_nI _ (by omega) (by omega), ck_nI _ (by omega) (by omega), ck_nI _ (by omega) (by omega), ck_nI _ (by omega) (by omega), ck_nI _ (by omega) (by omega), ck_nI _ (by omega) (by omega), ck_nI _ (by omega) (by omega), ck_nI _ (by omega) (by omega), ck_nI _ (by omega) (by omega), ck_nI _ (by omega) (by omega), ck_nI _ (by omega) (by omega)]
      rw [nI_clamp (by omega : m + 1 < 2 ^ 31), nI_clamp (by omega : m < 2 ^ 31), nI_clamp (by omega : i < 2 ^ 31), nI_clamp (by omega : i + 1 < 2 ^ 31), nI_clamp (by omega : i + 2 < 2 ^ 31), Nat.mod_eq_of_lt (by omega : m + 1 < 21), Nat.mod_eq_of_lt (by omega : m < 21), show 10 + (m + 1) = 11 + m from by omega]
      generalize hg9 : sL h (11 + m) i (h.2.1 (11 + m) i + h.2.1 (10 + m) i) = h9
      generalize hg10 : sL h9 (11 + m) (i + 1) (h9.2.1 (11 + m) (i + 1) + 2 * h9.2.1 (10 + m) i) = h10
      generalize hg11 : sL h10 (11 + m) (i + 2) (h10.2.1 (11 + m) (i + 2) + h10.2.1 (10 + m) i) = h11
      have p9 : ∀ o j, h9.2.1 o j = if o = 11 + m ∧ j = i then h.2.1 (11 + m) i + h.2.1 (10 + m) i else h.2.1 o j := fun o j => by rw [← hg9, sL_at]
      have p10 : ∀ o j, h10.2.1 o j = if o = 11 + m ∧ j = i + 1 then h9.2.1 (11 + m) (i + 1) + 2 * h9.2.1 (10 + m) i else h9.2.1 o j := fun o j => by rw [← hg10, sL_at]
      have p11 : ∀ o j, h11.2.1 o j = if o = 11 + m ∧ j = i + 2 then h10.2.1 (11 + m) (i + 2) + h10.2.1 (10 + m) i else h10.2.1 o j := fun o j => by rw [← hg11, sL_at]
      have hoth : ∀ o j, o ≠ 11 + m → h11.2.1 o j = h.2.1 o j := fun o j ho => by rw [p11, if_neg (fun z => ho z.1), p10, if_neg (fun z => ho z.1), p9, if_neg (fun z => ho z.1)]
      obtain ⟨h', a1, a2, a3, a4, a5⟩ := ih (i + 1) h11 (by omega) (by omega) (fun j => by
        rw [wpt_s, p11, p10, p10, p10, p9, p9, p9, p9]
        by_cases d0 : j = i
        · subst d0
          rw [if_neg (by omega), if_neg (by omega), if_pos ⟨rfl, rfl⟩, hR, hP, lN_add, if_pos rfl, if_neg (by omega), if_neg (by omega)]
          rfl
        · by_cases d1 : j = i + 1
          · subst d1
            rw [if_neg (by omega), if_pos ⟨rfl, rfl⟩, if_neg (by omega), if_neg (by omega), hR, hP, lN_2, lN_add, if_neg (by omega), if_pos rfl, if_neg (by omega)]
            congr 1
          · by_cases d2 : j = i + 2
            · subst d2
              rw [if_pos ⟨rfl, rfl⟩, if_neg (by omega), if_neg (by omega), if_neg (by omega), if_neg (by omega), hR, hP, lN_add, if_neg (by omega), if_neg (by omega), if_pos rfl]
              congr 1
            · rw [if_neg (by omega), if_neg (by omega), if_neg (by omega), hR, if_neg d0, if_neg d1, if_neg d2]
              rfl) (fun j => by rw [hoth _ j (by omega), hP])
      refine ⟨h', a1, ?_, ?_, fun o j ho => by rw [a4 o j ho, hoth o j ho], a5⟩
      · rw [a2, ← hg11, ← hg10, ← hg9]; rfl
      · rw [a3, ← hg11, ← hg10, ← hg9]; rfl
theorem s_ways2 : ∀ (f m : Nat) (h : AH), 20 < m + f → m ≤ 20 → (∀ n j, n ≤ m → h.2.1 (10 + n) j = lN (cb (2 * n) j)) → (∀ n j, m < n → n ≤ 20 → h.2.1 (10 + n) j = 0) →
    ∃ h', X1_init_i8_l41 f (nI (m + 1)) h = some ((), h') ∧ h'.1 = h.1 ∧ h'.2.2 = h.2.2 ∧ (∀ n j, n ≤ 20 → h'.2.1 (10 + n) j = lN (cb (2 * n) j)) ∧ (∀ o j, (o < 10 ∨ 30 < o) → h'.2.1 o j = h.2.1 o j) := by
  intro f
  induction f with
  | zero => intro m h h1 h2; omega
  | succ f ih =>
    intro m h h1 h2 hA hB
    rw [X1_init_i8_l41.eq_2]
    by_cases c : m = 20
    · subst c
      rw [if_pos (show (20 : Int32) < nI 21 from nI_lt (a := 20) (by decide) (by decide))]
      exact ⟨h, rfl, rfl, rfl, fun n j hn => hA n j hn, fun _ _ _ => rfl⟩
    · rw [if_neg (show ¬ (20 : Int32) < nI (m + 1) from nI_nlt (b := m + 1) (a := 20) (by omega) (by decide))]
      obtain ⟨h1', a1, a2, a3, a4, a5⟩ := s_ways1 (m := m) (by omega) (X1_init_i8_l41 f) FU 0 h (by unfold FU; omega) (by omega) (fun j => by
        rw [show 11 + m = 10 + (m + 1) from by omega, hB (m + 1) j (by omega) (by omega)]
        unfold wpt
        rw [if_neg (by omega), if_neg (by omega), if_neg (by omega)]
        rfl) (fun j => hA m j (Nat.le_refl m))
      have e0 : X1_init_i8_l49 (nI (m + 1)) (X1_init_i8_l41 f) FU 0 h = X1_init_i8_l41 f (nI (m + 2)) h1' := a1
      rw [e0]
      obtain ⟨h2', b1, b2, b3, b4, b5⟩ := ih (m + 1) h1' (by omega) (by omega) (fun n j hn => by
        by_cases d : n = m + 1
        · subst d
          rw [show 10 + (m + 1) = 11 + m from by omega, a5 j]
          rfl
        · rw [a4 _ j (by omega), hA n j (by omega)]) (fun n j h3 h4 => by rw [a4 _ j (by omega), hB n j (by omega) h4])
      exact ⟨h2', b1, by rw [b2, a2], by rw [b3, a3], b4, fun o j ho => by rw [b5 o j ho, a4 o j (by omega)]⟩
theorem s_chances (h : AH) : ∃ h', X1_init_i8 h = some ((), h') ∧ h'.1 = (zN (zM h 9 21) 31).1 ∧ h'.2.2 = (zN (zM h 9 21) 31).2.2 ∧ (∀ n j, n ≤ 20 → h'.2.1 (10 + n) j = lN (cb (2 * n) j)) ∧ (∀ o j, (o < 10 ∨ 30 < o) → h'.2.1 o j = (sL (zN (zM h 9 21) 31) 8 2 1).2.1 o j) := by
  unfold X1_init_i8
  simp only [vl_e]
  have z0 : (0 : Int32).toNatClampNeg = 0 := rfl
  have z1 : (1 : Int32) = nI (0 + 1) := rfl
  rw [ck_in _ (by decide), ck_in _ (by decide), z0, z1]
  have hz : ∀ n j, n ≤ 20 → (zN (zM h 9 21) 31).2.1 (10 + n) j = 0 := by
    intro n j hn
    show (if 10 + n = 31 then 0 else if 9 ≤ 10 + n ∧ 10 + n ≤ 9 + 21 then 0 else h.2.1 (10 + n) j) = 0
    rw [if_neg (by omega), if_pos (by omega)]
  obtain ⟨h', a1, a2, a3, a4, a5⟩ := s_ways2 FU 0 (sL (sL (zN (zM h 9 21) 31) 8 2 1) 10 0 1) (by unfold FU; omega) (by omega) (fun n j hn => by
    have e : n = 0 := by omega
    subst e
    rw [sL_at, sL_at, if_neg (by omega : ¬ (10 + 0 = 8 ∧ j = 2)), hz 0 j (by omega)]
    show (if 10 + 0 = 10 ∧ j = 0 then (1 : Int64) else 0) = lN (cb 0 j)
    show _ = lN (if j = 0 then 1 else 0)
    by_cases d : j = 0
    · rw [if_pos ⟨rfl, d⟩, if_pos d]; rfl
    · rw [if_neg (fun z => d z.2), if_neg d]; rfl) (fun n j h3 h4 => by rw [sL_at, sL_at, if_neg (by omega), if_neg (by omega), hz n j h4])
  refine ⟨h', a1, by rw [a2]; rfl, by rw [a3]; rfl, a4, fun o j ho => by rw [a5 o j ho, sL_at, if_neg (by omega)]⟩
/-- what holds of the class's heap as it is made -/
def StC (c : AH) : Prop := (∀ o, o = 42 ∨ o = 52 ∨ o = 62 → c.1 o 0 = 10 ∧ c.1 o 1 = 0 ∧ c.1 o 2 = 2 ∧ c.1 o 3 = 0 ∧ c.1 o 4 = 0) ∧ c.1 0 4 = 0 ∧ c.1 0 6 = 0 ∧ c.1 0 8 = 0 ∧ (∀ k, c.1 2 k = 0 ∧ c.1 3 k = 0 ∧ c.1 4 k = 0 ∧ c.1 44 k = 0 ∧ c.1 45 k = 0 ∧ c.1 46 k = 0 ∧ c.1 47 k = 0 ∧ c.1 48 k = 0 ∧ c.1 49 k = 0 ∧ c.1 50 k = 0 ∧ c.1 51 k = 0) ∧ c.2.2 48 = 0 ∧ c.2.2 49 = 0 ∧ c.2.2 50 = 0 ∧ c.2.2 51 = 0 ∧ (∀ n j, n ≤ 20 → c.2.1 (10 + n) j = lN (cb (2 * n) j))
theorem zN_1 (h : AH) (n o k : Nat) : (zN h n).1 o k = if o = n then 0 else h.1 o k := rfl
theorem zN_21 (h : AH) (n o k : Nat) : (zN h n).2.1 o k = if o = n then 0 else h.2.1 o k := rfl
theorem zN_22 (h : AH) (n o : Nat) : (zN h n).2.2 o = if o = n then 0 else h.2.2 o := rfl
theorem zM_1 (h : AH) (n M o k : Nat) : (zM h n M).1 o k = if n ≤ o ∧ o ≤ n + M then 0 else h.1 o k := rfl
theorem zM_22 (h : AH) (n M o : Nat) : (zM h n M).2.2 o = if n ≤ o ∧ o ≤ n + M then 0 else h.2.2 o := rfl
set_option maxRecDepth 100000 in
set_option maxHeartbeats 4000000 in
theorem init_C : ∃ c0, X10_init_i0 AZ = some ((), c0) ∧ StC c0 := by
  obtain ⟨h', a1, a2, a3, a4, a5⟩ := s_chances (zN (zN (zN (zN (zN (zN (zN (zN AZ 1) 2) 3) 4) 5) 6) 7) 8)
  refine ⟨_, by
    unfold X10_init_i0 X6_init_i5
    simp only [vl_e, bd_s]
    rw [a1]
    rfl, ?_⟩
  · have b1 : ∀ o k, h'.1 o k = 0 := by
      intro o k
      rw [a2]
      simp only [zN_1, zM_1]
      repeat (first | rfl | split)
    have b3 : ∀ o, h'.2.2 o = 0 := by
      intro o
      rw [a3]
      simp only [zN_22, zM_22]
      repeat (first | rfl | split)
    refine ⟨?_, ?_, ?_, ?_, ?_, ?_, ?_, ?_, ?_, ?_⟩
    · intro o ho
      rcases ho with e | e | e <;> subst e <;> simp [zN_1, sI_at, sK, b1]
    · simp [zN_1, sI_at, sK, b1]
    · simp [zN_1, sI_at, sK, b1]
    · simp [zN_1, sI_at, sK, b1]
    · intro k
      simp [zN_1, sI_at, sK, b1]
    · simp [zN_22, sK_at, sI, b3]
    · simp [zN_22, sK_at, sI, b3]
    · simp [zN_22, sK_at, sI, b3]
    · simp [zN_22, sK_at, sI, b3]
    · intro n j hn
      rw [← a4 n j hn]
      have e : ∀ q, 31 < q → ¬ 10 + n = q := fun q hq => by omega
      simp [zN_21, sI, sK, e]
/-- what holds of the reference's heap as it is made -/
def StR (r : AH) : Prop := r.1 0 12 = 10 ∧ r.1 0 13 = 2 ∧ r.1 0 14 = 0 ∧ r.1 0 15 = 0 ∧ r.1 0 16 = 0 ∧ r.1 0 21 = 0 ∧ r.1 0 25 = 0 ∧ r.1 0 34 = 0 ∧ (∀ k, r.1 1 k = 0 ∧ r.1 2 k = 0 ∧ r.1 3 k = 0 ∧ r.1 4 k = 0 ∧ r.1 5 k = 0 ∧ r.1 6 k = 0 ∧ r.1 7 k = 0 ∧ r.1 8 k = 0 ∧ r.1 9 k = 0 ∧ r.1 10 k = 0 ∧ r.1 11 k = 0 ∧ r.1 12 k = 0 ∧ r.1 13 k = 0 ∧ r.1 23 k = 0)
set_option maxRecDepth 100000 in
set_option maxHeartbeats 4000000 in
theorem init_R : ∃ r0, X11_init_i0 AZ = some ((), r0) ∧ StR r0 := by
  refine ⟨_, rfl, ?_⟩
  have b1 : ∀ o k, AZ.1 o k = 0 := fun _ _ => rfl
  unfold StR
  simp [zN_1, sI_at, b1]
end
section
/-! JUMPERS: lengths, aims, strides, the way to the edge -/
def clp (x : Int32) : Int32 := if 0 ≤ x then x else 0
def lenP (fg pc wd b l : Int32) : Int32 := clp (((((4 * pc) + (2 * wd)) + fg) - b) - (2 * l))
def lenS (kd fg pc wd b l : Int32) : Int32 :=
  if kd = 1 then clp (lenP fg pc wd b l - 3)
  else if kd = 2 then lenP fg pc wd b l + 3
  else if kd = 3 then clp (lenP fg pc wd b l - 3)
  else if kd = 4 then clp ((lenP fg pc wd b l + 3) + wd)
  else if kd = 5 then clp (lenP fg pc wd b l - 3) + 1
  else lenP fg pc wd b l
def aimS (kd fg : Int32) : Int32 :=
  if kd = 1 then fg + 2 else if kd = 2 then 1 else if kd = 3 then (fg + 2) / 2 else if kd = 4 then 1 else if kd = 5 then (fg + 2) / 2 + 1 else 0
def strS (kd st gr wd k : Int32) : Int32 :=
  if kd = 2 then ((st + ((gr * k) / 10)) + ((wd * k) / 10)) + (rm32 k 2)
  else if kd = 4 then (((st + ((gr * k) / 10)) + ((wd * k) / 10)) + (rm32 k 2)) + ((wd * k) / 10)
  else if kd = 5 then st + ((gr * k) / 10)
  else (st + ((gr * k) / 10)) + ((wd * k) / 10)
def pathS (kd st gr wd : Int32) : Nat → Int32
  | 0 => 0
  | k + 1 => pathS kd st gr wd k + strS kd st gr wd (nI k)
theorem clp_if {x : Int32} {h : AH} : (if 0 ≤ x then some (x, h) else some ((0 : Int32), h)) = some (clp x, h) := by
  unfold clp
  split <;> rfl
/-- a jumper of the class: its way is its kind -/
def JK (h : AH) (p : Nat) : Prop := ∃ κ : Nat, κ < 6 ∧ h.2.2 p = κ ∧ h.1 p 1 = nI κ
theorem s_len3 (p : Nat) (b l wd : Int32) (h : AH) : X3_lengthOf p b l wd h = some (lenP (h.1 p 2) (h.1 p 6) wd b l, h) := by
  unfold X3_lengthOf
  rw [vl_e, clp_if]
  rfl
theorem s_len7 (p : Nat) (b l wd : Int32) (h : AH) : X7_lengthOf p b l wd h = some (clp (lenP (h.1 p 2) (h.1 p 6) wd b l - 3), h) := by
  unfold X7_lengthOf
  rw [s_len3, bd_s, vl_e, clp_if]
theorem s_len0 (p : Nat) (b l wd : Int32) (h : AH) : X0_lengthOf p b l wd h = some (lenP (h.1 p 2) (h.1 p 6) wd b l + 3, h) := by
  unfold X0_lengthOf
  rw [s_len3, bd_s]
theorem s_len9 (p : Nat) (b l wd : Int32) (h : AH) : X9_lengthOf p b l wd h = some (clp ((lenP (h.1 p 2) (h.1 p 6) wd b l + 3) + wd), h) := by
  unfold X9_lengthOf
  rw [s_len0, bd_s, vl_e, clp_if]
theorem s_len8 (p : Nat) (b l wd : Int32) (h : AH) : X8_lengthOf p b l wd h = some (clp (lenP (h.1 p 2) (h.1 p 6) wd b l - 3) + 1, h) := by
  unfold X8_lengthOf
  rw [s_len7, bd_s]
theorem s_lenC {p : Nat} {h : AH} (hk : JK h p) (b l wd : Int32) : kd (h.2.2 p) (X3_lengthOf p b l wd h) (X7_lengthOf p b l wd h) (X0_lengthOf p b l wd h) (X7_lengthOf p b l wd h) (X9_lengthOf p b l wd h) (X8_lengthOf p b l wd h) = some (lenS (h.1 p 1) (h.1 p 2) (h.1 p 6) wd b l, h) := by
  rw [s_len3, s_len7, s_len0, s_len9, s_len8]
  obtain ⟨κ, hκ, e1, e2⟩ := hk
  rw [e1, e2]
  match κ, hκ with
  | 0, _ => rfl
  | 1, _ => rfl
  | 2, _ => rfl
  | 3, _ => rfl
  | 4, _ => rfl
  | 5, _ => rfl
theorem s_aimC {p : Nat} {h : AH} (hk : JK h p) : kd (h.2.2 p) (X3_aimOf p h) (X7_aimOf p h) (X0_aimOf p h) (X4_aimOf p h) (X0_aimOf p h) (X8_aimOf p h) = some (aimS (h.1 p 1) (h.1 p 2), h) := by
  obtain ⟨κ, hκ, e1, e2⟩ := hk
  rw [e1, e2]
  match κ, hκ with
  | 0, _ => rfl
  | 1, _ => rfl
  | 2, _ => rfl
  | 3, _ => rfl
  | 4, _ => rfl
  | 5, _ => rfl
theorem s_strC {p : Nat} {h : AH} (hk : JK h p) (k wd : Int32) : kd (h.2.2 p) (X3_strideOf p k wd h) (X3_strideOf p k wd h) (X0_strideOf p k wd h) (X3_strideOf p k wd h) (X9_strideOf p k wd h) (X8_strideOf p k wd h) = some (strS (h.1 p 1) (h.1 p 3) (h.1 p 4) wd k, h) := by
  obtain ⟨κ, hκ, e1, e2⟩ := hk
  rw [e1, e2]
  match κ, hκ with
  | 0, _ => rfl
  | 1, _ => rfl
  | 2, _ => rfl
  | 3, _ => rfl
  | 4, _ => rfl
  | 5, _ =>
    show X8_strideOf p k wd h = _
    unfold X8_strideOf X3_strideOf
    rw [bd_s]
    show some ((((h.1 p 3) + (((h.1 p 4) * k) / 10)) + ((wd * k) / 10)) - ((wd * k) / 10), h) = some ((h.1 p 3) + (((h.1 p 4) * k) / 10), h)
    rw [Int32.add_sub_cancel]
theorem s_pathC {p : Nat} {h : AH} (hk : JK h p) {S : Nat} (hS : S < 2 ^ 31) (wd : Int32) : ∀ (f i : Nat), S < i + f → i ≤ S → X2_path_l5 p (nI S) wd f (pathS (h.1 p 1) (h.1 p 3) (h.1 p 4) wd i) (nI i) h = some (pathS (h.1 p 1) (h.1 p 3) (h.1 p 4) wd S, h) := by
  intro f
  induction f with
  | zero => intro i h1 h2; omega
  | succ f ih =>
    intro i h1 h2
    rw [X2_path_l5.eq_2]
    by_cases c : i = S
    · subst c
      rw [if_pos (Int32.le_refl _)]
    · rw [if_neg (nI_ge (by omega) hS), s_strC hk, bd_s, vl_e, vl_e, nI_1]
      exact ih (i + 1) (by omega) (by omega)
theorem s_path {p : Nat} {h : AH} (hk : JK h p) {S : Nat} (hS : S < 4000) (wd : Int32) : X2_path p (nI S) wd h = some (pathS (h.1 p 1) (h.1 p 3) (h.1 p 4) wd S, h) :=
  s_pathC hk (by omega) wd FU 0 (by unfold FU; omega) (by omega)
/-! the reference's -/
theorem s_al0 (x : Int32) (h : AH) : X11_atLeast0 x h = some (clp x, h) := by
  unfold X11_atLeast0
  rw [clp_if]
theorem s_lenR {j : Nat} (hj : j < 4) (b l : Int32) (h : AH) : X11_lengthOf (nI j) b l h = some (lenS (h.1 2 j) (h.1 3 j) (h.1 7 j) (h.1 0 14) b l, h) := by
  unfold X11_lengthOf
  rw [ck_nI _ hj (by decide), ck_nI _ hj (by decide), nI_clamp (by omega), s_al0, bd_s, s_al0, bd_s, ck_nI _ hj (by decide), vl_e, s_al0, bd_s]
  unfold lenS lenP
  repeat (first | rfl | split)
theorem s_aimR {j : Nat} (hj : j < 4) (h : AH) : X11_aimOf (nI j) h = some (aimS (h.1 2 j) (h.1 3 j), h) := by
  unfold X11_aimOf
  rw [ck_nI _ hj (by decide), nI_clamp (by omega), vl_e, ck_nI _ hj (by decide), vl_e]
  unfold aimS
  repeat (first | rfl | split)
theorem s_strR {j : Nat} (hj : j < 4) (k wd : Int32) (h : AH) : X11_strideIn (nI j) k wd h = some (strS (h.1 2 j) (h.1 4 j) (h.1 5 j) wd k, h) := by
  unfold X11_strideIn
  rw [ck_nI _ hj (by decide), ck_nI _ hj (by decide), nI_clamp (by omega), vl_e, ck_nI _ hj (by decide), vl_e, ck_nI _ hj (by decide), ck_nI _ hj (by decide)]
  unfold strS
  repeat (first | rfl | split)
theorem s_pathRL {j : Nat} (hj : j < 4) {h : AH} {S : Nat} (hS : S < 2 ^ 31) (e : h.1 0 12 = nI S) (wd : Int32) : ∀ (f i : Nat), S < i + f → i ≤ S → X11_allStrides_l5 (nI j) wd f (pathS (h.1 2 j) (h.1 4 j) (h.1 5 j) wd i) (nI i) h = some (pathS (h.1 2 j) (h.1 4 j) (h.1 5 j) wd S, h) := by
  intro f
  induction f with
  | zero => intro i h1 h2; omega
  | succ f ih =>
    intro i h1 h2
    rw [X11_allStrides_l5.eq_2, e]
    by_cases c : i = S
    · subst c
      rw [if_pos (Int32.le_refl _)]
    · rw [if_neg (nI_ge (by omega) hS), s_strR hj, bd_s, vl_e, vl_e, nI_1]
      exact ih (i + 1) (by omega) (by omega)
theorem s_pathR {j : Nat} (hj : j < 4) {h : AH} {S : Nat} (hS : S < 4000) (e : h.1 0 12 = nI S) (wd : Int32) : X11_allStrides (nI j) wd h = some (pathS (h.1 2 j) (h.1 4 j) (h.1 5 j) wd S, h) :=
  s_pathRL hj (by omega) e wd FU 0 (by unfold FU; omega) (by omega)
theorem s_placeR {j : Nat} (hj : j < 4) {h : AH} {S : Nat} (hS : S < 4000) (e : h.1 0 12 = nI S) : X11_placeOf (nI j) h = some (h.1 9 j - pathS (h.1 2 j) (h.1 4 j) (h.1 5 j) (h.1 0 14) S, h) := by
  unfold X11_placeOf
  rw [ck_nI _ hj (by decide), s_pathR hj hS e, bd_s, nI_clamp (by omega)]
/-! the class's, by number -/
theorem zc_j {o j : Nat} (ho : o = 42 ∨ o = 52 ∨ o = 62) (hj : j < 4) : ZC.1[o + 6 + j]? = some (.inr 2) := by
  rcases ho with e | e | e <;> subst e
  · match j, hj with
    | 0, _ => exact sC_48
    | 1, _ => exact sC_49
    | 2, _ => exact sC_50
    | 3, _ => exact sC_51
  · match j, hj with
    | 0, _ => exact sC_58
    | 1, _ => exact sC_59
    | 2, _ => exact sC_60
    | 3, _ => exact sC_61
  · match j, hj with
    | 0, _ => exact sC_68
    | 1, _ => exact sC_69
    | 2, _ => exact sC_70
    | 3, _ => exact sC_71
theorem s_at (o : Nat) {j : Nat} (hj : j < 4) (h : AH) : X5_at o (nI j) h = some (o + 6 + j, h) := by
  unfold X5_at
  rw [if_neg (nI_pos (by omega)), if_pos (show nI j < 4 from nI_lt (b := 4) hj (by decide)), ck_nI _ hj (by decide), nI_clamp (by omega), Nat.mod_eq_of_lt hj]
theorem s_placeC {j : Nat} (hj : j < 4) {h : AH} (hk : JK h (48 + j)) {S : Nat} (hS : S < 4000) (e : h.1 42 0 = nI S) : X10_placeOf (nI j) h = some (h.1 (48 + j) 8 - pathS (h.1 (48 + j) 1) (h.1 (48 + j) 3) (h.1 (48 + j) 4) (h.1 42 1) S, h) := by
  unfold X10_placeOf
  rw [s_at 42 hj, bd_s, cs_in _ (zc_j (Or.inl rfl) hj), e, s_path hk hS, bd_s]
/-! bounds -/
/-- a wind -/
def WW (w : Int32) : Prop := ∃ p : Nat, p < 19 ∧ w = nI p - 9
theorem ww_toInt {w : Int32} (h : WW w) : -9 ≤ w.toInt ∧ w.toInt ≤ 9 := by
  obtain ⟨p, hp, rfl⟩ := h
  have : (nI p - 9).toInt = (p : Int) - 9 := pk_sub_toInt (a := p) (b := 9) (by omega) (by decide)
  omega
theorem ww_of {w : Int32} (h1 : -9 ≤ w.toInt) (h2 : w.toInt ≤ 9) : WW w := by
  refine ⟨(w.toInt + 9).toNat, by omega, ?_⟩
  have e : (nI (w.toInt + 9).toNat - 9).toInt = ((w.toInt + 9).toNat : Int) - 9 := pk_sub_toInt (a := (w.toInt + 9).toNat) (b := 9) (by omega) (by decide)
  rw [fa_eq, e]
  omega
theorem wk_tab : ∀ p : Nat, p < 19 → ∀ k : Nat, k < 20 → -17 ≤ (((nI p - 9) * nI k) / 10).toInt ∧ (((nI p - 9) * nI k) / 10).toInt ≤ 17 := by decide +kernel
theorem wk_b {w : Int32} (h : WW w) {k : Nat} (hk : k < 20) : -17 ≤ ((w * nI k) / 10).toInt ∧ ((w * nI k) / 10).toInt ≤ 17 := by
  obtain ⟨p, hp, rfl⟩ := h
  exact wk_tab p hp k hk
theorem toInt_nI {n : Nat} (h : n < 2 ^ 31) : (nI n).toInt = (n : Int) := nI_toInt h
theorem gk_e {g k : Nat} (hg : g ≤ 9) (hk : k < 20) : ((nI g * nI k) / 10) = nI (g * k / 10) := by
  have h1 : g * k ≤ 9 * 19 := Nat.mul_le_mul hg (by omega)
  rw [pk_mul]
  exact pk_div (by omega) (by decide) (by decide)
theorem gk_b {g k : Nat} (hg : g ≤ 9) (hk : k < 20) : g * k / 10 ≤ 17 := by
  have h1 : g * k ≤ 9 * 19 := Nat.mul_le_mul hg (by omega)
  omega
theorem str_b {kd st gr wd : Int32} {a g k : Nat} (ha : a ≤ 99) (hg : g ≤ 9) (es : st = nI a) (eg : gr = nI g) (hw : WW wd) (hk : k < 20) : -40 ≤ (strS kd st gr wd (nI k)).toInt ∧ (strS kd st gr wd (nI k)).toInt ≤ 160 := by
  subst es
  subst eg
  have h1 := wk_b hw hk
  have h2 := gk_b hg hk
  have e2 : rm32 (nI k) 2 = nI (k % 2) := pk_rem (a := k) (d := 2) (by omega) (by decide) (by decide)
  have t0 : (nI a + nI (g * k / 10)).toInt = (a : Int) + (g * k / 10 : Nat) := by
    rw [nI_add, nI_toInt (by omega)]
    omega
  have t1 : (nI a + nI (g * k / 10) + (wd * nI k) / 10).toInt = (a : Int) + (g * k / 10 : Nat) + ((wd * nI k) / 10).toInt := by
    rw [fb_addI (by omega) (by omega), t0]
  have t2 : (nI a + nI (g * k / 10) + (wd * nI k) / 10 + nI (k % 2)).toInt = (a : Int) + (g * k / 10 : Nat) + ((wd * nI k) / 10).toInt + (k % 2 : Nat) := by
    rw [fb_addI (by rw [t1, nI_toInt (by omega)]; omega) (by rw [t1, nI_toInt (by omega)]; omega), t1, nI_toInt (by omega)]
  have t3 : (nI a + nI (g * k / 10) + (wd * nI k) / 10 + nI (k % 2) + (wd * nI k) / 10).toInt = (a : Int) + (g * k / 10 : Nat) + ((wd * nI k) / 10).toInt + (k % 2 : Nat) + ((wd * nI k) / 10).toInt := by
    rw [fb_addI (by omega) (by omega), t2]
  unfold strS
  rw [gk_e hg hk, e2]
  split
  · omega
  · split
    · omega
    · split
      · omega
      · omega
theorem path_b {kd st gr wd : Int32} {a g : Nat} (ha : a ≤ 99) (hg : g ≤ 9) (es : st = nI a) (eg : gr = nI g) (hw : WW wd) : ∀ S : Nat, S ≤ 20 → -40 * (S : Int) ≤ (pathS kd st gr wd S).toInt ∧ (pathS kd st gr wd S).toInt ≤ 160 * (S : Int) := by
  intro S
  induction S with
  | zero => intro _; exact ⟨Int.le_refl 0, Int.le_refl 0⟩
  | succ S ih =>
    intro hS
    have h1 := ih (by omega)
    have h2 := str_b (kd := kd) (k := S) ha hg es eg hw (by omega)
    have e : (pathS kd st gr wd (S + 1)).toInt = (pathS kd st gr wd S).toInt + (strS kd st gr wd (nI S)).toInt := by
      show (pathS kd st gr wd S + strS kd st gr wd (nI S)).toInt = _
      rw [fb_addI (by omega) (by omega)]
    rw [e]
    omega
theorem clp_b (x : Int32) : 0 ≤ (clp x).toInt ∧ (clp x).toInt = max 0 x.toInt := by
  unfold clp
  split
  next h => rw [fa_le] at h; have e : (0 : Int32).toInt = 0 := rfl; omega
  next h => rw [fa_le] at h; have e : (0 : Int32).toInt = 0 := rfl; omega
theorem len_b {kd fg pc wd b l : Int32} {f p : Nat} (hf : f ≤ 9) (hp : p ≤ 99) (ef : fg = nI f) (ep : pc = nI p) (hw : WW wd) (hb : 0 ≤ b.toInt) (hb2 : b.toInt ≤ 100000) (hl : 0 ≤ l.toInt) (hl2 : l.toInt ≤ 100000) : 0 ≤ (lenS kd fg pc wd b l).toInt ∧ (lenS kd fg pc wd b l).toInt ≤ 435 := by
  subst ef
  subst ep
  have h1 := ww_toInt hw
  have e4 : (4 * nI p).toInt = 4 * (p : Int) := by
    show (nI 4 * nI p).toInt = _
    rw [pk_mul, nI_toInt (by omega)]
    omega
  have e2 : (2 : Int32).toInt = 2 := rfl
  have ew : (2 * wd).toInt = 2 * wd.toInt := by rw [fb_mulI (by rw [e2]; omega) (by rw [e2]; omega), e2]
  have el : (2 * l).toInt = 2 * l.toInt := by rw [fb_mulI (by rw [e2]; omega) (by rw [e2]; omega), e2]
  have t1 : (4 * nI p + 2 * wd).toInt = 4 * (p : Int) + 2 * wd.toInt := by rw [fb_addI (by omega) (by omega), e4, ew]
  have t2 : (4 * nI p + 2 * wd + nI f).toInt = 4 * (p : Int) + 2 * wd.toInt + f := by rw [fb_addI (by rw [t1, nI_toInt (by omega)]; omega) (by rw [t1, nI_toInt (by omega)]; omega), t1, nI_toInt (by omega)]
  have t3 : (4 * nI p + 2 * wd + nI f - b).toInt = 4 * (p : Int) + 2 * wd.toInt + f - b.toInt := by rw [fb_subI (by omega) (by omega), t2]
  have t4 : (4 * nI p + 2 * wd + nI f - b - 2 * l).toInt = 4 * (p : Int) + 2 * wd.toInt + f - b.toInt - 2 * l.toInt := by rw [fb_subI (by omega) (by omega), t3, el]
  have c1 := clp_b (4 * nI p + 2 * wd + nI f - b - 2 * l)
  have e0 : (lenP (nI f) (nI p) wd b l).toInt = max 0 (4 * (p : Int) + 2 * wd.toInt + f - b.toInt - 2 * l.toInt) := by
    unfold lenP
    rw [c1.2, t4]
  have e3 : (3 : Int32).toInt = 3 := rfl
  have e1 : (1 : Int32).toInt = 1 := rfl
  have s1 : (lenP (nI f) (nI p) wd b l - 3).toInt = (lenP (nI f) (nI p) wd b l).toInt - 3 := by rw [fb_subI (by rw [e3]; omega) (by rw [e3]; omega), e3]
  have c2 := clp_b (lenP (nI f) (nI p) wd b l - 3)
  have s2 : (lenP (nI f) (nI p) wd b l + 3).toInt = (lenP (nI f) (nI p) wd b l).toInt + 3 := by rw [fb_addI (by rw [e3]; omega) (by rw [e3]; omega), e3]
  have s3 : (lenP (nI f) (nI p) wd b l + 3 + wd).toInt = (lenP (nI f) (nI p) wd b l).toInt + 3 + wd.toInt := by rw [fb_addI (by omega) (by omega), s2]
  have c3 := clp_b (lenP (nI f) (nI p) wd b l + 3 + wd)
  have s4 : (clp (lenP (nI f) (nI p) wd b l - 3) + 1).toInt = (clp (lenP (nI f) (nI p) wd b l - 3)).toInt + 1 := by rw [fb_addI (by rw [e1]; omega) (by rw [e1]; omega), e1]
  unfold lenS
  split
  · omega
  · split
    · omega
    · split
      · omega
      · split
        · omega
        · split
          · omega
          · omega
theorem aim_b {kd fg : Int32} {f : Nat} (hf : f ≤ 9) (ef : fg = nI f) : 0 ≤ (aimS kd fg).toInt ∧ (aimS kd fg).toInt ≤ 11 := by
  subst ef
  have e1 : (nI f + 2) = nI (f + 2) := nI_add f 2
  have e2 : nI (f + 2) / 2 = nI ((f + 2) / 2) := pk_div (a := f + 2) (d := 2) (by omega) (by decide) (by decide)
  have e3 : nI ((f + 2) / 2) + 1 = nI ((f + 2) / 2 + 1) := nI_1 _
  have t1 := nI_toInt (n := f + 2) (by omega)
  have t2 := nI_toInt (n := (f + 2) / 2) (by omega)
  have t3 := nI_toInt (n := (f + 2) / 2 + 1) (by omega)
  unfold aimS
  rw [e1, e2, e3]
  split
  · rw [t1]; omega
  · split
    · exact ⟨by decide, by decide⟩
    · split
      · rw [t2]; omega
      · split
        · exact ⟨by decide, by decide⟩
        · split
          · rw [t3]; omega
          · exact ⟨by decide, by decide⟩
end
section
/-! SUMS; the ways of n strides -/
def sm : Nat → (Nat → Int64) → Int64
  | 0, _ => 0
  | n + 1, f => sm n f + f n
theorem sm_c {n : Nat} {f g : Nat → Int64} (h : ∀ i, i < n → f i = g i) : sm n f = sm n g := by
  induction n with
  | zero => rfl
  | succ n ih =>
    show sm n f + f n = sm n g + g n
    rw [ih (fun i hi => h i (by omega)), h n (by omega)]
theorem sm_z {n : Nat} {f : Nat → Int64} (h : ∀ i, i < n → f i = 0) : sm n f = 0 := by
  induction n with
  | zero => rfl
  | succ n ih =>
    show sm n f + f n = 0
    rw [ih (fun i hi => h i (by omega)), h n (by omega), Int64.add_zero]
theorem sm_app (m n : Nat) (f : Nat → Int64) : sm (m + n) f = sm m f + sm n (fun i => f (m + i)) := by
  induction n with
  | zero => exact (Int64.add_zero _).symm
  | succ n ih =>
    show sm (m + n) f + f (m + n) = sm m f + (sm n (fun i => f (m + i)) + f (m + n))
    rw [ih, Int64.add_assoc]
theorem sm_mul (n : Nat) (a : Int64) (f : Nat → Int64) : sm n (fun i => a * f i) = a * sm n f := by
  induction n with
  | zero => exact Int64.mul_zero.symm
  | succ n ih =>
    show sm n (fun i => a * f i) + a * f n = a * (sm n f + f n)
    rw [ih, Int64.mul_add]
theorem sm_plus (n : Nat) (f g : Nat → Int64) : sm n (fun i => f i + g i) = sm n f + sm n g := by
  induction n with
  | zero => rfl
  | succ n ih =>
    show sm n (fun i => f i + g i) + (f n + g n) = (sm n f + f n) + (sm n g + g n)
    rw [ih, Int64.add_assoc, Int64.add_assoc, ← Int64.add_assoc (sm n g), Int64.add_comm (sm n g) (f n), Int64.add_assoc]
/-- one place set -/
theorem sm_upd {n a : Nat} (ha : a < n) (f g : Nat → Int64) (x : Int64) (h1 : g a = f a + x) (h2 : ∀ i, i ≠ a → g i = f i) : sm n g = sm n f + x := by
  induction n with
  | zero => omega
  | succ n ih =>
    show sm n g + g n = sm n f + f n + x
    by_cases c : a = n
    · subst c
      rw [h1, sm_c (f := g) (g := f) (fun i hi => h2 i (by omega)), Int64.add_assoc]
    · rw [ih (by omega), h2 n (by omega), Int64.add_assoc, Int64.add_assoc, Int64.add_comm x]
/-- a window of ways -/
theorem sm_win {e : Nat} (he : e ≤ 20) (f : Nat → Int64) (hf : ∀ k, k < 41 → (k + e < 20 ∨ 20 + e < k) → f k = 0) : sm 41 f = sm (2 * e + 1) (fun i => f (20 - e + i)) := by
  have e1 : 41 = (20 - e) + ((2 * e + 1) + (20 - e)) := by omega
  rw [e1, sm_app, sm_app, sm_z (n := 20 - e) (f := f) (fun i hi => hf i (by omega) (by omega)), Int64.zero_add, sm_z (n := 20 - e) (f := fun i => f (20 - e + (2 * e + 1 + i))) (fun i hi => hf _ (by omega) (by omega)), Int64.add_zero]
/-- the ways behind i steps of the reference -/
def ca (i k : Nat) : Nat := if 20 ≤ k + i / 2 then cb i (k + i / 2 - 20) else 0
theorem ca_even {i k : Nat} (h : i % 2 = 0) (hi : i < 40) : ca (i + 1) k = ca i k + (if 1 ≤ k then ca i (k - 1) else 0) := by
  have e : (i + 1) / 2 = i / 2 := by omega
  unfold ca
  rw [e]
  by_cases c : 20 ≤ k + i / 2
  · rw [if_pos c, if_pos c, cb_s, if_pos (by omega)]
    congr 1
    unfold cbp
    by_cases d : 20 ≤ k - 1 + i / 2
    · rw [if_pos (by omega), if_pos d]
      congr 1
      omega
    · rw [if_neg (by omega), if_neg d]
  · rw [if_neg c, if_neg c]
    by_cases d : 1 ≤ k
    · rw [if_pos d, if_neg (by omega)]
    · rw [if_neg d]
theorem ca_odd {i k : Nat} (h : i % 2 = 1) (hi : i < 40) (hk : k < 41) : ca (i + 1) k = ca i k + (if k + 1 < 41 then ca i (k + 1) else 0) := by
  have e : (i + 1) / 2 = i / 2 + 1 := by omega
  have e40 : ¬ k + 1 < 41 → cb i (k + 1 + i / 2 - 20) = 0 := fun d => cb_big i _ (by omega)
  unfold ca
  rw [e]
  by_cases c : 20 ≤ k + (i / 2 + 1)
  · rw [if_pos c, cb_s]
    have e2 : (if k + 1 < 41 then if 20 ≤ k + 1 + i / 2 then cb i (k + 1 + i / 2 - 20) else 0 else 0) = cb i (k + (i / 2 + 1) - 20) := by
      by_cases d : k + 1 < 41
      · rw [if_pos d, if_pos (by omega)]
        congr 1
        omega
      · rw [if_neg d, show k + (i / 2 + 1) - 20 = k + 1 + i / 2 - 20 from by omega, e40 d]
    rw [e2, Nat.add_comm]
    congr 1
    unfold cbp
    by_cases d : 20 ≤ k + i / 2
    · rw [if_pos (by omega), if_pos d]
      congr 1
      all_goals omega
    · rw [if_neg (by omega), if_neg d]
  · rw [if_neg c, if_neg (by omega)]
    by_cases d : k + 1 < 41
    · rw [if_pos d, if_neg (by omega)]
    · rw [if_neg d]
section FW
variable {p : Nat}
/-- only the row p of longs is new -/
def LO (p : Nat) (h h' : AH) : Prop := h'.1 = h.1 ∧ h'.2.2 = h.2.2 ∧ ∀ o, o ≠ p → h'.2.1 o = h.2.1 o
theorem LO.rf {h : AH} : LO p h h := ⟨rfl, rfl, fun _ _ => rfl⟩
theorem LO.tr {h h' h2 : AH} (a : LO p h h') (b : LO p h' h2) : LO p h h2 := ⟨b.1.trans a.1, b.2.1.trans a.2.1, fun o ho => (b.2.2 o ho).trans (a.2.2 o ho)⟩
theorem LO.set (h : AH) (k : Nat) (v : Int64) : LO p h (sL h p k v) := ⟨rfl, rfl, fun o ho => funext fun j => by rw [sL_at, if_neg (fun z => ho z.1)]⟩
theorem fw_even {O N : Nat → Int64} (hN : ∀ k, k < 41 → N k = O k + (if 1 ≤ k then O (k - 1) else 0)) (v1 : Int32) (i : Nat) (K : Int32 → AH → Option (Unit × AH)) : ∀ (f q : Nat) (h : AH), 41 < q + f → q ≤ 41 → (∀ k, k < 41 → h.2.1 p k = if 41 - q ≤ k then N k else O k) →
    ∃ h', X11_findWays_l52 p 41 v1 (nI i) 1 K f (nI q) h = K (nI (i + 1)) h' ∧ LO p h h' ∧ ∀ k, k < 41 → h'.2.1 p k = N k := by
  intro f
  induction f with
  | zero => intro q h h1 h2; omega
  | succ f ih =>
    intro q h h1 h2 hA
    rw [X11_findWays_l52.eq_2]
    by_cases c : q = 41
    · subst c
      rw [if_pos (show Int32.ofNat 41 ≤ nI 41 from Int32.le_refl _), vl_e, nI_1]
      exact ⟨h, rfl, LO.rf, fun k hk => by rw [hA k hk, if_pos (by omega)]⟩
    · rw [if_neg (show ¬ Int32.ofNat 41 ≤ nI q from nI_ge (b := 41) (by omega) (by decide)), if_neg (by decide)]
      have e1 : Int32.ofNat 41 - 1 - nI q = nI (40 - q) := pk_sub (a := 40) (b := q) (by omega)
      rw [e1]
      unfold X11_findWays_j75 X11_findWays_j106
      rw [vl_e, vl_e, vl_e, nI_1]
      by_cases d : q = 40
      · subst d
        rw [if_pos (by decide)]
        exact ih 41 h (by omega) (by omega) (fun k hk => by
          rw [hA k hk]
          by_cases z : k = 0
          · subst z
            rw [if_neg (by omega), if_pos (by omega), hN 0 (by omega), if_neg (by omega), Int64.add_zero]
          · rw [if_pos (by omega), if_pos (by omega)])
      · have e2 : nI (40 - q) - 1 = nI (39 - q) := by
          rw [show 40 - q = (39 - q) + 1 from by omega]
          exact nI_pred _
        rw [e2, if_neg (nI_pos (by omega)), if_neg (show ¬ Int32.ofNat 41 ≤ nI (39 - q) from nI_ge (b := 41) (by omega) (by decide)), ck_nI _ (by omega) (by decide), ck_nI _ (by omega) (by decide), ck_nI _ (by omega) (by decide), vl_e, nI_clamp (by omega), nI_clamp (by omega)]
        obtain ⟨h', a1, a2, a3⟩ := ih (q + 1) (sL h p (40 - q) (h.2.1 p (40 - q) + h.2.1 p (39 - q))) (by omega) (by omega) (fun k hk => by
          rw [sL_at]
          by_cases z : k = 40 - q
          · subst z
            rw [if_pos ⟨rfl, rfl⟩, hA _ hk, hA _ (by omega), if_neg (by omega), if_neg (by omega), if_pos (by omega), hN _ hk, if_pos (by omega), show 40 - q - 1 = 39 - q from by omega]
          · rw [if_neg (fun w => z w.2), hA k hk]
            by_cases y : 41 - q ≤ k
            · rw [if_pos y, if_pos (by omega)]
            · rw [if_neg y, if_neg (by omega)])
        exact ⟨h', a1, (LO.set h _ _).tr a2, a3⟩
theorem fw_odd {O N : Nat → Int64} (hN : ∀ k, k < 41 → N k = O k + (if k + 1 < 41 then O (k + 1) else 0)) (v1 : Int32) (i : Nat) (K : Int32 → AH → Option (Unit × AH)) : ∀ (f q : Nat) (h : AH), 41 < q + f → q ≤ 41 → (∀ k, k < 41 → h.2.1 p k = if k < q then N k else O k) →
    ∃ h', X11_findWays_l52 p 41 v1 (nI i) (-1) K f (nI q) h = K (nI (i + 1)) h' ∧ LO p h h' ∧ ∀ k, k < 41 → h'.2.1 p k = N k := by
  intro f
  induction f with
  | zero => intro q h h1 h2; omega
  | succ f ih =>
    intro q h h1 h2 hA
    rw [X11_findWays_l52.eq_2]
    by_cases c : q = 41
    · subst c
      rw [if_pos (show Int32.ofNat 41 ≤ nI 41 from Int32.le_refl _), vl_e, nI_1]
      exact ⟨h, rfl, LO.rf, fun k hk => by rw [hA k hk, if_pos (by omega)]⟩
    · rw [if_neg (show ¬ Int32.ofNat 41 ≤ nI q from nI_ge (b := 41) (by omega) (by decide)), if_pos (by decide)]
      unfold X11_findWays_j75 X11_findWays_j106
      have e1 : nI q - (-1) = nI (q + 1) := by
        rw [Int32.sub_eq_add_neg]
        exact nI_1 q
      rw [vl_e, e1, vl_e, vl_e, nI_1, if_neg (nI_pos (by omega))]
      by_cases d : q = 40
      · subst d
        rw [if_pos (show Int32.ofNat 41 ≤ nI (40 + 1) from Int32.le_refl _)]
        exact ih 41 h (by omega) (by omega) (fun k hk => by
          rw [hA k hk, if_pos hk]
          by_cases z : k = 40
          · subst z
            rw [if_neg (by omega), hN 40 (by omega), if_neg (by omega), Int64.add_zero]
          · rw [if_pos (by omega)])
      · rw [if_neg (show ¬ Int32.ofNat 41 ≤ nI (q + 1) from nI_ge (b := 41) (by omega) (by decide)), ck_nI _ (by omega) (by decide), ck_nI _ (by omega) (by decide), ck_nI _ (by omega) (by decide), vl_e, nI_clamp (by omega), nI_clamp (by omega)]
        obtain ⟨h', a1, a2, a3⟩ := ih (q + 1) (sL h p q (h.2.1 p q + h.2.1 p (q + 1))) (by omega) (by omega) (fun k hk => by
          rw [sL_at]
          by_cases z : k = q
          · subst z
            rw [if_pos ⟨rfl, rfl⟩, hA _ hk, hA _ (by omega), if_neg (by omega), if_neg (by omega), if_pos (by omega), hN _ hk, if_pos (by omega)]
          · rw [if_neg (fun w => z w.2), hA k hk]
            by_cases y : k < q
            · rw [if_pos y, if_pos (by omega)]
            · rw [if_neg y, if_neg (by omega)])
        exact ⟨h', a1, (LO.set h _ _).tr a2, a3⟩
theorem fw_steps {n : Nat} (hn : n ≤ 20) : ∀ (f i : Nat) (h : AH), 2 * n < i + f → i ≤ 2 * n → (∀ k, k < 41 → h.2.1 p k = lN (ca i k)) → ∃ h', X11_findWays_l30 p 41 (nI n) f (nI i) h = some ((), h') ∧ LO p h h' ∧ ∀ k, k < 41 → h'.2.1 p k = lN (ca (2 * n) k) := by
  intro f
  induction f with
  | zero => intro i h h1 h2; omega
  | succ f ih =>
    intro i h h1 h2 hA
    have e2 : (2 : Int32) * nI n = nI (2 * n) := pk_mul 2 n
    rw [X11_findWays_l30.eq_2, e2]
    by_cases c : i = 2 * n
    · subst c
      rw [if_pos (Int32.le_refl _)]
      exact ⟨h, rfl, LO.rf, hA⟩
    · have er : rm32 (nI i) 2 = nI (i % 2) := pk_rem (a := i) (d := 2) (by omega) (by decide) (by decide)
      rw [if_neg (nI_ge (by omega) (by omega)), er]
      unfold X11_findWays_j48
      by_cases d : i % 2 = 0
      · rw [d, if_pos (by rfl)]
        obtain ⟨g, a1, a2, a3⟩ := fw_even (p := p) (O := fun k => lN (ca i k)) (N := fun k => lN (ca (i + 1) k)) (fun k hk => by
          show lN (ca (i + 1) k) = lN (ca i k) + _
          rw [ca_even d (by omega)]
          by_cases z : 1 ≤ k
          · rw [if_pos z, if_pos z, lN_add]
          · rw [if_neg z, if_neg z, Int64.add_zero]; rfl) (nI n) i (X11_findWays_l30 p 41 (nI n) f) FU 0 h (by unfold FU; omega) (by omega) (fun k hk => by rw [hA k hk, if_neg (by omega)])
        have a1 : X11_findWays_l52 p 41 (nI n) (nI i) 1 (X11_findWays_l30 p 41 (nI n) f) FU 0 h = X11_findWays_l30 p 41 (nI n) f (nI (i + 1)) g := a1
        rw [a1]
        obtain ⟨h', b1, b2, b3⟩ := ih (i + 1) g (by omega) (by omega) a3
        exact ⟨h', b1, a2.tr b2, b3⟩
      · have d1 : i % 2 = 1 := by omega
        rw [d1, if_neg (by decide)]
        obtain ⟨g, a1, a2, a3⟩ := fw_odd (p := p) (O := fun k => lN (ca i k)) (N := fun k => lN (ca (i + 1) k)) (fun k hk => by
          show lN (ca (i + 1) k) = lN (ca i k) + _
          rw [ca_odd d1 (by omega) hk]
          by_cases z : k + 1 < 41
          · rw [if_pos z, if_pos z, lN_add]
          · rw [if_neg z, if_neg z, Int64.add_zero]; rfl) (nI n) i (X11_findWays_l30 p 41 (nI n) f) FU 0 h (by unfold FU; omega) (by omega) (fun k hk => by rw [hA k hk, if_neg (by omega)])
        have a1 : X11_findWays_l52 p 41 (nI n) (nI i) (-1) (X11_findWays_l30 p 41 (nI n) f) FU 0 h = X11_findWays_l30 p 41 (nI n) f (nI (i + 1)) g := a1
        rw [a1]
        obtain ⟨h', b1, b2, b3⟩ := ih (i + 1) g (by omega) (by omega) a3
        exact ⟨h', b1, a2.tr b2, b3⟩
theorem fw_init {n : Nat} (hn : n ≤ 20) : ∀ (f i : Nat) (h : AH), 41 < i + f → i ≤ 41 → (∀ k, k < i → h.2.1 p k = lN (ca 0 k)) → ∃ h', X11_findWays_l2 p 41 (nI n) f (nI i) h = some ((), h') ∧ LO p h h' ∧ ∀ k, k < 41 → h'.2.1 p k = lN (ca (2 * n) k) := by
  intro f
  induction f with
  | zero => intro i h h1 h2; omega
  | succ f ih =>
    intro i h h1 h2 hA
    rw [X11_findWays_l2.eq_2]
    by_cases c : i = 41
    · subst c
      rw [if_pos (show Int32.ofNat 41 ≤ nI 41 from Int32.le_refl _)]
      exact fw_steps hn FU 0 h (by unfold FU; omega) (by omega) hA
    · rw [if_neg (show ¬ Int32.ofNat 41 ≤ nI i from nI_ge (b := 41) (by omega) (by decide))]
      unfold X11_findWays_j21
      have key : ∀ v : Int64, v = lN (ca 0 i) → ∃ h', ck (nI i) 41 (vl (sL h p (nI i).toNatClampNeg v) fun h5 => vl (nI i + 1) fun x6 => X11_findWays_l2 p 41 (nI n) f x6 h5) = some ((), h') ∧ LO p h h' ∧ ∀ k, k < 41 → h'.2.1 p k = lN (ca (2 * n) k) := by
        intro v hv
        rw [ck_nI _ (by omega) (by decide), vl_e, vl_e, nI_1, nI_clamp (by omega)]
        obtain ⟨h', b1, b2, b3⟩ := ih (i + 1) (sL h p i v) (by omega) (by omega) (fun k hk => by
          rw [sL_at]
          by_cases z : k = i
          · subst z
            rw [if_pos ⟨rfl, rfl⟩, hv]
          · rw [if_neg (fun w => z w.2), hA k (by omega)])
        exact ⟨h', b1, (LO.set h _ _).tr b2, b3⟩
      by_cases d : i = 20
      · subst d
        rw [if_pos (by decide)]
        exact key 1 rfl
      · rw [if_neg (show ¬ nI i = 20 from fun z => d ((nI_eq (a := i) (b := 20) (by omega) (by decide)).mp z))]
        refine key 0 ?_
        unfold ca
        by_cases y : 20 ≤ i + 0 / 2
        · rw [if_pos y]
          show 0 = lN (if i + 0 / 2 - 20 = 0 then 1 else 0)
          rw [if_neg (by omega)]
          rfl
        · rw [if_neg y]
          rfl
/-- the ways of n strides, from 20 less on -/
def wy (n k : Nat) : Nat := if 20 ≤ k + n then cb (2 * n) (k + n - 20) else 0
theorem s_findWays {n : Nat} (hn : n ≤ 20) (h : AH) : ∃ h', X11_findWays p 41 (nI n) h = some ((), h') ∧ LO p h h' ∧ ∀ k, k < 41 → h'.2.1 p k = lN (wy n k) := by
  obtain ⟨h', a1, a2, a3⟩ := fw_init (p := p) hn FU 0 h (by unfold FU; omega) (by omega) (fun k hk => by omega)
  refine ⟨h', a1, a2, fun k hk => ?_⟩
  rw [a3 k hk]
  unfold ca wy
  rw [show 2 * n / 2 = n from by omega]
end FW
theorem wy_out {n k : Nat} (h : k + n < 20 ∨ 20 + n < k) : wy n k = 0 := by
  unfold wy
  by_cases c : 20 ≤ k + n
  · rw [if_pos c, cb_big _ _ (by omega)]
  · rw [if_neg c]
theorem wy_in {n i : Nat} (hn : n ≤ 20) : wy n (20 - n + i) = cb (2 * n) i := by
  unfold wy
  rw [if_pos (by omega)]
  congr 1
  omega
end
section
/-! ALL SLIPS: what one run gives, and the sums over all -/
def bh0S (pl sl : Int32) (e i : Nat) : Int32 := pl - sl * (nI i - nI e)
def bkS (aim : Int32) (l : Nat) (b0 : Int32) : Int32 := if l = 0 then 0 else (b0 - aim) / 2
def lsS (pl sl aim : Int32) (e l i : Nat) : Int32 := ab32 (bkS aim l (bh0S pl sl e i)) / 4
def bhS (pl sl aim : Int32) (e l i t : Nat) : Int32 := (bh0S pl sl e i - bkS aim l (bh0S pl sl e i)) - sl * (nI t - nI l)
def lnS (kd fg sl pc wd pl aim : Int32) (e l i t : Nat) : Int32 := if 0 ≤ bhS pl sl aim e l i t then lenS kd fg pc wd (bhS pl sl aim e l i t) (lsS pl sl aim e l i) else 0
/-- the sum over all slips of what φ says of take-off and LENGTH -/
def RS (kd fg sl pc wd pl aim : Int32) (e l : Nat) (φ : Int32 → Int32 → Int64) : Int64 :=
  sm (2 * e + 1) (fun i => sm (2 * l + 1) (fun t => (lN (cb (2 * e) i) * lN (cb (2 * l) t)) * φ (bhS pl sl aim e l i t) (lnS kd fg sl pc wd pl aim e l i t)))
theorem sg_add (t l : Nat) : nI l + (nI t - nI l) = nI t := by
  rw [Int32.add_comm, Int32.sub_add_cancel]
theorem sg_next (t l : Nat) : (nI t - nI l) + 1 = nI (t + 1) - nI l := by
  rw [Int32.sub_eq_add_neg, Int32.add_assoc, Int32.add_comm (-nI l) 1, ← Int32.add_assoc, nI_1, Int32.sub_eq_add_neg]
theorem sg_0 (l : Nat) : -(nI l) = nI 0 - nI l := (Int32.zero_sub _).symm
theorem sg_lt {t l : Nat} (ht : t < 2 ^ 30) (hl : l < 2 ^ 30) : nI l < nI t - nI l ↔ 2 * l < t := by
  rw [fa_lt, pk_sub_toInt ht hl, nI_toInt (by omega)]
  omega
/-! bounds -/
theorem sl_b {s i e : Nat} (hs : s ≤ 6) (hi : i ≤ 40) (he : e ≤ 20) (hie : i ≤ 2 * e) : -120 ≤ (nI s * (nI i - nI e)).toInt ∧ (nI s * (nI i - nI e)).toInt ≤ 120 := by
  have h1 := pk_sub_toInt (a := i) (b := e) (by omega) (by omega)
  have h2 := nI_toInt (n := s) (by omega)
  have key : -120 ≤ (s : Int) * ((i : Int) - e) ∧ (s : Int) * ((i : Int) - e) ≤ 120 := by
    rcases (by omega : s = 0 ∨ s = 1 ∨ s = 2 ∨ s = 3 ∨ s = 4 ∨ s = 5 ∨ s = 6) with z | z | z | z | z | z | z <;> subst z <;> omega
  rw [fb_mulI (by rw [h1, h2]; omega) (by rw [h1, h2]; omega), h1, h2]
  exact key
theorem td_b (z : Int) (d : Int) (hd : 0 < d) : (0 ≤ z → 0 ≤ z.tdiv d ∧ z.tdiv d ≤ z) ∧ (z ≤ 0 → z ≤ z.tdiv d ∧ z.tdiv d ≤ 0) := by
  have pos : ∀ y : Int, 0 ≤ y → 0 ≤ y.tdiv d ∧ y.tdiv d ≤ y := by
    intro y hy
    rw [Int.tdiv_eq_ediv_of_nonneg hy]
    exact ⟨Int.ediv_nonneg hy (by omega), Int.ediv_le_self d hy⟩
  refine ⟨pos z, fun hz => ?_⟩
  have h := pos (-z) (by omega)
  rw [Int.neg_tdiv] at h
  omega
theorem bk_b {aim b0 : Int32} {l : Nat} (ha : 0 ≤ aim.toInt) (ha2 : aim.toInt ≤ 11) (hb : -10000 ≤ b0.toInt) (hb2 : b0.toInt ≤ 10000) : -10011 ≤ (bkS aim l b0).toInt ∧ (bkS aim l b0).toInt ≤ 10011 := by
  unfold bkS
  split
  · exact ⟨by decide, by decide⟩
  · have h1 : (b0 - aim).toInt = b0.toInt - aim.toInt := fb_subI (by omega) (by omega)
    have h2 : (2 : Int32).toInt = 2 := rfl
    rw [Int32.toInt_div_of_ne_right _ _ (by decide), h1, h2]
    have h3 := td_b (b0.toInt - aim.toInt) 2 (by omega)
    omega
theorem ab_b {x : Int32} (h1 : -10011 ≤ x.toInt) (h2 : x.toInt ≤ 10011) : 0 ≤ (ab32 x / 4).toInt ∧ (ab32 x / 4).toInt ≤ 10011 := by
  have h4 : (4 : Int32).toInt = 4 := rfl
  have h0 : (0 : Int32).toInt = 0 := rfl
  rw [Int32.toInt_div_of_ne_right _ _ (by decide), h4]
  have hx : 0 ≤ (ab32 x).toInt ∧ (ab32 x).toInt ≤ 10011 := by
    unfold ab32
    split
    next c => rw [fa_le, h0] at c; omega
    next c =>
      rw [fa_le, h0] at c
      rw [fb_subI (by omega) (by omega), h0]
      omega
  have h3 := (td_b (ab32 x).toInt 4 (by omega)).1 hx.1
  omega
theorem run_b {pl sl aim : Int32} {s e l i t : Nat} (hs : s ≤ 6) (es : sl = nI s) (he : e ≤ 20) (hl : l ≤ 4) (hi : i ≤ 2 * e) (ht : t ≤ 2 * l) (hp : -5000 ≤ pl.toInt) (hp2 : pl.toInt ≤ 5000) (ha : 0 ≤ aim.toInt) (ha2 : aim.toInt ≤ 11) :
    (bhS pl sl aim e l i t).toInt ≤ 100000 ∧ -100000 ≤ (bhS pl sl aim e l i t).toInt ∧ 0 ≤ (lsS pl sl aim e l i).toInt ∧ (lsS pl sl aim e l i).toInt ≤ 100000 := by
  subst es
  have h1 := sl_b hs (i := i) (e := e) (by omega) he hi
  have h2 := sl_b hs (i := t) (e := l) (by omega) (by omega) ht
  have h3 : (bh0S pl (nI s) e i).toInt = pl.toInt - (nI s * (nI i - nI e)).toInt := fb_subI (by omega) (by omega)
  have h4 := bk_b (b0 := bh0S pl (nI s) e i) (l := l) ha ha2 (by omega) (by omega)
  have h5 : (bh0S pl (nI s) e i - bkS aim l (bh0S pl (nI s) e i)).toInt = (bh0S pl (nI s) e i).toInt - (bkS aim l (bh0S pl (nI s) e i)).toInt := fb_subI (by omega) (by omega)
  have h6 : (bhS pl (nI s) aim e l i t).toInt = (bh0S pl (nI s) e i - bkS aim l (bh0S pl (nI s) e i)).toInt - (nI s * (nI t - nI l)).toInt := fb_subI (by omega) (by omega)
  have h7 := ab_b (x := bkS aim l (bh0S pl (nI s) e i)) (by omega) (by omega)
  refine ⟨by omega, by omega, ?_, ?_⟩
  · exact h7.1
  · have := h7.2
    show (ab32 (bkS aim l (bh0S pl (nI s) e i)) / 4).toInt ≤ 100000
    omega
/-- a jumper's numbers as they may be -/
def JB (kd fg st gr sl pc lk mk : Int32) : Prop := ∃ κ f a g s p l m : Nat, κ < 6 ∧ f ≤ 9 ∧ a ≤ 99 ∧ g ≤ 9 ∧ s ≤ 6 ∧ p ≤ 99 ∧ l ≤ 4 ∧ m ≤ 2400 ∧ kd = nI κ ∧ fg = nI f ∧ st = nI a ∧ gr = nI g ∧ sl = nI s ∧ pc = nI p ∧ lk = nI l ∧ mk = nI m
theorem ln_b {kd fg sl pc wd pl aim : Int32} {f p s e l i t : Nat} (hf : f ≤ 9) (ef : fg = nI f) (hpc : p ≤ 99) (ep : pc = nI p) (hw : WW wd) (hs : s ≤ 6) (es : sl = nI s) (he : e ≤ 20) (hl : l ≤ 4) (hi : i ≤ 2 * e) (ht : t ≤ 2 * l) (hp : -5000 ≤ pl.toInt) (hp2 : pl.toInt ≤ 5000) (ha : 0 ≤ aim.toInt) (ha2 : aim.toInt ≤ 11) :
    ∃ n : Nat, n ≤ 435 ∧ lnS kd fg sl pc wd pl aim e l i t = nI n := by
  have h1 := run_b hs es he hl hi ht hp hp2 ha ha2
  unfold lnS
  split
  next c =>
    rw [fa_le] at c
    have h2 := len_b (kd := kd) hf hpc ef ep hw c h1.1 h1.2.2.1 h1.2.2.2
    refine ⟨(lenS kd fg pc wd (bhS pl sl aim e l i t) (lsS pl sl aim e l i)).toInt.toNat, by omega, ?_⟩
    rw [fa_eq, nI_toInt (by omega)]
    omega
  next c => exact ⟨0, by omega, rfl⟩
/-! the class -/
theorem s_fillL (p n : Nat) (v : Int64) (hn : n < 2 ^ 31) : ∀ (f i : Nat) (h : AH), n < i + f → i ≤ n → ∃ h', J7_fill_d0a16_l6 p n v (nI n) f (nI i) h = some ((), h') ∧ LO p h h' ∧ ∀ k, h'.2.1 p k = if i ≤ k ∧ k < n then v else h.2.1 p k := by
  intro f
  induction f with
  | zero => intro i h h1 h2; omega
  | succ f ih =>
    intro i h h1 h2
    rw [J7_fill_d0a16_l6.eq_2]
    by_cases e : i = n
    · subst e
      rw [if_pos (Int32.le_refl _)]
      exact ⟨h, rfl, LO.rf, fun k => by rw [if_neg (by omega)]⟩
    · rw [if_neg (nI_ge (by omega) hn), ck_nI _ (by omega) hn, vl_e, vl_e, nI_clamp (by omega), nI_1]
      obtain ⟨h', a1, a2, a3⟩ := ih (i + 1) (sL h p i v) (by omega) (by omega)
      refine ⟨h', a1, (LO.set h _ _).tr a2, fun k => ?_⟩
      rw [a3, sL_at]
      by_cases c : i ≤ k ∧ k < n
      · rw [if_pos c]
        by_cases c2 : k = i
        · rw [if_neg (by omega), if_pos ⟨rfl, c2⟩]
        · rw [if_pos (by omega)]
      · rw [if_neg c, if_neg (by omega), if_neg (by omega)]
/-- what a spread touches -/
def SP (h h' : AH) : Prop := h'.1 = h.1 ∧ h'.2.2 = h.2.2 ∧ (∀ o, o ≠ 8 → o ≠ 31 → h'.2.1 o = h.2.1 o) ∧ h'.2.1 8 2 = h.2.1 8 2
theorem SP.rf {h : AH} : SP h h := ⟨rfl, rfl, fun _ _ _ => rfl, rfl⟩
theorem SP.tr {h h' h2 : AH} (a : SP h h') (b : SP h' h2) : SP h h2 := ⟨b.1.trans a.1, b.2.1.trans a.2.1, fun o h1 h2 => (b.2.2.1 o h1 h2).trans (a.2.2.1 o h1 h2), b.2.2.2.trans a.2.2.2⟩
def Ph (g : Nat → Int64) (h : AH) : Int64 := sm 1000 (fun v => g v * h.2.1 31 v)
/-- what has come to the counts since g0 -/
def Ac (g0 h : AH) (S : (Int32 → Int32 → Int64) → Int64) (b : Int32) : Prop := SP g0 h ∧ (∀ g : Nat → Int64, Ph g h = Ph g g0 + S (fun _ n => g n.toNatClampNeg)) ∧ h.2.1 8 3 = g0.2.1 8 3 + S (fun x _ => if x < 0 then 1 else 0) ∧ h.2.1 8 4 = g0.2.1 8 4 + S (fun x _ => if x = b then 1 else 0)
theorem ac_one {g0 h : AH} {S S' : (Int32 → Int32 → Int64) → Int64} {b x ln : Int32} {w : Int64} {n : Nat} (A : Ac g0 h S b) (hn : n ≤ 435) (en : ln = nI n) (hS : ∀ φ, S' φ = S φ + w * φ x ln) {h1 : AH}
    (e1 : h1.1 = h.1) (e2 : h1.2.2 = h.2.2) (e3 : ∀ o j, h1.2.1 o j = if o = 31 ∧ j = n then h.2.1 31 n + w else if o = 8 ∧ j = 4 then h.2.1 8 4 + (if x = b then w else 0) else if o = 8 ∧ j = 3 then h.2.1 8 3 + (if x < 0 then w else 0) else h.2.1 o j) : Ac g0 h1 S' b := by
  obtain ⟨a1, a2, a3, a4⟩ := A
  refine ⟨a1.tr ⟨e1, e2, fun o p1 p2 => funext fun j => ?_, ?_⟩, fun g => ?_, ?_, ?_⟩
  · rw [e3, if_neg (fun z => p2 z.1), if_neg (fun z => p1 z.1), if_neg (fun z => p1 z.1)]
  · rw [e3, if_neg (by omega), if_neg (by omega), if_neg (by omega)]
  · rw [hS, en, nI_clamp (by omega), ← Int64.add_assoc, ← a2 g]
    unfold Ph
    refine sm_upd (a := n) (by omega) _ _ _ ?_ (fun i hi => ?_)
    · rw [e3, if_pos ⟨rfl, rfl⟩, Int64.mul_add, Int64.mul_comm (g n) w]
    · rw [e3, if_neg (fun z => hi z.2), if_neg (by omega), if_neg (by omega)]
  · rw [e3, if_neg (by omega), if_neg (by omega), if_pos ⟨rfl, rfl⟩, hS, a3, Int64.add_assoc]
    congr 2
    split
    · exact (Int64.mul_one _).symm
    · exact Int64.mul_zero.symm
  · rw [e3, if_neg (by omega), if_pos ⟨rfl, rfl⟩, hS, a4, Int64.add_assoc]
    congr 2
    split
    · exact (Int64.mul_one _).symm
    · exact Int64.mul_zero.symm
theorem s_last (p : Nat) (wd v3 v4 b : Int32) (v6 : Int64) (v8 : Int32) (w : Int64) (x : Int32) (K : Int32 → AH → Option (Unit × AH)) {ln : Int32} {n : Nat} (h : AH) (hn : n ≤ 435) (en : ln = nI n) :
    ∃ h1, X1_spreadLast_j71 p wd v3 v4 b v6 v8 w x K ln h = K (v8 + 1) h1 ∧ h1.1 = h.1 ∧ h1.2.2 = h.2.2 ∧ ∀ o j, h1.2.1 o j = if o = 31 ∧ j = n then h.2.1 31 n + w else if o = 8 ∧ j = 4 then h.2.1 8 4 + (if x = b then w else 0) else if o = 8 ∧ j = 3 then h.2.1 8 3 + (if x < 0 then w else 0) else h.2.1 o j := by
  have key : ∀ (s0 : Int64) (h6 : AH), ∃ h1, X1_spreadLast_j111 p wd v3 v4 b v6 v8 w ln K s0 (h6.2.1 8 4) h6 = K (v8 + 1) h1 ∧ h1.1 = h6.1 ∧ h1.2.2 = h6.2.2 ∧ ∀ o j, h1.2.1 o j = if o = 31 ∧ j = n then h6.2.1 31 n + w else if o = 8 ∧ j = 4 then h6.2.1 8 4 + s0 else h6.2.1 o j := by
    intro s0 h6
    unfold X1_spreadLast_j111 X1_spreadLast_j140
    rw [vl_e, en, if_neg (nI_pos (by omega)), if_neg (show ¬ (999 : Int32) < nI n from nI_nlt (a := 999) (by omega) (by decide)), ck_nI _ (by omega) (by decide), ck_nI _ (by omega) (by decide), vl_e, vl_e, nI_clamp (by omega)]
    refine ⟨_, rfl, rfl, rfl, fun o j => ?_⟩
    rw [sL_at, sL_at, sL_at, if_neg (by omega : ¬ (31 = 8 ∧ n = 4))]
  have key2 : ∀ s0 : Int64, ∃ h1, X1_spreadLast_j89 p wd v3 v4 b v6 v8 w x ln K s0 (h.2.1 8 3) h = K (v8 + 1) h1 ∧ h1.1 = h.1 ∧ h1.2.2 = h.2.2 ∧ ∀ o j, h1.2.1 o j = if o = 31 ∧ j = n then h.2.1 31 n + w else if o = 8 ∧ j = 4 then h.2.1 8 4 + (if x = b then w else 0) else if o = 8 ∧ j = 3 then h.2.1 8 3 + s0 else h.2.1 o j := by
    intro s0
    unfold X1_spreadLast_j89
    rw [vl_e]
    have fin : ∀ s1, ∃ h1, X1_spreadLast_j111 p wd v3 v4 b v6 v8 w ln K s1 ((sL h 8 3 (h.2.1 8 3 + s0)).2.1 8 4) (sL h 8 3 (h.2.1 8 3 + s0)) = K (v8 + 1) h1 ∧ h1.1 = h.1 ∧ h1.2.2 = h.2.2 ∧ ∀ o j, h1.2.1 o j = if o = 31 ∧ j = n then h.2.1 31 n + w else if o = 8 ∧ j = 4 then h.2.1 8 4 + s1 else if o = 8 ∧ j = 3 then h.2.1 8 3 + s0 else h.2.1 o j := by
      intro s1
      obtain ⟨h1, a1, a2, a3, a4⟩ := key s1 (sL h 8 3 (h.2.1 8 3 + s0))
      refine ⟨h1, a1, a2, a3, fun o j => ?_⟩
      rw [a4, sL_at, sL_at, sL_at, if_neg (by omega : ¬ (31 = 8 ∧ n = 3)), if_neg (by omega : ¬ (8 = 8 ∧ 4 = 3))]
    split
    · exact fin w
    · exact fin 0
  unfold X1_spreadLast_j71
  by_cases c : 0 ≤ x
  · rw [if_pos c]
    have c2 : ¬ x < 0 := Int32.not_lt.mpr c
    rw [if_neg c2]
    exact key2 0
  · rw [if_neg c]
    have c2 : x < 0 := Int32.not_le.mp c
    rw [if_pos c2]
    exact key2 w
theorem bd_of {α β : Type} {F : Option (α × AH)} {a : α} {h : AH} (e : F = some (a, h)) (f : α → AH → Option β) : bd F f = f a h := by
  rw [e, bd_s]
theorem ac_cong {g0 h : AH} {S S' : (Int32 → Int32 → Int64) → Int64} {b : Int32} (e : ∀ φ, S' φ = S φ) (A : Ac g0 h S b) : Ac g0 h S' b := ⟨A.1, fun g => by rw [e]; exact A.2.1 g, by rw [e]; exact A.2.2.1, by rw [e]; exact A.2.2.2⟩
theorem ab_neg (x : Int32) : (if 0 ≤ x then x else -x) = ab32 x := by
  unfold ab32
  rw [Int32.zero_sub]
/-- a jumper in the class's heap, with its numbers -/
def JN (h : AH) (p f pp s l : Nat) : Prop := JK h p ∧ f ≤ 9 ∧ h.1 p 2 = nI f ∧ pp ≤ 99 ∧ h.1 p 6 = nI pp ∧ s ≤ 6 ∧ h.1 p 5 = nI s ∧ l ≤ 4 ∧ h.1 p 7 = nI l
/-- the class's table of ways -/
def WT (h : AH) : Prop := ∀ n j, n ≤ 20 → h.2.1 (10 + n) j = lN (cb (2 * n) j)
theorem JK.of {h h' : AH} {p : Nat} (k : JK h p) (e1 : h'.1 = h.1) (e2 : h'.2.2 = h.2.2) : JK h' p := by
  obtain ⟨κ, a, b, c⟩ := k
  exact ⟨κ, a, by rw [e2]; exact b, by rw [e1]; exact c⟩
section SPR
variable {g0 : AH} {p f pp s l e : Nat} {wd pl b : Int32}
theorem s_inner (J : JN g0 p f pp s l) (T : WT g0) (hw : WW wd) (he : e ≤ 20) {i : Nat} (hi : i ≤ 2 * e) (hp : -5000 ≤ pl.toInt) (hp2 : pl.toInt ≤ 5000) (S0 : (Int32 → Int32 → Int64) → Int64) (w : Int64) : ∀ (n t : Nat) (h : AH), 2 * l + 1 < t + n → t ≤ 2 * l + 1 →
    Ac g0 h (fun φ => S0 φ + sm t (fun t' => (w * lN (cb (2 * l) t')) * φ (bhS pl (g0.1 p 5) (aimS (g0.1 p 1) (g0.1 p 2)) e l i t') (lnS (g0.1 p 1) (g0.1 p 2) (g0.1 p 5) (g0.1 p 6) wd pl (aimS (g0.1 p 1) (g0.1 p 2)) e l i t'))) b →
    ∃ h', X1_spreadLast_l7 p wd (bh0S pl (g0.1 p 5) e i - bkS (aimS (g0.1 p 1) (g0.1 p 2)) l (bh0S pl (g0.1 p 5) e i)) (lsS pl (g0.1 p 5) (aimS (g0.1 p 1) (g0.1 p 2)) e l i) b w n (nI t - nI l) h = some ((), h') ∧
    Ac g0 h' (fun φ => S0 φ + sm (2 * l + 1) (fun t' => (w * lN (cb (2 * l) t')) * φ (bhS pl (g0.1 p 5) (aimS (g0.1 p 1) (g0.1 p 2)) e l i t') (lnS (g0.1 p 1) (g0.1 p 2) (g0.1 p 5) (g0.1 p 6) wd pl (aimS (g0.1 p 1) (g0.1 p 2)) e l i t'))) b := by
  obtain ⟨hk, hf, ef, hpp, epp, hs, es, hl, el⟩ := J
  intro n
  induction n with
  | zero => intro t h h1 h2; omega
  | succ n ih =>
    intro t h h1 h2 A
    have A1 : h.1 = g0.1 := A.1.1
    rw [X1_spreadLast_l7.eq_2, A1, el]
    by_cases c : t = 2 * l + 1
    · subst c
      rw [if_pos ((sg_lt (by omega) (by omega)).mpr (by omega))]
      exact ⟨h, rfl, A⟩
    · rw [if_neg (fun z => c (by have := (sg_lt (by omega) (by omega)).mp z; omega)), sg_add, ck_nI _ (by omega) (by decide), ck_nI _ (by omega) (by decide), vl_e, vl_e, nI_clamp (by omega), nI_clamp (by omega), Nat.mod_eq_of_lt (by omega), A.1.2.2.1 (10 + l) (by omega) (by omega), T l t (by omega)]
      have ha := aim_b (kd := g0.1 p 1) hf ef
      obtain ⟨nn, hnn, enn⟩ := ln_b (kd := g0.1 p 1) (fg := g0.1 p 2) (sl := g0.1 p 5) (pc := g0.1 p 6) (aim := aimS (g0.1 p 1) (g0.1 p 2)) (i := i) (t := t) hf ef hpp epp hw hs es he hl hi (by omega) hp hp2 ha.1 ha.2
      obtain ⟨h1', a1, a2, a3, a4⟩ := s_last p wd (bh0S pl (g0.1 p 5) e i - bkS (aimS (g0.1 p 1) (g0.1 p 2)) l (bh0S pl (g0.1 p 5) e i)) (lsS pl (g0.1 p 5) (aimS (g0.1 p 1) (g0.1 p 2)) e l i) b w (nI t - nI l) (w * lN (cb (2 * l) t)) (bhS pl (g0.1 p 5) (aimS (g0.1 p 1) (g0.1 p 2)) e l i t) (X1_spreadLast_l7 p wd (bh0S pl (g0.1 p 5) e i - bkS (aimS (g0.1 p 1) (g0.1 p 2)) l (bh0S pl (g0.1 p 5) e i)) (lsS pl (g0.1 p 5) (aimS (g0.1 p 1) (g0.1 p 2)) e l i) b w n) h hnn enn
      rw [sg_next] at a1
      obtain ⟨h2', b1, b2⟩ := ih (t + 1) h1' (by omega) (by omega) (ac_one (x := bhS pl (g0.1 p 5) (aimS (g0.1 p 1) (g0.1 p 2)) e l i t) A hnn enn (fun φ => (Int64.add_assoc _ _ _).symm) a2 a3 a4)
      refine ⟨h2', ?_, b2⟩
      rw [← b1, ← a1]
      show (if 0 ≤ bhS pl (g0.1 p 5) (aimS (g0.1 p 1) (g0.1 p 2)) e l i t then _ else _) = _
      by_cases d : 0 ≤ bhS pl (g0.1 p 5) (aimS (g0.1 p 1) (g0.1 p 2)) e l i t
      · have e9 : lnS (g0.1 p 1) (g0.1 p 2) (g0.1 p 5) (g0.1 p 6) wd pl (aimS (g0.1 p 1) (g0.1 p 2)) e l i t = lenS (h.1 p 1) (h.1 p 2) (h.1 p 6) wd (bhS pl (g0.1 p 5) (aimS (g0.1 p 1) (g0.1 p 2)) e l i t) (lsS pl (g0.1 p 5) (aimS (g0.1 p 1) (g0.1 p 2)) e l i) := by
          unfold lnS
          rw [if_pos d, A1]
        rw [if_pos d, e9]
        exact bd_of (s_lenC (hk.of A.1.1 A.1.2.1) _ _ _) _
      · have e9 : lnS (g0.1 p 1) (g0.1 p 2) (g0.1 p 5) (g0.1 p 6) wd pl (aimS (g0.1 p 1) (g0.1 p 2)) e l i t = 0 := by
          unfold lnS
          rw [if_neg d]
        rw [if_neg d, e9]
        rfl
theorem s_outer (J : JN g0 p f pp s l) (T : WT g0) (hw : WW wd) (he : e ≤ 20) (hp : -5000 ≤ pl.toInt) (hp2 : pl.toInt ≤ 5000) : ∀ (n i : Nat) (h : AH), 2 * e + 1 < i + n → i ≤ 2 * e + 1 →
    Ac g0 h (fun φ => sm i (fun i => sm (2 * l + 1) (fun t => (lN (cb (2 * e) i) * lN (cb (2 * l) t)) * φ (bhS pl (g0.1 p 5) (aimS (g0.1 p 1) (g0.1 p 2)) e l i t) (lnS (g0.1 p 1) (g0.1 p 2) (g0.1 p 5) (g0.1 p 6) wd pl (aimS (g0.1 p 1) (g0.1 p 2)) e l i t)))) b →
    ∃ h', X1_spread_l77 p wd pl b (nI e) (aimS (g0.1 p 1) (g0.1 p 2)) n (nI i - nI e) h = some ((), h') ∧ Ac g0 h' (RS (g0.1 p 1) (g0.1 p 2) (g0.1 p 5) (g0.1 p 6) wd pl (aimS (g0.1 p 1) (g0.1 p 2)) e l) b := by
  have J' := J
  obtain ⟨hk, hf, ef, hpp, epp, hs, es, hl, el⟩ := J'
  intro n
  induction n with
  | zero => intro i h h1 h2; omega
  | succ n ih =>
    intro i h h1 h2 A
    have A1 : h.1 = g0.1 := A.1.1
    by_cases c : i = 2 * e + 1
    · subst c
      rw [X1_spread_l77.eq_2, if_pos ((sg_lt (by omega) (by omega)).mpr (by omega))]
      exact ⟨h, rfl, A⟩
    · have step : X1_spread_j114 p wd pl b (nI e) (aimS (g0.1 p 1) (g0.1 p 2)) (nI i - nI e) (bh0S pl (g0.1 p 5) e i) (X1_spread_l77 p wd pl b (nI e) (aimS (g0.1 p 1) (g0.1 p 2)) n) (bkS (aimS (g0.1 p 1) (g0.1 p 2)) l (bh0S pl (g0.1 p 5) e i)) h = X1_spread_l77 p wd pl b (nI e) (aimS (g0.1 p 1) (g0.1 p 2)) (n + 1) (nI i - nI e) h := by
        rw [X1_spread_l77.eq_2, if_neg (fun z => c (by have := (sg_lt (by omega) (by omega)).mp z; omega)), vl_e, A1, el]
        by_cases d : l = 0
        · rw [if_pos (by rw [d]; exact Int32.le_refl _)]
          have e0 : bkS (aimS (g0.1 p 1) (g0.1 p 2)) l (bh0S pl (g0.1 p 5) e i) = 0 := if_pos d
          rw [e0]
          rfl
        · rw [if_neg (nI_nle (by omega) (by omega))]
          have e0 : bkS (aimS (g0.1 p 1) (g0.1 p 2)) l (bh0S pl (g0.1 p 5) e i) = (bh0S pl (g0.1 p 5) e i - aimS (g0.1 p 1) (g0.1 p 2)) / 2 := if_neg d
          rw [e0]
          rfl
      obtain ⟨h', a1, a2⟩ := s_inner (b := b) J T hw he (i := i) (by omega) hp hp2 (fun φ => sm i (fun i => sm (2 * l + 1) (fun t => (lN (cb (2 * e) i) * lN (cb (2 * l) t)) * φ (bhS pl (g0.1 p 5) (aimS (g0.1 p 1) (g0.1 p 2)) e l i t) (lnS (g0.1 p 1) (g0.1 p 2) (g0.1 p 5) (g0.1 p 6) wd pl (aimS (g0.1 p 1) (g0.1 p 2)) e l i t)))) (lN (cb (2 * e) i)) FU 0 h (by unfold FU; omega) (by omega) (ac_cong (fun φ => Int64.add_zero _) A)
      obtain ⟨h2', b1, b2⟩ := ih (i + 1) h' (by omega) (by omega) a2
      refine ⟨h2', ?_, b2⟩
      have e5 : X1_spread_j114 p wd pl b (nI e) (aimS (g0.1 p 1) (g0.1 p 2)) (nI i - nI e) (bh0S pl (g0.1 p 5) e i) (X1_spread_l77 p wd pl b (nI e) (aimS (g0.1 p 1) (g0.1 p 2)) n) (bkS (aimS (g0.1 p 1) (g0.1 p 2)) l (bh0S pl (g0.1 p 5) e i)) h = X1_spread_l77 p wd pl b (nI e) (aimS (g0.1 p 1) (g0.1 p 2)) n (nI (i + 1) - nI e) h' := by
        unfold X1_spread_j114 X1_spreadLast
        rw [sg_add, ck_nI _ (by omega) (by decide), ck_nI _ (by omega) (by decide), nI_clamp (by omega), nI_clamp (by omega), Nat.mod_eq_of_lt (by omega), A.1.2.2.1 (10 + e) (by omega) (by omega), T e i he, vl_e, A1, el, sg_0]
        have a1' : X1_spreadLast_l7 p wd (bh0S pl (g0.1 p 5) e i - bkS (aimS (g0.1 p 1) (g0.1 p 2)) l (bh0S pl (g0.1 p 5) e i)) (ab32 (bkS (aimS (g0.1 p 1) (g0.1 p 2)) l (bh0S pl (g0.1 p 5) e i)) / 4) b (lN (cb (2 * e) i)) FU (nI 0 - nI l) h = some ((), h') := a1
        rw [a1', bd_s, vl_e, sg_next]
      rw [← step, e5]
      exact b1
end SPR
end
section
/-! the class: one spread, and what is read off it -/
theorem ph_0 {h : AH} (hz : ∀ k, k < 1000 → h.2.1 31 k = 0) (g : Nat → Int64) : Ph g h = 0 :=
  sm_z (fun i hi => by rw [hz i hi, Int64.mul_zero])
/-- what a spread leaves -/
def SpO (p : Nat) (wd pl b : Int32) (S l : Nat) (h h' : AH) : Prop :=
  h'.1 = h.1 ∧ h'.2.2 = h.2.2 ∧ (∀ o, o ≠ 8 → o ≠ 31 → h'.2.1 o = h.2.1 o) ∧ h'.2.1 8 2 = shl64 1 (2 * nI S) ∧
  (∀ g : Nat → Int64, Ph g h' = RS (h.1 p 1) (h.1 p 2) (h.1 p 5) (h.1 p 6) wd pl (aimS (h.1 p 1) (h.1 p 2)) (S - l) l (fun _ n => g n.toNatClampNeg)) ∧
  h'.2.1 8 3 = RS (h.1 p 1) (h.1 p 2) (h.1 p 5) (h.1 p 6) wd pl (aimS (h.1 p 1) (h.1 p 2)) (S - l) l (fun x _ => if x < 0 then 1 else 0) ∧
  h'.2.1 8 4 = RS (h.1 p 1) (h.1 p 2) (h.1 p 5) (h.1 p 6) wd pl (aimS (h.1 p 1) (h.1 p 2)) (S - l) l (fun x _ => if x = b then 1 else 0)
theorem s_spread {h : AH} {p f pp s l S : Nat} {wd pl b : Int32} (J : JN h p f pp s l) (T : WT h) (hw : WW wd) (h4 : 4 ≤ S) (h20 : S ≤ 20) (hp : -5000 ≤ pl.toInt) (hp2 : pl.toInt ≤ 5000) : ∃ h', X1_spread p (nI S) wd pl b h = some ((), h') ∧ SpO p wd pl b S l h h' := by
  have J0 := J
  obtain ⟨hk, hf, ef, hpp, epp, hs, es, hl, el⟩ := J0
  obtain ⟨h2, a1, a2, a3⟩ := s_fillL 31 1000 0 (by decide) FU 0 h (by unfold FU; omega) (by omega)
  have a1' : J7_fill_d0a16 31 1000 0 h = some ((), h2) := by
    unfold J7_fill_d0a16
    rw [vl_e]
    exact a1
  unfold X1_spread
  rw [a1', bd_s, vl_e, vl_e]
  obtain ⟨h4', e4⟩ : ∃ g, g = sL (sL h2 8 3 0) 8 4 0 := ⟨_, rfl⟩
  rw [← e4]
  have q1 : h4'.1 = h.1 := by rw [e4]; exact a2.1
  have q2 : h4'.2.2 = h.2.2 := by rw [e4]; exact a2.2.1
  rw [q1, el, pk_sub (by omega : l ≤ S), vl_e, if_neg (nI_pos (by omega)), if_neg (show ¬ (20 : Int32) < nI S from nI_nlt (a := 20) (by omega) (by decide)), if_neg (nI_pos (by omega)), if_pos (show nI l ≤ 4 from nI_le (b := 4) hl (by decide)), vl_e]
  obtain ⟨h6, e6⟩ : ∃ g, g = sL h4' 8 2 (shl64 1 (2 * nI S)) := ⟨_, rfl⟩
  rw [← e6]
  have r1 : h6.1 = h.1 := by rw [e6]; exact q1
  have r2 : h6.2.2 = h.2.2 := by rw [e6]; exact q2
  have r3 : ∀ o j, h6.2.1 o j = if o = 8 ∧ j = 2 then shl64 1 (2 * nI S) else if o = 8 ∧ j = 4 then 0 else if o = 8 ∧ j = 3 then 0 else h2.2.1 o j := by
    intro o j
    rw [e6, sL_at, e4, sL_at, sL_at]
  have J6 : JN h6 p f pp s l := ⟨hk.of r1 r2, hf, by rw [r1]; exact ef, hpp, by rw [r1]; exact epp, hs, by rw [r1]; exact es, hl, by rw [r1]; exact el⟩
  have T6 : WT h6 := fun n j hn => by
    rw [r3, if_neg (by omega), if_neg (by omega), if_neg (by omega), a2.2.2 _ (by omega)]
    exact T n j hn
  rw [s_aimC J6.1, bd_s, vl_e, sg_0]
  obtain ⟨h', b1, b2⟩ := s_outer (e := S - l) (b := b) J6 T6 hw (by omega) hp hp2 FU 0 h6 (by unfold FU; omega) (by omega) (by
    have z : ∀ x : Int64, x = x + 0 := fun x => (Int64.add_zero x).symm
    exact ⟨SP.rf, fun g => z _, z _, z _⟩)
  refine ⟨h', b1, ?_⟩
  obtain ⟨⟨c1, c2, c3, c4⟩, c5, c6, c7⟩ := b2
  have z31 : ∀ k, k < 1000 → h6.2.1 31 k = 0 := fun k hk => by rw [r3, if_neg (by omega), if_neg (by omega), if_neg (by omega), a3, if_pos ⟨by omega, hk⟩]
  refine ⟨c1.trans r1, c2.trans r2, fun o o1 o2 => ?_, ?_, fun g => ?_, ?_, ?_⟩
  · rw [c3 o o1 o2]
    funext j
    rw [r3, if_neg (by omega), if_neg (by omega), if_neg (by omega), a2.2.2 _ o2]
  · rw [c4, r3, if_pos ⟨rfl, rfl⟩]
  · rw [c5, ph_0 z31, Int64.zero_add, r1]
  · rw [c6, r3, if_neg (by omega), if_neg (by omega), if_pos ⟨rfl, rfl⟩, Int64.zero_add, r1]
  · rw [c7, r3, if_neg (by omega), if_pos ⟨rfl, rfl⟩, Int64.zero_add, r1]
theorem s_meanL (h : AH) : ∀ (n v : Nat), 1000 < v + n → v ≤ 1000 → X1_meanWays_l4 n (sm v (fun v => lN v * h.2.1 31 v)) (nI v) h = some (Ph lN h, h) := by
  intro n
  induction n with
  | zero => intro v h1 h2; omega
  | succ n ih =>
    intro v h1 h2
    rw [X1_meanWays_l4.eq_2]
    by_cases c : v = 1000
    · subst c
      rw [if_pos (show (999 : Int32) < nI 1000 from nI_lt (a := 999) (by decide) (by decide))]
      rfl
    · rw [if_neg (show ¬ (999 : Int32) < nI v from nI_nlt (a := 999) (by omega) (by decide)), ck_nI _ (by omega) (by decide), vl_e, vl_e, nI_clamp (by omega), nI_1, nI_l (by omega)]
      exact ih (v + 1) (by omega) (by omega)
theorem s_mean (h : AH) : X1_meanWays h = some (Ph lN h, h) := by
  unfold X1_meanWays
  have e : (0 : Int64) = sm 1 (fun v => lN v * h.2.1 31 v) := by
    show (0 : Int64) = 0 + lN 0 * h.2.1 31 0
    rw [Int64.zero_add]
    exact Int64.zero_mul.symm
  rw [e]
  exact s_meanL h FU 1 (by unfold FU; omega) (by omega)
def gtI (a u : Nat) : Int64 := if a < u then 1 else 0
theorem s_pastL (a : Nat) (h : AH) : ∀ (n v : Nat), 1000 < v + n → a < v → v ≤ 1000 → X1_waysPast_l11 n (sm v (fun u => gtI a u * h.2.1 31 u)) (nI v) h = some (Ph (gtI a) h, h) := by
  intro n
  induction n with
  | zero => intro v h1 h2; omega
  | succ n ih =>
    intro v h1 h2 h3
    rw [X1_waysPast_l11.eq_2]
    by_cases c : v = 1000
    · subst c
      rw [if_pos (show (999 : Int32) < nI 1000 from nI_lt (a := 999) (by decide) (by decide))]
      rfl
    · rw [if_neg (show ¬ (999 : Int32) < nI v from nI_nlt (a := 999) (by omega) (by decide)), ck_nI _ (by omega) (by decide), vl_e, vl_e, nI_clamp (by omega), nI_1]
      have e : sm v (fun u => gtI a u * h.2.1 31 u) + h.2.1 31 v = sm (v + 1) (fun u => gtI a u * h.2.1 31 u) := by
        show _ = sm v (fun u => gtI a u * h.2.1 31 u) + gtI a v * h.2.1 31 v
        unfold gtI
        rw [if_pos h2, Int64.one_mul]
      rw [e]
      exact ih (v + 1) (by omega) (by omega) (by omega)
theorem s_past {a : Nat} (ha : a < 1000) (h : AH) : X1_waysPast (nI a) h = some (Ph (gtI a) h, h) := by
  unfold X1_waysPast
  have e1 : mx32 0 (nI a + 1) = nI (a + 1) := by
    unfold mx32
    rw [nI_1, if_pos (show (0 : Int32) < nI (a + 1) from nI_lt (a := 0) (by omega) (by omega))]
  have e : (0 : Int64) = sm (a + 1) (fun u => gtI a u * h.2.1 31 u) := by
    rw [sm_z]
    intro i hi
    unfold gtI
    rw [if_neg (by omega), Int64.zero_mul]
  rw [vl_e, e1, e]
  exact s_pastL a h FU (a + 1) (by unfold FU; omega) (by omega) (by omega)
/-! the reference: counted -/
def coI (what asked x ln : Int32) : Int32 :=
  if what = 0 then (if x = asked then 1 else 0)
  else if what = 1 then (if 0 ≤ x then 0 else 1)
  else if what = 2 then (if 0 ≤ x then ln else 0)
  else if x < 0 then 0 else if ln ≤ asked then 0 else 1
theorem s_cone {j : Nat} (hj : j < 4) (x loss what asked : Int32) (h : AH) : X11_countedOne (nI j) x loss what asked h = some (coI what asked x (lenS (h.1 2 j) (h.1 3 j) (h.1 7 j) (h.1 0 14) x loss), h) := by
  unfold X11_countedOne coI
  simp only [vl_e, s_lenR hj, bd_s]
  repeat (first | rfl | split)
theorem lc_0 (x : Int64) : lcmpV x 0 = 0 ↔ x = 0 := by
  unfold lcmpV
  by_cases h1 : 0 < x
  · rw [if_pos h1]
    exact ⟨fun z => absurd z (by decide), fun z => by rw [z] at h1; exact absurd h1 Int64.lt_irrefl⟩
  · rw [if_neg h1]
    by_cases h2 : x = 0
    · rw [if_pos h2]
      exact ⟨fun _ => h2, fun _ => rfl⟩
    · rw [if_neg h2]
      exact ⟨fun z => absurd z (by decide), fun z => absurd z h2⟩
theorem sm_sq (m n : Nat) (f : Nat → Int64) : sm (m * n) f = sm m (fun a => sm n (fun b => f (n * a + b))) := by
  induction m with
  | zero => rw [Nat.zero_mul]; rfl
  | succ m ih =>
    rw [Nat.succ_mul, sm_app, ih]
    show _ = sm m (fun a => sm n (fun b => f (n * a + b))) + sm n (fun b => f (n * m + b))
    rw [Nat.mul_comm m n]
def bhR0 (pl sl : Int32) (a : Nat) : Int32 := pl - sl * (nI a - 20)
def bhR (pl sl aim : Int32) (l a c : Nat) : Int32 := bhR0 pl sl a - (bkS aim l (bhR0 pl sl a) + sl * (nI c - 20))
theorem bh0_eq {pl sl : Int32} {e i : Nat} (he : e ≤ 20) (hi : i ≤ 2 * e) : bhR0 pl sl (20 - e + i) = bh0S pl sl e i := by
  unfold bhR0 bh0S
  have e1 : nI (20 - e + i) - 20 = nI i - nI e := by
    rw [fa_eq, pk_sub_toInt (by omega) (by omega)]
    show (nI (20 - e + i) - nI 20).toInt = _
    rw [pk_sub_toInt (by omega) (by decide)]
    omega
  rw [e1]
theorem bh_eq {pl sl aim : Int32} {e l i t : Nat} (he : e ≤ 20) (hl : l ≤ 4) (hi : i ≤ 2 * e) (ht : t ≤ 2 * l) : bhR pl sl aim l (20 - e + i) (20 - l + t) = bhS pl sl aim e l i t := by
  unfold bhR bhS
  rw [bh0_eq he hi, ← Int32.sub_sub]
  have e1 : nI (20 - l + t) - 20 = nI t - nI l := by
    rw [fa_eq, pk_sub_toInt (by omega) (by omega)]
    show (nI (20 - l + t) - nI 20).toInt = _
    rw [pk_sub_toInt (by omega) (by decide)]
    omega
  rw [e1]
def lsR (pl sl aim : Int32) (l a : Nat) : Int32 := ab32 (bkS aim l (bhR0 pl sl a)) / 4
section CNT
variable {j l e : Nat} {what asked pl : Int32} {g : AH}
/-- one summand of the reference -/
def cF (g : AH) (j l e : Nat) (what asked pl : Int32) (k : Nat) : Int64 :=
  (lN (wy e (k / 41)) * lN (wy l (k % 41))) * (coI what asked (bhR pl (g.1 6 j) (aimS (g.1 2 j) (g.1 3 j)) l (k / 41) (k % 41)) (lenS (g.1 2 j) (g.1 3 j) (g.1 7 j) (g.1 0 14) (bhR pl (g.1 6 j) (aimS (g.1 2 j) (g.1 3 j)) l (k / 41) (k % 41)) (lsR pl (g.1 6 j) (aimS (g.1 2 j) (g.1 3 j)) l (k / 41)))).toInt64
theorem s_countL (hj : j < 4) (hl : l ≤ 4) (h18 : ∀ k, k < 41 → g.2.1 18 k = lN (wy e k)) (h19 : ∀ k, k < 41 → g.2.1 19 k = lN (wy l k)) : ∀ (n k : Nat), 1681 < k + n → k ≤ 1681 →
    X11_counted_l37 (nI j) pl what asked (nI l) n (sm k (cF g j l e what asked pl)) (nI k) g = some (sm 1681 (cF g j l e what asked pl), g) := by
  intro n
  induction n with
  | zero => intro k h1 h2; omega
  | succ n ih =>
    intro k h1 h2
    rw [X11_counted_l37.eq_2]
    by_cases c : k = 1681
    · subst c
      rw [if_pos (show (1681 : Int32) ≤ nI 1681 from Int32.le_refl _)]
    · have q1 : nI k / 41 = nI (k / 41) := pk_div (a := k) (d := 41) (by omega) (by decide) (by decide)
      have q2 : rm32 (nI k) 41 = nI (k % 41) := pk_rem (a := k) (d := 41) (by omega) (by decide) (by decide)
      rw [if_neg (show ¬ (1681 : Int32) ≤ nI k from nI_ge (b := 1681) (by omega) (by decide)), q1, q2, ck_nI _ (by omega) (by decide), ck_nI _ (by omega) (by decide), vl_e, nI_clamp (by omega), nI_clamp (by omega), h18 _ (by omega), h19 _ (by omega)]
      have nx := ih (k + 1) (by omega) (by omega)
      by_cases d : lN (wy e (k / 41)) * lN (wy l (k % 41)) = 0
      · rw [if_pos ((lc_0 _).mpr d)]
        unfold X11_counted_j175
        rw [vl_e, nI_1]
        have e0 : sm (k + 1) (cF g j l e what asked pl) = sm k (cF g j l e what asked pl) := by
          show sm k (cF g j l e what asked pl) + cF g j l e what asked pl k = _
          unfold cF
          rw [d, Int64.zero_mul, Int64.add_zero]
        rw [e0] at nx
        exact nx
      · rw [if_neg (fun z => d ((lc_0 _).mp z)), ck_nI _ hj (by decide), vl_e, nI_clamp (by omega)]
        have fin : X11_counted_j116 (nI j) pl what asked (nI l) (sm k (cF g j l e what asked pl)) (nI k) (lN (wy e (k / 41)) * lN (wy l (k % 41))) (bhR0 pl (g.1 6 j) (k / 41)) (X11_counted_l37 (nI j) pl what asked (nI l) n) (bkS (aimS (g.1 2 j) (g.1 3 j)) l (bhR0 pl (g.1 6 j) (k / 41))) g = some (sm 1681 (cF g j l e what asked pl), g) := by
          unfold X11_counted_j116
          rw [ck_nI _ hj (by decide), q2, nI_clamp (by omega), vl_e]
          have two : ∀ s0 : Int32, s0 = ab32 (bkS (aimS (g.1 2 j) (g.1 3 j)) l (bhR0 pl (g.1 6 j) (k / 41))) → X11_counted_j162 (nI j) pl what asked (nI l) (nI k) (X11_counted_l37 (nI j) pl what asked (nI l) n) s0 (bhR pl (g.1 6 j) (aimS (g.1 2 j) (g.1 3 j)) l (k / 41) (k % 41)) (nI j) (lN (wy e (k / 41)) * lN (wy l (k % 41))) (sm k (cF g j l e what asked pl)) g = some (sm 1681 (cF g j l e what asked pl), g) := by
            intro s0 hs0
            unfold X11_counted_j162 X11_counted_j175
            rw [s_cone hj, bd_s, vl_e, vl_e, nI_1, hs0]
            exact nx
          have ea := ab_neg (bkS (aimS (g.1 2 j) (g.1 3 j)) l (bhR0 pl (g.1 6 j) (k / 41)))
          by_cases w : 0 ≤ bkS (aimS (g.1 2 j) (g.1 3 j)) l (bhR0 pl (g.1 6 j) (k / 41))
          · rw [if_pos w]
            rw [if_pos w] at ea
            exact two _ ea
          · rw [if_neg w]
            rw [if_neg w] at ea
            exact two _ ea
        by_cases w : l = 0
        · rw [if_pos (by rw [w]; rfl)]
          have e0 : bkS (aimS (g.1 2 j) (g.1 3 j)) l (bhR0 pl (g.1 6 j) (k / 41)) = 0 := if_pos w
          rw [e0] at fin
          exact fin
        · rw [if_neg (nI_ne0 (by omega) (by omega)), s_aimR hj, bd_s]
          have e0 : bkS (aimS (g.1 2 j) (g.1 3 j)) l (bhR0 pl (g.1 6 j) (k / 41)) = (bhR0 pl (g.1 6 j) (k / 41) - aimS (g.1 2 j) (g.1 3 j)) / 2 := if_neg w
          rw [e0] at fin
          exact fin
/-- the sum of the reference is the sum over all slips -/
theorem cF_RS (he : e ≤ 20) (hl : l ≤ 4) {φ : Int32 → Int32 → Int64} {kd fg sl pc wd : Int32} (e1 : g.1 2 j = kd) (e2 : g.1 3 j = fg) (e3 : g.1 6 j = sl) (e4 : g.1 7 j = pc) (e5 : g.1 0 14 = wd)
    (hφ : ∀ x loss : Int32, (coI what asked x (lenS kd fg pc wd x loss)).toInt64 = φ x (if 0 ≤ x then lenS kd fg pc wd x loss else 0)) : sm 1681 (cF g j l e what asked pl) = RS kd fg sl pc wd pl (aimS kd fg) e l φ := by
  subst e1; subst e2; subst e3; subst e4; subst e5
  rw [show 1681 = 41 * 41 from rfl, sm_sq, sm_win he]
  · unfold RS
    refine sm_c (fun i hi => ?_)
    rw [sm_win (e := l) (by omega)]
    · refine sm_c (fun t ht => ?_)
      unfold cF
      rw [show (41 * (20 - e + i) + (20 - l + t)) / 41 = 20 - e + i from by omega, show (41 * (20 - e + i) + (20 - l + t)) % 41 = 20 - l + t from by omega, wy_in he, wy_in (by omega), bh_eq he hl (by omega) (by omega), hφ]
      unfold lnS lsS lsR
      rw [bh0_eq he (by omega)]
    · intro k hk ho
      unfold cF
      rw [show (41 * (20 - e + i) + k) % 41 = k from by omega, wy_out (n := l) ho]
      show lN _ * 0 * _ = 0
      rw [Int64.mul_zero, Int64.zero_mul]
  · intro k hk ho
    refine sm_z (fun c hc => ?_)
    unfold cF
    rw [show (41 * k + c) / 41 = k from by omega, wy_out (n := e) ho]
    show 0 * _ * _ = 0
    rw [Int64.zero_mul, Int64.zero_mul]
end CNT
/-- what findWays of the reference touches -/
def WO (h h' : AH) : Prop := h'.1 = h.1 ∧ h'.2.2 = h.2.2 ∧ ∀ o, o ≠ 18 → o ≠ 19 → h'.2.1 o = h.2.1 o
theorem s_two {h : AH} {S l : Nat} (hl : l ≤ S) (hS : S ≤ 20) {β : Type} (K : AH → Option (β × AH)) : ∃ h', (bd (X11_findWays 18 41 (nI (S - l)) h) fun _ h3 => bd (X11_findWays 19 41 (nI l) h3) fun _ h5 => K h5) = K h' ∧ WO h h' ∧ (∀ k, k < 41 → h'.2.1 18 k = lN (wy (S - l) k)) ∧ (∀ k, k < 41 → h'.2.1 19 k = lN (wy l k)) := by
  obtain ⟨h1, a1, a2, a3⟩ := s_findWays (p := 18) (n := S - l) (by omega) h
  obtain ⟨h2, b1, b2, b3⟩ := s_findWays (p := 19) (n := l) (by omega) h1
  refine ⟨h2, by rw [a1, bd_s, b1, bd_s], ⟨b2.1.trans a2.1, b2.2.1.trans a2.2.1, fun o o1 o2 => (b2.2.2 o o2).trans (a2.2.2 o o1)⟩, fun k hk => ?_, b3⟩
  rw [b2.2.2 18 (by decide)]
  exact a3 k hk
theorem s_counted {h : AH} {j S l : Nat} (hj : j < 4) (e12 : h.1 0 12 = nI S) (h4 : 4 ≤ S) (h20 : S ≤ 20) (el : h.1 8 j = nI l) (hl : l ≤ 4) (pl what asked : Int32) {φ : Int32 → Int32 → Int64}
    (hφ : ∀ x loss : Int32, (coI what asked x (lenS (h.1 2 j) (h.1 3 j) (h.1 7 j) (h.1 0 14) x loss)).toInt64 = φ x (if 0 ≤ x then lenS (h.1 2 j) (h.1 3 j) (h.1 7 j) (h.1 0 14) x loss else 0)) :
    ∃ h', X11_counted (nI j) pl what asked h = some (RS (h.1 2 j) (h.1 3 j) (h.1 6 j) (h.1 7 j) (h.1 0 14) pl (aimS (h.1 2 j) (h.1 3 j)) (S - l) l φ, h') ∧ WO h h' := by
  unfold X11_counted
  rw [ck_nI _ hj (by decide), vl_e, nI_clamp (by omega), el, e12, pk_sub (by omega : l ≤ S)]
  obtain ⟨h', a1, a2, a3, a4⟩ := s_two (h := h) (l := l) (S := S) (by omega) h20 (X11_counted_l37 (nI j) pl what asked (nI l) FU 0 0)
  refine ⟨h', ?_, a2⟩
  rw [a1]
  have b1 := s_countL (g := h') (e := S - l) (what := what) (asked := asked) (pl := pl) hj hl a3 a4 FU 0 (by unfold FU; omega) (by omega)
  have b2 : X11_counted_l37 (nI j) pl what asked (nI l) FU 0 0 h' = some (sm 1681 (cF h' j l (S - l) what asked pl), h') := b1
  rw [b2, cF_RS (g := h') (by omega) hl (by rw [a2.1]) (by rw [a2.1]) (by rw [a2.1]) (by rw [a2.1]) (by rw [a2.1]) hφ]
end
section
/-! pasted from kit/laws (BITS): shifts of longs -/
theorem wb_tb (n : Nat) : (lN n).toBitVec = BitVec.ofNat 64 n := rfl
theorem wb_inj {a b : Int64} (h : a.toBitVec = b.toBitVec) : a = b := Int64.toBitVec_inj.mp h
theorem wb_tn {n : Nat} (h : n < 2 ^ 64) : (lN n).toBitVec.toNat = n := by rw [wb_tb, BitVec.toNat_ofNat, Nat.mod_eq_of_lt h]
theorem wb_of (x : Int64) : ∃ n, n < 2 ^ 64 ∧ x = lN n := ⟨x.toBitVec.toNat, x.toBitVec.isLt, wb_inj (by rw [wb_tb]; simp)⟩
theorem wb_of32 (x : Int32) : ∃ n, n < 2 ^ 32 ∧ x = nI n := ⟨x.toBitVec.toNat, x.toBitVec.isLt, Int32.toBitVec_inj.mp (by show _ = BitVec.ofNat 32 _; simp)⟩
theorem wb_c : ∀ k, k < 64 → ((nI k).toInt64 &&& 63) = lN k := by decide +kernel
theorem wb_cu : ∀ k, k < 64 → ((nI k).toInt64.toUInt64 &&& Int64.toUInt64 63) = UInt64.ofNat k := by decide +kernel
theorem wb_sm : ∀ k, k < 64 → (BitVec.ofNat 64 k).smod 64 = BitVec.ofNat 64 k := by decide +kernel
theorem wb_pw {a b : Nat} (h : a ≤ b) : 2 ^ b = 2 ^ a * 2 ^ (b - a) := by rw [← Nat.pow_add]; congr 1; omega
theorem wb_lt2 {a b : Nat} (h : a < b) : 2 ^ a < 2 ^ b := Nat.pow_lt_pow_right (by decide) h
theorem wb_mod (n : Nat) : lN n = lN (n % 2 ^ 64) := wb_inj (by rw [wb_tb, wb_tb]; apply BitVec.eq_of_toNat_eq; rw [BitVec.toNat_ofNat, BitVec.toNat_ofNat, Nat.mod_mod])
theorem wb_shr {n k : Nat} (hn : n < 2 ^ 64) (hk : k < 64) : ((lN n).toUInt64 >>> ((nI k).toInt64.toUInt64 &&& Int64.toUInt64 63)).toInt64 = lN (n / 2 ^ k) := by
  rw [wb_cu k hk]
  apply wb_inj
  apply BitVec.eq_of_toNat_eq
  show ((lN n).toUInt64 >>> UInt64.ofNat k).toNat = (BitVec.ofNat 64 _).toNat
  have h1 : (UInt64.ofNat k).toNat = k := by
    show (BitVec.ofNat 64 k).toNat = k
    rw [BitVec.toNat_ofNat, Nat.mod_eq_of_lt (by omega)]
  have h2 : (lN n).toUInt64.toNat = n := wb_tn hn
  rw [UInt64.toNat_shiftRight, h1, h2, Nat.mod_eq_of_lt hk, Nat.shiftRight_eq_div_pow, BitVec.toNat_ofNat, Nat.mod_eq_of_lt (Nat.lt_of_le_of_lt (Nat.div_le_self _ _) hn)]
theorem wb_shl (n : Nat) {k : Nat} (hk : k < 64) : lN n <<< ((nI k).toInt64 &&& 63) = lN (n * 2 ^ k) := by
  rw [wb_c k hk]
  apply wb_inj
  rw [Int64.toBitVec_shiftLeft, wb_tb, wb_tb, wb_tb, wb_sm k hk]
  apply BitVec.eq_of_toNat_eq
  rw [BitVec.shiftLeft_eq', BitVec.toNat_shiftLeft, BitVec.toNat_ofNat, BitVec.toNat_ofNat, BitVec.toNat_ofNat, Nat.mod_eq_of_lt (show k < 2 ^ 64 by omega), Nat.shiftLeft_eq, Nat.mul_mod, Nat.mod_mod, ← Nat.mul_mod]
theorem pf_lI {a : Nat} (h : a < 2 ^ 63) : (lN a).toInt = (a : Int) := lg_ofNat_toInt h
theorem pf_shr {a d : Nat} {D : Int64} (hD : (D.toBitVec.smod 64).toNat = d) (h : a < 2 ^ 62) : lN a >>> D = lN (a / 2 ^ d) := by
  have hd : a / 2 ^ d ≤ a := Nat.div_le_self _ _
  apply Int64.toInt_inj.mp
  have e : (lN a >>> D).toInt = (lN a).toInt >>> d := by
    rw [← hD]
    exact BitVec.toInt_sshiftRight ..
  rw [e, Int.shiftRight_eq_div_pow, pf_lI (by omega), pf_lI (by omega)]
  rfl
end
section
/-! the sums as natural numbers, their bounds -/
def nsm : Nat → (Nat → Nat) → Nat
  | 0, _ => 0
  | n + 1, f => nsm n f + f n
theorem sm_n {n : Nat} {f : Nat → Int64} {F : Nat → Nat} (h : ∀ i, i < n → f i = lN (F i)) : sm n f = lN (nsm n F) := by
  induction n with
  | zero => rfl
  | succ n ih =>
    show sm n f + f n = lN (nsm n F + F n)
    rw [ih (fun i hi => h i (by omega)), h n (by omega), lN_add]
theorem nsm_le {n : Nat} {F G : Nat → Nat} (h : ∀ i, i < n → F i ≤ G i) : nsm n F ≤ nsm n G := by
  induction n with
  | zero => exact Nat.le_refl 0
  | succ n ih => exact Nat.add_le_add (ih (fun i hi => h i (by omega))) (h n (by omega))
theorem nsm_mul (n a : Nat) (F : Nat → Nat) : nsm n (fun i => a * F i) = a * nsm n F := by
  induction n with
  | zero => rfl
  | succ n ih =>
    show nsm n (fun i => a * F i) + a * F n = a * (nsm n F + F n)
    rw [ih, Nat.mul_add]
theorem nsm_mulr (n a : Nat) (F : Nat → Nat) : nsm n (fun i => F i * a) = nsm n F * a := by
  induction n with
  | zero => exact (Nat.zero_mul a).symm
  | succ n ih =>
    show nsm n (fun i => F i * a) + F n * a = (nsm n F + F n) * a
    rw [ih, Nat.add_mul]
theorem nsm_cb1 (n : Nat) : ∀ m, nsm (m + 1) (cb (n + 1)) = nsm (m + 1) (cb n) + nsm m (cb n) := by
  intro m
  induction m with
  | zero => rfl
  | succ m ih =>
    show nsm (m + 1) (cb (n + 1)) + cb (n + 1) (m + 1) = (nsm (m + 1) (cb n) + cb n (m + 1)) + (nsm m (cb n) + cb n m)
    rw [ih, cb_s]
    unfold cbp
    rw [if_pos (by omega), Nat.add_sub_cancel]
    omega
theorem nsm_cb (n : Nat) : ∀ m, n < m → nsm m (cb n) = 2 ^ n := by
  induction n with
  | zero =>
    intro m hm
    induction m with
    | zero => omega
    | succ m ih =>
      show nsm m (cb 0) + cb 0 m = 1
      by_cases c : m = 0
      · subst c; rfl
      · rw [ih (by omega)]
        show 2 ^ 0 + (if m = 0 then 1 else 0) = 1
        rw [if_neg c]
  | succ n ih =>
    intro m hm
    obtain ⟨k, rfl⟩ : ∃ k, m = k + 1 := ⟨m - 1, by omega⟩
    rw [nsm_cb1, ih (k + 1) (by omega), ih k (by omega), Nat.pow_succ]
    omega
theorem RS_cong {kd fg sl pc wd pl aim : Int32} {e l : Nat} {φ φ' : Int32 → Int32 → Int64} (h : ∀ i t, i ≤ 2 * e → t ≤ 2 * l → φ (bhS pl sl aim e l i t) (lnS kd fg sl pc wd pl aim e l i t) = φ' (bhS pl sl aim e l i t) (lnS kd fg sl pc wd pl aim e l i t)) : RS kd fg sl pc wd pl aim e l φ = RS kd fg sl pc wd pl aim e l φ' := by
  unfold RS
  refine sm_c (fun i hi => sm_c (fun t ht => ?_))
  rw [h i t (by omega) (by omega)]
theorem RS_n {kd fg sl pc wd pl aim : Int32} {e l M : Nat} {φ : Int32 → Int32 → Int64} {ψ : Nat → Nat → Nat} (h : ∀ i t, i ≤ 2 * e → t ≤ 2 * l → φ (bhS pl sl aim e l i t) (lnS kd fg sl pc wd pl aim e l i t) = lN (ψ i t) ∧ ψ i t ≤ M) : ∃ V, RS kd fg sl pc wd pl aim e l φ = lN V ∧ V ≤ M * 2 ^ (2 * (e + l)) := by
  refine ⟨nsm (2 * e + 1) (fun i => nsm (2 * l + 1) (fun t => (cb (2 * e) i * cb (2 * l) t) * ψ i t)), ?_, ?_⟩
  · unfold RS
    refine sm_n (fun i hi => sm_n (fun t ht => ?_))
    rw [(h i t (by omega) (by omega)).1, lN_mul, lN_mul]
  · have h1 : nsm (2 * e + 1) (fun i => nsm (2 * l + 1) (fun t => (cb (2 * e) i * cb (2 * l) t) * ψ i t)) ≤ nsm (2 * e + 1) (fun i => nsm (2 * l + 1) (fun t => (cb (2 * e) i * cb (2 * l) t) * M)) :=
      nsm_le (fun i hi => nsm_le (fun t ht => Nat.mul_le_mul_left _ (h i t (by omega) (by omega)).2))
    have h2 : nsm (2 * e + 1) (fun i => nsm (2 * l + 1) (fun t => (cb (2 * e) i * cb (2 * l) t) * M)) = M * 2 ^ (2 * (e + l)) := by
      have h3 : (fun i => nsm (2 * l + 1) (fun t => (cb (2 * e) i * cb (2 * l) t) * M)) = fun i => cb (2 * e) i * (2 ^ (2 * l) * M) := by
        funext i
        rw [nsm_mulr, nsm_mul, nsm_cb (2 * l) _ (by omega), Nat.mul_assoc]
      rw [h3, nsm_mulr, nsm_cb (2 * e) _ (by omega), ← Nat.mul_assoc, ← Nat.pow_add, Nat.mul_comm, show 2 * e + 2 * l = 2 * (e + l) from by omega]
    omega
/-- a jumper's sums, by its numbers -/
def RV (J : Nat → Int32) (wd pl : Int32) (S : Nat) (φ : Int32 → Int32 → Int64) : Int64 := RS (J 1) (J 2) (J 5) (J 6) wd pl (aimS (J 1) (J 2)) (S - (J 7).toNatClampNeg) (J 7).toNatClampNeg φ
def NJ (J : Nat → Int32) : Prop := JB (J 1) (J 2) (J 3) (J 4) (J 5) (J 6) (J 7) (J 8)
def p0 (b : Int32) (x _ : Int32) : Int64 := if x = b then 1 else 0
def p1 (x _ : Int32) : Int64 := if x < 0 then 1 else 0
def p2 (_ n : Int32) : Int64 := lN n.toNatClampNeg
def p3 (a : Nat) (_ n : Int32) : Int64 := gtI a n.toNatClampNeg
def pL (v : Nat) (_ n : Int32) : Int64 := if n.toNatClampNeg = v then 1 else 0
theorem RV_J {J J' : Nat → Int32} (h : ∀ k, 1 ≤ k → k ≤ 8 → J k = J' k) (wd pl : Int32) (S : Nat) (φ : Int32 → Int32 → Int64) : RV J wd pl S φ = RV J' wd pl S φ := by
  unfold RV
  rw [h 1 (by omega) (by omega), h 2 (by omega) (by omega), h 5 (by omega) (by omega), h 6 (by omega) (by omega), h 7 (by omega) (by omega)]
theorem NJ_J {J J' : Nat → Int32} (h : ∀ k, 1 ≤ k → k ≤ 8 → J k = J' k) (n : NJ J) : NJ J' := by
  unfold NJ at n ⊢
  rw [← h 1 (by omega) (by omega), ← h 2 (by omega) (by omega), ← h 3 (by omega) (by omega), ← h 4 (by omega) (by omega), ← h 5 (by omega) (by omega), ← h 6 (by omega) (by omega), ← h 7 (by omega) (by omega), ← h 8 (by omega) (by omega)]
  exact n
section RVS
variable {J : Nat → Int32} {wd pl : Int32} {S : Nat}
/-- a run's LENGTH is a small number -/
theorem rv_ln (hJ : NJ J) (hw : WW wd) (h4 : 4 ≤ S) (h20 : S ≤ 20) (hp : -5000 ≤ pl.toInt) (hp2 : pl.toInt ≤ 5000) : (J 7).toNatClampNeg ≤ 4 ∧ J 7 = nI (J 7).toNatClampNeg ∧ ∀ i t, i ≤ 2 * (S - (J 7).toNatClampNeg) → t ≤ 2 * (J 7).toNatClampNeg → ∃ n : Nat, n ≤ 435 ∧ lnS (J 1) (J 2) (J 5) (J 6) wd pl (aimS (J 1) (J 2)) (S - (J 7).toNatClampNeg) (J 7).toNatClampNeg i t = nI n := by
  obtain ⟨κ, f, a, g, s, p, l, m, hκ, hf, ha, hg, hs, hpp, hl, hm, e1, e2, e3, e4, e5, e6, e7, e8⟩ := hJ
  have el : (J 7).toNatClampNeg = l := by rw [e7, nI_clamp (by omega)]
  rw [el]
  have hab := aim_b (kd := J 1) hf e2
  exact ⟨hl, e7, fun i t hi ht => ln_b hf e2 hpp e6 hw hs e5 (by omega) hl hi ht hp hp2 hab.1 hab.2⟩
theorem rv_cong (hJ : NJ J) (hw : WW wd) (h4 : 4 ≤ S) (h20 : S ≤ 20) (hp : -5000 ≤ pl.toInt) (hp2 : pl.toInt ≤ 5000) {φ φ' : Int32 → Int32 → Int64} (h : ∀ x n, n ≤ 435 → φ x (nI n) = φ' x (nI n)) : RV J wd pl S φ = RV J wd pl S φ' := by
  have hz := rv_ln hJ hw h4 h20 hp hp2
  refine RS_cong (fun i t hi ht => ?_)
  obtain ⟨n, hn, e⟩ := hz.2.2 i t hi ht
  rw [e]
  exact h _ n hn
theorem rv_n (hJ : NJ J) (hw : WW wd) (h4 : 4 ≤ S) (h20 : S ≤ 20) (hp : -5000 ≤ pl.toInt) (hp2 : pl.toInt ≤ 5000) {M : Nat} {φ : Int32 → Int32 → Int64} (h : ∀ x n, n ≤ 435 → ∃ k, k ≤ M ∧ φ x (nI n) = lN k) : ∃ V, RV J wd pl S φ = lN V ∧ V ≤ M * 2 ^ (2 * S) := by
  have hz := rv_ln hJ hw h4 h20 hp hp2
  have key : ∀ i t, ∃ k, (i ≤ 2 * (S - (J 7).toNatClampNeg) → t ≤ 2 * (J 7).toNatClampNeg → φ (bhS pl (J 5) (aimS (J 1) (J 2)) (S - (J 7).toNatClampNeg) (J 7).toNatClampNeg i t) (lnS (J 1) (J 2) (J 5) (J 6) wd pl (aimS (J 1) (J 2)) (S - (J 7).toNatClampNeg) (J 7).toNatClampNeg i t) = lN k ∧ k ≤ M) := by
    intro i t
    by_cases c : i ≤ 2 * (S - (J 7).toNatClampNeg) ∧ t ≤ 2 * (J 7).toNatClampNeg
    · obtain ⟨n, hn, e⟩ := hz.2.2 i t c.1 c.2
      obtain ⟨k, hk, e2⟩ := h (bhS pl (J 5) (aimS (J 1) (J 2)) (S - (J 7).toNatClampNeg) (J 7).toNatClampNeg i t) n hn
      exact ⟨k, fun _ _ => ⟨by rw [e]; exact e2, hk⟩⟩
    · exact ⟨0, fun h1 h2 => absurd ⟨h1, h2⟩ c⟩
  have z := RS_n (kd := J 1) (fg := J 2) (sl := J 5) (pc := J 6) (wd := wd) (pl := pl) (aim := aimS (J 1) (J 2)) (e := S - (J 7).toNatClampNeg) (l := (J 7).toNatClampNeg) (M := M) (φ := φ) (ψ := fun i t => (key i t).choose) (fun i t hi ht => (key i t).choose_spec hi ht)
  rw [show S - (J 7).toNatClampNeg + (J 7).toNatClampNeg = S from by omega] at z
  exact z
theorem if_n (c : Prop) [Decidable c] : ∃ k, k ≤ 1 ∧ (if c then (1 : Int64) else 0) = lN k := by
  split
  · exact ⟨1, Nat.le_refl 1, rfl⟩
  · exact ⟨0, by omega, rfl⟩
theorem rv_0 (hJ : NJ J) (hw : WW wd) (h4 : 4 ≤ S) (h20 : S ≤ 20) (hp : -5000 ≤ pl.toInt) (hp2 : pl.toInt ≤ 5000) (b : Int32) : ∃ V, RV J wd pl S (p0 b) = lN V ∧ V ≤ 2 ^ (2 * S) := by
  obtain ⟨V, h1, h2⟩ := rv_n (M := 1) (φ := p0 b) hJ hw h4 h20 hp hp2 (fun x n _ => if_n _)
  exact ⟨V, h1, by omega⟩
theorem rv_1 (hJ : NJ J) (hw : WW wd) (h4 : 4 ≤ S) (h20 : S ≤ 20) (hp : -5000 ≤ pl.toInt) (hp2 : pl.toInt ≤ 5000) : ∃ V, RV J wd pl S p1 = lN V ∧ V ≤ 2 ^ (2 * S) := by
  obtain ⟨V, h1, h2⟩ := rv_n (M := 1) (φ := p1) hJ hw h4 h20 hp hp2 (fun x n _ => if_n _)
  exact ⟨V, h1, by omega⟩
theorem rv_2 (hJ : NJ J) (hw : WW wd) (h4 : 4 ≤ S) (h20 : S ≤ 20) (hp : -5000 ≤ pl.toInt) (hp2 : pl.toInt ≤ 5000) : ∃ V, RV J wd pl S p2 = lN V ∧ V ≤ 435 * 2 ^ (2 * S) :=
  rv_n (M := 435) (φ := p2) hJ hw h4 h20 hp hp2 (fun x n hn => ⟨n, hn, by unfold p2; rw [nI_clamp (by omega)]⟩)
theorem rv_3 (hJ : NJ J) (hw : WW wd) (h4 : 4 ≤ S) (h20 : S ≤ 20) (hp : -5000 ≤ pl.toInt) (hp2 : pl.toInt ≤ 5000) (a : Nat) : ∃ V, RV J wd pl S (p3 a) = lN V ∧ V ≤ 2 ^ (2 * S) := by
  obtain ⟨V, h1, h2⟩ := rv_n (M := 1) (φ := p3 a) hJ hw h4 h20 hp hp2 (fun x n _ => if_n _)
  exact ⟨V, h1, by omega⟩
theorem rv_L (hJ : NJ J) (hw : WW wd) (h4 : 4 ≤ S) (h20 : S ≤ 20) (hp : -5000 ≤ pl.toInt) (hp2 : pl.toInt ≤ 5000) (v : Nat) : ∃ V, RV J wd pl S (pL v) = lN V ∧ V ≤ 2 ^ (2 * S) := by
  obtain ⟨V, h1, h2⟩ := rv_n (M := 1) (φ := pL v) hJ hw h4 h20 hp hp2 (fun x n _ => if_n _)
  exact ⟨V, h1, by omega⟩
end RVS
theorem sh_all {S : Nat} (h : S ≤ 20) : shl64 1 (2 * nI S) = lN (2 ^ (2 * S)) := by
  have e : (2 : Int32) * nI S = nI (2 * S) := pk_mul 2 S
  unfold shl64
  rw [e]
  have := wb_shl 1 (k := 2 * S) (by omega)
  rw [Nat.one_mul] at this
  exact this
theorem pw_b {S : Nat} (h : S ≤ 20) : 2 ^ (2 * S) ≤ 2 ^ 40 ∧ 0 < 2 ^ (2 * S) := ⟨Nat.pow_le_pow_right (by decide) (by omega), Nat.two_pow_pos _⟩
/-- the class's spread, said whole -/
theorem u_spread {h : AH} {p S : Nat} {wd pl : Int32} (b : Int32) (hk : JK h p) (hJ : NJ (h.1 p)) (T : WT h) (hw : WW wd) (h4 : 4 ≤ S) (h20 : S ≤ 20) (hp : -5000 ≤ pl.toInt) (hp2 : pl.toInt ≤ 5000) :
    ∃ h', X1_spread p (nI S) wd pl b h = some ((), h') ∧ h'.1 = h.1 ∧ h'.2.2 = h.2.2 ∧ (∀ o, o ≠ 8 → o ≠ 31 → h'.2.1 o = h.2.1 o) ∧ h'.2.1 8 2 = lN (2 ^ (2 * S)) ∧ (∀ a, Ph (gtI a) h' = RV (h.1 p) wd pl S (p3 a)) ∧ Ph lN h' = RV (h.1 p) wd pl S p2 ∧ h'.2.1 8 3 = RV (h.1 p) wd pl S p1 ∧ h'.2.1 8 4 = RV (h.1 p) wd pl S (p0 b) ∧ ∀ v, v < 1000 → h'.2.1 31 v = RV (h.1 p) wd pl S (pL v) := by
  obtain ⟨κ, f, a, g, s, pp, l, m, hκ, hf, ha, hg, hs, hpp, hl, hm, e1, e2, e3, e4, e5, e6, e7, e8⟩ := hJ
  obtain ⟨h', a1, a2, a3, a4, a5, a6, a7, a8⟩ := s_spread (b := b) (pl := pl) (S := S) (l := l) ⟨hk, hf, e2, hpp, e6, hs, e5, hl, e7⟩ T hw h4 h20 hp hp2
  have el : (h.1 p 7).toNatClampNeg = l := by rw [e7, nI_clamp (by omega)]
  refine ⟨h', a1, a2, a3, a4, by rw [a5, sh_all h20], fun a => ?_, ?_, ?_, ?_, fun v hv => ?_⟩
  · rw [a6]; unfold RV; rw [el]; rfl
  · rw [a6]; unfold RV; rw [el]; rfl
  · rw [a7]; unfold RV; rw [el]; rfl
  · rw [a8]; unfold RV; rw [el]; rfl
  · have z : ∀ n, sm n (fun u => (if u = v then (1 : Int64) else 0) * h'.2.1 31 u) = if v < n then h'.2.1 31 v else 0 := by
      intro n
      induction n with
      | zero => rw [if_neg (by omega)]; rfl
      | succ n ih =>
        show sm n (fun u => (if u = v then (1 : Int64) else 0) * h'.2.1 31 u) + (if n = v then (1 : Int64) else 0) * h'.2.1 31 n = _
        rw [ih]
        by_cases c : n = v
        · subst c
          rw [if_neg (by omega), if_pos rfl, if_pos (by omega), Int64.one_mul, Int64.zero_add]
        · rw [if_neg c, Int64.zero_mul, Int64.add_zero]
          by_cases d : v < n
          · rw [if_pos d, if_pos (by omega)]
          · rw [if_neg d, if_neg (by omega)]
    have z2 := a6 (fun u => if u = v then 1 else 0)
    unfold Ph at z2
    rw [z 1000, if_pos hv] at z2
    rw [z2]; unfold RV; rw [el]; rfl
/-- the reference's counts, said whole -/
def RJ (h : AH) (j : Nat) : Nat → Int32 := fun k => h.1 (k + 1) j
theorem u_count {h : AH} {j S : Nat} (hj : j < 4) (hJ : NJ (RJ h j)) (e12 : h.1 0 12 = nI S) (hw : WW (h.1 0 14)) (h4 : 4 ≤ S) (h20 : S ≤ 20) {pl : Int32} (hp : -5000 ≤ pl.toInt) (hp2 : pl.toInt ≤ 5000) :
    (∀ b, ∃ h', X11_counted (nI j) pl 0 b h = some (RV (RJ h j) (h.1 0 14) pl S (p0 b), h') ∧ WO h h') ∧ (∃ h', X11_counted (nI j) pl 1 0 h = some (RV (RJ h j) (h.1 0 14) pl S p1, h') ∧ WO h h') ∧ (∀ b, ∃ h', X11_counted (nI j) pl 2 b h = some (RV (RJ h j) (h.1 0 14) pl S p2, h') ∧ WO h h') ∧ (∀ a, a < 1000 → ∃ h', X11_counted (nI j) pl 3 (nI a) h = some (RV (RJ h j) (h.1 0 14) pl S (p3 a), h') ∧ WO h h') := by
  have hJ' := hJ
  obtain ⟨κ, f, a, g, s, pp, l, m, hκ, hf, ha, hg, hs, hpp, hl, hm, e1, e2, e3, e4, e5, e6, e7, e8⟩ := hJ'
  have e7 : h.1 8 j = nI l := e7
  have el : (RJ h j 7).toNatClampNeg = l := by
    show (h.1 8 j).toNatClampNeg = l
    rw [e7, nI_clamp (by omega)]
  have gen : ∀ (what asked : Int32) (φ : Int32 → Int32 → Int64) (ψ : Int32 → Int32 → Int64), (∀ x ln : Int32, (coI what asked x ln).toInt64 = φ x (if 0 ≤ x then ln else 0)) → (∀ x n, n ≤ 435 → φ x (nI n) = ψ x (nI n)) → ∃ h', X11_counted (nI j) pl what asked h = some (RV (RJ h j) (h.1 0 14) pl S ψ, h') ∧ WO h h' := by
    intro what asked φ ψ h1 h2
    obtain ⟨h', a1, a2⟩ := s_counted hj e12 h4 h20 e7 hl pl what asked (φ := φ) (fun x loss => h1 x _)
    refine ⟨h', ?_, a2⟩
    rw [a1, ← rv_cong hJ hw h4 h20 hp hp2 h2]
    unfold RV
    rw [el]
    rfl
  refine ⟨fun b => gen 0 b (p0 b) (p0 b) (fun x ln => ?_) (fun _ _ _ => rfl), gen 1 0 p1 p1 (fun x ln => ?_) (fun _ _ _ => rfl), fun b => gen 2 b (fun _ n => n.toInt64) p2 (fun x ln => ?_) (fun x n hn => ?_), fun a ha => gen 3 (nI a) (fun _ n => if n ≤ nI a then 0 else 1) (p3 a) (fun x ln => ?_) (fun x n hn => ?_)⟩
  · unfold coI p0
    rw [if_pos rfl]
    split <;> rfl
  · unfold coI p1
    rw [if_neg (by decide), if_pos rfl]
    by_cases c : 0 ≤ x
    · rw [if_pos c, if_neg (Int32.not_lt.mpr c)]; rfl
    · rw [if_neg c, if_pos (Int32.not_le.mp c)]; rfl
  · unfold coI
    rw [if_neg (by decide), if_neg (by decide), if_pos rfl]
  · unfold p2
    rw [nI_l (by omega), nI_clamp (by omega)]
  · unfold coI
    rw [if_neg (by decide), if_neg (by decide), if_neg (by decide)]
    by_cases c : 0 ≤ x
    · rw [if_pos c, if_neg (Int32.not_lt.mpr c)]
      split <;> rfl
    · rw [if_neg c, if_pos (Int32.not_le.mp c), if_pos (nI_pos' (by omega))]
      rfl
  · unfold p3 gtI
    rw [nI_clamp (by omega)]
    by_cases c : n ≤ a
    · rw [if_pos (nI_le c (by omega)), if_neg (by omega)]
    · rw [if_neg (nI_ge (by omega) (by omega)), if_pos (by omega)]
end
section
/-! fractions; shares; lengths counted by the reference -/
theorem rm_n {x y : Nat} (hx : x < 2 ^ 63) (h0 : 0 < y) (hy : y < 2 ^ 63) : rm64 (lN x) (lN y) = lN (x % y) := pk_lRem hx h0 hy
theorem lN_n0 {y : Nat} (h0 : 0 < y) (hy : y < 2 ^ 63) : lN y ≠ 0 := fun z => by
  have := (pk_lEQ (a := y) (b := 0) hy (by decide)).mp z
  omega
theorem gcd_2 {x y : Nat} (hy : 0 < y) : Nat.gcd x y = Nat.gcd y (x % y) := by
  rw [Nat.gcd_comm x y, Nat.gcd_rec y x, Nat.gcd_comm]
theorem lc_z : lcmpV (lN 0) 0 = 0 := (lc_0 (lN 0)).mpr rfl
/-- the class's loop -/
theorem s_fracL (v0 v2 : Int64) (v4 : Int32) (h : AH) : ∀ (k x y i f : Nat), x < 2 ^ 63 → y < 2 ^ k → k ≤ 62 → i + 2 * k < 1000 → 2 * k < f → X10_fraction_l9 v0 v2 v4 f (lN x) (lN y) (nI i) h = X10_fraction_j45 v0 v2 v4 (lN (Nat.gcd x y)) h := by
  intro k
  induction k with
  | zero =>
    intro x y i f hx hy hk hi hf
    obtain ⟨f, rfl⟩ : ∃ g, f = g + 1 := ⟨f - 1, by omega⟩
    have y0 : y = 0 := by omega
    subst y0
    rw [X10_fraction_l9.eq_2, if_neg (show ¬ (1000 : Int32) ≤ nI i from nI_ge (b := 1000) (by omega) (by decide)), if_pos lc_z, Nat.gcd_zero_right]
  | succ k ih =>
    intro x y i f hx hy hk hi hf
    obtain ⟨f, rfl⟩ : ∃ g, f = g + 2 := ⟨f - 2, by omega⟩
    have hp : 2 ^ (k + 1) ≤ 2 ^ 62 := Nat.pow_le_pow_right (by decide) hk
    by_cases y0 : y = 0
    · subst y0
      rw [X10_fraction_l9.eq_2, if_neg (show ¬ (1000 : Int32) ≤ nI i from nI_ge (b := 1000) (by omega) (by decide)), if_pos lc_z, Nat.gcd_zero_right]
    · have hy63 : y < 2 ^ 63 := by omega
      rw [X10_fraction_l9.eq_2, if_neg (show ¬ (1000 : Int32) ≤ nI i from nI_ge (b := 1000) (by omega) (by decide)), if_neg (fun z => lN_n0 (by omega) hy63 ((lc_0 _).mp z)), if_neg (lN_n0 (by omega) hy63), vl_e, vl_e, nI_1, rm_n hx (by omega) hy63, gcd_2 (by omega : 0 < y)]
      have hr : x % y < y := Nat.mod_lt _ (by omega)
      by_cases r0 : x % y = 0
      · rw [r0, X10_fraction_l9.eq_2, if_neg (show ¬ (1000 : Int32) ≤ nI (i + 1) from nI_ge (b := 1000) (by omega) (by decide)), if_pos lc_z, Nat.gcd_zero_right]
      · rw [X10_fraction_l9.eq_2, if_neg (show ¬ (1000 : Int32) ≤ nI (i + 1) from nI_ge (b := 1000) (by omega) (by decide)), if_neg (fun z => lN_n0 (by omega) (by omega) ((lc_0 _).mp z)), if_neg (lN_n0 (by omega) (by omega)), vl_e, vl_e, nI_1, rm_n hy63 (by omega) (by omega), gcd_2 (by omega : 0 < x % y)]
        have h2 : 2 * (y % (x % y)) < 2 ^ (k + 1) := by
          have h3 : y % (x % y) < x % y := Nat.mod_lt _ (by omega)
          have h4 := Nat.div_add_mod y (x % y)
          have h5 : 0 < y / (x % y) := Nat.div_pos (by omega) (by omega)
          have h6 : x % y ≤ (x % y) * (y / (x % y)) := Nat.le_mul_of_pos_right _ h5
          omega
        rw [Nat.pow_succ] at h2
        exact ih (x % y) (y % (x % y)) (i + 2) f (by omega) (by omega) (by omega) (by omega) (by omega)
theorem s_divL (h : AH) : ∀ (k x y f : Nat), x < 2 ^ 63 → y < 2 ^ k → k ≤ 62 → 2 * k < f → X11_divisor_l6 f (lN x) (lN y) h = some (lN (Nat.gcd x y), h) := by
  intro k
  induction k with
  | zero =>
    intro x y f hx hy hk hf
    obtain ⟨f, rfl⟩ : ∃ g, f = g + 1 := ⟨f - 1, by omega⟩
    have y0 : y = 0 := by omega
    subst y0
    rw [X11_divisor_l6.eq_2, if_pos lc_z, Nat.gcd_zero_right]
  | succ k ih =>
    intro x y f hx hy hk hf
    obtain ⟨f, rfl⟩ : ∃ g, f = g + 2 := ⟨f - 2, by omega⟩
    have hp : 2 ^ (k + 1) ≤ 2 ^ 62 := Nat.pow_le_pow_right (by decide) hk
    by_cases y0 : y = 0
    · subst y0
      rw [X11_divisor_l6.eq_2, if_pos lc_z, Nat.gcd_zero_right]
    · have hy63 : y < 2 ^ 63 := by omega
      rw [X11_divisor_l6.eq_2, if_neg (fun z => lN_n0 (by omega) hy63 ((lc_0 _).mp z)), if_neg (lN_n0 (by omega) hy63), vl_e, rm_n hx (by omega) hy63, gcd_2 (by omega : 0 < y)]
      have hr : x % y < y := Nat.mod_lt _ (by omega)
      by_cases r0 : x % y = 0
      · rw [r0, X11_divisor_l6.eq_2, if_pos lc_z, Nat.gcd_zero_right]
      · rw [X11_divisor_l6.eq_2, if_neg (fun z => lN_n0 (by omega) (by omega) ((lc_0 _).mp z)), if_neg (lN_n0 (by omega) (by omega)), vl_e, rm_n hy63 (by omega) (by omega), gcd_2 (by omega : 0 < x % y)]
        have h2 : 2 * (y % (x % y)) < 2 ^ (k + 1) := by
          have h3 : y % (x % y) < x % y := Nat.mod_lt _ (by omega)
          have h4 := Nat.div_add_mod y (x % y)
          have h5 : 0 < y / (x % y) := Nat.div_pos (by omega) (by omega)
          have h6 : x % y ≤ (x % y) * (y / (x % y)) := Nat.le_mul_of_pos_right _ h5
          omega
        rw [Nat.pow_succ] at h2
        exact ih (x % y) (y % (x % y)) f (by omega) (by omega) (by omega) (by omega)
/-- both fractions are one -/
theorem s_frac {A B : Nat} (hA : A < 2 ^ 62) (h0 : 0 < B) (hB : B < 2 ^ 62) (part : Int32) : ∃ v, (∀ h, X10_fraction (lN A) (lN B) part h = some (v, h)) ∧ ∀ h, X11_partOf (lN A) (lN B) part h = some (v, h) := by
  have hg : 0 < Nat.gcd A B := Nat.gcd_pos_of_pos_right _ h0
  have hg2 : Nat.gcd A B ≤ B := Nat.le_of_dvd h0 (Nat.gcd_dvd_right A B)
  have hgn : lN (Nat.gcd A B) ≠ 0 := lN_n0 hg (by omega)
  refine ⟨(if part = 0 then lN A else lN B) / lN (Nat.gcd A B), fun h => ?_, fun h => ?_⟩
  · have e : X10_fraction (lN A) (lN B) part h = X10_fraction_j45 (lN A) (lN B) part (lN (Nat.gcd A B)) h := s_fracL (lN A) (lN B) part h 62 A B 0 FU (by omega) hB (by decide) (by decide) (by unfold FU; omega)
    rw [e]
    unfold X10_fraction_j45 X10_fraction_j55
    split
    · rw [if_neg (fun z => hgn ((lc_0 _).mp z))]
      try rw [if_neg hgn]
    · rw [if_neg (fun z => hgn ((lc_0 _).mp z))]
      try rw [if_neg hgn]
  · have e : X11_divisor (lN A) (lN B) h = some (lN (Nat.gcd A B), h) := s_divL h 62 A B FU (by omega) hB (by decide) (by unfold FU; omega)
    unfold X11_partOf X11_partOf_j10
    split
    · rw [e, bd_s, if_neg hgn]
    · rw [e, bd_s, if_neg hgn]
/-- of ten thousand, cut -/
def sh (w S : Nat) : Nat := w * 10000 / 2 ^ (2 * S)
theorem sh_le {w S : Nat} (h : w ≤ 2 ^ (2 * S)) : sh w S ≤ 10000 := by
  unfold sh
  have h0 := Nat.two_pow_pos (2 * S)
  refine Nat.div_le_of_le_mul ?_
  rw [Nat.mul_comm w]
  exact Nat.le_trans (Nat.mul_le_mul_left _ h) (Nat.le_of_eq (Nat.mul_comm _ _))
theorem s_share {h : AH} {w S : Nat} (hS : S ≤ 20) (hw : w ≤ 2 ^ (2 * S)) (e : h.2.1 8 2 = lN (2 ^ (2 * S))) : X1_share (lN w) h = some (nI (sh w S), h) := by
  have hp := pw_b hS
  have hn : lN (2 ^ (2 * S)) ≠ 0 := lN_n0 hp.2 (by omega)
  have hl : lcmpV (lN (2 ^ (2 * S))) 0 = 1 := by
    unfold lcmpV
    rw [if_pos (show (0 : Int64) < lN (2 ^ (2 * S)) from (pk_lLT (a := 0) (by decide) (by omega)).mpr hp.2)]
  unfold X1_share
  rw [e, hl, if_pos (by decide), if_neg hn]
  have e1 : lN w * 10000 = lN (w * 10000) := lN_mul w 10000
  rw [e1, pk_lDiv (by omega) hp.2 (by omega), lN_i]
  rfl
theorem s_pow {v : AH} {w S : Nat} (hS : S ≤ 20) (hw : w ≤ 2 ^ (2 * S)) (e : v.1 0 12 = nI S) : X11_partOfWays (lN w) v = some (lN (sh w S), v) := by
  have hp := pw_b hS
  have hn : lN (2 ^ (2 * S)) ≠ 0 := lN_n0 hp.2 (by omega)
  have ea : X11_allWays v = some (lN (2 ^ (2 * S)), v) := by
    unfold X11_allWays
    rw [e, sh_all hS]
  unfold X11_partOfWays
  rw [ea, bd_s, if_neg hn, ea, bd_s, if_neg hn, ea, bd_s, if_neg hn]
  have q1 : lN w / lN (2 ^ (2 * S)) = lN (w / 2 ^ (2 * S)) := pk_lDiv (by omega) hp.2 (by omega)
  have q2 : rm64 (lN w) (lN (2 ^ (2 * S))) = lN (w % 2 ^ (2 * S)) := rm_n (by omega) hp.2 (by omega)
  have q3 : w % 2 ^ (2 * S) < 2 ^ (2 * S) := Nat.mod_lt _ hp.2
  have q4 : lN (w / 2 ^ (2 * S)) * 10000 = lN (w / 2 ^ (2 * S) * 10000) := lN_mul _ 10000
  have q5 : lN (w % 2 ^ (2 * S)) * 10000 = lN (w % 2 ^ (2 * S) * 10000) := lN_mul _ 10000
  rw [q1, q2, q4, q5, pk_lDiv (by omega) hp.2 (by omega), lN_add]
  have q6 : w * 10000 = w % 2 ^ (2 * S) * 10000 + 2 ^ (2 * S) * (w / 2 ^ (2 * S) * 10000) := by
    have := Nat.div_add_mod w (2 ^ (2 * S))
    rw [← Nat.mul_assoc, Nat.add_comm, ← Nat.add_mul, this]
  unfold sh
  rw [q6, Nat.add_mul_div_left _ _ hp.2, Nat.add_comm]
section FL
variable {p j l e : Nat} {pl : Int32}
/-- one summand for a LENGTH v -/
def fF (g : AH) (j l e : Nat) (pl : Int32) (v k : Nat) : Int64 :=
  (lN (wy e (k / 41)) * lN (wy l (k % 41))) * (if (if 0 ≤ bhR pl (g.1 6 j) (aimS (g.1 2 j) (g.1 3 j)) l (k / 41) (k % 41) then lenS (g.1 2 j) (g.1 3 j) (g.1 7 j) (g.1 0 14) (bhR pl (g.1 6 j) (aimS (g.1 2 j) (g.1 3 j)) l (k / 41) (k % 41)) (lsR pl (g.1 6 j) (aimS (g.1 2 j) (g.1 3 j)) l (k / 41)) else 0).toNatClampNeg = v then 1 else 0)
/-- the same int part, other rows of longs than p -/
theorem s_flL (hj : j < 4) (hl : l ≤ 4) (hp18 : p ≠ 18) (hp19 : p ≠ 19) {g : AH} (h18 : ∀ k, k < 41 → g.2.1 18 k = lN (wy e k)) (h19 : ∀ k, k < 41 → g.2.1 19 k = lN (wy l k))
    (hb : ∀ k, k < 1681 → lN (wy e (k / 41)) * lN (wy l (k % 41)) ≠ 0 → ∃ n, n < 1000 ∧ (if 0 ≤ bhR pl (g.1 6 j) (aimS (g.1 2 j) (g.1 3 j)) l (k / 41) (k % 41) then lenS (g.1 2 j) (g.1 3 j) (g.1 7 j) (g.1 0 14) (bhR pl (g.1 6 j) (aimS (g.1 2 j) (g.1 3 j)) l (k / 41) (k % 41)) (lsR pl (g.1 6 j) (aimS (g.1 2 j) (g.1 3 j)) l (k / 41)) else 0) = nI n) :
    ∀ (n k : Nat) (h : AH), 1681 < k + n → k ≤ 1681 → LO p g h → (∀ v, v < 1000 → h.2.1 p v = sm k (fF g j l e pl v)) →
    ∃ h', X11_findLengths_l56 p 1000 (nI j) pl (nI l) n (nI k) h = X11_findLengths_l207 p 1000 FU 0 h' ∧ LO p g h' ∧ ∀ v, v < 1000 → h'.2.1 p v = sm 1681 (fF g j l e pl v) := by
  intro n
  induction n with
  | zero => intro k h h1 h2; omega
  | succ n ih =>
    intro k h h1 h2 L A
    rw [X11_findLengths_l56.eq_2]
    by_cases c : k = 1681
    · subst c
      rw [if_pos (show (1681 : Int32) ≤ nI 1681 from Int32.le_refl _)]
      exact ⟨h, rfl, L, A⟩
    · have q1 : nI k / 41 = nI (k / 41) := pk_div (a := k) (d := 41) (by omega) (by decide) (by decide)
      have q2 : rm32 (nI k) 41 = nI (k % 41) := pk_rem (a := k) (d := 41) (by omega) (by decide) (by decide)
      rw [if_neg (show ¬ (1681 : Int32) ≤ nI k from nI_ge (b := 1681) (by omega) (by decide)), q1, q2, ck_nI _ (by omega) (by decide), ck_nI _ (by omega) (by decide), vl_e, nI_clamp (by omega), nI_clamp (by omega), L.2.2 18 (Ne.symm hp18), L.2.2 19 (Ne.symm hp19), h18 _ (by omega), h19 _ (by omega), L.1]
      by_cases d : lN (wy e (k / 41)) * lN (wy l (k % 41)) = 0
      · rw [if_pos ((lc_0 _).mpr d)]
        unfold X11_findLengths_j198
        rw [vl_e, nI_1]
        refine ih (k + 1) h (by omega) (by omega) L (fun v hv => ?_)
        rw [A v hv]
        show _ = sm k (fF g j l e pl v) + fF g j l e pl v k
        unfold fF
        rw [d, Int64.zero_mul, Int64.add_zero]
      · rw [if_neg (fun z => d ((lc_0 _).mp z)), ck_nI _ hj (by decide), vl_e, nI_clamp (by omega)]
        obtain ⟨nn, hnn, enn⟩ := hb k (by omega) d
        -- the last step, by the LENGTH
        have last : ∃ h', X11_findLengths_j192 p 1000 (nI j) pl (nI l) (nI k) (lN (wy e (k / 41)) * lN (wy l (k % 41))) (X11_findLengths_l56 p 1000 (nI j) pl (nI l) n) (nI nn) h = X11_findLengths_l207 p 1000 FU 0 h' ∧ LO p g h' ∧ ∀ v, v < 1000 → h'.2.1 p v = sm 1681 (fF g j l e pl v) := by
          unfold X11_findLengths_j192 X11_findLengths_j198
          rw [ck_nI _ hnn (by decide), ck_nI _ hnn (by decide), vl_e, vl_e, nI_1, nI_clamp (by omega)]
          refine ih (k + 1) _ (by omega) (by omega) (L.tr (LO.set h _ _)) (fun v hv => ?_)
          rw [sL_at]
          show _ = sm k (fF g j l e pl v) + fF g j l e pl v k
          unfold fF
          rw [enn, nI_clamp (by omega)]
          by_cases w : v = nn
          · subst w
            rw [if_pos ⟨rfl, rfl⟩, if_pos rfl, Int64.mul_one, A v hv]
            rfl
          · rw [if_neg (fun z => w z.2), if_neg (fun z => w z.symm), Int64.mul_zero, Int64.add_zero, A v hv]
            rfl
        have fin : ∃ h', X11_findLengths_j135 p 1000 (nI j) pl (nI l) (nI k) (lN (wy e (k / 41)) * lN (wy l (k % 41))) (bhR0 pl (g.1 6 j) (k / 41)) (X11_findLengths_l56 p 1000 (nI j) pl (nI l) n) (bkS (aimS (g.1 2 j) (g.1 3 j)) l (bhR0 pl (g.1 6 j) (k / 41))) h = X11_findLengths_l207 p 1000 FU 0 h' ∧ LO p g h' ∧ ∀ v, v < 1000 → h'.2.1 p v = sm 1681 (fF g j l e pl v) := by
          unfold X11_findLengths_j135
          rw [ck_nI _ hj (by decide), q2, nI_clamp (by omega), vl_e, L.1]
          have two : ∀ s0 : Int32, s0 = ab32 (bkS (aimS (g.1 2 j) (g.1 3 j)) l (bhR0 pl (g.1 6 j) (k / 41))) → 0 ≤ bhR pl (g.1 6 j) (aimS (g.1 2 j) (g.1 3 j)) l (k / 41) (k % 41) → ∃ h', X11_findLengths_j187 p 1000 (nI j) pl (nI l) (nI k) (lN (wy e (k / 41)) * lN (wy l (k % 41))) (X11_findLengths_l56 p 1000 (nI j) pl (nI l) n) s0 (bhR pl (g.1 6 j) (aimS (g.1 2 j) (g.1 3 j)) l (k / 41) (k % 41)) (nI j) h = X11_findLengths_l207 p 1000 FU 0 h' ∧ LO p g h' ∧ ∀ v, v < 1000 → h'.2.1 p v = sm 1681 (fF g j l e pl v) := by
            intro s0 hs0 hx
            unfold X11_findLengths_j187
            rw [if_pos hx] at enn
            rw [s_lenR hj, bd_s, L.1, hs0]
            have e2 : lenS (g.1 2 j) (g.1 3 j) (g.1 7 j) (g.1 0 14) (bhR pl (g.1 6 j) (aimS (g.1 2 j) (g.1 3 j)) l (k / 41) (k % 41)) (ab32 (bkS (aimS (g.1 2 j) (g.1 3 j)) l (bhR0 pl (g.1 6 j) (k / 41))) / 4) = nI nn := enn
            rw [e2]
            exact last
          have ea := ab_neg (bkS (aimS (g.1 2 j) (g.1 3 j)) l (bhR0 pl (g.1 6 j) (k / 41)))
          show ∃ h', (if 0 ≤ bhR pl (g.1 6 j) (aimS (g.1 2 j) (g.1 3 j)) l (k / 41) (k % 41) then _ else _) = _ ∧ _
          by_cases hx : 0 ≤ bhR pl (g.1 6 j) (aimS (g.1 2 j) (g.1 3 j)) l (k / 41) (k % 41)
          · rw [if_pos hx]
            by_cases w : 0 ≤ bkS (aimS (g.1 2 j) (g.1 3 j)) l (bhR0 pl (g.1 6 j) (k / 41))
            · rw [if_pos w]
              rw [if_pos w] at ea
              exact two _ ea hx
            · rw [if_neg w]
              rw [if_neg w] at ea
              exact two _ ea hx
          · rw [if_neg hx]
            rw [if_neg hx] at enn
            rw [← enn] at last
            exact last
        by_cases w : l = 0
        · rw [if_pos (show nI l = 0 by rw [w]; rfl)]
          have e0 : bkS (aimS (g.1 2 j) (g.1 3 j)) l (bhR0 pl (g.1 6 j) (k / 41)) = 0 := if_pos w
          rw [e0] at fin
          exact fin
        · rw [if_neg (nI_ne0 (by omega) (by omega)), s_aimR hj, bd_s, L.1]
          have e0 : bkS (aimS (g.1 2 j) (g.1 3 j)) l (bhR0 pl (g.1 6 j) (k / 41)) = (bhR0 pl (g.1 6 j) (k / 41) - aimS (g.1 2 j) (g.1 3 j)) / 2 := if_neg w
          rw [e0] at fin
          exact fin
end FL
end
section
/-! the reference's lengths, said whole; sums of two -/
def FO (p : Nat) (h h' : AH) : Prop := h'.1 = h.1 ∧ h'.2.2 = h.2.2 ∧ ∀ o, o ≠ 18 → o ≠ 19 → o ≠ p → h'.2.1 o = h.2.1 o
theorem fF_RS {g : AH} {j l e v : Nat} {pl : Int32} (he : e ≤ 20) (hl : l ≤ 4) : sm 1681 (fF g j l e pl v) = RS (g.1 2 j) (g.1 3 j) (g.1 6 j) (g.1 7 j) (g.1 0 14) pl (aimS (g.1 2 j) (g.1 3 j)) e l (pL v) := by
  rw [show 1681 = 41 * 41 from rfl, sm_sq, sm_win he]
  · unfold RS
    refine sm_c (fun i hi => ?_)
    rw [sm_win (e := l) (by omega)]
    · refine sm_c (fun t ht => ?_)
      unfold fF
      rw [show (41 * (20 - e + i) + (20 - l + t)) / 41 = 20 - e + i from by omega, show (41 * (20 - e + i) + (20 - l + t)) % 41 = 20 - l + t from by omega, wy_in he, wy_in (by omega), bh_eq he hl (by omega) (by omega)]
      unfold pL lnS lsS lsR
      rw [bh0_eq he (by omega)]
    · intro k hk ho
      unfold fF
      rw [show (41 * (20 - e + i) + k) % 41 = k from by omega, wy_out (n := l) ho]
      show lN _ * 0 * _ = 0
      rw [Int64.mul_zero, Int64.zero_mul]
  · intro k hk ho
    refine sm_z (fun c hc => ?_)
    unfold fF
    rw [show (41 * k + c) / 41 = k from by omega, wy_out (n := e) ho]
    show 0 * _ * _ = 0
    rw [Int64.zero_mul, Int64.zero_mul]
theorem fl_zero {p : Nat} (v1 v2 : Int32) (g : AH) : ∀ (n i : Nat) (h : AH), 1000 < i + n → i ≤ 1000 → LO p g h → (∀ v, v < i → h.2.1 p v = 0) → ∃ h', X11_findLengths_l3 p 1000 v1 v2 n (nI i) h = (ck v1 4 (vl (h'.1 8 v1.toNatClampNeg) fun x1 => bd (X11_findWays 18 41 ((h'.1 0 12) - x1) h') fun _ h3 => bd (X11_findWays 19 41 x1 h3) fun _ h5 => X11_findLengths_l56 p 1000 v1 v2 x1 FU 0 h5)) ∧ LO p g h' ∧ ∀ v, v < 1000 → h'.2.1 p v = 0 := by
  intro n
  induction n with
  | zero => intro i h h1 h2; omega
  | succ n ih =>
    intro i h h1 h2 L A
    rw [X11_findLengths_l3.eq_2]
    by_cases c : i = 1000
    · subst c
      rw [if_pos (show (1000 : Int32) ≤ nI 1000 from Int32.le_refl _)]
      exact ⟨h, rfl, L, A⟩
    · rw [if_neg (show ¬ (1000 : Int32) ≤ nI i from nI_ge (b := 1000) (by omega) (by decide)), ck_nI _ (by omega) (by decide), vl_e, vl_e, nI_1, nI_clamp (by omega)]
      refine ih (i + 1) _ (by omega) (by omega) (L.tr (LO.set h _ _)) (fun v hv => ?_)
      rw [sL_at]
      by_cases d : v = i
      · rw [if_pos ⟨rfl, d⟩]
      · rw [if_neg (fun z => d z.2)]
        exact A v (by omega)
theorem fl_end {p S : Nat} (hS : S ≤ 20) {g : AH} (e12 : g.1 0 12 = nI S) (w : Nat → Nat) (hw : ∀ v, v < 1000 → w v ≤ 2 ^ (2 * S)) : ∀ (n i : Nat) (h : AH), 1000 < i + n → i ≤ 1000 → LO p g h → (∀ v, v < 1000 → h.2.1 p v = if v < i then lN (sh (w v) S) else lN (w v)) → ∃ h', X11_findLengths_l207 p 1000 n (nI i) h = some ((), h') ∧ LO p g h' ∧ ∀ v, v < 1000 → h'.2.1 p v = lN (sh (w v) S) := by
  intro n
  induction n with
  | zero => intro i h h1 h2; omega
  | succ n ih =>
    intro i h h1 h2 L A
    rw [X11_findLengths_l207.eq_2]
    by_cases c : i = 1000
    · subst c
      rw [if_pos (show (1000 : Int32) ≤ nI 1000 from Int32.le_refl _)]
      exact ⟨h, rfl, L, fun v hv => by rw [A v hv, if_pos hv]⟩
    · rw [if_neg (show ¬ (1000 : Int32) ≤ nI i from nI_ge (b := 1000) (by omega) (by decide)), ck_nI _ (by omega) (by decide), nI_clamp (by omega), A i (by omega), if_neg (by omega), s_pow hS (hw i (by omega)) (by rw [L.1]; exact e12), bd_s, ck_nI _ (by omega) (by decide), vl_e, vl_e, nI_1]
      refine ih (i + 1) _ (by omega) (by omega) (L.tr (LO.set h _ _)) (fun v hv => ?_)
      rw [sL_at]
      by_cases d : v = i
      · rw [if_pos ⟨rfl, d⟩, if_pos (by omega), d]
      · rw [if_neg (fun z => d z.2), A v hv]
        by_cases x : v < i
        · rw [if_pos x, if_pos (by omega)]
        · rw [if_neg x, if_neg (by omega)]
theorem u_lengths {h : AH} {j S p : Nat} (hj : j < 4) (hJ : NJ (RJ h j)) (e12 : h.1 0 12 = nI S) (hw : WW (h.1 0 14)) (h4 : 4 ≤ S) (h20 : S ≤ 20) {pl : Int32} (hp : -5000 ≤ pl.toInt) (hp2 : pl.toInt ≤ 5000) (hp18 : p ≠ 18) (hp19 : p ≠ 19) :
    ∃ h', X11_findLengths (nI j) pl p 1000 h = some ((), h') ∧ FO p h h' ∧ ∀ v, v < 1000 → ∃ w, RV (RJ h j) (h.1 0 14) pl S (pL v) = lN w ∧ w ≤ 2 ^ (2 * S) ∧ h'.2.1 p v = lN (sh w S) := by
  have hz := rv_ln hJ hw h4 h20 hp hp2
  obtain ⟨hl, el, hn⟩ := hz
  have el : h.1 8 j = nI (RJ h j 7).toNatClampNeg := el
  obtain ⟨l, el2⟩ : ∃ l, l = (RJ h j 7).toNatClampNeg := ⟨_, rfl⟩
  rw [← el2] at hl el hn
  obtain ⟨h1, a1, a2, a3⟩ := fl_zero (p := p) (nI j) pl h FU 0 h (by unfold FU; omega) (by omega) LO.rf (fun v hv => by omega)
  have a1 : X11_findLengths (nI j) pl p 1000 h = _ := a1
  rw [ck_nI _ hj (by decide), vl_e, nI_clamp (by omega), a2.1, el, e12, pk_sub (by omega : l ≤ S)] at a1
  obtain ⟨h2, b1, b2, b3, b4⟩ := s_two (h := h1) (l := l) (S := S) (by omega) h20 (X11_findLengths_l56 p 1000 (nI j) pl (nI l) FU 0)
  have q1 : h2.1 = h.1 := b2.1.trans a2.1
  have q2 : h2.2.2 = h.2.2 := b2.2.1.trans a2.2.1
  obtain ⟨h3, c1, c2, c3⟩ := s_flL (p := p) (j := j) (l := l) (e := S - l) (pl := pl) hj hl hp18 hp19 (g := h2) b3 b4 (fun k hk d => by
    have d1 : ¬ (k / 41 + (S - l) < 20 ∨ 20 + (S - l) < k / 41) := fun z => d (by rw [wy_out z]; exact Int64.zero_mul)
    have d2 : ¬ (k % 41 + l < 20 ∨ 20 + l < k % 41) := fun z => d (by rw [wy_out (n := l) z]; exact Int64.mul_zero)
    obtain ⟨n, hn1, hn2⟩ := hn (k / 41 - (20 - (S - l))) (k % 41 - (20 - l)) (by omega) (by omega)
    refine ⟨n, by omega, ?_⟩
    rw [← hn2, q1]
    have f1 : k / 41 = 20 - (S - l) + (k / 41 - (20 - (S - l))) := by omega
    have f2 : k % 41 = 20 - l + (k % 41 - (20 - l)) := by omega
    generalize k / 41 - (20 - (S - l)) = i at f1 ⊢
    generalize k % 41 - (20 - l) = t at f2 ⊢
    rw [f1, f2]
    show (if 0 ≤ bhR pl (RJ h j 5) (aimS (RJ h j 1) (RJ h j 2)) l (20 - (S - l) + i) (20 - l + t) then lenS (RJ h j 1) (RJ h j 2) (RJ h j 6) (h.1 0 14) (bhR pl (RJ h j 5) (aimS (RJ h j 1) (RJ h j 2)) l (20 - (S - l) + i) (20 - l + t)) (lsR pl (RJ h j 5) (aimS (RJ h j 1) (RJ h j 2)) l (20 - (S - l) + i)) else 0) = _
    rw [bh_eq (by omega) hl (by omega) (by omega)]
    unfold lnS lsS lsR
    rw [bh0_eq (by omega) (by omega)]) FU 0 h2 (by unfold FU; omega) (by omega) LO.rf (fun v hv => by
      have : h2.2.1 p = h1.2.1 p := b2.2.2 p hp18 hp19
      rw [this]
      exact a3 v hv)
  have c1 : X11_findLengths_l56 p 1000 (nI j) pl (nI l) FU 0 h2 = X11_findLengths_l207 p 1000 FU 0 h3 := c1
  have w1 : ∀ v, ∃ w, (v < 1000 → RV (RJ h j) (h.1 0 14) pl S (pL v) = lN w ∧ w ≤ 2 ^ (2 * S)) := fun v => by
    obtain ⟨w, z1, z2⟩ := rv_L hJ hw h4 h20 hp hp2 v
    exact ⟨w, fun _ => ⟨z1, z2⟩⟩
  obtain ⟨h4', d1, d2, d3⟩ := fl_end (p := p) (S := S) h20 (g := h3) (by rw [c2.1, q1]; exact e12) (fun v => (w1 v).choose) (fun v hv => ((w1 v).choose_spec hv).2) FU 0 h3 (by unfold FU; omega) (by omega) LO.rf (fun v hv => by
    rw [if_neg (by omega), c3 v hv, fF_RS (by omega) hl, ← ((w1 v).choose_spec hv).1, q1]
    unfold RV
    rw [← el2]
    rfl)
  have d1 : X11_findLengths_l207 p 1000 FU 0 h3 = some ((), h4') := d1
  refine ⟨h4', ?_, ⟨d2.1.trans (c2.1.trans q1), d2.2.1.trans (c2.2.1.trans q2), fun o o1 o2 o3 => ?_⟩, fun v hv => ⟨(w1 v).choose, ((w1 v).choose_spec hv).1, ((w1 v).choose_spec hv).2, d3 v hv⟩⟩
  · rw [a1, b1, c1, d1]
  · rw [d2.2.2 o o3, c2.2.2 o o3, b2.2.2 o o1 o2, a2.2.2 o o3]
/-- the class's parts, filled -/
theorem s_fillP {q S : Nat} (hS : S ≤ 20) (hq : q = 32 ∨ q = 33) {g : AH} (e82 : g.2.1 8 2 = lN (2 ^ (2 * S))) (w : Nat → Nat) (hw : ∀ v, v < 1000 → g.2.1 31 v = lN (w v) ∧ w v ≤ 2 ^ (2 * S)) : ∀ (n i : Nat) (h : AH), 1000 < i + n → i ≤ 1000 → h.2 = g.2 → (∀ o k, o ≠ q → h.1 o k = g.1 o k) → (∀ v, v < i → h.1 q v = nI (sh (w v) S)) → ∃ h', X10_fillParts_l34 q 1000 n (nI i) h = some ((), h') ∧ h'.2 = g.2 ∧ (∀ o k, o ≠ q → h'.1 o k = g.1 o k) ∧ ∀ v, v < 1000 → h'.1 q v = nI (sh (w v) S) := by
  intro n
  induction n with
  | zero => intro i h h1 h2; omega
  | succ n ih =>
    intro i h h1 h2 E L A
    rw [X10_fillParts_l34.eq_2]
    by_cases c : i = 1000
    · subst c
      rw [if_pos (show Int32.ofNat 1000 ≤ nI 1000 from Int32.le_refl _)]
      exact ⟨h, rfl, E, L, A⟩
    · rw [if_neg (show ¬ Int32.ofNat 1000 ≤ nI i from nI_ge (b := 1000) (by omega) (by decide)), if_neg (show ¬ (999 : Int32) < nI i from nI_nlt (a := 999) (by omega) (by decide)), ck_nI _ (by omega) (by decide), nI_clamp (by omega), E, (hw i (by omega)).1, s_share hS (hw i (by omega)).2 (by rw [E]; exact e82), bd_s, ck_nI _ (by omega) (by decide), vl_e, vl_e, nI_1]
      refine ih (i + 1) _ (by omega) (by omega) E (fun o k ho => ?_) (fun v hv => ?_)
      · rw [sI_at, if_neg (fun z => ho z.1)]
        exact L o k ho
      · rw [sI_at]
        by_cases d : v = i
        · rw [if_pos ⟨rfl, d⟩, d]
        · rw [if_neg (fun z => d z.2)]
          exact A v (by omega)
/-- MORE LIKELY of two rows of parts -/
def mrS (f g : Nat → Nat) : Nat → Int64 × Int64
  | 0 => (0, 0)
  | v + 1 => ((mrS f g v).1 + lN (f v) * (mrS f g v).2, (mrS f g v).2 + lN (g v))
def mrV (f g : Nat → Nat) : Int32 := ((mrS f g 1000).1 / 10000).toInt32
theorem s_moreC {h : AH} {f g : Nat → Nat} (hf : ∀ v, v < 1000 → f v ≤ 10000 ∧ h.1 32 v = nI (f v)) (hg : ∀ v, v < 1000 → g v ≤ 10000 ∧ h.1 33 v = nI (g v)) : X10_moreByParts h = some (mrV f g, h) := by
  have key : ∀ (n v : Nat), 1000 < v + n → v ≤ 1000 → X10_moreByParts_l7 n (mrS f g v).1 (mrS f g v).2 (nI v) h = some (mrV f g, h) := by
    intro n
    induction n with
    | zero => intro v h1 h2; omega
    | succ n ih =>
      intro v h1 h2
      rw [X10_moreByParts_l7.eq_2]
      by_cases c : v = 1000
      · subst c
        rw [if_pos (show (999 : Int32) < nI 1000 from nI_lt (a := 999) (by decide) (by decide))]
        rfl
      · have f1 := hf v (by omega)
        have g1 := hg v (by omega)
        rw [if_neg (show ¬ (999 : Int32) < nI v from nI_nlt (a := 999) (by omega) (by decide)), ck_nI _ (by omega) (by decide), vl_e, ck_nI _ (by omega) (by decide), vl_e, vl_e, nI_clamp (by omega), nI_1, f1.2, g1.2, nI_l (by omega), nI_l (by omega)]
        exact ih (v + 1) (by omega) (by omega)
  exact key FU 0 (by unfold FU; omega) (by omega)
theorem s_moreR {h : AH} {f g : Nat → Nat} (hf : ∀ v, v < 1000 → h.2.1 25 v = lN (f v)) (hg : ∀ v, v < 1000 → h.2.1 26 v = lN (g v)) : X11_moreFrom_l30 FU 0 0 0 h = some (mrV f g, h) := by
  have key : ∀ (n v : Nat), 1000 < v + n → v ≤ 1000 → X11_moreFrom_l30 n (mrS f g v).1 (mrS f g v).2 (nI v) h = some (mrV f g, h) := by
    intro n
    induction n with
    | zero => intro v h1 h2; omega
    | succ n ih =>
      intro v h1 h2
      rw [X11_moreFrom_l30.eq_2]
      by_cases c : v = 1000
      · subst c
        rw [if_pos (show (1000 : Int32) ≤ nI 1000 from Int32.le_refl _)]
        rfl
      · rw [if_neg (show ¬ (1000 : Int32) ≤ nI v from nI_ge (b := 1000) (by omega) (by decide)), ck_nI _ (by omega) (by decide), vl_e, ck_nI _ (by omega) (by decide), vl_e, vl_e, nI_clamp (by omega), nI_1, hf v (by omega), hg v (by omega)]
        exact ih (v + 1) (by omega) (by omega)
  exact key FU 0 (by unfold FU; omega) (by omega)
end
section
/-! pasted from kit/laws (COUNTS) -/
theorem fb_holes : ∀ (m n : Nat) (f : Nat → Nat), (∀ i, i < n → f i < m) → (∀ i j, i < j → j < n → f i ≠ f j) → n ≤ m := by
  intro m
  induction m with
  | zero =>
    intro n f h1 _
    rcases Nat.eq_zero_or_pos n with h | h
    · omega
    · exact absurd (h1 0 h) (Nat.not_lt_zero _)
  | succ m ih =>
    intro n f h1 h2
    by_cases hx : ∃ i, i < n ∧ f i = m
    · obtain ⟨a, ha, hfa⟩ := hx
      have hg := ih (n - 1) (fun i => if i < a then f i else f (i + 1)) (by
        intro i hi
        by_cases q : i < a
        · simp only [if_pos q]
          have b1 := h1 i (by omega)
          have b2 := h2 i a q ha
          omega
        · simp only [if_neg q]
          have b1 := h1 (i + 1) (by omega)
          have b2 := h2 a (i + 1) (by omega) (by omega)
          omega) (by
        intro i j hij hj
        by_cases q : i < a
        · by_cases r : j < a
          · simp only [if_pos q, if_pos r]
            exact h2 i j hij (by omega)
          · simp only [if_pos q, if_neg r]
            exact h2 i (j + 1) (by omega) (by omega)
        · have r : ¬ j < a := by omega
          simp only [if_neg q, if_neg r]
          exact h2 (i + 1) (j + 1) (by omega) (by omega))
      omega
    · have hg := ih n f (fun i hi => by
        have b1 := h1 i hi
        have b2 : f i ≠ m := fun e => hx ⟨i, hi, e⟩
        omega) h2
      omega
/-- two of them in one place -/
theorem fb_twice {m n : Nat} {f : Nat → Nat} (h : ∀ i, i < n → f i < m) (hm : m < n) : ∃ i j, i < j ∧ j < n ∧ f i = f j := by
  refine Classical.byContradiction fun hx => ?_
  have := fb_holes m n f h (fun i j hij hj e => hx ⟨i, j, hij, hj, e⟩)
  omega
/-- as many as places, none twice: each place is taken -/
theorem fb_onto {n : Nat} {f : Nat → Nat} (h : ∀ i, i < n → f i < n) (h2 : ∀ i j, i < j → j < n → f i ≠ f j) {y : Nat} (hy : y < n) : ∃ i, i < n ∧ f i = y := by
  refine Classical.byContradiction fun hx => ?_
  have hne : ∀ i, i < n → f i ≠ y := fun i hi e => hx ⟨i, hi, e⟩
  have := fb_holes (n - 1) n (fun i => if f i < y then f i else f i - 1) (by
    intro i hi
    have b1 := h i hi
    have b2 := hne i hi
    by_cases q : f i < y
    · simp only [if_pos q]; omega
    · simp only [if_neg q]; omega) (by
    intro i j hij hj
    have b1 := hne i (by omega)
    have b2 := hne j hj
    have b3 := h2 i j hij hj
    by_cases q : f i < y
    · by_cases r : f j < y
      · simp only [if_pos q, if_pos r]; exact b3
      · simp only [if_pos q, if_neg r]; omega
    · by_cases r : f j < y
      · simp only [if_neg q, if_pos r]; omega
      · simp only [if_neg q, if_neg r]; omega)
  omega
end
section
/-! RANKS: the longest and the second of each, the order -/
abbrev BB : Type := (Nat → Int32) × (Nat → Int32)
def ad (B : BB) (j : Nat) (v : Int32) : BB := (fun i => if i = j then (if B.1 j < v then v else B.1 j) else B.1 i, fun i => if i = j then (if B.1 j < v then B.1 j else if B.2 j < v then v else B.2 j) else B.2 i)
def bst (w : Nat → Nat) (f : Nat → Int32) : Nat → BB
  | 0 => (fun _ => 0, fun _ => 0)
  | n + 1 => ad (bst w f n) (w n) (f n)
def BP (B : BB) : Prop := ∀ j, 0 ≤ (B.2 j).toInt ∧ (B.2 j).toInt ≤ (B.1 j).toInt
theorem bp_ad {B : BB} {j : Nat} {v : Int32} (h : BP B) (hv : 0 ≤ v.toInt) : BP (ad B j v) := by
  intro i
  have h1 := h i
  have h2 := h j
  unfold ad
  show 0 ≤ (if i = j then (if B.1 j < v then B.1 j else if B.2 j < v then v else B.2 j) else B.2 i).toInt ∧ (if i = j then (if B.1 j < v then B.1 j else if B.2 j < v then v else B.2 j) else B.2 i).toInt ≤ (if i = j then (if B.1 j < v then v else B.1 j) else B.1 i).toInt
  by_cases c : i = j
  · rw [if_pos c, if_pos c]
    by_cases d : B.1 j < v
    · rw [if_pos d, if_pos d]
      rw [fa_lt] at d
      omega
    · rw [if_neg d, if_neg d]
      rw [fa_lt] at d
      by_cases e : B.2 j < v
      · rw [if_pos e]
        omega
      · rw [if_neg e]
        omega
  · rw [if_neg c, if_neg c]
    exact h1
theorem bp_bst {w : Nat → Nat} {f : Nat → Int32} : ∀ n, (∀ t, t < n → 0 ≤ (f t).toInt) → BP (bst w f n)
  | 0, _ => fun j => ⟨Int.le_refl 0, Int.le_refl 0⟩
  | n + 1, h => bp_ad (bp_bst n (fun t ht => h t (by omega))) (h n (by omega))
theorem bst_c {w w' : Nat → Nat} {f f' : Nat → Int32} : ∀ n, (∀ t, t < n → w t = w' t ∧ f t = f' t) → bst w f n = bst w' f' n
  | 0, _ => rfl
  | n + 1, h => by
    show ad (bst w f n) (w n) (f n) = ad (bst w' f' n) (w' n) (f' n)
    rw [bst_c n (fun t ht => h t (by omega)), (h n (by omega)).1, (h n (by omega)).2]
/-- the place in the ranks -/
def ky (B : BB) (j : Nat) : Int := (B.1 j).toInt * 1099511627776 + (B.2 j).toInt * 8 + (3 - (j : Int))
def cN (p : Nat → Bool) : Nat → Nat
  | 0 => 0
  | n + 1 => cN p n + if p n then 1 else 0
theorem cN_le (p : Nat → Bool) : ∀ n, cN p n ≤ n
  | 0 => Nat.le_refl 0
  | n + 1 => by
    have := cN_le p n
    show cN p n + (if p n then 1 else 0) ≤ n + 1
    split <;> omega
theorem cN_mono {p q : Nat → Bool} : ∀ n, (∀ k, k < n → p k = true → q k = true) → cN p n ≤ cN q n
  | 0, _ => Nat.le_refl 0
  | n + 1, h => by
    have h1 := cN_mono n (fun k hk => h k (by omega))
    have h2 := h n (by omega)
    show cN p n + (if p n then 1 else 0) ≤ cN q n + (if q n then 1 else 0)
    by_cases c : p n = true
    · rw [if_pos c, if_pos (h2 c)]
      omega
    · rw [if_neg c]
      omega
theorem cN_lt {p q : Nat → Bool} : ∀ n, (∀ k, k < n → p k = true → q k = true) → (∃ k, k < n ∧ q k = true ∧ p k = false) → cN p n < cN q n
  | 0, _, ⟨k, hk, _⟩ => absurd hk (by omega)
  | n + 1, h, ⟨k, hk, h1, h2⟩ => by
    show cN p n + (if p n then 1 else 0) < cN q n + (if q n then 1 else 0)
    by_cases c : k = n
    · subst c
      rw [if_pos h1, if_neg (by rw [h2]; decide)]
      have := cN_mono (p := p) (q := q) k (fun i hi => h i (by omega))
      omega
    · have h3 := cN_lt n (fun i hi => h i (by omega)) ⟨k, by omega, h1, h2⟩
      by_cases d : p n = true
      · rw [if_pos d, if_pos (h n (by omega) d)]
        omega
      · rw [if_neg d]
        omega
theorem cN_c {p q : Nat → Bool} : ∀ n, (∀ k, k < n → p k = q k) → cN p n = cN q n
  | 0, _ => rfl
  | n + 1, h => by
    show cN p n + (if p n then 1 else 0) = cN q n + (if q n then 1 else 0)
    rw [cN_c n (fun k hk => h k (by omega)), h n (by omega)]
def rk (B : BB) (n j : Nat) : Nat := cN (fun k => decide (ky B j < ky B k)) n
theorem ky_ne {B : BB} {i j : Nat} (hi : i < 4) (hj : j < 4) (h : BP B) (e : i ≠ j) : ky B i ≠ ky B j := by
  intro z
  unfold ky at z
  have h1 := h i
  have h2 := h j
  have r1 := fb_rng (B.1 i)
  have r2 := fb_rng (B.1 j)
  omega
theorem rk_lt {B : BB} {n j : Nat} (hj : j < n) : rk B n j < n := by
  have h := cN_lt (p := fun k => decide (ky B j < ky B k)) (q := fun _ => true) n (fun _ _ _ => rfl) ⟨j, hj, rfl, by simp⟩
  have : ∀ m, cN (fun _ => true) m = m := by
    intro m
    induction m with
    | zero => rfl
    | succ m ih =>
      show cN (fun _ => true) m + 1 = m + 1
      rw [ih]
  have e := this n
  unfold rk
  omega
theorem rk_ord {B : BB} {n i j : Nat} (hj : j < n) (h : ky B i < ky B j) : rk B n j < rk B n i := by
  refine cN_lt n (fun k _ hk => ?_) ⟨j, hj, by simpa using h, by simp⟩
  have := of_decide_eq_true hk
  exact decide_eq_true (by omega)
theorem rk_inj {B : BB} {n i j : Nat} (hn : n ≤ 4) (hi : i < n) (hj : j < n) (h : BP B) (e : rk B n i = rk B n j) : i = j := by
  by_cases c : i = j
  · exact c
  · exfalso
    have := ky_ne (B := B) (by omega : i < 4) (by omega : j < 4) h c
    rcases Int.lt_or_gt_of_ne this with z | z
    · have := rk_ord (n := n) hj z
      omega
    · have := rk_ord (n := n) hi z
      omega
theorem rk_onto {B : BB} {n p : Nat} (hn : n ≤ 4) (h : BP B) (hp : p < n) : ∃ j, j < n ∧ rk B n j = p :=
  fb_onto (f := fun j => rk B n j) (fun i hi => rk_lt hi) (fun i j hij hj z => by have := rk_inj hn (by omega) hj h z; omega) hp
/-! the class -/
def RKC (h : AH) (B : BB) : Prop := ∀ i, i < 4 → h.1 6 i = B.1 i ∧ h.1 7 i = B.2 i
def FR (h h' : AH) : Prop := (∀ o k, o ≠ 5 → o ≠ 6 → o ≠ 7 → h'.1 o k = h.1 o k) ∧ h'.2 = h.2
theorem FR.rf {h : AH} : FR h h := ⟨fun _ _ _ _ _ => rfl, rfl⟩
theorem FR.tr {h h' h2 : AH} (a : FR h h') (b : FR h' h2) : FR h h2 := ⟨fun o k h1 h2 h3 => (b.1 o k h1 h2 h3).trans (a.1 o k h1 h2 h3), b.2.trans a.2⟩
theorem s_add {h : AH} {B : BB} {j : Nat} (hj : j < 4) (R : RKC h B) (v : Int32) : ∃ h', X6_add (nI j) v h = some ((), h') ∧ RKC h' (ad B j v) ∧ FR h h' ∧ h'.1 5 0 = h.1 5 0 := by
  unfold X6_add
  rw [if_neg (nI_pos (by omega)), if_pos (show nI j < 4 from nI_lt (b := 4) hj (by decide)), ck_nI _ hj (by decide), nI_clamp (by omega), (R j hj).1, (R j hj).2]
  by_cases c : B.1 j < v
  · have c2 : ¬ v ≤ B.1 j := Int32.not_le.mpr c
    rw [if_neg c2, ck_nI _ hj (by decide), ck_nI _ hj (by decide), vl_e, ck_nI _ hj (by decide), vl_e]
    refine ⟨_, rfl, fun i hi => ?_, ⟨fun o k h1 h2 h3 => ?_, rfl⟩, ?_⟩
    · rw [sI_at, sI_at, sI_at, sI_at]
      show _ = (if i = j then (if B.1 j < v then v else B.1 j) else B.1 i) ∧ _ = (if i = j then (if B.1 j < v then B.1 j else if B.2 j < v then v else B.2 j) else B.2 i)
      by_cases d : i = j
      · rw [if_pos d, if_pos d, if_pos c, if_pos c, if_pos ⟨rfl, d⟩, if_neg (by omega), if_pos ⟨rfl, d⟩]
        exact ⟨rfl, rfl⟩
      · rw [if_neg d, if_neg d, if_neg (by omega), if_neg (by omega), if_neg (by omega), if_neg (by omega)]
        exact R i hi
    · rw [sI_at, if_neg (by omega), sI_at, if_neg (by omega)]
    · rw [sI_at, if_neg (by omega), sI_at, if_neg (by omega)]
  · have c2 : v ≤ B.1 j := Int32.not_lt.mp c
    rw [if_pos c2, ck_nI _ hj (by decide)]
    by_cases e : B.2 j < v
    · have e2 : ¬ v ≤ B.2 j := Int32.not_le.mpr e
      rw [if_neg e2, ck_nI _ hj (by decide), vl_e]
      refine ⟨_, rfl, fun i hi => ?_, ⟨fun o k h1 h2 h3 => ?_, rfl⟩, ?_⟩
      · rw [sI_at, sI_at]
        show _ = (if i = j then (if B.1 j < v then v else B.1 j) else B.1 i) ∧ _ = (if i = j then (if B.1 j < v then B.1 j else if B.2 j < v then v else B.2 j) else B.2 i)
        by_cases d : i = j
        · rw [if_pos d, if_pos d, if_neg c, if_neg c, if_pos e, if_neg (by omega), if_pos ⟨rfl, d⟩, d]
          exact ⟨(R j hj).1, rfl⟩
        · rw [if_neg d, if_neg d, if_neg (by omega), if_neg (by omega)]
          exact R i hi
      · rw [sI_at, if_neg (by omega)]
      · rw [sI_at, if_neg (by omega)]
    · have e2 : v ≤ B.2 j := Int32.not_lt.mp e
      rw [if_pos e2]
      refine ⟨_, rfl, fun i hi => ?_, FR.rf, rfl⟩
      show _ = (if i = j then (if B.1 j < v then v else B.1 j) else B.1 i) ∧ _ = (if i = j then (if B.1 j < v then B.1 j else if B.2 j < v then v else B.2 j) else B.2 i)
      by_cases d : i = j
      · rw [if_pos d, if_pos d, if_neg c, if_neg c, if_neg e, d]
        exact R j hj
      · rw [if_neg d, if_neg d]
        exact R i hi
/-- the LENGTH of a try by a law, as the class says it -/
def lby (h : AH) (o : Nat) (law : Int32) (t : Nat) : Int32 :=
  if 0 ≤ h.1 (o + 4) t then (if law = 1 then h.1 (o + 4) t + h.1 (o + 3) t else h.1 (o + 4) t) else if law = 2 then (if h.1 (o + 4) t = -9 then h.1 (o + 5) t else 0) else 0
theorem s_lby {h : AH} {o t : Nat} (law : Int32) (ht : t < 24) : X5_lengthBy o law (nI t) h = some (lby h o law t, h) := by
  unfold X5_lengthBy lby
  rw [ck_nI _ ht (by decide), ck_nI _ ht (by decide), ck_nI _ ht (by decide), ck_nI _ ht (by decide), ck_nI _ ht (by decide), ck_nI _ ht (by decide), nI_clamp (by omega)]
  repeat (first | rfl | split)
theorem lby_0 (h : AH) (o t : Nat) : lby h o 0 t = clp (h.1 (o + 4) t) := by
  unfold lby clp
  rw [if_neg (show ¬ (0 : Int32) = 1 by decide), if_neg (show ¬ (0 : Int32) = 2 by decide)]
theorem s_rankL {g : AH} {o n T : Nat} {law : Int32} (ho : 42 ≤ o) {w : Nat → Nat} (hT : T ≤ 24) (hn : n < 100) (eT : g.1 o 4 = nI T) (hw : ∀ t, t < T → w t < 4 ∧ g.1 (o + 2) t = nI (w t)) : ∀ (f t : Nat) (h : AH), n + T < t + f → t ≤ n → t ≤ T → FR g h → RKC h (bst w (lby g o law) t) → ∃ h', X5_rank_l11 o law (nI n) f (nI t) h = some ((), h') ∧ RKC h' (bst w (lby g o law) (min n T)) ∧ FR g h' ∧ h'.1 5 0 = h.1 5 0 := by
  intro f
  induction f with
  | zero => intro t h h1 h2; omega
  | succ f ih =>
    intro t h h1 h2 h3 F R
    rw [X5_rank_l11.eq_2]
    by_cases c : t = n
    · subst c
      rw [if_pos (Int32.le_refl _), Nat.min_eq_left h3]
      exact ⟨h, rfl, R, F, rfl⟩
    · rw [if_neg (nI_ge (by omega) (by omega)), F.1 o 4 (by omega) (by omega) (by omega), eT]
      by_cases d : t = T
      · subst d
        rw [if_pos (Int32.le_refl _), Nat.min_eq_right h2]
        exact ⟨h, rfl, R, F, rfl⟩
      · have hw1 := hw t (by omega)
        have el : lby h o law t = lby g o law t := by
          unfold lby
          rw [F.1 (o + 4) t (by omega) (by omega) (by omega), F.1 (o + 3) t (by omega) (by omega) (by omega), F.1 (o + 5) t (by omega) (by omega) (by omega)]
        rw [if_neg (nI_ge (by omega) (by omega)), ck_nI _ (by omega) (by decide), s_lby law (by omega), bd_s, nI_clamp (by omega), F.1 (o + 2) t (by omega) (by omega) (by omega), hw1.2, el]
        obtain ⟨h1', a1, a2, a3, a4⟩ := s_add hw1.1 R (lby g o law t)
        rw [a1, bd_s, vl_e, nI_1]
        obtain ⟨h2', b1, b2, b3, b4⟩ := ih (t + 1) h1' (by omega) (by omega) (by omega) (F.tr a3) a2
        exact ⟨h2', b1, b2, b3, b4.trans a4⟩
theorem s_rankC {h : AH} {o n N T : Nat} (law : Int32) (ho : 42 ≤ o) {w : Nat → Nat} (hT : T ≤ 24) (hn : n < 100) (hN : N ≤ 4) (eN : h.1 o 3 = nI N) (eT : h.1 o 4 = nI T) (hw : ∀ t, t < T → w t < 4 ∧ h.1 (o + 2) t = nI (w t)) : ∃ h', X5_rank o law (nI n) h = some ((), h') ∧ RKC h' (bst w (lby h o law) (min n T)) ∧ FR h h' ∧ h'.1 5 0 = nI N := by
  unfold X5_rank
  have e5 : mx32 0 (mn32 4 (nI N)) = nI N := by
    have e1 : mn32 4 (nI N) = nI N := by
      unfold mn32
      by_cases c : nI N < 4
      · rw [if_pos c]
      · rw [if_neg c]
        have : N = 4 := by
          have := Int32.not_lt.mp c
          have := (nI_leI (a := 4) (b := N) (by decide) (by omega)).mp this
          omega
        rw [this]; rfl
    rw [e1]
    unfold mx32
    by_cases c : 0 < nI N
    · rw [if_pos c]
    · rw [if_neg c]
      have : N = 0 := by
        have := Int32.not_lt.mp c
        have := (nI_leI (a := N) (b := 0) (by omega) (by decide)).mp this
        omega
      rw [this]; rfl
  rw [eN, s_start, bd_s, e5]
  have F0 : FR h (rk0 h (nI N)) := ⟨fun o k h1 h2 h3 => rk0_at _ _ _ _ ⟨h1, h2, h3⟩, rfl⟩
  have R0 : RKC (rk0 h (nI N)) (bst w (lby h o law) 0) := fun i hi => by
    show (if 6 = 7 ∧ i < 4 then (0 : Int32) else if 6 = 6 ∧ i < 4 then 0 else if 6 = 5 ∧ i = 0 then nI N else h.1 6 i) = 0 ∧ (if 7 = 7 ∧ i < 4 then (0 : Int32) else if 7 = 6 ∧ i < 4 then 0 else if 7 = 5 ∧ i = 0 then nI N else h.1 7 i) = 0
    rw [if_neg (by omega), if_pos ⟨rfl, hi⟩, if_pos ⟨rfl, hi⟩]
    exact ⟨rfl, rfl⟩
  obtain ⟨h', a1, a2, a3, a4⟩ := s_rankL (law := law) ho hT hn eT hw FU 0 (rk0 h (nI N)) (by unfold FU; omega) (by omega) (by omega) F0 R0
  refine ⟨h', a1, a2, a3, a4.trans ?_⟩
  show (if 5 = 7 ∧ 0 < 4 then (0 : Int32) else if 5 = 6 ∧ 0 < 4 then 0 else if 5 = 5 ∧ 0 = 0 then nI N else h.1 5 0) = nI N
  rw [if_neg (by omega), if_neg (by omega), if_pos ⟨rfl, rfl⟩]
/-- is k ahead of one with these two numbers, at place i -/
def fst' (B : BB) (own ownS : Int32) (i k : Nat) : Bool := decide (k ≠ i) && (if B.1 k = own then (if B.2 k = ownS then decide (k < i) else decide (ownS < B.2 k)) else decide (own < B.1 k))
theorem s_aheadL {h : AH} {B : BB} {N i : Nat} {own ownS : Int32} (hN : N ≤ 4) (hi : i < 4) (R : RKC h B) (e5 : h.1 5 0 = nI N) : ∀ (f k : Nat), N < k + f → k ≤ N → X6_ahead_l55 (nI i) own ownS f (nI (cN (fst' B own ownS i) k)) (nI k) h = some (nI (cN (fst' B own ownS i) N), h) := by
  intro f
  induction f with
  | zero => intro k h1 h2; omega
  | succ f ih =>
    intro k h1 h2
    rw [X6_ahead_l55.eq_2, e5]
    by_cases c : k = N
    · subst c
      rw [if_pos (Int32.le_refl _)]
    · have nx := ih (k + 1) (by omega) (by omega)
      have hk : k < 4 := by omega
      rw [if_neg (nI_ge (by omega) (by omega)), ck_nI _ hk (by decide), ck_nI _ hk (by decide), ck_nI _ hk (by decide), ck_nI _ hk (by decide), nI_clamp (by omega), (R k hk).1, (R k hk).2]
      have t0 : fst' B own ownS i k = false → X6_ahead_j156 (nI i) own ownS (nI k) (X6_ahead_l55 (nI i) own ownS f) (nI (cN (fst' B own ownS i) k)) h = some (nI (cN (fst' B own ownS i) N), h) := by
        intro e
        unfold X6_ahead_j156 X6_ahead_j157
        rw [vl_e, vl_e, nI_1, Int32.add_zero]
        have e2 : cN (fst' B own ownS i) (k + 1) = cN (fst' B own ownS i) k := by
          show cN (fst' B own ownS i) k + (if fst' B own ownS i k then 1 else 0) = _
          rw [e]; rfl
        rw [e2] at nx
        exact nx
      have t1 : fst' B own ownS i k = true → X6_ahead_j157 (nI i) own ownS (nI k) (X6_ahead_l55 (nI i) own ownS f) 1 (nI (cN (fst' B own ownS i) k)) h = some (nI (cN (fst' B own ownS i) N), h) := by
        intro e
        unfold X6_ahead_j157
        rw [vl_e, vl_e, nI_1, nI_1]
        have e2 : cN (fst' B own ownS i) (k + 1) = cN (fst' B own ownS i) k + 1 := by
          show cN (fst' B own ownS i) k + (if fst' B own ownS i k then 1 else 0) = _
          rw [e]; rfl
        rw [e2] at nx
        exact nx
      have mid : ∀ (b : Bool) (s0 : Int32), (if b then (1 : Int32) else 0) = s0 → (decide (k ≠ i) && b) = fst' B own ownS i k → X6_ahead_j137 (nI i) own ownS (nI (cN (fst' B own ownS i) k)) (nI k) (X6_ahead_l55 (nI i) own ownS f) s0 h = some (nI (cN (fst' B own ownS i) N), h) := by
        intro b s0 hs hb
        unfold X6_ahead_j137
        by_cases d : k = i
        · rw [if_pos (show nI k = nI i by rw [d])]
          exact t0 (by rw [← hb, d]; simp)
        · rw [if_neg (fun z => d ((nI_eq (by omega) (by omega)).mp z))]
          cases b with
          | false =>
            rw [← hs, if_pos (by rfl)]
            exact t0 (by rw [← hb]; simp)
          | true =>
            rw [← hs, if_neg (by decide)]
            exact t1 (by rw [← hb]; simp [d])
      have eF : fst' B own ownS i k = (decide (k ≠ i) && (if B.1 k = own then (if B.2 k = ownS then decide (k < i) else decide (ownS < B.2 k)) else decide (own < B.1 k))) := rfl
      by_cases d1 : B.1 k = own
      · rw [if_pos d1]
        rw [if_pos d1] at eF
        by_cases d2 : B.2 k = ownS
        · rw [if_pos d2]
          rw [if_pos d2] at eF
          by_cases d3 : k < i
          · rw [if_neg (nI_ge d3 (by omega))]
            exact mid true 1 rfl (by rw [eF]; simp [d3])
          · rw [if_pos (nI_le (by omega) (by omega))]
            exact mid false 0 rfl (by rw [eF]; simp [d3])
        · rw [if_neg d2]
          rw [if_neg d2] at eF
          by_cases d3 : ownS < B.2 k
          · rw [if_neg (Int32.not_le.mpr d3)]
            exact mid true 1 rfl (by rw [eF]; simp [d3])
          · rw [if_pos (Int32.not_lt.mp d3)]
            exact mid false 0 rfl (by rw [eF, decide_eq_false d3])
      · rw [if_neg d1]
        rw [if_neg d1] at eF
        by_cases d3 : own < B.1 k
        · rw [if_neg (Int32.not_le.mpr d3)]
          exact mid true 1 rfl (by rw [eF]; simp [d3])
        · rw [if_pos (Int32.not_lt.mp d3)]
          exact mid false 0 rfl (by rw [eF, decide_eq_false d3])
/-- one more LENGTH, as the class looks at it -/
theorem s_ahead {h : AH} {B : BB} {N i : Nat} {v : Int32} (hN : N ≤ 4) (hi : i < N) (hB : BP B) (hv : 0 ≤ v.toInt) (R : RKC h B) (e5 : h.1 5 0 = nI N) : X6_ahead (nI i) v h = some (nI (rk (ad B i v) N i), h) := by
  have hi4 : i < 4 := by omega
  unfold X6_ahead
  rw [if_neg (nI_pos (by omega)), e5, if_pos (nI_lt hi (by omega)), ck_nI _ hi4 (by decide), vl_e, ck_nI _ hi4 (by decide), ck_nI _ hi4 (by decide), vl_e, nI_clamp (by omega), (R i hi4).1, (R i hi4).2]
  have own1 : mx32 (B.1 i) v = (ad B i v).1 i := by
    show _ = if i = i then (if B.1 i < v then v else B.1 i) else B.1 i
    rw [if_pos rfl]
    rfl
  have own2 : mx32 (B.2 i) (mn32 (B.1 i) v) = (ad B i v).2 i := by
    show _ = if i = i then (if B.1 i < v then B.1 i else if B.2 i < v then v else B.2 i) else B.2 i
    rw [if_pos rfl]
    have hb := hB i
    unfold mx32 mn32
    by_cases c : B.1 i < v
    · rw [if_pos c, if_neg (show ¬ v < B.1 i by rw [fa_lt] at c ⊢; omega)]
      by_cases d : B.2 i < B.1 i
      · rw [if_pos d]
      · rw [if_neg d]
        rw [fa_lt] at d
        rw [fa_eq]
        omega
    · rw [if_neg c]
      by_cases d : v < B.1 i
      · rw [if_pos d]
      · rw [if_neg d]
        have e : B.1 i = v := by
          rw [fa_lt] at c d
          rw [fa_eq]
          omega
        rw [e]
  rw [own1, own2]
  have key := s_aheadL (own := (ad B i v).1 i) (ownS := (ad B i v).2 i) hN hi4 R e5 FU 0 (by unfold FU; omega) (by omega)
  have key : X6_ahead_l55 (nI i) ((ad B i v).1 i) ((ad B i v).2 i) FU 0 0 h = some (nI (cN (fst' B ((ad B i v).1 i) ((ad B i v).2 i) i) N), h) := key
  rw [key]
  have e : cN (fst' B ((ad B i v).1 i) ((ad B i v).2 i) i) N = rk (ad B i v) N i := by
    refine cN_c N (fun k hk => ?_)
    have hA := bp_ad (j := i) hB hv
    by_cases c : k = i
    · subst c
      unfold fst'
      simp
    · have e1 : (ad B i v).1 k = B.1 k := if_neg c
      have e2 : (ad B i v).2 k = B.2 k := if_neg c
      have q1 := hA k
      have q2 := hA i
      have r1 := fb_rng ((ad B i v).1 i)
      have r2 := fb_rng (B.1 k)
      rw [e1, e2] at q1
      unfold fst' ky
      rw [e1, e2, decide_eq_true c, Bool.true_and]
      generalize (ad B i v).1 i = X at *
      generalize (ad B i v).2 i = Y at *
      by_cases d1 : B.1 k = X
      · rw [if_pos d1]
        by_cases d2 : B.2 k = Y
        · rw [if_pos d2, d1, d2]
          rw [decide_eq_decide]
          omega
        · rw [if_neg d2, d1]
          have d2 : (B.2 k).toInt ≠ Y.toInt := fun z => d2 ((fa_eq _ _).mpr z)
          rw [decide_eq_decide, fa_lt]
          omega
      · rw [if_neg d1]
        have d1 : (B.1 k).toInt ≠ X.toInt := fun z => d1 ((fa_eq _ _).mpr z)
        rw [decide_eq_decide, fa_lt]
        omega
  rw [e]
theorem ad_0 {B : BB} {i : Nat} (hB : BP B) : ad B i 0 = B := by
  have h := hB i
  have z : (0 : Int32).toInt = 0 := rfl
  have h1 : ¬ B.1 i < 0 := by rw [fa_lt, z]; omega
  have h2 : ¬ B.2 i < 0 := by rw [fa_lt, z]; omega
  refine Prod.ext (funext fun k => ?_) (funext fun k => ?_)
  · show (if k = i then (if B.1 i < 0 then 0 else B.1 i) else B.1 k) = B.1 k
    rw [if_neg h1]
    split
    next c => rw [c]
    next => rfl
  · show (if k = i then (if B.1 i < 0 then B.1 i else if B.2 i < 0 then 0 else B.2 i) else B.2 k) = B.2 k
    rw [if_neg h1, if_neg h2]
    split
    next c => rw [c]
    next => rfl
/-- who stands at a place -/
theorem s_at' {h : AH} {B : BB} {N j p : Nat} (hN : N ≤ 4) (hj : j < N) (ej : rk B N j = p) (hB : BP B) (R : RKC h B) (e5 : h.1 5 0 = nI N) : X6_at (nI p) h = some (nI j, h) := by
  have hp : p < 4 := by have := rk_lt (B := B) hj; omega
  have key : ∀ (f k : Nat), N < k + f → k ≤ j → (∀ m, m < k → rk B N m ≠ p) → X6_at_l2 (nI p) f (nI k) h = some (nI j, h) := by
    intro f
    induction f with
    | zero => intro k h1 h2; omega
    | succ f ih =>
      intro k h1 h2 h3
      have z : (0 : Int32).toInt = 0 := rfl
      rw [X6_at_l2.eq_2, e5, if_neg (nI_ge (by omega) (by omega)), s_ahead hN (by omega) hB (by rw [z]; omega) R e5, bd_s, ad_0 hB]
      have hr : rk B N k < 4 := by have := rk_lt (B := B) (n := N) (j := k) (by omega); omega
      by_cases c : rk B N k = p
      · have e : k = j := rk_inj hN (by omega) hj hB (by rw [c, ej])
        rw [if_pos (by rw [c]), e]
      · rw [if_neg (fun z => c ((nI_eq (by omega) (by omega)).mp z)), vl_e, nI_1]
        have hkj : k ≠ j := fun z => c (by rw [z]; exact ej)
        refine ih (k + 1) (by omega) (by omega) (fun m hm => ?_)
        by_cases d : m = k
        · rw [d]; exact c
        · exact h3 m (by omega)
  exact key FU 0 (by unfold FU; omega) (by omega) (fun m hm => by omega)
end
section
/-! RANKS in the reference -/
def RKR (h : AH) (B : BB) : Prop := ∀ i, i < 4 → h.1 20 i = B.1 i ∧ h.1 21 i = B.2 i
def FB (h h' : AH) : Prop := (∀ o k, o ≠ 20 → o ≠ 21 → h'.1 o k = h.1 o k) ∧ h'.2 = h.2
theorem FB.rf {h : AH} : FB h h := ⟨fun _ _ _ _ => rfl, rfl⟩
theorem FB.tr {h h' h2 : AH} (a : FB h h') (b : FB h' h2) : FB h h2 := ⟨fun o k h1 h2 => (b.1 o k h1 h2).trans (a.1 o k h1 h2), b.2.trans a.2⟩
theorem s_cl {h : AH} {B : BB} {j : Nat} (hj : j < 4) (R : RKR h B) (v : Int32) : ∃ h', X11_comesLength (nI j) v h = some ((), h') ∧ RKR h' (ad B j v) ∧ FB h h' := by
  unfold X11_comesLength
  rw [ck_nI _ hj (by decide), nI_clamp (by omega), (R j hj).1, (R j hj).2]
  by_cases c : B.1 j < v
  · have c2 : ¬ v ≤ B.1 j := Int32.not_le.mpr c
    rw [if_neg c2, ck_nI _ hj (by decide), ck_nI _ hj (by decide), vl_e, ck_nI _ hj (by decide), vl_e]
    refine ⟨_, rfl, fun i hi => ?_, ⟨fun o k h1 h2 => ?_, rfl⟩⟩
    · rw [sI_at, sI_at, sI_at, sI_at]
      show _ = (if i = j then (if B.1 j < v then v else B.1 j) else B.1 i) ∧ _ = (if i = j then (if B.1 j < v then B.1 j else if B.2 j < v then v else B.2 j) else B.2 i)
      by_cases d : i = j
      · rw [if_pos d, if_pos d, if_pos c, if_pos c, if_pos ⟨rfl, d⟩, if_neg (by omega), if_pos ⟨rfl, d⟩]
        exact ⟨rfl, rfl⟩
      · rw [if_neg d, if_neg d, if_neg (by omega), if_neg (by omega), if_neg (by omega), if_neg (by omega)]
        exact R i hi
    · rw [sI_at, if_neg (by omega), sI_at, if_neg (by omega)]
  · have c2 : v ≤ B.1 j := Int32.not_lt.mp c
    rw [if_pos c2, ck_nI _ hj (by decide)]
    by_cases e : B.2 j < v
    · have e2 : ¬ v ≤ B.2 j := Int32.not_le.mpr e
      rw [if_neg e2, ck_nI _ hj (by decide), vl_e]
      refine ⟨_, rfl, fun i hi => ?_, ⟨fun o k h1 h2 => ?_, rfl⟩⟩
      · rw [sI_at, sI_at]
        show _ = (if i = j then (if B.1 j < v then v else B.1 j) else B.1 i) ∧ _ = (if i = j then (if B.1 j < v then B.1 j else if B.2 j < v then v else B.2 j) else B.2 i)
        by_cases d : i = j
        · rw [if_pos d, if_pos d, if_neg c, if_neg c, if_pos e, if_neg (by omega), if_pos ⟨rfl, d⟩, d]
          exact ⟨(R j hj).1, rfl⟩
        · rw [if_neg d, if_neg d, if_neg (by omega), if_neg (by omega)]
          exact R i hi
      · rw [sI_at, if_neg (by omega)]
    · have e2 : v ≤ B.2 j := Int32.not_lt.mp e
      rw [if_pos e2]
      refine ⟨_, rfl, fun i hi => ?_, FB.rf⟩
      show _ = (if i = j then (if B.1 j < v then v else B.1 j) else B.1 i) ∧ _ = (if i = j then (if B.1 j < v then B.1 j else if B.2 j < v then v else B.2 j) else B.2 i)
      by_cases d : i = j
      · rw [if_pos d, if_pos d, if_neg c, if_neg c, if_neg e, d]
        exact R j hj
      · rw [if_neg d, if_neg d]
        exact R i hi
/-- the LENGTH of a try by a mode, as the reference says it -/
def tas (h : AH) (mode : Int32) (t : Nat) : Int32 :=
  if h.1 11 t = -9 then (if mode = 2 then lenS (h.1 2 (h.1 10 t).toNatClampNeg) (h.1 3 (h.1 10 t).toNatClampNeg) (h.1 7 (h.1 10 t).toNatClampNeg) (h.1 0 14) 0 0 else 0) else if h.1 11 t = -8 then 0 else h.1 11 t + (if mode = 1 then h.1 12 t else 0)
theorem s_tas {h : AH} {t w : Nat} (mode : Int32) (ht : t < 24) (hw : w < 4) (ew : h.1 10 t = nI w) : X11_triedAs (nI t) mode h = some (tas h mode t, h) := by
  unfold X11_triedAs tas
  rw [ck_nI _ ht (by decide), ck_nI _ ht (by decide), ck_nI _ ht (by decide), ck_nI _ ht (by decide), ck_nI _ ht (by decide), nI_clamp (by omega), ew, s_lenR hw, bd_s, nI_clamp (by omega)]
  repeat (first | rfl | split)
theorem s_bestL {g : AH} {n : Nat} {mode : Int32} (hn : n ≤ 24) {w : Nat → Nat} (hw : ∀ t, t < n → w t < 4 ∧ g.1 10 t = nI (w t)) : ∀ (f t : Nat) (h : AH), n < t + f → t ≤ n → FB g h → RKR h (bst w (tas g mode) t) → ∃ h', X11_findBest_l29 mode (nI n) f (nI t) h = some ((), h') ∧ RKR h' (bst w (tas g mode) n) ∧ FB g h' := by
  intro f
  induction f with
  | zero => intro t h h1 h2; omega
  | succ f ih =>
    intro t h h1 h2 F R
    rw [X11_findBest_l29.eq_2]
    by_cases c : t = n
    · subst c
      rw [if_pos (Int32.le_refl _)]
      exact ⟨h, rfl, R, F⟩
    · have hw1 := hw t (by omega)
      have e10 : h.1 10 t = nI (w t) := by rw [F.1 10 t (by decide) (by decide)]; exact hw1.2
      have et : tas h mode t = tas g mode t := by
        unfold tas
        rw [F.1 11 t (by decide) (by decide), F.1 10 t (by decide) (by decide), F.1 12 t (by decide) (by decide), F.1 2 _ (by decide) (by decide), F.1 3 _ (by decide) (by decide), F.1 7 _ (by decide) (by decide), F.1 0 14 (by decide) (by decide)]
      rw [if_neg (nI_ge (by omega) (by omega)), ck_nI _ (by omega) (by decide), s_tas mode (by omega) hw1.1 e10, bd_s, nI_clamp (by omega), e10, et]
      obtain ⟨h1', a1, a2, a3⟩ := s_cl hw1.1 R (tas g mode t)
      rw [a1, bd_s, vl_e, nI_1]
      exact ih (t + 1) h1' (by omega) (by omega) (F.tr a3) a2
theorem s_bestR {h : AH} {n : Nat} (mode : Int32) (hn : n ≤ 24) {w : Nat → Nat} (hw : ∀ t, t < n → w t < 4 ∧ h.1 10 t = nI (w t)) : ∃ h', X11_findBest mode (nI n) h = some ((), h') ∧ RKR h' (bst w (tas h mode) n) ∧ FB h h' := by
  have step : ∀ (i f : Nat) (h : AH), i < 4 → X11_findBest_l2 mode (nI n) (f + 1) (nI i) h = X11_findBest_l2 mode (nI n) f (nI (i + 1)) (sI (sI h 20 i 0) 21 i 0) := by
    intro i f h hi
    rw [X11_findBest_l2.eq_2, if_neg (show ¬ (4 : Int32) ≤ nI i from nI_ge (a := i) (b := 4) hi (by decide)), ck_nI _ hi (by decide), vl_e, ck_nI _ hi (by decide), vl_e, vl_e, nI_clamp (by omega), nI_1]
  obtain ⟨g, eg⟩ : ∃ g, g = sI (sI (sI (sI (sI (sI (sI (sI h 20 0 0) 21 0 0) 20 1 0) 21 1 0) 20 2 0) 21 2 0) 20 3 0) 21 3 0 := ⟨_, rfl⟩
  have e0 : X11_findBest mode (nI n) h = X11_findBest_l29 mode (nI n) FU 0 g := by
    show X11_findBest_l2 mode (nI n) (4995 + 1 + 1 + 1 + 1 + 1) (nI 0) h = _
    rw [step 0 _ _ (by decide), step 1 _ _ (by decide), step 2 _ _ (by decide), step 3 _ _ (by decide), X11_findBest_l2.eq_2, if_pos (show (4 : Int32) ≤ nI 4 from nI_le (Nat.le_refl 4) (by decide)), eg]
  have F0 : FB h g := by
    refine ⟨fun o k h1 h2 => ?_, by rw [eg]; rfl⟩
    rw [eg]
    simp only [sI_at]
    repeat (first | rw [if_neg (by omega)])
  have R0 : RKR g (fun _ => 0, fun _ => 0) := by
    intro i hi
    rw [eg]
    simp only [sI_at]
    match i, hi with
    | 0, _ => exact ⟨rfl, rfl⟩
    | 1, _ => exact ⟨rfl, rfl⟩
    | 2, _ => exact ⟨rfl, rfl⟩
    | 3, _ => exact ⟨rfl, rfl⟩
  have eT : tas g mode = tas h mode := by
    funext t
    unfold tas
    rw [F0.1 11 t (by decide) (by decide), F0.1 10 t (by decide) (by decide), F0.1 12 t (by decide) (by decide), F0.1 2 _ (by decide) (by decide), F0.1 3 _ (by decide) (by decide), F0.1 7 _ (by decide) (by decide), F0.1 0 14 (by decide) (by decide)]
  obtain ⟨h', a1, a2, a3⟩ := s_bestL (g := g) (mode := mode) hn (w := w) (fun t ht => ⟨(hw t ht).1, by rw [F0.1 10 t (by decide) (by decide)]; exact (hw t ht).2⟩) FU 0 g (by unfold FU; omega) (by omega) FB.rf R0
  have a1 : X11_findBest_l29 mode (nI n) FU 0 g = some ((), h') := a1
  refine ⟨h', by rw [e0, a1], ?_, F0.tr a3⟩
  rw [← eT]
  exact a2
theorem s_isAhead {h : AH} {B : BB} {a b : Nat} (ha : a < 4) (hb : b < 4) (hB : BP B) (R : RKR h B) : X11_isAhead (nI a) (nI b) h = some (if ky B b < ky B a then 1 else 0, h) := by
  have q1 := hB a
  have q2 := hB b
  have r1 := fb_rng (B.1 a)
  have r2 := fb_rng (B.1 b)
  unfold X11_isAhead
  rw [ck_nI _ ha (by decide), ck_nI _ hb (by decide), ck_nI _ ha (by decide), ck_nI _ hb (by decide), ck_nI _ ha (by decide), ck_nI _ hb (by decide), ck_nI _ ha (by decide), ck_nI _ hb (by decide), nI_clamp (by omega), nI_clamp (by omega), (R a ha).1, (R a ha).2, (R b hb).1, (R b hb).2, cz_0, cz_1]
  by_cases d1 : B.1 a = B.1 b
  · rw [if_pos d1]
    by_cases d2 : B.2 a = B.2 b
    · rw [if_pos d2]
      by_cases d3 : b ≤ a
      · rw [if_pos (nI_le d3 (by omega)), if_neg (by unfold ky; rw [d1, d2]; omega)]
      · rw [if_neg (nI_ge (by omega) (by omega)), if_pos (by unfold ky; rw [d1, d2]; omega)]
    · have d2' : (B.2 a).toInt ≠ (B.2 b).toInt := fun z => d2 ((fa_eq _ _).mpr z)
      rw [if_neg d2]
      by_cases d3 : B.2 a ≤ B.2 b
      · rw [if_pos d3]
        rw [fa_le] at d3
        rw [if_neg (by unfold ky; rw [d1]; omega)]
      · rw [if_neg d3]
        rw [fa_le] at d3
        rw [if_pos (by unfold ky; rw [d1]; omega)]
  · have d1' : (B.1 a).toInt ≠ (B.1 b).toInt := fun z => d1 ((fa_eq _ _).mpr z)
    rw [if_neg d1]
    by_cases d3 : B.1 a ≤ B.1 b
    · rw [if_pos d3]
      rw [fa_le] at d3
      rw [if_neg (by unfold ky; omega)]
    · rw [if_neg d3]
      rw [fa_le] at d3
      rw [if_pos (by unfold ky; omega)]
def FO22 (h h' : AH) : Prop := (∀ o k, o ≠ 22 → h'.1 o k = h.1 o k) ∧ h'.2 = h.2
theorem rk_s (B : BB) (m j : Nat) : rk B (m + 1) j = rk B m j + (if ky B j < ky B m then 1 else 0) := by
  show cN _ m + (if decide (ky B j < ky B m) = true then 1 else 0) = _
  unfold rk
  congr 1
  by_cases c : ky B j < ky B m
  · rw [if_pos c, if_pos (decide_eq_true c)]
  · rw [if_neg c, if_neg (by rw [decide_eq_false c]; decide)]
theorem s_ins {B : BB} {m : Nat} (hm : m < 4) (hB : BP B) {g : AH} (R : RKR g B) (hO : ∀ j, j < m → g.1 22 (rk B m j) = nI j) (K : Int32 → AH → Option (Unit × AH)) : ∀ (f q : Nat) (h : AH), q < f → rk B m m ≤ q → q ≤ m → FO22 g h → (∀ x, x ≤ q → x < m → h.1 22 x = g.1 22 x) → (∀ x, q < x → x ≤ m → h.1 22 x = g.1 22 (x - 1)) →
    ∃ h', X11_sorts_l12 (nI m) K f (nI q) h = K (nI (m + 1)) h' ∧ FO22 g h' ∧ ∀ j, j < m + 1 → h'.1 22 (rk B (m + 1) j) = nI j := by
  intro f
  induction f with
  | zero => intro q h h1; omega
  | succ f ih =>
    intro q h h1 h2 h3 F A1 A2
    have Rh : RKR h B := fun i hi => by rw [F.1 20 i (by decide), F.1 21 i (by decide)]; exact R i hi
    -- the end at the right place
    have fin : q = rk B m m → ∃ h', X11_sorts_j52 (nI m) (nI q) K h = K (nI (m + 1)) h' ∧ FO22 g h' ∧ ∀ j, j < m + 1 → h'.1 22 (rk B (m + 1) j) = nI j := by
      intro e
      unfold X11_sorts_j52
      rw [ck_nI _ (by omega) (by decide), vl_e, vl_e, nI_1, nI_clamp (by omega)]
      refine ⟨_, rfl, ⟨fun o k ho => ?_, F.2⟩, fun j hj => ?_⟩
      · rw [sI_at, if_neg (fun z => ho z.1)]
        exact F.1 o k ho
      · rw [sI_at, rk_s]
        by_cases c : j = m
        · subst c
          rw [if_neg (Int.lt_irrefl _), Nat.add_zero, if_pos ⟨rfl, e.symm⟩]
        · have hjm : j < m := by omega
          have hr := rk_lt (B := B) hjm
          by_cases d : ky B j < ky B m
          · have h4 : rk B m m ≤ rk B m j := by
              refine cN_mono m (fun k _ hk => ?_)
              have := of_decide_eq_true hk
              exact decide_eq_true (by omega)
            rw [if_pos d, if_neg (by omega), A2 _ (by omega) (by omega), Nat.add_sub_cancel]
            exact hO j hjm
          · have hne := ky_ne (B := B) (by omega : j < 4) hm hB c
            have h4 : rk B m j < rk B m m := by
              refine cN_lt m (fun k _ hk => ?_) ⟨j, hjm, decide_eq_true (by omega), by simp⟩
              have := of_decide_eq_true hk
              exact decide_eq_true (by omega)
            rw [if_neg d, Nat.add_zero, if_neg (by omega), A1 _ (by omega) (by omega)]
            exact hO j hjm
    rw [X11_sorts_l12.eq_2]
    by_cases c : q = 0
    · rw [if_pos (by rw [c]; exact Int32.le_refl _)]
      exact fin (by omega)
    · have e1 : nI q - 1 = nI (q - 1) := by
        rw [show q = q - 1 + 1 from by omega]
        exact nI_pred (q - 1)
      have e2 : nI q + (-1) = nI (q - 1) := by
        rw [show q = q - 1 + 1 from by omega]
        exact pk_m1 (q - 1)
      obtain ⟨j, hj, ej⟩ := rk_onto (B := B) (n := m) (p := q - 1) (by omega) hB (by omega)
      have e3 : h.1 22 (q - 1) = nI j := by
        rw [A1 (q - 1) (by omega) (by omega), ← ej]
        exact hO j hj
      rw [if_neg (nI_nle (by omega) (by omega)), e1, ck_nI _ (by omega) (by decide), nI_clamp (by omega), e3, s_isAhead hm (by omega) hB Rh, bd_s]
      have hne := ky_ne (B := B) (by omega : j < 4) hm hB (by omega)
      by_cases d : ky B j < ky B m
      · have h4 : rk B m m ≤ q - 1 := by
          rw [← ej]
          refine cN_mono m (fun k _ hk => ?_)
          have := of_decide_eq_true hk
          exact decide_eq_true (by omega)
        rw [if_pos d, if_neg (by decide), ck_nI _ (by omega) (by decide), ck_nI _ (by omega) (by decide), vl_e, vl_e, e2, nI_clamp (by omega), e3]
        refine ih (q - 1) _ (by omega) h4 (by omega) ⟨fun o k ho => ?_, F.2⟩ (fun x hx hxm => ?_) (fun x hx hxm => ?_)
        · rw [sI_at, if_neg (fun z => ho z.1)]
          exact F.1 o k ho
        · rw [sI_at, if_neg (by omega)]
          exact A1 x (by omega) hxm
        · rw [sI_at]
          by_cases w : x = q
          · rw [if_pos ⟨rfl, w⟩, w, ← A1 (q - 1) (by omega) (by omega), e3]
          · rw [if_neg (fun z => w z.2)]
            exact A2 x (by omega) hxm
      · have h4 : q - 1 < rk B m m := by
          rw [← ej]
          refine cN_lt m (fun k _ hk => ?_) ⟨j, hj, decide_eq_true (by omega), by simp⟩
          have := of_decide_eq_true hk
          exact decide_eq_true (by omega)
        rw [if_neg d, if_pos (by rfl)]
        exact fin (by omega)
theorem s_sorts {h : AH} {B : BB} {N : Nat} (hN : N ≤ 4) (eN : h.1 0 15 = nI N) (hB : BP B) (R : RKR h B) : ∃ h', X11_sorts h = some ((), h') ∧ FO22 h h' ∧ ∀ j, j < N → h'.1 22 (rk B N j) = nI j := by
  have key : ∀ (f m : Nat) (g : AH), N < m + f → m ≤ N → FO22 h g → (∀ j, j < m → g.1 22 (rk B m j) = nI j) → ∃ h', X11_sorts_l2 f (nI m) g = some ((), h') ∧ FO22 h h' ∧ ∀ j, j < N → h'.1 22 (rk B N j) = nI j := by
    intro f
    induction f with
    | zero => intro m g h1 h2; omega
    | succ f ih =>
      intro m g h1 h2 F hO
      rw [X11_sorts_l2.eq_2, F.1 0 15 (by decide), eN]
      by_cases c : m = N
      · subst c
        rw [if_pos (Int32.le_refl _)]
        exact ⟨g, rfl, F, hO⟩
      · rw [if_neg (nI_ge (by omega) (by omega))]
        have Rg : RKR g B := fun i hi => by rw [F.1 20 i (by decide), F.1 21 i (by decide)]; exact R i hi
        obtain ⟨g2, a1, a2, a3⟩ := s_ins (m := m) (by omega) hB Rg hO (X11_sorts_l2 f) FU m g (by unfold FU; omega) (cN_le _ m) (Nat.le_refl m) ⟨fun _ _ _ => rfl, rfl⟩ (fun x _ _ => rfl) (fun x h4 h5 => by omega)
        rw [a1]
        exact ih (m + 1) g2 (by omega) (by omega) ⟨fun o k ho => (a2.1 o k ho).trans (F.1 o k ho), a2.2.trans F.2⟩ a3
  exact key FU 0 h (by unfold FU; omega) (by omega) ⟨fun _ _ _ => rfl, rfl⟩ (fun j hj => by omega)
theorem s_rankOf {h : AH} {B : BB} {N j : Nat} (hN : N ≤ 4) (eN : h.1 0 15 = nI N) (hB : BP B) (hO : ∀ j, j < N → h.1 22 (rk B N j) = nI j) (hj : j < N) : X11_rankOf (nI j) h = some (nI (rk B N j), h) := by
  have hr := rk_lt (B := B) hj
  have key : ∀ (f k : Nat), N < k + f → k ≤ rk B N j → X11_rankOf_l2 (nI j) f (nI k) h = some (nI (rk B N j), h) := by
    intro f
    induction f with
    | zero => intro k h1 h2; omega
    | succ f ih =>
      intro k h1 h2
      rw [X11_rankOf_l2.eq_2, eN, if_neg (nI_ge (by omega) (by omega)), ck_nI _ (by omega) (by decide), nI_clamp (by omega)]
      by_cases c : k = rk B N j
      · rw [c, hO j hj, if_pos rfl]
      · obtain ⟨i, hi, ei⟩ := rk_onto (B := B) (p := k) hN hB (by omega)
        have e : h.1 22 k = nI i := by rw [← ei]; exact hO i hi
        rw [e, if_neg (fun z => c (by rw [(nI_eq (by omega) (by omega)).mp z] at ei; exact ei.symm)), vl_e, nI_1]
        exact ih (k + 1) (by omega) (by omega)
  exact key FU 0 (by unfold FU; omega) (by omega)
end
