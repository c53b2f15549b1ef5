/-! THE PURE PART: what the L2 functions answer. Small words first -/
theorem bd_s {α β : Type} (a : α) (h : AH) (f : α → AH → Option β) : bd (some (a, h)) f = f a h := (rfl)
theorem vl_e {α β : Type} (e : α) (f : α → β) : vl e f = f e := (rfl)
theorem ck_in {β : Type} {i : Int32} {n : Nat} (o : Option β) (h : ¬ (i < 0 ∨ n ≤ i.toNatClampNeg)) : ck i n o = o := if_neg h
theorem ck_nI {β : Type} {i n : Nat} (o : Option β) (h : i < n) (hn : n < 2 ^ 31) : ck (nI i) n o = o := if_neg (nI_in h hn)
theorem cz_0 {β : Type} (o : Option β) : cz 0 o = o := if_pos (Or.inl rfl)
theorem cz_1 {β : Type} (o : Option β) : cz 1 o = o := if_pos (Or.inr rfl)
theorem cs_in {β : Type} {Z : Stc} {a : Nat} {s : Shp} (o : Option β) (h : Z.1[a]? = some s) : cs Z a s o = o := if_pos h
theorem s_first (a b : Int32) (h : AH) : X10_first a b h = some (if a = 0 then b else a, h) := by
  unfold X10_first
  split <;> rfl
theorem s_nobody (v : Int32) (h : AH) : X10_nobody v h = some (if v < 0 ∨ h.1 42 3 ≤ v then -1 else 0, h) := by
  unfold X10_nobody X10_nobody_j15
  by_cases h1 : v < 0
  · rw [if_pos h1, if_pos (Or.inl h1)]
  · rw [if_neg h1]
    by_cases h2 : v < h.1 42 3
    · rw [if_pos h2, if_neg (fun q => q.elim h1 (fun q => Int32.not_le.mpr h2 q))]
    · rw [if_neg h2, if_pos (Or.inr (Int32.not_lt.mp h2))]
theorem s_noSuch (v m : Int32) (h : AH) : X10_noSuch v m h = some (if v < 0 ∨ m < v then -2 else 0, h) := by
  unfold X10_noSuch X10_noSuch_j9
  by_cases h1 : v < 0
  · rw [if_pos h1, if_pos (Or.inl h1)]
  · rw [if_neg h1]
    by_cases h2 : v ≤ m
    · rw [if_pos h2, if_neg (fun q => q.elim h1 (fun q => Int32.not_lt.mpr h2 q))]
    · rw [if_neg h2, if_pos (Or.inr (Int32.not_le.mp h2))]
theorem s_noPart (v : Int32) (h : AH) : X10_noPart v h = some (if v < 0 ∨ 1 < v then -2 else 0, h) := by
  unfold X10_noPart
  rw [s_noSuch]
  rfl
theorem s_outside (v a b : Int32) (h : AH) : X10_outside v a b h = some (if v < a then -4 else if b < v then -6 else 0, h) := by
  unfold X10_outside
  by_cases h1 : v < a
  · rw [if_neg (Int32.not_le.mpr h1), if_pos h1]
  · rw [if_pos (Int32.not_lt.mp h1), if_neg h1]
    by_cases h2 : b < v
    · rw [if_neg (Int32.not_le.mpr h2), if_pos h2]
    · rw [if_pos (Int32.not_lt.mp h2), if_neg h2]
theorem s_outsideTwo (a b : Int32) (h : AH) : X10_outsideTwo a b h = some (if a = -4 ∨ b = -4 then -4 else if a = 0 then b else a, h) := by
  unfold X10_outsideTwo X10_outsideTwo_j12
  by_cases h1 : a = -4
  · rw [if_pos h1, if_pos (Or.inl h1)]
  · rw [if_neg h1]
    by_cases h2 : b = -4
    · rw [if_pos h2, if_pos (Or.inr h2)]
    · rw [if_neg h2, if_neg (fun q => q.elim h1 h2), s_first]
      rfl
theorem s_bound (v a b : Int32) (h : AH) : X11_bound v a b h = some (if v < a then -4 else if b < v then -6 else 0, h) := s_outside v a b h
theorem s_isJumper (v : Int32) (h : AH) : X11_isJumper v h = some (if v < 0 ∨ h.1 0 15 ≤ v then 0 else 1, h) := by
  unfold X11_isJumper
  by_cases h1 : v < 0
  · rw [if_pos h1, if_pos (Or.inl h1), cz_0]
  · rw [if_neg h1]
    by_cases h2 : h.1 0 15 ≤ v
    · rw [if_pos h2, if_pos (Or.inr h2), cz_0]
    · rw [if_neg h2, if_neg (fun q => q.elim h1 h2), cz_1]
theorem s_isIn (v a b : Int32) (h : AH) : X11_isIn v a b h = some (if v < a ∨ b < v then 0 else 1, h) := by
  unfold X11_isIn
  by_cases h1 : v < a
  · rw [if_pos h1, if_pos (Or.inl h1), cz_0]
  · rw [if_neg h1]
    by_cases h2 : b < v
    · rw [if_pos h2, if_pos (Or.inr h2), cz_0]
    · rw [if_neg h2, if_neg (fun q => q.elim h1 h2), cz_1]
/-- a refusal's numbers, on both sides -/
theorem s_ref {x : Int32} (hx : x = -1 ∨ x = -2 ∨ x = -3 ∨ x = -4 ∨ x = -6) : ∃ w : Nat, w < 7 ∧ ∀ h : AH, X10_refuse x h = some (x, sI h 4 w (h.1 4 w + 1)) ∧ X11_no x h = some (x, sI h 1 w (h.1 1 w + 1)) ∧ X11_lower x h = some (1000000000 - x, sI h 1 w (h.1 1 w + 1)) ∧ X11_lowest x h = some (4000000000000000000 - x.toInt64, sI h 1 w (h.1 1 w + 1)) := by
  have key : ∀ (x : Int32) (w : Nat), (¬ 0 ≤ x) → (¬ 7 ≤ -x) → (¬ (-x < 0 ∨ 7 ≤ (-x).toNatClampNeg)) → (-x).toNatClampNeg = w → ∀ h : AH, X10_refuse x h = some (x, sI h 4 w (h.1 4 w + 1)) ∧ X11_no x h = some (x, sI h 1 w (h.1 1 w + 1)) ∧ X11_lower x h = some (1000000000 - x, sI h 1 w (h.1 1 w + 1)) ∧ X11_lowest x h = some (4000000000000000000 - x.toInt64, sI h 1 w (h.1 1 w + 1)) := by
    intro x w h1 h2 h3 h4 h
    refine ⟨?_, ?_, ?_, ?_⟩
    · unfold X10_refuse
      rw [if_neg h1, if_neg h2, ck_in _ h3, ck_in _ h3, vl_e, h4]
    · unfold X11_no
      rw [ck_in _ h3, ck_in _ h3, vl_e, h4]
    · unfold X11_lower
      rw [ck_in _ h3, ck_in _ h3, vl_e, h4]
    · unfold X11_lowest
      rw [ck_in _ h3, ck_in _ h3, vl_e, h4]
  rcases hx with e | e | e | e | e <;> subst e
  · exact ⟨1, by decide, key _ 1 (by decide) (by decide) (by decide) (by decide)⟩
  · exact ⟨2, by decide, key _ 2 (by decide) (by decide) (by decide) (by decide)⟩
  · exact ⟨3, by decide, key _ 3 (by decide) (by decide) (by decide) (by decide)⟩
  · exact ⟨4, by decide, key _ 4 (by decide) (by decide) (by decide) (by decide)⟩
  · exact ⟨6, by decide, key _ 6 (by decide) (by decide) (by decide) (by decide)⟩
/-! rows filled, copied, kept -/
theorem s_fillI (p n : Nat) (v : Int32) (hn : n < 2 ^ 31) : ∀ (f i : Nat) (h : AH), n < i + f → i ≤ n → J7_fill_53178_l5 p n v (nI n) f (nI i) h = some ((), (fun o k => if o = p ∧ i ≤ k ∧ k < n then v else h.1 o k, h.2)) := by
  intro f
  induction f with
  | zero => intro i h h1 h2; omega
  | succ f ih =>
    intro i h h1 h2
    unfold J7_fill_53178_l5
    by_cases e : i = n
    · subst e
      rw [if_pos (Int32.le_refl _)]
      refine congrArg some (congrArg (Prod.mk ()) (Prod.ext ?_ rfl))
      funext o k
      show h.1 o k = if o = p ∧ i ≤ k ∧ k < i then v else h.1 o k
      rw [if_neg (by omega)]
    · rw [if_neg (nI_ge (by omega) hn), ck_nI _ (by omega) hn, vl_e, vl_e, nI_clamp (by omega), nI_1, ih (i + 1) _ (by omega) (by omega)]
      refine congrArg some (congrArg (Prod.mk ()) (Prod.ext ?_ rfl))
      funext o k
      show (if o = p ∧ i + 1 ≤ k ∧ k < n then v else if o = p ∧ k = i then v else h.1 o k) = if o = p ∧ i ≤ k ∧ k < n then v else h.1 o k
      by_cases c : o = p ∧ i ≤ k ∧ k < n
      · rw [if_pos c]
        by_cases c2 : k = i
        · rw [if_neg (by omega), if_pos ⟨c.1, c2⟩]
        · rw [if_pos (by omega)]
      · rw [if_neg c, if_neg (by omega), if_neg (by omega)]
theorem s_fill4 (p : Nat) (v : Int32) (h : AH) : J7_fill_53178 p 4 v h = some ((), (fun o k => if o = p ∧ k < 4 then v else h.1 o k, h.2)) := by
  unfold J7_fill_53178
  rw [vl_e]
  show J7_fill_53178_l5 p 4 v (nI 4) FU (nI 0) h = _
  rw [s_fillI p 4 v (by decide) FU 0 h (by decide) (by decide)]
  refine congrArg some (congrArg (Prod.mk ()) (Prod.ext ?_ rfl))
  funext o k
  show (if o = p ∧ 0 ≤ k ∧ k < 4 then v else h.1 o k) = (if o = p ∧ k < 4 then v else h.1 o k)
  by_cases c : o = p ∧ k < 4
  · rw [if_pos c, if_pos (by omega)]
  · rw [if_neg c, if_neg (by omega)]
/-- the ranking, begun -/
def rk0 (h : AH) (n : Int32) : AH := (fun o k => if o = 7 ∧ k < 4 then 0 else if o = 6 ∧ k < 4 then 0 else if o = 5 ∧ k = 0 then n else h.1 o k, h.2)
theorem s_start (v : Int32) (h : AH) : X6_start v h = some ((), rk0 h (mx32 0 (mn32 4 v))) := by
  unfold X6_start
  rw [vl_e, s_fill4, bd_s, s_fill4, bd_s]
  rfl
/-- a jumper copied -/
def jcp (o p : Nat) (h : AH) : AH := (fun q k => if q = o ∧ 1 ≤ k ∧ k ≤ 8 then h.1 p k else h.1 q k, h.2.1, fun q => if q = o then h.2.2 p else h.2.2 q)
theorem s_jcp {o p : Nat} (hop : o ≠ p) (h : AH) : X2_copyFrom o p h = some ((), jcp o p h) := by
  unfold X2_copyFrom
  simp only [vl_e]
  refine congrArg some (congrArg (Prod.mk ()) (Prod.ext ?_ (Prod.ext rfl ?_)))
  · funext q k
    simp only [sI, sK, jcp]
    by_cases hq : q = o
    · subst hq
      have hp : ¬ p = q := fun e => hop e.symm
      match k with
      | 0 => simp
      | 1 => simp [hp]
      | 2 => simp [hp]
      | 3 => simp [hp]
      | 4 => simp [hp]
      | 5 => simp [hp]
      | 6 => simp [hp]
      | 7 => simp [hp]
      | 8 => simp [hp]
      | k + 9 =>
        have : ¬ (k + 9 ≤ 8) := by omega
        simp [this]
    · simp [hq]
  · funext q
    simp only [sI, sK, jcp]
/-- a meet copied -/
def mcp (o p : Nat) (h : AH) : AH := (fun q k => if q = o ∧ k < 5 then h.1 p k else if o + 2 ≤ q ∧ q < o + 6 ∧ k < 24 then h.1 (p + (q - o)) k else if o + 6 ≤ q ∧ q < o + 10 ∧ 1 ≤ k ∧ k ≤ 8 then h.1 (p + (q - o)) k else h.1 q k, h.2.1, fun q => if o + 6 ≤ q ∧ q < o + 10 then h.2.2 (p + (q - o)) else h.2.2 q)
theorem cpI_at (h : AH) (s d n o k : Nat) : (cpI h s d n).1 o k = if o = d ∧ k < n then h.1 s k else h.1 o k := rfl
theorem jcp_at (o p : Nat) (h : AH) (q k : Nat) : (jcp o p h).1 q k = if q = o ∧ 1 ≤ k ∧ k ≤ 8 then h.1 p k else h.1 q k := rfl
theorem jcp_22 (o p : Nat) (h : AH) (q : Nat) : (jcp o p h).2.2 q = if q = o then h.2.2 p else h.2.2 q := rfl
theorem sI_at (h : AH) (o k : Nat) (v : Int32) (q j : Nat) : (sI h o k v).1 q j = if q = o ∧ j = k then v else h.1 q j := rfl
theorem sK_at (h : AH) (o v q : Nat) : (sK h o v).2.2 q = if q = o then v else h.2.2 q := rfl
theorem cf_step (o p : Nat) {i : Nat} (hi : i < 4) (hop : o + 10 ≤ p ∨ p + 10 ≤ o) (n : Nat) (h : AH) : X5_copyFrom_l42 o p (n + 1) (nI i) h = X5_copyFrom_l42 o p n (nI (i + 1)) (jcp (o + 6 + i) (p + 6 + i) h) := by
  have h4 : ¬ (4 : Int32) ≤ nI i := nI_ge (a := i) (b := 4) hi (by decide)
  rw [X5_copyFrom_l42.eq_2, if_neg h4, ck_nI _ hi (by decide), ck_nI _ hi (by decide), nI_clamp (by omega), Nat.mod_eq_of_lt hi, s_jcp (by omega), bd_s, vl_e, nI_1]
theorem cf_end (o p n : Nat) (h : AH) : X5_copyFrom_l42 o p (n + 1) (nI 4) h = some ((), cpI (cpI (cpI (cpI h (p + 2) (o + 2) 24) (p + 3) (o + 3) 24) (p + 4) (o + 4) 24) (p + 5) (o + 5) 24) := by
  have h4 : (4 : Int32) ≤ nI 4 := nI_le (Nat.le_refl 4) (by decide)
  rw [X5_copyFrom_l42.eq_2, if_pos h4]
  rfl
set_option maxRecDepth 10000 in
set_option maxHeartbeats 4000000 in
theorem s_mcp {o p : Nat} (hop : o + 10 ≤ p ∨ p + 10 ≤ o) (h : AH) : X5_copyFrom o p h = some ((), mcp o p h) := by
  unfold X5_copyFrom
  simp only [vl_e]
  show X5_copyFrom_l42 o p (4995 + 1 + 1 + 1 + 1 + 1) (nI 0) _ = _
  rw [cf_step o p (by decide) hop, cf_step o p (by decide) hop, cf_step o p (by decide) hop, cf_step o p (by decide) hop, cf_end]
  refine congrArg some (congrArg (Prod.mk ()) (Prod.ext ?_ (Prod.ext rfl ?_)))
  · funext q k
    show _ = if q = o ∧ k < 5 then h.1 p k else if o + 2 ≤ q ∧ q < o + 6 ∧ k < 24 then h.1 (p + (q - o)) k else if o + 6 ≤ q ∧ q < o + 10 ∧ 1 ≤ k ∧ k ≤ 8 then h.1 (p + (q - o)) k else h.1 q k
    by_cases c1 : q = o ∧ k < 5
    · obtain ⟨rfl, c1⟩ := c1
      rw [if_pos ⟨rfl, c1⟩]
      match k, c1 with
      | 0, _ => repeat (first | rw [if_neg (by omega)] | rw [if_pos (by omega)] | rw [cpI_at] | rw [jcp_at] | rw [sI_at])
      | 1, _ => repeat (first | rw [if_neg (by omega)] | rw [if_pos (by omega)] | rw [cpI_at] | rw [jcp_at] | rw [sI_at])
      | 2, _ => repeat (first | rw [if_neg (by omega)] | rw [if_pos (by omega)] | rw [cpI_at] | rw [jcp_at] | rw [sI_at])
      | 3, _ => repeat (first | rw [if_neg (by omega)] | rw [if_pos (by omega)] | rw [cpI_at] | rw [jcp_at] | rw [sI_at])
      | 4, _ => repeat (first | rw [if_neg (by omega)] | rw [if_pos (by omega)] | rw [cpI_at] | rw [jcp_at] | rw [sI_at])
    · by_cases c2 : o + 2 ≤ q ∧ q < o + 6 ∧ k < 24
      · rw [if_neg c1, if_pos c2]
        rcases (by omega : q = o + 2 ∨ q = o + 3 ∨ q = o + 4 ∨ q = o + 5) with e | e | e | e
        · rw [show p + (q - o) = p + 2 from by omega]
          repeat (first | rw [if_neg (by omega)] | rw [if_pos (by omega)] | rw [cpI_at] | rw [jcp_at] | rw [sI_at])
        · rw [show p + (q - o) = p + 3 from by omega]
          repeat (first | rw [if_neg (by omega)] | rw [if_pos (by omega)] | rw [cpI_at] | rw [jcp_at] | rw [sI_at])
        · rw [show p + (q - o) = p + 4 from by omega]
          repeat (first | rw [if_neg (by omega)] | rw [if_pos (by omega)] | rw [cpI_at] | rw [jcp_at] | rw [sI_at])
        · rw [show p + (q - o) = p + 5 from by omega]
          repeat (first | rw [if_neg (by omega)] | rw [if_pos (by omega)] | rw [cpI_at] | rw [jcp_at] | rw [sI_at])
      · by_cases c3 : o + 6 ≤ q ∧ q < o + 10 ∧ 1 ≤ k ∧ k ≤ 8
        · rw [if_neg c1, if_neg c2, if_pos c3]
          rcases (by omega : q = o + 6 ∨ q = o + 7 ∨ q = o + 8 ∨ q = o + 9) with e | e | e | e
          · rw [show p + (q - o) = p + 6 + 0 from by omega]
            repeat (first | rw [if_neg (by omega)] | rw [if_pos (by omega)] | rw [cpI_at] | rw [jcp_at] | rw [sI_at])
          · rw [show p + (q - o) = p + 6 + (0 + 1) from by omega]
            repeat (first | rw [if_neg (by omega)] | rw [if_pos (by omega)] | rw [cpI_at] | rw [jcp_at] | rw [sI_at])
          · rw [show p + (q - o) = p + 6 + (0 + 1 + 1) from by omega]
            repeat (first | rw [if_neg (by omega)] | rw [if_pos (by omega)] | rw [cpI_at] | rw [jcp_at] | rw [sI_at])
          · rw [show p + (q - o) = p + 6 + (0 + 1 + 1 + 1) from by omega]
            repeat (first | rw [if_neg (by omega)] | rw [if_pos (by omega)] | rw [cpI_at] | rw [jcp_at] | rw [sI_at])
        · rw [if_neg c1, if_neg c2, if_neg c3]
          repeat (first | rw [if_neg (by omega)] | rw [if_pos (by omega)] | rw [cpI_at] | rw [jcp_at] | rw [sI_at])
  · funext q
    show _ = if o + 6 ≤ q ∧ q < o + 10 then h.2.2 (p + (q - o)) else h.2.2 q
    show (jcp (o + 6 + (0 + 1 + 1 + 1)) (p + 6 + (0 + 1 + 1 + 1)) (jcp (o + 6 + (0 + 1 + 1)) (p + 6 + (0 + 1 + 1)) (jcp (o + 6 + (0 + 1)) (p + 6 + (0 + 1)) (jcp (o + 6 + 0) (p + 6 + 0) (h))))).2.2 q = _
    by_cases c3 : o + 6 ≤ q ∧ q < o + 10
    · rw [if_pos c3]
      rcases (by omega : q = o + 6 ∨ q = o + 7 ∨ q = o + 8 ∨ q = o + 9) with e | e | e | e
      · rw [show p + (q - o) = p + 6 + 0 from by omega]
        repeat (first | rw [if_neg (by omega)] | rw [if_pos (by omega)] | rw [jcp_22])
      · rw [show p + (q - o) = p + 6 + (0 + 1) from by omega]
        repeat (first | rw [if_neg (by omega)] | rw [if_pos (by omega)] | rw [jcp_22])
      · rw [show p + (q - o) = p + 6 + (0 + 1 + 1) from by omega]
        repeat (first | rw [if_neg (by omega)] | rw [if_pos (by omega)] | rw [jcp_22])
      · rw [show p + (q - o) = p + 6 + (0 + 1 + 1 + 1) from by omega]
        repeat (first | rw [if_neg (by omega)] | rw [if_pos (by omega)] | rw [jcp_22])
    · rw [if_neg c3]
      repeat (first | rw [if_neg (by omega)] | rw [if_pos (by omega)] | rw [jcp_22])
/-- a row of the reference kept -/
def kpI (h : AH) (p q n : Nat) : AH := (fun o k => if o = 17 ∧ q ≤ k ∧ k < q + n then h.1 p (k - q) else if o = 0 ∧ k = 27 then nI (q + n) else h.1 o k, h.2)
theorem kpI_at (h : AH) (p q n o k : Nat) : (kpI h p q n).1 o k = if o = 17 ∧ q ≤ k ∧ k < q + n then h.1 p (k - q) else if o = 0 ∧ k = 27 then nI (q + n) else h.1 o k := rfl
theorem s_keepL (p n q : Nat) (hp : p ≠ 17) (hp0 : p ≠ 0) (hn : q + n ≤ 240) : ∀ (f i : Nat) (h g : AH), n < i + f → i ≤ n → h = kpI g p q i → ¬ g.1 0 26 = 0 → X11_passes_l2 p n f (nI i) h = some ((), kpI g p q n) := by
  intro f
  induction f with
  | zero => intro i h g h1 h2; omega
  | succ f ih =>
    intro i h g h1 h2 e hg
    rw [X11_passes_l2.eq_2]
    by_cases c : i = n
    · subst c
      rw [if_pos (show Int32.ofNat i ≤ nI i from Int32.le_refl _), e]
    · have e26 : h.1 0 26 = g.1 0 26 := by rw [e, kpI_at, if_neg (by omega), if_neg (by omega)]
      have e27 : h.1 0 27 = nI (q + i) := by rw [e, kpI_at, if_neg (by omega), if_pos ⟨rfl, rfl⟩]
      have ep : h.1 p i = g.1 p i := by rw [e, kpI_at, if_neg (by omega), if_neg (by omega)]
      rw [if_neg (show ¬ Int32.ofNat n ≤ nI i from nI_ge (by omega) (by omega)), if_neg (by rw [e26]; exact hg), ck_nI _ (by omega) (by omega), e27, ck_nI _ (by omega) (by omega), vl_e, nI_clamp (by omega), nI_clamp (by omega)]
      unfold X11_passes_j42
      rw [vl_e, vl_e, nI_1]
      refine ih (i + 1) _ g (by omega) (by omega) ?_ hg
      refine Prod.ext ?_ (by rw [e]; rfl)
      funext o k
      rw [kpI_at, sI_at, sI_at, sI_at, if_neg (by omega : ¬ (0 = 17 ∧ 27 = q + i)), e27, ep, nI_1, e, kpI_at]
      by_cases c1 : o = 0 ∧ k = 27
      · rw [if_pos c1, if_neg (by omega), if_pos c1]
        rfl
      · rw [if_neg c1]
        by_cases c2 : o = 17 ∧ k = q + i
        · rw [if_pos c2, if_pos (by omega), show k - q = i from by omega]
        · rw [if_neg c2, if_neg c1, if_neg c1]
          by_cases c3 : o = 17 ∧ q ≤ k ∧ k < q + i
          · rw [if_pos c3, if_pos (by omega)]
          · rw [if_neg c3, if_neg (by omega)]
theorem s_keep {p n q : Nat} {h : AH} (hp : p ≠ 17) (hp0 : p ≠ 0) (hn : q + n ≤ 240) (h26 : ¬ h.1 0 26 = 0) (h27 : h.1 0 27 = nI q) : X11_passes p n h = some ((), kpI h p q n) := by
  unfold X11_passes
  refine s_keepL p n q hp hp0 hn FU 0 h h (by unfold FU; omega) (by omega) ?_ h26
  refine Prod.ext ?_ rfl
  funext o k
  rw [kpI_at, if_neg (by omega)]
  by_cases c1 : o = 0 ∧ k = 27
  · rw [if_pos c1, c1.1, c1.2]
    exact h27
  · rw [if_neg c1]
/-- a row of the reference put back -/
def bkI (h : AH) (p q n : Nat) : AH := (fun o k => if o = p ∧ k < n then h.1 17 (q + k) else if o = 0 ∧ k = 27 then nI (q + n) else h.1 o k, h.2)
theorem bkI_at (h : AH) (p q n o k : Nat) : (bkI h p q n).1 o k = if o = p ∧ k < n then h.1 17 (q + k) else if o = 0 ∧ k = 27 then nI (q + n) else h.1 o k := rfl
theorem s_backL (p n q : Nat) (hp : p ≠ 17) (hp0 : p ≠ 0) (hn : q + n ≤ 240) : ∀ (f i : Nat) (h g : AH), n < i + f → i ≤ n → h = bkI g p q i → g.1 0 26 = 0 → X11_passes_l2 p n f (nI i) h = some ((), bkI g p q n) := by
  intro f
  induction f with
  | zero => intro i h g h1 h2; omega
  | succ f ih =>
    intro i h g h1 h2 e hg
    rw [X11_passes_l2.eq_2]
    by_cases c : i = n
    · subst c
      rw [if_pos (show Int32.ofNat i ≤ nI i from Int32.le_refl _), e]
    · have e26 : h.1 0 26 = g.1 0 26 := by rw [e, bkI_at, if_neg (by omega), if_neg (by omega)]
      have e27 : h.1 0 27 = nI (q + i) := by rw [e, bkI_at, if_neg (by omega), if_pos ⟨rfl, rfl⟩]
      have ep : h.1 17 (q + i) = g.1 17 (q + i) := by rw [e, bkI_at, if_neg (by omega), if_neg (by omega)]
      rw [if_neg (show ¬ Int32.ofNat n ≤ nI i from nI_ge (by omega) (by omega)), if_pos (by rw [e26]; exact hg), e27, ck_nI _ (by omega) (by omega), ck_nI _ (by omega) (by omega), vl_e, nI_clamp (by omega), nI_clamp (by omega)]
      unfold X11_passes_j42
      rw [vl_e, vl_e, nI_1]
      refine ih (i + 1) _ g (by omega) (by omega) ?_ hg
      refine Prod.ext ?_ (by rw [e]; rfl)
      funext o k
      rw [bkI_at, sI_at, sI_at, sI_at, if_neg (by omega : ¬ (0 = p ∧ 27 = i)), e27, ep, nI_1, e, bkI_at]
      by_cases c1 : o = 0 ∧ k = 27
      · rw [if_pos c1, if_neg (by omega), if_pos c1]
        rfl
      · rw [if_neg c1]
        by_cases c2 : o = p ∧ k = i
        · rw [if_pos c2, if_pos (by omega), c2.2]
        · rw [if_neg c2, if_neg c1, if_neg c1]
          by_cases c3 : o = p ∧ k < i
          · rw [if_pos c3, if_pos (by omega)]
          · rw [if_neg c3, if_neg (by omega)]
theorem s_back {p n q : Nat} {h : AH} (hp : p ≠ 17) (hp0 : p ≠ 0) (hn : q + n ≤ 240) (h26 : h.1 0 26 = 0) (h27 : h.1 0 27 = nI q) : X11_passes p n h = some ((), bkI h p q n) := by
  unfold X11_passes
  refine s_backL p n q hp hp0 hn FU 0 h h (by unfold FU; omega) (by omega) ?_ h26
  refine Prod.ext ?_ rfl
  funext o k
  rw [bkI_at, if_neg (by omega)]
  by_cases c1 : o = 0 ∧ k = 27
  · rw [if_pos c1, c1.1, c1.2]
    exact h27
  · rw [if_neg c1]
theorem s_keep1 {q : Nat} {h : AH} (v : Int32) (hn : q < 240) (h26 : ¬ h.1 0 26 = 0) (h27 : h.1 0 27 = nI q) : X11_passOne v h = some (v, sI (sI h 17 q v) 0 27 (nI (q + 1))) := by
  unfold X11_passOne X11_passOne_j20 X11_passOne_j38
  rw [if_neg h26, if_neg h26, h27, ck_nI _ hn (by decide), vl_e, nI_clamp (by omega), vl_e, sI_at, if_neg (by omega), h27, nI_1]
theorem s_back1 {q : Nat} {h : AH} (v : Int32) (hn : q < 240) (h26 : h.1 0 26 = 0) (h27 : h.1 0 27 = nI q) : X11_passOne v h = some (h.1 17 q, sI h 0 27 (nI (q + 1))) := by
  unfold X11_passOne X11_passOne_j20 X11_passOne_j38
  rw [if_pos h26, if_pos h26, h27, ck_nI _ hn (by decide), vl_e, nI_clamp (by omega), nI_1]
