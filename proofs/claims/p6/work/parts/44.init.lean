/-! THE START: what the constructors leave -/
/-- n over k -/
def cb : Nat → Nat → Nat
  | 0, k => if k = 0 then 1 else 0
  | n + 1, k => cb n k + (match k with | 0 => 0 | j + 1 => cb n j)
def cbp (n k d : Nat) : Nat := if d ≤ k then cb n (k - d) else 0
theorem cb_s (n k : Nat) : cb (n + 1) k = cb n k + cbp n k 1 := by
  unfold cbp
  cases k with
  | zero => rfl
  | succ k => rfl
theorem cb_s2 (n k : Nat) : cb (n + 2) k = cb n k + 2 * cbp n k 1 + cbp n k 2 := by
  have h1 : cb (n + 2) k = cb (n + 1) k + cbp (n + 1) k 1 := cb_s (n + 1) k
  rw [h1, cb_s]
  unfold cbp
  match k with
  | 0 => rfl
  | 1 =>
    simp only [Nat.sub_self, Nat.le_refl, if_true, if_neg (show ¬ 2 ≤ 1 from by decide)]
    rw [cb_s]
    unfold cbp
    simp
    omega
  | k + 2 =>
    rw [if_pos (by omega), if_pos (by omega), if_pos (by omega), cb_s]
    unfold cbp
    rw [if_pos (by omega), show k + 2 - 1 - 1 = k + 2 - 2 from by omega]
    omega
theorem cb_big (n : Nat) : ∀ k, n < k → cb n k = 0 := by
  induction n with
  | zero => intro k hk; show (if k = 0 then 1 else 0) = 0; rw [if_neg (by omega)]
  | succ n ih =>
    intro k hk
    rw [cb_s, ih k (by omega)]
    unfold cbp
    split
    · rw [ih _ (by omega)]
    · rfl
/-- a row of the table, as far as i -/
def wpt (f : Nat → Nat) (i j : Nat) : Nat := (if j < i then f j else 0) + 2 * (if 1 ≤ j ∧ j - 1 < i then f (j - 1) else 0) + (if 2 ≤ j ∧ j - 2 < i then f (j - 2) else 0)
theorem wpt_s (f : Nat → Nat) (i j : Nat) : wpt f (i + 1) j = wpt f i j + (if j = i then f i else 0) + (if j = i + 1 then 2 * f i else 0) + (if j = i + 2 then f i else 0) := by
  unfold wpt
  by_cases b : 1 ≤ j
  · by_cases c : 2 ≤ j
    · by_cases a0 : j = i
      · subst a0
        repeat (first | rw [if_pos (by omega)] | rw [if_neg (by omega)])
        all_goals omega
      · by_cases a1 : j = i + 1
        · subst a1
          repeat (first | rw [if_pos (by omega)] | rw [if_neg (by omega)])
          rw [Nat.add_sub_cancel]
          all_goals omega
        · by_cases a2 : j = i + 2
          · subst a2
            repeat (first | rw [if_pos (by omega)] | rw [if_neg (by omega)])
            rw [Nat.add_sub_cancel]
            all_goals omega
          · by_cases d : j < i
            · repeat (first | rw [if_pos (by omega)] | rw [if_neg (by omega)])
              all_goals omega
            · repeat (first | rw [if_pos (by omega)] | rw [if_neg (by omega)])
              all_goals omega
    · have e : j = 1 := by omega
      subst e
      by_cases a0 : 1 = i
      · subst a0
        repeat (first | rw [if_pos (by omega)] | rw [if_neg (by omega)])
        all_goals omega
      · by_cases a1 : 1 = i + 1
        · have e : i = 0 := by omega
          subst e
          repeat (first | rw [if_pos (by omega)] | rw [if_neg (by omega)])
          all_goals omega
        · repeat (first | rw [if_pos (by omega)] | rw [if_neg (by omega)])
          all_goals omega
  · have e : j = 0 := by omega
    subst e
    by_cases a0 : 0 = i
    · subst a0
      repeat (first | rw [if_pos (by omega)] | rw [if_neg (by omega)])
      all_goals omega
    · repeat (first | rw [if_pos (by omega)] | rw [if_neg (by omega)])
      all_goals omega
theorem wpt_end (n j : Nat) : wpt (cb n) (n + 1) j = cb (n + 2) j := by
  rw [cb_s2]
  unfold wpt cbp
  congr 1
  · congr 1
    · split
      · rfl
      · rw [cb_big n j (by omega)]
    · by_cases c : 1 ≤ j
      · rw [if_pos c]
        by_cases d : j - 1 < n + 1
        · rw [if_pos ⟨c, d⟩]
        · rw [if_neg (by omega), cb_big n _ (by omega)]
      · rw [if_neg c, if_neg (by omega)]
  · by_cases c : 2 ≤ j
    · rw [if_pos c]
      by_cases d : j - 2 < n + 1
      · rw [if_pos ⟨c, d⟩]
      · rw [if_neg (by omega), cb_big n _ (by omega)]
    · rw [if_neg c, if_neg (by omega)]
theorem sL_at (h : AH) (o k : Nat) (v : Int64) (q j : Nat) : (sL h o k v).2.1 q j = if q = o ∧ j = k then v else h.2.1 q j := rfl
theorem lN_2 (a : Nat) : 2 * lN a = lN (2 * a) := lN_mul 2 a
theorem s_ways1 {m : Nat} (hm : m < 20) (K : Int32 → AH → Option (Unit × AH)) : ∀ (f i : Nat) (h : AH), 2 * m + 1 < i + f → i ≤ 2 * m + 1 → (∀ j, h.2.1 (11 + m) j = lN (wpt (cb (2 * m)) i j)) → (∀ j, h.2.1 (10 + m) j = lN (cb (2 * m) j)) →
    ∃ h', X1_init_i8_l49 (nI (m + 1)) K f (nI i) h = K (nI (m + 2)) h' ∧ h'.1 = h.1 ∧ h'.2.2 = h.2.2 ∧ (∀ o j, o ≠ 11 + m → h'.2.1 o j = h.2.1 o j) ∧ (∀ j, h'.2.1 (11 + m) j = lN (cb (2 * m + 2) j)) := by
  intro f
  induction f with
  | zero => intro i h h1 h2; omega
  | succ f ih =>
    intro i h h1 h2 hR hP
    rw [X1_init_i8_l49.eq_2]
    have e2 : (2 : Int32) * nI (m + 1) - 2 = nI (2 * m) := by
      show nI 2 * nI (m + 1) - nI 2 = _
      rw [pk_mul, pk_sub (by omega)]
      congr 1
      all_goals omega
    rw [e2]
    by_cases c : i = 2 * m + 1
    · subst c
      rw [if_pos (nI_lt (by omega) (by omega)), vl_e, nI_1]
      exact ⟨h, rfl, rfl, rfl, fun o j _ => rfl, fun j => by rw [hR, wpt_end]⟩
    · rw [if_neg (nI_nlt (by omega) (by omega))]
      have e1 : nI (m + 1) - 1 = nI m := nI_pred m
      have e3 : nI i + 2 = nI (i + 2) := nI_add i 2
      simp only [e1, e3, nI_1, vl_e]
      rw [ck_nI _ (by omega) (by omega), ck_nI _ (by omega) (by omega), ck_nI _ (by omega) (by omega), ck_nI _ (by omega) (by omega), ck_nI _ (by omega) (by omega), ck_nI _ (by omega) (by omega), ck_nI _ (by omega) (by omega), ck_nI _ (by omega) (by omega), ck_nI _ (by omega) (by omega), ck_nI _ (by omega) (by omega), ck_nI _ (by omega) (by omega), ck_nI _ (by omega) (by omega), ck_nI _ (by omega) (by omega), ck_nI _ (by omega) (by omega), ck_nI _ (by omega) (by omega)]
      rw [nI_clamp (by omega : m + 1 < 2 ^ 31), nI_clamp (by omega : m < 2 ^ 31), nI_clamp (by omega : i < 2 ^ 31), nI_clamp (by omega : i + 1 < 2 ^ 31), nI_clamp (by omega : i + 2 < 2 ^ 31), Nat.mod_eq_of_lt (by omega : m + 1 < 21), Nat.mod_eq_of_lt (by omega : m < 21), show 10 + (m + 1) = 11 + m from by omega]
      generalize hg9 : sL h (11 + m) i (h.2.1 (11 + m) i + h.2.1 (10 + m) i) = h9
      generalize hg10 : sL h9 (11 + m) (i + 1) (h9.2.1 (11 + m) (i + 1) + 2 * h9.2.1 (10 + m) i) = h10
      generalize hg11 : sL h10 (11 + m) (i + 2) (h10.2.1 (11 + m) (i + 2) + h10.2.1 (10 + m) i) = h11
      have p9 : ∀ o j, h9.2.1 o j = if o = 11 + m ∧ j = i then h.2.1 (11 + m) i + h.2.1 (10 + m) i else h.2.1 o j := fun o j => by rw [← hg9, sL_at]
      have p10 : ∀ o j, h10.2.1 o j = if o = 11 + m ∧ j = i + 1 then h9.2.1 (11 + m) (i + 1) + 2 * h9.2.1 (10 + m) i else h9.2.1 o j := fun o j => by rw [← hg10, sL_at]
      have p11 : ∀ o j, h11.2.1 o j = if o = 11 + m ∧ j = i + 2 then h10.2.1 (11 + m) (i + 2) + h10.2.1 (10 + m) i else h10.2.1 o j := fun o j => by rw [← hg11, sL_at]
      have hoth : ∀ o j, o ≠ 11 + m → h11.2.1 o j = h.2.1 o j := fun o j ho => by rw [p11, if_neg (fun z => ho z.1), p10, if_neg (fun z => ho z.1), p9, if_neg (fun z => ho z.1)]
      obtain ⟨h', a1, a2, a3, a4, a5⟩ := ih (i + 1) h11 (by omega) (by omega) (fun j => by
        rw [wpt_s, p11, p10, p10, p10, p9, p9, p9, p9]
        by_cases d0 : j = i
        · subst d0
          rw [if_neg (by omega), if_neg (by omega), if_pos ⟨rfl, rfl⟩, hR, hP, lN_add, if_pos rfl, if_neg (by omega), if_neg (by omega)]
          rfl
        · by_cases d1 : j = i + 1
          · subst d1
            rw [if_neg (by omega), if_pos ⟨rfl, rfl⟩, if_neg (by omega), if_neg (by omega), hR, hP, lN_2, lN_add, if_neg (by omega), if_pos rfl, if_neg (by omega)]
            congr 1
          · by_cases d2 : j = i + 2
            · subst d2
              rw [if_pos ⟨rfl, rfl⟩, if_neg (by omega), if_neg (by omega), if_neg (by omega), if_neg (by omega), hR, hP, lN_add, if_neg (by omega), if_neg (by omega), if_pos rfl]
              congr 1
            · rw [if_neg (by omega), if_neg (by omega), if_neg (by omega), hR, if_neg d0, if_neg d1, if_neg d2]
              rfl) (fun j => by rw [hoth _ j (by omega), hP])
      refine ⟨h', a1, ?_, ?_, fun o j ho => by rw [a4 o j ho, hoth o j ho], a5⟩
      · rw [a2, ← hg11, ← hg10, ← hg9]; rfl
      · rw [a3, ← hg11, ← hg10, ← hg9]; rfl
theorem s_ways2 : ∀ (f m : Nat) (h : AH), 20 < m + f → m ≤ 20 → (∀ n j, n ≤ m → h.2.1 (10 + n) j = lN (cb (2 * n) j)) → (∀ n j, m < n → n ≤ 20 → h.2.1 (10 + n) j = 0) →
    ∃ h', X1_init_i8_l41 f (nI (m + 1)) h = some ((), h') ∧ h'.1 = h.1 ∧ h'.2.2 = h.2.2 ∧ (∀ n j, n ≤ 20 → h'.2.1 (10 + n) j = lN (cb (2 * n) j)) ∧ (∀ o j, (o < 10 ∨ 30 < o) → h'.2.1 o j = h.2.1 o j) := by
  intro f
  induction f with
  | zero => intro m h h1 h2; omega
  | succ f ih =>
    intro m h h1 h2 hA hB
    rw [X1_init_i8_l41.eq_2]
    by_cases c : m = 20
    · subst c
      rw [if_pos (show (20 : Int32) < nI 21 from nI_lt (a := 20) (by decide) (by decide))]
      exact ⟨h, rfl, rfl, rfl, fun n j hn => hA n j hn, fun _ _ _ => rfl⟩
    · rw [if_neg (show ¬ (20 : Int32) < nI (m + 1) from nI_nlt (b := m + 1) (a := 20) (by omega) (by decide))]
      obtain ⟨h1', a1, a2, a3, a4, a5⟩ := s_ways1 (m := m) (by omega) (X1_init_i8_l41 f) FU 0 h (by unfold FU; omega) (by omega) (fun j => by
        rw [show 11 + m = 10 + (m + 1) from by omega, hB (m + 1) j (by omega) (by omega)]
        unfold wpt
        rw [if_neg (by omega), if_neg (by omega), if_neg (by omega)]
        rfl) (fun j => hA m j (Nat.le_refl m))
      have e0 : X1_init_i8_l49 (nI (m + 1)) (X1_init_i8_l41 f) FU 0 h = X1_init_i8_l41 f (nI (m + 2)) h1' := a1
      rw [e0]
      obtain ⟨h2', b1, b2, b3, b4, b5⟩ := ih (m + 1) h1' (by omega) (by omega) (fun n j hn => by
        by_cases d : n = m + 1
        · subst d
          rw [show 10 + (m + 1) = 11 + m from by omega, a5 j]
          rfl
        · rw [a4 _ j (by omega), hA n j (by omega)]) (fun n j h3 h4 => by rw [a4 _ j (by omega), hB n j (by omega) h4])
      exact ⟨h2', b1, by rw [b2, a2], by rw [b3, a3], b4, fun o j ho => by rw [b5 o j ho, a4 o j (by omega)]⟩
theorem s_chances (h : AH) : ∃ h', X1_init_i8 h = some ((), h') ∧ h'.1 = (zN (zM h 9 21) 31).1 ∧ h'.2.2 = (zN (zM h 9 21) 31).2.2 ∧ (∀ n j, n ≤ 20 → h'.2.1 (10 + n) j = lN (cb (2 * n) j)) ∧ (∀ o j, (o < 10 ∨ 30 < o) → h'.2.1 o j = (sL (zN (zM h 9 21) 31) 8 2 1).2.1 o j) := by
  unfold X1_init_i8
  simp only [vl_e]
  have z0 : (0 : Int32).toNatClampNeg = 0 := rfl
  have z1 : (1 : Int32) = nI (0 + 1) := rfl
  rw [ck_in _ (by decide), ck_in _ (by decide), z0, z1]
  have hz : ∀ n j, n ≤ 20 → (zN (zM h 9 21) 31).2.1 (10 + n) j = 0 := by
    intro n j hn
    show (if 10 + n = 31 then 0 else if 9 ≤ 10 + n ∧ 10 + n ≤ 9 + 21 then 0 else h.2.1 (10 + n) j) = 0
    rw [if_neg (by omega), if_pos (by omega)]
  obtain ⟨h', a1, a2, a3, a4, a5⟩ := s_ways2 FU 0 (sL (sL (zN (zM h 9 21) 31) 8 2 1) 10 0 1) (by unfold FU; omega) (by omega) (fun n j hn => by
    have e : n = 0 := by omega
    subst e
    rw [sL_at, sL_at, if_neg (by omega : ¬ (10 + 0 = 8 ∧ j = 2)), hz 0 j (by omega)]
    show (if 10 + 0 = 10 ∧ j = 0 then (1 : Int64) else 0) = lN (cb 0 j)
    show _ = lN (if j = 0 then 1 else 0)
    by_cases d : j = 0
    · rw [if_pos ⟨rfl, d⟩, if_pos d]; rfl
    · rw [if_neg (fun z => d z.2), if_neg d]; rfl) (fun n j h3 h4 => by rw [sL_at, sL_at, if_neg (by omega), if_neg (by omega), hz n j h4])
  refine ⟨h', a1, by rw [a2]; rfl, by rw [a3]; rfl, a4, fun o j ho => by rw [a5 o j ho, sL_at, if_neg (by omega)]⟩
/-- what holds of the class's heap as it is made -/
def StC (c : AH) : Prop := (∀ o, o = 42 ∨ o = 52 ∨ o = 62 → c.1 o 0 = 10 ∧ c.1 o 1 = 0 ∧ c.1 o 2 = 2 ∧ c.1 o 3 = 0 ∧ c.1 o 4 = 0) ∧ c.1 0 4 = 0 ∧ c.1 0 6 = 0 ∧ c.1 0 8 = 0 ∧ (∀ k, c.1 2 k = 0 ∧ c.1 3 k = 0 ∧ c.1 4 k = 0 ∧ c.1 44 k = 0 ∧ c.1 45 k = 0 ∧ c.1 46 k = 0 ∧ c.1 47 k = 0 ∧ c.1 48 k = 0 ∧ c.1 49 k = 0 ∧ c.1 50 k = 0 ∧ c.1 51 k = 0) ∧ c.2.2 48 = 0 ∧ c.2.2 49 = 0 ∧ c.2.2 50 = 0 ∧ c.2.2 51 = 0 ∧ (∀ n j, n ≤ 20 → c.2.1 (10 + n) j = lN (cb (2 * n) j))
theorem zN_1 (h : AH) (n o k : Nat) : (zN h n).1 o k = if o = n then 0 else h.1 o k := rfl
theorem zN_21 (h : AH) (n o k : Nat) : (zN h n).2.1 o k = if o = n then 0 else h.2.1 o k := rfl
theorem zN_22 (h : AH) (n o : Nat) : (zN h n).2.2 o = if o = n then 0 else h.2.2 o := rfl
theorem zM_1 (h : AH) (n M o k : Nat) : (zM h n M).1 o k = if n ≤ o ∧ o ≤ n + M then 0 else h.1 o k := rfl
theorem zM_22 (h : AH) (n M o : Nat) : (zM h n M).2.2 o = if n ≤ o ∧ o ≤ n + M then 0 else h.2.2 o := rfl
set_option maxRecDepth 100000 in
set_option maxHeartbeats 4000000 in
theorem init_C : ∃ c0, X10_init_i0 AZ = some ((), c0) ∧ StC c0 := by
  obtain ⟨h', a1, a2, a3, a4, a5⟩ := s_chances (zN (zN (zN (zN (zN (zN (zN (zN AZ 1) 2) 3) 4) 5) 6) 7) 8)
  refine ⟨_, by
    unfold X10_init_i0 X6_init_i5
    simp only [vl_e, bd_s]
    rw [a1]
    rfl, ?_⟩
  · have b1 : ∀ o k, h'.1 o k = 0 := by
      intro o k
      rw [a2]
      simp only [zN_1, zM_1]
      repeat (first | rfl | split)
    have b3 : ∀ o, h'.2.2 o = 0 := by
      intro o
      rw [a3]
      simp only [zN_22, zM_22]
      repeat (first | rfl | split)
    refine ⟨?_, ?_, ?_, ?_, ?_, ?_, ?_, ?_, ?_, ?_⟩
    · intro o ho
      rcases ho with e | e | e <;> subst e <;> simp [zN_1, sI_at, sK, b1]
    · simp [zN_1, sI_at, sK, b1]
    · simp [zN_1, sI_at, sK, b1]
    · simp [zN_1, sI_at, sK, b1]
    · intro k
      simp [zN_1, sI_at, sK, b1]
    · simp [zN_22, sK_at, sI, b3]
    · simp [zN_22, sK_at, sI, b3]
    · simp [zN_22, sK_at, sI, b3]
    · simp [zN_22, sK_at, sI, b3]
    · intro n j hn
      rw [← a4 n j hn]
      have e : ∀ q, 31 < q → ¬ 10 + n = q := fun q hq => by omega
      simp [zN_21, sI, sK, e]
/-- what holds of the reference's heap as it is made -/
def StR (r : AH) : Prop := r.1 0 12 = 10 ∧ r.1 0 13 = 2 ∧ r.1 0 14 = 0 ∧ r.1 0 15 = 0 ∧ r.1 0 16 = 0 ∧ r.1 0 21 = 0 ∧ r.1 0 25 = 0 ∧ r.1 0 34 = 0 ∧ (∀ k, r.1 1 k = 0 ∧ r.1 2 k = 0 ∧ r.1 3 k = 0 ∧ r.1 4 k = 0 ∧ r.1 5 k = 0 ∧ r.1 6 k = 0 ∧ r.1 7 k = 0 ∧ r.1 8 k = 0 ∧ r.1 9 k = 0 ∧ r.1 10 k = 0 ∧ r.1 11 k = 0 ∧ r.1 12 k = 0 ∧ r.1 13 k = 0 ∧ r.1 23 k = 0)
set_option maxRecDepth 100000 in
set_option maxHeartbeats 4000000 in
theorem init_R : ∃ r0, X11_init_i0 AZ = some ((), r0) ∧ StR r0 := by
  refine ⟨_, rfl, ?_⟩
  have b1 : ∀ o k, AZ.1 o k = 0 := fun _ _ => rfl
  unfold StR
  simp [zN_1, sI_at, b1]
