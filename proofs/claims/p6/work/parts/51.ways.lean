/-! SUMS; the ways of n strides -/
def sm : Nat → (Nat → Int64) → Int64
  | 0, _ => 0
  | n + 1, f => sm n f + f n
theorem sm_c {n : Nat} {f g : Nat → Int64} (h : ∀ i, i < n → f i = g i) : sm n f = sm n g := by
  induction n with
  | zero => rfl
  | succ n ih =>
    show sm n f + f n = sm n g + g n
    rw [ih (fun i hi => h i (by omega)), h n (by omega)]
theorem sm_z {n : Nat} {f : Nat → Int64} (h : ∀ i, i < n → f i = 0) : sm n f = 0 := by
  induction n with
  | zero => rfl
  | succ n ih =>
    show sm n f + f n = 0
    rw [ih (fun i hi => h i (by omega)), h n (by omega), Int64.add_zero]
theorem sm_app (m n : Nat) (f : Nat → Int64) : sm (m + n) f = sm m f + sm n (fun i => f (m + i)) := by
  induction n with
  | zero => exact (Int64.add_zero _).symm
  | succ n ih =>
    show sm (m + n) f + f (m + n) = sm m f + (sm n (fun i => f (m + i)) + f (m + n))
    rw [ih, Int64.add_assoc]
theorem sm_mul (n : Nat) (a : Int64) (f : Nat → Int64) : sm n (fun i => a * f i) = a * sm n f := by
  induction n with
  | zero => exact Int64.mul_zero.symm
  | succ n ih =>
    show sm n (fun i => a * f i) + a * f n = a * (sm n f + f n)
    rw [ih, Int64.mul_add]
theorem sm_plus (n : Nat) (f g : Nat → Int64) : sm n (fun i => f i + g i) = sm n f + sm n g := by
  induction n with
  | zero => rfl
  | succ n ih =>
    show sm n (fun i => f i + g i) + (f n + g n) = (sm n f + f n) + (sm n g + g n)
    rw [ih, Int64.add_assoc, Int64.add_assoc, ← Int64.add_assoc (sm n g), Int64.add_comm (sm n g) (f n), Int64.add_assoc]
/-- one place set -/
theorem sm_upd {n a : Nat} (ha : a < n) (f g : Nat → Int64) (x : Int64) (h1 : g a = f a + x) (h2 : ∀ i, i ≠ a → g i = f i) : sm n g = sm n f + x := by
  induction n with
  | zero => omega
  | succ n ih =>
    show sm n g + g n = sm n f + f n + x
    by_cases c : a = n
    · subst c
      rw [h1, sm_c (f := g) (g := f) (fun i hi => h2 i (by omega)), Int64.add_assoc]
    · rw [ih (by omega), h2 n (by omega), Int64.add_assoc, Int64.add_assoc, Int64.add_comm x]
/-- a window of ways -/
theorem sm_win {e : Nat} (he : e ≤ 20) (f : Nat → Int64) (hf : ∀ k, k < 41 → (k + e < 20 ∨ 20 + e < k) → f k = 0) : sm 41 f = sm (2 * e + 1) (fun i => f (20 - e + i)) := by
  have e1 : 41 = (20 - e) + ((2 * e + 1) + (20 - e)) := by omega
  rw [e1, sm_app, sm_app, sm_z (n := 20 - e) (f := f) (fun i hi => hf i (by omega) (by omega)), Int64.zero_add, sm_z (n := 20 - e) (f := fun i => f (20 - e + (2 * e + 1 + i))) (fun i hi => hf _ (by omega) (by omega)), Int64.add_zero]
/-- the ways behind i steps of the reference -/
def ca (i k : Nat) : Nat := if 20 ≤ k + i / 2 then cb i (k + i / 2 - 20) else 0
theorem ca_even {i k : Nat} (h : i % 2 = 0) (hi : i < 40) : ca (i + 1) k = ca i k + (if 1 ≤ k then ca i (k - 1) else 0) := by
  have e : (i + 1) / 2 = i / 2 := by omega
  unfold ca
  rw [e]
  by_cases c : 20 ≤ k + i / 2
  · rw [if_pos c, if_pos c, cb_s, if_pos (by omega)]
    congr 1
    unfold cbp
    by_cases d : 20 ≤ k - 1 + i / 2
    · rw [if_pos (by omega), if_pos d]
      congr 1
      omega
    · rw [if_neg (by omega), if_neg d]
  · rw [if_neg c, if_neg c]
    by_cases d : 1 ≤ k
    · rw [if_pos d, if_neg (by omega)]
    · rw [if_neg d]
theorem ca_odd {i k : Nat} (h : i % 2 = 1) (hi : i < 40) (hk : k < 41) : ca (i + 1) k = ca i k + (if k + 1 < 41 then ca i (k + 1) else 0) := by
  have e : (i + 1) / 2 = i / 2 + 1 := by omega
  have e40 : ¬ k + 1 < 41 → cb i (k + 1 + i / 2 - 20) = 0 := fun d => cb_big i _ (by omega)
  unfold ca
  rw [e]
  by_cases c : 20 ≤ k + (i / 2 + 1)
  · rw [if_pos c, cb_s]
    have e2 : (if k + 1 < 41 then if 20 ≤ k + 1 + i / 2 then cb i (k + 1 + i / 2 - 20) else 0 else 0) = cb i (k + (i / 2 + 1) - 20) := by
      by_cases d : k + 1 < 41
      · rw [if_pos d, if_pos (by omega)]
        congr 1
        omega
      · rw [if_neg d, show k + (i / 2 + 1) - 20 = k + 1 + i / 2 - 20 from by omega, e40 d]
    rw [e2, Nat.add_comm]
    congr 1
    unfold cbp
    by_cases d : 20 ≤ k + i / 2
    · rw [if_pos (by omega), if_pos d]
      congr 1
      all_goals omega
    · rw [if_neg (by omega), if_neg d]
  · rw [if_neg c, if_neg (by omega)]
    by_cases d : k + 1 < 41
    · rw [if_pos d, if_neg (by omega)]
    · rw [if_neg d]
section FW
variable {p : Nat}
/-- only the row p of longs is new -/
def LO (p : Nat) (h h' : AH) : Prop := h'.1 = h.1 ∧ h'.2.2 = h.2.2 ∧ ∀ o, o ≠ p → h'.2.1 o = h.2.1 o
theorem LO.rf {h : AH} : LO p h h := ⟨rfl, rfl, fun _ _ => rfl⟩
theorem LO.tr {h h' h2 : AH} (a : LO p h h') (b : LO p h' h2) : LO p h h2 := ⟨b.1.trans a.1, b.2.1.trans a.2.1, fun o ho => (b.2.2 o ho).trans (a.2.2 o ho)⟩
theorem LO.set (h : AH) (k : Nat) (v : Int64) : LO p h (sL h p k v) := ⟨rfl, rfl, fun o ho => funext fun j => by rw [sL_at, if_neg (fun z => ho z.1)]⟩
theorem fw_even {O N : Nat → Int64} (hN : ∀ k, k < 41 → N k = O k + (if 1 ≤ k then O (k - 1) else 0)) (v1 : Int32) (i : Nat) (K : Int32 → AH → Option (Unit × AH)) : ∀ (f q : Nat) (h : AH), 41 < q + f → q ≤ 41 → (∀ k, k < 41 → h.2.1 p k = if 41 - q ≤ k then N k else O k) →
    ∃ h', X11_findWays_l52 p 41 v1 (nI i) 1 K f (nI q) h = K (nI (i + 1)) h' ∧ LO p h h' ∧ ∀ k, k < 41 → h'.2.1 p k = N k := by
  intro f
  induction f with
  | zero => intro q h h1 h2; omega
  | succ f ih =>
    intro q h h1 h2 hA
    rw [X11_findWays_l52.eq_2]
    by_cases c : q = 41
    · subst c
      rw [if_pos (show Int32.ofNat 41 ≤ nI 41 from Int32.le_refl _), vl_e, nI_1]
      exact ⟨h, rfl, LO.rf, fun k hk => by rw [hA k hk, if_pos (by omega)]⟩
    · rw [if_neg (show ¬ Int32.ofNat 41 ≤ nI q from nI_ge (b := 41) (by omega) (by decide)), if_neg (by decide)]
      have e1 : Int32.ofNat 41 - 1 - nI q = nI (40 - q) := pk_sub (a := 40) (b := q) (by omega)
      rw [e1]
      unfold X11_findWays_j75 X11_findWays_j106
      rw [vl_e, vl_e, vl_e, nI_1]
      by_cases d : q = 40
      · subst d
        rw [if_pos (by decide)]
        exact ih 41 h (by omega) (by omega) (fun k hk => by
          rw [hA k hk]
          by_cases z : k = 0
          · subst z
            rw [if_neg (by omega), if_pos (by omega), hN 0 (by omega), if_neg (by omega), Int64.add_zero]
          · rw [if_pos (by omega), if_pos (by omega)])
      · have e2 : nI (40 - q) - 1 = nI (39 - q) := by
          rw [show 40 - q = (39 - q) + 1 from by omega]
          exact nI_pred _
        rw [e2, if_neg (nI_pos (by omega)), if_neg (show ¬ Int32.ofNat 41 ≤ nI (39 - q) from nI_ge (b := 41) (by omega) (by decide)), ck_nI _ (by omega) (by decide), ck_nI _ (by omega) (by decide), ck_nI _ (by omega) (by decide), vl_e, nI_clamp (by omega), nI_clamp (by omega)]
        obtain ⟨h', a1, a2, a3⟩ := ih (q + 1) (sL h p (40 - q) (h.2.1 p (40 - q) + h.2.1 p (39 - q))) (by omega) (by omega) (fun k hk => by
          rw [sL_at]
          by_cases z : k = 40 - q
          · subst z
            rw [if_pos ⟨rfl, rfl⟩, hA _ hk, hA _ (by omega), if_neg (by omega), if_neg (by omega), if_pos (by omega), hN _ hk, if_pos (by omega), show 40 - q - 1 = 39 - q from by omega]
          · rw [if_neg (fun w => z w.2), hA k hk]
            by_cases y : 41 - q ≤ k
            · rw [if_pos y, if_pos (by omega)]
            · rw [if_neg y, if_neg (by omega)])
        exact ⟨h', a1, (LO.set h _ _).tr a2, a3⟩
theorem fw_odd {O N : Nat → Int64} (hN : ∀ k, k < 41 → N k = O k + (if k + 1 < 41 then O (k + 1) else 0)) (v1 : Int32) (i : Nat) (K : Int32 → AH → Option (Unit × AH)) : ∀ (f q : Nat) (h : AH), 41 < q + f → q ≤ 41 → (∀ k, k < 41 → h.2.1 p k = if k < q then N k else O k) →
    ∃ h', X11_findWays_l52 p 41 v1 (nI i) (-1) K f (nI q) h = K (nI (i + 1)) h' ∧ LO p h h' ∧ ∀ k, k < 41 → h'.2.1 p k = N k := by
  intro f
  induction f with
  | zero => intro q h h1 h2; omega
  | succ f ih =>
    intro q h h1 h2 hA
    rw [X11_findWays_l52.eq_2]
    by_cases c : q = 41
    · subst c
      rw [if_pos (show Int32.ofNat 41 ≤ nI 41 from Int32.le_refl _), vl_e, nI_1]
      exact ⟨h, rfl, LO.rf, fun k hk => by rw [hA k hk, if_pos (by omega)]⟩
    · rw [if_neg (show ¬ Int32.ofNat 41 ≤ nI q from nI_ge (b := 41) (by omega) (by decide)), if_pos (by decide)]
      unfold X11_findWays_j75 X11_findWays_j106
      have e1 : nI q - (-1) = nI (q + 1) := by
        rw [Int32.sub_eq_add_neg]
        exact nI_1 q
      rw [vl_e, e1, vl_e, vl_e, nI_1, if_neg (nI_pos (by omega))]
      by_cases d : q = 40
      · subst d
        rw [if_pos (show Int32.ofNat 41 ≤ nI (40 + 1) from Int32.le_refl _)]
        exact ih 41 h (by omega) (by omega) (fun k hk => by
          rw [hA k hk, if_pos hk]
          by_cases z : k = 40
          · subst z
            rw [if_neg (by omega), hN 40 (by omega), if_neg (by omega), Int64.add_zero]
          · rw [if_pos (by omega)])
      · rw [if_neg (show ¬ Int32.ofNat 41 ≤ nI (q + 1) from nI_ge (b := 41) (by omega) (by decide)), ck_nI _ (by omega) (by decide), ck_nI _ (by omega) (by decide), ck_nI _ (by omega) (by decide), vl_e, nI_clamp (by omega), nI_clamp (by omega)]
        obtain ⟨h', a1, a2, a3⟩ := ih (q + 1) (sL h p q (h.2.1 p q + h.2.1 p (q + 1))) (by omega) (by omega) (fun k hk => by
          rw [sL_at]
          by_cases z : k = q
          · subst z
            rw [if_pos ⟨rfl, rfl⟩, hA _ hk, hA _ (by omega), if_neg (by omega), if_neg (by omega), if_pos (by omega), hN _ hk, if_pos (by omega)]
          · rw [if_neg (fun w => z w.2), hA k hk]
            by_cases y : k < q
            · rw [if_pos y, if_pos (by omega)]
            · rw [if_neg y, if_neg (by omega)])
        exact ⟨h', a1, (LO.set h _ _).tr a2, a3⟩
theorem fw_steps {n : Nat} (hn : n ≤ 20) : ∀ (f i : Nat) (h : AH), 2 * n < i + f → i ≤ 2 * n → (∀ k, k < 41 → h.2.1 p k = lN (ca i k)) → ∃ h', X11_findWays_l30 p 41 (nI n) f (nI i) h = some ((), h') ∧ LO p h h' ∧ ∀ k, k < 41 → h'.2.1 p k = lN (ca (2 * n) k) := by
  intro f
  induction f with
  | zero => intro i h h1 h2; omega
  | succ f ih =>
    intro i h h1 h2 hA
    have e2 : (2 : Int32) * nI n = nI (2 * n) := pk_mul 2 n
    rw [X11_findWays_l30.eq_2, e2]
    by_cases c : i = 2 * n
    · subst c
      rw [if_pos (Int32.le_refl _)]
      exact ⟨h, rfl, LO.rf, hA⟩
    · have er : rm32 (nI i) 2 = nI (i % 2) := pk_rem (a := i) (d := 2) (by omega) (by decide) (by decide)
      rw [if_neg (nI_ge (by omega) (by omega)), er]
      unfold X11_findWays_j48
      by_cases d : i % 2 = 0
      · rw [d, if_pos (by rfl)]
        obtain ⟨g, a1, a2, a3⟩ := fw_even (p := p) (O := fun k => lN (ca i k)) (N := fun k => lN (ca (i + 1) k)) (fun k hk => by
          show lN (ca (i + 1) k) = lN (ca i k) + _
          rw [ca_even d (by omega)]
          by_cases z : 1 ≤ k
          · rw [if_pos z, if_pos z, lN_add]
          · rw [if_neg z, if_neg z, Int64.add_zero]; rfl) (nI n) i (X11_findWays_l30 p 41 (nI n) f) FU 0 h (by unfold FU; omega) (by omega) (fun k hk => by rw [hA k hk, if_neg (by omega)])
        have a1 : X11_findWays_l52 p 41 (nI n) (nI i) 1 (X11_findWays_l30 p 41 (nI n) f) FU 0 h = X11_findWays_l30 p 41 (nI n) f (nI (i + 1)) g := a1
        rw [a1]
        obtain ⟨h', b1, b2, b3⟩ := ih (i + 1) g (by omega) (by omega) a3
        exact ⟨h', b1, a2.tr b2, b3⟩
      · have d1 : i % 2 = 1 := by omega
        rw [d1, if_neg (by decide)]
        obtain ⟨g, a1, a2, a3⟩ := fw_odd (p := p) (O := fun k => lN (ca i k)) (N := fun k => lN (ca (i + 1) k)) (fun k hk => by
          show lN (ca (i + 1) k) = lN (ca i k) + _
          rw [ca_odd d1 (by omega) hk]
          by_cases z : k + 1 < 41
          · rw [if_pos z, if_pos z, lN_add]
          · rw [if_neg z, if_neg z, Int64.add_zero]; rfl) (nI n) i (X11_findWays_l30 p 41 (nI n) f) FU 0 h (by unfold FU; omega) (by omega) (fun k hk => by rw [hA k hk, if_neg (by omega)])
        have a1 : X11_findWays_l52 p 41 (nI n) (nI i) (-1) (X11_findWays_l30 p 41 (nI n) f) FU 0 h = X11_findWays_l30 p 41 (nI n) f (nI (i + 1)) g := a1
        rw [a1]
        obtain ⟨h', b1, b2, b3⟩ := ih (i + 1) g (by omega) (by omega) a3
        exact ⟨h', b1, a2.tr b2, b3⟩
theorem fw_init {n : Nat} (hn : n ≤ 20) : ∀ (f i : Nat) (h : AH), 41 < i + f → i ≤ 41 → (∀ k, k < i → h.2.1 p k = lN (ca 0 k)) → ∃ h', X11_findWays_l2 p 41 (nI n) f (nI i) h = some ((), h') ∧ LO p h h' ∧ ∀ k, k < 41 → h'.2.1 p k = lN (ca (2 * n) k) := by
  intro f
  induction f with
  | zero => intro i h h1 h2; omega
  | succ f ih =>
    intro i h h1 h2 hA
    rw [X11_findWays_l2.eq_2]
    by_cases c : i = 41
    · subst c
      rw [if_pos (show Int32.ofNat 41 ≤ nI 41 from Int32.le_refl _)]
      exact fw_steps hn FU 0 h (by unfold FU; omega) (by omega) hA
    · rw [if_neg (show ¬ Int32.ofNat 41 ≤ nI i from nI_ge (b := 41) (by omega) (by decide))]
      unfold X11_findWays_j21
      have key : ∀ v : Int64, v = lN (ca 0 i) → ∃ h', ck (nI i) 41 (vl (sL h p (nI i).toNatClampNeg v) fun h5 => vl (nI i + 1) fun x6 => X11_findWays_l2 p 41 (nI n) f x6 h5) = some ((), h') ∧ LO p h h' ∧ ∀ k, k < 41 → h'.2.1 p k = lN (ca (2 * n) k) := by
        intro v hv
        rw [ck_nI _ (by omega) (by decide), vl_e, vl_e, nI_1, nI_clamp (by omega)]
        obtain ⟨h', b1, b2, b3⟩ := ih (i + 1) (sL h p i v) (by omega) (by omega) (fun k hk => by
          rw [sL_at]
          by_cases z : k = i
          · subst z
            rw [if_pos ⟨rfl, rfl⟩, hv]
          · rw [if_neg (fun w => z w.2), hA k (by omega)])
        exact ⟨h', b1, (LO.set h _ _).tr b2, b3⟩
      by_cases d : i = 20
      · subst d
        rw [if_pos (by decide)]
        exact key 1 rfl
      · rw [if_neg (show ¬ nI i = 20 from fun z => d ((nI_eq (a := i) (b := 20) (by omega) (by decide)).mp z))]
        refine key 0 ?_
        unfold ca
        by_cases y : 20 ≤ i + 0 / 2
        · rw [if_pos y]
          show 0 = lN (if i + 0 / 2 - 20 = 0 then 1 else 0)
          rw [if_neg (by omega)]
          rfl
        · rw [if_neg y]
          rfl
/-- the ways of n strides, from 20 less on -/
def wy (n k : Nat) : Nat := if 20 ≤ k + n then cb (2 * n) (k + n - 20) else 0
theorem s_findWays {n : Nat} (hn : n ≤ 20) (h : AH) : ∃ h', X11_findWays p 41 (nI n) h = some ((), h') ∧ LO p h h' ∧ ∀ k, k < 41 → h'.2.1 p k = lN (wy n k) := by
  obtain ⟨h', a1, a2, a3⟩ := fw_init (p := p) hn FU 0 h (by unfold FU; omega) (by omega) (fun k hk => by omega)
  refine ⟨h', a1, a2, fun k hk => ?_⟩
  rw [a3 k hk]
  unfold ca wy
  rw [show 2 * n / 2 = n from by omega]
end FW
theorem wy_out {n k : Nat} (h : k + n < 20 ∨ 20 + n < k) : wy n k = 0 := by
  unfold wy
  by_cases c : 20 ≤ k + n
  · rw [if_pos c, cb_big _ _ (by omega)]
  · rw [if_neg c]
theorem wy_in {n i : Nat} (hn : n ≤ 20) : wy n (20 - n + i) = cb (2 * n) i := by
  unfold wy
  rw [if_pos (by omega)]
  congr 1
  omega
