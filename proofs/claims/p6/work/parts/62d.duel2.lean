/-! DUEL: nine values, then asked -/
def dz (r : AH) (S i j k : Nat) : Int32 := mrV (fz (RJ r i) (r.1 0 14) (nI (6 * (k / 3))) S) (fz (RJ r j) (r.1 0 14) (nI (6 * (k % 3))) S)
section DU
variable {S G N T i j : Nat} {c r : AH}
theorem dz_b (R : RN r S G N T) (hi : i < 4) (hj : j < 4) {k : Nat} (hk : k < 9) : ∃ x, x ≤ 10000 ∧ dz r S i j k = nI x := by
  have hS := R.2.2.2.2.1
  have hw := R.2.2.2.2.2.2.2.2.1
  have hJ := R.2.2.2.2.2.2.2.2.2.1
  have pl : ∀ m, m ≤ 2 → -5000 ≤ (nI (6 * m)).toInt ∧ (nI (6 * m)).toInt ≤ 5000 := fun m hm => by rw [toInt_nI (by omega)]; omega
  exact mrV_b (fz_all (hJ i hi) hw hS.1 hS.2 (pl _ (by omega)).1 (pl _ (by omega)).2) (fz_all (hJ j hj) hw hS.1 hS.2 (pl _ (by omega)).1 (pl _ (by omega)).2)
theorem pl6 {m : Nat} (hm : m ≤ 2) : -5000 ≤ (nI (6 * m)).toInt ∧ (nI (6 * m)).toInt ≤ 5000 := by rw [toInt_nI (by omega)]; omega
theorem l_duC (M : MR 42 c r S G N T) (hW : WT c) (hi : i < 4) (hj : j < 4) (v3 : Int32) (K : Int32 → AH → Option (Int32 × AH)) {a : Nat} (ha : a < 3) : ∀ (f b : Nat) (ct : AH), 3 < b + f → b ≤ 3 → PC c ct → (∀ v, v < 1000 → fz (RJ r i) (r.1 0 14) (nI (6 * a)) S v ≤ 10000 ∧ ct.1 32 v = nI (fz (RJ r i) (r.1 0 14) (nI (6 * a)) S v)) → (∀ k, k < 3 * a + b → ct.1 34 k = dz r S i j k) →
    ∃ c', X10_duel_l54 (nI i) (nI j) v3 (nI a) K f (nI b) ct = K (nI (a + 1)) c' ∧ PC c c' ∧ ∀ k, k < 3 * a + 3 → c'.1 34 k = dz r S i j k := by
  intro f
  induction f with
  | zero => intro b ct h1 h2; omega
  | succ f ih =>
    intro b ct h1 h2 p h32 h34
    rw [X10_duel_l54.eq_2]
    by_cases z : b = 3
    · subst z
      rw [if_pos (show (3 : Int32) ≤ nI 3 by decide), vl_e, nI_1]
      exact ⟨ct, rfl, p, h34⟩
    · have e6 : (6 : Int32) * nI b = nI (6 * b) := pk_mul 6 b
      have e3 : (3 : Int32) * nI a = nI (3 * a) := pk_mul 3 a
      have hb6 := pl6 (m := b) (by omega)
      obtain ⟨c2, g1, g2, g3, g4⟩ := k_fill (q := 33) (Or.inr rfl) (p.MR M) (p.WT hW) hj hb6.1 hb6.2
      rw [if_neg (show ¬ (3 : Int32) ≤ nI b from nI_ge (b := 3) (by omega) (by decide)), e6, g1, bd_s, s_moreC (fun v hv => ⟨(h32 v hv).1, by rw [g3 32 v (by decide)]; exact (h32 v hv).2⟩) g4, bd_s, e3, nI_add, ck_nI _ (by omega) (by decide), vl_e, vl_e, nI_1, nI_clamp (by omega)]
      refine ih (b + 1) _ (by omega) (by omega) ((p.tr g2).tr ⟨fun k _ => by rw [sI_n (by omega)], fun o k h => by rw [sI_n (by omega)], fun _ _ => rfl, fun _ _ _ => rfl⟩) (fun v hv => ⟨(h32 v hv).1, by rw [sI_n (by omega), g3 32 v (by decide)]; exact (h32 v hv).2⟩) (fun k hk => ?_)
      rw [sI_at]
      by_cases y : k = 3 * a + b
      · rw [if_pos ⟨rfl, y⟩]
        unfold dz
        have q1 : k / 3 = a := by omega
        have q2 : k % 3 = b := by omega
        rw [q1, q2]
      · rw [if_neg (fun q => y q.2), g3 34 k (by decide)]
        exact h34 k (by omega)
theorem l_duC2 (M : MR 42 c r S G N T) (hW : WT c) (hi : i < 4) (hj : j < 4) (v3 : Int32) : ∀ (f a : Nat) (ct : AH), 3 < a + f → a ≤ 3 → PC c ct → (∀ k, k < 3 * a → ct.1 34 k = dz r S i j k) →
    ∃ c', X10_duel_l31 (nI i) (nI j) v3 f (nI a) ct = (if v3 = 2 then (bd (X10_sure c') fun r9 h10 => some (r9, h10)) else (bd (X10_calmPair v3 c') fun r7 h8 => some (r7, h8))) ∧ PC c c' ∧ ∀ k, k < 9 → c'.1 34 k = dz r S i j k := by
  intro f
  induction f with
  | zero => intro a ct h1 h2; omega
  | succ f ih =>
    intro a ct h1 h2 p h34
    rw [X10_duel_l31.eq_2]
    by_cases z : a = 3
    · subst z
      rw [if_pos (show (3 : Int32) ≤ nI 3 by decide)]
      exact ⟨ct, rfl, p, h34⟩
    · have e6 : (6 : Int32) * nI a = nI (6 * a) := pk_mul 6 a
      have ha6 := pl6 (m := a) (by omega)
      obtain ⟨c2, g1, g2, g3, g4⟩ := k_fill (q := 32) (Or.inl rfl) (p.MR M) (p.WT hW) hi ha6.1 ha6.2
      rw [if_neg (show ¬ (3 : Int32) ≤ nI a from nI_ge (b := 3) (by omega) (by decide)), e6, g1, bd_s]
      obtain ⟨c3, b1, b2, b3⟩ := l_duC M hW hi hj v3 (X10_duel_l31 (nI i) (nI j) v3 f) (a := a) (by omega) FU 0 c2 (by unfold FU; omega) (Nat.zero_le _) (p.tr g2) g4 (fun k hk => by rw [g3 34 k (by decide)]; exact h34 k (by omega))
      have b1 : X10_duel_l54 (nI i) (nI j) v3 (nI a) (X10_duel_l31 (nI i) (nI j) v3 f) FU 0 c2 = _ := b1
      rw [b1]
      exact ih (a + 1) c3 (by omega) (by omega) b2 (fun k hk => b3 k (by omega))
theorem l_duR (R : RN r S G N T) (hi : i < 4) (hj : j < 4) (v3 : Int32) : ∀ (f k : Nat) (rt : AH), 9 < k + f → k ≤ 9 → (∀ o q, o ≠ 27 → rt.1 o q = r.1 o q) → (∀ q, q < k → rt.1 27 q = dz r S i j q) →
    ∃ r', X11_duel_l45 (nI i) (nI j) v3 f (nI k) rt = (if v3 = 2 then (bd (X11_sureMore r') fun r8 h9 => some (r8, h9)) else X11_duel_l98 v3 FU 0 r') ∧ (∀ o q, o ≠ 27 → r'.1 o q = r.1 o q) ∧ ∀ q, q < 9 → r'.1 27 q = dz r S i j q := by
  intro f
  induction f with
  | zero => intro k rt h1 h2; omega
  | succ f ih =>
    intro k rt h1 h2 q1 h27
    rw [X11_duel_l45.eq_2]
    by_cases z : k = 9
    · subst z
      rw [if_pos (show (9 : Int32) ≤ nI 9 by decide)]
      exact ⟨rt, rfl, q1, h27⟩
    · have e1 : nI k / 3 = nI (k / 3) := pk_div (a := k) (d := 3) (by omega) (by omega) (by omega)
      have e2 : rm32 (nI k) 3 = nI (k % 3) := pk_rem (a := k) (d := 3) (by omega) (by omega) (by omega)
      have e3 : (6 : Int32) * nI (k / 3) = nI (6 * (k / 3)) := pk_mul 6 _
      have e4 : (6 : Int32) * nI (k % 3) = nI (6 * (k % 3)) := pk_mul 6 _
      have ha := pl6 (m := k / 3) (by omega)
      have hb := pl6 (m := k % 3) (by omega)
      obtain ⟨r', a1, a2⟩ := r_more R hi hj ha.1 ha.2 hb.1 hb.2 q1
      rw [if_neg (show ¬ (9 : Int32) ≤ nI k from nI_ge (b := 9) (by omega) (by decide)), e1, e2, e3, e4, a1, bd_s, ck_nI _ (by omega) (by decide), vl_e, vl_e, nI_1, nI_clamp (by omega)]
      refine ih (k + 1) _ (by omega) (by omega) (fun o q ho => by rw [sI_n (by omega), a2]; exact q1 o q ho) (fun q hq => ?_)
      rw [sI_at]
      by_cases y : q = k
      · rw [if_pos ⟨rfl, y⟩, y]
        rfl
      · rw [if_neg (fun w => y w.2), a2]
        exact h27 q (by omega)
end DU
/-! nine values asked -/
def ch (P : Nat → Bool) (A : Nat → Int32) : Nat → Nat → Int32
  | 0, _ => -9
  | m + 1, k => if P k = true then A k else ch P A m (k + 1)
def q9 (x : Nat → Nat) (k : Nat) : Bool := decide ((x (k % 3) ≤ x k ∧ x (3 + k % 3) ≤ x k ∧ x (6 + k % 3) ≤ x k) ∧ x k ≤ x (k / 3 * 3) ∧ x k ≤ x (k / 3 * 3 + 1) ∧ x k ≤ x (k / 3 * 3 + 2))
def a9 (x : Nat → Nat) (v : Int32) (k : Nat) : Int32 := if v = 0 then nI (10 * (k / 3) + k % 3) else nI (x k)
section NINE
variable {x : Nat → Nat} {h r : AH}
theorem s_lor (hx : ∀ k, k < 9 → x k ≤ 10000 ∧ h.1 34 k = nI (x k)) {i : Nat} (hi : i < 3) : X10_leastOfRow (nI i) h = some (nI (min (x (3 * i)) (min (x (3 * i + 1)) (x (3 * i + 2)))), h) := by
  have e3 : (3 : Int32) * nI i = nI (3 * i) := pk_mul 3 i
  have e1 : nI (3 * i) + 1 = nI (3 * i + 1) := nI_1 _
  have e2 : nI (3 * i) + 2 = nI (3 * i + 2) := nI_add _ 2
  have b0 := hx (3 * i) (by omega)
  have b1 := hx (3 * i + 1) (by omega)
  have b2 := hx (3 * i + 2) (by omega)
  unfold X10_leastOfRow
  rw [e3, e1, e2, ck_nI _ (by omega) (by decide), ck_nI _ (by omega) (by decide), ck_nI _ (by omega) (by decide), nI_clamp (by omega), nI_clamp (by omega), nI_clamp (by omega), b0.2, b1.2, b2.2, mn_nI (by omega) (by omega), mn_nI (by omega) (by omega)]
theorem s_moc (hx : ∀ k, k < 9 → x k ≤ 10000 ∧ h.1 34 k = nI (x k)) {b : Nat} (hb : b < 3) : X10_mostOfColumn (nI b) h = some (nI (max (x b) (max (x (3 + b)) (x (6 + b)))), h) := by
  have e1 : (3 : Int32) + nI b = nI (3 + b) := nI_add 3 _
  have e2 : (6 : Int32) + nI b = nI (6 + b) := nI_add 6 _
  have b0 := hx b (by omega)
  have b1 := hx (3 + b) (by omega)
  have b2 := hx (6 + b) (by omega)
  unfold X10_mostOfColumn
  rw [e1, e2, ck_nI _ (by omega) (by decide), ck_nI _ (by omega) (by decide), ck_nI _ (by omega) (by decide), nI_clamp (by omega), nI_clamp (by omega), nI_clamp (by omega), b0.2, b1.2, b2.2, mx_nI (by omega) (by omega), mx_nI (by omega) (by omega)]
theorem cp_step (hx : ∀ k, k < 9 → x k ≤ 10000 ∧ h.1 34 k = nI (x k)) {i b : Nat} (hi : i < 3) (hb : b < 3) (v : Int32) (K : Int32 → AH → Option (Int32 × AH)) (f : Nat) : X10_calmPair_l9 v (nI i) K (f + 1) (nI b) h = if q9 x (3 * i + b) = true then some (a9 x v (3 * i + b), h) else X10_calmPair_l9 v (nI i) K f (nI (b + 1)) h := by
  have e3 : (3 : Int32) * nI i = nI (3 * i) := pk_mul 3 i
  have e10 : (10 : Int32) * nI i = nI (10 * i) := pk_mul 10 i
  have k1 : (3 * i + b) / 3 = i := by omega
  have k2 : (3 * i + b) % 3 = b := by omega
  have bk := hx (3 * i + b) (by omega)
  have b0 := hx (3 * i) (by omega)
  have b1 := hx (3 * i + 1) (by omega)
  have b2 := hx (3 * i + 2) (by omega)
  have c0 := hx b (by omega)
  have c1 := hx (3 + b) (by omega)
  have c2 := hx (6 + b) (by omega)
  have hrow : x (3 * i + b) = x (3 * i) ∨ x (3 * i + b) = x (3 * i + 1) ∨ x (3 * i + b) = x (3 * i + 2) := by
    rcases (by omega : b = 0 ∨ b = 1 ∨ b = 2) with q | q | q <;> subst q
    · exact Or.inl rfl
    · exact Or.inr (Or.inl rfl)
    · exact Or.inr (Or.inr rfl)
  have hcol : x (3 * i + b) = x b ∨ x (3 * i + b) = x (3 + b) ∨ x (3 * i + b) = x (6 + b) := by
    rcases (by omega : i = 0 ∨ i = 1 ∨ i = 2) with q | q | q <;> subst q
    · exact Or.inl (by rw [show 3 * 0 + b = b by omega])
    · exact Or.inr (Or.inl rfl)
    · exact Or.inr (Or.inr rfl)
  have ri : i * 3 = 3 * i := by omega
  rw [X10_calmPair_l9.eq_2, if_neg (show ¬ (3 : Int32) ≤ nI b from nI_ge (b := 3) hb (by decide)), e3, nI_add, ck_nI _ (by omega) (by decide), vl_e, nI_clamp (by omega), bk.2, s_lor hx hi, bd_s, s_moc hx hb, bd_s]
  unfold X10_calmPair_j62 q9 a9
  rw [k1, k2, ri, e10, nI_add, vl_e, nI_1]
  by_cases y1 : x (3 * i + b) = min (x (3 * i)) (min (x (3 * i + 1)) (x (3 * i + 2)))
  · rw [if_pos (show nI (x (3 * i + b)) = nI (min (x (3 * i)) (min (x (3 * i + 1)) (x (3 * i + 2)))) by rw [← y1])]
    by_cases y2 : x (3 * i + b) = max (x b) (max (x (3 + b)) (x (6 + b)))
    · rw [if_pos (show nI (x (3 * i + b)) = nI (max (x b) (max (x (3 + b)) (x (6 + b)))) by rw [← y2]), if_pos (decide_eq_true (by omega))]
      split <;> rfl
    · rw [if_neg (fun q => y2 ((nI_eq (by omega) (by omega)).mp q)), if_neg (fun q => by have q := of_decide_eq_true q; omega)]
  · rw [if_neg (fun q => y1 ((nI_eq (by omega) (by omega)).mp q)), if_neg (fun q => by have q := of_decide_eq_true q; omega)]
theorem cp_row (hx : ∀ k, k < 9 → x k ≤ 10000 ∧ h.1 34 k = nI (x k)) {i : Nat} (hi : i < 3) (v : Int32) (K : Int32 → AH → Option (Int32 × AH)) (f : Nat) {m : Nat} (hK : K (nI (i + 1)) h = some (ch (q9 x) (a9 x v) m (3 * i + 3), h)) : X10_calmPair_l9 v (nI i) K (f + 1 + 1 + 1 + 1) (nI 0) h = some (ch (q9 x) (a9 x v) (m + 3) (3 * i), h) := by
  have e : ch (q9 x) (a9 x v) (m + 3) (3 * i) = if q9 x (3 * i) = true then a9 x v (3 * i) else if q9 x (3 * i + 1) = true then a9 x v (3 * i + 1) else if q9 x (3 * i + 2) = true then a9 x v (3 * i + 2) else ch (q9 x) (a9 x v) m (3 * i + 3) := rfl
  rw [e, cp_step hx hi (b := 0) (by omega), cp_step hx hi (b := 1) (by omega), cp_step hx hi (b := 2) (by omega), X10_calmPair_l9.eq_2, if_pos (show (3 : Int32) ≤ nI (2 + 1) by decide), vl_e, nI_1, hK]
  have e0 : 3 * i + 0 = 3 * i := rfl
  rw [e0]
  split
  · rfl
  · split
    · rfl
    · split <;> rfl
theorem cp_all (hx : ∀ k, k < 9 → x k ≤ 10000 ∧ h.1 34 k = nI (x k)) (v : Int32) : X10_calmPair v h = some (ch (q9 x) (a9 x v) 9 0, h) := by
  have l3 : X10_calmPair_l2 v 4997 (nI 3) h = some (ch (q9 x) (a9 x v) 0 9, h) := by
    rw [X10_calmPair_l2.eq_2, if_pos (show (3 : Int32) ≤ nI 3 by decide)]
    rfl
  have l2 : X10_calmPair_l2 v 4998 (nI 2) h = some (ch (q9 x) (a9 x v) 3 6, h) := by
    rw [X10_calmPair_l2.eq_2, if_neg (show ¬ (3 : Int32) ≤ nI 2 by decide)]
    exact cp_row hx (i := 2) (by omega) v (X10_calmPair_l2 v 4997) 4996 (m := 0) l3
  have l1 : X10_calmPair_l2 v 4999 (nI 1) h = some (ch (q9 x) (a9 x v) 6 3, h) := by
    rw [X10_calmPair_l2.eq_2, if_neg (show ¬ (3 : Int32) ≤ nI 1 by decide)]
    exact cp_row hx (i := 1) (by omega) v (X10_calmPair_l2 v 4998) 4996 (m := 3) l2
  have l0 : X10_calmPair_l2 v 5000 (nI 0) h = some (ch (q9 x) (a9 x v) 9 0, h) := by
    rw [X10_calmPair_l2.eq_2, if_neg (show ¬ (3 : Int32) ≤ nI 0 by decide)]
    exact cp_row hx (i := 0) (by omega) v (X10_calmPair_l2 v 4999) 4996 (m := 6) l1
  exact l0
/-- the reference's rest at k -/
theorem s_rests (hx : ∀ k, k < 9 → x k ≤ 10000 ∧ r.1 27 k = nI (x k)) {k : Nat} (hk : k < 9) : X11_rests (nI k) r = some (if q9 x k = true then 1 else 0, r) := by
  have e1 : nI k / 3 = nI (k / 3) := pk_div (a := k) (d := 3) (by omega) (by omega) (by omega)
  have e2 : rm32 (nI k) 3 = nI (k % 3) := pk_rem (a := k) (d := 3) (by omega) (by omega) (by omega)
  have e4 : nI (k / 3) * 3 = nI (k / 3 * 3) := pk_mul _ 3
  have e : (∀ m, m < 3 → x (3 * m + k % 3) ≤ x k ∧ x k ≤ x (k / 3 * 3 + m)) ↔ q9 x k = true := by
    unfold q9
    rw [decide_eq_true_iff]
    constructor
    · intro q
      have q0 := q 0 (by omega)
      have q1 := q 1 (by omega)
      have q2 := q 2 (by omega)
      have z0 : 3 * 0 + k % 3 = k % 3 := by omega
      rw [z0] at q0
      exact ⟨⟨q0.1, q1.1, q2.1⟩, q0.2, q1.2, q2.2⟩
    · intro q m hm
      rcases (by omega : m = 0 ∨ m = 1 ∨ m = 2) with d | d | d <;> subst d
      · have z0 : 3 * 0 + k % 3 = k % 3 := by omega
        rw [z0]
        exact ⟨q.1.1, q.2.1⟩
      · exact ⟨q.1.2.1, q.2.2.1⟩
      · exact ⟨q.1.2.2, q.2.2.2⟩
  have key : ∀ (f v : Nat), 3 < v + f → v ≤ 3 → (∀ m, m < v → x (3 * m + k % 3) ≤ x k ∧ x k ≤ x (k / 3 * 3 + m)) → X11_rests_l2 (nI k) f (nI v) r = some (if q9 x k = true then 1 else 0, r) := by
    intro f
    induction f with
    | zero => intro v h1 h2; omega
    | succ f ih =>
      intro v h1 h2 h3
      rw [X11_rests_l2.eq_2]
      by_cases z : v = 3
      · subst z
        rw [if_pos (show (3 : Int32) ≤ nI 3 by decide), if_pos (e.mp h3), cz_1]
      · have e3 : (3 : Int32) * nI v = nI (3 * v) := pk_mul 3 v
        have bk := hx k hk
        have b1 := hx (3 * v + k % 3) (by omega)
        have b2 := hx (k / 3 * 3 + v) (by omega)
        rw [if_neg (show ¬ (3 : Int32) ≤ nI v from nI_ge (b := 3) (by omega) (by decide)), e1, e2, e3, e4, nI_add, nI_add]
        simp only [ck_nI _ hk (show 9 < 2 ^ 31 by decide), ck_nI _ (show 3 * v + k % 3 < 9 by omega) (show 9 < 2 ^ 31 by decide), ck_nI _ (show k / 3 * 3 + v < 9 by omega) (show 9 < 2 ^ 31 by decide), nI_clamp (show k < 2 ^ 31 by omega), nI_clamp (show 3 * v + k % 3 < 2 ^ 31 by omega), nI_clamp (show k / 3 * 3 + v < 2 ^ 31 by omega), bk.2, b1.2, b2.2, vl_e, nI_1, cz_0]
        by_cases y1 : x k < x (3 * v + k % 3)
        · rw [if_pos (nI_lt y1 (by omega)), if_neg (fun q => by have := (e.mpr q v (by omega)).1; omega)]
        · rw [if_neg (nI_nlt (by omega) (by omega))]
          by_cases y2 : x k ≤ x (k / 3 * 3 + v)
          · rw [if_pos (nI_le y2 (by omega))]
            refine ih (v + 1) (by omega) (by omega) (fun m hm => ?_)
            by_cases d : m = v
            · rw [d]; exact ⟨by omega, y2⟩
            · exact h3 m (by omega)
          · rw [if_neg (nI_ge (by omega) (by omega)), if_neg (fun q => y2 (e.mpr q v (by omega)).2)]
  have h := key FU 0 (by unfold FU; omega) (Nat.zero_le _) (fun m hm => absurd hm (by omega))
  exact h
theorem cr_all (hx : ∀ k, k < 9 → x k ≤ 10000 ∧ r.1 27 k = nI (x k)) (v : Int32) : X11_duel_l98 v FU 0 r = some (ch (q9 x) (a9 x v) 9 0, r) := by
  have key : ∀ (f m k : Nat), m < f → k + m = 9 → X11_duel_l98 v f (nI k) r = some (ch (q9 x) (a9 x v) m k, r) := by
    intro f
    induction f with
    | zero => intro m k h1; omega
    | succ f ih =>
      intro m k h1 h2
      rw [X11_duel_l98.eq_2]
      cases m with
      | zero =>
        have : k = 9 := by omega
        subst this
        rw [if_pos (show (9 : Int32) ≤ nI 9 by decide)]
        rfl
      | succ m =>
        have e1 : nI k / 3 = nI (k / 3) := pk_div (a := k) (d := 3) (by omega) (by omega) (by omega)
        have e2 : rm32 (nI k) 3 = nI (k % 3) := pk_rem (a := k) (d := 3) (by omega) (by omega) (by omega)
        have e10 : (10 : Int32) * nI (k / 3) = nI (10 * (k / 3)) := pk_mul 10 _
        have bk := hx k (by omega)
        rw [if_neg (show ¬ (9 : Int32) ≤ nI k from nI_ge (b := 9) (by omega) (by decide)), s_rests hx (by omega), bd_s]
        show _ = some (if q9 x k = true then a9 x v k else ch (q9 x) (a9 x v) m (k + 1), r)
        by_cases d : q9 x k = true
        · rw [if_pos d, if_pos d, i_10, e1, e2, e10, nI_add, ck_nI _ (by omega) (by decide), nI_clamp (by omega), bk.2]
          unfold a9
          split <;> rfl
        · rw [if_neg d, if_neg d, i_0, vl_e, nI_1]
          exact ih m (k + 1) (by omega) (by omega)
  exact key FU 9 0 (by unfold FU; omega) rfl
def sr9 (x : Nat → Nat) : Int32 := nI (max (min (x 0) (min (x 1) (x 2))) (max (min (x 3) (min (x 4) (x 5))) (min (x 6) (min (x 7) (x 8)))))
theorem su_all (hx : ∀ k, k < 9 → x k ≤ 10000 ∧ h.1 34 k = nI (x k)) : X10_sure h = some (sr9 x, h) := by
  have b := fun k hk => (hx k hk).1
  have b0 := b 0 (by omega)
  have b1 := b 3 (by omega)
  have b2 := b 6 (by omega)
  unfold X10_sure
  have r0 : X10_leastOfRow 0 h = some (nI (min (x 0) (min (x 1) (x 2))), h) := s_lor hx (i := 0) (by omega)
  have r1 : X10_leastOfRow 1 h = some (nI (min (x 3) (min (x 4) (x 5))), h) := s_lor hx (i := 1) (by omega)
  have r2 : X10_leastOfRow 2 h = some (nI (min (x 6) (min (x 7) (x 8))), h) := s_lor hx (i := 2) (by omega)
  rw [r0, bd_s, r1, bd_s, r2, bd_s, mx_nI (by omega) (by omega), mx_nI (by omega) (by omega)]
  rfl
theorem sR_row (hx : ∀ k, k < 9 → x k ≤ 10000 ∧ r.1 27 k = nI (x k)) {i v : Nat} (hi : i < 3) (hv : v ≤ 10000) (K : Int32 → Int32 → AH → Option (Int32 × AH)) : X11_sureMore_l16 (nI v) (nI i) K FU 10000 0 r = K (nI (max v (min (x (3 * i)) (min (x (3 * i + 1)) (x (3 * i + 2)))))) (nI (i + 1)) r := by
  have e3 : (3 : Int32) * nI i = nI (3 * i) := pk_mul 3 i
  have st : ∀ (f b y : Nat), b < 3 → y ≤ 10000 → X11_sureMore_l16 (nI v) (nI i) K (f + 1) (nI y) (nI b) r = X11_sureMore_l16 (nI v) (nI i) K f (nI (min y (x (3 * i + b)))) (nI (b + 1)) r := by
    intro f b y hb hy
    have bk := hx (3 * i + b) (by omega)
    rw [X11_sureMore_l16.eq_2, if_neg (show ¬ (3 : Int32) ≤ nI b from nI_ge (b := 3) hb (by decide)), e3, nI_add, ck_nI _ (by omega) (by decide), ck_nI _ (by omega) (by decide), nI_clamp (by omega), bk.2]
    unfold X11_sureMore_j52
    rw [vl_e, vl_e, nI_1]
    by_cases z : y ≤ x (3 * i + b)
    · rw [if_pos (nI_le z (by omega)), Nat.min_eq_left z]
    · rw [if_neg (nI_ge (by omega) (by omega)), Nat.min_eq_right (by omega)]
  have b0 := (hx (3 * i) (by omega)).1
  have b1 := (hx (3 * i + 1) (by omega)).1
  have b2 := (hx (3 * i + 2) (by omega)).1
  have s1 := st 4999 0 10000 (by omega) (by omega)
  have s2 := st 4998 1 (min 10000 (x (3 * i + 0))) (by omega) (by omega)
  have s3 := st 4997 2 (min (min 10000 (x (3 * i + 0))) (x (3 * i + 1))) (by omega) (by omega)
  have e0 : 3 * i + 0 = 3 * i := rfl
  rw [e0] at s1 s2 s3
  have s1 : X11_sureMore_l16 (nI v) (nI i) K FU 10000 0 r = _ := s1
  have em : min (min (min 10000 (x (3 * i))) (x (3 * i + 1))) (x (3 * i + 2)) = min (x (3 * i)) (min (x (3 * i + 1)) (x (3 * i + 2))) := by omega
  rw [s1, s2, s3, X11_sureMore_l16.eq_2, if_pos (show (3 : Int32) ≤ nI (2 + 1) by decide), em]
  unfold X11_sureMore_j69
  rw [vl_e, vl_e, nI_1]
  by_cases z : min (x (3 * i)) (min (x (3 * i + 1)) (x (3 * i + 2))) ≤ v
  · rw [if_pos (nI_le z (by omega)), Nat.max_eq_left z]
  · rw [if_neg (nI_ge (by omega) (by omega)), Nat.max_eq_right (by omega)]
theorem sR_all (hx : ∀ k, k < 9 → x k ≤ 10000 ∧ r.1 27 k = nI (x k)) : X11_sureMore r = some (sr9 x, r) := by
  have b := fun k hk => (hx k hk).1
  have b0 : x (3 * 0) ≤ 10000 := b 0 (by omega)
  have b1 : x (3 * (0 + 1)) ≤ 10000 := b 3 (by omega)
  have b2 := b 6 (by omega)
  unfold X11_sureMore
  have l0 : X11_sureMore_l4 FU 0 0 r = X11_sureMore_l16 (nI 0) (nI 0) (X11_sureMore_l4 4999) FU 10000 0 r := by
    unfold FU
    rw [X11_sureMore_l4.eq_2, if_neg (show ¬ (3 : Int32) ≤ 0 by decide)]
    rfl
  have ln : ∀ (f v i : Nat), i < 3 → X11_sureMore_l4 (f + 1) (nI v) (nI i) r = X11_sureMore_l16 (nI v) (nI i) (X11_sureMore_l4 f) FU 10000 0 r := by
    intro f v i hi
    rw [X11_sureMore_l4.eq_2, if_neg (show ¬ (3 : Int32) ≤ nI i from nI_ge (b := 3) hi (by decide))]
  rw [l0, sR_row hx (by omega) (by omega)]
  have l1 := ln 4998 (max 0 (min (x (3 * 0)) (min (x (3 * 0 + 1)) (x (3 * 0 + 2))))) (0 + 1) (by omega)
  have l1 : X11_sureMore_l4 4999 _ _ r = _ := l1
  rw [l1, sR_row hx (by omega) (by omega)]
  have l2 := ln 4997 (max (max 0 (min (x (3 * 0)) (min (x (3 * 0 + 1)) (x (3 * 0 + 2))))) (min (x (3 * (0 + 1))) (min (x (3 * (0 + 1) + 1)) (x (3 * (0 + 1) + 2))))) (0 + 1 + 1) (by omega)
  have l2 : X11_sureMore_l4 4998 _ _ r = _ := l2
  rw [l2, sR_row hx (by omega) (by omega)]
  have l3 : ∀ v : Int32, X11_sureMore_l4 4997 v (nI (0 + 1 + 1 + 1)) r = some (v, r) := by
    intro v
    rw [X11_sureMore_l4.eq_2, if_pos (show (3 : Int32) ≤ nI (0 + 1 + 1 + 1) by decide)]
  rw [l3]
  unfold sr9
  have e : max (max (max 0 (min (x (3 * 0)) (min (x (3 * 0 + 1)) (x (3 * 0 + 2))))) (min (x (3 * (0 + 1))) (min (x (3 * (0 + 1) + 1)) (x (3 * (0 + 1) + 2))))) (min (x (3 * (0 + 1 + 1))) (min (x (3 * (0 + 1 + 1) + 1)) (x (3 * (0 + 1 + 1) + 2)))) = max (min (x 0) (min (x 1) (x 2))) (max (min (x 3) (min (x 4) (x 5))) (min (x 6) (min (x 7) (x 8)))) := by
    show max (max (max 0 (min (x 0) (min (x 1) (x 2)))) (min (x 3) (min (x 4) (x 5)))) (min (x 6) (min (x 7) (x 8))) = _
    omega
  rw [e]
end NINE
theorem o_duel {c r : AH} {a1 a2 a3 : Int32} (I : Inv c r) : SimE (X10_duel a1 a2 a3 c) (X11_duel a1 a2 a3 r) Inv := by
  obtain ⟨⟨S, G, N, T, M⟩, hW, hL, hRow, hRF, hIM⟩ := id I
  have hN := M.1.2.2.2.2.2.2.1
  unfold X10_duel X11_duel X11_duel_j28
  rcases two_c M a1 a2 with hz | ⟨i, k, hi, hk, hik, rfl, rfl⟩
  · obtain ⟨e1, e2⟩ := two_n M hz
    rw [e1, e2, bd_s, bd_s, i_0, s_noSuch, bd_s, s_first, bd_s, i_1, i_1, i_1]
    exact rfs (x := -1) I (by decide)
  · obtain ⟨e1, e2⟩ := two_y M hi hk hik
    have hi4 : i < 4 := by omega
    have hk4 : k < 4 := by omega
    rw [e1, e2, bd_s, bd_s, i_10, s_noSuch, bd_s, s_first, bd_s, i_0, s_isIn, bd_s]
    by_cases h0 : a3 < 0 ∨ 2 < a3
    · simp only [if_pos h0, i_2, i_0, if_true]
      exact rfs (x := -2) I (by decide)
    · simp only [if_neg h0, i_0, i_10, if_true]
      obtain ⟨c', b1, b2, b3⟩ := l_duC2 M hW hi4 hk4 a3 FU 0 c (by unfold FU; omega) (by omega) PC.rf (fun q hq => absurd hq (by omega))
      have b1 : X10_duel_l31 (nI i) (nI k) a3 FU 0 c = _ := b1
      obtain ⟨r', d1, d2, d3⟩ := l_duR M.1 hi4 hk4 a3 FU 0 r (by unfold FU; omega) (by omega) (fun _ _ _ => rfl) (fun q hq => absurd hq (by omega))
      have d1 : X11_duel_l45 (nI i) (nI k) a3 FU 0 r = _ := d1
      have hx : ∃ x : Nat → Nat, ∀ q, q < 9 → x q ≤ 10000 ∧ dz r S i k q = nI (x q) := by
        refine ⟨fun q => (dz r S i k q).toNatClampNeg, fun q hq => ?_⟩
        obtain ⟨y, y1, y2⟩ := dz_b M.1 hi4 hk4 hq
        show (dz r S i k q).toNatClampNeg ≤ 10000 ∧ dz r S i k q = nI (dz r S i k q).toNatClampNeg
        rw [y2, nI_clamp (by omega)]
        exact ⟨y1, rfl⟩
      obtain ⟨x, hx⟩ := hx
      have hxc : ∀ q, q < 9 → x q ≤ 10000 ∧ c'.1 34 q = nI (x q) := fun q hq => ⟨(hx q hq).1, (b3 q hq).trans (hx q hq).2⟩
      have hxr : ∀ q, q < 9 → x q ≤ 10000 ∧ r'.1 27 q = nI (x q) := fun q hq => ⟨(hx q hq).1, (d3 q hq).trans (hx q hq).2⟩
      have I' : Inv c' r' := Inv_f I b2 (fun T' _ _ => ⟨fun q _ => d2 0 q (by decide), fun o q h1 h2 => d2 o q (by omega), fun t _ => ⟨d2 10 t (by decide), d2 11 t (by decide)⟩, fun q => ⟨d2 13 q (by decide), d2 23 q (by decide)⟩, fun q _ => d2 17 q (by decide)⟩)
      rw [b1, d1]
      by_cases y : a3 = 2
      · rw [if_pos y, if_pos y, su_all hxc, sR_all hxr, bd_s, bd_s]
        exact SimE.mk' rfl rfl rfl I'
      · rw [if_neg y, if_neg y, cp_all hxc, cr_all hxr, bd_s]
        exact SimE.mk' rfl rfl rfl I'
