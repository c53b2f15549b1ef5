/-! the best MARK -/
def stp (f : Nat → Int64) (s : Int32 × Int64) (m : Nat) : Int32 × Int64 := if s.2 < f m then (nI m, f m) else s
def fld (f : Nat → Int64) (b0 : Int32) (lo : Nat) : Nat → Int32 × Int64
  | 0 => (b0, -1)
  | k + 1 => stp f (fld f b0 lo k) (lo + k)
theorem stp_ge (f : Nat → Int64) (s : Int32 × Int64) (m : Nat) : ¬ (stp f s m).2 < f m := by
  unfold stp
  by_cases h : s.2 < f m
  · rw [if_pos h]
    exact Int64.lt_irrefl
  · rw [if_neg h]
    exact h
theorem fld_b {f : Nat → Int64} {b0 b1 : Int32} {lo : Nat} (h : -1 < f lo) : ∀ k, fld f b0 lo (k + 1) = fld f b1 lo (k + 1)
  | 0 => by
    show stp f (b0, -1) (lo + 0) = stp f (b1, -1) (lo + 0)
    unfold stp
    rw [Nat.add_zero, if_pos h, if_pos h]
  | k + 1 => by
    show stp f (fld f b0 lo (k + 1)) (lo + (k + 1)) = stp f (fld f b1 lo (k + 1)) (lo + (k + 1))
    rw [fld_b h k]
/-- what is asked: the mean, or past v -/
def phA (v : Int32) : Int32 → Int32 → Int64 := if v < 0 then p2 else p3 v.toNatClampNeg
theorem bm_class {c r : AH} {S G N T j m : Nat} {v path : Int32} (M : MR 42 c r S G N T) (hW : WT c) (hj : j < 4) (hv : v < 0 ∨ ∃ x, x < 1000 ∧ v = nI x) (hm : m ≤ 2400) (em : r.1 9 j = nI m) (hpa : -800 ≤ path.toInt) (hpa2 : path.toInt ≤ 3200) (b0 : Int32) : ∀ (n k : Nat) (h : AH), min 2400 (m + 40) + 1 < (m - 40) + k + n → (m - 40) + k ≤ min 2400 (m + 40) + 1 → PC c h →
    ∃ c', X10_bestMark_l84 v (48 + j) path n (fld (fun μ => RV (RJ r j) (r.1 0 14) (nI μ - path) S (phA v)) b0 (m - 40) k).1 (fld (fun μ => RV (RJ r j) (r.1 0 14) (nI μ - path) S (phA v)) b0 (m - 40) k).2 (nI ((m - 40) + k)) h = some ((fld (fun μ => RV (RJ r j) (r.1 0 14) (nI μ - path) S (phA v)) b0 (m - 40) (min 2400 (m + 40) + 1 - (m - 40))).1, c') ∧ PC c c' := by
  obtain ⟨rS, rG, rN, rT, hS, hG, hN, hT, hWW, hJ, hH⟩ := id M.1
  intro n
  induction n with
  | zero => intro k h h1 h2; omega
  | succ n ih =>
    intro k h h1 h2 P
    have Mh := P.MR M
    have e8 : h.1 (48 + j) 8 = nI m := by
      have : h.1 (48 + j) 8 = r.1 9 j := (Mh.2.2.1 j hj).1 8 (by omega) (by omega)
      rw [this]; exact em
    have ehi : mn32 2400 (nI m + 40) = nI (min 2400 (m + 40)) := by
      have e1 : nI m + 40 = nI (m + 40) := nI_add m 40
      unfold mn32
      rw [e1]
      by_cases y : m + 40 < 2400
      · rw [if_pos (show nI (m + 40) < 2400 from nI_lt (b := 2400) y (by decide)), Nat.min_eq_right (by omega)]
      · rw [if_neg (show ¬ nI (m + 40) < 2400 from nI_nlt (b := 2400) (by omega) (by omega)), Nat.min_eq_left (by omega)]
        rfl
    rw [X10_bestMark_l84.eq_2, e8, ehi]
    by_cases z : (m - 40) + k = min 2400 (m + 40) + 1
    · rw [if_pos (nI_lt (by omega) (by omega)), show min 2400 (m + 40) + 1 - (m - 40) = k from by omega]
      exact ⟨h, rfl, P⟩
    · rw [if_neg (nI_nlt (by omega) (by omega))]
      have hk : (m - 40) + k ≤ 2400 := by omega
      have epl : (nI ((m - 40) + k) - path).toInt = (((m - 40) + k : Nat) : Int) - path.toInt := by
        have e1 : (nI ((m - 40) + k)).toInt = (((m - 40) + k : Nat) : Int) := nI_toInt (by omega)
        rw [fb_subI (by omega) (by omega), e1]
      obtain ⟨h1', a1, a2, a3, a4, a5, a6, a7, -⟩ := k_spread (wd := r.1 0 14) (S2 := S) (pl := nI ((m - 40) + k) - path) 0 Mh (P.WT hW) hj hWW hS.1 hS.2 (by omega) (by omega)
      have a1' : X10_spreadAt (48 + j) (nI ((m - 40) + k) - path) h = some ((), h1') := by
        unfold X10_spreadAt
        rw [Mh.2.1.1, Mh.2.1.2.1, a1, bd_s]
      have P1 := P.tr (k_PC a2 a3 a4)
      rw [a1', bd_s]
      have fin : X10_bestMark_j136 v (48 + j) path (fld (fun μ => RV (RJ r j) (r.1 0 14) (nI μ - path) S (phA v)) b0 (m - 40) k).1 (fld (fun μ => RV (RJ r j) (r.1 0 14) (nI μ - path) S (phA v)) b0 (m - 40) k).2 (nI ((m - 40) + k)) (X10_bestMark_l84 v (48 + j) path n) (RV (RJ r j) (r.1 0 14) (nI ((m - 40) + k) - path) S (phA v)) h1' = X10_bestMark_l84 v (48 + j) path n (fld (fun μ => RV (RJ r j) (r.1 0 14) (nI μ - path) S (phA v)) b0 (m - 40) (k + 1)).1 (fld (fun μ => RV (RJ r j) (r.1 0 14) (nI μ - path) S (phA v)) b0 (m - 40) (k + 1)).2 (nI ((m - 40) + (k + 1))) h1' := by
        unfold X10_bestMark_j136 X10_bestMark_j154
        have lc := lc_gt (RV (RJ r j) (r.1 0 14) (nI ((m - 40) + k) - path) S (phA v)) (fld (fun μ => RV (RJ r j) (r.1 0 14) (nI μ - path) S (phA v)) b0 (m - 40) k).2
        have ef : fld (fun μ => RV (RJ r j) (r.1 0 14) (nI μ - path) S (phA v)) b0 (m - 40) (k + 1) = if (fld (fun μ => RV (RJ r j) (r.1 0 14) (nI μ - path) S (phA v)) b0 (m - 40) k).2 < RV (RJ r j) (r.1 0 14) (nI ((m - 40) + k) - path) S (phA v) then (nI ((m - 40) + k), RV (RJ r j) (r.1 0 14) (nI ((m - 40) + k) - path) S (phA v)) else fld (fun μ => RV (RJ r j) (r.1 0 14) (nI μ - path) S (phA v)) b0 (m - 40) k := rfl
        rw [ef]
        by_cases y : (fld (fun μ => RV (RJ r j) (r.1 0 14) (nI μ - path) S (phA v)) b0 (m - 40) k).2 < RV (RJ r j) (r.1 0 14) (nI ((m - 40) + k) - path) S (phA v)
        · rw [if_neg (fun q => lc.1.mp q y), if_pos y, vl_e, nI_1]
          rfl
        · rw [if_pos (lc.1.mpr y), if_neg y, vl_e, nI_1]
          rfl
      obtain ⟨c', b1, b2⟩ := ih (k + 1) h1' (by omega) (by omega) P1
      rw [← fin] at b1
      rcases hv with hv | ⟨x, hx, rfl⟩
      · rw [if_neg (Int32.not_le.mpr hv), s_mean, bd_s, a7]
        have ep : phA v = p2 := if_pos hv
        rw [ep] at b1 ⊢
        exact ⟨c', b1, b2⟩
      · rw [if_pos (nI_pos' (by omega)), s_past hx, bd_s, a6 x]
        have ep : phA (nI x) = p3 x := by
          unfold phA
          rw [if_neg (nI_pos (by omega)), nI_clamp (by omega)]
        rw [ep] at b1 ⊢
        exact ⟨c', b1, b2⟩
def mkI (m i : Nat) : Nat := if m + i < 40 then 0 else min 2400 (m + i - 40)
def cnI (m : Nat) : Nat → Nat
  | 0 => 0
  | i + 1 => mkI m i - (m - 40) + 1
theorem cn_case (m i : Nat) : (cnI m i = mkI m i - (m - 40)) ∨ (cnI m i = mkI m i - (m - 40) + 1) := by
  cases i with
  | zero =>
    refine Or.inl ?_
    show 0 = mkI m 0 - (m - 40)
    unfold mkI
    split <;> omega
  | succ i =>
    show mkI m i - (m - 40) + 1 = mkI m (i + 1) - (m - 40) ∨ mkI m i - (m - 40) + 1 = mkI m (i + 1) - (m - 40) + 1
    unfold mkI
    split <;> split <;> omega
theorem bm_ref {c r : AH} {S G N T j m : Nat} {v path : Int32} (M : MR 42 c r S G N T) (hj : j < 4) (hv : v < 0 ∨ ∃ x, x < 1000 ∧ v = nI x) (hm : m ≤ 2400) (em : r.1 9 j = nI m) (epa : path = pathS (r.1 2 j) (r.1 4 j) (r.1 5 j) (r.1 0 14) S) (hpa : -800 ≤ path.toInt) (hpa2 : path.toInt ≤ 3200) (b0 : Int32) : ∀ (n i : Nat) (g : AH), 81 < i + n → i ≤ 81 → (∀ o k, ¬ (o = 9 ∧ k = j) → g.1 o k = r.1 o k) →
    ∃ r', X11_bestMark_l51 (nI j) v (nI m) n (fld (fun μ => RV (RJ r j) (r.1 0 14) (nI μ - path) S (phA v)) b0 (m - 40) (cnI m i)).1 (fld (fun μ => RV (RJ r j) (r.1 0 14) (nI μ - path) S (phA v)) b0 (m - 40) (cnI m i)).2 (nI i - 40) g = some ((fld (fun μ => RV (RJ r j) (r.1 0 14) (nI μ - path) S (phA v)) b0 (m - 40) (cnI m 81)).1, r') ∧ PR T r r' := by
  obtain ⟨rS, rG, rN, rT, hS, hG, hN, hT, hWW, hJ, hH⟩ := id M.1
  intro n
  induction n with
  | zero => intro i g h1 h2; omega
  | succ n ih =>
    intro i g h1 h2 hg
    have ti : (nI i - 40).toInt = (i : Int) - 40 := pk_sub_toInt (a := i) (b := 40) (by omega) (by decide)
    have t41 : (41 : Int32).toInt = 41 := rfl
    rw [X11_bestMark_l51.eq_2]
    by_cases z : i = 81
    · subst z
      rw [if_pos (show (41 : Int32) ≤ nI 81 - 40 by decide), ck_nI _ hj (by decide), vl_e, nI_clamp (by omega)]
      refine ⟨_, rfl, ?_⟩
      have e : ∀ o k, (sI g 9 j (nI m)).1 o k = r.1 o k := by
        intro o k
        rw [sI_at]
        by_cases y : o = 9 ∧ k = j
        · rw [if_pos y, y.1, y.2, em]
        · rw [if_neg y, hg o k y]
      exact ⟨fun k _ => e 0 k, fun o k _ _ => e o k, fun t _ => ⟨e 10 t, e 11 t⟩, fun k => ⟨e 13 k, e 23 k⟩, fun k _ => e 17 k⟩
    · rw [if_neg (show ¬ (41 : Int32) ≤ nI i - 40 by rw [fa_le, ti, t41]; omega)]
      -- one step at the mark μ
      have step : ∃ r', X11_bestMark_j97 (nI j) v (nI m) (fld (fun μ => RV (RJ r j) (r.1 0 14) (nI μ - path) S (phA v)) b0 (m - 40) (cnI m i)).1 (fld (fun μ => RV (RJ r j) (r.1 0 14) (nI μ - path) S (phA v)) b0 (m - 40) (cnI m i)).2 (nI i - 40) (X11_bestMark_l51 (nI j) v (nI m) n) (nI (mkI m i)) (nI j) g = some ((fld (fun μ => RV (RJ r j) (r.1 0 14) (nI μ - path) S (phA v)) b0 (m - 40) (cnI m 81)).1, r') ∧ PR T r r' := by
        have hmk : mkI m i ≤ 2400 := by unfold mkI; split <;> omega
        unfold X11_bestMark_j97
        rw [ck_nI _ hj (by decide), nI_clamp (by omega), vl_e]
        obtain ⟨g1, eg1⟩ : ∃ q, q = sI g 9 j (nI (mkI m i)) := ⟨_, rfl⟩
        rw [← eg1]
        have q1 : ∀ o k, ¬ (o = 9 ∧ k = j) → g1.1 o k = r.1 o k := fun o k y => by rw [eg1, sI_at, if_neg y, hg o k y]
        have q9 : g1.1 9 j = nI (mkI m i) := by rw [eg1, sI_at, if_pos ⟨rfl, rfl⟩]
        have eJ : ∀ k, 1 ≤ k → k ≤ 8 → (fun q => if q = 8 then nI (mkI m i) else RJ r j q) k = RJ g1 j k := by
          intro k k1 k2
          show (if k = 8 then nI (mkI m i) else r.1 (k + 1) j) = g1.1 (k + 1) j
          by_cases y : k = 8
          · rw [if_pos y, y]; exact q9.symm
          · rw [if_neg y]; exact (q1 _ _ (by omega)).symm
        have hJv : NJ (RJ g1 j) := NJ_J eJ (nj_mark (hJ j hj) (nI_pos (by omega)) (show ¬ (2400 : Int32) < nI (mkI m i) from nI_nlt (a := 2400) (by omega) (by decide)))
        have q12 : g1.1 0 12 = nI S := by rw [q1 0 12 (by omega)]; exact rS
        have q14 : g1.1 0 14 = r.1 0 14 := q1 0 14 (by omega)
        have ep : g1.1 9 j - pathS (g1.1 2 j) (g1.1 4 j) (g1.1 5 j) (g1.1 0 14) S = nI (mkI m i) - path := by
          rw [q9, q1 2 j (by omega), q1 4 j (by omega), q1 5 j (by omega), q14, epa]
        have epl : (nI (mkI m i) - path).toInt = ((mkI m i : Nat) : Int) - path.toInt := by
          have e1 : (nI (mkI m i)).toInt = ((mkI m i : Nat) : Int) := nI_toInt (by omega)
          rw [fb_subI (by omega) (by omega), e1]
        have ec := u_count (h := g1) hj hJv q12 (by rw [q14]; exact hWW) hS.1 hS.2 (pl := nI (mkI m i) - path) (by omega) (by omega)
        have eRV : ∀ φ, RV (RJ g1 j) (g1.1 0 14) (nI (mkI m i) - path) S φ = RV (RJ r j) (r.1 0 14) (nI (mkI m i) - path) S φ := by
          intro φ
          rw [q14]
          unfold RV
          have w1 : RJ g1 j 1 = RJ r j 1 := q1 2 j (by omega)
          have w2 : RJ g1 j 2 = RJ r j 2 := q1 3 j (by omega)
          have w5 : RJ g1 j 5 = RJ r j 5 := q1 6 j (by omega)
          have w6 : RJ g1 j 6 = RJ r j 6 := q1 7 j (by omega)
          have w7 : RJ g1 j 7 = RJ r j 7 := q1 8 j (by omega)
          rw [w1, w2, w5, w6, w7]
        -- the counting, whichever is asked
        have cnt : ∃ g2, (∀ (s0 : Int32), (s0 = if v < 0 then 2 else 3) → X11_counted (nI j) (nI (mkI m i) - path) s0 v g1 = some (RV (RJ r j) (r.1 0 14) (nI (mkI m i) - path) S (phA v), g2)) ∧ WO g1 g2 := by
          rcases hv with hv | ⟨x, hx, rfl⟩
          · obtain ⟨g2, t1, t2⟩ := ec.2.2.1 v
            refine ⟨g2, fun s0 h0 => ?_, t2⟩
            have e2 : phA v = p2 := if_pos hv
            rw [h0, if_pos hv, t1, eRV, e2]
          · obtain ⟨g2, t1, t2⟩ := ec.2.2.2 x hx
            refine ⟨g2, fun s0 h0 => ?_, t2⟩
            have e2 : phA (nI x) = p3 x := by
              unfold phA
              rw [if_neg (nI_pos (by omega)), nI_clamp (by omega)]
            rw [h0, if_neg (nI_pos (by omega)), t1, eRV, e2]
        obtain ⟨g2, t1, t2⟩ := cnt
        rw [s_placeR hj (by omega : S < 4000) q12, bd_s, ep]
        have hq2 : ∀ o k, ¬ (o = 9 ∧ k = j) → g2.1 o k = r.1 o k := fun o k y => by rw [t2.1]; exact q1 o k y
        have q29 : g2.1 9 j = nI (mkI m i) := by rw [t2.1]; exact q9
        -- how the fold goes on
        have hcn : cnI m (i + 1) = mkI m i - (m - 40) + 1 := rfl
        have hlo : m - 40 ≤ mkI m i := by unfold mkI; split <;> omega
        have hcase := cn_case m i
        have ef : fld (fun μ => RV (RJ r j) (r.1 0 14) (nI μ - path) S (phA v)) b0 (m - 40) (cnI m (i + 1)) = if (fld (fun μ => RV (RJ r j) (r.1 0 14) (nI μ - path) S (phA v)) b0 (m - 40) (cnI m i)).2 < RV (RJ r j) (r.1 0 14) (nI (mkI m i) - path) S (phA v) then (nI (mkI m i), RV (RJ r j) (r.1 0 14) (nI (mkI m i) - path) S (phA v)) else fld (fun μ => RV (RJ r j) (r.1 0 14) (nI μ - path) S (phA v)) b0 (m - 40) (cnI m i) := by
          have e1 : fld (fun μ => RV (RJ r j) (r.1 0 14) (nI μ - path) S (phA v)) b0 (m - 40) (mkI m i - (m - 40) + 1) = stp (fun μ => RV (RJ r j) (r.1 0 14) (nI μ - path) S (phA v)) (fld (fun μ => RV (RJ r j) (r.1 0 14) (nI μ - path) S (phA v)) b0 (m - 40) (mkI m i - (m - 40))) (mkI m i) := by
            show stp _ (fld _ b0 (m - 40) (mkI m i - (m - 40))) ((m - 40) + (mkI m i - (m - 40))) = _
            rw [show (m - 40) + (mkI m i - (m - 40)) = mkI m i from by omega]
          rw [hcn]
          rcases hcase with w0 | w0
          · rw [w0, e1]
            rfl
          · rw [w0, if_neg]
            rw [e1]
            exact stp_ge _ _ _
        obtain ⟨r', f1, f2⟩ := ih (i + 1) g2 (by omega) (by omega) hq2
        refine ⟨r', ?_, f2⟩
        have e40 : nI i - 40 + 1 = nI (i + 1) - 40 := sg_next i 40
        have tail : ∀ s0 : Int32, (s0 = if v < 0 then 2 else 3) → X11_bestMark_j114 (nI j) v (nI m) (fld (fun μ => RV (RJ r j) (r.1 0 14) (nI μ - path) S (phA v)) b0 (m - 40) (cnI m i)).1 (fld (fun μ => RV (RJ r j) (r.1 0 14) (nI μ - path) S (phA v)) b0 (m - 40) (cnI m i)).2 (nI i - 40) (X11_bestMark_l51 (nI j) v (nI m) n) s0 (nI (mkI m i) - path) (nI j) g1 = some ((fld (fun μ => RV (RJ r j) (r.1 0 14) (nI μ - path) S (phA v)) b0 (m - 40) (cnI m 81)).1, r') := by
          intro s0 h0
          unfold X11_bestMark_j114 X11_bestMark_j143
          have lc := lc_gt (RV (RJ r j) (r.1 0 14) (nI (mkI m i) - path) S (phA v)) (fld (fun μ => RV (RJ r j) (r.1 0 14) (nI μ - path) S (phA v)) b0 (m - 40) (cnI m i)).2
          rw [t1 s0 h0, bd_s, ck_nI _ hj (by decide), nI_clamp (by omega), q29, vl_e, vl_e, vl_e, e40]
          rw [ef] at f1
          by_cases y : (fld (fun μ => RV (RJ r j) (r.1 0 14) (nI μ - path) S (phA v)) b0 (m - 40) (cnI m i)).2 < RV (RJ r j) (r.1 0 14) (nI (mkI m i) - path) S (phA v)
          · rw [if_pos (lc.2.mpr y)]
            rw [if_pos y] at f1
            exact f1
          · rw [if_neg (fun q => y (lc.2.mp q))]
            rw [if_neg y] at f1
            exact f1
        by_cases y : 0 ≤ v
        · rw [if_pos y]
          exact tail 3 (by rw [if_neg (Int32.not_lt.mpr y)])
        · rw [if_neg y]
          exact tail 2 (by rw [if_pos (Int32.not_le.mp y)])
      have es : (nI m + (nI i - 40)).toInt = (m : Int) + i - 40 := by
        have e1 : (nI m).toInt = (m : Int) := nI_toInt (by omega)
        rw [fb_addI (by omega) (by omega), e1, ti]
        omega
      have t0 : (0 : Int32).toInt = 0 := rfl
      have t24 : (2400 : Int32).toInt = 2400 := rfl
      by_cases y : m + i < 40
      · have emk : mkI m i = 0 := if_pos y
        rw [emk] at step
        rw [if_neg (show ¬ (0 : Int32) ≤ nI m + (nI i - 40) by rw [fa_le, es, t0]; omega)]
        exact step
      · rw [if_pos (show (0 : Int32) ≤ nI m + (nI i - 40) by rw [fa_le, es, t0]; omega)]
        by_cases x : m + i - 40 ≤ 2400
        · have emk : mkI m i = m + i - 40 := by
            unfold mkI
            rw [if_neg y, Nat.min_eq_right x]
          have ev : nI m + (nI i - 40) = nI (m + i - 40) := by
            rw [fa_eq, es, nI_toInt (by omega)]
            omega
          rw [emk] at step
          rw [if_pos (show nI m + (nI i - 40) ≤ 2400 by rw [fa_le, es, t24]; omega), ev]
          exact step
        · have emk : mkI m i = 2400 := by
            unfold mkI
            rw [if_neg y, Nat.min_eq_left (by omega)]
          rw [emk] at step
          rw [if_neg (show ¬ nI m + (nI i - 40) ≤ 2400 by rw [fa_le, es, t24]; omega)]
          exact step
theorem o_bestMark {c r : AH} {a1 a2 : Int32} (I : Inv c r) : SimE (X10_bestMark a1 a2 c) (X11_bestMark a1 a2 r) Inv := by
  obtain ⟨⟨S, G, N, T, M⟩, hW, hL, hRow, hRF, hIM⟩ := id I
  obtain ⟨R, ⟨cS, cW, cG, cN, cT⟩, cJ, cTr⟩ := id M
  obtain ⟨rS, rG, rN, rT, hS, hG, hN, hT, hWW, hJ, hH⟩ := id R
  rcases jm a1 hN with hz | ⟨j, hj, rfl⟩
  · have e1 : X10_bestMark a1 a2 c = some (-1, sI c 4 1 (c.1 4 1 + 1)) := by
      simp only [X10_bestMark, nb_n cN hz, s_outside, s_noSuch, s_noPart, s_outsideTwo, s_first, bd_s, vl_e, i_0, i_10, i_1, i_2, i_3, i_4, i_6, if_true, if_false, rf_1]
    have e2 : X11_bestMark a1 a2 r = some (-1, sI r 1 1 (r.1 1 1 + 1)) := by
      simp only [X11_bestMark, ij_n rN hz, s_bound, s_isIn, X11_bestMark_j20, bd_s, vl_e, i_0, i_10, i_1, i_2, i_3, i_4, i_6, if_true, if_false, no_1]
    exact ⟨_, _, _, e1, e2, inv_ref I (by decide)⟩
  · have hj4 : j < 4 := by omega
    have hjc : (nI j).toNatClampNeg = j := nI_clamp (by omega)
    have hJC : ∀ k, 1 ≤ k → k ≤ 8 → c.1 (48 + j) k = r.1 (k + 1) j := (cJ j hj4).1
    have hJK : JK c (48 + j) := (cJ j hj4).2
    by_cases h0 : a2 < -1
    · have e1 : X10_bestMark (nI j) a2 c = some (-4, sI c 4 4 (c.1 4 4 + 1)) := by
        simp only [X10_bestMark, nb_y cN hN hj, s_at42 hj4, cs_in _ (zc42 hj4), s_outside, s_noSuch, s_noPart, s_outsideTwo, s_first, if_pos h0, bd_s, vl_e, i_0, i_10, i_1, i_2, i_3, i_4, i_6, if_true, if_false, rf_4]
      have e2 : X11_bestMark (nI j) a2 r = some (-4, sI r 1 4 (r.1 1 4 + 1)) := by
        simp only [X11_bestMark, ij_y rN hN hj, hj_ck hj4, hjc, s_bound, s_isIn, if_pos h0, X11_bestMark_j20, bd_s, vl_e, i_0, i_10, i_1, i_2, i_3, i_4, i_6, if_true, if_false, no_4]
      exact ⟨_, _, _, e1, e2, inv_ref I (by decide)⟩
    · by_cases h1 : 999 < a2
      · have e1 : X10_bestMark (nI j) a2 c = some (-6, sI c 4 6 (c.1 4 6 + 1)) := by
          simp only [X10_bestMark, nb_y cN hN hj, s_at42 hj4, cs_in _ (zc42 hj4), s_outside, s_noSuch, s_noPart, s_outsideTwo, s_first, if_neg h0, if_pos h1, bd_s, vl_e, i_0, i_10, i_1, i_2, i_3, i_4, i_6, if_true, if_false, rf_6]
        have e2 : X11_bestMark (nI j) a2 r = some (-6, sI r 1 6 (r.1 1 6 + 1)) := by
          simp only [X11_bestMark, ij_y rN hN hj, hj_ck hj4, hjc, s_bound, s_isIn, if_neg h0, if_pos h1, X11_bestMark_j20, bd_s, vl_e, i_0, i_10, i_1, i_2, i_3, i_4, i_6, if_true, if_false, no_6]
        exact ⟨_, _, _, e1, e2, inv_ref I (by decide)⟩
      · obtain ⟨κ, f, a, g, s, p, l, m, hκ, hf, ha, hg, hs, hpp, hl, hm, e1, e2, e3, e4, e5, e6, e7, e8⟩ := hJ j hj4
        have em : r.1 9 j = nI m := e8
        have hpa := path_b (kd := r.1 2 j) (st := r.1 4 j) (gr := r.1 5 j) ha hg e3 e4 hWW S hS.2
        have hv : a2 < 0 ∨ ∃ x, x < 1000 ∧ a2 = nI x := by
          by_cases y : a2 < 0
          · exact Or.inl y
          · obtain ⟨x, hx, ex⟩ := nI_of2 (M := 999) (n := 999) rfl y (Int32.not_lt.mp h1)
            exact Or.inr ⟨x, by omega, ex⟩
        have c8 : c.1 (48 + j) 8 = nI m := by rw [hJC 8 (by omega) (by omega)]; exact em
        have elo : mx32 0 (nI m - 40) = nI (m - 40) := by
          have e1 : (nI m - 40).toInt = (m : Int) - 40 := pk_sub_toInt (a := m) (b := 40) (by omega) (by decide)
          have t0 : (0 : Int32).toInt = 0 := rfl
          unfold mx32
          by_cases y : 40 < m
          · rw [if_pos (by rw [fa_lt, e1, t0]; omega)]
            exact pk_sub (a := m) (b := 40) (by omega)
          · rw [if_neg (by rw [fa_lt, e1, t0]; omega), show m - 40 = 0 from by omega]
            rfl
        obtain ⟨c', q1, q2⟩ := bm_class (path := pathS (r.1 2 j) (r.1 4 j) (r.1 5 j) (r.1 0 14) S) M hW hj4 hv hm em (by omega) (by omega) (nI m) FU 0 c (by unfold FU; omega) (by omega) PC.rf
        obtain ⟨r', t1, t2⟩ := bm_ref (path := pathS (r.1 2 j) (r.1 4 j) (r.1 5 j) (r.1 0 14) S) M hj4 hv hm em rfl (by omega) (by omega) 0 FU 0 r (by unfold FU; omega) (by omega) (fun _ _ _ => rfl)
        have q1 : X10_bestMark_l84 a2 (48 + j) (pathS (r.1 2 j) (r.1 4 j) (r.1 5 j) (r.1 0 14) S) FU (nI m) (-1) (nI (m - 40)) c = _ := q1
        have t1 : X11_bestMark_l51 (nI j) a2 (nI m) FU 0 (-1) (-40) r = _ := t1
        have epc : pathS (c.1 (48 + j) 1) (c.1 (48 + j) 3) (c.1 (48 + j) 4) (c.1 42 1) S = pathS (r.1 2 j) (r.1 4 j) (r.1 5 j) (r.1 0 14) S := by
          rw [hJC 1 (by omega) (by omega), hJC 3 (by omega) (by omega), hJC 4 (by omega) (by omega), cW]
        have d1 : X10_bestMark (nI j) a2 c = X10_bestMark_l84 a2 (48 + j) (pathS (r.1 2 j) (r.1 4 j) (r.1 5 j) (r.1 0 14) S) FU (nI m) (-1) (nI (m - 40)) c := by
          simp only [X10_bestMark, nb_y cN hN hj, s_at42 hj4, cs_in _ (zc42 hj4), s_outside, s_noSuch, s_noPart, s_outsideTwo, s_first, if_neg h0, if_neg h1, bd_s, vl_e, i_0, i_10, i_1, i_2, i_3, i_4, i_6, if_true, if_false, cS, s_path hJK (by omega : S < 4000), epc, c8, elo]
        have d2 : X11_bestMark (nI j) a2 r = X11_bestMark_l51 (nI j) a2 (nI m) FU 0 (-1) (-40) r := by
          simp only [X11_bestMark, ij_y rN hN hj, hj_ck hj4, hjc, s_bound, s_isIn, X11_bestMark_j20, if_neg h0, if_neg h1, bd_s, vl_e, i_0, i_10, i_1, i_2, i_3, i_4, i_6, if_true, if_false, em]
        have hlast : cnI m 81 = min 2400 (m + 40) + 1 - (m - 40) := by
          show mkI m 80 - (m - 40) + 1 = _
          unfold mkI
          rw [if_neg (by omega)]
          omega
        refine SimE.mk' (d1.trans q1) (d2.trans t1) ?_ (Inv_f I q2 (fun T' h1 h2 => by
          have e : T' = T := by rw [rT] at h1; exact ((nI_eq (by omega) (by omega)).mp h1).symm
          rw [e]; exact t2))
        rw [hlast, show min 2400 (m + 40) + 1 - (m - 40) = (min 2400 (m + 40) - (m - 40)) + 1 from by omega]
        rw [fld_b (b1 := 0)]
        -- the first one is above -1
        have hlo : (nI (m - 40) - pathS (r.1 2 j) (r.1 4 j) (r.1 5 j) (r.1 0 14) S).toInt = ((m - 40 : Nat) : Int) - (pathS (r.1 2 j) (r.1 4 j) (r.1 5 j) (r.1 0 14) S).toInt := by
          have e1 : (nI (m - 40)).toInt = ((m - 40 : Nat) : Int) := nI_toInt (by omega)
          rw [fb_subI (by omega) (by omega), e1]
        have pos : ∃ V, RV (RJ r j) (r.1 0 14) (nI (m - 40) - pathS (r.1 2 j) (r.1 4 j) (r.1 5 j) (r.1 0 14) S) S (phA a2) = lN V ∧ V < 2 ^ 62 := by
          have hpw := pw_b hS.2
          rcases hv with y | ⟨x, hx, rfl⟩
          · obtain ⟨V, v1, v2⟩ := rv_2 (hJ j hj4) hWW hS.1 hS.2 (pl := nI (m - 40) - pathS (r.1 2 j) (r.1 4 j) (r.1 5 j) (r.1 0 14) S) (by omega) (by omega)
            have e2 : phA a2 = p2 := if_pos y
            exact ⟨V, by rw [e2]; exact v1, by omega⟩
          · obtain ⟨V, v1, v2⟩ := rv_3 (hJ j hj4) hWW hS.1 hS.2 (pl := nI (m - 40) - pathS (r.1 2 j) (r.1 4 j) (r.1 5 j) (r.1 0 14) S) (by omega) (by omega) x
            have e2 : phA (nI x) = p3 x := by
              unfold phA
              rw [if_neg (nI_pos (by omega)), nI_clamp (by omega)]
            exact ⟨V, by rw [e2]; exact v1, by omega⟩
        obtain ⟨V, v1, v2⟩ := pos
        show (-1 : Int64) < RV (RJ r j) (r.1 0 14) (nI (m - 40) - pathS (r.1 2 j) (r.1 4 j) (r.1 5 j) (r.1 0 14) S) S (phA a2)
        rw [v1, Int64.lt_iff_toInt_lt, pk_lT (by omega)]
        have tm : (-1 : Int64).toInt = -1 := rfl
        rw [tm]
        omega
