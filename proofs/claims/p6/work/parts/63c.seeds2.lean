/-! SEEDS, the call -/
/-- what the tries from lo on give to one -/
def sV (r : AH) (a : Int32) (t : Nat) : Int32 := if r.1 10 t = a then (if r.1 11 t ≤ 0 then 0 else r.1 11 t) else 0
def sT (r : AH) (a : Int32) (lo : Nat) : Nat → Int32
  | 0 => 0
  | n + 1 => sT r a lo n + sV r a (lo + n)
theorem sT_c {r r' : AH} {a : Int32} {lo : Nat} : ∀ n, (∀ t, t < lo + n → r'.1 10 t = r.1 10 t ∧ r'.1 11 t = r.1 11 t) → sT r' a lo n = sT r a lo n := by
  intro n
  induction n with
  | zero => intro _; rfl
  | succ n ih =>
    intro h
    show sT r' a lo n + sV r' a (lo + n) = sT r a lo n + sV r a (lo + n)
    rw [ih (fun t ht => h t (by omega))]
    unfold sV
    rw [(h (lo + n) (by omega)).1, (h (lo + n) (by omega)).2]
theorem mx0 (x : Int32) : mx32 0 x = if x ≤ 0 then 0 else x := by
  unfold mx32
  by_cases y : 0 < x
  · rw [if_pos y, if_neg (Int32.not_le.mpr y)]
  · rw [if_neg y, if_pos (Int32.not_lt.mp y)]
section SD
variable {S G N T : Nat} {c r : AH}
/-- played to the end on both sides -/
theorem l_play (a1 v2 v4 v6 v7 v8 v9 : Int32) (K : Int32 → Int32 → Int32 → AH → Option (Int32 × AH)) : ∀ (f v : Nat) (ct rt : AH) (tv : Int32), 24 < v + f → v ≤ 24 → MR 52 ct rt S G N (T + v) → TV rt N (min G N) (T + v) tv → JC c ct → JR T r rt → ct.1 0 17 = rt.1 0 40 →
    ∃ (n : Nat) (c' r' : AH), X10_playToTheEnd_l4 a1 f (sT rt a1 T v) (nI v) ct = some (sT r' a1 T n, c') ∧ X11_seeds_l90 a1 v2 v4 v6 v7 v8 v9 K f tv rt = (bd (X11_leader r') fun r11 h12 => if r11 = a1 then X11_seeds_j125 a1 v2 v4 v6 v8 v9 K 1 v7 h12 else X11_seeds_j125 a1 v2 v4 v6 v8 v9 K 0 v7 h12) ∧ MR 52 c' r' S G N (T + n) ∧ JC c c' ∧ JR T r r' ∧ c'.1 0 17 = r'.1 0 40 := by
  intro f
  induction f with
  | zero => intro v ct rt tv h1 h2; omega
  | succ f ih =>
    intro v ct rt tv h1 h2 M tV p q hs
    have hN := M.1.2.2.2.2.2.2.1
    have hT := M.1.2.2.2.2.2.2.2.1
    have hF := F_b M.1
    rw [X10_playToTheEnd_l4.eq_2, X11_seeds_l90.eq_2]
    by_cases z : v = 24
    · subst z
      have ev : tv = -9 := by
        rcases tV with ⟨_, h⟩ | ⟨_, h, _⟩
        · exact h
        · omega
      subst ev
      rw [if_pos (show (24 : Int32) ≤ nI 24 by decide), if_pos (by decide)]
      exact ⟨24, ct, rt, rfl, rfl, M, p, q, hs⟩
    · obtain ⟨v', c1, b1, b2, b3⟩ := m_turnC M (by omega)
      have ev := TV_u hN b3 tV
      subst ev
      have M1 := MR_c (T := T + v) (CA.FR (by omega) b2) M
      have p1 := p.tr (JC.FR b2)
      have hs1 : c1.1 0 17 = rt.1 0 40 := by rw [b2.1 0 17 (by omega) (by omega) (by omega)]; exact hs
      rw [if_neg (show ¬ (24 : Int32) ≤ nI v from nI_ge (b := 24) (by omega) (by decide)), b1, bd_s]
      rcases tV with ⟨_, rfl⟩ | ⟨o1, o2, j, rfl, o3⟩
      · rw [if_neg (show ¬ (0 : Int32) ≤ -9 by decide), if_pos (by decide)]
        exact ⟨v, c1, rt, rfl, rfl, M1, p1, q, hs1⟩
      · have hj := o3.1
        obtain ⟨res, c2, r2, d1, d2, M2, p2, q2, hs2, x10, x11⟩ := l_play1 M1 o2 o3 hs1
        obtain ⟨tv3, r3, g1, g2, g3⟩ := m_turnR M2.1
        have M3 : MR 52 c2 r3 S G N (T + v + 1) := MR_r (RA.FT g2) M2
        have g3 := TV_c (RA.FT g2) g3
        have hs3 : c2.1 0 17 = r3.1 0 40 := by rw [g2.1 0 40 (by omega) (by omega) (by omega)]; exact hs2
        have Q3 : JR T r r3 := (q.tr ⟨q2.1, q2.2.1, fun t ht => q2.2.2 t (by omega)⟩).tr (JR.FT g2)
        rw [if_pos (nI_pos' (by omega)), if_neg (nI_pos (by omega)), d1, bd_s, d2, bd_s, g1, bd_s]
        have e1 : sT r3 a1 T v = sT rt a1 T v := sT_c v (fun t ht => by
          have h1 := q2.2.2 t ht
          rw [g2.1 10 t (by omega) (by omega) (by omega), g2.1 11 t (by omega) (by omega) (by omega)]
          exact h1)
        have e2 : sT r3 a1 T (v + 1) = sT rt a1 T v + (if nI j = a1 then mx32 0 res else 0) := by
          show sT r3 a1 T v + sV r3 a1 (T + v) = _
          rw [e1]
          unfold sV
          rw [g2.1 10 _ (by omega) (by omega) (by omega), g2.1 11 _ (by omega) (by omega) (by omega), x10, x11, mx0]
        have nx := ih (v + 1) c2 r3 tv3 (by omega) (by omega) M3 g3 (p1.tr p2) Q3 hs3
        rw [e2] at nx
        unfold X10_playToTheEnd_j55
        rw [vl_e]
        by_cases y : nI j = a1
        · rw [if_pos y] at nx ⊢
          simp only [vl_e, nI_1]
          exact nx
        · rw [if_neg y] at nx ⊢
          simp only [vl_e, nI_1]
          exact nx
/-- the reference adds up -/
theorem l_add (a1 v2 v4 v6 v7 v9 : Int32) (K : Int32 → Int32 → Int32 → AH → Option (Int32 × AH)) {n : Nat} (R : RN r S G N (T + n)) (v8 : Int32) : ∀ (f k : Nat), n < k + f → k ≤ n → X11_seeds_l132 a1 v2 v4 v6 v7 v9 K f (v8 + sT r a1 T k) (nI (T + k)) r = K v7 (v8 + sT r a1 T n) (v9 + 1) r := by
  have hN := R.2.2.2.2.2.2.1
  have hT := R.2.2.2.2.2.2.2.1
  intro f
  induction f with
  | zero => intro k h1 h2; omega
  | succ f ih =>
    intro k h1 h2
    rw [X11_seeds_l132.eq_2, R.2.2.2.1]
    by_cases z : k = n
    · subst z
      rw [if_pos (Int32.le_refl _), vl_e]
    · have nx := ih (k + 1) (by omega) (by omega)
      have e : v8 + sT r a1 T (k + 1) = v8 + sT r a1 T k + sV r a1 (T + k) := by
        show v8 + (sT r a1 T k + sV r a1 (T + k)) = _
        rw [Int32.add_assoc]
      rw [e] at nx
      unfold X11_seeds_j174 X11_seeds_j175
      unfold sV at nx
      rw [if_neg (nI_ge (by omega) (by omega))]
      have e3 : nI (T + k) + 1 = nI (T + (k + 1)) := nI_1 _
      simp only [ck_nI _ (show T + k < 24 by omega) (show 24 < 2 ^ 31 by decide), nI_clamp (show T + k < 2 ^ 31 by omega), vl_e, e3]
      by_cases y : r.1 10 (T + k) = a1
      · rw [if_pos y] at nx ⊢
        by_cases u : r.1 11 (T + k) ≤ 0
        · rw [if_pos u] at nx ⊢
          exact nx
        · rw [if_neg u] at nx ⊢
          exact nx
      · rw [if_neg y] at nx ⊢
        exact nx
theorem l_seeds (M : MR 42 c r S G N T) {n : Nat} (hn : n ≤ 20) (a1 v4 : Int32) : ∀ (f i : Nat) (x y : Int32) (ct rt : AH), n < i + f → i ≤ n → JC c ct → JR T r rt → ct.1 0 17 = rt.1 0 40 →
    ∃ z c' r', X10_seeds_l52 a1 (nI n) v4 f x y (nI i) ct = some (z, c') ∧ X11_seeds_l72 a1 (nI n) v4 (nI T) f x y (nI i) rt = some (z, sI r' 0 16 (nI T)) ∧ JC c c' ∧ JR T r r' := by
  have h24 := T24 M
  intro f
  induction f with
  | zero => intro i x y ct rt h1 h2; omega
  | succ f ih =>
    intro i x y ct rt h1 h2 p q hs
    rw [X10_seeds_l52.eq_2, X11_seeds_l72.eq_2]
    by_cases z : i = n
    · subst z
      rw [if_pos (Int32.le_refl _), if_pos (Int32.le_refl _), vl_e]
      by_cases u : v4 = 0
      · rw [if_pos u, if_pos u]; exact ⟨_, _, _, rfl, rfl, p, q⟩
      · rw [if_neg u, if_neg u]; exact ⟨_, _, _, rfl, rfl, p, q⟩
    · obtain ⟨r0, er0⟩ : ∃ r0, r0 = sI rt 0 16 (nI T) := ⟨_, rfl⟩
      have ra : RA T r r0 := by
        rw [er0]
        refine ⟨fun k h1 h2 => ?_, fun o k h1 h2 _ => ?_, fun t ht => ⟨?_, ?_⟩⟩
        · by_cases w : k = 16
          · rw [w, sI_y]; exact M.1.2.2.2.1.symm
          · rw [sI_n (by omega)]; exact q.1 k w (by omega)
        · rw [sI_n (by omega)]; exact q.2.1 o k (by omega) (by omega) (by omega) (by omega) (by omega) (by omega) (by omega)
        · rw [sI_n (by omega)]; exact (q.2.2 t ht).1
        · rw [sI_n (by omega)]; exact (q.2.2 t ht).2
      have Q0 : JR T r r0 := by
        rw [er0]
        exact q.tr ⟨fun k h _ => by rw [sI_n (by omega)], fun o k h _ _ _ _ _ _ => by rw [sI_n (by omega)], fun t _ => ⟨by rw [sI_n (by omega)], by rw [sI_n (by omega)]⟩⟩
      have M0 : MR 52 (mcp 52 42 ct) r0 S G N (T + 0) := MR_mcp (MR_k M (fun o k h1 h2 => p.1 o k (by omega) (by omega)) (fun o h1 h2 => p.2.1 o (by omega)) ra) h24
      have P0 : JC c (mcp 52 42 ct) := p.tr JC.cp
      have s0 : (mcp 52 42 ct).1 0 17 = r0.1 0 40 := by rw [mcp_ne (by omega), hs, er0, sI_n (by omega)]
      obtain ⟨tv, r1, g1, g2, g3⟩ := m_turnR M0.1
      have M1 : MR 52 (mcp 52 42 ct) r1 S G N (T + 0) := MR_r (RA.FT g2) M0
      have s1 : (mcp 52 42 ct).1 0 17 = r1.1 0 40 := by rw [g2.1 0 40 (by omega) (by omega) (by omega)]; exact s0
      obtain ⟨k, c2, r2, d1, d2, M2, P2, Q2, s2⟩ := l_play (T := T) (c := c) (r := r) a1 (nI n) v4 (nI T) x y (nI i) (X11_seeds_l72 a1 (nI n) v4 (nI T) f) FU 0 (mcp 52 42 ct) r1 tv (by unfold FU; omega) (Nat.zero_le _) M1 (TV_c (RA.FT g2) g3) P0 (Q0.tr (JR.FT g2)) s1
      have d1 : X10_playToTheEnd_l4 a1 FU 0 0 (mcp 52 42 ct) = _ := d1
      obtain ⟨lv, c3, r3, k1, k2, k3, k4, M3⟩ := t_lead M2 (by omega)
      have s3 : c3.1 0 17 = r3.1 0 40 := by rw [k3.1 0 17 (by omega) (by omega) (by omega), k4.1 0 40 (by omega) (by omega) (by omega)]; exact s2
      have e3 : sT r3 a1 T k = sT r2 a1 T k := sT_c k (fun t _ => ⟨k4.1 10 t (by omega) (by omega) (by omega), k4.1 11 t (by omega) (by omega) (by omega)⟩)
      have hk24 := T24' M3
      have sum := fun v7 => l_add (T := T) a1 (nI n) v4 (nI T) v7 (nI i) (X11_seeds_l72 a1 (nI n) v4 (nI T) f) (n := k) M3.1 y FU 0 (by unfold FU; omega) (Nat.zero_le _)
      have sum : ∀ v7, X11_seeds_l132 a1 (nI n) v4 (nI T) v7 (nI i) (X11_seeds_l72 a1 (nI n) v4 (nI T) f) FU y (nI T) r3 = X11_seeds_l72 a1 (nI n) v4 (nI T) f v7 (y + sT r3 a1 T k) (nI i + 1) r3 := by
        intro v7
        have h := sum v7
        have e0 : y + sT r3 a1 T 0 = y := Int32.add_zero y
        rw [e0] at h
        exact h
      unfold X10_playToTheEnd
      rw [if_neg (nI_ge (by omega) (by omega)), if_neg (nI_ge (by omega) (by omega)), s_mcp (by omega) ct, bd_s, d1, bd_s, vl_e, k1, bd_s, vl_e, ← er0, g1, bd_s, d2, k2, bd_s]
      unfold X10_seeds_j101 X11_seeds_j125
      simp only [vl_e, nI_1, sum, ← e3]
      by_cases u : lv = a1
      · rw [if_pos u, if_pos u]
        exact ih (i + 1) _ _ c3 r3 (by omega) (by omega) (P2.tr (JC.FR k3)) (Q2.tr (JR.FT k4)) s3
      · rw [if_neg u, if_neg u]
        exact ih (i + 1) _ _ c3 r3 (by omega) (by omega) (P2.tr (JC.FR k3)) (Q2.tr (JR.FT k4)) s3
end SD
theorem o_seeds {c r : AH} {a1 a2 a3 a4 : Int32} (I : Inv c r) : SimE (X10_seeds a1 a2 a3 a4 c) (X11_seeds a1 a2 a3 a4 r) Inv := by
  obtain ⟨⟨S, G, N, T, M⟩, hW, hL, hRow, hRF, hIM⟩ := id I
  have hN := M.1.2.2.2.2.2.2.1
  have rne : ∀ x : Int32, (x = -1 ∨ x = -2 ∨ x = -3 ∨ x = -4 ∨ x = -6) → ¬ x = 0 := fun x hx e => by rw [e] at hx; exact absurd hx (by decide)
  have r40 : ∀ (x : Int32), (x = -1 ∨ x = -2 ∨ x = -3 ∨ x = -4 ∨ x = -6) → X11_seeds_j40 a1 a2 a3 a4 x r = bd (X11_no x r) fun r21 h22 => some (r21, h22) := by
    intro x hx
    unfold X11_seeds_j40
    rw [if_neg (rne x hx)]
  unfold X10_seeds X11_seeds X11_seeds_j19
  rcases jm a1 hN with hz | ⟨j, hj, rfl⟩
  · rw [nb_n M.2.1.2.2.2.1 hz, ij_n M.1.2.2.1 hz, bd_s, bd_s, i_0, i_1, r40 _ (by decide)]
    simp only [s_outside, s_noSuch, s_first, bd_s, i_1]
    exact rfs (x := -1) I (by decide)
  · rw [nb_y M.2.1.2.2.2.1 hN hj, ij_y M.1.2.2.1 hN hj, bd_s, bd_s, i_10]
    simp only [s_outside, s_bound, s_noSuch, s_first, s_isIn, bd_s, i_0]
    by_cases h1 : a2 < 1
    · simp only [if_pos h1, if_true, i_4, r40 (-4) (by decide)]
      exact rfs (x := -4) I (by decide)
    · by_cases h2 : 20 < a2
      · simp only [if_neg h1, if_pos h2, if_true, i_6, r40 (-6) (by decide)]
        exact rfs (x := -6) I (by decide)
      · by_cases h3 : a4 < 0 ∨ 1 < a4
        · simp only [if_neg h1, if_neg h2, if_pos h3, if_true, i_0, i_2, vl_e, r40 (-2) (by decide)]
          exact rfs (x := -2) I (by decide)
        · simp only [if_neg h1, if_neg h2, if_neg h3, if_true, i_0, i_10]
          unfold X11_seeds_j40
          have t1 : (1 : Int32).toInt = 1 := rfl
          have t0 : (0 : Int32).toInt = 0 := rfl
          obtain ⟨n, hn, rfl⟩ := nI_of2 (x := a2) (M := 20) (n := 20) rfl (by rw [fa_lt] at h1 ⊢; omega) (Int32.not_lt.mp h2)
          rw [i_0, vl_e, vl_e, vl_e, M.1.2.2.2.1]
          have P0 : JC c (sI c 0 17 a3) := ⟨fun o k _ h => by rw [sI_n h], fun _ _ => rfl, fun _ _ _ => rfl⟩
          have Q0 : JR T r (sI r 0 40 a3) := ⟨fun k _ h => by rw [sI_n (by omega)], fun o k h _ _ _ _ _ _ => by rw [sI_n (by omega)], fun t _ => ⟨by rw [sI_n (by omega)], by rw [sI_n (by omega)]⟩⟩
          obtain ⟨z, c', r', u1, u2, p, q⟩ := l_seeds M hn (nI j) a4 FU 0 0 0 (sI c 0 17 a3) (sI r 0 40 a3) (by unfold FU; omega) (Nat.zero_le _) P0 Q0 (by rw [sI_y, sI_y])
          have ra : RA T r (sI r' 0 16 (nI T)) := by
            refine ⟨fun k h1 h2 => ?_, fun o k h1 h2 _ => ?_, fun t ht => ⟨?_, ?_⟩⟩
            · by_cases w : k = 16
              · rw [w, sI_y]; exact M.1.2.2.2.1.symm
              · rw [sI_n (by omega)]; exact q.1 k w (by omega)
            · rw [sI_n (by omega)]; exact q.2.1 o k (by omega) (by omega) (by omega) (by omega) (by omega) (by omega) (by omega)
            · rw [sI_n (by omega)]; exact (q.2.2 t ht).1
            · rw [sI_n (by omega)]; exact (q.2.2 t ht).2
          have q2 : ∀ o k, 1 ≤ o → o ≠ 10 → o ≠ 11 → o ≠ 12 → o ≠ 20 → o ≠ 21 → o ≠ 22 → (sI r' 0 16 (nI T)).1 o k = r.1 o k := fun o k h1 h2 h3 h4 h5 h6 h7 => by rw [sI_n (by omega)]; exact q.2.1 o k h1 h2 h3 h4 h5 h6 h7
          exact SimE.mk' u1 u2 rfl (inv_M I (MR_k M (fun o k h1 h2 => p.1 o k (by omega) (by omega)) (fun o h1 h2 => p.2.1 o (by omega)) ra) ⟨fun k hk => p.1 0 k (by omega) (by omega), fun o k h => p.1 o k (by omega) (by omega), fun o h1 h2 => p.2.1 o (by omega), fun o h1 h2 => p.2.2 o h1 h2⟩ ⟨fun k h => by rw [sI_n (by omega)]; exact q.1 k (by omega) (by omega), fun k => q2 1 k (by omega) (by omega) (by omega) (by omega) (by omega) (by omega) (by omega), fun k => ⟨q2 13 k (by omega) (by omega) (by omega) (by omega) (by omega) (by omega) (by omega), q2 23 k (by omega) (by omega) (by omega) (by omega) (by omega) (by omega) (by omega)⟩, fun k _ => q2 17 k (by omega) (by omega) (by omega) (by omega) (by omega) (by omega) (by omega)⟩)
