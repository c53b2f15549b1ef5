/-! MAYSTILL, HALF -/
section MS
variable {S G N T : Nat} {c r : AH}
theorem l_still (M : MR 42 c r S G N T) : ∀ (f k : Nat) (x : Int32) (h rt : AH), N < k + f → k ≤ N → FR c h → RKC h (BR r T) → h.1 5 0 = nI N → FT r rt → ∃ v r', X10_mayStill_l41 0 f x (nI k) h = some (v, h) ∧ X11_mayStill_l28 f x (nI k) rt = some (v, r') ∧ FT r r' := by
  have hN := M.1.2.2.2.2.2.2.1
  intro f
  induction f with
  | zero => intro k x h rt h1 h2; omega
  | succ f ih =>
    intro k x h rt h1 h2 F R e5 q
    have Mh := MR_c (T := T) (CA.FR (by decide) F) M
    have Rt := RN_c (RA.FT q) M.1
    rw [X10_mayStill_l41.eq_2, X11_mayStill_l28.eq_2, Mh.2.1.2.2.2.1, Rt.2.2.1]
    by_cases z : k = N
    · rw [if_pos (nI_le (by omega) (by omega)), if_pos (nI_le (by omega) (by omega))]
      exact ⟨x, rt, rfl, rfl, q⟩
    · have hk4 : k < 4 := by omega
      have hv := fl_nn M.1 hk4
      have el : lenS (rt.1 2 k) (rt.1 3 k) (rt.1 7 k) (rt.1 0 14) 0 0 = fl r k := by
        unfold fl
        rw [q.1 2 k (by decide) (by decide) (by decide), q.1 3 k (by decide) (by decide) (by decide), q.1 7 k (by decide) (by decide) (by decide), q.1 0 14 (by decide) (by decide) (by decide)]
      obtain ⟨r', a1, a2⟩ := s_enough Rt (by omega : k < N) hv 1
      rw [BR_c (RA.FT q) (Nat.le_refl T)] at a1
      rw [if_neg (nI_ge (by omega) (by omega)), if_neg (nI_ge (by omega) (by omega)), i_0, s_full Mh hk4, bd_s, s_lenR hk4, bd_s, el, a1, bd_s]
      unfold X10_mayStill_j70 X10_mayStill_j82 X11_mayStill_j60
      rw [s_ahead hN (by omega) (BR_p r T) hv R e5, bd_s]
      have hr : rk (ad (BR r T) k (fl r k)) N k < 4 := by have := rk_lt (B := ad (BR r T) k (fl r k)) (n := N) (j := k) (by omega); omega
      simp only [vl_e, nI_1]
      by_cases y : rk (ad (BR r T) k (fl r k)) N k = 0
      · have e1 : nI (rk (ad (BR r T) k (fl r k)) N k) = 0 := by rw [y]; rfl
        rw [if_pos e1, if_neg (show ¬ (1 : Int32) ≤ nI (rk (ad (BR r T) k (fl r k)) N k) by rw [e1]; decide), i_10]
        exact ih (k + 1) _ h r' (by omega) (by omega) F R e5 (q.tr a2)
      · rw [if_neg (show ¬ nI (rk (ad (BR r T) k (fl r k)) N k) = 0 from fun z => y ((nI_eq (b := 0) (by omega) (by decide)).mp z)), if_pos (show (1 : Int32) ≤ nI (rk (ad (BR r T) k (fl r k)) N k) from nI_le (a := 1) (by omega) (by omega)), i_0, Int32.or_zero]
        exact ih (k + 1) _ h r' (by omega) (by omega) F R e5 (q.tr a2)
/-- no turn left: the leader alone -/
theorem l_stillE (M : MR 42 c r S G N T) {h : AH} (F : FR c h) (R : RKC h (BR r T)) (e5 : h.1 5 0 = nI N) {j : Nat} (hj : j < N) (ej : rk (BR r T) N j = 0) : ∀ (f k : Nat), N < k + f → k ≤ N → X10_mayStill_l41 1 f (if j < k then shl32 1 (nI j) else 0) (nI k) h = some (shl32 1 (nI j), h) := by
  have hN := M.1.2.2.2.2.2.2.1
  have Mh := MR_c (T := T) (CA.FR (by decide) F) M
  intro f
  induction f with
  | zero => intro k h1 h2; omega
  | succ f ih =>
    intro k h1 h2
    rw [X10_mayStill_l41.eq_2, Mh.2.1.2.2.2.1]
    by_cases z : k = N
    · rw [if_pos (nI_le (by omega) (by omega)), if_pos (by omega)]
    · have z0 : (0 : Int32).toInt = 0 := rfl
      rw [if_neg (nI_ge (by omega) (by omega)), i_10]
      unfold X10_mayStill_j70 X10_mayStill_j82
      rw [s_ahead hN (by omega) (BR_p r T) (by rw [z0]; omega) R e5, bd_s, ad_0 (BR_p r T)]
      have hr : rk (BR r T) N k < 4 := by have := rk_lt (B := BR r T) (n := N) (j := k) (by omega); omega
      simp only [vl_e, nI_1]
      have nx := ih (k + 1) (by omega) (by omega)
      by_cases y : k = j
      · subst y
        rw [if_pos (by rw [ej]; rfl), if_neg (show ¬ k < k by omega)]
        rw [if_pos (by omega)] at nx
        have e0 : ∀ x : Int32, 0 ||| x = x := fun x => Int32.zero_or
        rw [e0]
        exact nx
      · rw [if_neg (show ¬ nI (rk (BR r T) N k) = 0 from fun q => y (rk_inj hN (by omega) hj (BR_p r T) (by rw [ej]; exact (nI_eq (b := 0) (by omega) (by decide)).mp q)))]
        by_cases u : j < k
        · rw [if_pos u]
          rw [if_pos (by omega)] at nx
          exact nx
        · rw [if_neg u]
          rw [if_neg (by omega)] at nx
          exact nx
end MS
theorem o_mayStill {c r : AH} (I : Inv c r) : SimE (X10_mayStill c) (X11_mayStill r) Inv := by
  obtain ⟨⟨S, G, N, T, M⟩, hW, hL, hRow, hRF, hIM⟩ := id I
  have hN := M.1.2.2.2.2.2.2.1
  have hG := M.1.2.2.2.2.2.1
  have hT := M.1.2.2.2.2.2.2.2.1
  have h24 := T24 M
  have hF := F_b M.1
  obtain ⟨c', b1, b2, b3, b4⟩ := m_rankC M (by decide) (n := T) (by omega)
  rw [Nat.min_self] at b2
  obtain ⟨lv, ra, a1, a2, a3⟩ := m_leadR M.1
  have Ra := RN_c (RA.FT a2) M.1
  obtain ⟨v, rb, d1, d2, d3⟩ := m_turnR Ra
  have F := a2.tr d2
  have hd := rd_6 (N := N) (F := min G N) (T := T) hN hF.1 hF.2.2 hT
  unfold X10_mayStill X11_mayStill X10_mayStill_j17
  rw [m_roundC M, bd_s, M.2.1.2.2.2.2, b1, bd_s, bd_s, a1, bd_s, d1, bd_s]
  rcases d3 with ⟨o1, rfl⟩ | ⟨o1, o2, i, rfl, o3⟩
  · rw [if_pos (by rw [hd.1.mpr o1]; rfl), if_neg (show ¬ (0 : Int32) ≤ -9 by decide)]
    rcases a3 with ⟨u1, rfl⟩ | ⟨j, u1, rfl, u2⟩
    · rw [if_neg (show ¬ (0 : Int32) ≤ -9 by decide)]
      subst u1
      refine SimE.mk' (v := 0) (c2 := c') ?_ rfl rfl (Inv_f I (PC.FR b3) (fun _ _ _ => PR.FT F))
      have e3 : c'.1 42 3 = nI 0 := by rw [b3.1 42 3 (by decide) (by decide) (by decide)]; exact M.2.1.2.2.2.1
      unfold FU
      rw [X10_mayStill_l41.eq_2, e3, if_pos (show nI 0 ≤ 0 by decide)]
    · rw [if_pos (nI_pos' (by omega))]
      have e := l_stillE M b3 b2 b4 u1 u2 FU 0 (by unfold FU; omega) (Nat.zero_le _)
      rw [if_neg (by omega)] at e
      exact SimE.mk' e rfl rfl (Inv_f I (PC.FR b3) (fun _ _ _ => PR.FT F))
  · have n6 : rd N (min G N) T ≠ 6 := fun z => by have := hd.1.mp z; omega
    have hi := o3.1
    rw [if_neg (show ¬ nI (rd N (min G N) T) = 6 from fun z => n6 ((nI_eq (b := 6) (by omega) (by decide)).mp z)), if_pos (nI_pos' (by omega))]
    obtain ⟨x, r', e1, e2, q⟩ := l_still M FU 0 0 c' rb (by unfold FU; omega) (Nat.zero_le _) b3 b2 b4 F
    exact SimE.mk' e1 e2 rfl (Inv_f I (PC.FR b3) (fun _ _ _ => PR.FT q))
/-! HALF: at most six tries a jumper -/
def pT (N F j ρ t : Nat) : Bool := decide ((t < 3 * N ∧ j = t % N) ∨ (3 * N ≤ t ∧ ρ = F - 1 - (t - 3 * N) % F))
theorem pT_6 : ∀ N, N < 5 → ∀ F, F < 5 → (1 ≤ F ∧ F ≤ N) → ∀ j, j < 4 → ∀ ρ, ρ < 4 → cN (pT N F j ρ) (3 * N + 3 * F) ≤ 6 := by decide +kernel
section HF
variable {S G N T j : Nat} {c r : AH}
theorem tries_6 (R : RN r S G N T) (hj : j < N) : cN (fun t => decide (r.1 10 t = nI j)) T ≤ 6 := by
  have hN := R.2.2.2.2.2.2.1
  have hG := R.2.2.2.2.2.1
  have hT := R.2.2.2.2.2.2.2.1
  have hr : rk (BR r (3 * N)) N j < 4 := by have := rk_lt (B := BR r (3 * N)) hj; omega
  have h1 : cN (fun t => decide (r.1 10 t = nI j)) T ≤ cN (pT N (min G N) j (rk (BR r (3 * N)) N j)) T := cN_mono T (fun t ht h => by
    have h := of_decide_eq_true h
    obtain ⟨-, w3⟩ := R.2.2.2.2.2.2.2.2.2.2 t ht
    have ew : wR r t = j := by unfold wR; rw [h, nI_clamp (by omega)]
    rw [ew] at w3
    exact decide_eq_true w3.2)
  have h2 := cN_le2 (pT N (min G N) j (rk (BR r (3 * N)) N j)) hT
  have h3 := pT_6 N (by omega) (min G N) (by omega) (by omega) j (by omega) _ hr
  omega
/-- what the class's list leaves alone, and the reference's -/
def C73 (c c' : AH) : Prop := (∀ o k, o ≠ 73 → c'.1 o k = c.1 o k) ∧ (∀ o, o ≠ 73 → c'.2.1 o = c.2.1 o) ∧ ∀ o, o ≠ 73 → c'.2.2 o = c.2.2 o
def R28 (r r' : AH) : Prop := (∀ o k, o ≠ 28 → r'.1 o k = r.1 o k) ∧ r'.2 = r.2
/-- one more LENGTH put in its place, on both sides -/
theorem l_ins {m : Nat} (hm : m < 6) (a t v : Int32) (K : Int32 → Int32 → AH → Option (Int32 × AH)) : ∀ (f q : Nat) (hc hr : AH), q < f → q ≤ m → C73 c hc → R28 r hr → (∀ x, x ≤ m → x ≠ q → hc.1 73 x = hr.1 28 x) → ∃ hc' hr', X10_insert_l2 73 6 v f (nI q) hc = some ((), hc') ∧ X11_half_l64 a (nI m) t v K f (nI q) hr = K (nI (m + 1)) (t + 1) hr' ∧ C73 c hc' ∧ R28 r hr' ∧ ∀ x, x < m + 1 → hc'.1 73 x = hr'.1 28 x := by
  intro f
  induction f with
  | zero => intro q hc hr h1; omega
  | succ f ih =>
    intro q hc hr h1 h2 F1 F2 E
    have wr : ∀ (y : Int32), C73 c (sI hc 73 q y) ∧ R28 r (sI hr 28 q y) := fun y => ⟨⟨fun o k ho => by rw [sI_n (by omega)]; exact F1.1 o k ho, F1.2⟩, ⟨fun o k ho => by rw [sI_n (by omega)]; exact F2.1 o k ho, F2.2⟩⟩
    have wq : ∀ (y : Int32) x, x ≤ m → (x ≠ q → hc.1 73 x = hr.1 28 x) → (sI hc 73 q y).1 73 x = (sI hr 28 q y).1 28 x := by
      intro y x hx hh
      rw [sI_at, sI_at]
      by_cases u : x = q
      · rw [if_pos ⟨rfl, u⟩, if_pos ⟨rfl, u⟩]
      · rw [if_neg (fun z => u z.2), if_neg (fun z => u z.2)]
        exact hh u
    have fin : ∃ hc' hr', (some ((), sI hc 73 q v) : Option (Unit × AH)) = some ((), hc') ∧ X11_half_j105 a (nI m) t v (nI q) K hr = K (nI (m + 1)) (t + 1) hr' ∧ C73 c hc' ∧ R28 r hr' ∧ ∀ x, x < m + 1 → hc'.1 73 x = hr'.1 28 x := by
      unfold X11_half_j105 X11_half_j117
      rw [ck_nI _ (by omega) (by decide), vl_e, vl_e, vl_e, nI_1, nI_clamp (by omega)]
      exact ⟨_, _, rfl, rfl, (wr v).1, (wr v).2, fun x hx => wq v x (by omega) (E x (by omega))⟩
    rw [X10_insert_l2.eq_2, X11_half_l64.eq_2]
    by_cases z : q = 0
    · rw [if_pos (show nI q ≤ 0 by rw [z]; decide), if_pos (show nI q ≤ 0 by rw [z]; decide), ck_nI _ (by omega) (by decide), vl_e, nI_clamp (by omega)]
      exact fin
    · have e1 : nI q - 1 = nI (q - 1) := pk_sub (a := q) (b := 1) (by omega)
      have eq := E (q - 1) (by omega) (by omega)
      rw [if_neg (nI_nle (by omega) (by omega)), if_neg (nI_nle (by omega) (by omega)), e1]
      simp only [ck_nI _ (show q - 1 < 6 by omega) (show 6 < 2 ^ 31 by decide), ck_nI _ (show q < 6 by omega) (show 6 < 2 ^ 31 by decide), nI_clamp (show q - 1 < 2 ^ 31 by omega), nI_clamp (show q < 2 ^ 31 by omega), eq, vl_e]
      by_cases y : hr.1 28 (q - 1) ≤ v
      · rw [if_pos y, if_pos y]
        exact fin
      · rw [if_neg y, if_neg y, m_one, pk_sub (by omega)]
        exact ih (q - 1) _ _ (by omega) (by omega) (wr _).1 (wr _).2 (fun x hx hq => wq _ x hx (fun u => E x hx u))
theorem mx_clp (x : Int32) : mx32 0 x = clp x := by
  have z : (0 : Int32).toInt = 0 := rfl
  unfold mx32 clp
  by_cases a : 0 < x
  · rw [if_pos a, if_pos (show (0 : Int32) ≤ x by rw [fa_lt] at a; rw [fa_le]; omega)]
  · rw [if_neg a]
    by_cases b : 0 ≤ x
    · rw [if_pos b]
      rw [fa_lt] at a
      rw [fa_le] at b
      rw [fa_eq]
      omega
    · rw [if_neg b]
theorem l_half (M : MR 42 c r S G N T) (hj : j < N) : ∀ (f t m : Nat) (hc hr : AH), T < t + f → t ≤ T → m ≤ cN (fun t => decide (r.1 10 t = nI j)) t → C73 c hc → R28 r hr → (∀ x, x < m → hc.1 73 x = hr.1 28 x) → ∃ v c' r', X10_half_l27 (nI j) f (nI m) (nI t) hc = some (v, c') ∧ X11_half_l18 (nI j) f (nI m) (nI t) hr = some (v, r') ∧ C73 c c' ∧ R28 r r' := by
  have h24 := T24 M
  have h6 := tries_6 M.1 hj
  intro f
  induction f with
  | zero => intro t m hc hr h1 h2; omega
  | succ f ih =>
    intro t m hc hr h1 h2 hm F1 F2 E
    have hmT := cN_le2 (fun t => decide (r.1 10 t = nI j)) h2
    rw [X10_half_l27.eq_2, X11_half_l18.eq_2, F1.1 42 4 (by decide), F2.1 0 16 (by decide), M.2.1.2.2.2.2, M.1.2.2.2.1]
    by_cases z : t = T
    · subst z
      rw [if_pos (Int32.le_refl _), if_pos (Int32.le_refl _)]
      by_cases y : m = 0
      · rw [if_pos (by rw [y]; rfl), if_pos (by rw [y]; rfl)]
        exact ⟨_, _, _, rfl, rfl, F1, F2⟩
      · have e1 : nI m - 1 = nI (m - 1) := pk_sub (a := m) (b := 1) (by omega)
        have e2 : nI (m - 1) / 2 = nI ((m - 1) / 2) := pk_div (a := m - 1) (d := 2) (by omega) (by omega) (by omega)
        rw [if_neg (nI_ne0 (by omega) (by omega)), if_neg (nI_ne0 (by omega) (by omega)), e1, e2, ck_nI _ (by omega) (by decide), ck_nI _ (by omega) (by decide), nI_clamp (by omega), E _ (by omega)]
        exact ⟨_, _, _, rfl, rfl, F1, F2⟩
    · have e1 : hc.1 44 t = r.1 10 t := by rw [F1.1 44 t (by decide)]; exact (M.2.2.2 t (by omega)).1
      have e2 : hc.1 46 t = r.1 11 t := by rw [F1.1 46 t (by decide)]; exact (M.2.2.2 t (by omega)).2
      have d1 : hr.1 10 t = r.1 10 t := F2.1 10 t (by decide)
      have d2 : hr.1 11 t = r.1 11 t := F2.1 11 t (by decide)
      have st := cN_step (fun t => r.1 10 t = nI j) t
      rw [if_neg (nI_ge (by omega) (by omega)), if_neg (nI_ge (by omega) (by omega))]
      simp only [ck_nI _ (show t < 24 by omega) (show 24 < 2 ^ 31 by decide), nI_clamp (show t < 2 ^ 31 by omega), e1, e2, d1, d2]
      have nx : ∀ hc hr, C73 c hc → R28 r hr → (∀ x, x < m → hc.1 73 x = hr.1 28 x) → ∃ v c' r', X10_half_j98 (nI j) (nI m) (nI t) (X10_half_l27 (nI j) f) hc = some (v, c') ∧ X11_half_j117 (nI j) (nI m) (nI t) (X11_half_l18 (nI j) f) hr = some (v, r') ∧ C73 c c' ∧ R28 r r' := by
        intro hc hr F1 F2 E
        unfold X10_half_j98 X11_half_j117
        rw [vl_e, vl_e, nI_1]
        exact ih (t + 1) m hc hr (by omega) (by omega) (by omega) F1 F2 E
      by_cases y : r.1 10 t = nI j
      · rw [if_pos y, if_pos y]
        rw [if_pos y] at st
        by_cases u : r.1 11 t = -8
        · rw [if_pos u, if_pos u]
          exact nx hc hr F1 F2 E
        · have hm6 : m < 6 := by
            have := cN_le2 (fun t => decide (r.1 10 t = nI j)) (show t + 1 ≤ T by omega)
            omega
          rw [if_neg u, if_neg u, if_neg (show ¬ (6 : Int32) ≤ nI m from nI_ge (b := 6) hm6 (by decide)), s_al0, bd_s, mx_clp]
          obtain ⟨hc', hr', a1, a2, a3, a4, a5⟩ := l_ins (c := c) (r := r) hm6 (nI j) (nI t) (clp (r.1 11 t)) (X11_half_l18 (nI j) f) FU m hc hr (by unfold FU; omega) (Nat.le_refl _) F1 F2 (fun x hx hq => E x (by omega))
          unfold X10_insert X10_half_j98
          rw [a1, bd_s, a2, vl_e, vl_e, nI_1, nI_1]
          exact ih (t + 1) (m + 1) hc' hr' (by omega) (by omega) (by omega) a3 a4 a5
      · rw [if_neg y, if_neg y]
        exact nx hc hr F1 F2 E
end HF
theorem o_half {c r : AH} {a1 : Int32} (I : Inv c r) : SimE (X10_half a1 c) (X11_half a1 r) Inv := by
  obtain ⟨⟨S, G, N, T, M⟩, hW, hL, hRow, hRF, hIM⟩ := id I
  have hN := M.1.2.2.2.2.2.2.1
  have h24 := T24 M
  unfold X10_half X11_half
  rcases jm a1 hN with hz | ⟨j, hj, rfl⟩
  · rw [nb_n M.2.1.2.2.2.1 hz, bd_s, ij_n M.1.2.2.1 hz, bd_s, i_0, i_1]
    exact rfs (x := -1) I (by decide)
  · rw [nb_y M.2.1.2.2.2.1 hN hj, bd_s, ij_y M.1.2.2.1 hN hj, bd_s, i_10, i_0, vl_e]
    have F0 : C73 c (zN c 73) := ⟨fun o k ho => by rw [zN_1, if_neg ho], fun o ho => by funext k; rw [zN_21, if_neg ho], fun o ho => by rw [zN_22, if_neg ho]⟩
    obtain ⟨v, c', r', e1, e2, f1, f2⟩ := l_half M hj FU 0 0 (zN c 73) r (by unfold FU; omega) (Nat.zero_le _) (Nat.zero_le _) F0 ⟨fun _ _ _ => rfl, rfl⟩ (fun x hx => absurd hx (by omega))
    refine SimE.mk' e1 e2 rfl (Inv_f I ⟨fun k _ => f1.1 0 k (by decide), fun o k h => f1.1 o k (by omega), fun o h => f1.2.2 o (by omega), fun o h1 h2 => f1.2.1 o (by omega)⟩ (fun T' _ _ => ⟨fun k _ => f2.1 0 k (by decide), fun o k h1 h2 => f2.1 o k (by omega), fun t _ => ⟨f2.1 10 t (by decide), f2.1 11 t (by decide)⟩, fun k => ⟨f2.1 13 k (by decide), f2.1 23 k (by decide)⟩, fun k _ => f2.1 17 k (by decide)⟩))
