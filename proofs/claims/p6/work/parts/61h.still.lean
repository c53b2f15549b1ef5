/-! RANKS, SAFE, MAYSTILL, HALF -/
theorem s_atA {h : AH} {N : Nat} (hN : N ≤ 4) (e5 : h.1 5 0 = nI N) (p : Int32) : ∃ v, X6_at p h = some (v, h) := by
  have R : RKC h (fun i => h.1 6 i, fun i => h.1 7 i) := fun i _ => ⟨rfl, rfl⟩
  have hk : ∀ k, k < N → ∃ v, X6_ahead (nI k) 0 h = some (v, h) := by
    intro k hk
    unfold X6_ahead
    rw [if_neg (nI_pos (by omega)), e5, if_pos (nI_lt hk (by omega)), ck_nI _ (show k < 4 by omega) (by decide)]
    simp only [vl_e, ck_nI _ (show k < 4 by omega) (show 4 < 2 ^ 31 by decide)]
    exact ⟨_, s_aheadL hN (by omega) R e5 FU 0 (by unfold FU; omega) (Nat.zero_le _)⟩
  have key : ∀ (f k : Nat), N < k + f → k ≤ N → ∃ v, X6_at_l2 p f (nI k) h = some (v, h) := by
    intro f
    induction f with
    | zero => intro k h1 h2; omega
    | succ f ih =>
      intro k h1 h2
      rw [X6_at_l2.eq_2, e5]
      by_cases z : k = N
      · rw [if_pos (nI_le (by omega) (by omega))]
        exact ⟨_, rfl⟩
      · obtain ⟨v, ev⟩ := hk k (by omega)
        rw [if_neg (nI_ge (by omega) (by omega)), ev, bd_s]
        by_cases y : v = p
        · rw [if_pos y]; exact ⟨_, rfl⟩
        · rw [if_neg y, vl_e, nI_1]
          exact ih (k + 1) (by omega) (by omega)
  exact key FU 0 (by unfold FU; omega) (Nat.zero_le _)
theorem s_isAheadA {h : AH} {a b : Nat} (ha : a < 4) (hb : b < 4) : ∃ x, X11_isAhead (nI a) (nI b) h = some (x, h) := by
  unfold X11_isAhead
  simp only [ck_nI _ ha (show 4 < 2 ^ 31 by decide), ck_nI _ hb (show 4 < 2 ^ 31 by decide), cz_0, cz_1]
  split
  · split
    · split <;> exact ⟨_, rfl⟩
    · split <;> exact ⟨_, rfl⟩
  · split <;> exact ⟨_, rfl⟩
/-- any order: the reference's insertion ends -/
theorem s_sortsA {h : AH} {N : Nat} (hN : N ≤ 4) (eN : h.1 0 15 = nI N) : ∃ h', X11_sorts h = some ((), h') ∧ FO22 h h' := by
  have inner : ∀ (m : Nat) (K : Int32 → AH → Option (Unit × AH)), m < 4 → ∀ (f q : Nat) (g : AH), q < f → q ≤ m → FO22 h g → (∀ x, x ≤ m → x ≠ q → ∃ j, j < 4 ∧ g.1 22 x = nI j) → ∃ g', X11_sorts_l12 (nI m) K f (nI q) g = K (nI (m + 1)) g' ∧ FO22 h g' ∧ ∀ x, x ≤ m → ∃ j, j < 4 ∧ g'.1 22 x = nI j := by
    intro m K hm f
    induction f with
    | zero => intro q g h1; omega
    | succ f ih =>
      intro q g h1 h2 hF hO
      have fin : X11_sorts_j52 (nI m) (nI q) K g = K (nI (m + 1)) (sI g 22 q (nI m)) ∧ FO22 h (sI g 22 q (nI m)) ∧ ∀ x, x ≤ m → ∃ j, j < 4 ∧ (sI g 22 q (nI m)).1 22 x = nI j := by
        unfold X11_sorts_j52
        rw [ck_nI _ (by omega) (by decide), vl_e, vl_e, nI_1, nI_clamp (by omega)]
        refine ⟨rfl, ⟨fun o k ho => by rw [sI_n (by omega)]; exact hF.1 o k ho, hF.2⟩, fun x hx => ?_⟩
        rw [sI_at]
        by_cases y : x = q
        · rw [if_pos ⟨rfl, y⟩]; exact ⟨m, hm, rfl⟩
        · rw [if_neg (fun z => y z.2)]; exact hO x hx y
      rw [X11_sorts_l12.eq_2]
      by_cases z : q = 0
      · subst z
        rw [if_pos (show nI 0 ≤ 0 by decide)]
        exact ⟨_, fin⟩
      · have e1 : nI q - 1 = nI (q - 1) := pk_sub (a := q) (b := 1) (by omega)
        obtain ⟨j, hj, ej⟩ := hO (q - 1) (by omega) (by omega)
        obtain ⟨x, ex⟩ := s_isAheadA (h := g) hm hj
        rw [if_neg (nI_nle (by omega) (by omega)), e1, ck_nI _ (by omega) (by decide), nI_clamp (by omega), ej, ex, bd_s]
        by_cases y : x = 0
        · rw [if_pos y]
          exact ⟨_, fin⟩
        · rw [if_neg y, ck_nI _ (by omega) (by decide), ck_nI _ (by omega) (by decide), nI_clamp (by omega), vl_e, vl_e, m_one, pk_sub (by omega)]
          refine ih (q - 1) _ (by omega) (by omega) ⟨fun o k ho => by rw [sI_n (by omega)]; exact hF.1 o k ho, hF.2⟩ (fun x hx hq => ?_)
          rw [sI_at]
          by_cases u : x = q
          · rw [if_pos ⟨rfl, u⟩]; exact ⟨j, hj, ej⟩
          · rw [if_neg (fun z => u z.2)]; exact hO x hx u
  have outer : ∀ (f m : Nat) (g : AH), N < m + f → m ≤ N → FO22 h g → (∀ x, x < m → ∃ j, j < 4 ∧ g.1 22 x = nI j) → ∃ g', X11_sorts_l2 f (nI m) g = some ((), g') ∧ FO22 h g' := by
    intro f
    induction f with
    | zero => intro m g h1 h2; omega
    | succ f ih =>
      intro m g h1 h2 hF hO
      rw [X11_sorts_l2.eq_2, hF.1 0 15 (by decide), eN]
      by_cases z : m = N
      · rw [if_pos (nI_le (by omega) (by omega))]
        exact ⟨g, rfl, hF⟩
      · rw [if_neg (nI_ge (by omega) (by omega))]
        obtain ⟨g', a1, a2, a3⟩ := inner m (X11_sorts_l2 f) (by omega) FU m g (by unfold FU; omega) (Nat.le_refl _) hF (fun x hx hq => hO x (by omega))
        rw [a1]
        exact ih (m + 1) g' (by omega) (by omega) a2 (fun x hx => a3 x (by omega))
  exact outer FU 0 h (by unfold FU; omega) (Nat.zero_le _) ⟨fun _ _ _ => rfl, rfl⟩ (fun x hx => absurd hx (by omega))
theorem o_ranks {c r : AH} {a1 : Int32} (I : Inv c r) : SimA (X10_ranks a1 c) (X11_ranks a1 r) Inv := by
  obtain ⟨⟨S, G, N, T, M⟩, hW, hL, hRow, hRF, hIM⟩ := id I
  have hN := M.1.2.2.2.2.2.2.1
  have h24 := T24 M
  unfold X10_ranks X11_ranks
  rw [s_noSuch, s_isIn, bd_s, bd_s]
  by_cases h0 : a1 < 0 ∨ 2 < a1
  · rw [if_pos h0, if_pos h0, i_2, i_0]
    obtain ⟨v, c2, r2, e1, e2, e3⟩ := rfs (x := -2) I (by decide)
    exact ⟨v, c2, v, r2, e1, e2, e3⟩
  · rw [if_neg h0, if_neg h0, i_0, i_10]
    obtain ⟨c', B, b1, b2, b3, b4⟩ := m_rankA M (by decide) a1 (n := T) (by omega)
    obtain ⟨ra, d1, d2, d3⟩ := s_bestR (h := r) (n := T) a1 (by omega) (w := wR r) (fun t ht => ⟨by have := (RT_w M.1 (t := t) (by omega)).1; omega, (RT_w M.1 (by omega)).2⟩)
    obtain ⟨rb, f1, f2⟩ := s_sortsA (h := ra) hN (by rw [d3.1 0 15 (by decide) (by decide)]; exact M.1.2.2.1)
    have F := (FT.B d3).tr (FT.O f2)
    have e15 : rb.1 0 15 = nI N := by rw [F.1 0 15 (by decide) (by decide) (by decide)]; exact M.1.2.2.1
    have e3 : c'.1 42 3 = nI N := by rw [b3.1 42 3 (by decide) (by decide) (by decide)]; exact M.2.1.2.2.2.1
    have lC : ∀ (f k : Nat) (x : Int32), k < f → k ≤ 4 → ∃ v, X10_ranks_l48 f x (nI k - nI 1) c' = some (v, c') := by
      intro f
      induction f with
      | zero => intro k x h1; omega
      | succ f ih =>
        intro k x h1 h2
        rw [X10_ranks_l48.eq_2]
        by_cases z : k = 0
        · subst z
          rw [if_pos (show nI 0 - nI 1 < 0 by decide)]
          exact ⟨_, rfl⟩
        · obtain ⟨v, ev⟩ := s_atA hN b4 (nI (k - 1))
          rw [pk_sub (by omega), if_neg (nI_pos (by omega)), ev, bd_s, vl_e, vl_e, m_one]
          exact ih (k - 1) _ (by omega) (by omega)
    have lR : ∀ (f k : Nat) (x : Int32), k < f → k ≤ 4 → ∃ v, X11_ranks_l38 f x (nI k - nI 1) rb = some (v, rb) := by
      intro f
      induction f with
      | zero => intro k x h1; omega
      | succ f ih =>
        intro k x h1 h2
        rw [X11_ranks_l38.eq_2]
        by_cases z : k = 0
        · subst z
          rw [if_pos (show nI 0 - nI 1 < 0 by decide)]
          exact ⟨_, rfl⟩
        · rw [pk_sub (by omega), if_neg (nI_pos (by omega)), ck_nI _ (by omega) (by decide), vl_e, vl_e, m_one]
          exact ih (k - 1) _ (by omega) (by omega)
    obtain ⟨v, ev⟩ := lC FU N 0 (by unfold FU; omega) hN
    obtain ⟨u, eu⟩ := lR FU N 0 (by unfold FU; omega) hN
    refine ⟨v, c', u, rb, ?_, ?_, Inv_f I (PC.FR b3) (fun _ _ _ => PR.FT F)⟩
    · rw [M.2.1.2.2.2.2, b1, bd_s, e3, vl_e]
      exact ev
    · rw [M.1.2.2.2.1, d1, bd_s, f1, bd_s, e15, vl_e]
      exact eu
/-- one LENGTH more for each of the first n -/
def fo (B : BB) (x : Nat → Int32) : Nat → BB
  | 0 => B
  | n + 1 => ad (fo B x n) n (x n)
theorem fo_bp {B : BB} {x : Nat → Int32} (h : BP B) : ∀ n, (∀ k, k < n → 0 ≤ (x k).toInt) → BP (fo B x n) := by
  intro n
  induction n with
  | zero => intro _; exact h
  | succ n ih => intro hx; exact bp_ad (ih (fun k hk => hx k (by omega))) (hx n (by omega))
theorem ad_eq {B B' : BB} {j i : Nat} {v : Int32} (h1 : B.1 i = B'.1 i) (h2 : B.2 i = B'.2 i) : (ad B j v).1 i = (ad B' j v).1 i ∧ (ad B j v).2 i = (ad B' j v).2 i := by
  unfold ad
  by_cases z : i = j
  · subst z
    simp only [if_true, h1, h2]
    exact ⟨trivial, trivial⟩
  · simp only [if_neg z, h1, h2]
    exact ⟨trivial, trivial⟩
theorem ad_ne {B : BB} {j i : Nat} {v : Int32} (h : i ≠ j) : (ad B j v).1 i = B.1 i ∧ (ad B j v).2 i = B.2 i := by
  unfold ad
  simp only [if_neg h]
  exact ⟨trivial, trivial⟩
theorem fo_at {B : BB} {x : Nat → Int32} (i : Nat) : ∀ n, (n ≤ i → (fo B x n).1 i = B.1 i ∧ (fo B x n).2 i = B.2 i) ∧ (i < n → (fo B x n).1 i = (ad B i (x i)).1 i ∧ (fo B x n).2 i = (ad B i (x i)).2 i) := by
  intro n
  induction n with
  | zero => exact ⟨fun _ => ⟨rfl, rfl⟩, fun h => absurd h (by omega)⟩
  | succ n ih =>
    constructor
    · intro h
      have a := ad_ne (B := fo B x n) (j := n) (v := x n) (show i ≠ n by omega)
      have b := ih.1 (by omega)
      exact ⟨a.1.trans b.1, a.2.trans b.2⟩
    · intro h
      by_cases e : i = n
      · subst e
        have b := ih.1 (Nat.le_refl _)
        exact ad_eq (j := i) (v := x i) b.1 b.2
      · have a := ad_ne (B := fo B x n) (j := n) (v := x n) e
        have b := ih.2 (by omega)
        exact ⟨a.1.trans b.1, a.2.trans b.2⟩
/-- one left out, and put in later -/
theorem fo_j {B : BB} {x y : Nat → Int32} {N j : Nat} (hB : BP B) (hj : j < N) (h0 : x j = 0) (h : ∀ k, k ≠ j → x k = y k) : ad (fo B x N) j (y j) = fo B y N := by
  have key : ∀ i, (ad (fo B x N) j (y j)).1 i = (fo B y N).1 i ∧ (ad (fo B x N) j (y j)).2 i = (fo B y N).2 i := by
    intro i
    by_cases e : i = j
    · subst e
      have a := (fo_at (B := B) (x := x) i N).2 hj
      rw [h0, ad_0 hB] at a
      have b := ad_eq (j := i) (v := y i) a.1 a.2
      have d := (fo_at (B := B) (x := y) i N).2 hj
      exact ⟨b.1.trans d.1.symm, b.2.trans d.2.symm⟩
    · have a := ad_ne (B := fo B x N) (j := j) (v := y j) e
      by_cases z : i < N
      · have b := (fo_at (B := B) (x := x) i N).2 z
        have d := (fo_at (B := B) (x := y) i N).2 z
        rw [h i e] at b
        exact ⟨a.1.trans (b.1.trans d.1.symm), a.2.trans (b.2.trans d.2.symm)⟩
      · have b := (fo_at (B := B) (x := x) i N).1 (by omega)
        have d := (fo_at (B := B) (x := y) i N).1 (by omega)
        exact ⟨a.1.trans (b.1.trans d.1.symm), a.2.trans (b.2.trans d.2.symm)⟩
  exact Prod.ext (funext fun i => (key i).1) (funext fun i => (key i).2)
section SF
variable {S G N T j : Nat} {c r : AH}
/-- the LENGTH from the BOARD's middle, nothing lost -/
def fl (r : AH) (k : Nat) : Int32 := lenS (r.1 2 k) (r.1 3 k) (r.1 7 k) (r.1 0 14) 0 0
theorem fl_nn (R : RN r S G N T) {k : Nat} (hk : k < 4) : 0 ≤ (fl r k).toInt := by
  obtain ⟨κ, f, a, g, s, p, l, m, hκ, hf, ha, hg, hs, hpp, hl, hm, e1, e2, e3, e4, e5, e6, e7, e8⟩ := R.2.2.2.2.2.2.2.2.2.1 k hk
  exact (len_b (kd := r.1 2 k) hf hpp e2 e6 R.2.2.2.2.2.2.2.2.1 (by decide) (by decide) (by decide) (by decide)).1
theorem s_full (M : MR 42 c r S G N T) {k : Nat} (hk : k < 4) : X10_fullLength (nI k) c = some (fl r k, c) := by
  have hc : ∀ q, 1 ≤ q → q ≤ 8 → c.1 (48 + k) q = r.1 (q + 1) k := (M.2.2.1 k hk).1
  have hK : JK c (48 + k) := (M.2.2.1 k hk).2
  unfold X10_fullLength fl
  rw [s_at42 hk, bd_s, cs_in _ (zc42 hk), s_lenC hK, bd_s, hc 1 (by omega) (by omega), hc 2 (by omega) (by omega), hc 6 (by omega) (by omega), M.2.1.2.1]
def fx (r : AH) (j : Nat) (v : Int32) (k : Nat) : Int32 := if k = j then v else fl r k
theorem fx_nn (R : RN r S G N T) {v : Int32} (hv : 0 ≤ v.toInt) {k : Nat} (hk : k < 4) : 0 ≤ (fx r j v k).toInt := by
  unfold fx
  by_cases z : k = j
  · rw [if_pos z]; exact hv
  · rw [if_neg z]; exact fl_nn R hk
/-- the class: all others add theirs -/
theorem l_safeC (M : MR 42 c r S G N T) (hj : j < N) : ∀ (f k : Nat) (h : AH), N < k + f → k ≤ N → FR c h → RKC h (fo (BR r T) (fx r j 0) k) → h.1 5 0 = nI N → ∃ h', X10_safe_l37 (nI j) f (nI k) h = (bd (X10_leastFor (nI j) (nI (min G N)) h') fun r7 h8 => some (r7, h8)) ∧ FR c h' ∧ RKC h' (fo (BR r T) (fx r j 0) N) ∧ h'.1 5 0 = nI N := by
  have hN := M.1.2.2.2.2.2.2.1
  have hG := M.1.2.2.2.2.2.1
  intro f
  induction f with
  | zero => intro k h h1 h2; omega
  | succ f ih =>
    intro k h h1 h2 F R e5
    have Mh := MR_c (T := T) (CA.FR (by decide) F) M
    rw [X10_safe_l37.eq_2, Mh.2.1.2.2.2.1]
    by_cases z : k = N
    · subst z
      rw [if_pos (Int32.le_refl _), s_finC Mh.2.1.2.2.2.1 Mh.2.1.2.2.1 hN hG.2, bd_s]
      exact ⟨h, rfl, F, R, e5⟩
    · rw [if_neg (nI_ge (by omega) (by omega))]
      unfold X10_safe_j66
      by_cases y : k = j
      · rw [if_pos (by rw [y]), vl_e, nI_1]
        refine ih (k + 1) h (by omega) (by omega) F ?_ e5
        have e : fo (BR r T) (fx r j 0) (k + 1) = fo (BR r T) (fx r j 0) k := by
          show ad (fo (BR r T) (fx r j 0) k) k (fx r j 0 k) = _
          have e0 : fx r j 0 k = 0 := if_pos y
          rw [e0]
          exact ad_0 (fo_bp (BR_p r T) k (fun i hi => fx_nn M.1 (by decide) (by omega)))
        rw [e]
        exact R
      · rw [if_neg (fun q => y ((nI_eq (by omega) (by omega)).mp q)), s_full Mh (by omega), bd_s]
        obtain ⟨h', a1, a2, a3, a4⟩ := s_add (by omega : k < 4) R (fl r k)
        rw [a1, bd_s, vl_e, nI_1]
        refine ih (k + 1) h' (by omega) (by omega) (F.tr a3) ?_ (by rw [a4]; exact e5)
        show RKC h' (ad (fo (BR r T) (fx r j 0) k) k (fx r j 0 k))
        have e0 : fx r j 0 k = fl r k := if_neg y
        rw [e0]
        exact a2
/-- the reference: each of all comes, the one asked for with v -/
theorem l_safeR (R0 : RN r S G N T) (hj : j < N) {v : Nat} (hv : v < 1000) (K : Int32 → AH → Option (Int32 × AH)) : ∀ (f k : Nat) (h : AH), N < k + f → k ≤ N → FT r h → RKR h (fo (BR r T) (fx r j (nI v)) k) → ∃ h', X11_safe_l34 (nI j) (nI v) K f (nI k) h = (if nI (min G N) ≤ nI (rk (fo (BR r T) (fx r j (nI v)) N) N j) then K (nI (v + 1)) h' else some (nI v, h')) ∧ FT r h' := by
  have hN := R0.2.2.2.2.2.2.1
  have hG := R0.2.2.2.2.2.1
  intro f
  induction f with
  | zero => intro k h h1 h2; omega
  | succ f ih =>
    intro k h h1 h2 F R
    have Rh := RN_c (RA.FT F) R0
    have hvi : 0 ≤ (nI v).toInt := by rw [toInt_nI (by omega)]; omega
    rw [X11_safe_l34.eq_2, Rh.2.2.1]
    by_cases z : k = N
    · subst z
      have bp : BP (fo (BR r T) (fx r j (nI v)) k) := fo_bp (BR_p r T) k (fun i hi => fx_nn R0 hvi (by omega))
      obtain ⟨h', b1, b2, b3⟩ := s_sorts hN Rh.2.2.1 bp R
      have F' := F.tr (FT.O b2)
      have Rh' := RN_c (RA.FT F') R0
      rw [if_pos (Int32.le_refl _), b1, bd_s, s_rankOf hN Rh'.2.2.1 bp b3 hj, bd_s, s_finR Rh'.2.2.1 Rh'.2.1 hN hG.2, bd_s, vl_e, nI_1]
      exact ⟨h', rfl, F'⟩
    · rw [if_neg (nI_ge (by omega) (by omega))]
      unfold X11_safe_j60
      have go : ∀ y, y = fx r j (nI v) k → ∃ h', (bd (X11_comesLength (nI k) y h) fun _ h15 => vl (nI k + 1) fun x16 => X11_safe_l34 (nI j) (nI v) K f x16 h15) = (if nI (min G N) ≤ nI (rk (fo (BR r T) (fx r j (nI v)) N) N j) then K (nI (v + 1)) h' else some (nI v, h')) ∧ FT r h' := by
        intro y hy
        obtain ⟨h', a1, a2, a3⟩ := s_cl (by omega : k < 4) R y
        rw [a1, bd_s, vl_e, nI_1]
        refine ih (k + 1) h' (by omega) (by omega) (F.tr (FT.B a3)) ?_
        show RKR h' (ad (fo (BR r T) (fx r j (nI v)) k) k (fx r j (nI v) k))
        rw [← hy]
        exact a2
      by_cases y : k = j
      · rw [if_pos (by rw [y])]
        exact go (nI v) (by unfold fx; rw [if_pos y])
      · rw [if_neg (fun q => y ((nI_eq (by omega) (by omega)).mp q)), s_lenR (by omega : k < 4), bd_s]
        refine go _ ?_
        unfold fx fl
        rw [if_neg y, F.1 2 k (by decide) (by decide) (by decide), F.1 3 k (by decide) (by decide) (by decide), F.1 7 k (by decide) (by decide) (by decide), F.1 0 14 (by decide) (by decide) (by decide)]
theorem l_safe (R0 : RN r S G N T) (hj : j < N) {c' : AH} (R : RKC c' (fo (BR r T) (fx r j 0) N)) (e5 : c'.1 5 0 = nI N) : ∀ (f v : Nat) (rt : AH), 1000 < v + f → v ≤ 1000 → FT r rt → ∃ x r', X10_leastFor_l2 (nI j) (nI (min G N)) f (nI v) c' = some (x, c') ∧ X11_safe_l16 (nI j) f (nI v) rt = some (x, r') ∧ FT r r' := by
  have hN := R0.2.2.2.2.2.2.1
  intro f
  induction f with
  | zero => intro v rt h1 h2; omega
  | succ f ih =>
    intro v rt h1 h2 q
    have Rt := RN_c (RA.FT q) R0
    rw [X10_leastFor_l2.eq_2, X11_safe_l16.eq_2]
    by_cases z : v = 1000
    · subst z
      rw [if_pos (show (999 : Int32) < nI 1000 by decide), if_pos (show (1000 : Int32) ≤ nI 1000 by decide)]
      exact ⟨_, rt, rfl, rfl, q⟩
    · have hv : 0 ≤ (nI v).toInt := by rw [toInt_nI (by omega)]; omega
      have bp : BP (fo (BR r T) (fx r j 0) N) := fo_bp (BR_p r T) N (fun i hi => fx_nn R0 (by decide) (by omega))
      obtain ⟨ra, a1, a2, a3⟩ := m_bestR Rt (Nat.le_refl T)
      rw [BR_c (RA.FT q) (Nat.le_refl T)] at a2
      rw [if_neg (show ¬ (999 : Int32) < nI v from nI_nlt (a := 999) (by omega) (by decide)), if_neg (show ¬ (1000 : Int32) ≤ nI v from nI_ge (b := 1000) (by omega) (by decide)), s_ahead hN hj bp hv R e5, bd_s, Rt.2.2.2.1, a1, bd_s]
      obtain ⟨rb, b1, b2⟩ := l_safeR R0 hj (v := v) (by omega) (X11_safe_l16 (nI j) f) FU 0 ra (by unfold FU; omega) (Nat.zero_le _) (q.tr (FT.B a3)) a2
      have b1 : X11_safe_l34 (nI j) (nI v) (X11_safe_l16 (nI j) f) FU 0 ra = _ := b1
      have ej : ad (fo (BR r T) (fx r j 0) N) j (nI v) = fo (BR r T) (fx r j (nI v)) N := by
        have h := fo_j (B := BR r T) (x := fx r j 0) (y := fx r j (nI v)) (BR_p r T) hj (by unfold fx; rw [if_pos rfl]) (fun k hk => by unfold fx; rw [if_neg hk, if_neg hk])
        have e : fx r j (nI v) j = nI v := if_pos rfl
        rw [e] at h
        exact h
      rw [b1, ej]
      by_cases y : nI (min G N) ≤ nI (rk (fo (BR r T) (fx r j (nI v)) N) N j)
      · rw [if_pos y, if_pos y, vl_e, nI_1]
        exact ih (v + 1) rb (by omega) (by omega) b2
      · rw [if_neg y, if_neg y]
        exact ⟨_, rb, rfl, rfl, b2⟩
end SF
theorem o_safe {c r : AH} {a1 : Int32} (I : Inv c r) : SimE (X10_safe a1 c) (X11_safe a1 r) Inv := by
  obtain ⟨⟨S, G, N, T, M⟩, hW, hL, hRow, hRF, hIM⟩ := id I
  have hN := M.1.2.2.2.2.2.2.1
  have hG := M.1.2.2.2.2.2.1
  have h24 := T24 M
  unfold X10_safe X11_safe
  rcases jm a1 hN with hz | ⟨j, hj, rfl⟩
  · rw [nb_n M.2.1.2.2.2.1 hz, bd_s, ij_n M.1.2.2.1 hz, bd_s, i_0, i_1]
    exact rfs (x := -1) I (by decide)
  · rw [nb_y M.2.1.2.2.2.1 hN hj, bd_s, ij_y M.1.2.2.1 hN hj, bd_s, i_10, i_0]
    obtain ⟨c', b1, b2, b3, b4⟩ := m_rankC M (by decide) (n := T) (by omega)
    rw [Nat.min_self] at b2
    obtain ⟨c2, d1, d2, d3, d4⟩ := l_safeC M hj FU 0 c' (by unfold FU; omega) (Nat.zero_le _) b3 b2 b4
    have d1 : X10_safe_l37 (nI j) FU 0 c' = _ := d1
    rw [M.2.1.2.2.2.2, b1, bd_s, d1, bd_id]
    obtain ⟨x, r', e1, e2, q⟩ := l_safe M.1 hj d3 d4 FU 0 r (by unfold FU; omega) (by omega) FT.rf
    exact SimE.mk' e1 e2 rfl (Inv_f I (PC.FR d2) (fun _ _ _ => PR.FT q))
