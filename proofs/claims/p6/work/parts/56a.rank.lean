/-! RANKS: the longest and the second of each, the order -/
abbrev BB : Type := (Nat → Int32) × (Nat → Int32)
def ad (B : BB) (j : Nat) (v : Int32) : BB := (fun i => if i = j then (if B.1 j < v then v else B.1 j) else B.1 i, fun i => if i = j then (if B.1 j < v then B.1 j else if B.2 j < v then v else B.2 j) else B.2 i)
def bst (w : Nat → Nat) (f : Nat → Int32) : Nat → BB
  | 0 => (fun _ => 0, fun _ => 0)
  | n + 1 => ad (bst w f n) (w n) (f n)
def BP (B : BB) : Prop := ∀ j, 0 ≤ (B.2 j).toInt ∧ (B.2 j).toInt ≤ (B.1 j).toInt
theorem bp_ad {B : BB} {j : Nat} {v : Int32} (h : BP B) (hv : 0 ≤ v.toInt) : BP (ad B j v) := by
  intro i
  have h1 := h i
  have h2 := h j
  unfold ad
  show 0 ≤ (if i = j then (if B.1 j < v then B.1 j else if B.2 j < v then v else B.2 j) else B.2 i).toInt ∧ (if i = j then (if B.1 j < v then B.1 j else if B.2 j < v then v else B.2 j) else B.2 i).toInt ≤ (if i = j then (if B.1 j < v then v else B.1 j) else B.1 i).toInt
  by_cases c : i = j
  · rw [if_pos c, if_pos c]
    by_cases d : B.1 j < v
    · rw [if_pos d, if_pos d]
      rw [fa_lt] at d
      omega
    · rw [if_neg d, if_neg d]
      rw [fa_lt] at d
      by_cases e : B.2 j < v
      · rw [if_pos e]
        omega
      · rw [if_neg e]
        omega
  · rw [if_neg c, if_neg c]
    exact h1
theorem bp_bst {w : Nat → Nat} {f : Nat → Int32} : ∀ n, (∀ t, t < n → 0 ≤ (f t).toInt) → BP (bst w f n)
  | 0, _ => fun j => ⟨Int.le_refl 0, Int.le_refl 0⟩
  | n + 1, h => bp_ad (bp_bst n (fun t ht => h t (by omega))) (h n (by omega))
theorem bst_c {w w' : Nat → Nat} {f f' : Nat → Int32} : ∀ n, (∀ t, t < n → w t = w' t ∧ f t = f' t) → bst w f n = bst w' f' n
  | 0, _ => rfl
  | n + 1, h => by
    show ad (bst w f n) (w n) (f n) = ad (bst w' f' n) (w' n) (f' n)
    rw [bst_c n (fun t ht => h t (by omega)), (h n (by omega)).1, (h n (by omega)).2]
/-- the place in the ranks -/
def ky (B : BB) (j : Nat) : Int := (B.1 j).toInt * 1099511627776 + (B.2 j).toInt * 8 + (3 - (j : Int))
def cN (p : Nat → Bool) : Nat → Nat
  | 0 => 0
  | n + 1 => cN p n + if p n then 1 else 0
theorem cN_le (p : Nat → Bool) : ∀ n, cN p n ≤ n
  | 0 => Nat.le_refl 0
  | n + 1 => by
    have := cN_le p n
    show cN p n + (if p n then 1 else 0) ≤ n + 1
    split <;> omega
theorem cN_mono {p q : Nat → Bool} : ∀ n, (∀ k, k < n → p k = true → q k = true) → cN p n ≤ cN q n
  | 0, _ => Nat.le_refl 0
  | n + 1, h => by
    have h1 := cN_mono n (fun k hk => h k (by omega))
    have h2 := h n (by omega)
    show cN p n + (if p n then 1 else 0) ≤ cN q n + (if q n then 1 else 0)
    by_cases c : p n = true
    · rw [if_pos c, if_pos (h2 c)]
      omega
    · rw [if_neg c]
      omega
theorem cN_lt {p q : Nat → Bool} : ∀ n, (∀ k, k < n → p k = true → q k = true) → (∃ k, k < n ∧ q k = true ∧ p k = false) → cN p n < cN q n
  | 0, _, ⟨k, hk, _⟩ => absurd hk (by omega)
  | n + 1, h, ⟨k, hk, h1, h2⟩ => by
    show cN p n + (if p n then 1 else 0) < cN q n + (if q n then 1 else 0)
    by_cases c : k = n
    · subst c
      rw [if_pos h1, if_neg (by rw [h2]; decide)]
      have := cN_mono (p := p) (q := q) k (fun i hi => h i (by omega))
      omega
    · have h3 := cN_lt n (fun i hi => h i (by omega)) ⟨k, by omega, h1, h2⟩
      by_cases d : p n = true
      · rw [if_pos d, if_pos (h n (by omega) d)]
        omega
      · rw [if_neg d]
        omega
theorem cN_c {p q : Nat → Bool} : ∀ n, (∀ k, k < n → p k = q k) → cN p n = cN q n
  | 0, _ => rfl
  | n + 1, h => by
    show cN p n + (if p n then 1 else 0) = cN q n + (if q n then 1 else 0)
    rw [cN_c n (fun k hk => h k (by omega)), h n (by omega)]
def rk (B : BB) (n j : Nat) : Nat := cN (fun k => decide (ky B j < ky B k)) n
theorem ky_ne {B : BB} {i j : Nat} (hi : i < 4) (hj : j < 4) (h : BP B) (e : i ≠ j) : ky B i ≠ ky B j := by
  intro z
  unfold ky at z
  have h1 := h i
  have h2 := h j
  have r1 := fb_rng (B.1 i)
  have r2 := fb_rng (B.1 j)
  omega
theorem rk_lt {B : BB} {n j : Nat} (hj : j < n) : rk B n j < n := by
  have h := cN_lt (p := fun k => decide (ky B j < ky B k)) (q := fun _ => true) n (fun _ _ _ => rfl) ⟨j, hj, rfl, by simp⟩
  have : ∀ m, cN (fun _ => true) m = m := by
    intro m
    induction m with
    | zero => rfl
    | succ m ih =>
      show cN (fun _ => true) m + 1 = m + 1
      rw [ih]
  have e := this n
  unfold rk
  omega
theorem rk_ord {B : BB} {n i j : Nat} (hj : j < n) (h : ky B i < ky B j) : rk B n j < rk B n i := by
  refine cN_lt n (fun k _ hk => ?_) ⟨j, hj, by simpa using h, by simp⟩
  have := of_decide_eq_true hk
  exact decide_eq_true (by omega)
theorem rk_inj {B : BB} {n i j : Nat} (hn : n ≤ 4) (hi : i < n) (hj : j < n) (h : BP B) (e : rk B n i = rk B n j) : i = j := by
  by_cases c : i = j
  · exact c
  · exfalso
    have := ky_ne (B := B) (by omega : i < 4) (by omega : j < 4) h c
    rcases Int.lt_or_gt_of_ne this with z | z
    · have := rk_ord (n := n) hj z
      omega
    · have := rk_ord (n := n) hi z
      omega
theorem rk_onto {B : BB} {n p : Nat} (hn : n ≤ 4) (h : BP B) (hp : p < n) : ∃ j, j < n ∧ rk B n j = p :=
  fb_onto (f := fun j => rk B n j) (fun i hi => rk_lt hi) (fun i j hij hj z => by have := rk_inj hn (by omega) hj h z; omega) hp
/-! the class -/
def RKC (h : AH) (B : BB) : Prop := ∀ i, i < 4 → h.1 6 i = B.1 i ∧ h.1 7 i = B.2 i
def FR (h h' : AH) : Prop := (∀ o k, o ≠ 5 → o ≠ 6 → o ≠ 7 → h'.1 o k = h.1 o k) ∧ h'.2 = h.2
theorem FR.rf {h : AH} : FR h h := ⟨fun _ _ _ _ _ => rfl, rfl⟩
theorem FR.tr {h h' h2 : AH} (a : FR h h') (b : FR h' h2) : FR h h2 := ⟨fun o k h1 h2 h3 => (b.1 o k h1 h2 h3).trans (a.1 o k h1 h2 h3), b.2.trans a.2⟩
theorem s_add {h : AH} {B : BB} {j : Nat} (hj : j < 4) (R : RKC h B) (v : Int32) : ∃ h', X6_add (nI j) v h = some ((), h') ∧ RKC h' (ad B j v) ∧ FR h h' ∧ h'.1 5 0 = h.1 5 0 := by
  unfold X6_add
  rw [if_neg (nI_pos (by omega)), if_pos (show nI j < 4 from nI_lt (b := 4) hj (by decide)), ck_nI _ hj (by decide), nI_clamp (by omega), (R j hj).1, (R j hj).2]
  by_cases c : B.1 j < v
  · have c2 : ¬ v ≤ B.1 j := Int32.not_le.mpr c
    rw [if_neg c2, ck_nI _ hj (by decide), ck_nI _ hj (by decide), vl_e, ck_nI _ hj (by decide), vl_e]
    refine ⟨_, rfl, fun i hi => ?_, ⟨fun o k h1 h2 h3 => ?_, rfl⟩, ?_⟩
    · rw [sI_at, sI_at, sI_at, sI_at]
      show _ = (if i = j then (if B.1 j < v then v else B.1 j) else B.1 i) ∧ _ = (if i = j then (if B.1 j < v then B.1 j else if B.2 j < v then v else B.2 j) else B.2 i)
      by_cases d : i = j
      · rw [if_pos d, if_pos d, if_pos c, if_pos c, if_pos ⟨rfl, d⟩, if_neg (by omega), if_pos ⟨rfl, d⟩]
        exact ⟨rfl, rfl⟩
      · rw [if_neg d, if_neg d, if_neg (by omega), if_neg (by omega), if_neg (by omega), if_neg (by omega)]
        exact R i hi
    · rw [sI_at, if_neg (by omega), sI_at, if_neg (by omega)]
    · rw [sI_at, if_neg (by omega), sI_at, if_neg (by omega)]
  · have c2 : v ≤ B.1 j := Int32.not_lt.mp c
    rw [if_pos c2, ck_nI _ hj (by decide)]
    by_cases e : B.2 j < v
    · have e2 : ¬ v ≤ B.2 j := Int32.not_le.mpr e
      rw [if_neg e2, ck_nI _ hj (by decide), vl_e]
      refine ⟨_, rfl, fun i hi => ?_, ⟨fun o k h1 h2 h3 => ?_, rfl⟩, ?_⟩
      · rw [sI_at, sI_at]
        show _ = (if i = j then (if B.1 j < v then v else B.1 j) else B.1 i) ∧ _ = (if i = j then (if B.1 j < v then B.1 j else if B.2 j < v then v else B.2 j) else B.2 i)
        by_cases d : i = j
        · rw [if_pos d, if_pos d, if_neg c, if_neg c, if_pos e, if_neg (by omega), if_pos ⟨rfl, d⟩, d]
          exact ⟨(R j hj).1, rfl⟩
        · rw [if_neg d, if_neg d, if_neg (by omega), if_neg (by omega)]
          exact R i hi
      · rw [sI_at, if_neg (by omega)]
      · rw [sI_at, if_neg (by omega)]
    · have e2 : v ≤ B.2 j := Int32.not_lt.mp e
      rw [if_pos e2]
      refine ⟨_, rfl, fun i hi => ?_, FR.rf, rfl⟩
      show _ = (if i = j then (if B.1 j < v then v else B.1 j) else B.1 i) ∧ _ = (if i = j then (if B.1 j < v then B.1 j else if B.2 j < v then v else B.2 j) else B.2 i)
      by_cases d : i = j
      · rw [if_pos d, if_pos d, if_neg c, if_neg c, if_neg e, d]
        exact R j hj
      · rw [if_neg d, if_neg d]
        exact R i hi
/-- the LENGTH of a try by a law, as the class says it -/
def lby (h : AH) (o : Nat) (law : Int32) (t : Nat) : Int32 :=
  if 0 ≤ h.1 (o + 4) t then (if law = 1 then h.1 (o + 4) t + h.1 (o + 3) t else h.1 (o + 4) t) else if law = 2 then (if h.1 (o + 4) t = -9 then h.1 (o + 5) t else 0) else 0
theorem s_lby {h : AH} {o t : Nat} (law : Int32) (ht : t < 24) : X5_lengthBy o law (nI t) h = some (lby h o law t, h) := by
  unfold X5_lengthBy lby
  rw [ck_nI _ ht (by decide), ck_nI _ ht (by decide), ck_nI _ ht (by decide), ck_nI _ ht (by decide), ck_nI _ ht (by decide), ck_nI _ ht (by decide), nI_clamp (by omega)]
  repeat (first | rfl | split)
theorem lby_0 (h : AH) (o t : Nat) : lby h o 0 t = clp (h.1 (o + 4) t) := by
  unfold lby clp
  rw [if_neg (show ¬ (0 : Int32) = 1 by decide), if_neg (show ¬ (0 : Int32) = 2 by decide)]
theorem s_rankL {g : AH} {o n T : Nat} {law : Int32} (ho : 42 ≤ o) {w : Nat → Nat} (hT : T ≤ 24) (hn : n < 100) (eT : g.1 o 4 = nI T) (hw : ∀ t, t < T → w t < 4 ∧ g.1 (o + 2) t = nI (w t)) : ∀ (f t : Nat) (h : AH), n + T < t + f → t ≤ n → t ≤ T → FR g h → RKC h (bst w (lby g o law) t) → ∃ h', X5_rank_l11 o law (nI n) f (nI t) h = some ((), h') ∧ RKC h' (bst w (lby g o law) (min n T)) ∧ FR g h' ∧ h'.1 5 0 = h.1 5 0 := by
  intro f
  induction f with
  | zero => intro t h h1 h2; omega
  | succ f ih =>
    intro t h h1 h2 h3 F R
    rw [X5_rank_l11.eq_2]
    by_cases c : t = n
    · subst c
      rw [if_pos (Int32.le_refl _), Nat.min_eq_left h3]
      exact ⟨h, rfl, R, F, rfl⟩
    · rw [if_neg (nI_ge (by omega) (by omega)), F.1 o 4 (by omega) (by omega) (by omega), eT]
      by_cases d : t = T
      · subst d
        rw [if_pos (Int32.le_refl _), Nat.min_eq_right h2]
        exact ⟨h, rfl, R, F, rfl⟩
      · have hw1 := hw t (by omega)
        have el : lby h o law t = lby g o law t := by
          unfold lby
          rw [F.1 (o + 4) t (by omega) (by omega) (by omega), F.1 (o + 3) t (by omega) (by omega) (by omega), F.1 (o + 5) t (by omega) (by omega) (by omega)]
        rw [if_neg (nI_ge (by omega) (by omega)), ck_nI _ (by omega) (by decide), s_lby law (by omega), bd_s, nI_clamp (by omega), F.1 (o + 2) t (by omega) (by omega) (by omega), hw1.2, el]
        obtain ⟨h1', a1, a2, a3, a4⟩ := s_add hw1.1 R (lby g o law t)
        rw [a1, bd_s, vl_e, nI_1]
        obtain ⟨h2', b1, b2, b3, b4⟩ := ih (t + 1) h1' (by omega) (by omega) (by omega) (F.tr a3) a2
        exact ⟨h2', b1, b2, b3, b4.trans a4⟩
theorem s_rankC {h : AH} {o n N T : Nat} (law : Int32) (ho : 42 ≤ o) {w : Nat → Nat} (hT : T ≤ 24) (hn : n < 100) (hN : N ≤ 4) (eN : h.1 o 3 = nI N) (eT : h.1 o 4 = nI T) (hw : ∀ t, t < T → w t < 4 ∧ h.1 (o + 2) t = nI (w t)) : ∃ h', X5_rank o law (nI n) h = some ((), h') ∧ RKC h' (bst w (lby h o law) (min n T)) ∧ FR h h' ∧ h'.1 5 0 = nI N := by
  unfold X5_rank
  have e5 : mx32 0 (mn32 4 (nI N)) = nI N := by
    have e1 : mn32 4 (nI N) = nI N := by
      unfold mn32
      by_cases c : nI N < 4
      · rw [if_pos c]
      · rw [if_neg c]
        have : N = 4 := by
          have := Int32.not_lt.mp c
          have := (nI_leI (a := 4) (b := N) (by decide) (by omega)).mp this
          omega
        rw [this]; rfl
    rw [e1]
    unfold mx32
    by_cases c : 0 < nI N
    · rw [if_pos c]
    · rw [if_neg c]
      have : N = 0 := by
        have := Int32.not_lt.mp c
        have := (nI_leI (a := N) (b := 0) (by omega) (by decide)).mp this
        omega
      rw [this]; rfl
  rw [eN, s_start, bd_s, e5]
  have F0 : FR h (rk0 h (nI N)) := ⟨fun o k h1 h2 h3 => rk0_at _ _ _ _ ⟨h1, h2, h3⟩, rfl⟩
  have R0 : RKC (rk0 h (nI N)) (bst w (lby h o law) 0) := fun i hi => by
    show (if 6 = 7 ∧ i < 4 then (0 : Int32) else if 6 = 6 ∧ i < 4 then 0 else if 6 = 5 ∧ i = 0 then nI N else h.1 6 i) = 0 ∧ (if 7 = 7 ∧ i < 4 then (0 : Int32) else if 7 = 6 ∧ i < 4 then 0 else if 7 = 5 ∧ i = 0 then nI N else h.1 7 i) = 0
    rw [if_neg (by omega), if_pos ⟨rfl, hi⟩, if_pos ⟨rfl, hi⟩]
    exact ⟨rfl, rfl⟩
  obtain ⟨h', a1, a2, a3, a4⟩ := s_rankL (law := law) ho hT hn eT hw FU 0 (rk0 h (nI N)) (by unfold FU; omega) (by omega) (by omega) F0 R0
  refine ⟨h', a1, a2, a3, a4.trans ?_⟩
  show (if 5 = 7 ∧ 0 < 4 then (0 : Int32) else if 5 = 6 ∧ 0 < 4 then 0 else if 5 = 5 ∧ 0 = 0 then nI N else h.1 5 0) = nI N
  rw [if_neg (by omega), if_neg (by omega), if_pos ⟨rfl, rfl⟩]
/-- is k ahead of one with these two numbers, at place i -/
def fst' (B : BB) (own ownS : Int32) (i k : Nat) : Bool := decide (k ≠ i) && (if B.1 k = own then (if B.2 k = ownS then decide (k < i) else decide (ownS < B.2 k)) else decide (own < B.1 k))
theorem s_aheadL {h : AH} {B : BB} {N i : Nat} {own ownS : Int32} (hN : N ≤ 4) (hi : i < 4) (R : RKC h B) (e5 : h.1 5 0 = nI N) : ∀ (f k : Nat), N < k + f → k ≤ N → X6_ahead_l55 (nI i) own ownS f (nI (cN (fst' B own ownS i) k)) (nI k) h = some (nI (cN (fst' B own ownS i) N), h) := by
  intro f
  induction f with
  | zero => intro k h1 h2; omega
  | succ f ih =>
    intro k h1 h2
    rw [X6_ahead_l55.eq_2, e5]
    by_cases c : k = N
    · subst c
      rw [if_pos (Int32.le_refl _)]
    · have nx := ih (k + 1) (by omega) (by omega)
      have hk : k < 4 := by omega
      rw [if_neg (nI_ge (by omega) (by omega)), ck_nI _ hk (by decide), ck_nI _ hk (by decide), ck_nI _ hk (by decide), ck_nI _ hk (by decide), nI_clamp (by omega), (R k hk).1, (R k hk).2]
      have t0 : fst' B own ownS i k = false → X6_ahead_j156 (nI i) own ownS (nI k) (X6_ahead_l55 (nI i) own ownS f) (nI (cN (fst' B own ownS i) k)) h = some (nI (cN (fst' B own ownS i) N), h) := by
        intro e
        unfold X6_ahead_j156 X6_ahead_j157
        rw [vl_e, vl_e, nI_1, Int32.add_zero]
        have e2 : cN (fst' B own ownS i) (k + 1) = cN (fst' B own ownS i) k := by
          show cN (fst' B own ownS i) k + (if fst' B own ownS i k then 1 else 0) = _
          rw [e]; rfl
        rw [e2] at nx
        exact nx
      have t1 : fst' B own ownS i k = true → X6_ahead_j157 (nI i) own ownS (nI k) (X6_ahead_l55 (nI i) own ownS f) 1 (nI (cN (fst' B own ownS i) k)) h = some (nI (cN (fst' B own ownS i) N), h) := by
        intro e
        unfold X6_ahead_j157
        rw [vl_e, vl_e, nI_1, nI_1]
        have e2 : cN (fst' B own ownS i) (k + 1) = cN (fst' B own ownS i) k + 1 := by
          show cN (fst' B own ownS i) k + (if fst' B own ownS i k then 1 else 0) = _
          rw [e]; rfl
        rw [e2] at nx
        exact nx
      have mid : ∀ (b : Bool) (s0 : Int32), (if b then (1 : Int32) else 0) = s0 → (decide (k ≠ i) && b) = fst' B own ownS i k → X6_ahead_j137 (nI i) own ownS (nI (cN (fst' B own ownS i) k)) (nI k) (X6_ahead_l55 (nI i) own ownS f) s0 h = some (nI (cN (fst' B own ownS i) N), h) := by
        intro b s0 hs hb
        unfold X6_ahead_j137
        by_cases d : k = i
        · rw [if_pos (show nI k = nI i by rw [d])]
          exact t0 (by rw [← hb, d]; simp)
        · rw [if_neg (fun z => d ((nI_eq (by omega) (by omega)).mp z))]
          cases b with
          | false =>
            rw [← hs, if_pos (by rfl)]
            exact t0 (by rw [← hb]; simp)
          | true =>
            rw [← hs, if_neg (by decide)]
            exact t1 (by rw [← hb]; simp [d])
      have eF : fst' B own ownS i k = (decide (k ≠ i) && (if B.1 k = own then (if B.2 k = ownS then decide (k < i) else decide (ownS < B.2 k)) else decide (own < B.1 k))) := rfl
      by_cases d1 : B.1 k = own
      · rw [if_pos d1]
        rw [if_pos d1] at eF
        by_cases d2 : B.2 k = ownS
        · rw [if_pos d2]
          rw [if_pos d2] at eF
          by_cases d3 : k < i
          · rw [if_neg (nI_ge d3 (by omega))]
            exact mid true 1 rfl (by rw [eF]; simp [d3])
          · rw [if_pos (nI_le (by omega) (by omega))]
            exact mid false 0 rfl (by rw [eF]; simp [d3])
        · rw [if_neg d2]
          rw [if_neg d2] at eF
          by_cases d3 : ownS < B.2 k
          · rw [if_neg (Int32.not_le.mpr d3)]
            exact mid true 1 rfl (by rw [eF]; simp [d3])
          · rw [if_pos (Int32.not_lt.mp d3)]
            exact mid false 0 rfl (by rw [eF, decide_eq_false d3])
      · rw [if_neg d1]
        rw [if_neg d1] at eF
        by_cases d3 : own < B.1 k
        · rw [if_neg (Int32.not_le.mpr d3)]
          exact mid true 1 rfl (by rw [eF]; simp [d3])
        · rw [if_pos (Int32.not_lt.mp d3)]
          exact mid false 0 rfl (by rw [eF, decide_eq_false d3])
/-- one more LENGTH, as the class looks at it -/
theorem s_ahead {h : AH} {B : BB} {N i : Nat} {v : Int32} (hN : N ≤ 4) (hi : i < N) (hB : BP B) (hv : 0 ≤ v.toInt) (R : RKC h B) (e5 : h.1 5 0 = nI N) : X6_ahead (nI i) v h = some (nI (rk (ad B i v) N i), h) := by
  have hi4 : i < 4 := by omega
  unfold X6_ahead
  rw [if_neg (nI_pos (by omega)), e5, if_pos (nI_lt hi (by omega)), ck_nI _ hi4 (by decide), vl_e, ck_nI _ hi4 (by decide), ck_nI _ hi4 (by decide), vl_e, nI_clamp (by omega), (R i hi4).1, (R i hi4).2]
  have own1 : mx32 (B.1 i) v = (ad B i v).1 i := by
    show _ = if i = i then (if B.1 i < v then v else B.1 i) else B.1 i
    rw [if_pos rfl]
    rfl
  have own2 : mx32 (B.2 i) (mn32 (B.1 i) v) = (ad B i v).2 i := by
    show _ = if i = i then (if B.1 i < v then B.1 i else if B.2 i < v then v else B.2 i) else B.2 i
    rw [if_pos rfl]
    have hb := hB i
    unfold mx32 mn32
    by_cases c : B.1 i < v
    · rw [if_pos c, if_neg (show ¬ v < B.1 i by rw [fa_lt] at c ⊢; omega)]
      by_cases d : B.2 i < B.1 i
      · rw [if_pos d]
      · rw [if_neg d]
        rw [fa_lt] at d
        rw [fa_eq]
        omega
    · rw [if_neg c]
      by_cases d : v < B.1 i
      · rw [if_pos d]
      · rw [if_neg d]
        have e : B.1 i = v := by
          rw [fa_lt] at c d
          rw [fa_eq]
          omega
        rw [e]
  rw [own1, own2]
  have key := s_aheadL (own := (ad B i v).1 i) (ownS := (ad B i v).2 i) hN hi4 R e5 FU 0 (by unfold FU; omega) (by omega)
  have key : X6_ahead_l55 (nI i) ((ad B i v).1 i) ((ad B i v).2 i) FU 0 0 h = some (nI (cN (fst' B ((ad B i v).1 i) ((ad B i v).2 i) i) N), h) := key
  rw [key]
  have e : cN (fst' B ((ad B i v).1 i) ((ad B i v).2 i) i) N = rk (ad B i v) N i := by
    refine cN_c N (fun k hk => ?_)
    have hA := bp_ad (j := i) hB hv
    by_cases c : k = i
    · subst c
      unfold fst'
      simp
    · have e1 : (ad B i v).1 k = B.1 k := if_neg c
      have e2 : (ad B i v).2 k = B.2 k := if_neg c
      have q1 := hA k
      have q2 := hA i
      have r1 := fb_rng ((ad B i v).1 i)
      have r2 := fb_rng (B.1 k)
      rw [e1, e2] at q1
      unfold fst' ky
      rw [e1, e2, decide_eq_true c, Bool.true_and]
      generalize (ad B i v).1 i = X at *
      generalize (ad B i v).2 i = Y at *
      by_cases d1 : B.1 k = X
      · rw [if_pos d1]
        by_cases d2 : B.2 k = Y
        · rw [if_pos d2, d1, d2]
          rw [decide_eq_decide]
          omega
        · rw [if_neg d2, d1]
          have d2 : (B.2 k).toInt ≠ Y.toInt := fun z => d2 ((fa_eq _ _).mpr z)
          rw [decide_eq_decide, fa_lt]
          omega
      · rw [if_neg d1]
        have d1 : (B.1 k).toInt ≠ X.toInt := fun z => d1 ((fa_eq _ _).mpr z)
        rw [decide_eq_decide, fa_lt]
        omega
  rw [e]
theorem ad_0 {B : BB} {i : Nat} (hB : BP B) : ad B i 0 = B := by
  have h := hB i
  have z : (0 : Int32).toInt = 0 := rfl
  have h1 : ¬ B.1 i < 0 := by rw [fa_lt, z]; omega
  have h2 : ¬ B.2 i < 0 := by rw [fa_lt, z]; omega
  refine Prod.ext (funext fun k => ?_) (funext fun k => ?_)
  · show (if k = i then (if B.1 i < 0 then 0 else B.1 i) else B.1 k) = B.1 k
    rw [if_neg h1]
    split
    next c => rw [c]
    next => rfl
  · show (if k = i then (if B.1 i < 0 then B.1 i else if B.2 i < 0 then 0 else B.2 i) else B.2 k) = B.2 k
    rw [if_neg h1, if_neg h2]
    split
    next c => rw [c]
    next => rfl
/-- who stands at a place -/
theorem s_at' {h : AH} {B : BB} {N j p : Nat} (hN : N ≤ 4) (hj : j < N) (ej : rk B N j = p) (hB : BP B) (R : RKC h B) (e5 : h.1 5 0 = nI N) : X6_at (nI p) h = some (nI j, h) := by
  have hp : p < 4 := by have := rk_lt (B := B) hj; omega
  have key : ∀ (f k : Nat), N < k + f → k ≤ j → (∀ m, m < k → rk B N m ≠ p) → X6_at_l2 (nI p) f (nI k) h = some (nI j, h) := by
    intro f
    induction f with
    | zero => intro k h1 h2; omega
    | succ f ih =>
      intro k h1 h2 h3
      have z : (0 : Int32).toInt = 0 := rfl
      rw [X6_at_l2.eq_2, e5, if_neg (nI_ge (by omega) (by omega)), s_ahead hN (by omega) hB (by rw [z]; omega) R e5, bd_s, ad_0 hB]
      have hr : rk B N k < 4 := by have := rk_lt (B := B) (n := N) (j := k) (by omega); omega
      by_cases c : rk B N k = p
      · have e : k = j := rk_inj hN (by omega) hj hB (by rw [c, ej])
        rw [if_pos (by rw [c]), e]
      · rw [if_neg (fun z => c ((nI_eq (by omega) (by omega)).mp z)), vl_e, nI_1]
        have hkj : k ≠ j := fun z => c (by rw [z]; exact ej)
        refine ih (k + 1) (by omega) (by omega) (fun m hm => ?_)
        by_cases d : m = k
        · rw [d]; exact c
        · exact h3 m (by omega)
  exact key FU 0 (by unfold FU; omega) (by omega) (fun m hm => by omega)
