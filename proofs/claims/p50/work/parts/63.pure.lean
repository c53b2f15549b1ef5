section
/-! IMAGE, RESTORE -/
theorem mcp_at (o p : Nat) (h : AH) (q k : Nat) : (mcp o p h).1 q k = if q = o ∧ k < 5 then h.1 p k else if o + 2 ≤ q ∧ q < o + 6 ∧ k < 24 then h.1 (p + (q - o)) k else if o + 6 ≤ q ∧ q < o + 10 ∧ 1 ≤ k ∧ k ≤ 8 then h.1 (p + (q - o)) k else h.1 q k := rfl
theorem mcp_22 (o p : Nat) (h : AH) (q : Nat) : (mcp o p h).2.2 q = if o + 6 ≤ q ∧ q < o + 10 then h.2.2 (p + (q - o)) else h.2.2 q := rfl
theorem rst_at (w : Nat) (r : AH) (o k : Nat) : (rst w r).1 o k = if 2 ≤ o ∧ o ≤ 9 ∧ k < 4 then r.1 17 (120 * w + (4 * (o - 2) + k)) else if 10 ≤ o ∧ o ≤ 12 ∧ k < 24 then r.1 17 (120 * w + (32 + 24 * (o - 10) + k)) else if o = 0 ∧ 12 ≤ k ∧ k ≤ 16 then r.1 17 (120 * w + (104 + (k - 12))) else r.1 o k := rfl
/-- the copied meet is the same -/
theorem MR_mcp {o p S G N T : Nat} {c r : AH} (M : MR p c r S G N T) (hT : T ≤ 24) : MR o (mcp o p c) r S G N T := by
  refine MR_cc M (fun k hk => ?_) (fun i k hi h1 h2 => ?_) (fun i hi => ?_) (fun t ht => ⟨?_, ?_⟩)
  · rw [mcp_at, if_pos ⟨rfl, hk⟩]
  · have e : p + (o + 6 + i - o) = p + 6 + i := by omega
    rw [mcp_at, if_neg (by omega), if_neg (by omega), if_pos (by omega), e]
  · have e : p + (o + 6 + i - o) = p + 6 + i := by omega
    rw [mcp_22, if_pos (by omega), e]
  · have e : p + (o + 2 - o) = p + 2 := by omega
    rw [mcp_at, if_neg (by omega), if_pos (by omega), e]
  · have e : p + (o + 4 - o) = p + 4 := by omega
    rw [mcp_at, if_neg (by omega), if_pos (by omega), e]
/-- what the copy leaves alone -/
theorem mcp_ne {o p : Nat} {h : AH} {q k : Nat} (hq : q < o ∨ o + 10 ≤ q) : (mcp o p h).1 q k = h.1 q k := by rw [mcp_at, if_neg (by omega), if_neg (by omega), if_neg (by omega)]
theorem mcp_ne2 {o p : Nat} {h : AH} {q : Nat} (hq : q < o ∨ o + 10 ≤ q) : (mcp o p h).2.2 q = h.2.2 q := by rw [mcp_22, if_neg (by omega)]
theorem RA_keep {T : Nat} {r r' : AH} {w : Nat} (hT : T ≤ 24) (h : ∀ a, a < 109 → r'.1 17 (120 * w + a) = r.1 (kob a) (kix a)) : RA T r (rst w r') := by
  refine ⟨fun k h1 h2 => ?_, fun o k h1 h2 h3 => ?_, fun t ht => ?_⟩
  · rw [rst_at, if_neg (by omega), if_neg (by omega), if_pos (by omega), h _ (by omega)]
    obtain ⟨a, b⟩ := ko_c (d := 104 + (k - 12)) (k - 12) rfl
    rw [a, b]
    have : 12 + (k - 12) = k := by omega
    rw [this]
  · rw [rst_at, if_pos (by omega), h _ (by omega)]
    obtain ⟨a, b⟩ := ko_a (d := 4 * (o - 2) + k) (i := k) (o - 2) (by omega) (by omega) rfl
    rw [a, b]
    have : 2 + (o - 2) = o := by omega
    rw [this]
  · have key : ∀ o, o = 10 ∨ o = 11 → (rst w r').1 o t = r.1 o t := by
      intro o ho
      rw [rst_at, if_neg (by omega), if_pos (by omega), h _ (by omega)]
      obtain ⟨a, b⟩ := ko_b (d := 32 + 24 * (o - 10) + t) (i := t) (o - 10) (by omega) (by omega) rfl
      rw [a, b]
      have : 10 + (o - 10) = o := by omega
      rw [this]
    exact ⟨key 10 (Or.inl rfl), key 11 (Or.inr rfl)⟩
theorem RA_back {T : Nat} {r r' : AH} {w : Nat} (hT : T ≤ 24) (h : ∀ a, a < 109 → r'.1 (kob a) (kix a) = r.1 17 (120 * w + a)) : RA T (rst w r) r' := by
  refine ⟨fun k h1 h2 => ?_, fun o k h1 h2 h3 => ?_, fun t ht => ?_⟩
  · rw [rst_at, if_neg (by omega), if_neg (by omega), if_pos (by omega), ← h _ (by omega)]
    obtain ⟨a, b⟩ := ko_c (d := 104 + (k - 12)) (k - 12) rfl
    rw [a, b]
    have : 12 + (k - 12) = k := by omega
    rw [this]
  · rw [rst_at, if_pos (by omega), ← h _ (by omega)]
    obtain ⟨a, b⟩ := ko_a (d := 4 * (o - 2) + k) (i := k) (o - 2) (by omega) (by omega) rfl
    rw [a, b]
    have : 2 + (o - 2) = o := by omega
    rw [this]
  · have key : ∀ o, o = 10 ∨ o = 11 → r'.1 o t = (rst w r).1 o t := by
      intro o ho
      rw [rst_at, if_neg (by omega), if_pos (by omega), ← h _ (by omega)]
      obtain ⟨a, b⟩ := ko_b (d := 32 + 24 * (o - 10) + t) (i := t) (o - 10) (by omega) (by omega) rfl
      rw [a, b]
      have : 10 + (o - 10) = o := by omega
      rw [this]
    exact ⟨key 10 (Or.inl rfl), key 11 (Or.inr rfl)⟩
theorem T24' {o S G N T : Nat} {c r : AH} (M : MR o c r S G N T) : T ≤ 24 := by
  have hN := M.1.2.2.2.2.2.2.1
  have hT := M.1.2.2.2.2.2.2.2.1
  omega
theorem o_image {c r : AH} (I : Inv c r) : SimE (X10_image c) (X11_image r) Inv := by
  obtain ⟨⟨S, G, N, T, M⟩, hW, ⟨L, l1, l2, l3, l4⟩, ⟨n, n1, n2, n3, n4⟩, hRF, hIM⟩ := id I
  have h24 := T24 M
  unfold X10_image X11_image
  rw [s_mcp (by omega) c, bd_s, cz_1, cz_1, vl_e, vl_e]
  obtain ⟨r', a1, a2, a3, a4, a5⟩ := s_keepAll (h := sI r 0 25 1) (w := 0) (by omega)
  have a1 : X11_passesAll 0 1 (sI r 0 25 1) = some ((), r') := a1
  rw [a1, bd_s]
  have q : ∀ o k, o ≠ 17 → ¬ (o = 0 ∧ (k = 25 ∨ k = 26 ∨ k = 27)) → r'.1 o k = r.1 o k := fun o k h1 h2 => by rw [a2 o k h1 (by omega), sI_n (by omega)]
  have p : ∀ o k, (o < 62 ∨ 72 ≤ o) → ¬ (o = 0 ∧ k = 4) → (sI (mcp 62 42 c) 0 4 1).1 o k = c.1 o k := fun o k h1 h2 => by rw [sI_n h2, mcp_ne (by omega)]
  have p2 : ∀ o, (o < 62 ∨ 72 ≤ o) → (sI (mcp 62 42 c) 0 4 1).2.2 o = c.2.2 o := fun o h => mcp_ne2 (by omega)
  have ra : RA T r r' := ⟨fun k h1 h2 => q 0 k (by decide) (by omega), fun o k h1 h2 _ => q o k (by omega) (by omega), fun t _ => ⟨q 10 t (by decide) (by omega), q 11 t (by decide) (by omega)⟩⟩
  have ra2 : RA T r (rst 0 r') := by
    refine RA.tr (r' := sI r 0 25 1) ⟨fun k h1 h2 => by rw [sI_n (by omega)], fun o k h1 h2 _ => by rw [sI_n (by omega)], fun t _ => ⟨by rw [sI_n (by omega)], by rw [sI_n (by omega)]⟩⟩ (RA_keep h24 a5)
  have M1 := MR_k M (fun o k h1 h2 => p o k (by omega) (by omega)) (fun o h1 h2 => p2 o (by omega)) ra
  refine SimE.mk' rfl rfl (by rw [p 42 4 (by omega) (by omega), q 0 16 (by decide) (by omega), M.2.1.2.2.2.2, M.1.2.2.2.1]) ⟨⟨S, G, N, T, M1⟩, fun m j hm => hW m j hm, ⟨L, l1, ?_, ?_, fun k hk => ?_⟩, ⟨n, n1, ?_, ?_, fun k hk => ?_⟩, fun k hk => ?_, Or.inr ⟨sI_y, ?_, S, G, N, T, ?_⟩⟩
  · rw [p 0 6 (by omega) (by omega)]; exact l2
  · rw [q 0 21 (by decide) (by omega)]; exact l3
  · rw [p 2 k (by omega) (by omega), q 13 k (by decide) (by omega)]; exact l4 k hk
  · rw [p 0 8 (by omega) (by omega)]; exact n2
  · rw [q 0 34 (by decide) (by omega)]; exact n3
  · rw [p 3 k (by omega) (by omega), q 23 k (by decide) (by omega)]; exact n4 k hk
  · rw [p 4 k (by omega) (by omega), q 1 k (by decide) (by omega)]; exact hRF k hk
  · rw [a2 0 25 (by decide) (by omega), sI_y]
  · refine MR_cc (MR_mcp (o := 62) (MR_r ra2 M) h24) (fun k _ => ?_) (fun i k _ _ _ => ?_) (fun i _ => rfl) (fun t _ => ⟨?_, ?_⟩)
    all_goals rw [sI_n (by omega)]
theorem o_restore {c r : AH} (I : Inv c r) : SimE (X10_restore c) (X11_restore r) Inv := by
  obtain ⟨⟨S, G, N, T, M⟩, hW, ⟨L, l1, l2, l3, l4⟩, ⟨n, n1, n2, n3, n4⟩, hRF, hIM⟩ := id I
  unfold X10_restore X11_restore
  rcases hIM with ⟨i1, i2⟩ | ⟨i1, i2, S', G', N', T', M'⟩
  · rw [i1, i2, i_0, i_0]
    exact rfs (x := -3) I (by decide)
  · rw [i1, i2, i_10, i_10, s_mcp (by omega) c, bd_s]
    have h24 : T' ≤ 24 := T24' M'
    obtain ⟨r', a1, a2, a3, a4, a5⟩ := s_backAll (h := r) (w := 0) (by omega)
    have a1 : X11_passesAll 0 0 r = some ((), r') := a1
    rw [a1, bd_s]
    have ra := RA_back h24 a5
    have M1 : MR 42 (mcp 42 62 c) r' S' G' N' T' := MR_r ra (MR_mcp (o := 42) M' h24)
    have q : ∀ o k, (o < 2 ∨ 12 < o) → ¬ (o = 0 ∧ (12 ≤ k ∧ k ≤ 16 ∨ k = 26 ∨ k = 27)) → r'.1 o k = r.1 o k := a2
    have p : ∀ o k, (o < 42 ∨ 52 ≤ o) → (mcp 42 62 c).1 o k = c.1 o k := fun o k h1 => mcp_ne (by omega)
    refine SimE.mk' rfl rfl (by rw [M1.2.1.2.2.2.2, M1.1.2.2.2.1]) ⟨⟨S', G', N', T', M1⟩, fun m j hm => hW m j hm, ⟨L, l1, ?_, ?_, fun k hk => ?_⟩, ⟨n, n1, ?_, ?_, fun k hk => ?_⟩, fun k hk => ?_, Or.inr ⟨?_, ?_, S', G', N', T', ?_⟩⟩
    · rw [p 0 6 (by omega)]; exact l2
    · rw [q 0 21 (by omega) (by omega)]; exact l3
    · rw [p 2 k (by omega), q 13 k (by omega) (by omega)]; exact l4 k hk
    · rw [p 0 8 (by omega)]; exact n2
    · rw [q 0 34 (by omega) (by omega)]; exact n3
    · rw [p 3 k (by omega), q 23 k (by omega) (by omega)]; exact n4 k hk
    · rw [p 4 k (by omega), q 1 k (by omega) (by omega)]; exact hRF k hk
    · rw [p 0 4 (by omega)]; exact i1
    · rw [q 0 25 (by omega) (by omega)]; exact i2
    · exact MR_r (RA.rst h24 (fun k _ => q 17 k (by omega) (by omega))) (MR_cc M' (fun k _ => p 62 k (by omega)) (fun i k _ _ _ => p _ k (by omega)) (fun i _ => mcp_ne2 (by omega)) (fun t _ => ⟨p _ t (by omega), p _ t (by omega)⟩))
end
section
/-! MORE: two rows of parts filled and counted -/
def wN (J : Nat → Int32) (wd pl : Int32) (S v : Nat) : Nat := (RV J wd pl S (pL v)).toInt.toNat
def fz (J : Nat → Int32) (wd pl : Int32) (S v : Nat) : Nat := sh (wN J wd pl S v) S
theorem wN_e {J : Nat → Int32} {wd pl : Int32} {S : Nat} (hJ : NJ J) (hw : WW wd) (h4 : 4 ≤ S) (h20 : S ≤ 20) (hp : -5000 ≤ pl.toInt) (hp2 : pl.toInt ≤ 5000) (v : Nat) : RV J wd pl S (pL v) = lN (wN J wd pl S v) ∧ wN J wd pl S v ≤ 2 ^ (2 * S) := by
  obtain ⟨V, h1, h2⟩ := rv_L hJ hw h4 h20 hp hp2 v
  have hpw := pw_b h20
  have e : wN J wd pl S v = V := by
    unfold wN
    rw [h1, pk_lT (by omega)]
    rfl
  rw [e]
  exact ⟨h1, h2⟩
theorem wN_J {J J' : Nat → Int32} (h : ∀ k, 1 ≤ k → k ≤ 8 → J k = J' k) (wd pl : Int32) (S v : Nat) : wN J wd pl S v = wN J' wd pl S v := by
  unfold wN
  rw [RV_J h]
theorem fz_J {J J' : Nat → Int32} (h : ∀ k, 1 ≤ k → k ≤ 8 → J k = J' k) (wd pl : Int32) (S v : Nat) : fz J wd pl S v = fz J' wd pl S v := by
  unfold fz
  rw [wN_J h]
section MO
variable {S G N T j : Nat} {c r : AH}
/-- the class fills a row of parts -/
theorem k_fill {q : Nat} (hq : q = 32 ∨ q = 33) {pl : Int32} (M : MR 42 c r S G N T) (hW : WT c) (hj : j < 4) (hp : -5000 ≤ pl.toInt) (hp2 : pl.toInt ≤ 5000) : ∃ c', X10_fillParts q 1000 (nI j) pl c = some ((), c') ∧ PC c c' ∧ (∀ o k, o ≠ q → c'.1 o k = c.1 o k) ∧ ∀ v, v < 1000 → fz (RJ r j) (r.1 0 14) pl S v ≤ 10000 ∧ c'.1 q v = nI (fz (RJ r j) (r.1 0 14) pl S v) := by
  have hS := M.1.2.2.2.2.1
  have hw := M.1.2.2.2.2.2.2.2.2.1
  have hJ := M.1.2.2.2.2.2.2.2.2.2.1 j hj
  obtain ⟨g, s1, s2, s3, s4, s5, s6, s7, s8, s9, s10⟩ := k_spread 0 M hW hj hw hS.1 hS.2 hp hp2
  have hv : ∀ v, v < 1000 → g.2.1 31 v = lN (wN (RJ r j) (r.1 0 14) pl S v) ∧ wN (RJ r j) (r.1 0 14) pl S v ≤ 2 ^ (2 * S) := fun v hv => by
    rw [s10 v hv]
    exact wN_e hJ hw hS.1 hS.2 hp hp2 v
  obtain ⟨c', b1, b2, b3, b4⟩ := s_fillP hS.2 hq s5 (wN (RJ r j) (r.1 0 14) pl S) hv FU 0 g (by unfold FU; omega) (Nat.zero_le _) rfl (fun _ _ _ => rfl) (fun v hv => absurd hv (by omega))
  have b1 : X10_fillParts_l34 q 1000 FU 0 g = some ((), c') := b1
  have e1 : ∀ o k, o ≠ q → c'.1 o k = c.1 o k := fun o k ho => by rw [b3 o k ho, s2]
  refine ⟨c', ?_, ⟨fun k _ => e1 0 k (by omega), fun o k h => e1 o k (by omega), fun o h => by rw [b2, s3], fun o h1 h2 => by rw [b2, s4 o (by omega) (by omega)]⟩, e1, fun v hv' => ⟨sh_le (hv v hv').2, b4 v hv'⟩⟩
  unfold X10_fillParts
  rw [s_at42 hj, bd_s, cs_in _ (zc42 hj), M.2.1.1, M.2.1.2.1, s1, bd_s, b1]
/-- the reference's two rows, and its count -/
theorem r_more {i : Nat} {A B : Int32} (R : RN r S G N T) (hi : i < 4) (hj : j < 4) (hA : -5000 ≤ A.toInt) (hA2 : A.toInt ≤ 5000) (hB : -5000 ≤ B.toInt) (hB2 : B.toInt ≤ 5000) {rt : AH} (q1 : ∀ o k, o ≠ 27 → rt.1 o k = r.1 o k) : ∃ r', X11_moreFrom (nI i) A (nI j) B rt = some (mrV (fz (RJ r i) (r.1 0 14) A S) (fz (RJ r j) (r.1 0 14) B S), r') ∧ r'.1 = rt.1 := by
  have hS := R.2.2.2.2.1
  have hw := R.2.2.2.2.2.2.2.2.1
  have hJi := R.2.2.2.2.2.2.2.2.2.1 i hi
  have hJj := R.2.2.2.2.2.2.2.2.2.1 j hj
  have e14 : rt.1 0 14 = r.1 0 14 := q1 0 14 (by decide)
  have e12 : rt.1 0 12 = nI S := by rw [q1 0 12 (by decide)]; exact R.1
  have eR : ∀ m, ∀ k, 1 ≤ k → k ≤ 8 → RJ r m k = RJ rt m k := fun m k k1 k2 => (q1 (k + 1) m (by omega)).symm
  obtain ⟨r1, a1, a2, a3⟩ := u_lengths (h := rt) (j := i) (S := S) (p := 25) (pl := A) hi (NJ_J (eR i) hJi) e12 (by rw [e14]; exact hw) hS.1 hS.2 hA hA2 (by decide) (by decide)
  have f14 : r1.1 0 14 = r.1 0 14 := by rw [a2.1]; exact e14
  have f12 : r1.1 0 12 = nI S := by rw [a2.1]; exact e12
  have eR1 : ∀ m, ∀ k, 1 ≤ k → k ≤ 8 → RJ r m k = RJ r1 m k := fun m k k1 k2 => by
    show r.1 (k + 1) m = r1.1 (k + 1) m
    rw [a2.1]
    exact (q1 (k + 1) m (by omega)).symm
  obtain ⟨r2, b1, b2, b3⟩ := u_lengths (h := r1) (j := j) (S := S) (p := 26) (pl := B) hj (NJ_J (eR1 j) hJj) f12 (by rw [f14]; exact hw) hS.1 hS.2 hB hB2 (by decide) (by decide)
  refine ⟨r2, ?_, b2.1.trans a2.1⟩
  unfold X11_moreFrom
  rw [a1, bd_s, b1, bd_s]
  have hf : ∀ v, v < 1000 → r2.2.1 25 v = lN (fz (RJ r i) (r.1 0 14) A S v) := by
    intro v hv
    obtain ⟨w, w1, w2, w3⟩ := a3 v hv
    rw [b2.2.2 25 (by decide) (by decide) (by decide), w3]
    have hz := wN_e hJi hw hS.1 hS.2 hA hA2 v
    rw [e14, ← RV_J (eR i)] at w1
    have hpw := pw_b hS.2
    have : wN (RJ r i) (r.1 0 14) A S v = w := by
      unfold wN
      rw [w1, pk_lT (by omega)]
      rfl
    unfold fz
    rw [this]
  have hg : ∀ v, v < 1000 → r2.2.1 26 v = lN (fz (RJ r j) (r.1 0 14) B S v) := by
    intro v hv
    obtain ⟨w, w1, w2, w3⟩ := b3 v hv
    rw [w3]
    rw [f14, ← RV_J (eR1 j)] at w1
    have hpw := pw_b hS.2
    have : wN (RJ r j) (r.1 0 14) B S v = w := by
      unfold wN
      rw [w1, pk_lT (by omega)]
      rfl
    unfold fz
    rw [this]
  exact s_moreR hf hg
/-- two jumpers, and not the same -/
theorem two_n {a b : Int32} (M : MR 42 c r S G N T) (h : a = b ∨ (a < 0 ∨ nI N ≤ a) ∨ (b < 0 ∨ nI N ≤ b)) : X10_nobodyOfTwo a b c = some (-1, c) ∧ X11_areTwo a b r = some (0, r) := by
  have hN := M.1.2.2.2.2.2.2.1
  unfold X10_nobodyOfTwo X11_areTwo
  by_cases z : a = b
  · subst z
    rw [if_pos rfl]
    refine ⟨rfl, ?_⟩
    rcases jm a hN with y | ⟨i, hi, rfl⟩
    · rw [ij_n M.1.2.2.1 y, bd_s, i_0, cz_0]
    · rw [ij_y M.1.2.2.1 hN hi, bd_s, i_10, ij_y M.1.2.2.1 hN hi, bd_s, i_10, if_pos rfl, cz_0]
  · rw [if_neg z]
    rcases jm a hN with y | ⟨i, hi, rfl⟩
    · rw [ij_n M.1.2.2.1 y, bd_s, i_0, cz_0, nb_n M.2.1.2.2.2.1 y, bd_s]
      refine ⟨?_, rfl⟩
      rw [s_nobody, bd_s, s_first, bd_s, i_1]
    · rw [ij_y M.1.2.2.1 hN hi, bd_s, i_10, nb_y M.2.1.2.2.2.1 hN hi, bd_s]
      rcases jm b hN with y | ⟨k, hk, rfl⟩
      · rw [ij_n M.1.2.2.1 y, bd_s, i_0, cz_0, nb_n M.2.1.2.2.2.1 y, bd_s, s_first, bd_s, i_0]
        exact ⟨rfl, rfl⟩
      · exfalso
        rcases h with h | h | h
        · exact z h
        · exact h.elim (nI_pos (by omega)) (nI_ge hi (by omega))
        · exact h.elim (nI_pos (by omega)) (nI_ge hk (by omega))
theorem two_y {i k : Nat} (M : MR 42 c r S G N T) (hi : i < N) (hk : k < N) (hik : i ≠ k) : X10_nobodyOfTwo (nI i) (nI k) c = some (0, c) ∧ X11_areTwo (nI i) (nI k) r = some (1, r) := by
  have hN := M.1.2.2.2.2.2.2.1
  unfold X10_nobodyOfTwo X11_areTwo
  have z : ¬ nI i = nI k := fun q => hik ((nI_eq (by omega) (by omega)).mp q)
  rw [if_neg z, ij_y M.1.2.2.1 hN hi, bd_s, i_10, nb_y M.2.1.2.2.2.1 hN hi, bd_s, ij_y M.1.2.2.1 hN hk, bd_s, i_10, nb_y M.2.1.2.2.2.1 hN hk, bd_s, s_first, bd_s, i_0, if_neg z, cz_1]
  exact ⟨rfl, rfl⟩
theorem two_c (M : MR 42 c r S G N T) (a b : Int32) : (a = b ∨ (a < 0 ∨ nI N ≤ a) ∨ (b < 0 ∨ nI N ≤ b)) ∨ ∃ i k, i < N ∧ k < N ∧ i ≠ k ∧ a = nI i ∧ b = nI k := by
  have hN := M.1.2.2.2.2.2.2.1
  rcases jm a hN with y | ⟨i, hi, rfl⟩
  · exact Or.inl (Or.inr (Or.inl y))
  · rcases jm b hN with y | ⟨k, hk, rfl⟩
    · exact Or.inl (Or.inr (Or.inr y))
    · by_cases z : i = k
      · exact Or.inl (Or.inl (by rw [z]))
      · exact Or.inr ⟨i, k, hi, hk, z, rfl, rfl⟩
end MO
theorem o_more {c r : AH} {a1 a2 : Int32} (I : Inv c r) : SimE (X10_more a1 a2 c) (X11_more a1 a2 r) Inv := by
  obtain ⟨⟨S, G, N, T, M⟩, hW, hL, hRow, hRF, hIM⟩ := id I
  have hN := M.1.2.2.2.2.2.2.1
  have hS := M.1.2.2.2.2.1
  have hw := M.1.2.2.2.2.2.2.2.2.1
  unfold X10_more X11_more
  rcases two_c M a1 a2 with hz | ⟨i, k, hi, hk, hik, rfl, rfl⟩
  · obtain ⟨e1, e2⟩ := two_n M hz
    rw [e1, e2, bd_s, bd_s, i_0, i_1]
    exact rfs (x := -1) I (by decide)
  · obtain ⟨e1, e2⟩ := two_y M hi hk hik
    have hi4 : i < 4 := by omega
    have hk4 : k < 4 := by omega
    rw [e1, e2, bd_s, bd_s, i_0, i_10, s_placeC hi4 (M.2.2.1 i hi4).2 (by omega : S < 4000) M.2.1.1, bd_s, pl_eq M hi4, s_placeR hi4 (by omega : S < 4000) M.1.1, bd_s, s_placeR hk4 (by omega : S < 4000) M.1.1, bd_s]
    have hA := pl_b M.1 hi4 hw
    have hB := pl_b M.1 hk4 hw
    obtain ⟨c1, f1, f2, f3, f4⟩ := k_fill (q := 32) (Or.inl rfl) M hW hi4 hA.1 hA.2
    have M1 := f2.MR M
    obtain ⟨c2, g1, g2, g3, g4⟩ := k_fill (q := 33) (Or.inr rfl) M1 (f2.WT hW) hk4 hB.1 hB.2
    obtain ⟨r', h1, h2⟩ := r_more M.1 hi4 hk4 hA.1 hA.2 hB.1 hB.2 (rt := r) (fun _ _ _ => rfl)
    rw [f1, bd_s, s_placeC hk4 (M1.2.2.1 k hk4).2 (by omega : S < 4000) M1.2.1.1, bd_s, pl_eq M1 hk4, g1, bd_s, s_moreC (fun v hv => ⟨(f4 v hv).1, by rw [g3 32 v (by decide)]; exact (f4 v hv).2⟩) g4, bd_s, h1, bd_s]
    exact SimE.mk' rfl rfl rfl (Inv_f I (f2.tr g2) (fun _ _ _ => PR.L h2))
end
section
/-! DUEL -/
theorem RV_add (J : Nat → Int32) (wd pl : Int32) (S : Nat) (φ ψ : Int32 → Int32 → Int64) : RV J wd pl S (fun x n => φ x n + ψ x n) = RV J wd pl S φ + RV J wd pl S ψ := by
  unfold RV RS
  rw [← sm_plus]
  refine sm_c (fun i _ => ?_)
  rw [← sm_plus]
  refine sm_c (fun t _ => ?_)
  rw [Int64.mul_add]
def pU (m : Nat) (_ n : Int32) : Int64 := if n.toNatClampNeg < m then 1 else 0
theorem pU_s (m : Nat) : pU (m + 1) = fun x n => pU m x n + pL m x n := by
  funext x n
  unfold pU pL
  by_cases a : n.toNatClampNeg < m
  · rw [if_pos (by omega), if_pos a, if_neg (by omega)]
    rfl
  · by_cases b : n.toNatClampNeg = m
    · rw [if_pos (by omega), if_neg a, if_pos b]
      rfl
    · rw [if_neg (by omega), if_neg a, if_neg b]
      rfl
section WS
variable {J : Nat → Int32} {wd pl : Int32} {S : Nat}
theorem rv_U (hJ : NJ J) (hw : WW wd) (h4 : 4 ≤ S) (h20 : S ≤ 20) (hp : -5000 ≤ pl.toInt) (hp2 : pl.toInt ≤ 5000) : ∀ m, RV J wd pl S (pU m) = lN (nsm m (wN J wd pl S)) := by
  intro m
  induction m with
  | zero =>
    unfold RV RS
    refine sm_z (fun i _ => sm_z (fun t _ => ?_))
    unfold pU
    rw [if_neg (by omega), Int64.mul_zero]
  | succ m ih =>
    rw [pU_s, RV_add, ih, (wN_e hJ hw h4 h20 hp hp2 m).1, lN_add]
    rfl
theorem nsm_b {f : Nat → Nat} {C : Nat} : ∀ m, (∀ k, k < m → f k ≤ C) → nsm m f ≤ m * C := by
  intro m
  induction m with
  | zero => intro _; exact Nat.zero_le _
  | succ m ih =>
    intro h
    show nsm m f + f m ≤ _
    have a := ih (fun k hk => h k (by omega))
    have b := h m (by omega)
    rw [Nat.succ_mul]
    omega
theorem wN_all (hJ : NJ J) (hw : WW wd) (h4 : 4 ≤ S) (h20 : S ≤ 20) (hp : -5000 ≤ pl.toInt) (hp2 : pl.toInt ≤ 5000) : nsm 1000 (wN J wd pl S) ≤ 2 ^ (2 * S) := by
  have hpw := pw_b h20
  obtain ⟨V, h1, h2⟩ := rv_n (M := 1) (φ := pU 1000) hJ hw h4 h20 hp hp2 (fun x n _ => if_n _)
  have hb := nsm_b (f := wN J wd pl S) (C := 2 ^ 40) 1000 (fun k _ => Nat.le_trans (wN_e hJ hw h4 h20 hp hp2 k).2 hpw.1)
  rw [rv_U hJ hw h4 h20 hp hp2] at h1
  have := (pk_lEQ (by omega) (by omega)).mp h1
  omega
theorem sh_sum (w : Nat → Nat) (S : Nat) : ∀ m, nsm m (fun v => sh (w v) S) * 2 ^ (2 * S) ≤ nsm m w * 10000 := by
  intro m
  induction m with
  | zero => show 0 * _ ≤ 0 * _; omega
  | succ m ih =>
    show (nsm m (fun v => sh (w v) S) + sh (w m) S) * 2 ^ (2 * S) ≤ (nsm m w + w m) * 10000
    have : sh (w m) S * 2 ^ (2 * S) ≤ w m * 10000 := Nat.div_mul_le_self _ _
    rw [Nat.add_mul, Nat.add_mul]
    omega
theorem fz_all (hJ : NJ J) (hw : WW wd) (h4 : 4 ≤ S) (h20 : S ≤ 20) (hp : -5000 ≤ pl.toInt) (hp2 : pl.toInt ≤ 5000) : nsm 1000 (fz J wd pl S) ≤ 10000 := by
  have hpw := pw_b h20
  have a := sh_sum (wN J wd pl S) S 1000
  have b := wN_all hJ hw h4 h20 hp hp2
  have e : (fun v => sh (wN J wd pl S v) S) = fz J wd pl S := rfl
  rw [e] at a
  have d : nsm 1000 (fz J wd pl S) * 2 ^ (2 * S) ≤ 10000 * 2 ^ (2 * S) := by
    rw [Nat.mul_comm 10000]
    exact Nat.le_trans a (Nat.mul_le_mul_right _ b)
  exact Nat.le_of_mul_le_mul_right d hpw.2
theorem mrV_b {f g : Nat → Nat} (hf : nsm 1000 f ≤ 10000) (hg : nsm 1000 g ≤ 10000) : ∃ x, x ≤ 10000 ∧ mrV f g = nI x := by
  have key : ∀ v, ∃ y, y ≤ nsm v f * nsm v g ∧ (mrS f g v).1 = lN y ∧ (mrS f g v).2 = lN (nsm v g) := by
    intro v
    induction v with
    | zero => exact ⟨0, Nat.zero_le _, rfl, rfl⟩
    | succ v ih =>
      obtain ⟨y, y1, y2, y3⟩ := ih
      refine ⟨y + f v * nsm v g, ?_, ?_, ?_⟩
      · show _ ≤ (nsm v f + f v) * (nsm v g + g v)
        have : (nsm v f + f v) * nsm v g ≤ (nsm v f + f v) * (nsm v g + g v) := Nat.mul_le_mul_left _ (Nat.le_add_right _ _)
        rw [Nat.add_mul] at this
        omega
      · show (mrS f g v).1 + lN (f v) * (mrS f g v).2 = _
        rw [y2, y3, lN_mul, lN_add]
      · show (mrS f g v).2 + lN (g v) = _
        rw [y3, lN_add]
        rfl
  obtain ⟨y, y1, y2, _⟩ := key 1000
  have hb : y ≤ 10000 * 10000 := Nat.le_trans y1 (Nat.mul_le_mul hf hg)
  refine ⟨y / 10000, by omega, ?_⟩
  unfold mrV
  have e : lN y / 10000 = lN (y / 10000) := pk_lDiv (a := y) (b := 10000) (by omega) (by omega) (by omega)
  rw [y2, e, lN_i]
end WS
end
section
/-! DUEL: nine values, then asked -/
def dz (r : AH) (S i j k : Nat) : Int32 := mrV (fz (RJ r i) (r.1 0 14) (nI (6 * (k / 3))) S) (fz (RJ r j) (r.1 0 14) (nI (6 * (k % 3))) S)
section DU
variable {S G N T i j : Nat} {c r : AH}
theorem dz_b (R : RN r S G N T) (hi : i < 4) (hj : j < 4) {k : Nat} (hk : k < 9) : ∃ x, x ≤ 10000 ∧ dz r S i j k = nI x := by
  have hS := R.2.2.2.2.1
  have hw := R.2.2.2.2.2.2.2.2.1
  have hJ := R.2.2.2.2.2.2.2.2.2.1
  have pl : ∀ m, m ≤ 2 → -5000 ≤ (nI (6 * m)).toInt ∧ (nI (6 * m)).toInt ≤ 5000 := fun m hm => by rw [toInt_nI (by omega)]; omega
  exact mrV_b (fz_all (hJ i hi) hw hS.1 hS.2 (pl _ (by omega)).1 (pl _ (by omega)).2) (fz_all (hJ j hj) hw hS.1 hS.2 (pl _ (by omega)).1 (pl _ (by omega)).2)
theorem pl6 {m : Nat} (hm : m ≤ 2) : -5000 ≤ (nI (6 * m)).toInt ∧ (nI (6 * m)).toInt ≤ 5000 := by rw [toInt_nI (by omega)]; omega
theorem l_duC (M : MR 42 c r S G N T) (hW : WT c) (hi : i < 4) (hj : j < 4) (v3 : Int32) (K : Int32 → AH → Option (Int32 × AH)) {a : Nat} (ha : a < 3) : ∀ (f b : Nat) (ct : AH), 3 < b + f → b ≤ 3 → PC c ct → (∀ v, v < 1000 → fz (RJ r i) (r.1 0 14) (nI (6 * a)) S v ≤ 10000 ∧ ct.1 32 v = nI (fz (RJ r i) (r.1 0 14) (nI (6 * a)) S v)) → (∀ k, k < 3 * a + b → ct.1 34 k = dz r S i j k) →
    ∃ c', X10_duel_l54 (nI i) (nI j) v3 (nI a) K f (nI b) ct = K (nI (a + 1)) c' ∧ PC c c' ∧ ∀ k, k < 3 * a + 3 → c'.1 34 k = dz r S i j k := by
  intro f
  induction f with
  | zero => intro b ct h1 h2; omega
  | succ f ih =>
    intro b ct h1 h2 p h32 h34
    rw [X10_duel_l54.eq_2]
    by_cases z : b = 3
    · subst z
      rw [if_pos (show (3 : Int32) ≤ nI 3 by decide), vl_e, nI_1]
      exact ⟨ct, rfl, p, h34⟩
    · have e6 : (6 : Int32) * nI b = nI (6 * b) := pk_mul 6 b
      have e3 : (3 : Int32) * nI a = nI (3 * a) := pk_mul 3 a
      have hb6 := pl6 (m := b) (by omega)
      obtain ⟨c2, g1, g2, g3, g4⟩ := k_fill (q := 33) (Or.inr rfl) (p.MR M) (p.WT hW) hj hb6.1 hb6.2
      rw [if_neg (show ¬ (3 : Int32) ≤ nI b from nI_ge (b := 3) (by omega) (by decide)), e6, g1, bd_s, s_moreC (fun v hv => ⟨(h32 v hv).1, by rw [g3 32 v (by decide)]; exact (h32 v hv).2⟩) g4, bd_s, e3, nI_add, ck_nI _ (by omega) (by decide), vl_e, vl_e, nI_1, nI_clamp (by omega)]
      refine ih (b + 1) _ (by omega) (by omega) ((p.tr g2).tr ⟨fun k _ => by rw [sI_n (by omega)], fun o k h => by rw [sI_n (by omega)], fun _ _ => rfl, fun _ _ _ => rfl⟩) (fun v hv => ⟨(h32 v hv).1, by rw [sI_n (by omega), g3 32 v (by decide)]; exact (h32 v hv).2⟩) (fun k hk => ?_)
      rw [sI_at]
      by_cases y : k = 3 * a + b
      · rw [if_pos ⟨rfl, y⟩]
        unfold dz
        have q1 : k / 3 = a := by omega
        have q2 : k % 3 = b := by omega
        rw [q1, q2]
      · rw [if_neg (fun q => y q.2), g3 34 k (by decide)]
        exact h34 k (by omega)
theorem l_duC2 (M : MR 42 c r S G N T) (hW : WT c) (hi : i < 4) (hj : j < 4) (v3 : Int32) : ∀ (f a : Nat) (ct : AH), 3 < a + f → a ≤ 3 → PC c ct → (∀ k, k < 3 * a → ct.1 34 k = dz r S i j k) →
    ∃ c', X10_duel_l31 (nI i) (nI j) v3 f (nI a) ct = (if v3 = 2 then (bd (X10_sure c') fun r9 h10 => some (r9, h10)) else (bd (X10_calmPair v3 c') fun r7 h8 => some (r7, h8))) ∧ PC c c' ∧ ∀ k, k < 9 → c'.1 34 k = dz r S i j k := by
  intro f
  induction f with
  | zero => intro a ct h1 h2; omega
  | succ f ih =>
    intro a ct h1 h2 p h34
    rw [X10_duel_l31.eq_2]
    by_cases z : a = 3
    · subst z
      rw [if_pos (show (3 : Int32) ≤ nI 3 by decide)]
      exact ⟨ct, rfl, p, h34⟩
    · have e6 : (6 : Int32) * nI a = nI (6 * a) := pk_mul 6 a
      have ha6 := pl6 (m := a) (by omega)
      obtain ⟨c2, g1, g2, g3, g4⟩ := k_fill (q := 32) (Or.inl rfl) (p.MR M) (p.WT hW) hi ha6.1 ha6.2
      rw [if_neg (show ¬ (3 : Int32) ≤ nI a from nI_ge (b := 3) (by omega) (by decide)), e6, g1, bd_s]
      obtain ⟨c3, b1, b2, b3⟩ := l_duC M hW hi hj v3 (X10_duel_l31 (nI i) (nI j) v3 f) (a := a) (by omega) FU 0 c2 (by unfold FU; omega) (Nat.zero_le _) (p.tr g2) g4 (fun k hk => by rw [g3 34 k (by decide)]; exact h34 k (by omega))
      have b1 : X10_duel_l54 (nI i) (nI j) v3 (nI a) (X10_duel_l31 (nI i) (nI j) v3 f) FU 0 c2 = _ := b1
      rw [b1]
      exact ih (a + 1) c3 (by omega) (by omega) b2 (fun k hk => b3 k (by omega))
theorem l_duR (R : RN r S G N T) (hi : i < 4) (hj : j < 4) (v3 : Int32) : ∀ (f k : Nat) (rt : AH), 9 < k + f → k ≤ 9 → (∀ o q, o ≠ 27 → rt.1 o q = r.1 o q) → (∀ q, q < k → rt.1 27 q = dz r S i j q) →
    ∃ r', X11_duel_l45 (nI i) (nI j) v3 f (nI k) rt = (if v3 = 2 then (bd (X11_sureMore r') fun r8 h9 => some (r8, h9)) else X11_duel_l98 v3 FU 0 r') ∧ (∀ o q, o ≠ 27 → r'.1 o q = r.1 o q) ∧ ∀ q, q < 9 → r'.1 27 q = dz r S i j q := by
  intro f
  induction f with
  | zero => intro k rt h1 h2; omega
  | succ f ih =>
    intro k rt h1 h2 q1 h27
    rw [X11_duel_l45.eq_2]
    by_cases z : k = 9
    · subst z
      rw [if_pos (show (9 : Int32) ≤ nI 9 by decide)]
      exact ⟨rt, rfl, q1, h27⟩
    · have e1 : nI k / 3 = nI (k / 3) := pk_div (a := k) (d := 3) (by omega) (by omega) (by omega)
      have e2 : rm32 (nI k) 3 = nI (k % 3) := pk_rem (a := k) (d := 3) (by omega) (by omega) (by omega)
      have e3 : (6 : Int32) * nI (k / 3) = nI (6 * (k / 3)) := pk_mul 6 _
      have e4 : (6 : Int32) * nI (k % 3) = nI (6 * (k % 3)) := pk_mul 6 _
      have ha := pl6 (m := k / 3) (by omega)
      have hb := pl6 (m := k % 3) (by omega)
      obtain ⟨r', a1, a2⟩ := r_more R hi hj ha.1 ha.2 hb.1 hb.2 q1
      rw [if_neg (show ¬ (9 : Int32) ≤ nI k from nI_ge (b := 9) (by omega) (by decide)), e1, e2, e3, e4, a1, bd_s, ck_nI _ (by omega) (by decide), vl_e, vl_e, nI_1, nI_clamp (by omega)]
      refine ih (k + 1) _ (by omega) (by omega) (fun o q ho => by rw [sI_n (by omega), a2]; exact q1 o q ho) (fun q hq => ?_)
      rw [sI_at]
      by_cases y : q = k
      · rw [if_pos ⟨rfl, y⟩, y]
        rfl
      · rw [if_neg (fun w => y w.2), a2]
        exact h27 q (by omega)
end DU
/-! nine values asked -/
def ch (P : Nat → Bool) (A : Nat → Int32) : Nat → Nat → Int32
  | 0, _ => -9
  | m + 1, k => if P k = true then A k else ch P A m (k + 1)
def q9 (x : Nat → Nat) (k : Nat) : Bool := decide ((x (k % 3) ≤ x k ∧ x (3 + k % 3) ≤ x k ∧ x (6 + k % 3) ≤ x k) ∧ x k ≤ x (k / 3 * 3) ∧ x k ≤ x (k / 3 * 3 + 1) ∧ x k ≤ x (k / 3 * 3 + 2))
def a9 (x : Nat → Nat) (v : Int32) (k : Nat) : Int32 := if v = 0 then nI (10 * (k / 3) + k % 3) else nI (x k)
section NINE
variable {x : Nat → Nat} {h r : AH}
theorem s_lor (hx : ∀ k, k < 9 → x k ≤ 10000 ∧ h.1 34 k = nI (x k)) {i : Nat} (hi : i < 3) : X10_leastOfRow (nI i) h = some (nI (min (x (3 * i)) (min (x (3 * i + 1)) (x (3 * i + 2)))), h) := by
  have e3 : (3 : Int32) * nI i = nI (3 * i) := pk_mul 3 i
  have e1 : nI (3 * i) + 1 = nI (3 * i + 1) := nI_1 _
  have e2 : nI (3 * i) + 2 = nI (3 * i + 2) := nI_add _ 2
  have b0 := hx (3 * i) (by omega)
  have b1 := hx (3 * i + 1) (by omega)
  have b2 := hx (3 * i + 2) (by omega)
  unfold X10_leastOfRow
  rw [e3, e1, e2, ck_nI _ (by omega) (by decide), ck_nI _ (by omega) (by decide), ck_nI _ (by omega) (by decide), nI_clamp (by omega), nI_clamp (by omega), nI_clamp (by omega), b0.2, b1.2, b2.2, mn_nI (by omega) (by omega), mn_nI (by omega) (by omega)]
theorem s_moc (hx : ∀ k, k < 9 → x k ≤ 10000 ∧ h.1 34 k = nI (x k)) {b : Nat} (hb : b < 3) : X10_mostOfColumn (nI b) h = some (nI (max (x b) (max (x (3 + b)) (x (6 + b)))), h) := by
  have e1 : (3 : Int32) + nI b = nI (3 + b) := nI_add 3 _
  have e2 : (6 : Int32) + nI b = nI (6 + b) := nI_add 6 _
  have b0 := hx b (by omega)
  have b1 := hx (3 + b) (by omega)
  have b2 := hx (6 + b) (by omega)
  unfold X10_mostOfColumn
  rw [e1, e2, ck_nI _ (by omega) (by decide), ck_nI _ (by omega) (by decide), ck_nI _ (by omega) (by decide), nI_clamp (by omega), nI_clamp (by omega), nI_clamp (by omega), b0.2, b1.2, b2.2, mx_nI (by omega) (by omega), mx_nI (by omega) (by omega)]
theorem cp_step (hx : ∀ k, k < 9 → x k ≤ 10000 ∧ h.1 34 k = nI (x k)) {i b : Nat} (hi : i < 3) (hb : b < 3) (v : Int32) (K : Int32 → AH → Option (Int32 × AH)) (f : Nat) : X10_calmPair_l9 v (nI i) K (f + 1) (nI b) h = if q9 x (3 * i + b) = true then some (a9 x v (3 * i + b), h) else X10_calmPair_l9 v (nI i) K f (nI (b + 1)) h := by
  have e3 : (3 : Int32) * nI i = nI (3 * i) := pk_mul 3 i
  have e10 : (10 : Int32) * nI i = nI (10 * i) := pk_mul 10 i
  have k1 : (3 * i + b) / 3 = i := by omega
  have k2 : (3 * i + b) % 3 = b := by omega
  have bk := hx (3 * i + b) (by omega)
  have b0 := hx (3 * i) (by omega)
  have b1 := hx (3 * i + 1) (by omega)
  have b2 := hx (3 * i + 2) (by omega)
  have c0 := hx b (by omega)
  have c1 := hx (3 + b) (by omega)
  have c2 := hx (6 + b) (by omega)
  have hrow : x (3 * i + b) = x (3 * i) ∨ x (3 * i + b) = x (3 * i + 1) ∨ x (3 * i + b) = x (3 * i + 2) := by
    rcases (by omega : b = 0 ∨ b = 1 ∨ b = 2) with q | q | q <;> subst q
    · exact Or.inl rfl
    · exact Or.inr (Or.inl rfl)
    · exact Or.inr (Or.inr rfl)
  have hcol : x (3 * i + b) = x b ∨ x (3 * i + b) = x (3 + b) ∨ x (3 * i + b) = x (6 + b) := by
    rcases (by omega : i = 0 ∨ i = 1 ∨ i = 2) with q | q | q <;> subst q
    · exact Or.inl (by rw [show 3 * 0 + b = b by omega])
    · exact Or.inr (Or.inl rfl)
    · exact Or.inr (Or.inr rfl)
  have ri : i * 3 = 3 * i := by omega
  rw [X10_calmPair_l9.eq_2, if_neg (show ¬ (3 : Int32) ≤ nI b from nI_ge (b := 3) hb (by decide)), e3, nI_add, ck_nI _ (by omega) (by decide), vl_e, nI_clamp (by omega), bk.2, s_lor hx hi, bd_s, s_moc hx hb, bd_s]
  unfold X10_calmPair_j62 q9 a9
  rw [k1, k2, ri, e10, nI_add, vl_e, nI_1]
  by_cases y1 : x (3 * i + b) = min (x (3 * i)) (min (x (3 * i + 1)) (x (3 * i + 2)))
  · rw [if_pos (show nI (x (3 * i + b)) = nI (min (x (3 * i)) (min (x (3 * i + 1)) (x (3 * i + 2)))) by rw [← y1])]
    by_cases y2 : x (3 * i + b) = max (x b) (max (x (3 + b)) (x (6 + b)))
    · rw [if_pos (show nI (x (3 * i + b)) = nI (max (x b) (max (x (3 + b)) (x (6 + b)))) by rw [← y2]), if_pos (decide_eq_true (by omega))]
      split <;> rfl
    · rw [if_neg (fun q => y2 ((nI_eq (by omega) (by omega)).mp q)), if_neg (fun q => by have q := of_decide_eq_true q; omega)]
  · rw [if_neg (fun q => y1 ((nI_eq (by omega) (by omega)).mp q)), if_neg (fun q => by have q := of_decide_eq_true q; omega)]
theorem cp_row (hx : ∀ k, k < 9 → x k ≤ 10000 ∧ h.1 34 k = nI (x k)) {i : Nat} (hi : i < 3) (v : Int32) (K : Int32 → AH → Option (Int32 × AH)) (f : Nat) {m : Nat} (hK : K (nI (i + 1)) h = some (ch (q9 x) (a9 x v) m (3 * i + 3), h)) : X10_calmPair_l9 v (nI i) K (f + 1 + 1 + 1 + 1) (nI 0) h = some (ch (q9 x) (a9 x v) (m + 3) (3 * i), h) := by
  have e : ch (q9 x) (a9 x v) (m + 3) (3 * i) = if q9 x (3 * i) = true then a9 x v (3 * i) else if q9 x (3 * i + 1) = true then a9 x v (3 * i + 1) else if q9 x (3 * i + 2) = true then a9 x v (3 * i + 2) else ch (q9 x) (a9 x v) m (3 * i + 3) := rfl
  rw [e, cp_step hx hi (b := 0) (by omega), cp_step hx hi (b := 1) (by omega), cp_step hx hi (b := 2) (by omega), X10_calmPair_l9.eq_2, if_pos (show (3 : Int32) ≤ nI (2 + 1) by decide), vl_e, nI_1, hK]
  have e0 : 3 * i + 0 = 3 * i := rfl
  rw [e0]
  split
  · rfl
  · split
    · rfl
    · split <;> rfl
theorem cp_all (hx : ∀ k, k < 9 → x k ≤ 10000 ∧ h.1 34 k = nI (x k)) (v : Int32) : X10_calmPair v h = some (ch (q9 x) (a9 x v) 9 0, h) := by
  have l3 : X10_calmPair_l2 v 4997 (nI 3) h = some (ch (q9 x) (a9 x v) 0 9, h) := by
    rw [X10_calmPair_l2.eq_2, if_pos (show (3 : Int32) ≤ nI 3 by decide)]
    rfl
  have l2 : X10_calmPair_l2 v 4998 (nI 2) h = some (ch (q9 x) (a9 x v) 3 6, h) := by
    rw [X10_calmPair_l2.eq_2, if_neg (show ¬ (3 : Int32) ≤ nI 2 by decide)]
    exact cp_row hx (i := 2) (by omega) v (X10_calmPair_l2 v 4997) 4996 (m := 0) l3
  have l1 : X10_calmPair_l2 v 4999 (nI 1) h = some (ch (q9 x) (a9 x v) 6 3, h) := by
    rw [X10_calmPair_l2.eq_2, if_neg (show ¬ (3 : Int32) ≤ nI 1 by decide)]
    exact cp_row hx (i := 1) (by omega) v (X10_calmPair_l2 v 4998) 4996 (m := 3) l2
  have l0 : X10_calmPair_l2 v 5000 (nI 0) h = some (ch (q9 x) (a9 x v) 9 0, h) := by
    rw [X10_calmPair_l2.eq_2, if_neg (show ¬ (3 : Int32) ≤ nI 0 by decide)]
    exact cp_row hx (i := 0) (by omega) v (X10_calmPair_l2 v 4999) 4996 (m := 6) l1
  exact l0
/-- the reference's rest at k -/
theorem s_rests (hx : ∀ k, k < 9 → x k ≤ 10000 ∧ r.1 27 k = nI (x k)) {k : Nat} (hk : k < 9) : X11_rests (nI k) r = some (if q9 x k = true then 1 else 0, r) := by
  have e1 : nI k / 3 = nI (k / 3) := pk_div (a := k) (d := 3) (by omega) (by omega) (by omega)
  have e2 : rm32 (nI k) 3 = nI (k % 3) := pk_rem (a := k) (d := 3) (by omega) (by omega) (by omega)
  have e4 : nI (k / 3) * 3 = nI (k / 3 * 3) := pk_mul _ 3
  have e : (∀ m, m < 3 → x (3 * m + k % 3) ≤ x k ∧ x k ≤ x (k / 3 * 3 + m)) ↔ q9 x k = true := by
    unfold q9
    rw [decide_eq_true_iff]
    constructor
    · intro q
      have q0 := q 0 (by omega)
      have q1 := q 1 (by omega)
      have q2 := q 2 (by omega)
      have z0 : 3 * 0 + k % 3 = k % 3 := by omega
      rw [z0] at q0
      exact ⟨⟨q0.1, q1.1, q2.1⟩, q0.2, q1.2, q2.2⟩
    · intro q m hm
      rcases (by omega : m = 0 ∨ m = 1 ∨ m = 2) with d | d | d <;> subst d
      · have z0 : 3 * 0 + k % 3 = k % 3 := by omega
        rw [z0]
        exact ⟨q.1.1, q.2.1⟩
      · exact ⟨q.1.2.1, q.2.2.1⟩
      · exact ⟨q.1.2.2, q.2.2.2⟩
  have key : ∀ (f v : Nat), 3 < v + f → v ≤ 3 → (∀ m, m < v → x (3 * m + k % 3) ≤ x k ∧ x k ≤ x (k / 3 * 3 + m)) → X11_rests_l2 (nI k) f (nI v) r = some (if q9 x k = true then 1 else 0, r) := by
    intro f
    induction f with
    | zero => intro v h1 h2; omega
    | succ f ih =>
      intro v h1 h2 h3
      rw [X11_rests_l2.eq_2]
      by_cases z : v = 3
      · subst z
        rw [if_pos (show (3 : Int32) ≤ nI 3 by decide), if_pos (e.mp h3), cz_1]
      · have e3 : (3 : Int32) * nI v = nI (3 * v) := pk_mul 3 v
        have bk := hx k hk
        have b1 := hx (3 * v + k % 3) (by omega)
        have b2 := hx (k / 3 * 3 + v) (by omega)
        rw [if_neg (show ¬ (3 : Int32) ≤ nI v from nI_ge (b := 3) (by omega) (by decide)), e1, e2, e3, e4, nI_add, nI_add]
        simp only [ck_nI _ hk (show 9 < 2 ^ 31 by decide), ck_nI _ (show 3 * v + k % 3 < 9 by omega) (show 9 < 2 ^ 31 by decide), ck_nI _ (show k / 3 * 3 + v < 9 by omega) (show 9 < 2 ^ 31 by decide), nI_clamp (show k < 2 ^ 31 by omega), nI_clamp (show 3 * v + k % 3 < 2 ^ 31 by omega), nI_clamp (show k / 3 * 3 + v < 2 ^ 31 by omega), bk.2, b1.2, b2.2, vl_e, nI_1, cz_0]
        by_cases y1 : x k < x (3 * v + k % 3)
        · rw [if_pos (nI_lt y1 (by omega)), if_neg (fun q => by have := (e.mpr q v (by omega)).1; omega)]
        · rw [if_neg (nI_nlt (by omega) (by omega))]
          by_cases y2 : x k ≤ x (k / 3 * 3 + v)
          · rw [if_pos (nI_le y2 (by omega))]
            refine ih (v + 1) (by omega) (by omega) (fun m hm => ?_)
            by_cases d : m = v
            · rw [d]; exact ⟨by omega, y2⟩
            · exact h3 m (by omega)
          · rw [if_neg (nI_ge (by omega) (by omega)), if_neg (fun q => y2 (e.mpr q v (by omega)).2)]
  have h := key FU 0 (by unfold FU; omega) (Nat.zero_le _) (fun m hm => absurd hm (by omega))
  exact h
theorem cr_all (hx : ∀ k, k < 9 → x k ≤ 10000 ∧ r.1 27 k = nI (x k)) (v : Int32) : X11_duel_l98 v FU 0 r = some (ch (q9 x) (a9 x v) 9 0, r) := by
  have key : ∀ (f m k : Nat), m < f → k + m = 9 → X11_duel_l98 v f (nI k) r = some (ch (q9 x) (a9 x v) m k, r) := by
    intro f
    induction f with
    | zero => intro m k h1; omega
    | succ f ih =>
      intro m k h1 h2
      rw [X11_duel_l98.eq_2]
      cases m with
      | zero =>
        have : k = 9 := by omega
        subst this
        rw [if_pos (show (9 : Int32) ≤ nI 9 by decide)]
        rfl
      | succ m =>
        have e1 : nI k / 3 = nI (k / 3) := pk_div (a := k) (d := 3) (by omega) (by omega) (by omega)
        have e2 : rm32 (nI k) 3 = nI (k % 3) := pk_rem (a := k) (d := 3) (by omega) (by omega) (by omega)
        have e10 : (10 : Int32) * nI (k / 3) = nI (10 * (k / 3)) := pk_mul 10 _
        have bk := hx k (by omega)
        rw [if_neg (show ¬ (9 : Int32) ≤ nI k from nI_ge (b := 9) (by omega) (by decide)), s_rests hx (by omega), bd_s]
        show _ = some (if q9 x k = true then a9 x v k else ch (q9 x) (a9 x v) m (k + 1), r)
        by_cases d : q9 x k = true
        · rw [if_pos d, if_pos d, i_10, e1, e2, e10, nI_add, ck_nI _ (by omega) (by decide), nI_clamp (by omega), bk.2]
          unfold a9
          split <;> rfl
        · rw [if_neg d, if_neg d, i_0, vl_e, nI_1]
          exact ih m (k + 1) (by omega) (by omega)
  exact key FU 9 0 (by unfold FU; omega) rfl
def sr9 (x : Nat → Nat) : Int32 := nI (max (min (x 0) (min (x 1) (x 2))) (max (min (x 3) (min (x 4) (x 5))) (min (x 6) (min (x 7) (x 8)))))
theorem su_all (hx : ∀ k, k < 9 → x k ≤ 10000 ∧ h.1 34 k = nI (x k)) : X10_sure h = some (sr9 x, h) := by
  have b := fun k hk => (hx k hk).1
  have b0 := b 0 (by omega)
  have b1 := b 3 (by omega)
  have b2 := b 6 (by omega)
  unfold X10_sure
  have r0 : X10_leastOfRow 0 h = some (nI (min (x 0) (min (x 1) (x 2))), h) := s_lor hx (i := 0) (by omega)
  have r1 : X10_leastOfRow 1 h = some (nI (min (x 3) (min (x 4) (x 5))), h) := s_lor hx (i := 1) (by omega)
  have r2 : X10_leastOfRow 2 h = some (nI (min (x 6) (min (x 7) (x 8))), h) := s_lor hx (i := 2) (by omega)
  rw [r0, bd_s, r1, bd_s, r2, bd_s, mx_nI (by omega) (by omega), mx_nI (by omega) (by omega)]
  rfl
theorem sR_row (hx : ∀ k, k < 9 → x k ≤ 10000 ∧ r.1 27 k = nI (x k)) {i v : Nat} (hi : i < 3) (hv : v ≤ 10000) (K : Int32 → Int32 → AH → Option (Int32 × AH)) : X11_sureMore_l16 (nI v) (nI i) K FU 10000 0 r = K (nI (max v (min (x (3 * i)) (min (x (3 * i + 1)) (x (3 * i + 2)))))) (nI (i + 1)) r := by
  have e3 : (3 : Int32) * nI i = nI (3 * i) := pk_mul 3 i
  have st : ∀ (f b y : Nat), b < 3 → y ≤ 10000 → X11_sureMore_l16 (nI v) (nI i) K (f + 1) (nI y) (nI b) r = X11_sureMore_l16 (nI v) (nI i) K f (nI (min y (x (3 * i + b)))) (nI (b + 1)) r := by
    intro f b y hb hy
    have bk := hx (3 * i + b) (by omega)
    rw [X11_sureMore_l16.eq_2, if_neg (show ¬ (3 : Int32) ≤ nI b from nI_ge (b := 3) hb (by decide)), e3, nI_add, ck_nI _ (by omega) (by decide), ck_nI _ (by omega) (by decide), nI_clamp (by omega), bk.2]
    unfold X11_sureMore_j52
    rw [vl_e, vl_e, nI_1]
    by_cases z : y ≤ x (3 * i + b)
    · rw [if_pos (nI_le z (by omega)), Nat.min_eq_left z]
    · rw [if_neg (nI_ge (by omega) (by omega)), Nat.min_eq_right (by omega)]
  have b0 := (hx (3 * i) (by omega)).1
  have b1 := (hx (3 * i + 1) (by omega)).1
  have b2 := (hx (3 * i + 2) (by omega)).1
  have s1 := st 4999 0 10000 (by omega) (by omega)
  have s2 := st 4998 1 (min 10000 (x (3 * i + 0))) (by omega) (by omega)
  have s3 := st 4997 2 (min (min 10000 (x (3 * i + 0))) (x (3 * i + 1))) (by omega) (by omega)
  have e0 : 3 * i + 0 = 3 * i := rfl
  rw [e0] at s1 s2 s3
  have s1 : X11_sureMore_l16 (nI v) (nI i) K FU 10000 0 r = _ := s1
  have em : min (min (min 10000 (x (3 * i))) (x (3 * i + 1))) (x (3 * i + 2)) = min (x (3 * i)) (min (x (3 * i + 1)) (x (3 * i + 2))) := by omega
  rw [s1, s2, s3, X11_sureMore_l16.eq_2, if_pos (show (3 : Int32) ≤ nI (2 + 1) by decide), em]
  unfold X11_sureMore_j69
  rw [vl_e, vl_e, nI_1]
  by_cases z : min (x (3 * i)) (min (x (3 * i + 1)) (x (3 * i + 2))) ≤ v
  · rw [if_pos (nI_le z (by omega)), Nat.max_eq_left z]
  · rw [if_neg (nI_ge (by omega) (by omega)), Nat.max_eq_right (by omega)]
theorem sR_all (hx : ∀ k, k < 9 → x k ≤ 10000 ∧ r.1 27 k = nI (x k)) : X11_sureMore r = some (sr9 x, r) := by
  have b := fun k hk => (hx k hk).1
  have b0 : x (3 * 0) ≤ 10000 := b 0 (by omega)
  have b1 : x (3 * (0 + 1)) ≤ 10000 := b 3 (by omega)
  have b2 := b 6 (by omega)
  unfold X11_sureMore
  have l0 : X11_sureMore_l4 FU 0 0 r = X11_sureMore_l16 (nI 0) (nI 0) (X11_sureMore_l4 4999) FU 10000 0 r := by
    unfold FU
    rw [X11_sureMore_l4.eq_2, if_neg (show ¬ (3 : Int32) ≤ 0 by decide)]
    rfl
  have ln : ∀ (f v i : Nat), i < 3 → X11_sureMore_l4 (f + 1) (nI v) (nI i) r = X11_sureMore_l16 (nI v) (nI i) (X11_sureMore_l4 f) FU 10000 0 r := by
    intro f v i hi
    rw [X11_sureMore_l4.eq_2, if_neg (show ¬ (3 : Int32) ≤ nI i from nI_ge (b := 3) hi (by decide))]
  rw [l0, sR_row hx (by omega) (by omega)]
  have l1 := ln 4998 (max 0 (min (x (3 * 0)) (min (x (3 * 0 + 1)) (x (3 * 0 + 2))))) (0 + 1) (by omega)
  have l1 : X11_sureMore_l4 4999 _ _ r = _ := l1
  rw [l1, sR_row hx (by omega) (by omega)]
  have l2 := ln 4997 (max (max 0 (min (x (3 * 0)) (min (x (3 * 0 + 1)) (x (3 * 0 + 2))))) (min (x (3 * (0 + 1))) (min (x (3 * (0 + 1) + 1)) (x (3 * (0 + 1) + 2))))) (0 + 1 + 1) (by omega)
  have l2 : X11_sureMore_l4 4998 _ _ r = _ := l2
  rw [l2, sR_row hx (by omega) (by omega)]
  have l3 : ∀ v : Int32, X11_sureMore_l4 4997 v (nI (0 + 1 + 1 + 1)) r = some (v, r) := by
    intro v
    rw [X11_sureMore_l4.eq_2, if_pos (show (3 : Int32) ≤ nI (0 + 1 + 1 + 1) by decide)]
  rw [l3]
  unfold sr9
  have e : max (max (max 0 (min (x (3 * 0)) (min (x (3 * 0 + 1)) (x (3 * 0 + 2))))) (min (x (3 * (0 + 1))) (min (x (3 * (0 + 1) + 1)) (x (3 * (0 + 1) + 2))))) (min (x (3 * (0 + 1 + 1))) (min (x (3 * (0 + 1 + 1) + 1)) (x (3 * (0 + 1 + 1) + 2)))) = max (min (x 0) (min (x 1) (x 2))) (max (min (x 3) (min (x 4) (x 5))) (min (x 6) (min (x 7) (x 8)))) := by
    show max (max (max 0 (min (x 0) (min (x 1) (x 2)))) (min (x 3) (min (x 4) (x 5)))) (min (x 6) (min (x 7) (x 8))) = _
    rw [Nat.zero_max, Nat.max_assoc]
  rw [e]
end NINE
theorem o_duel {c r : AH} {a1 a2 a3 : Int32} (I : Inv c r) : SimE (X10_duel a1 a2 a3 c) (X11_duel a1 a2 a3 r) Inv := by
  obtain ⟨⟨S, G, N, T, M⟩, hW, hL, hRow, hRF, hIM⟩ := id I
  have hN := M.1.2.2.2.2.2.2.1
  unfold X10_duel X11_duel X11_duel_j28
  rcases two_c M a1 a2 with hz | ⟨i, k, hi, hk, hik, rfl, rfl⟩
  · obtain ⟨e1, e2⟩ := two_n M hz
    rw [e1, e2, bd_s, bd_s, i_0, s_noSuch, bd_s, s_first, bd_s, i_1, i_1, i_1]
    exact rfs (x := -1) I (by decide)
  · obtain ⟨e1, e2⟩ := two_y M hi hk hik
    have hi4 : i < 4 := by omega
    have hk4 : k < 4 := by omega
    rw [e1, e2, bd_s, bd_s, i_10, s_noSuch, bd_s, s_first, bd_s, i_0, s_isIn, bd_s]
    by_cases h0 : a3 < 0 ∨ 2 < a3
    · simp only [if_pos h0, i_2, i_0, if_true]
      exact rfs (x := -2) I (by decide)
    · simp only [if_neg h0, i_0, i_10, if_true]
      obtain ⟨c', b1, b2, b3⟩ := l_duC2 M hW hi4 hk4 a3 FU 0 c (by unfold FU; omega) (by omega) PC.rf (fun q hq => absurd hq (by omega))
      have b1 : X10_duel_l31 (nI i) (nI k) a3 FU 0 c = _ := b1
      obtain ⟨r', d1, d2, d3⟩ := l_duR M.1 hi4 hk4 a3 FU 0 r (by unfold FU; omega) (by omega) (fun _ _ _ => rfl) (fun q hq => absurd hq (by omega))
      have d1 : X11_duel_l45 (nI i) (nI k) a3 FU 0 r = _ := d1
      have hx : ∃ x : Nat → Nat, ∀ q, q < 9 → x q ≤ 10000 ∧ dz r S i k q = nI (x q) := by
        refine ⟨fun q => (dz r S i k q).toNatClampNeg, fun q hq => ?_⟩
        obtain ⟨y, y1, y2⟩ := dz_b M.1 hi4 hk4 hq
        show (dz r S i k q).toNatClampNeg ≤ 10000 ∧ dz r S i k q = nI (dz r S i k q).toNatClampNeg
        rw [y2, nI_clamp (by omega)]
        exact ⟨y1, rfl⟩
      obtain ⟨x, hx⟩ := hx
      have hxc : ∀ q, q < 9 → x q ≤ 10000 ∧ c'.1 34 q = nI (x q) := fun q hq => ⟨(hx q hq).1, (b3 q hq).trans (hx q hq).2⟩
      have hxr : ∀ q, q < 9 → x q ≤ 10000 ∧ r'.1 27 q = nI (x q) := fun q hq => ⟨(hx q hq).1, (d3 q hq).trans (hx q hq).2⟩
      have I' : Inv c' r' := Inv_f I b2 (fun T' _ _ => ⟨fun q _ => d2 0 q (by decide), fun o q h1 h2 => d2 o q (by omega), fun t _ => ⟨d2 10 t (by decide), d2 11 t (by decide)⟩, fun q => ⟨d2 13 q (by decide), d2 23 q (by decide)⟩, fun q _ => d2 17 q (by decide)⟩)
      rw [b1, d1]
      by_cases y : a3 = 2
      · rw [if_pos y, if_pos y, su_all hxc, sR_all hxr, bd_s, bd_s]
        exact SimE.mk' rfl rfl rfl I'
      · rw [if_neg y, if_neg y, cp_all hxc, cr_all hxr, bd_s]
        exact SimE.mk' rfl rfl rfl I'
end
section
/-! PRACTICE -/
/-- what one practice changes -/
def pF (v : Nat) : Nat := if v = 0 then 5 else if v = 1 then 4 else if v = 2 then 6 else 7
def pV (v : Nat) (J : Nat → Int32) : Int32 := if v = 0 then J 5 - 1 else if v = 1 then J 4 - 1 else if v = 2 then J 6 + 1 else if v = 3 then J 7 + 1 else J 7 - 1
theorem j109 {h : AH} : X10_practised_j109 h = some (if 0 ≤ (h.1 72 5).toInt ∧ 0 ≤ (h.1 72 4).toInt ∧ (h.1 72 6).toInt ≤ 99 ∧ 0 ≤ (h.1 72 7).toInt ∧ (h.1 72 7).toInt ≤ 4 then 1 else 0, h) := by
  have t0 : (0 : Int32).toInt = 0 := rfl
  have t4 : (4 : Int32).toInt = 4 := rfl
  have t9 : (99 : Int32).toInt = 99 := rfl
  unfold X10_practised_j109
  simp only [cz_0, cz_1, fa_lt, t0, t4, t9]
  by_cases h1 : (h.1 72 5).toInt < 0
  · rw [if_pos h1, if_neg (by omega)]
  · rw [if_neg h1]
    by_cases h2 : (h.1 72 4).toInt < 0
    · rw [if_pos h2, if_neg (by omega)]
    · rw [if_neg h2]
      by_cases h3 : 99 < (h.1 72 6).toInt
      · rw [if_pos h3, if_neg (by omega)]
      · rw [if_neg h3]
        by_cases h4 : (h.1 72 7).toInt < 0
        · rw [if_pos h4, if_neg (by omega)]
        · rw [if_neg h4]
          by_cases h5 : 4 < (h.1 72 7).toInt
          · rw [if_pos h5, if_neg (by omega)]
          · rw [if_neg h5, if_pos (by omega)]
theorem pr_c {h rt : AH} {J : Nat → Int32} {j v : Nat} (hs : SPJ h J) (hJ : NJ J) (hj : j < 4) (hv : v < 5) (hr : ∀ k, 1 ≤ k → k ≤ 8 → rt.1 (k + 1) j = J k) :
    ∃ ok : Bool, X10_practised (nI v) h = some (if ok = true then 1 else 0, sI h 72 (pF v) (pV v J)) ∧ X11_canPractise (nI j) (nI v) rt = some (if ok = true then 1 else 0, rt) ∧ (ok = true → NJ (fun k => if k = pF v then pV v J else J k)) := by
  obtain ⟨κ, f, a, g, s, p, l, m, hκ, hf, ha, hg, hss, hpp, hl, hm, e1, e2, e3, e4, e5, e6, e7, e8⟩ := hJ
  have z : ∀ k, 1 ≤ k → k ≤ 8 → h.1 72 k = J k := hs.1
  have t0 : (0 : Int32).toInt = 0 := rfl
  have t1 : (1 : Int32).toInt = 1 := rfl
  have t4 : (4 : Int32).toInt = 4 := rfl
  have t99 : (99 : Int32).toInt = 99 := rfl
  have i5 : (J 5).toInt = s := by rw [e5, toInt_nI (by omega)]
  have i4 : (J 4).toInt = g := by rw [e4, toInt_nI (by omega)]
  have i6 : (J 6).toInt = p := by rw [e6, toInt_nI (by omega)]
  have i7 : (J 7).toInt = l := by rw [e7, toInt_nI (by omega)]
  have x5 : (J 5 - 1).toInt = (s : Int) - 1 := by rw [fb_subI (by omega) (by omega)]; omega
  have x4 : (J 4 - 1).toInt = (g : Int) - 1 := by rw [fb_subI (by omega) (by omega)]; omega
  have x6 : (J 6 + 1).toInt = (p : Int) + 1 := by rw [fb_addI (by omega) (by omega)]; omega
  have x7 : (J 7 + 1).toInt = (l : Int) + 1 := by rw [fb_addI (by omega) (by omega)]; omega
  have y7 : (J 7 - 1).toInt = (l : Int) - 1 := by rw [fb_subI (by omega) (by omega)]; omega
  rcases (by omega : v = 0 ∨ v = 1 ∨ v = 2 ∨ v = 3 ∨ v = 4) with q | q | q | q | q <;> subst q
  · refine ⟨decide (1 ≤ s), ?_, ?_, fun ok => ?_⟩
    · have e : X10_practised (nI 0) h = X10_practised_j109 (sI h 72 5 (h.1 72 5 - 1)) := rfl
      rw [e, j109, z 5 (by omega) (by omega), sI_y, sI_n (by omega), sI_n (by omega), sI_n (by omega), z 4 (by omega) (by omega), z 6 (by omega) (by omega), z 7 (by omega) (by omega), x5, i4, i6, i7]
      by_cases o : 1 ≤ s
      · rw [if_pos (by omega), if_pos (decide_eq_true o)]; rfl
      · rw [if_neg (by omega), if_neg (by rw [decide_eq_false o]; decide)]; rfl
    · have e : X11_canPractise (nI j) (nI 0) rt = ck (nI j) 4 (if rt.1 6 (nI j).toNatClampNeg ≤ 0 then (cz 0 (some (0, rt))) else (cz 1 (some (1, rt)))) := rfl
      have w := hr 5 (by omega) (by omega)
      have w : rt.1 6 j = J 5 := w
      rw [e, ck_nI _ hj (by decide), nI_clamp (by omega), w, cz_0, cz_1]
      by_cases o : 1 ≤ s
      · rw [if_neg (by rw [fa_le, i5, t0]; omega), if_pos (decide_eq_true o)]
      · rw [if_pos (by rw [fa_le, i5, t0]; omega), if_neg (by rw [decide_eq_false o]; decide)]
    · have o := of_decide_eq_true ok
      exact ⟨κ, f, a, g, s - 1, p, l, m, hκ, hf, ha, hg, by omega, hpp, hl, hm, e1, e2, e3, e4, by rw [fa_eq, toInt_nI (by omega)]; show (J 5 - 1).toInt = _; omega, e6, e7, e8⟩
  · refine ⟨decide (1 ≤ g), ?_, ?_, fun ok => ?_⟩
    · have e : X10_practised (nI 1) h = X10_practised_j109 (sI h 72 4 (h.1 72 4 - 1)) := rfl
      rw [e, j109, z 4 (by omega) (by omega), sI_y, sI_n (by omega), sI_n (by omega), sI_n (by omega), z 5 (by omega) (by omega), z 6 (by omega) (by omega), z 7 (by omega) (by omega), x4, i5, i6, i7]
      by_cases o : 1 ≤ g
      · rw [if_pos (by omega), if_pos (decide_eq_true o)]; rfl
      · rw [if_neg (by omega), if_neg (by rw [decide_eq_false o]; decide)]; rfl
    · have e : X11_canPractise (nI j) (nI 1) rt = ck (nI j) 4 (if rt.1 5 (nI j).toNatClampNeg ≤ 0 then (cz 0 (some (0, rt))) else (cz 1 (some (1, rt)))) := rfl
      have w : rt.1 5 j = J 4 := hr 4 (by omega) (by omega)
      rw [e, ck_nI _ hj (by decide), nI_clamp (by omega), w, cz_0, cz_1]
      by_cases o : 1 ≤ g
      · rw [if_neg (by rw [fa_le, i4, t0]; omega), if_pos (decide_eq_true o)]
      · rw [if_pos (by rw [fa_le, i4, t0]; omega), if_neg (by rw [decide_eq_false o]; decide)]
    · have o := of_decide_eq_true ok
      exact ⟨κ, f, a, g - 1, s, p, l, m, hκ, hf, ha, by omega, hss, hpp, hl, hm, e1, e2, e3, by rw [fa_eq, toInt_nI (by omega)]; show (J 4 - 1).toInt = _; omega, e5, e6, e7, e8⟩
  · refine ⟨decide (p < 99), ?_, ?_, fun ok => ?_⟩
    · have e : X10_practised (nI 2) h = X10_practised_j109 (sI h 72 6 (h.1 72 6 + 1)) := rfl
      rw [e, j109, z 6 (by omega) (by omega), sI_y, sI_n (by omega), sI_n (by omega), sI_n (by omega), z 5 (by omega) (by omega), z 4 (by omega) (by omega), z 7 (by omega) (by omega), x6, i5, i4, i7]
      by_cases o : p < 99
      · rw [if_pos (by omega), if_pos (decide_eq_true o)]; rfl
      · rw [if_neg (by omega), if_neg (by rw [decide_eq_false o]; decide)]; rfl
    · have e : X11_canPractise (nI j) (nI 2) rt = ck (nI j) 4 (if 99 ≤ rt.1 7 (nI j).toNatClampNeg then (cz 0 (some (0, rt))) else (cz 1 (some (1, rt)))) := rfl
      have w : rt.1 7 j = J 6 := hr 6 (by omega) (by omega)
      rw [e, ck_nI _ hj (by decide), nI_clamp (by omega), w, cz_0, cz_1]
      by_cases o : p < 99
      · rw [if_neg (by rw [fa_le, i6, t99]; omega), if_pos (decide_eq_true o)]
      · rw [if_pos (by rw [fa_le, i6, t99]; omega), if_neg (by rw [decide_eq_false o]; decide)]
    · have o := of_decide_eq_true ok
      exact ⟨κ, f, a, g, s, p + 1, l, m, hκ, hf, ha, hg, hss, by omega, hl, hm, e1, e2, e3, e4, e5, by rw [fa_eq, toInt_nI (by omega)]; show (J 6 + 1).toInt = _; omega, e7, e8⟩
  · refine ⟨decide (l < 4), ?_, ?_, fun ok => ?_⟩
    · have e : X10_practised (nI 3) h = X10_practised_j109 (sI h 72 7 (h.1 72 7 + 1)) := rfl
      rw [e, j109, z 7 (by omega) (by omega), sI_y, sI_n (by omega), sI_n (by omega), sI_n (by omega), z 5 (by omega) (by omega), z 4 (by omega) (by omega), z 6 (by omega) (by omega), x7, i5, i4, i6]
      by_cases o : l < 4
      · rw [if_pos (by omega), if_pos (decide_eq_true o)]; rfl
      · rw [if_neg (by omega), if_neg (by rw [decide_eq_false o]; decide)]; rfl
    · have e : X11_canPractise (nI j) (nI 3) rt = ck (nI j) 4 (if 4 ≤ rt.1 8 (nI j).toNatClampNeg then (cz 0 (some (0, rt))) else (cz 1 (some (1, rt)))) := rfl
      have w : rt.1 8 j = J 7 := hr 7 (by omega) (by omega)
      rw [e, ck_nI _ hj (by decide), nI_clamp (by omega), w, cz_0, cz_1]
      by_cases o : l < 4
      · rw [if_neg (by rw [fa_le, i7, t4]; omega), if_pos (decide_eq_true o)]
      · rw [if_pos (by rw [fa_le, i7, t4]; omega), if_neg (by rw [decide_eq_false o]; decide)]
    · have o := of_decide_eq_true ok
      exact ⟨κ, f, a, g, s, p, l + 1, m, hκ, hf, ha, hg, hss, hpp, by omega, hm, e1, e2, e3, e4, e5, e6, by rw [fa_eq, toInt_nI (by omega)]; show (J 7 + 1).toInt = _; omega, e8⟩
  · refine ⟨decide (1 ≤ l), ?_, ?_, fun ok => ?_⟩
    · have e : X10_practised (nI 4) h = X10_practised_j109 (sI h 72 7 (h.1 72 7 - 1)) := rfl
      rw [e, j109, z 7 (by omega) (by omega), sI_y, sI_n (by omega), sI_n (by omega), sI_n (by omega), z 5 (by omega) (by omega), z 4 (by omega) (by omega), z 6 (by omega) (by omega), y7, i5, i4, i6]
      by_cases o : 1 ≤ l
      · rw [if_pos (by omega), if_pos (decide_eq_true o)]; rfl
      · rw [if_neg (by omega), if_neg (by rw [decide_eq_false o]; decide)]; rfl
    · have e : X11_canPractise (nI j) (nI 4) rt = ck (nI j) 4 (if rt.1 8 (nI j).toNatClampNeg ≤ 0 then (cz 0 (some (0, rt))) else (cz 1 (some (1, rt)))) := rfl
      have w : rt.1 8 j = J 7 := hr 7 (by omega) (by omega)
      rw [e, ck_nI _ hj (by decide), nI_clamp (by omega), w, cz_0, cz_1]
      by_cases o : 1 ≤ l
      · rw [if_neg (by rw [fa_le, i7, t0]; omega), if_pos (decide_eq_true o)]
      · rw [if_pos (by rw [fa_le, i7, t0]; omega), if_neg (by rw [decide_eq_false o]; decide)]
    · have o := of_decide_eq_true ok
      exact ⟨κ, f, a, g, s, p, l - 1, m, hκ, hf, ha, hg, hss, hpp, by omega, hm, e1, e2, e3, e4, e5, e6, by rw [fa_eq, toInt_nI (by omega)]; show (J 7 - 1).toInt = _; omega, e8⟩
theorem pr_p {rt : AH} {J : Nat → Int32} {j v : Nat} (hj : j < 4) (hv : v < 5) (hr : ∀ k, 1 ≤ k → k ≤ 8 → rt.1 (k + 1) j = J k) : X11_practises (nI j) (nI v) 1 rt = some ((), sI rt (pF v + 1) j (pV v J)) ∧ ∀ g : AH, g.1 (pF v + 1) j = pV v J → X11_practises (nI j) (nI v) (-1) g = some ((), sI g (pF v + 1) j (J (pF v))) := by
  have hjc : (nI j).toNatClampNeg = j := nI_clamp (by omega)
  have w5 : rt.1 6 j = J 5 := hr 5 (by omega) (by omega)
  have w4 : rt.1 5 j = J 4 := hr 4 (by omega) (by omega)
  have w6 : rt.1 7 j = J 6 := hr 6 (by omega) (by omega)
  have w7 : rt.1 8 j = J 7 := hr 7 (by omega) (by omega)
  have s1 : ∀ x : Int32, x - 1 - -1 = x := fun x => by rw [Int32.sub_neg, Int32.sub_add_cancel]
  have s2 : ∀ x : Int32, x + 1 + -1 = x := fun x => by rw [← Int32.sub_eq_add_neg, Int32.add_sub_cancel]
  rcases (by omega : v = 0 ∨ v = 1 ∨ v = 2 ∨ v = 3 ∨ v = 4) with q | q | q | q | q <;> subst q
  · refine ⟨?_, fun g hg => ?_⟩
    · have e : X11_practises (nI j) (nI 0) 1 rt = ck (nI j) 4 (ck (nI j) 4 (some ((), sI rt 6 (nI j).toNatClampNeg ((rt.1 6 (nI j).toNatClampNeg) - 1)))) := rfl
      rw [e, ck_nI _ hj (by decide), ck_nI _ hj (by decide), hjc, w5]
      rfl
    · have hg : g.1 6 j = J 5 - 1 := hg
      have e : X11_practises (nI j) (nI 0) (-1) g = ck (nI j) 4 (ck (nI j) 4 (some ((), sI g 6 (nI j).toNatClampNeg ((g.1 6 (nI j).toNatClampNeg) - -1)))) := rfl
      rw [e, ck_nI _ hj (by decide), ck_nI _ hj (by decide), hjc, hg, s1]
      rfl
  · refine ⟨?_, fun g hg => ?_⟩
    · have e : X11_practises (nI j) (nI 1) 1 rt = ck (nI j) 4 (ck (nI j) 4 (some ((), sI rt 5 (nI j).toNatClampNeg ((rt.1 5 (nI j).toNatClampNeg) - 1)))) := rfl
      rw [e, ck_nI _ hj (by decide), ck_nI _ hj (by decide), hjc, w4]
      rfl
    · have hg : g.1 5 j = J 4 - 1 := hg
      have e : X11_practises (nI j) (nI 1) (-1) g = ck (nI j) 4 (ck (nI j) 4 (some ((), sI g 5 (nI j).toNatClampNeg ((g.1 5 (nI j).toNatClampNeg) - -1)))) := rfl
      rw [e, ck_nI _ hj (by decide), ck_nI _ hj (by decide), hjc, hg, s1]
      rfl
  · refine ⟨?_, fun g hg => ?_⟩
    · have e : X11_practises (nI j) (nI 2) 1 rt = ck (nI j) 4 (ck (nI j) 4 (some ((), sI rt 7 (nI j).toNatClampNeg ((rt.1 7 (nI j).toNatClampNeg) + 1)))) := rfl
      rw [e, ck_nI _ hj (by decide), ck_nI _ hj (by decide), hjc, w6]
      rfl
    · have hg : g.1 7 j = J 6 + 1 := hg
      have e : X11_practises (nI j) (nI 2) (-1) g = ck (nI j) 4 (ck (nI j) 4 (some ((), sI g 7 (nI j).toNatClampNeg ((g.1 7 (nI j).toNatClampNeg) + -1)))) := rfl
      rw [e, ck_nI _ hj (by decide), ck_nI _ hj (by decide), hjc, hg, s2]
      rfl
  · refine ⟨?_, fun g hg => ?_⟩
    · have e : X11_practises (nI j) (nI 3) 1 rt = ck (nI j) 4 (ck (nI j) 4 (some ((), sI rt 8 (nI j).toNatClampNeg ((rt.1 8 (nI j).toNatClampNeg) + 1)))) := rfl
      rw [e, ck_nI _ hj (by decide), ck_nI _ hj (by decide), hjc, w7]
      rfl
    · have hg : g.1 8 j = J 7 + 1 := hg
      have e : X11_practises (nI j) (nI 3) (-1) g = ck (nI j) 4 (ck (nI j) 4 (some ((), sI g 8 (nI j).toNatClampNeg ((g.1 8 (nI j).toNatClampNeg) + -1)))) := rfl
      rw [e, ck_nI _ hj (by decide), ck_nI _ hj (by decide), hjc, hg, s2]
      rfl
  · refine ⟨?_, fun g hg => ?_⟩
    · have e : X11_practises (nI j) (nI 4) 1 rt = ck (nI j) 4 (ck (nI j) 4 (some ((), sI rt 8 (nI j).toNatClampNeg ((rt.1 8 (nI j).toNatClampNeg) - 1)))) := rfl
      rw [e, ck_nI _ hj (by decide), ck_nI _ hj (by decide), hjc, w7]
      rfl
    · have hg : g.1 8 j = J 7 - 1 := hg
      have e : X11_practises (nI j) (nI 4) (-1) g = ck (nI j) 4 (ck (nI j) 4 (some ((), sI g 8 (nI j).toNatClampNeg ((g.1 8 (nI j).toNatClampNeg) - -1)))) := rfl
      rw [e, ck_nI _ hj (by decide), ck_nI _ hj (by decide), hjc, hg, s1]
      rfl
end
section
/-! PRACTICE, the call; BESTRUN -/
theorem l_prac {c r : AH} {S G N T j : Nat} {pl : Int32} (M : MR 42 c r S G N T) (hW : WT c) (hj : j < 4) (hp : -5000 ≤ pl.toInt) (hp2 : pl.toInt ≤ 5000) : ∀ (f v : Nat) (m : Int64) (best : Int32) (ct rt : AH), 5 < v + f → v ≤ 5 → PC c ct → rt.1 = r.1 → 0 ≤ m.toInt →
    ∃ b c' r', X10_practice_l51 (nI j) pl f m best (nI v) ct = some (b, c') ∧ X11_practice_l33 (nI j) pl f m best (nI v) rt = some (b, r') ∧ PC c c' ∧ r'.1 = r.1 := by
  have hR := M.1
  obtain ⟨rS, rG, rN, rT, hS, hG, hN, hT, hWW, hJ, hH⟩ := id hR
  intro f
  induction f with
  | zero => intro v m best ct rt h1; omega
  | succ f ih =>
    intro v m best ct rt h1 h2 p q hm
    rw [X10_practice_l51.eq_2, X11_practice_l33.eq_2]
    by_cases z : v = 5
    · subst z
      rw [if_pos (show (5 : Int32) ≤ nI 5 by decide), if_pos (show (5 : Int32) ≤ nI 5 by decide)]
      exact ⟨_, _, _, rfl, rfl, p, q⟩
    · obtain ⟨h1', b1, b2, b3⟩ := sp_copy (p.MR M) hj
      have hr : ∀ k, 1 ≤ k → k ≤ 8 → rt.1 (k + 1) j = RJ r j k := fun k _ _ => by rw [q]; rfl
      obtain ⟨ok, d1, d2, d3⟩ := pr_c (v := v) b3 (hJ j hj) hj (by omega) hr
      rw [if_neg (show ¬ (5 : Int32) ≤ nI v from nI_ge (b := 5) (by omega) (by decide)), if_neg (show ¬ (5 : Int32) ≤ nI v from nI_ge (b := 5) (by omega) (by decide)), s_at42 hj, bd_s, cs_in _ (zc42 hj), b1, bd_s, d1, bd_s, d2, bd_s]
      unfold X10_practice_j92 X10_practice_j110 X11_practice_j95
      have pp : PC c (sI h1' 72 (pF v) (pV v (RJ r j))) := (p.tr b2).tr (PC.sp h1' _)
      by_cases o : ok = true
      · rw [if_pos o, i_10, i_10]
        have hJ' := d3 o
        have hpf : 4 ≤ pF v ∧ pF v ≤ 7 := by unfold pF; repeat' split
                                             all_goals omega
        have sp : SPJ (sI h1' 72 (pF v) (pV v (RJ r j))) (fun k => if k = pF v then pV v (RJ r j) else RJ r j k) := by
          refine ⟨fun k k1 k2 => ?_, ?_⟩
          · show (sI h1' 72 (pF v) (pV v (RJ r j))).1 72 k = if k = pF v then pV v (RJ r j) else RJ r j k
            rw [sI_at]
            by_cases y : k = pF v
            · rw [if_pos ⟨rfl, y⟩, if_pos y]
            · rw [if_neg (fun w => y w.2), if_neg y]
              exact b3.1 k k1 k2
          · obtain ⟨κ, x, y, w⟩ := b3.2
            exact ⟨κ, x, y, by rw [sI_n (by omega)]; exact w⟩
        obtain ⟨c2, s1, s2, s3, s4, s5⟩ := sp_spread (wd := r.1 0 14) (S2 := S) sp hJ' (pp.WT hW) hWW hS.1 hS.2 hp hp2
        have M2 := pp.MR M
        have em : X10_meanAt pl (sI h1' 72 (pF v) (pV v (RJ r j))) = some (RV (fun k => if k = pF v then pV v (RJ r j) else RJ r j k) (r.1 0 14) pl S p2, c2) := by
          unfold X10_meanAt
          rw [M2.2.1.1, M2.2.1.2.1, s1, bd_s, s_mean, bd_s, s5]
        obtain ⟨u1, u2⟩ := pr_p (v := v) hj (by omega) hr
        obtain ⟨g, eg⟩ : ∃ g, g = sI rt (pF v + 1) j (pV v (RJ r j)) := ⟨_, rfl⟩
        have qg : ∀ o k, ¬ (o = pF v + 1 ∧ k = j) → g.1 o k = r.1 o k := fun o k y => by rw [eg, sI_n y, q]
        have gv : g.1 (pF v + 1) j = pV v (RJ r j) := by rw [eg, sI_y]
        have eJ : ∀ k, 1 ≤ k → k ≤ 8 → (fun k => if k = pF v then pV v (RJ r j) else RJ r j k) k = RJ g j k := by
          intro k k1 k2
          show (if k = pF v then pV v (RJ r j) else RJ r j k) = g.1 (k + 1) j
          by_cases y : k = pF v
          · rw [if_pos y, y]; exact gv.symm
          · rw [if_neg y]; exact (qg (k + 1) j (by omega)).symm
        have g14 : g.1 0 14 = r.1 0 14 := qg 0 14 (by omega)
        have g12 : g.1 0 12 = nI S := by rw [qg 0 12 (by omega)]; exact rS
        obtain ⟨g2, t1, t2⟩ := (u_count (h := g) (j := j) (S := S) hj (NJ_J eJ hJ') g12 (by rw [g14]; exact hWW) hS.1 hS.2 hp hp2).2.2.1 0
        have gv2 : g2.1 (pF v + 1) j = pV v (RJ r j) := by rw [t2.1]; exact gv
        have u3 := u2 g2 gv2
        have qe : (sI g2 (pF v + 1) j (RJ r j (pF v))).1 = r.1 := by
          funext o k
          rw [sI_at]
          by_cases y : o = pF v + 1 ∧ k = j
          · rw [if_pos y, y.1, y.2]; rfl
          · rw [if_neg y, t2.1]; exact qg o k y
        rw [em, bd_s, u1, bd_s, ← eg, t1, bd_s, u3, bd_s, g14, ← RV_J eJ]
        have hpos : 0 ≤ (RV (fun k => if k = pF v then pV v (RJ r j) else RJ r j k) (r.1 0 14) pl S p2).toInt := by
          obtain ⟨V, v1, v2⟩ := rv_2 hJ' hWW hS.1 hS.2 hp hp2
          have hpw := pw_b hS.2
          rw [v1, pk_lT (by omega)]
          omega
        have lc := lc_gt (RV (fun k => if k = pF v then pV v (RJ r j) else RJ r j k) (r.1 0 14) pl S p2) m
        simp only [vl_e, nI_1]
        by_cases y : m < RV (fun k => if k = pF v then pV v (RJ r j) else RJ r j k) (r.1 0 14) pl S p2
        · rw [if_neg (fun w => lc.1.mp w y), if_pos (lc.2.mpr y)]
          exact ih (v + 1) _ _ c2 _ (by omega) (by omega) (pp.tr s4) qe hpos
        · rw [if_pos (lc.1.mpr y), if_neg (fun w => y (lc.2.mp w))]
          exact ih (v + 1) _ _ c2 _ (by omega) (by omega) (pp.tr s4) qe hm
      · rw [if_neg o, i_0, i_0]
        simp only [vl_e, nI_1]
        have lc := lc_gt (-1) m
        rw [if_pos (lc.1.mpr (fun w => by
          have t1 : (-1 : Int64).toInt = -1 := rfl
          rw [fa_lt64, t1] at w
          omega))]
        exact ih (v + 1) _ _ _ _ (by omega) (by omega) pp q hm
theorem o_practice {c r : AH} {a1 : Int32} (I : Inv c r) : SimE (X10_practice a1 c) (X11_practice a1 r) Inv := by
  obtain ⟨⟨S, G, N, T, M⟩, hW, hL, hRow, hRF, hIM⟩ := id I
  have hN := M.1.2.2.2.2.2.2.1
  have hS := M.1.2.2.2.2.1
  have hw := M.1.2.2.2.2.2.2.2.2.1
  unfold X10_practice X11_practice
  rcases jm a1 hN with hz | ⟨j, hj, rfl⟩
  · rw [nb_n M.2.1.2.2.2.1 hz, bd_s, ij_n M.1.2.2.1 hz, bd_s, i_0, i_1]
    exact rfs (x := -1) I (by decide)
  · have hj4 : j < 4 := by omega
    have hJ := M.1.2.2.2.2.2.2.2.2.2.1 j hj4
    have hpl := pl_b M.1 hj4 hw
    rw [nb_y M.2.1.2.2.2.1 hN hj, bd_s, ij_y M.1.2.2.1 hN hj, bd_s, i_10, i_0, s_placeC hj4 (M.2.2.1 j hj4).2 (by omega : S < 4000) M.2.1.1, bd_s, pl_eq M hj4, s_placeR hj4 (by omega : S < 4000) M.1.1, bd_s, s_at42 hj4, bd_s, cs_in _ (zc42 hj4)]
    obtain ⟨c', s1, s2, s3, s4, s5, s6, s7, s8, s9, s10⟩ := k_spread 0 M hW hj4 hw hS.1 hS.2 hpl.1 hpl.2
    obtain ⟨r', t1, t2⟩ := (u_count hj4 hJ M.1.1 hw hS.1 hS.2 hpl.1 hpl.2).2.2.1 0
    have e1 : X10_spreadAt (48 + j) (r.1 9 j - pathS (r.1 2 j) (r.1 4 j) (r.1 5 j) (r.1 0 14) S) c = some ((), c') := by
      unfold X10_spreadAt
      rw [M.2.1.1, M.2.1.2.1, s1, bd_s]
    have e2 : X11_meanParts (nI j) r = some (RV (RJ r j) (r.1 0 14) (r.1 9 j - pathS (r.1 2 j) (r.1 4 j) (r.1 5 j) (r.1 0 14) S) S p2, r') := by
      unfold X11_meanParts
      rw [s_placeR hj4 (by omega : S < 4000) M.1.1, bd_s, t1, bd_s]
    have hpos : 0 ≤ (RV (RJ r j) (r.1 0 14) (r.1 9 j - pathS (r.1 2 j) (r.1 4 j) (r.1 5 j) (r.1 0 14) S) S p2).toInt := by
      obtain ⟨V, v1, v2⟩ := rv_2 hJ hw hS.1 hS.2 hpl.1 hpl.2
      have hpw := pw_b hS.2
      rw [v1, pk_lT (by omega)]
      omega
    rw [e1, bd_s, s_mean, bd_s, s7, e2, bd_s, vl_e, vl_e]
    obtain ⟨b, c2, r2, d1, d2, d3, d4⟩ := l_prac M hW hj4 hpl.1 hpl.2 FU 0 (RV (RJ r j) (r.1 0 14) (r.1 9 j - pathS (r.1 2 j) (r.1 4 j) (r.1 5 j) (r.1 0 14) S) S p2) (-9) c' r' (by unfold FU; omega) (by omega) (k_PC s2 s3 s4) t2.1 hpos
    exact SimE.mk' d1 d2 rfl (Inv_f I d3 (fun _ _ _ => PR.L d4))
/-! BESTRUN: one number of STRIDES after another -/
theorem sh64 (V : Nat) {k : Nat} (hk : k < 64) : shl64 (lN V) (nI k) = lN (V * 2 ^ k) := wb_shl V hk
theorem l_run {c r : AH} {S G N T j : Nat} (M : MR 42 c r S G N T) (hW : WT c) (hj : j < 4) : ∀ (f n b : Nat) (mc mr : Int64) (ct rt : AH), 21 < n + f → 4 ≤ n → n ≤ 21 → 4 ≤ b → b ≤ 20 → b ≤ n → PC c ct → (∀ o k, ¬ (o = 0 ∧ k = 12) → rt.1 o k = r.1 o k) → ((mc = -1 ∧ mr = -1) ∨ ∃ W, W ≤ 435 * 2 ^ (2 * b) ∧ mr = lN W ∧ mc = lN (W * 2 ^ (2 * (20 - b)))) →
    ∃ x c' r', X10_bestRun_l36 (48 + j) f (nI b) mc (nI n) ct = some (x, c') ∧ X11_bestRun_l29 (nI j) (r.1 0 12) f (nI b) mr (nI n) rt = some (x, r') ∧ PC c c' ∧ r'.1 = r.1 := by
  have hR := M.1
  obtain ⟨rS, rG, rN, rT, hS, hG, hN, hT, hWW, hJ, hH⟩ := id hR
  intro f
  induction f with
  | zero => intro n b mc mr ct rt h1 h2 h3; omega
  | succ f ih =>
    intro n b mc mr ct rt h1 h2 h3 h4 h5 h6 p q hm
    rw [X10_bestRun_l36.eq_2, X11_bestRun_l29.eq_2]
    by_cases z : n = 21
    · subst z
      rw [if_pos (show (20 : Int32) < nI 21 by decide), if_pos (show (20 : Int32) < nI 21 by decide), vl_e]
      refine ⟨_, _, _, rfl, rfl, p, ?_⟩
      funext o k
      rw [sI_at]
      by_cases y : o = 0 ∧ k = 12
      · rw [if_pos y, y.1, y.2]
      · rw [if_neg y]; exact q o k y
    · have Mt := p.MR M
      obtain ⟨f', hf, ef⟩ : ∃ f', f' ≤ 9 ∧ r.1 3 j = nI f' := by
        obtain ⟨κ, f', a, g, s, pp, l, m, hκ, hf, ha, hg, hs, hpp, hl, hm, e1, e2, e3, e4, e5, e6, e7, e8⟩ := hJ j hj
        exact ⟨f', hf, e2⟩
      have ha := aim_b (kd := r.1 2 j) hf ef
      have hp : -5000 ≤ (aimS (r.1 2 j) (r.1 3 j)).toInt := by omega
      have hp2 : (aimS (r.1 2 j) (r.1 3 j)).toInt ≤ 5000 := by omega
      have hcj : ∀ k, 1 ≤ k → k ≤ 8 → ct.1 (48 + j) k = r.1 (k + 1) j := (Mt.2.2.1 j hj).1
      obtain ⟨c', s1, s2, s3, s4, s5, s6, s7, s8, s9, s10⟩ := k_spread (S2 := n) 0 Mt (p.WT hW) hj hWW h2 (by omega) hp hp2
      obtain ⟨g, eg⟩ : ∃ g, g = sI rt 0 12 (nI n) := ⟨_, rfl⟩
      have qg : ∀ o k, ¬ (o = 0 ∧ k = 12) → g.1 o k = r.1 o k := fun o k h => by rw [eg, sI_n h]; exact q o k h
      have g12 : g.1 0 12 = nI n := by rw [eg, sI_y]
      have g14 : g.1 0 14 = r.1 0 14 := qg 0 14 (by omega)
      have hRJ : ∀ k, 1 ≤ k → k ≤ 8 → RJ r j k = RJ g j k := fun k k1 k2 => (qg (k + 1) j (by omega)).symm
      obtain ⟨r', t1, t2⟩ := (u_count (h := g) (j := j) (S := n) hj (NJ_J hRJ (hJ j hj)) g12 (by rw [g14]; exact hWW) h2 (by omega) hp hp2).2.2.1 0
      rw [g14, ← RV_J hRJ] at t1
      obtain ⟨V, v1, v2⟩ := rv_2 (S := n) (hJ j hj) hWW h2 (by omega) hp hp2
      rw [v1] at t1 s7
      have ea : X11_aimOf (nI j) g = some (aimS (r.1 2 j) (r.1 3 j), g) := by
        rw [s_aimR hj, qg 2 j (by omega), qg 3 j (by omega)]
      have e20 : (20 : Int32) - nI n = nI (20 - n) := pk_sub (a := 20) (b := n) (by omega)
      have e2 : (2 : Int32) * nI (20 - n) = nI (2 * (20 - n)) := pk_mul 2 _
      have e3 : nI n - nI b = nI (n - b) := pk_sub h6
      have e4 : (2 : Int32) * nI (n - b) = nI (2 * (n - b)) := pk_mul 2 _
      have sh1 : shl64 1 (nI (2 * (n - b))) = lN (2 ^ (2 * (n - b))) := by
        have := sh64 1 (k := 2 * (n - b)) (by omega)
        rw [Nat.one_mul] at this
        exact this
      rw [if_neg (show ¬ (20 : Int32) < nI n from nI_nlt (a := 20) (by omega) (by decide)), if_neg (show ¬ (20 : Int32) < nI n from nI_nlt (a := 20) (by omega) (by decide)), s_aimC (Mt.2.2.1 j hj).2, bd_s, hcj 1 (by omega) (by omega), hcj 2 (by omega) (by omega), Mt.2.1.2.1, s1, bd_s, s_mean, bd_s, s7, e20, e2, sh64 V (by omega), vl_e, vl_e, ← eg, ea, bd_s, t1, bd_s, e3, e4, sh1, vl_e]
      have p' : PC c c' := p.tr (k_PC s2 s3 s4)
      have q' : ∀ o k, ¬ (o = 0 ∧ k = 12) → r'.1 o k = r.1 o k := fun o k h => by rw [t2.1]; exact qg o k h
      have w1 : 2 ^ (2 * n) * 2 ^ (2 * (20 - n)) = 2 ^ 40 := by rw [← Nat.pow_add, show 2 * n + 2 * (20 - n) = 40 by omega]
      have hV : V * 2 ^ (2 * (20 - n)) ≤ 435 * 2 ^ 40 := by
        rw [← w1, ← Nat.mul_assoc]
        exact Nat.mul_le_mul_right _ v2
      have pw1 : 0 < 2 ^ (2 * (20 - n)) := Nat.two_pow_pos _
      have hV0 : V ≤ 435 * 2 ^ 40 := Nat.le_trans (Nat.le_mul_of_pos_right V pw1) hV
      unfold X10_bestRun_j102 X11_bestRun_j87 X11_bestRun_j94
      simp only [vl_e, nI_1]
      have new : ∃ x c'_1 r'_1, X10_bestRun_l36 (48 + j) f (nI n) (lN (V * 2 ^ (2 * (20 - n)))) (nI (n + 1)) c' = some (x, c'_1) ∧ X11_bestRun_l29 (nI j) (r.1 0 12) f (nI n) (lN V) (nI (n + 1)) r' = some (x, r'_1) ∧ PC c c'_1 ∧ r'_1.1 = r.1 :=
        ih (n + 1) n _ _ c' r' (by omega) (by omega) (by omega) h2 (by omega) (by omega) p' q' (Or.inr ⟨V, v2, rfl, rfl⟩)
      rcases hm with ⟨m1, m2⟩ | ⟨W, m0, m1, m2⟩
      · have lcC := lc_gt (lN (V * 2 ^ (2 * (20 - n)))) mc
        rw [if_neg (fun w => lcC.1.mp w (by
          have t1 : (-1 : Int64).toInt = -1 := rfl
          rw [m1, fa_lt64, t1, pk_lT (by omega)]
          omega)), if_pos (by rw [m2]; decide)]
        exact new
      · have w2 : 2 ^ (2 * b) * 2 ^ (2 * (20 - b)) = 2 ^ 40 := by rw [← Nat.pow_add, show 2 * b + 2 * (20 - b) = 40 by omega]
        have w3 : 2 ^ (2 * (n - b)) * 2 ^ (2 * (20 - n)) = 2 ^ (2 * (20 - b)) := by rw [← Nat.pow_add, show 2 * (n - b) + 2 * (20 - n) = 2 * (20 - b) by omega]
        have hW2 : W * 2 ^ (2 * (20 - b)) ≤ 435 * 2 ^ 40 := by
          rw [← w2, ← Nat.mul_assoc]
          exact Nat.mul_le_mul_right _ m0
        have hW3 : W * 2 ^ (2 * (n - b)) ≤ 435 * 2 ^ 40 := by
          refine Nat.le_trans ?_ hW2
          rw [← w3, ← Nat.mul_assoc]
          exact Nat.le_mul_of_pos_right _ pw1
        have hW0 : W ≤ 435 * 2 ^ 40 := Nat.le_trans (Nat.le_mul_of_pos_right W (Nat.two_pow_pos _)) hW2
        have key : (W * 2 ^ (2 * (20 - b)) < V * 2 ^ (2 * (20 - n))) ↔ W * 2 ^ (2 * (n - b)) < V := by
          rw [← w3, ← Nat.mul_assoc]
          exact ⟨fun h => Nat.lt_of_mul_lt_mul_right h, fun h => Nat.mul_lt_mul_of_pos_right h pw1⟩
        have lcC := lc_gt (lN (V * 2 ^ (2 * (20 - n)))) mc
        have lcR := lc_gt (lN V) (mr * lN (2 ^ (2 * (n - b))))
        have l0 : ¬ lcmpV mr 0 < 0 := by
          rw [m1]
          have := lc_gt 0 (lN W)
          unfold lcmpV
          split
          · decide
          · split
            · decide
            · rename_i a d
              exfalso
              have t0 : (0 : Int64).toInt = 0 := rfl
              rw [fa_lt64, t0, pk_lT (by omega)] at a
              apply d
              rw [fa_eq64, t0, pk_lT (by omega)]
              omega
        rw [if_neg l0]
        rw [m1, m2, lN_mul] at *
        by_cases y : W * 2 ^ (2 * (20 - b)) < V * 2 ^ (2 * (20 - n))
        · rw [if_neg (fun w => lcC.1.mp w ((pk_lLT (by omega) (by omega)).mpr y)), if_pos (lcR.2.mpr ((pk_lLT (by omega) (by omega)).mpr (key.mp y)))]
          exact new
        · rw [if_pos (lcC.1.mpr (fun w => y ((pk_lLT (by omega) (by omega)).mp w))), if_neg (fun w => y (key.mpr ((pk_lLT (by omega) (by omega)).mp (lcR.2.mp w))))]
          exact ih (n + 1) b _ _ c' r' (by omega) (by omega) (by omega) h4 h5 (by omega) p' q' (Or.inr ⟨W, m0, rfl, rfl⟩)
theorem o_bestRun {c r : AH} {a1 : Int32} (I : Inv c r) : SimE (X10_bestRun a1 c) (X11_bestRun a1 r) Inv := by
  obtain ⟨⟨S, G, N, T, M⟩, hW, hL, hRow, hRF, hIM⟩ := id I
  have hN := M.1.2.2.2.2.2.2.1
  unfold X10_bestRun X11_bestRun
  rcases jm a1 hN with hz | ⟨j, hj, rfl⟩
  · rw [nb_n M.2.1.2.2.2.1 hz, bd_s, ij_n M.1.2.2.1 hz, bd_s, i_0, i_1]
    exact rfs (x := -1) I (by decide)
  · have hj4 : j < 4 := by omega
    rw [nb_y M.2.1.2.2.2.1 hN hj, bd_s, ij_y M.1.2.2.1 hN hj, bd_s, i_10, i_0, s_at42 hj4, bd_s, cs_in _ (zc42 hj4), vl_e, vl_e, vl_e]
    obtain ⟨x, c2, r2, d1, d2, d3, d4⟩ := l_run M hW hj4 FU 4 4 (-1) (-1) c r (by unfold FU; omega) (by omega) (by omega) (by omega) (by omega) (by omega) PC.rf (fun _ _ _ => rfl) (Or.inl ⟨rfl, rfl⟩)
    exact SimE.mk' d1 d2 rfl (Inv_f I d3 (fun _ _ _ => PR.L d4))
end
section
/-! AIM -/
def lfN (s : Nat) : Nat → Nat
  | 0 => 10000
  | n + 1 => lfN s n * (10000 - s) / 10000
theorem lfN_le (s : Nat) : ∀ n, lfN s n ≤ 10000 := by
  intro n
  induction n with
  | zero => exact Nat.le_refl _
  | succ n ih =>
    show lfN s n * (10000 - s) / 10000 ≤ 10000
    have : lfN s n * (10000 - s) ≤ 10000 * 10000 := Nat.mul_le_mul ih (by omega)
    omega
theorem s_left {s n : Nat} (hs : s ≤ 10000) (hn : n ≤ 100) (h : AH) : X10_leftOf (nI s) (nI n) h = some (nI (lfN s n), h) := by
  have e1 : (10000 : Int32) - nI s = nI (10000 - s) := pk_sub (a := 10000) hs
  have key : ∀ (f v : Nat), n < v + f → v ≤ n → X10_leftOf_l6 (nI s) (nI n) f (nI (lfN s v)) (nI v) h = some (nI (lfN s n), h) := by
    intro f
    induction f with
    | zero => intro v h1 h2; omega
    | succ f ih =>
      intro v h1 h2
      rw [X10_leftOf_l6.eq_2]
      by_cases z : v = n
      · subst z
        rw [if_pos (Int32.le_refl _)]
      · have hb := lfN_le s v
        have hm : lfN s v * (10000 - s) ≤ 10000 * 10000 := Nat.mul_le_mul hb (by omega)
        have e2 : nI (lfN s v * (10000 - s)) / 10000 = nI (lfN s v * (10000 - s) / 10000) := pk_div (d := 10000) (by omega) (by omega) (by omega)
        rw [if_neg (nI_ge (by omega) (by omega)), e1, pk_mul, e2, vl_e, vl_e, nI_1]
        exact ih (v + 1) (by omega) (by omega)
  exact key FU 0 (by unfold FU; omega) (Nat.zero_le _)
section AI
variable {S G N T j : Nat} {c r : AH}
theorem s_ten (R : RN r S G N T) (hj : j < 4) {p n a : Nat} (hp : p ≤ 20) (hn : n ≤ 100) (ha : a < 1000) {rt : AH} (q : rt.1 = r.1) : ∃ w r', RV (RJ r j) (r.1 0 14) (nI p) S (p3 a) = lN w ∧ w ≤ 2 ^ (2 * S) ∧ X11_tenThousandths (nI j) (nI p) (nI n) (nI a) rt = some (nI (10000 - lfN (sh w S) n), r') ∧ r'.1 = r.1 := by
  obtain ⟨rS, rG, rN, rT, hS, hG, hN, hT, hWW, hJ, hH⟩ := id R
  have hpl : -5000 ≤ (nI p).toInt ∧ (nI p).toInt ≤ 5000 := by rw [toInt_nI (by omega)]; omega
  have hpw := pw_b hS.2
  have e14 : rt.1 0 14 = r.1 0 14 := by rw [q]
  have e12 : rt.1 0 12 = nI S := by rw [q]; exact rS
  have hRJ : ∀ k, 1 ≤ k → k ≤ 8 → RJ r j k = RJ rt j k := fun k _ _ => by unfold RJ; rw [q]
  obtain ⟨w, w1, w2⟩ := rv_3 (hJ j hj) hWW hS.1 hS.2 hpl.1 hpl.2 a
  obtain ⟨r', t1, t2⟩ := (u_count (h := rt) hj (NJ_J hRJ (hJ j hj)) e12 (by rw [e14]; exact hWW) hS.1 hS.2 hpl.1 hpl.2).2.2.2 a ha
  rw [e14, ← RV_J hRJ, w1] at t1
  have hs := sh_le w2
  have e1 : (10000 : Int64) * lN w = lN (w * 10000) := by rw [Nat.mul_comm]; exact lN_mul 10000 w
  have e2 : lN (w * 10000) / lN (2 ^ (2 * S)) = lN (sh w S) := pk_lDiv (by omega) hpw.2 (by omega)
  have e3 : (10000 : Int64) - lN (sh w S) = lN (10000 - sh w S) := lN_sub (a := 10000) hs
  have key : ∀ (f v : Nat), n < v + f → v ≤ n → X11_tenThousandths_l28 (nI n) (lN (sh w S)) f (lN (lfN (sh w S) v)) (nI v) r' = some (nI (10000 - lfN (sh w S) n), r') := by
    intro f
    induction f with
    | zero => intro v h1 h2; omega
    | succ f ih =>
      intro v h1 h2
      rw [X11_tenThousandths_l28.eq_2]
      have hb := lfN_le (sh w S) v
      by_cases z : v = n
      · subst z
        have e4 : (10000 : Int32) - nI (lfN (sh w S) v) = nI (10000 - lfN (sh w S) v) := pk_sub (a := 10000) hb
        rw [if_pos (Int32.le_refl _), lN_i, e4]
      · have hm : lfN (sh w S) v * (10000 - sh w S) ≤ 10000 * 10000 := Nat.mul_le_mul hb (by omega)
        have e5 : lN (lfN (sh w S) v * (10000 - sh w S)) / 10000 = lN (lfN (sh w S) v * (10000 - sh w S) / 10000) := pk_lDiv (b := 10000) (by omega) (by omega) (by omega)
        rw [if_neg (nI_ge (by omega) (by omega)), e3, lN_mul, e5, vl_e, vl_e, nI_1]
        exact ih (v + 1) (by omega) (by omega)
  refine ⟨w, r', w1, w2, ?_, by rw [t2.1, q]⟩
  unfold X11_tenThousandths
  rw [t1, bd_s, k_all (r := r') (by rw [t2.1]; exact e12) hS.2, bd_s, if_neg (lN_n0 hpw.2 (by omega)), e1, e2, vl_e]
  exact key FU 0 (by unfold FU; omega) (Nat.zero_le _)
theorem l_aim (M : MR 42 c r S G N T) (hW : WT c) (hj : j < 4) {n a : Nat} (hn : n ≤ 3) (ha : a < 1000) (v4 : Int32) : ∀ (f p y : Nat) (x : Int32) (ct rt : AH), 21 < p + f → p ≤ 21 → y ≤ 10001 → (p = 21 → y ≤ 10000) → PC c ct → rt.1 = r.1 →
    ∃ z c' r', X10_aim_l63 (nI j) (nI n) (nI a) v4 f x (nI y) (nI p) ct = some (z, c') ∧ X11_aim_l82 (nI j) (nI n) (nI a) v4 f x (10000 - nI y) (nI p) rt = some (z, r') ∧ PC c c' ∧ r'.1 = r.1 := by
  obtain ⟨rS, rG, rN, rT, hS, hG, hN, hT, hWW, hJ, hH⟩ := id M.1
  intro f
  induction f with
  | zero => intro p y x ct rt h1 h2; omega
  | succ f ih =>
    intro p y x ct rt h1 h2 hy hy2 pp q
    rw [X10_aim_l63.eq_2, X11_aim_l82.eq_2]
    by_cases z : p = 21
    · subst z
      rw [if_pos (show (20 : Int32) < nI 21 by decide), if_pos (show (21 : Int32) ≤ nI 21 by decide)]
      by_cases u : v4 = 0
      · rw [if_pos u, if_pos u]; exact ⟨_, _, _, rfl, rfl, pp, q⟩
      · rw [if_neg u, if_neg u]; exact ⟨_, _, _, rfl, rfl, pp, q⟩
    · have hpl : -5000 ≤ (nI p).toInt ∧ (nI p).toInt ≤ 5000 := by rw [toInt_nI (by omega)]; omega
      have Mt := pp.MR M
      obtain ⟨c', s1, s2, s3, s4, s5, s6, s7, s8, s9, s10⟩ := k_spread 0 Mt (pp.WT hW) hj hWW hS.1 hS.2 hpl.1 hpl.2
      obtain ⟨w, r', w1, w2, t1, t2⟩ := s_ten M.1 hj (p := p) (n := n) (a := a) (by omega) (by omega) ha q
      have e1 : X10_spreadAt (48 + j) (nI p) ct = some ((), c') := by
        unfold X10_spreadAt
        rw [Mt.2.1.1, Mt.2.1.2.1, s1, bd_s]
      have hs := sh_le w2
      have hl := lfN_le (sh w S) n
      rw [if_neg (show ¬ (20 : Int32) < nI p from nI_nlt (a := 20) (by omega) (by decide)), if_neg (show ¬ (21 : Int32) ≤ nI p from nI_ge (b := 21) (by omega) (by decide)), s_at42 hj, bd_s, cs_in _ (zc42 hj), e1, bd_s, s_past ha, bd_s, s6, w1, s_share hS.2 w2 s5, bd_s, s_left hs (by omega), bd_s, t1, bd_s]
      unfold X10_aim_j120 X11_aim_j118
      simp only [vl_e, nI_1]
      have p' : PC c c' := pp.tr (k_PC s2 s3 s4)
      have i1 : ((10000 : Int32) - nI y).toInt = 10000 - (y : Int) := pk_sub_toInt (a := 10000) (by omega) (by omega)
      have e2 : nI (10000 - lfN (sh w S) n) = 10000 - nI (lfN (sh w S) n) := (pk_sub (a := 10000) hl).symm
      by_cases u : y ≤ lfN (sh w S) n
      · rw [if_pos (nI_le u (by omega)), if_neg (by rw [fa_lt, i1, toInt_nI (by omega)]; omega)]
        exact ih (p + 1) y x c' r' (by omega) (by omega) hy (fun _ => by omega) p' t2
      · rw [if_neg (nI_ge (by omega) (by omega)), if_pos (by rw [fa_lt, i1, toInt_nI (by omega)]; omega), e2]
        exact ih (p + 1) _ _ c' r' (by omega) (by omega) (by omega) (fun _ => by omega) p' t2
end AI
theorem o_aim {c r : AH} {a1 a2 a3 a4 : Int32} (I : Inv c r) : SimE (X10_aim a1 a2 a3 a4 c) (X11_aim a1 a2 a3 a4 r) Inv := by
  obtain ⟨⟨S, G, N, T, M⟩, hW, hL, hRow, hRF, hIM⟩ := id I
  have hN := M.1.2.2.2.2.2.2.1
  have t0 : (0 : Int32).toInt = 0 := rfl
  have t1 : (1 : Int32).toInt = 1 := rfl
  have rfc : ∀ x : Int32, (x = -1 ∨ x = -2 ∨ x = -3 ∨ x = -4 ∨ x = -6) → ¬ x = 0 := fun x hx e => by rw [e] at hx; exact absurd hx (by decide)
  have r59 : ∀ x : Int32, (x = -1 ∨ x = -2 ∨ x = -3 ∨ x = -4 ∨ x = -6) → X11_aim_j59 a1 a2 a3 a4 x r = bd (X11_no x r) fun r7 h8 => some (r7, h8) := by
    intro x hx
    unfold X11_aim_j59
    rw [if_neg (rfc x hx)]
  unfold X10_aim X11_aim X11_aim_j21 X11_aim_j38
  rcases jm a1 hN with hz | ⟨j, hj, rfl⟩
  · rw [nb_n M.2.1.2.2.2.1 hz, ij_n M.1.2.2.1 hz, bd_s, bd_s, i_0, r59 _ (by decide)]
    simp only [s_outside, s_outsideTwo, s_noSuch, s_first, bd_s, i_1]
    exact rfs (x := -1) I (by decide)
  · have hj4 : j < 4 := by omega
    rw [nb_y M.2.1.2.2.2.1 hN hj, ij_y M.1.2.2.1 hN hj, bd_s, bd_s, i_10]
    simp only [s_outside, s_outsideTwo, s_noSuch, s_first, s_isIn, bd_s, i_0]
    by_cases h1 : a2 < 1
    · rw [if_pos h1, if_pos h1, r59 _ (by decide)]
      simp only [true_or, eq_self, if_true, i_4]
      exact rfs (x := -4) I (by decide)
    · simp only [if_neg h1]
      by_cases h2 : a3 < 0
      · rw [if_pos h2, if_neg (show ¬ 0 ≤ a3 from Int32.not_le.mpr h2), r59 _ (by decide)]
        simp only [or_true, eq_self, if_true, i_4]
        exact rfs (x := -4) I (by decide)
      · rw [if_neg h2, if_pos (show 0 ≤ a3 from Int32.not_lt.mp h2)]
        have n46 : ∀ (P Q : Prop) [Decidable P] [Decidable Q], ¬ ((if P then (-6 : Int32) else 0) = -4 ∨ (if Q then (-6 : Int32) else 0) = -4) := by
          intro P Q _ _ h
          rcases h with h | h
          · split at h <;> exact absurd h (by decide)
          · split at h <;> exact absurd h (by decide)
        rw [if_neg (n46 _ _)]
        by_cases h3 : 3 < a2
        · rw [if_pos h3, if_pos h3, r59 _ (by decide)]
          simp only [if_true, i_6]
          exact rfs (x := -6) I (by decide)
        · rw [if_neg h3, if_neg h3]
          by_cases h4 : 999 < a3
          · rw [if_pos h4, if_neg (show ¬ a3 ≤ 999 from Int32.not_le.mpr h4), r59 _ (by decide)]
            simp only [if_true, i_0, i_6]
            exact rfs (x := -6) I (by decide)
          · rw [if_neg h4, if_pos (show a3 ≤ 999 from Int32.not_lt.mp h4)]
            by_cases h5 : a4 < 0 ∨ 1 < a4
            · rw [if_pos h5, if_pos h5, i_0, r59 _ (by decide)]
              simp only [if_true, i_2]
              exact rfs (x := -2) I (by decide)
            · simp only [if_neg h5, if_true, i_0, i_10]
              obtain ⟨n, hn, rfl⟩ := nI_of2 (x := a2) (M := 3) (n := 3) rfl (by rw [fa_lt] at h1 ⊢; omega) (Int32.not_lt.mp h3)
              obtain ⟨a, ha, rfl⟩ := nI_of2 (x := a3) (M := 999) (n := 999) rfl h2 (Int32.not_lt.mp h4)
              unfold X11_aim_j59
              rw [i_0, vl_e]
              obtain ⟨z, c', r', d1, d2, d3, d4⟩ := l_aim M hW hj4 hn (a := a) (by omega) a4 FU 0 10001 0 c r (by unfold FU; omega) (by omega) (by omega) (fun h => by omega) PC.rf rfl
              exact SimE.mk' d1 d2 rfl (Inv_f I d3 (fun _ _ _ => PR.L d4))
end
section
/-! ON -/
def mvI (r : AH) (S k : Nat) : Int32 := (RV (RJ r k) (r.1 0 14) (r.1 9 k - pathS (r.1 2 k) (r.1 4 k) (r.1 5 k) (r.1 0 14) S) S p2 / lN (2 ^ (2 * S))).toInt32
theorem wb_c2 : ∀ k, k < 64 → (((nI k).toInt64 &&& 63).toBitVec.smod 64).toNat = k := by decide +kernel
theorem bit_1 : ∀ m, m < 16 → ∀ d, d < 5 → (sar32 (nI m) (nI d) &&& 1 = 0) ∨ (sar32 (nI m) (nI d) &&& 1 = 1) := by decide +kernel
theorem shl_1 : ∀ d, d < 5 → shl32 1 (nI d) = nI (2 ^ d) := by decide +kernel
section ON
variable {S G N T j : Nat} {c r : AH}
theorem mv_b (R : RN r S G N T) {k : Nat} (hk : k < 4) : (∃ x, mvI r S k = nI x ∧ x ≤ 435) ∧ (∃ V, RV (RJ r k) (r.1 0 14) (r.1 9 k - pathS (r.1 2 k) (r.1 4 k) (r.1 5 k) (r.1 0 14) S) S p2 = lN V ∧ V < 2 ^ 62 ∧ mvI r S k = nI (V / 2 ^ (2 * S))) := by
  have hS := R.2.2.2.2.1
  have hw := R.2.2.2.2.2.2.2.2.1
  have hJ := R.2.2.2.2.2.2.2.2.2.1 k hk
  have hpl := pl_b R hk hw
  have hpw := pw_b hS.2
  obtain ⟨V, v1, v2⟩ := rv_2 hJ hw hS.1 hS.2 hpl.1 hpl.2
  have hV : V < 2 ^ 62 := by omega
  have e : mvI r S k = nI (V / 2 ^ (2 * S)) := by
    unfold mvI
    rw [v1, pk_lDiv (by omega) hpw.2 (by omega), lN_i]
  exact ⟨⟨V / 2 ^ (2 * S), e, Nat.div_le_of_le_mul (by rw [Nat.mul_comm]; exact v2)⟩, V, v1, hV, e⟩
theorem mv_nn (R : RN r S G N T) {k : Nat} (hk : k < 4) : 0 ≤ (mvI r S k).toInt := by
  obtain ⟨⟨x, e, hx⟩, _⟩ := mv_b R hk
  rw [e, toInt_nI (by omega)]
  omega
/-- the class's means, from the one in turn -/
theorem l_onC (M : MR 42 c r S G N T) (hW : WT c) (a v2 a1 v5 : Int32) : ∀ (f k : Nat) (ct : AH) (u : Nat), N < k + f → u ≤ k → k ≤ N → PC c ct → (∀ q, u ≤ q → q < k → ct.1 35 q = mvI r S q) →
    ∃ c', X10_on_l95 a v2 a1 v5 f (nI k) ct = X10_on_l151 a v2 a1 v5 FU 0 0 c' ∧ PC c c' ∧ ∀ q, u ≤ q → q < N → c'.1 35 q = mvI r S q := by
  have hN := M.1.2.2.2.2.2.2.1
  have hS := M.1.2.2.2.2.1
  have hw := M.1.2.2.2.2.2.2.2.2.1
  intro f
  induction f with
  | zero => intro k ct u h1 h2 h3; omega
  | succ f ih =>
    intro k ct u h1 h2 h3 p h35
    have Mt := p.MR M
    rw [X10_on_l95.eq_2, Mt.2.1.2.2.2.1]
    by_cases z : k = N
    · subst z
      rw [if_pos (Int32.le_refl _)]
      exact ⟨ct, rfl, p, h35⟩
    · have hk : k < 4 := by omega
      obtain ⟨c', s1, s2, s3, s4, s5, s6, s7, s8, s9, s10⟩ := k_now 0 Mt (p.WT hW) hk
      obtain ⟨_, V, v1, v2', v3⟩ := mv_b M.1 hk
      have M' := (k_PC s2 s3 s4).MR Mt
      have e2 : (2 : Int32) * nI S = nI (2 * S) := pk_mul 2 S
      have e3 : sar64 (lN V) (nI (2 * S)) = lN (V / 2 ^ (2 * S)) := pf_shr (wb_c2 _ (by omega)) v2'
      rw [if_neg (nI_ge (by omega) (by omega)), s1, bd_s, s_mean, bd_s, s7, v1, ck_nI _ (by omega) (by decide), vl_e, vl_e, nI_clamp (by omega), M'.2.1.1, e2, e3, lN_i, nI_1, ← v3]
      refine ih (k + 1) _ u (by omega) (by omega) (by omega) ((p.tr (k_PC s2 s3 s4)).tr ⟨fun q _ => by rw [sI_n (by omega)], fun o q h => by rw [sI_n (by omega)], fun _ _ => rfl, fun _ _ _ => rfl⟩) (fun q q1 q2 => ?_)
      rw [sI_at]
      by_cases y : q = k
      · rw [if_pos ⟨rfl, y⟩, y]
      · rw [if_neg (fun w => y w.2), s2]
        exact h35 q q1 (by omega)
theorem l_onR (R : RN r S G N T) (a v2 a1 v5 : Int32) : ∀ (f k : Nat) (rt : AH), N < k + f → k ≤ N → (∀ o q, o ≠ 24 → rt.1 o q = r.1 o q) → (∀ q, q < k → rt.1 24 q = mvI r S q) →
    ∃ r', X11_on_l74 a v2 a1 v5 f (nI k) rt = X11_on_l114 a v2 a1 v5 FU 0 0 r' ∧ (∀ o q, o ≠ 24 → r'.1 o q = r.1 o q) ∧ ∀ q, q < N → r'.1 24 q = mvI r S q := by
  have hN := R.2.2.2.2.2.2.1
  have hS := R.2.2.2.2.1
  have hw := R.2.2.2.2.2.2.2.2.1
  have hpw := pw_b hS.2
  intro f
  induction f with
  | zero => intro k rt h1 h2; omega
  | succ f ih =>
    intro k rt h1 h2 q h24
    rw [X11_on_l74.eq_2, q 0 15 (by decide), R.2.2.1]
    by_cases z : k = N
    · subst z
      rw [if_pos (Int32.le_refl _)]
      exact ⟨rt, rfl, q, h24⟩
    · have hk : k < 4 := by omega
      have hpl := pl_b R hk hw
      have e14 : rt.1 0 14 = r.1 0 14 := q 0 14 (by decide)
      have e12 : rt.1 0 12 = nI S := by rw [q 0 12 (by decide)]; exact R.1
      have hRJ : ∀ m, 1 ≤ m → m ≤ 8 → RJ r k m = RJ rt k m := fun m m1 m2 => (q (m + 1) k (by omega)).symm
      obtain ⟨r', t1, t2⟩ := (u_count (h := rt) hk (NJ_J hRJ (R.2.2.2.2.2.2.2.2.2.1 k hk)) e12 (by rw [e14]; exact hw) hS.1 hS.2 hpl.1 hpl.2).2.2.1 0
      rw [e14, ← RV_J hRJ] at t1
      have ep : X11_placeOf (nI k) rt = some (r.1 9 k - pathS (r.1 2 k) (r.1 4 k) (r.1 5 k) (r.1 0 14) S, rt) := by
        rw [s_placeR hk (by omega : S < 4000) e12, e14, q 9 k (by decide), q 2 k (by decide), q 4 k (by decide), q 5 k (by decide)]
      have em : X11_meanParts (nI k) rt = some (RV (RJ r k) (r.1 0 14) (r.1 9 k - pathS (r.1 2 k) (r.1 4 k) (r.1 5 k) (r.1 0 14) S) S p2, r') := by
        unfold X11_meanParts
        rw [ep, bd_s, t1, bd_s]
      rw [if_neg (nI_ge (by omega) (by omega)), em, bd_s, k_all (r := r') (by rw [t2.1]; exact e12) hS.2, bd_s, if_neg (lN_n0 hpw.2 (by omega)), ck_nI _ (by omega) (by decide), vl_e, vl_e, nI_clamp (by omega), nI_1]
      refine ih (k + 1) _ (by omega) (by omega) (fun o m ho => by rw [sI_n (by omega), t2.1]; exact q o m ho) (fun m hm => ?_)
      rw [sI_at]
      by_cases y : m = k
      · rw [if_pos ⟨rfl, y⟩, y]
        rfl
      · rw [if_neg (fun w => y w.2), t2.1]
        exact h24 m (by omega)
/-- one way of who comes to the mean: class and reference add alike -/
theorem l_onA {c1 r1 : AH} (M : MR 42 c1 r1 S G N T) (hj : j < N) {u m : Nat} (hu : u ≤ N) (hm : m < 16) (v2 : Int32) (x : Nat → Int32) (hx : ∀ k, k < N → 0 ≤ (x k).toInt) (h35 : ∀ q, u ≤ q → q < N → c1.1 35 q = x q) (h24 : ∀ q, q < N → r1.1 24 q = x q) (acc : Nat) (K1 : Int32 → Int32 → AH → Option (Int64 × AH)) (K2 : Int64 → Int32 → AH → Option (Int64 × AH)) :
    ∀ (f k : Nat) (h g : AH) (B : BB), N < k + f → u ≤ k → k ≤ N → FR c1 h → h.1 5 0 = nI N → RKC h B → FT r1 g → RKR g B → BP B →
    ∃ (b : Nat) (h' g' : AH), b ≤ 1 ∧ X10_on_l183 (nI j) v2 (nI u) (nI (N - u)) (nI acc) (nI m) K1 f (nI k) h = K1 (nI (acc + b)) (nI (m + 1)) h' ∧ X11_on_l135 (nI j) v2 (nI u) (nI (N - u)) (lN acc) (nI m) K2 f (nI (k - u)) g = K2 (lN (acc + b)) (nI (m + 1)) g' ∧ FR c1 h' ∧ FT r1 g' := by
  have hN := M.1.2.2.2.2.2.2.1
  have hG := M.1.2.2.2.2.2.1
  intro f
  induction f with
  | zero => intro k h g B h1 h2 h3; omega
  | succ f ih =>
    intro k h g B h1 h2 h3 F e5 RC E RR hB
    have Mh := MR_c (T := T) (CA.FR (by decide) F) M
    have Rg := RN_c (RA.FT E) M.1
    rw [X10_on_l183.eq_2, X11_on_l135.eq_2, Mh.2.1.2.2.2.1]
    by_cases z : k = N
    · subst z
      obtain ⟨g2, b1, b2, b3⟩ := s_sorts hN Rg.2.2.1 hB RR
      have E2 := E.tr (FT.O b2)
      have Rg2 := RN_c (RA.FT E2) M.1
      have z0 : (0 : Int32).toInt = 0 := rfl
      have hr : rk B k j < 4 := by have := rk_lt (B := B) hj; omega
      rw [if_pos (Int32.le_refl _), if_pos (Int32.le_refl _), s_ahead hN hj hB (by rw [z0]; omega) RC e5, bd_s, ad_0 hB, s_finC Mh.2.1.2.2.2.1 Mh.2.1.2.2.1 hN hG.2, bd_s, b1, bd_s, s_rankOf hN Rg2.2.2.1 hB b3 hj, bd_s, s_finR Rg2.2.2.1 Rg2.2.1 hN hG.2, bd_s]
      unfold X10_on_j260 X11_on_j205
      have a0 : ∀ v : Nat, nI v + 0 = nI (v + 0) := fun v => nI_add v 0
      have a1 : ∀ v : Nat, lN v + 1 = lN (v + 1) := fun v => lN_add v 1
      have a2 : ∀ v : Nat, lN v + 0 = lN (v + 0) := fun v => lN_add v 0
      simp only [vl_e, nI_1, a0, a1, a2]
      by_cases y : nI (min G k) ≤ nI (rk B k j)
      · rw [if_pos y, if_pos y]
        exact ⟨0, h, g2, by omega, rfl, rfl, F, E2⟩
      · rw [if_neg y, if_neg y]
        exact ⟨1, h, g2, by omega, rfl, rfl, F, E2⟩
    · have e1 : nI k - nI u = nI (k - u) := pk_sub h2
      have e2 : nI u + nI (k - u) = nI k := by rw [nI_add]; congr 1; omega
      have c35 : h.1 35 k = x k := by rw [F.1 35 k (by decide) (by decide) (by decide)]; exact h35 k h2 (by omega)
      have r24 : g.1 24 k = x k := by rw [E.1 24 k (by decide) (by decide) (by decide)]; exact h24 k (by omega)
      have e4 : nI (k - u) + 1 = nI (k + 1 - u) := by rw [nI_1]; congr 1; omega
      rw [if_neg (nI_ge (by omega) (by omega)), if_neg (nI_ge (by omega) (by omega)), e1, e2]
      unfold X10_on_j225 X11_on_j173
      rw [ck_nI _ (by omega) (by decide), ck_nI _ (by omega) (by decide), nI_clamp (by omega), c35, r24]
      have go : ∀ y : Int32, 0 ≤ y.toInt → ∃ (b : Nat) (h' g' : AH), b ≤ 1 ∧ (bd (X6_add (nI k) y h) fun _ h23 => vl (nI k + 1) fun x24 => X10_on_l183 (nI j) v2 (nI u) (nI (N - u)) (nI acc) (nI m) K1 f x24 h23) = K1 (nI (acc + b)) (nI (m + 1)) h' ∧ (bd (X11_comesLength (nI k) y g) fun _ h22 => vl (nI (k - u) + 1) fun x23 => X11_on_l135 (nI j) v2 (nI u) (nI (N - u)) (lN acc) (nI m) K2 f x23 h22) = K2 (lN (acc + b)) (nI (m + 1)) g' ∧ FR c1 h' ∧ FT r1 g' := by
        intro y hy
        obtain ⟨h', p1, p2, p3, p4⟩ := s_add (by omega : k < 4) RC y
        obtain ⟨g', q1, q2, q3⟩ := s_cl (by omega : k < 4) RR y
        rw [p1, q1, bd_s, bd_s, vl_e, vl_e, nI_1, e4]
        exact ih (k + 1) h' g' (ad B k y) (by omega) (by omega) (by omega) (F.tr p3) (by rw [p4]; exact e5) p2 (E.tr (FT.B q3)) q2 (bp_ad hB hy)
      rcases bit_1 m hm (k - u) (by omega) with b | b
      · rw [b, if_pos rfl, if_neg (by decide)]
        exact go 0 (by decide)
      · rw [b, if_neg (by decide), if_pos rfl]
        exact go (x k) (hx k (by omega))
/-- all ways counted -/
theorem l_onM {c1 r1 : AH} (M : MR 42 c1 r1 S G N T) (hj : j < N) {u : Nat} (hu : u ≤ N) (v2 : Int32) (x : Nat → Int32) (hx : ∀ k, k < N → 0 ≤ (x k).toInt) (h35 : ∀ q, u ≤ q → q < N → c1.1 35 q = x q) (h24 : ∀ q, q < N → r1.1 24 q = x q) :
    ∀ (f m acc : Nat) (h g : AH), 2 ^ (N - u) < m + f → m ≤ 2 ^ (N - u) → acc ≤ m → FR c1 h → FT r1 g →
    ∃ v h' g', X10_on_l151 (nI j) v2 (nI u) (nI (N - u)) f (nI acc) (nI m) h = some (v, h') ∧ X11_on_l114 (nI j) v2 (nI u) (nI (N - u)) f (lN acc) (nI m) g = some (v, g') ∧ FR c1 h' ∧ FT r1 g' := by
  have hN := M.1.2.2.2.2.2.2.1
  have hp16 : 2 ^ (N - u) ≤ 2 ^ 4 := Nat.pow_le_pow_right (by decide) (by omega)
  have hp0 : 0 < 2 ^ (N - u) := Nat.two_pow_pos _
  intro f
  induction f with
  | zero => intro m acc h g h1 h2; omega
  | succ f ih =>
    intro m acc h g h1 h2 h3 F E
    have Mh := MR_c (T := T) (CA.FR (by decide) F) M
    have Rg := RN_c (RA.FT E) M.1
    have h24' := T24 Mh
    rw [X10_on_l151.eq_2, X11_on_l114.eq_2, shl_1 _ (by omega)]
    by_cases z : m = 2 ^ (N - u)
    · rw [if_pos (nI_le (by omega) (by omega)), if_pos (nI_le (by omega) (by omega))]
      have sh1 : shl64 1 (nI (N - u)) = lN (2 ^ (N - u)) := by
        have := sh64 1 (k := N - u) (by omega)
        rw [Nat.one_mul] at this
        exact this
      obtain ⟨v, b1, b2⟩ := s_frac (A := acc) (B := 2 ^ (N - u)) (by omega) hp0 (by omega) v2
      rw [nI_64 (by omega), sh1, b1, bd_s, b2, bd_s]
      exact ⟨v, h, g, rfl, rfl, F, E⟩
    · obtain ⟨h2', b1, b2, b3, b4⟩ := m_rankC Mh (by decide) (n := T) (by omega)
      rw [Nat.min_self] at b2
      obtain ⟨g2, d1, d2, d3⟩ := m_bestR Rg (Nat.le_refl T)
      have eB : BR g T = BR r1 T := BR_c (RA.FT E) (Nat.le_refl T)
      rw [eB] at d2
      rw [if_neg (nI_ge (by omega) (by omega)), if_neg (nI_ge (by omega) (by omega)), Mh.2.1.2.2.2.2, b1, bd_s, Rg.2.2.2.1, d1, bd_s]
      obtain ⟨b, h', g', q0, q1, q2, q3, q4⟩ := l_onA M hj hu (m := m) (by omega) v2 x hx h35 h24 acc (X10_on_l151 (nI j) v2 (nI u) (nI (N - u)) f) (X11_on_l114 (nI j) v2 (nI u) (nI (N - u)) f) FU u h2' g2 (BR r1 T) (by unfold FU; omega) (Nat.le_refl _) hu (F.tr b3) b4 b2 (E.tr (FT.B d3)) d2 (BR_p r1 T)
      rw [Nat.sub_self] at q2
      have q2 : X11_on_l135 (nI j) v2 (nI u) (nI (N - u)) (lN acc) (nI m) (X11_on_l114 (nI j) v2 (nI u) (nI (N - u)) f) FU 0 g2 = _ := q2
      rw [q1, q2]
      exact ih (m + 1) (acc + b) h' g' (by omega) (by omega) (by omega) q3 q4
end ON
theorem o_on {c r : AH} {a1 a2 : Int32} (I : Inv c r) : SimE (X10_on a1 a2 c) (X11_on a1 a2 r) Inv := by
  obtain ⟨⟨S, G, N, T, M⟩, hW, hL, hRow, hRF, hIM⟩ := id I
  have hN := M.1.2.2.2.2.2.2.1
  have h24 := T24 M
  have hF := F_b M.1
  have hT := M.1.2.2.2.2.2.2.2.1
  have hd := rd_6 (N := N) (F := min G N) (T := T) hN hF.1 hF.2.2 hT
  have rfl' : ∀ {c r : AH} {x : Int32}, Inv c r → (x = -1 ∨ x = -2 ∨ x = -3 ∨ x = -4 ∨ x = -6) → SimE (bd (X10_refuse x c) fun a h => some (4000000000000000000 - a.toInt64, h)) (bd (X11_lowest x r) fun a h => some (a, h)) Inv := by
    intro c r x I hx
    obtain ⟨w, hw, e⟩ := s_ref hx
    rw [(e c).1, (e r).2.2.2, bd_s, bd_s]
    exact ⟨_, _, _, rfl, rfl, inv_ref I hw⟩
  have rne : ∀ x : Int32, (x = -1 ∨ x = -2 ∨ x = -3 ∨ x = -4 ∨ x = -6) → ¬ x = 0 := fun x hx e => by rw [e] at hx; exact absurd hx (by decide)
  have r40 : ∀ (x : Int32) (g : AH), (x = -1 ∨ x = -2 ∨ x = -3 ∨ x = -4 ∨ x = -6) → X11_on_j40 a1 a2 x g = bd (X11_lowest x g) fun r30 h31 => some (r30, h31) := by
    intro x g hx
    unfold X11_on_j40
    rw [if_neg (rne x hx)]
  have c26 : ∀ (x : Int32) (s0 s1 s2 : Int32), (if s2 = 0 then (if s1 = 0 then s0 else s1) else s2) = x → (x = -1 ∨ x = -2 ∨ x = -3 ∨ x = -4 ∨ x = -6) → X10_on_j26 a1 a2 s0 s1 s2 c = bd (X10_refuse x c) fun r30 h31 => some (4000000000000000000 - r30.toInt64, h31) := by
    intro x s0 s1 s2 e hx
    unfold X10_on_j26
    rw [s_first, bd_s, s_first, bd_s, e, if_neg (rne x hx)]
  unfold X10_on X11_on
  have sp : ∀ (P : Prop) [Decidable P] (A B : Option (Int64 × AH)) (D : Option (Int64 × AH)), A = D → B = D → (if P then A else B) = D := by
    intro P _ A B D h1 h2
    by_cases y : P
    · rw [if_pos y]; exact h1
    · rw [if_neg y]; exact h2
  rcases jm a1 hN with hz | ⟨j, hj, rfl⟩
  · rw [nb_n M.2.1.2.2.2.1 hz, bd_s, s_noPart, bd_s, m_roundC M, bd_s, ij_n M.1.2.2.1 hz, bd_s, i_0, r40 _ _ (by decide), sp _ _ _ _ (c26 (-1) 0 _ (-1) (by rw [i_1]) (by decide)) (c26 (-1) (-3) _ (-1) (by rw [i_1]) (by decide))]
    exact rfl' I (by decide)
  · rw [nb_y M.2.1.2.2.2.1 hN hj, bd_s, s_noPart, bd_s, m_roundC M, bd_s, ij_y M.1.2.2.1 hN hj, bd_s, i_10, s_isIn, bd_s]
    by_cases h0 : a2 < 0 ∨ 1 < a2
    · rw [if_pos h0, if_pos h0, i_0, r40 _ _ (by decide), sp _ _ _ _ (c26 (-2) 0 _ 0 (by rw [i_0, i_2]) (by decide)) (c26 (-2) (-3) _ 0 (by rw [i_0, i_2]) (by decide))]
      exact rfl' I (by decide)
    · rw [if_neg h0, if_neg h0, i_10]
      obtain ⟨r1, d1, d2⟩ := m_roundR M.1
      have R1 := RN_c (RA.FT d2) M.1
      have I1 : Inv c r1 := Inv_f I PC.rf (fun _ _ _ => PR.FT d2)
      have M1 : MR 42 c r1 S G N T := MR_r (RA.FT d2) M
      rw [d1, bd_s]
      by_cases y : rd N (min G N) T ≤ 2
      · rw [if_pos (show nI (rd N (min G N) T) ≤ 2 from nI_le (b := 2) y (by decide)), if_pos (show nI (rd N (min G N) T) ≤ 2 from nI_le (b := 2) y (by decide))]
        unfold X10_on_j26 X11_on_j40 X10_on_j77
        have er : rm32 (nI T) (nI N) = nI (T % N) := pk_rem (by omega) (by omega) (by omega)
        have hm := md_lt (x := T) (F := N) (by omega)
        rw [s_first, bd_s, s_first, bd_s, i_0, i_0, i_0, i_0, M.2.1.2.2.2.1, M.2.1.2.2.2.2, R1.2.2.1, R1.2.2.2.1, if_neg (nI_nle (by omega) (by omega)), if_neg (nI_ne0 (by omega) (by omega)), if_neg (nI_ne0 (by omega) (by omega)), er]
        have es : nI N - nI (T % N) = nI (N - T % N) := pk_sub (by omega)
        have hpw : 2 ^ (N - T % N) ≤ 2 ^ 4 := Nat.pow_le_pow_right (by decide) (by omega)
        simp only [vl_e, es]
        obtain ⟨c', b1, b2, b3⟩ := l_onC M1 hW (nI j) a2 (nI (T % N)) (nI (N - T % N)) FU (T % N) c (T % N) (by unfold FU; omega) (Nat.le_refl _) (by omega) PC.rf (fun q q1 q2 => by omega)
        obtain ⟨r', f1, f2, f3⟩ := l_onR R1 (nI j) a2 (nI (T % N)) (nI (N - T % N)) FU 0 r1 (by unfold FU; omega) (by omega) (fun _ _ _ => rfl) (fun q hq => by omega)
        have f1 : X11_on_l74 (nI j) a2 (nI (T % N)) (nI (N - T % N)) FU 0 r1 = _ := f1
        have p2' : PR T r1 r' := ⟨fun k _ => f2 0 k (by decide), fun o k h1 h2 => f2 o k (by omega), fun t _ => ⟨f2 10 t (by decide), f2 11 t (by decide)⟩, fun k => ⟨f2 13 k (by decide), f2 23 k (by decide)⟩, fun k _ => f2 17 k (by decide)⟩
        have M2 : MR 42 c' r' S G N T := MR_r (RA.PR p2') (b2.MR M1)
        obtain ⟨v, h', g', q1, q2, q3, q4⟩ := l_onM M2 hj (u := T % N) (by omega) a2 (mvI r1 S) (fun k hk => mv_nn R1 (by omega)) b3 f3 FU 0 0 c' r' (by unfold FU; omega) (Nat.zero_le _) (Nat.le_refl _) FR.rf FT.rf
        have q1 : X10_on_l151 (nI j) a2 (nI (T % N)) (nI (N - T % N)) FU 0 0 c' = _ := q1
        have q2 : X11_on_l114 (nI j) a2 (nI (T % N)) (nI (N - T % N)) FU 0 0 r' = _ := q2
        rw [b1, f1, q1, q2]
        have I2 : Inv c' r' := Inv_f I1 b2 (fun T' e h => by
          have : T' = T := (nI_eq (by omega) (by omega)).mp (e.symm.trans R1.2.2.2.1)
          rw [this]
          exact p2')
        exact SimE.mk' rfl rfl rfl (Inv_f I2 (PC.FR q3) (fun _ _ _ => PR.FT q4))
      · rw [if_neg (show ¬ nI (rd N (min G N) T) ≤ 2 from nI_ge (a := 2) (by omega) (by omega)), if_neg (show ¬ nI (rd N (min G N) T) ≤ 2 from nI_ge (a := 2) (by omega) (by omega)), r40 _ _ (by decide), c26 (-3) (-3) 0 0 (by rw [i_0, i_0]) (by decide)]
        exact rfl' I1 (by decide)
end
section
/-! JUDGE -/
section TL
variable {o S G N T : Nat} {c r : AH}
theorem t_turn (M : MR o c r S G N T) (ho : 42 ≤ o) : ∃ v c' r', X5_inTurn o c = some (v, c') ∧ X11_turnNow r = some (v, r') ∧ FR c c' ∧ FT r r' ∧ TV r' N (min G N) T v ∧ MR o c' r' S G N T := by
  obtain ⟨v, c', e1, f1, t1⟩ := m_turnC M ho
  obtain ⟨v', r', e2, f2, t2⟩ := m_turnR M.1
  have ev := TV_u M.1.2.2.2.2.2.2.1 t1 t2
  subst ev
  exact ⟨v, c', r', e1, e2, f1, f2, TV_c (RA.FT f2) t1, MR_c (CA.FR ho f1) (MR_r (RA.FT f2) M)⟩
theorem t_lead (M : MR o c r S G N T) (ho : 42 ≤ o) : ∃ v c' r', X5_leader o c = some (v, c') ∧ X11_leader r = some (v, r') ∧ FR c c' ∧ FT r r' ∧ MR o c' r' S G N T := by
  obtain ⟨v, c', e1, f1, t1⟩ := m_leadC M ho
  obtain ⟨v', r', e2, f2, t2⟩ := m_leadR M.1
  have ev := LV_u M.1.2.2.2.2.2.2.1 t1 t2
  subst ev
  exact ⟨v, c', r', e1, e2, f1, f2, MR_c (CA.FR ho f1) (MR_r (RA.FT f2) M)⟩
end TL
/-- what the class keeps while it plays in mind -/
def JC (c c' : AH) : Prop := (∀ o k, o < 5 ∨ (42 ≤ o ∧ o < 52) ∨ (62 ≤ o ∧ o < 72) → ¬ (o = 0 ∧ k = 17) → c'.1 o k = c.1 o k) ∧ (∀ o, (42 ≤ o ∧ o < 52) ∨ (62 ≤ o ∧ o < 72) → c'.2.2 o = c.2.2 o) ∧ ∀ o, 10 ≤ o → o ≤ 30 → c'.2.1 o = c.2.1 o
theorem JC.rf {c : AH} : JC c c := ⟨fun _ _ _ _ => rfl, fun _ _ => rfl, fun _ _ _ => rfl⟩
theorem JC.tr {c c' c2 : AH} (a : JC c c') (b : JC c' c2) : JC c c2 := ⟨fun o k h1 h2 => (b.1 o k h1 h2).trans (a.1 o k h1 h2), fun o h => (b.2.1 o h).trans (a.2.1 o h), fun o h1 h2 => (b.2.2 o h1 h2).trans (a.2.2 o h1 h2)⟩
theorem JC.FR {c c' : AH} (f : FR c c') : JC c c' := ⟨fun o k h _ => f.1 o k (by omega) (by omega) (by omega), fun o _ => by rw [f.2], fun o _ _ => by rw [f.2]⟩
theorem JC.T {c c' : AH} (h1 : c'.2 = c.2) (h2 : ∀ p q, (p < 52 ∨ 58 ≤ p) → c'.1 p q = c.1 p q) : JC c c' := ⟨fun o k h _ => h2 o k (by omega), fun o _ => by rw [h1], fun o _ _ => by rw [h1]⟩
theorem JC.cp {c : AH} : JC c (mcp 52 42 c) := ⟨fun o k h _ => mcp_ne (by omega), fun o h => mcp_ne2 (by omega), fun _ _ _ => rfl⟩
/-- what the reference keeps while it plays on -/
def JR (T : Nat) (r r' : AH) : Prop := (∀ k, k ≠ 16 → k ≠ 40 → r'.1 0 k = r.1 0 k) ∧ (∀ o k, 1 ≤ o → o ≠ 10 → o ≠ 11 → o ≠ 12 → o ≠ 20 → o ≠ 21 → o ≠ 22 → r'.1 o k = r.1 o k) ∧ ∀ t, t < T → r'.1 10 t = r.1 10 t ∧ r'.1 11 t = r.1 11 t
theorem JR.rf {T : Nat} {r : AH} : JR T r r := ⟨fun _ _ _ => rfl, fun _ _ _ _ _ _ _ _ _ => rfl, fun _ _ => ⟨rfl, rfl⟩⟩
theorem JR.tr {T : Nat} {r r' r2 : AH} (a : JR T r r') (b : JR T r' r2) : JR T r r2 := ⟨fun k h1 h2 => (b.1 k h1 h2).trans (a.1 k h1 h2), fun o k h1 h2 h3 h4 h5 h6 h7 => (b.2.1 o k h1 h2 h3 h4 h5 h6 h7).trans (a.2.1 o k h1 h2 h3 h4 h5 h6 h7), fun t ht => ⟨(b.2.2 t ht).1.trans (a.2.2 t ht).1, (b.2.2 t ht).2.trans (a.2.2 t ht).2⟩⟩
theorem JR.FT {T : Nat} {r r' : AH} (f : FT r r') : JR T r r' := ⟨fun k _ _ => f.1 0 k (by omega) (by omega) (by omega), fun o k _ _ _ _ h1 h2 h3 => f.1 o k h1 h2 h3, fun t _ => ⟨f.1 10 t (by omega) (by omega) (by omega), f.1 11 t (by omega) (by omega) (by omega)⟩⟩
theorem JR.T {T T' : Nat} {r r' : AH} (hT : T ≤ T') (h1 : ∀ p q, p ≠ 10 → p ≠ 11 → p ≠ 12 → ¬ (p = 0 ∧ q = 16) → r'.1 p q = r.1 p q) (h2 : ∀ t, t < T' → r'.1 10 t = r.1 10 t ∧ r'.1 11 t = r.1 11 t) : JR T r r' := ⟨fun k h _ => h1 0 k (by omega) (by omega) (by omega) (by omega), fun o k _ h3 h4 h5 _ _ _ => h1 o k h3 h4 h5 (by omega), fun t ht => h2 t (by omega)⟩
theorem l_judge {c r : AH} {S G N T n : Nat} {w : Nat → Nat} (hn : n ≤ 12) (x2 : Int32) (e : c.1 0 8 = nI n) (hw : ∀ k, k < n → w k ≤ 99 ∧ c.1 3 k = nI (w k) ∧ r.1 23 k = nI (w k)) : ∀ (f t Tt : Nat) (ct rt : AH), n < t + f → t ≤ n → T ≤ Tt → MR 52 ct rt S G N Tt → JC c ct → JR T r rt →
    ∃ v c' r', X10_judged_l13 f (nI t) ct = some (v, c') ∧ X11_judge_l21 (nI n) x2 f (-9) (nI t) rt = X11_judge_j62 x2 v r' ∧ JC c c' ∧ JR T r r' := by
  intro f
  induction f with
  | zero => intro t Tt ct rt h1 h2; omega
  | succ f ih =>
    intro t Tt ct rt h1 h2 hT M p q
    have hN := M.1.2.2.2.2.2.2.1
    rw [X10_judged_l13.eq_2, X11_judge_l21.eq_2, p.1 0 8 (by omega) (by omega), e]
    by_cases z : t = n
    · subst z
      rw [if_pos (Int32.le_refl _), if_pos (Int32.le_refl _)]
      exact ⟨_, ct, rt, rfl, rfl, p, q⟩
    · obtain ⟨w1, w2, w3⟩ := hw t (by omega)
      obtain ⟨lv, c1, ra, a1, _, a3, _, _⟩ := t_lead M (by omega)
      rw [if_neg (nI_ge (by omega) (by omega)), if_neg (nI_ge (by omega) (by omega)), if_neg (show ¬ (0 : Int32) ≤ -9 by decide), a1, bd_s, ck_nI _ (by omega) (by decide), ck_nI _ (by omega) (by decide), nI_clamp (by omega), (p.tr (JC.FR a3)).1 3 t (by omega) (by omega), q.2.1 23 t (by omega) (by omega) (by omega) (by omega) (by omega) (by omega) (by omega), w2, w3, vl_e]
      -- the reference
      have Mc1 : MR 52 c1 rt S G N Tt := MR_c (CA.FR (by omega) a3) M
      obtain ⟨tv, c2, r2, b1, b2, b3, b4, b5, M2⟩ := t_turn Mc1 (by omega)
      have found : ∀ g : AH, X11_judge_j55 (nI n) x2 (nI t) (X11_judge_l21 (nI n) x2 f) (nI t) g = X11_judge_j62 x2 (nI t) g := by
        intro g
        unfold X11_judge_j55
        rw [vl_e, nI_1]
        cases f with
        | zero => omega
        | succ f =>
          rw [X11_judge_l21.eq_2, if_pos (nI_pos' (by omega))]
          split <;> rfl
      have pd : ∀ x : Int32, ∃ v c' r', X10_judged_j54 (nI t) lv (X10_judged_l13 f) (if 0 ≤ x then x else -9) c1 = some (v, c') ∧ (x.toInt ≤ 49 → (bd (X11_isOther x rt) fun r6 h7 => if r6 = 0 then X11_judge_j55 (nI n) x2 (nI t) (X11_judge_l21 (nI n) x2 f) (-9) h7 else X11_judge_j55 (nI n) x2 (nI t) (X11_judge_l21 (nI n) x2 f) (nI t) h7) = X11_judge_j62 x2 v r' ∧ JC c c' ∧ JR T r r') ∨ 49 < x.toInt := by
        intro x
        by_cases hx : 49 < x.toInt
        · exact ⟨0, c, r, Or.inr hx⟩
        unfold X10_judged_j54 X10_tryComes X11_isOther
        rw [b1, bd_s, b2, bd_s]
        rcases b5 with ⟨o1, rfl⟩ | ⟨o1, o2, j, rfl, o3⟩
        · rw [if_neg (show ¬ (0 : Int32) ≤ -9 by decide), if_neg (show ¬ (0 : Int32) ≤ -9 by decide), cz_0, cz_1, bd_s, bd_s, i_0, i_10, found]
          exact ⟨_, _, _, Or.inl ⟨rfl, fun _ => ⟨rfl, (p.tr (JC.FR a3)).tr (JC.FR b3), q.tr (JR.FT b4)⟩⟩⟩
        · have hj := o3.1
          have hj4 : j < 4 := by omega
          rw [if_pos (nI_pos' (by omega)), if_pos (nI_pos' (by omega))]
          obtain ⟨lv2, c3', r3, _, d2, _, d4, _⟩ := t_lead M2 (by omega)
          have lveq : lv2 = lv := by
            obtain ⟨x1, _, y1, _, y3⟩ := m_leadC M (by omega)
            obtain ⟨x2, _, y4, _, y6⟩ := m_leadR M2.1
            have e1 : x1 = lv := by rw [a1] at y1; exact ((Prod.mk.inj (Option.some.inj y1)).1).symm
            have e2 : x2 = lv2 := by rw [d2] at y4; exact ((Prod.mk.inj (Option.some.inj y4)).1).symm
            rw [← e1, ← e2]
            exact LV_u hN (LV_c (RA.FT b4).sy y6) y3
          subst lveq
          have M3 : MR 52 c2 r3 S G N Tt := MR_r (RA.FT d4) M2
          have hA : TA r3 N (min G N) Tt j := TA_c (RA.FT d4) (Nat.le_refl _) o3
          rw [d2, bd_s]
          unfold X11_isOther_j34
          have fin : ∀ b off : Int32, (told (RJ r3 j) (r3.1 0 14) b 0 = -9 ∨ told (RJ r3 j) (r3.1 0 14) b 0 = -8 ∨ 0 ≤ (told (RJ r3 j) (r3.1 0 14) b 0).toInt) → ∃ v c' r', (bd (bd (X5_record 52 (nI j) b 0 c2) fun r3 h4 => cz 1 (some ((1 : Int32), h4))) fun r6 h7 => if r6 = 0 then some (nI t, h7) else bd (X5_leader 52 h7) fun r8 h9 => if r8 = lv2 then vl (nI t + 1) fun x10 => X10_judged_l13 f x10 h9 else some (nI t, h9)) = some (v, c') ∧ (bd (bd (X11_putsTry (nI j) (told (RJ r3 j) (r3.1 0 14) b 0) off r3) fun _ h8 => bd (X11_leader h8) fun r9 h10 => if r9 = lv2 then cz 0 (some ((0 : Int32), h10)) else cz 1 (some (1, h10))) fun r6 h7 => if r6 = 0 then X11_judge_j55 (nI n) x2 (nI t) (X11_judge_l21 (nI n) x2 f) (-9) h7 else X11_judge_j55 (nI n) x2 (nI t) (X11_judge_l21 (nI n) x2 f) (nI t) h7) = X11_judge_j62 x2 v r' ∧ JC c c' ∧ JR T r r' := by
            intro b off hres
            obtain ⟨c4, r4, g1, g2, M4, g3, g4, g5, g6, g7, g8, g9⟩ := m_try (off := off) (b := b) (loss := 0) M3 (Or.inr (Or.inl rfl)) o2 hA hres
            obtain ⟨lv5, c5, r5, k1, k2, k3, k4, M5⟩ := t_lead M4 (by omega)
            have P5 : JC c c5 := (((p.tr (JC.FR a3)).tr (JC.FR b3)).tr (JC.T g3 g5)).tr (JC.FR k3)
            have Q5 : JR T r r5 := (((q.tr (JR.FT b4)).tr (JR.FT d4)).tr (JR.T hT g6 g9)).tr (JR.FT k4)
            rw [g1, bd_s, cz_1, bd_s, i_10, k1, bd_s, g2, bd_s, k2, bd_s]
            by_cases y : lv5 = lv2
            · rw [if_pos y, if_pos y, cz_0, bd_s, i_0, vl_e, nI_1]
              unfold X11_judge_j55
              rw [vl_e, nI_1]
              exact ih (t + 1) (Tt + 1) c5 r5 (by omega) (by omega) (by omega) M5 P5 Q5
            · rw [if_neg y, if_neg y, cz_1, bd_s, i_10, found]
              exact ⟨_, _, _, rfl, rfl, P5, Q5⟩
          by_cases hx0 : 0 ≤ x
          · have hx0' := hx0
            have t0 : (0 : Int32).toInt = 0 := rfl
            rw [fa_le, t0] at hx0'
            rw [if_pos hx0, if_pos hx0, s_lenR hj4, bd_s]
            have et : told (RJ r3 j) (r3.1 0 14) x 0 = lenS (r3.1 2 j) (r3.1 3 j) (r3.1 7 j) (r3.1 0 14) x 0 := by
              unfold told
              rw [if_pos hx0]
              rfl
            have nn := told_nn (r := r3) (j := j) (b := x) (loss := 0) (M3.1.2.2.2.2.2.2.2.2.2.1 j hj4) M3.1.2.2.2.2.2.2.2.2.1 hx0' (by omega) (by decide) (by decide)
            obtain ⟨v, c', r', u1, u2⟩ := fin x x (Or.inr (Or.inr nn))
            rw [et] at u2
            exact ⟨v, c', r', Or.inl ⟨u1, fun _ => u2⟩⟩
          · rw [if_neg hx0, if_neg hx0]
            have et : told (RJ r3 j) (r3.1 0 14) (-9) 0 = -9 := by
              unfold told
              rw [if_neg (by decide)]
            obtain ⟨v, c', r', u1, u2⟩ := fin (-9) x (Or.inl et)
            rw [et] at u2
            exact ⟨v, c', r', Or.inl ⟨u1, fun _ => u2⟩⟩
      have hv : (nI (w t) - 50).toInt = (w t : Int) - 50 := pk_sub_toInt (b := 50) (by omega) (by omega)
      obtain ⟨v, c', r', u⟩ := pd (nI (w t) - 50)
      rcases u with ⟨u1, u2⟩ | u
      · obtain ⟨u3, u4, u5⟩ := u2 (by omega)
        refine ⟨v, c', r', ?_, u3, u4, u5⟩
        rw [← u1]
        by_cases y : 0 ≤ nI (w t) - 50
        · rw [if_pos y, if_pos y]
        · rw [if_neg y, if_neg y]
      · omega
theorem o_judge {c r : AH} (I : Inv c r) : SimE (X10_judge c) (X11_judge r) Inv := by
  obtain ⟨⟨S, G, N, T, M⟩, hW, ⟨L, l1, l2, l3, l4⟩, hRow, hRF, hIM⟩ := id I
  obtain ⟨n, w, hn, e, e', hw⟩ := RW_w hRow
  have h24 := T24 M
  have M0 : MR 52 (mcp 52 42 c) (sI r 0 34 0) S G N T := MR_r ⟨fun k _ _ => by rw [sI_n (by omega)], fun o k _ _ _ => by rw [sI_n (by omega)], fun t _ => ⟨by rw [sI_n (by omega)], by rw [sI_n (by omega)]⟩⟩ (MR_mcp (o := 52) M h24)
  obtain ⟨v, c', r', u1, u2, p, q⟩ := l_judge (r := sI r 0 34 0) (x2 := r.1 0 16) hn e (fun k hk => ⟨(hw k hk).1, (hw k hk).2.1, by rw [sI_n (by omega)]; exact (hw k hk).2.2⟩) FU 0 T (mcp 52 42 c) (sI r 0 34 0) (by unfold FU; omega) (Nat.zero_le _) (Nat.le_refl _) M0 JC.cp JR.rf
  have u1 : X10_judged_l13 FU 0 (mcp 52 42 c) = _ := u1
  have u2 : X11_judge_l21 (nI n) (r.1 0 16) FU (-9) 0 (sI r 0 34 0) = _ := u2
  have e1 : X10_judge c = some (v, sI c' 0 8 0) := by
    unfold X10_judge X10_judged
    rw [s_mcp (by omega) c, bd_s, u1, bd_s, vl_e]
  have e2 : X11_judge r = some (v, sI r' 0 16 (r.1 0 16)) := by
    unfold X11_judge
    simp only [vl_e]
    rw [e', u2]
    unfold X11_judge_j62
    rw [vl_e]
  have q1 : ∀ k, k ≠ 16 → k ≠ 34 → k ≠ 40 → r'.1 0 k = r.1 0 k := fun k a b d => by rw [q.1 k a d, sI_n (by omega)]
  have q2 : ∀ o k, 1 ≤ o → o ≠ 10 → o ≠ 11 → o ≠ 12 → o ≠ 20 → o ≠ 21 → o ≠ 22 → r'.1 o k = r.1 o k := fun o k h1 h2 h3 h4 h5 h6 h7 => by rw [q.2.1 o k h1 h2 h3 h4 h5 h6 h7, sI_n (by omega)]
  refine SimE.mk' e1 e2 rfl (inv_g I ⟨S, G, N, T, MR_k M (fun o k h1 h2 => ?_) (fun o h1 h2 => p.2.1 o (by omega)) ⟨fun k h1 h2 => ?_, fun o k h1 h2 _ => ?_, fun t ht => ⟨?_, ?_⟩⟩⟩ ⟨L, l1, ?_, ?_, fun k hk => ?_⟩ ⟨0, by omega, sI_y, ?_, fun k hk => absurd hk (by omega)⟩ ⟨?_, fun k => ?_, fun o k h1 h2 => ?_, fun o h1 h2 => p.2.1 o (by omega), fun o h1 h2 => p.2.2 o h1 h2⟩ ⟨?_, fun k => ?_, fun k _ => ?_⟩)
  · rw [sI_n (by omega)]; exact p.1 o k (by omega) (by omega)
  · by_cases y : k = 16
    · rw [y, sI_y]
    · rw [sI_n (by omega)]; exact q1 k (by omega) (by omega) (by omega)
  · rw [sI_n (by omega)]; exact q2 o k (by omega) (by omega) (by omega) (by omega) (by omega) (by omega) (by omega)
  · rw [sI_n (by omega), (q.2.2 t ht).1, sI_n (by omega)]
  · rw [sI_n (by omega), (q.2.2 t ht).2, sI_n (by omega)]
  · rw [sI_n (by omega), p.1 0 6 (by omega) (by omega)]; exact l2
  · rw [sI_n (by omega), q1 21 (by omega) (by omega) (by omega)]; exact l3
  · rw [sI_n (by omega), sI_n (by omega), p.1 2 k (by omega) (by omega), q2 13 k (by omega) (by omega) (by omega) (by omega) (by omega) (by omega) (by omega)]; exact l4 k hk
  · rw [sI_n (by omega), q.1 34 (by omega) (by omega), sI_y]; rfl
  · rw [sI_n (by omega)]; exact p.1 0 4 (by omega) (by omega)
  · rw [sI_n (by omega)]; exact p.1 4 k (by omega) (by omega)
  · rw [sI_n (by omega)]; exact p.1 o k (by omega) (by omega)
  · rw [sI_n (by omega)]; exact q1 25 (by omega) (by omega) (by omega)
  · rw [sI_n (by omega)]; exact q2 1 k (by omega) (by omega) (by omega) (by omega) (by omega) (by omega) (by omega)
  · rw [sI_n (by omega)]; exact q2 17 k (by omega) (by omega) (by omega) (by omega) (by omega) (by omega) (by omega)
end
section
/-! SEEDS: a run drawn, slip by slip -/
theorem look_b {p aim : Int32} {B : Int} (hB : 11 ≤ B) (hB2 : B ≤ 10000) (ha : 0 ≤ aim.toInt) (ha2 : aim.toInt ≤ 11) (h1 : -B ≤ p.toInt) (h2 : p.toInt ≤ B) : (-B ≤ (p - (p - aim) / 2).toInt ∧ (p - (p - aim) / 2).toInt ≤ B) ∧ 0 ≤ (ab32 ((p - aim) / 2) / 4).toInt ∧ (ab32 ((p - aim) / 2) / 4).toInt ≤ 10011 := by
  have h3 : (p - aim).toInt = p.toInt - aim.toInt := fb_subI (by omega) (by omega)
  have h4 : (2 : Int32).toInt = 2 := rfl
  have e : ((p - aim) / 2).toInt = (p.toInt - aim.toInt).tdiv 2 := by rw [Int32.toInt_div_of_ne_right _ _ (by decide), h3, h4]
  have h5 := td_b (p.toInt - aim.toInt) 2 (by omega)
  refine ⟨?_, ab_b (by rw [e]; omega) (by rw [e]; omega)⟩
  rw [fb_subI (by rw [e]; omega) (by rw [e]; omega), e]
  omega
def DRC (c c' : AH) : Prop := (∀ o k, ¬ (o = 0 ∧ k = 17) → c'.1 o k = c.1 o k) ∧ c'.2 = c.2
def DRR (r r' : AH) : Prop := (∀ o k, ¬ (o = 0 ∧ k = 40) → r'.1 o k = r.1 o k) ∧ r'.2 = r.2
section SE
variable {S G N T j : Nat} {c r : AH}
theorem l_run52 (M : MR 52 c r S G N T) (hj : j < 4) : ∀ (f t : Nat) (p loss : Int32) (ct rt : AH), S < t + f → t ≤ S → (-(5000 + 6 * (t : Int)) ≤ p.toInt ∧ p.toInt ≤ 5000 + 6 * (t : Int)) → (0 ≤ loss.toInt ∧ loss.toInt ≤ 10011) → DRC c ct → DRR r rt → ct.1 0 17 = rt.1 0 40 →
    ∃ (p' loss' : Int32) (c' r' : AH), X10_runByDraws_l39 (nI j) (58 + j) f p loss (nI t) ct = (if 0 ≤ p' then X10_runByDraws_j154 loss' p' (nI j) c' else X10_runByDraws_j154 loss' (-9) (nI j) c') ∧ X11_triesByLot_l11 (nI j) f p loss (nI t) rt = (if 0 ≤ p' then (bd (X11_lengthOf (nI j) p' loss' r') fun r3 h4 => X11_triesByLot_j109 p' r3 (nI j) h4) else X11_triesByLot_j109 p' (-9) (nI j) r') ∧ p'.toInt ≤ 6000 ∧ (0 ≤ loss'.toInt ∧ loss'.toInt ≤ 10011) ∧ DRC c c' ∧ DRR r r' ∧ c'.1 0 17 = r'.1 0 40 := by
  obtain ⟨rS, rG, rN, rT, hS, hG, hN, hT, hWW, hJ, hH⟩ := id M.1
  obtain ⟨κ, f', a, g, s, pp, l, m, hκ, hf, ha, hg, hs, hpp, hl, hm, e1, e2, e3, e4, e5, e6, e7, e8⟩ := id (hJ j hj)
  have hcj : ∀ k, 1 ≤ k → k ≤ 8 → c.1 (58 + j) k = RJ r j k := (M.2.2.1 j hj).1
  have hK : JK c (58 + j) := (M.2.2.1 j hj).2
  have haim := aim_b (kd := r.1 2 j) (fg := r.1 3 j) hf e2
  intro f
  induction f with
  | zero => intro t p loss ct rt h1 h2; omega
  | succ f ih =>
    intro t p loss ct rt h1 h2 hp hlo F E hs17
    rw [X10_runByDraws_l39.eq_2, X11_triesByLot_l11.eq_2, F.1 52 0 (by omega), E.1 0 12 (by omega), M.2.1.1, rS]
    by_cases z : t = S
    · subst z
      rw [if_pos (Int32.le_refl _), if_pos (Int32.le_refl _)]
      exact ⟨p, loss, ct, rt, rfl, rfl, by omega, hlo, F, E, hs17⟩
    · have c7 : ct.1 (58 + j) 7 = nI l := by rw [F.1 (58 + j) 7 (by omega), hcj 7 (by omega) (by omega)]; exact e7
      have r8 : rt.1 8 j = nI l := by rw [E.1 8 j (by omega)]; exact e7
      have e10 : nI S - nI t = nI (S - t) := pk_sub h2
      have e11 : nI S - nI l = nI (S - l) := pk_sub (by omega)
      -- a draw, both
      have draw : ∀ (q lo : Int32), (-(5000 + 6 * (t : Int)) ≤ q.toInt ∧ q.toInt ≤ 5000 + 6 * (t : Int)) → (0 ≤ lo.toInt ∧ lo.toInt ≤ 10011) → ∃ (p' loss' : Int32) (c' r' : AH), X10_runByDraws_j96 (nI j) (58 + j) q lo (nI t) (X10_runByDraws_l39 (nI j) (58 + j) f) ct = (if 0 ≤ p' then X10_runByDraws_j154 loss' p' (nI j) c' else X10_runByDraws_j154 loss' (-9) (nI j) c') ∧ X11_triesByLot_j77 (nI j) q lo (nI t) (X11_triesByLot_l11 (nI j) f) rt = (if 0 ≤ p' then (bd (X11_lengthOf (nI j) p' loss' r') fun r3 h4 => X11_triesByLot_j109 p' r3 (nI j) h4) else X11_triesByLot_j109 p' (-9) (nI j) r') ∧ p'.toInt ≤ 6000 ∧ (0 ≤ loss'.toInt ∧ loss'.toInt ≤ 10011) ∧ DRC c c' ∧ DRR r r' ∧ c'.1 0 17 = r'.1 0 40 := by
        intro q lo hq hlo
        obtain ⟨sd, esd⟩ : ∃ sd, sd = rt.1 0 40 * 1103515245 + 12345 := ⟨_, rfl⟩
        have F1 : DRC c (sI ct 0 17 sd) := ⟨fun o k h => by rw [sI_n h]; exact F.1 o k h, F.2⟩
        have E1 : DRR r (sI rt 0 40 sd) := ⟨fun o k h => by rw [sI_n h]; exact E.1 o k h, E.2⟩
        have c5 : (sI ct 0 17 sd).1 (58 + j) 5 = nI s := by rw [F1.1 (58 + j) 5 (by omega), hcj 5 (by omega) (by omega)]; exact e5
        have r6 : (sI rt 0 40 sd).1 6 j = nI s := by rw [E1.1 6 j (by omega)]; exact e5
        have ns : (nI s).toInt = s := toInt_nI (by omega)
        have nn : (-nI s).toInt = -(s : Int) := by rw [fb_negI (by rw [ns]; omega), ns]
        have z0 : (0 : Int32).toInt = 0 := rfl
        have go : ∀ x : Int32, -6 ≤ x.toInt → x.toInt ≤ 6 → _ := fun x h1 h2 => ih (t + 1) (q - x) lo (sI ct 0 17 sd) (sI rt 0 40 sd) (by omega) (by omega) (by rw [fb_subI (by omega) (by omega)]; omega) hlo F1 E1 (by rw [sI_y, sI_y])
        unfold X10_runByDraws_j96 X11_triesByLot_j77 X10_drawBelow X11_drawnSlip X10_runByDraws_j131
        rw [hs17, ← esd]
        simp only [vl_e, sI_y, hj_ck hj, nI_clamp (show j < 2 ^ 31 by omega), c5, r6]
        rw [if_pos (show (0 : Int32) < 4 by decide), if_neg (show ¬ (4 : Int32) = 0 by decide), bd_s]
        by_cases d0 : rm32 ((sd &&& 2147483647) / 65536) 4 = 0
        · rw [if_pos d0, if_pos d0, bd_s, nI_1, c5]
          exact go (nI s) (by omega) (by omega)
        · rw [if_neg d0, if_neg d0]
          by_cases d3 : rm32 ((sd &&& 2147483647) / 65536) 4 = 3
          · rw [if_pos d3, if_pos d3, bd_s, nI_1, c5]
            exact go (-nI s) (by omega) (by omega)
          · rw [if_neg d3, if_neg d3, bd_s, nI_1]
            exact go 0 (by omega) (by omega)
      rw [if_neg (nI_ge (by omega) (by omega)), if_neg (nI_ge (by omega) (by omega)), e10, c7, hj_ck hj, hj_ck hj, nI_clamp (by omega), r8, e11]
      by_cases y : S - t = l
      · have y2 : t = S - l := by omega
        have aC : kd (ct.2.2 (58 + j)) (X3_aimOf (58 + j) ct) (X7_aimOf (58 + j) ct) (X0_aimOf (58 + j) ct) (X4_aimOf (58 + j) ct) (X0_aimOf (58 + j) ct) (X8_aimOf (58 + j) ct) = some (aimS (r.1 2 j) (r.1 3 j), ct) := by
          have K2 : JK ct (58 + j) := by
            obtain ⟨κ, x, y, w⟩ := hK
            exact ⟨κ, x, by rw [F.2]; exact y, by rw [F.1 _ 1 (by omega)]; exact w⟩
          rw [s_aimC K2, F.1 _ 1 (by omega), F.1 _ 2 (by omega), hcj 1 (by omega) (by omega), hcj 2 (by omega) (by omega)]
          rfl
        have aR : X11_aimOf (nI j) rt = some (aimS (r.1 2 j) (r.1 3 j), rt) := by
          rw [s_aimR hj, E.1 2 j (by omega), E.1 3 j (by omega)]
        rw [if_pos (by rw [y]), if_neg (nI_nle (by omega) (by omega)), if_pos (by rw [y2]), aC, bd_s, aR, bd_s]
        have lb := look_b (p := p) (B := 5000 + 6 * (t : Int)) (by omega) (by omega) haim.1 haim.2 hp.1 hp.2
        simp only [vl_e]
        obtain ⟨p', loss', c', r', u1, u2, u3⟩ := draw (p - (p - aimS (r.1 2 j) (r.1 3 j)) / 2) (ab32 ((p - aimS (r.1 2 j) (r.1 3 j)) / 2) / 4) lb.1 lb.2
        refine ⟨p', loss', c', r', u1, ?_, u3⟩
        rw [← u2]
        unfold X11_triesByLot_j74
        rw [← ab_neg]
        simp only [vl_e]
        split <;> rfl
      · obtain ⟨p', loss', c', r', u1, u2, u3⟩ := draw p loss hp hlo
        rw [if_neg (fun q => y ((nI_eq (by omega) (by omega)).mp q))]
        refine ⟨p', loss', c', r', u1, ?_, u3⟩
        rw [← u2]
        by_cases w : l = 0
        · rw [if_pos (show nI l ≤ 0 by rw [w]; decide)]
        · rw [if_neg (nI_nle (by omega) (by omega)), if_neg (fun q => y (by have := (nI_eq (by omega) (by omega)).mp q; omega))]
theorem l_play1 (M : MR 52 c r S G N T) (hT : T < 3 * N + 3 * min G N) (hA : TA r N (min G N) T j) (hs17 : c.1 0 17 = r.1 0 40) : ∃ res c' r', X10_runByDraws (nI j) c = some (res, c') ∧ X11_triesByLot (nI j) r = some ((), r') ∧ MR 52 c' r' S G N (T + 1) ∧ JC c c' ∧ JR T r r' ∧ c'.1 0 17 = r'.1 0 40 ∧ r'.1 10 T = nI j ∧ r'.1 11 T = res := by
  obtain ⟨rS, rG, rN, rT, hS, hG, hN, _, hWW, hJ, hH⟩ := id M.1
  have hj4 : j < 4 := by have := hA.1; omega
  have hcj : ∀ k, 1 ≤ k → k ≤ 8 → c.1 (58 + j) k = r.1 (k + 1) j := (M.2.2.1 j hj4).1
  have hK : JK c (58 + j) := (M.2.2.1 j hj4).2
  have hpl := pl_b M.1 hj4 hWW
  obtain ⟨p', loss', c', r', u1, u2, u3, u4, F, E, hs⟩ := l_run52 M hj4 FU 0 (r.1 9 j - pathS (r.1 2 j) (r.1 4 j) (r.1 5 j) (r.1 0 14) S) 0 c r (by unfold FU; omega) (Nat.zero_le _) (by omega) (by decide) ⟨fun _ _ _ => rfl, rfl⟩ ⟨fun _ _ _ => rfl, rfl⟩ hs17
  have u1 : X10_runByDraws_l39 (nI j) (58 + j) FU _ 0 0 c = _ := u1
  have u2 : X11_triesByLot_l11 (nI j) FU _ 0 0 r = _ := u2
  have e1 : X10_runByDraws (nI j) c = X10_runByDraws_l39 (nI j) (58 + j) FU (r.1 9 j - pathS (r.1 2 j) (r.1 4 j) (r.1 5 j) (r.1 0 14) S) 0 0 c := by
    unfold X10_runByDraws
    rw [s_at 52 hj4, bd_s, cs_in _ (zc_j (o := 52) (Or.inr (Or.inl rfl)) hj4), M.2.1.1, s_path hK (by omega : S < 4000), bd_s, hcj 1 (by omega) (by omega), hcj 3 (by omega) (by omega), hcj 4 (by omega) (by omega), hcj 8 (by omega) (by omega), M.2.1.2.1, vl_e]
  have e2 : X11_triesByLot (nI j) r = X11_triesByLot_l11 (nI j) FU (r.1 9 j - pathS (r.1 2 j) (r.1 4 j) (r.1 5 j) (r.1 0 14) S) 0 0 r := by
    unfold X11_triesByLot
    rw [s_placeR hj4 (by omega : S < 4000) rS, bd_s]
  have M' : MR 52 c' r' S G N T := MR_r ⟨fun k h1 h2 => E.1 0 k (by omega), fun o k h1 h2 _ => E.1 o k (by omega), fun t _ => ⟨E.1 10 t (by omega), E.1 11 t (by omega)⟩⟩ (MR_cc M (fun k _ => F.1 52 k (by omega)) (fun i k _ _ _ => F.1 _ k (by omega)) (fun i _ => by rw [F.2]) (fun t _ => ⟨F.1 _ t (by omega), F.1 _ t (by omega)⟩))
  have hA' : TA r' N (min G N) T j := TA_c ⟨fun k h1 h2 => E.1 0 k (by omega), fun o k h1 h2 _ => E.1 o k (by omega), fun t _ => ⟨E.1 10 t (by omega), E.1 11 t (by omega)⟩⟩ (Nat.le_refl T) hA
  have P : JC c c' := ⟨fun o k _ h => F.1 o k h, fun o _ => by rw [F.2], fun o _ _ => by rw [F.2]⟩
  have Q : JR T r r' := ⟨fun k _ h => E.1 0 k (by omega), fun o k h _ _ _ _ _ _ => E.1 o k (by omega), fun t _ => ⟨E.1 10 t (by omega), E.1 11 t (by omega)⟩⟩
  have fin : ∀ b : Int32, (told (RJ r' j) (r'.1 0 14) b loss' = -9 ∨ told (RJ r' j) (r'.1 0 14) b loss' = -8 ∨ 0 ≤ (told (RJ r' j) (r'.1 0 14) b loss').toInt) → ∃ res c2 r2, X10_runByDraws_j154 loss' b (nI j) c' = some (res, c2) ∧ X11_triesByLot_j109 p' (told (RJ r' j) (r'.1 0 14) b loss') (nI j) r' = some ((), r2) ∧ MR 52 c2 r2 S G N (T + 1) ∧ JC c c2 ∧ JR T r r2 ∧ c2.1 0 17 = r2.1 0 40 ∧ r2.1 10 T = nI j ∧ r2.1 11 T = res := by
    intro b hres
    obtain ⟨c4, r4, g1, g2, M4, g3, g4, g5, g6, g7, g8, g9⟩ := m_try (off := p') (b := b) (loss := loss') M' (Or.inr (Or.inl rfl)) hT hA' hres
    have hp := s_putsTry (r := r') (T := T) (res := told (RJ r' j) (r'.1 0 14) b loss') (off := p') (a := nI j) M'.1.2.2.2.1 (by omega)
    have er := g2.symm.trans hp
    have er : r4 = _ := (Prod.mk.inj (Option.some.inj er)).2
    unfold X10_runByDraws_j154 X11_triesByLot_j109
    rw [g1, bd_s, g2, bd_s]
    refine ⟨_, c4, r4, rfl, rfl, M4, P.tr (JC.T g3 g5), Q.tr (JR.T (Nat.le_refl T) g6 g9), ?_, ?_, g7⟩
    · rw [g5 0 17 (by omega), g6 0 40 (by omega) (by omega) (by omega) (by omega)]
      exact hs
    · rw [er, sI_n (by omega), sI_n (by omega), sI_n (by omega), sI_y]
  rw [e1, u1, e2, u2]
  by_cases y : 0 ≤ p'
  · have z0 : (0 : Int32).toInt = 0 := rfl
    have y' := y
    rw [fa_le, z0] at y'
    have et : told (RJ r' j) (r'.1 0 14) p' loss' = lenS (r'.1 2 j) (r'.1 3 j) (r'.1 7 j) (r'.1 0 14) p' loss' := by
      unfold told
      rw [if_pos y]
      rfl
    have nn := told_nn (r := r') (j := j) (b := p') (loss := loss') (M'.1.2.2.2.2.2.2.2.2.2.1 j hj4) M'.1.2.2.2.2.2.2.2.2.1 y' (by omega) (by omega) (by omega)
    rw [if_pos y, if_pos y, s_lenR hj4, bd_s, ← et]
    exact fin p' (Or.inr (Or.inr nn))
  · have et : told (RJ r' j) (r'.1 0 14) (-9) loss' = -9 := by
      unfold told
      rw [if_neg (by decide)]
    have h := fin (-9) (Or.inl et)
    rw [et] at h
    rw [if_neg y, if_neg y]
    exact h
end SE
end
section
/-! SEEDS, the call -/
/-- what the tries from lo on give to one -/
def sV (r : AH) (a : Int32) (t : Nat) : Int32 := if r.1 10 t = a then (if r.1 11 t ≤ 0 then 0 else r.1 11 t) else 0
def sT (r : AH) (a : Int32) (lo : Nat) : Nat → Int32
  | 0 => 0
  | n + 1 => sT r a lo n + sV r a (lo + n)
theorem sT_c {r r' : AH} {a : Int32} {lo : Nat} : ∀ n, (∀ t, t < lo + n → r'.1 10 t = r.1 10 t ∧ r'.1 11 t = r.1 11 t) → sT r' a lo n = sT r a lo n := by
  intro n
  induction n with
  | zero => intro _; rfl
  | succ n ih =>
    intro h
    show sT r' a lo n + sV r' a (lo + n) = sT r a lo n + sV r a (lo + n)
    rw [ih (fun t ht => h t (by omega))]
    unfold sV
    rw [(h (lo + n) (by omega)).1, (h (lo + n) (by omega)).2]
theorem mx0 (x : Int32) : mx32 0 x = if x ≤ 0 then 0 else x := by
  unfold mx32
  by_cases y : 0 < x
  · rw [if_pos y, if_neg (Int32.not_le.mpr y)]
  · rw [if_neg y, if_pos (Int32.not_lt.mp y)]
section SD
variable {S G N T : Nat} {c r : AH}
/-- played to the end on both sides -/
theorem l_play (a1 v2 v4 v6 v7 v8 v9 : Int32) (K : Int32 → Int32 → Int32 → AH → Option (Int32 × AH)) : ∀ (f v : Nat) (ct rt : AH) (tv : Int32), 24 < v + f → v ≤ 24 → MR 52 ct rt S G N (T + v) → TV rt N (min G N) (T + v) tv → JC c ct → JR T r rt → ct.1 0 17 = rt.1 0 40 →
    ∃ (n : Nat) (c' r' : AH), X10_playToTheEnd_l4 a1 f (sT rt a1 T v) (nI v) ct = some (sT r' a1 T n, c') ∧ X11_seeds_l90 a1 v2 v4 v6 v7 v8 v9 K f tv rt = (bd (X11_leader r') fun r11 h12 => if r11 = a1 then X11_seeds_j125 a1 v2 v4 v6 v8 v9 K 1 v7 h12 else X11_seeds_j125 a1 v2 v4 v6 v8 v9 K 0 v7 h12) ∧ MR 52 c' r' S G N (T + n) ∧ JC c c' ∧ JR T r r' ∧ c'.1 0 17 = r'.1 0 40 := by
  intro f
  induction f with
  | zero => intro v ct rt tv h1 h2; omega
  | succ f ih =>
    intro v ct rt tv h1 h2 M tV p q hs
    have hN := M.1.2.2.2.2.2.2.1
    have hT := M.1.2.2.2.2.2.2.2.1
    have hF := F_b M.1
    rw [X10_playToTheEnd_l4.eq_2, X11_seeds_l90.eq_2]
    by_cases z : v = 24
    · subst z
      have ev : tv = -9 := by
        rcases tV with ⟨_, h⟩ | ⟨_, h, _⟩
        · exact h
        · omega
      subst ev
      rw [if_pos (show (24 : Int32) ≤ nI 24 by decide), if_pos (by decide)]
      exact ⟨24, ct, rt, rfl, rfl, M, p, q, hs⟩
    · obtain ⟨v', c1, b1, b2, b3⟩ := m_turnC M (by omega)
      have ev := TV_u hN b3 tV
      subst ev
      have M1 := MR_c (T := T + v) (CA.FR (by omega) b2) M
      have p1 := p.tr (JC.FR b2)
      have hs1 : c1.1 0 17 = rt.1 0 40 := by rw [b2.1 0 17 (by omega) (by omega) (by omega)]; exact hs
      rw [if_neg (show ¬ (24 : Int32) ≤ nI v from nI_ge (b := 24) (by omega) (by decide)), b1, bd_s]
      rcases tV with ⟨_, rfl⟩ | ⟨o1, o2, j, rfl, o3⟩
      · rw [if_neg (show ¬ (0 : Int32) ≤ -9 by decide), if_pos (by decide)]
        exact ⟨v, c1, rt, rfl, rfl, M1, p1, q, hs1⟩
      · have hj := o3.1
        obtain ⟨res, c2, r2, d1, d2, M2, p2, q2, hs2, x10, x11⟩ := l_play1 M1 o2 o3 hs1
        obtain ⟨tv3, r3, g1, g2, g3⟩ := m_turnR M2.1
        have M3 : MR 52 c2 r3 S G N (T + v + 1) := MR_r (RA.FT g2) M2
        have g3 := TV_c (RA.FT g2) g3
        have hs3 : c2.1 0 17 = r3.1 0 40 := by rw [g2.1 0 40 (by omega) (by omega) (by omega)]; exact hs2
        have Q3 : JR T r r3 := (q.tr ⟨q2.1, q2.2.1, fun t ht => q2.2.2 t (by omega)⟩).tr (JR.FT g2)
        rw [if_pos (nI_pos' (by omega)), if_neg (nI_pos (by omega)), d1, bd_s, d2, bd_s, g1, bd_s]
        have e1 : sT r3 a1 T v = sT rt a1 T v := sT_c v (fun t ht => by
          have h1 := q2.2.2 t ht
          rw [g2.1 10 t (by omega) (by omega) (by omega), g2.1 11 t (by omega) (by omega) (by omega)]
          exact h1)
        have e2 : sT r3 a1 T (v + 1) = sT rt a1 T v + (if nI j = a1 then mx32 0 res else 0) := by
          show sT r3 a1 T v + sV r3 a1 (T + v) = _
          rw [e1]
          unfold sV
          rw [g2.1 10 _ (by omega) (by omega) (by omega), g2.1 11 _ (by omega) (by omega) (by omega), x10, x11, mx0]
        have nx := ih (v + 1) c2 r3 tv3 (by omega) (by omega) M3 g3 (p1.tr p2) Q3 hs3
        rw [e2] at nx
        unfold X10_playToTheEnd_j55
        rw [vl_e]
        by_cases y : nI j = a1
        · rw [if_pos y] at nx ⊢
          simp only [vl_e, nI_1]
          exact nx
        · rw [if_neg y] at nx ⊢
          simp only [vl_e, nI_1]
          exact nx
/-- the reference adds up -/
theorem l_add (a1 v2 v4 v6 v7 v9 : Int32) (K : Int32 → Int32 → Int32 → AH → Option (Int32 × AH)) {n : Nat} (R : RN r S G N (T + n)) (v8 : Int32) : ∀ (f k : Nat), n < k + f → k ≤ n → X11_seeds_l132 a1 v2 v4 v6 v7 v9 K f (v8 + sT r a1 T k) (nI (T + k)) r = K v7 (v8 + sT r a1 T n) (v9 + 1) r := by
  have hN := R.2.2.2.2.2.2.1
  have hT := R.2.2.2.2.2.2.2.1
  intro f
  induction f with
  | zero => intro k h1 h2; omega
  | succ f ih =>
    intro k h1 h2
    rw [X11_seeds_l132.eq_2, R.2.2.2.1]
    by_cases z : k = n
    · subst z
      rw [if_pos (Int32.le_refl _), vl_e]
    · have nx := ih (k + 1) (by omega) (by omega)
      have e : v8 + sT r a1 T (k + 1) = v8 + sT r a1 T k + sV r a1 (T + k) := by
        show v8 + (sT r a1 T k + sV r a1 (T + k)) = _
        rw [Int32.add_assoc]
      rw [e] at nx
      unfold X11_seeds_j174 X11_seeds_j175
      unfold sV at nx
      rw [if_neg (nI_ge (by omega) (by omega))]
      have e3 : nI (T + k) + 1 = nI (T + (k + 1)) := nI_1 _
      simp only [ck_nI _ (show T + k < 24 by omega) (show 24 < 2 ^ 31 by decide), nI_clamp (show T + k < 2 ^ 31 by omega), vl_e, e3]
      by_cases y : r.1 10 (T + k) = a1
      · rw [if_pos y] at nx ⊢
        by_cases u : r.1 11 (T + k) ≤ 0
        · rw [if_pos u] at nx ⊢
          exact nx
        · rw [if_neg u] at nx ⊢
          exact nx
      · rw [if_neg y] at nx ⊢
        exact nx
theorem l_seeds (M : MR 42 c r S G N T) {n : Nat} (hn : n ≤ 20) (a1 v4 : Int32) : ∀ (f i : Nat) (x y : Int32) (ct rt : AH), n < i + f → i ≤ n → JC c ct → JR T r rt → ct.1 0 17 = rt.1 0 40 →
    ∃ z c' r', X10_seeds_l52 a1 (nI n) v4 f x y (nI i) ct = some (z, c') ∧ X11_seeds_l72 a1 (nI n) v4 (nI T) f x y (nI i) rt = some (z, sI r' 0 16 (nI T)) ∧ JC c c' ∧ JR T r r' := by
  have h24 := T24 M
  intro f
  induction f with
  | zero => intro i x y ct rt h1 h2; omega
  | succ f ih =>
    intro i x y ct rt h1 h2 p q hs
    rw [X10_seeds_l52.eq_2, X11_seeds_l72.eq_2]
    by_cases z : i = n
    · subst z
      rw [if_pos (Int32.le_refl _), if_pos (Int32.le_refl _), vl_e]
      by_cases u : v4 = 0
      · rw [if_pos u, if_pos u]; exact ⟨_, _, _, rfl, rfl, p, q⟩
      · rw [if_neg u, if_neg u]; exact ⟨_, _, _, rfl, rfl, p, q⟩
    · obtain ⟨r0, er0⟩ : ∃ r0, r0 = sI rt 0 16 (nI T) := ⟨_, rfl⟩
      have ra : RA T r r0 := by
        rw [er0]
        refine ⟨fun k h1 h2 => ?_, fun o k h1 h2 _ => ?_, fun t ht => ⟨?_, ?_⟩⟩
        · by_cases w : k = 16
          · rw [w, sI_y]; exact M.1.2.2.2.1.symm
          · rw [sI_n (by omega)]; exact q.1 k w (by omega)
        · rw [sI_n (by omega)]; exact q.2.1 o k (by omega) (by omega) (by omega) (by omega) (by omega) (by omega) (by omega)
        · rw [sI_n (by omega)]; exact (q.2.2 t ht).1
        · rw [sI_n (by omega)]; exact (q.2.2 t ht).2
      have Q0 : JR T r r0 := by
        rw [er0]
        exact q.tr ⟨fun k h _ => by rw [sI_n (by omega)], fun o k h _ _ _ _ _ _ => by rw [sI_n (by omega)], fun t _ => ⟨by rw [sI_n (by omega)], by rw [sI_n (by omega)]⟩⟩
      have M0 : MR 52 (mcp 52 42 ct) r0 S G N (T + 0) := MR_mcp (MR_k M (fun o k h1 h2 => p.1 o k (by omega) (by omega)) (fun o h1 h2 => p.2.1 o (by omega)) ra) h24
      have P0 : JC c (mcp 52 42 ct) := p.tr JC.cp
      have s0 : (mcp 52 42 ct).1 0 17 = r0.1 0 40 := by rw [mcp_ne (by omega), hs, er0, sI_n (by omega)]
      obtain ⟨tv, r1, g1, g2, g3⟩ := m_turnR M0.1
      have M1 : MR 52 (mcp 52 42 ct) r1 S G N (T + 0) := MR_r (RA.FT g2) M0
      have s1 : (mcp 52 42 ct).1 0 17 = r1.1 0 40 := by rw [g2.1 0 40 (by omega) (by omega) (by omega)]; exact s0
      obtain ⟨k, c2, r2, d1, d2, M2, P2, Q2, s2⟩ := l_play (T := T) (c := c) (r := r) a1 (nI n) v4 (nI T) x y (nI i) (X11_seeds_l72 a1 (nI n) v4 (nI T) f) FU 0 (mcp 52 42 ct) r1 tv (by unfold FU; omega) (Nat.zero_le _) M1 (TV_c (RA.FT g2) g3) P0 (Q0.tr (JR.FT g2)) s1
      have d1 : X10_playToTheEnd_l4 a1 FU 0 0 (mcp 52 42 ct) = _ := d1
      obtain ⟨lv, c3, r3, k1, k2, k3, k4, M3⟩ := t_lead M2 (by omega)
      have s3 : c3.1 0 17 = r3.1 0 40 := by rw [k3.1 0 17 (by omega) (by omega) (by omega), k4.1 0 40 (by omega) (by omega) (by omega)]; exact s2
      have e3 : sT r3 a1 T k = sT r2 a1 T k := sT_c k (fun t _ => ⟨k4.1 10 t (by omega) (by omega) (by omega), k4.1 11 t (by omega) (by omega) (by omega)⟩)
      have hk24 := T24' M3
      have sum := fun v7 => l_add (T := T) a1 (nI n) v4 (nI T) v7 (nI i) (X11_seeds_l72 a1 (nI n) v4 (nI T) f) (n := k) M3.1 y FU 0 (by unfold FU; omega) (Nat.zero_le _)
      have sum : ∀ v7, X11_seeds_l132 a1 (nI n) v4 (nI T) v7 (nI i) (X11_seeds_l72 a1 (nI n) v4 (nI T) f) FU y (nI T) r3 = X11_seeds_l72 a1 (nI n) v4 (nI T) f v7 (y + sT r3 a1 T k) (nI i + 1) r3 := by
        intro v7
        have h := sum v7
        have e0 : y + sT r3 a1 T 0 = y := Int32.add_zero y
        rw [e0] at h
        exact h
      unfold X10_playToTheEnd
      rw [if_neg (nI_ge (by omega) (by omega)), if_neg (nI_ge (by omega) (by omega)), s_mcp (by omega) ct, bd_s, d1, bd_s, vl_e, k1, bd_s, vl_e, ← er0, g1, bd_s, d2, k2, bd_s]
      unfold X10_seeds_j101 X11_seeds_j125
      simp only [vl_e, nI_1, sum, ← e3]
      by_cases u : lv = a1
      · rw [if_pos u, if_pos u]
        exact ih (i + 1) _ _ c3 r3 (by omega) (by omega) (P2.tr (JC.FR k3)) (Q2.tr (JR.FT k4)) s3
      · rw [if_neg u, if_neg u]
        exact ih (i + 1) _ _ c3 r3 (by omega) (by omega) (P2.tr (JC.FR k3)) (Q2.tr (JR.FT k4)) s3
end SD
theorem o_seeds {c r : AH} {a1 a2 a3 a4 : Int32} (I : Inv c r) : SimE (X10_seeds a1 a2 a3 a4 c) (X11_seeds a1 a2 a3 a4 r) Inv := by
  obtain ⟨⟨S, G, N, T, M⟩, hW, hL, hRow, hRF, hIM⟩ := id I
  have hN := M.1.2.2.2.2.2.2.1
  have rne : ∀ x : Int32, (x = -1 ∨ x = -2 ∨ x = -3 ∨ x = -4 ∨ x = -6) → ¬ x = 0 := fun x hx e => by rw [e] at hx; exact absurd hx (by decide)
  have r40 : ∀ (x : Int32), (x = -1 ∨ x = -2 ∨ x = -3 ∨ x = -4 ∨ x = -6) → X11_seeds_j40 a1 a2 a3 a4 x r = bd (X11_no x r) fun r21 h22 => some (r21, h22) := by
    intro x hx
    unfold X11_seeds_j40
    rw [if_neg (rne x hx)]
  unfold X10_seeds X11_seeds X11_seeds_j19
  rcases jm a1 hN with hz | ⟨j, hj, rfl⟩
  · rw [nb_n M.2.1.2.2.2.1 hz, ij_n M.1.2.2.1 hz, bd_s, bd_s, i_0, i_1, r40 _ (by decide)]
    simp only [s_outside, s_noSuch, s_first, bd_s, i_1]
    exact rfs (x := -1) I (by decide)
  · rw [nb_y M.2.1.2.2.2.1 hN hj, ij_y M.1.2.2.1 hN hj, bd_s, bd_s, i_10]
    simp only [s_outside, s_bound, s_noSuch, s_first, s_isIn, bd_s, i_0]
    by_cases h1 : a2 < 1
    · simp only [if_pos h1, if_true, i_4, r40 (-4) (by decide)]
      exact rfs (x := -4) I (by decide)
    · by_cases h2 : 20 < a2
      · simp only [if_neg h1, if_pos h2, if_true, i_6, r40 (-6) (by decide)]
        exact rfs (x := -6) I (by decide)
      · by_cases h3 : a4 < 0 ∨ 1 < a4
        · simp only [if_neg h1, if_neg h2, if_pos h3, if_true, i_0, i_2, vl_e, r40 (-2) (by decide)]
          exact rfs (x := -2) I (by decide)
        · simp only [if_neg h1, if_neg h2, if_neg h3, if_true, i_0, i_10]
          unfold X11_seeds_j40
          have t1 : (1 : Int32).toInt = 1 := rfl
          have t0 : (0 : Int32).toInt = 0 := rfl
          obtain ⟨n, hn, rfl⟩ := nI_of2 (x := a2) (M := 20) (n := 20) rfl (by rw [fa_lt] at h1 ⊢; omega) (Int32.not_lt.mp h2)
          rw [i_0, vl_e, vl_e, vl_e, M.1.2.2.2.1]
          have P0 : JC c (sI c 0 17 a3) := ⟨fun o k _ h => by rw [sI_n h], fun _ _ => rfl, fun _ _ _ => rfl⟩
          have Q0 : JR T r (sI r 0 40 a3) := ⟨fun k _ h => by rw [sI_n (by omega)], fun o k h _ _ _ _ _ _ => by rw [sI_n (by omega)], fun t _ => ⟨by rw [sI_n (by omega)], by rw [sI_n (by omega)]⟩⟩
          obtain ⟨z, c', r', u1, u2, p, q⟩ := l_seeds M hn (nI j) a4 FU 0 0 0 (sI c 0 17 a3) (sI r 0 40 a3) (by unfold FU; omega) (Nat.zero_le _) P0 Q0 (by rw [sI_y, sI_y])
          have ra : RA T r (sI r' 0 16 (nI T)) := by
            refine ⟨fun k h1 h2 => ?_, fun o k h1 h2 _ => ?_, fun t ht => ⟨?_, ?_⟩⟩
            · by_cases w : k = 16
              · rw [w, sI_y]; exact M.1.2.2.2.1.symm
              · rw [sI_n (by omega)]; exact q.1 k w (by omega)
            · rw [sI_n (by omega)]; exact q.2.1 o k (by omega) (by omega) (by omega) (by omega) (by omega) (by omega) (by omega)
            · rw [sI_n (by omega)]; exact (q.2.2 t ht).1
            · rw [sI_n (by omega)]; exact (q.2.2 t ht).2
          have q2 : ∀ o k, 1 ≤ o → o ≠ 10 → o ≠ 11 → o ≠ 12 → o ≠ 20 → o ≠ 21 → o ≠ 22 → (sI r' 0 16 (nI T)).1 o k = r.1 o k := fun o k h1 h2 h3 h4 h5 h6 h7 => by rw [sI_n (by omega)]; exact q.2.1 o k h1 h2 h3 h4 h5 h6 h7
          exact SimE.mk' u1 u2 rfl (inv_M I (MR_k M (fun o k h1 h2 => p.1 o k (by omega) (by omega)) (fun o h1 h2 => p.2.1 o (by omega)) ra) ⟨fun k hk => p.1 0 k (by omega) (by omega), fun o k h => p.1 o k (by omega) (by omega), fun o h1 h2 => p.2.1 o (by omega), fun o h1 h2 => p.2.2 o h1 h2⟩ ⟨fun k h => by rw [sI_n (by omega)]; exact q.1 k (by omega) (by omega), fun k => q2 1 k (by omega) (by omega) (by omega) (by omega) (by omega) (by omega) (by omega), fun k => ⟨q2 13 k (by omega) (by omega) (by omega) (by omega) (by omega) (by omega) (by omega), q2 23 k (by omega) (by omega) (by omega) (by omega) (by omega) (by omega) (by omega)⟩, fun k _ => q2 17 k (by omega) (by omega) (by omega) (by omega) (by omega) (by omega) (by omega)⟩)
end
