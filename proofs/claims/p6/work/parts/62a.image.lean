/-! IMAGE, RESTORE -/
theorem mcp_at (o p : Nat) (h : AH) (q k : Nat) : (mcp o p h).1 q k = if q = o ∧ k < 5 then h.1 p k else if o + 2 ≤ q ∧ q < o + 6 ∧ k < 24 then h.1 (p + (q - o)) k else if o + 6 ≤ q ∧ q < o + 10 ∧ 1 ≤ k ∧ k ≤ 8 then h.1 (p + (q - o)) k else h.1 q k := rfl
theorem mcp_22 (o p : Nat) (h : AH) (q : Nat) : (mcp o p h).2.2 q = if o + 6 ≤ q ∧ q < o + 10 then h.2.2 (p + (q - o)) else h.2.2 q := rfl
theorem rst_at (w : Nat) (r : AH) (o k : Nat) : (rst w r).1 o k = if 2 ≤ o ∧ o ≤ 9 ∧ k < 4 then r.1 17 (120 * w + (4 * (o - 2) + k)) else if 10 ≤ o ∧ o ≤ 12 ∧ k < 24 then r.1 17 (120 * w + (32 + 24 * (o - 10) + k)) else if o = 0 ∧ 12 ≤ k ∧ k ≤ 16 then r.1 17 (120 * w + (104 + (k - 12))) else r.1 o k := rfl
/-- the copied meet is the same -/
theorem MR_mcp {o p S G N T : Nat} {c r : AH} (M : MR p c r S G N T) (hT : T ≤ 24) : MR o (mcp o p c) r S G N T := by
  refine MR_cc M (fun k hk => ?_) (fun i k hi h1 h2 => ?_) (fun i hi => ?_) (fun t ht => ⟨?_, ?_⟩)
  · rw [mcp_at, if_pos ⟨rfl, hk⟩]
  · have e : p + (o + 6 + i - o) = p + 6 + i := by omega
    rw [mcp_at, if_neg (by omega), if_neg (by omega), if_pos (by omega), e]
  · have e : p + (o + 6 + i - o) = p + 6 + i := by omega
    rw [mcp_22, if_pos (by omega), e]
  · have e : p + (o + 2 - o) = p + 2 := by omega
    rw [mcp_at, if_neg (by omega), if_pos (by omega), e]
  · have e : p + (o + 4 - o) = p + 4 := by omega
    rw [mcp_at, if_neg (by omega), if_pos (by omega), e]
/-- what the copy leaves alone -/
theorem mcp_ne {o p : Nat} {h : AH} {q k : Nat} (hq : q < o ∨ o + 10 ≤ q) : (mcp o p h).1 q k = h.1 q k := by rw [mcp_at, if_neg (by omega), if_neg (by omega), if_neg (by omega)]
theorem mcp_ne2 {o p : Nat} {h : AH} {q : Nat} (hq : q < o ∨ o + 10 ≤ q) : (mcp o p h).2.2 q = h.2.2 q := by rw [mcp_22, if_neg (by omega)]
theorem RA_keep {T : Nat} {r r' : AH} {w : Nat} (hT : T ≤ 24) (h : ∀ a, a < 109 → r'.1 17 (120 * w + a) = r.1 (kob a) (kix a)) : RA T r (rst w r') := by
  refine ⟨fun k h1 h2 => ?_, fun o k h1 h2 h3 => ?_, fun t ht => ?_⟩
  · rw [rst_at, if_neg (by omega), if_neg (by omega), if_pos (by omega), h _ (by omega)]
    obtain ⟨a, b⟩ := ko_c (d := 104 + (k - 12)) (k - 12) rfl
    rw [a, b]
    have : 12 + (k - 12) = k := by omega
    rw [this]
  · rw [rst_at, if_pos (by omega), h _ (by omega)]
    obtain ⟨a, b⟩ := ko_a (d := 4 * (o - 2) + k) (i := k) (o - 2) (by omega) (by omega) rfl
    rw [a, b]
    have : 2 + (o - 2) = o := by omega
    rw [this]
  · have key : ∀ o, o = 10 ∨ o = 11 → (rst w r').1 o t = r.1 o t := by
      intro o ho
      rw [rst_at, if_neg (by omega), if_pos (by omega), h _ (by omega)]
      obtain ⟨a, b⟩ := ko_b (d := 32 + 24 * (o - 10) + t) (i := t) (o - 10) (by omega) (by omega) rfl
      rw [a, b]
      have : 10 + (o - 10) = o := by omega
      rw [this]
    exact ⟨key 10 (Or.inl rfl), key 11 (Or.inr rfl)⟩
theorem RA_back {T : Nat} {r r' : AH} {w : Nat} (hT : T ≤ 24) (h : ∀ a, a < 109 → r'.1 (kob a) (kix a) = r.1 17 (120 * w + a)) : RA T (rst w r) r' := by
  refine ⟨fun k h1 h2 => ?_, fun o k h1 h2 h3 => ?_, fun t ht => ?_⟩
  · rw [rst_at, if_neg (by omega), if_neg (by omega), if_pos (by omega), ← h _ (by omega)]
    obtain ⟨a, b⟩ := ko_c (d := 104 + (k - 12)) (k - 12) rfl
    rw [a, b]
    have : 12 + (k - 12) = k := by omega
    rw [this]
  · rw [rst_at, if_pos (by omega), ← h _ (by omega)]
    obtain ⟨a, b⟩ := ko_a (d := 4 * (o - 2) + k) (i := k) (o - 2) (by omega) (by omega) rfl
    rw [a, b]
    have : 2 + (o - 2) = o := by omega
    rw [this]
  · have key : ∀ o, o = 10 ∨ o = 11 → r'.1 o t = (rst w r).1 o t := by
      intro o ho
      rw [rst_at, if_neg (by omega), if_pos (by omega), ← h _ (by omega)]
      obtain ⟨a, b⟩ := ko_b (d := 32 + 24 * (o - 10) + t) (i := t) (o - 10) (by omega) (by omega) rfl
      rw [a, b]
      have : 10 + (o - 10) = o := by omega
      rw [this]
    exact ⟨key 10 (Or.inl rfl), key 11 (Or.inr rfl)⟩
theorem T24' {o S G N T : Nat} {c r : AH} (M : MR o c r S G N T) : T ≤ 24 := by
  have hN := M.1.2.2.2.2.2.2.1
  have hT := M.1.2.2.2.2.2.2.2.1
  omega
theorem o_image {c r : AH} (I : Inv c r) : SimE (X10_image c) (X11_image r) Inv := by
  obtain ⟨⟨S, G, N, T, M⟩, hW, ⟨L, l1, l2, l3, l4⟩, ⟨n, n1, n2, n3, n4⟩, hRF, hIM⟩ := id I
  have h24 := T24 M
  unfold X10_image X11_image
  rw [s_mcp (by omega) c, bd_s, cz_1, cz_1, vl_e, vl_e]
  obtain ⟨r', a1, a2, a3, a4, a5⟩ := s_keepAll (h := sI r 0 25 1) (w := 0) (by omega)
  have a1 : X11_passesAll 0 1 (sI r 0 25 1) = some ((), r') := a1
  rw [a1, bd_s]
  have q : ∀ o k, o ≠ 17 → ¬ (o = 0 ∧ (k = 25 ∨ k = 26 ∨ k = 27)) → r'.1 o k = r.1 o k := fun o k h1 h2 => by rw [a2 o k h1 (by omega), sI_n (by omega)]
  have p : ∀ o k, (o < 62 ∨ 72 ≤ o) → ¬ (o = 0 ∧ k = 4) → (sI (mcp 62 42 c) 0 4 1).1 o k = c.1 o k := fun o k h1 h2 => by rw [sI_n h2, mcp_ne (by omega)]
  have p2 : ∀ o, (o < 62 ∨ 72 ≤ o) → (sI (mcp 62 42 c) 0 4 1).2.2 o = c.2.2 o := fun o h => mcp_ne2 (by omega)
  have ra : RA T r r' := ⟨fun k h1 h2 => q 0 k (by decide) (by omega), fun o k h1 h2 _ => q o k (by omega) (by omega), fun t _ => ⟨q 10 t (by decide) (by omega), q 11 t (by decide) (by omega)⟩⟩
  have ra2 : RA T r (rst 0 r') := by
    refine RA.tr (r' := sI r 0 25 1) ⟨fun k h1 h2 => by rw [sI_n (by omega)], fun o k h1 h2 _ => by rw [sI_n (by omega)], fun t _ => ⟨by rw [sI_n (by omega)], by rw [sI_n (by omega)]⟩⟩ (RA_keep h24 a5)
  have M1 := MR_k M (fun o k h1 h2 => p o k (by omega) (by omega)) (fun o h1 h2 => p2 o (by omega)) ra
  refine SimE.mk' rfl rfl (by rw [p 42 4 (by omega) (by omega), q 0 16 (by decide) (by omega), M.2.1.2.2.2.2, M.1.2.2.2.1]) ⟨⟨S, G, N, T, M1⟩, fun m j hm => hW m j hm, ⟨L, l1, ?_, ?_, fun k hk => ?_⟩, ⟨n, n1, ?_, ?_, fun k hk => ?_⟩, fun k hk => ?_, Or.inr ⟨sI_y, ?_, S, G, N, T, ?_⟩⟩
  · rw [p 0 6 (by omega) (by omega)]; exact l2
  · rw [q 0 21 (by decide) (by omega)]; exact l3
  · rw [p 2 k (by omega) (by omega), q 13 k (by decide) (by omega)]; exact l4 k hk
  · rw [p 0 8 (by omega) (by omega)]; exact n2
  · rw [q 0 34 (by decide) (by omega)]; exact n3
  · rw [p 3 k (by omega) (by omega), q 23 k (by decide) (by omega)]; exact n4 k hk
  · rw [p 4 k (by omega) (by omega), q 1 k (by decide) (by omega)]; exact hRF k hk
  · rw [a2 0 25 (by decide) (by omega), sI_y]
  · refine MR_cc (MR_mcp (o := 62) (MR_r ra2 M) h24) (fun k _ => ?_) (fun i k _ _ _ => ?_) (fun i _ => rfl) (fun t _ => ⟨?_, ?_⟩)
    all_goals rw [sI_n (by omega)]
theorem o_restore {c r : AH} (I : Inv c r) : SimE (X10_restore c) (X11_restore r) Inv := by
  obtain ⟨⟨S, G, N, T, M⟩, hW, ⟨L, l1, l2, l3, l4⟩, ⟨n, n1, n2, n3, n4⟩, hRF, hIM⟩ := id I
  unfold X10_restore X11_restore
  rcases hIM with ⟨i1, i2⟩ | ⟨i1, i2, S', G', N', T', M'⟩
  · rw [i1, i2, i_0, i_0]
    exact rfs (x := -3) I (by decide)
  · rw [i1, i2, i_10, i_10, s_mcp (by omega) c, bd_s]
    have h24 : T' ≤ 24 := T24' M'
    obtain ⟨r', a1, a2, a3, a4, a5⟩ := s_backAll (h := r) (w := 0) (by omega)
    have a1 : X11_passesAll 0 0 r = some ((), r') := a1
    rw [a1, bd_s]
    have ra := RA_back h24 a5
    have M1 : MR 42 (mcp 42 62 c) r' S' G' N' T' := MR_r ra (MR_mcp (o := 42) M' h24)
    have q : ∀ o k, (o < 2 ∨ 12 < o) → ¬ (o = 0 ∧ (12 ≤ k ∧ k ≤ 16 ∨ k = 26 ∨ k = 27)) → r'.1 o k = r.1 o k := a2
    have p : ∀ o k, (o < 42 ∨ 52 ≤ o) → (mcp 42 62 c).1 o k = c.1 o k := fun o k h1 => mcp_ne (by omega)
    refine SimE.mk' rfl rfl (by rw [M1.2.1.2.2.2.2, M1.1.2.2.2.1]) ⟨⟨S', G', N', T', M1⟩, fun m j hm => hW m j hm, ⟨L, l1, ?_, ?_, fun k hk => ?_⟩, ⟨n, n1, ?_, ?_, fun k hk => ?_⟩, fun k hk => ?_, Or.inr ⟨?_, ?_, S', G', N', T', ?_⟩⟩
    · rw [p 0 6 (by omega)]; exact l2
    · rw [q 0 21 (by omega) (by omega)]; exact l3
    · rw [p 2 k (by omega), q 13 k (by omega) (by omega)]; exact l4 k hk
    · rw [p 0 8 (by omega)]; exact n2
    · rw [q 0 34 (by omega) (by omega)]; exact n3
    · rw [p 3 k (by omega), q 23 k (by omega) (by omega)]; exact n4 k hk
    · rw [p 4 k (by omega), q 1 k (by omega) (by omega)]; exact hRF k hk
    · rw [p 0 4 (by omega)]; exact i1
    · rw [q 0 25 (by omega) (by omega)]; exact i2
    · exact MR_r (RA.rst h24 (fun k _ => q 17 k (by omega) (by omega))) (MR_cc M' (fun k _ => p 62 k (by omega)) (fun i k _ _ _ => p _ k (by omega)) (fun i _ => mcp_ne2 (by omega)) (fun t _ => ⟨p _ t (by omega), p _ t (by omega)⟩))
