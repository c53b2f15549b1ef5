theorem lo_2 (h : AH) : X11_lower (-2) h = some (1000000000 - (-2), sI h 1 2 (h.1 1 2 + 1)) := lo_g (by decide) (by decide) h
theorem ll_g {x : Int32} {w : Nat} (h3 : ¬ (-x < 0 ∨ 7 ≤ (-x).toNatClampNeg)) (h4 : (-x).toNatClampNeg = w) (h : AH) : X11_lowest x h = some (4000000000000000000 - x.toInt64, sI h 1 w (h.1 1 w + 1)) := by
  unfold X11_lowest
  rw [ck_in _ h3, ck_in _ h3, vl_e, h4]
theorem ll_2 (h : AH) : X11_lowest (-2) h = some (4000000000000000000 - (-2 : Int32).toInt64, sI h 1 2 (h.1 1 2 + 1)) := ll_g (by decide) (by decide) h
theorem ll_3 (h : AH) : X11_lowest (-3) h = some (4000000000000000000 - (-3 : Int32).toInt64, sI h 1 3 (h.1 1 3 + 1)) := ll_g (by decide) (by decide) h
theorem ll_4 (h : AH) : X11_lowest (-4) h = some (4000000000000000000 - (-4 : Int32).toInt64, sI h 1 4 (h.1 1 4 + 1)) := ll_g (by decide) (by decide) h
theorem ll_6 (h : AH) : X11_lowest (-6) h = some (4000000000000000000 - (-6 : Int32).toInt64, sI h 1 6 (h.1 1 6 + 1)) := ll_g (by decide) (by decide) h
theorem n_64 : ((-6 : Int32) = -4) = False := eq_false (by decide)
theorem n_04 : ((0 : Int32) = -4) = False := eq_false (by decide)
/-! the meet alone is new -/
def PCx (c c' : AH) : Prop := (∀ k, k ≠ 17 → c'.1 0 k = c.1 0 k) ∧ (∀ o k, (2 ≤ o ∧ o ≤ 4) ∨ (62 ≤ o ∧ o < 72) → c'.1 o k = c.1 o k) ∧ (∀ o, 62 ≤ o → o < 72 → c'.2.2 o = c.2.2 o) ∧ ∀ o, 10 ≤ o → o ≤ 30 → c'.2.1 o = c.2.1 o
def PRx (r r' : AH) : Prop := (∀ k, k = 21 ∨ k = 25 ∨ k = 34 → r'.1 0 k = r.1 0 k) ∧ (∀ k, r'.1 1 k = r.1 1 k) ∧ (∀ k, r'.1 13 k = r.1 13 k ∧ r'.1 23 k = r.1 23 k) ∧ ∀ k, k < 120 → r'.1 17 k = r.1 17 k
theorem PCx.tr {c c' c2 : AH} (a : PCx c c') (b : PCx c' c2) : PCx c c2 := ⟨fun k h => (b.1 k h).trans (a.1 k h), fun o k h => (b.2.1 o k h).trans (a.2.1 o k h), fun o h h2 => (b.2.2.1 o h h2).trans (a.2.2.1 o h h2), fun o h1 h2 => (b.2.2.2 o h1 h2).trans (a.2.2.2 o h1 h2)⟩
theorem PRx.tr {r r' r2 : AH} (a : PRx r r') (b : PRx r' r2) : PRx r r2 := ⟨fun k h => (b.1 k h).trans (a.1 k h), fun k => (b.2.1 k).trans (a.2.1 k), fun k => ⟨(b.2.2.1 k).1.trans (a.2.2.1 k).1, (b.2.2.1 k).2.trans (a.2.2.1 k).2⟩, fun k h => (b.2.2.2 k h).trans (a.2.2.2 k h)⟩
theorem PC.x {c c' : AH} (p : PC c c') : PCx c c' := ⟨p.1, fun o k h => p.2.1 o k (by omega), fun o h1 h2 => p.2.2.1 o (by omega), p.2.2.2⟩
theorem PR.x {T : Nat} {r r' : AH} (p : PR T r r') : PRx r r' := ⟨fun k h => p.1 k (by omega), fun k => p.2.1 1 k (by omega) (by omega), p.2.2.2.1, p.2.2.2.2⟩
theorem inv_M {c r c' r' : AH} (I : Inv c r) {S G N T : Nat} (M' : MR 42 c' r' S G N T) (p : PCx c c') (q : PRx r r') : Inv c' r' := by
  obtain ⟨-, h2, ⟨L, l1, l2, l3, l4⟩, ⟨n, n1, n2, n3, n4⟩, h5, h6⟩ := I
  refine ⟨⟨S, G, N, T, M'⟩, fun m j hm => ?_, ⟨L, l1, ?_, ?_, fun k hk => ?_⟩, ⟨n, n1, ?_, ?_, fun k hk => ?_⟩, fun k hk => ?_, ?_⟩
  · rw [p.2.2.2 _ (by omega) (by omega)]
    exact h2 m j hm
  · rw [p.1 6 (by decide)]; exact l2
  · rw [q.1 21 (by omega)]; exact l3
  · rw [p.2.1 2 k (by omega), (q.2.2.1 k).1]; exact l4 k hk
  · rw [p.1 8 (by decide)]; exact n2
  · rw [q.1 34 (by omega)]; exact n3
  · rw [p.2.1 3 k (by omega), (q.2.2.1 k).2]; exact n4 k hk
  · rw [p.2.1 4 k (by omega), q.2.1 k]; exact h5 k hk
  · rcases h6 with ⟨a, b⟩ | ⟨a, b, S', G', N', T', M'⟩
    · exact Or.inl ⟨by rw [p.1 4 (by decide)]; exact a, by rw [q.1 25 (by omega)]; exact b⟩
    · exact Or.inr ⟨by rw [p.1 4 (by decide)]; exact a, by rw [q.1 25 (by omega)]; exact b, S', G', N', T', MR_r (RA.rst (by have := M'.1.2.2.2.2.2.2.2.1; have := M'.1.2.2.2.2.2.2.1; omega) q.2.2.2) (MR_cc M' (fun k hk => p.2.1 62 k (by omega)) (fun i k hi _ _ => p.2.1 _ k (by omega)) (fun i hi => p.2.2.1 _ (by omega) (by omega)) (fun t _ => ⟨p.2.1 _ t (by omega), p.2.1 _ t (by omega)⟩))⟩
/-- a jumper's field is new on both sides -/
theorem MR_fld {c r : AH} {S G N T j k : Nat} {v : Int32} (M : MR 42 c r S G N T) (hj : j < 4) (hk : 2 ≤ k ∧ k ≤ 8) (hJ : NJ (fun q => if q = k then v else RJ r j q)) : MR 42 (sI c (48 + j) k v) (sI r (k + 1) j v) S G N T := by
  obtain ⟨h1, h2, h3, h4⟩ := M
  have hT := h1.2.2.2.2.2.2.2.1
  have hN := h1.2.2.2.2.2.2.1
  obtain ⟨r1, r2, r3, r4, hS, hG, hN, hT, hW, hJ4, hH⟩ := h1
  have eJ : ∀ i, i < 4 → ∀ q, 1 ≤ q → q ≤ 8 → RJ (sI r (k + 1) j v) i q = if i = j ∧ q = k then v else RJ r i q := by
    intro i hi q q1 q2
    show (sI r (k + 1) j v).1 (q + 1) i = _
    rw [sI_at]
    by_cases c0 : i = j ∧ q = k
    · rw [if_pos c0, if_pos (by omega)]
    · rw [if_neg c0, if_neg (by omega)]
      rfl
  have eB : ∀ n, BR (sI r (k + 1) j v) n = BR r n := fun n => bst_c n (fun t _ => ⟨by unfold wR; rw [sI_at, if_neg (by omega)], by unfold fR; rw [sI_at, if_neg (by omega)]⟩)
  refine ⟨⟨?_, ?_, ?_, ?_, hS, hG, hN, hT, ?_, fun i hi => ?_, fun t ht => ?_⟩, ?_, fun i hi => ⟨fun q q1 q2 => ?_, ?_⟩, fun t ht => ?_⟩
  · rw [sI_at, if_neg (by omega)]; exact r1
  · rw [sI_at, if_neg (by omega)]; exact r2
  · rw [sI_at, if_neg (by omega)]; exact r3
  · rw [sI_at, if_neg (by omega)]; exact r4
  · rw [sI_at, if_neg (by omega)]; exact hW
  · by_cases c0 : i = j
    · subst c0
      refine NJ_J (J := fun q => if q = k then v else RJ r i q) (fun q q1 q2 => ?_) hJ
      rw [eJ i hi q q1 q2]
      by_cases d : q = k
      · rw [if_pos d, if_pos ⟨rfl, d⟩]
      · rw [if_neg d, if_neg (fun z => d z.2)]
    · refine NJ_J (J := RJ r i) (fun q q1 q2 => ?_) (hJ4 i hi)
      rw [eJ i hi q q1 q2, if_neg (fun z => c0 z.1)]
  · obtain ⟨⟨w1, w2⟩, w3⟩ := hH t ht
    have e1 : (sI r (k + 1) j v).1 10 t = r.1 10 t := by rw [sI_at, if_neg (by omega)]
    have e2 : (sI r (k + 1) j v).1 11 t = r.1 11 t := by rw [sI_at, if_neg (by omega)]
    refine ⟨⟨by rw [e1]; exact w1, by rw [e2]; exact w2⟩, ?_⟩
    have e3 : wR (sI r (k + 1) j v) t = wR r t := by unfold wR; rw [e1]
    rw [e3]
    refine ⟨w3.1, ?_⟩
    rw [eB]
    exact w3.2
  · rw [sI_at, if_neg (by omega), sI_at, if_neg (by omega), sI_at, if_neg (by omega), sI_at, if_neg (by omega), sI_at, if_neg (by omega), sI_at, if_neg (by omega)]
    exact h2
  · rw [eJ i hi q q1 q2, sI_at]
    by_cases c0 : i = j ∧ q = k
    · rw [if_pos c0, if_pos (by omega)]
    · rw [if_neg c0, if_neg (by omega)]
      exact (h3 i hi).1 q q1 q2
  · obtain ⟨κ, x, y, z⟩ := (h3 i hi).2
    exact ⟨κ, x, y, by rw [sI_at, if_neg (by omega)]; exact z⟩
  · rw [sI_at, if_neg (by omega), sI_at, if_neg (by omega), sI_at, if_neg (by omega), sI_at, if_neg (by omega)]
    exact h4 t ht
theorem PCx.fld (c : AH) {o k : Nat} (v : Int32) (ho : 42 ≤ o ∧ o < 52) : PCx c (sI c o k v) := ⟨fun q _ => by rw [sI_at, if_neg (by omega)], fun p q h => by rw [sI_at, if_neg (by omega)], fun _ _ _ => rfl, fun _ _ _ => rfl⟩
theorem PRx.fld (r : AH) {o k : Nat} (v : Int32) (ho : (2 ≤ o ∧ o ≤ 12) ∨ (o = 0 ∧ 12 ≤ k ∧ k ≤ 16)) : PRx r (sI r o k v) := ⟨fun q _ => by rw [sI_at, if_neg (by omega)], fun q => by rw [sI_at, if_neg (by omega)], fun q => ⟨by rw [sI_at, if_neg (by omega)], by rw [sI_at, if_neg (by omega)]⟩, fun q _ => by rw [sI_at, if_neg (by omega)]⟩
theorem nj_mark {J : Nat → Int32} {v : Int32} (h : NJ J) (h1 : ¬ v < 0) (h2 : ¬ 2400 < v) : NJ (fun q => if q = 8 then v else J q) := by
  obtain ⟨κ, f, a, g, s, p, l, m, hκ, hf, ha, hg, hs, hpp, hl, hm, e1, e2, e3, e4, e5, e6, e7, e8⟩ := h
  obtain ⟨x, hx, rfl⟩ := nI_of2 (M := 2400) (n := 2400) rfl h1 (Int32.not_lt.mp h2)
  exact ⟨κ, f, a, g, s, p, l, x, hκ, hf, ha, hg, hs, hpp, hl, hx, e1, e2, e3, e4, e5, e6, e7, rfl⟩
theorem nj_look {J : Nat → Int32} {v : Int32} (h : NJ J) (h1 : ¬ v < 0) (h2 : ¬ 4 < v) : NJ (fun q => if q = 7 then v else J q) := by
  obtain ⟨κ, f, a, g, s, p, l, m, hκ, hf, ha, hg, hs, hpp, hl, hm, e1, e2, e3, e4, e5, e6, e7, e8⟩ := h
  obtain ⟨x, hx, rfl⟩ := nI_of2 (M := 4) (n := 4) rfl h1 (Int32.not_lt.mp h2)
  exact ⟨κ, f, a, g, s, p, x, m, hκ, hf, ha, hg, hs, hpp, hx, hm, e1, e2, e3, e4, e5, e6, rfl, e8⟩
