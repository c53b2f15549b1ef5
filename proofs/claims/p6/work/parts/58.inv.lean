/-! WHAT HOLDS BETWEEN CALLS -/
/-- the reference as it would be, put back from w -/
def rst (w : Nat) (r : AH) : AH := (fun o k => if 2 ≤ o ∧ o ≤ 9 ∧ k < 4 then r.1 17 (120 * w + (4 * (o - 2) + k)) else if 10 ≤ o ∧ o ≤ 12 ∧ k < 24 then r.1 17 (120 * w + (32 + 24 * (o - 10) + k)) else if o = 0 ∧ 12 ≤ k ∧ k ≤ 16 then r.1 17 (120 * w + (104 + (k - 12))) else r.1 o k, r.2)
def LT (c r : AH) : Prop := ∃ L, L ≤ 96 ∧ c.1 0 6 = nI L ∧ r.1 0 21 = nI L ∧ ∀ k, k < L → c.1 2 k = r.1 13 k
def RW (c r : AH) : Prop := ∃ n, n ≤ 12 ∧ c.1 0 8 = nI n ∧ r.1 0 34 = nI n ∧ ∀ k, k < n → ∃ v, v ≤ 99 ∧ c.1 3 k = nI v ∧ r.1 23 k = nI v
def RF (c r : AH) : Prop := ∀ k, k < 7 → c.1 4 k = r.1 1 k
def IM (c r : AH) : Prop := (c.1 0 4 = 0 ∧ r.1 0 25 = 0) ∨ (c.1 0 4 = 1 ∧ r.1 0 25 = 1 ∧ ∃ S G N T, MR 62 c (rst 0 r) S G N T)
def Inv (c r : AH) : Prop := (∃ S G N T, MR 42 c r S G N T) ∧ WT c ∧ LT c r ∧ RW c r ∧ RF c r ∧ IM c r
/-- what the class keeps from call to call -/
def PC (c c' : AH) : Prop := (∀ k, k ≠ 17 → c'.1 0 k = c.1 0 k) ∧ (∀ o k, (2 ≤ o ∧ o ≤ 4) ∨ (42 ≤ o ∧ o < 52) ∨ (62 ≤ o ∧ o < 72) → c'.1 o k = c.1 o k) ∧ (∀ o, (42 ≤ o ∧ o < 52) ∨ (62 ≤ o ∧ o < 72) → c'.2.2 o = c.2.2 o) ∧ ∀ o, 10 ≤ o → o ≤ 30 → c'.2.1 o = c.2.1 o
theorem PC.rf {c : AH} : PC c c := ⟨fun _ _ => rfl, fun _ _ _ => rfl, fun _ _ => rfl, fun _ _ _ => rfl⟩
theorem PC.tr {c c' c2 : AH} (a : PC c c') (b : PC c' c2) : PC c c2 := ⟨fun k h => (b.1 k h).trans (a.1 k h), fun o k h => (b.2.1 o k h).trans (a.2.1 o k h), fun o h => (b.2.2.1 o h).trans (a.2.2.1 o h), fun o h1 h2 => (b.2.2.2 o h1 h2).trans (a.2.2.2 o h1 h2)⟩
theorem PC.FR {c c' : AH} (f : FR c c') : PC c c' := ⟨fun k _ => f.1 0 k (by omega) (by omega) (by omega), fun o k h => f.1 o k (by omega) (by omega) (by omega), fun o _ => by rw [f.2], fun o _ _ => by rw [f.2]⟩
/-- int part and ways the same, the table of ways the same -/
theorem PC.L {c c' : AH} (h1 : c'.1 = c.1) (h2 : c'.2.2 = c.2.2) (h3 : ∀ o, 10 ≤ o → o ≤ 30 → c'.2.1 o = c.2.1 o) : PC c c' := ⟨fun k _ => by rw [h1], fun o k _ => by rw [h1], fun o _ => by rw [h2], h3⟩
/-- what the reference keeps from call to call -/
def PR (T : Nat) (r r' : AH) : Prop := (∀ k, (12 ≤ k ∧ k ≤ 16) ∨ k = 21 ∨ k = 25 ∨ k = 34 → r'.1 0 k = r.1 0 k) ∧ (∀ o k, 1 ≤ o → o ≤ 9 → r'.1 o k = r.1 o k) ∧ (∀ t, t < T → r'.1 10 t = r.1 10 t ∧ r'.1 11 t = r.1 11 t) ∧ (∀ k, r'.1 13 k = r.1 13 k ∧ r'.1 23 k = r.1 23 k) ∧ ∀ k, k < 120 → r'.1 17 k = r.1 17 k
theorem PR.rf {T : Nat} {r : AH} : PR T r r := ⟨fun _ _ => rfl, fun _ _ _ _ => rfl, fun _ _ => ⟨rfl, rfl⟩, fun _ => ⟨rfl, rfl⟩, fun _ _ => rfl⟩
theorem PR.tr {T : Nat} {r r' r2 : AH} (a : PR T r r') (b : PR T r' r2) : PR T r r2 := ⟨fun k h => (b.1 k h).trans (a.1 k h), fun o k h1 h2 => (b.2.1 o k h1 h2).trans (a.2.1 o k h1 h2), fun t ht => ⟨(b.2.2.1 t ht).1.trans (a.2.2.1 t ht).1, (b.2.2.1 t ht).2.trans (a.2.2.1 t ht).2⟩, fun k => ⟨(b.2.2.2.1 k).1.trans (a.2.2.2.1 k).1, (b.2.2.2.1 k).2.trans (a.2.2.2.1 k).2⟩, fun k h => (b.2.2.2.2 k h).trans (a.2.2.2.2 k h)⟩
theorem PR.FT {T : Nat} {r r' : AH} (f : FT r r') : PR T r r' := ⟨fun k _ => f.1 0 k (by omega) (by omega) (by omega), fun o k _ _ => f.1 o k (by omega) (by omega) (by omega), fun t _ => ⟨f.1 10 t (by omega) (by omega) (by omega), f.1 11 t (by omega) (by omega) (by omega)⟩, fun k => ⟨f.1 13 k (by omega) (by omega) (by omega), f.1 23 k (by omega) (by omega) (by omega)⟩, fun k _ => f.1 17 k (by omega) (by omega) (by omega)⟩
theorem PR.L {T : Nat} {r r' : AH} (h1 : r'.1 = r.1) : PR T r r' := ⟨fun k _ => by rw [h1], fun o k _ _ => by rw [h1], fun t _ => by rw [h1]; exact ⟨rfl, rfl⟩, fun k => by rw [h1]; exact ⟨rfl, rfl⟩, fun k _ => by rw [h1]⟩
theorem RA.PR {T : Nat} {r r' : AH} (p : PR T r r') : RA T r r' := ⟨fun k h1 h2 => p.1 k (Or.inl ⟨h1, h2⟩), fun o k h1 h2 _ => p.2.1 o k (by omega) h2, p.2.2.1⟩
theorem RA.rst {T : Nat} {r r' : AH} (hT : T ≤ 24) (h : ∀ k, k < 120 → r'.1 17 k = r.1 17 k) : RA T (rst 0 r) (rst 0 r') := by
  refine ⟨fun k h1 h2 => ?_, fun o k h1 h2 h3 => ?_, fun t ht => ?_⟩
  · show (if 2 ≤ 0 ∧ 0 ≤ 9 ∧ k < 4 then r'.1 17 (120 * 0 + (4 * (0 - 2) + k)) else if 10 ≤ 0 ∧ 0 ≤ 12 ∧ k < 24 then r'.1 17 (120 * 0 + (32 + 24 * (0 - 10) + k)) else if 0 = 0 ∧ 12 ≤ k ∧ k ≤ 16 then r'.1 17 (120 * 0 + (104 + (k - 12))) else r'.1 0 k) = (if 2 ≤ 0 ∧ 0 ≤ 9 ∧ k < 4 then r.1 17 (120 * 0 + (4 * (0 - 2) + k)) else if 10 ≤ 0 ∧ 0 ≤ 12 ∧ k < 24 then r.1 17 (120 * 0 + (32 + 24 * (0 - 10) + k)) else if 0 = 0 ∧ 12 ≤ k ∧ k ≤ 16 then r.1 17 (120 * 0 + (104 + (k - 12))) else r.1 0 k)
    rw [if_neg (by omega), if_neg (by omega), if_pos (by omega), if_neg (by omega), if_neg (by omega), if_pos (by omega)]
    exact h _ (by omega)
  · show (if 2 ≤ o ∧ o ≤ 9 ∧ k < 4 then r'.1 17 (120 * 0 + (4 * (o - 2) + k)) else if 10 ≤ o ∧ o ≤ 12 ∧ k < 24 then r'.1 17 (120 * 0 + (32 + 24 * (o - 10) + k)) else if o = 0 ∧ 12 ≤ k ∧ k ≤ 16 then r'.1 17 (120 * 0 + (104 + (k - 12))) else r'.1 o k) = (if 2 ≤ o ∧ o ≤ 9 ∧ k < 4 then r.1 17 (120 * 0 + (4 * (o - 2) + k)) else if 10 ≤ o ∧ o ≤ 12 ∧ k < 24 then r.1 17 (120 * 0 + (32 + 24 * (o - 10) + k)) else if o = 0 ∧ 12 ≤ k ∧ k ≤ 16 then r.1 17 (120 * 0 + (104 + (k - 12))) else r.1 o k)
    rw [if_pos (by omega), if_pos (by omega)]
    exact h _ (by omega)
  · have key : ∀ o, o = 10 ∨ o = 11 → (if 2 ≤ o ∧ o ≤ 9 ∧ t < 4 then r'.1 17 (120 * 0 + (4 * (o - 2) + t)) else if 10 ≤ o ∧ o ≤ 12 ∧ t < 24 then r'.1 17 (120 * 0 + (32 + 24 * (o - 10) + t)) else if o = 0 ∧ 12 ≤ t ∧ t ≤ 16 then r'.1 17 (120 * 0 + (104 + (t - 12))) else r'.1 o t) = (if 2 ≤ o ∧ o ≤ 9 ∧ t < 4 then r.1 17 (120 * 0 + (4 * (o - 2) + t)) else if 10 ≤ o ∧ o ≤ 12 ∧ t < 24 then r.1 17 (120 * 0 + (32 + 24 * (o - 10) + t)) else if o = 0 ∧ 12 ≤ t ∧ t ≤ 16 then r.1 17 (120 * 0 + (104 + (t - 12))) else r.1 o t) := by
      intro o ho
      rw [if_neg (by omega), if_pos (by omega), if_neg (by omega), if_pos (by omega)]
      exact h _ (by omega)
    exact ⟨key 10 (Or.inl rfl), key 11 (Or.inr rfl)⟩
/-- nothing kept is new -/
theorem Inv_f {c r c' r' : AH} (h : Inv c r) (p : PC c c') (q : ∀ T, r.1 0 16 = nI T → T ≤ 24 → PR T r r') : Inv c' r' := by
  obtain ⟨⟨S, G, N, T, M⟩, h2, ⟨L, l1, l2, l3, l4⟩, ⟨n, n1, n2, n3, n4⟩, h5, h6⟩ := h
  have hN := M.1.2.2.2.2.2.2.1
  have hT := M.1.2.2.2.2.2.2.2.1
  have q := q T M.1.2.2.2.1 (by omega)
  refine ⟨⟨S, G, N, T, MR_r (RA.PR q) (MR_cc M (fun k hk => p.2.1 42 k (by omega)) (fun i k hi _ _ => p.2.1 _ k (by omega)) (fun i hi => p.2.2.1 _ (by omega)) (fun t _ => ⟨p.2.1 _ t (by omega), p.2.1 _ t (by omega)⟩))⟩, fun m j hm => ?_, ⟨L, l1, ?_, ?_, fun k hk => ?_⟩, ⟨n, n1, ?_, ?_, fun k hk => ?_⟩, fun k hk => ?_, ?_⟩
  · rw [p.2.2.2 _ (by omega) (by omega)]
    exact h2 m j hm
  · rw [p.1 6 (by decide)]; exact l2
  · rw [q.1 21 (by omega)]; exact l3
  · rw [p.2.1 2 k (by omega), (q.2.2.2.1 k).1]; exact l4 k hk
  · rw [p.1 8 (by decide)]; exact n2
  · rw [q.1 34 (by omega)]; exact n3
  · rw [p.2.1 3 k (by omega), (q.2.2.2.1 k).2]; exact n4 k hk
  · rw [p.2.1 4 k (by omega), q.2.1 1 k (by omega) (by omega)]; exact h5 k hk
  · rcases h6 with ⟨a, b⟩ | ⟨a, b, S', G', N', T', M'⟩
    · exact Or.inl ⟨by rw [p.1 4 (by decide)]; exact a, by rw [q.1 25 (by omega)]; exact b⟩
    · exact Or.inr ⟨by rw [p.1 4 (by decide)]; exact a, by rw [q.1 25 (by omega)]; exact b, S', G', N', T', MR_r (RA.rst (by have := M'.1.2.2.2.2.2.2.2.1; have := M'.1.2.2.2.2.2.2.1; omega) q.2.2.2.2) (MR_cc M' (fun k hk => p.2.1 62 k (by omega)) (fun i k hi _ _ => p.2.1 _ k (by omega)) (fun i hi => p.2.2.1 _ (by omega)) (fun t _ => ⟨p.2.1 _ t (by omega), p.2.1 _ t (by omega)⟩))⟩

/-- a refusal counted on both sides -/
theorem inv_ref {c r : AH} (h : Inv c r) {w : Nat} (hw : w < 7) : Inv (sI c 4 w (c.1 4 w + 1)) (sI r 1 w (r.1 1 w + 1)) := by
  obtain ⟨⟨S, G, N, T, M⟩, h2, ⟨L, l1, l2, l3, l4⟩, ⟨n, n1, n2, n3, n4⟩, h5, h6⟩ := h
  refine ⟨⟨S, G, N, T, MR_r (r := r) ⟨fun k _ _ => by rw [sI_at, if_neg (by omega)], fun o k _ _ _ => by rw [sI_at, if_neg (by omega)], fun t _ => ⟨by rw [sI_at, if_neg (by omega)], by rw [sI_at, if_neg (by omega)]⟩⟩ (MR_cc M (fun k hk => by rw [sI_at, if_neg (by omega)]) (fun i k hi _ _ => by rw [sI_at, if_neg (by omega)]) (fun i hi => rfl) (fun t _ => ⟨by rw [sI_at, if_neg (by omega)], by rw [sI_at, if_neg (by omega)]⟩))⟩, h2, ⟨L, l1, ?_, ?_, fun k hk => ?_⟩, ⟨n, n1, ?_, ?_, fun k hk => ?_⟩, fun k hk => ?_, ?_⟩
  · rw [sI_at, if_neg (by omega)]; exact l2
  · rw [sI_at, if_neg (by omega)]; exact l3
  · rw [sI_at, if_neg (by omega), sI_at, if_neg (by omega)]; exact l4 k hk
  · rw [sI_at, if_neg (by omega)]; exact n2
  · rw [sI_at, if_neg (by omega)]; exact n3
  · rw [sI_at, if_neg (by omega), sI_at, if_neg (by omega)]; exact n4 k hk
  · rw [sI_at, sI_at, h5 w hw]
    by_cases e : k = w
    · rw [if_pos ⟨rfl, e⟩, if_pos ⟨rfl, e⟩]
    · rw [if_neg (fun z => e z.2), if_neg (fun z => e z.2)]
      exact h5 k hk
  · rcases h6 with ⟨a, b⟩ | ⟨a, b, S', G', N', T', M'⟩
    · exact Or.inl ⟨by rw [sI_at, if_neg (by omega)]; exact a, by rw [sI_at, if_neg (by omega)]; exact b⟩
    · exact Or.inr ⟨by rw [sI_at, if_neg (by omega)]; exact a, by rw [sI_at, if_neg (by omega)]; exact b, S', G', N', T', MR_r (RA.rst (by have := M'.1.2.2.2.2.2.2.2.1; have := M'.1.2.2.2.2.2.2.1; omega) (fun k _ => by rw [sI_at, if_neg (by omega)])) (MR_cc M' (fun k hk => by rw [sI_at, if_neg (by omega)]) (fun i k hi _ _ => by rw [sI_at, if_neg (by omega)]) (fun i hi => rfl) (fun t _ => ⟨by rw [sI_at, if_neg (by omega)], by rw [sI_at, if_neg (by omega)]⟩))⟩
/-- a jumper's number, or nobody -/
theorem jm (a : Int32) {N : Nat} (hN : N ≤ 4) : (a < 0 ∨ nI N ≤ a) ∨ ∃ j, j < N ∧ a = nI j := by
  rcases pk_ix a (n := N) (by omega) with h | h | h
  · exact Or.inl (Or.inl h)
  · exact Or.inl (Or.inr h)
  · exact Or.inr h
theorem nb_n {h : AH} {N : Nat} {a : Int32} (e : h.1 42 3 = nI N) (hz : a < 0 ∨ nI N ≤ a) : X10_nobody a h = some (-1, h) := by
  rw [s_nobody, e, if_pos hz]
theorem nb_y {h : AH} {N j : Nat} (e : h.1 42 3 = nI N) (hN : N ≤ 4) (hj : j < N) : X10_nobody (nI j) h = some (0, h) := by
  rw [s_nobody, e, if_neg]
  exact fun z => z.elim (nI_pos (by omega)) (nI_ge hj (by omega))
theorem ij_n {h : AH} {N : Nat} {a : Int32} (e : h.1 0 15 = nI N) (hz : a < 0 ∨ nI N ≤ a) : X11_isJumper a h = some (0, h) := by
  rw [s_isJumper, e, if_pos hz]
theorem ij_y {h : AH} {N j : Nat} (e : h.1 0 15 = nI N) (hN : N ≤ 4) (hj : j < N) : X11_isJumper (nI j) h = some (1, h) := by
  rw [s_isJumper, e, if_neg]
  exact fun z => z.elim (nI_pos (by omega)) (nI_ge hj (by omega))
theorem bd_id {α : Type} (F : Option (α × AH)) : (bd F fun a h => some (a, h)) = F := by
  cases F with
  | none => rfl
  | some p => rfl
