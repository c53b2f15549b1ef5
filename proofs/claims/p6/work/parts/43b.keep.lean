/-! all that the reference keeps, and puts back: which object, which place at which distance -/
def kob (d : Nat) : Nat := if d < 32 then 2 + d / 4 else if d < 104 then 10 + (d - 32) / 24 else 0
def kix (d : Nat) : Nat := if d < 32 then d % 4 else if d < 104 then (d - 32) % 24 else 12 + (d - 104)
theorem ko_a {d i : Nat} (j : Nat) (hj : j < 8) (hi : i < 4) (e : d = 4 * j + i) : kob d = 2 + j ∧ kix d = i := by
  unfold kob kix
  rw [if_pos (by omega), if_pos (by omega)]
  omega
theorem ko_b {d i : Nat} (j : Nat) (hj : j < 3) (hi : i < 24) (e : d = 32 + 24 * j + i) : kob d = 10 + j ∧ kix d = i := by
  unfold kob kix
  rw [if_neg (by omega), if_pos (by omega), if_neg (by omega), if_pos (by omega)]
  omega
theorem ko_c {d : Nat} (j : Nat) (e : d = 104 + j) : kob d = 0 ∧ kix d = 12 + j := by
  unfold kob kix
  rw [if_neg (by omega), if_neg (by omega), if_neg (by omega), if_neg (by omega)]
  omega
theorem ko_cases (d : Nat) (hd : d < 109) : (∃ j i, j < 8 ∧ i < 4 ∧ d = 4 * j + i) ∨ (∃ j i, j < 3 ∧ i < 24 ∧ d = 32 + 24 * j + i) ∨ ∃ j, j < 5 ∧ d = 104 + j := by
  by_cases h1 : d < 32
  · exact Or.inl ⟨d / 4, d % 4, by omega, by omega, by omega⟩
  · by_cases h2 : d < 104
    · exact Or.inr (Or.inl ⟨(d - 32) / 24, (d - 32) % 24, by omega, by omega, by omega⟩)
    · exact Or.inr (Or.inr ⟨d - 104, by omega, by omega⟩)
/-- kept as far as d -/
def KI (g : AH) (w d : Nat) (h : AH) : Prop := h.1 0 27 = nI (120 * w + d) ∧ ¬ h.1 0 26 = 0 ∧ h.2 = g.2 ∧ (∀ o k, o ≠ 17 → ¬ (o = 0 ∧ (k = 26 ∨ k = 27)) → h.1 o k = g.1 o k) ∧ (∀ k, (k < 120 * w ∨ 120 * w + d ≤ k) → h.1 17 k = g.1 17 k) ∧ ∀ a, a < d → h.1 17 (120 * w + a) = g.1 (kob a) (kix a)
theorem KI.row {g h : AH} {w d p n : Nat} (A : KI g w d h) (hw : w < 2) (hd : d + n ≤ 109) (hp : p ≠ 17) (hp0 : p ≠ 0) (hk : ∀ i, i < n → kob (d + i) = p ∧ kix (d + i) = i) : ∃ h', X11_passes p n h = some ((), h') ∧ KI g w (d + n) h' := by
  obtain ⟨a1, a2, a3, a4, a5, a6⟩ := A
  refine ⟨_, s_keep hp hp0 (by omega) a2 a1, ?_, ?_, a3, fun o k ho hk2 => ?_, fun k hk2 => ?_, fun a ha => ?_⟩
  · rw [kpI_at, if_neg (by omega), if_pos ⟨rfl, rfl⟩, Nat.add_assoc]
  · rw [kpI_at, if_neg (by omega), if_neg (by omega)]
    exact a2
  · rw [kpI_at, if_neg (fun z => ho z.1), if_neg (fun z => hk2 ⟨z.1, Or.inr z.2⟩)]
    exact a4 o k ho hk2
  · rw [kpI_at, if_neg (by omega), if_neg (by omega)]
    exact a5 k (by omega)
  · rw [kpI_at]
    by_cases c : a < d
    · rw [if_neg (by omega), if_neg (by omega)]
      exact a6 a c
    · rw [if_pos (by omega), show 120 * w + a - (120 * w + d) = a - d from by omega, a4 p _ hp (fun z => hp0 z.1)]
      have h2 := hk (a - d) (by omega)
      rw [show d + (a - d) = a from by omega] at h2
      rw [h2.1, h2.2]
theorem KI.one {g h : AH} {w d j : Nat} (A : KI g w d h) (hw : w < 2) (hj : j < 5) (hd : d = 104 + j) : ∃ h', X11_passOne (h.1 0 (12 + j)) h = some (h.1 0 (12 + j), h') ∧ KI g w (d + 1) (sI h' 0 (12 + j) (h.1 0 (12 + j))) := by
  obtain ⟨a1, a2, a3, a4, a5, a6⟩ := A
  have e4 := a4 0 (12 + j) (by decide) (by omega)
  refine ⟨_, s_keep1 _ (by omega) a2 a1, ?_, ?_, a3, fun o k ho hk2 => ?_, fun k hk2 => ?_, fun a ha => ?_⟩
  · rw [sI_at, if_neg (by omega), sI_at, if_pos ⟨rfl, rfl⟩, Nat.add_assoc]
  · rw [sI_at, if_neg (by omega), sI_at, if_neg (by omega), sI_at, if_neg (by omega)]
    exact a2
  · rw [sI_at]
    by_cases c : o = 0 ∧ k = 12 + j
    · rw [if_pos c, c.1, c.2]
      exact e4
    · rw [if_neg c, sI_at, if_neg (fun z => hk2 ⟨z.1, Or.inr z.2⟩), sI_at, if_neg (fun z => ho z.1)]
      exact a4 o k ho hk2
  · rw [sI_at, if_neg (by omega), sI_at, if_neg (by omega), sI_at, if_neg (by omega)]
    exact a5 k (by omega)
  · rw [sI_at, if_neg (by omega), sI_at, if_neg (by omega), sI_at]
    by_cases c : a < d
    · rw [if_neg (by omega)]
      exact a6 a c
    · have e : a = 104 + j := by omega
      rw [if_pos (by omega), (ko_c j e).1, (ko_c j e).2, e4]
theorem kb_n0 {a : Nat} (h : a < 104) : kob a ≠ 0 := by
  unfold kob
  by_cases c : a < 32
  · rw [if_pos c]; omega
  · rw [if_neg c, if_pos h]; omega
theorem kb_ne {a p : Nat} (h : a < 104) (hp : (p < 10 ∧ a < 4 * (p - 2)) ∨ (10 ≤ p ∧ p ≤ 12 ∧ a < 32 + 24 * (p - 10))) : kob a ≠ p := by
  unfold kob
  by_cases c : a < 32
  · rw [if_pos c]; omega
  · rw [if_neg c, if_pos h]; omega
/-- put back as far as d -/
def BI (g : AH) (w d : Nat) (h : AH) : Prop := h.1 0 27 = nI (120 * w + d) ∧ h.1 0 26 = 0 ∧ h.2 = g.2 ∧ (∀ o k, (o < 2 ∨ 12 < o) → ¬ (o = 0 ∧ (12 ≤ k ∧ k ≤ 16 ∨ k = 26 ∨ k = 27)) → h.1 o k = g.1 o k) ∧ (∀ o k, 2 ≤ o → o ≤ 12 → (o < 10 → 4 ≤ k) → (10 ≤ o → 24 ≤ k) → h.1 o k = g.1 o k) ∧ ∀ a, a < d → h.1 (kob a) (kix a) = g.1 17 (120 * w + a)
theorem BI.row {g h : AH} {w d p n : Nat} (A : BI g w d h) (hw : w < 2) (hd : d + n ≤ 109) (hp : 2 ≤ p) (hp0 : p ≤ 12) (hn : (p < 10 → n ≤ 4) ∧ (10 ≤ p → n ≤ 24)) (hk : ∀ i, i < n → kob (d + i) = p ∧ kix (d + i) = i) (hk0 : ∀ a, a < d → kob a ≠ p) (hk1 : ∀ a, a < d → kob a ≠ 0) : ∃ h', X11_passes p n h = some ((), h') ∧ BI g w (d + n) h' := by
  obtain ⟨a1, a2, a3, a4, a5, a6⟩ := A
  refine ⟨_, s_back (by omega) (by omega) (by omega) a2 a1, ?_, ?_, a3, fun o k ho hk2 => ?_, fun o k h1 h2 h3 h4 => ?_, fun a ha => ?_⟩
  · rw [bkI_at, if_neg (by omega), if_pos ⟨rfl, rfl⟩, Nat.add_assoc]
  · rw [bkI_at, if_neg (by omega), if_neg (by omega)]
    exact a2
  · rw [bkI_at, if_neg (by omega), if_neg (by omega)]
    exact a4 o k ho hk2
  · rw [bkI_at, if_neg (by omega), if_neg (by omega)]
    exact a5 o k h1 h2 h3 h4
  · rw [bkI_at]
    by_cases c : a < d
    · have z1 := hk0 a c
      have z2 := hk1 a c
      rw [if_neg (fun z => z1 z.1), if_neg (fun z => z2 z.1)]
      exact a6 a c
    · have h2 := hk (a - d) (by omega)
      rw [show d + (a - d) = a from by omega] at h2
      rw [h2.1, h2.2, if_pos ⟨rfl, by omega⟩, show 120 * w + d + (a - d) = 120 * w + a from by omega]
      exact a4 17 _ (by omega) (by omega)
theorem BI.one {g h : AH} {w d j : Nat} (A : BI g w d h) (hw : w < 2) (hj : j < 5) (hd : d = 104 + j) : ∃ h' x, X11_passOne (h.1 0 (12 + j)) h = some (x, h') ∧ BI g w (d + 1) (sI h' 0 (12 + j) x) := by
  obtain ⟨a1, a2, a3, a4, a5, a6⟩ := A
  refine ⟨_, _, s_back1 _ (by omega) a2 a1, ?_, ?_, a3, fun o k ho hk2 => ?_, fun o k h1 h2 h3 h4 => ?_, fun a ha => ?_⟩
  · rw [sI_at, if_neg (by omega), sI_at, if_pos ⟨rfl, rfl⟩, Nat.add_assoc]
  · rw [sI_at, if_neg (by omega), sI_at, if_neg (by omega)]
    exact a2
  · rw [sI_at, if_neg (by omega), sI_at, if_neg (by omega)]
    exact a4 o k ho hk2
  · rw [sI_at, if_neg (by omega), sI_at, if_neg (by omega)]
    exact a5 o k h1 h2 h3 h4
  · by_cases c : a < d
    · have hz : ¬ (kob a = 0 ∧ kix a = 12 + j) ∧ ¬ (kob a = 0 ∧ kix a = 27) := by
        rcases ko_cases a (by omega) with ⟨j2, i2, h1, h2, h3⟩ | ⟨j2, i2, h1, h2, h3⟩ | ⟨j2, h1, h3⟩
        · have z := ko_a j2 h1 h2 h3
          rw [z.1]
          omega
        · have z := ko_b j2 h1 h2 h3
          rw [z.1]
          omega
        · have z := ko_c j2 h3
          rw [z.2]
          omega
      rw [sI_at, if_neg hz.1, sI_at, if_neg hz.2]
      exact a6 a c
    · have e : a = 104 + j := by omega
      rw [(ko_c j e).1, (ko_c j e).2, sI_at, if_pos ⟨rfl, rfl⟩, show 120 * w + a = 120 * w + d from by omega]
      exact a4 17 _ (by omega) (by omega)
set_option maxHeartbeats 4000000 in
theorem s_keepAll {h : AH} {w : Nat} (hw : w < 2) : ∃ h', X11_passesAll (nI w) 1 h = some ((), h') ∧ (∀ o k, o ≠ 17 → ¬ (o = 0 ∧ (k = 26 ∨ k = 27)) → h'.1 o k = h.1 o k) ∧ h'.2 = h.2 ∧ (∀ k, (k < 120 * w ∨ 120 * w + 109 ≤ k) → h'.1 17 k = h.1 17 k) ∧ ∀ a, a < 109 → h'.1 17 (120 * w + a) = h.1 (kob a) (kix a) := by
  have A0 : KI h w 0 (sI (sI h 0 27 (120 * nI w)) 0 26 1) := by
    refine ⟨?_, ?_, rfl, fun o k ho hk => ?_, ?_, fun a ha => absurd ha (Nat.not_lt_zero a)⟩
    · rw [sI_at, if_neg (by omega), sI_at, if_pos ⟨rfl, rfl⟩]
      exact pk_mul 120 w
    · rw [sI_at, if_pos ⟨rfl, rfl⟩]
      decide
    · rw [sI_at, if_neg (by omega), sI_at, if_neg (by omega)]
    · intro k hk
      rw [sI_at, if_neg (by omega), sI_at, if_neg (by omega)]
  obtain ⟨g1, e1, A1⟩ := A0.row (p := 2) (n := 4) hw (by omega) (by decide) (by decide) (fun i hi => ko_a 0 (by decide) hi (by omega))
  obtain ⟨g2, e2, A2⟩ := A1.row (p := 3) (n := 4) hw (by omega) (by decide) (by decide) (fun i hi => ko_a 1 (by decide) hi (by omega))
  obtain ⟨g3, e3, A3⟩ := A2.row (p := 4) (n := 4) hw (by omega) (by decide) (by decide) (fun i hi => ko_a 2 (by decide) hi (by omega))
  obtain ⟨g4, e4, A4⟩ := A3.row (p := 5) (n := 4) hw (by omega) (by decide) (by decide) (fun i hi => ko_a 3 (by decide) hi (by omega))
  obtain ⟨g5, e5, A5⟩ := A4.row (p := 6) (n := 4) hw (by omega) (by decide) (by decide) (fun i hi => ko_a 4 (by decide) hi (by omega))
  obtain ⟨g6, e6, A6⟩ := A5.row (p := 7) (n := 4) hw (by omega) (by decide) (by decide) (fun i hi => ko_a 5 (by decide) hi (by omega))
  obtain ⟨g7, e7, A7⟩ := A6.row (p := 8) (n := 4) hw (by omega) (by decide) (by decide) (fun i hi => ko_a 6 (by decide) hi (by omega))
  obtain ⟨g8, e8, A8⟩ := A7.row (p := 9) (n := 4) hw (by omega) (by decide) (by decide) (fun i hi => ko_a 7 (by decide) hi (by omega))
  obtain ⟨g9, e9, A9⟩ := A8.row (p := 10) (n := 24) hw (by omega) (by decide) (by decide) (fun i hi => ko_b 0 (by decide) hi (by omega))
  obtain ⟨g10, e10, A10⟩ := A9.row (p := 11) (n := 24) hw (by omega) (by decide) (by decide) (fun i hi => ko_b 1 (by decide) hi (by omega))
  obtain ⟨g11, e11, A11⟩ := A10.row (p := 12) (n := 24) hw (by omega) (by decide) (by decide) (fun i hi => ko_b 2 (by decide) hi (by omega))
  obtain ⟨k0, a0, B0⟩ := A11.one (j := 0) hw (by decide) (by omega)
  obtain ⟨k1, a1, B1⟩ := B0.one (j := 1) hw (by decide) (by omega)
  obtain ⟨k2, a2, B2⟩ := B1.one (j := 2) hw (by decide) (by omega)
  obtain ⟨k3, a3, B3⟩ := B2.one (j := 3) hw (by decide) (by omega)
  obtain ⟨k4, a4, B4⟩ := B3.one (j := 4) hw (by decide) (by omega)
  refine ⟨_, ?_, B4.2.2.2.1, B4.2.2.1, fun k hk => B4.2.2.2.2.1 k (by omega), fun a ha => B4.2.2.2.2.2 a (by omega)⟩
  unfold X11_passesAll
  simp only [vl_e, cz_1]
  rw [e1, bd_s, e2, bd_s, e3, bd_s, e4, bd_s, e5, bd_s, e6, bd_s, e7, bd_s, e8, bd_s, e9, bd_s, e10, bd_s, e11, bd_s]
  rw [show 12 + 0 = 12 from rfl] at a0
  rw [show 12 + 1 = 13 from rfl] at a1
  rw [show 12 + 2 = 14 from rfl] at a2
  rw [show 12 + 3 = 15 from rfl] at a3
  rw [show 12 + 4 = 16 from rfl] at a4
  rw [a0, bd_s, a1, bd_s, a2, bd_s, a3, bd_s, a4, bd_s]
set_option maxHeartbeats 4000000 in
theorem s_backAll {h : AH} {w : Nat} (hw : w < 2) : ∃ h', X11_passesAll (nI w) 0 h = some ((), h') ∧ (∀ o k, (o < 2 ∨ 12 < o) → ¬ (o = 0 ∧ (12 ≤ k ∧ k ≤ 16 ∨ k = 26 ∨ k = 27)) → h'.1 o k = h.1 o k) ∧ h'.2 = h.2 ∧ (∀ o k, 2 ≤ o → o ≤ 12 → (o < 10 → 4 ≤ k) → (10 ≤ o → 24 ≤ k) → h'.1 o k = h.1 o k) ∧ ∀ a, a < 109 → h'.1 (kob a) (kix a) = h.1 17 (120 * w + a) := by
  have A0 : BI h w 0 (sI (sI h 0 27 (120 * nI w)) 0 26 0) := by
    refine ⟨?_, ?_, rfl, fun o k ho hk => ?_, ?_, fun a ha => absurd ha (Nat.not_lt_zero a)⟩
    · rw [sI_at, if_neg (by omega), sI_at, if_pos ⟨rfl, rfl⟩]
      exact pk_mul 120 w
    · rw [sI_at, if_pos ⟨rfl, rfl⟩]
    · rw [sI_at, if_neg (by omega), sI_at, if_neg (by omega)]
    · intro o k h1 h2 h3 h4
      rw [sI_at, if_neg (by omega), sI_at, if_neg (by omega)]
  obtain ⟨g1, e1, A1⟩ := A0.row (p := 2) (n := 4) hw (by omega) (by decide) (by decide) ⟨fun _ => by omega, fun _ => by omega⟩ (fun i hi => ko_a 0 (by decide) hi (by omega)) (fun a ha => kb_ne (by omega) (Or.inl ⟨by decide, by omega⟩)) (fun a ha => kb_n0 (by omega))
  obtain ⟨g2, e2, A2⟩ := A1.row (p := 3) (n := 4) hw (by omega) (by decide) (by decide) ⟨fun _ => by omega, fun _ => by omega⟩ (fun i hi => ko_a 1 (by decide) hi (by omega)) (fun a ha => kb_ne (by omega) (Or.inl ⟨by decide, by omega⟩)) (fun a ha => kb_n0 (by omega))
  obtain ⟨g3, e3, A3⟩ := A2.row (p := 4) (n := 4) hw (by omega) (by decide) (by decide) ⟨fun _ => by omega, fun _ => by omega⟩ (fun i hi => ko_a 2 (by decide) hi (by omega)) (fun a ha => kb_ne (by omega) (Or.inl ⟨by decide, by omega⟩)) (fun a ha => kb_n0 (by omega))
  obtain ⟨g4, e4, A4⟩ := A3.row (p := 5) (n := 4) hw (by omega) (by decide) (by decide) ⟨fun _ => by omega, fun _ => by omega⟩ (fun i hi => ko_a 3 (by decide) hi (by omega)) (fun a ha => kb_ne (by omega) (Or.inl ⟨by decide, by omega⟩)) (fun a ha => kb_n0 (by omega))
  obtain ⟨g5, e5, A5⟩ := A4.row (p := 6) (n := 4) hw (by omega) (by decide) (by decide) ⟨fun _ => by omega, fun _ => by omega⟩ (fun i hi => ko_a 4 (by decide) hi (by omega)) (fun a ha => kb_ne (by omega) (Or.inl ⟨by decide, by omega⟩)) (fun a ha => kb_n0 (by omega))
  obtain ⟨g6, e6, A6⟩ := A5.row (p := 7) (n := 4) hw (by omega) (by decide) (by decide) ⟨fun _ => by omega, fun _ => by omega⟩ (fun i hi => ko_a 5 (by decide) hi (by omega)) (fun a ha => kb_ne (by omega) (Or.inl ⟨by decide, by omega⟩)) (fun a ha => kb_n0 (by omega))
  obtain ⟨g7, e7, A7⟩ := A6.row (p := 8) (n := 4) hw (by omega) (by decide) (by decide) ⟨fun _ => by omega, fun _ => by omega⟩ (fun i hi => ko_a 6 (by decide) hi (by omega)) (fun a ha => kb_ne (by omega) (Or.inl ⟨by decide, by omega⟩)) (fun a ha => kb_n0 (by omega))
  obtain ⟨g8, e8, A8⟩ := A7.row (p := 9) (n := 4) hw (by omega) (by decide) (by decide) ⟨fun _ => by omega, fun _ => by omega⟩ (fun i hi => ko_a 7 (by decide) hi (by omega)) (fun a ha => kb_ne (by omega) (Or.inl ⟨by decide, by omega⟩)) (fun a ha => kb_n0 (by omega))
  obtain ⟨g9, e9, A9⟩ := A8.row (p := 10) (n := 24) hw (by omega) (by decide) (by decide) ⟨fun _ => by omega, fun _ => by omega⟩ (fun i hi => ko_b 0 (by decide) hi (by omega)) (fun a ha => kb_ne (by omega) (Or.inr ⟨by decide, by decide, by omega⟩)) (fun a ha => kb_n0 (by omega))
  obtain ⟨g10, e10, A10⟩ := A9.row (p := 11) (n := 24) hw (by omega) (by decide) (by decide) ⟨fun _ => by omega, fun _ => by omega⟩ (fun i hi => ko_b 1 (by decide) hi (by omega)) (fun a ha => kb_ne (by omega) (Or.inr ⟨by decide, by decide, by omega⟩)) (fun a ha => kb_n0 (by omega))
  obtain ⟨g11, e11, A11⟩ := A10.row (p := 12) (n := 24) hw (by omega) (by decide) (by decide) ⟨fun _ => by omega, fun _ => by omega⟩ (fun i hi => ko_b 2 (by decide) hi (by omega)) (fun a ha => kb_ne (by omega) (Or.inr ⟨by decide, by decide, by omega⟩)) (fun a ha => kb_n0 (by omega))
  obtain ⟨k0, x0, a0, B0⟩ := A11.one (j := 0) hw (by decide) (by omega)
  obtain ⟨k1, x1, a1, B1⟩ := B0.one (j := 1) hw (by decide) (by omega)
  obtain ⟨k2, x2, a2, B2⟩ := B1.one (j := 2) hw (by decide) (by omega)
  obtain ⟨k3, x3, a3, B3⟩ := B2.one (j := 3) hw (by decide) (by omega)
  obtain ⟨k4, x4, a4, B4⟩ := B3.one (j := 4) hw (by decide) (by omega)
  refine ⟨_, ?_, B4.2.2.2.1, B4.2.2.1, B4.2.2.2.2.1, fun a ha => B4.2.2.2.2.2 a (by omega)⟩
  unfold X11_passesAll
  simp only [vl_e, cz_0]
  rw [e1, bd_s, e2, bd_s, e3, bd_s, e4, bd_s, e5, bd_s, e6, bd_s, e7, bd_s, e8, bd_s, e9, bd_s, e10, bd_s, e11, bd_s]
  rw [show 12 + 0 = 12 from rfl] at a0
  rw [show 12 + 1 = 13 from rfl] at a1
  rw [show 12 + 2 = 14 from rfl] at a2
  rw [show 12 + 3 = 15 from rfl] at a3
  rw [show 12 + 4 = 16 from rfl] at a4
  rw [a0, bd_s, a1, bd_s, a2, bd_s, a3, bd_s, a4, bd_s]
