/-! CALLS THAT CHANGE ONE THING -/
theorem sI_n {h : AH} {o k : Nat} {v : Int32} {q j : Nat} (z : ¬ (q = o ∧ j = k)) : (sI h o k v).1 q j = h.1 q j := by rw [sI_at, if_neg z]
theorem sI_y {h : AH} {o k : Nat} {v : Int32} : (sI h o k v).1 o k = v := by rw [sI_at, if_pos ⟨rfl, rfl⟩]
/-- refusals on both sides -/
theorem rfs {c r : AH} {x : Int32} (I : Inv c r) (hx : x = -1 ∨ x = -2 ∨ x = -3 ∨ x = -4 ∨ x = -6) : SimE (bd (X10_refuse x c) fun a h => some (a, h)) (bd (X11_no x r) fun a h => some (a, h)) Inv := by
  obtain ⟨w, hw, e⟩ := s_ref hx
  rw [(e c).1, (e r).2.1, bd_s, bd_s]
  exact ⟨_, _, _, rfl, rfl, inv_ref I hw⟩
theorem rfsL {c r : AH} {x : Int32} (I : Inv c r) (hx : x = -1 ∨ x = -2 ∨ x = -3 ∨ x = -4 ∨ x = -6) : SimE (bd (X10_refuse x c) fun a h => some (1000000000 - a, h)) (bd (X11_lower x r) fun a h => some (a, h)) Inv := by
  obtain ⟨w, hw, e⟩ := s_ref hx
  rw [(e c).1, (e r).2.2.1, bd_s, bd_s]
  exact ⟨_, _, _, rfl, rfl, inv_ref I hw⟩
/-- what is kept anyway -/
def PCi (c c' : AH) : Prop := c'.1 0 4 = c.1 0 4 ∧ (∀ k, c'.1 4 k = c.1 4 k) ∧ (∀ o k, 62 ≤ o → o < 72 → c'.1 o k = c.1 o k) ∧ (∀ o, 62 ≤ o → o < 72 → c'.2.2 o = c.2.2 o) ∧ ∀ o, 10 ≤ o → o ≤ 30 → c'.2.1 o = c.2.1 o
def PRi (r r' : AH) : Prop := r'.1 0 25 = r.1 0 25 ∧ (∀ k, r'.1 1 k = r.1 1 k) ∧ ∀ k, k < 120 → r'.1 17 k = r.1 17 k
theorem inv_g {c r c' r' : AH} (I : Inv c r) (m : ∃ S G N T, MR 42 c' r' S G N T) (l : LT c' r') (w : RW c' r') (p : PCi c c') (q : PRi r r') : Inv c' r' := by
  obtain ⟨-, h2, -, -, h5, h6⟩ := I
  refine ⟨m, fun m j hm => ?_, l, w, fun k hk => ?_, ?_⟩
  · rw [p.2.2.2.2 _ (by omega) (by omega)]
    exact h2 m j hm
  · rw [p.2.1 k, q.2.1 k]; exact h5 k hk
  · rcases h6 with ⟨a, b⟩ | ⟨a, b, S', G', N', T', M'⟩
    · exact Or.inl ⟨by rw [p.1]; exact a, by rw [q.1]; exact b⟩
    · exact Or.inr ⟨by rw [p.1]; exact a, by rw [q.1]; exact b, S', G', N', T', MR_r (RA.rst (by have := M'.1.2.2.2.2.2.2.2.1; have := M'.1.2.2.2.2.2.2.1; omega) q.2.2) (MR_cc M' (fun k hk => p.2.2.1 62 k (by omega) (by omega)) (fun i k hi _ _ => p.2.2.1 _ k (by omega) (by omega)) (fun i hi => p.2.2.2.1 _ (by omega) (by omega)) (fun t _ => ⟨p.2.2.1 _ t (by omega) (by omega), p.2.2.1 _ t (by omega) (by omega)⟩))⟩
theorem MR_k {S G N T : Nat} {c c' r r' : AH} (M : MR 42 c r S G N T) (p : ∀ o k, 42 ≤ o → o < 52 → c'.1 o k = c.1 o k) (p2 : ∀ o, 42 ≤ o → o < 52 → c'.2.2 o = c.2.2 o) (q : RA T r r') : MR 42 c' r' S G N T :=
  MR_r q (MR_cc M (fun k _ => p 42 k (by omega) (by omega)) (fun i k _ _ _ => p _ k (by omega) (by omega)) (fun i _ => p2 _ (by omega) (by omega)) (fun t _ => ⟨p _ t (by omega) (by omega), p _ t (by omega) (by omega)⟩))
/-- the meet's own numbers are new -/
theorem MR_0 {o S G N T S' G' T' : Nat} {c c' r r' : AH} (M : MR o c r S G N T) (hT : T' ≤ T) (hG : G' = G ∨ T' = 0) (b1 : 4 ≤ S' ∧ S' ≤ 20) (b2 : 1 ≤ G' ∧ G' ≤ 4) (b3 : WW (r'.1 0 14))
    (c0 : c'.1 o 0 = nI S') (c1 : c'.1 o 1 = r'.1 0 14) (c2 : c'.1 o 2 = nI G') (c3 : c'.1 o 3 = c.1 o 3) (c4 : c'.1 o 4 = nI T') (c5 : ∀ p k, p ≠ o → c'.1 p k = c.1 p k) (c6 : c'.2 = c.2)
    (d0 : r'.1 0 12 = nI S') (d1 : r'.1 0 13 = nI G') (d2 : r'.1 0 15 = r.1 0 15) (d3 : r'.1 0 16 = nI T') (d4 : ∀ p k, p ≠ 0 → r'.1 p k = r.1 p k) : MR o c' r' S' G' N T' := by
  obtain ⟨⟨r1, r2, r3, r4, hS, hG1, hN, hT', hW, hJ, hH⟩, h2, h3, h4⟩ := M
  have eB : ∀ n, BR r' n = BR r n := fun n => bst_c n (fun t _ => ⟨by unfold wR; rw [d4 10 t (by decide)], by unfold fR; rw [d4 11 t (by decide)]⟩)
  refine ⟨⟨d0, d1, by rw [d2]; exact r3, d3, b1, b2, hN, ?_, b3, fun i hi => ?_, fun t ht => ?_⟩, ⟨c0, c1, c2, by rw [c3]; exact h2.2.2.2.1, c4⟩, fun i hi => ⟨fun k k1 k2 => ?_, ?_⟩, fun t ht => ?_⟩
  · rcases hG with rfl | rfl
    · omega
    · omega
  · exact NJ_J (fun k k1 k2 => (d4 (k + 1) i (by omega)).symm) (hJ i hi)
  · obtain ⟨⟨w1, w2⟩, w3⟩ := hH t (by omega)
    refine ⟨⟨by rw [d4 10 t (by decide)]; exact w1, by rw [d4 11 t (by decide)]; exact w2⟩, ?_⟩
    have e : wR r' t = wR r t := by unfold wR; rw [d4 10 t (by decide)]
    rw [e]
    have hG : G' = G := hG.resolve_right (by omega)
    rw [hG]
    refine ⟨w3.1, ?_⟩
    rw [eB]
    exact w3.2
  · rw [c5 _ k (by omega)]
    exact ((h3 i hi).1 k k1 k2).trans (d4 (k + 1) i (by omega)).symm
  · obtain ⟨κ, x, y, z⟩ := (h3 i hi).2
    exact ⟨κ, x, by rw [c6]; exact y, by rw [c5 _ 1 (by omega)]; exact z⟩
  · rw [c5 _ t (by omega), c5 _ t (by omega), d4 10 t (by decide), d4 11 t (by decide)]
    exact h4 t (by omega)
theorem o_wind {c r : AH} {a1 : Int32} (I : Inv c r) : SimE (X10_wind a1 c) (X11_wind a1 r) Inv := by
  obtain ⟨⟨S, G, N, T, M⟩, hW, hL, hRow, hRF, hIM⟩ := id I
  obtain ⟨R, ⟨cS, cW, cG, cN, cT⟩, cJ, cTr⟩ := id M
  obtain ⟨rS, rG, rN, rT, hS, hG, hN, hT, hWW, hJ, hH⟩ := id R
  unfold X10_wind X11_wind
  rw [s_outside, s_bound, bd_s, bd_s]
  by_cases h0 : a1 < -9
  · rw [if_pos h0, i_4, i_4]
    exact rfsL I (by decide)
  · rw [if_neg h0]
    by_cases h1 : 9 < a1
    · rw [if_pos h1, i_6, i_6]
      exact rfsL I (by decide)
    · rw [if_neg h1, i_0, i_0, vl_e, vl_e, vl_e, vl_e]
      refine SimE.mk' rfl rfl cW (inv_M (S := S) (G := G) (N := N) (T := T) I (MR_0 M (Nat.le_refl T) (Or.inl rfl) hS hG ?_ ?_ ?_ ?_ ?_ ?_ (fun p k hp => ?_) rfl ?_ ?_ ?_ ?_ (fun p k hp => ?_)) (PCx.fld c a1 (by omega)) (PRx.fld r a1 (Or.inr (by omega))))
      · rw [sI_y]
        rw [fa_lt] at h0 h1
        have : (-9 : Int32).toInt = -9 := rfl
        have : (9 : Int32).toInt = 9 := rfl
        exact ww_of (by omega) (by omega)
      · rw [sI_n (by omega)]; exact cS
      · rw [sI_y, sI_y]
      · rw [sI_n (by omega)]; exact cG
      · rw [sI_n (by omega)]
      · rw [sI_n (by omega)]; exact cT
      · rw [sI_n (by omega)]
      · rw [sI_n (by omega)]; exact rS
      · rw [sI_n (by omega)]; exact rG
      · rw [sI_n (by omega)]
      · rw [sI_n (by omega)]; exact rT
      · rw [sI_n (by omega)]
theorem o_undo {c r : AH} (I : Inv c r) : SimE (X10_undo c) (X11_undo r) Inv := by
  obtain ⟨⟨S, G, N, T, M⟩, hW, hL, hRow, hRF, hIM⟩ := id I
  obtain ⟨R, ⟨cS, cW, cG, cN, cT⟩, cJ, cTr⟩ := id M
  obtain ⟨rS, rG, rN, rT, hS, hG, hN, hT, hWW, hJ, hH⟩ := id R
  unfold X10_undo X11_undo
  rw [cT, rT]
  by_cases z : T = 0
  · subst z
    rw [if_neg (by decide), if_pos (by rfl)]
    exact rfs I (by decide)
  · have e1 : nI T - 1 = nI (T - 1) := pk_sub (a := T) (b := 1) (by omega)
    rw [if_pos (show (0 : Int32) < nI T from nI_lt (a := 0) (by omega) (by omega)), if_neg (nI_ne0 (by omega) (by omega)), vl_e, vl_e, sI_y, sI_y, e1, ck_nI _ (by omega) (by decide), ck_nI _ (by omega) (by decide), nI_clamp (by omega), sI_n (by omega), sI_n (by omega)]
    refine SimE.mk' rfl rfl (cTr (T - 1) (by omega)).1 (inv_M (S := S) (G := G) (N := N) (T := T - 1) I (MR_0 M (by omega) (Or.inl rfl) hS hG ?_ ?_ ?_ ?_ ?_ ?_ (fun p k hp => ?_) rfl ?_ ?_ ?_ ?_ (fun p k hp => ?_)) (PCx.fld c _ (by omega)) (PRx.fld r _ (Or.inr (by omega))))
    · rw [sI_n (by omega)]; exact hWW
    · rw [sI_n (by omega)]; exact cS
    · rw [sI_n (by omega), sI_n (by omega)]; exact cW
    · rw [sI_n (by omega)]; exact cG
    · rw [sI_n (by omega)]
    · rw [sI_y]
    · rw [sI_n (by omega)]
    · rw [sI_n (by omega)]; exact rS
    · rw [sI_n (by omega)]; exact rG
    · rw [sI_n (by omega)]
    · rw [sI_y]
    · rw [sI_n (by omega)]
theorem o_feed {c r : AH} {a1 : Int32} (I : Inv c r) : SimE (X10_feed a1 c) (X11_feed a1 r) Inv := by
  obtain ⟨⟨S, G, N, T, M⟩, hW, ⟨L, l1, l2, l3, l4⟩, ⟨n, n1, n2, n3, n4⟩, hRF, hIM⟩ := id I
  unfold X10_feed X11_feed X11_feed_j25
  rw [s_outside, s_bound, bd_s, bd_s, s_outside, bd_s, s_first, bd_s, l2, l3]
  by_cases h0 : a1 < 0
  · rw [if_pos h0, i_4, i_4, i_4, i_4]
    exact rfs I (by decide)
  · rw [if_neg h0]
    by_cases h1 : 255 < a1
    · rw [if_pos h1, i_6, i_6, i_6, i_6]
      exact rfs I (by decide)
    · rw [if_neg h1, i_0, i_0]
      by_cases z : L = 96
      · subst z
        have e : (if nI 96 < 0 then (-4 : Int32) else if 95 < nI 96 then -6 else 0) = -6 := by decide
        simp only [e, if_pos (show nI 96 = 96 from rfl), vl_e, i_6]
        exact rfs I (by decide)
      · rw [if_neg (nI_pos (by omega)), if_neg (show ¬ (95 : Int32) < nI L from nI_nlt (a := 95) (by omega) (by omega)), if_neg (show ¬ nI L = 96 from fun y => z ((nI_eq (b := 96) (by omega) (by decide)).mp y)), i_0, i_0, ck_nI _ (by omega) (by decide), ck_nI _ (by omega) (by decide), nI_clamp (by omega)]
        simp only [vl_e, sI_y]
        rw [sI_n (h := c) (by omega), sI_n (h := r) (by omega), l2, l3, nI_1]
        refine SimE.mk' rfl rfl rfl (inv_g I ⟨S, G, N, T, MR_k M (fun o k h1 h2 => ?_) (fun _ _ _ => rfl) ⟨fun k h1 h2 => ?_, fun o k h1 h2 _ => ?_, fun t _ => ⟨?_, ?_⟩⟩⟩ ⟨L + 1, by omega, sI_y, sI_y, fun k hk => ?_⟩ ⟨n, n1, ?_, ?_, fun k hk => ?_⟩ ⟨?_, fun k => ?_, fun o k h1 h2 => ?_, fun _ _ _ => rfl, fun _ _ _ => rfl⟩ ⟨?_, fun k => ?_, fun k _ => ?_⟩)
        case refine_6 =>
          rw [sI_n (h := sI c 2 L a1) (by omega), sI_n (h := sI r 13 L a1) (by omega), sI_at, sI_at]
          by_cases y : k = L
          · rw [if_pos ⟨rfl, y⟩, if_pos ⟨rfl, y⟩]
          · rw [if_neg (fun q => y q.2), if_neg (fun q => y q.2)]
            exact l4 k (by omega)
        case refine_7 => rw [sI_n (by omega), sI_n (by omega)]; exact n2
        case refine_8 => rw [sI_n (by omega), sI_n (by omega)]; exact n3
        case refine_9 => rw [sI_n (by omega), sI_n (by omega), sI_n (by omega), sI_n (by omega)]; exact n4 k hk
        all_goals rw [sI_n (by omega), sI_n (by omega)]
theorem o_row {c r : AH} {a1 : Int32} (I : Inv c r) : SimE (X10_row a1 c) (X11_row a1 r) Inv := by
  obtain ⟨⟨S, G, N, T, M⟩, hW, ⟨L, l1, l2, l3, l4⟩, ⟨n, n1, n2, n3, n4⟩, hRF, hIM⟩ := id I
  unfold X10_row X11_row X11_row_j24
  rw [s_outside, s_bound, bd_s, bd_s, s_outside, bd_s, s_first, bd_s, n2, n3]
  by_cases h0 : a1 < 0
  · rw [if_pos h0, i_4, i_4, i_4, i_4]
    exact rfs I (by decide)
  · rw [if_neg h0]
    by_cases h1 : 99 < a1
    · rw [if_pos h1, i_6, i_6, i_6, i_6]
      exact rfs I (by decide)
    · rw [if_neg h1, i_0, i_0]
      by_cases z : n = 12
      · subst z
        have e : (if nI 12 < 0 then (-4 : Int32) else if 11 < nI 12 then -6 else 0) = -6 := by decide
        simp only [e, if_pos (show nI 12 = 12 from rfl), vl_e, i_6]
        exact rfs I (by decide)
      · rw [if_neg (nI_pos (by omega)), if_neg (show ¬ (11 : Int32) < nI n from nI_nlt (a := 11) (by omega) (by omega)), if_neg (show ¬ nI n = 12 from fun y => z ((nI_eq (b := 12) (by omega) (by decide)).mp y)), i_0, i_0, ck_nI _ (by omega) (by decide), ck_nI _ (by omega) (by decide), nI_clamp (by omega)]
        simp only [vl_e, sI_y]
        rw [sI_n (h := c) (by omega), sI_n (h := r) (by omega), n2, n3, nI_1]
        refine SimE.mk' rfl rfl rfl (inv_g I ⟨S, G, N, T, MR_k M (fun o k h1 h2 => ?_) (fun _ _ _ => rfl) ⟨fun k h1 h2 => ?_, fun o k h1 h2 _ => ?_, fun t _ => ⟨?_, ?_⟩⟩⟩ ⟨L, l1, ?_, ?_, fun k hk => ?_⟩ ⟨n + 1, by omega, sI_y, sI_y, fun k hk => ?_⟩ ⟨?_, fun k => ?_, fun o k h1 h2 => ?_, fun _ _ _ => rfl, fun _ _ _ => rfl⟩ ⟨?_, fun k => ?_, fun k _ => ?_⟩)
        case refine_6 => rw [sI_n (by omega), sI_n (by omega)]; exact l2
        case refine_7 => rw [sI_n (by omega), sI_n (by omega)]; exact l3
        case refine_8 => rw [sI_n (by omega), sI_n (by omega), sI_n (by omega), sI_n (by omega)]; exact l4 k hk
        case refine_9 =>
          rw [sI_n (h := sI c 3 n a1) (by omega), sI_n (h := sI r 23 n a1) (by omega), sI_at, sI_at]
          by_cases y : k = n
          · rw [if_pos ⟨rfl, y⟩, if_pos ⟨rfl, y⟩]
            obtain ⟨x, hx, e⟩ := nI_of2 (x := a1) (M := 99) (n := 99) rfl h0 (Int32.not_lt.mp h1)
            exact ⟨x, hx, e, e⟩
          · rw [if_neg (fun q => y q.2), if_neg (fun q => y q.2)]
            exact n4 k (by omega)
        all_goals rw [sI_n (by omega), sI_n (by omega)]
theorem o_clear {c r : AH} (I : Inv c r) : SimE (X10_clear c) (X11_clear r) Inv := by
  obtain ⟨⟨S, G, N, T, M⟩, hW, ⟨L, l1, l2, l3, l4⟩, ⟨n, n1, n2, n3, n4⟩, hRF, hIM⟩ := id I
  unfold X10_clear X11_clear
  rw [vl_e, vl_e, vl_e, vl_e]
  refine SimE.mk' rfl rfl (by rw [n2, n3]) (inv_g I ⟨S, G, N, T, MR_k M (fun o k h1 h2 => ?_) (fun _ _ _ => rfl) ⟨fun k h1 h2 => ?_, fun o k h1 h2 _ => ?_, fun t _ => ⟨?_, ?_⟩⟩⟩ ⟨L, l1, ?_, ?_, fun k hk => ?_⟩ ⟨0, by omega, sI_y, sI_y, fun k hk => absurd hk (by omega)⟩ ⟨?_, fun k => ?_, fun o k h1 h2 => ?_, fun _ _ _ => rfl, fun _ _ _ => rfl⟩ ⟨?_, fun k => ?_, fun k _ => ?_⟩)
  case refine_6 => rw [sI_n (by omega)]; exact l2
  case refine_7 => rw [sI_n (by omega)]; exact l3
  case refine_8 => rw [sI_n (by omega), sI_n (by omega)]; exact l4 k hk
  all_goals rw [sI_n (by omega)]
