/-! SET; TURN, JUMP, NONE -/
theorem o_set {c r : AH} {a1 a2 : Int32} (I : Inv c r) : SimE (X10_set a1 a2 c) (X11_set a1 a2 r) Inv := by
  obtain ⟨⟨S, G, N, T, M⟩, hW, hL, hRow, hRF, hIM⟩ := id I
  obtain ⟨R, ⟨cS, cW, cG, cN, cT⟩, cJ, cTr⟩ := id M
  obtain ⟨rS, rG, rN, rT, hS, hG, hN, hT, hWW, hJ, hH⟩ := id R
  unfold X10_set X11_set X10_set_j30 X11_set_j24 X11_set_j34 X11_set_j37
  rw [s_noSuch, s_isIn, bd_s, bd_s]
  have key : ∀ x : Int32, (x = 0 ∨ x = -2 ∨ x = -4 ∨ x = -6) → (x = 0 → (a1 = 0 ∧ ∃ S' : Nat, 4 ≤ S' ∧ S' ≤ 20 ∧ a2 = nI S') ∨ (¬ a1 = 0 ∧ a1 = 1 ∧ ∃ G' : Nat, 1 ≤ G' ∧ G' ≤ 4 ∧ a2 = nI G')) →
      SimE (X10_set_j31 a1 a2 x c) (if x = 0 then (if r.1 0 16 ≤ 0 then X11_set_j52 a1 a2 x r else vl (-3) fun x9 => X11_set_j52 a1 a2 x9 r) else X11_set_j52 a1 a2 x r) Inv := by
    intro x hx hg
    unfold X10_set_j31 X10_set_j48
    rw [cT, rT]
    by_cases z : T = 0
    · subst z
      rw [if_pos (show nI 0 ≤ 0 by decide), if_pos (show nI 0 ≤ 0 by decide), s_first, bd_s]
      by_cases y : x = 0
      · rw [if_pos y, if_pos y, y]
        unfold X11_set_j52 X11_set_j77 X11_set_j92 X11_set_j109 X10_set_j83
        rcases hg y with ⟨e, S', b1, b2, rfl⟩ | ⟨e, e1, G', b1, b2, rfl⟩
        · rw [e]
          simp only [i_0, vl_e, show ((0 : Int32) = 1) = False from eq_false (by decide), if_false]
          refine SimE.mk' rfl rfl (by rw [cS, rS]) (inv_M (S := S') (G := G) (N := N) (T := 0) I (MR_0 M (Nat.le_refl 0) (Or.inl rfl) ⟨b1, b2⟩ hG ?_ ?_ ?_ ?_ ?_ ?_ (fun p k hp => ?_) rfl ?_ ?_ ?_ ?_ (fun p k hp => ?_)) (PCx.fld c _ (by omega)) ((PRx.fld r _ (Or.inr (by omega))).tr (PRx.fld _ _ (Or.inr (by omega)))))
          · rw [sI_n (by omega), sI_n (by omega)]; exact hWW
          · rw [sI_y]
          · rw [sI_n (h := c) (by omega), sI_n (by omega), sI_n (by omega)]; exact cW
          · rw [sI_n (by omega)]; exact cG
          · rw [sI_n (by omega)]
          · rw [sI_n (by omega)]; exact cT
          · rw [sI_n (by omega)]
          · rw [sI_n (by omega), sI_y]
          · rw [sI_y, sI_n (by omega)]; exact rG
          · rw [sI_n (by omega), sI_n (by omega)]
          · rw [sI_n (by omega), sI_n (by omega)]; exact rT
          · rw [sI_n (by omega), sI_n (by omega)]
        · rw [e1]
          simp only [i_10, vl_e, if_true]
          refine SimE.mk' rfl rfl (by rw [cG, rG]) (inv_M (S := S) (G := G') (N := N) (T := 0) I (MR_0 M (Nat.le_refl 0) (Or.inr rfl) hS ⟨b1, b2⟩ ?_ ?_ ?_ ?_ ?_ ?_ (fun p k hp => ?_) rfl ?_ ?_ ?_ ?_ (fun p k hp => ?_)) (PCx.fld c _ (by omega)) ((PRx.fld r _ (Or.inr (by omega))).tr (PRx.fld _ _ (Or.inr (by omega)))))
          · rw [sI_n (by omega), sI_n (by omega)]; exact hWW
          · rw [sI_n (by omega)]; exact cS
          · rw [sI_n (h := c) (by omega), sI_n (by omega), sI_n (by omega)]; exact cW
          · rw [sI_y]
          · rw [sI_n (by omega)]
          · rw [sI_n (by omega)]; exact cT
          · rw [sI_n (by omega)]
          · rw [sI_n (by omega), sI_y]; exact rS
          · rw [sI_y]
          · rw [sI_n (by omega), sI_n (by omega)]
          · rw [sI_n (by omega), sI_n (by omega)]; exact rT
          · rw [sI_n (by omega), sI_n (by omega)]
      · rw [if_neg y, if_neg y, if_neg y]
        unfold X11_set_j52
        rw [if_neg y]
        exact rfs I (by rcases hx with h | h | h | h <;> simp only [h] <;> first | exact absurd h y | decide)
    · rw [if_neg (nI_nle (by omega) (by omega)), if_neg (nI_nle (by omega) (by omega)), s_first, bd_s]
      unfold X11_set_j52
      by_cases y : x = 0
      · simp only [if_pos y, i_3, vl_e]
        exact rfs I (by decide)
      · simp only [if_neg y]
        exact rfs I (by rcases hx with h | h | h | h <;> simp only [h] <;> first | exact absurd h y | decide)
  by_cases h0 : a1 < 0 ∨ 1 < a1
  · rw [if_pos h0, if_pos h0, i_2, i_0]
    exact key (-2) (Or.inr (Or.inl rfl)) (fun z => absurd z (by decide))
  · rw [if_neg h0, if_neg h0, i_0, i_10]
    have t0 : (0 : Int32).toInt = 0 := rfl
    have t1 : (1 : Int32).toInt = 1 := rfl
    have t4 : (4 : Int32).toInt = 4 := rfl
    have t20 : (20 : Int32).toInt = 20 := rfl
    have three : ∀ (P Q : Prop) [Decidable P] [Decidable Q], ((if P then (-4 : Int32) else if Q then -6 else 0) = 0 ∨ (if P then (-4 : Int32) else if Q then -6 else 0) = -2 ∨ (if P then (-4 : Int32) else if Q then -6 else 0) = -4 ∨ (if P then (-4 : Int32) else if Q then -6 else 0) = -6) ∧ ((if P then (-4 : Int32) else if Q then -6 else 0) = 0 → ¬ P ∧ ¬ Q) := by
      intro P Q _ _
      by_cases p : P
      · rw [if_pos p]; exact ⟨by decide, fun z => absurd z (by decide)⟩
      · rw [if_neg p]
        by_cases q : Q
        · rw [if_pos q]; exact ⟨by decide, fun z => absurd z (by decide)⟩
        · rw [if_neg q]; exact ⟨by decide, fun _ => ⟨p, q⟩⟩
    by_cases h1 : a1 = 0
    · simp only [if_pos h1, s_outside, s_bound, bd_s]
      refine key _ (three _ _).1 (fun z => Or.inl ⟨h1, ?_⟩)
      obtain ⟨p, q⟩ := (three _ _).2 z
      obtain ⟨x, hx, e⟩ := nI_of2 (x := a2) (M := 20) (n := 20) rfl (by rw [fa_lt] at p ⊢; omega) (Int32.not_lt.mp q)
      refine ⟨x, ?_, hx, e⟩
      rw [e, fa_lt, toInt_nI (by omega)] at p
      omega
    · simp only [if_neg h1, s_outside, s_bound, bd_s]
      have e1 : a1 = 1 := by
        rw [fa_eq] at h1 ⊢
        rw [fa_lt, fa_lt] at h0
        omega
      refine key _ (three _ _).1 (fun z => Or.inr ⟨h1, e1, ?_⟩)
      obtain ⟨p, q⟩ := (three _ _).2 z
      obtain ⟨x, hx, e⟩ := nI_of2 (x := a2) (M := 4) (n := 4) rfl (by rw [fa_lt] at p ⊢; omega) (Int32.not_lt.mp q)
      refine ⟨x, ?_, hx, e⟩
      rw [e, fa_lt, toInt_nI (by omega)] at p
      omega
theorem o_turn {c r : AH} (I : Inv c r) : SimE (X10_turn c) (X11_turn r) Inv := by
  obtain ⟨⟨S, G, N, T, M⟩, hW, hL, hRow, hRF, hIM⟩ := id I
  obtain ⟨v, c', e1, f1, t1⟩ := m_turnC M (by decide)
  obtain ⟨v', r', e2, f2, t2⟩ := m_turnR M.1
  unfold X10_turn X11_turn
  rw [bd_id, bd_id]
  exact SimE.mk' e1 e2 (TV_u M.1.2.2.2.2.2.2.1 t1 t2) (Inv_f I (PC.FR f1) (fun _ _ _ => PR.FT f2))
/-- whose turn it is, on both sides, and what both keep -/
theorem m_turns {c r : AH} {S G N T : Nat} (I : Inv c r) (M : MR 42 c r S G N T) : ∃ v c' r', X5_inTurn 42 c = some (v, c') ∧ X11_turnNow r = some (v, r') ∧ FR c c' ∧ FT r r' ∧ TV r' N (min G N) T v ∧ MR 42 c' r' S G N T ∧ Inv c' r' ∧ Inv c' r := by
  obtain ⟨v, c', e1, f1, t1⟩ := m_turnC M (by decide)
  obtain ⟨v', r', e2, f2, t2⟩ := m_turnR M.1
  have ev := TV_u M.1.2.2.2.2.2.2.1 t1 t2
  subst ev
  exact ⟨v, c', r', e1, e2, f1, f2, TV_c (RA.FT f2) t1, MR_c (CA.FR (by decide) f1) (MR_r (RA.FT f2) M), Inv_f I (PC.FR f1) (fun _ _ _ => PR.FT f2), Inv_f I (PC.FR f1) (fun _ _ _ => PR.rf)⟩
theorem TV_j {r : AH} {N F T j : Nat} (hN : N ≤ 4) (hj : j < N) (h : TV r N F T (nI j)) : T < 3 * N + 3 * F ∧ TA r N F T j := by
  rcases h with ⟨_, e⟩ | ⟨_, h2, i, e, h4⟩
  · have : (nI j).toInt = (-9 : Int32).toInt := by rw [e]
    rw [toInt_nI (by omega)] at this
    have t9 : (-9 : Int32).toInt = -9 := rfl
    omega
  · have hi := h4.1
    have := (nI_eq (by omega) (by omega)).mp e
    subst this
    exact ⟨h2, h4⟩
/-- a try put down keeps the rest -/
theorem inv_T {c r c' r' : AH} (I : Inv c r) {S G N T : Nat} (M' : MR 42 c' r' S G N T) (a1 : c'.2 = c.2) (a2 : ∀ p q, (p < 42 ∨ 48 ≤ p) → c'.1 p q = c.1 p q) (b : ∀ p q, p ≠ 10 → p ≠ 11 → p ≠ 12 → ¬ (p = 0 ∧ q = 16) → r'.1 p q = r.1 p q) : Inv c' r' :=
  inv_M I M' ⟨fun k _ => a2 0 k (by omega), fun o k h => a2 o k (by omega), fun o _ _ => by rw [a1], fun o _ _ => by rw [a1]⟩ ⟨fun k h => b 0 k (by omega) (by omega) (by omega) (by omega), fun k => b 1 k (by omega) (by omega) (by omega) (by omega), fun k => ⟨b 13 k (by omega) (by omega) (by omega) (by omega), b 23 k (by omega) (by omega) (by omega) (by omega)⟩, fun k _ => b 17 k (by omega) (by omega) (by omega) (by omega)⟩
theorem o_jump {c r : AH} {a1 a2 : Int32} (I : Inv c r) : SimE (X10_jump a1 a2 c) (X11_jump a1 a2 r) Inv := by
  obtain ⟨⟨S, G, N, T, M⟩, hW, hL, hRow, hRF, hIM⟩ := id I
  obtain ⟨v, c1, r1, e1, e2, f1, f2, tv, M1, I1, I2⟩ := m_turns I M
  have hN := M.1.2.2.2.2.2.2.1
  have hT := M.1.2.2.2.2.2.2.2.1
  rcases jm a1 hN with hz | ⟨j, hj, rfl⟩
  · unfold X10_jump X11_jump X11_jump_j33 X10_notInTurn
    rw [nb_n M.2.1.2.2.2.1 hz, bd_s, e1, bd_s, ij_n M.1.2.2.1 hz, bd_s, i_0, i_1]
    have q : ∀ x : Int32, (bd (X10_outside a2 0 300 c1) fun r5 h6 => bd (X10_first x r5 h6) fun r7 h8 => bd (X10_first (-1) r7 h8) fun r9 h10 => if r9 = 0 then (bd (X5_record 42 a1 a2 0 h10) fun r11 h12 => some (r11, h12)) else (bd (X10_refuse r9 h10) fun r13 h14 => some (r13, h14))) = bd (X10_refuse (-1) c1) fun r13 h14 => some (r13, h14) := by
      intro x
      simp only [s_outside, s_first, bd_s, i_1]
    by_cases y : v = a1
    · rw [if_pos y, bd_s, q]
      exact rfs I2 (by decide)
    · rw [if_neg y, bd_s, q]
      exact rfs I2 (by decide)
  · have hj4 : j < 4 := by omega
    unfold X10_jump X11_jump X11_jump_j33 X10_notInTurn
    rw [nb_y M.2.1.2.2.2.1 hN hj, bd_s, e1, bd_s, ij_y M.1.2.2.1 hN hj, bd_s, i_10, e2, bd_s]
    by_cases y : v = nI j
    · subst y
      simp only [if_true, bd_s, s_outside, s_bound, s_first, i_0]
      by_cases h0 : a2 < 0
      · simp only [if_pos h0, i_4]
        exact rfs I1 (by decide)
      · by_cases h1 : 300 < a2
        · simp only [if_neg h0, if_pos h1, i_6]
          exact rfs I1 (by decide)
        · simp only [if_neg h0, if_neg h1, i_0]
          obtain ⟨b, hb, rfl⟩ := nI_of2 (x := a2) (M := 300) (n := 300) rfl h0 (Int32.not_lt.mp h1)
          obtain ⟨tT, tA⟩ := TV_j hN hj tv
          have et : told (RJ r1 j) (r1.1 0 14) (nI b) 0 = lenS (r1.1 2 j) (r1.1 3 j) (r1.1 7 j) (r1.1 0 14) (nI b) 0 := by
            unfold told
            rw [if_pos (nI_pos' (by omega))]
            rfl
          have nn := told_nn (r := r1) (j := j) (b := nI b) (loss := 0) (M1.1.2.2.2.2.2.2.2.2.2.1 j hj4) M1.1.2.2.2.2.2.2.2.2.1 (by rw [toInt_nI (by omega)]; omega) (by rw [toInt_nI (by omega)]; omega) (by decide) (by decide)
          obtain ⟨c2, r2, g1, g2, M2, g3, g4, g5, g6, g7, g8, g9⟩ := m_try (off := nI b) (b := nI b) (loss := 0) M1 (Or.inl rfl) tT tA (Or.inr (Or.inr nn))
          rw [g1, bd_s, s_lenR hj4, bd_s, ← et, g2, bd_s, g8]
          have e3 : nI (T + 1) - 1 = nI T := pk_sub (a := T + 1) (b := 1) (by omega)
          rw [e3, ck_nI _ (by omega) (by decide), nI_clamp (by omega), g7]
          exact SimE.mk' rfl rfl rfl (inv_T I1 M2 g3 (fun p q h => g5 p q (by omega)) g6)
    · simp only [if_neg y, bd_s, s_outside, s_first, i_0, i_3]
      exact rfs (x := -3) I1 (by decide)
theorem o_none {c r : AH} {a1 a2 : Int32} (I : Inv c r) : SimE (X10_none a1 a2 c) (X11_none a1 a2 r) Inv := by
  obtain ⟨⟨S, G, N, T, M⟩, hW, hL, hRow, hRF, hIM⟩ := id I
  obtain ⟨v, c1, r1, e1, e2, f1, f2, tv, M1, I1, I2⟩ := m_turns I M
  have hN := M.1.2.2.2.2.2.2.1
  have hT := M.1.2.2.2.2.2.2.2.1
  have q : ∀ x y : Int32, (x = 0 ∨ x = -3) → (y = -1 ∨ y = -2) → (if (if y = 0 then x else y) = 0 then (if a2 = 0 then X10_none_j48 a1 (-9) a1 c1 else X10_none_j48 a1 (-8) a1 c1) else (bd (X10_refuse (if y = 0 then x else y) c1) fun r15 h16 => some (r15, h16))) = bd (X10_refuse y c1) fun r13 h14 => some (r13, h14) := by
    intro x y _ hy
    rcases hy with rfl | rfl
    · simp only [i_1]
    · simp only [i_2]
  have q2 : ((if v = a1 then some ((0 : Int32), c1) else some (-3, c1)) : Option (Int32 × AH)) = some (if v = a1 then 0 else -3, c1) := by
    by_cases y : v = a1
    · rw [if_pos y, if_pos y]
    · rw [if_neg y, if_neg y]
  rcases jm a1 hN with hz | ⟨j, hj, rfl⟩
  · unfold X10_none X11_none X11_none_j40 X10_notInTurn
    rw [nb_n M.2.1.2.2.2.1 hz, bd_s, s_noSuch, bd_s, e1, bd_s, q2, bd_s, s_first, bd_s, s_first, bd_s, ij_n M.1.2.2.1 hz, bd_s, i_0, i_1]
    simp only [i_1]
    exact rfs (x := -1) I2 (by decide)
  · have hj4 : j < 4 := by omega
    unfold X10_none X11_none X11_none_j40 X10_notInTurn
    rw [nb_y M.2.1.2.2.2.1 hN hj, bd_s, s_noSuch, bd_s, e1, bd_s, q2, bd_s, s_first, bd_s, s_first, bd_s, ij_y M.1.2.2.1 hN hj, bd_s, i_10, s_isIn, bd_s]
    by_cases h0 : a2 < 0 ∨ 1 < a2
    · simp only [if_pos h0, i_0, i_2]
      exact rfs (x := -2) I2 (by decide)
    · simp only [if_neg h0, i_0, i_10]
      rw [e2, bd_s]
      by_cases y : v = nI j
      · subst y
        simp only [if_true, i_0]
        obtain ⟨tT, tA⟩ := TV_j hN hj tv
        have main : ∀ x : Int32, (x = -9 ∨ x = -8) → SimE (X10_none_j48 (nI j) x (nI j) c1) (X11_none_j64 (nI j) x (nI j) r1) Inv := by
          intro x hx
          have et : told (RJ r1 j) (r1.1 0 14) x 0 = x := by
            unfold told
            rw [if_neg (by rcases hx with rfl | rfl <;> decide)]
          obtain ⟨c2, r2, g1, g2, M2, g3, g4, g5, g6, g7, g8, g9⟩ := m_try (off := 0) (b := x) (loss := 0) M1 (Or.inl rfl) tT tA (by rw [et]; rcases hx with h | h; exact Or.inl h; exact Or.inr (Or.inl h))
          rw [et] at g2
          unfold X10_none_j48 X11_none_j64
          rw [g1, bd_s, g2, bd_s, s_triesOfC M2, s_triesOfR M2.1, bd_s, bd_s]
          exact SimE.mk' rfl rfl rfl (inv_T I1 M2 g3 (fun p q h => g5 p q (by omega)) g6)
        by_cases h1 : a2 = 0
        · rw [if_pos h1, if_pos h1]
          exact main _ (Or.inl rfl)
        · rw [if_neg h1, if_neg h1]
          exact main _ (Or.inr rfl)
      · simp only [if_neg y, i_3, i_0]
        exact rfs (x := -3) I1 (by decide)
