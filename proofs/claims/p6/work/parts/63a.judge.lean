/-! JUDGE -/
section TL
variable {o S G N T : Nat} {c r : AH}
theorem t_turn (M : MR o c r S G N T) (ho : 42 ≤ o) : ∃ v c' r', X5_inTurn o c = some (v, c') ∧ X11_turnNow r = some (v, r') ∧ FR c c' ∧ FT r r' ∧ TV r' N (min G N) T v ∧ MR o c' r' S G N T := by
  obtain ⟨v, c', e1, f1, t1⟩ := m_turnC M ho
  obtain ⟨v', r', e2, f2, t2⟩ := m_turnR M.1
  have ev := TV_u M.1.2.2.2.2.2.2.1 t1 t2
  subst ev
  exact ⟨v, c', r', e1, e2, f1, f2, TV_c (RA.FT f2) t1, MR_c (CA.FR ho f1) (MR_r (RA.FT f2) M)⟩
theorem t_lead (M : MR o c r S G N T) (ho : 42 ≤ o) : ∃ v c' r', X5_leader o c = some (v, c') ∧ X11_leader r = some (v, r') ∧ FR c c' ∧ FT r r' ∧ MR o c' r' S G N T := by
  obtain ⟨v, c', e1, f1, t1⟩ := m_leadC M ho
  obtain ⟨v', r', e2, f2, t2⟩ := m_leadR M.1
  have ev := LV_u M.1.2.2.2.2.2.2.1 t1 t2
  subst ev
  exact ⟨v, c', r', e1, e2, f1, f2, MR_c (CA.FR ho f1) (MR_r (RA.FT f2) M)⟩
end TL
/-- what the class keeps while it plays in mind -/
def JC (c c' : AH) : Prop := (∀ o k, o < 5 ∨ (42 ≤ o ∧ o < 52) ∨ (62 ≤ o ∧ o < 72) → ¬ (o = 0 ∧ k = 17) → c'.1 o k = c.1 o k) ∧ (∀ o, (42 ≤ o ∧ o < 52) ∨ (62 ≤ o ∧ o < 72) → c'.2.2 o = c.2.2 o) ∧ ∀ o, 10 ≤ o → o ≤ 30 → c'.2.1 o = c.2.1 o
theorem JC.rf {c : AH} : JC c c := ⟨fun _ _ _ _ => rfl, fun _ _ => rfl, fun _ _ _ => rfl⟩
theorem JC.tr {c c' c2 : AH} (a : JC c c') (b : JC c' c2) : JC c c2 := ⟨fun o k h1 h2 => (b.1 o k h1 h2).trans (a.1 o k h1 h2), fun o h => (b.2.1 o h).trans (a.2.1 o h), fun o h1 h2 => (b.2.2 o h1 h2).trans (a.2.2 o h1 h2)⟩
theorem JC.FR {c c' : AH} (f : FR c c') : JC c c' := ⟨fun o k h _ => f.1 o k (by omega) (by omega) (by omega), fun o _ => by rw [f.2], fun o _ _ => by rw [f.2]⟩
theorem JC.T {c c' : AH} (h1 : c'.2 = c.2) (h2 : ∀ p q, (p < 52 ∨ 58 ≤ p) → c'.1 p q = c.1 p q) : JC c c' := ⟨fun o k h _ => h2 o k (by omega), fun o _ => by rw [h1], fun o _ _ => by rw [h1]⟩
theorem JC.cp {c : AH} : JC c (mcp 52 42 c) := ⟨fun o k h _ => mcp_ne (by omega), fun o h => mcp_ne2 (by omega), fun _ _ _ => rfl⟩
/-- what the reference keeps while it plays on -/
def JR (T : Nat) (r r' : AH) : Prop := (∀ k, k ≠ 16 → k ≠ 40 → r'.1 0 k = r.1 0 k) ∧ (∀ o k, 1 ≤ o → o ≠ 10 → o ≠ 11 → o ≠ 12 → o ≠ 20 → o ≠ 21 → o ≠ 22 → r'.1 o k = r.1 o k) ∧ ∀ t, t < T → r'.1 10 t = r.1 10 t ∧ r'.1 11 t = r.1 11 t
theorem JR.rf {T : Nat} {r : AH} : JR T r r := ⟨fun _ _ _ => rfl, fun _ _ _ _ _ _ _ _ _ => rfl, fun _ _ => ⟨rfl, rfl⟩⟩
theorem JR.tr {T : Nat} {r r' r2 : AH} (a : JR T r r') (b : JR T r' r2) : JR T r r2 := ⟨fun k h1 h2 => (b.1 k h1 h2).trans (a.1 k h1 h2), fun o k h1 h2 h3 h4 h5 h6 h7 => (b.2.1 o k h1 h2 h3 h4 h5 h6 h7).trans (a.2.1 o k h1 h2 h3 h4 h5 h6 h7), fun t ht => ⟨(b.2.2 t ht).1.trans (a.2.2 t ht).1, (b.2.2 t ht).2.trans (a.2.2 t ht).2⟩⟩
theorem JR.FT {T : Nat} {r r' : AH} (f : FT r r') : JR T r r' := ⟨fun k _ _ => f.1 0 k (by omega) (by omega) (by omega), fun o k _ _ _ _ h1 h2 h3 => f.1 o k h1 h2 h3, fun t _ => ⟨f.1 10 t (by omega) (by omega) (by omega), f.1 11 t (by omega) (by omega) (by omega)⟩⟩
theorem JR.T {T T' : Nat} {r r' : AH} (hT : T ≤ T') (h1 : ∀ p q, p ≠ 10 → p ≠ 11 → p ≠ 12 → ¬ (p = 0 ∧ q = 16) → r'.1 p q = r.1 p q) (h2 : ∀ t, t < T' → r'.1 10 t = r.1 10 t ∧ r'.1 11 t = r.1 11 t) : JR T r r' := ⟨fun k h _ => h1 0 k (by omega) (by omega) (by omega) (by omega), fun o k _ h3 h4 h5 _ _ _ => h1 o k h3 h4 h5 (by omega), fun t ht => h2 t (by omega)⟩
theorem l_judge {c r : AH} {S G N T n : Nat} {w : Nat → Nat} (hn : n ≤ 12) (x2 : Int32) (e : c.1 0 8 = nI n) (hw : ∀ k, k < n → w k ≤ 99 ∧ c.1 3 k = nI (w k) ∧ r.1 23 k = nI (w k)) : ∀ (f t Tt : Nat) (ct rt : AH), n < t + f → t ≤ n → T ≤ Tt → MR 52 ct rt S G N Tt → JC c ct → JR T r rt →
    ∃ v c' r', X10_judged_l13 f (nI t) ct = some (v, c') ∧ X11_judge_l21 (nI n) x2 f (-9) (nI t) rt = X11_judge_j62 x2 v r' ∧ JC c c' ∧ JR T r r' := by
  intro f
  induction f with
  | zero => intro t Tt ct rt h1 h2; omega
  | succ f ih =>
    intro t Tt ct rt h1 h2 hT M p q
    have hN := M.1.2.2.2.2.2.2.1
    rw [X10_judged_l13.eq_2, X11_judge_l21.eq_2, p.1 0 8 (by omega) (by omega), e]
    by_cases z : t = n
    · subst z
      rw [if_pos (Int32.le_refl _), if_pos (Int32.le_refl _)]
      exact ⟨_, ct, rt, rfl, rfl, p, q⟩
    · obtain ⟨w1, w2, w3⟩ := hw t (by omega)
      obtain ⟨lv, c1, ra, a1, _, a3, _, _⟩ := t_lead M (by omega)
      rw [if_neg (nI_ge (by omega) (by omega)), if_neg (nI_ge (by omega) (by omega)), if_neg (show ¬ (0 : Int32) ≤ -9 by decide), a1, bd_s, ck_nI _ (by omega) (by decide), ck_nI _ (by omega) (by decide), nI_clamp (by omega), (p.tr (JC.FR a3)).1 3 t (by omega) (by omega), q.2.1 23 t (by omega) (by omega) (by omega) (by omega) (by omega) (by omega) (by omega), w2, w3, vl_e]
      -- the reference
      have Mc1 : MR 52 c1 rt S G N Tt := MR_c (CA.FR (by omega) a3) M
      obtain ⟨tv, c2, r2, b1, b2, b3, b4, b5, M2⟩ := t_turn Mc1 (by omega)
      have found : ∀ g : AH, X11_judge_j55 (nI n) x2 (nI t) (X11_judge_l21 (nI n) x2 f) (nI t) g = X11_judge_j62 x2 (nI t) g := by
        intro g
        unfold X11_judge_j55
        rw [vl_e, nI_1]
        cases f with
        | zero => omega
        | succ f =>
          rw [X11_judge_l21.eq_2, if_pos (nI_pos' (by omega))]
          split <;> rfl
      have pd : ∀ x : Int32, ∃ v c' r', X10_judged_j54 (nI t) lv (X10_judged_l13 f) (if 0 ≤ x then x else -9) c1 = some (v, c') ∧ (x.toInt ≤ 49 → (bd (X11_isOther x rt) fun r6 h7 => if r6 = 0 then X11_judge_j55 (nI n) x2 (nI t) (X11_judge_l21 (nI n) x2 f) (-9) h7 else X11_judge_j55 (nI n) x2 (nI t) (X11_judge_l21 (nI n) x2 f) (nI t) h7) = X11_judge_j62 x2 v r' ∧ JC c c' ∧ JR T r r') ∨ 49 < x.toInt := by
        intro x
        by_cases hx : 49 < x.toInt
        · exact ⟨0, c, r, Or.inr hx⟩
        unfold X10_judged_j54 X10_tryComes X11_isOther
        rw [b1, bd_s, b2, bd_s]
        rcases b5 with ⟨o1, rfl⟩ | ⟨o1, o2, j, rfl, o3⟩
        · rw [if_neg (show ¬ (0 : Int32) ≤ -9 by decide), if_neg (show ¬ (0 : Int32) ≤ -9 by decide), cz_0, cz_1, bd_s, bd_s, i_0, i_10, found]
          exact ⟨_, _, _, Or.inl ⟨rfl, fun _ => ⟨rfl, (p.tr (JC.FR a3)).tr (JC.FR b3), q.tr (JR.FT b4)⟩⟩⟩
        · have hj := o3.1
          have hj4 : j < 4 := by omega
          rw [if_pos (nI_pos' (by omega)), if_pos (nI_pos' (by omega))]
          obtain ⟨lv2, c3', r3, _, d2, _, d4, _⟩ := t_lead M2 (by omega)
          have lveq : lv2 = lv := by
            obtain ⟨x1, _, y1, _, y3⟩ := m_leadC M (by omega)
            obtain ⟨x2, _, y4, _, y6⟩ := m_leadR M2.1
            have e1 : x1 = lv := by rw [a1] at y1; exact ((Prod.mk.inj (Option.some.inj y1)).1).symm
            have e2 : x2 = lv2 := by rw [d2] at y4; exact ((Prod.mk.inj (Option.some.inj y4)).1).symm
            rw [← e1, ← e2]
            exact LV_u hN (LV_c (RA.FT b4).sy y6) y3
          subst lveq
          have M3 : MR 52 c2 r3 S G N Tt := MR_r (RA.FT d4) M2
          have hA : TA r3 N (min G N) Tt j := TA_c (RA.FT d4) (Nat.le_refl _) o3
          rw [d2, bd_s]
          unfold X11_isOther_j34
          have fin : ∀ b off : Int32, (told (RJ r3 j) (r3.1 0 14) b 0 = -9 ∨ told (RJ r3 j) (r3.1 0 14) b 0 = -8 ∨ 0 ≤ (told (RJ r3 j) (r3.1 0 14) b 0).toInt) → ∃ v c' r', (bd (bd (X5_record 52 (nI j) b 0 c2) fun r3 h4 => cz 1 (some ((1 : Int32), h4))) fun r6 h7 => if r6 = 0 then some (nI t, h7) else bd (X5_leader 52 h7) fun r8 h9 => if r8 = lv2 then vl (nI t + 1) fun x10 => X10_judged_l13 f x10 h9 else some (nI t, h9)) = some (v, c') ∧ (bd (bd (X11_putsTry (nI j) (told (RJ r3 j) (r3.1 0 14) b 0) off r3) fun _ h8 => bd (X11_leader h8) fun r9 h10 => if r9 = lv2 then cz 0 (some ((0 : Int32), h10)) else cz 1 (some (1, h10))) fun r6 h7 => if r6 = 0 then X11_judge_j55 (nI n) x2 (nI t) (X11_judge_l21 (nI n) x2 f) (-9) h7 else X11_judge_j55 (nI n) x2 (nI t) (X11_judge_l21 (nI n) x2 f) (nI t) h7) = X11_judge_j62 x2 v r' ∧ JC c c' ∧ JR T r r' := by
            intro b off hres
            obtain ⟨c4, r4, g1, g2, M4, g3, g4, g5, g6, g7, g8, g9⟩ := m_try (off := off) (b := b) (loss := 0) M3 (Or.inr (Or.inl rfl)) o2 hA hres
            obtain ⟨lv5, c5, r5, k1, k2, k3, k4, M5⟩ := t_lead M4 (by omega)
            have P5 : JC c c5 := (((p.tr (JC.FR a3)).tr (JC.FR b3)).tr (JC.T g3 g5)).tr (JC.FR k3)
            have Q5 : JR T r r5 := (((q.tr (JR.FT b4)).tr (JR.FT d4)).tr (JR.T hT g6 g9)).tr (JR.FT k4)
            rw [g1, bd_s, cz_1, bd_s, i_10, k1, bd_s, g2, bd_s, k2, bd_s]
            by_cases y : lv5 = lv2
            · rw [if_pos y, if_pos y, cz_0, bd_s, i_0, vl_e, nI_1]
              unfold X11_judge_j55
              rw [vl_e, nI_1]
              exact ih (t + 1) (Tt + 1) c5 r5 (by omega) (by omega) (by omega) M5 P5 Q5
            · rw [if_neg y, if_neg y, cz_1, bd_s, i_10, found]
              exact ⟨_, _, _, rfl, rfl, P5, Q5⟩
          by_cases hx0 : 0 ≤ x
          · have hx0' := hx0
            have t0 : (0 : Int32).toInt = 0 := rfl
            rw [fa_le, t0] at hx0'
            rw [if_pos hx0, if_pos hx0, s_lenR hj4, bd_s]
            have et : told (RJ r3 j) (r3.1 0 14) x 0 = lenS (r3.1 2 j) (r3.1 3 j) (r3.1 7 j) (r3.1 0 14) x 0 := by
              unfold told
              rw [if_pos hx0]
              rfl
            have nn := told_nn (r := r3) (j := j) (b := x) (loss := 0) (M3.1.2.2.2.2.2.2.2.2.2.1 j hj4) M3.1.2.2.2.2.2.2.2.2.1 hx0' (by omega) (by decide) (by decide)
            obtain ⟨v, c', r', u1, u2⟩ := fin x x (Or.inr (Or.inr nn))
            rw [et] at u2
            exact ⟨v, c', r', Or.inl ⟨u1, fun _ => u2⟩⟩
          · rw [if_neg hx0, if_neg hx0]
            have et : told (RJ r3 j) (r3.1 0 14) (-9) 0 = -9 := by
              unfold told
              rw [if_neg (by decide)]
            obtain ⟨v, c', r', u1, u2⟩ := fin (-9) x (Or.inl et)
            rw [et] at u2
            exact ⟨v, c', r', Or.inl ⟨u1, fun _ => u2⟩⟩
      have hv : (nI (w t) - 50).toInt = (w t : Int) - 50 := pk_sub_toInt (b := 50) (by omega) (by omega)
      obtain ⟨v, c', r', u⟩ := pd (nI (w t) - 50)
      rcases u with ⟨u1, u2⟩ | u
      · obtain ⟨u3, u4, u5⟩ := u2 (by omega)
        refine ⟨v, c', r', ?_, u3, u4, u5⟩
        rw [← u1]
        by_cases y : 0 ≤ nI (w t) - 50
        · rw [if_pos y, if_pos y]
        · rw [if_neg y, if_neg y]
      · omega
theorem o_judge {c r : AH} (I : Inv c r) : SimE (X10_judge c) (X11_judge r) Inv := by
  obtain ⟨⟨S, G, N, T, M⟩, hW, ⟨L, l1, l2, l3, l4⟩, hRow, hRF, hIM⟩ := id I
  obtain ⟨n, w, hn, e, e', hw⟩ := RW_w hRow
  have h24 := T24 M
  have M0 : MR 52 (mcp 52 42 c) (sI r 0 34 0) S G N T := MR_r ⟨fun k _ _ => by rw [sI_n (by omega)], fun o k _ _ _ => by rw [sI_n (by omega)], fun t _ => ⟨by rw [sI_n (by omega)], by rw [sI_n (by omega)]⟩⟩ (MR_mcp (o := 52) M h24)
  obtain ⟨v, c', r', u1, u2, p, q⟩ := l_judge (r := sI r 0 34 0) (x2 := r.1 0 16) hn e (fun k hk => ⟨(hw k hk).1, (hw k hk).2.1, by rw [sI_n (by omega)]; exact (hw k hk).2.2⟩) FU 0 T (mcp 52 42 c) (sI r 0 34 0) (by unfold FU; omega) (Nat.zero_le _) (Nat.le_refl _) M0 JC.cp JR.rf
  have u1 : X10_judged_l13 FU 0 (mcp 52 42 c) = _ := u1
  have u2 : X11_judge_l21 (nI n) (r.1 0 16) FU (-9) 0 (sI r 0 34 0) = _ := u2
  have e1 : X10_judge c = some (v, sI c' 0 8 0) := by
    unfold X10_judge X10_judged
    rw [s_mcp (by omega) c, bd_s, u1, bd_s, vl_e]
  have e2 : X11_judge r = some (v, sI r' 0 16 (r.1 0 16)) := by
    unfold X11_judge
    simp only [vl_e]
    rw [e', u2]
    unfold X11_judge_j62
    rw [vl_e]
  have q1 : ∀ k, k ≠ 16 → k ≠ 34 → k ≠ 40 → r'.1 0 k = r.1 0 k := fun k a b d => by rw [q.1 k a d, sI_n (by omega)]
  have q2 : ∀ o k, 1 ≤ o → o ≠ 10 → o ≠ 11 → o ≠ 12 → o ≠ 20 → o ≠ 21 → o ≠ 22 → r'.1 o k = r.1 o k := fun o k h1 h2 h3 h4 h5 h6 h7 => by rw [q.2.1 o k h1 h2 h3 h4 h5 h6 h7, sI_n (by omega)]
  refine SimE.mk' e1 e2 rfl (inv_g I ⟨S, G, N, T, MR_k M (fun o k h1 h2 => ?_) (fun o h1 h2 => p.2.1 o (by omega)) ⟨fun k h1 h2 => ?_, fun o k h1 h2 _ => ?_, fun t ht => ⟨?_, ?_⟩⟩⟩ ⟨L, l1, ?_, ?_, fun k hk => ?_⟩ ⟨0, by omega, sI_y, ?_, fun k hk => absurd hk (by omega)⟩ ⟨?_, fun k => ?_, fun o k h1 h2 => ?_, fun o h1 h2 => p.2.1 o (by omega), fun o h1 h2 => p.2.2 o h1 h2⟩ ⟨?_, fun k => ?_, fun k _ => ?_⟩)
  · rw [sI_n (by omega)]; exact p.1 o k (by omega) (by omega)
  · by_cases y : k = 16
    · rw [y, sI_y]
    · rw [sI_n (by omega)]; exact q1 k (by omega) (by omega) (by omega)
  · rw [sI_n (by omega)]; exact q2 o k (by omega) (by omega) (by omega) (by omega) (by omega) (by omega) (by omega)
  · rw [sI_n (by omega), (q.2.2 t ht).1, sI_n (by omega)]
  · rw [sI_n (by omega), (q.2.2 t ht).2, sI_n (by omega)]
  · rw [sI_n (by omega), p.1 0 6 (by omega) (by omega)]; exact l2
  · rw [sI_n (by omega), q1 21 (by omega) (by omega) (by omega)]; exact l3
  · rw [sI_n (by omega), sI_n (by omega), p.1 2 k (by omega) (by omega), q2 13 k (by omega) (by omega) (by omega) (by omega) (by omega) (by omega) (by omega)]; exact l4 k hk
  · rw [sI_n (by omega), q.1 34 (by omega) (by omega), sI_y]; rfl
  · rw [sI_n (by omega)]; exact p.1 0 4 (by omega) (by omega)
  · rw [sI_n (by omega)]; exact p.1 4 k (by omega) (by omega)
  · rw [sI_n (by omega)]; exact p.1 o k (by omega) (by omega)
  · rw [sI_n (by omega)]; exact q1 25 (by omega) (by omega) (by omega)
  · rw [sI_n (by omega)]; exact q2 1 k (by omega) (by omega) (by omega) (by omega) (by omega) (by omega) (by omega)
  · rw [sI_n (by omega)]; exact q2 17 k (by omega) (by omega) (by omega) (by omega) (by omega) (by omega) (by omega)
