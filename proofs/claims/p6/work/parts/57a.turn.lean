/-! TURNS, ROUNDS, leaders on both sides -/
def TV (r : AH) (N F T : Nat) (v : Int32) : Prop := ((N = 0 ∨ 3 * N + 3 * F ≤ T) ∧ v = -9) ∨ (N ≠ 0 ∧ T < 3 * N + 3 * F ∧ ∃ j, v = nI j ∧ TA r N F T j)
theorem TA_u {r : AH} {N F T i j : Nat} (hN : N ≤ 4) (h1 : TA r N F T i) (h2 : TA r N F T j) : i = j := by
  obtain ⟨a1, a2⟩ := h1
  obtain ⟨b1, b2⟩ := h2
  rcases a2 with a2 | a2
  · rcases b2 with b2 | b2
    · rw [a2.2, b2.2]
    · omega
  · rcases b2 with b2 | b2
    · omega
    · exact rk_inj hN a1 b1 (BR_p r _) (by rw [a2.2, b2.2])
theorem TV_u {r : AH} {N F T : Nat} {v v' : Int32} (hN : N ≤ 4) (h1 : TV r N F T v) (h2 : TV r N F T v') : v = v' := by
  rcases h1 with ⟨a, rfl⟩ | ⟨a1, a2, i, rfl, a3⟩
  · rcases h2 with ⟨b, rfl⟩ | ⟨b1, b2, j, rfl, b3⟩
    · rfl
    · omega
  · rcases h2 with ⟨b, rfl⟩ | ⟨b1, b2, j, rfl, b3⟩
    · omega
    · rw [TA_u hN a3 b3]
theorem TV_c {r r' : AH} {N F T : Nat} {v : Int32} (a : RA T r r') (h : TV r N F T v) : TV r' N F T v := by
  rcases h with h | ⟨h1, h2, j, h3, h4⟩
  · exact Or.inl h
  · exact Or.inr ⟨h1, h2, j, h3, TA_c a (Nat.le_refl T) h4⟩
theorem TV_nn {r : AH} {N F T : Nat} {v : Int32} (hN : N ≤ 4) (h : TV r N F T v) : (0 ≤ v ↔ ∃ j, j < N ∧ v = nI j) ∧ (¬ 0 ≤ v → v = -9) := by
  rcases h with ⟨_, rfl⟩ | ⟨_, _, j, rfl, h4⟩
  · refine ⟨⟨fun z => absurd z (by decide), fun ⟨j, hj, e⟩ => ?_⟩, fun _ => rfl⟩
    rw [e]
    exact nI_pos' (by omega)
  · have hj := h4.1
    exact ⟨⟨fun _ => ⟨j, hj, rfl⟩, fun _ => nI_pos' (by omega)⟩, fun z => absurd (nI_pos' (by omega)) z⟩
theorem rd_6 {N F T : Nat} (hN : N ≤ 4) (hF : N = 0 ∨ 1 ≤ F) (hF4 : F ≤ 4) (hT : T ≤ 3 * N + 3 * F) : (rd N F T = 6 ↔ N = 0 ∨ 3 * N + 3 * F ≤ T) ∧ rd N F T ≤ 6 := by
  unfold rd
  by_cases z : N = 0
  · rw [if_pos z]
    exact ⟨⟨fun _ => Or.inl z, fun _ => rfl⟩, Nat.le_refl 6⟩
  · rw [if_neg z]
    by_cases y : T < 3 * N
    · rw [if_pos y]
      have : T / N ≤ 2 := by
        rcases (by omega : N = 1 ∨ N = 2 ∨ N = 3 ∨ N = 4) with e | e | e | e <;> subst e <;> omega
      omega
    · rw [if_neg y]
      rcases (by omega : F = 1 ∨ F = 2 ∨ F = 3 ∨ F = 4) with e | e | e | e <;> subst e <;> omega
theorem md_lt {x F : Nat} (h : 1 ≤ F) : x % F < F := Nat.mod_lt _ (by omega)
section TU
variable {o S G N T : Nat} {c r : AH}
theorem F_b (h : RN r S G N T) : (N = 0 ∨ 1 ≤ min G N) ∧ min G N ≤ N ∧ min G N ≤ 4 := by
  have hN := h.2.2.2.2.2.2.1
  have hG := h.2.2.2.2.2.1
  omega
theorem m_turnC (M : MR o c r S G N T) (ho : 42 ≤ o) : ∃ v c', X5_inTurn o c = some (v, c') ∧ FR c c' ∧ TV r N (min G N) T v := by
  have hR := m_roundC M
  obtain ⟨h1, h2, h3, h4⟩ := id M
  have hN := h1.2.2.2.2.2.2.1
  have hT := h1.2.2.2.2.2.2.2.1
  have hG := h1.2.2.2.2.2.1
  have hF := F_b h1
  have hfin := s_finC (o := o) (c := c) h2.2.2.2.1 h2.2.2.1 hN hG.2
  obtain ⟨F, eF⟩ : ∃ F, F = min G N := ⟨_, rfl⟩
  rw [← eF] at hF hT hR hfin ⊢
  have hd := rd_6 hN hF.1 hF.2.2 hT
  unfold X5_inTurn
  rw [hfin, bd_s, hR, bd_s]
  by_cases z : rd N F T = 6
  · rw [z, if_pos (by rfl)]
    exact ⟨_, _, rfl, FR.rf, Or.inl ⟨hd.1.mp z, rfl⟩⟩
  · have z2 : ¬ (N = 0 ∨ 3 * N + 3 * F ≤ T) := fun y => z (hd.1.mpr y)
    have e3 : (3 : Int32) * nI N = nI (3 * N) := pk_mul 3 N
    rw [if_neg (show ¬ nI (rd N F T) = 6 from fun y => z ((nI_eq (b := 6) (by omega) (by decide)).mp y)), h2.2.2.2.1, if_neg (nI_nle (by omega) (by omega)), if_pos (show (0 : Int32) < nI F from nI_lt (a := 0) (by omega) (by omega)), h2.2.2.2.2, e3]
    by_cases y : T < 3 * N
    · rw [if_neg (nI_ge y (by omega)), if_neg (nI_ne0 (by omega) (by omega))]
      have er : rm32 (nI T) (nI N) = nI (T % N) := pk_rem (by omega) (by omega) (by omega)
      rw [er]
      exact ⟨_, _, rfl, FR.rf, Or.inr ⟨by omega, by omega, T % N, rfl, md_lt (by omega), Or.inl ⟨y, rfl⟩⟩⟩
    · rw [if_pos (nI_le (by omega) (by omega))]
      obtain ⟨c', a1, a2, a3, a4⟩ := m_rankC M ho (n := 3 * N) (by omega)
      rw [a1, bd_s, if_neg (nI_ne0 (by omega) (by omega)), a3.1 o 4 (by omega) (by omega) (by omega), a3.1 o 3 (by omega) (by omega) (by omega), h2.2.2.2.2, h2.2.2.2.1, e3, pk_sub (by omega)]
      have hm := md_lt (x := T - 3 * N) (F := F) (by omega)
      have er : rm32 (nI (T - 3 * N)) (nI F) = nI ((T - 3 * N) % F) := pk_rem (by omega) (by omega) (by omega)
      have e5 : nI F - 1 = nI (F - 1) := pk_sub (a := F) (b := 1) (by omega)
      rw [er, e5, pk_sub (by omega)]
      rw [Nat.min_eq_left (by omega : 3 * N ≤ T)] at a2
      obtain ⟨j, hj, ej⟩ := rk_onto (B := BR r (3 * N)) (p := F - 1 - (T - 3 * N) % F) hN (BR_p r _) (by omega)
      rw [s_at' hN hj ej (BR_p r _) a2 a4, bd_s]
      exact ⟨_, _, rfl, a3, Or.inr ⟨by omega, by omega, j, rfl, hj, Or.inr ⟨by omega, ej⟩⟩⟩
theorem m_turnR (h1 : RN r S G N T) : ∃ v r', X11_turnNow r = some (v, r') ∧ FT r r' ∧ TV r N (min G N) T v := by
  obtain ⟨r1, r2, r3, r4, hS, hG, hN, hT, hW, hJ, hH⟩ := id h1
  have hF := F_b h1
  have hfin := s_finR r3 r2 hN hG.2
  obtain ⟨F, eF⟩ : ∃ F, F = min G N := ⟨_, rfl⟩
  rw [← eF] at hF hT hfin ⊢
  unfold X11_turnNow
  rw [r3]
  by_cases z : N = 0
  · subst z
    rw [if_pos (by rfl)]
    exact ⟨_, _, rfl, FT.rf, Or.inl ⟨Or.inl rfl, rfl⟩⟩
  · have e3 : (3 : Int32) * nI N = nI (3 * N) := pk_mul 3 N
    have e3F : (3 : Int32) * nI F = nI (3 * F) := pk_mul 3 F
    rw [if_neg (nI_ne0 (by omega) (by omega)), hfin, bd_s, r4, r3, e3, e3F, nI_add]
    by_cases x : T < 3 * N + 3 * F
    · rw [if_pos (nI_lt x (by omega))]
      by_cases y : T < 3 * N
      · rw [if_neg (nI_ge y (by omega)), if_neg (nI_ne0 (by omega) (by omega))]
        have er : rm32 (nI T) (nI N) = nI (T % N) := pk_rem (by omega) (by omega) (by omega)
        rw [er]
        exact ⟨_, _, rfl, FT.rf, Or.inr ⟨by omega, by omega, T % N, rfl, md_lt (by omega), Or.inl ⟨y, rfl⟩⟩⟩
      · rw [if_pos (nI_le (by omega) (by omega))]
        obtain ⟨ra, a1, a2, a3⟩ := m_bestR h1 (n := 3 * N) (by omega)
        obtain ⟨rb, b1, b2, b3⟩ := m_sorts h1 (BR_p r (3 * N)) a2 (a3.1 0 15 (by decide) (by decide))
        have fb : FT r rb := (FT.B a3).tr (FT.O b2)
        have q15 : rb.1 0 15 = nI N := by rw [fb.1 0 15 (by decide) (by decide) (by decide)]; exact r3
        have q13 : rb.1 0 13 = nI G := by rw [fb.1 0 13 (by decide) (by decide) (by decide)]; exact r2
        have q16 : rb.1 0 16 = nI T := by rw [fb.1 0 16 (by decide) (by decide) (by decide)]; exact r4
        have hfb := s_finR q15 q13 hN hG.2
        rw [← eF] at hfb
        have hm := md_lt (x := T - 3 * N) (F := F) (by omega)
        have er : rm32 (nI (T - 3 * N)) (nI F) = nI ((T - 3 * N) % F) := pk_rem (by omega) (by omega) (by omega)
        have e5 : nI F - 1 = nI (F - 1) := pk_sub (a := F) (b := 1) (by omega)
        rw [a1, bd_s, b1, bd_s, hfb, bd_s, hfb, bd_s, if_neg (nI_ne0 (by omega) (by omega)), q16, q15, e3, pk_sub (by omega), er, e5, pk_sub (by omega), ck_nI _ (by omega) (by decide), nI_clamp (by omega)]
        obtain ⟨j, hj, ej⟩ := rk_onto (B := BR r (3 * N)) (p := F - 1 - (T - 3 * N) % F) hN (BR_p r _) (by omega)
        have e6 : rb.1 22 (F - 1 - (T - 3 * N) % F) = nI j := by rw [← ej]; exact b3 j hj
        rw [e6]
        exact ⟨_, _, rfl, fb, Or.inr ⟨by omega, by omega, j, rfl, hj, Or.inr ⟨by omega, ej⟩⟩⟩
    · rw [if_neg (nI_nlt (by omega) (by omega))]
      exact ⟨_, _, rfl, FT.rf, Or.inl ⟨Or.inr (by omega), rfl⟩⟩
theorem m_roundR (h1 : RN r S G N T) : ∃ r', X11_roundNow r = some (nI (rd N (min G N) T), r') ∧ FT r r' := by
  obtain ⟨v, r', a1, a2, a3⟩ := m_turnR h1
  obtain ⟨r1, r2, r3, r4, hS, hG, hN, hT, hW, hJ, hH⟩ := id h1
  have hF := F_b h1
  have q15 : r'.1 0 15 = nI N := by rw [a2.1 0 15 (by decide) (by decide) (by decide)]; exact r3
  have q13 : r'.1 0 13 = nI G := by rw [a2.1 0 13 (by decide) (by decide) (by decide)]; exact r2
  have q16 : r'.1 0 16 = nI T := by rw [a2.1 0 16 (by decide) (by decide) (by decide)]; exact r4
  have hfb := s_finR q15 q13 hN hG.2
  obtain ⟨F, eF⟩ : ∃ F, F = min G N := ⟨_, rfl⟩
  rw [← eF] at hF hT a3 hfb ⊢
  have hd := rd_6 hN hF.1 hF.2.2 hT
  unfold X11_roundNow
  rw [a1, bd_s]
  rcases a3 with ⟨b1, rfl⟩ | ⟨b1, b2, j, rfl, b3⟩
  · rw [if_neg (by decide), hd.1.mpr b1]
    exact ⟨_, rfl, a2⟩
  · have hj := b3.1
    have e3 : (3 : Int32) * nI N = nI (3 * N) := pk_mul 3 N
    rw [if_pos (nI_pos' (by omega)), q15, q16, e3]
    unfold rd
    rw [if_neg b1]
    by_cases y : T < 3 * N
    · rw [if_neg (nI_ge y (by omega)), if_neg (nI_ne0 (by omega) (by omega)), pk_div (by omega) (by omega) (by omega), if_pos y]
      exact ⟨_, rfl, a2⟩
    · rw [if_pos (nI_le (by omega) (by omega)), hfb, bd_s, if_neg (nI_ne0 (by omega) (by omega)), pk_sub (by omega), pk_div (by omega) (by omega) (by omega), if_neg y]
      have e4 : (3 : Int32) + nI ((T - 3 * N) / F) = nI (3 + (T - 3 * N) / F) := nI_add 3 _
      have e5 : min 6 (3 + (T - 3 * N) / F) = 3 + (T - 3 * N) / F := by
        rcases (by omega : F = 1 ∨ F = 2 ∨ F = 3 ∨ F = 4) with e | e | e | e <;> subst e <;> omega
      rw [e4, e5]
      exact ⟨_, rfl, a2⟩
/-- the first in RANK -/
def LV (r : AH) (N T : Nat) (v : Int32) : Prop := (N = 0 ∧ v = -9) ∨ ∃ j, j < N ∧ v = nI j ∧ rk (BR r T) N j = 0
theorem LV_u {v v' : Int32} (hN : N ≤ 4) (h1 : LV r N T v) (h2 : LV r N T v') : v = v' := by
  rcases h1 with ⟨a, rfl⟩ | ⟨i, a1, rfl, a3⟩
  · rcases h2 with ⟨b, rfl⟩ | ⟨j, b1, rfl, b3⟩
    · rfl
    · omega
  · rcases h2 with ⟨b, rfl⟩ | ⟨j, b1, rfl, b3⟩
    · omega
    · rw [rk_inj hN a1 b1 (BR_p r _) (by rw [a3, b3])]
theorem LV_c {r' : AH} {v : Int32} (a : RA T r r') (h : LV r N T v) : LV r' N T v := by
  rcases h with h | ⟨j, h1, h2, h3⟩
  · exact Or.inl h
  · exact Or.inr ⟨j, h1, h2, by rw [BR_c a (Nat.le_refl T)]; exact h3⟩
theorem m_leadC (M : MR o c r S G N T) (ho : 42 ≤ o) : ∃ v c', X5_leader o c = some (v, c') ∧ FR c c' ∧ LV r N T v := by
  obtain ⟨h1, h2, h3, h4⟩ := id M
  have hN := h1.2.2.2.2.2.2.1
  have hT := h1.2.2.2.2.2.2.2.1
  obtain ⟨c', a1, a2, a3, a4⟩ := m_rankC M ho (n := T) (by omega)
  unfold X5_leader
  rw [h2.2.2.2.2, a1, bd_s, a3.1 o 3 (by omega) (by omega) (by omega), h2.2.2.2.1]
  rw [Nat.min_self] at a2
  by_cases z : N = 0
  · subst z
    rw [if_pos (by rfl)]
    exact ⟨_, _, rfl, a3, Or.inl ⟨rfl, rfl⟩⟩
  · rw [if_neg (nI_ne0 (by omega) (by omega))]
    obtain ⟨j, hj, ej⟩ := rk_onto (B := BR r T) (p := 0) hN (BR_p r _) (by omega)
    have e : X6_at 0 c' = some (nI j, c') := s_at' hN hj ej (BR_p r _) a2 a4
    rw [e, bd_s]
    exact ⟨_, _, rfl, a3, Or.inr ⟨j, hj, rfl, ej⟩⟩
theorem m_ranksR (h1 : RN r S G N T) : ∃ r', X11_ranksNow r = some ((), r') ∧ FT r r' ∧ ∀ j, j < N → r'.1 22 (rk (BR r T) N j) = nI j := by
  obtain ⟨ra, a1, a2, a3⟩ := m_bestR h1 (Nat.le_refl T)
  obtain ⟨rb, b1, b2, b3⟩ := m_sorts h1 (BR_p r T) a2 (a3.1 0 15 (by decide) (by decide))
  refine ⟨rb, ?_, (FT.B a3).tr (FT.O b2), b3⟩
  unfold X11_ranksNow
  rw [h1.2.2.2.1, a1, bd_s, b1, bd_s]
theorem m_leadR (h1 : RN r S G N T) : ∃ v r', X11_leader r = some (v, r') ∧ FT r r' ∧ LV r N T v := by
  have hN := h1.2.2.2.2.2.2.1
  unfold X11_leader
  rw [h1.2.2.1]
  by_cases z : N = 0
  · subst z
    rw [if_pos (by rfl)]
    exact ⟨_, _, rfl, FT.rf, Or.inl ⟨rfl, rfl⟩⟩
  · obtain ⟨r', a1, a2, a3⟩ := m_ranksR h1
    rw [if_neg (nI_ne0 (by omega) (by omega)), a1, bd_s, k_0 _ (by decide)]
    obtain ⟨j, hj, ej⟩ := rk_onto (B := BR r T) (p := 0) hN (BR_p r _) (by omega)
    have e : r'.1 22 (0 : Int32).toNatClampNeg = nI j := by
      show r'.1 22 0 = nI j
      rw [← ej]
      exact a3 j hj
    rw [e]
    exact ⟨_, _, rfl, a2, Or.inr ⟨j, hj, rfl, ej⟩⟩
end TU
