/-! WHAT COMES, in mind and in place -/
def KR (r r' : AH) : Prop := (∀ k, ¬ (12 ≤ k ∧ k ≤ 16) → r'.1 0 k = r.1 0 k) ∧ ∀ o k, o = 1 ∨ (13 ≤ o ∧ o ≤ 19) ∨ 23 ≤ o → r'.1 o k = r.1 o k
theorem KR.rf {r : AH} : KR r r := ⟨fun _ _ => rfl, fun _ _ _ => rfl⟩
theorem KR.tr {r r' r2 : AH} (a : KR r r') (b : KR r' r2) : KR r r2 := ⟨fun k h => (b.1 k h).trans (a.1 k h), fun o k h => (b.2 o k h).trans (a.2 o k h)⟩
theorem KR.FT {r r' : AH} (f : FT r r') : KR r r' := ⟨fun k _ => f.1 0 k (by omega) (by omega) (by omega), fun o k h => f.1 o k (by omega) (by omega) (by omega)⟩
theorem KR.T {r r' : AH} (h1 : ∀ p q, p ≠ 10 → p ≠ 11 → p ≠ 12 → ¬ (p = 0 ∧ q = 16) → r'.1 p q = r.1 p q) : KR r r' := ⟨fun k h => h1 0 k (by omega) (by omega) (by omega) (by omega), fun o k h => h1 o k (by omega) (by omega) (by omega) (by omega)⟩
theorem KR.s {r : AH} {o k : Nat} {v : Int32} (h : (o = 0 ∧ 12 ≤ k ∧ k ≤ 16) ∨ (2 ≤ o ∧ o ≤ 9)) : KR r (sI r o k v) := ⟨fun k' h' => by rw [sI_n (by omega)], fun o' k' h' => by rw [sI_n (by omega)]⟩
theorem JC.s {c : AH} {o k : Nat} {v : Int32} (h : 52 ≤ o ∧ o < 62) : JC c (sI c o k v) := ⟨fun o' k' h' _ => by rw [sI_n (by omega)], fun _ _ => rfl, fun _ _ _ => rfl⟩
theorem JC.k {c : AH} {o v : Nat} (h : 52 ≤ o ∧ o < 62) : JC c (sK c o v) := ⟨fun o' k' h' _ => rfl, fun o' h' => by rw [sK_at, if_neg (by omega)], fun _ _ _ => rfl⟩
/-- both take it, or both refuse -/
def CO (c r : AH) (F G : Option (Int32 × AH)) : Prop := (∃ c' r' S G' N T, F = some (1, c') ∧ G = some (1, r') ∧ MR 52 c' r' S G' N T ∧ JC c c' ∧ KR r r') ∨ (∃ c' r', F = some (0, c') ∧ G = some (0, r') ∧ JC c c' ∧ KR r r')
section CM
variable {S G N T : Nat} {c r : AH}
theorem s_ct (M : MR 52 c r S G N T) {b off res : Int32} (hres : ∀ j, TA r N (min G N) T j → T < 3 * N + 3 * min G N → told (RJ r j) (r.1 0 14) b 0 = res ∧ (res = -9 ∨ res = -8 ∨ 0 ≤ res.toInt)) : CO c r (X10_tryComes b c) (X11_comesTry res off r) := by
  have hN := M.1.2.2.2.2.2.2.1
  obtain ⟨v, c1, r1, a1, a2, a3, a4, a5, M1⟩ := t_turn M (by omega)
  unfold X10_tryComes X11_comesTry
  rw [a1, bd_s, a2, bd_s]
  rcases a5 with ⟨o1, rfl⟩ | ⟨o1, o2, j, rfl, o3⟩
  · rw [if_neg (show ¬ (0 : Int32) ≤ -9 by decide), if_neg (show ¬ (0 : Int32) ≤ -9 by decide), cz_0, cz_0]
    exact Or.inr ⟨c1, r1, rfl, rfl, JC.FR a3, KR.FT a4⟩
  · have hj := o3.1
    obtain ⟨v2, r2, b1, b2, b3⟩ := m_turnR M1.1
    have ev : v2 = nI j := TV_u hN b3 (Or.inr ⟨o1, o2, j, rfl, o3⟩)
    subst ev
    have M2 : MR 52 c1 r2 S G N T := MR_r (RA.FT b2) M1
    have F2 : FT r r2 := a4.tr b2
    have hA2 : TA r2 N (min G N) T j := TA_c (RA.FT b2) (Nat.le_refl _) o3
    have hA0 : TA r N (min G N) T j := TA_c (RA.FT F2).sy (Nat.le_refl _) hA2
    obtain ⟨h1, h2⟩ := hres j hA0 o2
    have et : told (RJ r2 j) (r2.1 0 14) b 0 = res := by
      rw [← h1]
      unfold told RJ
      rw [F2.1 0 14 (by omega) (by omega) (by omega), F2.1 _ j (by omega) (by omega) (by omega), F2.1 _ j (by omega) (by omega) (by omega), F2.1 _ j (by omega) (by omega) (by omega)]
    obtain ⟨c4, r4, g1, g2, M4, g3, g4, g5, g6, g7, g8, g9⟩ := m_try (off := off) (b := b) (loss := 0) M2 (Or.inr (Or.inl rfl)) o2 hA2 (by rw [et]; exact h2)
    rw [et] at g2
    rw [if_pos (nI_pos' (by omega)), if_pos (nI_pos' (by omega)), g1, bd_s, cz_1, b1, bd_s, g2, bd_s, cz_1]
    exact Or.inl ⟨c4, r4, S, G, N, T + 1, rfl, rfl, M4, (JC.FR a3).tr (JC.T g3 g5), (KR.FT F2).tr (KR.T g6)⟩
theorem CO.pre {r0 : AH} {F H : Option (Int32 × AH)} (h : CO c r F H) (k : KR r0 r) : CO c r0 F H := by
  rcases h with ⟨c', r', S, G', N, T, h1, h2, h3, h4, h5⟩ | ⟨c', r', h1, h2, h4, h5⟩
  · exact Or.inl ⟨c', r', S, G', N, T, h1, h2, h3, h4, k.tr h5⟩
  · exact Or.inr ⟨c', r', h1, h2, h4, k.tr h5⟩
theorem CO.cz {F H : Option (Int32 × AH)} (h : CO c r F H) : CO c r (bd F fun a h => cz a (some (a, h))) (bd H fun a h => cz a (some (a, h))) := by
  rcases h with ⟨c', r', S, G', N, T, h1, h2, h3, h4, h5⟩ | ⟨c', r', h1, h2, h4, h5⟩
  · rw [h1, h2, bd_s, bd_s, cz_1, cz_1]
    exact Or.inl ⟨c', r', S, G', N, T, rfl, rfl, h3, h4, h5⟩
  · rw [h1, h2, bd_s, bd_s, cz_0, cz_0]
    exact Or.inr ⟨c', r', rfl, rfl, h4, h5⟩
/-- a try of LENGTH from b -/
theorem s_tt (M : MR 52 c r S G N T) {b : Nat} (hb : b < 1000) : CO c r (X10_tryComes (nI b) c) (bd (X11_turnNow r) fun r18 h19 => if 0 ≤ r18 then bd (X11_turnNow h19) fun r20 h21 => bd (X11_lengthOf r20 (nI b) 0 h21) fun r22 h23 => X11_comes_j194 (nI b) r22 h23 else X11_comes_j194 (nI b) 0 h19) := by
  have hN := M.1.2.2.2.2.2.2.1
  obtain ⟨v, r1, a1, a2, a3⟩ := m_turnR M.1
  have M1 : MR 52 c r1 S G N T := MR_r (RA.FT a2) M
  have a3 := TV_c (RA.FT a2) a3
  have j194 : ∀ (x : Int32) (g : AH), X11_comes_j194 (nI b) x g = bd (X11_comesTry x (nI b) g) fun a h => cz a (some (a, h)) := fun _ _ => rfl
  have wr : ∀ {r0 : AH} {F H : Option (Int32 × AH)}, CO c r0 F H → CO c r0 F (bd H fun a h => cz a (some (a, h))) := by
    intro r0 F H h
    rcases h with ⟨c', r', S, G', N, T, h1, h2, h3, h4, h5⟩ | ⟨c', r', h1, h2, h4, h5⟩
    · rw [h2, bd_s, cz_1]
      exact Or.inl ⟨c', r', S, G', N, T, h1, rfl, h3, h4, h5⟩
    · rw [h2, bd_s, cz_0]
      exact Or.inr ⟨c', r', h1, rfl, h4, h5⟩
  rw [a1, bd_s]
  rcases a3 with ⟨o1, rfl⟩ | ⟨o1, o2, j, rfl, o3⟩
  · rw [if_neg (show ¬ (0 : Int32) ≤ -9 by decide), j194]
    refine (wr (s_ct M1 (fun j hA hT => ?_))).pre (KR.FT a2)
    have := hA.1
    omega
  · have hj := o3.1
    have hj4 : j < 4 := by omega
    obtain ⟨v2, r2, b1, b2, b3⟩ := m_turnR M1.1
    have ev : v2 = nI j := TV_u hN b3 (Or.inr ⟨o1, o2, j, rfl, o3⟩)
    subst ev
    have M2 : MR 52 c r2 S G N T := MR_r (RA.FT b2) M1
    have hA2 : TA r2 N (min G N) T j := TA_c (RA.FT b2) (Nat.le_refl _) o3
    rw [if_pos (nI_pos' (by omega)), b1, bd_s, s_lenR hj4, bd_s, j194]
    refine (wr (s_ct M2 (fun i hA hT => ?_))).pre ((KR.FT a2).tr (KR.FT b2))
    have ei := TA_u hN hA hA2
    subst ei
    have nn := told_nn (r := r2) (j := i) (b := nI b) (loss := 0) (M2.1.2.2.2.2.2.2.2.2.2.1 i hj4) M2.1.2.2.2.2.2.2.2.2.1 (by rw [toInt_nI (by omega)]; omega) (by rw [toInt_nI (by omega)]; omega) (by decide) (by decide)
    have et : told (RJ r2 i) (r2.1 0 14) (nI b) 0 = lenS (r2.1 2 i) (r2.1 3 i) (r2.1 7 i) (r2.1 0 14) (nI b) 0 := by
      unfold told
      rw [if_pos (nI_pos' (by omega))]
      rfl
    rw [et] at nn
    exact ⟨et, Or.inr (Or.inr nn)⟩
/-- STRIDES, GO ON, WIND come -/
theorem s_cn (M : MR 52 c r S G N T) {v : Nat} (hv : v < 1000) : CO c r (X10_stridesCome (nI v) c) (vl (sI r 0 12 (nI v)) fun h14 => bd (X11_isIn (nI v) 4 20 h14) fun r15 h16 => if r15 = 0 then cz 0 (some (0, h16)) else if h16.1 0 16 = 0 then cz 1 (some (1, h16)) else cz 0 (some (0, h16))) := by
  obtain ⟨rS, rG, rN, rT, hS, hG, hN, hT, hWW, hJ, hH⟩ := id M.1
  have kr : KR r (sI r 0 12 (nI v)) := KR.s (Or.inl (by omega))
  have r16 : (sI r 0 12 (nI v)).1 0 16 = nI T := by rw [sI_n (by omega)]; exact rT
  unfold X10_stridesCome X10_stridesCome_j24 X10_stridesCome_j25
  show CO c r _ (bd (X11_isIn (nI v) 4 20 (sI r 0 12 (nI v))) fun r15 h16 => if r15 = 0 then cz 0 (some (0, h16)) else if h16.1 0 16 = 0 then cz 1 (some (1, h16)) else cz 0 (some (0, h16)))
  rw [s_isIn, bd_s, M.2.1.2.2.2.2, s_outside, bd_s, r16]
  have t4 : (4 : Int32).toInt = 4 := rfl
  have t20 : (20 : Int32).toInt = 20 := rfl
  by_cases z : T = 0
  · subst z
    rw [if_pos (show nI 0 = 0 from rfl), if_pos (show nI 0 = 0 from rfl)]
    by_cases h1 : nI v < 4
    · rw [if_pos h1, if_pos (Or.inl h1), i_4, i_0, i_0, cz_0, cz_0]
      exact Or.inr ⟨c, _, rfl, rfl, JC.rf, kr⟩
    · by_cases h2 : 20 < nI v
      · rw [if_neg h1, if_pos h2, if_pos (Or.inr h2), i_6, i_0, i_0, cz_0, cz_0]
        exact Or.inr ⟨c, _, rfl, rfl, JC.rf, kr⟩
      · have h12 : ¬ (nI v < 4 ∨ 20 < nI v) := fun h => h.elim h1 h2
        rw [if_neg h1, if_neg h2, if_neg h12, i_0, i_10, i_10, vl_e, cz_1, cz_1]
        rw [fa_lt, toInt_nI (by omega)] at h1 h2
        refine Or.inl ⟨_, _, v, G, N, 0, rfl, rfl, MR_0 M (Nat.le_refl 0) (Or.inl rfl) ⟨by omega, by omega⟩ hG ?_ sI_y ?_ ?_ ?_ ?_ (fun p k hp => by rw [sI_n (by omega)]) rfl sI_y ?_ ?_ ?_ (fun p k hp => by rw [sI_n (by omega)]), JC.s (by omega), kr⟩
        · rw [sI_n (by omega)]; exact hWW
        · rw [sI_n (by omega), sI_n (by omega)]; exact M.2.1.2.1
        · rw [sI_n (by omega)]; exact M.2.1.2.2.1
        · rw [sI_n (by omega)]
        · rw [sI_n (by omega)]; exact M.2.1.2.2.2.2
        · rw [sI_n (by omega)]; exact rG
        · rw [sI_n (by omega)]
        · rw [sI_n (by omega)]; exact rT
  · rw [if_neg (nI_ne0 (by omega) (by omega)), if_neg (nI_ne0 (by omega) (by omega)), i_0, cz_0, cz_0]
    have e : ∀ (P : Prop) [Decidable P] (x : Option (Int32 × AH)), (if P then x else x) = x := fun P _ x => by split <;> rfl
    rw [e]
    exact Or.inr ⟨c, _, rfl, rfl, JC.rf, kr⟩
theorem s_cg (M : MR 52 c r S G N T) {v : Nat} (hv : v < 1000) : CO c r (X10_goOnComes (nI v) c) (vl (sI r 0 13 (nI v)) fun h14 => bd (X11_isIn (nI v) 1 4 h14) fun r15 h16 => if r15 = 0 then cz 0 (some (0, h16)) else if h16.1 0 16 = 0 then cz 1 (some (1, h16)) else cz 0 (some (0, h16))) := by
  obtain ⟨rS, rG, rN, rT, hS, hG, hN, hT, hWW, hJ, hH⟩ := id M.1
  have kr : KR r (sI r 0 13 (nI v)) := KR.s (Or.inl (by omega))
  have r16 : (sI r 0 13 (nI v)).1 0 16 = nI T := by rw [sI_n (by omega)]; exact rT
  unfold X10_goOnComes X10_goOnComes_j23 X10_goOnComes_j24
  show CO c r _ (bd (X11_isIn (nI v) 1 4 (sI r 0 13 (nI v))) fun r15 h16 => if r15 = 0 then cz 0 (some (0, h16)) else if h16.1 0 16 = 0 then cz 1 (some (1, h16)) else cz 0 (some (0, h16)))
  rw [s_isIn, bd_s, M.2.1.2.2.2.2, s_outside, bd_s, r16]
  have t4 : (4 : Int32).toInt = 4 := rfl
  have t1 : (1 : Int32).toInt = 1 := rfl
  by_cases z : T = 0
  · subst z
    rw [if_pos (show nI 0 = 0 from rfl), if_pos (show nI 0 = 0 from rfl)]
    by_cases h1 : nI v < 1
    · rw [if_pos h1, if_pos (Or.inl h1), i_4, i_0, i_0, cz_0, cz_0]
      exact Or.inr ⟨c, _, rfl, rfl, JC.rf, kr⟩
    · by_cases h2 : 4 < nI v
      · rw [if_neg h1, if_pos h2, if_pos (Or.inr h2), i_6, i_0, i_0, cz_0, cz_0]
        exact Or.inr ⟨c, _, rfl, rfl, JC.rf, kr⟩
      · have h12 : ¬ (nI v < 1 ∨ 4 < nI v) := fun h => h.elim h1 h2
        rw [if_neg h1, if_neg h2, if_neg h12, i_0, i_10, i_10, vl_e, cz_1, cz_1]
        rw [fa_lt, toInt_nI (by omega)] at h1 h2
        refine Or.inl ⟨_, _, S, v, N, 0, rfl, rfl, MR_0 M (Nat.le_refl 0) (Or.inr rfl) hS ⟨by omega, by omega⟩ ?_ ?_ ?_ sI_y ?_ ?_ (fun p k hp => by rw [sI_n (by omega)]) rfl ?_ sI_y ?_ ?_ (fun p k hp => by rw [sI_n (by omega)]), JC.s (by omega), kr⟩
        · rw [sI_n (by omega)]; exact hWW
        · rw [sI_n (by omega)]; exact M.2.1.1
        · rw [sI_n (by omega), sI_n (by omega)]; exact M.2.1.2.1
        · rw [sI_n (by omega)]
        · rw [sI_n (by omega)]; exact M.2.1.2.2.2.2
        · rw [sI_n (by omega)]; exact rS
        · rw [sI_n (by omega)]
        · rw [sI_n (by omega)]; exact rT
  · rw [if_neg (nI_ne0 (by omega) (by omega)), if_neg (nI_ne0 (by omega) (by omega)), i_0, cz_0, cz_0]
    have e : ∀ (P : Prop) [Decidable P] (x : Option (Int32 × AH)), (if P then x else x) = x := fun P _ x => by split <;> rfl
    rw [e]
    exact Or.inr ⟨c, _, rfl, rfl, JC.rf, kr⟩
theorem s_cw (M : MR 52 c r S G N T) {x : Int32} (hx : WW x) : CO c r (vl (sI c 52 1 x) fun h1 => cz 1 (some (1, h1))) (vl (sI r 0 14 x) fun h27 => cz 1 (some (1, h27))) := by
  obtain ⟨rS, rG, rN, rT, hS, hG, hN, hT, hWW, hJ, hH⟩ := id M.1
  rw [vl_e, vl_e, cz_1, cz_1]
  refine Or.inl ⟨_, _, S, G, N, T, rfl, rfl, MR_0 M (Nat.le_refl T) (Or.inl rfl) hS hG ?_ ?_ ?_ ?_ ?_ ?_ (fun p k hp => by rw [sI_n (by omega)]) rfl ?_ ?_ ?_ ?_ (fun p k hp => by rw [sI_n (by omega)]), JC.s (by omega), KR.s (Or.inl (by omega))⟩
  · rw [sI_y]; exact hx
  · rw [sI_n (by omega)]; exact M.2.1.1
  · rw [sI_y, sI_y]
  · rw [sI_n (by omega)]; exact M.2.1.2.2.1
  · rw [sI_n (by omega)]
  · rw [sI_n (by omega)]; exact M.2.1.2.2.2.2
  · rw [sI_n (by omega)]; exact rS
  · rw [sI_n (by omega)]; exact rG
  · rw [sI_n (by omega)]
  · rw [sI_n (by omega)]; exact rT
end CM
