/-! ONE STATEMENT COMES, on both sides -/
section MJ
variable {S G N T : Nat} {c r : AH}
theorem MR_J (M : MR 52 c r S G N 0) (hN : N < 4) {v : Nat → Int32} {κ : Nat} (hκ : κ < 6) (hk : v 0 = nI κ) (hJ : NJ (fun k => v (k - 1))) : MR 52 (jC c (58 + N) N κ v) (jR r N v) S G (N + 1) 0 := by
  obtain ⟨⟨r1, r2, r3, r4, hS, hG, hN', hT', hW, hJ4, hH⟩, h2, h3, h4⟩ := M
  have eR : ∀ i, i < 4 → ∀ k, 1 ≤ k → k ≤ 8 → RJ (jR r N v) i k = if i = N then v (k - 1) else RJ r i k := by
    intro i hi k k1 k2
    show (jR r N v).1 (k + 1) i = if i = N then v (k - 1) else r.1 (k + 1) i
    rw [jR_at, if_neg (by omega)]
    by_cases y : i = N
    · subst y
      rw [if_pos rfl]
      rcases (by omega : k = 1 ∨ k = 2 ∨ k = 3 ∨ k = 4 ∨ k = 5 ∨ k = 6 ∨ k = 7 ∨ k = 8) with d | d | d | d | d | d | d | d <;> subst d <;> simp
    · rw [if_neg y, if_neg (by omega), if_neg (by omega), if_neg (by omega), if_neg (by omega), if_neg (by omega), if_neg (by omega), if_neg (by omega), if_neg (by omega)]
  have eC : ∀ i, i < 4 → ∀ k, 1 ≤ k → k ≤ 8 → (jC c (58 + N) N κ v).1 (52 + 6 + i) k = if i = N then v (k - 1) else c.1 (52 + 6 + i) k := by
    intro i hi k k1 k2
    rw [jC_at, if_neg (by omega)]
    by_cases y : i = N
    · subst y
      rw [if_pos rfl]
      rcases (by omega : k = 1 ∨ k = 2 ∨ k = 3 ∨ k = 4 ∨ k = 5 ∨ k = 6 ∨ k = 7 ∨ k = 8) with d | d | d | d | d | d | d | d <;> subst d <;> simp
    · rw [if_neg y, if_neg (by omega), if_neg (by omega), if_neg (by omega), if_neg (by omega), if_neg (by omega), if_neg (by omega), if_neg (by omega), if_neg (by omega)]
  have cr : ∀ k, 10 < k ∧ k < 15 ∨ k = 16 → (jR r N v).1 0 k = r.1 0 k := fun k hk => by rw [jR_at, if_neg (by omega), if_neg (by omega), if_neg (by omega), if_neg (by omega), if_neg (by omega), if_neg (by omega), if_neg (by omega), if_neg (by omega), if_neg (by omega)]
  have cc : ∀ k, k < 5 → k ≠ 3 → (jC c (58 + N) N κ v).1 52 k = c.1 52 k := fun k h1 h2 => by rw [jC_at, if_neg (by omega), if_neg (by omega), if_neg (by omega), if_neg (by omega), if_neg (by omega), if_neg (by omega), if_neg (by omega), if_neg (by omega), if_neg (by omega)]
  refine ⟨⟨by rw [cr 12 (by omega)]; exact r1, by rw [cr 13 (by omega)]; exact r2, by rw [jR_at, if_pos ⟨rfl, rfl⟩], by rw [cr 16 (by omega)]; exact r4, hS, hG, by omega, by omega, by rw [cr 14 (by omega)]; exact hW, fun i hi => ?_, fun t ht => absurd ht (by omega)⟩, ⟨by rw [cc 0 (by omega) (by omega)]; exact h2.1, by rw [cc 1 (by omega) (by omega), cr 14 (by omega)]; exact h2.2.1, by rw [cc 2 (by omega) (by omega)]; exact h2.2.2.1, by rw [jC_at, if_pos ⟨rfl, rfl⟩], by rw [cc 4 (by omega) (by omega)]; exact h2.2.2.2.2⟩, fun i hi => ⟨fun k k1 k2 => ?_, ?_⟩, fun t ht => absurd ht (by omega)⟩
  · by_cases y : i = N
    · refine NJ_J (fun k k1 k2 => ?_) hJ
      rw [eR i hi k k1 k2, if_pos y]
    · refine NJ_J (fun k k1 k2 => ?_) (hJ4 i hi)
      rw [eR i hi k k1 k2, if_neg y]
  · rw [eC i hi k k1 k2, eR i hi k k1 k2]
    by_cases y : i = N
    · rw [if_pos y, if_pos y]
    · rw [if_neg y, if_neg y]
      exact (h3 i hi).1 k k1 k2
  · by_cases y : i = N
    · refine ⟨κ, hκ, ?_, ?_⟩
      · show (if 52 + 6 + i = 58 + N then κ else c.2.2 (52 + 6 + i)) = κ
        rw [if_pos (by omega)]
      · rw [eC i hi 1 (by omega) (by omega), if_pos y]
        exact hk
    · obtain ⟨κ', x, y', w⟩ := (h3 i hi).2
      refine ⟨κ', x, ?_, ?_⟩
      · show (if 52 + 6 + i = 58 + N then κ else c.2.2 (52 + 6 + i)) = κ'
        rw [if_neg (by omega)]
        exact y'
      · rw [eC i hi 1 (by omega) (by omega), if_neg y]
        exact w
theorem s_comes (M : MR 52 c r S G N T) {l : Nat → Int32} {L : Nat} (hL : L ≤ 96) (e : c.1 0 6 = nI L) (hl : ∀ k, k < L → c.1 2 k = l k) {q k : Nat} (hk : k < 48) (hq : q < L) (ok : okL (l q)) (h14 : r.1 14 k = l q) (hD : DG l L (q + 1 + sg (l q)) (dn (l q))) (hend : q + sp (l q) ≤ L) (hTN : TN l r (8 * k) q (l q)) : CO c r (X10_comes (nI q) c) (X11_comes (nI k) r) := by
  have hT24 := T24' M
  have hN4 := M.1.2.2.2.2.2.2.1
  have e8 : (8 : Int32) * nI k = nI (8 * k) := pk_mul 8 k
  have g1 : nI q + 1 = nI (q + 1) := nI_1 q
  have g2 : nI q + 2 = nI (q + 2) := nI_add q 2
  unfold X10_comes X11_comes
  rw [ck_nI _ (by omega) (by decide), nI_clamp (by omega), hl q hq, vl_e, vl_e, e8, ck_nI _ (by omega) (by decide), vl_e, ck_nI _ (by omega) (by decide), vl_e, nI_clamp (by omega), nI_clamp (by omega), h14]
  obtain ⟨tg, tn, tj, tw⟩ := hTN
  rcases ok with h | h | h | h | h | h | h
  · -- n
    rw [h] at hD hend tn ⊢
    have D2 : DG l L (q + 1) 2 := hD
    obtain ⟨x, hx, ex⟩ := num_b 2 (by decide) D2
    have nm := s_numC (l := l) hL e hl (p := q + 1) (n := 2) (by have : sp 110 = 4 := by decide
                                                                 omega)
    have nm : X10_number (nI (q + 1)) 2 c = _ := nm
    have t := tn (Or.inl rfl)
    rw [ex] at t nm
    have H := (s_cn M (v := x) (by omega)).cz
    rw [t]
    simp only [show ((110 : Int32) = 102) = False from eq_false (by decide), show ((110 : Int32) = 103) = False from eq_false (by decide), show ((110 : Int32) = 106) = False from eq_false (by decide), if_false, if_true, g1, nm, bd_s]
    rcases s_cn M (v := x) (by omega) with ⟨c', r', S, G', N, T, h1, h2, h3, h4, h5⟩ | ⟨c', r', h1, h2, h4, h5⟩
    · rw [h1, bd_s, cz_1]
      exact Or.inl ⟨c', r', S, G', N, T, rfl, h2, h3, h4, h5⟩
    · rw [h1, bd_s, cz_0]
      exact Or.inr ⟨c', r', rfl, h2, h4, h5⟩
  · -- w
    rw [h] at hD hend tw ⊢
    have D1 : DG l L (q + 2) 1 := hD
    obtain ⟨x, hx, ex⟩ := num_b 1 (by decide) D1
    have nm := s_numC (l := l) hL e hl (p := q + 2) (n := 1) (by have : sp 119 = 4 := by decide
                                                                 omega)
    have nm : X10_number (nI (q + 2)) 1 c = _ := nm
    rw [ex] at nm
    have hq1 : q + 1 < L := by have : sp 119 = 4 := by decide
                               omega
    have mi : X10_isMinus (nI (q + 1)) c = some (if l (q + 1) = 45 then 1 else 0, c) := by
      unfold X10_isMinus
      rw [e, if_neg (nI_ge hq1 (by omega)), ck_nI _ (by omega) (by decide), nI_clamp (by omega), hl _ hq1]
      split
      · rw [cz_1]
      · rw [cz_0]
    simp only [show ((119 : Int32) = 102) = False from eq_false (by decide), show ((119 : Int32) = 103) = False from eq_false (by decide), show ((119 : Int32) = 106) = False from eq_false (by decide), show ((119 : Int32) = 110) = False from eq_false (by decide), show ((119 : Int32) = 112) = False from eq_false (by decide), show ((119 : Int32) = 116) = False from eq_false (by decide), if_false, if_true, g1, g2, mi, nm, bd_s]
    unfold X10_windComes X10_windComes_j14
    have tx : (nI x).toInt = x := toInt_nI (by omega)
    have nx : (-nI x).toInt = -(x : Int) := by rw [fb_negI (by rw [tx]; omega), tx]
    have w : ∀ y : Int32, WW y → r.1 16 (8 * k) = y → CO c r (bd (vl (sI c 52 1 y) fun h1 => cz 1 (some (1, h1))) fun a h => cz a (some (a, h))) (vl (sI r 0 14 (r.1 16 (8 * k))) fun h27 => cz 1 (some (1, h27))) := by
      intro y hy ey
      rw [ey]
      rcases s_cw M hy with ⟨c', r', S, G', N, T, h1, h2, h3, h4, h5⟩ | ⟨c', r', h1, h2, h4, h5⟩
      · rw [h1, bd_s, cz_1]
        exact Or.inl ⟨c', r', S, G', N, T, rfl, h2, h3, h4, h5⟩
      · rw [h1, bd_s, cz_0]
        exact Or.inr ⟨c', r', rfl, h2, h4, h5⟩
    rcases tw rfl with ⟨a1, a2⟩ | ⟨a1, a2, a3⟩
    · rw [if_neg (show ¬ l (q + 1) = 45 by rw [a1]; decide), if_pos rfl]
      exact w (nI x) (ww_of (by omega) (by omega)) (by rw [a2, ex, Int32.mul_one])
    · rw [if_pos a2, if_neg (by decide)]
      exact w (-nI x) (ww_of (by omega) (by omega)) (by rw [a3, ex, Int32.mul_neg, Int32.mul_one])
  · -- g
    rw [h] at hD hend tg ⊢
    have D2 : DG l L (q + 1) 1 := hD
    obtain ⟨x, hx, ex⟩ := num_b 1 (by decide) D2
    have nm := s_numC (l := l) hL e hl (p := q + 1) (n := 1) (by have : sp 103 = 3 := by decide
                                                                 omega)
    have nm : X10_number (nI (q + 1)) 1 c = _ := nm
    have t := tg rfl
    rw [ex] at t nm
    rw [t]
    simp only [show ((103 : Int32) = 102) = False from eq_false (by decide), if_false, if_true, g1, nm, bd_s]
    rcases s_cg M (v := x) (by omega) with ⟨c', r', S, G', N, T, h1, h2, h3, h4, h5⟩ | ⟨c', r', h1, h2, h4, h5⟩
    · rw [h1, bd_s, cz_1]
      exact Or.inl ⟨c', r', S, G', N, T, rfl, h2, h3, h4, h5⟩
    · rw [h1, bd_s, cz_0]
      exact Or.inr ⟨c', r', rfl, h2, h4, h5⟩
  · -- j
    rw [h] at hD hend tj ⊢
    have D13 : DG l L (q + 1) 13 := hD
    obtain ⟨t0, t1, t2, t3, t4, t5, t6, t7⟩ := tj rfl
    have es : sp 106 = 15 := by decide
    have hq14 : q + 14 ≤ L := by omega
    obtain ⟨κ, x0, y0⟩ := num_b 1 (by decide) (D13.sub (m := 1) (by decide))
    obtain ⟨b1, x1, y1⟩ := num_b 1 (by decide) (D13.at (k := 1) (m := 1) (by decide))
    obtain ⟨b2, x2, y2⟩ := num_b 2 (by decide) (D13.at (k := 2) (m := 2) (by decide))
    obtain ⟨b3, x3, y3⟩ := num_b 1 (by decide) (D13.at (k := 4) (m := 1) (by decide))
    obtain ⟨b4, x4, y4⟩ := num_b 1 (by decide) (D13.at (k := 5) (m := 1) (by decide))
    obtain ⟨b5, x5, y5⟩ := num_b 2 (by decide) (D13.at (k := 6) (m := 2) (by decide))
    obtain ⟨b6, x6, y6⟩ := num_b 1 (by decide) (D13.at (k := 8) (m := 1) (by decide))
    obtain ⟨b7, x7, y7⟩ := num_b 4 (by decide) (D13.at (k := 9) (m := 4) (by decide))
    simp only [show ((106 : Int32) = 102) = False from eq_false (by decide), show ((106 : Int32) = 103) = False from eq_false (by decide), if_false, if_true]
    obtain ⟨v, ev⟩ : ∃ v : Nat → Int32, v = fun i => r.1 16 (8 * k + i) := ⟨_, rfl⟩
    have hv : ∀ i, i < 8 → r.1 16 (8 * k + i) = v i := fun i _ => by rw [ev]
    have w0 : v 0 = nI κ := by rw [← hv 0 (by omega), t0]; exact y0
    have w1 : v 1 = nI b1 := by rw [← hv 1 (by omega), t1]; exact y1
    have w2 : v 2 = nI b2 := by rw [← hv 2 (by omega), t2]; exact y2
    have w3 : v 3 = nI b3 := by rw [← hv 3 (by omega), t3]; exact y3
    have w4 : v 4 = nI b4 := by rw [← hv 4 (by omega), t4]; exact y4
    have w5 : v 5 = nI b5 := by rw [← hv 5 (by omega), t5]; exact y5
    have w6 : v 6 = nI b6 := by rw [← hv 6 (by omega), t6]; exact y6
    have w7 : v 7 = nI b7 := by rw [← hv 7 (by omega), t7]; exact y7
    refine CO.cz ?_
    have C := s_cjC (c := c) (N := N) (T := T) (v := v) (κ := κ) hL e hl M.2.1.2.2.2.1 M.2.1.2.2.2.2 hN4 hT24 hq14 (by rw [← hv 0 (by omega), t0]) (by rw [← hv 1 (by omega), t1]) (by rw [← hv 2 (by omega), t2]) (by rw [← hv 3 (by omega), t3]) (by rw [← hv 4 (by omega), t4]) (by rw [← hv 5 (by omega), t5]) (by rw [← hv 6 (by omega), t6]) (by rw [← hv 7 (by omega), t7]) (by omega) w0
    have R := s_cjR (r := r) (N := N) (T := T) (a := 8 * k) (v := v) M.1.2.2.1 M.1.2.2.2.1 hN4 hT24 (by omega) hv
    rcases C with ⟨C1, C2⟩ | ⟨C1, c', C2, C3⟩
    · rcases R with ⟨R1, R2⟩ | ⟨R1, R2⟩
      · obtain ⟨k0, k2, k4, k5, k6, k7, kN, kT⟩ := C1
        subst kT
        rw [w0, fa_lt, toInt_nI (by omega)] at k0
        rw [w4, fa_lt, toInt_nI (by omega)] at k4
        rw [w6, fa_lt, toInt_nI (by omega)] at k6
        rw [w7, fa_lt, toInt_nI (by omega)] at k7
        have q5 : (5 : Int32).toInt = 5 := rfl
        have q6 : (6 : Int32).toInt = 6 := rfl
        have q4 : (4 : Int32).toInt = 4 := rfl
        have q24 : (2400 : Int32).toInt = 2400 := rfl
        have hJ : NJ (fun k => v (k - 1)) := ⟨κ, b1, b2, b3, b4, b5, b6, b7, by omega, by omega, by omega, by omega, by omega, by omega, by omega, by omega, w0, w1, w2, w3, w4, w5, w6, w7⟩
        refine Or.inl ⟨_, _, S, G, N + 1, 0, C2, R2, MR_J M kN (by omega) w0 hJ, ⟨fun o i ho _ => ?_, fun o ho => ?_, fun _ _ _ => rfl⟩, ⟨fun i hi => ?_, fun o i ho => ?_⟩⟩
        · rw [jC_at, if_neg (by omega), if_neg (by omega), if_neg (by omega), if_neg (by omega), if_neg (by omega), if_neg (by omega), if_neg (by omega), if_neg (by omega), if_neg (by omega)]
        · show (if o = 58 + N then κ else c.2.2 o) = c.2.2 o
          rw [if_neg (by omega)]
        · rw [jR_at, if_neg (by omega), if_neg (by omega), if_neg (by omega), if_neg (by omega), if_neg (by omega), if_neg (by omega), if_neg (by omega), if_neg (by omega), if_neg (by omega)]
        · rw [jR_at, if_neg (by omega), if_neg (by omega), if_neg (by omega), if_neg (by omega), if_neg (by omega), if_neg (by omega), if_neg (by omega), if_neg (by omega), if_neg (by omega)]
      · exact absurd C1 R1
    · rcases R with ⟨R1, R2⟩ | ⟨R1, R2⟩
      · exact absurd R1 C1
      · exact Or.inr ⟨c', r, C2, R2, C3, KR.rf⟩
  · -- t
    rw [h] at hD hend tn ⊢
    have D2 : DG l L (q + 1) 2 := hD
    obtain ⟨x, hx, ex⟩ := num_b 2 (by decide) D2
    have nm := s_numC (l := l) hL e hl (p := q + 1) (n := 2) (by have : sp 116 = 4 := by decide
                                                                 omega)
    have nm : X10_number (nI (q + 1)) 2 c = _ := nm
    have t := tn (Or.inr rfl)
    rw [ex] at t nm
    rw [t]
    simp only [show ((116 : Int32) = 102) = False from eq_false (by decide), show ((116 : Int32) = 103) = False from eq_false (by decide), show ((116 : Int32) = 106) = False from eq_false (by decide), show ((116 : Int32) = 110) = False from eq_false (by decide), show ((116 : Int32) = 112) = False from eq_false (by decide), if_false, if_true, g1, nm, bd_s]
    rcases s_tt M (b := x) (by omega) with ⟨c', r', S, G', N, T, h1, h2, h3, h4, h5⟩ | ⟨c', r', h1, h2, h4, h5⟩
    · rw [h1, bd_s, cz_1]
      exact Or.inl ⟨c', r', S, G', N, T, rfl, h2, h3, h4, h5⟩
    · rw [h1, bd_s, cz_0]
      exact Or.inr ⟨c', r', rfl, h2, h4, h5⟩
  · -- f
    rw [h]
    simp only [if_true]
    exact (s_ct M (b := -9) (off := 0) (res := -9) (fun j _ _ => ⟨by unfold told; rw [if_neg (by decide)], Or.inl rfl⟩)).cz
  · -- p
    rw [h]
    simp only [show ((112 : Int32) = 102) = False from eq_false (by decide), show ((112 : Int32) = 103) = False from eq_false (by decide), show ((112 : Int32) = 106) = False from eq_false (by decide), show ((112 : Int32) = 110) = False from eq_false (by decide), show ((112 : Int32) = 116) = False from eq_false (by decide), show ((112 : Int32) = 119) = False from eq_false (by decide), if_false, if_true]
    exact (s_ct M (b := -8) (off := 0) (res := -8) (fun j _ _ => ⟨by unfold told; rw [if_neg (by decide)], Or.inr (Or.inl rfl)⟩)).cz
end MJ
