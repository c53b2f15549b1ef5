/-! SEEDS: a run drawn, slip by slip -/
theorem look_b {p aim : Int32} {B : Int} (hB : 11 ≤ B) (hB2 : B ≤ 10000) (ha : 0 ≤ aim.toInt) (ha2 : aim.toInt ≤ 11) (h1 : -B ≤ p.toInt) (h2 : p.toInt ≤ B) : (-B ≤ (p - (p - aim) / 2).toInt ∧ (p - (p - aim) / 2).toInt ≤ B) ∧ 0 ≤ (ab32 ((p - aim) / 2) / 4).toInt ∧ (ab32 ((p - aim) / 2) / 4).toInt ≤ 10011 := by
  have h3 : (p - aim).toInt = p.toInt - aim.toInt := fb_subI (by omega) (by omega)
  have h4 : (2 : Int32).toInt = 2 := rfl
  have e : ((p - aim) / 2).toInt = (p.toInt - aim.toInt).tdiv 2 := by rw [Int32.toInt_div_of_ne_right _ _ (by decide), h3, h4]
  have h5 := td_b (p.toInt - aim.toInt) 2 (by omega)
  refine ⟨?_, ab_b (by rw [e]; omega) (by rw [e]; omega)⟩
  rw [fb_subI (by rw [e]; omega) (by rw [e]; omega), e]
  omega
def DRC (c c' : AH) : Prop := (∀ o k, ¬ (o = 0 ∧ k = 17) → c'.1 o k = c.1 o k) ∧ c'.2 = c.2
def DRR (r r' : AH) : Prop := (∀ o k, ¬ (o = 0 ∧ k = 40) → r'.1 o k = r.1 o k) ∧ r'.2 = r.2
section SE
variable {S G N T j : Nat} {c r : AH}
theorem l_run52 (M : MR 52 c r S G N T) (hj : j < 4) : ∀ (f t : Nat) (p loss : Int32) (ct rt : AH), S < t + f → t ≤ S → (-(5000 + 6 * (t : Int)) ≤ p.toInt ∧ p.toInt ≤ 5000 + 6 * (t : Int)) → (0 ≤ loss.toInt ∧ loss.toInt ≤ 10011) → DRC c ct → DRR r rt → ct.1 0 17 = rt.1 0 40 →
    ∃ (p' loss' : Int32) (c' r' : AH), X10_runByDraws_l39 (nI j) (58 + j) f p loss (nI t) ct = (if 0 ≤ p' then X10_runByDraws_j154 loss' p' (nI j) c' else X10_runByDraws_j154 loss' (-9) (nI j) c') ∧ X11_triesByLot_l11 (nI j) f p loss (nI t) rt = (if 0 ≤ p' then (bd (X11_lengthOf (nI j) p' loss' r') fun r3 h4 => X11_triesByLot_j109 p' r3 (nI j) h4) else X11_triesByLot_j109 p' (-9) (nI j) r') ∧ p'.toInt ≤ 6000 ∧ (0 ≤ loss'.toInt ∧ loss'.toInt ≤ 10011) ∧ DRC c c' ∧ DRR r r' ∧ c'.1 0 17 = r'.1 0 40 := by
  obtain ⟨rS, rG, rN, rT, hS, hG, hN, hT, hWW, hJ, hH⟩ := id M.1
  obtain ⟨κ, f', a, g, s, pp, l, m, hκ, hf, ha, hg, hs, hpp, hl, hm, e1, e2, e3, e4, e5, e6, e7, e8⟩ := id (hJ j hj)
  have hcj : ∀ k, 1 ≤ k → k ≤ 8 → c.1 (58 + j) k = RJ r j k := (M.2.2.1 j hj).1
  have hK : JK c (58 + j) := (M.2.2.1 j hj).2
  have haim := aim_b (kd := r.1 2 j) (fg := r.1 3 j) hf e2
  intro f
  induction f with
  | zero => intro t p loss ct rt h1 h2; omega
  | succ f ih =>
    intro t p loss ct rt h1 h2 hp hlo F E hs17
    rw [X10_runByDraws_l39.eq_2, X11_triesByLot_l11.eq_2, F.1 52 0 (by omega), E.1 0 12 (by omega), M.2.1.1, rS]
    by_cases z : t = S
    · subst z
      rw [if_pos (Int32.le_refl _), if_pos (Int32.le_refl _)]
      exact ⟨p, loss, ct, rt, rfl, rfl, by omega, hlo, F, E, hs17⟩
    · have c7 : ct.1 (58 + j) 7 = nI l := by rw [F.1 (58 + j) 7 (by omega), hcj 7 (by omega) (by omega)]; exact e7
      have r8 : rt.1 8 j = nI l := by rw [E.1 8 j (by omega)]; exact e7
      have e10 : nI S - nI t = nI (S - t) := pk_sub h2
      have e11 : nI S - nI l = nI (S - l) := pk_sub (by omega)
      -- a draw, both
      have draw : ∀ (q lo : Int32), (-(5000 + 6 * (t : Int)) ≤ q.toInt ∧ q.toInt ≤ 5000 + 6 * (t : Int)) → (0 ≤ lo.toInt ∧ lo.toInt ≤ 10011) → ∃ (p' loss' : Int32) (c' r' : AH), X10_runByDraws_j96 (nI j) (58 + j) q lo (nI t) (X10_runByDraws_l39 (nI j) (58 + j) f) ct = (if 0 ≤ p' then X10_runByDraws_j154 loss' p' (nI j) c' else X10_runByDraws_j154 loss' (-9) (nI j) c') ∧ X11_triesByLot_j77 (nI j) q lo (nI t) (X11_triesByLot_l11 (nI j) f) rt = (if 0 ≤ p' then (bd (X11_lengthOf (nI j) p' loss' r') fun r3 h4 => X11_triesByLot_j109 p' r3 (nI j) h4) else X11_triesByLot_j109 p' (-9) (nI j) r') ∧ p'.toInt ≤ 6000 ∧ (0 ≤ loss'.toInt ∧ loss'.toInt ≤ 10011) ∧ DRC c c' ∧ DRR r r' ∧ c'.1 0 17 = r'.1 0 40 := by
        intro q lo hq hlo
        obtain ⟨sd, esd⟩ : ∃ sd, sd = rt.1 0 40 * 1103515245 + 12345 := ⟨_, rfl⟩
        have F1 : DRC c (sI ct 0 17 sd) := ⟨fun o k h => by rw [sI_n h]; exact F.1 o k h, F.2⟩
        have E1 : DRR r (sI rt 0 40 sd) := ⟨fun o k h => by rw [sI_n h]; exact E.1 o k h, E.2⟩
        have c5 : (sI ct 0 17 sd).1 (58 + j) 5 = nI s := by rw [F1.1 (58 + j) 5 (by omega), hcj 5 (by omega) (by omega)]; exact e5
        have r6 : (sI rt 0 40 sd).1 6 j = nI s := by rw [E1.1 6 j (by omega)]; exact e5
        have ns : (nI s).toInt = s := toInt_nI (by omega)
        have nn : (-nI s).toInt = -(s : Int) := by rw [fb_negI (by rw [ns]; omega), ns]
        have z0 : (0 : Int32).toInt = 0 := rfl
        have go : ∀ x : Int32, -6 ≤ x.toInt → x.toInt ≤ 6 → _ := fun x h1 h2 => ih (t + 1) (q - x) lo (sI ct 0 17 sd) (sI rt 0 40 sd) (by omega) (by omega) (by rw [fb_subI (by omega) (by omega)]; omega) hlo F1 E1 (by rw [sI_y, sI_y])
        unfold X10_runByDraws_j96 X11_triesByLot_j77 X10_drawBelow X11_drawnSlip X10_runByDraws_j131
        rw [hs17, ← esd]
        simp only [vl_e, sI_y, hj_ck hj, nI_clamp (show j < 2 ^ 31 by omega), c5, r6]
        rw [if_pos (show (0 : Int32) < 4 by decide), if_neg (show ¬ (4 : Int32) = 0 by decide), bd_s]
        by_cases d0 : rm32 ((sd &&& 2147483647) / 65536) 4 = 0
        · rw [if_pos d0, if_pos d0, bd_s, nI_1, c5]
          exact go (nI s) (by omega) (by omega)
        · rw [if_neg d0, if_neg d0]
          by_cases d3 : rm32 ((sd &&& 2147483647) / 65536) 4 = 3
          · rw [if_pos d3, if_pos d3, bd_s, nI_1, c5]
            exact go (-nI s) (by omega) (by omega)
          · rw [if_neg d3, if_neg d3, bd_s, nI_1]
            exact go 0 (by omega) (by omega)
      rw [if_neg (nI_ge (by omega) (by omega)), if_neg (nI_ge (by omega) (by omega)), e10, c7, hj_ck hj, hj_ck hj, nI_clamp (by omega), r8, e11]
      by_cases y : S - t = l
      · have y2 : t = S - l := by omega
        have aC : kd (ct.2.2 (58 + j)) (X3_aimOf (58 + j) ct) (X7_aimOf (58 + j) ct) (X0_aimOf (58 + j) ct) (X4_aimOf (58 + j) ct) (X0_aimOf (58 + j) ct) (X8_aimOf (58 + j) ct) = some (aimS (r.1 2 j) (r.1 3 j), ct) := by
          have K2 : JK ct (58 + j) := by
            obtain ⟨κ, x, y, w⟩ := hK
            exact ⟨κ, x, by rw [F.2]; exact y, by rw [F.1 _ 1 (by omega)]; exact w⟩
          rw [s_aimC K2, F.1 _ 1 (by omega), F.1 _ 2 (by omega), hcj 1 (by omega) (by omega), hcj 2 (by omega) (by omega)]
          rfl
        have aR : X11_aimOf (nI j) rt = some (aimS (r.1 2 j) (r.1 3 j), rt) := by
          rw [s_aimR hj, E.1 2 j (by omega), E.1 3 j (by omega)]
        rw [if_pos (by rw [y]), if_neg (nI_nle (by omega) (by omega)), if_pos (by rw [y2]), aC, bd_s, aR, bd_s]
        have lb := look_b (p := p) (B := 5000 + 6 * (t : Int)) (by omega) (by omega) haim.1 haim.2 hp.1 hp.2
        simp only [vl_e]
        obtain ⟨p', loss', c', r', u1, u2, u3⟩ := draw (p - (p - aimS (r.1 2 j) (r.1 3 j)) / 2) (ab32 ((p - aimS (r.1 2 j) (r.1 3 j)) / 2) / 4) lb.1 lb.2
        refine ⟨p', loss', c', r', u1, ?_, u3⟩
        rw [← u2]
        unfold X11_triesByLot_j74
        rw [← ab_neg]
        simp only [vl_e]
        split <;> rfl
      · obtain ⟨p', loss', c', r', u1, u2, u3⟩ := draw p loss hp hlo
        rw [if_neg (fun q => y ((nI_eq (by omega) (by omega)).mp q))]
        refine ⟨p', loss', c', r', u1, ?_, u3⟩
        rw [← u2]
        by_cases w : l = 0
        · rw [if_pos (show nI l ≤ 0 by rw [w]; decide)]
        · rw [if_neg (nI_nle (by omega) (by omega)), if_neg (fun q => y (by have := (nI_eq (by omega) (by omega)).mp q; omega))]
theorem l_play1 (M : MR 52 c r S G N T) (hT : T < 3 * N + 3 * min G N) (hA : TA r N (min G N) T j) (hs17 : c.1 0 17 = r.1 0 40) : ∃ res c' r', X10_runByDraws (nI j) c = some (res, c') ∧ X11_triesByLot (nI j) r = some ((), r') ∧ MR 52 c' r' S G N (T + 1) ∧ JC c c' ∧ JR T r r' ∧ c'.1 0 17 = r'.1 0 40 ∧ r'.1 10 T = nI j ∧ r'.1 11 T = res := by
  obtain ⟨rS, rG, rN, rT, hS, hG, hN, _, hWW, hJ, hH⟩ := id M.1
  have hj4 : j < 4 := by have := hA.1; omega
  have hcj : ∀ k, 1 ≤ k → k ≤ 8 → c.1 (58 + j) k = r.1 (k + 1) j := (M.2.2.1 j hj4).1
  have hK : JK c (58 + j) := (M.2.2.1 j hj4).2
  have hpl := pl_b M.1 hj4 hWW
  obtain ⟨p', loss', c', r', u1, u2, u3, u4, F, E, hs⟩ := l_run52 M hj4 FU 0 (r.1 9 j - pathS (r.1 2 j) (r.1 4 j) (r.1 5 j) (r.1 0 14) S) 0 c r (by unfold FU; omega) (Nat.zero_le _) (by omega) (by decide) ⟨fun _ _ _ => rfl, rfl⟩ ⟨fun _ _ _ => rfl, rfl⟩ hs17
  have u1 : X10_runByDraws_l39 (nI j) (58 + j) FU _ 0 0 c = _ := u1
  have u2 : X11_triesByLot_l11 (nI j) FU _ 0 0 r = _ := u2
  have e1 : X10_runByDraws (nI j) c = X10_runByDraws_l39 (nI j) (58 + j) FU (r.1 9 j - pathS (r.1 2 j) (r.1 4 j) (r.1 5 j) (r.1 0 14) S) 0 0 c := by
    unfold X10_runByDraws
    rw [s_at 52 hj4, bd_s, cs_in _ (zc_j (o := 52) (Or.inr (Or.inl rfl)) hj4), M.2.1.1, s_path hK (by omega : S < 4000), bd_s, hcj 1 (by omega) (by omega), hcj 3 (by omega) (by omega), hcj 4 (by omega) (by omega), hcj 8 (by omega) (by omega), M.2.1.2.1, vl_e]
  have e2 : X11_triesByLot (nI j) r = X11_triesByLot_l11 (nI j) FU (r.1 9 j - pathS (r.1 2 j) (r.1 4 j) (r.1 5 j) (r.1 0 14) S) 0 0 r := by
    unfold X11_triesByLot
    rw [s_placeR hj4 (by omega : S < 4000) rS, bd_s]
  have M' : MR 52 c' r' S G N T := MR_r ⟨fun k h1 h2 => E.1 0 k (by omega), fun o k h1 h2 _ => E.1 o k (by omega), fun t _ => ⟨E.1 10 t (by omega), E.1 11 t (by omega)⟩⟩ (MR_cc M (fun k _ => F.1 52 k (by omega)) (fun i k _ _ _ => F.1 _ k (by omega)) (fun i _ => by rw [F.2]) (fun t _ => ⟨F.1 _ t (by omega), F.1 _ t (by omega)⟩))
  have hA' : TA r' N (min G N) T j := TA_c ⟨fun k h1 h2 => E.1 0 k (by omega), fun o k h1 h2 _ => E.1 o k (by omega), fun t _ => ⟨E.1 10 t (by omega), E.1 11 t (by omega)⟩⟩ (Nat.le_refl T) hA
  have P : JC c c' := ⟨fun o k _ h => F.1 o k h, fun o _ => by rw [F.2], fun o _ _ => by rw [F.2]⟩
  have Q : JR T r r' := ⟨fun k _ h => E.1 0 k (by omega), fun o k h _ _ _ _ _ _ => E.1 o k (by omega), fun t _ => ⟨E.1 10 t (by omega), E.1 11 t (by omega)⟩⟩
  have fin : ∀ b : Int32, (told (RJ r' j) (r'.1 0 14) b loss' = -9 ∨ told (RJ r' j) (r'.1 0 14) b loss' = -8 ∨ 0 ≤ (told (RJ r' j) (r'.1 0 14) b loss').toInt) → ∃ res c2 r2, X10_runByDraws_j154 loss' b (nI j) c' = some (res, c2) ∧ X11_triesByLot_j109 p' (told (RJ r' j) (r'.1 0 14) b loss') (nI j) r' = some ((), r2) ∧ MR 52 c2 r2 S G N (T + 1) ∧ JC c c2 ∧ JR T r r2 ∧ c2.1 0 17 = r2.1 0 40 ∧ r2.1 10 T = nI j ∧ r2.1 11 T = res := by
    intro b hres
    obtain ⟨c4, r4, g1, g2, M4, g3, g4, g5, g6, g7, g8, g9⟩ := m_try (off := p') (b := b) (loss := loss') M' (Or.inr (Or.inl rfl)) hT hA' hres
    have hp := s_putsTry (r := r') (T := T) (res := told (RJ r' j) (r'.1 0 14) b loss') (off := p') (a := nI j) M'.1.2.2.2.1 (by omega)
    have er := g2.symm.trans hp
    have er : r4 = _ := (Prod.mk.inj (Option.some.inj er)).2
    unfold X10_runByDraws_j154 X11_triesByLot_j109
    rw [g1, bd_s, g2, bd_s]
    refine ⟨_, c4, r4, rfl, rfl, M4, P.tr (JC.T g3 g5), Q.tr (JR.T (Nat.le_refl T) g6 g9), ?_, ?_, g7⟩
    · rw [g5 0 17 (by omega), g6 0 40 (by omega) (by omega) (by omega) (by omega)]
      exact hs
    · rw [er, sI_n (by omega), sI_n (by omega), sI_n (by omega), sI_y]
  rw [e1, u1, e2, u2]
  by_cases y : 0 ≤ p'
  · have z0 : (0 : Int32).toInt = 0 := rfl
    have y' := y
    rw [fa_le, z0] at y'
    have et : told (RJ r' j) (r'.1 0 14) p' loss' = lenS (r'.1 2 j) (r'.1 3 j) (r'.1 7 j) (r'.1 0 14) p' loss' := by
      unfold told
      rw [if_pos y]
      rfl
    have nn := told_nn (r := r') (j := j) (b := p') (loss := loss') (M'.1.2.2.2.2.2.2.2.2.2.1 j hj4) M'.1.2.2.2.2.2.2.2.2.1 y' (by omega) (by omega) (by omega)
    rw [if_pos y, if_pos y, s_lenR hj4, bd_s, ← et]
    exact fin p' (Or.inr (Or.inr nn))
  · have et : told (RJ r' j) (r'.1 0 14) (-9) loss' = -9 := by
      unfold told
      rw [if_neg (by decide)]
    have h := fin (-9) (Or.inl et)
    rw [et] at h
    rw [if_neg y, if_neg y]
    exact h
end SE
