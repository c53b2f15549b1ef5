/-! PRACTICE, the call; BESTRUN -/
theorem l_prac {c r : AH} {S G N T j : Nat} {pl : Int32} (M : MR 42 c r S G N T) (hW : WT c) (hj : j < 4) (hp : -5000 ≤ pl.toInt) (hp2 : pl.toInt ≤ 5000) : ∀ (f v : Nat) (m : Int64) (best : Int32) (ct rt : AH), 5 < v + f → v ≤ 5 → PC c ct → rt.1 = r.1 → 0 ≤ m.toInt →
    ∃ b c' r', X10_practice_l51 (nI j) pl f m best (nI v) ct = some (b, c') ∧ X11_practice_l33 (nI j) pl f m best (nI v) rt = some (b, r') ∧ PC c c' ∧ r'.1 = r.1 := by
  have hR := M.1
  obtain ⟨rS, rG, rN, rT, hS, hG, hN, hT, hWW, hJ, hH⟩ := id hR
  intro f
  induction f with
  | zero => intro v m best ct rt h1; omega
  | succ f ih =>
    intro v m best ct rt h1 h2 p q hm
    rw [X10_practice_l51.eq_2, X11_practice_l33.eq_2]
    by_cases z : v = 5
    · subst z
      rw [if_pos (show (5 : Int32) ≤ nI 5 by decide), if_pos (show (5 : Int32) ≤ nI 5 by decide)]
      exact ⟨_, _, _, rfl, rfl, p, q⟩
    · obtain ⟨h1', b1, b2, b3⟩ := sp_copy (p.MR M) hj
      have hr : ∀ k, 1 ≤ k → k ≤ 8 → rt.1 (k + 1) j = RJ r j k := fun k _ _ => by rw [q]; rfl
      obtain ⟨ok, d1, d2, d3⟩ := pr_c (v := v) b3 (hJ j hj) hj (by omega) hr
      rw [if_neg (show ¬ (5 : Int32) ≤ nI v from nI_ge (b := 5) (by omega) (by decide)), if_neg (show ¬ (5 : Int32) ≤ nI v from nI_ge (b := 5) (by omega) (by decide)), s_at42 hj, bd_s, cs_in _ (zc42 hj), b1, bd_s, d1, bd_s, d2, bd_s]
      unfold X10_practice_j92 X10_practice_j110 X11_practice_j95
      have pp : PC c (sI h1' 72 (pF v) (pV v (RJ r j))) := (p.tr b2).tr (PC.sp h1' _)
      by_cases o : ok = true
      · rw [if_pos o, i_10, i_10]
        have hJ' := d3 o
        have hpf : 4 ≤ pF v ∧ pF v ≤ 7 := by unfold pF; repeat' split
                                             all_goals omega
        have sp : SPJ (sI h1' 72 (pF v) (pV v (RJ r j))) (fun k => if k = pF v then pV v (RJ r j) else RJ r j k) := by
          refine ⟨fun k k1 k2 => ?_, ?_⟩
          · show (sI h1' 72 (pF v) (pV v (RJ r j))).1 72 k = if k = pF v then pV v (RJ r j) else RJ r j k
            rw [sI_at]
            by_cases y : k = pF v
            · rw [if_pos ⟨rfl, y⟩, if_pos y]
            · rw [if_neg (fun w => y w.2), if_neg y]
              exact b3.1 k k1 k2
          · obtain ⟨κ, x, y, w⟩ := b3.2
            exact ⟨κ, x, y, by rw [sI_n (by omega)]; exact w⟩
        obtain ⟨c2, s1, s2, s3, s4, s5⟩ := sp_spread (wd := r.1 0 14) (S2 := S) sp hJ' (pp.WT hW) hWW hS.1 hS.2 hp hp2
        have M2 := pp.MR M
        have em : X10_meanAt pl (sI h1' 72 (pF v) (pV v (RJ r j))) = some (RV (fun k => if k = pF v then pV v (RJ r j) else RJ r j k) (r.1 0 14) pl S p2, c2) := by
          unfold X10_meanAt
          rw [M2.2.1.1, M2.2.1.2.1, s1, bd_s, s_mean, bd_s, s5]
        obtain ⟨u1, u2⟩ := pr_p (v := v) hj (by omega) hr
        obtain ⟨g, eg⟩ : ∃ g, g = sI rt (pF v + 1) j (pV v (RJ r j)) := ⟨_, rfl⟩
        have qg : ∀ o k, ¬ (o = pF v + 1 ∧ k = j) → g.1 o k = r.1 o k := fun o k y => by rw [eg, sI_n y, q]
        have gv : g.1 (pF v + 1) j = pV v (RJ r j) := by rw [eg, sI_y]
        have eJ : ∀ k, 1 ≤ k → k ≤ 8 → (fun k => if k = pF v then pV v (RJ r j) else RJ r j k) k = RJ g j k := by
          intro k k1 k2
          show (if k = pF v then pV v (RJ r j) else RJ r j k) = g.1 (k + 1) j
          by_cases y : k = pF v
          · rw [if_pos y, y]; exact gv.symm
          · rw [if_neg y]; exact (qg (k + 1) j (by omega)).symm
        have g14 : g.1 0 14 = r.1 0 14 := qg 0 14 (by omega)
        have g12 : g.1 0 12 = nI S := by rw [qg 0 12 (by omega)]; exact rS
        obtain ⟨g2, t1, t2⟩ := (u_count (h := g) (j := j) (S := S) hj (NJ_J eJ hJ') g12 (by rw [g14]; exact hWW) hS.1 hS.2 hp hp2).2.2.1 0
        have gv2 : g2.1 (pF v + 1) j = pV v (RJ r j) := by rw [t2.1]; exact gv
        have u3 := u2 g2 gv2
        have qe : (sI g2 (pF v + 1) j (RJ r j (pF v))).1 = r.1 := by
          funext o k
          rw [sI_at]
          by_cases y : o = pF v + 1 ∧ k = j
          · rw [if_pos y, y.1, y.2]; rfl
          · rw [if_neg y, t2.1]; exact qg o k y
        rw [em, bd_s, u1, bd_s, ← eg, t1, bd_s, u3, bd_s, g14, ← RV_J eJ]
        have hpos : 0 ≤ (RV (fun k => if k = pF v then pV v (RJ r j) else RJ r j k) (r.1 0 14) pl S p2).toInt := by
          obtain ⟨V, v1, v2⟩ := rv_2 hJ' hWW hS.1 hS.2 hp hp2
          have hpw := pw_b hS.2
          rw [v1, pk_lT (by omega)]
          omega
        have lc := lc_gt (RV (fun k => if k = pF v then pV v (RJ r j) else RJ r j k) (r.1 0 14) pl S p2) m
        simp only [vl_e, nI_1]
        by_cases y : m < RV (fun k => if k = pF v then pV v (RJ r j) else RJ r j k) (r.1 0 14) pl S p2
        · rw [if_neg (fun w => lc.1.mp w y), if_pos (lc.2.mpr y)]
          exact ih (v + 1) _ _ c2 _ (by omega) (by omega) (pp.tr s4) qe hpos
        · rw [if_pos (lc.1.mpr y), if_neg (fun w => y (lc.2.mp w))]
          exact ih (v + 1) _ _ c2 _ (by omega) (by omega) (pp.tr s4) qe hm
      · rw [if_neg o, i_0, i_0]
        simp only [vl_e, nI_1]
        have lc := lc_gt (-1) m
        rw [if_pos (lc.1.mpr (fun w => by
          have t1 : (-1 : Int64).toInt = -1 := rfl
          rw [fa_lt64, t1] at w
          omega))]
        exact ih (v + 1) _ _ _ _ (by omega) (by omega) pp q hm
theorem o_practice {c r : AH} {a1 : Int32} (I : Inv c r) : SimE (X10_practice a1 c) (X11_practice a1 r) Inv := by
  obtain ⟨⟨S, G, N, T, M⟩, hW, hL, hRow, hRF, hIM⟩ := id I
  have hN := M.1.2.2.2.2.2.2.1
  have hS := M.1.2.2.2.2.1
  have hw := M.1.2.2.2.2.2.2.2.2.1
  unfold X10_practice X11_practice
  rcases jm a1 hN with hz | ⟨j, hj, rfl⟩
  · rw [nb_n M.2.1.2.2.2.1 hz, bd_s, ij_n M.1.2.2.1 hz, bd_s, i_0, i_1]
    exact rfs (x := -1) I (by decide)
  · have hj4 : j < 4 := by omega
    have hJ := M.1.2.2.2.2.2.2.2.2.2.1 j hj4
    have hpl := pl_b M.1 hj4 hw
    rw [nb_y M.2.1.2.2.2.1 hN hj, bd_s, ij_y M.1.2.2.1 hN hj, bd_s, i_10, i_0, s_placeC hj4 (M.2.2.1 j hj4).2 (by omega : S < 4000) M.2.1.1, bd_s, pl_eq M hj4, s_placeR hj4 (by omega : S < 4000) M.1.1, bd_s, s_at42 hj4, bd_s, cs_in _ (zc42 hj4)]
    obtain ⟨c', s1, s2, s3, s4, s5, s6, s7, s8, s9, s10⟩ := k_spread 0 M hW hj4 hw hS.1 hS.2 hpl.1 hpl.2
    obtain ⟨r', t1, t2⟩ := (u_count hj4 hJ M.1.1 hw hS.1 hS.2 hpl.1 hpl.2).2.2.1 0
    have e1 : X10_spreadAt (48 + j) (r.1 9 j - pathS (r.1 2 j) (r.1 4 j) (r.1 5 j) (r.1 0 14) S) c = some ((), c') := by
      unfold X10_spreadAt
      rw [M.2.1.1, M.2.1.2.1, s1, bd_s]
    have e2 : X11_meanParts (nI j) r = some (RV (RJ r j) (r.1 0 14) (r.1 9 j - pathS (r.1 2 j) (r.1 4 j) (r.1 5 j) (r.1 0 14) S) S p2, r') := by
      unfold X11_meanParts
      rw [s_placeR hj4 (by omega : S < 4000) M.1.1, bd_s, t1, bd_s]
    have hpos : 0 ≤ (RV (RJ r j) (r.1 0 14) (r.1 9 j - pathS (r.1 2 j) (r.1 4 j) (r.1 5 j) (r.1 0 14) S) S p2).toInt := by
      obtain ⟨V, v1, v2⟩ := rv_2 hJ hw hS.1 hS.2 hpl.1 hpl.2
      have hpw := pw_b hS.2
      rw [v1, pk_lT (by omega)]
      omega
    rw [e1, bd_s, s_mean, bd_s, s7, e2, bd_s, vl_e, vl_e]
    obtain ⟨b, c2, r2, d1, d2, d3, d4⟩ := l_prac M hW hj4 hpl.1 hpl.2 FU 0 (RV (RJ r j) (r.1 0 14) (r.1 9 j - pathS (r.1 2 j) (r.1 4 j) (r.1 5 j) (r.1 0 14) S) S p2) (-9) c' r' (by unfold FU; omega) (by omega) (k_PC s2 s3 s4) t2.1 hpos
    exact SimE.mk' d1 d2 rfl (Inv_f I d3 (fun _ _ _ => PR.L d4))
/-! BESTRUN: one number of STRIDES after another -/
theorem sh64 (V : Nat) {k : Nat} (hk : k < 64) : shl64 (lN V) (nI k) = lN (V * 2 ^ k) := wb_shl V hk
theorem l_run {c r : AH} {S G N T j : Nat} (M : MR 42 c r S G N T) (hW : WT c) (hj : j < 4) : ∀ (f n b : Nat) (mc mr : Int64) (ct rt : AH), 21 < n + f → 4 ≤ n → n ≤ 21 → 4 ≤ b → b ≤ 20 → b ≤ n → PC c ct → (∀ o k, ¬ (o = 0 ∧ k = 12) → rt.1 o k = r.1 o k) → ((mc = -1 ∧ mr = -1) ∨ ∃ W, W ≤ 435 * 2 ^ (2 * b) ∧ mr = lN W ∧ mc = lN (W * 2 ^ (2 * (20 - b)))) →
    ∃ x c' r', X10_bestRun_l36 (48 + j) f (nI b) mc (nI n) ct = some (x, c') ∧ X11_bestRun_l29 (nI j) (r.1 0 12) f (nI b) mr (nI n) rt = some (x, r') ∧ PC c c' ∧ r'.1 = r.1 := by
  have hR := M.1
  obtain ⟨rS, rG, rN, rT, hS, hG, hN, hT, hWW, hJ, hH⟩ := id hR
  intro f
  induction f with
  | zero => intro n b mc mr ct rt h1 h2 h3; omega
  | succ f ih =>
    intro n b mc mr ct rt h1 h2 h3 h4 h5 h6 p q hm
    rw [X10_bestRun_l36.eq_2, X11_bestRun_l29.eq_2]
    by_cases z : n = 21
    · subst z
      rw [if_pos (show (20 : Int32) < nI 21 by decide), if_pos (show (20 : Int32) < nI 21 by decide), vl_e]
      refine ⟨_, _, _, rfl, rfl, p, ?_⟩
      funext o k
      rw [sI_at]
      by_cases y : o = 0 ∧ k = 12
      · rw [if_pos y, y.1, y.2]
      · rw [if_neg y]; exact q o k y
    · have Mt := p.MR M
      obtain ⟨f', hf, ef⟩ : ∃ f', f' ≤ 9 ∧ r.1 3 j = nI f' := by
        obtain ⟨κ, f', a, g, s, pp, l, m, hκ, hf, ha, hg, hs, hpp, hl, hm, e1, e2, e3, e4, e5, e6, e7, e8⟩ := hJ j hj
        exact ⟨f', hf, e2⟩
      have ha := aim_b (kd := r.1 2 j) hf ef
      have hp : -5000 ≤ (aimS (r.1 2 j) (r.1 3 j)).toInt := by omega
      have hp2 : (aimS (r.1 2 j) (r.1 3 j)).toInt ≤ 5000 := by omega
      have hcj : ∀ k, 1 ≤ k → k ≤ 8 → ct.1 (48 + j) k = r.1 (k + 1) j := (Mt.2.2.1 j hj).1
      obtain ⟨c', s1, s2, s3, s4, s5, s6, s7, s8, s9, s10⟩ := k_spread (S2 := n) 0 Mt (p.WT hW) hj hWW h2 (by omega) hp hp2
      obtain ⟨g, eg⟩ : ∃ g, g = sI rt 0 12 (nI n) := ⟨_, rfl⟩
      have qg : ∀ o k, ¬ (o = 0 ∧ k = 12) → g.1 o k = r.1 o k := fun o k h => by rw [eg, sI_n h]; exact q o k h
      have g12 : g.1 0 12 = nI n := by rw [eg, sI_y]
      have g14 : g.1 0 14 = r.1 0 14 := qg 0 14 (by omega)
      have hRJ : ∀ k, 1 ≤ k → k ≤ 8 → RJ r j k = RJ g j k := fun k k1 k2 => (qg (k + 1) j (by omega)).symm
      obtain ⟨r', t1, t2⟩ := (u_count (h := g) (j := j) (S := n) hj (NJ_J hRJ (hJ j hj)) g12 (by rw [g14]; exact hWW) h2 (by omega) hp hp2).2.2.1 0
      rw [g14, ← RV_J hRJ] at t1
      obtain ⟨V, v1, v2⟩ := rv_2 (S := n) (hJ j hj) hWW h2 (by omega) hp hp2
      rw [v1] at t1 s7
      have ea : X11_aimOf (nI j) g = some (aimS (r.1 2 j) (r.1 3 j), g) := by
        rw [s_aimR hj, qg 2 j (by omega), qg 3 j (by omega)]
      have e20 : (20 : Int32) - nI n = nI (20 - n) := pk_sub (a := 20) (b := n) (by omega)
      have e2 : (2 : Int32) * nI (20 - n) = nI (2 * (20 - n)) := pk_mul 2 _
      have e3 : nI n - nI b = nI (n - b) := pk_sub h6
      have e4 : (2 : Int32) * nI (n - b) = nI (2 * (n - b)) := pk_mul 2 _
      have sh1 : shl64 1 (nI (2 * (n - b))) = lN (2 ^ (2 * (n - b))) := by
        have := sh64 1 (k := 2 * (n - b)) (by omega)
        rw [Nat.one_mul] at this
        exact this
      rw [if_neg (show ¬ (20 : Int32) < nI n from nI_nlt (a := 20) (by omega) (by decide)), if_neg (show ¬ (20 : Int32) < nI n from nI_nlt (a := 20) (by omega) (by decide)), s_aimC (Mt.2.2.1 j hj).2, bd_s, hcj 1 (by omega) (by omega), hcj 2 (by omega) (by omega), Mt.2.1.2.1, s1, bd_s, s_mean, bd_s, s7, e20, e2, sh64 V (by omega), vl_e, vl_e, ← eg, ea, bd_s, t1, bd_s, e3, e4, sh1, vl_e]
      have p' : PC c c' := p.tr (k_PC s2 s3 s4)
      have q' : ∀ o k, ¬ (o = 0 ∧ k = 12) → r'.1 o k = r.1 o k := fun o k h => by rw [t2.1]; exact qg o k h
      have w1 : 2 ^ (2 * n) * 2 ^ (2 * (20 - n)) = 2 ^ 40 := by rw [← Nat.pow_add, show 2 * n + 2 * (20 - n) = 40 by omega]
      have hV : V * 2 ^ (2 * (20 - n)) ≤ 435 * 2 ^ 40 := by
        rw [← w1, ← Nat.mul_assoc]
        exact Nat.mul_le_mul_right _ v2
      have pw1 : 0 < 2 ^ (2 * (20 - n)) := Nat.two_pow_pos _
      have hV0 : V ≤ 435 * 2 ^ 40 := Nat.le_trans (Nat.le_mul_of_pos_right V pw1) hV
      unfold X10_bestRun_j102 X11_bestRun_j87 X11_bestRun_j94
      simp only [vl_e, nI_1]
      have new : ∃ x c'_1 r'_1, X10_bestRun_l36 (48 + j) f (nI n) (lN (V * 2 ^ (2 * (20 - n)))) (nI (n + 1)) c' = some (x, c'_1) ∧ X11_bestRun_l29 (nI j) (r.1 0 12) f (nI n) (lN V) (nI (n + 1)) r' = some (x, r'_1) ∧ PC c c'_1 ∧ r'_1.1 = r.1 :=
        ih (n + 1) n _ _ c' r' (by omega) (by omega) (by omega) h2 (by omega) (by omega) p' q' (Or.inr ⟨V, v2, rfl, rfl⟩)
      rcases hm with ⟨m1, m2⟩ | ⟨W, m0, m1, m2⟩
      · have lcC := lc_gt (lN (V * 2 ^ (2 * (20 - n)))) mc
        rw [if_neg (fun w => lcC.1.mp w (by
          have t1 : (-1 : Int64).toInt = -1 := rfl
          rw [m1, fa_lt64, t1, pk_lT (by omega)]
          omega)), if_pos (by rw [m2]; decide)]
        exact new
      · have w2 : 2 ^ (2 * b) * 2 ^ (2 * (20 - b)) = 2 ^ 40 := by rw [← Nat.pow_add, show 2 * b + 2 * (20 - b) = 40 by omega]
        have w3 : 2 ^ (2 * (n - b)) * 2 ^ (2 * (20 - n)) = 2 ^ (2 * (20 - b)) := by rw [← Nat.pow_add, show 2 * (n - b) + 2 * (20 - n) = 2 * (20 - b) by omega]
        have hW2 : W * 2 ^ (2 * (20 - b)) ≤ 435 * 2 ^ 40 := by
          rw [← w2, ← Nat.mul_assoc]
          exact Nat.mul_le_mul_right _ m0
        have hW3 : W * 2 ^ (2 * (n - b)) ≤ 435 * 2 ^ 40 := by
          refine Nat.le_trans ?_ hW2
          rw [← w3, ← Nat.mul_assoc]
          exact Nat.le_mul_of_pos_right _ pw1
        have hW0 : W ≤ 435 * 2 ^ 40 := Nat.le_trans (Nat.le_mul_of_pos_right W (Nat.two_pow_pos _)) hW2
        have key : (W * 2 ^ (2 * (20 - b)) < V * 2 ^ (2 * (20 - n))) ↔ W * 2 ^ (2 * (n - b)) < V := by
          rw [← w3, ← Nat.mul_assoc]
          exact ⟨fun h => Nat.lt_of_mul_lt_mul_right h, fun h => Nat.mul_lt_mul_of_pos_right h pw1⟩
        have lcC := lc_gt (lN (V * 2 ^ (2 * (20 - n)))) mc
        have lcR := lc_gt (lN V) (mr * lN (2 ^ (2 * (n - b))))
        have l0 : ¬ lcmpV mr 0 < 0 := by
          rw [m1]
          have := lc_gt 0 (lN W)
          unfold lcmpV
          split
          · decide
          · split
            · decide
            · rename_i a d
              exfalso
              have t0 : (0 : Int64).toInt = 0 := rfl
              rw [fa_lt64, t0, pk_lT (by omega)] at a
              apply d
              rw [fa_eq64, t0, pk_lT (by omega)]
              omega
        rw [if_neg l0]
        rw [m1, m2, lN_mul] at *
        by_cases y : W * 2 ^ (2 * (20 - b)) < V * 2 ^ (2 * (20 - n))
        · rw [if_neg (fun w => lcC.1.mp w ((pk_lLT (by omega) (by omega)).mpr y)), if_pos (lcR.2.mpr ((pk_lLT (by omega) (by omega)).mpr (key.mp y)))]
          exact new
        · rw [if_pos (lcC.1.mpr (fun w => y ((pk_lLT (by omega) (by omega)).mp w))), if_neg (fun w => y (key.mpr ((pk_lLT (by omega) (by omega)).mp (lcR.2.mp w))))]
          exact ih (n + 1) b _ _ c' r' (by omega) (by omega) (by omega) h4 h5 (by omega) p' q' (Or.inr ⟨W, m0, rfl, rfl⟩)
theorem o_bestRun {c r : AH} {a1 : Int32} (I : Inv c r) : SimE (X10_bestRun a1 c) (X11_bestRun a1 r) Inv := by
  obtain ⟨⟨S, G, N, T, M⟩, hW, hL, hRow, hRF, hIM⟩ := id I
  have hN := M.1.2.2.2.2.2.2.1
  unfold X10_bestRun X11_bestRun
  rcases jm a1 hN with hz | ⟨j, hj, rfl⟩
  · rw [nb_n M.2.1.2.2.2.1 hz, bd_s, ij_n M.1.2.2.1 hz, bd_s, i_0, i_1]
    exact rfs (x := -1) I (by decide)
  · have hj4 : j < 4 := by omega
    rw [nb_y M.2.1.2.2.2.1 hN hj, bd_s, ij_y M.1.2.2.1 hN hj, bd_s, i_10, i_0, s_at42 hj4, bd_s, cs_in _ (zc42 hj4), vl_e, vl_e, vl_e]
    obtain ⟨x, c2, r2, d1, d2, d3, d4⟩ := l_run M hW hj4 FU 4 4 (-1) (-1) c r (by unfold FU; omega) (by omega) (by omega) (by omega) (by omega) (by omega) PC.rf (fun _ _ _ => rfl) (Or.inl ⟨rfl, rfl⟩)
    exact SimE.mk' d1 d2 rfl (Inv_f I d3 (fun _ _ _ => PR.L d4))
