/-! THE CALLS that look for the best -/
theorem lc_gt (x y : Int64) : (lcmpV x y ≤ 0 ↔ ¬ y < x) ∧ (0 < lcmpV x y ↔ y < x) := by
  unfold lcmpV
  by_cases h : y < x
  · rw [if_pos h]
    exact ⟨⟨fun z => absurd z (by decide), fun z => absurd h z⟩, ⟨fun _ => h, fun _ => by decide⟩⟩
  · rw [if_neg h]
    by_cases e : x = y
    · rw [if_pos e]
      exact ⟨⟨fun _ => h, fun _ => by decide⟩, ⟨fun z => absurd z (by decide), fun z => absurd z h⟩⟩
    · rw [if_neg e]
      exact ⟨⟨fun _ => h, fun _ => by decide⟩, ⟨fun z => absurd z (by decide), fun z => absurd z h⟩⟩
/-- the class's spare jumper is the reference's jumper but for the fields in X -/
def SPJ (h : AH) (J : Nat → Int32) : Prop := (∀ k, 1 ≤ k → k ≤ 8 → h.1 72 k = J k) ∧ JK h 72
theorem PC.sp (c : AH) {k : Nat} (v : Int32) : PC c (sI c 72 k v) := ⟨fun q _ => by rw [sI_at, if_neg (by omega)], fun p q h => by rw [sI_at, if_neg (by omega)], fun _ _ => rfl, fun _ _ _ => rfl⟩
theorem PC.WT {c c' : AH} (p : PC c c') (h : WT c) : WT c' := fun n j hn => by rw [p.2.2.2 _ (by omega) (by omega)]; exact h n j hn
theorem PC.MR {c c' r : AH} {S G N T : Nat} (p : PC c c') (M : MR 42 c r S G N T) : MR 42 c' r S G N T := MR_cc M (fun k hk => p.2.1 42 k (by omega)) (fun i k hi _ _ => p.2.1 _ k (by omega)) (fun i hi => p.2.2.1 _ (by omega)) (fun t _ => ⟨p.2.1 _ t (by omega), p.2.1 _ t (by omega)⟩)
/-- the spare copied -/
theorem sp_copy {c r : AH} {S G N T j : Nat} (M : MR 42 c r S G N T) (hj : j < 4) : ∃ c', X2_copyFrom 72 (48 + j) c = some ((), c') ∧ PC c c' ∧ SPJ c' (RJ r j) := by
  obtain ⟨hc, κ, k1, k2, k3⟩ := M.2.2.1 j hj
  refine ⟨jcp 72 (48 + j) c, s_jcp (by omega) c, ⟨fun k _ => by rw [jcp_at, if_neg (by omega)], fun o k h => by rw [jcp_at, if_neg (by omega)], fun o h => by rw [jcp_22, if_neg (by omega)], fun _ _ _ => rfl⟩, fun k h1 h2 => ?_, κ, k1, ?_, ?_⟩
  · rw [jcp_at, if_pos ⟨rfl, h1, h2⟩]
    exact hc k h1 h2
  · rw [jcp_22, if_pos rfl]
    exact k2
  · rw [jcp_at, if_pos ⟨rfl, by omega, by omega⟩]
    exact k3
/-- a spread of the spare, told in the reference's numbers -/
theorem sp_spread {h : AH} {J : Nat → Int32} {S2 : Nat} {wd pl : Int32} (hs : SPJ h J) (hJ : NJ J) (hW : WT h) (hw : WW wd) (h4 : 4 ≤ S2) (h20 : S2 ≤ 20) (hp : -5000 ≤ pl.toInt) (hp2 : pl.toInt ≤ 5000) :
    ∃ c', X1_spread 72 (nI S2) wd pl 0 h = some ((), c') ∧ c'.1 = h.1 ∧ c'.2.2 = h.2.2 ∧ PC h c' ∧ Ph lN c' = RV J wd pl S2 p2 := by
  obtain ⟨c', a1, a2, a3, a4, a5, a6, a7, a8, a9, a10⟩ := u_spread (h := h) (p := 72) (S := S2) 0 hs.2 (NJ_J (fun k k1 k2 => (hs.1 k k1 k2).symm) hJ) hW hw h4 h20 hp hp2
  exact ⟨c', a1, a2, a3, k_PC a2 a3 a4, by rw [a7]; exact RV_J hs.1 wd pl S2 p2⟩
theorem bl_loop {c r : AH} {S G N T j : Nat} {pl : Int32} (M : MR 42 c r S G N T) (hW : WT c) (hj : j < 4) (epl : pl = r.1 9 j - pathS (r.1 2 j) (r.1 4 j) (r.1 5 j) (r.1 0 14) S) : ∀ (n v : Nat) (best : Int32) (most : Int64) (h g : AH), 5 < v + n → v ≤ 5 → PC c h → (∃ x, SPJ h (fun q => if q = 7 then x else RJ r j q)) → (∀ o k, ¬ (o = 8 ∧ k = j) → g.1 o k = r.1 o k) →
    ∃ b c' r', X10_bestLook_l48 pl n best most (nI v) h = some (b, c') ∧ X11_bestLook_l31 (nI j) (r.1 8 j) n best most (nI v) g = some (b, r') ∧ PC c c' ∧ PR T r r' := by
  have hR := M.1
  obtain ⟨rS, rG, rN, rT, hS, hG, hN, hT, hWW, hJ, hH⟩ := id hR
  have hpl := pl_b hR hj hWW
  rw [← epl] at hpl
  intro n
  induction n with
  | zero => intro v best most h g h1; omega
  | succ n ih =>
    intro v best most h g h1 h2 P hs hg
    obtain ⟨x, hs⟩ := hs
    rw [X10_bestLook_l48.eq_2, X11_bestLook_l31.eq_2]
    by_cases z : v = 5
    · subst z
      rw [if_pos (show (4 : Int32) < nI 5 from nI_lt (a := 4) (by decide) (by decide)), if_pos (show (5 : Int32) ≤ nI 5 from Int32.le_refl _), ck_nI _ hj (by decide), vl_e, nI_clamp (by omega)]
      refine ⟨_, _, _, rfl, rfl, P, ?_⟩
      have e : ∀ o k, (sI g 8 j (r.1 8 j)).1 o k = r.1 o k := by
        intro o k
        rw [sI_at]
        by_cases y : o = 8 ∧ k = j
        · rw [if_pos y, y.1, y.2]
        · rw [if_neg y, hg o k y]
      exact ⟨fun k _ => e 0 k, fun o k _ _ => e o k, fun t _ => ⟨e 10 t, e 11 t⟩, fun k => ⟨e 13 k, e 23 k⟩, fun k _ => e 17 k⟩
    · rw [if_neg (show ¬ (4 : Int32) < nI v from nI_nlt (a := 4) (by omega) (by decide)), if_neg (show ¬ (5 : Int32) ≤ nI v from nI_ge (b := 5) (by omega) (by decide)), vl_e, ck_nI _ hj (by decide), vl_e, nI_clamp (by omega)]
      have hJv : NJ (fun q => if q = 7 then nI v else RJ r j q) := nj_look (hJ j hj) (nI_pos (by omega)) (show ¬ (4 : Int32) < nI v from nI_nlt (a := 4) (by omega) (by decide))
      -- the class
      obtain ⟨h1', e1'⟩ : ∃ q, q = sI h 72 7 (nI v) := ⟨_, rfl⟩
      have P1 : PC c h1' := by rw [e1']; exact P.tr (PC.sp h (nI v))
      have s1 : SPJ h1' (fun q => if q = 7 then nI v else RJ r j q) := by
        rw [e1']
        refine ⟨fun k k1 k2 => ?_, ?_⟩
        · have e7 : h.1 72 k = if k = 7 then x else RJ r j k := hs.1 k k1 k2
          show (sI h 72 7 (nI v)).1 72 k = if k = 7 then nI v else RJ r j k
          rw [sI_at]
          by_cases y : k = 7
          · rw [if_pos ⟨rfl, y⟩, if_pos y]
          · rw [if_neg (fun q => y q.2), if_neg y, e7, if_neg y]
        · obtain ⟨κ, a, b, d⟩ := hs.2
          exact ⟨κ, a, b, by rw [sI_at, if_neg (by omega)]; exact d⟩
      have M1 := P1.MR M
      obtain ⟨h2', b1, b2, b3, b4, b5⟩ := sp_spread (wd := r.1 0 14) (S2 := S) s1 hJv (P1.WT hW) hWW hS.1 hS.2 hpl.1 hpl.2
      have b1' : X10_spreadAt 72 pl h1' = some ((), h2') := by
        unfold X10_spreadAt
        rw [M1.2.1.1, M1.2.1.2.1, b1, bd_s]
      -- the reference
      obtain ⟨g1, eg1⟩ : ∃ q, q = sI g 8 j (nI v) := ⟨_, rfl⟩
      have q1 : ∀ o k, ¬ (o = 8 ∧ k = j) → g1.1 o k = r.1 o k := fun o k y => by rw [eg1, sI_at, if_neg y, hg o k y]
      have q8 : g1.1 8 j = nI v := by rw [eg1, sI_at, if_pos ⟨rfl, rfl⟩]
      have eJ : ∀ k, 1 ≤ k → k ≤ 8 → RJ g1 j k = (fun q => if q = 7 then nI v else RJ r j q) k := by
        intro k k1 k2
        show g1.1 (k + 1) j = if k = 7 then nI v else r.1 (k + 1) j
        by_cases y : k = 7
        · rw [if_pos y, y]; exact q8
        · rw [if_neg y]; exact q1 _ _ (by omega)
      have q12 : g1.1 0 12 = nI S := by rw [q1 0 12 (by omega)]; exact rS
      have q14 : g1.1 0 14 = r.1 0 14 := q1 0 14 (by omega)
      have ep : g1.1 9 j - pathS (g1.1 2 j) (g1.1 4 j) (g1.1 5 j) (g1.1 0 14) S = pl := by
        rw [q1 9 j (by omega), q1 2 j (by omega), q1 4 j (by omega), q1 5 j (by omega), q14, epl]
      obtain ⟨g2, t1, t2⟩ := (u_count (h := g1) hj (NJ_J (fun k k1 k2 => (eJ k k1 k2).symm) hJv) q12 (by rw [q14]; exact hWW) hS.1 hS.2 hpl.1 hpl.2).2.2.1 0
      have t1' : X11_meanParts (nI j) g1 = some (RV (fun q => if q = 7 then nI v else RJ r j q) (r.1 0 14) pl S p2, g2) := by
        unfold X11_meanParts
        rw [s_placeR hj (by omega : S < 4000) q12, bd_s, ep, t1, bd_s, q14, RV_J eJ]
      rw [← e1', ← eg1, b1', bd_s, s_mean, bd_s, b5, t1', bd_s]
      have hq2 : ∀ o k, ¬ (o = 8 ∧ k = j) → g2.1 o k = r.1 o k := fun o k y => by rw [t2.1]; exact q1 o k y
      have hs2 : SPJ h2' (fun q => if q = 7 then nI v else RJ r j q) := ⟨fun k k1 k2 => by rw [b2]; exact s1.1 k k1 k2, s1.2.of b2 b3⟩
      have lc := lc_gt (RV (fun q => if q = 7 then nI v else RJ r j q) (r.1 0 14) pl S p2) most
      unfold X10_bestLook_j97 X11_bestLook_j70
      by_cases y : most < RV (fun q => if q = 7 then nI v else RJ r j q) (r.1 0 14) pl S p2
      · rw [if_neg (fun q => lc.1.mp q y), if_pos (lc.2.mpr y), vl_e, vl_e, nI_1]
        exact ih (v + 1) _ _ h2' g2 (by omega) (by omega) (P1.tr b4) ⟨_, hs2⟩ hq2
      · rw [if_pos (lc.1.mpr y), if_neg (fun q => y (lc.2.mp q)), vl_e, vl_e, nI_1]
        exact ih (v + 1) _ _ h2' g2 (by omega) (by omega) (P1.tr b4) ⟨_, hs2⟩ hq2
theorem o_bestLook {c r : AH} {a1 : Int32} (I : Inv c r) : SimE (X10_bestLook a1 c) (X11_bestLook a1 r) Inv := by
  obtain ⟨⟨S, G, N, T, M⟩, hW, hL, hRow, hRF, hIM⟩ := id I
  obtain ⟨R, ⟨cS, cW, cG, cN, cT⟩, cJ, cTr⟩ := id M
  obtain ⟨rS, rG, rN, rT, hS, hG, hN, hT, hWW, hJ, hH⟩ := id R
  rcases jm a1 hN with hz | ⟨j, hj, rfl⟩
  · have e1 : X10_bestLook a1 c = some (-1, sI c 4 1 (c.1 4 1 + 1)) := by
      simp only [X10_bestLook, nb_n cN hz, s_outside, s_noSuch, s_noPart, s_outsideTwo, s_first, bd_s, vl_e, i_0, i_10, i_1, i_2, i_3, i_4, i_6, if_true, if_false, rf_1]
    have e2 : X11_bestLook a1 r = some (-1, sI r 1 1 (r.1 1 1 + 1)) := by
      simp only [X11_bestLook, ij_n rN hz, s_bound, s_isIn, bd_s, vl_e, i_0, i_10, i_1, i_2, i_3, i_4, i_6, if_true, if_false, no_1]
    exact ⟨_, _, _, e1, e2, inv_ref I (by decide)⟩
  · have hj4 : j < 4 := by omega
    have hjc : (nI j).toNatClampNeg = j := nI_clamp (by omega)
    have hJC : ∀ k, 1 ≤ k → k ≤ 8 → c.1 (48 + j) k = r.1 (k + 1) j := (cJ j hj4).1
    have hJK : JK c (48 + j) := (cJ j hj4).2
    obtain ⟨c1, p1, p2', p3'⟩ := sp_copy M hj4
    have M1 := p2'.MR M
    obtain ⟨b, c', r', q1, q2, q3, q4⟩ := bl_loop (pl := r.1 9 j - pathS (r.1 2 j) (r.1 4 j) (r.1 5 j) (r.1 0 14) S) M1 (p2'.WT hW) hj4 rfl FU 0 0 (-1) c1 r (by unfold FU; omega) (by omega) PC.rf ⟨RJ r j 7, ⟨fun k k1 k2 => by
      show c1.1 72 k = if k = 7 then RJ r j 7 else RJ r j k
      rw [p3'.1 k k1 k2]
      by_cases y : k = 7
      · rw [if_pos y, y]
      · rw [if_neg y], p3'.2⟩⟩ (fun _ _ _ => rfl)
    have hpc : X10_placeOf (nI j) c1 = some (r.1 9 j - pathS (r.1 2 j) (r.1 4 j) (r.1 5 j) (r.1 0 14) S, c1) := by
      rw [s_placeC hj4 (M1.2.2.1 j hj4).2 (by omega : S < 4000) M1.2.1.1, pl_eq M1 hj4]
    have q1 : X10_bestLook_l48 (r.1 9 j - pathS (r.1 2 j) (r.1 4 j) (r.1 5 j) (r.1 0 14) S) FU 0 (-1) 0 c1 = some (b, c') := q1
    have q2 : X11_bestLook_l31 (nI j) (r.1 8 j) FU 0 (-1) 0 r = some (b, r') := q2
    have e1 : X10_bestLook (nI j) c = some (b, c') := by
      simp only [X10_bestLook, nb_y cN hN hj, s_at42 hj4, cs_in _ (zc42 hj4), s_outside, s_noSuch, s_noPart, s_outsideTwo, s_first, bd_s, vl_e, i_0, i_10, i_1, i_2, i_3, i_4, i_6, if_true, if_false, p1, hpc, q1]
    have e2 : X11_bestLook (nI j) r = some (b, r') := by
      simp only [X11_bestLook, ij_y rN hN hj, hj_ck hj4, hjc, bd_s, vl_e, i_0, i_10, i_1, i_2, i_3, i_4, i_6, if_true, if_false, q2]
    exact SimE.mk' e1 e2 rfl (Inv_f I (p2'.tr q3) (fun T' h1 h2 => by
      have e : T' = T := by rw [rT] at h1; exact ((nI_eq (by omega) (by omega)).mp h1).symm
      rw [e]; exact q4))
