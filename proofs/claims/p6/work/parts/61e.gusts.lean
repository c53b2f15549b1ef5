/-! GUSTS -/
section GU
variable {c r : AH} {S G N T n j : Nat} {w : Nat → Nat}
theorem ww_n {x : Nat} (h : x ≤ 18) : WW (nI x - 9) := ⟨x, by omega, rfl⟩
theorem l_gusts (I : Inv c r) (M : MR 42 c r S G N T) (hj : j < N) (hn : n ≤ 12) (e : c.1 0 8 = nI n) (e' : r.1 0 34 = nI n) (hw : ∀ k, k < n → w k ≤ 99 ∧ c.1 3 k = nI (w k) ∧ r.1 23 k = nI (w k)) (h18 : ∀ k, k < n → w k ≤ 18) :
    ∀ (f t : Nat) (x : Int32) (m : Int64) (ct rt : AH), n < t + f → t ≤ n → PC c ct → (∀ o k, ¬ (o = 0 ∧ k = 14) → rt.1 o k = r.1 o k) → ∃ v c' r', X10_gusts_l56 (48 + j) f x m (nI t) ct = some (v, c') ∧ X11_gusts_l79 (nI j) (r.1 0 14) f x m (nI t) rt = some (v, r') ∧ PC c c' ∧ r'.1 = r.1 := by
  obtain ⟨R, ⟨cS, cW, cG, cN, cT⟩, cJ, cTr⟩ := id M
  obtain ⟨rS, rG, rN, rT, hS, hG, hN, hT, hWW, hJ, hH⟩ := id R
  have hj4 : j < 4 := by omega
  have hJC : ∀ k, 1 ≤ k → k ≤ 8 → c.1 (48 + j) k = r.1 (k + 1) j := (cJ j hj4).1
  intro f
  induction f with
  | zero => intro t x m ct rt h1 h2; omega
  | succ f ih =>
    intro t x m ct rt h1 h2 p q
    have e8 : ct.1 0 8 = nI n := by rw [p.1 8 (by decide)]; exact e
    have e34 : rt.1 0 34 = nI n := by rw [q 0 34 (by omega)]; exact e'
    rw [X10_gusts_l56.eq_2, X11_gusts_l79.eq_2, e8, e34]
    by_cases z : t = n
    · subst z
      rw [if_pos (Int32.le_refl _), if_pos (Int32.le_refl _), vl_e]
      refine ⟨x, ct, _, rfl, rfl, p, ?_⟩
      funext o k
      rw [sI_at]
      by_cases y : o = 0 ∧ k = 14
      · rw [if_pos y, y.1, y.2]
      · rw [if_neg y]; exact q o k y
    · have It := Inv_f I p (fun _ _ _ => PR.rf)
      have Mt : MR 42 ct r S G N T := MR_k M (fun o k h1 h2 => p.2.1 o k (by omega)) (fun o h1 h2 => p.2.2.1 o (by omega)) RA.rf
      have hww : WW (nI (w t) - 9) := ww_n (h18 t (by omega))
      have hpl := pl_b R hj4 hww
      have hcj : ∀ k, 1 ≤ k → k ≤ 8 → ct.1 (48 + j) k = r.1 (k + 1) j := (Mt.2.2.1 j hj4).1
      obtain ⟨c', s1, s2, s3, s4, s5, s6, s7, s8, s9, s10⟩ := k_spread 0 Mt It.2.1 hj4 hww hS.1 hS.2 hpl.1 hpl.2
      obtain ⟨g, eg⟩ : ∃ g, g = sI rt 0 14 (nI (w t) - 9) := ⟨_, rfl⟩
      have qg : ∀ o k, ¬ (o = 0 ∧ k = 14) → g.1 o k = r.1 o k := fun o k h => by rw [eg, sI_n h]; exact q o k h
      have g14 : g.1 0 14 = nI (w t) - 9 := by rw [eg, sI_y]
      have hRJ : ∀ k, 1 ≤ k → k ≤ 8 → RJ r j k = RJ g j k := fun k k1 k2 => (qg (k + 1) j (by omega)).symm
      have gS : g.1 0 12 = nI S := by rw [qg 0 12 (by omega)]; exact rS
      have hcn := u_count (h := g) (j := j) (S := S) hj4 (NJ_J hRJ (hJ j hj4)) gS (by rw [g14]; exact hww) hS.1 hS.2 hpl.1 hpl.2
      obtain ⟨r', t1, t2⟩ := hcn.2.2.1 0
      have ep : X11_placeOf (nI j) g = some (r.1 9 j - pathS (r.1 2 j) (r.1 4 j) (r.1 5 j) (nI (w t) - 9) S, g) := by
        rw [s_placeR hj4 (by omega : S < 4000) gS, g14, qg 9 j (by omega), qg 2 j (by omega), qg 4 j (by omega), qg 5 j (by omega)]
      have ev : RV (RJ g j) (g.1 0 14) (r.1 9 j - pathS (r.1 2 j) (r.1 4 j) (r.1 5 j) (nI (w t) - 9) S) S p2 = RV (RJ r j) (nI (w t) - 9) (r.1 9 j - pathS (r.1 2 j) (r.1 4 j) (r.1 5 j) (nI (w t) - 9) S) S p2 := by
        rw [g14, RV_J hRJ]
      rw [ev] at t1
      have hw99 := hw t (by omega)
      have k3 : ct.1 3 t = nI (w t) := by rw [p.2.1 3 t (by omega)]; exact hw99.2.1
      have k23 : rt.1 23 t = nI (w t) := by rw [q 23 t (by omega)]; exact hw99.2.2
      rw [if_neg (nI_ge (by omega) (by omega)), if_neg (nI_ge (by omega) (by omega)), ck_nI _ (by omega) (by decide), ck_nI _ (by omega) (by decide), nI_clamp (by omega), k3, k23, vl_e, vl_e, ← eg]
      unfold X11_meanParts
      rw [Mt.2.1.1, s_path (Mt.2.2.1 j hj4).2 (by omega : S < 4000), bd_s, hcj 1 (by omega) (by omega), hcj 3 (by omega) (by omega), hcj 4 (by omega) (by omega), hcj 8 (by omega) (by omega), s1, bd_s, s_mean, bd_s, s7, ep, bd_s, t1, bd_s, bd_s]
      unfold X10_gusts_j138 X11_gusts_j128
      have p' : PC c c' := p.tr (k_PC s2 s3 s4)
      have q' : ∀ o k, ¬ (o = 0 ∧ k = 14) → r'.1 o k = r.1 o k := fun o k h => by rw [t2.1]; exact qg o k h
      simp only [vl_e, nI_1]
      by_cases y : lcmpV (RV (RJ r j) (nI (w t) - 9) (r.1 9 j - pathS (r.1 2 j) (r.1 4 j) (r.1 5 j) (nI (w t) - 9) S) S p2) m ≤ 0
      · rw [if_pos y, if_neg (show ¬ (0 : Int32) < _ from Int32.not_lt.mpr y)]
        exact ih (t + 1) _ _ c' r' (by omega) (by omega) p' q'
      · rw [if_neg y, if_pos (show (0 : Int32) < _ from Int32.not_le.mp y)]
        exact ih (t + 1) _ _ c' r' (by omega) (by omega) p' q'
/-- no minute over the bound: class asks for the greatest, the reference one by one -/
theorem l_g16 (hn : n ≤ 12) (e' : r.1 0 34 = nI n) (hw : ∀ k, k < n → w k ≤ 99 ∧ r.1 23 k = nI (w k)) (a : Int32) : ∀ (f t : Nat), n < t + f → t ≤ n → (∀ k, k < t → w k ≤ 18) → ((∀ k, k < n → w k ≤ 18) ∧ X11_gusts_l16 a f 0 (nI t) r = X11_gusts_j52 a 0 r) ∨ ((¬ ∀ k, k < n → w k ≤ 18) ∧ X11_gusts_l16 a f 0 (nI t) r = X11_gusts_j52 a (-3) r) := by
  intro f
  induction f with
  | zero => intro t h1 h2; omega
  | succ f ih =>
    intro t h1 h2 h3
    rw [X11_gusts_l16.eq_2, e']
    by_cases z : t = n
    · subst z
      rw [if_pos (Int32.le_refl _)]
      exact Or.inl ⟨h3, rfl⟩
    · rw [if_neg (nI_ge (by omega) (by omega)), i_0, ck_nI _ (by omega) (by decide), nI_clamp (by omega), (hw t (by omega)).2]
      unfold X11_gusts_j45
      simp only [vl_e, nI_1]
      have h99 := (hw t (by omega)).1
      by_cases y : w t ≤ 18
      · rw [if_pos (show nI (w t) ≤ 18 from nI_le (b := 18) y (by decide))]
        exact ih (t + 1) (by omega) (by omega) (fun k hk => by
          by_cases d : k = t
          · rw [d]; exact y
          · exact h3 k (by omega))
      · rw [if_neg (show ¬ nI (w t) ≤ 18 from nI_ge (a := 18) (by omega) (by omega))]
        refine Or.inr ⟨fun q => y (q t (by omega)), ?_⟩
        cases f with
        | zero => omega
        | succ f =>
          rw [X11_gusts_l16.eq_2, e', i_3]
          split <;> rfl
end GU
theorem o_gusts {c r : AH} {a1 : Int32} (I : Inv c r) : SimE (X10_gusts a1 c) (X11_gusts a1 r) Inv := by
  obtain ⟨⟨S, G, N, T, M⟩, hW, hL, hRow, hRF, hIM⟩ := id I
  have hN := M.1.2.2.2.2.2.2.1
  obtain ⟨n, w, hn, e, e', hw⟩ := RW_w hRow
  have hwc : ∀ k, k < n → w k ≤ 99 ∧ c.1 3 k = nI (w k) := fun k hk => ⟨(hw k hk).1, (hw k hk).2.1⟩
  have g : X10_greatestFrom 0 c = some (nI (pmx w n), c) := by
    have h := s_gr hn e hwc (p := 0) (Nat.zero_le _)
    have e0 : (fun k => if 0 ≤ k then w k else 0) = w := by funext k; exact if_pos (Nat.zero_le _)
    rw [e0] at h
    exact h
  have hb2 : pmx w n ≤ 99 := pmx_le n (fun k hk => (hw k hk).1)
  have j52 : ∀ (a x : Int32), (x = -1 ∨ x = -3) → X11_gusts_j52 a x r = bd (X11_no x r) fun r11 h12 => some (r11, h12) := by
    intro a x hx
    unfold X11_gusts_j52
    rw [if_neg (by rcases hx with h | h <;> rw [h] <;> decide)]
  have j21 : ∀ (a x : Int32), (x = 0 ∨ x = -3) → X10_gusts_j21 a x (-1) c = bd (X10_refuse (-1) c) fun r11 h12 => some (r11, h12) := by
    intro a x hx
    unfold X10_gusts_j21
    rw [s_first, bd_s, i_1, i_1]
  unfold X10_gusts X11_gusts X11_gusts_j13
  rcases jm a1 hN with hz | ⟨j, hj, rfl⟩
  · rw [nb_n M.2.1.2.2.2.1 hz, bd_s, g, bd_s, ij_n M.1.2.2.1 hz, bd_s, i_0, j21 _ _ (Or.inl rfl), j21 _ _ (Or.inr rfl)]
    have e1 : ∀ (x : Option (Int32 × AH)) (P : Prop) [Decidable P], (if P then x else x) = x := fun x P _ => by split <;> rfl
    have e2 : X11_gusts_l16 a1 FU (-1) 0 r = X11_gusts_j52 a1 (-1) r := by
      unfold FU
      rw [X11_gusts_l16.eq_2, i_1, e1]
    rw [e1, e2, j52 _ _ (Or.inl rfl)]
    exact rfs (x := -1) I (by decide)
  · rw [nb_y M.2.1.2.2.2.1 hN hj, bd_s, g, bd_s, ij_y M.1.2.2.1 hN hj, bd_s, i_10]
    have hj4 : j < 4 := by omega
    rcases l_g16 hn e' (fun k hk => ⟨(hw k hk).1, (hw k hk).2.2⟩) (nI j) FU 0 (by unfold FU; omega) (Nat.zero_le _) (fun k hk => by omega) with ⟨a1, a2⟩ | ⟨a1, a2⟩
    · have a2 : X11_gusts_l16 (nI j) FU 0 0 r = X11_gusts_j52 (nI j) 0 r := a2
      have hp : pmx w n ≤ 18 := pmx_le n a1
      rw [a2, if_pos (show nI (pmx w n) ≤ 18 from nI_le (b := 18) hp (by decide))]
      unfold X10_gusts_j21 X11_gusts_j52
      rw [s_first, bd_s, i_0, i_0, i_0, s_at42 hj4, bd_s, cs_in _ (zc42 hj4)]
      simp only [vl_e]
      obtain ⟨v, c', r', e1, e2, p, q⟩ := l_gusts I M hj hn e e' hw a1 FU 0 (-9) (-1) c r (by unfold FU; omega) (Nat.zero_le _) PC.rf (fun _ _ _ => rfl)
      exact SimE.mk' e1 e2 rfl (Inv_f I p (fun _ _ _ => PR.L q))
    · have a2 : X11_gusts_l16 (nI j) FU 0 0 r = X11_gusts_j52 (nI j) (-3) r := a2
      have hp : ¬ pmx w n ≤ 18 := fun q => a1 (fun k hk => Nat.le_trans (le_pmx n hk) q)
      rw [a2, if_neg (show ¬ nI (pmx w n) ≤ 18 from nI_ge (a := 18) (by omega) (by omega)), j52 _ _ (Or.inr rfl)]
      unfold X10_gusts_j21
      rw [s_first, bd_s, i_0, i_3]
      exact rfs (x := -3) I (by decide)
