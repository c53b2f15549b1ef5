/-! ON -/
def mvI (r : AH) (S k : Nat) : Int32 := (RV (RJ r k) (r.1 0 14) (r.1 9 k - pathS (r.1 2 k) (r.1 4 k) (r.1 5 k) (r.1 0 14) S) S p2 / lN (2 ^ (2 * S))).toInt32
theorem wb_c2 : ∀ k, k < 64 → (((nI k).toInt64 &&& 63).toBitVec.smod 64).toNat = k := by decide +kernel
theorem bit_1 : ∀ m, m < 16 → ∀ d, d < 5 → (sar32 (nI m) (nI d) &&& 1 = 0) ∨ (sar32 (nI m) (nI d) &&& 1 = 1) := by decide +kernel
theorem shl_1 : ∀ d, d < 5 → shl32 1 (nI d) = nI (2 ^ d) := by decide +kernel
section ON
variable {S G N T j : Nat} {c r : AH}
theorem mv_b (R : RN r S G N T) {k : Nat} (hk : k < 4) : (∃ x, mvI r S k = nI x ∧ x ≤ 435) ∧ (∃ V, RV (RJ r k) (r.1 0 14) (r.1 9 k - pathS (r.1 2 k) (r.1 4 k) (r.1 5 k) (r.1 0 14) S) S p2 = lN V ∧ V < 2 ^ 62 ∧ mvI r S k = nI (V / 2 ^ (2 * S))) := by
  have hS := R.2.2.2.2.1
  have hw := R.2.2.2.2.2.2.2.2.1
  have hJ := R.2.2.2.2.2.2.2.2.2.1 k hk
  have hpl := pl_b R hk hw
  have hpw := pw_b hS.2
  obtain ⟨V, v1, v2⟩ := rv_2 hJ hw hS.1 hS.2 hpl.1 hpl.2
  have hV : V < 2 ^ 62 := by omega
  have e : mvI r S k = nI (V / 2 ^ (2 * S)) := by
    unfold mvI
    rw [v1, pk_lDiv (by omega) hpw.2 (by omega), lN_i]
  exact ⟨⟨V / 2 ^ (2 * S), e, Nat.div_le_of_le_mul (by rw [Nat.mul_comm]; exact v2)⟩, V, v1, hV, e⟩
theorem mv_nn (R : RN r S G N T) {k : Nat} (hk : k < 4) : 0 ≤ (mvI r S k).toInt := by
  obtain ⟨⟨x, e, hx⟩, _⟩ := mv_b R hk
  rw [e, toInt_nI (by omega)]
  omega
/-- the class's means, from the one in turn -/
theorem l_onC (M : MR 42 c r S G N T) (hW : WT c) (a v2 a1 v5 : Int32) : ∀ (f k : Nat) (ct : AH) (u : Nat), N < k + f → u ≤ k → k ≤ N → PC c ct → (∀ q, u ≤ q → q < k → ct.1 35 q = mvI r S q) →
    ∃ c', X10_on_l95 a v2 a1 v5 f (nI k) ct = X10_on_l151 a v2 a1 v5 FU 0 0 c' ∧ PC c c' ∧ ∀ q, u ≤ q → q < N → c'.1 35 q = mvI r S q := by
  have hN := M.1.2.2.2.2.2.2.1
  have hS := M.1.2.2.2.2.1
  have hw := M.1.2.2.2.2.2.2.2.2.1
  intro f
  induction f with
  | zero => intro k ct u h1 h2 h3; omega
  | succ f ih =>
    intro k ct u h1 h2 h3 p h35
    have Mt := p.MR M
    rw [X10_on_l95.eq_2, Mt.2.1.2.2.2.1]
    by_cases z : k = N
    · subst z
      rw [if_pos (Int32.le_refl _)]
      exact ⟨ct, rfl, p, h35⟩
    · have hk : k < 4 := by omega
      obtain ⟨c', s1, s2, s3, s4, s5, s6, s7, s8, s9, s10⟩ := k_now 0 Mt (p.WT hW) hk
      obtain ⟨_, V, v1, v2', v3⟩ := mv_b M.1 hk
      have M' := (k_PC s2 s3 s4).MR Mt
      have e2 : (2 : Int32) * nI S = nI (2 * S) := pk_mul 2 S
      have e3 : sar64 (lN V) (nI (2 * S)) = lN (V / 2 ^ (2 * S)) := pf_shr (wb_c2 _ (by omega)) v2'
      rw [if_neg (nI_ge (by omega) (by omega)), s1, bd_s, s_mean, bd_s, s7, v1, ck_nI _ (by omega) (by decide), vl_e, vl_e, nI_clamp (by omega), M'.2.1.1, e2, e3, lN_i, nI_1, ← v3]
      refine ih (k + 1) _ u (by omega) (by omega) (by omega) ((p.tr (k_PC s2 s3 s4)).tr ⟨fun q _ => by rw [sI_n (by omega)], fun o q h => by rw [sI_n (by omega)], fun _ _ => rfl, fun _ _ _ => rfl⟩) (fun q q1 q2 => ?_)
      rw [sI_at]
      by_cases y : q = k
      · rw [if_pos ⟨rfl, y⟩, y]
      · rw [if_neg (fun w => y w.2), s2]
        exact h35 q q1 (by omega)
theorem l_onR (R : RN r S G N T) (a v2 a1 v5 : Int32) : ∀ (f k : Nat) (rt : AH), N < k + f → k ≤ N → (∀ o q, o ≠ 24 → rt.1 o q = r.1 o q) → (∀ q, q < k → rt.1 24 q = mvI r S q) →
    ∃ r', X11_on_l74 a v2 a1 v5 f (nI k) rt = X11_on_l114 a v2 a1 v5 FU 0 0 r' ∧ (∀ o q, o ≠ 24 → r'.1 o q = r.1 o q) ∧ ∀ q, q < N → r'.1 24 q = mvI r S q := by
  have hN := R.2.2.2.2.2.2.1
  have hS := R.2.2.2.2.1
  have hw := R.2.2.2.2.2.2.2.2.1
  have hpw := pw_b hS.2
  intro f
  induction f with
  | zero => intro k rt h1 h2; omega
  | succ f ih =>
    intro k rt h1 h2 q h24
    rw [X11_on_l74.eq_2, q 0 15 (by decide), R.2.2.1]
    by_cases z : k = N
    · subst z
      rw [if_pos (Int32.le_refl _)]
      exact ⟨rt, rfl, q, h24⟩
    · have hk : k < 4 := by omega
      have hpl := pl_b R hk hw
      have e14 : rt.1 0 14 = r.1 0 14 := q 0 14 (by decide)
      have e12 : rt.1 0 12 = nI S := by rw [q 0 12 (by decide)]; exact R.1
      have hRJ : ∀ m, 1 ≤ m → m ≤ 8 → RJ r k m = RJ rt k m := fun m m1 m2 => (q (m + 1) k (by omega)).symm
      obtain ⟨r', t1, t2⟩ := (u_count (h := rt) hk (NJ_J hRJ (R.2.2.2.2.2.2.2.2.2.1 k hk)) e12 (by rw [e14]; exact hw) hS.1 hS.2 hpl.1 hpl.2).2.2.1 0
      rw [e14, ← RV_J hRJ] at t1
      have ep : X11_placeOf (nI k) rt = some (r.1 9 k - pathS (r.1 2 k) (r.1 4 k) (r.1 5 k) (r.1 0 14) S, rt) := by
        rw [s_placeR hk (by omega : S < 4000) e12, e14, q 9 k (by decide), q 2 k (by decide), q 4 k (by decide), q 5 k (by decide)]
      have em : X11_meanParts (nI k) rt = some (RV (RJ r k) (r.1 0 14) (r.1 9 k - pathS (r.1 2 k) (r.1 4 k) (r.1 5 k) (r.1 0 14) S) S p2, r') := by
        unfold X11_meanParts
        rw [ep, bd_s, t1, bd_s]
      rw [if_neg (nI_ge (by omega) (by omega)), em, bd_s, k_all (r := r') (by rw [t2.1]; exact e12) hS.2, bd_s, if_neg (lN_n0 hpw.2 (by omega)), ck_nI _ (by omega) (by decide), vl_e, vl_e, nI_clamp (by omega), nI_1]
      refine ih (k + 1) _ (by omega) (by omega) (fun o m ho => by rw [sI_n (by omega), t2.1]; exact q o m ho) (fun m hm => ?_)
      rw [sI_at]
      by_cases y : m = k
      · rw [if_pos ⟨rfl, y⟩, y]
        rfl
      · rw [if_neg (fun w => y w.2), t2.1]
        exact h24 m (by omega)
/-- one way of who comes to the mean: class and reference add alike -/
theorem l_onA {c1 r1 : AH} (M : MR 42 c1 r1 S G N T) (hj : j < N) {u m : Nat} (hu : u ≤ N) (hm : m < 16) (v2 : Int32) (x : Nat → Int32) (hx : ∀ k, k < N → 0 ≤ (x k).toInt) (h35 : ∀ q, u ≤ q → q < N → c1.1 35 q = x q) (h24 : ∀ q, q < N → r1.1 24 q = x q) (acc : Nat) (K1 : Int32 → Int32 → AH → Option (Int64 × AH)) (K2 : Int64 → Int32 → AH → Option (Int64 × AH)) :
    ∀ (f k : Nat) (h g : AH) (B : BB), N < k + f → u ≤ k → k ≤ N → FR c1 h → h.1 5 0 = nI N → RKC h B → FT r1 g → RKR g B → BP B →
    ∃ (b : Nat) (h' g' : AH), b ≤ 1 ∧ X10_on_l183 (nI j) v2 (nI u) (nI (N - u)) (nI acc) (nI m) K1 f (nI k) h = K1 (nI (acc + b)) (nI (m + 1)) h' ∧ X11_on_l135 (nI j) v2 (nI u) (nI (N - u)) (lN acc) (nI m) K2 f (nI (k - u)) g = K2 (lN (acc + b)) (nI (m + 1)) g' ∧ FR c1 h' ∧ FT r1 g' := by
  have hN := M.1.2.2.2.2.2.2.1
  have hG := M.1.2.2.2.2.2.1
  intro f
  induction f with
  | zero => intro k h g B h1 h2 h3; omega
  | succ f ih =>
    intro k h g B h1 h2 h3 F e5 RC E RR hB
    have Mh := MR_c (T := T) (CA.FR (by decide) F) M
    have Rg := RN_c (RA.FT E) M.1
    rw [X10_on_l183.eq_2, X11_on_l135.eq_2, Mh.2.1.2.2.2.1]
    by_cases z : k = N
    · subst z
      obtain ⟨g2, b1, b2, b3⟩ := s_sorts hN Rg.2.2.1 hB RR
      have E2 := E.tr (FT.O b2)
      have Rg2 := RN_c (RA.FT E2) M.1
      have z0 : (0 : Int32).toInt = 0 := rfl
      have hr : rk B k j < 4 := by have := rk_lt (B := B) hj; omega
      rw [if_pos (Int32.le_refl _), if_pos (Int32.le_refl _), s_ahead hN hj hB (by rw [z0]; omega) RC e5, bd_s, ad_0 hB, s_finC Mh.2.1.2.2.2.1 Mh.2.1.2.2.1 hN hG.2, bd_s, b1, bd_s, s_rankOf hN Rg2.2.2.1 hB b3 hj, bd_s, s_finR Rg2.2.2.1 Rg2.2.1 hN hG.2, bd_s]
      unfold X10_on_j260 X11_on_j205
      have a0 : ∀ v : Nat, nI v + 0 = nI (v + 0) := fun v => nI_add v 0
      have a1 : ∀ v : Nat, lN v + 1 = lN (v + 1) := fun v => lN_add v 1
      have a2 : ∀ v : Nat, lN v + 0 = lN (v + 0) := fun v => lN_add v 0
      simp only [vl_e, nI_1, a0, a1, a2]
      by_cases y : nI (min G k) ≤ nI (rk B k j)
      · rw [if_pos y, if_pos y]
        exact ⟨0, h, g2, by omega, rfl, rfl, F, E2⟩
      · rw [if_neg y, if_neg y]
        exact ⟨1, h, g2, by omega, rfl, rfl, F, E2⟩
    · have e1 : nI k - nI u = nI (k - u) := pk_sub h2
      have e2 : nI u + nI (k - u) = nI k := by rw [nI_add]; congr 1; omega
      have c35 : h.1 35 k = x k := by rw [F.1 35 k (by decide) (by decide) (by decide)]; exact h35 k h2 (by omega)
      have r24 : g.1 24 k = x k := by rw [E.1 24 k (by decide) (by decide) (by decide)]; exact h24 k (by omega)
      have e4 : nI (k - u) + 1 = nI (k + 1 - u) := by rw [nI_1]; congr 1; omega
      rw [if_neg (nI_ge (by omega) (by omega)), if_neg (nI_ge (by omega) (by omega)), e1, e2]
      unfold X10_on_j225 X11_on_j173
      rw [ck_nI _ (by omega) (by decide), ck_nI _ (by omega) (by decide), nI_clamp (by omega), c35, r24]
      have go : ∀ y : Int32, 0 ≤ y.toInt → ∃ (b : Nat) (h' g' : AH), b ≤ 1 ∧ (bd (X6_add (nI k) y h) fun _ h23 => vl (nI k + 1) fun x24 => X10_on_l183 (nI j) v2 (nI u) (nI (N - u)) (nI acc) (nI m) K1 f x24 h23) = K1 (nI (acc + b)) (nI (m + 1)) h' ∧ (bd (X11_comesLength (nI k) y g) fun _ h22 => vl (nI (k - u) + 1) fun x23 => X11_on_l135 (nI j) v2 (nI u) (nI (N - u)) (lN acc) (nI m) K2 f x23 h22) = K2 (lN (acc + b)) (nI (m + 1)) g' ∧ FR c1 h' ∧ FT r1 g' := by
        intro y hy
        obtain ⟨h', p1, p2, p3, p4⟩ := s_add (by omega : k < 4) RC y
        obtain ⟨g', q1, q2, q3⟩ := s_cl (by omega : k < 4) RR y
        rw [p1, q1, bd_s, bd_s, vl_e, vl_e, nI_1, e4]
        exact ih (k + 1) h' g' (ad B k y) (by omega) (by omega) (by omega) (F.tr p3) (by rw [p4]; exact e5) p2 (E.tr (FT.B q3)) q2 (bp_ad hB hy)
      rcases bit_1 m hm (k - u) (by omega) with b | b
      · rw [b, if_pos rfl, if_neg (by decide)]
        exact go 0 (by decide)
      · rw [b, if_neg (by decide), if_pos rfl]
        exact go (x k) (hx k (by omega))
/-- all ways counted -/
theorem l_onM {c1 r1 : AH} (M : MR 42 c1 r1 S G N T) (hj : j < N) {u : Nat} (hu : u ≤ N) (v2 : Int32) (x : Nat → Int32) (hx : ∀ k, k < N → 0 ≤ (x k).toInt) (h35 : ∀ q, u ≤ q → q < N → c1.1 35 q = x q) (h24 : ∀ q, q < N → r1.1 24 q = x q) :
    ∀ (f m acc : Nat) (h g : AH), 2 ^ (N - u) < m + f → m ≤ 2 ^ (N - u) → acc ≤ m → FR c1 h → FT r1 g →
    ∃ v h' g', X10_on_l151 (nI j) v2 (nI u) (nI (N - u)) f (nI acc) (nI m) h = some (v, h') ∧ X11_on_l114 (nI j) v2 (nI u) (nI (N - u)) f (lN acc) (nI m) g = some (v, g') ∧ FR c1 h' ∧ FT r1 g' := by
  have hN := M.1.2.2.2.2.2.2.1
  have hp16 : 2 ^ (N - u) ≤ 2 ^ 4 := Nat.pow_le_pow_right (by decide) (by omega)
  have hp0 : 0 < 2 ^ (N - u) := Nat.two_pow_pos _
  intro f
  induction f with
  | zero => intro m acc h g h1 h2; omega
  | succ f ih =>
    intro m acc h g h1 h2 h3 F E
    have Mh := MR_c (T := T) (CA.FR (by decide) F) M
    have Rg := RN_c (RA.FT E) M.1
    have h24' := T24 Mh
    rw [X10_on_l151.eq_2, X11_on_l114.eq_2, shl_1 _ (by omega)]
    by_cases z : m = 2 ^ (N - u)
    · rw [if_pos (nI_le (by omega) (by omega)), if_pos (nI_le (by omega) (by omega))]
      have sh1 : shl64 1 (nI (N - u)) = lN (2 ^ (N - u)) := by
        have := sh64 1 (k := N - u) (by omega)
        rw [Nat.one_mul] at this
        exact this
      obtain ⟨v, b1, b2⟩ := s_frac (A := acc) (B := 2 ^ (N - u)) (by omega) hp0 (by omega) v2
      rw [nI_64 (by omega), sh1, b1, bd_s, b2, bd_s]
      exact ⟨v, h, g, rfl, rfl, F, E⟩
    · obtain ⟨h2', b1, b2, b3, b4⟩ := m_rankC Mh (by decide) (n := T) (by omega)
      rw [Nat.min_self] at b2
      obtain ⟨g2, d1, d2, d3⟩ := m_bestR Rg (Nat.le_refl T)
      have eB : BR g T = BR r1 T := BR_c (RA.FT E) (Nat.le_refl T)
      rw [eB] at d2
      rw [if_neg (nI_ge (by omega) (by omega)), if_neg (nI_ge (by omega) (by omega)), Mh.2.1.2.2.2.2, b1, bd_s, Rg.2.2.2.1, d1, bd_s]
      obtain ⟨b, h', g', q0, q1, q2, q3, q4⟩ := l_onA M hj hu (m := m) (by omega) v2 x hx h35 h24 acc (X10_on_l151 (nI j) v2 (nI u) (nI (N - u)) f) (X11_on_l114 (nI j) v2 (nI u) (nI (N - u)) f) FU u h2' g2 (BR r1 T) (by unfold FU; omega) (Nat.le_refl _) hu (F.tr b3) b4 b2 (E.tr (FT.B d3)) d2 (BR_p r1 T)
      rw [Nat.sub_self] at q2
      have q2 : X11_on_l135 (nI j) v2 (nI u) (nI (N - u)) (lN acc) (nI m) (X11_on_l114 (nI j) v2 (nI u) (nI (N - u)) f) FU 0 g2 = _ := q2
      rw [q1, q2]
      exact ih (m + 1) (acc + b) h' g' (by omega) (by omega) (by omega) q3 q4
end ON
theorem o_on {c r : AH} {a1 a2 : Int32} (I : Inv c r) : SimE (X10_on a1 a2 c) (X11_on a1 a2 r) Inv := by
  obtain ⟨⟨S, G, N, T, M⟩, hW, hL, hRow, hRF, hIM⟩ := id I
  have hN := M.1.2.2.2.2.2.2.1
  have h24 := T24 M
  have hF := F_b M.1
  have hT := M.1.2.2.2.2.2.2.2.1
  have hd := rd_6 (N := N) (F := min G N) (T := T) hN hF.1 hF.2.2 hT
  have rfl' : ∀ {c r : AH} {x : Int32}, Inv c r → (x = -1 ∨ x = -2 ∨ x = -3 ∨ x = -4 ∨ x = -6) → SimE (bd (X10_refuse x c) fun a h => some (4000000000000000000 - a.toInt64, h)) (bd (X11_lowest x r) fun a h => some (a, h)) Inv := by
    intro c r x I hx
    obtain ⟨w, hw, e⟩ := s_ref hx
    rw [(e c).1, (e r).2.2.2, bd_s, bd_s]
    exact ⟨_, _, _, rfl, rfl, inv_ref I hw⟩
  have rne : ∀ x : Int32, (x = -1 ∨ x = -2 ∨ x = -3 ∨ x = -4 ∨ x = -6) → ¬ x = 0 := fun x hx e => by rw [e] at hx; exact absurd hx (by decide)
  have r40 : ∀ (x : Int32) (g : AH), (x = -1 ∨ x = -2 ∨ x = -3 ∨ x = -4 ∨ x = -6) → X11_on_j40 a1 a2 x g = bd (X11_lowest x g) fun r30 h31 => some (r30, h31) := by
    intro x g hx
    unfold X11_on_j40
    rw [if_neg (rne x hx)]
  have c26 : ∀ (x : Int32) (s0 s1 s2 : Int32), (if s2 = 0 then (if s1 = 0 then s0 else s1) else s2) = x → (x = -1 ∨ x = -2 ∨ x = -3 ∨ x = -4 ∨ x = -6) → X10_on_j26 a1 a2 s0 s1 s2 c = bd (X10_refuse x c) fun r30 h31 => some (4000000000000000000 - r30.toInt64, h31) := by
    intro x s0 s1 s2 e hx
    unfold X10_on_j26
    rw [s_first, bd_s, s_first, bd_s, e, if_neg (rne x hx)]
  unfold X10_on X11_on
  have sp : ∀ (P : Prop) [Decidable P] (A B : Option (Int64 × AH)) (D : Option (Int64 × AH)), A = D → B = D → (if P then A else B) = D := by
    intro P _ A B D h1 h2
    by_cases y : P
    · rw [if_pos y]; exact h1
    · rw [if_neg y]; exact h2
  rcases jm a1 hN with hz | ⟨j, hj, rfl⟩
  · rw [nb_n M.2.1.2.2.2.1 hz, bd_s, s_noPart, bd_s, m_roundC M, bd_s, ij_n M.1.2.2.1 hz, bd_s, i_0, r40 _ _ (by decide), sp _ _ _ _ (c26 (-1) 0 _ (-1) (by rw [i_1]) (by decide)) (c26 (-1) (-3) _ (-1) (by rw [i_1]) (by decide))]
    exact rfl' I (by decide)
  · rw [nb_y M.2.1.2.2.2.1 hN hj, bd_s, s_noPart, bd_s, m_roundC M, bd_s, ij_y M.1.2.2.1 hN hj, bd_s, i_10, s_isIn, bd_s]
    by_cases h0 : a2 < 0 ∨ 1 < a2
    · rw [if_pos h0, if_pos h0, i_0, r40 _ _ (by decide), sp _ _ _ _ (c26 (-2) 0 _ 0 (by rw [i_0, i_2]) (by decide)) (c26 (-2) (-3) _ 0 (by rw [i_0, i_2]) (by decide))]
      exact rfl' I (by decide)
    · rw [if_neg h0, if_neg h0, i_10]
      obtain ⟨r1, d1, d2⟩ := m_roundR M.1
      have R1 := RN_c (RA.FT d2) M.1
      have I1 : Inv c r1 := Inv_f I PC.rf (fun _ _ _ => PR.FT d2)
      have M1 : MR 42 c r1 S G N T := MR_r (RA.FT d2) M
      rw [d1, bd_s]
      by_cases y : rd N (min G N) T ≤ 2
      · rw [if_pos (show nI (rd N (min G N) T) ≤ 2 from nI_le (b := 2) y (by decide)), if_pos (show nI (rd N (min G N) T) ≤ 2 from nI_le (b := 2) y (by decide))]
        unfold X10_on_j26 X11_on_j40 X10_on_j77
        have er : rm32 (nI T) (nI N) = nI (T % N) := pk_rem (by omega) (by omega) (by omega)
        have hm := md_lt (x := T) (F := N) (by omega)
        rw [s_first, bd_s, s_first, bd_s, i_0, i_0, i_0, i_0, M.2.1.2.2.2.1, M.2.1.2.2.2.2, R1.2.2.1, R1.2.2.2.1, if_neg (nI_nle (by omega) (by omega)), if_neg (nI_ne0 (by omega) (by omega)), if_neg (nI_ne0 (by omega) (by omega)), er]
        have es : nI N - nI (T % N) = nI (N - T % N) := pk_sub (by omega)
        have hpw : 2 ^ (N - T % N) ≤ 2 ^ 4 := Nat.pow_le_pow_right (by decide) (by omega)
        simp only [vl_e, es]
        obtain ⟨c', b1, b2, b3⟩ := l_onC M1 hW (nI j) a2 (nI (T % N)) (nI (N - T % N)) FU (T % N) c (T % N) (by unfold FU; omega) (Nat.le_refl _) (by omega) PC.rf (fun q q1 q2 => by omega)
        obtain ⟨r', f1, f2, f3⟩ := l_onR R1 (nI j) a2 (nI (T % N)) (nI (N - T % N)) FU 0 r1 (by unfold FU; omega) (by omega) (fun _ _ _ => rfl) (fun q hq => by omega)
        have f1 : X11_on_l74 (nI j) a2 (nI (T % N)) (nI (N - T % N)) FU 0 r1 = _ := f1
        have p2' : PR T r1 r' := ⟨fun k _ => f2 0 k (by decide), fun o k h1 h2 => f2 o k (by omega), fun t _ => ⟨f2 10 t (by decide), f2 11 t (by decide)⟩, fun k => ⟨f2 13 k (by decide), f2 23 k (by decide)⟩, fun k _ => f2 17 k (by decide)⟩
        have M2 : MR 42 c' r' S G N T := MR_r (RA.PR p2') (b2.MR M1)
        obtain ⟨v, h', g', q1, q2, q3, q4⟩ := l_onM M2 hj (u := T % N) (by omega) a2 (mvI r1 S) (fun k hk => mv_nn R1 (by omega)) b3 f3 FU 0 0 c' r' (by unfold FU; omega) (Nat.zero_le _) (Nat.le_refl _) FR.rf FT.rf
        have q1 : X10_on_l151 (nI j) a2 (nI (T % N)) (nI (N - T % N)) FU 0 0 c' = _ := q1
        have q2 : X11_on_l114 (nI j) a2 (nI (T % N)) (nI (N - T % N)) FU 0 0 r' = _ := q2
        rw [b1, f1, q1, q2]
        have I2 : Inv c' r' := Inv_f I1 b2 (fun T' e h => by
          have : T' = T := (nI_eq (by omega) (by omega)).mp (e.symm.trans R1.2.2.2.1)
          rw [this]
          exact p2')
        exact SimE.mk' rfl rfl rfl (Inv_f I2 (PC.FR q3) (fun _ _ _ => PR.FT q4))
      · rw [if_neg (show ¬ nI (rd N (min G N) T) ≤ 2 from nI_ge (a := 2) (by omega) (by omega)), if_neg (show ¬ nI (rd N (min G N) T) ≤ 2 from nI_ge (a := 2) (by omega) (by omega)), r40 _ _ (by decide), c26 (-3) (-3) 0 0 (by rw [i_0, i_0]) (by decide)]
        exact rfl' I1 (by decide)
