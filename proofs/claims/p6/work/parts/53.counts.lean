/-! the class: one spread, and what is read off it -/
theorem ph_0 {h : AH} (hz : ∀ k, k < 1000 → h.2.1 31 k = 0) (g : Nat → Int64) : Ph g h = 0 :=
  sm_z (fun i hi => by rw [hz i hi, Int64.mul_zero])
/-- what a spread leaves -/
def SpO (p : Nat) (wd pl b : Int32) (S l : Nat) (h h' : AH) : Prop :=
  h'.1 = h.1 ∧ h'.2.2 = h.2.2 ∧ (∀ o, o ≠ 8 → o ≠ 31 → h'.2.1 o = h.2.1 o) ∧ h'.2.1 8 2 = shl64 1 (2 * nI S) ∧
  (∀ g : Nat → Int64, Ph g h' = RS (h.1 p 1) (h.1 p 2) (h.1 p 5) (h.1 p 6) wd pl (aimS (h.1 p 1) (h.1 p 2)) (S - l) l (fun _ n => g n.toNatClampNeg)) ∧
  h'.2.1 8 3 = RS (h.1 p 1) (h.1 p 2) (h.1 p 5) (h.1 p 6) wd pl (aimS (h.1 p 1) (h.1 p 2)) (S - l) l (fun x _ => if x < 0 then 1 else 0) ∧
  h'.2.1 8 4 = RS (h.1 p 1) (h.1 p 2) (h.1 p 5) (h.1 p 6) wd pl (aimS (h.1 p 1) (h.1 p 2)) (S - l) l (fun x _ => if x = b then 1 else 0)
theorem s_spread {h : AH} {p f pp s l S : Nat} {wd pl b : Int32} (J : JN h p f pp s l) (T : WT h) (hw : WW wd) (h4 : 4 ≤ S) (h20 : S ≤ 20) (hp : -5000 ≤ pl.toInt) (hp2 : pl.toInt ≤ 5000) : ∃ h', X1_spread p (nI S) wd pl b h = some ((), h') ∧ SpO p wd pl b S l h h' := by
  have J0 := J
  obtain ⟨hk, hf, ef, hpp, epp, hs, es, hl, el⟩ := J0
  obtain ⟨h2, a1, a2, a3⟩ := s_fillL 31 1000 0 (by decide) FU 0 h (by unfold FU; omega) (by omega)
  have a1' : J7_fill_d0a16 31 1000 0 h = some ((), h2) := by
    unfold J7_fill_d0a16
    rw [vl_e]
    exact a1
  unfold X1_spread
  rw [a1', bd_s, vl_e, vl_e]
  obtain ⟨h4', e4⟩ : ∃ g, g = sL (sL h2 8 3 0) 8 4 0 := ⟨_, rfl⟩
  rw [← e4]
  have q1 : h4'.1 = h.1 := by rw [e4]; exact a2.1
  have q2 : h4'.2.2 = h.2.2 := by rw [e4]; exact a2.2.1
  rw [q1, el, pk_sub (by omega : l ≤ S), vl_e, if_neg (nI_pos (by omega)), if_neg (show ¬ (20 : Int32) < nI S from nI_nlt (a := 20) (by omega) (by decide)), if_neg (nI_pos (by omega)), if_pos (show nI l ≤ 4 from nI_le (b := 4) hl (by decide)), vl_e]
  obtain ⟨h6, e6⟩ : ∃ g, g = sL h4' 8 2 (shl64 1 (2 * nI S)) := ⟨_, rfl⟩
  rw [← e6]
  have r1 : h6.1 = h.1 := by rw [e6]; exact q1
  have r2 : h6.2.2 = h.2.2 := by rw [e6]; exact q2
  have r3 : ∀ o j, h6.2.1 o j = if o = 8 ∧ j = 2 then shl64 1 (2 * nI S) else if o = 8 ∧ j = 4 then 0 else if o = 8 ∧ j = 3 then 0 else h2.2.1 o j := by
    intro o j
    rw [e6, sL_at, e4, sL_at, sL_at]
  have J6 : JN h6 p f pp s l := ⟨hk.of r1 r2, hf, by rw [r1]; exact ef, hpp, by rw [r1]; exact epp, hs, by rw [r1]; exact es, hl, by rw [r1]; exact el⟩
  have T6 : WT h6 := fun n j hn => by
    rw [r3, if_neg (by omega), if_neg (by omega), if_neg (by omega), a2.2.2 _ (by omega)]
    exact T n j hn
  rw [s_aimC J6.1, bd_s, vl_e, sg_0]
  obtain ⟨h', b1, b2⟩ := s_outer (e := S - l) (b := b) J6 T6 hw (by omega) hp hp2 FU 0 h6 (by unfold FU; omega) (by omega) (by
    have z : ∀ x : Int64, x = x + 0 := fun x => (Int64.add_zero x).symm
    exact ⟨SP.rf, fun g => z _, z _, z _⟩)
  refine ⟨h', b1, ?_⟩
  obtain ⟨⟨c1, c2, c3, c4⟩, c5, c6, c7⟩ := b2
  have z31 : ∀ k, k < 1000 → h6.2.1 31 k = 0 := fun k hk => by rw [r3, if_neg (by omega), if_neg (by omega), if_neg (by omega), a3, if_pos ⟨by omega, hk⟩]
  refine ⟨c1.trans r1, c2.trans r2, fun o o1 o2 => ?_, ?_, fun g => ?_, ?_, ?_⟩
  · rw [c3 o o1 o2]
    funext j
    rw [r3, if_neg (by omega), if_neg (by omega), if_neg (by omega), a2.2.2 _ o2]
  · rw [c4, r3, if_pos ⟨rfl, rfl⟩]
  · rw [c5, ph_0 z31, Int64.zero_add, r1]
  · rw [c6, r3, if_neg (by omega), if_neg (by omega), if_pos ⟨rfl, rfl⟩, Int64.zero_add, r1]
  · rw [c7, r3, if_neg (by omega), if_pos ⟨rfl, rfl⟩, Int64.zero_add, r1]
theorem s_meanL (h : AH) : ∀ (n v : Nat), 1000 < v + n → v ≤ 1000 → X1_meanWays_l4 n (sm v (fun v => lN v * h.2.1 31 v)) (nI v) h = some (Ph lN h, h) := by
  intro n
  induction n with
  | zero => intro v h1 h2; omega
  | succ n ih =>
    intro v h1 h2
    rw [X1_meanWays_l4.eq_2]
    by_cases c : v = 1000
    · subst c
      rw [if_pos (show (999 : Int32) < nI 1000 from nI_lt (a := 999) (by decide) (by decide))]
      rfl
    · rw [if_neg (show ¬ (999 : Int32) < nI v from nI_nlt (a := 999) (by omega) (by decide)), ck_nI _ (by omega) (by decide), vl_e, vl_e, nI_clamp (by omega), nI_1, nI_l (by omega)]
      exact ih (v + 1) (by omega) (by omega)
theorem s_mean (h : AH) : X1_meanWays h = some (Ph lN h, h) := by
  unfold X1_meanWays
  have e : (0 : Int64) = sm 1 (fun v => lN v * h.2.1 31 v) := by
    show (0 : Int64) = 0 + lN 0 * h.2.1 31 0
    rw [Int64.zero_add]
    exact Int64.zero_mul.symm
  rw [e]
  exact s_meanL h FU 1 (by unfold FU; omega) (by omega)
def gtI (a u : Nat) : Int64 := if a < u then 1 else 0
theorem s_pastL (a : Nat) (h : AH) : ∀ (n v : Nat), 1000 < v + n → a < v → v ≤ 1000 → X1_waysPast_l11 n (sm v (fun u => gtI a u * h.2.1 31 u)) (nI v) h = some (Ph (gtI a) h, h) := by
  intro n
  induction n with
  | zero => intro v h1 h2; omega
  | succ n ih =>
    intro v h1 h2 h3
    rw [X1_waysPast_l11.eq_2]
    by_cases c : v = 1000
    · subst c
      rw [if_pos (show (999 : Int32) < nI 1000 from nI_lt (a := 999) (by decide) (by decide))]
      rfl
    · rw [if_neg (show ¬ (999 : Int32) < nI v from nI_nlt (a := 999) (by omega) (by decide)), ck_nI _ (by omega) (by decide), vl_e, vl_e, nI_clamp (by omega), nI_1]
      have e : sm v (fun u => gtI a u * h.2.1 31 u) + h.2.1 31 v = sm (v + 1) (fun u => gtI a u * h.2.1 31 u) := by
        show _ = sm v (fun u => gtI a u * h.2.1 31 u) + gtI a v * h.2.1 31 v
        unfold gtI
        rw [if_pos h2, Int64.one_mul]
      rw [e]
      exact ih (v + 1) (by omega) (by omega) (by omega)
theorem s_past {a : Nat} (ha : a < 1000) (h : AH) : X1_waysPast (nI a) h = some (Ph (gtI a) h, h) := by
  unfold X1_waysPast
  have e1 : mx32 0 (nI a + 1) = nI (a + 1) := by
    unfold mx32
    rw [nI_1, if_pos (show (0 : Int32) < nI (a + 1) from nI_lt (a := 0) (by omega) (by omega))]
  have e : (0 : Int64) = sm (a + 1) (fun u => gtI a u * h.2.1 31 u) := by
    rw [sm_z]
    intro i hi
    unfold gtI
    rw [if_neg (by omega), Int64.zero_mul]
  rw [vl_e, e1, e]
  exact s_pastL a h FU (a + 1) (by unfold FU; omega) (by omega) (by omega)
/-! the reference: counted -/
def coI (what asked x ln : Int32) : Int32 :=
  if what = 0 then (if x = asked then 1 else 0)
  else if what = 1 then (if 0 ≤ x then 0 else 1)
  else if what = 2 then (if 0 ≤ x then ln else 0)
  else if x < 0 then 0 else if ln ≤ asked then 0 else 1
theorem s_cone {j : Nat} (hj : j < 4) (x loss what asked : Int32) (h : AH) : X11_countedOne (nI j) x loss what asked h = some (coI what asked x (lenS (h.1 2 j) (h.1 3 j) (h.1 7 j) (h.1 0 14) x loss), h) := by
  unfold X11_countedOne coI
  simp only [vl_e, s_lenR hj, bd_s]
  repeat (first | rfl | split)
theorem lc_0 (x : Int64) : lcmpV x 0 = 0 ↔ x = 0 := by
  unfold lcmpV
  by_cases h1 : 0 < x
  · rw [if_pos h1]
    exact ⟨fun z => absurd z (by decide), fun z => by rw [z] at h1; exact absurd h1 Int64.lt_irrefl⟩
  · rw [if_neg h1]
    by_cases h2 : x = 0
    · rw [if_pos h2]
      exact ⟨fun _ => h2, fun _ => rfl⟩
    · rw [if_neg h2]
      exact ⟨fun z => absurd z (by decide), fun z => absurd z h2⟩
theorem sm_sq (m n : Nat) (f : Nat → Int64) : sm (m * n) f = sm m (fun a => sm n (fun b => f (n * a + b))) := by
  induction m with
  | zero => rw [Nat.zero_mul]; rfl
  | succ m ih =>
    rw [Nat.succ_mul, sm_app, ih]
    show _ = sm m (fun a => sm n (fun b => f (n * a + b))) + sm n (fun b => f (n * m + b))
    rw [Nat.mul_comm m n]
def bhR0 (pl sl : Int32) (a : Nat) : Int32 := pl - sl * (nI a - 20)
def bhR (pl sl aim : Int32) (l a c : Nat) : Int32 := bhR0 pl sl a - (bkS aim l (bhR0 pl sl a) + sl * (nI c - 20))
theorem bh0_eq {pl sl : Int32} {e i : Nat} (he : e ≤ 20) (hi : i ≤ 2 * e) : bhR0 pl sl (20 - e + i) = bh0S pl sl e i := by
  unfold bhR0 bh0S
  have e1 : nI (20 - e + i) - 20 = nI i - nI e := by
    rw [fa_eq, pk_sub_toInt (by omega) (by omega)]
    show (nI (20 - e + i) - nI 20).toInt = _
    rw [pk_sub_toInt (by omega) (by decide)]
    omega
  rw [e1]
theorem bh_eq {pl sl aim : Int32} {e l i t : Nat} (he : e ≤ 20) (hl : l ≤ 4) (hi : i ≤ 2 * e) (ht : t ≤ 2 * l) : bhR pl sl aim l (20 - e + i) (20 - l + t) = bhS pl sl aim e l i t := by
  unfold bhR bhS
  rw [bh0_eq he hi, ← Int32.sub_sub]
  have e1 : nI (20 - l + t) - 20 = nI t - nI l := by
    rw [fa_eq, pk_sub_toInt (by omega) (by omega)]
    show (nI (20 - l + t) - nI 20).toInt = _
    rw [pk_sub_toInt (by omega) (by decide)]
    omega
  rw [e1]
def lsR (pl sl aim : Int32) (l a : Nat) : Int32 := ab32 (bkS aim l (bhR0 pl sl a)) / 4
section CNT
variable {j l e : Nat} {what asked pl : Int32} {g : AH}
/-- one summand of the reference -/
def cF (g : AH) (j l e : Nat) (what asked pl : Int32) (k : Nat) : Int64 :=
  (lN (wy e (k / 41)) * lN (wy l (k % 41))) * (coI what asked (bhR pl (g.1 6 j) (aimS (g.1 2 j) (g.1 3 j)) l (k / 41) (k % 41)) (lenS (g.1 2 j) (g.1 3 j) (g.1 7 j) (g.1 0 14) (bhR pl (g.1 6 j) (aimS (g.1 2 j) (g.1 3 j)) l (k / 41) (k % 41)) (lsR pl (g.1 6 j) (aimS (g.1 2 j) (g.1 3 j)) l (k / 41)))).toInt64
theorem s_countL (hj : j < 4) (hl : l ≤ 4) (h18 : ∀ k, k < 41 → g.2.1 18 k = lN (wy e k)) (h19 : ∀ k, k < 41 → g.2.1 19 k = lN (wy l k)) : ∀ (n k : Nat), 1681 < k + n → k ≤ 1681 →
    X11_counted_l37 (nI j) pl what asked (nI l) n (sm k (cF g j l e what asked pl)) (nI k) g = some (sm 1681 (cF g j l e what asked pl), g) := by
  intro n
  induction n with
  | zero => intro k h1 h2; omega
  | succ n ih =>
    intro k h1 h2
    rw [X11_counted_l37.eq_2]
    by_cases c : k = 1681
    · subst c
      rw [if_pos (show (1681 : Int32) ≤ nI 1681 from Int32.le_refl _)]
    · have q1 : nI k / 41 = nI (k / 41) := pk_div (a := k) (d := 41) (by omega) (by decide) (by decide)
      have q2 : rm32 (nI k) 41 = nI (k % 41) := pk_rem (a := k) (d := 41) (by omega) (by decide) (by decide)
      rw [if_neg (show ¬ (1681 : Int32) ≤ nI k from nI_ge (b := 1681) (by omega) (by decide)), q1, q2, ck_nI _ (by omega) (by decide), ck_nI _ (by omega) (by decide), vl_e, nI_clamp (by omega), nI_clamp (by omega), h18 _ (by omega), h19 _ (by omega)]
      have nx := ih (k + 1) (by omega) (by omega)
      by_cases d : lN (wy e (k / 41)) * lN (wy l (k % 41)) = 0
      · rw [if_pos ((lc_0 _).mpr d)]
        unfold X11_counted_j175
        rw [vl_e, nI_1]
        have e0 : sm (k + 1) (cF g j l e what asked pl) = sm k (cF g j l e what asked pl) := by
          show sm k (cF g j l e what asked pl) + cF g j l e what asked pl k = _
          unfold cF
          rw [d, Int64.zero_mul, Int64.add_zero]
        rw [e0] at nx
        exact nx
      · rw [if_neg (fun z => d ((lc_0 _).mp z)), ck_nI _ hj (by decide), vl_e, nI_clamp (by omega)]
        have fin : X11_counted_j116 (nI j) pl what asked (nI l) (sm k (cF g j l e what asked pl)) (nI k) (lN (wy e (k / 41)) * lN (wy l (k % 41))) (bhR0 pl (g.1 6 j) (k / 41)) (X11_counted_l37 (nI j) pl what asked (nI l) n) (bkS (aimS (g.1 2 j) (g.1 3 j)) l (bhR0 pl (g.1 6 j) (k / 41))) g = some (sm 1681 (cF g j l e what asked pl), g) := by
          unfold X11_counted_j116
          rw [ck_nI _ hj (by decide), q2, nI_clamp (by omega), vl_e]
          have two : ∀ s0 : Int32, s0 = ab32 (bkS (aimS (g.1 2 j) (g.1 3 j)) l (bhR0 pl (g.1 6 j) (k / 41))) → X11_counted_j162 (nI j) pl what asked (nI l) (nI k) (X11_counted_l37 (nI j) pl what asked (nI l) n) s0 (bhR pl (g.1 6 j) (aimS (g.1 2 j) (g.1 3 j)) l (k / 41) (k % 41)) (nI j) (lN (wy e (k / 41)) * lN (wy l (k % 41))) (sm k (cF g j l e what asked pl)) g = some (sm 1681 (cF g j l e what asked pl), g) := by
            intro s0 hs0
            unfold X11_counted_j162 X11_counted_j175
            rw [s_cone hj, bd_s, vl_e, vl_e, nI_1, hs0]
            exact nx
          have ea := ab_neg (bkS (aimS (g.1 2 j) (g.1 3 j)) l (bhR0 pl (g.1 6 j) (k / 41)))
          by_cases w : 0 ≤ bkS (aimS (g.1 2 j) (g.1 3 j)) l (bhR0 pl (g.1 6 j) (k / 41))
          · rw [if_pos w]
            rw [if_pos w] at ea
            exact two _ ea
          · rw [if_neg w]
            rw [if_neg w] at ea
            exact two _ ea
        by_cases w : l = 0
        · rw [if_pos (by rw [w]; rfl)]
          have e0 : bkS (aimS (g.1 2 j) (g.1 3 j)) l (bhR0 pl (g.1 6 j) (k / 41)) = 0 := if_pos w
          rw [e0] at fin
          exact fin
        · rw [if_neg (nI_ne0 (by omega) (by omega)), s_aimR hj, bd_s]
          have e0 : bkS (aimS (g.1 2 j) (g.1 3 j)) l (bhR0 pl (g.1 6 j) (k / 41)) = (bhR0 pl (g.1 6 j) (k / 41) - aimS (g.1 2 j) (g.1 3 j)) / 2 := if_neg w
          rw [e0] at fin
          exact fin
/-- the sum of the reference is the sum over all slips -/
theorem cF_RS (he : e ≤ 20) (hl : l ≤ 4) {φ : Int32 → Int32 → Int64} {kd fg sl pc wd : Int32} (e1 : g.1 2 j = kd) (e2 : g.1 3 j = fg) (e3 : g.1 6 j = sl) (e4 : g.1 7 j = pc) (e5 : g.1 0 14 = wd)
    (hφ : ∀ x loss : Int32, (coI what asked x (lenS kd fg pc wd x loss)).toInt64 = φ x (if 0 ≤ x then lenS kd fg pc wd x loss else 0)) : sm 1681 (cF g j l e what asked pl) = RS kd fg sl pc wd pl (aimS kd fg) e l φ := by
  subst e1; subst e2; subst e3; subst e4; subst e5
  rw [show 1681 = 41 * 41 from rfl, sm_sq, sm_win he]
  · unfold RS
    refine sm_c (fun i hi => ?_)
    rw [sm_win (e := l) (by omega)]
    · refine sm_c (fun t ht => ?_)
      unfold cF
      rw [show (41 * (20 - e + i) + (20 - l + t)) / 41 = 20 - e + i from by omega, show (41 * (20 - e + i) + (20 - l + t)) % 41 = 20 - l + t from by omega, wy_in he, wy_in (by omega), bh_eq he hl (by omega) (by omega), hφ]
      unfold lnS lsS lsR
      rw [bh0_eq he (by omega)]
    · intro k hk ho
      unfold cF
      rw [show (41 * (20 - e + i) + k) % 41 = k from by omega, wy_out (n := l) ho]
      show lN _ * 0 * _ = 0
      rw [Int64.mul_zero, Int64.zero_mul]
  · intro k hk ho
    refine sm_z (fun c hc => ?_)
    unfold cF
    rw [show (41 * k + c) / 41 = k from by omega, wy_out (n := e) ho]
    show 0 * _ * _ = 0
    rw [Int64.zero_mul, Int64.zero_mul]
end CNT
/-- what findWays of the reference touches -/
def WO (h h' : AH) : Prop := h'.1 = h.1 ∧ h'.2.2 = h.2.2 ∧ ∀ o, o ≠ 18 → o ≠ 19 → h'.2.1 o = h.2.1 o
theorem s_two {h : AH} {S l : Nat} (hl : l ≤ S) (hS : S ≤ 20) {β : Type} (K : AH → Option (β × AH)) : ∃ h', (bd (X11_findWays 18 41 (nI (S - l)) h) fun _ h3 => bd (X11_findWays 19 41 (nI l) h3) fun _ h5 => K h5) = K h' ∧ WO h h' ∧ (∀ k, k < 41 → h'.2.1 18 k = lN (wy (S - l) k)) ∧ (∀ k, k < 41 → h'.2.1 19 k = lN (wy l k)) := by
  obtain ⟨h1, a1, a2, a3⟩ := s_findWays (p := 18) (n := S - l) (by omega) h
  obtain ⟨h2, b1, b2, b3⟩ := s_findWays (p := 19) (n := l) (by omega) h1
  refine ⟨h2, by rw [a1, bd_s, b1, bd_s], ⟨b2.1.trans a2.1, b2.2.1.trans a2.2.1, fun o o1 o2 => (b2.2.2 o o2).trans (a2.2.2 o o1)⟩, fun k hk => ?_, b3⟩
  rw [b2.2.2 18 (by decide)]
  exact a3 k hk
theorem s_counted {h : AH} {j S l : Nat} (hj : j < 4) (e12 : h.1 0 12 = nI S) (h4 : 4 ≤ S) (h20 : S ≤ 20) (el : h.1 8 j = nI l) (hl : l ≤ 4) (pl what asked : Int32) {φ : Int32 → Int32 → Int64}
    (hφ : ∀ x loss : Int32, (coI what asked x (lenS (h.1 2 j) (h.1 3 j) (h.1 7 j) (h.1 0 14) x loss)).toInt64 = φ x (if 0 ≤ x then lenS (h.1 2 j) (h.1 3 j) (h.1 7 j) (h.1 0 14) x loss else 0)) :
    ∃ h', X11_counted (nI j) pl what asked h = some (RS (h.1 2 j) (h.1 3 j) (h.1 6 j) (h.1 7 j) (h.1 0 14) pl (aimS (h.1 2 j) (h.1 3 j)) (S - l) l φ, h') ∧ WO h h' := by
  unfold X11_counted
  rw [ck_nI _ hj (by decide), vl_e, nI_clamp (by omega), el, e12, pk_sub (by omega : l ≤ S)]
  obtain ⟨h', a1, a2, a3, a4⟩ := s_two (h := h) (l := l) (S := S) (by omega) h20 (X11_counted_l37 (nI j) pl what asked (nI l) FU 0 0)
  refine ⟨h', ?_, a2⟩
  rw [a1]
  have b1 := s_countL (g := h') (e := S - l) (what := what) (asked := asked) (pl := pl) hj hl a3 a4 FU 0 (by unfold FU; omega) (by omega)
  have b2 : X11_counted_l37 (nI j) pl what asked (nI l) FU 0 0 h' = some (sm 1681 (cF h' j l (S - l) what asked pl), h') := b1
  rw [b2, cF_RS (g := h') (by omega) hl (by rw [a2.1]) (by rw [a2.1]) (by rw [a2.1]) (by rw [a2.1]) (by rw [a2.1]) hφ]
