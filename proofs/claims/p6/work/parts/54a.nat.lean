/-! the sums as natural numbers, their bounds -/
def nsm : Nat → (Nat → Nat) → Nat
  | 0, _ => 0
  | n + 1, f => nsm n f + f n
theorem sm_n {n : Nat} {f : Nat → Int64} {F : Nat → Nat} (h : ∀ i, i < n → f i = lN (F i)) : sm n f = lN (nsm n F) := by
  induction n with
  | zero => rfl
  | succ n ih =>
    show sm n f + f n = lN (nsm n F + F n)
    rw [ih (fun i hi => h i (by omega)), h n (by omega), lN_add]
theorem nsm_le {n : Nat} {F G : Nat → Nat} (h : ∀ i, i < n → F i ≤ G i) : nsm n F ≤ nsm n G := by
  induction n with
  | zero => exact Nat.le_refl 0
  | succ n ih => exact Nat.add_le_add (ih (fun i hi => h i (by omega))) (h n (by omega))
theorem nsm_mul (n a : Nat) (F : Nat → Nat) : nsm n (fun i => a * F i) = a * nsm n F := by
  induction n with
  | zero => rfl
  | succ n ih =>
    show nsm n (fun i => a * F i) + a * F n = a * (nsm n F + F n)
    rw [ih, Nat.mul_add]
theorem nsm_mulr (n a : Nat) (F : Nat → Nat) : nsm n (fun i => F i * a) = nsm n F * a := by
  induction n with
  | zero => exact (Nat.zero_mul a).symm
  | succ n ih =>
    show nsm n (fun i => F i * a) + F n * a = (nsm n F + F n) * a
    rw [ih, Nat.add_mul]
theorem nsm_cb1 (n : Nat) : ∀ m, nsm (m + 1) (cb (n + 1)) = nsm (m + 1) (cb n) + nsm m (cb n) := by
  intro m
  induction m with
  | zero => rfl
  | succ m ih =>
    show nsm (m + 1) (cb (n + 1)) + cb (n + 1) (m + 1) = (nsm (m + 1) (cb n) + cb n (m + 1)) + (nsm m (cb n) + cb n m)
    rw [ih, cb_s]
    unfold cbp
    rw [if_pos (by omega), Nat.add_sub_cancel]
    omega
theorem nsm_cb (n : Nat) : ∀ m, n < m → nsm m (cb n) = 2 ^ n := by
  induction n with
  | zero =>
    intro m hm
    induction m with
    | zero => omega
    | succ m ih =>
      show nsm m (cb 0) + cb 0 m = 1
      by_cases c : m = 0
      · subst c; rfl
      · rw [ih (by omega)]
        show 2 ^ 0 + (if m = 0 then 1 else 0) = 1
        rw [if_neg c]
  | succ n ih =>
    intro m hm
    obtain ⟨k, rfl⟩ : ∃ k, m = k + 1 := ⟨m - 1, by omega⟩
    rw [nsm_cb1, ih (k + 1) (by omega), ih k (by omega), Nat.pow_succ]
    omega
theorem RS_cong {kd fg sl pc wd pl aim : Int32} {e l : Nat} {φ φ' : Int32 → Int32 → Int64} (h : ∀ i t, i ≤ 2 * e → t ≤ 2 * l → φ (bhS pl sl aim e l i t) (lnS kd fg sl pc wd pl aim e l i t) = φ' (bhS pl sl aim e l i t) (lnS kd fg sl pc wd pl aim e l i t)) : RS kd fg sl pc wd pl aim e l φ = RS kd fg sl pc wd pl aim e l φ' := by
  unfold RS
  refine sm_c (fun i hi => sm_c (fun t ht => ?_))
  rw [h i t (by omega) (by omega)]
theorem RS_n {kd fg sl pc wd pl aim : Int32} {e l M : Nat} {φ : Int32 → Int32 → Int64} {ψ : Nat → Nat → Nat} (h : ∀ i t, i ≤ 2 * e → t ≤ 2 * l → φ (bhS pl sl aim e l i t) (lnS kd fg sl pc wd pl aim e l i t) = lN (ψ i t) ∧ ψ i t ≤ M) : ∃ V, RS kd fg sl pc wd pl aim e l φ = lN V ∧ V ≤ M * 2 ^ (2 * (e + l)) := by
  refine ⟨nsm (2 * e + 1) (fun i => nsm (2 * l + 1) (fun t => (cb (2 * e) i * cb (2 * l) t) * ψ i t)), ?_, ?_⟩
  · unfold RS
    refine sm_n (fun i hi => sm_n (fun t ht => ?_))
    rw [(h i t (by omega) (by omega)).1, lN_mul, lN_mul]
  · have h1 : nsm (2 * e + 1) (fun i => nsm (2 * l + 1) (fun t => (cb (2 * e) i * cb (2 * l) t) * ψ i t)) ≤ nsm (2 * e + 1) (fun i => nsm (2 * l + 1) (fun t => (cb (2 * e) i * cb (2 * l) t) * M)) :=
      nsm_le (fun i hi => nsm_le (fun t ht => Nat.mul_le_mul_left _ (h i t (by omega) (by omega)).2))
    have h2 : nsm (2 * e + 1) (fun i => nsm (2 * l + 1) (fun t => (cb (2 * e) i * cb (2 * l) t) * M)) = M * 2 ^ (2 * (e + l)) := by
      have h3 : (fun i => nsm (2 * l + 1) (fun t => (cb (2 * e) i * cb (2 * l) t) * M)) = fun i => cb (2 * e) i * (2 ^ (2 * l) * M) := by
        funext i
        rw [nsm_mulr, nsm_mul, nsm_cb (2 * l) _ (by omega), Nat.mul_assoc]
      rw [h3, nsm_mulr, nsm_cb (2 * e) _ (by omega), ← Nat.mul_assoc, ← Nat.pow_add, Nat.mul_comm, show 2 * e + 2 * l = 2 * (e + l) from by omega]
    omega
/-- a jumper's sums, by its numbers -/
def RV (J : Nat → Int32) (wd pl : Int32) (S : Nat) (φ : Int32 → Int32 → Int64) : Int64 := RS (J 1) (J 2) (J 5) (J 6) wd pl (aimS (J 1) (J 2)) (S - (J 7).toNatClampNeg) (J 7).toNatClampNeg φ
def NJ (J : Nat → Int32) : Prop := JB (J 1) (J 2) (J 3) (J 4) (J 5) (J 6) (J 7) (J 8)
def p0 (b : Int32) (x _ : Int32) : Int64 := if x = b then 1 else 0
def p1 (x _ : Int32) : Int64 := if x < 0 then 1 else 0
def p2 (_ n : Int32) : Int64 := lN n.toNatClampNeg
def p3 (a : Nat) (_ n : Int32) : Int64 := gtI a n.toNatClampNeg
def pL (v : Nat) (_ n : Int32) : Int64 := if n.toNatClampNeg = v then 1 else 0
theorem RV_J {J J' : Nat → Int32} (h : ∀ k, 1 ≤ k → k ≤ 8 → J k = J' k) (wd pl : Int32) (S : Nat) (φ : Int32 → Int32 → Int64) : RV J wd pl S φ = RV J' wd pl S φ := by
  unfold RV
  rw [h 1 (by omega) (by omega), h 2 (by omega) (by omega), h 5 (by omega) (by omega), h 6 (by omega) (by omega), h 7 (by omega) (by omega)]
theorem NJ_J {J J' : Nat → Int32} (h : ∀ k, 1 ≤ k → k ≤ 8 → J k = J' k) (n : NJ J) : NJ J' := by
  unfold NJ at n ⊢
  rw [← h 1 (by omega) (by omega), ← h 2 (by omega) (by omega), ← h 3 (by omega) (by omega), ← h 4 (by omega) (by omega), ← h 5 (by omega) (by omega), ← h 6 (by omega) (by omega), ← h 7 (by omega) (by omega), ← h 8 (by omega) (by omega)]
  exact n
section RVS
variable {J : Nat → Int32} {wd pl : Int32} {S : Nat}
/-- a run's LENGTH is a small number -/
theorem rv_ln (hJ : NJ J) (hw : WW wd) (h4 : 4 ≤ S) (h20 : S ≤ 20) (hp : -5000 ≤ pl.toInt) (hp2 : pl.toInt ≤ 5000) : (J 7).toNatClampNeg ≤ 4 ∧ J 7 = nI (J 7).toNatClampNeg ∧ ∀ i t, i ≤ 2 * (S - (J 7).toNatClampNeg) → t ≤ 2 * (J 7).toNatClampNeg → ∃ n : Nat, n ≤ 435 ∧ lnS (J 1) (J 2) (J 5) (J 6) wd pl (aimS (J 1) (J 2)) (S - (J 7).toNatClampNeg) (J 7).toNatClampNeg i t = nI n := by
  obtain ⟨κ, f, a, g, s, p, l, m, hκ, hf, ha, hg, hs, hpp, hl, hm, e1, e2, e3, e4, e5, e6, e7, e8⟩ := hJ
  have el : (J 7).toNatClampNeg = l := by rw [e7, nI_clamp (by omega)]
  rw [el]
  have hab := aim_b (kd := J 1) hf e2
  exact ⟨hl, e7, fun i t hi ht => ln_b hf e2 hpp e6 hw hs e5 (by omega) hl hi ht hp hp2 hab.1 hab.2⟩
theorem rv_cong (hJ : NJ J) (hw : WW wd) (h4 : 4 ≤ S) (h20 : S ≤ 20) (hp : -5000 ≤ pl.toInt) (hp2 : pl.toInt ≤ 5000) {φ φ' : Int32 → Int32 → Int64} (h : ∀ x n, n ≤ 435 → φ x (nI n) = φ' x (nI n)) : RV J wd pl S φ = RV J wd pl S φ' := by
  have hz := rv_ln hJ hw h4 h20 hp hp2
  refine RS_cong (fun i t hi ht => ?_)
  obtain ⟨n, hn, e⟩ := hz.2.2 i t hi ht
  rw [e]
  exact h _ n hn
theorem rv_n (hJ : NJ J) (hw : WW wd) (h4 : 4 ≤ S) (h20 : S ≤ 20) (hp : -5000 ≤ pl.toInt) (hp2 : pl.toInt ≤ 5000) {M : Nat} {φ : Int32 → Int32 → Int64} (h : ∀ x n, n ≤ 435 → ∃ k, k ≤ M ∧ φ x (nI n) = lN k) : ∃ V, RV J wd pl S φ = lN V ∧ V ≤ M * 2 ^ (2 * S) := by
  have hz := rv_ln hJ hw h4 h20 hp hp2
  have key : ∀ i t, ∃ k, (i ≤ 2 * (S - (J 7).toNatClampNeg) → t ≤ 2 * (J 7).toNatClampNeg → φ (bhS pl (J 5) (aimS (J 1) (J 2)) (S - (J 7).toNatClampNeg) (J 7).toNatClampNeg i t) (lnS (J 1) (J 2) (J 5) (J 6) wd pl (aimS (J 1) (J 2)) (S - (J 7).toNatClampNeg) (J 7).toNatClampNeg i t) = lN k ∧ k ≤ M) := by
    intro i t
    by_cases c : i ≤ 2 * (S - (J 7).toNatClampNeg) ∧ t ≤ 2 * (J 7).toNatClampNeg
    · obtain ⟨n, hn, e⟩ := hz.2.2 i t c.1 c.2
      obtain ⟨k, hk, e2⟩ := h (bhS pl (J 5) (aimS (J 1) (J 2)) (S - (J 7).toNatClampNeg) (J 7).toNatClampNeg i t) n hn
      exact ⟨k, fun _ _ => ⟨by rw [e]; exact e2, hk⟩⟩
    · exact ⟨0, fun h1 h2 => absurd ⟨h1, h2⟩ c⟩
  have z := RS_n (kd := J 1) (fg := J 2) (sl := J 5) (pc := J 6) (wd := wd) (pl := pl) (aim := aimS (J 1) (J 2)) (e := S - (J 7).toNatClampNeg) (l := (J 7).toNatClampNeg) (M := M) (φ := φ) (ψ := fun i t => (key i t).choose) (fun i t hi ht => (key i t).choose_spec hi ht)
  rw [show S - (J 7).toNatClampNeg + (J 7).toNatClampNeg = S from by omega] at z
  exact z
theorem if_n (c : Prop) [Decidable c] : ∃ k, k ≤ 1 ∧ (if c then (1 : Int64) else 0) = lN k := by
  split
  · exact ⟨1, Nat.le_refl 1, rfl⟩
  · exact ⟨0, by omega, rfl⟩
theorem rv_0 (hJ : NJ J) (hw : WW wd) (h4 : 4 ≤ S) (h20 : S ≤ 20) (hp : -5000 ≤ pl.toInt) (hp2 : pl.toInt ≤ 5000) (b : Int32) : ∃ V, RV J wd pl S (p0 b) = lN V ∧ V ≤ 2 ^ (2 * S) := by
  obtain ⟨V, h1, h2⟩ := rv_n (M := 1) (φ := p0 b) hJ hw h4 h20 hp hp2 (fun x n _ => if_n _)
  exact ⟨V, h1, by omega⟩
theorem rv_1 (hJ : NJ J) (hw : WW wd) (h4 : 4 ≤ S) (h20 : S ≤ 20) (hp : -5000 ≤ pl.toInt) (hp2 : pl.toInt ≤ 5000) : ∃ V, RV J wd pl S p1 = lN V ∧ V ≤ 2 ^ (2 * S) := by
  obtain ⟨V, h1, h2⟩ := rv_n (M := 1) (φ := p1) hJ hw h4 h20 hp hp2 (fun x n _ => if_n _)
  exact ⟨V, h1, by omega⟩
theorem rv_2 (hJ : NJ J) (hw : WW wd) (h4 : 4 ≤ S) (h20 : S ≤ 20) (hp : -5000 ≤ pl.toInt) (hp2 : pl.toInt ≤ 5000) : ∃ V, RV J wd pl S p2 = lN V ∧ V ≤ 435 * 2 ^ (2 * S) :=
  rv_n (M := 435) (φ := p2) hJ hw h4 h20 hp hp2 (fun x n hn => ⟨n, hn, by unfold p2; rw [nI_clamp (by omega)]⟩)
theorem rv_3 (hJ : NJ J) (hw : WW wd) (h4 : 4 ≤ S) (h20 : S ≤ 20) (hp : -5000 ≤ pl.toInt) (hp2 : pl.toInt ≤ 5000) (a : Nat) : ∃ V, RV J wd pl S (p3 a) = lN V ∧ V ≤ 2 ^ (2 * S) := by
  obtain ⟨V, h1, h2⟩ := rv_n (M := 1) (φ := p3 a) hJ hw h4 h20 hp hp2 (fun x n _ => if_n _)
  exact ⟨V, h1, by omega⟩
theorem rv_L (hJ : NJ J) (hw : WW wd) (h4 : 4 ≤ S) (h20 : S ≤ 20) (hp : -5000 ≤ pl.toInt) (hp2 : pl.toInt ≤ 5000) (v : Nat) : ∃ V, RV J wd pl S (pL v) = lN V ∧ V ≤ 2 ^ (2 * S) := by
  obtain ⟨V, h1, h2⟩ := rv_n (M := 1) (φ := pL v) hJ hw h4 h20 hp hp2 (fun x n _ => if_n _)
  exact ⟨V, h1, by omega⟩
end RVS
theorem sh_all {S : Nat} (h : S ≤ 20) : shl64 1 (2 * nI S) = lN (2 ^ (2 * S)) := by
  have e : (2 : Int32) * nI S = nI (2 * S) := pk_mul 2 S
  unfold shl64
  rw [e]
  have := wb_shl 1 (k := 2 * S) (by omega)
  rw [Nat.one_mul] at this
  exact this
theorem pw_b {S : Nat} (h : S ≤ 20) : 2 ^ (2 * S) ≤ 2 ^ 40 ∧ 0 < 2 ^ (2 * S) := ⟨Nat.pow_le_pow_right (by decide) (by omega), Nat.two_pow_pos _⟩
/-- the class's spread, said whole -/
theorem u_spread {h : AH} {p S : Nat} {wd pl : Int32} (b : Int32) (hk : JK h p) (hJ : NJ (h.1 p)) (T : WT h) (hw : WW wd) (h4 : 4 ≤ S) (h20 : S ≤ 20) (hp : -5000 ≤ pl.toInt) (hp2 : pl.toInt ≤ 5000) :
    ∃ h', X1_spread p (nI S) wd pl b h = some ((), h') ∧ h'.1 = h.1 ∧ h'.2.2 = h.2.2 ∧ (∀ o, o ≠ 8 → o ≠ 31 → h'.2.1 o = h.2.1 o) ∧ h'.2.1 8 2 = lN (2 ^ (2 * S)) ∧ (∀ a, Ph (gtI a) h' = RV (h.1 p) wd pl S (p3 a)) ∧ Ph lN h' = RV (h.1 p) wd pl S p2 ∧ h'.2.1 8 3 = RV (h.1 p) wd pl S p1 ∧ h'.2.1 8 4 = RV (h.1 p) wd pl S (p0 b) ∧ ∀ v, v < 1000 → h'.2.1 31 v = RV (h.1 p) wd pl S (pL v) := by
  obtain ⟨κ, f, a, g, s, pp, l, m, hκ, hf, ha, hg, hs, hpp, hl, hm, e1, e2, e3, e4, e5, e6, e7, e8⟩ := hJ
  obtain ⟨h', a1, a2, a3, a4, a5, a6, a7, a8⟩ := s_spread (b := b) (pl := pl) (S := S) (l := l) ⟨hk, hf, e2, hpp, e6, hs, e5, hl, e7⟩ T hw h4 h20 hp hp2
  have el : (h.1 p 7).toNatClampNeg = l := by rw [e7, nI_clamp (by omega)]
  refine ⟨h', a1, a2, a3, a4, by rw [a5, sh_all h20], fun a => ?_, ?_, ?_, ?_, fun v hv => ?_⟩
  · rw [a6]; unfold RV; rw [el]; rfl
  · rw [a6]; unfold RV; rw [el]; rfl
  · rw [a7]; unfold RV; rw [el]; rfl
  · rw [a8]; unfold RV; rw [el]; rfl
  · have z : ∀ n, sm n (fun u => (if u = v then (1 : Int64) else 0) * h'.2.1 31 u) = if v < n then h'.2.1 31 v else 0 := by
      intro n
      induction n with
      | zero => rw [if_neg (by omega)]; rfl
      | succ n ih =>
        show sm n (fun u => (if u = v then (1 : Int64) else 0) * h'.2.1 31 u) + (if n = v then (1 : Int64) else 0) * h'.2.1 31 n = _
        rw [ih]
        by_cases c : n = v
        · subst c
          rw [if_neg (by omega), if_pos rfl, if_pos (by omega), Int64.one_mul, Int64.zero_add]
        · rw [if_neg c, Int64.zero_mul, Int64.add_zero]
          by_cases d : v < n
          · rw [if_pos d, if_pos (by omega)]
          · rw [if_neg d, if_neg (by omega)]
    have z2 := a6 (fun u => if u = v then 1 else 0)
    unfold Ph at z2
    rw [z 1000, if_pos hv] at z2
    rw [z2]; unfold RV; rw [el]; rfl
/-- the reference's counts, said whole -/
def RJ (h : AH) (j : Nat) : Nat → Int32 := fun k => h.1 (k + 1) j
theorem u_count {h : AH} {j S : Nat} (hj : j < 4) (hJ : NJ (RJ h j)) (e12 : h.1 0 12 = nI S) (hw : WW (h.1 0 14)) (h4 : 4 ≤ S) (h20 : S ≤ 20) {pl : Int32} (hp : -5000 ≤ pl.toInt) (hp2 : pl.toInt ≤ 5000) :
    (∀ b, ∃ h', X11_counted (nI j) pl 0 b h = some (RV (RJ h j) (h.1 0 14) pl S (p0 b), h') ∧ WO h h') ∧ (∃ h', X11_counted (nI j) pl 1 0 h = some (RV (RJ h j) (h.1 0 14) pl S p1, h') ∧ WO h h') ∧ (∀ b, ∃ h', X11_counted (nI j) pl 2 b h = some (RV (RJ h j) (h.1 0 14) pl S p2, h') ∧ WO h h') ∧ (∀ a, a < 1000 → ∃ h', X11_counted (nI j) pl 3 (nI a) h = some (RV (RJ h j) (h.1 0 14) pl S (p3 a), h') ∧ WO h h') := by
  have hJ' := hJ
  obtain ⟨κ, f, a, g, s, pp, l, m, hκ, hf, ha, hg, hs, hpp, hl, hm, e1, e2, e3, e4, e5, e6, e7, e8⟩ := hJ'
  have e7 : h.1 8 j = nI l := e7
  have el : (RJ h j 7).toNatClampNeg = l := by
    show (h.1 8 j).toNatClampNeg = l
    rw [e7, nI_clamp (by omega)]
  have gen : ∀ (what asked : Int32) (φ : Int32 → Int32 → Int64) (ψ : Int32 → Int32 → Int64), (∀ x ln : Int32, (coI what asked x ln).toInt64 = φ x (if 0 ≤ x then ln else 0)) → (∀ x n, n ≤ 435 → φ x (nI n) = ψ x (nI n)) → ∃ h', X11_counted (nI j) pl what asked h = some (RV (RJ h j) (h.1 0 14) pl S ψ, h') ∧ WO h h' := by
    intro what asked φ ψ h1 h2
    obtain ⟨h', a1, a2⟩ := s_counted hj e12 h4 h20 e7 hl pl what asked (φ := φ) (fun x loss => h1 x _)
    refine ⟨h', ?_, a2⟩
    rw [a1, ← rv_cong hJ hw h4 h20 hp hp2 h2]
    unfold RV
    rw [el]
    rfl
  refine ⟨fun b => gen 0 b (p0 b) (p0 b) (fun x ln => ?_) (fun _ _ _ => rfl), gen 1 0 p1 p1 (fun x ln => ?_) (fun _ _ _ => rfl), fun b => gen 2 b (fun _ n => n.toInt64) p2 (fun x ln => ?_) (fun x n hn => ?_), fun a ha => gen 3 (nI a) (fun _ n => if n ≤ nI a then 0 else 1) (p3 a) (fun x ln => ?_) (fun x n hn => ?_)⟩
  · unfold coI p0
    rw [if_pos rfl]
    split <;> rfl
  · unfold coI p1
    rw [if_neg (by decide), if_pos rfl]
    by_cases c : 0 ≤ x
    · rw [if_pos c, if_neg (Int32.not_lt.mpr c)]; rfl
    · rw [if_neg c, if_pos (Int32.not_le.mp c)]; rfl
  · unfold coI
    rw [if_neg (by decide), if_neg (by decide), if_pos rfl]
  · unfold p2
    rw [nI_l (by omega), nI_clamp (by omega)]
  · unfold coI
    rw [if_neg (by decide), if_neg (by decide), if_neg (by decide)]
    by_cases c : 0 ≤ x
    · rw [if_pos c, if_neg (Int32.not_lt.mpr c)]
      split <;> rfl
    · rw [if_neg c, if_pos (Int32.not_le.mp c), if_pos (nI_pos' (by omega))]
      rfl
  · unfold p3 gtI
    rw [nI_clamp (by omega)]
    by_cases c : n ≤ a
    · rw [if_pos (nI_le c (by omega)), if_neg (by omega)]
    · rw [if_neg (nI_ge (by omega) (by omega)), if_pos (by omega)]
