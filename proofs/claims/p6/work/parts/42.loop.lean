/-! the law's loop over any invariant; the law from its entry -/
theorem ex_le {L j : Nat} (hL : L < 2 ^ 31) (h5 : 5 * j ≤ L) (h : ¬ (nI L - 5 < nI (5 * j))) : 5 * j + 5 ≤ L := by
  by_cases hq : 5 ≤ L
  · have e : nI L - 5 = nI (L - 5) := by
      have e1 : nI L = nI (L - 5) + nI 5 := by rw [nI_add]; congr 1; omega
      rw [e1]
      exact Int32.add_sub_cancel _ _
    rw [e] at h
    rcases Nat.lt_or_ge (L - 5) (5 * j) with h2 | h2
    · exact absurd (nI_lt h2 (by omega)) h
    · omega
  · exfalso
    have hj : j = 0 := by omega
    subst hj
    match L, hq with
    | 0, _ => exact h (by decide +kernel)
    | 1, _ => exact h (by decide +kernel)
    | 2, _ => exact h (by decide +kernel)
    | 3, _ => exact h (by decide +kernel)
    | 4, _ => exact h (by decide +kernel)
    | L + 5, hq => omega
theorem arg_at {xs : Nat → Int32} {L j v : Nat} (h : 5 * j + v < L) (hL : L < 2 ^ 31) : Arg xs L (nI (5 * j)) (nI v) (xs (5 * j + v)) :=
  ⟨by rw [nI_add]; exact vp_in_nI h hL, by rw [nI_add, nI_clamp (by omega)]⟩
section LOOP
variable {X : MCx} {b L : Nat} {xs : Nat → Int32} {yC yR : Dyn} {A : Nat → Prop} {Q : State → Prop}
theorem law_loop (C : OK X cL_law RL 4 ret room_1 A) (S : SX X b L xs A) (hap : Apt ZC ZR yC yR) (hL : L ≤ 2560) {k0 n0 : Nat} (hk0 : k0 + 600 ≤ 600000) (hn0 : n0 + 4000 ≤ 7302249) {Inv : Nat → AH → AH → Prop}
    (hst : ∀ (j : Nat) (c r : AH), 5 * j + 5 ≤ L → Inv j c r → OpOK (xs (5 * j) &&& 63) (xs (5 * j + 1)) (xs (5 * j + 2)) (xs (5 * j + 3)) (xs (5 * j + 4)) c r (Inv (j + 1)))
    (hE : ∀ (i : Int32) (c r : AH), LW X b yC yR A (k0 + 600) (n0 + 4000) Q 1577 i [] c r) :
    ∀ (f j : Nat) (c r : AH), L + 5 ≤ 5 * j + 5 * f → 5 * j ≤ L → Inv j c r → LW X b yC yR A (k0 + j) (n0 + 6 * j) Q 18 (nI (5 * j)) [] c r := by
  intro f
  induction f with
  | zero => intro j c r h1 h2; omega
  | succ f ih =>
    intro j c r h1 h2 hI ls H locs hl g1 g2
    refine lv_iload_n C.1 C.2.1 dL_law_18 rfl (lv_at hl 3 rfl) ?_
    refine lv_aload_n C.1 C.2.1 dL_law_19 rfl (lv_at hl 0 rfl) ?_
    refine va_slen C.1 C.2.1 S.1 S.2.1 S.2.2 g1.2.2.1 dL_law_20 ?_
    refine lv_iconst (v := 5) C.1 C.2.1 dL_law_21 rfl ?_
    refine lv_isub C.1 C.2.1 dL_law_22 ?_
    refine lv_icmp_gt (tgt := 1577) C.1 C.2.1 dL_law_23 (by decide) (fun _ => ?_) (fun hx => ?_)
    · exact W.widen (by omega) (by omega) (hE _ c r ls H locs hl g1 g2)
    · have h5 : 5 * j + 5 ≤ L := ex_le (by omega) h2 hx
      refine lv_aload_n C.1 C.2.1 dL_law_26 rfl (lv_at hl 0 rfl) ?_
      refine lv_iload_n C.1 C.2.1 dL_law_27 rfl (lv_at hl 3 rfl) ?_
      refine va_sld C.1 C.2.1 S.1 S.2.1 S.2.2 g1.2.2.1 (vp_in_nI (by omega) (by omega)) dL_law_28 ?_
      rw [nI_clamp (by omega)]
      refine lv_bipush (v := 63) C.1 C.2.1 dL_law_29 rfl ?_
      refine lv_iand C.1 C.2.1 dL_law_31 ?_
      refine lw_switch C S hap (arg_at (v := 1) (by omega) (by omega)) (arg_at (v := 2) (by omega) (by omega)) (arg_at (v := 3) (by omega) (by omega)) (arg_at (v := 4) (by omega) (by omega)) (by omega) (by omega) (hst j c r h5 hI) (fun c2 r2 hN => ?_) ls H locs hl g1 g2
      intro ls H locs hl g1 g2
      refine lv_iinc (v := nI (5 * (j + 1))) (lv' := [(3, .int (nI (5 * (j + 1)))), (0, .ref b), (1, .ref (yC.1 0)), (2, .ref (yR.1 0))]) C.1 C.2.1 dL_law_1571 hl (k := 3) rfl ?_ (by decide) rfl (fun ls hl => ?_)
      · show nI (5 * j) + nI 5 = nI (5 * (j + 1))
        rw [nI_add]
        congr 1
      · refine lv_goto (tgt := 18) C.1 C.2.1 dL_law_1574 (by decide) ?_
        exact ih (j + 1) c2 r2 (by omega) (by omega) hN ls H locs (lv_sub hl [1, 2, 3, 0] rfl) g1 g2
end LOOP
theorem va_Pl {D : va_G} {cl : List vw_C} {w1 w2 : va_W} {H : Heap} (h : va_P D cl (w1 ++ w2) H) : va_P D cl w1 H := fun k q hk => h k q (by rw [List.getElem?_append_left (List.getElem?_eq_some_iff.mp hk).1]; exact hk)
theorem va_Pr {D : va_G} {cl : List vw_C} {w1 w2 : va_W} {H : Heap} (h : va_P D cl (w1 ++ w2) H) : va_P D cl w2 H := fun k q hk => h (w1.length + k) q (by rw [List.getElem?_append_right (by omega), Nat.add_sub_cancel_left]; exact hk)
theorem va_Dl {A : Nat → Prop} {w1 w2 : va_W} (h : va_D A (w1 ++ w2)) : va_D A w1 := by
  have key : ∀ (k : Nat) (q : Nat × va_E), w1[k]? = some q → (w1 ++ w2)[k]? = some q := fun k q hk => by rw [List.getElem?_append_left (List.getElem?_eq_some_iff.mp hk).1]; exact hk
  exact ⟨fun i j p q hi hj e => h.1 i j p q (key i p hi) (key j q hj) e, fun k q hk => h.2 k q (key k q hk)⟩
theorem va_Dr {A : Nat → Prop} {w1 w2 : va_W} (h : va_D A (w1 ++ w2)) : va_D A w2 := by
  have key : ∀ (k : Nat) (q : Nat × va_E), w2[k]? = some q → (w1 ++ w2)[w1.length + k]? = some q := fun k q hk => by rw [List.getElem?_append_right (by omega), Nat.add_sub_cancel_left]; exact hk
  exact ⟨fun i j p q hi hj e => by have := h.1 _ _ p q (key i p hi) (key j q hj) e; omega, fun k q hk => h.2 _ q (key k q hk)⟩
theorem tb_mem {w : Cond} (h : w ∈ TB) : w ∈ lw_tbl := (List.mem_filter.mp h).1
def AZ : AH := (fun _ _ => 0, fun _ _ => 0, fun _ => 0)
def ZE : Stc := ([], (fun _ _ => none), 0, [])
theorem w0_C (q0 : Nat) (D : va_G) (tC : List (ClassId × FieldType)) : ([] ++ [(q0, .inr (10, (fty 10).map (fun c => dvF (some c))))] : va_W) = wld YC0 (fun _ => q0, D, tC) AZ := rfl
theorem w0_R (q0 : Nat) (D : va_G) (tR : List (ClassId × FieldType)) : ([(q0, .inr (11, (fty 11).map (fun c => dvF (some c))))] : va_W) = wld YR0 (fun _ => q0, D, tR) AZ := rfl
/-- what holds at the law's entry -/
def lw_At2 (p : Program) (s : State) (m : MethodId) (meth : Method) (c : Code) (b L : Nat) (xs : Nat → Int32) : Prop :=
  p.tables.exec = Jvm.exec ∧ c.code = cL_law ∧ meth.sig.returnType = ret ∧ c.maxLocals = 4 ∧ s.vm.findClass RL = some m.cls ∧ (∀ w ∈ lw_tbl, w.before #[Value.ref b] s = true) ∧ va_X b L xs s s.heap ∧ b < s.heap.size ∧ meth.locks = false
set_option maxRecDepth 100000 in
set_option maxHeartbeats 4000000 in
theorem whole_gen {p : Program} {e : Env} {s : State} {m : MethodId} {below : List Frame} {meth : Method} {c : Code} (l : Launch) {b L : Nat} {xs : Nat → Int32} (hL : L ≤ 2560) (C0 : lw_At2 p s m meth c b L xs) {Q : State → Prop} {Inv : Nat → AH → AH → Prop} {c0 r0 : AH} (hC0 : X10_init_i0 AZ = some ((), c0)) (hR0 : X11_init_i0 AZ = some ((), r0)) (hI : Inv 0 c0 r0)
    (hst : ∀ (j : Nat) (c r : AH), 5 * j + 5 ≤ L → Inv j c r → OpOK (xs (5 * j) &&& 63) (xs (5 * j + 1)) (xs (5 * j + 2)) (xs (5 * j + 3)) (xs (5 * j + 4)) c r (Inv (j + 1)))
    (hE : ∀ (ls : Array Slot) (H : Heap), W p l e room_1 s m #[Value.ref b] below meth c H [] 600000 7302249 Q (F0 m 1578 ls [.int 1])) : W p l e room_1 s m #[Value.ref b] below meth c s.heap [] 0 0 Q (entryFrame m ([Value.ref b] : List Value).toArray 4) := by
  obtain ⟨hx, hb, hr, hml, hown, hts, hX, hbl, hlocks⟩ := id C0
  have C : OK (p, l, e, room_1, s, m, #[Value.ref b], below, meth, c) cL_law RL 4 ret room_1 (fun q => s.heap.size ≤ q) := ⟨hx, hb, hml, hown, fun w hw => hts w (tb_mem hw), hlocks, hr, fun _ h => h, rfl⟩
  have hTB : ∀ w ∈ TB, w.before #[Value.ref b] s = true := fun w hw => hts w (tb_mem hw)
  have S : SX (p, l, e, room_1, s, m, #[Value.ref b], below, meth, c) b L xs (fun q => s.heap.size ≤ q) := ⟨hX, hbl, Nat.not_le.mpr hbl⟩
  have hAL : va_AOA .long s := hts _ lk_L
  have hKX : KX s := ⟨va_AO.of (hts _ lk_K), va_AO.of (hts _ lk_J), hAL, fun q hq => va_Nw.of rfl (hts _ (lk_N q hq)), fun q hq => va_Nw.of rfl (hts _ (lk_C q hq))⟩
  obtain ⟨D, hKc⟩ := u_all hTB ki_X10 ki_X11
  obtain ⟨tC, tR, eC, eR, kC, kR⟩ := tys_all (hTB _ w_arrI) (hTB _ w_arrJ) hKX.2.1 hKX.1 hAL
  have hS : va_S (fun q : Nat => s.heap.size ≤ q) s.heap s.heap [] := va_S.rf
  have hP : va_P D vwCl [] s.heap := fun k q h => by simp at h
  have hD : va_D (fun q : Nat => s.heap.size ≤ q) [] := ⟨fun i j p q h => by simp at h, fun k q h => by simp at h⟩
  have hl := lv_entry ([.ref b]) (n := 4) (Nat.le_of_ble_eq_true rfl)
  rw [lg_entry_eq]
  generalize (lg_sl ([.ref b]) ++ List.replicate (4 - (lg_sl ([.ref b])).length) Slot.unset).toArray = ls at hl ⊢
  have hl : lv_has ls 4 [(0, .ref b)] := hl
  refine va_new (ci := 10) (fs := (fty 10).map (fun c => dvF (some c))) (C := RX10) (T := TX10) (N := 18) (tys := tC) hx hb hTB wsin_X10 tyX10 tyX10_ok hown (hTB _ kl_L_C) (hTB _ ki_X10) (hTB _ kn_X10) ⟨hKc, kC⟩ hP hD hS (fun _ h => h) rfl df_X10 (Nat.le_of_ble_eq_true rfl) (Nat.le_of_ble_eq_true rfl) dL_law_0 (fun q0 H hP hD hS => ?_)
  rw [w0_C q0 D tC] at hP hD
  refine lv_dup hx hb dL_law_3 rfl ?_
  have h1 : WR (p, l, e, room_1, s, m, #[Value.ref b], below, meth, c) YC0 (fun _ => q0, D, tC) (fun q => s.heap.size ≤ q) AZ H [] := ⟨hP, hD, hS, ⟨hKc, kC⟩, eC⟩
  have h2 : WR (p, l, e, room_1, s, m, #[Value.ref b], below, meth, c) ZE (fun _ => 0, D, []) (fun q => s.heap.size ≤ q) AZ H [] := ⟨fun k q h => by simp [wld, ZE] at h, ⟨fun i j p q h => by simp [wld, ZE] at h, fun k q h => by simp [wld, ZE] at h⟩, hS, ⟨hKc, fun k q h => by simp at h⟩, rfl⟩
  refine l2_callN (X := (p, l, e, room_1, s, m, #[Value.ref b], below, meth, c)) C (Z1 := YC0) (Z2 := ZE) (Z' := YC115) (st := [.ref 0, .ref 0]) (rest := [.ref 0]) (fun o o' _ h => absurd h (Nat.not_lt_zero _)) h1 h2 rfl (run_I (b := 0) (As := []) (rest := [.ref 0]) C kx_m kx_b hKX (c_X10_init_i0 l) dL_law_4 mf_X10_init ml_L_9 im_X10_init rfl ⟨Nat.le_of_ble_eq_true rfl, Nat.le_of_ble_eq_true rfl⟩ rfl rfl (Nat.le_of_ble_eq_true rfl) ⟨Nat.le_of_ble_eq_true rfl, Nat.le_of_ble_eq_true rfl⟩ () c0 hC0 ls H [] hl.1 h1) (fun ad H locs ha _ h1 _ => ?_)
  have ha0 : ad 0 = q0 := ha 0 (by decide)
  have hPC : va_P D vwCl (wld ZC (ad, D, tC) c0) H := wld_like YC_sh rfl YC_ag h1.1
  have hDC : va_D (fun q : Nat => s.heap.size ≤ q) (wld ZC (ad, D, tC) c0) := wld_likeD YC_sh h1.2.1
  refine lv_astore_n (lv' := [(1, .ref q0), (0, .ref b)]) hx hb dL_law_7 rfl hl (by decide) rfl (fun ls hl => ?_)
  refine va_new (ci := 11) (fs := (fty 11).map (fun c => dvF (some c))) (C := RX11) (T := TX11) (N := 41) (tys := tC) hx hb hTB wsin_X11 tyX11 tyX11_ok hown (hTB _ kl_L_R) (hTB _ ki_X11) (hTB _ kn_X11) ⟨hKc, kC⟩ hPC hDC h1.2.2.1 (fun _ h => h) rfl df_X11 (Nat.le_of_ble_eq_true rfl) (Nat.le_of_ble_eq_true rfl) dL_law_8 (fun q1 H hP hD hS => ?_)
  refine lv_dup hx hb dL_law_11 rfl ?_
  have h1 : WR (p, l, e, room_1, s, m, #[Value.ref b], below, meth, c) YR0 (fun _ => q1, D, tR) (fun q => s.heap.size ≤ q) AZ H locs := ⟨w0_R q1 D tR ▸ va_Pr hP, w0_R q1 D tR ▸ va_Dr hD, hS, ⟨hKc, kR⟩, eR⟩
  have h2 : WR (p, l, e, room_1, s, m, #[Value.ref b], below, meth, c) ZC (ad, D, tC) (fun q => s.heap.size ≤ q) c0 H locs := ⟨va_Pl hP, va_Dl hD, hS, ⟨hKc, kC⟩, eC⟩
  have hap : Apt YR0 ZC (fun _ => q1, D, tR) (ad, D, tC) := by
    intro o o' ho ho' e9
    obtain ⟨t, ht⟩ : ∃ t, ZC.1[o']? = some t := ⟨_, List.getElem?_eq_getElem ho'⟩
    have hat := wld_at (yd := (ad, D, tC)) (h := c0) ht
    have hlt : o' < (wld ZC (ad, D, tC) c0).length := (List.getElem?_eq_some_iff.mp hat).1
    have := hD.1 o' (wld ZC (ad, D, tC) c0).length _ _ (by rw [List.getElem?_append_left hlt]; exact hat) (by rw [List.getElem?_append_right (Nat.le_refl _), Nat.sub_self]; rfl) e9.symm
    omega
  refine l2_callN (X := (p, l, e, room_1, s, m, #[Value.ref b], below, meth, c)) C (Z1 := YR0) (Z2 := ZC) (Z' := YR56) (st := [.ref 0, .ref 0]) (rest := [.ref 0]) hap h1 h2 rfl (run_I (b := 0) (As := []) (rest := [.ref 0]) C kx_m kx_b hKX (c_X11_init_i0 l) dL_law_12 mf_X11_init ml_L_12 im_X11_init rfl ⟨Nat.le_of_ble_eq_true rfl, Nat.le_of_ble_eq_true rfl⟩ rfl rfl (Nat.le_of_ble_eq_true rfl) ⟨Nat.le_of_ble_eq_true rfl, Nat.le_of_ble_eq_true rfl⟩ () r0 hR0 ls H locs hl.1 h1) (fun ae H locs hb0 hap h1 h2 => ?_)
  have hb1 : ae 0 = q1 := hb0 0 (by decide)
  have h3 : WR (p, l, e, room_1, s, m, #[Value.ref b], below, meth, c) ZR (ae, D, tR) (fun q => s.heap.size ≤ q) r0 H locs := ⟨wld_like YR_sh rfl YR_ag h1.1, wld_likeD YR_sh h1.2.1, h1.2.2.1, h1.2.2.2.1, eR⟩
  have hapx : Apt ZC ZR (ad, D, tC) (ae, D, tR) := fun o o' h4 h5 e9 => hap o' o (by rw [YR_sh]; exact h5) h4 e9.symm
  refine lv_astore_n (lv' := [(2, .ref q1), (1, .ref q0), (0, .ref b)]) hx hb dL_law_15 rfl hl (by decide) rfl (fun ls hl => ?_)
  refine lv_iconst (v := nI 0) hx hb dL_law_16 rfl ?_
  refine lv_istore_n (lv' := [(3, .int (nI 0)), (2, .ref q1), (1, .ref q0), (0, .ref b)]) hx hb dL_law_17 rfl hl (by decide) rfl (fun ls hl => ?_)
  refine W.widen (k := 102) (n := 7590) (Nat.le_of_ble_eq_true rfl) (Nat.le_of_ble_eq_true rfl) ?_
  have hl : lv_has ls 4 [(0, .ref b), (1, .ref q0), (2, .ref q1), (3, .int (nI 0))] := lv_sub hl [3, 2, 1, 0] rfl
  rw [← ha0, ← hb1] at hl
  exact law_loop (X := (p, l, e, room_1, s, m, #[Value.ref b], below, meth, c)) (yC := (ad, D, tC)) (yR := (ae, D, tR)) C S hapx hL (k0 := 102) (n0 := 7590) (by decide) (by decide) hst (fun i c2 r2 ls H locs hl g1 g2 => by
    refine lv_iconst (v := 1) hx hb dL_law_1577 rfl ?_
    refine va_forget (fun q hq => g1.2.2.1.2.2 q hq) ?_
    refine W.widen (k := 600000) (n := 7302249) (by decide) (by decide) ?_
    exact hE ls H) (L / 5 + 2) 0 c0 r0 (by omega) (by omega) hI ls H locs hl h2 h3
