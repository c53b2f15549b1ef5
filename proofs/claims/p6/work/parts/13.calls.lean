/-! calls -/
def CR (X : MCx) (nL : Nat) (Z : Stc) (yd : Dyn) (A : Nat → Prop) (mc ms pc : Nat) (st rest : List Value) {β : Type} (rv : β → Option Value) (F : AH → Option (β × AH)) : Prop :=
  ∀ (h : AH) (r : β) (h' : AH), F h = some (r, h') → ∀ (ls : Array Slot) (H : Heap) (locs : List Loc) (k n : Nat), ls.size = nL → WR X Z yd A h H locs → k + mc ≤ X.2.2.2.1.cells ∧ n + ms ≤ X.2.2.2.1.slots →
    va_Run X.1 X.2.1 X.2.2.1 X.2.2.2.1 (xS X) (xM X) X.2.2.2.2.2.2.1 X.2.2.2.2.2.2.2.1 X.2.2.2.2.2.2.2.2.1 X.2.2.2.2.2.2.2.2.2 H locs k n mc ms (F0 (xM X) pc ls (st.map (cv yd.1))) (rest.map (cv yd.1)) (PostB Z yd rv (AA yd Z H.size) r h' #[]) (AA yd Z H.size)
theorem wld_D {A : Nat → Prop} {Z : Stc} {yd : Dyn} {h h' : AH} (hD : va_D A (wld Z yd h)) : va_D A (wld Z yd h') := by
  have key : ∀ (k : Nat) (q : Nat × va_E), (wld Z yd h')[k]? = some q → ∃ e, (wld Z yd h)[k]? = some (q.1, e) := by
    intro k q hk
    have hl : k < Z.1.length := by
      have := (List.getElem?_eq_some_iff.mp hk).1
      rwa [wld_len] at this
    obtain ⟨t, ht⟩ : ∃ t, Z.1[k]? = some t := ⟨_, List.getElem?_eq_getElem hl⟩
    rw [wld_at ht] at hk
    cases hk
    exact ⟨_, wld_at ht⟩
  refine ⟨fun i j p q hi hj e => ?_, fun k q hk => ?_⟩
  · obtain ⟨e1, h1⟩ := key i p hi
    obtain ⟨e2, h2⟩ := key j q hj
    exact hD.1 i j _ _ h1 h2 e
  · obtain ⟨e1, h1⟩ := key k q hk
    exact hD.2 k (q.1, e1) h1
theorem AA_in {X : MCx} {Z : Stc} {yd : Dyn} {A : Nat → Prop} {h : AH} {H : Heap} {locs : List Loc} (hw : WR X Z yd A h H locs) (hA : ∀ q, (xS X).heap.size ≤ q → A q) : ∀ q, AA yd Z H.size q → A q := by
  intro q hq
  rcases hq with ⟨o, ho, rfl⟩ | hq
  · obtain ⟨t, ht⟩ : ∃ t, Z.1[o]? = some t := ⟨_, List.getElem?_eq_getElem ho⟩
    exact hw.2.1.2 o _ (wld_at ht)
  · exact hA q (Nat.le_trans hw.2.2.1.1 hq)
section AWC
variable {X : MCx} {cc : ByteArray} {own : String} {nL : Nat} {ret : Option FieldType} {rm : Room} {Z : Stc} {yd : Dyn} {A : Nat → Prop} {k n : Nat} {α β : Type} {Qf : α → AH → State → Prop} {pc : Nat} {lv : List (Nat × Value)} {st rest : List Value} {h : AH} {rv : β → Option Value} {F : AH → Option (β × AH)}
theorem aw_callN (C : OK X cc own nL ret rm A) {mc ms : Nat} (R : CR X nL Z yd A mc ms pc st rest rv F) {f : β → AH → Option (α × AH)} (hc : k + mc ≤ rm.cells) (hs : n + ms ≤ rm.slots) (q : ∀ r h1, AW X nL Z yd A (k + mc) (n + ms) Qf (pc + 3) lv ((rv r).toList ++ rest) h1 (f r h1)) : AW X nL Z yd A k n Qf pc lv st h (bd (F h) f) := by
  intro r h' e ls H locs hl hw
  cases hF : F h with
  | none => rw [hF] at e; cases e
  | some p =>
    rw [hF] at e
    have e : f p.1 p.2 = some (r, h') := e
    have run := R h p.1 p.2 hF ls H locs k n hl.1 hw (by rw [C.2.2.2.2.2.2.2.2]; exact ⟨hc, hs⟩)
    intro T hT XX
    obtain ⟨v, st₀, t, T', L, h0, X', hL, e1, e2, ⟨hv, hP1, hz, hk⟩, stp⟩ := run T hT XX
    cases hv
    rw [h0] at hz hk
    have hin := AA_in hw C.2.2.2.2.2.2.2.1
    have hS : va_S A (xS X).heap T'.heap (locs ++ L) := ⟨Nat.le_trans hw.2.2.1.1 (by rw [e1]; exact hz), fun q h1 h2 => by rw [e1, hk q (Nat.lt_of_lt_of_le h1 hw.2.2.1.1) (fun z => h2 (hin q z))]; exact hw.2.2.1.2.1 q h1 h2, fun q hq => by
      rcases List.mem_append.mp hq with h | h
      · exact hw.2.2.1.2.2 q h
      · exact hin _ (hL q h)⟩
    have hst : ((rv p.1).map (cv yd.1)).toList ++ rest.map (cv yd.1) = ((rv p.1).toList ++ rest).map (cv yd.1) := by
      cases rv p.1 <;> simp
    obtain ⟨t2, a1, b1⟩ := q p.1 p.2 r h' e ls T'.heap (locs ++ L) hl ⟨by rw [e1]; exact hP1, wld_D hw.2.1, hS, hw.2.2.2⟩ T' rfl X'
    refine ⟨t2, stp t2 ?_, b1⟩
    show Steps _ _ _ (T'.setTop (F0 (xM X) (pc + 3) ls (((rv p.1).map (cv yd.1)).toList ++ rest.map (cv yd.1)))) _
    rw [hst]
    exact a1
theorem aw_call (C : OK X cc own nL ret rm A) (R : CR X nL Z yd A 0 0 pc st rest rv F) {f : β → AH → Option (α × AH)} (hc : k ≤ rm.cells) (hs : n ≤ rm.slots) (q : ∀ r h1, AW X nL Z yd A k n Qf (pc + 3) lv ((rv r).toList ++ rest) h1 (f r h1)) : AW X nL Z yd A k n Qf pc lv st h (bd (F h) f) := aw_callN (mc := 0) (ms := 0) C R hc hs q
end AWC
theorem MF.n {y : MethodName} {bytes : ByteArray} {maxL np : Nat} {ret : Option FieldType} (h : MF y bytes maxL ret np) : ∀ sig, parseMethodDescriptor y.desc = some sig → np = sig.parameters.length := by
  intro sig hs
  have h2 := h.2.2.2
  rw [hs] at h2
  exact (Option.some.inj h2).symm
/-- the room of a call -/
def RmOk (rm' rm : Room) (maxL : Nat) : Prop := rm'.frames + 1 ≤ rm.frames ∧ 8 + (maxL + 11) + rm'.locals ≤ rm.locals
section AWR
variable {X : MCx} {cc bytes : ByteArray} {own : String} {nL maxL np : Nat} {ret ret' : Option FieldType} {rm rm' : Room} {Z : Stc} {yd : Dyn} {A : Nat → Prop} {k n : Nat} {β : Type} {pc ix : Nat} {st rest As : List Value} {h : AH} {rv : β → Option Value} {F : AH → Option (β × AH)} {y : MethodName}
theorem OK.warm (C : OK X cc own nL ret rm A) (hc : Cond.code y bytes maxL ret' ∈ TB) : ∀ w ∈ (Cond.code y bytes maxL ret' :: TB), ∀ (a' : Array Value) (U : State), (xS X).WarmedH U.vm → w.before a' U = true := by
  intro w hw a' U hW
  have hw2 : w ∈ TB := by
    rcases List.mem_cons.mp hw with e | e
    · rw [e]; exact hc
    · exact e
  exact word_at hW (good_of_word (tb_good hw2)) (C.2.2.2.2.1 w hw2)
theorem pre_blind {avs : List Value} {sz : Nat} : FrameBlind (va_Pc avs (PreB Z yd h sz)) := fun a U g mk q => by
  obtain ⟨q0, q1, qP, qK, qD⟩ := q
  exact ⟨q0, q1, qP, va_K.moved (u := U) (U := U.calling g mk a) (Vm.Alike.refl U.vm) qK, qD⟩
theorem pre_at {H : Heap} {locs : List Loc} {avs : List Value} (hw : WR X Z yd A h H locs) : ∀ U : State, U.heap = H → (xS X).WarmedH U.vm → va_Pc avs (PreB Z yd h H.size) avs.toArray U := fun U hU hW => ⟨rfl, by rw [hU], by rw [hU]; exact hw.1, va_K.moved hW.alike hw.2.2.2.1, hw.2.1.weaken (fun _ _ _ _ => trivial), hw.2.2.2.2⟩
theorem OK.callB (C : OK X cc own nL ret rm A) (M : MF y bytes maxL ret' np) (hl : Cond.methodLink own ix y ∈ TB) (hR : RmOk rm' rm maxL) : CallB X.2.2.2.1 (xS X) X.2.2.2.2.2.2.1 own ix y bytes maxL ret' (Cond.code y bytes maxL ret' :: TB) rm' rm'.cells rm'.slots np :=
  ⟨rfl, rfl, by rw [C.2.2.2.2.2.2.2.2]; exact hR.1, by rw [C.2.2.2.2.2.2.2.2]; exact hR.2, C.warm M.2.1, List.mem_cons_self, C.2.2.2.2.1 _ M.2.1, C.2.2.2.2.1 _ M.1, M.2.2.1, M.n, C.2.2.2.2.1 _ hl⟩
theorem recv_at {H : Heap} {locs : List Loc} {b ci : Nat} {q : vw_C} (hw : WR X Z yd A h H locs) (hs : Z.1[b]? = some (.inr ci)) (hc : vwCl[ci]? = some q) : ∃ cell : Cell, H[yd.1 b]? = some cell ∧ cell.vm.isStatics = false ∧ (xS X).vm.findClass q.1 = some cell.cls := va_recv hw.2.2.2.1 hw.1 hc (wld_at hs)
theorem cr_S (C : OK X cc own nL ret rm A) (hX : MC X.2.1 y bytes maxL ret' rm' Z As rv F) (d : decode cc pc = .ok (.invokestatic ix, 3)) (M : MF y bytes maxL ret' np) (hl : Cond.methodLink own ix y ∈ TB) (hst : Cond.static y ∈ TB) (hR : RmOk rm' rm maxL) (hn : As.length = np) (hs : st = As.reverse ++ rest) (hW : ((rest.map (cv yd.1)).map fun v => v.category).sum ≤ 8) : CR X nL Z yd A rm'.cells rm'.slots pc st rest rv F := by
  intro h r h' hF ls H locs k n hls hw hf
  exact va_runS (As := As.map (cv yd.1)) (Ts := TB) ⟨C.1, C.2.1, C.2.2.1, C.2.2.2.1, C.2.2.2.2.1⟩ (hX yd h r h' H.size hF) ⟨C.callB M hl hR, C.2.2.2.2.1 _ hst⟩ ⟨pre_blind, pre_at hw⟩ rfl (by rw [List.length_map]; exact hn) hls (by rw [hs]; simp) (lv_room hW) d hf
theorem cr_V (C : OK X cc own nL ret rm A) {b ci : Nat} {T : u_T} {N : Nat} (hX : MC X.2.1 y bytes maxL ret' rm' Z (.ref b :: As) rv F) (d : decode cc pc = .ok (.invokevirtual ix, 3)) (M : MF y bytes maxL ret' np) (hl : Cond.methodLink own ix y ∈ TB) (hi : Cond.instanceMethod y ∈ TB) (hsel : Cond.selects y.cls y y ∈ TB) (hb : Z.1[b]? = some (.inr ci)) (hc : vwCl[ci]? = some (y.cls, T, N)) (hR : RmOk rm' rm maxL) (hn : As.length = np) (hs : st = As.reverse ++ .ref b :: rest) (hW : ((rest.map (cv yd.1)).map fun v => v.category).sum ≤ 8) : CR X nL Z yd A rm'.cells rm'.slots pc st rest rv F := by
  intro h r h' hF ls H locs k n hls hw hf
  exact va_runV (C := y.cls) (b := yd.1 b) (As := As.map (cv yd.1)) (Ts := TB) ⟨C.1, C.2.1, C.2.2.1, C.2.2.2.1, C.2.2.2.2.1⟩ (hX yd h r h' H.size hF) ⟨C.callB M hl hR, C.2.2.2.2.1 _ hi, C.2.2.2.2.1 _ hsel⟩ ⟨pre_blind, recv_at hw hb hc, pre_at hw⟩ rfl (by rw [List.length_map]; exact hn) hls (by rw [hs]; simp [cv]) (lv_room hW) d hf
/-- a method of a class above: super's -/
theorem cr_SU (C : OK X cc own nL ret rm A) {b ci : Nat} {q : vw_C} (hX : MC X.2.1 y bytes maxL ret' rm' Z (.ref b :: As) rv F) (d : decode cc pc = .ok (.invokespecial ix, 3)) (M : MF y bytes maxL ret' np) (hl : Cond.methodLink own ix y ∈ TB) (hsm : Cond.sameMethod y.cls y.cls y.name y.desc ∈ TB) (hsup : Cond.superclass own y.cls ∈ TB) (hi : Cond.instanceMethod y ∈ TB) (hno : y.name ≠ "<init>") (hb : Z.1[b]? = some (.inr ci)) (hc : vwCl[ci]? = some q) (hR : RmOk rm' rm maxL) (hn : As.length = np) (hs : st = As.reverse ++ .ref b :: rest) (hW : ((rest.map (cv yd.1)).map fun v => v.category).sum ≤ 8) : CR X nL Z yd A rm'.cells rm'.slots pc st rest rv F := by
  intro h r h' hF ls H locs k n hls hw hf
  exact va_runSU (C := q.1) (b := yd.1 b) (As := As.map (cv yd.1)) (Ts := TB) (hw.2.2.2.1.1 ci q hc).2 ⟨C.1, C.2.1, C.2.2.1, C.2.2.2.1, C.2.2.2.2.1⟩ (hX yd h r h' H.size hF) ⟨⟨rfl, rfl, by rw [C.2.2.2.2.2.2.2.2]; exact hR.1, by rw [C.2.2.2.2.2.2.2.2]; exact hR.2, C.warm M.2.1, List.mem_cons_self⟩, C.2.2.2.2.1 _ hl, C.2.2.2.2.1 _ hsm, C.2.2.2.2.1 _ hsup, C.2.2.2.2.1 _ hi, C.2.2.2.2.1 _ M.1, C.2.2.2.2.1 _ M.2.1, hno, M.n⟩ ⟨pre_blind, recv_at hw hb hc, pre_at hw⟩ rfl (by rw [List.length_map]; exact hn) hls (by rw [hs]; simp [cv]) (lv_room hW) d hf
/-- a method that is overridden or inherited: the reference x, the class of the receiver, its code y -/
theorem cr_U (C : OK X cc own nL ret rm A) {b ci : Nat} {q : vw_C} {owner : String} {x : MethodName} {b0 : ByteArray} {m0 : Nat} {r0 : Option FieldType} (hX : MC X.2.1 y bytes maxL ret' rm' Z (.ref b :: As) rv F) (d : decode cc pc = .ok (.invokevirtual ix, 3)) (M : MF y bytes maxL ret' np) (hl : Cond.methodLink own ix x ∈ TB) (hsm : Cond.sameMethod x.cls owner x.name x.desc ∈ TB) (ho : Cond.instanceMethod ⟨owner, x.name, x.desc⟩ ∈ TB) (ho2 : Cond.code ⟨owner, x.name, x.desc⟩ b0 m0 r0 ∈ TB) (hmh : owner ≠ "java/lang/invoke/MethodHandle" ∧ owner ≠ "java/lang/invoke/VarHandle") (hnp : (parseMethodDescriptor x.desc).map (fun d => d.parameters.length) = some np) (hsel : Cond.selects q.1 x y ∈ TB) (hi : Cond.instanceMethod y ∈ TB) (hb : Z.1[b]? = some (.inr ci)) (hc : vwCl[ci]? = some q) (hR : RmOk rm' rm maxL) (hn : As.length = np) (hs : st = As.reverse ++ .ref b :: rest) (hW : ((rest.map (cv yd.1)).map fun v => v.category).sum ≤ 8) : CR X nL Z yd A rm'.cells rm'.slots pc st rest rv F := by
  intro h r h' hF ls H locs k n hls hw hf
  exact va_runU (C := q.1) (owner := owner) (b := yd.1 b) (As := As.map (cv yd.1)) (Ts := TB) ⟨C.1, C.2.1, C.2.2.1, C.2.2.2.1, C.2.2.2.2.1⟩ (hX yd h r h' H.size hF) ⟨⟨rfl, rfl, by rw [C.2.2.2.2.2.2.2.2]; exact hR.1, by rw [C.2.2.2.2.2.2.2.2]; exact hR.2, C.warm M.2.1, List.mem_cons_self⟩, C.2.2.2.2.1 _ M.2.1, C.2.2.2.2.1 _ M.1, hmh, fun sig h => (by rw [h] at hnp; exact (Option.some.inj hnp).symm), C.2.2.2.2.1 _ hl, C.2.2.2.2.1 _ hsm, va_Decl.of (C.2.2.2.2.1 _ ho) (C.2.2.2.2.1 _ ho2), C.2.2.2.2.1 _ hsel, C.2.2.2.2.1 _ hi⟩ ⟨pre_blind, recv_at hw hb hc, pre_at hw⟩ rfl (by rw [List.length_map]; exact hn) hls (by rw [hs]; simp [cv]) (lv_room hW) d hf
end AWR
