/-! super's method that the class above inherits itself: the reference x names the class above, the code is the owner's -/
def SubOk (a b : String) : Prop := ∀ (args : Array Value) (s : State), (∀ w ∈ TB, w.before args s = true) → ∀ ca cb : ClassId, s.vm.findClass a = some ca → s.vm.findClass b = some cb → s.vm.isSubclass ca cb = true
theorem sub_one {a b : String} (h : Cond.superclass a b ∈ TB) : SubOk a b := by
  intro args s hts ca cb ha hb
  obtain ⟨p, k, kp, h1, h2, h3, h4, -⟩ := Cond.superclass_spec ha (hts _ h)
  cases hb.symm.trans h1
  have hz : 0 < s.vm.classes.size := by
    have := (Array.getElem?_eq_some_iff.mp h2).1
    omega
  obtain ⟨n, hn⟩ : ∃ n, s.vm.classes.size = n + 1 := ⟨s.vm.classes.size - 1, by omega⟩
  simp [Vm.isSubclass, hn, Vm.isSubclassAux, h2, h4]
theorem sub_two {a b c : String} (h : Cond.superclass a c ∈ TB) (h2 : Cond.superclass c b ∈ TB) : SubOk a b := by
  intro args s hts ca cb ha hb
  obtain ⟨p, k, kp, e1, e2, e3, e4, -⟩ := Cond.superclass_spec ha (hts _ h)
  obtain ⟨p', k', kp', f1, f2, f3, f4, -⟩ := Cond.superclass_spec e1 (hts _ h2)
  cases hb.symm.trans f1
  have l1 := (Array.getElem?_eq_some_iff.mp e2).1
  have l3 := (Array.getElem?_eq_some_iff.mp f3).1
  by_cases hz : s.vm.classes.size = 1
  · have e : ca = cb := by
      have h1 : ca = 0 := Nat.lt_one_iff.mp (hz ▸ l1)
      have h2 : cb = 0 := Nat.lt_one_iff.mp (hz ▸ l3)
      rw [h1, h2]
    subst e
    simp [Vm.isSubclass, Vm.isSubclassAux]
  · obtain ⟨n, hn⟩ : ∃ n, s.vm.classes.size = n + 2 := ⟨s.vm.classes.size - 2, by omega⟩
    simp [Vm.isSubclass, hn, Vm.isSubclassAux, e2, e4, f2, f4]
section AWSup
variable {X : MCx} {cc bytes : ByteArray} {own : String} {nL maxL np : Nat} {ret ret' : Option FieldType} {rm rm' : Room} {Z : Stc} {yd : Dyn} {A : Nat → Prop} {k n : Nat} {β : Type} {pc ix : Nat} {st rest As : List Value} {h : AH} {rv : β → Option Value} {F : AH → Option (β × AH)} {y : MethodName}
theorem cr_SUP (C : OK X cc own nL ret rm A) {b ci : Nat} {q : vw_C} {x : MethodName} (hX : MC X.2.1 y bytes maxL ret' rm' Z (.ref b :: As) rv F) (d : decode cc pc = .ok (.invokespecial ix, 3)) (M : MF y bytes maxL ret' np) (hl : Cond.methodLink own ix x ∈ TB) (hy : y = ⟨y.cls, x.name, x.desc⟩) (hsm : Cond.sameMethod x.cls y.cls x.name x.desc ∈ TB) (hsup : Cond.superclass own x.cls ∈ TB) (hsub : SubOk x.cls y.cls) (hi : Cond.instanceMethod y ∈ TB) (hno : x.name ≠ "<init>") (hb : Z.1[b]? = some (.inr ci)) (hc : vwCl[ci]? = some q) (hR : RmOk rm' rm maxL) (hn : As.length = np) (hs : st = As.reverse ++ .ref b :: rest) (hW : ((rest.map (cv yd.1)).map fun v => v.category).sum ≤ 8) : CR X nL Z yd A rm'.cells rm'.slots pc st rest rv F := by
  intro h r h' hF ls H locs k n hls hw hf
  obtain ⟨mk, methM, hnamed, hmethM, hstM, habM⟩ := Cond.instanceMethod_spec (C.2.2.2.2.1 _ hi)
  obtain ⟨methM', cM, hmethM', -, -, -, -, -, -, hsigM⟩ := Cond.code_spec hnamed (C.2.2.2.2.1 _ M.2.1)
  cases hmethM.symm.trans hmethM'
  obtain ⟨ps, dk, kp, hps, hdk, hkp, hsuper, -, -, hnid⟩ := Cond.superclass_spec C.2.2.2.1 (C.2.2.2.2.1 _ hsup)
  have hcM := findClass_of_methodNamed hnamed
  have hss := hsub _ _ C.2.2.2.2.1 _ _ hps hcM
  obtain ⟨cellB, hcB, hoB, hclB⟩ := recv_at hw hb hc
  obtain ⟨hfc, kB, hkB, -⟩ := (hw.2.2.2.1.1 ci q hc).2
  have hce := Option.some.inj (hfc.symm.trans hclB)
  rw [hce] at hkB
  have hK : Back X.2.1 X.2.2.2.1 X.1 X.2.2.1 X.2.2.2.2.2.2.2.1 (xS X) X.2.2.2.2.2.2.1 y 3 8 (PreOf X.2.2.2.1 rm'.cells rm'.slots (va_Pc ((Value.ref b :: As).map (cv yd.1)) (PreB Z yd h H.size))) (PostOf (PostB Z yd rv (AA yd Z H.size) r h') rm'.cells rm'.slots (AA yd Z H.size)) := back_of (bytes := bytes) (maxL := maxL) (ret := ret') (hX yd h r h' H.size hF) pre_blind rfl rfl (by rw [C.2.2.2.2.2.2.2.2]; exact hR.1) (by rw [C.2.2.2.2.2.2.2.2]; exact hR.2) (C.warm M.2.1) List.mem_cons_self (fun a' U hW => word_at hW (Or.inl (by first | rfl | simp [Cond.onTables, Cond.keeps, Cond.steady])) (C.2.2.2.2.1 _ M.1))
  intro T hT XX
  obtain ⟨vm₁, X₁, hstep₁⟩ := XX.invokespecialUp C.1 C.2.2.2.1 (C.2.2.2.2.1 _ hl) (owner := y.cls) (C.2.2.2.2.1 _ hsm) (by rw [← hy]; exact hnamed) hmethM hstM habM hno hdk hnid hps hsuper hss (a := yd.1 b) (cell := cellB) (by rw [hT]; exact hcB)
    (fun z h => by rw [h] at hoB; cases hoB) hkB (g := F0 (xM X) pc ls (st.map (cv yd.1))) rfl (argsL := As.map (cv yd.1)) (rest := rest.map (cv yd.1)) (by rw [List.length_map, hn]; exact M.n _ hsigM) (by rw [hs]; simp [cv]) (by rw [C.2.1]; exact d)
  obtain ⟨v, ⟨U', l2, c2, s2⟩, X', ⟨g', mk', t, L, e1, e2, hq, h1, hL, h2, h3⟩, hsteps⟩ := hK (xM X) _ _ ⟨T.setVm vm₁, locs, k, n⟩ { F0 (xM X) pc ls (st.map (cv yd.1)) with stack := rest.map (cv yd.1) } (.invokespecial ix) mk (Value.ref (yd.1 b) :: As.map (cv yd.1)).toArray X₁ rfl (by rw [C.2.2.1]; exact hls) (by rw [C.2.1]; exact d) (lv_room hW) (X₁.named hnamed) ⟨hf.1, hf.2, pre_at hw (T.setVm vm₁) hT X₁.warmed⟩
  dsimp only [Pt.U, Pt.locs, Pt.cells, Pt.slots] at X' e1 e2 h1 h2 h3 hsteps
  subst h1; subst h2; subst h3
  exact ⟨v, (T.setVm vm₁).calling g' mk' (Value.ref (yd.1 b) :: As.map (cv yd.1)).toArray, t, U', L, hT, X', hL, e1, e2, hq, fun target h => hstep₁ _ (by rw [doInvoke_state]; exact hsteps.trans h)⟩
end AWSup
theorem so_X4_X3 : SubOk RX4 RX3 := sub_two su_X4_X7 su_X7_X3
theorem so_X4_X7 : SubOk RX4 RX7 := sub_one su_X4_X7
