/-! fields, arrays, calls, ends of the walk -/
theorem tyAt {yd : Dyn} {tl : List FieldType} {t : Nat} {ty : FieldType} (h : yd.2.2.map (·.2) = tl) (e : tl[t]? = some ty) : yd.2.2[t]? = some (tcl yd t, ty) := by
  rw [← h, List.getElem?_map] at e
  unfold tcl
  cases hq : yd.2.2[t]? with
  | none => rw [hq] at e; cases e
  | some q => rw [hq] at e; cases e; rfl
section AWH
variable {X : MCx} {cc : ByteArray} {own : String} {nL : Nat} {ret : Option FieldType} {rm : Room} {Z : Stc} {yd : Dyn} {A : Nat → Prop} {k n : Nat} {α : Type} {Qf : α → AH → State → Prop} {pc : Nat} {lv : List (Nat × Value)} {st : List Value} {h : AH} {o o1 o2 : Option (α × AH)} {a ix ci j t N : Nat}
theorem aw_getV (C : OK X cc own nL ret rm A) {v w : Value} {c : Nat} (d : decode cc pc = .ok (.getfield ix, 3)) (hf : FL own ix ci j) (hs : Z.1[a]? = some (.inr ci)) (hk : (fty ci)[j]? = some c) (hv : eF Z yd.1 h a j c = cv yd.1 v) (q : AW X nL Z yd A k n Qf (pc + 3) lv (v :: st) h o) : AW X nL Z yd A k n Qf pc lv (.ref a :: st) h o := fun r h' e ls H locs hl hw => by
  obtain ⟨D, T, N, e1, e2, e3, e4⟩ := hf
  have he := wld_at (yd := yd) (h := h) hs
  refine va_get (v := cv yd.1 v) C.1 C.2.1 C.2.2.2.2.1 e3 C.2.2.2.1 hw.2.2.2.1 hw.1 a he e1 j e2 (C.2.2.2.2.1 _ e4) (fun _ h9 => h9) ?_ d (q r h' e ls H locs hl hw)
  rw [eFs_get, hk, Nat.zero_add]
  simp [hv]
theorem aw_getI (C : OK X cc own nL ret rm A) (d : decode cc pc = .ok (.getfield ix, 3)) (hf : FL own ix ci j) (hs : Z.1[a]? = some (.inr ci)) (hk : (fty ci)[j]? = some 0) (q : AW X nL Z yd A k n Qf (pc + 3) lv (.int (h.1 a j) :: st) h o) : AW X nL Z yd A k n Qf pc lv (.ref a :: st) h o := aw_getV (w := .null) C d hf hs hk rfl q
theorem aw_getL (C : OK X cc own nL ret rm A) (d : decode cc pc = .ok (.getfield ix, 3)) (hf : FL own ix ci j) (hs : Z.1[a]? = some (.inr ci)) (hk : (fty ci)[j]? = some 1) (q : AW X nL Z yd A k n Qf (pc + 3) lv (.long (h.2.1 a j) :: st) h o) : AW X nL Z yd A k n Qf pc lv (.ref a :: st) h o := aw_getV (w := .null) C d hf hs hk rfl q
theorem aw_getR (C : OK X cc own nL ret rm A) {b : Nat} (d : decode cc pc = .ok (.getfield ix, 3)) (hf : FL own ix ci j) (hs : Z.1[a]? = some (.inr ci)) (hk : (fty ci)[j]? = some 2) (hr : Z.2.1 a j = some b) (q : AW X nL Z yd A k n Qf (pc + 3) lv (.ref b :: st) h o) : AW X nL Z yd A k n Qf pc lv (.ref a :: st) h o := aw_getV (w := .null) (v := .ref b) C d hf hs hk (by show va_rf ((Z.2.1 a j).map yd.1) = _; rw [hr]; rfl) q
theorem aw_getW (C : OK X cc own nL ret rm A) {b : Nat} (d : decode cc pc = .ok (.getfield ix, 3)) (hf : FL own ix ci j) (hs : Z.1[a]? = some (.inr ci)) (hk : (fty ci)[j]? = some 3) (hr : Z.2.2.1 + h.2.2 a % 6 = b) (q : AW X nL Z yd A k n Qf (pc + 3) lv (.ref b :: st) h o) : AW X nL Z yd A k n Qf pc lv (.ref a :: st) h o := aw_getV (w := .null) (v := .ref b) C d hf hs hk (by rw [← hr]; rfl) q
theorem aw_putI (C : OK X cc own nL ret rm A) {x : Int32} {f : AH → Option (α × AH)} (d : decode cc pc = .ok (.putfield ix, 3)) (hf : FP own ix ci j .int) (hs : Z.1[a]? = some (.inr ci)) (hk : (fty ci)[j]? = some 0) (q : ∀ h1, AW X nL Z yd A k n Qf (pc + 3) lv st h1 (f h1)) : AW X nL Z yd A k n Qf pc lv (.int x :: .ref a :: st) h (vl (sI h a j x) f) := fun r h' e ls H locs hl hw => by
  obtain ⟨D, T, N, ty0, e1, e2, e3, e4, e5, e6, e7, e8⟩ := hf
  have he := wld_at (yd := yd) (h := h) hs
  refine va_put (v := .int x) (ty := .int) C.1 C.2.1 C.2.2.2.2.1 e3 ty0 e5 e6 C.2.2.2.1 hw.2.2.2.1 hw.1 hw.2.1 hw.2.2.1 a he e1 j e2 (C.2.2.2.2.1 _ e4) (fun _ h9 => h9) e7 e8 rfl rfl (by rw [eFs_len]; exact (List.getElem?_eq_some_iff.mp hk).1) d (fun H1 locs1 p1 p2 p3 => ?_)
  rw [wld_putI x hs hk] at p1 p2
  exact q _ r h' e ls H1 locs1 hl ⟨p1, p2, p3, hw.2.2.2⟩
theorem aw_putZ (C : OK X cc own nL ret rm A) {x : Int32} {f : AH → Option (α × AH)} (d : decode cc pc = .ok (.putfield ix, 3)) (hf : FP own ix ci j .boolean) (hs : Z.1[a]? = some (.inr ci)) (hk : (fty ci)[j]? = some 0) (q : ∀ h1, AW X nL Z yd A k n Qf (pc + 3) lv st h1 (f h1)) : AW X nL Z yd A k n Qf pc lv (.int x :: .ref a :: st) h (cz x (vl (sI h a j x) f)) := aw_if (fun c r h' e ls H locs hl hw => by
  obtain ⟨D, T, N, ty0, e1, e2, e3, e4, e5, e6, e7, e8⟩ := hf
  have he := wld_at (yd := yd) (h := h) hs
  refine va_put (v := .int x) (ty := .boolean) C.1 C.2.1 C.2.2.2.2.1 e3 ty0 e5 e6 C.2.2.2.1 hw.2.2.2.1 hw.1 hw.2.1 hw.2.2.1 a he e1 j e2 (C.2.2.2.2.1 _ e4) (fun _ h9 => h9) e7 e8 (by rcases c with c | c <;> subst c <;> rfl) (by rcases c with c | c <;> subst c <;> rfl) (by rw [eFs_len]; exact (List.getElem?_eq_some_iff.mp hk).1) d (fun H1 locs1 p1 p2 p3 => ?_)
  rw [wld_putI x hs hk] at p1 p2
  exact q _ r h' e ls H1 locs1 hl ⟨p1, p2, p3, hw.2.2.2⟩) (fun _ => aw_none)
theorem aw_putL (C : OK X cc own nL ret rm A) {x : Int64} {f : AH → Option (α × AH)} (d : decode cc pc = .ok (.putfield ix, 3)) (hf : FP own ix ci j .long) (hs : Z.1[a]? = some (.inr ci)) (hk : (fty ci)[j]? = some 1) (q : ∀ h1, AW X nL Z yd A k n Qf (pc + 3) lv st h1 (f h1)) : AW X nL Z yd A k n Qf pc lv (.long x :: .ref a :: st) h (vl (sL h a j x) f) := fun r h' e ls H locs hl hw => by
  obtain ⟨D, T, N, ty0, e1, e2, e3, e4, e5, e6, e7, e8⟩ := hf
  have he := wld_at (yd := yd) (h := h) hs
  refine va_put (v := .long x) (ty := .long) C.1 C.2.1 C.2.2.2.2.1 e3 ty0 e5 e6 C.2.2.2.1 hw.2.2.2.1 hw.1 hw.2.1 hw.2.2.1 a he e1 j e2 (C.2.2.2.2.1 _ e4) (fun _ h9 => h9) e7 e8 rfl rfl (by rw [eFs_len]; exact (List.getElem?_eq_some_iff.mp hk).1) d (fun H1 locs1 p1 p2 p3 => ?_)
  rw [wld_putL x hs hk] at p1 p2
  exact q _ r h' e ls H1 locs1 hl ⟨p1, p2, p3, hw.2.2.2⟩
theorem aw_putW (C : OK X cc own nL ret rm A) {b v : Nat} {D0 : String} {f : AH → Option (α × AH)} (d : decode cc pc = .ok (.putfield ix, 3)) (hf : FP own ix ci 0 (.object D0)) (hs : Z.1[a]? = some (.inr ci)) (hk : (fty ci)[0]? = some 3) (h3 : ∀ k, k ≠ 0 → (fty ci)[k]? ≠ some 3) (hm : ∀ (k t : Nat), (fty ci)[k]? = some t → t ≤ 3) (hb : Z.2.2.1 + v % 6 = b) (q : ∀ h1, AW X nL Z yd A k n Qf (pc + 3) lv st h1 (f h1)) : AW X nL Z yd A k n Qf pc lv (.ref b :: .ref a :: st) h (vl (sK h a v) f) := fun r h' e ls H locs hl hw => by
  obtain ⟨D, T, N, ty0, e1, e2, e3, e4, e5, e6, e7, e8⟩ := hf
  have he := wld_at (yd := yd) (h := h) hs
  subst hb
  refine va_put (v := .ref (yd.1 (Z.2.2.1 + v % 6))) (ty := .object D0) C.1 C.2.1 C.2.2.2.2.1 e3 ty0 e5 e6 C.2.2.2.1 hw.2.2.2.1 hw.1 hw.2.1 hw.2.2.1 a he e1 0 e2 (C.2.2.2.2.1 _ e4) (fun _ h9 => h9) e7 e8 rfl rfl (by rw [eFs_len]; exact (List.getElem?_eq_some_iff.mp hk).1) d (fun H1 locs1 p1 p2 p3 => ?_)
  rw [wld_putK v hs hk h3 hm] at p1 p2
  exact q _ r h' e ls H1 locs1 hl ⟨p1, p2, p3, hw.2.2.2⟩
theorem aw_iald (C : OK X cc own nL ret rm A) {i : Int32} (d : decode cc pc = .ok (.iaload, 1)) (hs : Z.1[a]? = some (.inl (t, 0, N))) (ht : Z.2.2.2[t]? = some .int) (q : AW X nL Z yd A k n Qf (pc + 1) lv (.int (h.1 a i.toNatClampNeg) :: st) h o) : AW X nL Z yd A k n Qf pc lv (.int i :: .ref a :: st) h (ck i N o) := aw_if (fun _ => aw_none) (fun hi r h' e ls H locs hl hw => va_iald C.1 C.2.1 hw.2.2.2.1 hw.1 a t (wld_at hs) (tyAt hw.2.2.2.2 ht) hi d (q r h' e ls H locs hl hw))
theorem aw_lald (C : OK X cc own nL ret rm A) {i : Int32} (d : decode cc pc = .ok (.laload, 1)) (hs : Z.1[a]? = some (.inl (t, 1, N))) (ht : Z.2.2.2[t]? = some .long) (q : AW X nL Z yd A k n Qf (pc + 1) lv (.long (h.2.1 a i.toNatClampNeg) :: st) h o) : AW X nL Z yd A k n Qf pc lv (.int i :: .ref a :: st) h (ck i N o) := aw_if (fun _ => aw_none) (fun hi r h' e ls H locs hl hw => va_lald C.1 C.2.1 hw.2.2.2.1 hw.1 a t (wld_at hs) (tyAt hw.2.2.2.2 ht) hi d (q r h' e ls H locs hl hw))
theorem aw_aald (C : OK X cc own nL ret rm A) {i : Int32} {b : Nat} {ty : FieldType} (d : decode cc pc = .ok (.aaload, 1)) (hs : Z.1[a]? = some (.inl (t, 2, N))) (ht : Z.2.2.2[t]? = some ty) (hty : ty.isReference = true) (hr : Z.2.1 a i.toNatClampNeg = some b) (q : AW X nL Z yd A k n Qf (pc + 1) lv (.ref b :: st) h o) : AW X nL Z yd A k n Qf pc lv (.int i :: .ref a :: st) h (ck i N o) := aw_if (fun _ => aw_none) (fun hin r h' e ls H locs hl hw => by
  have hlt : i.toNatClampNeg < N := Nat.not_le.mp fun q => hin (Or.inr q)
  have hP : H[yd.1 a]? = some (arrV (tcl yd t) N (fun j => va_rf ((Z.2.1 a j).map yd.1))) := hw.1 a _ (wld_at hs)
  exact W.aald (v := va_rf ((Z.2.1 a i.toNatClampNeg).map yd.1)) (ty := ty) C.1 C.2.1 hP ((hw.2.2.2.1.2 t _ (tyAt hw.2.2.2.2 ht)).1 N (fun j => va_rf ((Z.2.1 a j).map yd.1))) hty (fun q => by cases q) (by rw [arrV_size]; exact hin) (by rw [arrV_read _ _ hlt]) rfl rfl d (by rw [hr]; exact q r h' e ls H locs hl hw))
theorem aw_iast (C : OK X cc own nL ret rm A) {i x : Int32} {f : AH → Option (α × AH)} (d : decode cc pc = .ok (.iastore, 1)) (hs : Z.1[a]? = some (.inl (t, 0, N))) (ht : Z.2.2.2[t]? = some .int) (q : ∀ h1, AW X nL Z yd A k n Qf (pc + 1) lv st h1 (f h1)) : AW X nL Z yd A k n Qf pc lv (.int x :: .int i :: .ref a :: st) h (ck i N (vl (sI h a i.toNatClampNeg x) f)) := aw_if (fun _ => aw_none) (fun hi r h' e ls H locs hl hw => by
  refine va_iast C.1 C.2.1 hw.2.2.2.1 hw.1 hw.2.1 hw.2.2.1 a t (wld_at hs) (tyAt hw.2.2.2.2 ht) hi d (fun H1 locs1 p1 p2 p3 => ?_)
  rw [wld_astI x hs] at p1 p2
  exact q _ r h' e ls H1 locs1 hl ⟨p1, p2, p3, hw.2.2.2⟩)
theorem aw_last (C : OK X cc own nL ret rm A) {i : Int32} {x : Int64} {f : AH → Option (α × AH)} (d : decode cc pc = .ok (.lastore, 1)) (hs : Z.1[a]? = some (.inl (t, 1, N))) (ht : Z.2.2.2[t]? = some .long) (q : ∀ h1, AW X nL Z yd A k n Qf (pc + 1) lv st h1 (f h1)) : AW X nL Z yd A k n Qf pc lv (.long x :: .int i :: .ref a :: st) h (ck i N (vl (sL h a i.toNatClampNeg x) f)) := aw_if (fun _ => aw_none) (fun hi r h' e ls H locs hl hw => by
  refine va_last C.1 C.2.1 hw.2.2.2.1 hw.1 hw.2.1 hw.2.2.1 a t (wld_at hs) (tyAt hw.2.2.2.2 ht) hi d (fun H1 locs1 p1 p2 p3 => ?_)
  rw [wld_astL x hs] at p1 p2
  exact q _ r h' e ls H1 locs1 hl ⟨p1, p2, p3, hw.2.2.2⟩)
theorem aw_alenI (C : OK X cc own nL ret rm A) {v : Int32} {ty : FieldType} {kd : Nat} (h9 : kd ≠ 9) (d : decode cc pc = .ok (.arraylength, 1)) (hs : Z.1[a]? = some (.inl (t, kd, N))) (ht : Z.2.2.2[t]? = some ty) (hv : Int32.ofNat N = v) (q : AW X nL Z yd A k n Qf (pc + 1) lv (.int v :: st) h o) : AW X nL Z yd A k n Qf pc lv (.ref a :: st) h o := fun r h' e ls H locs hl hw => by
  have hx : (eA Z yd.1 h a kd N).1 = N := by unfold eA; split <;> rfl
  have he : ent Z yd h a (.inl (t, kd, N)) = .inl (tcl yd t, eA Z yd.1 h a kd N) := by
    unfold ent
    simp only
  have hat := wld_at (yd := yd) (h := h) hs
  rw [he] at hat
  exact va_alen C.1 C.2.1 hw.2.2.2.1 hw.1 a t hat (tyAt hw.2.2.2.2 ht) (by rw [hx]; exact hv) d (q r h' e ls H locs hl hw)
end AWH
/-! contracts: any caller, the whole world of the object -/
def AA (yd : Dyn) (Z : Stc) (sz : Nat) : Nat → Prop := fun q => (∃ o, o < Z.1.length ∧ q = yd.1 o) ∨ sz ≤ q
def PreB (Z : Stc) (yd : Dyn) (h : AH) (sz : Nat) : State → Prop := fun U => U.heap.size = sz ∧ va_P yd.2.1 vwCl (wld Z yd h) U.heap ∧ va_K yd.2.1 vwCl yd.2.2 U ∧ va_D (fun _ => True) (wld Z yd h) ∧ yd.2.2.map (·.2) = Z.2.2.2
def PostB (Z : Stc) (yd : Dyn) {α : Type} (rv : α → Option Value) (A : Nat → Prop) (r : α) (h' : AH) : Array Value → State → Outcome → State → Prop := fun _ s o t => o = .returned ((rv r).map (cv yd.1)) ∧ va_P yd.2.1 vwCl (wld Z yd h') t.heap ∧ va_F A s t
def MC (l : Launch) (y : MethodName) (cc : ByteArray) (nL : Nat) (ret : Option FieldType) (rm : Room) (Z : Stc) (avs : List Value) {α : Type} (rv : α → Option Value) (F : AH → Option (α × AH)) : Prop :=
  ∀ (yd : Dyn) (h : AH) (r : α) (h' : AH) (sz : Nat), F h = some (r, h') → Met l y (.code y cc nL ret :: TB) rm (va_Pc (avs.map (cv yd.1)) (PreB Z yd h sz)) (PostB Z yd rv (AA yd Z sz) r h') rm.cells rm.slots (AA yd Z sz)
def QF (X : MCx) (rm : Room) (Z : Stc) (yd : Dyn) {α : Type} (rv : α → Option Value) (A : Nat → Prop) (r : α) (h' : AH) : State → Prop := MQ X.2.2.2.2.2.2.2.1 (PostB Z yd rv A r h') X.2.2.2.2.2.2.1 (xS X) rm.cells rm.slots A
def rvI (x : Int32) : Option Value := some (.int x)
def rvL (x : Int64) : Option Value := some (.long x)
def rvV (_ : Unit) : Option Value := none
def rvR (x : Nat) : Option Value := some (.ref x)
theorem AA_D {yd : Dyn} {Z : Stc} {h : AH} {sz : Nat} (hD : va_D (fun _ => True) (wld Z yd h)) : va_D (AA yd Z sz) (wld Z yd h) := by
  refine hD.weaken (fun k q hk _ => Or.inl ?_)
  obtain ⟨o, ho, rfl⟩ := List.mem_map.mp (List.mem_of_getElem? hk)
  exact ⟨o, List.mem_range.mp ho, rfl⟩
theorem lvc_args (ad : Nat → Nat) : ∀ (avs : List Value) (i : Nat), lv_args i (avs.map (cv ad)) = lvc ad (lv_args i avs)
  | [], _ => rfl
  | v :: l, i => by
    simp only [List.map_cons, lv_args, cv_cat]
    rw [lvc_args ad l]
    rfl
theorem sl_len (ad : Nat → Nat) : ∀ (avs : List Value), (lg_sl (avs.map (cv ad))).length = (lg_sl avs).length
  | [] => rfl
  | v :: l => by
    have ih := sl_len ad l
    simp only [lg_sl, List.map_cons, List.flatMap_cons, List.length_append] at ih ⊢
    rw [ih]
    cases v <;> rfl
theorem MC.of {l : Launch} {y : MethodName} {cc : ByteArray} {nL : Nat} {ret : Option FieldType} {rm : Room} {Z : Stc} {avs : List Value} {α : Type} {rv : α → Option Value} {F : AH → Option (α × AH)} {own : String} (hy : plainName y.cls = true) (hown : y.cls = own) (hl : (lg_sl avs).length ≤ nL)
    (body : ∀ (X : MCx) (yd : Dyn) (A : Nat → Prop) (h : AH), X.2.1 = l → OK X cc own nL ret rm A → AW X nL Z yd A 0 0 (QF X rm Z yd rv A) 0 (lv_args 0 avs) [] h (F h)) : MC l y cc nL ret rm Z avs rv F := by
  intro yd h r h' sz hF
  refine Met.ofW (cc := cc) (maxL := nL) (ret := ret) hy rfl ?_
  intro p e s m args below meth c s₁ B hml hv
  obtain ⟨rfl, hsz, hP, hK, hD0, hT⟩ := hv
  have hts := atoms_spec (ws := .code y cc nL ret :: TB) B.pre
  have hown2 : s.vm.findClass y.cls = some m.cls := findClass_of_methodNamed B.named
  have hlv := lv_entry (avs.map (cv yd.1)) (n := nL) (by rw [sl_len]; exact hl)
  rw [lg_entry_eq]
  rw [lvc_args] at hlv
  have hA : ∀ q, s.heap.size ≤ q → AA yd Z sz q := fun q hq => Or.inr (hsz ▸ hq)
  exact body (p, l, e, (headSpec (.code y cc nL ret :: TB) rm).room, s, m, (avs.map (cv yd.1)).toArray, below, meth, c) yd (AA yd Z sz) h rfl ⟨B.exec, B.bytes, hml, hown ▸ hown2, fun w hw => hts w (List.mem_cons_of_mem _ hw), B.notSynchronized, B.returns, hA, rfl⟩ r h' hF _ s.heap [] hlv ⟨hP, AA_D hD0, va_S.rf, hK, hT⟩
section AWE
variable {X : MCx} {cc : ByteArray} {own : String} {nL : Nat} {ret : Option FieldType} {rm : Room} {Z : Stc} {yd : Dyn} {A : Nat → Prop} {k n : Nat} {pc : Nat} {lv : List (Nat × Value)} {st : List Value} {h : AH}
theorem aw_iret (C : OK X cc own nL (some .int) rm A) {x : Int32} (d : decode cc pc = .ok (.ireturn, 1)) (hc : k = rm.cells) (hs : n = rm.slots) : AW X nL Z yd A k n (QF X rm Z yd rvI A) pc lv [.int x] h (some (x, h)) := fun r h' e ls H locs hl hw => by
  cases e; subst hc; subst hs
  exact W.iret (v := x) C.1 C.2.1 C.2.2.2.2.2.2.1 (fun t ht hW => ⟨rfl, by rw [ht]; exact hw.1, hw.2.2.1.F ht⟩) hw.2.2.1.2.2 d C.2.2.2.2.2.1
theorem aw_zret (C : OK X cc own nL (some .boolean) rm A) {x : Int32} (d : decode cc pc = .ok (.ireturn, 1)) (hc : k = rm.cells) (hs : n = rm.slots) : AW X nL Z yd A k n (QF X rm Z yd rvI A) pc lv [.int x] h (cz x (some (x, h))) := aw_if (fun c r h' e ls H locs hl hw => by
  cases e; subst hc; subst hs
  exact W.zret (v := x) (ty := .boolean) C.1 C.2.1 C.2.2.2.2.2.2.1 (by rcases c with c | c <;> subst c <;> rfl) (fun t ht hW => ⟨rfl, by rw [ht]; exact hw.1, hw.2.2.1.F ht⟩) hw.2.2.1.2.2 d C.2.2.2.2.2.1) (fun _ => aw_none)
theorem aw_lret (C : OK X cc own nL (some .long) rm A) {x : Int64} (d : decode cc pc = .ok (.lreturn, 1)) (hc : k = rm.cells) (hs : n = rm.slots) : AW X nL Z yd A k n (QF X rm Z yd rvL A) pc lv [.long x] h (some (x, h)) := fun r h' e ls H locs hl hw => by
  cases e; subst hc; subst hs
  exact W.lret (v := x) C.1 C.2.1 C.2.2.2.2.2.2.1 (fun t ht hW => ⟨rfl, by rw [ht]; exact hw.1, hw.2.2.1.F ht⟩) hw.2.2.1.2.2 d C.2.2.2.2.2.1
theorem aw_vret (C : OK X cc own nL none rm A) (d : decode cc pc = .ok (.return_, 1)) (hc : k = rm.cells) (hs : n = rm.slots) : AW X nL Z yd A k n (QF X rm Z yd rvV A) pc lv [] h (some ((), h)) := fun r h' e ls H locs hl hw => by
  cases e; subst hc; subst hs
  exact W.vret C.1 C.2.1 C.2.2.2.2.2.2.1 (fun t ht hW => ⟨rfl, by rw [ht]; exact hw.1, hw.2.2.1.F ht⟩) hw.2.2.1.2.2 d C.2.2.2.2.2.1
end AWE
