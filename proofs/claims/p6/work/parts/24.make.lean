/-! MAKING: the walk where objects are made and their references set; the static table grows with it -/
def addS (Z : Stc) (s : Shp) : Stc := (Z.1 ++ [s], Z.2)
def putR (Z : Stc) (o k b : Nat) : Stc := (Z.1, (fun o' k' => if o' = o ∧ k' = k then some b else Z.2.1 o' k'), Z.2.2)
def ydN (yd : Dyn) (n q : Nat) : Dyn := (va_up yd.1 n q, yd.2)
def zN (h : AH) (n : Nat) : AH := (fun o k => if o = n then 0 else h.1 o k, fun o k => if o = n then 0 else h.2.1 o k, fun o => if o = n then 0 else h.2.2 o)
def Frs (Z : Stc) : Prop := (∀ o k, Z.2.1 o k ≠ some Z.1.length) ∧ (∀ k, Z.2.1 Z.1.length k = none) ∧ (∀ o : Nat, Z.1[o]? = some (Sum.inr 2 : Shp) → ∀ j : Nat, Z.2.2.1 + j % 6 ≠ Z.1.length)
theorem fty_3 : ∀ (ci k : Nat), (fty ci)[k]? = some 3 → ci = 2 := by
  intro ci k e
  have hm := List.mem_of_getElem? e
  unfold fty at hm
  split at hm <;> first | rfl | simp at hm
theorem rty_3 : ∀ (ci k : Nat), (rty ci)[k]? ≠ some 3 := by
  intro ci k e
  have hm := List.mem_of_getElem? e
  unfold rty at hm
  split at hm <;> simp at hm
theorem eFs_congr {Z Z' : Stc} {ad ad' : Nat → Nat} {h h' : AH} {o : Nat} : ∀ (l : List Nat) (k : Nat), (∀ i t, l[i]? = some t → eF Z' ad' h' o (k + i) t = eF Z ad h o (k + i) t) → eFs Z' ad' h' o k l = eFs Z ad h o k l
  | [], _, _ => rfl
  | t :: l, k, he => by
    simp only [eFs]
    have h0 := he 0 t rfl
    rw [Nat.add_zero] at h0
    have ih := eFs_congr (Z := Z) (Z' := Z') (ad := ad) (ad' := ad') (h := h) (h' := h') (o := o) l (k + 1) (fun i t' ht => by
      have q := he (i + 1) t' ht
      rw [show k + (i + 1) = k + 1 + i by omega] at q
      exact q)
    rw [h0, ih]
theorem eF_new {Z : Stc} {yd : Dyn} {h : AH} {o q k t : Nat} {sN : Shp} (hF : Frs Z) (ho : o ≠ Z.1.length) (h3 : t = 3 → ∀ j, Z.2.2.1 + j % 6 ≠ Z.1.length) : eF (addS Z sN) (ydN yd Z.1.length q).1 (zN h Z.1.length) o k t = eF Z yd.1 h o k t := by
  match t, h3 with
  | 0, _ => simp [eF, zN, ho]
  | 1, _ => simp [eF, zN, ho]
  | 2, _ =>
    show va_rf ((Z.2.1 o k).map (va_up yd.1 Z.1.length q)) = va_rf ((Z.2.1 o k).map yd.1)
    cases hz : Z.2.1 o k with
    | none => rfl
    | some b =>
      have hb : b ≠ Z.1.length := fun e => hF.1 o k (by rw [hz, e])
      simp [va_up_ne _ _ hb]
  | 3, h3 =>
    show Value.ref (va_up yd.1 Z.1.length q (Z.2.2.1 + (zN h Z.1.length).2.2 o % 6)) = Value.ref (yd.1 (Z.2.2.1 + h.2.2 o % 6))
    have e1 : (zN h Z.1.length).2.2 o = h.2.2 o := by simp [zN, ho]
    rw [e1, va_up_ne _ _ (h3 rfl _)]
  | t + 4, _ => rfl
theorem ent_new {Z : Stc} {yd : Dyn} {h : AH} {o q : Nat} {s sN : Shp} (hF : Frs Z) (e : Z.1[o]? = some s) : ent (addS Z sN) (ydN yd Z.1.length q) (zN h Z.1.length) o s = ent Z yd h o s := by
  have hl : o < Z.1.length := (List.getElem?_eq_some_iff.mp e).1
  have ho : o ≠ Z.1.length := by omega
  cases s with
  | inr ci =>
    show Sum.inr (ci, _) = Sum.inr (ci, _)
    congr 2
    exact eFs_congr _ _ (fun i t ht => eF_new hF ho (fun h3 => by subst h3; have := fty_3 ci i ht; subst this; exact hF.2.2 o e))
  | inl x =>
    obtain ⟨t, kd, n⟩ := x
    unfold ent
    simp only
    split
    · congr 2
      exact eFs_congr _ _ (fun i t ht => eF_new hF ho (fun h3 => absurd (h3 ▸ ht) (rty_3 _ i)))
    · show Sum.inl (tcl yd t, _) = Sum.inl (tcl yd t, _)
      congr 2
      unfold eA
      split
      · rw [show (zN h Z.1.length).1 o = h.1 o from funext fun j => by simp [zN, ho]]
      · rw [show (zN h Z.1.length).2.1 o = h.2.1 o from funext fun j => by simp [zN, ho]]
      · congr 5
        funext j
        show (Z.2.1 o j).map (va_up yd.1 Z.1.length q) = (Z.2.1 o j).map yd.1
        cases hz : Z.2.1 o j with
        | none => rfl
        | some b =>
          have hb : b ≠ Z.1.length := fun e => hF.1 o j (by rw [hz, e])
          simp [va_up_ne _ _ hb]
theorem wld_new {Z : Stc} {yd : Dyn} {h : AH} {q : Nat} {sN : Shp} {x : va_E} (hF : Frs Z) (hx : ent (addS Z sN) (ydN yd Z.1.length q) (zN h Z.1.length) Z.1.length sN = x) : wld Z yd h ++ [(q, x)] = wld (addS Z sN) (ydN yd Z.1.length q) (zN h Z.1.length) := by
  have hn : (addS Z sN).1.length = Z.1.length + 1 := by simp [addS]
  unfold wld
  rw [hn, List.range_succ, List.map_append]
  congr 1
  · apply List.map_congr_left
    intro o ho
    have hl := List.mem_range.mp ho
    obtain ⟨s, hs⟩ : ∃ s, Z.1[o]? = some s := ⟨_, List.getElem?_eq_getElem hl⟩
    have hs2 : (addS Z sN).1[o]? = some s := by
      show (Z.1 ++ [sN])[o]? = some s
      rw [List.getElem?_append_left hl]; exact hs
    have ha : (ydN yd Z.1.length q).1 o = yd.1 o := va_up_ne _ _ (by omega)
    rw [hs, hs2, ha]
    simp only [Option.getD_some]
    rw [ent_new hF hs]
  · have hs2 : (addS Z sN).1[Z.1.length]? = some sN := by
      show (Z.1 ++ [sN])[Z.1.length]? = some sN
      simp
    simp only [List.map_cons, List.map_nil, hs2, Option.getD_some]
    rw [hx, show (ydN yd Z.1.length q).1 Z.1.length = q from va_up_self _ _ _]
/-- references that are there already -/
def rokV (n : Nat) (v : Value) : Bool := match v with
  | .ref i => Nat.blt i n
  | _ => true
theorem cv_new {n q : Nat} {ad : Nat → Nat} {v : Value} (h : rokV n v = true) : cv (va_up ad n q) v = cv ad v := by
  cases v with
  | ref i =>
    have h1 : i < n := Nat.le_of_ble_eq_true h
    show Value.ref (va_up ad n q i) = _
    rw [va_up_ne _ _ (Nat.ne_of_lt h1)]
    rfl
  | _ => rfl
def rok (n : Nat) (lv : List (Nat × Value)) (st : List Value) : Bool := lv.all (fun q => rokV n q.2) && st.all (rokV n)
theorem lvc_ad {ad ad' : Nat → Nat} {n : Nat} (ha : ∀ o, o < n → ad' o = ad o) {lv : List (Nat × Value)} {st : List Value} (h : rok n lv st = true) : lvc ad' lv = lvc ad lv ∧ st.map (cv ad') = st.map (cv ad) := by
  simp only [rok, Bool.and_eq_true, List.all_eq_true] at h
  have key : ∀ v, rokV n v = true → cv ad' v = cv ad v := by
    intro v hv
    cases v with
    | ref i => show Value.ref (ad' i) = Value.ref (ad i); rw [ha i (Nat.le_of_ble_eq_true hv)]
    | _ => rfl
  exact ⟨List.map_congr_left fun q hq => by rw [key _ (h.1 q hq)], List.map_congr_left fun v hv => key _ (h.2 v hv)⟩
theorem ydN_old {yd : Dyn} {n q : Nat} : ∀ o, o < n → (ydN yd n q).1 o = yd.1 o := fun o ho => va_up_ne _ _ (by omega)
section AWN
variable {X : MCx} {cc : ByteArray} {own : String} {nL : Nat} {ret : Option FieldType} {rm : Room} {Z Z' : Stc} {yd : Dyn} {A : Nat → Prop} {k n : Nat} {α : Type} {Qf : α → AH → State → Prop} {pc ix : Nat} {lv : List (Nat × Value)} {st : List Value} {h : AH} {f : AH → Option (α × AH)}
theorem ra_one {cA cy : ClassId} {ty : FieldType} {s : State} (h1 : va_RA s cA ty) (h2 : va_RA s cy ty) : cA = cy := by
  cases ty with
  | object c =>
    obtain ⟨_, _, _, _, _, a⟩ := h1
    obtain ⟨_, _, _, _, _, b⟩ := h2
    exact Option.some.inj (a.symm.trans b)
  | _ => exact Option.some.inj ((show s.vm.findClass _ = some cA from h1).symm.trans h2)
theorem aw_newI (C : OK X cc own nL ret rm A) {c : Int32} {N : Nat} (d : decode cc pc = .ok (.newarray .int, 2)) (hc0 : ¬ c < 0) (hN : c.toNatClampNeg = N) (hb : N * componentBytes .int ≤ 536870912) (hF : Frs Z) (hZ : addS Z (.inl (0, 0, N)) = Z') (ht : Z.2.2.2[0]? = some .int) (hrk : rok Z.1.length lv st = true) (hc : k + 1 ≤ rm.cells) (hs : n + N ≤ rm.slots) (q : ∀ (a : Nat) (h1 : AH), AW X nL Z' (ydN yd Z.1.length a) A (k + 1) (n + N) Qf (pc + 2) lv (.ref Z.1.length :: st) h1 (f h1)) : AW X nL Z yd A k n Qf pc lv (.int c :: st) h (vl (zN h Z.1.length) f) := fun r h' e ls H locs hl hw => by
  subst hZ
  have hty := tyAt hw.2.2.2.2 ht
  refine va_newa (atype := .int) (ty := .int) (a0 := (N, .inl (fun _ => 0))) C.1 C.2.1 (C.2.2.2.2.1 _ w_arrI) rfl hw.2.2.2.1 hw.1 hw.2.1 hw.2.2.1 C.2.2.2.2.2.2.2.1 (fun _ => rfl) hc0 hN hb (by rw [C.2.2.2.2.2.2.2.2]; exact hc) (by rw [C.2.2.2.2.2.2.2.2]; exact hs) d (fun a cA H1 hK1 p1 p2 p3 => ?_)
  have hcA : cA = tcl yd 0 := ra_one (hK1.2 yd.2.2.length (cA, .int) (by simp)).2 (hw.2.2.2.1.2 0 _ hty).2
  subst hcA
  have hx : ent (addS Z (.inl (0, 0, N))) (ydN yd Z.1.length a) (zN h Z.1.length) Z.1.length (.inl (0, 0, N)) = .inl (tcl yd 0, N, .inl (fun _ => 0)) := by
    show Sum.inl (tcl yd 0, N, Sum.inl _) = _
    rw [show (zN h Z.1.length).1 Z.1.length = (fun _ => 0) from funext fun j => by simp [zN]]
  rw [wld_new hF hx] at p1 p2
  have hlv := lvc_ad (ad := yd.1) (ad' := (ydN yd Z.1.length a).1) ydN_old hrk
  have hr : cv (ydN yd Z.1.length a).1 (.ref Z.1.length) = .ref a := by show Value.ref _ = _; rw [show (ydN yd Z.1.length a).1 Z.1.length = a from va_up_self _ _ _]
  have g := q a _ r h' e ls H1 locs (by rw [hlv.1]; exact hl) ⟨p1, p2, p3, hw.2.2.2⟩
  rw [List.map_cons, hr, hlv.2] at g
  exact g
theorem aw_newJ (C : OK X cc own nL ret rm A) {c : Int32} {N : Nat} (hw0 : Cond.arrayClass .long ∈ TB) (d : decode cc pc = .ok (.newarray .long, 2)) (hc0 : ¬ c < 0) (hN : c.toNatClampNeg = N) (hb : N * componentBytes .long ≤ 536870912) (hF : Frs Z) (hZ : addS Z (.inl (1, 1, N)) = Z') (ht : Z.2.2.2[1]? = some .long) (hrk : rok Z.1.length lv st = true) (hc : k + 1 ≤ rm.cells) (hs : n + N ≤ rm.slots) (q : ∀ (a : Nat) (h1 : AH), AW X nL Z' (ydN yd Z.1.length a) A (k + 1) (n + N) Qf (pc + 2) lv (.ref Z.1.length :: st) h1 (f h1)) : AW X nL Z yd A k n Qf pc lv (.int c :: st) h (vl (zN h Z.1.length) f) := fun r h' e ls H locs hl hw => by
  subst hZ
  have hty := tyAt hw.2.2.2.2 ht
  refine va_newa (atype := .long) (ty := .long) (a0 := (N, .inr (.inl (fun _ => 0)))) C.1 C.2.1 (C.2.2.2.2.1 _ hw0) rfl hw.2.2.2.1 hw.1 hw.2.1 hw.2.2.1 C.2.2.2.2.2.2.2.1 (fun _ => rfl) hc0 hN hb (by rw [C.2.2.2.2.2.2.2.2]; exact hc) (by rw [C.2.2.2.2.2.2.2.2]; exact hs) d (fun a cA H1 hK1 p1 p2 p3 => ?_)
  have hcA : cA = tcl yd 1 := ra_one (hK1.2 yd.2.2.length (cA, .long) (by simp)).2 (hw.2.2.2.1.2 1 _ hty).2
  subst hcA
  have hx : ent (addS Z (.inl (1, 1, N))) (ydN yd Z.1.length a) (zN h Z.1.length) Z.1.length (.inl (1, 1, N)) = .inl (tcl yd 1, N, .inr (.inl (fun _ => 0))) := by
    show Sum.inl (tcl yd 1, N, Sum.inr (Sum.inl _)) = _
    rw [show (zN h Z.1.length).2.1 Z.1.length = (fun _ => 0) from funext fun j => by simp [zN]]
  rw [wld_new hF hx] at p1 p2
  have hlv := lvc_ad (ad := yd.1) (ad' := (ydN yd Z.1.length a).1) ydN_old hrk
  have hr : cv (ydN yd Z.1.length a).1 (.ref Z.1.length) = .ref a := by show Value.ref _ = _; rw [show (ydN yd Z.1.length a).1 Z.1.length = a from va_up_self _ _ _]
  have g := q a _ r h' e ls H1 locs (by rw [hlv.1]; exact hl) ⟨p1, p2, p3, hw.2.2.2⟩
  rw [List.map_cons, hr, hlv.2] at g
  exact g
theorem aw_newq (C : OK X cc own nL ret rm A) {c : Int32} {N t : Nat} {E : String} (hAO : va_AO E (xS X)) (hcl : Cond.classLink own ix E ∈ TB) (d : decode cc pc = .ok (.anewarray ix, 3)) (hc0 : ¬ c < 0) (hN : c.toNatClampNeg = N) (hb : N * 4 ≤ 536870912) (hF : Frs Z) (hZ : addS Z (.inl (t, 2, N)) = Z') (ht : Z.2.2.2[t]? = some (.object E)) (hrk : rok Z.1.length lv st = true) (hc : k + 1 ≤ rm.cells) (hs : n + N ≤ rm.slots) (q : ∀ (a : Nat) (h1 : AH), AW X nL Z' (ydN yd Z.1.length a) A (k + 1) (n + N) Qf (pc + 3) lv (.ref Z.1.length :: st) h1 (f h1)) : AW X nL Z yd A k n Qf pc lv (.int c :: st) h (vl (zN h Z.1.length) f) := fun r h' e ls H locs hl hw => by
  subst hZ
  have hty := tyAt hw.2.2.2.2 ht
  refine va_newq C.1 C.2.1 C.2.2.2.1 (C.2.2.2.2.1 _ hcl) hAO hw.2.2.2.1 hw.1 hw.2.1 hw.2.2.1 C.2.2.2.2.2.2.2.1 hc0 hN hb (by rw [C.2.2.2.2.2.2.2.2]; exact hc) (by rw [C.2.2.2.2.2.2.2.2]; exact hs) d (fun a cA H1 hK1 p1 p2 p3 => ?_)
  have hcA : cA = tcl yd t := ra_one (hK1.2 yd.2.2.length (cA, .object E) (by simp)).2 (hw.2.2.2.1.2 t _ hty).2
  subst hcA
  have hx : ent (addS Z (.inl (t, 2, N))) (ydN yd Z.1.length a) (zN h Z.1.length) Z.1.length (.inl (t, 2, N)) = .inl (tcl yd t, N, .inr (.inr (.inr (.inr (fun _ => none))))) := by
    show Sum.inl (tcl yd t, N, Sum.inr (Sum.inr (Sum.inr (Sum.inr _)))) = _
    rw [show (fun j => ((addS Z (.inl (t, 2, N))).2.1 Z.1.length j).map (ydN yd Z.1.length a).1) = (fun _ => none) from funext fun j => by show (Z.2.1 Z.1.length j).map _ = none; rw [hF.2.1 j]; rfl]
  rw [wld_new hF hx] at p1 p2
  have hlv := lvc_ad (ad := yd.1) (ad' := (ydN yd Z.1.length a).1) ydN_old hrk
  have hr : cv (ydN yd Z.1.length a).1 (.ref Z.1.length) = .ref a := by show Value.ref _ = _; rw [show (ydN yd Z.1.length a).1 Z.1.length = a from va_up_self _ _ _]
  have g := q a _ r h' e ls H1 locs (by rw [hlv.1]; exact hl) ⟨p1, p2, p3, hw.2.2.2⟩
  rw [List.map_cons, hr, hlv.2] at g
  exact g
/-- what a field of a kind holds when its object is new -/
def dvF (c : Option Nat) : Value := match c with
  | some 0 => .int 0
  | some 1 => .long 0
  | _ => .null
theorem eFs_born {Z : Stc} {yd : Dyn} {h : AH} {q : Nat} {sN : Shp} {codes : List Nat} (hF : Frs Z) (h3 : ∀ k : Nat, codes[k]? ≠ some 3) : eFs (addS Z sN) (ydN yd Z.1.length q).1 (zN h Z.1.length) Z.1.length 0 codes = codes.map (fun c => dvF (some c)) := by
  apply List.ext_getElem?
  intro j
  rw [eFs_get, Nat.zero_add, List.getElem?_map]
  cases hc : codes[j]? with
  | none => rfl
  | some t =>
    show some _ = some _
    congr 1
    match t, hc with
    | 0, _ => simp [eF, zN, dvF]
    | 1, _ => simp [eF, zN, dvF]
    | 2, _ =>
      show va_rf ((Z.2.1 Z.1.length j).map _) = _
      rw [hF.2.1 j]
      rfl
    | 3, hc => exact absurd hc (h3 j)
    | t + 4, _ => rfl
theorem aw_new (C : OK X cc own nL ret rm A) {ci N : Nat} {D : String} {T : u_T} {codes : List Nat} {ty : Nat → FieldType} (sN : Shp) (d : decode cc pc = .ok (.new ix, 3)) (hvc : vwCl[ci]? = some (D, T, N)) (hin : ∀ w ∈ u_ws D T N, w ∈ TB) (hty : ∀ k, k < N → parseFieldDescriptor (T k).2.2.1 = some (ty k)) (hcl : Cond.classLink own ix D ∈ TB) (hinst : Cond.instantiable D N ∈ TB) (hini : Cond.initialized D ∈ TB) (hE : ∀ (Z : Stc) (yd : Dyn) (h : AH) (o : Nat), ent Z yd h o sN = .inr (ci, eFs Z yd.1 h o 0 codes)) (h3 : ∀ k : Nat, codes[k]? ≠ some 3) (hdef : ∀ j : Nat, j < N → defaultValue (ty j) = vp_V (codes.map (fun c => dvF (some c))) j) (hF : Frs Z) (hZ : addS Z sN = Z') (hrk : rok Z.1.length lv st = true) (hc : k + 1 ≤ rm.cells) (hs : n + N ≤ rm.slots) (q : ∀ (a : Nat) (h1 : AH), AW X nL Z' (ydN yd Z.1.length a) A (k + 1) (n + N) Qf (pc + 3) lv (.ref Z.1.length :: st) h1 (f h1)) : AW X nL Z yd A k n Qf pc lv st h (vl (zN h Z.1.length) f) := fun r h' e ls H locs hl hw => by
  subst hZ
  refine va_new (ci := ci) (fs := codes.map (fun c => dvF (some c))) C.1 C.2.1 C.2.2.2.2.1 hin ty hty C.2.2.2.1 (C.2.2.2.2.1 _ hcl) (C.2.2.2.2.1 _ hinst) (C.2.2.2.2.1 _ hini) hw.2.2.2.1 hw.1 hw.2.1 hw.2.2.1 C.2.2.2.2.2.2.2.1 hvc hdef (by rw [C.2.2.2.2.2.2.2.2]; exact hc) (by rw [C.2.2.2.2.2.2.2.2]; exact hs) d (fun a H1 p1 p2 p3 => ?_)
  have hx : ent (addS Z sN) (ydN yd Z.1.length a) (zN h Z.1.length) Z.1.length sN = .inr (ci, codes.map (fun c => dvF (some c))) := by rw [hE, eFs_born hF h3]
  rw [wld_new hF hx] at p1 p2
  have hlv := lvc_ad (ad := yd.1) (ad' := (ydN yd Z.1.length a).1) ydN_old hrk
  have hr : cv (ydN yd Z.1.length a).1 (.ref Z.1.length) = .ref a := by show Value.ref _ = _; rw [show (ydN yd Z.1.length a).1 Z.1.length = a from va_up_self _ _ _]
  have g := q a _ r h' e ls H1 locs (by rw [hlv.1]; exact hl) ⟨p1, p2, p3, hw.2.2.2⟩
  rw [List.map_cons, hr, hlv.2] at g
  exact g
theorem aw_objInit (C : OK X cc own nL ret rm A) {a : Nat} (d : decode cc pc = .ok (.invokespecial ix, 3)) (hl : Cond.methodLink own ix Lib.objectInit ∈ TB) (hi : Cond.instanceMethod Lib.objectInit ∈ TB) (hco : Cond.code Lib.objectInit ⟨#[0xb1]⟩ 1 none ∈ TB) (hR : 1 ≤ rm.frames ∧ ((st.map (cv yd.1)).map fun v => v.category).sum + 12 ≤ rm.locals) {o : Option (α × AH)} (q : AW X nL Z yd A k n Qf (pc + 3) lv st h o) : AW X nL Z yd A k n Qf pc lv (.ref a :: st) h o := fun r h' e ls H locs hll hw => by
  refine W.objInit C.1 C.2.1 C.2.2.2.1 (C.2.2.2.2.1 _ hl) (C.2.2.2.2.1 _ hi) (C.2.2.2.2.1 _ hco) rfl (by rw [C.2.2.1]; exact hll.1) rfl d (by rw [C.2.2.2.2.2.2.2.2]; exact hR.1) (by rw [C.2.2.2.2.2.2.2.2]; have := hR.2; show 2 * (F0 (xM X) pc ls _).monitorRoom + _ + 12 ≤ _; simpa [JFrame.monitorRoom] using this) ?_
  exact q r h' e ls H locs hll hw
/-- a final reference field, written in a constructor -/
def FPF (own : String) (ix ci k : Nat) (ty : FieldType) : Prop := ∃ (D : String) (T : u_T) (N : Nat) (ty0 : Nat → FieldType), vwCl[ci]? = some (D, T, N) ∧ k < N ∧ (∀ w ∈ u_ws D T N, w ∈ TB) ∧ Cond.fieldLink own ix (T k).1 (T k).2.1 (T k).2.2.1 ∈ TB ∧ (∀ j, j < N → parseFieldDescriptor (T j).2.2.1 = some (ty0 j)) ∧ (∀ a, a < N → ∀ b, b < N → a ≠ b → (T a).2.1 ≠ (T b).2.1) ∧ (T k).2.2.2 = true ∧ (T k).1 = own ∧ parseFieldDescriptor (T k).2.2.1 = some ty
theorem wld_putR {o ci j b : Nat} (e : Z.1[o]? = some (.inr ci)) (hk : (fty ci)[j]? = some 2) : (wld Z yd h).set o (yd.1 o, .inr (ci, (eFs Z yd.1 h o 0 (fty ci)).set j (.ref (yd.1 b)))) = wld (putR Z o j b) yd h := by
  have hl : o < Z.1.length := (List.getElem?_eq_some_iff.mp e).1
  have other : ∀ (o' : Nat) (s' : Shp), o' ≠ o → ent (putR Z o j b) yd h o' s' = ent Z yd h o' s' := by
    intro o' s' hn
    have he : ∀ k t, eF (putR Z o j b) yd.1 h o' k t = eF Z yd.1 h o' k t := by
      intro k t
      unfold eF
      split <;> simp [putR, hn]
    have hs : ∀ l k, eFs (putR Z o j b) yd.1 h o' k l = eFs Z yd.1 h o' k l := fun l k => eFs_congr l k (fun i t _ => he _ _)
    cases s' with
    | inr c => simp only [ent]; rw [hs]
    | inl x =>
      unfold ent
      simp only
      split
      · rw [hs]
      · unfold eA
        split <;> simp [putR, hn]
  apply List.ext_getElem?
  intro i
  by_cases hi : i = o
  · subst hi
    rw [List.getElem?_set_self (by rw [wld_len]; exact hl), wld_at (Z := putR Z i j b) (show (putR Z i j b).1[i]? = some (.inr ci) from e)]
    show some (yd.1 i, Sum.inr (ci, _)) = some (yd.1 i, Sum.inr (ci, _))
    congr 4
    apply List.ext_getElem?
    intro m
    by_cases hm : m = j
    · subst hm
      rw [List.getElem?_set_self (by rw [eFs_len]; exact (List.getElem?_eq_some_iff.mp hk).1), eFs_get, hk, Nat.zero_add]
      simp [eF, putR, va_rf]
    · rw [List.getElem?_set_ne (Ne.symm hm), eFs_get, eFs_get, Nat.zero_add]
      cases (fty ci)[m]? with
      | none => rfl
      | some t =>
        show some _ = some _
        congr 1
        unfold eF
        split <;> simp [putR, hm]
  · rw [List.getElem?_set_ne (Ne.symm hi)]
    by_cases hil : i < Z.1.length
    · obtain ⟨s, hs⟩ : ∃ s, Z.1[i]? = some s := ⟨_, List.getElem?_eq_getElem hil⟩
      rw [wld_at hs, wld_at (Z := putR Z o j b) (show (putR Z o j b).1[i]? = some s from hs), other i s hi]
    · rw [List.getElem?_eq_none (by rw [wld_len]; omega), List.getElem?_eq_none (by rw [wld_len]; show Z.1.length ≤ i; omega)]
theorem aw_putRF (C : OK X cc own nL ret rm A) {a ci j b : Nat} {ty : FieldType} (hin2 : X.2.2.2.2.2.2.2.2.1.name = "<init>") (d : decode cc pc = .ok (.putfield ix, 3)) (hf : FPF own ix ci j ty) (hs : Z.1[a]? = some (.inr ci)) (hk : (fty ci)[j]? = some 2) (hn : ∀ x, narrow ty (.ref x) = .ref x) (hfi : ∀ x, fits ty (.ref x) = true) (hZ : putR Z a j b = Z') {o : Option (α × AH)} (q : AW X nL Z' yd A k n Qf (pc + 3) lv st h o) : AW X nL Z yd A k n Qf pc lv (.ref b :: .ref a :: st) h o := fun r h' e ls H locs hl hw => by
  subst hZ
  obtain ⟨D, T, N, ty0, e1, e2, e3, e4, e5, e6, e7, e9, e8⟩ := hf
  have he := wld_at (yd := yd) (h := h) hs
  refine va_putF (v := .ref (yd.1 b)) (ty := ty) C.1 C.2.1 C.2.2.2.2.1 e3 ty0 e5 e6 C.2.2.2.1 hw.2.2.2.1 hw.1 hw.2.1 hw.2.2.1 a he e1 j e2 (C.2.2.2.2.1 _ e4) (fun _ h9 => h9) e7 hin2 e9 e8 (hn _) (hfi _) (by rw [eFs_len]; exact (List.getElem?_eq_some_iff.mp hk).1) d (fun H1 locs1 p1 p2 p3 => ?_)
  rw [wld_putR hs hk] at p1 p2
  exact q r h' e ls H1 locs1 hl ⟨p1, p2, p3, hw.2.2.2⟩
/-- of a class's objects: they may stand where a reference to another class is wanted -/
def AsgOk (X : MCx) (a b : String) : Prop := ∀ c e : ClassId, (xS X).vm.findClass a = some c → (xS X).vm.findClass b = some e → (xS X).vm.assignable c e = true
theorem wld_aast {o t m j b : Nat} (e : Z.1[o]? = some (.inl (t, 2, m))) : (wld Z yd h).set o (yd.1 o, .inl (tcl yd t, m, .inr (.inr (.inr (.inr (va_up (fun i => (Z.2.1 o i).map yd.1) j (some (yd.1 b)))))))) = wld (putR Z o j b) yd h := by
  have hl : o < Z.1.length := (List.getElem?_eq_some_iff.mp e).1
  have other : ∀ (o' : Nat) (s' : Shp), o' ≠ o → ent (putR Z o j b) yd h o' s' = ent Z yd h o' s' := by
    intro o' s' hn
    have he : ∀ k t, eF (putR Z o j b) yd.1 h o' k t = eF Z yd.1 h o' k t := by
      intro k t
      unfold eF
      split <;> simp [putR, hn]
    have hs : ∀ l k, eFs (putR Z o j b) yd.1 h o' k l = eFs Z yd.1 h o' k l := fun l k => eFs_congr l k (fun i t _ => he _ _)
    cases s' with
    | inr c => simp only [ent]; rw [hs]
    | inl x =>
      unfold ent
      simp only
      split
      · rw [hs]
      · unfold eA
        split <;> simp [putR, hn]
  apply List.ext_getElem?
  intro i
  by_cases hi : i = o
  · subst hi
    rw [List.getElem?_set_self (by rw [wld_len]; exact hl), wld_at (Z := putR Z i j b) (show (putR Z i j b).1[i]? = some (.inl (t, 2, m)) from e)]
    show some (yd.1 i, Sum.inl (tcl yd t, m, Sum.inr (Sum.inr (Sum.inr (Sum.inr _))))) = some (yd.1 i, Sum.inl (tcl yd t, m, Sum.inr (Sum.inr (Sum.inr (Sum.inr _)))))
    congr 8
    apply congrArg
    funext x
    by_cases hx : x = j
    · subst hx
      simp [va_up, putR]
    · simp [va_up, putR, hx]
  · rw [List.getElem?_set_ne (Ne.symm hi)]
    by_cases hil : i < Z.1.length
    · obtain ⟨s, hs⟩ : ∃ s, Z.1[i]? = some s := ⟨_, List.getElem?_eq_getElem hil⟩
      rw [wld_at hs, wld_at (Z := putR Z o j b) (show (putR Z o j b).1[i]? = some s from hs), other i s hi]
    · rw [List.getElem?_eq_none (by rw [wld_len]; omega), List.getElem?_eq_none (by rw [wld_len]; show Z.1.length ≤ i; omega)]
theorem aw_aast (C : OK X cc own nL ret rm A) {a b t m ci : Nat} {i : Int32} {E : String} {qv : vw_C} (d : decode cc pc = .ok (.aastore, 1)) (hs : Z.1[a]? = some (.inl (t, 2, m))) (ht : Z.2.2.2[t]? = some (.object E)) (hb : Z.1[b]? = some (.inr ci)) (hcv : vwCl[ci]? = some qv) (hasg : AsgOk X qv.1 E) (hi0 : ¬ i < 0) (him : i.toNatClampNeg < m) (hZ : putR Z a i.toNatClampNeg b = Z') {o : Option (α × AH)} (q : AW X nL Z' yd A k n Qf (pc + 1) lv st h o) : AW X nL Z yd A k n Qf pc lv (.ref b :: .int i :: .ref a :: st) h o := fun r h' e ls H locs hl hw => by
  subst hZ
  obtain ⟨cell, g1, g2, g3⟩ := recv_at hw hb hcv
  obtain ⟨hfc, kB, hkB, -⟩ := (hw.2.2.2.1.1 ci qv hcv).2
  have hce := Option.some.inj (hfc.symm.trans g3)
  have hin : vp_in i m := fun z => z.elim hi0 (fun y => absurd him (Nat.not_lt.mpr y))
  refine va_astqM (f := fun j => (Z.2.1 a j).map yd.1) C.1 C.2.1 hw.2.2.2.1 hw.1 hw.2.1 hw.2.2.1 a t (wld_at hs) (tyAt hw.2.2.2.2 ht) ⟨cell, g1, g2, ⟨kB, by rw [← hce]; exact hkB⟩, fun comp hcomp => hasg _ _ g3 hcomp⟩ hin d (fun H1 locs1 p1 p2 p3 => ?_)
  rw [wld_aast hs] at p1 p2
  exact q r h' e ls H1 locs1 hl ⟨p1, p2, p3, hw.2.2.2⟩
end AWN
/-! constructors: the world grows, old objects keep their places -/
def PostN (Z Z' : Stc) (yd : Dyn) (A : Nat → Prop) (h' : AH) : Array Value → State → Outcome → State → Prop := fun _ s o t => o = .returned none ∧ (∃ ad' : Nat → Nat, (∀ o, o < Z.1.length → ad' o = yd.1 o) ∧ va_P yd.2.1 vwCl (wld Z' (ad', yd.2) h') t.heap ∧ va_D A (wld Z' (ad', yd.2) h')) ∧ va_F A s t
def MCN (l : Launch) (y : MethodName) (cc : ByteArray) (nL : Nat) (rm : Room) (KX : State → Prop) (Z Z' : Stc) (avs : List Value) (F : AH → Option (Unit × AH)) : Prop :=
  ∀ (yd : Dyn) (h : AH) (r : Unit) (h' : AH) (sz : Nat), F h = some (r, h') → Met l y (.code y cc nL none :: TB) rm (va_Pc (avs.map (cv yd.1)) (fun U => PreB Z yd h sz U ∧ KX U)) (PostN Z Z' yd (AA yd Z sz) h') rm.cells rm.slots (AA yd Z sz)
def QFN (X : MCx) (rm : Room) (Z Z' : Stc) (yd : Dyn) (A : Nat → Prop) (_ : Unit) (h' : AH) : State → Prop := MQ X.2.2.2.2.2.2.2.1 (PostN Z Z' yd A h') X.2.2.2.2.2.2.1 (xS X) rm.cells rm.slots A
def Agr (Z : Stc) (yd yd' : Dyn) : Prop := yd'.2 = yd.2 ∧ ∀ o, o < Z.1.length → yd'.1 o = yd.1 o
theorem Agr.rf {Z : Stc} {yd : Dyn} : Agr Z yd yd := ⟨rfl, fun _ _ => rfl⟩
theorem Agr.new {Z : Stc} {yd yd' : Dyn} {n a : Nat} (h : Agr Z yd yd') (hn : Z.1.length ≤ n) : Agr Z yd (ydN yd' n a) := ⟨h.1, fun o ho => (va_up_ne _ _ (by omega)).trans (h.2 o ho)⟩
theorem Agr.call {Z : Stc} {yd yd' : Dyn} {n : Nat} {ad' : Nat → Nat} (h : Agr Z yd yd') (hn : Z.1.length ≤ n) (ha : ∀ o, o < n → ad' o = yd'.1 o) : Agr Z yd (ad', yd'.2) := ⟨h.1, fun o ho => (ha o (by omega)).trans (h.2 o ho)⟩
theorem MCN.of {l : Launch} {y : MethodName} {cc : ByteArray} {nL : Nat} {rm : Room} {KX : State → Prop} {Z Z' : Stc} {avs : List Value} {F : AH → Option (Unit × AH)} {own : String} (hy : plainName y.cls = true) (hown : y.cls = own) (hnm : y.name = "<init>") (hl : (lg_sl avs).length ≤ nL)
    (body : ∀ (X : MCx) (yd : Dyn) (A : Nat → Prop) (h : AH), OK X cc own nL none rm A → KX (xS X) → X.2.2.2.2.2.2.2.2.1.name = "<init>" → AW X nL Z yd A 0 0 (QFN X rm Z Z' yd A) 0 (lv_args 0 avs) [] h (F h)) : MCN l y cc nL rm KX Z Z' avs F := by
  intro yd h r h' sz hF
  refine Met.ofW (cc := cc) (maxL := nL) (ret := none) hy rfl ?_
  intro p e s m args below meth c s₁ B hml hv
  obtain ⟨rfl, ⟨hsz, hP, hK, hD0, hT⟩, hKX⟩ := hv
  have hts := atoms_spec (ws := .code y cc nL none :: TB) B.pre
  have hown2 : s.vm.findClass y.cls = some m.cls := findClass_of_methodNamed B.named
  have hlv := lv_entry (avs.map (cv yd.1)) (n := nL) (by rw [sl_len]; exact hl)
  rw [lg_entry_eq]
  rw [lvc_args] at hlv
  have hA : ∀ q, s.heap.size ≤ q → AA yd Z sz q := fun q hq => Or.inr (hsz ▸ hq)
  exact body (p, l, e, (headSpec (.code y cc nL none :: TB) rm).room, s, m, (avs.map (cv yd.1)).toArray, below, meth, c) yd (AA yd Z sz) h ⟨B.exec, B.bytes, hml, hown ▸ hown2, fun w hw => hts w (List.mem_cons_of_mem _ hw), B.notSynchronized, B.returns, hA, rfl⟩ hKX (hnm ▸ (name_of_methodNamed B.named B.method).1) r h' hF _ s.heap [] hlv ⟨hP, AA_D hD0, va_S.rf, hK, hT⟩
section AWNE
variable {X : MCx} {cc : ByteArray} {own : String} {nL : Nat} {ret : Option FieldType} {rm : Room} {Z Z' Z0 : Stc} {yd yd' : Dyn} {A : Nat → Prop} {k n : Nat} {α : Type} {Qf : α → AH → State → Prop} {pc ix : Nat} {lv : List (Nat × Value)} {st : List Value} {h : AH}
theorem aw_vretN (C : OK X cc own nL none rm A) (hg : Agr Z yd yd') (d : decode cc pc = .ok (.return_, 1)) (hc : k = rm.cells) (hs : n = rm.slots) : AW X nL Z' yd' A k n (QFN X rm Z Z' yd A) pc lv [] h (some ((), h)) := fun r h' e ls H locs hl hw => by
  cases e; subst hc; subst hs
  have hy : yd' = (yd'.1, yd.2) := by rw [← hg.1]
  have hD := hw.2.1
  refine W.vret C.1 C.2.1 C.2.2.2.2.2.2.1 (fun t ht hW => ⟨rfl, ⟨yd'.1, hg.2, ?_, ?_⟩, hw.2.2.1.F ht⟩) hw.2.2.1.2.2 d C.2.2.2.2.2.1
  · rw [ht, ← hy, ← hg.1]; exact hw.1
  · rw [← hy]; exact hD
/-- a constructor's call; hrun: how it is linked -/
theorem aw_callC (C : OK X cc own nL ret rm A) {rm' : Room} {F : AH → Option (Unit × AH)} {oc : Option (Unit × AH)} {rest : List Value} {f : Unit → AH → Option (α × AH)}
    (hrun : ∀ (r : Unit) (h' : AH), F h = some (r, h') → ∀ (ls : Array Slot) (H : Heap) (locs : List Loc), ls.size = nL → WR X Z yd A h H locs → va_Run X.1 X.2.1 X.2.2.1 X.2.2.2.1 (xS X) (xM X) X.2.2.2.2.2.2.1 X.2.2.2.2.2.2.2.1 X.2.2.2.2.2.2.2.2.1 X.2.2.2.2.2.2.2.2.2 H locs k n rm'.cells rm'.slots (F0 (xM X) pc ls (st.map (cv yd.1))) (rest.map (cv yd.1)) (PostN Z Z' yd (AA yd Z H.size) h' #[]) (AA yd Z H.size))
    (hF : F h = oc) (hrk : rok Z.1.length lv rest = true) (q : ∀ (ad' : Nat → Nat) (h1 : AH), (∀ o, o < Z.1.length → ad' o = yd.1 o) → AW X nL Z' (ad', yd.2) A (k + rm'.cells) (n + rm'.slots) Qf (pc + 3) lv rest h1 (f () h1)) (hTl : Z'.2.2.2 = Z.2.2.2) : AW X nL Z yd A k n Qf pc lv st h (bd oc f) := by
  subst hF
  intro r h' e ls H locs hl hw
  cases hF : F h with
  | none => rw [hF] at e; cases e
  | some p =>
    rw [hF] at e
    have e : f p.1 p.2 = some (r, h') := e
    have run := hrun p.1 p.2 hF ls H locs hl.1 hw
    intro T hT XX
    obtain ⟨v, st₀, t, T', L, h0, X', hL, e1, e2, ⟨hv, ⟨ad', ha, hP1, hD1⟩, hz, hk⟩, stp⟩ := run T hT XX
    cases hv
    rw [h0] at hz hk
    have hin := AA_in hw C.2.2.2.2.2.2.2.1
    have hS : va_S A (xS X).heap T'.heap (locs ++ L) := ⟨Nat.le_trans hw.2.2.1.1 (by rw [e1]; exact hz), fun q h1 h2 => by rw [e1, hk q (Nat.lt_of_lt_of_le h1 hw.2.2.1.1) (fun z => h2 (hin q z))]; exact hw.2.2.1.2.1 q h1 h2, fun q hq => by
      rcases List.mem_append.mp hq with h | h
      · exact hw.2.2.1.2.2 q h
      · exact hin _ (hL q h)⟩
    have hlv := lvc_ad (ad := yd.1) (ad' := ad') ha hrk
    obtain ⟨t2, a1, b1⟩ := q ad' p.2 ha r h' e ls T'.heap (locs ++ L) (by rw [hlv.1]; exact hl) ⟨by rw [e1]; exact hP1, hD1.weaken (fun _ _ _ hz => hin _ hz), hS, hw.2.2.2.1, by rw [hTl]; exact hw.2.2.2.2⟩ T' rfl X'
    refine ⟨t2, stp t2 ?_, b1⟩
    rw [hlv.2] at a1
    exact a1
theorem cn_pre {KX : State → Prop} (hKm : ∀ u U : State, u.WarmedH U.vm → KX u → KX U) {H : Heap} {locs : List Loc} {avs : List Value} (hw : WR X Z yd A h H locs) (hK : KX (xS X)) : ∀ U : State, U.heap = H → (xS X).WarmedH U.vm → va_Pc avs (fun U => PreB Z yd h H.size U ∧ KX U) avs.toArray U := fun U hU hW => ⟨rfl, (pre_at (avs := avs) hw U hU hW).2, hKm _ _ hW hK⟩
theorem run_I {y : MethodName} {bytes : ByteArray} {maxL np : Nat} {rm' : Room} {F : AH → Option (Unit × AH)} {b : Nat} {As rest : List Value} {KX : State → Prop} (C : OK X cc own nL ret rm A) (hKm : ∀ u U : State, u.WarmedH U.vm → KX u → KX U) (hKb : ∀ (a : Array Value) (U : State) (g : JFrame) (mk : MethodId), KX U → KX (U.calling g mk a)) (hKX : KX (xS X)) (hX : MCN X.2.1 y bytes maxL rm' KX Z Z' (.ref b :: As) F) (d : decode cc pc = .ok (.invokespecial ix, 3)) (M : MF y bytes maxL none np) (hl : Cond.methodLink own ix y ∈ TB) (hi : Cond.instanceMethod y ∈ TB) (hnm : y.name = "<init>") (hR : RmOk rm' rm maxL) (hn : As.length = np) (hs : st = As.reverse ++ .ref b :: rest) (hW : ((rest.map (cv yd.1)).map fun v => v.category).sum ≤ 8) (hcs : k + rm'.cells ≤ rm.cells ∧ n + rm'.slots ≤ rm.slots) : ∀ (r : Unit) (h' : AH), F h = some (r, h') → ∀ (ls : Array Slot) (H : Heap) (locs : List Loc), ls.size = nL → WR X Z yd A h H locs → va_Run X.1 X.2.1 X.2.2.1 X.2.2.2.1 (xS X) (xM X) X.2.2.2.2.2.2.1 X.2.2.2.2.2.2.2.1 X.2.2.2.2.2.2.2.2.1 X.2.2.2.2.2.2.2.2.2 H locs k n rm'.cells rm'.slots (F0 (xM X) pc ls (st.map (cv yd.1))) (rest.map (cv yd.1)) (PostN Z Z' yd (AA yd Z H.size) h' #[]) (AA yd Z H.size) := by
  intro r h' hF ls H locs hls hw
  exact va_runI (b := yd.1 b) (As := As.map (cv yd.1)) (Ts := TB) ⟨C.1, C.2.1, C.2.2.1, C.2.2.2.1, C.2.2.2.2.1⟩ (hX yd h r h' H.size hF) ⟨C.callB M hl hR, hnm, C.2.2.2.2.1 _ hi⟩ ⟨fun a U g mk q => ⟨(pre_blind (avs := _) a U g mk ⟨q.1, q.2.1⟩).1, (pre_blind (Z := Z) (yd := yd) (h := h) a U g mk ⟨q.1, q.2.1⟩).2, hKb a U g mk q.2.2⟩, cn_pre hKm hw hKX⟩ rfl (by rw [List.length_map]; exact hn) hls (by rw [hs]; simp [cv]) (lv_room hW) d (by rw [C.2.2.2.2.2.2.2.2]; exact hcs)
theorem run_IN {y : MethodName} {host : String} {bytes : ByteArray} {maxL np : Nat} {rm' : Room} {F : AH → Option (Unit × AH)} {b : Nat} {As rest : List Value} {KX : State → Prop} (C : OK X cc own nL ret rm A) (hKm : ∀ u U : State, u.WarmedH U.vm → KX u → KX U) (hKb : ∀ (a : Array Value) (U : State) (g : JFrame) (mk : MethodId), KX U → KX (U.calling g mk a)) (hKX : KX (xS X)) (hX : MCN X.2.1 y bytes maxL rm' KX Z Z' (.ref b :: As) F) (d : decode cc pc = .ok (.invokespecial ix, 3)) (M : MF y bytes maxL none np) (hl : va_Nw (.methodLinkNest own ix y host) (xS X)) (hi : Cond.instanceMethod y ∈ TB) (hnm : y.name = "<init>") (hR : RmOk rm' rm maxL) (hn : As.length = np) (hs : st = As.reverse ++ .ref b :: rest) (hW : ((rest.map (cv yd.1)).map fun v => v.category).sum ≤ 8) (hcs : k + rm'.cells ≤ rm.cells ∧ n + rm'.slots ≤ rm.slots) : ∀ (r : Unit) (h' : AH), F h = some (r, h') → ∀ (ls : Array Slot) (H : Heap) (locs : List Loc), ls.size = nL → WR X Z yd A h H locs → va_Run X.1 X.2.1 X.2.2.1 X.2.2.2.1 (xS X) (xM X) X.2.2.2.2.2.2.1 X.2.2.2.2.2.2.2.1 X.2.2.2.2.2.2.2.2.1 X.2.2.2.2.2.2.2.2.2 H locs k n rm'.cells rm'.slots (F0 (xM X) pc ls (st.map (cv yd.1))) (rest.map (cv yd.1)) (PostN Z Z' yd (AA yd Z H.size) h' #[]) (AA yd Z H.size) := by
  intro r h' hF ls H locs hls hw
  exact va_runIN (b := yd.1 b) (As := As.map (cv yd.1)) (Ts := TB) ⟨C.1, C.2.1, C.2.2.1, C.2.2.2.1, C.2.2.2.2.1⟩ (hX yd h r h' H.size hF) ⟨⟨⟨rfl, rfl, by rw [C.2.2.2.2.2.2.2.2]; exact hR.1, by rw [C.2.2.2.2.2.2.2.2]; exact hR.2, C.warm M.2.1, List.mem_cons_self⟩, C.2.2.2.2.1 _ M.2.1, C.2.2.2.2.1 _ M.1, M.2.2.1, M.n, va_Nw.use rfl hl⟩, hnm, C.2.2.2.2.1 _ hi⟩ ⟨fun a U g mk q => ⟨(pre_blind (avs := _) a U g mk ⟨q.1, q.2.1⟩).1, (pre_blind (Z := Z) (yd := yd) (h := h) a U g mk ⟨q.1, q.2.1⟩).2, hKb a U g mk q.2.2⟩, cn_pre hKm hw hKX⟩ rfl (by rw [List.length_map]; exact hn) hls (by rw [hs]; simp [cv]) (lv_room hW) d (by rw [C.2.2.2.2.2.2.2.2]; exact hcs)
end AWNE
