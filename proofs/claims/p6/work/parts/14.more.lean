/-! a reference answered; rows copied; a row made -/
def cpI (h : AH) (src dst n : Nat) : AH := (fun o k => if o = dst ∧ k < n then h.1 src k else h.1 o k, h.2)
section AWM
variable {X : MCx} {cc : ByteArray} {own : String} {nL : Nat} {ret : Option FieldType} {rm : Room} {Z : Stc} {yd : Dyn} {A : Nat → Prop} {k n : Nat} {α : Type} {Qf : α → AH → State → Prop} {pc ix : Nat} {lv : List (Nat × Value)} {st : List Value} {h : AH} {o : Option (α × AH)}
theorem aw_aret {D : String} (C : OK X cc own nL (some (.object D)) rm A) {x : Nat} (d : decode cc pc = .ok (.areturn, 1)) (hc : k = rm.cells) (hs : n = rm.slots) : AW X nL Z yd A k n (QF X rm Z yd rvR A) pc lv [.ref x] h (some (x, h)) := fun r h' e ls H locs hl hw => by
  cases e; subst hc; subst hs
  exact W.aret (v := .ref (yd.1 x)) C.1 C.2.1 C.2.2.2.2.2.2.1 (Or.inl ⟨_, rfl⟩) (Or.inr ⟨_, rfl⟩) (fun t ht hW => ⟨rfl, by rw [ht]; exact hw.1, hw.2.2.1.F ht⟩) hw.2.2.1.2.2 d C.2.2.2.2.2.1
theorem aw_copy (C : OK X cc own nL ret rm A) {a b t N M : Nat} {m : Int32} {f : AH → Option (α × AH)} (d : decode cc pc = .ok (.invokestatic ix, 3)) (hl : Cond.methodLink own ix arraycopyName ∈ TB) (hnat : Cond.native arraycopyName ∈ TB) (hst : Cond.static arraycopyName ∈ TB) (hini : Cond.initialized "java/lang/System" ∈ TB) (ha : Z.1[a]? = some (.inl (t, 0, N))) (hb : Z.1[b]? = some (.inl (t, 0, N))) (ht : Z.2.2.2[t]? = some .int) (h3 : ¬ m < 0) (hM : m.toNatClampNeg = M) (h4 : M ≤ N) (hR : 1 ≤ rm.frames ∧ ((st.map (cv yd.1)).map fun v => v.category).sum + (nativeFrameWords "java/lang/System" "arraycopy" 5 + 11) ≤ rm.locals) (q : ∀ h1, AW X nL Z yd A k n Qf (pc + 3) lv st h1 (f h1)) : AW X nL Z yd A k n Qf pc lv (.int m :: .int 0 :: .ref b :: .int 0 :: .ref a :: st) h (vl (cpI h a b M) f) := fun r h' e ls H locs hll hw => by
  have z0 : (0 : Int32).toNatClampNeg = 0 := rfl
  refine va_copyi (own := own) C.1 C.2.1 (by rw [C.2.2.1]; exact hll.1.symm) C.2.2.2.1 (C.2.2.2.2.1 _ hl) (C.2.2.2.2.1 _ hnat) (C.2.2.2.2.1 _ hst) (C.2.2.2.2.1 _ hini) hw.2.2.2.1 hw.1 hw.2.1 hw.2.2.1 a b t t (wld_at ha) (wld_at hb) (tyAt hw.2.2.2.2 ht) (tyAt hw.2.2.2.2 ht) rfl (by decide) (by decide) h3 (by rw [hM, z0, Nat.zero_add]; exact h4) (by rw [hM, z0, Nat.zero_add]; exact h4) (fun i _ => rfl) (by rw [C.2.2.2.2.2.2.2.2]; exact hR.1) (by rw [C.2.2.2.2.2.2.2.2]; exact hR.2) d (fun H1 locs1 p1 p2 p3 => ?_)
  have e1 : (wld Z yd h).set b (yd.1 b, .inl (tcl yd t, N, .inl (va_cpy (h.1 a) (h.1 b) (0 : Int32).toNatClampNeg (0 : Int32).toNatClampNeg m.toNatClampNeg))) = wld Z yd (cpI h a b M) := by
    refine wld_set hb ?_ (fun o' s' hn => ent_same (fun j => by simp [cpI, hn]) (fun _ => rfl) rfl)
    show Sum.inl (tcl yd t, N, Sum.inl _) = _
    rw [show (cpI h a b M).1 b = va_cpy (h.1 a) (h.1 b) (0 : Int32).toNatClampNeg (0 : Int32).toNatClampNeg m.toNatClampNeg from funext fun j => by simp [cpI, va_cpy, hM, z0]]
  rw [e1] at p1 p2
  exact q _ r h' e ls H1 locs1 hll ⟨p1, p2, p3, hw.2.2.2⟩
end AWM
/-- what a call's end gives for either of some cases -/
def kd {β : Type} (j : Nat) (o0 o1 o2 o3 o4 o5 : β) : β := if j % 6 = 0 then o0 else if j % 6 = 1 then o1 else if j % 6 = 2 then o2 else if j % 6 = 3 then o3 else if j % 6 = 4 then o4 else o5
theorem cr_kd {X : MCx} {nL : Nat} {Z : Stc} {yd : Dyn} {A : Nat → Prop} {mc ms pc : Nat} {st rest : List Value} {β : Type} {rv : β → Option Value} {F0 F1 F2 F3 F4 F5 : AH → Option (β × AH)} (j : Nat) (R0 : j % 6 = 0 → CR X nL Z yd A mc ms pc st rest rv F0) (R1 : j % 6 = 1 → CR X nL Z yd A mc ms pc st rest rv F1) (R2 : j % 6 = 2 → CR X nL Z yd A mc ms pc st rest rv F2) (R3 : j % 6 = 3 → CR X nL Z yd A mc ms pc st rest rv F3) (R4 : j % 6 = 4 → CR X nL Z yd A mc ms pc st rest rv F4) (R5 : j % 6 = 5 → CR X nL Z yd A mc ms pc st rest rv F5) : CR X nL Z yd A mc ms pc st rest rv (fun h => kd j (F0 h) (F1 h) (F2 h) (F3 h) (F4 h) (F5 h)) := by
  intro h r h' hF
  have hF : kd j (F0 h) (F1 h) (F2 h) (F3 h) (F4 h) (F5 h) = some (r, h') := hF
  unfold kd at hF
  split at hF
  next e => exact R0 e h r h' hF
  split at hF
  next e => exact R1 e h r h' hF
  split at hF
  next e => exact R2 e h r h' hF
  split at hF
  next e => exact R3 e h r h' hF
  split at hF
  next e => exact R4 e h r h' hF
  next => exact R5 (by omega) h r h' hF
theorem aw_callF {X : MCx} {cc : ByteArray} {own : String} {nL : Nat} {ret : Option FieldType} {rm : Room} {Z : Stc} {yd : Dyn} {A : Nat → Prop} {k n pc : Nat} {α β : Type} {Qf : α → AH → State → Prop} {lv : List (Nat × Value)} {st rest : List Value} {h : AH} {rv : β → Option Value} {F : AH → Option (β × AH)} {oc : Option (β × AH)} (C : OK X cc own nL ret rm A) {mc ms : Nat} (R : CR X nL Z yd A mc ms pc st rest rv F) (hF : F h = oc) {f : β → AH → Option (α × AH)} (h0 : mc = 0) (h1 : ms = 0) (hc : k ≤ rm.cells) (hs : n ≤ rm.slots) (q : ∀ r h1, AW X nL Z yd A k n Qf (pc + 3) lv ((rv r).toList ++ rest) h1 (f r h1)) : AW X nL Z yd A k n Qf pc lv st h (bd oc f) := by
  subst hF; subst h0; subst h1
  exact aw_call C R hc hs q
