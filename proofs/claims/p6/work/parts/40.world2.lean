/-! two worlds at a time: class and reference, beside the law's script -/
theorem arrV_congr {cI : ClassId} {N : Nat} {f g : Nat → Value} (h : ∀ j, j < N → f j = g j) : arrV cI N f = arrV cI N g := by
  have e : (fun j : Fin N => f j.val) = (fun j : Fin N => g j.val) := funext fun j => h j.val j.isLt
  unfold arrV
  rw [e]
def agr (Z Z' : Stc) : Bool := (List.range Z.1.length).all fun o => match Z.1[o]? with
  | some (.inr ci) => (List.range (fty ci).length).all fun k => !((fty ci)[k]? == some 2) || (Z.2.1 o k == Z'.2.1 o k)
  | some (.inl (_, kd, n)) => kd == 0 || kd == 1 || (kd == 2 && (List.range n).all fun k => Z.2.1 o k == Z'.2.1 o k)
  | none => true
theorem wld_like {Z Z' : Stc} {yd : Dyn} {h : AH} {D : va_G} {cl : List vw_C} {H : Heap} (e1 : Z.1 = Z'.1) (e3 : Z.2.2.1 = Z'.2.2.1) (ha : agr Z Z' = true) (hP : va_P D cl (wld Z yd h) H) : va_P D cl (wld Z' yd h) H := by
  intro o q hk
  have hl : o < Z'.1.length := by
    have := (List.getElem?_eq_some_iff.mp hk).1
    rwa [wld_len] at this
  obtain ⟨s, hs⟩ : ∃ s, Z'.1[o]? = some s := ⟨_, List.getElem?_eq_getElem hl⟩
  have hs0 : Z.1[o]? = some s := by rw [e1]; exact hs
  rw [wld_at hs] at hk
  cases hk
  have h0 := hP o _ (wld_at (yd := yd) (h := h) hs0)
  have ha1 := List.all_eq_true.mp ha o (List.mem_range.mpr (by rw [e1]; exact hl))
  rw [hs0] at ha1
  cases s with
  | inr ci =>
    have he : ent Z' yd h o (.inr ci) = ent Z yd h o (.inr ci) := by
      show Sum.inr (ci, _) = Sum.inr (ci, _)
      congr 2
      refine eFs_congr _ _ (fun i t ht => ?_)
      rw [Nat.zero_add]
      match t, ht with
      | 0, _ => rfl
      | 1, _ => rfl
      | 2, ht =>
        have hi : i < (fty ci).length := (List.getElem?_eq_some_iff.mp ht).1
        have h2 := List.all_eq_true.mp ha1 i (List.mem_range.mpr hi)
        rw [ht] at h2
        have h3 : Z.2.1 o i = Z'.2.1 o i := by simpa using h2
        show va_rf ((Z'.2.1 o i).map yd.1) = va_rf ((Z.2.1 o i).map yd.1)
        rw [h3]
      | 3, _ =>
        show Value.ref (yd.1 (Z'.2.2.1 + h.2.2 o % 6)) = Value.ref (yd.1 (Z.2.2.1 + h.2.2 o % 6))
        rw [e3]
      | t + 4, _ => rfl
    rw [he]
    exact h0
  | inl x =>
    obtain ⟨t, kd, n⟩ := x
    simp only [Bool.or_eq_true, Bool.and_eq_true, beq_iff_eq] at ha1
    rcases ha1 with (e | e) | ⟨e, h2⟩
    · subst e; exact h0
    · subst e; exact h0
    · subst e
      have h3 := List.all_eq_true.mp h2
      show H[yd.1 o]? = some (arrV (tcl yd t) n (fun j => va_rf ((Z'.2.1 o j).map yd.1)))
      have h4 : H[yd.1 o]? = some (arrV (tcl yd t) n (fun j => va_rf ((Z.2.1 o j).map yd.1))) := h0
      rw [h4]
      refine congrArg some (arrV_congr (fun j hj => ?_))
      have h5 : Z.2.1 o j = Z'.2.1 o j := by simpa using h3 j (List.mem_range.mpr hj)
      rw [h5]
theorem wld_likeD {Z Z' : Stc} {yd : Dyn} {h : AH} {A : Nat → Prop} (e1 : Z.1 = Z'.1) (hD : va_D A (wld Z yd h)) : va_D A (wld Z' yd h) := by
  have key : ∀ (k : Nat) (q : Nat × va_E), (wld Z' yd h)[k]? = some q → ∃ e, (wld Z yd h)[k]? = some (q.1, e) := by
    intro k q hk
    have hl : k < Z'.1.length := by
      have := (List.getElem?_eq_some_iff.mp hk).1
      rwa [wld_len] at this
    obtain ⟨t, ht⟩ : ∃ t, Z'.1[k]? = some t := ⟨_, List.getElem?_eq_getElem hl⟩
    rw [wld_at ht] at hk
    cases hk
    exact ⟨_, wld_at (by rw [e1]; exact ht)⟩
  refine ⟨fun i j p q hi hj e => ?_, fun k q hk => ?_⟩
  · obtain ⟨a1, h1⟩ := key i p hi
    obtain ⟨a2, h2⟩ := key j q hj
    exact hD.1 i j _ _ h1 h2 e
  · obtain ⟨a1, h1⟩ := key k q hk
    exact hD.2 k (q.1, a1) h1
theorem YR_sh : YR56.1 = ZR.1 := by decide +kernel
theorem YR_ag : agr YR56 ZR = true := by decide +kernel
theorem YC_sh : YC115.1 = ZC.1 := by decide +kernel
theorem YC_ag : agr YC115 ZC = true := by decide +kernel
/-- the addresses of two worlds are apart -/
def Apt (Z1 Z2 : Stc) (y1 y2 : Dyn) : Prop := ∀ o o', o < Z1.1.length → o' < Z2.1.length → y1.1 o ≠ y2.1 o'
theorem Apt.symm {Z1 Z2 : Stc} {y1 y2 : Dyn} (h : Apt Z1 Z2 y1 y2) : Apt Z2 Z1 y2 y1 := fun o o' h1 h2 e => h o' o h2 h1 e.symm
section L2
variable {X : MCx} {cc : ByteArray} {own : String} {nL : Nat} {ret : Option FieldType} {rm : Room} {Z1 Z2 Z' : Stc} {y1 y2 : Dyn} {A : Nat → Prop} {k n : Nat} {β : Type} {pc : Nat} {st rest : List Value} {c1 c2 c1' : AH} {rv : β → Option Value} {F : AH → Option (β × AH)} {v : β} {mc ms : Nat} {Q : State → Prop}
theorem l2_at {Z : Stc} {yd : Dyn} {h : AH} {j : Nat} {q : Nat × va_E} (hk : (wld Z yd h)[j]? = some q) : j < Z.1.length ∧ q.1 = yd.1 j := by
  have hl : j < Z.1.length := by
    have := (List.getElem?_eq_some_iff.mp hk).1
    rwa [wld_len] at this
  obtain ⟨s, hs⟩ : ∃ s, Z.1[j]? = some s := ⟨_, List.getElem?_eq_getElem hl⟩
  rw [wld_at hs] at hk
  cases hk
  exact ⟨hl, rfl⟩
theorem l2_lt {H : Heap} {locs : List Loc} (h2 : WR X Z2 y2 A c2 H locs) {o : Nat} (ho : o < Z2.1.length) : y2.1 o < H.size := by
  obtain ⟨s, hs⟩ : ∃ s, Z2.1[o]? = some s := ⟨_, List.getElem?_eq_getElem ho⟩
  exact (h2.1 o _ (wld_at hs)).lt
theorem l2_keep {H H' : Heap} {locs : List Loc} (hap : Apt Z1 Z2 y1 y2) (h2 : WR X Z2 y2 A c2 H locs) (hk : ∀ q : Nat, q < H.size → ¬ AA y1 Z1 H.size q → H'[q]? = H[q]?) : va_P y2.2.1 vwCl (wld Z2 y2 c2) H' := by
  refine h2.1.kept (fun j q hq => ?_)
  have hlt := (h2.1 j q hq).lt
  obtain ⟨hj, e⟩ := l2_at hq
  refine hk q.1 hlt (fun hz => ?_)
  rcases hz with ⟨o, ho, e2⟩ | hz
  · exact hap o j ho hj (by rw [← e2, e])
  · omega
theorem l2_call (C : OK X cc own nL ret rm A) (hap : Apt Z1 Z2 y1 y2) (R : CR X nL Z1 y1 A mc ms pc st rest rv F) (hF : F c1 = some (v, c1')) (hc : k + mc ≤ rm.cells) (hs : n + ms ≤ rm.slots) {ls : Array Slot} {H : Heap} {locs : List Loc} (hls : ls.size = nL) (h1 : WR X Z1 y1 A c1 H locs) (h2 : WR X Z2 y2 A c2 H locs)
    (q : ∀ H' locs', WR X Z1 y1 A c1' H' locs' → WR X Z2 y2 A c2 H' locs' → WX X H' locs' (k + mc) (n + ms) Q (F0 (xM X) (pc + 3) ls (((rv v).map (cv y1.1)).toList ++ rest.map (cv y1.1)))) : WX X H locs k n Q (F0 (xM X) pc ls (st.map (cv y1.1))) := by
  have run := R c1 v c1' hF ls H locs k n hls h1 (by rw [C.2.2.2.2.2.2.2.2]; exact ⟨hc, hs⟩)
  intro T hT XX
  obtain ⟨v', st₀, t, T', L, h0, X', hL, e1, e2, ⟨hv, hP1, hz, hk⟩, stp⟩ := run T hT XX
  cases hv
  rw [h0] at hz hk
  have hin := AA_in h1 C.2.2.2.2.2.2.2.1
  have hS : va_S A (xS X).heap T'.heap (locs ++ L) := ⟨Nat.le_trans h1.2.2.1.1 (by rw [e1]; exact hz), fun q h3 h4 => by rw [e1, hk q (Nat.lt_of_lt_of_le h3 h1.2.2.1.1) (fun z => h4 (hin q z))]; exact h1.2.2.1.2.1 q h3 h4, fun q hq => by
    rcases List.mem_append.mp hq with h | h
    · exact h1.2.2.1.2.2 q h
    · exact hin _ (hL q h)⟩
  obtain ⟨t2, a1, b1⟩ := q T'.heap (locs ++ L) ⟨by rw [e1]; exact hP1, wld_D h1.2.1, hS, h1.2.2.2⟩ ⟨by rw [e1]; exact l2_keep hap h2 hk, h2.2.1, hS, h2.2.2.2⟩ T' rfl X'
  exact ⟨t2, stp t2 a1, b1⟩
theorem l2_callN (C : OK X cc own nL ret rm A) (hap : Apt Z1 Z2 y1 y2) {ls : Array Slot} {H : Heap} {locs : List Loc} (h1 : WR X Z1 y1 A c1 H locs) (h2 : WR X Z2 y2 A c2 H locs) (hTl : Z'.2.2.2 = Z1.2.2.2)
    (run : va_Run X.1 X.2.1 X.2.2.1 X.2.2.2.1 (xS X) (xM X) X.2.2.2.2.2.2.1 X.2.2.2.2.2.2.2.1 X.2.2.2.2.2.2.2.2.1 X.2.2.2.2.2.2.2.2.2 H locs k n mc ms (F0 (xM X) pc ls (st.map (cv y1.1))) (rest.map (cv y1.1)) (PostN Z1 Z' y1 (AA y1 Z1 H.size) c1' #[]) (AA y1 Z1 H.size))
    (q : ∀ (ad' : Nat → Nat) H' locs', (∀ o, o < Z1.1.length → ad' o = y1.1 o) → Apt Z' Z2 (ad', y1.2) y2 → WR X Z' (ad', y1.2) A c1' H' locs' → WR X Z2 y2 A c2 H' locs' → WX X H' locs' (k + mc) (n + ms) Q (F0 (xM X) (pc + 3) ls (rest.map (cv y1.1)))) : WX X H locs k n Q (F0 (xM X) pc ls (st.map (cv y1.1))) := by
  intro T hT XX
  obtain ⟨v', st₀, t, T', L, h0, X', hL, e1, e2, ⟨hv, ⟨ad', ha, hP1, hD1⟩, hz, hk⟩, stp⟩ := run T hT XX
  cases hv
  rw [h0] at hz hk
  have hin := AA_in h1 C.2.2.2.2.2.2.2.1
  have hS : va_S A (xS X).heap T'.heap (locs ++ L) := ⟨Nat.le_trans h1.2.2.1.1 (by rw [e1]; exact hz), fun q h3 h4 => by rw [e1, hk q (Nat.lt_of_lt_of_le h3 h1.2.2.1.1) (fun z => h4 (hin q z))]; exact h1.2.2.1.2.1 q h3 h4, fun q hq => by
    rcases List.mem_append.mp hq with h | h
    · exact h1.2.2.1.2.2 q h
    · exact hin _ (hL q h)⟩
  have hap2 : Apt Z' Z2 (ad', y1.2) y2 := by
    intro o o' ho ho' e
    obtain ⟨s, hs⟩ : ∃ s, Z'.1[o]? = some s := ⟨_, List.getElem?_eq_getElem ho⟩
    have hA2 : AA y1 Z1 H.size (ad' o) := hD1.2 o _ (wld_at hs)
    have hlt := l2_lt h2 ho'
    have e' : ad' o = y2.1 o' := e
    rcases hA2 with ⟨o2, h3, h4⟩ | h3
    · exact hap o2 o' h3 ho' (by rw [← h4, e'])
    · omega
  obtain ⟨t2, a1, b1⟩ := q ad' T'.heap (locs ++ L) ha hap2 ⟨by rw [e1]; exact hP1, hD1.weaken (fun _ _ _ hz => hin _ hz), hS, h1.2.2.2.1, by rw [hTl]; exact h1.2.2.2.2⟩ ⟨by rw [e1]; exact l2_keep hap h2 hk, h2.2.1, hS, h2.2.2.2⟩ T' rfl X'
  exact ⟨t2, stp t2 a1, b1⟩
end L2
/-! what is known of classes and arrays at the law's entry -/
theorem u_all {s : State} {args : Array Value} (hts : ∀ w ∈ TB, w.before args s = true) (h10 : Cond.instantiable RX10 18 ∈ TB) (h11 : Cond.instantiable RX11 41 ∈ TB) : ∃ D : va_G, ∀ (k : Nat) (q : vw_C), vwCl[k]? = some q → u_Kn s q.1 q.2.1 q.2.2 (D.1 k) (D.2 k) := by
  have each : ∀ k : Nat, ∃ z : ClassId × (Nat → Nat), ∀ q : vw_C, vwCl[k]? = some q → u_Kn s q.1 q.2.1 q.2.2 z.1 z.2 := by
    intro k
    match k with
    | 0 => obtain ⟨a, b, h⟩ := u_known hts wsin_X0 (hts _ ki_X0); exact ⟨(a, b), fun q hq => by cases hq; exact h⟩
    | 1 => obtain ⟨a, b, h⟩ := u_known hts wsin_X1 (hts _ ki_X1); exact ⟨(a, b), fun q hq => by cases hq; exact h⟩
    | 2 => obtain ⟨a, b, h⟩ := u_known hts wsin_X2 (hts _ ki_X2); exact ⟨(a, b), fun q hq => by cases hq; exact h⟩
    | 3 => obtain ⟨a, b, h⟩ := u_known hts wsin_X3 (hts _ ki_X3); exact ⟨(a, b), fun q hq => by cases hq; exact h⟩
    | 4 => obtain ⟨a, b, h⟩ := u_known hts wsin_X4 (hts _ ki_X4); exact ⟨(a, b), fun q hq => by cases hq; exact h⟩
    | 5 => obtain ⟨a, b, h⟩ := u_known hts wsin_X5 (hts _ ki_X5); exact ⟨(a, b), fun q hq => by cases hq; exact h⟩
    | 6 => obtain ⟨a, b, h⟩ := u_known hts wsin_X6 (hts _ ki_X6); exact ⟨(a, b), fun q hq => by cases hq; exact h⟩
    | 7 => obtain ⟨a, b, h⟩ := u_known hts wsin_X7 (hts _ ki_X7); exact ⟨(a, b), fun q hq => by cases hq; exact h⟩
    | 8 => obtain ⟨a, b, h⟩ := u_known hts wsin_X8 (hts _ ki_X8); exact ⟨(a, b), fun q hq => by cases hq; exact h⟩
    | 9 => obtain ⟨a, b, h⟩ := u_known hts wsin_X9 (hts _ ki_X9); exact ⟨(a, b), fun q hq => by cases hq; exact h⟩
    | 10 => obtain ⟨a, b, h⟩ := u_known hts wsin_X10 (hts _ h10); exact ⟨(a, b), fun q hq => by cases hq; exact h⟩
    | 11 => obtain ⟨a, b, h⟩ := u_known hts wsin_X11 (hts _ h11); exact ⟨(a, b), fun q hq => by cases hq; exact h⟩
    | k + 12 => exact ⟨(0, fun _ => 0), fun q hq => by simp at hq⟩
  exact ⟨(fun k => (each k).choose.1, fun k => (each k).choose.2), fun k q hq => (each k).choose_spec q hq⟩
theorem ty_prim {s : State} {args : Array Value} {ty : FieldType} (h : (Cond.arrayClass ty).before args s = true) (hn : ∀ C, ty ≠ .object C) : ∃ cA : ClassId, ArrOfT s cA ty ∧ va_RA s cA ty := by
  obtain ⟨cA, kA, comp, h1, h2, h3⟩ := Cond.arrayClass_spec h
  refine ⟨cA, fun n z => ⟨fun k h => (by cases h), kA, h2, comp, h3⟩, ?_⟩
  cases ty with
  | object C => exact absurd rfl (hn C)
  | _ => exact h1
theorem ty_obj {s : State} {C : String} (h : va_AO C s) : ∃ cA : ClassId, ArrOfT s cA (.object C) ∧ va_RA s cA (.object C) := by
  obtain ⟨comp, cA, kA, h1, h2, h3, h4, h5⟩ := Cond.arrayOver_spec h
  exact ⟨cA, fun n z => ⟨fun k h => (by cases h), kA, h3, comp, h4⟩, kA, comp, h3, h4, h1, h5⟩
theorem ty_arr {s : State} {ty : FieldType} (h : va_AOA ty s) : ∃ cA : ClassId, ArrOfT s cA (.array ty) ∧ va_RA s cA (.array ty) := by
  obtain ⟨comp, cA, kA, h1, h2, h3, h4, h5⟩ := va_AOA.spec h
  exact ⟨cA, fun n z => ⟨fun k h => (by cases h), kA, h3, comp, h4⟩, h5⟩
theorem tys_all {s : State} {args : Array Value} (hI : (Cond.arrayClass .int).before args s = true) (hJ : (Cond.arrayClass .long).before args s = true) (hA : va_AO "MarkToBoard$Jumper" s) (hB : va_AO "MarkToBoard$Kind" s) (hC : va_AOA .long s) :
    ∃ tC tR : List (ClassId × FieldType), tC.map (·.2) = tlC ∧ tR.map (·.2) = tlR ∧ (∀ (k : Nat) (q : ClassId × FieldType), tC[k]? = some q → ArrOfT s q.1 q.2 ∧ va_RA s q.1 q.2) ∧ (∀ (k : Nat) (q : ClassId × FieldType), tR[k]? = some q → ArrOfT s q.1 q.2 ∧ va_RA s q.1 q.2) := by
  obtain ⟨a0, h0⟩ := ty_prim hI (fun C e => by cases e)
  obtain ⟨a1, h1⟩ := ty_prim hJ (fun C e => by cases e)
  obtain ⟨a2, h2⟩ := ty_obj hA
  obtain ⟨a3, h3⟩ := ty_obj hB
  obtain ⟨a4, h4⟩ := ty_arr hC
  refine ⟨[(a0, .int), (a1, .long), (a2, .object "MarkToBoard$Jumper"), (a3, .object "MarkToBoard$Kind"), (a4, .array .long)], [(a0, .int), (a1, .long)], rfl, rfl, fun k q hq => ?_, fun k q hq => ?_⟩
  · match k, hq with
    | 0, hq => cases hq; exact h0
    | 1, hq => cases hq; exact h1
    | 2, hq => cases hq; exact h2
    | 3, hq => cases hq; exact h3
    | 4, hq => cases hq; exact h4
    | k + 5, hq => simp at hq
  · match k, hq with
    | 0, hq => cases hq; exact h0
    | 1, hq => cases hq; exact h1
    | k + 2, hq => simp at hq
