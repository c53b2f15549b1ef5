/-! a jumper's way set first; an array of arrays made -/
def shpS (Z : Stc) (o : Nat) (s : Shp) : Stc := (Z.1.set o s, Z.2)
section AWN2
variable {X : MCx} {cc : ByteArray} {own : String} {nL : Nat} {ret : Option FieldType} {rm : Room} {Z Z' : Stc} {yd : Dyn} {A : Nat → Prop} {k n : Nat} {α : Type} {Qf : α → AH → State → Prop} {pc ix : Nat} {lv : List (Nat × Value)} {st : List Value} {h : AH} {f : AH → Option (α × AH)}
theorem ent_shp {o i : Nat} {x s : Shp} : ent (shpS Z o x) yd h i s = ent Z yd h i s := by
  have he : ∀ l k, eFs (shpS Z o x) yd.1 h i k l = eFs Z yd.1 h i k l := fun l k => eFs_congr l k (fun _ _ _ => rfl)
  cases s with
  | inr ci => simp only [ent]; rw [he]
  | inl y =>
    unfold ent
    simp only
    split
    · rw [he]
    · rfl
theorem wld_putW0 {o v : Nat} (e : Z.1[o]? = some (.inl (0, 9, 2))) : (wld Z yd h).set o (yd.1 o, .inr (2, (eFs Z yd.1 h o 0 (rty 2)).set 0 (.ref (yd.1 (Z.2.2.1 + v % 6))))) = wld (shpS Z o (.inr 2)) yd (sK h o v) := by
  have hl : o < Z.1.length := (List.getElem?_eq_some_iff.mp e).1
  have hlen : (shpS Z o (.inr 2)).1.length = Z.1.length := by simp [shpS]
  apply List.ext_getElem?
  intro i
  by_cases hi : i = o
  · subst hi
    have e2 : (shpS Z i (.inr 2)).1[i]? = some (.inr 2) := by
      show (Z.1.set i (.inr 2))[i]? = _
      rw [List.getElem?_set_self hl]
    rw [List.getElem?_set_self (by rw [wld_len]; exact hl), wld_at e2]
    simp [ent, eFs, rty, fty, eF, sK, shpS]
  · rw [List.getElem?_set_ne (Ne.symm hi)]
    by_cases hil : i < Z.1.length
    · obtain ⟨s, hs⟩ : ∃ s, Z.1[i]? = some s := ⟨_, List.getElem?_eq_getElem hil⟩
      have e2 : (shpS Z o (.inr 2)).1[i]? = some s := by
        show (Z.1.set o (.inr 2))[i]? = _
        rw [List.getElem?_set_ne (Ne.symm hi)]; exact hs
      rw [wld_at hs, wld_at e2]
      have := ent_sK_ne (shpS Z o (.inr 2)) yd h (o := o) (o' := i) v s hi
      rw [this, ent_shp]
    · rw [List.getElem?_eq_none (by rw [wld_len]; omega), List.getElem?_eq_none (by rw [wld_len, hlen]; omega)]
theorem aw_putW0 (C : OK X cc own nL ret rm A) {a b v : Nat} {D0 : String} (d : decode cc pc = .ok (.putfield ix, 3)) (hf : FP own ix 2 0 (.object D0)) (hs : Z.1[a]? = some (.inl (0, 9, 2))) (hb : Z.2.2.1 + v % 6 = b) (hZ : shpS Z a (.inr 2) = Z') (q : ∀ h1, AW X nL Z' yd A k n Qf (pc + 3) lv st h1 (f h1)) : AW X nL Z yd A k n Qf pc lv (.ref b :: .ref a :: st) h (vl (sK h a v) f) := fun r h' e ls H locs hl hw => by
  obtain ⟨D, T, N, ty0, e1, e2, e3, e4, e5, e6, e7, e8⟩ := hf
  have he := wld_at (yd := yd) (h := h) hs
  subst hb; subst hZ
  refine va_put (v := .ref (yd.1 (Z.2.2.1 + v % 6))) (ty := .object D0) C.1 C.2.1 C.2.2.2.2.1 e3 ty0 e5 e6 C.2.2.2.1 hw.2.2.2.1 hw.1 hw.2.1 hw.2.2.1 a he e1 0 e2 (C.2.2.2.2.1 _ e4) (fun _ h9 => h9) e7 e8 rfl rfl (by rw [eFs_len]; exact Nat.le_of_ble_eq_true rfl) d (fun H1 locs1 p1 p2 p3 => ?_)
  rw [wld_putW0 hs] at p1 p2
  exact q _ r h' e ls H1 locs1 hl ⟨p1, p2, p3, hw.2.2.2⟩
/-- the table with an array of M arrays of N longs behind it, each set in its place -/
def addM (Z : Stc) (M N : Nat) : Stc := (Z.1 ++ .inl (4, 2, M) :: List.replicate M (.inl (1, 1, N)), (fun o k => if o = Z.1.length then (if k < M then some (Z.1.length + 1 + k) else none) else Z.2.1 o k), Z.2.2)
def zM (h : AH) (n M : Nat) : AH := (fun o k => if n ≤ o ∧ o ≤ n + M then 0 else h.1 o k, fun o k => if n ≤ o ∧ o ≤ n + M then 0 else h.2.1 o k, fun o => if n ≤ o ∧ o ≤ n + M then 0 else h.2.2 o)
def ydM (yd : Dyn) (n q : Nat) (r : Nat → Nat) : Dyn := (fun o => if o < n then yd.1 o else if o = n then q else r (o - n - 1), yd.2)
def FrM (Z : Stc) : Prop := (∀ o k b, Z.2.1 o k = some b → b < Z.1.length) ∧ (∀ o : Nat, Z.1[o]? = some (Sum.inr 2 : Shp) → ∀ j : Nat, Z.2.2.1 + j % 6 < Z.1.length)
theorem ent_mna {M N q o : Nat} {r : Nat → Nat} {s : Shp} (hF : FrM Z) (e : Z.1[o]? = some s) : ent (addM Z M N) (ydM yd Z.1.length q r) (zM h Z.1.length M) o s = ent Z yd h o s := by
  have hl : o < Z.1.length := (List.getElem?_eq_some_iff.mp e).1
  have n1 : ¬ (Z.1.length ≤ o ∧ o ≤ Z.1.length + M) := fun z => by omega
  have n2 : o ≠ Z.1.length := by omega
  have had : ∀ b, b < Z.1.length → (ydM yd Z.1.length q r).1 b = yd.1 b := fun b hb => if_pos hb
  have hrf : ∀ j, ((addM Z M N).2.1 o j).map (ydM yd Z.1.length q r).1 = (Z.2.1 o j).map yd.1 := by
    intro j
    show ((if o = Z.1.length then _ else Z.2.1 o j)).map _ = _
    rw [if_neg n2]
    cases hz : Z.2.1 o j with
    | none => rfl
    | some b => show some _ = some _; rw [had b (hF.1 o j b hz)]
  have heF : ∀ i t, (t = 3 → ∀ j, Z.2.2.1 + j % 6 < Z.1.length) → eF (addM Z M N) (ydM yd Z.1.length q r).1 (zM h Z.1.length M) o i t = eF Z yd.1 h o i t := by
    intro i t h3
    match t, h3 with
    | 0, _ => simp [eF, zM, n1]
    | 1, _ => simp [eF, zM, n1]
    | 2, _ => show va_rf _ = va_rf _; rw [hrf]
    | 3, h3 =>
      show Value.ref ((ydM yd Z.1.length q r).1 (Z.2.2.1 + (zM h Z.1.length M).2.2 o % 6)) = Value.ref (yd.1 (Z.2.2.1 + h.2.2 o % 6))
      have e1 : (zM h Z.1.length M).2.2 o = h.2.2 o := if_neg n1
      rw [e1, had _ (h3 rfl _)]
    | t + 4, _ => rfl
  cases s with
  | inr ci =>
    show Sum.inr (ci, _) = Sum.inr (ci, _)
    congr 2
    exact eFs_congr _ _ (fun i t ht => heF _ _ (fun h3 => by subst h3; have := fty_3 ci i ht; subst this; exact hF.2 o e))
  | inl x =>
    obtain ⟨t, kd, m⟩ := x
    unfold ent
    simp only
    split
    · congr 2
      exact eFs_congr _ _ (fun i t ht => heF _ _ (fun h3 => absurd (h3 ▸ ht) (rty_3 _ i)))
    · show Sum.inl (tcl yd t, _) = Sum.inl (tcl yd t, _)
      congr 2
      unfold eA
      split
      · rw [show (zM h Z.1.length M).1 o = h.1 o from funext fun j => if_neg n1]
      · rw [show (zM h Z.1.length M).2.1 o = h.2.1 o from funext fun j => if_neg n1]
      · congr 5
        funext j
        exact hrf j
theorem wld_mna {M N q : Nat} {r : Nat → Nat} (hF : FrM Z) : (wld Z yd h ++ [(q, .inl (tcl yd 4, M, .inr (.inr (.inr (.inr (fun i => if i < M then some (r i) else none))))))]) ++ (List.range M).map (fun i => (r i, (.inl (tcl yd 1, N, .inr (.inl (fun _ => 0))) : va_E))) = wld (addM Z M N) (ydM yd Z.1.length q r) (zM h Z.1.length M) := by
  have hlen : (addM Z M N).1.length = Z.1.length + 1 + M := by simp [addM]; omega
  apply List.ext_getElem?
  intro i
  by_cases h1 : i < Z.1.length
  · obtain ⟨s, hs⟩ : ∃ s, Z.1[i]? = some s := ⟨_, List.getElem?_eq_getElem h1⟩
    have e2 : (addM Z M N).1[i]? = some s := by
      show (Z.1 ++ _)[i]? = _
      rw [List.getElem?_append_left h1]; exact hs
    rw [List.getElem?_append_left (by simp [wld_len]; omega), List.getElem?_append_left (by rw [wld_len]; exact h1), wld_at hs, wld_at e2, ent_mna hF hs]
    rw [show (ydM yd Z.1.length q r).1 i = yd.1 i from if_pos h1]
  · by_cases h2 : i = Z.1.length
    · subst h2
      have e2 : (addM Z M N).1[Z.1.length]? = some (.inl (4, 2, M)) := by
        show (Z.1 ++ _)[Z.1.length]? = _
        simp
      rw [List.getElem?_append_left (by simp [wld_len]), List.getElem?_append_right (by rw [wld_len]; exact Nat.le_refl _), wld_at e2]
      have ha : (ydM yd Z.1.length q r).1 Z.1.length = q := by simp [ydM]
      rw [ha]
      simp only [wld_len, Nat.sub_self, List.getElem?_cons_zero]
      show some (q, Sum.inl (tcl yd 4, M, _)) = some (q, Sum.inl (tcl yd 4, M, Sum.inr (Sum.inr (Sum.inr (Sum.inr _)))))
      congr 8
      apply congrArg
      funext j
      show _ = ((if Z.1.length = Z.1.length then (if j < M then some (Z.1.length + 1 + j) else none) else Z.2.1 Z.1.length j)).map (ydM yd Z.1.length q r).1
      rw [if_pos rfl]
      by_cases hj : j < M
      · rw [if_pos hj, if_pos hj]
        show _ = some ((ydM yd Z.1.length q r).1 (Z.1.length + 1 + j))
        have : (ydM yd Z.1.length q r).1 (Z.1.length + 1 + j) = r j := by
          show (if Z.1.length + 1 + j < Z.1.length then _ else if Z.1.length + 1 + j = Z.1.length then q else r (Z.1.length + 1 + j - Z.1.length - 1)) = r j
          rw [if_neg (by omega), if_neg (by omega)]
          congr 1
          omega
        rw [this]
      · rw [if_neg hj, if_neg hj]
        rfl
    · rw [List.getElem?_append_right (by simp [wld_len]; omega)]
      have hl2 : (wld Z yd h ++ [((q, .inl (tcl yd 4, M, .inr (.inr (.inr (.inr (fun i => if i < M then some (r i) else none)))))) : Nat × va_E)]).length = Z.1.length + 1 := by simp [wld_len]
      rw [hl2, List.getElem?_map]
      by_cases h3 : i < Z.1.length + 1 + M
      · have e2 : (addM Z M N).1[i]? = some (.inl (1, 1, N)) := by
          show (Z.1 ++ _)[i]? = _
          rw [List.getElem?_append_right (by omega)]
          obtain ⟨d, hd⟩ : ∃ d, i - Z.1.length = d + 1 := ⟨i - Z.1.length - 1, by omega⟩
          rw [hd, List.getElem?_cons_succ, List.getElem?_replicate, if_pos (by omega)]
        rw [List.getElem?_range (by omega), wld_at e2]
        have ha : (ydM yd Z.1.length q r).1 i = r (i - (Z.1.length + 1)) := by
          show (if i < Z.1.length then _ else if i = Z.1.length then q else r (i - Z.1.length - 1)) = _
          rw [if_neg h1, if_neg h2]
          congr 1
        rw [ha]
        show some (r (i - (Z.1.length + 1)), Sum.inl (tcl yd 1, N, Sum.inr (Sum.inl _))) = some (r (i - (Z.1.length + 1)), Sum.inl (tcl yd 1, N, Sum.inr (Sum.inl _)))
        congr 6
        apply congrArg
        funext j
        exact (if_pos (by omega)).symm
      · rw [List.getElem?_eq_none (by simp; omega), List.getElem?_eq_none (by rw [wld_len, hlen]; omega)]
        rfl
theorem aw_mna (C : OK X cc own nL ret rm A) {c1 c2 : Int32} {M N m : Nat} (hm : Z.1.length = m) (hAO : va_AOA .long (xS X)) (hcl : Cond.classLink own ix "[[J" ∈ TB) (harr : Cond.arrayClass .long ∈ TB) (d : decode cc pc = .ok (.multianewarray ix 2, 4)) (h1 : ¬ c1 < 0) (h2 : ¬ c2 < 0) (hM : c1.toNatClampNeg = M) (hN : c2.toNatClampNeg = N) (hb1 : M * 4 ≤ 536870912) (hb2 : N * componentBytes .long ≤ 536870912) (hb3 : N ≤ 536870912) (hF : FrM Z) (hZ : addM Z M N = Z') (ht1 : Z.2.2.2[1]? = some .long) (ht4 : Z.2.2.2[4]? = some (.array .long)) (hrk : rok m lv st = true) (hc : k + (1 + M) ≤ rm.cells) (hs : n + (M + M * N) ≤ rm.slots) (q : ∀ (ad' : Nat → Nat) (h1 : AH), (∀ o, o < m → ad' o = yd.1 o) → AW X nL Z' (ad', yd.2) A (k + 1 + M) (n + M + M * N) Qf (pc + 4) lv (.ref m :: st) h1 (f h1)) : AW X nL Z yd A k n Qf pc lv (.int c2 :: .int c1 :: st) h (vl (zM h m M) f) := fun r h' e ls H locs hl hw => by
  subst hZ; subst hm
  have hty1 := tyAt hw.2.2.2.2 ht1
  have hty4 := tyAt hw.2.2.2.2 ht4
  have hcy : (xS X).vm.findClass (FieldType.array .long).toString = some (tcl yd 1) := (hw.2.2.2.1.2 1 _ hty1).2
  have e0 : wld Z yd h ++ va_pl [] (fun _ => .inr (0, [])) = wld Z yd h := by simp [va_pl]
  refine va_mna (X := wld Z yd h) (L := []) (f := fun _ => .inr (0, [])) (ty := .long) (z := (N, .inr (.inl (fun _ => 0)))) C.1 C.2.1 C.2.2.2.1 (C.2.2.2.2.1 _ hcl) hAO (C.2.2.2.2.1 _ harr) hcy hw.2.2.2.1 (by rw [e0]; exact hw.1) (by rw [e0]; exact hw.2.1) hw.2.2.1 C.2.2.2.2.2.2.2.1 h1 h2 hM hN hb1 hb2 hb3 rfl rfl (by rw [C.2.2.2.2.2.2.2.2]; exact hc) (by rw [C.2.2.2.2.2.2.2.2]; exact hs) (fun c => ?_) d (fun a r1 cA H1 hi hnl hK1 p1 p2 p3 => ?_)
  · show ({ cls := c, slots := Array.replicate N (.long 0), vm := .none } : Cell) = _
    rw [arrV_new]
    rfl
  · have hcA : cA = tcl yd 4 := ra_one (hK1.2 yd.2.2.length (cA, .array .long) (by simp)).2 (hw.2.2.2.1.2 4 _ hty4).2
    subst hcA
    have e1 : va_pl ([] ++ (List.range M).map r1) (vr_up (fun _ => .inr (0, [])) ((List.range M).map r1) (.inl (tcl yd 1, (N, .inr (.inl (fun _ => 0)))))) = (List.range M).map (fun i => (r1 i, (.inl (tcl yd 1, N, .inr (.inl (fun _ => 0))) : va_E))) := by
      simp only [va_pl, List.nil_append, List.map_map]
      apply List.map_congr_left
      intro i hi
      show (r1 i, vr_up _ _ _ (r1 i)) = _
      rw [vr_up_in (List.mem_map.mpr ⟨i, hi, rfl⟩)]
    rw [e1, wld_mna hF] at p1 p2
    have hag : ∀ o, o < Z.1.length → (ydM yd Z.1.length a r1).1 o = yd.1 o := fun o ho => if_pos ho
    have hlv := lvc_ad (ad := yd.1) (ad' := (ydM yd Z.1.length a r1).1) hag hrk
    have hr : cv (ydM yd Z.1.length a r1).1 (.ref Z.1.length) = .ref a := by
      show Value.ref ((ydM yd Z.1.length a r1).1 Z.1.length) = _
      simp [ydM]
    have g := q (ydM yd Z.1.length a r1).1 _ hag r h' e ls H1 locs (by rw [hlv.1]; exact hl) ⟨p1, p2, p3, hw.2.2.2⟩
    rw [List.map_cons, hr, hlv.2] at g
    exact g
theorem aw_dec {c : Prop} [Decidable c] {pc : Nat} {o : Option (α × AH)} (q : AW X nL Z yd A k n Qf pc lv st h (if c then o else o)) : AW X nL Z yd A k n Qf pc lv st h o := by rwa [ite_self] at q
end AWN2
/-! the table well made: references to what is there -/
def WFs (Z : Stc) : Prop := (∀ o k b, Z.2.1 o k = some b → o < Z.1.length ∧ b < Z.1.length) ∧ (∀ o : Nat, Z.1[o]? = some (Sum.inr 2 : Shp) → Z.2.2.1 + 6 ≤ Z.1.length)
theorem WFs.frs {Z : Stc} (h : WFs Z) : Frs Z := by
  refine ⟨fun o k e => ?_, fun k => ?_, fun o e j => ?_⟩
  · have := (h.1 o k _ e).2; omega
  · cases hz : Z.2.1 Z.1.length k with
    | none => rfl
    | some b => have := (h.1 _ k b hz).1; omega
  · have := h.2 o e; omega
theorem WFs.frm {Z : Stc} (h : WFs Z) : FrM Z := ⟨fun o k b e => (h.1 o k b e).2, fun o e j => by have := h.2 o e; omega⟩
theorem wf_add {Z : Stc} {s : Shp} (h : WFs Z) (hs : s ≠ .inr 2) : WFs (addS Z s) := by
  have hl : (addS Z s).1.length = Z.1.length + 1 := by simp [addS]
  refine ⟨fun o k b e => ?_, fun o e => ?_⟩
  · have := h.1 o k b e
    rw [hl]; omega
  · rw [hl]
    have e' : (Z.1 ++ [s])[o]? = some (Sum.inr 2 : Shp) := e
    by_cases ho : o < Z.1.length
    · rw [List.getElem?_append_left ho] at e'
      have := h.2 o e'
      show Z.2.2.1 + 6 ≤ _
      omega
    · rw [List.getElem?_append_right (by omega)] at e'
      by_cases h0 : o - Z.1.length = 0
      · rw [h0] at e'
        exact absurd (Option.some.inj e') hs
      · obtain ⟨d, hd⟩ : ∃ d, o - Z.1.length = d + 1 := ⟨o - Z.1.length - 1, by omega⟩
        rw [hd] at e'
        simp at e'
theorem wf_put {Z : Stc} {o k b : Nat} (h : WFs Z) (ho : o < Z.1.length) (hb : b < Z.1.length) : WFs (putR Z o k b) := by
  refine ⟨fun o' k' b' e => ?_, h.2⟩
  have e : (if o' = o ∧ k' = k then some b else Z.2.1 o' k') = some b' := e
  by_cases hc : o' = o ∧ k' = k
  · rw [if_pos hc] at e
    cases e
    exact ⟨hc.1 ▸ ho, hb⟩
  · rw [if_neg hc] at e
    exact h.1 o' k' b' e
theorem wf_shp {Z : Stc} {o : Nat} {s : Shp} (h : WFs Z) (hk : Z.2.2.1 + 6 ≤ Z.1.length) : WFs (shpS Z o s) := by
  have hl : (shpS Z o s).1.length = Z.1.length := by simp [shpS]
  refine ⟨fun o' k' b' e => ?_, fun o' e => ?_⟩
  · rw [hl]; exact h.1 o' k' b' e
  · rw [hl]; exact hk
theorem wf_mna {Z : Stc} {M N : Nat} (h : WFs Z) : WFs (addM Z M N) := by
  have hl : (addM Z M N).1.length = Z.1.length + 1 + M := by simp [addM]; omega
  refine ⟨fun o k b e => ?_, fun o e => ?_⟩
  · rw [hl]
    have e : (if o = Z.1.length then (if k < M then some (Z.1.length + 1 + k) else none) else Z.2.1 o k) = some b := e
    by_cases ho : o = Z.1.length
    · rw [if_pos ho] at e
      by_cases hk : k < M
      · rw [if_pos hk] at e
        cases e
        omega
      · rw [if_neg hk] at e
        cases e
    · rw [if_neg ho] at e
      have := h.1 o k b e
      omega
  · rw [hl]
    have e' : (Z.1 ++ .inl (4, 2, M) :: List.replicate M (.inl (1, 1, N)))[o]? = some (Sum.inr 2 : Shp) := e
    by_cases ho : o < Z.1.length
    · rw [List.getElem?_append_left ho] at e'
      have := h.2 o e'
      show Z.2.2.1 + 6 ≤ _
      omega
    · rw [List.getElem?_append_right (by omega)] at e'
      have := List.mem_of_getElem? e'
      rcases List.mem_cons.mp this with z | z
      · cases z
      · have := List.eq_of_mem_replicate z
        cases this
theorem ln_add {Z : Stc} {s : Shp} {m : Nat} (h : Z.1.length = m) : (addS Z s).1.length = m + 1 := by simp [addS, h]
theorem ln_shp {Z : Stc} {o m : Nat} {s : Shp} (h : Z.1.length = m) : (shpS Z o s).1.length = m := by simp [shpS, h]
theorem ln_mna {Z : Stc} {M N m : Nat} (h : Z.1.length = m) : (addM Z M N).1.length = m + 1 + M := by simp [addM, h]; omega
section AWN3
variable {X : MCx} {cc : ByteArray} {own : String} {nL : Nat} {ret : Option FieldType} {rm : Room} {Z Z' : Stc} {yd : Dyn} {A : Nat → Prop} {k n : Nat} {α : Type} {Qf : α → AH → State → Prop} {pc ix : Nat} {lv : List (Nat × Value)} {st : List Value} {h : AH} {f : AH → Option (α × AH)}
theorem aw_newIm (C : OK X cc own nL ret rm A) {c : Int32} {N m : Nat} (hm : Z.1.length = m) (hF : WFs Z) (d : decode cc pc = .ok (.newarray .int, 2)) (hc0 : ¬ c < 0) (hN : c.toNatClampNeg = N) (hb : N * componentBytes .int ≤ 536870912) (hZ : addS Z (.inl (0, 0, N)) = Z') (ht : Z.2.2.2[0]? = some .int) (hrk : rok m lv st = true) (hc : k + 1 ≤ rm.cells) (hs : n + N ≤ rm.slots) (q : ∀ (a : Nat) (h1 : AH), AW X nL Z' (ydN yd m a) A (k + 1) (n + N) Qf (pc + 2) lv (.ref m :: st) h1 (f h1)) : AW X nL Z yd A k n Qf pc lv (.int c :: st) h (vl (zN h m) f) := by
  subst hm
  exact aw_newI C d hc0 hN hb hF.frs hZ ht hrk hc hs q
theorem aw_newJm (C : OK X cc own nL ret rm A) {c : Int32} {N m : Nat} (hw0 : Cond.arrayClass .long ∈ TB) (hm : Z.1.length = m) (hF : WFs Z) (d : decode cc pc = .ok (.newarray .long, 2)) (hc0 : ¬ c < 0) (hN : c.toNatClampNeg = N) (hb : N * componentBytes .long ≤ 536870912) (hZ : addS Z (.inl (1, 1, N)) = Z') (ht : Z.2.2.2[1]? = some .long) (hrk : rok m lv st = true) (hc : k + 1 ≤ rm.cells) (hs : n + N ≤ rm.slots) (q : ∀ (a : Nat) (h1 : AH), AW X nL Z' (ydN yd m a) A (k + 1) (n + N) Qf (pc + 2) lv (.ref m :: st) h1 (f h1)) : AW X nL Z yd A k n Qf pc lv (.int c :: st) h (vl (zN h m) f) := by
  subst hm
  exact aw_newJ C hw0 d hc0 hN hb hF.frs hZ ht hrk hc hs q
theorem aw_newqm (C : OK X cc own nL ret rm A) {c : Int32} {N t m : Nat} {E : String} (hAO : va_AO E (xS X)) (hcl : Cond.classLink own ix E ∈ TB) (hm : Z.1.length = m) (hF : WFs Z) (d : decode cc pc = .ok (.anewarray ix, 3)) (hc0 : ¬ c < 0) (hN : c.toNatClampNeg = N) (hb : N * 4 ≤ 536870912) (hZ : addS Z (.inl (t, 2, N)) = Z') (ht : Z.2.2.2[t]? = some (.object E)) (hrk : rok m lv st = true) (hc : k + 1 ≤ rm.cells) (hs : n + N ≤ rm.slots) (q : ∀ (a : Nat) (h1 : AH), AW X nL Z' (ydN yd m a) A (k + 1) (n + N) Qf (pc + 3) lv (.ref m :: st) h1 (f h1)) : AW X nL Z yd A k n Qf pc lv (.int c :: st) h (vl (zN h m) f) := by
  subst hm
  exact aw_newq C hAO hcl d hc0 hN hb hF.frs hZ ht hrk hc hs q
theorem aw_newm (C : OK X cc own nL ret rm A) {ci N m : Nat} {D : String} {T : u_T} {codes : List Nat} {ty : Nat → FieldType} (sN : Shp) (hm : Z.1.length = m) (hF : WFs Z) (d : decode cc pc = .ok (.new ix, 3)) (hvc : vwCl[ci]? = some (D, T, N)) (hin : ∀ w ∈ u_ws D T N, w ∈ TB) (hty : ∀ k, k < N → parseFieldDescriptor (T k).2.2.1 = some (ty k)) (hcl : Cond.classLink own ix D ∈ TB) (hinst : Cond.instantiable D N ∈ TB) (hini : Cond.initialized D ∈ TB) (hE : ∀ (Z : Stc) (yd : Dyn) (h : AH) (o : Nat), ent Z yd h o sN = .inr (ci, eFs Z yd.1 h o 0 codes)) (h3 : ∀ k : Nat, codes[k]? ≠ some 3) (hdef : ∀ j : Nat, j < N → defaultValue (ty j) = vp_V (codes.map (fun c => dvF (some c))) j) (hZ : addS Z sN = Z') (hrk : rok m lv st = true) (hc : k + 1 ≤ rm.cells) (hs : n + N ≤ rm.slots) (q : ∀ (a : Nat) (h1 : AH), AW X nL Z' (ydN yd m a) A (k + 1) (n + N) Qf (pc + 3) lv (.ref m :: st) h1 (f h1)) : AW X nL Z yd A k n Qf pc lv st h (vl (zN h m) f) := by
  subst hm
  exact aw_new C sN d hvc hin hty hcl hinst hini hE h3 hdef hF.frs hZ hrk hc hs q
end AWN3
