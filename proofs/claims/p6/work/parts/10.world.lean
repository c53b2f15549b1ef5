/-! THE ABSTRACT HEAP: whole numbers by object and slot; what a reference field holds for good stands in the static table -/
abbrev AH : Type := (Nat → Nat → Int32) × (Nat → Nat → Int64) × (Nat → Nat)
abbrev Shp : Type := (Nat × Nat × Nat) ⊕ Nat
abbrev Stc : Type := List Shp × (Nat → Nat → Option Nat) × Nat × List FieldType
abbrev Dyn : Type := (Nat → Nat) × va_G × List (ClassId × FieldType)
def sI (h : AH) (o k : Nat) (v : Int32) : AH := (fun o' k' => if o' = o ∧ k' = k then v else h.1 o' k', h.2)
def sL (h : AH) (o k : Nat) (v : Int64) : AH := (h.1, fun o' k' => if o' = o ∧ k' = k then v else h.2.1 o' k', h.2.2)
def sK (h : AH) (o v : Nat) : AH := (h.1, h.2.1, fun o' => if o' = o then v else h.2.2 o')
/-- the kinds of a class's fields, by slots: 0 int, 1 long, 2 a reference for good, 3 a jumper's way -/
def fty (ci : Nat) : List Nat := match ci with
  | 1 => [2, 2, 1, 1, 1]
  | 2 => [3, 0, 0, 0, 0, 0, 0, 0, 0]
  | 5 => [0, 0, 0, 0, 0, 2, 2, 2, 2, 2]
  | 6 => [0, 2, 2]
  | 10 => [2, 2, 2, 2, 0, 2, 0, 2, 0, 2, 2, 2, 2, 2, 2, 2, 2, 0]
  | 11 => [2, 2, 2, 2, 2, 2, 2, 2, 2, 2, 2, 2, 0, 0, 0, 0, 0, 2, 2, 2, 2, 0, 0, 0, 2, 0, 0, 0, 2, 2, 2, 2, 2, 2, 0, 2, 2, 2, 2, 2, 0]
  | _ => []
/-- the same of an object as it is made: a way is null -/
def rty (ci : Nat) : List Nat := match ci with
  | 2 => [4, 0, 0, 0, 0, 0, 0, 0, 0]
  | _ => []
def eF (Z : Stc) (ad : Nat → Nat) (h : AH) (o k t : Nat) : Value := match t with
  | 0 => .int (h.1 o k)
  | 1 => .long (h.2.1 o k)
  | 2 => va_rf ((Z.2.1 o k).map ad)
  | 3 => .ref (ad (Z.2.2.1 + h.2.2 o % 6))
  | _ => .null
def eFs (Z : Stc) (ad : Nat → Nat) (h : AH) (o : Nat) : Nat → List Nat → List Value
  | _, [] => []
  | k, t :: l => eF Z ad h o k t :: eFs Z ad h o (k + 1) l
def eA (Z : Stc) (ad : Nat → Nat) (h : AH) (o kd n : Nat) : vp_A := match kd with
  | 0 => (n, .inl (h.1 o))
  | 1 => (n, .inr (.inl (h.2.1 o)))
  | _ => (n, .inr (.inr (.inr (.inr (fun j => (Z.2.1 o j).map ad)))))
def tcl (yd : Dyn) (t : Nat) : ClassId := ((yd.2.2[t]?).map (·.1)).getD 0
def ent (Z : Stc) (yd : Dyn) (h : AH) (o : Nat) (s : Shp) : va_E := match s with
  | .inl q => match q.2.1 with
    | 9 => .inr (q.2.2, eFs Z yd.1 h o 0 (rty q.2.2))
    | kd => .inl (tcl yd q.1, eA Z yd.1 h o kd q.2.2)
  | .inr ci => .inr (ci, eFs Z yd.1 h o 0 (fty ci))
def wld (Z : Stc) (yd : Dyn) (h : AH) : va_W := (List.range Z.1.length).map (fun o => (yd.1 o, ent Z yd h o ((Z.1[o]?).getD (.inr 0))))
theorem wld_len (Z : Stc) (yd : Dyn) (h : AH) : (wld Z yd h).length = Z.1.length := by simp [wld]
theorem wld_at {Z : Stc} {yd : Dyn} {h : AH} {o : Nat} {s : Shp} (e : Z.1[o]? = some s) : (wld Z yd h)[o]? = some (yd.1 o, ent Z yd h o s) := by
  have hl : o < Z.1.length := (List.getElem?_eq_some_iff.mp e).1
  simp [wld, List.getElem?_map, List.getElem?_range hl, e]
theorem wld_set {Z : Stc} {yd : Dyn} {h h' : AH} {o : Nat} {s : Shp} {x : va_E} (e : Z.1[o]? = some s) (hx : ent Z yd h' o s = x) (ho : ∀ o' s', o' ≠ o → ent Z yd h' o' s' = ent Z yd h o' s') : (wld Z yd h).set o (yd.1 o, x) = wld Z yd h' := by
  have hl : o < Z.1.length := (List.getElem?_eq_some_iff.mp e).1
  apply List.ext_getElem?
  intro j
  by_cases hj : j = o
  · subst hj
    rw [List.getElem?_set_self (by rw [wld_len]; exact hl), wld_at e, hx]
  · rw [List.getElem?_set_ne (Ne.symm hj)]
    by_cases hjl : j < Z.1.length
    · obtain ⟨t, ht⟩ : ∃ t, Z.1[j]? = some t := ⟨_, List.getElem?_eq_getElem hjl⟩
      rw [wld_at ht, wld_at ht, ho j t hj]
    · rw [List.getElem?_eq_none (by rw [wld_len]; omega), List.getElem?_eq_none (by rw [wld_len]; omega)]
theorem eFs_get (Z : Stc) (ad : Nat → Nat) (h : AH) (o : Nat) : ∀ (l : List Nat) (k i : Nat), (eFs Z ad h o k l)[i]? = (l[i]?).map (eF Z ad h o (k + i))
  | [], _, _ => by simp [eFs]
  | t :: l, k, 0 => by simp [eFs]
  | t :: l, k, i + 1 => by simp only [eFs, List.getElem?_cons_succ]; rw [eFs_get Z ad h o l (k + 1) i, Nat.add_assoc, Nat.add_comm 1 i]
theorem eFs_len (Z : Stc) (ad : Nat → Nat) (h : AH) (o : Nat) : ∀ (l : List Nat) (k : Nat), (eFs Z ad h o k l).length = l.length
  | [], _ => rfl
  | _ :: l, k => by simp only [eFs, List.length_cons]; rw [eFs_len Z ad h o l (k + 1)]
theorem eFs_set {Z : Stc} {ad : Nat → Nat} {h h' : AH} {o i t : Nat} {l : List Nat} {v : Value} (ht : l[i]? = some t) (hv : eF Z ad h' o i t = v) (ho : ∀ k t', k ≠ i → eF Z ad h' o k t' = eF Z ad h o k t') (hi : ∀ t', l[i]? = some t' → t' = t) : eFs Z ad h' o 0 l = (eFs Z ad h o 0 l).set i v := by
  have hl : i < l.length := (List.getElem?_eq_some_iff.mp ht).1
  apply List.ext_getElem?
  intro j
  by_cases hj : j = i
  · subst hj
    rw [List.getElem?_set_self (by rw [eFs_len]; exact hl), eFs_get, ht, Nat.zero_add]
    simp [hv]
  · rw [List.getElem?_set_ne (Ne.symm hj), eFs_get, eFs_get, Nat.zero_add]
    cases l[j]? with
    | none => rfl
    | some t' => simp [ho j t' hj]
theorem eFs_same {Z : Stc} {ad : Nat → Nat} {h h' : AH} {o : Nat} (he : ∀ k t, eF Z ad h' o k t = eF Z ad h o k t) : ∀ (l : List Nat) (k : Nat), eFs Z ad h' o k l = eFs Z ad h o k l
  | [], _ => rfl
  | t :: l, k => by simp only [eFs]; rw [he k t, eFs_same he l (k + 1)]
theorem ent_same {Z : Stc} {yd : Dyn} {h h' : AH} {o : Nat} {s : Shp} (h1 : ∀ k, h'.1 o k = h.1 o k) (h2 : ∀ k, h'.2.1 o k = h.2.1 o k) (h3 : h'.2.2 o = h.2.2 o) : ent Z yd h' o s = ent Z yd h o s := by
  have g1 : h'.1 o = h.1 o := funext h1
  have g2 : h'.2.1 o = h.2.1 o := funext h2
  have he : ∀ k t, eF Z yd.1 h' o k t = eF Z yd.1 h o k t := by
    intro k t
    unfold eF
    split <;> simp [g1, g2, h3]
  cases s with
  | inl q =>
    unfold ent
    simp only
    split
    · rw [eFs_same he]
    · unfold eA
      split <;> simp [g1, g2]
  | inr ci => simp only [ent]; rw [eFs_same he]
theorem sI_self (h : AH) (o k : Nat) (v : Int32) : (sI h o k v).1 o k = v := by simp [sI]
theorem sI_ne {h : AH} {o k o' k' : Nat} (v : Int32) (hn : ¬ (o' = o ∧ k' = k)) : (sI h o k v).1 o' k' = h.1 o' k' := by simp only [sI, if_neg hn]
theorem sL_self (h : AH) (o k : Nat) (v : Int64) : (sL h o k v).2.1 o k = v := by simp [sL]
theorem sL_ne {h : AH} {o k o' k' : Nat} (v : Int64) (hn : ¬ (o' = o ∧ k' = k)) : (sL h o k v).2.1 o' k' = h.2.1 o' k' := by simp only [sL, if_neg hn]
theorem sI_2 (h : AH) (o k : Nat) (v : Int32) : (sI h o k v).2 = h.2 := rfl
theorem sL_1 (h : AH) (o k : Nat) (v : Int64) : (sL h o k v).1 = h.1 := rfl
theorem sL_22 (h : AH) (o k : Nat) (v : Int64) : (sL h o k v).2.2 = h.2.2 := rfl
theorem sK_1 (h : AH) (o v : Nat) : (sK h o v).1 = h.1 := rfl
theorem sK_21 (h : AH) (o v : Nat) : (sK h o v).2.1 = h.2.1 := rfl
theorem ent_sI_ne (Z : Stc) (yd : Dyn) (h : AH) {o o' : Nat} (k : Nat) (v : Int32) (s : Shp) (hn : o' ≠ o) : ent Z yd (sI h o k v) o' s = ent Z yd h o' s :=
  ent_same (fun _ => sI_ne v (fun q => hn q.1)) (fun _ => rfl) rfl
theorem ent_sL_ne (Z : Stc) (yd : Dyn) (h : AH) {o o' : Nat} (k : Nat) (v : Int64) (s : Shp) (hn : o' ≠ o) : ent Z yd (sL h o k v) o' s = ent Z yd h o' s :=
  ent_same (fun _ => rfl) (fun _ => sL_ne v (fun q => hn q.1)) rfl
theorem ent_sK_ne (Z : Stc) (yd : Dyn) (h : AH) {o o' : Nat} (v : Nat) (s : Shp) (hn : o' ≠ o) : ent Z yd (sK h o v) o' s = ent Z yd h o' s :=
  ent_same (fun _ => rfl) (fun _ => rfl) (by simp [sK, hn])
theorem wld_putI {Z : Stc} {yd : Dyn} {h : AH} {o ci k : Nat} (v : Int32) (e : Z.1[o]? = some (.inr ci)) (hk : (fty ci)[k]? = some 0) : (wld Z yd h).set o (yd.1 o, .inr (ci, (eFs Z yd.1 h o 0 (fty ci)).set k (.int v))) = wld Z yd (sI h o k v) := by
  refine wld_set e ?_ (fun o' s' hn => ent_sI_ne Z yd h k v s' hn)
  show Sum.inr (ci, _) = _
  rw [eFs_set (h := h) hk (v := .int v) (by show Value.int _ = _; rw [sI_self]) (fun k' t' hn => by unfold eF; split <;> simp [sI, hn]) (fun t' ht => by rw [hk] at ht; exact (Option.some.inj ht).symm)]
theorem wld_putL {Z : Stc} {yd : Dyn} {h : AH} {o ci k : Nat} (v : Int64) (e : Z.1[o]? = some (.inr ci)) (hk : (fty ci)[k]? = some 1) : (wld Z yd h).set o (yd.1 o, .inr (ci, (eFs Z yd.1 h o 0 (fty ci)).set k (.long v))) = wld Z yd (sL h o k v) := by
  refine wld_set e ?_ (fun o' s' hn => ent_sL_ne Z yd h k v s' hn)
  show Sum.inr (ci, _) = _
  rw [eFs_set (h := h) hk (v := .long v) (by show Value.long _ = _; rw [sL_self]) (fun k' t' hn => by unfold eF; split <;> simp [sL, hn]) (fun t' ht => by rw [hk] at ht; exact (Option.some.inj ht).symm)]
theorem wld_putK {Z : Stc} {yd : Dyn} {h : AH} {o ci : Nat} (v : Nat) (e : Z.1[o]? = some (.inr ci)) (hk : (fty ci)[0]? = some 3) (h3 : ∀ k, k ≠ 0 → (fty ci)[k]? ≠ some 3) (hm : ∀ (k t : Nat), (fty ci)[k]? = some t → t ≤ 3) : (wld Z yd h).set o (yd.1 o, .inr (ci, (eFs Z yd.1 h o 0 (fty ci)).set 0 (.ref (yd.1 (Z.2.2.1 + v % 6))))) = wld Z yd (sK h o v) := by
  refine wld_set e ?_ (fun o' s' hn => ent_sK_ne Z yd h v s' hn)
  show Sum.inr (ci, _) = Sum.inr (ci, _)
  congr 2
  have hl : 0 < (fty ci).length := (List.getElem?_eq_some_iff.mp hk).1
  apply List.ext_getElem?
  intro j
  by_cases hj : j = 0
  · subst hj
    rw [List.getElem?_set_self (by rw [eFs_len]; exact hl), eFs_get, hk]
    simp [eF, sK]
  · rw [List.getElem?_set_ne (Ne.symm hj), eFs_get, eFs_get]
    cases ht : (fty ci)[j]? with
    | none => rfl
    | some t =>
      have h1 := hm j t ht
      have h2 : t ≠ 3 := fun q => h3 j hj (by rw [ht, q])
      match t, h1, h2 with
      | 0, _, _ => rfl
      | 1, _, _ => rfl
      | 2, _, _ => rfl
      | t + 3, h1, h2 => exact absurd (by omega : t + 3 = 3) h2
theorem wld_astI {Z : Stc} {yd : Dyn} {h : AH} {o t n k : Nat} (v : Int32) (e : Z.1[o]? = some (.inl (t, 0, n))) : (wld Z yd h).set o (yd.1 o, .inl (tcl yd t, n, .inl (upd (h.1 o) k v))) = wld Z yd (sI h o k v) := by
  refine wld_set e ?_ (fun o' s' hn => ent_sI_ne Z yd h k v s' hn)
  show Sum.inl (tcl yd t, n, Sum.inl _) = _
  rw [show (sI h o k v).1 o = upd (h.1 o) k v from funext fun j => by simp [sI, upd]]
theorem wld_astL {Z : Stc} {yd : Dyn} {h : AH} {o t n k : Nat} (v : Int64) (e : Z.1[o]? = some (.inl (t, 1, n))) : (wld Z yd h).set o (yd.1 o, .inl (tcl yd t, n, .inr (.inl (vp_updL (h.2.1 o) k v)))) = wld Z yd (sL h o k v) := by
  refine wld_set e ?_ (fun o' s' hn => ent_sL_ne Z yd h k v s' hn)
  show Sum.inl (tcl yd t, n, Sum.inr (Sum.inl _)) = _
  rw [show (sL h o k v).2.1 o = vp_updL (h.2.1 o) k v from funext fun j => by simp [sL, vp_updL]]
/-! abstract values: a reference is the number of an object -/
def cv (ad : Nat → Nat) (v : Value) : Value := match v with
  | .ref i => .ref (ad i)
  | w => w
theorem cv_cat (ad : Nat → Nat) (v : Value) : (cv ad v).category = v.category := by cases v <;> rfl
def lvc (ad : Nat → Nat) (lv : List (Nat × Value)) : List (Nat × Value) := lv.map (fun q => (q.1, cv ad q.2))
def lget : List (Nat × Value) → Nat → Option Value
  | [], _ => none
  | q :: l, i => match Nat.beq q.1 i with
    | true => some q.2
    | false => lget l i
theorem lget_mem : ∀ {l : List (Nat × Value)} {i : Nat} {v : Value}, lget l i = some v → (i, v) ∈ l
  | q :: l, i, v, h => by
    unfold lget at h
    split at h
    next e => cases h; rw [← Nat.eq_of_beq_eq_true e]; exact List.mem_cons_self
    next e => exact List.mem_cons_of_mem _ (lget_mem h)
/-- a new value at a place: what else is kept, by places -/
def two (v : Value) : Bool := match v with
  | .long _ => true
  | .double _ => true
  | _ => false
theorem two_cat {v : Value} (h : two v = false) : ¬ v.category = 2 := by cases v <;> simp [two, Value.category] at h ⊢
def lin1 (i : Nat) (v : Value) : List (Nat × Value) → List (Nat × Value)
  | [] => [(i, v)]
  | q :: l => match Nat.blt i q.1 with
    | true => (i, v) :: q :: l
    | false => match Nat.beq q.1 i with
      | true => (i, v) :: l
      | false => match Nat.beq (q.1 + 1) i with
        | true => match two q.2 with
          | true => lin1 i v l
          | false => q :: lin1 i v l
        | false => q :: lin1 i v l
/-- sorted by places -/
def srt : Nat → List (Nat × Value) → Bool
  | _, [] => true
  | k, q :: l => Nat.ble k q.1 && srt (q.1 + 1) l
theorem srt_ge : ∀ {l : List (Nat × Value)} {k : Nat} {q : Nat × Value}, srt k l = true → q ∈ l → k ≤ q.1
  | a :: l, k, q, h, hq => by
    simp only [srt, Bool.and_eq_true] at h
    have h1 : k ≤ a.1 := Nat.le_of_ble_eq_true h.1
    rcases List.mem_cons.mp hq with e | e
    · rw [e]; exact h1
    · have := srt_ge h.2 e
      omega
theorem srt_tail {a : Nat × Value} {l : List (Nat × Value)} {k : Nat} (h : srt k (a :: l) = true) : srt (a.1 + 1) l = true := by
  simp only [srt, Bool.and_eq_true] at h
  exact h.2
theorem lin1_mem {i : Nat} {v : Value} : ∀ {l : List (Nat × Value)} {k : Nat} {q : Nat × Value}, srt k l = true → q ∈ lin1 i v l → q = (i, v) ∨ (q ∈ l ∧ ¬ q.1 = i ∧ ¬ (q.1 + 1 = i ∧ q.2.category = 2))
  | [], _, q, _, h => by simp [lin1] at h; exact Or.inl h
  | a :: l, k, q, hs, h => by
    have ht := srt_tail hs
    unfold lin1 at h
    split at h
    next e =>
      have hlt : i < a.1 := Nat.le_of_ble_eq_true e
      rcases List.mem_cons.mp h with h | h
      · exact Or.inl h
      · refine Or.inr ⟨h, ?_⟩
        have hge : a.1 ≤ q.1 := by
          rcases List.mem_cons.mp h with e2 | e2
          · rw [e2]; exact Nat.le_refl _
          · have := srt_ge ht e2
            omega
        exact ⟨by omega, fun z => by omega⟩
    next e =>
      split at h
      next e2 =>
        have e3 := Nat.eq_of_beq_eq_true e2
        rcases List.mem_cons.mp h with h | h
        · exact Or.inl h
        · have := srt_ge ht h
          exact Or.inr ⟨List.mem_cons_of_mem _ h, by omega, fun z => by omega⟩
      next e2 =>
        have n2 : ¬ a.1 = i := fun z => by rw [z, Nat.beq_refl] at e2; cases e2
        have keep : ∀ {q : Nat × Value}, q ∈ lin1 i v l → q = (i, v) ∨ (q ∈ a :: l ∧ ¬ q.1 = i ∧ ¬ (q.1 + 1 = i ∧ q.2.category = 2)) := by
          intro q hq
          rcases lin1_mem ht hq with h | h
          · exact Or.inl h
          · exact Or.inr ⟨List.mem_cons_of_mem _ h.1, h.2⟩
        split at h
        next e3 =>
          split at h
          next e4 => exact keep h
          next e4 =>
            rcases List.mem_cons.mp h with h | h
            · subst h
              exact Or.inr ⟨List.mem_cons_self, n2, fun z => two_cat e4 z.2⟩
            · exact keep h
        next e3 =>
          have n3 : ¬ a.1 + 1 = i := fun z => by rw [z, Nat.beq_refl] at e3; cases e3
          rcases List.mem_cons.mp h with h | h
          · subst h
            exact Or.inr ⟨List.mem_cons_self, n2, fun z => n3 z.1⟩
          · exact keep h
/-- the place behind is lost too -/
def ldel (i : Nat) : List (Nat × Value) → List (Nat × Value)
  | [] => []
  | q :: l => match Nat.beq q.1 i with
    | true => l
    | false => q :: ldel i l
theorem ldel_mem {i : Nat} : ∀ {l : List (Nat × Value)} {k : Nat} {q : Nat × Value}, srt k l = true → q ∈ ldel i l → q ∈ l ∧ ¬ q.1 = i
  | a :: l, k, q, hs, h => by
    have ht := srt_tail hs
    unfold ldel at h
    split at h
    next e =>
      have e3 := Nat.eq_of_beq_eq_true e
      have := srt_ge ht h
      exact ⟨List.mem_cons_of_mem _ h, by omega⟩
    next e =>
      have n2 : ¬ a.1 = i := fun z => by rw [z, Nat.beq_refl] at e; cases e
      rcases List.mem_cons.mp h with h | h
      · subst h
        exact ⟨List.mem_cons_self, n2⟩
      · have := ldel_mem ht h
        exact ⟨List.mem_cons_of_mem _ this.1, this.2⟩
def lup1 (lv : List (Nat × Value)) (i : Nat) (v : Value) : List (Nat × Value) := match srt 0 lv with
  | true => lin1 i v lv
  | false => []
def lup2 (lv : List (Nat × Value)) (i : Nat) (v : Value) : List (Nat × Value) := match srt 0 lv with
  | true => match srt 0 (ldel (i + 1) lv) with
    | true => lin1 i v (ldel (i + 1) lv)
    | false => []
  | false => []
theorem lup1_has {ls : Array Slot} {nL i : Nat} {ad : Nat → Nat} {lv : List (Nat × Value)} {v : Value} (h : lv_has ls nL ((i, cv ad v) :: (lvc ad lv).filter (fun q => !(q.1 == i) && !(q.1 + 1 == i && q.2.category == 2)))) : lv_has ls nL (lvc ad (lup1 lv i v)) := by
  refine ⟨h.1, h.2.1, fun q hq => ?_⟩
  unfold lup1 at hq
  split at hq
  next hs =>
    obtain ⟨a, ha, rfl⟩ := List.mem_map.mp hq
    rcases lin1_mem hs ha with e | e
    · subst e
      exact h.2.2 (i, cv ad v) List.mem_cons_self
    · refine h.2.2 (a.1, cv ad a.2) (List.mem_cons_of_mem _ (List.mem_filter.mpr ⟨List.mem_map.mpr ⟨a, e.1, rfl⟩, ?_⟩))
      have h1 := e.2.1
      have h2 := e.2.2
      simp only [cv_cat, Bool.and_eq_true, Bool.not_eq_true', beq_eq_false_iff_ne, ne_eq, Bool.and_eq_false_iff]
      refine ⟨h1, ?_⟩
      by_cases z : a.1 + 1 = i
      · exact Or.inr (fun z2 => h2 ⟨z, z2⟩)
      · exact Or.inl z
  next hs => cases hq
theorem lup2_has {ls : Array Slot} {nL i : Nat} {ad : Nat → Nat} {lv : List (Nat × Value)} {v : Value} (h : lv_has ls nL ((i, cv ad v) :: (lvc ad lv).filter (fun q => !(q.1 == i) && (!(q.1 == i + 1) && !(q.1 + 1 == i && q.2.category == 2))))) : lv_has ls nL (lvc ad (lup2 lv i v)) := by
  refine ⟨h.1, h.2.1, fun q hq => ?_⟩
  unfold lup2 at hq
  split at hq
  next hs =>
    split at hq
    next hs2 =>
      obtain ⟨a, ha, rfl⟩ := List.mem_map.mp hq
      rcases lin1_mem hs2 ha with e | e
      · subst e
        exact h.2.2 (i, cv ad v) List.mem_cons_self
      · have hd := ldel_mem hs e.1
        refine h.2.2 (a.1, cv ad a.2) (List.mem_cons_of_mem _ (List.mem_filter.mpr ⟨List.mem_map.mpr ⟨a, hd.1, rfl⟩, ?_⟩))
        have h1 := e.2.1
        have h2 := e.2.2
        have h3 := hd.2
        simp only [cv_cat, Bool.and_eq_true, Bool.not_eq_true', beq_eq_false_iff_ne, ne_eq, Bool.and_eq_false_iff]
        refine ⟨h1, h3, ?_⟩
        by_cases z : a.1 + 1 = i
        · exact Or.inr (fun z2 => h2 ⟨z, z2⟩)
        · exact Or.inl z
    next hs2 => cases hq
  next hs => cases hq
theorem lv_get {ls : Array Slot} {nL i : Nat} {ad : Nat → Nat} {lv : List (Nat × Value)} {v : Value} (h : lv_has ls nL (lvc ad lv)) (e : lget lv i = some v) : ls[i]? = some (.val (cv ad v)) := h.2.2 (i, cv ad v) (List.mem_map.mpr ⟨(i, v), lget_mem e, rfl⟩)
theorem lv_drop {ls : Array Slot} {nL : Nat} {ad : Nat → Nat} {lv : List (Nat × Value)} (ks : List Nat) (h : lv_has ls nL (lvc ad lv)) : lv_has ls nL (lvc ad (lv_pick lv ks)) := by
  refine ⟨h.1, h.2.1, fun q hq => ?_⟩
  obtain ⟨a, ha, rfl⟩ := List.mem_map.mp hq
  obtain ⟨k, -, hk⟩ := List.mem_filterMap.mp ha
  exact h.2.2 _ (List.mem_map.mpr ⟨a, List.mem_of_getElem? hk, rfl⟩)
