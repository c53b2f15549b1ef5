/-! Math.max, min, abs -/
def mx32 (x y : Int32) : Int32 := if x < y then y else x
def mn32 (x y : Int32) : Int32 := if y < x then y else x
def ab32 (x : Int32) : Int32 := if 0 ≤ x then x else 0 - x
section AWMath
variable {X : MCx} {cc : ByteArray} {own : String} {nL : Nat} {ret : Option FieldType} {rm : Room} {Z : Stc} {yd : Dyn} {A : Nat → Prop} {k n : Nat} {α : Type} {Qf : α → AH → State → Prop} {pc ix : Nat} {lv : List (Nat × Value)} {st : List Value} {h : AH} {o : Option (α × AH)}
theorem aw_mmax (C : OK X cc own nL ret rm A) {x y : Int32} (d : decode cc pc = .ok (.invokestatic ix, 3)) (hl : Cond.methodLink own ix Lib.Math.max.name ∈ TB) (hst : Cond.static Lib.Math.max.name ∈ TB) (hini : Cond.initialized "java/lang/Math" ∈ TB) (hco : Cond.code Lib.Math.max.name Lib.Math.max.code 2 (some .int) ∈ TB) (hR : 1 ≤ rm.frames ∧ ((st.map (cv yd.1)).map fun v => v.category).sum + 13 ≤ rm.locals) (hc : k ≤ rm.cells) (hs : n ≤ rm.slots) (q : AW X nL Z yd A k n Qf (pc + 3) lv (.int (mx32 x y) :: st) h o) : AW X nL Z yd A k n Qf pc lv (.int y :: .int x :: st) h o := fun r h' e ls H locs hll hw =>
  va_mmax (own := own) C.1 C.2.1 (by rw [C.2.2.1]; exact hll.1.symm) C.2.2.2.1 (C.2.2.2.2.1 _ hl) (C.2.2.2.2.1 _ hst) (C.2.2.2.2.1 _ hini) (C.2.2.2.2.1 _ hco) (by rw [C.2.2.2.2.2.2.2.2]; exact hR.1) (by rw [C.2.2.2.2.2.2.2.2]; exact hR.2) (by rw [C.2.2.2.2.2.2.2.2]; exact hc) (by rw [C.2.2.2.2.2.2.2.2]; exact hs) d (q r h' e ls H locs hll hw)
theorem aw_mmin (C : OK X cc own nL ret rm A) {x y : Int32} (d : decode cc pc = .ok (.invokestatic ix, 3)) (hl : Cond.methodLink own ix Lib.Math.min.name ∈ TB) (hst : Cond.static Lib.Math.min.name ∈ TB) (hini : Cond.initialized "java/lang/Math" ∈ TB) (hco : Cond.code Lib.Math.min.name Lib.Math.min.code 2 (some .int) ∈ TB) (hR : 1 ≤ rm.frames ∧ ((st.map (cv yd.1)).map fun v => v.category).sum + 13 ≤ rm.locals) (hc : k ≤ rm.cells) (hs : n ≤ rm.slots) (q : AW X nL Z yd A k n Qf (pc + 3) lv (.int (mn32 x y) :: st) h o) : AW X nL Z yd A k n Qf pc lv (.int y :: .int x :: st) h o := fun r h' e ls H locs hll hw =>
  va_mmin (own := own) C.1 C.2.1 (by rw [C.2.2.1]; exact hll.1.symm) C.2.2.2.1 (C.2.2.2.2.1 _ hl) (C.2.2.2.2.1 _ hst) (C.2.2.2.2.1 _ hini) (C.2.2.2.2.1 _ hco) (by rw [C.2.2.2.2.2.2.2.2]; exact hR.1) (by rw [C.2.2.2.2.2.2.2.2]; exact hR.2) (by rw [C.2.2.2.2.2.2.2.2]; exact hc) (by rw [C.2.2.2.2.2.2.2.2]; exact hs) d (q r h' e ls H locs hll hw)
theorem aw_mabs (C : OK X cc own nL ret rm A) {x : Int32} (d : decode cc pc = .ok (.invokestatic ix, 3)) (hl : Cond.methodLink own ix Lib.Math.abs.name ∈ TB) (hst : Cond.static Lib.Math.abs.name ∈ TB) (hini : Cond.initialized "java/lang/Math" ∈ TB) (hco : Cond.code Lib.Math.abs.name Lib.Math.abs.code 1 (some .int) ∈ TB) (hR : 1 ≤ rm.frames ∧ ((st.map (cv yd.1)).map fun v => v.category).sum + 13 ≤ rm.locals) (hc : k ≤ rm.cells) (hs : n ≤ rm.slots) (q : AW X nL Z yd A k n Qf (pc + 3) lv (.int (ab32 x) :: st) h o) : AW X nL Z yd A k n Qf pc lv (.int x :: st) h o := fun r h' e ls H locs hll hw =>
  va_mabs (own := own) C.1 C.2.1 (by rw [C.2.2.1]; exact hll.1.symm) C.2.2.2.1 (C.2.2.2.2.1 _ hl) (C.2.2.2.2.1 _ hst) (C.2.2.2.2.1 _ hini) (C.2.2.2.2.1 _ hco) (by rw [C.2.2.2.2.2.2.2.2]; exact hR.1) (by rw [C.2.2.2.2.2.2.2.2]; exact hR.2) (by rw [C.2.2.2.2.2.2.2.2]; exact hc) (by rw [C.2.2.2.2.2.2.2.2]; exact hs) d (q r h' e ls H locs hll hw)
end AWMath
theorem osw_ne {x : Int32} {k o d : Int} {r : List (Int × Int)} (h : x.toInt ≠ k) : Op.lookupswitch.offset ((k, o) :: r) d x.toInt = Op.lookupswitch.offset r d x.toInt := by
  simp [Op.lookupswitch.offset, List.find?, h, Ne.symm h]
theorem w_mmaxC : Cond.code Lib.Math.max.name Lib.Math.max.code 2 (some .int) ∈ TB := tb_in 459 (by decide +kernel) (by decide +kernel)
theorem w_mmaxS : Cond.static Lib.Math.max.name ∈ TB := tb_in 458 (by decide +kernel) (by decide +kernel)
theorem w_mminC : Cond.code Lib.Math.min.name Lib.Math.min.code 2 (some .int) ∈ TB := tb_in 447 (by decide +kernel) (by decide +kernel)
theorem w_mminS : Cond.static Lib.Math.min.name ∈ TB := tb_in 446 (by decide +kernel) (by decide +kernel)
theorem w_mabsC : Cond.code Lib.Math.abs.name Lib.Math.abs.code 1 (some .int) ∈ TB := tb_in 644 (by decide +kernel) (by decide +kernel)
theorem w_mabsS : Cond.static Lib.Math.abs.name ∈ TB := tb_in 643 (by decide +kernel) (by decide +kernel)
theorem w_mI : Cond.initialized "java/lang/Math" ∈ TB := tb_in 103 (by decide +kernel) (by decide +kernel)
theorem lswD {x : Int32} {d : Int} (vs : List Int) (hvs : ∀ v ∈ vs, x.toInt ≠ v) : ∀ {ps : List (Int × Int)}, ps.all (fun q => vs.contains q.1 || q.2 == d) = true → Op.lookupswitch.offset ps d x.toInt = d
  | [], _ => by simp [Op.lookupswitch.offset]
  | (k, o) :: r, h => by
    simp only [List.all_cons, Bool.and_eq_true] at h
    have ih := lswD (x := x) (d := d) vs hvs h.2
    by_cases hx : x.toInt = k
    · rcases Bool.or_eq_true_iff.mp h.1 with z | z
      · exact absurd hx (hvs k (by simpa using z))
      · have z2 : o = d := by simpa using z
        rw [hx, z2]
        simp [Op.lookupswitch.offset]
    · rw [osw_ne hx]
      exact ih
