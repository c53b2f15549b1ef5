section
-- ===== PART A: goes FIRST, ahead of the names: the tables' words, and 'selects' of the private methods out of them =====
/-- a private method of a class that the tables say can be made, by its rows of tables_1 -/
def lw_okq (q : MethodName × Nat) : Prop := (q.1.cls ≠ "java/lang/invoke/MethodHandle" ∧ q.1.cls ≠ "java/lang/invoke/VarHandle") ∧ Cond.instantiable q.1.cls q.2 ∈ tables_1 ∧ Cond.privateMethod q.1 ∈ tables_1 ∧ Cond.instanceMethod q.1 ∈ tables_1
/-- one walk over the tables -/
def ta_ok : List Cond → List (Nat × Cond) → Bool
  | _, [] => true
  | t, (g, w) :: r => match t.drop g with
    | [] => false
    | x :: t2 => decide (x = w) && ta_ok t2 r
def ta_P : List (Nat × Cond) → Prop
  | [] => True
  | (_, w) :: r => w ∈ tables_1 ∧ ta_P r
theorem ta_all : ∀ (l : List (Nat × Cond)) (t : List Cond), (∀ x, x ∈ t → x ∈ tables_1) → ta_ok t l = true → ta_P l
  | [], _, _, _ => trivial
  | (g, w) :: r, t, ht, h => by
    unfold ta_ok at h
    cases hd : t.drop g with
    | nil => rw [hd] at h; simp at h
    | cons x t2 =>
      rw [hd] at h
      simp only [Bool.and_eq_true, decide_eq_true_eq] at h
      have hin : ∀ y, y ∈ x :: t2 → y ∈ tables_1 := fun y hy => ht y (List.mem_of_mem_drop (i := g) (by rw [hd]; exact hy))
      have hw : w ∈ tables_1 := h.1 ▸ hin x (List.mem_cons_self ..)
      exact ⟨hw, ta_all r t2 (fun y hy => hin y (List.mem_cons_of_mem _ hy)) h.2⟩
theorem ta_in (s : Nat) {l : List (Nat × Cond)} (h : ta_ok (tables_1.drop s) l = true) : ta_P l := ta_all l _ (fun _ hx => List.mem_of_mem_drop hx) h
theorem ta_n0 : "MarkToBoard" ≠ "java/lang/invoke/MethodHandle" ∧ "MarkToBoard" ≠ "java/lang/invoke/VarHandle" := by decide +kernel
theorem ta_n1 : "MarkToBoard$Chances" ≠ "java/lang/invoke/MethodHandle" ∧ "MarkToBoard$Chances" ≠ "java/lang/invoke/VarHandle" := by decide +kernel
theorem ta_n2 : "MarkToBoardModel" ≠ "java/lang/invoke/MethodHandle" ∧ "MarkToBoardModel" ≠ "java/lang/invoke/VarHandle" := by decide +kernel
theorem tA_0 : ta_P [(0, Cond.instantiable "MarkToBoard" 18), (26, Cond.instantiable "MarkToBoard$Chances" 5), (234, Cond.privateMethod ⟨"MarkToBoard", "refuse", "(I)I"⟩), (0, Cond.instanceMethod ⟨"MarkToBoard", "refuse", "(I)I"⟩), (6, Cond.privateMethod ⟨"MarkToBoard", "firstBadLetter", "()I"⟩), (0, Cond.instanceMethod ⟨"MarkToBoard", "firstBadLetter", "()I"⟩), (5, Cond.privateMethod ⟨"MarkToBoard", "statementsInMind", "()I"⟩), (0, Cond.instanceMethod ⟨"MarkToBoard", "statementsInMind", "()I"⟩), (13, Cond.privateMethod ⟨"MarkToBoard", "comes", "(I)Z"⟩), (0, Cond.instanceMethod ⟨"MarkToBoard", "comes", "(I)Z"⟩), (2, Cond.privateMethod ⟨"MarkToBoard", "number", "(II)I"⟩), (0, Cond.instanceMethod ⟨"MarkToBoard", "number", "(II)I"⟩), (2, Cond.privateMethod ⟨"MarkToBoard", "stridesCome", "(I)Z"⟩), (0, Cond.instanceMethod ⟨"MarkToBoard", "stridesCome", "(I)Z"⟩), (2, Cond.privateMethod ⟨"MarkToBoard", "isMinus", "(I)Z"⟩), (0, Cond.instanceMethod ⟨"MarkToBoard", "isMinus", "(I)Z"⟩), (2, Cond.privateMethod ⟨"MarkToBoard", "windComes", "(ZI)Z"⟩), (0, Cond.instanceMethod ⟨"MarkToBoard", "windComes", "(ZI)Z"⟩), (2, Cond.privateMethod ⟨"MarkToBoard", "goOnComes", "(I)Z"⟩), (0, Cond.instanceMethod ⟨"MarkToBoard", "goOnComes", "(I)Z"⟩), (2, Cond.privateMethod ⟨"MarkToBoard", "jumperComes", "(I)Z"⟩), (0, Cond.instanceMethod ⟨"MarkToBoard", "jumperComes", "(I)Z"⟩), (6, Cond.privateMethod ⟨"MarkToBoard", "tryComes", "(I)Z"⟩), (0, Cond.instanceMethod ⟨"MarkToBoard", "tryComes", "(I)Z"⟩), (84, Cond.privateMethod ⟨"MarkToBoard", "nobody", "(I)I"⟩), (0, Cond.instanceMethod ⟨"MarkToBoard", "nobody", "(I)I"⟩), (88, Cond.privateMethod ⟨"MarkToBoard", "placeOf", "(I)I"⟩), (0, Cond.instanceMethod ⟨"MarkToBoard", "placeOf", "(I)I"⟩), (23, Cond.privateMethod ⟨"MarkToBoard", "spreadNow", "(II)V"⟩), (0, Cond.instanceMethod ⟨"MarkToBoard", "spreadNow", "(II)V"⟩), (13, Cond.privateMethod ⟨"MarkToBoard$Chances", "spreadLast", "(LMarkToBoard$Jumper;IIIIJ)V"⟩), (0, Cond.instanceMethod ⟨"MarkToBoard$Chances", "spreadLast", "(LMarkToBoard$Jumper;IIIIJ)V"⟩)] := ta_in 17 (by decide +kernel)
theorem ta_17 : Cond.instantiable "MarkToBoard" 18 ∈ tables_1 := tA_0.1
theorem ta_44 : Cond.instantiable "MarkToBoard$Chances" 5 ∈ tables_1 := tA_0.2.1
theorem ta_279 : Cond.privateMethod ⟨"MarkToBoard", "refuse", "(I)I"⟩ ∈ tables_1 := tA_0.2.2.1
theorem ta_280 : Cond.instanceMethod ⟨"MarkToBoard", "refuse", "(I)I"⟩ ∈ tables_1 := tA_0.2.2.2.1
theorem ta_287 : Cond.privateMethod ⟨"MarkToBoard", "firstBadLetter", "()I"⟩ ∈ tables_1 := tA_0.2.2.2.2.1
theorem ta_288 : Cond.instanceMethod ⟨"MarkToBoard", "firstBadLetter", "()I"⟩ ∈ tables_1 := tA_0.2.2.2.2.2.1
theorem ta_294 : Cond.privateMethod ⟨"MarkToBoard", "statementsInMind", "()I"⟩ ∈ tables_1 := tA_0.2.2.2.2.2.2.1
theorem ta_295 : Cond.instanceMethod ⟨"MarkToBoard", "statementsInMind", "()I"⟩ ∈ tables_1 := tA_0.2.2.2.2.2.2.2.1
theorem ta_309 : Cond.privateMethod ⟨"MarkToBoard", "comes", "(I)Z"⟩ ∈ tables_1 := tA_0.2.2.2.2.2.2.2.2.1
theorem ta_310 : Cond.instanceMethod ⟨"MarkToBoard", "comes", "(I)Z"⟩ ∈ tables_1 := tA_0.2.2.2.2.2.2.2.2.2.1
theorem ta_313 : Cond.privateMethod ⟨"MarkToBoard", "number", "(II)I"⟩ ∈ tables_1 := tA_0.2.2.2.2.2.2.2.2.2.2.1
theorem ta_314 : Cond.instanceMethod ⟨"MarkToBoard", "number", "(II)I"⟩ ∈ tables_1 := tA_0.2.2.2.2.2.2.2.2.2.2.2.1
theorem ta_317 : Cond.privateMethod ⟨"MarkToBoard", "stridesCome", "(I)Z"⟩ ∈ tables_1 := tA_0.2.2.2.2.2.2.2.2.2.2.2.2.1
theorem ta_318 : Cond.instanceMethod ⟨"MarkToBoard", "stridesCome", "(I)Z"⟩ ∈ tables_1 := tA_0.2.2.2.2.2.2.2.2.2.2.2.2.2.1
theorem ta_321 : Cond.privateMethod ⟨"MarkToBoard", "isMinus", "(I)Z"⟩ ∈ tables_1 := tA_0.2.2.2.2.2.2.2.2.2.2.2.2.2.2.1
theorem ta_322 : Cond.instanceMethod ⟨"MarkToBoard", "isMinus", "(I)Z"⟩ ∈ tables_1 := tA_0.2.2.2.2.2.2.2.2.2.2.2.2.2.2.2.1
theorem ta_325 : Cond.privateMethod ⟨"MarkToBoard", "windComes", "(ZI)Z"⟩ ∈ tables_1 := tA_0.2.2.2.2.2.2.2.2.2.2.2.2.2.2.2.2.1
theorem ta_326 : Cond.instanceMethod ⟨"MarkToBoard", "windComes", "(ZI)Z"⟩ ∈ tables_1 := tA_0.2.2.2.2.2.2.2.2.2.2.2.2.2.2.2.2.2.1
theorem ta_329 : Cond.privateMethod ⟨"MarkToBoard", "goOnComes", "(I)Z"⟩ ∈ tables_1 := tA_0.2.2.2.2.2.2.2.2.2.2.2.2.2.2.2.2.2.2.1
theorem ta_330 : Cond.instanceMethod ⟨"MarkToBoard", "goOnComes", "(I)Z"⟩ ∈ tables_1 := tA_0.2.2.2.2.2.2.2.2.2.2.2.2.2.2.2.2.2.2.2.1
theorem ta_333 : Cond.privateMethod ⟨"MarkToBoard", "jumperComes", "(I)Z"⟩ ∈ tables_1 := tA_0.2.2.2.2.2.2.2.2.2.2.2.2.2.2.2.2.2.2.2.2.1
theorem ta_334 : Cond.instanceMethod ⟨"MarkToBoard", "jumperComes", "(I)Z"⟩ ∈ tables_1 := tA_0.2.2.2.2.2.2.2.2.2.2.2.2.2.2.2.2.2.2.2.2.2.1
theorem ta_341 : Cond.privateMethod ⟨"MarkToBoard", "tryComes", "(I)Z"⟩ ∈ tables_1 := tA_0.2.2.2.2.2.2.2.2.2.2.2.2.2.2.2.2.2.2.2.2.2.2.1
theorem ta_342 : Cond.instanceMethod ⟨"MarkToBoard", "tryComes", "(I)Z"⟩ ∈ tables_1 := tA_0.2.2.2.2.2.2.2.2.2.2.2.2.2.2.2.2.2.2.2.2.2.2.2.1
theorem ta_427 : Cond.privateMethod ⟨"MarkToBoard", "nobody", "(I)I"⟩ ∈ tables_1 := tA_0.2.2.2.2.2.2.2.2.2.2.2.2.2.2.2.2.2.2.2.2.2.2.2.2.1
theorem ta_428 : Cond.instanceMethod ⟨"MarkToBoard", "nobody", "(I)I"⟩ ∈ tables_1 := tA_0.2.2.2.2.2.2.2.2.2.2.2.2.2.2.2.2.2.2.2.2.2.2.2.2.2.1
theorem ta_517 : Cond.privateMethod ⟨"MarkToBoard", "placeOf", "(I)I"⟩ ∈ tables_1 := tA_0.2.2.2.2.2.2.2.2.2.2.2.2.2.2.2.2.2.2.2.2.2.2.2.2.2.2.1
theorem ta_518 : Cond.instanceMethod ⟨"MarkToBoard", "placeOf", "(I)I"⟩ ∈ tables_1 := tA_0.2.2.2.2.2.2.2.2.2.2.2.2.2.2.2.2.2.2.2.2.2.2.2.2.2.2.2.1
theorem ta_542 : Cond.privateMethod ⟨"MarkToBoard", "spreadNow", "(II)V"⟩ ∈ tables_1 := tA_0.2.2.2.2.2.2.2.2.2.2.2.2.2.2.2.2.2.2.2.2.2.2.2.2.2.2.2.2.1
theorem ta_543 : Cond.instanceMethod ⟨"MarkToBoard", "spreadNow", "(II)V"⟩ ∈ tables_1 := tA_0.2.2.2.2.2.2.2.2.2.2.2.2.2.2.2.2.2.2.2.2.2.2.2.2.2.2.2.2.2.1
theorem ta_557 : Cond.privateMethod ⟨"MarkToBoard$Chances", "spreadLast", "(LMarkToBoard$Jumper;IIIIJ)V"⟩ ∈ tables_1 := tA_0.2.2.2.2.2.2.2.2.2.2.2.2.2.2.2.2.2.2.2.2.2.2.2.2.2.2.2.2.2.2.1
theorem ta_558 : Cond.instanceMethod ⟨"MarkToBoard$Chances", "spreadLast", "(LMarkToBoard$Jumper;IIIIJ)V"⟩ ∈ tables_1 := tA_0.2.2.2.2.2.2.2.2.2.2.2.2.2.2.2.2.2.2.2.2.2.2.2.2.2.2.2.2.2.2.2.1
theorem tA_1 : ta_P [(0, Cond.privateMethod ⟨"MarkToBoard", "spreadAt", "(LMarkToBoard$Jumper;I)V"⟩), (0, Cond.instanceMethod ⟨"MarkToBoard", "spreadAt", "(LMarkToBoard$Jumper;I)V"⟩), (20, Cond.privateMethod ⟨"MarkToBoard", "notInTurn", "(I)I"⟩), (0, Cond.instanceMethod ⟨"MarkToBoard", "notInTurn", "(I)I"⟩), (23, Cond.privateMethod ⟨"MarkToBoard", "leastFor", "(II)I"⟩), (0, Cond.instanceMethod ⟨"MarkToBoard", "leastFor", "(II)I"⟩), (40, Cond.privateMethod ⟨"MarkToBoard", "greatestFrom", "(I)I"⟩), (0, Cond.instanceMethod ⟨"MarkToBoard", "greatestFrom", "(I)I"⟩), (2, Cond.privateMethod ⟨"MarkToBoard", "leastAhead", "(I)I"⟩), (0, Cond.instanceMethod ⟨"MarkToBoard", "leastAhead", "(I)I"⟩), (24, Cond.privateMethod ⟨"MarkToBoard", "judged", "()I"⟩), (0, Cond.instanceMethod ⟨"MarkToBoard", "judged", "()I"⟩), (10, Cond.privateMethod ⟨"MarkToBoard", "playToTheEnd", "(I)I"⟩), (0, Cond.instanceMethod ⟨"MarkToBoard", "playToTheEnd", "(I)I"⟩), (2, Cond.privateMethod ⟨"MarkToBoard", "runByDraws", "(I)I"⟩), (0, Cond.instanceMethod ⟨"MarkToBoard", "runByDraws", "(I)I"⟩), (4, Cond.privateMethod ⟨"MarkToBoard", "drawBelow", "(I)I"⟩), (0, Cond.instanceMethod ⟨"MarkToBoard", "drawBelow", "(I)I"⟩), (13, Cond.privateMethod ⟨"MarkToBoard", "nobodyOfTwo", "(II)I"⟩), (0, Cond.instanceMethod ⟨"MarkToBoard", "nobodyOfTwo", "(II)I"⟩), (2, Cond.privateMethod ⟨"MarkToBoard", "fillParts", "([III)V"⟩), (0, Cond.instanceMethod ⟨"MarkToBoard", "fillParts", "([III)V"⟩), (2, Cond.privateMethod ⟨"MarkToBoard", "moreByParts", "()I"⟩), (0, Cond.instanceMethod ⟨"MarkToBoard", "moreByParts", "()I"⟩), (7, Cond.privateMethod ⟨"MarkToBoard", "sure", "()I"⟩), (0, Cond.instanceMethod ⟨"MarkToBoard", "sure", "()I"⟩), (2, Cond.privateMethod ⟨"MarkToBoard", "leastOfRow", "(I)I"⟩), (0, Cond.instanceMethod ⟨"MarkToBoard", "leastOfRow", "(I)I"⟩), (2, Cond.privateMethod ⟨"MarkToBoard", "calmPair", "(I)I"⟩), (0, Cond.instanceMethod ⟨"MarkToBoard", "calmPair", "(I)I"⟩), (2, Cond.privateMethod ⟨"MarkToBoard", "mostOfColumn", "(I)I"⟩), (0, Cond.instanceMethod ⟨"MarkToBoard", "mostOfColumn", "(I)I"⟩)] := ta_in 588 (by decide +kernel)
theorem ta_588 : Cond.privateMethod ⟨"MarkToBoard", "spreadAt", "(LMarkToBoard$Jumper;I)V"⟩ ∈ tables_1 := tA_1.1
theorem ta_589 : Cond.instanceMethod ⟨"MarkToBoard", "spreadAt", "(LMarkToBoard$Jumper;I)V"⟩ ∈ tables_1 := tA_1.2.1
theorem ta_610 : Cond.privateMethod ⟨"MarkToBoard", "notInTurn", "(I)I"⟩ ∈ tables_1 := tA_1.2.2.1
theorem ta_611 : Cond.instanceMethod ⟨"MarkToBoard", "notInTurn", "(I)I"⟩ ∈ tables_1 := tA_1.2.2.2.1
theorem ta_635 : Cond.privateMethod ⟨"MarkToBoard", "leastFor", "(II)I"⟩ ∈ tables_1 := tA_1.2.2.2.2.1
theorem ta_636 : Cond.instanceMethod ⟨"MarkToBoard", "leastFor", "(II)I"⟩ ∈ tables_1 := tA_1.2.2.2.2.2.1
theorem ta_677 : Cond.privateMethod ⟨"MarkToBoard", "greatestFrom", "(I)I"⟩ ∈ tables_1 := tA_1.2.2.2.2.2.2.1
theorem ta_678 : Cond.instanceMethod ⟨"MarkToBoard", "greatestFrom", "(I)I"⟩ ∈ tables_1 := tA_1.2.2.2.2.2.2.2.1
theorem ta_681 : Cond.privateMethod ⟨"MarkToBoard", "leastAhead", "(I)I"⟩ ∈ tables_1 := tA_1.2.2.2.2.2.2.2.2.1
theorem ta_682 : Cond.instanceMethod ⟨"MarkToBoard", "leastAhead", "(I)I"⟩ ∈ tables_1 := tA_1.2.2.2.2.2.2.2.2.2.1
theorem ta_707 : Cond.privateMethod ⟨"MarkToBoard", "judged", "()I"⟩ ∈ tables_1 := tA_1.2.2.2.2.2.2.2.2.2.2.1
theorem ta_708 : Cond.instanceMethod ⟨"MarkToBoard", "judged", "()I"⟩ ∈ tables_1 := tA_1.2.2.2.2.2.2.2.2.2.2.2.1
theorem ta_719 : Cond.privateMethod ⟨"MarkToBoard", "playToTheEnd", "(I)I"⟩ ∈ tables_1 := tA_1.2.2.2.2.2.2.2.2.2.2.2.2.1
theorem ta_720 : Cond.instanceMethod ⟨"MarkToBoard", "playToTheEnd", "(I)I"⟩ ∈ tables_1 := tA_1.2.2.2.2.2.2.2.2.2.2.2.2.2.1
theorem ta_723 : Cond.privateMethod ⟨"MarkToBoard", "runByDraws", "(I)I"⟩ ∈ tables_1 := tA_1.2.2.2.2.2.2.2.2.2.2.2.2.2.2.1
theorem ta_724 : Cond.instanceMethod ⟨"MarkToBoard", "runByDraws", "(I)I"⟩ ∈ tables_1 := tA_1.2.2.2.2.2.2.2.2.2.2.2.2.2.2.2.1
theorem ta_729 : Cond.privateMethod ⟨"MarkToBoard", "drawBelow", "(I)I"⟩ ∈ tables_1 := tA_1.2.2.2.2.2.2.2.2.2.2.2.2.2.2.2.2.1
theorem ta_730 : Cond.instanceMethod ⟨"MarkToBoard", "drawBelow", "(I)I"⟩ ∈ tables_1 := tA_1.2.2.2.2.2.2.2.2.2.2.2.2.2.2.2.2.2.1
theorem ta_744 : Cond.privateMethod ⟨"MarkToBoard", "nobodyOfTwo", "(II)I"⟩ ∈ tables_1 := tA_1.2.2.2.2.2.2.2.2.2.2.2.2.2.2.2.2.2.2.1
theorem ta_745 : Cond.instanceMethod ⟨"MarkToBoard", "nobodyOfTwo", "(II)I"⟩ ∈ tables_1 := tA_1.2.2.2.2.2.2.2.2.2.2.2.2.2.2.2.2.2.2.2.1
theorem ta_748 : Cond.privateMethod ⟨"MarkToBoard", "fillParts", "([III)V"⟩ ∈ tables_1 := tA_1.2.2.2.2.2.2.2.2.2.2.2.2.2.2.2.2.2.2.2.2.1
theorem ta_749 : Cond.instanceMethod ⟨"MarkToBoard", "fillParts", "([III)V"⟩ ∈ tables_1 := tA_1.2.2.2.2.2.2.2.2.2.2.2.2.2.2.2.2.2.2.2.2.2.1
theorem ta_752 : Cond.privateMethod ⟨"MarkToBoard", "moreByParts", "()I"⟩ ∈ tables_1 := tA_1.2.2.2.2.2.2.2.2.2.2.2.2.2.2.2.2.2.2.2.2.2.2.1
theorem ta_753 : Cond.instanceMethod ⟨"MarkToBoard", "moreByParts", "()I"⟩ ∈ tables_1 := tA_1.2.2.2.2.2.2.2.2.2.2.2.2.2.2.2.2.2.2.2.2.2.2.2.1
theorem ta_761 : Cond.privateMethod ⟨"MarkToBoard", "sure", "()I"⟩ ∈ tables_1 := tA_1.2.2.2.2.2.2.2.2.2.2.2.2.2.2.2.2.2.2.2.2.2.2.2.2.1
theorem ta_762 : Cond.instanceMethod ⟨"MarkToBoard", "sure", "()I"⟩ ∈ tables_1 := tA_1.2.2.2.2.2.2.2.2.2.2.2.2.2.2.2.2.2.2.2.2.2.2.2.2.2.1
theorem ta_765 : Cond.privateMethod ⟨"MarkToBoard", "leastOfRow", "(I)I"⟩ ∈ tables_1 := tA_1.2.2.2.2.2.2.2.2.2.2.2.2.2.2.2.2.2.2.2.2.2.2.2.2.2.2.1
theorem ta_766 : Cond.instanceMethod ⟨"MarkToBoard", "leastOfRow", "(I)I"⟩ ∈ tables_1 := tA_1.2.2.2.2.2.2.2.2.2.2.2.2.2.2.2.2.2.2.2.2.2.2.2.2.2.2.2.1
theorem ta_769 : Cond.privateMethod ⟨"MarkToBoard", "calmPair", "(I)I"⟩ ∈ tables_1 := tA_1.2.2.2.2.2.2.2.2.2.2.2.2.2.2.2.2.2.2.2.2.2.2.2.2.2.2.2.2.1
theorem ta_770 : Cond.instanceMethod ⟨"MarkToBoard", "calmPair", "(I)I"⟩ ∈ tables_1 := tA_1.2.2.2.2.2.2.2.2.2.2.2.2.2.2.2.2.2.2.2.2.2.2.2.2.2.2.2.2.2.1
theorem ta_773 : Cond.privateMethod ⟨"MarkToBoard", "mostOfColumn", "(I)I"⟩ ∈ tables_1 := tA_1.2.2.2.2.2.2.2.2.2.2.2.2.2.2.2.2.2.2.2.2.2.2.2.2.2.2.2.2.2.2.1
theorem ta_774 : Cond.instanceMethod ⟨"MarkToBoard", "mostOfColumn", "(I)I"⟩ ∈ tables_1 := tA_1.2.2.2.2.2.2.2.2.2.2.2.2.2.2.2.2.2.2.2.2.2.2.2.2.2.2.2.2.2.2.2.1
theorem tA_2 : ta_P [(0, Cond.privateMethod ⟨"MarkToBoard", "practised", "(I)Z"⟩), (0, Cond.instanceMethod ⟨"MarkToBoard", "practised", "(I)Z"⟩), (2, Cond.privateMethod ⟨"MarkToBoard", "meanAt", "(I)J"⟩), (0, Cond.instanceMethod ⟨"MarkToBoard", "meanAt", "(I)J"⟩), (29, Cond.privateMethod ⟨"MarkToBoard", "fullLength", "(I)I"⟩), (0, Cond.instanceMethod ⟨"MarkToBoard", "fullLength", "(I)I"⟩), (22, Cond.instantiable "MarkToBoardModel" 41), (136, Cond.privateMethod ⟨"MarkToBoardModel", "no", "(I)I"⟩), (0, Cond.instanceMethod ⟨"MarkToBoardModel", "no", "(I)I"⟩), (6, Cond.privateMethod ⟨"MarkToBoardModel", "statement", "()Z"⟩), (0, Cond.instanceMethod ⟨"MarkToBoardModel", "statement", "()Z"⟩), (2, Cond.privateMethod ⟨"MarkToBoardModel", "next", "()I"⟩), (0, Cond.instanceMethod ⟨"MarkToBoardModel", "next", "()I"⟩), (2, Cond.privateMethod ⟨"MarkToBoardModel", "readsAll", "(II)Z"⟩), (0, Cond.instanceMethod ⟨"MarkToBoardModel", "readsAll", "(II)Z"⟩), (2, Cond.privateMethod ⟨"MarkToBoardModel", "readsDigits", "(II)Z"⟩), (0, Cond.instanceMethod ⟨"MarkToBoardModel", "readsDigits", "(II)Z"⟩), (5, Cond.privateMethod ⟨"MarkToBoardModel", "readsWind", "(I)Z"⟩), (0, Cond.instanceMethod ⟨"MarkToBoardModel", "readsWind", "(I)Z"⟩), (2, Cond.privateMethod ⟨"MarkToBoardModel", "readsJumper", "(I)Z"⟩), (0, Cond.instanceMethod ⟨"MarkToBoardModel", "readsJumper", "(I)Z"⟩), (2, Cond.privateMethod ⟨"MarkToBoardModel", "passesAll", "(IZ)V"⟩), (0, Cond.instanceMethod ⟨"MarkToBoardModel", "passesAll", "(IZ)V"⟩), (2, Cond.privateMethod ⟨"MarkToBoardModel", "passes", "([I)V"⟩), (0, Cond.instanceMethod ⟨"MarkToBoardModel", "passes", "([I)V"⟩), (2, Cond.privateMethod ⟨"MarkToBoardModel", "passOne", "(I)I"⟩), (0, Cond.instanceMethod ⟨"MarkToBoardModel", "passOne", "(I)I"⟩), (2, Cond.privateMethod ⟨"MarkToBoardModel", "comes", "(I)Z"⟩), (0, Cond.instanceMethod ⟨"MarkToBoardModel", "comes", "(I)Z"⟩), (2, Cond.privateMethod ⟨"MarkToBoardModel", "comesJumper", "(I)Z"⟩), (0, Cond.instanceMethod ⟨"MarkToBoardModel", "comesJumper", "(I)Z"⟩), (2, Cond.privateMethod ⟨"MarkToBoardModel", "turnNow", "()I"⟩)] := ta_in 781 (by decide +kernel)
theorem ta_781 : Cond.privateMethod ⟨"MarkToBoard", "practised", "(I)Z"⟩ ∈ tables_1 := tA_2.1
theorem ta_782 : Cond.instanceMethod ⟨"MarkToBoard", "practised", "(I)Z"⟩ ∈ tables_1 := tA_2.2.1
theorem ta_785 : Cond.privateMethod ⟨"MarkToBoard", "meanAt", "(I)J"⟩ ∈ tables_1 := tA_2.2.2.1
theorem ta_786 : Cond.instanceMethod ⟨"MarkToBoard", "meanAt", "(I)J"⟩ ∈ tables_1 := tA_2.2.2.2.1
theorem ta_816 : Cond.privateMethod ⟨"MarkToBoard", "fullLength", "(I)I"⟩ ∈ tables_1 := tA_2.2.2.2.2.1
theorem ta_817 : Cond.instanceMethod ⟨"MarkToBoard", "fullLength", "(I)I"⟩ ∈ tables_1 := tA_2.2.2.2.2.2.1
theorem ta_840 : Cond.instantiable "MarkToBoardModel" 41 ∈ tables_1 := tA_2.2.2.2.2.2.2.1
theorem ta_977 : Cond.privateMethod ⟨"MarkToBoardModel", "no", "(I)I"⟩ ∈ tables_1 := tA_2.2.2.2.2.2.2.2.1
theorem ta_978 : Cond.instanceMethod ⟨"MarkToBoardModel", "no", "(I)I"⟩ ∈ tables_1 := tA_2.2.2.2.2.2.2.2.2.1
theorem ta_985 : Cond.privateMethod ⟨"MarkToBoardModel", "statement", "()Z"⟩ ∈ tables_1 := tA_2.2.2.2.2.2.2.2.2.2.1
theorem ta_986 : Cond.instanceMethod ⟨"MarkToBoardModel", "statement", "()Z"⟩ ∈ tables_1 := tA_2.2.2.2.2.2.2.2.2.2.2.1
theorem ta_989 : Cond.privateMethod ⟨"MarkToBoardModel", "next", "()I"⟩ ∈ tables_1 := tA_2.2.2.2.2.2.2.2.2.2.2.2.1
theorem ta_990 : Cond.instanceMethod ⟨"MarkToBoardModel", "next", "()I"⟩ ∈ tables_1 := tA_2.2.2.2.2.2.2.2.2.2.2.2.2.1
theorem ta_993 : Cond.privateMethod ⟨"MarkToBoardModel", "readsAll", "(II)Z"⟩ ∈ tables_1 := tA_2.2.2.2.2.2.2.2.2.2.2.2.2.2.1
theorem ta_994 : Cond.instanceMethod ⟨"MarkToBoardModel", "readsAll", "(II)Z"⟩ ∈ tables_1 := tA_2.2.2.2.2.2.2.2.2.2.2.2.2.2.2.1
theorem ta_997 : Cond.privateMethod ⟨"MarkToBoardModel", "readsDigits", "(II)Z"⟩ ∈ tables_1 := tA_2.2.2.2.2.2.2.2.2.2.2.2.2.2.2.2.1
theorem ta_998 : Cond.instanceMethod ⟨"MarkToBoardModel", "readsDigits", "(II)Z"⟩ ∈ tables_1 := tA_2.2.2.2.2.2.2.2.2.2.2.2.2.2.2.2.2.1
theorem ta_1004 : Cond.privateMethod ⟨"MarkToBoardModel", "readsWind", "(I)Z"⟩ ∈ tables_1 := tA_2.2.2.2.2.2.2.2.2.2.2.2.2.2.2.2.2.2.1
theorem ta_1005 : Cond.instanceMethod ⟨"MarkToBoardModel", "readsWind", "(I)Z"⟩ ∈ tables_1 := tA_2.2.2.2.2.2.2.2.2.2.2.2.2.2.2.2.2.2.2.1
theorem ta_1008 : Cond.privateMethod ⟨"MarkToBoardModel", "readsJumper", "(I)Z"⟩ ∈ tables_1 := tA_2.2.2.2.2.2.2.2.2.2.2.2.2.2.2.2.2.2.2.2.1
theorem ta_1009 : Cond.instanceMethod ⟨"MarkToBoardModel", "readsJumper", "(I)Z"⟩ ∈ tables_1 := tA_2.2.2.2.2.2.2.2.2.2.2.2.2.2.2.2.2.2.2.2.2.1
theorem ta_1012 : Cond.privateMethod ⟨"MarkToBoardModel", "passesAll", "(IZ)V"⟩ ∈ tables_1 := tA_2.2.2.2.2.2.2.2.2.2.2.2.2.2.2.2.2.2.2.2.2.2.1
theorem ta_1013 : Cond.instanceMethod ⟨"MarkToBoardModel", "passesAll", "(IZ)V"⟩ ∈ tables_1 := tA_2.2.2.2.2.2.2.2.2.2.2.2.2.2.2.2.2.2.2.2.2.2.2.1
theorem ta_1016 : Cond.privateMethod ⟨"MarkToBoardModel", "passes", "([I)V"⟩ ∈ tables_1 := tA_2.2.2.2.2.2.2.2.2.2.2.2.2.2.2.2.2.2.2.2.2.2.2.2.1
theorem ta_1017 : Cond.instanceMethod ⟨"MarkToBoardModel", "passes", "([I)V"⟩ ∈ tables_1 := tA_2.2.2.2.2.2.2.2.2.2.2.2.2.2.2.2.2.2.2.2.2.2.2.2.2.1
theorem ta_1020 : Cond.privateMethod ⟨"MarkToBoardModel", "passOne", "(I)I"⟩ ∈ tables_1 := tA_2.2.2.2.2.2.2.2.2.2.2.2.2.2.2.2.2.2.2.2.2.2.2.2.2.2.1
theorem ta_1021 : Cond.instanceMethod ⟨"MarkToBoardModel", "passOne", "(I)I"⟩ ∈ tables_1 := tA_2.2.2.2.2.2.2.2.2.2.2.2.2.2.2.2.2.2.2.2.2.2.2.2.2.2.2.1
theorem ta_1024 : Cond.privateMethod ⟨"MarkToBoardModel", "comes", "(I)Z"⟩ ∈ tables_1 := tA_2.2.2.2.2.2.2.2.2.2.2.2.2.2.2.2.2.2.2.2.2.2.2.2.2.2.2.2.1
theorem ta_1025 : Cond.instanceMethod ⟨"MarkToBoardModel", "comes", "(I)Z"⟩ ∈ tables_1 := tA_2.2.2.2.2.2.2.2.2.2.2.2.2.2.2.2.2.2.2.2.2.2.2.2.2.2.2.2.2.1
theorem ta_1028 : Cond.privateMethod ⟨"MarkToBoardModel", "comesJumper", "(I)Z"⟩ ∈ tables_1 := tA_2.2.2.2.2.2.2.2.2.2.2.2.2.2.2.2.2.2.2.2.2.2.2.2.2.2.2.2.2.2.1
theorem ta_1029 : Cond.instanceMethod ⟨"MarkToBoardModel", "comesJumper", "(I)Z"⟩ ∈ tables_1 := tA_2.2.2.2.2.2.2.2.2.2.2.2.2.2.2.2.2.2.2.2.2.2.2.2.2.2.2.2.2.2.2.1
theorem ta_1032 : Cond.privateMethod ⟨"MarkToBoardModel", "turnNow", "()I"⟩ ∈ tables_1 := tA_2.2.2.2.2.2.2.2.2.2.2.2.2.2.2.2.2.2.2.2.2.2.2.2.2.2.2.2.2.2.2.2.1
theorem tA_3 : ta_P [(0, Cond.instanceMethod ⟨"MarkToBoardModel", "turnNow", "()I"⟩), (2, Cond.privateMethod ⟨"MarkToBoardModel", "finalists", "()I"⟩), (0, Cond.instanceMethod ⟨"MarkToBoardModel", "finalists", "()I"⟩), (2, Cond.privateMethod ⟨"MarkToBoardModel", "findBest", "(II)V"⟩), (0, Cond.instanceMethod ⟨"MarkToBoardModel", "findBest", "(II)V"⟩), (2, Cond.privateMethod ⟨"MarkToBoardModel", "triedAs", "(II)I"⟩), (0, Cond.instanceMethod ⟨"MarkToBoardModel", "triedAs", "(II)I"⟩), (2, Cond.privateMethod ⟨"MarkToBoardModel", "lengthOf", "(III)I"⟩), (0, Cond.instanceMethod ⟨"MarkToBoardModel", "lengthOf", "(III)I"⟩), (5, Cond.privateMethod ⟨"MarkToBoardModel", "comesLength", "(II)V"⟩), (0, Cond.instanceMethod ⟨"MarkToBoardModel", "comesLength", "(II)V"⟩), (2, Cond.privateMethod ⟨"MarkToBoardModel", "sorts", "()V"⟩), (0, Cond.instanceMethod ⟨"MarkToBoardModel", "sorts", "()V"⟩), (2, Cond.privateMethod ⟨"MarkToBoardModel", "isAhead", "(II)Z"⟩), (0, Cond.instanceMethod ⟨"MarkToBoardModel", "isAhead", "(II)Z"⟩), (2, Cond.privateMethod ⟨"MarkToBoardModel", "comesTry", "(II)Z"⟩), (0, Cond.instanceMethod ⟨"MarkToBoardModel", "comesTry", "(II)Z"⟩), (2, Cond.privateMethod ⟨"MarkToBoardModel", "putsTry", "(III)V"⟩), (0, Cond.instanceMethod ⟨"MarkToBoardModel", "putsTry", "(III)V"⟩), (14, Cond.privateMethod ⟨"MarkToBoardModel", "isJumper", "(I)Z"⟩), (0, Cond.instanceMethod ⟨"MarkToBoardModel", "isJumper", "(I)Z"⟩), (2, Cond.privateMethod ⟨"MarkToBoardModel", "aimOf", "(I)I"⟩), (0, Cond.instanceMethod ⟨"MarkToBoardModel", "aimOf", "(I)I"⟩), (2, Cond.privateMethod ⟨"MarkToBoardModel", "triesOf", "(I)I"⟩), (0, Cond.instanceMethod ⟨"MarkToBoardModel", "triesOf", "(I)I"⟩), (18, Cond.privateMethod ⟨"MarkToBoardModel", "lower", "(I)I"⟩), (0, Cond.instanceMethod ⟨"MarkToBoardModel", "lower", "(I)I"⟩), (7, Cond.privateMethod ⟨"MarkToBoardModel", "strideIn", "(III)I"⟩), (0, Cond.instanceMethod ⟨"MarkToBoardModel", "strideIn", "(III)I"⟩), (6, Cond.privateMethod ⟨"MarkToBoardModel", "placeOf", "(I)I"⟩), (0, Cond.instanceMethod ⟨"MarkToBoardModel", "placeOf", "(I)I"⟩), (2, Cond.privateMethod ⟨"MarkToBoardModel", "allStrides", "(II)I"⟩)] := ta_in 1033 (by decide +kernel)
theorem ta_1033 : Cond.instanceMethod ⟨"MarkToBoardModel", "turnNow", "()I"⟩ ∈ tables_1 := tA_3.1
theorem ta_1036 : Cond.privateMethod ⟨"MarkToBoardModel", "finalists", "()I"⟩ ∈ tables_1 := tA_3.2.1
theorem ta_1037 : Cond.instanceMethod ⟨"MarkToBoardModel", "finalists", "()I"⟩ ∈ tables_1 := tA_3.2.2.1
theorem ta_1040 : Cond.privateMethod ⟨"MarkToBoardModel", "findBest", "(II)V"⟩ ∈ tables_1 := tA_3.2.2.2.1
theorem ta_1041 : Cond.instanceMethod ⟨"MarkToBoardModel", "findBest", "(II)V"⟩ ∈ tables_1 := tA_3.2.2.2.2.1
theorem ta_1044 : Cond.privateMethod ⟨"MarkToBoardModel", "triedAs", "(II)I"⟩ ∈ tables_1 := tA_3.2.2.2.2.2.1
theorem ta_1045 : Cond.instanceMethod ⟨"MarkToBoardModel", "triedAs", "(II)I"⟩ ∈ tables_1 := tA_3.2.2.2.2.2.2.1
theorem ta_1048 : Cond.privateMethod ⟨"MarkToBoardModel", "lengthOf", "(III)I"⟩ ∈ tables_1 := tA_3.2.2.2.2.2.2.2.1
theorem ta_1049 : Cond.instanceMethod ⟨"MarkToBoardModel", "lengthOf", "(III)I"⟩ ∈ tables_1 := tA_3.2.2.2.2.2.2.2.2.1
theorem ta_1055 : Cond.privateMethod ⟨"MarkToBoardModel", "comesLength", "(II)V"⟩ ∈ tables_1 := tA_3.2.2.2.2.2.2.2.2.2.1
theorem ta_1056 : Cond.instanceMethod ⟨"MarkToBoardModel", "comesLength", "(II)V"⟩ ∈ tables_1 := tA_3.2.2.2.2.2.2.2.2.2.2.1
theorem ta_1059 : Cond.privateMethod ⟨"MarkToBoardModel", "sorts", "()V"⟩ ∈ tables_1 := tA_3.2.2.2.2.2.2.2.2.2.2.2.1
theorem ta_1060 : Cond.instanceMethod ⟨"MarkToBoardModel", "sorts", "()V"⟩ ∈ tables_1 := tA_3.2.2.2.2.2.2.2.2.2.2.2.2.1
theorem ta_1063 : Cond.privateMethod ⟨"MarkToBoardModel", "isAhead", "(II)Z"⟩ ∈ tables_1 := tA_3.2.2.2.2.2.2.2.2.2.2.2.2.2.1
theorem ta_1064 : Cond.instanceMethod ⟨"MarkToBoardModel", "isAhead", "(II)Z"⟩ ∈ tables_1 := tA_3.2.2.2.2.2.2.2.2.2.2.2.2.2.2.1
theorem ta_1067 : Cond.privateMethod ⟨"MarkToBoardModel", "comesTry", "(II)Z"⟩ ∈ tables_1 := tA_3.2.2.2.2.2.2.2.2.2.2.2.2.2.2.2.1
theorem ta_1068 : Cond.instanceMethod ⟨"MarkToBoardModel", "comesTry", "(II)Z"⟩ ∈ tables_1 := tA_3.2.2.2.2.2.2.2.2.2.2.2.2.2.2.2.2.1
theorem ta_1071 : Cond.privateMethod ⟨"MarkToBoardModel", "putsTry", "(III)V"⟩ ∈ tables_1 := tA_3.2.2.2.2.2.2.2.2.2.2.2.2.2.2.2.2.2.1
theorem ta_1072 : Cond.instanceMethod ⟨"MarkToBoardModel", "putsTry", "(III)V"⟩ ∈ tables_1 := tA_3.2.2.2.2.2.2.2.2.2.2.2.2.2.2.2.2.2.2.1
theorem ta_1087 : Cond.privateMethod ⟨"MarkToBoardModel", "isJumper", "(I)Z"⟩ ∈ tables_1 := tA_3.2.2.2.2.2.2.2.2.2.2.2.2.2.2.2.2.2.2.2.1
theorem ta_1088 : Cond.instanceMethod ⟨"MarkToBoardModel", "isJumper", "(I)Z"⟩ ∈ tables_1 := tA_3.2.2.2.2.2.2.2.2.2.2.2.2.2.2.2.2.2.2.2.2.1
theorem ta_1091 : Cond.privateMethod ⟨"MarkToBoardModel", "aimOf", "(I)I"⟩ ∈ tables_1 := tA_3.2.2.2.2.2.2.2.2.2.2.2.2.2.2.2.2.2.2.2.2.2.1
theorem ta_1092 : Cond.instanceMethod ⟨"MarkToBoardModel", "aimOf", "(I)I"⟩ ∈ tables_1 := tA_3.2.2.2.2.2.2.2.2.2.2.2.2.2.2.2.2.2.2.2.2.2.2.1
theorem ta_1095 : Cond.privateMethod ⟨"MarkToBoardModel", "triesOf", "(I)I"⟩ ∈ tables_1 := tA_3.2.2.2.2.2.2.2.2.2.2.2.2.2.2.2.2.2.2.2.2.2.2.2.1
theorem ta_1096 : Cond.instanceMethod ⟨"MarkToBoardModel", "triesOf", "(I)I"⟩ ∈ tables_1 := tA_3.2.2.2.2.2.2.2.2.2.2.2.2.2.2.2.2.2.2.2.2.2.2.2.2.1
theorem ta_1115 : Cond.privateMethod ⟨"MarkToBoardModel", "lower", "(I)I"⟩ ∈ tables_1 := tA_3.2.2.2.2.2.2.2.2.2.2.2.2.2.2.2.2.2.2.2.2.2.2.2.2.2.1
theorem ta_1116 : Cond.instanceMethod ⟨"MarkToBoardModel", "lower", "(I)I"⟩ ∈ tables_1 := tA_3.2.2.2.2.2.2.2.2.2.2.2.2.2.2.2.2.2.2.2.2.2.2.2.2.2.2.1
theorem ta_1124 : Cond.privateMethod ⟨"MarkToBoardModel", "strideIn", "(III)I"⟩ ∈ tables_1 := tA_3.2.2.2.2.2.2.2.2.2.2.2.2.2.2.2.2.2.2.2.2.2.2.2.2.2.2.2.1
theorem ta_1125 : Cond.instanceMethod ⟨"MarkToBoardModel", "strideIn", "(III)I"⟩ ∈ tables_1 := tA_3.2.2.2.2.2.2.2.2.2.2.2.2.2.2.2.2.2.2.2.2.2.2.2.2.2.2.2.2.1
theorem ta_1132 : Cond.privateMethod ⟨"MarkToBoardModel", "placeOf", "(I)I"⟩ ∈ tables_1 := tA_3.2.2.2.2.2.2.2.2.2.2.2.2.2.2.2.2.2.2.2.2.2.2.2.2.2.2.2.2.2.1
theorem ta_1133 : Cond.instanceMethod ⟨"MarkToBoardModel", "placeOf", "(I)I"⟩ ∈ tables_1 := tA_3.2.2.2.2.2.2.2.2.2.2.2.2.2.2.2.2.2.2.2.2.2.2.2.2.2.2.2.2.2.2.1
theorem ta_1136 : Cond.privateMethod ⟨"MarkToBoardModel", "allStrides", "(II)I"⟩ ∈ tables_1 := tA_3.2.2.2.2.2.2.2.2.2.2.2.2.2.2.2.2.2.2.2.2.2.2.2.2.2.2.2.2.2.2.2.1
theorem tA_4 : ta_P [(0, Cond.instanceMethod ⟨"MarkToBoardModel", "allStrides", "(II)I"⟩), (10, Cond.privateMethod ⟨"MarkToBoardModel", "lowest", "(I)J"⟩), (0, Cond.instanceMethod ⟨"MarkToBoardModel", "lowest", "(I)J"⟩), (3, Cond.privateMethod ⟨"MarkToBoardModel", "counted", "(IIII)J"⟩), (0, Cond.instanceMethod ⟨"MarkToBoardModel", "counted", "(IIII)J"⟩), (5, Cond.privateMethod ⟨"MarkToBoardModel", "countedOne", "(IIIII)I"⟩), (0, Cond.instanceMethod ⟨"MarkToBoardModel", "countedOne", "(IIIII)I"⟩), (2, Cond.privateMethod ⟨"MarkToBoardModel", "allWays", "()J"⟩), (0, Cond.instanceMethod ⟨"MarkToBoardModel", "allWays", "()J"⟩), (12, Cond.privateMethod ⟨"MarkToBoardModel", "meanParts", "(I)J"⟩), (0, Cond.instanceMethod ⟨"MarkToBoardModel", "meanParts", "(I)J"⟩), (43, Cond.privateMethod ⟨"MarkToBoardModel", "isEnough", "(III)Z"⟩), (0, Cond.instanceMethod ⟨"MarkToBoardModel", "isEnough", "(III)Z"⟩), (2, Cond.privateMethod ⟨"MarkToBoardModel", "rankOf", "(I)I"⟩), (0, Cond.instanceMethod ⟨"MarkToBoardModel", "rankOf", "(I)I"⟩), (10, Cond.privateMethod ⟨"MarkToBoardModel", "leader", "()I"⟩), (0, Cond.instanceMethod ⟨"MarkToBoardModel", "leader", "()I"⟩), (2, Cond.privateMethod ⟨"MarkToBoardModel", "ranksNow", "()V"⟩), (0, Cond.instanceMethod ⟨"MarkToBoardModel", "ranksNow", "()V"⟩), (6, Cond.privateMethod ⟨"MarkToBoardModel", "goOnBits", "()I"⟩), (0, Cond.instanceMethod ⟨"MarkToBoardModel", "goOnBits", "()I"⟩), (6, Cond.privateMethod ⟨"MarkToBoardModel", "tenThousandths", "(IIII)I"⟩), (0, Cond.instanceMethod ⟨"MarkToBoardModel", "tenThousandths", "(IIII)I"⟩), (15, Cond.privateMethod ⟨"MarkToBoardModel", "isMovedFrom", "(II)Z"⟩), (0, Cond.instanceMethod ⟨"MarkToBoardModel", "isMovedFrom", "(II)Z"⟩), (10, Cond.privateMethod ⟨"MarkToBoardModel", "roundNow", "()I"⟩), (0, Cond.instanceMethod ⟨"MarkToBoardModel", "roundNow", "()I"⟩), (10, Cond.privateMethod ⟨"MarkToBoardModel", "isOther", "(I)Z"⟩), (0, Cond.instanceMethod ⟨"MarkToBoardModel", "isOther", "(I)Z"⟩), (10, Cond.privateMethod ⟨"MarkToBoardModel", "findLengths", "(II[J)V"⟩), (0, Cond.instanceMethod ⟨"MarkToBoardModel", "findLengths", "(II[J)V"⟩), (2, Cond.privateMethod ⟨"MarkToBoardModel", "partOfWays", "(J)J"⟩)] := ta_in 1137 (by decide +kernel)
theorem ta_1137 : Cond.instanceMethod ⟨"MarkToBoardModel", "allStrides", "(II)I"⟩ ∈ tables_1 := tA_4.1
theorem ta_1148 : Cond.privateMethod ⟨"MarkToBoardModel", "lowest", "(I)J"⟩ ∈ tables_1 := tA_4.2.1
theorem ta_1149 : Cond.instanceMethod ⟨"MarkToBoardModel", "lowest", "(I)J"⟩ ∈ tables_1 := tA_4.2.2.1
theorem ta_1153 : Cond.privateMethod ⟨"MarkToBoardModel", "counted", "(IIII)J"⟩ ∈ tables_1 := tA_4.2.2.2.1
theorem ta_1154 : Cond.instanceMethod ⟨"MarkToBoardModel", "counted", "(IIII)J"⟩ ∈ tables_1 := tA_4.2.2.2.2.1
theorem ta_1160 : Cond.privateMethod ⟨"MarkToBoardModel", "countedOne", "(IIIII)I"⟩ ∈ tables_1 := tA_4.2.2.2.2.2.1
theorem ta_1161 : Cond.instanceMethod ⟨"MarkToBoardModel", "countedOne", "(IIIII)I"⟩ ∈ tables_1 := tA_4.2.2.2.2.2.2.1
theorem ta_1164 : Cond.privateMethod ⟨"MarkToBoardModel", "allWays", "()J"⟩ ∈ tables_1 := tA_4.2.2.2.2.2.2.2.1
theorem ta_1165 : Cond.instanceMethod ⟨"MarkToBoardModel", "allWays", "()J"⟩ ∈ tables_1 := tA_4.2.2.2.2.2.2.2.2.1
theorem ta_1178 : Cond.privateMethod ⟨"MarkToBoardModel", "meanParts", "(I)J"⟩ ∈ tables_1 := tA_4.2.2.2.2.2.2.2.2.2.1
theorem ta_1179 : Cond.instanceMethod ⟨"MarkToBoardModel", "meanParts", "(I)J"⟩ ∈ tables_1 := tA_4.2.2.2.2.2.2.2.2.2.2.1
theorem ta_1223 : Cond.privateMethod ⟨"MarkToBoardModel", "isEnough", "(III)Z"⟩ ∈ tables_1 := tA_4.2.2.2.2.2.2.2.2.2.2.2.1
theorem ta_1224 : Cond.instanceMethod ⟨"MarkToBoardModel", "isEnough", "(III)Z"⟩ ∈ tables_1 := tA_4.2.2.2.2.2.2.2.2.2.2.2.2.1
theorem ta_1227 : Cond.privateMethod ⟨"MarkToBoardModel", "rankOf", "(I)I"⟩ ∈ tables_1 := tA_4.2.2.2.2.2.2.2.2.2.2.2.2.2.1
theorem ta_1228 : Cond.instanceMethod ⟨"MarkToBoardModel", "rankOf", "(I)I"⟩ ∈ tables_1 := tA_4.2.2.2.2.2.2.2.2.2.2.2.2.2.2.1
theorem ta_1239 : Cond.privateMethod ⟨"MarkToBoardModel", "leader", "()I"⟩ ∈ tables_1 := tA_4.2.2.2.2.2.2.2.2.2.2.2.2.2.2.2.1
theorem ta_1240 : Cond.instanceMethod ⟨"MarkToBoardModel", "leader", "()I"⟩ ∈ tables_1 := tA_4.2.2.2.2.2.2.2.2.2.2.2.2.2.2.2.2.1
theorem ta_1243 : Cond.privateMethod ⟨"MarkToBoardModel", "ranksNow", "()V"⟩ ∈ tables_1 := tA_4.2.2.2.2.2.2.2.2.2.2.2.2.2.2.2.2.2.1
theorem ta_1244 : Cond.instanceMethod ⟨"MarkToBoardModel", "ranksNow", "()V"⟩ ∈ tables_1 := tA_4.2.2.2.2.2.2.2.2.2.2.2.2.2.2.2.2.2.2.1
theorem ta_1251 : Cond.privateMethod ⟨"MarkToBoardModel", "goOnBits", "()I"⟩ ∈ tables_1 := tA_4.2.2.2.2.2.2.2.2.2.2.2.2.2.2.2.2.2.2.2.1
theorem ta_1252 : Cond.instanceMethod ⟨"MarkToBoardModel", "goOnBits", "()I"⟩ ∈ tables_1 := tA_4.2.2.2.2.2.2.2.2.2.2.2.2.2.2.2.2.2.2.2.2.1
theorem ta_1259 : Cond.privateMethod ⟨"MarkToBoardModel", "tenThousandths", "(IIII)I"⟩ ∈ tables_1 := tA_4.2.2.2.2.2.2.2.2.2.2.2.2.2.2.2.2.2.2.2.2.2.1
theorem ta_1260 : Cond.instanceMethod ⟨"MarkToBoardModel", "tenThousandths", "(IIII)I"⟩ ∈ tables_1 := tA_4.2.2.2.2.2.2.2.2.2.2.2.2.2.2.2.2.2.2.2.2.2.2.1
theorem ta_1276 : Cond.privateMethod ⟨"MarkToBoardModel", "isMovedFrom", "(II)Z"⟩ ∈ tables_1 := tA_4.2.2.2.2.2.2.2.2.2.2.2.2.2.2.2.2.2.2.2.2.2.2.2.1
theorem ta_1277 : Cond.instanceMethod ⟨"MarkToBoardModel", "isMovedFrom", "(II)Z"⟩ ∈ tables_1 := tA_4.2.2.2.2.2.2.2.2.2.2.2.2.2.2.2.2.2.2.2.2.2.2.2.2.1
theorem ta_1288 : Cond.privateMethod ⟨"MarkToBoardModel", "roundNow", "()I"⟩ ∈ tables_1 := tA_4.2.2.2.2.2.2.2.2.2.2.2.2.2.2.2.2.2.2.2.2.2.2.2.2.2.1
theorem ta_1289 : Cond.instanceMethod ⟨"MarkToBoardModel", "roundNow", "()I"⟩ ∈ tables_1 := tA_4.2.2.2.2.2.2.2.2.2.2.2.2.2.2.2.2.2.2.2.2.2.2.2.2.2.2.1
theorem ta_1300 : Cond.privateMethod ⟨"MarkToBoardModel", "isOther", "(I)Z"⟩ ∈ tables_1 := tA_4.2.2.2.2.2.2.2.2.2.2.2.2.2.2.2.2.2.2.2.2.2.2.2.2.2.2.2.1
theorem ta_1301 : Cond.instanceMethod ⟨"MarkToBoardModel", "isOther", "(I)Z"⟩ ∈ tables_1 := tA_4.2.2.2.2.2.2.2.2.2.2.2.2.2.2.2.2.2.2.2.2.2.2.2.2.2.2.2.2.1
theorem ta_1312 : Cond.privateMethod ⟨"MarkToBoardModel", "findLengths", "(II[J)V"⟩ ∈ tables_1 := tA_4.2.2.2.2.2.2.2.2.2.2.2.2.2.2.2.2.2.2.2.2.2.2.2.2.2.2.2.2.2.1
theorem ta_1313 : Cond.instanceMethod ⟨"MarkToBoardModel", "findLengths", "(II[J)V"⟩ ∈ tables_1 := tA_4.2.2.2.2.2.2.2.2.2.2.2.2.2.2.2.2.2.2.2.2.2.2.2.2.2.2.2.2.2.2.1
theorem ta_1316 : Cond.privateMethod ⟨"MarkToBoardModel", "partOfWays", "(J)J"⟩ ∈ tables_1 := tA_4.2.2.2.2.2.2.2.2.2.2.2.2.2.2.2.2.2.2.2.2.2.2.2.2.2.2.2.2.2.2.2.1
theorem tA_5 : ta_P [(0, Cond.instanceMethod ⟨"MarkToBoardModel", "partOfWays", "(J)J"⟩), (6, Cond.privateMethod ⟨"MarkToBoardModel", "areTwo", "(II)Z"⟩), (0, Cond.instanceMethod ⟨"MarkToBoardModel", "areTwo", "(II)Z"⟩), (2, Cond.privateMethod ⟨"MarkToBoardModel", "moreFrom", "(IIII)I"⟩), (0, Cond.instanceMethod ⟨"MarkToBoardModel", "moreFrom", "(IIII)I"⟩), (6, Cond.privateMethod ⟨"MarkToBoardModel", "sureMore", "()I"⟩), (0, Cond.instanceMethod ⟨"MarkToBoardModel", "sureMore", "()I"⟩), (2, Cond.privateMethod ⟨"MarkToBoardModel", "rests", "(I)Z"⟩), (0, Cond.instanceMethod ⟨"MarkToBoardModel", "rests", "(I)Z"⟩), (6, Cond.privateMethod ⟨"MarkToBoardModel", "canPractise", "(II)Z"⟩), (0, Cond.instanceMethod ⟨"MarkToBoardModel", "canPractise", "(II)Z"⟩), (2, Cond.privateMethod ⟨"MarkToBoardModel", "practises", "(III)V"⟩), (0, Cond.instanceMethod ⟨"MarkToBoardModel", "practises", "(III)V"⟩), (14, Cond.privateMethod ⟨"MarkToBoardModel", "triesBy", "(II)I"⟩), (0, Cond.instanceMethod ⟨"MarkToBoardModel", "triesBy", "(II)I"⟩), (22, Cond.privateMethod ⟨"MarkToBoardModel", "triesByLot", "(I)V"⟩), (0, Cond.instanceMethod ⟨"MarkToBoardModel", "triesByLot", "(I)V"⟩), (2, Cond.privateMethod ⟨"MarkToBoardModel", "drawnSlip", "(I)I"⟩), (0, Cond.instanceMethod ⟨"MarkToBoardModel", "drawnSlip", "(I)I"⟩), (9, Cond.privateMethod ⟨"MarkToBoardModel", "triesAs", "(I)I"⟩), (0, Cond.instanceMethod ⟨"MarkToBoardModel", "triesAs", "(I)I"⟩)] := ta_in 1317 (by decide +kernel)
theorem ta_1317 : Cond.instanceMethod ⟨"MarkToBoardModel", "partOfWays", "(J)J"⟩ ∈ tables_1 := tA_5.1
theorem ta_1324 : Cond.privateMethod ⟨"MarkToBoardModel", "areTwo", "(II)Z"⟩ ∈ tables_1 := tA_5.2.1
theorem ta_1325 : Cond.instanceMethod ⟨"MarkToBoardModel", "areTwo", "(II)Z"⟩ ∈ tables_1 := tA_5.2.2.1
theorem ta_1328 : Cond.privateMethod ⟨"MarkToBoardModel", "moreFrom", "(IIII)I"⟩ ∈ tables_1 := tA_5.2.2.2.1
theorem ta_1329 : Cond.instanceMethod ⟨"MarkToBoardModel", "moreFrom", "(IIII)I"⟩ ∈ tables_1 := tA_5.2.2.2.2.1
theorem ta_1336 : Cond.privateMethod ⟨"MarkToBoardModel", "sureMore", "()I"⟩ ∈ tables_1 := tA_5.2.2.2.2.2.1
theorem ta_1337 : Cond.instanceMethod ⟨"MarkToBoardModel", "sureMore", "()I"⟩ ∈ tables_1 := tA_5.2.2.2.2.2.2.1
theorem ta_1340 : Cond.privateMethod ⟨"MarkToBoardModel", "rests", "(I)Z"⟩ ∈ tables_1 := tA_5.2.2.2.2.2.2.2.1
theorem ta_1341 : Cond.instanceMethod ⟨"MarkToBoardModel", "rests", "(I)Z"⟩ ∈ tables_1 := tA_5.2.2.2.2.2.2.2.2.1
theorem ta_1348 : Cond.privateMethod ⟨"MarkToBoardModel", "canPractise", "(II)Z"⟩ ∈ tables_1 := tA_5.2.2.2.2.2.2.2.2.2.1
theorem ta_1349 : Cond.instanceMethod ⟨"MarkToBoardModel", "canPractise", "(II)Z"⟩ ∈ tables_1 := tA_5.2.2.2.2.2.2.2.2.2.2.1
theorem ta_1352 : Cond.privateMethod ⟨"MarkToBoardModel", "practises", "(III)V"⟩ ∈ tables_1 := tA_5.2.2.2.2.2.2.2.2.2.2.2.1
theorem ta_1353 : Cond.instanceMethod ⟨"MarkToBoardModel", "practises", "(III)V"⟩ ∈ tables_1 := tA_5.2.2.2.2.2.2.2.2.2.2.2.2.1
theorem ta_1368 : Cond.privateMethod ⟨"MarkToBoardModel", "triesBy", "(II)I"⟩ ∈ tables_1 := tA_5.2.2.2.2.2.2.2.2.2.2.2.2.2.1
theorem ta_1369 : Cond.instanceMethod ⟨"MarkToBoardModel", "triesBy", "(II)I"⟩ ∈ tables_1 := tA_5.2.2.2.2.2.2.2.2.2.2.2.2.2.2.1
theorem ta_1392 : Cond.privateMethod ⟨"MarkToBoardModel", "triesByLot", "(I)V"⟩ ∈ tables_1 := tA_5.2.2.2.2.2.2.2.2.2.2.2.2.2.2.2.1
theorem ta_1393 : Cond.instanceMethod ⟨"MarkToBoardModel", "triesByLot", "(I)V"⟩ ∈ tables_1 := tA_5.2.2.2.2.2.2.2.2.2.2.2.2.2.2.2.2.1
theorem ta_1396 : Cond.privateMethod ⟨"MarkToBoardModel", "drawnSlip", "(I)I"⟩ ∈ tables_1 := tA_5.2.2.2.2.2.2.2.2.2.2.2.2.2.2.2.2.2.1
theorem ta_1397 : Cond.instanceMethod ⟨"MarkToBoardModel", "drawnSlip", "(I)I"⟩ ∈ tables_1 := tA_5.2.2.2.2.2.2.2.2.2.2.2.2.2.2.2.2.2.2.1
theorem ta_1407 : Cond.privateMethod ⟨"MarkToBoardModel", "triesAs", "(I)I"⟩ ∈ tables_1 := tA_5.2.2.2.2.2.2.2.2.2.2.2.2.2.2.2.2.2.2.2.1
theorem ta_1408 : Cond.instanceMethod ⟨"MarkToBoardModel", "triesAs", "(I)I"⟩ ∈ tables_1 := tA_5.2.2.2.2.2.2.2.2.2.2.2.2.2.2.2.2.2.2.2.2.1
theorem lw_p0 : lw_okq (⟨"MarkToBoard", "refuse", "(I)I"⟩, 18) := ⟨ta_n0, ta_17, ta_279, ta_280⟩
theorem lw_p1 : lw_okq (⟨"MarkToBoard", "firstBadLetter", "()I"⟩, 18) := ⟨ta_n0, ta_17, ta_287, ta_288⟩
theorem lw_p2 : lw_okq (⟨"MarkToBoard", "statementsInMind", "()I"⟩, 18) := ⟨ta_n0, ta_17, ta_294, ta_295⟩
theorem lw_p3 : lw_okq (⟨"MarkToBoard", "comes", "(I)Z"⟩, 18) := ⟨ta_n0, ta_17, ta_309, ta_310⟩
theorem lw_p4 : lw_okq (⟨"MarkToBoard", "number", "(II)I"⟩, 18) := ⟨ta_n0, ta_17, ta_313, ta_314⟩
theorem lw_p5 : lw_okq (⟨"MarkToBoard", "stridesCome", "(I)Z"⟩, 18) := ⟨ta_n0, ta_17, ta_317, ta_318⟩
theorem lw_p6 : lw_okq (⟨"MarkToBoard", "isMinus", "(I)Z"⟩, 18) := ⟨ta_n0, ta_17, ta_321, ta_322⟩
theorem lw_p7 : lw_okq (⟨"MarkToBoard", "windComes", "(ZI)Z"⟩, 18) := ⟨ta_n0, ta_17, ta_325, ta_326⟩
theorem lw_p8 : lw_okq (⟨"MarkToBoard", "goOnComes", "(I)Z"⟩, 18) := ⟨ta_n0, ta_17, ta_329, ta_330⟩
theorem lw_p9 : lw_okq (⟨"MarkToBoard", "jumperComes", "(I)Z"⟩, 18) := ⟨ta_n0, ta_17, ta_333, ta_334⟩
theorem lw_p10 : lw_okq (⟨"MarkToBoard", "tryComes", "(I)Z"⟩, 18) := ⟨ta_n0, ta_17, ta_341, ta_342⟩
theorem lw_p11 : lw_okq (⟨"MarkToBoard", "nobody", "(I)I"⟩, 18) := ⟨ta_n0, ta_17, ta_427, ta_428⟩
theorem lw_p12 : lw_okq (⟨"MarkToBoard", "placeOf", "(I)I"⟩, 18) := ⟨ta_n0, ta_17, ta_517, ta_518⟩
theorem lw_p13 : lw_okq (⟨"MarkToBoard", "spreadNow", "(II)V"⟩, 18) := ⟨ta_n0, ta_17, ta_542, ta_543⟩
theorem lw_p14 : lw_okq (⟨"MarkToBoard$Chances", "spreadLast", "(LMarkToBoard$Jumper;IIIIJ)V"⟩, 5) := ⟨ta_n1, ta_44, ta_557, ta_558⟩
theorem lw_p15 : lw_okq (⟨"MarkToBoard", "spreadAt", "(LMarkToBoard$Jumper;I)V"⟩, 18) := ⟨ta_n0, ta_17, ta_588, ta_589⟩
def lw_privs_1 : List (MethodName × Nat) := [(⟨"MarkToBoard", "refuse", "(I)I"⟩, 18), (⟨"MarkToBoard", "firstBadLetter", "()I"⟩, 18), (⟨"MarkToBoard", "statementsInMind", "()I"⟩, 18), (⟨"MarkToBoard", "comes", "(I)Z"⟩, 18), (⟨"MarkToBoard", "number", "(II)I"⟩, 18), (⟨"MarkToBoard", "stridesCome", "(I)Z"⟩, 18), (⟨"MarkToBoard", "isMinus", "(I)Z"⟩, 18), (⟨"MarkToBoard", "windComes", "(ZI)Z"⟩, 18), (⟨"MarkToBoard", "goOnComes", "(I)Z"⟩, 18), (⟨"MarkToBoard", "jumperComes", "(I)Z"⟩, 18), (⟨"MarkToBoard", "tryComes", "(I)Z"⟩, 18), (⟨"MarkToBoard", "nobody", "(I)I"⟩, 18), (⟨"MarkToBoard", "placeOf", "(I)I"⟩, 18), (⟨"MarkToBoard", "spreadNow", "(II)V"⟩, 18), (⟨"MarkToBoard$Chances", "spreadLast", "(LMarkToBoard$Jumper;IIIIJ)V"⟩, 5), (⟨"MarkToBoard", "spreadAt", "(LMarkToBoard$Jumper;I)V"⟩, 18)]
theorem lw_r1 : ∀ q ∈ lw_privs_1, lw_okq q := List.forall_mem_cons.mpr ⟨lw_p0, List.forall_mem_cons.mpr ⟨lw_p1, List.forall_mem_cons.mpr ⟨lw_p2, List.forall_mem_cons.mpr ⟨lw_p3, List.forall_mem_cons.mpr ⟨lw_p4, List.forall_mem_cons.mpr ⟨lw_p5, List.forall_mem_cons.mpr ⟨lw_p6, List.forall_mem_cons.mpr ⟨lw_p7, List.forall_mem_cons.mpr ⟨lw_p8, List.forall_mem_cons.mpr ⟨lw_p9, List.forall_mem_cons.mpr ⟨lw_p10, List.forall_mem_cons.mpr ⟨lw_p11, List.forall_mem_cons.mpr ⟨lw_p12, List.forall_mem_cons.mpr ⟨lw_p13, List.forall_mem_cons.mpr ⟨lw_p14, List.forall_mem_cons.mpr ⟨lw_p15, fun _ h => absurd h List.not_mem_nil⟩⟩⟩⟩⟩⟩⟩⟩⟩⟩⟩⟩⟩⟩⟩⟩
theorem lw_p16 : lw_okq (⟨"MarkToBoard", "notInTurn", "(I)I"⟩, 18) := ⟨ta_n0, ta_17, ta_610, ta_611⟩
theorem lw_p17 : lw_okq (⟨"MarkToBoard", "leastFor", "(II)I"⟩, 18) := ⟨ta_n0, ta_17, ta_635, ta_636⟩
theorem lw_p18 : lw_okq (⟨"MarkToBoard", "greatestFrom", "(I)I"⟩, 18) := ⟨ta_n0, ta_17, ta_677, ta_678⟩
theorem lw_p19 : lw_okq (⟨"MarkToBoard", "leastAhead", "(I)I"⟩, 18) := ⟨ta_n0, ta_17, ta_681, ta_682⟩
theorem lw_p20 : lw_okq (⟨"MarkToBoard", "judged", "()I"⟩, 18) := ⟨ta_n0, ta_17, ta_707, ta_708⟩
theorem lw_p21 : lw_okq (⟨"MarkToBoard", "playToTheEnd", "(I)I"⟩, 18) := ⟨ta_n0, ta_17, ta_719, ta_720⟩
theorem lw_p22 : lw_okq (⟨"MarkToBoard", "runByDraws", "(I)I"⟩, 18) := ⟨ta_n0, ta_17, ta_723, ta_724⟩
theorem lw_p23 : lw_okq (⟨"MarkToBoard", "drawBelow", "(I)I"⟩, 18) := ⟨ta_n0, ta_17, ta_729, ta_730⟩
theorem lw_p24 : lw_okq (⟨"MarkToBoard", "nobodyOfTwo", "(II)I"⟩, 18) := ⟨ta_n0, ta_17, ta_744, ta_745⟩
theorem lw_p25 : lw_okq (⟨"MarkToBoard", "fillParts", "([III)V"⟩, 18) := ⟨ta_n0, ta_17, ta_748, ta_749⟩
theorem lw_p26 : lw_okq (⟨"MarkToBoard", "moreByParts", "()I"⟩, 18) := ⟨ta_n0, ta_17, ta_752, ta_753⟩
theorem lw_p27 : lw_okq (⟨"MarkToBoard", "sure", "()I"⟩, 18) := ⟨ta_n0, ta_17, ta_761, ta_762⟩
theorem lw_p28 : lw_okq (⟨"MarkToBoard", "leastOfRow", "(I)I"⟩, 18) := ⟨ta_n0, ta_17, ta_765, ta_766⟩
theorem lw_p29 : lw_okq (⟨"MarkToBoard", "calmPair", "(I)I"⟩, 18) := ⟨ta_n0, ta_17, ta_769, ta_770⟩
theorem lw_p30 : lw_okq (⟨"MarkToBoard", "mostOfColumn", "(I)I"⟩, 18) := ⟨ta_n0, ta_17, ta_773, ta_774⟩
theorem lw_p31 : lw_okq (⟨"MarkToBoard", "practised", "(I)Z"⟩, 18) := ⟨ta_n0, ta_17, ta_781, ta_782⟩
def lw_privs_2 : List (MethodName × Nat) := [(⟨"MarkToBoard", "notInTurn", "(I)I"⟩, 18), (⟨"MarkToBoard", "leastFor", "(II)I"⟩, 18), (⟨"MarkToBoard", "greatestFrom", "(I)I"⟩, 18), (⟨"MarkToBoard", "leastAhead", "(I)I"⟩, 18), (⟨"MarkToBoard", "judged", "()I"⟩, 18), (⟨"MarkToBoard", "playToTheEnd", "(I)I"⟩, 18), (⟨"MarkToBoard", "runByDraws", "(I)I"⟩, 18), (⟨"MarkToBoard", "drawBelow", "(I)I"⟩, 18), (⟨"MarkToBoard", "nobodyOfTwo", "(II)I"⟩, 18), (⟨"MarkToBoard", "fillParts", "([III)V"⟩, 18), (⟨"MarkToBoard", "moreByParts", "()I"⟩, 18), (⟨"MarkToBoard", "sure", "()I"⟩, 18), (⟨"MarkToBoard", "leastOfRow", "(I)I"⟩, 18), (⟨"MarkToBoard", "calmPair", "(I)I"⟩, 18), (⟨"MarkToBoard", "mostOfColumn", "(I)I"⟩, 18), (⟨"MarkToBoard", "practised", "(I)Z"⟩, 18)]
theorem lw_r2 : ∀ q ∈ lw_privs_2, lw_okq q := List.forall_mem_cons.mpr ⟨lw_p16, List.forall_mem_cons.mpr ⟨lw_p17, List.forall_mem_cons.mpr ⟨lw_p18, List.forall_mem_cons.mpr ⟨lw_p19, List.forall_mem_cons.mpr ⟨lw_p20, List.forall_mem_cons.mpr ⟨lw_p21, List.forall_mem_cons.mpr ⟨lw_p22, List.forall_mem_cons.mpr ⟨lw_p23, List.forall_mem_cons.mpr ⟨lw_p24, List.forall_mem_cons.mpr ⟨lw_p25, List.forall_mem_cons.mpr ⟨lw_p26, List.forall_mem_cons.mpr ⟨lw_p27, List.forall_mem_cons.mpr ⟨lw_p28, List.forall_mem_cons.mpr ⟨lw_p29, List.forall_mem_cons.mpr ⟨lw_p30, List.forall_mem_cons.mpr ⟨lw_p31, fun _ h => absurd h List.not_mem_nil⟩⟩⟩⟩⟩⟩⟩⟩⟩⟩⟩⟩⟩⟩⟩⟩
theorem lw_p32 : lw_okq (⟨"MarkToBoard", "meanAt", "(I)J"⟩, 18) := ⟨ta_n0, ta_17, ta_785, ta_786⟩
theorem lw_p33 : lw_okq (⟨"MarkToBoard", "fullLength", "(I)I"⟩, 18) := ⟨ta_n0, ta_17, ta_816, ta_817⟩
theorem lw_p34 : lw_okq (⟨"MarkToBoardModel", "no", "(I)I"⟩, 41) := ⟨ta_n2, ta_840, ta_977, ta_978⟩
theorem lw_p35 : lw_okq (⟨"MarkToBoardModel", "statement", "()Z"⟩, 41) := ⟨ta_n2, ta_840, ta_985, ta_986⟩
theorem lw_p36 : lw_okq (⟨"MarkToBoardModel", "next", "()I"⟩, 41) := ⟨ta_n2, ta_840, ta_989, ta_990⟩
theorem lw_p37 : lw_okq (⟨"MarkToBoardModel", "readsAll", "(II)Z"⟩, 41) := ⟨ta_n2, ta_840, ta_993, ta_994⟩
theorem lw_p38 : lw_okq (⟨"MarkToBoardModel", "readsDigits", "(II)Z"⟩, 41) := ⟨ta_n2, ta_840, ta_997, ta_998⟩
theorem lw_p39 : lw_okq (⟨"MarkToBoardModel", "readsWind", "(I)Z"⟩, 41) := ⟨ta_n2, ta_840, ta_1004, ta_1005⟩
theorem lw_p40 : lw_okq (⟨"MarkToBoardModel", "readsJumper", "(I)Z"⟩, 41) := ⟨ta_n2, ta_840, ta_1008, ta_1009⟩
theorem lw_p41 : lw_okq (⟨"MarkToBoardModel", "passesAll", "(IZ)V"⟩, 41) := ⟨ta_n2, ta_840, ta_1012, ta_1013⟩
theorem lw_p42 : lw_okq (⟨"MarkToBoardModel", "passes", "([I)V"⟩, 41) := ⟨ta_n2, ta_840, ta_1016, ta_1017⟩
theorem lw_p43 : lw_okq (⟨"MarkToBoardModel", "passOne", "(I)I"⟩, 41) := ⟨ta_n2, ta_840, ta_1020, ta_1021⟩
theorem lw_p44 : lw_okq (⟨"MarkToBoardModel", "comes", "(I)Z"⟩, 41) := ⟨ta_n2, ta_840, ta_1024, ta_1025⟩
theorem lw_p45 : lw_okq (⟨"MarkToBoardModel", "comesJumper", "(I)Z"⟩, 41) := ⟨ta_n2, ta_840, ta_1028, ta_1029⟩
theorem lw_p46 : lw_okq (⟨"MarkToBoardModel", "turnNow", "()I"⟩, 41) := ⟨ta_n2, ta_840, ta_1032, ta_1033⟩
theorem lw_p47 : lw_okq (⟨"MarkToBoardModel", "finalists", "()I"⟩, 41) := ⟨ta_n2, ta_840, ta_1036, ta_1037⟩
def lw_privs_3 : List (MethodName × Nat) := [(⟨"MarkToBoard", "meanAt", "(I)J"⟩, 18), (⟨"MarkToBoard", "fullLength", "(I)I"⟩, 18), (⟨"MarkToBoardModel", "no", "(I)I"⟩, 41), (⟨"MarkToBoardModel", "statement", "()Z"⟩, 41), (⟨"MarkToBoardModel", "next", "()I"⟩, 41), (⟨"MarkToBoardModel", "readsAll", "(II)Z"⟩, 41), (⟨"MarkToBoardModel", "readsDigits", "(II)Z"⟩, 41), (⟨"MarkToBoardModel", "readsWind", "(I)Z"⟩, 41), (⟨"MarkToBoardModel", "readsJumper", "(I)Z"⟩, 41), (⟨"MarkToBoardModel", "passesAll", "(IZ)V"⟩, 41), (⟨"MarkToBoardModel", "passes", "([I)V"⟩, 41), (⟨"MarkToBoardModel", "passOne", "(I)I"⟩, 41), (⟨"MarkToBoardModel", "comes", "(I)Z"⟩, 41), (⟨"MarkToBoardModel", "comesJumper", "(I)Z"⟩, 41), (⟨"MarkToBoardModel", "turnNow", "()I"⟩, 41), (⟨"MarkToBoardModel", "finalists", "()I"⟩, 41)]
theorem lw_r3 : ∀ q ∈ lw_privs_3, lw_okq q := List.forall_mem_cons.mpr ⟨lw_p32, List.forall_mem_cons.mpr ⟨lw_p33, List.forall_mem_cons.mpr ⟨lw_p34, List.forall_mem_cons.mpr ⟨lw_p35, List.forall_mem_cons.mpr ⟨lw_p36, List.forall_mem_cons.mpr ⟨lw_p37, List.forall_mem_cons.mpr ⟨lw_p38, List.forall_mem_cons.mpr ⟨lw_p39, List.forall_mem_cons.mpr ⟨lw_p40, List.forall_mem_cons.mpr ⟨lw_p41, List.forall_mem_cons.mpr ⟨lw_p42, List.forall_mem_cons.mpr ⟨lw_p43, List.forall_mem_cons.mpr ⟨lw_p44, List.forall_mem_cons.mpr ⟨lw_p45, List.forall_mem_cons.mpr ⟨lw_p46, List.forall_mem_cons.mpr ⟨lw_p47, fun _ h => absurd h List.not_mem_nil⟩⟩⟩⟩⟩⟩⟩⟩⟩⟩⟩⟩⟩⟩⟩⟩
theorem lw_p48 : lw_okq (⟨"MarkToBoardModel", "findBest", "(II)V"⟩, 41) := ⟨ta_n2, ta_840, ta_1040, ta_1041⟩
theorem lw_p49 : lw_okq (⟨"MarkToBoardModel", "triedAs", "(II)I"⟩, 41) := ⟨ta_n2, ta_840, ta_1044, ta_1045⟩
theorem lw_p50 : lw_okq (⟨"MarkToBoardModel", "lengthOf", "(III)I"⟩, 41) := ⟨ta_n2, ta_840, ta_1048, ta_1049⟩
theorem lw_p51 : lw_okq (⟨"MarkToBoardModel", "comesLength", "(II)V"⟩, 41) := ⟨ta_n2, ta_840, ta_1055, ta_1056⟩
theorem lw_p52 : lw_okq (⟨"MarkToBoardModel", "sorts", "()V"⟩, 41) := ⟨ta_n2, ta_840, ta_1059, ta_1060⟩
theorem lw_p53 : lw_okq (⟨"MarkToBoardModel", "isAhead", "(II)Z"⟩, 41) := ⟨ta_n2, ta_840, ta_1063, ta_1064⟩
theorem lw_p54 : lw_okq (⟨"MarkToBoardModel", "comesTry", "(II)Z"⟩, 41) := ⟨ta_n2, ta_840, ta_1067, ta_1068⟩
theorem lw_p55 : lw_okq (⟨"MarkToBoardModel", "putsTry", "(III)V"⟩, 41) := ⟨ta_n2, ta_840, ta_1071, ta_1072⟩
theorem lw_p56 : lw_okq (⟨"MarkToBoardModel", "isJumper", "(I)Z"⟩, 41) := ⟨ta_n2, ta_840, ta_1087, ta_1088⟩
theorem lw_p57 : lw_okq (⟨"MarkToBoardModel", "aimOf", "(I)I"⟩, 41) := ⟨ta_n2, ta_840, ta_1091, ta_1092⟩
theorem lw_p58 : lw_okq (⟨"MarkToBoardModel", "triesOf", "(I)I"⟩, 41) := ⟨ta_n2, ta_840, ta_1095, ta_1096⟩
theorem lw_p59 : lw_okq (⟨"MarkToBoardModel", "lower", "(I)I"⟩, 41) := ⟨ta_n2, ta_840, ta_1115, ta_1116⟩
theorem lw_p60 : lw_okq (⟨"MarkToBoardModel", "strideIn", "(III)I"⟩, 41) := ⟨ta_n2, ta_840, ta_1124, ta_1125⟩
theorem lw_p61 : lw_okq (⟨"MarkToBoardModel", "placeOf", "(I)I"⟩, 41) := ⟨ta_n2, ta_840, ta_1132, ta_1133⟩
theorem lw_p62 : lw_okq (⟨"MarkToBoardModel", "allStrides", "(II)I"⟩, 41) := ⟨ta_n2, ta_840, ta_1136, ta_1137⟩
theorem lw_p63 : lw_okq (⟨"MarkToBoardModel", "lowest", "(I)J"⟩, 41) := ⟨ta_n2, ta_840, ta_1148, ta_1149⟩
def lw_privs_4 : List (MethodName × Nat) := [(⟨"MarkToBoardModel", "findBest", "(II)V"⟩, 41), (⟨"MarkToBoardModel", "triedAs", "(II)I"⟩, 41), (⟨"MarkToBoardModel", "lengthOf", "(III)I"⟩, 41), (⟨"MarkToBoardModel", "comesLength", "(II)V"⟩, 41), (⟨"MarkToBoardModel", "sorts", "()V"⟩, 41), (⟨"MarkToBoardModel", "isAhead", "(II)Z"⟩, 41), (⟨"MarkToBoardModel", "comesTry", "(II)Z"⟩, 41), (⟨"MarkToBoardModel", "putsTry", "(III)V"⟩, 41), (⟨"MarkToBoardModel", "isJumper", "(I)Z"⟩, 41), (⟨"MarkToBoardModel", "aimOf", "(I)I"⟩, 41), (⟨"MarkToBoardModel", "triesOf", "(I)I"⟩, 41), (⟨"MarkToBoardModel", "lower", "(I)I"⟩, 41), (⟨"MarkToBoardModel", "strideIn", "(III)I"⟩, 41), (⟨"MarkToBoardModel", "placeOf", "(I)I"⟩, 41), (⟨"MarkToBoardModel", "allStrides", "(II)I"⟩, 41), (⟨"MarkToBoardModel", "lowest", "(I)J"⟩, 41)]
theorem lw_r4 : ∀ q ∈ lw_privs_4, lw_okq q := List.forall_mem_cons.mpr ⟨lw_p48, List.forall_mem_cons.mpr ⟨lw_p49, List.forall_mem_cons.mpr ⟨lw_p50, List.forall_mem_cons.mpr ⟨lw_p51, List.forall_mem_cons.mpr ⟨lw_p52, List.forall_mem_cons.mpr ⟨lw_p53, List.forall_mem_cons.mpr ⟨lw_p54, List.forall_mem_cons.mpr ⟨lw_p55, List.forall_mem_cons.mpr ⟨lw_p56, List.forall_mem_cons.mpr ⟨lw_p57, List.forall_mem_cons.mpr ⟨lw_p58, List.forall_mem_cons.mpr ⟨lw_p59, List.forall_mem_cons.mpr ⟨lw_p60, List.forall_mem_cons.mpr ⟨lw_p61, List.forall_mem_cons.mpr ⟨lw_p62, List.forall_mem_cons.mpr ⟨lw_p63, fun _ h => absurd h List.not_mem_nil⟩⟩⟩⟩⟩⟩⟩⟩⟩⟩⟩⟩⟩⟩⟩⟩
theorem lw_p64 : lw_okq (⟨"MarkToBoardModel", "counted", "(IIII)J"⟩, 41) := ⟨ta_n2, ta_840, ta_1153, ta_1154⟩
theorem lw_p65 : lw_okq (⟨"MarkToBoardModel", "countedOne", "(IIIII)I"⟩, 41) := ⟨ta_n2, ta_840, ta_1160, ta_1161⟩
theorem lw_p66 : lw_okq (⟨"MarkToBoardModel", "allWays", "()J"⟩, 41) := ⟨ta_n2, ta_840, ta_1164, ta_1165⟩
theorem lw_p67 : lw_okq (⟨"MarkToBoardModel", "meanParts", "(I)J"⟩, 41) := ⟨ta_n2, ta_840, ta_1178, ta_1179⟩
theorem lw_p68 : lw_okq (⟨"MarkToBoardModel", "isEnough", "(III)Z"⟩, 41) := ⟨ta_n2, ta_840, ta_1223, ta_1224⟩
theorem lw_p69 : lw_okq (⟨"MarkToBoardModel", "rankOf", "(I)I"⟩, 41) := ⟨ta_n2, ta_840, ta_1227, ta_1228⟩
theorem lw_p70 : lw_okq (⟨"MarkToBoardModel", "leader", "()I"⟩, 41) := ⟨ta_n2, ta_840, ta_1239, ta_1240⟩
theorem lw_p71 : lw_okq (⟨"MarkToBoardModel", "ranksNow", "()V"⟩, 41) := ⟨ta_n2, ta_840, ta_1243, ta_1244⟩
theorem lw_p72 : lw_okq (⟨"MarkToBoardModel", "goOnBits", "()I"⟩, 41) := ⟨ta_n2, ta_840, ta_1251, ta_1252⟩
theorem lw_p73 : lw_okq (⟨"MarkToBoardModel", "tenThousandths", "(IIII)I"⟩, 41) := ⟨ta_n2, ta_840, ta_1259, ta_1260⟩
theorem lw_p74 : lw_okq (⟨"MarkToBoardModel", "isMovedFrom", "(II)Z"⟩, 41) := ⟨ta_n2, ta_840, ta_1276, ta_1277⟩
theorem lw_p75 : lw_okq (⟨"MarkToBoardModel", "roundNow", "()I"⟩, 41) := ⟨ta_n2, ta_840, ta_1288, ta_1289⟩
theorem lw_p76 : lw_okq (⟨"MarkToBoardModel", "isOther", "(I)Z"⟩, 41) := ⟨ta_n2, ta_840, ta_1300, ta_1301⟩
theorem lw_p77 : lw_okq (⟨"MarkToBoardModel", "findLengths", "(II[J)V"⟩, 41) := ⟨ta_n2, ta_840, ta_1312, ta_1313⟩
theorem lw_p78 : lw_okq (⟨"MarkToBoardModel", "partOfWays", "(J)J"⟩, 41) := ⟨ta_n2, ta_840, ta_1316, ta_1317⟩
theorem lw_p79 : lw_okq (⟨"MarkToBoardModel", "areTwo", "(II)Z"⟩, 41) := ⟨ta_n2, ta_840, ta_1324, ta_1325⟩
def lw_privs_5 : List (MethodName × Nat) := [(⟨"MarkToBoardModel", "counted", "(IIII)J"⟩, 41), (⟨"MarkToBoardModel", "countedOne", "(IIIII)I"⟩, 41), (⟨"MarkToBoardModel", "allWays", "()J"⟩, 41), (⟨"MarkToBoardModel", "meanParts", "(I)J"⟩, 41), (⟨"MarkToBoardModel", "isEnough", "(III)Z"⟩, 41), (⟨"MarkToBoardModel", "rankOf", "(I)I"⟩, 41), (⟨"MarkToBoardModel", "leader", "()I"⟩, 41), (⟨"MarkToBoardModel", "ranksNow", "()V"⟩, 41), (⟨"MarkToBoardModel", "goOnBits", "()I"⟩, 41), (⟨"MarkToBoardModel", "tenThousandths", "(IIII)I"⟩, 41), (⟨"MarkToBoardModel", "isMovedFrom", "(II)Z"⟩, 41), (⟨"MarkToBoardModel", "roundNow", "()I"⟩, 41), (⟨"MarkToBoardModel", "isOther", "(I)Z"⟩, 41), (⟨"MarkToBoardModel", "findLengths", "(II[J)V"⟩, 41), (⟨"MarkToBoardModel", "partOfWays", "(J)J"⟩, 41), (⟨"MarkToBoardModel", "areTwo", "(II)Z"⟩, 41)]
theorem lw_r5 : ∀ q ∈ lw_privs_5, lw_okq q := List.forall_mem_cons.mpr ⟨lw_p64, List.forall_mem_cons.mpr ⟨lw_p65, List.forall_mem_cons.mpr ⟨lw_p66, List.forall_mem_cons.mpr ⟨lw_p67, List.forall_mem_cons.mpr ⟨lw_p68, List.forall_mem_cons.mpr ⟨lw_p69, List.forall_mem_cons.mpr ⟨lw_p70, List.forall_mem_cons.mpr ⟨lw_p71, List.forall_mem_cons.mpr ⟨lw_p72, List.forall_mem_cons.mpr ⟨lw_p73, List.forall_mem_cons.mpr ⟨lw_p74, List.forall_mem_cons.mpr ⟨lw_p75, List.forall_mem_cons.mpr ⟨lw_p76, List.forall_mem_cons.mpr ⟨lw_p77, List.forall_mem_cons.mpr ⟨lw_p78, List.forall_mem_cons.mpr ⟨lw_p79, fun _ h => absurd h List.not_mem_nil⟩⟩⟩⟩⟩⟩⟩⟩⟩⟩⟩⟩⟩⟩⟩⟩
theorem lw_p80 : lw_okq (⟨"MarkToBoardModel", "moreFrom", "(IIII)I"⟩, 41) := ⟨ta_n2, ta_840, ta_1328, ta_1329⟩
theorem lw_p81 : lw_okq (⟨"MarkToBoardModel", "sureMore", "()I"⟩, 41) := ⟨ta_n2, ta_840, ta_1336, ta_1337⟩
theorem lw_p82 : lw_okq (⟨"MarkToBoardModel", "rests", "(I)Z"⟩, 41) := ⟨ta_n2, ta_840, ta_1340, ta_1341⟩
theorem lw_p83 : lw_okq (⟨"MarkToBoardModel", "canPractise", "(II)Z"⟩, 41) := ⟨ta_n2, ta_840, ta_1348, ta_1349⟩
theorem lw_p84 : lw_okq (⟨"MarkToBoardModel", "practises", "(III)V"⟩, 41) := ⟨ta_n2, ta_840, ta_1352, ta_1353⟩
theorem lw_p85 : lw_okq (⟨"MarkToBoardModel", "triesBy", "(II)I"⟩, 41) := ⟨ta_n2, ta_840, ta_1368, ta_1369⟩
theorem lw_p86 : lw_okq (⟨"MarkToBoardModel", "triesByLot", "(I)V"⟩, 41) := ⟨ta_n2, ta_840, ta_1392, ta_1393⟩
theorem lw_p87 : lw_okq (⟨"MarkToBoardModel", "drawnSlip", "(I)I"⟩, 41) := ⟨ta_n2, ta_840, ta_1396, ta_1397⟩
theorem lw_p88 : lw_okq (⟨"MarkToBoardModel", "triesAs", "(I)I"⟩, 41) := ⟨ta_n2, ta_840, ta_1407, ta_1408⟩
def lw_privs_6 : List (MethodName × Nat) := [(⟨"MarkToBoardModel", "moreFrom", "(IIII)I"⟩, 41), (⟨"MarkToBoardModel", "sureMore", "()I"⟩, 41), (⟨"MarkToBoardModel", "rests", "(I)Z"⟩, 41), (⟨"MarkToBoardModel", "canPractise", "(II)Z"⟩, 41), (⟨"MarkToBoardModel", "practises", "(III)V"⟩, 41), (⟨"MarkToBoardModel", "triesBy", "(II)I"⟩, 41), (⟨"MarkToBoardModel", "triesByLot", "(I)V"⟩, 41), (⟨"MarkToBoardModel", "drawnSlip", "(I)I"⟩, 41), (⟨"MarkToBoardModel", "triesAs", "(I)I"⟩, 41)]
theorem lw_r6 : ∀ q ∈ lw_privs_6, lw_okq q := List.forall_mem_cons.mpr ⟨lw_p80, List.forall_mem_cons.mpr ⟨lw_p81, List.forall_mem_cons.mpr ⟨lw_p82, List.forall_mem_cons.mpr ⟨lw_p83, List.forall_mem_cons.mpr ⟨lw_p84, List.forall_mem_cons.mpr ⟨lw_p85, List.forall_mem_cons.mpr ⟨lw_p86, List.forall_mem_cons.mpr ⟨lw_p87, List.forall_mem_cons.mpr ⟨lw_p88, fun _ h => absurd h List.not_mem_nil⟩⟩⟩⟩⟩⟩⟩⟩⟩
def lw_privs : List (MethodName × Nat) := lw_privs_1 ++ (lw_privs_2 ++ (lw_privs_3 ++ (lw_privs_4 ++ (lw_privs_5 ++ (lw_privs_6)))))
def lw_tbl : List Cond := k2_sels lw_privs ++ tables_1
theorem lw_privs_ok : ∀ q ∈ lw_privs, lw_okq q := by
  show ∀ q ∈ lw_privs_1 ++ (lw_privs_2 ++ (lw_privs_3 ++ (lw_privs_4 ++ (lw_privs_5 ++ (lw_privs_6))))), lw_okq q
  exact List.forall_mem_append.mpr ⟨lw_r1, List.forall_mem_append.mpr ⟨lw_r2, List.forall_mem_append.mpr ⟨lw_r3, List.forall_mem_append.mpr ⟨lw_r4, List.forall_mem_append.mpr ⟨lw_r5, lw_r6⟩⟩⟩⟩⟩
end
section
def RX0 : String := "MarkToBoard$Bold"
def TX0 : u_T := fun k => match k with
  | _ => ("", "", "", false)
def tyX0 : Nat → FieldType := fun k => match k with
  | _ => .int
abbrev wsX00 : List Cond := u_ws RX0 TX0 0
theorem nmX0 : ∀ a, a < 0 → ∀ b, b < 0 → a ≠ b → (TX0 a).2.1 ≠ (TX0 b).2.1 := by decide +kernel
theorem tyX0_ok : ∀ k, k < 0 → parseFieldDescriptor (TX0 k).2.2.1 = some (tyX0 k) := by decide +kernel
abbrev cX0_init : ByteArray := prog_2_method_1_code
def yX0_init : MethodName := ⟨RX0, "<init>", "()V"⟩
abbrev cX0_aimOf : ByteArray := prog_2_method_2_code
def yX0_aimOf : MethodName := ⟨RX0, "aimOf", "(LMarkToBoard$Jumper;)I"⟩
abbrev cX0_strideOf : ByteArray := prog_2_method_3_code
def yX0_strideOf : MethodName := ⟨RX0, "strideOf", "(LMarkToBoard$Jumper;II)I"⟩
abbrev cX0_lengthOf : ByteArray := prog_2_method_4_code
def yX0_lengthOf : MethodName := ⟨RX0, "lengthOf", "(LMarkToBoard$Jumper;III)I"⟩
def RX1 : String := "MarkToBoard$Chances"
def TX1 : u_T := fun k => match k with
  | 0 => ("MarkToBoard$Chances", "ways", "[[J", true)
  | 1 => ("MarkToBoard$Chances", "byLength", "[J", true)
  | 2 => ("MarkToBoard$Chances", "all", "J", false)
  | 3 => ("MarkToBoard$Chances", "fouls", "J", false)
  | _ => ("MarkToBoard$Chances", "off", "J", false)
def tyX1 : Nat → FieldType := fun k => match k with
  | 0 => .array (.array .long)
  | 1 => .array .long
  | 2 => .long
  | 3 => .long
  | _ => .long
abbrev wsX10 : List Cond := u_ws RX1 TX1 5
theorem nmX1 : ∀ a, a < 5 → ∀ b, b < 5 → a ≠ b → (TX1 a).2.1 ≠ (TX1 b).2.1 := by decide +kernel
theorem tyX1_ok : ∀ k, k < 5 → parseFieldDescriptor (TX1 k).2.2.1 = some (tyX1 k) := by decide +kernel
abbrev cX1_init : ByteArray := prog_3_method_1_code
def yX1_init : MethodName := ⟨RX1, "<init>", "()V"⟩
abbrev cX1_spread : ByteArray := prog_3_method_2_code
def yX1_spread : MethodName := ⟨RX1, "spread", "(LMarkToBoard$Jumper;IIII)V"⟩
abbrev cX1_spreadLast : ByteArray := prog_3_method_3_code
def yX1_spreadLast : MethodName := ⟨RX1, "spreadLast", "(LMarkToBoard$Jumper;IIIIJ)V"⟩
abbrev cX1_meanWays : ByteArray := prog_3_method_4_code
def yX1_meanWays : MethodName := ⟨RX1, "meanWays", "()J"⟩
abbrev cX1_waysPast : ByteArray := prog_3_method_5_code
def yX1_waysPast : MethodName := ⟨RX1, "waysPast", "(I)J"⟩
abbrev cX1_share : ByteArray := prog_3_method_6_code
def yX1_share : MethodName := ⟨RX1, "share", "(J)I"⟩
def RX2 : String := "MarkToBoard$Jumper"
def TX2 : u_T := fun k => match k with
  | 0 => ("MarkToBoard$Jumper", "way", "LMarkToBoard$Kind;", false)
  | 1 => ("MarkToBoard$Jumper", "kind", "I", false)
  | 2 => ("MarkToBoard$Jumper", "figure", "I", false)
  | 3 => ("MarkToBoard$Jumper", "stride", "I", false)
  | 4 => ("MarkToBoard$Jumper", "grow", "I", false)
  | 5 => ("MarkToBoard$Jumper", "slip", "I", false)
  | 6 => ("MarkToBoard$Jumper", "pace", "I", false)
  | 7 => ("MarkToBoard$Jumper", "look", "I", false)
  | _ => ("MarkToBoard$Jumper", "mark", "I", false)
def tyX2 : Nat → FieldType := fun k => match k with
  | 0 => .object "MarkToBoard$Kind"
  | 1 => .int
  | 2 => .int
  | 3 => .int
  | 4 => .int
  | 5 => .int
  | 6 => .int
  | 7 => .int
  | _ => .int
abbrev wsX20 : List Cond := u_ws RX2 TX2 9
theorem nmX2 : ∀ a, a < 9 → ∀ b, b < 9 → a ≠ b → (TX2 a).2.1 ≠ (TX2 b).2.1 := by decide +kernel
theorem tyX2_ok : ∀ k, k < 9 → parseFieldDescriptor (TX2 k).2.2.1 = some (tyX2 k) := by decide +kernel
abbrev cX2_init : ByteArray := prog_4_method_1_code
def yX2_init : MethodName := ⟨RX2, "<init>", "(LMarkToBoard$Kind;)V"⟩
abbrev cX2_copyFrom : ByteArray := prog_4_method_2_code
def yX2_copyFrom : MethodName := ⟨RX2, "copyFrom", "(LMarkToBoard$Jumper;)V"⟩
abbrev cX2_property : ByteArray := prog_4_method_3_code
def yX2_property : MethodName := ⟨RX2, "property", "(I)I"⟩
abbrev cX2_path : ByteArray := prog_4_method_4_code
def yX2_path : MethodName := ⟨RX2, "path", "(II)I"⟩
def RX3 : String := "MarkToBoard$Kind"
def TX3 : u_T := fun k => match k with
  | _ => ("", "", "", false)
def tyX3 : Nat → FieldType := fun k => match k with
  | _ => .int
abbrev wsX30 : List Cond := u_ws RX3 TX3 0
theorem nmX3 : ∀ a, a < 0 → ∀ b, b < 0 → a ≠ b → (TX3 a).2.1 ≠ (TX3 b).2.1 := by decide +kernel
theorem tyX3_ok : ∀ k, k < 0 → parseFieldDescriptor (TX3 k).2.2.1 = some (tyX3 k) := by decide +kernel
abbrev cX3_init : ByteArray := prog_5_method_1_code
def yX3_init : MethodName := ⟨RX3, "<init>", "()V"⟩
abbrev cX3_aimOf : ByteArray := prog_5_method_2_code
def yX3_aimOf : MethodName := ⟨RX3, "aimOf", "(LMarkToBoard$Jumper;)I"⟩
abbrev cX3_strideOf : ByteArray := prog_5_method_3_code
def yX3_strideOf : MethodName := ⟨RX3, "strideOf", "(LMarkToBoard$Jumper;II)I"⟩
abbrev cX3_lengthOf : ByteArray := prog_5_method_4_code
def yX3_lengthOf : MethodName := ⟨RX3, "lengthOf", "(LMarkToBoard$Jumper;III)I"⟩
def RX4 : String := "MarkToBoard$Looker"
def TX4 : u_T := fun k => match k with
  | _ => ("", "", "", false)
def tyX4 : Nat → FieldType := fun k => match k with
  | _ => .int
abbrev wsX40 : List Cond := u_ws RX4 TX4 0
theorem nmX4 : ∀ a, a < 0 → ∀ b, b < 0 → a ≠ b → (TX4 a).2.1 ≠ (TX4 b).2.1 := by decide +kernel
theorem tyX4_ok : ∀ k, k < 0 → parseFieldDescriptor (TX4 k).2.2.1 = some (tyX4 k) := by decide +kernel
abbrev cX4_init : ByteArray := prog_6_method_1_code
def yX4_init : MethodName := ⟨RX4, "<init>", "()V"⟩
abbrev cX4_aimOf : ByteArray := prog_6_method_2_code
def yX4_aimOf : MethodName := ⟨RX4, "aimOf", "(LMarkToBoard$Jumper;)I"⟩
def RX5 : String := "MarkToBoard$Meet"
def TX5 : u_T := fun k => match k with
  | 0 => ("MarkToBoard$Meet", "strides", "I", false)
  | 1 => ("MarkToBoard$Meet", "wind", "I", false)
  | 2 => ("MarkToBoard$Meet", "goOn", "I", false)
  | 3 => ("MarkToBoard$Meet", "size", "I", false)
  | 4 => ("MarkToBoard$Meet", "tries", "I", false)
  | 5 => ("MarkToBoard$Meet", "jumpers", "[LMarkToBoard$Jumper;", true)
  | 6 => ("MarkToBoard$Meet", "who", "[I", true)
  | 7 => ("MarkToBoard$Meet", "off", "[I", true)
  | 8 => ("MarkToBoard$Meet", "result", "[I", true)
  | _ => ("MarkToBoard$Meet", "clean", "[I", true)
def tyX5 : Nat → FieldType := fun k => match k with
  | 0 => .int
  | 1 => .int
  | 2 => .int
  | 3 => .int
  | 4 => .int
  | 5 => .array (.object "MarkToBoard$Jumper")
  | 6 => .array .int
  | 7 => .array .int
  | 8 => .array .int
  | _ => .array .int
abbrev wsX50 : List Cond := u_ws RX5 TX5 10
theorem nmX5 : ∀ a, a < 10 → ∀ b, b < 10 → a ≠ b → (TX5 a).2.1 ≠ (TX5 b).2.1 := by decide +kernel
theorem tyX5_ok : ∀ k, k < 10 → parseFieldDescriptor (TX5 k).2.2.1 = some (tyX5 k) := by decide +kernel
abbrev cX5_init : ByteArray := prog_7_method_1_code
def yX5_init : MethodName := ⟨RX5, "<init>", "(LMarkToBoard$Kind;)V"⟩
abbrev cX5_copyFrom : ByteArray := prog_7_method_2_code
def yX5_copyFrom : MethodName := ⟨RX5, "copyFrom", "(LMarkToBoard$Meet;)V"⟩
abbrev cX5_at : ByteArray := prog_7_method_3_code
def yX5_at : MethodName := ⟨RX5, "at", "(I)LMarkToBoard$Jumper;"⟩
abbrev cX5_finalists : ByteArray := prog_7_method_4_code
def yX5_finalists : MethodName := ⟨RX5, "finalists", "()I"⟩
abbrev cX5_round : ByteArray := prog_7_method_5_code
def yX5_round : MethodName := ⟨RX5, "round", "()I"⟩
abbrev cX5_inTurn : ByteArray := prog_7_method_6_code
def yX5_inTurn : MethodName := ⟨RX5, "inTurn", "(LMarkToBoard$Ranking;)I"⟩
abbrev cX5_record : ByteArray := prog_7_method_7_code
def yX5_record : MethodName := ⟨RX5, "record", "(III)I"⟩
abbrev cX5_lengthBy : ByteArray := prog_7_method_8_code
def yX5_lengthBy : MethodName := ⟨RX5, "lengthBy", "(II)I"⟩
abbrev cX5_rank : ByteArray := prog_7_method_9_code
def yX5_rank : MethodName := ⟨RX5, "rank", "(LMarkToBoard$Ranking;II)V"⟩
abbrev cX5_leader : ByteArray := prog_7_method_10_code
def yX5_leader : MethodName := ⟨RX5, "leader", "(LMarkToBoard$Ranking;)I"⟩
abbrev cX5_triesOf : ByteArray := prog_7_method_11_code
def yX5_triesOf : MethodName := ⟨RX5, "triesOf", "(I)I"⟩
abbrev cX5_triesWith : ByteArray := prog_7_method_12_code
def yX5_triesWith : MethodName := ⟨RX5, "triesWith", "(I)I"⟩
abbrev cX5_find : ByteArray := prog_7_method_13_code
def yX5_find : MethodName := ⟨RX5, "find", "(II)I"⟩
def RX6 : String := "MarkToBoard$Ranking"
def TX6 : u_T := fun k => match k with
  | 0 => ("MarkToBoard$Ranking", "size", "I", false)
  | 1 => ("MarkToBoard$Ranking", "longest", "[I", true)
  | _ => ("MarkToBoard$Ranking", "second", "[I", true)
def tyX6 : Nat → FieldType := fun k => match k with
  | 0 => .int
  | 1 => .array .int
  | _ => .array .int
abbrev wsX60 : List Cond := u_ws RX6 TX6 3
theorem nmX6 : ∀ a, a < 3 → ∀ b, b < 3 → a ≠ b → (TX6 a).2.1 ≠ (TX6 b).2.1 := by decide +kernel
theorem tyX6_ok : ∀ k, k < 3 → parseFieldDescriptor (TX6 k).2.2.1 = some (tyX6 k) := by decide +kernel
abbrev cX6_init : ByteArray := prog_8_method_1_code
def yX6_init : MethodName := ⟨RX6, "<init>", "()V"⟩
abbrev cX6_start : ByteArray := prog_8_method_2_code
def yX6_start : MethodName := ⟨RX6, "start", "(I)V"⟩
abbrev cX6_add : ByteArray := prog_8_method_3_code
def yX6_add : MethodName := ⟨RX6, "add", "(II)V"⟩
abbrev cX6_longest : ByteArray := prog_8_method_4_code
def yX6_longest : MethodName := ⟨RX6, "longest", "(I)I"⟩
abbrev cX6_secondLongest : ByteArray := prog_8_method_5_code
def yX6_secondLongest : MethodName := ⟨RX6, "secondLongest", "(I)I"⟩
abbrev cX6_ahead : ByteArray := prog_8_method_6_code
def yX6_ahead : MethodName := ⟨RX6, "ahead", "(II)I"⟩
abbrev cX6_at : ByteArray := prog_8_method_7_code
def yX6_at : MethodName := ⟨RX6, "at", "(I)I"⟩
def RX7 : String := "MarkToBoard$Safe"
def TX7 : u_T := fun k => match k with
  | _ => ("", "", "", false)
def tyX7 : Nat → FieldType := fun k => match k with
  | _ => .int
abbrev wsX70 : List Cond := u_ws RX7 TX7 0
theorem nmX7 : ∀ a, a < 0 → ∀ b, b < 0 → a ≠ b → (TX7 a).2.1 ≠ (TX7 b).2.1 := by decide +kernel
theorem tyX7_ok : ∀ k, k < 0 → parseFieldDescriptor (TX7 k).2.2.1 = some (tyX7 k) := by decide +kernel
abbrev cX7_init : ByteArray := prog_9_method_1_code
def yX7_init : MethodName := ⟨RX7, "<init>", "()V"⟩
abbrev cX7_aimOf : ByteArray := prog_9_method_2_code
def yX7_aimOf : MethodName := ⟨RX7, "aimOf", "(LMarkToBoard$Jumper;)I"⟩
abbrev cX7_lengthOf : ByteArray := prog_9_method_3_code
def yX7_lengthOf : MethodName := ⟨RX7, "lengthOf", "(LMarkToBoard$Jumper;III)I"⟩
def RX8 : String := "MarkToBoard$Steady"
def TX8 : u_T := fun k => match k with
  | _ => ("", "", "", false)
def tyX8 : Nat → FieldType := fun k => match k with
  | _ => .int
abbrev wsX80 : List Cond := u_ws RX8 TX8 0
theorem nmX8 : ∀ a, a < 0 → ∀ b, b < 0 → a ≠ b → (TX8 a).2.1 ≠ (TX8 b).2.1 := by decide +kernel
theorem tyX8_ok : ∀ k, k < 0 → parseFieldDescriptor (TX8 k).2.2.1 = some (tyX8 k) := by decide +kernel
abbrev cX8_init : ByteArray := prog_10_method_1_code
def yX8_init : MethodName := ⟨RX8, "<init>", "()V"⟩
abbrev cX8_aimOf : ByteArray := prog_10_method_2_code
def yX8_aimOf : MethodName := ⟨RX8, "aimOf", "(LMarkToBoard$Jumper;)I"⟩
abbrev cX8_strideOf : ByteArray := prog_10_method_3_code
def yX8_strideOf : MethodName := ⟨RX8, "strideOf", "(LMarkToBoard$Jumper;II)I"⟩
abbrev cX8_lengthOf : ByteArray := prog_10_method_4_code
def yX8_lengthOf : MethodName := ⟨RX8, "lengthOf", "(LMarkToBoard$Jumper;III)I"⟩
def RX9 : String := "MarkToBoard$Winded"
def TX9 : u_T := fun k => match k with
  | _ => ("", "", "", false)
def tyX9 : Nat → FieldType := fun k => match k with
  | _ => .int
abbrev wsX90 : List Cond := u_ws RX9 TX9 0
theorem nmX9 : ∀ a, a < 0 → ∀ b, b < 0 → a ≠ b → (TX9 a).2.1 ≠ (TX9 b).2.1 := by decide +kernel
theorem tyX9_ok : ∀ k, k < 0 → parseFieldDescriptor (TX9 k).2.2.1 = some (tyX9 k) := by decide +kernel
abbrev cX9_init : ByteArray := prog_11_method_1_code
def yX9_init : MethodName := ⟨RX9, "<init>", "()V"⟩
abbrev cX9_strideOf : ByteArray := prog_11_method_2_code
def yX9_strideOf : MethodName := ⟨RX9, "strideOf", "(LMarkToBoard$Jumper;II)I"⟩
abbrev cX9_lengthOf : ByteArray := prog_11_method_3_code
def yX9_lengthOf : MethodName := ⟨RX9, "lengthOf", "(LMarkToBoard$Jumper;III)I"⟩
def RX10 : String := "MarkToBoard"
def TX10 : u_T := fun k => match k with
  | 0 => ("MarkToBoard", "kinds", "[LMarkToBoard$Kind;", true)
  | 1 => ("MarkToBoard", "now", "LMarkToBoard$Meet;", true)
  | 2 => ("MarkToBoard", "mind", "LMarkToBoard$Meet;", true)
  | 3 => ("MarkToBoard", "kept", "LMarkToBoard$Meet;", true)
  | 4 => ("MarkToBoard", "imaged", "Z", false)
  | 5 => ("MarkToBoard", "letters", "[I", true)
  | 6 => ("MarkToBoard", "letterCount", "I", false)
  | 7 => ("MarkToBoard", "row", "[I", true)
  | 8 => ("MarkToBoard", "rowCount", "I", false)
  | 9 => ("MarkToBoard", "refusals", "[I", true)
  | 10 => ("MarkToBoard", "ranking", "LMarkToBoard$Ranking;", true)
  | 11 => ("MarkToBoard", "chances", "LMarkToBoard$Chances;", true)
  | 12 => ("MarkToBoard", "spare", "LMarkToBoard$Jumper;", true)
  | 13 => ("MarkToBoard", "partsOne", "[I", true)
  | 14 => ("MarkToBoard", "partsOther", "[I", true)
  | 15 => ("MarkToBoard", "pairs", "[I", true)
  | 16 => ("MarkToBoard", "means", "[I", true)
  | _ => ("MarkToBoard", "seed", "I", false)
def tyX10 : Nat → FieldType := fun k => match k with
  | 0 => .array (.object "MarkToBoard$Kind")
  | 1 => .object "MarkToBoard$Meet"
  | 2 => .object "MarkToBoard$Meet"
  | 3 => .object "MarkToBoard$Meet"
  | 4 => .boolean
  | 5 => .array .int
  | 6 => .int
  | 7 => .array .int
  | 8 => .int
  | 9 => .array .int
  | 10 => .object "MarkToBoard$Ranking"
  | 11 => .object "MarkToBoard$Chances"
  | 12 => .object "MarkToBoard$Jumper"
  | 13 => .array .int
  | 14 => .array .int
  | 15 => .array .int
  | 16 => .array .int
  | _ => .int
abbrev wsX100 : List Cond := u_ws RX10 TX10 18
theorem nmX10 : ∀ a, a < 18 → ∀ b, b < 18 → a ≠ b → (TX10 a).2.1 ≠ (TX10 b).2.1 := by decide +kernel
theorem tyX10_ok : ∀ k, k < 18 → parseFieldDescriptor (TX10 k).2.2.1 = some (tyX10 k) := by decide +kernel
abbrev cX10_init : ByteArray := prog_1_method_1_code
def yX10_init : MethodName := ⟨RX10, "<init>", "()V"⟩
abbrev cX10_refuse : ByteArray := prog_1_method_2_code
def yX10_refuse : MethodName := ⟨RX10, "refuse", "(I)I"⟩
abbrev cX10_first : ByteArray := prog_1_method_3_code
def yX10_first : MethodName := ⟨RX10, "first", "(II)I"⟩
abbrev cX10_nobody : ByteArray := prog_1_method_4_code
def yX10_nobody : MethodName := ⟨RX10, "nobody", "(I)I"⟩
abbrev cX10_nobodyOfTwo : ByteArray := prog_1_method_5_code
def yX10_nobodyOfTwo : MethodName := ⟨RX10, "nobodyOfTwo", "(II)I"⟩
abbrev cX10_noSuch : ByteArray := prog_1_method_6_code
def yX10_noSuch : MethodName := ⟨RX10, "noSuch", "(II)I"⟩
abbrev cX10_outside : ByteArray := prog_1_method_7_code
def yX10_outside : MethodName := ⟨RX10, "outside", "(III)I"⟩
abbrev cX10_noPart : ByteArray := prog_1_method_8_code
def yX10_noPart : MethodName := ⟨RX10, "noPart", "(I)I"⟩
abbrev cX10_outsideTwo : ByteArray := prog_1_method_9_code
def yX10_outsideTwo : MethodName := ⟨RX10, "outsideTwo", "(II)I"⟩
abbrev cX10_feed : ByteArray := prog_1_method_10_code
def yX10_feed : MethodName := ⟨RX10, "feed", "(I)I"⟩
abbrev cX10_ground : ByteArray := prog_1_method_11_code
def yX10_ground : MethodName := ⟨RX10, "ground", "()I"⟩
abbrev cX10_digitsBehind : ByteArray := prog_1_method_12_code
def yX10_digitsBehind : MethodName := ⟨RX10, "digitsBehind", "(I)I"⟩
abbrev cX10_firstBadLetter : ByteArray := prog_1_method_13_code
def yX10_firstBadLetter : MethodName := ⟨RX10, "firstBadLetter", "()I"⟩
abbrev cX10_span : ByteArray := prog_1_method_14_code
def yX10_span : MethodName := ⟨RX10, "span", "(I)I"⟩
abbrev cX10_statementsInMind : ByteArray := prog_1_method_15_code
def yX10_statementsInMind : MethodName := ⟨RX10, "statementsInMind", "()I"⟩
abbrev cX10_comes : ByteArray := prog_1_method_16_code
def yX10_comes : MethodName := ⟨RX10, "comes", "(I)Z"⟩
abbrev cX10_isMinus : ByteArray := prog_1_method_17_code
def yX10_isMinus : MethodName := ⟨RX10, "isMinus", "(I)Z"⟩
abbrev cX10_number : ByteArray := prog_1_method_18_code
def yX10_number : MethodName := ⟨RX10, "number", "(II)I"⟩
abbrev cX10_windComes : ByteArray := prog_1_method_19_code
def yX10_windComes : MethodName := ⟨RX10, "windComes", "(ZI)Z"⟩
abbrev cX10_stridesCome : ByteArray := prog_1_method_20_code
def yX10_stridesCome : MethodName := ⟨RX10, "stridesCome", "(I)Z"⟩
abbrev cX10_goOnComes : ByteArray := prog_1_method_21_code
def yX10_goOnComes : MethodName := ⟨RX10, "goOnComes", "(I)Z"⟩
abbrev cX10_jumperComes : ByteArray := prog_1_method_22_code
def yX10_jumperComes : MethodName := ⟨RX10, "jumperComes", "(I)Z"⟩
abbrev cX10_tryComes : ByteArray := prog_1_method_23_code
def yX10_tryComes : MethodName := ⟨RX10, "tryComes", "(I)Z"⟩
abbrev cX10_jumper : ByteArray := prog_1_method_24_code
def yX10_jumper : MethodName := ⟨RX10, "jumper", "(II)I"⟩
abbrev cX10_mark : ByteArray := prog_1_method_25_code
def yX10_mark : MethodName := ⟨RX10, "mark", "(II)I"⟩
abbrev cX10_look : ByteArray := prog_1_method_26_code
def yX10_look : MethodName := ⟨RX10, "look", "(II)I"⟩
abbrev cX10_set : ByteArray := prog_1_method_27_code
def yX10_set : MethodName := ⟨RX10, "set", "(II)I"⟩
abbrev cX10_wind : ByteArray := prog_1_method_28_code
def yX10_wind : MethodName := ⟨RX10, "wind", "(I)I"⟩
abbrev cX10_stride : ByteArray := prog_1_method_29_code
def yX10_stride : MethodName := ⟨RX10, "stride", "(II)I"⟩
abbrev cX10_place : ByteArray := prog_1_method_30_code
def yX10_place : MethodName := ⟨RX10, "place", "(I)I"⟩
abbrev cX10_placeOf : ByteArray := prog_1_method_31_code
def yX10_placeOf : MethodName := ⟨RX10, "placeOf", "(I)I"⟩
abbrev cX10_length : ByteArray := prog_1_method_32_code
def yX10_length : MethodName := ⟨RX10, "length", "(III)I"⟩
abbrev cX10_fraction : ByteArray := prog_1_method_33_code
def yX10_fraction : MethodName := ⟨RX10, "fraction", "(JJI)J"⟩
abbrev cX10_spreadNow : ByteArray := prog_1_method_34_code
def yX10_spreadNow : MethodName := ⟨RX10, "spreadNow", "(II)V"⟩
abbrev cX10_spreadAt : ByteArray := prog_1_method_35_code
def yX10_spreadAt : MethodName := ⟨RX10, "spreadAt", "(LMarkToBoard$Jumper;I)V"⟩
abbrev cX10_off : ByteArray := prog_1_method_36_code
def yX10_off : MethodName := ⟨RX10, "off", "(III)J"⟩
abbrev cX10_mean : ByteArray := prog_1_method_37_code
def yX10_mean : MethodName := ⟨RX10, "mean", "(III)J"⟩
abbrev cX10_past : ByteArray := prog_1_method_38_code
def yX10_past : MethodName := ⟨RX10, "past", "(III)J"⟩
abbrev cX10_bestLook : ByteArray := prog_1_method_39_code
def yX10_bestLook : MethodName := ⟨RX10, "bestLook", "(I)I"⟩
abbrev cX10_bestMark : ByteArray := prog_1_method_40_code
def yX10_bestMark : MethodName := ⟨RX10, "bestMark", "(II)I"⟩
abbrev cX10_back : ByteArray := prog_1_method_41_code
def yX10_back : MethodName := ⟨RX10, "back", "(II)I"⟩
abbrev cX10_turn : ByteArray := prog_1_method_42_code
def yX10_turn : MethodName := ⟨RX10, "turn", "()I"⟩
abbrev cX10_notInTurn : ByteArray := prog_1_method_43_code
def yX10_notInTurn : MethodName := ⟨RX10, "notInTurn", "(I)I"⟩
abbrev cX10_jump : ByteArray := prog_1_method_44_code
def yX10_jump : MethodName := ⟨RX10, "jump", "(II)I"⟩
abbrev cX10_none : ByteArray := prog_1_method_45_code
def yX10_none : MethodName := ⟨RX10, "none", "(II)I"⟩
abbrev cX10_undo : ByteArray := prog_1_method_46_code
def yX10_undo : MethodName := ⟨RX10, "undo", "()I"⟩
abbrev cX10_tried : ByteArray := prog_1_method_47_code
def yX10_tried : MethodName := ⟨RX10, "tried", "(II)I"⟩
abbrev cX10_needs : ByteArray := prog_1_method_48_code
def yX10_needs : MethodName := ⟨RX10, "needs", "(II)I"⟩
abbrev cX10_leastFor : ByteArray := prog_1_method_49_code
def yX10_leastFor : MethodName := ⟨RX10, "leastFor", "(II)I"⟩
abbrev cX10_ranks : ByteArray := prog_1_method_50_code
def yX10_ranks : MethodName := ⟨RX10, "ranks", "(I)I"⟩
abbrev cX10_leads : ByteArray := prog_1_method_51_code
def yX10_leads : MethodName := ⟨RX10, "leads", "()I"⟩
abbrev cX10_goOn : ByteArray := prog_1_method_52_code
def yX10_goOn : MethodName := ⟨RX10, "goOn", "()I"⟩
abbrev cX10_aim : ByteArray := prog_1_method_53_code
def yX10_aim : MethodName := ⟨RX10, "aim", "(IIII)I"⟩
abbrev cX10_leftOf : ByteArray := prog_1_method_54_code
def yX10_leftOf : MethodName := ⟨RX10, "leftOf", "(II)I"⟩
abbrev cX10_tooLong : ByteArray := prog_1_method_55_code
def yX10_tooLong : MethodName := ⟨RX10, "tooLong", "()I"⟩
abbrev cX10_unlike : ByteArray := prog_1_method_56_code
def yX10_unlike : MethodName := ⟨RX10, "unlike", "()I"⟩
abbrev cX10_greatestFrom : ByteArray := prog_1_method_57_code
def yX10_greatestFrom : MethodName := ⟨RX10, "greatestFrom", "(I)I"⟩
abbrev cX10_leastAhead : ByteArray := prog_1_method_58_code
def yX10_leastAhead : MethodName := ⟨RX10, "leastAhead", "(I)I"⟩
abbrev cX10_moved : ByteArray := prog_1_method_59_code
def yX10_moved : MethodName := ⟨RX10, "moved", "(I)I"⟩
abbrev cX10_gusts : ByteArray := prog_1_method_60_code
def yX10_gusts : MethodName := ⟨RX10, "gusts", "(I)I"⟩
abbrev cX10_on : ByteArray := prog_1_method_61_code
def yX10_on : MethodName := ⟨RX10, "on", "(II)J"⟩
abbrev cX10_row : ByteArray := prog_1_method_62_code
def yX10_row : MethodName := ⟨RX10, "row", "(I)I"⟩
abbrev cX10_judge : ByteArray := prog_1_method_63_code
def yX10_judge : MethodName := ⟨RX10, "judge", "()I"⟩
abbrev cX10_judged : ByteArray := prog_1_method_64_code
def yX10_judged : MethodName := ⟨RX10, "judged", "()I"⟩
abbrev cX10_clear : ByteArray := prog_1_method_65_code
def yX10_clear : MethodName := ⟨RX10, "clear", "()I"⟩
abbrev cX10_seeds : ByteArray := prog_1_method_66_code
def yX10_seeds : MethodName := ⟨RX10, "seeds", "(IIII)I"⟩
abbrev cX10_playToTheEnd : ByteArray := prog_1_method_67_code
def yX10_playToTheEnd : MethodName := ⟨RX10, "playToTheEnd", "(I)I"⟩
abbrev cX10_runByDraws : ByteArray := prog_1_method_68_code
def yX10_runByDraws : MethodName := ⟨RX10, "runByDraws", "(I)I"⟩
abbrev cX10_drawBelow : ByteArray := prog_1_method_69_code
def yX10_drawBelow : MethodName := ⟨RX10, "drawBelow", "(I)I"⟩
abbrev cX10_parts : ByteArray := prog_1_method_70_code
def yX10_parts : MethodName := ⟨RX10, "parts", "(II)I"⟩
abbrev cX10_fillParts : ByteArray := prog_1_method_71_code
def yX10_fillParts : MethodName := ⟨RX10, "fillParts", "([III)V"⟩
abbrev cX10_moreByParts : ByteArray := prog_1_method_72_code
def yX10_moreByParts : MethodName := ⟨RX10, "moreByParts", "()I"⟩
abbrev cX10_more : ByteArray := prog_1_method_73_code
def yX10_more : MethodName := ⟨RX10, "more", "(II)I"⟩
abbrev cX10_duel : ByteArray := prog_1_method_74_code
def yX10_duel : MethodName := ⟨RX10, "duel", "(III)I"⟩
abbrev cX10_leastOfRow : ByteArray := prog_1_method_75_code
def yX10_leastOfRow : MethodName := ⟨RX10, "leastOfRow", "(I)I"⟩
abbrev cX10_mostOfColumn : ByteArray := prog_1_method_76_code
def yX10_mostOfColumn : MethodName := ⟨RX10, "mostOfColumn", "(I)I"⟩
abbrev cX10_sure : ByteArray := prog_1_method_77_code
def yX10_sure : MethodName := ⟨RX10, "sure", "()I"⟩
abbrev cX10_calmPair : ByteArray := prog_1_method_78_code
def yX10_calmPair : MethodName := ⟨RX10, "calmPair", "(I)I"⟩
abbrev cX10_practice : ByteArray := prog_1_method_79_code
def yX10_practice : MethodName := ⟨RX10, "practice", "(I)I"⟩
abbrev cX10_meanAt : ByteArray := prog_1_method_80_code
def yX10_meanAt : MethodName := ⟨RX10, "meanAt", "(I)J"⟩
abbrev cX10_practised : ByteArray := prog_1_method_81_code
def yX10_practised : MethodName := ⟨RX10, "practised", "(I)Z"⟩
abbrev cX10_bestRun : ByteArray := prog_1_method_82_code
def yX10_bestRun : MethodName := ⟨RX10, "bestRun", "(I)I"⟩
abbrev cX10_markIn : ByteArray := prog_1_method_83_code
def yX10_markIn : MethodName := ⟨RX10, "markIn", "(II)I"⟩
abbrev cX10_fouled : ByteArray := prog_1_method_84_code
def yX10_fouled : MethodName := ⟨RX10, "fouled", "(II)J"⟩
abbrev cX10_better : ByteArray := prog_1_method_85_code
def yX10_better : MethodName := ⟨RX10, "better", "(I)I"⟩
abbrev cX10_half : ByteArray := prog_1_method_86_code
def yX10_half : MethodName := ⟨RX10, "half", "(I)I"⟩
abbrev cX10_insert : ByteArray := prog_1_method_87_code
def yX10_insert : MethodName := ⟨RX10, "insert", "([III)V"⟩
abbrev cX10_fullLength : ByteArray := prog_1_method_88_code
def yX10_fullLength : MethodName := ⟨RX10, "fullLength", "(I)I"⟩
abbrev cX10_safe : ByteArray := prog_1_method_89_code
def yX10_safe : MethodName := ⟨RX10, "safe", "(I)I"⟩
abbrev cX10_mayStill : ByteArray := prog_1_method_90_code
def yX10_mayStill : MethodName := ⟨RX10, "mayStill", "()I"⟩
abbrev cX10_image : ByteArray := prog_1_method_91_code
def yX10_image : MethodName := ⟨RX10, "image", "()I"⟩
abbrev cX10_restore : ByteArray := prog_1_method_92_code
def yX10_restore : MethodName := ⟨RX10, "restore", "()I"⟩
abbrev cX10_count : ByteArray := prog_1_method_93_code
def yX10_count : MethodName := ⟨RX10, "count", "(I)I"⟩
def RX11 : String := "MarkToBoardModel"
def TX11 : u_T := fun k => match k with
  | 0 => ("MarkToBoardModel", "refused", "[I", true)
  | 1 => ("MarkToBoardModel", "kind", "[I", true)
  | 2 => ("MarkToBoardModel", "figure", "[I", true)
  | 3 => ("MarkToBoardModel", "step", "[I", true)
  | 4 => ("MarkToBoardModel", "grow", "[I", true)
  | 5 => ("MarkToBoardModel", "slip", "[I", true)
  | 6 => ("MarkToBoardModel", "pace", "[I", true)
  | 7 => ("MarkToBoardModel", "look", "[I", true)
  | 8 => ("MarkToBoardModel", "mark", "[I", true)
  | 9 => ("MarkToBoardModel", "triedBy", "[I", true)
  | 10 => ("MarkToBoardModel", "triedIs", "[I", true)
  | 11 => ("MarkToBoardModel", "triedOff", "[I", true)
  | 12 => ("MarkToBoardModel", "strides", "I", false)
  | 13 => ("MarkToBoardModel", "goOn", "I", false)
  | 14 => ("MarkToBoardModel", "wind", "I", false)
  | 15 => ("MarkToBoardModel", "jumpers", "I", false)
  | 16 => ("MarkToBoardModel", "tries", "I", false)
  | 17 => ("MarkToBoardModel", "tape", "[I", true)
  | 18 => ("MarkToBoardModel", "letter", "[I", true)
  | 19 => ("MarkToBoardModel", "letterAt", "[I", true)
  | 20 => ("MarkToBoardModel", "told", "[I", true)
  | 21 => ("MarkToBoardModel", "taped", "I", false)
  | 22 => ("MarkToBoardModel", "at", "I", false)
  | 23 => ("MarkToBoardModel", "statements", "I", false)
  | 24 => ("MarkToBoardModel", "kept", "[I", true)
  | 25 => ("MarkToBoardModel", "hasImage", "Z", false)
  | 26 => ("MarkToBoardModel", "isKeeping", "Z", false)
  | 27 => ("MarkToBoardModel", "cursor", "I", false)
  | 28 => ("MarkToBoardModel", "ahead", "[J", true)
  | 29 => ("MarkToBoardModel", "behind", "[J", true)
  | 30 => ("MarkToBoardModel", "longest", "[I", true)
  | 31 => ("MarkToBoardModel", "second", "[I", true)
  | 32 => ("MarkToBoardModel", "order", "[I", true)
  | 33 => ("MarkToBoardModel", "row", "[I", true)
  | 34 => ("MarkToBoardModel", "rowMany", "I", false)
  | 35 => ("MarkToBoardModel", "meanCut", "[I", true)
  | 36 => ("MarkToBoardModel", "lengthWays", "[J", true)
  | 37 => ("MarkToBoardModel", "otherWays", "[J", true)
  | 38 => ("MarkToBoardModel", "duelMore", "[I", true)
  | 39 => ("MarkToBoardModel", "lengths", "[I", true)
  | _ => ("MarkToBoardModel", "lots", "I", false)
def tyX11 : Nat → FieldType := fun k => match k with
  | 0 => .array .int
  | 1 => .array .int
  | 2 => .array .int
  | 3 => .array .int
  | 4 => .array .int
  | 5 => .array .int
  | 6 => .array .int
  | 7 => .array .int
  | 8 => .array .int
  | 9 => .array .int
  | 10 => .array .int
  | 11 => .array .int
  | 12 => .int
  | 13 => .int
  | 14 => .int
  | 15 => .int
  | 16 => .int
  | 17 => .array .int
  | 18 => .array .int
  | 19 => .array .int
  | 20 => .array .int
  | 21 => .int
  | 22 => .int
  | 23 => .int
  | 24 => .array .int
  | 25 => .boolean
  | 26 => .boolean
  | 27 => .int
  | 28 => .array .long
  | 29 => .array .long
  | 30 => .array .int
  | 31 => .array .int
  | 32 => .array .int
  | 33 => .array .int
  | 34 => .int
  | 35 => .array .int
  | 36 => .array .long
  | 37 => .array .long
  | 38 => .array .int
  | 39 => .array .int
  | _ => .int
abbrev wsX110 : List Cond := u_ws RX11 TX11 41
theorem nmX11 : ∀ a, a < 41 → ∀ b, b < 41 → a ≠ b → (TX11 a).2.1 ≠ (TX11 b).2.1 := by decide +kernel
theorem tyX11_ok : ∀ k, k < 41 → parseFieldDescriptor (TX11 k).2.2.1 = some (tyX11 k) := by decide +kernel
abbrev cX11_init : ByteArray := prog_13_method_1_code
def yX11_init : MethodName := ⟨RX11, "<init>", "()V"⟩
abbrev cX11_no : ByteArray := prog_13_method_2_code
def yX11_no : MethodName := ⟨RX11, "no", "(I)I"⟩
abbrev cX11_lower : ByteArray := prog_13_method_3_code
def yX11_lower : MethodName := ⟨RX11, "lower", "(I)I"⟩
abbrev cX11_lowest : ByteArray := prog_13_method_4_code
def yX11_lowest : MethodName := ⟨RX11, "lowest", "(I)J"⟩
abbrev cX11_isIn : ByteArray := prog_13_method_5_code
def yX11_isIn : MethodName := ⟨RX11, "isIn", "(III)Z"⟩
abbrev cX11_bound : ByteArray := prog_13_method_6_code
def yX11_bound : MethodName := ⟨RX11, "bound", "(III)I"⟩
abbrev cX11_atLeast0 : ByteArray := prog_13_method_7_code
def yX11_atLeast0 : MethodName := ⟨RX11, "atLeast0", "(I)I"⟩
abbrev cX11_isJumper : ByteArray := prog_13_method_8_code
def yX11_isJumper : MethodName := ⟨RX11, "isJumper", "(I)Z"⟩
abbrev cX11_feed : ByteArray := prog_13_method_9_code
def yX11_feed : MethodName := ⟨RX11, "feed", "(I)I"⟩
abbrev cX11_next : ByteArray := prog_13_method_10_code
def yX11_next : MethodName := ⟨RX11, "next", "()I"⟩
abbrev cX11_readsDigits : ByteArray := prog_13_method_11_code
def yX11_readsDigits : MethodName := ⟨RX11, "readsDigits", "(II)Z"⟩
abbrev cX11_readsWind : ByteArray := prog_13_method_12_code
def yX11_readsWind : MethodName := ⟨RX11, "readsWind", "(I)Z"⟩
abbrev cX11_readsJumper : ByteArray := prog_13_method_13_code
def yX11_readsJumper : MethodName := ⟨RX11, "readsJumper", "(I)Z"⟩
abbrev cX11_readsAll : ByteArray := prog_13_method_14_code
def yX11_readsAll : MethodName := ⟨RX11, "readsAll", "(II)Z"⟩
abbrev cX11_statement : ByteArray := prog_13_method_15_code
def yX11_statement : MethodName := ⟨RX11, "statement", "()Z"⟩
abbrev cX11_comesJumper : ByteArray := prog_13_method_16_code
def yX11_comesJumper : MethodName := ⟨RX11, "comesJumper", "(I)Z"⟩
abbrev cX11_comesTry : ByteArray := prog_13_method_17_code
def yX11_comesTry : MethodName := ⟨RX11, "comesTry", "(II)Z"⟩
abbrev cX11_comes : ByteArray := prog_13_method_18_code
def yX11_comes : MethodName := ⟨RX11, "comes", "(I)Z"⟩
abbrev cX11_ground : ByteArray := prog_13_method_19_code
def yX11_ground : MethodName := ⟨RX11, "ground", "()I"⟩
abbrev cX11_passes : ByteArray := prog_13_method_20_code
def yX11_passes : MethodName := ⟨RX11, "passes", "([I)V"⟩
abbrev cX11_passOne : ByteArray := prog_13_method_21_code
def yX11_passOne : MethodName := ⟨RX11, "passOne", "(I)I"⟩
abbrev cX11_passesAll : ByteArray := prog_13_method_22_code
def yX11_passesAll : MethodName := ⟨RX11, "passesAll", "(IZ)V"⟩
abbrev cX11_image : ByteArray := prog_13_method_23_code
def yX11_image : MethodName := ⟨RX11, "image", "()I"⟩
abbrev cX11_restore : ByteArray := prog_13_method_24_code
def yX11_restore : MethodName := ⟨RX11, "restore", "()I"⟩
abbrev cX11_strideIn : ByteArray := prog_13_method_25_code
def yX11_strideIn : MethodName := ⟨RX11, "strideIn", "(III)I"⟩
abbrev cX11_allStrides : ByteArray := prog_13_method_26_code
def yX11_allStrides : MethodName := ⟨RX11, "allStrides", "(II)I"⟩
abbrev cX11_placeOf : ByteArray := prog_13_method_27_code
def yX11_placeOf : MethodName := ⟨RX11, "placeOf", "(I)I"⟩
abbrev cX11_aimOf : ByteArray := prog_13_method_28_code
def yX11_aimOf : MethodName := ⟨RX11, "aimOf", "(I)I"⟩
abbrev cX11_lengthOf : ByteArray := prog_13_method_29_code
def yX11_lengthOf : MethodName := ⟨RX11, "lengthOf", "(III)I"⟩
abbrev cX11_jumper : ByteArray := prog_13_method_30_code
def yX11_jumper : MethodName := ⟨RX11, "jumper", "(II)I"⟩
abbrev cX11_mark : ByteArray := prog_13_method_31_code
def yX11_mark : MethodName := ⟨RX11, "mark", "(II)I"⟩
abbrev cX11_look : ByteArray := prog_13_method_32_code
def yX11_look : MethodName := ⟨RX11, "look", "(II)I"⟩
abbrev cX11_set : ByteArray := prog_13_method_33_code
def yX11_set : MethodName := ⟨RX11, "set", "(II)I"⟩
abbrev cX11_wind : ByteArray := prog_13_method_34_code
def yX11_wind : MethodName := ⟨RX11, "wind", "(I)I"⟩
abbrev cX11_stride : ByteArray := prog_13_method_35_code
def yX11_stride : MethodName := ⟨RX11, "stride", "(II)I"⟩
abbrev cX11_place : ByteArray := prog_13_method_36_code
def yX11_place : MethodName := ⟨RX11, "place", "(I)I"⟩
abbrev cX11_length : ByteArray := prog_13_method_37_code
def yX11_length : MethodName := ⟨RX11, "length", "(III)I"⟩
abbrev cX11_findWays : ByteArray := prog_13_method_38_code
def yX11_findWays : MethodName := ⟨RX11, "findWays", "([JI)V"⟩
abbrev cX11_counted : ByteArray := prog_13_method_39_code
def yX11_counted : MethodName := ⟨RX11, "counted", "(IIII)J"⟩
abbrev cX11_countedOne : ByteArray := prog_13_method_40_code
def yX11_countedOne : MethodName := ⟨RX11, "countedOne", "(IIIII)I"⟩
abbrev cX11_allWays : ByteArray := prog_13_method_41_code
def yX11_allWays : MethodName := ⟨RX11, "allWays", "()J"⟩
abbrev cX11_divisor : ByteArray := prog_13_method_42_code
def yX11_divisor : MethodName := ⟨RX11, "divisor", "(JJ)J"⟩
abbrev cX11_partOf : ByteArray := prog_13_method_43_code
def yX11_partOf : MethodName := ⟨RX11, "partOf", "(JJI)J"⟩
abbrev cX11_off : ByteArray := prog_13_method_44_code
def yX11_off : MethodName := ⟨RX11, "off", "(III)J"⟩
abbrev cX11_meanParts : ByteArray := prog_13_method_45_code
def yX11_meanParts : MethodName := ⟨RX11, "meanParts", "(I)J"⟩
abbrev cX11_mean : ByteArray := prog_13_method_46_code
def yX11_mean : MethodName := ⟨RX11, "mean", "(III)J"⟩
abbrev cX11_past : ByteArray := prog_13_method_47_code
def yX11_past : MethodName := ⟨RX11, "past", "(III)J"⟩
abbrev cX11_bestLook : ByteArray := prog_13_method_48_code
def yX11_bestLook : MethodName := ⟨RX11, "bestLook", "(I)I"⟩
abbrev cX11_bestMark : ByteArray := prog_13_method_49_code
def yX11_bestMark : MethodName := ⟨RX11, "bestMark", "(II)I"⟩
abbrev cX11_back : ByteArray := prog_13_method_50_code
def yX11_back : MethodName := ⟨RX11, "back", "(II)I"⟩
abbrev cX11_triedAs : ByteArray := prog_13_method_51_code
def yX11_triedAs : MethodName := ⟨RX11, "triedAs", "(II)I"⟩
abbrev cX11_findBest : ByteArray := prog_13_method_52_code
def yX11_findBest : MethodName := ⟨RX11, "findBest", "(II)V"⟩
abbrev cX11_comesLength : ByteArray := prog_13_method_53_code
def yX11_comesLength : MethodName := ⟨RX11, "comesLength", "(II)V"⟩
abbrev cX11_isAhead : ByteArray := prog_13_method_54_code
def yX11_isAhead : MethodName := ⟨RX11, "isAhead", "(II)Z"⟩
abbrev cX11_sorts : ByteArray := prog_13_method_55_code
def yX11_sorts : MethodName := ⟨RX11, "sorts", "()V"⟩
abbrev cX11_ranksNow : ByteArray := prog_13_method_56_code
def yX11_ranksNow : MethodName := ⟨RX11, "ranksNow", "()V"⟩
abbrev cX11_finalists : ByteArray := prog_13_method_57_code
def yX11_finalists : MethodName := ⟨RX11, "finalists", "()I"⟩
abbrev cX11_turnNow : ByteArray := prog_13_method_58_code
def yX11_turnNow : MethodName := ⟨RX11, "turnNow", "()I"⟩
abbrev cX11_roundNow : ByteArray := prog_13_method_59_code
def yX11_roundNow : MethodName := ⟨RX11, "roundNow", "()I"⟩
abbrev cX11_putsTry : ByteArray := prog_13_method_60_code
def yX11_putsTry : MethodName := ⟨RX11, "putsTry", "(III)V"⟩
abbrev cX11_triesOf : ByteArray := prog_13_method_61_code
def yX11_triesOf : MethodName := ⟨RX11, "triesOf", "(I)I"⟩
abbrev cX11_turn : ByteArray := prog_13_method_62_code
def yX11_turn : MethodName := ⟨RX11, "turn", "()I"⟩
abbrev cX11_jump : ByteArray := prog_13_method_63_code
def yX11_jump : MethodName := ⟨RX11, "jump", "(II)I"⟩
abbrev cX11_none : ByteArray := prog_13_method_64_code
def yX11_none : MethodName := ⟨RX11, "none", "(II)I"⟩
abbrev cX11_undo : ByteArray := prog_13_method_65_code
def yX11_undo : MethodName := ⟨RX11, "undo", "()I"⟩
abbrev cX11_tried : ByteArray := prog_13_method_66_code
def yX11_tried : MethodName := ⟨RX11, "tried", "(II)I"⟩
abbrev cX11_rankOf : ByteArray := prog_13_method_67_code
def yX11_rankOf : MethodName := ⟨RX11, "rankOf", "(I)I"⟩
abbrev cX11_isEnough : ByteArray := prog_13_method_68_code
def yX11_isEnough : MethodName := ⟨RX11, "isEnough", "(III)Z"⟩
abbrev cX11_needs : ByteArray := prog_13_method_69_code
def yX11_needs : MethodName := ⟨RX11, "needs", "(II)I"⟩
abbrev cX11_ranks : ByteArray := prog_13_method_70_code
def yX11_ranks : MethodName := ⟨RX11, "ranks", "(I)I"⟩
abbrev cX11_leader : ByteArray := prog_13_method_71_code
def yX11_leader : MethodName := ⟨RX11, "leader", "()I"⟩
abbrev cX11_leads : ByteArray := prog_13_method_72_code
def yX11_leads : MethodName := ⟨RX11, "leads", "()I"⟩
abbrev cX11_goOnBits : ByteArray := prog_13_method_73_code
def yX11_goOnBits : MethodName := ⟨RX11, "goOnBits", "()I"⟩
abbrev cX11_goOn : ByteArray := prog_13_method_74_code
def yX11_goOn : MethodName := ⟨RX11, "goOn", "()I"⟩
abbrev cX11_tenThousandths : ByteArray := prog_13_method_75_code
def yX11_tenThousandths : MethodName := ⟨RX11, "tenThousandths", "(IIII)I"⟩
abbrev cX11_aim : ByteArray := prog_13_method_76_code
def yX11_aim : MethodName := ⟨RX11, "aim", "(IIII)I"⟩
abbrev cX11_tooLong : ByteArray := prog_13_method_77_code
def yX11_tooLong : MethodName := ⟨RX11, "tooLong", "()I"⟩
abbrev cX11_unlike : ByteArray := prog_13_method_78_code
def yX11_unlike : MethodName := ⟨RX11, "unlike", "()I"⟩
abbrev cX11_isMovedFrom : ByteArray := prog_13_method_79_code
def yX11_isMovedFrom : MethodName := ⟨RX11, "isMovedFrom", "(II)Z"⟩
abbrev cX11_moved : ByteArray := prog_13_method_80_code
def yX11_moved : MethodName := ⟨RX11, "moved", "(I)I"⟩
abbrev cX11_gusts : ByteArray := prog_13_method_81_code
def yX11_gusts : MethodName := ⟨RX11, "gusts", "(I)I"⟩
abbrev cX11_on : ByteArray := prog_13_method_82_code
def yX11_on : MethodName := ⟨RX11, "on", "(II)J"⟩
abbrev cX11_row : ByteArray := prog_13_method_83_code
def yX11_row : MethodName := ⟨RX11, "row", "(I)I"⟩
abbrev cX11_isOther : ByteArray := prog_13_method_84_code
def yX11_isOther : MethodName := ⟨RX11, "isOther", "(I)Z"⟩
abbrev cX11_judge : ByteArray := prog_13_method_85_code
def yX11_judge : MethodName := ⟨RX11, "judge", "()I"⟩
abbrev cX11_clear : ByteArray := prog_13_method_86_code
def yX11_clear : MethodName := ⟨RX11, "clear", "()I"⟩
abbrev cX11_findLengths : ByteArray := prog_13_method_87_code
def yX11_findLengths : MethodName := ⟨RX11, "findLengths", "(II[J)V"⟩
abbrev cX11_partOfWays : ByteArray := prog_13_method_88_code
def yX11_partOfWays : MethodName := ⟨RX11, "partOfWays", "(J)J"⟩
abbrev cX11_parts : ByteArray := prog_13_method_89_code
def yX11_parts : MethodName := ⟨RX11, "parts", "(II)I"⟩
abbrev cX11_areTwo : ByteArray := prog_13_method_90_code
def yX11_areTwo : MethodName := ⟨RX11, "areTwo", "(II)Z"⟩
abbrev cX11_moreFrom : ByteArray := prog_13_method_91_code
def yX11_moreFrom : MethodName := ⟨RX11, "moreFrom", "(IIII)I"⟩
abbrev cX11_more : ByteArray := prog_13_method_92_code
def yX11_more : MethodName := ⟨RX11, "more", "(II)I"⟩
abbrev cX11_rests : ByteArray := prog_13_method_93_code
def yX11_rests : MethodName := ⟨RX11, "rests", "(I)Z"⟩
abbrev cX11_sureMore : ByteArray := prog_13_method_94_code
def yX11_sureMore : MethodName := ⟨RX11, "sureMore", "()I"⟩
abbrev cX11_duel : ByteArray := prog_13_method_95_code
def yX11_duel : MethodName := ⟨RX11, "duel", "(III)I"⟩
abbrev cX11_canPractise : ByteArray := prog_13_method_96_code
def yX11_canPractise : MethodName := ⟨RX11, "canPractise", "(II)Z"⟩
abbrev cX11_practises : ByteArray := prog_13_method_97_code
def yX11_practises : MethodName := ⟨RX11, "practises", "(III)V"⟩
abbrev cX11_practice : ByteArray := prog_13_method_98_code
def yX11_practice : MethodName := ⟨RX11, "practice", "(I)I"⟩
abbrev cX11_bestRun : ByteArray := prog_13_method_99_code
def yX11_bestRun : MethodName := ⟨RX11, "bestRun", "(I)I"⟩
abbrev cX11_markIn : ByteArray := prog_13_method_100_code
def yX11_markIn : MethodName := ⟨RX11, "markIn", "(II)I"⟩
abbrev cX11_triesBy : ByteArray := prog_13_method_101_code
def yX11_triesBy : MethodName := ⟨RX11, "triesBy", "(II)I"⟩
abbrev cX11_fouled : ByteArray := prog_13_method_102_code
def yX11_fouled : MethodName := ⟨RX11, "fouled", "(II)J"⟩
abbrev cX11_better : ByteArray := prog_13_method_103_code
def yX11_better : MethodName := ⟨RX11, "better", "(I)I"⟩
abbrev cX11_half : ByteArray := prog_13_method_104_code
def yX11_half : MethodName := ⟨RX11, "half", "(I)I"⟩
abbrev cX11_safe : ByteArray := prog_13_method_105_code
def yX11_safe : MethodName := ⟨RX11, "safe", "(I)I"⟩
abbrev cX11_mayStill : ByteArray := prog_13_method_106_code
def yX11_mayStill : MethodName := ⟨RX11, "mayStill", "()I"⟩
abbrev cX11_drawnSlip : ByteArray := prog_13_method_107_code
def yX11_drawnSlip : MethodName := ⟨RX11, "drawnSlip", "(I)I"⟩
abbrev cX11_triesByLot : ByteArray := prog_13_method_108_code
def yX11_triesByLot : MethodName := ⟨RX11, "triesByLot", "(I)V"⟩
abbrev cX11_seeds : ByteArray := prog_13_method_109_code
def yX11_seeds : MethodName := ⟨RX11, "seeds", "(IIII)I"⟩
abbrev cX11_triesAs : ByteArray := prog_13_method_110_code
def yX11_triesAs : MethodName := ⟨RX11, "triesAs", "(I)I"⟩
abbrev cX11_count : ByteArray := prog_13_method_111_code
def yX11_count : MethodName := ⟨RX11, "count", "(I)I"⟩
def RJ9 : String := "java/lang/Math"
def TJ9 : u_T := fun k => match k with
  | _ => ("", "", "", false)
def tyJ9 : Nat → FieldType := fun k => match k with
  | _ => .int
theorem nmJ9 : ∀ a, a < 0 → ∀ b, b < 0 → a ≠ b → (TJ9 a).2.1 ≠ (TJ9 b).2.1 := by decide +kernel
theorem tyJ9_ok : ∀ k, k < 0 → parseFieldDescriptor (TJ9 k).2.2.1 = some (tyJ9 k) := by decide +kernel
abbrev cJ9_abs_0f7a4 : ByteArray := prog_14_method_59_code
def yJ9_abs_0f7a4 : MethodName := ⟨RJ9, "abs", "(I)I"⟩
abbrev cJ9_max_7cf53 : ByteArray := prog_14_method_65_code
def yJ9_max_7cf53 : MethodName := ⟨RJ9, "max", "(II)I"⟩
abbrev cJ9_min_7cf53 : ByteArray := prog_14_method_69_code
def yJ9_min_7cf53 : MethodName := ⟨RJ9, "min", "(II)I"⟩
def RJ10 : String := "java/lang/System"
def TJ10 : u_T := fun k => match k with
  | _ => ("", "", "", false)
def tyJ10 : Nat → FieldType := fun k => match k with
  | _ => .int
theorem nmJ10 : ∀ a, a < 0 → ∀ b, b < 0 → a ≠ b → (TJ10 a).2.1 ≠ (TJ10 b).2.1 := by decide +kernel
theorem tyJ10_ok : ∀ k, k < 0 → parseFieldDescriptor (TJ10 k).2.2.1 = some (tyJ10 k) := by decide +kernel
def RJ7 : String := "java/util/Arrays"
def TJ7 : u_T := fun k => match k with
  | _ => ("", "", "", false)
def tyJ7 : Nat → FieldType := fun k => match k with
  | _ => .int
theorem nmJ7 : ∀ a, a < 0 → ∀ b, b < 0 → a ≠ b → (TJ7 a).2.1 ≠ (TJ7 b).2.1 := by decide +kernel
theorem tyJ7_ok : ∀ k, k < 0 → parseFieldDescriptor (TJ7 k).2.2.1 = some (tyJ7 k) := by decide +kernel
abbrev cJ7_fill_d0a16 : ByteArray := prog_16_method_101_code
def yJ7_fill_d0a16 : MethodName := ⟨RJ7, "fill", "([JJ)V"⟩
abbrev cJ7_fill_53178 : ByteArray := prog_16_method_103_code
def yJ7_fill_53178 : MethodName := ⟨RJ7, "fill", "([II)V"⟩
def RL : String := "MarkToBoardLaw"
abbrev cL_law : ByteArray := code
def yL_law : MethodName := ⟨RL, "law", "([I)Z"⟩
abbrev vwCl : List vw_C := [(RX0, TX0, 0), (RX1, TX1, 5), (RX2, TX2, 9), (RX3, TX3, 0), (RX4, TX4, 0), (RX5, TX5, 10), (RX6, TX6, 3), (RX7, TX7, 0), (RX8, TX8, 0), (RX9, TX9, 0), (RX10, TX10, 18), (RX11, TX11, 41)]
end
section
/-! DECODING BY A WALK OVER THE BYTES: an opcode's entry says what the bytes behind it mean; each entry is held against the decoder -/
abbrev dV : Type := List UInt8 → Option (Instr × Nat)
def ev_fix (i : Instr) : dV := fun _ => some (i, 1)
def ev_u1 (f : Nat → Instr) : dV := fun t => match t with
  | a :: _ => some (f a.toNat, 2)
  | [] => none
def ev_s1 (f : Int → Instr) : dV := fun t => match t with
  | a :: _ => some (f (Reader.signed 8 a.toNat), 2)
  | [] => none
def ev_u2 (f : Nat → Instr) : dV := fun t => match t with
  | a :: b :: _ => some (f (a.toNat * 256 + b.toNat), 3)
  | _ => none
def ev_s2 (f : Int → Instr) : dV := fun t => match t with
  | a :: b :: _ => some (f (Reader.signed 16 (a.toNat * 256 + b.toNat)), 3)
  | _ => none
def ev_us (f : Nat → Int → Instr) : dV := fun t => match t with
  | a :: b :: _ => some (f a.toNat (Reader.signed 8 b.toNat), 3)
  | _ => none
theorem dr_bind {α β : Type} {r : Reader DecodeError α} {g : α → Reader DecodeError β} {c : ByteArray} {p q : Nat} {a : α} (h : r.runAt c p = .ok (a, q)) : (r >>= g).runAt c p = (g a).runAt c q := by
  have h2 : r c p = .ok (a, q) := h
  show (StateT.bind (r c) (fun a => g a c)) p = g a c q
  unfold StateT.bind
  rw [h2]
  rfl
theorem dr_u1 {c : ByteArray} {p : Nat} {b : UInt8} {t : List UInt8} (h : c.data.toList.drop p = b :: t) : (Reader.u1 (ε := DecodeError)).runAt c p = .ok (b.toNat, p + 1) := by
  have hl : p < c.size := by
    have h1 := congrArg List.length h
    rw [List.length_drop, List.length_cons] at h1
    have h2 : c.size = c.data.toList.length := rfl
    omega
  have hb : c[p]'hl = b := by
    have h2 := congrArg List.head? h
    rw [List.head?_drop] at h2
    rw [Array.getElem?_toList] at h2
    have h3 : c.data[p]? = some (c.data[p]'hl) := Array.getElem?_eq_getElem hl
    rw [h3] at h2
    exact Option.some.inj h2
  unfold Reader.u1
  have e1 : (read : Reader DecodeError ByteArray).runAt c p = .ok (c, p) := rfl
  have e2 : (get : Reader DecodeError Nat).runAt c p = .ok (p, p) := rfl
  refine (dr_bind e1).trans ((dr_bind e2).trans ?_)
  rw [dif_pos hl]
  have e3 : (set (p + 1) : Reader DecodeError PUnit).runAt c p = .ok (PUnit.unit, p + 1) := rfl
  refine (dr_bind e3).trans ?_
  show Except.ok ((c[p]'hl).toNat, p + 1) = _
  rw [hb]
theorem dr_tl {c : ByteArray} {p : Nat} {b : UInt8} {t : List UInt8} (h : c.data.toList.drop p = b :: t) : c.data.toList.drop (p + 1) = t := by
  have h1 := congrArg List.tail h
  rw [List.tail_drop] at h1
  exact h1
theorem dr_u2 {c : ByteArray} {p : Nat} {a b : UInt8} {t : List UInt8} (h : c.data.toList.drop p = a :: b :: t) : (Reader.u2 (ε := DecodeError)).runAt c p = .ok (a.toNat * 256 + b.toNat, p + 1 + 1) := by
  unfold Reader.u2
  exact (dr_bind (dr_u1 h)).trans ((dr_bind (dr_u1 (dr_tl h))).trans rfl)
theorem dr_map {α β : Type} {r : Reader DecodeError α} {f : α → β} {c : ByteArray} {p q : Nat} {a : α} (h : r.runAt c p = .ok (a, q)) : (f <$> r).runAt c p = .ok (f a, q) := by
  have h2 : r c p = .ok (a, q) := h
  show (StateT.map f (r c)) p = _
  unfold StateT.map
  rw [h2]
  rfl
theorem dr_s1 {c : ByteArray} {p : Nat} {b : UInt8} {t : List UInt8} (h : c.data.toList.drop p = b :: t) : (Reader.s1 (ε := DecodeError)).runAt c p = .ok (Reader.signed 8 b.toNat, p + 1) := dr_map (dr_u1 h)
theorem dr_s2 {c : ByteArray} {p : Nat} {a b : UInt8} {t : List UInt8} (h : c.data.toList.drop p = a :: b :: t) : (Reader.s2 (ε := DecodeError)).runAt c p = .ok (Reader.signed 16 (a.toNat * 256 + b.toNat), p + 1 + 1) := dr_map (dr_u2 h)
theorem dr_dec {c : ByteArray} {p n q : Nat} {i : Instr} (h : (Decoder.instr p).runAt c p = .ok (i, q)) (hq : q = p + n) : decode c p = .ok (i, n) := by
  unfold decode
  rw [h]
  show Except.ok (i, q - p) = _
  rw [hq, Nat.add_sub_cancel_left]
def dGood (k : Nat) (v : dV) : Prop := ∀ (c : ByteArray) (p : Nat) (b : UInt8) (t : List UInt8), c.data.toList.drop p = b :: t → b.toNat = k → ∀ x, v t = some x → decode c p = .ok x
/-- behind the opcode k the decoder runs R and makes f of what it answers -/
def dRun {α : Type} (k : Nat) (R : Reader DecodeError α) (f : α → Instr) : Prop := ∀ (c : ByteArray) (p q q2 : Nat) (a : α), (Reader.u1 (ε := DecodeError)).runAt c p = .ok (k, q) → R.runAt c q = .ok (a, q2) → (Decoder.instr p).runAt c p = .ok (f a, q2)
theorem gd_fix {k : Nat} {i : Instr} (H : ∀ (c : ByteArray) (p q : Nat), (Reader.u1 (ε := DecodeError)).runAt c p = .ok (k, q) → (Decoder.instr p).runAt c p = .ok (i, q)) : dGood k (ev_fix i) := by
  intro c p b t hd hk x hx
  have h1 := dr_u1 hd
  rw [hk] at h1
  have hx2 : (i, 1) = x := Option.some.inj hx
  rw [← hx2]
  exact dr_dec (H c p _ h1) rfl
theorem gd_u1 {k : Nat} {f : Nat → Instr} (H : dRun k Reader.u1 f) : dGood k (ev_u1 f) := by
  intro c p b t hd hk x hx
  have h1 := dr_u1 hd
  rw [hk] at h1
  cases t with
  | nil => exact absurd hx (by simp [ev_u1])
  | cons a t =>
    have hx2 : (f a.toNat, 2) = x := Option.some.inj hx
    rw [← hx2]
    exact dr_dec (H c p _ _ _ h1 (dr_u1 (dr_tl hd))) rfl
theorem gd_s1 {k : Nat} {f : Int → Instr} (H : dRun k Reader.s1 f) : dGood k (ev_s1 f) := by
  intro c p b t hd hk x hx
  have h1 := dr_u1 hd
  rw [hk] at h1
  cases t with
  | nil => exact absurd hx (by simp [ev_s1])
  | cons a t =>
    have hx2 : (f (Reader.signed 8 a.toNat), 2) = x := Option.some.inj hx
    rw [← hx2]
    exact dr_dec (H c p _ _ _ h1 (dr_s1 (dr_tl hd))) rfl
theorem gd_u2 {k : Nat} {f : Nat → Instr} (H : dRun k Reader.u2 f) : dGood k (ev_u2 f) := by
  intro c p b t hd hk x hx
  have h1 := dr_u1 hd
  rw [hk] at h1
  match t, hd, hx with
  | [], _, hx => exact absurd hx (by simp [ev_u2])
  | [_], _, hx => exact absurd hx (by simp [ev_u2])
  | a :: d :: t, hd, hx =>
    have hx2 : (f (a.toNat * 256 + d.toNat), 3) = x := Option.some.inj hx
    rw [← hx2]
    exact dr_dec (H c p _ _ _ h1 (dr_u2 (dr_tl hd))) rfl
theorem gd_s2 {k : Nat} {f : Int → Instr} (H : dRun k Reader.s2 f) : dGood k (ev_s2 f) := by
  intro c p b t hd hk x hx
  have h1 := dr_u1 hd
  rw [hk] at h1
  match t, hd, hx with
  | [], _, hx => exact absurd hx (by simp [ev_s2])
  | [_], _, hx => exact absurd hx (by simp [ev_s2])
  | a :: d :: t, hd, hx =>
    have hx2 : (f (Reader.signed 16 (a.toNat * 256 + d.toNat)), 3) = x := Option.some.inj hx
    rw [← hx2]
    exact dr_dec (H c p _ _ _ h1 (dr_s2 (dr_tl hd))) rfl
theorem gd_us {k : Nat} {f : Nat → Int → Instr} (H : ∀ (c : ByteArray) (p q q2 q3 : Nat) (a : Nat) (b : Int), (Reader.u1 (ε := DecodeError)).runAt c p = .ok (k, q) → (Reader.u1 (ε := DecodeError)).runAt c q = .ok (a, q2) → (Reader.s1 (ε := DecodeError)).runAt c q2 = .ok (b, q3) → (Decoder.instr p).runAt c p = .ok (f a b, q3)) : dGood k (ev_us f) := by
  intro c p b t hd hk x hx
  have h1 := dr_u1 hd
  rw [hk] at h1
  match t, hd, hx with
  | [], _, hx => exact absurd hx (by simp [ev_us])
  | [_], _, hx => exact absurd hx (by simp [ev_us])
  | a :: d :: t, hd, hx =>
    have hx2 : (f a.toNat (Reader.signed 8 d.toNat), 3) = x := Option.some.inj hx
    rw [← hx2]
    exact dr_dec (H c p _ _ _ _ _ h1 (dr_u1 (dr_tl hd)) (dr_s1 (dr_tl (dr_tl hd)))) rfl
theorem gd_none {k : Nat} : dGood k (fun _ => none) := fun _ _ _ _ _ _ _ hx => absurd hx (by simp)
theorem gd_if {k : Nat} {b : Bool} {x y : dV} (h1 : dGood k x) (h2 : dGood k y) : dGood k (bif b then x else y) := by
  cases b
  · exact h2
  · exact h1
theorem gd_leaf {k m : Nat} {v : dV} (h : dGood m v) : dGood k (bif Nat.beq k m then v else fun _ => none) := by
  cases e : Nat.beq k m with
  | false => exact gd_none
  | true => rw [Nat.eq_of_beq_eq_true e]; exact h
theorem op_2 : dGood 2 (ev_fix (.iconst (-1))) := gd_fix fun _ _ _ h1 => (dr_bind h1).trans rfl
theorem op_3 : dGood 3 (ev_fix (.iconst (0))) := gd_fix fun _ _ _ h1 => (dr_bind h1).trans rfl
theorem op_4 : dGood 4 (ev_fix (.iconst (1))) := gd_fix fun _ _ _ h1 => (dr_bind h1).trans rfl
theorem op_5 : dGood 5 (ev_fix (.iconst (2))) := gd_fix fun _ _ _ h1 => (dr_bind h1).trans rfl
theorem op_6 : dGood 6 (ev_fix (.iconst (3))) := gd_fix fun _ _ _ h1 => (dr_bind h1).trans rfl
theorem op_7 : dGood 7 (ev_fix (.iconst (4))) := gd_fix fun _ _ _ h1 => (dr_bind h1).trans rfl
theorem op_8 : dGood 8 (ev_fix (.iconst (5))) := gd_fix fun _ _ _ h1 => (dr_bind h1).trans rfl
theorem op_9 : dGood 9 (ev_fix (.lconst 0)) := gd_fix fun _ _ _ h1 => (dr_bind h1).trans rfl
theorem op_10 : dGood 10 (ev_fix (.lconst 1)) := gd_fix fun _ _ _ h1 => (dr_bind h1).trans rfl
theorem op_16 : dGood 16 (ev_s1 (.bipush)) := gd_s1 fun _ _ _ _ _ h1 h2 => (dr_bind h1).trans ((dr_bind h2).trans rfl)
theorem op_17 : dGood 17 (ev_s2 (.sipush)) := gd_s2 fun _ _ _ _ _ h1 h2 => (dr_bind h1).trans ((dr_bind h2).trans rfl)
theorem op_18 : dGood 18 (ev_u1 (.ldc)) := gd_u1 fun _ _ _ _ _ h1 h2 => (dr_bind h1).trans ((dr_bind h2).trans rfl)
theorem op_19 : dGood 19 (ev_u2 (.ldc_w)) := gd_u2 fun _ _ _ _ _ h1 h2 => (dr_bind h1).trans ((dr_bind h2).trans rfl)
theorem op_20 : dGood 20 (ev_u2 (.ldc2_w)) := gd_u2 fun _ _ _ _ _ h1 h2 => (dr_bind h1).trans ((dr_bind h2).trans rfl)
theorem op_21 : dGood 21 (ev_u1 (.iload)) := gd_u1 fun _ _ _ _ _ h1 h2 => (dr_bind h1).trans ((dr_bind h2).trans rfl)
theorem op_22 : dGood 22 (ev_u1 (.lload)) := gd_u1 fun _ _ _ _ _ h1 h2 => (dr_bind h1).trans ((dr_bind h2).trans rfl)
theorem op_25 : dGood 25 (ev_u1 (.aload)) := gd_u1 fun _ _ _ _ _ h1 h2 => (dr_bind h1).trans ((dr_bind h2).trans rfl)
theorem op_26 : dGood 26 (ev_fix (.iload_n 0)) := gd_fix fun _ _ _ h1 => (dr_bind h1).trans rfl
theorem op_27 : dGood 27 (ev_fix (.iload_n 1)) := gd_fix fun _ _ _ h1 => (dr_bind h1).trans rfl
theorem op_28 : dGood 28 (ev_fix (.iload_n 2)) := gd_fix fun _ _ _ h1 => (dr_bind h1).trans rfl
theorem op_29 : dGood 29 (ev_fix (.iload_n 3)) := gd_fix fun _ _ _ h1 => (dr_bind h1).trans rfl
theorem op_30 : dGood 30 (ev_fix (.lload_n 0)) := gd_fix fun _ _ _ h1 => (dr_bind h1).trans rfl
theorem op_31 : dGood 31 (ev_fix (.lload_n 1)) := gd_fix fun _ _ _ h1 => (dr_bind h1).trans rfl
theorem op_32 : dGood 32 (ev_fix (.lload_n 2)) := gd_fix fun _ _ _ h1 => (dr_bind h1).trans rfl
theorem op_33 : dGood 33 (ev_fix (.lload_n 3)) := gd_fix fun _ _ _ h1 => (dr_bind h1).trans rfl
theorem op_42 : dGood 42 (ev_fix (.aload_n 0)) := gd_fix fun _ _ _ h1 => (dr_bind h1).trans rfl
theorem op_43 : dGood 43 (ev_fix (.aload_n 1)) := gd_fix fun _ _ _ h1 => (dr_bind h1).trans rfl
theorem op_44 : dGood 44 (ev_fix (.aload_n 2)) := gd_fix fun _ _ _ h1 => (dr_bind h1).trans rfl
theorem op_45 : dGood 45 (ev_fix (.aload_n 3)) := gd_fix fun _ _ _ h1 => (dr_bind h1).trans rfl
theorem op_46 : dGood 46 (ev_fix (.iaload)) := gd_fix fun _ _ _ h1 => (dr_bind h1).trans rfl
theorem op_47 : dGood 47 (ev_fix (.laload)) := gd_fix fun _ _ _ h1 => (dr_bind h1).trans rfl
theorem op_50 : dGood 50 (ev_fix (.aaload)) := gd_fix fun _ _ _ h1 => (dr_bind h1).trans rfl
theorem op_54 : dGood 54 (ev_u1 (.istore)) := gd_u1 fun _ _ _ _ _ h1 h2 => (dr_bind h1).trans ((dr_bind h2).trans rfl)
theorem op_55 : dGood 55 (ev_u1 (.lstore)) := gd_u1 fun _ _ _ _ _ h1 h2 => (dr_bind h1).trans ((dr_bind h2).trans rfl)
theorem op_58 : dGood 58 (ev_u1 (.astore)) := gd_u1 fun _ _ _ _ _ h1 h2 => (dr_bind h1).trans ((dr_bind h2).trans rfl)
theorem op_59 : dGood 59 (ev_fix (.istore_n 0)) := gd_fix fun _ _ _ h1 => (dr_bind h1).trans rfl
theorem op_60 : dGood 60 (ev_fix (.istore_n 1)) := gd_fix fun _ _ _ h1 => (dr_bind h1).trans rfl
theorem op_61 : dGood 61 (ev_fix (.istore_n 2)) := gd_fix fun _ _ _ h1 => (dr_bind h1).trans rfl
theorem op_62 : dGood 62 (ev_fix (.istore_n 3)) := gd_fix fun _ _ _ h1 => (dr_bind h1).trans rfl
theorem op_63 : dGood 63 (ev_fix (.lstore_n 0)) := gd_fix fun _ _ _ h1 => (dr_bind h1).trans rfl
theorem op_64 : dGood 64 (ev_fix (.lstore_n 1)) := gd_fix fun _ _ _ h1 => (dr_bind h1).trans rfl
theorem op_65 : dGood 65 (ev_fix (.lstore_n 2)) := gd_fix fun _ _ _ h1 => (dr_bind h1).trans rfl
theorem op_66 : dGood 66 (ev_fix (.lstore_n 3)) := gd_fix fun _ _ _ h1 => (dr_bind h1).trans rfl
theorem op_75 : dGood 75 (ev_fix (.astore_n 0)) := gd_fix fun _ _ _ h1 => (dr_bind h1).trans rfl
theorem op_76 : dGood 76 (ev_fix (.astore_n 1)) := gd_fix fun _ _ _ h1 => (dr_bind h1).trans rfl
theorem op_77 : dGood 77 (ev_fix (.astore_n 2)) := gd_fix fun _ _ _ h1 => (dr_bind h1).trans rfl
theorem op_78 : dGood 78 (ev_fix (.astore_n 3)) := gd_fix fun _ _ _ h1 => (dr_bind h1).trans rfl
theorem op_79 : dGood 79 (ev_fix (.iastore)) := gd_fix fun _ _ _ h1 => (dr_bind h1).trans rfl
theorem op_80 : dGood 80 (ev_fix (.lastore)) := gd_fix fun _ _ _ h1 => (dr_bind h1).trans rfl
theorem op_83 : dGood 83 (ev_fix (.aastore)) := gd_fix fun _ _ _ h1 => (dr_bind h1).trans rfl
theorem op_87 : dGood 87 (ev_fix (.pop)) := gd_fix fun _ _ _ h1 => (dr_bind h1).trans rfl
theorem op_88 : dGood 88 (ev_fix (.pop2)) := gd_fix fun _ _ _ h1 => (dr_bind h1).trans rfl
theorem op_89 : dGood 89 (ev_fix (.dup)) := gd_fix fun _ _ _ h1 => (dr_bind h1).trans rfl
theorem op_92 : dGood 92 (ev_fix (.dup2)) := gd_fix fun _ _ _ h1 => (dr_bind h1).trans rfl
theorem op_96 : dGood 96 (ev_fix (.iadd)) := gd_fix fun _ _ _ h1 => (dr_bind h1).trans rfl
theorem op_97 : dGood 97 (ev_fix (.ladd)) := gd_fix fun _ _ _ h1 => (dr_bind h1).trans rfl
theorem op_100 : dGood 100 (ev_fix (.isub)) := gd_fix fun _ _ _ h1 => (dr_bind h1).trans rfl
theorem op_101 : dGood 101 (ev_fix (.lsub)) := gd_fix fun _ _ _ h1 => (dr_bind h1).trans rfl
theorem op_104 : dGood 104 (ev_fix (.imul)) := gd_fix fun _ _ _ h1 => (dr_bind h1).trans rfl
theorem op_105 : dGood 105 (ev_fix (.lmul)) := gd_fix fun _ _ _ h1 => (dr_bind h1).trans rfl
theorem op_108 : dGood 108 (ev_fix (.idiv)) := gd_fix fun _ _ _ h1 => (dr_bind h1).trans rfl
theorem op_109 : dGood 109 (ev_fix (.ldiv)) := gd_fix fun _ _ _ h1 => (dr_bind h1).trans rfl
theorem op_112 : dGood 112 (ev_fix (.irem)) := gd_fix fun _ _ _ h1 => (dr_bind h1).trans rfl
theorem op_113 : dGood 113 (ev_fix (.lrem)) := gd_fix fun _ _ _ h1 => (dr_bind h1).trans rfl
theorem op_116 : dGood 116 (ev_fix (.ineg)) := gd_fix fun _ _ _ h1 => (dr_bind h1).trans rfl
theorem op_120 : dGood 120 (ev_fix (.ishl)) := gd_fix fun _ _ _ h1 => (dr_bind h1).trans rfl
theorem op_121 : dGood 121 (ev_fix (.lshl)) := gd_fix fun _ _ _ h1 => (dr_bind h1).trans rfl
theorem op_122 : dGood 122 (ev_fix (.ishr)) := gd_fix fun _ _ _ h1 => (dr_bind h1).trans rfl
theorem op_123 : dGood 123 (ev_fix (.lshr)) := gd_fix fun _ _ _ h1 => (dr_bind h1).trans rfl
theorem op_126 : dGood 126 (ev_fix (.iand)) := gd_fix fun _ _ _ h1 => (dr_bind h1).trans rfl
theorem op_127 : dGood 127 (ev_fix (.land)) := gd_fix fun _ _ _ h1 => (dr_bind h1).trans rfl
theorem op_128 : dGood 128 (ev_fix (.ior)) := gd_fix fun _ _ _ h1 => (dr_bind h1).trans rfl
theorem op_129 : dGood 129 (ev_fix (.lor)) := gd_fix fun _ _ _ h1 => (dr_bind h1).trans rfl
theorem op_132 : dGood 132 (ev_us .iinc) := gd_us fun _ _ _ _ _ _ _ h1 h2 h3 => (dr_bind h1).trans ((dr_bind h2).trans ((dr_bind h3).trans rfl))
theorem op_133 : dGood 133 (ev_fix (.i2l)) := gd_fix fun _ _ _ h1 => (dr_bind h1).trans rfl
theorem op_136 : dGood 136 (ev_fix (.l2i)) := gd_fix fun _ _ _ h1 => (dr_bind h1).trans rfl
theorem op_148 : dGood 148 (ev_fix (.lcmp)) := gd_fix fun _ _ _ h1 => (dr_bind h1).trans rfl
theorem op_153 : dGood 153 (ev_s2 (.ifCond .eq)) := gd_s2 fun _ _ _ _ _ h1 h2 => (dr_bind h1).trans ((dr_bind h2).trans rfl)
theorem op_154 : dGood 154 (ev_s2 (.ifCond .ne)) := gd_s2 fun _ _ _ _ _ h1 h2 => (dr_bind h1).trans ((dr_bind h2).trans rfl)
theorem op_155 : dGood 155 (ev_s2 (.ifCond .lt)) := gd_s2 fun _ _ _ _ _ h1 h2 => (dr_bind h1).trans ((dr_bind h2).trans rfl)
theorem op_156 : dGood 156 (ev_s2 (.ifCond .ge)) := gd_s2 fun _ _ _ _ _ h1 h2 => (dr_bind h1).trans ((dr_bind h2).trans rfl)
theorem op_157 : dGood 157 (ev_s2 (.ifCond .gt)) := gd_s2 fun _ _ _ _ _ h1 h2 => (dr_bind h1).trans ((dr_bind h2).trans rfl)
theorem op_158 : dGood 158 (ev_s2 (.ifCond .le)) := gd_s2 fun _ _ _ _ _ h1 h2 => (dr_bind h1).trans ((dr_bind h2).trans rfl)
theorem op_159 : dGood 159 (ev_s2 (.if_icmp .eq)) := gd_s2 fun _ _ _ _ _ h1 h2 => (dr_bind h1).trans ((dr_bind h2).trans rfl)
theorem op_160 : dGood 160 (ev_s2 (.if_icmp .ne)) := gd_s2 fun _ _ _ _ _ h1 h2 => (dr_bind h1).trans ((dr_bind h2).trans rfl)
theorem op_161 : dGood 161 (ev_s2 (.if_icmp .lt)) := gd_s2 fun _ _ _ _ _ h1 h2 => (dr_bind h1).trans ((dr_bind h2).trans rfl)
theorem op_162 : dGood 162 (ev_s2 (.if_icmp .ge)) := gd_s2 fun _ _ _ _ _ h1 h2 => (dr_bind h1).trans ((dr_bind h2).trans rfl)
theorem op_163 : dGood 163 (ev_s2 (.if_icmp .gt)) := gd_s2 fun _ _ _ _ _ h1 h2 => (dr_bind h1).trans ((dr_bind h2).trans rfl)
theorem op_164 : dGood 164 (ev_s2 (.if_icmp .le)) := gd_s2 fun _ _ _ _ _ h1 h2 => (dr_bind h1).trans ((dr_bind h2).trans rfl)
theorem op_167 : dGood 167 (ev_s2 (.goto)) := gd_s2 fun _ _ _ _ _ h1 h2 => (dr_bind h1).trans ((dr_bind h2).trans rfl)
theorem op_172 : dGood 172 (ev_fix (.ireturn)) := gd_fix fun _ _ _ h1 => (dr_bind h1).trans rfl
theorem op_173 : dGood 173 (ev_fix (.lreturn)) := gd_fix fun _ _ _ h1 => (dr_bind h1).trans rfl
theorem op_176 : dGood 176 (ev_fix (.areturn)) := gd_fix fun _ _ _ h1 => (dr_bind h1).trans rfl
theorem op_177 : dGood 177 (ev_fix (.return_)) := gd_fix fun _ _ _ h1 => (dr_bind h1).trans rfl
theorem op_180 : dGood 180 (ev_u2 (.getfield)) := gd_u2 fun _ _ _ _ _ h1 h2 => (dr_bind h1).trans ((dr_bind h2).trans rfl)
theorem op_181 : dGood 181 (ev_u2 (.putfield)) := gd_u2 fun _ _ _ _ _ h1 h2 => (dr_bind h1).trans ((dr_bind h2).trans rfl)
theorem op_182 : dGood 182 (ev_u2 (.invokevirtual)) := gd_u2 fun _ _ _ _ _ h1 h2 => (dr_bind h1).trans ((dr_bind h2).trans rfl)
theorem op_183 : dGood 183 (ev_u2 (.invokespecial)) := gd_u2 fun _ _ _ _ _ h1 h2 => (dr_bind h1).trans ((dr_bind h2).trans rfl)
theorem op_184 : dGood 184 (ev_u2 (.invokestatic)) := gd_u2 fun _ _ _ _ _ h1 h2 => (dr_bind h1).trans ((dr_bind h2).trans rfl)
theorem op_187 : dGood 187 (ev_u2 (.new)) := gd_u2 fun _ _ _ _ _ h1 h2 => (dr_bind h1).trans ((dr_bind h2).trans rfl)
theorem op_189 : dGood 189 (ev_u2 (.anewarray)) := gd_u2 fun _ _ _ _ _ h1 h2 => (dr_bind h1).trans ((dr_bind h2).trans rfl)
theorem op_190 : dGood 190 (ev_fix (.arraylength)) := gd_fix fun _ _ _ h1 => (dr_bind h1).trans rfl
def dTr (k : Nat) : dV := (bif Nat.ble 88 k then (bif Nat.ble 148 k then (bif Nat.ble 167 k then (bif Nat.ble 181 k then (bif Nat.ble 184 k then (bif Nat.ble 189 k then (bif Nat.ble 190 k then (bif Nat.beq k 190 then ev_fix (.arraylength) else fun _ => none) else (bif Nat.beq k 189 then ev_u2 (.anewarray) else fun _ => none)) else (bif Nat.ble 187 k then (bif Nat.beq k 187 then ev_u2 (.new) else fun _ => none) else (bif Nat.beq k 184 then ev_u2 (.invokestatic) else fun _ => none))) else (bif Nat.ble 182 k then (bif Nat.ble 183 k then (bif Nat.beq k 183 then ev_u2 (.invokespecial) else fun _ => none) else (bif Nat.beq k 182 then ev_u2 (.invokevirtual) else fun _ => none)) else (bif Nat.beq k 181 then ev_u2 (.putfield) else fun _ => none))) else (bif Nat.ble 176 k then (bif Nat.ble 177 k then (bif Nat.ble 180 k then (bif Nat.beq k 180 then ev_u2 (.getfield) else fun _ => none) else (bif Nat.beq k 177 then ev_fix (.return_) else fun _ => none)) else (bif Nat.beq k 176 then ev_fix (.areturn) else fun _ => none)) else (bif Nat.ble 172 k then (bif Nat.ble 173 k then (bif Nat.beq k 173 then ev_fix (.lreturn) else fun _ => none) else (bif Nat.beq k 172 then ev_fix (.ireturn) else fun _ => none)) else (bif Nat.beq k 167 then ev_s2 (.goto) else fun _ => none)))) else (bif Nat.ble 158 k then (bif Nat.ble 161 k then (bif Nat.ble 163 k then (bif Nat.ble 164 k then (bif Nat.beq k 164 then ev_s2 (.if_icmp .le) else fun _ => none) else (bif Nat.beq k 163 then ev_s2 (.if_icmp .gt) else fun _ => none)) else (bif Nat.ble 162 k then (bif Nat.beq k 162 then ev_s2 (.if_icmp .ge) else fun _ => none) else (bif Nat.beq k 161 then ev_s2 (.if_icmp .lt) else fun _ => none))) else (bif Nat.ble 159 k then (bif Nat.ble 160 k then (bif Nat.beq k 160 then ev_s2 (.if_icmp .ne) else fun _ => none) else (bif Nat.beq k 159 then ev_s2 (.if_icmp .eq) else fun _ => none)) else (bif Nat.beq k 158 then ev_s2 (.ifCond .le) else fun _ => none))) else (bif Nat.ble 155 k then (bif Nat.ble 156 k then (bif Nat.ble 157 k then (bif Nat.beq k 157 then ev_s2 (.ifCond .gt) else fun _ => none) else (bif Nat.beq k 156 then ev_s2 (.ifCond .ge) else fun _ => none)) else (bif Nat.beq k 155 then ev_s2 (.ifCond .lt) else fun _ => none)) else (bif Nat.ble 153 k then (bif Nat.ble 154 k then (bif Nat.beq k 154 then ev_s2 (.ifCond .ne) else fun _ => none) else (bif Nat.beq k 153 then ev_s2 (.ifCond .eq) else fun _ => none)) else (bif Nat.beq k 148 then ev_fix (.lcmp) else fun _ => none))))) else (bif Nat.ble 113 k then (bif Nat.ble 126 k then (bif Nat.ble 129 k then (bif Nat.ble 133 k then (bif Nat.ble 136 k then (bif Nat.beq k 136 then ev_fix (.l2i) else fun _ => none) else (bif Nat.beq k 133 then ev_fix (.i2l) else fun _ => none)) else (bif Nat.ble 132 k then (bif Nat.beq k 132 then ev_us (.iinc) else fun _ => none) else (bif Nat.beq k 129 then ev_fix (.lor) else fun _ => none))) else (bif Nat.ble 127 k then (bif Nat.ble 128 k then (bif Nat.beq k 128 then ev_fix (.ior) else fun _ => none) else (bif Nat.beq k 127 then ev_fix (.land) else fun _ => none)) else (bif Nat.beq k 126 then ev_fix (.iand) else fun _ => none))) else (bif Nat.ble 121 k then (bif Nat.ble 122 k then (bif Nat.ble 123 k then (bif Nat.beq k 123 then ev_fix (.lshr) else fun _ => none) else (bif Nat.beq k 122 then ev_fix (.ishr) else fun _ => none)) else (bif Nat.beq k 121 then ev_fix (.lshl) else fun _ => none)) else (bif Nat.ble 116 k then (bif Nat.ble 120 k then (bif Nat.beq k 120 then ev_fix (.ishl) else fun _ => none) else (bif Nat.beq k 116 then ev_fix (.ineg) else fun _ => none)) else (bif Nat.beq k 113 then ev_fix (.lrem) else fun _ => none)))) else (bif Nat.ble 101 k then (bif Nat.ble 108 k then (bif Nat.ble 109 k then (bif Nat.ble 112 k then (bif Nat.beq k 112 then ev_fix (.irem) else fun _ => none) else (bif Nat.beq k 109 then ev_fix (.ldiv) else fun _ => none)) else (bif Nat.beq k 108 then ev_fix (.idiv) else fun _ => none)) else (bif Nat.ble 104 k then (bif Nat.ble 105 k then (bif Nat.beq k 105 then ev_fix (.lmul) else fun _ => none) else (bif Nat.beq k 104 then ev_fix (.imul) else fun _ => none)) else (bif Nat.beq k 101 then ev_fix (.lsub) else fun _ => none))) else (bif Nat.ble 96 k then (bif Nat.ble 97 k then (bif Nat.ble 100 k then (bif Nat.beq k 100 then ev_fix (.isub) else fun _ => none) else (bif Nat.beq k 97 then ev_fix (.ladd) else fun _ => none)) else (bif Nat.beq k 96 then ev_fix (.iadd) else fun _ => none)) else (bif Nat.ble 89 k then (bif Nat.ble 92 k then (bif Nat.beq k 92 then ev_fix (.dup2) else fun _ => none) else (bif Nat.beq k 89 then ev_fix (.dup) else fun _ => none)) else (bif Nat.beq k 88 then ev_fix (.pop2) else fun _ => none)))))) else (bif Nat.ble 42 k then (bif Nat.ble 62 k then (bif Nat.ble 76 k then (bif Nat.ble 79 k then (bif Nat.ble 83 k then (bif Nat.ble 87 k then (bif Nat.beq k 87 then ev_fix (.pop) else fun _ => none) else (bif Nat.beq k 83 then ev_fix (.aastore) else fun _ => none)) else (bif Nat.ble 80 k then (bif Nat.beq k 80 then ev_fix (.lastore) else fun _ => none) else (bif Nat.beq k 79 then ev_fix (.iastore) else fun _ => none))) else (bif Nat.ble 77 k then (bif Nat.ble 78 k then (bif Nat.beq k 78 then ev_fix (.astore_n 3) else fun _ => none) else (bif Nat.beq k 77 then ev_fix (.astore_n 2) else fun _ => none)) else (bif Nat.beq k 76 then ev_fix (.astore_n 1) else fun _ => none))) else (bif Nat.ble 65 k then (bif Nat.ble 66 k then (bif Nat.ble 75 k then (bif Nat.beq k 75 then ev_fix (.astore_n 0) else fun _ => none) else (bif Nat.beq k 66 then ev_fix (.lstore_n 3) else fun _ => none)) else (bif Nat.beq k 65 then ev_fix (.lstore_n 2) else fun _ => none)) else (bif Nat.ble 63 k then (bif Nat.ble 64 k then (bif Nat.beq k 64 then ev_fix (.lstore_n 1) else fun _ => none) else (bif Nat.beq k 63 then ev_fix (.lstore_n 0) else fun _ => none)) else (bif Nat.beq k 62 then ev_fix (.istore_n 3) else fun _ => none)))) else (bif Nat.ble 50 k then (bif Nat.ble 58 k then (bif Nat.ble 60 k then (bif Nat.ble 61 k then (bif Nat.beq k 61 then ev_fix (.istore_n 2) else fun _ => none) else (bif Nat.beq k 60 then ev_fix (.istore_n 1) else fun _ => none)) else (bif Nat.ble 59 k then (bif Nat.beq k 59 then ev_fix (.istore_n 0) else fun _ => none) else (bif Nat.beq k 58 then ev_u1 (.astore) else fun _ => none))) else (bif Nat.ble 54 k then (bif Nat.ble 55 k then (bif Nat.beq k 55 then ev_u1 (.lstore) else fun _ => none) else (bif Nat.beq k 54 then ev_u1 (.istore) else fun _ => none)) else (bif Nat.beq k 50 then ev_fix (.aaload) else fun _ => none))) else (bif Nat.ble 45 k then (bif Nat.ble 46 k then (bif Nat.ble 47 k then (bif Nat.beq k 47 then ev_fix (.laload) else fun _ => none) else (bif Nat.beq k 46 then ev_fix (.iaload) else fun _ => none)) else (bif Nat.beq k 45 then ev_fix (.aload_n 3) else fun _ => none)) else (bif Nat.ble 43 k then (bif Nat.ble 44 k then (bif Nat.beq k 44 then ev_fix (.aload_n 2) else fun _ => none) else (bif Nat.beq k 43 then ev_fix (.aload_n 1) else fun _ => none)) else (bif Nat.beq k 42 then ev_fix (.aload_n 0) else fun _ => none))))) else (bif Nat.ble 19 k then (bif Nat.ble 27 k then (bif Nat.ble 30 k then (bif Nat.ble 32 k then (bif Nat.ble 33 k then (bif Nat.beq k 33 then ev_fix (.lload_n 3) else fun _ => none) else (bif Nat.beq k 32 then ev_fix (.lload_n 2) else fun _ => none)) else (bif Nat.ble 31 k then (bif Nat.beq k 31 then ev_fix (.lload_n 1) else fun _ => none) else (bif Nat.beq k 30 then ev_fix (.lload_n 0) else fun _ => none))) else (bif Nat.ble 28 k then (bif Nat.ble 29 k then (bif Nat.beq k 29 then ev_fix (.iload_n 3) else fun _ => none) else (bif Nat.beq k 28 then ev_fix (.iload_n 2) else fun _ => none)) else (bif Nat.beq k 27 then ev_fix (.iload_n 1) else fun _ => none))) else (bif Nat.ble 22 k then (bif Nat.ble 25 k then (bif Nat.ble 26 k then (bif Nat.beq k 26 then ev_fix (.iload_n 0) else fun _ => none) else (bif Nat.beq k 25 then ev_u1 (.aload) else fun _ => none)) else (bif Nat.beq k 22 then ev_u1 (.lload) else fun _ => none)) else (bif Nat.ble 20 k then (bif Nat.ble 21 k then (bif Nat.beq k 21 then ev_u1 (.iload) else fun _ => none) else (bif Nat.beq k 20 then ev_u2 (.ldc2_w) else fun _ => none)) else (bif Nat.beq k 19 then ev_u2 (.ldc_w) else fun _ => none)))) else (bif Nat.ble 8 k then (bif Nat.ble 16 k then (bif Nat.ble 17 k then (bif Nat.ble 18 k then (bif Nat.beq k 18 then ev_u1 (.ldc) else fun _ => none) else (bif Nat.beq k 17 then ev_s2 (.sipush) else fun _ => none)) else (bif Nat.beq k 16 then ev_s1 (.bipush) else fun _ => none)) else (bif Nat.ble 9 k then (bif Nat.ble 10 k then (bif Nat.beq k 10 then ev_fix (.lconst 1) else fun _ => none) else (bif Nat.beq k 9 then ev_fix (.lconst 0) else fun _ => none)) else (bif Nat.beq k 8 then ev_fix (.iconst (5)) else fun _ => none))) else (bif Nat.ble 5 k then (bif Nat.ble 6 k then (bif Nat.ble 7 k then (bif Nat.beq k 7 then ev_fix (.iconst (4)) else fun _ => none) else (bif Nat.beq k 6 then ev_fix (.iconst (3)) else fun _ => none)) else (bif Nat.beq k 5 then ev_fix (.iconst (2)) else fun _ => none)) else (bif Nat.ble 3 k then (bif Nat.ble 4 k then (bif Nat.beq k 4 then ev_fix (.iconst (1)) else fun _ => none) else (bif Nat.beq k 3 then ev_fix (.iconst (0)) else fun _ => none)) else (bif Nat.beq k 2 then ev_fix (.iconst (-1)) else fun _ => none)))))))
theorem dTr_ok (k : Nat) : dGood k (dTr k) := by
  unfold dTr
  exact (gd_if (gd_if (gd_if (gd_if (gd_if (gd_if (gd_if (gd_leaf op_190) (gd_leaf op_189)) (gd_if (gd_leaf op_187) (gd_leaf op_184))) (gd_if (gd_if (gd_leaf op_183) (gd_leaf op_182)) (gd_leaf op_181))) (gd_if (gd_if (gd_if (gd_leaf op_180) (gd_leaf op_177)) (gd_leaf op_176)) (gd_if (gd_if (gd_leaf op_173) (gd_leaf op_172)) (gd_leaf op_167)))) (gd_if (gd_if (gd_if (gd_if (gd_leaf op_164) (gd_leaf op_163)) (gd_if (gd_leaf op_162) (gd_leaf op_161))) (gd_if (gd_if (gd_leaf op_160) (gd_leaf op_159)) (gd_leaf op_158))) (gd_if (gd_if (gd_if (gd_leaf op_157) (gd_leaf op_156)) (gd_leaf op_155)) (gd_if (gd_if (gd_leaf op_154) (gd_leaf op_153)) (gd_leaf op_148))))) (gd_if (gd_if (gd_if (gd_if (gd_if (gd_leaf op_136) (gd_leaf op_133)) (gd_if (gd_leaf op_132) (gd_leaf op_129))) (gd_if (gd_if (gd_leaf op_128) (gd_leaf op_127)) (gd_leaf op_126))) (gd_if (gd_if (gd_if (gd_leaf op_123) (gd_leaf op_122)) (gd_leaf op_121)) (gd_if (gd_if (gd_leaf op_120) (gd_leaf op_116)) (gd_leaf op_113)))) (gd_if (gd_if (gd_if (gd_if (gd_leaf op_112) (gd_leaf op_109)) (gd_leaf op_108)) (gd_if (gd_if (gd_leaf op_105) (gd_leaf op_104)) (gd_leaf op_101))) (gd_if (gd_if (gd_if (gd_leaf op_100) (gd_leaf op_97)) (gd_leaf op_96)) (gd_if (gd_if (gd_leaf op_92) (gd_leaf op_89)) (gd_leaf op_88)))))) (gd_if (gd_if (gd_if (gd_if (gd_if (gd_if (gd_leaf op_87) (gd_leaf op_83)) (gd_if (gd_leaf op_80) (gd_leaf op_79))) (gd_if (gd_if (gd_leaf op_78) (gd_leaf op_77)) (gd_leaf op_76))) (gd_if (gd_if (gd_if (gd_leaf op_75) (gd_leaf op_66)) (gd_leaf op_65)) (gd_if (gd_if (gd_leaf op_64) (gd_leaf op_63)) (gd_leaf op_62)))) (gd_if (gd_if (gd_if (gd_if (gd_leaf op_61) (gd_leaf op_60)) (gd_if (gd_leaf op_59) (gd_leaf op_58))) (gd_if (gd_if (gd_leaf op_55) (gd_leaf op_54)) (gd_leaf op_50))) (gd_if (gd_if (gd_if (gd_leaf op_47) (gd_leaf op_46)) (gd_leaf op_45)) (gd_if (gd_if (gd_leaf op_44) (gd_leaf op_43)) (gd_leaf op_42))))) (gd_if (gd_if (gd_if (gd_if (gd_if (gd_leaf op_33) (gd_leaf op_32)) (gd_if (gd_leaf op_31) (gd_leaf op_30))) (gd_if (gd_if (gd_leaf op_29) (gd_leaf op_28)) (gd_leaf op_27))) (gd_if (gd_if (gd_if (gd_leaf op_26) (gd_leaf op_25)) (gd_leaf op_22)) (gd_if (gd_if (gd_leaf op_21) (gd_leaf op_20)) (gd_leaf op_19)))) (gd_if (gd_if (gd_if (gd_if (gd_leaf op_18) (gd_leaf op_17)) (gd_leaf op_16)) (gd_if (gd_if (gd_leaf op_10) (gd_leaf op_9)) (gd_leaf op_8))) (gd_if (gd_if (gd_if (gd_leaf op_7) (gd_leaf op_6)) (gd_leaf op_5)) (gd_if (gd_if (gd_leaf op_4) (gd_leaf op_3)) (gd_leaf op_2)))))))
def dw_one (c : ByteArray) (p : Nat) (b : UInt8) (t : List UInt8) (x : Instr × Nat) : Bool := match dTr b.toNat t with
  | some y => decide (y = x)
  | none => decide (decode c p = .ok x)
theorem dw_one_ok {c : ByteArray} {p : Nat} {b : UInt8} {t : List UInt8} {x : Instr × Nat} (hd : c.data.toList.drop p = b :: t) (h : dw_one c p b t x = true) : decode c p = .ok x := by
  unfold dw_one at h
  cases hv : dTr b.toNat t with
  | some y =>
    rw [hv] at h
    have e : y = x := of_decide_eq_true h
    exact dTr_ok b.toNat c p b t hd rfl x (by rw [hv, e])
  | none =>
    rw [hv] at h
    exact of_decide_eq_true h
def dw_ok (c : ByteArray) : List (Nat × (Instr × Nat)) → Nat → List UInt8 → Bool
  | [], _, _ => true
  | (p, x) :: r, pos, s => Nat.ble pos p && match s.drop (p - pos) with
    | [] => false
    | b :: t => dw_one c p b t x && dw_ok c r p (b :: t)
def dk_P (c : ByteArray) : List (Nat × (Instr × Nat)) → Prop
  | [] => True
  | (p, x) :: r => decode c p = .ok x ∧ dk_P c r
theorem dw_all {c : ByteArray} : ∀ (l : List (Nat × (Instr × Nat))) (pos : Nat) (s : List UInt8), s = c.data.toList.drop pos → dw_ok c l pos s = true → dk_P c l
  | [], _, _, _, _ => trivial
  | (p, x) :: r, pos, s, hs, h => by
    unfold dw_ok at h
    rw [Bool.and_eq_true] at h
    have hp := Nat.le_of_ble_eq_true h.1
    have h2 := h.2
    cases hd : s.drop (p - pos) with
    | nil => rw [hd] at h2; simp at h2
    | cons b t =>
      rw [hd] at h2
      have hdr : c.data.toList.drop p = b :: t := by
        rw [← hd, hs, List.drop_drop]
        congr 1
        omega
      have h3 : (dw_one c p b t x && dw_ok c r p (b :: t)) = true := h2
      rw [Bool.and_eq_true] at h3
      exact ⟨dw_one_ok hdr h3.1, dw_all r p (b :: t) hdr.symm h3.2⟩
theorem dk_of {c : ByteArray} {l : List (Nat × (Instr × Nat))} (s0 : Nat) (h : dw_ok c l s0 (c.data.toList.drop s0) = true) : dk_P c l := dw_all l s0 _ rfl h
end
