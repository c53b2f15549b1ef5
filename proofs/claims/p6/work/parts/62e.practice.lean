/-! PRACTICE -/
/-- what one practice changes -/
def pF (v : Nat) : Nat := if v = 0 then 5 else if v = 1 then 4 else if v = 2 then 6 else 7
def pV (v : Nat) (J : Nat → Int32) : Int32 := if v = 0 then J 5 - 1 else if v = 1 then J 4 - 1 else if v = 2 then J 6 + 1 else if v = 3 then J 7 + 1 else J 7 - 1
theorem j109 {h : AH} : X10_practised_j109 h = some (if 0 ≤ (h.1 72 5).toInt ∧ 0 ≤ (h.1 72 4).toInt ∧ (h.1 72 6).toInt ≤ 99 ∧ 0 ≤ (h.1 72 7).toInt ∧ (h.1 72 7).toInt ≤ 4 then 1 else 0, h) := by
  have t0 : (0 : Int32).toInt = 0 := rfl
  have t4 : (4 : Int32).toInt = 4 := rfl
  have t9 : (99 : Int32).toInt = 99 := rfl
  unfold X10_practised_j109
  simp only [cz_0, cz_1, fa_lt, t0, t4, t9]
  by_cases h1 : (h.1 72 5).toInt < 0
  · rw [if_pos h1, if_neg (by omega)]
  · rw [if_neg h1]
    by_cases h2 : (h.1 72 4).toInt < 0
    · rw [if_pos h2, if_neg (by omega)]
    · rw [if_neg h2]
      by_cases h3 : 99 < (h.1 72 6).toInt
      · rw [if_pos h3, if_neg (by omega)]
      · rw [if_neg h3]
        by_cases h4 : (h.1 72 7).toInt < 0
        · rw [if_pos h4, if_neg (by omega)]
        · rw [if_neg h4]
          by_cases h5 : 4 < (h.1 72 7).toInt
          · rw [if_pos h5, if_neg (by omega)]
          · rw [if_neg h5, if_pos (by omega)]
theorem pr_c {h rt : AH} {J : Nat → Int32} {j v : Nat} (hs : SPJ h J) (hJ : NJ J) (hj : j < 4) (hv : v < 5) (hr : ∀ k, 1 ≤ k → k ≤ 8 → rt.1 (k + 1) j = J k) :
    ∃ ok : Bool, X10_practised (nI v) h = some (if ok = true then 1 else 0, sI h 72 (pF v) (pV v J)) ∧ X11_canPractise (nI j) (nI v) rt = some (if ok = true then 1 else 0, rt) ∧ (ok = true → NJ (fun k => if k = pF v then pV v J else J k)) := by
  obtain ⟨κ, f, a, g, s, p, l, m, hκ, hf, ha, hg, hss, hpp, hl, hm, e1, e2, e3, e4, e5, e6, e7, e8⟩ := hJ
  have z : ∀ k, 1 ≤ k → k ≤ 8 → h.1 72 k = J k := hs.1
  have t0 : (0 : Int32).toInt = 0 := rfl
  have t1 : (1 : Int32).toInt = 1 := rfl
  have t4 : (4 : Int32).toInt = 4 := rfl
  have t99 : (99 : Int32).toInt = 99 := rfl
  have i5 : (J 5).toInt = s := by rw [e5, toInt_nI (by omega)]
  have i4 : (J 4).toInt = g := by rw [e4, toInt_nI (by omega)]
  have i6 : (J 6).toInt = p := by rw [e6, toInt_nI (by omega)]
  have i7 : (J 7).toInt = l := by rw [e7, toInt_nI (by omega)]
  have x5 : (J 5 - 1).toInt = (s : Int) - 1 := by rw [fb_subI (by omega) (by omega)]; omega
  have x4 : (J 4 - 1).toInt = (g : Int) - 1 := by rw [fb_subI (by omega) (by omega)]; omega
  have x6 : (J 6 + 1).toInt = (p : Int) + 1 := by rw [fb_addI (by omega) (by omega)]; omega
  have x7 : (J 7 + 1).toInt = (l : Int) + 1 := by rw [fb_addI (by omega) (by omega)]; omega
  have y7 : (J 7 - 1).toInt = (l : Int) - 1 := by rw [fb_subI (by omega) (by omega)]; omega
  rcases (by omega : v = 0 ∨ v = 1 ∨ v = 2 ∨ v = 3 ∨ v = 4) with q | q | q | q | q <;> subst q
  · refine ⟨decide (1 ≤ s), ?_, ?_, fun ok => ?_⟩
    · have e : X10_practised (nI 0) h = X10_practised_j109 (sI h 72 5 (h.1 72 5 - 1)) := rfl
      rw [e, j109, z 5 (by omega) (by omega), sI_y, sI_n (by omega), sI_n (by omega), sI_n (by omega), z 4 (by omega) (by omega), z 6 (by omega) (by omega), z 7 (by omega) (by omega), x5, i4, i6, i7]
      by_cases o : 1 ≤ s
      · rw [if_pos (by omega), if_pos (decide_eq_true o)]; rfl
      · rw [if_neg (by omega), if_neg (by rw [decide_eq_false o]; decide)]; rfl
    · have e : X11_canPractise (nI j) (nI 0) rt = ck (nI j) 4 (if rt.1 6 (nI j).toNatClampNeg ≤ 0 then (cz 0 (some (0, rt))) else (cz 1 (some (1, rt)))) := rfl
      have w := hr 5 (by omega) (by omega)
      have w : rt.1 6 j = J 5 := w
      rw [e, ck_nI _ hj (by decide), nI_clamp (by omega), w, cz_0, cz_1]
      by_cases o : 1 ≤ s
      · rw [if_neg (by rw [fa_le, i5, t0]; omega), if_pos (decide_eq_true o)]
      · rw [if_pos (by rw [fa_le, i5, t0]; omega), if_neg (by rw [decide_eq_false o]; decide)]
    · have o := of_decide_eq_true ok
      exact ⟨κ, f, a, g, s - 1, p, l, m, hκ, hf, ha, hg, by omega, hpp, hl, hm, e1, e2, e3, e4, by rw [fa_eq, toInt_nI (by omega)]; show (J 5 - 1).toInt = _; omega, e6, e7, e8⟩
  · refine ⟨decide (1 ≤ g), ?_, ?_, fun ok => ?_⟩
    · have e : X10_practised (nI 1) h = X10_practised_j109 (sI h 72 4 (h.1 72 4 - 1)) := rfl
      rw [e, j109, z 4 (by omega) (by omega), sI_y, sI_n (by omega), sI_n (by omega), sI_n (by omega), z 5 (by omega) (by omega), z 6 (by omega) (by omega), z 7 (by omega) (by omega), x4, i5, i6, i7]
      by_cases o : 1 ≤ g
      · rw [if_pos (by omega), if_pos (decide_eq_true o)]; rfl
      · rw [if_neg (by omega), if_neg (by rw [decide_eq_false o]; decide)]; rfl
    · have e : X11_canPractise (nI j) (nI 1) rt = ck (nI j) 4 (if rt.1 5 (nI j).toNatClampNeg ≤ 0 then (cz 0 (some (0, rt))) else (cz 1 (some (1, rt)))) := rfl
      have w : rt.1 5 j = J 4 := hr 4 (by omega) (by omega)
      rw [e, ck_nI _ hj (by decide), nI_clamp (by omega), w, cz_0, cz_1]
      by_cases o : 1 ≤ g
      · rw [if_neg (by rw [fa_le, i4, t0]; omega), if_pos (decide_eq_true o)]
      · rw [if_pos (by rw [fa_le, i4, t0]; omega), if_neg (by rw [decide_eq_false o]; decide)]
    · have o := of_decide_eq_true ok
      exact ⟨κ, f, a, g - 1, s, p, l, m, hκ, hf, ha, by omega, hss, hpp, hl, hm, e1, e2, e3, by rw [fa_eq, toInt_nI (by omega)]; show (J 4 - 1).toInt = _; omega, e5, e6, e7, e8⟩
  · refine ⟨decide (p < 99), ?_, ?_, fun ok => ?_⟩
    · have e : X10_practised (nI 2) h = X10_practised_j109 (sI h 72 6 (h.1 72 6 + 1)) := rfl
      rw [e, j109, z 6 (by omega) (by omega), sI_y, sI_n (by omega), sI_n (by omega), sI_n (by omega), z 5 (by omega) (by omega), z 4 (by omega) (by omega), z 7 (by omega) (by omega), x6, i5, i4, i7]
      by_cases o : p < 99
      · rw [if_pos (by omega), if_pos (decide_eq_true o)]; rfl
      · rw [if_neg (by omega), if_neg (by rw [decide_eq_false o]; decide)]; rfl
    · have e : X11_canPractise (nI j) (nI 2) rt = ck (nI j) 4 (if 99 ≤ rt.1 7 (nI j).toNatClampNeg then (cz 0 (some (0, rt))) else (cz 1 (some (1, rt)))) := rfl
      have w : rt.1 7 j = J 6 := hr 6 (by omega) (by omega)
      rw [e, ck_nI _ hj (by decide), nI_clamp (by omega), w, cz_0, cz_1]
      by_cases o : p < 99
      · rw [if_neg (by rw [fa_le, i6, t99]; omega), if_pos (decide_eq_true o)]
      · rw [if_pos (by rw [fa_le, i6, t99]; omega), if_neg (by rw [decide_eq_false o]; decide)]
    · have o := of_decide_eq_true ok
      exact ⟨κ, f, a, g, s, p + 1, l, m, hκ, hf, ha, hg, hss, by omega, hl, hm, e1, e2, e3, e4, e5, by rw [fa_eq, toInt_nI (by omega)]; show (J 6 + 1).toInt = _; omega, e7, e8⟩
  · refine ⟨decide (l < 4), ?_, ?_, fun ok => ?_⟩
    · have e : X10_practised (nI 3) h = X10_practised_j109 (sI h 72 7 (h.1 72 7 + 1)) := rfl
      rw [e, j109, z 7 (by omega) (by omega), sI_y, sI_n (by omega), sI_n (by omega), sI_n (by omega), z 5 (by omega) (by omega), z 4 (by omega) (by omega), z 6 (by omega) (by omega), x7, i5, i4, i6]
      by_cases o : l < 4
      · rw [if_pos (by omega), if_pos (decide_eq_true o)]; rfl
      · rw [if_neg (by omega), if_neg (by rw [decide_eq_false o]; decide)]; rfl
    · have e : X11_canPractise (nI j) (nI 3) rt = ck (nI j) 4 (if 4 ≤ rt.1 8 (nI j).toNatClampNeg then (cz 0 (some (0, rt))) else (cz 1 (some (1, rt)))) := rfl
      have w : rt.1 8 j = J 7 := hr 7 (by omega) (by omega)
      rw [e, ck_nI _ hj (by decide), nI_clamp (by omega), w, cz_0, cz_1]
      by_cases o : l < 4
      · rw [if_neg (by rw [fa_le, i7, t4]; omega), if_pos (decide_eq_true o)]
      · rw [if_pos (by rw [fa_le, i7, t4]; omega), if_neg (by rw [decide_eq_false o]; decide)]
    · have o := of_decide_eq_true ok
      exact ⟨κ, f, a, g, s, p, l + 1, m, hκ, hf, ha, hg, hss, hpp, by omega, hm, e1, e2, e3, e4, e5, e6, by rw [fa_eq, toInt_nI (by omega)]; show (J 7 + 1).toInt = _; omega, e8⟩
  · refine ⟨decide (1 ≤ l), ?_, ?_, fun ok => ?_⟩
    · have e : X10_practised (nI 4) h = X10_practised_j109 (sI h 72 7 (h.1 72 7 - 1)) := rfl
      rw [e, j109, z 7 (by omega) (by omega), sI_y, sI_n (by omega), sI_n (by omega), sI_n (by omega), z 5 (by omega) (by omega), z 4 (by omega) (by omega), z 6 (by omega) (by omega), y7, i5, i4, i6]
      by_cases o : 1 ≤ l
      · rw [if_pos (by omega), if_pos (decide_eq_true o)]; rfl
      · rw [if_neg (by omega), if_neg (by rw [decide_eq_false o]; decide)]; rfl
    · have e : X11_canPractise (nI j) (nI 4) rt = ck (nI j) 4 (if rt.1 8 (nI j).toNatClampNeg ≤ 0 then (cz 0 (some (0, rt))) else (cz 1 (some (1, rt)))) := rfl
      have w : rt.1 8 j = J 7 := hr 7 (by omega) (by omega)
      rw [e, ck_nI _ hj (by decide), nI_clamp (by omega), w, cz_0, cz_1]
      by_cases o : 1 ≤ l
      · rw [if_neg (by rw [fa_le, i7, t0]; omega), if_pos (decide_eq_true o)]
      · rw [if_pos (by rw [fa_le, i7, t0]; omega), if_neg (by rw [decide_eq_false o]; decide)]
    · have o := of_decide_eq_true ok
      exact ⟨κ, f, a, g, s, p, l - 1, m, hκ, hf, ha, hg, hss, hpp, by omega, hm, e1, e2, e3, e4, e5, e6, by rw [fa_eq, toInt_nI (by omega)]; show (J 7 - 1).toInt = _; omega, e8⟩
theorem pr_p {rt : AH} {J : Nat → Int32} {j v : Nat} (hj : j < 4) (hv : v < 5) (hr : ∀ k, 1 ≤ k → k ≤ 8 → rt.1 (k + 1) j = J k) : X11_practises (nI j) (nI v) 1 rt = some ((), sI rt (pF v + 1) j (pV v J)) ∧ ∀ g : AH, g.1 (pF v + 1) j = pV v J → X11_practises (nI j) (nI v) (-1) g = some ((), sI g (pF v + 1) j (J (pF v))) := by
  have hjc : (nI j).toNatClampNeg = j := nI_clamp (by omega)
  have w5 : rt.1 6 j = J 5 := hr 5 (by omega) (by omega)
  have w4 : rt.1 5 j = J 4 := hr 4 (by omega) (by omega)
  have w6 : rt.1 7 j = J 6 := hr 6 (by omega) (by omega)
  have w7 : rt.1 8 j = J 7 := hr 7 (by omega) (by omega)
  have s1 : ∀ x : Int32, x - 1 - -1 = x := fun x => by rw [Int32.sub_neg, Int32.sub_add_cancel]
  have s2 : ∀ x : Int32, x + 1 + -1 = x := fun x => by rw [← Int32.sub_eq_add_neg, Int32.add_sub_cancel]
  rcases (by omega : v = 0 ∨ v = 1 ∨ v = 2 ∨ v = 3 ∨ v = 4) with q | q | q | q | q <;> subst q
  · refine ⟨?_, fun g hg => ?_⟩
    · have e : X11_practises (nI j) (nI 0) 1 rt = ck (nI j) 4 (ck (nI j) 4 (some ((), sI rt 6 (nI j).toNatClampNeg ((rt.1 6 (nI j).toNatClampNeg) - 1)))) := rfl
      rw [e, ck_nI _ hj (by decide), ck_nI _ hj (by decide), hjc, w5]
      rfl
    · have hg : g.1 6 j = J 5 - 1 := hg
      have e : X11_practises (nI j) (nI 0) (-1) g = ck (nI j) 4 (ck (nI j) 4 (some ((), sI g 6 (nI j).toNatClampNeg ((g.1 6 (nI j).toNatClampNeg) - -1)))) := rfl
      rw [e, ck_nI _ hj (by decide), ck_nI _ hj (by decide), hjc, hg, s1]
      rfl
  · refine ⟨?_, fun g hg => ?_⟩
    · have e : X11_practises (nI j) (nI 1) 1 rt = ck (nI j) 4 (ck (nI j) 4 (some ((), sI rt 5 (nI j).toNatClampNeg ((rt.1 5 (nI j).toNatClampNeg) - 1)))) := rfl
      rw [e, ck_nI _ hj (by decide), ck_nI _ hj (by decide), hjc, w4]
      rfl
    · have hg : g.1 5 j = J 4 - 1 := hg
      have e : X11_practises (nI j) (nI 1) (-1) g = ck (nI j) 4 (ck (nI j) 4 (some ((), sI g 5 (nI j).toNatClampNeg ((g.1 5 (nI j).toNatClampNeg) - -1)))) := rfl
      rw [e, ck_nI _ hj (by decide), ck_nI _ hj (by decide), hjc, hg, s1]
      rfl
  · refine ⟨?_, fun g hg => ?_⟩
    · have e : X11_practises (nI j) (nI 2) 1 rt = ck (nI j) 4 (ck (nI j) 4 (some ((), sI rt 7 (nI j).toNatClampNeg ((rt.1 7 (nI j).toNatClampNeg) + 1)))) := rfl
      rw [e, ck_nI _ hj (by decide), ck_nI _ hj (by decide), hjc, w6]
      rfl
    · have hg : g.1 7 j = J 6 + 1 := hg
      have e : X11_practises (nI j) (nI 2) (-1) g = ck (nI j) 4 (ck (nI j) 4 (some ((), sI g 7 (nI j).toNatClampNeg ((g.1 7 (nI j).toNatClampNeg) + -1)))) := rfl
      rw [e, ck_nI _ hj (by decide), ck_nI _ hj (by decide), hjc, hg, s2]
      rfl
  · refine ⟨?_, fun g hg => ?_⟩
    · have e : X11_practises (nI j) (nI 3) 1 rt = ck (nI j) 4 (ck (nI j) 4 (some ((), sI rt 8 (nI j).toNatClampNeg ((rt.1 8 (nI j).toNatClampNeg) + 1)))) := rfl
      rw [e, ck_nI _ hj (by decide), ck_nI _ hj (by decide), hjc, w7]
      rfl
    · have hg : g.1 8 j = J 7 + 1 := hg
      have e : X11_practises (nI j) (nI 3) (-1) g = ck (nI j) 4 (ck (nI j) 4 (some ((), sI g 8 (nI j).toNatClampNeg ((g.1 8 (nI j).toNatClampNeg) + -1)))) := rfl
      rw [e, ck_nI _ hj (by decide), ck_nI _ hj (by decide), hjc, hg, s2]
      rfl
  · refine ⟨?_, fun g hg => ?_⟩
    · have e : X11_practises (nI j) (nI 4) 1 rt = ck (nI j) 4 (ck (nI j) 4 (some ((), sI rt 8 (nI j).toNatClampNeg ((rt.1 8 (nI j).toNatClampNeg) - 1)))) := rfl
      rw [e, ck_nI _ hj (by decide), ck_nI _ hj (by decide), hjc, w7]
      rfl
    · have hg : g.1 8 j = J 7 - 1 := hg
      have e : X11_practises (nI j) (nI 4) (-1) g = ck (nI j) 4 (ck (nI j) 4 (some ((), sI g 8 (nI j).toNatClampNeg ((g.1 8 (nI j).toNatClampNeg) - -1)))) := rfl
      rw [e, ck_nI _ hj (by decide), ck_nI _ hj (by decide), hjc, hg, s1]
      rfl
