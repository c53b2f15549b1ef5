def YC0 : Stc := ([.inr 10], (fun _ _ => none), 36, tlC)
theorem ln_YC0 : YC0.1.length = 1 := rfl
theorem wf_YC0 : WFs YC0 := wf_one (by decide)
def YC1 : Stc := addS YC0 (.inl (3, 2, 6))
theorem ln_YC1 : YC1.1.length = 2 := ln_add ln_YC0
theorem wf_YC1 : WFs YC1 := wf_add wf_YC0 (by decide)
def YC2 : Stc := putR YC1 0 0 1
theorem ln_YC2 : YC2.1.length = 2 := ln_YC1
theorem wf_YC2 : WFs YC2 := wf_put wf_YC1 (by rw [ln_YC1]; decide) (by rw [ln_YC1]; decide)
def YC3 : Stc := addS YC2 (.inl (0, 0, 96))
theorem ln_YC3 : YC3.1.length = 3 := ln_add ln_YC2
theorem wf_YC3 : WFs YC3 := wf_add wf_YC2 (by decide)
def YC4 : Stc := putR YC3 0 5 2
theorem ln_YC4 : YC4.1.length = 3 := ln_YC3
theorem wf_YC4 : WFs YC4 := wf_put wf_YC3 (by rw [ln_YC3]; decide) (by rw [ln_YC3]; decide)
def YC5 : Stc := addS YC4 (.inl (0, 0, 12))
theorem ln_YC5 : YC5.1.length = 4 := ln_add ln_YC4
theorem wf_YC5 : WFs YC5 := wf_add wf_YC4 (by decide)
def YC6 : Stc := putR YC5 0 7 3
theorem ln_YC6 : YC6.1.length = 4 := ln_YC5
theorem wf_YC6 : WFs YC6 := wf_put wf_YC5 (by rw [ln_YC5]; decide) (by rw [ln_YC5]; decide)
def YC7 : Stc := addS YC6 (.inl (0, 0, 7))
theorem ln_YC7 : YC7.1.length = 5 := ln_add ln_YC6
theorem wf_YC7 : WFs YC7 := wf_add wf_YC6 (by decide)
def YC8 : Stc := putR YC7 0 9 4
theorem ln_YC8 : YC8.1.length = 5 := ln_YC7
theorem wf_YC8 : WFs YC8 := wf_put wf_YC7 (by rw [ln_YC7]; decide) (by rw [ln_YC7]; decide)
def YC9 : Stc := addS YC8 (.inr 6)
theorem ln_YC9 : YC9.1.length = 6 := ln_add ln_YC8
theorem wf_YC9 : WFs YC9 := wf_add wf_YC8 (by decide)
def YC10 : Stc := addS YC9 (.inl (0, 0, 4))
theorem ln_YC10 : YC10.1.length = 7 := ln_add ln_YC9
theorem wf_YC10 : WFs YC10 := wf_add wf_YC9 (by decide)
def YC11 : Stc := putR YC10 5 1 6
theorem ln_YC11 : YC11.1.length = 7 := ln_YC10
theorem wf_YC11 : WFs YC11 := wf_put wf_YC10 (by rw [ln_YC10]; decide) (by rw [ln_YC10]; decide)
def YC12 : Stc := addS YC11 (.inl (0, 0, 4))
theorem ln_YC12 : YC12.1.length = 8 := ln_add ln_YC11
theorem wf_YC12 : WFs YC12 := wf_add wf_YC11 (by decide)
def YC13 : Stc := putR YC12 5 2 7
theorem ln_YC13 : YC13.1.length = 8 := ln_YC12
theorem wf_YC13 : WFs YC13 := wf_put wf_YC12 (by rw [ln_YC12]; decide) (by rw [ln_YC12]; decide)
def YC14 : Stc := putR YC13 0 10 5
theorem ln_YC14 : YC14.1.length = 8 := ln_YC13
theorem wf_YC14 : WFs YC14 := wf_put wf_YC13 (by rw [ln_YC13]; decide) (by rw [ln_YC13]; decide)
def YC15 : Stc := addS YC14 (.inr 1)
theorem ln_YC15 : YC15.1.length = 9 := ln_add ln_YC14
theorem wf_YC15 : WFs YC15 := wf_add wf_YC14 (by decide)
def YC16 : Stc := addM YC15 21 41
theorem ln_YC16 : YC16.1.length = 31 := ln_mna ln_YC15
theorem wf_YC16 : WFs YC16 := wf_mna wf_YC15
def YC17 : Stc := putR YC16 8 0 9
theorem ln_YC17 : YC17.1.length = 31 := ln_YC16
theorem wf_YC17 : WFs YC17 := wf_put wf_YC16 (by rw [ln_YC16]; decide) (by rw [ln_YC16]; decide)
def YC18 : Stc := addS YC17 (.inl (1, 1, 1000))
theorem ln_YC18 : YC18.1.length = 32 := ln_add ln_YC17
theorem wf_YC18 : WFs YC18 := wf_add wf_YC17 (by decide)
def YC19 : Stc := putR YC18 8 1 31
theorem ln_YC19 : YC19.1.length = 32 := ln_YC18
theorem wf_YC19 : WFs YC19 := wf_put wf_YC18 (by rw [ln_YC18]; decide) (by rw [ln_YC18]; decide)
theorem yC_9 (j : Nat) (hj : j < 21) : YC19.2.1 9 j = some (10 + j % 21) := (by decide +kernel : ∀ j, j < 21 → YC19.2.1 9 j = some (10 + j % 21)) j hj
theorem yC_way (j : Nat) : YC19.1[10 + j % 21]? = some (.inl (1, 1, 41)) := by
  have h : j % 21 < 21 := Nat.mod_lt _ (by decide)
  generalize j % 21 = a at h ⊢
  exact (by decide +kernel : ∀ a, a < 21 → YC19.1[10 + a]? = some (.inl (1, 1, 41))) a h
def YC20 : Stc := putR YC19 0 11 8
theorem ln_YC20 : YC20.1.length = 32 := ln_YC19
theorem wf_YC20 : WFs YC20 := wf_put wf_YC19 (by rw [ln_YC19]; decide) (by rw [ln_YC19]; decide)
def YC21 : Stc := addS YC20 (.inl (0, 0, 1000))
theorem ln_YC21 : YC21.1.length = 33 := ln_add ln_YC20
theorem wf_YC21 : WFs YC21 := wf_add wf_YC20 (by decide)
def YC22 : Stc := putR YC21 0 13 32
theorem ln_YC22 : YC22.1.length = 33 := ln_YC21
theorem wf_YC22 : WFs YC22 := wf_put wf_YC21 (by rw [ln_YC21]; decide) (by rw [ln_YC21]; decide)
def YC23 : Stc := addS YC22 (.inl (0, 0, 1000))
theorem ln_YC23 : YC23.1.length = 34 := ln_add ln_YC22
theorem wf_YC23 : WFs YC23 := wf_add wf_YC22 (by decide)
def YC24 : Stc := putR YC23 0 14 33
theorem ln_YC24 : YC24.1.length = 34 := ln_YC23
theorem wf_YC24 : WFs YC24 := wf_put wf_YC23 (by rw [ln_YC23]; decide) (by rw [ln_YC23]; decide)
def YC25 : Stc := addS YC24 (.inl (0, 0, 9))
theorem ln_YC25 : YC25.1.length = 35 := ln_add ln_YC24
theorem wf_YC25 : WFs YC25 := wf_add wf_YC24 (by decide)
def YC26 : Stc := putR YC25 0 15 34
theorem ln_YC26 : YC26.1.length = 35 := ln_YC25
theorem wf_YC26 : WFs YC26 := wf_put wf_YC25 (by rw [ln_YC25]; decide) (by rw [ln_YC25]; decide)
def YC27 : Stc := addS YC26 (.inl (0, 0, 4))
theorem ln_YC27 : YC27.1.length = 36 := ln_add ln_YC26
theorem wf_YC27 : WFs YC27 := wf_add wf_YC26 (by decide)
def YC28 : Stc := putR YC27 0 16 35
theorem ln_YC28 : YC28.1.length = 36 := ln_YC27
theorem wf_YC28 : WFs YC28 := wf_put wf_YC27 (by rw [ln_YC27]; decide) (by rw [ln_YC27]; decide)
def YC29 : Stc := addS YC28 (.inr 3)
theorem ln_YC29 : YC29.1.length = 37 := ln_add ln_YC28
theorem wf_YC29 : WFs YC29 := wf_add wf_YC28 (by decide)
def YC30 : Stc := putR YC29 1 0 36
theorem ln_YC30 : YC30.1.length = 37 := ln_YC29
theorem wf_YC30 : WFs YC30 := wf_put wf_YC29 (by rw [ln_YC29]; decide) (by rw [ln_YC29]; decide)
def YC31 : Stc := addS YC30 (.inr 7)
theorem ln_YC31 : YC31.1.length = 38 := ln_add ln_YC30
theorem wf_YC31 : WFs YC31 := wf_add wf_YC30 (by decide)
def YC32 : Stc := putR YC31 1 1 37
theorem ln_YC32 : YC32.1.length = 38 := ln_YC31
theorem wf_YC32 : WFs YC32 := wf_put wf_YC31 (by rw [ln_YC31]; decide) (by rw [ln_YC31]; decide)
def YC33 : Stc := addS YC32 (.inr 0)
theorem ln_YC33 : YC33.1.length = 39 := ln_add ln_YC32
theorem wf_YC33 : WFs YC33 := wf_add wf_YC32 (by decide)
def YC34 : Stc := putR YC33 1 2 38
theorem ln_YC34 : YC34.1.length = 39 := ln_YC33
theorem wf_YC34 : WFs YC34 := wf_put wf_YC33 (by rw [ln_YC33]; decide) (by rw [ln_YC33]; decide)
def YC35 : Stc := addS YC34 (.inr 4)
theorem ln_YC35 : YC35.1.length = 40 := ln_add ln_YC34
theorem wf_YC35 : WFs YC35 := wf_add wf_YC34 (by decide)
def YC36 : Stc := putR YC35 1 3 39
theorem ln_YC36 : YC36.1.length = 40 := ln_YC35
theorem wf_YC36 : WFs YC36 := wf_put wf_YC35 (by rw [ln_YC35]; decide) (by rw [ln_YC35]; decide)
def YC37 : Stc := addS YC36 (.inr 9)
theorem ln_YC37 : YC37.1.length = 41 := ln_add ln_YC36
theorem wf_YC37 : WFs YC37 := wf_add wf_YC36 (by decide)
def YC38 : Stc := putR YC37 1 4 40
theorem ln_YC38 : YC38.1.length = 41 := ln_YC37
theorem wf_YC38 : WFs YC38 := wf_put wf_YC37 (by rw [ln_YC37]; decide) (by rw [ln_YC37]; decide)
def YC39 : Stc := addS YC38 (.inr 8)
theorem ln_YC39 : YC39.1.length = 42 := ln_add ln_YC38
theorem wf_YC39 : WFs YC39 := wf_add wf_YC38 (by decide)
def YC40 : Stc := putR YC39 1 5 41
theorem ln_YC40 : YC40.1.length = 42 := ln_YC39
theorem wf_YC40 : WFs YC40 := wf_put wf_YC39 (by rw [ln_YC39]; decide) (by rw [ln_YC39]; decide)
def YC41 : Stc := addS YC40 (.inr 5)
theorem ln_YC41 : YC41.1.length = 43 := ln_add ln_YC40
theorem wf_YC41 : WFs YC41 := wf_add wf_YC40 (by decide)
def YC42 : Stc := addS YC41 (.inl (2, 2, 4))
theorem ln_YC42 : YC42.1.length = 44 := ln_add ln_YC41
theorem wf_YC42 : WFs YC42 := wf_add wf_YC41 (by decide)
def YC43 : Stc := putR YC42 42 5 43
theorem ln_YC43 : YC43.1.length = 44 := ln_YC42
theorem wf_YC43 : WFs YC43 := wf_put wf_YC42 (by rw [ln_YC42]; decide) (by rw [ln_YC42]; decide)
def YC44 : Stc := addS YC43 (.inl (0, 0, 24))
theorem ln_YC44 : YC44.1.length = 45 := ln_add ln_YC43
theorem wf_YC44 : WFs YC44 := wf_add wf_YC43 (by decide)
def YC45 : Stc := putR YC44 42 6 44
theorem ln_YC45 : YC45.1.length = 45 := ln_YC44
theorem wf_YC45 : WFs YC45 := wf_put wf_YC44 (by rw [ln_YC44]; decide) (by rw [ln_YC44]; decide)
def YC46 : Stc := addS YC45 (.inl (0, 0, 24))
theorem ln_YC46 : YC46.1.length = 46 := ln_add ln_YC45
theorem wf_YC46 : WFs YC46 := wf_add wf_YC45 (by decide)
def YC47 : Stc := putR YC46 42 7 45
theorem ln_YC47 : YC47.1.length = 46 := ln_YC46
theorem wf_YC47 : WFs YC47 := wf_put wf_YC46 (by rw [ln_YC46]; decide) (by rw [ln_YC46]; decide)
def YC48 : Stc := addS YC47 (.inl (0, 0, 24))
theorem ln_YC48 : YC48.1.length = 47 := ln_add ln_YC47
theorem wf_YC48 : WFs YC48 := wf_add wf_YC47 (by decide)
def YC49 : Stc := putR YC48 42 8 46
theorem ln_YC49 : YC49.1.length = 47 := ln_YC48
theorem wf_YC49 : WFs YC49 := wf_put wf_YC48 (by rw [ln_YC48]; decide) (by rw [ln_YC48]; decide)
def YC50 : Stc := addS YC49 (.inl (0, 0, 24))
theorem ln_YC50 : YC50.1.length = 48 := ln_add ln_YC49
theorem wf_YC50 : WFs YC50 := wf_add wf_YC49 (by decide)
def YC51 : Stc := putR YC50 42 9 47
theorem ln_YC51 : YC51.1.length = 48 := ln_YC50
theorem wf_YC51 : WFs YC51 := wf_put wf_YC50 (by rw [ln_YC50]; decide) (by rw [ln_YC50]; decide)
def YC52 : Stc := addS YC51 (.inl (0, 9, 2))
theorem ln_YC52 : YC52.1.length = 49 := ln_add ln_YC51
theorem wf_YC52 : WFs YC52 := wf_add wf_YC51 (by decide)
def YC53 : Stc := shpS YC52 48 (.inr 2)
theorem ln_YC53 : YC53.1.length = 49 := ln_shp ln_YC52
theorem wf_YC53 : WFs YC53 := wf_shp wf_YC52 (by rw [ln_YC52]; exact Nat.le_of_ble_eq_true rfl)
def YC54 : Stc := putR YC53 43 0 48
theorem ln_YC54 : YC54.1.length = 49 := ln_YC53
theorem wf_YC54 : WFs YC54 := wf_put wf_YC53 (by rw [ln_YC53]; decide) (by rw [ln_YC53]; decide)
def YC55 : Stc := addS YC54 (.inl (0, 9, 2))
theorem ln_YC55 : YC55.1.length = 50 := ln_add ln_YC54
theorem wf_YC55 : WFs YC55 := wf_add wf_YC54 (by decide)
def YC56 : Stc := shpS YC55 49 (.inr 2)
theorem ln_YC56 : YC56.1.length = 50 := ln_shp ln_YC55
theorem wf_YC56 : WFs YC56 := wf_shp wf_YC55 (by rw [ln_YC55]; exact Nat.le_of_ble_eq_true rfl)
def YC57 : Stc := putR YC56 43 1 49
theorem ln_YC57 : YC57.1.length = 50 := ln_YC56
theorem wf_YC57 : WFs YC57 := wf_put wf_YC56 (by rw [ln_YC56]; decide) (by rw [ln_YC56]; decide)
def YC58 : Stc := addS YC57 (.inl (0, 9, 2))
theorem ln_YC58 : YC58.1.length = 51 := ln_add ln_YC57
theorem wf_YC58 : WFs YC58 := wf_add wf_YC57 (by decide)
def YC59 : Stc := shpS YC58 50 (.inr 2)
theorem ln_YC59 : YC59.1.length = 51 := ln_shp ln_YC58
theorem wf_YC59 : WFs YC59 := wf_shp wf_YC58 (by rw [ln_YC58]; exact Nat.le_of_ble_eq_true rfl)
def YC60 : Stc := putR YC59 43 2 50
theorem ln_YC60 : YC60.1.length = 51 := ln_YC59
theorem wf_YC60 : WFs YC60 := wf_put wf_YC59 (by rw [ln_YC59]; decide) (by rw [ln_YC59]; decide)
def YC61 : Stc := addS YC60 (.inl (0, 9, 2))
theorem ln_YC61 : YC61.1.length = 52 := ln_add ln_YC60
theorem wf_YC61 : WFs YC61 := wf_add wf_YC60 (by decide)
def YC62 : Stc := shpS YC61 51 (.inr 2)
theorem ln_YC62 : YC62.1.length = 52 := ln_shp ln_YC61
theorem wf_YC62 : WFs YC62 := wf_shp wf_YC61 (by rw [ln_YC61]; exact Nat.le_of_ble_eq_true rfl)
def YC63 : Stc := putR YC62 43 3 51
theorem ln_YC63 : YC63.1.length = 52 := ln_YC62
theorem wf_YC63 : WFs YC63 := wf_put wf_YC62 (by rw [ln_YC62]; decide) (by rw [ln_YC62]; decide)
def YC64 : Stc := putR YC63 0 1 42
theorem ln_YC64 : YC64.1.length = 52 := ln_YC63
theorem wf_YC64 : WFs YC64 := wf_put wf_YC63 (by rw [ln_YC63]; decide) (by rw [ln_YC63]; decide)
def YC65 : Stc := addS YC64 (.inr 5)
theorem ln_YC65 : YC65.1.length = 53 := ln_add ln_YC64
theorem wf_YC65 : WFs YC65 := wf_add wf_YC64 (by decide)
def YC66 : Stc := addS YC65 (.inl (2, 2, 4))
theorem ln_YC66 : YC66.1.length = 54 := ln_add ln_YC65
theorem wf_YC66 : WFs YC66 := wf_add wf_YC65 (by decide)
def YC67 : Stc := putR YC66 52 5 53
theorem ln_YC67 : YC67.1.length = 54 := ln_YC66
theorem wf_YC67 : WFs YC67 := wf_put wf_YC66 (by rw [ln_YC66]; decide) (by rw [ln_YC66]; decide)
def YC68 : Stc := addS YC67 (.inl (0, 0, 24))
theorem ln_YC68 : YC68.1.length = 55 := ln_add ln_YC67
theorem wf_YC68 : WFs YC68 := wf_add wf_YC67 (by decide)
def YC69 : Stc := putR YC68 52 6 54
theorem ln_YC69 : YC69.1.length = 55 := ln_YC68
theorem wf_YC69 : WFs YC69 := wf_put wf_YC68 (by rw [ln_YC68]; decide) (by rw [ln_YC68]; decide)
def YC70 : Stc := addS YC69 (.inl (0, 0, 24))
theorem ln_YC70 : YC70.1.length = 56 := ln_add ln_YC69
theorem wf_YC70 : WFs YC70 := wf_add wf_YC69 (by decide)
def YC71 : Stc := putR YC70 52 7 55
theorem ln_YC71 : YC71.1.length = 56 := ln_YC70
theorem wf_YC71 : WFs YC71 := wf_put wf_YC70 (by rw [ln_YC70]; decide) (by rw [ln_YC70]; decide)
def YC72 : Stc := addS YC71 (.inl (0, 0, 24))
theorem ln_YC72 : YC72.1.length = 57 := ln_add ln_YC71
theorem wf_YC72 : WFs YC72 := wf_add wf_YC71 (by decide)
def YC73 : Stc := putR YC72 52 8 56
theorem ln_YC73 : YC73.1.length = 57 := ln_YC72
theorem wf_YC73 : WFs YC73 := wf_put wf_YC72 (by rw [ln_YC72]; decide) (by rw [ln_YC72]; decide)
def YC74 : Stc := addS YC73 (.inl (0, 0, 24))
theorem ln_YC74 : YC74.1.length = 58 := ln_add ln_YC73
theorem wf_YC74 : WFs YC74 := wf_add wf_YC73 (by decide)
def YC75 : Stc := putR YC74 52 9 57
theorem ln_YC75 : YC75.1.length = 58 := ln_YC74
theorem wf_YC75 : WFs YC75 := wf_put wf_YC74 (by rw [ln_YC74]; decide) (by rw [ln_YC74]; decide)
def YC76 : Stc := addS YC75 (.inl (0, 9, 2))
theorem ln_YC76 : YC76.1.length = 59 := ln_add ln_YC75
theorem wf_YC76 : WFs YC76 := wf_add wf_YC75 (by decide)
def YC77 : Stc := shpS YC76 58 (.inr 2)
theorem ln_YC77 : YC77.1.length = 59 := ln_shp ln_YC76
theorem wf_YC77 : WFs YC77 := wf_shp wf_YC76 (by rw [ln_YC76]; exact Nat.le_of_ble_eq_true rfl)
def YC78 : Stc := putR YC77 53 0 58
theorem ln_YC78 : YC78.1.length = 59 := ln_YC77
theorem wf_YC78 : WFs YC78 := wf_put wf_YC77 (by rw [ln_YC77]; decide) (by rw [ln_YC77]; decide)
def YC79 : Stc := addS YC78 (.inl (0, 9, 2))
theorem ln_YC79 : YC79.1.length = 60 := ln_add ln_YC78
theorem wf_YC79 : WFs YC79 := wf_add wf_YC78 (by decide)
def YC80 : Stc := shpS YC79 59 (.inr 2)
theorem ln_YC80 : YC80.1.length = 60 := ln_shp ln_YC79
theorem wf_YC80 : WFs YC80 := wf_shp wf_YC79 (by rw [ln_YC79]; exact Nat.le_of_ble_eq_true rfl)
def YC81 : Stc := putR YC80 53 1 59
theorem ln_YC81 : YC81.1.length = 60 := ln_YC80
theorem wf_YC81 : WFs YC81 := wf_put wf_YC80 (by rw [ln_YC80]; decide) (by rw [ln_YC80]; decide)
def YC82 : Stc := addS YC81 (.inl (0, 9, 2))
theorem ln_YC82 : YC82.1.length = 61 := ln_add ln_YC81
theorem wf_YC82 : WFs YC82 := wf_add wf_YC81 (by decide)
def YC83 : Stc := shpS YC82 60 (.inr 2)
theorem ln_YC83 : YC83.1.length = 61 := ln_shp ln_YC82
theorem wf_YC83 : WFs YC83 := wf_shp wf_YC82 (by rw [ln_YC82]; exact Nat.le_of_ble_eq_true rfl)
def YC84 : Stc := putR YC83 53 2 60
theorem ln_YC84 : YC84.1.length = 61 := ln_YC83
theorem wf_YC84 : WFs YC84 := wf_put wf_YC83 (by rw [ln_YC83]; decide) (by rw [ln_YC83]; decide)
def YC85 : Stc := addS YC84 (.inl (0, 9, 2))
theorem ln_YC85 : YC85.1.length = 62 := ln_add ln_YC84
theorem wf_YC85 : WFs YC85 := wf_add wf_YC84 (by decide)
def YC86 : Stc := shpS YC85 61 (.inr 2)
theorem ln_YC86 : YC86.1.length = 62 := ln_shp ln_YC85
theorem wf_YC86 : WFs YC86 := wf_shp wf_YC85 (by rw [ln_YC85]; exact Nat.le_of_ble_eq_true rfl)
def YC87 : Stc := putR YC86 53 3 61
theorem ln_YC87 : YC87.1.length = 62 := ln_YC86
theorem wf_YC87 : WFs YC87 := wf_put wf_YC86 (by rw [ln_YC86]; decide) (by rw [ln_YC86]; decide)
def YC88 : Stc := putR YC87 0 2 52
theorem ln_YC88 : YC88.1.length = 62 := ln_YC87
theorem wf_YC88 : WFs YC88 := wf_put wf_YC87 (by rw [ln_YC87]; decide) (by rw [ln_YC87]; decide)
def YC89 : Stc := addS YC88 (.inr 5)
theorem ln_YC89 : YC89.1.length = 63 := ln_add ln_YC88
theorem wf_YC89 : WFs YC89 := wf_add wf_YC88 (by decide)
def YC90 : Stc := addS YC89 (.inl (2, 2, 4))
theorem ln_YC90 : YC90.1.length = 64 := ln_add ln_YC89
theorem wf_YC90 : WFs YC90 := wf_add wf_YC89 (by decide)
def YC91 : Stc := putR YC90 62 5 63
theorem ln_YC91 : YC91.1.length = 64 := ln_YC90
theorem wf_YC91 : WFs YC91 := wf_put wf_YC90 (by rw [ln_YC90]; decide) (by rw [ln_YC90]; decide)
def YC92 : Stc := addS YC91 (.inl (0, 0, 24))
theorem ln_YC92 : YC92.1.length = 65 := ln_add ln_YC91
theorem wf_YC92 : WFs YC92 := wf_add wf_YC91 (by decide)
def YC93 : Stc := putR YC92 62 6 64
theorem ln_YC93 : YC93.1.length = 65 := ln_YC92
theorem wf_YC93 : WFs YC93 := wf_put wf_YC92 (by rw [ln_YC92]; decide) (by rw [ln_YC92]; decide)
def YC94 : Stc := addS YC93 (.inl (0, 0, 24))
theorem ln_YC94 : YC94.1.length = 66 := ln_add ln_YC93
theorem wf_YC94 : WFs YC94 := wf_add wf_YC93 (by decide)
def YC95 : Stc := putR YC94 62 7 65
theorem ln_YC95 : YC95.1.length = 66 := ln_YC94
theorem wf_YC95 : WFs YC95 := wf_put wf_YC94 (by rw [ln_YC94]; decide) (by rw [ln_YC94]; decide)
def YC96 : Stc := addS YC95 (.inl (0, 0, 24))
theorem ln_YC96 : YC96.1.length = 67 := ln_add ln_YC95
theorem wf_YC96 : WFs YC96 := wf_add wf_YC95 (by decide)
def YC97 : Stc := putR YC96 62 8 66
theorem ln_YC97 : YC97.1.length = 67 := ln_YC96
theorem wf_YC97 : WFs YC97 := wf_put wf_YC96 (by rw [ln_YC96]; decide) (by rw [ln_YC96]; decide)
def YC98 : Stc := addS YC97 (.inl (0, 0, 24))
theorem ln_YC98 : YC98.1.length = 68 := ln_add ln_YC97
theorem wf_YC98 : WFs YC98 := wf_add wf_YC97 (by decide)
def YC99 : Stc := putR YC98 62 9 67
theorem ln_YC99 : YC99.1.length = 68 := ln_YC98
theorem wf_YC99 : WFs YC99 := wf_put wf_YC98 (by rw [ln_YC98]; decide) (by rw [ln_YC98]; decide)
def YC100 : Stc := addS YC99 (.inl (0, 9, 2))
theorem ln_YC100 : YC100.1.length = 69 := ln_add ln_YC99
theorem wf_YC100 : WFs YC100 := wf_add wf_YC99 (by decide)
def YC101 : Stc := shpS YC100 68 (.inr 2)
theorem ln_YC101 : YC101.1.length = 69 := ln_shp ln_YC100
theorem wf_YC101 : WFs YC101 := wf_shp wf_YC100 (by rw [ln_YC100]; exact Nat.le_of_ble_eq_true rfl)
def YC102 : Stc := putR YC101 63 0 68
theorem ln_YC102 : YC102.1.length = 69 := ln_YC101
theorem wf_YC102 : WFs YC102 := wf_put wf_YC101 (by rw [ln_YC101]; decide) (by rw [ln_YC101]; decide)
def YC103 : Stc := addS YC102 (.inl (0, 9, 2))
theorem ln_YC103 : YC103.1.length = 70 := ln_add ln_YC102
theorem wf_YC103 : WFs YC103 := wf_add wf_YC102 (by decide)
def YC104 : Stc := shpS YC103 69 (.inr 2)
theorem ln_YC104 : YC104.1.length = 70 := ln_shp ln_YC103
theorem wf_YC104 : WFs YC104 := wf_shp wf_YC103 (by rw [ln_YC103]; exact Nat.le_of_ble_eq_true rfl)
def YC105 : Stc := putR YC104 63 1 69
theorem ln_YC105 : YC105.1.length = 70 := ln_YC104
theorem wf_YC105 : WFs YC105 := wf_put wf_YC104 (by rw [ln_YC104]; decide) (by rw [ln_YC104]; decide)
def YC106 : Stc := addS YC105 (.inl (0, 9, 2))
theorem ln_YC106 : YC106.1.length = 71 := ln_add ln_YC105
theorem wf_YC106 : WFs YC106 := wf_add wf_YC105 (by decide)
def YC107 : Stc := shpS YC106 70 (.inr 2)
theorem ln_YC107 : YC107.1.length = 71 := ln_shp ln_YC106
theorem wf_YC107 : WFs YC107 := wf_shp wf_YC106 (by rw [ln_YC106]; exact Nat.le_of_ble_eq_true rfl)
def YC108 : Stc := putR YC107 63 2 70
theorem ln_YC108 : YC108.1.length = 71 := ln_YC107
theorem wf_YC108 : WFs YC108 := wf_put wf_YC107 (by rw [ln_YC107]; decide) (by rw [ln_YC107]; decide)
def YC109 : Stc := addS YC108 (.inl (0, 9, 2))
theorem ln_YC109 : YC109.1.length = 72 := ln_add ln_YC108
theorem wf_YC109 : WFs YC109 := wf_add wf_YC108 (by decide)
def YC110 : Stc := shpS YC109 71 (.inr 2)
theorem ln_YC110 : YC110.1.length = 72 := ln_shp ln_YC109
theorem wf_YC110 : WFs YC110 := wf_shp wf_YC109 (by rw [ln_YC109]; exact Nat.le_of_ble_eq_true rfl)
def YC111 : Stc := putR YC110 63 3 71
theorem ln_YC111 : YC111.1.length = 72 := ln_YC110
theorem wf_YC111 : WFs YC111 := wf_put wf_YC110 (by rw [ln_YC110]; decide) (by rw [ln_YC110]; decide)
def YC112 : Stc := putR YC111 0 3 62
theorem ln_YC112 : YC112.1.length = 72 := ln_YC111
theorem wf_YC112 : WFs YC112 := wf_put wf_YC111 (by rw [ln_YC111]; decide) (by rw [ln_YC111]; decide)
def YC113 : Stc := addS YC112 (.inl (0, 9, 2))
theorem ln_YC113 : YC113.1.length = 73 := ln_add ln_YC112
theorem wf_YC113 : WFs YC113 := wf_add wf_YC112 (by decide)
def YC114 : Stc := shpS YC113 72 (.inr 2)
theorem ln_YC114 : YC114.1.length = 73 := ln_shp ln_YC113
theorem wf_YC114 : WFs YC114 := wf_shp wf_YC113 (by rw [ln_YC113]; exact Nat.le_of_ble_eq_true rfl)
def YC115 : Stc := putR YC114 0 12 72
theorem ln_YC115 : YC115.1.length = 73 := ln_YC114
theorem wf_YC115 : WFs YC115 := wf_put wf_YC114 (by rw [ln_YC114]; decide) (by rw [ln_YC114]; decide)
