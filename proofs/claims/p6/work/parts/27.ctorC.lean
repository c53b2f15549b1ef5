def YC0 : Stc := ([.inr 10], (fun _ _ => none), 36, tlC)
theorem ln_YC0 : YC0.1.length = 1 := rfl
theorem wf_YC0 : WFs YC0 := wf_one (by decide)
def YC1 : Stc := addS YC0 (.inl (3, 2, 6))
theorem ln_YC1 : YC1.1.length = 2 := ln_add ln_YC0
theorem wf_YC1 : WFs YC1 := wf_add wf_YC0 (by decide)
def YC2 : Stc := putR YC1 0 0 1
theorem ln_YC2 : YC2.1.length = 2 := ln_YC1
theorem wf_YC2 : WFs YC2 := wf_put wf_YC1 (by rw [ln_YC1]; decide) (by rw [ln_YC1]; decide)
def YC3 : Stc := addS YC2 (.inl (0, 0, 96))
theorem ln_YC3 : YC3.1.length = 3 := ln_add ln_YC2
theorem wf_YC3 : WFs YC3 := wf_add wf_YC2 (by decide)
def YC4 : Stc := putR YC3 0 5 2
theorem ln_YC4 : YC4.1.length = 3 := ln_YC3
theorem wf_YC4 : WFs YC4 := wf_put wf_YC3 (by rw [ln_YC3]; decide) (by rw [ln_YC3]; decide)
def YC5 : Stc := addS YC4 (.inl (0, 0, 12))
theorem ln_YC5 : YC5.1.length = 4 := ln_add ln_YC4
theorem wf_YC5 : WFs YC5 := wf_add wf_YC4 (by decide)
def YC6 : Stc := putR YC5 0 7 3
theorem ln_YC6 : YC6.1.length = 4 := ln_YC5
theorem wf_YC6 : WFs YC6 := wf_put wf_YC5 (by rw [ln_YC5]; decide) (by rw [ln_YC5]; decide)
def YC7 : Stc := addS YC6 (.inl (0, 0, 7))
theorem ln_YC7 : YC7.1.length = 5 := ln_add ln_YC6
theorem wf_YC7 : WFs YC7 := wf_add wf_YC6 (by decide)
def YC8 : Stc := putR YC7 0 9 4
theorem ln_YC8 : YC8.1.length = 5 := ln_YC7
theorem wf_YC8 : WFs YC8 := wf_put wf_YC7 (by rw [ln_YC7]; decide) (by rw [ln_YC7]; decide)
def YC9 : Stc := addS YC8 (.inr 6)
theorem ln_YC9 : YC9.1.length = 6 := ln_add ln_YC8
theorem wf_YC9 : WFs YC9 := wf_add wf_YC8 (by decide)
def YC10 : Stc := addS YC9 (.inl (0, 0, 4))
theorem ln_YC10 : YC10.1.length = 7 := ln_add ln_YC9
theorem wf_YC10 : WFs YC10 := wf_add wf_YC9 (by decide)
def YC11 : Stc := putR YC10 5 1 6
theorem ln_YC11 : YC11.1.length = 7 := ln_YC10
theorem wf_YC11 : WFs YC11 := wf_put wf_YC10 (by rw [ln_YC10]; decide) (by rw [ln_YC10]; decide)
def YC12 : Stc := addS YC11 (.inl (0, 0, 4))
theorem ln_YC12 : YC12.1.length = 8 := ln_add ln_YC11
theorem wf_YC12 : WFs YC12 := wf_add wf_YC11 (by decide)
def YC13 : Stc := putR YC12 5 2 7
theorem ln_YC13 : YC13.1.length = 8 := ln_YC12
theorem wf_YC13 : WFs YC13 := wf_put wf_YC12 (by rw [ln_YC12]; decide) (by rw [ln_YC12]; decide)
def YC14 : Stc := putR YC13 0 10 5
theorem ln_YC14 : YC14.1.length = 8 := ln_YC13
theorem wf_YC14 : WFs YC14 := wf_put wf_YC13 (by rw [ln_YC13]; decide) (by rw [ln_YC13]; decide)
def YC15 : Stc := addS YC14 (.inr 1)
theorem ln_YC15 : YC15.1.length = 9 := ln_add ln_YC14
theorem wf_YC15 : WFs YC15 := wf_add wf_YC14 (by decide)
def YC16 : Stc := addM YC15 21 41
theorem ln_YC16 : YC16.1.length = 31 := ln_mna ln_YC15
theorem wf_YC16 : WFs YC16 := wf_mna wf_YC15
def YC17 : Stc := putR YC16 8 0 9
theorem ln_YC17 : YC17.1.length = 31 := ln_YC16
theorem wf_YC17 : WFs YC17 := wf_put wf_YC16 (by rw [ln_YC16]; decide) (by rw [ln_YC16]; decide)
def YC18 : Stc := addS YC17 (.inl (1, 1, 1000))
theorem ln_YC18 : YC18.1.length = 32 := ln_add ln_YC17
theorem wf_YC18 : WFs YC18 := wf_add wf_YC17 (by decide)
def YC19 : Stc := putR YC18 8 1 31
theorem ln_YC19 : YC19.1.length = 32 := ln_YC18
theorem wf_YC19 : WFs YC19 := wf_put wf_YC18 (by rw [ln_YC18]; decide) (by rw [ln_YC18]; decide)
theorem yC_9 (j : Nat) (hj : j < 21) : YC19.2.1 9 j = some (10 + j % 21) := (by decide +kernel : ∀ j, j < 21 → YC19.2.1 9 j = some (10 + j % 21)) j hj
theorem yC_way (j : Nat) : YC19.1[10 + j % 21]? = some (.inl (1, 1, 41)) := by
  have h : j % 21 < 21 := Nat.mod_lt _ (by decide)
  generalize j % 21 = a at h ⊢
  exact (by decide +kernel : ∀ a, a < 21 → YC19.1[10 + a]? = some (.inl (1, 1, 41))) a h
def YC20 : Stc := putR YC19 0 11 8
theorem ln_YC20 : YC20.1.length = 32 := ln_YC19
theorem wf_YC20 : WFs YC20 := wf_put wf_YC19 (by rw [ln_YC19]; decide) (by rw [ln_YC19]; decide)
def YC21 : Stc := addS YC20 (.inl (0, 0, 1000))
theorem ln_YC21 : YC21.1.length = 33 := ln_add ln_YC20
theorem wf_YC21 : WFs YC21 := wf_add wf_YC20 (by decide)
def YC22 : Stc := putR YC21 0 13 32
theorem ln_YC22 : YC22.1.length = 33 := ln_YC21
theorem wf_YC22 : WFs YC22 := wf_put wf_YC21 (by rw [ln_YC21]; decide) (by rw [ln_YC21]; decide)
def YC23 : Stc := addS YC22 (.inl (0, 0, 1000))
theorem ln_YC23 : YC23.1.length = 34 := ln_add ln_YC22
theorem wf_YC23 : WFs YC23 := wf_add wf_YC22 (by decide)
def YC24 : Stc := putR YC23 0 14 33
theorem ln_YC24 : YC24.1.length = 34 := ln_YC23
theorem wf_YC24 : WFs YC24 := wf_put wf_YC23 (by rw [ln_YC23]; decide) (by rw [ln_YC23]; decide)
def YC25 : Stc := addS YC24 (.inl (0, 0, 9))
theorem ln_YC25 : YC25.1.length = 35 := ln_add ln_YC24
theorem wf_YC25 : WFs YC25 := wf_add wf_YC24 (by decide)
def YC26 : Stc := putR YC25 0 15 34
theorem ln_YC26 : YC26.1.length = 35 := ln_YC25
theorem wf_YC26 : WFs YC26 := wf_put wf_YC25 (by rw [ln_YC25]; decide) (by rw [ln_YC25]; decide)
def YC27 : Stc := addS YC26 (.inl (0, 0, 4))
theorem ln_YC27 : YC27.1.length = 36 := ln_add ln_YC26
theorem wf_YC27 : WFs YC27 := wf_add wf_YC26 (by decide)
def YC28 : Stc := putR YC27 0 16 35
theorem ln_YC28 : YC28.1.length = 36 := ln_YC27
theorem wf_YC28 : WFs YC28 := wf_put wf_YC27 (by rw [ln_YC27]; decide) (by rw [ln_YC27]; decide)
def YC29 : Stc := addS YC28 (.inr 3)
theorem ln_YC29 : YC29.1.length = 37 := ln_add ln_YC28
theorem wf_YC29 : WFs YC29 := wf_add wf_YC28 (by decide)
def YC30 : Stc := putR YC29 1 0 36
theorem ln_YC30 : YC30.1.length = 37 := ln_YC29
theorem wf_YC30 : WFs YC30 := wf_put wf_YC29 (by rw [ln_YC29]; decide) (by rw [ln_YC29]; decide)
def YC31 : Stc := addS YC30 (.inr 7)
theorem ln_YC31 : YC31.1.length = 38 := ln_add ln_YC30
theorem wf_YC31 : WFs YC31 := wf_add wf_YC30 (by decide)
def YC32 : Stc := putR YC31 1 1 37
theorem ln_YC32 : YC32.1.length = 38 := ln_YC31
theorem wf_YC32 : WFs YC32 := wf_put wf_YC31 (by rw [ln_YC31]; decide) (by rw [ln_YC31]; decide)
def YC33 : Stc := addS YC32 (.inr 0)
theorem ln_YC33 : YC33.1.length = 39 := ln_add ln_YC32
theorem wf_YC33 : WFs YC33 := wf_add wf_YC32 (by decide)
def YC34 : Stc := putR YC33 1 2 38
theorem ln_YC34 : YC34.1.length = 39 := ln_YC33
theorem wf_YC34 : WFs YC34 := wf_put wf_YC33 (by rw [ln_YC33]; decide) (by rw [ln_YC33]; decide)
def YC35 : Stc := addS YC34 (.inr 4)
theorem ln_YC35 : YC35.1.length = 40 := ln_add ln_YC34
theorem wf_YC35 : WFs YC35 := wf_add wf_YC34 (by decide)
def YC36 : Stc := putR YC35 1 3 39
theorem ln_YC36 : YC36.1.length = 40 := ln_YC35
theorem wf_YC36 : WFs YC36 := wf_put wf_YC35 (by rw [ln_YC35]; decide) (by rw [ln_YC35]; decide)
def YC37 : Stc := addS YC36 (.inr 9)
theorem ln_YC37 : YC37.1.length = 41 := ln_add ln_YC36
theorem wf_YC37 : WFs YC37 := wf_add wf_YC36 (by decide)
def YC38 : Stc := putR YC37 1 4 40
theorem ln_YC38 : YC38.1.length = 41 := ln_YC37
theorem wf_YC38 : WFs YC38 := wf_put wf_YC37 (by rw [ln_YC37]; decide) (by rw [ln_YC37]; decide)
def YC39 : Stc := addS YC38 (.inr 8)
theorem ln_YC39 : YC39.1.length = 42 := ln_add ln_YC38
theorem wf_YC39 : WFs YC39 := wf_add wf_YC38 (by decide)
def YC40 : Stc := putR YC39 1 5 41
theorem ln_YC40 : YC40.1.length = 42 := ln_YC39
theorem wf_YC40 : WFs YC40 := wf_put wf_YC39 (by rw [ln_YC39]; decide) (by rw [ln_YC39]; decide)
def YC41 : Stc := addS YC40 (.inr 5)
theorem ln_YC41 : YC41.1.length = 43 := ln_add ln_YC40
theorem wf_YC41 : WFs YC41 := wf_add wf_YC40 (by decide)
def YC42 : Stc := addS YC41 (.inl (2, 2, 4))
theorem ln_YC42 : YC42.1.length = 44 := ln_add ln_YC41
theorem wf_YC42 : WFs YC42 := wf_add wf_YC41 (by decide)
def YC43 : Stc := putR YC42 42 5 43
theorem ln_YC43 : YC43.1.length = 44 := ln_YC42
theorem wf_YC43 : WFs YC43 := wf_put wf_YC42 (by rw [ln_YC42]; decide) (by rw [ln_YC42]; decide)
def YC44 : Stc := addS YC43 (.inl (0, 0, 24))
theorem ln_YC44 : YC44.1.length = 45 := ln_add ln_YC43
theorem wf_YC44 : WFs YC44 := wf_add wf_YC43 (by decide)
def YC45 : Stc := putR YC44 42 6 44
theorem ln_YC45 : YC45.1.length = 45 := ln_YC44
theorem wf_YC45 : WFs YC45 := wf_put wf_YC44 (by rw [ln_YC44]; decide) (by rw [ln_YC44]; decide)
def YC46 : Stc := addS YC45 (.inl (0, 0, 24))
theorem ln_YC46 : YC46.1.length = 46 := ln_add ln_YC45
theorem wf_YC46 : WFs YC46 := wf_add wf_YC45 (by decide)
def YC47 : Stc := putR YC46 42 7 45
theorem ln_YC47 : YC47.1.length = 46 := ln_YC46
theorem wf_YC47 : WFs YC47 := wf_put wf_YC46 (by rw [ln_YC46]; decide) (by rw [ln_YC46]; decide)
def YC48 : Stc := addS YC47 (.inl (0, 0, 24))
theorem ln_YC48 : YC48.1.length = 47 := ln_add ln_YC47
theorem wf_YC48 : WFs YC48 := wf_add wf_YC47 (by decide)
def YC49 : Stc := putR YC48 42 8 46
theorem ln_YC49 : YC49.1.length = 47 := ln_YC48
theorem wf_YC49 : WFs YC49 := wf_put wf_YC48 (by rw [ln_YC48]; decide) (by rw [ln_YC48]; decide)
def YC50 : Stc := addS YC49 (.inl (0, 0, 24))
theorem ln_YC50 : YC50.1.length = 48 := ln_add ln_YC49
theorem wf_YC50 : WFs YC50 := wf_add wf_YC49 (by decide)
def YC51 : Stc := putR YC50 42 9 47
theorem ln_YC51 : YC51.1.length = 48 := ln_YC50
theorem wf_YC51 : WFs YC51 := wf_put wf_YC50 (by rw [ln_YC50]; decide) (by rw [ln_YC50]; decide)
def YC52 : Stc := addS YC51 (.inl (0, 9, 2))
theorem ln_YC52 : YC52.1.length = 49 := ln_add ln_YC51
theorem wf_YC52 : WFs YC52 := wf_add wf_YC51 (by decide)
def YC53 : Stc := shpS YC52 48 (.inr 2)
theorem ln_YC53 : YC53.1.length = 49 := ln_shp ln_YC52
theorem wf_YC53 : WFs YC53 := wf_shp wf_YC52 (by rw [ln_YC52]; exact Nat.le_of_ble_eq_true rfl)
def YC54 : Stc := putR YC53 43 0 48
theorem ln_YC54 : YC54.1.length = 49 := ln_YC53
theorem wf_YC54 : WFs YC54 := wf_put wf_YC53 (by rw [ln_YC53]; decide) (by rw [ln_YC53]; decide)
def YC55 : Stc := addS YC54 (.inl (0, 9, 2))
theorem ln_YC55 : YC55.1.length = 50 := ln_add ln_YC54
theorem wf_YC55 : WFs YC55 := wf_add wf_YC54 (by decide)
def YC56 : Stc := shpS YC55 49 (.inr 2)
theorem ln_YC56 : YC56.1.length = 50 := ln_shp ln_YC55
theorem wf_YC56 : WFs YC56 := wf_shp wf_YC55 (by rw [ln_YC55]; exact Nat.le_of_ble_eq_true rfl)
def YC57 : Stc := putR YC56 43 1 49
theorem ln_YC57 : YC57.1.length = 50 := ln_YC56
theorem wf_YC57 : WFs YC57 := wf_put wf_YC56 (by rw [ln_YC56]; decide) (by rw [ln_YC56]; decide)
def YC58 : Stc := addS YC57 (.inl (0, 9, 2))
theorem ln_YC58 : YC58.1.length = 51 := ln_add ln_YC57
theorem wf_YC58 : WFs YC58 := wf_add wf_YC57 (by decide)
def YC59 : Stc := shpS YC58 50 (.inr 2)
theorem ln_YC59 : YC59.1.length = 51 := ln_shp ln_YC58
theorem wf_YC59 : WFs YC59 := wf_shp wf_YC58 (by rw [ln_YC58]; exact Nat.le_of_ble_eq_true rfl)
def YC60 : Stc := putR YC59 43 2 50
theorem ln_YC60 : YC60.1.length = 51 := ln_YC59
theorem wf_YC60 : WFs YC60 := wf_put wf_YC59 (by rw [ln_YC59]; decide) (by rw [ln_YC59]; decide)
def YC61 : Stc := addS YC60 (.inl (0, 9, 2))
theorem ln_YC61 : YC61.1.length = 52 := ln_add ln_YC60
theorem wf_YC61 : WFs YC61 := wf_add wf_YC60 (by decide)
def YC62 : Stc := shpS YC61 51 (.inr 2)
theorem ln_YC62 : YC62.1.length = 52 := ln_shp ln_YC61
theorem wf_YC62 : WFs YC62 := wf_shp wf_YC61 (by rw [ln_YC61]; exact Nat.le_of_ble_eq_true rfl)
def YC63 : Stc := putR YC62 43 3 51
theorem ln_YC63 : YC63.1.length = 52 := ln_YC62
theorem wf_YC63 : WFs YC63 := wf_put wf_YC62 (by rw [ln_YC62]; decide) (by rw [ln_YC62]; decide)
def YC64 : Stc := putR YC63 0 1 42
theorem ln_YC64 : YC64.1.length = 52 := ln_YC63
theorem wf_YC64 : WFs YC64 := wf_put wf_YC63 (by rw [ln_YC63]; decide) (by rw [ln_YC63]; decide)
def YC65 : Stc := addS YC64 (.inr 5)
theorem ln_YC65 : YC65.1.length = 53 := ln_add ln_YC64
theorem wf_YC65 : WFs YC65 := wf_add wf_YC64 (by decide)
def YC66 : Stc := addS YC65 (.inl (2, 2, 4))
theorem ln_YC66 : YC66.1.length = 54 := ln_add ln_YC65
theorem wf_YC66 : WFs YC66 := wf_add wf_YC65 (by decide)
def YC67 : Stc := putR YC66 52 5 53
theorem ln_YC67 : YC67.1.length = 54 := ln_YC66
theorem wf_YC67 : WFs YC67 := wf_put wf_YC66 (by rw [ln_YC66]; decide) (by rw [ln_YC66]; decide)
def YC68 : Stc := addS YC67 (.inl (0, 0, 24))
theorem ln_YC68 : YC68.1.length = 55 := ln_add ln_YC67
theorem wf_YC68 : WFs YC68 := wf_add wf_YC67 (by decide)
def YC69 : Stc := putR YC68 52 6 54
theorem ln_YC69 : YC69.1.length = 55 := ln_YC68
theorem wf_YC69 : WFs YC69 := wf_put wf_YC68 (by rw [ln_YC68]; decide) (by rw [ln_YC68]; decide)
def YC70 : Stc := addS YC69 (.inl (0, 0, 24))
theorem ln_YC70 : YC70.1.length = 56 := ln_add ln_YC69
theorem wf_YC70 : WFs YC70 := wf_add wf_YC69 (by decide)
def YC71 : Stc := putR YC70 52 7 55
theorem ln_YC71 : YC71.1.length = 56 := ln_YC70
theorem wf_YC71 : WFs YC71 := wf_put wf_YC70 (by rw [ln_YC70]; decide) (by rw [ln_YC70]; decide)
def YC72 : Stc := addS YC71 (.inl (0, 0, 24))
theorem ln_YC72 : YC72.1.length = 57 := ln_add ln_YC71
theorem wf_YC72 : WFs YC72 := wf_add wf_YC71 (by decide)
def YC73 : Stc := putR YC72 52 8 56
theorem ln_YC73 : YC73.1.length = 57 := ln_YC72
theorem wf_YC73 : WFs YC73 := wf_put wf_YC72 (by rw [ln_YC72]; decide) (by rw [ln_YC72]; decide)
def YC74 : Stc := addS YC73 (.inl (0, 0, 24))
theorem ln_YC74 : YC74.1.length = 58 := ln_add ln_YC73
theorem wf_YC74 : WFs YC74 := wf_add wf_YC73 (by decide)
def YC75 : Stc := putR YC74 52 9 57
theorem ln_YC75 : YC75.1.length = 58 := ln_YC74
theorem wf_YC75 : WFs YC75 := wf_put wf_YC74 (by rw [ln_YC74]; decide) (by rw [ln_YC74]; decide)
def YC76 : Stc := addS YC75 (.inl (0, 9, 2))
theorem ln_YC76 : YC76.1.length = 59 := ln_add ln_YC75
theorem wf_YC76 : WFs YC76 := wf_add wf_YC75 (by decide)
def YC77 : Stc := shpS YC76 58 (.inr 2)
theorem ln_YC77 : YC77.1.length = 59 := ln_shp ln_YC76
theorem wf_YC77 : WFs YC77 := wf_shp wf_YC76 (by rw [ln_YC76]; exact Nat.le_of_ble_eq_true rfl)
def YC78 : Stc := putR YC77 53 0 58
theorem ln_YC78 : YC78.1.length = 59 := ln_YC77
theorem wf_YC78 : WFs YC78 := wf_put wf_YC77 (by rw [ln_YC77]; decide) (by rw [ln_YC77]; decide)
def YC79 : Stc := addS YC78 (.inl (0, 9, 2))
theorem ln_YC79 : YC79.1.length = 60 := ln_add ln_YC78
theorem wf_YC79 : WFs YC79 := wf_add wf_YC78 (by decide)
def YC80 : Stc := shpS YC79 59 (.inr 2)
theorem ln_YC80 : YC80.1.length = 60 := ln_shp ln_YC79
theorem wf_YC80 : WFs YC80 := wf_shp wf_YC79 (by rw [ln_YC79]; exact Nat.le_of_ble_eq_true rfl)
def YC81 : Stc := putR YC80 53 1 59
theorem ln_YC81 : YC81.1.length = 60 := ln_YC80
theorem wf_YC81 : WFs YC81 := wf_put wf_YC80 (by rw [ln_YC80]; decide) (by rw [ln_YC80]; decide)
def YC82 : Stc := addS YC81 (.inl (0, 9, 2))
theorem ln_YC82 : YC82.1.length = 61 := ln_add ln_YC81
theorem wf_YC82 : WFs YC82 := wf_add wf_YC81 (by decide)
def YC83 : Stc := shpS YC82 60 (.inr 2)
theorem ln_YC83 : YC83.1.length = 61 := ln_shp ln_YC82
theorem wf_YC83 : WFs YC83 := wf_shp wf_YC82 (by rw [ln_YC82]; exact Nat.le_of_ble_eq_true rfl)
def YC84 : Stc := putR YC83 53 2 60
theorem ln_YC84 : YC84.1.length = 61 := ln_YC83
theorem wf_YC84 : WFs YC84 := wf_put wf_YC83 (by rw [ln_YC83]; decide) (by rw [ln_YC83]; decide)
def YC85 : Stc := addS YC84 (.inl (0, 9, 2))
theorem ln_YC85 : YC85.1.length = 62 := ln_add ln_YC84
theorem wf_YC85 : WFs YC85 := wf_add wf_YC84 (by decide)
def YC86 : Stc := shpS YC85 61 (.inr 2)
theorem ln_YC86 : YC86.1.length = 62 := ln_shp ln_YC85
theorem wf_YC86 : WFs YC86 := wf_shp wf_YC85 (by rw [ln_YC85]; exact Nat.le_of_ble_eq_true rfl)
def YC87 : Stc := putR YC86 53 3 61
theorem ln_YC87 : YC87.1.length = 62 := ln_YC86
theorem wf_YC87 : WFs YC87 := wf_put wf_YC86 (by rw [ln_YC86]; decide) (by rw [ln_YC86]; decide)
def YC88 : Stc := putR YC87 0 2 52
theorem ln_YC88 : YC88.1.length = 62 := ln_YC87
theorem wf_YC88 : WFs YC88 := wf_put wf_YC87 (by rw [ln_YC87]; decide) (by rw [ln_YC87]; decide)
def YC89 : Stc := addS YC88 (.inr 5)
theorem ln_YC89 : YC89.1.length = 63 := ln_add ln_YC88
theorem wf_YC89 : WFs YC89 := wf_add wf_YC88 (by decide)
def YC90 : Stc := addS YC89 (.inl (2, 2, 4))
theorem ln_YC90 : YC90.1.length = 64 := ln_add ln_YC89
theorem wf_YC90 : WFs YC90 := wf_add wf_YC89 (by decide)
def YC91 : Stc := putR YC90 62 5 63
theorem ln_YC91 : YC91.1.length = 64 := ln_YC90
theorem wf_YC91 : WFs YC91 := wf_put wf_YC90 (by rw [ln_YC90]; decide) (by rw [ln_YC90]; decide)
def YC92 : Stc := addS YC91 (.inl (0, 0, 24))
theorem ln_YC92 : YC92.1.length = 65 := ln_add ln_YC91
theorem wf_YC92 : WFs YC92 := wf_add wf_YC91 (by decide)
def YC93 : Stc := putR YC92 62 6 64
theorem ln_YC93 : YC93.1.length = 65 := ln_YC92
theorem wf_YC93 : WFs YC93 := wf_put wf_YC92 (by rw [ln_YC92]; decide) (by rw [ln_YC92]; decide)
def YC94 : Stc := addS YC93 (.inl (0, 0, 24))
theorem ln_YC94 : YC94.1.length = 66 := ln_add ln_YC93
theorem wf_YC94 : WFs YC94 := wf_add wf_YC93 (by decide)
def YC95 : Stc := putR YC94 62 7 65
theorem ln_YC95 : YC95.1.length = 66 := ln_YC94
theorem wf_YC95 : WFs YC95 := wf_put wf_YC94 (by rw [ln_YC94]; decide) (by rw [ln_YC94]; decide)
def YC96 : Stc := addS YC95 (.inl (0, 0, 24))
theorem ln_YC96 : YC96.1.length = 67 := ln_add ln_YC95
theorem wf_YC96 : WFs YC96 := wf_add wf_YC95 (by decide)
def YC97 : Stc := putR YC96 62 8 66
theorem ln_YC97 : YC97.1.length = 67 := ln_YC96
theorem wf_YC97 : WFs YC97 := wf_put wf_YC96 (by rw [ln_YC96]; decide) (by rw [ln_YC96]; decide)
def YC98 : Stc := addS YC97 (.inl (0, 0, 24))
theorem ln_YC98 : YC98.1.length = 68 := ln_add ln_YC97
theorem wf_YC98 : WFs YC98 := wf_add wf_YC97 (by decide)
def YC99 : Stc := putR YC98 62 9 67
theorem ln_YC99 : YC99.1.length = 68 := ln_YC98
theorem wf_YC99 : WFs YC99 := wf_put wf_YC98 (by rw [ln_YC98]; decide) (by rw [ln_YC98]; decide)
def YC100 : Stc := addS YC99 (.inl (0, 9, 2))
theorem ln_YC100 : YC100.1.length = 69 := ln_add ln_YC99
theorem wf_YC100 : WFs YC100 := wf_add wf_YC99 (by decide)
def YC101 : Stc := shpS YC100 68 (.inr 2)
theorem ln_YC101 : YC101.1.length = 69 := ln_shp ln_YC100
theorem wf_YC101 : WFs YC101 := wf_shp wf_YC100 (by rw [ln_YC100]; exact Nat.le_of_ble_eq_true rfl)
def YC102 : Stc := putR YC101 63 0 68
theorem ln_YC102 : YC102.1.length = 69 := ln_YC101
theorem wf_YC102 : WFs YC102 := wf_put wf_YC101 (by rw [ln_YC101]; decide) (by rw [ln_YC101]; decide)
def YC103 : Stc := addS YC102 (.inl (0, 9, 2))
theorem ln_YC103 : YC103.1.length = 70 := ln_add ln_YC102
theorem wf_YC103 : WFs YC103 := wf_add wf_YC102 (by decide)
def YC104 : Stc := shpS YC103 69 (.inr 2)
theorem ln_YC104 : YC104.1.length = 70 := ln_shp ln_YC103
theorem wf_YC104 : WFs YC104 := wf_shp wf_YC103 (by rw [ln_YC103]; exact Nat.le_of_ble_eq_true rfl)
def YC105 : Stc := putR YC104 63 1 69
theorem ln_YC105 : YC105.1.length = 70 := ln_YC104
theorem wf_YC105 : WFs YC105 := wf_put wf_YC104 (by rw [ln_YC104]; decide) (by rw [ln_YC104]; decide)
def YC106 : Stc := addS YC105 (.inl (0, 9, 2))
theorem ln_YC106 : YC106.1.length = 71 := ln_add ln_YC105
theorem wf_YC106 : WFs YC106 := wf_add wf_YC105 (by decide)
def YC107 : Stc := shpS YC106 70 (.inr 2)
theorem ln_YC107 : YC107.1.length = 71 := ln_shp ln_YC106
theorem wf_YC107 : WFs YC107 := wf_shp wf_YC106 (by rw [ln_YC106]; exact Nat.le_of_ble_eq_true rfl)
def YC108 : Stc := putR YC107 63 2 70
theorem ln_YC108 : YC108.1.length = 71 := ln_YC107
theorem wf_YC108 : WFs YC108 := wf_put wf_YC107 (by rw [ln_YC107]; decide) (by rw [ln_YC107]; decide)
def YC109 : Stc := addS YC108 (.inl (0, 9, 2))
theorem ln_YC109 : YC109.1.length = 72 := ln_add ln_YC108
theorem wf_YC109 : WFs YC109 := wf_add wf_YC108 (by decide)
def YC110 : Stc := shpS YC109 71 (.inr 2)
theorem ln_YC110 : YC110.1.length = 72 := ln_shp ln_YC109
theorem wf_YC110 : WFs YC110 := wf_shp wf_YC109 (by rw [ln_YC109]; exact Nat.le_of_ble_eq_true rfl)
def YC111 : Stc := putR YC110 63 3 71
theorem ln_YC111 : YC111.1.length = 72 := ln_YC110
theorem wf_YC111 : WFs YC111 := wf_put wf_YC110 (by rw [ln_YC110]; decide) (by rw [ln_YC110]; decide)
def YC112 : Stc := putR YC111 0 3 62
theorem ln_YC112 : YC112.1.length = 72 := ln_YC111
theorem wf_YC112 : WFs YC112 := wf_put wf_YC111 (by rw [ln_YC111]; decide) (by rw [ln_YC111]; decide)
def YC113 : Stc := addS YC112 (.inl (0, 9, 2))
theorem ln_YC113 : YC113.1.length = 73 := ln_add ln_YC112
theorem wf_YC113 : WFs YC113 := wf_add wf_YC112 (by decide)
def YC114 : Stc := shpS YC113 72 (.inr 2)
theorem ln_YC114 : YC114.1.length = 73 := ln_shp ln_YC113
theorem wf_YC114 : WFs YC114 := wf_shp wf_YC113 (by rw [ln_YC113]; exact Nat.le_of_ble_eq_true rfl)
def YC115 : Stc := putR YC114 0 12 72
theorem ln_YC115 : YC115.1.length = 73 := ln_YC114
theorem wf_YC115 : WFs YC115 := wf_put wf_YC114 (by rw [ln_YC114]; decide) (by rw [ln_YC114]; decide)
abbrev rmX6_init_i5 : Room := { frames := 1, cells := 2, slots := 8, locals := 20 }
def X6_init_i5 (h : AH) : Option (Unit × AH) :=
    vl (zN h 6) fun h1 =>
    vl (zN h1 7) fun h3 =>
    some ((), h3)
set_option maxRecDepth 100000 in
set_option maxHeartbeats 4000000 in
theorem c_X6_init_i5 (l : Launch) : MCN l yX6_init cX6_init 1 rmX6_init_i5 KX YC9 YC13 [.ref 5] X6_init_i5 :=
  MCN.of (own := RX6) (by decide +kernel) rfl rfl (Nat.le_of_ble_eq_true rfl) fun X yd A h C hKX hin =>
    aw_aload_n (pc := 0) C (i := 0) dX6_init_0 rfl rfl <|
    aw_objInit (pc := 1) C dX6_init_1 mo_X6_3 w_oi w_oc ⟨(Nat.le_of_ble_eq_true rfl), (Nat.le_of_ble_eq_true rfl)⟩ <|
    aw_aload_n (pc := 4) C (i := 0) dX6_init_4 rfl rfl <|
    aw_iconst (pc := 5) C (v := 4) dX6_init_5 rfl <|
    aw_newIm (pc := 6) C (Z' := YC10) (N := 4) ln_YC9 wf_YC9 dX6_init_6 (by decide) rfl (by decide) rfl rfl rfl (Nat.le_of_ble_eq_true rfl) (Nat.le_of_ble_eq_true rfl) fun a2 h1 =>
    aw_putRF (pc := 8) C (Z' := YC11) hin dX6_init_8 fpf_X6_9 rfl rfl (fun _ => rfl) (fun _ => rfl) rfl <|
    aw_aload_n (pc := 11) C (i := 0) dX6_init_11 rfl rfl <|
    aw_iconst (pc := 12) C (v := 4) dX6_init_12 rfl <|
    aw_newIm (pc := 13) C (Z' := YC12) (N := 4) ln_YC11 wf_YC11 dX6_init_13 (by decide) rfl (by decide) rfl rfl rfl (Nat.le_of_ble_eq_true rfl) (Nat.le_of_ble_eq_true rfl) fun a4 h3 =>
    aw_putRF (pc := 15) C (Z' := YC13) hin dX6_init_15 fpf_X6_15 rfl rfl (fun _ => rfl) (fun _ => rfl) rfl <|
    aw_vretN (pc := 18) C (Agr.new (n := 7) (Agr.new (n := 6) (Agr.rf) (Nat.le_of_ble_eq_true rfl)) (Nat.le_of_ble_eq_true rfl)) dX6_init_18 rfl rfl
abbrev rmX1_init_i8 : Room := { frames := 1, cells := 23, slots := 1882, locals := 20 }
def X1_init_i8_l49  (v1 : Int32) (K41 : Int32 → AH → Option (Unit × AH)) : Nat → Int32 → AH → Option (Unit × AH)
  | 0, _, _ => none
  | n + 1, v2, h =>
    if ((2 * v1) - 2) < v2 then (vl (v1 + 1) fun x8 =>
    K41 x8 h)
    else (ck v1 21 (ck v2 41 (ck (v1 - 1) 21 (ck v2 41 (ck v2 41 (vl (sL h (10 + v1.toNatClampNeg % 21) v2.toNatClampNeg ((h.2.1 (10 + v1.toNatClampNeg % 21) v2.toNatClampNeg) + (h.2.1 (10 + (v1 - 1).toNatClampNeg % 21) v2.toNatClampNeg))) fun h9 =>
    ck v1 21 (ck (v2 + 1) 41 (ck (v1 - 1) 21 (ck v2 41 (ck (v2 + 1) 41 (vl (sL h9 (10 + v1.toNatClampNeg % 21) (v2 + 1).toNatClampNeg ((h9.2.1 (10 + v1.toNatClampNeg % 21) (v2 + 1).toNatClampNeg) + (2 * (h9.2.1 (10 + (v1 - 1).toNatClampNeg % 21) v2.toNatClampNeg)))) fun h10 =>
    ck v1 21 (ck (v2 + 2) 41 (ck (v1 - 1) 21 (ck v2 41 (ck (v2 + 2) 41 (vl (sL h10 (10 + v1.toNatClampNeg % 21) (v2 + 2).toNatClampNeg ((h10.2.1 (10 + v1.toNatClampNeg % 21) (v2 + 2).toNatClampNeg) + (h10.2.1 (10 + (v1 - 1).toNatClampNeg % 21) v2.toNatClampNeg))) fun h11 =>
    vl (v2 + 1) fun x12 =>
    (X1_init_i8_l49 v1 K41 n) x12 h11))))))))))))))))
set_option maxRecDepth 100000 in
theorem aX1_init_i8_l49 {X : MCx} {yd : Dyn} {A : Nat → Prop} (C : OK X cX1_init RX1 3 none rmX1_init_i8 A) {yd0 : Dyn} (hg : Agr YC15 yd0 yd) (v1 : Int32) (K41 : Int32 → AH → Option (Unit × AH)) (hK41 : ∀ (w1 : Int32) (h : AH), AW X 3 YC19 yd A (0 + 1 + 21 + 1) (0 + 21 + 21 * 41 + 1000) (QFN X rmX1_init_i8 YC15 YC19 yd0 A) 41 [(0, .ref 8), (1, .int w1)] [] h (K41 w1 h)) : ∀ (n : Nat) (v2 : Int32) (h : AH), AW X 3 YC19 yd A (0 + 1 + 21 + 1) (0 + 21 + 21 * 41 + 1000) (QFN X rmX1_init_i8 YC15 YC19 yd0 A) 49 [(0, .ref 8), (1, .int v1), (2, .int v2)] [] h (X1_init_i8_l49 v1 K41 n v2 h) := by
  intro n
  induction n with
  | zero => intro v2 h; exact aw_none
  | succ n ih =>
    intro v2 h
    exact aw_iload_n (pc := 49) C (i := 2) dX1_init_49 rfl rfl <|
    aw_iconst (pc := 50) C (v := 2) dX1_init_50 rfl <|
    aw_iload_n (pc := 51) C (i := 1) dX1_init_51 rfl rfl <|
    aw_imul (pc := 52) C dX1_init_52 <|
    aw_iconst (pc := 53) C (v := 2) dX1_init_53 rfl <|
    aw_isub (pc := 54) C dX1_init_54 <|
    aw_icmp_gt (pc := 55) C (tgt := 135) dX1_init_55 rfl (fun _ =>
    aw_iincV (pc := 135) C (i := 1) (cst := 1) (fun x8 => [(0, .ref 8), (1, .int x8), (2, .int v2)]) dX1_init_135 rfl rfl (by decide) (fun _ => rfl) fun x8 =>
    aw_goto (pc := 138) C (tgt := 41) dX1_init_138 rfl <|
    aw_drop [0, 1] (hK41 x8 h)) (fun _ =>
    aw_aload_n (pc := 58) C (i := 0) dX1_init_58 rfl rfl <|
    aw_getR (pc := 59) C (b := 9) dX1_init_59 fl_X1_11 rfl rfl rfl <|
    aw_iload_n (pc := 62) C (i := 1) dX1_init_62 rfl rfl <|
    aw_aaldI (pc := 63) C (b := (10 + v1.toNatClampNeg % 21)) dX1_init_63 rfl rfl rfl (yC_9 _) <|
    aw_iload_n (pc := 64) C (i := 2) dX1_init_64 rfl rfl <|
    aw_dup2 (pc := 65) C dX1_init_65 rfl rfl <|
    aw_lald (pc := 66) C dX1_init_66 (yC_way _) rfl <|
    aw_aload_n (pc := 67) C (i := 0) dX1_init_67 rfl rfl <|
    aw_getR (pc := 68) C (b := 9) dX1_init_68 fl_X1_11 rfl rfl rfl <|
    aw_iload_n (pc := 71) C (i := 1) dX1_init_71 rfl rfl <|
    aw_iconst (pc := 72) C (v := 1) dX1_init_72 rfl <|
    aw_isub (pc := 73) C dX1_init_73 <|
    aw_aaldI (pc := 74) C (b := (10 + (v1 - 1).toNatClampNeg % 21)) dX1_init_74 rfl rfl rfl (yC_9 _) <|
    aw_iload_n (pc := 75) C (i := 2) dX1_init_75 rfl rfl <|
    aw_lald (pc := 76) C dX1_init_76 (yC_way _) rfl <|
    aw_ladd (pc := 77) C dX1_init_77 <|
    aw_last (pc := 78) C dX1_init_78 (yC_way _) rfl fun h9 =>
    aw_aload_n (pc := 79) C (i := 0) dX1_init_79 rfl rfl <|
    aw_getR (pc := 80) C (b := 9) dX1_init_80 fl_X1_11 rfl rfl rfl <|
    aw_iload_n (pc := 83) C (i := 1) dX1_init_83 rfl rfl <|
    aw_aaldI (pc := 84) C (b := (10 + v1.toNatClampNeg % 21)) dX1_init_84 rfl rfl rfl (yC_9 _) <|
    aw_iload_n (pc := 85) C (i := 2) dX1_init_85 rfl rfl <|
    aw_iconst (pc := 86) C (v := 1) dX1_init_86 rfl <|
    aw_iadd (pc := 87) C dX1_init_87 <|
    aw_dup2 (pc := 88) C dX1_init_88 rfl rfl <|
    aw_lald (pc := 89) C dX1_init_89 (yC_way _) rfl <|
    aw_ldc2_w (pc := 90) C (v := 2) dX1_init_90 kc_X1_24 <|
    aw_aload_n (pc := 93) C (i := 0) dX1_init_93 rfl rfl <|
    aw_getR (pc := 94) C (b := 9) dX1_init_94 fl_X1_11 rfl rfl rfl <|
    aw_iload_n (pc := 97) C (i := 1) dX1_init_97 rfl rfl <|
    aw_iconst (pc := 98) C (v := 1) dX1_init_98 rfl <|
    aw_isub (pc := 99) C dX1_init_99 <|
    aw_aaldI (pc := 100) C (b := (10 + (v1 - 1).toNatClampNeg % 21)) dX1_init_100 rfl rfl rfl (yC_9 _) <|
    aw_iload_n (pc := 101) C (i := 2) dX1_init_101 rfl rfl <|
    aw_lald (pc := 102) C dX1_init_102 (yC_way _) rfl <|
    aw_lmul (pc := 103) C dX1_init_103 <|
    aw_ladd (pc := 104) C dX1_init_104 <|
    aw_last (pc := 105) C dX1_init_105 (yC_way _) rfl fun h10 =>
    aw_aload_n (pc := 106) C (i := 0) dX1_init_106 rfl rfl <|
    aw_getR (pc := 107) C (b := 9) dX1_init_107 fl_X1_11 rfl rfl rfl <|
    aw_iload_n (pc := 110) C (i := 1) dX1_init_110 rfl rfl <|
    aw_aaldI (pc := 111) C (b := (10 + v1.toNatClampNeg % 21)) dX1_init_111 rfl rfl rfl (yC_9 _) <|
    aw_iload_n (pc := 112) C (i := 2) dX1_init_112 rfl rfl <|
    aw_iconst (pc := 113) C (v := 2) dX1_init_113 rfl <|
    aw_iadd (pc := 114) C dX1_init_114 <|
    aw_dup2 (pc := 115) C dX1_init_115 rfl rfl <|
    aw_lald (pc := 116) C dX1_init_116 (yC_way _) rfl <|
    aw_aload_n (pc := 117) C (i := 0) dX1_init_117 rfl rfl <|
    aw_getR (pc := 118) C (b := 9) dX1_init_118 fl_X1_11 rfl rfl rfl <|
    aw_iload_n (pc := 121) C (i := 1) dX1_init_121 rfl rfl <|
    aw_iconst (pc := 122) C (v := 1) dX1_init_122 rfl <|
    aw_isub (pc := 123) C dX1_init_123 <|
    aw_aaldI (pc := 124) C (b := (10 + (v1 - 1).toNatClampNeg % 21)) dX1_init_124 rfl rfl rfl (yC_9 _) <|
    aw_iload_n (pc := 125) C (i := 2) dX1_init_125 rfl rfl <|
    aw_lald (pc := 126) C dX1_init_126 (yC_way _) rfl <|
    aw_ladd (pc := 127) C dX1_init_127 <|
    aw_last (pc := 128) C dX1_init_128 (yC_way _) rfl fun h11 =>
    aw_iincV (pc := 129) C (i := 2) (cst := 1) (fun x12 => [(0, .ref 8), (1, .int v1), (2, .int x12)]) dX1_init_129 rfl rfl (by decide) (fun _ => rfl) fun x12 =>
    aw_goto (pc := 132) C (tgt := 49) dX1_init_132 rfl <|
    (ih x12 h11))
def X1_init_i8_l41  : Nat → Int32 → AH → Option (Unit × AH)
  | 0, _, _ => none
  | n + 1, v1, h =>
    if 20 < v1 then (some ((), h))
    else (X1_init_i8_l49 v1 (X1_init_i8_l41 n) FU 0 h)
set_option maxRecDepth 100000 in
theorem aX1_init_i8_l41 {X : MCx} {yd : Dyn} {A : Nat → Prop} (C : OK X cX1_init RX1 3 none rmX1_init_i8 A) {yd0 : Dyn} (hg : Agr YC15 yd0 yd) : ∀ (n : Nat) (v1 : Int32) (h : AH), AW X 3 YC19 yd A (0 + 1 + 21 + 1) (0 + 21 + 21 * 41 + 1000) (QFN X rmX1_init_i8 YC15 YC19 yd0 A) 41 [(0, .ref 8), (1, .int v1)] [] h (X1_init_i8_l41 n v1 h) := by
  intro n
  induction n with
  | zero => intro v1 h; exact aw_none
  | succ n ih =>
    intro v1 h
    exact aw_iload_n (pc := 41) C (i := 1) dX1_init_41 rfl rfl <|
    aw_bipush (pc := 42) C (v := 20) dX1_init_42 rfl <|
    aw_icmp_gt (pc := 44) C (tgt := 141) dX1_init_44 rfl (fun _ =>
    aw_vretN (pc := 141) C (hg) dX1_init_141 rfl rfl) (fun _ =>
    aw_iconst (pc := 47) C (v := 0) dX1_init_47 rfl <|
    aw_istore_n (pc := 48) C (i := 2) (lv' := [(0, .ref 8), (1, .int v1), (2, .int 0)]) dX1_init_48 rfl (by decide) rfl <|
    (aX1_init_i8_l49 C hg v1 (X1_init_i8_l41 n) ih FU 0 h))
def X1_init_i8 (h : AH) : Option (Unit × AH) :=
    vl (zM h 9 21) fun h1 =>
    vl (zN h1 31) fun h4 =>
    vl (sL h4 8 2 1) fun h6 =>
    ck 0 21 (ck 0 41 (vl (sL h6 10 (0 : Int32).toNatClampNeg 1) fun h7 =>
    X1_init_i8_l41 FU 1 h7))
set_option maxRecDepth 100000 in
set_option maxHeartbeats 4000000 in
theorem c_X1_init_i8 (l : Launch) : MCN l yX1_init cX1_init 3 rmX1_init_i8 KX YC15 YC19 [.ref 8] X1_init_i8 :=
  MCN.of (own := RX1) (by decide +kernel) rfl rfl (Nat.le_of_ble_eq_true rfl) fun X yd A h C hKX hin =>
    aw_aload_n (pc := 0) C (i := 0) dX1_init_0 rfl rfl <|
    aw_objInit (pc := 1) C dX1_init_1 mo_X1_3 w_oi w_oc ⟨(Nat.le_of_ble_eq_true rfl), (Nat.le_of_ble_eq_true rfl)⟩ <|
    aw_aload_n (pc := 4) C (i := 0) dX1_init_4 rfl rfl <|
    aw_bipush (pc := 5) C (v := 21) dX1_init_5 rfl <|
    aw_bipush (pc := 7) C (v := 41) dX1_init_7 rfl <|
    aw_mna (pc := 9) C (Z' := YC16) (M := 21) (N := 41) ln_YC15 hKX.2.2.1 kl_X1_9 w_arrJ dX1_init_9 (by decide) (by decide) rfl rfl (by decide) (by decide) (by decide) wf_YC15.frm rfl rfl rfl rfl (Nat.le_of_ble_eq_true rfl) (Nat.le_of_ble_eq_true rfl) fun ad2 h1 ha3 =>
    aw_putRF (pc := 13) C (Z' := YC17) hin dX1_init_13 fpf_X1_11 rfl rfl (fun _ => rfl) (fun _ => rfl) rfl <|
    aw_aload_n (pc := 16) C (i := 0) dX1_init_16 rfl rfl <|
    aw_sipush (pc := 17) C (v := 1000) dX1_init_17 rfl <|
    aw_newJm (pc := 20) C (Z' := YC18) (N := 1000) w_arrJ ln_YC17 wf_YC17 dX1_init_20 (by decide) rfl (by decide) rfl rfl rfl (Nat.le_of_ble_eq_true rfl) (Nat.le_of_ble_eq_true rfl) fun a5 h4 =>
    aw_putRF (pc := 22) C (Z' := YC19) hin dX1_init_22 fpf_X1_16 rfl rfl (fun _ => rfl) (fun _ => rfl) rfl <|
    aw_aload_n (pc := 25) C (i := 0) dX1_init_25 rfl rfl <|
    aw_lconst (pc := 26) C (v := 1) dX1_init_26 rfl <|
    aw_putL (pc := 27) C dX1_init_27 fp_X1_20 rfl rfl fun h6 =>
    aw_aload_n (pc := 30) C (i := 0) dX1_init_30 rfl rfl <|
    aw_getR (pc := 31) C (b := 9) dX1_init_31 fl_X1_11 rfl rfl rfl <|
    aw_iconst (pc := 34) C (v := 0) dX1_init_34 rfl <|
    aw_aald (pc := 35) C (b := 10) dX1_init_35 rfl rfl rfl rfl <|
    aw_iconst (pc := 36) C (v := 0) dX1_init_36 rfl <|
    aw_lconst (pc := 37) C (v := 1) dX1_init_37 rfl <|
    aw_last (pc := 38) C dX1_init_38 rfl rfl fun h7 =>
    aw_iconst (pc := 39) C (v := 1) dX1_init_39 rfl <|
    aw_istore_n (pc := 40) C (i := 1) (lv' := [(0, .ref 8), (1, .int 1)]) dX1_init_40 rfl (by decide) rfl <|
    (aX1_init_i8_l41 C (Agr.new (n := 31) (Agr.call (n := 9) (Agr.rf) (Nat.le_of_ble_eq_true rfl) ha3) (Nat.le_of_ble_eq_true rfl)) FU 1 h7)
abbrev rmX3_init_i36 : Room := { frames := 1, cells := 0, slots := 0, locals := 20 }
def X3_init_i36 (h : AH) : Option (Unit × AH) :=
    some ((), h)
set_option maxRecDepth 100000 in
set_option maxHeartbeats 4000000 in
theorem c_X3_init_i36 (l : Launch) : MCN l yX3_init cX3_init 1 rmX3_init_i36 KX YC29 YC29 [.ref 36] X3_init_i36 :=
  MCN.of (own := RX3) (by decide +kernel) rfl rfl (Nat.le_of_ble_eq_true rfl) fun X yd A h C hKX hin =>
    aw_aload_n (pc := 0) C (i := 0) dX3_init_0 rfl rfl <|
    aw_objInit (pc := 1) C dX3_init_1 mo_X3_1 w_oi w_oc ⟨(Nat.le_of_ble_eq_true rfl), (Nat.le_of_ble_eq_true rfl)⟩ <|
    aw_vretN (pc := 4) C (Agr.rf) dX3_init_4 rfl rfl
abbrev rmX3_init_i37 : Room := { frames := 1, cells := 0, slots := 0, locals := 20 }
def X3_init_i37 (h : AH) : Option (Unit × AH) :=
    some ((), h)
set_option maxRecDepth 100000 in
set_option maxHeartbeats 4000000 in
theorem c_X3_init_i37 (l : Launch) : MCN l yX3_init cX3_init 1 rmX3_init_i37 KX YC31 YC31 [.ref 37] X3_init_i37 :=
  MCN.of (own := RX3) (by decide +kernel) rfl rfl (Nat.le_of_ble_eq_true rfl) fun X yd A h C hKX hin =>
    aw_aload_n (pc := 0) C (i := 0) dX3_init_0 rfl rfl <|
    aw_objInit (pc := 1) C dX3_init_1 mo_X3_1 w_oi w_oc ⟨(Nat.le_of_ble_eq_true rfl), (Nat.le_of_ble_eq_true rfl)⟩ <|
    aw_vretN (pc := 4) C (Agr.rf) dX3_init_4 rfl rfl
abbrev rmX7_init_i37 : Room := { frames := 2, cells := 0, slots := 0, locals := 40 }
def X7_init_i37 (h : AH) : Option (Unit × AH) :=
    bd (X3_init_i37 h) fun _ h1 =>
    some ((), h1)
set_option maxRecDepth 100000 in
set_option maxHeartbeats 4000000 in
theorem c_X7_init_i37 (l : Launch) : MCN l yX7_init cX7_init 1 rmX7_init_i37 KX YC31 YC31 [.ref 37] X7_init_i37 :=
  MCN.of (own := RX7) (by decide +kernel) rfl rfl (Nat.le_of_ble_eq_true rfl) fun X yd A h C hKX hin =>
    aw_aload_n (pc := 0) C (i := 0) dX7_init_0 rfl rfl <|
    aw_callC (pc := 1) C (Z' := YC31) (rm' := rmX3_init_i37) (F := X3_init_i37) (run_IN (host := "MarkToBoard") (As := []) (rest := []) (b := 37) C kx_m kx_b hKX (c_X3_init_i37 X.2.1) dX7_init_1 mf_X3_init (hKX.2.2.2.1 (RX7, 1, yX3_init, "MarkToBoard") kx_X7_1) im_X3_init rfl ⟨(Nat.le_of_ble_eq_true rfl), (Nat.le_of_ble_eq_true rfl)⟩ rfl rfl (Nat.le_of_ble_eq_true rfl) ⟨(Nat.le_of_ble_eq_true rfl), (Nat.le_of_ble_eq_true rfl)⟩) rfl rfl (fun ad2 h1 ha3 =>
    aw_vretN (pc := 4) C (Agr.call (n := 38) (Agr.rf) (Nat.le_of_ble_eq_true rfl) (ha3)) dX7_init_4 rfl rfl) rfl
abbrev rmX3_init_i38 : Room := { frames := 1, cells := 0, slots := 0, locals := 20 }
def X3_init_i38 (h : AH) : Option (Unit × AH) :=
    some ((), h)
set_option maxRecDepth 100000 in
set_option maxHeartbeats 4000000 in
theorem c_X3_init_i38 (l : Launch) : MCN l yX3_init cX3_init 1 rmX3_init_i38 KX YC33 YC33 [.ref 38] X3_init_i38 :=
  MCN.of (own := RX3) (by decide +kernel) rfl rfl (Nat.le_of_ble_eq_true rfl) fun X yd A h C hKX hin =>
    aw_aload_n (pc := 0) C (i := 0) dX3_init_0 rfl rfl <|
    aw_objInit (pc := 1) C dX3_init_1 mo_X3_1 w_oi w_oc ⟨(Nat.le_of_ble_eq_true rfl), (Nat.le_of_ble_eq_true rfl)⟩ <|
    aw_vretN (pc := 4) C (Agr.rf) dX3_init_4 rfl rfl
abbrev rmX0_init_i38 : Room := { frames := 2, cells := 0, slots := 0, locals := 40 }
def X0_init_i38 (h : AH) : Option (Unit × AH) :=
    bd (X3_init_i38 h) fun _ h1 =>
    some ((), h1)
set_option maxRecDepth 100000 in
set_option maxHeartbeats 4000000 in
theorem c_X0_init_i38 (l : Launch) : MCN l yX0_init cX0_init 1 rmX0_init_i38 KX YC33 YC33 [.ref 38] X0_init_i38 :=
  MCN.of (own := RX0) (by decide +kernel) rfl rfl (Nat.le_of_ble_eq_true rfl) fun X yd A h C hKX hin =>
    aw_aload_n (pc := 0) C (i := 0) dX0_init_0 rfl rfl <|
    aw_callC (pc := 1) C (Z' := YC33) (rm' := rmX3_init_i38) (F := X3_init_i38) (run_IN (host := "MarkToBoard") (As := []) (rest := []) (b := 38) C kx_m kx_b hKX (c_X3_init_i38 X.2.1) dX0_init_1 mf_X3_init (hKX.2.2.2.1 (RX0, 1, yX3_init, "MarkToBoard") kx_X0_1) im_X3_init rfl ⟨(Nat.le_of_ble_eq_true rfl), (Nat.le_of_ble_eq_true rfl)⟩ rfl rfl (Nat.le_of_ble_eq_true rfl) ⟨(Nat.le_of_ble_eq_true rfl), (Nat.le_of_ble_eq_true rfl)⟩) rfl rfl (fun ad2 h1 ha3 =>
    aw_vretN (pc := 4) C (Agr.call (n := 39) (Agr.rf) (Nat.le_of_ble_eq_true rfl) (ha3)) dX0_init_4 rfl rfl) rfl
abbrev rmX3_init_i39 : Room := { frames := 1, cells := 0, slots := 0, locals := 20 }
def X3_init_i39 (h : AH) : Option (Unit × AH) :=
    some ((), h)
set_option maxRecDepth 100000 in
set_option maxHeartbeats 4000000 in
theorem c_X3_init_i39 (l : Launch) : MCN l yX3_init cX3_init 1 rmX3_init_i39 KX YC35 YC35 [.ref 39] X3_init_i39 :=
  MCN.of (own := RX3) (by decide +kernel) rfl rfl (Nat.le_of_ble_eq_true rfl) fun X yd A h C hKX hin =>
    aw_aload_n (pc := 0) C (i := 0) dX3_init_0 rfl rfl <|
    aw_objInit (pc := 1) C dX3_init_1 mo_X3_1 w_oi w_oc ⟨(Nat.le_of_ble_eq_true rfl), (Nat.le_of_ble_eq_true rfl)⟩ <|
    aw_vretN (pc := 4) C (Agr.rf) dX3_init_4 rfl rfl
abbrev rmX7_init_i39 : Room := { frames := 2, cells := 0, slots := 0, locals := 40 }
def X7_init_i39 (h : AH) : Option (Unit × AH) :=
    bd (X3_init_i39 h) fun _ h1 =>
    some ((), h1)
set_option maxRecDepth 100000 in
set_option maxHeartbeats 4000000 in
theorem c_X7_init_i39 (l : Launch) : MCN l yX7_init cX7_init 1 rmX7_init_i39 KX YC35 YC35 [.ref 39] X7_init_i39 :=
  MCN.of (own := RX7) (by decide +kernel) rfl rfl (Nat.le_of_ble_eq_true rfl) fun X yd A h C hKX hin =>
    aw_aload_n (pc := 0) C (i := 0) dX7_init_0 rfl rfl <|
    aw_callC (pc := 1) C (Z' := YC35) (rm' := rmX3_init_i39) (F := X3_init_i39) (run_IN (host := "MarkToBoard") (As := []) (rest := []) (b := 39) C kx_m kx_b hKX (c_X3_init_i39 X.2.1) dX7_init_1 mf_X3_init (hKX.2.2.2.1 (RX7, 1, yX3_init, "MarkToBoard") kx_X7_1) im_X3_init rfl ⟨(Nat.le_of_ble_eq_true rfl), (Nat.le_of_ble_eq_true rfl)⟩ rfl rfl (Nat.le_of_ble_eq_true rfl) ⟨(Nat.le_of_ble_eq_true rfl), (Nat.le_of_ble_eq_true rfl)⟩) rfl rfl (fun ad2 h1 ha3 =>
    aw_vretN (pc := 4) C (Agr.call (n := 40) (Agr.rf) (Nat.le_of_ble_eq_true rfl) (ha3)) dX7_init_4 rfl rfl) rfl
abbrev rmX4_init_i39 : Room := { frames := 3, cells := 0, slots := 0, locals := 60 }
def X4_init_i39 (h : AH) : Option (Unit × AH) :=
    bd (X7_init_i39 h) fun _ h1 =>
    some ((), h1)
set_option maxRecDepth 100000 in
set_option maxHeartbeats 4000000 in
theorem c_X4_init_i39 (l : Launch) : MCN l yX4_init cX4_init 1 rmX4_init_i39 KX YC35 YC35 [.ref 39] X4_init_i39 :=
  MCN.of (own := RX4) (by decide +kernel) rfl rfl (Nat.le_of_ble_eq_true rfl) fun X yd A h C hKX hin =>
    aw_aload_n (pc := 0) C (i := 0) dX4_init_0 rfl rfl <|
    aw_callC (pc := 1) C (Z' := YC35) (rm' := rmX7_init_i39) (F := X7_init_i39) (run_IN (host := "MarkToBoard") (As := []) (rest := []) (b := 39) C kx_m kx_b hKX (c_X7_init_i39 X.2.1) dX4_init_1 mf_X7_init (hKX.2.2.2.1 (RX4, 1, yX7_init, "MarkToBoard") kx_X4_1) im_X7_init rfl ⟨(Nat.le_of_ble_eq_true rfl), (Nat.le_of_ble_eq_true rfl)⟩ rfl rfl (Nat.le_of_ble_eq_true rfl) ⟨(Nat.le_of_ble_eq_true rfl), (Nat.le_of_ble_eq_true rfl)⟩) rfl rfl (fun ad2 h1 ha3 =>
    aw_vretN (pc := 4) C (Agr.call (n := 40) (Agr.rf) (Nat.le_of_ble_eq_true rfl) (ha3)) dX4_init_4 rfl rfl) rfl
abbrev rmX3_init_i40 : Room := { frames := 1, cells := 0, slots := 0, locals := 20 }
def X3_init_i40 (h : AH) : Option (Unit × AH) :=
    some ((), h)
set_option maxRecDepth 100000 in
set_option maxHeartbeats 4000000 in
theorem c_X3_init_i40 (l : Launch) : MCN l yX3_init cX3_init 1 rmX3_init_i40 KX YC37 YC37 [.ref 40] X3_init_i40 :=
  MCN.of (own := RX3) (by decide +kernel) rfl rfl (Nat.le_of_ble_eq_true rfl) fun X yd A h C hKX hin =>
    aw_aload_n (pc := 0) C (i := 0) dX3_init_0 rfl rfl <|
    aw_objInit (pc := 1) C dX3_init_1 mo_X3_1 w_oi w_oc ⟨(Nat.le_of_ble_eq_true rfl), (Nat.le_of_ble_eq_true rfl)⟩ <|
    aw_vretN (pc := 4) C (Agr.rf) dX3_init_4 rfl rfl
abbrev rmX0_init_i40 : Room := { frames := 2, cells := 0, slots := 0, locals := 40 }
def X0_init_i40 (h : AH) : Option (Unit × AH) :=
    bd (X3_init_i40 h) fun _ h1 =>
    some ((), h1)
set_option maxRecDepth 100000 in
set_option maxHeartbeats 4000000 in
theorem c_X0_init_i40 (l : Launch) : MCN l yX0_init cX0_init 1 rmX0_init_i40 KX YC37 YC37 [.ref 40] X0_init_i40 :=
  MCN.of (own := RX0) (by decide +kernel) rfl rfl (Nat.le_of_ble_eq_true rfl) fun X yd A h C hKX hin =>
    aw_aload_n (pc := 0) C (i := 0) dX0_init_0 rfl rfl <|
    aw_callC (pc := 1) C (Z' := YC37) (rm' := rmX3_init_i40) (F := X3_init_i40) (run_IN (host := "MarkToBoard") (As := []) (rest := []) (b := 40) C kx_m kx_b hKX (c_X3_init_i40 X.2.1) dX0_init_1 mf_X3_init (hKX.2.2.2.1 (RX0, 1, yX3_init, "MarkToBoard") kx_X0_1) im_X3_init rfl ⟨(Nat.le_of_ble_eq_true rfl), (Nat.le_of_ble_eq_true rfl)⟩ rfl rfl (Nat.le_of_ble_eq_true rfl) ⟨(Nat.le_of_ble_eq_true rfl), (Nat.le_of_ble_eq_true rfl)⟩) rfl rfl (fun ad2 h1 ha3 =>
    aw_vretN (pc := 4) C (Agr.call (n := 41) (Agr.rf) (Nat.le_of_ble_eq_true rfl) (ha3)) dX0_init_4 rfl rfl) rfl
abbrev rmX9_init_i40 : Room := { frames := 3, cells := 0, slots := 0, locals := 60 }
def X9_init_i40 (h : AH) : Option (Unit × AH) :=
    bd (X0_init_i40 h) fun _ h1 =>
    some ((), h1)
set_option maxRecDepth 100000 in
set_option maxHeartbeats 4000000 in
theorem c_X9_init_i40 (l : Launch) : MCN l yX9_init cX9_init 1 rmX9_init_i40 KX YC37 YC37 [.ref 40] X9_init_i40 :=
  MCN.of (own := RX9) (by decide +kernel) rfl rfl (Nat.le_of_ble_eq_true rfl) fun X yd A h C hKX hin =>
    aw_aload_n (pc := 0) C (i := 0) dX9_init_0 rfl rfl <|
    aw_callC (pc := 1) C (Z' := YC37) (rm' := rmX0_init_i40) (F := X0_init_i40) (run_IN (host := "MarkToBoard") (As := []) (rest := []) (b := 40) C kx_m kx_b hKX (c_X0_init_i40 X.2.1) dX9_init_1 mf_X0_init (hKX.2.2.2.1 (RX9, 1, yX0_init, "MarkToBoard") kx_X9_1) im_X0_init rfl ⟨(Nat.le_of_ble_eq_true rfl), (Nat.le_of_ble_eq_true rfl)⟩ rfl rfl (Nat.le_of_ble_eq_true rfl) ⟨(Nat.le_of_ble_eq_true rfl), (Nat.le_of_ble_eq_true rfl)⟩) rfl rfl (fun ad2 h1 ha3 =>
    aw_vretN (pc := 4) C (Agr.call (n := 41) (Agr.rf) (Nat.le_of_ble_eq_true rfl) (ha3)) dX9_init_4 rfl rfl) rfl
abbrev rmX3_init_i41 : Room := { frames := 1, cells := 0, slots := 0, locals := 20 }
def X3_init_i41 (h : AH) : Option (Unit × AH) :=
    some ((), h)
set_option maxRecDepth 100000 in
set_option maxHeartbeats 4000000 in
theorem c_X3_init_i41 (l : Launch) : MCN l yX3_init cX3_init 1 rmX3_init_i41 KX YC39 YC39 [.ref 41] X3_init_i41 :=
  MCN.of (own := RX3) (by decide +kernel) rfl rfl (Nat.le_of_ble_eq_true rfl) fun X yd A h C hKX hin =>
    aw_aload_n (pc := 0) C (i := 0) dX3_init_0 rfl rfl <|
    aw_objInit (pc := 1) C dX3_init_1 mo_X3_1 w_oi w_oc ⟨(Nat.le_of_ble_eq_true rfl), (Nat.le_of_ble_eq_true rfl)⟩ <|
    aw_vretN (pc := 4) C (Agr.rf) dX3_init_4 rfl rfl
abbrev rmX7_init_i41 : Room := { frames := 2, cells := 0, slots := 0, locals := 40 }
def X7_init_i41 (h : AH) : Option (Unit × AH) :=
    bd (X3_init_i41 h) fun _ h1 =>
    some ((), h1)
set_option maxRecDepth 100000 in
set_option maxHeartbeats 4000000 in
theorem c_X7_init_i41 (l : Launch) : MCN l yX7_init cX7_init 1 rmX7_init_i41 KX YC39 YC39 [.ref 41] X7_init_i41 :=
  MCN.of (own := RX7) (by decide +kernel) rfl rfl (Nat.le_of_ble_eq_true rfl) fun X yd A h C hKX hin =>
    aw_aload_n (pc := 0) C (i := 0) dX7_init_0 rfl rfl <|
    aw_callC (pc := 1) C (Z' := YC39) (rm' := rmX3_init_i41) (F := X3_init_i41) (run_IN (host := "MarkToBoard") (As := []) (rest := []) (b := 41) C kx_m kx_b hKX (c_X3_init_i41 X.2.1) dX7_init_1 mf_X3_init (hKX.2.2.2.1 (RX7, 1, yX3_init, "MarkToBoard") kx_X7_1) im_X3_init rfl ⟨(Nat.le_of_ble_eq_true rfl), (Nat.le_of_ble_eq_true rfl)⟩ rfl rfl (Nat.le_of_ble_eq_true rfl) ⟨(Nat.le_of_ble_eq_true rfl), (Nat.le_of_ble_eq_true rfl)⟩) rfl rfl (fun ad2 h1 ha3 =>
    aw_vretN (pc := 4) C (Agr.call (n := 42) (Agr.rf) (Nat.le_of_ble_eq_true rfl) (ha3)) dX7_init_4 rfl rfl) rfl
abbrev rmX4_init_i41 : Room := { frames := 3, cells := 0, slots := 0, locals := 60 }
def X4_init_i41 (h : AH) : Option (Unit × AH) :=
    bd (X7_init_i41 h) fun _ h1 =>
    some ((), h1)
set_option maxRecDepth 100000 in
set_option maxHeartbeats 4000000 in
theorem c_X4_init_i41 (l : Launch) : MCN l yX4_init cX4_init 1 rmX4_init_i41 KX YC39 YC39 [.ref 41] X4_init_i41 :=
  MCN.of (own := RX4) (by decide +kernel) rfl rfl (Nat.le_of_ble_eq_true rfl) fun X yd A h C hKX hin =>
    aw_aload_n (pc := 0) C (i := 0) dX4_init_0 rfl rfl <|
    aw_callC (pc := 1) C (Z' := YC39) (rm' := rmX7_init_i41) (F := X7_init_i41) (run_IN (host := "MarkToBoard") (As := []) (rest := []) (b := 41) C kx_m kx_b hKX (c_X7_init_i41 X.2.1) dX4_init_1 mf_X7_init (hKX.2.2.2.1 (RX4, 1, yX7_init, "MarkToBoard") kx_X4_1) im_X7_init rfl ⟨(Nat.le_of_ble_eq_true rfl), (Nat.le_of_ble_eq_true rfl)⟩ rfl rfl (Nat.le_of_ble_eq_true rfl) ⟨(Nat.le_of_ble_eq_true rfl), (Nat.le_of_ble_eq_true rfl)⟩) rfl rfl (fun ad2 h1 ha3 =>
    aw_vretN (pc := 4) C (Agr.call (n := 42) (Agr.rf) (Nat.le_of_ble_eq_true rfl) (ha3)) dX4_init_4 rfl rfl) rfl
abbrev rmX8_init_i41 : Room := { frames := 4, cells := 0, slots := 0, locals := 80 }
def X8_init_i41 (h : AH) : Option (Unit × AH) :=
    bd (X4_init_i41 h) fun _ h1 =>
    some ((), h1)
set_option maxRecDepth 100000 in
set_option maxHeartbeats 4000000 in
theorem c_X8_init_i41 (l : Launch) : MCN l yX8_init cX8_init 1 rmX8_init_i41 KX YC39 YC39 [.ref 41] X8_init_i41 :=
  MCN.of (own := RX8) (by decide +kernel) rfl rfl (Nat.le_of_ble_eq_true rfl) fun X yd A h C hKX hin =>
    aw_aload_n (pc := 0) C (i := 0) dX8_init_0 rfl rfl <|
    aw_callC (pc := 1) C (Z' := YC39) (rm' := rmX4_init_i41) (F := X4_init_i41) (run_IN (host := "MarkToBoard") (As := []) (rest := []) (b := 41) C kx_m kx_b hKX (c_X4_init_i41 X.2.1) dX8_init_1 mf_X4_init (hKX.2.2.2.1 (RX8, 1, yX4_init, "MarkToBoard") kx_X8_1) im_X4_init rfl ⟨(Nat.le_of_ble_eq_true rfl), (Nat.le_of_ble_eq_true rfl)⟩ rfl rfl (Nat.le_of_ble_eq_true rfl) ⟨(Nat.le_of_ble_eq_true rfl), (Nat.le_of_ble_eq_true rfl)⟩) rfl rfl (fun ad2 h1 ha3 =>
    aw_vretN (pc := 4) C (Agr.call (n := 42) (Agr.rf) (Nat.le_of_ble_eq_true rfl) (ha3)) dX8_init_4 rfl rfl) rfl
abbrev rmX2_init_i48 : Room := { frames := 1, cells := 0, slots := 0, locals := 20 }
def X2_init_i48 (h : AH) : Option (Unit × AH) :=
    vl (sK h 48 0) fun h1 =>
    some ((), h1)
set_option maxRecDepth 100000 in
set_option maxHeartbeats 4000000 in
theorem c_X2_init_i48 (l : Launch) : MCN l yX2_init cX2_init 2 rmX2_init_i48 KX YC52 YC53 [.ref 48, .ref 36] X2_init_i48 :=
  MCN.of (own := RX2) (by decide +kernel) rfl rfl (Nat.le_of_ble_eq_true rfl) fun X yd A h C hKX hin =>
    aw_aload_n (pc := 0) C (i := 0) dX2_init_0 rfl rfl <|
    aw_objInit (pc := 1) C dX2_init_1 mo_X2_1 w_oi w_oc ⟨(Nat.le_of_ble_eq_true rfl), (Nat.le_of_ble_eq_true rfl)⟩ <|
    aw_aload_n (pc := 4) C (i := 0) dX2_init_4 rfl rfl <|
    aw_aload_n (pc := 5) C (i := 1) dX2_init_5 rfl rfl <|
    aw_putW0 (pc := 6) C (Z' := YC53) (v := 0) dX2_init_6 fp_X2_7 rfl rfl rfl fun h1 =>
    aw_vretN (pc := 9) C (Agr.rf) dX2_init_9 rfl rfl
abbrev rmX2_init_i49 : Room := { frames := 1, cells := 0, slots := 0, locals := 20 }
def X2_init_i49 (h : AH) : Option (Unit × AH) :=
    vl (sK h 49 0) fun h1 =>
    some ((), h1)
set_option maxRecDepth 100000 in
set_option maxHeartbeats 4000000 in
theorem c_X2_init_i49 (l : Launch) : MCN l yX2_init cX2_init 2 rmX2_init_i49 KX YC55 YC56 [.ref 49, .ref 36] X2_init_i49 :=
  MCN.of (own := RX2) (by decide +kernel) rfl rfl (Nat.le_of_ble_eq_true rfl) fun X yd A h C hKX hin =>
    aw_aload_n (pc := 0) C (i := 0) dX2_init_0 rfl rfl <|
    aw_objInit (pc := 1) C dX2_init_1 mo_X2_1 w_oi w_oc ⟨(Nat.le_of_ble_eq_true rfl), (Nat.le_of_ble_eq_true rfl)⟩ <|
    aw_aload_n (pc := 4) C (i := 0) dX2_init_4 rfl rfl <|
    aw_aload_n (pc := 5) C (i := 1) dX2_init_5 rfl rfl <|
    aw_putW0 (pc := 6) C (Z' := YC56) (v := 0) dX2_init_6 fp_X2_7 rfl rfl rfl fun h1 =>
    aw_vretN (pc := 9) C (Agr.rf) dX2_init_9 rfl rfl
abbrev rmX2_init_i50 : Room := { frames := 1, cells := 0, slots := 0, locals := 20 }
def X2_init_i50 (h : AH) : Option (Unit × AH) :=
    vl (sK h 50 0) fun h1 =>
    some ((), h1)
set_option maxRecDepth 100000 in
set_option maxHeartbeats 4000000 in
theorem c_X2_init_i50 (l : Launch) : MCN l yX2_init cX2_init 2 rmX2_init_i50 KX YC58 YC59 [.ref 50, .ref 36] X2_init_i50 :=
  MCN.of (own := RX2) (by decide +kernel) rfl rfl (Nat.le_of_ble_eq_true rfl) fun X yd A h C hKX hin =>
    aw_aload_n (pc := 0) C (i := 0) dX2_init_0 rfl rfl <|
    aw_objInit (pc := 1) C dX2_init_1 mo_X2_1 w_oi w_oc ⟨(Nat.le_of_ble_eq_true rfl), (Nat.le_of_ble_eq_true rfl)⟩ <|
    aw_aload_n (pc := 4) C (i := 0) dX2_init_4 rfl rfl <|
    aw_aload_n (pc := 5) C (i := 1) dX2_init_5 rfl rfl <|
    aw_putW0 (pc := 6) C (Z' := YC59) (v := 0) dX2_init_6 fp_X2_7 rfl rfl rfl fun h1 =>
    aw_vretN (pc := 9) C (Agr.rf) dX2_init_9 rfl rfl
abbrev rmX2_init_i51 : Room := { frames := 1, cells := 0, slots := 0, locals := 20 }
def X2_init_i51 (h : AH) : Option (Unit × AH) :=
    vl (sK h 51 0) fun h1 =>
    some ((), h1)
set_option maxRecDepth 100000 in
set_option maxHeartbeats 4000000 in
theorem c_X2_init_i51 (l : Launch) : MCN l yX2_init cX2_init 2 rmX2_init_i51 KX YC61 YC62 [.ref 51, .ref 36] X2_init_i51 :=
  MCN.of (own := RX2) (by decide +kernel) rfl rfl (Nat.le_of_ble_eq_true rfl) fun X yd A h C hKX hin =>
    aw_aload_n (pc := 0) C (i := 0) dX2_init_0 rfl rfl <|
    aw_objInit (pc := 1) C dX2_init_1 mo_X2_1 w_oi w_oc ⟨(Nat.le_of_ble_eq_true rfl), (Nat.le_of_ble_eq_true rfl)⟩ <|
    aw_aload_n (pc := 4) C (i := 0) dX2_init_4 rfl rfl <|
    aw_aload_n (pc := 5) C (i := 1) dX2_init_5 rfl rfl <|
    aw_putW0 (pc := 6) C (Z' := YC62) (v := 0) dX2_init_6 fp_X2_7 rfl rfl rfl fun h1 =>
    aw_vretN (pc := 9) C (Agr.rf) dX2_init_9 rfl rfl
abbrev rmX5_init_i42 : Room := { frames := 2, cells := 9, slots := 136, locals := 41 }
def X5_init_i42 (h : AH) : Option (Unit × AH) :=
    vl (sI h 42 0 10) fun h1 =>
    vl (sI h1 42 2 2) fun h2 =>
    vl (zN h2 43) fun h3 =>
    vl (zN h3 44) fun h5 =>
    vl (zN h5 45) fun h7 =>
    vl (zN h7 46) fun h9 =>
    vl (zN h9 47) fun h11 =>
    vl (zN h11 48) fun h13 =>
    bd (X2_init_i48 h13) fun _ h15 =>
    vl (zN h15 49) fun h18 =>
    bd (X2_init_i49 h18) fun _ h20 =>
    vl (zN h20 50) fun h23 =>
    bd (X2_init_i50 h23) fun _ h25 =>
    vl (zN h25 51) fun h28 =>
    bd (X2_init_i51 h28) fun _ h30 =>
    some ((), h30)
set_option maxRecDepth 100000 in
set_option maxHeartbeats 4000000 in
theorem c_X5_init_i42 (l : Launch) : MCN l yX5_init cX5_init 3 rmX5_init_i42 KX YC41 YC63 [.ref 42, .ref 36] X5_init_i42 :=
  MCN.of (own := RX5) (by decide +kernel) rfl rfl (Nat.le_of_ble_eq_true rfl) fun X yd A h C hKX hin =>
    aw_aload_n (pc := 0) C (i := 0) dX5_init_0 rfl rfl <|
    aw_objInit (pc := 1) C dX5_init_1 mo_X5_3 w_oi w_oc ⟨(Nat.le_of_ble_eq_true rfl), (Nat.le_of_ble_eq_true rfl)⟩ <|
    aw_aload_n (pc := 4) C (i := 0) dX5_init_4 rfl rfl <|
    aw_bipush (pc := 5) C (v := 10) dX5_init_5 rfl <|
    aw_putI (pc := 7) C dX5_init_7 fp_X5_9 rfl rfl fun h1 =>
    aw_aload_n (pc := 10) C (i := 0) dX5_init_10 rfl rfl <|
    aw_iconst (pc := 11) C (v := 2) dX5_init_11 rfl <|
    aw_putI (pc := 12) C dX5_init_12 fp_X5_15 rfl rfl fun h2 =>
    aw_aload_n (pc := 15) C (i := 0) dX5_init_15 rfl rfl <|
    aw_iconst (pc := 16) C (v := 4) dX5_init_16 rfl <|
    aw_newqm (pc := 17) C (Z' := YC42) (N := 4) (t := 2) hKX.2.1 kl_X5_18 ln_YC41 wf_YC41 dX5_init_17 (by decide) rfl (by decide) rfl rfl rfl (Nat.le_of_ble_eq_true rfl) (Nat.le_of_ble_eq_true rfl) fun a4 h3 =>
    aw_putRF (pc := 20) C (Z' := YC43) hin dX5_init_20 fpf_X5_20 rfl rfl (fun _ => rfl) (fun _ => rfl) rfl <|
    aw_aload_n (pc := 23) C (i := 0) dX5_init_23 rfl rfl <|
    aw_bipush (pc := 24) C (v := 24) dX5_init_24 rfl <|
    aw_newIm (pc := 26) C (Z' := YC44) (N := 24) ln_YC43 wf_YC43 dX5_init_26 (by decide) rfl (by decide) rfl rfl rfl (Nat.le_of_ble_eq_true rfl) (Nat.le_of_ble_eq_true rfl) fun a6 h5 =>
    aw_putRF (pc := 28) C (Z' := YC45) hin dX5_init_28 fpf_X5_24 rfl rfl (fun _ => rfl) (fun _ => rfl) rfl <|
    aw_aload_n (pc := 31) C (i := 0) dX5_init_31 rfl rfl <|
    aw_bipush (pc := 32) C (v := 24) dX5_init_32 rfl <|
    aw_newIm (pc := 34) C (Z' := YC46) (N := 24) ln_YC45 wf_YC45 dX5_init_34 (by decide) rfl (by decide) rfl rfl rfl (Nat.le_of_ble_eq_true rfl) (Nat.le_of_ble_eq_true rfl) fun a8 h7 =>
    aw_putRF (pc := 36) C (Z' := YC47) hin dX5_init_36 fpf_X5_28 rfl rfl (fun _ => rfl) (fun _ => rfl) rfl <|
    aw_aload_n (pc := 39) C (i := 0) dX5_init_39 rfl rfl <|
    aw_bipush (pc := 40) C (v := 24) dX5_init_40 rfl <|
    aw_newIm (pc := 42) C (Z' := YC48) (N := 24) ln_YC47 wf_YC47 dX5_init_42 (by decide) rfl (by decide) rfl rfl rfl (Nat.le_of_ble_eq_true rfl) (Nat.le_of_ble_eq_true rfl) fun a10 h9 =>
    aw_putRF (pc := 44) C (Z' := YC49) hin dX5_init_44 fpf_X5_31 rfl rfl (fun _ => rfl) (fun _ => rfl) rfl <|
    aw_aload_n (pc := 47) C (i := 0) dX5_init_47 rfl rfl <|
    aw_bipush (pc := 48) C (v := 24) dX5_init_48 rfl <|
    aw_newIm (pc := 50) C (Z' := YC50) (N := 24) ln_YC49 wf_YC49 dX5_init_50 (by decide) rfl (by decide) rfl rfl rfl (Nat.le_of_ble_eq_true rfl) (Nat.le_of_ble_eq_true rfl) fun a12 h11 =>
    aw_putRF (pc := 52) C (Z' := YC51) hin dX5_init_52 fpf_X5_34 rfl rfl (fun _ => rfl) (fun _ => rfl) rfl <|
    aw_iconst (pc := 55) C (v := 0) dX5_init_55 rfl <|
    aw_istore_n (pc := 56) C (i := 2) (lv' := [(0, .ref 42), (1, .ref 36), (2, .int 0)]) dX5_init_56 rfl (by decide) rfl <|
    aw_iload_n (pc := 57) C (i := 2) dX5_init_57 rfl rfl <|
    aw_iconst (pc := 58) C (v := 4) dX5_init_58 rfl <|
    aw_dec (aw_icmp_ge (pc := 59) C (tgt := 82) dX5_init_59 rfl (fun c => absurd c (by decide)) (fun _ =>
    aw_aload_n (pc := 62) C (i := 0) dX5_init_62 rfl rfl <|
    aw_getR (pc := 63) C (b := 43) dX5_init_63 fl_X5_20 rfl rfl rfl <|
    aw_iload_n (pc := 66) C (i := 2) dX5_init_66 rfl rfl <|
    aw_newm (pc := 67) C (Z' := YC52) (ci := 2) (N := 9) (T := TX2) (codes := rty 2) (.inl (0, 9, 2)) ln_YC51 wf_YC51 dX5_init_67 rfl wsin_X2 tyX2_ok kl_X5_18 ki_X2 kn_X2 (fun _ _ _ _ => rfl) n3_X2 df_X2 rfl rfl (Nat.le_of_ble_eq_true rfl) (Nat.le_of_ble_eq_true rfl) fun a14 h13 =>
    aw_dup (pc := 70) C dX5_init_70 rfl <|
    aw_aload_n (pc := 71) C (i := 1) dX5_init_71 rfl rfl <|
    aw_callC (pc := 72) C (Z' := YC53) (rm' := rmX2_init_i48) (F := X2_init_i48) (run_I (As := [.ref 36]) (rest := [.ref 48, .int 0, .ref 43]) (b := 48) C kx_m kx_b hKX (c_X2_init_i48 X.2.1) dX5_init_72 mf_X2_init mj_X5_37 im_X2_init rfl ⟨(Nat.le_of_ble_eq_true rfl), (Nat.le_of_ble_eq_true rfl)⟩ rfl rfl (Nat.le_of_ble_eq_true rfl) ⟨(Nat.le_of_ble_eq_true rfl), (Nat.le_of_ble_eq_true rfl)⟩) rfl rfl (fun ad16 h15 ha17 =>
    aw_aast (pc := 75) C (Z' := YC54) (E := "MarkToBoard$Jumper") dX5_init_75 rfl rfl rfl rfl (as_X2 hKX) (by decide) (by decide) rfl <|
    aw_iinc (pc := 76) C (i := 2) (lv' := [(0, .ref 42), (1, .ref 36), (2, .int 1)]) dX5_init_76 rfl (by decide) rfl <|
    aw_goto (pc := 79) C (tgt := 57) dX5_init_79 rfl <|
    aw_iload_n (pc := 57) C (i := 2) dX5_init_57 rfl rfl <|
    aw_iconst (pc := 58) C (v := 4) dX5_init_58 rfl <|
    aw_dec (aw_icmp_ge (pc := 59) C (tgt := 82) dX5_init_59 rfl (fun c => absurd c (by decide)) (fun _ =>
    aw_aload_n (pc := 62) C (i := 0) dX5_init_62 rfl rfl <|
    aw_getR (pc := 63) C (b := 43) dX5_init_63 fl_X5_20 rfl rfl rfl <|
    aw_iload_n (pc := 66) C (i := 2) dX5_init_66 rfl rfl <|
    aw_newm (pc := 67) C (Z' := YC55) (ci := 2) (N := 9) (T := TX2) (codes := rty 2) (.inl (0, 9, 2)) ln_YC54 wf_YC54 dX5_init_67 rfl wsin_X2 tyX2_ok kl_X5_18 ki_X2 kn_X2 (fun _ _ _ _ => rfl) n3_X2 df_X2 rfl rfl (Nat.le_of_ble_eq_true rfl) (Nat.le_of_ble_eq_true rfl) fun a19 h18 =>
    aw_dup (pc := 70) C dX5_init_70 rfl <|
    aw_aload_n (pc := 71) C (i := 1) dX5_init_71 rfl rfl <|
    aw_callC (pc := 72) C (Z' := YC56) (rm' := rmX2_init_i49) (F := X2_init_i49) (run_I (As := [.ref 36]) (rest := [.ref 49, .int 1, .ref 43]) (b := 49) C kx_m kx_b hKX (c_X2_init_i49 X.2.1) dX5_init_72 mf_X2_init mj_X5_37 im_X2_init rfl ⟨(Nat.le_of_ble_eq_true rfl), (Nat.le_of_ble_eq_true rfl)⟩ rfl rfl (Nat.le_of_ble_eq_true rfl) ⟨(Nat.le_of_ble_eq_true rfl), (Nat.le_of_ble_eq_true rfl)⟩) rfl rfl (fun ad21 h20 ha22 =>
    aw_aast (pc := 75) C (Z' := YC57) (E := "MarkToBoard$Jumper") dX5_init_75 rfl rfl rfl rfl (as_X2 hKX) (by decide) (by decide) rfl <|
    aw_iinc (pc := 76) C (i := 2) (lv' := [(0, .ref 42), (1, .ref 36), (2, .int 2)]) dX5_init_76 rfl (by decide) rfl <|
    aw_goto (pc := 79) C (tgt := 57) dX5_init_79 rfl <|
    aw_iload_n (pc := 57) C (i := 2) dX5_init_57 rfl rfl <|
    aw_iconst (pc := 58) C (v := 4) dX5_init_58 rfl <|
    aw_dec (aw_icmp_ge (pc := 59) C (tgt := 82) dX5_init_59 rfl (fun c => absurd c (by decide)) (fun _ =>
    aw_aload_n (pc := 62) C (i := 0) dX5_init_62 rfl rfl <|
    aw_getR (pc := 63) C (b := 43) dX5_init_63 fl_X5_20 rfl rfl rfl <|
    aw_iload_n (pc := 66) C (i := 2) dX5_init_66 rfl rfl <|
    aw_newm (pc := 67) C (Z' := YC58) (ci := 2) (N := 9) (T := TX2) (codes := rty 2) (.inl (0, 9, 2)) ln_YC57 wf_YC57 dX5_init_67 rfl wsin_X2 tyX2_ok kl_X5_18 ki_X2 kn_X2 (fun _ _ _ _ => rfl) n3_X2 df_X2 rfl rfl (Nat.le_of_ble_eq_true rfl) (Nat.le_of_ble_eq_true rfl) fun a24 h23 =>
    aw_dup (pc := 70) C dX5_init_70 rfl <|
    aw_aload_n (pc := 71) C (i := 1) dX5_init_71 rfl rfl <|
    aw_callC (pc := 72) C (Z' := YC59) (rm' := rmX2_init_i50) (F := X2_init_i50) (run_I (As := [.ref 36]) (rest := [.ref 50, .int 2, .ref 43]) (b := 50) C kx_m kx_b hKX (c_X2_init_i50 X.2.1) dX5_init_72 mf_X2_init mj_X5_37 im_X2_init rfl ⟨(Nat.le_of_ble_eq_true rfl), (Nat.le_of_ble_eq_true rfl)⟩ rfl rfl (Nat.le_of_ble_eq_true rfl) ⟨(Nat.le_of_ble_eq_true rfl), (Nat.le_of_ble_eq_true rfl)⟩) rfl rfl (fun ad26 h25 ha27 =>
    aw_aast (pc := 75) C (Z' := YC60) (E := "MarkToBoard$Jumper") dX5_init_75 rfl rfl rfl rfl (as_X2 hKX) (by decide) (by decide) rfl <|
    aw_iinc (pc := 76) C (i := 2) (lv' := [(0, .ref 42), (1, .ref 36), (2, .int 3)]) dX5_init_76 rfl (by decide) rfl <|
    aw_goto (pc := 79) C (tgt := 57) dX5_init_79 rfl <|
    aw_iload_n (pc := 57) C (i := 2) dX5_init_57 rfl rfl <|
    aw_iconst (pc := 58) C (v := 4) dX5_init_58 rfl <|
    aw_dec (aw_icmp_ge (pc := 59) C (tgt := 82) dX5_init_59 rfl (fun c => absurd c (by decide)) (fun _ =>
    aw_aload_n (pc := 62) C (i := 0) dX5_init_62 rfl rfl <|
    aw_getR (pc := 63) C (b := 43) dX5_init_63 fl_X5_20 rfl rfl rfl <|
    aw_iload_n (pc := 66) C (i := 2) dX5_init_66 rfl rfl <|
    aw_newm (pc := 67) C (Z' := YC61) (ci := 2) (N := 9) (T := TX2) (codes := rty 2) (.inl (0, 9, 2)) ln_YC60 wf_YC60 dX5_init_67 rfl wsin_X2 tyX2_ok kl_X5_18 ki_X2 kn_X2 (fun _ _ _ _ => rfl) n3_X2 df_X2 rfl rfl (Nat.le_of_ble_eq_true rfl) (Nat.le_of_ble_eq_true rfl) fun a29 h28 =>
    aw_dup (pc := 70) C dX5_init_70 rfl <|
    aw_aload_n (pc := 71) C (i := 1) dX5_init_71 rfl rfl <|
    aw_callC (pc := 72) C (Z' := YC62) (rm' := rmX2_init_i51) (F := X2_init_i51) (run_I (As := [.ref 36]) (rest := [.ref 51, .int 3, .ref 43]) (b := 51) C kx_m kx_b hKX (c_X2_init_i51 X.2.1) dX5_init_72 mf_X2_init mj_X5_37 im_X2_init rfl ⟨(Nat.le_of_ble_eq_true rfl), (Nat.le_of_ble_eq_true rfl)⟩ rfl rfl (Nat.le_of_ble_eq_true rfl) ⟨(Nat.le_of_ble_eq_true rfl), (Nat.le_of_ble_eq_true rfl)⟩) rfl rfl (fun ad31 h30 ha32 =>
    aw_aast (pc := 75) C (Z' := YC63) (E := "MarkToBoard$Jumper") dX5_init_75 rfl rfl rfl rfl (as_X2 hKX) (by decide) (by decide) rfl <|
    aw_iinc (pc := 76) C (i := 2) (lv' := [(0, .ref 42), (1, .ref 36), (2, .int 4)]) dX5_init_76 rfl (by decide) rfl <|
    aw_goto (pc := 79) C (tgt := 57) dX5_init_79 rfl <|
    aw_iload_n (pc := 57) C (i := 2) dX5_init_57 rfl rfl <|
    aw_iconst (pc := 58) C (v := 4) dX5_init_58 rfl <|
    aw_dec (aw_icmp_ge (pc := 59) C (tgt := 82) dX5_init_59 rfl (fun _ =>
    aw_vretN (pc := 82) C (Agr.call (n := 52) (Agr.new (n := 51) (Agr.call (n := 51) (Agr.new (n := 50) (Agr.call (n := 50) (Agr.new (n := 49) (Agr.call (n := 49) (Agr.new (n := 48) (Agr.new (n := 47) (Agr.new (n := 46) (Agr.new (n := 45) (Agr.new (n := 44) (Agr.new (n := 43) (Agr.rf) (Nat.le_of_ble_eq_true rfl)) (Nat.le_of_ble_eq_true rfl)) (Nat.le_of_ble_eq_true rfl)) (Nat.le_of_ble_eq_true rfl)) (Nat.le_of_ble_eq_true rfl)) (Nat.le_of_ble_eq_true rfl)) (Nat.le_of_ble_eq_true rfl) (ha17)) (Nat.le_of_ble_eq_true rfl)) (Nat.le_of_ble_eq_true rfl) (ha22)) (Nat.le_of_ble_eq_true rfl)) (Nat.le_of_ble_eq_true rfl) (ha27)) (Nat.le_of_ble_eq_true rfl)) (Nat.le_of_ble_eq_true rfl) (ha32)) dX5_init_82 rfl rfl) (fun c => absurd (by decide) c))) rfl))) rfl))) rfl))) rfl))
abbrev rmX2_init_i58 : Room := { frames := 1, cells := 0, slots := 0, locals := 20 }
def X2_init_i58 (h : AH) : Option (Unit × AH) :=
    vl (sK h 58 0) fun h1 =>
    some ((), h1)
set_option maxRecDepth 100000 in
set_option maxHeartbeats 4000000 in
theorem c_X2_init_i58 (l : Launch) : MCN l yX2_init cX2_init 2 rmX2_init_i58 KX YC76 YC77 [.ref 58, .ref 36] X2_init_i58 :=
  MCN.of (own := RX2) (by decide +kernel) rfl rfl (Nat.le_of_ble_eq_true rfl) fun X yd A h C hKX hin =>
    aw_aload_n (pc := 0) C (i := 0) dX2_init_0 rfl rfl <|
    aw_objInit (pc := 1) C dX2_init_1 mo_X2_1 w_oi w_oc ⟨(Nat.le_of_ble_eq_true rfl), (Nat.le_of_ble_eq_true rfl)⟩ <|
    aw_aload_n (pc := 4) C (i := 0) dX2_init_4 rfl rfl <|
    aw_aload_n (pc := 5) C (i := 1) dX2_init_5 rfl rfl <|
    aw_putW0 (pc := 6) C (Z' := YC77) (v := 0) dX2_init_6 fp_X2_7 rfl rfl rfl fun h1 =>
    aw_vretN (pc := 9) C (Agr.rf) dX2_init_9 rfl rfl
abbrev rmX2_init_i59 : Room := { frames := 1, cells := 0, slots := 0, locals := 20 }
def X2_init_i59 (h : AH) : Option (Unit × AH) :=
    vl (sK h 59 0) fun h1 =>
    some ((), h1)
set_option maxRecDepth 100000 in
set_option maxHeartbeats 4000000 in
theorem c_X2_init_i59 (l : Launch) : MCN l yX2_init cX2_init 2 rmX2_init_i59 KX YC79 YC80 [.ref 59, .ref 36] X2_init_i59 :=
  MCN.of (own := RX2) (by decide +kernel) rfl rfl (Nat.le_of_ble_eq_true rfl) fun X yd A h C hKX hin =>
    aw_aload_n (pc := 0) C (i := 0) dX2_init_0 rfl rfl <|
    aw_objInit (pc := 1) C dX2_init_1 mo_X2_1 w_oi w_oc ⟨(Nat.le_of_ble_eq_true rfl), (Nat.le_of_ble_eq_true rfl)⟩ <|
    aw_aload_n (pc := 4) C (i := 0) dX2_init_4 rfl rfl <|
    aw_aload_n (pc := 5) C (i := 1) dX2_init_5 rfl rfl <|
    aw_putW0 (pc := 6) C (Z' := YC80) (v := 0) dX2_init_6 fp_X2_7 rfl rfl rfl fun h1 =>
    aw_vretN (pc := 9) C (Agr.rf) dX2_init_9 rfl rfl
abbrev rmX2_init_i60 : Room := { frames := 1, cells := 0, slots := 0, locals := 20 }
def X2_init_i60 (h : AH) : Option (Unit × AH) :=
    vl (sK h 60 0) fun h1 =>
    some ((), h1)
set_option maxRecDepth 100000 in
set_option maxHeartbeats 4000000 in
theorem c_X2_init_i60 (l : Launch) : MCN l yX2_init cX2_init 2 rmX2_init_i60 KX YC82 YC83 [.ref 60, .ref 36] X2_init_i60 :=
  MCN.of (own := RX2) (by decide +kernel) rfl rfl (Nat.le_of_ble_eq_true rfl) fun X yd A h C hKX hin =>
    aw_aload_n (pc := 0) C (i := 0) dX2_init_0 rfl rfl <|
    aw_objInit (pc := 1) C dX2_init_1 mo_X2_1 w_oi w_oc ⟨(Nat.le_of_ble_eq_true rfl), (Nat.le_of_ble_eq_true rfl)⟩ <|
    aw_aload_n (pc := 4) C (i := 0) dX2_init_4 rfl rfl <|
    aw_aload_n (pc := 5) C (i := 1) dX2_init_5 rfl rfl <|
    aw_putW0 (pc := 6) C (Z' := YC83) (v := 0) dX2_init_6 fp_X2_7 rfl rfl rfl fun h1 =>
    aw_vretN (pc := 9) C (Agr.rf) dX2_init_9 rfl rfl
abbrev rmX2_init_i61 : Room := { frames := 1, cells := 0, slots := 0, locals := 20 }
def X2_init_i61 (h : AH) : Option (Unit × AH) :=
    vl (sK h 61 0) fun h1 =>
    some ((), h1)
set_option maxRecDepth 100000 in
set_option maxHeartbeats 4000000 in
theorem c_X2_init_i61 (l : Launch) : MCN l yX2_init cX2_init 2 rmX2_init_i61 KX YC85 YC86 [.ref 61, .ref 36] X2_init_i61 :=
  MCN.of (own := RX2) (by decide +kernel) rfl rfl (Nat.le_of_ble_eq_true rfl) fun X yd A h C hKX hin =>
    aw_aload_n (pc := 0) C (i := 0) dX2_init_0 rfl rfl <|
    aw_objInit (pc := 1) C dX2_init_1 mo_X2_1 w_oi w_oc ⟨(Nat.le_of_ble_eq_true rfl), (Nat.le_of_ble_eq_true rfl)⟩ <|
    aw_aload_n (pc := 4) C (i := 0) dX2_init_4 rfl rfl <|
    aw_aload_n (pc := 5) C (i := 1) dX2_init_5 rfl rfl <|
    aw_putW0 (pc := 6) C (Z' := YC86) (v := 0) dX2_init_6 fp_X2_7 rfl rfl rfl fun h1 =>
    aw_vretN (pc := 9) C (Agr.rf) dX2_init_9 rfl rfl
abbrev rmX5_init_i52 : Room := { frames := 2, cells := 9, slots := 136, locals := 41 }
def X5_init_i52 (h : AH) : Option (Unit × AH) :=
    vl (sI h 52 0 10) fun h1 =>
    vl (sI h1 52 2 2) fun h2 =>
    vl (zN h2 53) fun h3 =>
    vl (zN h3 54) fun h5 =>
    vl (zN h5 55) fun h7 =>
    vl (zN h7 56) fun h9 =>
    vl (zN h9 57) fun h11 =>
    vl (zN h11 58) fun h13 =>
    bd (X2_init_i58 h13) fun _ h15 =>
    vl (zN h15 59) fun h18 =>
    bd (X2_init_i59 h18) fun _ h20 =>
    vl (zN h20 60) fun h23 =>
    bd (X2_init_i60 h23) fun _ h25 =>
    vl (zN h25 61) fun h28 =>
    bd (X2_init_i61 h28) fun _ h30 =>
    some ((), h30)
set_option maxRecDepth 100000 in
set_option maxHeartbeats 4000000 in
theorem c_X5_init_i52 (l : Launch) : MCN l yX5_init cX5_init 3 rmX5_init_i52 KX YC65 YC87 [.ref 52, .ref 36] X5_init_i52 :=
  MCN.of (own := RX5) (by decide +kernel) rfl rfl (Nat.le_of_ble_eq_true rfl) fun X yd A h C hKX hin =>
    aw_aload_n (pc := 0) C (i := 0) dX5_init_0 rfl rfl <|
    aw_objInit (pc := 1) C dX5_init_1 mo_X5_3 w_oi w_oc ⟨(Nat.le_of_ble_eq_true rfl), (Nat.le_of_ble_eq_true rfl)⟩ <|
    aw_aload_n (pc := 4) C (i := 0) dX5_init_4 rfl rfl <|
    aw_bipush (pc := 5) C (v := 10) dX5_init_5 rfl <|
    aw_putI (pc := 7) C dX5_init_7 fp_X5_9 rfl rfl fun h1 =>
    aw_aload_n (pc := 10) C (i := 0) dX5_init_10 rfl rfl <|
    aw_iconst (pc := 11) C (v := 2) dX5_init_11 rfl <|
    aw_putI (pc := 12) C dX5_init_12 fp_X5_15 rfl rfl fun h2 =>
    aw_aload_n (pc := 15) C (i := 0) dX5_init_15 rfl rfl <|
    aw_iconst (pc := 16) C (v := 4) dX5_init_16 rfl <|
    aw_newqm (pc := 17) C (Z' := YC66) (N := 4) (t := 2) hKX.2.1 kl_X5_18 ln_YC65 wf_YC65 dX5_init_17 (by decide) rfl (by decide) rfl rfl rfl (Nat.le_of_ble_eq_true rfl) (Nat.le_of_ble_eq_true rfl) fun a4 h3 =>
    aw_putRF (pc := 20) C (Z' := YC67) hin dX5_init_20 fpf_X5_20 rfl rfl (fun _ => rfl) (fun _ => rfl) rfl <|
    aw_aload_n (pc := 23) C (i := 0) dX5_init_23 rfl rfl <|
    aw_bipush (pc := 24) C (v := 24) dX5_init_24 rfl <|
    aw_newIm (pc := 26) C (Z' := YC68) (N := 24) ln_YC67 wf_YC67 dX5_init_26 (by decide) rfl (by decide) rfl rfl rfl (Nat.le_of_ble_eq_true rfl) (Nat.le_of_ble_eq_true rfl) fun a6 h5 =>
    aw_putRF (pc := 28) C (Z' := YC69) hin dX5_init_28 fpf_X5_24 rfl rfl (fun _ => rfl) (fun _ => rfl) rfl <|
    aw_aload_n (pc := 31) C (i := 0) dX5_init_31 rfl rfl <|
    aw_bipush (pc := 32) C (v := 24) dX5_init_32 rfl <|
    aw_newIm (pc := 34) C (Z' := YC70) (N := 24) ln_YC69 wf_YC69 dX5_init_34 (by decide) rfl (by decide) rfl rfl rfl (Nat.le_of_ble_eq_true rfl) (Nat.le_of_ble_eq_true rfl) fun a8 h7 =>
    aw_putRF (pc := 36) C (Z' := YC71) hin dX5_init_36 fpf_X5_28 rfl rfl (fun _ => rfl) (fun _ => rfl) rfl <|
    aw_aload_n (pc := 39) C (i := 0) dX5_init_39 rfl rfl <|
    aw_bipush (pc := 40) C (v := 24) dX5_init_40 rfl <|
    aw_newIm (pc := 42) C (Z' := YC72) (N := 24) ln_YC71 wf_YC71 dX5_init_42 (by decide) rfl (by decide) rfl rfl rfl (Nat.le_of_ble_eq_true rfl) (Nat.le_of_ble_eq_true rfl) fun a10 h9 =>
    aw_putRF (pc := 44) C (Z' := YC73) hin dX5_init_44 fpf_X5_31 rfl rfl (fun _ => rfl) (fun _ => rfl) rfl <|
    aw_aload_n (pc := 47) C (i := 0) dX5_init_47 rfl rfl <|
    aw_bipush (pc := 48) C (v := 24) dX5_init_48 rfl <|
    aw_newIm (pc := 50) C (Z' := YC74) (N := 24) ln_YC73 wf_YC73 dX5_init_50 (by decide) rfl (by decide) rfl rfl rfl (Nat.le_of_ble_eq_true rfl) (Nat.le_of_ble_eq_true rfl) fun a12 h11 =>
    aw_putRF (pc := 52) C (Z' := YC75) hin dX5_init_52 fpf_X5_34 rfl rfl (fun _ => rfl) (fun _ => rfl) rfl <|
    aw_iconst (pc := 55) C (v := 0) dX5_init_55 rfl <|
    aw_istore_n (pc := 56) C (i := 2) (lv' := [(0, .ref 52), (1, .ref 36), (2, .int 0)]) dX5_init_56 rfl (by decide) rfl <|
    aw_iload_n (pc := 57) C (i := 2) dX5_init_57 rfl rfl <|
    aw_iconst (pc := 58) C (v := 4) dX5_init_58 rfl <|
    aw_dec (aw_icmp_ge (pc := 59) C (tgt := 82) dX5_init_59 rfl (fun c => absurd c (by decide)) (fun _ =>
    aw_aload_n (pc := 62) C (i := 0) dX5_init_62 rfl rfl <|
    aw_getR (pc := 63) C (b := 53) dX5_init_63 fl_X5_20 rfl rfl rfl <|
    aw_iload_n (pc := 66) C (i := 2) dX5_init_66 rfl rfl <|
    aw_newm (pc := 67) C (Z' := YC76) (ci := 2) (N := 9) (T := TX2) (codes := rty 2) (.inl (0, 9, 2)) ln_YC75 wf_YC75 dX5_init_67 rfl wsin_X2 tyX2_ok kl_X5_18 ki_X2 kn_X2 (fun _ _ _ _ => rfl) n3_X2 df_X2 rfl rfl (Nat.le_of_ble_eq_true rfl) (Nat.le_of_ble_eq_true rfl) fun a14 h13 =>
    aw_dup (pc := 70) C dX5_init_70 rfl <|
    aw_aload_n (pc := 71) C (i := 1) dX5_init_71 rfl rfl <|
    aw_callC (pc := 72) C (Z' := YC77) (rm' := rmX2_init_i58) (F := X2_init_i58) (run_I (As := [.ref 36]) (rest := [.ref 58, .int 0, .ref 53]) (b := 58) C kx_m kx_b hKX (c_X2_init_i58 X.2.1) dX5_init_72 mf_X2_init mj_X5_37 im_X2_init rfl ⟨(Nat.le_of_ble_eq_true rfl), (Nat.le_of_ble_eq_true rfl)⟩ rfl rfl (Nat.le_of_ble_eq_true rfl) ⟨(Nat.le_of_ble_eq_true rfl), (Nat.le_of_ble_eq_true rfl)⟩) rfl rfl (fun ad16 h15 ha17 =>
    aw_aast (pc := 75) C (Z' := YC78) (E := "MarkToBoard$Jumper") dX5_init_75 rfl rfl rfl rfl (as_X2 hKX) (by decide) (by decide) rfl <|
    aw_iinc (pc := 76) C (i := 2) (lv' := [(0, .ref 52), (1, .ref 36), (2, .int 1)]) dX5_init_76 rfl (by decide) rfl <|
    aw_goto (pc := 79) C (tgt := 57) dX5_init_79 rfl <|
    aw_iload_n (pc := 57) C (i := 2) dX5_init_57 rfl rfl <|
    aw_iconst (pc := 58) C (v := 4) dX5_init_58 rfl <|
    aw_dec (aw_icmp_ge (pc := 59) C (tgt := 82) dX5_init_59 rfl (fun c => absurd c (by decide)) (fun _ =>
    aw_aload_n (pc := 62) C (i := 0) dX5_init_62 rfl rfl <|
    aw_getR (pc := 63) C (b := 53) dX5_init_63 fl_X5_20 rfl rfl rfl <|
    aw_iload_n (pc := 66) C (i := 2) dX5_init_66 rfl rfl <|
    aw_newm (pc := 67) C (Z' := YC79) (ci := 2) (N := 9) (T := TX2) (codes := rty 2) (.inl (0, 9, 2)) ln_YC78 wf_YC78 dX5_init_67 rfl wsin_X2 tyX2_ok kl_X5_18 ki_X2 kn_X2 (fun _ _ _ _ => rfl) n3_X2 df_X2 rfl rfl (Nat.le_of_ble_eq_true rfl) (Nat.le_of_ble_eq_true rfl) fun a19 h18 =>
    aw_dup (pc := 70) C dX5_init_70 rfl <|
    aw_aload_n (pc := 71) C (i := 1) dX5_init_71 rfl rfl <|
    aw_callC (pc := 72) C (Z' := YC80) (rm' := rmX2_init_i59) (F := X2_init_i59) (run_I (As := [.ref 36]) (rest := [.ref 59, .int 1, .ref 53]) (b := 59) C kx_m kx_b hKX (c_X2_init_i59 X.2.1) dX5_init_72 mf_X2_init mj_X5_37 im_X2_init rfl ⟨(Nat.le_of_ble_eq_true rfl), (Nat.le_of_ble_eq_true rfl)⟩ rfl rfl (Nat.le_of_ble_eq_true rfl) ⟨(Nat.le_of_ble_eq_true rfl), (Nat.le_of_ble_eq_true rfl)⟩) rfl rfl (fun ad21 h20 ha22 =>
    aw_aast (pc := 75) C (Z' := YC81) (E := "MarkToBoard$Jumper") dX5_init_75 rfl rfl rfl rfl (as_X2 hKX) (by decide) (by decide) rfl <|
    aw_iinc (pc := 76) C (i := 2) (lv' := [(0, .ref 52), (1, .ref 36), (2, .int 2)]) dX5_init_76 rfl (by decide) rfl <|
    aw_goto (pc := 79) C (tgt := 57) dX5_init_79 rfl <|
    aw_iload_n (pc := 57) C (i := 2) dX5_init_57 rfl rfl <|
    aw_iconst (pc := 58) C (v := 4) dX5_init_58 rfl <|
    aw_dec (aw_icmp_ge (pc := 59) C (tgt := 82) dX5_init_59 rfl (fun c => absurd c (by decide)) (fun _ =>
    aw_aload_n (pc := 62) C (i := 0) dX5_init_62 rfl rfl <|
    aw_getR (pc := 63) C (b := 53) dX5_init_63 fl_X5_20 rfl rfl rfl <|
    aw_iload_n (pc := 66) C (i := 2) dX5_init_66 rfl rfl <|
    aw_newm (pc := 67) C (Z' := YC82) (ci := 2) (N := 9) (T := TX2) (codes := rty 2) (.inl (0, 9, 2)) ln_YC81 wf_YC81 dX5_init_67 rfl wsin_X2 tyX2_ok kl_X5_18 ki_X2 kn_X2 (fun _ _ _ _ => rfl) n3_X2 df_X2 rfl rfl (Nat.le_of_ble_eq_true rfl) (Nat.le_of_ble_eq_true rfl) fun a24 h23 =>
    aw_dup (pc := 70) C dX5_init_70 rfl <|
    aw_aload_n (pc := 71) C (i := 1) dX5_init_71 rfl rfl <|
    aw_callC (pc := 72) C (Z' := YC83) (rm' := rmX2_init_i60) (F := X2_init_i60) (run_I (As := [.ref 36]) (rest := [.ref 60, .int 2, .ref 53]) (b := 60) C kx_m kx_b hKX (c_X2_init_i60 X.2.1) dX5_init_72 mf_X2_init mj_X5_37 im_X2_init rfl ⟨(Nat.le_of_ble_eq_true rfl), (Nat.le_of_ble_eq_true rfl)⟩ rfl rfl (Nat.le_of_ble_eq_true rfl) ⟨(Nat.le_of_ble_eq_true rfl), (Nat.le_of_ble_eq_true rfl)⟩) rfl rfl (fun ad26 h25 ha27 =>
    aw_aast (pc := 75) C (Z' := YC84) (E := "MarkToBoard$Jumper") dX5_init_75 rfl rfl rfl rfl (as_X2 hKX) (by decide) (by decide) rfl <|
    aw_iinc (pc := 76) C (i := 2) (lv' := [(0, .ref 52), (1, .ref 36), (2, .int 3)]) dX5_init_76 rfl (by decide) rfl <|
    aw_goto (pc := 79) C (tgt := 57) dX5_init_79 rfl <|
    aw_iload_n (pc := 57) C (i := 2) dX5_init_57 rfl rfl <|
    aw_iconst (pc := 58) C (v := 4) dX5_init_58 rfl <|
    aw_dec (aw_icmp_ge (pc := 59) C (tgt := 82) dX5_init_59 rfl (fun c => absurd c (by decide)) (fun _ =>
    aw_aload_n (pc := 62) C (i := 0) dX5_init_62 rfl rfl <|
    aw_getR (pc := 63) C (b := 53) dX5_init_63 fl_X5_20 rfl rfl rfl <|
    aw_iload_n (pc := 66) C (i := 2) dX5_init_66 rfl rfl <|
    aw_newm (pc := 67) C (Z' := YC85) (ci := 2) (N := 9) (T := TX2) (codes := rty 2) (.inl (0, 9, 2)) ln_YC84 wf_YC84 dX5_init_67 rfl wsin_X2 tyX2_ok kl_X5_18 ki_X2 kn_X2 (fun _ _ _ _ => rfl) n3_X2 df_X2 rfl rfl (Nat.le_of_ble_eq_true rfl) (Nat.le_of_ble_eq_true rfl) fun a29 h28 =>
    aw_dup (pc := 70) C dX5_init_70 rfl <|
    aw_aload_n (pc := 71) C (i := 1) dX5_init_71 rfl rfl <|
    aw_callC (pc := 72) C (Z' := YC86) (rm' := rmX2_init_i61) (F := X2_init_i61) (run_I (As := [.ref 36]) (rest := [.ref 61, .int 3, .ref 53]) (b := 61) C kx_m kx_b hKX (c_X2_init_i61 X.2.1) dX5_init_72 mf_X2_init mj_X5_37 im_X2_init rfl ⟨(Nat.le_of_ble_eq_true rfl), (Nat.le_of_ble_eq_true rfl)⟩ rfl rfl (Nat.le_of_ble_eq_true rfl) ⟨(Nat.le_of_ble_eq_true rfl), (Nat.le_of_ble_eq_true rfl)⟩) rfl rfl (fun ad31 h30 ha32 =>
    aw_aast (pc := 75) C (Z' := YC87) (E := "MarkToBoard$Jumper") dX5_init_75 rfl rfl rfl rfl (as_X2 hKX) (by decide) (by decide) rfl <|
    aw_iinc (pc := 76) C (i := 2) (lv' := [(0, .ref 52), (1, .ref 36), (2, .int 4)]) dX5_init_76 rfl (by decide) rfl <|
    aw_goto (pc := 79) C (tgt := 57) dX5_init_79 rfl <|
    aw_iload_n (pc := 57) C (i := 2) dX5_init_57 rfl rfl <|
    aw_iconst (pc := 58) C (v := 4) dX5_init_58 rfl <|
    aw_dec (aw_icmp_ge (pc := 59) C (tgt := 82) dX5_init_59 rfl (fun _ =>
    aw_vretN (pc := 82) C (Agr.call (n := 62) (Agr.new (n := 61) (Agr.call (n := 61) (Agr.new (n := 60) (Agr.call (n := 60) (Agr.new (n := 59) (Agr.call (n := 59) (Agr.new (n := 58) (Agr.new (n := 57) (Agr.new (n := 56) (Agr.new (n := 55) (Agr.new (n := 54) (Agr.new (n := 53) (Agr.rf) (Nat.le_of_ble_eq_true rfl)) (Nat.le_of_ble_eq_true rfl)) (Nat.le_of_ble_eq_true rfl)) (Nat.le_of_ble_eq_true rfl)) (Nat.le_of_ble_eq_true rfl)) (Nat.le_of_ble_eq_true rfl)) (Nat.le_of_ble_eq_true rfl) (ha17)) (Nat.le_of_ble_eq_true rfl)) (Nat.le_of_ble_eq_true rfl) (ha22)) (Nat.le_of_ble_eq_true rfl)) (Nat.le_of_ble_eq_true rfl) (ha27)) (Nat.le_of_ble_eq_true rfl)) (Nat.le_of_ble_eq_true rfl) (ha32)) dX5_init_82 rfl rfl) (fun c => absurd (by decide) c))) rfl))) rfl))) rfl))) rfl))
abbrev rmX2_init_i68 : Room := { frames := 1, cells := 0, slots := 0, locals := 20 }
def X2_init_i68 (h : AH) : Option (Unit × AH) :=
    vl (sK h 68 0) fun h1 =>
    some ((), h1)
set_option maxRecDepth 100000 in
set_option maxHeartbeats 4000000 in
theorem c_X2_init_i68 (l : Launch) : MCN l yX2_init cX2_init 2 rmX2_init_i68 KX YC100 YC101 [.ref 68, .ref 36] X2_init_i68 :=
  MCN.of (own := RX2) (by decide +kernel) rfl rfl (Nat.le_of_ble_eq_true rfl) fun X yd A h C hKX hin =>
    aw_aload_n (pc := 0) C (i := 0) dX2_init_0 rfl rfl <|
    aw_objInit (pc := 1) C dX2_init_1 mo_X2_1 w_oi w_oc ⟨(Nat.le_of_ble_eq_true rfl), (Nat.le_of_ble_eq_true rfl)⟩ <|
    aw_aload_n (pc := 4) C (i := 0) dX2_init_4 rfl rfl <|
    aw_aload_n (pc := 5) C (i := 1) dX2_init_5 rfl rfl <|
    aw_putW0 (pc := 6) C (Z' := YC101) (v := 0) dX2_init_6 fp_X2_7 rfl rfl rfl fun h1 =>
    aw_vretN (pc := 9) C (Agr.rf) dX2_init_9 rfl rfl
abbrev rmX2_init_i69 : Room := { frames := 1, cells := 0, slots := 0, locals := 20 }
def X2_init_i69 (h : AH) : Option (Unit × AH) :=
    vl (sK h 69 0) fun h1 =>
    some ((), h1)
set_option maxRecDepth 100000 in
set_option maxHeartbeats 4000000 in
theorem c_X2_init_i69 (l : Launch) : MCN l yX2_init cX2_init 2 rmX2_init_i69 KX YC103 YC104 [.ref 69, .ref 36] X2_init_i69 :=
  MCN.of (own := RX2) (by decide +kernel) rfl rfl (Nat.le_of_ble_eq_true rfl) fun X yd A h C hKX hin =>
    aw_aload_n (pc := 0) C (i := 0) dX2_init_0 rfl rfl <|
    aw_objInit (pc := 1) C dX2_init_1 mo_X2_1 w_oi w_oc ⟨(Nat.le_of_ble_eq_true rfl), (Nat.le_of_ble_eq_true rfl)⟩ <|
    aw_aload_n (pc := 4) C (i := 0) dX2_init_4 rfl rfl <|
    aw_aload_n (pc := 5) C (i := 1) dX2_init_5 rfl rfl <|
    aw_putW0 (pc := 6) C (Z' := YC104) (v := 0) dX2_init_6 fp_X2_7 rfl rfl rfl fun h1 =>
    aw_vretN (pc := 9) C (Agr.rf) dX2_init_9 rfl rfl
abbrev rmX2_init_i70 : Room := { frames := 1, cells := 0, slots := 0, locals := 20 }
def X2_init_i70 (h : AH) : Option (Unit × AH) :=
    vl (sK h 70 0) fun h1 =>
    some ((), h1)
set_option maxRecDepth 100000 in
set_option maxHeartbeats 4000000 in
theorem c_X2_init_i70 (l : Launch) : MCN l yX2_init cX2_init 2 rmX2_init_i70 KX YC106 YC107 [.ref 70, .ref 36] X2_init_i70 :=
  MCN.of (own := RX2) (by decide +kernel) rfl rfl (Nat.le_of_ble_eq_true rfl) fun X yd A h C hKX hin =>
    aw_aload_n (pc := 0) C (i := 0) dX2_init_0 rfl rfl <|
    aw_objInit (pc := 1) C dX2_init_1 mo_X2_1 w_oi w_oc ⟨(Nat.le_of_ble_eq_true rfl), (Nat.le_of_ble_eq_true rfl)⟩ <|
    aw_aload_n (pc := 4) C (i := 0) dX2_init_4 rfl rfl <|
    aw_aload_n (pc := 5) C (i := 1) dX2_init_5 rfl rfl <|
    aw_putW0 (pc := 6) C (Z' := YC107) (v := 0) dX2_init_6 fp_X2_7 rfl rfl rfl fun h1 =>
    aw_vretN (pc := 9) C (Agr.rf) dX2_init_9 rfl rfl
abbrev rmX2_init_i71 : Room := { frames := 1, cells := 0, slots := 0, locals := 20 }
def X2_init_i71 (h : AH) : Option (Unit × AH) :=
    vl (sK h 71 0) fun h1 =>
    some ((), h1)
set_option maxRecDepth 100000 in
set_option maxHeartbeats 4000000 in
theorem c_X2_init_i71 (l : Launch) : MCN l yX2_init cX2_init 2 rmX2_init_i71 KX YC109 YC110 [.ref 71, .ref 36] X2_init_i71 :=
  MCN.of (own := RX2) (by decide +kernel) rfl rfl (Nat.le_of_ble_eq_true rfl) fun X yd A h C hKX hin =>
    aw_aload_n (pc := 0) C (i := 0) dX2_init_0 rfl rfl <|
    aw_objInit (pc := 1) C dX2_init_1 mo_X2_1 w_oi w_oc ⟨(Nat.le_of_ble_eq_true rfl), (Nat.le_of_ble_eq_true rfl)⟩ <|
    aw_aload_n (pc := 4) C (i := 0) dX2_init_4 rfl rfl <|
    aw_aload_n (pc := 5) C (i := 1) dX2_init_5 rfl rfl <|
    aw_putW0 (pc := 6) C (Z' := YC110) (v := 0) dX2_init_6 fp_X2_7 rfl rfl rfl fun h1 =>
    aw_vretN (pc := 9) C (Agr.rf) dX2_init_9 rfl rfl
abbrev rmX5_init_i62 : Room := { frames := 2, cells := 9, slots := 136, locals := 41 }
def X5_init_i62 (h : AH) : Option (Unit × AH) :=
    vl (sI h 62 0 10) fun h1 =>
    vl (sI h1 62 2 2) fun h2 =>
    vl (zN h2 63) fun h3 =>
    vl (zN h3 64) fun h5 =>
    vl (zN h5 65) fun h7 =>
    vl (zN h7 66) fun h9 =>
    vl (zN h9 67) fun h11 =>
    vl (zN h11 68) fun h13 =>
    bd (X2_init_i68 h13) fun _ h15 =>
    vl (zN h15 69) fun h18 =>
    bd (X2_init_i69 h18) fun _ h20 =>
    vl (zN h20 70) fun h23 =>
    bd (X2_init_i70 h23) fun _ h25 =>
    vl (zN h25 71) fun h28 =>
    bd (X2_init_i71 h28) fun _ h30 =>
    some ((), h30)
set_option maxRecDepth 100000 in
set_option maxHeartbeats 4000000 in
theorem c_X5_init_i62 (l : Launch) : MCN l yX5_init cX5_init 3 rmX5_init_i62 KX YC89 YC111 [.ref 62, .ref 36] X5_init_i62 :=
  MCN.of (own := RX5) (by decide +kernel) rfl rfl (Nat.le_of_ble_eq_true rfl) fun X yd A h C hKX hin =>
    aw_aload_n (pc := 0) C (i := 0) dX5_init_0 rfl rfl <|
    aw_objInit (pc := 1) C dX5_init_1 mo_X5_3 w_oi w_oc ⟨(Nat.le_of_ble_eq_true rfl), (Nat.le_of_ble_eq_true rfl)⟩ <|
    aw_aload_n (pc := 4) C (i := 0) dX5_init_4 rfl rfl <|
    aw_bipush (pc := 5) C (v := 10) dX5_init_5 rfl <|
    aw_putI (pc := 7) C dX5_init_7 fp_X5_9 rfl rfl fun h1 =>
    aw_aload_n (pc := 10) C (i := 0) dX5_init_10 rfl rfl <|
    aw_iconst (pc := 11) C (v := 2) dX5_init_11 rfl <|
    aw_putI (pc := 12) C dX5_init_12 fp_X5_15 rfl rfl fun h2 =>
    aw_aload_n (pc := 15) C (i := 0) dX5_init_15 rfl rfl <|
    aw_iconst (pc := 16) C (v := 4) dX5_init_16 rfl <|
    aw_newqm (pc := 17) C (Z' := YC90) (N := 4) (t := 2) hKX.2.1 kl_X5_18 ln_YC89 wf_YC89 dX5_init_17 (by decide) rfl (by decide) rfl rfl rfl (Nat.le_of_ble_eq_true rfl) (Nat.le_of_ble_eq_true rfl) fun a4 h3 =>
    aw_putRF (pc := 20) C (Z' := YC91) hin dX5_init_20 fpf_X5_20 rfl rfl (fun _ => rfl) (fun _ => rfl) rfl <|
    aw_aload_n (pc := 23) C (i := 0) dX5_init_23 rfl rfl <|
    aw_bipush (pc := 24) C (v := 24) dX5_init_24 rfl <|
    aw_newIm (pc := 26) C (Z' := YC92) (N := 24) ln_YC91 wf_YC91 dX5_init_26 (by decide) rfl (by decide) rfl rfl rfl (Nat.le_of_ble_eq_true rfl) (Nat.le_of_ble_eq_true rfl) fun a6 h5 =>
    aw_putRF (pc := 28) C (Z' := YC93) hin dX5_init_28 fpf_X5_24 rfl rfl (fun _ => rfl) (fun _ => rfl) rfl <|
    aw_aload_n (pc := 31) C (i := 0) dX5_init_31 rfl rfl <|
    aw_bipush (pc := 32) C (v := 24) dX5_init_32 rfl <|
    aw_newIm (pc := 34) C (Z' := YC94) (N := 24) ln_YC93 wf_YC93 dX5_init_34 (by decide) rfl (by decide) rfl rfl rfl (Nat.le_of_ble_eq_true rfl) (Nat.le_of_ble_eq_true rfl) fun a8 h7 =>
    aw_putRF (pc := 36) C (Z' := YC95) hin dX5_init_36 fpf_X5_28 rfl rfl (fun _ => rfl) (fun _ => rfl) rfl <|
    aw_aload_n (pc := 39) C (i := 0) dX5_init_39 rfl rfl <|
    aw_bipush (pc := 40) C (v := 24) dX5_init_40 rfl <|
    aw_newIm (pc := 42) C (Z' := YC96) (N := 24) ln_YC95 wf_YC95 dX5_init_42 (by decide) rfl (by decide) rfl rfl rfl (Nat.le_of_ble_eq_true rfl) (Nat.le_of_ble_eq_true rfl) fun a10 h9 =>
    aw_putRF (pc := 44) C (Z' := YC97) hin dX5_init_44 fpf_X5_31 rfl rfl (fun _ => rfl) (fun _ => rfl) rfl <|
    aw_aload_n (pc := 47) C (i := 0) dX5_init_47 rfl rfl <|
    aw_bipush (pc := 48) C (v := 24) dX5_init_48 rfl <|
    aw_newIm (pc := 50) C (Z' := YC98) (N := 24) ln_YC97 wf_YC97 dX5_init_50 (by decide) rfl (by decide) rfl rfl rfl (Nat.le_of_ble_eq_true rfl) (Nat.le_of_ble_eq_true rfl) fun a12 h11 =>
    aw_putRF (pc := 52) C (Z' := YC99) hin dX5_init_52 fpf_X5_34 rfl rfl (fun _ => rfl) (fun _ => rfl) rfl <|
    aw_iconst (pc := 55) C (v := 0) dX5_init_55 rfl <|
    aw_istore_n (pc := 56) C (i := 2) (lv' := [(0, .ref 62), (1, .ref 36), (2, .int 0)]) dX5_init_56 rfl (by decide) rfl <|
    aw_iload_n (pc := 57) C (i := 2) dX5_init_57 rfl rfl <|
    aw_iconst (pc := 58) C (v := 4) dX5_init_58 rfl <|
    aw_dec (aw_icmp_ge (pc := 59) C (tgt := 82) dX5_init_59 rfl (fun c => absurd c (by decide)) (fun _ =>
    aw_aload_n (pc := 62) C (i := 0) dX5_init_62 rfl rfl <|
    aw_getR (pc := 63) C (b := 63) dX5_init_63 fl_X5_20 rfl rfl rfl <|
    aw_iload_n (pc := 66) C (i := 2) dX5_init_66 rfl rfl <|
    aw_newm (pc := 67) C (Z' := YC100) (ci := 2) (N := 9) (T := TX2) (codes := rty 2) (.inl (0, 9, 2)) ln_YC99 wf_YC99 dX5_init_67 rfl wsin_X2 tyX2_ok kl_X5_18 ki_X2 kn_X2 (fun _ _ _ _ => rfl) n3_X2 df_X2 rfl rfl (Nat.le_of_ble_eq_true rfl) (Nat.le_of_ble_eq_true rfl) fun a14 h13 =>
    aw_dup (pc := 70) C dX5_init_70 rfl <|
    aw_aload_n (pc := 71) C (i := 1) dX5_init_71 rfl rfl <|
    aw_callC (pc := 72) C (Z' := YC101) (rm' := rmX2_init_i68) (F := X2_init_i68) (run_I (As := [.ref 36]) (rest := [.ref 68, .int 0, .ref 63]) (b := 68) C kx_m kx_b hKX (c_X2_init_i68 X.2.1) dX5_init_72 mf_X2_init mj_X5_37 im_X2_init rfl ⟨(Nat.le_of_ble_eq_true rfl), (Nat.le_of_ble_eq_true rfl)⟩ rfl rfl (Nat.le_of_ble_eq_true rfl) ⟨(Nat.le_of_ble_eq_true rfl), (Nat.le_of_ble_eq_true rfl)⟩) rfl rfl (fun ad16 h15 ha17 =>
    aw_aast (pc := 75) C (Z' := YC102) (E := "MarkToBoard$Jumper") dX5_init_75 rfl rfl rfl rfl (as_X2 hKX) (by decide) (by decide) rfl <|
    aw_iinc (pc := 76) C (i := 2) (lv' := [(0, .ref 62), (1, .ref 36), (2, .int 1)]) dX5_init_76 rfl (by decide) rfl <|
    aw_goto (pc := 79) C (tgt := 57) dX5_init_79 rfl <|
    aw_iload_n (pc := 57) C (i := 2) dX5_init_57 rfl rfl <|
    aw_iconst (pc := 58) C (v := 4) dX5_init_58 rfl <|
    aw_dec (aw_icmp_ge (pc := 59) C (tgt := 82) dX5_init_59 rfl (fun c => absurd c (by decide)) (fun _ =>
    aw_aload_n (pc := 62) C (i := 0) dX5_init_62 rfl rfl <|
    aw_getR (pc := 63) C (b := 63) dX5_init_63 fl_X5_20 rfl rfl rfl <|
    aw_iload_n (pc := 66) C (i := 2) dX5_init_66 rfl rfl <|
    aw_newm (pc := 67) C (Z' := YC103) (ci := 2) (N := 9) (T := TX2) (codes := rty 2) (.inl (0, 9, 2)) ln_YC102 wf_YC102 dX5_init_67 rfl wsin_X2 tyX2_ok kl_X5_18 ki_X2 kn_X2 (fun _ _ _ _ => rfl) n3_X2 df_X2 rfl rfl (Nat.le_of_ble_eq_true rfl) (Nat.le_of_ble_eq_true rfl) fun a19 h18 =>
    aw_dup (pc := 70) C dX5_init_70 rfl <|
    aw_aload_n (pc := 71) C (i := 1) dX5_init_71 rfl rfl <|
    aw_callC (pc := 72) C (Z' := YC104) (rm' := rmX2_init_i69) (F := X2_init_i69) (run_I (As := [.ref 36]) (rest := [.ref 69, .int 1, .ref 63]) (b := 69) C kx_m kx_b hKX (c_X2_init_i69 X.2.1) dX5_init_72 mf_X2_init mj_X5_37 im_X2_init rfl ⟨(Nat.le_of_ble_eq_true rfl), (Nat.le_of_ble_eq_true rfl)⟩ rfl rfl (Nat.le_of_ble_eq_true rfl) ⟨(Nat.le_of_ble_eq_true rfl), (Nat.le_of_ble_eq_true rfl)⟩) rfl rfl (fun ad21 h20 ha22 =>
    aw_aast (pc := 75) C (Z' := YC105) (E := "MarkToBoard$Jumper") dX5_init_75 rfl rfl rfl rfl (as_X2 hKX) (by decide) (by decide) rfl <|
    aw_iinc (pc := 76) C (i := 2) (lv' := [(0, .ref 62), (1, .ref 36), (2, .int 2)]) dX5_init_76 rfl (by decide) rfl <|
    aw_goto (pc := 79) C (tgt := 57) dX5_init_79 rfl <|
    aw_iload_n (pc := 57) C (i := 2) dX5_init_57 rfl rfl <|
    aw_iconst (pc := 58) C (v := 4) dX5_init_58 rfl <|
    aw_dec (aw_icmp_ge (pc := 59) C (tgt := 82) dX5_init_59 rfl (fun c => absurd c (by decide)) (fun _ =>
    aw_aload_n (pc := 62) C (i := 0) dX5_init_62 rfl rfl <|
    aw_getR (pc := 63) C (b := 63) dX5_init_63 fl_X5_20 rfl rfl rfl <|
    aw_iload_n (pc := 66) C (i := 2) dX5_init_66 rfl rfl <|
    aw_newm (pc := 67) C (Z' := YC106) (ci := 2) (N := 9) (T := TX2) (codes := rty 2) (.inl (0, 9, 2)) ln_YC105 wf_YC105 dX5_init_67 rfl wsin_X2 tyX2_ok kl_X5_18 ki_X2 kn_X2 (fun _ _ _ _ => rfl) n3_X2 df_X2 rfl rfl (Nat.le_of_ble_eq_true rfl) (Nat.le_of_ble_eq_true rfl) fun a24 h23 =>
    aw_dup (pc := 70) C dX5_init_70 rfl <|
    aw_aload_n (pc := 71) C (i := 1) dX5_init_71 rfl rfl <|
    aw_callC (pc := 72) C (Z' := YC107) (rm' := rmX2_init_i70) (F := X2_init_i70) (run_I (As := [.ref 36]) (rest := [.ref 70, .int 2, .ref 63]) (b := 70) C kx_m kx_b hKX (c_X2_init_i70 X.2.1) dX5_init_72 mf_X2_init mj_X5_37 im_X2_init rfl ⟨(Nat.le_of_ble_eq_true rfl), (Nat.le_of_ble_eq_true rfl)⟩ rfl rfl (Nat.le_of_ble_eq_true rfl) ⟨(Nat.le_of_ble_eq_true rfl), (Nat.le_of_ble_eq_true rfl)⟩) rfl rfl (fun ad26 h25 ha27 =>
    aw_aast (pc := 75) C (Z' := YC108) (E := "MarkToBoard$Jumper") dX5_init_75 rfl rfl rfl rfl (as_X2 hKX) (by decide) (by decide) rfl <|
    aw_iinc (pc := 76) C (i := 2) (lv' := [(0, .ref 62), (1, .ref 36), (2, .int 3)]) dX5_init_76 rfl (by decide) rfl <|
    aw_goto (pc := 79) C (tgt := 57) dX5_init_79 rfl <|
    aw_iload_n (pc := 57) C (i := 2) dX5_init_57 rfl rfl <|
    aw_iconst (pc := 58) C (v := 4) dX5_init_58 rfl <|
    aw_dec (aw_icmp_ge (pc := 59) C (tgt := 82) dX5_init_59 rfl (fun c => absurd c (by decide)) (fun _ =>
    aw_aload_n (pc := 62) C (i := 0) dX5_init_62 rfl rfl <|
    aw_getR (pc := 63) C (b := 63) dX5_init_63 fl_X5_20 rfl rfl rfl <|
    aw_iload_n (pc := 66) C (i := 2) dX5_init_66 rfl rfl <|
    aw_newm (pc := 67) C (Z' := YC109) (ci := 2) (N := 9) (T := TX2) (codes := rty 2) (.inl (0, 9, 2)) ln_YC108 wf_YC108 dX5_init_67 rfl wsin_X2 tyX2_ok kl_X5_18 ki_X2 kn_X2 (fun _ _ _ _ => rfl) n3_X2 df_X2 rfl rfl (Nat.le_of_ble_eq_true rfl) (Nat.le_of_ble_eq_true rfl) fun a29 h28 =>
    aw_dup (pc := 70) C dX5_init_70 rfl <|
    aw_aload_n (pc := 71) C (i := 1) dX5_init_71 rfl rfl <|
    aw_callC (pc := 72) C (Z' := YC110) (rm' := rmX2_init_i71) (F := X2_init_i71) (run_I (As := [.ref 36]) (rest := [.ref 71, .int 3, .ref 63]) (b := 71) C kx_m kx_b hKX (c_X2_init_i71 X.2.1) dX5_init_72 mf_X2_init mj_X5_37 im_X2_init rfl ⟨(Nat.le_of_ble_eq_true rfl), (Nat.le_of_ble_eq_true rfl)⟩ rfl rfl (Nat.le_of_ble_eq_true rfl) ⟨(Nat.le_of_ble_eq_true rfl), (Nat.le_of_ble_eq_true rfl)⟩) rfl rfl (fun ad31 h30 ha32 =>
    aw_aast (pc := 75) C (Z' := YC111) (E := "MarkToBoard$Jumper") dX5_init_75 rfl rfl rfl rfl (as_X2 hKX) (by decide) (by decide) rfl <|
    aw_iinc (pc := 76) C (i := 2) (lv' := [(0, .ref 62), (1, .ref 36), (2, .int 4)]) dX5_init_76 rfl (by decide) rfl <|
    aw_goto (pc := 79) C (tgt := 57) dX5_init_79 rfl <|
    aw_iload_n (pc := 57) C (i := 2) dX5_init_57 rfl rfl <|
    aw_iconst (pc := 58) C (v := 4) dX5_init_58 rfl <|
    aw_dec (aw_icmp_ge (pc := 59) C (tgt := 82) dX5_init_59 rfl (fun _ =>
    aw_vretN (pc := 82) C (Agr.call (n := 72) (Agr.new (n := 71) (Agr.call (n := 71) (Agr.new (n := 70) (Agr.call (n := 70) (Agr.new (n := 69) (Agr.call (n := 69) (Agr.new (n := 68) (Agr.new (n := 67) (Agr.new (n := 66) (Agr.new (n := 65) (Agr.new (n := 64) (Agr.new (n := 63) (Agr.rf) (Nat.le_of_ble_eq_true rfl)) (Nat.le_of_ble_eq_true rfl)) (Nat.le_of_ble_eq_true rfl)) (Nat.le_of_ble_eq_true rfl)) (Nat.le_of_ble_eq_true rfl)) (Nat.le_of_ble_eq_true rfl)) (Nat.le_of_ble_eq_true rfl) (ha17)) (Nat.le_of_ble_eq_true rfl)) (Nat.le_of_ble_eq_true rfl) (ha22)) (Nat.le_of_ble_eq_true rfl)) (Nat.le_of_ble_eq_true rfl) (ha27)) (Nat.le_of_ble_eq_true rfl)) (Nat.le_of_ble_eq_true rfl) (ha32)) dX5_init_82 rfl rfl) (fun c => absurd (by decide) c))) rfl))) rfl))) rfl))) rfl))
abbrev rmX2_init_i72 : Room := { frames := 1, cells := 0, slots := 0, locals := 20 }
def X2_init_i72 (h : AH) : Option (Unit × AH) :=
    vl (sK h 72 0) fun h1 =>
    some ((), h1)
set_option maxRecDepth 100000 in
set_option maxHeartbeats 4000000 in
theorem c_X2_init_i72 (l : Launch) : MCN l yX2_init cX2_init 2 rmX2_init_i72 KX YC113 YC114 [.ref 72, .ref 36] X2_init_i72 :=
  MCN.of (own := RX2) (by decide +kernel) rfl rfl (Nat.le_of_ble_eq_true rfl) fun X yd A h C hKX hin =>
    aw_aload_n (pc := 0) C (i := 0) dX2_init_0 rfl rfl <|
    aw_objInit (pc := 1) C dX2_init_1 mo_X2_1 w_oi w_oc ⟨(Nat.le_of_ble_eq_true rfl), (Nat.le_of_ble_eq_true rfl)⟩ <|
    aw_aload_n (pc := 4) C (i := 0) dX2_init_4 rfl rfl <|
    aw_aload_n (pc := 5) C (i := 1) dX2_init_5 rfl rfl <|
    aw_putW0 (pc := 6) C (Z' := YC114) (v := 0) dX2_init_6 fp_X2_7 rfl rfl rfl fun h1 =>
    aw_vretN (pc := 9) C (Agr.rf) dX2_init_9 rfl rfl
abbrev rmX10_init_i0 : Room := { frames := 5, cells := 72, slots := 4479, locals := 100 }
def X10_init_i0 (h : AH) : Option (Unit × AH) :=
    vl (zN h 1) fun h1 =>
    vl (zN h1 2) fun h3 =>
    vl (zN h3 3) fun h5 =>
    vl (zN h5 4) fun h7 =>
    vl (zN h7 5) fun h9 =>
    bd (X6_init_i5 h9) fun _ h11 =>
    vl (zN h11 8) fun h14 =>
    bd (X1_init_i8 h14) fun _ h16 =>
    vl (zN h16 32) fun h19 =>
    vl (zN h19 33) fun h21 =>
    vl (zN h21 34) fun h23 =>
    vl (zN h23 35) fun h25 =>
    vl (zN h25 36) fun h27 =>
    bd (X3_init_i36 h27) fun _ h29 =>
    vl (zN h29 37) fun h32 =>
    bd (X7_init_i37 h32) fun _ h34 =>
    vl (zN h34 38) fun h37 =>
    bd (X0_init_i38 h37) fun _ h39 =>
    vl (zN h39 39) fun h42 =>
    bd (X4_init_i39 h42) fun _ h44 =>
    vl (zN h44 40) fun h47 =>
    bd (X9_init_i40 h47) fun _ h49 =>
    vl (zN h49 41) fun h52 =>
    bd (X8_init_i41 h52) fun _ h54 =>
    vl (zN h54 42) fun h57 =>
    bd (X5_init_i42 h57) fun _ h59 =>
    vl (zN h59 52) fun h62 =>
    bd (X5_init_i52 h62) fun _ h64 =>
    vl (zN h64 62) fun h67 =>
    bd (X5_init_i62 h67) fun _ h69 =>
    vl (zN h69 72) fun h72 =>
    bd (X2_init_i72 h72) fun _ h74 =>
    some ((), h74)
set_option maxRecDepth 100000 in
set_option maxHeartbeats 4000000 in
theorem c_X10_init_i0 (l : Launch) : MCN l yX10_init cX10_init 2 rmX10_init_i0 KX YC0 YC115 [.ref 0] X10_init_i0 :=
  MCN.of (own := RX10) (by decide +kernel) rfl rfl (Nat.le_of_ble_eq_true rfl) fun X yd A h C hKX hin =>
    aw_aload_n (pc := 0) C (i := 0) dX10_init_0 rfl rfl <|
    aw_objInit (pc := 1) C dX10_init_1 mo_X10_1 w_oi w_oc ⟨(Nat.le_of_ble_eq_true rfl), (Nat.le_of_ble_eq_true rfl)⟩ <|
    aw_aload_n (pc := 4) C (i := 0) dX10_init_4 rfl rfl <|
    aw_bipush (pc := 5) C (v := 6) dX10_init_5 rfl <|
    aw_newqm (pc := 7) C (Z' := YC1) (N := 6) (t := 3) hKX.1 kl_X10_9 ln_YC0 wf_YC0 dX10_init_7 (by decide) rfl (by decide) rfl rfl rfl (Nat.le_of_ble_eq_true rfl) (Nat.le_of_ble_eq_true rfl) fun a2 h1 =>
    aw_putRF (pc := 10) C (Z' := YC2) hin dX10_init_10 fpf_X10_11 rfl rfl (fun _ => rfl) (fun _ => rfl) rfl <|
    aw_aload_n (pc := 13) C (i := 0) dX10_init_13 rfl rfl <|
    aw_bipush (pc := 14) C (v := 96) dX10_init_14 rfl <|
    aw_newIm (pc := 16) C (Z' := YC3) (N := 96) ln_YC2 wf_YC2 dX10_init_16 (by decide) rfl (by decide) rfl rfl rfl (Nat.le_of_ble_eq_true rfl) (Nat.le_of_ble_eq_true rfl) fun a4 h3 =>
    aw_putRF (pc := 18) C (Z' := YC4) hin dX10_init_18 fpf_X10_15 rfl rfl (fun _ => rfl) (fun _ => rfl) rfl <|
    aw_aload_n (pc := 21) C (i := 0) dX10_init_21 rfl rfl <|
    aw_bipush (pc := 22) C (v := 12) dX10_init_22 rfl <|
    aw_newIm (pc := 24) C (Z' := YC5) (N := 12) ln_YC4 wf_YC4 dX10_init_24 (by decide) rfl (by decide) rfl rfl rfl (Nat.le_of_ble_eq_true rfl) (Nat.le_of_ble_eq_true rfl) fun a6 h5 =>
    aw_putRF (pc := 26) C (Z' := YC6) hin dX10_init_26 fpf_X10_19 rfl rfl (fun _ => rfl) (fun _ => rfl) rfl <|
    aw_aload_n (pc := 29) C (i := 0) dX10_init_29 rfl rfl <|
    aw_bipush (pc := 30) C (v := 7) dX10_init_30 rfl <|
    aw_newIm (pc := 32) C (Z' := YC7) (N := 7) ln_YC6 wf_YC6 dX10_init_32 (by decide) rfl (by decide) rfl rfl rfl (Nat.le_of_ble_eq_true rfl) (Nat.le_of_ble_eq_true rfl) fun a8 h7 =>
    aw_putRF (pc := 34) C (Z' := YC8) hin dX10_init_34 fpf_X10_22 rfl rfl (fun _ => rfl) (fun _ => rfl) rfl <|
    aw_aload_n (pc := 37) C (i := 0) dX10_init_37 rfl rfl <|
    aw_newm (pc := 38) C (Z' := YC9) (ci := 6) (N := 3) (T := TX6) (codes := fty 6) (.inr 6) ln_YC8 wf_YC8 dX10_init_38 rfl wsin_X6 tyX6_ok kl_X10_25 ki_X6 kn_X6 (fun _ _ _ _ => rfl) n3_X6 df_X6 rfl rfl (Nat.le_of_ble_eq_true rfl) (Nat.le_of_ble_eq_true rfl) fun a10 h9 =>
    aw_dup (pc := 41) C dX10_init_41 rfl <|
    aw_callC (pc := 42) C (Z' := YC13) (rm' := rmX6_init_i5) (F := X6_init_i5) (run_IN (host := "MarkToBoard") (As := []) (rest := [.ref 5, .ref 0]) (b := 5) C kx_m kx_b hKX (c_X6_init_i5 X.2.1) dX10_init_42 mf_X6_init (hKX.2.2.2.1 (RX10, 27, yX6_init, "MarkToBoard") kx_X10_27) im_X6_init rfl ⟨(Nat.le_of_ble_eq_true rfl), (Nat.le_of_ble_eq_true rfl)⟩ rfl rfl (Nat.le_of_ble_eq_true rfl) ⟨(Nat.le_of_ble_eq_true rfl), (Nat.le_of_ble_eq_true rfl)⟩) rfl rfl (fun ad12 h11 ha13 =>
    aw_putRF (pc := 45) C (Z' := YC14) hin dX10_init_45 fpf_X10_28 rfl rfl (fun _ => rfl) (fun _ => rfl) rfl <|
    aw_aload_n (pc := 48) C (i := 0) dX10_init_48 rfl rfl <|
    aw_newm (pc := 49) C (Z' := YC15) (ci := 1) (N := 5) (T := TX1) (codes := fty 1) (.inr 1) ln_YC14 wf_YC14 dX10_init_49 rfl wsin_X1 tyX1_ok kl_X10_32 ki_X1 kn_X1 (fun _ _ _ _ => rfl) n3_X1 df_X1 rfl rfl (Nat.le_of_ble_eq_true rfl) (Nat.le_of_ble_eq_true rfl) fun a15 h14 =>
    aw_dup (pc := 52) C dX10_init_52 rfl <|
    aw_callC (pc := 53) C (Z' := YC19) (rm' := rmX1_init_i8) (F := X1_init_i8) (run_I (As := []) (rest := [.ref 8, .ref 0]) (b := 8) C kx_m kx_b hKX (c_X1_init_i8 X.2.1) dX10_init_53 mf_X1_init mj_X10_34 im_X1_init rfl ⟨(Nat.le_of_ble_eq_true rfl), (Nat.le_of_ble_eq_true rfl)⟩ rfl rfl (Nat.le_of_ble_eq_true rfl) ⟨(Nat.le_of_ble_eq_true rfl), (Nat.le_of_ble_eq_true rfl)⟩) rfl rfl (fun ad17 h16 ha18 =>
    aw_putRF (pc := 56) C (Z' := YC20) hin dX10_init_56 fpf_X10_35 rfl rfl (fun _ => rfl) (fun _ => rfl) rfl <|
    aw_aload_n (pc := 59) C (i := 0) dX10_init_59 rfl rfl <|
    aw_sipush (pc := 60) C (v := 1000) dX10_init_60 rfl <|
    aw_newIm (pc := 63) C (Z' := YC21) (N := 1000) ln_YC20 wf_YC20 dX10_init_63 (by decide) rfl (by decide) rfl rfl rfl (Nat.le_of_ble_eq_true rfl) (Nat.le_of_ble_eq_true rfl) fun a20 h19 =>
    aw_putRF (pc := 65) C (Z' := YC22) hin dX10_init_65 fpf_X10_39 rfl rfl (fun _ => rfl) (fun _ => rfl) rfl <|
    aw_aload_n (pc := 68) C (i := 0) dX10_init_68 rfl rfl <|
    aw_sipush (pc := 69) C (v := 1000) dX10_init_69 rfl <|
    aw_newIm (pc := 72) C (Z' := YC23) (N := 1000) ln_YC22 wf_YC22 dX10_init_72 (by decide) rfl (by decide) rfl rfl rfl (Nat.le_of_ble_eq_true rfl) (Nat.le_of_ble_eq_true rfl) fun a22 h21 =>
    aw_putRF (pc := 74) C (Z' := YC24) hin dX10_init_74 fpf_X10_42 rfl rfl (fun _ => rfl) (fun _ => rfl) rfl <|
    aw_aload_n (pc := 77) C (i := 0) dX10_init_77 rfl rfl <|
    aw_bipush (pc := 78) C (v := 9) dX10_init_78 rfl <|
    aw_newIm (pc := 80) C (Z' := YC25) (N := 9) ln_YC24 wf_YC24 dX10_init_80 (by decide) rfl (by decide) rfl rfl rfl (Nat.le_of_ble_eq_true rfl) (Nat.le_of_ble_eq_true rfl) fun a24 h23 =>
    aw_putRF (pc := 82) C (Z' := YC26) hin dX10_init_82 fpf_X10_45 rfl rfl (fun _ => rfl) (fun _ => rfl) rfl <|
    aw_aload_n (pc := 85) C (i := 0) dX10_init_85 rfl rfl <|
    aw_iconst (pc := 86) C (v := 4) dX10_init_86 rfl <|
    aw_newIm (pc := 87) C (Z' := YC27) (N := 4) ln_YC26 wf_YC26 dX10_init_87 (by decide) rfl (by decide) rfl rfl rfl (Nat.le_of_ble_eq_true rfl) (Nat.le_of_ble_eq_true rfl) fun a26 h25 =>
    aw_putRF (pc := 89) C (Z' := YC28) hin dX10_init_89 fpf_X10_48 rfl rfl (fun _ => rfl) (fun _ => rfl) rfl <|
    aw_newm (pc := 92) C (Z' := YC29) (ci := 3) (N := 0) (T := TX3) (codes := fty 3) (.inr 3) ln_YC28 wf_YC28 dX10_init_92 rfl wsin_X3 tyX3_ok kl_X10_9 ki_X3 kn_X3 (fun _ _ _ _ => rfl) n3_X3 df_X3 rfl rfl (Nat.le_of_ble_eq_true rfl) (Nat.le_of_ble_eq_true rfl) fun a28 h27 =>
    aw_dup (pc := 95) C dX10_init_95 rfl <|
    aw_callC (pc := 96) C (Z' := YC29) (rm' := rmX3_init_i36) (F := X3_init_i36) (run_IN (host := "MarkToBoard") (As := []) (rest := [.ref 36]) (b := 36) C kx_m kx_b hKX (c_X3_init_i36 X.2.1) dX10_init_96 mf_X3_init (hKX.2.2.2.1 (RX10, 51, yX3_init, "MarkToBoard") kx_X10_51) im_X3_init rfl ⟨(Nat.le_of_ble_eq_true rfl), (Nat.le_of_ble_eq_true rfl)⟩ rfl rfl (Nat.le_of_ble_eq_true rfl) ⟨(Nat.le_of_ble_eq_true rfl), (Nat.le_of_ble_eq_true rfl)⟩) rfl rfl (fun ad30 h29 ha31 =>
    aw_astore_n (pc := 99) C (i := 1) (lv' := [(0, .ref 0), (1, .ref 36)]) dX10_init_99 rfl (by decide) rfl <|
    aw_aload_n (pc := 100) C (i := 0) dX10_init_100 rfl rfl <|
    aw_getR (pc := 101) C (b := 1) dX10_init_101 fl_X10_11 rfl rfl rfl <|
    aw_iconst (pc := 104) C (v := 0) dX10_init_104 rfl <|
    aw_aload_n (pc := 105) C (i := 1) dX10_init_105 rfl rfl <|
    aw_aast (pc := 106) C (Z' := YC30) (E := "MarkToBoard$Kind") dX10_init_106 rfl rfl rfl rfl (as_X3 hKX) (by decide) (by decide) rfl <|
    aw_aload_n (pc := 107) C (i := 0) dX10_init_107 rfl rfl <|
    aw_getR (pc := 108) C (b := 1) dX10_init_108 fl_X10_11 rfl rfl rfl <|
    aw_iconst (pc := 111) C (v := 1) dX10_init_111 rfl <|
    aw_newm (pc := 112) C (Z' := YC31) (ci := 7) (N := 0) (T := TX7) (codes := fty 7) (.inr 7) ln_YC30 wf_YC30 dX10_init_112 rfl wsin_X7 tyX7_ok kl_X10_52 ki_X7 kn_X7 (fun _ _ _ _ => rfl) n3_X7 df_X7 rfl rfl (Nat.le_of_ble_eq_true rfl) (Nat.le_of_ble_eq_true rfl) fun a33 h32 =>
    aw_dup (pc := 115) C dX10_init_115 rfl <|
    aw_callC (pc := 116) C (Z' := YC31) (rm' := rmX7_init_i37) (F := X7_init_i37) (run_IN (host := "MarkToBoard") (As := []) (rest := [.ref 37, .int 1, .ref 1]) (b := 37) C kx_m kx_b hKX (c_X7_init_i37 X.2.1) dX10_init_116 mf_X7_init (hKX.2.2.2.1 (RX10, 54, yX7_init, "MarkToBoard") kx_X10_54) im_X7_init rfl ⟨(Nat.le_of_ble_eq_true rfl), (Nat.le_of_ble_eq_true rfl)⟩ rfl rfl (Nat.le_of_ble_eq_true rfl) ⟨(Nat.le_of_ble_eq_true rfl), (Nat.le_of_ble_eq_true rfl)⟩) rfl rfl (fun ad35 h34 ha36 =>
    aw_aast (pc := 119) C (Z' := YC32) (E := "MarkToBoard$Kind") dX10_init_119 rfl rfl rfl rfl (as_X7 hKX) (by decide) (by decide) rfl <|
    aw_aload_n (pc := 120) C (i := 0) dX10_init_120 rfl rfl <|
    aw_getR (pc := 121) C (b := 1) dX10_init_121 fl_X10_11 rfl rfl rfl <|
    aw_iconst (pc := 124) C (v := 2) dX10_init_124 rfl <|
    aw_newm (pc := 125) C (Z' := YC33) (ci := 0) (N := 0) (T := TX0) (codes := fty 0) (.inr 0) ln_YC32 wf_YC32 dX10_init_125 rfl wsin_X0 tyX0_ok kl_X10_55 ki_X0 kn_X0 (fun _ _ _ _ => rfl) n3_X0 df_X0 rfl rfl (Nat.le_of_ble_eq_true rfl) (Nat.le_of_ble_eq_true rfl) fun a38 h37 =>
    aw_dup (pc := 128) C dX10_init_128 rfl <|
    aw_callC (pc := 129) C (Z' := YC33) (rm' := rmX0_init_i38) (F := X0_init_i38) (run_IN (host := "MarkToBoard") (As := []) (rest := [.ref 38, .int 2, .ref 1]) (b := 38) C kx_m kx_b hKX (c_X0_init_i38 X.2.1) dX10_init_129 mf_X0_init (hKX.2.2.2.1 (RX10, 57, yX0_init, "MarkToBoard") kx_X10_57) im_X0_init rfl ⟨(Nat.le_of_ble_eq_true rfl), (Nat.le_of_ble_eq_true rfl)⟩ rfl rfl (Nat.le_of_ble_eq_true rfl) ⟨(Nat.le_of_ble_eq_true rfl), (Nat.le_of_ble_eq_true rfl)⟩) rfl rfl (fun ad40 h39 ha41 =>
    aw_aast (pc := 132) C (Z' := YC34) (E := "MarkToBoard$Kind") dX10_init_132 rfl rfl rfl rfl (as_X0 hKX) (by decide) (by decide) rfl <|
    aw_aload_n (pc := 133) C (i := 0) dX10_init_133 rfl rfl <|
    aw_getR (pc := 134) C (b := 1) dX10_init_134 fl_X10_11 rfl rfl rfl <|
    aw_iconst (pc := 137) C (v := 3) dX10_init_137 rfl <|
    aw_newm (pc := 138) C (Z' := YC35) (ci := 4) (N := 0) (T := TX4) (codes := fty 4) (.inr 4) ln_YC34 wf_YC34 dX10_init_138 rfl wsin_X4 tyX4_ok kl_X10_58 ki_X4 kn_X4 (fun _ _ _ _ => rfl) n3_X4 df_X4 rfl rfl (Nat.le_of_ble_eq_true rfl) (Nat.le_of_ble_eq_true rfl) fun a43 h42 =>
    aw_dup (pc := 141) C dX10_init_141 rfl <|
    aw_callC (pc := 142) C (Z' := YC35) (rm' := rmX4_init_i39) (F := X4_init_i39) (run_IN (host := "MarkToBoard") (As := []) (rest := [.ref 39, .int 3, .ref 1]) (b := 39) C kx_m kx_b hKX (c_X4_init_i39 X.2.1) dX10_init_142 mf_X4_init (hKX.2.2.2.1 (RX10, 60, yX4_init, "MarkToBoard") kx_X10_60) im_X4_init rfl ⟨(Nat.le_of_ble_eq_true rfl), (Nat.le_of_ble_eq_true rfl)⟩ rfl rfl (Nat.le_of_ble_eq_true rfl) ⟨(Nat.le_of_ble_eq_true rfl), (Nat.le_of_ble_eq_true rfl)⟩) rfl rfl (fun ad45 h44 ha46 =>
    aw_aast (pc := 145) C (Z' := YC36) (E := "MarkToBoard$Kind") dX10_init_145 rfl rfl rfl rfl (as_X4 hKX) (by decide) (by decide) rfl <|
    aw_aload_n (pc := 146) C (i := 0) dX10_init_146 rfl rfl <|
    aw_getR (pc := 147) C (b := 1) dX10_init_147 fl_X10_11 rfl rfl rfl <|
    aw_iconst (pc := 150) C (v := 4) dX10_init_150 rfl <|
    aw_newm (pc := 151) C (Z' := YC37) (ci := 9) (N := 0) (T := TX9) (codes := fty 9) (.inr 9) ln_YC36 wf_YC36 dX10_init_151 rfl wsin_X9 tyX9_ok kl_X10_61 ki_X9 kn_X9 (fun _ _ _ _ => rfl) n3_X9 df_X9 rfl rfl (Nat.le_of_ble_eq_true rfl) (Nat.le_of_ble_eq_true rfl) fun a48 h47 =>
    aw_dup (pc := 154) C dX10_init_154 rfl <|
    aw_callC (pc := 155) C (Z' := YC37) (rm' := rmX9_init_i40) (F := X9_init_i40) (run_IN (host := "MarkToBoard") (As := []) (rest := [.ref 40, .int 4, .ref 1]) (b := 40) C kx_m kx_b hKX (c_X9_init_i40 X.2.1) dX10_init_155 mf_X9_init (hKX.2.2.2.1 (RX10, 63, yX9_init, "MarkToBoard") kx_X10_63) im_X9_init rfl ⟨(Nat.le_of_ble_eq_true rfl), (Nat.le_of_ble_eq_true rfl)⟩ rfl rfl (Nat.le_of_ble_eq_true rfl) ⟨(Nat.le_of_ble_eq_true rfl), (Nat.le_of_ble_eq_true rfl)⟩) rfl rfl (fun ad50 h49 ha51 =>
    aw_aast (pc := 158) C (Z' := YC38) (E := "MarkToBoard$Kind") dX10_init_158 rfl rfl rfl rfl (as_X9 hKX) (by decide) (by decide) rfl <|
    aw_aload_n (pc := 159) C (i := 0) dX10_init_159 rfl rfl <|
    aw_getR (pc := 160) C (b := 1) dX10_init_160 fl_X10_11 rfl rfl rfl <|
    aw_iconst (pc := 163) C (v := 5) dX10_init_163 rfl <|
    aw_newm (pc := 164) C (Z' := YC39) (ci := 8) (N := 0) (T := TX8) (codes := fty 8) (.inr 8) ln_YC38 wf_YC38 dX10_init_164 rfl wsin_X8 tyX8_ok kl_X10_64 ki_X8 kn_X8 (fun _ _ _ _ => rfl) n3_X8 df_X8 rfl rfl (Nat.le_of_ble_eq_true rfl) (Nat.le_of_ble_eq_true rfl) fun a53 h52 =>
    aw_dup (pc := 167) C dX10_init_167 rfl <|
    aw_callC (pc := 168) C (Z' := YC39) (rm' := rmX8_init_i41) (F := X8_init_i41) (run_IN (host := "MarkToBoard") (As := []) (rest := [.ref 41, .int 5, .ref 1]) (b := 41) C kx_m kx_b hKX (c_X8_init_i41 X.2.1) dX10_init_168 mf_X8_init (hKX.2.2.2.1 (RX10, 66, yX8_init, "MarkToBoard") kx_X10_66) im_X8_init rfl ⟨(Nat.le_of_ble_eq_true rfl), (Nat.le_of_ble_eq_true rfl)⟩ rfl rfl (Nat.le_of_ble_eq_true rfl) ⟨(Nat.le_of_ble_eq_true rfl), (Nat.le_of_ble_eq_true rfl)⟩) rfl rfl (fun ad55 h54 ha56 =>
    aw_aast (pc := 171) C (Z' := YC40) (E := "MarkToBoard$Kind") dX10_init_171 rfl rfl rfl rfl (as_X8 hKX) (by decide) (by decide) rfl <|
    aw_aload_n (pc := 172) C (i := 0) dX10_init_172 rfl rfl <|
    aw_newm (pc := 173) C (Z' := YC41) (ci := 5) (N := 10) (T := TX5) (codes := fty 5) (.inr 5) ln_YC40 wf_YC40 dX10_init_173 rfl wsin_X5 tyX5_ok kl_X10_67 ki_X5 kn_X5 (fun _ _ _ _ => rfl) n3_X5 df_X5 rfl rfl (Nat.le_of_ble_eq_true rfl) (Nat.le_of_ble_eq_true rfl) fun a58 h57 =>
    aw_dup (pc := 176) C dX10_init_176 rfl <|
    aw_aload_n (pc := 177) C (i := 1) dX10_init_177 rfl rfl <|
    aw_callC (pc := 178) C (Z' := YC63) (rm' := rmX5_init_i42) (F := X5_init_i42) (run_I (As := [.ref 36]) (rest := [.ref 42, .ref 0]) (b := 42) C kx_m kx_b hKX (c_X5_init_i42 X.2.1) dX10_init_178 mf_X5_init mj_X10_69 im_X5_init rfl ⟨(Nat.le_of_ble_eq_true rfl), (Nat.le_of_ble_eq_true rfl)⟩ rfl rfl (Nat.le_of_ble_eq_true rfl) ⟨(Nat.le_of_ble_eq_true rfl), (Nat.le_of_ble_eq_true rfl)⟩) rfl rfl (fun ad60 h59 ha61 =>
    aw_putRF (pc := 181) C (Z' := YC64) hin dX10_init_181 fpf_X10_72 rfl rfl (fun _ => rfl) (fun _ => rfl) rfl <|
    aw_aload_n (pc := 184) C (i := 0) dX10_init_184 rfl rfl <|
    aw_newm (pc := 185) C (Z' := YC65) (ci := 5) (N := 10) (T := TX5) (codes := fty 5) (.inr 5) ln_YC64 wf_YC64 dX10_init_185 rfl wsin_X5 tyX5_ok kl_X10_67 ki_X5 kn_X5 (fun _ _ _ _ => rfl) n3_X5 df_X5 rfl rfl (Nat.le_of_ble_eq_true rfl) (Nat.le_of_ble_eq_true rfl) fun a63 h62 =>
    aw_dup (pc := 188) C dX10_init_188 rfl <|
    aw_aload_n (pc := 189) C (i := 1) dX10_init_189 rfl rfl <|
    aw_callC (pc := 190) C (Z' := YC87) (rm' := rmX5_init_i52) (F := X5_init_i52) (run_I (As := [.ref 36]) (rest := [.ref 52, .ref 0]) (b := 52) C kx_m kx_b hKX (c_X5_init_i52 X.2.1) dX10_init_190 mf_X5_init mj_X10_69 im_X5_init rfl ⟨(Nat.le_of_ble_eq_true rfl), (Nat.le_of_ble_eq_true rfl)⟩ rfl rfl (Nat.le_of_ble_eq_true rfl) ⟨(Nat.le_of_ble_eq_true rfl), (Nat.le_of_ble_eq_true rfl)⟩) rfl rfl (fun ad65 h64 ha66 =>
    aw_putRF (pc := 193) C (Z' := YC88) hin dX10_init_193 fpf_X10_76 rfl rfl (fun _ => rfl) (fun _ => rfl) rfl <|
    aw_aload_n (pc := 196) C (i := 0) dX10_init_196 rfl rfl <|
    aw_newm (pc := 197) C (Z' := YC89) (ci := 5) (N := 10) (T := TX5) (codes := fty 5) (.inr 5) ln_YC88 wf_YC88 dX10_init_197 rfl wsin_X5 tyX5_ok kl_X10_67 ki_X5 kn_X5 (fun _ _ _ _ => rfl) n3_X5 df_X5 rfl rfl (Nat.le_of_ble_eq_true rfl) (Nat.le_of_ble_eq_true rfl) fun a68 h67 =>
    aw_dup (pc := 200) C dX10_init_200 rfl <|
    aw_aload_n (pc := 201) C (i := 1) dX10_init_201 rfl rfl <|
    aw_callC (pc := 202) C (Z' := YC111) (rm' := rmX5_init_i62) (F := X5_init_i62) (run_I (As := [.ref 36]) (rest := [.ref 62, .ref 0]) (b := 62) C kx_m kx_b hKX (c_X5_init_i62 X.2.1) dX10_init_202 mf_X5_init mj_X10_69 im_X5_init rfl ⟨(Nat.le_of_ble_eq_true rfl), (Nat.le_of_ble_eq_true rfl)⟩ rfl rfl (Nat.le_of_ble_eq_true rfl) ⟨(Nat.le_of_ble_eq_true rfl), (Nat.le_of_ble_eq_true rfl)⟩) rfl rfl (fun ad70 h69 ha71 =>
    aw_putRF (pc := 205) C (Z' := YC112) hin dX10_init_205 fpf_X10_79 rfl rfl (fun _ => rfl) (fun _ => rfl) rfl <|
    aw_aload_n (pc := 208) C (i := 0) dX10_init_208 rfl rfl <|
    aw_newm (pc := 209) C (Z' := YC113) (ci := 2) (N := 9) (T := TX2) (codes := rty 2) (.inl (0, 9, 2)) ln_YC112 wf_YC112 dX10_init_209 rfl wsin_X2 tyX2_ok kl_X10_82 ki_X2 kn_X2 (fun _ _ _ _ => rfl) n3_X2 df_X2 rfl rfl (Nat.le_of_ble_eq_true rfl) (Nat.le_of_ble_eq_true rfl) fun a73 h72 =>
    aw_dup (pc := 212) C dX10_init_212 rfl <|
    aw_aload_n (pc := 213) C (i := 1) dX10_init_213 rfl rfl <|
    aw_callC (pc := 214) C (Z' := YC114) (rm' := rmX2_init_i72) (F := X2_init_i72) (run_I (As := [.ref 36]) (rest := [.ref 72, .ref 0]) (b := 72) C kx_m kx_b hKX (c_X2_init_i72 X.2.1) dX10_init_214 mf_X2_init mj_X10_84 im_X2_init rfl ⟨(Nat.le_of_ble_eq_true rfl), (Nat.le_of_ble_eq_true rfl)⟩ rfl rfl (Nat.le_of_ble_eq_true rfl) ⟨(Nat.le_of_ble_eq_true rfl), (Nat.le_of_ble_eq_true rfl)⟩) rfl rfl (fun ad75 h74 ha76 =>
    aw_putRF (pc := 217) C (Z' := YC115) hin dX10_init_217 fpf_X10_85 rfl rfl (fun _ => rfl) (fun _ => rfl) rfl <|
    aw_vretN (pc := 220) C (Agr.call (n := 73) (Agr.new (n := 72) (Agr.call (n := 63) (Agr.new (n := 62) (Agr.call (n := 53) (Agr.new (n := 52) (Agr.call (n := 43) (Agr.new (n := 42) (Agr.call (n := 42) (Agr.new (n := 41) (Agr.call (n := 41) (Agr.new (n := 40) (Agr.call (n := 40) (Agr.new (n := 39) (Agr.call (n := 39) (Agr.new (n := 38) (Agr.call (n := 38) (Agr.new (n := 37) (Agr.call (n := 37) (Agr.new (n := 36) (Agr.new (n := 35) (Agr.new (n := 34) (Agr.new (n := 33) (Agr.new (n := 32) (Agr.call (n := 9) (Agr.new (n := 8) (Agr.call (n := 6) (Agr.new (n := 5) (Agr.new (n := 4) (Agr.new (n := 3) (Agr.new (n := 2) (Agr.new (n := 1) (Agr.rf) (Nat.le_of_ble_eq_true rfl)) (Nat.le_of_ble_eq_true rfl)) (Nat.le_of_ble_eq_true rfl)) (Nat.le_of_ble_eq_true rfl)) (Nat.le_of_ble_eq_true rfl)) (Nat.le_of_ble_eq_true rfl) (ha13)) (Nat.le_of_ble_eq_true rfl)) (Nat.le_of_ble_eq_true rfl) (ha18)) (Nat.le_of_ble_eq_true rfl)) (Nat.le_of_ble_eq_true rfl)) (Nat.le_of_ble_eq_true rfl)) (Nat.le_of_ble_eq_true rfl)) (Nat.le_of_ble_eq_true rfl)) (Nat.le_of_ble_eq_true rfl) (ha31)) (Nat.le_of_ble_eq_true rfl)) (Nat.le_of_ble_eq_true rfl) (ha36)) (Nat.le_of_ble_eq_true rfl)) (Nat.le_of_ble_eq_true rfl) (ha41)) (Nat.le_of_ble_eq_true rfl)) (Nat.le_of_ble_eq_true rfl) (ha46)) (Nat.le_of_ble_eq_true rfl)) (Nat.le_of_ble_eq_true rfl) (ha51)) (Nat.le_of_ble_eq_true rfl)) (Nat.le_of_ble_eq_true rfl) (ha56)) (Nat.le_of_ble_eq_true rfl)) (Nat.le_of_ble_eq_true rfl) (ha61)) (Nat.le_of_ble_eq_true rfl)) (Nat.le_of_ble_eq_true rfl) (ha66)) (Nat.le_of_ble_eq_true rfl)) (Nat.le_of_ble_eq_true rfl) (ha71)) (Nat.le_of_ble_eq_true rfl)) (Nat.le_of_ble_eq_true rfl) (ha76)) dX10_init_220 rfl rfl) rfl) rfl) rfl) rfl) rfl) rfl) rfl) rfl) rfl) rfl) rfl) rfl
