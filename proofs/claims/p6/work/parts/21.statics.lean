/-! STATICS, by program: the objects of the class and of the reference by numbers, what their final references hold -/
def shC : List Shp := [.inr 10, .inl (3, 2, 6), .inl (0, 0, 96), .inl (0, 0, 12), .inl (0, 0, 7), .inr 6, .inl (0, 0, 4), .inl (0, 0, 4), .inr 1, .inl (4, 2, 21), .inl (1, 1, 41), .inl (1, 1, 41), .inl (1, 1, 41), .inl (1, 1, 41), .inl (1, 1, 41), .inl (1, 1, 41), .inl (1, 1, 41), .inl (1, 1, 41), .inl (1, 1, 41), .inl (1, 1, 41), .inl (1, 1, 41), .inl (1, 1, 41), .inl (1, 1, 41), .inl (1, 1, 41), .inl (1, 1, 41), .inl (1, 1, 41), .inl (1, 1, 41), .inl (1, 1, 41), .inl (1, 1, 41), .inl (1, 1, 41), .inl (1, 1, 41), .inl (1, 1, 1000), .inl (0, 0, 1000), .inl (0, 0, 1000), .inl (0, 0, 9), .inl (0, 0, 4), .inr 3, .inr 7, .inr 0, .inr 4, .inr 9, .inr 8, .inr 5, .inl (2, 2, 4), .inl (0, 0, 24), .inl (0, 0, 24), .inl (0, 0, 24), .inl (0, 0, 24), .inr 2, .inr 2, .inr 2, .inr 2, .inr 5, .inl (2, 2, 4), .inl (0, 0, 24), .inl (0, 0, 24), .inl (0, 0, 24), .inl (0, 0, 24), .inr 2, .inr 2, .inr 2, .inr 2, .inr 5, .inl (2, 2, 4), .inl (0, 0, 24), .inl (0, 0, 24), .inl (0, 0, 24), .inl (0, 0, 24), .inr 2, .inr 2, .inr 2, .inr 2, .inr 2]
def rfC (o k : Nat) : Option Nat := match o with
  | 0 => match k with
    | 0 => some 1
    | 1 => some 42
    | 2 => some 52
    | 3 => some 62
    | 5 => some 2
    | 7 => some 3
    | 9 => some 4
    | 10 => some 5
    | 11 => some 8
    | 12 => some 72
    | 13 => some 32
    | 14 => some 33
    | 15 => some 34
    | 16 => some 35
    | _ => none
  | 5 => match k with
    | 1 => some 6
    | 2 => some 7
    | _ => none
  | 8 => match k with
    | 0 => some 9
    | 1 => some 31
    | _ => none
  | 42 => match k with
    | 5 => some 43
    | 6 => some 44
    | 7 => some 45
    | 8 => some 46
    | 9 => some 47
    | _ => none
  | 52 => match k with
    | 5 => some 53
    | 6 => some 54
    | 7 => some 55
    | 8 => some 56
    | 9 => some 57
    | _ => none
  | 62 => match k with
    | 5 => some 63
    | 6 => some 64
    | 7 => some 65
    | 8 => some 66
    | 9 => some 67
    | _ => none
  | 1 => some (36 + k % 6)
  | 9 => some (10 + k % 21)
  | 43 => some (48 + k % 4)
  | 53 => some (58 + k % 4)
  | 63 => some (68 + k % 4)
  | _ => none
def tlC : List FieldType := [.int, .long, (.object "MarkToBoard$Jumper"), (.object "MarkToBoard$Kind"), (.array .long)]
def ZC : Stc := (shC, rfC, 36, tlC)
def shR : List Shp := [.inr 11, .inl (0, 0, 7), .inl (0, 0, 4), .inl (0, 0, 4), .inl (0, 0, 4), .inl (0, 0, 4), .inl (0, 0, 4), .inl (0, 0, 4), .inl (0, 0, 4), .inl (0, 0, 4), .inl (0, 0, 24), .inl (0, 0, 24), .inl (0, 0, 24), .inl (0, 0, 96), .inl (0, 0, 48), .inl (0, 0, 48), .inl (0, 0, 384), .inl (0, 0, 240), .inl (1, 1, 41), .inl (1, 1, 41), .inl (0, 0, 4), .inl (0, 0, 4), .inl (0, 0, 4), .inl (0, 0, 12), .inl (0, 0, 4), .inl (1, 1, 1000), .inl (1, 1, 1000), .inl (0, 0, 9), .inl (0, 0, 6)]
def rfR (o k : Nat) : Option Nat := match o with
  | 0 => match k with
    | 0 => some 1
    | 1 => some 2
    | 2 => some 3
    | 3 => some 4
    | 4 => some 5
    | 5 => some 6
    | 6 => some 7
    | 7 => some 8
    | 8 => some 9
    | 9 => some 10
    | 10 => some 11
    | 11 => some 12
    | 17 => some 13
    | 18 => some 14
    | 19 => some 15
    | 20 => some 16
    | 24 => some 17
    | 28 => some 18
    | 29 => some 19
    | 30 => some 20
    | 31 => some 21
    | 32 => some 22
    | 33 => some 23
    | 35 => some 24
    | 36 => some 25
    | 37 => some 26
    | 38 => some 27
    | 39 => some 28
    | _ => none
  | _ => none
def tlR : List FieldType := [.int, .long]
def ZR : Stc := (shR, rfR, 0, tlR)
theorem sC_0 : ZC.1[0]? = some (.inr 10) := rfl
theorem sC_1 : ZC.1[1]? = some (.inl (3, 2, 6)) := rfl
theorem sC_2 : ZC.1[2]? = some (.inl (0, 0, 96)) := rfl
theorem sC_3 : ZC.1[3]? = some (.inl (0, 0, 12)) := rfl
theorem sC_4 : ZC.1[4]? = some (.inl (0, 0, 7)) := rfl
theorem sC_5 : ZC.1[5]? = some (.inr 6) := rfl
theorem sC_6 : ZC.1[6]? = some (.inl (0, 0, 4)) := rfl
theorem sC_7 : ZC.1[7]? = some (.inl (0, 0, 4)) := rfl
theorem sC_8 : ZC.1[8]? = some (.inr 1) := rfl
theorem sC_9 : ZC.1[9]? = some (.inl (4, 2, 21)) := rfl
theorem sC_10 : ZC.1[10]? = some (.inl (1, 1, 41)) := rfl
theorem sC_11 : ZC.1[11]? = some (.inl (1, 1, 41)) := rfl
theorem sC_12 : ZC.1[12]? = some (.inl (1, 1, 41)) := rfl
theorem sC_13 : ZC.1[13]? = some (.inl (1, 1, 41)) := rfl
theorem sC_14 : ZC.1[14]? = some (.inl (1, 1, 41)) := rfl
theorem sC_15 : ZC.1[15]? = some (.inl (1, 1, 41)) := rfl
theorem sC_16 : ZC.1[16]? = some (.inl (1, 1, 41)) := rfl
theorem sC_17 : ZC.1[17]? = some (.inl (1, 1, 41)) := rfl
theorem sC_18 : ZC.1[18]? = some (.inl (1, 1, 41)) := rfl
theorem sC_19 : ZC.1[19]? = some (.inl (1, 1, 41)) := rfl
theorem sC_20 : ZC.1[20]? = some (.inl (1, 1, 41)) := rfl
theorem sC_21 : ZC.1[21]? = some (.inl (1, 1, 41)) := rfl
theorem sC_22 : ZC.1[22]? = some (.inl (1, 1, 41)) := rfl
theorem sC_23 : ZC.1[23]? = some (.inl (1, 1, 41)) := rfl
theorem sC_24 : ZC.1[24]? = some (.inl (1, 1, 41)) := rfl
theorem sC_25 : ZC.1[25]? = some (.inl (1, 1, 41)) := rfl
theorem sC_26 : ZC.1[26]? = some (.inl (1, 1, 41)) := rfl
theorem sC_27 : ZC.1[27]? = some (.inl (1, 1, 41)) := rfl
theorem sC_28 : ZC.1[28]? = some (.inl (1, 1, 41)) := rfl
theorem sC_29 : ZC.1[29]? = some (.inl (1, 1, 41)) := rfl
theorem sC_30 : ZC.1[30]? = some (.inl (1, 1, 41)) := rfl
theorem sC_31 : ZC.1[31]? = some (.inl (1, 1, 1000)) := rfl
theorem sC_32 : ZC.1[32]? = some (.inl (0, 0, 1000)) := rfl
theorem sC_33 : ZC.1[33]? = some (.inl (0, 0, 1000)) := rfl
theorem sC_34 : ZC.1[34]? = some (.inl (0, 0, 9)) := rfl
theorem sC_35 : ZC.1[35]? = some (.inl (0, 0, 4)) := rfl
theorem sC_36 : ZC.1[36]? = some (.inr 3) := rfl
theorem sC_37 : ZC.1[37]? = some (.inr 7) := rfl
theorem sC_38 : ZC.1[38]? = some (.inr 0) := rfl
theorem sC_39 : ZC.1[39]? = some (.inr 4) := rfl
theorem sC_40 : ZC.1[40]? = some (.inr 9) := rfl
theorem sC_41 : ZC.1[41]? = some (.inr 8) := rfl
theorem sC_42 : ZC.1[42]? = some (.inr 5) := rfl
theorem sC_43 : ZC.1[43]? = some (.inl (2, 2, 4)) := rfl
theorem sC_44 : ZC.1[44]? = some (.inl (0, 0, 24)) := rfl
theorem sC_45 : ZC.1[45]? = some (.inl (0, 0, 24)) := rfl
theorem sC_46 : ZC.1[46]? = some (.inl (0, 0, 24)) := rfl
theorem sC_47 : ZC.1[47]? = some (.inl (0, 0, 24)) := rfl
theorem sC_48 : ZC.1[48]? = some (.inr 2) := rfl
theorem sC_49 : ZC.1[49]? = some (.inr 2) := rfl
theorem sC_50 : ZC.1[50]? = some (.inr 2) := rfl
theorem sC_51 : ZC.1[51]? = some (.inr 2) := rfl
theorem sC_52 : ZC.1[52]? = some (.inr 5) := rfl
theorem sC_53 : ZC.1[53]? = some (.inl (2, 2, 4)) := rfl
theorem sC_54 : ZC.1[54]? = some (.inl (0, 0, 24)) := rfl
theorem sC_55 : ZC.1[55]? = some (.inl (0, 0, 24)) := rfl
theorem sC_56 : ZC.1[56]? = some (.inl (0, 0, 24)) := rfl
theorem sC_57 : ZC.1[57]? = some (.inl (0, 0, 24)) := rfl
theorem sC_58 : ZC.1[58]? = some (.inr 2) := rfl
theorem sC_59 : ZC.1[59]? = some (.inr 2) := rfl
theorem sC_60 : ZC.1[60]? = some (.inr 2) := rfl
theorem sC_61 : ZC.1[61]? = some (.inr 2) := rfl
theorem sC_62 : ZC.1[62]? = some (.inr 5) := rfl
theorem sC_63 : ZC.1[63]? = some (.inl (2, 2, 4)) := rfl
theorem sC_64 : ZC.1[64]? = some (.inl (0, 0, 24)) := rfl
theorem sC_65 : ZC.1[65]? = some (.inl (0, 0, 24)) := rfl
theorem sC_66 : ZC.1[66]? = some (.inl (0, 0, 24)) := rfl
theorem sC_67 : ZC.1[67]? = some (.inl (0, 0, 24)) := rfl
theorem sC_68 : ZC.1[68]? = some (.inr 2) := rfl
theorem sC_69 : ZC.1[69]? = some (.inr 2) := rfl
theorem sC_70 : ZC.1[70]? = some (.inr 2) := rfl
theorem sC_71 : ZC.1[71]? = some (.inr 2) := rfl
theorem sC_72 : ZC.1[72]? = some (.inr 2) := rfl
theorem rC_0_0 : ZC.2.1 0 0 = some 1 := rfl
theorem rC_0_1 : ZC.2.1 0 1 = some 42 := rfl
theorem rC_0_2 : ZC.2.1 0 2 = some 52 := rfl
theorem rC_0_3 : ZC.2.1 0 3 = some 62 := rfl
theorem rC_0_5 : ZC.2.1 0 5 = some 2 := rfl
theorem rC_0_7 : ZC.2.1 0 7 = some 3 := rfl
theorem rC_0_9 : ZC.2.1 0 9 = some 4 := rfl
theorem rC_0_10 : ZC.2.1 0 10 = some 5 := rfl
theorem rC_0_11 : ZC.2.1 0 11 = some 8 := rfl
theorem rC_0_12 : ZC.2.1 0 12 = some 72 := rfl
theorem rC_0_13 : ZC.2.1 0 13 = some 32 := rfl
theorem rC_0_14 : ZC.2.1 0 14 = some 33 := rfl
theorem rC_0_15 : ZC.2.1 0 15 = some 34 := rfl
theorem rC_0_16 : ZC.2.1 0 16 = some 35 := rfl
theorem rC_5_1 : ZC.2.1 5 1 = some 6 := rfl
theorem rC_5_2 : ZC.2.1 5 2 = some 7 := rfl
theorem rC_8_0 : ZC.2.1 8 0 = some 9 := rfl
theorem rC_8_1 : ZC.2.1 8 1 = some 31 := rfl
theorem rC_42_5 : ZC.2.1 42 5 = some 43 := rfl
theorem rC_42_6 : ZC.2.1 42 6 = some 44 := rfl
theorem rC_42_7 : ZC.2.1 42 7 = some 45 := rfl
theorem rC_42_8 : ZC.2.1 42 8 = some 46 := rfl
theorem rC_42_9 : ZC.2.1 42 9 = some 47 := rfl
theorem rC_52_5 : ZC.2.1 52 5 = some 53 := rfl
theorem rC_52_6 : ZC.2.1 52 6 = some 54 := rfl
theorem rC_52_7 : ZC.2.1 52 7 = some 55 := rfl
theorem rC_52_8 : ZC.2.1 52 8 = some 56 := rfl
theorem rC_52_9 : ZC.2.1 52 9 = some 57 := rfl
theorem rC_62_5 : ZC.2.1 62 5 = some 63 := rfl
theorem rC_62_6 : ZC.2.1 62 6 = some 64 := rfl
theorem rC_62_7 : ZC.2.1 62 7 = some 65 := rfl
theorem rC_62_8 : ZC.2.1 62 8 = some 66 := rfl
theorem rC_62_9 : ZC.2.1 62 9 = some 67 := rfl
theorem sR_0 : ZR.1[0]? = some (.inr 11) := rfl
theorem sR_1 : ZR.1[1]? = some (.inl (0, 0, 7)) := rfl
theorem sR_2 : ZR.1[2]? = some (.inl (0, 0, 4)) := rfl
theorem sR_3 : ZR.1[3]? = some (.inl (0, 0, 4)) := rfl
theorem sR_4 : ZR.1[4]? = some (.inl (0, 0, 4)) := rfl
theorem sR_5 : ZR.1[5]? = some (.inl (0, 0, 4)) := rfl
theorem sR_6 : ZR.1[6]? = some (.inl (0, 0, 4)) := rfl
theorem sR_7 : ZR.1[7]? = some (.inl (0, 0, 4)) := rfl
theorem sR_8 : ZR.1[8]? = some (.inl (0, 0, 4)) := rfl
theorem sR_9 : ZR.1[9]? = some (.inl (0, 0, 4)) := rfl
theorem sR_10 : ZR.1[10]? = some (.inl (0, 0, 24)) := rfl
theorem sR_11 : ZR.1[11]? = some (.inl (0, 0, 24)) := rfl
theorem sR_12 : ZR.1[12]? = some (.inl (0, 0, 24)) := rfl
theorem sR_13 : ZR.1[13]? = some (.inl (0, 0, 96)) := rfl
theorem sR_14 : ZR.1[14]? = some (.inl (0, 0, 48)) := rfl
theorem sR_15 : ZR.1[15]? = some (.inl (0, 0, 48)) := rfl
theorem sR_16 : ZR.1[16]? = some (.inl (0, 0, 384)) := rfl
theorem sR_17 : ZR.1[17]? = some (.inl (0, 0, 240)) := rfl
theorem sR_18 : ZR.1[18]? = some (.inl (1, 1, 41)) := rfl
theorem sR_19 : ZR.1[19]? = some (.inl (1, 1, 41)) := rfl
theorem sR_20 : ZR.1[20]? = some (.inl (0, 0, 4)) := rfl
theorem sR_21 : ZR.1[21]? = some (.inl (0, 0, 4)) := rfl
theorem sR_22 : ZR.1[22]? = some (.inl (0, 0, 4)) := rfl
theorem sR_23 : ZR.1[23]? = some (.inl (0, 0, 12)) := rfl
theorem sR_24 : ZR.1[24]? = some (.inl (0, 0, 4)) := rfl
theorem sR_25 : ZR.1[25]? = some (.inl (1, 1, 1000)) := rfl
theorem sR_26 : ZR.1[26]? = some (.inl (1, 1, 1000)) := rfl
theorem sR_27 : ZR.1[27]? = some (.inl (0, 0, 9)) := rfl
theorem sR_28 : ZR.1[28]? = some (.inl (0, 0, 6)) := rfl
theorem rR_0_0 : ZR.2.1 0 0 = some 1 := rfl
theorem rR_0_1 : ZR.2.1 0 1 = some 2 := rfl
theorem rR_0_2 : ZR.2.1 0 2 = some 3 := rfl
theorem rR_0_3 : ZR.2.1 0 3 = some 4 := rfl
theorem rR_0_4 : ZR.2.1 0 4 = some 5 := rfl
theorem rR_0_5 : ZR.2.1 0 5 = some 6 := rfl
theorem rR_0_6 : ZR.2.1 0 6 = some 7 := rfl
theorem rR_0_7 : ZR.2.1 0 7 = some 8 := rfl
theorem rR_0_8 : ZR.2.1 0 8 = some 9 := rfl
theorem rR_0_9 : ZR.2.1 0 9 = some 10 := rfl
theorem rR_0_10 : ZR.2.1 0 10 = some 11 := rfl
theorem rR_0_11 : ZR.2.1 0 11 = some 12 := rfl
theorem rR_0_17 : ZR.2.1 0 17 = some 13 := rfl
theorem rR_0_18 : ZR.2.1 0 18 = some 14 := rfl
theorem rR_0_19 : ZR.2.1 0 19 = some 15 := rfl
theorem rR_0_20 : ZR.2.1 0 20 = some 16 := rfl
theorem rR_0_24 : ZR.2.1 0 24 = some 17 := rfl
theorem rR_0_28 : ZR.2.1 0 28 = some 18 := rfl
theorem rR_0_29 : ZR.2.1 0 29 = some 19 := rfl
theorem rR_0_30 : ZR.2.1 0 30 = some 20 := rfl
theorem rR_0_31 : ZR.2.1 0 31 = some 21 := rfl
theorem rR_0_32 : ZR.2.1 0 32 = some 22 := rfl
theorem rR_0_33 : ZR.2.1 0 33 = some 23 := rfl
theorem rR_0_35 : ZR.2.1 0 35 = some 24 := rfl
theorem rR_0_36 : ZR.2.1 0 36 = some 25 := rfl
theorem rR_0_37 : ZR.2.1 0 37 = some 26 := rfl
theorem rR_0_38 : ZR.2.1 0 38 = some 27 := rfl
theorem rR_0_39 : ZR.2.1 0 39 = some 28 := rfl
theorem rC_1 (j : Nat) : ZC.2.1 1 j = some (36 + j % 6) := rfl
theorem rC_9 (j : Nat) : ZC.2.1 9 j = some (10 + j % 21) := rfl
theorem sC_way (j : Nat) : ZC.1[10 + j % 21]? = some (.inl (1, 1, 41)) := by
  have h : j % 21 < 21 := Nat.mod_lt _ (by decide)
  generalize j % 21 = a at h ⊢
  exact (by decide +kernel : ∀ a, a < 21 → ZC.1[10 + a]? = some (.inl (1, 1, 41))) a h
theorem sC_k0 {j : Nat} (e : j % 6 = 0) : ZC.1[36 + j % 6]? = some (.inr 3) := by rw [e]; rfl
theorem sC_k1 {j : Nat} (e : j % 6 = 1) : ZC.1[36 + j % 6]? = some (.inr 7) := by rw [e]; rfl
theorem sC_k2 {j : Nat} (e : j % 6 = 2) : ZC.1[36 + j % 6]? = some (.inr 0) := by rw [e]; rfl
theorem sC_k3 {j : Nat} (e : j % 6 = 3) : ZC.1[36 + j % 6]? = some (.inr 4) := by rw [e]; rfl
theorem sC_k4 {j : Nat} (e : j % 6 = 4) : ZC.1[36 + j % 6]? = some (.inr 9) := by rw [e]; rfl
theorem sC_k5 {j : Nat} (e : j % 6 = 5) : ZC.1[36 + j % 6]? = some (.inr 8) := by rw [e]; rfl
/-- one of the three meets -/
def MT (o : Nat) : Prop := o = 42 ∨ o = 52 ∨ o = 62
theorem mt_s {o : Nat} (h : MT o) : ZC.1[o]? = some (.inr 5) := by rcases h with rfl | rfl | rfl <;> rfl
theorem mt_s1 {o : Nat} (h : MT o) : ZC.1[o + 1]? = some (.inl (2, 2, 4)) := by rcases h with rfl | rfl | rfl <;> rfl
theorem mt_s2 {o : Nat} (h : MT o) : ZC.1[o + 2]? = some (.inl (0, 0, 24)) := by rcases h with rfl | rfl | rfl <;> rfl
theorem mt_s3 {o : Nat} (h : MT o) : ZC.1[o + 3]? = some (.inl (0, 0, 24)) := by rcases h with rfl | rfl | rfl <;> rfl
theorem mt_s4 {o : Nat} (h : MT o) : ZC.1[o + 4]? = some (.inl (0, 0, 24)) := by rcases h with rfl | rfl | rfl <;> rfl
theorem mt_s5 {o : Nat} (h : MT o) : ZC.1[o + 5]? = some (.inl (0, 0, 24)) := by rcases h with rfl | rfl | rfl <;> rfl
theorem mt_r5 {o : Nat} (h : MT o) : ZC.2.1 o 5 = some (o + 1) := by rcases h with rfl | rfl | rfl <;> rfl
theorem mt_r6 {o : Nat} (h : MT o) : ZC.2.1 o 6 = some (o + 2) := by rcases h with rfl | rfl | rfl <;> rfl
theorem mt_r7 {o : Nat} (h : MT o) : ZC.2.1 o 7 = some (o + 3) := by rcases h with rfl | rfl | rfl <;> rfl
theorem mt_r8 {o : Nat} (h : MT o) : ZC.2.1 o 8 = some (o + 4) := by rcases h with rfl | rfl | rfl <;> rfl
theorem mt_r9 {o : Nat} (h : MT o) : ZC.2.1 o 9 = some (o + 5) := by rcases h with rfl | rfl | rfl <;> rfl
theorem mt_jj {o : Nat} (h : MT o) (j : Nat) : ZC.2.1 (o + 1) j = some (o + 6 + j % 4) := by rcases h with rfl | rfl | rfl <;> rfl
theorem mt_sj {o : Nat} (h : MT o) (j : Nat) : ZC.1[o + 6 + j % 4]? = some (.inr 2) := by
  have hj : j % 4 < 4 := Nat.mod_lt _ (by decide)
  generalize j % 4 = a at hj ⊢
  rcases h with rfl | rfl | rfl <;> exact (by decide +kernel : ∀ a, a < 4 → ZC.1[_ + 6 + a]? = some (.inr 2)) a hj
theorem j_3 : ∀ k, k ≠ 0 → (fty 2)[k]? ≠ some 3 := by
  intro k hk e
  match k, hk, e with
  | 1, _, e | 2, _, e | 3, _, e | 4, _, e | 5, _, e | 6, _, e | 7, _, e | 8, _, e => cases e
  | k + 9, _, e => simp [fty] at e
theorem j_m : ∀ (k t : Nat), (fty 2)[k]? = some t → t ≤ 3 := by
  intro k t e
  have := List.mem_of_getElem? e
  simp [fty] at this
  omega
/-- more rounds than any loop of these takes -/
def FU : Nat := 5000
