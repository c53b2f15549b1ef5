section
/-! STATICS, by program: the objects of the class and of the reference by numbers, what their final references hold -/
def shC : List Shp := [.inr 10, .inl (3, 2, 6), .inl (0, 0, 96), .inl (0, 0, 12), .inl (0, 0, 7), .inr 6, .inl (0, 0, 4), .inl (0, 0, 4), .inr 1, .inl (4, 2, 21), .inl (1, 1, 41), .inl (1, 1, 41), .inl (1, 1, 41), .inl (1, 1, 41), .inl (1, 1, 41), .inl (1, 1, 41), .inl (1, 1, 41), .inl (1, 1, 41), .inl (1, 1, 41), .inl (1, 1, 41), .inl (1, 1, 41), .inl (1, 1, 41), .inl (1, 1, 41), .inl (1, 1, 41), .inl (1, 1, 41), .inl (1, 1, 41), .inl (1, 1, 41), .inl (1, 1, 41), .inl (1, 1, 41), .inl (1, 1, 41), .inl (1, 1, 41), .inl (1, 1, 1000), .inl (0, 0, 1000), .inl (0, 0, 1000), .inl (0, 0, 9), .inl (0, 0, 4), .inr 3, .inr 7, .inr 0, .inr 4, .inr 9, .inr 8, .inr 5, .inl (2, 2, 4), .inl (0, 0, 24), .inl (0, 0, 24), .inl (0, 0, 24), .inl (0, 0, 24), .inr 2, .inr 2, .inr 2, .inr 2, .inr 5, .inl (2, 2, 4), .inl (0, 0, 24), .inl (0, 0, 24), .inl (0, 0, 24), .inl (0, 0, 24), .inr 2, .inr 2, .inr 2, .inr 2, .inr 5, .inl (2, 2, 4), .inl (0, 0, 24), .inl (0, 0, 24), .inl (0, 0, 24), .inl (0, 0, 24), .inr 2, .inr 2, .inr 2, .inr 2, .inr 2]
def rfC (o k : Nat) : Option Nat := match o with
  | 0 => match k with
    | 0 => some 1
    | 1 => some 42
    | 2 => some 52
    | 3 => some 62
    | 5 => some 2
    | 7 => some 3
    | 9 => some 4
    | 10 => some 5
    | 11 => some 8
    | 12 => some 72
    | 13 => some 32
    | 14 => some 33
    | 15 => some 34
    | 16 => some 35
    | _ => none
  | 5 => match k with
    | 1 => some 6
    | 2 => some 7
    | _ => none
  | 8 => match k with
    | 0 => some 9
    | 1 => some 31
    | _ => none
  | 42 => match k with
    | 5 => some 43
    | 6 => some 44
    | 7 => some 45
    | 8 => some 46
    | 9 => some 47
    | _ => none
  | 52 => match k with
    | 5 => some 53
    | 6 => some 54
    | 7 => some 55
    | 8 => some 56
    | 9 => some 57
    | _ => none
  | 62 => match k with
    | 5 => some 63
    | 6 => some 64
    | 7 => some 65
    | 8 => some 66
    | 9 => some 67
    | _ => none
  | 1 => some (36 + k % 6)
  | 9 => some (10 + k % 21)
  | 43 => some (48 + k % 4)
  | 53 => some (58 + k % 4)
  | 63 => some (68 + k % 4)
  | _ => none
def tlC : List FieldType := [.int, .long, (.object "MarkToBoard$Jumper"), (.object "MarkToBoard$Kind"), (.array .long)]
def ZC : Stc := (shC, rfC, 36, tlC)
def shR : List Shp := [.inr 11, .inl (0, 0, 7), .inl (0, 0, 4), .inl (0, 0, 4), .inl (0, 0, 4), .inl (0, 0, 4), .inl (0, 0, 4), .inl (0, 0, 4), .inl (0, 0, 4), .inl (0, 0, 4), .inl (0, 0, 24), .inl (0, 0, 24), .inl (0, 0, 24), .inl (0, 0, 96), .inl (0, 0, 48), .inl (0, 0, 48), .inl (0, 0, 384), .inl (0, 0, 240), .inl (1, 1, 41), .inl (1, 1, 41), .inl (0, 0, 4), .inl (0, 0, 4), .inl (0, 0, 4), .inl (0, 0, 12), .inl (0, 0, 4), .inl (1, 1, 1000), .inl (1, 1, 1000), .inl (0, 0, 9), .inl (0, 0, 6)]
def rfR (o k : Nat) : Option Nat := match o with
  | 0 => match k with
    | 0 => some 1
    | 1 => some 2
    | 2 => some 3
    | 3 => some 4
    | 4 => some 5
    | 5 => some 6
    | 6 => some 7
    | 7 => some 8
    | 8 => some 9
    | 9 => some 10
    | 10 => some 11
    | 11 => some 12
    | 17 => some 13
    | 18 => some 14
    | 19 => some 15
    | 20 => some 16
    | 24 => some 17
    | 28 => some 18
    | 29 => some 19
    | 30 => some 20
    | 31 => some 21
    | 32 => some 22
    | 33 => some 23
    | 35 => some 24
    | 36 => some 25
    | 37 => some 26
    | 38 => some 27
    | 39 => some 28
    | _ => none
  | _ => none
def tlR : List FieldType := [.int, .long]
def ZR : Stc := (shR, rfR, 0, tlR)
theorem sC_0 : ZC.1[0]? = some (.inr 10) := rfl
theorem sC_1 : ZC.1[1]? = some (.inl (3, 2, 6)) := rfl
theorem sC_2 : ZC.1[2]? = some (.inl (0, 0, 96)) := rfl
theorem sC_3 : ZC.1[3]? = some (.inl (0, 0, 12)) := rfl
theorem sC_4 : ZC.1[4]? = some (.inl (0, 0, 7)) := rfl
theorem sC_5 : ZC.1[5]? = some (.inr 6) := rfl
theorem sC_6 : ZC.1[6]? = some (.inl (0, 0, 4)) := rfl
theorem sC_7 : ZC.1[7]? = some (.inl (0, 0, 4)) := rfl
theorem sC_8 : ZC.1[8]? = some (.inr 1) := rfl
theorem sC_9 : ZC.1[9]? = some (.inl (4, 2, 21)) := rfl
theorem sC_10 : ZC.1[10]? = some (.inl (1, 1, 41)) := rfl
theorem sC_11 : ZC.1[11]? = some (.inl (1, 1, 41)) := rfl
theorem sC_12 : ZC.1[12]? = some (.inl (1, 1, 41)) := rfl
theorem sC_13 : ZC.1[13]? = some (.inl (1, 1, 41)) := rfl
theorem sC_14 : ZC.1[14]? = some (.inl (1, 1, 41)) := rfl
theorem sC_15 : ZC.1[15]? = some (.inl (1, 1, 41)) := rfl
theorem sC_16 : ZC.1[16]? = some (.inl (1, 1, 41)) := rfl
theorem sC_17 : ZC.1[17]? = some (.inl (1, 1, 41)) := rfl
theorem sC_18 : ZC.1[18]? = some (.inl (1, 1, 41)) := rfl
theorem sC_19 : ZC.1[19]? = some (.inl (1, 1, 41)) := rfl
theorem sC_20 : ZC.1[20]? = some (.inl (1, 1, 41)) := rfl
theorem sC_21 : ZC.1[21]? = some (.inl (1, 1, 41)) := rfl
theorem sC_22 : ZC.1[22]? = some (.inl (1, 1, 41)) := rfl
theorem sC_23 : ZC.1[23]? = some (.inl (1, 1, 41)) := rfl
theorem sC_24 : ZC.1[24]? = some (.inl (1, 1, 41)) := rfl
theorem sC_25 : ZC.1[25]? = some (.inl (1, 1, 41)) := rfl
theorem sC_26 : ZC.1[26]? = some (.inl (1, 1, 41)) := rfl
theorem sC_27 : ZC.1[27]? = some (.inl (1, 1, 41)) := rfl
theorem sC_28 : ZC.1[28]? = some (.inl (1, 1, 41)) := rfl
theorem sC_29 : ZC.1[29]? = some (.inl (1, 1, 41)) := rfl
theorem sC_30 : ZC.1[30]? = some (.inl (1, 1, 41)) := rfl
theorem sC_31 : ZC.1[31]? = some (.inl (1, 1, 1000)) := rfl
theorem sC_32 : ZC.1[32]? = some (.inl (0, 0, 1000)) := rfl
theorem sC_33 : ZC.1[33]? = some (.inl (0, 0, 1000)) := rfl
theorem sC_34 : ZC.1[34]? = some (.inl (0, 0, 9)) := rfl
theorem sC_35 : ZC.1[35]? = some (.inl (0, 0, 4)) := rfl
theorem sC_36 : ZC.1[36]? = some (.inr 3) := rfl
theorem sC_37 : ZC.1[37]? = some (.inr 7) := rfl
theorem sC_38 : ZC.1[38]? = some (.inr 0) := rfl
theorem sC_39 : ZC.1[39]? = some (.inr 4) := rfl
theorem sC_40 : ZC.1[40]? = some (.inr 9) := rfl
theorem sC_41 : ZC.1[41]? = some (.inr 8) := rfl
theorem sC_42 : ZC.1[42]? = some (.inr 5) := rfl
theorem sC_43 : ZC.1[43]? = some (.inl (2, 2, 4)) := rfl
theorem sC_44 : ZC.1[44]? = some (.inl (0, 0, 24)) := rfl
theorem sC_45 : ZC.1[45]? = some (.inl (0, 0, 24)) := rfl
theorem sC_46 : ZC.1[46]? = some (.inl (0, 0, 24)) := rfl
theorem sC_47 : ZC.1[47]? = some (.inl (0, 0, 24)) := rfl
theorem sC_48 : ZC.1[48]? = some (.inr 2) := rfl
theorem sC_49 : ZC.1[49]? = some (.inr 2) := rfl
theorem sC_50 : ZC.1[50]? = some (.inr 2) := rfl
theorem sC_51 : ZC.1[51]? = some (.inr 2) := rfl
theorem sC_52 : ZC.1[52]? = some (.inr 5) := rfl
theorem sC_53 : ZC.1[53]? = some (.inl (2, 2, 4)) := rfl
theorem sC_54 : ZC.1[54]? = some (.inl (0, 0, 24)) := rfl
theorem sC_55 : ZC.1[55]? = some (.inl (0, 0, 24)) := rfl
theorem sC_56 : ZC.1[56]? = some (.inl (0, 0, 24)) := rfl
theorem sC_57 : ZC.1[57]? = some (.inl (0, 0, 24)) := rfl
theorem sC_58 : ZC.1[58]? = some (.inr 2) := rfl
theorem sC_59 : ZC.1[59]? = some (.inr 2) := rfl
theorem sC_60 : ZC.1[60]? = some (.inr 2) := rfl
theorem sC_61 : ZC.1[61]? = some (.inr 2) := rfl
theorem sC_62 : ZC.1[62]? = some (.inr 5) := rfl
theorem sC_63 : ZC.1[63]? = some (.inl (2, 2, 4)) := rfl
theorem sC_64 : ZC.1[64]? = some (.inl (0, 0, 24)) := rfl
theorem sC_65 : ZC.1[65]? = some (.inl (0, 0, 24)) := rfl
theorem sC_66 : ZC.1[66]? = some (.inl (0, 0, 24)) := rfl
theorem sC_67 : ZC.1[67]? = some (.inl (0, 0, 24)) := rfl
theorem sC_68 : ZC.1[68]? = some (.inr 2) := rfl
theorem sC_69 : ZC.1[69]? = some (.inr 2) := rfl
theorem sC_70 : ZC.1[70]? = some (.inr 2) := rfl
theorem sC_71 : ZC.1[71]? = some (.inr 2) := rfl
theorem sC_72 : ZC.1[72]? = some (.inr 2) := rfl
theorem rC_0_0 : ZC.2.1 0 0 = some 1 := rfl
theorem rC_0_1 : ZC.2.1 0 1 = some 42 := rfl
theorem rC_0_2 : ZC.2.1 0 2 = some 52 := rfl
theorem rC_0_3 : ZC.2.1 0 3 = some 62 := rfl
theorem rC_0_5 : ZC.2.1 0 5 = some 2 := rfl
theorem rC_0_7 : ZC.2.1 0 7 = some 3 := rfl
theorem rC_0_9 : ZC.2.1 0 9 = some 4 := rfl
theorem rC_0_10 : ZC.2.1 0 10 = some 5 := rfl
theorem rC_0_11 : ZC.2.1 0 11 = some 8 := rfl
theorem rC_0_12 : ZC.2.1 0 12 = some 72 := rfl
theorem rC_0_13 : ZC.2.1 0 13 = some 32 := rfl
theorem rC_0_14 : ZC.2.1 0 14 = some 33 := rfl
theorem rC_0_15 : ZC.2.1 0 15 = some 34 := rfl
theorem rC_0_16 : ZC.2.1 0 16 = some 35 := rfl
theorem rC_5_1 : ZC.2.1 5 1 = some 6 := rfl
theorem rC_5_2 : ZC.2.1 5 2 = some 7 := rfl
theorem rC_8_0 : ZC.2.1 8 0 = some 9 := rfl
theorem rC_8_1 : ZC.2.1 8 1 = some 31 := rfl
theorem rC_42_5 : ZC.2.1 42 5 = some 43 := rfl
theorem rC_42_6 : ZC.2.1 42 6 = some 44 := rfl
theorem rC_42_7 : ZC.2.1 42 7 = some 45 := rfl
theorem rC_42_8 : ZC.2.1 42 8 = some 46 := rfl
theorem rC_42_9 : ZC.2.1 42 9 = some 47 := rfl
theorem rC_52_5 : ZC.2.1 52 5 = some 53 := rfl
theorem rC_52_6 : ZC.2.1 52 6 = some 54 := rfl
theorem rC_52_7 : ZC.2.1 52 7 = some 55 := rfl
theorem rC_52_8 : ZC.2.1 52 8 = some 56 := rfl
theorem rC_52_9 : ZC.2.1 52 9 = some 57 := rfl
theorem rC_62_5 : ZC.2.1 62 5 = some 63 := rfl
theorem rC_62_6 : ZC.2.1 62 6 = some 64 := rfl
theorem rC_62_7 : ZC.2.1 62 7 = some 65 := rfl
theorem rC_62_8 : ZC.2.1 62 8 = some 66 := rfl
theorem rC_62_9 : ZC.2.1 62 9 = some 67 := rfl
theorem sR_0 : ZR.1[0]? = some (.inr 11) := rfl
theorem sR_1 : ZR.1[1]? = some (.inl (0, 0, 7)) := rfl
theorem sR_2 : ZR.1[2]? = some (.inl (0, 0, 4)) := rfl
theorem sR_3 : ZR.1[3]? = some (.inl (0, 0, 4)) := rfl
theorem sR_4 : ZR.1[4]? = some (.inl (0, 0, 4)) := rfl
theorem sR_5 : ZR.1[5]? = some (.inl (0, 0, 4)) := rfl
theorem sR_6 : ZR.1[6]? = some (.inl (0, 0, 4)) := rfl
theorem sR_7 : ZR.1[7]? = some (.inl (0, 0, 4)) := rfl
theorem sR_8 : ZR.1[8]? = some (.inl (0, 0, 4)) := rfl
theorem sR_9 : ZR.1[9]? = some (.inl (0, 0, 4)) := rfl
theorem sR_10 : ZR.1[10]? = some (.inl (0, 0, 24)) := rfl
theorem sR_11 : ZR.1[11]? = some (.inl (0, 0, 24)) := rfl
theorem sR_12 : ZR.1[12]? = some (.inl (0, 0, 24)) := rfl
theorem sR_13 : ZR.1[13]? = some (.inl (0, 0, 96)) := rfl
theorem sR_14 : ZR.1[14]? = some (.inl (0, 0, 48)) := rfl
theorem sR_15 : ZR.1[15]? = some (.inl (0, 0, 48)) := rfl
theorem sR_16 : ZR.1[16]? = some (.inl (0, 0, 384)) := rfl
theorem sR_17 : ZR.1[17]? = some (.inl (0, 0, 240)) := rfl
theorem sR_18 : ZR.1[18]? = some (.inl (1, 1, 41)) := rfl
theorem sR_19 : ZR.1[19]? = some (.inl (1, 1, 41)) := rfl
theorem sR_20 : ZR.1[20]? = some (.inl (0, 0, 4)) := rfl
theorem sR_21 : ZR.1[21]? = some (.inl (0, 0, 4)) := rfl
theorem sR_22 : ZR.1[22]? = some (.inl (0, 0, 4)) := rfl
theorem sR_23 : ZR.1[23]? = some (.inl (0, 0, 12)) := rfl
theorem sR_24 : ZR.1[24]? = some (.inl (0, 0, 4)) := rfl
theorem sR_25 : ZR.1[25]? = some (.inl (1, 1, 1000)) := rfl
theorem sR_26 : ZR.1[26]? = some (.inl (1, 1, 1000)) := rfl
theorem sR_27 : ZR.1[27]? = some (.inl (0, 0, 9)) := rfl
theorem sR_28 : ZR.1[28]? = some (.inl (0, 0, 6)) := rfl
theorem rR_0_0 : ZR.2.1 0 0 = some 1 := rfl
theorem rR_0_1 : ZR.2.1 0 1 = some 2 := rfl
theorem rR_0_2 : ZR.2.1 0 2 = some 3 := rfl
theorem rR_0_3 : ZR.2.1 0 3 = some 4 := rfl
theorem rR_0_4 : ZR.2.1 0 4 = some 5 := rfl
theorem rR_0_5 : ZR.2.1 0 5 = some 6 := rfl
theorem rR_0_6 : ZR.2.1 0 6 = some 7 := rfl
theorem rR_0_7 : ZR.2.1 0 7 = some 8 := rfl
theorem rR_0_8 : ZR.2.1 0 8 = some 9 := rfl
theorem rR_0_9 : ZR.2.1 0 9 = some 10 := rfl
theorem rR_0_10 : ZR.2.1 0 10 = some 11 := rfl
theorem rR_0_11 : ZR.2.1 0 11 = some 12 := rfl
theorem rR_0_17 : ZR.2.1 0 17 = some 13 := rfl
theorem rR_0_18 : ZR.2.1 0 18 = some 14 := rfl
theorem rR_0_19 : ZR.2.1 0 19 = some 15 := rfl
theorem rR_0_20 : ZR.2.1 0 20 = some 16 := rfl
theorem rR_0_24 : ZR.2.1 0 24 = some 17 := rfl
theorem rR_0_28 : ZR.2.1 0 28 = some 18 := rfl
theorem rR_0_29 : ZR.2.1 0 29 = some 19 := rfl
theorem rR_0_30 : ZR.2.1 0 30 = some 20 := rfl
theorem rR_0_31 : ZR.2.1 0 31 = some 21 := rfl
theorem rR_0_32 : ZR.2.1 0 32 = some 22 := rfl
theorem rR_0_33 : ZR.2.1 0 33 = some 23 := rfl
theorem rR_0_35 : ZR.2.1 0 35 = some 24 := rfl
theorem rR_0_36 : ZR.2.1 0 36 = some 25 := rfl
theorem rR_0_37 : ZR.2.1 0 37 = some 26 := rfl
theorem rR_0_38 : ZR.2.1 0 38 = some 27 := rfl
theorem rR_0_39 : ZR.2.1 0 39 = some 28 := rfl
theorem rC_1 (j : Nat) : ZC.2.1 1 j = some (36 + j % 6) := rfl
theorem rC_9 (j : Nat) : ZC.2.1 9 j = some (10 + j % 21) := rfl
theorem sC_way (j : Nat) : ZC.1[10 + j % 21]? = some (.inl (1, 1, 41)) := by
  have h : j % 21 < 21 := Nat.mod_lt _ (by decide)
  generalize j % 21 = a at h ⊢
  exact (by decide +kernel : ∀ a, a < 21 → ZC.1[10 + a]? = some (.inl (1, 1, 41))) a h
theorem sC_k0 {j : Nat} (e : j % 6 = 0) : ZC.1[36 + j % 6]? = some (.inr 3) := by rw [e]; rfl
theorem sC_k1 {j : Nat} (e : j % 6 = 1) : ZC.1[36 + j % 6]? = some (.inr 7) := by rw [e]; rfl
theorem sC_k2 {j : Nat} (e : j % 6 = 2) : ZC.1[36 + j % 6]? = some (.inr 0) := by rw [e]; rfl
theorem sC_k3 {j : Nat} (e : j % 6 = 3) : ZC.1[36 + j % 6]? = some (.inr 4) := by rw [e]; rfl
theorem sC_k4 {j : Nat} (e : j % 6 = 4) : ZC.1[36 + j % 6]? = some (.inr 9) := by rw [e]; rfl
theorem sC_k5 {j : Nat} (e : j % 6 = 5) : ZC.1[36 + j % 6]? = some (.inr 8) := by rw [e]; rfl
/-- one of the three meets -/
def MT (o : Nat) : Prop := o = 42 ∨ o = 52 ∨ o = 62
theorem mt_s {o : Nat} (h : MT o) : ZC.1[o]? = some (.inr 5) := by rcases h with rfl | rfl | rfl <;> rfl
theorem mt_s1 {o : Nat} (h : MT o) : ZC.1[o + 1]? = some (.inl (2, 2, 4)) := by rcases h with rfl | rfl | rfl <;> rfl
theorem mt_s2 {o : Nat} (h : MT o) : ZC.1[o + 2]? = some (.inl (0, 0, 24)) := by rcases h with rfl | rfl | rfl <;> rfl
theorem mt_s3 {o : Nat} (h : MT o) : ZC.1[o + 3]? = some (.inl (0, 0, 24)) := by rcases h with rfl | rfl | rfl <;> rfl
theorem mt_s4 {o : Nat} (h : MT o) : ZC.1[o + 4]? = some (.inl (0, 0, 24)) := by rcases h with rfl | rfl | rfl <;> rfl
theorem mt_s5 {o : Nat} (h : MT o) : ZC.1[o + 5]? = some (.inl (0, 0, 24)) := by rcases h with rfl | rfl | rfl <;> rfl
theorem mt_r5 {o : Nat} (h : MT o) : ZC.2.1 o 5 = some (o + 1) := by rcases h with rfl | rfl | rfl <;> rfl
theorem mt_r6 {o : Nat} (h : MT o) : ZC.2.1 o 6 = some (o + 2) := by rcases h with rfl | rfl | rfl <;> rfl
theorem mt_r7 {o : Nat} (h : MT o) : ZC.2.1 o 7 = some (o + 3) := by rcases h with rfl | rfl | rfl <;> rfl
theorem mt_r8 {o : Nat} (h : MT o) : ZC.2.1 o 8 = some (o + 4) := by rcases h with rfl | rfl | rfl <;> rfl
theorem mt_r9 {o : Nat} (h : MT o) : ZC.2.1 o 9 = some (o + 5) := by rcases h with rfl | rfl | rfl <;> rfl
theorem mt_jj {o : Nat} (h : MT o) (j : Nat) : ZC.2.1 (o + 1) j = some (o + 6 + j % 4) := by rcases h with rfl | rfl | rfl <;> rfl
theorem mt_sj {o : Nat} (h : MT o) (j : Nat) : ZC.1[o + 6 + j % 4]? = some (.inr 2) := by
  have hj : j % 4 < 4 := Nat.mod_lt _ (by decide)
  generalize j % 4 = a at hj ⊢
  rcases h with rfl | rfl | rfl <;> exact (by decide +kernel : ∀ a, a < 4 → ZC.1[_ + 6 + a]? = some (.inr 2)) a hj
theorem j_3 : ∀ k, k ≠ 0 → (fty 2)[k]? ≠ some 3 := by
  intro k hk e
  match k, hk, e with
  | 1, _, e | 2, _, e | 3, _, e | 4, _, e | 5, _, e | 6, _, e | 7, _, e | 8, _, e => cases e
  | k + 9, _, e => simp [fty] at e
theorem j_m : ∀ (k t : Nat), (fty 2)[k]? = some t → t ≤ 3 := by
  intro k t e
  have := List.mem_of_getElem? e
  simp [fty] at this
  omega
/-- more rounds than any loop of these takes -/
def FU : Nat := 5000
end
section
/-! Math.max, min, abs -/
def mx32 (x y : Int32) : Int32 := if x < y then y else x
def mn32 (x y : Int32) : Int32 := if y < x then y else x
def ab32 (x : Int32) : Int32 := if 0 ≤ x then x else 0 - x
section AWMath
variable {X : MCx} {cc : ByteArray} {own : String} {nL : Nat} {ret : Option FieldType} {rm : Room} {Z : Stc} {yd : Dyn} {A : Nat → Prop} {k n : Nat} {α : Type} {Qf : α → AH → State → Prop} {pc ix : Nat} {lv : List (Nat × Value)} {st : List Value} {h : AH} {o : Option (α × AH)}
theorem aw_mmax (C : OK X cc own nL ret rm A) {x y : Int32} (d : decode cc pc = .ok (.invokestatic ix, 3)) (hl : Cond.methodLink own ix Lib.Math.max.name ∈ TB) (hst : Cond.static Lib.Math.max.name ∈ TB) (hini : Cond.initialized "java/lang/Math" ∈ TB) (hco : Cond.code Lib.Math.max.name Lib.Math.max.code 2 (some .int) ∈ TB) (hR : 1 ≤ rm.frames ∧ ((st.map (cv yd.1)).map fun v => v.category).sum + 13 ≤ rm.locals) (hc : k ≤ rm.cells) (hs : n ≤ rm.slots) (q : AW X nL Z yd A k n Qf (pc + 3) lv (.int (mx32 x y) :: st) h o) : AW X nL Z yd A k n Qf pc lv (.int y :: .int x :: st) h o := fun r h' e ls H locs hll hw =>
  va_mmax (own := own) C.1 C.2.1 (by rw [C.2.2.1]; exact hll.1.symm) C.2.2.2.1 (C.2.2.2.2.1 _ hl) (C.2.2.2.2.1 _ hst) (C.2.2.2.2.1 _ hini) (C.2.2.2.2.1 _ hco) (by rw [C.2.2.2.2.2.2.2.2]; exact hR.1) (by rw [C.2.2.2.2.2.2.2.2]; exact hR.2) (by rw [C.2.2.2.2.2.2.2.2]; exact hc) (by rw [C.2.2.2.2.2.2.2.2]; exact hs) d (q r h' e ls H locs hll hw)
theorem aw_mmin (C : OK X cc own nL ret rm A) {x y : Int32} (d : decode cc pc = .ok (.invokestatic ix, 3)) (hl : Cond.methodLink own ix Lib.Math.min.name ∈ TB) (hst : Cond.static Lib.Math.min.name ∈ TB) (hini : Cond.initialized "java/lang/Math" ∈ TB) (hco : Cond.code Lib.Math.min.name Lib.Math.min.code 2 (some .int) ∈ TB) (hR : 1 ≤ rm.frames ∧ ((st.map (cv yd.1)).map fun v => v.category).sum + 13 ≤ rm.locals) (hc : k ≤ rm.cells) (hs : n ≤ rm.slots) (q : AW X nL Z yd A k n Qf (pc + 3) lv (.int (mn32 x y) :: st) h o) : AW X nL Z yd A k n Qf pc lv (.int y :: .int x :: st) h o := fun r h' e ls H locs hll hw =>
  va_mmin (own := own) C.1 C.2.1 (by rw [C.2.2.1]; exact hll.1.symm) C.2.2.2.1 (C.2.2.2.2.1 _ hl) (C.2.2.2.2.1 _ hst) (C.2.2.2.2.1 _ hini) (C.2.2.2.2.1 _ hco) (by rw [C.2.2.2.2.2.2.2.2]; exact hR.1) (by rw [C.2.2.2.2.2.2.2.2]; exact hR.2) (by rw [C.2.2.2.2.2.2.2.2]; exact hc) (by rw [C.2.2.2.2.2.2.2.2]; exact hs) d (q r h' e ls H locs hll hw)
theorem aw_mabs (C : OK X cc own nL ret rm A) {x : Int32} (d : decode cc pc = .ok (.invokestatic ix, 3)) (hl : Cond.methodLink own ix Lib.Math.abs.name ∈ TB) (hst : Cond.static Lib.Math.abs.name ∈ TB) (hini : Cond.initialized "java/lang/Math" ∈ TB) (hco : Cond.code Lib.Math.abs.name Lib.Math.abs.code 1 (some .int) ∈ TB) (hR : 1 ≤ rm.frames ∧ ((st.map (cv yd.1)).map fun v => v.category).sum + 13 ≤ rm.locals) (hc : k ≤ rm.cells) (hs : n ≤ rm.slots) (q : AW X nL Z yd A k n Qf (pc + 3) lv (.int (ab32 x) :: st) h o) : AW X nL Z yd A k n Qf pc lv (.int x :: st) h o := fun r h' e ls H locs hll hw =>
  va_mabs (own := own) C.1 C.2.1 (by rw [C.2.2.1]; exact hll.1.symm) C.2.2.2.1 (C.2.2.2.2.1 _ hl) (C.2.2.2.2.1 _ hst) (C.2.2.2.2.1 _ hini) (C.2.2.2.2.1 _ hco) (by rw [C.2.2.2.2.2.2.2.2]; exact hR.1) (by rw [C.2.2.2.2.2.2.2.2]; exact hR.2) (by rw [C.2.2.2.2.2.2.2.2]; exact hc) (by rw [C.2.2.2.2.2.2.2.2]; exact hs) d (q r h' e ls H locs hll hw)
end AWMath
theorem osw_ne {x : Int32} {k o d : Int} {r : List (Int × Int)} (h : x.toInt ≠ k) : Op.lookupswitch.offset ((k, o) :: r) d x.toInt = Op.lookupswitch.offset r d x.toInt := by
  simp [Op.lookupswitch.offset, List.find?, h, Ne.symm h]
theorem w_mmaxC : Cond.code Lib.Math.max.name Lib.Math.max.code 2 (some .int) ∈ TB := (ts_2_8.2.2.1 rfl)
theorem w_mmaxS : Cond.static Lib.Math.max.name ∈ TB := (ts_2_8.2.1 rfl)
theorem w_mminC : Cond.code Lib.Math.min.name Lib.Math.min.code 2 (some .int) ∈ TB := (ts_2_7.2.2.2.2.2.2.1 rfl)
theorem w_mminS : Cond.static Lib.Math.min.name ∈ TB := (ts_2_7.2.2.2.2.2.1 rfl)
theorem w_mabsC : Cond.code Lib.Math.abs.name Lib.Math.abs.code 1 (some .int) ∈ TB := (ts_3_4.2.2.2.2.2.2.2.2.2.2.2.1 rfl)
theorem w_mabsS : Cond.static Lib.Math.abs.name ∈ TB := (ts_3_4.2.2.2.2.2.2.2.2.2.2.1 rfl)
theorem w_mI : Cond.initialized "java/lang/Math" ∈ TB := (tk_1.2.2.2.2.2.2.2.2.2.2.2.2.2.2.1 rfl)
theorem lswD {x : Int32} {d : Int} (vs : List Int) (hvs : ∀ v ∈ vs, x.toInt ≠ v) : ∀ {ps : List (Int × Int)}, ps.all (fun q => vs.contains q.1 || q.2 == d) = true → Op.lookupswitch.offset ps d x.toInt = d
  | [], _ => by simp [Op.lookupswitch.offset]
  | (k, o) :: r, h => by
    simp only [List.all_cons, Bool.and_eq_true] at h
    have ih := lswD (x := x) (d := d) vs hvs h.2
    by_cases hx : x.toInt = k
    · rcases Bool.or_eq_true_iff.mp h.1 with z | z
      · exact absurd hx (hvs k (by simpa using z))
      · have z2 : o = d := by simpa using z
        rw [hx, z2]
        simp [Op.lookupswitch.offset]
    · rw [osw_ne hx]
      exact ih
end
section
/-! super's method that the class above inherits itself: the reference x names the class above, the code is the owner's -/
def SubOk (a b : String) : Prop := ∀ (args : Array Value) (s : State), (∀ w ∈ TB, w.before args s = true) → ∀ ca cb : ClassId, s.vm.findClass a = some ca → s.vm.findClass b = some cb → s.vm.isSubclass ca cb = true
theorem sub_one {a b : String} (h : Cond.superclass a b ∈ TB) : SubOk a b := by
  intro args s hts ca cb ha hb
  obtain ⟨p, k, kp, h1, h2, h3, h4, -⟩ := Cond.superclass_spec ha (hts _ h)
  cases hb.symm.trans h1
  have hz : 0 < s.vm.classes.size := by
    have := (Array.getElem?_eq_some_iff.mp h2).1
    omega
  obtain ⟨n, hn⟩ : ∃ n, s.vm.classes.size = n + 1 := ⟨s.vm.classes.size - 1, by omega⟩
  simp [Vm.isSubclass, hn, Vm.isSubclassAux, h2, h4]
theorem sub_two {a b c : String} (h : Cond.superclass a c ∈ TB) (h2 : Cond.superclass c b ∈ TB) : SubOk a b := by
  intro args s hts ca cb ha hb
  obtain ⟨p, k, kp, e1, e2, e3, e4, -⟩ := Cond.superclass_spec ha (hts _ h)
  obtain ⟨p', k', kp', f1, f2, f3, f4, -⟩ := Cond.superclass_spec e1 (hts _ h2)
  cases hb.symm.trans f1
  have l1 := (Array.getElem?_eq_some_iff.mp e2).1
  have l3 := (Array.getElem?_eq_some_iff.mp f3).1
  by_cases hz : s.vm.classes.size = 1
  · have e : ca = cb := by
      have h1 : ca = 0 := Nat.lt_one_iff.mp (hz ▸ l1)
      have h2 : cb = 0 := Nat.lt_one_iff.mp (hz ▸ l3)
      rw [h1, h2]
    subst e
    simp [Vm.isSubclass, Vm.isSubclassAux]
  · obtain ⟨n, hn⟩ : ∃ n, s.vm.classes.size = n + 2 := ⟨s.vm.classes.size - 2, by omega⟩
    simp [Vm.isSubclass, hn, Vm.isSubclassAux, e2, e4, f2, f4]
section AWSup
variable {X : MCx} {cc bytes : ByteArray} {own : String} {nL maxL np : Nat} {ret ret' : Option FieldType} {rm rm' : Room} {Z : Stc} {yd : Dyn} {A : Nat → Prop} {k n : Nat} {β : Type} {pc ix : Nat} {st rest As : List Value} {h : AH} {rv : β → Option Value} {F : AH → Option (β × AH)} {y : MethodName}
theorem cr_SUP (C : OK X cc own nL ret rm A) {b ci : Nat} {q : vw_C} {x : MethodName} (hX : MC X.2.1 y bytes maxL ret' rm' Z (.ref b :: As) rv F) (d : decode cc pc = .ok (.invokespecial ix, 3)) (M : MF y bytes maxL ret' np) (hl : Cond.methodLink own ix x ∈ TB) (hy : y = ⟨y.cls, x.name, x.desc⟩) (hsm : Cond.sameMethod x.cls y.cls x.name x.desc ∈ TB) (hsup : Cond.superclass own x.cls ∈ TB) (hsub : SubOk x.cls y.cls) (hi : Cond.instanceMethod y ∈ TB) (hno : x.name ≠ "<init>") (hb : Z.1[b]? = some (.inr ci)) (hc : vwCl[ci]? = some q) (hR : RmOk rm' rm maxL) (hn : As.length = np) (hs : st = As.reverse ++ .ref b :: rest) (hW : ((rest.map (cv yd.1)).map fun v => v.category).sum ≤ 8) : CR X nL Z yd A rm'.cells rm'.slots pc st rest rv F := by
  intro h r h' hF ls H locs k n hls hw hf
  obtain ⟨mk, methM, hnamed, hmethM, hstM, habM⟩ := Cond.instanceMethod_spec (C.2.2.2.2.1 _ hi)
  obtain ⟨methM', cM, hmethM', -, -, -, -, -, -, hsigM⟩ := Cond.code_spec hnamed (C.2.2.2.2.1 _ M.2.1)
  cases hmethM.symm.trans hmethM'
  obtain ⟨ps, dk, kp, hps, hdk, hkp, hsuper, -, -, hnid⟩ := Cond.superclass_spec C.2.2.2.1 (C.2.2.2.2.1 _ hsup)
  have hcM := findClass_of_methodNamed hnamed
  have hss := hsub _ _ C.2.2.2.2.1 _ _ hps hcM
  obtain ⟨cellB, hcB, hoB, hclB⟩ := recv_at hw hb hc
  obtain ⟨hfc, kB, hkB, -⟩ := (hw.2.2.2.1.1 ci q hc).2
  have hce := Option.some.inj (hfc.symm.trans hclB)
  rw [hce] at hkB
  have hK : Back X.2.1 X.2.2.2.1 X.1 X.2.2.1 X.2.2.2.2.2.2.2.1 (xS X) X.2.2.2.2.2.2.1 y 3 8 (PreOf X.2.2.2.1 rm'.cells rm'.slots (va_Pc ((Value.ref b :: As).map (cv yd.1)) (PreB Z yd h H.size))) (PostOf (PostB Z yd rv (AA yd Z H.size) r h') rm'.cells rm'.slots (AA yd Z H.size)) := back_of (bytes := bytes) (maxL := maxL) (ret := ret') (hX yd h r h' H.size hF) pre_blind rfl rfl (by rw [C.2.2.2.2.2.2.2.2]; exact hR.1) (by rw [C.2.2.2.2.2.2.2.2]; exact hR.2) (C.warm M.2.1) List.mem_cons_self (fun a' U hW => word_at hW (Or.inl (by first | rfl | simp [Cond.onTables, Cond.keeps, Cond.steady])) (C.2.2.2.2.1 _ M.1))
  intro T hT XX
  obtain ⟨vm₁, X₁, hstep₁⟩ := XX.invokespecialUp C.1 C.2.2.2.1 (C.2.2.2.2.1 _ hl) (owner := y.cls) (C.2.2.2.2.1 _ hsm) (by rw [← hy]; exact hnamed) hmethM hstM habM hno hdk hnid hps hsuper hss (a := yd.1 b) (cell := cellB) (by rw [hT]; exact hcB)
    (fun z h => by rw [h] at hoB; cases hoB) hkB (g := F0 (xM X) pc ls (st.map (cv yd.1))) rfl (argsL := As.map (cv yd.1)) (rest := rest.map (cv yd.1)) (by rw [List.length_map, hn]; exact M.n _ hsigM) (by rw [hs]; simp [cv]) (by rw [C.2.1]; exact d)
  obtain ⟨v, ⟨U', l2, c2, s2⟩, X', ⟨g', mk', t, L, e1, e2, hq, h1, hL, h2, h3⟩, hsteps⟩ := hK (xM X) _ _ ⟨T.setVm vm₁, locs, k, n⟩ { F0 (xM X) pc ls (st.map (cv yd.1)) with stack := rest.map (cv yd.1) } (.invokespecial ix) mk (Value.ref (yd.1 b) :: As.map (cv yd.1)).toArray X₁ rfl (by rw [C.2.2.1]; exact hls) (by rw [C.2.1]; exact d) (lv_room hW) (X₁.named hnamed) ⟨hf.1, hf.2, pre_at hw (T.setVm vm₁) hT X₁.warmed⟩
  dsimp only [Pt.U, Pt.locs, Pt.cells, Pt.slots] at X' e1 e2 h1 h2 h3 hsteps
  subst h1; subst h2; subst h3
  exact ⟨v, (T.setVm vm₁).calling g' mk' (Value.ref (yd.1 b) :: As.map (cv yd.1)).toArray, t, U', L, hT, X', hL, e1, e2, hq, fun target h => hstep₁ _ (by rw [doInvoke_state]; exact hsteps.trans h)⟩
end AWSup
theorem so_X4_X3 : SubOk RX4 RX3 := sub_two su_X4_X7 su_X7_X3
theorem so_X4_X7 : SubOk RX4 RX7 := sub_one su_X4_X7
end
section
/-! MAKING: the walk where objects are made and their references set; the static table grows with it -/
def addS (Z : Stc) (s : Shp) : Stc := (Z.1 ++ [s], Z.2)
def putR (Z : Stc) (o k b : Nat) : Stc := (Z.1, (fun o' k' => if o' = o ∧ k' = k then some b else Z.2.1 o' k'), Z.2.2)
def ydN (yd : Dyn) (n q : Nat) : Dyn := (va_up yd.1 n q, yd.2)
def zN (h : AH) (n : Nat) : AH := (fun o k => if o = n then 0 else h.1 o k, fun o k => if o = n then 0 else h.2.1 o k, fun o => if o = n then 0 else h.2.2 o)
def Frs (Z : Stc) : Prop := (∀ o k, Z.2.1 o k ≠ some Z.1.length) ∧ (∀ k, Z.2.1 Z.1.length k = none) ∧ (∀ o : Nat, Z.1[o]? = some (Sum.inr 2 : Shp) → ∀ j : Nat, Z.2.2.1 + j % 6 ≠ Z.1.length)
theorem fty_3 : ∀ (ci k : Nat), (fty ci)[k]? = some 3 → ci = 2 := by
  intro ci k e
  have hm := List.mem_of_getElem? e
  unfold fty at hm
  split at hm <;> first | rfl | simp at hm
theorem rty_3 : ∀ (ci k : Nat), (rty ci)[k]? ≠ some 3 := by
  intro ci k e
  have hm := List.mem_of_getElem? e
  unfold rty at hm
  split at hm <;> simp at hm
theorem eFs_congr {Z Z' : Stc} {ad ad' : Nat → Nat} {h h' : AH} {o : Nat} : ∀ (l : List Nat) (k : Nat), (∀ i t, l[i]? = some t → eF Z' ad' h' o (k + i) t = eF Z ad h o (k + i) t) → eFs Z' ad' h' o k l = eFs Z ad h o k l
  | [], _, _ => rfl
  | t :: l, k, he => by
    simp only [eFs]
    have h0 := he 0 t rfl
    rw [Nat.add_zero] at h0
    have ih := eFs_congr (Z := Z) (Z' := Z') (ad := ad) (ad' := ad') (h := h) (h' := h') (o := o) l (k + 1) (fun i t' ht => by
      have q := he (i + 1) t' ht
      rw [show k + (i + 1) = k + 1 + i by omega] at q
      exact q)
    rw [h0, ih]
theorem eF_new {Z : Stc} {yd : Dyn} {h : AH} {o q k t : Nat} {sN : Shp} (hF : Frs Z) (ho : o ≠ Z.1.length) (h3 : t = 3 → ∀ j, Z.2.2.1 + j % 6 ≠ Z.1.length) : eF (addS Z sN) (ydN yd Z.1.length q).1 (zN h Z.1.length) o k t = eF Z yd.1 h o k t := by
  match t, h3 with
  | 0, _ => simp [eF, zN, ho]
  | 1, _ => simp [eF, zN, ho]
  | 2, _ =>
    show va_rf ((Z.2.1 o k).map (va_up yd.1 Z.1.length q)) = va_rf ((Z.2.1 o k).map yd.1)
    cases hz : Z.2.1 o k with
    | none => rfl
    | some b =>
      have hb : b ≠ Z.1.length := fun e => hF.1 o k (by rw [hz, e])
      simp [va_up_ne _ _ hb]
  | 3, h3 =>
    show Value.ref (va_up yd.1 Z.1.length q (Z.2.2.1 + (zN h Z.1.length).2.2 o % 6)) = Value.ref (yd.1 (Z.2.2.1 + h.2.2 o % 6))
    have e1 : (zN h Z.1.length).2.2 o = h.2.2 o := by simp [zN, ho]
    rw [e1, va_up_ne _ _ (h3 rfl _)]
  | t + 4, _ => rfl
theorem ent_new {Z : Stc} {yd : Dyn} {h : AH} {o q : Nat} {s sN : Shp} (hF : Frs Z) (e : Z.1[o]? = some s) : ent (addS Z sN) (ydN yd Z.1.length q) (zN h Z.1.length) o s = ent Z yd h o s := by
  have hl : o < Z.1.length := (List.getElem?_eq_some_iff.mp e).1
  have ho : o ≠ Z.1.length := by omega
  cases s with
  | inr ci =>
    show Sum.inr (ci, _) = Sum.inr (ci, _)
    congr 2
    exact eFs_congr _ _ (fun i t ht => eF_new hF ho (fun h3 => by subst h3; have := fty_3 ci i ht; subst this; exact hF.2.2 o e))
  | inl x =>
    obtain ⟨t, kd, n⟩ := x
    unfold ent
    simp only
    split
    · congr 2
      exact eFs_congr _ _ (fun i t ht => eF_new hF ho (fun h3 => absurd (h3 ▸ ht) (rty_3 _ i)))
    · show Sum.inl (tcl yd t, _) = Sum.inl (tcl yd t, _)
      congr 2
      unfold eA
      split
      · rw [show (zN h Z.1.length).1 o = h.1 o from funext fun j => by simp [zN, ho]]
      · rw [show (zN h Z.1.length).2.1 o = h.2.1 o from funext fun j => by simp [zN, ho]]
      · congr 5
        funext j
        show (Z.2.1 o j).map (va_up yd.1 Z.1.length q) = (Z.2.1 o j).map yd.1
        cases hz : Z.2.1 o j with
        | none => rfl
        | some b =>
          have hb : b ≠ Z.1.length := fun e => hF.1 o j (by rw [hz, e])
          simp [va_up_ne _ _ hb]
theorem wld_new {Z : Stc} {yd : Dyn} {h : AH} {q : Nat} {sN : Shp} {x : va_E} (hF : Frs Z) (hx : ent (addS Z sN) (ydN yd Z.1.length q) (zN h Z.1.length) Z.1.length sN = x) : wld Z yd h ++ [(q, x)] = wld (addS Z sN) (ydN yd Z.1.length q) (zN h Z.1.length) := by
  have hn : (addS Z sN).1.length = Z.1.length + 1 := by simp [addS]
  unfold wld
  rw [hn, List.range_succ, List.map_append]
  congr 1
  · apply List.map_congr_left
    intro o ho
    have hl := List.mem_range.mp ho
    obtain ⟨s, hs⟩ : ∃ s, Z.1[o]? = some s := ⟨_, List.getElem?_eq_getElem hl⟩
    have hs2 : (addS Z sN).1[o]? = some s := by
      show (Z.1 ++ [sN])[o]? = some s
      rw [List.getElem?_append_left hl]; exact hs
    have ha : (ydN yd Z.1.length q).1 o = yd.1 o := va_up_ne _ _ (by omega)
    rw [hs, hs2, ha]
    simp only [Option.getD_some]
    rw [ent_new hF hs]
  · have hs2 : (addS Z sN).1[Z.1.length]? = some sN := by
      show (Z.1 ++ [sN])[Z.1.length]? = some sN
      simp
    simp only [List.map_cons, List.map_nil, hs2, Option.getD_some]
    rw [hx, show (ydN yd Z.1.length q).1 Z.1.length = q from va_up_self _ _ _]
/-- references that are there already -/
def rokV (n : Nat) (v : Value) : Bool := match v with
  | .ref i => Nat.blt i n
  | _ => true
theorem cv_new {n q : Nat} {ad : Nat → Nat} {v : Value} (h : rokV n v = true) : cv (va_up ad n q) v = cv ad v := by
  cases v with
  | ref i =>
    have h1 : i < n := Nat.le_of_ble_eq_true h
    show Value.ref (va_up ad n q i) = _
    rw [va_up_ne _ _ (Nat.ne_of_lt h1)]
    rfl
  | _ => rfl
def rok (n : Nat) (lv : List (Nat × Value)) (st : List Value) : Bool := lv.all (fun q => rokV n q.2) && st.all (rokV n)
theorem lvc_ad {ad ad' : Nat → Nat} {n : Nat} (ha : ∀ o, o < n → ad' o = ad o) {lv : List (Nat × Value)} {st : List Value} (h : rok n lv st = true) : lvc ad' lv = lvc ad lv ∧ st.map (cv ad') = st.map (cv ad) := by
  simp only [rok, Bool.and_eq_true, List.all_eq_true] at h
  have key : ∀ v, rokV n v = true → cv ad' v = cv ad v := by
    intro v hv
    cases v with
    | ref i => show Value.ref (ad' i) = Value.ref (ad i); rw [ha i (Nat.le_of_ble_eq_true hv)]
    | _ => rfl
  exact ⟨List.map_congr_left fun q hq => by rw [key _ (h.1 q hq)], List.map_congr_left fun v hv => key _ (h.2 v hv)⟩
theorem ydN_old {yd : Dyn} {n q : Nat} : ∀ o, o < n → (ydN yd n q).1 o = yd.1 o := fun o ho => va_up_ne _ _ (by omega)
section AWN
variable {X : MCx} {cc : ByteArray} {own : String} {nL : Nat} {ret : Option FieldType} {rm : Room} {Z Z' : Stc} {yd : Dyn} {A : Nat → Prop} {k n : Nat} {α : Type} {Qf : α → AH → State → Prop} {pc ix : Nat} {lv : List (Nat × Value)} {st : List Value} {h : AH} {f : AH → Option (α × AH)}
theorem ra_one {cA cy : ClassId} {ty : FieldType} {s : State} (h1 : va_RA s cA ty) (h2 : va_RA s cy ty) : cA = cy := by
  cases ty with
  | object c =>
    obtain ⟨_, _, _, _, _, a⟩ := h1
    obtain ⟨_, _, _, _, _, b⟩ := h2
    exact Option.some.inj (a.symm.trans b)
  | _ => exact Option.some.inj ((show s.vm.findClass _ = some cA from h1).symm.trans h2)
theorem aw_newI (C : OK X cc own nL ret rm A) {c : Int32} {N : Nat} (d : decode cc pc = .ok (.newarray .int, 2)) (hc0 : ¬ c < 0) (hN : c.toNatClampNeg = N) (hb : N * componentBytes .int ≤ 536870912) (hF : Frs Z) (hZ : addS Z (.inl (0, 0, N)) = Z') (ht : Z.2.2.2[0]? = some .int) (hrk : rok Z.1.length lv st = true) (hc : k + 1 ≤ rm.cells) (hs : n + N ≤ rm.slots) (q : ∀ (a : Nat) (h1 : AH), AW X nL Z' (ydN yd Z.1.length a) A (k + 1) (n + N) Qf (pc + 2) lv (.ref Z.1.length :: st) h1 (f h1)) : AW X nL Z yd A k n Qf pc lv (.int c :: st) h (vl (zN h Z.1.length) f) := fun r h' e ls H locs hl hw => by
  subst hZ
  have hty := tyAt hw.2.2.2.2 ht
  refine va_newa (atype := .int) (ty := .int) (a0 := (N, .inl (fun _ => 0))) C.1 C.2.1 (C.2.2.2.2.1 _ w_arrI) rfl hw.2.2.2.1 hw.1 hw.2.1 hw.2.2.1 C.2.2.2.2.2.2.2.1 (fun _ => rfl) hc0 hN hb (by rw [C.2.2.2.2.2.2.2.2]; exact hc) (by rw [C.2.2.2.2.2.2.2.2]; exact hs) d (fun a cA H1 hK1 p1 p2 p3 => ?_)
  have hcA : cA = tcl yd 0 := ra_one (hK1.2 yd.2.2.length (cA, .int) (by simp)).2 (hw.2.2.2.1.2 0 _ hty).2
  subst hcA
  have hx : ent (addS Z (.inl (0, 0, N))) (ydN yd Z.1.length a) (zN h Z.1.length) Z.1.length (.inl (0, 0, N)) = .inl (tcl yd 0, N, .inl (fun _ => 0)) := by
    show Sum.inl (tcl yd 0, N, Sum.inl _) = _
    rw [show (zN h Z.1.length).1 Z.1.length = (fun _ => 0) from funext fun j => by simp [zN]]
  rw [wld_new hF hx] at p1 p2
  have hlv := lvc_ad (ad := yd.1) (ad' := (ydN yd Z.1.length a).1) ydN_old hrk
  have hr : cv (ydN yd Z.1.length a).1 (.ref Z.1.length) = .ref a := by show Value.ref _ = _; rw [show (ydN yd Z.1.length a).1 Z.1.length = a from va_up_self _ _ _]
  have g := q a _ r h' e ls H1 locs (by rw [hlv.1]; exact hl) ⟨p1, p2, p3, hw.2.2.2⟩
  rw [List.map_cons, hr, hlv.2] at g
  exact g
theorem aw_newJ (C : OK X cc own nL ret rm A) {c : Int32} {N : Nat} (hw0 : Cond.arrayClass .long ∈ TB) (d : decode cc pc = .ok (.newarray .long, 2)) (hc0 : ¬ c < 0) (hN : c.toNatClampNeg = N) (hb : N * componentBytes .long ≤ 536870912) (hF : Frs Z) (hZ : addS Z (.inl (1, 1, N)) = Z') (ht : Z.2.2.2[1]? = some .long) (hrk : rok Z.1.length lv st = true) (hc : k + 1 ≤ rm.cells) (hs : n + N ≤ rm.slots) (q : ∀ (a : Nat) (h1 : AH), AW X nL Z' (ydN yd Z.1.length a) A (k + 1) (n + N) Qf (pc + 2) lv (.ref Z.1.length :: st) h1 (f h1)) : AW X nL Z yd A k n Qf pc lv (.int c :: st) h (vl (zN h Z.1.length) f) := fun r h' e ls H locs hl hw => by
  subst hZ
  have hty := tyAt hw.2.2.2.2 ht
  refine va_newa (atype := .long) (ty := .long) (a0 := (N, .inr (.inl (fun _ => 0)))) C.1 C.2.1 (C.2.2.2.2.1 _ hw0) rfl hw.2.2.2.1 hw.1 hw.2.1 hw.2.2.1 C.2.2.2.2.2.2.2.1 (fun _ => rfl) hc0 hN hb (by rw [C.2.2.2.2.2.2.2.2]; exact hc) (by rw [C.2.2.2.2.2.2.2.2]; exact hs) d (fun a cA H1 hK1 p1 p2 p3 => ?_)
  have hcA : cA = tcl yd 1 := ra_one (hK1.2 yd.2.2.length (cA, .long) (by simp)).2 (hw.2.2.2.1.2 1 _ hty).2
  subst hcA
  have hx : ent (addS Z (.inl (1, 1, N))) (ydN yd Z.1.length a) (zN h Z.1.length) Z.1.length (.inl (1, 1, N)) = .inl (tcl yd 1, N, .inr (.inl (fun _ => 0))) := by
    show Sum.inl (tcl yd 1, N, Sum.inr (Sum.inl _)) = _
    rw [show (zN h Z.1.length).2.1 Z.1.length = (fun _ => 0) from funext fun j => by simp [zN]]
  rw [wld_new hF hx] at p1 p2
  have hlv := lvc_ad (ad := yd.1) (ad' := (ydN yd Z.1.length a).1) ydN_old hrk
  have hr : cv (ydN yd Z.1.length a).1 (.ref Z.1.length) = .ref a := by show Value.ref _ = _; rw [show (ydN yd Z.1.length a).1 Z.1.length = a from va_up_self _ _ _]
  have g := q a _ r h' e ls H1 locs (by rw [hlv.1]; exact hl) ⟨p1, p2, p3, hw.2.2.2⟩
  rw [List.map_cons, hr, hlv.2] at g
  exact g
theorem aw_newq (C : OK X cc own nL ret rm A) {c : Int32} {N t : Nat} {E : String} (hAO : va_AO E (xS X)) (hcl : Cond.classLink own ix E ∈ TB) (d : decode cc pc = .ok (.anewarray ix, 3)) (hc0 : ¬ c < 0) (hN : c.toNatClampNeg = N) (hb : N * 4 ≤ 536870912) (hF : Frs Z) (hZ : addS Z (.inl (t, 2, N)) = Z') (ht : Z.2.2.2[t]? = some (.object E)) (hrk : rok Z.1.length lv st = true) (hc : k + 1 ≤ rm.cells) (hs : n + N ≤ rm.slots) (q : ∀ (a : Nat) (h1 : AH), AW X nL Z' (ydN yd Z.1.length a) A (k + 1) (n + N) Qf (pc + 3) lv (.ref Z.1.length :: st) h1 (f h1)) : AW X nL Z yd A k n Qf pc lv (.int c :: st) h (vl (zN h Z.1.length) f) := fun r h' e ls H locs hl hw => by
  subst hZ
  have hty := tyAt hw.2.2.2.2 ht
  refine va_newq C.1 C.2.1 C.2.2.2.1 (C.2.2.2.2.1 _ hcl) hAO hw.2.2.2.1 hw.1 hw.2.1 hw.2.2.1 C.2.2.2.2.2.2.2.1 hc0 hN hb (by rw [C.2.2.2.2.2.2.2.2]; exact hc) (by rw [C.2.2.2.2.2.2.2.2]; exact hs) d (fun a cA H1 hK1 p1 p2 p3 => ?_)
  have hcA : cA = tcl yd t := ra_one (hK1.2 yd.2.2.length (cA, .object E) (by simp)).2 (hw.2.2.2.1.2 t _ hty).2
  subst hcA
  have hx : ent (addS Z (.inl (t, 2, N))) (ydN yd Z.1.length a) (zN h Z.1.length) Z.1.length (.inl (t, 2, N)) = .inl (tcl yd t, N, .inr (.inr (.inr (.inr (fun _ => none))))) := by
    show Sum.inl (tcl yd t, N, Sum.inr (Sum.inr (Sum.inr (Sum.inr _)))) = _
    rw [show (fun j => ((addS Z (.inl (t, 2, N))).2.1 Z.1.length j).map (ydN yd Z.1.length a).1) = (fun _ => none) from funext fun j => by show (Z.2.1 Z.1.length j).map _ = none; rw [hF.2.1 j]; rfl]
  rw [wld_new hF hx] at p1 p2
  have hlv := lvc_ad (ad := yd.1) (ad' := (ydN yd Z.1.length a).1) ydN_old hrk
  have hr : cv (ydN yd Z.1.length a).1 (.ref Z.1.length) = .ref a := by show Value.ref _ = _; rw [show (ydN yd Z.1.length a).1 Z.1.length = a from va_up_self _ _ _]
  have g := q a _ r h' e ls H1 locs (by rw [hlv.1]; exact hl) ⟨p1, p2, p3, hw.2.2.2⟩
  rw [List.map_cons, hr, hlv.2] at g
  exact g
/-- what a field of a kind holds when its object is new -/
def dvF (c : Option Nat) : Value := match c with
  | some 0 => .int 0
  | some 1 => .long 0
  | _ => .null
theorem eFs_born {Z : Stc} {yd : Dyn} {h : AH} {q : Nat} {sN : Shp} {codes : List Nat} (hF : Frs Z) (h3 : ∀ k : Nat, codes[k]? ≠ some 3) : eFs (addS Z sN) (ydN yd Z.1.length q).1 (zN h Z.1.length) Z.1.length 0 codes = codes.map (fun c => dvF (some c)) := by
  apply List.ext_getElem?
  intro j
  rw [eFs_get, Nat.zero_add, List.getElem?_map]
  cases hc : codes[j]? with
  | none => rfl
  | some t =>
    show some _ = some _
    congr 1
    match t, hc with
    | 0, _ => simp [eF, zN, dvF]
    | 1, _ => simp [eF, zN, dvF]
    | 2, _ =>
      show va_rf ((Z.2.1 Z.1.length j).map _) = _
      rw [hF.2.1 j]
      rfl
    | 3, hc => exact absurd hc (h3 j)
    | t + 4, _ => rfl
theorem aw_new (C : OK X cc own nL ret rm A) {ci N : Nat} {D : String} {T : u_T} {codes : List Nat} {ty : Nat → FieldType} (sN : Shp) (d : decode cc pc = .ok (.new ix, 3)) (hvc : vwCl[ci]? = some (D, T, N)) (hin : ∀ w ∈ u_ws D T N, w ∈ TB) (hty : ∀ k, k < N → parseFieldDescriptor (T k).2.2.1 = some (ty k)) (hcl : Cond.classLink own ix D ∈ TB) (hinst : Cond.instantiable D N ∈ TB) (hini : Cond.initialized D ∈ TB) (hE : ∀ (Z : Stc) (yd : Dyn) (h : AH) (o : Nat), ent Z yd h o sN = .inr (ci, eFs Z yd.1 h o 0 codes)) (h3 : ∀ k : Nat, codes[k]? ≠ some 3) (hdef : ∀ j : Nat, j < N → defaultValue (ty j) = vp_V (codes.map (fun c => dvF (some c))) j) (hF : Frs Z) (hZ : addS Z sN = Z') (hrk : rok Z.1.length lv st = true) (hc : k + 1 ≤ rm.cells) (hs : n + N ≤ rm.slots) (q : ∀ (a : Nat) (h1 : AH), AW X nL Z' (ydN yd Z.1.length a) A (k + 1) (n + N) Qf (pc + 3) lv (.ref Z.1.length :: st) h1 (f h1)) : AW X nL Z yd A k n Qf pc lv st h (vl (zN h Z.1.length) f) := fun r h' e ls H locs hl hw => by
  subst hZ
  refine va_new (ci := ci) (fs := codes.map (fun c => dvF (some c))) C.1 C.2.1 C.2.2.2.2.1 hin ty hty C.2.2.2.1 (C.2.2.2.2.1 _ hcl) (C.2.2.2.2.1 _ hinst) (C.2.2.2.2.1 _ hini) hw.2.2.2.1 hw.1 hw.2.1 hw.2.2.1 C.2.2.2.2.2.2.2.1 hvc hdef (by rw [C.2.2.2.2.2.2.2.2]; exact hc) (by rw [C.2.2.2.2.2.2.2.2]; exact hs) d (fun a H1 p1 p2 p3 => ?_)
  have hx : ent (addS Z sN) (ydN yd Z.1.length a) (zN h Z.1.length) Z.1.length sN = .inr (ci, codes.map (fun c => dvF (some c))) := by rw [hE, eFs_born hF h3]
  rw [wld_new hF hx] at p1 p2
  have hlv := lvc_ad (ad := yd.1) (ad' := (ydN yd Z.1.length a).1) ydN_old hrk
  have hr : cv (ydN yd Z.1.length a).1 (.ref Z.1.length) = .ref a := by show Value.ref _ = _; rw [show (ydN yd Z.1.length a).1 Z.1.length = a from va_up_self _ _ _]
  have g := q a _ r h' e ls H1 locs (by rw [hlv.1]; exact hl) ⟨p1, p2, p3, hw.2.2.2⟩
  rw [List.map_cons, hr, hlv.2] at g
  exact g
theorem aw_objInit (C : OK X cc own nL ret rm A) {a : Nat} (d : decode cc pc = .ok (.invokespecial ix, 3)) (hl : Cond.methodLink own ix Lib.objectInit ∈ TB) (hi : Cond.instanceMethod Lib.objectInit ∈ TB) (hco : Cond.code Lib.objectInit ⟨#[0xb1]⟩ 1 none ∈ TB) (hR : 1 ≤ rm.frames ∧ ((st.map (cv yd.1)).map fun v => v.category).sum + 12 ≤ rm.locals) {o : Option (α × AH)} (q : AW X nL Z yd A k n Qf (pc + 3) lv st h o) : AW X nL Z yd A k n Qf pc lv (.ref a :: st) h o := fun r h' e ls H locs hll hw => by
  refine W.objInit C.1 C.2.1 C.2.2.2.1 (C.2.2.2.2.1 _ hl) (C.2.2.2.2.1 _ hi) (C.2.2.2.2.1 _ hco) rfl (by rw [C.2.2.1]; exact hll.1) rfl d (by rw [C.2.2.2.2.2.2.2.2]; exact hR.1) (by rw [C.2.2.2.2.2.2.2.2]; have := hR.2; show 2 * (F0 (xM X) pc ls _).monitorRoom + _ + 12 ≤ _; simpa [JFrame.monitorRoom] using this) ?_
  exact q r h' e ls H locs hll hw
/-- a final reference field, written in a constructor -/
def FPF (own : String) (ix ci k : Nat) (ty : FieldType) : Prop := ∃ (D : String) (T : u_T) (N : Nat) (ty0 : Nat → FieldType), vwCl[ci]? = some (D, T, N) ∧ k < N ∧ (∀ w ∈ u_ws D T N, w ∈ TB) ∧ Cond.fieldLink own ix (T k).1 (T k).2.1 (T k).2.2.1 ∈ TB ∧ (∀ j, j < N → parseFieldDescriptor (T j).2.2.1 = some (ty0 j)) ∧ (∀ a, a < N → ∀ b, b < N → a ≠ b → (T a).2.1 ≠ (T b).2.1) ∧ (T k).2.2.2 = true ∧ (T k).1 = own ∧ parseFieldDescriptor (T k).2.2.1 = some ty
theorem wld_putR {o ci j b : Nat} (e : Z.1[o]? = some (.inr ci)) (hk : (fty ci)[j]? = some 2) : (wld Z yd h).set o (yd.1 o, .inr (ci, (eFs Z yd.1 h o 0 (fty ci)).set j (.ref (yd.1 b)))) = wld (putR Z o j b) yd h := by
  have hl : o < Z.1.length := (List.getElem?_eq_some_iff.mp e).1
  have other : ∀ (o' : Nat) (s' : Shp), o' ≠ o → ent (putR Z o j b) yd h o' s' = ent Z yd h o' s' := by
    intro o' s' hn
    have he : ∀ k t, eF (putR Z o j b) yd.1 h o' k t = eF Z yd.1 h o' k t := by
      intro k t
      unfold eF
      split <;> simp [putR, hn]
    have hs : ∀ l k, eFs (putR Z o j b) yd.1 h o' k l = eFs Z yd.1 h o' k l := fun l k => eFs_congr l k (fun i t _ => he _ _)
    cases s' with
    | inr c => simp only [ent]; rw [hs]
    | inl x =>
      unfold ent
      simp only
      split
      · rw [hs]
      · unfold eA
        split <;> simp [putR, hn]
  apply List.ext_getElem?
  intro i
  by_cases hi : i = o
  · subst hi
    rw [List.getElem?_set_self (by rw [wld_len]; exact hl), wld_at (Z := putR Z i j b) (show (putR Z i j b).1[i]? = some (.inr ci) from e)]
    show some (yd.1 i, Sum.inr (ci, _)) = some (yd.1 i, Sum.inr (ci, _))
    congr 4
    apply List.ext_getElem?
    intro m
    by_cases hm : m = j
    · subst hm
      rw [List.getElem?_set_self (by rw [eFs_len]; exact (List.getElem?_eq_some_iff.mp hk).1), eFs_get, hk, Nat.zero_add]
      simp [eF, putR, va_rf]
    · rw [List.getElem?_set_ne (Ne.symm hm), eFs_get, eFs_get, Nat.zero_add]
      cases (fty ci)[m]? with
      | none => rfl
      | some t =>
        show some _ = some _
        congr 1
        unfold eF
        split <;> simp [putR, hm]
  · rw [List.getElem?_set_ne (Ne.symm hi)]
    by_cases hil : i < Z.1.length
    · obtain ⟨s, hs⟩ : ∃ s, Z.1[i]? = some s := ⟨_, List.getElem?_eq_getElem hil⟩
      rw [wld_at hs, wld_at (Z := putR Z o j b) (show (putR Z o j b).1[i]? = some s from hs), other i s hi]
    · rw [List.getElem?_eq_none (by rw [wld_len]; omega), List.getElem?_eq_none (by rw [wld_len]; show Z.1.length ≤ i; omega)]
theorem aw_putRF (C : OK X cc own nL ret rm A) {a ci j b : Nat} {ty : FieldType} (hin2 : X.2.2.2.2.2.2.2.2.1.name = "<init>") (d : decode cc pc = .ok (.putfield ix, 3)) (hf : FPF own ix ci j ty) (hs : Z.1[a]? = some (.inr ci)) (hk : (fty ci)[j]? = some 2) (hn : ∀ x, narrow ty (.ref x) = .ref x) (hfi : ∀ x, fits ty (.ref x) = true) (hZ : putR Z a j b = Z') {o : Option (α × AH)} (q : AW X nL Z' yd A k n Qf (pc + 3) lv st h o) : AW X nL Z yd A k n Qf pc lv (.ref b :: .ref a :: st) h o := fun r h' e ls H locs hl hw => by
  subst hZ
  obtain ⟨D, T, N, ty0, e1, e2, e3, e4, e5, e6, e7, e9, e8⟩ := hf
  have he := wld_at (yd := yd) (h := h) hs
  refine va_putF (v := .ref (yd.1 b)) (ty := ty) C.1 C.2.1 C.2.2.2.2.1 e3 ty0 e5 e6 C.2.2.2.1 hw.2.2.2.1 hw.1 hw.2.1 hw.2.2.1 a he e1 j e2 (C.2.2.2.2.1 _ e4) (fun _ h9 => h9) e7 hin2 e9 e8 (hn _) (hfi _) (by rw [eFs_len]; exact (List.getElem?_eq_some_iff.mp hk).1) d (fun H1 locs1 p1 p2 p3 => ?_)
  rw [wld_putR hs hk] at p1 p2
  exact q r h' e ls H1 locs1 hl ⟨p1, p2, p3, hw.2.2.2⟩
/-- of a class's objects: they may stand where a reference to another class is wanted -/
def AsgOk (X : MCx) (a b : String) : Prop := ∀ c e : ClassId, (xS X).vm.findClass a = some c → (xS X).vm.findClass b = some e → (xS X).vm.assignable c e = true
theorem wld_aast {o t m j b : Nat} (e : Z.1[o]? = some (.inl (t, 2, m))) : (wld Z yd h).set o (yd.1 o, .inl (tcl yd t, m, .inr (.inr (.inr (.inr (va_up (fun i => (Z.2.1 o i).map yd.1) j (some (yd.1 b)))))))) = wld (putR Z o j b) yd h := by
  have hl : o < Z.1.length := (List.getElem?_eq_some_iff.mp e).1
  have other : ∀ (o' : Nat) (s' : Shp), o' ≠ o → ent (putR Z o j b) yd h o' s' = ent Z yd h o' s' := by
    intro o' s' hn
    have he : ∀ k t, eF (putR Z o j b) yd.1 h o' k t = eF Z yd.1 h o' k t := by
      intro k t
      unfold eF
      split <;> simp [putR, hn]
    have hs : ∀ l k, eFs (putR Z o j b) yd.1 h o' k l = eFs Z yd.1 h o' k l := fun l k => eFs_congr l k (fun i t _ => he _ _)
    cases s' with
    | inr c => simp only [ent]; rw [hs]
    | inl x =>
      unfold ent
      simp only
      split
      · rw [hs]
      · unfold eA
        split <;> simp [putR, hn]
  apply List.ext_getElem?
  intro i
  by_cases hi : i = o
  · subst hi
    rw [List.getElem?_set_self (by rw [wld_len]; exact hl), wld_at (Z := putR Z i j b) (show (putR Z i j b).1[i]? = some (.inl (t, 2, m)) from e)]
    show some (yd.1 i, Sum.inl (tcl yd t, m, Sum.inr (Sum.inr (Sum.inr (Sum.inr _))))) = some (yd.1 i, Sum.inl (tcl yd t, m, Sum.inr (Sum.inr (Sum.inr (Sum.inr _)))))
    congr 8
    apply congrArg
    funext x
    by_cases hx : x = j
    · subst hx
      simp [va_up, putR]
    · simp [va_up, putR, hx]
  · rw [List.getElem?_set_ne (Ne.symm hi)]
    by_cases hil : i < Z.1.length
    · obtain ⟨s, hs⟩ : ∃ s, Z.1[i]? = some s := ⟨_, List.getElem?_eq_getElem hil⟩
      rw [wld_at hs, wld_at (Z := putR Z o j b) (show (putR Z o j b).1[i]? = some s from hs), other i s hi]
    · rw [List.getElem?_eq_none (by rw [wld_len]; omega), List.getElem?_eq_none (by rw [wld_len]; show Z.1.length ≤ i; omega)]
theorem aw_aast (C : OK X cc own nL ret rm A) {a b t m ci : Nat} {i : Int32} {E : String} {qv : vw_C} (d : decode cc pc = .ok (.aastore, 1)) (hs : Z.1[a]? = some (.inl (t, 2, m))) (ht : Z.2.2.2[t]? = some (.object E)) (hb : Z.1[b]? = some (.inr ci)) (hcv : vwCl[ci]? = some qv) (hasg : AsgOk X qv.1 E) (hi0 : ¬ i < 0) (him : i.toNatClampNeg < m) (hZ : putR Z a i.toNatClampNeg b = Z') {o : Option (α × AH)} (q : AW X nL Z' yd A k n Qf (pc + 1) lv st h o) : AW X nL Z yd A k n Qf pc lv (.ref b :: .int i :: .ref a :: st) h o := fun r h' e ls H locs hl hw => by
  subst hZ
  obtain ⟨cell, g1, g2, g3⟩ := recv_at hw hb hcv
  obtain ⟨hfc, kB, hkB, -⟩ := (hw.2.2.2.1.1 ci qv hcv).2
  have hce := Option.some.inj (hfc.symm.trans g3)
  have hin : vp_in i m := fun z => z.elim hi0 (fun y => absurd him (Nat.not_lt.mpr y))
  refine va_astqM (f := fun j => (Z.2.1 a j).map yd.1) C.1 C.2.1 hw.2.2.2.1 hw.1 hw.2.1 hw.2.2.1 a t (wld_at hs) (tyAt hw.2.2.2.2 ht) ⟨cell, g1, g2, ⟨kB, by rw [← hce]; exact hkB⟩, fun comp hcomp => hasg _ _ g3 hcomp⟩ hin d (fun H1 locs1 p1 p2 p3 => ?_)
  rw [wld_aast hs] at p1 p2
  exact q r h' e ls H1 locs1 hl ⟨p1, p2, p3, hw.2.2.2⟩
end AWN
/-! constructors: the world grows, old objects keep their places -/
def PostN (Z Z' : Stc) (yd : Dyn) (A : Nat → Prop) (h' : AH) : Array Value → State → Outcome → State → Prop := fun _ s o t => o = .returned none ∧ (∃ ad' : Nat → Nat, (∀ o, o < Z.1.length → ad' o = yd.1 o) ∧ va_P yd.2.1 vwCl (wld Z' (ad', yd.2) h') t.heap ∧ va_D A (wld Z' (ad', yd.2) h')) ∧ va_F A s t
def MCN (l : Launch) (y : MethodName) (cc : ByteArray) (nL : Nat) (rm : Room) (KX : State → Prop) (Z Z' : Stc) (avs : List Value) (F : AH → Option (Unit × AH)) : Prop :=
  ∀ (yd : Dyn) (h : AH) (r : Unit) (h' : AH) (sz : Nat), F h = some (r, h') → Met l y (.code y cc nL none :: TB) rm (va_Pc (avs.map (cv yd.1)) (fun U => PreB Z yd h sz U ∧ KX U)) (PostN Z Z' yd (AA yd Z sz) h') rm.cells rm.slots (AA yd Z sz)
def QFN (X : MCx) (rm : Room) (Z Z' : Stc) (yd : Dyn) (A : Nat → Prop) (_ : Unit) (h' : AH) : State → Prop := MQ X.2.2.2.2.2.2.2.1 (PostN Z Z' yd A h') X.2.2.2.2.2.2.1 (xS X) rm.cells rm.slots A
def Agr (Z : Stc) (yd yd' : Dyn) : Prop := yd'.2 = yd.2 ∧ ∀ o, o < Z.1.length → yd'.1 o = yd.1 o
theorem Agr.rf {Z : Stc} {yd : Dyn} : Agr Z yd yd := ⟨rfl, fun _ _ => rfl⟩
theorem Agr.new {Z : Stc} {yd yd' : Dyn} {n a : Nat} (h : Agr Z yd yd') (hn : Z.1.length ≤ n) : Agr Z yd (ydN yd' n a) := ⟨h.1, fun o ho => (va_up_ne _ _ (by omega)).trans (h.2 o ho)⟩
theorem Agr.call {Z : Stc} {yd yd' : Dyn} {n : Nat} {ad' : Nat → Nat} (h : Agr Z yd yd') (hn : Z.1.length ≤ n) (ha : ∀ o, o < n → ad' o = yd'.1 o) : Agr Z yd (ad', yd'.2) := ⟨h.1, fun o ho => (ha o (by omega)).trans (h.2 o ho)⟩
theorem MCN.of {l : Launch} {y : MethodName} {cc : ByteArray} {nL : Nat} {rm : Room} {KX : State → Prop} {Z Z' : Stc} {avs : List Value} {F : AH → Option (Unit × AH)} {own : String} (hy : plainName y.cls = true) (hown : y.cls = own) (hnm : y.name = "<init>") (hl : (lg_sl avs).length ≤ nL)
    (body : ∀ (X : MCx) (yd : Dyn) (A : Nat → Prop) (h : AH), OK X cc own nL none rm A → KX (xS X) → X.2.2.2.2.2.2.2.2.1.name = "<init>" → AW X nL Z yd A 0 0 (QFN X rm Z Z' yd A) 0 (lv_args 0 avs) [] h (F h)) : MCN l y cc nL rm KX Z Z' avs F := by
  intro yd h r h' sz hF
  refine Met.ofW (cc := cc) (maxL := nL) (ret := none) hy rfl ?_
  intro p e s m args below meth c s₁ B hml hv
  obtain ⟨rfl, ⟨hsz, hP, hK, hD0, hT⟩, hKX⟩ := hv
  have hts := atoms_spec (ws := .code y cc nL none :: TB) B.pre
  have hown2 : s.vm.findClass y.cls = some m.cls := findClass_of_methodNamed B.named
  have hlv := lv_entry (avs.map (cv yd.1)) (n := nL) (by rw [sl_len]; exact hl)
  rw [lg_entry_eq]
  rw [lvc_args] at hlv
  have hA : ∀ q, s.heap.size ≤ q → AA yd Z sz q := fun q hq => Or.inr (hsz ▸ hq)
  exact body (p, l, e, (headSpec (.code y cc nL none :: TB) rm).room, s, m, (avs.map (cv yd.1)).toArray, below, meth, c) yd (AA yd Z sz) h ⟨B.exec, B.bytes, hml, hown ▸ hown2, fun w hw => hts w (List.mem_cons_of_mem _ hw), B.notSynchronized, B.returns, hA, rfl⟩ hKX (hnm ▸ (name_of_methodNamed B.named B.method).1) r h' hF _ s.heap [] hlv ⟨hP, AA_D hD0, va_S.rf, hK, hT⟩
section AWNE
variable {X : MCx} {cc : ByteArray} {own : String} {nL : Nat} {ret : Option FieldType} {rm : Room} {Z Z' Z0 : Stc} {yd yd' : Dyn} {A : Nat → Prop} {k n : Nat} {α : Type} {Qf : α → AH → State → Prop} {pc ix : Nat} {lv : List (Nat × Value)} {st : List Value} {h : AH}
theorem aw_vretN (C : OK X cc own nL none rm A) (hg : Agr Z yd yd') (d : decode cc pc = .ok (.return_, 1)) (hc : k = rm.cells) (hs : n = rm.slots) : AW X nL Z' yd' A k n (QFN X rm Z Z' yd A) pc lv [] h (some ((), h)) := fun r h' e ls H locs hl hw => by
  cases e; subst hc; subst hs
  have hy : yd' = (yd'.1, yd.2) := by rw [← hg.1]
  have hD := hw.2.1
  refine W.vret C.1 C.2.1 C.2.2.2.2.2.2.1 (fun t ht hW => ⟨rfl, ⟨yd'.1, hg.2, ?_, ?_⟩, hw.2.2.1.F ht⟩) hw.2.2.1.2.2 d C.2.2.2.2.2.1
  · rw [ht, ← hy, ← hg.1]; exact hw.1
  · rw [← hy]; exact hD
/-- a constructor's call; hrun: how it is linked -/
theorem aw_callC (C : OK X cc own nL ret rm A) {rm' : Room} {F : AH → Option (Unit × AH)} {oc : Option (Unit × AH)} {rest : List Value} {f : Unit → AH → Option (α × AH)}
    (hrun : ∀ (r : Unit) (h' : AH), F h = some (r, h') → ∀ (ls : Array Slot) (H : Heap) (locs : List Loc), ls.size = nL → WR X Z yd A h H locs → va_Run X.1 X.2.1 X.2.2.1 X.2.2.2.1 (xS X) (xM X) X.2.2.2.2.2.2.1 X.2.2.2.2.2.2.2.1 X.2.2.2.2.2.2.2.2.1 X.2.2.2.2.2.2.2.2.2 H locs k n rm'.cells rm'.slots (F0 (xM X) pc ls (st.map (cv yd.1))) (rest.map (cv yd.1)) (PostN Z Z' yd (AA yd Z H.size) h' #[]) (AA yd Z H.size))
    (hF : F h = oc) (hrk : rok Z.1.length lv rest = true) (q : ∀ (ad' : Nat → Nat) (h1 : AH), (∀ o, o < Z.1.length → ad' o = yd.1 o) → AW X nL Z' (ad', yd.2) A (k + rm'.cells) (n + rm'.slots) Qf (pc + 3) lv rest h1 (f () h1)) (hTl : Z'.2.2.2 = Z.2.2.2) : AW X nL Z yd A k n Qf pc lv st h (bd oc f) := by
  subst hF
  intro r h' e ls H locs hl hw
  cases hF : F h with
  | none => rw [hF] at e; cases e
  | some p =>
    rw [hF] at e
    have e : f p.1 p.2 = some (r, h') := e
    have run := hrun p.1 p.2 hF ls H locs hl.1 hw
    intro T hT XX
    obtain ⟨v, st₀, t, T', L, h0, X', hL, e1, e2, ⟨hv, ⟨ad', ha, hP1, hD1⟩, hz, hk⟩, stp⟩ := run T hT XX
    cases hv
    rw [h0] at hz hk
    have hin := AA_in hw C.2.2.2.2.2.2.2.1
    have hS : va_S A (xS X).heap T'.heap (locs ++ L) := ⟨Nat.le_trans hw.2.2.1.1 (by rw [e1]; exact hz), fun q h1 h2 => by rw [e1, hk q (Nat.lt_of_lt_of_le h1 hw.2.2.1.1) (fun z => h2 (hin q z))]; exact hw.2.2.1.2.1 q h1 h2, fun q hq => by
      rcases List.mem_append.mp hq with h | h
      · exact hw.2.2.1.2.2 q h
      · exact hin _ (hL q h)⟩
    have hlv := lvc_ad (ad := yd.1) (ad' := ad') ha hrk
    obtain ⟨t2, a1, b1⟩ := q ad' p.2 ha r h' e ls T'.heap (locs ++ L) (by rw [hlv.1]; exact hl) ⟨by rw [e1]; exact hP1, hD1.weaken (fun _ _ _ hz => hin _ hz), hS, hw.2.2.2.1, by rw [hTl]; exact hw.2.2.2.2⟩ T' rfl X'
    refine ⟨t2, stp t2 ?_, b1⟩
    rw [hlv.2] at a1
    exact a1
theorem cn_pre {KX : State → Prop} (hKm : ∀ u U : State, u.WarmedH U.vm → KX u → KX U) {H : Heap} {locs : List Loc} {avs : List Value} (hw : WR X Z yd A h H locs) (hK : KX (xS X)) : ∀ U : State, U.heap = H → (xS X).WarmedH U.vm → va_Pc avs (fun U => PreB Z yd h H.size U ∧ KX U) avs.toArray U := fun U hU hW => ⟨rfl, (pre_at (avs := avs) hw U hU hW).2, hKm _ _ hW hK⟩
theorem run_I {y : MethodName} {bytes : ByteArray} {maxL np : Nat} {rm' : Room} {F : AH → Option (Unit × AH)} {b : Nat} {As rest : List Value} {KX : State → Prop} (C : OK X cc own nL ret rm A) (hKm : ∀ u U : State, u.WarmedH U.vm → KX u → KX U) (hKb : ∀ (a : Array Value) (U : State) (g : JFrame) (mk : MethodId), KX U → KX (U.calling g mk a)) (hKX : KX (xS X)) (hX : MCN X.2.1 y bytes maxL rm' KX Z Z' (.ref b :: As) F) (d : decode cc pc = .ok (.invokespecial ix, 3)) (M : MF y bytes maxL none np) (hl : Cond.methodLink own ix y ∈ TB) (hi : Cond.instanceMethod y ∈ TB) (hnm : y.name = "<init>") (hR : RmOk rm' rm maxL) (hn : As.length = np) (hs : st = As.reverse ++ .ref b :: rest) (hW : ((rest.map (cv yd.1)).map fun v => v.category).sum ≤ 8) (hcs : k + rm'.cells ≤ rm.cells ∧ n + rm'.slots ≤ rm.slots) : ∀ (r : Unit) (h' : AH), F h = some (r, h') → ∀ (ls : Array Slot) (H : Heap) (locs : List Loc), ls.size = nL → WR X Z yd A h H locs → va_Run X.1 X.2.1 X.2.2.1 X.2.2.2.1 (xS X) (xM X) X.2.2.2.2.2.2.1 X.2.2.2.2.2.2.2.1 X.2.2.2.2.2.2.2.2.1 X.2.2.2.2.2.2.2.2.2 H locs k n rm'.cells rm'.slots (F0 (xM X) pc ls (st.map (cv yd.1))) (rest.map (cv yd.1)) (PostN Z Z' yd (AA yd Z H.size) h' #[]) (AA yd Z H.size) := by
  intro r h' hF ls H locs hls hw
  exact va_runI (b := yd.1 b) (As := As.map (cv yd.1)) (Ts := TB) ⟨C.1, C.2.1, C.2.2.1, C.2.2.2.1, C.2.2.2.2.1⟩ (hX yd h r h' H.size hF) ⟨C.callB M hl hR, hnm, C.2.2.2.2.1 _ hi⟩ ⟨fun a U g mk q => ⟨(pre_blind (avs := _) a U g mk ⟨q.1, q.2.1⟩).1, (pre_blind (Z := Z) (yd := yd) (h := h) a U g mk ⟨q.1, q.2.1⟩).2, hKb a U g mk q.2.2⟩, cn_pre hKm hw hKX⟩ rfl (by rw [List.length_map]; exact hn) hls (by rw [hs]; simp [cv]) (lv_room hW) d (by rw [C.2.2.2.2.2.2.2.2]; exact hcs)
theorem run_IN {y : MethodName} {host : String} {bytes : ByteArray} {maxL np : Nat} {rm' : Room} {F : AH → Option (Unit × AH)} {b : Nat} {As rest : List Value} {KX : State → Prop} (C : OK X cc own nL ret rm A) (hKm : ∀ u U : State, u.WarmedH U.vm → KX u → KX U) (hKb : ∀ (a : Array Value) (U : State) (g : JFrame) (mk : MethodId), KX U → KX (U.calling g mk a)) (hKX : KX (xS X)) (hX : MCN X.2.1 y bytes maxL rm' KX Z Z' (.ref b :: As) F) (d : decode cc pc = .ok (.invokespecial ix, 3)) (M : MF y bytes maxL none np) (hl : va_Nw (.methodLinkNest own ix y host) (xS X)) (hi : Cond.instanceMethod y ∈ TB) (hnm : y.name = "<init>") (hR : RmOk rm' rm maxL) (hn : As.length = np) (hs : st = As.reverse ++ .ref b :: rest) (hW : ((rest.map (cv yd.1)).map fun v => v.category).sum ≤ 8) (hcs : k + rm'.cells ≤ rm.cells ∧ n + rm'.slots ≤ rm.slots) : ∀ (r : Unit) (h' : AH), F h = some (r, h') → ∀ (ls : Array Slot) (H : Heap) (locs : List Loc), ls.size = nL → WR X Z yd A h H locs → va_Run X.1 X.2.1 X.2.2.1 X.2.2.2.1 (xS X) (xM X) X.2.2.2.2.2.2.1 X.2.2.2.2.2.2.2.1 X.2.2.2.2.2.2.2.2.1 X.2.2.2.2.2.2.2.2.2 H locs k n rm'.cells rm'.slots (F0 (xM X) pc ls (st.map (cv yd.1))) (rest.map (cv yd.1)) (PostN Z Z' yd (AA yd Z H.size) h' #[]) (AA yd Z H.size) := by
  intro r h' hF ls H locs hls hw
  exact va_runIN (b := yd.1 b) (As := As.map (cv yd.1)) (Ts := TB) ⟨C.1, C.2.1, C.2.2.1, C.2.2.2.1, C.2.2.2.2.1⟩ (hX yd h r h' H.size hF) ⟨⟨⟨rfl, rfl, by rw [C.2.2.2.2.2.2.2.2]; exact hR.1, by rw [C.2.2.2.2.2.2.2.2]; exact hR.2, C.warm M.2.1, List.mem_cons_self⟩, C.2.2.2.2.1 _ M.2.1, C.2.2.2.2.1 _ M.1, M.2.2.1, M.n, va_Nw.use rfl hl⟩, hnm, C.2.2.2.2.1 _ hi⟩ ⟨fun a U g mk q => ⟨(pre_blind (avs := _) a U g mk ⟨q.1, q.2.1⟩).1, (pre_blind (Z := Z) (yd := yd) (h := h) a U g mk ⟨q.1, q.2.1⟩).2, hKb a U g mk q.2.2⟩, cn_pre hKm hw hKX⟩ rfl (by rw [List.length_map]; exact hn) hls (by rw [hs]; simp [cv]) (lv_room hW) d (by rw [C.2.2.2.2.2.2.2.2]; exact hcs)
end AWNE
end
section
/-! a jumper's way set first; an array of arrays made -/
def shpS (Z : Stc) (o : Nat) (s : Shp) : Stc := (Z.1.set o s, Z.2)
section AWN2
variable {X : MCx} {cc : ByteArray} {own : String} {nL : Nat} {ret : Option FieldType} {rm : Room} {Z Z' : Stc} {yd : Dyn} {A : Nat → Prop} {k n : Nat} {α : Type} {Qf : α → AH → State → Prop} {pc ix : Nat} {lv : List (Nat × Value)} {st : List Value} {h : AH} {f : AH → Option (α × AH)}
theorem ent_shp {o i : Nat} {x s : Shp} : ent (shpS Z o x) yd h i s = ent Z yd h i s := by
  have he : ∀ l k, eFs (shpS Z o x) yd.1 h i k l = eFs Z yd.1 h i k l := fun l k => eFs_congr l k (fun _ _ _ => rfl)
  cases s with
  | inr ci => simp only [ent]; rw [he]
  | inl y =>
    unfold ent
    simp only
    split
    · rw [he]
    · rfl
theorem wld_putW0 {o v : Nat} (e : Z.1[o]? = some (.inl (0, 9, 2))) : (wld Z yd h).set o (yd.1 o, .inr (2, (eFs Z yd.1 h o 0 (rty 2)).set 0 (.ref (yd.1 (Z.2.2.1 + v % 6))))) = wld (shpS Z o (.inr 2)) yd (sK h o v) := by
  have hl : o < Z.1.length := (List.getElem?_eq_some_iff.mp e).1
  have hlen : (shpS Z o (.inr 2)).1.length = Z.1.length := by simp [shpS]
  apply List.ext_getElem?
  intro i
  by_cases hi : i = o
  · subst hi
    have e2 : (shpS Z i (.inr 2)).1[i]? = some (.inr 2) := by
      show (Z.1.set i (.inr 2))[i]? = _
      rw [List.getElem?_set_self hl]
    rw [List.getElem?_set_self (by rw [wld_len]; exact hl), wld_at e2]
    simp [ent, eFs, rty, fty, eF, sK, shpS]
  · rw [List.getElem?_set_ne (Ne.symm hi)]
    by_cases hil : i < Z.1.length
    · obtain ⟨s, hs⟩ : ∃ s, Z.1[i]? = some s := ⟨_, List.getElem?_eq_getElem hil⟩
      have e2 : (shpS Z o (.inr 2)).1[i]? = some s := by
        show (Z.1.set o (.inr 2))[i]? = _
        rw [List.getElem?_set_ne (Ne.symm hi)]; exact hs
      rw [wld_at hs, wld_at e2]
      have := ent_sK_ne (shpS Z o (.inr 2)) yd h (o := o) (o' := i) v s hi
      rw [this, ent_shp]
    · rw [List.getElem?_eq_none (by rw [wld_len]; omega), List.getElem?_eq_none (by rw [wld_len, hlen]; omega)]
theorem aw_putW0 (C : OK X cc own nL ret rm A) {a b v : Nat} {D0 : String} (d : decode cc pc = .ok (.putfield ix, 3)) (hf : FP own ix 2 0 (.object D0)) (hs : Z.1[a]? = some (.inl (0, 9, 2))) (hb : Z.2.2.1 + v % 6 = b) (hZ : shpS Z a (.inr 2) = Z') (q : ∀ h1, AW X nL Z' yd A k n Qf (pc + 3) lv st h1 (f h1)) : AW X nL Z yd A k n Qf pc lv (.ref b :: .ref a :: st) h (vl (sK h a v) f) := fun r h' e ls H locs hl hw => by
  obtain ⟨D, T, N, ty0, e1, e2, e3, e4, e5, e6, e7, e8⟩ := hf
  have he := wld_at (yd := yd) (h := h) hs
  subst hb; subst hZ
  refine va_put (v := .ref (yd.1 (Z.2.2.1 + v % 6))) (ty := .object D0) C.1 C.2.1 C.2.2.2.2.1 e3 ty0 e5 e6 C.2.2.2.1 hw.2.2.2.1 hw.1 hw.2.1 hw.2.2.1 a he e1 0 e2 (C.2.2.2.2.1 _ e4) (fun _ h9 => h9) e7 e8 rfl rfl (by rw [eFs_len]; exact Nat.le_of_ble_eq_true rfl) d (fun H1 locs1 p1 p2 p3 => ?_)
  rw [wld_putW0 hs] at p1 p2
  exact q _ r h' e ls H1 locs1 hl ⟨p1, p2, p3, hw.2.2.2⟩
/-- the table with an array of M arrays of N longs behind it, each set in its place -/
def addM (Z : Stc) (M N : Nat) : Stc := (Z.1 ++ .inl (4, 2, M) :: List.replicate M (.inl (1, 1, N)), (fun o k => if o = Z.1.length then (if k < M then some (Z.1.length + 1 + k) else none) else Z.2.1 o k), Z.2.2)
def zM (h : AH) (n M : Nat) : AH := (fun o k => if n ≤ o ∧ o ≤ n + M then 0 else h.1 o k, fun o k => if n ≤ o ∧ o ≤ n + M then 0 else h.2.1 o k, fun o => if n ≤ o ∧ o ≤ n + M then 0 else h.2.2 o)
def ydM (yd : Dyn) (n q : Nat) (r : Nat → Nat) : Dyn := (fun o => if o < n then yd.1 o else if o = n then q else r (o - n - 1), yd.2)
def FrM (Z : Stc) : Prop := (∀ o k b, Z.2.1 o k = some b → b < Z.1.length) ∧ (∀ o : Nat, Z.1[o]? = some (Sum.inr 2 : Shp) → ∀ j : Nat, Z.2.2.1 + j % 6 < Z.1.length)
theorem ent_mna {M N q o : Nat} {r : Nat → Nat} {s : Shp} (hF : FrM Z) (e : Z.1[o]? = some s) : ent (addM Z M N) (ydM yd Z.1.length q r) (zM h Z.1.length M) o s = ent Z yd h o s := by
  have hl : o < Z.1.length := (List.getElem?_eq_some_iff.mp e).1
  have n1 : ¬ (Z.1.length ≤ o ∧ o ≤ Z.1.length + M) := fun z => by omega
  have n2 : o ≠ Z.1.length := by omega
  have had : ∀ b, b < Z.1.length → (ydM yd Z.1.length q r).1 b = yd.1 b := fun b hb => if_pos hb
  have hrf : ∀ j, ((addM Z M N).2.1 o j).map (ydM yd Z.1.length q r).1 = (Z.2.1 o j).map yd.1 := by
    intro j
    show ((if o = Z.1.length then _ else Z.2.1 o j)).map _ = _
    rw [if_neg n2]
    cases hz : Z.2.1 o j with
    | none => rfl
    | some b => show some _ = some _; rw [had b (hF.1 o j b hz)]
  have heF : ∀ i t, (t = 3 → ∀ j, Z.2.2.1 + j % 6 < Z.1.length) → eF (addM Z M N) (ydM yd Z.1.length q r).1 (zM h Z.1.length M) o i t = eF Z yd.1 h o i t := by
    intro i t h3
    match t, h3 with
    | 0, _ => simp [eF, zM, n1]
    | 1, _ => simp [eF, zM, n1]
    | 2, _ => show va_rf _ = va_rf _; rw [hrf]
    | 3, h3 =>
      show Value.ref ((ydM yd Z.1.length q r).1 (Z.2.2.1 + (zM h Z.1.length M).2.2 o % 6)) = Value.ref (yd.1 (Z.2.2.1 + h.2.2 o % 6))
      have e1 : (zM h Z.1.length M).2.2 o = h.2.2 o := if_neg n1
      rw [e1, had _ (h3 rfl _)]
    | t + 4, _ => rfl
  cases s with
  | inr ci =>
    show Sum.inr (ci, _) = Sum.inr (ci, _)
    congr 2
    exact eFs_congr _ _ (fun i t ht => heF _ _ (fun h3 => by subst h3; have := fty_3 ci i ht; subst this; exact hF.2 o e))
  | inl x =>
    obtain ⟨t, kd, m⟩ := x
    unfold ent
    simp only
    split
    · congr 2
      exact eFs_congr _ _ (fun i t ht => heF _ _ (fun h3 => absurd (h3 ▸ ht) (rty_3 _ i)))
    · show Sum.inl (tcl yd t, _) = Sum.inl (tcl yd t, _)
      congr 2
      unfold eA
      split
      · rw [show (zM h Z.1.length M).1 o = h.1 o from funext fun j => if_neg n1]
      · rw [show (zM h Z.1.length M).2.1 o = h.2.1 o from funext fun j => if_neg n1]
      · congr 5
        funext j
        exact hrf j
theorem wld_mna {M N q : Nat} {r : Nat → Nat} (hF : FrM Z) : (wld Z yd h ++ [(q, .inl (tcl yd 4, M, .inr (.inr (.inr (.inr (fun i => if i < M then some (r i) else none))))))]) ++ (List.range M).map (fun i => (r i, (.inl (tcl yd 1, N, .inr (.inl (fun _ => 0))) : va_E))) = wld (addM Z M N) (ydM yd Z.1.length q r) (zM h Z.1.length M) := by
  have hlen : (addM Z M N).1.length = Z.1.length + 1 + M := by simp [addM]; omega
  apply List.ext_getElem?
  intro i
  by_cases h1 : i < Z.1.length
  · obtain ⟨s, hs⟩ : ∃ s, Z.1[i]? = some s := ⟨_, List.getElem?_eq_getElem h1⟩
    have e2 : (addM Z M N).1[i]? = some s := by
      show (Z.1 ++ _)[i]? = _
      rw [List.getElem?_append_left h1]; exact hs
    rw [List.getElem?_append_left (by simp [wld_len]; omega), List.getElem?_append_left (by rw [wld_len]; exact h1), wld_at hs, wld_at e2, ent_mna hF hs]
    rw [show (ydM yd Z.1.length q r).1 i = yd.1 i from if_pos h1]
  · by_cases h2 : i = Z.1.length
    · subst h2
      have e2 : (addM Z M N).1[Z.1.length]? = some (.inl (4, 2, M)) := by
        show (Z.1 ++ _)[Z.1.length]? = _
        simp
      rw [List.getElem?_append_left (by simp [wld_len]), List.getElem?_append_right (by rw [wld_len]; exact Nat.le_refl _), wld_at e2]
      have ha : (ydM yd Z.1.length q r).1 Z.1.length = q := by simp [ydM]
      rw [ha]
      simp only [wld_len, Nat.sub_self, List.getElem?_cons_zero]
      show some (q, Sum.inl (tcl yd 4, M, _)) = some (q, Sum.inl (tcl yd 4, M, Sum.inr (Sum.inr (Sum.inr (Sum.inr _)))))
      congr 8
      apply congrArg
      funext j
      show _ = ((if Z.1.length = Z.1.length then (if j < M then some (Z.1.length + 1 + j) else none) else Z.2.1 Z.1.length j)).map (ydM yd Z.1.length q r).1
      rw [if_pos rfl]
      by_cases hj : j < M
      · rw [if_pos hj, if_pos hj]
        show _ = some ((ydM yd Z.1.length q r).1 (Z.1.length + 1 + j))
        have : (ydM yd Z.1.length q r).1 (Z.1.length + 1 + j) = r j := by
          show (if Z.1.length + 1 + j < Z.1.length then _ else if Z.1.length + 1 + j = Z.1.length then q else r (Z.1.length + 1 + j - Z.1.length - 1)) = r j
          rw [if_neg (by omega), if_neg (by omega)]
          congr 1
          omega
        rw [this]
      · rw [if_neg hj, if_neg hj]
        rfl
    · rw [List.getElem?_append_right (by simp [wld_len]; omega)]
      have hl2 : (wld Z yd h ++ [((q, .inl (tcl yd 4, M, .inr (.inr (.inr (.inr (fun i => if i < M then some (r i) else none)))))) : Nat × va_E)]).length = Z.1.length + 1 := by simp [wld_len]
      rw [hl2, List.getElem?_map]
      by_cases h3 : i < Z.1.length + 1 + M
      · have e2 : (addM Z M N).1[i]? = some (.inl (1, 1, N)) := by
          show (Z.1 ++ _)[i]? = _
          rw [List.getElem?_append_right (by omega)]
          obtain ⟨d, hd⟩ : ∃ d, i - Z.1.length = d + 1 := ⟨i - Z.1.length - 1, by omega⟩
          rw [hd, List.getElem?_cons_succ, List.getElem?_replicate, if_pos (by omega)]
        rw [List.getElem?_range (by omega), wld_at e2]
        have ha : (ydM yd Z.1.length q r).1 i = r (i - (Z.1.length + 1)) := by
          show (if i < Z.1.length then _ else if i = Z.1.length then q else r (i - Z.1.length - 1)) = _
          rw [if_neg h1, if_neg h2]
          congr 1
        rw [ha]
        show some (r (i - (Z.1.length + 1)), Sum.inl (tcl yd 1, N, Sum.inr (Sum.inl _))) = some (r (i - (Z.1.length + 1)), Sum.inl (tcl yd 1, N, Sum.inr (Sum.inl _)))
        congr 6
        apply congrArg
        funext j
        exact (if_pos (by omega)).symm
      · rw [List.getElem?_eq_none (by simp; omega), List.getElem?_eq_none (by rw [wld_len, hlen]; omega)]
        rfl
theorem aw_mna (C : OK X cc own nL ret rm A) {c1 c2 : Int32} {M N m : Nat} (hm : Z.1.length = m) (hAO : va_AOA .long (xS X)) (hcl : Cond.classLink own ix "[[J" ∈ TB) (harr : Cond.arrayClass .long ∈ TB) (d : decode cc pc = .ok (.multianewarray ix 2, 4)) (h1 : ¬ c1 < 0) (h2 : ¬ c2 < 0) (hM : c1.toNatClampNeg = M) (hN : c2.toNatClampNeg = N) (hb1 : M * 4 ≤ 536870912) (hb2 : N * componentBytes .long ≤ 536870912) (hb3 : N ≤ 536870912) (hF : FrM Z) (hZ : addM Z M N = Z') (ht1 : Z.2.2.2[1]? = some .long) (ht4 : Z.2.2.2[4]? = some (.array .long)) (hrk : rok m lv st = true) (hc : k + (1 + M) ≤ rm.cells) (hs : n + (M + M * N) ≤ rm.slots) (q : ∀ (ad' : Nat → Nat) (h1 : AH), (∀ o, o < m → ad' o = yd.1 o) → AW X nL Z' (ad', yd.2) A (k + 1 + M) (n + M + M * N) Qf (pc + 4) lv (.ref m :: st) h1 (f h1)) : AW X nL Z yd A k n Qf pc lv (.int c2 :: .int c1 :: st) h (vl (zM h m M) f) := fun r h' e ls H locs hl hw => by
  subst hZ; subst hm
  have hty1 := tyAt hw.2.2.2.2 ht1
  have hty4 := tyAt hw.2.2.2.2 ht4
  have hcy : (xS X).vm.findClass (FieldType.array .long).toString = some (tcl yd 1) := (hw.2.2.2.1.2 1 _ hty1).2
  have e0 : wld Z yd h ++ va_pl [] (fun _ => .inr (0, [])) = wld Z yd h := by simp [va_pl]
  refine va_mna (X := wld Z yd h) (L := []) (f := fun _ => .inr (0, [])) (ty := .long) (z := (N, .inr (.inl (fun _ => 0)))) C.1 C.2.1 C.2.2.2.1 (C.2.2.2.2.1 _ hcl) hAO (C.2.2.2.2.1 _ harr) hcy hw.2.2.2.1 (by rw [e0]; exact hw.1) (by rw [e0]; exact hw.2.1) hw.2.2.1 C.2.2.2.2.2.2.2.1 h1 h2 hM hN hb1 hb2 hb3 rfl rfl (by rw [C.2.2.2.2.2.2.2.2]; exact hc) (by rw [C.2.2.2.2.2.2.2.2]; exact hs) (fun c => ?_) d (fun a r1 cA H1 hi hnl hK1 p1 p2 p3 => ?_)
  · show ({ cls := c, slots := Array.replicate N (.long 0), vm := .none } : Cell) = _
    rw [arrV_new]
    rfl
  · have hcA : cA = tcl yd 4 := ra_one (hK1.2 yd.2.2.length (cA, .array .long) (by simp)).2 (hw.2.2.2.1.2 4 _ hty4).2
    subst hcA
    have e1 : va_pl ([] ++ (List.range M).map r1) (vr_up (fun _ => .inr (0, [])) ((List.range M).map r1) (.inl (tcl yd 1, (N, .inr (.inl (fun _ => 0)))))) = (List.range M).map (fun i => (r1 i, (.inl (tcl yd 1, N, .inr (.inl (fun _ => 0))) : va_E))) := by
      simp only [va_pl, List.nil_append, List.map_map]
      apply List.map_congr_left
      intro i hi
      show (r1 i, vr_up _ _ _ (r1 i)) = _
      rw [vr_up_in (List.mem_map.mpr ⟨i, hi, rfl⟩)]
    rw [e1, wld_mna hF] at p1 p2
    have hag : ∀ o, o < Z.1.length → (ydM yd Z.1.length a r1).1 o = yd.1 o := fun o ho => if_pos ho
    have hlv := lvc_ad (ad := yd.1) (ad' := (ydM yd Z.1.length a r1).1) hag hrk
    have hr : cv (ydM yd Z.1.length a r1).1 (.ref Z.1.length) = .ref a := by
      show Value.ref ((ydM yd Z.1.length a r1).1 Z.1.length) = _
      simp [ydM]
    have g := q (ydM yd Z.1.length a r1).1 _ hag r h' e ls H1 locs (by rw [hlv.1]; exact hl) ⟨p1, p2, p3, hw.2.2.2⟩
    rw [List.map_cons, hr, hlv.2] at g
    exact g
theorem aw_dec {c : Prop} [Decidable c] {pc : Nat} {o : Option (α × AH)} (q : AW X nL Z yd A k n Qf pc lv st h (if c then o else o)) : AW X nL Z yd A k n Qf pc lv st h o := by rwa [ite_self] at q
end AWN2
/-! the table well made: references to what is there -/
def WFs (Z : Stc) : Prop := (∀ o k b, Z.2.1 o k = some b → o < Z.1.length ∧ b < Z.1.length) ∧ (∀ o : Nat, Z.1[o]? = some (Sum.inr 2 : Shp) → Z.2.2.1 + 6 ≤ Z.1.length)
theorem WFs.frs {Z : Stc} (h : WFs Z) : Frs Z := by
  refine ⟨fun o k e => ?_, fun k => ?_, fun o e j => ?_⟩
  · have := (h.1 o k _ e).2; omega
  · cases hz : Z.2.1 Z.1.length k with
    | none => rfl
    | some b => have := (h.1 _ k b hz).1; omega
  · have := h.2 o e; omega
theorem WFs.frm {Z : Stc} (h : WFs Z) : FrM Z := ⟨fun o k b e => (h.1 o k b e).2, fun o e j => by have := h.2 o e; omega⟩
theorem wf_add {Z : Stc} {s : Shp} (h : WFs Z) (hs : s ≠ .inr 2) : WFs (addS Z s) := by
  have hl : (addS Z s).1.length = Z.1.length + 1 := by simp [addS]
  refine ⟨fun o k b e => ?_, fun o e => ?_⟩
  · have := h.1 o k b e
    rw [hl]; omega
  · rw [hl]
    have e' : (Z.1 ++ [s])[o]? = some (Sum.inr 2 : Shp) := e
    by_cases ho : o < Z.1.length
    · rw [List.getElem?_append_left ho] at e'
      have := h.2 o e'
      show Z.2.2.1 + 6 ≤ _
      omega
    · rw [List.getElem?_append_right (by omega)] at e'
      by_cases h0 : o - Z.1.length = 0
      · rw [h0] at e'
        exact absurd (Option.some.inj e') hs
      · obtain ⟨d, hd⟩ : ∃ d, o - Z.1.length = d + 1 := ⟨o - Z.1.length - 1, by omega⟩
        rw [hd] at e'
        simp at e'
theorem wf_put {Z : Stc} {o k b : Nat} (h : WFs Z) (ho : o < Z.1.length) (hb : b < Z.1.length) : WFs (putR Z o k b) := by
  refine ⟨fun o' k' b' e => ?_, h.2⟩
  have e : (if o' = o ∧ k' = k then some b else Z.2.1 o' k') = some b' := e
  by_cases hc : o' = o ∧ k' = k
  · rw [if_pos hc] at e
    cases e
    exact ⟨hc.1 ▸ ho, hb⟩
  · rw [if_neg hc] at e
    exact h.1 o' k' b' e
theorem wf_shp {Z : Stc} {o : Nat} {s : Shp} (h : WFs Z) (hk : Z.2.2.1 + 6 ≤ Z.1.length) : WFs (shpS Z o s) := by
  have hl : (shpS Z o s).1.length = Z.1.length := by simp [shpS]
  refine ⟨fun o' k' b' e => ?_, fun o' e => ?_⟩
  · rw [hl]; exact h.1 o' k' b' e
  · rw [hl]; exact hk
theorem wf_mna {Z : Stc} {M N : Nat} (h : WFs Z) : WFs (addM Z M N) := by
  have hl : (addM Z M N).1.length = Z.1.length + 1 + M := by simp [addM]; omega
  refine ⟨fun o k b e => ?_, fun o e => ?_⟩
  · rw [hl]
    have e : (if o = Z.1.length then (if k < M then some (Z.1.length + 1 + k) else none) else Z.2.1 o k) = some b := e
    by_cases ho : o = Z.1.length
    · rw [if_pos ho] at e
      by_cases hk : k < M
      · rw [if_pos hk] at e
        cases e
        omega
      · rw [if_neg hk] at e
        cases e
    · rw [if_neg ho] at e
      have := h.1 o k b e
      omega
  · rw [hl]
    have e' : (Z.1 ++ .inl (4, 2, M) :: List.replicate M (.inl (1, 1, N)))[o]? = some (Sum.inr 2 : Shp) := e
    by_cases ho : o < Z.1.length
    · rw [List.getElem?_append_left ho] at e'
      have := h.2 o e'
      show Z.2.2.1 + 6 ≤ _
      omega
    · rw [List.getElem?_append_right (by omega)] at e'
      have := List.mem_of_getElem? e'
      rcases List.mem_cons.mp this with z | z
      · cases z
      · have := List.eq_of_mem_replicate z
        cases this
theorem ln_add {Z : Stc} {s : Shp} {m : Nat} (h : Z.1.length = m) : (addS Z s).1.length = m + 1 := by simp [addS, h]
theorem ln_shp {Z : Stc} {o m : Nat} {s : Shp} (h : Z.1.length = m) : (shpS Z o s).1.length = m := by simp [shpS, h]
theorem ln_mna {Z : Stc} {M N m : Nat} (h : Z.1.length = m) : (addM Z M N).1.length = m + 1 + M := by simp [addM, h]; omega
section AWN3
variable {X : MCx} {cc : ByteArray} {own : String} {nL : Nat} {ret : Option FieldType} {rm : Room} {Z Z' : Stc} {yd : Dyn} {A : Nat → Prop} {k n : Nat} {α : Type} {Qf : α → AH → State → Prop} {pc ix : Nat} {lv : List (Nat × Value)} {st : List Value} {h : AH} {f : AH → Option (α × AH)}
theorem aw_newIm (C : OK X cc own nL ret rm A) {c : Int32} {N m : Nat} (hm : Z.1.length = m) (hF : WFs Z) (d : decode cc pc = .ok (.newarray .int, 2)) (hc0 : ¬ c < 0) (hN : c.toNatClampNeg = N) (hb : N * componentBytes .int ≤ 536870912) (hZ : addS Z (.inl (0, 0, N)) = Z') (ht : Z.2.2.2[0]? = some .int) (hrk : rok m lv st = true) (hc : k + 1 ≤ rm.cells) (hs : n + N ≤ rm.slots) (q : ∀ (a : Nat) (h1 : AH), AW X nL Z' (ydN yd m a) A (k + 1) (n + N) Qf (pc + 2) lv (.ref m :: st) h1 (f h1)) : AW X nL Z yd A k n Qf pc lv (.int c :: st) h (vl (zN h m) f) := by
  subst hm
  exact aw_newI C d hc0 hN hb hF.frs hZ ht hrk hc hs q
theorem aw_newJm (C : OK X cc own nL ret rm A) {c : Int32} {N m : Nat} (hw0 : Cond.arrayClass .long ∈ TB) (hm : Z.1.length = m) (hF : WFs Z) (d : decode cc pc = .ok (.newarray .long, 2)) (hc0 : ¬ c < 0) (hN : c.toNatClampNeg = N) (hb : N * componentBytes .long ≤ 536870912) (hZ : addS Z (.inl (1, 1, N)) = Z') (ht : Z.2.2.2[1]? = some .long) (hrk : rok m lv st = true) (hc : k + 1 ≤ rm.cells) (hs : n + N ≤ rm.slots) (q : ∀ (a : Nat) (h1 : AH), AW X nL Z' (ydN yd m a) A (k + 1) (n + N) Qf (pc + 2) lv (.ref m :: st) h1 (f h1)) : AW X nL Z yd A k n Qf pc lv (.int c :: st) h (vl (zN h m) f) := by
  subst hm
  exact aw_newJ C hw0 d hc0 hN hb hF.frs hZ ht hrk hc hs q
theorem aw_newqm (C : OK X cc own nL ret rm A) {c : Int32} {N t m : Nat} {E : String} (hAO : va_AO E (xS X)) (hcl : Cond.classLink own ix E ∈ TB) (hm : Z.1.length = m) (hF : WFs Z) (d : decode cc pc = .ok (.anewarray ix, 3)) (hc0 : ¬ c < 0) (hN : c.toNatClampNeg = N) (hb : N * 4 ≤ 536870912) (hZ : addS Z (.inl (t, 2, N)) = Z') (ht : Z.2.2.2[t]? = some (.object E)) (hrk : rok m lv st = true) (hc : k + 1 ≤ rm.cells) (hs : n + N ≤ rm.slots) (q : ∀ (a : Nat) (h1 : AH), AW X nL Z' (ydN yd m a) A (k + 1) (n + N) Qf (pc + 3) lv (.ref m :: st) h1 (f h1)) : AW X nL Z yd A k n Qf pc lv (.int c :: st) h (vl (zN h m) f) := by
  subst hm
  exact aw_newq C hAO hcl d hc0 hN hb hF.frs hZ ht hrk hc hs q
theorem aw_newm (C : OK X cc own nL ret rm A) {ci N m : Nat} {D : String} {T : u_T} {codes : List Nat} {ty : Nat → FieldType} (sN : Shp) (hm : Z.1.length = m) (hF : WFs Z) (d : decode cc pc = .ok (.new ix, 3)) (hvc : vwCl[ci]? = some (D, T, N)) (hin : ∀ w ∈ u_ws D T N, w ∈ TB) (hty : ∀ k, k < N → parseFieldDescriptor (T k).2.2.1 = some (ty k)) (hcl : Cond.classLink own ix D ∈ TB) (hinst : Cond.instantiable D N ∈ TB) (hini : Cond.initialized D ∈ TB) (hE : ∀ (Z : Stc) (yd : Dyn) (h : AH) (o : Nat), ent Z yd h o sN = .inr (ci, eFs Z yd.1 h o 0 codes)) (h3 : ∀ k : Nat, codes[k]? ≠ some 3) (hdef : ∀ j : Nat, j < N → defaultValue (ty j) = vp_V (codes.map (fun c => dvF (some c))) j) (hZ : addS Z sN = Z') (hrk : rok m lv st = true) (hc : k + 1 ≤ rm.cells) (hs : n + N ≤ rm.slots) (q : ∀ (a : Nat) (h1 : AH), AW X nL Z' (ydN yd m a) A (k + 1) (n + N) Qf (pc + 3) lv (.ref m :: st) h1 (f h1)) : AW X nL Z yd A k n Qf pc lv st h (vl (zN h m) f) := by
  subst hm
  exact aw_new C sN d hvc hin hty hcl hinst hini hE h3 hdef hF.frs hZ hrk hc hs q
end AWN3
end
section
/-! what the constructors ask of the tables -/
theorem w_arrJ : Cond.arrayClass .long ∈ TB := (ts_1_4.2.2.2.2.2.2.2.2.1 rfl)
theorem w_oi : Cond.instanceMethod Lib.objectInit ∈ TB := (ts_1_1.2.2.2.2.2.2.1 rfl)
theorem w_oc : Cond.code Lib.objectInit ⟨#[0xb1]⟩ 1 none ∈ TB := (ts_1_1.2.2.2.2.2.2.2.1 rfl)
theorem kl_X1_9 : Cond.classLink RX1 9 "[[J" ∈ TB := (ts_1_3.2.1 rfl)
theorem kl_X10_25 : Cond.classLink RX10 25 "MarkToBoard$Ranking" ∈ TB := (ts_1_1.2.2.2.2.2.2.2.2.2.2.1 rfl)
theorem kl_X10_32 : Cond.classLink RX10 32 "MarkToBoard$Chances" ∈ TB := (ts_1_2.2.2.2.2.2.2.2.2.2.2.2.1 rfl)
theorem kl_X10_52 : Cond.classLink RX10 52 "MarkToBoard$Safe" ∈ TB := (ts_1_4.2.2.2.2.2.2.2.2.2.2.2.2.2.2.2.1 rfl)
theorem kl_X10_55 : Cond.classLink RX10 55 "MarkToBoard$Bold" ∈ TB := (ts_1_5.2.2.2.2.2.2.1 rfl)
theorem kl_X10_58 : Cond.classLink RX10 58 "MarkToBoard$Looker" ∈ TB := (ts_1_5.2.2.2.2.2.2.2.2.2.2.2.2.2.1 rfl)
theorem kl_X10_61 : Cond.classLink RX10 61 "MarkToBoard$Winded" ∈ TB := (ts_1_6.2.2.2.2.1 rfl)
theorem kl_X10_64 : Cond.classLink RX10 64 "MarkToBoard$Steady" ∈ TB := (ts_1_6.2.2.2.2.2.2.2.2.2.2.2.1 rfl)
theorem kl_X10_67 : Cond.classLink RX10 67 "MarkToBoard$Meet" ∈ TB := (ts_1_7.2.2.1 rfl)
theorem kl_X10_82 : Cond.classLink RX10 82 "MarkToBoard$Jumper" ∈ TB := (ts_1_13.2.2.2.1 rfl)
theorem kl_X10_9 : Cond.classLink RX10 9 "MarkToBoard$Kind" ∈ TB := (ts_1_1.2.2.2.2.2.2.2.2.1 rfl)
theorem kl_X5_18 : Cond.classLink RX5 18 "MarkToBoard$Jumper" ∈ TB := (ts_1_7.2.2.2.2.2.2.2.2.1 rfl)
theorem fpf_X1_11 : FPF RX1 11 1 0 (.array (.array .long)) := ⟨RX1, TX1, 5, tyX1, rfl, by decide, wsin_X1, (ts_1_3.2.2.2.2.1 rfl), tyX1_ok, nmX1, rfl, rfl, by decide +kernel⟩
theorem fpf_X1_16 : FPF RX1 16 1 1 (.array .long) := ⟨RX1, TX1, 5, tyX1, rfl, by decide, wsin_X1, (ts_1_3.2.2.2.2.2.1 rfl), tyX1_ok, nmX1, rfl, rfl, by decide +kernel⟩
theorem fpf_X10_11 : FPF RX10 11 10 0 (.array (.object "MarkToBoard$Kind")) := ⟨RX10, TX10, 18, tyX10, rfl, by decide, wsin_X10, (ts_1_13.2.2.2.2.2.1 rfl), tyX10_ok, nmX10, rfl, rfl, by decide +kernel⟩
theorem fpf_X10_15 : FPF RX10 15 10 5 (.array .int) := ⟨RX10, TX10, 18, tyX10, rfl, by decide, wsin_X10, (ts_1_13.2.2.2.2.2.2.2.2.2.2.1 rfl), tyX10_ok, nmX10, rfl, rfl, by decide +kernel⟩
theorem fpf_X10_19 : FPF RX10 19 10 7 (.array .int) := ⟨RX10, TX10, 18, tyX10, rfl, by decide, wsin_X10, (ts_1_13.2.2.2.2.2.2.2.2.2.2.2.2.1 rfl), tyX10_ok, nmX10, rfl, rfl, by decide +kernel⟩
theorem fpf_X10_22 : FPF RX10 22 10 9 (.array .int) := ⟨RX10, TX10, 18, tyX10, rfl, by decide, wsin_X10, (ts_1_13.2.2.2.2.2.2.2.2.2.2.2.2.2.2.1 rfl), tyX10_ok, nmX10, rfl, rfl, by decide +kernel⟩
theorem fpf_X10_28 : FPF RX10 28 10 10 (.object "MarkToBoard$Ranking") := ⟨RX10, TX10, 18, tyX10, rfl, by decide, wsin_X10, (ts_1_13.2.2.2.2.2.2.2.2.2.2.2.2.2.2.2.1 rfl), tyX10_ok, nmX10, rfl, rfl, by decide +kernel⟩
theorem fpf_X10_35 : FPF RX10 35 10 11 (.object "MarkToBoard$Chances") := ⟨RX10, TX10, 18, tyX10, rfl, by decide, wsin_X10, (ts_1_14.1 rfl), tyX10_ok, nmX10, rfl, rfl, by decide +kernel⟩
theorem fpf_X10_39 : FPF RX10 39 10 13 (.array .int) := ⟨RX10, TX10, 18, tyX10, rfl, by decide, wsin_X10, (ts_1_14.2.2.1 rfl), tyX10_ok, nmX10, rfl, rfl, by decide +kernel⟩
theorem fpf_X10_42 : FPF RX10 42 10 14 (.array .int) := ⟨RX10, TX10, 18, tyX10, rfl, by decide, wsin_X10, (ts_1_14.2.2.2.1 rfl), tyX10_ok, nmX10, rfl, rfl, by decide +kernel⟩
theorem fpf_X10_45 : FPF RX10 45 10 15 (.array .int) := ⟨RX10, TX10, 18, tyX10, rfl, by decide, wsin_X10, (ts_1_14.2.2.2.2.1 rfl), tyX10_ok, nmX10, rfl, rfl, by decide +kernel⟩
theorem fpf_X10_48 : FPF RX10 48 10 16 (.array .int) := ⟨RX10, TX10, 18, tyX10, rfl, by decide, wsin_X10, (ts_1_14.2.2.2.2.2.1 rfl), tyX10_ok, nmX10, rfl, rfl, by decide +kernel⟩
theorem fpf_X10_72 : FPF RX10 72 10 1 (.object "MarkToBoard$Meet") := ⟨RX10, TX10, 18, tyX10, rfl, by decide, wsin_X10, (ts_1_13.2.2.2.2.2.2.1 rfl), tyX10_ok, nmX10, rfl, rfl, by decide +kernel⟩
theorem fpf_X10_76 : FPF RX10 76 10 2 (.object "MarkToBoard$Meet") := ⟨RX10, TX10, 18, tyX10, rfl, by decide, wsin_X10, (ts_1_13.2.2.2.2.2.2.2.1 rfl), tyX10_ok, nmX10, rfl, rfl, by decide +kernel⟩
theorem fpf_X10_79 : FPF RX10 79 10 3 (.object "MarkToBoard$Meet") := ⟨RX10, TX10, 18, tyX10, rfl, by decide, wsin_X10, (ts_1_13.2.2.2.2.2.2.2.2.1 rfl), tyX10_ok, nmX10, rfl, rfl, by decide +kernel⟩
theorem fpf_X10_85 : FPF RX10 85 10 12 (.object "MarkToBoard$Jumper") := ⟨RX10, TX10, 18, tyX10, rfl, by decide, wsin_X10, (ts_1_14.2.1 rfl), tyX10_ok, nmX10, rfl, rfl, by decide +kernel⟩
theorem fpf_X11_13 : FPF RX11 13 11 1 (.array .int) := ⟨RX11, TX11, 41, tyX11, rfl, by decide, wsin_X11, (ts_4_7.2.2.2.2.2.2.2.2.2.2.2.2.2.2.1 rfl), tyX11_ok, nmX11, rfl, rfl, by decide +kernel⟩
theorem fpf_X11_16 : FPF RX11 16 11 2 (.array .int) := ⟨RX11, TX11, 41, tyX11, rfl, by decide, wsin_X11, (ts_4_7.2.2.2.2.2.2.2.2.2.2.2.2.2.2.2.1 rfl), tyX11_ok, nmX11, rfl, rfl, by decide +kernel⟩
theorem fpf_X11_19 : FPF RX11 19 11 3 (.array .int) := ⟨RX11, TX11, 41, tyX11, rfl, by decide, wsin_X11, (ts_4_8.1 rfl), tyX11_ok, nmX11, rfl, rfl, by decide +kernel⟩
theorem fpf_X11_22 : FPF RX11 22 11 4 (.array .int) := ⟨RX11, TX11, 41, tyX11, rfl, by decide, wsin_X11, (ts_4_8.2.1 rfl), tyX11_ok, nmX11, rfl, rfl, by decide +kernel⟩
theorem fpf_X11_25 : FPF RX11 25 11 5 (.array .int) := ⟨RX11, TX11, 41, tyX11, rfl, by decide, wsin_X11, (ts_4_8.2.2.1 rfl), tyX11_ok, nmX11, rfl, rfl, by decide +kernel⟩
theorem fpf_X11_28 : FPF RX11 28 11 6 (.array .int) := ⟨RX11, TX11, 41, tyX11, rfl, by decide, wsin_X11, (ts_4_8.2.2.2.1 rfl), tyX11_ok, nmX11, rfl, rfl, by decide +kernel⟩
theorem fpf_X11_31 : FPF RX11 31 11 7 (.array .int) := ⟨RX11, TX11, 41, tyX11, rfl, by decide, wsin_X11, (ts_4_8.2.2.2.2.1 rfl), tyX11_ok, nmX11, rfl, rfl, by decide +kernel⟩
theorem fpf_X11_34 : FPF RX11 34 11 8 (.array .int) := ⟨RX11, TX11, 41, tyX11, rfl, by decide, wsin_X11, (ts_4_8.2.2.2.2.2.1 rfl), tyX11_ok, nmX11, rfl, rfl, by decide +kernel⟩
theorem fpf_X11_37 : FPF RX11 37 11 9 (.array .int) := ⟨RX11, TX11, 41, tyX11, rfl, by decide, wsin_X11, (ts_4_8.2.2.2.2.2.2.1 rfl), tyX11_ok, nmX11, rfl, rfl, by decide +kernel⟩
theorem fpf_X11_40 : FPF RX11 40 11 10 (.array .int) := ⟨RX11, TX11, 41, tyX11, rfl, by decide, wsin_X11, (ts_4_8.2.2.2.2.2.2.2.1 rfl), tyX11_ok, nmX11, rfl, rfl, by decide +kernel⟩
theorem fpf_X11_43 : FPF RX11 43 11 11 (.array .int) := ⟨RX11, TX11, 41, tyX11, rfl, by decide, wsin_X11, (ts_4_8.2.2.2.2.2.2.2.2.1 rfl), tyX11_ok, nmX11, rfl, rfl, by decide +kernel⟩
theorem fpf_X11_46 : FPF RX11 46 11 17 (.array .int) := ⟨RX11, TX11, 41, tyX11, rfl, by decide, wsin_X11, (ts_4_8.2.2.2.2.2.2.2.2.2.2.2.2.2.2.1 rfl), tyX11_ok, nmX11, rfl, rfl, by decide +kernel⟩
theorem fpf_X11_49 : FPF RX11 49 11 18 (.array .int) := ⟨RX11, TX11, 41, tyX11, rfl, by decide, wsin_X11, (ts_4_8.2.2.2.2.2.2.2.2.2.2.2.2.2.2.2.1 rfl), tyX11_ok, nmX11, rfl, rfl, by decide +kernel⟩
theorem fpf_X11_52 : FPF RX11 52 11 19 (.array .int) := ⟨RX11, TX11, 41, tyX11, rfl, by decide, wsin_X11, (ts_4_9.1 rfl), tyX11_ok, nmX11, rfl, rfl, by decide +kernel⟩
theorem fpf_X11_55 : FPF RX11 55 11 20 (.array .int) := ⟨RX11, TX11, 41, tyX11, rfl, by decide, wsin_X11, (ts_4_9.2.1 rfl), tyX11_ok, nmX11, rfl, rfl, by decide +kernel⟩
theorem fpf_X11_58 : FPF RX11 58 11 24 (.array .int) := ⟨RX11, TX11, 41, tyX11, rfl, by decide, wsin_X11, (ts_4_9.2.2.2.2.2.1 rfl), tyX11_ok, nmX11, rfl, rfl, by decide +kernel⟩
theorem fpf_X11_61 : FPF RX11 61 11 28 (.array .long) := ⟨RX11, TX11, 41, tyX11, rfl, by decide, wsin_X11, (ts_4_9.2.2.2.2.2.2.2.2.2.1 rfl), tyX11_ok, nmX11, rfl, rfl, by decide +kernel⟩
theorem fpf_X11_65 : FPF RX11 65 11 29 (.array .long) := ⟨RX11, TX11, 41, tyX11, rfl, by decide, wsin_X11, (ts_4_9.2.2.2.2.2.2.2.2.2.2.1 rfl), tyX11_ok, nmX11, rfl, rfl, by decide +kernel⟩
theorem fpf_X11_68 : FPF RX11 68 11 30 (.array .int) := ⟨RX11, TX11, 41, tyX11, rfl, by decide, wsin_X11, (ts_4_9.2.2.2.2.2.2.2.2.2.2.2.1 rfl), tyX11_ok, nmX11, rfl, rfl, by decide +kernel⟩
theorem fpf_X11_7 : FPF RX11 7 11 0 (.array .int) := ⟨RX11, TX11, 41, tyX11, rfl, by decide, wsin_X11, (ts_4_7.2.2.2.2.2.2.2.2.2.2.2.2.2.1 rfl), tyX11_ok, nmX11, rfl, rfl, by decide +kernel⟩
theorem fpf_X11_71 : FPF RX11 71 11 31 (.array .int) := ⟨RX11, TX11, 41, tyX11, rfl, by decide, wsin_X11, (ts_4_9.2.2.2.2.2.2.2.2.2.2.2.2.1 rfl), tyX11_ok, nmX11, rfl, rfl, by decide +kernel⟩
theorem fpf_X11_74 : FPF RX11 74 11 32 (.array .int) := ⟨RX11, TX11, 41, tyX11, rfl, by decide, wsin_X11, (ts_4_9.2.2.2.2.2.2.2.2.2.2.2.2.2.1 rfl), tyX11_ok, nmX11, rfl, rfl, by decide +kernel⟩
theorem fpf_X11_77 : FPF RX11 77 11 33 (.array .int) := ⟨RX11, TX11, 41, tyX11, rfl, by decide, wsin_X11, (ts_4_9.2.2.2.2.2.2.2.2.2.2.2.2.2.2.1 rfl), tyX11_ok, nmX11, rfl, rfl, by decide +kernel⟩
theorem fpf_X11_80 : FPF RX11 80 11 35 (.array .int) := ⟨RX11, TX11, 41, tyX11, rfl, by decide, wsin_X11, (ts_4_10.1 rfl), tyX11_ok, nmX11, rfl, rfl, by decide +kernel⟩
theorem fpf_X11_83 : FPF RX11 83 11 36 (.array .long) := ⟨RX11, TX11, 41, tyX11, rfl, by decide, wsin_X11, (ts_4_10.2.1 rfl), tyX11_ok, nmX11, rfl, rfl, by decide +kernel⟩
theorem fpf_X11_86 : FPF RX11 86 11 37 (.array .long) := ⟨RX11, TX11, 41, tyX11, rfl, by decide, wsin_X11, (ts_4_10.2.2.1 rfl), tyX11_ok, nmX11, rfl, rfl, by decide +kernel⟩
theorem fpf_X11_89 : FPF RX11 89 11 38 (.array .int) := ⟨RX11, TX11, 41, tyX11, rfl, by decide, wsin_X11, (ts_4_10.2.2.2.1 rfl), tyX11_ok, nmX11, rfl, rfl, by decide +kernel⟩
theorem fpf_X11_92 : FPF RX11 92 11 39 (.array .int) := ⟨RX11, TX11, 41, tyX11, rfl, by decide, wsin_X11, (ts_4_10.2.2.2.2.1 rfl), tyX11_ok, nmX11, rfl, rfl, by decide +kernel⟩
theorem fpf_X5_20 : FPF RX5 20 5 5 (.array (.object "MarkToBoard$Jumper")) := ⟨RX5, TX5, 10, tyX5, rfl, by decide, wsin_X5, (ts_1_11.2.2.2.2.2.2.2.1 rfl), tyX5_ok, nmX5, rfl, rfl, by decide +kernel⟩
theorem fpf_X5_24 : FPF RX5 24 5 6 (.array .int) := ⟨RX5, TX5, 10, tyX5, rfl, by decide, wsin_X5, (ts_1_11.2.2.2.2.2.2.2.2.1 rfl), tyX5_ok, nmX5, rfl, rfl, by decide +kernel⟩
theorem fpf_X5_28 : FPF RX5 28 5 7 (.array .int) := ⟨RX5, TX5, 10, tyX5, rfl, by decide, wsin_X5, (ts_1_11.2.2.2.2.2.2.2.2.2.2.1 rfl), tyX5_ok, nmX5, rfl, rfl, by decide +kernel⟩
theorem fpf_X5_31 : FPF RX5 31 5 8 (.array .int) := ⟨RX5, TX5, 10, tyX5, rfl, by decide, wsin_X5, (ts_1_11.2.2.2.2.2.2.2.2.2.2.2.1 rfl), tyX5_ok, nmX5, rfl, rfl, by decide +kernel⟩
theorem fpf_X5_34 : FPF RX5 34 5 9 (.array .int) := ⟨RX5, TX5, 10, tyX5, rfl, by decide, wsin_X5, (ts_1_11.2.2.2.2.2.2.2.2.2.2.2.2.2.1 rfl), tyX5_ok, nmX5, rfl, rfl, by decide +kernel⟩
theorem fpf_X6_15 : FPF RX6 15 6 2 (.array .int) := ⟨RX6, TX6, 3, tyX6, rfl, by decide, wsin_X6, (ts_1_2.2.2.1 rfl), tyX6_ok, nmX6, rfl, rfl, by decide +kernel⟩
theorem fpf_X6_9 : FPF RX6 9 6 1 (.array .int) := ⟨RX6, TX6, 3, tyX6, rfl, by decide, wsin_X6, (ts_1_2.2.1 rfl), tyX6_ok, nmX6, rfl, rfl, by decide +kernel⟩
theorem ki_X0 : Cond.instantiable RX0 0 ∈ TB := (ts_1_5.2.2.2.2.2.2.2.1 rfl)
theorem n3_X0 : ∀ k : Nat, (fty 0)[k]? ≠ some 3 := fun k e => by
  have := List.mem_of_getElem? e
  simp [fty, rty] at this
theorem df_X0 : ∀ j : Nat, j < 0 → defaultValue (tyX0 j) = vp_V ((fty 0).map (fun c => dvF (some c))) j := by decide +kernel
theorem wsin_X0 : ∀ w ∈ u_ws RX0 TX0 0, w ∈ TB := fun w h => by simp [u_ws] at h
theorem ki_X1 : Cond.instantiable RX1 5 ∈ TB := (ts_1_2.2.2.2.2.2.2.2.2.2.2.2.2.1 rfl)
theorem n3_X1 : ∀ k : Nat, (fty 1)[k]? ≠ some 3 := fun k e => by
  have := List.mem_of_getElem? e
  simp [fty, rty] at this
theorem df_X1 : ∀ j : Nat, j < 5 → defaultValue (tyX1 j) = vp_V ((fty 1).map (fun c => dvF (some c))) j := by decide +kernel
theorem ki_X2 : Cond.instantiable RX2 9 ∈ TB := (ts_1_7.2.2.2.2.2.2.2.2.2.2.1 rfl)
theorem n3_X2 : ∀ k : Nat, (rty 2)[k]? ≠ some 3 := fun k e => by
  have := List.mem_of_getElem? e
  simp [fty, rty] at this
theorem df_X2 : ∀ j : Nat, j < 9 → defaultValue (tyX2 j) = vp_V ((rty 2).map (fun c => dvF (some c))) j := by decide +kernel
theorem ki_X3 : Cond.instantiable RX3 0 ∈ TB := (ts_1_4.2.2.2.2.2.2.2.2.2.1 rfl)
theorem n3_X3 : ∀ k : Nat, (fty 3)[k]? ≠ some 3 := fun k e => by
  have := List.mem_of_getElem? e
  simp [fty, rty] at this
theorem df_X3 : ∀ j : Nat, j < 0 → defaultValue (tyX3 j) = vp_V ((fty 3).map (fun c => dvF (some c))) j := by decide +kernel
theorem wsin_X3 : ∀ w ∈ u_ws RX3 TX3 0, w ∈ TB := fun w h => by simp [u_ws] at h
theorem ki_X4 : Cond.instantiable RX4 0 ∈ TB := (ts_1_5.2.2.2.2.2.2.2.2.2.2.2.2.2.2.1 rfl)
theorem n3_X4 : ∀ k : Nat, (fty 4)[k]? ≠ some 3 := fun k e => by
  have := List.mem_of_getElem? e
  simp [fty, rty] at this
theorem df_X4 : ∀ j : Nat, j < 0 → defaultValue (tyX4 j) = vp_V ((fty 4).map (fun c => dvF (some c))) j := by decide +kernel
theorem wsin_X4 : ∀ w ∈ u_ws RX4 TX4 0, w ∈ TB := fun w h => by simp [u_ws] at h
theorem ki_X5 : Cond.instantiable RX5 10 ∈ TB := (ts_1_7.2.2.2.1 rfl)
theorem n3_X5 : ∀ k : Nat, (fty 5)[k]? ≠ some 3 := fun k e => by
  have := List.mem_of_getElem? e
  simp [fty, rty] at this
theorem df_X5 : ∀ j : Nat, j < 10 → defaultValue (tyX5 j) = vp_V ((fty 5).map (fun c => dvF (some c))) j := by decide +kernel
theorem ki_X6 : Cond.instantiable RX6 3 ∈ TB := (ts_1_1.2.2.2.2.2.2.2.2.2.2.2.1 rfl)
theorem n3_X6 : ∀ k : Nat, (fty 6)[k]? ≠ some 3 := fun k e => by
  have := List.mem_of_getElem? e
  simp [fty, rty] at this
theorem df_X6 : ∀ j : Nat, j < 3 → defaultValue (tyX6 j) = vp_V ((fty 6).map (fun c => dvF (some c))) j := by decide +kernel
theorem ki_X7 : Cond.instantiable RX7 0 ∈ TB := (ts_1_5.1 rfl)
theorem n3_X7 : ∀ k : Nat, (fty 7)[k]? ≠ some 3 := fun k e => by
  have := List.mem_of_getElem? e
  simp [fty, rty] at this
theorem df_X7 : ∀ j : Nat, j < 0 → defaultValue (tyX7 j) = vp_V ((fty 7).map (fun c => dvF (some c))) j := by decide +kernel
theorem wsin_X7 : ∀ w ∈ u_ws RX7 TX7 0, w ∈ TB := fun w h => by simp [u_ws] at h
theorem ki_X8 : Cond.instantiable RX8 0 ∈ TB := (ts_1_6.2.2.2.2.2.2.2.2.2.2.2.2.1 rfl)
theorem n3_X8 : ∀ k : Nat, (fty 8)[k]? ≠ some 3 := fun k e => by
  have := List.mem_of_getElem? e
  simp [fty, rty] at this
theorem df_X8 : ∀ j : Nat, j < 0 → defaultValue (tyX8 j) = vp_V ((fty 8).map (fun c => dvF (some c))) j := by decide +kernel
theorem wsin_X8 : ∀ w ∈ u_ws RX8 TX8 0, w ∈ TB := fun w h => by simp [u_ws] at h
theorem ki_X9 : Cond.instantiable RX9 0 ∈ TB := (ts_1_6.2.2.2.2.2.1 rfl)
theorem n3_X9 : ∀ k : Nat, (fty 9)[k]? ≠ some 3 := fun k e => by
  have := List.mem_of_getElem? e
  simp [fty, rty] at this
theorem df_X9 : ∀ j : Nat, j < 0 → defaultValue (tyX9 j) = vp_V ((fty 9).map (fun c => dvF (some c))) j := by decide +kernel
theorem wsin_X9 : ∀ w ∈ u_ws RX9 TX9 0, w ∈ TB := fun w h => by simp [u_ws] at h
theorem kn_X0 : Cond.initialized RX0 ∈ TB := (tk_1.2.2.2.2.2.2.1 rfl)
theorem kn_X1 : Cond.initialized RX1 ∈ TB := (tk_1.2.2.2.1 rfl)
theorem kn_X2 : Cond.initialized RX2 ∈ TB := (tk_1.2.2.2.2.2.2.2.2.2.2.2.1 rfl)
theorem kn_X3 : Cond.initialized RX3 ∈ TB := (tk_1.2.2.2.2.1 rfl)
theorem kn_X4 : Cond.initialized RX4 ∈ TB := (tk_1.2.2.2.2.2.2.2.1 rfl)
theorem kn_X5 : Cond.initialized RX5 ∈ TB := (tk_1.2.2.2.2.2.2.2.2.2.2.1 rfl)
theorem kn_X6 : Cond.initialized RX6 ∈ TB := (tk_1.2.2.1 rfl)
theorem kn_X7 : Cond.initialized RX7 ∈ TB := (tk_1.2.2.2.2.2.1 rfl)
theorem kn_X8 : Cond.initialized RX8 ∈ TB := (tk_1.2.2.2.2.2.2.2.2.2.1 rfl)
theorem kn_X9 : Cond.initialized RX9 ∈ TB := (tk_1.2.2.2.2.2.2.2.2.1 rfl)
theorem kc_X1_24 : Cond.constantLong RX1 24 (2) ∈ TB := (ts_1_3.2.2.2.1 rfl)
theorem mj_X10_34 : Cond.methodLink RX10 34 yX1_init ∈ TB := (ts_1_2.2.2.2.2.2.2.2.2.2.2.2.2.2.1 rfl)
theorem mj_X10_69 : Cond.methodLink RX10 69 yX5_init ∈ TB := (ts_1_7.2.2.2.2.1 rfl)
theorem mj_X10_84 : Cond.methodLink RX10 84 yX2_init ∈ TB := (ts_1_13.2.2.2.2.1 rfl)
theorem mj_X5_37 : Cond.methodLink RX5 37 yX2_init ∈ TB := (ts_1_7.2.2.2.2.2.2.2.2.2.2.2.1 rfl)
theorem mo_X1_3 : Cond.methodLink RX1 3 Lib.objectInit ∈ TB := (ts_1_3.1 rfl)
theorem mo_X10_1 : Cond.methodLink RX10 1 Lib.objectInit ∈ TB := (ts_1_1.2.2.2.2.2.1 rfl)
theorem mo_X11_1 : Cond.methodLink RX11 1 Lib.objectInit ∈ TB := (ts_4_7.2.2.2.2.2.2.2.2.2.2.2.2.1 rfl)
theorem mo_X2_1 : Cond.methodLink RX2 1 Lib.objectInit ∈ TB := (ts_1_7.2.2.2.2.2.2.2.2.2.2.2.2.2.2.1 rfl)
theorem mo_X3_1 : Cond.methodLink RX3 1 Lib.objectInit ∈ TB := (ts_1_4.2.2.2.2.2.2.2.2.2.2.2.2.2.1 rfl)
theorem mo_X5_3 : Cond.methodLink RX5 3 Lib.objectInit ∈ TB := (ts_1_7.2.2.2.2.2.2.2.1 rfl)
theorem mo_X6_3 : Cond.methodLink RX6 3 Lib.objectInit ∈ TB := (ts_1_1.2.2.2.2.2.2.2.2.2.2.2.2.2.2.2.1 rfl)
theorem wf_one {s : Shp} {K : Nat} {tl : List FieldType} (hs : s ≠ .inr 2) : WFs ([s], (fun _ _ => none), K, tl) := by
  refine ⟨fun o k b e => (by cases e), fun o e => ?_⟩
  have h1 := List.mem_of_getElem? e
  have h2 : (Sum.inr 2 : Shp) = s := by simpa using h1
  exact absurd h2.symm hs
def kxN : List (String × Nat × MethodName × String) := [(RX0, 1, yX3_init, "MarkToBoard"), (RX10, 27, yX6_init, "MarkToBoard"), (RX10, 51, yX3_init, "MarkToBoard"), (RX10, 54, yX7_init, "MarkToBoard"), (RX10, 57, yX0_init, "MarkToBoard"), (RX10, 60, yX4_init, "MarkToBoard"), (RX10, 63, yX9_init, "MarkToBoard"), (RX10, 66, yX8_init, "MarkToBoard"), (RX4, 1, yX7_init, "MarkToBoard"), (RX7, 1, yX3_init, "MarkToBoard"), (RX8, 1, yX4_init, "MarkToBoard"), (RX9, 1, yX0_init, "MarkToBoard")]
def kxC : List (String × String) := [(RX7, "MarkToBoard$Kind"), (RX0, "MarkToBoard$Kind"), (RX4, "MarkToBoard$Kind"), (RX9, "MarkToBoard$Kind"), (RX8, "MarkToBoard$Kind")]
/-- what holds of the tables besides, all along -/
def KX (U : State) : Prop := va_AO "MarkToBoard$Kind" U ∧ va_AO "MarkToBoard$Jumper" U ∧ va_AOA .long U ∧ (∀ q ∈ kxN, va_Nw (.methodLinkNest q.1 q.2.1 q.2.2.1 q.2.2.2) U) ∧ (∀ q ∈ kxC, va_Nw (.castable q.1 q.2) U)
theorem va_AOA.spec {ty : FieldType} {U : State} (h : va_AOA ty U) : ∃ comp c k, U.vm.findClass (FieldType.array ty).toString = some comp ∧ (U.vm.classes.findIdx? fun x => match x.kind with | .array component _ => component == comp | _ => false) = some c ∧ U.vm.classes[c]? = some k ∧ k.kind = .array comp (.array ty) ∧ U.vm.findClass ("[" ++ (FieldType.array ty).toString) = some c := by
  have h : (Cond.arrayOver (.array ty)).holds #[] U none U [] = true := h
  simp only [Cond.holds, Cond.value, beq_iff_eq] at h
  cases hc : U.vm.findClass (FieldType.array ty).toString with
  | none => simp [hc] at h
  | some comp =>
    simp only [hc, Option.bind_some, Option.bind_eq_some_iff, Option.map_eq_some_iff] at h
    obtain ⟨c, hi, k, hk, hb⟩ := h
    obtain ⟨hlt, hp, -⟩ := Array.findIdx?_eq_some_iff_getElem.mp hi
    have hkk : U.vm.classes[c] = k := (Array.getElem?_eq_some_iff.mp hk).2
    rw [hkk] at hp
    cases hkind : k.kind with
    | array component t =>
      rw [hkind] at hb hp
      simp at hb hp
      exact ⟨comp, c, k, rfl, hi, hk, by rw [hkind, hp, hb.1], hb.2⟩
    | _ => rw [hkind] at hb; simp at hb
theorem va_AOA.moved {ty : FieldType} {u U : State} (hvm : u.vm.Alike U.vm) (h : va_AOA ty u) : va_AOA ty U := by
  obtain ⟨comp, c, k, h1, h2, h3, h4, h5⟩ := va_AOA.spec h
  obtain ⟨k', hk', he⟩ := hvm.2.2 _ _ h3
  have hi : (U.vm.classes.findIdx? fun (x : Class) => match x.kind with | .array component _ => component == comp | _ => false) = some c := by
    refine (va_idx_bare (vm := U.vm) (comp := comp)).symm.trans ?_
    have hb : U.vm.bare = u.vm.bare := by first | exact hvm.bare_eq | exact hvm.bare_eq.symm
    rw [hb]
    exact (va_idx_bare (vm := u.vm) (comp := comp)).trans h2
  have hkind : k'.kind = .array comp (.array ty) := by rw [he]; exact h4
  have f1 : U.vm.findClass (FieldType.array ty).toString = some comp := by rw [hvm.findClass]; exact h1
  have f2 : U.vm.findClass ("[" ++ (FieldType.array ty).toString) = some c := by rw [hvm.findClass]; exact h5
  unfold va_AOA Cond.before Cond.holds
  simp only [Cond.value]
  rw [f1, Option.bind_some]
  refine (congrArg (fun o : Option Nat => (o.bind (fun c => (U.vm.classes[c]?).map fun (k : Class) => match k.kind with | .array _ t => decide (t = FieldType.array ty) && decide (U.vm.findClass ("[" ++ (FieldType.array ty).toString) = some c) | _ => false) == some true)) hi).trans ?_
  simp [hk', hkind, f2]
theorem kx_m : ∀ u U : State, u.WarmedH U.vm → KX u → KX U := fun u U hW h => ⟨va_AO.moved hW.alike h.1, va_AO.moved hW.alike h.2.1, va_AOA.moved hW.alike h.2.2.1, fun q hq => va_Nw.warmM hW (h.2.2.2.1 q hq), fun q hq => va_Nw.warmC hW (h.2.2.2.2 q hq)⟩
theorem kx_b : ∀ (a : Array Value) (U : State) (g : JFrame) (mk : MethodId), KX U → KX (U.calling g mk a) := fun a U g mk h => ⟨va_AO.moved (Vm.Alike.refl U.vm) h.1, va_AO.moved (Vm.Alike.refl U.vm) h.2.1, va_AOA.moved (Vm.Alike.refl U.vm) h.2.2.1, fun q hq => va_Nw.same rfl rfl (h.2.2.2.1 q hq), fun q hq => va_Nw.same rfl rfl (h.2.2.2.2 q hq)⟩
theorem kx_X0_1 : (RX0, 1, yX3_init, "MarkToBoard") ∈ kxN := List.mem_of_getElem? (i := 0) rfl
theorem kx_X10_27 : (RX10, 27, yX6_init, "MarkToBoard") ∈ kxN := List.mem_of_getElem? (i := 1) rfl
theorem kx_X10_51 : (RX10, 51, yX3_init, "MarkToBoard") ∈ kxN := List.mem_of_getElem? (i := 2) rfl
theorem kx_X10_54 : (RX10, 54, yX7_init, "MarkToBoard") ∈ kxN := List.mem_of_getElem? (i := 3) rfl
theorem kx_X10_57 : (RX10, 57, yX0_init, "MarkToBoard") ∈ kxN := List.mem_of_getElem? (i := 4) rfl
theorem kx_X10_60 : (RX10, 60, yX4_init, "MarkToBoard") ∈ kxN := List.mem_of_getElem? (i := 5) rfl
theorem kx_X10_63 : (RX10, 63, yX9_init, "MarkToBoard") ∈ kxN := List.mem_of_getElem? (i := 6) rfl
theorem kx_X10_66 : (RX10, 66, yX8_init, "MarkToBoard") ∈ kxN := List.mem_of_getElem? (i := 7) rfl
theorem kx_X4_1 : (RX4, 1, yX7_init, "MarkToBoard") ∈ kxN := List.mem_of_getElem? (i := 8) rfl
theorem kx_X7_1 : (RX7, 1, yX3_init, "MarkToBoard") ∈ kxN := List.mem_of_getElem? (i := 9) rfl
theorem kx_X8_1 : (RX8, 1, yX4_init, "MarkToBoard") ∈ kxN := List.mem_of_getElem? (i := 10) rfl
theorem kx_X9_1 : (RX9, 1, yX0_init, "MarkToBoard") ∈ kxN := List.mem_of_getElem? (i := 11) rfl
theorem as_X7 {X : MCx} (h : KX (xS X)) : AsgOk X RX7 "MarkToBoard$Kind" := fun c e h1 h2 => vb_asgC (h.2.2.2.2 (RX7, "MarkToBoard$Kind") (List.mem_of_getElem? (i := 0) rfl)) e c h2 h1
theorem as_X0 {X : MCx} (h : KX (xS X)) : AsgOk X RX0 "MarkToBoard$Kind" := fun c e h1 h2 => vb_asgC (h.2.2.2.2 (RX0, "MarkToBoard$Kind") (List.mem_of_getElem? (i := 1) rfl)) e c h2 h1
theorem as_X4 {X : MCx} (h : KX (xS X)) : AsgOk X RX4 "MarkToBoard$Kind" := fun c e h1 h2 => vb_asgC (h.2.2.2.2 (RX4, "MarkToBoard$Kind") (List.mem_of_getElem? (i := 2) rfl)) e c h2 h1
theorem as_X9 {X : MCx} (h : KX (xS X)) : AsgOk X RX9 "MarkToBoard$Kind" := fun c e h1 h2 => vb_asgC (h.2.2.2.2 (RX9, "MarkToBoard$Kind") (List.mem_of_getElem? (i := 3) rfl)) e c h2 h1
theorem as_X8 {X : MCx} (h : KX (xS X)) : AsgOk X RX8 "MarkToBoard$Kind" := fun c e h1 h2 => vb_asgC (h.2.2.2.2 (RX8, "MarkToBoard$Kind") (List.mem_of_getElem? (i := 4) rfl)) e c h2 h1
theorem as_X3 {X : MCx} (_ : KX (xS X)) : AsgOk X RX3 "MarkToBoard$Kind" := fun c e h1 h2 => by
  have e1 : c = e := Option.some.inj (h1.symm.trans h2)
  subst e1
  unfold Vm.assignable Vm.assignableAux
  simp
theorem as_X2 {X : MCx} (_ : KX (xS X)) : AsgOk X RX2 "MarkToBoard$Jumper" := fun c e h1 h2 => by
  have e1 : c = e := Option.some.inj (h1.symm.trans h2)
  subst e1
  unfold Vm.assignable Vm.assignableAux
  simp
theorem aw_aaldI {X : MCx} {cc : ByteArray} {own : String} {nL : Nat} {ret : Option FieldType} {rm : Room} {Z : Stc} {yd : Dyn} {A : Nat → Prop} {k n a t N : Nat} {α : Type} {Qf : α → AH → State → Prop} {pc : Nat} {lv : List (Nat × Value)} {st : List Value} {h : AH} {o : Option (α × AH)} (C : OK X cc own nL ret rm A) {i : Int32} {b : Nat} {ty : FieldType} (d : decode cc pc = .ok (.aaload, 1)) (hs : Z.1[a]? = some (.inl (t, 2, N))) (ht : Z.2.2.2[t]? = some ty) (hty : ty.isReference = true) (hr : i.toNatClampNeg < N → Z.2.1 a i.toNatClampNeg = some b) (q : AW X nL Z yd A k n Qf (pc + 1) lv (.ref b :: st) h o) : AW X nL Z yd A k n Qf pc lv (.int i :: .ref a :: st) h (ck i N o) := by
  by_cases hi : i < 0 ∨ N ≤ i.toNatClampNeg
  · unfold ck
    rw [if_pos hi]
    exact aw_none
  · exact aw_aald C d hs ht hty (hr (Nat.not_le.mp fun z => hi (Or.inr z))) q
end
section
def YC0 : Stc := ([.inr 10], (fun _ _ => none), 36, tlC)
theorem ln_YC0 : YC0.1.length = 1 := rfl
theorem wf_YC0 : WFs YC0 := wf_one (by decide)
def YC1 : Stc := addS YC0 (.inl (3, 2, 6))
theorem ln_YC1 : YC1.1.length = 2 := ln_add ln_YC0
theorem wf_YC1 : WFs YC1 := wf_add wf_YC0 (by decide)
def YC2 : Stc := putR YC1 0 0 1
theorem ln_YC2 : YC2.1.length = 2 := ln_YC1
theorem wf_YC2 : WFs YC2 := wf_put wf_YC1 (by rw [ln_YC1]; decide) (by rw [ln_YC1]; decide)
def YC3 : Stc := addS YC2 (.inl (0, 0, 96))
theorem ln_YC3 : YC3.1.length = 3 := ln_add ln_YC2
theorem wf_YC3 : WFs YC3 := wf_add wf_YC2 (by decide)
def YC4 : Stc := putR YC3 0 5 2
theorem ln_YC4 : YC4.1.length = 3 := ln_YC3
theorem wf_YC4 : WFs YC4 := wf_put wf_YC3 (by rw [ln_YC3]; decide) (by rw [ln_YC3]; decide)
def YC5 : Stc := addS YC4 (.inl (0, 0, 12))
theorem ln_YC5 : YC5.1.length = 4 := ln_add ln_YC4
theorem wf_YC5 : WFs YC5 := wf_add wf_YC4 (by decide)
def YC6 : Stc := putR YC5 0 7 3
theorem ln_YC6 : YC6.1.length = 4 := ln_YC5
theorem wf_YC6 : WFs YC6 := wf_put wf_YC5 (by rw [ln_YC5]; decide) (by rw [ln_YC5]; decide)
def YC7 : Stc := addS YC6 (.inl (0, 0, 7))
theorem ln_YC7 : YC7.1.length = 5 := ln_add ln_YC6
theorem wf_YC7 : WFs YC7 := wf_add wf_YC6 (by decide)
def YC8 : Stc := putR YC7 0 9 4
theorem ln_YC8 : YC8.1.length = 5 := ln_YC7
theorem wf_YC8 : WFs YC8 := wf_put wf_YC7 (by rw [ln_YC7]; decide) (by rw [ln_YC7]; decide)
def YC9 : Stc := addS YC8 (.inr 6)
theorem ln_YC9 : YC9.1.length = 6 := ln_add ln_YC8
theorem wf_YC9 : WFs YC9 := wf_add wf_YC8 (by decide)
def YC10 : Stc := addS YC9 (.inl (0, 0, 4))
theorem ln_YC10 : YC10.1.length = 7 := ln_add ln_YC9
theorem wf_YC10 : WFs YC10 := wf_add wf_YC9 (by decide)
def YC11 : Stc := putR YC10 5 1 6
theorem ln_YC11 : YC11.1.length = 7 := ln_YC10
theorem wf_YC11 : WFs YC11 := wf_put wf_YC10 (by rw [ln_YC10]; decide) (by rw [ln_YC10]; decide)
def YC12 : Stc := addS YC11 (.inl (0, 0, 4))
theorem ln_YC12 : YC12.1.length = 8 := ln_add ln_YC11
theorem wf_YC12 : WFs YC12 := wf_add wf_YC11 (by decide)
def YC13 : Stc := putR YC12 5 2 7
theorem ln_YC13 : YC13.1.length = 8 := ln_YC12
theorem wf_YC13 : WFs YC13 := wf_put wf_YC12 (by rw [ln_YC12]; decide) (by rw [ln_YC12]; decide)
def YC14 : Stc := putR YC13 0 10 5
theorem ln_YC14 : YC14.1.length = 8 := ln_YC13
theorem wf_YC14 : WFs YC14 := wf_put wf_YC13 (by rw [ln_YC13]; decide) (by rw [ln_YC13]; decide)
def YC15 : Stc := addS YC14 (.inr 1)
theorem ln_YC15 : YC15.1.length = 9 := ln_add ln_YC14
theorem wf_YC15 : WFs YC15 := wf_add wf_YC14 (by decide)
def YC16 : Stc := addM YC15 21 41
theorem ln_YC16 : YC16.1.length = 31 := ln_mna ln_YC15
theorem wf_YC16 : WFs YC16 := wf_mna wf_YC15
def YC17 : Stc := putR YC16 8 0 9
theorem ln_YC17 : YC17.1.length = 31 := ln_YC16
theorem wf_YC17 : WFs YC17 := wf_put wf_YC16 (by rw [ln_YC16]; decide) (by rw [ln_YC16]; decide)
def YC18 : Stc := addS YC17 (.inl (1, 1, 1000))
theorem ln_YC18 : YC18.1.length = 32 := ln_add ln_YC17
theorem wf_YC18 : WFs YC18 := wf_add wf_YC17 (by decide)
def YC19 : Stc := putR YC18 8 1 31
theorem ln_YC19 : YC19.1.length = 32 := ln_YC18
theorem wf_YC19 : WFs YC19 := wf_put wf_YC18 (by rw [ln_YC18]; decide) (by rw [ln_YC18]; decide)
theorem yC_9 (j : Nat) (hj : j < 21) : YC19.2.1 9 j = some (10 + j % 21) := (by decide +kernel : ∀ j, j < 21 → YC19.2.1 9 j = some (10 + j % 21)) j hj
theorem yC_way (j : Nat) : YC19.1[10 + j % 21]? = some (.inl (1, 1, 41)) := by
  have h : j % 21 < 21 := Nat.mod_lt _ (by decide)
  generalize j % 21 = a at h ⊢
  exact (by decide +kernel : ∀ a, a < 21 → YC19.1[10 + a]? = some (.inl (1, 1, 41))) a h
def YC20 : Stc := putR YC19 0 11 8
theorem ln_YC20 : YC20.1.length = 32 := ln_YC19
theorem wf_YC20 : WFs YC20 := wf_put wf_YC19 (by rw [ln_YC19]; decide) (by rw [ln_YC19]; decide)
def YC21 : Stc := addS YC20 (.inl (0, 0, 1000))
theorem ln_YC21 : YC21.1.length = 33 := ln_add ln_YC20
theorem wf_YC21 : WFs YC21 := wf_add wf_YC20 (by decide)
def YC22 : Stc := putR YC21 0 13 32
theorem ln_YC22 : YC22.1.length = 33 := ln_YC21
theorem wf_YC22 : WFs YC22 := wf_put wf_YC21 (by rw [ln_YC21]; decide) (by rw [ln_YC21]; decide)
def YC23 : Stc := addS YC22 (.inl (0, 0, 1000))
theorem ln_YC23 : YC23.1.length = 34 := ln_add ln_YC22
theorem wf_YC23 : WFs YC23 := wf_add wf_YC22 (by decide)
def YC24 : Stc := putR YC23 0 14 33
theorem ln_YC24 : YC24.1.length = 34 := ln_YC23
theorem wf_YC24 : WFs YC24 := wf_put wf_YC23 (by rw [ln_YC23]; decide) (by rw [ln_YC23]; decide)
def YC25 : Stc := addS YC24 (.inl (0, 0, 9))
theorem ln_YC25 : YC25.1.length = 35 := ln_add ln_YC24
theorem wf_YC25 : WFs YC25 := wf_add wf_YC24 (by decide)
def YC26 : Stc := putR YC25 0 15 34
theorem ln_YC26 : YC26.1.length = 35 := ln_YC25
theorem wf_YC26 : WFs YC26 := wf_put wf_YC25 (by rw [ln_YC25]; decide) (by rw [ln_YC25]; decide)
def YC27 : Stc := addS YC26 (.inl (0, 0, 4))
theorem ln_YC27 : YC27.1.length = 36 := ln_add ln_YC26
theorem wf_YC27 : WFs YC27 := wf_add wf_YC26 (by decide)
def YC28 : Stc := putR YC27 0 16 35
theorem ln_YC28 : YC28.1.length = 36 := ln_YC27
theorem wf_YC28 : WFs YC28 := wf_put wf_YC27 (by rw [ln_YC27]; decide) (by rw [ln_YC27]; decide)
def YC29 : Stc := addS YC28 (.inr 3)
theorem ln_YC29 : YC29.1.length = 37 := ln_add ln_YC28
theorem wf_YC29 : WFs YC29 := wf_add wf_YC28 (by decide)
def YC30 : Stc := putR YC29 1 0 36
theorem ln_YC30 : YC30.1.length = 37 := ln_YC29
theorem wf_YC30 : WFs YC30 := wf_put wf_YC29 (by rw [ln_YC29]; decide) (by rw [ln_YC29]; decide)
def YC31 : Stc := addS YC30 (.inr 7)
theorem ln_YC31 : YC31.1.length = 38 := ln_add ln_YC30
theorem wf_YC31 : WFs YC31 := wf_add wf_YC30 (by decide)
def YC32 : Stc := putR YC31 1 1 37
theorem ln_YC32 : YC32.1.length = 38 := ln_YC31
theorem wf_YC32 : WFs YC32 := wf_put wf_YC31 (by rw [ln_YC31]; decide) (by rw [ln_YC31]; decide)
def YC33 : Stc := addS YC32 (.inr 0)
theorem ln_YC33 : YC33.1.length = 39 := ln_add ln_YC32
theorem wf_YC33 : WFs YC33 := wf_add wf_YC32 (by decide)
def YC34 : Stc := putR YC33 1 2 38
theorem ln_YC34 : YC34.1.length = 39 := ln_YC33
theorem wf_YC34 : WFs YC34 := wf_put wf_YC33 (by rw [ln_YC33]; decide) (by rw [ln_YC33]; decide)
def YC35 : Stc := addS YC34 (.inr 4)
theorem ln_YC35 : YC35.1.length = 40 := ln_add ln_YC34
theorem wf_YC35 : WFs YC35 := wf_add wf_YC34 (by decide)
def YC36 : Stc := putR YC35 1 3 39
theorem ln_YC36 : YC36.1.length = 40 := ln_YC35
theorem wf_YC36 : WFs YC36 := wf_put wf_YC35 (by rw [ln_YC35]; decide) (by rw [ln_YC35]; decide)
def YC37 : Stc := addS YC36 (.inr 9)
theorem ln_YC37 : YC37.1.length = 41 := ln_add ln_YC36
theorem wf_YC37 : WFs YC37 := wf_add wf_YC36 (by decide)
def YC38 : Stc := putR YC37 1 4 40
theorem ln_YC38 : YC38.1.length = 41 := ln_YC37
theorem wf_YC38 : WFs YC38 := wf_put wf_YC37 (by rw [ln_YC37]; decide) (by rw [ln_YC37]; decide)
def YC39 : Stc := addS YC38 (.inr 8)
theorem ln_YC39 : YC39.1.length = 42 := ln_add ln_YC38
theorem wf_YC39 : WFs YC39 := wf_add wf_YC38 (by decide)
def YC40 : Stc := putR YC39 1 5 41
theorem ln_YC40 : YC40.1.length = 42 := ln_YC39
theorem wf_YC40 : WFs YC40 := wf_put wf_YC39 (by rw [ln_YC39]; decide) (by rw [ln_YC39]; decide)
def YC41 : Stc := addS YC40 (.inr 5)
theorem ln_YC41 : YC41.1.length = 43 := ln_add ln_YC40
theorem wf_YC41 : WFs YC41 := wf_add wf_YC40 (by decide)
def YC42 : Stc := addS YC41 (.inl (2, 2, 4))
theorem ln_YC42 : YC42.1.length = 44 := ln_add ln_YC41
theorem wf_YC42 : WFs YC42 := wf_add wf_YC41 (by decide)
def YC43 : Stc := putR YC42 42 5 43
theorem ln_YC43 : YC43.1.length = 44 := ln_YC42
theorem wf_YC43 : WFs YC43 := wf_put wf_YC42 (by rw [ln_YC42]; decide) (by rw [ln_YC42]; decide)
def YC44 : Stc := addS YC43 (.inl (0, 0, 24))
theorem ln_YC44 : YC44.1.length = 45 := ln_add ln_YC43
theorem wf_YC44 : WFs YC44 := wf_add wf_YC43 (by decide)
def YC45 : Stc := putR YC44 42 6 44
theorem ln_YC45 : YC45.1.length = 45 := ln_YC44
theorem wf_YC45 : WFs YC45 := wf_put wf_YC44 (by rw [ln_YC44]; decide) (by rw [ln_YC44]; decide)
def YC46 : Stc := addS YC45 (.inl (0, 0, 24))
theorem ln_YC46 : YC46.1.length = 46 := ln_add ln_YC45
theorem wf_YC46 : WFs YC46 := wf_add wf_YC45 (by decide)
def YC47 : Stc := putR YC46 42 7 45
theorem ln_YC47 : YC47.1.length = 46 := ln_YC46
theorem wf_YC47 : WFs YC47 := wf_put wf_YC46 (by rw [ln_YC46]; decide) (by rw [ln_YC46]; decide)
def YC48 : Stc := addS YC47 (.inl (0, 0, 24))
theorem ln_YC48 : YC48.1.length = 47 := ln_add ln_YC47
theorem wf_YC48 : WFs YC48 := wf_add wf_YC47 (by decide)
def YC49 : Stc := putR YC48 42 8 46
theorem ln_YC49 : YC49.1.length = 47 := ln_YC48
theorem wf_YC49 : WFs YC49 := wf_put wf_YC48 (by rw [ln_YC48]; decide) (by rw [ln_YC48]; decide)
def YC50 : Stc := addS YC49 (.inl (0, 0, 24))
theorem ln_YC50 : YC50.1.length = 48 := ln_add ln_YC49
theorem wf_YC50 : WFs YC50 := wf_add wf_YC49 (by decide)
def YC51 : Stc := putR YC50 42 9 47
theorem ln_YC51 : YC51.1.length = 48 := ln_YC50
theorem wf_YC51 : WFs YC51 := wf_put wf_YC50 (by rw [ln_YC50]; decide) (by rw [ln_YC50]; decide)
def YC52 : Stc := addS YC51 (.inl (0, 9, 2))
theorem ln_YC52 : YC52.1.length = 49 := ln_add ln_YC51
theorem wf_YC52 : WFs YC52 := wf_add wf_YC51 (by decide)
def YC53 : Stc := shpS YC52 48 (.inr 2)
theorem ln_YC53 : YC53.1.length = 49 := ln_shp ln_YC52
theorem wf_YC53 : WFs YC53 := wf_shp wf_YC52 (by rw [ln_YC52]; exact Nat.le_of_ble_eq_true rfl)
def YC54 : Stc := putR YC53 43 0 48
theorem ln_YC54 : YC54.1.length = 49 := ln_YC53
theorem wf_YC54 : WFs YC54 := wf_put wf_YC53 (by rw [ln_YC53]; decide) (by rw [ln_YC53]; decide)
def YC55 : Stc := addS YC54 (.inl (0, 9, 2))
theorem ln_YC55 : YC55.1.length = 50 := ln_add ln_YC54
theorem wf_YC55 : WFs YC55 := wf_add wf_YC54 (by decide)
def YC56 : Stc := shpS YC55 49 (.inr 2)
theorem ln_YC56 : YC56.1.length = 50 := ln_shp ln_YC55
theorem wf_YC56 : WFs YC56 := wf_shp wf_YC55 (by rw [ln_YC55]; exact Nat.le_of_ble_eq_true rfl)
def YC57 : Stc := putR YC56 43 1 49
theorem ln_YC57 : YC57.1.length = 50 := ln_YC56
theorem wf_YC57 : WFs YC57 := wf_put wf_YC56 (by rw [ln_YC56]; decide) (by rw [ln_YC56]; decide)
def YC58 : Stc := addS YC57 (.inl (0, 9, 2))
theorem ln_YC58 : YC58.1.length = 51 := ln_add ln_YC57
theorem wf_YC58 : WFs YC58 := wf_add wf_YC57 (by decide)
def YC59 : Stc := shpS YC58 50 (.inr 2)
theorem ln_YC59 : YC59.1.length = 51 := ln_shp ln_YC58
theorem wf_YC59 : WFs YC59 := wf_shp wf_YC58 (by rw [ln_YC58]; exact Nat.le_of_ble_eq_true rfl)
def YC60 : Stc := putR YC59 43 2 50
theorem ln_YC60 : YC60.1.length = 51 := ln_YC59
theorem wf_YC60 : WFs YC60 := wf_put wf_YC59 (by rw [ln_YC59]; decide) (by rw [ln_YC59]; decide)
def YC61 : Stc := addS YC60 (.inl (0, 9, 2))
theorem ln_YC61 : YC61.1.length = 52 := ln_add ln_YC60
theorem wf_YC61 : WFs YC61 := wf_add wf_YC60 (by decide)
def YC62 : Stc := shpS YC61 51 (.inr 2)
theorem ln_YC62 : YC62.1.length = 52 := ln_shp ln_YC61
theorem wf_YC62 : WFs YC62 := wf_shp wf_YC61 (by rw [ln_YC61]; exact Nat.le_of_ble_eq_true rfl)
def YC63 : Stc := putR YC62 43 3 51
theorem ln_YC63 : YC63.1.length = 52 := ln_YC62
theorem wf_YC63 : WFs YC63 := wf_put wf_YC62 (by rw [ln_YC62]; decide) (by rw [ln_YC62]; decide)
def YC64 : Stc := putR YC63 0 1 42
theorem ln_YC64 : YC64.1.length = 52 := ln_YC63
theorem wf_YC64 : WFs YC64 := wf_put wf_YC63 (by rw [ln_YC63]; decide) (by rw [ln_YC63]; decide)
def YC65 : Stc := addS YC64 (.inr 5)
theorem ln_YC65 : YC65.1.length = 53 := ln_add ln_YC64
theorem wf_YC65 : WFs YC65 := wf_add wf_YC64 (by decide)
def YC66 : Stc := addS YC65 (.inl (2, 2, 4))
theorem ln_YC66 : YC66.1.length = 54 := ln_add ln_YC65
theorem wf_YC66 : WFs YC66 := wf_add wf_YC65 (by decide)
def YC67 : Stc := putR YC66 52 5 53
theorem ln_YC67 : YC67.1.length = 54 := ln_YC66
theorem wf_YC67 : WFs YC67 := wf_put wf_YC66 (by rw [ln_YC66]; decide) (by rw [ln_YC66]; decide)
def YC68 : Stc := addS YC67 (.inl (0, 0, 24))
theorem ln_YC68 : YC68.1.length = 55 := ln_add ln_YC67
theorem wf_YC68 : WFs YC68 := wf_add wf_YC67 (by decide)
def YC69 : Stc := putR YC68 52 6 54
theorem ln_YC69 : YC69.1.length = 55 := ln_YC68
theorem wf_YC69 : WFs YC69 := wf_put wf_YC68 (by rw [ln_YC68]; decide) (by rw [ln_YC68]; decide)
def YC70 : Stc := addS YC69 (.inl (0, 0, 24))
theorem ln_YC70 : YC70.1.length = 56 := ln_add ln_YC69
theorem wf_YC70 : WFs YC70 := wf_add wf_YC69 (by decide)
def YC71 : Stc := putR YC70 52 7 55
theorem ln_YC71 : YC71.1.length = 56 := ln_YC70
theorem wf_YC71 : WFs YC71 := wf_put wf_YC70 (by rw [ln_YC70]; decide) (by rw [ln_YC70]; decide)
def YC72 : Stc := addS YC71 (.inl (0, 0, 24))
theorem ln_YC72 : YC72.1.length = 57 := ln_add ln_YC71
theorem wf_YC72 : WFs YC72 := wf_add wf_YC71 (by decide)
def YC73 : Stc := putR YC72 52 8 56
theorem ln_YC73 : YC73.1.length = 57 := ln_YC72
theorem wf_YC73 : WFs YC73 := wf_put wf_YC72 (by rw [ln_YC72]; decide) (by rw [ln_YC72]; decide)
def YC74 : Stc := addS YC73 (.inl (0, 0, 24))
theorem ln_YC74 : YC74.1.length = 58 := ln_add ln_YC73
theorem wf_YC74 : WFs YC74 := wf_add wf_YC73 (by decide)
def YC75 : Stc := putR YC74 52 9 57
theorem ln_YC75 : YC75.1.length = 58 := ln_YC74
theorem wf_YC75 : WFs YC75 := wf_put wf_YC74 (by rw [ln_YC74]; decide) (by rw [ln_YC74]; decide)
def YC76 : Stc := addS YC75 (.inl (0, 9, 2))
theorem ln_YC76 : YC76.1.length = 59 := ln_add ln_YC75
theorem wf_YC76 : WFs YC76 := wf_add wf_YC75 (by decide)
def YC77 : Stc := shpS YC76 58 (.inr 2)
theorem ln_YC77 : YC77.1.length = 59 := ln_shp ln_YC76
theorem wf_YC77 : WFs YC77 := wf_shp wf_YC76 (by rw [ln_YC76]; exact Nat.le_of_ble_eq_true rfl)
def YC78 : Stc := putR YC77 53 0 58
theorem ln_YC78 : YC78.1.length = 59 := ln_YC77
theorem wf_YC78 : WFs YC78 := wf_put wf_YC77 (by rw [ln_YC77]; decide) (by rw [ln_YC77]; decide)
def YC79 : Stc := addS YC78 (.inl (0, 9, 2))
theorem ln_YC79 : YC79.1.length = 60 := ln_add ln_YC78
theorem wf_YC79 : WFs YC79 := wf_add wf_YC78 (by decide)
def YC80 : Stc := shpS YC79 59 (.inr 2)
theorem ln_YC80 : YC80.1.length = 60 := ln_shp ln_YC79
theorem wf_YC80 : WFs YC80 := wf_shp wf_YC79 (by rw [ln_YC79]; exact Nat.le_of_ble_eq_true rfl)
def YC81 : Stc := putR YC80 53 1 59
theorem ln_YC81 : YC81.1.length = 60 := ln_YC80
theorem wf_YC81 : WFs YC81 := wf_put wf_YC80 (by rw [ln_YC80]; decide) (by rw [ln_YC80]; decide)
def YC82 : Stc := addS YC81 (.inl (0, 9, 2))
theorem ln_YC82 : YC82.1.length = 61 := ln_add ln_YC81
theorem wf_YC82 : WFs YC82 := wf_add wf_YC81 (by decide)
def YC83 : Stc := shpS YC82 60 (.inr 2)
theorem ln_YC83 : YC83.1.length = 61 := ln_shp ln_YC82
theorem wf_YC83 : WFs YC83 := wf_shp wf_YC82 (by rw [ln_YC82]; exact Nat.le_of_ble_eq_true rfl)
def YC84 : Stc := putR YC83 53 2 60
theorem ln_YC84 : YC84.1.length = 61 := ln_YC83
theorem wf_YC84 : WFs YC84 := wf_put wf_YC83 (by rw [ln_YC83]; decide) (by rw [ln_YC83]; decide)
def YC85 : Stc := addS YC84 (.inl (0, 9, 2))
theorem ln_YC85 : YC85.1.length = 62 := ln_add ln_YC84
theorem wf_YC85 : WFs YC85 := wf_add wf_YC84 (by decide)
def YC86 : Stc := shpS YC85 61 (.inr 2)
theorem ln_YC86 : YC86.1.length = 62 := ln_shp ln_YC85
theorem wf_YC86 : WFs YC86 := wf_shp wf_YC85 (by rw [ln_YC85]; exact Nat.le_of_ble_eq_true rfl)
def YC87 : Stc := putR YC86 53 3 61
theorem ln_YC87 : YC87.1.length = 62 := ln_YC86
theorem wf_YC87 : WFs YC87 := wf_put wf_YC86 (by rw [ln_YC86]; decide) (by rw [ln_YC86]; decide)
def YC88 : Stc := putR YC87 0 2 52
theorem ln_YC88 : YC88.1.length = 62 := ln_YC87
theorem wf_YC88 : WFs YC88 := wf_put wf_YC87 (by rw [ln_YC87]; decide) (by rw [ln_YC87]; decide)
def YC89 : Stc := addS YC88 (.inr 5)
theorem ln_YC89 : YC89.1.length = 63 := ln_add ln_YC88
theorem wf_YC89 : WFs YC89 := wf_add wf_YC88 (by decide)
def YC90 : Stc := addS YC89 (.inl (2, 2, 4))
theorem ln_YC90 : YC90.1.length = 64 := ln_add ln_YC89
theorem wf_YC90 : WFs YC90 := wf_add wf_YC89 (by decide)
def YC91 : Stc := putR YC90 62 5 63
theorem ln_YC91 : YC91.1.length = 64 := ln_YC90
theorem wf_YC91 : WFs YC91 := wf_put wf_YC90 (by rw [ln_YC90]; decide) (by rw [ln_YC90]; decide)
def YC92 : Stc := addS YC91 (.inl (0, 0, 24))
theorem ln_YC92 : YC92.1.length = 65 := ln_add ln_YC91
theorem wf_YC92 : WFs YC92 := wf_add wf_YC91 (by decide)
def YC93 : Stc := putR YC92 62 6 64
theorem ln_YC93 : YC93.1.length = 65 := ln_YC92
theorem wf_YC93 : WFs YC93 := wf_put wf_YC92 (by rw [ln_YC92]; decide) (by rw [ln_YC92]; decide)
def YC94 : Stc := addS YC93 (.inl (0, 0, 24))
theorem ln_YC94 : YC94.1.length = 66 := ln_add ln_YC93
theorem wf_YC94 : WFs YC94 := wf_add wf_YC93 (by decide)
def YC95 : Stc := putR YC94 62 7 65
theorem ln_YC95 : YC95.1.length = 66 := ln_YC94
theorem wf_YC95 : WFs YC95 := wf_put wf_YC94 (by rw [ln_YC94]; decide) (by rw [ln_YC94]; decide)
def YC96 : Stc := addS YC95 (.inl (0, 0, 24))
theorem ln_YC96 : YC96.1.length = 67 := ln_add ln_YC95
theorem wf_YC96 : WFs YC96 := wf_add wf_YC95 (by decide)
def YC97 : Stc := putR YC96 62 8 66
theorem ln_YC97 : YC97.1.length = 67 := ln_YC96
theorem wf_YC97 : WFs YC97 := wf_put wf_YC96 (by rw [ln_YC96]; decide) (by rw [ln_YC96]; decide)
def YC98 : Stc := addS YC97 (.inl (0, 0, 24))
theorem ln_YC98 : YC98.1.length = 68 := ln_add ln_YC97
theorem wf_YC98 : WFs YC98 := wf_add wf_YC97 (by decide)
def YC99 : Stc := putR YC98 62 9 67
theorem ln_YC99 : YC99.1.length = 68 := ln_YC98
theorem wf_YC99 : WFs YC99 := wf_put wf_YC98 (by rw [ln_YC98]; decide) (by rw [ln_YC98]; decide)
def YC100 : Stc := addS YC99 (.inl (0, 9, 2))
theorem ln_YC100 : YC100.1.length = 69 := ln_add ln_YC99
theorem wf_YC100 : WFs YC100 := wf_add wf_YC99 (by decide)
def YC101 : Stc := shpS YC100 68 (.inr 2)
theorem ln_YC101 : YC101.1.length = 69 := ln_shp ln_YC100
theorem wf_YC101 : WFs YC101 := wf_shp wf_YC100 (by rw [ln_YC100]; exact Nat.le_of_ble_eq_true rfl)
def YC102 : Stc := putR YC101 63 0 68
theorem ln_YC102 : YC102.1.length = 69 := ln_YC101
theorem wf_YC102 : WFs YC102 := wf_put wf_YC101 (by rw [ln_YC101]; decide) (by rw [ln_YC101]; decide)
def YC103 : Stc := addS YC102 (.inl (0, 9, 2))
theorem ln_YC103 : YC103.1.length = 70 := ln_add ln_YC102
theorem wf_YC103 : WFs YC103 := wf_add wf_YC102 (by decide)
def YC104 : Stc := shpS YC103 69 (.inr 2)
theorem ln_YC104 : YC104.1.length = 70 := ln_shp ln_YC103
theorem wf_YC104 : WFs YC104 := wf_shp wf_YC103 (by rw [ln_YC103]; exact Nat.le_of_ble_eq_true rfl)
def YC105 : Stc := putR YC104 63 1 69
theorem ln_YC105 : YC105.1.length = 70 := ln_YC104
theorem wf_YC105 : WFs YC105 := wf_put wf_YC104 (by rw [ln_YC104]; decide) (by rw [ln_YC104]; decide)
def YC106 : Stc := addS YC105 (.inl (0, 9, 2))
theorem ln_YC106 : YC106.1.length = 71 := ln_add ln_YC105
theorem wf_YC106 : WFs YC106 := wf_add wf_YC105 (by decide)
def YC107 : Stc := shpS YC106 70 (.inr 2)
theorem ln_YC107 : YC107.1.length = 71 := ln_shp ln_YC106
theorem wf_YC107 : WFs YC107 := wf_shp wf_YC106 (by rw [ln_YC106]; exact Nat.le_of_ble_eq_true rfl)
def YC108 : Stc := putR YC107 63 2 70
theorem ln_YC108 : YC108.1.length = 71 := ln_YC107
theorem wf_YC108 : WFs YC108 := wf_put wf_YC107 (by rw [ln_YC107]; decide) (by rw [ln_YC107]; decide)
def YC109 : Stc := addS YC108 (.inl (0, 9, 2))
theorem ln_YC109 : YC109.1.length = 72 := ln_add ln_YC108
theorem wf_YC109 : WFs YC109 := wf_add wf_YC108 (by decide)
def YC110 : Stc := shpS YC109 71 (.inr 2)
theorem ln_YC110 : YC110.1.length = 72 := ln_shp ln_YC109
theorem wf_YC110 : WFs YC110 := wf_shp wf_YC109 (by rw [ln_YC109]; exact Nat.le_of_ble_eq_true rfl)
def YC111 : Stc := putR YC110 63 3 71
theorem ln_YC111 : YC111.1.length = 72 := ln_YC110
theorem wf_YC111 : WFs YC111 := wf_put wf_YC110 (by rw [ln_YC110]; decide) (by rw [ln_YC110]; decide)
def YC112 : Stc := putR YC111 0 3 62
theorem ln_YC112 : YC112.1.length = 72 := ln_YC111
theorem wf_YC112 : WFs YC112 := wf_put wf_YC111 (by rw [ln_YC111]; decide) (by rw [ln_YC111]; decide)
def YC113 : Stc := addS YC112 (.inl (0, 9, 2))
theorem ln_YC113 : YC113.1.length = 73 := ln_add ln_YC112
theorem wf_YC113 : WFs YC113 := wf_add wf_YC112 (by decide)
def YC114 : Stc := shpS YC113 72 (.inr 2)
theorem ln_YC114 : YC114.1.length = 73 := ln_shp ln_YC113
theorem wf_YC114 : WFs YC114 := wf_shp wf_YC113 (by rw [ln_YC113]; exact Nat.le_of_ble_eq_true rfl)
def YC115 : Stc := putR YC114 0 12 72
theorem ln_YC115 : YC115.1.length = 73 := ln_YC114
theorem wf_YC115 : WFs YC115 := wf_put wf_YC114 (by rw [ln_YC114]; decide) (by rw [ln_YC114]; decide)
abbrev rmX6_init_i5 : Room := { frames := 1, cells := 2, slots := 8, locals := 20 }
def X6_init_i5 (h : AH) : Option (Unit × AH) :=
    vl (zN h 6) fun h1 =>
    vl (zN h1 7) fun h3 =>
    some ((), h3)
set_option maxRecDepth 100000 in
set_option maxHeartbeats 4000000 in
theorem c_X6_init_i5 (l : Launch) : MCN l yX6_init cX6_init 1 rmX6_init_i5 KX YC9 YC13 [.ref 5] X6_init_i5 :=
  MCN.of (own := RX6) pn_RX6 rfl rfl (Nat.le_of_ble_eq_true rfl) fun X yd A h C hKX hin =>
    aw_aload_n (pc := 0) C (i := 0) dK_s_136.1 rfl rfl <|
    aw_objInit (pc := 1) C dK_s_136.2.1 mo_X6_3 w_oi w_oc ⟨(Nat.le_of_ble_eq_true rfl), (Nat.le_of_ble_eq_true rfl)⟩ <|
    aw_aload_n (pc := 4) C (i := 0) dK_s_136.2.2.1 rfl rfl <|
    aw_iconst (pc := 5) C (v := 4) dK_s_136.2.2.2.1 rfl <|
    aw_newIm (pc := 6) C (Z' := YC10) (N := 4) ln_YC9 wf_YC9 dK_s_136.2.2.2.2.1 (by decide) rfl (by decide) rfl rfl rfl (Nat.le_of_ble_eq_true rfl) (Nat.le_of_ble_eq_true rfl) fun a2 h1 =>
    aw_putRF (pc := 8) C (Z' := YC11) hin dK_s_136.2.2.2.2.2.1 fpf_X6_9 rfl rfl (fun _ => rfl) (fun _ => rfl) rfl <|
    aw_aload_n (pc := 11) C (i := 0) dK_s_136.2.2.2.2.2.2.1 rfl rfl <|
    aw_iconst (pc := 12) C (v := 4) dK_s_136.2.2.2.2.2.2.2.1 rfl <|
    aw_newIm (pc := 13) C (Z' := YC12) (N := 4) ln_YC11 wf_YC11 dK_s_137.1 (by decide) rfl (by decide) rfl rfl rfl (Nat.le_of_ble_eq_true rfl) (Nat.le_of_ble_eq_true rfl) fun a4 h3 =>
    aw_putRF (pc := 15) C (Z' := YC13) hin dK_s_137.2.1 fpf_X6_15 rfl rfl (fun _ => rfl) (fun _ => rfl) rfl <|
    aw_vretN (pc := 18) C (Agr.new (n := 7) (Agr.new (n := 6) (Agr.rf) (Nat.le_of_ble_eq_true rfl)) (Nat.le_of_ble_eq_true rfl)) dK_s_137.2.2.1 rfl rfl
abbrev rmX1_init_i8 : Room := { frames := 1, cells := 23, slots := 1882, locals := 20 }
def X1_init_i8_l49  (v1 : Int32) (K41 : Int32 → AH → Option (Unit × AH)) : Nat → Int32 → AH → Option (Unit × AH)
  | 0, _, _ => none
  | n + 1, v2, h =>
    if ((2 * v1) - 2) < v2 then (vl (v1 + 1) fun x8 =>
    K41 x8 h)
    else (ck v1 21 (ck v2 41 (ck (v1 - 1) 21 (ck v2 41 (ck v2 41 (vl (sL h (10 + v1.toNatClampNeg % 21) v2.toNatClampNeg ((h.2.1 (10 + v1.toNatClampNeg % 21) v2.toNatClampNeg) + (h.2.1 (10 + (v1 - 1).toNatClampNeg % 21) v2.toNatClampNeg))) fun h9 =>
    ck v1 21 (ck (v2 + 1) 41 (ck (v1 - 1) 21 (ck v2 41 (ck (v2 + 1) 41 (vl (sL h9 (10 + v1.toNatClampNeg % 21) (v2 + 1).toNatClampNeg ((h9.2.1 (10 + v1.toNatClampNeg % 21) (v2 + 1).toNatClampNeg) + (2 * (h9.2.1 (10 + (v1 - 1).toNatClampNeg % 21) v2.toNatClampNeg)))) fun h10 =>
    ck v1 21 (ck (v2 + 2) 41 (ck (v1 - 1) 21 (ck v2 41 (ck (v2 + 2) 41 (vl (sL h10 (10 + v1.toNatClampNeg % 21) (v2 + 2).toNatClampNeg ((h10.2.1 (10 + v1.toNatClampNeg % 21) (v2 + 2).toNatClampNeg) + (h10.2.1 (10 + (v1 - 1).toNatClampNeg % 21) v2.toNatClampNeg))) fun h11 =>
    vl (v2 + 1) fun x12 =>
    (X1_init_i8_l49 v1 K41 n) x12 h11))))))))))))))))
set_option maxRecDepth 100000 in
theorem aX1_init_i8_l49 {X : MCx} {yd : Dyn} {A : Nat → Prop} (C : OK X cX1_init RX1 3 none rmX1_init_i8 A) {yd0 : Dyn} (hg : Agr YC15 yd0 yd) (v1 : Int32) (K41 : Int32 → AH → Option (Unit × AH)) (hK41 : ∀ (w1 : Int32) (h : AH), AW X 3 YC19 yd A (0 + 1 + 21 + 1) (0 + 21 + 21 * 41 + 1000) (QFN X rmX1_init_i8 YC15 YC19 yd0 A) 41 [(0, .ref 8), (1, .int w1)] [] h (K41 w1 h)) : ∀ (n : Nat) (v2 : Int32) (h : AH), AW X 3 YC19 yd A (0 + 1 + 21 + 1) (0 + 21 + 21 * 41 + 1000) (QFN X rmX1_init_i8 YC15 YC19 yd0 A) 49 [(0, .ref 8), (1, .int v1), (2, .int v2)] [] h (X1_init_i8_l49 v1 K41 n v2 h) := by
  intro n
  induction n with
  | zero => intro v2 h; exact aw_none
  | succ n ih =>
    intro v2 h
    exact aw_iload_n (pc := 49) C (i := 2) dK_s_16.2.2.2.2.1 rfl rfl <|
    aw_iconst (pc := 50) C (v := 2) dK_s_16.2.2.2.2.2.1 rfl <|
    aw_iload_n (pc := 51) C (i := 1) dK_s_16.2.2.2.2.2.2.1 rfl rfl <|
    aw_imul (pc := 52) C dK_s_16.2.2.2.2.2.2.2.1 <|
    aw_iconst (pc := 53) C (v := 2) dK_s_17.1 rfl <|
    aw_isub (pc := 54) C dK_s_17.2.1 <|
    aw_icmp_gt (pc := 55) C (tgt := 135) dK_s_17.2.2.1 rfl (fun _ =>
    aw_iincV (pc := 135) C (i := 1) (cst := 1) (fun x8 => [(0, .ref 8), (1, .int x8), (2, .int v2)]) dK_s_24.2.2.2.2.2.2.1 rfl rfl (by decide) (fun _ => rfl) fun x8 =>
    aw_goto (pc := 138) C (tgt := 41) dK_s_24.2.2.2.2.2.2.2.1 rfl <|
    aw_drop [0, 1] (hK41 x8 h)) (fun _ =>
    aw_aload_n (pc := 58) C (i := 0) dK_s_17.2.2.2.1 rfl rfl <|
    aw_getR (pc := 59) C (b := 9) dK_s_17.2.2.2.2.1 fl_X1_11 rfl rfl rfl <|
    aw_iload_n (pc := 62) C (i := 1) dK_s_17.2.2.2.2.2.1 rfl rfl <|
    aw_aaldI (pc := 63) C (b := (10 + v1.toNatClampNeg % 21)) dK_s_17.2.2.2.2.2.2.1 rfl rfl rfl (yC_9 _) <|
    aw_iload_n (pc := 64) C (i := 2) dK_s_17.2.2.2.2.2.2.2.1 rfl rfl <|
    aw_dup2 (pc := 65) C dK_s_18.1 rfl rfl <|
    aw_lald (pc := 66) C dK_s_18.2.1 (yC_way _) rfl <|
    aw_aload_n (pc := 67) C (i := 0) dK_s_18.2.2.1 rfl rfl <|
    aw_getR (pc := 68) C (b := 9) dK_s_18.2.2.2.1 fl_X1_11 rfl rfl rfl <|
    aw_iload_n (pc := 71) C (i := 1) dK_s_18.2.2.2.2.1 rfl rfl <|
    aw_iconst (pc := 72) C (v := 1) dK_s_18.2.2.2.2.2.1 rfl <|
    aw_isub (pc := 73) C dK_s_18.2.2.2.2.2.2.1 <|
    aw_aaldI (pc := 74) C (b := (10 + (v1 - 1).toNatClampNeg % 21)) dK_s_18.2.2.2.2.2.2.2.1 rfl rfl rfl (yC_9 _) <|
    aw_iload_n (pc := 75) C (i := 2) dK_s_19.1 rfl rfl <|
    aw_lald (pc := 76) C dK_s_19.2.1 (yC_way _) rfl <|
    aw_ladd (pc := 77) C dK_s_19.2.2.1 <|
    aw_last (pc := 78) C dK_s_19.2.2.2.1 (yC_way _) rfl fun h9 =>
    aw_aload_n (pc := 79) C (i := 0) dK_s_19.2.2.2.2.1 rfl rfl <|
    aw_getR (pc := 80) C (b := 9) dK_s_19.2.2.2.2.2.1 fl_X1_11 rfl rfl rfl <|
    aw_iload_n (pc := 83) C (i := 1) dK_s_19.2.2.2.2.2.2.1 rfl rfl <|
    aw_aaldI (pc := 84) C (b := (10 + v1.toNatClampNeg % 21)) dK_s_19.2.2.2.2.2.2.2.1 rfl rfl rfl (yC_9 _) <|
    aw_iload_n (pc := 85) C (i := 2) dK_s_20.1 rfl rfl <|
    aw_iconst (pc := 86) C (v := 1) dK_s_20.2.1 rfl <|
    aw_iadd (pc := 87) C dK_s_20.2.2.1 <|
    aw_dup2 (pc := 88) C dK_s_20.2.2.2.1 rfl rfl <|
    aw_lald (pc := 89) C dK_s_20.2.2.2.2.1 (yC_way _) rfl <|
    aw_ldc2_w (pc := 90) C (v := 2) dK_s_20.2.2.2.2.2.1 kc_X1_24 <|
    aw_aload_n (pc := 93) C (i := 0) dK_s_20.2.2.2.2.2.2.1 rfl rfl <|
    aw_getR (pc := 94) C (b := 9) dK_s_20.2.2.2.2.2.2.2.1 fl_X1_11 rfl rfl rfl <|
    aw_iload_n (pc := 97) C (i := 1) dK_s_21.1 rfl rfl <|
    aw_iconst (pc := 98) C (v := 1) dK_s_21.2.1 rfl <|
    aw_isub (pc := 99) C dK_s_21.2.2.1 <|
    aw_aaldI (pc := 100) C (b := (10 + (v1 - 1).toNatClampNeg % 21)) dK_s_21.2.2.2.1 rfl rfl rfl (yC_9 _) <|
    aw_iload_n (pc := 101) C (i := 2) dK_s_21.2.2.2.2.1 rfl rfl <|
    aw_lald (pc := 102) C dK_s_21.2.2.2.2.2.1 (yC_way _) rfl <|
    aw_lmul (pc := 103) C dK_s_21.2.2.2.2.2.2.1 <|
    aw_ladd (pc := 104) C dK_s_21.2.2.2.2.2.2.2.1 <|
    aw_last (pc := 105) C dK_s_22.1 (yC_way _) rfl fun h10 =>
    aw_aload_n (pc := 106) C (i := 0) dK_s_22.2.1 rfl rfl <|
    aw_getR (pc := 107) C (b := 9) dK_s_22.2.2.1 fl_X1_11 rfl rfl rfl <|
    aw_iload_n (pc := 110) C (i := 1) dK_s_22.2.2.2.1 rfl rfl <|
    aw_aaldI (pc := 111) C (b := (10 + v1.toNatClampNeg % 21)) dK_s_22.2.2.2.2.1 rfl rfl rfl (yC_9 _) <|
    aw_iload_n (pc := 112) C (i := 2) dK_s_22.2.2.2.2.2.1 rfl rfl <|
    aw_iconst (pc := 113) C (v := 2) dK_s_22.2.2.2.2.2.2.1 rfl <|
    aw_iadd (pc := 114) C dK_s_22.2.2.2.2.2.2.2.1 <|
    aw_dup2 (pc := 115) C dK_s_23.1 rfl rfl <|
    aw_lald (pc := 116) C dK_s_23.2.1 (yC_way _) rfl <|
    aw_aload_n (pc := 117) C (i := 0) dK_s_23.2.2.1 rfl rfl <|
    aw_getR (pc := 118) C (b := 9) dK_s_23.2.2.2.1 fl_X1_11 rfl rfl rfl <|
    aw_iload_n (pc := 121) C (i := 1) dK_s_23.2.2.2.2.1 rfl rfl <|
    aw_iconst (pc := 122) C (v := 1) dK_s_23.2.2.2.2.2.1 rfl <|
    aw_isub (pc := 123) C dK_s_23.2.2.2.2.2.2.1 <|
    aw_aaldI (pc := 124) C (b := (10 + (v1 - 1).toNatClampNeg % 21)) dK_s_23.2.2.2.2.2.2.2.1 rfl rfl rfl (yC_9 _) <|
    aw_iload_n (pc := 125) C (i := 2) dK_s_24.1 rfl rfl <|
    aw_lald (pc := 126) C dK_s_24.2.1 (yC_way _) rfl <|
    aw_ladd (pc := 127) C dK_s_24.2.2.1 <|
    aw_last (pc := 128) C dK_s_24.2.2.2.1 (yC_way _) rfl fun h11 =>
    aw_iincV (pc := 129) C (i := 2) (cst := 1) (fun x12 => [(0, .ref 8), (1, .int v1), (2, .int x12)]) dK_s_24.2.2.2.2.1 rfl rfl (by decide) (fun _ => rfl) fun x12 =>
    aw_goto (pc := 132) C (tgt := 49) dK_s_24.2.2.2.2.2.1 rfl <|
    (ih x12 h11))
def X1_init_i8_l41  : Nat → Int32 → AH → Option (Unit × AH)
  | 0, _, _ => none
  | n + 1, v1, h =>
    if 20 < v1 then (some ((), h))
    else (X1_init_i8_l49 v1 (X1_init_i8_l41 n) FU 0 h)
set_option maxRecDepth 100000 in
theorem aX1_init_i8_l41 {X : MCx} {yd : Dyn} {A : Nat → Prop} (C : OK X cX1_init RX1 3 none rmX1_init_i8 A) {yd0 : Dyn} (hg : Agr YC15 yd0 yd) : ∀ (n : Nat) (v1 : Int32) (h : AH), AW X 3 YC19 yd A (0 + 1 + 21 + 1) (0 + 21 + 21 * 41 + 1000) (QFN X rmX1_init_i8 YC15 YC19 yd0 A) 41 [(0, .ref 8), (1, .int v1)] [] h (X1_init_i8_l41 n v1 h) := by
  intro n
  induction n with
  | zero => intro v1 h; exact aw_none
  | succ n ih =>
    intro v1 h
    exact aw_iload_n (pc := 41) C (i := 1) dK_s_15.2.2.2.2.2.2.2.1 rfl rfl <|
    aw_bipush (pc := 42) C (v := 20) dK_s_16.1 rfl <|
    aw_icmp_gt (pc := 44) C (tgt := 141) dK_s_16.2.1 rfl (fun _ =>
    aw_vretN (pc := 141) C (hg) dK_s_25.1 rfl rfl) (fun _ =>
    aw_iconst (pc := 47) C (v := 0) dK_s_16.2.2.1 rfl <|
    aw_istore_n (pc := 48) C (i := 2) (lv' := [(0, .ref 8), (1, .int v1), (2, .int 0)]) dK_s_16.2.2.2.1 rfl (by decide) rfl <|
    (aX1_init_i8_l49 C hg v1 (X1_init_i8_l41 n) ih FU 0 h))
def X1_init_i8 (h : AH) : Option (Unit × AH) :=
    vl (zM h 9 21) fun h1 =>
    vl (zN h1 31) fun h4 =>
    vl (sL h4 8 2 1) fun h6 =>
    ck 0 21 (ck 0 41 (vl (sL h6 10 (0 : Int32).toNatClampNeg 1) fun h7 =>
    X1_init_i8_l41 FU 1 h7))
set_option maxRecDepth 100000 in
set_option maxHeartbeats 4000000 in
theorem c_X1_init_i8 (l : Launch) : MCN l yX1_init cX1_init 3 rmX1_init_i8 KX YC15 YC19 [.ref 8] X1_init_i8 :=
  MCN.of (own := RX1) pn_RX1 rfl rfl (Nat.le_of_ble_eq_true rfl) fun X yd A h C hKX hin =>
    aw_aload_n (pc := 0) C (i := 0) dK_s_13.1 rfl rfl <|
    aw_objInit (pc := 1) C dK_s_13.2.1 mo_X1_3 w_oi w_oc ⟨(Nat.le_of_ble_eq_true rfl), (Nat.le_of_ble_eq_true rfl)⟩ <|
    aw_aload_n (pc := 4) C (i := 0) dK_s_13.2.2.1 rfl rfl <|
    aw_bipush (pc := 5) C (v := 21) dK_s_13.2.2.2.1 rfl <|
    aw_bipush (pc := 7) C (v := 41) dK_s_13.2.2.2.2.1 rfl <|
    aw_mna (pc := 9) C (Z' := YC16) (M := 21) (N := 41) ln_YC15 hKX.2.2.1 kl_X1_9 w_arrJ dK_s_13.2.2.2.2.2.1 (by decide) (by decide) rfl rfl (by decide) (by decide) (by decide) wf_YC15.frm rfl rfl rfl rfl (Nat.le_of_ble_eq_true rfl) (Nat.le_of_ble_eq_true rfl) fun ad2 h1 ha3 =>
    aw_putRF (pc := 13) C (Z' := YC17) hin dK_s_13.2.2.2.2.2.2.1 fpf_X1_11 rfl rfl (fun _ => rfl) (fun _ => rfl) rfl <|
    aw_aload_n (pc := 16) C (i := 0) dK_s_13.2.2.2.2.2.2.2.1 rfl rfl <|
    aw_sipush (pc := 17) C (v := 1000) dK_s_14.1 rfl <|
    aw_newJm (pc := 20) C (Z' := YC18) (N := 1000) w_arrJ ln_YC17 wf_YC17 dK_s_14.2.1 (by decide) rfl (by decide) rfl rfl rfl (Nat.le_of_ble_eq_true rfl) (Nat.le_of_ble_eq_true rfl) fun a5 h4 =>
    aw_putRF (pc := 22) C (Z' := YC19) hin dK_s_14.2.2.1 fpf_X1_16 rfl rfl (fun _ => rfl) (fun _ => rfl) rfl <|
    aw_aload_n (pc := 25) C (i := 0) dK_s_14.2.2.2.1 rfl rfl <|
    aw_lconst (pc := 26) C (v := 1) dK_s_14.2.2.2.2.1 rfl <|
    aw_putL (pc := 27) C dK_s_14.2.2.2.2.2.1 fp_X1_20 rfl rfl fun h6 =>
    aw_aload_n (pc := 30) C (i := 0) dK_s_14.2.2.2.2.2.2.1 rfl rfl <|
    aw_getR (pc := 31) C (b := 9) dK_s_14.2.2.2.2.2.2.2.1 fl_X1_11 rfl rfl rfl <|
    aw_iconst (pc := 34) C (v := 0) dK_s_15.1 rfl <|
    aw_aald (pc := 35) C (b := 10) dK_s_15.2.1 rfl rfl rfl rfl <|
    aw_iconst (pc := 36) C (v := 0) dK_s_15.2.2.1 rfl <|
    aw_lconst (pc := 37) C (v := 1) dK_s_15.2.2.2.1 rfl <|
    aw_last (pc := 38) C dK_s_15.2.2.2.2.1 rfl rfl fun h7 =>
    aw_iconst (pc := 39) C (v := 1) dK_s_15.2.2.2.2.2.1 rfl <|
    aw_istore_n (pc := 40) C (i := 1) (lv' := [(0, .ref 8), (1, .int 1)]) dK_s_15.2.2.2.2.2.2.1 rfl (by decide) rfl <|
    (aX1_init_i8_l41 C (Agr.new (n := 31) (Agr.call (n := 9) (Agr.rf) (Nat.le_of_ble_eq_true rfl) ha3) (Nat.le_of_ble_eq_true rfl)) FU 1 h7)
abbrev rmX3_init_i36 : Room := { frames := 1, cells := 0, slots := 0, locals := 20 }
def X3_init_i36 (h : AH) : Option (Unit × AH) :=
    some ((), h)
set_option maxRecDepth 100000 in
set_option maxHeartbeats 4000000 in
theorem c_X3_init_i36 (l : Launch) : MCN l yX3_init cX3_init 1 rmX3_init_i36 KX YC29 YC29 [.ref 36] X3_init_i36 :=
  MCN.of (own := RX3) pn_RX3 rfl rfl (Nat.le_of_ble_eq_true rfl) fun X yd A h C hKX hin =>
    aw_aload_n (pc := 0) C (i := 0) dK_s_68.1 rfl rfl <|
    aw_objInit (pc := 1) C dK_s_68.2.1 mo_X3_1 w_oi w_oc ⟨(Nat.le_of_ble_eq_true rfl), (Nat.le_of_ble_eq_true rfl)⟩ <|
    aw_vretN (pc := 4) C (Agr.rf) dK_s_68.2.2.1 rfl rfl
abbrev rmX3_init_i37 : Room := { frames := 1, cells := 0, slots := 0, locals := 20 }
def X3_init_i37 (h : AH) : Option (Unit × AH) :=
    some ((), h)
set_option maxRecDepth 100000 in
set_option maxHeartbeats 4000000 in
theorem c_X3_init_i37 (l : Launch) : MCN l yX3_init cX3_init 1 rmX3_init_i37 KX YC31 YC31 [.ref 37] X3_init_i37 :=
  MCN.of (own := RX3) pn_RX3 rfl rfl (Nat.le_of_ble_eq_true rfl) fun X yd A h C hKX hin =>
    aw_aload_n (pc := 0) C (i := 0) dK_s_68.1 rfl rfl <|
    aw_objInit (pc := 1) C dK_s_68.2.1 mo_X3_1 w_oi w_oc ⟨(Nat.le_of_ble_eq_true rfl), (Nat.le_of_ble_eq_true rfl)⟩ <|
    aw_vretN (pc := 4) C (Agr.rf) dK_s_68.2.2.1 rfl rfl
abbrev rmX7_init_i37 : Room := { frames := 2, cells := 0, slots := 0, locals := 40 }
def X7_init_i37 (h : AH) : Option (Unit × AH) :=
    bd (X3_init_i37 h) fun _ h1 =>
    some ((), h1)
set_option maxRecDepth 100000 in
set_option maxHeartbeats 4000000 in
theorem c_X7_init_i37 (l : Launch) : MCN l yX7_init cX7_init 1 rmX7_init_i37 KX YC31 YC31 [.ref 37] X7_init_i37 :=
  MCN.of (own := RX7) pn_RX7 rfl rfl (Nat.le_of_ble_eq_true rfl) fun X yd A h C hKX hin =>
    aw_aload_n (pc := 0) C (i := 0) dK_s_164.1 rfl rfl <|
    aw_callC (pc := 1) C (Z' := YC31) (rm' := rmX3_init_i37) (F := X3_init_i37) (run_IN (host := "MarkToBoard") (As := []) (rest := []) (b := 37) C kx_m kx_b hKX (c_X3_init_i37 X.2.1) dK_s_164.2.1 mf_X3_init (hKX.2.2.2.1 (RX7, 1, yX3_init, "MarkToBoard") kx_X7_1) im_X3_init rfl ⟨(Nat.le_of_ble_eq_true rfl), (Nat.le_of_ble_eq_true rfl)⟩ rfl rfl (Nat.le_of_ble_eq_true rfl) ⟨(Nat.le_of_ble_eq_true rfl), (Nat.le_of_ble_eq_true rfl)⟩) rfl rfl (fun ad2 h1 ha3 =>
    aw_vretN (pc := 4) C (Agr.call (n := 38) (Agr.rf) (Nat.le_of_ble_eq_true rfl) (ha3)) dK_s_164.2.2.1 rfl rfl) rfl
abbrev rmX3_init_i38 : Room := { frames := 1, cells := 0, slots := 0, locals := 20 }
def X3_init_i38 (h : AH) : Option (Unit × AH) :=
    some ((), h)
set_option maxRecDepth 100000 in
set_option maxHeartbeats 4000000 in
theorem c_X3_init_i38 (l : Launch) : MCN l yX3_init cX3_init 1 rmX3_init_i38 KX YC33 YC33 [.ref 38] X3_init_i38 :=
  MCN.of (own := RX3) pn_RX3 rfl rfl (Nat.le_of_ble_eq_true rfl) fun X yd A h C hKX hin =>
    aw_aload_n (pc := 0) C (i := 0) dK_s_68.1 rfl rfl <|
    aw_objInit (pc := 1) C dK_s_68.2.1 mo_X3_1 w_oi w_oc ⟨(Nat.le_of_ble_eq_true rfl), (Nat.le_of_ble_eq_true rfl)⟩ <|
    aw_vretN (pc := 4) C (Agr.rf) dK_s_68.2.2.1 rfl rfl
abbrev rmX0_init_i38 : Room := { frames := 2, cells := 0, slots := 0, locals := 40 }
def X0_init_i38 (h : AH) : Option (Unit × AH) :=
    bd (X3_init_i38 h) fun _ h1 =>
    some ((), h1)
set_option maxRecDepth 100000 in
set_option maxHeartbeats 4000000 in
theorem c_X0_init_i38 (l : Launch) : MCN l yX0_init cX0_init 1 rmX0_init_i38 KX YC33 YC33 [.ref 38] X0_init_i38 :=
  MCN.of (own := RX0) pn_RX0 rfl rfl (Nat.le_of_ble_eq_true rfl) fun X yd A h C hKX hin =>
    aw_aload_n (pc := 0) C (i := 0) dK_s_7.1 rfl rfl <|
    aw_callC (pc := 1) C (Z' := YC33) (rm' := rmX3_init_i38) (F := X3_init_i38) (run_IN (host := "MarkToBoard") (As := []) (rest := []) (b := 38) C kx_m kx_b hKX (c_X3_init_i38 X.2.1) dK_s_7.2.1 mf_X3_init (hKX.2.2.2.1 (RX0, 1, yX3_init, "MarkToBoard") kx_X0_1) im_X3_init rfl ⟨(Nat.le_of_ble_eq_true rfl), (Nat.le_of_ble_eq_true rfl)⟩ rfl rfl (Nat.le_of_ble_eq_true rfl) ⟨(Nat.le_of_ble_eq_true rfl), (Nat.le_of_ble_eq_true rfl)⟩) rfl rfl (fun ad2 h1 ha3 =>
    aw_vretN (pc := 4) C (Agr.call (n := 39) (Agr.rf) (Nat.le_of_ble_eq_true rfl) (ha3)) dK_s_7.2.2.1 rfl rfl) rfl
abbrev rmX3_init_i39 : Room := { frames := 1, cells := 0, slots := 0, locals := 20 }
def X3_init_i39 (h : AH) : Option (Unit × AH) :=
    some ((), h)
set_option maxRecDepth 100000 in
set_option maxHeartbeats 4000000 in
theorem c_X3_init_i39 (l : Launch) : MCN l yX3_init cX3_init 1 rmX3_init_i39 KX YC35 YC35 [.ref 39] X3_init_i39 :=
  MCN.of (own := RX3) pn_RX3 rfl rfl (Nat.le_of_ble_eq_true rfl) fun X yd A h C hKX hin =>
    aw_aload_n (pc := 0) C (i := 0) dK_s_68.1 rfl rfl <|
    aw_objInit (pc := 1) C dK_s_68.2.1 mo_X3_1 w_oi w_oc ⟨(Nat.le_of_ble_eq_true rfl), (Nat.le_of_ble_eq_true rfl)⟩ <|
    aw_vretN (pc := 4) C (Agr.rf) dK_s_68.2.2.1 rfl rfl
abbrev rmX7_init_i39 : Room := { frames := 2, cells := 0, slots := 0, locals := 40 }
def X7_init_i39 (h : AH) : Option (Unit × AH) :=
    bd (X3_init_i39 h) fun _ h1 =>
    some ((), h1)
set_option maxRecDepth 100000 in
set_option maxHeartbeats 4000000 in
theorem c_X7_init_i39 (l : Launch) : MCN l yX7_init cX7_init 1 rmX7_init_i39 KX YC35 YC35 [.ref 39] X7_init_i39 :=
  MCN.of (own := RX7) pn_RX7 rfl rfl (Nat.le_of_ble_eq_true rfl) fun X yd A h C hKX hin =>
    aw_aload_n (pc := 0) C (i := 0) dK_s_164.1 rfl rfl <|
    aw_callC (pc := 1) C (Z' := YC35) (rm' := rmX3_init_i39) (F := X3_init_i39) (run_IN (host := "MarkToBoard") (As := []) (rest := []) (b := 39) C kx_m kx_b hKX (c_X3_init_i39 X.2.1) dK_s_164.2.1 mf_X3_init (hKX.2.2.2.1 (RX7, 1, yX3_init, "MarkToBoard") kx_X7_1) im_X3_init rfl ⟨(Nat.le_of_ble_eq_true rfl), (Nat.le_of_ble_eq_true rfl)⟩ rfl rfl (Nat.le_of_ble_eq_true rfl) ⟨(Nat.le_of_ble_eq_true rfl), (Nat.le_of_ble_eq_true rfl)⟩) rfl rfl (fun ad2 h1 ha3 =>
    aw_vretN (pc := 4) C (Agr.call (n := 40) (Agr.rf) (Nat.le_of_ble_eq_true rfl) (ha3)) dK_s_164.2.2.1 rfl rfl) rfl
abbrev rmX4_init_i39 : Room := { frames := 3, cells := 0, slots := 0, locals := 60 }
def X4_init_i39 (h : AH) : Option (Unit × AH) :=
    bd (X7_init_i39 h) fun _ h1 =>
    some ((), h1)
set_option maxRecDepth 100000 in
set_option maxHeartbeats 4000000 in
theorem c_X4_init_i39 (l : Launch) : MCN l yX4_init cX4_init 1 rmX4_init_i39 KX YC35 YC35 [.ref 39] X4_init_i39 :=
  MCN.of (own := RX4) pn_RX4 rfl rfl (Nat.le_of_ble_eq_true rfl) fun X yd A h C hKX hin =>
    aw_aload_n (pc := 0) C (i := 0) dK_s_75.1 rfl rfl <|
    aw_callC (pc := 1) C (Z' := YC35) (rm' := rmX7_init_i39) (F := X7_init_i39) (run_IN (host := "MarkToBoard") (As := []) (rest := []) (b := 39) C kx_m kx_b hKX (c_X7_init_i39 X.2.1) dK_s_75.2.1 mf_X7_init (hKX.2.2.2.1 (RX4, 1, yX7_init, "MarkToBoard") kx_X4_1) im_X7_init rfl ⟨(Nat.le_of_ble_eq_true rfl), (Nat.le_of_ble_eq_true rfl)⟩ rfl rfl (Nat.le_of_ble_eq_true rfl) ⟨(Nat.le_of_ble_eq_true rfl), (Nat.le_of_ble_eq_true rfl)⟩) rfl rfl (fun ad2 h1 ha3 =>
    aw_vretN (pc := 4) C (Agr.call (n := 40) (Agr.rf) (Nat.le_of_ble_eq_true rfl) (ha3)) dK_s_75.2.2.1 rfl rfl) rfl
abbrev rmX3_init_i40 : Room := { frames := 1, cells := 0, slots := 0, locals := 20 }
def X3_init_i40 (h : AH) : Option (Unit × AH) :=
    some ((), h)
set_option maxRecDepth 100000 in
set_option maxHeartbeats 4000000 in
theorem c_X3_init_i40 (l : Launch) : MCN l yX3_init cX3_init 1 rmX3_init_i40 KX YC37 YC37 [.ref 40] X3_init_i40 :=
  MCN.of (own := RX3) pn_RX3 rfl rfl (Nat.le_of_ble_eq_true rfl) fun X yd A h C hKX hin =>
    aw_aload_n (pc := 0) C (i := 0) dK_s_68.1 rfl rfl <|
    aw_objInit (pc := 1) C dK_s_68.2.1 mo_X3_1 w_oi w_oc ⟨(Nat.le_of_ble_eq_true rfl), (Nat.le_of_ble_eq_true rfl)⟩ <|
    aw_vretN (pc := 4) C (Agr.rf) dK_s_68.2.2.1 rfl rfl
abbrev rmX0_init_i40 : Room := { frames := 2, cells := 0, slots := 0, locals := 40 }
def X0_init_i40 (h : AH) : Option (Unit × AH) :=
    bd (X3_init_i40 h) fun _ h1 =>
    some ((), h1)
set_option maxRecDepth 100000 in
set_option maxHeartbeats 4000000 in
theorem c_X0_init_i40 (l : Launch) : MCN l yX0_init cX0_init 1 rmX0_init_i40 KX YC37 YC37 [.ref 40] X0_init_i40 :=
  MCN.of (own := RX0) pn_RX0 rfl rfl (Nat.le_of_ble_eq_true rfl) fun X yd A h C hKX hin =>
    aw_aload_n (pc := 0) C (i := 0) dK_s_7.1 rfl rfl <|
    aw_callC (pc := 1) C (Z' := YC37) (rm' := rmX3_init_i40) (F := X3_init_i40) (run_IN (host := "MarkToBoard") (As := []) (rest := []) (b := 40) C kx_m kx_b hKX (c_X3_init_i40 X.2.1) dK_s_7.2.1 mf_X3_init (hKX.2.2.2.1 (RX0, 1, yX3_init, "MarkToBoard") kx_X0_1) im_X3_init rfl ⟨(Nat.le_of_ble_eq_true rfl), (Nat.le_of_ble_eq_true rfl)⟩ rfl rfl (Nat.le_of_ble_eq_true rfl) ⟨(Nat.le_of_ble_eq_true rfl), (Nat.le_of_ble_eq_true rfl)⟩) rfl rfl (fun ad2 h1 ha3 =>
    aw_vretN (pc := 4) C (Agr.call (n := 41) (Agr.rf) (Nat.le_of_ble_eq_true rfl) (ha3)) dK_s_7.2.2.1 rfl rfl) rfl
abbrev rmX9_init_i40 : Room := { frames := 3, cells := 0, slots := 0, locals := 60 }
def X9_init_i40 (h : AH) : Option (Unit × AH) :=
    bd (X0_init_i40 h) fun _ h1 =>
    some ((), h1)
set_option maxRecDepth 100000 in
set_option maxHeartbeats 4000000 in
theorem c_X9_init_i40 (l : Launch) : MCN l yX9_init cX9_init 1 rmX9_init_i40 KX YC37 YC37 [.ref 40] X9_init_i40 :=
  MCN.of (own := RX9) pn_RX9 rfl rfl (Nat.le_of_ble_eq_true rfl) fun X yd A h C hKX hin =>
    aw_aload_n (pc := 0) C (i := 0) dK_s_174.1 rfl rfl <|
    aw_callC (pc := 1) C (Z' := YC37) (rm' := rmX0_init_i40) (F := X0_init_i40) (run_IN (host := "MarkToBoard") (As := []) (rest := []) (b := 40) C kx_m kx_b hKX (c_X0_init_i40 X.2.1) dK_s_174.2.1 mf_X0_init (hKX.2.2.2.1 (RX9, 1, yX0_init, "MarkToBoard") kx_X9_1) im_X0_init rfl ⟨(Nat.le_of_ble_eq_true rfl), (Nat.le_of_ble_eq_true rfl)⟩ rfl rfl (Nat.le_of_ble_eq_true rfl) ⟨(Nat.le_of_ble_eq_true rfl), (Nat.le_of_ble_eq_true rfl)⟩) rfl rfl (fun ad2 h1 ha3 =>
    aw_vretN (pc := 4) C (Agr.call (n := 41) (Agr.rf) (Nat.le_of_ble_eq_true rfl) (ha3)) dK_s_174.2.2.1 rfl rfl) rfl
abbrev rmX3_init_i41 : Room := { frames := 1, cells := 0, slots := 0, locals := 20 }
def X3_init_i41 (h : AH) : Option (Unit × AH) :=
    some ((), h)
set_option maxRecDepth 100000 in
set_option maxHeartbeats 4000000 in
theorem c_X3_init_i41 (l : Launch) : MCN l yX3_init cX3_init 1 rmX3_init_i41 KX YC39 YC39 [.ref 41] X3_init_i41 :=
  MCN.of (own := RX3) pn_RX3 rfl rfl (Nat.le_of_ble_eq_true rfl) fun X yd A h C hKX hin =>
    aw_aload_n (pc := 0) C (i := 0) dK_s_68.1 rfl rfl <|
    aw_objInit (pc := 1) C dK_s_68.2.1 mo_X3_1 w_oi w_oc ⟨(Nat.le_of_ble_eq_true rfl), (Nat.le_of_ble_eq_true rfl)⟩ <|
    aw_vretN (pc := 4) C (Agr.rf) dK_s_68.2.2.1 rfl rfl
abbrev rmX7_init_i41 : Room := { frames := 2, cells := 0, slots := 0, locals := 40 }
def X7_init_i41 (h : AH) : Option (Unit × AH) :=
    bd (X3_init_i41 h) fun _ h1 =>
    some ((), h1)
set_option maxRecDepth 100000 in
set_option maxHeartbeats 4000000 in
theorem c_X7_init_i41 (l : Launch) : MCN l yX7_init cX7_init 1 rmX7_init_i41 KX YC39 YC39 [.ref 41] X7_init_i41 :=
  MCN.of (own := RX7) pn_RX7 rfl rfl (Nat.le_of_ble_eq_true rfl) fun X yd A h C hKX hin =>
    aw_aload_n (pc := 0) C (i := 0) dK_s_164.1 rfl rfl <|
    aw_callC (pc := 1) C (Z' := YC39) (rm' := rmX3_init_i41) (F := X3_init_i41) (run_IN (host := "MarkToBoard") (As := []) (rest := []) (b := 41) C kx_m kx_b hKX (c_X3_init_i41 X.2.1) dK_s_164.2.1 mf_X3_init (hKX.2.2.2.1 (RX7, 1, yX3_init, "MarkToBoard") kx_X7_1) im_X3_init rfl ⟨(Nat.le_of_ble_eq_true rfl), (Nat.le_of_ble_eq_true rfl)⟩ rfl rfl (Nat.le_of_ble_eq_true rfl) ⟨(Nat.le_of_ble_eq_true rfl), (Nat.le_of_ble_eq_true rfl)⟩) rfl rfl (fun ad2 h1 ha3 =>
    aw_vretN (pc := 4) C (Agr.call (n := 42) (Agr.rf) (Nat.le_of_ble_eq_true rfl) (ha3)) dK_s_164.2.2.1 rfl rfl) rfl
abbrev rmX4_init_i41 : Room := { frames := 3, cells := 0, slots := 0, locals := 60 }
def X4_init_i41 (h : AH) : Option (Unit × AH) :=
    bd (X7_init_i41 h) fun _ h1 =>
    some ((), h1)
set_option maxRecDepth 100000 in
set_option maxHeartbeats 4000000 in
theorem c_X4_init_i41 (l : Launch) : MCN l yX4_init cX4_init 1 rmX4_init_i41 KX YC39 YC39 [.ref 41] X4_init_i41 :=
  MCN.of (own := RX4) pn_RX4 rfl rfl (Nat.le_of_ble_eq_true rfl) fun X yd A h C hKX hin =>
    aw_aload_n (pc := 0) C (i := 0) dK_s_75.1 rfl rfl <|
    aw_callC (pc := 1) C (Z' := YC39) (rm' := rmX7_init_i41) (F := X7_init_i41) (run_IN (host := "MarkToBoard") (As := []) (rest := []) (b := 41) C kx_m kx_b hKX (c_X7_init_i41 X.2.1) dK_s_75.2.1 mf_X7_init (hKX.2.2.2.1 (RX4, 1, yX7_init, "MarkToBoard") kx_X4_1) im_X7_init rfl ⟨(Nat.le_of_ble_eq_true rfl), (Nat.le_of_ble_eq_true rfl)⟩ rfl rfl (Nat.le_of_ble_eq_true rfl) ⟨(Nat.le_of_ble_eq_true rfl), (Nat.le_of_ble_eq_true rfl)⟩) rfl rfl (fun ad2 h1 ha3 =>
    aw_vretN (pc := 4) C (Agr.call (n := 42) (Agr.rf) (Nat.le_of_ble_eq_true rfl) (ha3)) dK_s_75.2.2.1 rfl rfl) rfl
abbrev rmX8_init_i41 : Room := { frames := 4, cells := 0, slots := 0, locals := 80 }
def X8_init_i41 (h : AH) : Option (Unit × AH) :=
    bd (X4_init_i41 h) fun _ h1 =>
    some ((), h1)
set_option maxRecDepth 100000 in
set_option maxHeartbeats 4000000 in
theorem c_X8_init_i41 (l : Launch) : MCN l yX8_init cX8_init 1 rmX8_init_i41 KX YC39 YC39 [.ref 41] X8_init_i41 :=
  MCN.of (own := RX8) pn_RX8 rfl rfl (Nat.le_of_ble_eq_true rfl) fun X yd A h C hKX hin =>
    aw_aload_n (pc := 0) C (i := 0) dK_s_168.1 rfl rfl <|
    aw_callC (pc := 1) C (Z' := YC39) (rm' := rmX4_init_i41) (F := X4_init_i41) (run_IN (host := "MarkToBoard") (As := []) (rest := []) (b := 41) C kx_m kx_b hKX (c_X4_init_i41 X.2.1) dK_s_168.2.1 mf_X4_init (hKX.2.2.2.1 (RX8, 1, yX4_init, "MarkToBoard") kx_X8_1) im_X4_init rfl ⟨(Nat.le_of_ble_eq_true rfl), (Nat.le_of_ble_eq_true rfl)⟩ rfl rfl (Nat.le_of_ble_eq_true rfl) ⟨(Nat.le_of_ble_eq_true rfl), (Nat.le_of_ble_eq_true rfl)⟩) rfl rfl (fun ad2 h1 ha3 =>
    aw_vretN (pc := 4) C (Agr.call (n := 42) (Agr.rf) (Nat.le_of_ble_eq_true rfl) (ha3)) dK_s_168.2.2.1 rfl rfl) rfl
abbrev rmX2_init_i48 : Room := { frames := 1, cells := 0, slots := 0, locals := 20 }
def X2_init_i48 (h : AH) : Option (Unit × AH) :=
    vl (sK h 48 0) fun h1 =>
    some ((), h1)
set_option maxRecDepth 100000 in
set_option maxHeartbeats 4000000 in
theorem c_X2_init_i48 (l : Launch) : MCN l yX2_init cX2_init 2 rmX2_init_i48 KX YC52 YC53 [.ref 48, .ref 36] X2_init_i48 :=
  MCN.of (own := RX2) pn_RX2 rfl rfl (Nat.le_of_ble_eq_true rfl) fun X yd A h C hKX hin =>
    aw_aload_n (pc := 0) C (i := 0) dK_s_55.1 rfl rfl <|
    aw_objInit (pc := 1) C dK_s_55.2.1 mo_X2_1 w_oi w_oc ⟨(Nat.le_of_ble_eq_true rfl), (Nat.le_of_ble_eq_true rfl)⟩ <|
    aw_aload_n (pc := 4) C (i := 0) dK_s_55.2.2.1 rfl rfl <|
    aw_aload_n (pc := 5) C (i := 1) dK_s_55.2.2.2.1 rfl rfl <|
    aw_putW0 (pc := 6) C (Z' := YC53) (v := 0) dK_s_55.2.2.2.2.1 fp_X2_7 rfl rfl rfl fun h1 =>
    aw_vretN (pc := 9) C (Agr.rf) dK_s_55.2.2.2.2.2.1 rfl rfl
abbrev rmX2_init_i49 : Room := { frames := 1, cells := 0, slots := 0, locals := 20 }
def X2_init_i49 (h : AH) : Option (Unit × AH) :=
    vl (sK h 49 0) fun h1 =>
    some ((), h1)
set_option maxRecDepth 100000 in
set_option maxHeartbeats 4000000 in
theorem c_X2_init_i49 (l : Launch) : MCN l yX2_init cX2_init 2 rmX2_init_i49 KX YC55 YC56 [.ref 49, .ref 36] X2_init_i49 :=
  MCN.of (own := RX2) pn_RX2 rfl rfl (Nat.le_of_ble_eq_true rfl) fun X yd A h C hKX hin =>
    aw_aload_n (pc := 0) C (i := 0) dK_s_55.1 rfl rfl <|
    aw_objInit (pc := 1) C dK_s_55.2.1 mo_X2_1 w_oi w_oc ⟨(Nat.le_of_ble_eq_true rfl), (Nat.le_of_ble_eq_true rfl)⟩ <|
    aw_aload_n (pc := 4) C (i := 0) dK_s_55.2.2.1 rfl rfl <|
    aw_aload_n (pc := 5) C (i := 1) dK_s_55.2.2.2.1 rfl rfl <|
    aw_putW0 (pc := 6) C (Z' := YC56) (v := 0) dK_s_55.2.2.2.2.1 fp_X2_7 rfl rfl rfl fun h1 =>
    aw_vretN (pc := 9) C (Agr.rf) dK_s_55.2.2.2.2.2.1 rfl rfl
abbrev rmX2_init_i50 : Room := { frames := 1, cells := 0, slots := 0, locals := 20 }
def X2_init_i50 (h : AH) : Option (Unit × AH) :=
    vl (sK h 50 0) fun h1 =>
    some ((), h1)
set_option maxRecDepth 100000 in
set_option maxHeartbeats 4000000 in
theorem c_X2_init_i50 (l : Launch) : MCN l yX2_init cX2_init 2 rmX2_init_i50 KX YC58 YC59 [.ref 50, .ref 36] X2_init_i50 :=
  MCN.of (own := RX2) pn_RX2 rfl rfl (Nat.le_of_ble_eq_true rfl) fun X yd A h C hKX hin =>
    aw_aload_n (pc := 0) C (i := 0) dK_s_55.1 rfl rfl <|
    aw_objInit (pc := 1) C dK_s_55.2.1 mo_X2_1 w_oi w_oc ⟨(Nat.le_of_ble_eq_true rfl), (Nat.le_of_ble_eq_true rfl)⟩ <|
    aw_aload_n (pc := 4) C (i := 0) dK_s_55.2.2.1 rfl rfl <|
    aw_aload_n (pc := 5) C (i := 1) dK_s_55.2.2.2.1 rfl rfl <|
    aw_putW0 (pc := 6) C (Z' := YC59) (v := 0) dK_s_55.2.2.2.2.1 fp_X2_7 rfl rfl rfl fun h1 =>
    aw_vretN (pc := 9) C (Agr.rf) dK_s_55.2.2.2.2.2.1 rfl rfl
abbrev rmX2_init_i51 : Room := { frames := 1, cells := 0, slots := 0, locals := 20 }
def X2_init_i51 (h : AH) : Option (Unit × AH) :=
    vl (sK h 51 0) fun h1 =>
    some ((), h1)
set_option maxRecDepth 100000 in
set_option maxHeartbeats 4000000 in
theorem c_X2_init_i51 (l : Launch) : MCN l yX2_init cX2_init 2 rmX2_init_i51 KX YC61 YC62 [.ref 51, .ref 36] X2_init_i51 :=
  MCN.of (own := RX2) pn_RX2 rfl rfl (Nat.le_of_ble_eq_true rfl) fun X yd A h C hKX hin =>
    aw_aload_n (pc := 0) C (i := 0) dK_s_55.1 rfl rfl <|
    aw_objInit (pc := 1) C dK_s_55.2.1 mo_X2_1 w_oi w_oc ⟨(Nat.le_of_ble_eq_true rfl), (Nat.le_of_ble_eq_true rfl)⟩ <|
    aw_aload_n (pc := 4) C (i := 0) dK_s_55.2.2.1 rfl rfl <|
    aw_aload_n (pc := 5) C (i := 1) dK_s_55.2.2.2.1 rfl rfl <|
    aw_putW0 (pc := 6) C (Z' := YC62) (v := 0) dK_s_55.2.2.2.2.1 fp_X2_7 rfl rfl rfl fun h1 =>
    aw_vretN (pc := 9) C (Agr.rf) dK_s_55.2.2.2.2.2.1 rfl rfl
abbrev rmX5_init_i42 : Room := { frames := 2, cells := 9, slots := 136, locals := 41 }
def X5_init_i42 (h : AH) : Option (Unit × AH) :=
    vl (sI h 42 0 10) fun h1 =>
    vl (sI h1 42 2 2) fun h2 =>
    vl (zN h2 43) fun h3 =>
    vl (zN h3 44) fun h5 =>
    vl (zN h5 45) fun h7 =>
    vl (zN h7 46) fun h9 =>
    vl (zN h9 47) fun h11 =>
    vl (zN h11 48) fun h13 =>
    bd (X2_init_i48 h13) fun _ h15 =>
    vl (zN h15 49) fun h18 =>
    bd (X2_init_i49 h18) fun _ h20 =>
    vl (zN h20 50) fun h23 =>
    bd (X2_init_i50 h23) fun _ h25 =>
    vl (zN h25 51) fun h28 =>
    bd (X2_init_i51 h28) fun _ h30 =>
    some ((), h30)
set_option maxRecDepth 100000 in
set_option maxHeartbeats 4000000 in
theorem c_X5_init_i42 (l : Launch) : MCN l yX5_init cX5_init 3 rmX5_init_i42 KX YC41 YC63 [.ref 42, .ref 36] X5_init_i42 :=
  MCN.of (own := RX5) pn_RX5 rfl rfl (Nat.le_of_ble_eq_true rfl) fun X yd A h C hKX hin =>
    aw_aload_n (pc := 0) C (i := 0) dK_s_77.1 rfl rfl <|
    aw_objInit (pc := 1) C dK_s_77.2.1 mo_X5_3 w_oi w_oc ⟨(Nat.le_of_ble_eq_true rfl), (Nat.le_of_ble_eq_true rfl)⟩ <|
    aw_aload_n (pc := 4) C (i := 0) dK_s_77.2.2.1 rfl rfl <|
    aw_bipush (pc := 5) C (v := 10) dK_s_77.2.2.2.1 rfl <|
    aw_putI (pc := 7) C dK_s_77.2.2.2.2.1 fp_X5_9 rfl rfl fun h1 =>
    aw_aload_n (pc := 10) C (i := 0) dK_s_77.2.2.2.2.2.1 rfl rfl <|
    aw_iconst (pc := 11) C (v := 2) dK_s_77.2.2.2.2.2.2.1 rfl <|
    aw_putI (pc := 12) C dK_s_77.2.2.2.2.2.2.2.1 fp_X5_15 rfl rfl fun h2 =>
    aw_aload_n (pc := 15) C (i := 0) dK_s_78.1 rfl rfl <|
    aw_iconst (pc := 16) C (v := 4) dK_s_78.2.1 rfl <|
    aw_newqm (pc := 17) C (Z' := YC42) (N := 4) (t := 2) hKX.2.1 kl_X5_18 ln_YC41 wf_YC41 dK_s_78.2.2.1 (by decide) rfl (by decide) rfl rfl rfl (Nat.le_of_ble_eq_true rfl) (Nat.le_of_ble_eq_true rfl) fun a4 h3 =>
    aw_putRF (pc := 20) C (Z' := YC43) hin dK_s_78.2.2.2.1 fpf_X5_20 rfl rfl (fun _ => rfl) (fun _ => rfl) rfl <|
    aw_aload_n (pc := 23) C (i := 0) dK_s_78.2.2.2.2.1 rfl rfl <|
    aw_bipush (pc := 24) C (v := 24) dK_s_78.2.2.2.2.2.1 rfl <|
    aw_newIm (pc := 26) C (Z' := YC44) (N := 24) ln_YC43 wf_YC43 dK_s_78.2.2.2.2.2.2.1 (by decide) rfl (by decide) rfl rfl rfl (Nat.le_of_ble_eq_true rfl) (Nat.le_of_ble_eq_true rfl) fun a6 h5 =>
    aw_putRF (pc := 28) C (Z' := YC45) hin dK_s_78.2.2.2.2.2.2.2.1 fpf_X5_24 rfl rfl (fun _ => rfl) (fun _ => rfl) rfl <|
    aw_aload_n (pc := 31) C (i := 0) dK_s_79.1 rfl rfl <|
    aw_bipush (pc := 32) C (v := 24) dK_s_79.2.1 rfl <|
    aw_newIm (pc := 34) C (Z' := YC46) (N := 24) ln_YC45 wf_YC45 dK_s_79.2.2.1 (by decide) rfl (by decide) rfl rfl rfl (Nat.le_of_ble_eq_true rfl) (Nat.le_of_ble_eq_true rfl) fun a8 h7 =>
    aw_putRF (pc := 36) C (Z' := YC47) hin dK_s_79.2.2.2.1 fpf_X5_28 rfl rfl (fun _ => rfl) (fun _ => rfl) rfl <|
    aw_aload_n (pc := 39) C (i := 0) dK_s_79.2.2.2.2.1 rfl rfl <|
    aw_bipush (pc := 40) C (v := 24) dK_s_79.2.2.2.2.2.1 rfl <|
    aw_newIm (pc := 42) C (Z' := YC48) (N := 24) ln_YC47 wf_YC47 dK_s_79.2.2.2.2.2.2.1 (by decide) rfl (by decide) rfl rfl rfl (Nat.le_of_ble_eq_true rfl) (Nat.le_of_ble_eq_true rfl) fun a10 h9 =>
    aw_putRF (pc := 44) C (Z' := YC49) hin dK_s_79.2.2.2.2.2.2.2.1 fpf_X5_31 rfl rfl (fun _ => rfl) (fun _ => rfl) rfl <|
    aw_aload_n (pc := 47) C (i := 0) dK_s_80.1 rfl rfl <|
    aw_bipush (pc := 48) C (v := 24) dK_s_80.2.1 rfl <|
    aw_newIm (pc := 50) C (Z' := YC50) (N := 24) ln_YC49 wf_YC49 dK_s_80.2.2.1 (by decide) rfl (by decide) rfl rfl rfl (Nat.le_of_ble_eq_true rfl) (Nat.le_of_ble_eq_true rfl) fun a12 h11 =>
    aw_putRF (pc := 52) C (Z' := YC51) hin dK_s_80.2.2.2.1 fpf_X5_34 rfl rfl (fun _ => rfl) (fun _ => rfl) rfl <|
    aw_iconst (pc := 55) C (v := 0) dK_s_80.2.2.2.2.1 rfl <|
    aw_istore_n (pc := 56) C (i := 2) (lv' := [(0, .ref 42), (1, .ref 36), (2, .int 0)]) dK_s_80.2.2.2.2.2.1 rfl (by decide) rfl <|
    aw_iload_n (pc := 57) C (i := 2) dK_s_80.2.2.2.2.2.2.1 rfl rfl <|
    aw_iconst (pc := 58) C (v := 4) dK_s_80.2.2.2.2.2.2.2.1 rfl <|
    aw_dec (aw_icmp_ge (pc := 59) C (tgt := 82) dK_s_81.1 rfl (fun c => absurd c (by decide)) (fun _ =>
    aw_aload_n (pc := 62) C (i := 0) dK_s_81.2.1 rfl rfl <|
    aw_getR (pc := 63) C (b := 43) dK_s_81.2.2.1 fl_X5_20 rfl rfl rfl <|
    aw_iload_n (pc := 66) C (i := 2) dK_s_81.2.2.2.1 rfl rfl <|
    aw_newm (pc := 67) C (Z' := YC52) (ci := 2) (N := 9) (T := TX2) (codes := rty 2) (.inl (0, 9, 2)) ln_YC51 wf_YC51 dK_s_81.2.2.2.2.1 rfl wsin_X2 tyX2_ok kl_X5_18 ki_X2 kn_X2 (fun _ _ _ _ => rfl) n3_X2 df_X2 rfl rfl (Nat.le_of_ble_eq_true rfl) (Nat.le_of_ble_eq_true rfl) fun a14 h13 =>
    aw_dup (pc := 70) C dK_s_81.2.2.2.2.2.1 rfl <|
    aw_aload_n (pc := 71) C (i := 1) dK_s_81.2.2.2.2.2.2.1 rfl rfl <|
    aw_callC (pc := 72) C (Z' := YC53) (rm' := rmX2_init_i48) (F := X2_init_i48) (run_I (As := [.ref 36]) (rest := [.ref 48, .int 0, .ref 43]) (b := 48) C kx_m kx_b hKX (c_X2_init_i48 X.2.1) dK_s_81.2.2.2.2.2.2.2.1 mf_X2_init mj_X5_37 im_X2_init rfl ⟨(Nat.le_of_ble_eq_true rfl), (Nat.le_of_ble_eq_true rfl)⟩ rfl rfl (Nat.le_of_ble_eq_true rfl) ⟨(Nat.le_of_ble_eq_true rfl), (Nat.le_of_ble_eq_true rfl)⟩) rfl rfl (fun ad16 h15 ha17 =>
    aw_aast (pc := 75) C (Z' := YC54) (E := "MarkToBoard$Jumper") dK_s_82.1 rfl rfl rfl rfl (as_X2 hKX) (by decide) (by decide) rfl <|
    aw_iinc (pc := 76) C (i := 2) (lv' := [(0, .ref 42), (1, .ref 36), (2, .int 1)]) dK_s_82.2.1 rfl (by decide) rfl <|
    aw_goto (pc := 79) C (tgt := 57) dK_s_82.2.2.1 rfl <|
    aw_iload_n (pc := 57) C (i := 2) dK_s_80.2.2.2.2.2.2.1 rfl rfl <|
    aw_iconst (pc := 58) C (v := 4) dK_s_80.2.2.2.2.2.2.2.1 rfl <|
    aw_dec (aw_icmp_ge (pc := 59) C (tgt := 82) dK_s_81.1 rfl (fun c => absurd c (by decide)) (fun _ =>
    aw_aload_n (pc := 62) C (i := 0) dK_s_81.2.1 rfl rfl <|
    aw_getR (pc := 63) C (b := 43) dK_s_81.2.2.1 fl_X5_20 rfl rfl rfl <|
    aw_iload_n (pc := 66) C (i := 2) dK_s_81.2.2.2.1 rfl rfl <|
    aw_newm (pc := 67) C (Z' := YC55) (ci := 2) (N := 9) (T := TX2) (codes := rty 2) (.inl (0, 9, 2)) ln_YC54 wf_YC54 dK_s_81.2.2.2.2.1 rfl wsin_X2 tyX2_ok kl_X5_18 ki_X2 kn_X2 (fun _ _ _ _ => rfl) n3_X2 df_X2 rfl rfl (Nat.le_of_ble_eq_true rfl) (Nat.le_of_ble_eq_true rfl) fun a19 h18 =>
    aw_dup (pc := 70) C dK_s_81.2.2.2.2.2.1 rfl <|
    aw_aload_n (pc := 71) C (i := 1) dK_s_81.2.2.2.2.2.2.1 rfl rfl <|
    aw_callC (pc := 72) C (Z' := YC56) (rm' := rmX2_init_i49) (F := X2_init_i49) (run_I (As := [.ref 36]) (rest := [.ref 49, .int 1, .ref 43]) (b := 49) C kx_m kx_b hKX (c_X2_init_i49 X.2.1) dK_s_81.2.2.2.2.2.2.2.1 mf_X2_init mj_X5_37 im_X2_init rfl ⟨(Nat.le_of_ble_eq_true rfl), (Nat.le_of_ble_eq_true rfl)⟩ rfl rfl (Nat.le_of_ble_eq_true rfl) ⟨(Nat.le_of_ble_eq_true rfl), (Nat.le_of_ble_eq_true rfl)⟩) rfl rfl (fun ad21 h20 ha22 =>
    aw_aast (pc := 75) C (Z' := YC57) (E := "MarkToBoard$Jumper") dK_s_82.1 rfl rfl rfl rfl (as_X2 hKX) (by decide) (by decide) rfl <|
    aw_iinc (pc := 76) C (i := 2) (lv' := [(0, .ref 42), (1, .ref 36), (2, .int 2)]) dK_s_82.2.1 rfl (by decide) rfl <|
    aw_goto (pc := 79) C (tgt := 57) dK_s_82.2.2.1 rfl <|
    aw_iload_n (pc := 57) C (i := 2) dK_s_80.2.2.2.2.2.2.1 rfl rfl <|
    aw_iconst (pc := 58) C (v := 4) dK_s_80.2.2.2.2.2.2.2.1 rfl <|
    aw_dec (aw_icmp_ge (pc := 59) C (tgt := 82) dK_s_81.1 rfl (fun c => absurd c (by decide)) (fun _ =>
    aw_aload_n (pc := 62) C (i := 0) dK_s_81.2.1 rfl rfl <|
    aw_getR (pc := 63) C (b := 43) dK_s_81.2.2.1 fl_X5_20 rfl rfl rfl <|
    aw_iload_n (pc := 66) C (i := 2) dK_s_81.2.2.2.1 rfl rfl <|
    aw_newm (pc := 67) C (Z' := YC58) (ci := 2) (N := 9) (T := TX2) (codes := rty 2) (.inl (0, 9, 2)) ln_YC57 wf_YC57 dK_s_81.2.2.2.2.1 rfl wsin_X2 tyX2_ok kl_X5_18 ki_X2 kn_X2 (fun _ _ _ _ => rfl) n3_X2 df_X2 rfl rfl (Nat.le_of_ble_eq_true rfl) (Nat.le_of_ble_eq_true rfl) fun a24 h23 =>
    aw_dup (pc := 70) C dK_s_81.2.2.2.2.2.1 rfl <|
    aw_aload_n (pc := 71) C (i := 1) dK_s_81.2.2.2.2.2.2.1 rfl rfl <|
    aw_callC (pc := 72) C (Z' := YC59) (rm' := rmX2_init_i50) (F := X2_init_i50) (run_I (As := [.ref 36]) (rest := [.ref 50, .int 2, .ref 43]) (b := 50) C kx_m kx_b hKX (c_X2_init_i50 X.2.1) dK_s_81.2.2.2.2.2.2.2.1 mf_X2_init mj_X5_37 im_X2_init rfl ⟨(Nat.le_of_ble_eq_true rfl), (Nat.le_of_ble_eq_true rfl)⟩ rfl rfl (Nat.le_of_ble_eq_true rfl) ⟨(Nat.le_of_ble_eq_true rfl), (Nat.le_of_ble_eq_true rfl)⟩) rfl rfl (fun ad26 h25 ha27 =>
    aw_aast (pc := 75) C (Z' := YC60) (E := "MarkToBoard$Jumper") dK_s_82.1 rfl rfl rfl rfl (as_X2 hKX) (by decide) (by decide) rfl <|
    aw_iinc (pc := 76) C (i := 2) (lv' := [(0, .ref 42), (1, .ref 36), (2, .int 3)]) dK_s_82.2.1 rfl (by decide) rfl <|
    aw_goto (pc := 79) C (tgt := 57) dK_s_82.2.2.1 rfl <|
    aw_iload_n (pc := 57) C (i := 2) dK_s_80.2.2.2.2.2.2.1 rfl rfl <|
    aw_iconst (pc := 58) C (v := 4) dK_s_80.2.2.2.2.2.2.2.1 rfl <|
    aw_dec (aw_icmp_ge (pc := 59) C (tgt := 82) dK_s_81.1 rfl (fun c => absurd c (by decide)) (fun _ =>
    aw_aload_n (pc := 62) C (i := 0) dK_s_81.2.1 rfl rfl <|
    aw_getR (pc := 63) C (b := 43) dK_s_81.2.2.1 fl_X5_20 rfl rfl rfl <|
    aw_iload_n (pc := 66) C (i := 2) dK_s_81.2.2.2.1 rfl rfl <|
    aw_newm (pc := 67) C (Z' := YC61) (ci := 2) (N := 9) (T := TX2) (codes := rty 2) (.inl (0, 9, 2)) ln_YC60 wf_YC60 dK_s_81.2.2.2.2.1 rfl wsin_X2 tyX2_ok kl_X5_18 ki_X2 kn_X2 (fun _ _ _ _ => rfl) n3_X2 df_X2 rfl rfl (Nat.le_of_ble_eq_true rfl) (Nat.le_of_ble_eq_true rfl) fun a29 h28 =>
    aw_dup (pc := 70) C dK_s_81.2.2.2.2.2.1 rfl <|
    aw_aload_n (pc := 71) C (i := 1) dK_s_81.2.2.2.2.2.2.1 rfl rfl <|
    aw_callC (pc := 72) C (Z' := YC62) (rm' := rmX2_init_i51) (F := X2_init_i51) (run_I (As := [.ref 36]) (rest := [.ref 51, .int 3, .ref 43]) (b := 51) C kx_m kx_b hKX (c_X2_init_i51 X.2.1) dK_s_81.2.2.2.2.2.2.2.1 mf_X2_init mj_X5_37 im_X2_init rfl ⟨(Nat.le_of_ble_eq_true rfl), (Nat.le_of_ble_eq_true rfl)⟩ rfl rfl (Nat.le_of_ble_eq_true rfl) ⟨(Nat.le_of_ble_eq_true rfl), (Nat.le_of_ble_eq_true rfl)⟩) rfl rfl (fun ad31 h30 ha32 =>
    aw_aast (pc := 75) C (Z' := YC63) (E := "MarkToBoard$Jumper") dK_s_82.1 rfl rfl rfl rfl (as_X2 hKX) (by decide) (by decide) rfl <|
    aw_iinc (pc := 76) C (i := 2) (lv' := [(0, .ref 42), (1, .ref 36), (2, .int 4)]) dK_s_82.2.1 rfl (by decide) rfl <|
    aw_goto (pc := 79) C (tgt := 57) dK_s_82.2.2.1 rfl <|
    aw_iload_n (pc := 57) C (i := 2) dK_s_80.2.2.2.2.2.2.1 rfl rfl <|
    aw_iconst (pc := 58) C (v := 4) dK_s_80.2.2.2.2.2.2.2.1 rfl <|
    aw_dec (aw_icmp_ge (pc := 59) C (tgt := 82) dK_s_81.1 rfl (fun _ =>
    aw_vretN (pc := 82) C (Agr.call (n := 52) (Agr.new (n := 51) (Agr.call (n := 51) (Agr.new (n := 50) (Agr.call (n := 50) (Agr.new (n := 49) (Agr.call (n := 49) (Agr.new (n := 48) (Agr.new (n := 47) (Agr.new (n := 46) (Agr.new (n := 45) (Agr.new (n := 44) (Agr.new (n := 43) (Agr.rf) (Nat.le_of_ble_eq_true rfl)) (Nat.le_of_ble_eq_true rfl)) (Nat.le_of_ble_eq_true rfl)) (Nat.le_of_ble_eq_true rfl)) (Nat.le_of_ble_eq_true rfl)) (Nat.le_of_ble_eq_true rfl)) (Nat.le_of_ble_eq_true rfl) (ha17)) (Nat.le_of_ble_eq_true rfl)) (Nat.le_of_ble_eq_true rfl) (ha22)) (Nat.le_of_ble_eq_true rfl)) (Nat.le_of_ble_eq_true rfl) (ha27)) (Nat.le_of_ble_eq_true rfl)) (Nat.le_of_ble_eq_true rfl) (ha32)) dK_s_82.2.2.2.1 rfl rfl) (fun c => absurd (by decide) c))) rfl))) rfl))) rfl))) rfl))
abbrev rmX2_init_i58 : Room := { frames := 1, cells := 0, slots := 0, locals := 20 }
def X2_init_i58 (h : AH) : Option (Unit × AH) :=
    vl (sK h 58 0) fun h1 =>
    some ((), h1)
set_option maxRecDepth 100000 in
set_option maxHeartbeats 4000000 in
theorem c_X2_init_i58 (l : Launch) : MCN l yX2_init cX2_init 2 rmX2_init_i58 KX YC76 YC77 [.ref 58, .ref 36] X2_init_i58 :=
  MCN.of (own := RX2) pn_RX2 rfl rfl (Nat.le_of_ble_eq_true rfl) fun X yd A h C hKX hin =>
    aw_aload_n (pc := 0) C (i := 0) dK_s_55.1 rfl rfl <|
    aw_objInit (pc := 1) C dK_s_55.2.1 mo_X2_1 w_oi w_oc ⟨(Nat.le_of_ble_eq_true rfl), (Nat.le_of_ble_eq_true rfl)⟩ <|
    aw_aload_n (pc := 4) C (i := 0) dK_s_55.2.2.1 rfl rfl <|
    aw_aload_n (pc := 5) C (i := 1) dK_s_55.2.2.2.1 rfl rfl <|
    aw_putW0 (pc := 6) C (Z' := YC77) (v := 0) dK_s_55.2.2.2.2.1 fp_X2_7 rfl rfl rfl fun h1 =>
    aw_vretN (pc := 9) C (Agr.rf) dK_s_55.2.2.2.2.2.1 rfl rfl
abbrev rmX2_init_i59 : Room := { frames := 1, cells := 0, slots := 0, locals := 20 }
def X2_init_i59 (h : AH) : Option (Unit × AH) :=
    vl (sK h 59 0) fun h1 =>
    some ((), h1)
set_option maxRecDepth 100000 in
set_option maxHeartbeats 4000000 in
theorem c_X2_init_i59 (l : Launch) : MCN l yX2_init cX2_init 2 rmX2_init_i59 KX YC79 YC80 [.ref 59, .ref 36] X2_init_i59 :=
  MCN.of (own := RX2) pn_RX2 rfl rfl (Nat.le_of_ble_eq_true rfl) fun X yd A h C hKX hin =>
    aw_aload_n (pc := 0) C (i := 0) dK_s_55.1 rfl rfl <|
    aw_objInit (pc := 1) C dK_s_55.2.1 mo_X2_1 w_oi w_oc ⟨(Nat.le_of_ble_eq_true rfl), (Nat.le_of_ble_eq_true rfl)⟩ <|
    aw_aload_n (pc := 4) C (i := 0) dK_s_55.2.2.1 rfl rfl <|
    aw_aload_n (pc := 5) C (i := 1) dK_s_55.2.2.2.1 rfl rfl <|
    aw_putW0 (pc := 6) C (Z' := YC80) (v := 0) dK_s_55.2.2.2.2.1 fp_X2_7 rfl rfl rfl fun h1 =>
    aw_vretN (pc := 9) C (Agr.rf) dK_s_55.2.2.2.2.2.1 rfl rfl
abbrev rmX2_init_i60 : Room := { frames := 1, cells := 0, slots := 0, locals := 20 }
def X2_init_i60 (h : AH) : Option (Unit × AH) :=
    vl (sK h 60 0) fun h1 =>
    some ((), h1)
set_option maxRecDepth 100000 in
set_option maxHeartbeats 4000000 in
theorem c_X2_init_i60 (l : Launch) : MCN l yX2_init cX2_init 2 rmX2_init_i60 KX YC82 YC83 [.ref 60, .ref 36] X2_init_i60 :=
  MCN.of (own := RX2) pn_RX2 rfl rfl (Nat.le_of_ble_eq_true rfl) fun X yd A h C hKX hin =>
    aw_aload_n (pc := 0) C (i := 0) dK_s_55.1 rfl rfl <|
    aw_objInit (pc := 1) C dK_s_55.2.1 mo_X2_1 w_oi w_oc ⟨(Nat.le_of_ble_eq_true rfl), (Nat.le_of_ble_eq_true rfl)⟩ <|
    aw_aload_n (pc := 4) C (i := 0) dK_s_55.2.2.1 rfl rfl <|
    aw_aload_n (pc := 5) C (i := 1) dK_s_55.2.2.2.1 rfl rfl <|
    aw_putW0 (pc := 6) C (Z' := YC83) (v := 0) dK_s_55.2.2.2.2.1 fp_X2_7 rfl rfl rfl fun h1 =>
    aw_vretN (pc := 9) C (Agr.rf) dK_s_55.2.2.2.2.2.1 rfl rfl
abbrev rmX2_init_i61 : Room := { frames := 1, cells := 0, slots := 0, locals := 20 }
def X2_init_i61 (h : AH) : Option (Unit × AH) :=
    vl (sK h 61 0) fun h1 =>
    some ((), h1)
set_option maxRecDepth 100000 in
set_option maxHeartbeats 4000000 in
theorem c_X2_init_i61 (l : Launch) : MCN l yX2_init cX2_init 2 rmX2_init_i61 KX YC85 YC86 [.ref 61, .ref 36] X2_init_i61 :=
  MCN.of (own := RX2) pn_RX2 rfl rfl (Nat.le_of_ble_eq_true rfl) fun X yd A h C hKX hin =>
    aw_aload_n (pc := 0) C (i := 0) dK_s_55.1 rfl rfl <|
    aw_objInit (pc := 1) C dK_s_55.2.1 mo_X2_1 w_oi w_oc ⟨(Nat.le_of_ble_eq_true rfl), (Nat.le_of_ble_eq_true rfl)⟩ <|
    aw_aload_n (pc := 4) C (i := 0) dK_s_55.2.2.1 rfl rfl <|
    aw_aload_n (pc := 5) C (i := 1) dK_s_55.2.2.2.1 rfl rfl <|
    aw_putW0 (pc := 6) C (Z' := YC86) (v := 0) dK_s_55.2.2.2.2.1 fp_X2_7 rfl rfl rfl fun h1 =>
    aw_vretN (pc := 9) C (Agr.rf) dK_s_55.2.2.2.2.2.1 rfl rfl
abbrev rmX5_init_i52 : Room := { frames := 2, cells := 9, slots := 136, locals := 41 }
def X5_init_i52 (h : AH) : Option (Unit × AH) :=
    vl (sI h 52 0 10) fun h1 =>
    vl (sI h1 52 2 2) fun h2 =>
    vl (zN h2 53) fun h3 =>
    vl (zN h3 54) fun h5 =>
    vl (zN h5 55) fun h7 =>
    vl (zN h7 56) fun h9 =>
    vl (zN h9 57) fun h11 =>
    vl (zN h11 58) fun h13 =>
    bd (X2_init_i58 h13) fun _ h15 =>
    vl (zN h15 59) fun h18 =>
    bd (X2_init_i59 h18) fun _ h20 =>
    vl (zN h20 60) fun h23 =>
    bd (X2_init_i60 h23) fun _ h25 =>
    vl (zN h25 61) fun h28 =>
    bd (X2_init_i61 h28) fun _ h30 =>
    some ((), h30)
set_option maxRecDepth 100000 in
set_option maxHeartbeats 4000000 in
theorem c_X5_init_i52 (l : Launch) : MCN l yX5_init cX5_init 3 rmX5_init_i52 KX YC65 YC87 [.ref 52, .ref 36] X5_init_i52 :=
  MCN.of (own := RX5) pn_RX5 rfl rfl (Nat.le_of_ble_eq_true rfl) fun X yd A h C hKX hin =>
    aw_aload_n (pc := 0) C (i := 0) dK_s_77.1 rfl rfl <|
    aw_objInit (pc := 1) C dK_s_77.2.1 mo_X5_3 w_oi w_oc ⟨(Nat.le_of_ble_eq_true rfl), (Nat.le_of_ble_eq_true rfl)⟩ <|
    aw_aload_n (pc := 4) C (i := 0) dK_s_77.2.2.1 rfl rfl <|
    aw_bipush (pc := 5) C (v := 10) dK_s_77.2.2.2.1 rfl <|
    aw_putI (pc := 7) C dK_s_77.2.2.2.2.1 fp_X5_9 rfl rfl fun h1 =>
    aw_aload_n (pc := 10) C (i := 0) dK_s_77.2.2.2.2.2.1 rfl rfl <|
    aw_iconst (pc := 11) C (v := 2) dK_s_77.2.2.2.2.2.2.1 rfl <|
    aw_putI (pc := 12) C dK_s_77.2.2.2.2.2.2.2.1 fp_X5_15 rfl rfl fun h2 =>
    aw_aload_n (pc := 15) C (i := 0) dK_s_78.1 rfl rfl <|
    aw_iconst (pc := 16) C (v := 4) dK_s_78.2.1 rfl <|
    aw_newqm (pc := 17) C (Z' := YC66) (N := 4) (t := 2) hKX.2.1 kl_X5_18 ln_YC65 wf_YC65 dK_s_78.2.2.1 (by decide) rfl (by decide) rfl rfl rfl (Nat.le_of_ble_eq_true rfl) (Nat.le_of_ble_eq_true rfl) fun a4 h3 =>
    aw_putRF (pc := 20) C (Z' := YC67) hin dK_s_78.2.2.2.1 fpf_X5_20 rfl rfl (fun _ => rfl) (fun _ => rfl) rfl <|
    aw_aload_n (pc := 23) C (i := 0) dK_s_78.2.2.2.2.1 rfl rfl <|
    aw_bipush (pc := 24) C (v := 24) dK_s_78.2.2.2.2.2.1 rfl <|
    aw_newIm (pc := 26) C (Z' := YC68) (N := 24) ln_YC67 wf_YC67 dK_s_78.2.2.2.2.2.2.1 (by decide) rfl (by decide) rfl rfl rfl (Nat.le_of_ble_eq_true rfl) (Nat.le_of_ble_eq_true rfl) fun a6 h5 =>
    aw_putRF (pc := 28) C (Z' := YC69) hin dK_s_78.2.2.2.2.2.2.2.1 fpf_X5_24 rfl rfl (fun _ => rfl) (fun _ => rfl) rfl <|
    aw_aload_n (pc := 31) C (i := 0) dK_s_79.1 rfl rfl <|
    aw_bipush (pc := 32) C (v := 24) dK_s_79.2.1 rfl <|
    aw_newIm (pc := 34) C (Z' := YC70) (N := 24) ln_YC69 wf_YC69 dK_s_79.2.2.1 (by decide) rfl (by decide) rfl rfl rfl (Nat.le_of_ble_eq_true rfl) (Nat.le_of_ble_eq_true rfl) fun a8 h7 =>
    aw_putRF (pc := 36) C (Z' := YC71) hin dK_s_79.2.2.2.1 fpf_X5_28 rfl rfl (fun _ => rfl) (fun _ => rfl) rfl <|
    aw_aload_n (pc := 39) C (i := 0) dK_s_79.2.2.2.2.1 rfl rfl <|
    aw_bipush (pc := 40) C (v := 24) dK_s_79.2.2.2.2.2.1 rfl <|
    aw_newIm (pc := 42) C (Z' := YC72) (N := 24) ln_YC71 wf_YC71 dK_s_79.2.2.2.2.2.2.1 (by decide) rfl (by decide) rfl rfl rfl (Nat.le_of_ble_eq_true rfl) (Nat.le_of_ble_eq_true rfl) fun a10 h9 =>
    aw_putRF (pc := 44) C (Z' := YC73) hin dK_s_79.2.2.2.2.2.2.2.1 fpf_X5_31 rfl rfl (fun _ => rfl) (fun _ => rfl) rfl <|
    aw_aload_n (pc := 47) C (i := 0) dK_s_80.1 rfl rfl <|
    aw_bipush (pc := 48) C (v := 24) dK_s_80.2.1 rfl <|
    aw_newIm (pc := 50) C (Z' := YC74) (N := 24) ln_YC73 wf_YC73 dK_s_80.2.2.1 (by decide) rfl (by decide) rfl rfl rfl (Nat.le_of_ble_eq_true rfl) (Nat.le_of_ble_eq_true rfl) fun a12 h11 =>
    aw_putRF (pc := 52) C (Z' := YC75) hin dK_s_80.2.2.2.1 fpf_X5_34 rfl rfl (fun _ => rfl) (fun _ => rfl) rfl <|
    aw_iconst (pc := 55) C (v := 0) dK_s_80.2.2.2.2.1 rfl <|
    aw_istore_n (pc := 56) C (i := 2) (lv' := [(0, .ref 52), (1, .ref 36), (2, .int 0)]) dK_s_80.2.2.2.2.2.1 rfl (by decide) rfl <|
    aw_iload_n (pc := 57) C (i := 2) dK_s_80.2.2.2.2.2.2.1 rfl rfl <|
    aw_iconst (pc := 58) C (v := 4) dK_s_80.2.2.2.2.2.2.2.1 rfl <|
    aw_dec (aw_icmp_ge (pc := 59) C (tgt := 82) dK_s_81.1 rfl (fun c => absurd c (by decide)) (fun _ =>
    aw_aload_n (pc := 62) C (i := 0) dK_s_81.2.1 rfl rfl <|
    aw_getR (pc := 63) C (b := 53) dK_s_81.2.2.1 fl_X5_20 rfl rfl rfl <|
    aw_iload_n (pc := 66) C (i := 2) dK_s_81.2.2.2.1 rfl rfl <|
    aw_newm (pc := 67) C (Z' := YC76) (ci := 2) (N := 9) (T := TX2) (codes := rty 2) (.inl (0, 9, 2)) ln_YC75 wf_YC75 dK_s_81.2.2.2.2.1 rfl wsin_X2 tyX2_ok kl_X5_18 ki_X2 kn_X2 (fun _ _ _ _ => rfl) n3_X2 df_X2 rfl rfl (Nat.le_of_ble_eq_true rfl) (Nat.le_of_ble_eq_true rfl) fun a14 h13 =>
    aw_dup (pc := 70) C dK_s_81.2.2.2.2.2.1 rfl <|
    aw_aload_n (pc := 71) C (i := 1) dK_s_81.2.2.2.2.2.2.1 rfl rfl <|
    aw_callC (pc := 72) C (Z' := YC77) (rm' := rmX2_init_i58) (F := X2_init_i58) (run_I (As := [.ref 36]) (rest := [.ref 58, .int 0, .ref 53]) (b := 58) C kx_m kx_b hKX (c_X2_init_i58 X.2.1) dK_s_81.2.2.2.2.2.2.2.1 mf_X2_init mj_X5_37 im_X2_init rfl ⟨(Nat.le_of_ble_eq_true rfl), (Nat.le_of_ble_eq_true rfl)⟩ rfl rfl (Nat.le_of_ble_eq_true rfl) ⟨(Nat.le_of_ble_eq_true rfl), (Nat.le_of_ble_eq_true rfl)⟩) rfl rfl (fun ad16 h15 ha17 =>
    aw_aast (pc := 75) C (Z' := YC78) (E := "MarkToBoard$Jumper") dK_s_82.1 rfl rfl rfl rfl (as_X2 hKX) (by decide) (by decide) rfl <|
    aw_iinc (pc := 76) C (i := 2) (lv' := [(0, .ref 52), (1, .ref 36), (2, .int 1)]) dK_s_82.2.1 rfl (by decide) rfl <|
    aw_goto (pc := 79) C (tgt := 57) dK_s_82.2.2.1 rfl <|
    aw_iload_n (pc := 57) C (i := 2) dK_s_80.2.2.2.2.2.2.1 rfl rfl <|
    aw_iconst (pc := 58) C (v := 4) dK_s_80.2.2.2.2.2.2.2.1 rfl <|
    aw_dec (aw_icmp_ge (pc := 59) C (tgt := 82) dK_s_81.1 rfl (fun c => absurd c (by decide)) (fun _ =>
    aw_aload_n (pc := 62) C (i := 0) dK_s_81.2.1 rfl rfl <|
    aw_getR (pc := 63) C (b := 53) dK_s_81.2.2.1 fl_X5_20 rfl rfl rfl <|
    aw_iload_n (pc := 66) C (i := 2) dK_s_81.2.2.2.1 rfl rfl <|
    aw_newm (pc := 67) C (Z' := YC79) (ci := 2) (N := 9) (T := TX2) (codes := rty 2) (.inl (0, 9, 2)) ln_YC78 wf_YC78 dK_s_81.2.2.2.2.1 rfl wsin_X2 tyX2_ok kl_X5_18 ki_X2 kn_X2 (fun _ _ _ _ => rfl) n3_X2 df_X2 rfl rfl (Nat.le_of_ble_eq_true rfl) (Nat.le_of_ble_eq_true rfl) fun a19 h18 =>
    aw_dup (pc := 70) C dK_s_81.2.2.2.2.2.1 rfl <|
    aw_aload_n (pc := 71) C (i := 1) dK_s_81.2.2.2.2.2.2.1 rfl rfl <|
    aw_callC (pc := 72) C (Z' := YC80) (rm' := rmX2_init_i59) (F := X2_init_i59) (run_I (As := [.ref 36]) (rest := [.ref 59, .int 1, .ref 53]) (b := 59) C kx_m kx_b hKX (c_X2_init_i59 X.2.1) dK_s_81.2.2.2.2.2.2.2.1 mf_X2_init mj_X5_37 im_X2_init rfl ⟨(Nat.le_of_ble_eq_true rfl), (Nat.le_of_ble_eq_true rfl)⟩ rfl rfl (Nat.le_of_ble_eq_true rfl) ⟨(Nat.le_of_ble_eq_true rfl), (Nat.le_of_ble_eq_true rfl)⟩) rfl rfl (fun ad21 h20 ha22 =>
    aw_aast (pc := 75) C (Z' := YC81) (E := "MarkToBoard$Jumper") dK_s_82.1 rfl rfl rfl rfl (as_X2 hKX) (by decide) (by decide) rfl <|
    aw_iinc (pc := 76) C (i := 2) (lv' := [(0, .ref 52), (1, .ref 36), (2, .int 2)]) dK_s_82.2.1 rfl (by decide) rfl <|
    aw_goto (pc := 79) C (tgt := 57) dK_s_82.2.2.1 rfl <|
    aw_iload_n (pc := 57) C (i := 2) dK_s_80.2.2.2.2.2.2.1 rfl rfl <|
    aw_iconst (pc := 58) C (v := 4) dK_s_80.2.2.2.2.2.2.2.1 rfl <|
    aw_dec (aw_icmp_ge (pc := 59) C (tgt := 82) dK_s_81.1 rfl (fun c => absurd c (by decide)) (fun _ =>
    aw_aload_n (pc := 62) C (i := 0) dK_s_81.2.1 rfl rfl <|
    aw_getR (pc := 63) C (b := 53) dK_s_81.2.2.1 fl_X5_20 rfl rfl rfl <|
    aw_iload_n (pc := 66) C (i := 2) dK_s_81.2.2.2.1 rfl rfl <|
    aw_newm (pc := 67) C (Z' := YC82) (ci := 2) (N := 9) (T := TX2) (codes := rty 2) (.inl (0, 9, 2)) ln_YC81 wf_YC81 dK_s_81.2.2.2.2.1 rfl wsin_X2 tyX2_ok kl_X5_18 ki_X2 kn_X2 (fun _ _ _ _ => rfl) n3_X2 df_X2 rfl rfl (Nat.le_of_ble_eq_true rfl) (Nat.le_of_ble_eq_true rfl) fun a24 h23 =>
    aw_dup (pc := 70) C dK_s_81.2.2.2.2.2.1 rfl <|
    aw_aload_n (pc := 71) C (i := 1) dK_s_81.2.2.2.2.2.2.1 rfl rfl <|
    aw_callC (pc := 72) C (Z' := YC83) (rm' := rmX2_init_i60) (F := X2_init_i60) (run_I (As := [.ref 36]) (rest := [.ref 60, .int 2, .ref 53]) (b := 60) C kx_m kx_b hKX (c_X2_init_i60 X.2.1) dK_s_81.2.2.2.2.2.2.2.1 mf_X2_init mj_X5_37 im_X2_init rfl ⟨(Nat.le_of_ble_eq_true rfl), (Nat.le_of_ble_eq_true rfl)⟩ rfl rfl (Nat.le_of_ble_eq_true rfl) ⟨(Nat.le_of_ble_eq_true rfl), (Nat.le_of_ble_eq_true rfl)⟩) rfl rfl (fun ad26 h25 ha27 =>
    aw_aast (pc := 75) C (Z' := YC84) (E := "MarkToBoard$Jumper") dK_s_82.1 rfl rfl rfl rfl (as_X2 hKX) (by decide) (by decide) rfl <|
    aw_iinc (pc := 76) C (i := 2) (lv' := [(0, .ref 52), (1, .ref 36), (2, .int 3)]) dK_s_82.2.1 rfl (by decide) rfl <|
    aw_goto (pc := 79) C (tgt := 57) dK_s_82.2.2.1 rfl <|
    aw_iload_n (pc := 57) C (i := 2) dK_s_80.2.2.2.2.2.2.1 rfl rfl <|
    aw_iconst (pc := 58) C (v := 4) dK_s_80.2.2.2.2.2.2.2.1 rfl <|
    aw_dec (aw_icmp_ge (pc := 59) C (tgt := 82) dK_s_81.1 rfl (fun c => absurd c (by decide)) (fun _ =>
    aw_aload_n (pc := 62) C (i := 0) dK_s_81.2.1 rfl rfl <|
    aw_getR (pc := 63) C (b := 53) dK_s_81.2.2.1 fl_X5_20 rfl rfl rfl <|
    aw_iload_n (pc := 66) C (i := 2) dK_s_81.2.2.2.1 rfl rfl <|
    aw_newm (pc := 67) C (Z' := YC85) (ci := 2) (N := 9) (T := TX2) (codes := rty 2) (.inl (0, 9, 2)) ln_YC84 wf_YC84 dK_s_81.2.2.2.2.1 rfl wsin_X2 tyX2_ok kl_X5_18 ki_X2 kn_X2 (fun _ _ _ _ => rfl) n3_X2 df_X2 rfl rfl (Nat.le_of_ble_eq_true rfl) (Nat.le_of_ble_eq_true rfl) fun a29 h28 =>
    aw_dup (pc := 70) C dK_s_81.2.2.2.2.2.1 rfl <|
    aw_aload_n (pc := 71) C (i := 1) dK_s_81.2.2.2.2.2.2.1 rfl rfl <|
    aw_callC (pc := 72) C (Z' := YC86) (rm' := rmX2_init_i61) (F := X2_init_i61) (run_I (As := [.ref 36]) (rest := [.ref 61, .int 3, .ref 53]) (b := 61) C kx_m kx_b hKX (c_X2_init_i61 X.2.1) dK_s_81.2.2.2.2.2.2.2.1 mf_X2_init mj_X5_37 im_X2_init rfl ⟨(Nat.le_of_ble_eq_true rfl), (Nat.le_of_ble_eq_true rfl)⟩ rfl rfl (Nat.le_of_ble_eq_true rfl) ⟨(Nat.le_of_ble_eq_true rfl), (Nat.le_of_ble_eq_true rfl)⟩) rfl rfl (fun ad31 h30 ha32 =>
    aw_aast (pc := 75) C (Z' := YC87) (E := "MarkToBoard$Jumper") dK_s_82.1 rfl rfl rfl rfl (as_X2 hKX) (by decide) (by decide) rfl <|
    aw_iinc (pc := 76) C (i := 2) (lv' := [(0, .ref 52), (1, .ref 36), (2, .int 4)]) dK_s_82.2.1 rfl (by decide) rfl <|
    aw_goto (pc := 79) C (tgt := 57) dK_s_82.2.2.1 rfl <|
    aw_iload_n (pc := 57) C (i := 2) dK_s_80.2.2.2.2.2.2.1 rfl rfl <|
    aw_iconst (pc := 58) C (v := 4) dK_s_80.2.2.2.2.2.2.2.1 rfl <|
    aw_dec (aw_icmp_ge (pc := 59) C (tgt := 82) dK_s_81.1 rfl (fun _ =>
    aw_vretN (pc := 82) C (Agr.call (n := 62) (Agr.new (n := 61) (Agr.call (n := 61) (Agr.new (n := 60) (Agr.call (n := 60) (Agr.new (n := 59) (Agr.call (n := 59) (Agr.new (n := 58) (Agr.new (n := 57) (Agr.new (n := 56) (Agr.new (n := 55) (Agr.new (n := 54) (Agr.new (n := 53) (Agr.rf) (Nat.le_of_ble_eq_true rfl)) (Nat.le_of_ble_eq_true rfl)) (Nat.le_of_ble_eq_true rfl)) (Nat.le_of_ble_eq_true rfl)) (Nat.le_of_ble_eq_true rfl)) (Nat.le_of_ble_eq_true rfl)) (Nat.le_of_ble_eq_true rfl) (ha17)) (Nat.le_of_ble_eq_true rfl)) (Nat.le_of_ble_eq_true rfl) (ha22)) (Nat.le_of_ble_eq_true rfl)) (Nat.le_of_ble_eq_true rfl) (ha27)) (Nat.le_of_ble_eq_true rfl)) (Nat.le_of_ble_eq_true rfl) (ha32)) dK_s_82.2.2.2.1 rfl rfl) (fun c => absurd (by decide) c))) rfl))) rfl))) rfl))) rfl))
abbrev rmX2_init_i68 : Room := { frames := 1, cells := 0, slots := 0, locals := 20 }
def X2_init_i68 (h : AH) : Option (Unit × AH) :=
    vl (sK h 68 0) fun h1 =>
    some ((), h1)
set_option maxRecDepth 100000 in
set_option maxHeartbeats 4000000 in
theorem c_X2_init_i68 (l : Launch) : MCN l yX2_init cX2_init 2 rmX2_init_i68 KX YC100 YC101 [.ref 68, .ref 36] X2_init_i68 :=
  MCN.of (own := RX2) pn_RX2 rfl rfl (Nat.le_of_ble_eq_true rfl) fun X yd A h C hKX hin =>
    aw_aload_n (pc := 0) C (i := 0) dK_s_55.1 rfl rfl <|
    aw_objInit (pc := 1) C dK_s_55.2.1 mo_X2_1 w_oi w_oc ⟨(Nat.le_of_ble_eq_true rfl), (Nat.le_of_ble_eq_true rfl)⟩ <|
    aw_aload_n (pc := 4) C (i := 0) dK_s_55.2.2.1 rfl rfl <|
    aw_aload_n (pc := 5) C (i := 1) dK_s_55.2.2.2.1 rfl rfl <|
    aw_putW0 (pc := 6) C (Z' := YC101) (v := 0) dK_s_55.2.2.2.2.1 fp_X2_7 rfl rfl rfl fun h1 =>
    aw_vretN (pc := 9) C (Agr.rf) dK_s_55.2.2.2.2.2.1 rfl rfl
abbrev rmX2_init_i69 : Room := { frames := 1, cells := 0, slots := 0, locals := 20 }
def X2_init_i69 (h : AH) : Option (Unit × AH) :=
    vl (sK h 69 0) fun h1 =>
    some ((), h1)
set_option maxRecDepth 100000 in
set_option maxHeartbeats 4000000 in
theorem c_X2_init_i69 (l : Launch) : MCN l yX2_init cX2_init 2 rmX2_init_i69 KX YC103 YC104 [.ref 69, .ref 36] X2_init_i69 :=
  MCN.of (own := RX2) pn_RX2 rfl rfl (Nat.le_of_ble_eq_true rfl) fun X yd A h C hKX hin =>
    aw_aload_n (pc := 0) C (i := 0) dK_s_55.1 rfl rfl <|
    aw_objInit (pc := 1) C dK_s_55.2.1 mo_X2_1 w_oi w_oc ⟨(Nat.le_of_ble_eq_true rfl), (Nat.le_of_ble_eq_true rfl)⟩ <|
    aw_aload_n (pc := 4) C (i := 0) dK_s_55.2.2.1 rfl rfl <|
    aw_aload_n (pc := 5) C (i := 1) dK_s_55.2.2.2.1 rfl rfl <|
    aw_putW0 (pc := 6) C (Z' := YC104) (v := 0) dK_s_55.2.2.2.2.1 fp_X2_7 rfl rfl rfl fun h1 =>
    aw_vretN (pc := 9) C (Agr.rf) dK_s_55.2.2.2.2.2.1 rfl rfl
abbrev rmX2_init_i70 : Room := { frames := 1, cells := 0, slots := 0, locals := 20 }
def X2_init_i70 (h : AH) : Option (Unit × AH) :=
    vl (sK h 70 0) fun h1 =>
    some ((), h1)
set_option maxRecDepth 100000 in
set_option maxHeartbeats 4000000 in
theorem c_X2_init_i70 (l : Launch) : MCN l yX2_init cX2_init 2 rmX2_init_i70 KX YC106 YC107 [.ref 70, .ref 36] X2_init_i70 :=
  MCN.of (own := RX2) pn_RX2 rfl rfl (Nat.le_of_ble_eq_true rfl) fun X yd A h C hKX hin =>
    aw_aload_n (pc := 0) C (i := 0) dK_s_55.1 rfl rfl <|
    aw_objInit (pc := 1) C dK_s_55.2.1 mo_X2_1 w_oi w_oc ⟨(Nat.le_of_ble_eq_true rfl), (Nat.le_of_ble_eq_true rfl)⟩ <|
    aw_aload_n (pc := 4) C (i := 0) dK_s_55.2.2.1 rfl rfl <|
    aw_aload_n (pc := 5) C (i := 1) dK_s_55.2.2.2.1 rfl rfl <|
    aw_putW0 (pc := 6) C (Z' := YC107) (v := 0) dK_s_55.2.2.2.2.1 fp_X2_7 rfl rfl rfl fun h1 =>
    aw_vretN (pc := 9) C (Agr.rf) dK_s_55.2.2.2.2.2.1 rfl rfl
abbrev rmX2_init_i71 : Room := { frames := 1, cells := 0, slots := 0, locals := 20 }
def X2_init_i71 (h : AH) : Option (Unit × AH) :=
    vl (sK h 71 0) fun h1 =>
    some ((), h1)
set_option maxRecDepth 100000 in
set_option maxHeartbeats 4000000 in
theorem c_X2_init_i71 (l : Launch) : MCN l yX2_init cX2_init 2 rmX2_init_i71 KX YC109 YC110 [.ref 71, .ref 36] X2_init_i71 :=
  MCN.of (own := RX2) pn_RX2 rfl rfl (Nat.le_of_ble_eq_true rfl) fun X yd A h C hKX hin =>
    aw_aload_n (pc := 0) C (i := 0) dK_s_55.1 rfl rfl <|
    aw_objInit (pc := 1) C dK_s_55.2.1 mo_X2_1 w_oi w_oc ⟨(Nat.le_of_ble_eq_true rfl), (Nat.le_of_ble_eq_true rfl)⟩ <|
    aw_aload_n (pc := 4) C (i := 0) dK_s_55.2.2.1 rfl rfl <|
    aw_aload_n (pc := 5) C (i := 1) dK_s_55.2.2.2.1 rfl rfl <|
    aw_putW0 (pc := 6) C (Z' := YC110) (v := 0) dK_s_55.2.2.2.2.1 fp_X2_7 rfl rfl rfl fun h1 =>
    aw_vretN (pc := 9) C (Agr.rf) dK_s_55.2.2.2.2.2.1 rfl rfl
abbrev rmX5_init_i62 : Room := { frames := 2, cells := 9, slots := 136, locals := 41 }
def X5_init_i62 (h : AH) : Option (Unit × AH) :=
    vl (sI h 62 0 10) fun h1 =>
    vl (sI h1 62 2 2) fun h2 =>
    vl (zN h2 63) fun h3 =>
    vl (zN h3 64) fun h5 =>
    vl (zN h5 65) fun h7 =>
    vl (zN h7 66) fun h9 =>
    vl (zN h9 67) fun h11 =>
    vl (zN h11 68) fun h13 =>
    bd (X2_init_i68 h13) fun _ h15 =>
    vl (zN h15 69) fun h18 =>
    bd (X2_init_i69 h18) fun _ h20 =>
    vl (zN h20 70) fun h23 =>
    bd (X2_init_i70 h23) fun _ h25 =>
    vl (zN h25 71) fun h28 =>
    bd (X2_init_i71 h28) fun _ h30 =>
    some ((), h30)
set_option maxRecDepth 100000 in
set_option maxHeartbeats 4000000 in
theorem c_X5_init_i62 (l : Launch) : MCN l yX5_init cX5_init 3 rmX5_init_i62 KX YC89 YC111 [.ref 62, .ref 36] X5_init_i62 :=
  MCN.of (own := RX5) pn_RX5 rfl rfl (Nat.le_of_ble_eq_true rfl) fun X yd A h C hKX hin =>
    aw_aload_n (pc := 0) C (i := 0) dK_s_77.1 rfl rfl <|
    aw_objInit (pc := 1) C dK_s_77.2.1 mo_X5_3 w_oi w_oc ⟨(Nat.le_of_ble_eq_true rfl), (Nat.le_of_ble_eq_true rfl)⟩ <|
    aw_aload_n (pc := 4) C (i := 0) dK_s_77.2.2.1 rfl rfl <|
    aw_bipush (pc := 5) C (v := 10) dK_s_77.2.2.2.1 rfl <|
    aw_putI (pc := 7) C dK_s_77.2.2.2.2.1 fp_X5_9 rfl rfl fun h1 =>
    aw_aload_n (pc := 10) C (i := 0) dK_s_77.2.2.2.2.2.1 rfl rfl <|
    aw_iconst (pc := 11) C (v := 2) dK_s_77.2.2.2.2.2.2.1 rfl <|
    aw_putI (pc := 12) C dK_s_77.2.2.2.2.2.2.2.1 fp_X5_15 rfl rfl fun h2 =>
    aw_aload_n (pc := 15) C (i := 0) dK_s_78.1 rfl rfl <|
    aw_iconst (pc := 16) C (v := 4) dK_s_78.2.1 rfl <|
    aw_newqm (pc := 17) C (Z' := YC90) (N := 4) (t := 2) hKX.2.1 kl_X5_18 ln_YC89 wf_YC89 dK_s_78.2.2.1 (by decide) rfl (by decide) rfl rfl rfl (Nat.le_of_ble_eq_true rfl) (Nat.le_of_ble_eq_true rfl) fun a4 h3 =>
    aw_putRF (pc := 20) C (Z' := YC91) hin dK_s_78.2.2.2.1 fpf_X5_20 rfl rfl (fun _ => rfl) (fun _ => rfl) rfl <|
    aw_aload_n (pc := 23) C (i := 0) dK_s_78.2.2.2.2.1 rfl rfl <|
    aw_bipush (pc := 24) C (v := 24) dK_s_78.2.2.2.2.2.1 rfl <|
    aw_newIm (pc := 26) C (Z' := YC92) (N := 24) ln_YC91 wf_YC91 dK_s_78.2.2.2.2.2.2.1 (by decide) rfl (by decide) rfl rfl rfl (Nat.le_of_ble_eq_true rfl) (Nat.le_of_ble_eq_true rfl) fun a6 h5 =>
    aw_putRF (pc := 28) C (Z' := YC93) hin dK_s_78.2.2.2.2.2.2.2.1 fpf_X5_24 rfl rfl (fun _ => rfl) (fun _ => rfl) rfl <|
    aw_aload_n (pc := 31) C (i := 0) dK_s_79.1 rfl rfl <|
    aw_bipush (pc := 32) C (v := 24) dK_s_79.2.1 rfl <|
    aw_newIm (pc := 34) C (Z' := YC94) (N := 24) ln_YC93 wf_YC93 dK_s_79.2.2.1 (by decide) rfl (by decide) rfl rfl rfl (Nat.le_of_ble_eq_true rfl) (Nat.le_of_ble_eq_true rfl) fun a8 h7 =>
    aw_putRF (pc := 36) C (Z' := YC95) hin dK_s_79.2.2.2.1 fpf_X5_28 rfl rfl (fun _ => rfl) (fun _ => rfl) rfl <|
    aw_aload_n (pc := 39) C (i := 0) dK_s_79.2.2.2.2.1 rfl rfl <|
    aw_bipush (pc := 40) C (v := 24) dK_s_79.2.2.2.2.2.1 rfl <|
    aw_newIm (pc := 42) C (Z' := YC96) (N := 24) ln_YC95 wf_YC95 dK_s_79.2.2.2.2.2.2.1 (by decide) rfl (by decide) rfl rfl rfl (Nat.le_of_ble_eq_true rfl) (Nat.le_of_ble_eq_true rfl) fun a10 h9 =>
    aw_putRF (pc := 44) C (Z' := YC97) hin dK_s_79.2.2.2.2.2.2.2.1 fpf_X5_31 rfl rfl (fun _ => rfl) (fun _ => rfl) rfl <|
    aw_aload_n (pc := 47) C (i := 0) dK_s_80.1 rfl rfl <|
    aw_bipush (pc := 48) C (v := 24) dK_s_80.2.1 rfl <|
    aw_newIm (pc := 50) C (Z' := YC98) (N := 24) ln_YC97 wf_YC97 dK_s_80.2.2.1 (by decide) rfl (by decide) rfl rfl rfl (Nat.le_of_ble_eq_true rfl) (Nat.le_of_ble_eq_true rfl) fun a12 h11 =>
    aw_putRF (pc := 52) C (Z' := YC99) hin dK_s_80.2.2.2.1 fpf_X5_34 rfl rfl (fun _ => rfl) (fun _ => rfl) rfl <|
    aw_iconst (pc := 55) C (v := 0) dK_s_80.2.2.2.2.1 rfl <|
    aw_istore_n (pc := 56) C (i := 2) (lv' := [(0, .ref 62), (1, .ref 36), (2, .int 0)]) dK_s_80.2.2.2.2.2.1 rfl (by decide) rfl <|
    aw_iload_n (pc := 57) C (i := 2) dK_s_80.2.2.2.2.2.2.1 rfl rfl <|
    aw_iconst (pc := 58) C (v := 4) dK_s_80.2.2.2.2.2.2.2.1 rfl <|
    aw_dec (aw_icmp_ge (pc := 59) C (tgt := 82) dK_s_81.1 rfl (fun c => absurd c (by decide)) (fun _ =>
    aw_aload_n (pc := 62) C (i := 0) dK_s_81.2.1 rfl rfl <|
    aw_getR (pc := 63) C (b := 63) dK_s_81.2.2.1 fl_X5_20 rfl rfl rfl <|
    aw_iload_n (pc := 66) C (i := 2) dK_s_81.2.2.2.1 rfl rfl <|
    aw_newm (pc := 67) C (Z' := YC100) (ci := 2) (N := 9) (T := TX2) (codes := rty 2) (.inl (0, 9, 2)) ln_YC99 wf_YC99 dK_s_81.2.2.2.2.1 rfl wsin_X2 tyX2_ok kl_X5_18 ki_X2 kn_X2 (fun _ _ _ _ => rfl) n3_X2 df_X2 rfl rfl (Nat.le_of_ble_eq_true rfl) (Nat.le_of_ble_eq_true rfl) fun a14 h13 =>
    aw_dup (pc := 70) C dK_s_81.2.2.2.2.2.1 rfl <|
    aw_aload_n (pc := 71) C (i := 1) dK_s_81.2.2.2.2.2.2.1 rfl rfl <|
    aw_callC (pc := 72) C (Z' := YC101) (rm' := rmX2_init_i68) (F := X2_init_i68) (run_I (As := [.ref 36]) (rest := [.ref 68, .int 0, .ref 63]) (b := 68) C kx_m kx_b hKX (c_X2_init_i68 X.2.1) dK_s_81.2.2.2.2.2.2.2.1 mf_X2_init mj_X5_37 im_X2_init rfl ⟨(Nat.le_of_ble_eq_true rfl), (Nat.le_of_ble_eq_true rfl)⟩ rfl rfl (Nat.le_of_ble_eq_true rfl) ⟨(Nat.le_of_ble_eq_true rfl), (Nat.le_of_ble_eq_true rfl)⟩) rfl rfl (fun ad16 h15 ha17 =>
    aw_aast (pc := 75) C (Z' := YC102) (E := "MarkToBoard$Jumper") dK_s_82.1 rfl rfl rfl rfl (as_X2 hKX) (by decide) (by decide) rfl <|
    aw_iinc (pc := 76) C (i := 2) (lv' := [(0, .ref 62), (1, .ref 36), (2, .int 1)]) dK_s_82.2.1 rfl (by decide) rfl <|
    aw_goto (pc := 79) C (tgt := 57) dK_s_82.2.2.1 rfl <|
    aw_iload_n (pc := 57) C (i := 2) dK_s_80.2.2.2.2.2.2.1 rfl rfl <|
    aw_iconst (pc := 58) C (v := 4) dK_s_80.2.2.2.2.2.2.2.1 rfl <|
    aw_dec (aw_icmp_ge (pc := 59) C (tgt := 82) dK_s_81.1 rfl (fun c => absurd c (by decide)) (fun _ =>
    aw_aload_n (pc := 62) C (i := 0) dK_s_81.2.1 rfl rfl <|
    aw_getR (pc := 63) C (b := 63) dK_s_81.2.2.1 fl_X5_20 rfl rfl rfl <|
    aw_iload_n (pc := 66) C (i := 2) dK_s_81.2.2.2.1 rfl rfl <|
    aw_newm (pc := 67) C (Z' := YC103) (ci := 2) (N := 9) (T := TX2) (codes := rty 2) (.inl (0, 9, 2)) ln_YC102 wf_YC102 dK_s_81.2.2.2.2.1 rfl wsin_X2 tyX2_ok kl_X5_18 ki_X2 kn_X2 (fun _ _ _ _ => rfl) n3_X2 df_X2 rfl rfl (Nat.le_of_ble_eq_true rfl) (Nat.le_of_ble_eq_true rfl) fun a19 h18 =>
    aw_dup (pc := 70) C dK_s_81.2.2.2.2.2.1 rfl <|
    aw_aload_n (pc := 71) C (i := 1) dK_s_81.2.2.2.2.2.2.1 rfl rfl <|
    aw_callC (pc := 72) C (Z' := YC104) (rm' := rmX2_init_i69) (F := X2_init_i69) (run_I (As := [.ref 36]) (rest := [.ref 69, .int 1, .ref 63]) (b := 69) C kx_m kx_b hKX (c_X2_init_i69 X.2.1) dK_s_81.2.2.2.2.2.2.2.1 mf_X2_init mj_X5_37 im_X2_init rfl ⟨(Nat.le_of_ble_eq_true rfl), (Nat.le_of_ble_eq_true rfl)⟩ rfl rfl (Nat.le_of_ble_eq_true rfl) ⟨(Nat.le_of_ble_eq_true rfl), (Nat.le_of_ble_eq_true rfl)⟩) rfl rfl (fun ad21 h20 ha22 =>
    aw_aast (pc := 75) C (Z' := YC105) (E := "MarkToBoard$Jumper") dK_s_82.1 rfl rfl rfl rfl (as_X2 hKX) (by decide) (by decide) rfl <|
    aw_iinc (pc := 76) C (i := 2) (lv' := [(0, .ref 62), (1, .ref 36), (2, .int 2)]) dK_s_82.2.1 rfl (by decide) rfl <|
    aw_goto (pc := 79) C (tgt := 57) dK_s_82.2.2.1 rfl <|
    aw_iload_n (pc := 57) C (i := 2) dK_s_80.2.2.2.2.2.2.1 rfl rfl <|
    aw_iconst (pc := 58) C (v := 4) dK_s_80.2.2.2.2.2.2.2.1 rfl <|
    aw_dec (aw_icmp_ge (pc := 59) C (tgt := 82) dK_s_81.1 rfl (fun c => absurd c (by decide)) (fun _ =>
    aw_aload_n (pc := 62) C (i := 0) dK_s_81.2.1 rfl rfl <|
    aw_getR (pc := 63) C (b := 63) dK_s_81.2.2.1 fl_X5_20 rfl rfl rfl <|
    aw_iload_n (pc := 66) C (i := 2) dK_s_81.2.2.2.1 rfl rfl <|
    aw_newm (pc := 67) C (Z' := YC106) (ci := 2) (N := 9) (T := TX2) (codes := rty 2) (.inl (0, 9, 2)) ln_YC105 wf_YC105 dK_s_81.2.2.2.2.1 rfl wsin_X2 tyX2_ok kl_X5_18 ki_X2 kn_X2 (fun _ _ _ _ => rfl) n3_X2 df_X2 rfl rfl (Nat.le_of_ble_eq_true rfl) (Nat.le_of_ble_eq_true rfl) fun a24 h23 =>
    aw_dup (pc := 70) C dK_s_81.2.2.2.2.2.1 rfl <|
    aw_aload_n (pc := 71) C (i := 1) dK_s_81.2.2.2.2.2.2.1 rfl rfl <|
    aw_callC (pc := 72) C (Z' := YC107) (rm' := rmX2_init_i70) (F := X2_init_i70) (run_I (As := [.ref 36]) (rest := [.ref 70, .int 2, .ref 63]) (b := 70) C kx_m kx_b hKX (c_X2_init_i70 X.2.1) dK_s_81.2.2.2.2.2.2.2.1 mf_X2_init mj_X5_37 im_X2_init rfl ⟨(Nat.le_of_ble_eq_true rfl), (Nat.le_of_ble_eq_true rfl)⟩ rfl rfl (Nat.le_of_ble_eq_true rfl) ⟨(Nat.le_of_ble_eq_true rfl), (Nat.le_of_ble_eq_true rfl)⟩) rfl rfl (fun ad26 h25 ha27 =>
    aw_aast (pc := 75) C (Z' := YC108) (E := "MarkToBoard$Jumper") dK_s_82.1 rfl rfl rfl rfl (as_X2 hKX) (by decide) (by decide) rfl <|
    aw_iinc (pc := 76) C (i := 2) (lv' := [(0, .ref 62), (1, .ref 36), (2, .int 3)]) dK_s_82.2.1 rfl (by decide) rfl <|
    aw_goto (pc := 79) C (tgt := 57) dK_s_82.2.2.1 rfl <|
    aw_iload_n (pc := 57) C (i := 2) dK_s_80.2.2.2.2.2.2.1 rfl rfl <|
    aw_iconst (pc := 58) C (v := 4) dK_s_80.2.2.2.2.2.2.2.1 rfl <|
    aw_dec (aw_icmp_ge (pc := 59) C (tgt := 82) dK_s_81.1 rfl (fun c => absurd c (by decide)) (fun _ =>
    aw_aload_n (pc := 62) C (i := 0) dK_s_81.2.1 rfl rfl <|
    aw_getR (pc := 63) C (b := 63) dK_s_81.2.2.1 fl_X5_20 rfl rfl rfl <|
    aw_iload_n (pc := 66) C (i := 2) dK_s_81.2.2.2.1 rfl rfl <|
    aw_newm (pc := 67) C (Z' := YC109) (ci := 2) (N := 9) (T := TX2) (codes := rty 2) (.inl (0, 9, 2)) ln_YC108 wf_YC108 dK_s_81.2.2.2.2.1 rfl wsin_X2 tyX2_ok kl_X5_18 ki_X2 kn_X2 (fun _ _ _ _ => rfl) n3_X2 df_X2 rfl rfl (Nat.le_of_ble_eq_true rfl) (Nat.le_of_ble_eq_true rfl) fun a29 h28 =>
    aw_dup (pc := 70) C dK_s_81.2.2.2.2.2.1 rfl <|
    aw_aload_n (pc := 71) C (i := 1) dK_s_81.2.2.2.2.2.2.1 rfl rfl <|
    aw_callC (pc := 72) C (Z' := YC110) (rm' := rmX2_init_i71) (F := X2_init_i71) (run_I (As := [.ref 36]) (rest := [.ref 71, .int 3, .ref 63]) (b := 71) C kx_m kx_b hKX (c_X2_init_i71 X.2.1) dK_s_81.2.2.2.2.2.2.2.1 mf_X2_init mj_X5_37 im_X2_init rfl ⟨(Nat.le_of_ble_eq_true rfl), (Nat.le_of_ble_eq_true rfl)⟩ rfl rfl (Nat.le_of_ble_eq_true rfl) ⟨(Nat.le_of_ble_eq_true rfl), (Nat.le_of_ble_eq_true rfl)⟩) rfl rfl (fun ad31 h30 ha32 =>
    aw_aast (pc := 75) C (Z' := YC111) (E := "MarkToBoard$Jumper") dK_s_82.1 rfl rfl rfl rfl (as_X2 hKX) (by decide) (by decide) rfl <|
    aw_iinc (pc := 76) C (i := 2) (lv' := [(0, .ref 62), (1, .ref 36), (2, .int 4)]) dK_s_82.2.1 rfl (by decide) rfl <|
    aw_goto (pc := 79) C (tgt := 57) dK_s_82.2.2.1 rfl <|
    aw_iload_n (pc := 57) C (i := 2) dK_s_80.2.2.2.2.2.2.1 rfl rfl <|
    aw_iconst (pc := 58) C (v := 4) dK_s_80.2.2.2.2.2.2.2.1 rfl <|
    aw_dec (aw_icmp_ge (pc := 59) C (tgt := 82) dK_s_81.1 rfl (fun _ =>
    aw_vretN (pc := 82) C (Agr.call (n := 72) (Agr.new (n := 71) (Agr.call (n := 71) (Agr.new (n := 70) (Agr.call (n := 70) (Agr.new (n := 69) (Agr.call (n := 69) (Agr.new (n := 68) (Agr.new (n := 67) (Agr.new (n := 66) (Agr.new (n := 65) (Agr.new (n := 64) (Agr.new (n := 63) (Agr.rf) (Nat.le_of_ble_eq_true rfl)) (Nat.le_of_ble_eq_true rfl)) (Nat.le_of_ble_eq_true rfl)) (Nat.le_of_ble_eq_true rfl)) (Nat.le_of_ble_eq_true rfl)) (Nat.le_of_ble_eq_true rfl)) (Nat.le_of_ble_eq_true rfl) (ha17)) (Nat.le_of_ble_eq_true rfl)) (Nat.le_of_ble_eq_true rfl) (ha22)) (Nat.le_of_ble_eq_true rfl)) (Nat.le_of_ble_eq_true rfl) (ha27)) (Nat.le_of_ble_eq_true rfl)) (Nat.le_of_ble_eq_true rfl) (ha32)) dK_s_82.2.2.2.1 rfl rfl) (fun c => absurd (by decide) c))) rfl))) rfl))) rfl))) rfl))
abbrev rmX2_init_i72 : Room := { frames := 1, cells := 0, slots := 0, locals := 20 }
def X2_init_i72 (h : AH) : Option (Unit × AH) :=
    vl (sK h 72 0) fun h1 =>
    some ((), h1)
set_option maxRecDepth 100000 in
set_option maxHeartbeats 4000000 in
theorem c_X2_init_i72 (l : Launch) : MCN l yX2_init cX2_init 2 rmX2_init_i72 KX YC113 YC114 [.ref 72, .ref 36] X2_init_i72 :=
  MCN.of (own := RX2) pn_RX2 rfl rfl (Nat.le_of_ble_eq_true rfl) fun X yd A h C hKX hin =>
    aw_aload_n (pc := 0) C (i := 0) dK_s_55.1 rfl rfl <|
    aw_objInit (pc := 1) C dK_s_55.2.1 mo_X2_1 w_oi w_oc ⟨(Nat.le_of_ble_eq_true rfl), (Nat.le_of_ble_eq_true rfl)⟩ <|
    aw_aload_n (pc := 4) C (i := 0) dK_s_55.2.2.1 rfl rfl <|
    aw_aload_n (pc := 5) C (i := 1) dK_s_55.2.2.2.1 rfl rfl <|
    aw_putW0 (pc := 6) C (Z' := YC114) (v := 0) dK_s_55.2.2.2.2.1 fp_X2_7 rfl rfl rfl fun h1 =>
    aw_vretN (pc := 9) C (Agr.rf) dK_s_55.2.2.2.2.2.1 rfl rfl
abbrev rmX10_init_i0 : Room := { frames := 5, cells := 72, slots := 4479, locals := 100 }
def X10_init_i0 (h : AH) : Option (Unit × AH) :=
    vl (zN h 1) fun h1 =>
    vl (zN h1 2) fun h3 =>
    vl (zN h3 3) fun h5 =>
    vl (zN h5 4) fun h7 =>
    vl (zN h7 5) fun h9 =>
    bd (X6_init_i5 h9) fun _ h11 =>
    vl (zN h11 8) fun h14 =>
    bd (X1_init_i8 h14) fun _ h16 =>
    vl (zN h16 32) fun h19 =>
    vl (zN h19 33) fun h21 =>
    vl (zN h21 34) fun h23 =>
    vl (zN h23 35) fun h25 =>
    vl (zN h25 36) fun h27 =>
    bd (X3_init_i36 h27) fun _ h29 =>
    vl (zN h29 37) fun h32 =>
    bd (X7_init_i37 h32) fun _ h34 =>
    vl (zN h34 38) fun h37 =>
    bd (X0_init_i38 h37) fun _ h39 =>
    vl (zN h39 39) fun h42 =>
    bd (X4_init_i39 h42) fun _ h44 =>
    vl (zN h44 40) fun h47 =>
    bd (X9_init_i40 h47) fun _ h49 =>
    vl (zN h49 41) fun h52 =>
    bd (X8_init_i41 h52) fun _ h54 =>
    vl (zN h54 42) fun h57 =>
    bd (X5_init_i42 h57) fun _ h59 =>
    vl (zN h59 52) fun h62 =>
    bd (X5_init_i52 h62) fun _ h64 =>
    vl (zN h64 62) fun h67 =>
    bd (X5_init_i62 h67) fun _ h69 =>
    vl (zN h69 72) fun h72 =>
    bd (X2_init_i72 h72) fun _ h74 =>
    some ((), h74)
set_option maxRecDepth 100000 in
set_option maxHeartbeats 4000000 in
theorem c_X10_init_i0 (l : Launch) : MCN l yX10_init cX10_init 2 rmX10_init_i0 KX YC0 YC115 [.ref 0] X10_init_i0 :=
  MCN.of (own := RX10) pn_RX10 rfl rfl (Nat.le_of_ble_eq_true rfl) fun X yd A h C hKX hin =>
    aw_aload_n (pc := 0) C (i := 0) dK_a_0.1 rfl rfl <|
    aw_objInit (pc := 1) C dK_a_0.2.1 mo_X10_1 w_oi w_oc ⟨(Nat.le_of_ble_eq_true rfl), (Nat.le_of_ble_eq_true rfl)⟩ <|
    aw_aload_n (pc := 4) C (i := 0) dK_a_0.2.2.1 rfl rfl <|
    aw_bipush (pc := 5) C (v := 6) dK_a_0.2.2.2.1 rfl <|
    aw_newqm (pc := 7) C (Z' := YC1) (N := 6) (t := 3) hKX.1 kl_X10_9 ln_YC0 wf_YC0 dK_a_0.2.2.2.2.1 (by decide) rfl (by decide) rfl rfl rfl (Nat.le_of_ble_eq_true rfl) (Nat.le_of_ble_eq_true rfl) fun a2 h1 =>
    aw_putRF (pc := 10) C (Z' := YC2) hin dK_a_0.2.2.2.2.2.1 fpf_X10_11 rfl rfl (fun _ => rfl) (fun _ => rfl) rfl <|
    aw_aload_n (pc := 13) C (i := 0) dK_a_0.2.2.2.2.2.2.1 rfl rfl <|
    aw_bipush (pc := 14) C (v := 96) dK_a_0.2.2.2.2.2.2.2.1 rfl <|
    aw_newIm (pc := 16) C (Z' := YC3) (N := 96) ln_YC2 wf_YC2 dK_a_1.1 (by decide) rfl (by decide) rfl rfl rfl (Nat.le_of_ble_eq_true rfl) (Nat.le_of_ble_eq_true rfl) fun a4 h3 =>
    aw_putRF (pc := 18) C (Z' := YC4) hin dK_a_1.2.1 fpf_X10_15 rfl rfl (fun _ => rfl) (fun _ => rfl) rfl <|
    aw_aload_n (pc := 21) C (i := 0) dK_a_1.2.2.1 rfl rfl <|
    aw_bipush (pc := 22) C (v := 12) dK_a_1.2.2.2.1 rfl <|
    aw_newIm (pc := 24) C (Z' := YC5) (N := 12) ln_YC4 wf_YC4 dK_a_1.2.2.2.2.1 (by decide) rfl (by decide) rfl rfl rfl (Nat.le_of_ble_eq_true rfl) (Nat.le_of_ble_eq_true rfl) fun a6 h5 =>
    aw_putRF (pc := 26) C (Z' := YC6) hin dK_a_1.2.2.2.2.2.1 fpf_X10_19 rfl rfl (fun _ => rfl) (fun _ => rfl) rfl <|
    aw_aload_n (pc := 29) C (i := 0) dK_a_1.2.2.2.2.2.2.1 rfl rfl <|
    aw_bipush (pc := 30) C (v := 7) dK_a_1.2.2.2.2.2.2.2.1 rfl <|
    aw_newIm (pc := 32) C (Z' := YC7) (N := 7) ln_YC6 wf_YC6 dK_a_2.1 (by decide) rfl (by decide) rfl rfl rfl (Nat.le_of_ble_eq_true rfl) (Nat.le_of_ble_eq_true rfl) fun a8 h7 =>
    aw_putRF (pc := 34) C (Z' := YC8) hin dK_a_2.2.1 fpf_X10_22 rfl rfl (fun _ => rfl) (fun _ => rfl) rfl <|
    aw_aload_n (pc := 37) C (i := 0) dK_a_2.2.2.1 rfl rfl <|
    aw_newm (pc := 38) C (Z' := YC9) (ci := 6) (N := 3) (T := TX6) (codes := fty 6) (.inr 6) ln_YC8 wf_YC8 dK_a_2.2.2.2.1 rfl wsin_X6 tyX6_ok kl_X10_25 ki_X6 kn_X6 (fun _ _ _ _ => rfl) n3_X6 df_X6 rfl rfl (Nat.le_of_ble_eq_true rfl) (Nat.le_of_ble_eq_true rfl) fun a10 h9 =>
    aw_dup (pc := 41) C dK_a_2.2.2.2.2.1 rfl <|
    aw_callC (pc := 42) C (Z' := YC13) (rm' := rmX6_init_i5) (F := X6_init_i5) (run_IN (host := "MarkToBoard") (As := []) (rest := [.ref 5, .ref 0]) (b := 5) C kx_m kx_b hKX (c_X6_init_i5 X.2.1) dK_a_2.2.2.2.2.2.1 mf_X6_init (hKX.2.2.2.1 (RX10, 27, yX6_init, "MarkToBoard") kx_X10_27) im_X6_init rfl ⟨(Nat.le_of_ble_eq_true rfl), (Nat.le_of_ble_eq_true rfl)⟩ rfl rfl (Nat.le_of_ble_eq_true rfl) ⟨(Nat.le_of_ble_eq_true rfl), (Nat.le_of_ble_eq_true rfl)⟩) rfl rfl (fun ad12 h11 ha13 =>
    aw_putRF (pc := 45) C (Z' := YC14) hin dK_a_2.2.2.2.2.2.2.1 fpf_X10_28 rfl rfl (fun _ => rfl) (fun _ => rfl) rfl <|
    aw_aload_n (pc := 48) C (i := 0) dK_a_2.2.2.2.2.2.2.2.1 rfl rfl <|
    aw_newm (pc := 49) C (Z' := YC15) (ci := 1) (N := 5) (T := TX1) (codes := fty 1) (.inr 1) ln_YC14 wf_YC14 dK_a_3.1 rfl wsin_X1 tyX1_ok kl_X10_32 ki_X1 kn_X1 (fun _ _ _ _ => rfl) n3_X1 df_X1 rfl rfl (Nat.le_of_ble_eq_true rfl) (Nat.le_of_ble_eq_true rfl) fun a15 h14 =>
    aw_dup (pc := 52) C dK_a_3.2.1 rfl <|
    aw_callC (pc := 53) C (Z' := YC19) (rm' := rmX1_init_i8) (F := X1_init_i8) (run_I (As := []) (rest := [.ref 8, .ref 0]) (b := 8) C kx_m kx_b hKX (c_X1_init_i8 X.2.1) dK_a_3.2.2.1 mf_X1_init mj_X10_34 im_X1_init rfl ⟨(Nat.le_of_ble_eq_true rfl), (Nat.le_of_ble_eq_true rfl)⟩ rfl rfl (Nat.le_of_ble_eq_true rfl) ⟨(Nat.le_of_ble_eq_true rfl), (Nat.le_of_ble_eq_true rfl)⟩) rfl rfl (fun ad17 h16 ha18 =>
    aw_putRF (pc := 56) C (Z' := YC20) hin dK_a_3.2.2.2.1 fpf_X10_35 rfl rfl (fun _ => rfl) (fun _ => rfl) rfl <|
    aw_aload_n (pc := 59) C (i := 0) dK_a_3.2.2.2.2.1 rfl rfl <|
    aw_sipush (pc := 60) C (v := 1000) dK_a_3.2.2.2.2.2.1 rfl <|
    aw_newIm (pc := 63) C (Z' := YC21) (N := 1000) ln_YC20 wf_YC20 dK_a_3.2.2.2.2.2.2.1 (by decide) rfl (by decide) rfl rfl rfl (Nat.le_of_ble_eq_true rfl) (Nat.le_of_ble_eq_true rfl) fun a20 h19 =>
    aw_putRF (pc := 65) C (Z' := YC22) hin dK_a_3.2.2.2.2.2.2.2.1 fpf_X10_39 rfl rfl (fun _ => rfl) (fun _ => rfl) rfl <|
    aw_aload_n (pc := 68) C (i := 0) dK_a_4.1 rfl rfl <|
    aw_sipush (pc := 69) C (v := 1000) dK_a_4.2.1 rfl <|
    aw_newIm (pc := 72) C (Z' := YC23) (N := 1000) ln_YC22 wf_YC22 dK_a_4.2.2.1 (by decide) rfl (by decide) rfl rfl rfl (Nat.le_of_ble_eq_true rfl) (Nat.le_of_ble_eq_true rfl) fun a22 h21 =>
    aw_putRF (pc := 74) C (Z' := YC24) hin dK_a_4.2.2.2.1 fpf_X10_42 rfl rfl (fun _ => rfl) (fun _ => rfl) rfl <|
    aw_aload_n (pc := 77) C (i := 0) dK_a_4.2.2.2.2.1 rfl rfl <|
    aw_bipush (pc := 78) C (v := 9) dK_a_4.2.2.2.2.2.1 rfl <|
    aw_newIm (pc := 80) C (Z' := YC25) (N := 9) ln_YC24 wf_YC24 dK_a_4.2.2.2.2.2.2.1 (by decide) rfl (by decide) rfl rfl rfl (Nat.le_of_ble_eq_true rfl) (Nat.le_of_ble_eq_true rfl) fun a24 h23 =>
    aw_putRF (pc := 82) C (Z' := YC26) hin dK_a_4.2.2.2.2.2.2.2.1 fpf_X10_45 rfl rfl (fun _ => rfl) (fun _ => rfl) rfl <|
    aw_aload_n (pc := 85) C (i := 0) dK_a_5.1 rfl rfl <|
    aw_iconst (pc := 86) C (v := 4) dK_a_5.2.1 rfl <|
    aw_newIm (pc := 87) C (Z' := YC27) (N := 4) ln_YC26 wf_YC26 dK_a_5.2.2.1 (by decide) rfl (by decide) rfl rfl rfl (Nat.le_of_ble_eq_true rfl) (Nat.le_of_ble_eq_true rfl) fun a26 h25 =>
    aw_putRF (pc := 89) C (Z' := YC28) hin dK_a_5.2.2.2.1 fpf_X10_48 rfl rfl (fun _ => rfl) (fun _ => rfl) rfl <|
    aw_newm (pc := 92) C (Z' := YC29) (ci := 3) (N := 0) (T := TX3) (codes := fty 3) (.inr 3) ln_YC28 wf_YC28 dK_a_5.2.2.2.2.1 rfl wsin_X3 tyX3_ok kl_X10_9 ki_X3 kn_X3 (fun _ _ _ _ => rfl) n3_X3 df_X3 rfl rfl (Nat.le_of_ble_eq_true rfl) (Nat.le_of_ble_eq_true rfl) fun a28 h27 =>
    aw_dup (pc := 95) C dK_a_5.2.2.2.2.2.1 rfl <|
    aw_callC (pc := 96) C (Z' := YC29) (rm' := rmX3_init_i36) (F := X3_init_i36) (run_IN (host := "MarkToBoard") (As := []) (rest := [.ref 36]) (b := 36) C kx_m kx_b hKX (c_X3_init_i36 X.2.1) dK_a_5.2.2.2.2.2.2.1 mf_X3_init (hKX.2.2.2.1 (RX10, 51, yX3_init, "MarkToBoard") kx_X10_51) im_X3_init rfl ⟨(Nat.le_of_ble_eq_true rfl), (Nat.le_of_ble_eq_true rfl)⟩ rfl rfl (Nat.le_of_ble_eq_true rfl) ⟨(Nat.le_of_ble_eq_true rfl), (Nat.le_of_ble_eq_true rfl)⟩) rfl rfl (fun ad30 h29 ha31 =>
    aw_astore_n (pc := 99) C (i := 1) (lv' := [(0, .ref 0), (1, .ref 36)]) dK_a_5.2.2.2.2.2.2.2.1 rfl (by decide) rfl <|
    aw_aload_n (pc := 100) C (i := 0) dK_a_6.1 rfl rfl <|
    aw_getR (pc := 101) C (b := 1) dK_a_6.2.1 fl_X10_11 rfl rfl rfl <|
    aw_iconst (pc := 104) C (v := 0) dK_a_6.2.2.1 rfl <|
    aw_aload_n (pc := 105) C (i := 1) dK_a_6.2.2.2.1 rfl rfl <|
    aw_aast (pc := 106) C (Z' := YC30) (E := "MarkToBoard$Kind") dK_a_6.2.2.2.2.1 rfl rfl rfl rfl (as_X3 hKX) (by decide) (by decide) rfl <|
    aw_aload_n (pc := 107) C (i := 0) dK_a_6.2.2.2.2.2.1 rfl rfl <|
    aw_getR (pc := 108) C (b := 1) dK_a_6.2.2.2.2.2.2.1 fl_X10_11 rfl rfl rfl <|
    aw_iconst (pc := 111) C (v := 1) dK_a_6.2.2.2.2.2.2.2.1 rfl <|
    aw_newm (pc := 112) C (Z' := YC31) (ci := 7) (N := 0) (T := TX7) (codes := fty 7) (.inr 7) ln_YC30 wf_YC30 dK_a_7.1 rfl wsin_X7 tyX7_ok kl_X10_52 ki_X7 kn_X7 (fun _ _ _ _ => rfl) n3_X7 df_X7 rfl rfl (Nat.le_of_ble_eq_true rfl) (Nat.le_of_ble_eq_true rfl) fun a33 h32 =>
    aw_dup (pc := 115) C dK_a_7.2.1 rfl <|
    aw_callC (pc := 116) C (Z' := YC31) (rm' := rmX7_init_i37) (F := X7_init_i37) (run_IN (host := "MarkToBoard") (As := []) (rest := [.ref 37, .int 1, .ref 1]) (b := 37) C kx_m kx_b hKX (c_X7_init_i37 X.2.1) dK_a_7.2.2.1 mf_X7_init (hKX.2.2.2.1 (RX10, 54, yX7_init, "MarkToBoard") kx_X10_54) im_X7_init rfl ⟨(Nat.le_of_ble_eq_true rfl), (Nat.le_of_ble_eq_true rfl)⟩ rfl rfl (Nat.le_of_ble_eq_true rfl) ⟨(Nat.le_of_ble_eq_true rfl), (Nat.le_of_ble_eq_true rfl)⟩) rfl rfl (fun ad35 h34 ha36 =>
    aw_aast (pc := 119) C (Z' := YC32) (E := "MarkToBoard$Kind") dK_a_7.2.2.2.1 rfl rfl rfl rfl (as_X7 hKX) (by decide) (by decide) rfl <|
    aw_aload_n (pc := 120) C (i := 0) dK_a_7.2.2.2.2.1 rfl rfl <|
    aw_getR (pc := 121) C (b := 1) dK_a_7.2.2.2.2.2.1 fl_X10_11 rfl rfl rfl <|
    aw_iconst (pc := 124) C (v := 2) dK_a_7.2.2.2.2.2.2.1 rfl <|
    aw_newm (pc := 125) C (Z' := YC33) (ci := 0) (N := 0) (T := TX0) (codes := fty 0) (.inr 0) ln_YC32 wf_YC32 dK_a_7.2.2.2.2.2.2.2.1 rfl wsin_X0 tyX0_ok kl_X10_55 ki_X0 kn_X0 (fun _ _ _ _ => rfl) n3_X0 df_X0 rfl rfl (Nat.le_of_ble_eq_true rfl) (Nat.le_of_ble_eq_true rfl) fun a38 h37 =>
    aw_dup (pc := 128) C dK_a_8.1 rfl <|
    aw_callC (pc := 129) C (Z' := YC33) (rm' := rmX0_init_i38) (F := X0_init_i38) (run_IN (host := "MarkToBoard") (As := []) (rest := [.ref 38, .int 2, .ref 1]) (b := 38) C kx_m kx_b hKX (c_X0_init_i38 X.2.1) dK_a_8.2.1 mf_X0_init (hKX.2.2.2.1 (RX10, 57, yX0_init, "MarkToBoard") kx_X10_57) im_X0_init rfl ⟨(Nat.le_of_ble_eq_true rfl), (Nat.le_of_ble_eq_true rfl)⟩ rfl rfl (Nat.le_of_ble_eq_true rfl) ⟨(Nat.le_of_ble_eq_true rfl), (Nat.le_of_ble_eq_true rfl)⟩) rfl rfl (fun ad40 h39 ha41 =>
    aw_aast (pc := 132) C (Z' := YC34) (E := "MarkToBoard$Kind") dK_a_8.2.2.1 rfl rfl rfl rfl (as_X0 hKX) (by decide) (by decide) rfl <|
    aw_aload_n (pc := 133) C (i := 0) dK_a_8.2.2.2.1 rfl rfl <|
    aw_getR (pc := 134) C (b := 1) dK_a_8.2.2.2.2.1 fl_X10_11 rfl rfl rfl <|
    aw_iconst (pc := 137) C (v := 3) dK_a_8.2.2.2.2.2.1 rfl <|
    aw_newm (pc := 138) C (Z' := YC35) (ci := 4) (N := 0) (T := TX4) (codes := fty 4) (.inr 4) ln_YC34 wf_YC34 dK_a_8.2.2.2.2.2.2.1 rfl wsin_X4 tyX4_ok kl_X10_58 ki_X4 kn_X4 (fun _ _ _ _ => rfl) n3_X4 df_X4 rfl rfl (Nat.le_of_ble_eq_true rfl) (Nat.le_of_ble_eq_true rfl) fun a43 h42 =>
    aw_dup (pc := 141) C dK_a_8.2.2.2.2.2.2.2.1 rfl <|
    aw_callC (pc := 142) C (Z' := YC35) (rm' := rmX4_init_i39) (F := X4_init_i39) (run_IN (host := "MarkToBoard") (As := []) (rest := [.ref 39, .int 3, .ref 1]) (b := 39) C kx_m kx_b hKX (c_X4_init_i39 X.2.1) dK_a_9.1 mf_X4_init (hKX.2.2.2.1 (RX10, 60, yX4_init, "MarkToBoard") kx_X10_60) im_X4_init rfl ⟨(Nat.le_of_ble_eq_true rfl), (Nat.le_of_ble_eq_true rfl)⟩ rfl rfl (Nat.le_of_ble_eq_true rfl) ⟨(Nat.le_of_ble_eq_true rfl), (Nat.le_of_ble_eq_true rfl)⟩) rfl rfl (fun ad45 h44 ha46 =>
    aw_aast (pc := 145) C (Z' := YC36) (E := "MarkToBoard$Kind") dK_a_9.2.1 rfl rfl rfl rfl (as_X4 hKX) (by decide) (by decide) rfl <|
    aw_aload_n (pc := 146) C (i := 0) dK_a_9.2.2.1 rfl rfl <|
    aw_getR (pc := 147) C (b := 1) dK_a_9.2.2.2.1 fl_X10_11 rfl rfl rfl <|
    aw_iconst (pc := 150) C (v := 4) dK_a_9.2.2.2.2.1 rfl <|
    aw_newm (pc := 151) C (Z' := YC37) (ci := 9) (N := 0) (T := TX9) (codes := fty 9) (.inr 9) ln_YC36 wf_YC36 dK_a_9.2.2.2.2.2.1 rfl wsin_X9 tyX9_ok kl_X10_61 ki_X9 kn_X9 (fun _ _ _ _ => rfl) n3_X9 df_X9 rfl rfl (Nat.le_of_ble_eq_true rfl) (Nat.le_of_ble_eq_true rfl) fun a48 h47 =>
    aw_dup (pc := 154) C dK_a_9.2.2.2.2.2.2.1 rfl <|
    aw_callC (pc := 155) C (Z' := YC37) (rm' := rmX9_init_i40) (F := X9_init_i40) (run_IN (host := "MarkToBoard") (As := []) (rest := [.ref 40, .int 4, .ref 1]) (b := 40) C kx_m kx_b hKX (c_X9_init_i40 X.2.1) dK_a_9.2.2.2.2.2.2.2.1 mf_X9_init (hKX.2.2.2.1 (RX10, 63, yX9_init, "MarkToBoard") kx_X10_63) im_X9_init rfl ⟨(Nat.le_of_ble_eq_true rfl), (Nat.le_of_ble_eq_true rfl)⟩ rfl rfl (Nat.le_of_ble_eq_true rfl) ⟨(Nat.le_of_ble_eq_true rfl), (Nat.le_of_ble_eq_true rfl)⟩) rfl rfl (fun ad50 h49 ha51 =>
    aw_aast (pc := 158) C (Z' := YC38) (E := "MarkToBoard$Kind") dK_a_10.1 rfl rfl rfl rfl (as_X9 hKX) (by decide) (by decide) rfl <|
    aw_aload_n (pc := 159) C (i := 0) dK_a_10.2.1 rfl rfl <|
    aw_getR (pc := 160) C (b := 1) dK_a_10.2.2.1 fl_X10_11 rfl rfl rfl <|
    aw_iconst (pc := 163) C (v := 5) dK_a_10.2.2.2.1 rfl <|
    aw_newm (pc := 164) C (Z' := YC39) (ci := 8) (N := 0) (T := TX8) (codes := fty 8) (.inr 8) ln_YC38 wf_YC38 dK_a_10.2.2.2.2.1 rfl wsin_X8 tyX8_ok kl_X10_64 ki_X8 kn_X8 (fun _ _ _ _ => rfl) n3_X8 df_X8 rfl rfl (Nat.le_of_ble_eq_true rfl) (Nat.le_of_ble_eq_true rfl) fun a53 h52 =>
    aw_dup (pc := 167) C dK_a_10.2.2.2.2.2.1 rfl <|
    aw_callC (pc := 168) C (Z' := YC39) (rm' := rmX8_init_i41) (F := X8_init_i41) (run_IN (host := "MarkToBoard") (As := []) (rest := [.ref 41, .int 5, .ref 1]) (b := 41) C kx_m kx_b hKX (c_X8_init_i41 X.2.1) dK_a_10.2.2.2.2.2.2.1 mf_X8_init (hKX.2.2.2.1 (RX10, 66, yX8_init, "MarkToBoard") kx_X10_66) im_X8_init rfl ⟨(Nat.le_of_ble_eq_true rfl), (Nat.le_of_ble_eq_true rfl)⟩ rfl rfl (Nat.le_of_ble_eq_true rfl) ⟨(Nat.le_of_ble_eq_true rfl), (Nat.le_of_ble_eq_true rfl)⟩) rfl rfl (fun ad55 h54 ha56 =>
    aw_aast (pc := 171) C (Z' := YC40) (E := "MarkToBoard$Kind") dK_a_10.2.2.2.2.2.2.2.1 rfl rfl rfl rfl (as_X8 hKX) (by decide) (by decide) rfl <|
    aw_aload_n (pc := 172) C (i := 0) dK_a_11.1 rfl rfl <|
    aw_newm (pc := 173) C (Z' := YC41) (ci := 5) (N := 10) (T := TX5) (codes := fty 5) (.inr 5) ln_YC40 wf_YC40 dK_a_11.2.1 rfl wsin_X5 tyX5_ok kl_X10_67 ki_X5 kn_X5 (fun _ _ _ _ => rfl) n3_X5 df_X5 rfl rfl (Nat.le_of_ble_eq_true rfl) (Nat.le_of_ble_eq_true rfl) fun a58 h57 =>
    aw_dup (pc := 176) C dK_a_11.2.2.1 rfl <|
    aw_aload_n (pc := 177) C (i := 1) dK_a_11.2.2.2.1 rfl rfl <|
    aw_callC (pc := 178) C (Z' := YC63) (rm' := rmX5_init_i42) (F := X5_init_i42) (run_I (As := [.ref 36]) (rest := [.ref 42, .ref 0]) (b := 42) C kx_m kx_b hKX (c_X5_init_i42 X.2.1) dK_a_11.2.2.2.2.1 mf_X5_init mj_X10_69 im_X5_init rfl ⟨(Nat.le_of_ble_eq_true rfl), (Nat.le_of_ble_eq_true rfl)⟩ rfl rfl (Nat.le_of_ble_eq_true rfl) ⟨(Nat.le_of_ble_eq_true rfl), (Nat.le_of_ble_eq_true rfl)⟩) rfl rfl (fun ad60 h59 ha61 =>
    aw_putRF (pc := 181) C (Z' := YC64) hin dK_a_11.2.2.2.2.2.1 fpf_X10_72 rfl rfl (fun _ => rfl) (fun _ => rfl) rfl <|
    aw_aload_n (pc := 184) C (i := 0) dK_a_11.2.2.2.2.2.2.1 rfl rfl <|
    aw_newm (pc := 185) C (Z' := YC65) (ci := 5) (N := 10) (T := TX5) (codes := fty 5) (.inr 5) ln_YC64 wf_YC64 dK_a_11.2.2.2.2.2.2.2.1 rfl wsin_X5 tyX5_ok kl_X10_67 ki_X5 kn_X5 (fun _ _ _ _ => rfl) n3_X5 df_X5 rfl rfl (Nat.le_of_ble_eq_true rfl) (Nat.le_of_ble_eq_true rfl) fun a63 h62 =>
    aw_dup (pc := 188) C dK_a_12.1 rfl <|
    aw_aload_n (pc := 189) C (i := 1) dK_a_12.2.1 rfl rfl <|
    aw_callC (pc := 190) C (Z' := YC87) (rm' := rmX5_init_i52) (F := X5_init_i52) (run_I (As := [.ref 36]) (rest := [.ref 52, .ref 0]) (b := 52) C kx_m kx_b hKX (c_X5_init_i52 X.2.1) dK_a_12.2.2.1 mf_X5_init mj_X10_69 im_X5_init rfl ⟨(Nat.le_of_ble_eq_true rfl), (Nat.le_of_ble_eq_true rfl)⟩ rfl rfl (Nat.le_of_ble_eq_true rfl) ⟨(Nat.le_of_ble_eq_true rfl), (Nat.le_of_ble_eq_true rfl)⟩) rfl rfl (fun ad65 h64 ha66 =>
    aw_putRF (pc := 193) C (Z' := YC88) hin dK_a_12.2.2.2.1 fpf_X10_76 rfl rfl (fun _ => rfl) (fun _ => rfl) rfl <|
    aw_aload_n (pc := 196) C (i := 0) dK_a_12.2.2.2.2.1 rfl rfl <|
    aw_newm (pc := 197) C (Z' := YC89) (ci := 5) (N := 10) (T := TX5) (codes := fty 5) (.inr 5) ln_YC88 wf_YC88 dK_a_12.2.2.2.2.2.1 rfl wsin_X5 tyX5_ok kl_X10_67 ki_X5 kn_X5 (fun _ _ _ _ => rfl) n3_X5 df_X5 rfl rfl (Nat.le_of_ble_eq_true rfl) (Nat.le_of_ble_eq_true rfl) fun a68 h67 =>
    aw_dup (pc := 200) C dK_a_12.2.2.2.2.2.2.1 rfl <|
    aw_aload_n (pc := 201) C (i := 1) dK_a_12.2.2.2.2.2.2.2.1 rfl rfl <|
    aw_callC (pc := 202) C (Z' := YC111) (rm' := rmX5_init_i62) (F := X5_init_i62) (run_I (As := [.ref 36]) (rest := [.ref 62, .ref 0]) (b := 62) C kx_m kx_b hKX (c_X5_init_i62 X.2.1) dK_a_13.1 mf_X5_init mj_X10_69 im_X5_init rfl ⟨(Nat.le_of_ble_eq_true rfl), (Nat.le_of_ble_eq_true rfl)⟩ rfl rfl (Nat.le_of_ble_eq_true rfl) ⟨(Nat.le_of_ble_eq_true rfl), (Nat.le_of_ble_eq_true rfl)⟩) rfl rfl (fun ad70 h69 ha71 =>
    aw_putRF (pc := 205) C (Z' := YC112) hin dK_a_13.2.1 fpf_X10_79 rfl rfl (fun _ => rfl) (fun _ => rfl) rfl <|
    aw_aload_n (pc := 208) C (i := 0) dK_a_13.2.2.1 rfl rfl <|
    aw_newm (pc := 209) C (Z' := YC113) (ci := 2) (N := 9) (T := TX2) (codes := rty 2) (.inl (0, 9, 2)) ln_YC112 wf_YC112 dK_a_13.2.2.2.1 rfl wsin_X2 tyX2_ok kl_X10_82 ki_X2 kn_X2 (fun _ _ _ _ => rfl) n3_X2 df_X2 rfl rfl (Nat.le_of_ble_eq_true rfl) (Nat.le_of_ble_eq_true rfl) fun a73 h72 =>
    aw_dup (pc := 212) C dK_a_13.2.2.2.2.1 rfl <|
    aw_aload_n (pc := 213) C (i := 1) dK_a_13.2.2.2.2.2.1 rfl rfl <|
    aw_callC (pc := 214) C (Z' := YC114) (rm' := rmX2_init_i72) (F := X2_init_i72) (run_I (As := [.ref 36]) (rest := [.ref 72, .ref 0]) (b := 72) C kx_m kx_b hKX (c_X2_init_i72 X.2.1) dK_a_13.2.2.2.2.2.2.1 mf_X2_init mj_X10_84 im_X2_init rfl ⟨(Nat.le_of_ble_eq_true rfl), (Nat.le_of_ble_eq_true rfl)⟩ rfl rfl (Nat.le_of_ble_eq_true rfl) ⟨(Nat.le_of_ble_eq_true rfl), (Nat.le_of_ble_eq_true rfl)⟩) rfl rfl (fun ad75 h74 ha76 =>
    aw_putRF (pc := 217) C (Z' := YC115) hin dK_a_13.2.2.2.2.2.2.2.1 fpf_X10_85 rfl rfl (fun _ => rfl) (fun _ => rfl) rfl <|
    aw_vretN (pc := 220) C (Agr.call (n := 73) (Agr.new (n := 72) (Agr.call (n := 63) (Agr.new (n := 62) (Agr.call (n := 53) (Agr.new (n := 52) (Agr.call (n := 43) (Agr.new (n := 42) (Agr.call (n := 42) (Agr.new (n := 41) (Agr.call (n := 41) (Agr.new (n := 40) (Agr.call (n := 40) (Agr.new (n := 39) (Agr.call (n := 39) (Agr.new (n := 38) (Agr.call (n := 38) (Agr.new (n := 37) (Agr.call (n := 37) (Agr.new (n := 36) (Agr.new (n := 35) (Agr.new (n := 34) (Agr.new (n := 33) (Agr.new (n := 32) (Agr.call (n := 9) (Agr.new (n := 8) (Agr.call (n := 6) (Agr.new (n := 5) (Agr.new (n := 4) (Agr.new (n := 3) (Agr.new (n := 2) (Agr.new (n := 1) (Agr.rf) (Nat.le_of_ble_eq_true rfl)) (Nat.le_of_ble_eq_true rfl)) (Nat.le_of_ble_eq_true rfl)) (Nat.le_of_ble_eq_true rfl)) (Nat.le_of_ble_eq_true rfl)) (Nat.le_of_ble_eq_true rfl) (ha13)) (Nat.le_of_ble_eq_true rfl)) (Nat.le_of_ble_eq_true rfl) (ha18)) (Nat.le_of_ble_eq_true rfl)) (Nat.le_of_ble_eq_true rfl)) (Nat.le_of_ble_eq_true rfl)) (Nat.le_of_ble_eq_true rfl)) (Nat.le_of_ble_eq_true rfl)) (Nat.le_of_ble_eq_true rfl) (ha31)) (Nat.le_of_ble_eq_true rfl)) (Nat.le_of_ble_eq_true rfl) (ha36)) (Nat.le_of_ble_eq_true rfl)) (Nat.le_of_ble_eq_true rfl) (ha41)) (Nat.le_of_ble_eq_true rfl)) (Nat.le_of_ble_eq_true rfl) (ha46)) (Nat.le_of_ble_eq_true rfl)) (Nat.le_of_ble_eq_true rfl) (ha51)) (Nat.le_of_ble_eq_true rfl)) (Nat.le_of_ble_eq_true rfl) (ha56)) (Nat.le_of_ble_eq_true rfl)) (Nat.le_of_ble_eq_true rfl) (ha61)) (Nat.le_of_ble_eq_true rfl)) (Nat.le_of_ble_eq_true rfl) (ha66)) (Nat.le_of_ble_eq_true rfl)) (Nat.le_of_ble_eq_true rfl) (ha71)) (Nat.le_of_ble_eq_true rfl)) (Nat.le_of_ble_eq_true rfl) (ha76)) dK_a_14.1 rfl rfl) rfl) rfl) rfl) rfl) rfl) rfl) rfl) rfl) rfl) rfl) rfl) rfl
end
section
def YR0 : Stc := ([.inr 11], (fun _ _ => none), 0, tlR)
theorem ln_YR0 : YR0.1.length = 1 := rfl
theorem wf_YR0 : WFs YR0 := wf_one (by decide)
def YR1 : Stc := addS YR0 (.inl (0, 0, 7))
theorem ln_YR1 : YR1.1.length = 2 := ln_add ln_YR0
theorem wf_YR1 : WFs YR1 := wf_add wf_YR0 (by decide)
def YR2 : Stc := putR YR1 0 0 1
theorem ln_YR2 : YR2.1.length = 2 := ln_YR1
theorem wf_YR2 : WFs YR2 := wf_put wf_YR1 (by rw [ln_YR1]; decide) (by rw [ln_YR1]; decide)
def YR3 : Stc := addS YR2 (.inl (0, 0, 4))
theorem ln_YR3 : YR3.1.length = 3 := ln_add ln_YR2
theorem wf_YR3 : WFs YR3 := wf_add wf_YR2 (by decide)
def YR4 : Stc := putR YR3 0 1 2
theorem ln_YR4 : YR4.1.length = 3 := ln_YR3
theorem wf_YR4 : WFs YR4 := wf_put wf_YR3 (by rw [ln_YR3]; decide) (by rw [ln_YR3]; decide)
def YR5 : Stc := addS YR4 (.inl (0, 0, 4))
theorem ln_YR5 : YR5.1.length = 4 := ln_add ln_YR4
theorem wf_YR5 : WFs YR5 := wf_add wf_YR4 (by decide)
def YR6 : Stc := putR YR5 0 2 3
theorem ln_YR6 : YR6.1.length = 4 := ln_YR5
theorem wf_YR6 : WFs YR6 := wf_put wf_YR5 (by rw [ln_YR5]; decide) (by rw [ln_YR5]; decide)
def YR7 : Stc := addS YR6 (.inl (0, 0, 4))
theorem ln_YR7 : YR7.1.length = 5 := ln_add ln_YR6
theorem wf_YR7 : WFs YR7 := wf_add wf_YR6 (by decide)
def YR8 : Stc := putR YR7 0 3 4
theorem ln_YR8 : YR8.1.length = 5 := ln_YR7
theorem wf_YR8 : WFs YR8 := wf_put wf_YR7 (by rw [ln_YR7]; decide) (by rw [ln_YR7]; decide)
def YR9 : Stc := addS YR8 (.inl (0, 0, 4))
theorem ln_YR9 : YR9.1.length = 6 := ln_add ln_YR8
theorem wf_YR9 : WFs YR9 := wf_add wf_YR8 (by decide)
def YR10 : Stc := putR YR9 0 4 5
theorem ln_YR10 : YR10.1.length = 6 := ln_YR9
theorem wf_YR10 : WFs YR10 := wf_put wf_YR9 (by rw [ln_YR9]; decide) (by rw [ln_YR9]; decide)
def YR11 : Stc := addS YR10 (.inl (0, 0, 4))
theorem ln_YR11 : YR11.1.length = 7 := ln_add ln_YR10
theorem wf_YR11 : WFs YR11 := wf_add wf_YR10 (by decide)
def YR12 : Stc := putR YR11 0 5 6
theorem ln_YR12 : YR12.1.length = 7 := ln_YR11
theorem wf_YR12 : WFs YR12 := wf_put wf_YR11 (by rw [ln_YR11]; decide) (by rw [ln_YR11]; decide)
def YR13 : Stc := addS YR12 (.inl (0, 0, 4))
theorem ln_YR13 : YR13.1.length = 8 := ln_add ln_YR12
theorem wf_YR13 : WFs YR13 := wf_add wf_YR12 (by decide)
def YR14 : Stc := putR YR13 0 6 7
theorem ln_YR14 : YR14.1.length = 8 := ln_YR13
theorem wf_YR14 : WFs YR14 := wf_put wf_YR13 (by rw [ln_YR13]; decide) (by rw [ln_YR13]; decide)
def YR15 : Stc := addS YR14 (.inl (0, 0, 4))
theorem ln_YR15 : YR15.1.length = 9 := ln_add ln_YR14
theorem wf_YR15 : WFs YR15 := wf_add wf_YR14 (by decide)
def YR16 : Stc := putR YR15 0 7 8
theorem ln_YR16 : YR16.1.length = 9 := ln_YR15
theorem wf_YR16 : WFs YR16 := wf_put wf_YR15 (by rw [ln_YR15]; decide) (by rw [ln_YR15]; decide)
def YR17 : Stc := addS YR16 (.inl (0, 0, 4))
theorem ln_YR17 : YR17.1.length = 10 := ln_add ln_YR16
theorem wf_YR17 : WFs YR17 := wf_add wf_YR16 (by decide)
def YR18 : Stc := putR YR17 0 8 9
theorem ln_YR18 : YR18.1.length = 10 := ln_YR17
theorem wf_YR18 : WFs YR18 := wf_put wf_YR17 (by rw [ln_YR17]; decide) (by rw [ln_YR17]; decide)
def YR19 : Stc := addS YR18 (.inl (0, 0, 24))
theorem ln_YR19 : YR19.1.length = 11 := ln_add ln_YR18
theorem wf_YR19 : WFs YR19 := wf_add wf_YR18 (by decide)
def YR20 : Stc := putR YR19 0 9 10
theorem ln_YR20 : YR20.1.length = 11 := ln_YR19
theorem wf_YR20 : WFs YR20 := wf_put wf_YR19 (by rw [ln_YR19]; decide) (by rw [ln_YR19]; decide)
def YR21 : Stc := addS YR20 (.inl (0, 0, 24))
theorem ln_YR21 : YR21.1.length = 12 := ln_add ln_YR20
theorem wf_YR21 : WFs YR21 := wf_add wf_YR20 (by decide)
def YR22 : Stc := putR YR21 0 10 11
theorem ln_YR22 : YR22.1.length = 12 := ln_YR21
theorem wf_YR22 : WFs YR22 := wf_put wf_YR21 (by rw [ln_YR21]; decide) (by rw [ln_YR21]; decide)
def YR23 : Stc := addS YR22 (.inl (0, 0, 24))
theorem ln_YR23 : YR23.1.length = 13 := ln_add ln_YR22
theorem wf_YR23 : WFs YR23 := wf_add wf_YR22 (by decide)
def YR24 : Stc := putR YR23 0 11 12
theorem ln_YR24 : YR24.1.length = 13 := ln_YR23
theorem wf_YR24 : WFs YR24 := wf_put wf_YR23 (by rw [ln_YR23]; decide) (by rw [ln_YR23]; decide)
def YR25 : Stc := addS YR24 (.inl (0, 0, 96))
theorem ln_YR25 : YR25.1.length = 14 := ln_add ln_YR24
theorem wf_YR25 : WFs YR25 := wf_add wf_YR24 (by decide)
def YR26 : Stc := putR YR25 0 17 13
theorem ln_YR26 : YR26.1.length = 14 := ln_YR25
theorem wf_YR26 : WFs YR26 := wf_put wf_YR25 (by rw [ln_YR25]; decide) (by rw [ln_YR25]; decide)
def YR27 : Stc := addS YR26 (.inl (0, 0, 48))
theorem ln_YR27 : YR27.1.length = 15 := ln_add ln_YR26
theorem wf_YR27 : WFs YR27 := wf_add wf_YR26 (by decide)
def YR28 : Stc := putR YR27 0 18 14
theorem ln_YR28 : YR28.1.length = 15 := ln_YR27
theorem wf_YR28 : WFs YR28 := wf_put wf_YR27 (by rw [ln_YR27]; decide) (by rw [ln_YR27]; decide)
def YR29 : Stc := addS YR28 (.inl (0, 0, 48))
theorem ln_YR29 : YR29.1.length = 16 := ln_add ln_YR28
theorem wf_YR29 : WFs YR29 := wf_add wf_YR28 (by decide)
def YR30 : Stc := putR YR29 0 19 15
theorem ln_YR30 : YR30.1.length = 16 := ln_YR29
theorem wf_YR30 : WFs YR30 := wf_put wf_YR29 (by rw [ln_YR29]; decide) (by rw [ln_YR29]; decide)
def YR31 : Stc := addS YR30 (.inl (0, 0, 384))
theorem ln_YR31 : YR31.1.length = 17 := ln_add ln_YR30
theorem wf_YR31 : WFs YR31 := wf_add wf_YR30 (by decide)
def YR32 : Stc := putR YR31 0 20 16
theorem ln_YR32 : YR32.1.length = 17 := ln_YR31
theorem wf_YR32 : WFs YR32 := wf_put wf_YR31 (by rw [ln_YR31]; decide) (by rw [ln_YR31]; decide)
def YR33 : Stc := addS YR32 (.inl (0, 0, 240))
theorem ln_YR33 : YR33.1.length = 18 := ln_add ln_YR32
theorem wf_YR33 : WFs YR33 := wf_add wf_YR32 (by decide)
def YR34 : Stc := putR YR33 0 24 17
theorem ln_YR34 : YR34.1.length = 18 := ln_YR33
theorem wf_YR34 : WFs YR34 := wf_put wf_YR33 (by rw [ln_YR33]; decide) (by rw [ln_YR33]; decide)
def YR35 : Stc := addS YR34 (.inl (1, 1, 41))
theorem ln_YR35 : YR35.1.length = 19 := ln_add ln_YR34
theorem wf_YR35 : WFs YR35 := wf_add wf_YR34 (by decide)
def YR36 : Stc := putR YR35 0 28 18
theorem ln_YR36 : YR36.1.length = 19 := ln_YR35
theorem wf_YR36 : WFs YR36 := wf_put wf_YR35 (by rw [ln_YR35]; decide) (by rw [ln_YR35]; decide)
def YR37 : Stc := addS YR36 (.inl (1, 1, 41))
theorem ln_YR37 : YR37.1.length = 20 := ln_add ln_YR36
theorem wf_YR37 : WFs YR37 := wf_add wf_YR36 (by decide)
def YR38 : Stc := putR YR37 0 29 19
theorem ln_YR38 : YR38.1.length = 20 := ln_YR37
theorem wf_YR38 : WFs YR38 := wf_put wf_YR37 (by rw [ln_YR37]; decide) (by rw [ln_YR37]; decide)
def YR39 : Stc := addS YR38 (.inl (0, 0, 4))
theorem ln_YR39 : YR39.1.length = 21 := ln_add ln_YR38
theorem wf_YR39 : WFs YR39 := wf_add wf_YR38 (by decide)
def YR40 : Stc := putR YR39 0 30 20
theorem ln_YR40 : YR40.1.length = 21 := ln_YR39
theorem wf_YR40 : WFs YR40 := wf_put wf_YR39 (by rw [ln_YR39]; decide) (by rw [ln_YR39]; decide)
def YR41 : Stc := addS YR40 (.inl (0, 0, 4))
theorem ln_YR41 : YR41.1.length = 22 := ln_add ln_YR40
theorem wf_YR41 : WFs YR41 := wf_add wf_YR40 (by decide)
def YR42 : Stc := putR YR41 0 31 21
theorem ln_YR42 : YR42.1.length = 22 := ln_YR41
theorem wf_YR42 : WFs YR42 := wf_put wf_YR41 (by rw [ln_YR41]; decide) (by rw [ln_YR41]; decide)
def YR43 : Stc := addS YR42 (.inl (0, 0, 4))
theorem ln_YR43 : YR43.1.length = 23 := ln_add ln_YR42
theorem wf_YR43 : WFs YR43 := wf_add wf_YR42 (by decide)
def YR44 : Stc := putR YR43 0 32 22
theorem ln_YR44 : YR44.1.length = 23 := ln_YR43
theorem wf_YR44 : WFs YR44 := wf_put wf_YR43 (by rw [ln_YR43]; decide) (by rw [ln_YR43]; decide)
def YR45 : Stc := addS YR44 (.inl (0, 0, 12))
theorem ln_YR45 : YR45.1.length = 24 := ln_add ln_YR44
theorem wf_YR45 : WFs YR45 := wf_add wf_YR44 (by decide)
def YR46 : Stc := putR YR45 0 33 23
theorem ln_YR46 : YR46.1.length = 24 := ln_YR45
theorem wf_YR46 : WFs YR46 := wf_put wf_YR45 (by rw [ln_YR45]; decide) (by rw [ln_YR45]; decide)
def YR47 : Stc := addS YR46 (.inl (0, 0, 4))
theorem ln_YR47 : YR47.1.length = 25 := ln_add ln_YR46
theorem wf_YR47 : WFs YR47 := wf_add wf_YR46 (by decide)
def YR48 : Stc := putR YR47 0 35 24
theorem ln_YR48 : YR48.1.length = 25 := ln_YR47
theorem wf_YR48 : WFs YR48 := wf_put wf_YR47 (by rw [ln_YR47]; decide) (by rw [ln_YR47]; decide)
def YR49 : Stc := addS YR48 (.inl (1, 1, 1000))
theorem ln_YR49 : YR49.1.length = 26 := ln_add ln_YR48
theorem wf_YR49 : WFs YR49 := wf_add wf_YR48 (by decide)
def YR50 : Stc := putR YR49 0 36 25
theorem ln_YR50 : YR50.1.length = 26 := ln_YR49
theorem wf_YR50 : WFs YR50 := wf_put wf_YR49 (by rw [ln_YR49]; decide) (by rw [ln_YR49]; decide)
def YR51 : Stc := addS YR50 (.inl (1, 1, 1000))
theorem ln_YR51 : YR51.1.length = 27 := ln_add ln_YR50
theorem wf_YR51 : WFs YR51 := wf_add wf_YR50 (by decide)
def YR52 : Stc := putR YR51 0 37 26
theorem ln_YR52 : YR52.1.length = 27 := ln_YR51
theorem wf_YR52 : WFs YR52 := wf_put wf_YR51 (by rw [ln_YR51]; decide) (by rw [ln_YR51]; decide)
def YR53 : Stc := addS YR52 (.inl (0, 0, 9))
theorem ln_YR53 : YR53.1.length = 28 := ln_add ln_YR52
theorem wf_YR53 : WFs YR53 := wf_add wf_YR52 (by decide)
def YR54 : Stc := putR YR53 0 38 27
theorem ln_YR54 : YR54.1.length = 28 := ln_YR53
theorem wf_YR54 : WFs YR54 := wf_put wf_YR53 (by rw [ln_YR53]; decide) (by rw [ln_YR53]; decide)
def YR55 : Stc := addS YR54 (.inl (0, 0, 6))
theorem ln_YR55 : YR55.1.length = 29 := ln_add ln_YR54
theorem wf_YR55 : WFs YR55 := wf_add wf_YR54 (by decide)
def YR56 : Stc := putR YR55 0 39 28
theorem ln_YR56 : YR56.1.length = 29 := ln_YR55
theorem wf_YR56 : WFs YR56 := wf_put wf_YR55 (by rw [ln_YR55]; decide) (by rw [ln_YR55]; decide)
abbrev rmX11_init_i0 : Room := { frames := 1, cells := 28, slots := 3052, locals := 20 }
def X11_init_i0 (h : AH) : Option (Unit × AH) :=
    vl (zN h 1) fun h1 =>
    vl (zN h1 2) fun h3 =>
    vl (zN h3 3) fun h5 =>
    vl (zN h5 4) fun h7 =>
    vl (zN h7 5) fun h9 =>
    vl (zN h9 6) fun h11 =>
    vl (zN h11 7) fun h13 =>
    vl (zN h13 8) fun h15 =>
    vl (zN h15 9) fun h17 =>
    vl (zN h17 10) fun h19 =>
    vl (zN h19 11) fun h21 =>
    vl (zN h21 12) fun h23 =>
    vl (zN h23 13) fun h25 =>
    vl (zN h25 14) fun h27 =>
    vl (zN h27 15) fun h29 =>
    vl (zN h29 16) fun h31 =>
    vl (zN h31 17) fun h33 =>
    vl (zN h33 18) fun h35 =>
    vl (zN h35 19) fun h37 =>
    vl (zN h37 20) fun h39 =>
    vl (zN h39 21) fun h41 =>
    vl (zN h41 22) fun h43 =>
    vl (zN h43 23) fun h45 =>
    vl (zN h45 24) fun h47 =>
    vl (zN h47 25) fun h49 =>
    vl (zN h49 26) fun h51 =>
    vl (zN h51 27) fun h53 =>
    vl (zN h53 28) fun h55 =>
    vl (sI h55 0 12 10) fun h57 =>
    vl (sI h57 0 13 2) fun h58 =>
    some ((), h58)
set_option maxRecDepth 100000 in
set_option maxHeartbeats 4000000 in
theorem c_X11_init_i0 (l : Launch) : MCN l yX11_init cX11_init 1 rmX11_init_i0 KX YR0 YR56 [.ref 0] X11_init_i0 :=
  MCN.of (own := RX11) pn_RX11 rfl rfl (Nat.le_of_ble_eq_true rfl) fun X yd A h C hKX hin =>
    aw_aload_n (pc := 0) C (i := 0) dK_c_0.1 rfl rfl <|
    aw_objInit (pc := 1) C dK_c_0.2.1 mo_X11_1 w_oi w_oc ⟨(Nat.le_of_ble_eq_true rfl), (Nat.le_of_ble_eq_true rfl)⟩ <|
    aw_aload_n (pc := 4) C (i := 0) dK_c_0.2.2.1 rfl rfl <|
    aw_bipush (pc := 5) C (v := 7) dK_c_0.2.2.2.1 rfl <|
    aw_newIm (pc := 7) C (Z' := YR1) (N := 7) ln_YR0 wf_YR0 dK_c_0.2.2.2.2.1 (by decide) rfl (by decide) rfl rfl rfl (Nat.le_of_ble_eq_true rfl) (Nat.le_of_ble_eq_true rfl) fun a2 h1 =>
    aw_putRF (pc := 9) C (Z' := YR2) hin dK_c_0.2.2.2.2.2.1 fpf_X11_7 rfl rfl (fun _ => rfl) (fun _ => rfl) rfl <|
    aw_aload_n (pc := 12) C (i := 0) dK_c_0.2.2.2.2.2.2.1 rfl rfl <|
    aw_iconst (pc := 13) C (v := 4) dK_c_0.2.2.2.2.2.2.2.1 rfl <|
    aw_newIm (pc := 14) C (Z' := YR3) (N := 4) ln_YR2 wf_YR2 dK_c_1.1 (by decide) rfl (by decide) rfl rfl rfl (Nat.le_of_ble_eq_true rfl) (Nat.le_of_ble_eq_true rfl) fun a4 h3 =>
    aw_putRF (pc := 16) C (Z' := YR4) hin dK_c_1.2.1 fpf_X11_13 rfl rfl (fun _ => rfl) (fun _ => rfl) rfl <|
    aw_aload_n (pc := 19) C (i := 0) dK_c_1.2.2.1 rfl rfl <|
    aw_iconst (pc := 20) C (v := 4) dK_c_1.2.2.2.1 rfl <|
    aw_newIm (pc := 21) C (Z' := YR5) (N := 4) ln_YR4 wf_YR4 dK_c_1.2.2.2.2.1 (by decide) rfl (by decide) rfl rfl rfl (Nat.le_of_ble_eq_true rfl) (Nat.le_of_ble_eq_true rfl) fun a6 h5 =>
    aw_putRF (pc := 23) C (Z' := YR6) hin dK_c_1.2.2.2.2.2.1 fpf_X11_16 rfl rfl (fun _ => rfl) (fun _ => rfl) rfl <|
    aw_aload_n (pc := 26) C (i := 0) dK_c_1.2.2.2.2.2.2.1 rfl rfl <|
    aw_iconst (pc := 27) C (v := 4) dK_c_1.2.2.2.2.2.2.2.1 rfl <|
    aw_newIm (pc := 28) C (Z' := YR7) (N := 4) ln_YR6 wf_YR6 dK_c_2.1 (by decide) rfl (by decide) rfl rfl rfl (Nat.le_of_ble_eq_true rfl) (Nat.le_of_ble_eq_true rfl) fun a8 h7 =>
    aw_putRF (pc := 30) C (Z' := YR8) hin dK_c_2.2.1 fpf_X11_19 rfl rfl (fun _ => rfl) (fun _ => rfl) rfl <|
    aw_aload_n (pc := 33) C (i := 0) dK_c_2.2.2.1 rfl rfl <|
    aw_iconst (pc := 34) C (v := 4) dK_c_2.2.2.2.1 rfl <|
    aw_newIm (pc := 35) C (Z' := YR9) (N := 4) ln_YR8 wf_YR8 dK_c_2.2.2.2.2.1 (by decide) rfl (by decide) rfl rfl rfl (Nat.le_of_ble_eq_true rfl) (Nat.le_of_ble_eq_true rfl) fun a10 h9 =>
    aw_putRF (pc := 37) C (Z' := YR10) hin dK_c_2.2.2.2.2.2.1 fpf_X11_22 rfl rfl (fun _ => rfl) (fun _ => rfl) rfl <|
    aw_aload_n (pc := 40) C (i := 0) dK_c_2.2.2.2.2.2.2.1 rfl rfl <|
    aw_iconst (pc := 41) C (v := 4) dK_c_2.2.2.2.2.2.2.2.1 rfl <|
    aw_newIm (pc := 42) C (Z' := YR11) (N := 4) ln_YR10 wf_YR10 dK_c_3.1 (by decide) rfl (by decide) rfl rfl rfl (Nat.le_of_ble_eq_true rfl) (Nat.le_of_ble_eq_true rfl) fun a12 h11 =>
    aw_putRF (pc := 44) C (Z' := YR12) hin dK_c_3.2.1 fpf_X11_25 rfl rfl (fun _ => rfl) (fun _ => rfl) rfl <|
    aw_aload_n (pc := 47) C (i := 0) dK_c_3.2.2.1 rfl rfl <|
    aw_iconst (pc := 48) C (v := 4) dK_c_3.2.2.2.1 rfl <|
    aw_newIm (pc := 49) C (Z' := YR13) (N := 4) ln_YR12 wf_YR12 dK_c_3.2.2.2.2.1 (by decide) rfl (by decide) rfl rfl rfl (Nat.le_of_ble_eq_true rfl) (Nat.le_of_ble_eq_true rfl) fun a14 h13 =>
    aw_putRF (pc := 51) C (Z' := YR14) hin dK_c_3.2.2.2.2.2.1 fpf_X11_28 rfl rfl (fun _ => rfl) (fun _ => rfl) rfl <|
    aw_aload_n (pc := 54) C (i := 0) dK_c_3.2.2.2.2.2.2.1 rfl rfl <|
    aw_iconst (pc := 55) C (v := 4) dK_c_3.2.2.2.2.2.2.2.1 rfl <|
    aw_newIm (pc := 56) C (Z' := YR15) (N := 4) ln_YR14 wf_YR14 dK_c_4.1 (by decide) rfl (by decide) rfl rfl rfl (Nat.le_of_ble_eq_true rfl) (Nat.le_of_ble_eq_true rfl) fun a16 h15 =>
    aw_putRF (pc := 58) C (Z' := YR16) hin dK_c_4.2.1 fpf_X11_31 rfl rfl (fun _ => rfl) (fun _ => rfl) rfl <|
    aw_aload_n (pc := 61) C (i := 0) dK_c_4.2.2.1 rfl rfl <|
    aw_iconst (pc := 62) C (v := 4) dK_c_4.2.2.2.1 rfl <|
    aw_newIm (pc := 63) C (Z' := YR17) (N := 4) ln_YR16 wf_YR16 dK_c_4.2.2.2.2.1 (by decide) rfl (by decide) rfl rfl rfl (Nat.le_of_ble_eq_true rfl) (Nat.le_of_ble_eq_true rfl) fun a18 h17 =>
    aw_putRF (pc := 65) C (Z' := YR18) hin dK_c_4.2.2.2.2.2.1 fpf_X11_34 rfl rfl (fun _ => rfl) (fun _ => rfl) rfl <|
    aw_aload_n (pc := 68) C (i := 0) dK_c_4.2.2.2.2.2.2.1 rfl rfl <|
    aw_bipush (pc := 69) C (v := 24) dK_c_4.2.2.2.2.2.2.2.1 rfl <|
    aw_newIm (pc := 71) C (Z' := YR19) (N := 24) ln_YR18 wf_YR18 dK_c_5.1 (by decide) rfl (by decide) rfl rfl rfl (Nat.le_of_ble_eq_true rfl) (Nat.le_of_ble_eq_true rfl) fun a20 h19 =>
    aw_putRF (pc := 73) C (Z' := YR20) hin dK_c_5.2.1 fpf_X11_37 rfl rfl (fun _ => rfl) (fun _ => rfl) rfl <|
    aw_aload_n (pc := 76) C (i := 0) dK_c_5.2.2.1 rfl rfl <|
    aw_bipush (pc := 77) C (v := 24) dK_c_5.2.2.2.1 rfl <|
    aw_newIm (pc := 79) C (Z' := YR21) (N := 24) ln_YR20 wf_YR20 dK_c_5.2.2.2.2.1 (by decide) rfl (by decide) rfl rfl rfl (Nat.le_of_ble_eq_true rfl) (Nat.le_of_ble_eq_true rfl) fun a22 h21 =>
    aw_putRF (pc := 81) C (Z' := YR22) hin dK_c_5.2.2.2.2.2.1 fpf_X11_40 rfl rfl (fun _ => rfl) (fun _ => rfl) rfl <|
    aw_aload_n (pc := 84) C (i := 0) dK_c_5.2.2.2.2.2.2.1 rfl rfl <|
    aw_bipush (pc := 85) C (v := 24) dK_c_5.2.2.2.2.2.2.2.1 rfl <|
    aw_newIm (pc := 87) C (Z' := YR23) (N := 24) ln_YR22 wf_YR22 dK_c_6.1 (by decide) rfl (by decide) rfl rfl rfl (Nat.le_of_ble_eq_true rfl) (Nat.le_of_ble_eq_true rfl) fun a24 h23 =>
    aw_putRF (pc := 89) C (Z' := YR24) hin dK_c_6.2.1 fpf_X11_43 rfl rfl (fun _ => rfl) (fun _ => rfl) rfl <|
    aw_aload_n (pc := 92) C (i := 0) dK_c_6.2.2.1 rfl rfl <|
    aw_bipush (pc := 93) C (v := 96) dK_c_6.2.2.2.1 rfl <|
    aw_newIm (pc := 95) C (Z' := YR25) (N := 96) ln_YR24 wf_YR24 dK_c_6.2.2.2.2.1 (by decide) rfl (by decide) rfl rfl rfl (Nat.le_of_ble_eq_true rfl) (Nat.le_of_ble_eq_true rfl) fun a26 h25 =>
    aw_putRF (pc := 97) C (Z' := YR26) hin dK_c_6.2.2.2.2.2.1 fpf_X11_46 rfl rfl (fun _ => rfl) (fun _ => rfl) rfl <|
    aw_aload_n (pc := 100) C (i := 0) dK_c_6.2.2.2.2.2.2.1 rfl rfl <|
    aw_bipush (pc := 101) C (v := 48) dK_c_6.2.2.2.2.2.2.2.1 rfl <|
    aw_newIm (pc := 103) C (Z' := YR27) (N := 48) ln_YR26 wf_YR26 dK_c_7.1 (by decide) rfl (by decide) rfl rfl rfl (Nat.le_of_ble_eq_true rfl) (Nat.le_of_ble_eq_true rfl) fun a28 h27 =>
    aw_putRF (pc := 105) C (Z' := YR28) hin dK_c_7.2.1 fpf_X11_49 rfl rfl (fun _ => rfl) (fun _ => rfl) rfl <|
    aw_aload_n (pc := 108) C (i := 0) dK_c_7.2.2.1 rfl rfl <|
    aw_bipush (pc := 109) C (v := 48) dK_c_7.2.2.2.1 rfl <|
    aw_newIm (pc := 111) C (Z' := YR29) (N := 48) ln_YR28 wf_YR28 dK_c_7.2.2.2.2.1 (by decide) rfl (by decide) rfl rfl rfl (Nat.le_of_ble_eq_true rfl) (Nat.le_of_ble_eq_true rfl) fun a30 h29 =>
    aw_putRF (pc := 113) C (Z' := YR30) hin dK_c_7.2.2.2.2.2.1 fpf_X11_52 rfl rfl (fun _ => rfl) (fun _ => rfl) rfl <|
    aw_aload_n (pc := 116) C (i := 0) dK_c_7.2.2.2.2.2.2.1 rfl rfl <|
    aw_sipush (pc := 117) C (v := 384) dK_c_7.2.2.2.2.2.2.2.1 rfl <|
    aw_newIm (pc := 120) C (Z' := YR31) (N := 384) ln_YR30 wf_YR30 dK_c_8.1 (by decide) rfl (by decide) rfl rfl rfl (Nat.le_of_ble_eq_true rfl) (Nat.le_of_ble_eq_true rfl) fun a32 h31 =>
    aw_putRF (pc := 122) C (Z' := YR32) hin dK_c_8.2.1 fpf_X11_55 rfl rfl (fun _ => rfl) (fun _ => rfl) rfl <|
    aw_aload_n (pc := 125) C (i := 0) dK_c_8.2.2.1 rfl rfl <|
    aw_sipush (pc := 126) C (v := 240) dK_c_8.2.2.2.1 rfl <|
    aw_newIm (pc := 129) C (Z' := YR33) (N := 240) ln_YR32 wf_YR32 dK_c_8.2.2.2.2.1 (by decide) rfl (by decide) rfl rfl rfl (Nat.le_of_ble_eq_true rfl) (Nat.le_of_ble_eq_true rfl) fun a34 h33 =>
    aw_putRF (pc := 131) C (Z' := YR34) hin dK_c_8.2.2.2.2.2.1 fpf_X11_58 rfl rfl (fun _ => rfl) (fun _ => rfl) rfl <|
    aw_aload_n (pc := 134) C (i := 0) dK_c_8.2.2.2.2.2.2.1 rfl rfl <|
    aw_bipush (pc := 135) C (v := 41) dK_c_8.2.2.2.2.2.2.2.1 rfl <|
    aw_newJm (pc := 137) C (Z' := YR35) (N := 41) w_arrJ ln_YR34 wf_YR34 dK_c_9.1 (by decide) rfl (by decide) rfl rfl rfl (Nat.le_of_ble_eq_true rfl) (Nat.le_of_ble_eq_true rfl) fun a36 h35 =>
    aw_putRF (pc := 139) C (Z' := YR36) hin dK_c_9.2.1 fpf_X11_61 rfl rfl (fun _ => rfl) (fun _ => rfl) rfl <|
    aw_aload_n (pc := 142) C (i := 0) dK_c_9.2.2.1 rfl rfl <|
    aw_bipush (pc := 143) C (v := 41) dK_c_9.2.2.2.1 rfl <|
    aw_newJm (pc := 145) C (Z' := YR37) (N := 41) w_arrJ ln_YR36 wf_YR36 dK_c_9.2.2.2.2.1 (by decide) rfl (by decide) rfl rfl rfl (Nat.le_of_ble_eq_true rfl) (Nat.le_of_ble_eq_true rfl) fun a38 h37 =>
    aw_putRF (pc := 147) C (Z' := YR38) hin dK_c_9.2.2.2.2.2.1 fpf_X11_65 rfl rfl (fun _ => rfl) (fun _ => rfl) rfl <|
    aw_aload_n (pc := 150) C (i := 0) dK_c_9.2.2.2.2.2.2.1 rfl rfl <|
    aw_iconst (pc := 151) C (v := 4) dK_c_9.2.2.2.2.2.2.2.1 rfl <|
    aw_newIm (pc := 152) C (Z' := YR39) (N := 4) ln_YR38 wf_YR38 dK_c_10.1 (by decide) rfl (by decide) rfl rfl rfl (Nat.le_of_ble_eq_true rfl) (Nat.le_of_ble_eq_true rfl) fun a40 h39 =>
    aw_putRF (pc := 154) C (Z' := YR40) hin dK_c_10.2.1 fpf_X11_68 rfl rfl (fun _ => rfl) (fun _ => rfl) rfl <|
    aw_aload_n (pc := 157) C (i := 0) dK_c_10.2.2.1 rfl rfl <|
    aw_iconst (pc := 158) C (v := 4) dK_c_10.2.2.2.1 rfl <|
    aw_newIm (pc := 159) C (Z' := YR41) (N := 4) ln_YR40 wf_YR40 dK_c_10.2.2.2.2.1 (by decide) rfl (by decide) rfl rfl rfl (Nat.le_of_ble_eq_true rfl) (Nat.le_of_ble_eq_true rfl) fun a42 h41 =>
    aw_putRF (pc := 161) C (Z' := YR42) hin dK_c_10.2.2.2.2.2.1 fpf_X11_71 rfl rfl (fun _ => rfl) (fun _ => rfl) rfl <|
    aw_aload_n (pc := 164) C (i := 0) dK_c_10.2.2.2.2.2.2.1 rfl rfl <|
    aw_iconst (pc := 165) C (v := 4) dK_c_10.2.2.2.2.2.2.2.1 rfl <|
    aw_newIm (pc := 166) C (Z' := YR43) (N := 4) ln_YR42 wf_YR42 dK_c_11.1 (by decide) rfl (by decide) rfl rfl rfl (Nat.le_of_ble_eq_true rfl) (Nat.le_of_ble_eq_true rfl) fun a44 h43 =>
    aw_putRF (pc := 168) C (Z' := YR44) hin dK_c_11.2.1 fpf_X11_74 rfl rfl (fun _ => rfl) (fun _ => rfl) rfl <|
    aw_aload_n (pc := 171) C (i := 0) dK_c_11.2.2.1 rfl rfl <|
    aw_bipush (pc := 172) C (v := 12) dK_c_11.2.2.2.1 rfl <|
    aw_newIm (pc := 174) C (Z' := YR45) (N := 12) ln_YR44 wf_YR44 dK_c_11.2.2.2.2.1 (by decide) rfl (by decide) rfl rfl rfl (Nat.le_of_ble_eq_true rfl) (Nat.le_of_ble_eq_true rfl) fun a46 h45 =>
    aw_putRF (pc := 176) C (Z' := YR46) hin dK_c_11.2.2.2.2.2.1 fpf_X11_77 rfl rfl (fun _ => rfl) (fun _ => rfl) rfl <|
    aw_aload_n (pc := 179) C (i := 0) dK_c_11.2.2.2.2.2.2.1 rfl rfl <|
    aw_iconst (pc := 180) C (v := 4) dK_c_11.2.2.2.2.2.2.2.1 rfl <|
    aw_newIm (pc := 181) C (Z' := YR47) (N := 4) ln_YR46 wf_YR46 dK_c_12.1 (by decide) rfl (by decide) rfl rfl rfl (Nat.le_of_ble_eq_true rfl) (Nat.le_of_ble_eq_true rfl) fun a48 h47 =>
    aw_putRF (pc := 183) C (Z' := YR48) hin dK_c_12.2.1 fpf_X11_80 rfl rfl (fun _ => rfl) (fun _ => rfl) rfl <|
    aw_aload_n (pc := 186) C (i := 0) dK_c_12.2.2.1 rfl rfl <|
    aw_sipush (pc := 187) C (v := 1000) dK_c_12.2.2.2.1 rfl <|
    aw_newJm (pc := 190) C (Z' := YR49) (N := 1000) w_arrJ ln_YR48 wf_YR48 dK_c_12.2.2.2.2.1 (by decide) rfl (by decide) rfl rfl rfl (Nat.le_of_ble_eq_true rfl) (Nat.le_of_ble_eq_true rfl) fun a50 h49 =>
    aw_putRF (pc := 192) C (Z' := YR50) hin dK_c_12.2.2.2.2.2.1 fpf_X11_83 rfl rfl (fun _ => rfl) (fun _ => rfl) rfl <|
    aw_aload_n (pc := 195) C (i := 0) dK_c_12.2.2.2.2.2.2.1 rfl rfl <|
    aw_sipush (pc := 196) C (v := 1000) dK_c_12.2.2.2.2.2.2.2.1 rfl <|
    aw_newJm (pc := 199) C (Z' := YR51) (N := 1000) w_arrJ ln_YR50 wf_YR50 dK_c_13.1 (by decide) rfl (by decide) rfl rfl rfl (Nat.le_of_ble_eq_true rfl) (Nat.le_of_ble_eq_true rfl) fun a52 h51 =>
    aw_putRF (pc := 201) C (Z' := YR52) hin dK_c_13.2.1 fpf_X11_86 rfl rfl (fun _ => rfl) (fun _ => rfl) rfl <|
    aw_aload_n (pc := 204) C (i := 0) dK_c_13.2.2.1 rfl rfl <|
    aw_bipush (pc := 205) C (v := 9) dK_c_13.2.2.2.1 rfl <|
    aw_newIm (pc := 207) C (Z' := YR53) (N := 9) ln_YR52 wf_YR52 dK_c_13.2.2.2.2.1 (by decide) rfl (by decide) rfl rfl rfl (Nat.le_of_ble_eq_true rfl) (Nat.le_of_ble_eq_true rfl) fun a54 h53 =>
    aw_putRF (pc := 209) C (Z' := YR54) hin dK_c_13.2.2.2.2.2.1 fpf_X11_89 rfl rfl (fun _ => rfl) (fun _ => rfl) rfl <|
    aw_aload_n (pc := 212) C (i := 0) dK_c_13.2.2.2.2.2.2.1 rfl rfl <|
    aw_bipush (pc := 213) C (v := 6) dK_c_13.2.2.2.2.2.2.2.1 rfl <|
    aw_newIm (pc := 215) C (Z' := YR55) (N := 6) ln_YR54 wf_YR54 dK_c_14.1 (by decide) rfl (by decide) rfl rfl rfl (Nat.le_of_ble_eq_true rfl) (Nat.le_of_ble_eq_true rfl) fun a56 h55 =>
    aw_putRF (pc := 217) C (Z' := YR56) hin dK_c_14.2.1 fpf_X11_92 rfl rfl (fun _ => rfl) (fun _ => rfl) rfl <|
    aw_aload_n (pc := 220) C (i := 0) dK_c_14.2.2.1 rfl rfl <|
    aw_bipush (pc := 221) C (v := 10) dK_c_14.2.2.2.1 rfl <|
    aw_putI (pc := 223) C dK_c_14.2.2.2.2.1 fp_X11_95 rfl rfl fun h57 =>
    aw_aload_n (pc := 226) C (i := 0) dK_c_14.2.2.2.2.2.1 rfl rfl <|
    aw_iconst (pc := 227) C (v := 2) dK_c_14.2.2.2.2.2.2.1 rfl <|
    aw_putI (pc := 228) C dK_c_14.2.2.2.2.2.2.2.1 fp_X11_99 rfl rfl fun h58 =>
    aw_vretN (pc := 231) C (Agr.new (n := 28) (Agr.new (n := 27) (Agr.new (n := 26) (Agr.new (n := 25) (Agr.new (n := 24) (Agr.new (n := 23) (Agr.new (n := 22) (Agr.new (n := 21) (Agr.new (n := 20) (Agr.new (n := 19) (Agr.new (n := 18) (Agr.new (n := 17) (Agr.new (n := 16) (Agr.new (n := 15) (Agr.new (n := 14) (Agr.new (n := 13) (Agr.new (n := 12) (Agr.new (n := 11) (Agr.new (n := 10) (Agr.new (n := 9) (Agr.new (n := 8) (Agr.new (n := 7) (Agr.new (n := 6) (Agr.new (n := 5) (Agr.new (n := 4) (Agr.new (n := 3) (Agr.new (n := 2) (Agr.new (n := 1) (Agr.rf) (Nat.le_of_ble_eq_true rfl)) (Nat.le_of_ble_eq_true rfl)) (Nat.le_of_ble_eq_true rfl)) (Nat.le_of_ble_eq_true rfl)) (Nat.le_of_ble_eq_true rfl)) (Nat.le_of_ble_eq_true rfl)) (Nat.le_of_ble_eq_true rfl)) (Nat.le_of_ble_eq_true rfl)) (Nat.le_of_ble_eq_true rfl)) (Nat.le_of_ble_eq_true rfl)) (Nat.le_of_ble_eq_true rfl)) (Nat.le_of_ble_eq_true rfl)) (Nat.le_of_ble_eq_true rfl)) (Nat.le_of_ble_eq_true rfl)) (Nat.le_of_ble_eq_true rfl)) (Nat.le_of_ble_eq_true rfl)) (Nat.le_of_ble_eq_true rfl)) (Nat.le_of_ble_eq_true rfl)) (Nat.le_of_ble_eq_true rfl)) (Nat.le_of_ble_eq_true rfl)) (Nat.le_of_ble_eq_true rfl)) (Nat.le_of_ble_eq_true rfl)) (Nat.le_of_ble_eq_true rfl)) (Nat.le_of_ble_eq_true rfl)) (Nat.le_of_ble_eq_true rfl)) (Nat.le_of_ble_eq_true rfl)) (Nat.le_of_ble_eq_true rfl)) (Nat.le_of_ble_eq_true rfl)) dK_c_15.1 rfl rfl
end
section
abbrev rmX0_aimOf : Room := { frames := 0, cells := 0, slots := 0, locals := 0 }
def X0_aimOf (p1 : Nat) (h : AH) : Option (Int32 × AH) :=
    some (1, h)
set_option maxRecDepth 100000 in
theorem c_X0_aimOf (l : Launch) (b : Nat) (ci : Nat) (qc : vw_C) (hB0 : ZC.1[b]? = some (.inr ci)) (hB1 : vwCl[ci]? = some qc) (p1 : Nat) (hJ1 : ZC.1[p1]? = some (.inr 2)) : MC l yX0_aimOf cX0_aimOf 2 (some .int) rmX0_aimOf ZC [.ref b, .ref p1] rvI (X0_aimOf p1) :=
  MC.of (own := RX0) pn_RX0 rfl (Nat.le_of_ble_eq_true rfl) fun X yd A h _ C =>
    aw_iconst (pc := 0) C (v := 1) dK_s_8.1 rfl <|
    aw_iret (pc := 1) C dK_s_8.2.1 rfl rfl

abbrev rmX3_strideOf : Room := { frames := 0, cells := 0, slots := 0, locals := 0 }
def X3_strideOf (p1 : Nat) (v2 : Int32) (v3 : Int32) (h : AH) : Option (Int32 × AH) :=
    some ((((h.1 p1 3) + (((h.1 p1 4) * v2) / 10)) + ((v3 * v2) / 10)), h)
set_option maxRecDepth 100000 in
theorem c_X3_strideOf (l : Launch) (b : Nat) (ci : Nat) (qc : vw_C) (hB0 : ZC.1[b]? = some (.inr ci)) (hB1 : vwCl[ci]? = some qc) (p1 : Nat) (hJ1 : ZC.1[p1]? = some (.inr 2)) (v2 : Int32) (v3 : Int32) : MC l yX3_strideOf cX3_strideOf 4 (some .int) rmX3_strideOf ZC [.ref b, .ref p1, .int v2, .int v3] rvI (X3_strideOf p1 v2 v3) :=
  MC.of (own := RX3) pn_RX3 rfl (Nat.le_of_ble_eq_true rfl) fun X yd A h _ C =>
    aw_aload_n (pc := 0) C (i := 1) dK_s_70.1 rfl rfl <|
    aw_getI (pc := 1) C dK_s_70.2.1 fl_X3_7 hJ1 rfl <|
    aw_aload_n (pc := 4) C (i := 1) dK_s_70.2.2.1 rfl rfl <|
    aw_getI (pc := 5) C dK_s_70.2.2.2.1 fl_X3_13 hJ1 rfl <|
    aw_iload_n (pc := 8) C (i := 2) dK_s_70.2.2.2.2.1 rfl rfl <|
    aw_imul (pc := 9) C dK_s_70.2.2.2.2.2.1 <|
    aw_bipush (pc := 10) C (v := 10) dK_s_70.2.2.2.2.2.2.1 rfl <|
    aw_idivK (pc := 12) C dK_s_70.2.2.2.2.2.2.2.1 (by decide) <|
    aw_iadd (pc := 13) C dK_s_71.1 <|
    aw_iload_n (pc := 14) C (i := 3) dK_s_71.2.1 rfl rfl <|
    aw_iload_n (pc := 15) C (i := 2) dK_s_71.2.2.1 rfl rfl <|
    aw_imul (pc := 16) C dK_s_71.2.2.2.1 <|
    aw_bipush (pc := 17) C (v := 10) dK_s_71.2.2.2.2.1 rfl <|
    aw_idivK (pc := 19) C dK_s_71.2.2.2.2.2.1 (by decide) <|
    aw_iadd (pc := 20) C dK_s_71.2.2.2.2.2.2.1 <|
    aw_iret (pc := 21) C dK_s_71.2.2.2.2.2.2.2.1 rfl rfl

abbrev rmX0_strideOf : Room := { frames := 1, cells := 0, slots := 0, locals := 23 }
def X0_strideOf (p1 : Nat) (v2 : Int32) (v3 : Int32) (h : AH) : Option (Int32 × AH) :=
    bd (X3_strideOf p1 v2 v3 h) fun r1 h2 =>
    some ((r1 + (rm32 v2 2)), h2)
set_option maxRecDepth 100000 in
theorem c_X0_strideOf (l : Launch) (b : Nat) (ci : Nat) (qc : vw_C) (hB0 : ZC.1[b]? = some (.inr ci)) (hB1 : vwCl[ci]? = some qc) (p1 : Nat) (hJ1 : ZC.1[p1]? = some (.inr 2)) (v2 : Int32) (v3 : Int32) : MC l yX0_strideOf cX0_strideOf 4 (some .int) rmX0_strideOf ZC [.ref b, .ref p1, .int v2, .int v3] rvI (X0_strideOf p1 v2 v3) :=
  MC.of (own := RX0) pn_RX0 rfl (Nat.le_of_ble_eq_true rfl) fun X yd A h _ C =>
    aw_aload_n (pc := 0) C (i := 0) dK_s_9.1 rfl rfl <|
    aw_aload_n (pc := 1) C (i := 1) dK_s_9.2.1 rfl rfl <|
    aw_iload_n (pc := 2) C (i := 2) dK_s_9.2.2.1 rfl rfl <|
    aw_iload_n (pc := 3) C (i := 3) dK_s_9.2.2.2.1 rfl rfl <|
    aw_callF (pc := 4) C (cr_SU (rest := []) (F := (X3_strideOf p1 v2 v3)) C (c_X3_strideOf X.2.1 b _ _ hB0 hB1 p1 hJ1 v2 v3) dK_s_9.2.2.2.2.1 mf_X3_strideOf ml_X0_7 sm_Kind_Kind_strideOf su_X0_X3 im_X3_strideOf (by decide +kernel) hB0 hB1 ⟨(Nat.le_of_ble_eq_true rfl), (Nat.le_of_ble_eq_true rfl)⟩ rfl rfl (Nat.le_of_ble_eq_true rfl)) rfl rfl rfl (Nat.zero_le _) (Nat.zero_le _) fun r1 h2 =>
    aw_iload_n (pc := 7) C (i := 2) dK_s_9.2.2.2.2.2.1 rfl rfl <|
    aw_iconst (pc := 8) C (v := 2) dK_s_9.2.2.2.2.2.2.1 rfl <|
    aw_iremK (pc := 9) C dK_s_9.2.2.2.2.2.2.2.1 (by decide) <|
    aw_iadd (pc := 10) C dK_s_10.1 <|
    aw_iret (pc := 11) C dK_s_10.2.1 rfl rfl

abbrev rmX3_lengthOf : Room := { frames := 0, cells := 0, slots := 0, locals := 0 }
def X3_lengthOf (p1 : Nat) (v2 : Int32) (v3 : Int32) (v4 : Int32) (h : AH) : Option (Int32 × AH) :=
    vl (((((4 * (h.1 p1 6)) + (2 * v4)) + (h.1 p1 2)) - v2) - (2 * v3)) fun x1 =>
    if 0 ≤ x1 then (some (x1, h))
    else (some (0, h))
set_option maxRecDepth 100000 in
theorem c_X3_lengthOf (l : Launch) (b : Nat) (ci : Nat) (qc : vw_C) (hB0 : ZC.1[b]? = some (.inr ci)) (hB1 : vwCl[ci]? = some qc) (p1 : Nat) (hJ1 : ZC.1[p1]? = some (.inr 2)) (v2 : Int32) (v3 : Int32) (v4 : Int32) : MC l yX3_lengthOf cX3_lengthOf 6 (some .int) rmX3_lengthOf ZC [.ref b, .ref p1, .int v2, .int v3, .int v4] rvI (X3_lengthOf p1 v2 v3 v4) :=
  MC.of (own := RX3) pn_RX3 rfl (Nat.le_of_ble_eq_true rfl) fun X yd A h _ C =>
    aw_iconst (pc := 0) C (v := 4) dK_s_72.1 rfl <|
    aw_aload_n (pc := 1) C (i := 1) dK_s_72.2.1 rfl rfl <|
    aw_getI (pc := 2) C dK_s_72.2.2.1 fl_X3_16 hJ1 rfl <|
    aw_imul (pc := 5) C dK_s_72.2.2.2.1 <|
    aw_iconst (pc := 6) C (v := 2) dK_s_72.2.2.2.2.1 rfl <|
    aw_iload (pc := 7) C (i := 4) dK_s_72.2.2.2.2.2.1 rfl <|
    aw_imul (pc := 9) C dK_s_72.2.2.2.2.2.2.1 <|
    aw_iadd (pc := 10) C dK_s_72.2.2.2.2.2.2.2.1 <|
    aw_aload_n (pc := 11) C (i := 1) dK_s_73.1 rfl rfl <|
    aw_getI (pc := 12) C dK_s_73.2.1 fl_X3_19 hJ1 rfl <|
    aw_iadd (pc := 15) C dK_s_73.2.2.1 <|
    aw_iload_n (pc := 16) C (i := 2) dK_s_73.2.2.2.1 rfl rfl <|
    aw_isub (pc := 17) C dK_s_73.2.2.2.2.1 <|
    aw_iconst (pc := 18) C (v := 2) dK_s_73.2.2.2.2.2.1 rfl <|
    aw_iload_n (pc := 19) C (i := 3) dK_s_73.2.2.2.2.2.2.1 rfl rfl <|
    aw_imul (pc := 20) C dK_s_73.2.2.2.2.2.2.2.1 <|
    aw_isub (pc := 21) C dK_s_74.1 <|
    aw_istoreV (pc := 22) C (i := 5) (fun x1 => [(0, .ref b), (1, .ref p1), (2, .int v2), (3, .int v3), (4, .int v4), (5, .int x1)]) dK_s_74.2.1 (by decide) (fun _ => rfl) fun x1 =>
    aw_iload (pc := 24) C (i := 5) dK_s_74.2.2.1 rfl <|
    aw_if_ge (pc := 26) C (tgt := 33) dK_s_74.2.2.2.1 rfl (fun _ =>
    aw_iload (pc := 33) C (i := 5) dK_s_74.2.2.2.2.2.2.1 rfl <|
    aw_iret (pc := 35) C dK_s_74.2.2.2.2.2.2.2.1 rfl rfl) (fun _ =>
    aw_iconst (pc := 29) C (v := 0) dK_s_74.2.2.2.2.1 rfl <|
    aw_goto (pc := 30) C (tgt := 35) dK_s_74.2.2.2.2.2.1 rfl <|
    aw_iret (pc := 35) C dK_s_74.2.2.2.2.2.2.2.1 rfl rfl)

abbrev rmX0_lengthOf : Room := { frames := 1, cells := 0, slots := 0, locals := 25 }
def X0_lengthOf (p1 : Nat) (v2 : Int32) (v3 : Int32) (v4 : Int32) (h : AH) : Option (Int32 × AH) :=
    bd (X3_lengthOf p1 v2 v3 v4 h) fun r1 h2 =>
    some ((r1 + 3), h2)
set_option maxRecDepth 100000 in
theorem c_X0_lengthOf (l : Launch) (b : Nat) (ci : Nat) (qc : vw_C) (hB0 : ZC.1[b]? = some (.inr ci)) (hB1 : vwCl[ci]? = some qc) (p1 : Nat) (hJ1 : ZC.1[p1]? = some (.inr 2)) (v2 : Int32) (v3 : Int32) (v4 : Int32) : MC l yX0_lengthOf cX0_lengthOf 5 (some .int) rmX0_lengthOf ZC [.ref b, .ref p1, .int v2, .int v3, .int v4] rvI (X0_lengthOf p1 v2 v3 v4) :=
  MC.of (own := RX0) pn_RX0 rfl (Nat.le_of_ble_eq_true rfl) fun X yd A h _ C =>
    aw_aload_n (pc := 0) C (i := 0) dK_s_11.1 rfl rfl <|
    aw_aload_n (pc := 1) C (i := 1) dK_s_11.2.1 rfl rfl <|
    aw_iload_n (pc := 2) C (i := 2) dK_s_11.2.2.1 rfl rfl <|
    aw_iload_n (pc := 3) C (i := 3) dK_s_11.2.2.2.1 rfl rfl <|
    aw_iload (pc := 4) C (i := 4) dK_s_11.2.2.2.2.1 rfl <|
    aw_callF (pc := 6) C (cr_SU (rest := []) (F := (X3_lengthOf p1 v2 v3 v4)) C (c_X3_lengthOf X.2.1 b _ _ hB0 hB1 p1 hJ1 v2 v3 v4) dK_s_11.2.2.2.2.2.1 mf_X3_lengthOf ml_X0_11 sm_Kind_Kind_lengthOf su_X0_X3 im_X3_lengthOf (by decide +kernel) hB0 hB1 ⟨(Nat.le_of_ble_eq_true rfl), (Nat.le_of_ble_eq_true rfl)⟩ rfl rfl (Nat.le_of_ble_eq_true rfl)) rfl rfl rfl (Nat.zero_le _) (Nat.zero_le _) fun r1 h2 =>
    aw_iconst (pc := 9) C (v := 3) dK_s_11.2.2.2.2.2.2.1 rfl <|
    aw_iadd (pc := 10) C dK_s_11.2.2.2.2.2.2.2.1 <|
    aw_iret (pc := 11) C dK_s_12.1 rfl rfl

abbrev rmX3_aimOf : Room := { frames := 0, cells := 0, slots := 0, locals := 0 }
def X3_aimOf (p1 : Nat) (h : AH) : Option (Int32 × AH) :=
    some (0, h)
set_option maxRecDepth 100000 in
theorem c_X3_aimOf (l : Launch) (b : Nat) (ci : Nat) (qc : vw_C) (hB0 : ZC.1[b]? = some (.inr ci)) (hB1 : vwCl[ci]? = some qc) (p1 : Nat) (hJ1 : ZC.1[p1]? = some (.inr 2)) : MC l yX3_aimOf cX3_aimOf 2 (some .int) rmX3_aimOf ZC [.ref b, .ref p1] rvI (X3_aimOf p1) :=
  MC.of (own := RX3) pn_RX3 rfl (Nat.le_of_ble_eq_true rfl) fun X yd A h _ C =>
    aw_iconst (pc := 0) C (v := 0) dK_s_69.1 rfl <|
    aw_iret (pc := 1) C dK_s_69.2.1 rfl rfl

abbrev rmX7_aimOf : Room := { frames := 0, cells := 0, slots := 0, locals := 0 }
def X7_aimOf (p1 : Nat) (h : AH) : Option (Int32 × AH) :=
    some (((h.1 p1 2) + 2), h)
set_option maxRecDepth 100000 in
theorem c_X7_aimOf (l : Launch) (b : Nat) (ci : Nat) (qc : vw_C) (hB0 : ZC.1[b]? = some (.inr ci)) (hB1 : vwCl[ci]? = some qc) (p1 : Nat) (hJ1 : ZC.1[p1]? = some (.inr 2)) : MC l yX7_aimOf cX7_aimOf 2 (some .int) rmX7_aimOf ZC [.ref b, .ref p1] rvI (X7_aimOf p1) :=
  MC.of (own := RX7) pn_RX7 rfl (Nat.le_of_ble_eq_true rfl) fun X yd A h _ C =>
    aw_aload_n (pc := 0) C (i := 1) dK_s_165.1 rfl rfl <|
    aw_getI (pc := 1) C dK_s_165.2.1 fl_X7_7 hJ1 rfl <|
    aw_iconst (pc := 4) C (v := 2) dK_s_165.2.2.1 rfl <|
    aw_iadd (pc := 5) C dK_s_165.2.2.2.1 <|
    aw_iret (pc := 6) C dK_s_165.2.2.2.2.1 rfl rfl

abbrev rmX4_aimOf : Room := { frames := 1, cells := 0, slots := 0, locals := 21 }
def X4_aimOf (p1 : Nat) (h : AH) : Option (Int32 × AH) :=
    bd (X7_aimOf p1 h) fun r1 h2 =>
    some ((r1 / 2), h2)
set_option maxRecDepth 100000 in
theorem c_X4_aimOf (l : Launch) (b : Nat) (ci : Nat) (qc : vw_C) (hB0 : ZC.1[b]? = some (.inr ci)) (hB1 : vwCl[ci]? = some qc) (p1 : Nat) (hJ1 : ZC.1[p1]? = some (.inr 2)) : MC l yX4_aimOf cX4_aimOf 2 (some .int) rmX4_aimOf ZC [.ref b, .ref p1] rvI (X4_aimOf p1) :=
  MC.of (own := RX4) pn_RX4 rfl (Nat.le_of_ble_eq_true rfl) fun X yd A h _ C =>
    aw_aload_n (pc := 0) C (i := 0) dK_s_76.1 rfl rfl <|
    aw_aload_n (pc := 1) C (i := 1) dK_s_76.2.1 rfl rfl <|
    aw_callF (pc := 2) C (cr_SU (rest := []) (F := (X7_aimOf p1)) C (c_X7_aimOf X.2.1 b _ _ hB0 hB1 p1 hJ1) dK_s_76.2.2.1 mf_X7_aimOf ml_X4_7 sm_Safe_Safe_aimOf su_X4_X7 im_X7_aimOf (by decide +kernel) hB0 hB1 ⟨(Nat.le_of_ble_eq_true rfl), (Nat.le_of_ble_eq_true rfl)⟩ rfl rfl (Nat.le_of_ble_eq_true rfl)) rfl rfl rfl (Nat.zero_le _) (Nat.zero_le _) fun r1 h2 =>
    aw_iconst (pc := 5) C (v := 2) dK_s_76.2.2.2.1 rfl <|
    aw_idivK (pc := 6) C dK_s_76.2.2.2.2.1 (by decide) <|
    aw_iret (pc := 7) C dK_s_76.2.2.2.2.2.1 rfl rfl

abbrev rmX8_aimOf : Room := { frames := 2, cells := 0, slots := 0, locals := 42 }
def X8_aimOf (p1 : Nat) (h : AH) : Option (Int32 × AH) :=
    bd (X4_aimOf p1 h) fun r1 h2 =>
    some ((r1 + 1), h2)
set_option maxRecDepth 100000 in
theorem c_X8_aimOf (l : Launch) (b : Nat) (ci : Nat) (qc : vw_C) (hB0 : ZC.1[b]? = some (.inr ci)) (hB1 : vwCl[ci]? = some qc) (p1 : Nat) (hJ1 : ZC.1[p1]? = some (.inr 2)) : MC l yX8_aimOf cX8_aimOf 2 (some .int) rmX8_aimOf ZC [.ref b, .ref p1] rvI (X8_aimOf p1) :=
  MC.of (own := RX8) pn_RX8 rfl (Nat.le_of_ble_eq_true rfl) fun X yd A h _ C =>
    aw_aload_n (pc := 0) C (i := 0) dK_s_169.1 rfl rfl <|
    aw_aload_n (pc := 1) C (i := 1) dK_s_169.2.1 rfl rfl <|
    aw_callF (pc := 2) C (cr_SU (rest := []) (F := (X4_aimOf p1)) C (c_X4_aimOf X.2.1 b _ _ hB0 hB1 p1 hJ1) dK_s_169.2.2.1 mf_X4_aimOf ml_X8_7 sm_Looker_Looker_aimOf su_X8_X4 im_X4_aimOf (by decide +kernel) hB0 hB1 ⟨(Nat.le_of_ble_eq_true rfl), (Nat.le_of_ble_eq_true rfl)⟩ rfl rfl (Nat.le_of_ble_eq_true rfl)) rfl rfl rfl (Nat.zero_le _) (Nat.zero_le _) fun r1 h2 =>
    aw_iconst (pc := 5) C (v := 1) dK_s_169.2.2.2.1 rfl <|
    aw_iadd (pc := 6) C dK_s_169.2.2.2.2.1 <|
    aw_iret (pc := 7) C dK_s_169.2.2.2.2.2.1 rfl rfl

abbrev rmX7_lengthOf : Room := { frames := 1, cells := 0, slots := 0, locals := 25 }
def X7_lengthOf (p1 : Nat) (v2 : Int32) (v3 : Int32) (v4 : Int32) (h : AH) : Option (Int32 × AH) :=
    bd (X3_lengthOf p1 v2 v3 v4 h) fun r1 h2 =>
    vl (r1 - 3) fun x3 =>
    if 0 ≤ x3 then (some (x3, h2))
    else (some (0, h2))
set_option maxRecDepth 100000 in
theorem c_X7_lengthOf (l : Launch) (b : Nat) (ci : Nat) (qc : vw_C) (hB0 : ZC.1[b]? = some (.inr ci)) (hB1 : vwCl[ci]? = some qc) (p1 : Nat) (hJ1 : ZC.1[p1]? = some (.inr 2)) (v2 : Int32) (v3 : Int32) (v4 : Int32) : MC l yX7_lengthOf cX7_lengthOf 6 (some .int) rmX7_lengthOf ZC [.ref b, .ref p1, .int v2, .int v3, .int v4] rvI (X7_lengthOf p1 v2 v3 v4) :=
  MC.of (own := RX7) pn_RX7 rfl (Nat.le_of_ble_eq_true rfl) fun X yd A h _ C =>
    aw_aload_n (pc := 0) C (i := 0) dK_s_166.1 rfl rfl <|
    aw_aload_n (pc := 1) C (i := 1) dK_s_166.2.1 rfl rfl <|
    aw_iload_n (pc := 2) C (i := 2) dK_s_166.2.2.1 rfl rfl <|
    aw_iload_n (pc := 3) C (i := 3) dK_s_166.2.2.2.1 rfl rfl <|
    aw_iload (pc := 4) C (i := 4) dK_s_166.2.2.2.2.1 rfl <|
    aw_callF (pc := 6) C (cr_SU (rest := []) (F := (X3_lengthOf p1 v2 v3 v4)) C (c_X3_lengthOf X.2.1 b _ _ hB0 hB1 p1 hJ1 v2 v3 v4) dK_s_166.2.2.2.2.2.1 mf_X3_lengthOf ml_X7_13 sm_Kind_Kind_lengthOf su_X7_X3 im_X3_lengthOf (by decide +kernel) hB0 hB1 ⟨(Nat.le_of_ble_eq_true rfl), (Nat.le_of_ble_eq_true rfl)⟩ rfl rfl (Nat.le_of_ble_eq_true rfl)) rfl rfl rfl (Nat.zero_le _) (Nat.zero_le _) fun r1 h2 =>
    aw_iconst (pc := 9) C (v := 3) dK_s_166.2.2.2.2.2.2.1 rfl <|
    aw_isub (pc := 10) C dK_s_166.2.2.2.2.2.2.2.1 <|
    aw_istoreV (pc := 11) C (i := 5) (fun x3 => [(0, .ref b), (1, .ref p1), (2, .int v2), (3, .int v3), (4, .int v4), (5, .int x3)]) dK_s_167.1 (by decide) (fun _ => rfl) fun x3 =>
    aw_iload (pc := 13) C (i := 5) dK_s_167.2.1 rfl <|
    aw_if_ge (pc := 15) C (tgt := 22) dK_s_167.2.2.1 rfl (fun _ =>
    aw_iload (pc := 22) C (i := 5) dK_s_167.2.2.2.2.2.1 rfl <|
    aw_iret (pc := 24) C dK_s_167.2.2.2.2.2.2.1 rfl rfl) (fun _ =>
    aw_iconst (pc := 18) C (v := 0) dK_s_167.2.2.2.1 rfl <|
    aw_goto (pc := 19) C (tgt := 24) dK_s_167.2.2.2.2.1 rfl <|
    aw_iret (pc := 24) C dK_s_167.2.2.2.2.2.2.1 rfl rfl)

abbrev rmX9_lengthOf : Room := { frames := 2, cells := 0, slots := 0, locals := 49 }
def X9_lengthOf (p1 : Nat) (v2 : Int32) (v3 : Int32) (v4 : Int32) (h : AH) : Option (Int32 × AH) :=
    bd (X0_lengthOf p1 v2 v3 v4 h) fun r1 h2 =>
    vl (r1 + v4) fun x3 =>
    if 0 ≤ x3 then (some (x3, h2))
    else (some (0, h2))
set_option maxRecDepth 100000 in
theorem c_X9_lengthOf (l : Launch) (b : Nat) (ci : Nat) (qc : vw_C) (hB0 : ZC.1[b]? = some (.inr ci)) (hB1 : vwCl[ci]? = some qc) (p1 : Nat) (hJ1 : ZC.1[p1]? = some (.inr 2)) (v2 : Int32) (v3 : Int32) (v4 : Int32) : MC l yX9_lengthOf cX9_lengthOf 6 (some .int) rmX9_lengthOf ZC [.ref b, .ref p1, .int v2, .int v3, .int v4] rvI (X9_lengthOf p1 v2 v3 v4) :=
  MC.of (own := RX9) pn_RX9 rfl (Nat.le_of_ble_eq_true rfl) fun X yd A h _ C =>
    aw_aload_n (pc := 0) C (i := 0) dK_s_177.1 rfl rfl <|
    aw_aload_n (pc := 1) C (i := 1) dK_s_177.2.1 rfl rfl <|
    aw_iload_n (pc := 2) C (i := 2) dK_s_177.2.2.1 rfl rfl <|
    aw_iload_n (pc := 3) C (i := 3) dK_s_177.2.2.2.1 rfl rfl <|
    aw_iload (pc := 4) C (i := 4) dK_s_177.2.2.2.2.1 rfl <|
    aw_callF (pc := 6) C (cr_SU (rest := []) (F := (X0_lengthOf p1 v2 v3 v4)) C (c_X0_lengthOf X.2.1 b _ _ hB0 hB1 p1 hJ1 v2 v3 v4) dK_s_177.2.2.2.2.2.1 mf_X0_lengthOf ml_X9_11 sm_Bold_Bold_lengthOf su_X9_X0 im_X0_lengthOf (by decide +kernel) hB0 hB1 ⟨(Nat.le_of_ble_eq_true rfl), (Nat.le_of_ble_eq_true rfl)⟩ rfl rfl (Nat.le_of_ble_eq_true rfl)) rfl rfl rfl (Nat.zero_le _) (Nat.zero_le _) fun r1 h2 =>
    aw_iload (pc := 9) C (i := 4) dK_s_177.2.2.2.2.2.2.1 rfl <|
    aw_iadd (pc := 11) C dK_s_177.2.2.2.2.2.2.2.1 <|
    aw_istoreV (pc := 12) C (i := 5) (fun x3 => [(0, .ref b), (1, .ref p1), (2, .int v2), (3, .int v3), (4, .int v4), (5, .int x3)]) dK_s_178.1 (by decide) (fun _ => rfl) fun x3 =>
    aw_iload (pc := 14) C (i := 5) dK_s_178.2.1 rfl <|
    aw_if_ge (pc := 16) C (tgt := 23) dK_s_178.2.2.1 rfl (fun _ =>
    aw_iload (pc := 23) C (i := 5) dK_s_178.2.2.2.2.2.1 rfl <|
    aw_iret (pc := 25) C dK_s_178.2.2.2.2.2.2.1 rfl rfl) (fun _ =>
    aw_iconst (pc := 19) C (v := 0) dK_s_178.2.2.2.1 rfl <|
    aw_goto (pc := 20) C (tgt := 25) dK_s_178.2.2.2.2.1 rfl <|
    aw_iret (pc := 25) C dK_s_178.2.2.2.2.2.2.1 rfl rfl)

abbrev rmX8_lengthOf : Room := { frames := 2, cells := 0, slots := 0, locals := 50 }
def X8_lengthOf (p1 : Nat) (v2 : Int32) (v3 : Int32) (v4 : Int32) (h : AH) : Option (Int32 × AH) :=
    bd (X7_lengthOf p1 v2 v3 v4 h) fun r1 h2 =>
    some ((r1 + 1), h2)
set_option maxRecDepth 100000 in
theorem c_X8_lengthOf (l : Launch) (b : Nat) (ci : Nat) (qc : vw_C) (hB0 : ZC.1[b]? = some (.inr ci)) (hB1 : vwCl[ci]? = some qc) (p1 : Nat) (hJ1 : ZC.1[p1]? = some (.inr 2)) (v2 : Int32) (v3 : Int32) (v4 : Int32) : MC l yX8_lengthOf cX8_lengthOf 5 (some .int) rmX8_lengthOf ZC [.ref b, .ref p1, .int v2, .int v3, .int v4] rvI (X8_lengthOf p1 v2 v3 v4) :=
  MC.of (own := RX8) pn_RX8 rfl (Nat.le_of_ble_eq_true rfl) fun X yd A h _ C =>
    aw_aload_n (pc := 0) C (i := 0) dK_s_172.1 rfl rfl <|
    aw_aload_n (pc := 1) C (i := 1) dK_s_172.2.1 rfl rfl <|
    aw_iload_n (pc := 2) C (i := 2) dK_s_172.2.2.1 rfl rfl <|
    aw_iload_n (pc := 3) C (i := 3) dK_s_172.2.2.2.1 rfl rfl <|
    aw_iload (pc := 4) C (i := 4) dK_s_172.2.2.2.2.1 rfl <|
    aw_callF (pc := 6) C (cr_SUP (rest := []) (F := (X7_lengthOf p1 v2 v3 v4)) C (c_X7_lengthOf X.2.1 b _ _ hB0 hB1 p1 hJ1 v2 v3 v4) dK_s_172.2.2.2.2.2.1 mf_X7_lengthOf ml_X8_15 rfl sm_Looker_Safe_lengthOf su_X8_X4 so_X4_X7 im_X7_lengthOf (by decide +kernel) hB0 hB1 ⟨(Nat.le_of_ble_eq_true rfl), (Nat.le_of_ble_eq_true rfl)⟩ rfl rfl (Nat.le_of_ble_eq_true rfl)) rfl rfl rfl (Nat.zero_le _) (Nat.zero_le _) fun r1 h2 =>
    aw_iconst (pc := 9) C (v := 1) dK_s_172.2.2.2.2.2.2.1 rfl <|
    aw_iadd (pc := 10) C dK_s_172.2.2.2.2.2.2.2.1 <|
    aw_iret (pc := 11) C dK_s_173.1 rfl rfl

abbrev rmX9_strideOf : Room := { frames := 2, cells := 0, slots := 0, locals := 46 }
def X9_strideOf (p1 : Nat) (v2 : Int32) (v3 : Int32) (h : AH) : Option (Int32 × AH) :=
    bd (X0_strideOf p1 v2 v3 h) fun r1 h2 =>
    some ((r1 + ((v3 * v2) / 10)), h2)
set_option maxRecDepth 100000 in
theorem c_X9_strideOf (l : Launch) (b : Nat) (ci : Nat) (qc : vw_C) (hB0 : ZC.1[b]? = some (.inr ci)) (hB1 : vwCl[ci]? = some qc) (p1 : Nat) (hJ1 : ZC.1[p1]? = some (.inr 2)) (v2 : Int32) (v3 : Int32) : MC l yX9_strideOf cX9_strideOf 4 (some .int) rmX9_strideOf ZC [.ref b, .ref p1, .int v2, .int v3] rvI (X9_strideOf p1 v2 v3) :=
  MC.of (own := RX9) pn_RX9 rfl (Nat.le_of_ble_eq_true rfl) fun X yd A h _ C =>
    aw_aload_n (pc := 0) C (i := 0) dK_s_175.1 rfl rfl <|
    aw_aload_n (pc := 1) C (i := 1) dK_s_175.2.1 rfl rfl <|
    aw_iload_n (pc := 2) C (i := 2) dK_s_175.2.2.1 rfl rfl <|
    aw_iload_n (pc := 3) C (i := 3) dK_s_175.2.2.2.1 rfl rfl <|
    aw_callF (pc := 4) C (cr_SU (rest := []) (F := (X0_strideOf p1 v2 v3)) C (c_X0_strideOf X.2.1 b _ _ hB0 hB1 p1 hJ1 v2 v3) dK_s_175.2.2.2.2.1 mf_X0_strideOf ml_X9_7 sm_Bold_Bold_strideOf su_X9_X0 im_X0_strideOf (by decide +kernel) hB0 hB1 ⟨(Nat.le_of_ble_eq_true rfl), (Nat.le_of_ble_eq_true rfl)⟩ rfl rfl (Nat.le_of_ble_eq_true rfl)) rfl rfl rfl (Nat.zero_le _) (Nat.zero_le _) fun r1 h2 =>
    aw_iload_n (pc := 7) C (i := 3) dK_s_175.2.2.2.2.2.1 rfl rfl <|
    aw_iload_n (pc := 8) C (i := 2) dK_s_175.2.2.2.2.2.2.1 rfl rfl <|
    aw_imul (pc := 9) C dK_s_175.2.2.2.2.2.2.2.1 <|
    aw_bipush (pc := 10) C (v := 10) dK_s_176.1 rfl <|
    aw_idivK (pc := 12) C dK_s_176.2.1 (by decide) <|
    aw_iadd (pc := 13) C dK_s_176.2.2.1 <|
    aw_iret (pc := 14) C dK_s_176.2.2.2.1 rfl rfl

abbrev rmX8_strideOf : Room := { frames := 1, cells := 0, slots := 0, locals := 23 }
def X8_strideOf (p1 : Nat) (v2 : Int32) (v3 : Int32) (h : AH) : Option (Int32 × AH) :=
    bd (X3_strideOf p1 v2 v3 h) fun r1 h2 =>
    some ((r1 - ((v3 * v2) / 10)), h2)
set_option maxRecDepth 100000 in
theorem c_X8_strideOf (l : Launch) (b : Nat) (ci : Nat) (qc : vw_C) (hB0 : ZC.1[b]? = some (.inr ci)) (hB1 : vwCl[ci]? = some qc) (p1 : Nat) (hJ1 : ZC.1[p1]? = some (.inr 2)) (v2 : Int32) (v3 : Int32) : MC l yX8_strideOf cX8_strideOf 4 (some .int) rmX8_strideOf ZC [.ref b, .ref p1, .int v2, .int v3] rvI (X8_strideOf p1 v2 v3) :=
  MC.of (own := RX8) pn_RX8 rfl (Nat.le_of_ble_eq_true rfl) fun X yd A h _ C =>
    aw_aload_n (pc := 0) C (i := 0) dK_s_170.1 rfl rfl <|
    aw_aload_n (pc := 1) C (i := 1) dK_s_170.2.1 rfl rfl <|
    aw_iload_n (pc := 2) C (i := 2) dK_s_170.2.2.1 rfl rfl <|
    aw_iload_n (pc := 3) C (i := 3) dK_s_170.2.2.2.1 rfl rfl <|
    aw_callF (pc := 4) C (cr_SUP (rest := []) (F := (X3_strideOf p1 v2 v3)) C (c_X3_strideOf X.2.1 b _ _ hB0 hB1 p1 hJ1 v2 v3) dK_s_170.2.2.2.2.1 mf_X3_strideOf ml_X8_11 rfl sm_Looker_Kind_strideOf su_X8_X4 so_X4_X3 im_X3_strideOf (by decide +kernel) hB0 hB1 ⟨(Nat.le_of_ble_eq_true rfl), (Nat.le_of_ble_eq_true rfl)⟩ rfl rfl (Nat.le_of_ble_eq_true rfl)) rfl rfl rfl (Nat.zero_le _) (Nat.zero_le _) fun r1 h2 =>
    aw_iload_n (pc := 7) C (i := 3) dK_s_170.2.2.2.2.2.1 rfl rfl <|
    aw_iload_n (pc := 8) C (i := 2) dK_s_170.2.2.2.2.2.2.1 rfl rfl <|
    aw_imul (pc := 9) C dK_s_170.2.2.2.2.2.2.2.1 <|
    aw_bipush (pc := 10) C (v := 10) dK_s_171.1 rfl <|
    aw_idivK (pc := 12) C dK_s_171.2.1 (by decide) <|
    aw_isub (pc := 13) C dK_s_171.2.2.1 <|
    aw_iret (pc := 14) C dK_s_171.2.2.2.1 rfl rfl
end
section
/-! DISPATCH, by program: the six kinds of a way -/
theorem sq_aimOf_0 : Cond.selects RX3 yX3_aimOf yX3_aimOf ∈ TB := (ts_2_12.2.2.2.2.2.2.2.1 rfl)
theorem sq_aimOf_s : Cond.sameMethod yX3_aimOf.cls RX3 yX3_aimOf.name yX3_aimOf.desc ∈ TB := (ts_2_12.2.2.2.2.2.2.2.2.1 rfl)
set_option maxRecDepth 100000 in
theorem kdR_aimOf_0 {X : MCx} {cc : ByteArray} {own : String} {nL : Nat} {ret : Option FieldType} {rm : Room} {yd : Dyn} {A : Nat → Prop} {pc ix : Nat} (C : OK X cc own nL ret rm A) (d : decode cc pc = .ok (.invokevirtual ix, 3)) (hl : Cond.methodLink own ix yX3_aimOf ∈ TB) (j one : Nat) (hone : ZC.1[one]? = some (.inr 2)) (rest : List Value) (hR : RmOk rmX3_aimOf rm 2) (hW : ((rest.map (cv yd.1)).map fun v => v.category).sum ≤ 8) (e : j % 6 = 0) : CR X nL ZC yd A 0 0 pc (.ref one :: .ref (36 + j % 6) :: rest) rest rvI (X3_aimOf one ) :=
  cr_U (q := (RX3, TX3, 0)) (x := yX3_aimOf) (y := yX3_aimOf) (owner := RX3) (b0 := cX3_aimOf) (m0 := 2) (r0 := some .int) (As := [.ref one]) (b := 36 + j % 6) C (c_X3_aimOf X.2.1 (36 + j % 6) 3 (RX3, TX3, 0) (sC_k0 e) rfl one hone ) d mf_X3_aimOf hl sq_aimOf_s im_X3_aimOf mf_X3_aimOf.2.1 (by decide +kernel) (by decide +kernel) sq_aimOf_0 im_X3_aimOf (sC_k0 e) rfl hR rfl rfl hW
theorem sq_aimOf_1 : Cond.selects RX7 yX3_aimOf yX7_aimOf ∈ TB := (ts_2_13.2.2.1 rfl)
set_option maxRecDepth 100000 in
theorem kdR_aimOf_1 {X : MCx} {cc : ByteArray} {own : String} {nL : Nat} {ret : Option FieldType} {rm : Room} {yd : Dyn} {A : Nat → Prop} {pc ix : Nat} (C : OK X cc own nL ret rm A) (d : decode cc pc = .ok (.invokevirtual ix, 3)) (hl : Cond.methodLink own ix yX3_aimOf ∈ TB) (j one : Nat) (hone : ZC.1[one]? = some (.inr 2)) (rest : List Value) (hR : RmOk rmX7_aimOf rm 2) (hW : ((rest.map (cv yd.1)).map fun v => v.category).sum ≤ 8) (e : j % 6 = 1) : CR X nL ZC yd A 0 0 pc (.ref one :: .ref (36 + j % 6) :: rest) rest rvI (X7_aimOf one ) :=
  cr_U (q := (RX7, TX7, 0)) (x := yX3_aimOf) (y := yX7_aimOf) (owner := RX3) (b0 := cX3_aimOf) (m0 := 2) (r0 := some .int) (As := [.ref one]) (b := 36 + j % 6) C (c_X7_aimOf X.2.1 (36 + j % 6) 7 (RX7, TX7, 0) (sC_k1 e) rfl one hone ) d mf_X7_aimOf hl sq_aimOf_s im_X3_aimOf mf_X3_aimOf.2.1 (by decide +kernel) (by decide +kernel) sq_aimOf_1 im_X7_aimOf (sC_k1 e) rfl hR rfl rfl hW
theorem sq_aimOf_2 : Cond.selects RX0 yX3_aimOf yX0_aimOf ∈ TB := (ts_2_12.2.2.2.2.2.2.2.2.2.1 rfl)
set_option maxRecDepth 100000 in
theorem kdR_aimOf_2 {X : MCx} {cc : ByteArray} {own : String} {nL : Nat} {ret : Option FieldType} {rm : Room} {yd : Dyn} {A : Nat → Prop} {pc ix : Nat} (C : OK X cc own nL ret rm A) (d : decode cc pc = .ok (.invokevirtual ix, 3)) (hl : Cond.methodLink own ix yX3_aimOf ∈ TB) (j one : Nat) (hone : ZC.1[one]? = some (.inr 2)) (rest : List Value) (hR : RmOk rmX0_aimOf rm 2) (hW : ((rest.map (cv yd.1)).map fun v => v.category).sum ≤ 8) (e : j % 6 = 2) : CR X nL ZC yd A 0 0 pc (.ref one :: .ref (36 + j % 6) :: rest) rest rvI (X0_aimOf one ) :=
  cr_U (q := (RX0, TX0, 0)) (x := yX3_aimOf) (y := yX0_aimOf) (owner := RX3) (b0 := cX3_aimOf) (m0 := 2) (r0 := some .int) (As := [.ref one]) (b := 36 + j % 6) C (c_X0_aimOf X.2.1 (36 + j % 6) 0 (RX0, TX0, 0) (sC_k2 e) rfl one hone ) d mf_X0_aimOf hl sq_aimOf_s im_X3_aimOf mf_X3_aimOf.2.1 (by decide +kernel) (by decide +kernel) sq_aimOf_2 im_X0_aimOf (sC_k2 e) rfl hR rfl rfl hW
theorem sq_aimOf_3 : Cond.selects RX4 yX3_aimOf yX4_aimOf ∈ TB := (ts_2_12.2.2.2.2.2.2.2.2.2.2.2.2.1 rfl)
set_option maxRecDepth 100000 in
theorem kdR_aimOf_3 {X : MCx} {cc : ByteArray} {own : String} {nL : Nat} {ret : Option FieldType} {rm : Room} {yd : Dyn} {A : Nat → Prop} {pc ix : Nat} (C : OK X cc own nL ret rm A) (d : decode cc pc = .ok (.invokevirtual ix, 3)) (hl : Cond.methodLink own ix yX3_aimOf ∈ TB) (j one : Nat) (hone : ZC.1[one]? = some (.inr 2)) (rest : List Value) (hR : RmOk rmX4_aimOf rm 2) (hW : ((rest.map (cv yd.1)).map fun v => v.category).sum ≤ 8) (e : j % 6 = 3) : CR X nL ZC yd A 0 0 pc (.ref one :: .ref (36 + j % 6) :: rest) rest rvI (X4_aimOf one ) :=
  cr_U (q := (RX4, TX4, 0)) (x := yX3_aimOf) (y := yX4_aimOf) (owner := RX3) (b0 := cX3_aimOf) (m0 := 2) (r0 := some .int) (As := [.ref one]) (b := 36 + j % 6) C (c_X4_aimOf X.2.1 (36 + j % 6) 4 (RX4, TX4, 0) (sC_k3 e) rfl one hone ) d mf_X4_aimOf hl sq_aimOf_s im_X3_aimOf mf_X3_aimOf.2.1 (by decide +kernel) (by decide +kernel) sq_aimOf_3 im_X4_aimOf (sC_k3 e) rfl hR rfl rfl hW
theorem sq_aimOf_4 : Cond.selects RX9 yX3_aimOf yX0_aimOf ∈ TB := (ts_2_13.2.2.2.2.2.2.2.1 rfl)
set_option maxRecDepth 100000 in
theorem kdR_aimOf_4 {X : MCx} {cc : ByteArray} {own : String} {nL : Nat} {ret : Option FieldType} {rm : Room} {yd : Dyn} {A : Nat → Prop} {pc ix : Nat} (C : OK X cc own nL ret rm A) (d : decode cc pc = .ok (.invokevirtual ix, 3)) (hl : Cond.methodLink own ix yX3_aimOf ∈ TB) (j one : Nat) (hone : ZC.1[one]? = some (.inr 2)) (rest : List Value) (hR : RmOk rmX0_aimOf rm 2) (hW : ((rest.map (cv yd.1)).map fun v => v.category).sum ≤ 8) (e : j % 6 = 4) : CR X nL ZC yd A 0 0 pc (.ref one :: .ref (36 + j % 6) :: rest) rest rvI (X0_aimOf one ) :=
  cr_U (q := (RX9, TX9, 0)) (x := yX3_aimOf) (y := yX0_aimOf) (owner := RX3) (b0 := cX3_aimOf) (m0 := 2) (r0 := some .int) (As := [.ref one]) (b := 36 + j % 6) C (c_X0_aimOf X.2.1 (36 + j % 6) 9 (RX9, TX9, 0) (sC_k4 e) rfl one hone ) d mf_X0_aimOf hl sq_aimOf_s im_X3_aimOf mf_X3_aimOf.2.1 (by decide +kernel) (by decide +kernel) sq_aimOf_4 im_X0_aimOf (sC_k4 e) rfl hR rfl rfl hW
theorem sq_aimOf_5 : Cond.selects RX8 yX3_aimOf yX8_aimOf ∈ TB := (ts_2_13.2.2.2.1 rfl)
set_option maxRecDepth 100000 in
theorem kdR_aimOf_5 {X : MCx} {cc : ByteArray} {own : String} {nL : Nat} {ret : Option FieldType} {rm : Room} {yd : Dyn} {A : Nat → Prop} {pc ix : Nat} (C : OK X cc own nL ret rm A) (d : decode cc pc = .ok (.invokevirtual ix, 3)) (hl : Cond.methodLink own ix yX3_aimOf ∈ TB) (j one : Nat) (hone : ZC.1[one]? = some (.inr 2)) (rest : List Value) (hR : RmOk rmX8_aimOf rm 2) (hW : ((rest.map (cv yd.1)).map fun v => v.category).sum ≤ 8) (e : j % 6 = 5) : CR X nL ZC yd A 0 0 pc (.ref one :: .ref (36 + j % 6) :: rest) rest rvI (X8_aimOf one ) :=
  cr_U (q := (RX8, TX8, 0)) (x := yX3_aimOf) (y := yX8_aimOf) (owner := RX3) (b0 := cX3_aimOf) (m0 := 2) (r0 := some .int) (As := [.ref one]) (b := 36 + j % 6) C (c_X8_aimOf X.2.1 (36 + j % 6) 8 (RX8, TX8, 0) (sC_k5 e) rfl one hone ) d mf_X8_aimOf hl sq_aimOf_s im_X3_aimOf mf_X3_aimOf.2.1 (by decide +kernel) (by decide +kernel) sq_aimOf_5 im_X8_aimOf (sC_k5 e) rfl hR rfl rfl hW
theorem kdA_aimOf {X : MCx} {cc : ByteArray} {own : String} {nL : Nat} {ret : Option FieldType} {rm : Room} {yd : Dyn} {A : Nat → Prop} {pc ix : Nat} (C : OK X cc own nL ret rm A) (d : decode cc pc = .ok (.invokevirtual ix, 3)) (hl : Cond.methodLink own ix yX3_aimOf ∈ TB) (j one : Nat) (hone : ZC.1[one]? = some (.inr 2)) (rest : List Value) (hR : RmOk rmX3_aimOf rm 2 ∧ RmOk rmX7_aimOf rm 2 ∧ RmOk rmX0_aimOf rm 2 ∧ RmOk rmX4_aimOf rm 2 ∧ RmOk rmX0_aimOf rm 2 ∧ RmOk rmX8_aimOf rm 2) (hW : ((rest.map (cv yd.1)).map fun v => v.category).sum ≤ 8) : CR X nL ZC yd A 0 0 pc (.ref one :: .ref (36 + j % 6) :: rest) rest rvI (fun h => kd j (X3_aimOf one  h) (X7_aimOf one  h) (X0_aimOf one  h) (X4_aimOf one  h) (X0_aimOf one  h) (X8_aimOf one  h)) :=
  cr_kd j (kdR_aimOf_0 C d hl j one hone  rest hR.1 hW) (kdR_aimOf_1 C d hl j one hone  rest hR.2.1 hW) (kdR_aimOf_2 C d hl j one hone  rest hR.2.2.1 hW) (kdR_aimOf_3 C d hl j one hone  rest hR.2.2.2.1 hW) (kdR_aimOf_4 C d hl j one hone  rest hR.2.2.2.2.1 hW) (kdR_aimOf_5 C d hl j one hone  rest hR.2.2.2.2.2 hW)
theorem sq_strideOf_0 : Cond.selects RX3 yX3_strideOf yX3_strideOf ∈ TB := (tk_3.2.2.2.2.2.2.2.2.2.2.2.2.2.1 rfl)
theorem sq_strideOf_s : Cond.sameMethod yX3_strideOf.cls RX3 yX3_strideOf.name yX3_strideOf.desc ∈ TB := (tk_3.2.2.2.2.2.2.2.2.2.2.2.2.2.2.1 rfl)
set_option maxRecDepth 100000 in
theorem kdR_strideOf_0 {X : MCx} {cc : ByteArray} {own : String} {nL : Nat} {ret : Option FieldType} {rm : Room} {yd : Dyn} {A : Nat → Prop} {pc ix : Nat} (C : OK X cc own nL ret rm A) (d : decode cc pc = .ok (.invokevirtual ix, 3)) (hl : Cond.methodLink own ix yX3_strideOf ∈ TB) (j one : Nat) (hone : ZC.1[one]? = some (.inr 2)) (a0 a1 : Int32) (rest : List Value) (hR : RmOk rmX3_strideOf rm 4) (hW : ((rest.map (cv yd.1)).map fun v => v.category).sum ≤ 8) (e : j % 6 = 0) : CR X nL ZC yd A 0 0 pc (.int a1 :: .int a0 :: .ref one :: .ref (36 + j % 6) :: rest) rest rvI (X3_strideOf one a0 a1) :=
  cr_U (q := (RX3, TX3, 0)) (x := yX3_strideOf) (y := yX3_strideOf) (owner := RX3) (b0 := cX3_strideOf) (m0 := 4) (r0 := some .int) (As := [.ref one, .int a0, .int a1]) (b := 36 + j % 6) C (c_X3_strideOf X.2.1 (36 + j % 6) 3 (RX3, TX3, 0) (sC_k0 e) rfl one hone a0 a1) d mf_X3_strideOf hl sq_strideOf_s im_X3_strideOf mf_X3_strideOf.2.1 (by decide +kernel) (by decide +kernel) sq_strideOf_0 im_X3_strideOf (sC_k0 e) rfl hR rfl rfl hW
theorem sq_strideOf_1 : Cond.selects RX7 yX3_strideOf yX3_strideOf ∈ TB := (ts_3_1.2.2.2.2.1 rfl)
set_option maxRecDepth 100000 in
theorem kdR_strideOf_1 {X : MCx} {cc : ByteArray} {own : String} {nL : Nat} {ret : Option FieldType} {rm : Room} {yd : Dyn} {A : Nat → Prop} {pc ix : Nat} (C : OK X cc own nL ret rm A) (d : decode cc pc = .ok (.invokevirtual ix, 3)) (hl : Cond.methodLink own ix yX3_strideOf ∈ TB) (j one : Nat) (hone : ZC.1[one]? = some (.inr 2)) (a0 a1 : Int32) (rest : List Value) (hR : RmOk rmX3_strideOf rm 4) (hW : ((rest.map (cv yd.1)).map fun v => v.category).sum ≤ 8) (e : j % 6 = 1) : CR X nL ZC yd A 0 0 pc (.int a1 :: .int a0 :: .ref one :: .ref (36 + j % 6) :: rest) rest rvI (X3_strideOf one a0 a1) :=
  cr_U (q := (RX7, TX7, 0)) (x := yX3_strideOf) (y := yX3_strideOf) (owner := RX3) (b0 := cX3_strideOf) (m0 := 4) (r0 := some .int) (As := [.ref one, .int a0, .int a1]) (b := 36 + j % 6) C (c_X3_strideOf X.2.1 (36 + j % 6) 7 (RX7, TX7, 0) (sC_k1 e) rfl one hone a0 a1) d mf_X3_strideOf hl sq_strideOf_s im_X3_strideOf mf_X3_strideOf.2.1 (by decide +kernel) (by decide +kernel) sq_strideOf_1 im_X3_strideOf (sC_k1 e) rfl hR rfl rfl hW
theorem sq_strideOf_2 : Cond.selects RX0 yX3_strideOf yX0_strideOf ∈ TB := (tk_3.2.2.2.2.2.2.2.2.2.2.2.2.2.2.2.1 rfl)
set_option maxRecDepth 100000 in
theorem kdR_strideOf_2 {X : MCx} {cc : ByteArray} {own : String} {nL : Nat} {ret : Option FieldType} {rm : Room} {yd : Dyn} {A : Nat → Prop} {pc ix : Nat} (C : OK X cc own nL ret rm A) (d : decode cc pc = .ok (.invokevirtual ix, 3)) (hl : Cond.methodLink own ix yX3_strideOf ∈ TB) (j one : Nat) (hone : ZC.1[one]? = some (.inr 2)) (a0 a1 : Int32) (rest : List Value) (hR : RmOk rmX0_strideOf rm 4) (hW : ((rest.map (cv yd.1)).map fun v => v.category).sum ≤ 8) (e : j % 6 = 2) : CR X nL ZC yd A 0 0 pc (.int a1 :: .int a0 :: .ref one :: .ref (36 + j % 6) :: rest) rest rvI (X0_strideOf one a0 a1) :=
  cr_U (q := (RX0, TX0, 0)) (x := yX3_strideOf) (y := yX0_strideOf) (owner := RX3) (b0 := cX3_strideOf) (m0 := 4) (r0 := some .int) (As := [.ref one, .int a0, .int a1]) (b := 36 + j % 6) C (c_X0_strideOf X.2.1 (36 + j % 6) 0 (RX0, TX0, 0) (sC_k2 e) rfl one hone a0 a1) d mf_X0_strideOf hl sq_strideOf_s im_X3_strideOf mf_X3_strideOf.2.1 (by decide +kernel) (by decide +kernel) sq_strideOf_2 im_X0_strideOf (sC_k2 e) rfl hR rfl rfl hW
theorem sq_strideOf_3 : Cond.selects RX4 yX3_strideOf yX3_strideOf ∈ TB := (ts_3_1.2.2.2.1 rfl)
set_option maxRecDepth 100000 in
theorem kdR_strideOf_3 {X : MCx} {cc : ByteArray} {own : String} {nL : Nat} {ret : Option FieldType} {rm : Room} {yd : Dyn} {A : Nat → Prop} {pc ix : Nat} (C : OK X cc own nL ret rm A) (d : decode cc pc = .ok (.invokevirtual ix, 3)) (hl : Cond.methodLink own ix yX3_strideOf ∈ TB) (j one : Nat) (hone : ZC.1[one]? = some (.inr 2)) (a0 a1 : Int32) (rest : List Value) (hR : RmOk rmX3_strideOf rm 4) (hW : ((rest.map (cv yd.1)).map fun v => v.category).sum ≤ 8) (e : j % 6 = 3) : CR X nL ZC yd A 0 0 pc (.int a1 :: .int a0 :: .ref one :: .ref (36 + j % 6) :: rest) rest rvI (X3_strideOf one a0 a1) :=
  cr_U (q := (RX4, TX4, 0)) (x := yX3_strideOf) (y := yX3_strideOf) (owner := RX3) (b0 := cX3_strideOf) (m0 := 4) (r0 := some .int) (As := [.ref one, .int a0, .int a1]) (b := 36 + j % 6) C (c_X3_strideOf X.2.1 (36 + j % 6) 4 (RX4, TX4, 0) (sC_k3 e) rfl one hone a0 a1) d mf_X3_strideOf hl sq_strideOf_s im_X3_strideOf mf_X3_strideOf.2.1 (by decide +kernel) (by decide +kernel) sq_strideOf_3 im_X3_strideOf (sC_k3 e) rfl hR rfl rfl hW
theorem sq_strideOf_4 : Cond.selects RX9 yX3_strideOf yX9_strideOf ∈ TB := (ts_3_1.2.2.2.2.2.2.2.2.2.2.2.1 rfl)
set_option maxRecDepth 100000 in
theorem kdR_strideOf_4 {X : MCx} {cc : ByteArray} {own : String} {nL : Nat} {ret : Option FieldType} {rm : Room} {yd : Dyn} {A : Nat → Prop} {pc ix : Nat} (C : OK X cc own nL ret rm A) (d : decode cc pc = .ok (.invokevirtual ix, 3)) (hl : Cond.methodLink own ix yX3_strideOf ∈ TB) (j one : Nat) (hone : ZC.1[one]? = some (.inr 2)) (a0 a1 : Int32) (rest : List Value) (hR : RmOk rmX9_strideOf rm 4) (hW : ((rest.map (cv yd.1)).map fun v => v.category).sum ≤ 8) (e : j % 6 = 4) : CR X nL ZC yd A 0 0 pc (.int a1 :: .int a0 :: .ref one :: .ref (36 + j % 6) :: rest) rest rvI (X9_strideOf one a0 a1) :=
  cr_U (q := (RX9, TX9, 0)) (x := yX3_strideOf) (y := yX9_strideOf) (owner := RX3) (b0 := cX3_strideOf) (m0 := 4) (r0 := some .int) (As := [.ref one, .int a0, .int a1]) (b := 36 + j % 6) C (c_X9_strideOf X.2.1 (36 + j % 6) 9 (RX9, TX9, 0) (sC_k4 e) rfl one hone a0 a1) d mf_X9_strideOf hl sq_strideOf_s im_X3_strideOf mf_X3_strideOf.2.1 (by decide +kernel) (by decide +kernel) sq_strideOf_4 im_X9_strideOf (sC_k4 e) rfl hR rfl rfl hW
theorem sq_strideOf_5 : Cond.selects RX8 yX3_strideOf yX8_strideOf ∈ TB := (ts_3_1.2.2.2.2.2.1 rfl)
set_option maxRecDepth 100000 in
theorem kdR_strideOf_5 {X : MCx} {cc : ByteArray} {own : String} {nL : Nat} {ret : Option FieldType} {rm : Room} {yd : Dyn} {A : Nat → Prop} {pc ix : Nat} (C : OK X cc own nL ret rm A) (d : decode cc pc = .ok (.invokevirtual ix, 3)) (hl : Cond.methodLink own ix yX3_strideOf ∈ TB) (j one : Nat) (hone : ZC.1[one]? = some (.inr 2)) (a0 a1 : Int32) (rest : List Value) (hR : RmOk rmX8_strideOf rm 4) (hW : ((rest.map (cv yd.1)).map fun v => v.category).sum ≤ 8) (e : j % 6 = 5) : CR X nL ZC yd A 0 0 pc (.int a1 :: .int a0 :: .ref one :: .ref (36 + j % 6) :: rest) rest rvI (X8_strideOf one a0 a1) :=
  cr_U (q := (RX8, TX8, 0)) (x := yX3_strideOf) (y := yX8_strideOf) (owner := RX3) (b0 := cX3_strideOf) (m0 := 4) (r0 := some .int) (As := [.ref one, .int a0, .int a1]) (b := 36 + j % 6) C (c_X8_strideOf X.2.1 (36 + j % 6) 8 (RX8, TX8, 0) (sC_k5 e) rfl one hone a0 a1) d mf_X8_strideOf hl sq_strideOf_s im_X3_strideOf mf_X3_strideOf.2.1 (by decide +kernel) (by decide +kernel) sq_strideOf_5 im_X8_strideOf (sC_k5 e) rfl hR rfl rfl hW
theorem kdA_strideOf {X : MCx} {cc : ByteArray} {own : String} {nL : Nat} {ret : Option FieldType} {rm : Room} {yd : Dyn} {A : Nat → Prop} {pc ix : Nat} (C : OK X cc own nL ret rm A) (d : decode cc pc = .ok (.invokevirtual ix, 3)) (hl : Cond.methodLink own ix yX3_strideOf ∈ TB) (j one : Nat) (hone : ZC.1[one]? = some (.inr 2)) (a0 a1 : Int32) (rest : List Value) (hR : RmOk rmX3_strideOf rm 4 ∧ RmOk rmX3_strideOf rm 4 ∧ RmOk rmX0_strideOf rm 4 ∧ RmOk rmX3_strideOf rm 4 ∧ RmOk rmX9_strideOf rm 4 ∧ RmOk rmX8_strideOf rm 4) (hW : ((rest.map (cv yd.1)).map fun v => v.category).sum ≤ 8) : CR X nL ZC yd A 0 0 pc (.int a1 :: .int a0 :: .ref one :: .ref (36 + j % 6) :: rest) rest rvI (fun h => kd j (X3_strideOf one a0 a1 h) (X3_strideOf one a0 a1 h) (X0_strideOf one a0 a1 h) (X3_strideOf one a0 a1 h) (X9_strideOf one a0 a1 h) (X8_strideOf one a0 a1 h)) :=
  cr_kd j (kdR_strideOf_0 C d hl j one hone a0 a1 rest hR.1 hW) (kdR_strideOf_1 C d hl j one hone a0 a1 rest hR.2.1 hW) (kdR_strideOf_2 C d hl j one hone a0 a1 rest hR.2.2.1 hW) (kdR_strideOf_3 C d hl j one hone a0 a1 rest hR.2.2.2.1 hW) (kdR_strideOf_4 C d hl j one hone a0 a1 rest hR.2.2.2.2.1 hW) (kdR_strideOf_5 C d hl j one hone a0 a1 rest hR.2.2.2.2.2 hW)
theorem sq_lengthOf_0 : Cond.selects RX3 yX3_lengthOf yX3_lengthOf ∈ TB := (ts_2_9.2.2.2.2.2.2.2.2.2.2.2.2.2.1 rfl)
theorem sq_lengthOf_s : Cond.sameMethod yX3_lengthOf.cls RX3 yX3_lengthOf.name yX3_lengthOf.desc ∈ TB := (ts_2_9.2.2.2.2.2.2.2.2.2.2.2.2.2.2.1 rfl)
set_option maxRecDepth 100000 in
theorem kdR_lengthOf_0 {X : MCx} {cc : ByteArray} {own : String} {nL : Nat} {ret : Option FieldType} {rm : Room} {yd : Dyn} {A : Nat → Prop} {pc ix : Nat} (C : OK X cc own nL ret rm A) (d : decode cc pc = .ok (.invokevirtual ix, 3)) (hl : Cond.methodLink own ix yX3_lengthOf ∈ TB) (j one : Nat) (hone : ZC.1[one]? = some (.inr 2)) (a0 a1 a2 : Int32) (rest : List Value) (hR : RmOk rmX3_lengthOf rm 6) (hW : ((rest.map (cv yd.1)).map fun v => v.category).sum ≤ 8) (e : j % 6 = 0) : CR X nL ZC yd A 0 0 pc (.int a2 :: .int a1 :: .int a0 :: .ref one :: .ref (36 + j % 6) :: rest) rest rvI (X3_lengthOf one a0 a1 a2) :=
  cr_U (q := (RX3, TX3, 0)) (x := yX3_lengthOf) (y := yX3_lengthOf) (owner := RX3) (b0 := cX3_lengthOf) (m0 := 6) (r0 := some .int) (As := [.ref one, .int a0, .int a1, .int a2]) (b := 36 + j % 6) C (c_X3_lengthOf X.2.1 (36 + j % 6) 3 (RX3, TX3, 0) (sC_k0 e) rfl one hone a0 a1 a2) d mf_X3_lengthOf hl sq_lengthOf_s im_X3_lengthOf mf_X3_lengthOf.2.1 (by decide +kernel) (by decide +kernel) sq_lengthOf_0 im_X3_lengthOf (sC_k0 e) rfl hR rfl rfl hW
theorem sq_lengthOf_1 : Cond.selects RX7 yX3_lengthOf yX7_lengthOf ∈ TB := (ts_2_10.2.2.2.2.2.2.2.1 rfl)
set_option maxRecDepth 100000 in
theorem kdR_lengthOf_1 {X : MCx} {cc : ByteArray} {own : String} {nL : Nat} {ret : Option FieldType} {rm : Room} {yd : Dyn} {A : Nat → Prop} {pc ix : Nat} (C : OK X cc own nL ret rm A) (d : decode cc pc = .ok (.invokevirtual ix, 3)) (hl : Cond.methodLink own ix yX3_lengthOf ∈ TB) (j one : Nat) (hone : ZC.1[one]? = some (.inr 2)) (a0 a1 a2 : Int32) (rest : List Value) (hR : RmOk rmX7_lengthOf rm 6) (hW : ((rest.map (cv yd.1)).map fun v => v.category).sum ≤ 8) (e : j % 6 = 1) : CR X nL ZC yd A 0 0 pc (.int a2 :: .int a1 :: .int a0 :: .ref one :: .ref (36 + j % 6) :: rest) rest rvI (X7_lengthOf one a0 a1 a2) :=
  cr_U (q := (RX7, TX7, 0)) (x := yX3_lengthOf) (y := yX7_lengthOf) (owner := RX3) (b0 := cX3_lengthOf) (m0 := 6) (r0 := some .int) (As := [.ref one, .int a0, .int a1, .int a2]) (b := 36 + j % 6) C (c_X7_lengthOf X.2.1 (36 + j % 6) 7 (RX7, TX7, 0) (sC_k1 e) rfl one hone a0 a1 a2) d mf_X7_lengthOf hl sq_lengthOf_s im_X3_lengthOf mf_X3_lengthOf.2.1 (by decide +kernel) (by decide +kernel) sq_lengthOf_1 im_X7_lengthOf (sC_k1 e) rfl hR rfl rfl hW
theorem sq_lengthOf_2 : Cond.selects RX0 yX3_lengthOf yX0_lengthOf ∈ TB := (ts_2_9.2.2.2.2.2.2.2.2.2.2.2.2.2.2.2.1 rfl)
set_option maxRecDepth 100000 in
theorem kdR_lengthOf_2 {X : MCx} {cc : ByteArray} {own : String} {nL : Nat} {ret : Option FieldType} {rm : Room} {yd : Dyn} {A : Nat → Prop} {pc ix : Nat} (C : OK X cc own nL ret rm A) (d : decode cc pc = .ok (.invokevirtual ix, 3)) (hl : Cond.methodLink own ix yX3_lengthOf ∈ TB) (j one : Nat) (hone : ZC.1[one]? = some (.inr 2)) (a0 a1 a2 : Int32) (rest : List Value) (hR : RmOk rmX0_lengthOf rm 5) (hW : ((rest.map (cv yd.1)).map fun v => v.category).sum ≤ 8) (e : j % 6 = 2) : CR X nL ZC yd A 0 0 pc (.int a2 :: .int a1 :: .int a0 :: .ref one :: .ref (36 + j % 6) :: rest) rest rvI (X0_lengthOf one a0 a1 a2) :=
  cr_U (q := (RX0, TX0, 0)) (x := yX3_lengthOf) (y := yX0_lengthOf) (owner := RX3) (b0 := cX3_lengthOf) (m0 := 6) (r0 := some .int) (As := [.ref one, .int a0, .int a1, .int a2]) (b := 36 + j % 6) C (c_X0_lengthOf X.2.1 (36 + j % 6) 0 (RX0, TX0, 0) (sC_k2 e) rfl one hone a0 a1 a2) d mf_X0_lengthOf hl sq_lengthOf_s im_X3_lengthOf mf_X3_lengthOf.2.1 (by decide +kernel) (by decide +kernel) sq_lengthOf_2 im_X0_lengthOf (sC_k2 e) rfl hR rfl rfl hW
theorem sq_lengthOf_3 : Cond.selects RX4 yX3_lengthOf yX7_lengthOf ∈ TB := (ts_2_10.2.2.2.1 rfl)
set_option maxRecDepth 100000 in
theorem kdR_lengthOf_3 {X : MCx} {cc : ByteArray} {own : String} {nL : Nat} {ret : Option FieldType} {rm : Room} {yd : Dyn} {A : Nat → Prop} {pc ix : Nat} (C : OK X cc own nL ret rm A) (d : decode cc pc = .ok (.invokevirtual ix, 3)) (hl : Cond.methodLink own ix yX3_lengthOf ∈ TB) (j one : Nat) (hone : ZC.1[one]? = some (.inr 2)) (a0 a1 a2 : Int32) (rest : List Value) (hR : RmOk rmX7_lengthOf rm 6) (hW : ((rest.map (cv yd.1)).map fun v => v.category).sum ≤ 8) (e : j % 6 = 3) : CR X nL ZC yd A 0 0 pc (.int a2 :: .int a1 :: .int a0 :: .ref one :: .ref (36 + j % 6) :: rest) rest rvI (X7_lengthOf one a0 a1 a2) :=
  cr_U (q := (RX4, TX4, 0)) (x := yX3_lengthOf) (y := yX7_lengthOf) (owner := RX3) (b0 := cX3_lengthOf) (m0 := 6) (r0 := some .int) (As := [.ref one, .int a0, .int a1, .int a2]) (b := 36 + j % 6) C (c_X7_lengthOf X.2.1 (36 + j % 6) 4 (RX4, TX4, 0) (sC_k3 e) rfl one hone a0 a1 a2) d mf_X7_lengthOf hl sq_lengthOf_s im_X3_lengthOf mf_X3_lengthOf.2.1 (by decide +kernel) (by decide +kernel) sq_lengthOf_3 im_X7_lengthOf (sC_k3 e) rfl hR rfl rfl hW
theorem sq_lengthOf_4 : Cond.selects RX9 yX3_lengthOf yX9_lengthOf ∈ TB := (ts_2_10.2.2.2.2.2.2.2.2.2.2.2.2.2.2.1 rfl)
set_option maxRecDepth 100000 in
theorem kdR_lengthOf_4 {X : MCx} {cc : ByteArray} {own : String} {nL : Nat} {ret : Option FieldType} {rm : Room} {yd : Dyn} {A : Nat → Prop} {pc ix : Nat} (C : OK X cc own nL ret rm A) (d : decode cc pc = .ok (.invokevirtual ix, 3)) (hl : Cond.methodLink own ix yX3_lengthOf ∈ TB) (j one : Nat) (hone : ZC.1[one]? = some (.inr 2)) (a0 a1 a2 : Int32) (rest : List Value) (hR : RmOk rmX9_lengthOf rm 6) (hW : ((rest.map (cv yd.1)).map fun v => v.category).sum ≤ 8) (e : j % 6 = 4) : CR X nL ZC yd A 0 0 pc (.int a2 :: .int a1 :: .int a0 :: .ref one :: .ref (36 + j % 6) :: rest) rest rvI (X9_lengthOf one a0 a1 a2) :=
  cr_U (q := (RX9, TX9, 0)) (x := yX3_lengthOf) (y := yX9_lengthOf) (owner := RX3) (b0 := cX3_lengthOf) (m0 := 6) (r0 := some .int) (As := [.ref one, .int a0, .int a1, .int a2]) (b := 36 + j % 6) C (c_X9_lengthOf X.2.1 (36 + j % 6) 9 (RX9, TX9, 0) (sC_k4 e) rfl one hone a0 a1 a2) d mf_X9_lengthOf hl sq_lengthOf_s im_X3_lengthOf mf_X3_lengthOf.2.1 (by decide +kernel) (by decide +kernel) sq_lengthOf_4 im_X9_lengthOf (sC_k4 e) rfl hR rfl rfl hW
theorem sq_lengthOf_5 : Cond.selects RX8 yX3_lengthOf yX8_lengthOf ∈ TB := (ts_2_10.2.2.2.2.2.2.2.2.1 rfl)
set_option maxRecDepth 100000 in
theorem kdR_lengthOf_5 {X : MCx} {cc : ByteArray} {own : String} {nL : Nat} {ret : Option FieldType} {rm : Room} {yd : Dyn} {A : Nat → Prop} {pc ix : Nat} (C : OK X cc own nL ret rm A) (d : decode cc pc = .ok (.invokevirtual ix, 3)) (hl : Cond.methodLink own ix yX3_lengthOf ∈ TB) (j one : Nat) (hone : ZC.1[one]? = some (.inr 2)) (a0 a1 a2 : Int32) (rest : List Value) (hR : RmOk rmX8_lengthOf rm 5) (hW : ((rest.map (cv yd.1)).map fun v => v.category).sum ≤ 8) (e : j % 6 = 5) : CR X nL ZC yd A 0 0 pc (.int a2 :: .int a1 :: .int a0 :: .ref one :: .ref (36 + j % 6) :: rest) rest rvI (X8_lengthOf one a0 a1 a2) :=
  cr_U (q := (RX8, TX8, 0)) (x := yX3_lengthOf) (y := yX8_lengthOf) (owner := RX3) (b0 := cX3_lengthOf) (m0 := 6) (r0 := some .int) (As := [.ref one, .int a0, .int a1, .int a2]) (b := 36 + j % 6) C (c_X8_lengthOf X.2.1 (36 + j % 6) 8 (RX8, TX8, 0) (sC_k5 e) rfl one hone a0 a1 a2) d mf_X8_lengthOf hl sq_lengthOf_s im_X3_lengthOf mf_X3_lengthOf.2.1 (by decide +kernel) (by decide +kernel) sq_lengthOf_5 im_X8_lengthOf (sC_k5 e) rfl hR rfl rfl hW
theorem kdA_lengthOf {X : MCx} {cc : ByteArray} {own : String} {nL : Nat} {ret : Option FieldType} {rm : Room} {yd : Dyn} {A : Nat → Prop} {pc ix : Nat} (C : OK X cc own nL ret rm A) (d : decode cc pc = .ok (.invokevirtual ix, 3)) (hl : Cond.methodLink own ix yX3_lengthOf ∈ TB) (j one : Nat) (hone : ZC.1[one]? = some (.inr 2)) (a0 a1 a2 : Int32) (rest : List Value) (hR : RmOk rmX3_lengthOf rm 6 ∧ RmOk rmX7_lengthOf rm 6 ∧ RmOk rmX0_lengthOf rm 5 ∧ RmOk rmX7_lengthOf rm 6 ∧ RmOk rmX9_lengthOf rm 6 ∧ RmOk rmX8_lengthOf rm 5) (hW : ((rest.map (cv yd.1)).map fun v => v.category).sum ≤ 8) : CR X nL ZC yd A 0 0 pc (.int a2 :: .int a1 :: .int a0 :: .ref one :: .ref (36 + j % 6) :: rest) rest rvI (fun h => kd j (X3_lengthOf one a0 a1 a2 h) (X7_lengthOf one a0 a1 a2 h) (X0_lengthOf one a0 a1 a2 h) (X7_lengthOf one a0 a1 a2 h) (X9_lengthOf one a0 a1 a2 h) (X8_lengthOf one a0 a1 a2 h)) :=
  cr_kd j (kdR_lengthOf_0 C d hl j one hone a0 a1 a2 rest hR.1 hW) (kdR_lengthOf_1 C d hl j one hone a0 a1 a2 rest hR.2.1 hW) (kdR_lengthOf_2 C d hl j one hone a0 a1 a2 rest hR.2.2.1 hW) (kdR_lengthOf_3 C d hl j one hone a0 a1 a2 rest hR.2.2.2.1 hW) (kdR_lengthOf_4 C d hl j one hone a0 a1 a2 rest hR.2.2.2.2.1 hW) (kdR_lengthOf_5 C d hl j one hone a0 a1 a2 rest hR.2.2.2.2.2 hW)
end
