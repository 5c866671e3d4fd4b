/-! the towns and the sheets among the places -/
def sg_isT (b : Nat) : Prop := b = 1 ∨ b = 12 ∨ b = 23 ∨ b = 40
def sg_isS (b : Nat) : Prop := b = 53 ∨ b = 55 ∨ b = 57 ∨ b = 59
theorem isT_1 : sg_isT 1 := Or.inl rfl
theorem isT_12 : sg_isT 12 := Or.inr (Or.inl rfl)
theorem isT_23 : sg_isT 23 := Or.inr (Or.inr (Or.inl rfl))
theorem isT_40 : sg_isT 40 := Or.inr (Or.inr (Or.inr rfl))
theorem isT_O {b : Nat} (h : sg_isT b) : sg_O b = some (3, [some (b + 1), some (b + 2), some (b + 3), some (b + 4), some (b + 5), some (b + 6), some (b + 7), some (b + 8), some (b + 9), some (b + 10), none, none, none, none, none]) := by
  rcases h with rfl | rfl | rfl | rfl <;> rfl
theorem isS_O {b : Nat} (h : sg_isS b) : sg_O b = some (1, [some (b + 1), none, none]) := by
  rcases h with rfl | rfl | rfl | rfl <;> rfl
theorem isS_A {b : Nat} (h : sg_isS b) : sg_A (b + 1) = some 40 := by
  rcases h with rfl | rfl | rfl | rfl <;> rfl
theorem isT_ne {b : Nat} (h : sg_isT b) : b ≠ 140 := by
  rcases h with rfl | rfl | rfl | rfl <;> decide
theorem isS_ne {b : Nat} (h : sg_isS b) : b ≠ 140 := by
  rcases h with rfl | rfl | rfl | rfl <;> decide
theorem isT_nej {b : Nat} (j : Nat) (h : sg_isT b) (hj : j ≤ 10) : b + j ≠ 140 := by
  rcases h with rfl | rfl | rfl | rfl <;> omega
theorem isS_ne1 {b : Nat} (h : sg_isS b) : b + 1 ≠ 140 := by
  rcases h with rfl | rfl | rfl | rfl <;> decide
theorem sg_A_ne {k n : Nat} (h : sg_A k = some n) : k ≠ 140 := by have := sg_A_lt h; omega
theorem sg_isS_of {i : Int32} (h : sg_in i 4 = true) : sg_isS (53 + 2 * i.toNatClampNeg) := by
  simp only [sg_in, Bool.and_eq_true, decide_eq_true_eq] at h
  unfold sg_isS
  omega
theorem sg_lt7 {i : Int32} (h : sg_in i 7 = true) : i.toNatClampNeg < 12 := by
  simp only [sg_in, Bool.and_eq_true, decide_eq_true_eq] at h
  omega
theorem rc_T {b : Nat} (h : sg_isT b) : sg_rc RX3 b := Or.inl ⟨3, _, _, _, isT_O h, rfl⟩
theorem rc_S {b : Nat} (h : sg_isS b) : sg_rc RX1 b := Or.inl ⟨1, _, _, _, isS_O h, rfl⟩
theorem rc_W {i : Nat} (h : i < 12) : sg_rc RJ0 (100 + i) := Or.inr ⟨rfl, i, h, rfl⟩
theorem ne_W {i : Nat} (h : i < 12) : 100 + i ≠ 140 := by omega
theorem ne_B {i : Nat} (h : i < 12) : 120 + i ≠ 140 := by omega
theorem isT_A0 {b : Nat} (h : sg_isT b) : sg_A (b + 1) = some 6 := by
  rcases h with rfl | rfl | rfl | rfl <;> rfl
theorem isT_A1 {b : Nat} (h : sg_isT b) : sg_A (b + 2) = some 8 := by
  rcases h with rfl | rfl | rfl | rfl <;> rfl
theorem isT_A2 {b : Nat} (h : sg_isT b) : sg_A (b + 3) = some 8 := by
  rcases h with rfl | rfl | rfl | rfl <;> rfl
theorem isT_A3 {b : Nat} (h : sg_isT b) : sg_A (b + 4) = some 8 := by
  rcases h with rfl | rfl | rfl | rfl <;> rfl
theorem isT_A4 {b : Nat} (h : sg_isT b) : sg_A (b + 5) = some 8 := by
  rcases h with rfl | rfl | rfl | rfl <;> rfl
theorem isT_A5 {b : Nat} (h : sg_isT b) : sg_A (b + 6) = some 6 := by
  rcases h with rfl | rfl | rfl | rfl <;> rfl
theorem isT_A6 {b : Nat} (h : sg_isT b) : sg_A (b + 7) = some 6 := by
  rcases h with rfl | rfl | rfl | rfl <;> rfl
theorem isT_A7 {b : Nat} (h : sg_isT b) : sg_A (b + 8) = some 6 := by
  rcases h with rfl | rfl | rfl | rfl <;> rfl
theorem isT_A8 {b : Nat} (h : sg_isT b) : sg_A (b + 9) = some 48 := by
  rcases h with rfl | rfl | rfl | rfl <;> rfl
theorem isT_A9 {b : Nat} (h : sg_isT b) : sg_A (b + 10) = some 10 := by
  rcases h with rfl | rfl | rfl | rfl <;> rfl
theorem A_2 : sg_A 2 = some 6 := rfl
theorem A_3 : sg_A 3 = some 8 := rfl
theorem A_4 : sg_A 4 = some 8 := rfl
theorem A_5 : sg_A 5 = some 8 := rfl
theorem A_6 : sg_A 6 = some 8 := rfl
theorem A_7 : sg_A 7 = some 6 := rfl
theorem A_8 : sg_A 8 = some 6 := rfl
theorem A_9 : sg_A 9 = some 6 := rfl
theorem A_10 : sg_A 10 = some 48 := rfl
theorem A_11 : sg_A 11 = some 10 := rfl
theorem A_13 : sg_A 13 = some 6 := rfl
theorem A_14 : sg_A 14 = some 8 := rfl
theorem A_15 : sg_A 15 = some 8 := rfl
theorem A_16 : sg_A 16 = some 8 := rfl
theorem A_17 : sg_A 17 = some 8 := rfl
theorem A_18 : sg_A 18 = some 6 := rfl
theorem A_19 : sg_A 19 = some 6 := rfl
theorem A_20 : sg_A 20 = some 6 := rfl
theorem A_21 : sg_A 21 = some 48 := rfl
theorem A_22 : sg_A 22 = some 10 := rfl
theorem A_24 : sg_A 24 = some 6 := rfl
theorem A_25 : sg_A 25 = some 8 := rfl
theorem A_26 : sg_A 26 = some 8 := rfl
theorem A_27 : sg_A 27 = some 8 := rfl
theorem A_28 : sg_A 28 = some 8 := rfl
theorem A_29 : sg_A 29 = some 6 := rfl
theorem A_30 : sg_A 30 = some 6 := rfl
theorem A_31 : sg_A 31 = some 6 := rfl
theorem A_32 : sg_A 32 = some 48 := rfl
theorem A_33 : sg_A 33 = some 10 := rfl
theorem A_36 : sg_A 36 = some 120 := rfl
theorem A_37 : sg_A 37 = some 121 := rfl
theorem A_38 : sg_A 38 = some 121 := rfl
theorem A_39 : sg_A 39 = some 121 := rfl
theorem A_41 : sg_A 41 = some 6 := rfl
theorem A_42 : sg_A 42 = some 8 := rfl
theorem A_43 : sg_A 43 = some 8 := rfl
theorem A_44 : sg_A 44 = some 8 := rfl
theorem A_45 : sg_A 45 = some 8 := rfl
theorem A_46 : sg_A 46 = some 6 := rfl
theorem A_47 : sg_A 47 = some 6 := rfl
theorem A_48 : sg_A 48 = some 6 := rfl
theorem A_49 : sg_A 49 = some 48 := rfl
theorem A_50 : sg_A 50 = some 10 := rfl
theorem A_51 : sg_A 51 = some 3 := rfl
theorem A_54 : sg_A 54 = some 40 := rfl
theorem A_56 : sg_A 56 = some 40 := rfl
theorem A_58 : sg_A 58 = some 40 := rfl
theorem A_60 : sg_A 60 = some 40 := rfl
theorem A_61 : sg_A 61 = some 7 := rfl
theorem A_63 : sg_A 63 = some 119 := rfl
theorem A_64 : sg_A 64 = some 119 := rfl
theorem A_65 : sg_A 65 = some 119 := rfl
theorem A_66 : sg_A 66 = some 8 := rfl
theorem A_67 : sg_A 67 = some 120 := rfl
theorem A_69 : sg_A 69 = some 480 := rfl
theorem A_70 : sg_A 70 = some 4 := rfl
theorem A_71 : sg_A 71 = some 4 := rfl
theorem A_72 : sg_A 72 = some 160 := rfl
theorem A_73 : sg_A 73 = some 40 := rfl
theorem O_0 : sg_O 0 = some (4, [some 1, some 12, some 23, none, some 34, some 52, some 61]) := rfl
theorem O_1 : sg_O 1 = some (3, [some 2, some 3, some 4, some 5, some 6, some 7, some 8, some 9, some 10, some 11, none, none, none, none, none]) := rfl
theorem O_12 : sg_O 12 = some (3, [some 13, some 14, some 15, some 16, some 17, some 18, some 19, some 20, some 21, some 22, none, none, none, none, none]) := rfl
theorem O_23 : sg_O 23 = some (3, [some 24, some 25, some 26, some 27, some 28, some 29, some 30, some 31, some 32, some 33, none, none, none, none, none]) := rfl
theorem O_34 : sg_O 34 = some (0, [some 35, some 40, some 51, none]) := rfl
theorem O_35 : sg_O 35 = some (2, [some 36, none, some 37, some 38, some 39]) := rfl
theorem O_40 : sg_O 40 = some (3, [some 41, some 42, some 43, some 44, some 45, some 46, some 47, some 48, some 49, some 50, none, none, none, none, none]) := rfl
theorem O_53 : sg_O 53 = some (1, [some 54, none, none]) := rfl
theorem O_55 : sg_O 55 = some (1, [some 56, none, none]) := rfl
theorem O_57 : sg_O 57 = some (1, [some 58, none, none]) := rfl
theorem O_59 : sg_O 59 = some (1, [some 60, none, none]) := rfl
theorem O_62 : sg_O 62 = some (5, [some 63, some 64, some 65, none, some 66, some 67, none, none, none, none, none, none, some 68, some 69, none, none, none, some 70, some 71, some 72, some 73]) := rfl
theorem rc_0 : sg_rc RX4 0 := Or.inl ⟨_, _, _, _, O_0, rfl⟩
theorem rc_62 : sg_rc RX5 62 := Or.inl ⟨_, _, _, _, O_62, rfl⟩
theorem rc_34 : sg_rc RX0 34 := Or.inl ⟨_, _, _, _, O_34, rfl⟩
theorem rc_35 : sg_rc RX2 35 := Or.inl ⟨_, _, _, _, O_35, rfl⟩
