/-! what each cell is, and where it lies in the worlds -/
theorem sC0 : esh 0 = .inr (8, [3, 5, 10, 15, 16, 25, 18, 0]) := rfl
theorem iF0 : 0 ≤ 0 ∧ 0 < 0 + 68 := by decide
theorem sC1 : esh 1 = .inr (6, [4, 0]) := rfl
theorem iF1 : 0 ≤ 1 ∧ 1 < 0 + 68 := by decide
theorem sC2 : esh 2 = .inl (1, 2000) := rfl
theorem iF2 : 0 ≤ 2 ∧ 2 < 0 + 68 := by decide
theorem sC3 : esh 3 = .inr (7, [3, 6, 7, 8, 9, 0]) := rfl
theorem iF3 : 0 ≤ 3 ∧ 3 < 0 + 68 := by decide
theorem sC4 : esh 4 = .inl (3, 401) := rfl
theorem iF4 : 0 ≤ 4 ∧ 4 < 0 + 68 := by decide
theorem sC5 : esh 5 = .inl (0, 401) := rfl
theorem iF5 : 0 ≤ 5 ∧ 5 < 0 + 68 := by decide
theorem sC6 : esh 6 = .inl (0, 401) := rfl
theorem iF6 : 0 ≤ 6 ∧ 6 < 0 + 68 := by decide
theorem sC7 : esh 7 = .inl (0, 401) := rfl
theorem iF7 : 0 ≤ 7 ∧ 7 < 0 + 68 := by decide
theorem sC8 : esh 8 = .inr (5, [0, 0, 0, 11, 0, 12, 0, 13, 14, 0]) := rfl
theorem iF8 : 0 ≤ 8 ∧ 8 < 0 + 68 := by decide
theorem sC9 : esh 9 = .inl (0, 48) := rfl
theorem iF9 : 0 ≤ 9 ∧ 9 < 0 + 68 := by decide
theorem sC10 : esh 10 = .inl (40, 16) := rfl
theorem iF10 : 0 ≤ 10 ∧ 10 < 0 + 68 := by decide
theorem sC11 : esh 11 = .inl (3, 400) := rfl
theorem iF11 : 0 ≤ 11 ∧ 11 < 0 + 68 := by decide
theorem sC12 : esh 12 = .inl (0, 400) := rfl
theorem iF12 : 0 ≤ 12 ∧ 12 < 0 + 68 := by decide
theorem sC13 : esh 13 = .inr (2, [5, 10, 1, 0]) := rfl
theorem iF13 : 0 ≤ 13 ∧ 13 < 0 + 68 := by decide
theorem sC14 : esh 14 = .inr (3, [5, 10, 17, 0, 0, 1, 0]) := rfl
theorem iF14 : 0 ≤ 14 ∧ 14 < 0 + 68 := by decide
theorem sC15 : esh 15 = .inl (0, 16) := rfl
theorem iF15 : 0 ≤ 15 ∧ 15 < 0 + 68 := by decide
theorem sC16 : esh 16 = .inr (1, [25, 23, 19, 0, 0, 0]) := rfl
theorem iF16 : 0 ≤ 16 ∧ 16 < 0 + 68 := by decide
theorem sC17 : esh 17 = .inl (0, 400) := rfl
theorem iF17 : 0 ≤ 17 ∧ 17 < 0 + 68 := by decide
theorem sC18 : esh 18 = .inl (56, 16) := rfl
theorem iF18 : 0 ≤ 18 ∧ 18 < 0 + 68 := by decide
theorem sC19 : esh 19 = .inl (3, 400) := rfl
theorem iF19 : 0 ≤ 19 ∧ 19 < 0 + 68 := by decide
theorem sC20 : esh 20 = .inl (0, 400) := rfl
theorem iF20 : 0 ≤ 20 ∧ 20 < 0 + 68 := by decide
theorem sC21 : esh 21 = .inr (5, [0, 0, 0, 24, 0, 20, 0, 21, 22, 0]) := rfl
theorem iF21 : 0 ≤ 21 ∧ 21 < 0 + 68 := by decide
theorem iS21 : 21 ≤ 21 ∧ 21 < 21 + 15 := by decide
theorem sC22 : esh 22 = .inl (0, 48) := rfl
theorem iF22 : 0 ≤ 22 ∧ 22 < 0 + 68 := by decide
theorem iS22 : 21 ≤ 22 ∧ 22 < 21 + 15 := by decide
theorem sC23 : esh 23 = .inr (0, [0, 0, 0, 0, 0, 26, 27, 28, 29, 30, 31, 32, 33, 34, 35, 36, 37]) := rfl
theorem iF23 : 0 ≤ 23 ∧ 23 < 0 + 68 := by decide
theorem iS23 : 21 ≤ 23 ∧ 23 < 21 + 15 := by decide
theorem sC24 : esh 24 = .inl (0, 49) := rfl
theorem iF24 : 0 ≤ 24 ∧ 24 < 0 + 68 := by decide
theorem iS24 : 21 ≤ 24 ∧ 24 < 21 + 15 := by decide
theorem sC25 : esh 25 = .inl (0, 16) := rfl
theorem iF25 : 0 ≤ 25 ∧ 25 < 0 + 68 := by decide
theorem iS25 : 21 ≤ 25 ∧ 25 < 21 + 15 := by decide
theorem sC26 : esh 26 = .inl (0, 16) := rfl
theorem iF26 : 0 ≤ 26 ∧ 26 < 0 + 68 := by decide
theorem iS26 : 21 ≤ 26 ∧ 26 < 21 + 15 := by decide
theorem sC27 : esh 27 = .inl (0, 48) := rfl
theorem iF27 : 0 ≤ 27 ∧ 27 < 0 + 68 := by decide
theorem iS27 : 21 ≤ 27 ∧ 27 < 21 + 15 := by decide
theorem sC28 : esh 28 = .inl (0, 960) := rfl
theorem iF28 : 0 ≤ 28 ∧ 28 < 0 + 68 := by decide
theorem iS28 : 21 ≤ 28 ∧ 28 < 21 + 15 := by decide
theorem sC29 : esh 29 = .inl (0, 294) := rfl
theorem iF29 : 0 ≤ 29 ∧ 29 < 0 + 68 := by decide
theorem iS29 : 21 ≤ 29 ∧ 29 < 21 + 15 := by decide
theorem sC30 : esh 30 = .inl (0, 294) := rfl
theorem iF30 : 0 ≤ 30 ∧ 30 < 0 + 68 := by decide
theorem iS30 : 21 ≤ 30 ∧ 30 < 21 + 15 := by decide
theorem sC31 : esh 31 = .inl (0, 49) := rfl
theorem iF31 : 0 ≤ 31 ∧ 31 < 0 + 68 := by decide
theorem iS31 : 21 ≤ 31 ∧ 31 < 21 + 15 := by decide
theorem sC32 : esh 32 = .inl (0, 16) := rfl
theorem iF32 : 0 ≤ 32 ∧ 32 < 0 + 68 := by decide
theorem iS32 : 21 ≤ 32 ∧ 32 < 21 + 15 := by decide
theorem sC33 : esh 33 = .inl (0, 16) := rfl
theorem iF33 : 0 ≤ 33 ∧ 33 < 0 + 68 := by decide
theorem iS33 : 21 ≤ 33 ∧ 33 < 21 + 15 := by decide
theorem sC34 : esh 34 = .inl (0, 49) := rfl
theorem iF34 : 0 ≤ 34 ∧ 34 < 0 + 68 := by decide
theorem iS34 : 21 ≤ 34 ∧ 34 < 21 + 15 := by decide
theorem sC35 : esh 35 = .inl (0, 49) := rfl
theorem iF35 : 0 ≤ 35 ∧ 35 < 0 + 68 := by decide
theorem iS35 : 21 ≤ 35 ∧ 35 < 21 + 15 := by decide
theorem sC36 : esh 36 = .inr (4, [1, 0, 0, 0, 0]) := rfl
theorem iF36 : 0 ≤ 36 ∧ 36 < 0 + 68 := by decide
theorem sC37 : esh 37 = .inr (4, [1, 0, 0, 0, 0]) := rfl
theorem iF37 : 0 ≤ 37 ∧ 37 < 0 + 68 := by decide
theorem sC38 : esh 38 = .inr (4, [1, 0, 0, 0, 0]) := rfl
theorem iF38 : 0 ≤ 38 ∧ 38 < 0 + 68 := by decide
theorem sC39 : esh 39 = .inr (4, [1, 0, 0, 0, 0]) := rfl
theorem iF39 : 0 ≤ 39 ∧ 39 < 0 + 68 := by decide
theorem sC40 : esh 40 = .inr (4, [1, 0, 0, 0, 0]) := rfl
theorem iF40 : 0 ≤ 40 ∧ 40 < 0 + 68 := by decide
theorem sC41 : esh 41 = .inr (4, [1, 0, 0, 0, 0]) := rfl
theorem iF41 : 0 ≤ 41 ∧ 41 < 0 + 68 := by decide
theorem sC42 : esh 42 = .inr (4, [1, 0, 0, 0, 0]) := rfl
theorem iF42 : 0 ≤ 42 ∧ 42 < 0 + 68 := by decide
theorem sC43 : esh 43 = .inr (4, [1, 0, 0, 0, 0]) := rfl
theorem iF43 : 0 ≤ 43 ∧ 43 < 0 + 68 := by decide
theorem sC44 : esh 44 = .inr (4, [1, 0, 0, 0, 0]) := rfl
theorem iF44 : 0 ≤ 44 ∧ 44 < 0 + 68 := by decide
theorem sC45 : esh 45 = .inr (4, [1, 0, 0, 0, 0]) := rfl
theorem iF45 : 0 ≤ 45 ∧ 45 < 0 + 68 := by decide
theorem sC46 : esh 46 = .inr (4, [1, 0, 0, 0, 0]) := rfl
theorem iF46 : 0 ≤ 46 ∧ 46 < 0 + 68 := by decide
theorem sC47 : esh 47 = .inr (4, [1, 0, 0, 0, 0]) := rfl
theorem iF47 : 0 ≤ 47 ∧ 47 < 0 + 68 := by decide
theorem sC48 : esh 48 = .inr (4, [1, 0, 0, 0, 0]) := rfl
theorem iF48 : 0 ≤ 48 ∧ 48 < 0 + 68 := by decide
theorem sC49 : esh 49 = .inr (4, [1, 0, 0, 0, 0]) := rfl
theorem iF49 : 0 ≤ 49 ∧ 49 < 0 + 68 := by decide
theorem sC50 : esh 50 = .inr (4, [1, 0, 0, 0, 0]) := rfl
theorem iF50 : 0 ≤ 50 ∧ 50 < 0 + 68 := by decide
theorem sC51 : esh 51 = .inr (4, [1, 0, 0, 0, 0]) := rfl
theorem iF51 : 0 ≤ 51 ∧ 51 < 0 + 68 := by decide
theorem sC52 : esh 52 = .inr (4, [1, 0, 0, 0, 0]) := rfl
theorem iF52 : 0 ≤ 52 ∧ 52 < 0 + 68 := by decide
theorem sC53 : esh 53 = .inr (4, [1, 0, 0, 0, 0]) := rfl
theorem iF53 : 0 ≤ 53 ∧ 53 < 0 + 68 := by decide
theorem sC54 : esh 54 = .inr (4, [1, 0, 0, 0, 0]) := rfl
theorem iF54 : 0 ≤ 54 ∧ 54 < 0 + 68 := by decide
theorem sC55 : esh 55 = .inr (4, [1, 0, 0, 0, 0]) := rfl
theorem iF55 : 0 ≤ 55 ∧ 55 < 0 + 68 := by decide
theorem sC56 : esh 56 = .inr (4, [1, 0, 0, 0, 0]) := rfl
theorem iF56 : 0 ≤ 56 ∧ 56 < 0 + 68 := by decide
theorem sC57 : esh 57 = .inr (4, [1, 0, 0, 0, 0]) := rfl
theorem iF57 : 0 ≤ 57 ∧ 57 < 0 + 68 := by decide
theorem sC58 : esh 58 = .inr (4, [1, 0, 0, 0, 0]) := rfl
theorem iF58 : 0 ≤ 58 ∧ 58 < 0 + 68 := by decide
theorem sC59 : esh 59 = .inr (4, [1, 0, 0, 0, 0]) := rfl
theorem iF59 : 0 ≤ 59 ∧ 59 < 0 + 68 := by decide
theorem sC60 : esh 60 = .inr (4, [1, 0, 0, 0, 0]) := rfl
theorem iF60 : 0 ≤ 60 ∧ 60 < 0 + 68 := by decide
theorem sC61 : esh 61 = .inr (4, [1, 0, 0, 0, 0]) := rfl
theorem iF61 : 0 ≤ 61 ∧ 61 < 0 + 68 := by decide
theorem sC62 : esh 62 = .inr (4, [1, 0, 0, 0, 0]) := rfl
theorem iF62 : 0 ≤ 62 ∧ 62 < 0 + 68 := by decide
theorem sC63 : esh 63 = .inr (4, [1, 0, 0, 0, 0]) := rfl
theorem iF63 : 0 ≤ 63 ∧ 63 < 0 + 68 := by decide
theorem sC64 : esh 64 = .inr (4, [1, 0, 0, 0, 0]) := rfl
theorem iF64 : 0 ≤ 64 ∧ 64 < 0 + 68 := by decide
theorem sC65 : esh 65 = .inr (4, [1, 0, 0, 0, 0]) := rfl
theorem iF65 : 0 ≤ 65 ∧ 65 < 0 + 68 := by decide
theorem sC66 : esh 66 = .inr (4, [1, 0, 0, 0, 0]) := rfl
theorem iF66 : 0 ≤ 66 ∧ 66 < 0 + 68 := by decide
theorem sC67 : esh 67 = .inr (4, [1, 0, 0, 0, 0]) := rfl
theorem iF67 : 0 ≤ 67 ∧ 67 < 0 + 68 := by decide

