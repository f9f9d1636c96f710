/-! ===== the worlds of the two systems; fields, methods and links as the tables have them ===== -/
def shK : Nat → kSh := fun i => match i with
  | 0 => .inl (11, [some 1, some 3, some 8, some 13, some 16, some 18, some 25, some 27, some 34, some 37, some 49, some 64, some 66])
  | 1 => .inl (10, [some 2, none])
  | 2 => .inr (0, 500, fun k => k)
  | 3 => .inl (1, [some 4, some 5, some 6, some 7, none, none])
  | 4 => .inr (0, 26, fun k => k)
  | 5 => .inr (0, 26, fun k => k)
  | 6 => .inr (0, 130, fun k => k)
  | 7 => .inr (0, 20, fun k => k)
  | 8 => .inl (1, [some 9, some 10, some 11, some 12, none, none])
  | 9 => .inr (0, 26, fun k => k)
  | 10 => .inr (0, 26, fun k => k)
  | 11 => .inr (0, 130, fun k => k)
  | 12 => .inr (0, 20, fun k => k)
  | 13 => .inl (2, [some 1, some 8, some 14, some 15, none, none, none])
  | 14 => .inr (0, 20, fun k => k)
  | 15 => .inr (0, 20, fun k => k)
  | 16 => .inl (3, [some 17, none])
  | 17 => .inr (0, 40, fun k => k)
  | 18 => .inl (4, [some 19, some 20, some 21, some 22, some 23, some 24, none, none, none])
  | 19 => .inr (0, 8, fun k => k)
  | 20 => .inr (0, 8, fun k => k)
  | 21 => .inr (0, 8, fun k => k)
  | 22 => .inr (0, 8, fun k => k)
  | 23 => .inr (0, 6, fun k => k)
  | 24 => .inr (0, 5, fun k => k)
  | 25 => .inl (9, [some 26, none])
  | 26 => .inr (0, 120, fun k => k)
  | 27 => .inl (7, [some 3, some 25, some 16, some 18, some 28, some 29, none, none, some 30, some 31, some 32, some 33, none])
  | 28 => .inr (0, 5, fun k => k)
  | 29 => .inr (0, 5, fun k => k)
  | 30 => .inr (0, 61, fun k => k)
  | 31 => .inr (0, 61, fun k => k)
  | 32 => .inr (0, 61, fun k => k)
  | 33 => .inr (0, 120, fun k => k)
  | 34 => .inl (8, [some 1, some 3, some 35, some 36, none])
  | 35 => .inr (0, 120, fun k => k)
  | 36 => .inr (0, 120, fun k => k)
  | 37 => .inl (5, [some 18, some 38, some 39, some 40, some 41, some 42, none, some 43, some 44, some 45, some 46, some 47, some 48])
  | 38 => .inr (0, 20, fun k => k)
  | 39 => .inr (0, 20, fun k => k)
  | 40 => .inr (0, 20, fun k => k)
  | 41 => .inr (0, 20, fun k => k)
  | 42 => .inr (0, 20, fun k => k)
  | 43 => .inr (0, 100, fun k => k)
  | 44 => .inr (0, 100, fun k => k)
  | 45 => .inr (0, 20, fun k => k)
  | 46 => .inr (0, 20, fun k => k)
  | 47 => .inr (0, 20, fun k => k)
  | 48 => .inr (0, 8, fun k => k)
  | 49 => .inl (0, [some 50, some 51, some 52, some 53, none, some 54, some 55, some 56, none, some 57])
  | 50 => .inr (0, 6, fun k => k)
  | 51 => .inr (0, 6, fun k => k)
  | 52 => .inr (0, 12, fun k => k)
  | 53 => .inr (0, 12, fun k => k)
  | 54 => .inr (0, 12, fun k => k)
  | 55 => .inr (0, 12, fun k => k)
  | 56 => .inr (0, 12, fun k => k)
  | 57 => .inr (3, 6, fun k => 58 + k)
  | 58 => .inr (0, 6, fun k => k)
  | 59 => .inr (0, 6, fun k => k)
  | 60 => .inr (0, 6, fun k => k)
  | 61 => .inr (0, 6, fun k => k)
  | 62 => .inr (0, 6, fun k => k)
  | 63 => .inr (0, 6, fun k => k)
  | 64 => .inl (6, [some 65])
  | 65 => .inr (0, 49, fun k => k)
  | 66 => .inl (6, [some 67])
  | 67 => .inr (0, 49, fun k => k)
  | _ => .inr (0, 0, fun k => k)
theorem sK_0 : shK 0 = .inl (11, [some 1, some 3, some 8, some 13, some 16, some 18, some 25, some 27, some 34, some 37, some 49, some 64, some 66]) := rfl
theorem nK_0 : 0 < 68 := Nat.le_of_ble_eq_true rfl
theorem sK_1 : shK 1 = .inl (10, [some 2, none]) := rfl
theorem nK_1 : 1 < 68 := Nat.le_of_ble_eq_true rfl
theorem sK_2 : shK 2 = .inr (0, 500, fun k => k) := rfl
theorem nK_2 : 2 < 68 := Nat.le_of_ble_eq_true rfl
theorem sK_3 : shK 3 = .inl (1, [some 4, some 5, some 6, some 7, none, none]) := rfl
theorem nK_3 : 3 < 68 := Nat.le_of_ble_eq_true rfl
theorem sK_4 : shK 4 = .inr (0, 26, fun k => k) := rfl
theorem nK_4 : 4 < 68 := Nat.le_of_ble_eq_true rfl
theorem sK_5 : shK 5 = .inr (0, 26, fun k => k) := rfl
theorem nK_5 : 5 < 68 := Nat.le_of_ble_eq_true rfl
theorem sK_6 : shK 6 = .inr (0, 130, fun k => k) := rfl
theorem nK_6 : 6 < 68 := Nat.le_of_ble_eq_true rfl
theorem sK_7 : shK 7 = .inr (0, 20, fun k => k) := rfl
theorem nK_7 : 7 < 68 := Nat.le_of_ble_eq_true rfl
theorem sK_8 : shK 8 = .inl (1, [some 9, some 10, some 11, some 12, none, none]) := rfl
theorem nK_8 : 8 < 68 := Nat.le_of_ble_eq_true rfl
theorem sK_9 : shK 9 = .inr (0, 26, fun k => k) := rfl
theorem nK_9 : 9 < 68 := Nat.le_of_ble_eq_true rfl
theorem sK_10 : shK 10 = .inr (0, 26, fun k => k) := rfl
theorem nK_10 : 10 < 68 := Nat.le_of_ble_eq_true rfl
theorem sK_11 : shK 11 = .inr (0, 130, fun k => k) := rfl
theorem nK_11 : 11 < 68 := Nat.le_of_ble_eq_true rfl
theorem sK_12 : shK 12 = .inr (0, 20, fun k => k) := rfl
theorem nK_12 : 12 < 68 := Nat.le_of_ble_eq_true rfl
theorem sK_13 : shK 13 = .inl (2, [some 1, some 8, some 14, some 15, none, none, none]) := rfl
theorem nK_13 : 13 < 68 := Nat.le_of_ble_eq_true rfl
theorem sK_14 : shK 14 = .inr (0, 20, fun k => k) := rfl
theorem nK_14 : 14 < 68 := Nat.le_of_ble_eq_true rfl
theorem sK_15 : shK 15 = .inr (0, 20, fun k => k) := rfl
theorem nK_15 : 15 < 68 := Nat.le_of_ble_eq_true rfl
theorem sK_16 : shK 16 = .inl (3, [some 17, none]) := rfl
theorem nK_16 : 16 < 68 := Nat.le_of_ble_eq_true rfl
theorem sK_17 : shK 17 = .inr (0, 40, fun k => k) := rfl
theorem nK_17 : 17 < 68 := Nat.le_of_ble_eq_true rfl
theorem sK_18 : shK 18 = .inl (4, [some 19, some 20, some 21, some 22, some 23, some 24, none, none, none]) := rfl
theorem nK_18 : 18 < 68 := Nat.le_of_ble_eq_true rfl
theorem sK_19 : shK 19 = .inr (0, 8, fun k => k) := rfl
theorem nK_19 : 19 < 68 := Nat.le_of_ble_eq_true rfl
theorem sK_20 : shK 20 = .inr (0, 8, fun k => k) := rfl
theorem nK_20 : 20 < 68 := Nat.le_of_ble_eq_true rfl
theorem sK_21 : shK 21 = .inr (0, 8, fun k => k) := rfl
theorem nK_21 : 21 < 68 := Nat.le_of_ble_eq_true rfl
theorem sK_22 : shK 22 = .inr (0, 8, fun k => k) := rfl
theorem nK_22 : 22 < 68 := Nat.le_of_ble_eq_true rfl
theorem sK_23 : shK 23 = .inr (0, 6, fun k => k) := rfl
theorem nK_23 : 23 < 68 := Nat.le_of_ble_eq_true rfl
theorem sK_24 : shK 24 = .inr (0, 5, fun k => k) := rfl
theorem nK_24 : 24 < 68 := Nat.le_of_ble_eq_true rfl
theorem sK_25 : shK 25 = .inl (9, [some 26, none]) := rfl
theorem nK_25 : 25 < 68 := Nat.le_of_ble_eq_true rfl
theorem sK_26 : shK 26 = .inr (0, 120, fun k => k) := rfl
theorem nK_26 : 26 < 68 := Nat.le_of_ble_eq_true rfl
theorem sK_27 : shK 27 = .inl (7, [some 3, some 25, some 16, some 18, some 28, some 29, none, none, some 30, some 31, some 32, some 33, none]) := rfl
theorem nK_27 : 27 < 68 := Nat.le_of_ble_eq_true rfl
theorem sK_28 : shK 28 = .inr (0, 5, fun k => k) := rfl
theorem nK_28 : 28 < 68 := Nat.le_of_ble_eq_true rfl
theorem sK_29 : shK 29 = .inr (0, 5, fun k => k) := rfl
theorem nK_29 : 29 < 68 := Nat.le_of_ble_eq_true rfl
theorem sK_30 : shK 30 = .inr (0, 61, fun k => k) := rfl
theorem nK_30 : 30 < 68 := Nat.le_of_ble_eq_true rfl
theorem sK_31 : shK 31 = .inr (0, 61, fun k => k) := rfl
theorem nK_31 : 31 < 68 := Nat.le_of_ble_eq_true rfl
theorem sK_32 : shK 32 = .inr (0, 61, fun k => k) := rfl
theorem nK_32 : 32 < 68 := Nat.le_of_ble_eq_true rfl
theorem sK_33 : shK 33 = .inr (0, 120, fun k => k) := rfl
theorem nK_33 : 33 < 68 := Nat.le_of_ble_eq_true rfl
theorem sK_34 : shK 34 = .inl (8, [some 1, some 3, some 35, some 36, none]) := rfl
theorem nK_34 : 34 < 68 := Nat.le_of_ble_eq_true rfl
theorem sK_35 : shK 35 = .inr (0, 120, fun k => k) := rfl
theorem nK_35 : 35 < 68 := Nat.le_of_ble_eq_true rfl
theorem sK_36 : shK 36 = .inr (0, 120, fun k => k) := rfl
theorem nK_36 : 36 < 68 := Nat.le_of_ble_eq_true rfl
theorem sK_37 : shK 37 = .inl (5, [some 18, some 38, some 39, some 40, some 41, some 42, none, some 43, some 44, some 45, some 46, some 47, some 48]) := rfl
theorem nK_37 : 37 < 68 := Nat.le_of_ble_eq_true rfl
theorem sK_38 : shK 38 = .inr (0, 20, fun k => k) := rfl
theorem nK_38 : 38 < 68 := Nat.le_of_ble_eq_true rfl
theorem sK_39 : shK 39 = .inr (0, 20, fun k => k) := rfl
theorem nK_39 : 39 < 68 := Nat.le_of_ble_eq_true rfl
theorem sK_40 : shK 40 = .inr (0, 20, fun k => k) := rfl
theorem nK_40 : 40 < 68 := Nat.le_of_ble_eq_true rfl
theorem sK_41 : shK 41 = .inr (0, 20, fun k => k) := rfl
theorem nK_41 : 41 < 68 := Nat.le_of_ble_eq_true rfl
theorem sK_42 : shK 42 = .inr (0, 20, fun k => k) := rfl
theorem nK_42 : 42 < 68 := Nat.le_of_ble_eq_true rfl
theorem sK_43 : shK 43 = .inr (0, 100, fun k => k) := rfl
theorem nK_43 : 43 < 68 := Nat.le_of_ble_eq_true rfl
theorem sK_44 : shK 44 = .inr (0, 100, fun k => k) := rfl
theorem nK_44 : 44 < 68 := Nat.le_of_ble_eq_true rfl
theorem sK_45 : shK 45 = .inr (0, 20, fun k => k) := rfl
theorem nK_45 : 45 < 68 := Nat.le_of_ble_eq_true rfl
theorem sK_46 : shK 46 = .inr (0, 20, fun k => k) := rfl
theorem nK_46 : 46 < 68 := Nat.le_of_ble_eq_true rfl
theorem sK_47 : shK 47 = .inr (0, 20, fun k => k) := rfl
theorem nK_47 : 47 < 68 := Nat.le_of_ble_eq_true rfl
theorem sK_48 : shK 48 = .inr (0, 8, fun k => k) := rfl
theorem nK_48 : 48 < 68 := Nat.le_of_ble_eq_true rfl
theorem sK_49 : shK 49 = .inl (0, [some 50, some 51, some 52, some 53, none, some 54, some 55, some 56, none, some 57]) := rfl
theorem nK_49 : 49 < 68 := Nat.le_of_ble_eq_true rfl
theorem sK_50 : shK 50 = .inr (0, 6, fun k => k) := rfl
theorem nK_50 : 50 < 68 := Nat.le_of_ble_eq_true rfl
theorem sK_51 : shK 51 = .inr (0, 6, fun k => k) := rfl
theorem nK_51 : 51 < 68 := Nat.le_of_ble_eq_true rfl
theorem sK_52 : shK 52 = .inr (0, 12, fun k => k) := rfl
theorem nK_52 : 52 < 68 := Nat.le_of_ble_eq_true rfl
theorem sK_53 : shK 53 = .inr (0, 12, fun k => k) := rfl
theorem nK_53 : 53 < 68 := Nat.le_of_ble_eq_true rfl
theorem sK_54 : shK 54 = .inr (0, 12, fun k => k) := rfl
theorem nK_54 : 54 < 68 := Nat.le_of_ble_eq_true rfl
theorem sK_55 : shK 55 = .inr (0, 12, fun k => k) := rfl
theorem nK_55 : 55 < 68 := Nat.le_of_ble_eq_true rfl
theorem sK_56 : shK 56 = .inr (0, 12, fun k => k) := rfl
theorem nK_56 : 56 < 68 := Nat.le_of_ble_eq_true rfl
theorem sK_57 : shK 57 = .inr (3, 6, fun k => 58 + k) := rfl
theorem nK_57 : 57 < 68 := Nat.le_of_ble_eq_true rfl
theorem sK_58 : shK 58 = .inr (0, 6, fun k => k) := rfl
theorem nK_58 : 58 < 68 := Nat.le_of_ble_eq_true rfl
theorem sK_59 : shK 59 = .inr (0, 6, fun k => k) := rfl
theorem nK_59 : 59 < 68 := Nat.le_of_ble_eq_true rfl
theorem sK_60 : shK 60 = .inr (0, 6, fun k => k) := rfl
theorem nK_60 : 60 < 68 := Nat.le_of_ble_eq_true rfl
theorem sK_61 : shK 61 = .inr (0, 6, fun k => k) := rfl
theorem nK_61 : 61 < 68 := Nat.le_of_ble_eq_true rfl
theorem sK_62 : shK 62 = .inr (0, 6, fun k => k) := rfl
theorem nK_62 : 62 < 68 := Nat.le_of_ble_eq_true rfl
theorem sK_63 : shK 63 = .inr (0, 6, fun k => k) := rfl
theorem nK_63 : 63 < 68 := Nat.le_of_ble_eq_true rfl
theorem sK_64 : shK 64 = .inl (6, [some 65]) := rfl
theorem nK_64 : 64 < 68 := Nat.le_of_ble_eq_true rfl
theorem sK_65 : shK 65 = .inr (0, 49, fun k => k) := rfl
theorem nK_65 : 65 < 68 := Nat.le_of_ble_eq_true rfl
theorem sK_66 : shK 66 = .inl (6, [some 67]) := rfl
theorem nK_66 : 66 < 68 := Nat.le_of_ble_eq_true rfl
theorem sK_67 : shK 67 = .inr (0, 49, fun k => k) := rfl
theorem nK_67 : 67 < 68 := Nat.le_of_ble_eq_true rfl
def shM : Nat → kSh := fun i => match i with
  | 0 => .inl (12, [some 1, none, none, none, none, some 2, some 5, some 8, some 11, some 12, some 13, some 14, some 15, some 16, some 17, some 18, some 19, some 20, none, none, none, none, none, none, some 21, some 22, some 23, some 24, none, some 25, some 26, some 27, some 28, some 29, some 30, some 31, none, some 32, some 33, some 34, some 35, some 36, some 37, some 38, some 39, none, some 40, some 41, some 42, some 43, some 44, some 45, some 46, some 47, none, none])
  | 1 => .inr (1, 500, fun k => k)
  | 2 => .inr (3, 2, fun k => 3 + k)
  | 3 => .inr (0, 26, fun k => k)
  | 4 => .inr (0, 26, fun k => k)
  | 5 => .inr (3, 2, fun k => 6 + k)
  | 6 => .inr (0, 20, fun k => k)
  | 7 => .inr (0, 20, fun k => k)
  | 8 => .inr (4, 2, fun k => 9 + k)
  | 9 => .inr (2, 20, fun k => k)
  | 10 => .inr (2, 20, fun k => k)
  | 11 => .inr (0, 2, fun k => k)
  | 12 => .inr (0, 2, fun k => k)
  | 13 => .inr (5, 3, fun k => 1000 + k)
  | 14 => .inr (0, 40, fun k => k)
  | 15 => .inr (0, 40, fun k => k)
  | 16 => .inr (0, 8, fun k => k)
  | 17 => .inr (0, 8, fun k => k)
  | 18 => .inr (0, 8, fun k => k)
  | 19 => .inr (0, 8, fun k => k)
  | 20 => .inr (0, 120, fun k => k)
  | 21 => .inr (0, 122, fun k => k)
  | 22 => .inr (0, 122, fun k => k)
  | 23 => .inr (1, 120, fun k => k)
  | 24 => .inr (0, 720, fun k => k)
  | 25 => .inr (0, 160, fun k => k)
  | 26 => .inr (0, 20, fun k => k)
  | 27 => .inr (0, 20, fun k => k)
  | 28 => .inr (0, 20, fun k => k)
  | 29 => .inr (0, 20, fun k => k)
  | 30 => .inr (0, 20, fun k => k)
  | 31 => .inr (0, 6, fun k => k)
  | 32 => .inr (0, 20, fun k => k)
  | 33 => .inr (0, 20, fun k => k)
  | 34 => .inr (0, 20, fun k => k)
  | 35 => .inr (0, 20, fun k => k)
  | 36 => .inr (0, 20, fun k => k)
  | 37 => .inr (0, 8, fun k => k)
  | 38 => .inr (0, 20, fun k => k)
  | 39 => .inr (0, 20, fun k => k)
  | 40 => .inr (0, 6, fun k => k)
  | 41 => .inr (0, 6, fun k => k)
  | 42 => .inr (0, 12, fun k => k)
  | 43 => .inr (0, 12, fun k => k)
  | 44 => .inr (0, 12, fun k => k)
  | 45 => .inr (0, 12, fun k => k)
  | 46 => .inr (0, 12, fun k => k)
  | 47 => .inr (0, 49, fun k => k)
  | _ => .inr (0, 0, fun k => k)
theorem sM_0 : shM 0 = .inl (12, [some 1, none, none, none, none, some 2, some 5, some 8, some 11, some 12, some 13, some 14, some 15, some 16, some 17, some 18, some 19, some 20, none, none, none, none, none, none, some 21, some 22, some 23, some 24, none, some 25, some 26, some 27, some 28, some 29, some 30, some 31, none, some 32, some 33, some 34, some 35, some 36, some 37, some 38, some 39, none, some 40, some 41, some 42, some 43, some 44, some 45, some 46, some 47, none, none]) := rfl
theorem nM_0 : 0 < 48 := Nat.le_of_ble_eq_true rfl
theorem sM_1 : shM 1 = .inr (1, 500, fun k => k) := rfl
theorem nM_1 : 1 < 48 := Nat.le_of_ble_eq_true rfl
theorem sM_2 : shM 2 = .inr (3, 2, fun k => 3 + k) := rfl
theorem nM_2 : 2 < 48 := Nat.le_of_ble_eq_true rfl
theorem sM_3 : shM 3 = .inr (0, 26, fun k => k) := rfl
theorem nM_3 : 3 < 48 := Nat.le_of_ble_eq_true rfl
theorem sM_4 : shM 4 = .inr (0, 26, fun k => k) := rfl
theorem nM_4 : 4 < 48 := Nat.le_of_ble_eq_true rfl
theorem sM_5 : shM 5 = .inr (3, 2, fun k => 6 + k) := rfl
theorem nM_5 : 5 < 48 := Nat.le_of_ble_eq_true rfl
theorem sM_6 : shM 6 = .inr (0, 20, fun k => k) := rfl
theorem nM_6 : 6 < 48 := Nat.le_of_ble_eq_true rfl
theorem sM_7 : shM 7 = .inr (0, 20, fun k => k) := rfl
theorem nM_7 : 7 < 48 := Nat.le_of_ble_eq_true rfl
theorem sM_8 : shM 8 = .inr (4, 2, fun k => 9 + k) := rfl
theorem nM_8 : 8 < 48 := Nat.le_of_ble_eq_true rfl
theorem sM_9 : shM 9 = .inr (2, 20, fun k => k) := rfl
theorem nM_9 : 9 < 48 := Nat.le_of_ble_eq_true rfl
theorem sM_10 : shM 10 = .inr (2, 20, fun k => k) := rfl
theorem nM_10 : 10 < 48 := Nat.le_of_ble_eq_true rfl
theorem sM_11 : shM 11 = .inr (0, 2, fun k => k) := rfl
theorem nM_11 : 11 < 48 := Nat.le_of_ble_eq_true rfl
theorem sM_12 : shM 12 = .inr (0, 2, fun k => k) := rfl
theorem nM_12 : 12 < 48 := Nat.le_of_ble_eq_true rfl
theorem sM_13 : shM 13 = .inr (5, 3, fun k => 1000 + k) := rfl
theorem nM_13 : 13 < 48 := Nat.le_of_ble_eq_true rfl
theorem sM_14 : shM 14 = .inr (0, 40, fun k => k) := rfl
theorem nM_14 : 14 < 48 := Nat.le_of_ble_eq_true rfl
theorem sM_15 : shM 15 = .inr (0, 40, fun k => k) := rfl
theorem nM_15 : 15 < 48 := Nat.le_of_ble_eq_true rfl
theorem sM_16 : shM 16 = .inr (0, 8, fun k => k) := rfl
theorem nM_16 : 16 < 48 := Nat.le_of_ble_eq_true rfl
theorem sM_17 : shM 17 = .inr (0, 8, fun k => k) := rfl
theorem nM_17 : 17 < 48 := Nat.le_of_ble_eq_true rfl
theorem sM_18 : shM 18 = .inr (0, 8, fun k => k) := rfl
theorem nM_18 : 18 < 48 := Nat.le_of_ble_eq_true rfl
theorem sM_19 : shM 19 = .inr (0, 8, fun k => k) := rfl
theorem nM_19 : 19 < 48 := Nat.le_of_ble_eq_true rfl
theorem sM_20 : shM 20 = .inr (0, 120, fun k => k) := rfl
theorem nM_20 : 20 < 48 := Nat.le_of_ble_eq_true rfl
theorem sM_21 : shM 21 = .inr (0, 122, fun k => k) := rfl
theorem nM_21 : 21 < 48 := Nat.le_of_ble_eq_true rfl
theorem sM_22 : shM 22 = .inr (0, 122, fun k => k) := rfl
theorem nM_22 : 22 < 48 := Nat.le_of_ble_eq_true rfl
theorem sM_23 : shM 23 = .inr (1, 120, fun k => k) := rfl
theorem nM_23 : 23 < 48 := Nat.le_of_ble_eq_true rfl
theorem sM_24 : shM 24 = .inr (0, 720, fun k => k) := rfl
theorem nM_24 : 24 < 48 := Nat.le_of_ble_eq_true rfl
theorem sM_25 : shM 25 = .inr (0, 160, fun k => k) := rfl
theorem nM_25 : 25 < 48 := Nat.le_of_ble_eq_true rfl
theorem sM_26 : shM 26 = .inr (0, 20, fun k => k) := rfl
theorem nM_26 : 26 < 48 := Nat.le_of_ble_eq_true rfl
theorem sM_27 : shM 27 = .inr (0, 20, fun k => k) := rfl
theorem nM_27 : 27 < 48 := Nat.le_of_ble_eq_true rfl
theorem sM_28 : shM 28 = .inr (0, 20, fun k => k) := rfl
theorem nM_28 : 28 < 48 := Nat.le_of_ble_eq_true rfl
theorem sM_29 : shM 29 = .inr (0, 20, fun k => k) := rfl
theorem nM_29 : 29 < 48 := Nat.le_of_ble_eq_true rfl
theorem sM_30 : shM 30 = .inr (0, 20, fun k => k) := rfl
theorem nM_30 : 30 < 48 := Nat.le_of_ble_eq_true rfl
theorem sM_31 : shM 31 = .inr (0, 6, fun k => k) := rfl
theorem nM_31 : 31 < 48 := Nat.le_of_ble_eq_true rfl
theorem sM_32 : shM 32 = .inr (0, 20, fun k => k) := rfl
theorem nM_32 : 32 < 48 := Nat.le_of_ble_eq_true rfl
theorem sM_33 : shM 33 = .inr (0, 20, fun k => k) := rfl
theorem nM_33 : 33 < 48 := Nat.le_of_ble_eq_true rfl
theorem sM_34 : shM 34 = .inr (0, 20, fun k => k) := rfl
theorem nM_34 : 34 < 48 := Nat.le_of_ble_eq_true rfl
theorem sM_35 : shM 35 = .inr (0, 20, fun k => k) := rfl
theorem nM_35 : 35 < 48 := Nat.le_of_ble_eq_true rfl
theorem sM_36 : shM 36 = .inr (0, 20, fun k => k) := rfl
theorem nM_36 : 36 < 48 := Nat.le_of_ble_eq_true rfl
theorem sM_37 : shM 37 = .inr (0, 8, fun k => k) := rfl
theorem nM_37 : 37 < 48 := Nat.le_of_ble_eq_true rfl
theorem sM_38 : shM 38 = .inr (0, 20, fun k => k) := rfl
theorem nM_38 : 38 < 48 := Nat.le_of_ble_eq_true rfl
theorem sM_39 : shM 39 = .inr (0, 20, fun k => k) := rfl
theorem nM_39 : 39 < 48 := Nat.le_of_ble_eq_true rfl
theorem sM_40 : shM 40 = .inr (0, 6, fun k => k) := rfl
theorem nM_40 : 40 < 48 := Nat.le_of_ble_eq_true rfl
theorem sM_41 : shM 41 = .inr (0, 6, fun k => k) := rfl
theorem nM_41 : 41 < 48 := Nat.le_of_ble_eq_true rfl
theorem sM_42 : shM 42 = .inr (0, 12, fun k => k) := rfl
theorem nM_42 : 42 < 48 := Nat.le_of_ble_eq_true rfl
theorem sM_43 : shM 43 = .inr (0, 12, fun k => k) := rfl
theorem nM_43 : 43 < 48 := Nat.le_of_ble_eq_true rfl
theorem sM_44 : shM 44 = .inr (0, 12, fun k => k) := rfl
theorem nM_44 : 44 < 48 := Nat.le_of_ble_eq_true rfl
theorem sM_45 : shM 45 = .inr (0, 12, fun k => k) := rfl
theorem nM_45 : 45 < 48 := Nat.le_of_ble_eq_true rfl
theorem sM_46 : shM 46 = .inr (0, 12, fun k => k) := rfl
theorem nM_46 : 46 < 48 := Nat.le_of_ble_eq_true rfl
theorem sM_47 : shM 47 = .inr (0, 49, fun k => k) := rfl
theorem nM_47 : 47 < 48 := Nat.le_of_ble_eq_true rfl
theorem uw_X0 : ∀ w ∈ u_ws RX0 TX0 10, w ∈ WG := by
  intro w hw
  simp only [u_ws, List.mem_map, List.mem_range] at hw
  obtain ⟨k, hk, rfl⟩ := hw
  match k, hk with
  | 0, _ => exact (tb2 47 rfl rfl)
  | 1, _ => exact (tb2 49 rfl rfl)
  | 2, _ => exact (tb2 51 rfl rfl)
  | 3, _ => exact (tb2 53 rfl rfl)
  | 4, _ => exact (tb2 55 rfl rfl)
  | 5, _ => exact (tb2 57 rfl rfl)
  | 6, _ => exact (tb2 59 rfl rfl)
  | 7, _ => exact (tb2 61 rfl rfl)
  | 8, _ => exact (tb2 63 rfl rfl)
  | 9, _ => exact (tb2 65 rfl rfl)
  | k + 10, h => exact absurd h (by omega)
theorem uw_X1 : ∀ w ∈ u_ws RX1 TX1 6, w ∈ WG := by
  intro w hw
  simp only [u_ws, List.mem_map, List.mem_range] at hw
  obtain ⟨k, hk, rfl⟩ := hw
  match k, hk with
  | 0, _ => exact (tb1 54 rfl rfl)
  | 1, _ => exact (tb1 56 rfl rfl)
  | 2, _ => exact (tb1 58 rfl rfl)
  | 3, _ => exact (tb1 60 rfl rfl)
  | 4, _ => exact (tb1 62 rfl rfl)
  | 5, _ => exact (tb1 64 rfl rfl)
  | k + 6, h => exact absurd h (by omega)
theorem uw_X2 : ∀ w ∈ u_ws RX2 TX2 7, w ∈ WG := by
  intro w hw
  simp only [u_ws, List.mem_map, List.mem_range] at hw
  obtain ⟨k, hk, rfl⟩ := hw
  match k, hk with
  | 0, _ => exact (tb1 80 rfl rfl)
  | 1, _ => exact (tb1 82 rfl rfl)
  | 2, _ => exact (tb1 84 rfl rfl)
  | 3, _ => exact (tb1 86 rfl rfl)
  | 4, _ => exact (tb1 88 rfl rfl)
  | 5, _ => exact (tb1 90 rfl rfl)
  | 6, _ => exact (tb1 92 rfl rfl)
  | k + 7, h => exact absurd h (by omega)
theorem uw_X3 : ∀ w ∈ u_ws RX3 TX3 2, w ∈ WG := by
  intro w hw
  simp only [u_ws, List.mem_map, List.mem_range] at hw
  obtain ⟨k, hk, rfl⟩ := hw
  match k, hk with
  | 0, _ => exact (tb1 103 rfl rfl)
  | 1, _ => exact (tb1 105 rfl rfl)
  | k + 2, h => exact absurd h (by omega)
theorem uw_X4 : ∀ w ∈ u_ws RX4 TX4 9, w ∈ WG := by
  intro w hw
  simp only [u_ws, List.mem_map, List.mem_range] at hw
  obtain ⟨k, hk, rfl⟩ := hw
  match k, hk with
  | 0, _ => exact (tb1 123 rfl rfl)
  | 1, _ => exact (tb1 125 rfl rfl)
  | 2, _ => exact (tb1 127 rfl rfl)
  | 3, _ => exact (tb1 129 rfl rfl)
  | 4, _ => exact (tb1 131 rfl rfl)
  | 5, _ => exact (tb1 133 rfl rfl)
  | 6, _ => exact (tb1 135 rfl rfl)
  | 7, _ => exact (tb1 137 rfl rfl)
  | 8, _ => exact (tb1 139 rfl rfl)
  | k + 9, h => exact absurd h (by omega)
theorem uw_X5 : ∀ w ∈ u_ws RX5 TX5 13, w ∈ WG := by
  intro w hw
  simp only [u_ws, List.mem_map, List.mem_range] at hw
  obtain ⟨k, hk, rfl⟩ := hw
  match k, hk with
  | 0, _ => exact (tb2 2 rfl rfl)
  | 1, _ => exact (tb2 4 rfl rfl)
  | 2, _ => exact (tb2 6 rfl rfl)
  | 3, _ => exact (tb2 8 rfl rfl)
  | 4, _ => exact (tb2 10 rfl rfl)
  | 5, _ => exact (tb2 12 rfl rfl)
  | 6, _ => exact (tb2 14 rfl rfl)
  | 7, _ => exact (tb2 16 rfl rfl)
  | 8, _ => exact (tb2 18 rfl rfl)
  | 9, _ => exact (tb2 20 rfl rfl)
  | 10, _ => exact (tb2 22 rfl rfl)
  | 11, _ => exact (tb2 24 rfl rfl)
  | 12, _ => exact (tb2 26 rfl rfl)
  | k + 13, h => exact absurd h (by omega)
theorem uw_X6 : ∀ w ∈ u_ws RX6 TX6 1, w ∈ WG := by
  intro w hw
  simp only [u_ws, List.mem_map, List.mem_range] at hw
  obtain ⟨k, hk, rfl⟩ := hw
  match k, hk with
  | 0, _ => exact (tb2 75 rfl rfl)
  | k + 1, h => exact absurd h (by omega)
theorem uw_X7 : ∀ w ∈ u_ws RX7 TX7 13, w ∈ WG := by
  intro w hw
  simp only [u_ws, List.mem_map, List.mem_range] at hw
  obtain ⟨k, hk, rfl⟩ := hw
  match k, hk with
  | 0, _ => exact (tb1 174 rfl rfl)
  | 1, _ => exact (tb1 176 rfl rfl)
  | 2, _ => exact (tb1 178 rfl rfl)
  | 3, _ => exact (tb1 180 rfl rfl)
  | 4, _ => exact (tb1 182 rfl rfl)
  | 5, _ => exact (tb1 184 rfl rfl)
  | 6, _ => exact (tb1 186 rfl rfl)
  | 7, _ => exact (tb1 188 rfl rfl)
  | 8, _ => exact (tb1 190 rfl rfl)
  | 9, _ => exact (tb1 192 rfl rfl)
  | 10, _ => exact (tb1 194 rfl rfl)
  | 11, _ => exact (tb1 196 rfl rfl)
  | 12, _ => exact (tb1 198 rfl rfl)
  | k + 13, h => exact absurd h (by omega)
theorem uw_X8 : ∀ w ∈ u_ws RX8 TX8 5, w ∈ WG := by
  intro w hw
  simp only [u_ws, List.mem_map, List.mem_range] at hw
  obtain ⟨k, hk, rfl⟩ := hw
  match k, hk with
  | 0, _ => exact (tb1 212 rfl rfl)
  | 1, _ => exact (tb1 214 rfl rfl)
  | 2, _ => exact (tb1 216 rfl rfl)
  | 3, _ => exact (tb1 218 rfl rfl)
  | 4, _ => exact (tb1 220 rfl rfl)
  | k + 5, h => exact absurd h (by omega)
theorem uw_X9 : ∀ w ∈ u_ws RX9 TX9 2, w ∈ WG := by
  intro w hw
  simp only [u_ws, List.mem_map, List.mem_range] at hw
  obtain ⟨k, hk, rfl⟩ := hw
  match k, hk with
  | 0, _ => exact (tb1 150 rfl rfl)
  | 1, _ => exact (tb1 152 rfl rfl)
  | k + 2, h => exact absurd h (by omega)
theorem uw_X10 : ∀ w ∈ u_ws RX10 TX10 2, w ∈ WG := by
  intro w hw
  simp only [u_ws, List.mem_map, List.mem_range] at hw
  obtain ⟨k, hk, rfl⟩ := hw
  match k, hk with
  | 0, _ => exact (tb1 36 rfl rfl)
  | 1, _ => exact (tb1 38 rfl rfl)
  | k + 2, h => exact absurd h (by omega)
theorem uw_X11 : ∀ w ∈ u_ws RX11 TX11 13, w ∈ WG := by
  intro w hw
  simp only [u_ws, List.mem_map, List.mem_range] at hw
  obtain ⟨k, hk, rfl⟩ := hw
  match k, hk with
  | 0, _ => exact (tb2 91 rfl rfl)
  | 1, _ => exact (tb2 93 rfl rfl)
  | 2, _ => exact (tb2 95 rfl rfl)
  | 3, _ => exact (tb2 97 rfl rfl)
  | 4, _ => exact (tb2 99 rfl rfl)
  | 5, _ => exact (tb2 101 rfl rfl)
  | 6, _ => exact (tb2 103 rfl rfl)
  | 7, _ => exact (tb2 105 rfl rfl)
  | 8, _ => exact (tb2 107 rfl rfl)
  | 9, _ => exact (tb2 109 rfl rfl)
  | 10, _ => exact (tb2 111 rfl rfl)
  | 11, _ => exact (tb2 113 rfl rfl)
  | 12, _ => exact (tb2 115 rfl rfl)
  | k + 13, h => exact absurd h (by omega)
theorem uw_X12 : ∀ w ∈ u_ws RX12 TX12 56, w ∈ WG := by
  intro w hw
  simp only [u_ws, List.mem_map, List.mem_range] at hw
  obtain ⟨k, hk, rfl⟩ := hw
  match k, hk with
  | 0, _ => exact (tb5 162 rfl rfl)
  | 1, _ => exact (tb5 164 rfl rfl)
  | 2, _ => exact (tb5 166 rfl rfl)
  | 3, _ => exact (tb5 168 rfl rfl)
  | 4, _ => exact (tb5 170 rfl rfl)
  | 5, _ => exact (tb5 172 rfl rfl)
  | 6, _ => exact (tb5 174 rfl rfl)
  | 7, _ => exact (tb5 176 rfl rfl)
  | 8, _ => exact (tb5 178 rfl rfl)
  | 9, _ => exact (tb5 180 rfl rfl)
  | 10, _ => exact (tb5 182 rfl rfl)
  | 11, _ => exact (tb5 184 rfl rfl)
  | 12, _ => exact (tb5 186 rfl rfl)
  | 13, _ => exact (tb5 188 rfl rfl)
  | 14, _ => exact (tb5 190 rfl rfl)
  | 15, _ => exact (tb5 192 rfl rfl)
  | 16, _ => exact (tb5 194 rfl rfl)
  | 17, _ => exact (tb5 196 rfl rfl)
  | 18, _ => exact (tb5 198 rfl rfl)
  | 19, _ => exact (tb5 200 rfl rfl)
  | 20, _ => exact (tb5 202 rfl rfl)
  | 21, _ => exact (tb5 204 rfl rfl)
  | 22, _ => exact (tb5 206 rfl rfl)
  | 23, _ => exact (tb5 208 rfl rfl)
  | 24, _ => exact (tb5 210 rfl rfl)
  | 25, _ => exact (tb5 212 rfl rfl)
  | 26, _ => exact (tb5 214 rfl rfl)
  | 27, _ => exact (tb5 216 rfl rfl)
  | 28, _ => exact (tb5 218 rfl rfl)
  | 29, _ => exact (tb5 220 rfl rfl)
  | 30, _ => exact (tb5 222 rfl rfl)
  | 31, _ => exact (tb5 224 rfl rfl)
  | 32, _ => exact (tb5 226 rfl rfl)
  | 33, _ => exact (tb5 228 rfl rfl)
  | 34, _ => exact (tb5 230 rfl rfl)
  | 35, _ => exact (tb5 232 rfl rfl)
  | 36, _ => exact (tb5 234 rfl rfl)
  | 37, _ => exact (tb5 236 rfl rfl)
  | 38, _ => exact (tb5 238 rfl rfl)
  | 39, _ => exact (tb6 0 rfl rfl)
  | 40, _ => exact (tb6 2 rfl rfl)
  | 41, _ => exact (tb6 4 rfl rfl)
  | 42, _ => exact (tb6 6 rfl rfl)
  | 43, _ => exact (tb6 8 rfl rfl)
  | 44, _ => exact (tb6 10 rfl rfl)
  | 45, _ => exact (tb6 12 rfl rfl)
  | 46, _ => exact (tb6 14 rfl rfl)
  | 47, _ => exact (tb6 16 rfl rfl)
  | 48, _ => exact (tb6 18 rfl rfl)
  | 49, _ => exact (tb6 20 rfl rfl)
  | 50, _ => exact (tb6 22 rfl rfl)
  | 51, _ => exact (tb6 24 rfl rfl)
  | 52, _ => exact (tb6 26 rfl rfl)
  | 53, _ => exact (tb6 28 rfl rfl)
  | 54, _ => exact (tb6 30 rfl rfl)
  | 55, _ => exact (tb6 32 rfl rfl)
  | k + 56, h => exact absurd h (by omega)
theorem fd_X0_9 : kFd RX0 9 0 0 := ⟨RX0, TX0, 10, rfl, by decide, uw_X0, tb2 37 rfl rfl⟩
theorem fd_X0_15 : kFd RX0 15 0 1 := ⟨RX0, TX0, 10, rfl, by decide, uw_X0, tb2 38 rfl rfl⟩
theorem fd_X0_18 : kFd RX0 18 0 2 := ⟨RX0, TX0, 10, rfl, by decide, uw_X0, tb2 39 rfl rfl⟩
theorem fd_X0_21 : kFd RX0 21 0 3 := ⟨RX0, TX0, 10, rfl, by decide, uw_X0, tb2 40 rfl rfl⟩
theorem fd_X0_24 : kFd RX0 24 0 5 := ⟨RX0, TX0, 10, rfl, by decide, uw_X0, tb2 42 rfl rfl⟩
theorem fd_X0_27 : kFd RX0 27 0 6 := ⟨RX0, TX0, 10, rfl, by decide, uw_X0, tb2 43 rfl rfl⟩
theorem fd_X0_30 : kFd RX0 30 0 7 := ⟨RX0, TX0, 10, rfl, by decide, uw_X0, tb2 44 rfl rfl⟩
theorem fd_X0_35 : kFd RX0 35 0 9 := ⟨RX0, TX0, 10, rfl, by decide, uw_X0, tb2 46 rfl rfl⟩
theorem fd_X0_38 : kFd RX0 38 0 4 := ⟨RX0, TX0, 10, rfl, by decide, uw_X0, tb2 41 rfl rfl⟩
theorem fw_X0_38 : kFw RX0 38 0 4 := ⟨RX0, TX0, 10, tyX0, rfl, by decide, uw_X0, tb2 41 rfl rfl, tyX0_ok, nmX0, rfl, rfl⟩
theorem fd_X0_42 : kFd RX0 42 0 8 := ⟨RX0, TX0, 10, rfl, by decide, uw_X0, tb2 45 rfl rfl⟩
theorem fw_X0_42 : kFw RX0 42 0 8 := ⟨RX0, TX0, 10, tyX0, rfl, by decide, uw_X0, tb2 45 rfl rfl, tyX0_ok, nmX0, rfl, rfl⟩
theorem fd_X1_9 : kFd RX1 9 1 0 := ⟨RX1, TX1, 6, rfl, by decide, uw_X1, tb1 48 rfl rfl⟩
theorem fd_X1_15 : kFd RX1 15 1 1 := ⟨RX1, TX1, 6, rfl, by decide, uw_X1, tb1 49 rfl rfl⟩
theorem fd_X1_18 : kFd RX1 18 1 2 := ⟨RX1, TX1, 6, rfl, by decide, uw_X1, tb1 50 rfl rfl⟩
theorem fd_X1_21 : kFd RX1 21 1 3 := ⟨RX1, TX1, 6, rfl, by decide, uw_X1, tb1 51 rfl rfl⟩
theorem fd_X1_24 : kFd RX1 24 1 4 := ⟨RX1, TX1, 6, rfl, by decide, uw_X1, tb1 52 rfl rfl⟩
theorem fw_X1_24 : kFw RX1 24 1 4 := ⟨RX1, TX1, 6, tyX1, rfl, by decide, uw_X1, tb1 52 rfl rfl, tyX1_ok, nmX1, rfl, rfl⟩
theorem fd_X1_28 : kFd RX1 28 1 5 := ⟨RX1, TX1, 6, rfl, by decide, uw_X1, tb1 53 rfl rfl⟩
theorem fw_X1_28 : kFw RX1 28 1 5 := ⟨RX1, TX1, 6, tyX1, rfl, by decide, uw_X1, tb1 53 rfl rfl, tyX1_ok, nmX1, rfl, rfl⟩
theorem fd_X2_11 : kFd RX2 11 2 2 := ⟨RX2, TX2, 7, rfl, by decide, uw_X2, tb1 75 rfl rfl⟩
theorem fd_X2_17 : kFd RX2 17 2 3 := ⟨RX2, TX2, 7, rfl, by decide, uw_X2, tb1 76 rfl rfl⟩
theorem fd_X2_20 : kFd RX2 20 2 0 := ⟨RX2, TX2, 7, rfl, by decide, uw_X2, tb1 73 rfl rfl⟩
theorem fd_X2_24 : kFd RX2 24 2 1 := ⟨RX2, TX2, 7, rfl, by decide, uw_X2, tb1 74 rfl rfl⟩
theorem fd_X2_31 : kFd RX2 31 2 6 := ⟨RX2, TX2, 7, rfl, by decide, uw_X2, tb1 79 rfl rfl⟩
theorem fw_X2_31 : kFw RX2 31 2 6 := ⟨RX2, TX2, 7, tyX2, rfl, by decide, uw_X2, tb1 79 rfl rfl, tyX2_ok, nmX2, rfl, rfl⟩
theorem fd_X2_38 : kFd RX2 38 2 4 := ⟨RX2, TX2, 7, rfl, by decide, uw_X2, tb1 77 rfl rfl⟩
theorem fw_X2_38 : kFw RX2 38 2 4 := ⟨RX2, TX2, 7, tyX2, rfl, by decide, uw_X2, tb1 77 rfl rfl, tyX2_ok, nmX2, rfl, rfl⟩
theorem fd_X2_41 : kFd RX2 41 2 5 := ⟨RX2, TX2, 7, rfl, by decide, uw_X2, tb1 78 rfl rfl⟩
theorem fw_X2_41 : kFw RX2 41 2 5 := ⟨RX2, TX2, 7, tyX2, rfl, by decide, uw_X2, tb1 78 rfl rfl, tyX2_ok, nmX2, rfl, rfl⟩
theorem fd_X3_11 : kFd RX3 11 3 0 := ⟨RX3, TX3, 2, rfl, by decide, uw_X3, tb1 101 rfl rfl⟩
theorem fd_X3_15 : kFd RX3 15 3 1 := ⟨RX3, TX3, 2, rfl, by decide, uw_X3, tb1 102 rfl rfl⟩
theorem fw_X3_15 : kFw RX3 15 3 1 := ⟨RX3, TX3, 2, tyX3, rfl, by decide, uw_X3, tb1 102 rfl rfl, tyX3_ok, nmX3, rfl, rfl⟩
theorem fd_X4_11 : kFd RX4 11 4 0 := ⟨RX4, TX4, 9, rfl, by decide, uw_X4, tb1 114 rfl rfl⟩
theorem fd_X4_15 : kFd RX4 15 4 1 := ⟨RX4, TX4, 9, rfl, by decide, uw_X4, tb1 115 rfl rfl⟩
theorem fd_X4_18 : kFd RX4 18 4 2 := ⟨RX4, TX4, 9, rfl, by decide, uw_X4, tb1 116 rfl rfl⟩
theorem fd_X4_21 : kFd RX4 21 4 3 := ⟨RX4, TX4, 9, rfl, by decide, uw_X4, tb1 117 rfl rfl⟩
theorem fd_X4_24 : kFd RX4 24 4 4 := ⟨RX4, TX4, 9, rfl, by decide, uw_X4, tb1 118 rfl rfl⟩
theorem fd_X4_27 : kFd RX4 27 4 5 := ⟨RX4, TX4, 9, rfl, by decide, uw_X4, tb1 119 rfl rfl⟩
theorem fd_X4_30 : kFd RX4 30 4 7 := ⟨RX4, TX4, 9, rfl, by decide, uw_X4, tb1 121 rfl rfl⟩
theorem fw_X4_30 : kFw RX4 30 4 7 := ⟨RX4, TX4, 9, tyX4, rfl, by decide, uw_X4, tb1 121 rfl rfl, tyX4_ok, nmX4, rfl, rfl⟩
theorem fd_X4_34 : kFd RX4 34 4 8 := ⟨RX4, TX4, 9, rfl, by decide, uw_X4, tb1 122 rfl rfl⟩
theorem fw_X4_34 : kFw RX4 34 4 8 := ⟨RX4, TX4, 9, tyX4, rfl, by decide, uw_X4, tb1 122 rfl rfl, tyX4_ok, nmX4, rfl, rfl⟩
theorem fd_X4_41 : kFd RX4 41 4 6 := ⟨RX4, TX4, 9, rfl, by decide, uw_X4, tb1 120 rfl rfl⟩
theorem fw_X4_41 : kFw RX4 41 4 6 := ⟨RX4, TX4, 9, tyX4, rfl, by decide, uw_X4, tb1 120 rfl rfl, tyX4_ok, nmX4, rfl, rfl⟩
theorem fd_X5_13 : kFd RX5 13 5 1 := ⟨RX5, TX5, 13, rfl, by decide, uw_X5, tb1 230 rfl rfl⟩
theorem fd_X5_17 : kFd RX5 17 5 2 := ⟨RX5, TX5, 13, rfl, by decide, uw_X5, tb1 231 rfl rfl⟩
theorem fd_X5_20 : kFd RX5 20 5 3 := ⟨RX5, TX5, 13, rfl, by decide, uw_X5, tb1 232 rfl rfl⟩
theorem fd_X5_23 : kFd RX5 23 5 4 := ⟨RX5, TX5, 13, rfl, by decide, uw_X5, tb1 233 rfl rfl⟩
theorem fd_X5_26 : kFd RX5 26 5 5 := ⟨RX5, TX5, 13, rfl, by decide, uw_X5, tb1 234 rfl rfl⟩
theorem fd_X5_29 : kFd RX5 29 5 7 := ⟨RX5, TX5, 13, rfl, by decide, uw_X5, tb1 236 rfl rfl⟩
theorem fd_X5_32 : kFd RX5 32 5 8 := ⟨RX5, TX5, 13, rfl, by decide, uw_X5, tb1 237 rfl rfl⟩
theorem fd_X5_35 : kFd RX5 35 5 9 := ⟨RX5, TX5, 13, rfl, by decide, uw_X5, tb1 238 rfl rfl⟩
theorem fd_X5_38 : kFd RX5 38 5 10 := ⟨RX5, TX5, 13, rfl, by decide, uw_X5, tb1 239 rfl rfl⟩
theorem fd_X5_41 : kFd RX5 41 5 11 := ⟨RX5, TX5, 13, rfl, by decide, uw_X5, tb2 0 rfl rfl⟩
theorem fd_X5_44 : kFd RX5 44 5 12 := ⟨RX5, TX5, 13, rfl, by decide, uw_X5, tb2 1 rfl rfl⟩
theorem fd_X5_47 : kFd RX5 47 5 0 := ⟨RX5, TX5, 13, rfl, by decide, uw_X5, tb1 229 rfl rfl⟩
theorem fd_X5_51 : kFd RX5 51 5 6 := ⟨RX5, TX5, 13, rfl, by decide, uw_X5, tb1 235 rfl rfl⟩
theorem fw_X5_51 : kFw RX5 51 5 6 := ⟨RX5, TX5, 13, tyX5, rfl, by decide, uw_X5, tb1 235 rfl rfl, tyX5_ok, nmX5, rfl, rfl⟩
theorem fd_X6_11 : kFd RX6 11 6 0 := ⟨RX6, TX6, 1, rfl, by decide, uw_X6, tb2 74 rfl rfl⟩
theorem fd_X7_11 : kFd RX7 11 7 4 := ⟨RX7, TX7, 13, rfl, by decide, uw_X7, tb1 165 rfl rfl⟩
theorem fd_X7_17 : kFd RX7 17 7 5 := ⟨RX7, TX7, 13, rfl, by decide, uw_X7, tb1 166 rfl rfl⟩
theorem fd_X7_20 : kFd RX7 20 7 8 := ⟨RX7, TX7, 13, rfl, by decide, uw_X7, tb1 169 rfl rfl⟩
theorem fd_X7_23 : kFd RX7 23 7 9 := ⟨RX7, TX7, 13, rfl, by decide, uw_X7, tb1 170 rfl rfl⟩
theorem fd_X7_26 : kFd RX7 26 7 10 := ⟨RX7, TX7, 13, rfl, by decide, uw_X7, tb1 171 rfl rfl⟩
theorem fd_X7_29 : kFd RX7 29 7 11 := ⟨RX7, TX7, 13, rfl, by decide, uw_X7, tb1 172 rfl rfl⟩
theorem fd_X7_32 : kFd RX7 32 7 0 := ⟨RX7, TX7, 13, rfl, by decide, uw_X7, tb1 161 rfl rfl⟩
theorem fd_X7_36 : kFd RX7 36 7 1 := ⟨RX7, TX7, 13, rfl, by decide, uw_X7, tb1 162 rfl rfl⟩
theorem fd_X7_40 : kFd RX7 40 7 2 := ⟨RX7, TX7, 13, rfl, by decide, uw_X7, tb1 163 rfl rfl⟩
theorem fd_X7_44 : kFd RX7 44 7 3 := ⟨RX7, TX7, 13, rfl, by decide, uw_X7, tb1 164 rfl rfl⟩
theorem fd_X7_63 : kFd RX7 63 7 6 := ⟨RX7, TX7, 13, rfl, by decide, uw_X7, tb1 167 rfl rfl⟩
theorem fw_X7_63 : kFw RX7 63 7 6 := ⟨RX7, TX7, 13, tyX7, rfl, by decide, uw_X7, tb1 167 rfl rfl, tyX7_ok, nmX7, rfl, rfl⟩
theorem fd_X7_76 : kFd RX7 76 7 7 := ⟨RX7, TX7, 13, rfl, by decide, uw_X7, tb1 168 rfl rfl⟩
theorem fw_X7_76 : kFw RX7 76 7 7 := ⟨RX7, TX7, 13, tyX7, rfl, by decide, uw_X7, tb1 168 rfl rfl, tyX7_ok, nmX7, rfl, rfl⟩
theorem fd_X7_108 : kFd RX7 108 7 12 := ⟨RX7, TX7, 13, rfl, by decide, uw_X7, tb1 173 rfl rfl⟩
theorem fw_X7_108 : kFw RX7 108 7 12 := ⟨RX7, TX7, 13, tyX7, rfl, by decide, uw_X7, tb1 173 rfl rfl, tyX7_ok, nmX7, rfl, rfl⟩
theorem fd_X8_11 : kFd RX8 11 8 2 := ⟨RX8, TX8, 5, rfl, by decide, uw_X8, tb1 209 rfl rfl⟩
theorem fd_X8_17 : kFd RX8 17 8 3 := ⟨RX8, TX8, 5, rfl, by decide, uw_X8, tb1 210 rfl rfl⟩
theorem fd_X8_20 : kFd RX8 20 8 0 := ⟨RX8, TX8, 5, rfl, by decide, uw_X8, tb1 207 rfl rfl⟩
theorem fd_X8_24 : kFd RX8 24 8 1 := ⟨RX8, TX8, 5, rfl, by decide, uw_X8, tb1 208 rfl rfl⟩
theorem fd_X8_28 : kFd RX8 28 8 4 := ⟨RX8, TX8, 5, rfl, by decide, uw_X8, tb1 211 rfl rfl⟩
theorem fw_X8_28 : kFw RX8 28 8 4 := ⟨RX8, TX8, 5, tyX8, rfl, by decide, uw_X8, tb1 211 rfl rfl, tyX8_ok, nmX8, rfl, rfl⟩
theorem fd_X9_11 : kFd RX9 11 9 0 := ⟨RX9, TX9, 2, rfl, by decide, uw_X9, tb1 148 rfl rfl⟩
theorem fd_X9_15 : kFd RX9 15 9 1 := ⟨RX9, TX9, 2, rfl, by decide, uw_X9, tb1 149 rfl rfl⟩
theorem fw_X9_15 : kFw RX9 15 9 1 := ⟨RX9, TX9, 2, tyX9, rfl, by decide, uw_X9, tb1 149 rfl rfl, tyX9_ok, nmX9, rfl, rfl⟩
theorem fd_X10_11 : kFd RX10 11 10 0 := ⟨RX10, TX10, 2, rfl, by decide, uw_X10, tb1 34 rfl rfl⟩
theorem fd_X10_15 : kFd RX10 15 10 1 := ⟨RX10, TX10, 2, rfl, by decide, uw_X10, tb1 35 rfl rfl⟩
theorem fw_X10_15 : kFw RX10 15 10 1 := ⟨RX10, TX10, 2, tyX10, rfl, by decide, uw_X10, tb1 35 rfl rfl, tyX10_ok, nmX10, rfl, rfl⟩
theorem fd_X11_10 : kFd RX11 10 11 0 := ⟨RX11, TX11, 13, rfl, by decide, uw_X11, tb2 78 rfl rfl⟩
theorem fd_X11_19 : kFd RX11 19 11 1 := ⟨RX11, TX11, 13, rfl, by decide, uw_X11, tb2 79 rfl rfl⟩
theorem fd_X11_23 : kFd RX11 23 11 2 := ⟨RX11, TX11, 13, rfl, by decide, uw_X11, tb2 80 rfl rfl⟩
theorem fd_X11_31 : kFd RX11 31 11 3 := ⟨RX11, TX11, 13, rfl, by decide, uw_X11, tb2 81 rfl rfl⟩
theorem fd_X11_38 : kFd RX11 38 11 4 := ⟨RX11, TX11, 13, rfl, by decide, uw_X11, tb2 82 rfl rfl⟩
theorem fd_X11_45 : kFd RX11 45 11 5 := ⟨RX11, TX11, 13, rfl, by decide, uw_X11, tb2 83 rfl rfl⟩
theorem fd_X11_52 : kFd RX11 52 11 6 := ⟨RX11, TX11, 13, rfl, by decide, uw_X11, tb2 84 rfl rfl⟩
theorem fd_X11_61 : kFd RX11 61 11 7 := ⟨RX11, TX11, 13, rfl, by decide, uw_X11, tb2 85 rfl rfl⟩
theorem fd_X11_68 : kFd RX11 68 11 8 := ⟨RX11, TX11, 13, rfl, by decide, uw_X11, tb2 86 rfl rfl⟩
theorem fd_X11_77 : kFd RX11 77 11 9 := ⟨RX11, TX11, 13, rfl, by decide, uw_X11, tb2 87 rfl rfl⟩
theorem fd_X11_84 : kFd RX11 84 11 10 := ⟨RX11, TX11, 13, rfl, by decide, uw_X11, tb2 88 rfl rfl⟩
theorem fd_X11_91 : kFd RX11 91 11 11 := ⟨RX11, TX11, 13, rfl, by decide, uw_X11, tb2 89 rfl rfl⟩
theorem fd_X11_95 : kFd RX11 95 11 12 := ⟨RX11, TX11, 13, rfl, by decide, uw_X11, tb2 90 rfl rfl⟩
theorem fd_X12_9 : kFd RX12 9 12 0 := ⟨RX12, TX12, 56, rfl, by decide, uw_X12, tb5 106 rfl rfl⟩
theorem fd_X12_15 : kFd RX12 15 12 5 := ⟨RX12, TX12, 56, rfl, by decide, uw_X12, tb5 111 rfl rfl⟩
theorem fd_X12_18 : kFd RX12 18 12 6 := ⟨RX12, TX12, 56, rfl, by decide, uw_X12, tb5 112 rfl rfl⟩
theorem fd_X12_23 : kFd RX12 23 12 7 := ⟨RX12, TX12, 56, rfl, by decide, uw_X12, tb5 113 rfl rfl⟩
theorem fd_X12_26 : kFd RX12 26 12 8 := ⟨RX12, TX12, 56, rfl, by decide, uw_X12, tb5 114 rfl rfl⟩
theorem fd_X12_30 : kFd RX12 30 12 9 := ⟨RX12, TX12, 56, rfl, by decide, uw_X12, tb5 115 rfl rfl⟩
theorem fd_X12_41 : kFd RX12 41 12 10 := ⟨RX12, TX12, 56, rfl, by decide, uw_X12, tb5 116 rfl rfl⟩
theorem fd_X12_45 : kFd RX12 45 12 11 := ⟨RX12, TX12, 56, rfl, by decide, uw_X12, tb5 117 rfl rfl⟩
theorem fd_X12_48 : kFd RX12 48 12 12 := ⟨RX12, TX12, 56, rfl, by decide, uw_X12, tb5 118 rfl rfl⟩
theorem fd_X12_51 : kFd RX12 51 12 13 := ⟨RX12, TX12, 56, rfl, by decide, uw_X12, tb5 119 rfl rfl⟩
theorem fd_X12_54 : kFd RX12 54 12 14 := ⟨RX12, TX12, 56, rfl, by decide, uw_X12, tb5 120 rfl rfl⟩
theorem fd_X12_57 : kFd RX12 57 12 15 := ⟨RX12, TX12, 56, rfl, by decide, uw_X12, tb5 121 rfl rfl⟩
theorem fd_X12_60 : kFd RX12 60 12 16 := ⟨RX12, TX12, 56, rfl, by decide, uw_X12, tb5 122 rfl rfl⟩
theorem fd_X12_63 : kFd RX12 63 12 17 := ⟨RX12, TX12, 56, rfl, by decide, uw_X12, tb5 123 rfl rfl⟩
theorem fd_X12_66 : kFd RX12 66 12 24 := ⟨RX12, TX12, 56, rfl, by decide, uw_X12, tb5 130 rfl rfl⟩
theorem fd_X12_69 : kFd RX12 69 12 25 := ⟨RX12, TX12, 56, rfl, by decide, uw_X12, tb5 131 rfl rfl⟩
theorem fd_X12_72 : kFd RX12 72 12 26 := ⟨RX12, TX12, 56, rfl, by decide, uw_X12, tb5 132 rfl rfl⟩
theorem fd_X12_75 : kFd RX12 75 12 27 := ⟨RX12, TX12, 56, rfl, by decide, uw_X12, tb5 133 rfl rfl⟩
theorem fd_X12_78 : kFd RX12 78 12 29 := ⟨RX12, TX12, 56, rfl, by decide, uw_X12, tb5 135 rfl rfl⟩
theorem fd_X12_81 : kFd RX12 81 12 30 := ⟨RX12, TX12, 56, rfl, by decide, uw_X12, tb5 136 rfl rfl⟩
theorem fd_X12_84 : kFd RX12 84 12 31 := ⟨RX12, TX12, 56, rfl, by decide, uw_X12, tb5 137 rfl rfl⟩
theorem fd_X12_87 : kFd RX12 87 12 32 := ⟨RX12, TX12, 56, rfl, by decide, uw_X12, tb5 138 rfl rfl⟩
theorem fd_X12_90 : kFd RX12 90 12 33 := ⟨RX12, TX12, 56, rfl, by decide, uw_X12, tb5 139 rfl rfl⟩
theorem fd_X12_93 : kFd RX12 93 12 34 := ⟨RX12, TX12, 56, rfl, by decide, uw_X12, tb5 140 rfl rfl⟩
theorem fd_X12_96 : kFd RX12 96 12 35 := ⟨RX12, TX12, 56, rfl, by decide, uw_X12, tb5 141 rfl rfl⟩
theorem fd_X12_99 : kFd RX12 99 12 37 := ⟨RX12, TX12, 56, rfl, by decide, uw_X12, tb5 143 rfl rfl⟩
theorem fd_X12_102 : kFd RX12 102 12 38 := ⟨RX12, TX12, 56, rfl, by decide, uw_X12, tb5 144 rfl rfl⟩
theorem fd_X12_105 : kFd RX12 105 12 39 := ⟨RX12, TX12, 56, rfl, by decide, uw_X12, tb5 145 rfl rfl⟩
theorem fd_X12_108 : kFd RX12 108 12 40 := ⟨RX12, TX12, 56, rfl, by decide, uw_X12, tb5 146 rfl rfl⟩
theorem fd_X12_111 : kFd RX12 111 12 41 := ⟨RX12, TX12, 56, rfl, by decide, uw_X12, tb5 147 rfl rfl⟩
theorem fd_X12_114 : kFd RX12 114 12 42 := ⟨RX12, TX12, 56, rfl, by decide, uw_X12, tb5 148 rfl rfl⟩
theorem fd_X12_117 : kFd RX12 117 12 43 := ⟨RX12, TX12, 56, rfl, by decide, uw_X12, tb5 149 rfl rfl⟩
theorem fd_X12_120 : kFd RX12 120 12 44 := ⟨RX12, TX12, 56, rfl, by decide, uw_X12, tb5 150 rfl rfl⟩
theorem fd_X12_123 : kFd RX12 123 12 46 := ⟨RX12, TX12, 56, rfl, by decide, uw_X12, tb5 152 rfl rfl⟩
theorem fd_X12_126 : kFd RX12 126 12 47 := ⟨RX12, TX12, 56, rfl, by decide, uw_X12, tb5 153 rfl rfl⟩
theorem fd_X12_129 : kFd RX12 129 12 48 := ⟨RX12, TX12, 56, rfl, by decide, uw_X12, tb5 154 rfl rfl⟩
theorem fd_X12_132 : kFd RX12 132 12 49 := ⟨RX12, TX12, 56, rfl, by decide, uw_X12, tb5 155 rfl rfl⟩
theorem fd_X12_135 : kFd RX12 135 12 50 := ⟨RX12, TX12, 56, rfl, by decide, uw_X12, tb5 156 rfl rfl⟩
theorem fd_X12_138 : kFd RX12 138 12 51 := ⟨RX12, TX12, 56, rfl, by decide, uw_X12, tb5 157 rfl rfl⟩
theorem fd_X12_141 : kFd RX12 141 12 52 := ⟨RX12, TX12, 56, rfl, by decide, uw_X12, tb5 158 rfl rfl⟩
theorem fd_X12_144 : kFd RX12 144 12 53 := ⟨RX12, TX12, 56, rfl, by decide, uw_X12, tb5 159 rfl rfl⟩
theorem fd_X12_147 : kFd RX12 147 12 1 := ⟨RX12, TX12, 56, rfl, by decide, uw_X12, tb5 107 rfl rfl⟩
theorem fw_X12_147 : kFw RX12 147 12 1 := ⟨RX12, TX12, 56, tyX12, rfl, by decide, uw_X12, tb5 107 rfl rfl, tyX12_ok, nmX12, rfl, rfl⟩
theorem fd_X12_159 : kFd RX12 159 12 3 := ⟨RX12, TX12, 56, rfl, by decide, uw_X12, tb5 109 rfl rfl⟩
theorem fw_X12_159 : kFw RX12 159 12 3 := ⟨RX12, TX12, 56, tyX12, rfl, by decide, uw_X12, tb5 109 rfl rfl, tyX12_ok, nmX12, rfl, rfl⟩
theorem fd_X12_162 : kFd RX12 162 12 2 := ⟨RX12, TX12, 56, rfl, by decide, uw_X12, tb5 108 rfl rfl⟩
theorem fw_X12_162 : kFw RX12 162 12 2 := ⟨RX12, TX12, 56, tyX12, rfl, by decide, uw_X12, tb5 108 rfl rfl, tyX12_ok, nmX12, rfl, rfl⟩
theorem fd_X12_169 : kFd RX12 169 12 4 := ⟨RX12, TX12, 56, rfl, by decide, uw_X12, tb5 110 rfl rfl⟩
theorem fw_X12_169 : kFw RX12 169 12 4 := ⟨RX12, TX12, 56, tyX12, rfl, by decide, uw_X12, tb5 110 rfl rfl, tyX12_ok, nmX12, rfl, rfl⟩
theorem fd_X12_224 : kFd RX12 224 12 18 := ⟨RX12, TX12, 56, rfl, by decide, uw_X12, tb5 124 rfl rfl⟩
theorem fw_X12_224 : kFw RX12 224 12 18 := ⟨RX12, TX12, 56, tyX12, rfl, by decide, uw_X12, tb5 124 rfl rfl, tyX12_ok, nmX12, rfl, rfl⟩
theorem fd_X12_243 : kFd RX12 243 12 19 := ⟨RX12, TX12, 56, rfl, by decide, uw_X12, tb5 125 rfl rfl⟩
theorem fw_X12_243 : kFw RX12 243 12 19 := ⟨RX12, TX12, 56, tyX12, rfl, by decide, uw_X12, tb5 125 rfl rfl, tyX12_ok, nmX12, rfl, rfl⟩
theorem fd_X12_248 : kFd RX12 248 12 20 := ⟨RX12, TX12, 56, rfl, by decide, uw_X12, tb5 126 rfl rfl⟩
theorem fw_X12_248 : kFw RX12 248 12 20 := ⟨RX12, TX12, 56, tyX12, rfl, by decide, uw_X12, tb5 126 rfl rfl, tyX12_ok, nmX12, rfl, rfl⟩
theorem fd_X12_260 : kFd RX12 260 12 21 := ⟨RX12, TX12, 56, rfl, by decide, uw_X12, tb5 127 rfl rfl⟩
theorem fw_X12_260 : kFw RX12 260 12 21 := ⟨RX12, TX12, 56, tyX12, rfl, by decide, uw_X12, tb5 127 rfl rfl, tyX12_ok, nmX12, rfl, rfl⟩
theorem fd_X12_263 : kFd RX12 263 12 23 := ⟨RX12, TX12, 56, rfl, by decide, uw_X12, tb5 129 rfl rfl⟩
theorem fw_X12_263 : kFw RX12 263 12 23 := ⟨RX12, TX12, 56, tyX12, rfl, by decide, uw_X12, tb5 129 rfl rfl, tyX12_ok, nmX12, rfl, rfl⟩
theorem fd_X12_269 : kFd RX12 269 12 22 := ⟨RX12, TX12, 56, rfl, by decide, uw_X12, tb5 128 rfl rfl⟩
theorem fw_X12_269 : kFw RX12 269 12 22 := ⟨RX12, TX12, 56, tyX12, rfl, by decide, uw_X12, tb5 128 rfl rfl, tyX12_ok, nmX12, rfl, rfl⟩
theorem fd_X12_311 : kFd RX12 311 12 28 := ⟨RX12, TX12, 56, rfl, by decide, uw_X12, tb5 134 rfl rfl⟩
theorem fw_X12_311 : kFw RX12 311 12 28 := ⟨RX12, TX12, 56, tyX12, rfl, by decide, uw_X12, tb5 134 rfl rfl, tyX12_ok, nmX12, rfl, rfl⟩
theorem fd_X12_359 : kFd RX12 359 12 36 := ⟨RX12, TX12, 56, rfl, by decide, uw_X12, tb5 142 rfl rfl⟩
theorem fw_X12_359 : kFw RX12 359 12 36 := ⟨RX12, TX12, 56, tyX12, rfl, by decide, uw_X12, tb5 142 rfl rfl, tyX12_ok, nmX12, rfl, rfl⟩
theorem fd_X12_362 : kFd RX12 362 12 45 := ⟨RX12, TX12, 56, rfl, by decide, uw_X12, tb5 151 rfl rfl⟩
theorem fw_X12_362 : kFw RX12 362 12 45 := ⟨RX12, TX12, 56, tyX12, rfl, by decide, uw_X12, tb5 151 rfl rfl, tyX12_ok, nmX12, rfl, rfl⟩
theorem fd_X12_381 : kFd RX12 381 12 54 := ⟨RX12, TX12, 56, rfl, by decide, uw_X12, tb5 160 rfl rfl⟩
theorem fw_X12_381 : kFw RX12 381 12 54 := ⟨RX12, TX12, 56, tyX12, rfl, by decide, uw_X12, tb5 160 rfl rfl, tyX12_ok, nmX12, rfl, rfl⟩
theorem fd_X12_389 : kFd RX12 389 12 55 := ⟨RX12, TX12, 56, rfl, by decide, uw_X12, tb5 161 rfl rfl⟩
theorem fw_X12_389 : kFw RX12 389 12 55 := ⟨RX12, TX12, 56, tyX12, rfl, by decide, uw_X12, tb5 161 rfl rfl, tyX12_ok, nmX12, rfl, rfl⟩
abbrev rmX0_events : Room := { frames := 0, cells := 0, slots := 0, locals := 0 }
theorem yv_X0_events : kYv yX0_events cX0_events 1 (some .int) 0 := ⟨(tb5 81 rfl rfl), (tb5 82 rfl rfl), (tb1 11 rfl rfl), (tb5 83 rfl rfl), by decide, by decide, by decide +kernel⟩
abbrev rmX0_facts : Room := { frames := 0, cells := 0, slots := 0, locals := 0 }
theorem yv_X0_facts : kYv yX0_facts cX0_facts 1 (some .int) 0 := ⟨(tb5 85 rfl rfl), (tb5 86 rfl rfl), (tb1 11 rfl rfl), (tb5 87 rfl rfl), by decide, by decide, by decide +kernel⟩
abbrev rmX0_hasEvent : Room := { frames := 0, cells := 0, slots := 0, locals := 0 }
theorem yv_X0_hasEvent : kYv yX0_hasEvent cX0_hasEvent 2 (some .boolean) 1 := ⟨(tb5 13 rfl rfl), (tb5 14 rfl rfl), (tb1 11 rfl rfl), (tb5 15 rfl rfl), by decide, by decide, by decide +kernel⟩
abbrev rmX0_setClock : Room := { frames := 1, cells := 0, slots := 0, locals := 20 }
theorem yv_X0_setClock : kYv yX0_setClock cX0_setClock 4 (none) 3 := ⟨(tb4 236 rfl rfl), (tb4 237 rfl rfl), (tb1 11 rfl rfl), (tb4 238 rfl rfl), by decide, by decide, by decide +kernel⟩
abbrev rmX0_addEvent : Room := { frames := 0, cells := 0, slots := 0, locals := 0 }
theorem yv_X0_addEvent : kYv yX0_addEvent cX0_addEvent 3 (some .int) 2 := ⟨(tb5 5 rfl rfl), (tb5 6 rfl rfl), (tb1 11 rfl rfl), (tb5 7 rfl rfl), by decide, by decide, by decide +kernel⟩
abbrev rmX0_addFact : Room := { frames := 0, cells := 0, slots := 0, locals := 0 }
theorem yv_X0_addFact : kYv yX0_addFact cX0_addFact 4 (some .int) 3 := ⟨(tb5 17 rfl rfl), (tb5 18 rfl rfl), (tb1 11 rfl rfl), (tb5 19 rfl rfl), by decide, by decide, by decide +kernel⟩
abbrev rmX0_dropFact : Room := { frames := 0, cells := 0, slots := 0, locals := 0 }
theorem yv_X0_dropFact : kYv yX0_dropFact cX0_dropFact 1 (some .int) 0 := ⟨(tb5 25 rfl rfl), (tb5 26 rfl rfl), (tb1 11 rfl rfl), (tb5 27 rfl rfl), by decide, by decide, by decide +kernel⟩
abbrev rmX0_canBe : Room := { frames := 2, cells := 0, slots := 0, locals := 47 }
theorem yv_X0_canBe : kYv yX0_canBe cX0_canBe 2 (some .boolean) 0 := ⟨(tb5 33 rfl rfl), (tb5 34 rfl rfl), (tb1 11 rfl rfl), (tb5 35 rfl rfl), by decide, by decide, by decide +kernel⟩
abbrev rmX0_boundByClocks : Room := { frames := 0, cells := 0, slots := 0, locals := 0 }
theorem yv_X0_boundByClocks : kYv yX0_boundByClocks cX0_boundByClocks 3 (none) 0 := ⟨(tb5 38 rfl rfl), (tb0 33 rfl rfl), (tb1 11 rfl rfl), (tb5 39 rfl rfl), by decide, by decide, by decide +kernel⟩
abbrev rmX0_boundByFacts : Room := { frames := 1, cells := 0, slots := 0, locals := 21 }
theorem yv_X0_boundByFacts : kYv yX0_boundByFacts cX0_boundByFacts 7 (none) 0 := ⟨(tb5 42 rfl rfl), (tb0 34 rfl rfl), (tb1 11 rfl rfl), (tb5 43 rfl rfl), by decide, by decide, by decide +kernel⟩
abbrev rmX0_tightenThrough : Room := { frames := 1, cells := 0, slots := 0, locals := 21 }
theorem yv_X0_tightenThrough : kYv yX0_tightenThrough cX0_tightenThrough 5 (none) 1 := ⟨(tb5 47 rfl rfl), (tb0 35 rfl rfl), (tb1 11 rfl rfl), (tb5 48 rfl rfl), by decide, by decide, by decide +kernel⟩
abbrev rmX0_contradicts : Room := { frames := 0, cells := 0, slots := 0, locals := 0 }
theorem yv_X0_contradicts : kYv yX0_contradicts cX0_contradicts 2 (some .boolean) 0 := ⟨(tb5 51 rfl rfl), (tb0 36 rfl rfl), (tb1 11 rfl rfl), (tb5 52 rfl rfl), by decide, by decide, by decide +kernel⟩
abbrev rmX0_leastBehind : Room := { frames := 1, cells := 0, slots := 0, locals := 21 }
theorem yv_X0_leastBehind : kYv yX0_leastBehind cX0_leastBehind 3 (some .int) 2 := ⟨(tb5 55 rfl rfl), (tb5 56 rfl rfl), (tb1 11 rfl rfl), (tb5 57 rfl rfl), by decide, by decide, by decide +kernel⟩
abbrev rmX0_greatestBehind : Room := { frames := 1, cells := 0, slots := 0, locals := 21 }
theorem yv_X0_greatestBehind : kYv yX0_greatestBehind cX0_greatestBehind 3 (some .int) 2 := ⟨(tb5 61 rfl rfl), (tb5 62 rfl rfl), (tb1 11 rfl rfl), (tb5 63 rfl rfl), by decide, by decide, by decide +kernel⟩
abbrev rmX1_empty : Room := { frames := 0, cells := 0, slots := 0, locals := 0 }
theorem yv_X1_empty : kYv yX1_empty cX1_empty 2 (none) 0 := ⟨(tb2 151 rfl rfl), (tb2 152 rfl rfl), (tb1 3 rfl rfl), (tb2 153 rfl rfl), by decide, by decide, by decide +kernel⟩
abbrev rmX1_become : Room := { frames := 0, cells := 0, slots := 0, locals := 0 }
theorem yv_X1_become : kYv yX1_become cX1_become 3 (none) 1 := ⟨(tb3 53 rfl rfl), (tb3 54 rfl rfl), (tb1 3 rfl rfl), (tb3 55 rfl rfl), by decide, by decide, by decide +kernel⟩
abbrev rmX1_letters : Room := { frames := 0, cells := 0, slots := 0, locals := 0 }
theorem yv_X1_letters : kYv yX1_letters cX1_letters 1 (some .int) 0 := ⟨(tb5 73 rfl rfl), (tb5 74 rfl rfl), (tb1 3 rfl rfl), (tb5 75 rfl rfl), by decide, by decide, by decide +kernel⟩
abbrev rmX1_words : Room := { frames := 0, cells := 0, slots := 0, locals := 0 }
theorem yv_X1_words : kYv yX1_words cX1_words 1 (some .int) 0 := ⟨(tb3 19 rfl rfl), (tb3 20 rfl rfl), (tb1 3 rfl rfl), (tb3 21 rfl rfl), by decide, by decide, by decide +kernel⟩
abbrev rmX1_hasRoomForWord : Room := { frames := 0, cells := 0, slots := 0, locals := 0 }
theorem yv_X1_hasRoomForWord : kYv yX1_hasRoomForWord cX1_hasRoomForWord 1 (some .boolean) 0 := ⟨(tb3 11 rfl rfl), (tb3 12 rfl rfl), (tb1 3 rfl rfl), (tb3 13 rfl rfl), by decide, by decide, by decide +kernel⟩
abbrev rmX1_hasLetter : Room := { frames := 0, cells := 0, slots := 0, locals := 0 }
theorem yv_X1_hasLetter : kYv yX1_hasLetter cX1_hasLetter 2 (some .boolean) 1 := ⟨(tb2 233 rfl rfl), (tb2 234 rfl rfl), (tb1 3 rfl rfl), (tb2 235 rfl rfl), by decide, by decide, by decide +kernel⟩
abbrev rmX1_hasMarks : Room := { frames := 0, cells := 0, slots := 0, locals := 0 }
theorem yv_X1_hasMarks : kYv yX1_hasMarks cX1_hasMarks 3 (some .boolean) 1 := ⟨(tb3 1 rfl rfl), (tb3 2 rfl rfl), (tb1 3 rfl rfl), (tb3 3 rfl rfl), by decide, by decide, by decide +kernel⟩
abbrev rmX1_hasGroup : Room := { frames := 0, cells := 0, slots := 0, locals := 0 }
theorem yv_X1_hasGroup : kYv yX1_hasGroup cX1_hasGroup 3 (some .boolean) 1 := ⟨(tb3 40 rfl rfl), (tb3 41 rfl rfl), (tb1 3 rfl rfl), (tb3 42 rfl rfl), by decide, by decide, by decide +kernel⟩
abbrev rmX1_addLetter : Room := { frames := 1, cells := 0, slots := 0, locals := 21 }
theorem yv_X1_addLetter : kYv yX1_addLetter cX1_addLetter 5 (none) 2 := ⟨(tb3 5 rfl rfl), (tb3 6 rfl rfl), (tb1 3 rfl rfl), (tb3 7 rfl rfl), by decide, by decide, by decide +kernel⟩
abbrev rmX1_addGroup : Room := { frames := 0, cells := 0, slots := 0, locals := 0 }
theorem yv_X1_addGroup : kYv yX1_addGroup cX1_addGroup 2 (none) 1 := ⟨(tb3 44 rfl rfl), (tb3 45 rfl rfl), (tb1 3 rfl rfl), (tb3 46 rfl rfl), by decide, by decide, by decide +kernel⟩
abbrev rmX1_marksOf : Room := { frames := 1, cells := 0, slots := 0, locals := 21 }
theorem yv_X1_marksOf : kYv yX1_marksOf cX1_marksOf 2 (some .int) 1 := ⟨(tb3 62 rfl rfl), (tb3 63 rfl rfl), (tb1 3 rfl rfl), (tb3 64 rfl rfl), by decide, by decide, by decide +kernel⟩
abbrev rmX1_sizeOf : Room := { frames := 0, cells := 0, slots := 0, locals := 0 }
theorem yv_X1_sizeOf : kYv yX1_sizeOf cX1_sizeOf 2 (some .int) 1 := ⟨(tb3 204 rfl rfl), (tb3 205 rfl rfl), (tb1 3 rfl rfl), (tb3 206 rfl rfl), by decide, by decide, by decide +kernel⟩
abbrev rmX1_kindOf : Room := { frames := 1, cells := 0, slots := 0, locals := 21 }
theorem yv_X1_kindOf : kYv yX1_kindOf cX1_kindOf 4 (some .int) 2 := ⟨(tb3 208 rfl rfl), (tb3 209 rfl rfl), (tb1 3 rfl rfl), (tb3 210 rfl rfl), by decide, by decide, by decide +kernel⟩
abbrev rmX1_groupOf : Room := { frames := 0, cells := 0, slots := 0, locals := 0 }
theorem yv_X1_groupOf : kYv yX1_groupOf cX1_groupOf 2 (some .int) 1 := ⟨(tb3 70 rfl rfl), (tb3 71 rfl rfl), (tb1 3 rfl rfl), (tb3 72 rfl rfl), by decide, by decide, by decide +kernel⟩
abbrev rmX1_kthNear : Room := { frames := 1, cells := 0, slots := 0, locals := 25 }
theorem yv_X1_kthNear : kYv yX1_kthNear cX1_kthNear 6 (some .int) 3 := ⟨(tb3 78 rfl rfl), (tb3 79 rfl rfl), (tb1 3 rfl rfl), (tb3 80 rfl rfl), by decide, by decide, by decide +kernel⟩
abbrev rmX1_unlikeLetters : Room := { frames := 0, cells := 0, slots := 0, locals := 0 }
theorem ys_X1_unlikeLetters : kYs yX1_unlikeLetters cX1_unlikeLetters 6 (some .int) 2 := ⟨(tb3 82 rfl rfl), (tb1 3 rfl rfl), (tb3 83 rfl rfl), by decide, by decide, by decide +kernel⟩
abbrev rmX2_parse : Room := { frames := 8, cells := 0, slots := 0, locals := 170 }
theorem yv_X2_parse : kYv yX2_parse cX2_parse 2 (some .int) 0 := ⟨(tb2 147 rfl rfl), (tb2 148 rfl rfl), (tb1 4 rfl rfl), (tb2 149 rfl rfl), by decide, by decide, by decide +kernel⟩
abbrev rmX2_parseLine : Room := { frames := 7, cells := 0, slots := 0, locals := 150 }
theorem yv_X2_parseLine : kYv yX2_parseLine cX2_parseLine 1 (some .boolean) 0 := ⟨(tb2 169 rfl rfl), (tb0 2 rfl rfl), (tb1 4 rfl rfl), (tb2 170 rfl rfl), by decide, by decide, by decide +kernel⟩
abbrev rmX2_parseLetter : Room := { frames := 3, cells := 0, slots := 0, locals := 64 }
theorem yv_X2_parseLetter : kYv yX2_parseLetter cX2_parseLetter 3 (some .boolean) 0 := ⟨(tb2 230 rfl rfl), (tb0 5 rfl rfl), (tb1 4 rfl rfl), (tb2 231 rfl rfl), by decide, by decide, by decide +kernel⟩
abbrev rmX2_parseWord : Room := { frames := 6, cells := 0, slots := 0, locals := 129 }
theorem yv_X2_parseWord : kYv yX2_parseWord cX2_parseWord 2 (some .boolean) 0 := ⟨(tb3 16 rfl rfl), (tb0 7 rfl rfl), (tb1 4 rfl rfl), (tb3 17 rfl rfl), by decide, by decide, by decide +kernel⟩
abbrev rmX2_step : Room := { frames := 2, cells := 0, slots := 0, locals := 43 }
theorem yv_X2_step : kYv yX2_step cX2_step 2 (none) 0 := ⟨(tb2 156 rfl rfl), (tb0 0 rfl rfl), (tb1 4 rfl rfl), (tb2 157 rfl rfl), by decide, by decide, by decide +kernel⟩
abbrev rmX2_kindAt : Room := { frames := 1, cells := 0, slots := 0, locals := 21 }
theorem yv_X2_kindAt : kYv yX2_kindAt cX2_kindAt 3 (some .int) 1 := ⟨(tb2 165 rfl rfl), (tb0 1 rfl rfl), (tb1 4 rfl rfl), (tb2 166 rfl rfl), by decide, by decide, by decide +kernel⟩
abbrev rmX2_tokenSize : Room := { frames := 0, cells := 0, slots := 0, locals := 0 }
theorem yv_X2_tokenSize : kYv yX2_tokenSize cX2_tokenSize 1 (some .int) 0 := ⟨(tb2 178 rfl rfl), (tb0 4 rfl rfl), (tb1 4 rfl rfl), (tb2 179 rfl rfl), by decide, by decide, by decide +kernel⟩
abbrev rmX2_isWord : Room := { frames := 4, cells := 0, slots := 0, locals := 85 }
theorem yv_X2_isWord : kYv yX2_isWord cX2_isWord 3 (some .boolean) 1 := ⟨(tb2 174 rfl rfl), (tb0 3 rfl rfl), (tb1 4 rfl rfl), (tb2 175 rfl rfl), by decide, by decide, by decide +kernel⟩
abbrev rmX2_marksHere : Room := { frames := 1, cells := 0, slots := 0, locals := 21 }
theorem yv_X2_marksHere : kYv yX2_marksHere cX2_marksHere 4 (some .int) 0 := ⟨(tb2 238 rfl rfl), (tb0 6 rfl rfl), (tb1 4 rfl rfl), (tb2 239 rfl rfl), by decide, by decide, by decide +kernel⟩
abbrev rmX2_groupHere : Room := { frames := 1, cells := 0, slots := 0, locals := 21 }
theorem yv_X2_groupHere : kYv yX2_groupHere cX2_groupHere 4 (some .int) 0 := ⟨(tb3 37 rfl rfl), (tb0 11 rfl rfl), (tb1 4 rfl rfl), (tb3 38 rfl rfl), by decide, by decide, by decide +kernel⟩
abbrev rmX2_isNewName : Room := { frames := 5, cells := 0, slots := 0, locals := 107 }
theorem yv_X2_isNewName : kYv yX2_isNewName cX2_isNewName 3 (some .boolean) 1 := ⟨(tb3 24 rfl rfl), (tb0 8 rfl rfl), (tb1 4 rfl rfl), (tb3 25 rfl rfl), by decide, by decide, by decide +kernel⟩
abbrev rmX2_isName : Room := { frames := 1, cells := 0, slots := 0, locals := 21 }
theorem yv_X2_isName : kYv yX2_isName cX2_isName 3 (some .boolean) 1 := ⟨(tb3 29 rfl rfl), (tb0 9 rfl rfl), (tb1 4 rfl rfl), (tb3 30 rfl rfl), by decide, by decide, by decide +kernel⟩
abbrev rmX2_noteName : Room := { frames := 1, cells := 0, slots := 0, locals := 20 }
theorem yv_X2_noteName : kYv yX2_noteName cX2_noteName 2 (none) 1 := ⟨(tb3 33 rfl rfl), (tb0 10 rfl rfl), (tb1 4 rfl rfl), (tb3 34 rfl rfl), by decide, by decide, by decide +kernel⟩
abbrev rmX3_size : Room := { frames := 0, cells := 0, slots := 0, locals := 0 }
theorem yv_X3_size : kYv yX3_size cX3_size 1 (some .int) 0 := ⟨(tb4 53 rfl rfl), (tb4 54 rfl rfl), (tb1 5 rfl rfl), (tb4 55 rfl rfl), by decide, by decide, by decide +kernel⟩
abbrev rmX3_has : Room := { frames := 0, cells := 0, slots := 0, locals := 0 }
theorem yv_X3_has : kYv yX3_has cX3_has 2 (some .boolean) 1 := ⟨(tb3 163 rfl rfl), (tb3 164 rfl rfl), (tb1 5 rfl rfl), (tb3 165 rfl rfl), by decide, by decide, by decide +kernel⟩
abbrev rmX3_isSpan : Room := { frames := 0, cells := 0, slots := 0, locals := 0 }
theorem ys_X3_isSpan : kYs yX3_isSpan cX3_isSpan 3 (some .boolean) 1 := ⟨(tb3 89 rfl rfl), (tb1 5 rfl rfl), (tb3 90 rfl rfl), by decide, by decide, by decide +kernel⟩
abbrev rmX3_add : Room := { frames := 0, cells := 0, slots := 0, locals := 0 }
theorem yv_X3_add : kYv yX3_add cX3_add 7 (some .int) 5 := ⟨(tb3 92 rfl rfl), (tb3 93 rfl rfl), (tb1 5 rfl rfl), (tb3 94 rfl rfl), by decide, by decide, by decide +kernel⟩
abbrev rmX3_leastOf : Room := { frames := 2, cells := 0, slots := 0, locals := 43 }
theorem yv_X3_leastOf : kYv yX3_leastOf cX3_leastOf 3 (some .int) 2 := ⟨(tb3 175 rfl rfl), (tb3 176 rfl rfl), (tb1 5 rfl rfl), (tb3 177 rfl rfl), by decide, by decide, by decide +kernel⟩
abbrev rmX3_greatestOf : Room := { frames := 2, cells := 0, slots := 0, locals := 43 }
theorem yv_X3_greatestOf : kYv yX3_greatestOf cX3_greatestOf 3 (some .int) 2 := ⟨(tb3 184 rfl rfl), (tb3 185 rfl rfl), (tb1 5 rfl rfl), (tb3 186 rfl rfl), by decide, by decide, by decide +kernel⟩
abbrev rmX3_choicesOf : Room := { frames := 3, cells := 0, slots := 0, locals := 65 }
theorem yv_X3_choicesOf : kYv yX3_choicesOf cX3_choicesOf 3 (some .int) 2 := ⟨(tb4 87 rfl rfl), (tb4 88 rfl rfl), (tb1 5 rfl rfl), (tb4 89 rfl rfl), by decide, by decide, by decide +kernel⟩
abbrev rmX3_spanOf : Room := { frames := 1, cells := 0, slots := 0, locals := 21 }
theorem yv_X3_spanOf : kYv yX3_spanOf cX3_spanOf 3 (some .int) 2 := ⟨(tb3 180 rfl rfl), (tb0 13 rfl rfl), (tb1 5 rfl rfl), (tb3 181 rfl rfl), by decide, by decide, by decide +kernel⟩
abbrev rmX4_size : Room := { frames := 0, cells := 0, slots := 0, locals := 0 }
theorem yv_X4_size : kYv yX4_size cX4_size 1 (some .int) 0 := ⟨(tb4 57 rfl rfl), (tb4 58 rfl rfl), (tb1 6 rfl rfl), (tb4 59 rfl rfl), by decide, by decide, by decide +kernel⟩
abbrev rmX4_rainNow : Room := { frames := 0, cells := 0, slots := 0, locals := 0 }
theorem yv_X4_rainNow : kYv yX4_rainNow cX4_rainNow 1 (some .int) 0 := ⟨(tb5 89 rfl rfl), (tb5 90 rfl rfl), (tb1 6 rfl rfl), (tb5 91 rfl rfl), by decide, by decide, by decide +kernel⟩
abbrev rmX4_setRain : Room := { frames := 0, cells := 0, slots := 0, locals := 0 }
theorem yv_X4_setRain : kYv yX4_setRain cX4_setRain 2 (none) 1 := ⟨(tb3 114 rfl rfl), (tb3 115 rfl rfl), (tb1 6 rfl rfl), (tb3 116 rfl rfl), by decide, by decide, by decide +kernel⟩
abbrev rmX4_has : Room := { frames := 0, cells := 0, slots := 0, locals := 0 }
theorem yv_X4_has : kYv yX4_has cX4_has 2 (some .boolean) 1 := ⟨(tb3 122 rfl rfl), (tb3 123 rfl rfl), (tb1 6 rfl rfl), (tb3 124 rfl rfl), by decide, by decide, by decide +kernel⟩
abbrev rmX4_add : Room := { frames := 0, cells := 0, slots := 0, locals := 0 }
theorem yv_X4_add : kYv yX4_add cX4_add 5 (some .int) 4 := ⟨(tb3 106 rfl rfl), (tb3 107 rfl rfl), (tb1 6 rfl rfl), (tb3 108 rfl rfl), by decide, by decide, by decide +kernel⟩
abbrev rmX4_biteOf : Room := { frames := 1, cells := 0, slots := 0, locals := 21 }
theorem yv_X4_biteOf : kYv yX4_biteOf cX4_biteOf 2 (some .int) 1 := ⟨(tb3 126 rfl rfl), (tb3 127 rfl rfl), (tb1 6 rfl rfl), (tb3 128 rfl rfl), by decide, by decide, by decide +kernel⟩
abbrev rmX4_endOf : Room := { frames := 1, cells := 0, slots := 0, locals := 21 }
theorem yv_X4_endOf : kYv yX4_endOf cX4_endOf 2 (some .int) 1 := ⟨(tb4 212 rfl rfl), (tb4 213 rfl rfl), (tb1 6 rfl rfl), (tb4 214 rfl rfl), by decide, by decide, by decide +kernel⟩
abbrev rmX4_routeAt : Room := { frames := 0, cells := 0, slots := 0, locals := 0 }
theorem yv_X4_routeAt : kYv yX4_routeAt cX4_routeAt 2 (some .int) 1 := ⟨(tb4 154 rfl rfl), (tb4 155 rfl rfl), (tb1 6 rfl rfl), (tb4 156 rfl rfl), by decide, by decide, by decide +kernel⟩
abbrev rmX4_findRoute : Room := { frames := 2, cells := 0, slots := 0, locals := 45 }
theorem yv_X4_findRoute : kYv yX4_findRoute cX4_findRoute 7 (some .int) 2 := ⟨(tb4 132 rfl rfl), (tb4 133 rfl rfl), (tb1 6 rfl rfl), (tb4 134 rfl rfl), by decide, by decide, by decide +kernel⟩
abbrev rmX4_measureDistances : Room := { frames := 1, cells := 0, slots := 0, locals := 21 }
theorem yv_X4_measureDistances : kYv yX4_measureDistances cX4_measureDistances 5 (none) 1 := ⟨(tb4 138 rfl rfl), (tb0 23 rfl rfl), (tb1 6 rfl rfl), (tb4 139 rfl rfl), by decide, by decide, by decide +kernel⟩
abbrev rmX4_firstTowards : Room := { frames := 0, cells := 0, slots := 0, locals := 0 }
theorem yv_X4_firstTowards : kYv yX4_firstTowards cX4_firstTowards 3 (some .int) 1 := ⟨(tb4 143 rfl rfl), (tb0 24 rfl rfl), (tb1 6 rfl rfl), (tb4 144 rfl rfl), by decide, by decide, by decide +kernel⟩
abbrev rmX5_size : Room := { frames := 0, cells := 0, slots := 0, locals := 0 }
theorem yv_X5_size : kYv yX5_size cX5_size 1 (some .int) 0 := ⟨(tb5 77 rfl rfl), (tb5 78 rfl rfl), (tb1 10 rfl rfl), (tb5 79 rfl rfl), by decide, by decide, by decide +kernel⟩
abbrev rmX5_has : Room := { frames := 0, cells := 0, slots := 0, locals := 0 }
theorem yv_X5_has : kYv yX5_has cX5_has 2 (some .boolean) 1 := ⟨(tb4 162 rfl rfl), (tb4 163 rfl rfl), (tb1 10 rfl rfl), (tb4 164 rfl rfl), by decide, by decide, by decide +kernel⟩
abbrev rmX5_add : Room := { frames := 0, cells := 0, slots := 0, locals := 0 }
theorem yv_X5_add : kYv yX5_add cX5_add 6 (some .int) 5 := ⟨(tb4 146 rfl rfl), (tb4 147 rfl rfl), (tb1 10 rfl rfl), (tb4 148 rfl rfl), by decide, by decide, by decide +kernel⟩
abbrev rmX5_runAll : Room := { frames := 4, cells := 0, slots := 0, locals := 93 }
theorem yv_X5_runAll : kYv yX5_runAll cX5_runAll 5 (none) 0 := ⟨(tb4 166 rfl rfl), (tb4 167 rfl rfl), (tb1 10 rfl rfl), (tb4 168 rfl rfl), by decide, by decide, by decide +kernel⟩
abbrev rmX5_prepare : Room := { frames := 3, cells := 0, slots := 0, locals := 71 }
theorem yv_X5_prepare : kYv yX5_prepare cX5_prepare 3 (none) 0 := ⟨(tb4 171 rfl rfl), (tb0 25 rfl rfl), (tb1 10 rfl rfl), (tb4 172 rfl rfl), by decide, by decide, by decide +kernel⟩
abbrev rmX5_nextBegin : Room := { frames := 2, cells := 0, slots := 0, locals := 44 }
theorem yv_X5_nextBegin : kYv yX5_nextBegin cX5_nextBegin 5 (some .int) 0 := ⟨(tb4 177 rfl rfl), (tb0 26 rfl rfl), (tb1 10 rfl rfl), (tb4 178 rfl rfl), by decide, by decide, by decide +kernel⟩
abbrev rmX5_nextLine : Room := { frames := 1, cells := 0, slots := 0, locals := 21 }
theorem yv_X5_nextLine : kYv yX5_nextLine cX5_nextLine 4 (some .int) 1 := ⟨(tb4 181 rfl rfl), (tb0 27 rfl rfl), (tb1 10 rfl rfl), (tb4 182 rfl rfl), by decide, by decide, by decide +kernel⟩
abbrev rmX5_chosenFor : Room := { frames := 2, cells := 0, slots := 0, locals := 44 }
theorem yv_X5_chosenFor : kYv yX5_chosenFor cX5_chosenFor 5 (some .int) 2 := ⟨(tb4 188 rfl rfl), (tb0 28 rfl rfl), (tb1 10 rfl rfl), (tb4 189 rfl rfl), by decide, by decide, by decide +kernel⟩
abbrev rmX5_goesAhead : Room := { frames := 0, cells := 0, slots := 0, locals := 0 }
theorem yv_X5_goesAhead : kYv yX5_goesAhead cX5_goesAhead 3 (some .boolean) 2 := ⟨(tb4 192 rfl rfl), (tb0 29 rfl rfl), (tb1 10 rfl rfl), (tb4 193 rfl rfl), by decide, by decide, by decide +kernel⟩
abbrev rmX5_begin : Room := { frames := 0, cells := 0, slots := 0, locals := 0 }
theorem yv_X5_begin : kYv yX5_begin cX5_begin 4 (none) 3 := ⟨(tb4 196 rfl rfl), (tb0 30 rfl rfl), (tb1 10 rfl rfl), (tb4 197 rfl rfl), by decide, by decide, by decide +kernel⟩
abbrev rmX5_arrivalOf : Room := { frames := 1, cells := 0, slots := 0, locals := 21 }
theorem yv_X5_arrivalOf : kYv yX5_arrivalOf cX5_arrivalOf 2 (some .int) 1 := ⟨(tb4 199 rfl rfl), (tb4 200 rfl rfl), (tb1 10 rfl rfl), (tb4 201 rfl rfl), by decide, by decide, by decide +kernel⟩
abbrev rmX5_waitOf : Room := { frames := 1, cells := 0, slots := 0, locals := 21 }
theorem yv_X5_waitOf : kYv yX5_waitOf cX5_waitOf 2 (some .int) 1 := ⟨(tb4 204 rfl rfl), (tb4 205 rfl rfl), (tb1 10 rfl rfl), (tb4 206 rfl rfl), by decide, by decide, by decide +kernel⟩
abbrev rmX5_whereIs : Room := { frames := 2, cells := 0, slots := 0, locals := 42 }
theorem yv_X5_whereIs : kYv yX5_whereIs cX5_whereIs 7 (some .int) 2 := ⟨(tb4 208 rfl rfl), (tb4 209 rfl rfl), (tb1 10 rfl rfl), (tb4 210 rfl rfl), by decide, by decide, by decide +kernel⟩
abbrev rmX5_kthHeard : Room := { frames := 2, cells := 0, slots := 0, locals := 49 }
theorem yv_X5_kthHeard : kYv yX5_kthHeard cX5_kthHeard 7 (some .int) 2 := ⟨(tb4 220 rfl rfl), (tb4 221 rfl rfl), (tb1 10 rfl rfl), (tb4 222 rfl rfl), by decide, by decide, by decide +kernel⟩
abbrev rmX5_nextHeard : Room := { frames := 1, cells := 0, slots := 0, locals := 23 }
theorem yv_X5_nextHeard : kYv yX5_nextHeard cX5_nextHeard 7 (some .int) 2 := ⟨(tb4 225 rfl rfl), (tb0 31 rfl rfl), (tb1 10 rfl rfl), (tb4 226 rfl rfl), by decide, by decide, by decide +kernel⟩
abbrev rmX5_beginOn : Room := { frames := 0, cells := 0, slots := 0, locals := 0 }
theorem yv_X5_beginOn : kYv yX5_beginOn cX5_beginOn 4 (some .int) 2 := ⟨(tb4 229 rfl rfl), (tb0 32 rfl rfl), (tb1 10 rfl rfl), (tb4 230 rfl rfl), by decide, by decide, by decide +kernel⟩
abbrev rmX6_becomeOne : Room := { frames := 0, cells := 0, slots := 0, locals := 0 }
theorem yv_X6_becomeOne : kYv yX6_becomeOne cX6_becomeOne 2 (none) 0 := ⟨(tb4 83 rfl rfl), (tb4 84 rfl rfl), (tb1 12 rfl rfl), (tb4 85 rfl rfl), by decide, by decide, by decide +kernel⟩
abbrev rmX6_multiply : Room := { frames := 0, cells := 0, slots := 0, locals := 0 }
theorem yv_X6_multiply : kYv yX6_multiply cX6_multiply 5 (none) 1 := ⟨(tb4 93 rfl rfl), (tb4 94 rfl rfl), (tb1 12 rfl rfl), (tb4 95 rfl rfl), by decide, by decide, by decide +kernel⟩
abbrev rmX6_compareWith : Room := { frames := 1, cells := 0, slots := 0, locals := 21 }
theorem yv_X6_compareWith : kYv yX6_compareWith cX6_compareWith 3 (some .int) 1 := ⟨(tb4 98 rfl rfl), (tb4 99 rfl rfl), (tb1 12 rfl rfl), (tb4 100 rfl rfl), by decide, by decide, by decide +kernel⟩
abbrev rmX7_listen : Room := { frames := 3, cells := 0, slots := 0, locals := 65 }
theorem yv_X7_listen : kYv yX7_listen cX7_listen 4 (none) 2 := ⟨(tb3 171 rfl rfl), (tb3 172 rfl rfl), (tb1 8 rfl rfl), (tb3 173 rfl rfl), by decide, by decide, by decide +kernel⟩
abbrev rmX7_costOf : Room := { frames := 1, cells := 0, slots := 0, locals := 21 }
theorem yv_X7_costOf : kYv yX7_costOf cX7_costOf 5 (some .int) 2 := ⟨(tb3 213 rfl rfl), (tb3 214 rfl rfl), (tb1 8 rfl rfl), (tb3 215 rfl rfl), by decide, by decide, by decide +kernel⟩
abbrev rmX7_countAll : Room := { frames := 3, cells := 0, slots := 0, locals := 72 }
theorem yv_X7_countAll : kYv yX7_countAll cX7_countAll 5 (some .int) 0 := ⟨(tb3 196 rfl rfl), (tb3 197 rfl rfl), (tb1 8 rfl rfl), (tb3 198 rfl rfl), by decide, by decide, by decide +kernel⟩
abbrev rmX7_waysBehind : Room := { frames := 2, cells := 0, slots := 0, locals := 45 }
theorem yv_X7_waysBehind : kYv yX7_waysBehind cX7_waysBehind 3 (some .long) 1 := ⟨(tb3 222 rfl rfl), (tb0 15 rfl rfl), (tb1 8 rfl rfl), (tb3 223 rfl rfl), by decide, by decide, by decide +kernel⟩
abbrev rmX7_findNearest : Room := { frames := 4, cells := 0, slots := 0, locals := 97 }
theorem yv_X7_findNearest : kYv yX7_findNearest cX7_findNearest 4 (some .int) 0 := ⟨(tb3 233 rfl rfl), (tb3 234 rfl rfl), (tb1 8 rfl rfl), (tb3 235 rfl rfl), by decide, by decide, by decide +kernel⟩
abbrev rmX7_writeNearest : Room := { frames := 3, cells := 0, slots := 0, locals := 68 }
theorem yv_X7_writeNearest : kYv yX7_writeNearest cX7_writeNearest 4 (none) 0 := ⟨(tb4 8 rfl rfl), (tb4 9 rfl rfl), (tb1 8 rfl rfl), (tb4 10 rfl rfl), by decide, by decide, by decide +kernel⟩
abbrev rmX7_write : Room := { frames := 0, cells := 0, slots := 0, locals := 0 }
theorem yv_X7_write : kYv yX7_write cX7_write 2 (none) 1 := ⟨(tb4 13 rfl rfl), (tb0 18 rfl rfl), (tb1 8 rfl rfl), (tb4 14 rfl rfl), by decide, by decide, by decide +kernel⟩
abbrev rmX7_rowSize : Room := { frames := 0, cells := 0, slots := 0, locals := 0 }
theorem yv_X7_rowSize : kYv yX7_rowSize cX7_rowSize 1 (some .int) 0 := ⟨(tb4 16 rfl rfl), (tb4 17 rfl rfl), (tb1 8 rfl rfl), (tb4 18 rfl rfl), by decide, by decide, by decide +kernel⟩
abbrev rmX7_rowAt : Room := { frames := 0, cells := 0, slots := 0, locals := 0 }
theorem yv_X7_rowAt : kYv yX7_rowAt cX7_rowAt 2 (some .int) 1 := ⟨(tb4 20 rfl rfl), (tb4 21 rfl rfl), (tb1 8 rfl rfl), (tb4 22 rfl rfl), by decide, by decide, by decide +kernel⟩
abbrev rmX7_costFrom : Room := { frames := 3, cells := 0, slots := 0, locals := 72 }
theorem yv_X7_costFrom : kYv yX7_costFrom cX7_costFrom 6 (some .int) 2 := ⟨(tb3 238 rfl rfl), (tb0 16 rfl rfl), (tb1 8 rfl rfl), (tb3 239 rfl rfl), by decide, by decide, by decide +kernel⟩
abbrev rmX7_letterCost : Room := { frames := 2, cells := 0, slots := 0, locals := 45 }
theorem yv_X7_letterCost : kYv yX7_letterCost cX7_letterCost 8 (some .int) 2 := ⟨(tb3 201 rfl rfl), (tb0 14 rfl rfl), (tb1 8 rfl rfl), (tb3 202 rfl rfl), by decide, by decide, by decide +kernel⟩
abbrev rmX7_gapCost : Room := { frames := 2, cells := 0, slots := 0, locals := 45 }
theorem yv_X7_gapCost : kYv yX7_gapCost cX7_gapCost 4 (some .int) 1 := ⟨(tb4 2 rfl rfl), (tb0 17 rfl rfl), (tb1 8 rfl rfl), (tb4 3 rfl rfl), by decide, by decide, by decide +kernel⟩
abbrev rmX8_size : Room := { frames := 0, cells := 0, slots := 0, locals := 0 }
theorem yv_X8_size : kYv yX8_size cX8_size 1 (some .int) 0 := ⟨(tb4 65 rfl rfl), (tb4 66 rfl rfl), (tb1 9 rfl rfl), (tb4 67 rfl rfl), by decide, by decide, by decide +kernel⟩
abbrev rmX8_kindAt : Room := { frames := 0, cells := 0, slots := 0, locals := 0 }
theorem yv_X8_kindAt : kYv yX8_kindAt cX8_kindAt 2 (some .int) 1 := ⟨(tb4 70 rfl rfl), (tb4 71 rfl rfl), (tb1 9 rfl rfl), (tb4 72 rfl rfl), by decide, by decide, by decide +kernel⟩
abbrev rmX8_isThere : Room := { frames := 2, cells := 0, slots := 0, locals := 43 }
theorem yv_X8_isThere : kYv yX8_isThere cX8_isThere 3 (some .boolean) 0 := ⟨(tb4 28 rfl rfl), (tb4 29 rfl rfl), (tb1 9 rfl rfl), (tb4 30 rfl rfl), by decide, by decide, by decide +kernel⟩
abbrev rmX8_spell : Room := { frames := 3, cells := 0, slots := 0, locals := 69 }
theorem yv_X8_spell : kYv yX8_spell cX8_spell 3 (some .int) 0 := ⟨(tb4 39 rfl rfl), (tb4 40 rfl rfl), (tb1 9 rfl rfl), (tb4 41 rfl rfl), by decide, by decide, by decide +kernel⟩
abbrev rmX8_spellLetter : Room := { frames := 2, cells := 0, slots := 0, locals := 44 }
theorem yv_X8_spellLetter : kYv yX8_spellLetter cX8_spellLetter 6 (some .boolean) 2 := ⟨(tb4 44 rfl rfl), (tb0 19 rfl rfl), (tb1 9 rfl rfl), (tb4 45 rfl rfl), by decide, by decide, by decide +kernel⟩
abbrev rmX8_addKind : Room := { frames := 0, cells := 0, slots := 0, locals := 0 }
theorem yv_X8_addKind : kYv yX8_addKind cX8_addKind 2 (none) 1 := ⟨(tb4 49 rfl rfl), (tb0 20 rfl rfl), (tb1 9 rfl rfl), (tb4 50 rfl rfl), by decide, by decide, by decide +kernel⟩
abbrev rmX8_draw : Room := { frames := 4, cells := 0, slots := 0, locals := 87 }
theorem yv_X8_draw : kYv yX8_draw cX8_draw 10 (none) 3 := ⟨(tb4 110 rfl rfl), (tb4 111 rfl rfl), (tb1 9 rfl rfl), (tb4 112 rfl rfl), by decide, by decide, by decide +kernel⟩
abbrev rmX8_sendThrough : Room := { frames := 1, cells := 0, slots := 0, locals := 21 }
theorem yv_X8_sendThrough : kYv yX8_sendThrough cX8_sendThrough 6 (none) 2 := ⟨(tb4 120 rfl rfl), (tb4 121 rfl rfl), (tb1 9 rfl rfl), (tb4 122 rfl rfl), by decide, by decide, by decide +kernel⟩
abbrev rmX9_size : Room := { frames := 0, cells := 0, slots := 0, locals := 0 }
theorem yv_X9_size : kYv yX9_size cX9_size 1 (some .int) 0 := ⟨(tb3 189 rfl rfl), (tb3 190 rfl rfl), (tb1 7 rfl rfl), (tb3 191 rfl rfl), by decide, by decide, by decide +kernel⟩
abbrev rmX9_add : Room := { frames := 0, cells := 0, slots := 0, locals := 0 }
theorem yv_X9_add : kYv yX9_add cX9_add 2 (some .int) 1 := ⟨(tb3 135 rfl rfl), (tb3 136 rfl rfl), (tb1 7 rfl rfl), (tb3 137 rfl rfl), by decide, by decide, by decide +kernel⟩
abbrev rmX9_keep : Room := { frames := 0, cells := 0, slots := 0, locals := 0 }
theorem yv_X9_keep : kYv yX9_keep cX9_keep 2 (some .boolean) 1 := ⟨(tb3 143 rfl rfl), (tb3 144 rfl rfl), (tb1 7 rfl rfl), (tb3 145 rfl rfl), by decide, by decide, by decide +kernel⟩
abbrev rmX9_at : Room := { frames := 0, cells := 0, slots := 0, locals := 0 }
theorem yv_X9_at : kYv yX9_at cX9_at 2 (some .int) 1 := ⟨(tb3 151 rfl rfl), (tb3 152 rfl rfl), (tb1 7 rfl rfl), (tb3 153 rfl rfl), by decide, by decide, by decide +kernel⟩
abbrev rmX9_isWhole : Room := { frames := 0, cells := 0, slots := 0, locals := 0 }
theorem yv_X9_isWhole : kYv yX9_isWhole cX9_isWhole 1 (some .boolean) 0 := ⟨(tb3 167 rfl rfl), (tb3 168 rfl rfl), (tb1 7 rfl rfl), (tb3 169 rfl rfl), by decide, by decide, by decide +kernel⟩
abbrev rmX10_size : Room := { frames := 0, cells := 0, slots := 0, locals := 0 }
theorem yv_X10_size : kYv yX10_size cX10_size 1 (some .int) 0 := ⟨(tb2 131 rfl rfl), (tb2 132 rfl rfl), (tb1 2 rfl rfl), (tb2 133 rfl rfl), by decide, by decide, by decide +kernel⟩
abbrev rmX10_hasRoom : Room := { frames := 0, cells := 0, slots := 0, locals := 0 }
theorem yv_X10_hasRoom : kYv yX10_hasRoom cX10_hasRoom 1 (some .boolean) 0 := ⟨(tb2 123 rfl rfl), (tb2 124 rfl rfl), (tb1 2 rfl rfl), (tb2 125 rfl rfl), by decide, by decide, by decide +kernel⟩
abbrev rmX10_add : Room := { frames := 0, cells := 0, slots := 0, locals := 0 }
theorem yv_X10_add : kYv yX10_add cX10_add 3 (none) 1 := ⟨(tb2 127 rfl rfl), (tb2 128 rfl rfl), (tb1 2 rfl rfl), (tb2 129 rfl rfl), by decide, by decide, by decide +kernel⟩
abbrev rmX10_keep : Room := { frames := 0, cells := 0, slots := 0, locals := 0 }
theorem yv_X10_keep : kYv yX10_keep cX10_keep 2 (some .boolean) 1 := ⟨(tb2 139 rfl rfl), (tb2 140 rfl rfl), (tb1 2 rfl rfl), (tb2 141 rfl rfl), by decide, by decide, by decide +kernel⟩
abbrev rmX10_at : Room := { frames := 0, cells := 0, slots := 0, locals := 0 }
theorem yv_X10_at : kYv yX10_at cX10_at 2 (some .int) 1 := ⟨(tb2 160 rfl rfl), (tb2 161 rfl rfl), (tb1 2 rfl rfl), (tb2 162 rfl rfl), by decide, by decide, by decide +kernel⟩
abbrev rmX10_isLetter : Room := { frames := 1, cells := 0, slots := 0, locals := 21 }
theorem yv_X10_isLetter : kYv yX10_isLetter cX10_isLetter 3 (some .boolean) 1 := ⟨(tb4 33 rfl rfl), (tb4 34 rfl rfl), (tb1 2 rfl rfl), (tb4 35 rfl rfl), by decide, by decide, by decide +kernel⟩
abbrev rmX11_feed : Room := { frames := 1, cells := 0, slots := 0, locals := 22 }
theorem yv_X11_feed : kYv yX11_feed cX11_feed 6 (some .int) 5 := ⟨(tb2 119 rfl rfl), (tb2 120 rfl rfl), (tb1 1 rfl rfl), (tb2 121 rfl rfl), by decide, by decide, by decide +kernel⟩
abbrev rmX11_end : Room := { frames := 1, cells := 0, slots := 0, locals := 21 }
theorem yv_X11_end : kYv yX11_end cX11_end 2 (some .boolean) 1 := ⟨(tb2 135 rfl rfl), (tb2 136 rfl rfl), (tb1 1 rfl rfl), (tb2 137 rfl rfl), by decide, by decide, by decide +kernel⟩
abbrev rmX11_fault : Room := { frames := 9, cells := 0, slots := 0, locals := 191 }
theorem yv_X11_fault : kYv yX11_fault cX11_fault 1 (some .int) 0 := ⟨(tb2 143 rfl rfl), (tb2 144 rfl rfl), (tb1 1 rfl rfl), (tb2 145 rfl rfl), by decide, by decide, by decide +kernel⟩
abbrev rmX11_code : Room := { frames := 9, cells := 0, slots := 0, locals := 191 }
theorem yv_X11_code : kYv yX11_code cX11_code 1 (some .int) 0 := ⟨(tb3 49 rfl rfl), (tb3 50 rfl rfl), (tb1 1 rfl rfl), (tb3 51 rfl rfl), by decide, by decide, by decide +kernel⟩
abbrev rmX11_marks : Room := { frames := 2, cells := 0, slots := 0, locals := 42 }
theorem yv_X11_marks : kYv yX11_marks cX11_marks 2 (some .int) 1 := ⟨(tb3 58 rfl rfl), (tb3 59 rfl rfl), (tb1 1 rfl rfl), (tb3 60 rfl rfl), by decide, by decide, by decide +kernel⟩
abbrev rmX11_group : Room := { frames := 1, cells := 0, slots := 0, locals := 21 }
theorem yv_X11_group : kYv yX11_group cX11_group 2 (some .int) 1 := ⟨(tb3 66 rfl rfl), (tb3 67 rfl rfl), (tb1 1 rfl rfl), (tb3 68 rfl rfl), by decide, by decide, by decide +kernel⟩
abbrev rmX11_mended : Room := { frames := 2, cells := 0, slots := 0, locals := 50 }
theorem yv_X11_mended : kYv yX11_mended cX11_mended 4 (some .int) 3 := ⟨(tb3 74 rfl rfl), (tb3 75 rfl rfl), (tb1 1 rfl rfl), (tb3 76 rfl rfl), by decide, by decide, by decide +kernel⟩
abbrev rmX11_hand : Room := { frames := 1, cells := 0, slots := 0, locals := 26 }
theorem yv_X11_hand : kYv yX11_hand cX11_hand 7 (some .int) 5 := ⟨(tb3 85 rfl rfl), (tb3 86 rfl rfl), (tb1 1 rfl rfl), (tb3 87 rfl rfl), by decide, by decide, by decide +kernel⟩
abbrev rmX11_line : Room := { frames := 2, cells := 0, slots := 0, locals := 41 }
theorem yv_X11_line : kYv yX11_line cX11_line 6 (some .int) 4 := ⟨(tb3 96 rfl rfl), (tb3 97 rfl rfl), (tb1 1 rfl rfl), (tb3 98 rfl rfl), by decide, by decide, by decide +kernel⟩
abbrev rmX11_rain : Room := { frames := 1, cells := 0, slots := 0, locals := 21 }
theorem yv_X11_rain : kYv yX11_rain cX11_rain 2 (some .boolean) 1 := ⟨(tb3 110 rfl rfl), (tb3 111 rfl rfl), (tb1 1 rfl rfl), (tb3 112 rfl rfl), by decide, by decide, by decide +kernel⟩
abbrev rmX11_bite : Room := { frames := 2, cells := 0, slots := 0, locals := 42 }
theorem yv_X11_bite : kYv yX11_bite cX11_bite 2 (some .int) 1 := ⟨(tb3 118 rfl rfl), (tb3 119 rfl rfl), (tb1 1 rfl rfl), (tb3 120 rfl rfl), by decide, by decide, by decide +kernel⟩
abbrev rmX11_isStation : Room := { frames := 0, cells := 0, slots := 0, locals := 0 }
theorem ys_X11_isStation : kYs yX11_isStation cX11_isStation 1 (some .boolean) 1 := ⟨(tb3 103 rfl rfl), (tb1 1 rfl rfl), (tb3 104 rfl rfl), by decide, by decide, by decide +kernel⟩
abbrev rmX11_areTwoStations : Room := { frames := 1, cells := 0, slots := 0, locals := 20 }
theorem ys_X11_areTwoStations : kYs yX11_areTwoStations cX11_areTwoStations 2 (some .boolean) 2 := ⟨(tb3 100 rfl rfl), (tb1 1 rfl rfl), (tb3 101 rfl rfl), by decide, by decide, by decide +kernel⟩
abbrev rmX11_length : Room := { frames := 1, cells := 0, slots := 0, locals := 21 }
theorem yv_X11_length : kYv yX11_length cX11_length 2 (some .int) 1 := ⟨(tb3 131 rfl rfl), (tb3 132 rfl rfl), (tb1 1 rfl rfl), (tb3 133 rfl rfl), by decide, by decide, by decide +kernel⟩
abbrev rmX11_cut : Room := { frames := 1, cells := 0, slots := 0, locals := 21 }
theorem yv_X11_cut : kYv yX11_cut cX11_cut 2 (some .boolean) 1 := ⟨(tb3 139 rfl rfl), (tb3 140 rfl rfl), (tb1 1 rfl rfl), (tb3 141 rfl rfl), by decide, by decide, by decide +kernel⟩
abbrev rmX11_tape : Room := { frames := 1, cells := 0, slots := 0, locals := 21 }
theorem yv_X11_tape : kYv yX11_tape cX11_tape 2 (some .int) 1 := ⟨(tb3 147 rfl rfl), (tb3 148 rfl rfl), (tb1 1 rfl rfl), (tb3 149 rfl rfl), by decide, by decide, by decide +kernel⟩
abbrev rmX11_readings : Room := { frames := 4, cells := 0, slots := 0, locals := 96 }
theorem yv_X11_readings : kYv yX11_readings cX11_readings 3 (some .int) 2 := ⟨(tb3 155 rfl rfl), (tb3 156 rfl rfl), (tb1 1 rfl rfl), (tb3 157 rfl rfl), by decide, by decide, by decide +kernel⟩
abbrev rmX11_nearest : Room := { frames := 5, cells := 0, slots := 0, locals := 120 }
theorem yv_X11_nearest : kYv yX11_nearest cX11_nearest 5 (some .int) 3 := ⟨(tb3 229 rfl rfl), (tb3 230 rfl rfl), (tb1 1 rfl rfl), (tb3 231 rfl rfl), by decide, by decide, by decide +kernel⟩
abbrev rmX11_canRead : Room := { frames := 1, cells := 0, slots := 0, locals := 21 }
theorem yv_X11_canRead : kYv yX11_canRead cX11_canRead 3 (some .boolean) 2 := ⟨(tb3 160 rfl rfl), (tb0 12 rfl rfl), (tb1 1 rfl rfl), (tb3 161 rfl rfl), by decide, by decide, by decide +kernel⟩
abbrev rmX11_suspects : Room := { frames := 5, cells := 0, slots := 0, locals := 111 }
theorem yv_X11_suspects : kYv yX11_suspects cX11_suspects 5 (some .int) 1 := ⟨(tb4 24 rfl rfl), (tb4 25 rfl rfl), (tb1 1 rfl rfl), (tb4 26 rfl rfl), by decide, by decide, by decide +kernel⟩
abbrev rmX11_likelier : Room := { frames := 5, cells := 0, slots := 0, locals := 111 }
theorem yv_X11_likelier : kYv yX11_likelier cX11_likelier 5 (some .int) 3 := ⟨(tb4 75 rfl rfl), (tb4 76 rfl rfl), (tb1 1 rfl rfl), (tb4 77 rfl rfl), by decide, by decide, by decide +kernel⟩
abbrev rmX11_tapeSaysIt : Room := { frames := 4, cells := 0, slots := 0, locals := 88 }
theorem yv_X11_tapeSaysIt : kYv yX11_tapeSaysIt cX11_tapeSaysIt 4 (some .boolean) 2 := ⟨(tb4 62 rfl rfl), (tb0 21 rfl rfl), (tb1 1 rfl rfl), (tb4 63 rfl rfl), by decide, by decide, by decide +kernel⟩
abbrev rmX11_multiplyChoices : Room := { frames := 4, cells := 0, slots := 0, locals := 87 }
theorem yv_X11_multiplyChoices : kYv yX11_multiplyChoices cX11_multiplyChoices 4 (none) 2 := ⟨(tb4 80 rfl rfl), (tb0 22 rfl rfl), (tb1 1 rfl rfl), (tb4 81 rfl rfl), by decide, by decide, by decide +kernel⟩
abbrev rmX11_key : Room := { frames := 5, cells := 0, slots := 0, locals := 116 }
theorem yv_X11_key : kYv yX11_key cX11_key 4 (some .int) 3 := ⟨(tb4 105 rfl rfl), (tb4 106 rfl rfl), (tb1 1 rfl rfl), (tb4 107 rfl rfl), by decide, by decide, by decide +kernel⟩
abbrev rmX11_message : Room := { frames := 3, cells := 0, slots := 0, locals := 71 }
theorem yv_X11_message : kYv yX11_message cX11_message 8 (some .int) 3 := ⟨(tb4 128 rfl rfl), (tb4 129 rfl rfl), (tb1 1 rfl rfl), (tb4 130 rfl rfl), by decide, by decide, by decide +kernel⟩
abbrev rmX11_route : Room := { frames := 3, cells := 0, slots := 0, locals := 71 }
theorem yv_X11_route : kYv yX11_route cX11_route 5 (some .int) 3 := ⟨(tb4 150 rfl rfl), (tb4 151 rfl rfl), (tb1 1 rfl rfl), (tb4 152 rfl rfl), by decide, by decide, by decide +kernel⟩
abbrev rmX11_sent : Room := { frames := 5, cells := 0, slots := 0, locals := 117 }
theorem yv_X11_sent : kYv yX11_sent cX11_sent 4 (some .int) 3 := ⟨(tb4 158 rfl rfl), (tb4 159 rfl rfl), (tb1 1 rfl rfl), (tb4 160 rfl rfl), by decide, by decide, by decide +kernel⟩
abbrev rmX11_tap : Room := { frames := 5, cells := 0, slots := 0, locals := 117 }
theorem yv_X11_tap : kYv yX11_tap cX11_tap 3 (some .int) 2 := ⟨(tb4 216 rfl rfl), (tb4 217 rfl rfl), (tb1 1 rfl rfl), (tb4 218 rfl rfl), by decide, by decide, by decide +kernel⟩
abbrev rmX11_clock : Room := { frames := 2, cells := 0, slots := 0, locals := 43 }
theorem yv_X11_clock : kYv yX11_clock cX11_clock 4 (some .boolean) 3 := ⟨(tb4 232 rfl rfl), (tb4 233 rfl rfl), (tb1 1 rfl rfl), (tb4 234 rfl rfl), by decide, by decide, by decide +kernel⟩
abbrev rmX11_event : Room := { frames := 1, cells := 0, slots := 0, locals := 22 }
theorem yv_X11_event : kYv yX11_event cX11_event 3 (some .int) 2 := ⟨(tb5 1 rfl rfl), (tb5 2 rfl rfl), (tb1 1 rfl rfl), (tb5 3 rfl rfl), by decide, by decide, by decide +kernel⟩
abbrev rmX11_fact : Room := { frames := 1, cells := 0, slots := 0, locals := 23 }
theorem yv_X11_fact : kYv yX11_fact cX11_fact 5 (some .int) 3 := ⟨(tb5 9 rfl rfl), (tb5 10 rfl rfl), (tb1 1 rfl rfl), (tb5 11 rfl rfl), by decide, by decide, by decide +kernel⟩
abbrev rmX11_undo : Room := { frames := 1, cells := 0, slots := 0, locals := 20 }
theorem yv_X11_undo : kYv yX11_undo cX11_undo 1 (some .int) 0 := ⟨(tb5 21 rfl rfl), (tb5 22 rfl rfl), (tb1 1 rfl rfl), (tb5 23 rfl rfl), by decide, by decide, by decide +kernel⟩
abbrev rmX11_apart : Room := { frames := 3, cells := 0, slots := 0, locals := 68 }
theorem yv_X11_apart : kYv yX11_apart cX11_apart 4 (some .int) 3 := ⟨(tb5 29 rfl rfl), (tb5 30 rfl rfl), (tb1 1 rfl rfl), (tb5 31 rfl rfl), by decide, by decide, by decide +kernel⟩
abbrev rmX11_first : Room := { frames := 3, cells := 0, slots := 0, locals := 68 }
theorem yv_X11_first : kYv yX11_first cX11_first 5 (some .int) 2 := ⟨(tb5 65 rfl rfl), (tb5 66 rfl rfl), (tb1 1 rfl rfl), (tb5 67 rfl rfl), by decide, by decide, by decide +kernel⟩
abbrev rmX11_count : Room := { frames := 1, cells := 0, slots := 0, locals := 20 }
theorem yv_X11_count : kYv yX11_count cX11_count 2 (some .int) 1 := ⟨(tb5 69 rfl rfl), (tb5 70 rfl rfl), (tb1 1 rfl rfl), (tb5 71 rfl rfl), by decide, by decide, by decide +kernel⟩
abbrev rmX12_in : Room := { frames := 0, cells := 0, slots := 0, locals := 0 }
theorem ys_X12_in : kYs yX12_in cX12_in 6 (some .boolean) 3 := ⟨(tb6 49 rfl rfl), (tb1 13 rfl rfl), (tb6 50 rfl rfl), by decide, by decide, by decide +kernel⟩
abbrev rmX12_feeds : Room := { frames := 0, cells := 0, slots := 0, locals := 0 }
theorem yv_X12_feeds : kYv yX12_feeds cX12_feeds 3 (none) 1 := ⟨(tb6 42 rfl rfl), (tb0 37 rfl rfl), (tb1 13 rfl rfl), (tb6 43 rfl rfl), by decide, by decide, by decide +kernel⟩
abbrev rmX12_feed : Room := { frames := 1, cells := 0, slots := 0, locals := 22 }
theorem yv_X12_feed : kYv yX12_feed cX12_feed 6 (some .int) 5 := ⟨(tb6 37 rfl rfl), (tb6 38 rfl rfl), (tb1 13 rfl rfl), (tb6 39 rfl rfl), by decide, by decide, by decide +kernel⟩
abbrev rmX12_end : Room := { frames := 1, cells := 0, slots := 0, locals := 25 }
theorem yv_X12_end : kYv yX12_end cX12_end 2 (some .boolean) 1 := ⟨(tb6 45 rfl rfl), (tb6 46 rfl rfl), (tb1 13 rfl rfl), (tb6 47 rfl rfl), by decide, by decide, by decide +kernel⟩
abbrev rmX12_between : Room := { frames := 0, cells := 0, slots := 0, locals := 0 }
theorem yv_X12_between : kYv yX12_between cX12_between 4 (some .boolean) 3 := ⟨(tb6 65 rfl rfl), (tb0 40 rfl rfl), (tb1 13 rfl rfl), (tb6 66 rfl rfl), by decide, by decide, by decide +kernel⟩
abbrev rmX12_next : Room := { frames := 1, cells := 0, slots := 0, locals := 23 }
theorem yv_X12_next : kYv yX12_next cX12_next 1 (none) 0 := ⟨(tb6 61 rfl rfl), (tb0 39 rfl rfl), (tb1 13 rfl rfl), (tb6 62 rfl rfl), by decide, by decide, by decide +kernel⟩
abbrev rmX12_passes : Room := { frames := 2, cells := 0, slots := 0, locals := 43 }
theorem yv_X12_passes : kYv yX12_passes cX12_passes 2 (some .boolean) 1 := ⟨(tb6 75 rfl rfl), (tb0 42 rfl rfl), (tb1 13 rfl rfl), (tb6 76 rfl rfl), by decide, by decide, by decide +kernel⟩
abbrev rmX12_isWord : Room := { frames := 4, cells := 0, slots := 0, locals := 85 }
theorem yv_X12_isWord : kYv yX12_isWord cX12_isWord 3 (some .boolean) 1 := ⟨(tb6 69 rfl rfl), (tb0 41 rfl rfl), (tb1 13 rfl rfl), (tb6 70 rfl rfl), by decide, by decide, by decide +kernel⟩
abbrev rmX12_closes : Room := { frames := 3, cells := 0, slots := 0, locals := 64 }
theorem yv_X12_closes : kYv yX12_closes cX12_closes 1 (some .boolean) 0 := ⟨(tb6 87 rfl rfl), (tb0 45 rfl rfl), (tb1 13 rfl rfl), (tb6 88 rfl rfl), by decide, by decide, by decide +kernel⟩
abbrev rmX12_marksHere : Room := { frames := 1, cells := 0, slots := 0, locals := 23 }
theorem yv_X12_marksHere : kYv yX12_marksHere cX12_marksHere 3 (some .int) 0 := ⟨(tb6 83 rfl rfl), (tb0 44 rfl rfl), (tb1 13 rfl rfl), (tb6 84 rfl rfl), by decide, by decide, by decide +kernel⟩
abbrev rmX12_letterRead : Room := { frames := 4, cells := 0, slots := 0, locals := 84 }
theorem yv_X12_letterRead : kYv yX12_letterRead cX12_letterRead 4 (some .boolean) 0 := ⟨(tb6 79 rfl rfl), (tb0 43 rfl rfl), (tb1 13 rfl rfl), (tb6 80 rfl rfl), by decide, by decide, by decide +kernel⟩
abbrev rmX12_nameHere : Room := { frames := 5, cells := 0, slots := 0, locals := 107 }
theorem yv_X12_nameHere : kYv yX12_nameHere cX12_nameHere 4 (some .long) 0 := ⟨(tb6 95 rfl rfl), (tb0 47 rfl rfl), (tb1 13 rfl rfl), (tb6 96 rfl rfl), by decide, by decide, by decide +kernel⟩
abbrev rmX12_groupHere : Room := { frames := 1, cells := 0, slots := 0, locals := 23 }
theorem yv_X12_groupHere : kYv yX12_groupHere cX12_groupHere 3 (some .int) 0 := ⟨(tb6 102 rfl rfl), (tb0 48 rfl rfl), (tb1 13 rfl rfl), (tb6 103 rfl rfl), by decide, by decide, by decide +kernel⟩
abbrev rmX12_wordRead : Room := { frames := 6, cells := 0, slots := 0, locals := 130 }
theorem yv_X12_wordRead : kYv yX12_wordRead cX12_wordRead 5 (some .boolean) 0 := ⟨(tb6 91 rfl rfl), (tb0 46 rfl rfl), (tb1 13 rfl rfl), (tb6 92 rfl rfl), by decide, by decide, by decide +kernel⟩
abbrev rmX12_reads : Room := { frames := 7, cells := 0, slots := 0, locals := 154 }
theorem yv_X12_reads : kYv yX12_reads cX12_reads 2 (none) 0 := ⟨(tb6 57 rfl rfl), (tb0 38 rfl rfl), (tb1 13 rfl rfl), (tb6 58 rfl rfl), by decide, by decide, by decide +kernel⟩
abbrev rmX12_fault : Room := { frames := 8, cells := 0, slots := 0, locals := 175 }
theorem yv_X12_fault : kYv yX12_fault cX12_fault 1 (some .int) 0 := ⟨(tb6 52 rfl rfl), (tb6 53 rfl rfl), (tb1 13 rfl rfl), (tb6 54 rfl rfl), by decide, by decide, by decide +kernel⟩
abbrev rmX12_code : Room := { frames := 8, cells := 0, slots := 0, locals := 175 }
theorem yv_X12_code : kYv yX12_code cX12_code 2 (some .int) 0 := ⟨(tb6 105 rfl rfl), (tb6 106 rfl rfl), (tb1 13 rfl rfl), (tb6 107 rfl rfl), by decide, by decide, by decide +kernel⟩
abbrev rmX12_marks : Room := { frames := 1, cells := 0, slots := 0, locals := 25 }
theorem yv_X12_marks : kYv yX12_marks cX12_marks 2 (some .int) 1 := ⟨(tb6 109 rfl rfl), (tb6 110 rfl rfl), (tb1 13 rfl rfl), (tb6 111 rfl rfl), by decide, by decide, by decide +kernel⟩
abbrev rmX12_group : Room := { frames := 1, cells := 0, slots := 0, locals := 25 }
theorem yv_X12_group : kYv yX12_group cX12_group 2 (some .int) 1 := ⟨(tb6 114 rfl rfl), (tb6 115 rfl rfl), (tb1 13 rfl rfl), (tb6 116 rfl rfl), by decide, by decide, by decide +kernel⟩
abbrev rmX12_isSpan : Room := { frames := 1, cells := 0, slots := 0, locals := 25 }
theorem ys_X12_isSpan : kYs yX12_isSpan cX12_isSpan 1 (some .boolean) 1 := ⟨(tb6 122 rfl rfl), (tb1 13 rfl rfl), (tb6 123 rfl rfl), by decide, by decide, by decide +kernel⟩
abbrev rmX12_span : Room := { frames := 0, cells := 0, slots := 0, locals := 0 }
theorem yv_X12_span : kYv yX12_span cX12_span 3 (none) 2 := ⟨(tb6 127 rfl rfl), (tb0 49 rfl rfl), (tb1 13 rfl rfl), (tb6 128 rfl rfl), by decide, by decide, by decide +kernel⟩
abbrev rmX12_hand : Room := { frames := 2, cells := 0, slots := 0, locals := 45 }
theorem yv_X12_hand : kYv yX12_hand cX12_hand 6 (some .int) 5 := ⟨(tb6 118 rfl rfl), (tb6 119 rfl rfl), (tb1 13 rfl rfl), (tb6 120 rfl rfl), by decide, by decide, by decide +kernel⟩
abbrev rmX12_isStation : Room := { frames := 1, cells := 0, slots := 0, locals := 25 }
theorem ys_X12_isStation : kYs yX12_isStation cX12_isStation 1 (some .boolean) 1 := ⟨(tb6 134 rfl rfl), (tb1 13 rfl rfl), (tb6 135 rfl rfl), by decide, by decide, by decide +kernel⟩
abbrev rmX12_line : Room := { frames := 2, cells := 0, slots := 0, locals := 45 }
theorem yv_X12_line : kYv yX12_line cX12_line 5 (some .int) 4 := ⟨(tb6 130 rfl rfl), (tb6 131 rfl rfl), (tb1 13 rfl rfl), (tb6 132 rfl rfl), by decide, by decide, by decide +kernel⟩
abbrev rmX12_rain : Room := { frames := 1, cells := 0, slots := 0, locals := 25 }
theorem yv_X12_rain : kYv yX12_rain cX12_rain 2 (some .boolean) 1 := ⟨(tb6 140 rfl rfl), (tb6 141 rfl rfl), (tb1 13 rfl rfl), (tb6 142 rfl rfl), by decide, by decide, by decide +kernel⟩
abbrev rmX12_isLine : Room := { frames := 1, cells := 0, slots := 0, locals := 25 }
theorem yv_X12_isLine : kYv yX12_isLine cX12_isLine 2 (some .boolean) 1 := ⟨(tb6 150 rfl rfl), (tb0 50 rfl rfl), (tb1 13 rfl rfl), (tb6 151 rfl rfl), by decide, by decide, by decide +kernel⟩
abbrev rmX12_isHand : Room := { frames := 1, cells := 0, slots := 0, locals := 25 }
theorem yv_X12_isHand : kYv yX12_isHand cX12_isHand 2 (some .boolean) 1 := ⟨(tb6 179 rfl rfl), (tb0 53 rfl rfl), (tb1 13 rfl rfl), (tb6 180 rfl rfl), by decide, by decide, by decide +kernel⟩
abbrev rmX12_biteOf : Room := { frames := 0, cells := 0, slots := 0, locals := 0 }
theorem yv_X12_biteOf : kYv yX12_biteOf cX12_biteOf 2 (some .int) 1 := ⟨(tb6 154 rfl rfl), (tb0 51 rfl rfl), (tb1 13 rfl rfl), (tb6 155 rfl rfl), by decide, by decide, by decide +kernel⟩
abbrev rmX12_bite : Room := { frames := 2, cells := 0, slots := 0, locals := 46 }
theorem yv_X12_bite : kYv yX12_bite cX12_bite 2 (some .int) 1 := ⟨(tb6 145 rfl rfl), (tb6 146 rfl rfl), (tb1 13 rfl rfl), (tb6 147 rfl rfl), by decide, by decide, by decide +kernel⟩
abbrev rmX12_length : Room := { frames := 1, cells := 0, slots := 0, locals := 25 }
theorem yv_X12_length : kYv yX12_length cX12_length 2 (some .int) 1 := ⟨(tb6 157 rfl rfl), (tb6 158 rfl rfl), (tb1 13 rfl rfl), (tb6 159 rfl rfl), by decide, by decide, by decide +kernel⟩
abbrev rmX12_cut : Room := { frames := 1, cells := 0, slots := 0, locals := 25 }
theorem yv_X12_cut : kYv yX12_cut cX12_cut 2 (some .boolean) 1 := ⟨(tb6 162 rfl rfl), (tb6 163 rfl rfl), (tb1 13 rfl rfl), (tb6 164 rfl rfl), by decide, by decide, by decide +kernel⟩
abbrev rmX12_tape : Room := { frames := 1, cells := 0, slots := 0, locals := 25 }
theorem yv_X12_tape : kYv yX12_tape cX12_tape 2 (some .int) 1 := ⟨(tb6 166 rfl rfl), (tb6 167 rfl rfl), (tb1 13 rfl rfl), (tb6 168 rfl rfl), by decide, by decide, by decide +kernel⟩
abbrev rmX12_sentAt : Room := { frames := 0, cells := 0, slots := 0, locals := 0 }
theorem yv_X12_sentAt : kYv yX12_sentAt cX12_sentAt 2 (some .int) 1 := ⟨(tb6 197 rfl rfl), (tb0 56 rfl rfl), (tb1 13 rfl rfl), (tb6 198 rfl rfl), by decide, by decide, by decide +kernel⟩
abbrev rmX12_isOf : Room := { frames := 1, cells := 0, slots := 0, locals := 25 }
theorem yv_X12_isOf : kYv yX12_isOf cX12_isOf 3 (some .boolean) 2 := ⟨(tb6 193 rfl rfl), (tb0 55 rfl rfl), (tb1 13 rfl rfl), (tb6 194 rfl rfl), by decide, by decide, by decide +kernel⟩
abbrev rmX12_costOf : Room := { frames := 1, cells := 0, slots := 0, locals := 21 }
theorem yv_X12_costOf : kYv yX12_costOf cX12_costOf 3 (some .int) 2 := ⟨(tb6 215 rfl rfl), (tb0 59 rfl rfl), (tb1 13 rfl rfl), (tb6 216 rfl rfl), by decide, by decide, by decide +kernel⟩
abbrev rmX12_marksMany : Room := { frames := 0, cells := 0, slots := 0, locals := 0 }
theorem ys_X12_marksMany : kYs yX12_marksMany cX12_marksMany 3 (some .int) 1 := ⟨(tb6 186 rfl rfl), (tb1 13 rfl rfl), (tb6 187 rfl rfl), by decide, by decide, by decide +kernel⟩
abbrev rmX12_kindOf : Room := { frames := 1, cells := 0, slots := 0, locals := 22 }
theorem ys_X12_kindOf : kYs yX12_kindOf cX12_kindOf 4 (some .int) 2 := ⟨(tb6 189 rfl rfl), (tb1 13 rfl rfl), (tb6 190 rfl rfl), by decide, by decide, by decide +kernel⟩
abbrev rmX12_stands : Room := { frames := 2, cells := 0, slots := 0, locals := 47 }
theorem yv_X12_stands : kYv yX12_stands cX12_stands 5 (some .boolean) 2 := ⟨(tb6 183 rfl rfl), (tb0 54 rfl rfl), (tb1 13 rfl rfl), (tb6 184 rfl rfl), by decide, by decide, by decide +kernel⟩
abbrev rmX12_costFrom : Room := { frames := 2, cells := 0, slots := 0, locals := 45 }
theorem yv_X12_costFrom : kYv yX12_costFrom cX12_costFrom 5 (some .int) 2 := ⟨(tb6 211 rfl rfl), (tb0 58 rfl rfl), (tb1 13 rfl rfl), (tb6 212 rfl rfl), by decide, by decide, by decide +kernel⟩
abbrev rmX12_takes : Room := { frames := 2, cells := 0, slots := 0, locals := 46 }
theorem yv_X12_takes : kYv yX12_takes cX12_takes 3 (some .boolean) 2 := ⟨(tb6 175 rfl rfl), (tb0 52 rfl rfl), (tb1 13 rfl rfl), (tb6 176 rfl rfl), by decide, by decide, by decide +kernel⟩
abbrev rmX12_readings : Room := { frames := 3, cells := 0, slots := 0, locals := 71 }
theorem yv_X12_readings : kYv yX12_readings cX12_readings 8 (some .int) 2 := ⟨(tb6 170 rfl rfl), (tb6 171 rfl rfl), (tb1 13 rfl rfl), (tb6 172 rfl rfl), by decide, by decide, by decide +kernel⟩
abbrev rmX12_whole : Room := { frames := 3, cells := 0, slots := 0, locals := 71 }
theorem yv_X12_whole : kYv yX12_whole cX12_whole 6 (some .int) 3 := ⟨(tb6 207 rfl rfl), (tb0 57 rfl rfl), (tb1 13 rfl rfl), (tb6 208 rfl rfl), by decide, by decide, by decide +kernel⟩
abbrev rmX12_nearest : Room := { frames := 4, cells := 0, slots := 0, locals := 96 }
theorem yv_X12_nearest : kYv yX12_nearest cX12_nearest 8 (some .int) 3 := ⟨(tb6 202 rfl rfl), (tb6 203 rfl rfl), (tb1 13 rfl rfl), (tb6 204 rfl rfl), by decide, by decide, by decide +kernel⟩
abbrev rmX12_isSaying : Room := { frames := 1, cells := 0, slots := 0, locals := 23 }
theorem yv_X12_isSaying : kYv yX12_isSaying cX12_isSaying 3 (some .boolean) 0 := ⟨(tb6 228 rfl rfl), (tb0 61 rfl rfl), (tb1 13 rfl rfl), (tb6 229 rfl rfl), by decide, by decide, by decide +kernel⟩
abbrev rmX12_adds : Room := { frames := 0, cells := 0, slots := 0, locals := 0 }
theorem yv_X12_adds : kYv yX12_adds cX12_adds 2 (none) 1 := ⟨(tb6 236 rfl rfl), (tb0 63 rfl rfl), (tb1 13 rfl rfl), (tb6 237 rfl rfl), by decide, by decide, by decide +kernel⟩
abbrev rmX12_lays : Room := { frames := 2, cells := 0, slots := 0, locals := 45 }
theorem yv_X12_lays : kYv yX12_lays cX12_lays 4 (some .boolean) 0 := ⟨(tb6 232 rfl rfl), (tb0 62 rfl rfl), (tb1 13 rfl rfl), (tb6 233 rfl rfl), by decide, by decide, by decide +kernel⟩
abbrev rmX12_saysBy : Room := { frames := 3, cells := 0, slots := 0, locals := 68 }
theorem yv_X12_saysBy : kYv yX12_saysBy cX12_saysBy 4 (some .boolean) 2 := ⟨(tb7 0 rfl rfl), (tb0 64 rfl rfl), (tb1 13 rfl rfl), (tb7 1 rfl rfl), by decide, by decide, by decide +kernel⟩
abbrev rmX12_canSay : Room := { frames := 2, cells := 0, slots := 0, locals := 45 }
theorem yv_X12_canSay : kYv yX12_canSay cX12_canSay 1 (some .boolean) 0 := ⟨(tb6 224 rfl rfl), (tb0 60 rfl rfl), (tb1 13 rfl rfl), (tb6 225 rfl rfl), by decide, by decide, by decide +kernel⟩
abbrev rmX12_suspects : Room := { frames := 4, cells := 0, slots := 0, locals := 91 }
theorem yv_X12_suspects : kYv yX12_suspects cX12_suspects 6 (some .int) 1 := ⟨(tb6 219 rfl rfl), (tb6 220 rfl rfl), (tb1 13 rfl rfl), (tb6 221 rfl rfl), by decide, by decide, by decide +kernel⟩
abbrev rmX12_grows : Room := { frames := 0, cells := 0, slots := 0, locals := 0 }
theorem yv_X12_grows : kYv yX12_grows cX12_grows 6 (none) 2 := ⟨(tb7 12 rfl rfl), (tb0 66 rfl rfl), (tb1 13 rfl rfl), (tb7 13 rfl rfl), by decide, by decide, by decide +kernel⟩
abbrev rmX12_product : Room := { frames := 1, cells := 0, slots := 0, locals := 25 }
theorem yv_X12_product : kYv yX12_product cX12_product 4 (none) 2 := ⟨(tb7 8 rfl rfl), (tb0 65 rfl rfl), (tb1 13 rfl rfl), (tb7 9 rfl rfl), by decide, by decide, by decide +kernel⟩
abbrev rmX12_likelier : Room := { frames := 4, cells := 0, slots := 0, locals := 91 }
theorem yv_X12_likelier : kYv yX12_likelier cX12_likelier 5 (some .int) 3 := ⟨(tb7 3 rfl rfl), (tb7 4 rfl rfl), (tb1 13 rfl rfl), (tb7 5 rfl rfl), by decide, by decide, by decide +kernel⟩
abbrev rmX12_key : Room := { frames := 3, cells := 0, slots := 0, locals := 68 }
theorem yv_X12_key : kYv yX12_key cX12_key 12 (some .int) 3 := ⟨(tb7 15 rfl rfl), (tb7 16 rfl rfl), (tb1 13 rfl rfl), (tb7 17 rfl rfl), by decide, by decide, by decide +kernel⟩
abbrev rmX12_mended : Room := { frames := 1, cells := 0, slots := 0, locals := 25 }
theorem yv_X12_mended : kYv yX12_mended cX12_mended 10 (some .int) 3 := ⟨(tb7 24 rfl rfl), (tb7 25 rfl rfl), (tb1 13 rfl rfl), (tb7 26 rfl rfl), by decide, by decide, by decide +kernel⟩
abbrev rmX12_leads : Room := { frames := 0, cells := 0, slots := 0, locals := 0 }
theorem yv_X12_leads : kYv yX12_leads cX12_leads 4 (none) 1 := ⟨(tb7 39 rfl rfl), (tb0 68 rfl rfl), (tb1 13 rfl rfl), (tb7 40 rfl rfl), by decide, by decide, by decide +kernel⟩
abbrev rmX12_firstLine : Room := { frames := 1, cells := 0, slots := 0, locals := 23 }
theorem yv_X12_firstLine : kYv yX12_firstLine cX12_firstLine 4 (some .int) 2 := ⟨(tb7 35 rfl rfl), (tb0 67 rfl rfl), (tb1 13 rfl rfl), (tb7 36 rfl rfl), by decide, by decide, by decide +kernel⟩
abbrev rmX12_route : Room := { frames := 2, cells := 0, slots := 0, locals := 46 }
theorem yv_X12_route : kYv yX12_route cX12_route 7 (some .int) 3 := ⟨(tb7 30 rfl rfl), (tb7 31 rfl rfl), (tb1 13 rfl rfl), (tb7 32 rfl rfl), by decide, by decide, by decide +kernel⟩
abbrev rmX12_message : Room := { frames := 2, cells := 0, slots := 0, locals := 46 }
theorem yv_X12_message : kYv yX12_message cX12_message 4 (some .int) 3 := ⟨(tb7 42 rfl rfl), (tb7 43 rfl rfl), (tb1 13 rfl rfl), (tb7 44 rfl rfl), by decide, by decide, by decide +kernel⟩
abbrev rmX12_chosen : Room := { frames := 0, cells := 0, slots := 0, locals := 0 }
theorem yv_X12_chosen : kYv yX12_chosen cX12_chosen 5 (some .int) 2 := ⟨(tb7 63 rfl rfl), (tb0 71 rfl rfl), (tb1 13 rfl rfl), (tb7 64 rfl rfl), by decide, by decide, by decide +kernel⟩
abbrev rmX12_comesTo : Room := { frames := 2, cells := 0, slots := 0, locals := 46 }
theorem yv_X12_comesTo : kYv yX12_comesTo cX12_comesTo 4 (none) 3 := ⟨(tb7 59 rfl rfl), (tb0 70 rfl rfl), (tb1 13 rfl rfl), (tb7 60 rfl rfl), by decide, by decide, by decide +kernel⟩
abbrev rmX12_runs : Room := { frames := 3, cells := 0, slots := 0, locals := 69 }
theorem yv_X12_runs : kYv yX12_runs cX12_runs 6 (none) 2 := ⟨(tb7 55 rfl rfl), (tb0 69 rfl rfl), (tb1 13 rfl rfl), (tb7 56 rfl rfl), by decide, by decide, by decide +kernel⟩
abbrev rmX12_sent : Room := { frames := 4, cells := 0, slots := 0, locals := 94 }
theorem yv_X12_sent : kYv yX12_sent cX12_sent 4 (some .int) 3 := ⟨(tb7 48 rfl rfl), (tb7 49 rfl rfl), (tb1 13 rfl rfl), (tb7 50 rfl rfl), by decide, by decide, by decide +kernel⟩
abbrev rmX12_tap : Room := { frames := 4, cells := 0, slots := 0, locals := 94 }
theorem yv_X12_tap : kYv yX12_tap cX12_tap 3 (some .int) 2 := ⟨(tb7 66 rfl rfl), (tb7 67 rfl rfl), (tb1 13 rfl rfl), (tb7 68 rfl rfl), by decide, by decide, by decide +kernel⟩
abbrev rmX12_clock : Room := { frames := 2, cells := 0, slots := 0, locals := 45 }
theorem yv_X12_clock : kYv yX12_clock cX12_clock 4 (some .boolean) 3 := ⟨(tb7 70 rfl rfl), (tb7 71 rfl rfl), (tb1 13 rfl rfl), (tb7 72 rfl rfl), by decide, by decide, by decide +kernel⟩
abbrev rmX12_event : Room := { frames := 2, cells := 0, slots := 0, locals := 45 }
theorem yv_X12_event : kYv yX12_event cX12_event 3 (some .int) 2 := ⟨(tb7 75 rfl rfl), (tb7 76 rfl rfl), (tb1 13 rfl rfl), (tb7 77 rfl rfl), by decide, by decide, by decide +kernel⟩
abbrev rmX12_isEvent : Room := { frames := 1, cells := 0, slots := 0, locals := 25 }
theorem yv_X12_isEvent : kYv yX12_isEvent cX12_isEvent 2 (some .boolean) 1 := ⟨(tb7 84 rfl rfl), (tb0 72 rfl rfl), (tb1 13 rfl rfl), (tb7 85 rfl rfl), by decide, by decide, by decide +kernel⟩
abbrev rmX12_fact : Room := { frames := 2, cells := 0, slots := 0, locals := 46 }
theorem yv_X12_fact : kYv yX12_fact cX12_fact 4 (some .int) 3 := ⟨(tb7 79 rfl rfl), (tb7 80 rfl rfl), (tb1 13 rfl rfl), (tb7 81 rfl rfl), by decide, by decide, by decide +kernel⟩
abbrev rmX12_undo : Room := { frames := 0, cells := 0, slots := 0, locals := 0 }
theorem yv_X12_undo : kYv yX12_undo cX12_undo 1 (some .int) 0 := ⟨(tb7 88 rfl rfl), (tb7 89 rfl rfl), (tb1 13 rfl rfl), (tb7 90 rfl rfl), by decide, by decide, by decide +kernel⟩
abbrev rmX12_bounds : Room := { frames := 1, cells := 0, slots := 0, locals := 21 }
theorem yv_X12_bounds : kYv yX12_bounds cX12_bounds 4 (none) 3 := ⟨(tb7 102 rfl rfl), (tb0 74 rfl rfl), (tb1 13 rfl rfl), (tb7 103 rfl rfl), by decide, by decide, by decide +kernel⟩
abbrev rmX12_canBe : Room := { frames := 2, cells := 0, slots := 0, locals := 44 }
theorem yv_X12_canBe : kYv yX12_canBe cX12_canBe 4 (some .boolean) 0 := ⟨(tb7 97 rfl rfl), (tb0 73 rfl rfl), (tb1 13 rfl rfl), (tb7 98 rfl rfl), by decide, by decide, by decide +kernel⟩
abbrev rmX12_apart : Room := { frames := 3, cells := 0, slots := 0, locals := 67 }
theorem yv_X12_apart : kYv yX12_apart cX12_apart 7 (some .int) 3 := ⟨(tb7 92 rfl rfl), (tb7 93 rfl rfl), (tb1 13 rfl rfl), (tb7 94 rfl rfl), by decide, by decide, by decide +kernel⟩
abbrev rmX12_first : Room := { frames := 4, cells := 0, slots := 0, locals := 93 }
theorem yv_X12_first : kYv yX12_first cX12_first 5 (some .int) 2 := ⟨(tb7 106 rfl rfl), (tb7 107 rfl rfl), (tb1 13 rfl rfl), (tb7 108 rfl rfl), by decide, by decide, by decide +kernel⟩
abbrev rmX12_count : Room := { frames := 0, cells := 0, slots := 0, locals := 0 }
theorem yv_X12_count : kYv yX12_count cX12_count 2 (some .int) 1 := ⟨(tb7 111 rfl rfl), (tb7 112 rfl rfl), (tb1 13 rfl rfl), (tb7 113 rfl rfl), by decide, by decide, by decide +kernel⟩
abbrev rmJ6_compare_7cf53 : Room := { frames := 0, cells := 0, slots := 0, locals := 0 }
theorem ys_J6_compare_7cf53 : kYs yJ6_compare_7cf53 cJ6_compare_7cf53 2 (some .int) 2 := ⟨(tb4 102 rfl rfl), (tb1 19 rfl rfl), (tb4 103 rfl rfl), by decide, by decide, by decide +kernel⟩
abbrev rmJ9_abs_0f7a4 : Room := { frames := 0, cells := 0, slots := 0, locals := 0 }
theorem ys_J9_abs_0f7a4 : kYs yJ9_abs_0f7a4 cJ9_abs_0f7a4 1 (some .int) 1 := ⟨(tb3 218 rfl rfl), (tb1 18 rfl rfl), (tb3 219 rfl rfl), by decide, by decide, by decide +kernel⟩
abbrev rmJ9_max_7cf53 : Room := { frames := 0, cells := 0, slots := 0, locals := 0 }
theorem ys_J9_max_7cf53 : kYs yJ9_max_7cf53 cJ9_max_7cf53 2 (some .int) 2 := ⟨(tb4 5 rfl rfl), (tb1 18 rfl rfl), (tb4 6 rfl rfl), by decide, by decide, by decide +kernel⟩
abbrev rmJ9_min_7cf53 : Room := { frames := 0, cells := 0, slots := 0, locals := 0 }
theorem ys_J9_min_7cf53 : kYs yJ9_min_7cf53 cJ9_min_7cf53 2 (some .int) 2 := ⟨(tb3 193 rfl rfl), (tb1 18 rfl rfl), (tb3 194 rfl rfl), by decide, by decide, by decide +kernel⟩
abbrev rmJ9_min_f86c9 : Room := { frames := 0, cells := 0, slots := 0, locals := 0 }
theorem ys_J9_min_f86c9 : kYs yJ9_min_f86c9 cJ9_min_f86c9 4 (some .long) 2 := ⟨(tb3 226 rfl rfl), (tb1 18 rfl rfl), (tb3 227 rfl rfl), by decide, by decide, by decide +kernel⟩
abbrev rmJ0_length_8abf5 : Room := { frames := 1, cells := 0, slots := 0, locals := 20 }
theorem yv_J0_length_8abf5 : kYv yJ0_length_8abf5 cJ0_length_8abf5 1 (some .int) 0 := ⟨(tb2 181 rfl rfl), (tb2 182 rfl rfl), (tb1 14 rfl rfl), (tb2 183 rfl rfl), by decide, by decide, by decide +kernel⟩
abbrev rmJ0_charAt_5068e : Room := { frames := 3, cells := 0, slots := 0, locals := 64 }
theorem yv_J0_charAt_5068e : kYv yJ0_charAt_5068e cJ0_charAt_5068e 2 (some .char) 1 := ⟨(tb2 191 rfl rfl), (tb2 192 rfl rfl), (tb1 14 rfl rfl), (tb2 193 rfl rfl), by decide, by decide, by decide +kernel⟩
abbrev rmJ0_coder_7d493 : Room := { frames := 0, cells := 0, slots := 0, locals := 0 }
theorem yv_J0_coder_7d493 : kYv yJ0_coder_7d493 cJ0_coder_7d493 1 (some .byte) 0 := ⟨(tb2 185 rfl rfl), (tb2 186 rfl rfl), (tb1 14 rfl rfl), (tb2 187 rfl rfl), by decide, by decide, by decide +kernel⟩
abbrev rmJ0_isLatin1_aae02 : Room := { frames := 0, cells := 0, slots := 0, locals := 0 }
theorem yv_J0_isLatin1_aae02 : kYv yJ0_isLatin1_aae02 cJ0_isLatin1_aae02 1 (some .boolean) 0 := ⟨(tb2 195 rfl rfl), (tb2 196 rfl rfl), (tb1 14 rfl rfl), (tb2 197 rfl rfl), by decide, by decide, by decide +kernel⟩
abbrev rmJ0_checkIndex_df160 : Room := { frames := 1, cells := 0, slots := 0, locals := 22 }
theorem ys_J0_checkIndex_df160 : kYs yJ0_checkIndex_df160 cJ0_checkIndex_df160 2 (none) 2 := ⟨(tb2 202 rfl rfl), (tb1 14 rfl rfl), (tb2 203 rfl rfl), by decide, by decide, by decide +kernel⟩
abbrev rmJ1_charAt_3b067 : Room := { frames := 2, cells := 0, slots := 0, locals := 43 }
theorem ys_J1_charAt_3b067 : kYs yJ1_charAt_3b067 cJ1_charAt_3b067 2 (some .char) 2 := ⟨(tb2 199 rfl rfl), (tb1 15 rfl rfl), (tb2 200 rfl rfl), by decide, by decide, by decide +kernel⟩
abbrev rmJ2_getChar_3b067 : Room := { frames := 1, cells := 0, slots := 0, locals := 20 }
theorem ys_J2_getChar_3b067 : kYs yJ2_getChar_3b067 cJ2_getChar_3b067 2 (some .char) 2 := ⟨(tb2 220 rfl rfl), (tb1 17 rfl rfl), (tb2 221 rfl rfl), by decide, by decide, by decide +kernel⟩
abbrev rmJ2_length_9d52b : Room := { frames := 0, cells := 0, slots := 0, locals := 0 }
theorem ys_J2_length_9d52b : kYs yJ2_length_9d52b cJ2_length_9d52b 1 (some .int) 1 := ⟨(tb2 216 rfl rfl), (tb1 17 rfl rfl), (tb2 217 rfl rfl), by decide, by decide, by decide +kernel⟩
abbrev rmJ2_charAt_3b067 : Room := { frames := 3, cells := 0, slots := 0, locals := 64 }
theorem ys_J2_charAt_3b067 : kYs yJ2_charAt_3b067 cJ2_charAt_3b067 2 (some .char) 2 := ⟨(tb2 210 rfl rfl), (tb1 17 rfl rfl), (tb2 211 rfl rfl), by decide, by decide, by decide +kernel⟩
abbrev rmJ2_checkIndex_2214a : Room := { frames := 2, cells := 0, slots := 0, locals := 43 }
theorem ys_J2_checkIndex_2214a : kYs yJ2_checkIndex_2214a cJ2_checkIndex_2214a 2 (none) 2 := ⟨(tb2 213 rfl rfl), (tb1 17 rfl rfl), (tb2 214 rfl rfl), by decide, by decide, by decide +kernel⟩
abbrev rmJ3_checkIndex_8e157 : Room := { frames := 0, cells := 0, slots := 0, locals := 0 }
theorem ys_J3_checkIndex_8e157 : kYs yJ3_checkIndex_8e157 cJ3_checkIndex_8e157 3 (some .int) 3 := ⟨(tb2 207 rfl rfl), (tb1 16 rfl rfl), (tb2 208 rfl rfl), by decide, by decide, by decide +kernel⟩
theorem lk_X11_98 : Cond.methodLink RX11 98 yX10_hasRoom ∈ WG := tb2 122 rfl rfl
theorem lk_X11_102 : Cond.methodLink RX11 102 yX10_add ∈ WG := tb2 126 rfl rfl
theorem lk_X11_106 : Cond.methodLink RX11 106 yX10_size ∈ WG := tb2 130 rfl rfl
theorem lk_X11_110 : Cond.methodLink RX11 110 yX10_keep ∈ WG := tb2 138 rfl rfl
theorem lk_X11_114 : Cond.methodLink RX11 114 yX2_parse ∈ WG := tb2 146 rfl rfl
theorem lk_X11_117 : Cond.methodLink RX11 117 yX1_become ∈ WG := tb3 52 rfl rfl
theorem lk_X11_121 : Cond.methodLink RX11 121 yX1_words ∈ WG := tb3 56 rfl rfl
theorem lk_X11_124 : Cond.methodLink RX11 124 yX1_marksOf ∈ WG := tb3 61 rfl rfl
theorem lk_X11_128 : Cond.methodLink RX11 128 yX1_groupOf ∈ WG := tb3 69 rfl rfl
theorem lk_X11_131 : Cond.methodLink RX11 131 yX1_kthNear ∈ WG := tb3 77 rfl rfl
theorem lk_X11_135 : Cond.methodLink RX11 135 yX3_isSpan ∈ WG := tb3 88 rfl rfl
theorem lk_X11_138 : Cond.methodLink RX11 138 yX3_add ∈ WG := tb3 91 rfl rfl
theorem lk_X11_141 : Cond.methodLink RX11 141 yX11_areTwoStations ∈ WG := tb3 99 rfl rfl
theorem lk_X11_145 : Cond.methodLink RX11 145 yX4_add ∈ WG := tb3 105 rfl rfl
theorem lk_X11_148 : Cond.methodLink RX11 148 yX4_setRain ∈ WG := tb3 113 rfl rfl
theorem lk_X11_151 : Cond.methodLink RX11 151 yX4_has ∈ WG := tb3 121 rfl rfl
theorem lk_X11_154 : Cond.methodLink RX11 154 yX4_biteOf ∈ WG := tb3 125 rfl rfl
theorem lk_X11_157 : Cond.methodLink RX11 157 yX11_isStation ∈ WG := tb3 102 rfl rfl
theorem lk_X11_160 : Cond.methodLink RX11 160 yX9_add ∈ WG := tb3 134 rfl rfl
theorem lk_X11_162 : Cond.methodLink RX11 162 yX9_keep ∈ WG := tb3 142 rfl rfl
theorem lk_X11_163 : Cond.methodLink RX11 163 yX9_at ∈ WG := tb3 150 rfl rfl
theorem lk_X11_166 : Cond.methodLink RX11 166 yX11_canRead ∈ WG := tb3 158 rfl rfl
theorem lk_X11_169 : Cond.methodLink RX11 169 yX7_listen ∈ WG := tb3 170 rfl rfl
theorem lk_X11_173 : Cond.methodLink RX11 173 yX7_countAll ∈ WG := tb3 195 rfl rfl
theorem lk_X11_176 : Cond.methodLink RX11 176 yX7_findNearest ∈ WG := tb3 232 rfl rfl
theorem lk_X11_179 : Cond.methodLink RX11 179 yX7_writeNearest ∈ WG := tb4 7 rfl rfl
theorem lk_X11_182 : Cond.methodLink RX11 182 yX7_rowSize ∈ WG := tb4 15 rfl rfl
theorem lk_X11_185 : Cond.methodLink RX11 185 yX7_rowAt ∈ WG := tb4 19 rfl rfl
theorem lk_X11_188 : Cond.methodLink RX11 188 yX3_has ∈ WG := tb3 162 rfl rfl
theorem lk_X11_189 : Cond.methodLink RX11 189 yX9_isWhole ∈ WG := tb3 166 rfl rfl
theorem lk_X11_192 : Cond.methodLink RX11 192 yX8_isThere ∈ WG := tb4 27 rfl rfl
theorem lk_X11_195 : Cond.methodLink RX11 195 yX8_spell ∈ WG := tb4 38 rfl rfl
theorem lk_X11_198 : Cond.methodLink RX11 198 yX3_size ∈ WG := tb4 52 rfl rfl
theorem lk_X11_199 : Cond.methodLink RX11 199 yX4_size ∈ WG := tb4 56 rfl rfl
theorem lk_X11_200 : Cond.methodLink RX11 200 yX11_tapeSaysIt ∈ WG := tb4 60 rfl rfl
theorem lk_X11_203 : Cond.methodLink RX11 203 yX11_multiplyChoices ∈ WG := tb4 78 rfl rfl
theorem lk_X11_207 : Cond.methodLink RX11 207 yX6_compareWith ∈ WG := tb4 97 rfl rfl
theorem lk_X11_211 : Cond.methodLink RX11 211 yX8_size ∈ WG := tb4 64 rfl rfl
theorem lk_X11_212 : Cond.methodLink RX11 212 yX9_size ∈ WG := tb4 68 rfl rfl
theorem lk_X11_213 : Cond.methodLink RX11 213 yX8_kindAt ∈ WG := tb4 69 rfl rfl
theorem lk_X11_216 : Cond.methodLink RX11 216 yX7_costOf ∈ WG := tb4 73 rfl rfl
theorem lk_X11_220 : Cond.methodLink RX11 220 yX6_becomeOne ∈ WG := tb4 82 rfl rfl
theorem lk_X11_223 : Cond.methodLink RX11 223 yX3_choicesOf ∈ WG := tb4 86 rfl rfl
theorem lk_X11_226 : Cond.methodLink RX11 226 yX6_multiply ∈ WG := tb4 92 rfl rfl
theorem lk_X11_230 : Cond.methodLink RX11 230 yX8_draw ∈ WG := tb4 109 rfl rfl
theorem lk_X11_234 : Cond.methodLink RX11 234 yX8_sendThrough ∈ WG := tb4 119 rfl rfl
theorem lk_X11_238 : Cond.methodLink RX11 238 yX4_findRoute ∈ WG := tb4 131 rfl rfl
theorem lk_X11_241 : Cond.methodLink RX11 241 yX5_add ∈ WG := tb4 145 rfl rfl
theorem lk_X11_242 : Cond.methodLink RX11 242 yX4_routeAt ∈ WG := tb4 153 rfl rfl
theorem lk_X11_245 : Cond.methodLink RX11 245 yX5_has ∈ WG := tb4 161 rfl rfl
theorem lk_X11_246 : Cond.methodLink RX11 246 yX5_runAll ∈ WG := tb4 165 rfl rfl
theorem lk_X11_249 : Cond.methodLink RX11 249 yX5_arrivalOf ∈ WG := tb4 198 rfl rfl
theorem lk_X11_252 : Cond.methodLink RX11 252 yX5_waitOf ∈ WG := tb4 203 rfl rfl
theorem lk_X11_255 : Cond.methodLink RX11 255 yX5_whereIs ∈ WG := tb4 207 rfl rfl
theorem lk_X11_258 : Cond.methodLink RX11 258 yX5_kthHeard ∈ WG := tb4 219 rfl rfl
theorem lk_X11_261 : Cond.methodLink RX11 261 yX0_setClock ∈ WG := tb4 235 rfl rfl
theorem lk_X11_265 : Cond.methodLink RX11 265 yX0_addEvent ∈ WG := tb5 4 rfl rfl
theorem lk_X11_268 : Cond.methodLink RX11 268 yX0_hasEvent ∈ WG := tb5 12 rfl rfl
theorem lk_X11_271 : Cond.methodLink RX11 271 yX0_addFact ∈ WG := tb5 16 rfl rfl
theorem lk_X11_274 : Cond.methodLink RX11 274 yX0_dropFact ∈ WG := tb5 24 rfl rfl
theorem lk_X11_277 : Cond.methodLink RX11 277 yX0_canBe ∈ WG := tb5 32 rfl rfl
theorem lk_X11_281 : Cond.methodLink RX11 281 yX0_leastBehind ∈ WG := tb5 54 rfl rfl
theorem lk_X11_284 : Cond.methodLink RX11 284 yX0_greatestBehind ∈ WG := tb5 60 rfl rfl
theorem lk_X11_287 : Cond.methodLink RX11 287 yX1_letters ∈ WG := tb5 72 rfl rfl
theorem lk_X11_290 : Cond.methodLink RX11 290 yX5_size ∈ WG := tb5 76 rfl rfl
theorem lk_X11_291 : Cond.methodLink RX11 291 yX0_events ∈ WG := tb5 80 rfl rfl
theorem lk_X11_294 : Cond.methodLink RX11 294 yX0_facts ∈ WG := tb5 84 rfl rfl
theorem lk_X11_297 : Cond.methodLink RX11 297 yX4_rainNow ∈ WG := tb5 88 rfl rfl
theorem lk_X0_45 : kNest RX0 45 yX11_isStation := fun _ _ _ _ _ _ hE => hE.2.2.2.2.2.2.1
theorem lk_X0_49 : Cond.methodLink RX0 49 yX0_boundByClocks ∈ WG := tb5 36 rfl rfl
theorem lk_X0_52 : Cond.methodLink RX0 52 yX0_boundByFacts ∈ WG := tb5 40 rfl rfl
theorem lk_X0_55 : Cond.methodLink RX0 55 yX0_tightenThrough ∈ WG := tb5 45 rfl rfl
theorem lk_X0_59 : Cond.methodLink RX0 59 yX0_contradicts ∈ WG := tb5 49 rfl rfl
theorem mh_X0_63 : Cond.methodLink RX0 63 Lib.Math.min.name ∈ WG ∧ Cond.static Lib.Math.min.name ∈ WG ∧ Cond.initialized "java/lang/Math" ∈ WG ∧ Cond.code Lib.Math.min.name Lib.Math.min.code 2 (some .int) ∈ WG := ⟨tb5 44 rfl rfl, (tb3 193 rfl rfl), (tb1 18 rfl rfl), (tb3 194 rfl rfl)⟩
theorem lk_X0_69 : Cond.methodLink RX0 69 yX0_hasEvent ∈ WG := tb5 58 rfl rfl
theorem lk_X1_31 : Cond.methodLink RX1 31 yX1_hasLetter ∈ WG := tb3 8 rfl rfl
theorem lk_X1_35 : Cond.methodLink RX1 35 yX1_sizeOf ∈ WG := tb3 211 rfl rfl
theorem lk_X1_39 : Cond.methodLink RX1 39 yX1_unlikeLetters ∈ WG := tb3 81 rfl rfl
theorem lk_X2_28 : Cond.methodLink RX2 28 yX1_empty ∈ WG := tb2 150 rfl rfl
theorem lk_X2_35 : Cond.methodLink RX2 35 yX2_step ∈ WG := tb2 154 rfl rfl
theorem lk_X2_46 : Cond.methodLink RX2 46 yX2_parseLine ∈ WG := tb2 167 rfl rfl
theorem lk_X2_52 : Cond.methodLink RX2 52 yX2_isWord ∈ WG := tb2 172 rfl rfl
theorem lk_X2_56 : Cond.methodLink RX2 56 yX2_parseLetter ∈ WG := tb2 228 rfl rfl
theorem lk_X2_61 : Cond.methodLink RX2 61 yX1_hasRoomForWord ∈ WG := tb3 10 rfl rfl
theorem lk_X2_64 : Cond.methodLink RX2 64 yX2_parseWord ∈ WG := tb3 14 rfl rfl
theorem lk_X2_67 : Cond.methodLink RX2 67 yX10_at ∈ WG := tb2 159 rfl rfl
theorem lk_X2_71 : Cond.methodLink RX2 71 yX2_tokenSize ∈ WG := tb2 176 rfl rfl
theorem lk_X2_75 : Cond.methodLink RX2 75 yX1_hasLetter ∈ WG := tb2 232 rfl rfl
theorem lk_X2_79 : Cond.methodLink RX2 79 yX2_marksHere ∈ WG := tb2 236 rfl rfl
theorem lk_X2_82 : Cond.methodLink RX2 82 yX1_hasMarks ∈ WG := tb3 0 rfl rfl
theorem lk_X2_85 : Cond.methodLink RX2 85 yX1_addLetter ∈ WG := tb3 4 rfl rfl
theorem lk_X2_89 : Cond.methodLink RX2 89 yX1_words ∈ WG := tb3 18 rfl rfl
theorem lk_X2_92 : Cond.methodLink RX2 92 yX2_isNewName ∈ WG := tb3 22 rfl rfl
theorem lk_X2_95 : Cond.methodLink RX2 95 yX2_noteName ∈ WG := tb3 31 rfl rfl
theorem lk_X2_101 : Cond.methodLink RX2 101 yX2_groupHere ∈ WG := tb3 35 rfl rfl
theorem lk_X2_104 : Cond.methodLink RX2 104 yX1_hasGroup ∈ WG := tb3 39 rfl rfl
theorem lk_X2_107 : Cond.methodLink RX2 107 yX1_addGroup ∈ WG := tb3 43 rfl rfl
theorem lk_X2_110 : Cond.methodLink RX2 110 yX10_size ∈ WG := tb2 158 rfl rfl
theorem lk_X2_113 : Cond.methodLink RX2 113 yX2_kindAt ∈ WG := tb2 163 rfl rfl
theorem lk_X2_116 : Cond.methodLink RX2 116 yJ0_length_8abf5 ∈ WG := tb2 180 rfl rfl
theorem lk_X2_121 : Cond.methodLink RX2 121 yJ0_charAt_5068e ∈ WG := tb2 190 rfl rfl
theorem lk_X2_125 : Cond.methodLink RX2 125 yX2_isName ∈ WG := tb3 27 rfl rfl
theorem lk_X3_19 : Cond.methodLink RX3 19 yX3_spanOf ∈ WG := tb3 178 rfl rfl
theorem lk_X3_23 : Cond.methodLink RX3 23 yX3_greatestOf ∈ WG := tb4 90 rfl rfl
theorem lk_X3_26 : Cond.methodLink RX3 26 yX3_leastOf ∈ WG := tb4 91 rfl rfl
theorem lk_X3_29 : Cond.methodLink RX3 29 yX3_has ∈ WG := tb3 182 rfl rfl
theorem lk_X4_37 : Cond.methodLink RX4 37 yX4_has ∈ WG := tb3 129 rfl rfl
theorem lk_X4_44 : kNest RX4 44 yX11_areTwoStations := fun _ _ _ _ _ _ hE => hE.2.2.2.2.2.1
theorem lk_X4_48 : Cond.methodLink RX4 48 yX4_measureDistances ∈ WG := tb4 136 rfl rfl
theorem lk_X4_52 : Cond.methodLink RX4 52 yX4_firstTowards ∈ WG := tb4 141 rfl rfl
theorem mh_X4_56 : Cond.methodLink RX4 56 Lib.Math.min.name ∈ WG ∧ Cond.static Lib.Math.min.name ∈ WG ∧ Cond.initialized "java/lang/Math" ∈ WG ∧ Cond.code Lib.Math.min.name Lib.Math.min.code 2 (some .int) ∈ WG := ⟨tb4 140 rfl rfl, (tb3 193 rfl rfl), (tb1 18 rfl rfl), (tb3 194 rfl rfl)⟩
theorem lk_X5_55 : Cond.methodLink RX5 55 yX5_prepare ∈ WG := tb4 169 rfl rfl
theorem lk_X5_58 : Cond.methodLink RX5 58 yX5_nextBegin ∈ WG := tb4 175 rfl rfl
theorem lk_X5_62 : Cond.methodLink RX5 62 yX4_size ∈ WG := tb4 185 rfl rfl
theorem lk_X5_64 : Cond.methodLink RX5 64 yX5_chosenFor ∈ WG := tb4 186 rfl rfl
theorem lk_X5_68 : Cond.methodLink RX5 68 yX5_begin ∈ WG := tb4 194 rfl rfl
theorem lk_X5_72 : Cond.methodLink RX5 72 yX4_findRoute ∈ WG := tb4 173 rfl rfl
theorem lk_X5_75 : Cond.methodLink RX5 75 yX4_routeAt ∈ WG := tb4 174 rfl rfl
theorem lk_X5_79 : Cond.methodLink RX5 79 yX5_nextLine ∈ WG := tb4 179 rfl rfl
theorem mh_X5_82 : Cond.methodLink RX5 82 Lib.Math.max.name ∈ WG ∧ Cond.static Lib.Math.max.name ∈ WG ∧ Cond.initialized "java/lang/Math" ∈ WG ∧ Cond.code Lib.Math.max.name Lib.Math.max.code 2 (some .int) ∈ WG := ⟨tb4 184 rfl rfl, (tb4 5 rfl rfl), (tb1 18 rfl rfl), (tb4 6 rfl rfl)⟩
theorem lk_X5_87 : Cond.methodLink RX5 87 yX4_has ∈ WG := tb4 183 rfl rfl
theorem lk_X5_91 : Cond.methodLink RX5 91 yX5_goesAhead ∈ WG := tb4 190 rfl rfl
theorem lk_X5_95 : Cond.methodLink RX5 95 yX5_has ∈ WG := tb4 202 rfl rfl
theorem lk_X5_96 : Cond.methodLink RX5 96 yX4_endOf ∈ WG := tb4 211 rfl rfl
theorem lk_X5_99 : Cond.methodLink RX5 99 yX5_nextHeard ∈ WG := tb4 223 rfl rfl
theorem lk_X5_102 : Cond.methodLink RX5 102 yX5_beginOn ∈ WG := tb4 227 rfl rfl
theorem lk_X6_16 : Cond.methodLink RX6 16 yJ6_compare_7cf53 ∈ WG := tb4 101 rfl rfl
theorem lk_X7_48 : Cond.methodLink RX7 48 yX3_leastOf ∈ WG := tb3 174 rfl rfl
theorem lk_X7_54 : Cond.methodLink RX7 54 yX3_greatestOf ∈ WG := tb3 183 rfl rfl
theorem lk_X7_57 : Cond.methodLink RX7 57 yX4_biteOf ∈ WG := tb3 187 rfl rfl
theorem lk_X7_67 : Cond.methodLink RX7 67 yX9_size ∈ WG := tb3 188 rfl rfl
theorem mh_X7_71 : Cond.methodLink RX7 71 Lib.Math.min.name ∈ WG ∧ Cond.static Lib.Math.min.name ∈ WG ∧ Cond.initialized "java/lang/Math" ∈ WG ∧ Cond.code Lib.Math.min.name Lib.Math.min.code 2 (some .int) ∈ WG := ⟨tb3 192 rfl rfl, (tb3 193 rfl rfl), (tb1 18 rfl rfl), (tb3 194 rfl rfl)⟩
theorem lk_X7_79 : Cond.methodLink RX7 79 yX9_at ∈ WG := tb3 216 rfl rfl
theorem mh_X7_82 : Cond.methodLink RX7 82 Lib.Math.abs.name ∈ WG ∧ Cond.static Lib.Math.abs.name ∈ WG ∧ Cond.initialized "java/lang/Math" ∈ WG ∧ Cond.code Lib.Math.abs.name Lib.Math.abs.code 1 (some .int) ∈ WG := ⟨tb3 217 rfl rfl, (tb3 218 rfl rfl), (tb1 18 rfl rfl), (tb3 219 rfl rfl)⟩
theorem lk_X7_85 : Cond.methodLink RX7 85 yX7_letterCost ∈ WG := tb3 199 rfl rfl
theorem lk_X7_88 : Cond.methodLink RX7 88 yX1_sizeOf ∈ WG := tb3 203 rfl rfl
theorem lk_X7_93 : Cond.methodLink RX7 93 yX7_waysBehind ∈ WG := tb3 220 rfl rfl
theorem mh_X7_99 : Cond.methodLink RX7 99 Lib.MathLoose.min_long.x ∈ WG ∧ Cond.static Lib.MathLoose.min_long.x ∈ WG ∧ Cond.initialized "java/lang/Math" ∈ WG ∧ Cond.code Lib.MathLoose.min_long.x Lib.MathLoose.min_long.code 4 (some .long) ∈ WG := ⟨tb3 225 rfl rfl, (tb3 226 rfl rfl), (tb1 18 rfl rfl), (tb3 227 rfl rfl)⟩
theorem lk_X7_102 : Cond.methodLink RX7 102 yX7_costOf ∈ WG := tb3 212 rfl rfl
theorem lk_X7_105 : Cond.methodLink RX7 105 yX7_costFrom ∈ WG := tb3 236 rfl rfl
theorem lk_X7_111 : Cond.methodLink RX7 111 yX7_write ∈ WG := tb4 11 rfl rfl
theorem lk_X7_115 : Cond.methodLink RX7 115 yX7_gapCost ∈ WG := tb4 0 rfl rfl
theorem lk_X7_118 : Cond.methodLink RX7 118 yX1_kindOf ∈ WG := tb3 207 rfl rfl
theorem mh_X7_121 : Cond.methodLink RX7 121 Lib.Math.max.name ∈ WG ∧ Cond.static Lib.Math.max.name ∈ WG ∧ Cond.initialized "java/lang/Math" ∈ WG ∧ Cond.code Lib.Math.max.name Lib.Math.max.code 2 (some .int) ∈ WG := ⟨tb4 4 rfl rfl, (tb4 5 rfl rfl), (tb1 18 rfl rfl), (tb4 6 rfl rfl)⟩
theorem lk_X8_32 : Cond.methodLink RX8 32 yX10_size ∈ WG := tb4 31 rfl rfl
theorem lk_X8_37 : Cond.methodLink RX8 37 yX10_isLetter ∈ WG := tb4 32 rfl rfl
theorem lk_X8_41 : Cond.methodLink RX8 41 yX10_at ∈ WG := tb4 37 rfl rfl
theorem lk_X8_45 : Cond.methodLink RX8 45 yX8_spellLetter ∈ WG := tb4 42 rfl rfl
theorem lk_X8_49 : Cond.methodLink RX8 49 yX1_sizeOf ∈ WG := tb4 46 rfl rfl
theorem lk_X8_54 : Cond.methodLink RX8 54 yX8_addKind ∈ WG := tb4 47 rfl rfl
theorem lk_X8_58 : Cond.methodLink RX8 58 yX1_kindOf ∈ WG := tb4 51 rfl rfl
theorem lk_X8_68 : Cond.methodLink RX8 68 yX3_choicesOf ∈ WG := tb4 116 rfl rfl
theorem lk_X8_75 : Cond.methodLink RX8 75 yX3_leastOf ∈ WG := tb4 118 rfl rfl
theorem lk_X8_78 : Cond.methodLink RX8 78 yX9_keep ∈ WG := tb4 123 rfl rfl
theorem lk_X8_81 : Cond.methodLink RX8 81 yX9_size ∈ WG := tb4 124 rfl rfl
theorem mh_X8_82 : Cond.methodLink RX8 82 Lib.Math.min.name ∈ WG ∧ Cond.static Lib.Math.min.name ∈ WG ∧ Cond.initialized "java/lang/Math" ∈ WG ∧ Cond.code Lib.Math.min.name Lib.Math.min.code 2 (some .int) ∈ WG := ⟨tb4 125 rfl rfl, (tb3 193 rfl rfl), (tb1 18 rfl rfl), (tb3 194 rfl rfl)⟩
theorem lk_X8_87 : Cond.methodLink RX8 87 yX9_add ∈ WG := tb4 126 rfl rfl
theorem lk_X10_19 : Cond.methodLink RX10 19 yX10_at ∈ WG := tb4 36 rfl rfl
theorem lk_X12_151 : Cond.methodLink RX12 151 yX12_feeds ∈ WG := tb6 40 rfl rfl
theorem lk_X12_155 : Cond.methodLink RX12 155 yX12_in ∈ WG := tb6 48 rfl rfl
theorem lk_X12_165 : Cond.methodLink RX12 165 yX12_between ∈ WG := tb6 63 rfl rfl
theorem lk_X12_172 : Cond.methodLink RX12 172 yX12_next ∈ WG := tb6 59 rfl rfl
theorem lk_X12_175 : Cond.methodLink RX12 175 yJ0_length_8abf5 ∈ WG := tb6 71 rfl rfl
theorem lk_X12_179 : Cond.methodLink RX12 179 yJ0_charAt_5068e ∈ WG := tb6 72 rfl rfl
theorem lk_X12_183 : Cond.methodLink RX12 183 yX12_passes ∈ WG := tb6 73 rfl rfl
theorem lk_X12_187 : Cond.methodLink RX12 187 yX12_marksHere ∈ WG := tb6 81 rfl rfl
theorem lk_X12_190 : Cond.methodLink RX12 190 yX12_closes ∈ WG := tb6 85 rfl rfl
theorem lk_X12_196 : Cond.methodLink RX12 196 yX12_isWord ∈ WG := tb6 67 rfl rfl
theorem lk_X12_204 : Cond.methodLink RX12 204 yX12_nameHere ∈ WG := tb6 93 rfl rfl
theorem lk_X12_208 : Cond.methodLink RX12 208 yX12_groupHere ∈ WG := tb6 100 rfl rfl
theorem lk_X12_211 : Cond.methodLink RX12 211 yX12_letterRead ∈ WG := tb6 77 rfl rfl
theorem lk_X12_214 : Cond.methodLink RX12 214 yX12_wordRead ∈ WG := tb6 89 rfl rfl
theorem lk_X12_217 : Cond.methodLink RX12 217 yX12_reads ∈ WG := tb6 55 rfl rfl
theorem lk_X12_227 : Cond.methodLink RX12 227 yX12_isSpan ∈ WG := tb6 121 rfl rfl
theorem lk_X12_230 : Cond.methodLink RX12 230 yX12_span ∈ WG := tb6 125 rfl rfl
theorem lk_X12_236 : Cond.methodLink RX12 236 yX12_isStation ∈ WG := tb6 133 rfl rfl
theorem lk_X12_251 : Cond.methodLink RX12 251 yX12_isLine ∈ WG := tb6 148 rfl rfl
theorem lk_X12_254 : Cond.methodLink RX12 254 yX12_biteOf ∈ WG := tb6 152 rfl rfl
theorem lk_X12_266 : Cond.methodLink RX12 266 yX12_sentAt ∈ WG := tb6 195 rfl rfl
theorem mh_X12_272 : Cond.methodLink RX12 272 Lib.Math.abs.name ∈ WG ∧ Cond.static Lib.Math.abs.name ∈ WG ∧ Cond.initialized "java/lang/Math" ∈ WG ∧ Cond.code Lib.Math.abs.name Lib.Math.abs.code 1 (some .int) ∈ WG := ⟨tb6 217 rfl rfl, (tb3 218 rfl rfl), (tb1 18 rfl rfl), (tb3 219 rfl rfl)⟩
theorem lk_X12_277 : Cond.methodLink RX12 277 yX12_marksMany ∈ WG := tb6 185 rfl rfl
theorem lk_X12_280 : Cond.methodLink RX12 280 yX12_kindOf ∈ WG := tb6 188 rfl rfl
theorem lk_X12_284 : Cond.methodLink RX12 284 yX12_isOf ∈ WG := tb6 191 rfl rfl
theorem lk_X12_288 : Cond.methodLink RX12 288 yX12_costOf ∈ WG := tb6 213 rfl rfl
theorem lk_X12_291 : Cond.methodLink RX12 291 yX12_isHand ∈ WG := tb6 177 rfl rfl
theorem lk_X12_294 : Cond.methodLink RX12 294 yX12_takes ∈ WG := tb6 173 rfl rfl
theorem lk_X12_297 : Cond.methodLink RX12 297 yX12_stands ∈ WG := tb6 181 rfl rfl
theorem mh_X12_301 : Cond.methodLink RX12 301 Lib.Math.min.name ∈ WG ∧ Cond.static Lib.Math.min.name ∈ WG ∧ Cond.initialized "java/lang/Math" ∈ WG ∧ Cond.code Lib.Math.min.name Lib.Math.min.code 2 (some .int) ∈ WG := ⟨tb6 200 rfl rfl, (tb3 193 rfl rfl), (tb1 18 rfl rfl), (tb3 194 rfl rfl)⟩
theorem lk_X12_304 : Cond.methodLink RX12 304 yX12_costFrom ∈ WG := tb6 209 rfl rfl
theorem lk_X12_307 : Cond.methodLink RX12 307 yX12_whole ∈ WG := tb6 205 rfl rfl
theorem lk_X12_314 : Cond.methodLink RX12 314 yX12_adds ∈ WG := tb6 234 rfl rfl
theorem lk_X12_317 : Cond.methodLink RX12 317 yX12_isSaying ∈ WG := tb6 226 rfl rfl
theorem lk_X12_320 : Cond.methodLink RX12 320 yX12_canSay ∈ WG := tb6 222 rfl rfl
theorem lk_X12_323 : Cond.methodLink RX12 323 yX12_lays ∈ WG := tb6 230 rfl rfl
theorem lk_X12_326 : Cond.methodLink RX12 326 yX12_saysBy ∈ WG := tb6 238 rfl rfl
theorem lk_X12_329 : Cond.methodLink RX12 329 yX12_grows ∈ WG := tb7 10 rfl rfl
theorem lk_X12_332 : Cond.methodLink RX12 332 yX12_product ∈ WG := tb7 6 rfl rfl
theorem lk_X12_349 : Cond.methodLink RX12 349 yX12_leads ∈ WG := tb7 37 rfl rfl
theorem lk_X12_352 : Cond.methodLink RX12 352 yX12_firstLine ∈ WG := tb7 33 rfl rfl
theorem lk_X12_365 : Cond.methodLink RX12 365 yX12_comesTo ∈ WG := tb7 57 rfl rfl
theorem lk_X12_369 : Cond.methodLink RX12 369 yX12_chosen ∈ WG := tb7 61 rfl rfl
theorem lk_X12_376 : Cond.methodLink RX12 376 yX12_runs ∈ WG := tb7 53 rfl rfl
theorem lk_X12_384 : Cond.methodLink RX12 384 yX12_isEvent ∈ WG := tb7 82 rfl rfl
theorem lk_X12_393 : Cond.methodLink RX12 393 yX12_bounds ∈ WG := tb7 100 rfl rfl
theorem lk_X12_396 : Cond.methodLink RX12 396 yX12_canBe ∈ WG := tb7 95 rfl rfl
theorem lk_X12_400 : Cond.methodLink RX12 400 yX12_apart ∈ WG := tb7 109 rfl rfl
theorem lk_J0_335 : Cond.methodLink RJ0 335 yJ0_coder_7d493 ∈ WG := tb2 184 rfl rfl
theorem lk_J0_492 : Cond.methodLink RJ0 492 yJ0_isLatin1_aae02 ∈ WG := tb2 194 rfl rfl
theorem lk_J0_495 : Cond.methodLink RJ0 495 yJ1_charAt_3b067 ∈ WG := tb2 198 rfl rfl
theorem lk_J0_498 : Cond.methodLink RJ0 498 yJ2_charAt_3b067 ∈ WG := tb2 209 rfl rfl
theorem lk_J0_1059 : Cond.methodLink RJ0 1059 yJ3_checkIndex_8e157 ∈ WG := tb2 206 rfl rfl
theorem lk_J1_9 : Cond.methodLink RJ1 9 yJ0_checkIndex_df160 ∈ WG := tb2 201 rfl rfl
theorem lk_J2_48 : Cond.methodLink RJ2 48 yJ2_length_9d52b ∈ WG := tb2 215 rfl rfl
theorem lk_J2_67 : Cond.methodLink RJ2 67 yJ2_checkIndex_2214a ∈ WG := tb2 212 rfl rfl
theorem lk_J2_71 : Cond.methodLink RJ2 71 yJ2_getChar_3b067 ∈ WG := tb2 219 rfl rfl
theorem lk_J2_414 : Cond.methodLink RJ2 414 yJ0_checkIndex_df160 ∈ WG := tb2 218 rfl rfl
theorem kc_X6_15 : Cond.constant RX6 15 (1048575) ∈ WG := tb4 96 rfl rfl
theorem kc_X11_229 : Cond.constant RX11 229 (1000000) ∈ WG := tb4 108 rfl rfl
theorem kc_X11_280 : Cond.constant RX11 280 (-2147483648) ∈ WG := tb5 53 rfl rfl
theorem kc_X0_72 : Cond.constant RX0 72 (-2147483648) ∈ WG := tb5 59 rfl rfl
theorem kc_X12_300 : Cond.constant RX12 300 (1000000000) ∈ WG := tb6 199 rfl rfl
theorem kc_X12_392 : Cond.constant RX12 392 (100000) ∈ WG := tb7 99 rfl rfl
theorem kc_X12_399 : Cond.constant RX12 399 (-2147483648) ∈ WG := tb7 104 rfl rfl
theorem kc_X7_97 : Cond.constantLong RX7 97 (1000000000) ∈ WG := tb3 224 rfl rfl
theorem kc_X8_62 : Cond.constantLong RX8 62 (1103515245) ∈ WG := tb4 113 rfl rfl
theorem kc_X8_64 : Cond.constantLong RX8 64 (12345) ∈ WG := tb4 114 rfl rfl
theorem kc_X8_66 : Cond.constantLong RX8 66 (2147483647) ∈ WG := tb4 115 rfl rfl
theorem kc_X8_73 : Cond.constantLong RX8 73 (256) ∈ WG := tb4 117 rfl rfl
theorem kc_X12_194 : Cond.constantLong RX12 194 (-1) ∈ WG := tb6 97 rfl rfl
theorem kc_X12_200 : Cond.constantLong RX12 200 (32) ∈ WG := tb6 98 rfl rfl
theorem kc_X12_202 : Cond.constantLong RX12 202 (97) ∈ WG := tb6 99 rfl rfl
theorem kc_X12_220 : Cond.constantLong RX12 220 (25) ∈ WG := tb6 112 rfl rfl
theorem kc_X12_222 : Cond.constantLong RX12 222 (255255) ∈ WG := tb6 124 rfl rfl
theorem kc_X12_234 : Cond.constantLong RX12 234 (5) ∈ WG := tb6 136 rfl rfl
theorem kc_X12_239 : Cond.constantLong RX12 239 (99) ∈ WG := tb6 137 rfl rfl
theorem kc_X12_241 : Cond.constantLong RX12 241 (20) ∈ WG := tb6 138 rfl rfl
theorem kc_X12_246 : Cond.constantLong RX12 246 (9) ∈ WG := tb6 143 rfl rfl
theorem kc_X12_258 : Cond.constantLong RX12 258 (999) ∈ WG := tb6 160 rfl rfl
theorem kc_X12_335 : Cond.constantLong RX12 335 (1000000) ∈ WG := tb7 18 rfl rfl
theorem kc_X12_337 : Cond.constantLong RX12 337 (1103515245) ∈ WG := tb7 19 rfl rfl
theorem kc_X12_339 : Cond.constantLong RX12 339 (12345) ∈ WG := tb7 20 rfl rfl
theorem kc_X12_341 : Cond.constantLong RX12 341 (2147483647) ∈ WG := tb7 21 rfl rfl
theorem kc_X12_343 : Cond.constantLong RX12 343 (256) ∈ WG := tb7 22 rfl rfl
theorem kc_X12_345 : Cond.constantLong RX12 345 (17575) ∈ WG := tb7 27 rfl rfl
theorem kc_X12_347 : Cond.constantLong RX12 347 (3) ∈ WG := tb7 28 rfl rfl
theorem kc_X12_355 : Cond.constantLong RX12 355 (200) ∈ WG := tb7 45 rfl rfl
theorem kc_X12_357 : Cond.constantLong RX12 357 (60) ∈ WG := tb7 46 rfl rfl
theorem kc_X12_372 : Cond.constantLong RX12 372 (2) ∈ WG := tb7 51 rfl rfl
theorem kc_X12_374 : Cond.constantLong RX12 374 (5000) ∈ WG := tb7 52 rfl rfl
theorem kc_X12_379 : Cond.constantLong RX12 379 (-60) ∈ WG := tb7 73 rfl rfl
theorem kc_X12_387 : Cond.constantLong RX12 387 (-99) ∈ WG := tb7 86 rfl rfl
