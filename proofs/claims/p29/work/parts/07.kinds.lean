def gsm (ad : Nat → Nat → Nat) (i : Nat) (v : Int32) : Value := if v < 0 then .ref (ad 19 i) else .ref (ad 13 v.toNatClampNeg)
theorem gsm_ref {ad : Nat → Nat → Nat} {i : Nat} {v : Int32} (h : ¬ v < 0) : gsm ad i v = .ref (ad 13 v.toNatClampNeg) := by unfold gsm; rw [if_neg h]
def fs_0 (ad : Nat → Nat → Nat) (i : Nat) (x : Nat → Int32) : List Value := [.ref (ad 1 0), .ref (ad 4 0), .int (x 2), .ref (ad 11 0), .ref (ad 22 0), .int (x 5), .ref (ad 24 0), .int (x 7), .ref (ad 25 0), .int (x 9), .ref (ad 28 0), .int (x 11), .ref (ad 29 0), .ref (ad 40 0), .ref (ad 42 0)]
def fs_1 (ad : Nat → Nat → Nat) (i : Nat) (x : Nat → Int32) : List Value := [.ref (ad 2 0), .ref (ad 3 0)]
def fs_5 (ad : Nat → Nat → Nat) (i : Nat) (x : Nat → Int32) : List Value := [.int (x 0), va_rf (ro ad 12 (x 1)), .int (x 2), .int (x 3), .ref (ad 6 i), .int (x 5), .int (x 6), .int (x 7), .int (x 8), .int (x 9), .int (x 10), .int (x 11), .int (x 12)]
def fs_7 (ad : Nat → Nat → Nat) (i : Nat) (x : Nat → Int32) : List Value := [.ref (ad 8 i), .ref (ad 9 i), .ref (ad 10 i), .int (x 3), .int (x 4)]
def fs_12 (ad : Nat → Nat → Nat) (i : Nat) (x : Nat → Int32) : List Value := [.int (x 0), .ref (ad 13 i), .int (x 2), .ref (ad 14 (3 * i)), .ref (ad 14 (3 * i + 1)), .ref (ad 14 (3 * i + 2))]
def fs_14 (ad : Nat → Nat → Nat) (i : Nat) (x : Nat → Int32) : List Value := [.int (x 0), .int (x 1), .int (x 2), .int (x 3), .ref (ad 15 i), .ref (ad 16 i), .ref (ad 17 i), .ref (ad 18 i), .int (x 8), gsm ad i (x 9), .int (x 10), .ref (ad 20 i), .ref (ad 21 i)]
def fs_23 (ad : Nat → Nat → Nat) (i : Nat) (x : Nat → Int32) : List Value := [.int (x 0), va_rf (ro ad 12 (x 1)), .int (x 2), .int (x 3), .int (x 4), .int (x 5), .int (x 6)]
def fs_26 (ad : Nat → Nat → Nat) (i : Nat) (x : Nat → Int32) : List Value := [.ref (ad 27 i), .int (x 1)]
def fs_29 (ad : Nat → Nat → Nat) (i : Nat) (x : Nat → Int32) : List Value := [.int (x 0), .ref (ad 30 0), .ref (ad 31 0), .ref (ad 32 0), .ref (ad 33 0), .ref (ad 34 0), .ref (ad 35 0), .ref (ad 36 0), .ref (ad 37 0), .ref (ad 39 0)]
def fs_40 (ad : Nat → Nat → Nat) (i : Nat) (x : Nat → Int32) : List Value := [.int (x 0), .int (x 1), .ref (ad 41 0)]
def fs_43 (ad : Nat → Nat → Nat) (i : Nat) (x : Nat → Int32) : List Value := [.int (x 0), .ref (ad 44 0), .ref (ad 45 0), .ref (ad 46 0), .ref (ad 47 0), .ref (ad 48 0), .ref (ad 49 0), .ref (ad 50 0), .ref (ad 51 0), .ref (ad 52 0), .ref (ad 53 0), .ref (ad 54 0), .ref (ad 55 0), .ref (ad 56 0), .ref (ad 57 0), .int (x 15), .ref (ad 58 0), .int (x 17), .ref (ad 59 0), .ref (ad 60 0), .int (x 20), .ref (ad 61 0), .ref (ad 62 0), .int (x 23), .ref (ad 63 0), .ref (ad 64 0), .ref (ad 65 0), .ref (ad 66 0), .ref (ad 67 0), .int (x 29), .int (x 30), .ref (ad 68 0), .ref (ad 69 0), .ref (ad 70 0), .ref (ad 71 0), .ref (ad 72 0), .ref (ad 73 0), .ref (ad 74 0), .ref (ad 75 0), .ref (ad 76 0), .int (x 40), .ref (ad 77 0), .int (x 42), .ref (ad 78 0), .ref (ad 79 0), .ref (ad 80 0), .int (x 46)]
def fs_82 (ad : Nat → Nat → Nat) (i : Nat) (x : Nat → Int32) : List Value := [va_rf (ro ad 1 (x 0)), va_rf (ro ad 4 (x 1)), .int (x 2), va_rf (ro ad 11 (x 3)), va_rf (ro ad 22 (x 4)), .int (x 5), va_rf (ro ad 24 (x 6)), .int (x 7), va_rf (ro ad 25 (x 8)), .int (x 9), va_rf (ro ad 28 (x 10)), .int (x 11), va_rf (ro ad 29 (x 12)), va_rf (ro ad 40 (x 13)), va_rf (ro ad 42 (x 14))]
def fs_83 (ad : Nat → Nat → Nat) (i : Nat) (x : Nat → Int32) : List Value := [va_rf (ro ad 2 (x 0)), va_rf (ro ad 3 (x 1))]
def fs_84 (ad : Nat → Nat → Nat) (i : Nat) (x : Nat → Int32) : List Value := [.int (x 0), va_rf (ro ad 12 (x 1)), .int (x 2), .int (x 3), va_rf (ro ad 6 (x 4)), .int (x 5), .int (x 6), .int (x 7), .int (x 8), .int (x 9), .int (x 10), .int (x 11), .int (x 12)]
def fs_85 (ad : Nat → Nat → Nat) (i : Nat) (x : Nat → Int32) : List Value := [va_rf (ro ad 8 (x 0)), va_rf (ro ad 9 (x 1)), va_rf (ro ad 10 (x 2)), .int (x 3), .int (x 4)]
def fs_86 (ad : Nat → Nat → Nat) (i : Nat) (x : Nat → Int32) : List Value := [.int (x 0), va_rf (ro ad 13 (x 1)), .int (x 2), va_rf (ro ad 14 (x 3)), va_rf (ro ad 14 (x 4)), va_rf (ro ad 14 (x 5))]
def fs_87 (ad : Nat → Nat → Nat) (i : Nat) (x : Nat → Int32) : List Value := [.int (x 0), .int (x 1), .int (x 2), .int (x 3), va_rf (ro ad 15 (x 4)), va_rf (ro ad 16 (x 5)), va_rf (ro ad 17 (x 6)), va_rf (ro ad 18 (x 7)), .int (x 8), va_rf (ro ad 19 (x 9)), .int (x 10), va_rf (ro ad 20 (x 11)), va_rf (ro ad 21 (x 12))]
def fs_88 (ad : Nat → Nat → Nat) (i : Nat) (x : Nat → Int32) : List Value := [.int (x 0), va_rf (ro ad 12 (x 1)), .int (x 2), .int (x 3), .int (x 4), .int (x 5), .int (x 6)]
def fs_89 (ad : Nat → Nat → Nat) (i : Nat) (x : Nat → Int32) : List Value := [va_rf (ro ad 27 (x 0)), .int (x 1)]
def fs_90 (ad : Nat → Nat → Nat) (i : Nat) (x : Nat → Int32) : List Value := [.int (x 0), va_rf (ro ad 30 (x 1)), va_rf (ro ad 31 (x 2)), va_rf (ro ad 32 (x 3)), va_rf (ro ad 33 (x 4)), va_rf (ro ad 34 (x 5)), va_rf (ro ad 35 (x 6)), va_rf (ro ad 36 (x 7)), va_rf (ro ad 37 (x 8)), va_rf (ro ad 39 (x 9))]
def fs_91 (ad : Nat → Nat → Nat) (i : Nat) (x : Nat → Int32) : List Value := [.int (x 0), .int (x 1), va_rf (ro ad 41 (x 2))]
def fs_92 (ad : Nat → Nat → Nat) (i : Nat) (x : Nat → Int32) : List Value := [.int (x 0), va_rf (ro ad 44 (x 1)), va_rf (ro ad 45 (x 2)), va_rf (ro ad 46 (x 3)), va_rf (ro ad 47 (x 4)), va_rf (ro ad 48 (x 5)), va_rf (ro ad 49 (x 6)), va_rf (ro ad 50 (x 7)), va_rf (ro ad 51 (x 8)), va_rf (ro ad 52 (x 9)), va_rf (ro ad 53 (x 10)), va_rf (ro ad 54 (x 11)), va_rf (ro ad 55 (x 12)), va_rf (ro ad 56 (x 13)), va_rf (ro ad 57 (x 14)), .int (x 15), va_rf (ro ad 58 (x 16)), .int (x 17), va_rf (ro ad 59 (x 18)), va_rf (ro ad 60 (x 19)), .int (x 20), va_rf (ro ad 61 (x 21)), va_rf (ro ad 62 (x 22)), .int (x 23), va_rf (ro ad 63 (x 24)), va_rf (ro ad 64 (x 25)), va_rf (ro ad 65 (x 26)), va_rf (ro ad 66 (x 27)), va_rf (ro ad 67 (x 28)), .int (x 29), .int (x 30), va_rf (ro ad 68 (x 31)), va_rf (ro ad 69 (x 32)), va_rf (ro ad 70 (x 33)), va_rf (ro ad 71 (x 34)), va_rf (ro ad 72 (x 35)), va_rf (ro ad 73 (x 36)), va_rf (ro ad 74 (x 37)), va_rf (ro ad 75 (x 38)), va_rf (ro ad 76 (x 39)), .int (x 40), va_rf (ro ad 77 (x 41)), .int (x 42), va_rf (ro ad 78 (x 43)), va_rf (ro ad 79 (x 44)), va_rf (ro ad 80 (x 45)), .int (x 46)]
def ct (cA : Nat → ClassId) (ad : Nat → Nat → Nat) (K i : Nat) (x : Nat → Int32) : va_E := match K with
  | 0 => .inr (9, fs_0 ad i x)
  | 1 => .inr (3, fs_1 ad i x)
  | 2 => .inl (cA 0, 3, .inl x)
  | 3 => .inl (cA 0, 3, .inl x)
  | 4 => .inl (cA 4, 10, .inr (.inr (.inr (.inr (fun j => ro ad 5 (x j))))))
  | 5 => .inr (2, fs_5 ad i x)
  | 6 => .inl (cA 2, 32, .inr (.inr (.inr (.inr (fun j => ro ad 7 (x j))))))
  | 7 => .inr (0, fs_7 ad i x)
  | 8 => .inl (cA 0, 3, .inl x)
  | 9 => .inl (cA 0, 9, .inl x)
  | 10 => .inl (cA 0, 9, .inl x)
  | 11 => .inl (cA 5, 2, .inr (.inr (.inr (.inr (fun j => ro ad 12 (x j))))))
  | 12 => .inr (5, fs_12 ad i x)
  | 13 => .inl (cA 4, 6, .inr (.inr (.inr (.inr (fun j => ro ad 5 (x j))))))
  | 14 => .inr (7, fs_14 ad i x)
  | 15 => .inl (cA 0, 10, .inl x)
  | 16 => .inl (cA 0, 100, .inl x)
  | 17 => .inl (cA 0, 120, .inl x)
  | 18 => .inl (cA 3, 12, .inr (.inr (.inr (.inr (fun j => ro ad 23 (x j))))))
  | 19 => .inl (cA 4, 0, .inr (.inr (.inr (.inr (fun j => ro ad 5 (x j))))))
  | 20 => .inl (cA 0, 10, .inl x)
  | 21 => .inl (cA 4, 8, .inr (.inr (.inr (.inr (fun j => ro ad 5 (x j))))))
  | 22 => .inl (cA 3, 12, .inr (.inr (.inr (.inr (fun j => ro ad 23 (x j))))))
  | 23 => .inr (1, fs_23 ad i x)
  | 24 => .inl (cA 0, 40, .inl x)
  | 25 => .inl (cA 6, 12, .inr (.inr (.inr (.inr (fun j => ro ad 26 (x j))))))
  | 26 => .inr (8, fs_26 ad i x)
  | 27 => .inl (cA 0, (x 99).toNatClampNeg, .inl x)
  | 28 => .inl (cA 6, 4, .inr (.inr (.inr (.inr (fun j => ro ad 26 (x j))))))
  | 29 => .inr (6, fs_29 ad i x)
  | 30 => .inl (cA 1, 8, .inl x)
  | 31 => .inl (cA 0, 8, .inl x)
  | 32 => .inl (cA 0, 208, .inl x)
  | 33 => .inl (cA 0, 96, .inl x)
  | 34 => .inl (cA 0, 9, .inl x)
  | 35 => .inl (cA 0, 9, .inl x)
  | 36 => .inl (cA 0, 9, .inl x)
  | 37 => .inl (cA 7, 9, .inr (.inr (.inr (.inr (fun j => some (ad 38 j))))))
  | 38 => .inl (cA 0, 8, .inl x)
  | 39 => .inl (cA 0, 8, .inl x)
  | 40 => .inr (4, fs_40 ad i x)
  | 41 => .inl (cA 0, 41, .inl x)
  | 42 => .inl (cA 0, 10, .inl x)
  | 43 => .inr (10, fs_43 ad i x)
  | 44 => .inl (cA 0, 10, .inl x)
  | 45 => .inl (cA 0, 10, .inl x)
  | 46 => .inl (cA 0, 10, .inl x)
  | 47 => .inl (cA 0, 10, .inl x)
  | 48 => .inl (cA 0, 10, .inl x)
  | 49 => .inl (cA 0, 30, .inl x)
  | 50 => .inl (cA 0, 10, .inl x)
  | 51 => .inl (cA 0, 10, .inl x)
  | 52 => .inl (cA 0, 10, .inl x)
  | 53 => .inl (cA 0, 2, .inl x)
  | 54 => .inl (cA 0, 3, .inl x)
  | 55 => .inl (cA 0, 3, .inl x)
  | 56 => .inl (cA 0, 960, .inl x)
  | 57 => .inl (cA 0, 24960, .inl x)
  | 58 => .inl (cA 0, 40, .inl x)
  | 59 => .inl (cA 0, 12, .inl x)
  | 60 => .inl (cA 0, 96, .inl x)
  | 61 => .inl (cA 0, 4, .inl x)
  | 62 => .inl (cA 0, 160, .inl x)
  | 63 => .inl (cA 0, 12, .inl x)
  | 64 => .inl (cA 0, 12, .inl x)
  | 65 => .inl (cA 0, 12, .inl x)
  | 66 => .inl (cA 1, 12, .inl x)
  | 67 => .inl (cA 1, 12, .inl x)
  | 68 => .inl (cA 0, 9, .inl x)
  | 69 => .inl (cA 0, 9, .inl x)
  | 70 => .inl (cA 0, 9, .inl x)
  | 71 => .inl (cA 0, 72, .inl x)
  | 72 => .inl (cA 1, 8, .inl x)
  | 73 => .inl (cA 0, 208, .inl x)
  | 74 => .inl (cA 0, 8, .inl x)
  | 75 => .inl (cA 0, 6, .inl x)
  | 76 => .inl (cA 0, 6, .inl x)
  | 77 => .inl (cA 0, 10, .inl x)
  | 78 => .inl (cA 0, 10, .inl x)
  | 79 => .inl (cA 0, 41, .inl x)
  | 80 => .inl (cA 0, 41, .inl x)
  | 81 => .inl (cA 8, 1, .inr (.inl (fun j => (x j).toInt64)))
  | 82 => .inr (9, fs_82 ad i x)
  | 83 => .inr (3, fs_83 ad i x)
  | 84 => .inr (2, fs_84 ad i x)
  | 85 => .inr (0, fs_85 ad i x)
  | 86 => .inr (5, fs_86 ad i x)
  | 87 => .inr (7, fs_87 ad i x)
  | 88 => .inr (1, fs_88 ad i x)
  | 89 => .inr (8, fs_89 ad i x)
  | 90 => .inr (6, fs_90 ad i x)
  | 91 => .inr (4, fs_91 ad i x)
  | 92 => .inr (10, fs_92 ad i x)
  | _ => .inl (cA 0, 0, .inl x)
theorem ct_0 (cA : Nat → ClassId) (ad : Nat → Nat → Nat) (i : Nat) (x : Nat → Int32) : ct cA ad 0 i x = .inr (9, fs_0 ad i x) := rfl
theorem ct_1 (cA : Nat → ClassId) (ad : Nat → Nat → Nat) (i : Nat) (x : Nat → Int32) : ct cA ad 1 i x = .inr (3, fs_1 ad i x) := rfl
theorem ct_2 (cA : Nat → ClassId) (ad : Nat → Nat → Nat) (i : Nat) (x : Nat → Int32) : ct cA ad 2 i x = .inl (cA 0, 3, .inl x) := rfl
theorem ct_3 (cA : Nat → ClassId) (ad : Nat → Nat → Nat) (i : Nat) (x : Nat → Int32) : ct cA ad 3 i x = .inl (cA 0, 3, .inl x) := rfl
theorem ct_4 (cA : Nat → ClassId) (ad : Nat → Nat → Nat) (i : Nat) (x : Nat → Int32) : ct cA ad 4 i x = .inl (cA 4, 10, .inr (.inr (.inr (.inr (fun j => ro ad 5 (x j)))))) := rfl
theorem ct_5 (cA : Nat → ClassId) (ad : Nat → Nat → Nat) (i : Nat) (x : Nat → Int32) : ct cA ad 5 i x = .inr (2, fs_5 ad i x) := rfl
theorem ct_6 (cA : Nat → ClassId) (ad : Nat → Nat → Nat) (i : Nat) (x : Nat → Int32) : ct cA ad 6 i x = .inl (cA 2, 32, .inr (.inr (.inr (.inr (fun j => ro ad 7 (x j)))))) := rfl
theorem ct_7 (cA : Nat → ClassId) (ad : Nat → Nat → Nat) (i : Nat) (x : Nat → Int32) : ct cA ad 7 i x = .inr (0, fs_7 ad i x) := rfl
theorem ct_8 (cA : Nat → ClassId) (ad : Nat → Nat → Nat) (i : Nat) (x : Nat → Int32) : ct cA ad 8 i x = .inl (cA 0, 3, .inl x) := rfl
theorem ct_9 (cA : Nat → ClassId) (ad : Nat → Nat → Nat) (i : Nat) (x : Nat → Int32) : ct cA ad 9 i x = .inl (cA 0, 9, .inl x) := rfl
theorem ct_10 (cA : Nat → ClassId) (ad : Nat → Nat → Nat) (i : Nat) (x : Nat → Int32) : ct cA ad 10 i x = .inl (cA 0, 9, .inl x) := rfl
theorem ct_11 (cA : Nat → ClassId) (ad : Nat → Nat → Nat) (i : Nat) (x : Nat → Int32) : ct cA ad 11 i x = .inl (cA 5, 2, .inr (.inr (.inr (.inr (fun j => ro ad 12 (x j)))))) := rfl
theorem ct_12 (cA : Nat → ClassId) (ad : Nat → Nat → Nat) (i : Nat) (x : Nat → Int32) : ct cA ad 12 i x = .inr (5, fs_12 ad i x) := rfl
theorem ct_13 (cA : Nat → ClassId) (ad : Nat → Nat → Nat) (i : Nat) (x : Nat → Int32) : ct cA ad 13 i x = .inl (cA 4, 6, .inr (.inr (.inr (.inr (fun j => ro ad 5 (x j)))))) := rfl
theorem ct_14 (cA : Nat → ClassId) (ad : Nat → Nat → Nat) (i : Nat) (x : Nat → Int32) : ct cA ad 14 i x = .inr (7, fs_14 ad i x) := rfl
theorem ct_15 (cA : Nat → ClassId) (ad : Nat → Nat → Nat) (i : Nat) (x : Nat → Int32) : ct cA ad 15 i x = .inl (cA 0, 10, .inl x) := rfl
theorem ct_16 (cA : Nat → ClassId) (ad : Nat → Nat → Nat) (i : Nat) (x : Nat → Int32) : ct cA ad 16 i x = .inl (cA 0, 100, .inl x) := rfl
theorem ct_17 (cA : Nat → ClassId) (ad : Nat → Nat → Nat) (i : Nat) (x : Nat → Int32) : ct cA ad 17 i x = .inl (cA 0, 120, .inl x) := rfl
theorem ct_18 (cA : Nat → ClassId) (ad : Nat → Nat → Nat) (i : Nat) (x : Nat → Int32) : ct cA ad 18 i x = .inl (cA 3, 12, .inr (.inr (.inr (.inr (fun j => ro ad 23 (x j)))))) := rfl
theorem ct_19 (cA : Nat → ClassId) (ad : Nat → Nat → Nat) (i : Nat) (x : Nat → Int32) : ct cA ad 19 i x = .inl (cA 4, 0, .inr (.inr (.inr (.inr (fun j => ro ad 5 (x j)))))) := rfl
theorem ct_20 (cA : Nat → ClassId) (ad : Nat → Nat → Nat) (i : Nat) (x : Nat → Int32) : ct cA ad 20 i x = .inl (cA 0, 10, .inl x) := rfl
theorem ct_21 (cA : Nat → ClassId) (ad : Nat → Nat → Nat) (i : Nat) (x : Nat → Int32) : ct cA ad 21 i x = .inl (cA 4, 8, .inr (.inr (.inr (.inr (fun j => ro ad 5 (x j)))))) := rfl
theorem ct_22 (cA : Nat → ClassId) (ad : Nat → Nat → Nat) (i : Nat) (x : Nat → Int32) : ct cA ad 22 i x = .inl (cA 3, 12, .inr (.inr (.inr (.inr (fun j => ro ad 23 (x j)))))) := rfl
theorem ct_23 (cA : Nat → ClassId) (ad : Nat → Nat → Nat) (i : Nat) (x : Nat → Int32) : ct cA ad 23 i x = .inr (1, fs_23 ad i x) := rfl
theorem ct_24 (cA : Nat → ClassId) (ad : Nat → Nat → Nat) (i : Nat) (x : Nat → Int32) : ct cA ad 24 i x = .inl (cA 0, 40, .inl x) := rfl
theorem ct_25 (cA : Nat → ClassId) (ad : Nat → Nat → Nat) (i : Nat) (x : Nat → Int32) : ct cA ad 25 i x = .inl (cA 6, 12, .inr (.inr (.inr (.inr (fun j => ro ad 26 (x j)))))) := rfl
theorem ct_26 (cA : Nat → ClassId) (ad : Nat → Nat → Nat) (i : Nat) (x : Nat → Int32) : ct cA ad 26 i x = .inr (8, fs_26 ad i x) := rfl
theorem ct_27 (cA : Nat → ClassId) (ad : Nat → Nat → Nat) (i : Nat) (x : Nat → Int32) : ct cA ad 27 i x = .inl (cA 0, (x 99).toNatClampNeg, .inl x) := rfl
theorem ct_28 (cA : Nat → ClassId) (ad : Nat → Nat → Nat) (i : Nat) (x : Nat → Int32) : ct cA ad 28 i x = .inl (cA 6, 4, .inr (.inr (.inr (.inr (fun j => ro ad 26 (x j)))))) := rfl
theorem ct_29 (cA : Nat → ClassId) (ad : Nat → Nat → Nat) (i : Nat) (x : Nat → Int32) : ct cA ad 29 i x = .inr (6, fs_29 ad i x) := rfl
theorem ct_30 (cA : Nat → ClassId) (ad : Nat → Nat → Nat) (i : Nat) (x : Nat → Int32) : ct cA ad 30 i x = .inl (cA 1, 8, .inl x) := rfl
theorem ct_31 (cA : Nat → ClassId) (ad : Nat → Nat → Nat) (i : Nat) (x : Nat → Int32) : ct cA ad 31 i x = .inl (cA 0, 8, .inl x) := rfl
theorem ct_32 (cA : Nat → ClassId) (ad : Nat → Nat → Nat) (i : Nat) (x : Nat → Int32) : ct cA ad 32 i x = .inl (cA 0, 208, .inl x) := rfl
theorem ct_33 (cA : Nat → ClassId) (ad : Nat → Nat → Nat) (i : Nat) (x : Nat → Int32) : ct cA ad 33 i x = .inl (cA 0, 96, .inl x) := rfl
theorem ct_34 (cA : Nat → ClassId) (ad : Nat → Nat → Nat) (i : Nat) (x : Nat → Int32) : ct cA ad 34 i x = .inl (cA 0, 9, .inl x) := rfl
theorem ct_35 (cA : Nat → ClassId) (ad : Nat → Nat → Nat) (i : Nat) (x : Nat → Int32) : ct cA ad 35 i x = .inl (cA 0, 9, .inl x) := rfl
theorem ct_36 (cA : Nat → ClassId) (ad : Nat → Nat → Nat) (i : Nat) (x : Nat → Int32) : ct cA ad 36 i x = .inl (cA 0, 9, .inl x) := rfl
theorem ct_37 (cA : Nat → ClassId) (ad : Nat → Nat → Nat) (i : Nat) (x : Nat → Int32) : ct cA ad 37 i x = .inl (cA 7, 9, .inr (.inr (.inr (.inr (fun j => some (ad 38 j)))))) := rfl
theorem ct_38 (cA : Nat → ClassId) (ad : Nat → Nat → Nat) (i : Nat) (x : Nat → Int32) : ct cA ad 38 i x = .inl (cA 0, 8, .inl x) := rfl
theorem ct_39 (cA : Nat → ClassId) (ad : Nat → Nat → Nat) (i : Nat) (x : Nat → Int32) : ct cA ad 39 i x = .inl (cA 0, 8, .inl x) := rfl
theorem ct_40 (cA : Nat → ClassId) (ad : Nat → Nat → Nat) (i : Nat) (x : Nat → Int32) : ct cA ad 40 i x = .inr (4, fs_40 ad i x) := rfl
theorem ct_41 (cA : Nat → ClassId) (ad : Nat → Nat → Nat) (i : Nat) (x : Nat → Int32) : ct cA ad 41 i x = .inl (cA 0, 41, .inl x) := rfl
theorem ct_42 (cA : Nat → ClassId) (ad : Nat → Nat → Nat) (i : Nat) (x : Nat → Int32) : ct cA ad 42 i x = .inl (cA 0, 10, .inl x) := rfl
theorem ct_43 (cA : Nat → ClassId) (ad : Nat → Nat → Nat) (i : Nat) (x : Nat → Int32) : ct cA ad 43 i x = .inr (10, fs_43 ad i x) := rfl
theorem ct_44 (cA : Nat → ClassId) (ad : Nat → Nat → Nat) (i : Nat) (x : Nat → Int32) : ct cA ad 44 i x = .inl (cA 0, 10, .inl x) := rfl
theorem ct_45 (cA : Nat → ClassId) (ad : Nat → Nat → Nat) (i : Nat) (x : Nat → Int32) : ct cA ad 45 i x = .inl (cA 0, 10, .inl x) := rfl
theorem ct_46 (cA : Nat → ClassId) (ad : Nat → Nat → Nat) (i : Nat) (x : Nat → Int32) : ct cA ad 46 i x = .inl (cA 0, 10, .inl x) := rfl
theorem ct_47 (cA : Nat → ClassId) (ad : Nat → Nat → Nat) (i : Nat) (x : Nat → Int32) : ct cA ad 47 i x = .inl (cA 0, 10, .inl x) := rfl
theorem ct_48 (cA : Nat → ClassId) (ad : Nat → Nat → Nat) (i : Nat) (x : Nat → Int32) : ct cA ad 48 i x = .inl (cA 0, 10, .inl x) := rfl
theorem ct_49 (cA : Nat → ClassId) (ad : Nat → Nat → Nat) (i : Nat) (x : Nat → Int32) : ct cA ad 49 i x = .inl (cA 0, 30, .inl x) := rfl
theorem ct_50 (cA : Nat → ClassId) (ad : Nat → Nat → Nat) (i : Nat) (x : Nat → Int32) : ct cA ad 50 i x = .inl (cA 0, 10, .inl x) := rfl
theorem ct_51 (cA : Nat → ClassId) (ad : Nat → Nat → Nat) (i : Nat) (x : Nat → Int32) : ct cA ad 51 i x = .inl (cA 0, 10, .inl x) := rfl
theorem ct_52 (cA : Nat → ClassId) (ad : Nat → Nat → Nat) (i : Nat) (x : Nat → Int32) : ct cA ad 52 i x = .inl (cA 0, 10, .inl x) := rfl
theorem ct_53 (cA : Nat → ClassId) (ad : Nat → Nat → Nat) (i : Nat) (x : Nat → Int32) : ct cA ad 53 i x = .inl (cA 0, 2, .inl x) := rfl
theorem ct_54 (cA : Nat → ClassId) (ad : Nat → Nat → Nat) (i : Nat) (x : Nat → Int32) : ct cA ad 54 i x = .inl (cA 0, 3, .inl x) := rfl
theorem ct_55 (cA : Nat → ClassId) (ad : Nat → Nat → Nat) (i : Nat) (x : Nat → Int32) : ct cA ad 55 i x = .inl (cA 0, 3, .inl x) := rfl
theorem ct_56 (cA : Nat → ClassId) (ad : Nat → Nat → Nat) (i : Nat) (x : Nat → Int32) : ct cA ad 56 i x = .inl (cA 0, 960, .inl x) := rfl
theorem ct_57 (cA : Nat → ClassId) (ad : Nat → Nat → Nat) (i : Nat) (x : Nat → Int32) : ct cA ad 57 i x = .inl (cA 0, 24960, .inl x) := rfl
theorem ct_58 (cA : Nat → ClassId) (ad : Nat → Nat → Nat) (i : Nat) (x : Nat → Int32) : ct cA ad 58 i x = .inl (cA 0, 40, .inl x) := rfl
theorem ct_59 (cA : Nat → ClassId) (ad : Nat → Nat → Nat) (i : Nat) (x : Nat → Int32) : ct cA ad 59 i x = .inl (cA 0, 12, .inl x) := rfl
theorem ct_60 (cA : Nat → ClassId) (ad : Nat → Nat → Nat) (i : Nat) (x : Nat → Int32) : ct cA ad 60 i x = .inl (cA 0, 96, .inl x) := rfl
theorem ct_61 (cA : Nat → ClassId) (ad : Nat → Nat → Nat) (i : Nat) (x : Nat → Int32) : ct cA ad 61 i x = .inl (cA 0, 4, .inl x) := rfl
theorem ct_62 (cA : Nat → ClassId) (ad : Nat → Nat → Nat) (i : Nat) (x : Nat → Int32) : ct cA ad 62 i x = .inl (cA 0, 160, .inl x) := rfl
theorem ct_63 (cA : Nat → ClassId) (ad : Nat → Nat → Nat) (i : Nat) (x : Nat → Int32) : ct cA ad 63 i x = .inl (cA 0, 12, .inl x) := rfl
theorem ct_64 (cA : Nat → ClassId) (ad : Nat → Nat → Nat) (i : Nat) (x : Nat → Int32) : ct cA ad 64 i x = .inl (cA 0, 12, .inl x) := rfl
theorem ct_65 (cA : Nat → ClassId) (ad : Nat → Nat → Nat) (i : Nat) (x : Nat → Int32) : ct cA ad 65 i x = .inl (cA 0, 12, .inl x) := rfl
theorem ct_66 (cA : Nat → ClassId) (ad : Nat → Nat → Nat) (i : Nat) (x : Nat → Int32) : ct cA ad 66 i x = .inl (cA 1, 12, .inl x) := rfl
theorem ct_67 (cA : Nat → ClassId) (ad : Nat → Nat → Nat) (i : Nat) (x : Nat → Int32) : ct cA ad 67 i x = .inl (cA 1, 12, .inl x) := rfl
theorem ct_68 (cA : Nat → ClassId) (ad : Nat → Nat → Nat) (i : Nat) (x : Nat → Int32) : ct cA ad 68 i x = .inl (cA 0, 9, .inl x) := rfl
theorem ct_69 (cA : Nat → ClassId) (ad : Nat → Nat → Nat) (i : Nat) (x : Nat → Int32) : ct cA ad 69 i x = .inl (cA 0, 9, .inl x) := rfl
theorem ct_70 (cA : Nat → ClassId) (ad : Nat → Nat → Nat) (i : Nat) (x : Nat → Int32) : ct cA ad 70 i x = .inl (cA 0, 9, .inl x) := rfl
theorem ct_71 (cA : Nat → ClassId) (ad : Nat → Nat → Nat) (i : Nat) (x : Nat → Int32) : ct cA ad 71 i x = .inl (cA 0, 72, .inl x) := rfl
theorem ct_72 (cA : Nat → ClassId) (ad : Nat → Nat → Nat) (i : Nat) (x : Nat → Int32) : ct cA ad 72 i x = .inl (cA 1, 8, .inl x) := rfl
theorem ct_73 (cA : Nat → ClassId) (ad : Nat → Nat → Nat) (i : Nat) (x : Nat → Int32) : ct cA ad 73 i x = .inl (cA 0, 208, .inl x) := rfl
theorem ct_74 (cA : Nat → ClassId) (ad : Nat → Nat → Nat) (i : Nat) (x : Nat → Int32) : ct cA ad 74 i x = .inl (cA 0, 8, .inl x) := rfl
theorem ct_75 (cA : Nat → ClassId) (ad : Nat → Nat → Nat) (i : Nat) (x : Nat → Int32) : ct cA ad 75 i x = .inl (cA 0, 6, .inl x) := rfl
theorem ct_76 (cA : Nat → ClassId) (ad : Nat → Nat → Nat) (i : Nat) (x : Nat → Int32) : ct cA ad 76 i x = .inl (cA 0, 6, .inl x) := rfl
theorem ct_77 (cA : Nat → ClassId) (ad : Nat → Nat → Nat) (i : Nat) (x : Nat → Int32) : ct cA ad 77 i x = .inl (cA 0, 10, .inl x) := rfl
theorem ct_78 (cA : Nat → ClassId) (ad : Nat → Nat → Nat) (i : Nat) (x : Nat → Int32) : ct cA ad 78 i x = .inl (cA 0, 10, .inl x) := rfl
theorem ct_79 (cA : Nat → ClassId) (ad : Nat → Nat → Nat) (i : Nat) (x : Nat → Int32) : ct cA ad 79 i x = .inl (cA 0, 41, .inl x) := rfl
theorem ct_80 (cA : Nat → ClassId) (ad : Nat → Nat → Nat) (i : Nat) (x : Nat → Int32) : ct cA ad 80 i x = .inl (cA 0, 41, .inl x) := rfl
theorem ct_81 (cA : Nat → ClassId) (ad : Nat → Nat → Nat) (i : Nat) (x : Nat → Int32) : ct cA ad 81 i x = .inl (cA 8, 1, .inr (.inl (fun j => (x j).toInt64))) := rfl
theorem ct_82 (cA : Nat → ClassId) (ad : Nat → Nat → Nat) (i : Nat) (x : Nat → Int32) : ct cA ad 82 i x = .inr (9, fs_82 ad i x) := rfl
theorem ct_83 (cA : Nat → ClassId) (ad : Nat → Nat → Nat) (i : Nat) (x : Nat → Int32) : ct cA ad 83 i x = .inr (3, fs_83 ad i x) := rfl
theorem ct_84 (cA : Nat → ClassId) (ad : Nat → Nat → Nat) (i : Nat) (x : Nat → Int32) : ct cA ad 84 i x = .inr (2, fs_84 ad i x) := rfl
theorem ct_85 (cA : Nat → ClassId) (ad : Nat → Nat → Nat) (i : Nat) (x : Nat → Int32) : ct cA ad 85 i x = .inr (0, fs_85 ad i x) := rfl
theorem ct_86 (cA : Nat → ClassId) (ad : Nat → Nat → Nat) (i : Nat) (x : Nat → Int32) : ct cA ad 86 i x = .inr (5, fs_86 ad i x) := rfl
theorem ct_87 (cA : Nat → ClassId) (ad : Nat → Nat → Nat) (i : Nat) (x : Nat → Int32) : ct cA ad 87 i x = .inr (7, fs_87 ad i x) := rfl
theorem ct_88 (cA : Nat → ClassId) (ad : Nat → Nat → Nat) (i : Nat) (x : Nat → Int32) : ct cA ad 88 i x = .inr (1, fs_88 ad i x) := rfl
theorem ct_89 (cA : Nat → ClassId) (ad : Nat → Nat → Nat) (i : Nat) (x : Nat → Int32) : ct cA ad 89 i x = .inr (8, fs_89 ad i x) := rfl
theorem ct_90 (cA : Nat → ClassId) (ad : Nat → Nat → Nat) (i : Nat) (x : Nat → Int32) : ct cA ad 90 i x = .inr (6, fs_90 ad i x) := rfl
theorem ct_91 (cA : Nat → ClassId) (ad : Nat → Nat → Nat) (i : Nat) (x : Nat → Int32) : ct cA ad 91 i x = .inr (4, fs_91 ad i x) := rfl
theorem ct_92 (cA : Nat → ClassId) (ad : Nat → Nat → Nat) (i : Nat) (x : Nat → Int32) : ct cA ad 92 i x = .inr (10, fs_92 ad i x) := rfl
theorem fg_0_0 (ad : Nat → Nat → Nat) (i : Nat) (x : Nat → Int32) : (fs_0 ad i x)[0]? = some (.ref (ad 1 0)) := rfl
theorem fg_0_1 (ad : Nat → Nat → Nat) (i : Nat) (x : Nat → Int32) : (fs_0 ad i x)[1]? = some (.ref (ad 4 0)) := rfl
theorem fg_0_2 (ad : Nat → Nat → Nat) (i : Nat) (x : Nat → Int32) : (fs_0 ad i x)[2]? = some (.int (x 2)) := rfl
theorem fp_0_2 (cA : Nat → ClassId) (ad : Nat → Nat → Nat) (i : Nat) (x : Nat → Int32) (v : Int32) : ct cA ad 0 i (upd x 2 v) = .inr (9, (fs_0 ad i x).set 2 (.int v)) := rfl
theorem fg_0_3 (ad : Nat → Nat → Nat) (i : Nat) (x : Nat → Int32) : (fs_0 ad i x)[3]? = some (.ref (ad 11 0)) := rfl
theorem fg_0_4 (ad : Nat → Nat → Nat) (i : Nat) (x : Nat → Int32) : (fs_0 ad i x)[4]? = some (.ref (ad 22 0)) := rfl
theorem fg_0_5 (ad : Nat → Nat → Nat) (i : Nat) (x : Nat → Int32) : (fs_0 ad i x)[5]? = some (.int (x 5)) := rfl
theorem fp_0_5 (cA : Nat → ClassId) (ad : Nat → Nat → Nat) (i : Nat) (x : Nat → Int32) (v : Int32) : ct cA ad 0 i (upd x 5 v) = .inr (9, (fs_0 ad i x).set 5 (.int v)) := rfl
theorem fg_0_6 (ad : Nat → Nat → Nat) (i : Nat) (x : Nat → Int32) : (fs_0 ad i x)[6]? = some (.ref (ad 24 0)) := rfl
theorem fg_0_7 (ad : Nat → Nat → Nat) (i : Nat) (x : Nat → Int32) : (fs_0 ad i x)[7]? = some (.int (x 7)) := rfl
theorem fp_0_7 (cA : Nat → ClassId) (ad : Nat → Nat → Nat) (i : Nat) (x : Nat → Int32) (v : Int32) : ct cA ad 0 i (upd x 7 v) = .inr (9, (fs_0 ad i x).set 7 (.int v)) := rfl
theorem fg_0_8 (ad : Nat → Nat → Nat) (i : Nat) (x : Nat → Int32) : (fs_0 ad i x)[8]? = some (.ref (ad 25 0)) := rfl
theorem fg_0_9 (ad : Nat → Nat → Nat) (i : Nat) (x : Nat → Int32) : (fs_0 ad i x)[9]? = some (.int (x 9)) := rfl
theorem fp_0_9 (cA : Nat → ClassId) (ad : Nat → Nat → Nat) (i : Nat) (x : Nat → Int32) (v : Int32) : ct cA ad 0 i (upd x 9 v) = .inr (9, (fs_0 ad i x).set 9 (.int v)) := rfl
theorem fg_0_10 (ad : Nat → Nat → Nat) (i : Nat) (x : Nat → Int32) : (fs_0 ad i x)[10]? = some (.ref (ad 28 0)) := rfl
theorem fg_0_11 (ad : Nat → Nat → Nat) (i : Nat) (x : Nat → Int32) : (fs_0 ad i x)[11]? = some (.int (x 11)) := rfl
theorem fp_0_11 (cA : Nat → ClassId) (ad : Nat → Nat → Nat) (i : Nat) (x : Nat → Int32) (v : Int32) : ct cA ad 0 i (upd x 11 v) = .inr (9, (fs_0 ad i x).set 11 (.int v)) := rfl
theorem fg_0_12 (ad : Nat → Nat → Nat) (i : Nat) (x : Nat → Int32) : (fs_0 ad i x)[12]? = some (.ref (ad 29 0)) := rfl
theorem fg_0_13 (ad : Nat → Nat → Nat) (i : Nat) (x : Nat → Int32) : (fs_0 ad i x)[13]? = some (.ref (ad 40 0)) := rfl
theorem fg_0_14 (ad : Nat → Nat → Nat) (i : Nat) (x : Nat → Int32) : (fs_0 ad i x)[14]? = some (.ref (ad 42 0)) := rfl
theorem fg_1_0 (ad : Nat → Nat → Nat) (i : Nat) (x : Nat → Int32) : (fs_1 ad i x)[0]? = some (.ref (ad 2 0)) := rfl
theorem fg_1_1 (ad : Nat → Nat → Nat) (i : Nat) (x : Nat → Int32) : (fs_1 ad i x)[1]? = some (.ref (ad 3 0)) := rfl
theorem fg_5_0 (ad : Nat → Nat → Nat) (i : Nat) (x : Nat → Int32) : (fs_5 ad i x)[0]? = some (.int (x 0)) := rfl
theorem fp_5_0 (cA : Nat → ClassId) (ad : Nat → Nat → Nat) (i : Nat) (x : Nat → Int32) (v : Int32) : ct cA ad 5 i (upd x 0 v) = .inr (2, (fs_5 ad i x).set 0 (.int v)) := rfl
theorem fg_5_1 (ad : Nat → Nat → Nat) (i : Nat) (x : Nat → Int32) : (fs_5 ad i x)[1]? = some (va_rf (ro ad 12 (x 1))) := rfl
theorem fp_5_1 (cA : Nat → ClassId) (ad : Nat → Nat → Nat) (i : Nat) (x : Nat → Int32) (v : Int32) : ct cA ad 5 i (upd x 1 v) = .inr (2, (fs_5 ad i x).set 1 (va_rf (ro ad 12 v))) := rfl
theorem fg_5_2 (ad : Nat → Nat → Nat) (i : Nat) (x : Nat → Int32) : (fs_5 ad i x)[2]? = some (.int (x 2)) := rfl
theorem fp_5_2 (cA : Nat → ClassId) (ad : Nat → Nat → Nat) (i : Nat) (x : Nat → Int32) (v : Int32) : ct cA ad 5 i (upd x 2 v) = .inr (2, (fs_5 ad i x).set 2 (.int v)) := rfl
theorem fg_5_3 (ad : Nat → Nat → Nat) (i : Nat) (x : Nat → Int32) : (fs_5 ad i x)[3]? = some (.int (x 3)) := rfl
theorem fp_5_3 (cA : Nat → ClassId) (ad : Nat → Nat → Nat) (i : Nat) (x : Nat → Int32) (v : Int32) : ct cA ad 5 i (upd x 3 v) = .inr (2, (fs_5 ad i x).set 3 (.int v)) := rfl
theorem fg_5_4 (ad : Nat → Nat → Nat) (i : Nat) (x : Nat → Int32) : (fs_5 ad i x)[4]? = some (.ref (ad 6 i)) := rfl
theorem fg_5_5 (ad : Nat → Nat → Nat) (i : Nat) (x : Nat → Int32) : (fs_5 ad i x)[5]? = some (.int (x 5)) := rfl
theorem fp_5_5 (cA : Nat → ClassId) (ad : Nat → Nat → Nat) (i : Nat) (x : Nat → Int32) (v : Int32) : ct cA ad 5 i (upd x 5 v) = .inr (2, (fs_5 ad i x).set 5 (.int v)) := rfl
theorem fg_5_6 (ad : Nat → Nat → Nat) (i : Nat) (x : Nat → Int32) : (fs_5 ad i x)[6]? = some (.int (x 6)) := rfl
theorem fp_5_6 (cA : Nat → ClassId) (ad : Nat → Nat → Nat) (i : Nat) (x : Nat → Int32) (v : Int32) : ct cA ad 5 i (upd x 6 v) = .inr (2, (fs_5 ad i x).set 6 (.int v)) := rfl
theorem fg_5_7 (ad : Nat → Nat → Nat) (i : Nat) (x : Nat → Int32) : (fs_5 ad i x)[7]? = some (.int (x 7)) := rfl
theorem fp_5_7 (cA : Nat → ClassId) (ad : Nat → Nat → Nat) (i : Nat) (x : Nat → Int32) (v : Int32) : ct cA ad 5 i (upd x 7 v) = .inr (2, (fs_5 ad i x).set 7 (.int v)) := rfl
theorem fg_5_8 (ad : Nat → Nat → Nat) (i : Nat) (x : Nat → Int32) : (fs_5 ad i x)[8]? = some (.int (x 8)) := rfl
theorem fp_5_8 (cA : Nat → ClassId) (ad : Nat → Nat → Nat) (i : Nat) (x : Nat → Int32) (v : Int32) : ct cA ad 5 i (upd x 8 v) = .inr (2, (fs_5 ad i x).set 8 (.int v)) := rfl
theorem fg_5_9 (ad : Nat → Nat → Nat) (i : Nat) (x : Nat → Int32) : (fs_5 ad i x)[9]? = some (.int (x 9)) := rfl
theorem fp_5_9 (cA : Nat → ClassId) (ad : Nat → Nat → Nat) (i : Nat) (x : Nat → Int32) (v : Int32) : ct cA ad 5 i (upd x 9 v) = .inr (2, (fs_5 ad i x).set 9 (.int v)) := rfl
theorem fg_5_10 (ad : Nat → Nat → Nat) (i : Nat) (x : Nat → Int32) : (fs_5 ad i x)[10]? = some (.int (x 10)) := rfl
theorem fp_5_10 (cA : Nat → ClassId) (ad : Nat → Nat → Nat) (i : Nat) (x : Nat → Int32) (v : Int32) : ct cA ad 5 i (upd x 10 v) = .inr (2, (fs_5 ad i x).set 10 (.int v)) := rfl
theorem fg_5_11 (ad : Nat → Nat → Nat) (i : Nat) (x : Nat → Int32) : (fs_5 ad i x)[11]? = some (.int (x 11)) := rfl
theorem fp_5_11 (cA : Nat → ClassId) (ad : Nat → Nat → Nat) (i : Nat) (x : Nat → Int32) (v : Int32) : ct cA ad 5 i (upd x 11 v) = .inr (2, (fs_5 ad i x).set 11 (.int v)) := rfl
theorem fg_5_12 (ad : Nat → Nat → Nat) (i : Nat) (x : Nat → Int32) : (fs_5 ad i x)[12]? = some (.int (x 12)) := rfl
theorem fp_5_12 (cA : Nat → ClassId) (ad : Nat → Nat → Nat) (i : Nat) (x : Nat → Int32) (v : Int32) : ct cA ad 5 i (upd x 12 v) = .inr (2, (fs_5 ad i x).set 12 (.int v)) := rfl
theorem fg_7_0 (ad : Nat → Nat → Nat) (i : Nat) (x : Nat → Int32) : (fs_7 ad i x)[0]? = some (.ref (ad 8 i)) := rfl
theorem fg_7_1 (ad : Nat → Nat → Nat) (i : Nat) (x : Nat → Int32) : (fs_7 ad i x)[1]? = some (.ref (ad 9 i)) := rfl
theorem fg_7_2 (ad : Nat → Nat → Nat) (i : Nat) (x : Nat → Int32) : (fs_7 ad i x)[2]? = some (.ref (ad 10 i)) := rfl
theorem fg_7_3 (ad : Nat → Nat → Nat) (i : Nat) (x : Nat → Int32) : (fs_7 ad i x)[3]? = some (.int (x 3)) := rfl
theorem fp_7_3 (cA : Nat → ClassId) (ad : Nat → Nat → Nat) (i : Nat) (x : Nat → Int32) (v : Int32) : ct cA ad 7 i (upd x 3 v) = .inr (0, (fs_7 ad i x).set 3 (.int v)) := rfl
theorem fg_7_4 (ad : Nat → Nat → Nat) (i : Nat) (x : Nat → Int32) : (fs_7 ad i x)[4]? = some (.int (x 4)) := rfl
theorem fp_7_4 (cA : Nat → ClassId) (ad : Nat → Nat → Nat) (i : Nat) (x : Nat → Int32) (v : Int32) : ct cA ad 7 i (upd x 4 v) = .inr (0, (fs_7 ad i x).set 4 (.int v)) := rfl
theorem fg_12_0 (ad : Nat → Nat → Nat) (i : Nat) (x : Nat → Int32) : (fs_12 ad i x)[0]? = some (.int (x 0)) := rfl
theorem fp_12_0 (cA : Nat → ClassId) (ad : Nat → Nat → Nat) (i : Nat) (x : Nat → Int32) (v : Int32) : ct cA ad 12 i (upd x 0 v) = .inr (5, (fs_12 ad i x).set 0 (.int v)) := rfl
theorem fg_12_1 (ad : Nat → Nat → Nat) (i : Nat) (x : Nat → Int32) : (fs_12 ad i x)[1]? = some (.ref (ad 13 i)) := rfl
theorem fg_12_2 (ad : Nat → Nat → Nat) (i : Nat) (x : Nat → Int32) : (fs_12 ad i x)[2]? = some (.int (x 2)) := rfl
theorem fp_12_2 (cA : Nat → ClassId) (ad : Nat → Nat → Nat) (i : Nat) (x : Nat → Int32) (v : Int32) : ct cA ad 12 i (upd x 2 v) = .inr (5, (fs_12 ad i x).set 2 (.int v)) := rfl
theorem fg_12_3 (ad : Nat → Nat → Nat) (i : Nat) (x : Nat → Int32) : (fs_12 ad i x)[3]? = some (.ref (ad 14 (3 * i))) := rfl
theorem fg_12_4 (ad : Nat → Nat → Nat) (i : Nat) (x : Nat → Int32) : (fs_12 ad i x)[4]? = some (.ref (ad 14 (3 * i + 1))) := rfl
theorem fg_12_5 (ad : Nat → Nat → Nat) (i : Nat) (x : Nat → Int32) : (fs_12 ad i x)[5]? = some (.ref (ad 14 (3 * i + 2))) := rfl
theorem fg_14_0 (ad : Nat → Nat → Nat) (i : Nat) (x : Nat → Int32) : (fs_14 ad i x)[0]? = some (.int (x 0)) := rfl
theorem fp_14_0 (cA : Nat → ClassId) (ad : Nat → Nat → Nat) (i : Nat) (x : Nat → Int32) (v : Int32) : ct cA ad 14 i (upd x 0 v) = .inr (7, (fs_14 ad i x).set 0 (.int v)) := rfl
theorem fg_14_1 (ad : Nat → Nat → Nat) (i : Nat) (x : Nat → Int32) : (fs_14 ad i x)[1]? = some (.int (x 1)) := rfl
theorem fp_14_1 (cA : Nat → ClassId) (ad : Nat → Nat → Nat) (i : Nat) (x : Nat → Int32) (v : Int32) : ct cA ad 14 i (upd x 1 v) = .inr (7, (fs_14 ad i x).set 1 (.int v)) := rfl
theorem fg_14_2 (ad : Nat → Nat → Nat) (i : Nat) (x : Nat → Int32) : (fs_14 ad i x)[2]? = some (.int (x 2)) := rfl
theorem fp_14_2 (cA : Nat → ClassId) (ad : Nat → Nat → Nat) (i : Nat) (x : Nat → Int32) (v : Int32) : ct cA ad 14 i (upd x 2 v) = .inr (7, (fs_14 ad i x).set 2 (.int v)) := rfl
theorem fg_14_3 (ad : Nat → Nat → Nat) (i : Nat) (x : Nat → Int32) : (fs_14 ad i x)[3]? = some (.int (x 3)) := rfl
theorem fp_14_3 (cA : Nat → ClassId) (ad : Nat → Nat → Nat) (i : Nat) (x : Nat → Int32) (v : Int32) : ct cA ad 14 i (upd x 3 v) = .inr (7, (fs_14 ad i x).set 3 (.int v)) := rfl
theorem fg_14_4 (ad : Nat → Nat → Nat) (i : Nat) (x : Nat → Int32) : (fs_14 ad i x)[4]? = some (.ref (ad 15 i)) := rfl
theorem fg_14_5 (ad : Nat → Nat → Nat) (i : Nat) (x : Nat → Int32) : (fs_14 ad i x)[5]? = some (.ref (ad 16 i)) := rfl
theorem fg_14_6 (ad : Nat → Nat → Nat) (i : Nat) (x : Nat → Int32) : (fs_14 ad i x)[6]? = some (.ref (ad 17 i)) := rfl
theorem fg_14_7 (ad : Nat → Nat → Nat) (i : Nat) (x : Nat → Int32) : (fs_14 ad i x)[7]? = some (.ref (ad 18 i)) := rfl
theorem fg_14_8 (ad : Nat → Nat → Nat) (i : Nat) (x : Nat → Int32) : (fs_14 ad i x)[8]? = some (.int (x 8)) := rfl
theorem fp_14_8 (cA : Nat → ClassId) (ad : Nat → Nat → Nat) (i : Nat) (x : Nat → Int32) (v : Int32) : ct cA ad 14 i (upd x 8 v) = .inr (7, (fs_14 ad i x).set 8 (.int v)) := rfl
theorem fg_14_9 (ad : Nat → Nat → Nat) (i : Nat) (x : Nat → Int32) : (fs_14 ad i x)[9]? = some (gsm ad i (x 9)) := rfl
theorem fp_14_9 (cA : Nat → ClassId) (ad : Nat → Nat → Nat) (i : Nat) (x : Nat → Int32) (v : Int32) : ct cA ad 14 i (upd x 9 v) = .inr (7, (fs_14 ad i x).set 9 (gsm ad i v)) := rfl
theorem fg_14_10 (ad : Nat → Nat → Nat) (i : Nat) (x : Nat → Int32) : (fs_14 ad i x)[10]? = some (.int (x 10)) := rfl
theorem fp_14_10 (cA : Nat → ClassId) (ad : Nat → Nat → Nat) (i : Nat) (x : Nat → Int32) (v : Int32) : ct cA ad 14 i (upd x 10 v) = .inr (7, (fs_14 ad i x).set 10 (.int v)) := rfl
theorem fg_14_11 (ad : Nat → Nat → Nat) (i : Nat) (x : Nat → Int32) : (fs_14 ad i x)[11]? = some (.ref (ad 20 i)) := rfl
theorem fg_14_12 (ad : Nat → Nat → Nat) (i : Nat) (x : Nat → Int32) : (fs_14 ad i x)[12]? = some (.ref (ad 21 i)) := rfl
theorem fg_23_0 (ad : Nat → Nat → Nat) (i : Nat) (x : Nat → Int32) : (fs_23 ad i x)[0]? = some (.int (x 0)) := rfl
theorem fp_23_0 (cA : Nat → ClassId) (ad : Nat → Nat → Nat) (i : Nat) (x : Nat → Int32) (v : Int32) : ct cA ad 23 i (upd x 0 v) = .inr (1, (fs_23 ad i x).set 0 (.int v)) := rfl
theorem fg_23_1 (ad : Nat → Nat → Nat) (i : Nat) (x : Nat → Int32) : (fs_23 ad i x)[1]? = some (va_rf (ro ad 12 (x 1))) := rfl
theorem fp_23_1 (cA : Nat → ClassId) (ad : Nat → Nat → Nat) (i : Nat) (x : Nat → Int32) (v : Int32) : ct cA ad 23 i (upd x 1 v) = .inr (1, (fs_23 ad i x).set 1 (va_rf (ro ad 12 v))) := rfl
theorem fg_23_2 (ad : Nat → Nat → Nat) (i : Nat) (x : Nat → Int32) : (fs_23 ad i x)[2]? = some (.int (x 2)) := rfl
theorem fp_23_2 (cA : Nat → ClassId) (ad : Nat → Nat → Nat) (i : Nat) (x : Nat → Int32) (v : Int32) : ct cA ad 23 i (upd x 2 v) = .inr (1, (fs_23 ad i x).set 2 (.int v)) := rfl
theorem fg_23_3 (ad : Nat → Nat → Nat) (i : Nat) (x : Nat → Int32) : (fs_23 ad i x)[3]? = some (.int (x 3)) := rfl
theorem fp_23_3 (cA : Nat → ClassId) (ad : Nat → Nat → Nat) (i : Nat) (x : Nat → Int32) (v : Int32) : ct cA ad 23 i (upd x 3 v) = .inr (1, (fs_23 ad i x).set 3 (.int v)) := rfl
theorem fg_23_4 (ad : Nat → Nat → Nat) (i : Nat) (x : Nat → Int32) : (fs_23 ad i x)[4]? = some (.int (x 4)) := rfl
theorem fp_23_4 (cA : Nat → ClassId) (ad : Nat → Nat → Nat) (i : Nat) (x : Nat → Int32) (v : Int32) : ct cA ad 23 i (upd x 4 v) = .inr (1, (fs_23 ad i x).set 4 (.int v)) := rfl
theorem fg_23_5 (ad : Nat → Nat → Nat) (i : Nat) (x : Nat → Int32) : (fs_23 ad i x)[5]? = some (.int (x 5)) := rfl
theorem fp_23_5 (cA : Nat → ClassId) (ad : Nat → Nat → Nat) (i : Nat) (x : Nat → Int32) (v : Int32) : ct cA ad 23 i (upd x 5 v) = .inr (1, (fs_23 ad i x).set 5 (.int v)) := rfl
theorem fg_23_6 (ad : Nat → Nat → Nat) (i : Nat) (x : Nat → Int32) : (fs_23 ad i x)[6]? = some (.int (x 6)) := rfl
theorem fp_23_6 (cA : Nat → ClassId) (ad : Nat → Nat → Nat) (i : Nat) (x : Nat → Int32) (v : Int32) : ct cA ad 23 i (upd x 6 v) = .inr (1, (fs_23 ad i x).set 6 (.int v)) := rfl
theorem fg_26_0 (ad : Nat → Nat → Nat) (i : Nat) (x : Nat → Int32) : (fs_26 ad i x)[0]? = some (.ref (ad 27 i)) := rfl
theorem fg_26_1 (ad : Nat → Nat → Nat) (i : Nat) (x : Nat → Int32) : (fs_26 ad i x)[1]? = some (.int (x 1)) := rfl
theorem fp_26_1 (cA : Nat → ClassId) (ad : Nat → Nat → Nat) (i : Nat) (x : Nat → Int32) (v : Int32) : ct cA ad 26 i (upd x 1 v) = .inr (8, (fs_26 ad i x).set 1 (.int v)) := rfl
theorem fg_29_0 (ad : Nat → Nat → Nat) (i : Nat) (x : Nat → Int32) : (fs_29 ad i x)[0]? = some (.int (x 0)) := rfl
theorem fp_29_0 (cA : Nat → ClassId) (ad : Nat → Nat → Nat) (i : Nat) (x : Nat → Int32) (v : Int32) : ct cA ad 29 i (upd x 0 v) = .inr (6, (fs_29 ad i x).set 0 (.int v)) := rfl
theorem fg_29_1 (ad : Nat → Nat → Nat) (i : Nat) (x : Nat → Int32) : (fs_29 ad i x)[1]? = some (.ref (ad 30 0)) := rfl
theorem fg_29_2 (ad : Nat → Nat → Nat) (i : Nat) (x : Nat → Int32) : (fs_29 ad i x)[2]? = some (.ref (ad 31 0)) := rfl
theorem fg_29_3 (ad : Nat → Nat → Nat) (i : Nat) (x : Nat → Int32) : (fs_29 ad i x)[3]? = some (.ref (ad 32 0)) := rfl
theorem fg_29_4 (ad : Nat → Nat → Nat) (i : Nat) (x : Nat → Int32) : (fs_29 ad i x)[4]? = some (.ref (ad 33 0)) := rfl
theorem fg_29_5 (ad : Nat → Nat → Nat) (i : Nat) (x : Nat → Int32) : (fs_29 ad i x)[5]? = some (.ref (ad 34 0)) := rfl
theorem fg_29_6 (ad : Nat → Nat → Nat) (i : Nat) (x : Nat → Int32) : (fs_29 ad i x)[6]? = some (.ref (ad 35 0)) := rfl
theorem fg_29_7 (ad : Nat → Nat → Nat) (i : Nat) (x : Nat → Int32) : (fs_29 ad i x)[7]? = some (.ref (ad 36 0)) := rfl
theorem fg_29_8 (ad : Nat → Nat → Nat) (i : Nat) (x : Nat → Int32) : (fs_29 ad i x)[8]? = some (.ref (ad 37 0)) := rfl
theorem fg_29_9 (ad : Nat → Nat → Nat) (i : Nat) (x : Nat → Int32) : (fs_29 ad i x)[9]? = some (.ref (ad 39 0)) := rfl
theorem fg_40_0 (ad : Nat → Nat → Nat) (i : Nat) (x : Nat → Int32) : (fs_40 ad i x)[0]? = some (.int (x 0)) := rfl
theorem fp_40_0 (cA : Nat → ClassId) (ad : Nat → Nat → Nat) (i : Nat) (x : Nat → Int32) (v : Int32) : ct cA ad 40 i (upd x 0 v) = .inr (4, (fs_40 ad i x).set 0 (.int v)) := rfl
theorem fg_40_1 (ad : Nat → Nat → Nat) (i : Nat) (x : Nat → Int32) : (fs_40 ad i x)[1]? = some (.int (x 1)) := rfl
theorem fp_40_1 (cA : Nat → ClassId) (ad : Nat → Nat → Nat) (i : Nat) (x : Nat → Int32) (v : Int32) : ct cA ad 40 i (upd x 1 v) = .inr (4, (fs_40 ad i x).set 1 (.int v)) := rfl
theorem fg_40_2 (ad : Nat → Nat → Nat) (i : Nat) (x : Nat → Int32) : (fs_40 ad i x)[2]? = some (.ref (ad 41 0)) := rfl
theorem fg_43_0 (ad : Nat → Nat → Nat) (i : Nat) (x : Nat → Int32) : (fs_43 ad i x)[0]? = some (.int (x 0)) := rfl
theorem fp_43_0 (cA : Nat → ClassId) (ad : Nat → Nat → Nat) (i : Nat) (x : Nat → Int32) (v : Int32) : ct cA ad 43 i (upd x 0 v) = .inr (10, (fs_43 ad i x).set 0 (.int v)) := rfl
theorem fg_43_1 (ad : Nat → Nat → Nat) (i : Nat) (x : Nat → Int32) : (fs_43 ad i x)[1]? = some (.ref (ad 44 0)) := rfl
theorem fg_43_2 (ad : Nat → Nat → Nat) (i : Nat) (x : Nat → Int32) : (fs_43 ad i x)[2]? = some (.ref (ad 45 0)) := rfl
theorem fg_43_3 (ad : Nat → Nat → Nat) (i : Nat) (x : Nat → Int32) : (fs_43 ad i x)[3]? = some (.ref (ad 46 0)) := rfl
theorem fg_43_4 (ad : Nat → Nat → Nat) (i : Nat) (x : Nat → Int32) : (fs_43 ad i x)[4]? = some (.ref (ad 47 0)) := rfl
theorem fg_43_5 (ad : Nat → Nat → Nat) (i : Nat) (x : Nat → Int32) : (fs_43 ad i x)[5]? = some (.ref (ad 48 0)) := rfl
theorem fg_43_6 (ad : Nat → Nat → Nat) (i : Nat) (x : Nat → Int32) : (fs_43 ad i x)[6]? = some (.ref (ad 49 0)) := rfl
theorem fg_43_7 (ad : Nat → Nat → Nat) (i : Nat) (x : Nat → Int32) : (fs_43 ad i x)[7]? = some (.ref (ad 50 0)) := rfl
theorem fg_43_8 (ad : Nat → Nat → Nat) (i : Nat) (x : Nat → Int32) : (fs_43 ad i x)[8]? = some (.ref (ad 51 0)) := rfl
theorem fg_43_9 (ad : Nat → Nat → Nat) (i : Nat) (x : Nat → Int32) : (fs_43 ad i x)[9]? = some (.ref (ad 52 0)) := rfl
theorem fg_43_10 (ad : Nat → Nat → Nat) (i : Nat) (x : Nat → Int32) : (fs_43 ad i x)[10]? = some (.ref (ad 53 0)) := rfl
theorem fg_43_11 (ad : Nat → Nat → Nat) (i : Nat) (x : Nat → Int32) : (fs_43 ad i x)[11]? = some (.ref (ad 54 0)) := rfl
theorem fg_43_12 (ad : Nat → Nat → Nat) (i : Nat) (x : Nat → Int32) : (fs_43 ad i x)[12]? = some (.ref (ad 55 0)) := rfl
theorem fg_43_13 (ad : Nat → Nat → Nat) (i : Nat) (x : Nat → Int32) : (fs_43 ad i x)[13]? = some (.ref (ad 56 0)) := rfl
theorem fg_43_14 (ad : Nat → Nat → Nat) (i : Nat) (x : Nat → Int32) : (fs_43 ad i x)[14]? = some (.ref (ad 57 0)) := rfl
theorem fg_43_15 (ad : Nat → Nat → Nat) (i : Nat) (x : Nat → Int32) : (fs_43 ad i x)[15]? = some (.int (x 15)) := rfl
theorem fp_43_15 (cA : Nat → ClassId) (ad : Nat → Nat → Nat) (i : Nat) (x : Nat → Int32) (v : Int32) : ct cA ad 43 i (upd x 15 v) = .inr (10, (fs_43 ad i x).set 15 (.int v)) := rfl
theorem fg_43_16 (ad : Nat → Nat → Nat) (i : Nat) (x : Nat → Int32) : (fs_43 ad i x)[16]? = some (.ref (ad 58 0)) := rfl
theorem fg_43_17 (ad : Nat → Nat → Nat) (i : Nat) (x : Nat → Int32) : (fs_43 ad i x)[17]? = some (.int (x 17)) := rfl
theorem fp_43_17 (cA : Nat → ClassId) (ad : Nat → Nat → Nat) (i : Nat) (x : Nat → Int32) (v : Int32) : ct cA ad 43 i (upd x 17 v) = .inr (10, (fs_43 ad i x).set 17 (.int v)) := rfl
theorem fg_43_18 (ad : Nat → Nat → Nat) (i : Nat) (x : Nat → Int32) : (fs_43 ad i x)[18]? = some (.ref (ad 59 0)) := rfl
theorem fg_43_19 (ad : Nat → Nat → Nat) (i : Nat) (x : Nat → Int32) : (fs_43 ad i x)[19]? = some (.ref (ad 60 0)) := rfl
theorem fg_43_20 (ad : Nat → Nat → Nat) (i : Nat) (x : Nat → Int32) : (fs_43 ad i x)[20]? = some (.int (x 20)) := rfl
theorem fp_43_20 (cA : Nat → ClassId) (ad : Nat → Nat → Nat) (i : Nat) (x : Nat → Int32) (v : Int32) : ct cA ad 43 i (upd x 20 v) = .inr (10, (fs_43 ad i x).set 20 (.int v)) := rfl
theorem fg_43_21 (ad : Nat → Nat → Nat) (i : Nat) (x : Nat → Int32) : (fs_43 ad i x)[21]? = some (.ref (ad 61 0)) := rfl
theorem fg_43_22 (ad : Nat → Nat → Nat) (i : Nat) (x : Nat → Int32) : (fs_43 ad i x)[22]? = some (.ref (ad 62 0)) := rfl
theorem fg_43_23 (ad : Nat → Nat → Nat) (i : Nat) (x : Nat → Int32) : (fs_43 ad i x)[23]? = some (.int (x 23)) := rfl
theorem fp_43_23 (cA : Nat → ClassId) (ad : Nat → Nat → Nat) (i : Nat) (x : Nat → Int32) (v : Int32) : ct cA ad 43 i (upd x 23 v) = .inr (10, (fs_43 ad i x).set 23 (.int v)) := rfl
theorem fg_43_24 (ad : Nat → Nat → Nat) (i : Nat) (x : Nat → Int32) : (fs_43 ad i x)[24]? = some (.ref (ad 63 0)) := rfl
theorem fg_43_25 (ad : Nat → Nat → Nat) (i : Nat) (x : Nat → Int32) : (fs_43 ad i x)[25]? = some (.ref (ad 64 0)) := rfl
theorem fg_43_26 (ad : Nat → Nat → Nat) (i : Nat) (x : Nat → Int32) : (fs_43 ad i x)[26]? = some (.ref (ad 65 0)) := rfl
theorem fg_43_27 (ad : Nat → Nat → Nat) (i : Nat) (x : Nat → Int32) : (fs_43 ad i x)[27]? = some (.ref (ad 66 0)) := rfl
theorem fg_43_28 (ad : Nat → Nat → Nat) (i : Nat) (x : Nat → Int32) : (fs_43 ad i x)[28]? = some (.ref (ad 67 0)) := rfl
theorem fg_43_29 (ad : Nat → Nat → Nat) (i : Nat) (x : Nat → Int32) : (fs_43 ad i x)[29]? = some (.int (x 29)) := rfl
theorem fp_43_29 (cA : Nat → ClassId) (ad : Nat → Nat → Nat) (i : Nat) (x : Nat → Int32) (v : Int32) : ct cA ad 43 i (upd x 29 v) = .inr (10, (fs_43 ad i x).set 29 (.int v)) := rfl
theorem fg_43_30 (ad : Nat → Nat → Nat) (i : Nat) (x : Nat → Int32) : (fs_43 ad i x)[30]? = some (.int (x 30)) := rfl
theorem fp_43_30 (cA : Nat → ClassId) (ad : Nat → Nat → Nat) (i : Nat) (x : Nat → Int32) (v : Int32) : ct cA ad 43 i (upd x 30 v) = .inr (10, (fs_43 ad i x).set 30 (.int v)) := rfl
theorem fg_43_31 (ad : Nat → Nat → Nat) (i : Nat) (x : Nat → Int32) : (fs_43 ad i x)[31]? = some (.ref (ad 68 0)) := rfl
theorem fg_43_32 (ad : Nat → Nat → Nat) (i : Nat) (x : Nat → Int32) : (fs_43 ad i x)[32]? = some (.ref (ad 69 0)) := rfl
theorem fg_43_33 (ad : Nat → Nat → Nat) (i : Nat) (x : Nat → Int32) : (fs_43 ad i x)[33]? = some (.ref (ad 70 0)) := rfl
theorem fg_43_34 (ad : Nat → Nat → Nat) (i : Nat) (x : Nat → Int32) : (fs_43 ad i x)[34]? = some (.ref (ad 71 0)) := rfl
theorem fg_43_35 (ad : Nat → Nat → Nat) (i : Nat) (x : Nat → Int32) : (fs_43 ad i x)[35]? = some (.ref (ad 72 0)) := rfl
theorem fg_43_36 (ad : Nat → Nat → Nat) (i : Nat) (x : Nat → Int32) : (fs_43 ad i x)[36]? = some (.ref (ad 73 0)) := rfl
theorem fg_43_37 (ad : Nat → Nat → Nat) (i : Nat) (x : Nat → Int32) : (fs_43 ad i x)[37]? = some (.ref (ad 74 0)) := rfl
theorem fg_43_38 (ad : Nat → Nat → Nat) (i : Nat) (x : Nat → Int32) : (fs_43 ad i x)[38]? = some (.ref (ad 75 0)) := rfl
theorem fg_43_39 (ad : Nat → Nat → Nat) (i : Nat) (x : Nat → Int32) : (fs_43 ad i x)[39]? = some (.ref (ad 76 0)) := rfl
theorem fg_43_40 (ad : Nat → Nat → Nat) (i : Nat) (x : Nat → Int32) : (fs_43 ad i x)[40]? = some (.int (x 40)) := rfl
theorem fp_43_40 (cA : Nat → ClassId) (ad : Nat → Nat → Nat) (i : Nat) (x : Nat → Int32) (v : Int32) : ct cA ad 43 i (upd x 40 v) = .inr (10, (fs_43 ad i x).set 40 (.int v)) := rfl
theorem fg_43_41 (ad : Nat → Nat → Nat) (i : Nat) (x : Nat → Int32) : (fs_43 ad i x)[41]? = some (.ref (ad 77 0)) := rfl
theorem fg_43_42 (ad : Nat → Nat → Nat) (i : Nat) (x : Nat → Int32) : (fs_43 ad i x)[42]? = some (.int (x 42)) := rfl
theorem fp_43_42 (cA : Nat → ClassId) (ad : Nat → Nat → Nat) (i : Nat) (x : Nat → Int32) (v : Int32) : ct cA ad 43 i (upd x 42 v) = .inr (10, (fs_43 ad i x).set 42 (.int v)) := rfl
theorem fg_43_43 (ad : Nat → Nat → Nat) (i : Nat) (x : Nat → Int32) : (fs_43 ad i x)[43]? = some (.ref (ad 78 0)) := rfl
theorem fg_43_44 (ad : Nat → Nat → Nat) (i : Nat) (x : Nat → Int32) : (fs_43 ad i x)[44]? = some (.ref (ad 79 0)) := rfl
theorem fg_43_45 (ad : Nat → Nat → Nat) (i : Nat) (x : Nat → Int32) : (fs_43 ad i x)[45]? = some (.ref (ad 80 0)) := rfl
theorem fg_43_46 (ad : Nat → Nat → Nat) (i : Nat) (x : Nat → Int32) : (fs_43 ad i x)[46]? = some (.int (x 46)) := rfl
theorem fp_43_46 (cA : Nat → ClassId) (ad : Nat → Nat → Nat) (i : Nat) (x : Nat → Int32) (v : Int32) : ct cA ad 43 i (upd x 46 v) = .inr (10, (fs_43 ad i x).set 46 (.int v)) := rfl
theorem fg_82_0 (ad : Nat → Nat → Nat) (i : Nat) (x : Nat → Int32) : (fs_82 ad i x)[0]? = some (va_rf (ro ad 1 (x 0))) := rfl
theorem fp_82_0 (cA : Nat → ClassId) (ad : Nat → Nat → Nat) (i : Nat) (x : Nat → Int32) (v : Int32) : ct cA ad 82 i (upd x 0 v) = .inr (9, (fs_82 ad i x).set 0 (va_rf (ro ad 1 v))) := rfl
theorem fg_82_1 (ad : Nat → Nat → Nat) (i : Nat) (x : Nat → Int32) : (fs_82 ad i x)[1]? = some (va_rf (ro ad 4 (x 1))) := rfl
theorem fp_82_1 (cA : Nat → ClassId) (ad : Nat → Nat → Nat) (i : Nat) (x : Nat → Int32) (v : Int32) : ct cA ad 82 i (upd x 1 v) = .inr (9, (fs_82 ad i x).set 1 (va_rf (ro ad 4 v))) := rfl
theorem fg_82_2 (ad : Nat → Nat → Nat) (i : Nat) (x : Nat → Int32) : (fs_82 ad i x)[2]? = some (.int (x 2)) := rfl
theorem fp_82_2 (cA : Nat → ClassId) (ad : Nat → Nat → Nat) (i : Nat) (x : Nat → Int32) (v : Int32) : ct cA ad 82 i (upd x 2 v) = .inr (9, (fs_82 ad i x).set 2 (.int v)) := rfl
theorem fg_82_3 (ad : Nat → Nat → Nat) (i : Nat) (x : Nat → Int32) : (fs_82 ad i x)[3]? = some (va_rf (ro ad 11 (x 3))) := rfl
theorem fp_82_3 (cA : Nat → ClassId) (ad : Nat → Nat → Nat) (i : Nat) (x : Nat → Int32) (v : Int32) : ct cA ad 82 i (upd x 3 v) = .inr (9, (fs_82 ad i x).set 3 (va_rf (ro ad 11 v))) := rfl
theorem fg_82_4 (ad : Nat → Nat → Nat) (i : Nat) (x : Nat → Int32) : (fs_82 ad i x)[4]? = some (va_rf (ro ad 22 (x 4))) := rfl
theorem fp_82_4 (cA : Nat → ClassId) (ad : Nat → Nat → Nat) (i : Nat) (x : Nat → Int32) (v : Int32) : ct cA ad 82 i (upd x 4 v) = .inr (9, (fs_82 ad i x).set 4 (va_rf (ro ad 22 v))) := rfl
theorem fg_82_5 (ad : Nat → Nat → Nat) (i : Nat) (x : Nat → Int32) : (fs_82 ad i x)[5]? = some (.int (x 5)) := rfl
theorem fp_82_5 (cA : Nat → ClassId) (ad : Nat → Nat → Nat) (i : Nat) (x : Nat → Int32) (v : Int32) : ct cA ad 82 i (upd x 5 v) = .inr (9, (fs_82 ad i x).set 5 (.int v)) := rfl
theorem fg_82_6 (ad : Nat → Nat → Nat) (i : Nat) (x : Nat → Int32) : (fs_82 ad i x)[6]? = some (va_rf (ro ad 24 (x 6))) := rfl
theorem fp_82_6 (cA : Nat → ClassId) (ad : Nat → Nat → Nat) (i : Nat) (x : Nat → Int32) (v : Int32) : ct cA ad 82 i (upd x 6 v) = .inr (9, (fs_82 ad i x).set 6 (va_rf (ro ad 24 v))) := rfl
theorem fg_82_7 (ad : Nat → Nat → Nat) (i : Nat) (x : Nat → Int32) : (fs_82 ad i x)[7]? = some (.int (x 7)) := rfl
theorem fp_82_7 (cA : Nat → ClassId) (ad : Nat → Nat → Nat) (i : Nat) (x : Nat → Int32) (v : Int32) : ct cA ad 82 i (upd x 7 v) = .inr (9, (fs_82 ad i x).set 7 (.int v)) := rfl
theorem fg_82_8 (ad : Nat → Nat → Nat) (i : Nat) (x : Nat → Int32) : (fs_82 ad i x)[8]? = some (va_rf (ro ad 25 (x 8))) := rfl
theorem fp_82_8 (cA : Nat → ClassId) (ad : Nat → Nat → Nat) (i : Nat) (x : Nat → Int32) (v : Int32) : ct cA ad 82 i (upd x 8 v) = .inr (9, (fs_82 ad i x).set 8 (va_rf (ro ad 25 v))) := rfl
theorem fg_82_9 (ad : Nat → Nat → Nat) (i : Nat) (x : Nat → Int32) : (fs_82 ad i x)[9]? = some (.int (x 9)) := rfl
theorem fp_82_9 (cA : Nat → ClassId) (ad : Nat → Nat → Nat) (i : Nat) (x : Nat → Int32) (v : Int32) : ct cA ad 82 i (upd x 9 v) = .inr (9, (fs_82 ad i x).set 9 (.int v)) := rfl
theorem fg_82_10 (ad : Nat → Nat → Nat) (i : Nat) (x : Nat → Int32) : (fs_82 ad i x)[10]? = some (va_rf (ro ad 28 (x 10))) := rfl
theorem fp_82_10 (cA : Nat → ClassId) (ad : Nat → Nat → Nat) (i : Nat) (x : Nat → Int32) (v : Int32) : ct cA ad 82 i (upd x 10 v) = .inr (9, (fs_82 ad i x).set 10 (va_rf (ro ad 28 v))) := rfl
theorem fg_82_11 (ad : Nat → Nat → Nat) (i : Nat) (x : Nat → Int32) : (fs_82 ad i x)[11]? = some (.int (x 11)) := rfl
theorem fp_82_11 (cA : Nat → ClassId) (ad : Nat → Nat → Nat) (i : Nat) (x : Nat → Int32) (v : Int32) : ct cA ad 82 i (upd x 11 v) = .inr (9, (fs_82 ad i x).set 11 (.int v)) := rfl
theorem fg_82_12 (ad : Nat → Nat → Nat) (i : Nat) (x : Nat → Int32) : (fs_82 ad i x)[12]? = some (va_rf (ro ad 29 (x 12))) := rfl
theorem fp_82_12 (cA : Nat → ClassId) (ad : Nat → Nat → Nat) (i : Nat) (x : Nat → Int32) (v : Int32) : ct cA ad 82 i (upd x 12 v) = .inr (9, (fs_82 ad i x).set 12 (va_rf (ro ad 29 v))) := rfl
theorem fg_82_13 (ad : Nat → Nat → Nat) (i : Nat) (x : Nat → Int32) : (fs_82 ad i x)[13]? = some (va_rf (ro ad 40 (x 13))) := rfl
theorem fp_82_13 (cA : Nat → ClassId) (ad : Nat → Nat → Nat) (i : Nat) (x : Nat → Int32) (v : Int32) : ct cA ad 82 i (upd x 13 v) = .inr (9, (fs_82 ad i x).set 13 (va_rf (ro ad 40 v))) := rfl
theorem fg_82_14 (ad : Nat → Nat → Nat) (i : Nat) (x : Nat → Int32) : (fs_82 ad i x)[14]? = some (va_rf (ro ad 42 (x 14))) := rfl
theorem fp_82_14 (cA : Nat → ClassId) (ad : Nat → Nat → Nat) (i : Nat) (x : Nat → Int32) (v : Int32) : ct cA ad 82 i (upd x 14 v) = .inr (9, (fs_82 ad i x).set 14 (va_rf (ro ad 42 v))) := rfl
theorem fg_83_0 (ad : Nat → Nat → Nat) (i : Nat) (x : Nat → Int32) : (fs_83 ad i x)[0]? = some (va_rf (ro ad 2 (x 0))) := rfl
theorem fp_83_0 (cA : Nat → ClassId) (ad : Nat → Nat → Nat) (i : Nat) (x : Nat → Int32) (v : Int32) : ct cA ad 83 i (upd x 0 v) = .inr (3, (fs_83 ad i x).set 0 (va_rf (ro ad 2 v))) := rfl
theorem fg_83_1 (ad : Nat → Nat → Nat) (i : Nat) (x : Nat → Int32) : (fs_83 ad i x)[1]? = some (va_rf (ro ad 3 (x 1))) := rfl
theorem fp_83_1 (cA : Nat → ClassId) (ad : Nat → Nat → Nat) (i : Nat) (x : Nat → Int32) (v : Int32) : ct cA ad 83 i (upd x 1 v) = .inr (3, (fs_83 ad i x).set 1 (va_rf (ro ad 3 v))) := rfl
theorem fg_84_0 (ad : Nat → Nat → Nat) (i : Nat) (x : Nat → Int32) : (fs_84 ad i x)[0]? = some (.int (x 0)) := rfl
theorem fp_84_0 (cA : Nat → ClassId) (ad : Nat → Nat → Nat) (i : Nat) (x : Nat → Int32) (v : Int32) : ct cA ad 84 i (upd x 0 v) = .inr (2, (fs_84 ad i x).set 0 (.int v)) := rfl
theorem fg_84_1 (ad : Nat → Nat → Nat) (i : Nat) (x : Nat → Int32) : (fs_84 ad i x)[1]? = some (va_rf (ro ad 12 (x 1))) := rfl
theorem fp_84_1 (cA : Nat → ClassId) (ad : Nat → Nat → Nat) (i : Nat) (x : Nat → Int32) (v : Int32) : ct cA ad 84 i (upd x 1 v) = .inr (2, (fs_84 ad i x).set 1 (va_rf (ro ad 12 v))) := rfl
theorem fg_84_2 (ad : Nat → Nat → Nat) (i : Nat) (x : Nat → Int32) : (fs_84 ad i x)[2]? = some (.int (x 2)) := rfl
theorem fp_84_2 (cA : Nat → ClassId) (ad : Nat → Nat → Nat) (i : Nat) (x : Nat → Int32) (v : Int32) : ct cA ad 84 i (upd x 2 v) = .inr (2, (fs_84 ad i x).set 2 (.int v)) := rfl
theorem fg_84_3 (ad : Nat → Nat → Nat) (i : Nat) (x : Nat → Int32) : (fs_84 ad i x)[3]? = some (.int (x 3)) := rfl
theorem fp_84_3 (cA : Nat → ClassId) (ad : Nat → Nat → Nat) (i : Nat) (x : Nat → Int32) (v : Int32) : ct cA ad 84 i (upd x 3 v) = .inr (2, (fs_84 ad i x).set 3 (.int v)) := rfl
theorem fg_84_4 (ad : Nat → Nat → Nat) (i : Nat) (x : Nat → Int32) : (fs_84 ad i x)[4]? = some (va_rf (ro ad 6 (x 4))) := rfl
theorem fp_84_4 (cA : Nat → ClassId) (ad : Nat → Nat → Nat) (i : Nat) (x : Nat → Int32) (v : Int32) : ct cA ad 84 i (upd x 4 v) = .inr (2, (fs_84 ad i x).set 4 (va_rf (ro ad 6 v))) := rfl
theorem fg_84_5 (ad : Nat → Nat → Nat) (i : Nat) (x : Nat → Int32) : (fs_84 ad i x)[5]? = some (.int (x 5)) := rfl
theorem fp_84_5 (cA : Nat → ClassId) (ad : Nat → Nat → Nat) (i : Nat) (x : Nat → Int32) (v : Int32) : ct cA ad 84 i (upd x 5 v) = .inr (2, (fs_84 ad i x).set 5 (.int v)) := rfl
theorem fg_84_6 (ad : Nat → Nat → Nat) (i : Nat) (x : Nat → Int32) : (fs_84 ad i x)[6]? = some (.int (x 6)) := rfl
theorem fp_84_6 (cA : Nat → ClassId) (ad : Nat → Nat → Nat) (i : Nat) (x : Nat → Int32) (v : Int32) : ct cA ad 84 i (upd x 6 v) = .inr (2, (fs_84 ad i x).set 6 (.int v)) := rfl
theorem fg_84_7 (ad : Nat → Nat → Nat) (i : Nat) (x : Nat → Int32) : (fs_84 ad i x)[7]? = some (.int (x 7)) := rfl
theorem fp_84_7 (cA : Nat → ClassId) (ad : Nat → Nat → Nat) (i : Nat) (x : Nat → Int32) (v : Int32) : ct cA ad 84 i (upd x 7 v) = .inr (2, (fs_84 ad i x).set 7 (.int v)) := rfl
theorem fg_84_8 (ad : Nat → Nat → Nat) (i : Nat) (x : Nat → Int32) : (fs_84 ad i x)[8]? = some (.int (x 8)) := rfl
theorem fp_84_8 (cA : Nat → ClassId) (ad : Nat → Nat → Nat) (i : Nat) (x : Nat → Int32) (v : Int32) : ct cA ad 84 i (upd x 8 v) = .inr (2, (fs_84 ad i x).set 8 (.int v)) := rfl
theorem fg_84_9 (ad : Nat → Nat → Nat) (i : Nat) (x : Nat → Int32) : (fs_84 ad i x)[9]? = some (.int (x 9)) := rfl
theorem fp_84_9 (cA : Nat → ClassId) (ad : Nat → Nat → Nat) (i : Nat) (x : Nat → Int32) (v : Int32) : ct cA ad 84 i (upd x 9 v) = .inr (2, (fs_84 ad i x).set 9 (.int v)) := rfl
theorem fg_84_10 (ad : Nat → Nat → Nat) (i : Nat) (x : Nat → Int32) : (fs_84 ad i x)[10]? = some (.int (x 10)) := rfl
theorem fp_84_10 (cA : Nat → ClassId) (ad : Nat → Nat → Nat) (i : Nat) (x : Nat → Int32) (v : Int32) : ct cA ad 84 i (upd x 10 v) = .inr (2, (fs_84 ad i x).set 10 (.int v)) := rfl
theorem fg_84_11 (ad : Nat → Nat → Nat) (i : Nat) (x : Nat → Int32) : (fs_84 ad i x)[11]? = some (.int (x 11)) := rfl
theorem fp_84_11 (cA : Nat → ClassId) (ad : Nat → Nat → Nat) (i : Nat) (x : Nat → Int32) (v : Int32) : ct cA ad 84 i (upd x 11 v) = .inr (2, (fs_84 ad i x).set 11 (.int v)) := rfl
theorem fg_84_12 (ad : Nat → Nat → Nat) (i : Nat) (x : Nat → Int32) : (fs_84 ad i x)[12]? = some (.int (x 12)) := rfl
theorem fp_84_12 (cA : Nat → ClassId) (ad : Nat → Nat → Nat) (i : Nat) (x : Nat → Int32) (v : Int32) : ct cA ad 84 i (upd x 12 v) = .inr (2, (fs_84 ad i x).set 12 (.int v)) := rfl
theorem fg_85_0 (ad : Nat → Nat → Nat) (i : Nat) (x : Nat → Int32) : (fs_85 ad i x)[0]? = some (va_rf (ro ad 8 (x 0))) := rfl
theorem fp_85_0 (cA : Nat → ClassId) (ad : Nat → Nat → Nat) (i : Nat) (x : Nat → Int32) (v : Int32) : ct cA ad 85 i (upd x 0 v) = .inr (0, (fs_85 ad i x).set 0 (va_rf (ro ad 8 v))) := rfl
theorem fg_85_1 (ad : Nat → Nat → Nat) (i : Nat) (x : Nat → Int32) : (fs_85 ad i x)[1]? = some (va_rf (ro ad 9 (x 1))) := rfl
theorem fp_85_1 (cA : Nat → ClassId) (ad : Nat → Nat → Nat) (i : Nat) (x : Nat → Int32) (v : Int32) : ct cA ad 85 i (upd x 1 v) = .inr (0, (fs_85 ad i x).set 1 (va_rf (ro ad 9 v))) := rfl
theorem fg_85_2 (ad : Nat → Nat → Nat) (i : Nat) (x : Nat → Int32) : (fs_85 ad i x)[2]? = some (va_rf (ro ad 10 (x 2))) := rfl
theorem fp_85_2 (cA : Nat → ClassId) (ad : Nat → Nat → Nat) (i : Nat) (x : Nat → Int32) (v : Int32) : ct cA ad 85 i (upd x 2 v) = .inr (0, (fs_85 ad i x).set 2 (va_rf (ro ad 10 v))) := rfl
theorem fg_85_3 (ad : Nat → Nat → Nat) (i : Nat) (x : Nat → Int32) : (fs_85 ad i x)[3]? = some (.int (x 3)) := rfl
theorem fp_85_3 (cA : Nat → ClassId) (ad : Nat → Nat → Nat) (i : Nat) (x : Nat → Int32) (v : Int32) : ct cA ad 85 i (upd x 3 v) = .inr (0, (fs_85 ad i x).set 3 (.int v)) := rfl
theorem fg_85_4 (ad : Nat → Nat → Nat) (i : Nat) (x : Nat → Int32) : (fs_85 ad i x)[4]? = some (.int (x 4)) := rfl
theorem fp_85_4 (cA : Nat → ClassId) (ad : Nat → Nat → Nat) (i : Nat) (x : Nat → Int32) (v : Int32) : ct cA ad 85 i (upd x 4 v) = .inr (0, (fs_85 ad i x).set 4 (.int v)) := rfl
theorem fg_86_0 (ad : Nat → Nat → Nat) (i : Nat) (x : Nat → Int32) : (fs_86 ad i x)[0]? = some (.int (x 0)) := rfl
theorem fp_86_0 (cA : Nat → ClassId) (ad : Nat → Nat → Nat) (i : Nat) (x : Nat → Int32) (v : Int32) : ct cA ad 86 i (upd x 0 v) = .inr (5, (fs_86 ad i x).set 0 (.int v)) := rfl
theorem fg_86_1 (ad : Nat → Nat → Nat) (i : Nat) (x : Nat → Int32) : (fs_86 ad i x)[1]? = some (va_rf (ro ad 13 (x 1))) := rfl
theorem fp_86_1 (cA : Nat → ClassId) (ad : Nat → Nat → Nat) (i : Nat) (x : Nat → Int32) (v : Int32) : ct cA ad 86 i (upd x 1 v) = .inr (5, (fs_86 ad i x).set 1 (va_rf (ro ad 13 v))) := rfl
theorem fg_86_2 (ad : Nat → Nat → Nat) (i : Nat) (x : Nat → Int32) : (fs_86 ad i x)[2]? = some (.int (x 2)) := rfl
theorem fp_86_2 (cA : Nat → ClassId) (ad : Nat → Nat → Nat) (i : Nat) (x : Nat → Int32) (v : Int32) : ct cA ad 86 i (upd x 2 v) = .inr (5, (fs_86 ad i x).set 2 (.int v)) := rfl
theorem fg_86_3 (ad : Nat → Nat → Nat) (i : Nat) (x : Nat → Int32) : (fs_86 ad i x)[3]? = some (va_rf (ro ad 14 (x 3))) := rfl
theorem fp_86_3 (cA : Nat → ClassId) (ad : Nat → Nat → Nat) (i : Nat) (x : Nat → Int32) (v : Int32) : ct cA ad 86 i (upd x 3 v) = .inr (5, (fs_86 ad i x).set 3 (va_rf (ro ad 14 v))) := rfl
theorem fg_86_4 (ad : Nat → Nat → Nat) (i : Nat) (x : Nat → Int32) : (fs_86 ad i x)[4]? = some (va_rf (ro ad 14 (x 4))) := rfl
theorem fp_86_4 (cA : Nat → ClassId) (ad : Nat → Nat → Nat) (i : Nat) (x : Nat → Int32) (v : Int32) : ct cA ad 86 i (upd x 4 v) = .inr (5, (fs_86 ad i x).set 4 (va_rf (ro ad 14 v))) := rfl
theorem fg_86_5 (ad : Nat → Nat → Nat) (i : Nat) (x : Nat → Int32) : (fs_86 ad i x)[5]? = some (va_rf (ro ad 14 (x 5))) := rfl
theorem fp_86_5 (cA : Nat → ClassId) (ad : Nat → Nat → Nat) (i : Nat) (x : Nat → Int32) (v : Int32) : ct cA ad 86 i (upd x 5 v) = .inr (5, (fs_86 ad i x).set 5 (va_rf (ro ad 14 v))) := rfl
theorem fg_87_0 (ad : Nat → Nat → Nat) (i : Nat) (x : Nat → Int32) : (fs_87 ad i x)[0]? = some (.int (x 0)) := rfl
theorem fp_87_0 (cA : Nat → ClassId) (ad : Nat → Nat → Nat) (i : Nat) (x : Nat → Int32) (v : Int32) : ct cA ad 87 i (upd x 0 v) = .inr (7, (fs_87 ad i x).set 0 (.int v)) := rfl
theorem fg_87_1 (ad : Nat → Nat → Nat) (i : Nat) (x : Nat → Int32) : (fs_87 ad i x)[1]? = some (.int (x 1)) := rfl
theorem fp_87_1 (cA : Nat → ClassId) (ad : Nat → Nat → Nat) (i : Nat) (x : Nat → Int32) (v : Int32) : ct cA ad 87 i (upd x 1 v) = .inr (7, (fs_87 ad i x).set 1 (.int v)) := rfl
theorem fg_87_2 (ad : Nat → Nat → Nat) (i : Nat) (x : Nat → Int32) : (fs_87 ad i x)[2]? = some (.int (x 2)) := rfl
theorem fp_87_2 (cA : Nat → ClassId) (ad : Nat → Nat → Nat) (i : Nat) (x : Nat → Int32) (v : Int32) : ct cA ad 87 i (upd x 2 v) = .inr (7, (fs_87 ad i x).set 2 (.int v)) := rfl
theorem fg_87_3 (ad : Nat → Nat → Nat) (i : Nat) (x : Nat → Int32) : (fs_87 ad i x)[3]? = some (.int (x 3)) := rfl
theorem fp_87_3 (cA : Nat → ClassId) (ad : Nat → Nat → Nat) (i : Nat) (x : Nat → Int32) (v : Int32) : ct cA ad 87 i (upd x 3 v) = .inr (7, (fs_87 ad i x).set 3 (.int v)) := rfl
theorem fg_87_4 (ad : Nat → Nat → Nat) (i : Nat) (x : Nat → Int32) : (fs_87 ad i x)[4]? = some (va_rf (ro ad 15 (x 4))) := rfl
theorem fp_87_4 (cA : Nat → ClassId) (ad : Nat → Nat → Nat) (i : Nat) (x : Nat → Int32) (v : Int32) : ct cA ad 87 i (upd x 4 v) = .inr (7, (fs_87 ad i x).set 4 (va_rf (ro ad 15 v))) := rfl
theorem fg_87_5 (ad : Nat → Nat → Nat) (i : Nat) (x : Nat → Int32) : (fs_87 ad i x)[5]? = some (va_rf (ro ad 16 (x 5))) := rfl
theorem fp_87_5 (cA : Nat → ClassId) (ad : Nat → Nat → Nat) (i : Nat) (x : Nat → Int32) (v : Int32) : ct cA ad 87 i (upd x 5 v) = .inr (7, (fs_87 ad i x).set 5 (va_rf (ro ad 16 v))) := rfl
theorem fg_87_6 (ad : Nat → Nat → Nat) (i : Nat) (x : Nat → Int32) : (fs_87 ad i x)[6]? = some (va_rf (ro ad 17 (x 6))) := rfl
theorem fp_87_6 (cA : Nat → ClassId) (ad : Nat → Nat → Nat) (i : Nat) (x : Nat → Int32) (v : Int32) : ct cA ad 87 i (upd x 6 v) = .inr (7, (fs_87 ad i x).set 6 (va_rf (ro ad 17 v))) := rfl
theorem fg_87_7 (ad : Nat → Nat → Nat) (i : Nat) (x : Nat → Int32) : (fs_87 ad i x)[7]? = some (va_rf (ro ad 18 (x 7))) := rfl
theorem fp_87_7 (cA : Nat → ClassId) (ad : Nat → Nat → Nat) (i : Nat) (x : Nat → Int32) (v : Int32) : ct cA ad 87 i (upd x 7 v) = .inr (7, (fs_87 ad i x).set 7 (va_rf (ro ad 18 v))) := rfl
theorem fg_87_8 (ad : Nat → Nat → Nat) (i : Nat) (x : Nat → Int32) : (fs_87 ad i x)[8]? = some (.int (x 8)) := rfl
theorem fp_87_8 (cA : Nat → ClassId) (ad : Nat → Nat → Nat) (i : Nat) (x : Nat → Int32) (v : Int32) : ct cA ad 87 i (upd x 8 v) = .inr (7, (fs_87 ad i x).set 8 (.int v)) := rfl
theorem fg_87_9 (ad : Nat → Nat → Nat) (i : Nat) (x : Nat → Int32) : (fs_87 ad i x)[9]? = some (va_rf (ro ad 19 (x 9))) := rfl
theorem fp_87_9 (cA : Nat → ClassId) (ad : Nat → Nat → Nat) (i : Nat) (x : Nat → Int32) (v : Int32) : ct cA ad 87 i (upd x 9 v) = .inr (7, (fs_87 ad i x).set 9 (va_rf (ro ad 19 v))) := rfl
theorem fg_87_10 (ad : Nat → Nat → Nat) (i : Nat) (x : Nat → Int32) : (fs_87 ad i x)[10]? = some (.int (x 10)) := rfl
theorem fp_87_10 (cA : Nat → ClassId) (ad : Nat → Nat → Nat) (i : Nat) (x : Nat → Int32) (v : Int32) : ct cA ad 87 i (upd x 10 v) = .inr (7, (fs_87 ad i x).set 10 (.int v)) := rfl
theorem fg_87_11 (ad : Nat → Nat → Nat) (i : Nat) (x : Nat → Int32) : (fs_87 ad i x)[11]? = some (va_rf (ro ad 20 (x 11))) := rfl
theorem fp_87_11 (cA : Nat → ClassId) (ad : Nat → Nat → Nat) (i : Nat) (x : Nat → Int32) (v : Int32) : ct cA ad 87 i (upd x 11 v) = .inr (7, (fs_87 ad i x).set 11 (va_rf (ro ad 20 v))) := rfl
theorem fg_87_12 (ad : Nat → Nat → Nat) (i : Nat) (x : Nat → Int32) : (fs_87 ad i x)[12]? = some (va_rf (ro ad 21 (x 12))) := rfl
theorem fp_87_12 (cA : Nat → ClassId) (ad : Nat → Nat → Nat) (i : Nat) (x : Nat → Int32) (v : Int32) : ct cA ad 87 i (upd x 12 v) = .inr (7, (fs_87 ad i x).set 12 (va_rf (ro ad 21 v))) := rfl
theorem fg_88_0 (ad : Nat → Nat → Nat) (i : Nat) (x : Nat → Int32) : (fs_88 ad i x)[0]? = some (.int (x 0)) := rfl
theorem fp_88_0 (cA : Nat → ClassId) (ad : Nat → Nat → Nat) (i : Nat) (x : Nat → Int32) (v : Int32) : ct cA ad 88 i (upd x 0 v) = .inr (1, (fs_88 ad i x).set 0 (.int v)) := rfl
theorem fg_88_1 (ad : Nat → Nat → Nat) (i : Nat) (x : Nat → Int32) : (fs_88 ad i x)[1]? = some (va_rf (ro ad 12 (x 1))) := rfl
theorem fp_88_1 (cA : Nat → ClassId) (ad : Nat → Nat → Nat) (i : Nat) (x : Nat → Int32) (v : Int32) : ct cA ad 88 i (upd x 1 v) = .inr (1, (fs_88 ad i x).set 1 (va_rf (ro ad 12 v))) := rfl
theorem fg_88_2 (ad : Nat → Nat → Nat) (i : Nat) (x : Nat → Int32) : (fs_88 ad i x)[2]? = some (.int (x 2)) := rfl
theorem fp_88_2 (cA : Nat → ClassId) (ad : Nat → Nat → Nat) (i : Nat) (x : Nat → Int32) (v : Int32) : ct cA ad 88 i (upd x 2 v) = .inr (1, (fs_88 ad i x).set 2 (.int v)) := rfl
theorem fg_88_3 (ad : Nat → Nat → Nat) (i : Nat) (x : Nat → Int32) : (fs_88 ad i x)[3]? = some (.int (x 3)) := rfl
theorem fp_88_3 (cA : Nat → ClassId) (ad : Nat → Nat → Nat) (i : Nat) (x : Nat → Int32) (v : Int32) : ct cA ad 88 i (upd x 3 v) = .inr (1, (fs_88 ad i x).set 3 (.int v)) := rfl
theorem fg_88_4 (ad : Nat → Nat → Nat) (i : Nat) (x : Nat → Int32) : (fs_88 ad i x)[4]? = some (.int (x 4)) := rfl
theorem fp_88_4 (cA : Nat → ClassId) (ad : Nat → Nat → Nat) (i : Nat) (x : Nat → Int32) (v : Int32) : ct cA ad 88 i (upd x 4 v) = .inr (1, (fs_88 ad i x).set 4 (.int v)) := rfl
theorem fg_88_5 (ad : Nat → Nat → Nat) (i : Nat) (x : Nat → Int32) : (fs_88 ad i x)[5]? = some (.int (x 5)) := rfl
theorem fp_88_5 (cA : Nat → ClassId) (ad : Nat → Nat → Nat) (i : Nat) (x : Nat → Int32) (v : Int32) : ct cA ad 88 i (upd x 5 v) = .inr (1, (fs_88 ad i x).set 5 (.int v)) := rfl
theorem fg_88_6 (ad : Nat → Nat → Nat) (i : Nat) (x : Nat → Int32) : (fs_88 ad i x)[6]? = some (.int (x 6)) := rfl
theorem fp_88_6 (cA : Nat → ClassId) (ad : Nat → Nat → Nat) (i : Nat) (x : Nat → Int32) (v : Int32) : ct cA ad 88 i (upd x 6 v) = .inr (1, (fs_88 ad i x).set 6 (.int v)) := rfl
theorem fg_89_0 (ad : Nat → Nat → Nat) (i : Nat) (x : Nat → Int32) : (fs_89 ad i x)[0]? = some (va_rf (ro ad 27 (x 0))) := rfl
theorem fp_89_0 (cA : Nat → ClassId) (ad : Nat → Nat → Nat) (i : Nat) (x : Nat → Int32) (v : Int32) : ct cA ad 89 i (upd x 0 v) = .inr (8, (fs_89 ad i x).set 0 (va_rf (ro ad 27 v))) := rfl
theorem fg_89_1 (ad : Nat → Nat → Nat) (i : Nat) (x : Nat → Int32) : (fs_89 ad i x)[1]? = some (.int (x 1)) := rfl
theorem fp_89_1 (cA : Nat → ClassId) (ad : Nat → Nat → Nat) (i : Nat) (x : Nat → Int32) (v : Int32) : ct cA ad 89 i (upd x 1 v) = .inr (8, (fs_89 ad i x).set 1 (.int v)) := rfl
theorem fg_90_0 (ad : Nat → Nat → Nat) (i : Nat) (x : Nat → Int32) : (fs_90 ad i x)[0]? = some (.int (x 0)) := rfl
theorem fp_90_0 (cA : Nat → ClassId) (ad : Nat → Nat → Nat) (i : Nat) (x : Nat → Int32) (v : Int32) : ct cA ad 90 i (upd x 0 v) = .inr (6, (fs_90 ad i x).set 0 (.int v)) := rfl
theorem fg_90_1 (ad : Nat → Nat → Nat) (i : Nat) (x : Nat → Int32) : (fs_90 ad i x)[1]? = some (va_rf (ro ad 30 (x 1))) := rfl
theorem fp_90_1 (cA : Nat → ClassId) (ad : Nat → Nat → Nat) (i : Nat) (x : Nat → Int32) (v : Int32) : ct cA ad 90 i (upd x 1 v) = .inr (6, (fs_90 ad i x).set 1 (va_rf (ro ad 30 v))) := rfl
theorem fg_90_2 (ad : Nat → Nat → Nat) (i : Nat) (x : Nat → Int32) : (fs_90 ad i x)[2]? = some (va_rf (ro ad 31 (x 2))) := rfl
theorem fp_90_2 (cA : Nat → ClassId) (ad : Nat → Nat → Nat) (i : Nat) (x : Nat → Int32) (v : Int32) : ct cA ad 90 i (upd x 2 v) = .inr (6, (fs_90 ad i x).set 2 (va_rf (ro ad 31 v))) := rfl
theorem fg_90_3 (ad : Nat → Nat → Nat) (i : Nat) (x : Nat → Int32) : (fs_90 ad i x)[3]? = some (va_rf (ro ad 32 (x 3))) := rfl
theorem fp_90_3 (cA : Nat → ClassId) (ad : Nat → Nat → Nat) (i : Nat) (x : Nat → Int32) (v : Int32) : ct cA ad 90 i (upd x 3 v) = .inr (6, (fs_90 ad i x).set 3 (va_rf (ro ad 32 v))) := rfl
theorem fg_90_4 (ad : Nat → Nat → Nat) (i : Nat) (x : Nat → Int32) : (fs_90 ad i x)[4]? = some (va_rf (ro ad 33 (x 4))) := rfl
theorem fp_90_4 (cA : Nat → ClassId) (ad : Nat → Nat → Nat) (i : Nat) (x : Nat → Int32) (v : Int32) : ct cA ad 90 i (upd x 4 v) = .inr (6, (fs_90 ad i x).set 4 (va_rf (ro ad 33 v))) := rfl
theorem fg_90_5 (ad : Nat → Nat → Nat) (i : Nat) (x : Nat → Int32) : (fs_90 ad i x)[5]? = some (va_rf (ro ad 34 (x 5))) := rfl
theorem fp_90_5 (cA : Nat → ClassId) (ad : Nat → Nat → Nat) (i : Nat) (x : Nat → Int32) (v : Int32) : ct cA ad 90 i (upd x 5 v) = .inr (6, (fs_90 ad i x).set 5 (va_rf (ro ad 34 v))) := rfl
theorem fg_90_6 (ad : Nat → Nat → Nat) (i : Nat) (x : Nat → Int32) : (fs_90 ad i x)[6]? = some (va_rf (ro ad 35 (x 6))) := rfl
theorem fp_90_6 (cA : Nat → ClassId) (ad : Nat → Nat → Nat) (i : Nat) (x : Nat → Int32) (v : Int32) : ct cA ad 90 i (upd x 6 v) = .inr (6, (fs_90 ad i x).set 6 (va_rf (ro ad 35 v))) := rfl
theorem fg_90_7 (ad : Nat → Nat → Nat) (i : Nat) (x : Nat → Int32) : (fs_90 ad i x)[7]? = some (va_rf (ro ad 36 (x 7))) := rfl
theorem fp_90_7 (cA : Nat → ClassId) (ad : Nat → Nat → Nat) (i : Nat) (x : Nat → Int32) (v : Int32) : ct cA ad 90 i (upd x 7 v) = .inr (6, (fs_90 ad i x).set 7 (va_rf (ro ad 36 v))) := rfl
theorem fg_90_8 (ad : Nat → Nat → Nat) (i : Nat) (x : Nat → Int32) : (fs_90 ad i x)[8]? = some (va_rf (ro ad 37 (x 8))) := rfl
theorem fp_90_8 (cA : Nat → ClassId) (ad : Nat → Nat → Nat) (i : Nat) (x : Nat → Int32) (v : Int32) : ct cA ad 90 i (upd x 8 v) = .inr (6, (fs_90 ad i x).set 8 (va_rf (ro ad 37 v))) := rfl
theorem fg_90_9 (ad : Nat → Nat → Nat) (i : Nat) (x : Nat → Int32) : (fs_90 ad i x)[9]? = some (va_rf (ro ad 39 (x 9))) := rfl
theorem fp_90_9 (cA : Nat → ClassId) (ad : Nat → Nat → Nat) (i : Nat) (x : Nat → Int32) (v : Int32) : ct cA ad 90 i (upd x 9 v) = .inr (6, (fs_90 ad i x).set 9 (va_rf (ro ad 39 v))) := rfl
theorem fg_91_0 (ad : Nat → Nat → Nat) (i : Nat) (x : Nat → Int32) : (fs_91 ad i x)[0]? = some (.int (x 0)) := rfl
theorem fp_91_0 (cA : Nat → ClassId) (ad : Nat → Nat → Nat) (i : Nat) (x : Nat → Int32) (v : Int32) : ct cA ad 91 i (upd x 0 v) = .inr (4, (fs_91 ad i x).set 0 (.int v)) := rfl
theorem fg_91_1 (ad : Nat → Nat → Nat) (i : Nat) (x : Nat → Int32) : (fs_91 ad i x)[1]? = some (.int (x 1)) := rfl
theorem fp_91_1 (cA : Nat → ClassId) (ad : Nat → Nat → Nat) (i : Nat) (x : Nat → Int32) (v : Int32) : ct cA ad 91 i (upd x 1 v) = .inr (4, (fs_91 ad i x).set 1 (.int v)) := rfl
theorem fg_91_2 (ad : Nat → Nat → Nat) (i : Nat) (x : Nat → Int32) : (fs_91 ad i x)[2]? = some (va_rf (ro ad 41 (x 2))) := rfl
theorem fp_91_2 (cA : Nat → ClassId) (ad : Nat → Nat → Nat) (i : Nat) (x : Nat → Int32) (v : Int32) : ct cA ad 91 i (upd x 2 v) = .inr (4, (fs_91 ad i x).set 2 (va_rf (ro ad 41 v))) := rfl
theorem fg_92_0 (ad : Nat → Nat → Nat) (i : Nat) (x : Nat → Int32) : (fs_92 ad i x)[0]? = some (.int (x 0)) := rfl
theorem fp_92_0 (cA : Nat → ClassId) (ad : Nat → Nat → Nat) (i : Nat) (x : Nat → Int32) (v : Int32) : ct cA ad 92 i (upd x 0 v) = .inr (10, (fs_92 ad i x).set 0 (.int v)) := rfl
theorem fg_92_1 (ad : Nat → Nat → Nat) (i : Nat) (x : Nat → Int32) : (fs_92 ad i x)[1]? = some (va_rf (ro ad 44 (x 1))) := rfl
theorem fp_92_1 (cA : Nat → ClassId) (ad : Nat → Nat → Nat) (i : Nat) (x : Nat → Int32) (v : Int32) : ct cA ad 92 i (upd x 1 v) = .inr (10, (fs_92 ad i x).set 1 (va_rf (ro ad 44 v))) := rfl
theorem fg_92_2 (ad : Nat → Nat → Nat) (i : Nat) (x : Nat → Int32) : (fs_92 ad i x)[2]? = some (va_rf (ro ad 45 (x 2))) := rfl
theorem fp_92_2 (cA : Nat → ClassId) (ad : Nat → Nat → Nat) (i : Nat) (x : Nat → Int32) (v : Int32) : ct cA ad 92 i (upd x 2 v) = .inr (10, (fs_92 ad i x).set 2 (va_rf (ro ad 45 v))) := rfl
theorem fg_92_3 (ad : Nat → Nat → Nat) (i : Nat) (x : Nat → Int32) : (fs_92 ad i x)[3]? = some (va_rf (ro ad 46 (x 3))) := rfl
theorem fp_92_3 (cA : Nat → ClassId) (ad : Nat → Nat → Nat) (i : Nat) (x : Nat → Int32) (v : Int32) : ct cA ad 92 i (upd x 3 v) = .inr (10, (fs_92 ad i x).set 3 (va_rf (ro ad 46 v))) := rfl
theorem fg_92_4 (ad : Nat → Nat → Nat) (i : Nat) (x : Nat → Int32) : (fs_92 ad i x)[4]? = some (va_rf (ro ad 47 (x 4))) := rfl
theorem fp_92_4 (cA : Nat → ClassId) (ad : Nat → Nat → Nat) (i : Nat) (x : Nat → Int32) (v : Int32) : ct cA ad 92 i (upd x 4 v) = .inr (10, (fs_92 ad i x).set 4 (va_rf (ro ad 47 v))) := rfl
theorem fg_92_5 (ad : Nat → Nat → Nat) (i : Nat) (x : Nat → Int32) : (fs_92 ad i x)[5]? = some (va_rf (ro ad 48 (x 5))) := rfl
theorem fp_92_5 (cA : Nat → ClassId) (ad : Nat → Nat → Nat) (i : Nat) (x : Nat → Int32) (v : Int32) : ct cA ad 92 i (upd x 5 v) = .inr (10, (fs_92 ad i x).set 5 (va_rf (ro ad 48 v))) := rfl
theorem fg_92_6 (ad : Nat → Nat → Nat) (i : Nat) (x : Nat → Int32) : (fs_92 ad i x)[6]? = some (va_rf (ro ad 49 (x 6))) := rfl
theorem fp_92_6 (cA : Nat → ClassId) (ad : Nat → Nat → Nat) (i : Nat) (x : Nat → Int32) (v : Int32) : ct cA ad 92 i (upd x 6 v) = .inr (10, (fs_92 ad i x).set 6 (va_rf (ro ad 49 v))) := rfl
theorem fg_92_7 (ad : Nat → Nat → Nat) (i : Nat) (x : Nat → Int32) : (fs_92 ad i x)[7]? = some (va_rf (ro ad 50 (x 7))) := rfl
theorem fp_92_7 (cA : Nat → ClassId) (ad : Nat → Nat → Nat) (i : Nat) (x : Nat → Int32) (v : Int32) : ct cA ad 92 i (upd x 7 v) = .inr (10, (fs_92 ad i x).set 7 (va_rf (ro ad 50 v))) := rfl
theorem fg_92_8 (ad : Nat → Nat → Nat) (i : Nat) (x : Nat → Int32) : (fs_92 ad i x)[8]? = some (va_rf (ro ad 51 (x 8))) := rfl
theorem fp_92_8 (cA : Nat → ClassId) (ad : Nat → Nat → Nat) (i : Nat) (x : Nat → Int32) (v : Int32) : ct cA ad 92 i (upd x 8 v) = .inr (10, (fs_92 ad i x).set 8 (va_rf (ro ad 51 v))) := rfl
theorem fg_92_9 (ad : Nat → Nat → Nat) (i : Nat) (x : Nat → Int32) : (fs_92 ad i x)[9]? = some (va_rf (ro ad 52 (x 9))) := rfl
theorem fp_92_9 (cA : Nat → ClassId) (ad : Nat → Nat → Nat) (i : Nat) (x : Nat → Int32) (v : Int32) : ct cA ad 92 i (upd x 9 v) = .inr (10, (fs_92 ad i x).set 9 (va_rf (ro ad 52 v))) := rfl
theorem fg_92_10 (ad : Nat → Nat → Nat) (i : Nat) (x : Nat → Int32) : (fs_92 ad i x)[10]? = some (va_rf (ro ad 53 (x 10))) := rfl
theorem fp_92_10 (cA : Nat → ClassId) (ad : Nat → Nat → Nat) (i : Nat) (x : Nat → Int32) (v : Int32) : ct cA ad 92 i (upd x 10 v) = .inr (10, (fs_92 ad i x).set 10 (va_rf (ro ad 53 v))) := rfl
theorem fg_92_11 (ad : Nat → Nat → Nat) (i : Nat) (x : Nat → Int32) : (fs_92 ad i x)[11]? = some (va_rf (ro ad 54 (x 11))) := rfl
theorem fp_92_11 (cA : Nat → ClassId) (ad : Nat → Nat → Nat) (i : Nat) (x : Nat → Int32) (v : Int32) : ct cA ad 92 i (upd x 11 v) = .inr (10, (fs_92 ad i x).set 11 (va_rf (ro ad 54 v))) := rfl
theorem fg_92_12 (ad : Nat → Nat → Nat) (i : Nat) (x : Nat → Int32) : (fs_92 ad i x)[12]? = some (va_rf (ro ad 55 (x 12))) := rfl
theorem fp_92_12 (cA : Nat → ClassId) (ad : Nat → Nat → Nat) (i : Nat) (x : Nat → Int32) (v : Int32) : ct cA ad 92 i (upd x 12 v) = .inr (10, (fs_92 ad i x).set 12 (va_rf (ro ad 55 v))) := rfl
theorem fg_92_13 (ad : Nat → Nat → Nat) (i : Nat) (x : Nat → Int32) : (fs_92 ad i x)[13]? = some (va_rf (ro ad 56 (x 13))) := rfl
theorem fp_92_13 (cA : Nat → ClassId) (ad : Nat → Nat → Nat) (i : Nat) (x : Nat → Int32) (v : Int32) : ct cA ad 92 i (upd x 13 v) = .inr (10, (fs_92 ad i x).set 13 (va_rf (ro ad 56 v))) := rfl
theorem fg_92_14 (ad : Nat → Nat → Nat) (i : Nat) (x : Nat → Int32) : (fs_92 ad i x)[14]? = some (va_rf (ro ad 57 (x 14))) := rfl
theorem fp_92_14 (cA : Nat → ClassId) (ad : Nat → Nat → Nat) (i : Nat) (x : Nat → Int32) (v : Int32) : ct cA ad 92 i (upd x 14 v) = .inr (10, (fs_92 ad i x).set 14 (va_rf (ro ad 57 v))) := rfl
theorem fg_92_15 (ad : Nat → Nat → Nat) (i : Nat) (x : Nat → Int32) : (fs_92 ad i x)[15]? = some (.int (x 15)) := rfl
theorem fp_92_15 (cA : Nat → ClassId) (ad : Nat → Nat → Nat) (i : Nat) (x : Nat → Int32) (v : Int32) : ct cA ad 92 i (upd x 15 v) = .inr (10, (fs_92 ad i x).set 15 (.int v)) := rfl
theorem fg_92_16 (ad : Nat → Nat → Nat) (i : Nat) (x : Nat → Int32) : (fs_92 ad i x)[16]? = some (va_rf (ro ad 58 (x 16))) := rfl
theorem fp_92_16 (cA : Nat → ClassId) (ad : Nat → Nat → Nat) (i : Nat) (x : Nat → Int32) (v : Int32) : ct cA ad 92 i (upd x 16 v) = .inr (10, (fs_92 ad i x).set 16 (va_rf (ro ad 58 v))) := rfl
theorem fg_92_17 (ad : Nat → Nat → Nat) (i : Nat) (x : Nat → Int32) : (fs_92 ad i x)[17]? = some (.int (x 17)) := rfl
theorem fp_92_17 (cA : Nat → ClassId) (ad : Nat → Nat → Nat) (i : Nat) (x : Nat → Int32) (v : Int32) : ct cA ad 92 i (upd x 17 v) = .inr (10, (fs_92 ad i x).set 17 (.int v)) := rfl
theorem fg_92_18 (ad : Nat → Nat → Nat) (i : Nat) (x : Nat → Int32) : (fs_92 ad i x)[18]? = some (va_rf (ro ad 59 (x 18))) := rfl
theorem fp_92_18 (cA : Nat → ClassId) (ad : Nat → Nat → Nat) (i : Nat) (x : Nat → Int32) (v : Int32) : ct cA ad 92 i (upd x 18 v) = .inr (10, (fs_92 ad i x).set 18 (va_rf (ro ad 59 v))) := rfl
theorem fg_92_19 (ad : Nat → Nat → Nat) (i : Nat) (x : Nat → Int32) : (fs_92 ad i x)[19]? = some (va_rf (ro ad 60 (x 19))) := rfl
theorem fp_92_19 (cA : Nat → ClassId) (ad : Nat → Nat → Nat) (i : Nat) (x : Nat → Int32) (v : Int32) : ct cA ad 92 i (upd x 19 v) = .inr (10, (fs_92 ad i x).set 19 (va_rf (ro ad 60 v))) := rfl
theorem fg_92_20 (ad : Nat → Nat → Nat) (i : Nat) (x : Nat → Int32) : (fs_92 ad i x)[20]? = some (.int (x 20)) := rfl
theorem fp_92_20 (cA : Nat → ClassId) (ad : Nat → Nat → Nat) (i : Nat) (x : Nat → Int32) (v : Int32) : ct cA ad 92 i (upd x 20 v) = .inr (10, (fs_92 ad i x).set 20 (.int v)) := rfl
theorem fg_92_21 (ad : Nat → Nat → Nat) (i : Nat) (x : Nat → Int32) : (fs_92 ad i x)[21]? = some (va_rf (ro ad 61 (x 21))) := rfl
theorem fp_92_21 (cA : Nat → ClassId) (ad : Nat → Nat → Nat) (i : Nat) (x : Nat → Int32) (v : Int32) : ct cA ad 92 i (upd x 21 v) = .inr (10, (fs_92 ad i x).set 21 (va_rf (ro ad 61 v))) := rfl
theorem fg_92_22 (ad : Nat → Nat → Nat) (i : Nat) (x : Nat → Int32) : (fs_92 ad i x)[22]? = some (va_rf (ro ad 62 (x 22))) := rfl
theorem fp_92_22 (cA : Nat → ClassId) (ad : Nat → Nat → Nat) (i : Nat) (x : Nat → Int32) (v : Int32) : ct cA ad 92 i (upd x 22 v) = .inr (10, (fs_92 ad i x).set 22 (va_rf (ro ad 62 v))) := rfl
theorem fg_92_23 (ad : Nat → Nat → Nat) (i : Nat) (x : Nat → Int32) : (fs_92 ad i x)[23]? = some (.int (x 23)) := rfl
theorem fp_92_23 (cA : Nat → ClassId) (ad : Nat → Nat → Nat) (i : Nat) (x : Nat → Int32) (v : Int32) : ct cA ad 92 i (upd x 23 v) = .inr (10, (fs_92 ad i x).set 23 (.int v)) := rfl
theorem fg_92_24 (ad : Nat → Nat → Nat) (i : Nat) (x : Nat → Int32) : (fs_92 ad i x)[24]? = some (va_rf (ro ad 63 (x 24))) := rfl
theorem fp_92_24 (cA : Nat → ClassId) (ad : Nat → Nat → Nat) (i : Nat) (x : Nat → Int32) (v : Int32) : ct cA ad 92 i (upd x 24 v) = .inr (10, (fs_92 ad i x).set 24 (va_rf (ro ad 63 v))) := rfl
theorem fg_92_25 (ad : Nat → Nat → Nat) (i : Nat) (x : Nat → Int32) : (fs_92 ad i x)[25]? = some (va_rf (ro ad 64 (x 25))) := rfl
theorem fp_92_25 (cA : Nat → ClassId) (ad : Nat → Nat → Nat) (i : Nat) (x : Nat → Int32) (v : Int32) : ct cA ad 92 i (upd x 25 v) = .inr (10, (fs_92 ad i x).set 25 (va_rf (ro ad 64 v))) := rfl
theorem fg_92_26 (ad : Nat → Nat → Nat) (i : Nat) (x : Nat → Int32) : (fs_92 ad i x)[26]? = some (va_rf (ro ad 65 (x 26))) := rfl
theorem fp_92_26 (cA : Nat → ClassId) (ad : Nat → Nat → Nat) (i : Nat) (x : Nat → Int32) (v : Int32) : ct cA ad 92 i (upd x 26 v) = .inr (10, (fs_92 ad i x).set 26 (va_rf (ro ad 65 v))) := rfl
theorem fg_92_27 (ad : Nat → Nat → Nat) (i : Nat) (x : Nat → Int32) : (fs_92 ad i x)[27]? = some (va_rf (ro ad 66 (x 27))) := rfl
theorem fp_92_27 (cA : Nat → ClassId) (ad : Nat → Nat → Nat) (i : Nat) (x : Nat → Int32) (v : Int32) : ct cA ad 92 i (upd x 27 v) = .inr (10, (fs_92 ad i x).set 27 (va_rf (ro ad 66 v))) := rfl
theorem fg_92_28 (ad : Nat → Nat → Nat) (i : Nat) (x : Nat → Int32) : (fs_92 ad i x)[28]? = some (va_rf (ro ad 67 (x 28))) := rfl
theorem fp_92_28 (cA : Nat → ClassId) (ad : Nat → Nat → Nat) (i : Nat) (x : Nat → Int32) (v : Int32) : ct cA ad 92 i (upd x 28 v) = .inr (10, (fs_92 ad i x).set 28 (va_rf (ro ad 67 v))) := rfl
theorem fg_92_29 (ad : Nat → Nat → Nat) (i : Nat) (x : Nat → Int32) : (fs_92 ad i x)[29]? = some (.int (x 29)) := rfl
theorem fp_92_29 (cA : Nat → ClassId) (ad : Nat → Nat → Nat) (i : Nat) (x : Nat → Int32) (v : Int32) : ct cA ad 92 i (upd x 29 v) = .inr (10, (fs_92 ad i x).set 29 (.int v)) := rfl
theorem fg_92_30 (ad : Nat → Nat → Nat) (i : Nat) (x : Nat → Int32) : (fs_92 ad i x)[30]? = some (.int (x 30)) := rfl
theorem fp_92_30 (cA : Nat → ClassId) (ad : Nat → Nat → Nat) (i : Nat) (x : Nat → Int32) (v : Int32) : ct cA ad 92 i (upd x 30 v) = .inr (10, (fs_92 ad i x).set 30 (.int v)) := rfl
theorem fg_92_31 (ad : Nat → Nat → Nat) (i : Nat) (x : Nat → Int32) : (fs_92 ad i x)[31]? = some (va_rf (ro ad 68 (x 31))) := rfl
theorem fp_92_31 (cA : Nat → ClassId) (ad : Nat → Nat → Nat) (i : Nat) (x : Nat → Int32) (v : Int32) : ct cA ad 92 i (upd x 31 v) = .inr (10, (fs_92 ad i x).set 31 (va_rf (ro ad 68 v))) := rfl
theorem fg_92_32 (ad : Nat → Nat → Nat) (i : Nat) (x : Nat → Int32) : (fs_92 ad i x)[32]? = some (va_rf (ro ad 69 (x 32))) := rfl
theorem fp_92_32 (cA : Nat → ClassId) (ad : Nat → Nat → Nat) (i : Nat) (x : Nat → Int32) (v : Int32) : ct cA ad 92 i (upd x 32 v) = .inr (10, (fs_92 ad i x).set 32 (va_rf (ro ad 69 v))) := rfl
theorem fg_92_33 (ad : Nat → Nat → Nat) (i : Nat) (x : Nat → Int32) : (fs_92 ad i x)[33]? = some (va_rf (ro ad 70 (x 33))) := rfl
theorem fp_92_33 (cA : Nat → ClassId) (ad : Nat → Nat → Nat) (i : Nat) (x : Nat → Int32) (v : Int32) : ct cA ad 92 i (upd x 33 v) = .inr (10, (fs_92 ad i x).set 33 (va_rf (ro ad 70 v))) := rfl
theorem fg_92_34 (ad : Nat → Nat → Nat) (i : Nat) (x : Nat → Int32) : (fs_92 ad i x)[34]? = some (va_rf (ro ad 71 (x 34))) := rfl
theorem fp_92_34 (cA : Nat → ClassId) (ad : Nat → Nat → Nat) (i : Nat) (x : Nat → Int32) (v : Int32) : ct cA ad 92 i (upd x 34 v) = .inr (10, (fs_92 ad i x).set 34 (va_rf (ro ad 71 v))) := rfl
theorem fg_92_35 (ad : Nat → Nat → Nat) (i : Nat) (x : Nat → Int32) : (fs_92 ad i x)[35]? = some (va_rf (ro ad 72 (x 35))) := rfl
theorem fp_92_35 (cA : Nat → ClassId) (ad : Nat → Nat → Nat) (i : Nat) (x : Nat → Int32) (v : Int32) : ct cA ad 92 i (upd x 35 v) = .inr (10, (fs_92 ad i x).set 35 (va_rf (ro ad 72 v))) := rfl
theorem fg_92_36 (ad : Nat → Nat → Nat) (i : Nat) (x : Nat → Int32) : (fs_92 ad i x)[36]? = some (va_rf (ro ad 73 (x 36))) := rfl
theorem fp_92_36 (cA : Nat → ClassId) (ad : Nat → Nat → Nat) (i : Nat) (x : Nat → Int32) (v : Int32) : ct cA ad 92 i (upd x 36 v) = .inr (10, (fs_92 ad i x).set 36 (va_rf (ro ad 73 v))) := rfl
theorem fg_92_37 (ad : Nat → Nat → Nat) (i : Nat) (x : Nat → Int32) : (fs_92 ad i x)[37]? = some (va_rf (ro ad 74 (x 37))) := rfl
theorem fp_92_37 (cA : Nat → ClassId) (ad : Nat → Nat → Nat) (i : Nat) (x : Nat → Int32) (v : Int32) : ct cA ad 92 i (upd x 37 v) = .inr (10, (fs_92 ad i x).set 37 (va_rf (ro ad 74 v))) := rfl
theorem fg_92_38 (ad : Nat → Nat → Nat) (i : Nat) (x : Nat → Int32) : (fs_92 ad i x)[38]? = some (va_rf (ro ad 75 (x 38))) := rfl
theorem fp_92_38 (cA : Nat → ClassId) (ad : Nat → Nat → Nat) (i : Nat) (x : Nat → Int32) (v : Int32) : ct cA ad 92 i (upd x 38 v) = .inr (10, (fs_92 ad i x).set 38 (va_rf (ro ad 75 v))) := rfl
theorem fg_92_39 (ad : Nat → Nat → Nat) (i : Nat) (x : Nat → Int32) : (fs_92 ad i x)[39]? = some (va_rf (ro ad 76 (x 39))) := rfl
theorem fp_92_39 (cA : Nat → ClassId) (ad : Nat → Nat → Nat) (i : Nat) (x : Nat → Int32) (v : Int32) : ct cA ad 92 i (upd x 39 v) = .inr (10, (fs_92 ad i x).set 39 (va_rf (ro ad 76 v))) := rfl
theorem fg_92_40 (ad : Nat → Nat → Nat) (i : Nat) (x : Nat → Int32) : (fs_92 ad i x)[40]? = some (.int (x 40)) := rfl
theorem fp_92_40 (cA : Nat → ClassId) (ad : Nat → Nat → Nat) (i : Nat) (x : Nat → Int32) (v : Int32) : ct cA ad 92 i (upd x 40 v) = .inr (10, (fs_92 ad i x).set 40 (.int v)) := rfl
theorem fg_92_41 (ad : Nat → Nat → Nat) (i : Nat) (x : Nat → Int32) : (fs_92 ad i x)[41]? = some (va_rf (ro ad 77 (x 41))) := rfl
theorem fp_92_41 (cA : Nat → ClassId) (ad : Nat → Nat → Nat) (i : Nat) (x : Nat → Int32) (v : Int32) : ct cA ad 92 i (upd x 41 v) = .inr (10, (fs_92 ad i x).set 41 (va_rf (ro ad 77 v))) := rfl
theorem fg_92_42 (ad : Nat → Nat → Nat) (i : Nat) (x : Nat → Int32) : (fs_92 ad i x)[42]? = some (.int (x 42)) := rfl
theorem fp_92_42 (cA : Nat → ClassId) (ad : Nat → Nat → Nat) (i : Nat) (x : Nat → Int32) (v : Int32) : ct cA ad 92 i (upd x 42 v) = .inr (10, (fs_92 ad i x).set 42 (.int v)) := rfl
theorem fg_92_43 (ad : Nat → Nat → Nat) (i : Nat) (x : Nat → Int32) : (fs_92 ad i x)[43]? = some (va_rf (ro ad 78 (x 43))) := rfl
theorem fp_92_43 (cA : Nat → ClassId) (ad : Nat → Nat → Nat) (i : Nat) (x : Nat → Int32) (v : Int32) : ct cA ad 92 i (upd x 43 v) = .inr (10, (fs_92 ad i x).set 43 (va_rf (ro ad 78 v))) := rfl
theorem fg_92_44 (ad : Nat → Nat → Nat) (i : Nat) (x : Nat → Int32) : (fs_92 ad i x)[44]? = some (va_rf (ro ad 79 (x 44))) := rfl
theorem fp_92_44 (cA : Nat → ClassId) (ad : Nat → Nat → Nat) (i : Nat) (x : Nat → Int32) (v : Int32) : ct cA ad 92 i (upd x 44 v) = .inr (10, (fs_92 ad i x).set 44 (va_rf (ro ad 79 v))) := rfl
theorem fg_92_45 (ad : Nat → Nat → Nat) (i : Nat) (x : Nat → Int32) : (fs_92 ad i x)[45]? = some (va_rf (ro ad 80 (x 45))) := rfl
theorem fp_92_45 (cA : Nat → ClassId) (ad : Nat → Nat → Nat) (i : Nat) (x : Nat → Int32) (v : Int32) : ct cA ad 92 i (upd x 45 v) = .inr (10, (fs_92 ad i x).set 45 (va_rf (ro ad 80 v))) := rfl
theorem fg_92_46 (ad : Nat → Nat → Nat) (i : Nat) (x : Nat → Int32) : (fs_92 ad i x)[46]? = some (.int (x 46)) := rfl
theorem fp_92_46 (cA : Nat → ClassId) (ad : Nat → Nat → Nat) (i : Nat) (x : Nat → Int32) (v : Int32) : ct cA ad 92 i (upd x 46 v) = .inr (10, (fs_92 ad i x).set 46 (.int v)) := rfl
def gtys (cA : Nat → ClassId) : List (ClassId × FieldType) := [(cA 0, .int), (cA 1, .boolean), (cA 2, .object "Undertext$Cell"), (cA 3, .object "Undertext$Fact"), (cA 4, .object "Undertext$Leaf"), (cA 5, .object "Undertext$Quire"), (cA 6, .object "Undertext$Text"), (cA 7, .array .int)]
/-- the cells that a cell always refers to -/
def gsr (K i : Nat) : List (Nat × Nat) := match K with
  | 0 => [(1, 0), (4, 0), (11, 0), (22, 0), (24, 0), (25, 0), (28, 0), (29, 0), (40, 0), (42, 0)]
  | 1 => [(2, 0), (3, 0)]
  | 5 => [(6, i)]
  | 7 => [(8, i), (9, i), (10, i)]
  | 12 => [(13, i), (14, (3 * i)), (14, (3 * i + 1)), (14, (3 * i + 2))]
  | 14 => [(15, i), (16, i), (17, i), (18, i), (20, i), (21, i)]
  | 26 => [(27, i)]
  | 29 => [(30, 0), (31, 0), (32, 0), (33, 0), (34, 0), (35, 0), (36, 0), (37, 0), (39, 0)]
  | 37 => (List.range 9).map (fun j => (38, j))
  | 40 => [(41, 0)]
  | 43 => [(44, 0), (45, 0), (46, 0), (47, 0), (48, 0), (49, 0), (50, 0), (51, 0), (52, 0), (53, 0), (54, 0), (55, 0), (56, 0), (57, 0), (58, 0), (59, 0), (60, 0), (61, 0), (62, 0), (63, 0), (64, 0), (65, 0), (66, 0), (67, 0), (68, 0), (69, 0), (70, 0), (71, 0), (72, 0), (73, 0), (74, 0), (75, 0), (76, 0), (77, 0), (78, 0), (79, 0), (80, 0)]
  | _ => []
def gWf (NL : List (Nat × Nat)) : Prop := ∀ (K i : Nat) (q : Nat × Nat), (K, i) ∈ NL → q ∈ gsr K i → q ∈ NL
theorem gs_0_0 {NL : List (Nat × Nat)} {i : Nat} (hW : gWf NL) (h : (0, i) ∈ NL) : (1, 0) ∈ NL := hW 0 i _ h (List.mem_of_getElem? (i := 0) rfl)
theorem gs_0_1 {NL : List (Nat × Nat)} {i : Nat} (hW : gWf NL) (h : (0, i) ∈ NL) : (4, 0) ∈ NL := hW 0 i _ h (List.mem_of_getElem? (i := 1) rfl)
theorem gs_0_3 {NL : List (Nat × Nat)} {i : Nat} (hW : gWf NL) (h : (0, i) ∈ NL) : (11, 0) ∈ NL := hW 0 i _ h (List.mem_of_getElem? (i := 2) rfl)
theorem gs_0_4 {NL : List (Nat × Nat)} {i : Nat} (hW : gWf NL) (h : (0, i) ∈ NL) : (22, 0) ∈ NL := hW 0 i _ h (List.mem_of_getElem? (i := 3) rfl)
theorem gs_0_6 {NL : List (Nat × Nat)} {i : Nat} (hW : gWf NL) (h : (0, i) ∈ NL) : (24, 0) ∈ NL := hW 0 i _ h (List.mem_of_getElem? (i := 4) rfl)
theorem gs_0_8 {NL : List (Nat × Nat)} {i : Nat} (hW : gWf NL) (h : (0, i) ∈ NL) : (25, 0) ∈ NL := hW 0 i _ h (List.mem_of_getElem? (i := 5) rfl)
theorem gs_0_10 {NL : List (Nat × Nat)} {i : Nat} (hW : gWf NL) (h : (0, i) ∈ NL) : (28, 0) ∈ NL := hW 0 i _ h (List.mem_of_getElem? (i := 6) rfl)
theorem gs_0_12 {NL : List (Nat × Nat)} {i : Nat} (hW : gWf NL) (h : (0, i) ∈ NL) : (29, 0) ∈ NL := hW 0 i _ h (List.mem_of_getElem? (i := 7) rfl)
theorem gs_0_13 {NL : List (Nat × Nat)} {i : Nat} (hW : gWf NL) (h : (0, i) ∈ NL) : (40, 0) ∈ NL := hW 0 i _ h (List.mem_of_getElem? (i := 8) rfl)
theorem gs_0_14 {NL : List (Nat × Nat)} {i : Nat} (hW : gWf NL) (h : (0, i) ∈ NL) : (42, 0) ∈ NL := hW 0 i _ h (List.mem_of_getElem? (i := 9) rfl)
theorem gs_1_0 {NL : List (Nat × Nat)} {i : Nat} (hW : gWf NL) (h : (1, i) ∈ NL) : (2, 0) ∈ NL := hW 1 i _ h (List.mem_of_getElem? (i := 0) rfl)
theorem gs_1_1 {NL : List (Nat × Nat)} {i : Nat} (hW : gWf NL) (h : (1, i) ∈ NL) : (3, 0) ∈ NL := hW 1 i _ h (List.mem_of_getElem? (i := 1) rfl)
theorem gs_5_4 {NL : List (Nat × Nat)} {i : Nat} (hW : gWf NL) (h : (5, i) ∈ NL) : (6, i) ∈ NL := hW 5 i _ h (List.mem_of_getElem? (i := 0) rfl)
theorem gs_7_0 {NL : List (Nat × Nat)} {i : Nat} (hW : gWf NL) (h : (7, i) ∈ NL) : (8, i) ∈ NL := hW 7 i _ h (List.mem_of_getElem? (i := 0) rfl)
theorem gs_7_1 {NL : List (Nat × Nat)} {i : Nat} (hW : gWf NL) (h : (7, i) ∈ NL) : (9, i) ∈ NL := hW 7 i _ h (List.mem_of_getElem? (i := 1) rfl)
theorem gs_7_2 {NL : List (Nat × Nat)} {i : Nat} (hW : gWf NL) (h : (7, i) ∈ NL) : (10, i) ∈ NL := hW 7 i _ h (List.mem_of_getElem? (i := 2) rfl)
theorem gs_12_1 {NL : List (Nat × Nat)} {i : Nat} (hW : gWf NL) (h : (12, i) ∈ NL) : (13, i) ∈ NL := hW 12 i _ h (List.mem_of_getElem? (i := 0) rfl)
theorem gs_12_3 {NL : List (Nat × Nat)} {i : Nat} (hW : gWf NL) (h : (12, i) ∈ NL) : (14, (3 * i)) ∈ NL := hW 12 i _ h (List.mem_of_getElem? (i := 1) rfl)
theorem gs_12_4 {NL : List (Nat × Nat)} {i : Nat} (hW : gWf NL) (h : (12, i) ∈ NL) : (14, (3 * i + 1)) ∈ NL := hW 12 i _ h (List.mem_of_getElem? (i := 2) rfl)
theorem gs_12_5 {NL : List (Nat × Nat)} {i : Nat} (hW : gWf NL) (h : (12, i) ∈ NL) : (14, (3 * i + 2)) ∈ NL := hW 12 i _ h (List.mem_of_getElem? (i := 3) rfl)
theorem gs_14_4 {NL : List (Nat × Nat)} {i : Nat} (hW : gWf NL) (h : (14, i) ∈ NL) : (15, i) ∈ NL := hW 14 i _ h (List.mem_of_getElem? (i := 0) rfl)
theorem gs_14_5 {NL : List (Nat × Nat)} {i : Nat} (hW : gWf NL) (h : (14, i) ∈ NL) : (16, i) ∈ NL := hW 14 i _ h (List.mem_of_getElem? (i := 1) rfl)
theorem gs_14_6 {NL : List (Nat × Nat)} {i : Nat} (hW : gWf NL) (h : (14, i) ∈ NL) : (17, i) ∈ NL := hW 14 i _ h (List.mem_of_getElem? (i := 2) rfl)
theorem gs_14_7 {NL : List (Nat × Nat)} {i : Nat} (hW : gWf NL) (h : (14, i) ∈ NL) : (18, i) ∈ NL := hW 14 i _ h (List.mem_of_getElem? (i := 3) rfl)
theorem gs_14_11 {NL : List (Nat × Nat)} {i : Nat} (hW : gWf NL) (h : (14, i) ∈ NL) : (20, i) ∈ NL := hW 14 i _ h (List.mem_of_getElem? (i := 4) rfl)
theorem gs_14_12 {NL : List (Nat × Nat)} {i : Nat} (hW : gWf NL) (h : (14, i) ∈ NL) : (21, i) ∈ NL := hW 14 i _ h (List.mem_of_getElem? (i := 5) rfl)
theorem gs_26_0 {NL : List (Nat × Nat)} {i : Nat} (hW : gWf NL) (h : (26, i) ∈ NL) : (27, i) ∈ NL := hW 26 i _ h (List.mem_of_getElem? (i := 0) rfl)
theorem gs_29_1 {NL : List (Nat × Nat)} {i : Nat} (hW : gWf NL) (h : (29, i) ∈ NL) : (30, 0) ∈ NL := hW 29 i _ h (List.mem_of_getElem? (i := 0) rfl)
theorem gs_29_2 {NL : List (Nat × Nat)} {i : Nat} (hW : gWf NL) (h : (29, i) ∈ NL) : (31, 0) ∈ NL := hW 29 i _ h (List.mem_of_getElem? (i := 1) rfl)
theorem gs_29_3 {NL : List (Nat × Nat)} {i : Nat} (hW : gWf NL) (h : (29, i) ∈ NL) : (32, 0) ∈ NL := hW 29 i _ h (List.mem_of_getElem? (i := 2) rfl)
theorem gs_29_4 {NL : List (Nat × Nat)} {i : Nat} (hW : gWf NL) (h : (29, i) ∈ NL) : (33, 0) ∈ NL := hW 29 i _ h (List.mem_of_getElem? (i := 3) rfl)
theorem gs_29_5 {NL : List (Nat × Nat)} {i : Nat} (hW : gWf NL) (h : (29, i) ∈ NL) : (34, 0) ∈ NL := hW 29 i _ h (List.mem_of_getElem? (i := 4) rfl)
theorem gs_29_6 {NL : List (Nat × Nat)} {i : Nat} (hW : gWf NL) (h : (29, i) ∈ NL) : (35, 0) ∈ NL := hW 29 i _ h (List.mem_of_getElem? (i := 5) rfl)
theorem gs_29_7 {NL : List (Nat × Nat)} {i : Nat} (hW : gWf NL) (h : (29, i) ∈ NL) : (36, 0) ∈ NL := hW 29 i _ h (List.mem_of_getElem? (i := 6) rfl)
theorem gs_29_8 {NL : List (Nat × Nat)} {i : Nat} (hW : gWf NL) (h : (29, i) ∈ NL) : (37, 0) ∈ NL := hW 29 i _ h (List.mem_of_getElem? (i := 7) rfl)
theorem gs_29_9 {NL : List (Nat × Nat)} {i : Nat} (hW : gWf NL) (h : (29, i) ∈ NL) : (39, 0) ∈ NL := hW 29 i _ h (List.mem_of_getElem? (i := 8) rfl)
theorem gsA_37 {NL : List (Nat × Nat)} {i j : Nat} {v : Int32} (hW : gWf NL) (h : (37, i) ∈ NL) (hj : gIn v 9 j) : (38, j) ∈ NL := hW 37 i _ h (List.mem_map.mpr ⟨j, List.mem_range.mpr (hj.2 ▸ Nat.not_le.mp (fun q => hj.1 (Or.inr q))), rfl⟩)
theorem gs_40_2 {NL : List (Nat × Nat)} {i : Nat} (hW : gWf NL) (h : (40, i) ∈ NL) : (41, 0) ∈ NL := hW 40 i _ h (List.mem_of_getElem? (i := 0) rfl)
theorem gs_43_1 {NL : List (Nat × Nat)} {i : Nat} (hW : gWf NL) (h : (43, i) ∈ NL) : (44, 0) ∈ NL := hW 43 i _ h (List.mem_of_getElem? (i := 0) rfl)
theorem gs_43_2 {NL : List (Nat × Nat)} {i : Nat} (hW : gWf NL) (h : (43, i) ∈ NL) : (45, 0) ∈ NL := hW 43 i _ h (List.mem_of_getElem? (i := 1) rfl)
theorem gs_43_3 {NL : List (Nat × Nat)} {i : Nat} (hW : gWf NL) (h : (43, i) ∈ NL) : (46, 0) ∈ NL := hW 43 i _ h (List.mem_of_getElem? (i := 2) rfl)
theorem gs_43_4 {NL : List (Nat × Nat)} {i : Nat} (hW : gWf NL) (h : (43, i) ∈ NL) : (47, 0) ∈ NL := hW 43 i _ h (List.mem_of_getElem? (i := 3) rfl)
theorem gs_43_5 {NL : List (Nat × Nat)} {i : Nat} (hW : gWf NL) (h : (43, i) ∈ NL) : (48, 0) ∈ NL := hW 43 i _ h (List.mem_of_getElem? (i := 4) rfl)
theorem gs_43_6 {NL : List (Nat × Nat)} {i : Nat} (hW : gWf NL) (h : (43, i) ∈ NL) : (49, 0) ∈ NL := hW 43 i _ h (List.mem_of_getElem? (i := 5) rfl)
theorem gs_43_7 {NL : List (Nat × Nat)} {i : Nat} (hW : gWf NL) (h : (43, i) ∈ NL) : (50, 0) ∈ NL := hW 43 i _ h (List.mem_of_getElem? (i := 6) rfl)
theorem gs_43_8 {NL : List (Nat × Nat)} {i : Nat} (hW : gWf NL) (h : (43, i) ∈ NL) : (51, 0) ∈ NL := hW 43 i _ h (List.mem_of_getElem? (i := 7) rfl)
theorem gs_43_9 {NL : List (Nat × Nat)} {i : Nat} (hW : gWf NL) (h : (43, i) ∈ NL) : (52, 0) ∈ NL := hW 43 i _ h (List.mem_of_getElem? (i := 8) rfl)
theorem gs_43_10 {NL : List (Nat × Nat)} {i : Nat} (hW : gWf NL) (h : (43, i) ∈ NL) : (53, 0) ∈ NL := hW 43 i _ h (List.mem_of_getElem? (i := 9) rfl)
theorem gs_43_11 {NL : List (Nat × Nat)} {i : Nat} (hW : gWf NL) (h : (43, i) ∈ NL) : (54, 0) ∈ NL := hW 43 i _ h (List.mem_of_getElem? (i := 10) rfl)
theorem gs_43_12 {NL : List (Nat × Nat)} {i : Nat} (hW : gWf NL) (h : (43, i) ∈ NL) : (55, 0) ∈ NL := hW 43 i _ h (List.mem_of_getElem? (i := 11) rfl)
theorem gs_43_13 {NL : List (Nat × Nat)} {i : Nat} (hW : gWf NL) (h : (43, i) ∈ NL) : (56, 0) ∈ NL := hW 43 i _ h (List.mem_of_getElem? (i := 12) rfl)
theorem gs_43_14 {NL : List (Nat × Nat)} {i : Nat} (hW : gWf NL) (h : (43, i) ∈ NL) : (57, 0) ∈ NL := hW 43 i _ h (List.mem_of_getElem? (i := 13) rfl)
theorem gs_43_16 {NL : List (Nat × Nat)} {i : Nat} (hW : gWf NL) (h : (43, i) ∈ NL) : (58, 0) ∈ NL := hW 43 i _ h (List.mem_of_getElem? (i := 14) rfl)
theorem gs_43_18 {NL : List (Nat × Nat)} {i : Nat} (hW : gWf NL) (h : (43, i) ∈ NL) : (59, 0) ∈ NL := hW 43 i _ h (List.mem_of_getElem? (i := 15) rfl)
theorem gs_43_19 {NL : List (Nat × Nat)} {i : Nat} (hW : gWf NL) (h : (43, i) ∈ NL) : (60, 0) ∈ NL := hW 43 i _ h (List.mem_of_getElem? (i := 16) rfl)
theorem gs_43_21 {NL : List (Nat × Nat)} {i : Nat} (hW : gWf NL) (h : (43, i) ∈ NL) : (61, 0) ∈ NL := hW 43 i _ h (List.mem_of_getElem? (i := 17) rfl)
theorem gs_43_22 {NL : List (Nat × Nat)} {i : Nat} (hW : gWf NL) (h : (43, i) ∈ NL) : (62, 0) ∈ NL := hW 43 i _ h (List.mem_of_getElem? (i := 18) rfl)
theorem gs_43_24 {NL : List (Nat × Nat)} {i : Nat} (hW : gWf NL) (h : (43, i) ∈ NL) : (63, 0) ∈ NL := hW 43 i _ h (List.mem_of_getElem? (i := 19) rfl)
theorem gs_43_25 {NL : List (Nat × Nat)} {i : Nat} (hW : gWf NL) (h : (43, i) ∈ NL) : (64, 0) ∈ NL := hW 43 i _ h (List.mem_of_getElem? (i := 20) rfl)
theorem gs_43_26 {NL : List (Nat × Nat)} {i : Nat} (hW : gWf NL) (h : (43, i) ∈ NL) : (65, 0) ∈ NL := hW 43 i _ h (List.mem_of_getElem? (i := 21) rfl)
theorem gs_43_27 {NL : List (Nat × Nat)} {i : Nat} (hW : gWf NL) (h : (43, i) ∈ NL) : (66, 0) ∈ NL := hW 43 i _ h (List.mem_of_getElem? (i := 22) rfl)
theorem gs_43_28 {NL : List (Nat × Nat)} {i : Nat} (hW : gWf NL) (h : (43, i) ∈ NL) : (67, 0) ∈ NL := hW 43 i _ h (List.mem_of_getElem? (i := 23) rfl)
theorem gs_43_31 {NL : List (Nat × Nat)} {i : Nat} (hW : gWf NL) (h : (43, i) ∈ NL) : (68, 0) ∈ NL := hW 43 i _ h (List.mem_of_getElem? (i := 24) rfl)
theorem gs_43_32 {NL : List (Nat × Nat)} {i : Nat} (hW : gWf NL) (h : (43, i) ∈ NL) : (69, 0) ∈ NL := hW 43 i _ h (List.mem_of_getElem? (i := 25) rfl)
theorem gs_43_33 {NL : List (Nat × Nat)} {i : Nat} (hW : gWf NL) (h : (43, i) ∈ NL) : (70, 0) ∈ NL := hW 43 i _ h (List.mem_of_getElem? (i := 26) rfl)
theorem gs_43_34 {NL : List (Nat × Nat)} {i : Nat} (hW : gWf NL) (h : (43, i) ∈ NL) : (71, 0) ∈ NL := hW 43 i _ h (List.mem_of_getElem? (i := 27) rfl)
theorem gs_43_35 {NL : List (Nat × Nat)} {i : Nat} (hW : gWf NL) (h : (43, i) ∈ NL) : (72, 0) ∈ NL := hW 43 i _ h (List.mem_of_getElem? (i := 28) rfl)
theorem gs_43_36 {NL : List (Nat × Nat)} {i : Nat} (hW : gWf NL) (h : (43, i) ∈ NL) : (73, 0) ∈ NL := hW 43 i _ h (List.mem_of_getElem? (i := 29) rfl)
theorem gs_43_37 {NL : List (Nat × Nat)} {i : Nat} (hW : gWf NL) (h : (43, i) ∈ NL) : (74, 0) ∈ NL := hW 43 i _ h (List.mem_of_getElem? (i := 30) rfl)
theorem gs_43_38 {NL : List (Nat × Nat)} {i : Nat} (hW : gWf NL) (h : (43, i) ∈ NL) : (75, 0) ∈ NL := hW 43 i _ h (List.mem_of_getElem? (i := 31) rfl)
theorem gs_43_39 {NL : List (Nat × Nat)} {i : Nat} (hW : gWf NL) (h : (43, i) ∈ NL) : (76, 0) ∈ NL := hW 43 i _ h (List.mem_of_getElem? (i := 32) rfl)
theorem gs_43_41 {NL : List (Nat × Nat)} {i : Nat} (hW : gWf NL) (h : (43, i) ∈ NL) : (77, 0) ∈ NL := hW 43 i _ h (List.mem_of_getElem? (i := 33) rfl)
theorem gs_43_43 {NL : List (Nat × Nat)} {i : Nat} (hW : gWf NL) (h : (43, i) ∈ NL) : (78, 0) ∈ NL := hW 43 i _ h (List.mem_of_getElem? (i := 34) rfl)
theorem gs_43_44 {NL : List (Nat × Nat)} {i : Nat} (hW : gWf NL) (h : (43, i) ∈ NL) : (79, 0) ∈ NL := hW 43 i _ h (List.mem_of_getElem? (i := 35) rfl)
theorem gs_43_45 {NL : List (Nat × Nat)} {i : Nat} (hW : gWf NL) (h : (43, i) ∈ NL) : (80, 0) ∈ NL := hW 43 i _ h (List.mem_of_getElem? (i := 36) rfl)
theorem gsmr {NL : List (Nat × Nat)} {ad : Nat → Nat → Nat} {i j : Nat} {v : Int32} (h : gRf NL 13 v j) : gsm ad i v = .ref (ad 13 j) := by rw [gsm_ref h.1, h.2.1]
theorem gsmw {ad : Nat → Nat → Nat} {i j : Nat} {w : Int32} (h : ¬ w < 0 ∧ w.toNatClampNeg = j) : gsm ad i w = .ref (ad 13 j) := by rw [gsm_ref h.1, h.2]
