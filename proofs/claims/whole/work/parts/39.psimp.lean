/-! numbers, small words for simp, bits of a law -/
theorem q_lt_0 {n : Nat} (h : n < 2 ^ 31) : nI n < (0 : Int32) ↔ n < 0 := nI_ltI (b := 0) h (by omega)
theorem q_le_0 {n : Nat} (h : n < 2 ^ 31) : nI n ≤ (0 : Int32) ↔ n ≤ 0 := nI_leI (b := 0) h (by omega)
theorem q_gt_0 {n : Nat} (h : n < 2 ^ 31) : (0 : Int32) < nI n ↔ 0 < n := nI_ltI (a := 0) (by omega) h
theorem q_ge_0 {n : Nat} (h : n < 2 ^ 31) : (0 : Int32) ≤ nI n ↔ 0 ≤ n := nI_leI (a := 0) (by omega) h
theorem q_eq_0 {n : Nat} (h : n < 2 ^ 31) : nI n = (0 : Int32) ↔ n = 0 := nI_eq (b := 0) h (by omega)
theorem q_lt_1 {n : Nat} (h : n < 2 ^ 31) : nI n < (1 : Int32) ↔ n < 1 := nI_ltI (b := 1) h (by omega)
theorem q_le_1 {n : Nat} (h : n < 2 ^ 31) : nI n ≤ (1 : Int32) ↔ n ≤ 1 := nI_leI (b := 1) h (by omega)
theorem q_gt_1 {n : Nat} (h : n < 2 ^ 31) : (1 : Int32) < nI n ↔ 1 < n := nI_ltI (a := 1) (by omega) h
theorem q_ge_1 {n : Nat} (h : n < 2 ^ 31) : (1 : Int32) ≤ nI n ↔ 1 ≤ n := nI_leI (a := 1) (by omega) h
theorem q_eq_1 {n : Nat} (h : n < 2 ^ 31) : nI n = (1 : Int32) ↔ n = 1 := nI_eq (b := 1) h (by omega)
theorem q_lt_2 {n : Nat} (h : n < 2 ^ 31) : nI n < (2 : Int32) ↔ n < 2 := nI_ltI (b := 2) h (by omega)
theorem q_le_2 {n : Nat} (h : n < 2 ^ 31) : nI n ≤ (2 : Int32) ↔ n ≤ 2 := nI_leI (b := 2) h (by omega)
theorem q_gt_2 {n : Nat} (h : n < 2 ^ 31) : (2 : Int32) < nI n ↔ 2 < n := nI_ltI (a := 2) (by omega) h
theorem q_ge_2 {n : Nat} (h : n < 2 ^ 31) : (2 : Int32) ≤ nI n ↔ 2 ≤ n := nI_leI (a := 2) (by omega) h
theorem q_eq_2 {n : Nat} (h : n < 2 ^ 31) : nI n = (2 : Int32) ↔ n = 2 := nI_eq (b := 2) h (by omega)
theorem q_lt_3 {n : Nat} (h : n < 2 ^ 31) : nI n < (3 : Int32) ↔ n < 3 := nI_ltI (b := 3) h (by omega)
theorem q_le_3 {n : Nat} (h : n < 2 ^ 31) : nI n ≤ (3 : Int32) ↔ n ≤ 3 := nI_leI (b := 3) h (by omega)
theorem q_gt_3 {n : Nat} (h : n < 2 ^ 31) : (3 : Int32) < nI n ↔ 3 < n := nI_ltI (a := 3) (by omega) h
theorem q_ge_3 {n : Nat} (h : n < 2 ^ 31) : (3 : Int32) ≤ nI n ↔ 3 ≤ n := nI_leI (a := 3) (by omega) h
theorem q_eq_3 {n : Nat} (h : n < 2 ^ 31) : nI n = (3 : Int32) ↔ n = 3 := nI_eq (b := 3) h (by omega)
theorem q_lt_4 {n : Nat} (h : n < 2 ^ 31) : nI n < (4 : Int32) ↔ n < 4 := nI_ltI (b := 4) h (by omega)
theorem q_le_4 {n : Nat} (h : n < 2 ^ 31) : nI n ≤ (4 : Int32) ↔ n ≤ 4 := nI_leI (b := 4) h (by omega)
theorem q_gt_4 {n : Nat} (h : n < 2 ^ 31) : (4 : Int32) < nI n ↔ 4 < n := nI_ltI (a := 4) (by omega) h
theorem q_ge_4 {n : Nat} (h : n < 2 ^ 31) : (4 : Int32) ≤ nI n ↔ 4 ≤ n := nI_leI (a := 4) (by omega) h
theorem q_eq_4 {n : Nat} (h : n < 2 ^ 31) : nI n = (4 : Int32) ↔ n = 4 := nI_eq (b := 4) h (by omega)
theorem q_lt_5 {n : Nat} (h : n < 2 ^ 31) : nI n < (5 : Int32) ↔ n < 5 := nI_ltI (b := 5) h (by omega)
theorem q_le_5 {n : Nat} (h : n < 2 ^ 31) : nI n ≤ (5 : Int32) ↔ n ≤ 5 := nI_leI (b := 5) h (by omega)
theorem q_gt_5 {n : Nat} (h : n < 2 ^ 31) : (5 : Int32) < nI n ↔ 5 < n := nI_ltI (a := 5) (by omega) h
theorem q_ge_5 {n : Nat} (h : n < 2 ^ 31) : (5 : Int32) ≤ nI n ↔ 5 ≤ n := nI_leI (a := 5) (by omega) h
theorem q_eq_5 {n : Nat} (h : n < 2 ^ 31) : nI n = (5 : Int32) ↔ n = 5 := nI_eq (b := 5) h (by omega)
theorem q_lt_6 {n : Nat} (h : n < 2 ^ 31) : nI n < (6 : Int32) ↔ n < 6 := nI_ltI (b := 6) h (by omega)
theorem q_le_6 {n : Nat} (h : n < 2 ^ 31) : nI n ≤ (6 : Int32) ↔ n ≤ 6 := nI_leI (b := 6) h (by omega)
theorem q_gt_6 {n : Nat} (h : n < 2 ^ 31) : (6 : Int32) < nI n ↔ 6 < n := nI_ltI (a := 6) (by omega) h
theorem q_ge_6 {n : Nat} (h : n < 2 ^ 31) : (6 : Int32) ≤ nI n ↔ 6 ≤ n := nI_leI (a := 6) (by omega) h
theorem q_eq_6 {n : Nat} (h : n < 2 ^ 31) : nI n = (6 : Int32) ↔ n = 6 := nI_eq (b := 6) h (by omega)
theorem q_lt_7 {n : Nat} (h : n < 2 ^ 31) : nI n < (7 : Int32) ↔ n < 7 := nI_ltI (b := 7) h (by omega)
theorem q_le_7 {n : Nat} (h : n < 2 ^ 31) : nI n ≤ (7 : Int32) ↔ n ≤ 7 := nI_leI (b := 7) h (by omega)
theorem q_gt_7 {n : Nat} (h : n < 2 ^ 31) : (7 : Int32) < nI n ↔ 7 < n := nI_ltI (a := 7) (by omega) h
theorem q_ge_7 {n : Nat} (h : n < 2 ^ 31) : (7 : Int32) ≤ nI n ↔ 7 ≤ n := nI_leI (a := 7) (by omega) h
theorem q_eq_7 {n : Nat} (h : n < 2 ^ 31) : nI n = (7 : Int32) ↔ n = 7 := nI_eq (b := 7) h (by omega)
theorem q_lt_8 {n : Nat} (h : n < 2 ^ 31) : nI n < (8 : Int32) ↔ n < 8 := nI_ltI (b := 8) h (by omega)
theorem q_le_8 {n : Nat} (h : n < 2 ^ 31) : nI n ≤ (8 : Int32) ↔ n ≤ 8 := nI_leI (b := 8) h (by omega)
theorem q_gt_8 {n : Nat} (h : n < 2 ^ 31) : (8 : Int32) < nI n ↔ 8 < n := nI_ltI (a := 8) (by omega) h
theorem q_ge_8 {n : Nat} (h : n < 2 ^ 31) : (8 : Int32) ≤ nI n ↔ 8 ≤ n := nI_leI (a := 8) (by omega) h
theorem q_eq_8 {n : Nat} (h : n < 2 ^ 31) : nI n = (8 : Int32) ↔ n = 8 := nI_eq (b := 8) h (by omega)
theorem q_lt_9 {n : Nat} (h : n < 2 ^ 31) : nI n < (9 : Int32) ↔ n < 9 := nI_ltI (b := 9) h (by omega)
theorem q_le_9 {n : Nat} (h : n < 2 ^ 31) : nI n ≤ (9 : Int32) ↔ n ≤ 9 := nI_leI (b := 9) h (by omega)
theorem q_gt_9 {n : Nat} (h : n < 2 ^ 31) : (9 : Int32) < nI n ↔ 9 < n := nI_ltI (a := 9) (by omega) h
theorem q_ge_9 {n : Nat} (h : n < 2 ^ 31) : (9 : Int32) ≤ nI n ↔ 9 ≤ n := nI_leI (a := 9) (by omega) h
theorem q_eq_9 {n : Nat} (h : n < 2 ^ 31) : nI n = (9 : Int32) ↔ n = 9 := nI_eq (b := 9) h (by omega)
theorem q_lt_10 {n : Nat} (h : n < 2 ^ 31) : nI n < (10 : Int32) ↔ n < 10 := nI_ltI (b := 10) h (by omega)
theorem q_le_10 {n : Nat} (h : n < 2 ^ 31) : nI n ≤ (10 : Int32) ↔ n ≤ 10 := nI_leI (b := 10) h (by omega)
theorem q_gt_10 {n : Nat} (h : n < 2 ^ 31) : (10 : Int32) < nI n ↔ 10 < n := nI_ltI (a := 10) (by omega) h
theorem q_ge_10 {n : Nat} (h : n < 2 ^ 31) : (10 : Int32) ≤ nI n ↔ 10 ≤ n := nI_leI (a := 10) (by omega) h
theorem q_eq_10 {n : Nat} (h : n < 2 ^ 31) : nI n = (10 : Int32) ↔ n = 10 := nI_eq (b := 10) h (by omega)
theorem q_lt_11 {n : Nat} (h : n < 2 ^ 31) : nI n < (11 : Int32) ↔ n < 11 := nI_ltI (b := 11) h (by omega)
theorem q_le_11 {n : Nat} (h : n < 2 ^ 31) : nI n ≤ (11 : Int32) ↔ n ≤ 11 := nI_leI (b := 11) h (by omega)
theorem q_gt_11 {n : Nat} (h : n < 2 ^ 31) : (11 : Int32) < nI n ↔ 11 < n := nI_ltI (a := 11) (by omega) h
theorem q_ge_11 {n : Nat} (h : n < 2 ^ 31) : (11 : Int32) ≤ nI n ↔ 11 ≤ n := nI_leI (a := 11) (by omega) h
theorem q_eq_11 {n : Nat} (h : n < 2 ^ 31) : nI n = (11 : Int32) ↔ n = 11 := nI_eq (b := 11) h (by omega)
theorem q_lt_12 {n : Nat} (h : n < 2 ^ 31) : nI n < (12 : Int32) ↔ n < 12 := nI_ltI (b := 12) h (by omega)
theorem q_le_12 {n : Nat} (h : n < 2 ^ 31) : nI n ≤ (12 : Int32) ↔ n ≤ 12 := nI_leI (b := 12) h (by omega)
theorem q_gt_12 {n : Nat} (h : n < 2 ^ 31) : (12 : Int32) < nI n ↔ 12 < n := nI_ltI (a := 12) (by omega) h
theorem q_ge_12 {n : Nat} (h : n < 2 ^ 31) : (12 : Int32) ≤ nI n ↔ 12 ≤ n := nI_leI (a := 12) (by omega) h
theorem q_eq_12 {n : Nat} (h : n < 2 ^ 31) : nI n = (12 : Int32) ↔ n = 12 := nI_eq (b := 12) h (by omega)
theorem q_lt_16 {n : Nat} (h : n < 2 ^ 31) : nI n < (16 : Int32) ↔ n < 16 := nI_ltI (b := 16) h (by omega)
theorem q_le_16 {n : Nat} (h : n < 2 ^ 31) : nI n ≤ (16 : Int32) ↔ n ≤ 16 := nI_leI (b := 16) h (by omega)
theorem q_gt_16 {n : Nat} (h : n < 2 ^ 31) : (16 : Int32) < nI n ↔ 16 < n := nI_ltI (a := 16) (by omega) h
theorem q_ge_16 {n : Nat} (h : n < 2 ^ 31) : (16 : Int32) ≤ nI n ↔ 16 ≤ n := nI_leI (a := 16) (by omega) h
theorem q_eq_16 {n : Nat} (h : n < 2 ^ 31) : nI n = (16 : Int32) ↔ n = 16 := nI_eq (b := 16) h (by omega)
theorem q_lt_20 {n : Nat} (h : n < 2 ^ 31) : nI n < (20 : Int32) ↔ n < 20 := nI_ltI (b := 20) h (by omega)
theorem q_le_20 {n : Nat} (h : n < 2 ^ 31) : nI n ≤ (20 : Int32) ↔ n ≤ 20 := nI_leI (b := 20) h (by omega)
theorem q_gt_20 {n : Nat} (h : n < 2 ^ 31) : (20 : Int32) < nI n ↔ 20 < n := nI_ltI (a := 20) (by omega) h
theorem q_ge_20 {n : Nat} (h : n < 2 ^ 31) : (20 : Int32) ≤ nI n ↔ 20 ≤ n := nI_leI (a := 20) (by omega) h
theorem q_eq_20 {n : Nat} (h : n < 2 ^ 31) : nI n = (20 : Int32) ↔ n = 20 := nI_eq (b := 20) h (by omega)
theorem q_lt_30 {n : Nat} (h : n < 2 ^ 31) : nI n < (30 : Int32) ↔ n < 30 := nI_ltI (b := 30) h (by omega)
theorem q_le_30 {n : Nat} (h : n < 2 ^ 31) : nI n ≤ (30 : Int32) ↔ n ≤ 30 := nI_leI (b := 30) h (by omega)
theorem q_gt_30 {n : Nat} (h : n < 2 ^ 31) : (30 : Int32) < nI n ↔ 30 < n := nI_ltI (a := 30) (by omega) h
theorem q_ge_30 {n : Nat} (h : n < 2 ^ 31) : (30 : Int32) ≤ nI n ↔ 30 ≤ n := nI_leI (a := 30) (by omega) h
theorem q_eq_30 {n : Nat} (h : n < 2 ^ 31) : nI n = (30 : Int32) ↔ n = 30 := nI_eq (b := 30) h (by omega)
theorem q_lt_31 {n : Nat} (h : n < 2 ^ 31) : nI n < (31 : Int32) ↔ n < 31 := nI_ltI (b := 31) h (by omega)
theorem q_le_31 {n : Nat} (h : n < 2 ^ 31) : nI n ≤ (31 : Int32) ↔ n ≤ 31 := nI_leI (b := 31) h (by omega)
theorem q_gt_31 {n : Nat} (h : n < 2 ^ 31) : (31 : Int32) < nI n ↔ 31 < n := nI_ltI (a := 31) (by omega) h
theorem q_ge_31 {n : Nat} (h : n < 2 ^ 31) : (31 : Int32) ≤ nI n ↔ 31 ≤ n := nI_leI (a := 31) (by omega) h
theorem q_eq_31 {n : Nat} (h : n < 2 ^ 31) : nI n = (31 : Int32) ↔ n = 31 := nI_eq (b := 31) h (by omega)
theorem q_lt_32 {n : Nat} (h : n < 2 ^ 31) : nI n < (32 : Int32) ↔ n < 32 := nI_ltI (b := 32) h (by omega)
theorem q_le_32 {n : Nat} (h : n < 2 ^ 31) : nI n ≤ (32 : Int32) ↔ n ≤ 32 := nI_leI (b := 32) h (by omega)
theorem q_gt_32 {n : Nat} (h : n < 2 ^ 31) : (32 : Int32) < nI n ↔ 32 < n := nI_ltI (a := 32) (by omega) h
theorem q_ge_32 {n : Nat} (h : n < 2 ^ 31) : (32 : Int32) ≤ nI n ↔ 32 ≤ n := nI_leI (a := 32) (by omega) h
theorem q_eq_32 {n : Nat} (h : n < 2 ^ 31) : nI n = (32 : Int32) ↔ n = 32 := nI_eq (b := 32) h (by omega)
theorem q_lt_40 {n : Nat} (h : n < 2 ^ 31) : nI n < (40 : Int32) ↔ n < 40 := nI_ltI (b := 40) h (by omega)
theorem q_le_40 {n : Nat} (h : n < 2 ^ 31) : nI n ≤ (40 : Int32) ↔ n ≤ 40 := nI_leI (b := 40) h (by omega)
theorem q_gt_40 {n : Nat} (h : n < 2 ^ 31) : (40 : Int32) < nI n ↔ 40 < n := nI_ltI (a := 40) (by omega) h
theorem q_ge_40 {n : Nat} (h : n < 2 ^ 31) : (40 : Int32) ≤ nI n ↔ 40 ≤ n := nI_leI (a := 40) (by omega) h
theorem q_eq_40 {n : Nat} (h : n < 2 ^ 31) : nI n = (40 : Int32) ↔ n = 40 := nI_eq (b := 40) h (by omega)
theorem q_lt_48 {n : Nat} (h : n < 2 ^ 31) : nI n < (48 : Int32) ↔ n < 48 := nI_ltI (b := 48) h (by omega)
theorem q_le_48 {n : Nat} (h : n < 2 ^ 31) : nI n ≤ (48 : Int32) ↔ n ≤ 48 := nI_leI (b := 48) h (by omega)
theorem q_gt_48 {n : Nat} (h : n < 2 ^ 31) : (48 : Int32) < nI n ↔ 48 < n := nI_ltI (a := 48) (by omega) h
theorem q_ge_48 {n : Nat} (h : n < 2 ^ 31) : (48 : Int32) ≤ nI n ↔ 48 ≤ n := nI_leI (a := 48) (by omega) h
theorem q_eq_48 {n : Nat} (h : n < 2 ^ 31) : nI n = (48 : Int32) ↔ n = 48 := nI_eq (b := 48) h (by omega)
theorem q_lt_57 {n : Nat} (h : n < 2 ^ 31) : nI n < (57 : Int32) ↔ n < 57 := nI_ltI (b := 57) h (by omega)
theorem q_le_57 {n : Nat} (h : n < 2 ^ 31) : nI n ≤ (57 : Int32) ↔ n ≤ 57 := nI_leI (b := 57) h (by omega)
theorem q_gt_57 {n : Nat} (h : n < 2 ^ 31) : (57 : Int32) < nI n ↔ 57 < n := nI_ltI (a := 57) (by omega) h
theorem q_ge_57 {n : Nat} (h : n < 2 ^ 31) : (57 : Int32) ≤ nI n ↔ 57 ≤ n := nI_leI (a := 57) (by omega) h
theorem q_eq_57 {n : Nat} (h : n < 2 ^ 31) : nI n = (57 : Int32) ↔ n = 57 := nI_eq (b := 57) h (by omega)
theorem q_lt_59 {n : Nat} (h : n < 2 ^ 31) : nI n < (59 : Int32) ↔ n < 59 := nI_ltI (b := 59) h (by omega)
theorem q_le_59 {n : Nat} (h : n < 2 ^ 31) : nI n ≤ (59 : Int32) ↔ n ≤ 59 := nI_leI (b := 59) h (by omega)
theorem q_gt_59 {n : Nat} (h : n < 2 ^ 31) : (59 : Int32) < nI n ↔ 59 < n := nI_ltI (a := 59) (by omega) h
theorem q_ge_59 {n : Nat} (h : n < 2 ^ 31) : (59 : Int32) ≤ nI n ↔ 59 ≤ n := nI_leI (a := 59) (by omega) h
theorem q_eq_59 {n : Nat} (h : n < 2 ^ 31) : nI n = (59 : Int32) ↔ n = 59 := nI_eq (b := 59) h (by omega)
theorem q_lt_60 {n : Nat} (h : n < 2 ^ 31) : nI n < (60 : Int32) ↔ n < 60 := nI_ltI (b := 60) h (by omega)
theorem q_le_60 {n : Nat} (h : n < 2 ^ 31) : nI n ≤ (60 : Int32) ↔ n ≤ 60 := nI_leI (b := 60) h (by omega)
theorem q_gt_60 {n : Nat} (h : n < 2 ^ 31) : (60 : Int32) < nI n ↔ 60 < n := nI_ltI (a := 60) (by omega) h
theorem q_ge_60 {n : Nat} (h : n < 2 ^ 31) : (60 : Int32) ≤ nI n ↔ 60 ≤ n := nI_leI (a := 60) (by omega) h
theorem q_eq_60 {n : Nat} (h : n < 2 ^ 31) : nI n = (60 : Int32) ↔ n = 60 := nI_eq (b := 60) h (by omega)
theorem q_lt_64 {n : Nat} (h : n < 2 ^ 31) : nI n < (64 : Int32) ↔ n < 64 := nI_ltI (b := 64) h (by omega)
theorem q_le_64 {n : Nat} (h : n < 2 ^ 31) : nI n ≤ (64 : Int32) ↔ n ≤ 64 := nI_leI (b := 64) h (by omega)
theorem q_gt_64 {n : Nat} (h : n < 2 ^ 31) : (64 : Int32) < nI n ↔ 64 < n := nI_ltI (a := 64) (by omega) h
theorem q_ge_64 {n : Nat} (h : n < 2 ^ 31) : (64 : Int32) ≤ nI n ↔ 64 ≤ n := nI_leI (a := 64) (by omega) h
theorem q_eq_64 {n : Nat} (h : n < 2 ^ 31) : nI n = (64 : Int32) ↔ n = 64 := nI_eq (b := 64) h (by omega)
theorem q_lt_97 {n : Nat} (h : n < 2 ^ 31) : nI n < (97 : Int32) ↔ n < 97 := nI_ltI (b := 97) h (by omega)
theorem q_le_97 {n : Nat} (h : n < 2 ^ 31) : nI n ≤ (97 : Int32) ↔ n ≤ 97 := nI_leI (b := 97) h (by omega)
theorem q_gt_97 {n : Nat} (h : n < 2 ^ 31) : (97 : Int32) < nI n ↔ 97 < n := nI_ltI (a := 97) (by omega) h
theorem q_ge_97 {n : Nat} (h : n < 2 ^ 31) : (97 : Int32) ≤ nI n ↔ 97 ≤ n := nI_leI (a := 97) (by omega) h
theorem q_eq_97 {n : Nat} (h : n < 2 ^ 31) : nI n = (97 : Int32) ↔ n = 97 := nI_eq (b := 97) h (by omega)
theorem q_lt_99 {n : Nat} (h : n < 2 ^ 31) : nI n < (99 : Int32) ↔ n < 99 := nI_ltI (b := 99) h (by omega)
theorem q_le_99 {n : Nat} (h : n < 2 ^ 31) : nI n ≤ (99 : Int32) ↔ n ≤ 99 := nI_leI (b := 99) h (by omega)
theorem q_gt_99 {n : Nat} (h : n < 2 ^ 31) : (99 : Int32) < nI n ↔ 99 < n := nI_ltI (a := 99) (by omega) h
theorem q_ge_99 {n : Nat} (h : n < 2 ^ 31) : (99 : Int32) ≤ nI n ↔ 99 ≤ n := nI_leI (a := 99) (by omega) h
theorem q_eq_99 {n : Nat} (h : n < 2 ^ 31) : nI n = (99 : Int32) ↔ n = 99 := nI_eq (b := 99) h (by omega)
theorem q_lt_122 {n : Nat} (h : n < 2 ^ 31) : nI n < (122 : Int32) ↔ n < 122 := nI_ltI (b := 122) h (by omega)
theorem q_le_122 {n : Nat} (h : n < 2 ^ 31) : nI n ≤ (122 : Int32) ↔ n ≤ 122 := nI_leI (b := 122) h (by omega)
theorem q_gt_122 {n : Nat} (h : n < 2 ^ 31) : (122 : Int32) < nI n ↔ 122 < n := nI_ltI (a := 122) (by omega) h
theorem q_ge_122 {n : Nat} (h : n < 2 ^ 31) : (122 : Int32) ≤ nI n ↔ 122 ≤ n := nI_leI (a := 122) (by omega) h
theorem q_eq_122 {n : Nat} (h : n < 2 ^ 31) : nI n = (122 : Int32) ↔ n = 122 := nI_eq (b := 122) h (by omega)
theorem q_lt_250 {n : Nat} (h : n < 2 ^ 31) : nI n < (250 : Int32) ↔ n < 250 := nI_ltI (b := 250) h (by omega)
theorem q_le_250 {n : Nat} (h : n < 2 ^ 31) : nI n ≤ (250 : Int32) ↔ n ≤ 250 := nI_leI (b := 250) h (by omega)
theorem q_gt_250 {n : Nat} (h : n < 2 ^ 31) : (250 : Int32) < nI n ↔ 250 < n := nI_ltI (a := 250) (by omega) h
theorem q_ge_250 {n : Nat} (h : n < 2 ^ 31) : (250 : Int32) ≤ nI n ↔ 250 ≤ n := nI_leI (a := 250) (by omega) h
theorem q_eq_250 {n : Nat} (h : n < 2 ^ 31) : nI n = (250 : Int32) ↔ n = 250 := nI_eq (b := 250) h (by omega)
theorem q_lt_255 {n : Nat} (h : n < 2 ^ 31) : nI n < (255 : Int32) ↔ n < 255 := nI_ltI (b := 255) h (by omega)
theorem q_le_255 {n : Nat} (h : n < 2 ^ 31) : nI n ≤ (255 : Int32) ↔ n ≤ 255 := nI_leI (b := 255) h (by omega)
theorem q_gt_255 {n : Nat} (h : n < 2 ^ 31) : (255 : Int32) < nI n ↔ 255 < n := nI_ltI (a := 255) (by omega) h
theorem q_ge_255 {n : Nat} (h : n < 2 ^ 31) : (255 : Int32) ≤ nI n ↔ 255 ≤ n := nI_leI (a := 255) (by omega) h
theorem q_eq_255 {n : Nat} (h : n < 2 ^ 31) : nI n = (255 : Int32) ↔ n = 255 := nI_eq (b := 255) h (by omega)
theorem q_lt_256 {n : Nat} (h : n < 2 ^ 31) : nI n < (256 : Int32) ↔ n < 256 := nI_ltI (b := 256) h (by omega)
theorem q_le_256 {n : Nat} (h : n < 2 ^ 31) : nI n ≤ (256 : Int32) ↔ n ≤ 256 := nI_leI (b := 256) h (by omega)
theorem q_gt_256 {n : Nat} (h : n < 2 ^ 31) : (256 : Int32) < nI n ↔ 256 < n := nI_ltI (a := 256) (by omega) h
theorem q_ge_256 {n : Nat} (h : n < 2 ^ 31) : (256 : Int32) ≤ nI n ↔ 256 ≤ n := nI_leI (a := 256) (by omega) h
theorem q_eq_256 {n : Nat} (h : n < 2 ^ 31) : nI n = (256 : Int32) ↔ n = 256 := nI_eq (b := 256) h (by omega)
theorem q_lt_320 {n : Nat} (h : n < 2 ^ 31) : nI n < (320 : Int32) ↔ n < 320 := nI_ltI (b := 320) h (by omega)
theorem q_le_320 {n : Nat} (h : n < 2 ^ 31) : nI n ≤ (320 : Int32) ↔ n ≤ 320 := nI_leI (b := 320) h (by omega)
theorem q_gt_320 {n : Nat} (h : n < 2 ^ 31) : (320 : Int32) < nI n ↔ 320 < n := nI_ltI (a := 320) (by omega) h
theorem q_ge_320 {n : Nat} (h : n < 2 ^ 31) : (320 : Int32) ≤ nI n ↔ 320 ≤ n := nI_leI (a := 320) (by omega) h
theorem q_eq_320 {n : Nat} (h : n < 2 ^ 31) : nI n = (320 : Int32) ↔ n = 320 := nI_eq (b := 320) h (by omega)
theorem q_lt_1023 {n : Nat} (h : n < 2 ^ 31) : nI n < (1023 : Int32) ↔ n < 1023 := nI_ltI (b := 1023) h (by omega)
theorem q_le_1023 {n : Nat} (h : n < 2 ^ 31) : nI n ≤ (1023 : Int32) ↔ n ≤ 1023 := nI_leI (b := 1023) h (by omega)
theorem q_gt_1023 {n : Nat} (h : n < 2 ^ 31) : (1023 : Int32) < nI n ↔ 1023 < n := nI_ltI (a := 1023) (by omega) h
theorem q_ge_1023 {n : Nat} (h : n < 2 ^ 31) : (1023 : Int32) ≤ nI n ↔ 1023 ≤ n := nI_leI (a := 1023) (by omega) h
theorem q_eq_1023 {n : Nat} (h : n < 2 ^ 31) : nI n = (1023 : Int32) ↔ n = 1023 := nI_eq (b := 1023) h (by omega)
theorem q_lt_1024 {n : Nat} (h : n < 2 ^ 31) : nI n < (1024 : Int32) ↔ n < 1024 := nI_ltI (b := 1024) h (by omega)
theorem q_le_1024 {n : Nat} (h : n < 2 ^ 31) : nI n ≤ (1024 : Int32) ↔ n ≤ 1024 := nI_leI (b := 1024) h (by omega)
theorem q_gt_1024 {n : Nat} (h : n < 2 ^ 31) : (1024 : Int32) < nI n ↔ 1024 < n := nI_ltI (a := 1024) (by omega) h
theorem q_ge_1024 {n : Nat} (h : n < 2 ^ 31) : (1024 : Int32) ≤ nI n ↔ 1024 ≤ n := nI_leI (a := 1024) (by omega) h
theorem q_eq_1024 {n : Nat} (h : n < 2 ^ 31) : nI n = (1024 : Int32) ↔ n = 1024 := nI_eq (b := 1024) h (by omega)
theorem q_lt_65536 {n : Nat} (h : n < 2 ^ 31) : nI n < (65536 : Int32) ↔ n < 65536 := nI_ltI (b := 65536) h (by omega)
theorem q_le_65536 {n : Nat} (h : n < 2 ^ 31) : nI n ≤ (65536 : Int32) ↔ n ≤ 65536 := nI_leI (b := 65536) h (by omega)
theorem q_gt_65536 {n : Nat} (h : n < 2 ^ 31) : (65536 : Int32) < nI n ↔ 65536 < n := nI_ltI (a := 65536) (by omega) h
theorem q_ge_65536 {n : Nat} (h : n < 2 ^ 31) : (65536 : Int32) ≤ nI n ↔ 65536 ≤ n := nI_leI (a := 65536) (by omega) h
theorem q_eq_65536 {n : Nat} (h : n < 2 ^ 31) : nI n = (65536 : Int32) ↔ n = 65536 := nI_eq (b := 65536) h (by omega)
theorem q_lt_99999 {n : Nat} (h : n < 2 ^ 31) : nI n < (99999 : Int32) ↔ n < 99999 := nI_ltI (b := 99999) h (by omega)
theorem q_le_99999 {n : Nat} (h : n < 2 ^ 31) : nI n ≤ (99999 : Int32) ↔ n ≤ 99999 := nI_leI (b := 99999) h (by omega)
theorem q_gt_99999 {n : Nat} (h : n < 2 ^ 31) : (99999 : Int32) < nI n ↔ 99999 < n := nI_ltI (a := 99999) (by omega) h
theorem q_ge_99999 {n : Nat} (h : n < 2 ^ 31) : (99999 : Int32) ≤ nI n ↔ 99999 ≤ n := nI_leI (a := 99999) (by omega) h
theorem q_eq_99999 {n : Nat} (h : n < 2 ^ 31) : nI n = (99999 : Int32) ↔ n = 99999 := nI_eq (b := 99999) h (by omega)
theorem q_lt_100000 {n : Nat} (h : n < 2 ^ 31) : nI n < (100000 : Int32) ↔ n < 100000 := nI_ltI (b := 100000) h (by omega)
theorem q_le_100000 {n : Nat} (h : n < 2 ^ 31) : nI n ≤ (100000 : Int32) ↔ n ≤ 100000 := nI_leI (b := 100000) h (by omega)
theorem q_gt_100000 {n : Nat} (h : n < 2 ^ 31) : (100000 : Int32) < nI n ↔ 100000 < n := nI_ltI (a := 100000) (by omega) h
theorem q_ge_100000 {n : Nat} (h : n < 2 ^ 31) : (100000 : Int32) ≤ nI n ↔ 100000 ≤ n := nI_leI (a := 100000) (by omega) h
theorem q_eq_100000 {n : Nat} (h : n < 2 ^ 31) : nI n = (100000 : Int32) ↔ n = 100000 := nI_eq (b := 100000) h (by omega)
theorem q_lt_1000000 {n : Nat} (h : n < 2 ^ 31) : nI n < (1000000 : Int32) ↔ n < 1000000 := nI_ltI (b := 1000000) h (by omega)
theorem q_le_1000000 {n : Nat} (h : n < 2 ^ 31) : nI n ≤ (1000000 : Int32) ↔ n ≤ 1000000 := nI_leI (b := 1000000) h (by omega)
theorem q_gt_1000000 {n : Nat} (h : n < 2 ^ 31) : (1000000 : Int32) < nI n ↔ 1000000 < n := nI_ltI (a := 1000000) (by omega) h
theorem q_ge_1000000 {n : Nat} (h : n < 2 ^ 31) : (1000000 : Int32) ≤ nI n ↔ 1000000 ≤ n := nI_leI (a := 1000000) (by omega) h
theorem q_eq_1000000 {n : Nat} (h : n < 2 ^ 31) : nI n = (1000000 : Int32) ↔ n = 1000000 := nI_eq (b := 1000000) h (by omega)
theorem i_10 : ((1 : Int32) = 0) = False := eq_false (by decide)
theorem i_00 : ((0 : Int32) = 0) = True := eq_self _
theorem i_o1 : ((1 : Int32) = 0 ∨ (1 : Int32) = 1) = True := eq_true (Or.inr rfl)
theorem i_o0 : ((0 : Int32) = 0 ∨ (0 : Int32) = 1) = True := eq_true (Or.inl rfl)
theorem i_m0 : ((-1 : Int32) = 0) = False := eq_false (by decide)
theorem i_0m : ((0 : Int32) = -1) = False := eq_false (by decide)
theorem nI_pm {n : Nat} (h : n < 2 ^ 31) : (nI n = (-1 : Int32)) = False := eq_false (nI_nem n h)
theorem nI_s1 {n : Nat} (h : 1 ≤ n) : nI n - 1 = nI (n - 1) := pk_sub (b := 1) h
theorem nI_m1 {n : Nat} (h : 1 ≤ n) : nI n + (-1) = nI (n - 1) := by
  obtain ⟨k, rfl⟩ : ∃ k, n = k + 1 := ⟨n - 1, by omega⟩
  exact pk_m1 k
theorem c_0 : (0 : Int32).toNatClampNeg = 0 := by decide
theorem c_1 : (1 : Int32).toNatClampNeg = 1 := by decide
theorem c_2 : (2 : Int32).toNatClampNeg = 2 := by decide
theorem c_3 : (3 : Int32).toNatClampNeg = 3 := by decide
theorem c_4 : (4 : Int32).toNatClampNeg = 4 := by decide
theorem c_10 : (10 : Int32).toNatClampNeg = 10 := by decide
theorem c_40 : (40 : Int32).toNatClampNeg = 40 := by decide
theorem o_l00 : ((0 : Int32) < 0) = False := eq_false (by decide)
theorem o_l10 : ((1 : Int32) < 0) = False := eq_false (by decide)
theorem o_l20 : ((2 : Int32) < 0) = False := eq_false (by decide)
theorem o_l30 : ((3 : Int32) < 0) = False := eq_false (by decide)
theorem o_l40 : ((4 : Int32) < 0) = False := eq_false (by decide)
theorem o_l100 : ((10 : Int32) < 0) = False := eq_false (by decide)
theorem o_l400 : ((40 : Int32) < 0) = False := eq_false (by decide)
theorem sh_1 {n : Nat} (h : n < 31) : (1 : Int32) <<< (nI n &&& 31) = nI (2 ^ n) := by
  have : ∀ n, n < 31 → (1 : Int32) <<< (nI n &&& 31) = nI (2 ^ n) := by decide +kernel
  exact this n h
theorem bt_nI (n i : Nat) : bt (nI n) i = (decide (i < 32) && n.testBit i) := by
  unfold bt
  show (BitVec.ofNat 32 n).getLsbD i = _
  rw [BitVec.getLsbD_ofNat]
theorem and1_0 (x : Int32) : x &&& 1 = 0 ↔ bt x 0 = false := by
  constructor
  · intro h
    have := congrArg (fun y => bt y 0) h
    simp only [b_and, b_0] at this
    rw [show bt (1 : Int32) 0 = true from by decide, Bool.and_true] at this
    exact this
  · intro h
    apply b_ext
    intro i hi
    rw [b_and, b_0, show (1 : Int32) = nI 1 from rfl, bt_nI]
    by_cases e : i = 0
    · subst e; rw [h]; rfl
    · have h1 : Nat.testBit 1 i = false := by
        rw [Bool.eq_false_iff]
        intro h
        exact e (Nat.testBit_one_eq_true_iff_self_eq_zero.mp h)
      simp [h1]
theorem bit_0 (x : Int32) {m : Nat} (hm : m < 32) : ((x >>> (nI m &&& 31)) &&& 1) = 0 ↔ bt x m = false := by
  rw [and1_0, b_sshr m hm x (by omega), if_pos (by omega), Nat.add_zero]
theorem bit_v (x : Int32) {m : Nat} (hm : m < 32) : ((x >>> (nI m &&& 31)) &&& 1) = nI (if bt x m then 1 else 0) := by
  apply b_ext
  intro i hi
  rw [b_and, show (1 : Int32) = nI 1 from rfl, bt_nI, bt_nI]
  by_cases e : i = 0
  · subst e
    rw [b_sshr m hm x (by omega), if_pos (by omega), Nat.add_zero]
    cases bt x m <;> rfl
  · have h1 : Nat.testBit 1 i = false := by
      rw [Bool.eq_false_iff]
      intro h
      exact e (Nat.testBit_one_eq_true_iff_self_eq_zero.mp h)
    cases bt x m
    · simp [h1]
    · simp [h1]
/-- the number of the bits that hold -/
def bs (p : Nat → Bool) : Nat → Nat
  | 0 => 0
  | n + 1 => bs p n ||| (if p n then 2 ^ n else 0)
theorem bs_bit (p : Nat → Bool) (n i : Nat) : (bs p n).testBit i = (decide (i < n) && p i) := by
  induction n with
  | zero => simp [bs]
  | succ n ih =>
    rw [bs, Nat.testBit_or, ih]
    by_cases e : i = n
    · subst e
      cases h : p i <;> simp [h, Nat.testBit_two_pow]
    · by_cases l : i < n
      · have l2 : i < n + 1 := by omega
        cases h : p n <;> simp [l, l2, h, Nat.testBit_two_pow, Ne.symm e]
      · have l2 : ¬ i < n + 1 := by omega
        cases h : p n <;> simp [l, l2, h, Nat.testBit_two_pow, Ne.symm e]
theorem bs_lt (p : Nat → Bool) (n : Nat) : bs p n < 2 ^ n := by
  apply Nat.lt_pow_two_of_testBit
  intro i hi
  rw [bs_bit, decide_eq_false (by omega), Bool.false_and]
theorem bs_cong {p q : Nat → Bool} {n : Nat} (h : ∀ i, i < n → p i = q i) : bs p n = bs q n := by
  induction n with
  | zero => rfl
  | succ n ih => rw [bs, bs, ih (fun i hi => h i (by omega)), h n (by omega)]
theorem bt_bs (p : Nat → Bool) {n : Nat} (hn : n ≤ 31) (i : Nat) : bt (nI (bs p n)) i = (decide (i < n) && p i) := by
  rw [bt_nI, bs_bit]
  by_cases l : i < n
  · rw [decide_eq_true (show i < 32 by omega), Bool.true_and]
  · rw [decide_eq_false l, Bool.false_and, Bool.and_false]
theorem eq_bs {x : Int32} {p : Nat → Bool} {n : Nat} (hn : n ≤ 31) (h : ∀ i, i < 32 → bt x i = (decide (i < n) && p i)) : x = nI (bs p n) := by
  apply b_ext
  intro i hi
  rw [h i hi, bt_bs p hn]
theorem bt_not (x : Int32) {i : Nat} (hi : i < 32) : bt (x ^^^ -1) i = !bt x i := by
  rw [b_xor, b_m1 i hi, Bool.xor_true]
theorem bt_all {z i : Nat} (hz : z ≤ 10) : bt ((1 : Int32) <<< (nI z &&& 31) - 1) i = decide (i < z) := by
  rw [sh_1 (by omega), nI_s1 Nat.one_le_two_pow, bt_nI, Nat.testBit_two_pow_sub_one]
  by_cases l : i < z
  · rw [decide_eq_true (show i < 32 by omega), Bool.true_and]
  · rw [decide_eq_false l, Bool.and_false]
/-- a place's test, its number already read -/
theorem ix {c N : Nat} (h : c < N) (hN : N < 2 ^ 31) : ¬ (nI c < 0 ∨ N ≤ c) := by
  rw [q_lt_0 (by omega)]
  omega
theorem b_ne {a b : Nat} (h : ¬ a = b) : (a == b) = false := beq_eq_false_iff_ne.mpr h
theorem b_eq {a b : Nat} (h : a = b) : (a == b) = true := beq_iff_eq.mpr h
theorem E_ix {a : AE} {b : Nat} (ok : OkA a) (hb : b < aN a) : ¬ (nI b < 0 ∨ 4 ≤ b) := ix (by have := ok.1; omega) (by omega)
theorem S_ix {s : Nat} (hs : s < 8) : ¬ (nI s < 0 ∨ 8 ≤ s) := ix hs (by omega)
