def capT (t : Nat) : Nat := if t = 0 then 79 else if t = 1 then 20 else 6
theorem NI_0 : NI 0 = 8 := rfl
theorem NI_1 : NI 1 = 12 := rfl
theorem NI_2 : NI 2 = 1 := rfl
theorem NI_3 : NI 3 = 4 := rfl
theorem NI_4 : NI 4 = 1 := rfl
theorem NI_5 : NI 5 = 2 := rfl
theorem NI_6 : NI 6 = 3 := rfl
theorem NI_7 : NI 7 = 1 := rfl
theorem NI_8 : NI 8 = 1 := rfl
theorem NI_9 : NI 9 = 8 := rfl
theorem NI_10 : NI 10 = 12 := rfl
theorem NI_11 : NI 11 = 12 := rfl
theorem NI_12 : NI 12 = 12 := rfl
theorem NI_13 : NI 13 = 1 := rfl
theorem NI_14 : NI 14 = 1 := rfl
theorem NI_15 : NI 15 = 1 := rfl
theorem NI_16 : NI 16 = 1 := rfl
theorem NI_17 : NI 17 = 1 := rfl
theorem NI_18 : NI 18 = 4 := rfl
theorem NI_19 : NI 19 = 1 := rfl
theorem NI_20 : NI 20 = 1 := rfl
theorem NI_21 : NI 21 = 1 := rfl
theorem NI_22 : NI 22 = 2 := rfl
theorem NI_23 : NI 23 = 3 := rfl
theorem NI_24 : NI 24 = 1 := rfl
theorem NI_25 : NI 25 = 1 := rfl
theorem NI_26 : NI 26 = 1 := rfl
theorem NI_27 : NI 27 = 1 := rfl
theorem NI_28 : NI 28 = 1 := rfl
theorem NI_29 : NI 29 = 1 := rfl
theorem NI_30 : NI 30 = 1 := rfl
theorem NI_31 : NI 31 = 1 := rfl
theorem NI_32 : NI 32 = 1 := rfl
theorem NI_33 : NI 33 = 1 := rfl
theorem NI_34 : NI 34 = 1 := rfl
theorem NI_35 : NI 35 = 1 := rfl
theorem NI_36 : NI 36 = 1 := rfl
theorem NI_37 : NI 37 = 1 := rfl
theorem NI_38 : NI 38 = 1 := rfl
theorem NI_39 : NI 39 = 1 := rfl
theorem NI_40 : NI 40 = 1 := rfl
theorem NI_41 : NI 41 = 1 := rfl
theorem NI_42 : NI 42 = 1 := rfl
theorem NI_43 : NI 43 = 1 := rfl
theorem NI_44 : NI 44 = 1 := rfl
theorem NI_45 : NI 45 = 1 := rfl
theorem NI_46 : NI 46 = 1 := rfl
theorem NI_47 : NI 47 = 1 := rfl
theorem NI_48 : NI 48 = 1 := rfl
theorem ia_9 : ia 9 = true := rfl
theorem ln_9 {i : Nat} : ln 9 i = 4 := rfl
theorem al_9 {i : Nat} : alen 9 i = some (4) := rfl
theorem ia_10 : ia 10 = true := rfl
theorem ln_10 {i : Nat} : ln 10 i = 6 := rfl
theorem al_10 {i : Nat} : alen 10 i = some (6) := rfl
theorem ia_11 : ia 11 = true := rfl
theorem ln_11 {i : Nat} : ln 11 i = 48 := rfl
theorem al_11 {i : Nat} : alen 11 i = some (48) := rfl
theorem ia_12 : ia 12 = true := rfl
theorem ln_12 {i : Nat} : ln 12 i = 48 := rfl
theorem al_12 {i : Nat} : alen 12 i = some (48) := rfl
theorem ra_13 : ra 13 = some (0, 0, 8, 5) := rfl
theorem al_13 {i : Nat} : alen 13 i = some 8 := rfl
theorem ia_14 : ia 14 = true := rfl
theorem ln_14 {i : Nat} : ln 14 i = 20 := rfl
theorem al_14 {i : Nat} : alen 14 i = some (20) := rfl
theorem ia_15 : ia 15 = true := rfl
theorem ln_15 {i : Nat} : ln 15 i = 6 := rfl
theorem al_15 {i : Nat} : alen 15 i = some (6) := rfl
theorem ia_16 : ia 16 = true := rfl
theorem ln_16 {i : Nat} : ln 16 i = 10 := rfl
theorem al_16 {i : Nat} : alen 16 i = some (10) := rfl
theorem ia_17 : ia 17 = true := rfl
theorem ln_17 {i : Nat} : ln 17 i = 10 := rfl
theorem al_17 {i : Nat} : alen 17 i = some (10) := rfl
theorem ia_18 : ia 18 = true := rfl
theorem ln_18 {i : Nat} : ln 18 i = 60 := rfl
theorem al_18 {i : Nat} : alen 18 i = some (60) := rfl
theorem ia_19 : ia 19 = true := rfl
theorem ln_19 {i : Nat} : ln 19 i = 8 := rfl
theorem al_19 {i : Nat} : alen 19 i = some (8) := rfl
theorem ia_20 : ia 20 = true := rfl
theorem ln_20 {i : Nat} : ln 20 i = 8 := rfl
theorem al_20 {i : Nat} : alen 20 i = some (8) := rfl
theorem ia_21 : ia 21 = true := rfl
theorem ln_21 {i : Nat} : ln 21 i = 8 := rfl
theorem al_21 {i : Nat} : alen 21 i = some (8) := rfl
theorem ia_22 : ia 22 = true := rfl
theorem ln_22 {i : Nat} : ln 22 i = 720 := rfl
theorem al_22 {i : Nat} : alen 22 i = some (720) := rfl
theorem ia_23 : ia 23 = true := rfl
theorem ln_23 {i : Nat} : ln 23 i = capT i := rfl
theorem al_23 {i : Nat} : alen 23 i = some (capT i) := rfl
theorem ra_24 : ra 24 = some (6, 0, 3, 2) := rfl
theorem al_24 {i : Nat} : alen 24 i = some 3 := rfl
theorem ra_25 : ra 25 = some (1, 2, 10, 3) := rfl
theorem al_25 {i : Nat} : alen 25 i = some 10 := rfl
theorem ra_26 : ra 26 = some (3, 0, 4, 4) := rfl
theorem al_26 {i : Nat} : alen 26 i = some 4 := rfl
theorem ia_27 : ia 27 = true := rfl
theorem ln_27 {i : Nat} : ln 27 i = 20 := rfl
theorem al_27 {i : Nat} : alen 27 i = some (20) := rfl
theorem ia_28 : ia 28 = true := rfl
theorem ln_28 {i : Nat} : ln 28 i = 54 := rfl
theorem al_28 {i : Nat} : alen 28 i = some (54) := rfl
theorem ia_29 : ia 29 = true := rfl
theorem ln_29 {i : Nat} : ln 29 i = 3 := rfl
theorem al_29 {i : Nat} : alen 29 i = some (3) := rfl
theorem al_30 {i : Nat} : alen 30 i = some 2 := rfl
theorem ia_31 : ia 31 = true := rfl
theorem ln_31 {i : Nat} : ln 31 i = 4 := rfl
theorem al_31 {i : Nat} : alen 31 i = some (4) := rfl
theorem ia_32 : ia 32 = true := rfl
theorem ln_32 {i : Nat} : ln 32 i = 4 := rfl
theorem al_32 {i : Nat} : alen 32 i = some (4) := rfl
theorem ia_33 : ia 33 = true := rfl
theorem ln_33 {i : Nat} : ln 33 i = 240 := rfl
theorem al_33 {i : Nat} : alen 33 i = some (240) := rfl
theorem ia_34 : ia 34 = true := rfl
theorem ln_34 {i : Nat} : ln 34 i = 60 := rfl
theorem al_34 {i : Nat} : alen 34 i = some (60) := rfl
theorem ia_35 : ia 35 = true := rfl
theorem ln_35 {i : Nat} : ln 35 i = 240 := rfl
theorem al_35 {i : Nat} : alen 35 i = some (240) := rfl
theorem ia_36 : ia 36 = true := rfl
theorem ln_36 {i : Nat} : ln 36 i = 3 := rfl
theorem al_36 {i : Nat} : alen 36 i = some (3) := rfl
theorem ia_37 : ia 37 = true := rfl
theorem ln_37 {i : Nat} : ln 37 i = 40 := rfl
theorem al_37 {i : Nat} : alen 37 i = some (40) := rfl
theorem ia_38 : ia 38 = true := rfl
theorem ln_38 {i : Nat} : ln 38 i = 32 := rfl
theorem al_38 {i : Nat} : alen 38 i = some (32) := rfl
theorem ia_39 : ia 39 = true := rfl
theorem ln_39 {i : Nat} : ln 39 i = 20 := rfl
theorem al_39 {i : Nat} : alen 39 i = some (20) := rfl
theorem ia_40 : ia 40 = true := rfl
theorem ln_40 {i : Nat} : ln 40 i = 6 := rfl
theorem al_40 {i : Nat} : alen 40 i = some (6) := rfl
theorem ia_41 : ia 41 = true := rfl
theorem ln_41 {i : Nat} : ln 41 i = 16 := rfl
theorem al_41 {i : Nat} : alen 41 i = some (16) := rfl
theorem ia_42 : ia 42 = true := rfl
theorem ln_42 {i : Nat} : ln 42 i = 6 := rfl
theorem al_42 {i : Nat} : alen 42 i = some (6) := rfl
theorem ia_43 : ia 43 = true := rfl
theorem ln_43 {i : Nat} : ln 43 i = 48 := rfl
theorem al_43 {i : Nat} : alen 43 i = some (48) := rfl
theorem ia_44 : ia 44 = true := rfl
theorem ln_44 {i : Nat} : ln 44 i = 48 := rfl
theorem al_44 {i : Nat} : alen 44 i = some (48) := rfl
theorem ia_45 : ia 45 = true := rfl
theorem ln_45 {i : Nat} : ln 45 i = 720 := rfl
theorem al_45 {i : Nat} : alen 45 i = some (720) := rfl
theorem ia_46 : ia 46 = true := rfl
theorem ln_46 {i : Nat} : ln 46 i = 24 := rfl
theorem al_46 {i : Nat} : alen 46 i = some (24) := rfl
theorem ia_47 : ia 47 = true := rfl
theorem ln_47 {i : Nat} : ln 47 i = 54 := rfl
theorem al_47 {i : Nat} : alen 47 i = some (54) := rfl
theorem ia_48 : ia 48 = true := rfl
theorem ln_48 {i : Nat} : ln 48 i = 20 := rfl
theorem al_48 {i : Nat} : alen 48 i = some (20) := rfl
theorem fm_0_0 {u : Mem} {i : Nat} : fm u 0 i 0 = .inr (.inr (9, i)) := rfl
theorem fm_0_1 {u : Mem} {i : Nat} : fm u 0 i 1 = .inl (rd u 0 i 1) := rfl
theorem fk_0_1 : fk 0 1 = none := rfl
theorem iz_0_1 : isZ 0 1 = false := rfl
theorem fm_0_2 {u : Mem} {i : Nat} : fm u 0 i 2 = .inl (rd u 0 i 2) := rfl
theorem fk_0_2 : fk 0 2 = none := rfl
theorem iz_0_2 : isZ 0 2 = false := rfl
theorem fm_0_3 {u : Mem} {i : Nat} : fm u 0 i 3 = .inl (rd u 0 i 3) := rfl
theorem fk_0_3 : fk 0 3 = none := rfl
theorem iz_0_3 : isZ 0 3 = false := rfl
theorem fm_0_4 {u : Mem} {i : Nat} : fm u 0 i 4 = .inl (rd u 0 i 4) := rfl
theorem fk_0_4 : fk 0 4 = none := rfl
theorem iz_0_4 : isZ 0 4 = false := rfl
theorem fm_0_5 {u : Mem} {i : Nat} : fm u 0 i 5 = .inl (rd u 0 i 5) := rfl
theorem fk_0_5 : fk 0 5 = none := rfl
theorem iz_0_5 : isZ 0 5 = false := rfl
theorem fm_1_0 {u : Mem} {i : Nat} : fm u 1 i 0 = .inr (.inr (10, i)) := rfl
theorem fm_1_1 {u : Mem} {i : Nat} : fm u 1 i 1 = .inr (.inr (11, i)) := rfl
theorem fm_1_2 {u : Mem} {i : Nat} : fm u 1 i 2 = .inr (.inr (12, i)) := rfl
theorem fm_2_0 {u : Mem} {i : Nat} : fm u 2 i 0 = .inr (.inr (13, 0)) := rfl
theorem fm_2_1 {u : Mem} {i : Nat} : fm u 2 i 1 = .inr (.inr (14, 0)) := rfl
theorem fm_2_2 {u : Mem} {i : Nat} : fm u 2 i 2 = .inr (.inr (15, 0)) := rfl
theorem fm_2_3 {u : Mem} {i : Nat} : fm u 2 i 3 = .inr (.inr (16, 0)) := rfl
theorem fm_2_4 {u : Mem} {i : Nat} : fm u 2 i 4 = .inr (.inr (17, 0)) := rfl
theorem fm_2_5 {u : Mem} {i : Nat} : fm u 2 i 5 = .inl (rd u 2 i 5) := rfl
theorem fk_2_5 : fk 2 5 = none := rfl
theorem iz_2_5 : isZ 2 5 = false := rfl
theorem fm_2_6 {u : Mem} {i : Nat} : fm u 2 i 6 = .inl (rd u 2 i 6) := rfl
theorem fk_2_6 : fk 2 6 = none := rfl
theorem iz_2_6 : isZ 2 6 = false := rfl
theorem fm_2_7 {u : Mem} {i : Nat} : fm u 2 i 7 = .inl (rd u 2 i 7) := rfl
theorem fk_2_7 : fk 2 7 = none := rfl
theorem iz_2_7 : isZ 2 7 = false := rfl
theorem fm_2_8 {u : Mem} {i : Nat} : fm u 2 i 8 = .inl (rd u 2 i 8) := rfl
theorem fk_2_8 : fk 2 8 = none := rfl
theorem iz_2_8 : isZ 2 8 = false := rfl
theorem fm_2_9 {u : Mem} {i : Nat} : fm u 2 i 9 = .inl (rd u 2 i 9) := rfl
theorem fk_2_9 : fk 2 9 = none := rfl
theorem iz_2_9 : isZ 2 9 = false := rfl
theorem fm_3_0 {u : Mem} {i : Nat} : fm u 3 i 0 = .inr (.inr (18, i)) := rfl
theorem fm_3_1 {u : Mem} {i : Nat} : fm u 3 i 1 = .inl (rd u 3 i 1) := rfl
theorem fk_3_1 : fk 3 1 = none := rfl
theorem iz_3_1 : isZ 3 1 = true := rfl
theorem fm_3_2 {u : Mem} {i : Nat} : fm u 3 i 2 = .inl (rd u 3 i 2) := rfl
theorem fk_3_2 : fk 3 2 = none := rfl
theorem iz_3_2 : isZ 3 2 = false := rfl
theorem fm_3_3 {u : Mem} {i : Nat} : fm u 3 i 3 = .inl (rd u 3 i 3) := rfl
theorem fk_3_3 : fk 3 3 = none := rfl
theorem iz_3_3 : isZ 3 3 = false := rfl
theorem fm_4_0 {u : Mem} {i : Nat} : fm u 4 i 0 = .inr (.inr (19, 0)) := rfl
theorem fm_4_1 {u : Mem} {i : Nat} : fm u 4 i 1 = .inr (.inr (20, 0)) := rfl
theorem fm_4_2 {u : Mem} {i : Nat} : fm u 4 i 2 = .inr (.inr (21, 0)) := rfl
theorem fm_4_3 {u : Mem} {i : Nat} : fm u 4 i 3 = .inl (rd u 4 i 3) := rfl
theorem fk_4_3 : fk 4 3 = none := rfl
theorem iz_4_3 : isZ 4 3 = false := rfl
theorem fm_5_0 {u : Mem} {i : Nat} : fm u 5 i 0 = .inr (.inr (2, 0)) := rfl
theorem fm_5_1 {u : Mem} {i : Nat} : fm u 5 i 1 = .inr (.inr (1, i)) := rfl
theorem fm_5_2 {u : Mem} {i : Nat} : fm u 5 i 2 = .inr (.inr (22, i)) := rfl
theorem fm_6_0 {u : Mem} {i : Nat} : fm u 6 i 0 = .inr (.inr (23, i)) := rfl
theorem fm_6_1 {u : Mem} {i : Nat} : fm u 6 i 1 = .inl (rd u 6 i 1) := rfl
theorem fk_6_1 : fk 6 1 = none := rfl
theorem iz_6_1 : isZ 6 1 = false := rfl
theorem fm_6_2 {u : Mem} {i : Nat} : fm u 6 i 2 = .inl (rd u 6 i 2) := rfl
theorem fk_6_2 : fk 6 2 = none := rfl
theorem iz_6_2 : isZ 6 2 = false := rfl
theorem fm_7_0 {u : Mem} {i : Nat} : fm u 7 i 0 = .inr (.inr (24, 0)) := rfl
theorem fm_7_1 {u : Mem} {i : Nat} : fm u 7 i 1 = .inr (.inr (2, 0)) := rfl
theorem fm_7_2 {u : Mem} {i : Nat} : fm u 7 i 2 = .inr (.inr (5, 0)) := rfl
theorem fm_7_3 {u : Mem} {i : Nat} : fm u 7 i 3 = .inr (.inr (5, 1)) := rfl
theorem fm_7_4 {u : Mem} {i : Nat} : fm u 7 i 4 = .inr (.inr (25, 0)) := rfl
theorem fm_7_5 {u : Mem} {i : Nat} : fm u 7 i 5 = .inr (.inr (4, 0)) := rfl
theorem fm_7_6 {u : Mem} {i : Nat} : fm u 7 i 6 = .inr (.inr (26, 0)) := rfl
theorem fm_7_7 {u : Mem} {i : Nat} : fm u 7 i 7 = .inr (.inr (27, 0)) := rfl
theorem fm_7_8 {u : Mem} {i : Nat} : fm u 7 i 8 = .inr (.inr (28, 0)) := rfl
theorem fm_7_9 {u : Mem} {i : Nat} : fm u 7 i 9 = .inr (.inr (29, 0)) := rfl
theorem fm_7_10 {u : Mem} {i : Nat} : fm u 7 i 10 = .inr (.inr (30, 0)) := rfl
theorem fm_7_11 {u : Mem} {i : Nat} : fm u 7 i 11 = .inl (rd u 7 i 11) := rfl
theorem fk_7_11 : fk 7 11 = none := rfl
theorem iz_7_11 : isZ 7 11 = true := rfl
theorem fm_7_12 {u : Mem} {i : Nat} : fm u 7 i 12 = .inl (rd u 7 i 12) := rfl
theorem fk_7_12 : fk 7 12 = none := rfl
theorem iz_7_12 : isZ 7 12 = false := rfl
theorem fm_8_0 {u : Mem} {i : Nat} : fm u 8 i 0 = .inr (.inr (31, 0)) := rfl
theorem fm_8_1 {u : Mem} {i : Nat} : fm u 8 i 1 = .inr (.inr (32, 0)) := rfl
theorem fm_8_2 {u : Mem} {i : Nat} : fm u 8 i 2 = .inr (.inr (33, 0)) := rfl
theorem fm_8_3 {u : Mem} {i : Nat} : fm u 8 i 3 = .inr (.inr (34, 0)) := rfl
theorem fm_8_4 {u : Mem} {i : Nat} : fm u 8 i 4 = .inl (rd u 8 i 4) := rfl
theorem fk_8_4 : fk 8 4 = none := rfl
theorem iz_8_4 : isZ 8 4 = false := rfl
theorem fm_8_5 {u : Mem} {i : Nat} : fm u 8 i 5 = .inr (.inr (35, 0)) := rfl
theorem fm_8_6 {u : Mem} {i : Nat} : fm u 8 i 6 = .inr (.inr (36, 0)) := rfl
theorem fm_8_7 {u : Mem} {i : Nat} : fm u 8 i 7 = .inl (rd u 8 i 7) := rfl
theorem fk_8_7 : fk 8 7 = none := rfl
theorem iz_8_7 : isZ 8 7 = false := rfl
theorem fm_8_8 {u : Mem} {i : Nat} : fm u 8 i 8 = .inr (.inr (37, 0)) := rfl
theorem fm_8_9 {u : Mem} {i : Nat} : fm u 8 i 9 = .inr (.inr (38, 0)) := rfl
theorem fm_8_10 {u : Mem} {i : Nat} : fm u 8 i 10 = .inl (rd u 8 i 10) := rfl
theorem fk_8_10 : fk 8 10 = none := rfl
theorem iz_8_10 : isZ 8 10 = false := rfl
theorem fm_8_11 {u : Mem} {i : Nat} : fm u 8 i 11 = .inr (.inr (39, 0)) := rfl
theorem fm_8_12 {u : Mem} {i : Nat} : fm u 8 i 12 = .inr (.inr (40, 0)) := rfl
theorem fm_8_13 {u : Mem} {i : Nat} : fm u 8 i 13 = .inl (rd u 8 i 13) := rfl
theorem fk_8_13 : fk 8 13 = none := rfl
theorem iz_8_13 : isZ 8 13 = false := rfl
theorem fm_8_14 {u : Mem} {i : Nat} : fm u 8 i 14 = .inr (.inr (41, 0)) := rfl
theorem fm_8_15 {u : Mem} {i : Nat} : fm u 8 i 15 = .inl (rd u 8 i 15) := rfl
theorem fk_8_15 : fk 8 15 = none := rfl
theorem iz_8_15 : isZ 8 15 = false := rfl
theorem fm_8_16 {u : Mem} {i : Nat} : fm u 8 i 16 = .inl (rd u 8 i 16) := rfl
theorem fk_8_16 : fk 8 16 = none := rfl
theorem iz_8_16 : isZ 8 16 = false := rfl
theorem fm_8_17 {u : Mem} {i : Nat} : fm u 8 i 17 = .inl (rd u 8 i 17) := rfl
theorem fk_8_17 : fk 8 17 = none := rfl
theorem iz_8_17 : isZ 8 17 = false := rfl
theorem fm_8_18 {u : Mem} {i : Nat} : fm u 8 i 18 = .inl (rd u 8 i 18) := rfl
theorem fk_8_18 : fk 8 18 = none := rfl
theorem iz_8_18 : isZ 8 18 = false := rfl
theorem fm_8_19 {u : Mem} {i : Nat} : fm u 8 i 19 = .inr (.inr (42, 0)) := rfl
theorem fm_8_20 {u : Mem} {i : Nat} : fm u 8 i 20 = .inr (.inr (43, 0)) := rfl
theorem fm_8_21 {u : Mem} {i : Nat} : fm u 8 i 21 = .inr (.inr (44, 0)) := rfl
theorem fm_8_22 {u : Mem} {i : Nat} : fm u 8 i 22 = .inr (.inr (45, 0)) := rfl
theorem fm_8_23 {u : Mem} {i : Nat} : fm u 8 i 23 = .inl (rd u 8 i 23) := rfl
theorem fk_8_23 : fk 8 23 = none := rfl
theorem iz_8_23 : isZ 8 23 = false := rfl
theorem fm_8_24 {u : Mem} {i : Nat} : fm u 8 i 24 = .inr (.inr (46, 0)) := rfl
theorem fm_8_25 {u : Mem} {i : Nat} : fm u 8 i 25 = .inr (.inr (47, 0)) := rfl
theorem fm_8_26 {u : Mem} {i : Nat} : fm u 8 i 26 = .inr (.inr (48, 0)) := rfl
theorem fm_8_27 {u : Mem} {i : Nat} : fm u 8 i 27 = .inl (rd u 8 i 27) := rfl
theorem fk_8_27 : fk 8 27 = none := rfl
theorem iz_8_27 : isZ 8 27 = false := rfl
