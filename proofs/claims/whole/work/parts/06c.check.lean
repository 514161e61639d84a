theorem xo_0_0 : xm_rng 0 0 47 = true := by decide +kernel
theorem xo_1_0 : xm_rng 1 0 60 = true := by decide +kernel
theorem xo_1_60 : xm_rng 1 60 60 = true := by decide +kernel
theorem xo_1_120 : xm_rng 1 120 13 = true := by decide +kernel
theorem xo_2_0 : xm_rng 2 0 23 = true := by decide +kernel
theorem xo_3_0 : xm_rng 3 0 5 = true := by decide +kernel
theorem xo_4_0 : xm_rng 4 0 33 = true := by decide +kernel
theorem xo_5_0 : xm_rng 5 0 11 = true := by decide +kernel
theorem xo_6_0 : xm_rng 6 0 43 = true := by decide +kernel
theorem xo_7_0 : xm_rng 7 0 9 = true := by decide +kernel
theorem xo_8_0 : xm_rng 8 0 54 = true := by decide +kernel
theorem xo_9_0 : xm_rng 9 0 60 = true := by decide +kernel
theorem xo_9_60 : xm_rng 9 60 16 = true := by decide +kernel
theorem xo_10_0 : xm_rng 10 0 33 = true := by decide +kernel
theorem xo_11_0 : xm_rng 11 0 20 = true := by decide +kernel
theorem xo_12_0 : xm_rng 12 0 43 = true := by decide +kernel
theorem xo_13_0 : xm_rng 13 0 37 = true := by decide +kernel
theorem xo_14_0 : xm_rng 14 0 32 = true := by decide +kernel
theorem xo_15_0 : xm_rng 15 0 19 = true := by decide +kernel
theorem xo_16_0 : xm_rng 16 0 60 = true := by decide +kernel
theorem xo_16_60 : xm_rng 16 60 3 = true := by decide +kernel
theorem xo_17_0 : xm_rng 17 0 60 = true := by decide +kernel
theorem xo_17_60 : xm_rng 17 60 60 = true := by decide +kernel
theorem xo_17_120 : xm_rng 17 120 25 = true := by decide +kernel
theorem xo_18_0 : xm_rng 18 0 22 = true := by decide +kernel
theorem xo_19_0 : xm_rng 19 0 8 = true := by decide +kernel
theorem xo_20_0 : xm_rng 20 0 10 = true := by decide +kernel
theorem xo_21_0 : xm_rng 21 0 55 = true := by decide +kernel
theorem xo_22_0 : xm_rng 22 0 32 = true := by decide +kernel
theorem xo_23_0 : xm_rng 23 0 13 = true := by decide +kernel
theorem xo_24_0 : xm_rng 24 0 6 = true := by decide +kernel
theorem xo_25_0 : xm_rng 25 0 22 = true := by decide +kernel
theorem xo_26_0 : xm_rng 26 0 29 = true := by decide +kernel
theorem xo_27_0 : xm_rng 27 0 22 = true := by decide +kernel
theorem xo_28_0 : xm_rng 28 0 8 = true := by decide +kernel
theorem xo_29_0 : xm_rng 29 0 54 = true := by decide +kernel
theorem xo_30_0 : xm_rng 30 0 60 = true := by decide +kernel
theorem xo_30_60 : xm_rng 30 60 35 = true := by decide +kernel
theorem xo_31_0 : xm_rng 31 0 10 = true := by decide +kernel
theorem xo_32_0 : xm_rng 32 0 39 = true := by decide +kernel
theorem xo_33_0 : xm_rng 33 0 31 = true := by decide +kernel
theorem xo_34_0 : xm_rng 34 0 51 = true := by decide +kernel
theorem xo_35_0 : xm_rng 35 0 40 = true := by decide +kernel
theorem xo_36_0 : xm_rng 36 0 60 = true := by decide +kernel
theorem xo_36_60 : xm_rng 36 60 2 = true := by decide +kernel
theorem xo_37_0 : xm_rng 37 0 60 = true := by decide +kernel
theorem xo_37_60 : xm_rng 37 60 49 = true := by decide +kernel
theorem xo_38_0 : xm_rng 38 0 60 = true := by decide +kernel
theorem xo_38_60 : xm_rng 38 60 27 = true := by decide +kernel
theorem xo_39_0 : xm_rng 39 0 60 = true := by decide +kernel
theorem xo_39_60 : xm_rng 39 60 60 = true := by decide +kernel
theorem xo_39_120 : xm_rng 39 120 60 = true := by decide +kernel
theorem xo_39_180 : xm_rng 39 180 60 = true := by decide +kernel
theorem xo_39_240 : xm_rng 39 240 60 = true := by decide +kernel
theorem xo_39_300 : xm_rng 39 300 60 = true := by decide +kernel
theorem xo_39_360 : xm_rng 39 360 60 = true := by decide +kernel
theorem xo_39_420 : xm_rng 39 420 60 = true := by decide +kernel
theorem xo_39_480 : xm_rng 39 480 60 = true := by decide +kernel
theorem xo_39_540 : xm_rng 39 540 32 = true := by decide +kernel
theorem xo_40_0 : xm_rng 40 0 42 = true := by decide +kernel
theorem xo_41_0 : xm_rng 41 0 17 = true := by decide +kernel
theorem xo_42_0 : xm_rng 42 0 37 = true := by decide +kernel
theorem xo_43_0 : xm_rng 43 0 60 = true := by decide +kernel
theorem xo_43_60 : xm_rng 43 60 60 = true := by decide +kernel
theorem xo_43_120 : xm_rng 43 120 30 = true := by decide +kernel
theorem xo_44_0 : xm_rng 44 0 22 = true := by decide +kernel
theorem xo_45_0 : xm_rng 45 0 9 = true := by decide +kernel
theorem xo_46_0 : xm_rng 46 0 10 = true := by decide +kernel
theorem xo_47_0 : xm_rng 47 0 8 = true := by decide +kernel
theorem xo_48_0 : xm_rng 48 0 12 = true := by decide +kernel
theorem xo_49_0 : xm_rng 49 0 29 = true := by decide +kernel
theorem xo_50_0 : xm_rng 50 0 24 = true := by decide +kernel
theorem xo_51_0 : xm_rng 51 0 18 = true := by decide +kernel
theorem xo_52_0 : xm_rng 52 0 43 = true := by decide +kernel
theorem xo_53_0 : xm_rng 53 0 60 = true := by decide +kernel
theorem xo_53_60 : xm_rng 53 60 14 = true := by decide +kernel
theorem xo_54_0 : xm_rng 54 0 12 = true := by decide +kernel
theorem xo_55_0 : xm_rng 55 0 19 = true := by decide +kernel
theorem xo_56_0 : xm_rng 56 0 13 = true := by decide +kernel
theorem xo_57_0 : xm_rng 57 0 12 = true := by decide +kernel
theorem xo_58_0 : xm_rng 58 0 10 = true := by decide +kernel
theorem xo_59_0 : xm_rng 59 0 18 = true := by decide +kernel
theorem xo_60_0 : xm_rng 60 0 17 = true := by decide +kernel
theorem xo_61_0 : xm_rng 61 0 18 = true := by decide +kernel
theorem xo_62_0 : xm_rng 62 0 10 = true := by decide +kernel
theorem xo_63_0 : xm_rng 63 0 60 = true := by decide +kernel
theorem xo_63_60 : xm_rng 63 60 13 = true := by decide +kernel
theorem xo_64_0 : xm_rng 64 0 60 = true := by decide +kernel
theorem xo_64_60 : xm_rng 64 60 17 = true := by decide +kernel
theorem xo_65_0 : xm_rng 65 0 29 = true := by decide +kernel
theorem xo_66_0 : xm_rng 66 0 11 = true := by decide +kernel
theorem xo_67_0 : xm_rng 67 0 52 = true := by decide +kernel
theorem xo_68_0 : xm_rng 68 0 54 = true := by decide +kernel
theorem xo_69_0 : xm_rng 69 0 60 = true := by decide +kernel
theorem xo_69_60 : xm_rng 69 60 22 = true := by decide +kernel
theorem xo_70_0 : xm_rng 70 0 34 = true := by decide +kernel
theorem xo_71_0 : xm_rng 71 0 26 = true := by decide +kernel
theorem xo_72_0 : xm_rng 72 0 27 = true := by decide +kernel
theorem xo_73_0 : xm_rng 73 0 40 = true := by decide +kernel
theorem xo_74_0 : xm_rng 74 0 32 = true := by decide +kernel
theorem xo_75_0 : xm_rng 75 0 10 = true := by decide +kernel
theorem xo_76_0 : xm_rng 76 0 22 = true := by decide +kernel
theorem xo_77_0 : xm_rng 77 0 56 = true := by decide +kernel
theorem xo_78_0 : xm_rng 78 0 34 = true := by decide +kernel
theorem xo_79_0 : xm_rng 79 0 10 = true := by decide +kernel
theorem xo_80_0 : xm_rng 80 0 60 = true := by decide +kernel
theorem xo_80_60 : xm_rng 80 60 6 = true := by decide +kernel
theorem xo_81_0 : xm_rng 81 0 30 = true := by decide +kernel
theorem xo_82_0 : xm_rng 82 0 14 = true := by decide +kernel
theorem xo_83_0 : xm_rng 83 0 10 = true := by decide +kernel
theorem xo_84_0 : xm_rng 84 0 6 = true := by decide +kernel
theorem xo_85_0 : xm_rng 85 0 28 = true := by decide +kernel
theorem xo_86_0 : xm_rng 86 0 4 = true := by decide +kernel
theorem xo_87_0 : xm_rng 87 0 39 = true := by decide +kernel
theorem xo_88_0 : xm_rng 88 0 40 = true := by decide +kernel
theorem xo_89_0 : xm_rng 89 0 17 = true := by decide +kernel
theorem xo_90_0 : xm_rng 90 0 23 = true := by decide +kernel
theorem xo_91_0 : xm_rng 91 0 18 = true := by decide +kernel
theorem xo_92_0 : xm_rng 92 0 49 = true := by decide +kernel
theorem xo_93_0 : xm_rng 93 0 37 = true := by decide +kernel
theorem xo_94_0 : xm_rng 94 0 48 = true := by decide +kernel
theorem xo_95_0 : xm_rng 95 0 18 = true := by decide +kernel
theorem xo_96_0 : xm_rng 96 0 27 = true := by decide +kernel
theorem xo_97_0 : xm_rng 97 0 49 = true := by decide +kernel
theorem xo_98_0 : xm_rng 98 0 37 = true := by decide +kernel
theorem xo_99_0 : xm_rng 99 0 59 = true := by decide +kernel
theorem xo_100_0 : xm_rng 100 0 60 = true := by decide +kernel
theorem xo_100_60 : xm_rng 100 60 35 = true := by decide +kernel
theorem xo_101_0 : xm_rng 101 0 59 = true := by decide +kernel
theorem xo_0 (i : Nat) : xm_ki 0 i = true := by
  by_cases hl : i < 47
  · exact xm_rng_at xo_0_0 (Nat.zero_le _) (by omega)
  · unfold xm_ki
    have hz : (xm_code 0).length = 47 := by decide +kernel
    rw [List.getElem?_eq_none (by omega)]
theorem xo_1 (i : Nat) : xm_ki 1 i = true := by
  by_cases hl : i < 133
  · rcases (show (0 ≤ i ∧ i < 0+60) ∨ (60 ≤ i ∧ i < 60+60) ∨ (120 ≤ i ∧ i < 120+13) by omega) with h | h | h
    · exact xm_rng_at xo_1_0 h.1 h.2
    · exact xm_rng_at xo_1_60 h.1 h.2
    · exact xm_rng_at xo_1_120 h.1 h.2
  · unfold xm_ki
    have hz : (xm_code 1).length = 133 := by decide +kernel
    rw [List.getElem?_eq_none (by omega)]
theorem xo_2 (i : Nat) : xm_ki 2 i = true := by
  by_cases hl : i < 23
  · exact xm_rng_at xo_2_0 (Nat.zero_le _) (by omega)
  · unfold xm_ki
    have hz : (xm_code 2).length = 23 := by decide +kernel
    rw [List.getElem?_eq_none (by omega)]
theorem xo_3 (i : Nat) : xm_ki 3 i = true := by
  by_cases hl : i < 5
  · exact xm_rng_at xo_3_0 (Nat.zero_le _) (by omega)
  · unfold xm_ki
    have hz : (xm_code 3).length = 5 := by decide +kernel
    rw [List.getElem?_eq_none (by omega)]
theorem xo_4 (i : Nat) : xm_ki 4 i = true := by
  by_cases hl : i < 33
  · exact xm_rng_at xo_4_0 (Nat.zero_le _) (by omega)
  · unfold xm_ki
    have hz : (xm_code 4).length = 33 := by decide +kernel
    rw [List.getElem?_eq_none (by omega)]
theorem xo_5 (i : Nat) : xm_ki 5 i = true := by
  by_cases hl : i < 11
  · exact xm_rng_at xo_5_0 (Nat.zero_le _) (by omega)
  · unfold xm_ki
    have hz : (xm_code 5).length = 11 := by decide +kernel
    rw [List.getElem?_eq_none (by omega)]
theorem xo_6 (i : Nat) : xm_ki 6 i = true := by
  by_cases hl : i < 43
  · exact xm_rng_at xo_6_0 (Nat.zero_le _) (by omega)
  · unfold xm_ki
    have hz : (xm_code 6).length = 43 := by decide +kernel
    rw [List.getElem?_eq_none (by omega)]
theorem xo_7 (i : Nat) : xm_ki 7 i = true := by
  by_cases hl : i < 9
  · exact xm_rng_at xo_7_0 (Nat.zero_le _) (by omega)
  · unfold xm_ki
    have hz : (xm_code 7).length = 9 := by decide +kernel
    rw [List.getElem?_eq_none (by omega)]
theorem xo_8 (i : Nat) : xm_ki 8 i = true := by
  by_cases hl : i < 54
  · exact xm_rng_at xo_8_0 (Nat.zero_le _) (by omega)
  · unfold xm_ki
    have hz : (xm_code 8).length = 54 := by decide +kernel
    rw [List.getElem?_eq_none (by omega)]
theorem xo_9 (i : Nat) : xm_ki 9 i = true := by
  by_cases hl : i < 76
  · rcases (show (0 ≤ i ∧ i < 0+60) ∨ (60 ≤ i ∧ i < 60+16) by omega) with h | h
    · exact xm_rng_at xo_9_0 h.1 h.2
    · exact xm_rng_at xo_9_60 h.1 h.2
  · unfold xm_ki
    have hz : (xm_code 9).length = 76 := by decide +kernel
    rw [List.getElem?_eq_none (by omega)]
theorem xo_10 (i : Nat) : xm_ki 10 i = true := by
  by_cases hl : i < 33
  · exact xm_rng_at xo_10_0 (Nat.zero_le _) (by omega)
  · unfold xm_ki
    have hz : (xm_code 10).length = 33 := by decide +kernel
    rw [List.getElem?_eq_none (by omega)]
theorem xo_11 (i : Nat) : xm_ki 11 i = true := by
  by_cases hl : i < 20
  · exact xm_rng_at xo_11_0 (Nat.zero_le _) (by omega)
  · unfold xm_ki
    have hz : (xm_code 11).length = 20 := by decide +kernel
    rw [List.getElem?_eq_none (by omega)]
theorem xo_12 (i : Nat) : xm_ki 12 i = true := by
  by_cases hl : i < 43
  · exact xm_rng_at xo_12_0 (Nat.zero_le _) (by omega)
  · unfold xm_ki
    have hz : (xm_code 12).length = 43 := by decide +kernel
    rw [List.getElem?_eq_none (by omega)]
theorem xo_13 (i : Nat) : xm_ki 13 i = true := by
  by_cases hl : i < 37
  · exact xm_rng_at xo_13_0 (Nat.zero_le _) (by omega)
  · unfold xm_ki
    have hz : (xm_code 13).length = 37 := by decide +kernel
    rw [List.getElem?_eq_none (by omega)]
theorem xo_14 (i : Nat) : xm_ki 14 i = true := by
  by_cases hl : i < 32
  · exact xm_rng_at xo_14_0 (Nat.zero_le _) (by omega)
  · unfold xm_ki
    have hz : (xm_code 14).length = 32 := by decide +kernel
    rw [List.getElem?_eq_none (by omega)]
theorem xo_15 (i : Nat) : xm_ki 15 i = true := by
  by_cases hl : i < 19
  · exact xm_rng_at xo_15_0 (Nat.zero_le _) (by omega)
  · unfold xm_ki
    have hz : (xm_code 15).length = 19 := by decide +kernel
    rw [List.getElem?_eq_none (by omega)]
theorem xo_16 (i : Nat) : xm_ki 16 i = true := by
  by_cases hl : i < 63
  · rcases (show (0 ≤ i ∧ i < 0+60) ∨ (60 ≤ i ∧ i < 60+3) by omega) with h | h
    · exact xm_rng_at xo_16_0 h.1 h.2
    · exact xm_rng_at xo_16_60 h.1 h.2
  · unfold xm_ki
    have hz : (xm_code 16).length = 63 := by decide +kernel
    rw [List.getElem?_eq_none (by omega)]
theorem xo_17 (i : Nat) : xm_ki 17 i = true := by
  by_cases hl : i < 145
  · rcases (show (0 ≤ i ∧ i < 0+60) ∨ (60 ≤ i ∧ i < 60+60) ∨ (120 ≤ i ∧ i < 120+25) by omega) with h | h | h
    · exact xm_rng_at xo_17_0 h.1 h.2
    · exact xm_rng_at xo_17_60 h.1 h.2
    · exact xm_rng_at xo_17_120 h.1 h.2
  · unfold xm_ki
    have hz : (xm_code 17).length = 145 := by decide +kernel
    rw [List.getElem?_eq_none (by omega)]
theorem xo_18 (i : Nat) : xm_ki 18 i = true := by
  by_cases hl : i < 22
  · exact xm_rng_at xo_18_0 (Nat.zero_le _) (by omega)
  · unfold xm_ki
    have hz : (xm_code 18).length = 22 := by decide +kernel
    rw [List.getElem?_eq_none (by omega)]
theorem xo_19 (i : Nat) : xm_ki 19 i = true := by
  by_cases hl : i < 8
  · exact xm_rng_at xo_19_0 (Nat.zero_le _) (by omega)
  · unfold xm_ki
    have hz : (xm_code 19).length = 8 := by decide +kernel
    rw [List.getElem?_eq_none (by omega)]
theorem xo_20 (i : Nat) : xm_ki 20 i = true := by
  by_cases hl : i < 10
  · exact xm_rng_at xo_20_0 (Nat.zero_le _) (by omega)
  · unfold xm_ki
    have hz : (xm_code 20).length = 10 := by decide +kernel
    rw [List.getElem?_eq_none (by omega)]
theorem xo_21 (i : Nat) : xm_ki 21 i = true := by
  by_cases hl : i < 55
  · exact xm_rng_at xo_21_0 (Nat.zero_le _) (by omega)
  · unfold xm_ki
    have hz : (xm_code 21).length = 55 := by decide +kernel
    rw [List.getElem?_eq_none (by omega)]
theorem xo_22 (i : Nat) : xm_ki 22 i = true := by
  by_cases hl : i < 32
  · exact xm_rng_at xo_22_0 (Nat.zero_le _) (by omega)
  · unfold xm_ki
    have hz : (xm_code 22).length = 32 := by decide +kernel
    rw [List.getElem?_eq_none (by omega)]
theorem xo_23 (i : Nat) : xm_ki 23 i = true := by
  by_cases hl : i < 13
  · exact xm_rng_at xo_23_0 (Nat.zero_le _) (by omega)
  · unfold xm_ki
    have hz : (xm_code 23).length = 13 := by decide +kernel
    rw [List.getElem?_eq_none (by omega)]
theorem xo_24 (i : Nat) : xm_ki 24 i = true := by
  by_cases hl : i < 6
  · exact xm_rng_at xo_24_0 (Nat.zero_le _) (by omega)
  · unfold xm_ki
    have hz : (xm_code 24).length = 6 := by decide +kernel
    rw [List.getElem?_eq_none (by omega)]
theorem xo_25 (i : Nat) : xm_ki 25 i = true := by
  by_cases hl : i < 22
  · exact xm_rng_at xo_25_0 (Nat.zero_le _) (by omega)
  · unfold xm_ki
    have hz : (xm_code 25).length = 22 := by decide +kernel
    rw [List.getElem?_eq_none (by omega)]
theorem xo_26 (i : Nat) : xm_ki 26 i = true := by
  by_cases hl : i < 29
  · exact xm_rng_at xo_26_0 (Nat.zero_le _) (by omega)
  · unfold xm_ki
    have hz : (xm_code 26).length = 29 := by decide +kernel
    rw [List.getElem?_eq_none (by omega)]
theorem xo_27 (i : Nat) : xm_ki 27 i = true := by
  by_cases hl : i < 22
  · exact xm_rng_at xo_27_0 (Nat.zero_le _) (by omega)
  · unfold xm_ki
    have hz : (xm_code 27).length = 22 := by decide +kernel
    rw [List.getElem?_eq_none (by omega)]
theorem xo_28 (i : Nat) : xm_ki 28 i = true := by
  by_cases hl : i < 8
  · exact xm_rng_at xo_28_0 (Nat.zero_le _) (by omega)
  · unfold xm_ki
    have hz : (xm_code 28).length = 8 := by decide +kernel
    rw [List.getElem?_eq_none (by omega)]
theorem xo_29 (i : Nat) : xm_ki 29 i = true := by
  by_cases hl : i < 54
  · exact xm_rng_at xo_29_0 (Nat.zero_le _) (by omega)
  · unfold xm_ki
    have hz : (xm_code 29).length = 54 := by decide +kernel
    rw [List.getElem?_eq_none (by omega)]
theorem xo_30 (i : Nat) : xm_ki 30 i = true := by
  by_cases hl : i < 95
  · rcases (show (0 ≤ i ∧ i < 0+60) ∨ (60 ≤ i ∧ i < 60+35) by omega) with h | h
    · exact xm_rng_at xo_30_0 h.1 h.2
    · exact xm_rng_at xo_30_60 h.1 h.2
  · unfold xm_ki
    have hz : (xm_code 30).length = 95 := by decide +kernel
    rw [List.getElem?_eq_none (by omega)]
theorem xo_31 (i : Nat) : xm_ki 31 i = true := by
  by_cases hl : i < 10
  · exact xm_rng_at xo_31_0 (Nat.zero_le _) (by omega)
  · unfold xm_ki
    have hz : (xm_code 31).length = 10 := by decide +kernel
    rw [List.getElem?_eq_none (by omega)]
theorem xo_32 (i : Nat) : xm_ki 32 i = true := by
  by_cases hl : i < 39
  · exact xm_rng_at xo_32_0 (Nat.zero_le _) (by omega)
  · unfold xm_ki
    have hz : (xm_code 32).length = 39 := by decide +kernel
    rw [List.getElem?_eq_none (by omega)]
theorem xo_33 (i : Nat) : xm_ki 33 i = true := by
  by_cases hl : i < 31
  · exact xm_rng_at xo_33_0 (Nat.zero_le _) (by omega)
  · unfold xm_ki
    have hz : (xm_code 33).length = 31 := by decide +kernel
    rw [List.getElem?_eq_none (by omega)]
theorem xo_34 (i : Nat) : xm_ki 34 i = true := by
  by_cases hl : i < 51
  · exact xm_rng_at xo_34_0 (Nat.zero_le _) (by omega)
  · unfold xm_ki
    have hz : (xm_code 34).length = 51 := by decide +kernel
    rw [List.getElem?_eq_none (by omega)]
theorem xo_35 (i : Nat) : xm_ki 35 i = true := by
  by_cases hl : i < 40
  · exact xm_rng_at xo_35_0 (Nat.zero_le _) (by omega)
  · unfold xm_ki
    have hz : (xm_code 35).length = 40 := by decide +kernel
    rw [List.getElem?_eq_none (by omega)]
theorem xo_36 (i : Nat) : xm_ki 36 i = true := by
  by_cases hl : i < 62
  · rcases (show (0 ≤ i ∧ i < 0+60) ∨ (60 ≤ i ∧ i < 60+2) by omega) with h | h
    · exact xm_rng_at xo_36_0 h.1 h.2
    · exact xm_rng_at xo_36_60 h.1 h.2
  · unfold xm_ki
    have hz : (xm_code 36).length = 62 := by decide +kernel
    rw [List.getElem?_eq_none (by omega)]
theorem xo_37 (i : Nat) : xm_ki 37 i = true := by
  by_cases hl : i < 109
  · rcases (show (0 ≤ i ∧ i < 0+60) ∨ (60 ≤ i ∧ i < 60+49) by omega) with h | h
    · exact xm_rng_at xo_37_0 h.1 h.2
    · exact xm_rng_at xo_37_60 h.1 h.2
  · unfold xm_ki
    have hz : (xm_code 37).length = 109 := by decide +kernel
    rw [List.getElem?_eq_none (by omega)]
theorem xo_38 (i : Nat) : xm_ki 38 i = true := by
  by_cases hl : i < 87
  · rcases (show (0 ≤ i ∧ i < 0+60) ∨ (60 ≤ i ∧ i < 60+27) by omega) with h | h
    · exact xm_rng_at xo_38_0 h.1 h.2
    · exact xm_rng_at xo_38_60 h.1 h.2
  · unfold xm_ki
    have hz : (xm_code 38).length = 87 := by decide +kernel
    rw [List.getElem?_eq_none (by omega)]
theorem xo_39 (i : Nat) : xm_ki 39 i = true := by
  by_cases hl : i < 572
  · rcases (show (0 ≤ i ∧ i < 0+60) ∨ (60 ≤ i ∧ i < 60+60) ∨ (120 ≤ i ∧ i < 120+60) ∨ (180 ≤ i ∧ i < 180+60) ∨ (240 ≤ i ∧ i < 240+60) ∨ (300 ≤ i ∧ i < 300+60) ∨ (360 ≤ i ∧ i < 360+60) ∨ (420 ≤ i ∧ i < 420+60) ∨ (480 ≤ i ∧ i < 480+60) ∨ (540 ≤ i ∧ i < 540+32) by omega) with h | h | h | h | h | h | h | h | h | h
    · exact xm_rng_at xo_39_0 h.1 h.2
    · exact xm_rng_at xo_39_60 h.1 h.2
    · exact xm_rng_at xo_39_120 h.1 h.2
    · exact xm_rng_at xo_39_180 h.1 h.2
    · exact xm_rng_at xo_39_240 h.1 h.2
    · exact xm_rng_at xo_39_300 h.1 h.2
    · exact xm_rng_at xo_39_360 h.1 h.2
    · exact xm_rng_at xo_39_420 h.1 h.2
    · exact xm_rng_at xo_39_480 h.1 h.2
    · exact xm_rng_at xo_39_540 h.1 h.2
  · unfold xm_ki
    have hz : (xm_code 39).length = 572 := by decide +kernel
    rw [List.getElem?_eq_none (by omega)]
theorem xo_40 (i : Nat) : xm_ki 40 i = true := by
  by_cases hl : i < 42
  · exact xm_rng_at xo_40_0 (Nat.zero_le _) (by omega)
  · unfold xm_ki
    have hz : (xm_code 40).length = 42 := by decide +kernel
    rw [List.getElem?_eq_none (by omega)]
theorem xo_41 (i : Nat) : xm_ki 41 i = true := by
  by_cases hl : i < 17
  · exact xm_rng_at xo_41_0 (Nat.zero_le _) (by omega)
  · unfold xm_ki
    have hz : (xm_code 41).length = 17 := by decide +kernel
    rw [List.getElem?_eq_none (by omega)]
theorem xo_42 (i : Nat) : xm_ki 42 i = true := by
  by_cases hl : i < 37
  · exact xm_rng_at xo_42_0 (Nat.zero_le _) (by omega)
  · unfold xm_ki
    have hz : (xm_code 42).length = 37 := by decide +kernel
    rw [List.getElem?_eq_none (by omega)]
theorem xo_43 (i : Nat) : xm_ki 43 i = true := by
  by_cases hl : i < 150
  · rcases (show (0 ≤ i ∧ i < 0+60) ∨ (60 ≤ i ∧ i < 60+60) ∨ (120 ≤ i ∧ i < 120+30) by omega) with h | h | h
    · exact xm_rng_at xo_43_0 h.1 h.2
    · exact xm_rng_at xo_43_60 h.1 h.2
    · exact xm_rng_at xo_43_120 h.1 h.2
  · unfold xm_ki
    have hz : (xm_code 43).length = 150 := by decide +kernel
    rw [List.getElem?_eq_none (by omega)]
theorem xo_44 (i : Nat) : xm_ki 44 i = true := by
  by_cases hl : i < 22
  · exact xm_rng_at xo_44_0 (Nat.zero_le _) (by omega)
  · unfold xm_ki
    have hz : (xm_code 44).length = 22 := by decide +kernel
    rw [List.getElem?_eq_none (by omega)]
theorem xo_45 (i : Nat) : xm_ki 45 i = true := by
  by_cases hl : i < 9
  · exact xm_rng_at xo_45_0 (Nat.zero_le _) (by omega)
  · unfold xm_ki
    have hz : (xm_code 45).length = 9 := by decide +kernel
    rw [List.getElem?_eq_none (by omega)]
theorem xo_46 (i : Nat) : xm_ki 46 i = true := by
  by_cases hl : i < 10
  · exact xm_rng_at xo_46_0 (Nat.zero_le _) (by omega)
  · unfold xm_ki
    have hz : (xm_code 46).length = 10 := by decide +kernel
    rw [List.getElem?_eq_none (by omega)]
theorem xo_47 (i : Nat) : xm_ki 47 i = true := by
  by_cases hl : i < 8
  · exact xm_rng_at xo_47_0 (Nat.zero_le _) (by omega)
  · unfold xm_ki
    have hz : (xm_code 47).length = 8 := by decide +kernel
    rw [List.getElem?_eq_none (by omega)]
theorem xo_48 (i : Nat) : xm_ki 48 i = true := by
  by_cases hl : i < 12
  · exact xm_rng_at xo_48_0 (Nat.zero_le _) (by omega)
  · unfold xm_ki
    have hz : (xm_code 48).length = 12 := by decide +kernel
    rw [List.getElem?_eq_none (by omega)]
theorem xo_49 (i : Nat) : xm_ki 49 i = true := by
  by_cases hl : i < 29
  · exact xm_rng_at xo_49_0 (Nat.zero_le _) (by omega)
  · unfold xm_ki
    have hz : (xm_code 49).length = 29 := by decide +kernel
    rw [List.getElem?_eq_none (by omega)]
theorem xo_50 (i : Nat) : xm_ki 50 i = true := by
  by_cases hl : i < 24
  · exact xm_rng_at xo_50_0 (Nat.zero_le _) (by omega)
  · unfold xm_ki
    have hz : (xm_code 50).length = 24 := by decide +kernel
    rw [List.getElem?_eq_none (by omega)]
theorem xo_51 (i : Nat) : xm_ki 51 i = true := by
  by_cases hl : i < 18
  · exact xm_rng_at xo_51_0 (Nat.zero_le _) (by omega)
  · unfold xm_ki
    have hz : (xm_code 51).length = 18 := by decide +kernel
    rw [List.getElem?_eq_none (by omega)]
theorem xo_52 (i : Nat) : xm_ki 52 i = true := by
  by_cases hl : i < 43
  · exact xm_rng_at xo_52_0 (Nat.zero_le _) (by omega)
  · unfold xm_ki
    have hz : (xm_code 52).length = 43 := by decide +kernel
    rw [List.getElem?_eq_none (by omega)]
theorem xo_53 (i : Nat) : xm_ki 53 i = true := by
  by_cases hl : i < 74
  · rcases (show (0 ≤ i ∧ i < 0+60) ∨ (60 ≤ i ∧ i < 60+14) by omega) with h | h
    · exact xm_rng_at xo_53_0 h.1 h.2
    · exact xm_rng_at xo_53_60 h.1 h.2
  · unfold xm_ki
    have hz : (xm_code 53).length = 74 := by decide +kernel
    rw [List.getElem?_eq_none (by omega)]
theorem xo_54 (i : Nat) : xm_ki 54 i = true := by
  by_cases hl : i < 12
  · exact xm_rng_at xo_54_0 (Nat.zero_le _) (by omega)
  · unfold xm_ki
    have hz : (xm_code 54).length = 12 := by decide +kernel
    rw [List.getElem?_eq_none (by omega)]
theorem xo_55 (i : Nat) : xm_ki 55 i = true := by
  by_cases hl : i < 19
  · exact xm_rng_at xo_55_0 (Nat.zero_le _) (by omega)
  · unfold xm_ki
    have hz : (xm_code 55).length = 19 := by decide +kernel
    rw [List.getElem?_eq_none (by omega)]
theorem xo_56 (i : Nat) : xm_ki 56 i = true := by
  by_cases hl : i < 13
  · exact xm_rng_at xo_56_0 (Nat.zero_le _) (by omega)
  · unfold xm_ki
    have hz : (xm_code 56).length = 13 := by decide +kernel
    rw [List.getElem?_eq_none (by omega)]
theorem xo_57 (i : Nat) : xm_ki 57 i = true := by
  by_cases hl : i < 12
  · exact xm_rng_at xo_57_0 (Nat.zero_le _) (by omega)
  · unfold xm_ki
    have hz : (xm_code 57).length = 12 := by decide +kernel
    rw [List.getElem?_eq_none (by omega)]
theorem xo_58 (i : Nat) : xm_ki 58 i = true := by
  by_cases hl : i < 10
  · exact xm_rng_at xo_58_0 (Nat.zero_le _) (by omega)
  · unfold xm_ki
    have hz : (xm_code 58).length = 10 := by decide +kernel
    rw [List.getElem?_eq_none (by omega)]
theorem xo_59 (i : Nat) : xm_ki 59 i = true := by
  by_cases hl : i < 18
  · exact xm_rng_at xo_59_0 (Nat.zero_le _) (by omega)
  · unfold xm_ki
    have hz : (xm_code 59).length = 18 := by decide +kernel
    rw [List.getElem?_eq_none (by omega)]
theorem xo_60 (i : Nat) : xm_ki 60 i = true := by
  by_cases hl : i < 17
  · exact xm_rng_at xo_60_0 (Nat.zero_le _) (by omega)
  · unfold xm_ki
    have hz : (xm_code 60).length = 17 := by decide +kernel
    rw [List.getElem?_eq_none (by omega)]
theorem xo_61 (i : Nat) : xm_ki 61 i = true := by
  by_cases hl : i < 18
  · exact xm_rng_at xo_61_0 (Nat.zero_le _) (by omega)
  · unfold xm_ki
    have hz : (xm_code 61).length = 18 := by decide +kernel
    rw [List.getElem?_eq_none (by omega)]
theorem xo_62 (i : Nat) : xm_ki 62 i = true := by
  by_cases hl : i < 10
  · exact xm_rng_at xo_62_0 (Nat.zero_le _) (by omega)
  · unfold xm_ki
    have hz : (xm_code 62).length = 10 := by decide +kernel
    rw [List.getElem?_eq_none (by omega)]
theorem xo_63 (i : Nat) : xm_ki 63 i = true := by
  by_cases hl : i < 73
  · rcases (show (0 ≤ i ∧ i < 0+60) ∨ (60 ≤ i ∧ i < 60+13) by omega) with h | h
    · exact xm_rng_at xo_63_0 h.1 h.2
    · exact xm_rng_at xo_63_60 h.1 h.2
  · unfold xm_ki
    have hz : (xm_code 63).length = 73 := by decide +kernel
    rw [List.getElem?_eq_none (by omega)]
theorem xo_64 (i : Nat) : xm_ki 64 i = true := by
  by_cases hl : i < 77
  · rcases (show (0 ≤ i ∧ i < 0+60) ∨ (60 ≤ i ∧ i < 60+17) by omega) with h | h
    · exact xm_rng_at xo_64_0 h.1 h.2
    · exact xm_rng_at xo_64_60 h.1 h.2
  · unfold xm_ki
    have hz : (xm_code 64).length = 77 := by decide +kernel
    rw [List.getElem?_eq_none (by omega)]
theorem xo_65 (i : Nat) : xm_ki 65 i = true := by
  by_cases hl : i < 29
  · exact xm_rng_at xo_65_0 (Nat.zero_le _) (by omega)
  · unfold xm_ki
    have hz : (xm_code 65).length = 29 := by decide +kernel
    rw [List.getElem?_eq_none (by omega)]
theorem xo_66 (i : Nat) : xm_ki 66 i = true := by
  by_cases hl : i < 11
  · exact xm_rng_at xo_66_0 (Nat.zero_le _) (by omega)
  · unfold xm_ki
    have hz : (xm_code 66).length = 11 := by decide +kernel
    rw [List.getElem?_eq_none (by omega)]
theorem xo_67 (i : Nat) : xm_ki 67 i = true := by
  by_cases hl : i < 52
  · exact xm_rng_at xo_67_0 (Nat.zero_le _) (by omega)
  · unfold xm_ki
    have hz : (xm_code 67).length = 52 := by decide +kernel
    rw [List.getElem?_eq_none (by omega)]
theorem xo_68 (i : Nat) : xm_ki 68 i = true := by
  by_cases hl : i < 54
  · exact xm_rng_at xo_68_0 (Nat.zero_le _) (by omega)
  · unfold xm_ki
    have hz : (xm_code 68).length = 54 := by decide +kernel
    rw [List.getElem?_eq_none (by omega)]
theorem xo_69 (i : Nat) : xm_ki 69 i = true := by
  by_cases hl : i < 82
  · rcases (show (0 ≤ i ∧ i < 0+60) ∨ (60 ≤ i ∧ i < 60+22) by omega) with h | h
    · exact xm_rng_at xo_69_0 h.1 h.2
    · exact xm_rng_at xo_69_60 h.1 h.2
  · unfold xm_ki
    have hz : (xm_code 69).length = 82 := by decide +kernel
    rw [List.getElem?_eq_none (by omega)]
theorem xo_70 (i : Nat) : xm_ki 70 i = true := by
  by_cases hl : i < 34
  · exact xm_rng_at xo_70_0 (Nat.zero_le _) (by omega)
  · unfold xm_ki
    have hz : (xm_code 70).length = 34 := by decide +kernel
    rw [List.getElem?_eq_none (by omega)]
theorem xo_71 (i : Nat) : xm_ki 71 i = true := by
  by_cases hl : i < 26
  · exact xm_rng_at xo_71_0 (Nat.zero_le _) (by omega)
  · unfold xm_ki
    have hz : (xm_code 71).length = 26 := by decide +kernel
    rw [List.getElem?_eq_none (by omega)]
theorem xo_72 (i : Nat) : xm_ki 72 i = true := by
  by_cases hl : i < 27
  · exact xm_rng_at xo_72_0 (Nat.zero_le _) (by omega)
  · unfold xm_ki
    have hz : (xm_code 72).length = 27 := by decide +kernel
    rw [List.getElem?_eq_none (by omega)]
theorem xo_73 (i : Nat) : xm_ki 73 i = true := by
  by_cases hl : i < 40
  · exact xm_rng_at xo_73_0 (Nat.zero_le _) (by omega)
  · unfold xm_ki
    have hz : (xm_code 73).length = 40 := by decide +kernel
    rw [List.getElem?_eq_none (by omega)]
theorem xo_74 (i : Nat) : xm_ki 74 i = true := by
  by_cases hl : i < 32
  · exact xm_rng_at xo_74_0 (Nat.zero_le _) (by omega)
  · unfold xm_ki
    have hz : (xm_code 74).length = 32 := by decide +kernel
    rw [List.getElem?_eq_none (by omega)]
theorem xo_75 (i : Nat) : xm_ki 75 i = true := by
  by_cases hl : i < 10
  · exact xm_rng_at xo_75_0 (Nat.zero_le _) (by omega)
  · unfold xm_ki
    have hz : (xm_code 75).length = 10 := by decide +kernel
    rw [List.getElem?_eq_none (by omega)]
theorem xo_76 (i : Nat) : xm_ki 76 i = true := by
  by_cases hl : i < 22
  · exact xm_rng_at xo_76_0 (Nat.zero_le _) (by omega)
  · unfold xm_ki
    have hz : (xm_code 76).length = 22 := by decide +kernel
    rw [List.getElem?_eq_none (by omega)]
theorem xo_77 (i : Nat) : xm_ki 77 i = true := by
  by_cases hl : i < 56
  · exact xm_rng_at xo_77_0 (Nat.zero_le _) (by omega)
  · unfold xm_ki
    have hz : (xm_code 77).length = 56 := by decide +kernel
    rw [List.getElem?_eq_none (by omega)]
theorem xo_78 (i : Nat) : xm_ki 78 i = true := by
  by_cases hl : i < 34
  · exact xm_rng_at xo_78_0 (Nat.zero_le _) (by omega)
  · unfold xm_ki
    have hz : (xm_code 78).length = 34 := by decide +kernel
    rw [List.getElem?_eq_none (by omega)]
theorem xo_79 (i : Nat) : xm_ki 79 i = true := by
  by_cases hl : i < 10
  · exact xm_rng_at xo_79_0 (Nat.zero_le _) (by omega)
  · unfold xm_ki
    have hz : (xm_code 79).length = 10 := by decide +kernel
    rw [List.getElem?_eq_none (by omega)]
theorem xo_80 (i : Nat) : xm_ki 80 i = true := by
  by_cases hl : i < 66
  · rcases (show (0 ≤ i ∧ i < 0+60) ∨ (60 ≤ i ∧ i < 60+6) by omega) with h | h
    · exact xm_rng_at xo_80_0 h.1 h.2
    · exact xm_rng_at xo_80_60 h.1 h.2
  · unfold xm_ki
    have hz : (xm_code 80).length = 66 := by decide +kernel
    rw [List.getElem?_eq_none (by omega)]
theorem xo_81 (i : Nat) : xm_ki 81 i = true := by
  by_cases hl : i < 30
  · exact xm_rng_at xo_81_0 (Nat.zero_le _) (by omega)
  · unfold xm_ki
    have hz : (xm_code 81).length = 30 := by decide +kernel
    rw [List.getElem?_eq_none (by omega)]
theorem xo_82 (i : Nat) : xm_ki 82 i = true := by
  by_cases hl : i < 14
  · exact xm_rng_at xo_82_0 (Nat.zero_le _) (by omega)
  · unfold xm_ki
    have hz : (xm_code 82).length = 14 := by decide +kernel
    rw [List.getElem?_eq_none (by omega)]
theorem xo_83 (i : Nat) : xm_ki 83 i = true := by
  by_cases hl : i < 10
  · exact xm_rng_at xo_83_0 (Nat.zero_le _) (by omega)
  · unfold xm_ki
    have hz : (xm_code 83).length = 10 := by decide +kernel
    rw [List.getElem?_eq_none (by omega)]
theorem xo_84 (i : Nat) : xm_ki 84 i = true := by
  by_cases hl : i < 6
  · exact xm_rng_at xo_84_0 (Nat.zero_le _) (by omega)
  · unfold xm_ki
    have hz : (xm_code 84).length = 6 := by decide +kernel
    rw [List.getElem?_eq_none (by omega)]
theorem xo_85 (i : Nat) : xm_ki 85 i = true := by
  by_cases hl : i < 28
  · exact xm_rng_at xo_85_0 (Nat.zero_le _) (by omega)
  · unfold xm_ki
    have hz : (xm_code 85).length = 28 := by decide +kernel
    rw [List.getElem?_eq_none (by omega)]
theorem xo_86 (i : Nat) : xm_ki 86 i = true := by
  by_cases hl : i < 4
  · exact xm_rng_at xo_86_0 (Nat.zero_le _) (by omega)
  · unfold xm_ki
    have hz : (xm_code 86).length = 4 := by decide +kernel
    rw [List.getElem?_eq_none (by omega)]
theorem xo_87 (i : Nat) : xm_ki 87 i = true := by
  by_cases hl : i < 39
  · exact xm_rng_at xo_87_0 (Nat.zero_le _) (by omega)
  · unfold xm_ki
    have hz : (xm_code 87).length = 39 := by decide +kernel
    rw [List.getElem?_eq_none (by omega)]
theorem xo_88 (i : Nat) : xm_ki 88 i = true := by
  by_cases hl : i < 40
  · exact xm_rng_at xo_88_0 (Nat.zero_le _) (by omega)
  · unfold xm_ki
    have hz : (xm_code 88).length = 40 := by decide +kernel
    rw [List.getElem?_eq_none (by omega)]
theorem xo_89 (i : Nat) : xm_ki 89 i = true := by
  by_cases hl : i < 17
  · exact xm_rng_at xo_89_0 (Nat.zero_le _) (by omega)
  · unfold xm_ki
    have hz : (xm_code 89).length = 17 := by decide +kernel
    rw [List.getElem?_eq_none (by omega)]
theorem xo_90 (i : Nat) : xm_ki 90 i = true := by
  by_cases hl : i < 23
  · exact xm_rng_at xo_90_0 (Nat.zero_le _) (by omega)
  · unfold xm_ki
    have hz : (xm_code 90).length = 23 := by decide +kernel
    rw [List.getElem?_eq_none (by omega)]
theorem xo_91 (i : Nat) : xm_ki 91 i = true := by
  by_cases hl : i < 18
  · exact xm_rng_at xo_91_0 (Nat.zero_le _) (by omega)
  · unfold xm_ki
    have hz : (xm_code 91).length = 18 := by decide +kernel
    rw [List.getElem?_eq_none (by omega)]
theorem xo_92 (i : Nat) : xm_ki 92 i = true := by
  by_cases hl : i < 49
  · exact xm_rng_at xo_92_0 (Nat.zero_le _) (by omega)
  · unfold xm_ki
    have hz : (xm_code 92).length = 49 := by decide +kernel
    rw [List.getElem?_eq_none (by omega)]
theorem xo_93 (i : Nat) : xm_ki 93 i = true := by
  by_cases hl : i < 37
  · exact xm_rng_at xo_93_0 (Nat.zero_le _) (by omega)
  · unfold xm_ki
    have hz : (xm_code 93).length = 37 := by decide +kernel
    rw [List.getElem?_eq_none (by omega)]
theorem xo_94 (i : Nat) : xm_ki 94 i = true := by
  by_cases hl : i < 48
  · exact xm_rng_at xo_94_0 (Nat.zero_le _) (by omega)
  · unfold xm_ki
    have hz : (xm_code 94).length = 48 := by decide +kernel
    rw [List.getElem?_eq_none (by omega)]
theorem xo_95 (i : Nat) : xm_ki 95 i = true := by
  by_cases hl : i < 18
  · exact xm_rng_at xo_95_0 (Nat.zero_le _) (by omega)
  · unfold xm_ki
    have hz : (xm_code 95).length = 18 := by decide +kernel
    rw [List.getElem?_eq_none (by omega)]
theorem xo_96 (i : Nat) : xm_ki 96 i = true := by
  by_cases hl : i < 27
  · exact xm_rng_at xo_96_0 (Nat.zero_le _) (by omega)
  · unfold xm_ki
    have hz : (xm_code 96).length = 27 := by decide +kernel
    rw [List.getElem?_eq_none (by omega)]
theorem xo_97 (i : Nat) : xm_ki 97 i = true := by
  by_cases hl : i < 49
  · exact xm_rng_at xo_97_0 (Nat.zero_le _) (by omega)
  · unfold xm_ki
    have hz : (xm_code 97).length = 49 := by decide +kernel
    rw [List.getElem?_eq_none (by omega)]
theorem xo_98 (i : Nat) : xm_ki 98 i = true := by
  by_cases hl : i < 37
  · exact xm_rng_at xo_98_0 (Nat.zero_le _) (by omega)
  · unfold xm_ki
    have hz : (xm_code 98).length = 37 := by decide +kernel
    rw [List.getElem?_eq_none (by omega)]
theorem xo_99 (i : Nat) : xm_ki 99 i = true := by
  by_cases hl : i < 59
  · exact xm_rng_at xo_99_0 (Nat.zero_le _) (by omega)
  · unfold xm_ki
    have hz : (xm_code 99).length = 59 := by decide +kernel
    rw [List.getElem?_eq_none (by omega)]
theorem xo_100 (i : Nat) : xm_ki 100 i = true := by
  by_cases hl : i < 95
  · rcases (show (0 ≤ i ∧ i < 0+60) ∨ (60 ≤ i ∧ i < 60+35) by omega) with h | h
    · exact xm_rng_at xo_100_0 h.1 h.2
    · exact xm_rng_at xo_100_60 h.1 h.2
  · unfold xm_ki
    have hz : (xm_code 100).length = 95 := by decide +kernel
    rw [List.getElem?_eq_none (by omega)]
theorem xo_101 (i : Nat) : xm_ki 101 i = true := by
  by_cases hl : i < 59
  · exact xm_rng_at xo_101_0 (Nat.zero_le _) (by omega)
  · unfold xm_ki
    have hz : (xm_code 101).length = 59 := by decide +kernel
    rw [List.getElem?_eq_none (by omega)]
theorem xm_ok : ∀ y i : Nat, xm_ki y i = true := by
  intro y i
  match y with
  | 0 => exact xo_0 i
  | 1 => exact xo_1 i
  | 2 => exact xo_2 i
  | 3 => exact xo_3 i
  | 4 => exact xo_4 i
  | 5 => exact xo_5 i
  | 6 => exact xo_6 i
  | 7 => exact xo_7 i
  | 8 => exact xo_8 i
  | 9 => exact xo_9 i
  | 10 => exact xo_10 i
  | 11 => exact xo_11 i
  | 12 => exact xo_12 i
  | 13 => exact xo_13 i
  | 14 => exact xo_14 i
  | 15 => exact xo_15 i
  | 16 => exact xo_16 i
  | 17 => exact xo_17 i
  | 18 => exact xo_18 i
  | 19 => exact xo_19 i
  | 20 => exact xo_20 i
  | 21 => exact xo_21 i
  | 22 => exact xo_22 i
  | 23 => exact xo_23 i
  | 24 => exact xo_24 i
  | 25 => exact xo_25 i
  | 26 => exact xo_26 i
  | 27 => exact xo_27 i
  | 28 => exact xo_28 i
  | 29 => exact xo_29 i
  | 30 => exact xo_30 i
  | 31 => exact xo_31 i
  | 32 => exact xo_32 i
  | 33 => exact xo_33 i
  | 34 => exact xo_34 i
  | 35 => exact xo_35 i
  | 36 => exact xo_36 i
  | 37 => exact xo_37 i
  | 38 => exact xo_38 i
  | 39 => exact xo_39 i
  | 40 => exact xo_40 i
  | 41 => exact xo_41 i
  | 42 => exact xo_42 i
  | 43 => exact xo_43 i
  | 44 => exact xo_44 i
  | 45 => exact xo_45 i
  | 46 => exact xo_46 i
  | 47 => exact xo_47 i
  | 48 => exact xo_48 i
  | 49 => exact xo_49 i
  | 50 => exact xo_50 i
  | 51 => exact xo_51 i
  | 52 => exact xo_52 i
  | 53 => exact xo_53 i
  | 54 => exact xo_54 i
  | 55 => exact xo_55 i
  | 56 => exact xo_56 i
  | 57 => exact xo_57 i
  | 58 => exact xo_58 i
  | 59 => exact xo_59 i
  | 60 => exact xo_60 i
  | 61 => exact xo_61 i
  | 62 => exact xo_62 i
  | 63 => exact xo_63 i
  | 64 => exact xo_64 i
  | 65 => exact xo_65 i
  | 66 => exact xo_66 i
  | 67 => exact xo_67 i
  | 68 => exact xo_68 i
  | 69 => exact xo_69 i
  | 70 => exact xo_70 i
  | 71 => exact xo_71 i
  | 72 => exact xo_72 i
  | 73 => exact xo_73 i
  | 74 => exact xo_74 i
  | 75 => exact xo_75 i
  | 76 => exact xo_76 i
  | 77 => exact xo_77 i
  | 78 => exact xo_78 i
  | 79 => exact xo_79 i
  | 80 => exact xo_80 i
  | 81 => exact xo_81 i
  | 82 => exact xo_82 i
  | 83 => exact xo_83 i
  | 84 => exact xo_84 i
  | 85 => exact xo_85 i
  | 86 => exact xo_86 i
  | 87 => exact xo_87 i
  | 88 => exact xo_88 i
  | 89 => exact xo_89 i
  | 90 => exact xo_90 i
  | 91 => exact xo_91 i
  | 92 => exact xo_92 i
  | 93 => exact xo_93 i
  | 94 => exact xo_94 i
  | 95 => exact xo_95 i
  | 96 => exact xo_96 i
  | 97 => exact xo_97 i
  | 98 => exact xo_98 i
  | 99 => exact xo_99 i
  | 100 => exact xo_100 i
  | 101 => exact xo_101 i
  | (k + 102) => rfl
