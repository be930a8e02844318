theorem fX0_9 : eFl RX0 9 0 0 := ⟨(RX0, TX0, 6), rfl, by decide, by decide, rfl, rfl, Or.inl (eMem 1 36 rfl rfl)⟩
theorem fX0_15 : eFl RX0 15 0 1 := ⟨(RX0, TX0, 6), rfl, by decide, by decide, rfl, rfl, Or.inl (eMem 1 42 rfl rfl)⟩
theorem fX0_18 : eFl RX0 18 0 2 := ⟨(RX0, TX0, 6), rfl, by decide, by decide, rfl, rfl, Or.inl (eMem 1 48 rfl rfl)⟩
theorem fX0_21 : eFl RX0 21 0 3 := ⟨(RX0, TX0, 6), rfl, by decide, by decide, rfl, rfl, Or.inl (eMem 1 51 rfl rfl)⟩
theorem fX0_25 : eFl RX0 25 0 4 := ⟨(RX0, TX0, 6), rfl, by decide, by decide, rfl, rfl, Or.inl (eMem 1 53 rfl rfl)⟩
theorem fX0_28 : eFl RX0 28 0 5 := ⟨(RX0, TX0, 6), rfl, by decide, by decide, rfl, rfl, Or.inl (eMem 1 55 rfl rfl)⟩
theorem fX1_11 : eFl RX1 11 1 0 := ⟨(RX1, TX1, 2), rfl, by decide, by decide, rfl, rfl, Or.inl (eMem 1 77 rfl rfl)⟩
theorem fX1_15 : eFl RX1 15 1 1 := ⟨(RX1, TX1, 2), rfl, by decide, by decide, rfl, rfl, Or.inl (eMem 1 78 rfl rfl)⟩
theorem fX1_25 : eFl RX1 25 0 3 := ⟨(RX0, TX0, 6), rfl, by decide, by decide, rfl, rfl, Or.inr ⟨"EaveRoofs", eMem0 1 52 rfl⟩⟩
theorem fX1_30 : eFl RX1 30 0 4 := ⟨(RX0, TX0, 6), rfl, by decide, by decide, rfl, rfl, Or.inr ⟨"EaveRoofs", eMem0 1 54 rfl⟩⟩
theorem fX2_7 : eFl RX2 7 2 0 := ⟨(RX2, TX2, 2), rfl, by decide, by decide, rfl, rfl, Or.inl (eMem 1 203 rfl rfl)⟩
theorem fX2_13 : eFl RX2 13 2 1 := ⟨(RX2, TX2, 2), rfl, by decide, by decide, rfl, rfl, Or.inl (eMem 1 204 rfl rfl)⟩
theorem fX3_12 : eFl RX3 12 3 1 := ⟨(RX3, TX3, 9), rfl, by decide, by decide, rfl, rfl, Or.inl (eMem 1 94 rfl rfl)⟩
theorem fX3_18 : eFl RX3 18 3 2 := ⟨(RX3, TX3, 9), rfl, by decide, by decide, rfl, rfl, Or.inl (eMem 1 96 rfl rfl)⟩
theorem fX3_22 : eFl RX3 22 3 3 := ⟨(RX3, TX3, 9), rfl, by decide, by decide, rfl, rfl, Or.inl (eMem 1 97 rfl rfl)⟩
theorem fX3_25 : eFl RX3 25 3 4 := ⟨(RX3, TX3, 9), rfl, by decide, by decide, rfl, rfl, Or.inl (eMem 1 98 rfl rfl)⟩
theorem fX3_28 : eFl RX3 28 3 5 := ⟨(RX3, TX3, 9), rfl, by decide, by decide, rfl, rfl, Or.inl (eMem 1 99 rfl rfl)⟩
theorem fX3_31 : eFl RX3 31 3 6 := ⟨(RX3, TX3, 9), rfl, by decide, by decide, rfl, rfl, Or.inl (eMem 1 100 rfl rfl)⟩
theorem fX3_35 : eFl RX3 35 3 7 := ⟨(RX3, TX3, 9), rfl, by decide, by decide, rfl, rfl, Or.inl (eMem 1 101 rfl rfl)⟩
theorem fX3_38 : eFl RX3 38 3 8 := ⟨(RX3, TX3, 9), rfl, by decide, by decide, rfl, rfl, Or.inl (eMem 1 103 rfl rfl)⟩
theorem fX3_41 : eFl RX3 41 3 0 := ⟨(RX3, TX3, 9), rfl, by decide, by decide, rfl, rfl, Or.inl (eMem 1 93 rfl rfl)⟩
theorem fX3_79 : eFl RX3 79 0 2 := ⟨(RX0, TX0, 6), rfl, by decide, by decide, rfl, rfl, Or.inr ⟨"EaveRoofs", eMem0 1 49 rfl⟩⟩
theorem fX3_88 : eFl RX3 88 0 1 := ⟨(RX0, TX0, 6), rfl, by decide, by decide, rfl, rfl, Or.inr ⟨"EaveRoofs", eMem0 1 46 rfl⟩⟩
theorem fX3_91 : eFl RX3 91 0 0 := ⟨(RX0, TX0, 6), rfl, by decide, by decide, rfl, rfl, Or.inr ⟨"EaveRoofs", eMem0 1 38 rfl⟩⟩
theorem fX4_9 : eFl RX4 9 4 1 := ⟨(RX4, TX4, 10), rfl, by decide, by decide, rfl, rfl, Or.inl (eMem 1 211 rfl rfl)⟩
theorem fX4_15 : eFl RX4 15 4 2 := ⟨(RX4, TX4, 10), rfl, by decide, by decide, rfl, rfl, Or.inl (eMem 1 212 rfl rfl)⟩
theorem fX4_18 : eFl RX4 18 4 3 := ⟨(RX4, TX4, 10), rfl, by decide, by decide, rfl, rfl, Or.inl (eMem 1 213 rfl rfl)⟩
theorem fX4_21 : eFl RX4 21 4 4 := ⟨(RX4, TX4, 10), rfl, by decide, by decide, rfl, rfl, Or.inl (eMem 1 214 rfl rfl)⟩
theorem fX4_24 : eFl RX4 24 4 5 := ⟨(RX4, TX4, 10), rfl, by decide, by decide, rfl, rfl, Or.inl (eMem 1 215 rfl rfl)⟩
theorem fX4_27 : eFl RX4 27 4 6 := ⟨(RX4, TX4, 10), rfl, by decide, by decide, rfl, rfl, Or.inl (eMem 1 216 rfl rfl)⟩
theorem fX4_33 : eFl RX4 33 4 7 := ⟨(RX4, TX4, 10), rfl, by decide, by decide, rfl, rfl, Or.inl (eMem 1 217 rfl rfl)⟩
theorem fX4_37 : eFl RX4 37 4 8 := ⟨(RX4, TX4, 10), rfl, by decide, by decide, rfl, rfl, Or.inl (eMem 1 218 rfl rfl)⟩
theorem fX4_41 : eFl RX4 41 4 9 := ⟨(RX4, TX4, 10), rfl, by decide, by decide, rfl, rfl, Or.inl (eMem 1 220 rfl rfl)⟩
theorem fX4_45 : eFl RX4 45 4 0 := ⟨(RX4, TX4, 10), rfl, by decide, by decide, rfl, rfl, Or.inl (eMem 1 210 rfl rfl)⟩
theorem fX4_61 : eFl RX4 61 0 1 := ⟨(RX0, TX0, 6), rfl, by decide, by decide, rfl, rfl, Or.inr ⟨"EaveRoofs", eMem0 1 45 rfl⟩⟩
theorem fX4_112 : eFl RX4 112 0 0 := ⟨(RX0, TX0, 6), rfl, by decide, by decide, rfl, rfl, Or.inr ⟨"EaveRoofs", eMem0 1 40 rfl⟩⟩
theorem fX5_9 : eFl RX5 9 5 2 := ⟨(RX5, TX5, 12), rfl, by decide, by decide, rfl, rfl, Or.inl (eMem 1 156 rfl rfl)⟩
theorem fX5_15 : eFl RX5 15 5 3 := ⟨(RX5, TX5, 12), rfl, by decide, by decide, rfl, rfl, Or.inl (eMem 1 157 rfl rfl)⟩
theorem fX5_18 : eFl RX5 18 5 4 := ⟨(RX5, TX5, 12), rfl, by decide, by decide, rfl, rfl, Or.inl (eMem 1 158 rfl rfl)⟩
theorem fX5_21 : eFl RX5 21 5 5 := ⟨(RX5, TX5, 12), rfl, by decide, by decide, rfl, rfl, Or.inl (eMem 1 159 rfl rfl)⟩
theorem fX5_24 : eFl RX5 24 5 6 := ⟨(RX5, TX5, 12), rfl, by decide, by decide, rfl, rfl, Or.inl (eMem 1 160 rfl rfl)⟩
theorem fX5_27 : eFl RX5 27 5 7 := ⟨(RX5, TX5, 12), rfl, by decide, by decide, rfl, rfl, Or.inl (eMem 1 161 rfl rfl)⟩
theorem fX5_32 : eFl RX5 32 5 8 := ⟨(RX5, TX5, 12), rfl, by decide, by decide, rfl, rfl, Or.inl (eMem 1 162 rfl rfl)⟩
theorem fX5_35 : eFl RX5 35 5 9 := ⟨(RX5, TX5, 12), rfl, by decide, by decide, rfl, rfl, Or.inl (eMem 1 163 rfl rfl)⟩
theorem fX5_39 : eFl RX5 39 5 10 := ⟨(RX5, TX5, 12), rfl, by decide, by decide, rfl, rfl, Or.inl (eMem 1 164 rfl rfl)⟩
theorem fX5_42 : eFl RX5 42 5 11 := ⟨(RX5, TX5, 12), rfl, by decide, by decide, rfl, rfl, Or.inl (eMem 1 165 rfl rfl)⟩
theorem fX5_45 : eFl RX5 45 5 0 := ⟨(RX5, TX5, 12), rfl, by decide, by decide, rfl, rfl, Or.inl (eMem 1 154 rfl rfl)⟩
theorem fX5_49 : eFl RX5 49 5 1 := ⟨(RX5, TX5, 12), rfl, by decide, by decide, rfl, rfl, Or.inl (eMem 1 155 rfl rfl)⟩
theorem fX5_62 : eFl RX5 62 0 1 := ⟨(RX0, TX0, 6), rfl, by decide, by decide, rfl, rfl, Or.inr ⟨"EaveRoofs", eMem0 1 44 rfl⟩⟩
theorem fX5_125 : eFl RX5 125 0 0 := ⟨(RX0, TX0, 6), rfl, by decide, by decide, rfl, rfl, Or.inr ⟨"EaveRoofs", eMem0 1 41 rfl⟩⟩
theorem fX6_11 : eFl RX6 11 6 1 := ⟨(RX6, TX6, 5), rfl, by decide, by decide, rfl, rfl, Or.inl (eMem 1 131 rfl rfl)⟩
theorem fX6_15 : eFl RX6 15 6 2 := ⟨(RX6, TX6, 5), rfl, by decide, by decide, rfl, rfl, Or.inl (eMem 1 132 rfl rfl)⟩
theorem fX6_18 : eFl RX6 18 6 3 := ⟨(RX6, TX6, 5), rfl, by decide, by decide, rfl, rfl, Or.inl (eMem 1 133 rfl rfl)⟩
theorem fX6_22 : eFl RX6 22 6 4 := ⟨(RX6, TX6, 5), rfl, by decide, by decide, rfl, rfl, Or.inl (eMem 1 135 rfl rfl)⟩
theorem fX6_26 : eFl RX6 26 6 0 := ⟨(RX6, TX6, 5), rfl, by decide, by decide, rfl, rfl, Or.inl (eMem 1 130 rfl rfl)⟩
theorem fX6_36 : eFl RX6 36 0 1 := ⟨(RX0, TX0, 6), rfl, by decide, by decide, rfl, rfl, Or.inr ⟨"EaveRoofs", eMem0 1 43 rfl⟩⟩
theorem fX6_41 : eFl RX6 41 0 0 := ⟨(RX0, TX0, 6), rfl, by decide, by decide, rfl, rfl, Or.inr ⟨"EaveRoofs", eMem0 1 37 rfl⟩⟩
theorem fX7_9 : eFl RX7 9 7 0 := ⟨(RX7, TX7, 12), rfl, by decide, by decide, rfl, rfl, Or.inl (eMem 2 5 rfl rfl)⟩
theorem fX7_13 : eFl RX7 13 7 1 := ⟨(RX7, TX7, 12), rfl, by decide, by decide, rfl, rfl, Or.inl (eMem 2 6 rfl rfl)⟩
theorem fX7_17 : eFl RX7 17 7 2 := ⟨(RX7, TX7, 12), rfl, by decide, by decide, rfl, rfl, Or.inl (eMem 2 7 rfl rfl)⟩
theorem fX7_20 : eFl RX7 20 7 3 := ⟨(RX7, TX7, 12), rfl, by decide, by decide, rfl, rfl, Or.inl (eMem 2 8 rfl rfl)⟩
theorem fX7_23 : eFl RX7 23 7 4 := ⟨(RX7, TX7, 12), rfl, by decide, by decide, rfl, rfl, Or.inl (eMem 2 9 rfl rfl)⟩
theorem fX7_29 : eFl RX7 29 7 5 := ⟨(RX7, TX7, 12), rfl, by decide, by decide, rfl, rfl, Or.inl (eMem 2 10 rfl rfl)⟩
theorem fX7_36 : eFl RX7 36 7 6 := ⟨(RX7, TX7, 12), rfl, by decide, by decide, rfl, rfl, Or.inl (eMem 2 11 rfl rfl)⟩
theorem fX7_45 : eFl RX7 45 7 7 := ⟨(RX7, TX7, 12), rfl, by decide, by decide, rfl, rfl, Or.inl (eMem 2 12 rfl rfl)⟩
theorem fX7_54 : eFl RX7 54 7 8 := ⟨(RX7, TX7, 12), rfl, by decide, by decide, rfl, rfl, Or.inl (eMem 2 13 rfl rfl)⟩
theorem fX7_63 : eFl RX7 63 7 9 := ⟨(RX7, TX7, 12), rfl, by decide, by decide, rfl, rfl, Or.inl (eMem 2 14 rfl rfl)⟩
theorem fX7_70 : eFl RX7 70 7 10 := ⟨(RX7, TX7, 12), rfl, by decide, by decide, rfl, rfl, Or.inl (eMem 2 15 rfl rfl)⟩
theorem fX7_77 : eFl RX7 77 7 11 := ⟨(RX7, TX7, 12), rfl, by decide, by decide, rfl, rfl, Or.inl (eMem 2 16 rfl rfl)⟩
theorem fX7_93 : eFl RX7 93 3 7 := ⟨(RX3, TX3, 9), rfl, by decide, by decide, rfl, rfl, Or.inr ⟨"EaveRoofs", eMem0 1 102 rfl⟩⟩
theorem fX7_94 : eFl RX7 94 3 8 := ⟨(RX3, TX3, 9), rfl, by decide, by decide, rfl, rfl, Or.inr ⟨"EaveRoofs", eMem0 1 104 rfl⟩⟩
theorem fX7_95 : eFl RX7 95 3 1 := ⟨(RX3, TX3, 9), rfl, by decide, by decide, rfl, rfl, Or.inr ⟨"EaveRoofs", eMem0 1 95 rfl⟩⟩
theorem fX7_101 : eFl RX7 101 1 1 := ⟨(RX1, TX1, 2), rfl, by decide, by decide, rfl, rfl, Or.inr ⟨"EaveRoofs", eMem0 1 79 rfl⟩⟩
theorem fX7_118 : eFl RX7 118 0 0 := ⟨(RX0, TX0, 6), rfl, by decide, by decide, rfl, rfl, Or.inr ⟨"EaveRoofs", eMem0 1 39 rfl⟩⟩
theorem fX7_121 : eFl RX7 121 0 1 := ⟨(RX0, TX0, 6), rfl, by decide, by decide, rfl, rfl, Or.inr ⟨"EaveRoofs", eMem0 1 47 rfl⟩⟩
theorem fX7_127 : eFl RX7 127 6 3 := ⟨(RX6, TX6, 5), rfl, by decide, by decide, rfl, rfl, Or.inr ⟨"EaveRoofs", eMem0 1 134 rfl⟩⟩
theorem fX7_128 : eFl RX7 128 0 2 := ⟨(RX0, TX0, 6), rfl, by decide, by decide, rfl, rfl, Or.inr ⟨"EaveRoofs", eMem0 1 50 rfl⟩⟩
theorem fX7_134 : eFl RX7 134 4 8 := ⟨(RX4, TX4, 10), rfl, by decide, by decide, rfl, rfl, Or.inr ⟨"EaveRoofs", eMem0 1 219 rfl⟩⟩
theorem fX7_281 : eFl RX7 281 6 4 := ⟨(RX6, TX6, 5), rfl, by decide, by decide, rfl, rfl, Or.inr ⟨"EaveRoofs", eMem0 1 136 rfl⟩⟩
theorem fX7_288 : eFl RX7 288 4 9 := ⟨(RX4, TX4, 10), rfl, by decide, by decide, rfl, rfl, Or.inr ⟨"EaveRoofs", eMem0 1 221 rfl⟩⟩
theorem fX8_9 : eFl RX8 9 8 2 := ⟨(RX8, TX8, 58), rfl, by decide, by decide, rfl, rfl, Or.inl (eMem 5 37 rfl rfl)⟩
theorem fX8_13 : eFl RX8 13 8 3 := ⟨(RX8, TX8, 58), rfl, by decide, by decide, rfl, rfl, Or.inl (eMem 5 38 rfl rfl)⟩
theorem fX8_17 : eFl RX8 17 8 14 := ⟨(RX8, TX8, 58), rfl, by decide, by decide, rfl, rfl, Or.inl (eMem 5 49 rfl rfl)⟩
theorem fX8_20 : eFl RX8 20 8 15 := ⟨(RX8, TX8, 58), rfl, by decide, by decide, rfl, rfl, Or.inl (eMem 5 50 rfl rfl)⟩
theorem fX8_23 : eFl RX8 23 8 16 := ⟨(RX8, TX8, 58), rfl, by decide, by decide, rfl, rfl, Or.inl (eMem 5 51 rfl rfl)⟩
theorem fX8_26 : eFl RX8 26 8 21 := ⟨(RX8, TX8, 58), rfl, by decide, by decide, rfl, rfl, Or.inl (eMem 5 56 rfl rfl)⟩
theorem fX8_29 : eFl RX8 29 8 22 := ⟨(RX8, TX8, 58), rfl, by decide, by decide, rfl, rfl, Or.inl (eMem 5 57 rfl rfl)⟩
theorem fX8_32 : eFl RX8 32 8 23 := ⟨(RX8, TX8, 58), rfl, by decide, by decide, rfl, rfl, Or.inl (eMem 5 58 rfl rfl)⟩
theorem fX8_35 : eFl RX8 35 8 29 := ⟨(RX8, TX8, 58), rfl, by decide, by decide, rfl, rfl, Or.inl (eMem 5 64 rfl rfl)⟩
theorem fX8_38 : eFl RX8 38 8 30 := ⟨(RX8, TX8, 58), rfl, by decide, by decide, rfl, rfl, Or.inl (eMem 5 65 rfl rfl)⟩
theorem fX8_41 : eFl RX8 41 8 31 := ⟨(RX8, TX8, 58), rfl, by decide, by decide, rfl, rfl, Or.inl (eMem 5 66 rfl rfl)⟩
theorem fX8_44 : eFl RX8 44 8 32 := ⟨(RX8, TX8, 58), rfl, by decide, by decide, rfl, rfl, Or.inl (eMem 5 67 rfl rfl)⟩
theorem fX8_47 : eFl RX8 47 8 34 := ⟨(RX8, TX8, 58), rfl, by decide, by decide, rfl, rfl, Or.inl (eMem 5 69 rfl rfl)⟩
theorem fX8_50 : eFl RX8 50 8 35 := ⟨(RX8, TX8, 58), rfl, by decide, by decide, rfl, rfl, Or.inl (eMem 5 70 rfl rfl)⟩
theorem fX8_53 : eFl RX8 53 8 36 := ⟨(RX8, TX8, 58), rfl, by decide, by decide, rfl, rfl, Or.inl (eMem 5 71 rfl rfl)⟩
theorem fX8_56 : eFl RX8 56 8 37 := ⟨(RX8, TX8, 58), rfl, by decide, by decide, rfl, rfl, Or.inl (eMem 5 72 rfl rfl)⟩
theorem fX8_59 : eFl RX8 59 8 38 := ⟨(RX8, TX8, 58), rfl, by decide, by decide, rfl, rfl, Or.inl (eMem 5 73 rfl rfl)⟩
theorem fX8_62 : eFl RX8 62 8 39 := ⟨(RX8, TX8, 58), rfl, by decide, by decide, rfl, rfl, Or.inl (eMem 5 74 rfl rfl)⟩
theorem fX8_65 : eFl RX8 65 8 40 := ⟨(RX8, TX8, 58), rfl, by decide, by decide, rfl, rfl, Or.inl (eMem 5 75 rfl rfl)⟩
theorem fX8_68 : eFl RX8 68 8 41 := ⟨(RX8, TX8, 58), rfl, by decide, by decide, rfl, rfl, Or.inl (eMem 5 76 rfl rfl)⟩
theorem fX8_71 : eFl RX8 71 8 45 := ⟨(RX8, TX8, 58), rfl, by decide, by decide, rfl, rfl, Or.inl (eMem 5 80 rfl rfl)⟩
theorem fX8_74 : eFl RX8 74 8 48 := ⟨(RX8, TX8, 58), rfl, by decide, by decide, rfl, rfl, Or.inl (eMem 5 83 rfl rfl)⟩
theorem fX8_77 : eFl RX8 77 8 49 := ⟨(RX8, TX8, 58), rfl, by decide, by decide, rfl, rfl, Or.inl (eMem 5 84 rfl rfl)⟩
theorem fX8_80 : eFl RX8 80 8 50 := ⟨(RX8, TX8, 58), rfl, by decide, by decide, rfl, rfl, Or.inl (eMem 5 85 rfl rfl)⟩
theorem fX8_83 : eFl RX8 83 8 51 := ⟨(RX8, TX8, 58), rfl, by decide, by decide, rfl, rfl, Or.inl (eMem 5 86 rfl rfl)⟩
theorem fX8_86 : eFl RX8 86 8 52 := ⟨(RX8, TX8, 58), rfl, by decide, by decide, rfl, rfl, Or.inl (eMem 5 87 rfl rfl)⟩
theorem fX8_89 : eFl RX8 89 8 53 := ⟨(RX8, TX8, 58), rfl, by decide, by decide, rfl, rfl, Or.inl (eMem 5 88 rfl rfl)⟩
theorem fX8_92 : eFl RX8 92 8 54 := ⟨(RX8, TX8, 58), rfl, by decide, by decide, rfl, rfl, Or.inl (eMem 5 89 rfl rfl)⟩
theorem fX8_95 : eFl RX8 95 8 0 := ⟨(RX8, TX8, 58), rfl, by decide, by decide, rfl, rfl, Or.inl (eMem 5 35 rfl rfl)⟩
theorem fX8_98 : eFl RX8 98 8 1 := ⟨(RX8, TX8, 58), rfl, by decide, by decide, rfl, rfl, Or.inl (eMem 5 36 rfl rfl)⟩
theorem fX8_101 : eFl RX8 101 8 4 := ⟨(RX8, TX8, 58), rfl, by decide, by decide, rfl, rfl, Or.inl (eMem 5 39 rfl rfl)⟩
theorem fX8_104 : eFl RX8 104 8 7 := ⟨(RX8, TX8, 58), rfl, by decide, by decide, rfl, rfl, Or.inl (eMem 5 42 rfl rfl)⟩
theorem fX8_107 : eFl RX8 107 8 10 := ⟨(RX8, TX8, 58), rfl, by decide, by decide, rfl, rfl, Or.inl (eMem 5 45 rfl rfl)⟩
theorem fX8_110 : eFl RX8 110 8 8 := ⟨(RX8, TX8, 58), rfl, by decide, by decide, rfl, rfl, Or.inl (eMem 5 43 rfl rfl)⟩
theorem fX8_113 : eFl RX8 113 8 5 := ⟨(RX8, TX8, 58), rfl, by decide, by decide, rfl, rfl, Or.inl (eMem 5 40 rfl rfl)⟩
theorem fX8_120 : eFl RX8 120 8 6 := ⟨(RX8, TX8, 58), rfl, by decide, by decide, rfl, rfl, Or.inl (eMem 5 41 rfl rfl)⟩
theorem fX8_123 : eFl RX8 123 8 9 := ⟨(RX8, TX8, 58), rfl, by decide, by decide, rfl, rfl, Or.inl (eMem 5 44 rfl rfl)⟩
theorem fX8_130 : eFl RX8 130 8 13 := ⟨(RX8, TX8, 58), rfl, by decide, by decide, rfl, rfl, Or.inl (eMem 5 48 rfl rfl)⟩
theorem fX8_141 : eFl RX8 141 8 12 := ⟨(RX8, TX8, 58), rfl, by decide, by decide, rfl, rfl, Or.inl (eMem 5 47 rfl rfl)⟩
theorem fX8_144 : eFl RX8 144 8 11 := ⟨(RX8, TX8, 58), rfl, by decide, by decide, rfl, rfl, Or.inl (eMem 5 46 rfl rfl)⟩
theorem fX8_165 : eFl RX8 165 8 18 := ⟨(RX8, TX8, 58), rfl, by decide, by decide, rfl, rfl, Or.inl (eMem 5 53 rfl rfl)⟩
theorem fX8_168 : eFl RX8 168 8 17 := ⟨(RX8, TX8, 58), rfl, by decide, by decide, rfl, rfl, Or.inl (eMem 5 52 rfl rfl)⟩
theorem fX8_188 : eFl RX8 188 8 20 := ⟨(RX8, TX8, 58), rfl, by decide, by decide, rfl, rfl, Or.inl (eMem 5 55 rfl rfl)⟩
theorem fX8_200 : eFl RX8 200 8 19 := ⟨(RX8, TX8, 58), rfl, by decide, by decide, rfl, rfl, Or.inl (eMem 5 54 rfl rfl)⟩
theorem fX8_216 : eFl RX8 216 8 24 := ⟨(RX8, TX8, 58), rfl, by decide, by decide, rfl, rfl, Or.inl (eMem 5 59 rfl rfl)⟩
theorem fX8_219 : eFl RX8 219 8 25 := ⟨(RX8, TX8, 58), rfl, by decide, by decide, rfl, rfl, Or.inl (eMem 5 60 rfl rfl)⟩
theorem fX8_222 : eFl RX8 222 8 26 := ⟨(RX8, TX8, 58), rfl, by decide, by decide, rfl, rfl, Or.inl (eMem 5 61 rfl rfl)⟩
theorem fX8_225 : eFl RX8 225 8 27 := ⟨(RX8, TX8, 58), rfl, by decide, by decide, rfl, rfl, Or.inl (eMem 5 62 rfl rfl)⟩
theorem fX8_228 : eFl RX8 228 8 28 := ⟨(RX8, TX8, 58), rfl, by decide, by decide, rfl, rfl, Or.inl (eMem 5 63 rfl rfl)⟩
theorem fX8_247 : eFl RX8 247 8 33 := ⟨(RX8, TX8, 58), rfl, by decide, by decide, rfl, rfl, Or.inl (eMem 5 68 rfl rfl)⟩
theorem fX8_280 : eFl RX8 280 8 42 := ⟨(RX8, TX8, 58), rfl, by decide, by decide, rfl, rfl, Or.inl (eMem 5 77 rfl rfl)⟩
theorem fX8_283 : eFl RX8 283 8 43 := ⟨(RX8, TX8, 58), rfl, by decide, by decide, rfl, rfl, Or.inl (eMem 5 78 rfl rfl)⟩
theorem fX8_294 : eFl RX8 294 8 44 := ⟨(RX8, TX8, 58), rfl, by decide, by decide, rfl, rfl, Or.inl (eMem 5 79 rfl rfl)⟩
theorem fX8_300 : eFl RX8 300 8 47 := ⟨(RX8, TX8, 58), rfl, by decide, by decide, rfl, rfl, Or.inl (eMem 5 82 rfl rfl)⟩
theorem fX8_303 : eFl RX8 303 8 46 := ⟨(RX8, TX8, 58), rfl, by decide, by decide, rfl, rfl, Or.inl (eMem 5 81 rfl rfl)⟩
theorem fX8_312 : eFl RX8 312 8 55 := ⟨(RX8, TX8, 58), rfl, by decide, by decide, rfl, rfl, Or.inl (eMem 5 90 rfl rfl)⟩
theorem fX8_329 : eFl RX8 329 8 56 := ⟨(RX8, TX8, 58), rfl, by decide, by decide, rfl, rfl, Or.inl (eMem 5 91 rfl rfl)⟩
theorem fX8_334 : eFl RX8 334 8 57 := ⟨(RX8, TX8, 58), rfl, by decide, by decide, rfl, rfl, Or.inl (eMem 5 92 rfl rfl)⟩
def mJ6_bitCount_0f7a4 : eM := (yJ6_bitCount_0f7a4, cJ6_bitCount_0f7a4, 1, (some .int), 0, 0)
def kJ6_bitCount_0f7a4 : List (Nat × Instr × Nat) := [(0, .iload_n 0, 1), (1, .iload_n 0, 1), (2, .iconst 1, 1), (3, .iushr, 1), (4, .ldc_w 265, 3), (7, .iand, 1), (8, .isub, 1), (9, .istore_n 0, 1), (10, .iload_n 0, 1), (11, .ldc_w 266, 3), (14, .iand, 1), (15, .iload_n 0, 1), (16, .iconst 2, 1), (17, .iushr, 1), (18, .ldc_w 266, 3), (21, .iand, 1), (22, .iadd, 1), (23, .istore_n 0, 1), (24, .iload_n 0, 1), (25, .iload_n 0, 1), (26, .iconst 4, 1), (27, .iushr, 1), (28, .iadd, 1), (29, .ldc_w 267, 3), (32, .iand, 1), (33, .istore_n 0, 1), (34, .iload_n 0, 1), (35, .iload_n 0, 1), (36, .bipush 8, 2), (38, .iushr, 1), (39, .iadd, 1), (40, .istore_n 0, 1), (41, .iload_n 0, 1), (42, .iload_n 0, 1), (43, .bipush 16, 2), (45, .iushr, 1), (46, .iadd, 1), (47, .istore_n 0, 1), (48, .iload_n 0, 1), (49, .bipush 63, 2), (51, .iand, 1), (52, .ireturn, 1)]
theorem DJ6_bitCount_0f7a4 : kJ6_bitCount_0f7a4.map (fun q => decode cJ6_bitCount_0f7a4 q.1) = kJ6_bitCount_0f7a4.map (fun q => Except.ok (q.2.1, q.2.2)) := by decide +kernel
def mJ9_max_7cf53 : eM := (yJ9_max_7cf53, cJ9_max_7cf53, 2, (some .int), 0, 0)
def kJ9_max_7cf53 : List (Nat × Instr × Nat) := [(0, .iload_n 0, 1), (1, .iload_n 1, 1), (2, .if_icmp .lt 7, 3), (5, .iload_n 0, 1), (6, .goto 4, 3), (9, .iload_n 1, 1), (10, .ireturn, 1)]
theorem DJ9_max_7cf53 : kJ9_max_7cf53.map (fun q => decode cJ9_max_7cf53 q.1) = kJ9_max_7cf53.map (fun q => Except.ok (q.2.1, q.2.2)) := by decide +kernel
def mJ9_min_7cf53 : eM := (yJ9_min_7cf53, cJ9_min_7cf53, 2, (some .int), 0, 0)
def kJ9_min_7cf53 : List (Nat × Instr × Nat) := [(0, .iload_n 0, 1), (1, .iload_n 1, 1), (2, .if_icmp .gt 7, 3), (5, .iload_n 0, 1), (6, .goto 4, 3), (9, .iload_n 1, 1), (10, .ireturn, 1)]
theorem DJ9_min_7cf53 : kJ9_min_7cf53.map (fun q => decode cJ9_min_7cf53 q.1) = kJ9_min_7cf53.map (fun q => Except.ok (q.2.1, q.2.2)) := by decide +kernel
def mJ9_min_f86c9 : eM := (yJ9_min_f86c9, cJ9_min_f86c9, 4, (some .long), 0, 0)
def kJ9_min_f86c9 : List (Nat × Instr × Nat) := [(0, .lload_n 0, 1), (1, .lload_n 2, 1), (2, .lcmp, 1), (3, .ifCond .gt 7, 3), (6, .lload_n 0, 1), (7, .goto 4, 3), (10, .lload_n 2, 1), (11, .lreturn, 1)]
theorem DJ9_min_f86c9 : kJ9_min_f86c9.map (fun q => decode cJ9_min_f86c9 q.1) = kJ9_min_f86c9.map (fun q => Except.ok (q.2.1, q.2.2)) := by decide +kernel
def mJ0_length_8abf5 : eM := (yJ0_length_8abf5, cJ0_length_8abf5, 1, (some .int), 1, 20)
def kJ0_length_8abf5 : List (Nat × Instr × Nat) := [(0, .aload_n 0, 1), (1, .getfield 9, 3), (4, .arraylength, 1), (5, .aload_n 0, 1), (6, .invokevirtual 335, 3), (9, .ishr, 1), (10, .ireturn, 1)]
theorem DJ0_length_8abf5 : kJ0_length_8abf5.map (fun q => decode cJ0_length_8abf5 q.1) = kJ0_length_8abf5.map (fun q => Except.ok (q.2.1, q.2.2)) := by decide +kernel
def mJ0_charAt_5068e : eM := (yJ0_charAt_5068e, cJ0_charAt_5068e, 2, (some .char), 4, 85)
def kJ0_charAt_5068e : List (Nat × Instr × Nat) := [(0, .aload_n 0, 1), (1, .invokevirtual 492, 3), (4, .ifCond .eq 12, 3), (7, .aload_n 0, 1), (8, .getfield 9, 3), (11, .iload_n 1, 1), (12, .invokestatic 495, 3), (15, .ireturn, 1), (16, .aload_n 0, 1), (17, .getfield 9, 3), (20, .iload_n 1, 1), (21, .invokestatic 498, 3), (24, .ireturn, 1)]
theorem DJ0_charAt_5068e : kJ0_charAt_5068e.map (fun q => decode cJ0_charAt_5068e q.1) = kJ0_charAt_5068e.map (fun q => Except.ok (q.2.1, q.2.2)) := by decide +kernel
def mJ0_coder_7d493 : eM := (yJ0_coder_7d493, cJ0_coder_7d493, 1, (some .byte), 0, 0)
def kJ0_coder_7d493 : List (Nat × Instr × Nat) := [(0, .getstatic 38, 3), (3, .ifCond .eq 10, 3), (6, .aload_n 0, 1), (7, .getfield 15, 3), (10, .goto 4, 3), (13, .iconst 1, 1), (14, .ireturn, 1)]
theorem DJ0_coder_7d493 : kJ0_coder_7d493.map (fun q => decode cJ0_coder_7d493 q.1) = kJ0_coder_7d493.map (fun q => Except.ok (q.2.1, q.2.2)) := by decide +kernel
def mJ0_isLatin1_aae02 : eM := (yJ0_isLatin1_aae02, cJ0_isLatin1_aae02, 1, (some .boolean), 0, 0)
def kJ0_isLatin1_aae02 : List (Nat × Instr × Nat) := [(0, .getstatic 38, 3), (3, .ifCond .eq 14, 3), (6, .aload_n 0, 1), (7, .getfield 15, 3), (10, .ifCond .ne 7, 3), (13, .iconst 1, 1), (14, .goto 4, 3), (17, .iconst 0, 1), (18, .ireturn, 1)]
theorem DJ0_isLatin1_aae02 : kJ0_isLatin1_aae02.map (fun q => decode cJ0_isLatin1_aae02 q.1) = kJ0_isLatin1_aae02.map (fun q => Except.ok (q.2.1, q.2.2)) := by decide +kernel
def mJ0_checkIndex_df160 : eM := (yJ0_checkIndex_df160, cJ0_checkIndex_df160, 2, none, 1, 22)
def kJ0_checkIndex_df160 : List (Nat × Instr × Nat) := [(0, .iload_n 0, 1), (1, .iload_n 1, 1), (2, .getstatic 1053, 3), (5, .invokestatic 1059, 3), (8, .pop, 1), (9, .return_, 1)]
theorem DJ0_checkIndex_df160 : kJ0_checkIndex_df160.map (fun q => decode cJ0_checkIndex_df160 q.1) = kJ0_checkIndex_df160.map (fun q => Except.ok (q.2.1, q.2.2)) := by decide +kernel
def mJ1_charAt_3b067 : eM := (yJ1_charAt_3b067, cJ1_charAt_3b067, 2, (some .char), 2, 43)
def kJ1_charAt_3b067 : List (Nat × Instr × Nat) := [(0, .iload_n 1, 1), (1, .aload_n 0, 1), (2, .arraylength, 1), (3, .invokestatic 9, 3), (6, .aload_n 0, 1), (7, .iload_n 1, 1), (8, .baload, 1), (9, .sipush 255, 3), (12, .iand, 1), (13, .i2c, 1), (14, .ireturn, 1)]
theorem DJ1_charAt_3b067 : kJ1_charAt_3b067.map (fun q => decode cJ1_charAt_3b067 q.1) = kJ1_charAt_3b067.map (fun q => Except.ok (q.2.1, q.2.2)) := by decide +kernel
def mJ2_getChar_3b067 : eM := (yJ2_getChar_3b067, cJ2_getChar_3b067, 2, (some .char), 1, 20)
def kJ2_getChar_3b067 : List (Nat × Instr × Nat) := [(0, .getstatic 44, 3), (3, .ifCond .ne 25, 3), (6, .iload_n 1, 1), (7, .ifCond .lt 11, 3), (10, .iload_n 1, 1), (11, .aload_n 0, 1), (12, .invokestatic 48, 3), (15, .if_icmp .lt 13, 3), (18, .new 52, 3), (21, .dup, 1), (22, .ldc 54, 2), (24, .invokespecial 56, 3), (27, .athrow, 1), (28, .iload_n 1, 1), (29, .iconst 1, 1), (30, .ishl, 1), (31, .istore_n 1, 1), (32, .aload_n 0, 1), (33, .iload_n 1, 1), (34, .iinc 1 1, 3), (37, .baload, 1), (38, .sipush 255, 3), (41, .iand, 1), (42, .getstatic 59, 3), (45, .ishl, 1), (46, .aload_n 0, 1), (47, .iload_n 1, 1), (48, .baload, 1), (49, .sipush 255, 3), (52, .iand, 1), (53, .getstatic 63, 3), (56, .ishl, 1), (57, .ior, 1), (58, .i2c, 1), (59, .ireturn, 1)]
theorem DJ2_getChar_3b067 : kJ2_getChar_3b067.map (fun q => decode cJ2_getChar_3b067 q.1) = kJ2_getChar_3b067.map (fun q => Except.ok (q.2.1, q.2.2)) := by decide +kernel
def mJ2_length_9d52b : eM := (yJ2_length_9d52b, cJ2_length_9d52b, 1, (some .int), 0, 0)
def kJ2_length_9d52b : List (Nat × Instr × Nat) := [(0, .aload_n 0, 1), (1, .arraylength, 1), (2, .iconst 1, 1), (3, .ishr, 1), (4, .ireturn, 1)]
theorem DJ2_length_9d52b : kJ2_length_9d52b.map (fun q => decode cJ2_length_9d52b q.1) = kJ2_length_9d52b.map (fun q => Except.ok (q.2.1, q.2.2)) := by decide +kernel
def mJ2_charAt_3b067 : eM := (yJ2_charAt_3b067, cJ2_charAt_3b067, 2, (some .char), 3, 64)
def kJ2_charAt_3b067 : List (Nat × Instr × Nat) := [(0, .iload_n 1, 1), (1, .aload_n 0, 1), (2, .invokestatic 67, 3), (5, .aload_n 0, 1), (6, .iload_n 1, 1), (7, .invokestatic 71, 3), (10, .ireturn, 1)]
theorem DJ2_charAt_3b067 : kJ2_charAt_3b067.map (fun q => decode cJ2_charAt_3b067 q.1) = kJ2_charAt_3b067.map (fun q => Except.ok (q.2.1, q.2.2)) := by decide +kernel
def mJ2_checkIndex_2214a : eM := (yJ2_checkIndex_2214a, cJ2_checkIndex_2214a, 2, none, 2, 43)
def kJ2_checkIndex_2214a : List (Nat × Instr × Nat) := [(0, .iload_n 0, 1), (1, .aload_n 1, 1), (2, .invokestatic 48, 3), (5, .invokestatic 414, 3), (8, .return_, 1)]
theorem DJ2_checkIndex_2214a : kJ2_checkIndex_2214a.map (fun q => decode cJ2_checkIndex_2214a q.1) = kJ2_checkIndex_2214a.map (fun q => Except.ok (q.2.1, q.2.2)) := by decide +kernel
def mJ7_fill_53178 : eM := (yJ7_fill_53178, cJ7_fill_53178, 4, none, 0, 0)
def kJ7_fill_53178 : List (Nat × Instr × Nat) := [(0, .iconst 0, 1), (1, .istore_n 2, 1), (2, .aload_n 0, 1), (3, .arraylength, 1), (4, .istore_n 3, 1), (5, .iload_n 2, 1), (6, .iload_n 3, 1), (7, .if_icmp .ge 13, 3), (10, .aload_n 0, 1), (11, .iload_n 2, 1), (12, .iload_n 1, 1), (13, .iastore, 1), (14, .iinc 2 1, 3), (17, .goto (-12), 3), (20, .return_, 1)]
theorem DJ7_fill_53178 : kJ7_fill_53178.map (fun q => decode cJ7_fill_53178 q.1) = kJ7_fill_53178.map (fun q => Except.ok (q.2.1, q.2.2)) := by decide +kernel
def mJ3_checkIndex_8e157 : eM := (yJ3_checkIndex_8e157, cJ3_checkIndex_8e157, 3, (some .int), 0, 0)
def kJ3_checkIndex_8e157 : List (Nat × Instr × Nat) := [(0, .iload_n 0, 1), (1, .ifCond .lt 8, 3), (4, .iload_n 0, 1), (5, .iload_n 1, 1), (6, .if_icmp .lt 10, 3), (9, .aload_n 2, 1), (10, .iload_n 0, 1), (11, .iload_n 1, 1), (12, .invokestatic 95, 3), (15, .athrow, 1), (16, .iload_n 0, 1), (17, .ireturn, 1)]
theorem DJ3_checkIndex_8e157 : kJ3_checkIndex_8e157.map (fun q => decode cJ3_checkIndex_8e157 q.1) = kJ3_checkIndex_8e157.map (fun q => Except.ok (q.2.1, q.2.2)) := by decide +kernel
def mX0_stands : eM := (yX0_stands, cX0_stands, 1, (some .boolean), 0, 0)
def kX0_stands : List (Nat × Instr × Nat) := [(0, .aload_n 0, 1), (1, .getfield 9, 3), (4, .ifCond .le 14, 3), (7, .aload_n 0, 1), (8, .getfield 15, 3), (11, .ifCond .le 7, 3), (14, .iconst 1, 1), (15, .goto 4, 3), (18, .iconst 0, 1), (19, .ireturn, 1)]
theorem DX0_stands : kX0_stands.map (fun q => decode cX0_stands q.1) = kX0_stands.map (fun q => Except.ok (q.2.1, q.2.2)) := by decide +kernel
def mX0_clear : eM := (yX0_clear, cX0_clear, 1, none, 1, 23)
def kX0_clear : List (Nat × Instr × Nat) := [(0, .aload_n 0, 1), (1, .iconst 0, 1), (2, .putfield 9, 3), (5, .aload_n 0, 1), (6, .iconst 0, 1), (7, .putfield 15, 3), (10, .aload_n 0, 1), (11, .iconst 0, 1), (12, .putfield 18, 3), (15, .aload_n 0, 1), (16, .getfield 21, 3), (19, .iconst 0, 1), (20, .invokestatic 31, 3), (23, .aload_n 0, 1), (24, .getfield 25, 3), (27, .iconst 1, 1), (28, .invokestatic 31, 3), (31, .aload_n 0, 1), (32, .getfield 28, 3), (35, .iconst 0, 1), (36, .invokestatic 31, 3), (39, .return_, 1)]
theorem DX0_clear : kX0_clear.map (fun q => decode cX0_clear q.1) = kX0_clear.map (fun q => Except.ok (q.2.1, q.2.2)) := by decide +kernel
def mX0_become : eM := (yX0_become, cX0_become, 2, none, 1, 26)
def kX0_become : List (Nat × Instr × Nat) := [(0, .aload_n 0, 1), (1, .aload_n 1, 1), (2, .getfield 9, 3), (5, .putfield 9, 3), (8, .aload_n 0, 1), (9, .aload_n 1, 1), (10, .getfield 15, 3), (13, .putfield 15, 3), (16, .aload_n 0, 1), (17, .aload_n 1, 1), (18, .getfield 18, 3), (21, .putfield 18, 3), (24, .aload_n 1, 1), (25, .getfield 21, 3), (28, .iconst 0, 1), (29, .aload_n 0, 1), (30, .getfield 21, 3), (33, .iconst 0, 1), (34, .bipush 10, 2), (36, .invokestatic 37, 3), (39, .aload_n 1, 1), (40, .getfield 25, 3), (43, .iconst 0, 1), (44, .aload_n 0, 1), (45, .getfield 25, 3), (48, .iconst 0, 1), (49, .iconst 4, 1), (50, .invokestatic 37, 3), (53, .aload_n 1, 1), (54, .getfield 28, 3), (57, .iconst 0, 1), (58, .aload_n 0, 1), (59, .getfield 28, 3), (62, .iconst 0, 1), (63, .bipush 16, 2), (65, .invokestatic 37, 3), (68, .return_, 1)]
theorem DX0_become : kX0_become.map (fun q => decode cX0_become q.1) = kX0_become.map (fun q => Except.ok (q.2.1, q.2.2)) := by decide +kernel
def mX0_hasCell : eM := (yX0_hasCell, cX0_hasCell, 3, (some .boolean), 0, 0)
def kX0_hasCell : List (Nat × Instr × Nat) := [(0, .iload_n 1, 1), (1, .ifCond .lt 27, 3), (4, .iload_n 1, 1), (5, .aload_n 0, 1), (6, .getfield 9, 3), (9, .if_icmp .ge 19, 3), (12, .iload_n 2, 1), (13, .ifCond .lt 15, 3), (16, .iload_n 2, 1), (17, .aload_n 0, 1), (18, .getfield 15, 3), (21, .if_icmp .ge 7, 3), (24, .iconst 1, 1), (25, .goto 4, 3), (28, .iconst 0, 1), (29, .ireturn, 1)]
theorem DX0_hasCell : kX0_hasCell.map (fun q => decode cX0_hasCell q.1) = kX0_hasCell.map (fun q => Except.ok (q.2.1, q.2.2)) := by decide +kernel
def mX0_isInside : eM := (yX0_isInside, cX0_isInside, 3, (some .boolean), 1, 22)
def kX0_isInside : List (Nat × Instr × Nat) := [(0, .aload_n 0, 1), (1, .iload_n 1, 1), (2, .iload_n 2, 1), (3, .invokevirtual 43, 3), (6, .ifCond .eq 20, 3), (9, .aload_n 0, 1), (10, .iload_n 2, 1), (11, .invokevirtual 47, 3), (14, .iload_n 1, 1), (15, .ishr, 1), (16, .iconst 1, 1), (17, .iand, 1), (18, .iconst 1, 1), (19, .if_icmp .ne 7, 3), (22, .iconst 1, 1), (23, .goto 4, 3), (26, .iconst 0, 1), (27, .ireturn, 1)]
theorem DX0_isInside : kX0_isInside.map (fun q => decode cX0_isInside q.1) = kX0_isInside.map (fun q => Except.ok (q.2.1, q.2.2)) := by decide +kernel
def mX0_isLastInside : eM := (yX0_isLastInside, cX0_isLastInside, 3, (some .boolean), 2, 44)
def kX0_isLastInside : List (Nat × Instr × Nat) := [(0, .aload_n 0, 1), (1, .iload_n 1, 1), (2, .iload_n 2, 1), (3, .invokevirtual 51, 3), (6, .ifCond .eq 15, 3), (9, .aload_n 0, 1), (10, .invokevirtual 54, 3), (13, .iconst 1, 1), (14, .if_icmp .ne 7, 3), (17, .iconst 1, 1), (18, .goto 4, 3), (21, .iconst 0, 1), (22, .ireturn, 1)]
theorem DX0_isLastInside : kX0_isLastInside.map (fun q => decode cX0_isLastInside q.1) = kX0_isLastInside.map (fun q => Except.ok (q.2.1, q.2.2)) := by decide +kernel
def mX0_hasPoint : eM := (yX0_hasPoint, cX0_hasPoint, 3, (some .boolean), 0, 0)
def kX0_hasPoint : List (Nat × Instr × Nat) := [(0, .iload_n 1, 1), (1, .ifCond .lt 31, 3), (4, .iload_n 1, 1), (5, .iconst 4, 1), (6, .aload_n 0, 1), (7, .getfield 9, 3), (10, .imul, 1), (11, .if_icmp .gt 21, 3), (14, .iload_n 2, 1), (15, .ifCond .lt 17, 3), (18, .iload_n 2, 1), (19, .iconst 4, 1), (20, .aload_n 0, 1), (21, .getfield 15, 3), (24, .imul, 1), (25, .if_icmp .gt 7, 3), (28, .iconst 1, 1), (29, .goto 4, 3), (32, .iconst 0, 1), (33, .ireturn, 1)]
theorem DX0_hasPoint : kX0_hasPoint.map (fun q => decode cX0_hasPoint q.1) = kX0_hasPoint.map (fun q => Except.ok (q.2.1, q.2.2)) := by decide +kernel
def mX0_hasMark : eM := (yX0_hasMark, cX0_hasMark, 2, (some .boolean), 0, 0)
def kX0_hasMark : List (Nat × Instr × Nat) := [(0, .iload_n 1, 1), (1, .ifCond .lt 15, 3), (4, .iload_n 1, 1), (5, .aload_n 0, 1), (6, .getfield 18, 3), (9, .if_icmp .ge 7, 3), (12, .iconst 1, 1), (13, .goto 4, 3), (16, .iconst 0, 1), (17, .ireturn, 1)]
theorem DX0_hasMark : kX0_hasMark.map (fun q => decode cX0_hasMark q.1) = kX0_hasMark.map (fun q => Except.ok (q.2.1, q.2.2)) := by decide +kernel
def mX0_lineAt : eM := (yX0_lineAt, cX0_lineAt, 2, (some .int), 0, 0)
def kX0_lineAt : List (Nat × Instr × Nat) := [(0, .iload_n 1, 1), (1, .ifCond .lt 29, 3), (4, .iload_n 1, 1), (5, .aload_n 0, 1), (6, .getfield 15, 3), (9, .if_icmp .ge 21, 3), (12, .iload_n 1, 1), (13, .aload_n 0, 1), (14, .getfield 21, 3), (17, .arraylength, 1), (18, .if_icmp .ge 12, 3), (21, .aload_n 0, 1), (22, .getfield 21, 3), (25, .iload_n 1, 1), (26, .iaload, 1), (27, .goto 4, 3), (30, .iconst 0, 1), (31, .ireturn, 1)]
theorem DX0_lineAt : kX0_lineAt.map (fun q => decode cX0_lineAt q.1) = kX0_lineAt.map (fun q => Except.ok (q.2.1, q.2.2)) := by decide +kernel
def mX0_setLine : eM := (yX0_setLine, cX0_setLine, 3, none, 0, 0)
def kX0_setLine : List (Nat × Instr × Nat) := [(0, .iload_n 1, 1), (1, .ifCond .lt 19, 3), (4, .iload_n 1, 1), (5, .aload_n 0, 1), (6, .getfield 21, 3), (9, .arraylength, 1), (10, .if_icmp .ge 10, 3), (13, .aload_n 0, 1), (14, .getfield 21, 3), (17, .iload_n 1, 1), (18, .iload_n 2, 1), (19, .iastore, 1), (20, .return_, 1)]
theorem DX0_setLine : kX0_setLine.map (fun q => decode cX0_setLine q.1) = kX0_setLine.map (fun q => Except.ok (q.2.1, q.2.2)) := by decide +kernel
def mX0_pace : eM := (yX0_pace, cX0_pace, 2, (some .int), 0, 0)
def kX0_pace : List (Nat × Instr × Nat) := [(0, .iload_n 1, 1), (1, .ifCond .lt 21, 3), (4, .iload_n 1, 1), (5, .aload_n 0, 1), (6, .getfield 25, 3), (9, .arraylength, 1), (10, .if_icmp .ge 12, 3), (13, .aload_n 0, 1), (14, .getfield 25, 3), (17, .iload_n 1, 1), (18, .iaload, 1), (19, .goto 4, 3), (22, .iconst 1, 1), (23, .ireturn, 1)]
theorem DX0_pace : kX0_pace.map (fun q => decode cX0_pace q.1) = kX0_pace.map (fun q => Except.ok (q.2.1, q.2.2)) := by decide +kernel
def mX0_setPace : eM := (yX0_setPace, cX0_setPace, 3, none, 0, 0)
def kX0_setPace : List (Nat × Instr × Nat) := [(0, .iload_n 1, 1), (1, .ifCond .lt 19, 3), (4, .iload_n 1, 1), (5, .aload_n 0, 1), (6, .getfield 25, 3), (9, .arraylength, 1), (10, .if_icmp .ge 10, 3), (13, .aload_n 0, 1), (14, .getfield 25, 3), (17, .iload_n 1, 1), (18, .iload_n 2, 1), (19, .iastore, 1), (20, .return_, 1)]
theorem DX0_setPace : kX0_setPace.map (fun q => decode cX0_setPace q.1) = kX0_setPace.map (fun q => Except.ok (q.2.1, q.2.2)) := by decide +kernel
def mX0_markPart : eM := (yX0_markPart, cX0_markPart, 4, (some .int), 0, 0)
def kX0_markPart : List (Nat × Instr × Nat) := [(0, .iconst 2, 1), (1, .iload_n 1, 1), (2, .imul, 1), (3, .iload_n 2, 1), (4, .iadd, 1), (5, .istore_n 3, 1), (6, .iload_n 3, 1), (7, .ifCond .lt 21, 3), (10, .iload_n 3, 1), (11, .aload_n 0, 1), (12, .getfield 28, 3), (15, .arraylength, 1), (16, .if_icmp .ge 12, 3), (19, .aload_n 0, 1), (20, .getfield 28, 3), (23, .iload_n 3, 1), (24, .iaload, 1), (25, .goto 4, 3), (28, .iconst 0, 1), (29, .ireturn, 1)]
theorem DX0_markPart : kX0_markPart.map (fun q => decode cX0_markPart q.1) = kX0_markPart.map (fun q => Except.ok (q.2.1, q.2.2)) := by decide +kernel
def mX0_addMark : eM := (yX0_addMark, cX0_addMark, 4, none, 0, 0)
def kX0_addMark : List (Nat × Instr × Nat) := [(0, .iconst 2, 1), (1, .aload_n 0, 1), (2, .getfield 18, 3), (5, .imul, 1), (6, .istore_n 3, 1), (7, .iload_n 3, 1), (8, .ifCond .lt 40, 3), (11, .iload_n 3, 1), (12, .iconst 1, 1), (13, .iadd, 1), (14, .aload_n 0, 1), (15, .getfield 28, 3), (18, .arraylength, 1), (19, .if_icmp .ge 29, 3), (22, .aload_n 0, 1), (23, .getfield 28, 3), (26, .iload_n 3, 1), (27, .iload_n 1, 1), (28, .iastore, 1), (29, .aload_n 0, 1), (30, .getfield 28, 3), (33, .iload_n 3, 1), (34, .iconst 1, 1), (35, .iadd, 1), (36, .iload_n 2, 1), (37, .iastore, 1), (38, .aload_n 0, 1), (39, .dup, 1), (40, .getfield 18, 3), (43, .iconst 1, 1), (44, .iadd, 1), (45, .putfield 18, 3), (48, .return_, 1)]
theorem DX0_addMark : kX0_addMark.map (fun q => decode cX0_addMark q.1) = kX0_addMark.map (fun q => Except.ok (q.2.1, q.2.2)) := by decide +kernel
def mX0_countInside : eM := (yX0_countInside, cX0_countInside, 3, (some .int), 1, 21)
def kX0_countInside : List (Nat × Instr × Nat) := [(0, .iconst 0, 1), (1, .istore_n 1, 1), (2, .iconst 0, 1), (3, .istore_n 2, 1), (4, .iload_n 2, 1), (5, .aload_n 0, 1), (6, .getfield 15, 3), (9, .if_icmp .ge 20, 3), (12, .iload_n 1, 1), (13, .aload_n 0, 1), (14, .iload_n 2, 1), (15, .invokevirtual 47, 3), (18, .invokestatic 58, 3), (21, .iadd, 1), (22, .istore_n 1, 1), (23, .iinc 2 1, 3), (26, .goto (-22), 3), (29, .iload_n 1, 1), (30, .ireturn, 1)]
theorem DX0_countInside : kX0_countInside.map (fun q => decode cX0_countInside q.1) = kX0_countInside.map (fun q => Except.ok (q.2.1, q.2.2)) := by decide +kernel
def mX0_flip : eM := (yX0_flip, cX0_flip, 3, none, 1, 22)
def kX0_flip : List (Nat × Instr × Nat) := [(0, .aload_n 0, 1), (1, .iload_n 1, 1), (2, .iload_n 2, 1), (3, .invokevirtual 43, 3), (6, .ifCond .eq 17, 3), (9, .aload_n 0, 1), (10, .iload_n 2, 1), (11, .aload_n 0, 1), (12, .iload_n 2, 1), (13, .invokevirtual 47, 3), (16, .iconst 1, 1), (17, .iload_n 1, 1), (18, .ishl, 1), (19, .ixor, 1), (20, .invokevirtual 63, 3), (23, .return_, 1)]
theorem DX0_flip : kX0_flip.map (fun q => decode cX0_flip q.1) = kX0_flip.map (fun q => Except.ok (q.2.1, q.2.2)) := by decide +kernel
def mX0_mirror : eM := (yX0_mirror, cX0_mirror, 5, none, 1, 22)
def kX0_mirror : List (Nat × Instr × Nat) := [(0, .iconst 0, 1), (1, .istore_n 1, 1), (2, .iload_n 1, 1), (3, .aload_n 0, 1), (4, .getfield 15, 3), (7, .if_icmp .ge 60, 3), (10, .aload_n 0, 1), (11, .iload_n 1, 1), (12, .invokevirtual 47, 3), (15, .istore_n 2, 1), (16, .iconst 0, 1), (17, .istore_n 3, 1), (18, .iconst 0, 1), (19, .istore 4, 2), (21, .iload 4, 2), (23, .aload_n 0, 1), (24, .getfield 9, 3), (27, .if_icmp .ge 28, 3), (30, .iload_n 3, 1), (31, .iload_n 2, 1), (32, .iload 4, 2), (34, .ishr, 1), (35, .iconst 1, 1), (36, .iand, 1), (37, .aload_n 0, 1), (38, .getfield 9, 3), (41, .iconst 1, 1), (42, .isub, 1), (43, .iload 4, 2), (45, .isub, 1), (46, .ishl, 1), (47, .ior, 1), (48, .istore_n 3, 1), (49, .iinc 4 1, 3), (52, .goto (-31), 3), (55, .aload_n 0, 1), (56, .iload_n 1, 1), (57, .iload_n 3, 1), (58, .invokevirtual 63, 3), (61, .iinc 1 1, 3), (64, .goto (-62), 3), (67, .return_, 1)]
theorem DX0_mirror : kX0_mirror.map (fun q => decode cX0_mirror q.1) = kX0_mirror.map (fun q => Except.ok (q.2.1, q.2.2)) := by decide +kernel
def mX0_overturn : eM := (yX0_overturn, cX0_overturn, 3, none, 1, 22)
def kX0_overturn : List (Nat × Instr × Nat) := [(0, .iconst 0, 1), (1, .istore_n 1, 1), (2, .iconst 2, 1), (3, .iload_n 1, 1), (4, .imul, 1), (5, .aload_n 0, 1), (6, .getfield 15, 3), (9, .iconst 1, 1), (10, .isub, 1), (11, .if_icmp .ge 45, 3), (14, .aload_n 0, 1), (15, .iload_n 1, 1), (16, .invokevirtual 47, 3), (19, .istore_n 2, 1), (20, .aload_n 0, 1), (21, .iload_n 1, 1), (22, .aload_n 0, 1), (23, .aload_n 0, 1), (24, .getfield 15, 3), (27, .iconst 1, 1), (28, .isub, 1), (29, .iload_n 1, 1), (30, .isub, 1), (31, .invokevirtual 47, 3), (34, .invokevirtual 63, 3), (37, .aload_n 0, 1), (38, .aload_n 0, 1), (39, .getfield 15, 3), (42, .iconst 1, 1), (43, .isub, 1), (44, .iload_n 1, 1), (45, .isub, 1), (46, .iload_n 2, 1), (47, .invokevirtual 63, 3), (50, .iinc 1 1, 3), (53, .goto (-51), 3), (56, .return_, 1)]
theorem DX0_overturn : kX0_overturn.map (fun q => decode cX0_overturn q.1) = kX0_overturn.map (fun q => Except.ok (q.2.1, q.2.2)) := by decide +kernel
def mX0_spread : eM := (yX0_spread, cX0_spread, 6, (some .int), 2, 43)
def kX0_spread : List (Nat × Instr × Nat) := [(0, .aload_n 0, 1), (1, .invokevirtual 54, 3), (4, .istore_n 1, 1), (5, .iconst 1, 1), (6, .aload_n 0, 1), (7, .getfield 9, 3), (10, .ishl, 1), (11, .iconst 1, 1), (12, .isub, 1), (13, .istore_n 2, 1), (14, .iconst 0, 1), (15, .istore_n 3, 1), (16, .iconst 0, 1), (17, .istore 4, 2), (19, .iload 4, 2), (21, .aload_n 0, 1), (22, .getfield 15, 3), (25, .if_icmp .ge 51, 3), (28, .aload_n 0, 1), (29, .iload 4, 2), (31, .invokevirtual 47, 3), (34, .istore 5, 2), (36, .aload_n 0, 1), (37, .iload 4, 2), (39, .iload 5, 2), (41, .iload 5, 2), (43, .iconst 1, 1), (44, .ishl, 1), (45, .ior, 1), (46, .iload 5, 2), (48, .iconst 1, 1), (49, .ishr, 1), (50, .ior, 1), (51, .iload_n 3, 1), (52, .ior, 1), (53, .aload_n 0, 1), (54, .iload 4, 2), (56, .iconst 1, 1), (57, .iadd, 1), (58, .invokevirtual 47, 3), (61, .ior, 1), (62, .iload_n 2, 1), (63, .iand, 1), (64, .invokevirtual 63, 3), (67, .iload 5, 2), (69, .istore_n 3, 1), (70, .iinc 4 1, 3), (73, .goto (-54), 3), (76, .aload_n 0, 1), (77, .invokevirtual 54, 3), (80, .iload_n 1, 1), (81, .isub, 1), (82, .ireturn, 1)]
theorem DX0_spread : kX0_spread.map (fun q => decode cX0_spread q.1) = kX0_spread.map (fun q => Except.ok (q.2.1, q.2.2)) := by decide +kernel
def mX1_keep : eM := (yX1_keep, cX1_keep, 3, none, 1, 26)
def kX1_keep : List (Nat × Instr × Nat) := [(0, .aload_n 0, 1), (1, .getfield 15, 3), (4, .bipush 10, 2), (6, .if_icmp .lt 25, 3), (9, .aload_n 0, 1), (10, .getfield 11, 3), (13, .bipush 14, 2), (15, .aload_n 0, 1), (16, .getfield 11, 3), (19, .iconst 0, 1), (20, .bipush 126, 2), (22, .invokestatic 19, 3), (25, .aload_n 0, 1), (26, .bipush 9, 2), (28, .putfield 15, 3), (31, .aload_n 0, 1), (32, .getfield 15, 3), (35, .bipush 14, 2), (37, .imul, 1), (38, .istore_n 2, 1), (39, .iload_n 2, 1), (40, .ifCond .lt 57, 3), (43, .iload_n 2, 1), (44, .bipush 14, 2), (46, .iadd, 1), (47, .aload_n 0, 1), (48, .getfield 11, 3), (51, .arraylength, 1), (52, .if_icmp .gt 45, 3), (55, .aload_n 1, 1), (56, .getfield 25, 3), (59, .iconst 0, 1), (60, .aload_n 0, 1), (61, .getfield 11, 3), (64, .iload_n 2, 1), (65, .bipush 10, 2), (67, .invokestatic 19, 3), (70, .aload_n 1, 1), (71, .getfield 30, 3), (74, .iconst 0, 1), (75, .aload_n 0, 1), (76, .getfield 11, 3), (79, .iload_n 2, 1), (80, .bipush 10, 2), (82, .iadd, 1), (83, .iconst 4, 1), (84, .invokestatic 19, 3), (87, .aload_n 0, 1), (88, .dup, 1), (89, .getfield 15, 3), (92, .iconst 1, 1), (93, .iadd, 1), (94, .putfield 15, 3), (97, .return_, 1)]
theorem DX1_keep : kX1_keep.map (fun q => decode cX1_keep q.1) = kX1_keep.map (fun q => Except.ok (q.2.1, q.2.2)) := by decide +kernel
def mX1_bringBack : eM := (yX1_bringBack, cX1_bringBack, 3, none, 1, 26)
def kX1_bringBack : List (Nat × Instr × Nat) := [(0, .aload_n 0, 1), (1, .getfield 15, 3), (4, .iconst 1, 1), (5, .isub, 1), (6, .bipush 14, 2), (8, .imul, 1), (9, .istore_n 2, 1), (10, .iload_n 2, 1), (11, .ifCond .lt 57, 3), (14, .iload_n 2, 1), (15, .bipush 14, 2), (17, .iadd, 1), (18, .aload_n 0, 1), (19, .getfield 11, 3), (22, .arraylength, 1), (23, .if_icmp .gt 45, 3), (26, .aload_n 0, 1), (27, .getfield 11, 3), (30, .iload_n 2, 1), (31, .aload_n 1, 1), (32, .getfield 25, 3), (35, .iconst 0, 1), (36, .bipush 10, 2), (38, .invokestatic 19, 3), (41, .aload_n 0, 1), (42, .getfield 11, 3), (45, .iload_n 2, 1), (46, .bipush 10, 2), (48, .iadd, 1), (49, .aload_n 1, 1), (50, .getfield 30, 3), (53, .iconst 0, 1), (54, .iconst 4, 1), (55, .invokestatic 19, 3), (58, .aload_n 0, 1), (59, .dup, 1), (60, .getfield 15, 3), (63, .iconst 1, 1), (64, .isub, 1), (65, .putfield 15, 3), (68, .return_, 1)]
theorem DX1_bringBack : kX1_bringBack.map (fun q => decode cX1_bringBack q.1) = kX1_bringBack.map (fun q => Except.ok (q.2.1, q.2.2)) := by decide +kernel
def mX2_reduce : eM := (yX2_reduce, cX2_reduce, 7, none, 1, 30)
def kX2_reduce : List (Nat × Instr × Nat) := [(0, .lload_n 1, 1), (1, .lload_n 3, 1), (2, .invokestatic 16, 3), (5, .lstore 5, 2), (7, .lload 5, 2), (9, .lconst 0, 1), (10, .lcmp, 1), (11, .ifCond .gt 14, 3), (14, .aload_n 0, 1), (15, .lconst 0, 1), (16, .putfield 7, 3), (19, .aload_n 0, 1), (20, .lconst 1, 1), (21, .putfield 13, 3), (24, .return_, 1), (25, .aload_n 0, 1), (26, .lload_n 1, 1), (27, .lload 5, 2), (29, .ldiv, 1), (30, .putfield 7, 3), (33, .aload_n 0, 1), (34, .lload_n 3, 1), (35, .lload 5, 2), (37, .ldiv, 1), (38, .putfield 13, 3), (41, .return_, 1)]
theorem DX2_reduce : kX2_reduce.map (fun q => decode cX2_reduce q.1) = kX2_reduce.map (fun q => Except.ok (q.2.1, q.2.2)) := by decide +kernel
def mX2_part : eM := (yX2_part, cX2_part, 2, (some .long), 0, 0)
def kX2_part : List (Nat × Instr × Nat) := [(0, .iload_n 1, 1), (1, .ifCond .ne 10, 3), (4, .aload_n 0, 1), (5, .getfield 7, 3), (8, .goto 7, 3), (11, .aload_n 0, 1), (12, .getfield 13, 3), (15, .lreturn, 1)]
theorem DX2_part : kX2_part.map (fun q => decode cX2_part q.1) = kX2_part.map (fun q => Except.ok (q.2.1, q.2.2)) := by decide +kernel
def mX2_commonFactor : eM := (yX2_commonFactor, cX2_commonFactor, 11, (some .long), 0, 0)
def kX2_commonFactor : List (Nat × Instr × Nat) := [(0, .lload_n 0, 1), (1, .lstore 4, 2), (3, .lload_n 2, 1), (4, .lstore 6, 2), (6, .iconst 0, 1), (7, .istore 8, 2), (9, .iload 8, 2), (11, .sipush 200, 3), (14, .if_icmp .ge 31, 3), (17, .lload 6, 2), (19, .lconst 0, 1), (20, .lcmp, 1), (21, .ifCond .eq 24, 3), (24, .lload 4, 2), (26, .lload 6, 2), (28, .lrem, 1), (29, .lstore 9, 2), (31, .lload 6, 2), (33, .lstore 4, 2), (35, .lload 9, 2), (37, .lstore 6, 2), (39, .iinc 8 1, 3), (42, .goto (-33), 3), (45, .lload 4, 2), (47, .lreturn, 1)]
theorem DX2_commonFactor : kX2_commonFactor.map (fun q => decode cX2_commonFactor q.1) = kX2_commonFactor.map (fun q => Except.ok (q.2.1, q.2.2)) := by decide +kernel
def mX3_readText : eM := (yX3_readText, cX3_readText, 3, (some .boolean), 7, 148)
def kX3_readText : List (Nat × Instr × Nat) := [(0, .aload_n 0, 1), (1, .iload_n 1, 1), (2, .putfield 18, 3), (5, .aload_n 0, 1), (6, .iconst 0, 1), (7, .putfield 22, 3), (10, .aload_n 0, 1), (11, .iconst 0, 1), (12, .putfield 31, 3), (15, .aload_n 0, 1), (16, .iconst 0, 1), (17, .putfield 35, 3), (20, .aload_n 0, 1), (21, .iconst (-1), 1), (22, .putfield 38, 3), (25, .aload_n 0, 1), (26, .getfield 12, 3), (29, .invokevirtual 45, 3), (32, .aload_n 0, 1), (33, .invokevirtual 48, 3), (36, .aload_n 0, 1), (37, .ldc 51, 2), (39, .invokevirtual 53, 3), (42, .ifCond .ne 9, 3), (45, .aload_n 0, 1), (46, .iconst 1, 1), (47, .invokevirtual 57, 3), (50, .ireturn, 1), (51, .aload_n 0, 1), (52, .invokevirtual 61, 3), (55, .ifCond .ne 5, 3), (58, .iconst 0, 1), (59, .ireturn, 1), (60, .iconst 0, 1), (61, .istore_n 2, 1), (62, .iload_n 2, 1), (63, .sipush 400, 3), (66, .if_icmp .gt 31, 3), (69, .aload_n 0, 1), (70, .getfield 25, 3), (73, .bipush 59, 2), (75, .if_icmp .ne 22, 3), (78, .aload_n 0, 1), (79, .invokevirtual 48, 3), (82, .aload_n 0, 1), (83, .invokevirtual 65, 3), (86, .ifCond .ne 5, 3), (89, .iconst 0, 1), (90, .ireturn, 1), (91, .iinc 2 1, 3), (94, .goto (-32), 3), (97, .aload_n 0, 1), (98, .getfield 25, 3), (101, .ifCond .eq 9, 3), (104, .aload_n 0, 1), (105, .iconst 1, 1), (106, .invokevirtual 57, 3), (109, .ireturn, 1), (110, .aload_n 0, 1), (111, .getfield 12, 3), (114, .invokevirtual 68, 3), (117, .ifCond .gt 11, 3), (120, .aload_n 0, 1), (121, .iconst 5, 1), (122, .invokevirtual 57, 3), (125, .ifCond .eq 7, 3), (128, .iconst 1, 1), (129, .goto 4, 3), (132, .iconst 0, 1), (133, .ireturn, 1)]
theorem DX3_readText : kX3_readText.map (fun q => decode cX3_readText q.1) = kX3_readText.map (fun q => Except.ok (q.2.1, q.2.2)) := by decide +kernel
def mX3_fail : eM := (yX3_fail, cX3_fail, 2, (some .boolean), 0, 0)
def kX3_fail : List (Nat × Instr × Nat) := [(0, .aload_n 0, 1), (1, .iload_n 1, 1), (2, .putfield 35, 3), (5, .aload_n 0, 1), (6, .aload_n 0, 1), (7, .getfield 28, 3), (10, .putfield 38, 3), (13, .iconst 0, 1), (14, .ireturn, 1)]
theorem DX3_fail : kX3_fail.map (fun q => decode cX3_fail q.1) = kX3_fail.map (fun q => Except.ok (q.2.1, q.2.2)) := by decide +kernel
def mX3_readLine : eM := (yX3_readLine, cX3_readLine, 1, (some .boolean), 6, 128)
def kX3_readLine : List (Nat × Instr × Nat) := [(0, .aload_n 0, 1), (1, .ldc 51, 2), (3, .invokevirtual 53, 3), (6, .ifCond .eq 9, 3), (9, .aload_n 0, 1), (10, .iconst 3, 1), (11, .invokevirtual 57, 3), (14, .ireturn, 1), (15, .aload_n 0, 1), (16, .ldc 72, 2), (18, .invokevirtual 53, 3), (21, .ifCond .eq 23, 3), (24, .aload_n 0, 1), (25, .getfield 31, 3), (28, .ifCond .eq 11, 3), (31, .aload_n 0, 1), (32, .iconst 3, 1), (33, .invokevirtual 57, 3), (36, .goto 7, 3), (39, .aload_n 0, 1), (40, .invokevirtual 74, 3), (43, .ireturn, 1), (44, .aload_n 0, 1), (45, .ldc 77, 2), (47, .invokevirtual 53, 3), (50, .ifCond .eq 28, 3), (53, .aload_n 0, 1), (54, .getfield 12, 3), (57, .getfield 79, 3), (60, .bipush 8, 2), (62, .if_icmp .lt 11, 3), (65, .aload_n 0, 1), (66, .iconst 4, 1), (67, .invokevirtual 57, 3), (70, .goto 7, 3), (73, .aload_n 0, 1), (74, .invokevirtual 82, 3), (77, .ireturn, 1), (78, .aload_n 0, 1), (79, .iconst 1, 1), (80, .invokevirtual 57, 3), (83, .ireturn, 1)]
theorem DX3_readLine : kX3_readLine.map (fun q => decode cX3_readLine q.1) = kX3_readLine.map (fun q => Except.ok (q.2.1, q.2.2)) := by decide +kernel
def mX3_readRows : eM := (yX3_readRows, cX3_readRows, 2, (some .boolean), 2, 46)
def kX3_readRows : List (Nat × Instr × Nat) := [(0, .aload_n 0, 1), (1, .invokevirtual 48, 3), (4, .aload_n 0, 1), (5, .invokevirtual 85, 3), (8, .ifCond .ne 5, 3), (11, .iconst 0, 1), (12, .ireturn, 1), (13, .aload_n 0, 1), (14, .invokevirtual 48, 3), (17, .iconst 0, 1), (18, .istore_n 1, 1), (19, .iload_n 1, 1), (20, .sipush 400, 3), (23, .if_icmp .gt 35, 3), (26, .aload_n 0, 1), (27, .getfield 25, 3), (30, .bipush 47, 2), (32, .if_icmp .ne 26, 3), (35, .aload_n 0, 1), (36, .invokevirtual 48, 3), (39, .aload_n 0, 1), (40, .invokevirtual 85, 3), (43, .ifCond .ne 5, 3), (46, .iconst 0, 1), (47, .ireturn, 1), (48, .aload_n 0, 1), (49, .invokevirtual 48, 3), (52, .iinc 1 1, 3), (55, .goto (-36), 3), (58, .iconst 1, 1), (59, .ireturn, 1)]
theorem DX3_readRows : kX3_readRows.map (fun q => decode cX3_readRows q.1) = kX3_readRows.map (fun q => Except.ok (q.2.1, q.2.2)) := by decide +kernel
def mX3_readRow : eM := (yX3_readRow, cX3_readRow, 5, (some .boolean), 1, 22)
def kX3_readRow : List (Nat × Instr × Nat) := [(0, .aload_n 0, 1), (1, .getfield 25, 3), (4, .iconst 1, 1), (5, .if_icmp .eq 9, 3), (8, .aload_n 0, 1), (9, .iconst 1, 1), (10, .invokevirtual 57, 3), (13, .ireturn, 1), (14, .aload_n 0, 1), (15, .getfield 22, 3), (18, .aload_n 0, 1), (19, .getfield 28, 3), (22, .isub, 1), (23, .istore_n 1, 1), (24, .aload_n 0, 1), (25, .getfield 12, 3), (28, .getfield 88, 3), (31, .ifCond .le 20, 3), (34, .iload_n 1, 1), (35, .aload_n 0, 1), (36, .getfield 12, 3), (39, .getfield 91, 3), (42, .if_icmp .eq 9, 3), (45, .aload_n 0, 1), (46, .iconst 2, 1), (47, .invokevirtual 57, 3), (50, .ireturn, 1), (51, .iconst 0, 1), (52, .istore_n 2, 1), (53, .iconst 0, 1), (54, .istore_n 3, 1), (55, .iload_n 3, 1), (56, .iload_n 1, 1), (57, .if_icmp .ge 58, 3), (60, .aload_n 0, 1), (61, .aload_n 0, 1), (62, .getfield 28, 3), (65, .iload_n 3, 1), (66, .iadd, 1), (67, .invokevirtual 94, 3), (70, .istore 4, 2), (72, .iload 4, 2), (74, .bipush 120, 2), (76, .if_icmp .eq 16, 3), (79, .iload 4, 2), (81, .bipush 111, 2), (83, .if_icmp .eq 9, 3), (86, .aload_n 0, 1), (87, .iconst 2, 1), (88, .invokevirtual 57, 3), (91, .ireturn, 1), (92, .iload_n 2, 1), (93, .iload 4, 2), (95, .bipush 120, 2), (97, .if_icmp .ne 9, 3), (100, .iconst 1, 1), (101, .iload_n 3, 1), (102, .ishl, 1), (103, .goto 4, 3), (106, .iconst 0, 1), (107, .ior, 1), (108, .istore_n 2, 1), (109, .iinc 3 1, 3), (112, .goto (-57), 3), (115, .aload_n 0, 1), (116, .getfield 12, 3), (119, .getfield 88, 3), (122, .bipush 10, 2), (124, .if_icmp .lt 9, 3), (127, .aload_n 0, 1), (128, .iconst 4, 1), (129, .invokevirtual 57, 3), (132, .ireturn, 1), (133, .aload_n 0, 1), (134, .getfield 12, 3), (137, .iload_n 1, 1), (138, .putfield 91, 3), (141, .aload_n 0, 1), (142, .getfield 12, 3), (145, .aload_n 0, 1), (146, .getfield 12, 3), (149, .getfield 88, 3), (152, .iload_n 2, 1), (153, .invokevirtual 98, 3), (156, .aload_n 0, 1), (157, .getfield 12, 3), (160, .dup, 1), (161, .getfield 88, 3), (164, .iconst 1, 1), (165, .iadd, 1), (166, .putfield 88, 3), (169, .iconst 1, 1), (170, .ireturn, 1)]
theorem DX3_readRow : kX3_readRow.map (fun q => decode cX3_readRow q.1) = kX3_readRow.map (fun q => Except.ok (q.2.1, q.2.2)) := by decide +kernel
def mX3_readSpeeds : eM := (yX3_readSpeeds, cX3_readSpeeds, 2, (some .boolean), 3, 67)
def kX3_readSpeeds : List (Nat × Instr × Nat) := [(0, .aload_n 0, 1), (1, .iconst 1, 1), (2, .putfield 31, 3), (5, .iconst 0, 1), (6, .istore_n 1, 1), (7, .iload_n 1, 1), (8, .iconst 4, 1), (9, .if_icmp .ge 46, 3), (12, .iload_n 1, 1), (13, .ifCond .le 12, 3), (16, .aload_n 0, 1), (17, .invokevirtual 102, 3), (20, .ifCond .ne 5, 3), (23, .iconst 0, 1), (24, .ireturn, 1), (25, .aload_n 0, 1), (26, .iconst 1, 1), (27, .bipush 9, 2), (29, .invokevirtual 105, 3), (32, .ifCond .ne 5, 3), (35, .iconst 0, 1), (36, .ireturn, 1), (37, .aload_n 0, 1), (38, .getfield 12, 3), (41, .iload_n 1, 1), (42, .aload_n 0, 1), (43, .invokevirtual 109, 3), (46, .invokevirtual 112, 3), (49, .iinc 1 1, 3), (52, .goto (-45), 3), (55, .aload_n 0, 1), (56, .invokevirtual 48, 3), (59, .iconst 1, 1), (60, .ireturn, 1)]
theorem DX3_readSpeeds : kX3_readSpeeds.map (fun q => decode cX3_readSpeeds q.1) = kX3_readSpeeds.map (fun q => Except.ok (q.2.1, q.2.2)) := by decide +kernel
def mX3_readMark : eM := (yX3_readMark, cX3_readMark, 2, (some .boolean), 3, 67)
def kX3_readMark : List (Nat × Instr × Nat) := [(0, .aload_n 0, 1), (1, .iconst 0, 1), (2, .iconst 4, 1), (3, .aload_n 0, 1), (4, .getfield 12, 3), (7, .getfield 91, 3), (10, .imul, 1), (11, .invokevirtual 105, 3), (14, .ifCond .ne 5, 3), (17, .iconst 0, 1), (18, .ireturn, 1), (19, .aload_n 0, 1), (20, .invokevirtual 109, 3), (23, .istore_n 1, 1), (24, .aload_n 0, 1), (25, .invokevirtual 102, 3), (28, .ifCond .eq 20, 3), (31, .aload_n 0, 1), (32, .iconst 0, 1), (33, .iconst 4, 1), (34, .aload_n 0, 1), (35, .getfield 12, 3), (38, .getfield 88, 3), (41, .imul, 1), (42, .invokevirtual 105, 3), (45, .ifCond .ne 5, 3), (48, .iconst 0, 1), (49, .ireturn, 1), (50, .aload_n 0, 1), (51, .getfield 12, 3), (54, .iload_n 1, 1), (55, .aload_n 0, 1), (56, .invokevirtual 109, 3), (59, .invokevirtual 115, 3), (62, .aload_n 0, 1), (63, .invokevirtual 48, 3), (66, .iconst 1, 1), (67, .ireturn, 1)]
theorem DX3_readMark : kX3_readMark.map (fun q => decode cX3_readMark q.1) = kX3_readMark.map (fun q => Except.ok (q.2.1, q.2.2)) := by decide +kernel
def mX3_readComma : eM := (yX3_readComma, cX3_readComma, 1, (some .boolean), 2, 44)
def kX3_readComma : List (Nat × Instr × Nat) := [(0, .aload_n 0, 1), (1, .invokevirtual 48, 3), (4, .aload_n 0, 1), (5, .getfield 25, 3), (8, .bipush 44, 2), (10, .if_icmp .eq 11, 3), (13, .aload_n 0, 1), (14, .iconst 1, 1), (15, .invokevirtual 57, 3), (18, .ifCond .eq 7, 3), (21, .iconst 1, 1), (22, .goto 4, 3), (25, .iconst 0, 1), (26, .ireturn, 1)]
theorem DX3_readComma : kX3_readComma.map (fun q => decode cX3_readComma q.1) = kX3_readComma.map (fun q => Except.ok (q.2.1, q.2.2)) := by decide +kernel
def mX3_readWhole : eM := (yX3_readWhole, cX3_readWhole, 4, (some .boolean), 2, 44)
def kX3_readWhole : List (Nat × Instr × Nat) := [(0, .aload_n 0, 1), (1, .invokevirtual 48, 3), (4, .aload_n 0, 1), (5, .getfield 25, 3), (8, .iconst 2, 1), (9, .if_icmp .eq 9, 3), (12, .aload_n 0, 1), (13, .iconst 1, 1), (14, .invokevirtual 57, 3), (17, .ireturn, 1), (18, .aload_n 0, 1), (19, .invokevirtual 109, 3), (22, .istore_n 3, 1), (23, .iload_n 3, 1), (24, .iload_n 1, 1), (25, .if_icmp .lt 8, 3), (28, .iload_n 3, 1), (29, .iload_n 2, 1), (30, .if_icmp .le 11, 3), (33, .aload_n 0, 1), (34, .iconst 2, 1), (35, .invokevirtual 57, 3), (38, .ifCond .eq 7, 3), (41, .iconst 1, 1), (42, .goto 4, 3), (45, .iconst 0, 1), (46, .ireturn, 1)]
theorem DX3_readWhole : kX3_readWhole.map (fun q => decode cX3_readWhole q.1) = kX3_readWhole.map (fun q => Except.ok (q.2.1, q.2.2)) := by decide +kernel
def mX3_wholeValue : eM := (yX3_wholeValue, cX3_wholeValue, 3, (some .int), 1, 21)
def kX3_wholeValue : List (Nat × Instr × Nat) := [(0, .iconst 0, 1), (1, .istore_n 1, 1), (2, .aload_n 0, 1), (3, .getfield 28, 3), (6, .istore_n 2, 1), (7, .iload_n 2, 1), (8, .aload_n 0, 1), (9, .getfield 22, 3), (12, .if_icmp .ge 23, 3), (15, .iload_n 1, 1), (16, .bipush 10, 2), (18, .imul, 1), (19, .aload_n 0, 1), (20, .iload_n 2, 1), (21, .invokevirtual 94, 3), (24, .bipush 48, 2), (26, .isub, 1), (27, .iadd, 1), (28, .istore_n 1, 1), (29, .iinc 2 1, 3), (32, .goto (-25), 3), (35, .iload_n 1, 1), (36, .ireturn, 1)]
theorem DX3_wholeValue : kX3_wholeValue.map (fun q => decode cX3_wholeValue q.1) = kX3_wholeValue.map (fun q => Except.ok (q.2.1, q.2.2)) := by decide +kernel
def mX3_isWord : eM := (yX3_isWord, cX3_isWord, 3, (some .boolean), 5, 106)
def kX3_isWord : List (Nat × Instr × Nat) := [(0, .aload_n 0, 1), (1, .getfield 25, 3), (4, .iconst 1, 1), (5, .if_icmp .ne 19, 3), (8, .aload_n 0, 1), (9, .getfield 22, 3), (12, .aload_n 0, 1), (13, .getfield 28, 3), (16, .isub, 1), (17, .aload_n 1, 1), (18, .invokevirtual 118, 3), (21, .if_icmp .eq 5, 3), (24, .iconst 0, 1), (25, .ireturn, 1), (26, .iconst 0, 1), (27, .istore_n 2, 1), (28, .iload_n 2, 1), (29, .aload_n 1, 1), (30, .invokevirtual 118, 3), (33, .if_icmp .ge 29, 3), (36, .aload_n 0, 1), (37, .aload_n 0, 1), (38, .getfield 28, 3), (41, .iload_n 2, 1), (42, .iadd, 1), (43, .invokevirtual 94, 3), (46, .aload_n 1, 1), (47, .iload_n 2, 1), (48, .invokevirtual 122, 3), (51, .if_icmp .eq 5, 3), (54, .iconst 0, 1), (55, .ireturn, 1), (56, .iinc 2 1, 3), (59, .goto (-31), 3), (62, .iconst 1, 1), (63, .ireturn, 1)]
theorem DX3_isWord : kX3_isWord.map (fun q => decode cX3_isWord q.1) = kX3_isWord.map (fun q => Except.ok (q.2.1, q.2.2)) := by decide +kernel
def mX3_advance : eM := (yX3_advance, cX3_advance, 4, none, 1, 21)
def kX3_advance : List (Nat × Instr × Nat) := [(0, .aload_n 0, 1), (1, .aload_n 0, 1), (2, .getfield 22, 3), (5, .putfield 28, 3), (8, .iconst 0, 1), (9, .istore_n 1, 1), (10, .iload_n 1, 1), (11, .sipush 400, 3), (14, .if_icmp .ge 32, 3), (17, .aload_n 0, 1), (18, .aload_n 0, 1), (19, .getfield 28, 3), (22, .invokevirtual 94, 3), (25, .bipush 32, 2), (27, .if_icmp .ne 19, 3), (30, .aload_n 0, 1), (31, .dup, 1), (32, .getfield 28, 3), (35, .iconst 1, 1), (36, .iadd, 1), (37, .putfield 28, 3), (40, .iinc 1 1, 3), (43, .goto (-33), 3), (46, .aload_n 0, 1), (47, .aload_n 0, 1), (48, .getfield 28, 3), (51, .invokevirtual 94, 3), (54, .istore_n 1, 1), (55, .iload_n 1, 1), (56, .invokestatic 126, 3), (59, .istore_n 2, 1), (60, .aload_n 0, 1), (61, .iload_n 1, 1), (62, .ifCond .ge 10, 3), (65, .aload_n 0, 1), (66, .getfield 28, 3), (69, .goto 9, 3), (72, .aload_n 0, 1), (73, .getfield 28, 3), (76, .iconst 1, 1), (77, .iadd, 1), (78, .putfield 22, 3), (81, .iconst 0, 1), (82, .istore_n 3, 1), (83, .iload_n 3, 1), (84, .sipush 400, 3), (87, .if_icmp .ge 39, 3), (90, .iload_n 2, 1), (91, .iconst (-1), 1), (92, .if_icmp .eq 34, 3), (95, .aload_n 0, 1), (96, .aload_n 0, 1), (97, .getfield 22, 3), (100, .invokevirtual 94, 3), (103, .invokestatic 126, 3), (106, .iload_n 2, 1), (107, .if_icmp .ne 19, 3), (110, .aload_n 0, 1), (111, .dup, 1), (112, .getfield 22, 3), (115, .iconst 1, 1), (116, .iadd, 1), (117, .putfield 22, 3), (120, .iinc 3 1, 3), (123, .goto (-40), 3), (126, .iload_n 1, 1), (127, .ifCond .ge 11, 3), (130, .aload_n 0, 1), (131, .iconst 0, 1), (132, .putfield 25, 3), (135, .goto 54, 3), (138, .iload_n 1, 1), (139, .bipush 59, 2), (141, .if_icmp .eq 15, 3), (144, .iload_n 1, 1), (145, .bipush 44, 2), (147, .if_icmp .eq 9, 3), (150, .iload_n 1, 1), (151, .bipush 47, 2), (153, .if_icmp .ne 11, 3), (156, .aload_n 0, 1), (157, .iload_n 1, 1), (158, .putfield 25, 3), (161, .goto 28, 3), (164, .aload_n 0, 1), (165, .aload_n 0, 1), (166, .getfield 22, 3), (169, .aload_n 0, 1), (170, .getfield 28, 3), (173, .isub, 1), (174, .iload_n 2, 1), (175, .invokestatic 129, 3), (178, .if_icmp .le 7, 3), (181, .iconst (-1), 1), (182, .goto 4, 3), (185, .iload_n 2, 1), (186, .putfield 25, 3), (189, .return_, 1)]
theorem DX3_advance : kX3_advance.map (fun q => decode cX3_advance q.1) = kX3_advance.map (fun q => Except.ok (q.2.1, q.2.2)) := by decide +kernel
def mX3_kindOfRun : eM := (yX3_kindOfRun, cX3_kindOfRun, 1, (some .int), 0, 0)
def kX3_kindOfRun : List (Nat × Instr × Nat) := [(0, .iload_n 0, 1), (1, .bipush 97, 2), (3, .if_icmp .lt 11, 3), (6, .iload_n 0, 1), (7, .bipush 122, 2), (9, .if_icmp .gt 5, 3), (12, .iconst 1, 1), (13, .ireturn, 1), (14, .iload_n 0, 1), (15, .bipush 48, 2), (17, .if_icmp .lt 13, 3), (20, .iload_n 0, 1), (21, .bipush 57, 2), (23, .if_icmp .gt 7, 3), (26, .iconst 2, 1), (27, .goto 4, 3), (30, .iconst (-1), 1), (31, .ireturn, 1)]
theorem DX3_kindOfRun : kX3_kindOfRun.map (fun q => decode cX3_kindOfRun q.1) = kX3_kindOfRun.map (fun q => Except.ok (q.2.1, q.2.2)) := by decide +kernel
def mX3_longestRun : eM := (yX3_longestRun, cX3_longestRun, 1, (some .int), 0, 0)
def kX3_longestRun : List (Nat × Instr × Nat) := [(0, .iload_n 0, 1), (1, .iconst 1, 1), (2, .if_icmp .ne 8, 3), (5, .bipush 14, 2), (7, .goto 4, 3), (10, .iconst 4, 1), (11, .ireturn, 1)]
theorem DX3_longestRun : kX3_longestRun.map (fun q => decode cX3_longestRun q.1) = kX3_longestRun.map (fun q => Except.ok (q.2.1, q.2.2)) := by decide +kernel
def mX3_signAt : eM := (yX3_signAt, cX3_signAt, 2, (some .int), 0, 0)
def kX3_signAt : List (Nat × Instr × Nat) := [(0, .iload_n 1, 1), (1, .ifCond .lt 33, 3), (4, .iload_n 1, 1), (5, .aload_n 0, 1), (6, .getfield 18, 3), (9, .if_icmp .ge 25, 3), (12, .iload_n 1, 1), (13, .aload_n 0, 1), (14, .getfield 41, 3), (17, .arraylength, 1), (18, .if_icmp .ge 16, 3), (21, .aload_n 0, 1), (22, .getfield 41, 3), (25, .iload_n 1, 1), (26, .baload, 1), (27, .sipush 255, 3), (30, .iand, 1), (31, .goto 4, 3), (34, .iconst (-1), 1), (35, .ireturn, 1)]
theorem DX3_signAt : kX3_signAt.map (fun q => decode cX3_signAt q.1) = kX3_signAt.map (fun q => Except.ok (q.2.1, q.2.2)) := by decide +kernel
theorem sJ6_bitCount_0f7a4 : eSc mJ6_bitCount_0f7a4 1 := ⟨eMem 2 195 rfl rfl, eMem 1 15 rfl rfl, eMem 2 196 rfl rfl, by decide +kernel, by decide +kernel, by decide +kernel⟩
theorem sJ9_max_7cf53 : eSc mJ9_max_7cf53 2 := ⟨eMem 3 189 rfl rfl, eMem 1 17 rfl rfl, eMem 3 190 rfl rfl, by decide +kernel, by decide +kernel, by decide +kernel⟩
theorem sJ9_min_7cf53 : eSc mJ9_min_7cf53 2 := ⟨eMem 3 170 rfl rfl, eMem 1 17 rfl rfl, eMem 3 171 rfl rfl, by decide +kernel, by decide +kernel, by decide +kernel⟩
theorem sJ9_min_f86c9 : eSc mJ9_min_f86c9 2 := ⟨eMem 3 83 rfl rfl, eMem 1 17 rfl rfl, eMem 3 84 rfl rfl, by decide +kernel, by decide +kernel, by decide +kernel⟩
theorem sJ0_length_8abf5 : eVc mJ0_length_8abf5 0 := ⟨eMem 2 89 rfl rfl, eMem 2 90 rfl rfl, eMem 1 11 rfl rfl, eMem 2 91 rfl rfl, by decide +kernel, by decide +kernel, by decide +kernel⟩
theorem sJ0_charAt_5068e : eVc mJ0_charAt_5068e 1 := ⟨eMem 2 99 rfl rfl, eMem 2 100 rfl rfl, eMem 1 11 rfl rfl, eMem 2 101 rfl rfl, by decide +kernel, by decide +kernel, by decide +kernel⟩
theorem sJ0_coder_7d493 : eVc mJ0_coder_7d493 0 := ⟨eMem 2 93 rfl rfl, eMem 2 94 rfl rfl, eMem 1 11 rfl rfl, eMem 2 95 rfl rfl, by decide +kernel, by decide +kernel, by decide +kernel⟩
theorem sJ0_isLatin1_aae02 : eVc mJ0_isLatin1_aae02 0 := ⟨eMem 2 103 rfl rfl, eMem 2 104 rfl rfl, eMem 1 11 rfl rfl, eMem 2 105 rfl rfl, by decide +kernel, by decide +kernel, by decide +kernel⟩
theorem sJ0_checkIndex_df160 : eSc mJ0_checkIndex_df160 2 := ⟨eMem 2 110 rfl rfl, eMem 1 11 rfl rfl, eMem 2 111 rfl rfl, by decide +kernel, by decide +kernel, by decide +kernel⟩
theorem sJ1_charAt_3b067 : eSc mJ1_charAt_3b067 2 := ⟨eMem 2 107 rfl rfl, eMem 1 12 rfl rfl, eMem 2 108 rfl rfl, by decide +kernel, by decide +kernel, by decide +kernel⟩
theorem sJ2_getChar_3b067 : eSc mJ2_getChar_3b067 2 := ⟨eMem 2 128 rfl rfl, eMem 1 14 rfl rfl, eMem 2 129 rfl rfl, by decide +kernel, by decide +kernel, by decide +kernel⟩
theorem sJ2_length_9d52b : eSc mJ2_length_9d52b 1 := ⟨eMem 2 124 rfl rfl, eMem 1 14 rfl rfl, eMem 2 125 rfl rfl, by decide +kernel, by decide +kernel, by decide +kernel⟩
theorem sJ2_charAt_3b067 : eSc mJ2_charAt_3b067 2 := ⟨eMem 2 118 rfl rfl, eMem 1 14 rfl rfl, eMem 2 119 rfl rfl, by decide +kernel, by decide +kernel, by decide +kernel⟩
theorem sJ2_checkIndex_2214a : eSc mJ2_checkIndex_2214a 2 := ⟨eMem 2 121 rfl rfl, eMem 1 14 rfl rfl, eMem 2 122 rfl rfl, by decide +kernel, by decide +kernel, by decide +kernel⟩
theorem sJ7_fill_53178 : eSc mJ7_fill_53178 2 := ⟨eMem 2 67 rfl rfl, eMem 1 10 rfl rfl, eMem 2 68 rfl rfl, by decide +kernel, by decide +kernel, by decide +kernel⟩
theorem sJ3_checkIndex_8e157 : eSc mJ3_checkIndex_8e157 3 := ⟨eMem 2 115 rfl rfl, eMem 1 13 rfl rfl, eMem 2 116 rfl rfl, by decide +kernel, by decide +kernel, by decide +kernel⟩
theorem sX0_stands : eVc mX0_stands 0 := ⟨eMem 2 233 rfl rfl, eMem 2 234 rfl rfl, eMem 1 2 rfl rfl, eMem 2 235 rfl rfl, by decide +kernel, by decide +kernel, by decide +kernel⟩
theorem sX0_clear : eVc mX0_clear 0 := ⟨eMem 2 63 rfl rfl, eMem 2 64 rfl rfl, eMem 1 2 rfl rfl, eMem 2 65 rfl rfl, by decide +kernel, by decide +kernel, by decide +kernel⟩
theorem sX0_become : eVc mX0_become 1 := ⟨eMem 2 201 rfl rfl, eMem 2 202 rfl rfl, eMem 1 2 rfl rfl, eMem 2 203 rfl rfl, by decide +kernel, by decide +kernel, by decide +kernel⟩
theorem sX0_hasCell : eVc mX0_hasCell 2 := ⟨eMem 3 10 rfl rfl, eMem 3 11 rfl rfl, eMem 1 2 rfl rfl, eMem 3 12 rfl rfl, by decide +kernel, by decide +kernel, by decide +kernel⟩
theorem sX0_isInside : eVc mX0_isInside 2 := ⟨eMem 3 6 rfl rfl, eMem 3 7 rfl rfl, eMem 1 2 rfl rfl, eMem 3 8 rfl rfl, by decide +kernel, by decide +kernel, by decide +kernel⟩
theorem sX0_isLastInside : eVc mX0_isLastInside 2 := ⟨eMem 4 131 rfl rfl, eMem 4 132 rfl rfl, eMem 1 2 rfl rfl, eMem 4 133 rfl rfl, by decide +kernel, by decide +kernel, by decide +kernel⟩
theorem sX0_hasPoint : eVc mX0_hasPoint 2 := ⟨eMem 3 140 rfl rfl, eMem 3 141 rfl rfl, eMem 1 2 rfl rfl, eMem 3 142 rfl rfl, by decide +kernel, by decide +kernel, by decide +kernel⟩
theorem sX0_hasMark : eVc mX0_hasMark 1 := ⟨eMem 3 125 rfl rfl, eMem 3 126 rfl rfl, eMem 1 2 rfl rfl, eMem 3 127 rfl rfl, by decide +kernel, by decide +kernel, by decide +kernel⟩
theorem sX0_lineAt : eVc mX0_lineAt 1 := ⟨eMem 2 191 rfl rfl, eMem 2 192 rfl rfl, eMem 1 2 rfl rfl, eMem 2 193 rfl rfl, by decide +kernel, by decide +kernel, by decide +kernel⟩
theorem sX0_setLine : eVc mX0_setLine 2 := ⟨eMem 2 149 rfl rfl, eMem 2 150 rfl rfl, eMem 1 2 rfl rfl, eMem 2 151 rfl rfl, by decide +kernel, by decide +kernel, by decide +kernel⟩
theorem sX0_pace : eVc mX0_pace 1 := ⟨eMem 3 42 rfl rfl, eMem 3 43 rfl rfl, eMem 1 2 rfl rfl, eMem 3 44 rfl rfl, by decide +kernel, by decide +kernel, by decide +kernel⟩
theorem sX0_setPace : eVc mX0_setPace 2 := ⟨eMem 2 174 rfl rfl, eMem 2 175 rfl rfl, eMem 1 2 rfl rfl, eMem 2 176 rfl rfl, by decide +kernel, by decide +kernel, by decide +kernel⟩
theorem sX0_markPart : eVc mX0_markPart 2 := ⟨eMem 3 132 rfl rfl, eMem 3 133 rfl rfl, eMem 1 2 rfl rfl, eMem 3 134 rfl rfl, by decide +kernel, by decide +kernel, by decide +kernel⟩
theorem sX0_addMark : eVc mX0_addMark 2 := ⟨eMem 2 183 rfl rfl, eMem 2 184 rfl rfl, eMem 1 2 rfl rfl, eMem 2 185 rfl rfl, by decide +kernel, by decide +kernel, by decide +kernel⟩
theorem sX0_countInside : eVc mX0_countInside 0 := ⟨eMem 2 187 rfl rfl, eMem 2 188 rfl rfl, eMem 1 2 rfl rfl, eMem 2 189 rfl rfl, by decide +kernel, by decide +kernel, by decide +kernel⟩
theorem sX0_flip : eVc mX0_flip 2 := ⟨eMem 4 137 rfl rfl, eMem 4 138 rfl rfl, eMem 1 2 rfl rfl, eMem 4 139 rfl rfl, by decide +kernel, by decide +kernel, by decide +kernel⟩
theorem sX0_mirror : eVc mX0_mirror 0 := ⟨eMem 4 164 rfl rfl, eMem 4 165 rfl rfl, eMem 1 2 rfl rfl, eMem 4 166 rfl rfl, by decide +kernel, by decide +kernel, by decide +kernel⟩
theorem sX0_overturn : eVc mX0_overturn 0 := ⟨eMem 4 168 rfl rfl, eMem 4 169 rfl rfl, eMem 1 2 rfl rfl, eMem 4 170 rfl rfl, by decide +kernel, by decide +kernel, by decide +kernel⟩
theorem sX0_spread : eVc mX0_spread 0 := ⟨eMem 4 176 rfl rfl, eMem 4 177 rfl rfl, eMem 1 2 rfl rfl, eMem 4 178 rfl rfl, by decide +kernel, by decide +kernel, by decide +kernel⟩
theorem sX1_keep : eVc mX1_keep 1 := ⟨eMem 4 150 rfl rfl, eMem 4 151 rfl rfl, eMem 1 3 rfl rfl, eMem 4 152 rfl rfl, by decide +kernel, by decide +kernel, by decide +kernel⟩
theorem sX1_bringBack : eVc mX1_bringBack 1 := ⟨eMem 4 184 rfl rfl, eMem 4 185 rfl rfl, eMem 1 3 rfl rfl, eMem 4 186 rfl rfl, by decide +kernel, by decide +kernel, by decide +kernel⟩
theorem sX2_reduce : eVc mX2_reduce 2 := ⟨eMem 3 50 rfl rfl, eMem 3 51 rfl rfl, eMem 1 8 rfl rfl, eMem 3 52 rfl rfl, by decide +kernel, by decide +kernel, by decide +kernel⟩
theorem sX2_part : eVc mX2_part 1 := ⟨eMem 3 70 rfl rfl, eMem 3 71 rfl rfl, eMem 1 8 rfl rfl, eMem 3 72 rfl rfl, by decide +kernel, by decide +kernel, by decide +kernel⟩
theorem sX2_commonFactor : eSc mX2_commonFactor 2 := ⟨eMem 3 54 rfl rfl, eMem 1 8 rfl rfl, eMem 3 55 rfl rfl, by decide +kernel, by decide +kernel, by decide +kernel⟩
theorem sX3_readText : eVc mX3_readText 1 := ⟨eMem 2 59 rfl rfl, eMem 2 60 rfl rfl, eMem 1 4 rfl rfl, eMem 2 61 rfl rfl, by decide +kernel, by decide +kernel, by decide +kernel⟩
theorem sX3_fail : eVc mX3_fail 1 := ⟨eMem 2 138 rfl rfl, eMem 0 5 rfl rfl, eMem 1 4 rfl rfl, eMem 2 139 rfl rfl, by decide +kernel, by decide +kernel, by decide +kernel⟩
theorem sX3_readLine : eVc mX3_readLine 0 := ⟨eMem 2 154 rfl rfl, eMem 0 8 rfl rfl, eMem 1 4 rfl rfl, eMem 2 155 rfl rfl, by decide +kernel, by decide +kernel, by decide +kernel⟩
theorem sX3_readRows : eVc mX3_readRows 0 := ⟨eMem 2 142 rfl rfl, eMem 0 6 rfl rfl, eMem 1 4 rfl rfl, eMem 2 143 rfl rfl, by decide +kernel, by decide +kernel, by decide +kernel⟩
theorem sX3_readRow : eVc mX3_readRow 0 := ⟨eMem 2 146 rfl rfl, eMem 0 7 rfl rfl, eMem 1 4 rfl rfl, eMem 2 147 rfl rfl, by decide +kernel, by decide +kernel, by decide +kernel⟩
theorem sX3_readSpeeds : eVc mX3_readSpeeds 0 := ⟨eMem 2 159 rfl rfl, eMem 0 9 rfl rfl, eMem 1 4 rfl rfl, eMem 2 160 rfl rfl, by decide +kernel, by decide +kernel, by decide +kernel⟩
theorem sX3_readMark : eVc mX3_readMark 0 := ⟨eMem 2 180 rfl rfl, eMem 0 13 rfl rfl, eMem 1 4 rfl rfl, eMem 2 181 rfl rfl, by decide +kernel, by decide +kernel, by decide +kernel⟩
theorem sX3_readComma : eVc mX3_readComma 0 := ⟨eMem 2 163 rfl rfl, eMem 0 10 rfl rfl, eMem 1 4 rfl rfl, eMem 2 164 rfl rfl, by decide +kernel, by decide +kernel, by decide +kernel⟩
theorem sX3_readWhole : eVc mX3_readWhole 2 := ⟨eMem 2 167 rfl rfl, eMem 0 11 rfl rfl, eMem 1 4 rfl rfl, eMem 2 168 rfl rfl, by decide +kernel, by decide +kernel, by decide +kernel⟩
theorem sX3_wholeValue : eVc mX3_wholeValue 0 := ⟨eMem 2 171 rfl rfl, eMem 0 12 rfl rfl, eMem 1 4 rfl rfl, eMem 2 172 rfl rfl, by decide +kernel, by decide +kernel, by decide +kernel⟩
theorem sX3_isWord : eVc mX3_isWord 1 := ⟨eMem 2 86 rfl rfl, eMem 0 4 rfl rfl, eMem 1 4 rfl rfl, eMem 2 87 rfl rfl, by decide +kernel, by decide +kernel, by decide +kernel⟩
theorem sX3_advance : eVc mX3_advance 0 := ⟨eMem 2 71 rfl rfl, eMem 0 2 rfl rfl, eMem 1 4 rfl rfl, eMem 2 72 rfl rfl, by decide +kernel, by decide +kernel, by decide +kernel⟩
theorem sX3_kindOfRun : eSc mX3_kindOfRun 1 := ⟨eMem 2 78 rfl rfl, eMem 1 4 rfl rfl, eMem 2 79 rfl rfl, by decide +kernel, by decide +kernel, by decide +kernel⟩
theorem sX3_longestRun : eSc mX3_longestRun 1 := ⟨eMem 2 81 rfl rfl, eMem 1 4 rfl rfl, eMem 2 82 rfl rfl, by decide +kernel, by decide +kernel, by decide +kernel⟩
theorem sX3_signAt : eVc mX3_signAt 1 := ⟨eMem 2 75 rfl rfl, eMem 0 3 rfl rfl, eMem 1 4 rfl rfl, eMem 2 76 rfl rfl, by decide +kernel, by decide +kernel, by decide +kernel⟩
