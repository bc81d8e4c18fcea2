theorem inW0 : ∀ w ∈ u_ws RX0 TX0 6, w ∈ ai_W := by decide +kernel
theorem inW1 : ∀ w ∈ u_ws RX1 TX1 7, w ∈ ai_W := by decide +kernel
theorem inW2 : ∀ w ∈ u_ws RX2 TX2 4, w ∈ ai_W := by decide +kernel
theorem inW3 : ∀ w ∈ u_ws RX3 TX3 18, w ∈ ai_W := by decide +kernel
theorem inW4 : ∀ w ∈ u_ws RX4 TX4 7, w ∈ ai_W := by decide +kernel
theorem inW5 : ∀ w ∈ u_ws RX5 TX5 27, w ∈ ai_W := by decide +kernel
theorem fX1_28 : ai_F RX1 28 1 0 .int false := ⟨RX1, TX1, 7, tyX1, rfl, by decide, inW1, ai_in 63 (by decide +kernel) (by decide +kernel), tyX1_ok, nmX1, rfl, rfl, fun _ => rfl⟩
theorem fX4_48 : ai_F RX4 48 1 0 .int false := ⟨RX1, TX1, 7, tyX1, rfl, by decide, inW1, ai_in 64 (by decide +kernel) (by decide +kernel), tyX1_ok, nmX1, rfl, rfl, fun _ => rfl⟩
theorem fX3_53 : ai_F RX3 53 1 0 .int false := ⟨RX1, TX1, 7, tyX1, rfl, by decide, inW1, ai_in 65 (by decide +kernel) (by decide +kernel), tyX1_ok, nmX1, rfl, rfl, fun _ => rfl⟩
theorem fX1_32 : ai_F RX1 32 1 1 .int false := ⟨RX1, TX1, 7, tyX1, rfl, by decide, inW1, ai_in 66 (by decide +kernel) (by decide +kernel), tyX1_ok, nmX1, rfl, rfl, fun _ => rfl⟩
theorem fX3_47 : ai_F RX3 47 1 1 .int false := ⟨RX1, TX1, 7, tyX1, rfl, by decide, inW1, ai_in 67 (by decide +kernel) (by decide +kernel), tyX1_ok, nmX1, rfl, rfl, fun _ => rfl⟩
theorem fX4_72 : ai_F RX4 72 1 1 .int false := ⟨RX1, TX1, 7, tyX1, rfl, by decide, inW1, ai_in 68 (by decide +kernel) (by decide +kernel), tyX1_ok, nmX1, rfl, rfl, fun _ => rfl⟩
theorem fX1_35 : ai_F RX1 35 1 2 .int false := ⟨RX1, TX1, 7, tyX1, rfl, by decide, inW1, ai_in 69 (by decide +kernel) (by decide +kernel), tyX1_ok, nmX1, rfl, rfl, fun _ => rfl⟩
theorem fX4_88 : ai_F RX4 88 1 2 .int false := ⟨RX1, TX1, 7, tyX1, rfl, by decide, inW1, ai_in 70 (by decide +kernel) (by decide +kernel), tyX1_ok, nmX1, rfl, rfl, fun _ => rfl⟩
theorem fX1_9 : ai_F RX1 9 1 3 (.array .int) true := ⟨RX1, TX1, 7, tyX1, rfl, by decide, inW1, ai_in 71 (by decide +kernel) (by decide +kernel), tyX1_ok, nmX1, rfl, rfl, fun _ => rfl⟩
theorem fX4_65 : ai_F RX4 65 1 3 (.array .int) true := ⟨RX1, TX1, 7, tyX1, rfl, by decide, inW1, ai_in 72 (by decide +kernel) (by decide +kernel), tyX1_ok, nmX1, rfl, rfl, fun _ => rfl⟩
theorem fX1_15 : ai_F RX1 15 1 4 (.array .int) true := ⟨RX1, TX1, 7, tyX1, rfl, by decide, inW1, ai_in 73 (by decide +kernel) (by decide +kernel), tyX1_ok, nmX1, rfl, rfl, fun _ => rfl⟩
theorem fX4_82 : ai_F RX4 82 1 4 (.array .int) true := ⟨RX1, TX1, 7, tyX1, rfl, by decide, inW1, ai_in 74 (by decide +kernel) (by decide +kernel), tyX1_ok, nmX1, rfl, rfl, fun _ => rfl⟩
theorem fX0_40 : ai_F RX0 40 1 4 (.array .int) true := ⟨RX1, TX1, 7, tyX1, rfl, by decide, inW1, ai_in 75 (by decide +kernel) (by decide +kernel), tyX1_ok, nmX1, rfl, rfl, fun _ => rfl⟩
theorem fX1_18 : ai_F RX1 18 1 5 (.array .int) true := ⟨RX1, TX1, 7, tyX1, rfl, by decide, inW1, ai_in 76 (by decide +kernel) (by decide +kernel), tyX1_ok, nmX1, rfl, rfl, fun _ => rfl⟩
theorem fX4_99 : ai_F RX4 99 1 5 (.array .int) true := ⟨RX1, TX1, 7, tyX1, rfl, by decide, inW1, ai_in 77 (by decide +kernel) (by decide +kernel), tyX1_ok, nmX1, rfl, rfl, fun _ => rfl⟩
theorem fX1_21 : ai_F RX1 21 1 6 (.array .int) true := ⟨RX1, TX1, 7, tyX1, rfl, by decide, inW1, ai_in 78 (by decide +kernel) (by decide +kernel), tyX1_ok, nmX1, rfl, rfl, fun _ => rfl⟩
theorem fX0_41 : ai_F RX0 41 1 6 (.array .int) true := ⟨RX1, TX1, 7, tyX1, rfl, by decide, inW1, ai_in 79 (by decide +kernel) (by decide +kernel), tyX1_ok, nmX1, rfl, rfl, fun _ => rfl⟩
theorem fX3_40 : ai_F RX3 40 0 0 .int false := ⟨RX0, TX0, 6, tyX0, rfl, by decide, inW0, ai_in 102 (by decide +kernel) (by decide +kernel), tyX0_ok, nmX0, rfl, rfl, fun _ => rfl⟩
theorem fX0_27 : ai_F RX0 27 0 0 .int false := ⟨RX0, TX0, 6, tyX0, rfl, by decide, inW0, ai_in 103 (by decide +kernel) (by decide +kernel), tyX0_ok, nmX0, rfl, rfl, fun _ => rfl⟩
theorem fX4_55 : ai_F RX4 55 0 0 .int false := ⟨RX0, TX0, 6, tyX0, rfl, by decide, inW0, ai_in 104 (by decide +kernel) (by decide +kernel), tyX0_ok, nmX0, rfl, rfl, fun _ => rfl⟩
theorem fX0_9 : ai_F RX0 9 0 1 (.array .int) true := ⟨RX0, TX0, 6, tyX0, rfl, by decide, inW0, ai_in 105 (by decide +kernel) (by decide +kernel), tyX0_ok, nmX0, rfl, rfl, fun _ => rfl⟩
theorem fX3_72 : ai_F RX3 72 0 1 (.array .int) true := ⟨RX0, TX0, 6, tyX0, rfl, by decide, inW0, ai_in 106 (by decide +kernel) (by decide +kernel), tyX0_ok, nmX0, rfl, rfl, fun _ => rfl⟩
theorem fX4_112 : ai_F RX4 112 0 1 (.array .int) true := ⟨RX0, TX0, 6, tyX0, rfl, by decide, inW0, ai_in 107 (by decide +kernel) (by decide +kernel), tyX0_ok, nmX0, rfl, rfl, fun _ => rfl⟩
theorem fX0_15 : ai_F RX0 15 0 2 (.array .int) true := ⟨RX0, TX0, 6, tyX0, rfl, by decide, inW0, ai_in 108 (by decide +kernel) (by decide +kernel), tyX0_ok, nmX0, rfl, rfl, fun _ => rfl⟩
theorem fX3_67 : ai_F RX3 67 0 2 (.array .int) true := ⟨RX0, TX0, 6, tyX0, rfl, by decide, inW0, ai_in 109 (by decide +kernel) (by decide +kernel), tyX0_ok, nmX0, rfl, rfl, fun _ => rfl⟩
theorem fX4_113 : ai_F RX4 113 0 2 (.array .int) true := ⟨RX0, TX0, 6, tyX0, rfl, by decide, inW0, ai_in 110 (by decide +kernel) (by decide +kernel), tyX0_ok, nmX0, rfl, rfl, fun _ => rfl⟩
theorem fX0_18 : ai_F RX0 18 0 3 (.array .int) true := ⟨RX0, TX0, 6, tyX0, rfl, by decide, inW0, ai_in 111 (by decide +kernel) (by decide +kernel), tyX0_ok, nmX0, rfl, rfl, fun _ => rfl⟩
theorem fX4_116 : ai_F RX4 116 0 3 (.array .int) true := ⟨RX0, TX0, 6, tyX0, rfl, by decide, inW0, ai_in 112 (by decide +kernel) (by decide +kernel), tyX0_ok, nmX0, rfl, rfl, fun _ => rfl⟩
theorem fX0_21 : ai_F RX0 21 0 4 (.array .int) true := ⟨RX0, TX0, 6, tyX0, rfl, by decide, inW0, ai_in 113 (by decide +kernel) (by decide +kernel), tyX0_ok, nmX0, rfl, rfl, fun _ => rfl⟩
theorem fX3_82 : ai_F RX3 82 0 4 (.array .int) true := ⟨RX0, TX0, 6, tyX0, rfl, by decide, inW0, ai_in 114 (by decide +kernel) (by decide +kernel), tyX0_ok, nmX0, rfl, rfl, fun _ => rfl⟩
theorem fX4_117 : ai_F RX4 117 0 4 (.array .int) true := ⟨RX0, TX0, 6, tyX0, rfl, by decide, inW0, ai_in 115 (by decide +kernel) (by decide +kernel), tyX0_ok, nmX0, rfl, rfl, fun _ => rfl⟩
theorem fX0_24 : ai_F RX0 24 0 5 (.array .int) true := ⟨RX0, TX0, 6, tyX0, rfl, by decide, inW0, ai_in 116 (by decide +kernel) (by decide +kernel), tyX0_ok, nmX0, rfl, rfl, fun _ => rfl⟩
theorem fX4_120 : ai_F RX4 120 0 5 (.array .int) true := ⟨RX0, TX0, 6, tyX0, rfl, by decide, inW0, ai_in 117 (by decide +kernel) (by decide +kernel), tyX0_ok, nmX0, rfl, rfl, fun _ => rfl⟩
theorem fX2_21 : ai_F RX2 21 2 0 .boolean false := ⟨RX2, TX2, 4, tyX2, rfl, by decide, inW2, ai_in 147 (by decide +kernel) (by decide +kernel), tyX2_ok, nmX2, rfl, rfl, fun _ => rfl⟩
theorem fX3_107 : ai_F RX3 107 2 0 .boolean false := ⟨RX2, TX2, 4, tyX2, rfl, by decide, inW2, ai_in 148 (by decide +kernel) (by decide +kernel), tyX2_ok, nmX2, rfl, rfl, fun _ => rfl⟩
theorem fX4_163 : ai_F RX4 163 2 0 .boolean false := ⟨RX2, TX2, 4, tyX2, rfl, by decide, inW2, ai_in 149 (by decide +kernel) (by decide +kernel), tyX2_ok, nmX2, rfl, rfl, fun _ => rfl⟩
theorem fX2_25 : ai_F RX2 25 2 1 .int false := ⟨RX2, TX2, 4, tyX2, rfl, by decide, inW2, ai_in 150 (by decide +kernel) (by decide +kernel), tyX2_ok, nmX2, rfl, rfl, fun _ => rfl⟩
theorem fX3_131 : ai_F RX3 131 2 1 .int false := ⟨RX2, TX2, 4, tyX2, rfl, by decide, inW2, ai_in 151 (by decide +kernel) (by decide +kernel), tyX2_ok, nmX2, rfl, rfl, fun _ => rfl⟩
theorem fX4_182 : ai_F RX4 182 2 1 .int false := ⟨RX2, TX2, 4, tyX2, rfl, by decide, inW2, ai_in 152 (by decide +kernel) (by decide +kernel), tyX2_ok, nmX2, rfl, rfl, fun _ => rfl⟩
theorem fX2_9 : ai_F RX2 9 2 2 (.array .int) true := ⟨RX2, TX2, 4, tyX2, rfl, by decide, inW2, ai_in 153 (by decide +kernel) (by decide +kernel), tyX2_ok, nmX2, rfl, rfl, fun _ => rfl⟩
theorem fX3_143 : ai_F RX3 143 2 2 (.array .int) true := ⟨RX2, TX2, 4, tyX2, rfl, by decide, inW2, ai_in 154 (by decide +kernel) (by decide +kernel), tyX2_ok, nmX2, rfl, rfl, fun _ => rfl⟩
theorem fX4_175 : ai_F RX4 175 2 2 (.array .int) true := ⟨RX2, TX2, 4, tyX2, rfl, by decide, inW2, ai_in 155 (by decide +kernel) (by decide +kernel), tyX2_ok, nmX2, rfl, rfl, fun _ => rfl⟩
theorem fX2_15 : ai_F RX2 15 2 3 (.array .int) true := ⟨RX2, TX2, 4, tyX2, rfl, by decide, inW2, ai_in 156 (by decide +kernel) (by decide +kernel), tyX2_ok, nmX2, rfl, rfl, fun _ => rfl⟩
theorem fX3_146 : ai_F RX3 146 2 3 (.array .int) true := ⟨RX2, TX2, 4, tyX2, rfl, by decide, inW2, ai_in 157 (by decide +kernel) (by decide +kernel), tyX2_ok, nmX2, rfl, rfl, fun _ => rfl⟩
theorem fX4_183 : ai_F RX4 183 2 3 (.array .int) true := ⟨RX2, TX2, 4, tyX2, rfl, by decide, inW2, ai_in 158 (by decide +kernel) (by decide +kernel), tyX2_ok, nmX2, rfl, rfl, fun _ => rfl⟩
theorem fX3_12 : ai_F RX3 12 3 0 (.object "FootBook$Giving") true := ⟨RX3, TX3, 18, tyX3, rfl, by decide, inW3, ai_in 168 (by decide +kernel) (by decide +kernel), tyX3_ok, nmX3, rfl, rfl, fun _ => rfl⟩
theorem fX4_169 : ai_F RX4 169 3 0 (.object "FootBook$Giving") true := ⟨RX3, TX3, 18, tyX3, rfl, by decide, inW3, ai_in 169 (by decide +kernel) (by decide +kernel), tyX3_ok, nmX3, rfl, rfl, fun _ => rfl⟩
theorem fX3_18 : ai_F RX3 18 3 1 (.object "FootBook$Giving") true := ⟨RX3, TX3, 18, tyX3, rfl, by decide, inW3, ai_in 170 (by decide +kernel) (by decide +kernel), tyX3_ok, nmX3, rfl, rfl, fun _ => rfl⟩
theorem fX3_21 : ai_F RX3 21 3 2 (.object "FootBook$Giving") true := ⟨RX3, TX3, 18, tyX3, rfl, by decide, inW3, ai_in 171 (by decide +kernel) (by decide +kernel), tyX3_ok, nmX3, rfl, rfl, fun _ => rfl⟩
theorem fX3_46 : ai_F RX3 46 3 3 .int false := ⟨RX3, TX3, 18, tyX3, rfl, by decide, inW3, ai_in 172 (by decide +kernel) (by decide +kernel), tyX3_ok, nmX3, rfl, rfl, fun _ => rfl⟩
theorem fX3_52 : ai_F RX3 52 3 4 .int false := ⟨RX3, TX3, 18, tyX3, rfl, by decide, inW3, ai_in 173 (by decide +kernel) (by decide +kernel), tyX3_ok, nmX3, rfl, rfl, fun _ => rfl⟩
theorem fX3_56 : ai_F RX3 56 3 5 .int false := ⟨RX3, TX3, 18, tyX3, rfl, by decide, inW3, ai_in 174 (by decide +kernel) (by decide +kernel), tyX3_ok, nmX3, rfl, rfl, fun _ => rfl⟩
theorem fX3_24 : ai_F RX3 24 3 6 (.array .int) true := ⟨RX3, TX3, 18, tyX3, rfl, by decide, inW3, ai_in 175 (by decide +kernel) (by decide +kernel), tyX3_ok, nmX3, rfl, rfl, fun _ => rfl⟩
theorem fX3_28 : ai_F RX3 28 3 7 (.array .int) true := ⟨RX3, TX3, 18, tyX3, rfl, by decide, inW3, ai_in 176 (by decide +kernel) (by decide +kernel), tyX3_ok, nmX3, rfl, rfl, fun _ => rfl⟩
theorem fX3_31 : ai_F RX3 31 3 8 (.array .int) true := ⟨RX3, TX3, 18, tyX3, rfl, by decide, inW3, ai_in 177 (by decide +kernel) (by decide +kernel), tyX3_ok, nmX3, rfl, rfl, fun _ => rfl⟩
theorem fX3_34 : ai_F RX3 34 3 9 (.array .int) true := ⟨RX3, TX3, 18, tyX3, rfl, by decide, inW3, ai_in 178 (by decide +kernel) (by decide +kernel), tyX3_ok, nmX3, rfl, rfl, fun _ => rfl⟩
theorem fX3_37 : ai_F RX3 37 3 10 (.array .int) true := ⟨RX3, TX3, 18, tyX3, rfl, by decide, inW3, ai_in 179 (by decide +kernel) (by decide +kernel), tyX3_ok, nmX3, rfl, rfl, fun _ => rfl⟩
theorem fX3_57 : ai_F RX3 57 3 11 .int false := ⟨RX3, TX3, 18, tyX3, rfl, by decide, inW3, ai_in 180 (by decide +kernel) (by decide +kernel), tyX3_ok, nmX3, rfl, rfl, fun _ => rfl⟩
theorem fX3_60 : ai_F RX3 60 3 12 .boolean false := ⟨RX3, TX3, 18, tyX3, rfl, by decide, inW3, ai_in 181 (by decide +kernel) (by decide +kernel), tyX3_ok, nmX3, rfl, rfl, fun _ => rfl⟩
theorem fX3_125 : ai_F RX3 125 3 13 .int false := ⟨RX3, TX3, 18, tyX3, rfl, by decide, inW3, ai_in 182 (by decide +kernel) (by decide +kernel), tyX3_ok, nmX3, rfl, rfl, fun _ => rfl⟩
theorem fX3_128 : ai_F RX3 128 3 14 .int false := ⟨RX3, TX3, 18, tyX3, rfl, by decide, inW3, ai_in 183 (by decide +kernel) (by decide +kernel), tyX3_ok, nmX3, rfl, rfl, fun _ => rfl⟩
theorem fX3_110 : ai_F RX3 110 3 15 .int false := ⟨RX3, TX3, 18, tyX3, rfl, by decide, inW3, ai_in 184 (by decide +kernel) (by decide +kernel), tyX3_ok, nmX3, rfl, rfl, fun _ => rfl⟩
theorem fX3_113 : ai_F RX3 113 3 16 .int false := ⟨RX3, TX3, 18, tyX3, rfl, by decide, inW3, ai_in 185 (by decide +kernel) (by decide +kernel), tyX3_ok, nmX3, rfl, rfl, fun _ => rfl⟩
theorem fX3_121 : ai_F RX3 121 3 17 .int false := ⟨RX3, TX3, 18, tyX3, rfl, by decide, inW3, ai_in 186 (by decide +kernel) (by decide +kernel), tyX3_ok, nmX3, rfl, rfl, fun _ => rfl⟩
theorem fX4_10 : ai_F RX4 10 4 0 (.object "FootBook$Chip") true := ⟨RX4, TX4, 7, tyX4, rfl, by decide, inW4, ai_in 226 (by decide +kernel) (by decide +kernel), tyX4_ok, nmX4, rfl, rfl, fun _ => rfl⟩
theorem fX4_19 : ai_F RX4 19 4 1 (.object "FootBook$Board") true := ⟨RX4, TX4, 7, tyX4, rfl, by decide, inW4, ai_in 227 (by decide +kernel) (by decide +kernel), tyX4_ok, nmX4, rfl, rfl, fun _ => rfl⟩
theorem fX4_26 : ai_F RX4 26 4 2 (.object "FootBook$Search") true := ⟨RX4, TX4, 7, tyX4, rfl, by decide, inW4, ai_in 228 (by decide +kernel) (by decide +kernel), tyX4_ok, nmX4, rfl, rfl, fun _ => rfl⟩
theorem fX4_33 : ai_F RX4 33 4 3 (.object "FootBook$Giving") true := ⟨RX4, TX4, 7, tyX4, rfl, by decide, inW4, ai_in 229 (by decide +kernel) (by decide +kernel), tyX4_ok, nmX4, rfl, rfl, fun _ => rfl⟩
theorem fX4_37 : ai_F RX4 37 4 4 (.object "FootBook$Giving") true := ⟨RX4, TX4, 7, tyX4, rfl, by decide, inW4, ai_in 230 (by decide +kernel) (by decide +kernel), tyX4_ok, nmX4, rfl, rfl, fun _ => rfl⟩
theorem fX4_40 : ai_F RX4 40 4 5 .int false := ⟨RX4, TX4, 7, tyX4, rfl, by decide, inW4, ai_in 231 (by decide +kernel) (by decide +kernel), tyX4_ok, nmX4, rfl, rfl, fun _ => rfl⟩
theorem fX4_44 : ai_F RX4 44 4 6 .boolean false := ⟨RX4, TX4, 7, tyX4, rfl, by decide, inW4, ai_in 232 (by decide +kernel) (by decide +kernel), tyX4_ok, nmX4, rfl, rfl, fun _ => rfl⟩
theorem fS_X4_141 : Cond.fieldLink RX4 141 RX4 "SETS" "[I" ∈ ai_W := ai_in 465 (by decide +kernel) (by decide +kernel)
theorem fX5_7 : ai_F RX5 7 5 0 .int false := ⟨RX5, TX5, 27, tyX5, rfl, by decide, inW5, ai_in 539 (by decide +kernel) (by decide +kernel), tyX5_ok, nmX5, rfl, rfl, fun _ => rfl⟩
theorem fX5_13 : ai_F RX5 13 5 1 (.array .int) true := ⟨RX5, TX5, 27, tyX5, rfl, by decide, inW5, ai_in 540 (by decide +kernel) (by decide +kernel), tyX5_ok, nmX5, rfl, rfl, fun _ => rfl⟩
theorem fX5_68 : ai_F RX5 68 5 2 .int false := ⟨RX5, TX5, 27, tyX5, rfl, by decide, inW5, ai_in 541 (by decide +kernel) (by decide +kernel), tyX5_ok, nmX5, rfl, rfl, fun _ => rfl⟩
theorem fX5_17 : ai_F RX5 17 5 3 (.array .int) true := ⟨RX5, TX5, 27, tyX5, rfl, by decide, inW5, ai_in 542 (by decide +kernel) (by decide +kernel), tyX5_ok, nmX5, rfl, rfl, fun _ => rfl⟩
theorem fX5_71 : ai_F RX5 71 5 4 .int false := ⟨RX5, TX5, 27, tyX5, rfl, by decide, inW5, ai_in 543 (by decide +kernel) (by decide +kernel), tyX5_ok, nmX5, rfl, rfl, fun _ => rfl⟩
theorem fX5_20 : ai_F RX5 20 5 5 (.array .int) true := ⟨RX5, TX5, 27, tyX5, rfl, by decide, inW5, ai_in 544 (by decide +kernel) (by decide +kernel), tyX5_ok, nmX5, rfl, rfl, fun _ => rfl⟩
theorem fX5_23 : ai_F RX5 23 5 6 (.array .int) true := ⟨RX5, TX5, 27, tyX5, rfl, by decide, inW5, ai_in 545 (by decide +kernel) (by decide +kernel), tyX5_ok, nmX5, rfl, rfl, fun _ => rfl⟩
theorem fX5_26 : ai_F RX5 26 5 7 (.array .int) true := ⟨RX5, TX5, 27, tyX5, rfl, by decide, inW5, ai_in 546 (by decide +kernel) (by decide +kernel), tyX5_ok, nmX5, rfl, rfl, fun _ => rfl⟩
theorem fX5_74 : ai_F RX5 74 5 8 .int false := ⟨RX5, TX5, 27, tyX5, rfl, by decide, inW5, ai_in 547 (by decide +kernel) (by decide +kernel), tyX5_ok, nmX5, rfl, rfl, fun _ => rfl⟩
theorem fX5_29 : ai_F RX5 29 5 9 (.array .int) true := ⟨RX5, TX5, 27, tyX5, rfl, by decide, inW5, ai_in 548 (by decide +kernel) (by decide +kernel), tyX5_ok, nmX5, rfl, rfl, fun _ => rfl⟩
theorem fX5_32 : ai_F RX5 32 5 10 (.array .int) true := ⟨RX5, TX5, 27, tyX5, rfl, by decide, inW5, ai_in 549 (by decide +kernel) (by decide +kernel), tyX5_ok, nmX5, rfl, rfl, fun _ => rfl⟩
theorem fX5_35 : ai_F RX5 35 5 11 (.array .int) true := ⟨RX5, TX5, 27, tyX5, rfl, by decide, inW5, ai_in 550 (by decide +kernel) (by decide +kernel), tyX5_ok, nmX5, rfl, rfl, fun _ => rfl⟩
theorem fX5_38 : ai_F RX5 38 5 12 (.array .int) true := ⟨RX5, TX5, 27, tyX5, rfl, by decide, inW5, ai_in 551 (by decide +kernel) (by decide +kernel), tyX5_ok, nmX5, rfl, rfl, fun _ => rfl⟩
theorem fX5_41 : ai_F RX5 41 5 13 (.array .int) true := ⟨RX5, TX5, 27, tyX5, rfl, by decide, inW5, ai_in 552 (by decide +kernel) (by decide +kernel), tyX5_ok, nmX5, rfl, rfl, fun _ => rfl⟩
theorem fX5_80 : ai_F RX5 80 5 14 .boolean false := ⟨RX5, TX5, 27, tyX5, rfl, by decide, inW5, ai_in 553 (by decide +kernel) (by decide +kernel), tyX5_ok, nmX5, rfl, rfl, fun _ => rfl⟩
theorem fX5_44 : ai_F RX5 44 5 15 (.array .int) true := ⟨RX5, TX5, 27, tyX5, rfl, by decide, inW5, ai_in 554 (by decide +kernel) (by decide +kernel), tyX5_ok, nmX5, rfl, rfl, fun _ => rfl⟩
theorem fX5_47 : ai_F RX5 47 5 16 (.array .int) true := ⟨RX5, TX5, 27, tyX5, rfl, by decide, inW5, ai_in 555 (by decide +kernel) (by decide +kernel), tyX5_ok, nmX5, rfl, rfl, fun _ => rfl⟩
theorem fX5_102 : ai_F RX5 102 5 17 .int false := ⟨RX5, TX5, 27, tyX5, rfl, by decide, inW5, ai_in 556 (by decide +kernel) (by decide +kernel), tyX5_ok, nmX5, rfl, rfl, fun _ => rfl⟩
theorem fX5_50 : ai_F RX5 50 5 18 (.array .int) true := ⟨RX5, TX5, 27, tyX5, rfl, by decide, inW5, ai_in 557 (by decide +kernel) (by decide +kernel), tyX5_ok, nmX5, rfl, rfl, fun _ => rfl⟩
theorem fX5_53 : ai_F RX5 53 5 19 (.array .int) true := ⟨RX5, TX5, 27, tyX5, rfl, by decide, inW5, ai_in 558 (by decide +kernel) (by decide +kernel), tyX5_ok, nmX5, rfl, rfl, fun _ => rfl⟩
theorem fX5_56 : ai_F RX5 56 5 20 (.array .int) true := ⟨RX5, TX5, 27, tyX5, rfl, by decide, inW5, ai_in 559 (by decide +kernel) (by decide +kernel), tyX5_ok, nmX5, rfl, rfl, fun _ => rfl⟩
theorem fX5_105 : ai_F RX5 105 5 21 .boolean false := ⟨RX5, TX5, 27, tyX5, rfl, by decide, inW5, ai_in 560 (by decide +kernel) (by decide +kernel), tyX5_ok, nmX5, rfl, rfl, fun _ => rfl⟩
theorem fX5_108 : ai_F RX5 108 5 22 .boolean false := ⟨RX5, TX5, 27, tyX5, rfl, by decide, inW5, ai_in 561 (by decide +kernel) (by decide +kernel), tyX5_ok, nmX5, rfl, rfl, fun _ => rfl⟩
theorem fX5_111 : ai_F RX5 111 5 23 .int false := ⟨RX5, TX5, 27, tyX5, rfl, by decide, inW5, ai_in 562 (by decide +kernel) (by decide +kernel), tyX5_ok, nmX5, rfl, rfl, fun _ => rfl⟩
theorem fX5_114 : ai_F RX5 114 5 24 .int false := ⟨RX5, TX5, 27, tyX5, rfl, by decide, inW5, ai_in 563 (by decide +kernel) (by decide +kernel), tyX5_ok, nmX5, rfl, rfl, fun _ => rfl⟩
theorem fX5_59 : ai_F RX5 59 5 25 (.array .int) true := ⟨RX5, TX5, 27, tyX5, rfl, by decide, inW5, ai_in 564 (by decide +kernel) (by decide +kernel), tyX5_ok, nmX5, rfl, rfl, fun _ => rfl⟩
theorem fX5_62 : ai_F RX5 62 5 26 (.array .int) true := ⟨RX5, TX5, 27, tyX5, rfl, by decide, inW5, ai_in 565 (by decide +kernel) (by decide +kernel), tyX5_ok, nmX5, rfl, rfl, fun _ => rfl⟩
theorem okX4_init : ai_ok mX4_init 0 := ⟨ai_in 49 (by decide +kernel) (by decide +kernel), ai_in 36 (by decide +kernel) (by decide +kernel), by decide +kernel, by decide +kernel, by decide +kernel, by decide +kernel, by decide⟩
theorem okX1_init : ai_ok mX1_init 0 := ⟨ai_in 57 (by decide +kernel) (by decide +kernel), ai_in 37 (by decide +kernel) (by decide +kernel), by decide +kernel, by decide +kernel, by decide +kernel, by decide +kernel, by decide⟩
theorem okX1_renew : ai_ok mX1_renew 1 := ⟨ai_in 62 (by decide +kernel) (by decide +kernel), ai_in 37 (by decide +kernel) (by decide +kernel), by decide +kernel, by decide +kernel, by decide +kernel, by decide +kernel, by decide⟩
theorem okX0_init : ai_ok mX0_init 0 := ⟨ai_in 100 (by decide +kernel) (by decide +kernel), ai_in 38 (by decide +kernel) (by decide +kernel), by decide +kernel, by decide +kernel, by decide +kernel, by decide +kernel, by decide⟩
theorem okX3_init : ai_ok mX3_init 0 := ⟨ai_in 135 (by decide +kernel) (by decide +kernel), ai_in 39 (by decide +kernel) (by decide +kernel), by decide +kernel, by decide +kernel, by decide +kernel, by decide +kernel, by decide⟩
theorem okX2_init : ai_ok mX2_init 0 := ⟨ai_in 141 (by decide +kernel) (by decide +kernel), ai_in 40 (by decide +kernel) (by decide +kernel), by decide +kernel, by decide +kernel, by decide +kernel, by decide +kernel, by decide⟩
theorem okX2_clear : ai_ok mX2_clear 0 := ⟨ai_in 146 (by decide +kernel) (by decide +kernel), ai_in 40 (by decide +kernel) (by decide +kernel), by decide +kernel, by decide +kernel, by decide +kernel, by decide +kernel, by decide⟩
theorem okX4_feet : ai_ok mX4_feet 1 := ⟨ai_in 251 (by decide +kernel) (by decide +kernel), ai_in 36 (by decide +kernel) (by decide +kernel), by decide +kernel, by decide +kernel, by decide +kernel, by decide +kernel, by decide⟩
theorem okX4_volt : ai_ok mX4_volt 2 := ⟨ai_in 257 (by decide +kernel) (by decide +kernel), ai_in 36 (by decide +kernel) (by decide +kernel), by decide +kernel, by decide +kernel, by decide +kernel, by decide +kernel, by decide⟩
theorem okX1_hasFoot : ai_ok mX1_hasFoot 1 := ⟨ai_in 261 (by decide +kernel) (by decide +kernel), ai_in 37 (by decide +kernel) (by decide +kernel), by decide +kernel, by decide +kernel, by decide +kernel, by decide +kernel, by decide⟩
theorem okX4_unit : ai_ok mX4_unit 1 := ⟨ai_in 265 (by decide +kernel) (by decide +kernel), ai_in 36 (by decide +kernel) (by decide +kernel), by decide +kernel, by decide +kernel, by decide +kernel, by decide +kernel, by decide⟩
theorem okX4_isKind : ai_ok mX4_isKind 1 := ⟨ai_in 268 (by decide +kernel) (by decide +kernel), ai_in 36 (by decide +kernel) (by decide +kernel), by decide +kernel, by decide +kernel, by decide +kernel, by decide +kernel, by decide⟩
theorem okX1_addUnit : ai_ok mX1_addUnit 1 := ⟨ai_in 272 (by decide +kernel) (by decide +kernel), ai_in 37 (by decide +kernel) (by decide +kernel), by decide +kernel, by decide +kernel, by decide +kernel, by decide +kernel, by decide⟩
theorem okX4_kind : ai_ok mX4_kind 1 := ⟨ai_in 276 (by decide +kernel) (by decide +kernel), ai_in 36 (by decide +kernel) (by decide +kernel), by decide +kernel, by decide +kernel, by decide +kernel, by decide +kernel, by decide⟩
theorem okX1_hasUnit : ai_ok mX1_hasUnit 1 := ⟨ai_in 280 (by decide +kernel) (by decide +kernel), ai_in 37 (by decide +kernel) (by decide +kernel), by decide +kernel, by decide +kernel, by decide +kernel, by decide +kernel, by decide⟩
theorem okX4_use : ai_ok mX4_use 3 := ⟨ai_in 284 (by decide +kernel) (by decide +kernel), ai_in 36 (by decide +kernel) (by decide +kernel), by decide +kernel, by decide +kernel, by decide +kernel, by decide +kernel, by decide⟩
theorem okX4_isRole : ai_ok mX4_isRole 1 := ⟨ai_in 287 (by decide +kernel) (by decide +kernel), ai_in 36 (by decide +kernel) (by decide +kernel), by decide +kernel, by decide +kernel, by decide +kernel, by decide +kernel, by decide⟩
theorem okX1_isAble : ai_ok mX1_isAble 3 := ⟨ai_in 291 (by decide +kernel) (by decide +kernel), ai_in 37 (by decide +kernel) (by decide +kernel), by decide +kernel, by decide +kernel, by decide +kernel, by decide +kernel, by decide⟩
theorem okX1_addUse : ai_ok mX1_addUse 3 := ⟨ai_in 295 (by decide +kernel) (by decide +kernel), ai_in 37 (by decide +kernel) (by decide +kernel), by decide +kernel, by decide +kernel, by decide +kernel, by decide +kernel, by decide⟩
theorem okX4_about : ai_ok mX4_about 2 := ⟨ai_in 299 (by decide +kernel) (by decide +kernel), ai_in 36 (by decide +kernel) (by decide +kernel), by decide +kernel, by decide +kernel, by decide +kernel, by decide +kernel, by decide⟩
theorem okX4_wish : ai_ok mX4_wish 4 := ⟨ai_in 303 (by decide +kernel) (by decide +kernel), ai_in 36 (by decide +kernel) (by decide +kernel), by decide +kernel, by decide +kernel, by decide +kernel, by decide +kernel, by decide⟩
theorem okX4_refusalOfWish : ai_ok mX4_refusalOfWish 4 := ⟨ai_in 307 (by decide +kernel) (by decide +kernel), ai_in 36 (by decide +kernel) (by decide +kernel), by decide +kernel, by decide +kernel, by decide +kernel, by decide +kernel, by decide⟩
theorem okX0_add : ai_ok mX0_add 4 := ⟨ai_in 311 (by decide +kernel) (by decide +kernel), ai_in 38 (by decide +kernel) (by decide +kernel), by decide +kernel, by decide +kernel, by decide +kernel, by decide +kernel, by decide⟩
theorem okX4_wished : ai_ok mX4_wished 2 := ⟨ai_in 315 (by decide +kernel) (by decide +kernel), ai_in 36 (by decide +kernel) (by decide +kernel), by decide +kernel, by decide +kernel, by decide +kernel, by decide +kernel, by decide⟩
theorem okX0_hasWish : ai_ok mX0_hasWish 1 := ⟨ai_in 319 (by decide +kernel) (by decide +kernel), ai_in 38 (by decide +kernel) (by decide +kernel), by decide +kernel, by decide +kernel, by decide +kernel, by decide +kernel, by decide⟩
theorem okX4_fix : ai_ok mX4_fix 3 := ⟨ai_in 323 (by decide +kernel) (by decide +kernel), ai_in 36 (by decide +kernel) (by decide +kernel), by decide +kernel, by decide +kernel, by decide +kernel, by decide +kernel, by decide⟩
theorem okX0_wants : ai_ok mX0_wants 2 := ⟨ai_in 327 (by decide +kernel) (by decide +kernel), ai_in 38 (by decide +kernel) (by decide +kernel), by decide +kernel, by decide +kernel, by decide +kernel, by decide +kernel, by decide⟩
theorem okX4_drop : ai_ok mX4_drop 0 := ⟨ai_in 332 (by decide +kernel) (by decide +kernel), ai_in 36 (by decide +kernel) (by decide +kernel), by decide +kernel, by decide +kernel, by decide +kernel, by decide +kernel, by decide⟩
theorem okX4_best : ai_ok mX4_best 0 := ⟨ai_in 336 (by decide +kernel) (by decide +kernel), ai_in 36 (by decide +kernel) (by decide +kernel), by decide +kernel, by decide +kernel, by decide +kernel, by decide +kernel, by decide⟩
theorem okX4_learnCheapest : ai_ok mX4_learnCheapest 0 := ⟨ai_in 340 (by decide +kernel) (by decide +kernel), ai_in 36 (by decide +kernel) (by decide +kernel), by decide +kernel, by decide +kernel, by decide +kernel, by decide +kernel, by decide⟩
theorem okX3_aim : ai_ok mX3_aim 3 := ⟨ai_in 344 (by decide +kernel) (by decide +kernel), ai_in 39 (by decide +kernel) (by decide +kernel), by decide +kernel, by decide +kernel, by decide +kernel, by decide +kernel, by decide⟩
theorem okX3_aimAt : ai_ok mX3_aimAt 3 := ⟨ai_in 349 (by decide +kernel) (by decide +kernel), ai_in 39 (by decide +kernel) (by decide +kernel), by decide +kernel, by decide +kernel, by decide +kernel, by decide +kernel, by decide⟩
theorem okX1_steps : ai_ok mX1_steps 2 := ⟨ai_in 353 (by decide +kernel) (by decide +kernel), ai_in 37 (by decide +kernel) (by decide +kernel), by decide +kernel, by decide +kernel, by decide +kernel, by decide +kernel, by decide⟩
theorem okX0_openFeet : ai_ok mX0_openFeet 4 := ⟨ai_in 364 (by decide +kernel) (by decide +kernel), ai_in 38 (by decide +kernel) (by decide +kernel), by decide +kernel, by decide +kernel, by decide +kernel, by decide +kernel, by decide⟩
theorem okX1_feetOfVolt : ai_ok mX1_feetOfVolt 1 := ⟨ai_in 369 (by decide +kernel) (by decide +kernel), ai_in 37 (by decide +kernel) (by decide +kernel), by decide +kernel, by decide +kernel, by decide +kernel, by decide +kernel, by decide⟩
theorem okX0_countOfKind : ai_ok mX0_countOfKind 2 := ⟨ai_in 373 (by decide +kernel) (by decide +kernel), ai_in 38 (by decide +kernel) (by decide +kernel), by decide +kernel, by decide +kernel, by decide +kernel, by decide +kernel, by decide⟩
theorem okX1_countOfKind : ai_ok mX1_countOfKind 1 := ⟨ai_in 377 (by decide +kernel) (by decide +kernel), ai_in 37 (by decide +kernel) (by decide +kernel), by decide +kernel, by decide +kernel, by decide +kernel, by decide +kernel, by decide⟩
theorem okX3_findLeast : ai_ok mX3_findLeast 0 := ⟨ai_in 381 (by decide +kernel) (by decide +kernel), ai_in 39 (by decide +kernel) (by decide +kernel), by decide +kernel, by decide +kernel, by decide +kernel, by decide +kernel, by decide⟩
theorem okX3_begin : ai_ok mX3_begin 1 := ⟨ai_in 385 (by decide +kernel) (by decide +kernel), ai_in 39 (by decide +kernel) (by decide +kernel), by decide +kernel, by decide +kernel, by decide +kernel, by decide +kernel, by decide⟩
theorem okX3_setBounds : ai_ok mX3_setBounds 0 := ⟨ai_in 390 (by decide +kernel) (by decide +kernel), ai_in 39 (by decide +kernel) (by decide +kernel), by decide +kernel, by decide +kernel, by decide +kernel, by decide +kernel, by decide⟩
theorem okX3_lightestFoot : ai_ok mX3_lightestFoot 3 := ⟨ai_in 394 (by decide +kernel) (by decide +kernel), ai_in 39 (by decide +kernel) (by decide +kernel), by decide +kernel, by decide +kernel, by decide +kernel, by decide +kernel, by decide⟩
theorem okX3_weigh : ai_ok mX3_weigh 4 := ⟨ai_in 398 (by decide +kernel) (by decide +kernel), ai_in 39 (by decide +kernel) (by decide +kernel), by decide +kernel, by decide +kernel, by decide +kernel, by decide +kernel, by decide⟩
theorem okX3_giveUnit : ai_ok mX3_giveUnit 2 := ⟨ai_in 403 (by decide +kernel) (by decide +kernel), ai_in 39 (by decide +kernel) (by decide +kernel), by decide +kernel, by decide +kernel, by decide +kernel, by decide +kernel, by decide⟩
theorem okX3_reach : ai_ok mX3_reach 1 := ⟨ai_in 407 (by decide +kernel) (by decide +kernel), ai_in 39 (by decide +kernel) (by decide +kernel), by decide +kernel, by decide +kernel, by decide +kernel, by decide +kernel, by decide⟩
theorem okX2_copy : ai_ok mX2_copy 1 := ⟨ai_in 411 (by decide +kernel) (by decide +kernel), ai_in 40 (by decide +kernel) (by decide +kernel), by decide +kernel, by decide +kernel, by decide +kernel, by decide +kernel, by decide⟩
theorem okX3_isOver : ai_ok mX3_isOver 0 := ⟨ai_in 418 (by decide +kernel) (by decide +kernel), ai_in 39 (by decide +kernel) (by decide +kernel), by decide +kernel, by decide +kernel, by decide +kernel, by decide +kernel, by decide⟩
theorem okX3_giveFoot : ai_ok mX3_giveFoot 3 := ⟨ai_in 422 (by decide +kernel) (by decide +kernel), ai_in 39 (by decide +kernel) (by decide +kernel), by decide +kernel, by decide +kernel, by decide +kernel, by decide +kernel, by decide⟩
theorem okX3_wishedFrom : ai_ok mX3_wishedFrom 2 := ⟨ai_in 426 (by decide +kernel) (by decide +kernel), ai_in 39 (by decide +kernel) (by decide +kernel), by decide +kernel, by decide +kernel, by decide +kernel, by decide +kernel, by decide⟩
theorem okJ6_bitCount_0f7a4 : ai_ok mJ6_bitCount_0f7a4 1 := ⟨ai_in 429 (by decide +kernel) (by decide +kernel), ai_in 44 (by decide +kernel) (by decide +kernel), by decide +kernel, by decide +kernel, by decide +kernel, by decide +kernel, by decide⟩
theorem okX4_given : ai_ok mX4_given 2 := ⟨ai_in 437 (by decide +kernel) (by decide +kernel), ai_in 36 (by decide +kernel) (by decide +kernel), by decide +kernel, by decide +kernel, by decide +kernel, by decide +kernel, by decide⟩
theorem okX2_unitOf : ai_ok mX2_unitOf 1 := ⟨ai_in 441 (by decide +kernel) (by decide +kernel), ai_in 40 (by decide +kernel) (by decide +kernel), by decide +kernel, by decide +kernel, by decide +kernel, by decide +kernel, by decide⟩
theorem okX2_footOf : ai_ok mX2_footOf 2 := ⟨ai_in 445 (by decide +kernel) (by decide +kernel), ai_in 40 (by decide +kernel) (by decide +kernel), by decide +kernel, by decide +kernel, by decide +kernel, by decide +kernel, by decide⟩
theorem okX4_crossings : ai_ok mX4_crossings 0 := ⟨ai_in 449 (by decide +kernel) (by decide +kernel), ai_in 36 (by decide +kernel) (by decide +kernel), by decide +kernel, by decide +kernel, by decide +kernel, by decide +kernel, by decide⟩
theorem okX4_countCrossings : ai_ok mX4_countCrossings 1 := ⟨ai_in 453 (by decide +kernel) (by decide +kernel), ai_in 36 (by decide +kernel) (by decide +kernel), by decide +kernel, by decide +kernel, by decide +kernel, by decide +kernel, by decide⟩
theorem okX4_cross : ai_ok mX4_cross 4 := ⟨ai_in 456 (by decide +kernel) (by decide +kernel), ai_in 36 (by decide +kernel) (by decide +kernel), by decide +kernel, by decide +kernel, by decide +kernel, by decide +kernel, by decide⟩
theorem okX4_blame : ai_ok mX4_blame 0 := ⟨ai_in 464 (by decide +kernel) (by decide +kernel), ai_in 36 (by decide +kernel) (by decide +kernel), by decide +kernel, by decide +kernel, by decide +kernel, by decide +kernel, by decide⟩
theorem okX4_isPossible : ai_ok mX4_isPossible 1 := ⟨ai_in 470 (by decide +kernel) (by decide +kernel), ai_in 36 (by decide +kernel) (by decide +kernel), by decide +kernel, by decide +kernel, by decide +kernel, by decide +kernel, by decide⟩
theorem okX3_countUpTo : ai_ok mX3_countUpTo 1 := ⟨ai_in 474 (by decide +kernel) (by decide +kernel), ai_in 39 (by decide +kernel) (by decide +kernel), by decide +kernel, by decide +kernel, by decide +kernel, by decide +kernel, by decide⟩
theorem okX4_many : ai_ok mX4_many 0 := ⟨ai_in 478 (by decide +kernel) (by decide +kernel), ai_in 36 (by decide +kernel) (by decide +kernel), by decide +kernel, by decide +kernel, by decide +kernel, by decide +kernel, by decide⟩
theorem okX4_trial : ai_ok mX4_trial 4 := ⟨ai_in 483 (by decide +kernel) (by decide +kernel), ai_in 36 (by decide +kernel) (by decide +kernel), by decide +kernel, by decide +kernel, by decide +kernel, by decide +kernel, by decide⟩
theorem okX4_hold : ai_ok mX4_hold 0 := ⟨ai_in 487 (by decide +kernel) (by decide +kernel), ai_in 36 (by decide +kernel) (by decide +kernel), by decide +kernel, by decide +kernel, by decide +kernel, by decide +kernel, by decide⟩
theorem okX4_change : ai_ok mX4_change 0 := ⟨ai_in 491 (by decide +kernel) (by decide +kernel), ai_in 36 (by decide +kernel) (by decide +kernel), by decide +kernel, by decide +kernel, by decide +kernel, by decide +kernel, by decide⟩
theorem okX3_compareWith : ai_ok mX3_compareWith 1 := ⟨ai_in 495 (by decide +kernel) (by decide +kernel), ai_in 39 (by decide +kernel) (by decide +kernel), by decide +kernel, by decide +kernel, by decide +kernel, by decide +kernel, by decide⟩
theorem okX4_held : ai_ok mX4_held 2 := ⟨ai_in 499 (by decide +kernel) (by decide +kernel), ai_in 36 (by decide +kernel) (by decide +kernel), by decide +kernel, by decide +kernel, by decide +kernel, by decide +kernel, by decide⟩
theorem okX4_setting : ai_ok mX4_setting 1 := ⟨ai_in 503 (by decide +kernel) (by decide +kernel), ai_in 36 (by decide +kernel) (by decide +kernel), by decide +kernel, by decide +kernel, by decide +kernel, by decide +kernel, by decide⟩
theorem okX2_slotOn : ai_ok mX2_slotOn 1 := ⟨ai_in 507 (by decide +kernel) (by decide +kernel), ai_in 40 (by decide +kernel) (by decide +kernel), by decide +kernel, by decide +kernel, by decide +kernel, by decide +kernel, by decide⟩
theorem okX4_stands : ai_ok mX4_stands 0 := ⟨ai_in 511 (by decide +kernel) (by decide +kernel), ai_in 36 (by decide +kernel) (by decide +kernel), by decide +kernel, by decide +kernel, by decide +kernel, by decide +kernel, by decide⟩
theorem okX4_isGivingNow : ai_ok mX4_isGivingNow 1 := ⟨ai_in 515 (by decide +kernel) (by decide +kernel), ai_in 36 (by decide +kernel) (by decide +kernel), by decide +kernel, by decide +kernel, by decide +kernel, by decide +kernel, by decide⟩
theorem okX4_fits : ai_ok mX4_fits 3 := ⟨ai_in 519 (by decide +kernel) (by decide +kernel), ai_in 36 (by decide +kernel) (by decide +kernel), by decide +kernel, by decide +kernel, by decide +kernel, by decide +kernel, by decide⟩
theorem okX4_told : ai_ok mX4_told 1 := ⟨ai_in 524 (by decide +kernel) (by decide +kernel), ai_in 36 (by decide +kernel) (by decide +kernel), by decide +kernel, by decide +kernel, by decide +kernel, by decide +kernel, by decide⟩
theorem okX5_init : ai_ok mX5_init 0 := ⟨ai_in 529 (by decide +kernel) (by decide +kernel), ai_in 41 (by decide +kernel) (by decide +kernel), by decide +kernel, by decide +kernel, by decide +kernel, by decide +kernel, by decide⟩
theorem okX5_begin : ai_ok mX5_begin 0 := ⟨ai_in 534 (by decide +kernel) (by decide +kernel), ai_in 41 (by decide +kernel) (by decide +kernel), by decide +kernel, by decide +kernel, by decide +kernel, by decide +kernel, by decide⟩
theorem okX5_empty : ai_ok mX5_empty 0 := ⟨ai_in 538 (by decide +kernel) (by decide +kernel), ai_in 41 (by decide +kernel) (by decide +kernel), by decide +kernel, by decide +kernel, by decide +kernel, by decide +kernel, by decide⟩
theorem okX5_feet : ai_ok mX5_feet 1 := ⟨ai_in 624 (by decide +kernel) (by decide +kernel), ai_in 41 (by decide +kernel) (by decide +kernel), by decide +kernel, by decide +kernel, by decide +kernel, by decide +kernel, by decide⟩
theorem okX5_in : ai_ok mX5_in 3 := ⟨ai_in 627 (by decide +kernel) (by decide +kernel), ai_in 41 (by decide +kernel) (by decide +kernel), by decide +kernel, by decide +kernel, by decide +kernel, by decide +kernel, by decide⟩
theorem okX5_volt : ai_ok mX5_volt 2 := ⟨ai_in 631 (by decide +kernel) (by decide +kernel), ai_in 41 (by decide +kernel) (by decide +kernel), by decide +kernel, by decide +kernel, by decide +kernel, by decide +kernel, by decide⟩
theorem okX5_isFoot : ai_ok mX5_isFoot 1 := ⟨ai_in 635 (by decide +kernel) (by decide +kernel), ai_in 41 (by decide +kernel) (by decide +kernel), by decide +kernel, by decide +kernel, by decide +kernel, by decide +kernel, by decide⟩
theorem okX5_unit : ai_ok mX5_unit 1 := ⟨ai_in 639 (by decide +kernel) (by decide +kernel), ai_in 41 (by decide +kernel) (by decide +kernel), by decide +kernel, by decide +kernel, by decide +kernel, by decide +kernel, by decide⟩
theorem okX5_kind : ai_ok mX5_kind 1 := ⟨ai_in 643 (by decide +kernel) (by decide +kernel), ai_in 41 (by decide +kernel) (by decide +kernel), by decide +kernel, by decide +kernel, by decide +kernel, by decide +kernel, by decide⟩
theorem okX5_use : ai_ok mX5_use 3 := ⟨ai_in 647 (by decide +kernel) (by decide +kernel), ai_in 41 (by decide +kernel) (by decide +kernel), by decide +kernel, by decide +kernel, by decide +kernel, by decide +kernel, by decide⟩
theorem okX5_can : ai_ok mX5_can 3 := ⟨ai_in 651 (by decide +kernel) (by decide +kernel), ai_in 41 (by decide +kernel) (by decide +kernel), by decide +kernel, by decide +kernel, by decide +kernel, by decide +kernel, by decide⟩
theorem okX5_about : ai_ok mX5_about 2 := ⟨ai_in 655 (by decide +kernel) (by decide +kernel), ai_in 41 (by decide +kernel) (by decide +kernel), by decide +kernel, by decide +kernel, by decide +kernel, by decide +kernel, by decide⟩
theorem okX5_wish : ai_ok mX5_wish 4 := ⟨ai_in 659 (by decide +kernel) (by decide +kernel), ai_in 41 (by decide +kernel) (by decide +kernel), by decide +kernel, by decide +kernel, by decide +kernel, by decide +kernel, by decide⟩
theorem okX5_wished : ai_ok mX5_wished 2 := ⟨ai_in 663 (by decide +kernel) (by decide +kernel), ai_in 41 (by decide +kernel) (by decide +kernel), by decide +kernel, by decide +kernel, by decide +kernel, by decide +kernel, by decide⟩
theorem okX5_isWish : ai_ok mX5_isWish 1 := ⟨ai_in 667 (by decide +kernel) (by decide +kernel), ai_in 41 (by decide +kernel) (by decide +kernel), by decide +kernel, by decide +kernel, by decide +kernel, by decide +kernel, by decide⟩
theorem okX5_fix : ai_ok mX5_fix 3 := ⟨ai_in 671 (by decide +kernel) (by decide +kernel), ai_in 41 (by decide +kernel) (by decide +kernel), by decide +kernel, by decide +kernel, by decide +kernel, by decide +kernel, by decide⟩
theorem okX5_hasRole : ai_ok mX5_hasRole 2 := ⟨ai_in 675 (by decide +kernel) (by decide +kernel), ai_in 41 (by decide +kernel) (by decide +kernel), by decide +kernel, by decide +kernel, by decide +kernel, by decide +kernel, by decide⟩
theorem okX5_drop : ai_ok mX5_drop 0 := ⟨ai_in 679 (by decide +kernel) (by decide +kernel), ai_in 41 (by decide +kernel) (by decide +kernel), by decide +kernel, by decide +kernel, by decide +kernel, by decide +kernel, by decide⟩
theorem okX5_best : ai_ok mX5_best 0 := ⟨ai_in 683 (by decide +kernel) (by decide +kernel), ai_in 41 (by decide +kernel) (by decide +kernel), by decide +kernel, by decide +kernel, by decide +kernel, by decide +kernel, by decide⟩
theorem okX5_find : ai_ok mX5_find 1 := ⟨ai_in 687 (by decide +kernel) (by decide +kernel), ai_in 41 (by decide +kernel) (by decide +kernel), by decide +kernel, by decide +kernel, by decide +kernel, by decide +kernel, by decide⟩
theorem okX5_all : ai_ok mX5_all 0 := ⟨ai_in 691 (by decide +kernel) (by decide +kernel), ai_in 41 (by decide +kernel) (by decide +kernel), by decide +kernel, by decide +kernel, by decide +kernel, by decide +kernel, by decide⟩
theorem okX5_start : ai_ok mX5_start 2 := ⟨ai_in 695 (by decide +kernel) (by decide +kernel), ai_in 41 (by decide +kernel) (by decide +kernel), by decide +kernel, by decide +kernel, by decide +kernel, by decide +kernel, by decide⟩
theorem okX5_next : ai_ok mX5_next 0 := ⟨ai_in 699 (by decide +kernel) (by decide +kernel), ai_in 41 (by decide +kernel) (by decide +kernel), by decide +kernel, by decide +kernel, by decide +kernel, by decide +kernel, by decide⟩
theorem okX5_fits : ai_ok mX5_fits 2 := ⟨ai_in 703 (by decide +kernel) (by decide +kernel), ai_in 41 (by decide +kernel) (by decide +kernel), by decide +kernel, by decide +kernel, by decide +kernel, by decide +kernel, by decide⟩
theorem okX5_unitPlace : ai_ok mX5_unitPlace 1 := ⟨ai_in 707 (by decide +kernel) (by decide +kernel), ai_in 41 (by decide +kernel) (by decide +kernel), by decide +kernel, by decide +kernel, by decide +kernel, by decide +kernel, by decide⟩
theorem okX5_isBetter : ai_ok mX5_isBetter 1 := ⟨ai_in 711 (by decide +kernel) (by decide +kernel), ai_in 41 (by decide +kernel) (by decide +kernel), by decide +kernel, by decide +kernel, by decide +kernel, by decide +kernel, by decide⟩
theorem okX5_movesTo : ai_ok mX5_movesTo 1 := ⟨ai_in 715 (by decide +kernel) (by decide +kernel), ai_in 41 (by decide +kernel) (by decide +kernel), by decide +kernel, by decide +kernel, by decide +kernel, by decide +kernel, by decide⟩
theorem okX5_costTo : ai_ok mX5_costTo 1 := ⟨ai_in 719 (by decide +kernel) (by decide +kernel), ai_in 41 (by decide +kernel) (by decide +kernel), by decide +kernel, by decide +kernel, by decide +kernel, by decide +kernel, by decide⟩
theorem okX5_steps : ai_ok mX5_steps 2 := ⟨ai_in 723 (by decide +kernel) (by decide +kernel), ai_in 41 (by decide +kernel) (by decide +kernel), by decide +kernel, by decide +kernel, by decide +kernel, by decide +kernel, by decide⟩
theorem okX5_keepBest : ai_ok mX5_keepBest 0 := ⟨ai_in 727 (by decide +kernel) (by decide +kernel), ai_in 41 (by decide +kernel) (by decide +kernel), by decide +kernel, by decide +kernel, by decide +kernel, by decide +kernel, by decide⟩
theorem okX5_keepBound : ai_ok mX5_keepBound 0 := ⟨ai_in 731 (by decide +kernel) (by decide +kernel), ai_in 41 (by decide +kernel) (by decide +kernel), by decide +kernel, by decide +kernel, by decide +kernel, by decide +kernel, by decide⟩
theorem okX5_given : ai_ok mX5_given 2 := ⟨ai_in 735 (by decide +kernel) (by decide +kernel), ai_in 41 (by decide +kernel) (by decide +kernel), by decide +kernel, by decide +kernel, by decide +kernel, by decide +kernel, by decide⟩
theorem okX5_crossings : ai_ok mX5_crossings 0 := ⟨ai_in 739 (by decide +kernel) (by decide +kernel), ai_in 41 (by decide +kernel) (by decide +kernel), by decide +kernel, by decide +kernel, by decide +kernel, by decide +kernel, by decide⟩
theorem okX5_isBetween : ai_ok mX5_isBetween 3 := ⟨ai_in 742 (by decide +kernel) (by decide +kernel), ai_in 41 (by decide +kernel) (by decide +kernel), by decide +kernel, by decide +kernel, by decide +kernel, by decide +kernel, by decide⟩
theorem okX5_blame : ai_ok mX5_blame 0 := ⟨ai_in 746 (by decide +kernel) (by decide +kernel), ai_in 41 (by decide +kernel) (by decide +kernel), by decide +kernel, by decide +kernel, by decide +kernel, by decide +kernel, by decide⟩
theorem okX5_bits : ai_ok mX5_bits 1 := ⟨ai_in 749 (by decide +kernel) (by decide +kernel), ai_in 41 (by decide +kernel) (by decide +kernel), by decide +kernel, by decide +kernel, by decide +kernel, by decide +kernel, by decide⟩
theorem okX5_many : ai_ok mX5_many 0 := ⟨ai_in 753 (by decide +kernel) (by decide +kernel), ai_in 41 (by decide +kernel) (by decide +kernel), by decide +kernel, by decide +kernel, by decide +kernel, by decide +kernel, by decide⟩
theorem okX5_trial : ai_ok mX5_trial 4 := ⟨ai_in 758 (by decide +kernel) (by decide +kernel), ai_in 41 (by decide +kernel) (by decide +kernel), by decide +kernel, by decide +kernel, by decide +kernel, by decide +kernel, by decide⟩
theorem okX5_hold : ai_ok mX5_hold 0 := ⟨ai_in 764 (by decide +kernel) (by decide +kernel), ai_in 41 (by decide +kernel) (by decide +kernel), by decide +kernel, by decide +kernel, by decide +kernel, by decide +kernel, by decide⟩
theorem okX5_take : ai_ok mX5_take 0 := ⟨ai_in 768 (by decide +kernel) (by decide +kernel), ai_in 41 (by decide +kernel) (by decide +kernel), by decide +kernel, by decide +kernel, by decide +kernel, by decide +kernel, by decide⟩
theorem okX5_change : ai_ok mX5_change 0 := ⟨ai_in 772 (by decide +kernel) (by decide +kernel), ai_in 41 (by decide +kernel) (by decide +kernel), by decide +kernel, by decide +kernel, by decide +kernel, by decide +kernel, by decide⟩
theorem okX5_held : ai_ok mX5_held 2 := ⟨ai_in 776 (by decide +kernel) (by decide +kernel), ai_in 41 (by decide +kernel) (by decide +kernel), by decide +kernel, by decide +kernel, by decide +kernel, by decide +kernel, by decide⟩
theorem okX5_setting : ai_ok mX5_setting 1 := ⟨ai_in 780 (by decide +kernel) (by decide +kernel), ai_in 41 (by decide +kernel) (by decide +kernel), by decide +kernel, by decide +kernel, by decide +kernel, by decide +kernel, by decide⟩
theorem okX5_stands : ai_ok mX5_stands 0 := ⟨ai_in 784 (by decide +kernel) (by decide +kernel), ai_in 41 (by decide +kernel) (by decide +kernel), by decide +kernel, by decide +kernel, by decide +kernel, by decide +kernel, by decide⟩
theorem okX5_told : ai_ok mX5_told 1 := ⟨ai_in 788 (by decide +kernel) (by decide +kernel), ai_in 41 (by decide +kernel) (by decide +kernel), by decide +kernel, by decide +kernel, by decide +kernel, by decide +kernel, by decide⟩
theorem ilL_9 : Cond.methodLink RL 9 yX4_init ∈ ai_W := ai_in 47 (by decide +kernel) (by decide +kernel)
theorem oX4_1 : ai_Ob RX4 1 := ⟨ai_in 50 (by decide +kernel) (by decide +kernel), ai_in 51 (by decide +kernel) (by decide +kernel), ai_in 52 (by decide +kernel) (by decide +kernel)⟩
theorem ilX4_9 : Cond.methodLink RX4 9 yX1_init ∈ ai_W := ai_in 55 (by decide +kernel) (by decide +kernel)
theorem oX1_3 : ai_Ob RX1 3 := ⟨ai_in 58 (by decide +kernel) (by decide +kernel), ai_in 51 (by decide +kernel) (by decide +kernel), ai_in 52 (by decide +kernel) (by decide +kernel)⟩
theorem vX1_24 : ai_Vi RX1 24 mX1_renew := ⟨ai_in 59 (by decide +kernel) (by decide +kernel), ai_in 60 (by decide +kernel) (by decide +kernel), ai_in 61 (by decide +kernel) (by decide +kernel)⟩
theorem oX0_3 : ai_Ob RX0 3 := ⟨ai_in 101 (by decide +kernel) (by decide +kernel), ai_in 51 (by decide +kernel) (by decide +kernel), ai_in 52 (by decide +kernel) (by decide +kernel)⟩
theorem oX3_3 : ai_Ob RX3 3 := ⟨ai_in 136 (by decide +kernel) (by decide +kernel), ai_in 51 (by decide +kernel) (by decide +kernel), ai_in 52 (by decide +kernel) (by decide +kernel)⟩
theorem ilX3_11 : Cond.methodLink RX3 11 yX2_init ∈ ai_W := ai_in 139 (by decide +kernel) (by decide +kernel)
theorem oX2_3 : ai_Ob RX2 3 := ⟨ai_in 142 (by decide +kernel) (by decide +kernel), ai_in 51 (by decide +kernel) (by decide +kernel), ai_in 52 (by decide +kernel) (by decide +kernel)⟩
theorem vX2_18 : ai_Vi RX2 18 mX2_clear := ⟨ai_in 143 (by decide +kernel) (by decide +kernel), ai_in 144 (by decide +kernel) (by decide +kernel), ai_in 145 (by decide +kernel) (by decide +kernel)⟩
theorem ilX4_32 : Cond.methodLink RX4 32 yX2_init ∈ ai_W := ai_in 225 (by decide +kernel) (by decide +kernel)
theorem vL_13 : ai_Vi RL 13 mX4_feet := ⟨ai_in 248 (by decide +kernel) (by decide +kernel), ai_in 249 (by decide +kernel) (by decide +kernel), ai_in 250 (by decide +kernel) (by decide +kernel)⟩
theorem vX4_51 : ai_Vi RX4 51 mX1_renew := ⟨ai_in 252 (by decide +kernel) (by decide +kernel), ai_in 60 (by decide +kernel) (by decide +kernel), ai_in 61 (by decide +kernel) (by decide +kernel)⟩
theorem vX4_58 : ai_Vi RX4 58 mX2_clear := ⟨ai_in 253 (by decide +kernel) (by decide +kernel), ai_in 144 (by decide +kernel) (by decide +kernel), ai_in 145 (by decide +kernel) (by decide +kernel)⟩
theorem vL_18 : ai_Vi RL 18 mX4_volt := ⟨ai_in 254 (by decide +kernel) (by decide +kernel), ai_in 255 (by decide +kernel) (by decide +kernel), ai_in 256 (by decide +kernel) (by decide +kernel)⟩
theorem vX4_61 : ai_Vi RX4 61 mX1_hasFoot := ⟨ai_in 258 (by decide +kernel) (by decide +kernel), ai_in 259 (by decide +kernel) (by decide +kernel), ai_in 260 (by decide +kernel) (by decide +kernel)⟩
theorem vL_23 : ai_Vi RL 23 mX4_unit := ⟨ai_in 262 (by decide +kernel) (by decide +kernel), ai_in 263 (by decide +kernel) (by decide +kernel), ai_in 264 (by decide +kernel) (by decide +kernel)⟩
theorem sX4_69 : ai_Si RX4 69 mX4_isKind := ⟨ai_in 266 (by decide +kernel) (by decide +kernel), ai_in 267 (by decide +kernel) (by decide +kernel)⟩
theorem vX4_75 : ai_Vi RX4 75 mX1_addUnit := ⟨ai_in 269 (by decide +kernel) (by decide +kernel), ai_in 270 (by decide +kernel) (by decide +kernel), ai_in 271 (by decide +kernel) (by decide +kernel)⟩
theorem vL_27 : ai_Vi RL 27 mX4_kind := ⟨ai_in 273 (by decide +kernel) (by decide +kernel), ai_in 274 (by decide +kernel) (by decide +kernel), ai_in 275 (by decide +kernel) (by decide +kernel)⟩
theorem vX4_79 : ai_Vi RX4 79 mX1_hasUnit := ⟨ai_in 277 (by decide +kernel) (by decide +kernel), ai_in 278 (by decide +kernel) (by decide +kernel), ai_in 279 (by decide +kernel) (by decide +kernel)⟩
theorem vL_31 : ai_Vi RL 31 mX4_use := ⟨ai_in 281 (by decide +kernel) (by decide +kernel), ai_in 282 (by decide +kernel) (by decide +kernel), ai_in 283 (by decide +kernel) (by decide +kernel)⟩
theorem sX4_85 : ai_Si RX4 85 mX4_isRole := ⟨ai_in 285 (by decide +kernel) (by decide +kernel), ai_in 286 (by decide +kernel) (by decide +kernel)⟩
theorem vX4_91 : ai_Vi RX4 91 mX1_isAble := ⟨ai_in 288 (by decide +kernel) (by decide +kernel), ai_in 289 (by decide +kernel) (by decide +kernel), ai_in 290 (by decide +kernel) (by decide +kernel)⟩
theorem vX4_95 : ai_Vi RX4 95 mX1_addUse := ⟨ai_in 292 (by decide +kernel) (by decide +kernel), ai_in 293 (by decide +kernel) (by decide +kernel), ai_in 294 (by decide +kernel) (by decide +kernel)⟩
theorem vL_36 : ai_Vi RL 36 mX4_about := ⟨ai_in 296 (by decide +kernel) (by decide +kernel), ai_in 297 (by decide +kernel) (by decide +kernel), ai_in 298 (by decide +kernel) (by decide +kernel)⟩
theorem vL_40 : ai_Vi RL 40 mX4_wish := ⟨ai_in 300 (by decide +kernel) (by decide +kernel), ai_in 301 (by decide +kernel) (by decide +kernel), ai_in 302 (by decide +kernel) (by decide +kernel)⟩
theorem vX4_102 : ai_Vi RX4 102 mX4_refusalOfWish := ⟨ai_in 304 (by decide +kernel) (by decide +kernel), ai_in 306 (by decide +kernel) (by decide +kernel), ai_in 0 (by decide +kernel) (by decide +kernel)⟩
theorem vX4_106 : ai_Vi RX4 106 mX0_add := ⟨ai_in 308 (by decide +kernel) (by decide +kernel), ai_in 309 (by decide +kernel) (by decide +kernel), ai_in 310 (by decide +kernel) (by decide +kernel)⟩
theorem vL_45 : ai_Vi RL 45 mX4_wished := ⟨ai_in 312 (by decide +kernel) (by decide +kernel), ai_in 313 (by decide +kernel) (by decide +kernel), ai_in 314 (by decide +kernel) (by decide +kernel)⟩
theorem vX4_109 : ai_Vi RX4 109 mX0_hasWish := ⟨ai_in 316 (by decide +kernel) (by decide +kernel), ai_in 317 (by decide +kernel) (by decide +kernel), ai_in 318 (by decide +kernel) (by decide +kernel)⟩
theorem vL_49 : ai_Vi RL 49 mX4_fix := ⟨ai_in 320 (by decide +kernel) (by decide +kernel), ai_in 321 (by decide +kernel) (by decide +kernel), ai_in 322 (by decide +kernel) (by decide +kernel)⟩
theorem vX4_123 : ai_Vi RX4 123 mX0_wants := ⟨ai_in 324 (by decide +kernel) (by decide +kernel), ai_in 325 (by decide +kernel) (by decide +kernel), ai_in 326 (by decide +kernel) (by decide +kernel)⟩
theorem vL_53 : ai_Vi RL 53 mX4_drop := ⟨ai_in 329 (by decide +kernel) (by decide +kernel), ai_in 330 (by decide +kernel) (by decide +kernel), ai_in 331 (by decide +kernel) (by decide +kernel)⟩
theorem vL_58 : ai_Vi RL 58 mX4_best := ⟨ai_in 333 (by decide +kernel) (by decide +kernel), ai_in 334 (by decide +kernel) (by decide +kernel), ai_in 335 (by decide +kernel) (by decide +kernel)⟩
theorem vX4_127 : ai_Vi RX4 127 mX4_learnCheapest := ⟨ai_in 337 (by decide +kernel) (by decide +kernel), ai_in 339 (by decide +kernel) (by decide +kernel), ai_in 1 (by decide +kernel) (by decide +kernel)⟩
theorem vX4_147 : ai_Vi RX4 147 mX3_aim := ⟨ai_in 341 (by decide +kernel) (by decide +kernel), ai_in 342 (by decide +kernel) (by decide +kernel), ai_in 343 (by decide +kernel) (by decide +kernel)⟩
theorem vX3_64 : ai_Vi RX3 64 mX2_clear := ⟨ai_in 345 (by decide +kernel) (by decide +kernel), ai_in 144 (by decide +kernel) (by decide +kernel), ai_in 145 (by decide +kernel) (by decide +kernel)⟩
theorem vX3_68 : ai_Vi RX3 68 mX3_aimAt := ⟨ai_in 346 (by decide +kernel) (by decide +kernel), ai_in 348 (by decide +kernel) (by decide +kernel), ai_in 2 (by decide +kernel) (by decide +kernel)⟩
theorem vX3_85 : ai_Vi RX3 85 mX1_steps := ⟨ai_in 350 (by decide +kernel) (by decide +kernel), ai_in 351 (by decide +kernel) (by decide +kernel), ai_in 352 (by decide +kernel) (by decide +kernel)⟩
theorem maX1_38 : ai_Ma RX1 38 Lib.Math.abs.name Lib.Math.abs.code 1 := ⟨ai_in 354 (by decide +kernel) (by decide +kernel), ai_in 355 (by decide +kernel) (by decide +kernel), ai_in 42 (by decide +kernel) (by decide +kernel), ai_in 356 (by decide +kernel) (by decide +kernel)⟩
theorem maX1_44 : ai_Ma RX1 44 Lib.Math.min.name Lib.Math.min.code 2 := ⟨ai_in 357 (by decide +kernel) (by decide +kernel), ai_in 358 (by decide +kernel) (by decide +kernel), ai_in 42 (by decide +kernel) (by decide +kernel), ai_in 359 (by decide +kernel) (by decide +kernel)⟩
theorem vX3_87 : ai_Vi RX3 87 mX0_wants := ⟨ai_in 360 (by decide +kernel) (by decide +kernel), ai_in 325 (by decide +kernel) (by decide +kernel), ai_in 326 (by decide +kernel) (by decide +kernel)⟩
theorem vX3_91 : ai_Vi RX3 91 mX0_openFeet := ⟨ai_in 361 (by decide +kernel) (by decide +kernel), ai_in 362 (by decide +kernel) (by decide +kernel), ai_in 363 (by decide +kernel) (by decide +kernel)⟩
theorem vX0_35 : ai_Vi RX0 35 mX1_hasUnit := ⟨ai_in 365 (by decide +kernel) (by decide +kernel), ai_in 278 (by decide +kernel) (by decide +kernel), ai_in 279 (by decide +kernel) (by decide +kernel)⟩
theorem vX0_44 : ai_Vi RX0 44 mX1_feetOfVolt := ⟨ai_in 366 (by decide +kernel) (by decide +kernel), ai_in 367 (by decide +kernel) (by decide +kernel), ai_in 368 (by decide +kernel) (by decide +kernel)⟩
theorem vX3_75 : ai_Vi RX3 75 mX0_countOfKind := ⟨ai_in 370 (by decide +kernel) (by decide +kernel), ai_in 371 (by decide +kernel) (by decide +kernel), ai_in 372 (by decide +kernel) (by decide +kernel)⟩
theorem vX3_79 : ai_Vi RX3 79 mX1_countOfKind := ⟨ai_in 374 (by decide +kernel) (by decide +kernel), ai_in 375 (by decide +kernel) (by decide +kernel), ai_in 376 (by decide +kernel) (by decide +kernel)⟩
theorem vX4_155 : ai_Vi RX4 155 mX3_findLeast := ⟨ai_in 378 (by decide +kernel) (by decide +kernel), ai_in 379 (by decide +kernel) (by decide +kernel), ai_in 380 (by decide +kernel) (by decide +kernel)⟩
theorem vX3_99 : ai_Vi RX3 99 mX3_begin := ⟨ai_in 382 (by decide +kernel) (by decide +kernel), ai_in 384 (by decide +kernel) (by decide +kernel), ai_in 3 (by decide +kernel) (by decide +kernel)⟩
theorem vX3_132 : ai_Vi RX3 132 mX3_setBounds := ⟨ai_in 387 (by decide +kernel) (by decide +kernel), ai_in 389 (by decide +kernel) (by decide +kernel), ai_in 4 (by decide +kernel) (by decide +kernel)⟩
theorem vX3_135 : ai_Vi RX3 135 mX3_lightestFoot := ⟨ai_in 391 (by decide +kernel) (by decide +kernel), ai_in 393 (by decide +kernel) (by decide +kernel), ai_in 5 (by decide +kernel) (by decide +kernel)⟩
theorem vX3_139 : ai_Vi RX3 139 mX3_weigh := ⟨ai_in 395 (by decide +kernel) (by decide +kernel), ai_in 397 (by decide +kernel) (by decide +kernel), ai_in 6 (by decide +kernel) (by decide +kernel)⟩
theorem maX3_116 : ai_Ma RX3 116 Lib.Math.min.name Lib.Math.min.code 2 := ⟨ai_in 399 (by decide +kernel) (by decide +kernel), ai_in 358 (by decide +kernel) (by decide +kernel), ai_in 42 (by decide +kernel) (by decide +kernel), ai_in 359 (by decide +kernel) (by decide +kernel)⟩
theorem vX3_103 : ai_Vi RX3 103 mX3_giveUnit := ⟨ai_in 400 (by decide +kernel) (by decide +kernel), ai_in 402 (by decide +kernel) (by decide +kernel), ai_in 7 (by decide +kernel) (by decide +kernel)⟩
theorem vX3_149 : ai_Vi RX3 149 mX3_reach := ⟨ai_in 404 (by decide +kernel) (by decide +kernel), ai_in 406 (by decide +kernel) (by decide +kernel), ai_in 8 (by decide +kernel) (by decide +kernel)⟩
theorem vX3_95 : ai_Vi RX3 95 mX2_copy := ⟨ai_in 408 (by decide +kernel) (by decide +kernel), ai_in 409 (by decide +kernel) (by decide +kernel), ai_in 410 (by decide +kernel) (by decide +kernel)⟩
theorem acX2_29 : ai_Ac RX2 29 := ⟨ai_in 412 (by decide +kernel) (by decide +kernel), ai_in 414 (by decide +kernel) (by decide +kernel), ai_in 413 (by decide +kernel) (by decide +kernel), ai_in 43 (by decide +kernel) (by decide +kernel)⟩
theorem vX3_152 : ai_Vi RX3 152 mX3_isOver := ⟨ai_in 415 (by decide +kernel) (by decide +kernel), ai_in 417 (by decide +kernel) (by decide +kernel), ai_in 9 (by decide +kernel) (by decide +kernel)⟩
theorem vX3_156 : ai_Vi RX3 156 mX3_giveFoot := ⟨ai_in 419 (by decide +kernel) (by decide +kernel), ai_in 421 (by decide +kernel) (by decide +kernel), ai_in 10 (by decide +kernel) (by decide +kernel)⟩
theorem vX3_160 : ai_Vi RX3 160 mX3_wishedFrom := ⟨ai_in 423 (by decide +kernel) (by decide +kernel), ai_in 425 (by decide +kernel) (by decide +kernel), ai_in 11 (by decide +kernel) (by decide +kernel)⟩
theorem sX3_163 : ai_Si RX3 163 mJ6_bitCount_0f7a4 := ⟨ai_in 427 (by decide +kernel) (by decide +kernel), ai_in 428 (by decide +kernel) (by decide +kernel)⟩
theorem vX4_159 : ai_Vi RX4 159 mX2_copy := ⟨ai_in 433 (by decide +kernel) (by decide +kernel), ai_in 409 (by decide +kernel) (by decide +kernel), ai_in 410 (by decide +kernel) (by decide +kernel)⟩
theorem vL_62 : ai_Vi RL 62 mX4_given := ⟨ai_in 434 (by decide +kernel) (by decide +kernel), ai_in 435 (by decide +kernel) (by decide +kernel), ai_in 436 (by decide +kernel) (by decide +kernel)⟩
theorem vX4_130 : ai_Vi RX4 130 mX2_unitOf := ⟨ai_in 438 (by decide +kernel) (by decide +kernel), ai_in 439 (by decide +kernel) (by decide +kernel), ai_in 440 (by decide +kernel) (by decide +kernel)⟩
theorem vX4_133 : ai_Vi RX4 133 mX2_footOf := ⟨ai_in 442 (by decide +kernel) (by decide +kernel), ai_in 443 (by decide +kernel) (by decide +kernel), ai_in 444 (by decide +kernel) (by decide +kernel)⟩
theorem vL_66 : ai_Vi RL 66 mX4_crossings := ⟨ai_in 446 (by decide +kernel) (by decide +kernel), ai_in 447 (by decide +kernel) (by decide +kernel), ai_in 448 (by decide +kernel) (by decide +kernel)⟩
theorem vX4_137 : ai_Vi RX4 137 mX4_countCrossings := ⟨ai_in 450 (by decide +kernel) (by decide +kernel), ai_in 452 (by decide +kernel) (by decide +kernel), ai_in 12 (by decide +kernel) (by decide +kernel)⟩
theorem sX4_186 : ai_Si RX4 186 mX4_cross := ⟨ai_in 454 (by decide +kernel) (by decide +kernel), ai_in 455 (by decide +kernel) (by decide +kernel)⟩
theorem maX4_190 : ai_Ma RX4 190 Lib.Math.min.name Lib.Math.min.code 2 := ⟨ai_in 457 (by decide +kernel) (by decide +kernel), ai_in 358 (by decide +kernel) (by decide +kernel), ai_in 42 (by decide +kernel) (by decide +kernel), ai_in 359 (by decide +kernel) (by decide +kernel)⟩
theorem maX4_195 : ai_Ma RX4 195 Lib.Math.max.name Lib.Math.max.code 2 := ⟨ai_in 458 (by decide +kernel) (by decide +kernel), ai_in 459 (by decide +kernel) (by decide +kernel), ai_in 42 (by decide +kernel) (by decide +kernel), ai_in 460 (by decide +kernel) (by decide +kernel)⟩
theorem vL_70 : ai_Vi RL 70 mX4_blame := ⟨ai_in 461 (by decide +kernel) (by decide +kernel), ai_in 462 (by decide +kernel) (by decide +kernel), ai_in 463 (by decide +kernel) (by decide +kernel)⟩
theorem vX4_144 : ai_Vi RX4 144 mX4_isPossible := ⟨ai_in 467 (by decide +kernel) (by decide +kernel), ai_in 469 (by decide +kernel) (by decide +kernel), ai_in 13 (by decide +kernel) (by decide +kernel)⟩
theorem vX4_152 : ai_Vi RX4 152 mX3_countUpTo := ⟨ai_in 471 (by decide +kernel) (by decide +kernel), ai_in 472 (by decide +kernel) (by decide +kernel), ai_in 473 (by decide +kernel) (by decide +kernel)⟩
theorem vL_74 : ai_Vi RL 74 mX4_many := ⟨ai_in 475 (by decide +kernel) (by decide +kernel), ai_in 476 (by decide +kernel) (by decide +kernel), ai_in 477 (by decide +kernel) (by decide +kernel)⟩
theorem vL_78 : ai_Vi RL 78 mX4_trial := ⟨ai_in 480 (by decide +kernel) (by decide +kernel), ai_in 481 (by decide +kernel) (by decide +kernel), ai_in 482 (by decide +kernel) (by decide +kernel)⟩
theorem vL_82 : ai_Vi RL 82 mX4_hold := ⟨ai_in 484 (by decide +kernel) (by decide +kernel), ai_in 485 (by decide +kernel) (by decide +kernel), ai_in 486 (by decide +kernel) (by decide +kernel)⟩
theorem vL_86 : ai_Vi RL 86 mX4_change := ⟨ai_in 488 (by decide +kernel) (by decide +kernel), ai_in 489 (by decide +kernel) (by decide +kernel), ai_in 490 (by decide +kernel) (by decide +kernel)⟩
theorem vX4_166 : ai_Vi RX4 166 mX3_compareWith := ⟨ai_in 492 (by decide +kernel) (by decide +kernel), ai_in 493 (by decide +kernel) (by decide +kernel), ai_in 494 (by decide +kernel) (by decide +kernel)⟩
theorem vL_90 : ai_Vi RL 90 mX4_held := ⟨ai_in 496 (by decide +kernel) (by decide +kernel), ai_in 497 (by decide +kernel) (by decide +kernel), ai_in 498 (by decide +kernel) (by decide +kernel)⟩
theorem vL_94 : ai_Vi RL 94 mX4_setting := ⟨ai_in 500 (by decide +kernel) (by decide +kernel), ai_in 501 (by decide +kernel) (by decide +kernel), ai_in 502 (by decide +kernel) (by decide +kernel)⟩
theorem vX4_172 : ai_Vi RX4 172 mX2_slotOn := ⟨ai_in 504 (by decide +kernel) (by decide +kernel), ai_in 505 (by decide +kernel) (by decide +kernel), ai_in 506 (by decide +kernel) (by decide +kernel)⟩
theorem vL_98 : ai_Vi RL 98 mX4_stands := ⟨ai_in 508 (by decide +kernel) (by decide +kernel), ai_in 509 (by decide +kernel) (by decide +kernel), ai_in 510 (by decide +kernel) (by decide +kernel)⟩
theorem vX4_178 : ai_Vi RX4 178 mX4_isGivingNow := ⟨ai_in 512 (by decide +kernel) (by decide +kernel), ai_in 514 (by decide +kernel) (by decide +kernel), ai_in 14 (by decide +kernel) (by decide +kernel)⟩
theorem vX4_198 : ai_Vi RX4 198 mX4_fits := ⟨ai_in 516 (by decide +kernel) (by decide +kernel), ai_in 518 (by decide +kernel) (by decide +kernel), ai_in 15 (by decide +kernel) (by decide +kernel)⟩
theorem vX4_202 : ai_Vi RX4 202 mX0_openFeet := ⟨ai_in 520 (by decide +kernel) (by decide +kernel), ai_in 362 (by decide +kernel) (by decide +kernel), ai_in 363 (by decide +kernel) (by decide +kernel)⟩
theorem vL_102 : ai_Vi RL 102 mX4_told := ⟨ai_in 521 (by decide +kernel) (by decide +kernel), ai_in 522 (by decide +kernel) (by decide +kernel), ai_in 523 (by decide +kernel) (by decide +kernel)⟩
theorem ilL_12 : Cond.methodLink RL 12 yX5_init ∈ ai_W := ai_in 527 (by decide +kernel) (by decide +kernel)
theorem oX5_1 : ai_Ob RX5 1 := ⟨ai_in 530 (by decide +kernel) (by decide +kernel), ai_in 51 (by decide +kernel) (by decide +kernel), ai_in 52 (by decide +kernel) (by decide +kernel)⟩
theorem vX5_65 : ai_Vi RX5 65 mX5_begin := ⟨ai_in 531 (by decide +kernel) (by decide +kernel), ai_in 533 (by decide +kernel) (by decide +kernel), ai_in 16 (by decide +kernel) (by decide +kernel)⟩
theorem vX5_77 : ai_Vi RX5 77 mX5_empty := ⟨ai_in 535 (by decide +kernel) (by decide +kernel), ai_in 537 (by decide +kernel) (by decide +kernel), ai_in 17 (by decide +kernel) (by decide +kernel)⟩
theorem vL_17 : ai_Vi RL 17 mX5_feet := ⟨ai_in 621 (by decide +kernel) (by decide +kernel), ai_in 622 (by decide +kernel) (by decide +kernel), ai_in 623 (by decide +kernel) (by decide +kernel)⟩
theorem sX5_84 : ai_Si RX5 84 mX5_in := ⟨ai_in 625 (by decide +kernel) (by decide +kernel), ai_in 626 (by decide +kernel) (by decide +kernel)⟩
theorem vL_22 : ai_Vi RL 22 mX5_volt := ⟨ai_in 628 (by decide +kernel) (by decide +kernel), ai_in 629 (by decide +kernel) (by decide +kernel), ai_in 630 (by decide +kernel) (by decide +kernel)⟩
theorem vX5_88 : ai_Vi RX5 88 mX5_isFoot := ⟨ai_in 632 (by decide +kernel) (by decide +kernel), ai_in 634 (by decide +kernel) (by decide +kernel), ai_in 18 (by decide +kernel) (by decide +kernel)⟩
theorem vL_26 : ai_Vi RL 26 mX5_unit := ⟨ai_in 636 (by decide +kernel) (by decide +kernel), ai_in 637 (by decide +kernel) (by decide +kernel), ai_in 638 (by decide +kernel) (by decide +kernel)⟩
theorem vL_30 : ai_Vi RL 30 mX5_kind := ⟨ai_in 640 (by decide +kernel) (by decide +kernel), ai_in 641 (by decide +kernel) (by decide +kernel), ai_in 642 (by decide +kernel) (by decide +kernel)⟩
theorem vL_35 : ai_Vi RL 35 mX5_use := ⟨ai_in 644 (by decide +kernel) (by decide +kernel), ai_in 645 (by decide +kernel) (by decide +kernel), ai_in 646 (by decide +kernel) (by decide +kernel)⟩
theorem vX5_92 : ai_Vi RX5 92 mX5_can := ⟨ai_in 648 (by decide +kernel) (by decide +kernel), ai_in 650 (by decide +kernel) (by decide +kernel), ai_in 19 (by decide +kernel) (by decide +kernel)⟩
theorem vL_39 : ai_Vi RL 39 mX5_about := ⟨ai_in 652 (by decide +kernel) (by decide +kernel), ai_in 653 (by decide +kernel) (by decide +kernel), ai_in 654 (by decide +kernel) (by decide +kernel)⟩
theorem vL_44 : ai_Vi RL 44 mX5_wish := ⟨ai_in 656 (by decide +kernel) (by decide +kernel), ai_in 657 (by decide +kernel) (by decide +kernel), ai_in 658 (by decide +kernel) (by decide +kernel)⟩
theorem vL_48 : ai_Vi RL 48 mX5_wished := ⟨ai_in 660 (by decide +kernel) (by decide +kernel), ai_in 661 (by decide +kernel) (by decide +kernel), ai_in 662 (by decide +kernel) (by decide +kernel)⟩
theorem vX5_95 : ai_Vi RX5 95 mX5_isWish := ⟨ai_in 664 (by decide +kernel) (by decide +kernel), ai_in 666 (by decide +kernel) (by decide +kernel), ai_in 20 (by decide +kernel) (by decide +kernel)⟩
theorem vL_52 : ai_Vi RL 52 mX5_fix := ⟨ai_in 668 (by decide +kernel) (by decide +kernel), ai_in 669 (by decide +kernel) (by decide +kernel), ai_in 670 (by decide +kernel) (by decide +kernel)⟩
theorem vX5_98 : ai_Vi RX5 98 mX5_hasRole := ⟨ai_in 672 (by decide +kernel) (by decide +kernel), ai_in 674 (by decide +kernel) (by decide +kernel), ai_in 21 (by decide +kernel) (by decide +kernel)⟩
theorem vL_57 : ai_Vi RL 57 mX5_drop := ⟨ai_in 676 (by decide +kernel) (by decide +kernel), ai_in 677 (by decide +kernel) (by decide +kernel), ai_in 678 (by decide +kernel) (by decide +kernel)⟩
theorem vL_61 : ai_Vi RL 61 mX5_best := ⟨ai_in 680 (by decide +kernel) (by decide +kernel), ai_in 681 (by decide +kernel) (by decide +kernel), ai_in 682 (by decide +kernel) (by decide +kernel)⟩
theorem vX5_155 : ai_Vi RX5 155 mX5_find := ⟨ai_in 684 (by decide +kernel) (by decide +kernel), ai_in 686 (by decide +kernel) (by decide +kernel), ai_in 22 (by decide +kernel) (by decide +kernel)⟩
theorem vX5_140 : ai_Vi RX5 140 mX5_all := ⟨ai_in 688 (by decide +kernel) (by decide +kernel), ai_in 690 (by decide +kernel) (by decide +kernel), ai_in 23 (by decide +kernel) (by decide +kernel)⟩
theorem vX5_144 : ai_Vi RX5 144 mX5_start := ⟨ai_in 692 (by decide +kernel) (by decide +kernel), ai_in 694 (by decide +kernel) (by decide +kernel), ai_in 24 (by decide +kernel) (by decide +kernel)⟩
theorem vX5_148 : ai_Vi RX5 148 mX5_next := ⟨ai_in 696 (by decide +kernel) (by decide +kernel), ai_in 698 (by decide +kernel) (by decide +kernel), ai_in 25 (by decide +kernel) (by decide +kernel)⟩
theorem vX5_131 : ai_Vi RX5 131 mX5_fits := ⟨ai_in 700 (by decide +kernel) (by decide +kernel), ai_in 702 (by decide +kernel) (by decide +kernel), ai_in 26 (by decide +kernel) (by decide +kernel)⟩
theorem vX5_117 : ai_Vi RX5 117 mX5_unitPlace := ⟨ai_in 704 (by decide +kernel) (by decide +kernel), ai_in 706 (by decide +kernel) (by decide +kernel), ai_in 27 (by decide +kernel) (by decide +kernel)⟩
theorem vX5_134 : ai_Vi RX5 134 mX5_isBetter := ⟨ai_in 708 (by decide +kernel) (by decide +kernel), ai_in 710 (by decide +kernel) (by decide +kernel), ai_in 28 (by decide +kernel) (by decide +kernel)⟩
theorem vX5_125 : ai_Vi RX5 125 mX5_movesTo := ⟨ai_in 712 (by decide +kernel) (by decide +kernel), ai_in 714 (by decide +kernel) (by decide +kernel), ai_in 29 (by decide +kernel) (by decide +kernel)⟩
theorem vX5_128 : ai_Vi RX5 128 mX5_costTo := ⟨ai_in 716 (by decide +kernel) (by decide +kernel), ai_in 718 (by decide +kernel) (by decide +kernel), ai_in 30 (by decide +kernel) (by decide +kernel)⟩
theorem vX5_121 : ai_Vi RX5 121 mX5_steps := ⟨ai_in 720 (by decide +kernel) (by decide +kernel), ai_in 722 (by decide +kernel) (by decide +kernel), ai_in 31 (by decide +kernel) (by decide +kernel)⟩
theorem vX5_152 : ai_Vi RX5 152 mX5_keepBest := ⟨ai_in 724 (by decide +kernel) (by decide +kernel), ai_in 726 (by decide +kernel) (by decide +kernel), ai_in 32 (by decide +kernel) (by decide +kernel)⟩
theorem vX5_137 : ai_Vi RX5 137 mX5_keepBound := ⟨ai_in 728 (by decide +kernel) (by decide +kernel), ai_in 730 (by decide +kernel) (by decide +kernel), ai_in 33 (by decide +kernel) (by decide +kernel)⟩
theorem vL_65 : ai_Vi RL 65 mX5_given := ⟨ai_in 732 (by decide +kernel) (by decide +kernel), ai_in 733 (by decide +kernel) (by decide +kernel), ai_in 734 (by decide +kernel) (by decide +kernel)⟩
theorem vL_69 : ai_Vi RL 69 mX5_crossings := ⟨ai_in 736 (by decide +kernel) (by decide +kernel), ai_in 737 (by decide +kernel) (by decide +kernel), ai_in 738 (by decide +kernel) (by decide +kernel)⟩
theorem sX5_159 : ai_Si RX5 159 mX5_isBetween := ⟨ai_in 740 (by decide +kernel) (by decide +kernel), ai_in 741 (by decide +kernel) (by decide +kernel)⟩
theorem vL_73 : ai_Vi RL 73 mX5_blame := ⟨ai_in 743 (by decide +kernel) (by decide +kernel), ai_in 744 (by decide +kernel) (by decide +kernel), ai_in 745 (by decide +kernel) (by decide +kernel)⟩
theorem sX5_162 : ai_Si RX5 162 mX5_bits := ⟨ai_in 747 (by decide +kernel) (by decide +kernel), ai_in 748 (by decide +kernel) (by decide +kernel)⟩
theorem vL_77 : ai_Vi RL 77 mX5_many := ⟨ai_in 750 (by decide +kernel) (by decide +kernel), ai_in 751 (by decide +kernel) (by decide +kernel), ai_in 752 (by decide +kernel) (by decide +kernel)⟩
theorem vL_81 : ai_Vi RL 81 mX5_trial := ⟨ai_in 755 (by decide +kernel) (by decide +kernel), ai_in 756 (by decide +kernel) (by decide +kernel), ai_in 757 (by decide +kernel) (by decide +kernel)⟩
theorem vX5_166 : ai_Vi RX5 166 mX5_wish := ⟨ai_in 759 (by decide +kernel) (by decide +kernel), ai_in 657 (by decide +kernel) (by decide +kernel), ai_in 658 (by decide +kernel) (by decide +kernel)⟩
theorem vX5_170 : ai_Vi RX5 170 mX5_best := ⟨ai_in 760 (by decide +kernel) (by decide +kernel), ai_in 681 (by decide +kernel) (by decide +kernel), ai_in 682 (by decide +kernel) (by decide +kernel)⟩
theorem vL_85 : ai_Vi RL 85 mX5_hold := ⟨ai_in 761 (by decide +kernel) (by decide +kernel), ai_in 762 (by decide +kernel) (by decide +kernel), ai_in 763 (by decide +kernel) (by decide +kernel)⟩
theorem vX5_173 : ai_Vi RX5 173 mX5_take := ⟨ai_in 765 (by decide +kernel) (by decide +kernel), ai_in 767 (by decide +kernel) (by decide +kernel), ai_in 34 (by decide +kernel) (by decide +kernel)⟩
theorem vL_89 : ai_Vi RL 89 mX5_change := ⟨ai_in 769 (by decide +kernel) (by decide +kernel), ai_in 770 (by decide +kernel) (by decide +kernel), ai_in 771 (by decide +kernel) (by decide +kernel)⟩
theorem vL_93 : ai_Vi RL 93 mX5_held := ⟨ai_in 773 (by decide +kernel) (by decide +kernel), ai_in 774 (by decide +kernel) (by decide +kernel), ai_in 775 (by decide +kernel) (by decide +kernel)⟩
theorem vL_97 : ai_Vi RL 97 mX5_setting := ⟨ai_in 777 (by decide +kernel) (by decide +kernel), ai_in 778 (by decide +kernel) (by decide +kernel), ai_in 779 (by decide +kernel) (by decide +kernel)⟩
theorem vL_101 : ai_Vi RL 101 mX5_stands := ⟨ai_in 781 (by decide +kernel) (by decide +kernel), ai_in 782 (by decide +kernel) (by decide +kernel), ai_in 783 (by decide +kernel) (by decide +kernel)⟩
theorem vL_105 : ai_Vi RL 105 mX5_told := ⟨ai_in 785 (by decide +kernel) (by decide +kernel), ai_in 786 (by decide +kernel) (by decide +kernel), ai_in 787 (by decide +kernel) (by decide +kernel)⟩
theorem inX4_init : Cond.instanceMethod yX4_init ∈ ai_W := ai_in 48 (by decide +kernel) (by decide +kernel)
theorem inX1_init : Cond.instanceMethod yX1_init ∈ ai_W := ai_in 56 (by decide +kernel) (by decide +kernel)
theorem inX0_init : Cond.instanceMethod yX0_init ∈ ai_W := ai_in 99 (by decide +kernel) (by decide +kernel)
theorem inX3_init : Cond.instanceMethod yX3_init ∈ ai_W := ai_in 134 (by decide +kernel) (by decide +kernel)
theorem inX2_init : Cond.instanceMethod yX2_init ∈ ai_W := ai_in 140 (by decide +kernel) (by decide +kernel)
theorem inX5_init : Cond.instanceMethod yX5_init ∈ ai_W := ai_in 528 (by decide +kernel) (by decide +kernel)
theorem stX4_isKind : Cond.static yX4_isKind ∈ ai_W := ai_in 267 (by decide +kernel) (by decide +kernel)
theorem stX4_isRole : Cond.static yX4_isRole ∈ ai_W := ai_in 286 (by decide +kernel) (by decide +kernel)
theorem stJ9_abs_0f7a4 : Cond.static yJ9_abs_0f7a4 ∈ ai_W := ai_in 355 (by decide +kernel) (by decide +kernel)
theorem stJ9_min_7cf53 : Cond.static yJ9_min_7cf53 ∈ ai_W := ai_in 358 (by decide +kernel) (by decide +kernel)
theorem stJ6_bitCount_0f7a4 : Cond.static yJ6_bitCount_0f7a4 ∈ ai_W := ai_in 428 (by decide +kernel) (by decide +kernel)
theorem stX4_cross : Cond.static yX4_cross ∈ ai_W := ai_in 455 (by decide +kernel) (by decide +kernel)
theorem stJ9_max_7cf53 : Cond.static yJ9_max_7cf53 ∈ ai_W := ai_in 459 (by decide +kernel) (by decide +kernel)
theorem stX5_in : Cond.static yX5_in ∈ ai_W := ai_in 626 (by decide +kernel) (by decide +kernel)
theorem stX5_isBetween : Cond.static yX5_isBetween ∈ ai_W := ai_in 741 (by decide +kernel) (by decide +kernel)
theorem stX5_bits : Cond.static yX5_bits ∈ ai_W := ai_in 748 (by decide +kernel) (by decide +kernel)
theorem arrW : Cond.arrayClass .int ∈ ai_W := ai_in 95 (by decide +kernel) (by decide +kernel)
theorem kX3_124 : Cond.constant RX3 124 1000000 ∈ ai_W := ai_in 386 (by decide +kernel) (by decide +kernel)
theorem kJ6_265 : Cond.constant RJ6 265 1431655765 ∈ ai_W := ai_in 430 (by decide +kernel) (by decide +kernel)
theorem kJ6_266 : Cond.constant RJ6 266 858993459 ∈ ai_W := ai_in 431 (by decide +kernel) (by decide +kernel)
theorem kJ6_267 : Cond.constant RJ6 267 252645135 ∈ ai_W := ai_in 432 (by decide +kernel) (by decide +kernel)
theorem kX4_151 : Cond.constant RX4 151 100000 ∈ ai_W := ai_in 479 (by decide +kernel) (by decide +kernel)
theorem kX5_165 : Cond.constant RX5 165 100000 ∈ ai_W := ai_in 754 (by decide +kernel) (by decide +kernel)
abbrev nf0 : List (Option (Option Nat)) := [none, some none, some none, some none, some none, some none]
abbrev nf1 : List (Option (Option Nat)) := [none, none, none, some none, some none, some none, some none]
abbrev nf2 : List (Option (Option Nat)) := [none, none, some none, some none]
abbrev nf3 : List (Option (Option Nat)) := [some none, some none, some none, none, none, none, some none, some none, some none, some none, some none, none, none, none, none, none, none, none]
abbrev nf4 : List (Option (Option Nat)) := [some none, some none, some none, some none, some none, none, none]
abbrev nf5 : List (Option (Option Nat)) := [none, some none, none, some none, none, some none, some none, some none, none, some none, some none, some none, some none, some none, none, some none, some none, none, some none, some none, some none, none, none, none, none, some none, some none]
theorem clL_7 : ai_Cl RL 7 4 nf4 := ⟨RX4, TX4, tyX4, rfl, inW4, tyX4_ok, ai_in 45 (by decide +kernel) (by decide +kernel), ai_in 46 (by decide +kernel) (by decide +kernel), ai_in 36 (by decide +kernel) (by decide +kernel), by decide +kernel⟩
theorem clX4_7 : ai_Cl RX4 7 1 nf1 := ⟨RX1, TX1, tyX1, rfl, inW1, tyX1_ok, ai_in 53 (by decide +kernel) (by decide +kernel), ai_in 54 (by decide +kernel) (by decide +kernel), ai_in 37 (by decide +kernel) (by decide +kernel), by decide +kernel⟩
theorem clX4_16 : ai_Cl RX4 16 0 nf0 := ⟨RX0, TX0, tyX0, rfl, inW0, tyX0_ok, ai_in 96 (by decide +kernel) (by decide +kernel), ai_in 97 (by decide +kernel) (by decide +kernel), ai_in 38 (by decide +kernel) (by decide +kernel), by decide +kernel⟩
theorem clX4_23 : ai_Cl RX4 23 3 nf3 := ⟨RX3, TX3, tyX3, rfl, inW3, tyX3_ok, ai_in 131 (by decide +kernel) (by decide +kernel), ai_in 132 (by decide +kernel) (by decide +kernel), ai_in 39 (by decide +kernel) (by decide +kernel), by decide +kernel⟩
theorem clX3_9 : ai_Cl RX3 9 2 nf2 := ⟨RX2, TX2, tyX2, rfl, inW2, tyX2_ok, ai_in 137 (by decide +kernel) (by decide +kernel), ai_in 138 (by decide +kernel) (by decide +kernel), ai_in 40 (by decide +kernel) (by decide +kernel), by decide +kernel⟩
theorem clX4_30 : ai_Cl RX4 30 2 nf2 := ⟨RX2, TX2, tyX2, rfl, inW2, tyX2_ok, ai_in 224 (by decide +kernel) (by decide +kernel), ai_in 138 (by decide +kernel) (by decide +kernel), ai_in 40 (by decide +kernel) (by decide +kernel), by decide +kernel⟩
theorem clL_10 : ai_Cl RL 10 5 nf5 := ⟨RX5, TX5, tyX5, rfl, inW5, tyX5_ok, ai_in 525 (by decide +kernel) (by decide +kernel), ai_in 526 (by decide +kernel) (by decide +kernel), ai_in 41 (by decide +kernel) (by decide +kernel), by decide +kernel⟩
theorem cls0 : ∀ q, vwCl[0]? = some q → q.1 = RX0 := fun q h => by cases h; rfl
theorem clx0 : ∃ T N, vwCl[0]? = some (RX0, T, N) := ⟨_, _, rfl⟩
theorem cls1 : ∀ q, vwCl[1]? = some q → q.1 = RX1 := fun q h => by cases h; rfl
theorem clx1 : ∃ T N, vwCl[1]? = some (RX1, T, N) := ⟨_, _, rfl⟩
theorem cls2 : ∀ q, vwCl[2]? = some q → q.1 = RX2 := fun q h => by cases h; rfl
theorem clx2 : ∃ T N, vwCl[2]? = some (RX2, T, N) := ⟨_, _, rfl⟩
theorem cls3 : ∀ q, vwCl[3]? = some q → q.1 = RX3 := fun q h => by cases h; rfl
theorem clx3 : ∃ T N, vwCl[3]? = some (RX3, T, N) := ⟨_, _, rfl⟩
theorem cls4 : ∀ q, vwCl[4]? = some q → q.1 = RX4 := fun q h => by cases h; rfl
theorem clx4 : ∃ T N, vwCl[4]? = some (RX4, T, N) := ⟨_, _, rfl⟩
theorem cls5 : ∀ q, vwCl[5]? = some q → q.1 = RX5 := fun q h => by cases h; rfl
theorem clx5 : ∃ T N, vwCl[5]? = some (RX5, T, N) := ⟨_, _, rfl⟩
