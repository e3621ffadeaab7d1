theorem nO_len {ci : Nat} {fs : List Value} {h h1 : gH} (e : nO ci fs h = some h1) : h1.length = h.length + 1 := by cases e; rw [List.length_append]; rfl
theorem nA_len {t n : Nat} {h h1 : gH} (e : nA t n h = some h1) : h1.length = h.length + 1 := by cases e; rw [List.length_append]; rfl
theorem sf_len {h h1 : gH} {a c k : Nat} {v : Value} (e : sf h a c k v = some h1) : h1.length = h.length := by obtain ⟨fs, -, -, rfl⟩ := sf_spec e; rw [List.length_set]
theorem saR_len {h h1 : gH} {a x : Nat} {i : Int32} (e : saR h a i x = some h1) : h1.length = h.length := by obtain ⟨n, f, vs, -, -, -, rfl⟩ := saR_spec e; rw [List.length_set]
abbrev b_c0_init : ByteArray := prog_2_method_1_code
abbrev y_c0_init : MethodName := ⟨gN0, "<init>", "()V"⟩
abbrev b_c11_init : ByteArray := prog_13_method_1_code
abbrev y_c11_init : MethodName := ⟨gN11, "<init>", "()V"⟩
abbrev b_c1_init : ByteArray := prog_3_method_1_code
abbrev y_c1_init : MethodName := ⟨gN1, "<init>", "()V"⟩
abbrev b_c2_init : ByteArray := prog_4_method_1_code
abbrev y_c2_init : MethodName := ⟨gN2, "<init>", "()V"⟩
abbrev b_c3_init : ByteArray := prog_5_method_1_code
abbrev y_c3_init : MethodName := ⟨gN3, "<init>", "()V"⟩
abbrev b_c4_init : ByteArray := prog_6_method_1_code
abbrev y_c4_init : MethodName := ⟨gN4, "<init>", "()V"⟩
abbrev b_c6_init : ByteArray := prog_8_method_1_code
abbrev y_c6_init : MethodName := ⟨gN6, "<init>", "()V"⟩
abbrev b_c7_init : ByteArray := prog_9_method_1_code
abbrev y_c7_init : MethodName := ⟨gN7, "<init>", "()V"⟩
abbrev b_c8_init : ByteArray := prog_10_method_1_code
abbrev y_c8_init : MethodName := ⟨gN8, "<init>", "()V"⟩
abbrev b_c9_init : ByteArray := prog_11_method_1_code
abbrev y_c9_init : MethodName := ⟨gN9, "<init>", "()V"⟩
abbrev b_c5_init : ByteArray := prog_7_method_1_code
abbrev y_c5_init : MethodName := ⟨gN5, "<init>", "()V"⟩
abbrev b_c10_init : ByteArray := prog_1_method_1_code
abbrev y_c10_init : MethodName := ⟨gN10, "<init>", "()V"⟩
theorem ly_c0_init : gLy y_c0_init b_c0_init 1 none 0 := ⟨gTk_1 6 rfl rfl, gTk_1 161 rfl rfl, rfl, by decide +kernel⟩
theorem ly_c11_init : gLy y_c11_init b_c11_init 1 none 0 := ⟨gTk_1 13 rfl rfl, gTk_5 113 rfl rfl, rfl, by decide +kernel⟩
theorem ly_c1_init : gLy y_c1_init b_c1_init 1 none 0 := ⟨gTk_1 4 rfl rfl, gTk_1 69 rfl rfl, rfl, by decide +kernel⟩
theorem ly_c2_init : gLy y_c2_init b_c2_init 1 none 0 := ⟨gTk_1 8 rfl rfl, gTk_1 200 rfl rfl, rfl, by decide +kernel⟩
theorem ly_c3_init : gLy y_c3_init b_c3_init 1 none 0 := ⟨gTk_1 10 rfl rfl, gTk_1 234 rfl rfl, rfl, by decide +kernel⟩
theorem ly_c4_init : gLy y_c4_init b_c4_init 1 none 0 := ⟨gTk_1 3 rfl rfl, gTk_1 53 rfl rfl, rfl, by decide +kernel⟩
theorem ly_c6_init : gLy y_c6_init b_c6_init 1 none 0 := ⟨gTk_1 11 rfl rfl, gTk_2 4 rfl rfl, rfl, by decide +kernel⟩
theorem ly_c7_init : gLy y_c7_init b_c7_init 1 none 0 := ⟨gTk_1 5 rfl rfl, gTk_1 106 rfl rfl, rfl, by decide +kernel⟩
theorem ly_c8_init : gLy y_c8_init b_c8_init 1 none 0 := ⟨gTk_1 2 rfl rfl, gTk_1 36 rfl rfl, rfl, by decide +kernel⟩
theorem ly_c9_init : gLy y_c9_init b_c9_init 1 none 0 := ⟨gTk_1 9 rfl rfl, gTk_1 217 rfl rfl, rfl, by decide +kernel⟩
theorem ly_c5_init : gLy y_c5_init b_c5_init 2 none 0 := ⟨gTk_1 7 rfl rfl, gTk_1 176 rfl rfl, rfl, by decide +kernel⟩
theorem ly_c10_init : gLy y_c10_init b_c10_init 1 none 0 := ⟨gTk_1 1 rfl rfl, gTk_1 28 rfl rfl, rfl, by decide +kernel⟩
theorem fp_c11_40 : gFp gN11 40 11 18 (gY11 18) := ⟨_, _, _, gY11, rfl, gIn11, by decide, rfl, Or.inl (gTk_5 133 rfl rfl), gYo11, gNm11, by decide +kernel, rfl⟩
theorem fq_c0_15 : gFq gN0 15 0 1 (gY0 1) := ⟨_, _, gY0, rfl, gIn0, by decide, rfl, gTk_1 165 rfl rfl, gYo0, gNm0, by decide +kernel, rfl⟩
theorem fq_c0_9 : gFq gN0 9 0 0 (gY0 0) := ⟨_, _, gY0, rfl, gIn0, by decide, rfl, gTk_1 163 rfl rfl, gYo0, gNm0, by decide +kernel, rfl⟩
theorem fq_c10_10 : gFq gN10 10 10 0 (gY10 0) := ⟨_, _, gY10, rfl, gIn10, by decide, rfl, gTk_2 84 rfl rfl, gYo10, gNm10, by decide +kernel, rfl⟩
theorem fq_c10_19 : gFq gN10 19 10 1 (gY10 1) := ⟨_, _, gY10, rfl, gIn10, by decide, rfl, gTk_2 85 rfl rfl, gYo10, gNm10, by decide +kernel, rfl⟩
theorem fq_c10_26 : gFq gN10 26 10 2 (gY10 2) := ⟨_, _, gY10, rfl, gIn10, by decide, rfl, gTk_2 86 rfl rfl, gYo10, gNm10, by decide +kernel, rfl⟩
theorem fq_c10_33 : gFq gN10 33 10 3 (gY10 3) := ⟨_, _, gY10, rfl, gIn10, by decide, rfl, gTk_2 87 rfl rfl, gYo10, gNm10, by decide +kernel, rfl⟩
theorem fq_c10_37 : gFq gN10 37 10 4 (gY10 4) := ⟨_, _, gY10, rfl, gIn10, by decide, rfl, gTk_2 88 rfl rfl, gYo10, gNm10, by decide +kernel, rfl⟩
theorem fq_c10_40 : gFq gN10 40 10 5 (gY10 5) := ⟨_, _, gY10, rfl, gIn10, by decide, rfl, gTk_2 89 rfl rfl, gYo10, gNm10, by decide +kernel, rfl⟩
theorem fq_c10_46 : gFq gN10 46 10 6 (gY10 6) := ⟨_, _, gY10, rfl, gIn10, by decide, rfl, gTk_2 90 rfl rfl, gYo10, gNm10, by decide +kernel, rfl⟩
theorem fq_c10_53 : gFq gN10 53 10 7 (gY10 7) := ⟨_, _, gY10, rfl, gIn10, by decide, rfl, gTk_2 91 rfl rfl, gYo10, gNm10, by decide +kernel, rfl⟩
theorem fq_c10_60 : gFq gN10 60 10 8 (gY10 8) := ⟨_, _, gY10, rfl, gIn10, by decide, rfl, gTk_2 92 rfl rfl, gYo10, gNm10, by decide +kernel, rfl⟩
theorem fq_c10_67 : gFq gN10 67 10 9 (gY10 9) := ⟨_, _, gY10, rfl, gIn10, by decide, rfl, gTk_2 93 rfl rfl, gYo10, gNm10, by decide +kernel, rfl⟩
theorem fq_c10_74 : gFq gN10 74 10 10 (gY10 10) := ⟨_, _, gY10, rfl, gIn10, by decide, rfl, gTk_2 94 rfl rfl, gYo10, gNm10, by decide +kernel, rfl⟩
theorem fq_c11_20 : gFq gN11 20 11 4 (gY11 4) := ⟨_, _, gY11, rfl, gIn11, by decide, rfl, gTk_5 119 rfl rfl, gYo11, gNm11, by decide +kernel, rfl⟩
theorem fq_c11_23 : gFq gN11 23 11 5 (gY11 5) := ⟨_, _, gY11, rfl, gIn11, by decide, rfl, gTk_5 120 rfl rfl, gYo11, gNm11, by decide +kernel, rfl⟩
theorem fq_c11_26 : gFq gN11 26 11 6 (gY11 6) := ⟨_, _, gY11, rfl, gIn11, by decide, rfl, gTk_5 121 rfl rfl, gYo11, gNm11, by decide +kernel, rfl⟩
theorem fq_c11_30 : gFq gN11 30 11 8 (gY11 8) := ⟨_, _, gY11, rfl, gIn11, by decide, rfl, gTk_5 123 rfl rfl, gYo11, gNm11, by decide +kernel, rfl⟩
theorem fq_c11_34 : gFq gN11 34 11 16 (gY11 16) := ⟨_, _, gY11, rfl, gIn11, by decide, rfl, gTk_5 131 rfl rfl, gYo11, gNm11, by decide +kernel, rfl⟩
theorem fq_c11_43 : gFq gN11 43 11 21 (gY11 21) := ⟨_, _, gY11, rfl, gIn11, by decide, rfl, gTk_5 136 rfl rfl, gYo11, gNm11, by decide +kernel, rfl⟩
theorem fq_c11_46 : gFq gN11 46 11 22 (gY11 22) := ⟨_, _, gY11, rfl, gIn11, by decide, rfl, gTk_5 137 rfl rfl, gYo11, gNm11, by decide +kernel, rfl⟩
theorem fq_c11_49 : gFq gN11 49 11 24 (gY11 24) := ⟨_, _, gY11, rfl, gIn11, by decide, rfl, gTk_5 139 rfl rfl, gYo11, gNm11, by decide +kernel, rfl⟩
theorem fq_c11_52 : gFq gN11 52 11 25 (gY11 25) := ⟨_, _, gY11, rfl, gIn11, by decide, rfl, gTk_5 140 rfl rfl, gYo11, gNm11, by decide +kernel, rfl⟩
theorem fq_c11_55 : gFq gN11 55 11 26 (gY11 26) := ⟨_, _, gY11, rfl, gIn11, by decide, rfl, gTk_5 141 rfl rfl, gYo11, gNm11, by decide +kernel, rfl⟩
theorem fq_c11_58 : gFq gN11 58 11 27 (gY11 27) := ⟨_, _, gY11, rfl, gIn11, by decide, rfl, gTk_5 142 rfl rfl, gYo11, gNm11, by decide +kernel, rfl⟩
theorem fq_c11_61 : gFq gN11 61 11 28 (gY11 28) := ⟨_, _, gY11, rfl, gIn11, by decide, rfl, gTk_5 143 rfl rfl, gYo11, gNm11, by decide +kernel, rfl⟩
theorem fq_c11_64 : gFq gN11 64 11 29 (gY11 29) := ⟨_, _, gY11, rfl, gIn11, by decide, rfl, gTk_5 144 rfl rfl, gYo11, gNm11, by decide +kernel, rfl⟩
theorem fq_c11_67 : gFq gN11 67 11 30 (gY11 30) := ⟨_, _, gY11, rfl, gIn11, by decide, rfl, gTk_5 145 rfl rfl, gYo11, gNm11, by decide +kernel, rfl⟩
theorem fq_c11_70 : gFq gN11 70 11 31 (gY11 31) := ⟨_, _, gY11, rfl, gIn11, by decide, rfl, gTk_5 146 rfl rfl, gYo11, gNm11, by decide +kernel, rfl⟩
theorem fq_c11_73 : gFq gN11 73 11 32 (gY11 32) := ⟨_, _, gY11, rfl, gIn11, by decide, rfl, gTk_5 147 rfl rfl, gYo11, gNm11, by decide +kernel, rfl⟩
theorem fq_c11_76 : gFq gN11 76 11 33 (gY11 33) := ⟨_, _, gY11, rfl, gIn11, by decide, rfl, gTk_5 148 rfl rfl, gYo11, gNm11, by decide +kernel, rfl⟩
theorem fq_c11_79 : gFq gN11 79 11 35 (gY11 35) := ⟨_, _, gY11, rfl, gIn11, by decide, rfl, gTk_5 150 rfl rfl, gYo11, gNm11, by decide +kernel, rfl⟩
theorem fq_c11_82 : gFq gN11 82 11 36 (gY11 36) := ⟨_, _, gY11, rfl, gIn11, by decide, rfl, gTk_5 151 rfl rfl, gYo11, gNm11, by decide +kernel, rfl⟩
theorem fq_c11_86 : gFq gN11 86 11 39 (gY11 39) := ⟨_, _, gY11, rfl, gIn11, by decide, rfl, gTk_5 154 rfl rfl, gYo11, gNm11, by decide +kernel, rfl⟩
theorem fq_c11_89 : gFq gN11 89 11 40 (gY11 40) := ⟨_, _, gY11, rfl, gIn11, by decide, rfl, gTk_5 155 rfl rfl, gYo11, gNm11, by decide +kernel, rfl⟩
theorem fq_c11_9 : gFq gN11 9 11 0 (gY11 0) := ⟨_, _, gY11, rfl, gIn11, by decide, rfl, gTk_5 115 rfl rfl, gYo11, gNm11, by decide +kernel, rfl⟩
theorem fq_c11_92 : gFq gN11 92 11 41 (gY11 41) := ⟨_, _, gY11, rfl, gIn11, by decide, rfl, gTk_5 156 rfl rfl, gYo11, gNm11, by decide +kernel, rfl⟩
theorem fq_c1_18 : gFq gN1 18 1 3 (gY1 3) := ⟨_, _, gY1, rfl, gIn1, by decide, rfl, gTk_1 79 rfl rfl, gYo1, gNm1, by decide +kernel, rfl⟩
theorem fq_c1_22 : gFq gN1 22 1 4 (gY1 4) := ⟨_, _, gY1, rfl, gIn1, by decide, rfl, gTk_1 84 rfl rfl, gYo1, gNm1, by decide +kernel, rfl⟩
theorem fq_c1_25 : gFq gN1 25 1 5 (gY1 5) := ⟨_, _, gY1, rfl, gIn1, by decide, rfl, gTk_1 87 rfl rfl, gYo1, gNm1, by decide +kernel, rfl⟩
theorem fq_c2_15 : gFq gN2 15 2 1 (gY2 1) := ⟨_, _, gY2, rfl, gIn2, by decide, rfl, gTk_1 203 rfl rfl, gYo2, gNm2, by decide +kernel, rfl⟩
theorem fq_c2_9 : gFq gN2 9 2 0 (gY2 0) := ⟨_, _, gY2, rfl, gIn2, by decide, rfl, gTk_1 202 rfl rfl, gYo2, gNm2, by decide +kernel, rfl⟩
theorem fq_c4_9 : gFq gN4 9 4 0 (gY4 0) := ⟨_, _, gY4, rfl, gIn4, by decide, rfl, gTk_1 55 rfl rfl, gYo4, gNm4, by decide +kernel, rfl⟩
theorem fq_c5_11 : gFq gN5 11 5 0 (gY5 0) := ⟨_, _, gY5, rfl, gIn5, by decide, rfl, gTk_1 181 rfl rfl, gYo5, gNm5, by decide +kernel, rfl⟩
theorem fq_c5_17 : gFq gN5 17 5 1 (gY5 1) := ⟨_, _, gY5, rfl, gIn5, by decide, rfl, gTk_1 182 rfl rfl, gYo5, gNm5, by decide +kernel, rfl⟩
theorem fq_c5_20 : gFq gN5 20 5 2 (gY5 2) := ⟨_, _, gY5, rfl, gIn5, by decide, rfl, gTk_1 183 rfl rfl, gYo5, gNm5, by decide +kernel, rfl⟩
theorem fq_c6_15 : gFq gN6 15 6 1 (gY6 1) := ⟨_, _, gY6, rfl, gIn6, by decide, rfl, gTk_2 7 rfl rfl, gYo6, gNm6, by decide +kernel, rfl⟩
theorem fq_c6_18 : gFq gN6 18 6 2 (gY6 2) := ⟨_, _, gY6, rfl, gIn6, by decide, rfl, gTk_2 8 rfl rfl, gYo6, gNm6, by decide +kernel, rfl⟩
theorem fq_c6_9 : gFq gN6 9 6 0 (gY6 0) := ⟨_, _, gY6, rfl, gIn6, by decide, rfl, gTk_2 6 rfl rfl, gYo6, gNm6, by decide +kernel, rfl⟩
theorem fq_c7_15 : gFq gN7 15 7 2 (gY7 2) := ⟨_, _, gY7, rfl, gIn7, by decide, rfl, gTk_1 117 rfl rfl, gYo7, gNm7, by decide +kernel, rfl⟩
theorem fq_c7_18 : gFq gN7 18 7 3 (gY7 3) := ⟨_, _, gY7, rfl, gIn7, by decide, rfl, gTk_1 121 rfl rfl, gYo7, gNm7, by decide +kernel, rfl⟩
theorem fq_c7_21 : gFq gN7 21 7 4 (gY7 4) := ⟨_, _, gY7, rfl, gIn7, by decide, rfl, gTk_1 125 rfl rfl, gYo7, gNm7, by decide +kernel, rfl⟩
theorem fq_c7_24 : gFq gN7 24 7 5 (gY7 5) := ⟨_, _, gY7, rfl, gIn7, by decide, rfl, gTk_1 128 rfl rfl, gYo7, gNm7, by decide +kernel, rfl⟩
theorem fq_c7_9 : gFq gN7 9 7 1 (gY7 1) := ⟨_, _, gY7, rfl, gIn7, by decide, rfl, gTk_1 113 rfl rfl, gYo7, gNm7, by decide +kernel, rfl⟩
theorem fq_c8_9 : gFq gN8 9 8 0 (gY8 0) := ⟨_, _, gY8, rfl, gIn8, by decide, rfl, gTk_1 38 rfl rfl, gYo8, gNm8, by decide +kernel, rfl⟩
theorem fq_c9_15 : gFq gN9 15 9 1 (gY9 1) := ⟨_, _, gY9, rfl, gIn9, by decide, rfl, gTk_1 221 rfl rfl, gYo9, gNm9, by decide +kernel, rfl⟩
theorem fq_c9_18 : gFq gN9 18 9 2 (gY9 2) := ⟨_, _, gY9, rfl, gIn9, by decide, rfl, gTk_1 222 rfl rfl, gYo9, gNm9, by decide +kernel, rfl⟩
theorem fq_c9_9 : gFq gN9 9 9 0 (gY9 0) := ⟨_, _, gY9, rfl, gIn9, by decide, rfl, gTk_1 219 rfl rfl, gYo9, gNm9, by decide +kernel, rfl⟩
theorem ki_c10_18 : gLI gN10 18 y_c4_init := ⟨Or.inr ⟨"FullStopWells", gNk_1 51 rfl rfl⟩, gTk_1 52 rfl rfl, rfl⟩
theorem ki_c10_25 : gLI gN10 25 y_c1_init := ⟨Or.inr ⟨"FullStopWells", gNk_1 67 rfl rfl⟩, gTk_1 68 rfl rfl, rfl⟩
theorem ki_c10_32 : gLI gN10 32 y_c7_init := ⟨Or.inr ⟨"FullStopWells", gNk_1 104 rfl rfl⟩, gTk_1 105 rfl rfl, rfl⟩
theorem ki_c10_45 : gLI gN10 45 y_c0_init := ⟨Or.inr ⟨"FullStopWells", gNk_1 159 rfl rfl⟩, gTk_1 160 rfl rfl, rfl⟩
theorem ki_c10_52 : gLI gN10 52 y_c5_init := ⟨Or.inl (gTk_1 174 rfl rfl), gTk_1 175 rfl rfl, rfl⟩
theorem ki_c10_59 : gLI gN10 59 y_c2_init := ⟨Or.inr ⟨"FullStopWells", gNk_1 198 rfl rfl⟩, gTk_1 199 rfl rfl, rfl⟩
theorem ki_c10_66 : gLI gN10 66 y_c9_init := ⟨Or.inr ⟨"FullStopWells", gNk_1 215 rfl rfl⟩, gTk_1 216 rfl rfl, rfl⟩
theorem ki_c10_73 : gLI gN10 73 y_c3_init := ⟨Or.inr ⟨"FullStopWells", gNk_1 232 rfl rfl⟩, gTk_1 233 rfl rfl, rfl⟩
theorem ki_c10_80 : gLI gN10 80 y_c6_init := ⟨Or.inr ⟨"FullStopWells", gNk_2 2 rfl rfl⟩, gTk_2 3 rfl rfl, rfl⟩
theorem ki_c10_9 : gLI gN10 9 y_c8_init := ⟨Or.inr ⟨"FullStopWells", gNk_1 34 rfl rfl⟩, gTk_1 35 rfl rfl, rfl⟩
theorem ki_c5_24 : gLI gN5 24 y_c7_init := ⟨Or.inr ⟨"FullStopWells", gNk_1 180 rfl rfl⟩, gTk_1 105 rfl rfl, rfl⟩
-- c0 init
theorem d_c0_init_0 : gD b_c0_init 0 (.aload_n 0) 1 1 := ⟨by decide +kernel, rfl⟩
theorem d_c0_init_1 : gD b_c0_init 1 (.invokespecial 3) 3 4 := ⟨by decide +kernel, rfl⟩
theorem d_c0_init_4 : gD b_c0_init 4 (.aload_n 0) 1 5 := ⟨by decide +kernel, rfl⟩
theorem d_c0_init_5 : gD b_c0_init 5 (.bipush 6) 2 7 := ⟨by decide +kernel, rfl⟩
theorem d_c0_init_7 : gD b_c0_init 7 (.newarray .int) 2 9 := ⟨by decide +kernel, rfl⟩
theorem d_c0_init_9 : gD b_c0_init 9 (.putfield 9) 3 12 := ⟨by decide +kernel, rfl⟩
theorem d_c0_init_12 : gD b_c0_init 12 (.aload_n 0) 1 13 := ⟨by decide +kernel, rfl⟩
theorem d_c0_init_13 : gD b_c0_init 13 (.bipush 6) 2 15 := ⟨by decide +kernel, rfl⟩
theorem d_c0_init_15 : gD b_c0_init 15 (.newarray .int) 2 17 := ⟨by decide +kernel, rfl⟩
theorem d_c0_init_17 : gD b_c0_init 17 (.putfield 15) 3 20 := ⟨by decide +kernel, rfl⟩
theorem d_c0_init_20 : gD b_c0_init 20 .return_ 1 21 := ⟨by decide +kernel, rfl⟩
def f_c0_init (N : Nat) (a0 : Nat) (h : gH) : Option gH :=
  (nA 0 6 h).bind fun h1 =>
  (sf h1 a0 0 0 (.ref h.length)).bind fun h2 =>
  (nA 0 6 h2).bind fun h3 =>
  (sf h3 a0 0 1 (.ref h2.length)).bind fun h4 =>
  some h4
theorem len_c0_init {N a0 : Nat} {h h0 : gH} (hy : f_c0_init N a0 h = some h0) : h0.length = h.length + 2 := by
  unfold f_c0_init at hy
  obtain ⟨h1, e_h1, hy⟩ := gBd hy
  have l_h1 := nA_len e_h1
  obtain ⟨h2, e_h2, hy⟩ := gBd hy
  have l_h2 := sf_len e_h2
  obtain ⟨h3, e_h3, hy⟩ := gBd hy
  have l_h3 := nA_len e_h3
  obtain ⟨h4, e_h4, hy⟩ := gBd hy
  have l_h4 := sf_len e_h4
  obtain rfl := Option.some.inj hy
  omega
set_option maxHeartbeats 4000000 in
set_option maxRecDepth 100000 in
theorem ct_c0_init (l : Launch) (X : gX) (hx : gEx X = true) (N : Nat) (a0 : Nat) (h : gH) (h0 : gH) (hy : f_c0_init N a0 h = some h0) : gMv l X y_c0_init b_c0_init 1 (2 + N) 2 12 [.ref a0] h h0 := by
  unfold f_c0_init at hy
  refine gMet_init (lsx := [(0, .ref a0)]) (by decide) rfl rfl rfl ?_
  intro M hMl hnm K hret
  subst hMl
  refine g_aload_n K d_c0_init_0 0 rfl ?_
  refine g_objInit K d_c0_init_1 (gTk_1 162 rfl rfl) (gDep1 rfl) (Nat.le_of_ble_eq_true rfl) ?_
  refine g_aload_n K d_c0_init_4 0 rfl ?_
  refine g_bipush (v := 6) K d_c0_init_5 (by decide) ?_
  obtain ⟨h1, e_h1, hy⟩ := gBd hy
  refine g_newa (t := 0) (k := 6) (ty := .int) K hx d_c0_init_7 rfl rfl (fun _ h => h) (gTk_1 101 rfl rfl) (by decide) (by decide) rfl (Nat.le_of_ble_eq_true rfl) (Nat.le_of_ble_eq_true rfl) e_h1 rfl ?_
  obtain ⟨h2, e_h2, hy⟩ := gBd hy
  refine g_putF hnm K fq_c0_9 d_c0_init_9 e_h2 rfl rfl ?_
  refine g_aload_n K d_c0_init_12 0 rfl ?_
  refine g_bipush (v := 6) K d_c0_init_13 (by decide) ?_
  obtain ⟨h3, e_h3, hy⟩ := gBd hy
  refine g_newa (t := 0) (k := 6) (ty := .int) K hx d_c0_init_15 rfl rfl (fun _ h => h) (gTk_1 101 rfl rfl) (by decide) (by decide) rfl (Nat.le_of_ble_eq_true rfl) (Nat.le_of_ble_eq_true rfl) e_h3 rfl ?_
  obtain ⟨h4, e_h4, hy⟩ := gBd hy
  refine g_putF hnm K fq_c0_15 d_c0_init_17 e_h4 rfl rfl ?_
  obtain rfl := Option.some.inj hy
  exact hret _ _ _ d_c0_init_20

-- c11 init
theorem d_c11_init_0 : gD b_c11_init 0 (.aload_n 0) 1 1 := ⟨by decide +kernel, rfl⟩
theorem d_c11_init_1 : gD b_c11_init 1 (.invokespecial 3) 3 4 := ⟨by decide +kernel, rfl⟩
theorem d_c11_init_4 : gD b_c11_init 4 (.aload_n 0) 1 5 := ⟨by decide +kernel, rfl⟩
theorem d_c11_init_5 : gD b_c11_init 5 (.bipush 43) 2 7 := ⟨by decide +kernel, rfl⟩
theorem d_c11_init_7 : gD b_c11_init 7 (.newarray .int) 2 9 := ⟨by decide +kernel, rfl⟩
theorem d_c11_init_9 : gD b_c11_init 9 (.putfield 9) 3 12 := ⟨by decide +kernel, rfl⟩
theorem d_c11_init_12 : gD b_c11_init 12 (.aload_n 0) 1 13 := ⟨by decide +kernel, rfl⟩
theorem d_c11_init_13 : gD b_c11_init 13 (.iconst 3) 1 14 := ⟨by decide +kernel, rfl⟩
theorem d_c11_init_14 : gD b_c11_init 14 (.putfield 13) 3 17 := ⟨by decide +kernel, rfl⟩
theorem d_c11_init_17 : gD b_c11_init 17 (.aload_n 0) 1 18 := ⟨by decide +kernel, rfl⟩
theorem d_c11_init_18 : gD b_c11_init 18 (.iconst 3) 1 19 := ⟨by decide +kernel, rfl⟩
theorem d_c11_init_19 : gD b_c11_init 19 (.putfield 17) 3 22 := ⟨by decide +kernel, rfl⟩
theorem d_c11_init_22 : gD b_c11_init 22 (.aload_n 0) 1 23 := ⟨by decide +kernel, rfl⟩
theorem d_c11_init_23 : gD b_c11_init 23 (.bipush 6) 2 25 := ⟨by decide +kernel, rfl⟩
theorem d_c11_init_25 : gD b_c11_init 25 (.newarray .int) 2 27 := ⟨by decide +kernel, rfl⟩
theorem d_c11_init_27 : gD b_c11_init 27 (.putfield 20) 3 30 := ⟨by decide +kernel, rfl⟩
theorem d_c11_init_30 : gD b_c11_init 30 (.aload_n 0) 1 31 := ⟨by decide +kernel, rfl⟩
theorem d_c11_init_31 : gD b_c11_init 31 (.bipush 6) 2 33 := ⟨by decide +kernel, rfl⟩
theorem d_c11_init_33 : gD b_c11_init 33 (.newarray .int) 2 35 := ⟨by decide +kernel, rfl⟩
theorem d_c11_init_35 : gD b_c11_init 35 (.putfield 23) 3 38 := ⟨by decide +kernel, rfl⟩
theorem d_c11_init_38 : gD b_c11_init 38 (.aload_n 0) 1 39 := ⟨by decide +kernel, rfl⟩
theorem d_c11_init_39 : gD b_c11_init 39 (.bipush 80) 2 41 := ⟨by decide +kernel, rfl⟩
theorem d_c11_init_41 : gD b_c11_init 41 (.newarray .byte) 2 43 := ⟨by decide +kernel, rfl⟩
theorem d_c11_init_43 : gD b_c11_init 43 (.putfield 26) 3 46 := ⟨by decide +kernel, rfl⟩
theorem d_c11_init_46 : gD b_c11_init 46 (.aload_n 0) 1 47 := ⟨by decide +kernel, rfl⟩
theorem d_c11_init_47 : gD b_c11_init 47 (.bipush 16) 2 49 := ⟨by decide +kernel, rfl⟩
theorem d_c11_init_49 : gD b_c11_init 49 (.newarray .long) 2 51 := ⟨by decide +kernel, rfl⟩
theorem d_c11_init_51 : gD b_c11_init 51 (.putfield 30) 3 54 := ⟨by decide +kernel, rfl⟩
theorem d_c11_init_54 : gD b_c11_init 54 (.aload_n 0) 1 55 := ⟨by decide +kernel, rfl⟩
theorem d_c11_init_55 : gD b_c11_init 55 (.bipush 36) 2 57 := ⟨by decide +kernel, rfl⟩
theorem d_c11_init_57 : gD b_c11_init 57 (.newarray .int) 2 59 := ⟨by decide +kernel, rfl⟩
theorem d_c11_init_59 : gD b_c11_init 59 (.putfield 34) 3 62 := ⟨by decide +kernel, rfl⟩
theorem d_c11_init_62 : gD b_c11_init 62 (.aload_n 0) 1 63 := ⟨by decide +kernel, rfl⟩
theorem d_c11_init_63 : gD b_c11_init 63 (.bipush 40) 2 65 := ⟨by decide +kernel, rfl⟩
theorem d_c11_init_65 : gD b_c11_init 65 (.newarray .byte) 2 67 := ⟨by decide +kernel, rfl⟩
theorem d_c11_init_67 : gD b_c11_init 67 (.putfield 37) 3 70 := ⟨by decide +kernel, rfl⟩
theorem d_c11_init_70 : gD b_c11_init 70 (.aload_n 0) 1 71 := ⟨by decide +kernel, rfl⟩
theorem d_c11_init_71 : gD b_c11_init 71 (.bipush 40) 2 73 := ⟨by decide +kernel, rfl⟩
theorem d_c11_init_73 : gD b_c11_init 73 (.newarray .byte) 2 75 := ⟨by decide +kernel, rfl⟩
theorem d_c11_init_75 : gD b_c11_init 75 (.putfield 40) 3 78 := ⟨by decide +kernel, rfl⟩
theorem d_c11_init_78 : gD b_c11_init 78 (.aload_n 0) 1 79 := ⟨by decide +kernel, rfl⟩
theorem d_c11_init_79 : gD b_c11_init 79 (.bipush 7) 2 81 := ⟨by decide +kernel, rfl⟩
theorem d_c11_init_81 : gD b_c11_init 81 (.newarray .int) 2 83 := ⟨by decide +kernel, rfl⟩
theorem d_c11_init_83 : gD b_c11_init 83 (.putfield 43) 3 86 := ⟨by decide +kernel, rfl⟩
theorem d_c11_init_86 : gD b_c11_init 86 (.aload_n 0) 1 87 := ⟨by decide +kernel, rfl⟩
theorem d_c11_init_87 : gD b_c11_init 87 (.sipush 516) 3 90 := ⟨by decide +kernel, rfl⟩
theorem d_c11_init_90 : gD b_c11_init 90 (.newarray .int) 2 92 := ⟨by decide +kernel, rfl⟩
theorem d_c11_init_92 : gD b_c11_init 92 (.putfield 46) 3 95 := ⟨by decide +kernel, rfl⟩
theorem d_c11_init_95 : gD b_c11_init 95 (.aload_n 0) 1 96 := ⟨by decide +kernel, rfl⟩
theorem d_c11_init_96 : gD b_c11_init 96 (.bipush 43) 2 98 := ⟨by decide +kernel, rfl⟩
theorem d_c11_init_98 : gD b_c11_init 98 (.newarray .int) 2 100 := ⟨by decide +kernel, rfl⟩
theorem d_c11_init_100 : gD b_c11_init 100 (.putfield 49) 3 103 := ⟨by decide +kernel, rfl⟩
theorem d_c11_init_103 : gD b_c11_init 103 (.aload_n 0) 1 104 := ⟨by decide +kernel, rfl⟩
theorem d_c11_init_104 : gD b_c11_init 104 (.bipush 43) 2 106 := ⟨by decide +kernel, rfl⟩
theorem d_c11_init_106 : gD b_c11_init 106 (.newarray .int) 2 108 := ⟨by decide +kernel, rfl⟩
theorem d_c11_init_108 : gD b_c11_init 108 (.putfield 52) 3 111 := ⟨by decide +kernel, rfl⟩
theorem d_c11_init_111 : gD b_c11_init 111 (.aload_n 0) 1 112 := ⟨by decide +kernel, rfl⟩
theorem d_c11_init_112 : gD b_c11_init 112 (.bipush 8) 2 114 := ⟨by decide +kernel, rfl⟩
theorem d_c11_init_114 : gD b_c11_init 114 (.newarray .int) 2 116 := ⟨by decide +kernel, rfl⟩
theorem d_c11_init_116 : gD b_c11_init 116 (.putfield 55) 3 119 := ⟨by decide +kernel, rfl⟩
theorem d_c11_init_119 : gD b_c11_init 119 (.aload_n 0) 1 120 := ⟨by decide +kernel, rfl⟩
theorem d_c11_init_120 : gD b_c11_init 120 (.bipush 6) 2 122 := ⟨by decide +kernel, rfl⟩
theorem d_c11_init_122 : gD b_c11_init 122 (.newarray .int) 2 124 := ⟨by decide +kernel, rfl⟩
theorem d_c11_init_124 : gD b_c11_init 124 (.putfield 58) 3 127 := ⟨by decide +kernel, rfl⟩
theorem d_c11_init_127 : gD b_c11_init 127 (.aload_n 0) 1 128 := ⟨by decide +kernel, rfl⟩
theorem d_c11_init_128 : gD b_c11_init 128 (.bipush 6) 2 130 := ⟨by decide +kernel, rfl⟩
theorem d_c11_init_130 : gD b_c11_init 130 (.newarray .int) 2 132 := ⟨by decide +kernel, rfl⟩
theorem d_c11_init_132 : gD b_c11_init 132 (.putfield 61) 3 135 := ⟨by decide +kernel, rfl⟩
theorem d_c11_init_135 : gD b_c11_init 135 (.aload_n 0) 1 136 := ⟨by decide +kernel, rfl⟩
theorem d_c11_init_136 : gD b_c11_init 136 (.sipush 320) 3 139 := ⟨by decide +kernel, rfl⟩
theorem d_c11_init_139 : gD b_c11_init 139 (.newarray .int) 2 141 := ⟨by decide +kernel, rfl⟩
theorem d_c11_init_141 : gD b_c11_init 141 (.putfield 64) 3 144 := ⟨by decide +kernel, rfl⟩
theorem d_c11_init_144 : gD b_c11_init 144 (.aload_n 0) 1 145 := ⟨by decide +kernel, rfl⟩
theorem d_c11_init_145 : gD b_c11_init 145 (.sipush 2368) 3 148 := ⟨by decide +kernel, rfl⟩
theorem d_c11_init_148 : gD b_c11_init 148 (.newarray .int) 2 150 := ⟨by decide +kernel, rfl⟩
theorem d_c11_init_150 : gD b_c11_init 150 (.putfield 67) 3 153 := ⟨by decide +kernel, rfl⟩
theorem d_c11_init_153 : gD b_c11_init 153 (.aload_n 0) 1 154 := ⟨by decide +kernel, rfl⟩
theorem d_c11_init_154 : gD b_c11_init 154 (.bipush 8) 2 156 := ⟨by decide +kernel, rfl⟩
theorem d_c11_init_156 : gD b_c11_init 156 (.newarray .int) 2 158 := ⟨by decide +kernel, rfl⟩
theorem d_c11_init_158 : gD b_c11_init 158 (.putfield 70) 3 161 := ⟨by decide +kernel, rfl⟩
theorem d_c11_init_161 : gD b_c11_init 161 (.aload_n 0) 1 162 := ⟨by decide +kernel, rfl⟩
theorem d_c11_init_162 : gD b_c11_init 162 (.bipush 12) 2 164 := ⟨by decide +kernel, rfl⟩
theorem d_c11_init_164 : gD b_c11_init 164 (.newarray .int) 2 166 := ⟨by decide +kernel, rfl⟩
theorem d_c11_init_166 : gD b_c11_init 166 (.putfield 73) 3 169 := ⟨by decide +kernel, rfl⟩
theorem d_c11_init_169 : gD b_c11_init 169 (.aload_n 0) 1 170 := ⟨by decide +kernel, rfl⟩
theorem d_c11_init_170 : gD b_c11_init 170 (.bipush 12) 2 172 := ⟨by decide +kernel, rfl⟩
theorem d_c11_init_172 : gD b_c11_init 172 (.newarray .int) 2 174 := ⟨by decide +kernel, rfl⟩
theorem d_c11_init_174 : gD b_c11_init 174 (.putfield 76) 3 177 := ⟨by decide +kernel, rfl⟩
theorem d_c11_init_177 : gD b_c11_init 177 (.aload_n 0) 1 178 := ⟨by decide +kernel, rfl⟩
theorem d_c11_init_178 : gD b_c11_init 178 (.bipush 6) 2 180 := ⟨by decide +kernel, rfl⟩
theorem d_c11_init_180 : gD b_c11_init 180 (.newarray .int) 2 182 := ⟨by decide +kernel, rfl⟩
theorem d_c11_init_182 : gD b_c11_init 182 (.putfield 79) 3 185 := ⟨by decide +kernel, rfl⟩
theorem d_c11_init_185 : gD b_c11_init 185 (.aload_n 0) 1 186 := ⟨by decide +kernel, rfl⟩
theorem d_c11_init_186 : gD b_c11_init 186 (.bipush 61) 2 188 := ⟨by decide +kernel, rfl⟩
theorem d_c11_init_188 : gD b_c11_init 188 (.newarray .boolean) 2 190 := ⟨by decide +kernel, rfl⟩
theorem d_c11_init_190 : gD b_c11_init 190 (.putfield 82) 3 193 := ⟨by decide +kernel, rfl⟩
theorem d_c11_init_193 : gD b_c11_init 193 (.aload_n 0) 1 194 := ⟨by decide +kernel, rfl⟩
theorem d_c11_init_194 : gD b_c11_init 194 (.bipush 86) 2 196 := ⟨by decide +kernel, rfl⟩
theorem d_c11_init_196 : gD b_c11_init 196 (.newarray .int) 2 198 := ⟨by decide +kernel, rfl⟩
theorem d_c11_init_198 : gD b_c11_init 198 (.putfield 86) 3 201 := ⟨by decide +kernel, rfl⟩
theorem d_c11_init_201 : gD b_c11_init 201 (.aload_n 0) 1 202 := ⟨by decide +kernel, rfl⟩
theorem d_c11_init_202 : gD b_c11_init 202 (.iconst 2) 1 203 := ⟨by decide +kernel, rfl⟩
theorem d_c11_init_203 : gD b_c11_init 203 (.newarray .boolean) 2 205 := ⟨by decide +kernel, rfl⟩
theorem d_c11_init_205 : gD b_c11_init 205 (.putfield 89) 3 208 := ⟨by decide +kernel, rfl⟩
theorem d_c11_init_208 : gD b_c11_init 208 (.aload_n 0) 1 209 := ⟨by decide +kernel, rfl⟩
theorem d_c11_init_209 : gD b_c11_init 209 (.iconst 2) 1 210 := ⟨by decide +kernel, rfl⟩
theorem d_c11_init_210 : gD b_c11_init 210 (.newarray .int) 2 212 := ⟨by decide +kernel, rfl⟩
theorem d_c11_init_212 : gD b_c11_init 212 (.putfield 92) 3 215 := ⟨by decide +kernel, rfl⟩
theorem d_c11_init_215 : gD b_c11_init 215 .return_ 1 216 := ⟨by decide +kernel, rfl⟩
def f_c11_init (N : Nat) (a0 : Nat) (h : gH) : Option gH :=
  (nA 0 43 h).bind fun h1 =>
  (sf h1 a0 11 0 (.ref h.length)).bind fun h2 =>
  (sf h2 a0 11 1 (.int (3 : Int32))).bind fun h3 =>
  (sf h3 a0 11 2 (.int (3 : Int32))).bind fun h4 =>
  (nA 0 6 h4).bind fun h5 =>
  (sf h5 a0 11 4 (.ref h4.length)).bind fun h6 =>
  (nA 0 6 h6).bind fun h7 =>
  (sf h7 a0 11 5 (.ref h6.length)).bind fun h8 =>
  (nA 1 80 h8).bind fun h9 =>
  (sf h9 a0 11 6 (.ref h8.length)).bind fun h10 =>
  (nA 4 16 h10).bind fun h11 =>
  (sf h11 a0 11 8 (.ref h10.length)).bind fun h12 =>
  (nA 0 36 h12).bind fun h13 =>
  (sf h13 a0 11 16 (.ref h12.length)).bind fun h14 =>
  (nA 1 40 h14).bind fun h15 =>
  (sf h15 a0 11 17 (.ref h14.length)).bind fun h16 =>
  (nA 1 40 h16).bind fun h17 =>
  (sf h17 a0 11 18 (.ref h16.length)).bind fun h18 =>
  (nA 0 7 h18).bind fun h19 =>
  (sf h19 a0 11 21 (.ref h18.length)).bind fun h20 =>
  (nA 0 516 h20).bind fun h21 =>
  (sf h21 a0 11 22 (.ref h20.length)).bind fun h22 =>
  (nA 0 43 h22).bind fun h23 =>
  (sf h23 a0 11 24 (.ref h22.length)).bind fun h24 =>
  (nA 0 43 h24).bind fun h25 =>
  (sf h25 a0 11 25 (.ref h24.length)).bind fun h26 =>
  (nA 0 8 h26).bind fun h27 =>
  (sf h27 a0 11 26 (.ref h26.length)).bind fun h28 =>
  (nA 0 6 h28).bind fun h29 =>
  (sf h29 a0 11 27 (.ref h28.length)).bind fun h30 =>
  (nA 0 6 h30).bind fun h31 =>
  (sf h31 a0 11 28 (.ref h30.length)).bind fun h32 =>
  (nA 0 320 h32).bind fun h33 =>
  (sf h33 a0 11 29 (.ref h32.length)).bind fun h34 =>
  (nA 0 2368 h34).bind fun h35 =>
  (sf h35 a0 11 30 (.ref h34.length)).bind fun h36 =>
  (nA 0 8 h36).bind fun h37 =>
  (sf h37 a0 11 31 (.ref h36.length)).bind fun h38 =>
  (nA 0 12 h38).bind fun h39 =>
  (sf h39 a0 11 32 (.ref h38.length)).bind fun h40 =>
  (nA 0 12 h40).bind fun h41 =>
  (sf h41 a0 11 33 (.ref h40.length)).bind fun h42 =>
  (nA 0 6 h42).bind fun h43 =>
  (sf h43 a0 11 35 (.ref h42.length)).bind fun h44 =>
  (nA 2 61 h44).bind fun h45 =>
  (sf h45 a0 11 36 (.ref h44.length)).bind fun h46 =>
  (nA 0 86 h46).bind fun h47 =>
  (sf h47 a0 11 39 (.ref h46.length)).bind fun h48 =>
  (nA 2 2 h48).bind fun h49 =>
  (sf h49 a0 11 40 (.ref h48.length)).bind fun h50 =>
  (nA 0 2 h50).bind fun h51 =>
  (sf h51 a0 11 41 (.ref h50.length)).bind fun h52 =>
  some h52
theorem len_c11_init {N a0 : Nat} {h h0 : gH} (hy : f_c11_init N a0 h = some h0) : h0.length = h.length + 25 := by
  unfold f_c11_init at hy
  obtain ⟨h1, e_h1, hy⟩ := gBd hy
  have l_h1 := nA_len e_h1
  obtain ⟨h2, e_h2, hy⟩ := gBd hy
  have l_h2 := sf_len e_h2
  obtain ⟨h3, e_h3, hy⟩ := gBd hy
  have l_h3 := sf_len e_h3
  obtain ⟨h4, e_h4, hy⟩ := gBd hy
  have l_h4 := sf_len e_h4
  obtain ⟨h5, e_h5, hy⟩ := gBd hy
  have l_h5 := nA_len e_h5
  obtain ⟨h6, e_h6, hy⟩ := gBd hy
  have l_h6 := sf_len e_h6
  obtain ⟨h7, e_h7, hy⟩ := gBd hy
  have l_h7 := nA_len e_h7
  obtain ⟨h8, e_h8, hy⟩ := gBd hy
  have l_h8 := sf_len e_h8
  obtain ⟨h9, e_h9, hy⟩ := gBd hy
  have l_h9 := nA_len e_h9
  obtain ⟨h10, e_h10, hy⟩ := gBd hy
  have l_h10 := sf_len e_h10
  obtain ⟨h11, e_h11, hy⟩ := gBd hy
  have l_h11 := nA_len e_h11
  obtain ⟨h12, e_h12, hy⟩ := gBd hy
  have l_h12 := sf_len e_h12
  obtain ⟨h13, e_h13, hy⟩ := gBd hy
  have l_h13 := nA_len e_h13
  obtain ⟨h14, e_h14, hy⟩ := gBd hy
  have l_h14 := sf_len e_h14
  obtain ⟨h15, e_h15, hy⟩ := gBd hy
  have l_h15 := nA_len e_h15
  obtain ⟨h16, e_h16, hy⟩ := gBd hy
  have l_h16 := sf_len e_h16
  obtain ⟨h17, e_h17, hy⟩ := gBd hy
  have l_h17 := nA_len e_h17
  obtain ⟨h18, e_h18, hy⟩ := gBd hy
  have l_h18 := sf_len e_h18
  obtain ⟨h19, e_h19, hy⟩ := gBd hy
  have l_h19 := nA_len e_h19
  obtain ⟨h20, e_h20, hy⟩ := gBd hy
  have l_h20 := sf_len e_h20
  obtain ⟨h21, e_h21, hy⟩ := gBd hy
  have l_h21 := nA_len e_h21
  obtain ⟨h22, e_h22, hy⟩ := gBd hy
  have l_h22 := sf_len e_h22
  obtain ⟨h23, e_h23, hy⟩ := gBd hy
  have l_h23 := nA_len e_h23
  obtain ⟨h24, e_h24, hy⟩ := gBd hy
  have l_h24 := sf_len e_h24
  obtain ⟨h25, e_h25, hy⟩ := gBd hy
  have l_h25 := nA_len e_h25
  obtain ⟨h26, e_h26, hy⟩ := gBd hy
  have l_h26 := sf_len e_h26
  obtain ⟨h27, e_h27, hy⟩ := gBd hy
  have l_h27 := nA_len e_h27
  obtain ⟨h28, e_h28, hy⟩ := gBd hy
  have l_h28 := sf_len e_h28
  obtain ⟨h29, e_h29, hy⟩ := gBd hy
  have l_h29 := nA_len e_h29
  obtain ⟨h30, e_h30, hy⟩ := gBd hy
  have l_h30 := sf_len e_h30
  obtain ⟨h31, e_h31, hy⟩ := gBd hy
  have l_h31 := nA_len e_h31
  obtain ⟨h32, e_h32, hy⟩ := gBd hy
  have l_h32 := sf_len e_h32
  obtain ⟨h33, e_h33, hy⟩ := gBd hy
  have l_h33 := nA_len e_h33
  obtain ⟨h34, e_h34, hy⟩ := gBd hy
  have l_h34 := sf_len e_h34
  obtain ⟨h35, e_h35, hy⟩ := gBd hy
  have l_h35 := nA_len e_h35
  obtain ⟨h36, e_h36, hy⟩ := gBd hy
  have l_h36 := sf_len e_h36
  obtain ⟨h37, e_h37, hy⟩ := gBd hy
  have l_h37 := nA_len e_h37
  obtain ⟨h38, e_h38, hy⟩ := gBd hy
  have l_h38 := sf_len e_h38
  obtain ⟨h39, e_h39, hy⟩ := gBd hy
  have l_h39 := nA_len e_h39
  obtain ⟨h40, e_h40, hy⟩ := gBd hy
  have l_h40 := sf_len e_h40
  obtain ⟨h41, e_h41, hy⟩ := gBd hy
  have l_h41 := nA_len e_h41
  obtain ⟨h42, e_h42, hy⟩ := gBd hy
  have l_h42 := sf_len e_h42
  obtain ⟨h43, e_h43, hy⟩ := gBd hy
  have l_h43 := nA_len e_h43
  obtain ⟨h44, e_h44, hy⟩ := gBd hy
  have l_h44 := sf_len e_h44
  obtain ⟨h45, e_h45, hy⟩ := gBd hy
  have l_h45 := nA_len e_h45
  obtain ⟨h46, e_h46, hy⟩ := gBd hy
  have l_h46 := sf_len e_h46
  obtain ⟨h47, e_h47, hy⟩ := gBd hy
  have l_h47 := nA_len e_h47
  obtain ⟨h48, e_h48, hy⟩ := gBd hy
  have l_h48 := sf_len e_h48
  obtain ⟨h49, e_h49, hy⟩ := gBd hy
  have l_h49 := nA_len e_h49
  obtain ⟨h50, e_h50, hy⟩ := gBd hy
  have l_h50 := sf_len e_h50
  obtain ⟨h51, e_h51, hy⟩ := gBd hy
  have l_h51 := nA_len e_h51
  obtain ⟨h52, e_h52, hy⟩ := gBd hy
  have l_h52 := sf_len e_h52
  obtain rfl := Option.some.inj hy
  omega
set_option maxHeartbeats 4000000 in
set_option maxRecDepth 100000 in
theorem ct_c11_init (l : Launch) (X : gX) (hx : gEx X = true) (N : Nat) (a0 : Nat) (h : gH) (h0 : gH) (hy : f_c11_init N a0 h = some h0) : gMv l X y_c11_init b_c11_init 1 (2 + N) 25 3773 [.ref a0] h h0 := by
  unfold f_c11_init at hy
  refine gMet_init (lsx := [(0, .ref a0)]) (by decide) rfl rfl rfl ?_
  intro M hMl hnm K hret
  subst hMl
  refine g_aload_n K d_c11_init_0 0 rfl ?_
  refine g_objInit K d_c11_init_1 (gTk_5 114 rfl rfl) (gDep1 rfl) (Nat.le_of_ble_eq_true rfl) ?_
  refine g_aload_n K d_c11_init_4 0 rfl ?_
  refine g_bipush (v := 43) K d_c11_init_5 (by decide) ?_
  obtain ⟨h1, e_h1, hy⟩ := gBd hy
  refine g_newa (t := 0) (k := 43) (ty := .int) K hx d_c11_init_7 rfl rfl (fun _ h => h) (gTk_1 101 rfl rfl) (by decide) (by decide) rfl (Nat.le_of_ble_eq_true rfl) (Nat.le_of_ble_eq_true rfl) e_h1 rfl ?_
  obtain ⟨h2, e_h2, hy⟩ := gBd hy
  refine g_putF hnm K fq_c11_9 d_c11_init_9 e_h2 rfl rfl ?_
  refine g_aload_n K d_c11_init_12 0 rfl ?_
  refine g_iconst (v := 3) K d_c11_init_13 (by decide) ?_
  obtain ⟨h3, e_h3, hy⟩ := gBd hy
  refine g_putI K fp_c11_13 d_c11_init_14 e_h3 ?_
  refine g_aload_n K d_c11_init_17 0 rfl ?_
  refine g_iconst (v := 3) K d_c11_init_18 (by decide) ?_
  obtain ⟨h4, e_h4, hy⟩ := gBd hy
  refine g_putI K fp_c11_17 d_c11_init_19 e_h4 ?_
  refine g_aload_n K d_c11_init_22 0 rfl ?_
  refine g_bipush (v := 6) K d_c11_init_23 (by decide) ?_
  obtain ⟨h5, e_h5, hy⟩ := gBd hy
  refine g_newa (t := 0) (k := 6) (ty := .int) K hx d_c11_init_25 rfl rfl (fun _ h => h) (gTk_1 101 rfl rfl) (by decide) (by decide) rfl (Nat.le_of_ble_eq_true rfl) (Nat.le_of_ble_eq_true rfl) e_h5 rfl ?_
  obtain ⟨h6, e_h6, hy⟩ := gBd hy
  refine g_putF hnm K fq_c11_20 d_c11_init_27 e_h6 rfl rfl ?_
  refine g_aload_n K d_c11_init_30 0 rfl ?_
  refine g_bipush (v := 6) K d_c11_init_31 (by decide) ?_
  obtain ⟨h7, e_h7, hy⟩ := gBd hy
  refine g_newa (t := 0) (k := 6) (ty := .int) K hx d_c11_init_33 rfl rfl (fun _ h => h) (gTk_1 101 rfl rfl) (by decide) (by decide) rfl (Nat.le_of_ble_eq_true rfl) (Nat.le_of_ble_eq_true rfl) e_h7 rfl ?_
  obtain ⟨h8, e_h8, hy⟩ := gBd hy
  refine g_putF hnm K fq_c11_23 d_c11_init_35 e_h8 rfl rfl ?_
  refine g_aload_n K d_c11_init_38 0 rfl ?_
  refine g_bipush (v := 80) K d_c11_init_39 (by decide) ?_
  obtain ⟨h9, e_h9, hy⟩ := gBd hy
  refine g_newa (t := 1) (k := 80) (ty := .byte) K hx d_c11_init_41 rfl rfl (fun _ h => h) (gTk_3 204 rfl rfl) (by decide) (by decide) rfl (Nat.le_of_ble_eq_true rfl) (Nat.le_of_ble_eq_true rfl) e_h9 rfl ?_
  obtain ⟨h10, e_h10, hy⟩ := gBd hy
  refine g_putF hnm K fq_c11_26 d_c11_init_43 e_h10 rfl rfl ?_
  refine g_aload_n K d_c11_init_46 0 rfl ?_
  refine g_bipush (v := 16) K d_c11_init_47 (by decide) ?_
  obtain ⟨h11, e_h11, hy⟩ := gBd hy
  refine g_newa (t := 4) (k := 16) (ty := .long) K hx d_c11_init_49 rfl rfl (fun _ h => h) (gTk_1 64 rfl rfl) (by decide) (by decide) rfl (Nat.le_of_ble_eq_true rfl) (Nat.le_of_ble_eq_true rfl) e_h11 rfl ?_
  obtain ⟨h12, e_h12, hy⟩ := gBd hy
  refine g_putF hnm K fq_c11_30 d_c11_init_51 e_h12 rfl rfl ?_
  refine g_aload_n K d_c11_init_54 0 rfl ?_
  refine g_bipush (v := 36) K d_c11_init_55 (by decide) ?_
  obtain ⟨h13, e_h13, hy⟩ := gBd hy
  refine g_newa (t := 0) (k := 36) (ty := .int) K hx d_c11_init_57 rfl rfl (fun _ h => h) (gTk_1 101 rfl rfl) (by decide) (by decide) rfl (Nat.le_of_ble_eq_true rfl) (Nat.le_of_ble_eq_true rfl) e_h13 rfl ?_
  obtain ⟨h14, e_h14, hy⟩ := gBd hy
  refine g_putF hnm K fq_c11_34 d_c11_init_59 e_h14 rfl rfl ?_
  refine g_aload_n K d_c11_init_62 0 rfl ?_
  refine g_bipush (v := 40) K d_c11_init_63 (by decide) ?_
  obtain ⟨h15, e_h15, hy⟩ := gBd hy
  refine g_newa (t := 1) (k := 40) (ty := .byte) K hx d_c11_init_65 rfl rfl (fun _ h => h) (gTk_3 204 rfl rfl) (by decide) (by decide) rfl (Nat.le_of_ble_eq_true rfl) (Nat.le_of_ble_eq_true rfl) e_h15 rfl ?_
  obtain ⟨h16, e_h16, hy⟩ := gBd hy
  refine g_putR K fp_c11_37 d_c11_init_67 (fun _ => rfl) (fun _ => rfl) e_h16 ?_
  refine g_aload_n K d_c11_init_70 0 rfl ?_
  refine g_bipush (v := 40) K d_c11_init_71 (by decide) ?_
  obtain ⟨h17, e_h17, hy⟩ := gBd hy
  refine g_newa (t := 1) (k := 40) (ty := .byte) K hx d_c11_init_73 rfl rfl (fun _ h => h) (gTk_3 204 rfl rfl) (by decide) (by decide) rfl (Nat.le_of_ble_eq_true rfl) (Nat.le_of_ble_eq_true rfl) e_h17 rfl ?_
  obtain ⟨h18, e_h18, hy⟩ := gBd hy
  refine g_putR K fp_c11_40 d_c11_init_75 (fun _ => rfl) (fun _ => rfl) e_h18 ?_
  refine g_aload_n K d_c11_init_78 0 rfl ?_
  refine g_bipush (v := 7) K d_c11_init_79 (by decide) ?_
  obtain ⟨h19, e_h19, hy⟩ := gBd hy
  refine g_newa (t := 0) (k := 7) (ty := .int) K hx d_c11_init_81 rfl rfl (fun _ h => h) (gTk_1 101 rfl rfl) (by decide) (by decide) rfl (Nat.le_of_ble_eq_true rfl) (Nat.le_of_ble_eq_true rfl) e_h19 rfl ?_
  obtain ⟨h20, e_h20, hy⟩ := gBd hy
  refine g_putF hnm K fq_c11_43 d_c11_init_83 e_h20 rfl rfl ?_
  refine g_aload_n K d_c11_init_86 0 rfl ?_
  refine g_sipush (v := 516) K d_c11_init_87 (by decide) ?_
  obtain ⟨h21, e_h21, hy⟩ := gBd hy
  refine g_newa (t := 0) (k := 516) (ty := .int) K hx d_c11_init_90 rfl rfl (fun _ h => h) (gTk_1 101 rfl rfl) (by decide) (by decide) rfl (Nat.le_of_ble_eq_true rfl) (Nat.le_of_ble_eq_true rfl) e_h21 rfl ?_
  obtain ⟨h22, e_h22, hy⟩ := gBd hy
  refine g_putF hnm K fq_c11_46 d_c11_init_92 e_h22 rfl rfl ?_
  refine g_aload_n K d_c11_init_95 0 rfl ?_
  refine g_bipush (v := 43) K d_c11_init_96 (by decide) ?_
  obtain ⟨h23, e_h23, hy⟩ := gBd hy
  refine g_newa (t := 0) (k := 43) (ty := .int) K hx d_c11_init_98 rfl rfl (fun _ h => h) (gTk_1 101 rfl rfl) (by decide) (by decide) rfl (Nat.le_of_ble_eq_true rfl) (Nat.le_of_ble_eq_true rfl) e_h23 rfl ?_
  obtain ⟨h24, e_h24, hy⟩ := gBd hy
  refine g_putF hnm K fq_c11_49 d_c11_init_100 e_h24 rfl rfl ?_
  refine g_aload_n K d_c11_init_103 0 rfl ?_
  refine g_bipush (v := 43) K d_c11_init_104 (by decide) ?_
  obtain ⟨h25, e_h25, hy⟩ := gBd hy
  refine g_newa (t := 0) (k := 43) (ty := .int) K hx d_c11_init_106 rfl rfl (fun _ h => h) (gTk_1 101 rfl rfl) (by decide) (by decide) rfl (Nat.le_of_ble_eq_true rfl) (Nat.le_of_ble_eq_true rfl) e_h25 rfl ?_
  obtain ⟨h26, e_h26, hy⟩ := gBd hy
  refine g_putF hnm K fq_c11_52 d_c11_init_108 e_h26 rfl rfl ?_
  refine g_aload_n K d_c11_init_111 0 rfl ?_
  refine g_bipush (v := 8) K d_c11_init_112 (by decide) ?_
  obtain ⟨h27, e_h27, hy⟩ := gBd hy
  refine g_newa (t := 0) (k := 8) (ty := .int) K hx d_c11_init_114 rfl rfl (fun _ h => h) (gTk_1 101 rfl rfl) (by decide) (by decide) rfl (Nat.le_of_ble_eq_true rfl) (Nat.le_of_ble_eq_true rfl) e_h27 rfl ?_
  obtain ⟨h28, e_h28, hy⟩ := gBd hy
  refine g_putF hnm K fq_c11_55 d_c11_init_116 e_h28 rfl rfl ?_
  refine g_aload_n K d_c11_init_119 0 rfl ?_
  refine g_bipush (v := 6) K d_c11_init_120 (by decide) ?_
  obtain ⟨h29, e_h29, hy⟩ := gBd hy
  refine g_newa (t := 0) (k := 6) (ty := .int) K hx d_c11_init_122 rfl rfl (fun _ h => h) (gTk_1 101 rfl rfl) (by decide) (by decide) rfl (Nat.le_of_ble_eq_true rfl) (Nat.le_of_ble_eq_true rfl) e_h29 rfl ?_
  obtain ⟨h30, e_h30, hy⟩ := gBd hy
  refine g_putF hnm K fq_c11_58 d_c11_init_124 e_h30 rfl rfl ?_
  refine g_aload_n K d_c11_init_127 0 rfl ?_
  refine g_bipush (v := 6) K d_c11_init_128 (by decide) ?_
  obtain ⟨h31, e_h31, hy⟩ := gBd hy
  refine g_newa (t := 0) (k := 6) (ty := .int) K hx d_c11_init_130 rfl rfl (fun _ h => h) (gTk_1 101 rfl rfl) (by decide) (by decide) rfl (Nat.le_of_ble_eq_true rfl) (Nat.le_of_ble_eq_true rfl) e_h31 rfl ?_
  obtain ⟨h32, e_h32, hy⟩ := gBd hy
  refine g_putF hnm K fq_c11_61 d_c11_init_132 e_h32 rfl rfl ?_
  refine g_aload_n K d_c11_init_135 0 rfl ?_
  refine g_sipush (v := 320) K d_c11_init_136 (by decide) ?_
  obtain ⟨h33, e_h33, hy⟩ := gBd hy
  refine g_newa (t := 0) (k := 320) (ty := .int) K hx d_c11_init_139 rfl rfl (fun _ h => h) (gTk_1 101 rfl rfl) (by decide) (by decide) rfl (Nat.le_of_ble_eq_true rfl) (Nat.le_of_ble_eq_true rfl) e_h33 rfl ?_
  obtain ⟨h34, e_h34, hy⟩ := gBd hy
  refine g_putF hnm K fq_c11_64 d_c11_init_141 e_h34 rfl rfl ?_
  refine g_aload_n K d_c11_init_144 0 rfl ?_
  refine g_sipush (v := 2368) K d_c11_init_145 (by decide) ?_
  obtain ⟨h35, e_h35, hy⟩ := gBd hy
  refine g_newa (t := 0) (k := 2368) (ty := .int) K hx d_c11_init_148 rfl rfl (fun _ h => h) (gTk_1 101 rfl rfl) (by decide) (by decide) rfl (Nat.le_of_ble_eq_true rfl) (Nat.le_of_ble_eq_true rfl) e_h35 rfl ?_
  obtain ⟨h36, e_h36, hy⟩ := gBd hy
  refine g_putF hnm K fq_c11_67 d_c11_init_150 e_h36 rfl rfl ?_
  refine g_aload_n K d_c11_init_153 0 rfl ?_
  refine g_bipush (v := 8) K d_c11_init_154 (by decide) ?_
  obtain ⟨h37, e_h37, hy⟩ := gBd hy
  refine g_newa (t := 0) (k := 8) (ty := .int) K hx d_c11_init_156 rfl rfl (fun _ h => h) (gTk_1 101 rfl rfl) (by decide) (by decide) rfl (Nat.le_of_ble_eq_true rfl) (Nat.le_of_ble_eq_true rfl) e_h37 rfl ?_
  obtain ⟨h38, e_h38, hy⟩ := gBd hy
  refine g_putF hnm K fq_c11_70 d_c11_init_158 e_h38 rfl rfl ?_
  refine g_aload_n K d_c11_init_161 0 rfl ?_
  refine g_bipush (v := 12) K d_c11_init_162 (by decide) ?_
  obtain ⟨h39, e_h39, hy⟩ := gBd hy
  refine g_newa (t := 0) (k := 12) (ty := .int) K hx d_c11_init_164 rfl rfl (fun _ h => h) (gTk_1 101 rfl rfl) (by decide) (by decide) rfl (Nat.le_of_ble_eq_true rfl) (Nat.le_of_ble_eq_true rfl) e_h39 rfl ?_
  obtain ⟨h40, e_h40, hy⟩ := gBd hy
  refine g_putF hnm K fq_c11_73 d_c11_init_166 e_h40 rfl rfl ?_
  refine g_aload_n K d_c11_init_169 0 rfl ?_
  refine g_bipush (v := 12) K d_c11_init_170 (by decide) ?_
  obtain ⟨h41, e_h41, hy⟩ := gBd hy
  refine g_newa (t := 0) (k := 12) (ty := .int) K hx d_c11_init_172 rfl rfl (fun _ h => h) (gTk_1 101 rfl rfl) (by decide) (by decide) rfl (Nat.le_of_ble_eq_true rfl) (Nat.le_of_ble_eq_true rfl) e_h41 rfl ?_
  obtain ⟨h42, e_h42, hy⟩ := gBd hy
  refine g_putF hnm K fq_c11_76 d_c11_init_174 e_h42 rfl rfl ?_
  refine g_aload_n K d_c11_init_177 0 rfl ?_
  refine g_bipush (v := 6) K d_c11_init_178 (by decide) ?_
  obtain ⟨h43, e_h43, hy⟩ := gBd hy
  refine g_newa (t := 0) (k := 6) (ty := .int) K hx d_c11_init_180 rfl rfl (fun _ h => h) (gTk_1 101 rfl rfl) (by decide) (by decide) rfl (Nat.le_of_ble_eq_true rfl) (Nat.le_of_ble_eq_true rfl) e_h43 rfl ?_
  obtain ⟨h44, e_h44, hy⟩ := gBd hy
  refine g_putF hnm K fq_c11_79 d_c11_init_182 e_h44 rfl rfl ?_
  refine g_aload_n K d_c11_init_185 0 rfl ?_
  refine g_bipush (v := 61) K d_c11_init_186 (by decide) ?_
  obtain ⟨h45, e_h45, hy⟩ := gBd hy
  refine g_newa (t := 2) (k := 61) (ty := .boolean) K hx d_c11_init_188 rfl rfl (fun _ h => h) (gTk_1 195 rfl rfl) (by decide) (by decide) rfl (Nat.le_of_ble_eq_true rfl) (Nat.le_of_ble_eq_true rfl) e_h45 rfl ?_
  obtain ⟨h46, e_h46, hy⟩ := gBd hy
  refine g_putF hnm K fq_c11_82 d_c11_init_190 e_h46 rfl rfl ?_
  refine g_aload_n K d_c11_init_193 0 rfl ?_
  refine g_bipush (v := 86) K d_c11_init_194 (by decide) ?_
  obtain ⟨h47, e_h47, hy⟩ := gBd hy
  refine g_newa (t := 0) (k := 86) (ty := .int) K hx d_c11_init_196 rfl rfl (fun _ h => h) (gTk_1 101 rfl rfl) (by decide) (by decide) rfl (Nat.le_of_ble_eq_true rfl) (Nat.le_of_ble_eq_true rfl) e_h47 rfl ?_
  obtain ⟨h48, e_h48, hy⟩ := gBd hy
  refine g_putF hnm K fq_c11_86 d_c11_init_198 e_h48 rfl rfl ?_
  refine g_aload_n K d_c11_init_201 0 rfl ?_
  refine g_iconst (v := 2) K d_c11_init_202 (by decide) ?_
  obtain ⟨h49, e_h49, hy⟩ := gBd hy
  refine g_newa (t := 2) (k := 2) (ty := .boolean) K hx d_c11_init_203 rfl rfl (fun _ h => h) (gTk_1 195 rfl rfl) (by decide) (by decide) rfl (Nat.le_of_ble_eq_true rfl) (Nat.le_of_ble_eq_true rfl) e_h49 rfl ?_
  obtain ⟨h50, e_h50, hy⟩ := gBd hy
  refine g_putF hnm K fq_c11_89 d_c11_init_205 e_h50 rfl rfl ?_
  refine g_aload_n K d_c11_init_208 0 rfl ?_
  refine g_iconst (v := 2) K d_c11_init_209 (by decide) ?_
  obtain ⟨h51, e_h51, hy⟩ := gBd hy
  refine g_newa (t := 0) (k := 2) (ty := .int) K hx d_c11_init_210 rfl rfl (fun _ h => h) (gTk_1 101 rfl rfl) (by decide) (by decide) rfl (Nat.le_of_ble_eq_true rfl) (Nat.le_of_ble_eq_true rfl) e_h51 rfl ?_
  obtain ⟨h52, e_h52, hy⟩ := gBd hy
  refine g_putF hnm K fq_c11_92 d_c11_init_212 e_h52 rfl rfl ?_
  obtain rfl := Option.some.inj hy
  exact hret _ _ _ d_c11_init_215

-- c1 init
theorem d_c1_init_0 : gD b_c1_init 0 (.aload_n 0) 1 1 := ⟨by decide +kernel, rfl⟩
theorem d_c1_init_1 : gD b_c1_init 1 (.invokespecial 3) 3 4 := ⟨by decide +kernel, rfl⟩
theorem d_c1_init_4 : gD b_c1_init 4 (.aload_n 0) 1 5 := ⟨by decide +kernel, rfl⟩
theorem d_c1_init_5 : gD b_c1_init 5 (.iconst 3) 1 6 := ⟨by decide +kernel, rfl⟩
theorem d_c1_init_6 : gD b_c1_init 6 (.putfield 9) 3 9 := ⟨by decide +kernel, rfl⟩
theorem d_c1_init_9 : gD b_c1_init 9 (.aload_n 0) 1 10 := ⟨by decide +kernel, rfl⟩
theorem d_c1_init_10 : gD b_c1_init 10 (.iconst 3) 1 11 := ⟨by decide +kernel, rfl⟩
theorem d_c1_init_11 : gD b_c1_init 11 (.putfield 15) 3 14 := ⟨by decide +kernel, rfl⟩
theorem d_c1_init_14 : gD b_c1_init 14 (.aload_n 0) 1 15 := ⟨by decide +kernel, rfl⟩
theorem d_c1_init_15 : gD b_c1_init 15 (.bipush 6) 2 17 := ⟨by decide +kernel, rfl⟩
theorem d_c1_init_17 : gD b_c1_init 17 (.newarray .int) 2 19 := ⟨by decide +kernel, rfl⟩
theorem d_c1_init_19 : gD b_c1_init 19 (.putfield 18) 3 22 := ⟨by decide +kernel, rfl⟩
theorem d_c1_init_22 : gD b_c1_init 22 (.aload_n 0) 1 23 := ⟨by decide +kernel, rfl⟩
theorem d_c1_init_23 : gD b_c1_init 23 (.bipush 6) 2 25 := ⟨by decide +kernel, rfl⟩
theorem d_c1_init_25 : gD b_c1_init 25 (.newarray .int) 2 27 := ⟨by decide +kernel, rfl⟩
theorem d_c1_init_27 : gD b_c1_init 27 (.putfield 22) 3 30 := ⟨by decide +kernel, rfl⟩
theorem d_c1_init_30 : gD b_c1_init 30 (.aload_n 0) 1 31 := ⟨by decide +kernel, rfl⟩
theorem d_c1_init_31 : gD b_c1_init 31 (.bipush 36) 2 33 := ⟨by decide +kernel, rfl⟩
theorem d_c1_init_33 : gD b_c1_init 33 (.newarray .int) 2 35 := ⟨by decide +kernel, rfl⟩
theorem d_c1_init_35 : gD b_c1_init 35 (.putfield 25) 3 38 := ⟨by decide +kernel, rfl⟩
theorem d_c1_init_38 : gD b_c1_init 38 .return_ 1 39 := ⟨by decide +kernel, rfl⟩
def f_c1_init (N : Nat) (a0 : Nat) (h : gH) : Option gH :=
  (sf h a0 1 0 (.int (3 : Int32))).bind fun h1 =>
  (sf h1 a0 1 1 (.int (3 : Int32))).bind fun h2 =>
  (nA 0 6 h2).bind fun h3 =>
  (sf h3 a0 1 3 (.ref h2.length)).bind fun h4 =>
  (nA 0 6 h4).bind fun h5 =>
  (sf h5 a0 1 4 (.ref h4.length)).bind fun h6 =>
  (nA 0 36 h6).bind fun h7 =>
  (sf h7 a0 1 5 (.ref h6.length)).bind fun h8 =>
  some h8
theorem len_c1_init {N a0 : Nat} {h h0 : gH} (hy : f_c1_init N a0 h = some h0) : h0.length = h.length + 3 := by
  unfold f_c1_init at hy
  obtain ⟨h1, e_h1, hy⟩ := gBd hy
  have l_h1 := sf_len e_h1
  obtain ⟨h2, e_h2, hy⟩ := gBd hy
  have l_h2 := sf_len e_h2
  obtain ⟨h3, e_h3, hy⟩ := gBd hy
  have l_h3 := nA_len e_h3
  obtain ⟨h4, e_h4, hy⟩ := gBd hy
  have l_h4 := sf_len e_h4
  obtain ⟨h5, e_h5, hy⟩ := gBd hy
  have l_h5 := nA_len e_h5
  obtain ⟨h6, e_h6, hy⟩ := gBd hy
  have l_h6 := sf_len e_h6
  obtain ⟨h7, e_h7, hy⟩ := gBd hy
  have l_h7 := nA_len e_h7
  obtain ⟨h8, e_h8, hy⟩ := gBd hy
  have l_h8 := sf_len e_h8
  obtain rfl := Option.some.inj hy
  omega
set_option maxHeartbeats 4000000 in
set_option maxRecDepth 100000 in
theorem ct_c1_init (l : Launch) (X : gX) (hx : gEx X = true) (N : Nat) (a0 : Nat) (h : gH) (h0 : gH) (hy : f_c1_init N a0 h = some h0) : gMv l X y_c1_init b_c1_init 1 (2 + N) 3 48 [.ref a0] h h0 := by
  unfold f_c1_init at hy
  refine gMet_init (lsx := [(0, .ref a0)]) (by decide) rfl rfl rfl ?_
  intro M hMl hnm K hret
  subst hMl
  refine g_aload_n K d_c1_init_0 0 rfl ?_
  refine g_objInit K d_c1_init_1 (gTk_1 70 rfl rfl) (gDep1 rfl) (Nat.le_of_ble_eq_true rfl) ?_
  refine g_aload_n K d_c1_init_4 0 rfl ?_
  refine g_iconst (v := 3) K d_c1_init_5 (by decide) ?_
  obtain ⟨h1, e_h1, hy⟩ := gBd hy
  refine g_putI K fp_c1_9 d_c1_init_6 e_h1 ?_
  refine g_aload_n K d_c1_init_9 0 rfl ?_
  refine g_iconst (v := 3) K d_c1_init_10 (by decide) ?_
  obtain ⟨h2, e_h2, hy⟩ := gBd hy
  refine g_putI K fp_c1_15 d_c1_init_11 e_h2 ?_
  refine g_aload_n K d_c1_init_14 0 rfl ?_
  refine g_bipush (v := 6) K d_c1_init_15 (by decide) ?_
  obtain ⟨h3, e_h3, hy⟩ := gBd hy
  refine g_newa (t := 0) (k := 6) (ty := .int) K hx d_c1_init_17 rfl rfl (fun _ h => h) (gTk_1 101 rfl rfl) (by decide) (by decide) rfl (Nat.le_of_ble_eq_true rfl) (Nat.le_of_ble_eq_true rfl) e_h3 rfl ?_
  obtain ⟨h4, e_h4, hy⟩ := gBd hy
  refine g_putF hnm K fq_c1_18 d_c1_init_19 e_h4 rfl rfl ?_
  refine g_aload_n K d_c1_init_22 0 rfl ?_
  refine g_bipush (v := 6) K d_c1_init_23 (by decide) ?_
  obtain ⟨h5, e_h5, hy⟩ := gBd hy
  refine g_newa (t := 0) (k := 6) (ty := .int) K hx d_c1_init_25 rfl rfl (fun _ h => h) (gTk_1 101 rfl rfl) (by decide) (by decide) rfl (Nat.le_of_ble_eq_true rfl) (Nat.le_of_ble_eq_true rfl) e_h5 rfl ?_
  obtain ⟨h6, e_h6, hy⟩ := gBd hy
  refine g_putF hnm K fq_c1_22 d_c1_init_27 e_h6 rfl rfl ?_
  refine g_aload_n K d_c1_init_30 0 rfl ?_
  refine g_bipush (v := 36) K d_c1_init_31 (by decide) ?_
  obtain ⟨h7, e_h7, hy⟩ := gBd hy
  refine g_newa (t := 0) (k := 36) (ty := .int) K hx d_c1_init_33 rfl rfl (fun _ h => h) (gTk_1 101 rfl rfl) (by decide) (by decide) rfl (Nat.le_of_ble_eq_true rfl) (Nat.le_of_ble_eq_true rfl) e_h7 rfl ?_
  obtain ⟨h8, e_h8, hy⟩ := gBd hy
  refine g_putF hnm K fq_c1_25 d_c1_init_35 e_h8 rfl rfl ?_
  obtain rfl := Option.some.inj hy
  exact hret _ _ _ d_c1_init_38

-- c2 init
theorem d_c2_init_0 : gD b_c2_init 0 (.aload_n 0) 1 1 := ⟨by decide +kernel, rfl⟩
theorem d_c2_init_1 : gD b_c2_init 1 (.invokespecial 3) 3 4 := ⟨by decide +kernel, rfl⟩
theorem d_c2_init_4 : gD b_c2_init 4 (.aload_n 0) 1 5 := ⟨by decide +kernel, rfl⟩
theorem d_c2_init_5 : gD b_c2_init 5 (.bipush 12) 2 7 := ⟨by decide +kernel, rfl⟩
theorem d_c2_init_7 : gD b_c2_init 7 (.newarray .int) 2 9 := ⟨by decide +kernel, rfl⟩
theorem d_c2_init_9 : gD b_c2_init 9 (.putfield 9) 3 12 := ⟨by decide +kernel, rfl⟩
theorem d_c2_init_12 : gD b_c2_init 12 (.aload_n 0) 1 13 := ⟨by decide +kernel, rfl⟩
theorem d_c2_init_13 : gD b_c2_init 13 (.bipush 12) 2 15 := ⟨by decide +kernel, rfl⟩
theorem d_c2_init_15 : gD b_c2_init 15 (.newarray .int) 2 17 := ⟨by decide +kernel, rfl⟩
theorem d_c2_init_17 : gD b_c2_init 17 (.putfield 15) 3 20 := ⟨by decide +kernel, rfl⟩
theorem d_c2_init_20 : gD b_c2_init 20 .return_ 1 21 := ⟨by decide +kernel, rfl⟩
def f_c2_init (N : Nat) (a0 : Nat) (h : gH) : Option gH :=
  (nA 0 12 h).bind fun h1 =>
  (sf h1 a0 2 0 (.ref h.length)).bind fun h2 =>
  (nA 0 12 h2).bind fun h3 =>
  (sf h3 a0 2 1 (.ref h2.length)).bind fun h4 =>
  some h4
theorem len_c2_init {N a0 : Nat} {h h0 : gH} (hy : f_c2_init N a0 h = some h0) : h0.length = h.length + 2 := by
  unfold f_c2_init at hy
  obtain ⟨h1, e_h1, hy⟩ := gBd hy
  have l_h1 := nA_len e_h1
  obtain ⟨h2, e_h2, hy⟩ := gBd hy
  have l_h2 := sf_len e_h2
  obtain ⟨h3, e_h3, hy⟩ := gBd hy
  have l_h3 := nA_len e_h3
  obtain ⟨h4, e_h4, hy⟩ := gBd hy
  have l_h4 := sf_len e_h4
  obtain rfl := Option.some.inj hy
  omega
set_option maxHeartbeats 4000000 in
set_option maxRecDepth 100000 in
theorem ct_c2_init (l : Launch) (X : gX) (hx : gEx X = true) (N : Nat) (a0 : Nat) (h : gH) (h0 : gH) (hy : f_c2_init N a0 h = some h0) : gMv l X y_c2_init b_c2_init 1 (2 + N) 2 24 [.ref a0] h h0 := by
  unfold f_c2_init at hy
  refine gMet_init (lsx := [(0, .ref a0)]) (by decide) rfl rfl rfl ?_
  intro M hMl hnm K hret
  subst hMl
  refine g_aload_n K d_c2_init_0 0 rfl ?_
  refine g_objInit K d_c2_init_1 (gTk_1 201 rfl rfl) (gDep1 rfl) (Nat.le_of_ble_eq_true rfl) ?_
  refine g_aload_n K d_c2_init_4 0 rfl ?_
  refine g_bipush (v := 12) K d_c2_init_5 (by decide) ?_
  obtain ⟨h1, e_h1, hy⟩ := gBd hy
  refine g_newa (t := 0) (k := 12) (ty := .int) K hx d_c2_init_7 rfl rfl (fun _ h => h) (gTk_1 101 rfl rfl) (by decide) (by decide) rfl (Nat.le_of_ble_eq_true rfl) (Nat.le_of_ble_eq_true rfl) e_h1 rfl ?_
  obtain ⟨h2, e_h2, hy⟩ := gBd hy
  refine g_putF hnm K fq_c2_9 d_c2_init_9 e_h2 rfl rfl ?_
  refine g_aload_n K d_c2_init_12 0 rfl ?_
  refine g_bipush (v := 12) K d_c2_init_13 (by decide) ?_
  obtain ⟨h3, e_h3, hy⟩ := gBd hy
  refine g_newa (t := 0) (k := 12) (ty := .int) K hx d_c2_init_15 rfl rfl (fun _ h => h) (gTk_1 101 rfl rfl) (by decide) (by decide) rfl (Nat.le_of_ble_eq_true rfl) (Nat.le_of_ble_eq_true rfl) e_h3 rfl ?_
  obtain ⟨h4, e_h4, hy⟩ := gBd hy
  refine g_putF hnm K fq_c2_15 d_c2_init_17 e_h4 rfl rfl ?_
  obtain rfl := Option.some.inj hy
  exact hret _ _ _ d_c2_init_20

-- c3 init
theorem d_c3_init_0 : gD b_c3_init 0 (.aload_n 0) 1 1 := ⟨by decide +kernel, rfl⟩
theorem d_c3_init_1 : gD b_c3_init 1 (.invokespecial 1) 3 4 := ⟨by decide +kernel, rfl⟩
theorem d_c3_init_4 : gD b_c3_init 4 .return_ 1 5 := ⟨by decide +kernel, rfl⟩
def f_c3_init (N : Nat) (a0 : Nat) (h : gH) : Option gH :=
  some h
theorem len_c3_init {N a0 : Nat} {h h0 : gH} (hy : f_c3_init N a0 h = some h0) : h0.length = h.length + 0 := by
  unfold f_c3_init at hy
  obtain rfl := Option.some.inj hy
  omega
set_option maxHeartbeats 4000000 in
set_option maxRecDepth 100000 in
theorem ct_c3_init (l : Launch) (X : gX) (hx : gEx X = true) (N : Nat) (a0 : Nat) (h : gH) (h0 : gH) (hy : f_c3_init N a0 h = some h0) : gMv l X y_c3_init b_c3_init 1 (2 + N) 0 0 [.ref a0] h h0 := by
  unfold f_c3_init at hy
  refine gMet_init (lsx := [(0, .ref a0)]) (by decide) rfl rfl rfl ?_
  intro M hMl hnm K hret
  subst hMl
  refine g_aload_n K d_c3_init_0 0 rfl ?_
  refine g_objInit K d_c3_init_1 (gTk_1 235 rfl rfl) (gDep1 rfl) (Nat.le_of_ble_eq_true rfl) ?_
  obtain rfl := Option.some.inj hy
  exact hret _ _ _ d_c3_init_4

-- c4 init
theorem d_c4_init_0 : gD b_c4_init 0 (.aload_n 0) 1 1 := ⟨by decide +kernel, rfl⟩
theorem d_c4_init_1 : gD b_c4_init 1 (.invokespecial 3) 3 4 := ⟨by decide +kernel, rfl⟩
theorem d_c4_init_4 : gD b_c4_init 4 (.aload_n 0) 1 5 := ⟨by decide +kernel, rfl⟩
theorem d_c4_init_5 : gD b_c4_init 5 (.bipush 8) 2 7 := ⟨by decide +kernel, rfl⟩
theorem d_c4_init_7 : gD b_c4_init 7 (.newarray .long) 2 9 := ⟨by decide +kernel, rfl⟩
theorem d_c4_init_9 : gD b_c4_init 9 (.putfield 9) 3 12 := ⟨by decide +kernel, rfl⟩
theorem d_c4_init_12 : gD b_c4_init 12 .return_ 1 13 := ⟨by decide +kernel, rfl⟩
def f_c4_init (N : Nat) (a0 : Nat) (h : gH) : Option gH :=
  (nA 4 8 h).bind fun h1 =>
  (sf h1 a0 4 0 (.ref h.length)).bind fun h2 =>
  some h2
theorem len_c4_init {N a0 : Nat} {h h0 : gH} (hy : f_c4_init N a0 h = some h0) : h0.length = h.length + 1 := by
  unfold f_c4_init at hy
  obtain ⟨h1, e_h1, hy⟩ := gBd hy
  have l_h1 := nA_len e_h1
  obtain ⟨h2, e_h2, hy⟩ := gBd hy
  have l_h2 := sf_len e_h2
  obtain rfl := Option.some.inj hy
  omega
set_option maxHeartbeats 4000000 in
set_option maxRecDepth 100000 in
theorem ct_c4_init (l : Launch) (X : gX) (hx : gEx X = true) (N : Nat) (a0 : Nat) (h : gH) (h0 : gH) (hy : f_c4_init N a0 h = some h0) : gMv l X y_c4_init b_c4_init 1 (2 + N) 1 8 [.ref a0] h h0 := by
  unfold f_c4_init at hy
  refine gMet_init (lsx := [(0, .ref a0)]) (by decide) rfl rfl rfl ?_
  intro M hMl hnm K hret
  subst hMl
  refine g_aload_n K d_c4_init_0 0 rfl ?_
  refine g_objInit K d_c4_init_1 (gTk_1 54 rfl rfl) (gDep1 rfl) (Nat.le_of_ble_eq_true rfl) ?_
  refine g_aload_n K d_c4_init_4 0 rfl ?_
  refine g_bipush (v := 8) K d_c4_init_5 (by decide) ?_
  obtain ⟨h1, e_h1, hy⟩ := gBd hy
  refine g_newa (t := 4) (k := 8) (ty := .long) K hx d_c4_init_7 rfl rfl (fun _ h => h) (gTk_1 64 rfl rfl) (by decide) (by decide) rfl (Nat.le_of_ble_eq_true rfl) (Nat.le_of_ble_eq_true rfl) e_h1 rfl ?_
  obtain ⟨h2, e_h2, hy⟩ := gBd hy
  refine g_putF hnm K fq_c4_9 d_c4_init_9 e_h2 rfl rfl ?_
  obtain rfl := Option.some.inj hy
  exact hret _ _ _ d_c4_init_12

-- c6 init
theorem d_c6_init_0 : gD b_c6_init 0 (.aload_n 0) 1 1 := ⟨by decide +kernel, rfl⟩
theorem d_c6_init_1 : gD b_c6_init 1 (.invokespecial 3) 3 4 := ⟨by decide +kernel, rfl⟩
theorem d_c6_init_4 : gD b_c6_init 4 (.aload_n 0) 1 5 := ⟨by decide +kernel, rfl⟩
theorem d_c6_init_5 : gD b_c6_init 5 (.bipush 40) 2 7 := ⟨by decide +kernel, rfl⟩
theorem d_c6_init_7 : gD b_c6_init 7 (.newarray .int) 2 9 := ⟨by decide +kernel, rfl⟩
theorem d_c6_init_9 : gD b_c6_init 9 (.putfield 9) 3 12 := ⟨by decide +kernel, rfl⟩
theorem d_c6_init_12 : gD b_c6_init 12 (.aload_n 0) 1 13 := ⟨by decide +kernel, rfl⟩
theorem d_c6_init_13 : gD b_c6_init 13 (.bipush 40) 2 15 := ⟨by decide +kernel, rfl⟩
theorem d_c6_init_15 : gD b_c6_init 15 (.newarray .int) 2 17 := ⟨by decide +kernel, rfl⟩
theorem d_c6_init_17 : gD b_c6_init 17 (.putfield 15) 3 20 := ⟨by decide +kernel, rfl⟩
theorem d_c6_init_20 : gD b_c6_init 20 (.aload_n 0) 1 21 := ⟨by decide +kernel, rfl⟩
theorem d_c6_init_21 : gD b_c6_init 21 (.bipush 40) 2 23 := ⟨by decide +kernel, rfl⟩
theorem d_c6_init_23 : gD b_c6_init 23 (.newarray .int) 2 25 := ⟨by decide +kernel, rfl⟩
theorem d_c6_init_25 : gD b_c6_init 25 (.putfield 18) 3 28 := ⟨by decide +kernel, rfl⟩
theorem d_c6_init_28 : gD b_c6_init 28 .return_ 1 29 := ⟨by decide +kernel, rfl⟩
def f_c6_init (N : Nat) (a0 : Nat) (h : gH) : Option gH :=
  (nA 0 40 h).bind fun h1 =>
  (sf h1 a0 6 0 (.ref h.length)).bind fun h2 =>
  (nA 0 40 h2).bind fun h3 =>
  (sf h3 a0 6 1 (.ref h2.length)).bind fun h4 =>
  (nA 0 40 h4).bind fun h5 =>
  (sf h5 a0 6 2 (.ref h4.length)).bind fun h6 =>
  some h6
theorem len_c6_init {N a0 : Nat} {h h0 : gH} (hy : f_c6_init N a0 h = some h0) : h0.length = h.length + 3 := by
  unfold f_c6_init at hy
  obtain ⟨h1, e_h1, hy⟩ := gBd hy
  have l_h1 := nA_len e_h1
  obtain ⟨h2, e_h2, hy⟩ := gBd hy
  have l_h2 := sf_len e_h2
  obtain ⟨h3, e_h3, hy⟩ := gBd hy
  have l_h3 := nA_len e_h3
  obtain ⟨h4, e_h4, hy⟩ := gBd hy
  have l_h4 := sf_len e_h4
  obtain ⟨h5, e_h5, hy⟩ := gBd hy
  have l_h5 := nA_len e_h5
  obtain ⟨h6, e_h6, hy⟩ := gBd hy
  have l_h6 := sf_len e_h6
  obtain rfl := Option.some.inj hy
  omega
set_option maxHeartbeats 4000000 in
set_option maxRecDepth 100000 in
theorem ct_c6_init (l : Launch) (X : gX) (hx : gEx X = true) (N : Nat) (a0 : Nat) (h : gH) (h0 : gH) (hy : f_c6_init N a0 h = some h0) : gMv l X y_c6_init b_c6_init 1 (2 + N) 3 120 [.ref a0] h h0 := by
  unfold f_c6_init at hy
  refine gMet_init (lsx := [(0, .ref a0)]) (by decide) rfl rfl rfl ?_
  intro M hMl hnm K hret
  subst hMl
  refine g_aload_n K d_c6_init_0 0 rfl ?_
  refine g_objInit K d_c6_init_1 (gTk_2 5 rfl rfl) (gDep1 rfl) (Nat.le_of_ble_eq_true rfl) ?_
  refine g_aload_n K d_c6_init_4 0 rfl ?_
  refine g_bipush (v := 40) K d_c6_init_5 (by decide) ?_
  obtain ⟨h1, e_h1, hy⟩ := gBd hy
  refine g_newa (t := 0) (k := 40) (ty := .int) K hx d_c6_init_7 rfl rfl (fun _ h => h) (gTk_1 101 rfl rfl) (by decide) (by decide) rfl (Nat.le_of_ble_eq_true rfl) (Nat.le_of_ble_eq_true rfl) e_h1 rfl ?_
  obtain ⟨h2, e_h2, hy⟩ := gBd hy
  refine g_putF hnm K fq_c6_9 d_c6_init_9 e_h2 rfl rfl ?_
  refine g_aload_n K d_c6_init_12 0 rfl ?_
  refine g_bipush (v := 40) K d_c6_init_13 (by decide) ?_
  obtain ⟨h3, e_h3, hy⟩ := gBd hy
  refine g_newa (t := 0) (k := 40) (ty := .int) K hx d_c6_init_15 rfl rfl (fun _ h => h) (gTk_1 101 rfl rfl) (by decide) (by decide) rfl (Nat.le_of_ble_eq_true rfl) (Nat.le_of_ble_eq_true rfl) e_h3 rfl ?_
  obtain ⟨h4, e_h4, hy⟩ := gBd hy
  refine g_putF hnm K fq_c6_15 d_c6_init_17 e_h4 rfl rfl ?_
  refine g_aload_n K d_c6_init_20 0 rfl ?_
  refine g_bipush (v := 40) K d_c6_init_21 (by decide) ?_
  obtain ⟨h5, e_h5, hy⟩ := gBd hy
  refine g_newa (t := 0) (k := 40) (ty := .int) K hx d_c6_init_23 rfl rfl (fun _ h => h) (gTk_1 101 rfl rfl) (by decide) (by decide) rfl (Nat.le_of_ble_eq_true rfl) (Nat.le_of_ble_eq_true rfl) e_h5 rfl ?_
  obtain ⟨h6, e_h6, hy⟩ := gBd hy
  refine g_putF hnm K fq_c6_18 d_c6_init_25 e_h6 rfl rfl ?_
  obtain rfl := Option.some.inj hy
  exact hret _ _ _ d_c6_init_28

-- c7 init
theorem d_c7_init_0 : gD b_c7_init 0 (.aload_n 0) 1 1 := ⟨by decide +kernel, rfl⟩
theorem d_c7_init_1 : gD b_c7_init 1 (.invokespecial 3) 3 4 := ⟨by decide +kernel, rfl⟩
theorem d_c7_init_4 : gD b_c7_init 4 (.aload_n 0) 1 5 := ⟨by decide +kernel, rfl⟩
theorem d_c7_init_5 : gD b_c7_init 5 (.bipush 8) 2 7 := ⟨by decide +kernel, rfl⟩
theorem d_c7_init_7 : gD b_c7_init 7 (.newarray .int) 2 9 := ⟨by decide +kernel, rfl⟩
theorem d_c7_init_9 : gD b_c7_init 9 (.putfield 9) 3 12 := ⟨by decide +kernel, rfl⟩
theorem d_c7_init_12 : gD b_c7_init 12 (.aload_n 0) 1 13 := ⟨by decide +kernel, rfl⟩
theorem d_c7_init_13 : gD b_c7_init 13 (.bipush 8) 2 15 := ⟨by decide +kernel, rfl⟩
theorem d_c7_init_15 : gD b_c7_init 15 (.newarray .int) 2 17 := ⟨by decide +kernel, rfl⟩
theorem d_c7_init_17 : gD b_c7_init 17 (.putfield 15) 3 20 := ⟨by decide +kernel, rfl⟩
theorem d_c7_init_20 : gD b_c7_init 20 (.aload_n 0) 1 21 := ⟨by decide +kernel, rfl⟩
theorem d_c7_init_21 : gD b_c7_init 21 (.bipush 8) 2 23 := ⟨by decide +kernel, rfl⟩
theorem d_c7_init_23 : gD b_c7_init 23 (.newarray .int) 2 25 := ⟨by decide +kernel, rfl⟩
theorem d_c7_init_25 : gD b_c7_init 25 (.putfield 18) 3 28 := ⟨by decide +kernel, rfl⟩
theorem d_c7_init_28 : gD b_c7_init 28 (.aload_n 0) 1 29 := ⟨by decide +kernel, rfl⟩
theorem d_c7_init_29 : gD b_c7_init 29 (.bipush 8) 2 31 := ⟨by decide +kernel, rfl⟩
theorem d_c7_init_31 : gD b_c7_init 31 (.newarray .int) 2 33 := ⟨by decide +kernel, rfl⟩
theorem d_c7_init_33 : gD b_c7_init 33 (.putfield 21) 3 36 := ⟨by decide +kernel, rfl⟩
theorem d_c7_init_36 : gD b_c7_init 36 (.aload_n 0) 1 37 := ⟨by decide +kernel, rfl⟩
theorem d_c7_init_37 : gD b_c7_init 37 (.bipush 8) 2 39 := ⟨by decide +kernel, rfl⟩
theorem d_c7_init_39 : gD b_c7_init 39 (.newarray .int) 2 41 := ⟨by decide +kernel, rfl⟩
theorem d_c7_init_41 : gD b_c7_init 41 (.putfield 24) 3 44 := ⟨by decide +kernel, rfl⟩
theorem d_c7_init_44 : gD b_c7_init 44 .return_ 1 45 := ⟨by decide +kernel, rfl⟩
def f_c7_init (N : Nat) (a0 : Nat) (h : gH) : Option gH :=
  (nA 0 8 h).bind fun h1 =>
  (sf h1 a0 7 1 (.ref h.length)).bind fun h2 =>
  (nA 0 8 h2).bind fun h3 =>
  (sf h3 a0 7 2 (.ref h2.length)).bind fun h4 =>
  (nA 0 8 h4).bind fun h5 =>
  (sf h5 a0 7 3 (.ref h4.length)).bind fun h6 =>
  (nA 0 8 h6).bind fun h7 =>
  (sf h7 a0 7 4 (.ref h6.length)).bind fun h8 =>
  (nA 0 8 h8).bind fun h9 =>
  (sf h9 a0 7 5 (.ref h8.length)).bind fun h10 =>
  some h10
theorem len_c7_init {N a0 : Nat} {h h0 : gH} (hy : f_c7_init N a0 h = some h0) : h0.length = h.length + 5 := by
  unfold f_c7_init at hy
  obtain ⟨h1, e_h1, hy⟩ := gBd hy
  have l_h1 := nA_len e_h1
  obtain ⟨h2, e_h2, hy⟩ := gBd hy
  have l_h2 := sf_len e_h2
  obtain ⟨h3, e_h3, hy⟩ := gBd hy
  have l_h3 := nA_len e_h3
  obtain ⟨h4, e_h4, hy⟩ := gBd hy
  have l_h4 := sf_len e_h4
  obtain ⟨h5, e_h5, hy⟩ := gBd hy
  have l_h5 := nA_len e_h5
  obtain ⟨h6, e_h6, hy⟩ := gBd hy
  have l_h6 := sf_len e_h6
  obtain ⟨h7, e_h7, hy⟩ := gBd hy
  have l_h7 := nA_len e_h7
  obtain ⟨h8, e_h8, hy⟩ := gBd hy
  have l_h8 := sf_len e_h8
  obtain ⟨h9, e_h9, hy⟩ := gBd hy
  have l_h9 := nA_len e_h9
  obtain ⟨h10, e_h10, hy⟩ := gBd hy
  have l_h10 := sf_len e_h10
  obtain rfl := Option.some.inj hy
  omega
set_option maxHeartbeats 4000000 in
set_option maxRecDepth 100000 in
theorem ct_c7_init (l : Launch) (X : gX) (hx : gEx X = true) (N : Nat) (a0 : Nat) (h : gH) (h0 : gH) (hy : f_c7_init N a0 h = some h0) : gMv l X y_c7_init b_c7_init 1 (2 + N) 5 40 [.ref a0] h h0 := by
  unfold f_c7_init at hy
  refine gMet_init (lsx := [(0, .ref a0)]) (by decide) rfl rfl rfl ?_
  intro M hMl hnm K hret
  subst hMl
  refine g_aload_n K d_c7_init_0 0 rfl ?_
  refine g_objInit K d_c7_init_1 (gTk_1 107 rfl rfl) (gDep1 rfl) (Nat.le_of_ble_eq_true rfl) ?_
  refine g_aload_n K d_c7_init_4 0 rfl ?_
  refine g_bipush (v := 8) K d_c7_init_5 (by decide) ?_
  obtain ⟨h1, e_h1, hy⟩ := gBd hy
  refine g_newa (t := 0) (k := 8) (ty := .int) K hx d_c7_init_7 rfl rfl (fun _ h => h) (gTk_1 101 rfl rfl) (by decide) (by decide) rfl (Nat.le_of_ble_eq_true rfl) (Nat.le_of_ble_eq_true rfl) e_h1 rfl ?_
  obtain ⟨h2, e_h2, hy⟩ := gBd hy
  refine g_putF hnm K fq_c7_9 d_c7_init_9 e_h2 rfl rfl ?_
  refine g_aload_n K d_c7_init_12 0 rfl ?_
  refine g_bipush (v := 8) K d_c7_init_13 (by decide) ?_
  obtain ⟨h3, e_h3, hy⟩ := gBd hy
  refine g_newa (t := 0) (k := 8) (ty := .int) K hx d_c7_init_15 rfl rfl (fun _ h => h) (gTk_1 101 rfl rfl) (by decide) (by decide) rfl (Nat.le_of_ble_eq_true rfl) (Nat.le_of_ble_eq_true rfl) e_h3 rfl ?_
  obtain ⟨h4, e_h4, hy⟩ := gBd hy
  refine g_putF hnm K fq_c7_15 d_c7_init_17 e_h4 rfl rfl ?_
  refine g_aload_n K d_c7_init_20 0 rfl ?_
  refine g_bipush (v := 8) K d_c7_init_21 (by decide) ?_
  obtain ⟨h5, e_h5, hy⟩ := gBd hy
  refine g_newa (t := 0) (k := 8) (ty := .int) K hx d_c7_init_23 rfl rfl (fun _ h => h) (gTk_1 101 rfl rfl) (by decide) (by decide) rfl (Nat.le_of_ble_eq_true rfl) (Nat.le_of_ble_eq_true rfl) e_h5 rfl ?_
  obtain ⟨h6, e_h6, hy⟩ := gBd hy
  refine g_putF hnm K fq_c7_18 d_c7_init_25 e_h6 rfl rfl ?_
  refine g_aload_n K d_c7_init_28 0 rfl ?_
  refine g_bipush (v := 8) K d_c7_init_29 (by decide) ?_
  obtain ⟨h7, e_h7, hy⟩ := gBd hy
  refine g_newa (t := 0) (k := 8) (ty := .int) K hx d_c7_init_31 rfl rfl (fun _ h => h) (gTk_1 101 rfl rfl) (by decide) (by decide) rfl (Nat.le_of_ble_eq_true rfl) (Nat.le_of_ble_eq_true rfl) e_h7 rfl ?_
  obtain ⟨h8, e_h8, hy⟩ := gBd hy
  refine g_putF hnm K fq_c7_21 d_c7_init_33 e_h8 rfl rfl ?_
  refine g_aload_n K d_c7_init_36 0 rfl ?_
  refine g_bipush (v := 8) K d_c7_init_37 (by decide) ?_
  obtain ⟨h9, e_h9, hy⟩ := gBd hy
  refine g_newa (t := 0) (k := 8) (ty := .int) K hx d_c7_init_39 rfl rfl (fun _ h => h) (gTk_1 101 rfl rfl) (by decide) (by decide) rfl (Nat.le_of_ble_eq_true rfl) (Nat.le_of_ble_eq_true rfl) e_h9 rfl ?_
  obtain ⟨h10, e_h10, hy⟩ := gBd hy
  refine g_putF hnm K fq_c7_24 d_c7_init_41 e_h10 rfl rfl ?_
  obtain rfl := Option.some.inj hy
  exact hret _ _ _ d_c7_init_44

-- c8 init
theorem d_c8_init_0 : gD b_c8_init 0 (.aload_n 0) 1 1 := ⟨by decide +kernel, rfl⟩
theorem d_c8_init_1 : gD b_c8_init 1 (.invokespecial 3) 3 4 := ⟨by decide +kernel, rfl⟩
theorem d_c8_init_4 : gD b_c8_init 4 (.aload_n 0) 1 5 := ⟨by decide +kernel, rfl⟩
theorem d_c8_init_5 : gD b_c8_init 5 (.bipush 80) 2 7 := ⟨by decide +kernel, rfl⟩
theorem d_c8_init_7 : gD b_c8_init 7 (.newarray .char) 2 9 := ⟨by decide +kernel, rfl⟩
theorem d_c8_init_9 : gD b_c8_init 9 (.putfield 9) 3 12 := ⟨by decide +kernel, rfl⟩
theorem d_c8_init_12 : gD b_c8_init 12 .return_ 1 13 := ⟨by decide +kernel, rfl⟩
def f_c8_init (N : Nat) (a0 : Nat) (h : gH) : Option gH :=
  (nA 3 80 h).bind fun h1 =>
  (sf h1 a0 8 0 (.ref h.length)).bind fun h2 =>
  some h2
theorem len_c8_init {N a0 : Nat} {h h0 : gH} (hy : f_c8_init N a0 h = some h0) : h0.length = h.length + 1 := by
  unfold f_c8_init at hy
  obtain ⟨h1, e_h1, hy⟩ := gBd hy
  have l_h1 := nA_len e_h1
  obtain ⟨h2, e_h2, hy⟩ := gBd hy
  have l_h2 := sf_len e_h2
  obtain rfl := Option.some.inj hy
  omega
set_option maxHeartbeats 4000000 in
set_option maxRecDepth 100000 in
theorem ct_c8_init (l : Launch) (X : gX) (hx : gEx X = true) (N : Nat) (a0 : Nat) (h : gH) (h0 : gH) (hy : f_c8_init N a0 h = some h0) : gMv l X y_c8_init b_c8_init 1 (2 + N) 1 80 [.ref a0] h h0 := by
  unfold f_c8_init at hy
  refine gMet_init (lsx := [(0, .ref a0)]) (by decide) rfl rfl rfl ?_
  intro M hMl hnm K hret
  subst hMl
  refine g_aload_n K d_c8_init_0 0 rfl ?_
  refine g_objInit K d_c8_init_1 (gTk_1 37 rfl rfl) (gDep1 rfl) (Nat.le_of_ble_eq_true rfl) ?_
  refine g_aload_n K d_c8_init_4 0 rfl ?_
  refine g_bipush (v := 80) K d_c8_init_5 (by decide) ?_
  obtain ⟨h1, e_h1, hy⟩ := gBd hy
  refine g_newa (t := 3) (k := 80) (ty := .char) K hx d_c8_init_7 rfl rfl (fun _ h => h) (gTk_1 48 rfl rfl) (by decide) (by decide) rfl (Nat.le_of_ble_eq_true rfl) (Nat.le_of_ble_eq_true rfl) e_h1 rfl ?_
  obtain ⟨h2, e_h2, hy⟩ := gBd hy
  refine g_putF hnm K fq_c8_9 d_c8_init_9 e_h2 rfl rfl ?_
  obtain rfl := Option.some.inj hy
  exact hret _ _ _ d_c8_init_12

-- c9 init
theorem d_c9_init_0 : gD b_c9_init 0 (.aload_n 0) 1 1 := ⟨by decide +kernel, rfl⟩
theorem d_c9_init_1 : gD b_c9_init 1 (.invokespecial 3) 3 4 := ⟨by decide +kernel, rfl⟩
theorem d_c9_init_4 : gD b_c9_init 4 (.aload_n 0) 1 5 := ⟨by decide +kernel, rfl⟩
theorem d_c9_init_5 : gD b_c9_init 5 (.bipush 8) 2 7 := ⟨by decide +kernel, rfl⟩
theorem d_c9_init_7 : gD b_c9_init 7 (.newarray .int) 2 9 := ⟨by decide +kernel, rfl⟩
theorem d_c9_init_9 : gD b_c9_init 9 (.putfield 9) 3 12 := ⟨by decide +kernel, rfl⟩
theorem d_c9_init_12 : gD b_c9_init 12 (.aload_n 0) 1 13 := ⟨by decide +kernel, rfl⟩
theorem d_c9_init_13 : gD b_c9_init 13 (.bipush 36) 2 15 := ⟨by decide +kernel, rfl⟩
theorem d_c9_init_15 : gD b_c9_init 15 (.newarray .int) 2 17 := ⟨by decide +kernel, rfl⟩
theorem d_c9_init_17 : gD b_c9_init 17 (.putfield 15) 3 20 := ⟨by decide +kernel, rfl⟩
theorem d_c9_init_20 : gD b_c9_init 20 (.aload_n 0) 1 21 := ⟨by decide +kernel, rfl⟩
theorem d_c9_init_21 : gD b_c9_init 21 (.sipush 2368) 3 24 := ⟨by decide +kernel, rfl⟩
theorem d_c9_init_24 : gD b_c9_init 24 (.newarray .int) 2 26 := ⟨by decide +kernel, rfl⟩
theorem d_c9_init_26 : gD b_c9_init 26 (.putfield 18) 3 29 := ⟨by decide +kernel, rfl⟩
theorem d_c9_init_29 : gD b_c9_init 29 .return_ 1 30 := ⟨by decide +kernel, rfl⟩
def f_c9_init (N : Nat) (a0 : Nat) (h : gH) : Option gH :=
  (nA 0 8 h).bind fun h1 =>
  (sf h1 a0 9 0 (.ref h.length)).bind fun h2 =>
  (nA 0 36 h2).bind fun h3 =>
  (sf h3 a0 9 1 (.ref h2.length)).bind fun h4 =>
  (nA 0 2368 h4).bind fun h5 =>
  (sf h5 a0 9 2 (.ref h4.length)).bind fun h6 =>
  some h6
theorem len_c9_init {N a0 : Nat} {h h0 : gH} (hy : f_c9_init N a0 h = some h0) : h0.length = h.length + 3 := by
  unfold f_c9_init at hy
  obtain ⟨h1, e_h1, hy⟩ := gBd hy
  have l_h1 := nA_len e_h1
  obtain ⟨h2, e_h2, hy⟩ := gBd hy
  have l_h2 := sf_len e_h2
  obtain ⟨h3, e_h3, hy⟩ := gBd hy
  have l_h3 := nA_len e_h3
  obtain ⟨h4, e_h4, hy⟩ := gBd hy
  have l_h4 := sf_len e_h4
  obtain ⟨h5, e_h5, hy⟩ := gBd hy
  have l_h5 := nA_len e_h5
  obtain ⟨h6, e_h6, hy⟩ := gBd hy
  have l_h6 := sf_len e_h6
  obtain rfl := Option.some.inj hy
  omega
set_option maxHeartbeats 4000000 in
set_option maxRecDepth 100000 in
theorem ct_c9_init (l : Launch) (X : gX) (hx : gEx X = true) (N : Nat) (a0 : Nat) (h : gH) (h0 : gH) (hy : f_c9_init N a0 h = some h0) : gMv l X y_c9_init b_c9_init 1 (2 + N) 3 2412 [.ref a0] h h0 := by
  unfold f_c9_init at hy
  refine gMet_init (lsx := [(0, .ref a0)]) (by decide) rfl rfl rfl ?_
  intro M hMl hnm K hret
  subst hMl
  refine g_aload_n K d_c9_init_0 0 rfl ?_
  refine g_objInit K d_c9_init_1 (gTk_1 218 rfl rfl) (gDep1 rfl) (Nat.le_of_ble_eq_true rfl) ?_
  refine g_aload_n K d_c9_init_4 0 rfl ?_
  refine g_bipush (v := 8) K d_c9_init_5 (by decide) ?_
  obtain ⟨h1, e_h1, hy⟩ := gBd hy
  refine g_newa (t := 0) (k := 8) (ty := .int) K hx d_c9_init_7 rfl rfl (fun _ h => h) (gTk_1 101 rfl rfl) (by decide) (by decide) rfl (Nat.le_of_ble_eq_true rfl) (Nat.le_of_ble_eq_true rfl) e_h1 rfl ?_
  obtain ⟨h2, e_h2, hy⟩ := gBd hy
  refine g_putF hnm K fq_c9_9 d_c9_init_9 e_h2 rfl rfl ?_
  refine g_aload_n K d_c9_init_12 0 rfl ?_
  refine g_bipush (v := 36) K d_c9_init_13 (by decide) ?_
  obtain ⟨h3, e_h3, hy⟩ := gBd hy
  refine g_newa (t := 0) (k := 36) (ty := .int) K hx d_c9_init_15 rfl rfl (fun _ h => h) (gTk_1 101 rfl rfl) (by decide) (by decide) rfl (Nat.le_of_ble_eq_true rfl) (Nat.le_of_ble_eq_true rfl) e_h3 rfl ?_
  obtain ⟨h4, e_h4, hy⟩ := gBd hy
  refine g_putF hnm K fq_c9_15 d_c9_init_17 e_h4 rfl rfl ?_
  refine g_aload_n K d_c9_init_20 0 rfl ?_
  refine g_sipush (v := 2368) K d_c9_init_21 (by decide) ?_
  obtain ⟨h5, e_h5, hy⟩ := gBd hy
  refine g_newa (t := 0) (k := 2368) (ty := .int) K hx d_c9_init_24 rfl rfl (fun _ h => h) (gTk_1 101 rfl rfl) (by decide) (by decide) rfl (Nat.le_of_ble_eq_true rfl) (Nat.le_of_ble_eq_true rfl) e_h5 rfl ?_
  obtain ⟨h6, e_h6, hy⟩ := gBd hy
  refine g_putF hnm K fq_c9_18 d_c9_init_26 e_h6 rfl rfl ?_
  obtain rfl := Option.some.inj hy
  exact hret _ _ _ d_c9_init_29

-- c5 init
theorem d_c5_init_0 : gD b_c5_init 0 (.aload_n 0) 1 1 := ⟨by decide +kernel, rfl⟩
theorem d_c5_init_1 : gD b_c5_init 1 (.invokespecial 3) 3 4 := ⟨by decide +kernel, rfl⟩
theorem d_c5_init_4 : gD b_c5_init 4 (.aload_n 0) 1 5 := ⟨by decide +kernel, rfl⟩
theorem d_c5_init_5 : gD b_c5_init 5 (.bipush 12) 2 7 := ⟨by decide +kernel, rfl⟩
theorem d_c5_init_7 : gD b_c5_init 7 (.anewarray 9) 3 10 := ⟨by decide +kernel, rfl⟩
theorem d_c5_init_10 : gD b_c5_init 10 (.putfield 11) 3 13 := ⟨by decide +kernel, rfl⟩
theorem d_c5_init_13 : gD b_c5_init 13 (.aload_n 0) 1 14 := ⟨by decide +kernel, rfl⟩
theorem d_c5_init_14 : gD b_c5_init 14 (.iconst 2) 1 15 := ⟨by decide +kernel, rfl⟩
theorem d_c5_init_15 : gD b_c5_init 15 (.anewarray 9) 3 18 := ⟨by decide +kernel, rfl⟩
theorem d_c5_init_18 : gD b_c5_init 18 (.putfield 17) 3 21 := ⟨by decide +kernel, rfl⟩
theorem d_c5_init_21 : gD b_c5_init 21 (.aload_n 0) 1 22 := ⟨by decide +kernel, rfl⟩
theorem d_c5_init_22 : gD b_c5_init 22 (.iconst 2) 1 23 := ⟨by decide +kernel, rfl⟩
theorem d_c5_init_23 : gD b_c5_init 23 (.newarray .boolean) 2 25 := ⟨by decide +kernel, rfl⟩
theorem d_c5_init_25 : gD b_c5_init 25 (.putfield 20) 3 28 := ⟨by decide +kernel, rfl⟩
theorem d_c5_init_28 : gD b_c5_init 28 (.iconst 0) 1 29 := ⟨by decide +kernel, rfl⟩
theorem d_c5_init_29 : gD b_c5_init 29 (.istore_n 1) 1 30 := ⟨by decide +kernel, rfl⟩
theorem d_c5_init_30 : gD b_c5_init 30 (.iload_n 1) 1 31 := ⟨by decide +kernel, rfl⟩
theorem d_c5_init_31 : gD b_c5_init 31 (.bipush 12) 2 33 := ⟨by decide +kernel, rfl⟩
theorem d_c5_init_33 : gJ b_c5_init 33 (.if_icmp .ge 22) 3 22 36 55 := ⟨by decide +kernel, rfl, by decide⟩
theorem d_c5_init_36 : gD b_c5_init 36 (.aload_n 0) 1 37 := ⟨by decide +kernel, rfl⟩
theorem d_c5_init_37 : gD b_c5_init 37 (.getfield 11) 3 40 := ⟨by decide +kernel, rfl⟩
theorem d_c5_init_40 : gD b_c5_init 40 (.iload_n 1) 1 41 := ⟨by decide +kernel, rfl⟩
theorem d_c5_init_41 : gD b_c5_init 41 (.new 9) 3 44 := ⟨by decide +kernel, rfl⟩
theorem d_c5_init_44 : gD b_c5_init 44 .dup 1 45 := ⟨by decide +kernel, rfl⟩
theorem d_c5_init_45 : gD b_c5_init 45 (.invokespecial 24) 3 48 := ⟨by decide +kernel, rfl⟩
theorem d_c5_init_48 : gD b_c5_init 48 .aastore 1 49 := ⟨by decide +kernel, rfl⟩
theorem d_c5_init_49 : gD b_c5_init 49 (.iinc 1 1) 3 52 := ⟨by decide +kernel, rfl⟩
theorem d_c5_init_52 : gJ b_c5_init 52 (.goto (-22)) 3 (-22) 55 30 := ⟨by decide +kernel, rfl, by decide⟩
theorem d_c5_init_55 : gD b_c5_init 55 (.iconst 0) 1 56 := ⟨by decide +kernel, rfl⟩
theorem d_c5_init_56 : gD b_c5_init 56 (.istore_n 1) 1 57 := ⟨by decide +kernel, rfl⟩
theorem d_c5_init_57 : gD b_c5_init 57 (.iload_n 1) 1 58 := ⟨by decide +kernel, rfl⟩
theorem d_c5_init_58 : gD b_c5_init 58 (.iconst 2) 1 59 := ⟨by decide +kernel, rfl⟩
theorem d_c5_init_59 : gJ b_c5_init 59 (.if_icmp .ge 22) 3 22 62 81 := ⟨by decide +kernel, rfl, by decide⟩
theorem d_c5_init_62 : gD b_c5_init 62 (.aload_n 0) 1 63 := ⟨by decide +kernel, rfl⟩
theorem d_c5_init_63 : gD b_c5_init 63 (.getfield 17) 3 66 := ⟨by decide +kernel, rfl⟩
theorem d_c5_init_66 : gD b_c5_init 66 (.iload_n 1) 1 67 := ⟨by decide +kernel, rfl⟩
theorem d_c5_init_67 : gD b_c5_init 67 (.new 9) 3 70 := ⟨by decide +kernel, rfl⟩
theorem d_c5_init_70 : gD b_c5_init 70 .dup 1 71 := ⟨by decide +kernel, rfl⟩
theorem d_c5_init_71 : gD b_c5_init 71 (.invokespecial 24) 3 74 := ⟨by decide +kernel, rfl⟩
theorem d_c5_init_74 : gD b_c5_init 74 .aastore 1 75 := ⟨by decide +kernel, rfl⟩
theorem d_c5_init_75 : gD b_c5_init 75 (.iinc 1 1) 3 78 := ⟨by decide +kernel, rfl⟩
theorem d_c5_init_78 : gJ b_c5_init 78 (.goto (-21)) 3 (-21) 81 57 := ⟨by decide +kernel, rfl, by decide⟩
theorem d_c5_init_81 : gD b_c5_init 81 .return_ 1 82 := ⟨by decide +kernel, rfl⟩
def f_c5_init (N : Nat) (a0 : Nat) (h : gH) : Option gH :=
  (nA 5 12 h).bind fun h1 =>
  (sf h1 a0 5 0 (.ref h.length)).bind fun h2 =>
  (nA 5 2 h2).bind fun h3 =>
  (sf h3 a0 5 1 (.ref h2.length)).bind fun h4 =>
  (nA 2 2 h4).bind fun h5 =>
  (sf h5 a0 5 2 (.ref h4.length)).bind fun h6 =>
  (gfR h6 a0 5 0).bind fun v7 =>
  (nO 7 [.int 0, .null, .null, .null, .null, .null, .int 0, .int 0] h6).bind fun h8 =>
  (f_c7_init N h6.length h8).bind fun h9 =>
  (saR h9 v7 (0 : Int32) h6.length).bind fun h10 =>
  (gfR h10 a0 5 0).bind fun v11 =>
  (nO 7 [.int 0, .null, .null, .null, .null, .null, .int 0, .int 0] h10).bind fun h12 =>
  (f_c7_init N h10.length h12).bind fun h13 =>
  (saR h13 v11 ((0 : Int32) + (1 : Int32)) h10.length).bind fun h14 =>
  (gfR h14 a0 5 0).bind fun v15 =>
  (nO 7 [.int 0, .null, .null, .null, .null, .null, .int 0, .int 0] h14).bind fun h16 =>
  (f_c7_init N h14.length h16).bind fun h17 =>
  (saR h17 v15 (((0 : Int32) + (1 : Int32)) + (1 : Int32)) h14.length).bind fun h18 =>
  (gfR h18 a0 5 0).bind fun v19 =>
  (nO 7 [.int 0, .null, .null, .null, .null, .null, .int 0, .int 0] h18).bind fun h20 =>
  (f_c7_init N h18.length h20).bind fun h21 =>
  (saR h21 v19 ((((0 : Int32) + (1 : Int32)) + (1 : Int32)) + (1 : Int32)) h18.length).bind fun h22 =>
  (gfR h22 a0 5 0).bind fun v23 =>
  (nO 7 [.int 0, .null, .null, .null, .null, .null, .int 0, .int 0] h22).bind fun h24 =>
  (f_c7_init N h22.length h24).bind fun h25 =>
  (saR h25 v23 (((((0 : Int32) + (1 : Int32)) + (1 : Int32)) + (1 : Int32)) + (1 : Int32)) h22.length).bind fun h26 =>
  (gfR h26 a0 5 0).bind fun v27 =>
  (nO 7 [.int 0, .null, .null, .null, .null, .null, .int 0, .int 0] h26).bind fun h28 =>
  (f_c7_init N h26.length h28).bind fun h29 =>
  (saR h29 v27 ((((((0 : Int32) + (1 : Int32)) + (1 : Int32)) + (1 : Int32)) + (1 : Int32)) + (1 : Int32)) h26.length).bind fun h30 =>
  (gfR h30 a0 5 0).bind fun v31 =>
  (nO 7 [.int 0, .null, .null, .null, .null, .null, .int 0, .int 0] h30).bind fun h32 =>
  (f_c7_init N h30.length h32).bind fun h33 =>
  (saR h33 v31 (((((((0 : Int32) + (1 : Int32)) + (1 : Int32)) + (1 : Int32)) + (1 : Int32)) + (1 : Int32)) + (1 : Int32)) h30.length).bind fun h34 =>
  (gfR h34 a0 5 0).bind fun v35 =>
  (nO 7 [.int 0, .null, .null, .null, .null, .null, .int 0, .int 0] h34).bind fun h36 =>
  (f_c7_init N h34.length h36).bind fun h37 =>
  (saR h37 v35 ((((((((0 : Int32) + (1 : Int32)) + (1 : Int32)) + (1 : Int32)) + (1 : Int32)) + (1 : Int32)) + (1 : Int32)) + (1 : Int32)) h34.length).bind fun h38 =>
  (gfR h38 a0 5 0).bind fun v39 =>
  (nO 7 [.int 0, .null, .null, .null, .null, .null, .int 0, .int 0] h38).bind fun h40 =>
  (f_c7_init N h38.length h40).bind fun h41 =>
  (saR h41 v39 (((((((((0 : Int32) + (1 : Int32)) + (1 : Int32)) + (1 : Int32)) + (1 : Int32)) + (1 : Int32)) + (1 : Int32)) + (1 : Int32)) + (1 : Int32)) h38.length).bind fun h42 =>
  (gfR h42 a0 5 0).bind fun v43 =>
  (nO 7 [.int 0, .null, .null, .null, .null, .null, .int 0, .int 0] h42).bind fun h44 =>
  (f_c7_init N h42.length h44).bind fun h45 =>
  (saR h45 v43 ((((((((((0 : Int32) + (1 : Int32)) + (1 : Int32)) + (1 : Int32)) + (1 : Int32)) + (1 : Int32)) + (1 : Int32)) + (1 : Int32)) + (1 : Int32)) + (1 : Int32)) h42.length).bind fun h46 =>
  (gfR h46 a0 5 0).bind fun v47 =>
  (nO 7 [.int 0, .null, .null, .null, .null, .null, .int 0, .int 0] h46).bind fun h48 =>
  (f_c7_init N h46.length h48).bind fun h49 =>
  (saR h49 v47 (((((((((((0 : Int32) + (1 : Int32)) + (1 : Int32)) + (1 : Int32)) + (1 : Int32)) + (1 : Int32)) + (1 : Int32)) + (1 : Int32)) + (1 : Int32)) + (1 : Int32)) + (1 : Int32)) h46.length).bind fun h50 =>
  (gfR h50 a0 5 0).bind fun v51 =>
  (nO 7 [.int 0, .null, .null, .null, .null, .null, .int 0, .int 0] h50).bind fun h52 =>
  (f_c7_init N h50.length h52).bind fun h53 =>
  (saR h53 v51 ((((((((((((0 : Int32) + (1 : Int32)) + (1 : Int32)) + (1 : Int32)) + (1 : Int32)) + (1 : Int32)) + (1 : Int32)) + (1 : Int32)) + (1 : Int32)) + (1 : Int32)) + (1 : Int32)) + (1 : Int32)) h50.length).bind fun h54 =>
  (gfR h54 a0 5 1).bind fun v55 =>
  (nO 7 [.int 0, .null, .null, .null, .null, .null, .int 0, .int 0] h54).bind fun h56 =>
  (f_c7_init N h54.length h56).bind fun h57 =>
  (saR h57 v55 (0 : Int32) h54.length).bind fun h58 =>
  (gfR h58 a0 5 1).bind fun v59 =>
  (nO 7 [.int 0, .null, .null, .null, .null, .null, .int 0, .int 0] h58).bind fun h60 =>
  (f_c7_init N h58.length h60).bind fun h61 =>
  (saR h61 v59 ((0 : Int32) + (1 : Int32)) h58.length).bind fun h62 =>
  some h62
theorem len_c5_init {N a0 : Nat} {h h0 : gH} (hy : f_c5_init N a0 h = some h0) : h0.length = h.length + 87 := by
  unfold f_c5_init at hy
  obtain ⟨h1, e_h1, hy⟩ := gBd hy
  have l_h1 := nA_len e_h1
  obtain ⟨h2, e_h2, hy⟩ := gBd hy
  have l_h2 := sf_len e_h2
  obtain ⟨h3, e_h3, hy⟩ := gBd hy
  have l_h3 := nA_len e_h3
  obtain ⟨h4, e_h4, hy⟩ := gBd hy
  have l_h4 := sf_len e_h4
  obtain ⟨h5, e_h5, hy⟩ := gBd hy
  have l_h5 := nA_len e_h5
  obtain ⟨h6, e_h6, hy⟩ := gBd hy
  have l_h6 := sf_len e_h6
  obtain ⟨v7, e_v7, hy⟩ := gBd hy
  obtain ⟨h8, e_h8, hy⟩ := gBd hy
  have l_h8 := nO_len e_h8
  obtain ⟨h9, e_h9, hy⟩ := gBd hy
  have l_h9 := len_c7_init e_h9
  obtain ⟨h10, e_h10, hy⟩ := gBd hy
  have l_h10 := saR_len e_h10
  obtain ⟨v11, e_v11, hy⟩ := gBd hy
  obtain ⟨h12, e_h12, hy⟩ := gBd hy
  have l_h12 := nO_len e_h12
  obtain ⟨h13, e_h13, hy⟩ := gBd hy
  have l_h13 := len_c7_init e_h13
  obtain ⟨h14, e_h14, hy⟩ := gBd hy
  have l_h14 := saR_len e_h14
  obtain ⟨v15, e_v15, hy⟩ := gBd hy
  obtain ⟨h16, e_h16, hy⟩ := gBd hy
  have l_h16 := nO_len e_h16
  obtain ⟨h17, e_h17, hy⟩ := gBd hy
  have l_h17 := len_c7_init e_h17
  obtain ⟨h18, e_h18, hy⟩ := gBd hy
  have l_h18 := saR_len e_h18
  obtain ⟨v19, e_v19, hy⟩ := gBd hy
  obtain ⟨h20, e_h20, hy⟩ := gBd hy
  have l_h20 := nO_len e_h20
  obtain ⟨h21, e_h21, hy⟩ := gBd hy
  have l_h21 := len_c7_init e_h21
  obtain ⟨h22, e_h22, hy⟩ := gBd hy
  have l_h22 := saR_len e_h22
  obtain ⟨v23, e_v23, hy⟩ := gBd hy
  obtain ⟨h24, e_h24, hy⟩ := gBd hy
  have l_h24 := nO_len e_h24
  obtain ⟨h25, e_h25, hy⟩ := gBd hy
  have l_h25 := len_c7_init e_h25
  obtain ⟨h26, e_h26, hy⟩ := gBd hy
  have l_h26 := saR_len e_h26
  obtain ⟨v27, e_v27, hy⟩ := gBd hy
  obtain ⟨h28, e_h28, hy⟩ := gBd hy
  have l_h28 := nO_len e_h28
  obtain ⟨h29, e_h29, hy⟩ := gBd hy
  have l_h29 := len_c7_init e_h29
  obtain ⟨h30, e_h30, hy⟩ := gBd hy
  have l_h30 := saR_len e_h30
  obtain ⟨v31, e_v31, hy⟩ := gBd hy
  obtain ⟨h32, e_h32, hy⟩ := gBd hy
  have l_h32 := nO_len e_h32
  obtain ⟨h33, e_h33, hy⟩ := gBd hy
  have l_h33 := len_c7_init e_h33
  obtain ⟨h34, e_h34, hy⟩ := gBd hy
  have l_h34 := saR_len e_h34
  obtain ⟨v35, e_v35, hy⟩ := gBd hy
  obtain ⟨h36, e_h36, hy⟩ := gBd hy
  have l_h36 := nO_len e_h36
  obtain ⟨h37, e_h37, hy⟩ := gBd hy
  have l_h37 := len_c7_init e_h37
  obtain ⟨h38, e_h38, hy⟩ := gBd hy
  have l_h38 := saR_len e_h38
  obtain ⟨v39, e_v39, hy⟩ := gBd hy
  obtain ⟨h40, e_h40, hy⟩ := gBd hy
  have l_h40 := nO_len e_h40
  obtain ⟨h41, e_h41, hy⟩ := gBd hy
  have l_h41 := len_c7_init e_h41
  obtain ⟨h42, e_h42, hy⟩ := gBd hy
  have l_h42 := saR_len e_h42
  obtain ⟨v43, e_v43, hy⟩ := gBd hy
  obtain ⟨h44, e_h44, hy⟩ := gBd hy
  have l_h44 := nO_len e_h44
  obtain ⟨h45, e_h45, hy⟩ := gBd hy
  have l_h45 := len_c7_init e_h45
  obtain ⟨h46, e_h46, hy⟩ := gBd hy
  have l_h46 := saR_len e_h46
  obtain ⟨v47, e_v47, hy⟩ := gBd hy
  obtain ⟨h48, e_h48, hy⟩ := gBd hy
  have l_h48 := nO_len e_h48
  obtain ⟨h49, e_h49, hy⟩ := gBd hy
  have l_h49 := len_c7_init e_h49
  obtain ⟨h50, e_h50, hy⟩ := gBd hy
  have l_h50 := saR_len e_h50
  obtain ⟨v51, e_v51, hy⟩ := gBd hy
  obtain ⟨h52, e_h52, hy⟩ := gBd hy
  have l_h52 := nO_len e_h52
  obtain ⟨h53, e_h53, hy⟩ := gBd hy
  have l_h53 := len_c7_init e_h53
  obtain ⟨h54, e_h54, hy⟩ := gBd hy
  have l_h54 := saR_len e_h54
  obtain ⟨v55, e_v55, hy⟩ := gBd hy
  obtain ⟨h56, e_h56, hy⟩ := gBd hy
  have l_h56 := nO_len e_h56
  obtain ⟨h57, e_h57, hy⟩ := gBd hy
  have l_h57 := len_c7_init e_h57
  obtain ⟨h58, e_h58, hy⟩ := gBd hy
  have l_h58 := saR_len e_h58
  obtain ⟨v59, e_v59, hy⟩ := gBd hy
  obtain ⟨h60, e_h60, hy⟩ := gBd hy
  have l_h60 := nO_len e_h60
  obtain ⟨h61, e_h61, hy⟩ := gBd hy
  have l_h61 := len_c7_init e_h61
  obtain ⟨h62, e_h62, hy⟩ := gBd hy
  have l_h62 := saR_len e_h62
  obtain rfl := Option.some.inj hy
  omega
set_option maxHeartbeats 4000000 in
set_option maxRecDepth 100000 in
theorem ct_c5_init (l : Launch) (X : gX) (hx : gEx X = true) (N : Nat) (a0 : Nat) (h : gH) (h0 : gH) (hy : f_c5_init N a0 h = some h0) : gMv l X y_c5_init b_c5_init 2 (3 + N) 87 688 [.ref a0] h h0 := by
  unfold f_c5_init at hy
  refine gMet_init (lsx := [(0, .ref a0)]) (by decide) rfl rfl rfl ?_
  intro M hMl hnm K hret
  subst hMl
  refine g_aload_n K d_c5_init_0 0 rfl ?_
  refine g_objInit K d_c5_init_1 (gTk_1 177 rfl rfl) (gDep1 rfl) (Nat.le_of_ble_eq_true rfl) ?_
  refine g_aload_n K d_c5_init_4 0 rfl ?_
  refine g_bipush (v := 12) K d_c5_init_5 (by decide) ?_
  obtain ⟨h1, e_h1, hy⟩ := gBd hy
  refine g_anew (k := 12) K hx d_c5_init_7 (gTk_1 178 rfl rfl) (by decide) (by decide) rfl (Nat.le_of_ble_eq_true rfl) (Nat.le_of_ble_eq_true rfl) e_h1 ?_
  obtain ⟨h2, e_h2, hy⟩ := gBd hy
  refine g_putF hnm K fq_c5_11 d_c5_init_10 e_h2 rfl rfl ?_
  refine g_aload_n K d_c5_init_13 0 rfl ?_
  refine g_iconst (v := 2) K d_c5_init_14 (by decide) ?_
  obtain ⟨h3, e_h3, hy⟩ := gBd hy
  refine g_anew (k := 2) K hx d_c5_init_15 (gTk_1 178 rfl rfl) (by decide) (by decide) rfl (Nat.le_of_ble_eq_true rfl) (Nat.le_of_ble_eq_true rfl) e_h3 ?_
  obtain ⟨h4, e_h4, hy⟩ := gBd hy
  refine g_putF hnm K fq_c5_17 d_c5_init_18 e_h4 rfl rfl ?_
  refine g_aload_n K d_c5_init_21 0 rfl ?_
  refine g_iconst (v := 2) K d_c5_init_22 (by decide) ?_
  obtain ⟨h5, e_h5, hy⟩ := gBd hy
  refine g_newa (t := 2) (k := 2) (ty := .boolean) K hx d_c5_init_23 rfl rfl (fun _ h => h) (gTk_1 195 rfl rfl) (by decide) (by decide) rfl (Nat.le_of_ble_eq_true rfl) (Nat.le_of_ble_eq_true rfl) e_h5 rfl ?_
  obtain ⟨h6, e_h6, hy⟩ := gBd hy
  refine g_putF hnm K fq_c5_20 d_c5_init_25 e_h6 rfl rfl ?_
  refine g_iconst (v := 0) K d_c5_init_28 (by decide) ?_
  refine g_istore_n (ls2 := [(1, .int (0 : Int32)), (0, .ref a0)]) K d_c5_init_29 rfl rfl ?_
  refine g_iload_n K d_c5_init_30 0 rfl ?_
  refine g_bipush (v := 12) K d_c5_init_31 (by decide) ?_
  refine g_icmp_ge K d_c5_init_33 (fun c9 => absurd c9 (by decide)) (fun _ => ?_)
  refine g_aload_n K d_c5_init_36 1 rfl ?_
  obtain ⟨v7, e_v7, hy⟩ := gBd hy
  refine g_getR K fl_c5_11 d_c5_init_37 e_v7 ?_
  refine g_iload_n K d_c5_init_40 0 rfl ?_
  obtain ⟨h8, e_h8, hy⟩ := gBd hy
  refine g_new (ci := 7) (ty0 := gY7) K hx d_c5_init_41 rfl gIn7 gYo7 (gTk_1 178 rfl rfl) (gTk_1 103 rfl rfl) (gTk_1 5 rfl rfl) (by decide +kernel) rfl (Nat.le_of_ble_eq_true rfl) (Nat.le_of_ble_eq_true rfl) e_h8 ?_
  refine g_dup K d_c5_init_44 rfl ?_
  obtain ⟨h9, e_h9, hy⟩ := gBd hy
  refine g_callI (rest := [.ref h6.length, .int (0 : Int32), .ref v7]) K hx ly_c7_init ki_c5_24 d_c5_init_45 (ct_c7_init M.2.1 X hx N h6.length h8 h9 e_h9) (len_c7_init e_h9) rfl rfl (Nat.le_of_ble_eq_true rfl) (gDep rfl) ⟨Nat.le_of_ble_eq_true rfl, Nat.le_of_ble_eq_true rfl⟩ ?_
  obtain ⟨h10, e_h10, hy⟩ := gBd hy
  refine g_aast K d_c5_init_48 e_h10 ?_
  refine g_iinc (ls2 := [(1, .int ((0 : Int32) + (1 : Int32))), (0, .ref a0)]) (v := 1) K d_c5_init_49 0 rfl (by decide) rfl rfl ?_
  refine g_goto K d_c5_init_52 ?_
  refine g_iload_n K d_c5_init_30 0 rfl ?_
  refine g_bipush (v := 12) K d_c5_init_31 (by decide) ?_
  refine g_icmp_ge K d_c5_init_33 (fun c9 => absurd c9 (by decide)) (fun _ => ?_)
  refine g_aload_n K d_c5_init_36 1 rfl ?_
  obtain ⟨v11, e_v11, hy⟩ := gBd hy
  refine g_getR K fl_c5_11 d_c5_init_37 e_v11 ?_
  refine g_iload_n K d_c5_init_40 0 rfl ?_
  obtain ⟨h12, e_h12, hy⟩ := gBd hy
  refine g_new (ci := 7) (ty0 := gY7) K hx d_c5_init_41 rfl gIn7 gYo7 (gTk_1 178 rfl rfl) (gTk_1 103 rfl rfl) (gTk_1 5 rfl rfl) (by decide +kernel) rfl (Nat.le_of_ble_eq_true rfl) (Nat.le_of_ble_eq_true rfl) e_h12 ?_
  refine g_dup K d_c5_init_44 rfl ?_
  obtain ⟨h13, e_h13, hy⟩ := gBd hy
  refine g_callI (rest := [.ref h10.length, .int ((0 : Int32) + (1 : Int32)), .ref v11]) K hx ly_c7_init ki_c5_24 d_c5_init_45 (ct_c7_init M.2.1 X hx N h10.length h12 h13 e_h13) (len_c7_init e_h13) rfl rfl (Nat.le_of_ble_eq_true rfl) (gDep rfl) ⟨Nat.le_of_ble_eq_true rfl, Nat.le_of_ble_eq_true rfl⟩ ?_
  obtain ⟨h14, e_h14, hy⟩ := gBd hy
  refine g_aast K d_c5_init_48 e_h14 ?_
  refine g_iinc (ls2 := [(1, .int (((0 : Int32) + (1 : Int32)) + (1 : Int32))), (0, .ref a0)]) (v := 1) K d_c5_init_49 0 rfl (by decide) rfl rfl ?_
  refine g_goto K d_c5_init_52 ?_
  refine g_iload_n K d_c5_init_30 0 rfl ?_
  refine g_bipush (v := 12) K d_c5_init_31 (by decide) ?_
  refine g_icmp_ge K d_c5_init_33 (fun c9 => absurd c9 (by decide)) (fun _ => ?_)
  refine g_aload_n K d_c5_init_36 1 rfl ?_
  obtain ⟨v15, e_v15, hy⟩ := gBd hy
  refine g_getR K fl_c5_11 d_c5_init_37 e_v15 ?_
  refine g_iload_n K d_c5_init_40 0 rfl ?_
  obtain ⟨h16, e_h16, hy⟩ := gBd hy
  refine g_new (ci := 7) (ty0 := gY7) K hx d_c5_init_41 rfl gIn7 gYo7 (gTk_1 178 rfl rfl) (gTk_1 103 rfl rfl) (gTk_1 5 rfl rfl) (by decide +kernel) rfl (Nat.le_of_ble_eq_true rfl) (Nat.le_of_ble_eq_true rfl) e_h16 ?_
  refine g_dup K d_c5_init_44 rfl ?_
  obtain ⟨h17, e_h17, hy⟩ := gBd hy
  refine g_callI (rest := [.ref h14.length, .int (((0 : Int32) + (1 : Int32)) + (1 : Int32)), .ref v15]) K hx ly_c7_init ki_c5_24 d_c5_init_45 (ct_c7_init M.2.1 X hx N h14.length h16 h17 e_h17) (len_c7_init e_h17) rfl rfl (Nat.le_of_ble_eq_true rfl) (gDep rfl) ⟨Nat.le_of_ble_eq_true rfl, Nat.le_of_ble_eq_true rfl⟩ ?_
  obtain ⟨h18, e_h18, hy⟩ := gBd hy
  refine g_aast K d_c5_init_48 e_h18 ?_
  refine g_iinc (ls2 := [(1, .int ((((0 : Int32) + (1 : Int32)) + (1 : Int32)) + (1 : Int32))), (0, .ref a0)]) (v := 1) K d_c5_init_49 0 rfl (by decide) rfl rfl ?_
  refine g_goto K d_c5_init_52 ?_
  refine g_iload_n K d_c5_init_30 0 rfl ?_
  refine g_bipush (v := 12) K d_c5_init_31 (by decide) ?_
  refine g_icmp_ge K d_c5_init_33 (fun c9 => absurd c9 (by decide)) (fun _ => ?_)
  refine g_aload_n K d_c5_init_36 1 rfl ?_
  obtain ⟨v19, e_v19, hy⟩ := gBd hy
  refine g_getR K fl_c5_11 d_c5_init_37 e_v19 ?_
  refine g_iload_n K d_c5_init_40 0 rfl ?_
  obtain ⟨h20, e_h20, hy⟩ := gBd hy
  refine g_new (ci := 7) (ty0 := gY7) K hx d_c5_init_41 rfl gIn7 gYo7 (gTk_1 178 rfl rfl) (gTk_1 103 rfl rfl) (gTk_1 5 rfl rfl) (by decide +kernel) rfl (Nat.le_of_ble_eq_true rfl) (Nat.le_of_ble_eq_true rfl) e_h20 ?_
  refine g_dup K d_c5_init_44 rfl ?_
  obtain ⟨h21, e_h21, hy⟩ := gBd hy
  refine g_callI (rest := [.ref h18.length, .int ((((0 : Int32) + (1 : Int32)) + (1 : Int32)) + (1 : Int32)), .ref v19]) K hx ly_c7_init ki_c5_24 d_c5_init_45 (ct_c7_init M.2.1 X hx N h18.length h20 h21 e_h21) (len_c7_init e_h21) rfl rfl (Nat.le_of_ble_eq_true rfl) (gDep rfl) ⟨Nat.le_of_ble_eq_true rfl, Nat.le_of_ble_eq_true rfl⟩ ?_
  obtain ⟨h22, e_h22, hy⟩ := gBd hy
  refine g_aast K d_c5_init_48 e_h22 ?_
  refine g_iinc (ls2 := [(1, .int (((((0 : Int32) + (1 : Int32)) + (1 : Int32)) + (1 : Int32)) + (1 : Int32))), (0, .ref a0)]) (v := 1) K d_c5_init_49 0 rfl (by decide) rfl rfl ?_
  refine g_goto K d_c5_init_52 ?_
  refine g_iload_n K d_c5_init_30 0 rfl ?_
  refine g_bipush (v := 12) K d_c5_init_31 (by decide) ?_
  refine g_icmp_ge K d_c5_init_33 (fun c9 => absurd c9 (by decide)) (fun _ => ?_)
  refine g_aload_n K d_c5_init_36 1 rfl ?_
  obtain ⟨v23, e_v23, hy⟩ := gBd hy
  refine g_getR K fl_c5_11 d_c5_init_37 e_v23 ?_
  refine g_iload_n K d_c5_init_40 0 rfl ?_
  obtain ⟨h24, e_h24, hy⟩ := gBd hy
  refine g_new (ci := 7) (ty0 := gY7) K hx d_c5_init_41 rfl gIn7 gYo7 (gTk_1 178 rfl rfl) (gTk_1 103 rfl rfl) (gTk_1 5 rfl rfl) (by decide +kernel) rfl (Nat.le_of_ble_eq_true rfl) (Nat.le_of_ble_eq_true rfl) e_h24 ?_
  refine g_dup K d_c5_init_44 rfl ?_
  obtain ⟨h25, e_h25, hy⟩ := gBd hy
  refine g_callI (rest := [.ref h22.length, .int (((((0 : Int32) + (1 : Int32)) + (1 : Int32)) + (1 : Int32)) + (1 : Int32)), .ref v23]) K hx ly_c7_init ki_c5_24 d_c5_init_45 (ct_c7_init M.2.1 X hx N h22.length h24 h25 e_h25) (len_c7_init e_h25) rfl rfl (Nat.le_of_ble_eq_true rfl) (gDep rfl) ⟨Nat.le_of_ble_eq_true rfl, Nat.le_of_ble_eq_true rfl⟩ ?_
  obtain ⟨h26, e_h26, hy⟩ := gBd hy
  refine g_aast K d_c5_init_48 e_h26 ?_
  refine g_iinc (ls2 := [(1, .int ((((((0 : Int32) + (1 : Int32)) + (1 : Int32)) + (1 : Int32)) + (1 : Int32)) + (1 : Int32))), (0, .ref a0)]) (v := 1) K d_c5_init_49 0 rfl (by decide) rfl rfl ?_
  refine g_goto K d_c5_init_52 ?_
  refine g_iload_n K d_c5_init_30 0 rfl ?_
  refine g_bipush (v := 12) K d_c5_init_31 (by decide) ?_
  refine g_icmp_ge K d_c5_init_33 (fun c9 => absurd c9 (by decide)) (fun _ => ?_)
  refine g_aload_n K d_c5_init_36 1 rfl ?_
  obtain ⟨v27, e_v27, hy⟩ := gBd hy
  refine g_getR K fl_c5_11 d_c5_init_37 e_v27 ?_
  refine g_iload_n K d_c5_init_40 0 rfl ?_
  obtain ⟨h28, e_h28, hy⟩ := gBd hy
  refine g_new (ci := 7) (ty0 := gY7) K hx d_c5_init_41 rfl gIn7 gYo7 (gTk_1 178 rfl rfl) (gTk_1 103 rfl rfl) (gTk_1 5 rfl rfl) (by decide +kernel) rfl (Nat.le_of_ble_eq_true rfl) (Nat.le_of_ble_eq_true rfl) e_h28 ?_
  refine g_dup K d_c5_init_44 rfl ?_
  obtain ⟨h29, e_h29, hy⟩ := gBd hy
  refine g_callI (rest := [.ref h26.length, .int ((((((0 : Int32) + (1 : Int32)) + (1 : Int32)) + (1 : Int32)) + (1 : Int32)) + (1 : Int32)), .ref v27]) K hx ly_c7_init ki_c5_24 d_c5_init_45 (ct_c7_init M.2.1 X hx N h26.length h28 h29 e_h29) (len_c7_init e_h29) rfl rfl (Nat.le_of_ble_eq_true rfl) (gDep rfl) ⟨Nat.le_of_ble_eq_true rfl, Nat.le_of_ble_eq_true rfl⟩ ?_
  obtain ⟨h30, e_h30, hy⟩ := gBd hy
  refine g_aast K d_c5_init_48 e_h30 ?_
  refine g_iinc (ls2 := [(1, .int (((((((0 : Int32) + (1 : Int32)) + (1 : Int32)) + (1 : Int32)) + (1 : Int32)) + (1 : Int32)) + (1 : Int32))), (0, .ref a0)]) (v := 1) K d_c5_init_49 0 rfl (by decide) rfl rfl ?_
  refine g_goto K d_c5_init_52 ?_
  refine g_iload_n K d_c5_init_30 0 rfl ?_
  refine g_bipush (v := 12) K d_c5_init_31 (by decide) ?_
  refine g_icmp_ge K d_c5_init_33 (fun c9 => absurd c9 (by decide)) (fun _ => ?_)
  refine g_aload_n K d_c5_init_36 1 rfl ?_
  obtain ⟨v31, e_v31, hy⟩ := gBd hy
  refine g_getR K fl_c5_11 d_c5_init_37 e_v31 ?_
  refine g_iload_n K d_c5_init_40 0 rfl ?_
  obtain ⟨h32, e_h32, hy⟩ := gBd hy
  refine g_new (ci := 7) (ty0 := gY7) K hx d_c5_init_41 rfl gIn7 gYo7 (gTk_1 178 rfl rfl) (gTk_1 103 rfl rfl) (gTk_1 5 rfl rfl) (by decide +kernel) rfl (Nat.le_of_ble_eq_true rfl) (Nat.le_of_ble_eq_true rfl) e_h32 ?_
  refine g_dup K d_c5_init_44 rfl ?_
  obtain ⟨h33, e_h33, hy⟩ := gBd hy
  refine g_callI (rest := [.ref h30.length, .int (((((((0 : Int32) + (1 : Int32)) + (1 : Int32)) + (1 : Int32)) + (1 : Int32)) + (1 : Int32)) + (1 : Int32)), .ref v31]) K hx ly_c7_init ki_c5_24 d_c5_init_45 (ct_c7_init M.2.1 X hx N h30.length h32 h33 e_h33) (len_c7_init e_h33) rfl rfl (Nat.le_of_ble_eq_true rfl) (gDep rfl) ⟨Nat.le_of_ble_eq_true rfl, Nat.le_of_ble_eq_true rfl⟩ ?_
  obtain ⟨h34, e_h34, hy⟩ := gBd hy
  refine g_aast K d_c5_init_48 e_h34 ?_
  refine g_iinc (ls2 := [(1, .int ((((((((0 : Int32) + (1 : Int32)) + (1 : Int32)) + (1 : Int32)) + (1 : Int32)) + (1 : Int32)) + (1 : Int32)) + (1 : Int32))), (0, .ref a0)]) (v := 1) K d_c5_init_49 0 rfl (by decide) rfl rfl ?_
  refine g_goto K d_c5_init_52 ?_
  refine g_iload_n K d_c5_init_30 0 rfl ?_
  refine g_bipush (v := 12) K d_c5_init_31 (by decide) ?_
  refine g_icmp_ge K d_c5_init_33 (fun c9 => absurd c9 (by decide)) (fun _ => ?_)
  refine g_aload_n K d_c5_init_36 1 rfl ?_
  obtain ⟨v35, e_v35, hy⟩ := gBd hy
  refine g_getR K fl_c5_11 d_c5_init_37 e_v35 ?_
  refine g_iload_n K d_c5_init_40 0 rfl ?_
  obtain ⟨h36, e_h36, hy⟩ := gBd hy
  refine g_new (ci := 7) (ty0 := gY7) K hx d_c5_init_41 rfl gIn7 gYo7 (gTk_1 178 rfl rfl) (gTk_1 103 rfl rfl) (gTk_1 5 rfl rfl) (by decide +kernel) rfl (Nat.le_of_ble_eq_true rfl) (Nat.le_of_ble_eq_true rfl) e_h36 ?_
  refine g_dup K d_c5_init_44 rfl ?_
  obtain ⟨h37, e_h37, hy⟩ := gBd hy
  refine g_callI (rest := [.ref h34.length, .int ((((((((0 : Int32) + (1 : Int32)) + (1 : Int32)) + (1 : Int32)) + (1 : Int32)) + (1 : Int32)) + (1 : Int32)) + (1 : Int32)), .ref v35]) K hx ly_c7_init ki_c5_24 d_c5_init_45 (ct_c7_init M.2.1 X hx N h34.length h36 h37 e_h37) (len_c7_init e_h37) rfl rfl (Nat.le_of_ble_eq_true rfl) (gDep rfl) ⟨Nat.le_of_ble_eq_true rfl, Nat.le_of_ble_eq_true rfl⟩ ?_
  obtain ⟨h38, e_h38, hy⟩ := gBd hy
  refine g_aast K d_c5_init_48 e_h38 ?_
  refine g_iinc (ls2 := [(1, .int (((((((((0 : Int32) + (1 : Int32)) + (1 : Int32)) + (1 : Int32)) + (1 : Int32)) + (1 : Int32)) + (1 : Int32)) + (1 : Int32)) + (1 : Int32))), (0, .ref a0)]) (v := 1) K d_c5_init_49 0 rfl (by decide) rfl rfl ?_
  refine g_goto K d_c5_init_52 ?_
  refine g_iload_n K d_c5_init_30 0 rfl ?_
  refine g_bipush (v := 12) K d_c5_init_31 (by decide) ?_
  refine g_icmp_ge K d_c5_init_33 (fun c9 => absurd c9 (by decide)) (fun _ => ?_)
  refine g_aload_n K d_c5_init_36 1 rfl ?_
  obtain ⟨v39, e_v39, hy⟩ := gBd hy
  refine g_getR K fl_c5_11 d_c5_init_37 e_v39 ?_
  refine g_iload_n K d_c5_init_40 0 rfl ?_
  obtain ⟨h40, e_h40, hy⟩ := gBd hy
  refine g_new (ci := 7) (ty0 := gY7) K hx d_c5_init_41 rfl gIn7 gYo7 (gTk_1 178 rfl rfl) (gTk_1 103 rfl rfl) (gTk_1 5 rfl rfl) (by decide +kernel) rfl (Nat.le_of_ble_eq_true rfl) (Nat.le_of_ble_eq_true rfl) e_h40 ?_
  refine g_dup K d_c5_init_44 rfl ?_
  obtain ⟨h41, e_h41, hy⟩ := gBd hy
  refine g_callI (rest := [.ref h38.length, .int (((((((((0 : Int32) + (1 : Int32)) + (1 : Int32)) + (1 : Int32)) + (1 : Int32)) + (1 : Int32)) + (1 : Int32)) + (1 : Int32)) + (1 : Int32)), .ref v39]) K hx ly_c7_init ki_c5_24 d_c5_init_45 (ct_c7_init M.2.1 X hx N h38.length h40 h41 e_h41) (len_c7_init e_h41) rfl rfl (Nat.le_of_ble_eq_true rfl) (gDep rfl) ⟨Nat.le_of_ble_eq_true rfl, Nat.le_of_ble_eq_true rfl⟩ ?_
  obtain ⟨h42, e_h42, hy⟩ := gBd hy
  refine g_aast K d_c5_init_48 e_h42 ?_
  refine g_iinc (ls2 := [(1, .int ((((((((((0 : Int32) + (1 : Int32)) + (1 : Int32)) + (1 : Int32)) + (1 : Int32)) + (1 : Int32)) + (1 : Int32)) + (1 : Int32)) + (1 : Int32)) + (1 : Int32))), (0, .ref a0)]) (v := 1) K d_c5_init_49 0 rfl (by decide) rfl rfl ?_
  refine g_goto K d_c5_init_52 ?_
  refine g_iload_n K d_c5_init_30 0 rfl ?_
  refine g_bipush (v := 12) K d_c5_init_31 (by decide) ?_
  refine g_icmp_ge K d_c5_init_33 (fun c9 => absurd c9 (by decide)) (fun _ => ?_)
  refine g_aload_n K d_c5_init_36 1 rfl ?_
  obtain ⟨v43, e_v43, hy⟩ := gBd hy
  refine g_getR K fl_c5_11 d_c5_init_37 e_v43 ?_
  refine g_iload_n K d_c5_init_40 0 rfl ?_
  obtain ⟨h44, e_h44, hy⟩ := gBd hy
  refine g_new (ci := 7) (ty0 := gY7) K hx d_c5_init_41 rfl gIn7 gYo7 (gTk_1 178 rfl rfl) (gTk_1 103 rfl rfl) (gTk_1 5 rfl rfl) (by decide +kernel) rfl (Nat.le_of_ble_eq_true rfl) (Nat.le_of_ble_eq_true rfl) e_h44 ?_
  refine g_dup K d_c5_init_44 rfl ?_
  obtain ⟨h45, e_h45, hy⟩ := gBd hy
  refine g_callI (rest := [.ref h42.length, .int ((((((((((0 : Int32) + (1 : Int32)) + (1 : Int32)) + (1 : Int32)) + (1 : Int32)) + (1 : Int32)) + (1 : Int32)) + (1 : Int32)) + (1 : Int32)) + (1 : Int32)), .ref v43]) K hx ly_c7_init ki_c5_24 d_c5_init_45 (ct_c7_init M.2.1 X hx N h42.length h44 h45 e_h45) (len_c7_init e_h45) rfl rfl (Nat.le_of_ble_eq_true rfl) (gDep rfl) ⟨Nat.le_of_ble_eq_true rfl, Nat.le_of_ble_eq_true rfl⟩ ?_
  obtain ⟨h46, e_h46, hy⟩ := gBd hy
  refine g_aast K d_c5_init_48 e_h46 ?_
  refine g_iinc (ls2 := [(1, .int (((((((((((0 : Int32) + (1 : Int32)) + (1 : Int32)) + (1 : Int32)) + (1 : Int32)) + (1 : Int32)) + (1 : Int32)) + (1 : Int32)) + (1 : Int32)) + (1 : Int32)) + (1 : Int32))), (0, .ref a0)]) (v := 1) K d_c5_init_49 0 rfl (by decide) rfl rfl ?_
  refine g_goto K d_c5_init_52 ?_
  refine g_iload_n K d_c5_init_30 0 rfl ?_
  refine g_bipush (v := 12) K d_c5_init_31 (by decide) ?_
  refine g_icmp_ge K d_c5_init_33 (fun c9 => absurd c9 (by decide)) (fun _ => ?_)
  refine g_aload_n K d_c5_init_36 1 rfl ?_
  obtain ⟨v47, e_v47, hy⟩ := gBd hy
  refine g_getR K fl_c5_11 d_c5_init_37 e_v47 ?_
  refine g_iload_n K d_c5_init_40 0 rfl ?_
  obtain ⟨h48, e_h48, hy⟩ := gBd hy
  refine g_new (ci := 7) (ty0 := gY7) K hx d_c5_init_41 rfl gIn7 gYo7 (gTk_1 178 rfl rfl) (gTk_1 103 rfl rfl) (gTk_1 5 rfl rfl) (by decide +kernel) rfl (Nat.le_of_ble_eq_true rfl) (Nat.le_of_ble_eq_true rfl) e_h48 ?_
  refine g_dup K d_c5_init_44 rfl ?_
  obtain ⟨h49, e_h49, hy⟩ := gBd hy
  refine g_callI (rest := [.ref h46.length, .int (((((((((((0 : Int32) + (1 : Int32)) + (1 : Int32)) + (1 : Int32)) + (1 : Int32)) + (1 : Int32)) + (1 : Int32)) + (1 : Int32)) + (1 : Int32)) + (1 : Int32)) + (1 : Int32)), .ref v47]) K hx ly_c7_init ki_c5_24 d_c5_init_45 (ct_c7_init M.2.1 X hx N h46.length h48 h49 e_h49) (len_c7_init e_h49) rfl rfl (Nat.le_of_ble_eq_true rfl) (gDep rfl) ⟨Nat.le_of_ble_eq_true rfl, Nat.le_of_ble_eq_true rfl⟩ ?_
  obtain ⟨h50, e_h50, hy⟩ := gBd hy
  refine g_aast K d_c5_init_48 e_h50 ?_
  refine g_iinc (ls2 := [(1, .int ((((((((((((0 : Int32) + (1 : Int32)) + (1 : Int32)) + (1 : Int32)) + (1 : Int32)) + (1 : Int32)) + (1 : Int32)) + (1 : Int32)) + (1 : Int32)) + (1 : Int32)) + (1 : Int32)) + (1 : Int32))), (0, .ref a0)]) (v := 1) K d_c5_init_49 0 rfl (by decide) rfl rfl ?_
  refine g_goto K d_c5_init_52 ?_
  refine g_iload_n K d_c5_init_30 0 rfl ?_
  refine g_bipush (v := 12) K d_c5_init_31 (by decide) ?_
  refine g_icmp_ge K d_c5_init_33 (fun c9 => absurd c9 (by decide)) (fun _ => ?_)
  refine g_aload_n K d_c5_init_36 1 rfl ?_
  obtain ⟨v51, e_v51, hy⟩ := gBd hy
  refine g_getR K fl_c5_11 d_c5_init_37 e_v51 ?_
  refine g_iload_n K d_c5_init_40 0 rfl ?_
  obtain ⟨h52, e_h52, hy⟩ := gBd hy
  refine g_new (ci := 7) (ty0 := gY7) K hx d_c5_init_41 rfl gIn7 gYo7 (gTk_1 178 rfl rfl) (gTk_1 103 rfl rfl) (gTk_1 5 rfl rfl) (by decide +kernel) rfl (Nat.le_of_ble_eq_true rfl) (Nat.le_of_ble_eq_true rfl) e_h52 ?_
  refine g_dup K d_c5_init_44 rfl ?_
  obtain ⟨h53, e_h53, hy⟩ := gBd hy
  refine g_callI (rest := [.ref h50.length, .int ((((((((((((0 : Int32) + (1 : Int32)) + (1 : Int32)) + (1 : Int32)) + (1 : Int32)) + (1 : Int32)) + (1 : Int32)) + (1 : Int32)) + (1 : Int32)) + (1 : Int32)) + (1 : Int32)) + (1 : Int32)), .ref v51]) K hx ly_c7_init ki_c5_24 d_c5_init_45 (ct_c7_init M.2.1 X hx N h50.length h52 h53 e_h53) (len_c7_init e_h53) rfl rfl (Nat.le_of_ble_eq_true rfl) (gDep rfl) ⟨Nat.le_of_ble_eq_true rfl, Nat.le_of_ble_eq_true rfl⟩ ?_
  obtain ⟨h54, e_h54, hy⟩ := gBd hy
  refine g_aast K d_c5_init_48 e_h54 ?_
  refine g_iinc (ls2 := [(1, .int (((((((((((((0 : Int32) + (1 : Int32)) + (1 : Int32)) + (1 : Int32)) + (1 : Int32)) + (1 : Int32)) + (1 : Int32)) + (1 : Int32)) + (1 : Int32)) + (1 : Int32)) + (1 : Int32)) + (1 : Int32)) + (1 : Int32))), (0, .ref a0)]) (v := 1) K d_c5_init_49 0 rfl (by decide) rfl rfl ?_
  refine g_goto K d_c5_init_52 ?_
  refine g_iload_n K d_c5_init_30 0 rfl ?_
  refine g_bipush (v := 12) K d_c5_init_31 (by decide) ?_
  refine g_icmp_ge K d_c5_init_33 (fun _ => ?_) (fun c9 => absurd (by decide) c9)
  refine g_iconst (v := 0) K d_c5_init_55 (by decide) ?_
  refine g_istore_n (ls2 := [(1, .int (0 : Int32)), (0, .ref a0)]) K d_c5_init_56 rfl rfl ?_
  refine g_iload_n K d_c5_init_57 0 rfl ?_
  refine g_iconst (v := 2) K d_c5_init_58 (by decide) ?_
  refine g_icmp_ge K d_c5_init_59 (fun c9 => absurd c9 (by decide)) (fun _ => ?_)
  refine g_aload_n K d_c5_init_62 1 rfl ?_
  obtain ⟨v55, e_v55, hy⟩ := gBd hy
  refine g_getR K fl_c5_17 d_c5_init_63 e_v55 ?_
  refine g_iload_n K d_c5_init_66 0 rfl ?_
  obtain ⟨h56, e_h56, hy⟩ := gBd hy
  refine g_new (ci := 7) (ty0 := gY7) K hx d_c5_init_67 rfl gIn7 gYo7 (gTk_1 178 rfl rfl) (gTk_1 103 rfl rfl) (gTk_1 5 rfl rfl) (by decide +kernel) rfl (Nat.le_of_ble_eq_true rfl) (Nat.le_of_ble_eq_true rfl) e_h56 ?_
  refine g_dup K d_c5_init_70 rfl ?_
  obtain ⟨h57, e_h57, hy⟩ := gBd hy
  refine g_callI (rest := [.ref h54.length, .int (0 : Int32), .ref v55]) K hx ly_c7_init ki_c5_24 d_c5_init_71 (ct_c7_init M.2.1 X hx N h54.length h56 h57 e_h57) (len_c7_init e_h57) rfl rfl (Nat.le_of_ble_eq_true rfl) (gDep rfl) ⟨Nat.le_of_ble_eq_true rfl, Nat.le_of_ble_eq_true rfl⟩ ?_
  obtain ⟨h58, e_h58, hy⟩ := gBd hy
  refine g_aast K d_c5_init_74 e_h58 ?_
  refine g_iinc (ls2 := [(1, .int ((0 : Int32) + (1 : Int32))), (0, .ref a0)]) (v := 1) K d_c5_init_75 0 rfl (by decide) rfl rfl ?_
  refine g_goto K d_c5_init_78 ?_
  refine g_iload_n K d_c5_init_57 0 rfl ?_
  refine g_iconst (v := 2) K d_c5_init_58 (by decide) ?_
  refine g_icmp_ge K d_c5_init_59 (fun c9 => absurd c9 (by decide)) (fun _ => ?_)
  refine g_aload_n K d_c5_init_62 1 rfl ?_
  obtain ⟨v59, e_v59, hy⟩ := gBd hy
  refine g_getR K fl_c5_17 d_c5_init_63 e_v59 ?_
  refine g_iload_n K d_c5_init_66 0 rfl ?_
  obtain ⟨h60, e_h60, hy⟩ := gBd hy
  refine g_new (ci := 7) (ty0 := gY7) K hx d_c5_init_67 rfl gIn7 gYo7 (gTk_1 178 rfl rfl) (gTk_1 103 rfl rfl) (gTk_1 5 rfl rfl) (by decide +kernel) rfl (Nat.le_of_ble_eq_true rfl) (Nat.le_of_ble_eq_true rfl) e_h60 ?_
  refine g_dup K d_c5_init_70 rfl ?_
  obtain ⟨h61, e_h61, hy⟩ := gBd hy
  refine g_callI (rest := [.ref h58.length, .int ((0 : Int32) + (1 : Int32)), .ref v59]) K hx ly_c7_init ki_c5_24 d_c5_init_71 (ct_c7_init M.2.1 X hx N h58.length h60 h61 e_h61) (len_c7_init e_h61) rfl rfl (Nat.le_of_ble_eq_true rfl) (gDep rfl) ⟨Nat.le_of_ble_eq_true rfl, Nat.le_of_ble_eq_true rfl⟩ ?_
  obtain ⟨h62, e_h62, hy⟩ := gBd hy
  refine g_aast K d_c5_init_74 e_h62 ?_
  refine g_iinc (ls2 := [(1, .int (((0 : Int32) + (1 : Int32)) + (1 : Int32))), (0, .ref a0)]) (v := 1) K d_c5_init_75 0 rfl (by decide) rfl rfl ?_
  refine g_goto K d_c5_init_78 ?_
  refine g_iload_n K d_c5_init_57 0 rfl ?_
  refine g_iconst (v := 2) K d_c5_init_58 (by decide) ?_
  refine g_icmp_ge K d_c5_init_59 (fun _ => ?_) (fun c9 => absurd (by decide) c9)
  obtain rfl := Option.some.inj hy
  exact hret _ _ _ d_c5_init_81

-- c10 init
theorem d_c10_init_0 : gD b_c10_init 0 (.aload_n 0) 1 1 := ⟨by decide +kernel, rfl⟩
theorem d_c10_init_1 : gD b_c10_init 1 (.invokespecial 1) 3 4 := ⟨by decide +kernel, rfl⟩
theorem d_c10_init_4 : gD b_c10_init 4 (.aload_n 0) 1 5 := ⟨by decide +kernel, rfl⟩
theorem d_c10_init_5 : gD b_c10_init 5 (.new 7) 3 8 := ⟨by decide +kernel, rfl⟩
theorem d_c10_init_8 : gD b_c10_init 8 .dup 1 9 := ⟨by decide +kernel, rfl⟩
theorem d_c10_init_9 : gD b_c10_init 9 (.invokespecial 9) 3 12 := ⟨by decide +kernel, rfl⟩
theorem d_c10_init_12 : gD b_c10_init 12 (.putfield 10) 3 15 := ⟨by decide +kernel, rfl⟩
theorem d_c10_init_15 : gD b_c10_init 15 (.aload_n 0) 1 16 := ⟨by decide +kernel, rfl⟩
theorem d_c10_init_16 : gD b_c10_init 16 (.new 16) 3 19 := ⟨by decide +kernel, rfl⟩
theorem d_c10_init_19 : gD b_c10_init 19 .dup 1 20 := ⟨by decide +kernel, rfl⟩
theorem d_c10_init_20 : gD b_c10_init 20 (.invokespecial 18) 3 23 := ⟨by decide +kernel, rfl⟩
theorem d_c10_init_23 : gD b_c10_init 23 (.putfield 19) 3 26 := ⟨by decide +kernel, rfl⟩
theorem d_c10_init_26 : gD b_c10_init 26 (.aload_n 0) 1 27 := ⟨by decide +kernel, rfl⟩
theorem d_c10_init_27 : gD b_c10_init 27 (.new 23) 3 30 := ⟨by decide +kernel, rfl⟩
theorem d_c10_init_30 : gD b_c10_init 30 .dup 1 31 := ⟨by decide +kernel, rfl⟩
theorem d_c10_init_31 : gD b_c10_init 31 (.invokespecial 25) 3 34 := ⟨by decide +kernel, rfl⟩
theorem d_c10_init_34 : gD b_c10_init 34 (.putfield 26) 3 37 := ⟨by decide +kernel, rfl⟩
theorem d_c10_init_37 : gD b_c10_init 37 (.aload_n 0) 1 38 := ⟨by decide +kernel, rfl⟩
theorem d_c10_init_38 : gD b_c10_init 38 (.new 30) 3 41 := ⟨by decide +kernel, rfl⟩
theorem d_c10_init_41 : gD b_c10_init 41 .dup 1 42 := ⟨by decide +kernel, rfl⟩
theorem d_c10_init_42 : gD b_c10_init 42 (.invokespecial 32) 3 45 := ⟨by decide +kernel, rfl⟩
theorem d_c10_init_45 : gD b_c10_init 45 (.putfield 33) 3 48 := ⟨by decide +kernel, rfl⟩
theorem d_c10_init_48 : gD b_c10_init 48 (.aload_n 0) 1 49 := ⟨by decide +kernel, rfl⟩
theorem d_c10_init_49 : gD b_c10_init 49 (.new 30) 3 52 := ⟨by decide +kernel, rfl⟩
theorem d_c10_init_52 : gD b_c10_init 52 .dup 1 53 := ⟨by decide +kernel, rfl⟩
theorem d_c10_init_53 : gD b_c10_init 53 (.invokespecial 32) 3 56 := ⟨by decide +kernel, rfl⟩
theorem d_c10_init_56 : gD b_c10_init 56 (.putfield 37) 3 59 := ⟨by decide +kernel, rfl⟩
theorem d_c10_init_59 : gD b_c10_init 59 (.aload_n 0) 1 60 := ⟨by decide +kernel, rfl⟩
theorem d_c10_init_60 : gD b_c10_init 60 (.new 30) 3 63 := ⟨by decide +kernel, rfl⟩
theorem d_c10_init_63 : gD b_c10_init 63 .dup 1 64 := ⟨by decide +kernel, rfl⟩
theorem d_c10_init_64 : gD b_c10_init 64 (.invokespecial 32) 3 67 := ⟨by decide +kernel, rfl⟩
theorem d_c10_init_67 : gD b_c10_init 67 (.putfield 40) 3 70 := ⟨by decide +kernel, rfl⟩
theorem d_c10_init_70 : gD b_c10_init 70 (.aload_n 0) 1 71 := ⟨by decide +kernel, rfl⟩
theorem d_c10_init_71 : gD b_c10_init 71 (.new 43) 3 74 := ⟨by decide +kernel, rfl⟩
theorem d_c10_init_74 : gD b_c10_init 74 .dup 1 75 := ⟨by decide +kernel, rfl⟩
theorem d_c10_init_75 : gD b_c10_init 75 (.invokespecial 45) 3 78 := ⟨by decide +kernel, rfl⟩
theorem d_c10_init_78 : gD b_c10_init 78 (.putfield 46) 3 81 := ⟨by decide +kernel, rfl⟩
theorem d_c10_init_81 : gD b_c10_init 81 (.aload_n 0) 1 82 := ⟨by decide +kernel, rfl⟩
theorem d_c10_init_82 : gD b_c10_init 82 (.new 50) 3 85 := ⟨by decide +kernel, rfl⟩
theorem d_c10_init_85 : gD b_c10_init 85 .dup 1 86 := ⟨by decide +kernel, rfl⟩
theorem d_c10_init_86 : gD b_c10_init 86 (.invokespecial 52) 3 89 := ⟨by decide +kernel, rfl⟩
theorem d_c10_init_89 : gD b_c10_init 89 (.putfield 53) 3 92 := ⟨by decide +kernel, rfl⟩
theorem d_c10_init_92 : gD b_c10_init 92 (.aload_n 0) 1 93 := ⟨by decide +kernel, rfl⟩
theorem d_c10_init_93 : gD b_c10_init 93 (.new 57) 3 96 := ⟨by decide +kernel, rfl⟩
theorem d_c10_init_96 : gD b_c10_init 96 .dup 1 97 := ⟨by decide +kernel, rfl⟩
theorem d_c10_init_97 : gD b_c10_init 97 (.invokespecial 59) 3 100 := ⟨by decide +kernel, rfl⟩
theorem d_c10_init_100 : gD b_c10_init 100 (.putfield 60) 3 103 := ⟨by decide +kernel, rfl⟩
theorem d_c10_init_103 : gD b_c10_init 103 (.aload_n 0) 1 104 := ⟨by decide +kernel, rfl⟩
theorem d_c10_init_104 : gD b_c10_init 104 (.new 64) 3 107 := ⟨by decide +kernel, rfl⟩
theorem d_c10_init_107 : gD b_c10_init 107 .dup 1 108 := ⟨by decide +kernel, rfl⟩
theorem d_c10_init_108 : gD b_c10_init 108 (.invokespecial 66) 3 111 := ⟨by decide +kernel, rfl⟩
theorem d_c10_init_111 : gD b_c10_init 111 (.putfield 67) 3 114 := ⟨by decide +kernel, rfl⟩
theorem d_c10_init_114 : gD b_c10_init 114 (.aload_n 0) 1 115 := ⟨by decide +kernel, rfl⟩
theorem d_c10_init_115 : gD b_c10_init 115 (.new 71) 3 118 := ⟨by decide +kernel, rfl⟩
theorem d_c10_init_118 : gD b_c10_init 118 .dup 1 119 := ⟨by decide +kernel, rfl⟩
theorem d_c10_init_119 : gD b_c10_init 119 (.invokespecial 73) 3 122 := ⟨by decide +kernel, rfl⟩
theorem d_c10_init_122 : gD b_c10_init 122 (.putfield 74) 3 125 := ⟨by decide +kernel, rfl⟩
theorem d_c10_init_125 : gD b_c10_init 125 (.aload_n 0) 1 126 := ⟨by decide +kernel, rfl⟩
theorem d_c10_init_126 : gD b_c10_init 126 (.new 78) 3 129 := ⟨by decide +kernel, rfl⟩
theorem d_c10_init_129 : gD b_c10_init 129 .dup 1 130 := ⟨by decide +kernel, rfl⟩
theorem d_c10_init_130 : gD b_c10_init 130 (.invokespecial 80) 3 133 := ⟨by decide +kernel, rfl⟩
theorem d_c10_init_133 : gD b_c10_init 133 (.putfield 81) 3 136 := ⟨by decide +kernel, rfl⟩
theorem d_c10_init_136 : gD b_c10_init 136 (.aload_n 0) 1 137 := ⟨by decide +kernel, rfl⟩
theorem d_c10_init_137 : gD b_c10_init 137 (.new 78) 3 140 := ⟨by decide +kernel, rfl⟩
theorem d_c10_init_140 : gD b_c10_init 140 .dup 1 141 := ⟨by decide +kernel, rfl⟩
theorem d_c10_init_141 : gD b_c10_init 141 (.invokespecial 80) 3 144 := ⟨by decide +kernel, rfl⟩
theorem d_c10_init_144 : gD b_c10_init 144 (.putfield 85) 3 147 := ⟨by decide +kernel, rfl⟩
theorem d_c10_init_147 : gD b_c10_init 147 (.aload_n 0) 1 148 := ⟨by decide +kernel, rfl⟩
theorem d_c10_init_148 : gD b_c10_init 148 (.getfield 81) 3 151 := ⟨by decide +kernel, rfl⟩
theorem d_c10_init_151 : gD b_c10_init 151 (.getstatic 88) 3 154 := ⟨by decide +kernel, rfl⟩
theorem d_c10_init_154 : gD b_c10_init 154 (.getstatic 88) 3 157 := ⟨by decide +kernel, rfl⟩
theorem d_c10_init_157 : gD b_c10_init 157 .arraylength 1 158 := ⟨by decide +kernel, rfl⟩
theorem d_c10_init_158 : gD b_c10_init 158 (.invokevirtual 92) 3 161 := ⟨by decide +kernel, rfl⟩
theorem d_c10_init_161 : gD b_c10_init 161 .pop 1 162 := ⟨by decide +kernel, rfl⟩
theorem d_c10_init_162 : gD b_c10_init 162 .return_ 1 163 := ⟨by decide +kernel, rfl⟩
def f_c10_init (N : Nat) (a0 : Nat) (h : gH) : Option gH :=
  (nO 8 [.null, .int 0] h).bind fun h1 =>
  (f_c8_init N h.length h1).bind fun h2 =>
  (sf h2 a0 10 0 (.ref h.length)).bind fun h3 =>
  (nO 4 [.null, .int 0] h3).bind fun h4 =>
  (f_c4_init N h3.length h4).bind fun h5 =>
  (sf h5 a0 10 1 (.ref h3.length)).bind fun h6 =>
  (nO 1 [.int 0, .int 0, .int 0, .null, .null, .null] h6).bind fun h7 =>
  (f_c1_init N h6.length h7).bind fun h8 =>
  (sf h8 a0 10 2 (.ref h6.length)).bind fun h9 =>
  (nO 7 [.int 0, .null, .null, .null, .null, .null, .int 0, .int 0] h9).bind fun h10 =>
  (f_c7_init N h9.length h10).bind fun h11 =>
  (sf h11 a0 10 3 (.ref h9.length)).bind fun h12 =>
  (nO 7 [.int 0, .null, .null, .null, .null, .null, .int 0, .int 0] h12).bind fun h13 =>
  (f_c7_init N h12.length h13).bind fun h14 =>
  (sf h14 a0 10 4 (.ref h12.length)).bind fun h15 =>
  (nO 7 [.int 0, .null, .null, .null, .null, .null, .int 0, .int 0] h15).bind fun h16 =>
  (f_c7_init N h15.length h16).bind fun h17 =>
  (sf h17 a0 10 5 (.ref h15.length)).bind fun h18 =>
  (nO 0 [.null, .null] h18).bind fun h19 =>
  (f_c0_init N h18.length h19).bind fun h20 =>
  (sf h20 a0 10 6 (.ref h18.length)).bind fun h21 =>
  (nO 5 [.null, .null, .null, .int 0] h21).bind fun h22 =>
  (f_c5_init N h21.length h22).bind fun h23 =>
  (sf h23 a0 10 7 (.ref h21.length)).bind fun h24 =>
  (nO 2 [.null, .null, .int 0] h24).bind fun h25 =>
  (f_c2_init N h24.length h25).bind fun h26 =>
  (sf h26 a0 10 8 (.ref h24.length)).bind fun h27 =>
  (nO 9 [.null, .null, .null] h27).bind fun h28 =>
  (f_c9_init N h27.length h28).bind fun h29 =>
  (sf h29 a0 10 9 (.ref h27.length)).bind fun h30 =>
  (nO 3 [.int 0] h30).bind fun h31 =>
  (f_c3_init N h30.length h31).bind fun h32 =>
  (sf h32 a0 10 10 (.ref h30.length)).bind fun h33 =>
  (nO 6 [.null, .null, .null, .int 0, .int 0, .int 0, .int 0, .int 0, .int 0] h33).bind fun h34 =>
  (f_c6_init N h33.length h34).bind fun h35 =>
  (sf h35 a0 10 11 (.ref h33.length)).bind fun h36 =>
  (nO 6 [.null, .null, .null, .int 0, .int 0, .int 0, .int 0, .int 0, .int 0] h36).bind fun h37 =>
  (f_c6_init N h36.length h37).bind fun h38 =>
  (sf h38 a0 10 12 (.ref h36.length)).bind fun h39 =>
  (gfR h39 a0 10 11).bind fun v40 =>
  (gn h39 1).bind fun v41 =>
  (f_c6_read N v40 1 v41 h39).bind fun q42 =>
  some q42.2
set_option maxHeartbeats 4000000 in
set_option maxRecDepth 100000 in
theorem ct_c10_init (l : Launch) (X : gX) (hx : gEx X = true) (N : Nat) (a0 : Nat) (h : gH) (h0 : gH) (hy : f_c10_init N a0 h = some h0) (hlen : h0.length = h.length + 133) : gMv l X y_c10_init b_c10_init 1 (6 + N) 133 3697 [.ref a0] h h0 := by
  unfold f_c10_init at hy
  refine gMet_init (lsx := [(0, .ref a0)]) (by decide) rfl rfl rfl ?_
  intro M hMl hnm K hret
  subst hMl
  refine g_aload_n K d_c10_init_0 0 rfl ?_
  refine g_objInit K d_c10_init_1 (gTk_1 29 rfl rfl) (gDep1 rfl) (Nat.le_of_ble_eq_true rfl) ?_
  refine g_aload_n K d_c10_init_4 0 rfl ?_
  obtain ⟨h1, e_h1, hy⟩ := gBd hy
  refine g_new (ci := 8) (ty0 := gY8) K hx d_c10_init_5 rfl gIn8 gYo8 (gTk_1 32 rfl rfl) (gTk_1 33 rfl rfl) (gTk_1 2 rfl rfl) (by decide +kernel) rfl (Nat.le_of_ble_eq_true rfl) (Nat.le_of_ble_eq_true rfl) e_h1 ?_
  refine g_dup K d_c10_init_8 rfl ?_
  obtain ⟨h2, e_h2, hy⟩ := gBd hy
  refine g_callI (rest := [.ref h.length, .ref a0]) K hx ly_c8_init ki_c10_9 d_c10_init_9 (ct_c8_init M.2.1 X hx N h.length h1 h2 e_h2) (len_c8_init e_h2) rfl rfl (Nat.le_of_ble_eq_true rfl) (gDep rfl) ⟨Nat.le_of_ble_eq_true rfl, Nat.le_of_ble_eq_true rfl⟩ ?_
  obtain ⟨h3, e_h3, hy⟩ := gBd hy
  refine g_putF hnm K fq_c10_10 d_c10_init_12 e_h3 rfl rfl ?_
  refine g_aload_n K d_c10_init_15 0 rfl ?_
  obtain ⟨h4, e_h4, hy⟩ := gBd hy
  refine g_new (ci := 4) (ty0 := gY4) K hx d_c10_init_16 rfl gIn4 gYo4 (gTk_1 49 rfl rfl) (gTk_1 50 rfl rfl) (gTk_1 3 rfl rfl) (by decide +kernel) rfl (Nat.le_of_ble_eq_true rfl) (Nat.le_of_ble_eq_true rfl) e_h4 ?_
  refine g_dup K d_c10_init_19 rfl ?_
  obtain ⟨h5, e_h5, hy⟩ := gBd hy
  refine g_callI (rest := [.ref h3.length, .ref a0]) K hx ly_c4_init ki_c10_18 d_c10_init_20 (ct_c4_init M.2.1 X hx N h3.length h4 h5 e_h5) (len_c4_init e_h5) rfl rfl (Nat.le_of_ble_eq_true rfl) (gDep rfl) ⟨Nat.le_of_ble_eq_true rfl, Nat.le_of_ble_eq_true rfl⟩ ?_
  obtain ⟨h6, e_h6, hy⟩ := gBd hy
  refine g_putF hnm K fq_c10_19 d_c10_init_23 e_h6 rfl rfl ?_
  refine g_aload_n K d_c10_init_26 0 rfl ?_
  obtain ⟨h7, e_h7, hy⟩ := gBd hy
  refine g_new (ci := 1) (ty0 := gY1) K hx d_c10_init_27 rfl gIn1 gYo1 (gTk_1 65 rfl rfl) (gTk_1 66 rfl rfl) (gTk_1 4 rfl rfl) (by decide +kernel) rfl (Nat.le_of_ble_eq_true rfl) (Nat.le_of_ble_eq_true rfl) e_h7 ?_
  refine g_dup K d_c10_init_30 rfl ?_
  obtain ⟨h8, e_h8, hy⟩ := gBd hy
  refine g_callI (rest := [.ref h6.length, .ref a0]) K hx ly_c1_init ki_c10_25 d_c10_init_31 (ct_c1_init M.2.1 X hx N h6.length h7 h8 e_h8) (len_c1_init e_h8) rfl rfl (Nat.le_of_ble_eq_true rfl) (gDep rfl) ⟨Nat.le_of_ble_eq_true rfl, Nat.le_of_ble_eq_true rfl⟩ ?_
  obtain ⟨h9, e_h9, hy⟩ := gBd hy
  refine g_putF hnm K fq_c10_26 d_c10_init_34 e_h9 rfl rfl ?_
  refine g_aload_n K d_c10_init_37 0 rfl ?_
  obtain ⟨h10, e_h10, hy⟩ := gBd hy
  refine g_new (ci := 7) (ty0 := gY7) K hx d_c10_init_38 rfl gIn7 gYo7 (gTk_1 102 rfl rfl) (gTk_1 103 rfl rfl) (gTk_1 5 rfl rfl) (by decide +kernel) rfl (Nat.le_of_ble_eq_true rfl) (Nat.le_of_ble_eq_true rfl) e_h10 ?_
  refine g_dup K d_c10_init_41 rfl ?_
  obtain ⟨h11, e_h11, hy⟩ := gBd hy
  refine g_callI (rest := [.ref h9.length, .ref a0]) K hx ly_c7_init ki_c10_32 d_c10_init_42 (ct_c7_init M.2.1 X hx N h9.length h10 h11 e_h11) (len_c7_init e_h11) rfl rfl (Nat.le_of_ble_eq_true rfl) (gDep rfl) ⟨Nat.le_of_ble_eq_true rfl, Nat.le_of_ble_eq_true rfl⟩ ?_
  obtain ⟨h12, e_h12, hy⟩ := gBd hy
  refine g_putF hnm K fq_c10_33 d_c10_init_45 e_h12 rfl rfl ?_
  refine g_aload_n K d_c10_init_48 0 rfl ?_
  obtain ⟨h13, e_h13, hy⟩ := gBd hy
  refine g_new (ci := 7) (ty0 := gY7) K hx d_c10_init_49 rfl gIn7 gYo7 (gTk_1 102 rfl rfl) (gTk_1 103 rfl rfl) (gTk_1 5 rfl rfl) (by decide +kernel) rfl (Nat.le_of_ble_eq_true rfl) (Nat.le_of_ble_eq_true rfl) e_h13 ?_
  refine g_dup K d_c10_init_52 rfl ?_
  obtain ⟨h14, e_h14, hy⟩ := gBd hy
  refine g_callI (rest := [.ref h12.length, .ref a0]) K hx ly_c7_init ki_c10_32 d_c10_init_53 (ct_c7_init M.2.1 X hx N h12.length h13 h14 e_h14) (len_c7_init e_h14) rfl rfl (Nat.le_of_ble_eq_true rfl) (gDep rfl) ⟨Nat.le_of_ble_eq_true rfl, Nat.le_of_ble_eq_true rfl⟩ ?_
  obtain ⟨h15, e_h15, hy⟩ := gBd hy
  refine g_putF hnm K fq_c10_37 d_c10_init_56 e_h15 rfl rfl ?_
  refine g_aload_n K d_c10_init_59 0 rfl ?_
  obtain ⟨h16, e_h16, hy⟩ := gBd hy
  refine g_new (ci := 7) (ty0 := gY7) K hx d_c10_init_60 rfl gIn7 gYo7 (gTk_1 102 rfl rfl) (gTk_1 103 rfl rfl) (gTk_1 5 rfl rfl) (by decide +kernel) rfl (Nat.le_of_ble_eq_true rfl) (Nat.le_of_ble_eq_true rfl) e_h16 ?_
  refine g_dup K d_c10_init_63 rfl ?_
  obtain ⟨h17, e_h17, hy⟩ := gBd hy
  refine g_callI (rest := [.ref h15.length, .ref a0]) K hx ly_c7_init ki_c10_32 d_c10_init_64 (ct_c7_init M.2.1 X hx N h15.length h16 h17 e_h17) (len_c7_init e_h17) rfl rfl (Nat.le_of_ble_eq_true rfl) (gDep rfl) ⟨Nat.le_of_ble_eq_true rfl, Nat.le_of_ble_eq_true rfl⟩ ?_
  obtain ⟨h18, e_h18, hy⟩ := gBd hy
  refine g_putF hnm K fq_c10_40 d_c10_init_67 e_h18 rfl rfl ?_
  refine g_aload_n K d_c10_init_70 0 rfl ?_
  obtain ⟨h19, e_h19, hy⟩ := gBd hy
  refine g_new (ci := 0) (ty0 := gY0) K hx d_c10_init_71 rfl gIn0 gYo0 (gTk_1 157 rfl rfl) (gTk_1 158 rfl rfl) (gTk_1 6 rfl rfl) (by decide +kernel) rfl (Nat.le_of_ble_eq_true rfl) (Nat.le_of_ble_eq_true rfl) e_h19 ?_
  refine g_dup K d_c10_init_74 rfl ?_
  obtain ⟨h20, e_h20, hy⟩ := gBd hy
  refine g_callI (rest := [.ref h18.length, .ref a0]) K hx ly_c0_init ki_c10_45 d_c10_init_75 (ct_c0_init M.2.1 X hx N h18.length h19 h20 e_h20) (len_c0_init e_h20) rfl rfl (Nat.le_of_ble_eq_true rfl) (gDep rfl) ⟨Nat.le_of_ble_eq_true rfl, Nat.le_of_ble_eq_true rfl⟩ ?_
  obtain ⟨h21, e_h21, hy⟩ := gBd hy
  refine g_putF hnm K fq_c10_46 d_c10_init_78 e_h21 rfl rfl ?_
  refine g_aload_n K d_c10_init_81 0 rfl ?_
  obtain ⟨h22, e_h22, hy⟩ := gBd hy
  refine g_new (ci := 5) (ty0 := gY5) K hx d_c10_init_82 rfl gIn5 gYo5 (gTk_1 172 rfl rfl) (gTk_1 173 rfl rfl) (gTk_1 7 rfl rfl) (by decide +kernel) rfl (Nat.le_of_ble_eq_true rfl) (Nat.le_of_ble_eq_true rfl) e_h22 ?_
  refine g_dup K d_c10_init_85 rfl ?_
  obtain ⟨h23, e_h23, hy⟩ := gBd hy
  refine g_callI (rest := [.ref h21.length, .ref a0]) K hx ly_c5_init ki_c10_52 d_c10_init_86 (ct_c5_init M.2.1 X hx N h21.length h22 h23 e_h23) (len_c5_init e_h23) rfl rfl (Nat.le_of_ble_eq_true rfl) (gDep rfl) ⟨Nat.le_of_ble_eq_true rfl, Nat.le_of_ble_eq_true rfl⟩ ?_
  obtain ⟨h24, e_h24, hy⟩ := gBd hy
  refine g_putF hnm K fq_c10_53 d_c10_init_89 e_h24 rfl rfl ?_
  refine g_aload_n K d_c10_init_92 0 rfl ?_
  obtain ⟨h25, e_h25, hy⟩ := gBd hy
  refine g_new (ci := 2) (ty0 := gY2) K hx d_c10_init_93 rfl gIn2 gYo2 (gTk_1 196 rfl rfl) (gTk_1 197 rfl rfl) (gTk_1 8 rfl rfl) (by decide +kernel) rfl (Nat.le_of_ble_eq_true rfl) (Nat.le_of_ble_eq_true rfl) e_h25 ?_
  refine g_dup K d_c10_init_96 rfl ?_
  obtain ⟨h26, e_h26, hy⟩ := gBd hy
  refine g_callI (rest := [.ref h24.length, .ref a0]) K hx ly_c2_init ki_c10_59 d_c10_init_97 (ct_c2_init M.2.1 X hx N h24.length h25 h26 e_h26) (len_c2_init e_h26) rfl rfl (Nat.le_of_ble_eq_true rfl) (gDep rfl) ⟨Nat.le_of_ble_eq_true rfl, Nat.le_of_ble_eq_true rfl⟩ ?_
  obtain ⟨h27, e_h27, hy⟩ := gBd hy
  refine g_putF hnm K fq_c10_60 d_c10_init_100 e_h27 rfl rfl ?_
  refine g_aload_n K d_c10_init_103 0 rfl ?_
  obtain ⟨h28, e_h28, hy⟩ := gBd hy
  refine g_new (ci := 9) (ty0 := gY9) K hx d_c10_init_104 rfl gIn9 gYo9 (gTk_1 213 rfl rfl) (gTk_1 214 rfl rfl) (gTk_1 9 rfl rfl) (by decide +kernel) rfl (Nat.le_of_ble_eq_true rfl) (Nat.le_of_ble_eq_true rfl) e_h28 ?_
  refine g_dup K d_c10_init_107 rfl ?_
  obtain ⟨h29, e_h29, hy⟩ := gBd hy
  refine g_callI (rest := [.ref h27.length, .ref a0]) K hx ly_c9_init ki_c10_66 d_c10_init_108 (ct_c9_init M.2.1 X hx N h27.length h28 h29 e_h29) (len_c9_init e_h29) rfl rfl (Nat.le_of_ble_eq_true rfl) (gDep rfl) ⟨Nat.le_of_ble_eq_true rfl, Nat.le_of_ble_eq_true rfl⟩ ?_
  obtain ⟨h30, e_h30, hy⟩ := gBd hy
  refine g_putF hnm K fq_c10_67 d_c10_init_111 e_h30 rfl rfl ?_
  refine g_aload_n K d_c10_init_114 0 rfl ?_
  obtain ⟨h31, e_h31, hy⟩ := gBd hy
  refine g_new (ci := 3) (ty0 := gY3) K hx d_c10_init_115 rfl gIn3 gYo3 (gTk_1 230 rfl rfl) (gTk_1 231 rfl rfl) (gTk_1 10 rfl rfl) (by decide +kernel) rfl (Nat.le_of_ble_eq_true rfl) (Nat.le_of_ble_eq_true rfl) e_h31 ?_
  refine g_dup K d_c10_init_118 rfl ?_
  obtain ⟨h32, e_h32, hy⟩ := gBd hy
  refine g_callI (rest := [.ref h30.length, .ref a0]) K hx ly_c3_init ki_c10_73 d_c10_init_119 (ct_c3_init M.2.1 X hx N h30.length h31 h32 e_h32) (len_c3_init e_h32) rfl rfl (Nat.le_of_ble_eq_true rfl) (gDep rfl) ⟨Nat.le_of_ble_eq_true rfl, Nat.le_of_ble_eq_true rfl⟩ ?_
  obtain ⟨h33, e_h33, hy⟩ := gBd hy
  refine g_putF hnm K fq_c10_74 d_c10_init_122 e_h33 rfl rfl ?_
  refine g_aload_n K d_c10_init_125 0 rfl ?_
  obtain ⟨h34, e_h34, hy⟩ := gBd hy
  refine g_new (ci := 6) (ty0 := gY6) K hx d_c10_init_126 rfl gIn6 gYo6 (gTk_2 0 rfl rfl) (gTk_2 1 rfl rfl) (gTk_1 11 rfl rfl) (by decide +kernel) rfl (Nat.le_of_ble_eq_true rfl) (Nat.le_of_ble_eq_true rfl) e_h34 ?_
  refine g_dup K d_c10_init_129 rfl ?_
  obtain ⟨h35, e_h35, hy⟩ := gBd hy
  refine g_callI (rest := [.ref h33.length, .ref a0]) K hx ly_c6_init ki_c10_80 d_c10_init_130 (ct_c6_init M.2.1 X hx N h33.length h34 h35 e_h35) (len_c6_init e_h35) rfl rfl (Nat.le_of_ble_eq_true rfl) (gDep rfl) ⟨Nat.le_of_ble_eq_true rfl, Nat.le_of_ble_eq_true rfl⟩ ?_
  obtain ⟨h36, e_h36, hy⟩ := gBd hy
  refine g_putR K fp_c10_81 d_c10_init_133 (fun _ => rfl) (fun _ => rfl) e_h36 ?_
  refine g_aload_n K d_c10_init_136 0 rfl ?_
  obtain ⟨h37, e_h37, hy⟩ := gBd hy
  refine g_new (ci := 6) (ty0 := gY6) K hx d_c10_init_137 rfl gIn6 gYo6 (gTk_2 0 rfl rfl) (gTk_2 1 rfl rfl) (gTk_1 11 rfl rfl) (by decide +kernel) rfl (Nat.le_of_ble_eq_true rfl) (Nat.le_of_ble_eq_true rfl) e_h37 ?_
  refine g_dup K d_c10_init_140 rfl ?_
  obtain ⟨h38, e_h38, hy⟩ := gBd hy
  refine g_callI (rest := [.ref h36.length, .ref a0]) K hx ly_c6_init ki_c10_80 d_c10_init_141 (ct_c6_init M.2.1 X hx N h36.length h37 h38 e_h38) (len_c6_init e_h38) rfl rfl (Nat.le_of_ble_eq_true rfl) (gDep rfl) ⟨Nat.le_of_ble_eq_true rfl, Nat.le_of_ble_eq_true rfl⟩ ?_
  obtain ⟨h39, e_h39, hy⟩ := gBd hy
  refine g_putR K fp_c10_85 d_c10_init_144 (fun _ => rfl) (fun _ => rfl) e_h39 ?_
  refine g_aload_n K d_c10_init_147 0 rfl ?_
  obtain ⟨v40, e_v40, hy⟩ := gBd hy
  refine g_getR K fl_c10_81 d_c10_init_148 e_v40 ?_
  refine g_norule K d_c10_init_151 (gTk_2 34 rfl rfl) ?_
  refine g_norule K d_c10_init_154 (gTk_2 34 rfl rfl) ?_
  obtain ⟨v41, e_v41, hy⟩ := gBd hy
  refine g_alen K d_c10_init_157 e_v41 ?_
  obtain ⟨q42, e_q42, hy⟩ := gBd hy
  have l_h1 := nO_len e_h1
  have l_h2 := len_c8_init e_h2
  have l_h3 := sf_len e_h3
  have l_h4 := nO_len e_h4
  have l_h5 := len_c4_init e_h5
  have l_h6 := sf_len e_h6
  have l_h7 := nO_len e_h7
  have l_h8 := len_c1_init e_h8
  have l_h9 := sf_len e_h9
  have l_h10 := nO_len e_h10
  have l_h11 := len_c7_init e_h11
  have l_h12 := sf_len e_h12
  have l_h13 := nO_len e_h13
  have l_h14 := len_c7_init e_h14
  have l_h15 := sf_len e_h15
  have l_h16 := nO_len e_h16
  have l_h17 := len_c7_init e_h17
  have l_h18 := sf_len e_h18
  have l_h19 := nO_len e_h19
  have l_h20 := len_c0_init e_h20
  have l_h21 := sf_len e_h21
  have l_h22 := nO_len e_h22
  have l_h23 := len_c5_init e_h23
  have l_h24 := sf_len e_h24
  have l_h25 := nO_len e_h25
  have l_h26 := len_c2_init e_h26
  have l_h27 := sf_len e_h27
  have l_h28 := nO_len e_h28
  have l_h29 := len_c9_init e_h29
  have l_h30 := sf_len e_h30
  have l_h31 := nO_len e_h31
  have l_h32 := len_c3_init e_h32
  have l_h33 := sf_len e_h33
  have l_h34 := nO_len e_h34
  have l_h35 := len_c6_init e_h35
  have l_h36 := sf_len e_h36
  have l_h37 := nO_len e_h37
  have l_h38 := len_c6_init e_h38
  have l_h39 := sf_len e_h39
  have hread_q42 : q42.2.length = h39.length := by
    have hz : q42.2 = h0 := by
      have hy2 := hy
      exact Option.some.inj hy2
    rw [hz]
    omega
  refine g_callViE (rest := []) K ly_c6_read kv_c10_92 d_c10_init_158 (ct_c6_read M.2.1 (gX0 X) rfl N v40 1 v41 h39 q42 e_q42) hread_q42 rfl rfl (Nat.le_of_ble_eq_true rfl) (gDep rfl) ⟨Nat.le_of_ble_eq_true rfl, Nat.le_of_ble_eq_true rfl⟩ ?_
  refine g_pop K d_c10_init_161 rfl ?_
  obtain rfl := Option.some.inj hy
  exact hret _ _ _ d_c10_init_162
