-- c11 fits2
theorem d_c11_fits2_0 : gD b_c11_fits2 0 (.aload_n 0) 1 1 := ⟨by decide +kernel, rfl⟩
theorem d_c11_fits2_1 : gD b_c11_fits2 1 (.iconst 0) 1 2 := ⟨by decide +kernel, rfl⟩
theorem d_c11_fits2_2 : gD b_c11_fits2 2 (.putfield 95) 3 5 := ⟨by decide +kernel, rfl⟩
theorem d_c11_fits2_5 : gD b_c11_fits2 5 (.aload_n 0) 1 6 := ⟨by decide +kernel, rfl⟩
theorem d_c11_fits2_6 : gD b_c11_fits2 6 (.invokevirtual 348) 3 9 := ⟨by decide +kernel, rfl⟩
theorem d_c11_fits2_9 : gD b_c11_fits2 9 (.istore_n 1) 1 10 := ⟨by decide +kernel, rfl⟩
theorem d_c11_fits2_10 : gD b_c11_fits2 10 (.aload_n 0) 1 11 := ⟨by decide +kernel, rfl⟩
theorem d_c11_fits2_11 : gD b_c11_fits2 11 (.iconst 0) 1 12 := ⟨by decide +kernel, rfl⟩
theorem d_c11_fits2_12 : gD b_c11_fits2 12 (.putfield 98) 3 15 := ⟨by decide +kernel, rfl⟩
theorem d_c11_fits2_15 : gD b_c11_fits2 15 (.aload_n 0) 1 16 := ⟨by decide +kernel, rfl⟩
theorem d_c11_fits2_16 : gD b_c11_fits2 16 (.iload_n 1) 1 17 := ⟨by decide +kernel, rfl⟩
theorem d_c11_fits2_17 : gD b_c11_fits2 17 (.invokestatic 275) 3 20 := ⟨by decide +kernel, rfl⟩
theorem d_c11_fits2_20 : gD b_c11_fits2 20 .i2l 1 21 := ⟨by decide +kernel, rfl⟩
theorem d_c11_fits2_21 : gD b_c11_fits2 21 (.invokevirtual 268) 3 24 := ⟨by decide +kernel, rfl⟩
theorem d_c11_fits2_24 : gD b_c11_fits2 24 (.iload_n 1) 1 25 := ⟨by decide +kernel, rfl⟩
theorem d_c11_fits2_25 : gD b_c11_fits2 25 .ireturn 1 26 := ⟨by decide +kernel, rfl⟩
def f_c11_fits2 (N : Nat) (a0 : Nat) (h : gH) : Option (Int32 × gH) :=
  (gcl h a0 11).bind fun _ =>
  (sf h a0 11 10 (.int (0 : Int32))).bind fun h1 =>
    (f_c11_fitting N a0 h1).bind fun q2 =>
    (sf h1 a0 11 9 (.int (0 : Int32))).bind fun h3 =>
    (f_jInteger_bitCount N q2 h3).bind fun q4 =>
    (f_c11_tell N a0 q4.toInt64 h3).bind fun q5 =>
    some (q2, q5)
set_option maxHeartbeats 4000000 in
set_option maxRecDepth 100000 in
theorem ct_c11_fits2 (l : Launch) (X : gX) (hx : gEx X = false) (N : Nat) (a0 : Nat) (h : gH) (q : Int32 × gH) (hy : f_c11_fits2 N a0 h = some q) : gRc y_c11_fits2 h a0 ∧ gMi l X y_c11_fits2 b_c11_fits2 2 .int (7 + N) 0 0 [.ref a0] h q.1 q.2 := by
  unfold f_c11_fits2 at hy
  obtain ⟨u0, e_u0, hy⟩ := gBd hy
  cases u0
  refine ⟨Or.inl ⟨11, _, _, e_u0, rfl⟩, gMet_i (lsx := [(0, .ref a0)]) (by decide) rfl rfl ?_⟩
  intro M hMl K hret
  subst hMl
  refine g_aload_n K d_c11_fits2_0 0 rfl ?_
  refine g_iconst (v := 0) K d_c11_fits2_1 (by decide) ?_
  obtain ⟨h1, e_h1, hy⟩ := gBd hy
  refine g_putI K fp_c11_95 d_c11_fits2_2 e_h1 ?_
  refine g_aload_n K d_c11_fits2_5 0 rfl ?_
  obtain ⟨q2, e_q2, hy⟩ := gBd hy
  refine g_callVi (rest := []) K hx ly_c11_fitting kv_c11_348 d_c11_fits2_6 (ct_c11_fitting M.2.1 X hx N a0 h1 q2 e_q2) rfl rfl (Nat.le_of_ble_eq_true rfl) (gDep rfl) ⟨Nat.le_refl 0, Nat.le_refl 0⟩ ?_
  refine g_istore_n (ls2 := [(1, .int q2), (0, .ref a0)]) K d_c11_fits2_9 rfl rfl ?_
  refine g_aload_n K d_c11_fits2_10 1 rfl ?_
  refine g_iconst (v := 0) K d_c11_fits2_11 (by decide) ?_
  obtain ⟨h3, e_h3, hy⟩ := gBd hy
  refine g_putI K fp_c11_98 d_c11_fits2_12 e_h3 ?_
  refine g_aload_n K d_c11_fits2_15 1 rfl ?_
  refine g_iload_n K d_c11_fits2_16 0 rfl ?_
  obtain ⟨q4, e_q4, hy⟩ := gBd hy
  refine g_callSi (rest := [.ref a0]) K hx ly_jInteger_bitCount ks_c11_275 d_c11_fits2_17 (ct_jInteger_bitCount M.2.1 X hx N q2 h3 q4 e_q4) rfl rfl (Nat.le_of_ble_eq_true rfl) (gDep rfl) ⟨Nat.le_refl 0, Nat.le_refl 0⟩ ?_
  refine g_i2l K d_c11_fits2_20 ?_
  obtain ⟨q5, e_q5, hy⟩ := gBd hy
  refine g_callVv (rest := []) K hx ly_c11_tell kv_c11_268 d_c11_fits2_21 (ct_c11_tell M.2.1 X hx N a0 q4.toInt64 h3 q5 e_q5) rfl rfl (Nat.le_of_ble_eq_true rfl) (gDep rfl) ⟨Nat.le_refl 0, Nat.le_refl 0⟩ ?_
  refine g_iload_n K d_c11_fits2_24 0 rfl ?_
  obtain rfl := Option.some.inj hy
  exact hret rfl _ _ _ d_c11_fits2_25
-- c11 goSeason
theorem d_c11_goSeason_0 : gD b_c11_goSeason 0 (.iconst 0) 1 1 := ⟨by decide +kernel, rfl⟩
theorem d_c11_goSeason_1 : gD b_c11_goSeason 1 (.istore_n 2) 1 2 := ⟨by decide +kernel, rfl⟩
theorem d_c11_goSeason_2 : gD b_c11_goSeason 2 (.iconst 0) 1 3 := ⟨by decide +kernel, rfl⟩
theorem d_c11_goSeason_3 : gD b_c11_goSeason 3 (.istore_n 3) 1 4 := ⟨by decide +kernel, rfl⟩
theorem d_c11_goSeason_4 : gD b_c11_goSeason 4 (.iload_n 3) 1 5 := ⟨by decide +kernel, rfl⟩
theorem d_c11_goSeason_5 : gD b_c11_goSeason 5 (.aload_n 1) 1 6 := ⟨by decide +kernel, rfl⟩
theorem d_c11_goSeason_6 : gD b_c11_goSeason 6 (.bipush 40) 2 8 := ⟨by decide +kernel, rfl⟩
theorem d_c11_goSeason_8 : gD b_c11_goSeason 8 .iaload 1 9 := ⟨by decide +kernel, rfl⟩
theorem d_c11_goSeason_9 : gJ b_c11_goSeason 9 (.if_icmp .ge 21) 3 21 12 30 := ⟨by decide +kernel, rfl, by decide⟩
theorem d_c11_goSeason_12 : gD b_c11_goSeason 12 (.aload_n 0) 1 13 := ⟨by decide +kernel, rfl⟩
theorem d_c11_goSeason_13 : gD b_c11_goSeason 13 (.getfield 55) 3 16 := ⟨by decide +kernel, rfl⟩
theorem d_c11_goSeason_16 : gD b_c11_goSeason 16 (.iload_n 3) 1 17 := ⟨by decide +kernel, rfl⟩
theorem d_c11_goSeason_17 : gD b_c11_goSeason 17 (.aload_n 0) 1 18 := ⟨by decide +kernel, rfl⟩
theorem d_c11_goSeason_18 : gD b_c11_goSeason 18 (.aload_n 1) 1 19 := ⟨by decide +kernel, rfl⟩
theorem d_c11_goSeason_19 : gD b_c11_goSeason 19 (.iload_n 3) 1 20 := ⟨by decide +kernel, rfl⟩
theorem d_c11_goSeason_20 : gD b_c11_goSeason 20 (.invokevirtual 240) 3 23 := ⟨by decide +kernel, rfl⟩
theorem d_c11_goSeason_23 : gD b_c11_goSeason 23 .iastore 1 24 := ⟨by decide +kernel, rfl⟩
theorem d_c11_goSeason_24 : gD b_c11_goSeason 24 (.iinc 3 1) 3 27 := ⟨by decide +kernel, rfl⟩
theorem d_c11_goSeason_27 : gJ b_c11_goSeason 27 (.goto (-23)) 3 (-23) 30 4 := ⟨by decide +kernel, rfl, by decide⟩
theorem d_c11_goSeason_30 : gD b_c11_goSeason 30 (.iconst 0) 1 31 := ⟨by decide +kernel, rfl⟩
theorem d_c11_goSeason_31 : gD b_c11_goSeason 31 (.istore_n 3) 1 32 := ⟨by decide +kernel, rfl⟩
theorem d_c11_goSeason_32 : gD b_c11_goSeason 32 (.iload_n 3) 1 33 := ⟨by decide +kernel, rfl⟩
theorem d_c11_goSeason_33 : gD b_c11_goSeason 33 (.aload_n 1) 1 34 := ⟨by decide +kernel, rfl⟩
theorem d_c11_goSeason_34 : gD b_c11_goSeason 34 (.bipush 40) 2 36 := ⟨by decide +kernel, rfl⟩
theorem d_c11_goSeason_36 : gD b_c11_goSeason 36 .iaload 1 37 := ⟨by decide +kernel, rfl⟩
theorem d_c11_goSeason_37 : gJ b_c11_goSeason 37 (.if_icmp .ge 33) 3 33 40 70 := ⟨by decide +kernel, rfl, by decide⟩
theorem d_c11_goSeason_40 : gD b_c11_goSeason 40 (.aload_n 1) 1 41 := ⟨by decide +kernel, rfl⟩
theorem d_c11_goSeason_41 : gD b_c11_goSeason 41 (.bipush 32) 2 43 := ⟨by decide +kernel, rfl⟩
theorem d_c11_goSeason_43 : gD b_c11_goSeason 43 (.iload_n 3) 1 44 := ⟨by decide +kernel, rfl⟩
theorem d_c11_goSeason_44 : gD b_c11_goSeason 44 .iadd 1 45 := ⟨by decide +kernel, rfl⟩
theorem d_c11_goSeason_45 : gD b_c11_goSeason 45 (.bipush 99) 2 47 := ⟨by decide +kernel, rfl⟩
theorem d_c11_goSeason_47 : gD b_c11_goSeason 47 (.aload_n 1) 1 48 := ⟨by decide +kernel, rfl⟩
theorem d_c11_goSeason_48 : gD b_c11_goSeason 48 (.bipush 32) 2 50 := ⟨by decide +kernel, rfl⟩
theorem d_c11_goSeason_50 : gD b_c11_goSeason 50 (.iload_n 3) 1 51 := ⟨by decide +kernel, rfl⟩
theorem d_c11_goSeason_51 : gD b_c11_goSeason 51 .iadd 1 52 := ⟨by decide +kernel, rfl⟩
theorem d_c11_goSeason_52 : gD b_c11_goSeason 52 .iaload 1 53 := ⟨by decide +kernel, rfl⟩
theorem d_c11_goSeason_53 : gD b_c11_goSeason 53 (.aload_n 0) 1 54 := ⟨by decide +kernel, rfl⟩
theorem d_c11_goSeason_54 : gD b_c11_goSeason 54 (.getfield 55) 3 57 := ⟨by decide +kernel, rfl⟩
theorem d_c11_goSeason_57 : gD b_c11_goSeason 57 (.iload_n 3) 1 58 := ⟨by decide +kernel, rfl⟩
theorem d_c11_goSeason_58 : gD b_c11_goSeason 58 .iaload 1 59 := ⟨by decide +kernel, rfl⟩
theorem d_c11_goSeason_59 : gD b_c11_goSeason 59 .iadd 1 60 := ⟨by decide +kernel, rfl⟩
theorem d_c11_goSeason_60 : gD b_c11_goSeason 60 (.invokestatic 224) 3 63 := ⟨by decide +kernel, rfl⟩
theorem d_c11_goSeason_63 : gD b_c11_goSeason 63 .iastore 1 64 := ⟨by decide +kernel, rfl⟩
theorem d_c11_goSeason_64 : gD b_c11_goSeason 64 (.iinc 3 1) 3 67 := ⟨by decide +kernel, rfl⟩
theorem d_c11_goSeason_67 : gJ b_c11_goSeason 67 (.goto (-35)) 3 (-35) 70 32 := ⟨by decide +kernel, rfl, by decide⟩
theorem d_c11_goSeason_70 : gD b_c11_goSeason 70 (.iconst 0) 1 71 := ⟨by decide +kernel, rfl⟩
theorem d_c11_goSeason_71 : gD b_c11_goSeason 71 (.istore_n 3) 1 72 := ⟨by decide +kernel, rfl⟩
theorem d_c11_goSeason_72 : gD b_c11_goSeason 72 (.iload_n 3) 1 73 := ⟨by decide +kernel, rfl⟩
theorem d_c11_goSeason_73 : gD b_c11_goSeason 73 (.aload_n 0) 1 74 := ⟨by decide +kernel, rfl⟩
theorem d_c11_goSeason_74 : gD b_c11_goSeason 74 (.getfield 109) 3 77 := ⟨by decide +kernel, rfl⟩
theorem d_c11_goSeason_77 : gJ b_c11_goSeason 77 (.if_icmp .ge 102) 3 102 80 179 := ⟨by decide +kernel, rfl, by decide⟩
theorem d_c11_goSeason_80 : gD b_c11_goSeason 80 (.aload_n 0) 1 81 := ⟨by decide +kernel, rfl⟩
theorem d_c11_goSeason_81 : gD b_c11_goSeason 81 (.aload_n 1) 1 82 := ⟨by decide +kernel, rfl⟩
theorem d_c11_goSeason_82 : gD b_c11_goSeason 82 (.iload_n 3) 1 83 := ⟨by decide +kernel, rfl⟩
theorem d_c11_goSeason_83 : gD b_c11_goSeason 83 (.invokevirtual 230) 3 86 := ⟨by decide +kernel, rfl⟩
theorem d_c11_goSeason_86 : gD b_c11_goSeason 86 (.istore 4) 2 88 := ⟨by decide +kernel, rfl⟩
theorem d_c11_goSeason_88 : gD b_c11_goSeason 88 (.aload_n 0) 1 89 := ⟨by decide +kernel, rfl⟩
theorem d_c11_goSeason_89 : gD b_c11_goSeason 89 (.getfield 61) 3 92 := ⟨by decide +kernel, rfl⟩
theorem d_c11_goSeason_92 : gD b_c11_goSeason 92 (.iload_n 3) 1 93 := ⟨by decide +kernel, rfl⟩
theorem d_c11_goSeason_93 : gD b_c11_goSeason 93 (.iload 4) 2 95 := ⟨by decide +kernel, rfl⟩
theorem d_c11_goSeason_95 : gD b_c11_goSeason 95 .iastore 1 96 := ⟨by decide +kernel, rfl⟩
theorem d_c11_goSeason_96 : gD b_c11_goSeason 96 (.aload_n 0) 1 97 := ⟨by decide +kernel, rfl⟩
theorem d_c11_goSeason_97 : gD b_c11_goSeason 97 (.getfield 58) 3 100 := ⟨by decide +kernel, rfl⟩
theorem d_c11_goSeason_100 : gD b_c11_goSeason 100 (.iload_n 3) 1 101 := ⟨by decide +kernel, rfl⟩
theorem d_c11_goSeason_101 : gD b_c11_goSeason 101 (.iload 4) 2 103 := ⟨by decide +kernel, rfl⟩
theorem d_c11_goSeason_103 : gD b_c11_goSeason 103 (.iconst (-1)) 1 104 := ⟨by decide +kernel, rfl⟩
theorem d_c11_goSeason_104 : gJ b_c11_goSeason 104 (.if_icmp .ne 7) 3 7 107 111 := ⟨by decide +kernel, rfl, by decide⟩
theorem d_c11_goSeason_107 : gD b_c11_goSeason 107 (.iconst 0) 1 108 := ⟨by decide +kernel, rfl⟩
theorem d_c11_goSeason_108 : gJ b_c11_goSeason 108 (.goto 19) 3 19 111 127 := ⟨by decide +kernel, rfl, by decide⟩
theorem d_c11_goSeason_111 : gD b_c11_goSeason 111 (.aload_n 0) 1 112 := ⟨by decide +kernel, rfl⟩
theorem d_c11_goSeason_112 : gD b_c11_goSeason 112 (.getfield 23) 3 115 := ⟨by decide +kernel, rfl⟩
theorem d_c11_goSeason_115 : gD b_c11_goSeason 115 (.iload_n 3) 1 116 := ⟨by decide +kernel, rfl⟩
theorem d_c11_goSeason_116 : gD b_c11_goSeason 116 .iaload 1 117 := ⟨by decide +kernel, rfl⟩
theorem d_c11_goSeason_117 : gD b_c11_goSeason 117 (.aload_n 1) 1 118 := ⟨by decide +kernel, rfl⟩
theorem d_c11_goSeason_118 : gD b_c11_goSeason 118 (.bipush 32) 2 120 := ⟨by decide +kernel, rfl⟩
theorem d_c11_goSeason_120 : gD b_c11_goSeason 120 (.iload 4) 2 122 := ⟨by decide +kernel, rfl⟩
theorem d_c11_goSeason_122 : gD b_c11_goSeason 122 .iadd 1 123 := ⟨by decide +kernel, rfl⟩
theorem d_c11_goSeason_123 : gD b_c11_goSeason 123 .iaload 1 124 := ⟨by decide +kernel, rfl⟩
theorem d_c11_goSeason_124 : gD b_c11_goSeason 124 (.invokestatic 224) 3 127 := ⟨by decide +kernel, rfl⟩
theorem d_c11_goSeason_127 : gD b_c11_goSeason 127 .iastore 1 128 := ⟨by decide +kernel, rfl⟩
theorem d_c11_goSeason_128 : gD b_c11_goSeason 128 (.iload 4) 2 130 := ⟨by decide +kernel, rfl⟩
theorem d_c11_goSeason_130 : gD b_c11_goSeason 130 (.iconst (-1)) 1 131 := ⟨by decide +kernel, rfl⟩
theorem d_c11_goSeason_131 : gJ b_c11_goSeason 131 (.if_icmp .eq 19) 3 19 134 150 := ⟨by decide +kernel, rfl, by decide⟩
theorem d_c11_goSeason_134 : gD b_c11_goSeason 134 (.aload_n 1) 1 135 := ⟨by decide +kernel, rfl⟩
theorem d_c11_goSeason_135 : gD b_c11_goSeason 135 (.bipush 32) 2 137 := ⟨by decide +kernel, rfl⟩
theorem d_c11_goSeason_137 : gD b_c11_goSeason 137 (.iload 4) 2 139 := ⟨by decide +kernel, rfl⟩
theorem d_c11_goSeason_139 : gD b_c11_goSeason 139 .iadd 1 140 := ⟨by decide +kernel, rfl⟩
theorem d_c11_goSeason_140 : gD b_c11_goSeason 140 .dup2 1 141 := ⟨by decide +kernel, rfl⟩
theorem d_c11_goSeason_141 : gD b_c11_goSeason 141 .iaload 1 142 := ⟨by decide +kernel, rfl⟩
theorem d_c11_goSeason_142 : gD b_c11_goSeason 142 (.aload_n 0) 1 143 := ⟨by decide +kernel, rfl⟩
theorem d_c11_goSeason_143 : gD b_c11_goSeason 143 (.getfield 58) 3 146 := ⟨by decide +kernel, rfl⟩
theorem d_c11_goSeason_146 : gD b_c11_goSeason 146 (.iload_n 3) 1 147 := ⟨by decide +kernel, rfl⟩
theorem d_c11_goSeason_147 : gD b_c11_goSeason 147 .iaload 1 148 := ⟨by decide +kernel, rfl⟩
theorem d_c11_goSeason_148 : gD b_c11_goSeason 148 .isub 1 149 := ⟨by decide +kernel, rfl⟩
theorem d_c11_goSeason_149 : gD b_c11_goSeason 149 .iastore 1 150 := ⟨by decide +kernel, rfl⟩
theorem d_c11_goSeason_150 : gD b_c11_goSeason 150 (.iload_n 2) 1 151 := ⟨by decide +kernel, rfl⟩
theorem d_c11_goSeason_151 : gD b_c11_goSeason 151 (.aload_n 0) 1 152 := ⟨by decide +kernel, rfl⟩
theorem d_c11_goSeason_152 : gD b_c11_goSeason 152 (.getfield 58) 3 155 := ⟨by decide +kernel, rfl⟩
theorem d_c11_goSeason_155 : gD b_c11_goSeason 155 (.iload_n 3) 1 156 := ⟨by decide +kernel, rfl⟩
theorem d_c11_goSeason_156 : gD b_c11_goSeason 156 .iaload 1 157 := ⟨by decide +kernel, rfl⟩
theorem d_c11_goSeason_157 : gD b_c11_goSeason 157 (.aload_n 0) 1 158 := ⟨by decide +kernel, rfl⟩
theorem d_c11_goSeason_158 : gD b_c11_goSeason 158 (.getfield 23) 3 161 := ⟨by decide +kernel, rfl⟩
theorem d_c11_goSeason_161 : gD b_c11_goSeason 161 (.iload_n 3) 1 162 := ⟨by decide +kernel, rfl⟩
theorem d_c11_goSeason_162 : gD b_c11_goSeason 162 .iaload 1 163 := ⟨by decide +kernel, rfl⟩
theorem d_c11_goSeason_163 : gJ b_c11_goSeason 163 (.if_icmp .ge 7) 3 7 166 170 := ⟨by decide +kernel, rfl, by decide⟩
theorem d_c11_goSeason_166 : gD b_c11_goSeason 166 (.iconst 1) 1 167 := ⟨by decide +kernel, rfl⟩
theorem d_c11_goSeason_167 : gJ b_c11_goSeason 167 (.goto 4) 3 4 170 171 := ⟨by decide +kernel, rfl, by decide⟩
theorem d_c11_goSeason_170 : gD b_c11_goSeason 170 (.iconst 0) 1 171 := ⟨by decide +kernel, rfl⟩
theorem d_c11_goSeason_171 : gD b_c11_goSeason 171 .iadd 1 172 := ⟨by decide +kernel, rfl⟩
theorem d_c11_goSeason_172 : gD b_c11_goSeason 172 (.istore_n 2) 1 173 := ⟨by decide +kernel, rfl⟩
theorem d_c11_goSeason_173 : gD b_c11_goSeason 173 (.iinc 3 1) 3 176 := ⟨by decide +kernel, rfl⟩
theorem d_c11_goSeason_176 : gJ b_c11_goSeason 176 (.goto (-104)) 3 (-104) 179 72 := ⟨by decide +kernel, rfl, by decide⟩
theorem d_c11_goSeason_179 : gD b_c11_goSeason 179 (.aload_n 1) 1 180 := ⟨by decide +kernel, rfl⟩
theorem d_c11_goSeason_180 : gD b_c11_goSeason 180 (.bipush 42) 2 182 := ⟨by decide +kernel, rfl⟩
theorem d_c11_goSeason_182 : gD b_c11_goSeason 182 (.sipush 9999) 3 185 := ⟨by decide +kernel, rfl⟩
theorem d_c11_goSeason_185 : gD b_c11_goSeason 185 (.aload_n 1) 1 186 := ⟨by decide +kernel, rfl⟩
theorem d_c11_goSeason_186 : gD b_c11_goSeason 186 (.bipush 42) 2 188 := ⟨by decide +kernel, rfl⟩
theorem d_c11_goSeason_188 : gD b_c11_goSeason 188 .iaload 1 189 := ⟨by decide +kernel, rfl⟩
theorem d_c11_goSeason_189 : gD b_c11_goSeason 189 (.iload_n 2) 1 190 := ⟨by decide +kernel, rfl⟩
theorem d_c11_goSeason_190 : gD b_c11_goSeason 190 .iadd 1 191 := ⟨by decide +kernel, rfl⟩
theorem d_c11_goSeason_191 : gD b_c11_goSeason 191 (.invokestatic 224) 3 194 := ⟨by decide +kernel, rfl⟩
theorem d_c11_goSeason_194 : gD b_c11_goSeason 194 .iastore 1 195 := ⟨by decide +kernel, rfl⟩
theorem d_c11_goSeason_195 : gD b_c11_goSeason 195 (.aload_n 1) 1 196 := ⟨by decide +kernel, rfl⟩
theorem d_c11_goSeason_196 : gD b_c11_goSeason 196 (.bipush 41) 2 198 := ⟨by decide +kernel, rfl⟩
theorem d_c11_goSeason_198 : gD b_c11_goSeason 198 .dup2 1 199 := ⟨by decide +kernel, rfl⟩
theorem d_c11_goSeason_199 : gD b_c11_goSeason 199 .iaload 1 200 := ⟨by decide +kernel, rfl⟩
theorem d_c11_goSeason_200 : gD b_c11_goSeason 200 (.iconst 1) 1 201 := ⟨by decide +kernel, rfl⟩
theorem d_c11_goSeason_201 : gD b_c11_goSeason 201 .iadd 1 202 := ⟨by decide +kernel, rfl⟩
theorem d_c11_goSeason_202 : gD b_c11_goSeason 202 .iastore 1 203 := ⟨by decide +kernel, rfl⟩
theorem d_c11_goSeason_203 : gD b_c11_goSeason 203 (.iload_n 2) 1 204 := ⟨by decide +kernel, rfl⟩
theorem d_c11_goSeason_204 : gD b_c11_goSeason 204 .ireturn 1 205 := ⟨by decide +kernel, rfl⟩
def lp_c11_goSeason_4 (N : Nat) (a0 : Nat) (a1 : Nat) : Nat → Int32 → gH → Option (gH)
  | 0, _, _ => none
  | k + 1, x3, h =>
  (ga 0 h a1 (40 : Int32)).bind fun v1 =>
    if v1 ≤ x3 then
    some h
  else
    (gfR h a0 11 26).bind fun v3 =>
    (f_c11_flowOf N a0 a1 x3 h).bind fun q4 =>
    (sa 0 q4.2 v3 x3 q4.1).bind fun h5 =>
    lp_c11_goSeason_4 N a0 a1 k (x3 + (1 : Int32)) h5
def lp_c11_goSeason_32 (N : Nat) (a0 : Nat) (a1 : Nat) : Nat → Int32 → gH → Option (gH)
  | 0, _, _ => none
  | k + 1, x3, h =>
  (ga 0 h a1 (40 : Int32)).bind fun v7 =>
    if v7 ≤ x3 then
    some h
  else
    (ga 0 h a1 ((32 : Int32) + x3)).bind fun v9 =>
    (gfR h a0 11 26).bind fun v10 =>
    (ga 0 h v10 x3).bind fun v11 =>
    (sa 0 h a1 ((32 : Int32) + x3) (gmin (99 : Int32) (v9 + v11))).bind fun h12 =>
    lp_c11_goSeason_32 N a0 a1 k (x3 + (1 : Int32)) h12
def lp_c11_goSeason_72 (N : Nat) (a0 : Nat) (a1 : Nat) : Nat → Int32 → Int32 → gH → Option (Int32 × gH)
  | 0, _, _, _ => none
  | k + 1, x2, x3, h =>
  (gfI h a0 11 3).bind fun v14 =>
    if v14 ≤ x3 then
    some (x2, h)
  else
    (f_c11_nearest N a0 a1 x3 h).bind fun q16 =>
    (gfR h a0 11 28).bind fun v17 =>
    (sa 0 h v17 x3 q16).bind fun h18 =>
    (gfR h18 a0 11 27).bind fun v19 =>
    (show Option (Int32) from if q16 = (-1 : Int32) then
    some (0 : Int32)
  else
    (gfR h18 a0 11 5).bind fun v38 =>
    (ga 0 h18 v38 x3).bind fun v39 =>
    (ga 0 h18 a1 ((32 : Int32) + q16)).bind fun v40 =>
    some (gmin v39 v40)).bind fun t21 =>
    (sa 0 h18 v19 x3 t21).bind fun h23 =>
    (show Option (gH) from if q16 = (-1 : Int32) then
    some h23
  else
    (ga 0 h23 a1 ((32 : Int32) + q16)).bind fun v34 =>
    (gfR h23 a0 11 27).bind fun v35 =>
    (ga 0 h23 v35 x3).bind fun v36 =>
    (sa 0 h23 a1 ((32 : Int32) + q16) (v34 - v36)).bind fun h37 =>
    some h37).bind fun t25 =>
    (gfR t25 a0 11 27).bind fun v27 =>
    (ga 0 t25 v27 x3).bind fun v28 =>
    (gfR t25 a0 11 5).bind fun v29 =>
    (ga 0 t25 v29 x3).bind fun v30 =>
    lp_c11_goSeason_72 N a0 a1 k (x2 + (if v30 ≤ v28 then (0 : Int32) else (1 : Int32))) (x3 + (1 : Int32)) t25
def f_c11_goSeason (N : Nat) (a0 : Nat) (a1 : Nat) (h : gH) : Option (Int32 × gH) :=
  (gcl h a0 11).bind fun _ =>
  (lp_c11_goSeason_4 N a0 a1 N (0 : Int32) h).bind fun o6 =>
    (lp_c11_goSeason_32 N a0 a1 N (0 : Int32) o6).bind fun o13 =>
    (lp_c11_goSeason_72 N a0 a1 N (0 : Int32) (0 : Int32) o13).bind fun o41 =>
    (ga 0 o41.2 a1 (42 : Int32)).bind fun v42 =>
    (sa 0 o41.2 a1 (42 : Int32) (gmin (9999 : Int32) (v42 + o41.1))).bind fun h43 =>
    (ga 0 h43 a1 (41 : Int32)).bind fun v44 =>
    (sa 0 h43 a1 (41 : Int32) (v44 + (1 : Int32))).bind fun h45 =>
    some (o41.1, h45)
set_option maxHeartbeats 4000000 in
set_option maxRecDepth 100000 in
theorem wlp_c11_goSeason_4 {M : gM} {X : gX} {N : Nat} (hx : gEx X = false) (K : gC M X gN11 b_c11_goSeason 5 (gRm (7 + N) 0 0)) (a0 : Nat) (a1 : Nat) (x2 : Int32) : ∀ (k : Nat) (x3 : Int32) (h : gH) (o : gH), lp_c11_goSeason_4 N a0 a1 k x3 h = some o → gG M X 5 0 0 30 [(0, .ref a0), (1, .ref a1), (2, .int x2)] [] o → gG M X 5 0 0 4 [(0, .ref a0), (1, .ref a1), (2, .int x2), (3, .int x3)] [] h := by
  intro k
  induction k with
  | zero =>
    intro x3 h o hy
    rw [lp_c11_goSeason_4.eq_1] at hy
    cases hy
  | succ k ih =>
    intro x3 h o hy hE
    rw [lp_c11_goSeason_4.eq_2] at hy
    refine g_iload_n K d_c11_goSeason_4 3 rfl ?_
    refine g_aload_n K d_c11_goSeason_5 1 rfl ?_
    refine g_bipush (v := 40) K d_c11_goSeason_6 (by decide) ?_
    obtain ⟨v1, e_v1, hy⟩ := gBd hy
    refine g_iald K d_c11_goSeason_8 e_v1 ?_
    refine g_icmp_ge K d_c11_goSeason_9 (fun c2 => ?_) (fun c2 => ?_)
    · rw [if_pos c2] at hy
      refine g_sub (ls2 := [(0, .ref a0), (1, .ref a1), (2, .int x2)]) [0, 1, 2] rfl ?_
      obtain rfl := Option.some.inj hy
      exact hE
    · rw [if_neg c2] at hy
      refine g_aload_n K d_c11_goSeason_12 0 rfl ?_
      obtain ⟨v3, e_v3, hy⟩ := gBd hy
      refine g_getR K fl_c11_55 d_c11_goSeason_13 e_v3 ?_
      refine g_iload_n K d_c11_goSeason_16 3 rfl ?_
      refine g_aload_n K d_c11_goSeason_17 0 rfl ?_
      refine g_aload_n K d_c11_goSeason_18 1 rfl ?_
      refine g_iload_n K d_c11_goSeason_19 3 rfl ?_
      obtain ⟨q4, e_q4, hy⟩ := gBd hy
      refine g_callVi (rest := [.int x3, .ref v3]) K hx ly_c11_flowOf kv_c11_240 d_c11_goSeason_20 (ct_c11_flowOf M.2.1 X hx N a0 a1 x3 h q4 e_q4) rfl rfl (Nat.le_of_ble_eq_true rfl) (gDep rfl) ⟨Nat.le_refl 0, Nat.le_refl 0⟩ ?_
      obtain ⟨h5, e_h5, hy⟩ := gBd hy
      refine g_iast K d_c11_goSeason_23 e_h5 ?_
      refine g_iinc (ls2 := [(3, .int (x3 + (1 : Int32))), (0, .ref a0), (1, .ref a1), (2, .int x2)]) (v := 1) K d_c11_goSeason_24 3 rfl (by decide) rfl rfl ?_
      refine g_goto K d_c11_goSeason_27 ?_
      refine g_sub (ls2 := [(0, .ref a0), (1, .ref a1), (2, .int x2), (3, .int (x3 + (1 : Int32)))]) [1, 2, 3, 0] rfl ?_
      exact ih _ _ _ hy hE
set_option maxHeartbeats 4000000 in
set_option maxRecDepth 100000 in
theorem wlp_c11_goSeason_32 {M : gM} {X : gX} {N : Nat} (hx : gEx X = false) (K : gC M X gN11 b_c11_goSeason 5 (gRm (7 + N) 0 0)) (a0 : Nat) (a1 : Nat) (x2 : Int32) : ∀ (k : Nat) (x3 : Int32) (h : gH) (o : gH), lp_c11_goSeason_32 N a0 a1 k x3 h = some o → gG M X 5 0 0 70 [(0, .ref a0), (1, .ref a1), (2, .int x2)] [] o → gG M X 5 0 0 32 [(0, .ref a0), (1, .ref a1), (2, .int x2), (3, .int x3)] [] h := by
  intro k
  induction k with
  | zero =>
    intro x3 h o hy
    rw [lp_c11_goSeason_32.eq_1] at hy
    cases hy
  | succ k ih =>
    intro x3 h o hy hE
    rw [lp_c11_goSeason_32.eq_2] at hy
    refine g_iload_n K d_c11_goSeason_32 3 rfl ?_
    refine g_aload_n K d_c11_goSeason_33 1 rfl ?_
    refine g_bipush (v := 40) K d_c11_goSeason_34 (by decide) ?_
    obtain ⟨v7, e_v7, hy⟩ := gBd hy
    refine g_iald K d_c11_goSeason_36 e_v7 ?_
    refine g_icmp_ge K d_c11_goSeason_37 (fun c8 => ?_) (fun c8 => ?_)
    · rw [if_pos c8] at hy
      refine g_sub (ls2 := [(0, .ref a0), (1, .ref a1), (2, .int x2)]) [0, 1, 2] rfl ?_
      obtain rfl := Option.some.inj hy
      exact hE
    · rw [if_neg c8] at hy
      refine g_aload_n K d_c11_goSeason_40 1 rfl ?_
      refine g_bipush (v := 32) K d_c11_goSeason_41 (by decide) ?_
      refine g_iload_n K d_c11_goSeason_43 3 rfl ?_
      refine g_iadd K d_c11_goSeason_44 ?_
      refine g_bipush (v := 99) K d_c11_goSeason_45 (by decide) ?_
      refine g_aload_n K d_c11_goSeason_47 1 rfl ?_
      refine g_bipush (v := 32) K d_c11_goSeason_48 (by decide) ?_
      refine g_iload_n K d_c11_goSeason_50 3 rfl ?_
      refine g_iadd K d_c11_goSeason_51 ?_
      obtain ⟨v9, e_v9, hy⟩ := gBd hy
      refine g_iald K d_c11_goSeason_52 e_v9 ?_
      refine g_aload_n K d_c11_goSeason_53 0 rfl ?_
      obtain ⟨v10, e_v10, hy⟩ := gBd hy
      refine g_getR K fl_c11_55 d_c11_goSeason_54 e_v10 ?_
      refine g_iload_n K d_c11_goSeason_57 3 rfl ?_
      obtain ⟨v11, e_v11, hy⟩ := gBd hy
      refine g_iald K d_c11_goSeason_58 e_v11 ?_
      refine g_iadd K d_c11_goSeason_59 ?_
      refine g_mmin K d_c11_goSeason_60 (gTk_6 130 rfl rfl) (gTk_2 41 rfl rfl) (gTk_1 12 rfl rfl) (gTk_2 42 rfl rfl) (gDep1 rfl) (Nat.le_of_ble_eq_true rfl) ⟨Nat.le_refl 0, Nat.le_refl 0⟩ ?_
      obtain ⟨h12, e_h12, hy⟩ := gBd hy
      refine g_iast K d_c11_goSeason_63 e_h12 ?_
      refine g_iinc (ls2 := [(3, .int (x3 + (1 : Int32))), (0, .ref a0), (1, .ref a1), (2, .int x2)]) (v := 1) K d_c11_goSeason_64 3 rfl (by decide) rfl rfl ?_
      refine g_goto K d_c11_goSeason_67 ?_
      refine g_sub (ls2 := [(0, .ref a0), (1, .ref a1), (2, .int x2), (3, .int (x3 + (1 : Int32)))]) [1, 2, 3, 0] rfl ?_
      exact ih _ _ _ hy hE
set_option maxHeartbeats 4000000 in
set_option maxRecDepth 100000 in
theorem wlp_c11_goSeason_72 {M : gM} {X : gX} {N : Nat} (hx : gEx X = false) (K : gC M X gN11 b_c11_goSeason 5 (gRm (7 + N) 0 0)) (a0 : Nat) (a1 : Nat) : ∀ (k : Nat) (x2 : Int32) (x3 : Int32) (h : gH) (o : Int32 × gH), lp_c11_goSeason_72 N a0 a1 k x2 x3 h = some o → gG M X 5 0 0 179 [(1, .ref a1), (2, .int o.1)] [] o.2 → gG M X 5 0 0 72 [(0, .ref a0), (1, .ref a1), (2, .int x2), (3, .int x3)] [] h := by
  intro k
  induction k with
  | zero =>
    intro x2 x3 h o hy
    rw [lp_c11_goSeason_72.eq_1] at hy
    cases hy
  | succ k ih =>
    intro x2 x3 h o hy hE
    rw [lp_c11_goSeason_72.eq_2] at hy
    refine g_iload_n K d_c11_goSeason_72 3 rfl ?_
    refine g_aload_n K d_c11_goSeason_73 0 rfl ?_
    obtain ⟨v14, e_v14, hy⟩ := gBd hy
    refine g_getI K fl_c11_109 d_c11_goSeason_74 e_v14 ?_
    refine g_icmp_ge K d_c11_goSeason_77 (fun c15 => ?_) (fun c15 => ?_)
    · rw [if_pos c15] at hy
      refine g_sub (ls2 := [(1, .ref a1), (2, .int x2)]) [1, 2] rfl ?_
      obtain rfl := Option.some.inj hy
      exact hE
    · rw [if_neg c15] at hy
      refine g_aload_n K d_c11_goSeason_80 0 rfl ?_
      refine g_aload_n K d_c11_goSeason_81 1 rfl ?_
      refine g_iload_n K d_c11_goSeason_82 3 rfl ?_
      obtain ⟨q16, e_q16, hy⟩ := gBd hy
      refine g_callVi (rest := []) K hx ly_c11_nearest kv_c11_230 d_c11_goSeason_83 (ct_c11_nearest M.2.1 X hx N a0 a1 x3 h q16 e_q16) rfl rfl (Nat.le_of_ble_eq_true rfl) (gDep rfl) ⟨Nat.le_refl 0, Nat.le_refl 0⟩ ?_
      refine g_istore (ls2 := [(4, .int q16), (0, .ref a0), (1, .ref a1), (2, .int x2), (3, .int x3)]) K d_c11_goSeason_86 rfl rfl ?_
      refine g_aload_n K d_c11_goSeason_88 1 rfl ?_
      obtain ⟨v17, e_v17, hy⟩ := gBd hy
      refine g_getR K fl_c11_61 d_c11_goSeason_89 e_v17 ?_
      refine g_iload_n K d_c11_goSeason_92 4 rfl ?_
      refine g_iload K d_c11_goSeason_93 0 rfl ?_
      obtain ⟨h18, e_h18, hy⟩ := gBd hy
      refine g_iast K d_c11_goSeason_95 e_h18 ?_
      refine g_aload_n K d_c11_goSeason_96 1 rfl ?_
      obtain ⟨v19, e_v19, hy⟩ := gBd hy
      refine g_getR K fl_c11_58 d_c11_goSeason_97 e_v19 ?_
      refine g_iload_n K d_c11_goSeason_100 4 rfl ?_
      refine g_iload K d_c11_goSeason_101 0 rfl ?_
      refine g_iconst (v := (-1)) K d_c11_goSeason_103 (by decide) ?_
      obtain ⟨t21, e_t21, hy⟩ := gBd hy
      have hJ22 : gG M X 5 0 0 127 [(0, .ref a0), (1, .ref a1), (2, .int x2), (3, .int x3), (4, .int q16)] [.int t21, .int x3, .ref v19] h18 := by
        obtain ⟨h23, e_h23, hy⟩ := gBd hy
        refine g_iast K d_c11_goSeason_127 e_h23 ?_
        refine g_iload K d_c11_goSeason_128 4 rfl ?_
        refine g_iconst (v := (-1)) K d_c11_goSeason_130 (by decide) ?_
        obtain ⟨t25, e_t25, hy⟩ := gBd hy
        have hJ26 : gG M X 5 0 0 150 [(0, .ref a0), (1, .ref a1), (2, .int x2), (3, .int x3)] [] t25 := by
          refine g_iload_n K d_c11_goSeason_150 2 rfl ?_
          refine g_aload_n K d_c11_goSeason_151 0 rfl ?_
          obtain ⟨v27, e_v27, hy⟩ := gBd hy
          refine g_getR K fl_c11_58 d_c11_goSeason_152 e_v27 ?_
          refine g_iload_n K d_c11_goSeason_155 3 rfl ?_
          obtain ⟨v28, e_v28, hy⟩ := gBd hy
          refine g_iald K d_c11_goSeason_156 e_v28 ?_
          refine g_aload_n K d_c11_goSeason_157 0 rfl ?_
          obtain ⟨v29, e_v29, hy⟩ := gBd hy
          refine g_getR K fl_c11_23 d_c11_goSeason_158 e_v29 ?_
          refine g_iload_n K d_c11_goSeason_161 3 rfl ?_
          obtain ⟨v30, e_v30, hy⟩ := gBd hy
          refine g_iald K d_c11_goSeason_162 e_v30 ?_
          have hJ33 : ∀ w32 : Int32, w32 = (if v30 ≤ v28 then (0 : Int32) else (1 : Int32)) → gG M X 5 0 0 171 [(0, .ref a0), (1, .ref a1), (2, .int x2), (3, .int x3)] [.int w32, .int x2] t25 := by
            intro w32 e_w32
            subst e_w32
            refine g_iadd K d_c11_goSeason_171 ?_
            refine g_istore_n (ls2 := [(2, .int (x2 + (if v30 ≤ v28 then (0 : Int32) else (1 : Int32)))), (0, .ref a0), (1, .ref a1), (3, .int x3)]) K d_c11_goSeason_172 rfl rfl ?_
            refine g_iinc (ls2 := [(3, .int (x3 + (1 : Int32))), (2, .int (x2 + (if v30 ≤ v28 then (0 : Int32) else (1 : Int32)))), (0, .ref a0), (1, .ref a1)]) (v := 1) K d_c11_goSeason_173 3 rfl (by decide) rfl rfl ?_
            refine g_goto K d_c11_goSeason_176 ?_
            refine g_sub (ls2 := [(0, .ref a0), (1, .ref a1), (2, .int (x2 + (if v30 ≤ v28 then (0 : Int32) else (1 : Int32)))), (3, .int (x3 + (1 : Int32)))]) [2, 3, 1, 0] rfl ?_
            exact ih _ _ _ _ hy hE
          refine g_icmp_ge K d_c11_goSeason_163 (fun c31 => ?_) (fun c31 => ?_)
          · refine g_iconst (v := 0) K d_c11_goSeason_170 (by decide) ?_
            exact hJ33 _ (by rw [if_pos c31])
          · refine g_iconst (v := 1) K d_c11_goSeason_166 (by decide) ?_
            refine g_goto K d_c11_goSeason_167 ?_
            exact hJ33 _ (by rw [if_neg c31])
        refine g_icmp_eq K d_c11_goSeason_131 (fun c24 => ?_) (fun c24 => ?_)
        · rw [if_pos c24] at e_t25
          refine g_sub (ls2 := [(0, .ref a0), (1, .ref a1), (2, .int x2), (3, .int x3)]) [0, 1, 2, 3] rfl ?_
          obtain rfl := Option.some.inj e_t25
          exact hJ26
        · rw [if_neg c24] at e_t25
          refine g_aload_n K d_c11_goSeason_134 1 rfl ?_
          refine g_bipush (v := 32) K d_c11_goSeason_135 (by decide) ?_
          refine g_iload K d_c11_goSeason_137 4 rfl ?_
          refine g_iadd K d_c11_goSeason_139 ?_
          refine g_dup2 K d_c11_goSeason_140 rfl rfl ?_
          obtain ⟨v34, e_v34, e_t25⟩ := gBd e_t25
          refine g_iald K d_c11_goSeason_141 e_v34 ?_
          refine g_aload_n K d_c11_goSeason_142 0 rfl ?_
          obtain ⟨v35, e_v35, e_t25⟩ := gBd e_t25
          refine g_getR K fl_c11_58 d_c11_goSeason_143 e_v35 ?_
          refine g_iload_n K d_c11_goSeason_146 3 rfl ?_
          obtain ⟨v36, e_v36, e_t25⟩ := gBd e_t25
          refine g_iald K d_c11_goSeason_147 e_v36 ?_
          refine g_isub K d_c11_goSeason_148 ?_
          obtain ⟨h37, e_h37, e_t25⟩ := gBd e_t25
          refine g_iast K d_c11_goSeason_149 e_h37 ?_
          refine g_sub (ls2 := [(0, .ref a0), (1, .ref a1), (2, .int x2), (3, .int x3)]) [0, 1, 2, 3] rfl ?_
          obtain rfl := Option.some.inj e_t25
          exact hJ26
      refine g_icmp_ne K d_c11_goSeason_104 (fun c20 => ?_) (fun c20 => ?_)
      · rw [if_neg c20] at e_t21
        refine g_aload_n K d_c11_goSeason_111 1 rfl ?_
        obtain ⟨v38, e_v38, e_t21⟩ := gBd e_t21
        refine g_getR K fl_c11_23 d_c11_goSeason_112 e_v38 ?_
        refine g_iload_n K d_c11_goSeason_115 4 rfl ?_
        obtain ⟨v39, e_v39, e_t21⟩ := gBd e_t21
        refine g_iald K d_c11_goSeason_116 e_v39 ?_
        refine g_aload_n K d_c11_goSeason_117 2 rfl ?_
        refine g_bipush (v := 32) K d_c11_goSeason_118 (by decide) ?_
        refine g_iload K d_c11_goSeason_120 0 rfl ?_
        refine g_iadd K d_c11_goSeason_122 ?_
        obtain ⟨v40, e_v40, e_t21⟩ := gBd e_t21
        refine g_iald K d_c11_goSeason_123 e_v40 ?_
        refine g_mmin K d_c11_goSeason_124 (gTk_6 130 rfl rfl) (gTk_2 41 rfl rfl) (gTk_1 12 rfl rfl) (gTk_2 42 rfl rfl) (gDep1 rfl) (Nat.le_of_ble_eq_true rfl) ⟨Nat.le_refl 0, Nat.le_refl 0⟩ ?_
        refine g_sub (ls2 := [(0, .ref a0), (1, .ref a1), (2, .int x2), (3, .int x3), (4, .int q16)]) [1, 2, 3, 4, 0] rfl ?_
        obtain rfl := Option.some.inj e_t21
        exact hJ22
      · rw [if_pos c20] at e_t21
        refine g_iconst (v := 0) K d_c11_goSeason_107 (by decide) ?_
        refine g_goto K d_c11_goSeason_108 ?_
        refine g_sub (ls2 := [(0, .ref a0), (1, .ref a1), (2, .int x2), (3, .int x3), (4, .int q16)]) [1, 2, 3, 4, 0] rfl ?_
        obtain rfl := Option.some.inj e_t21
        exact hJ22
set_option maxHeartbeats 4000000 in
set_option maxRecDepth 100000 in
theorem ct_c11_goSeason (l : Launch) (X : gX) (hx : gEx X = false) (N : Nat) (a0 : Nat) (a1 : Nat) (h : gH) (q : Int32 × gH) (hy : f_c11_goSeason N a0 a1 h = some q) : gRc y_c11_goSeason h a0 ∧ gMi l X y_c11_goSeason b_c11_goSeason 5 .int (7 + N) 0 0 [.ref a0, .ref a1] h q.1 q.2 := by
  unfold f_c11_goSeason at hy
  obtain ⟨u0, e_u0, hy⟩ := gBd hy
  cases u0
  refine ⟨Or.inl ⟨11, _, _, e_u0, rfl⟩, gMet_i (lsx := [(0, .ref a0), (1, .ref a1)]) (by decide) rfl rfl ?_⟩
  intro M hMl K hret
  subst hMl
  refine g_iconst (v := 0) K d_c11_goSeason_0 (by decide) ?_
  refine g_istore_n (ls2 := [(2, .int (0 : Int32)), (0, .ref a0), (1, .ref a1)]) K d_c11_goSeason_1 rfl rfl ?_
  refine g_iconst (v := 0) K d_c11_goSeason_2 (by decide) ?_
  refine g_istore_n (ls2 := [(3, .int (0 : Int32)), (2, .int (0 : Int32)), (0, .ref a0), (1, .ref a1)]) K d_c11_goSeason_3 rfl rfl ?_
  obtain ⟨o6, e_o6, hy⟩ := gBd hy
  refine g_sub (ls2 := [(0, .ref a0), (1, .ref a1), (2, .int (0 : Int32)), (3, .int (0 : Int32))]) [2, 3, 1, 0] rfl ?_
  refine wlp_c11_goSeason_4 hx K a0 a1 (0 : Int32) N (0 : Int32) h o6 e_o6 ?_
  refine g_iconst (v := 0) K d_c11_goSeason_30 (by decide) ?_
  refine g_istore_n (ls2 := [(3, .int (0 : Int32)), (0, .ref a0), (1, .ref a1), (2, .int (0 : Int32))]) K d_c11_goSeason_31 rfl rfl ?_
  obtain ⟨o13, e_o13, hy⟩ := gBd hy
  refine g_sub (ls2 := [(0, .ref a0), (1, .ref a1), (2, .int (0 : Int32)), (3, .int (0 : Int32))]) [1, 2, 3, 0] rfl ?_
  refine wlp_c11_goSeason_32 hx K a0 a1 (0 : Int32) N (0 : Int32) o6 o13 e_o13 ?_
  refine g_iconst (v := 0) K d_c11_goSeason_70 (by decide) ?_
  refine g_istore_n (ls2 := [(3, .int (0 : Int32)), (0, .ref a0), (1, .ref a1), (2, .int (0 : Int32))]) K d_c11_goSeason_71 rfl rfl ?_
  obtain ⟨o41, e_o41, hy⟩ := gBd hy
  refine g_sub (ls2 := [(0, .ref a0), (1, .ref a1), (2, .int (0 : Int32)), (3, .int (0 : Int32))]) [1, 2, 3, 0] rfl ?_
  refine wlp_c11_goSeason_72 hx K a0 a1 N (0 : Int32) (0 : Int32) o13 o41 e_o41 ?_
  refine g_aload_n K d_c11_goSeason_179 0 rfl ?_
  refine g_bipush (v := 42) K d_c11_goSeason_180 (by decide) ?_
  refine g_sipush (v := 9999) K d_c11_goSeason_182 (by decide) ?_
  refine g_aload_n K d_c11_goSeason_185 0 rfl ?_
  refine g_bipush (v := 42) K d_c11_goSeason_186 (by decide) ?_
  obtain ⟨v42, e_v42, hy⟩ := gBd hy
  refine g_iald K d_c11_goSeason_188 e_v42 ?_
  refine g_iload_n K d_c11_goSeason_189 1 rfl ?_
  refine g_iadd K d_c11_goSeason_190 ?_
  refine g_mmin K d_c11_goSeason_191 (gTk_6 130 rfl rfl) (gTk_2 41 rfl rfl) (gTk_1 12 rfl rfl) (gTk_2 42 rfl rfl) (gDep1 rfl) (Nat.le_of_ble_eq_true rfl) ⟨Nat.le_refl 0, Nat.le_refl 0⟩ ?_
  obtain ⟨h43, e_h43, hy⟩ := gBd hy
  refine g_iast K d_c11_goSeason_194 e_h43 ?_
  refine g_aload_n K d_c11_goSeason_195 0 rfl ?_
  refine g_bipush (v := 41) K d_c11_goSeason_196 (by decide) ?_
  refine g_dup2 K d_c11_goSeason_198 rfl rfl ?_
  obtain ⟨v44, e_v44, hy⟩ := gBd hy
  refine g_iald K d_c11_goSeason_199 e_v44 ?_
  refine g_iconst (v := 1) K d_c11_goSeason_200 (by decide) ?_
  refine g_iadd K d_c11_goSeason_201 ?_
  obtain ⟨h45, e_h45, hy⟩ := gBd hy
  refine g_iast K d_c11_goSeason_202 e_h45 ?_
  refine g_iload_n K d_c11_goSeason_203 1 rfl ?_
  obtain rfl := Option.some.inj hy
  exact hret rfl _ _ _ d_c11_goSeason_204
-- c11 rule
theorem d_c11_rule_0 : gD b_c11_rule 0 (.aload_n 0) 1 1 := ⟨by decide +kernel, rfl⟩
theorem d_c11_rule_1 : gD b_c11_rule 1 (.iconst 0) 1 2 := ⟨by decide +kernel, rfl⟩
theorem d_c11_rule_2 : gD b_c11_rule 2 (.putfield 95) 3 5 := ⟨by decide +kernel, rfl⟩
theorem d_c11_rule_5 : gD b_c11_rule 5 (.aload_n 0) 1 6 := ⟨by decide +kernel, rfl⟩
theorem d_c11_rule_6 : gD b_c11_rule 6 (.getfield 118) 3 9 := ⟨by decide +kernel, rfl⟩
theorem d_c11_rule_9 : gD b_c11_rule 9 (.istore_n 1) 1 10 := ⟨by decide +kernel, rfl⟩
theorem d_c11_rule_10 : gD b_c11_rule 10 (.aload_n 0) 1 11 := ⟨by decide +kernel, rfl⟩
theorem d_c11_rule_11 : gD b_c11_rule 11 (.invokevirtual 211) 3 14 := ⟨by decide +kernel, rfl⟩
theorem d_c11_rule_14 : gJ b_c11_rule 14 (.ifCond .ne 10) 3 10 17 24 := ⟨by decide +kernel, rfl, by decide⟩
theorem d_c11_rule_17 : gD b_c11_rule 17 (.iconst (-1)) 1 18 := ⟨by decide +kernel, rfl⟩
theorem d_c11_rule_18 : gD b_c11_rule 18 (.aload_n 0) 1 19 := ⟨by decide +kernel, rfl⟩
theorem d_c11_rule_19 : gD b_c11_rule 19 (.getfield 133) 3 22 := ⟨by decide +kernel, rfl⟩
theorem d_c11_rule_22 : gD b_c11_rule 22 .isub 1 23 := ⟨by decide +kernel, rfl⟩
theorem d_c11_rule_23 : gD b_c11_rule 23 .ireturn 1 24 := ⟨by decide +kernel, rfl⟩
theorem d_c11_rule_24 : gD b_c11_rule 24 (.iconst 0) 1 25 := ⟨by decide +kernel, rfl⟩
theorem d_c11_rule_25 : gD b_c11_rule 25 (.istore_n 2) 1 26 := ⟨by decide +kernel, rfl⟩
theorem d_c11_rule_26 : gD b_c11_rule 26 (.iload_n 2) 1 27 := ⟨by decide +kernel, rfl⟩
theorem d_c11_rule_27 : gD b_c11_rule 27 (.iload_n 1) 1 28 := ⟨by decide +kernel, rfl⟩
theorem d_c11_rule_28 : gJ b_c11_rule 28 (.if_icmp .ge 21) 3 21 31 49 := ⟨by decide +kernel, rfl, by decide⟩
theorem d_c11_rule_31 : gD b_c11_rule 31 (.aload_n 0) 1 32 := ⟨by decide +kernel, rfl⟩
theorem d_c11_rule_32 : gD b_c11_rule 32 (.getfield 37) 3 35 := ⟨by decide +kernel, rfl⟩
theorem d_c11_rule_35 : gD b_c11_rule 35 (.iload_n 2) 1 36 := ⟨by decide +kernel, rfl⟩
theorem d_c11_rule_36 : gD b_c11_rule 36 (.aload_n 0) 1 37 := ⟨by decide +kernel, rfl⟩
theorem d_c11_rule_37 : gD b_c11_rule 37 (.getfield 26) 3 40 := ⟨by decide +kernel, rfl⟩
theorem d_c11_rule_40 : gD b_c11_rule 40 (.iload_n 2) 1 41 := ⟨by decide +kernel, rfl⟩
theorem d_c11_rule_41 : gD b_c11_rule 41 .baload 1 42 := ⟨by decide +kernel, rfl⟩
theorem d_c11_rule_42 : gD b_c11_rule 42 .bastore 1 43 := ⟨by decide +kernel, rfl⟩
theorem d_c11_rule_43 : gD b_c11_rule 43 (.iinc 2 1) 3 46 := ⟨by decide +kernel, rfl⟩
theorem d_c11_rule_46 : gJ b_c11_rule 46 (.goto (-20)) 3 (-20) 49 26 := ⟨by decide +kernel, rfl, by decide⟩
theorem d_c11_rule_49 : gD b_c11_rule 49 (.aload_n 0) 1 50 := ⟨by decide +kernel, rfl⟩
theorem d_c11_rule_50 : gD b_c11_rule 50 (.iload_n 1) 1 51 := ⟨by decide +kernel, rfl⟩
theorem d_c11_rule_51 : gD b_c11_rule 51 (.putfield 214) 3 54 := ⟨by decide +kernel, rfl⟩
theorem d_c11_rule_54 : gD b_c11_rule 54 (.iconst 0) 1 55 := ⟨by decide +kernel, rfl⟩
theorem d_c11_rule_55 : gD b_c11_rule 55 .ireturn 1 56 := ⟨by decide +kernel, rfl⟩
def lp_c11_rule_26 (N : Nat) (a0 : Nat) (x1 : Int32) : Nat → Int32 → gH → Option (gH)
  | 0, _, _ => none
  | k + 1, x2, h =>
  if x1 ≤ x2 then
    some h
  else
    (gfR h a0 11 17).bind fun v6 =>
    (gfR h a0 11 6).bind fun v7 =>
    (gaB h v7 x2).bind fun v8 =>
    (saB h v6 x2 v8).bind fun h9 =>
    lp_c11_rule_26 N a0 x1 k (x2 + (1 : Int32)) h9
def f_c11_rule (N : Nat) (a0 : Nat) (h : gH) : Option (Int32 × gH) :=
  (gcl h a0 11).bind fun _ =>
  (sf h a0 11 10 (.int (0 : Int32))).bind fun h1 =>
    (gfI h1 a0 11 7).bind fun v2 =>
    (f_c11_readRule N a0 h1).bind fun q3 =>
    if q3.1 = 0 then
    (gfI q3.2 a0 11 15).bind fun v12 =>
    some ((-1 : Int32) - v12, q3.2)
  else
    (lp_c11_rule_26 N a0 v2 N (0 : Int32) q3.2).bind fun o10 =>
    (sf o10 a0 11 19 (.int v2)).bind fun h11 =>
    some ((0 : Int32), h11)
set_option maxHeartbeats 4000000 in
set_option maxRecDepth 100000 in
theorem wlp_c11_rule_26 {M : gM} {X : gX} {N : Nat} (hx : gEx X = false) (K : gC M X gN11 b_c11_rule 3 (gRm (7 + N) 0 0)) (a0 : Nat) (x1 : Int32) : ∀ (k : Nat) (x2 : Int32) (h : gH) (o : gH), lp_c11_rule_26 N a0 x1 k x2 h = some o → gG M X 3 0 0 49 [(0, .ref a0), (1, .int x1)] [] o → gG M X 3 0 0 26 [(0, .ref a0), (1, .int x1), (2, .int x2)] [] h := by
  intro k
  induction k with
  | zero =>
    intro x2 h o hy
    rw [lp_c11_rule_26.eq_1] at hy
    cases hy
  | succ k ih =>
    intro x2 h o hy hE
    rw [lp_c11_rule_26.eq_2] at hy
    refine g_iload_n K d_c11_rule_26 2 rfl ?_
    refine g_iload_n K d_c11_rule_27 1 rfl ?_
    refine g_icmp_ge K d_c11_rule_28 (fun c5 => ?_) (fun c5 => ?_)
    · rw [if_pos c5] at hy
      refine g_sub (ls2 := [(0, .ref a0), (1, .int x1)]) [0, 1] rfl ?_
      obtain rfl := Option.some.inj hy
      exact hE
    · rw [if_neg c5] at hy
      refine g_aload_n K d_c11_rule_31 0 rfl ?_
      obtain ⟨v6, e_v6, hy⟩ := gBd hy
      refine g_getR K fl_c11_37 d_c11_rule_32 e_v6 ?_
      refine g_iload_n K d_c11_rule_35 2 rfl ?_
      refine g_aload_n K d_c11_rule_36 0 rfl ?_
      obtain ⟨v7, e_v7, hy⟩ := gBd hy
      refine g_getR K fl_c11_26 d_c11_rule_37 e_v7 ?_
      refine g_iload_n K d_c11_rule_40 2 rfl ?_
      obtain ⟨v8, e_v8, hy⟩ := gBd hy
      refine g_bald K d_c11_rule_41 e_v8 ?_
      obtain ⟨h9, e_h9, hy⟩ := gBd hy
      refine g_bast K d_c11_rule_42 e_h9 ?_
      refine g_iinc (ls2 := [(2, .int (x2 + (1 : Int32))), (0, .ref a0), (1, .int x1)]) (v := 1) K d_c11_rule_43 2 rfl (by decide) rfl rfl ?_
      refine g_goto K d_c11_rule_46 ?_
      refine g_sub (ls2 := [(0, .ref a0), (1, .int x1), (2, .int (x2 + (1 : Int32)))]) [1, 2, 0] rfl ?_
      exact ih _ _ _ hy hE
set_option maxHeartbeats 4000000 in
set_option maxRecDepth 100000 in
theorem ct_c11_rule (l : Launch) (X : gX) (hx : gEx X = false) (N : Nat) (a0 : Nat) (h : gH) (q : Int32 × gH) (hy : f_c11_rule N a0 h = some q) : gRc y_c11_rule h a0 ∧ gMi l X y_c11_rule b_c11_rule 3 .int (7 + N) 0 0 [.ref a0] h q.1 q.2 := by
  unfold f_c11_rule at hy
  obtain ⟨u0, e_u0, hy⟩ := gBd hy
  cases u0
  refine ⟨Or.inl ⟨11, _, _, e_u0, rfl⟩, gMet_i (lsx := [(0, .ref a0)]) (by decide) rfl rfl ?_⟩
  intro M hMl K hret
  subst hMl
  refine g_aload_n K d_c11_rule_0 0 rfl ?_
  refine g_iconst (v := 0) K d_c11_rule_1 (by decide) ?_
  obtain ⟨h1, e_h1, hy⟩ := gBd hy
  refine g_putI K fp_c11_95 d_c11_rule_2 e_h1 ?_
  refine g_aload_n K d_c11_rule_5 0 rfl ?_
  obtain ⟨v2, e_v2, hy⟩ := gBd hy
  refine g_getI K fl_c11_118 d_c11_rule_6 e_v2 ?_
  refine g_istore_n (ls2 := [(1, .int v2), (0, .ref a0)]) K d_c11_rule_9 rfl rfl ?_
  refine g_aload_n K d_c11_rule_10 1 rfl ?_
  obtain ⟨q3, e_q3, hy⟩ := gBd hy
  refine g_callVi (rest := []) K hx ly_c11_readRule kv_c11_211 d_c11_rule_11 (ct_c11_readRule M.2.1 X hx N a0 h1 q3 e_q3) rfl rfl (Nat.le_of_ble_eq_true rfl) (gDep rfl) ⟨Nat.le_refl 0, Nat.le_refl 0⟩ ?_
  refine g_if_ne K d_c11_rule_14 (fun c4 => ?_) (fun c4 => ?_)
  · rw [if_neg c4] at hy
    refine g_iconst (v := 0) K d_c11_rule_24 (by decide) ?_
    refine g_istore_n (ls2 := [(2, .int (0 : Int32)), (1, .int v2), (0, .ref a0)]) K d_c11_rule_25 rfl rfl ?_
    obtain ⟨o10, e_o10, hy⟩ := gBd hy
    refine g_sub (ls2 := [(0, .ref a0), (1, .int v2), (2, .int (0 : Int32))]) [2, 1, 0] rfl ?_
    refine wlp_c11_rule_26 hx K a0 v2 N (0 : Int32) q3.2 o10 e_o10 ?_
    refine g_aload_n K d_c11_rule_49 0 rfl ?_
    refine g_iload_n K d_c11_rule_50 1 rfl ?_
    obtain ⟨h11, e_h11, hy⟩ := gBd hy
    refine g_putI K fp_c11_214 d_c11_rule_51 e_h11 ?_
    refine g_iconst (v := 0) K d_c11_rule_54 (by decide) ?_
    obtain rfl := Option.some.inj hy
    exact hret rfl _ _ _ d_c11_rule_55
  · rw [if_pos c4] at hy
    refine g_iconst (v := (-1)) K d_c11_rule_17 (by decide) ?_
    refine g_aload_n K d_c11_rule_18 1 rfl ?_
    obtain ⟨v12, e_v12, hy⟩ := gBd hy
    refine g_getI K fl_c11_133 d_c11_rule_19 e_v12 ?_
    refine g_isub K d_c11_rule_22 ?_
    obtain rfl := Option.some.inj hy
    exact hret rfl _ _ _ d_c11_rule_23
-- c11 well
theorem d_c11_well_0 : gD b_c11_well 0 (.aload_n 0) 1 1 := ⟨by decide +kernel, rfl⟩
theorem d_c11_well_1 : gD b_c11_well 1 (.iconst 0) 1 2 := ⟨by decide +kernel, rfl⟩
theorem d_c11_well_2 : gD b_c11_well 2 (.putfield 95) 3 5 := ⟨by decide +kernel, rfl⟩
theorem d_c11_well_5 : gD b_c11_well 5 (.aload_n 0) 1 6 := ⟨by decide +kernel, rfl⟩
theorem d_c11_well_6 : gD b_c11_well 6 (.iload_n 1) 1 7 := ⟨by decide +kernel, rfl⟩
theorem d_c11_well_7 : gD b_c11_well 7 (.invokevirtual 233) 3 10 := ⟨by decide +kernel, rfl⟩
theorem d_c11_well_10 : gJ b_c11_well 10 (.ifCond .eq 13) 3 13 13 23 := ⟨by decide +kernel, rfl, by decide⟩
theorem d_c11_well_13 : gD b_c11_well 13 (.iload_n 2) 1 14 := ⟨by decide +kernel, rfl⟩
theorem d_c11_well_14 : gD b_c11_well 14 (.iconst 0) 1 15 := ⟨by decide +kernel, rfl⟩
theorem d_c11_well_15 : gD b_c11_well 15 (.bipush 7) 2 17 := ⟨by decide +kernel, rfl⟩
theorem d_c11_well_17 : gD b_c11_well 17 (.invokestatic 105) 3 20 := ⟨by decide +kernel, rfl⟩
theorem d_c11_well_20 : gJ b_c11_well 20 (.ifCond .ne 8) 3 8 23 28 := ⟨by decide +kernel, rfl, by decide⟩
theorem d_c11_well_23 : gD b_c11_well 23 (.aload_n 0) 1 24 := ⟨by decide +kernel, rfl⟩
theorem d_c11_well_24 : gD b_c11_well 24 (.invokevirtual 237) 3 27 := ⟨by decide +kernel, rfl⟩
theorem d_c11_well_27 : gD b_c11_well 27 .ireturn 1 28 := ⟨by decide +kernel, rfl⟩
theorem d_c11_well_28 : gD b_c11_well 28 (.iload_n 2) 1 29 := ⟨by decide +kernel, rfl⟩
theorem d_c11_well_29 : gD b_c11_well 29 (.iconst 5) 1 30 := ⟨by decide +kernel, rfl⟩
theorem d_c11_well_30 : gJ b_c11_well 30 (.if_icmp .ge 17) 3 17 33 47 := ⟨by decide +kernel, rfl, by decide⟩
theorem d_c11_well_33 : gD b_c11_well 33 (.aload_n 0) 1 34 := ⟨by decide +kernel, rfl⟩
theorem d_c11_well_34 : gD b_c11_well 34 (.getfield 9) 3 37 := ⟨by decide +kernel, rfl⟩
theorem d_c11_well_37 : gD b_c11_well 37 (.bipush 8) 2 39 := ⟨by decide +kernel, rfl⟩
theorem d_c11_well_39 : gD b_c11_well 39 (.iload_n 2) 1 40 := ⟨by decide +kernel, rfl⟩
theorem d_c11_well_40 : gD b_c11_well 40 .imul 1 41 := ⟨by decide +kernel, rfl⟩
theorem d_c11_well_41 : gD b_c11_well 41 (.iload_n 1) 1 42 := ⟨by decide +kernel, rfl⟩
theorem d_c11_well_42 : gD b_c11_well 42 .iadd 1 43 := ⟨by decide +kernel, rfl⟩
theorem d_c11_well_43 : gD b_c11_well 43 .iaload 1 44 := ⟨by decide +kernel, rfl⟩
theorem d_c11_well_44 : gJ b_c11_well 44 (.goto 42) 3 42 47 86 := ⟨by decide +kernel, rfl, by decide⟩
theorem d_c11_well_47 : gD b_c11_well 47 (.iload_n 2) 1 48 := ⟨by decide +kernel, rfl⟩
theorem d_c11_well_48 : gD b_c11_well 48 (.iconst 5) 1 49 := ⟨by decide +kernel, rfl⟩
theorem d_c11_well_49 : gJ b_c11_well 49 (.if_icmp .ne 14) 3 14 52 63 := ⟨by decide +kernel, rfl, by decide⟩
theorem d_c11_well_52 : gD b_c11_well 52 (.aload_n 0) 1 53 := ⟨by decide +kernel, rfl⟩
theorem d_c11_well_53 : gD b_c11_well 53 (.getfield 9) 3 56 := ⟨by decide +kernel, rfl⟩
theorem d_c11_well_56 : gD b_c11_well 56 (.iload_n 1) 1 57 := ⟨by decide +kernel, rfl⟩
theorem d_c11_well_57 : gD b_c11_well 57 (.invokestatic 217) 3 60 := ⟨by decide +kernel, rfl⟩
theorem d_c11_well_60 : gJ b_c11_well 60 (.goto 26) 3 26 63 86 := ⟨by decide +kernel, rfl, by decide⟩
theorem d_c11_well_63 : gD b_c11_well 63 (.iload_n 2) 1 64 := ⟨by decide +kernel, rfl⟩
theorem d_c11_well_64 : gD b_c11_well 64 (.bipush 6) 2 66 := ⟨by decide +kernel, rfl⟩
theorem d_c11_well_66 : gJ b_c11_well 66 (.if_icmp .ne 15) 3 15 69 81 := ⟨by decide +kernel, rfl, by decide⟩
theorem d_c11_well_69 : gD b_c11_well 69 (.aload_n 0) 1 70 := ⟨by decide +kernel, rfl⟩
theorem d_c11_well_70 : gD b_c11_well 70 (.aload_n 0) 1 71 := ⟨by decide +kernel, rfl⟩
theorem d_c11_well_71 : gD b_c11_well 71 (.getfield 9) 3 74 := ⟨by decide +kernel, rfl⟩
theorem d_c11_well_74 : gD b_c11_well 74 (.iload_n 1) 1 75 := ⟨by decide +kernel, rfl⟩
theorem d_c11_well_75 : gD b_c11_well 75 (.invokevirtual 240) 3 78 := ⟨by decide +kernel, rfl⟩
theorem d_c11_well_78 : gJ b_c11_well 78 (.goto 8) 3 8 81 86 := ⟨by decide +kernel, rfl, by decide⟩
theorem d_c11_well_81 : gD b_c11_well 81 (.aload_n 0) 1 82 := ⟨by decide +kernel, rfl⟩
theorem d_c11_well_82 : gD b_c11_well 82 (.iload_n 1) 1 83 := ⟨by decide +kernel, rfl⟩
theorem d_c11_well_83 : gD b_c11_well 83 (.invokevirtual 243) 3 86 := ⟨by decide +kernel, rfl⟩
theorem d_c11_well_86 : gD b_c11_well 86 .ireturn 1 87 := ⟨by decide +kernel, rfl⟩
def f_c11_well (N : Nat) (a0 : Nat) (x1 : Int32) (x2 : Int32) (h : gH) : Option (Int32 × gH) :=
  (gcl h a0 11).bind fun _ =>
  (sf h a0 11 10 (.int (0 : Int32))).bind fun h1 =>
    (f_c11_isWell N a0 x1 h1).bind fun q2 =>
    if q2 = 0 then
    (f_c11_lost N a0 h1).bind fun q4 =>
    some (q4.1, q4.2)
  else
    (f_c11_in N x2 (0 : Int32) (7 : Int32) h1).bind fun q5 =>
    if q5 = 0 then
    (f_c11_lost N a0 h1).bind fun q19 =>
    some (q19.1, q19.2)
  else
    (show Option (Int32 × gH) from if (5 : Int32) ≤ x2 then
    if x2 = (5 : Int32) then
    (gfR h1 a0 11 0).bind fun v15 =>
    (f_c11_depthOf N v15 x1 h1).bind fun q16 =>
    some (q16, h1)
  else
    if x2 = (6 : Int32) then
    (gfR h1 a0 11 0).bind fun v13 =>
    (f_c11_flowOf N a0 v13 x1 h1).bind fun q14 =>
    some (q14.1, q14.2)
  else
    (f_c11_drawers N a0 x1 h1).bind fun q12 =>
    some (q12, h1)
  else
    (gfR h1 a0 11 0).bind fun v17 =>
    (ga 0 h1 v17 (((8 : Int32) * x2) + x1)).bind fun v18 =>
    some (v18, h1)).bind fun t8 =>
    some (t8.1, t8.2)
set_option maxHeartbeats 4000000 in
set_option maxRecDepth 100000 in
theorem ct_c11_well (l : Launch) (X : gX) (hx : gEx X = false) (N : Nat) (a0 : Nat) (x1 : Int32) (x2 : Int32) (h : gH) (q : Int32 × gH) (hy : f_c11_well N a0 x1 x2 h = some q) : gRc y_c11_well h a0 ∧ gMi l X y_c11_well b_c11_well 3 .int (7 + N) 0 0 [.ref a0, .int x1, .int x2] h q.1 q.2 := by
  unfold f_c11_well at hy
  obtain ⟨u0, e_u0, hy⟩ := gBd hy
  cases u0
  refine ⟨Or.inl ⟨11, _, _, e_u0, rfl⟩, gMet_i (lsx := [(0, .ref a0), (1, .int x1), (2, .int x2)]) (by decide) rfl rfl ?_⟩
  intro M hMl K hret
  subst hMl
  refine g_aload_n K d_c11_well_0 0 rfl ?_
  refine g_iconst (v := 0) K d_c11_well_1 (by decide) ?_
  obtain ⟨h1, e_h1, hy⟩ := gBd hy
  refine g_putI K fp_c11_95 d_c11_well_2 e_h1 ?_
  refine g_aload_n K d_c11_well_5 0 rfl ?_
  refine g_iload_n K d_c11_well_6 1 rfl ?_
  obtain ⟨q2, e_q2, hy⟩ := gBd hy
  refine g_callVi (rest := []) K hx ly_c11_isWell kv_c11_233 d_c11_well_7 (ct_c11_isWell M.2.1 X hx N a0 x1 h1 q2 e_q2) rfl rfl (Nat.le_of_ble_eq_true rfl) (gDep rfl) ⟨Nat.le_refl 0, Nat.le_refl 0⟩ ?_
  refine g_if_eq K d_c11_well_10 (fun c3 => ?_) (fun c3 => ?_)
  · rw [if_pos c3] at hy
    refine g_aload_n K d_c11_well_23 0 rfl ?_
    obtain ⟨q4, e_q4, hy⟩ := gBd hy
    refine g_callVi (rest := []) K hx ly_c11_lost kv_c11_237 d_c11_well_24 (ct_c11_lost M.2.1 X hx N a0 h1 q4 e_q4) rfl rfl (Nat.le_of_ble_eq_true rfl) (gDep rfl) ⟨Nat.le_refl 0, Nat.le_refl 0⟩ ?_
    obtain rfl := Option.some.inj hy
    exact hret rfl _ _ _ d_c11_well_27
  · rw [if_neg c3] at hy
    refine g_iload_n K d_c11_well_13 2 rfl ?_
    refine g_iconst (v := 0) K d_c11_well_14 (by decide) ?_
    refine g_bipush (v := 7) K d_c11_well_15 (by decide) ?_
    obtain ⟨q5, e_q5, hy⟩ := gBd hy
    refine g_callSi (rest := []) K hx ly_c11_in ks_c11_105 d_c11_well_17 (ct_c11_in M.2.1 X hx N x2 (0 : Int32) (7 : Int32) h1 q5 e_q5) rfl rfl (Nat.le_of_ble_eq_true rfl) (gDep rfl) ⟨Nat.le_refl 0, Nat.le_refl 0⟩ ?_
    refine g_if_ne K d_c11_well_20 (fun c6 => ?_) (fun c6 => ?_)
    · rw [if_neg c6] at hy
      refine g_iload_n K d_c11_well_28 2 rfl ?_
      refine g_iconst (v := 5) K d_c11_well_29 (by decide) ?_
      obtain ⟨t8, e_t8, hy⟩ := gBd hy
      have hJ9 : gG M X 3 0 0 86 [] [.int t8.1] t8.2 := by
        obtain rfl := Option.some.inj hy
        exact hret rfl _ _ _ d_c11_well_86
      refine g_icmp_ge K d_c11_well_30 (fun c7 => ?_) (fun c7 => ?_)
      · rw [if_pos c7] at e_t8
        refine g_iload_n K d_c11_well_47 2 rfl ?_
        refine g_iconst (v := 5) K d_c11_well_48 (by decide) ?_
        refine g_icmp_ne K d_c11_well_49 (fun c10 => ?_) (fun c10 => ?_)
        · rw [if_neg c10] at e_t8
          refine g_iload_n K d_c11_well_63 2 rfl ?_
          refine g_bipush (v := 6) K d_c11_well_64 (by decide) ?_
          refine g_icmp_ne K d_c11_well_66 (fun c11 => ?_) (fun c11 => ?_)
          · rw [if_neg c11] at e_t8
            refine g_aload_n K d_c11_well_81 0 rfl ?_
            refine g_iload_n K d_c11_well_82 1 rfl ?_
            obtain ⟨q12, e_q12, e_t8⟩ := gBd e_t8
            refine g_callVi (rest := []) K hx ly_c11_drawers kv_c11_243 d_c11_well_83 (ct_c11_drawers M.2.1 X hx N a0 x1 h1 q12 e_q12) rfl rfl (Nat.le_of_ble_eq_true rfl) (gDep rfl) ⟨Nat.le_refl 0, Nat.le_refl 0⟩ ?_
            refine g_sub (ls2 := []) [] rfl ?_
            obtain rfl := Option.some.inj e_t8
            exact hJ9
          · rw [if_pos c11] at e_t8
            refine g_aload_n K d_c11_well_69 0 rfl ?_
            refine g_aload_n K d_c11_well_70 0 rfl ?_
            obtain ⟨v13, e_v13, e_t8⟩ := gBd e_t8
            refine g_getR K fl_c11_9 d_c11_well_71 e_v13 ?_
            refine g_iload_n K d_c11_well_74 1 rfl ?_
            obtain ⟨q14, e_q14, e_t8⟩ := gBd e_t8
            refine g_callVi (rest := []) K hx ly_c11_flowOf kv_c11_240 d_c11_well_75 (ct_c11_flowOf M.2.1 X hx N a0 v13 x1 h1 q14 e_q14) rfl rfl (Nat.le_of_ble_eq_true rfl) (gDep rfl) ⟨Nat.le_refl 0, Nat.le_refl 0⟩ ?_
            refine g_goto K d_c11_well_78 ?_
            refine g_sub (ls2 := []) [] rfl ?_
            obtain rfl := Option.some.inj e_t8
            exact hJ9
        · rw [if_pos c10] at e_t8
          refine g_aload_n K d_c11_well_52 0 rfl ?_
          obtain ⟨v15, e_v15, e_t8⟩ := gBd e_t8
          refine g_getR K fl_c11_9 d_c11_well_53 e_v15 ?_
          refine g_iload_n K d_c11_well_56 1 rfl ?_
          obtain ⟨q16, e_q16, e_t8⟩ := gBd e_t8
          refine g_callSi (rest := []) K hx ly_c11_depthOf ks_c11_217 d_c11_well_57 (ct_c11_depthOf M.2.1 X hx N v15 x1 h1 q16 e_q16) rfl rfl (Nat.le_of_ble_eq_true rfl) (gDep rfl) ⟨Nat.le_refl 0, Nat.le_refl 0⟩ ?_
          refine g_goto K d_c11_well_60 ?_
          refine g_sub (ls2 := []) [] rfl ?_
          obtain rfl := Option.some.inj e_t8
          exact hJ9
      · rw [if_neg c7] at e_t8
        refine g_aload_n K d_c11_well_33 0 rfl ?_
        obtain ⟨v17, e_v17, e_t8⟩ := gBd e_t8
        refine g_getR K fl_c11_9 d_c11_well_34 e_v17 ?_
        refine g_bipush (v := 8) K d_c11_well_37 (by decide) ?_
        refine g_iload_n K d_c11_well_39 2 rfl ?_
        refine g_imul K d_c11_well_40 ?_
        refine g_iload_n K d_c11_well_41 1 rfl ?_
        refine g_iadd K d_c11_well_42 ?_
        obtain ⟨v18, e_v18, e_t8⟩ := gBd e_t8
        refine g_iald K d_c11_well_43 e_v18 ?_
        refine g_goto K d_c11_well_44 ?_
        refine g_sub (ls2 := []) [] rfl ?_
        obtain rfl := Option.some.inj e_t8
        exact hJ9
    · rw [if_pos c6] at hy
      refine g_aload_n K d_c11_well_23 0 rfl ?_
      obtain ⟨q19, e_q19, hy⟩ := gBd hy
      refine g_callVi (rest := []) K hx ly_c11_lost kv_c11_237 d_c11_well_24 (ct_c11_lost M.2.1 X hx N a0 h1 q19 e_q19) rfl rfl (Nat.le_of_ble_eq_true rfl) (gDep rfl) ⟨Nat.le_refl 0, Nat.le_refl 0⟩ ?_
      obtain rfl := Option.some.inj hy
      exact hret rfl _ _ _ d_c11_well_27
-- c11 goSeasons
theorem d_c11_goSeasons_0 : gD b_c11_goSeasons 0 (.iconst 0) 1 1 := ⟨by decide +kernel, rfl⟩
theorem d_c11_goSeasons_1 : gD b_c11_goSeasons 1 (.istore_n 3) 1 2 := ⟨by decide +kernel, rfl⟩
theorem d_c11_goSeasons_2 : gD b_c11_goSeasons 2 (.iload_n 3) 1 3 := ⟨by decide +kernel, rfl⟩
theorem d_c11_goSeasons_3 : gD b_c11_goSeasons 3 (.iload_n 2) 1 4 := ⟨by decide +kernel, rfl⟩
theorem d_c11_goSeasons_4 : gJ b_c11_goSeasons 4 (.if_icmp .ge 15) 3 15 7 19 := ⟨by decide +kernel, rfl, by decide⟩
theorem d_c11_goSeasons_7 : gD b_c11_goSeasons 7 (.aload_n 0) 1 8 := ⟨by decide +kernel, rfl⟩
theorem d_c11_goSeasons_8 : gD b_c11_goSeasons 8 (.aload_n 1) 1 9 := ⟨by decide +kernel, rfl⟩
theorem d_c11_goSeasons_9 : gD b_c11_goSeasons 9 (.invokevirtual 257) 3 12 := ⟨by decide +kernel, rfl⟩
theorem d_c11_goSeasons_12 : gD b_c11_goSeasons 12 .pop 1 13 := ⟨by decide +kernel, rfl⟩
theorem d_c11_goSeasons_13 : gD b_c11_goSeasons 13 (.iinc 3 1) 3 16 := ⟨by decide +kernel, rfl⟩
theorem d_c11_goSeasons_16 : gJ b_c11_goSeasons 16 (.goto (-14)) 3 (-14) 19 2 := ⟨by decide +kernel, rfl, by decide⟩
theorem d_c11_goSeasons_19 : gD b_c11_goSeasons 19 .return_ 1 20 := ⟨by decide +kernel, rfl⟩
def lp_c11_goSeasons_2 (N : Nat) (a0 : Nat) (a1 : Nat) (x2 : Int32) : Nat → Int32 → gH → Option (gH)
  | 0, _, _ => none
  | k + 1, x3, h =>
  if x2 ≤ x3 then
    some h
  else
    (f_c11_goSeason N a0 a1 h).bind fun q2 =>
    lp_c11_goSeasons_2 N a0 a1 x2 k (x3 + (1 : Int32)) q2.2
def f_c11_goSeasons (N : Nat) (a0 : Nat) (a1 : Nat) (x2 : Int32) (h : gH) : Option (gH) :=
  (gcl h a0 11).bind fun _ =>
  (lp_c11_goSeasons_2 N a0 a1 x2 N (0 : Int32) h).bind fun o3 =>
    some o3
set_option maxHeartbeats 4000000 in
set_option maxRecDepth 100000 in
theorem wlp_c11_goSeasons_2 {M : gM} {X : gX} {N : Nat} (hx : gEx X = false) (K : gC M X gN11 b_c11_goSeasons 4 (gRm (8 + N) 0 0)) (a0 : Nat) (a1 : Nat) (x2 : Int32) : ∀ (k : Nat) (x3 : Int32) (h : gH) (o : gH), lp_c11_goSeasons_2 N a0 a1 x2 k x3 h = some o → gG M X 4 0 0 19 [] [] o → gG M X 4 0 0 2 [(0, .ref a0), (1, .ref a1), (2, .int x2), (3, .int x3)] [] h := by
  intro k
  induction k with
  | zero =>
    intro x3 h o hy
    rw [lp_c11_goSeasons_2.eq_1] at hy
    cases hy
  | succ k ih =>
    intro x3 h o hy hE
    rw [lp_c11_goSeasons_2.eq_2] at hy
    refine g_iload_n K d_c11_goSeasons_2 3 rfl ?_
    refine g_iload_n K d_c11_goSeasons_3 2 rfl ?_
    refine g_icmp_ge K d_c11_goSeasons_4 (fun c1 => ?_) (fun c1 => ?_)
    · rw [if_pos c1] at hy
      refine g_sub (ls2 := []) [] rfl ?_
      obtain rfl := Option.some.inj hy
      exact hE
    · rw [if_neg c1] at hy
      refine g_aload_n K d_c11_goSeasons_7 0 rfl ?_
      refine g_aload_n K d_c11_goSeasons_8 1 rfl ?_
      obtain ⟨q2, e_q2, hy⟩ := gBd hy
      refine g_callVi (rest := []) K hx ly_c11_goSeason kv_c11_257 d_c11_goSeasons_9 (ct_c11_goSeason M.2.1 X hx N a0 a1 h q2 e_q2) rfl rfl (Nat.le_of_ble_eq_true rfl) (gDep rfl) ⟨Nat.le_refl 0, Nat.le_refl 0⟩ ?_
      refine g_pop K d_c11_goSeasons_12 rfl ?_
      refine g_iinc (ls2 := [(3, .int (x3 + (1 : Int32))), (0, .ref a0), (1, .ref a1), (2, .int x2)]) (v := 1) K d_c11_goSeasons_13 3 rfl (by decide) rfl rfl ?_
      refine g_goto K d_c11_goSeasons_16 ?_
      refine g_sub (ls2 := [(0, .ref a0), (1, .ref a1), (2, .int x2), (3, .int (x3 + (1 : Int32)))]) [1, 2, 3, 0] rfl ?_
      exact ih _ _ _ hy hE
set_option maxHeartbeats 4000000 in
set_option maxRecDepth 100000 in
theorem ct_c11_goSeasons (l : Launch) (X : gX) (hx : gEx X = false) (N : Nat) (a0 : Nat) (a1 : Nat) (x2 : Int32) (h : gH) (q : gH) (hy : f_c11_goSeasons N a0 a1 x2 h = some q) : gRc y_c11_goSeasons h a0 ∧ gMv l X y_c11_goSeasons b_c11_goSeasons 4 (8 + N) 0 0 [.ref a0, .ref a1, .int x2] h q := by
  unfold f_c11_goSeasons at hy
  obtain ⟨u0, e_u0, hy⟩ := gBd hy
  cases u0
  refine ⟨Or.inl ⟨11, _, _, e_u0, rfl⟩, gMet_v (lsx := [(0, .ref a0), (1, .ref a1), (2, .int x2)]) (by decide) rfl rfl ?_⟩
  intro M hMl K hret
  subst hMl
  refine g_iconst (v := 0) K d_c11_goSeasons_0 (by decide) ?_
  refine g_istore_n (ls2 := [(3, .int (0 : Int32)), (0, .ref a0), (1, .ref a1), (2, .int x2)]) K d_c11_goSeasons_1 rfl rfl ?_
  obtain ⟨o3, e_o3, hy⟩ := gBd hy
  refine g_sub (ls2 := [(0, .ref a0), (1, .ref a1), (2, .int x2), (3, .int (0 : Int32))]) [1, 2, 3, 0] rfl ?_
  refine wlp_c11_goSeasons_2 hx K a0 a1 x2 N (0 : Int32) h o3 e_o3 ?_
  obtain rfl := Option.some.inj hy
  exact hret _ _ _ d_c11_goSeasons_19
-- c11 isWet
theorem d_c11_isWet_0 : gD b_c11_isWet 0 (.iconst 1) 1 1 := ⟨by decide +kernel, rfl⟩
theorem d_c11_isWet_1 : gD b_c11_isWet 1 (.istore_n 3) 1 2 := ⟨by decide +kernel, rfl⟩
theorem d_c11_isWet_2 : gD b_c11_isWet 2 (.iconst 0) 1 3 := ⟨by decide +kernel, rfl⟩
theorem d_c11_isWet_3 : gD b_c11_isWet 3 (.istore 4) 2 5 := ⟨by decide +kernel, rfl⟩
theorem d_c11_isWet_5 : gD b_c11_isWet 5 (.iload 4) 2 7 := ⟨by decide +kernel, rfl⟩
theorem d_c11_isWet_7 : gD b_c11_isWet 7 (.iload_n 2) 1 8 := ⟨by decide +kernel, rfl⟩
theorem d_c11_isWet_8 : gJ b_c11_isWet 8 (.if_icmp .ge 43) 3 43 11 51 := ⟨by decide +kernel, rfl, by decide⟩
theorem d_c11_isWet_11 : gD b_c11_isWet 11 (.aload_n 0) 1 12 := ⟨by decide +kernel, rfl⟩
theorem d_c11_isWet_12 : gD b_c11_isWet 12 (.aload_n 0) 1 13 := ⟨by decide +kernel, rfl⟩
theorem d_c11_isWet_13 : gD b_c11_isWet 13 (.getfield 52) 3 16 := ⟨by decide +kernel, rfl⟩
theorem d_c11_isWet_16 : gD b_c11_isWet 16 (.invokevirtual 257) 3 19 := ⟨by decide +kernel, rfl⟩
theorem d_c11_isWet_19 : gD b_c11_isWet 19 .pop 1 20 := ⟨by decide +kernel, rfl⟩
theorem d_c11_isWet_20 : gD b_c11_isWet 20 (.iload_n 3) 1 21 := ⟨by decide +kernel, rfl⟩
theorem d_c11_isWet_21 : gJ b_c11_isWet 21 (.ifCond .eq 22) 3 22 24 43 := ⟨by decide +kernel, rfl, by decide⟩
theorem d_c11_isWet_24 : gD b_c11_isWet 24 (.aload_n 0) 1 25 := ⟨by decide +kernel, rfl⟩
theorem d_c11_isWet_25 : gD b_c11_isWet 25 (.getfield 58) 3 28 := ⟨by decide +kernel, rfl⟩
theorem d_c11_isWet_28 : gD b_c11_isWet 28 (.iload_n 1) 1 29 := ⟨by decide +kernel, rfl⟩
theorem d_c11_isWet_29 : gD b_c11_isWet 29 .iaload 1 30 := ⟨by decide +kernel, rfl⟩
theorem d_c11_isWet_30 : gD b_c11_isWet 30 (.aload_n 0) 1 31 := ⟨by decide +kernel, rfl⟩
theorem d_c11_isWet_31 : gD b_c11_isWet 31 (.getfield 23) 3 34 := ⟨by decide +kernel, rfl⟩
theorem d_c11_isWet_34 : gD b_c11_isWet 34 (.iload_n 1) 1 35 := ⟨by decide +kernel, rfl⟩
theorem d_c11_isWet_35 : gD b_c11_isWet 35 .iaload 1 36 := ⟨by decide +kernel, rfl⟩
theorem d_c11_isWet_36 : gJ b_c11_isWet 36 (.if_icmp .ne 7) 3 7 39 43 := ⟨by decide +kernel, rfl, by decide⟩
theorem d_c11_isWet_39 : gD b_c11_isWet 39 (.iconst 1) 1 40 := ⟨by decide +kernel, rfl⟩
theorem d_c11_isWet_40 : gJ b_c11_isWet 40 (.goto 4) 3 4 43 44 := ⟨by decide +kernel, rfl, by decide⟩
theorem d_c11_isWet_43 : gD b_c11_isWet 43 (.iconst 0) 1 44 := ⟨by decide +kernel, rfl⟩
theorem d_c11_isWet_44 : gD b_c11_isWet 44 (.istore_n 3) 1 45 := ⟨by decide +kernel, rfl⟩
theorem d_c11_isWet_45 : gD b_c11_isWet 45 (.iinc 4 1) 3 48 := ⟨by decide +kernel, rfl⟩
theorem d_c11_isWet_48 : gJ b_c11_isWet 48 (.goto (-43)) 3 (-43) 51 5 := ⟨by decide +kernel, rfl, by decide⟩
theorem d_c11_isWet_51 : gD b_c11_isWet 51 (.iload_n 3) 1 52 := ⟨by decide +kernel, rfl⟩
theorem d_c11_isWet_52 : gD b_c11_isWet 52 .ireturn 1 53 := ⟨by decide +kernel, rfl⟩
def lp_c11_isWet_5 (N : Nat) (a0 : Nat) (x1 : Int32) (x2 : Int32) : Nat → Int32 → Int32 → gH → Option (Int32 × gH)
  | 0, _, _, _ => none
  | k + 1, x3, x4, h =>
  if x2 ≤ x4 then
    some (x3, h)
  else
    (gfR h a0 11 25).bind fun v2 =>
    (f_c11_goSeason N a0 v2 h).bind fun q3 =>
    (show Option (Int32) from if x3 = 0 then
    some (0 : Int32)
  else
    (gfR q3.2 a0 11 27).bind fun v7 =>
    (ga 0 q3.2 v7 x1).bind fun v8 =>
    (gfR q3.2 a0 11 5).bind fun v9 =>
    (ga 0 q3.2 v9 x1).bind fun v10 =>
    if v8 = v10 then
    some (1 : Int32)
  else
    some (0 : Int32)).bind fun t5 =>
    lp_c11_isWet_5 N a0 x1 x2 k t5 (x4 + (1 : Int32)) q3.2
def f_c11_isWet (N : Nat) (a0 : Nat) (x1 : Int32) (x2 : Int32) (h : gH) : Option (Int32 × gH) :=
  (gcl h a0 11).bind fun _ =>
  (lp_c11_isWet_5 N a0 x1 x2 N (1 : Int32) (0 : Int32) h).bind fun o12 =>
    (gZ o12.1).bind fun w13 => some (w13, o12.2)
set_option maxHeartbeats 4000000 in
set_option maxRecDepth 100000 in
theorem wlp_c11_isWet_5 {M : gM} {X : gX} {N : Nat} (hx : gEx X = false) (K : gC M X gN11 b_c11_isWet 5 (gRm (8 + N) 0 0)) (a0 : Nat) (x1 : Int32) (x2 : Int32) : ∀ (k : Nat) (x3 : Int32) (x4 : Int32) (h : gH) (o : Int32 × gH), lp_c11_isWet_5 N a0 x1 x2 k x3 x4 h = some o → gG M X 5 0 0 51 [(3, .int o.1)] [] o.2 → gG M X 5 0 0 5 [(0, .ref a0), (1, .int x1), (2, .int x2), (3, .int x3), (4, .int x4)] [] h := by
  intro k
  induction k with
  | zero =>
    intro x3 x4 h o hy
    rw [lp_c11_isWet_5.eq_1] at hy
    cases hy
  | succ k ih =>
    intro x3 x4 h o hy hE
    rw [lp_c11_isWet_5.eq_2] at hy
    refine g_iload K d_c11_isWet_5 4 rfl ?_
    refine g_iload_n K d_c11_isWet_7 2 rfl ?_
    refine g_icmp_ge K d_c11_isWet_8 (fun c1 => ?_) (fun c1 => ?_)
    · rw [if_pos c1] at hy
      refine g_sub (ls2 := [(3, .int x3)]) [3] rfl ?_
      obtain rfl := Option.some.inj hy
      exact hE
    · rw [if_neg c1] at hy
      refine g_aload_n K d_c11_isWet_11 0 rfl ?_
      refine g_aload_n K d_c11_isWet_12 0 rfl ?_
      obtain ⟨v2, e_v2, hy⟩ := gBd hy
      refine g_getR K fl_c11_52 d_c11_isWet_13 e_v2 ?_
      obtain ⟨q3, e_q3, hy⟩ := gBd hy
      refine g_callVi (rest := []) K hx ly_c11_goSeason kv_c11_257 d_c11_isWet_16 (ct_c11_goSeason M.2.1 X hx N a0 v2 h q3 e_q3) rfl rfl (Nat.le_of_ble_eq_true rfl) (gDep rfl) ⟨Nat.le_refl 0, Nat.le_refl 0⟩ ?_
      refine g_pop K d_c11_isWet_19 rfl ?_
      refine g_iload_n K d_c11_isWet_20 3 rfl ?_
      obtain ⟨t5, e_t5, hy⟩ := gBd hy
      have hJ6 : gG M X 5 0 0 44 [(0, .ref a0), (1, .int x1), (2, .int x2), (4, .int x4)] [.int t5] q3.2 := by
        refine g_istore_n (ls2 := [(3, .int t5), (0, .ref a0), (1, .int x1), (2, .int x2), (4, .int x4)]) K d_c11_isWet_44 rfl rfl ?_
        refine g_iinc (ls2 := [(4, .int (x4 + (1 : Int32))), (3, .int t5), (0, .ref a0), (1, .int x1), (2, .int x2)]) (v := 1) K d_c11_isWet_45 4 rfl (by decide) rfl rfl ?_
        refine g_goto K d_c11_isWet_48 ?_
        refine g_sub (ls2 := [(0, .ref a0), (1, .int x1), (2, .int x2), (3, .int t5), (4, .int (x4 + (1 : Int32)))]) [2, 3, 4, 1, 0] rfl ?_
        exact ih _ _ _ _ hy hE
      refine g_if_eq K d_c11_isWet_21 (fun c4 => ?_) (fun c4 => ?_)
      · rw [if_pos c4] at e_t5
        refine g_iconst (v := 0) K d_c11_isWet_43 (by decide) ?_
        refine g_sub (ls2 := [(0, .ref a0), (1, .int x1), (2, .int x2), (4, .int x4)]) [0, 1, 2, 4] rfl ?_
        obtain rfl := Option.some.inj e_t5
        exact hJ6
      · rw [if_neg c4] at e_t5
        refine g_aload_n K d_c11_isWet_24 0 rfl ?_
        obtain ⟨v7, e_v7, e_t5⟩ := gBd e_t5
        refine g_getR K fl_c11_58 d_c11_isWet_25 e_v7 ?_
        refine g_iload_n K d_c11_isWet_28 1 rfl ?_
        obtain ⟨v8, e_v8, e_t5⟩ := gBd e_t5
        refine g_iald K d_c11_isWet_29 e_v8 ?_
        refine g_aload_n K d_c11_isWet_30 0 rfl ?_
        obtain ⟨v9, e_v9, e_t5⟩ := gBd e_t5
        refine g_getR K fl_c11_23 d_c11_isWet_31 e_v9 ?_
        refine g_iload_n K d_c11_isWet_34 1 rfl ?_
        obtain ⟨v10, e_v10, e_t5⟩ := gBd e_t5
        refine g_iald K d_c11_isWet_35 e_v10 ?_
        refine g_icmp_ne K d_c11_isWet_36 (fun c11 => ?_) (fun c11 => ?_)
        · rw [if_neg c11] at e_t5
          refine g_iconst (v := 0) K d_c11_isWet_43 (by decide) ?_
          refine g_sub (ls2 := [(0, .ref a0), (1, .int x1), (2, .int x2), (4, .int x4)]) [0, 1, 2, 4] rfl ?_
          obtain rfl := Option.some.inj e_t5
          exact hJ6
        · rw [if_pos c11] at e_t5
          refine g_iconst (v := 1) K d_c11_isWet_39 (by decide) ?_
          refine g_goto K d_c11_isWet_40 ?_
          refine g_sub (ls2 := [(0, .ref a0), (1, .int x1), (2, .int x2), (4, .int x4)]) [0, 1, 2, 4] rfl ?_
          obtain rfl := Option.some.inj e_t5
          exact hJ6
set_option maxHeartbeats 4000000 in
set_option maxRecDepth 100000 in
theorem ct_c11_isWet (l : Launch) (X : gX) (hx : gEx X = false) (N : Nat) (a0 : Nat) (x1 : Int32) (x2 : Int32) (h : gH) (q : Int32 × gH) (hy : f_c11_isWet N a0 x1 x2 h = some q) : gRc y_c11_isWet h a0 ∧ gMi l X y_c11_isWet b_c11_isWet 5 .boolean (8 + N) 0 0 [.ref a0, .int x1, .int x2] h q.1 q.2 := by
  unfold f_c11_isWet at hy
  obtain ⟨u0, e_u0, hy⟩ := gBd hy
  cases u0
  refine ⟨Or.inl ⟨11, _, _, e_u0, rfl⟩, gMet_i (lsx := [(0, .ref a0), (1, .int x1), (2, .int x2)]) (by decide) rfl rfl ?_⟩
  intro M hMl K hret
  subst hMl
  refine g_iconst (v := 1) K d_c11_isWet_0 (by decide) ?_
  refine g_istore_n (ls2 := [(3, .int (1 : Int32)), (0, .ref a0), (1, .int x1), (2, .int x2)]) K d_c11_isWet_1 rfl rfl ?_
  refine g_iconst (v := 0) K d_c11_isWet_2 (by decide) ?_
  refine g_istore (ls2 := [(4, .int (0 : Int32)), (3, .int (1 : Int32)), (0, .ref a0), (1, .int x1), (2, .int x2)]) K d_c11_isWet_3 rfl rfl ?_
  obtain ⟨o12, e_o12, hy⟩ := gBd hy
  refine g_sub (ls2 := [(0, .ref a0), (1, .int x1), (2, .int x2), (3, .int (1 : Int32)), (4, .int (0 : Int32))]) [2, 3, 4, 1, 0] rfl ?_
  refine wlp_c11_isWet_5 hx K a0 x1 x2 N (1 : Int32) (0 : Int32) h o12 e_o12 ?_
  refine g_iload_n K d_c11_isWet_51 0 rfl ?_
  obtain ⟨w13, e_w13, hy⟩ := gBd hy
  obtain ⟨z_w13, n_w13⟩ := gZ_spec e_w13
  rw [z_w13]
  obtain rfl := Option.some.inj hy
  exact hret (gZn n_w13) _ _ _ d_c11_isWet_52
-- c11 parched
theorem d_c11_parched_0 : gD b_c11_parched 0 (.aload_n 0) 1 1 := ⟨by decide +kernel, rfl⟩
theorem d_c11_parched_1 : gD b_c11_parched 1 (.iconst 0) 1 2 := ⟨by decide +kernel, rfl⟩
theorem d_c11_parched_2 : gD b_c11_parched 2 (.putfield 95) 3 5 := ⟨by decide +kernel, rfl⟩
theorem d_c11_parched_5 : gD b_c11_parched 5 (.aload_n 0) 1 6 := ⟨by decide +kernel, rfl⟩
theorem d_c11_parched_6 : gD b_c11_parched 6 (.iload_n 1) 1 7 := ⟨by decide +kernel, rfl⟩
theorem d_c11_parched_7 : gD b_c11_parched 7 (.invokevirtual 246) 3 10 := ⟨by decide +kernel, rfl⟩
theorem d_c11_parched_10 : gJ b_c11_parched 10 (.ifCond .ne 5) 3 5 13 15 := ⟨by decide +kernel, rfl, by decide⟩
theorem d_c11_parched_13 : gD b_c11_parched 13 (.iconst (-1)) 1 14 := ⟨by decide +kernel, rfl⟩
theorem d_c11_parched_14 : gD b_c11_parched 14 .ireturn 1 15 := ⟨by decide +kernel, rfl⟩
theorem d_c11_parched_15 : gD b_c11_parched 15 (.aload_n 0) 1 16 := ⟨by decide +kernel, rfl⟩
theorem d_c11_parched_16 : gD b_c11_parched 16 (.getfield 9) 3 19 := ⟨by decide +kernel, rfl⟩
theorem d_c11_parched_19 : gD b_c11_parched 19 (.aload_n 0) 1 20 := ⟨by decide +kernel, rfl⟩
theorem d_c11_parched_20 : gD b_c11_parched 20 (.getfield 52) 3 23 := ⟨by decide +kernel, rfl⟩
theorem d_c11_parched_23 : gD b_c11_parched 23 (.iconst 0) 1 24 := ⟨by decide +kernel, rfl⟩
theorem d_c11_parched_24 : gD b_c11_parched 24 (.invokestatic 253) 3 27 := ⟨by decide +kernel, rfl⟩
theorem d_c11_parched_27 : gD b_c11_parched 27 (.bipush (-2)) 2 29 := ⟨by decide +kernel, rfl⟩
theorem d_c11_parched_29 : gD b_c11_parched 29 (.istore_n 2) 1 30 := ⟨by decide +kernel, rfl⟩
theorem d_c11_parched_30 : gD b_c11_parched 30 (.iconst 0) 1 31 := ⟨by decide +kernel, rfl⟩
theorem d_c11_parched_31 : gD b_c11_parched 31 (.istore_n 3) 1 32 := ⟨by decide +kernel, rfl⟩
theorem d_c11_parched_32 : gD b_c11_parched 32 (.iconst 1) 1 33 := ⟨by decide +kernel, rfl⟩
theorem d_c11_parched_33 : gD b_c11_parched 33 (.istore 4) 2 35 := ⟨by decide +kernel, rfl⟩
theorem d_c11_parched_35 : gD b_c11_parched 35 (.iload 4) 2 37 := ⟨by decide +kernel, rfl⟩
theorem d_c11_parched_37 : gD b_c11_parched 37 (.bipush 99) 2 39 := ⟨by decide +kernel, rfl⟩
theorem d_c11_parched_39 : gJ b_c11_parched 39 (.if_icmp .gt 52) 3 52 42 91 := ⟨by decide +kernel, rfl, by decide⟩
theorem d_c11_parched_42 : gD b_c11_parched 42 (.aload_n 0) 1 43 := ⟨by decide +kernel, rfl⟩
theorem d_c11_parched_43 : gD b_c11_parched 43 (.aload_n 0) 1 44 := ⟨by decide +kernel, rfl⟩
theorem d_c11_parched_44 : gD b_c11_parched 44 (.getfield 52) 3 47 := ⟨by decide +kernel, rfl⟩
theorem d_c11_parched_47 : gD b_c11_parched 47 (.invokevirtual 257) 3 50 := ⟨by decide +kernel, rfl⟩
theorem d_c11_parched_50 : gD b_c11_parched 50 .pop 1 51 := ⟨by decide +kernel, rfl⟩
theorem d_c11_parched_51 : gD b_c11_parched 51 (.aload_n 0) 1 52 := ⟨by decide +kernel, rfl⟩
theorem d_c11_parched_52 : gD b_c11_parched 52 (.getfield 58) 3 55 := ⟨by decide +kernel, rfl⟩
theorem d_c11_parched_55 : gD b_c11_parched 55 (.iload_n 1) 1 56 := ⟨by decide +kernel, rfl⟩
theorem d_c11_parched_56 : gD b_c11_parched 56 .iaload 1 57 := ⟨by decide +kernel, rfl⟩
theorem d_c11_parched_57 : gD b_c11_parched 57 (.aload_n 0) 1 58 := ⟨by decide +kernel, rfl⟩
theorem d_c11_parched_58 : gD b_c11_parched 58 (.getfield 23) 3 61 := ⟨by decide +kernel, rfl⟩
theorem d_c11_parched_61 : gD b_c11_parched 61 (.iload_n 1) 1 62 := ⟨by decide +kernel, rfl⟩
theorem d_c11_parched_62 : gD b_c11_parched 62 .iaload 1 63 := ⟨by decide +kernel, rfl⟩
theorem d_c11_parched_63 : gJ b_c11_parched 63 (.if_icmp .ne 6) 3 6 66 69 := ⟨by decide +kernel, rfl, by decide⟩
theorem d_c11_parched_66 : gJ b_c11_parched 66 (.goto 19) 3 19 69 85 := ⟨by decide +kernel, rfl, by decide⟩
theorem d_c11_parched_69 : gD b_c11_parched 69 (.iload_n 2) 1 70 := ⟨by decide +kernel, rfl⟩
theorem d_c11_parched_70 : gD b_c11_parched 70 (.bipush (-2)) 2 72 := ⟨by decide +kernel, rfl⟩
theorem d_c11_parched_72 : gJ b_c11_parched 72 (.if_icmp .ne 8) 3 8 75 80 := ⟨by decide +kernel, rfl, by decide⟩
theorem d_c11_parched_75 : gD b_c11_parched 75 (.iload 4) 2 77 := ⟨by decide +kernel, rfl⟩
theorem d_c11_parched_77 : gJ b_c11_parched 77 (.goto 4) 3 4 80 81 := ⟨by decide +kernel, rfl, by decide⟩
theorem d_c11_parched_80 : gD b_c11_parched 80 (.iload_n 2) 1 81 := ⟨by decide +kernel, rfl⟩
theorem d_c11_parched_81 : gD b_c11_parched 81 (.istore_n 2) 1 82 := ⟨by decide +kernel, rfl⟩
theorem d_c11_parched_82 : gD b_c11_parched 82 (.iinc 3 1) 3 85 := ⟨by decide +kernel, rfl⟩
theorem d_c11_parched_85 : gD b_c11_parched 85 (.iinc 4 1) 3 88 := ⟨by decide +kernel, rfl⟩
theorem d_c11_parched_88 : gJ b_c11_parched 88 (.goto (-53)) 3 (-53) 91 35 := ⟨by decide +kernel, rfl, by decide⟩
theorem d_c11_parched_91 : gD b_c11_parched 91 (.iload_n 2) 1 92 := ⟨by decide +kernel, rfl⟩
theorem d_c11_parched_92 : gD b_c11_parched 92 (.bipush (-2)) 2 94 := ⟨by decide +kernel, rfl⟩
theorem d_c11_parched_94 : gJ b_c11_parched 94 (.if_icmp .ne 6) 3 6 97 100 := ⟨by decide +kernel, rfl, by decide⟩
theorem d_c11_parched_97 : gD b_c11_parched 97 (.bipush (-2)) 2 99 := ⟨by decide +kernel, rfl⟩
theorem d_c11_parched_99 : gD b_c11_parched 99 .ireturn 1 100 := ⟨by decide +kernel, rfl⟩
theorem d_c11_parched_100 : gD b_c11_parched 100 (.aload_n 0) 1 101 := ⟨by decide +kernel, rfl⟩
theorem d_c11_parched_101 : gD b_c11_parched 101 (.iconst 0) 1 102 := ⟨by decide +kernel, rfl⟩
theorem d_c11_parched_102 : gD b_c11_parched 102 (.putfield 98) 3 105 := ⟨by decide +kernel, rfl⟩
theorem d_c11_parched_105 : gD b_c11_parched 105 (.aload_n 0) 1 106 := ⟨by decide +kernel, rfl⟩
theorem d_c11_parched_106 : gD b_c11_parched 106 (.iload_n 3) 1 107 := ⟨by decide +kernel, rfl⟩
theorem d_c11_parched_107 : gD b_c11_parched 107 .i2l 1 108 := ⟨by decide +kernel, rfl⟩
theorem d_c11_parched_108 : gD b_c11_parched 108 (.invokevirtual 268) 3 111 := ⟨by decide +kernel, rfl⟩
theorem d_c11_parched_111 : gD b_c11_parched 111 (.iload_n 2) 1 112 := ⟨by decide +kernel, rfl⟩
theorem d_c11_parched_112 : gD b_c11_parched 112 .ireturn 1 113 := ⟨by decide +kernel, rfl⟩
def lp_c11_parched_35 (N : Nat) (a0 : Nat) (x1 : Int32) : Nat → Int32 → Int32 → Int32 → gH → Option (Int32 × Int32 × gH)
  | 0, _, _, _, _ => none
  | k + 1, x2, x3, x4, h =>
  if (99 : Int32) < x4 then
    some (x2, x3, h)
  else
    (gfR h a0 11 25).bind fun v8 =>
    (f_c11_goSeason N a0 v8 h).bind fun q9 =>
    (gfR q9.2 a0 11 27).bind fun v10 =>
    (ga 0 q9.2 v10 x1).bind fun v11 =>
    (gfR q9.2 a0 11 5).bind fun v12 =>
    (ga 0 q9.2 v12 x1).bind fun v13 =>
    (show Option (Int32 × Int32) from if v11 = v13 then
    some (x2, x3)
  else
    some ((if x2 = (-2 : Int32) then x4 else x2), x3 + (1 : Int32))).bind fun t15 =>
    lp_c11_parched_35 N a0 x1 k t15.1 t15.2 (x4 + (1 : Int32)) q9.2
def f_c11_parched (N : Nat) (a0 : Nat) (x1 : Int32) (h : gH) : Option (Int32 × gH) :=
  (gcl h a0 11).bind fun _ =>
  (sf h a0 11 10 (.int (0 : Int32))).bind fun h1 =>
    (f_c11_isVillage N a0 x1 h1).bind fun q2 =>
    if q2 = 0 then
    some ((-1 : Int32), h1)
  else
    (gfR h1 a0 11 0).bind fun v4 =>
    (gfR h1 a0 11 25).bind fun v5 =>
    (f_c11_lay N v4 v5 (0 : Int32) h1).bind fun q6 =>
    (lp_c11_parched_35 N a0 x1 N (-2 : Int32) (0 : Int32) (1 : Int32) q6).bind fun o20 =>
    if o20.1 = (-2 : Int32) then
    some ((-2 : Int32), o20.2.2)
  else
    (sf o20.2.2 a0 11 9 (.int (0 : Int32))).bind fun h22 =>
    (f_c11_tell N a0 o20.2.1.toInt64 h22).bind fun q23 =>
    some (o20.1, q23)
set_option maxHeartbeats 4000000 in
set_option maxRecDepth 100000 in
theorem wlp_c11_parched_35 {M : gM} {X : gX} {N : Nat} (hx : gEx X = false) (K : gC M X gN11 b_c11_parched 5 (gRm (8 + N) 0 0)) (a0 : Nat) (x1 : Int32) : ∀ (k : Nat) (x2 : Int32) (x3 : Int32) (x4 : Int32) (h : gH) (o : Int32 × Int32 × gH), lp_c11_parched_35 N a0 x1 k x2 x3 x4 h = some o → gG M X 5 0 0 91 [(0, .ref a0), (2, .int o.1), (3, .int o.2.1)] [] o.2.2 → gG M X 5 0 0 35 [(0, .ref a0), (1, .int x1), (2, .int x2), (3, .int x3), (4, .int x4)] [] h := by
  intro k
  induction k with
  | zero =>
    intro x2 x3 x4 h o hy
    rw [lp_c11_parched_35.eq_1] at hy
    cases hy
  | succ k ih =>
    intro x2 x3 x4 h o hy hE
    rw [lp_c11_parched_35.eq_2] at hy
    refine g_iload K d_c11_parched_35 4 rfl ?_
    refine g_bipush (v := 99) K d_c11_parched_37 (by decide) ?_
    refine g_icmp_gt K d_c11_parched_39 (fun c7 => ?_) (fun c7 => ?_)
    · rw [if_pos c7] at hy
      refine g_sub (ls2 := [(0, .ref a0), (2, .int x2), (3, .int x3)]) [0, 2, 3] rfl ?_
      obtain rfl := Option.some.inj hy
      exact hE
    · rw [if_neg c7] at hy
      refine g_aload_n K d_c11_parched_42 0 rfl ?_
      refine g_aload_n K d_c11_parched_43 0 rfl ?_
      obtain ⟨v8, e_v8, hy⟩ := gBd hy
      refine g_getR K fl_c11_52 d_c11_parched_44 e_v8 ?_
      obtain ⟨q9, e_q9, hy⟩ := gBd hy
      refine g_callVi (rest := []) K hx ly_c11_goSeason kv_c11_257 d_c11_parched_47 (ct_c11_goSeason M.2.1 X hx N a0 v8 h q9 e_q9) rfl rfl (Nat.le_of_ble_eq_true rfl) (gDep rfl) ⟨Nat.le_refl 0, Nat.le_refl 0⟩ ?_
      refine g_pop K d_c11_parched_50 rfl ?_
      refine g_aload_n K d_c11_parched_51 0 rfl ?_
      obtain ⟨v10, e_v10, hy⟩ := gBd hy
      refine g_getR K fl_c11_58 d_c11_parched_52 e_v10 ?_
      refine g_iload_n K d_c11_parched_55 1 rfl ?_
      obtain ⟨v11, e_v11, hy⟩ := gBd hy
      refine g_iald K d_c11_parched_56 e_v11 ?_
      refine g_aload_n K d_c11_parched_57 0 rfl ?_
      obtain ⟨v12, e_v12, hy⟩ := gBd hy
      refine g_getR K fl_c11_23 d_c11_parched_58 e_v12 ?_
      refine g_iload_n K d_c11_parched_61 1 rfl ?_
      obtain ⟨v13, e_v13, hy⟩ := gBd hy
      refine g_iald K d_c11_parched_62 e_v13 ?_
      obtain ⟨t15, e_t15, hy⟩ := gBd hy
      have hJ16 : gG M X 5 0 0 85 [(0, .ref a0), (1, .int x1), (2, .int t15.1), (3, .int t15.2), (4, .int x4)] [] q9.2 := by
        refine g_iinc (ls2 := [(4, .int (x4 + (1 : Int32))), (0, .ref a0), (1, .int x1), (2, .int t15.1), (3, .int t15.2)]) (v := 1) K d_c11_parched_85 4 rfl (by decide) rfl rfl ?_
        refine g_goto K d_c11_parched_88 ?_
        refine g_sub (ls2 := [(0, .ref a0), (1, .int x1), (2, .int t15.1), (3, .int t15.2), (4, .int (x4 + (1 : Int32)))]) [1, 2, 3, 4, 0] rfl ?_
        exact ih _ _ _ _ _ hy hE
      refine g_icmp_ne K d_c11_parched_63 (fun c14 => ?_) (fun c14 => ?_)
      · rw [if_neg c14] at e_t15
        refine g_iload_n K d_c11_parched_69 2 rfl ?_
        refine g_bipush (v := (-2)) K d_c11_parched_70 (by decide) ?_
        have hJ19 : ∀ w18 : Int32, w18 = (if x2 = (-2 : Int32) then x4 else x2) → gG M X 5 0 0 81 [(0, .ref a0), (1, .int x1), (2, .int x2), (3, .int x3), (4, .int x4)] [.int w18] q9.2 := by
          intro w18 e_w18
          subst e_w18
          refine g_istore_n (ls2 := [(2, .int (if x2 = (-2 : Int32) then x4 else x2)), (0, .ref a0), (1, .int x1), (3, .int x3), (4, .int x4)]) K d_c11_parched_81 rfl rfl ?_
          refine g_iinc (ls2 := [(3, .int (x3 + (1 : Int32))), (2, .int (if x2 = (-2 : Int32) then x4 else x2)), (0, .ref a0), (1, .int x1), (4, .int x4)]) (v := 1) K d_c11_parched_82 3 rfl (by decide) rfl rfl ?_
          refine g_sub (ls2 := [(0, .ref a0), (1, .int x1), (2, .int (if x2 = (-2 : Int32) then x4 else x2)), (3, .int (x3 + (1 : Int32))), (4, .int x4)]) [2, 3, 1, 0, 4] rfl ?_
          obtain rfl := Option.some.inj e_t15
          exact hJ16
        refine g_icmp_ne K d_c11_parched_72 (fun c17 => ?_) (fun c17 => ?_)
        · refine g_iload_n K d_c11_parched_80 2 rfl ?_
          exact hJ19 _ (by rw [if_neg c17])
        · refine g_iload K d_c11_parched_75 4 rfl ?_
          refine g_goto K d_c11_parched_77 ?_
          exact hJ19 _ (by rw [if_pos c17])
      · rw [if_pos c14] at e_t15
        refine g_goto K d_c11_parched_66 ?_
        obtain rfl := Option.some.inj e_t15
        exact hJ16
set_option maxHeartbeats 4000000 in
set_option maxRecDepth 100000 in
theorem ct_c11_parched (l : Launch) (X : gX) (hx : gEx X = false) (N : Nat) (a0 : Nat) (x1 : Int32) (h : gH) (q : Int32 × gH) (hy : f_c11_parched N a0 x1 h = some q) : gRc y_c11_parched h a0 ∧ gMi l X y_c11_parched b_c11_parched 5 .int (8 + N) 0 0 [.ref a0, .int x1] h q.1 q.2 := by
  unfold f_c11_parched at hy
  obtain ⟨u0, e_u0, hy⟩ := gBd hy
  cases u0
  refine ⟨Or.inl ⟨11, _, _, e_u0, rfl⟩, gMet_i (lsx := [(0, .ref a0), (1, .int x1)]) (by decide) rfl rfl ?_⟩
  intro M hMl K hret
  subst hMl
  refine g_aload_n K d_c11_parched_0 0 rfl ?_
  refine g_iconst (v := 0) K d_c11_parched_1 (by decide) ?_
  obtain ⟨h1, e_h1, hy⟩ := gBd hy
  refine g_putI K fp_c11_95 d_c11_parched_2 e_h1 ?_
  refine g_aload_n K d_c11_parched_5 0 rfl ?_
  refine g_iload_n K d_c11_parched_6 1 rfl ?_
  obtain ⟨q2, e_q2, hy⟩ := gBd hy
  refine g_callVi (rest := []) K hx ly_c11_isVillage kv_c11_246 d_c11_parched_7 (ct_c11_isVillage M.2.1 X hx N a0 x1 h1 q2 e_q2) rfl rfl (Nat.le_of_ble_eq_true rfl) (gDep rfl) ⟨Nat.le_refl 0, Nat.le_refl 0⟩ ?_
  refine g_if_ne K d_c11_parched_10 (fun c3 => ?_) (fun c3 => ?_)
  · rw [if_neg c3] at hy
    refine g_aload_n K d_c11_parched_15 0 rfl ?_
    obtain ⟨v4, e_v4, hy⟩ := gBd hy
    refine g_getR K fl_c11_9 d_c11_parched_16 e_v4 ?_
    refine g_aload_n K d_c11_parched_19 0 rfl ?_
    obtain ⟨v5, e_v5, hy⟩ := gBd hy
    refine g_getR K fl_c11_52 d_c11_parched_20 e_v5 ?_
    refine g_iconst (v := 0) K d_c11_parched_23 (by decide) ?_
    obtain ⟨q6, e_q6, hy⟩ := gBd hy
    refine g_callSv (rest := []) K hx ly_c11_lay ks_c11_253 d_c11_parched_24 (ct_c11_lay M.2.1 X hx N v4 v5 (0 : Int32) h1 q6 e_q6) rfl rfl (Nat.le_of_ble_eq_true rfl) (gDep rfl) ⟨Nat.le_refl 0, Nat.le_refl 0⟩ ?_
    refine g_bipush (v := (-2)) K d_c11_parched_27 (by decide) ?_
    refine g_istore_n (ls2 := [(2, .int (-2 : Int32)), (0, .ref a0), (1, .int x1)]) K d_c11_parched_29 rfl rfl ?_
    refine g_iconst (v := 0) K d_c11_parched_30 (by decide) ?_
    refine g_istore_n (ls2 := [(3, .int (0 : Int32)), (2, .int (-2 : Int32)), (0, .ref a0), (1, .int x1)]) K d_c11_parched_31 rfl rfl ?_
    refine g_iconst (v := 1) K d_c11_parched_32 (by decide) ?_
    refine g_istore (ls2 := [(4, .int (1 : Int32)), (3, .int (0 : Int32)), (2, .int (-2 : Int32)), (0, .ref a0), (1, .int x1)]) K d_c11_parched_33 rfl rfl ?_
    obtain ⟨o20, e_o20, hy⟩ := gBd hy
    refine g_sub (ls2 := [(0, .ref a0), (1, .int x1), (2, .int (-2 : Int32)), (3, .int (0 : Int32)), (4, .int (1 : Int32))]) [3, 4, 2, 1, 0] rfl ?_
    refine wlp_c11_parched_35 hx K a0 x1 N (-2 : Int32) (0 : Int32) (1 : Int32) q6 o20 e_o20 ?_
    refine g_iload_n K d_c11_parched_91 1 rfl ?_
    refine g_bipush (v := (-2)) K d_c11_parched_92 (by decide) ?_
    refine g_icmp_ne K d_c11_parched_94 (fun c21 => ?_) (fun c21 => ?_)
    · rw [if_neg c21] at hy
      refine g_aload_n K d_c11_parched_100 0 rfl ?_
      refine g_iconst (v := 0) K d_c11_parched_101 (by decide) ?_
      obtain ⟨h22, e_h22, hy⟩ := gBd hy
      refine g_putI K fp_c11_98 d_c11_parched_102 e_h22 ?_
      refine g_aload_n K d_c11_parched_105 0 rfl ?_
      refine g_iload_n K d_c11_parched_106 2 rfl ?_
      refine g_i2l K d_c11_parched_107 ?_
      obtain ⟨q23, e_q23, hy⟩ := gBd hy
      refine g_callVv (rest := []) K hx ly_c11_tell kv_c11_268 d_c11_parched_108 (ct_c11_tell M.2.1 X hx N a0 o20.2.1.toInt64 h22 q23 e_q23) rfl rfl (Nat.le_of_ble_eq_true rfl) (gDep rfl) ⟨Nat.le_refl 0, Nat.le_refl 0⟩ ?_
      refine g_iload_n K d_c11_parched_111 1 rfl ?_
      obtain rfl := Option.some.inj hy
      exact hret rfl _ _ _ d_c11_parched_112
    · rw [if_pos c21] at hy
      refine g_bipush (v := (-2)) K d_c11_parched_97 (by decide) ?_
      obtain rfl := Option.some.inj hy
      exact hret rfl _ _ _ d_c11_parched_99
  · rw [if_pos c3] at hy
    refine g_iconst (v := (-1)) K d_c11_parched_13 (by decide) ?_
    obtain rfl := Option.some.inj hy
    exact hret rfl _ _ _ d_c11_parched_14
-- c11 rises
theorem d_c11_rises_0 : gD b_c11_rises 0 (.aload_n 0) 1 1 := ⟨by decide +kernel, rfl⟩
theorem d_c11_rises_1 : gD b_c11_rises 1 (.iconst 0) 1 2 := ⟨by decide +kernel, rfl⟩
theorem d_c11_rises_2 : gD b_c11_rises 2 (.putfield 95) 3 5 := ⟨by decide +kernel, rfl⟩
theorem d_c11_rises_5 : gD b_c11_rises 5 (.aload_n 0) 1 6 := ⟨by decide +kernel, rfl⟩
theorem d_c11_rises_6 : gD b_c11_rises 6 (.iload_n 1) 1 7 := ⟨by decide +kernel, rfl⟩
theorem d_c11_rises_7 : gD b_c11_rises 7 (.invokevirtual 233) 3 10 := ⟨by decide +kernel, rfl⟩
theorem d_c11_rises_10 : gJ b_c11_rises 10 (.ifCond .eq 13) 3 13 13 23 := ⟨by decide +kernel, rfl, by decide⟩
theorem d_c11_rises_13 : gD b_c11_rises 13 (.iload_n 2) 1 14 := ⟨by decide +kernel, rfl⟩
theorem d_c11_rises_14 : gD b_c11_rises 14 (.iconst 0) 1 15 := ⟨by decide +kernel, rfl⟩
theorem d_c11_rises_15 : gD b_c11_rises 15 (.bipush 99) 2 17 := ⟨by decide +kernel, rfl⟩
theorem d_c11_rises_17 : gD b_c11_rises 17 (.invokestatic 105) 3 20 := ⟨by decide +kernel, rfl⟩
theorem d_c11_rises_20 : gJ b_c11_rises 20 (.ifCond .ne 5) 3 5 23 25 := ⟨by decide +kernel, rfl, by decide⟩
theorem d_c11_rises_23 : gD b_c11_rises 23 (.iconst (-1)) 1 24 := ⟨by decide +kernel, rfl⟩
theorem d_c11_rises_24 : gD b_c11_rises 24 .ireturn 1 25 := ⟨by decide +kernel, rfl⟩
theorem d_c11_rises_25 : gD b_c11_rises 25 (.aload_n 0) 1 26 := ⟨by decide +kernel, rfl⟩
theorem d_c11_rises_26 : gD b_c11_rises 26 (.getfield 9) 3 29 := ⟨by decide +kernel, rfl⟩
theorem d_c11_rises_29 : gD b_c11_rises 29 (.aload_n 0) 1 30 := ⟨by decide +kernel, rfl⟩
theorem d_c11_rises_30 : gD b_c11_rises 30 (.getfield 52) 3 33 := ⟨by decide +kernel, rfl⟩
theorem d_c11_rises_33 : gD b_c11_rises 33 (.iconst 0) 1 34 := ⟨by decide +kernel, rfl⟩
theorem d_c11_rises_34 : gD b_c11_rises 34 (.invokestatic 253) 3 37 := ⟨by decide +kernel, rfl⟩
theorem d_c11_rises_37 : gD b_c11_rises 37 (.iconst 0) 1 38 := ⟨by decide +kernel, rfl⟩
theorem d_c11_rises_38 : gD b_c11_rises 38 (.istore_n 3) 1 39 := ⟨by decide +kernel, rfl⟩
theorem d_c11_rises_39 : gD b_c11_rises 39 (.iload_n 3) 1 40 := ⟨by decide +kernel, rfl⟩
theorem d_c11_rises_40 : gD b_c11_rises 40 (.bipush 99) 2 42 := ⟨by decide +kernel, rfl⟩
theorem d_c11_rises_42 : gJ b_c11_rises 42 (.if_icmp .gt 52) 3 52 45 94 := ⟨by decide +kernel, rfl, by decide⟩
theorem d_c11_rises_45 : gD b_c11_rises 45 (.aload_n 0) 1 46 := ⟨by decide +kernel, rfl⟩
theorem d_c11_rises_46 : gD b_c11_rises 46 (.getfield 52) 3 49 := ⟨by decide +kernel, rfl⟩
theorem d_c11_rises_49 : gD b_c11_rises 49 (.bipush 32) 2 51 := ⟨by decide +kernel, rfl⟩
theorem d_c11_rises_51 : gD b_c11_rises 51 (.iload_n 1) 1 52 := ⟨by decide +kernel, rfl⟩
theorem d_c11_rises_52 : gD b_c11_rises 52 .iadd 1 53 := ⟨by decide +kernel, rfl⟩
theorem d_c11_rises_53 : gD b_c11_rises 53 .iaload 1 54 := ⟨by decide +kernel, rfl⟩
theorem d_c11_rises_54 : gD b_c11_rises 54 (.iload_n 2) 1 55 := ⟨by decide +kernel, rfl⟩
theorem d_c11_rises_55 : gJ b_c11_rises 55 (.if_icmp .lt 24) 3 24 58 79 := ⟨by decide +kernel, rfl, by decide⟩
theorem d_c11_rises_58 : gD b_c11_rises 58 (.aload_n 0) 1 59 := ⟨by decide +kernel, rfl⟩
theorem d_c11_rises_59 : gD b_c11_rises 59 (.iconst 0) 1 60 := ⟨by decide +kernel, rfl⟩
theorem d_c11_rises_60 : gD b_c11_rises 60 (.putfield 98) 3 63 := ⟨by decide +kernel, rfl⟩
theorem d_c11_rises_63 : gD b_c11_rises 63 (.aload_n 0) 1 64 := ⟨by decide +kernel, rfl⟩
theorem d_c11_rises_64 : gD b_c11_rises 64 (.aload_n 0) 1 65 := ⟨by decide +kernel, rfl⟩
theorem d_c11_rises_65 : gD b_c11_rises 65 (.getfield 52) 3 68 := ⟨by decide +kernel, rfl⟩
theorem d_c11_rises_68 : gD b_c11_rises 68 (.bipush 32) 2 70 := ⟨by decide +kernel, rfl⟩
theorem d_c11_rises_70 : gD b_c11_rises 70 (.iload_n 1) 1 71 := ⟨by decide +kernel, rfl⟩
theorem d_c11_rises_71 : gD b_c11_rises 71 .iadd 1 72 := ⟨by decide +kernel, rfl⟩
theorem d_c11_rises_72 : gD b_c11_rises 72 .iaload 1 73 := ⟨by decide +kernel, rfl⟩
theorem d_c11_rises_73 : gD b_c11_rises 73 .i2l 1 74 := ⟨by decide +kernel, rfl⟩
theorem d_c11_rises_74 : gD b_c11_rises 74 (.invokevirtual 268) 3 77 := ⟨by decide +kernel, rfl⟩
theorem d_c11_rises_77 : gD b_c11_rises 77 (.iload_n 3) 1 78 := ⟨by decide +kernel, rfl⟩
theorem d_c11_rises_78 : gD b_c11_rises 78 .ireturn 1 79 := ⟨by decide +kernel, rfl⟩
theorem d_c11_rises_79 : gD b_c11_rises 79 (.aload_n 0) 1 80 := ⟨by decide +kernel, rfl⟩
theorem d_c11_rises_80 : gD b_c11_rises 80 (.aload_n 0) 1 81 := ⟨by decide +kernel, rfl⟩
theorem d_c11_rises_81 : gD b_c11_rises 81 (.getfield 52) 3 84 := ⟨by decide +kernel, rfl⟩
theorem d_c11_rises_84 : gD b_c11_rises 84 (.invokevirtual 257) 3 87 := ⟨by decide +kernel, rfl⟩
theorem d_c11_rises_87 : gD b_c11_rises 87 .pop 1 88 := ⟨by decide +kernel, rfl⟩
theorem d_c11_rises_88 : gD b_c11_rises 88 (.iinc 3 1) 3 91 := ⟨by decide +kernel, rfl⟩
theorem d_c11_rises_91 : gJ b_c11_rises 91 (.goto (-52)) 3 (-52) 94 39 := ⟨by decide +kernel, rfl, by decide⟩
theorem d_c11_rises_94 : gD b_c11_rises 94 (.bipush (-2)) 2 96 := ⟨by decide +kernel, rfl⟩
theorem d_c11_rises_96 : gD b_c11_rises 96 .ireturn 1 97 := ⟨by decide +kernel, rfl⟩
def lp_c11_rises_39 (N : Nat) (a0 : Nat) (x1 : Int32) (x2 : Int32) : Nat → Int32 → gH → Option ((Int32 × gH) ⊕ (gH))
  | 0, _, _ => none
  | k + 1, x3, h =>
  if (99 : Int32) < x3 then
    some (.inr h)
  else
    (gfR h a0 11 25).bind fun v10 =>
    (ga 0 h v10 ((32 : Int32) + x1)).bind fun v11 =>
    if v11 < x2 then
    (gfR h a0 11 25).bind fun v13 =>
    (f_c11_goSeason N a0 v13 h).bind fun q14 =>
    lp_c11_rises_39 N a0 x1 x2 k (x3 + (1 : Int32)) q14.2
  else
    (sf h a0 11 9 (.int (0 : Int32))).bind fun h15 =>
    (gfR h15 a0 11 25).bind fun v16 =>
    (ga 0 h15 v16 ((32 : Int32) + x1)).bind fun v17 =>
    (f_c11_tell N a0 v17.toInt64 h15).bind fun q18 =>
    some (.inl (x3, q18))
def f_c11_rises (N : Nat) (a0 : Nat) (x1 : Int32) (x2 : Int32) (h : gH) : Option (Int32 × gH) :=
  (gcl h a0 11).bind fun _ =>
  (sf h a0 11 10 (.int (0 : Int32))).bind fun h1 =>
    (f_c11_isWell N a0 x1 h1).bind fun q2 =>
    if q2 = 0 then
    some ((-1 : Int32), h1)
  else
    (f_c11_in N x2 (0 : Int32) (99 : Int32) h1).bind fun q4 =>
    if q4 = 0 then
    some ((-1 : Int32), h1)
  else
    (gfR h1 a0 11 0).bind fun v6 =>
    (gfR h1 a0 11 25).bind fun v7 =>
    (f_c11_lay N v6 v7 (0 : Int32) h1).bind fun q8 =>
    (lp_c11_rises_39 N a0 x1 x2 N (0 : Int32) q8).bind fun o19 => Sum.elim (fun r21 => some r21) (fun t20 =>
    some ((-2 : Int32), t20)) o19
set_option maxHeartbeats 4000000 in
set_option maxRecDepth 100000 in
theorem wlp_c11_rises_39 {M : gM} {X : gX} {N : Nat} (hx : gEx X = false) (K : gC M X gN11 b_c11_rises 4 (gRm (8 + N) 0 0)) (a0 : Nat) (x1 : Int32) (x2 : Int32) : ∀ (k : Nat) (x3 : Int32) (h : gH) (o : (Int32 × gH) ⊕ (gH)), lp_c11_rises_39 N a0 x1 x2 k x3 h = some o → (∀ t, o = .inr t → gG M X 4 0 0 94 [] [] t) → (∀ r, o = .inl r → (narrow .int (.int r.1) = .int r.1 → ∀ pc pc' ls, gD b_c11_rises pc .ireturn 1 pc' → gG M X 4 0 0 pc ls [.int r.1] r.2)) → gG M X 4 0 0 39 [(0, .ref a0), (1, .int x1), (2, .int x2), (3, .int x3)] [] h := by
  intro k
  induction k with
  | zero =>
    intro x3 h o hy
    rw [lp_c11_rises_39.eq_1] at hy
    cases hy
  | succ k ih =>
    intro x3 h o hy hE hR
    rw [lp_c11_rises_39.eq_2] at hy
    refine g_iload_n K d_c11_rises_39 3 rfl ?_
    refine g_bipush (v := 99) K d_c11_rises_40 (by decide) ?_
    refine g_icmp_gt K d_c11_rises_42 (fun c9 => ?_) (fun c9 => ?_)
    · rw [if_pos c9] at hy
      refine g_sub (ls2 := []) [] rfl ?_
      obtain rfl := Option.some.inj hy
      exact hE _ rfl
    · rw [if_neg c9] at hy
      refine g_aload_n K d_c11_rises_45 0 rfl ?_
      obtain ⟨v10, e_v10, hy⟩ := gBd hy
      refine g_getR K fl_c11_52 d_c11_rises_46 e_v10 ?_
      refine g_bipush (v := 32) K d_c11_rises_49 (by decide) ?_
      refine g_iload_n K d_c11_rises_51 1 rfl ?_
      refine g_iadd K d_c11_rises_52 ?_
      obtain ⟨v11, e_v11, hy⟩ := gBd hy
      refine g_iald K d_c11_rises_53 e_v11 ?_
      refine g_iload_n K d_c11_rises_54 2 rfl ?_
      refine g_icmp_lt K d_c11_rises_55 (fun c12 => ?_) (fun c12 => ?_)
      · rw [if_pos c12] at hy
        refine g_aload_n K d_c11_rises_79 0 rfl ?_
        refine g_aload_n K d_c11_rises_80 0 rfl ?_
        obtain ⟨v13, e_v13, hy⟩ := gBd hy
        refine g_getR K fl_c11_52 d_c11_rises_81 e_v13 ?_
        obtain ⟨q14, e_q14, hy⟩ := gBd hy
        refine g_callVi (rest := []) K hx ly_c11_goSeason kv_c11_257 d_c11_rises_84 (ct_c11_goSeason M.2.1 X hx N a0 v13 h q14 e_q14) rfl rfl (Nat.le_of_ble_eq_true rfl) (gDep rfl) ⟨Nat.le_refl 0, Nat.le_refl 0⟩ ?_
        refine g_pop K d_c11_rises_87 rfl ?_
        refine g_iinc (ls2 := [(3, .int (x3 + (1 : Int32))), (0, .ref a0), (1, .int x1), (2, .int x2)]) (v := 1) K d_c11_rises_88 3 rfl (by decide) rfl rfl ?_
        refine g_goto K d_c11_rises_91 ?_
        refine g_sub (ls2 := [(0, .ref a0), (1, .int x1), (2, .int x2), (3, .int (x3 + (1 : Int32)))]) [1, 2, 3, 0] rfl ?_
        exact ih _ _ _ hy hE hR
      · rw [if_neg c12] at hy
        refine g_aload_n K d_c11_rises_58 0 rfl ?_
        refine g_iconst (v := 0) K d_c11_rises_59 (by decide) ?_
        obtain ⟨h15, e_h15, hy⟩ := gBd hy
        refine g_putI K fp_c11_98 d_c11_rises_60 e_h15 ?_
        refine g_aload_n K d_c11_rises_63 0 rfl ?_
        refine g_aload_n K d_c11_rises_64 0 rfl ?_
        obtain ⟨v16, e_v16, hy⟩ := gBd hy
        refine g_getR K fl_c11_52 d_c11_rises_65 e_v16 ?_
        refine g_bipush (v := 32) K d_c11_rises_68 (by decide) ?_
        refine g_iload_n K d_c11_rises_70 1 rfl ?_
        refine g_iadd K d_c11_rises_71 ?_
        obtain ⟨v17, e_v17, hy⟩ := gBd hy
        refine g_iald K d_c11_rises_72 e_v17 ?_
        refine g_i2l K d_c11_rises_73 ?_
        obtain ⟨q18, e_q18, hy⟩ := gBd hy
        refine g_callVv (rest := []) K hx ly_c11_tell kv_c11_268 d_c11_rises_74 (ct_c11_tell M.2.1 X hx N a0 v17.toInt64 h15 q18 e_q18) rfl rfl (Nat.le_of_ble_eq_true rfl) (gDep rfl) ⟨Nat.le_refl 0, Nat.le_refl 0⟩ ?_
        refine g_iload_n K d_c11_rises_77 3 rfl ?_
        obtain rfl := Option.some.inj hy
        exact hR _ rfl rfl _ _ _ d_c11_rises_78
set_option maxHeartbeats 4000000 in
set_option maxRecDepth 100000 in
theorem ct_c11_rises (l : Launch) (X : gX) (hx : gEx X = false) (N : Nat) (a0 : Nat) (x1 : Int32) (x2 : Int32) (h : gH) (q : Int32 × gH) (hy : f_c11_rises N a0 x1 x2 h = some q) : gRc y_c11_rises h a0 ∧ gMi l X y_c11_rises b_c11_rises 4 .int (8 + N) 0 0 [.ref a0, .int x1, .int x2] h q.1 q.2 := by
  unfold f_c11_rises at hy
  obtain ⟨u0, e_u0, hy⟩ := gBd hy
  cases u0
  refine ⟨Or.inl ⟨11, _, _, e_u0, rfl⟩, gMet_i (lsx := [(0, .ref a0), (1, .int x1), (2, .int x2)]) (by decide) rfl rfl ?_⟩
  intro M hMl K hret
  subst hMl
  refine g_aload_n K d_c11_rises_0 0 rfl ?_
  refine g_iconst (v := 0) K d_c11_rises_1 (by decide) ?_
  obtain ⟨h1, e_h1, hy⟩ := gBd hy
  refine g_putI K fp_c11_95 d_c11_rises_2 e_h1 ?_
  refine g_aload_n K d_c11_rises_5 0 rfl ?_
  refine g_iload_n K d_c11_rises_6 1 rfl ?_
  obtain ⟨q2, e_q2, hy⟩ := gBd hy
  refine g_callVi (rest := []) K hx ly_c11_isWell kv_c11_233 d_c11_rises_7 (ct_c11_isWell M.2.1 X hx N a0 x1 h1 q2 e_q2) rfl rfl (Nat.le_of_ble_eq_true rfl) (gDep rfl) ⟨Nat.le_refl 0, Nat.le_refl 0⟩ ?_
  refine g_if_eq K d_c11_rises_10 (fun c3 => ?_) (fun c3 => ?_)
  · rw [if_pos c3] at hy
    refine g_iconst (v := (-1)) K d_c11_rises_23 (by decide) ?_
    obtain rfl := Option.some.inj hy
    exact hret rfl _ _ _ d_c11_rises_24
  · rw [if_neg c3] at hy
    refine g_iload_n K d_c11_rises_13 2 rfl ?_
    refine g_iconst (v := 0) K d_c11_rises_14 (by decide) ?_
    refine g_bipush (v := 99) K d_c11_rises_15 (by decide) ?_
    obtain ⟨q4, e_q4, hy⟩ := gBd hy
    refine g_callSi (rest := []) K hx ly_c11_in ks_c11_105 d_c11_rises_17 (ct_c11_in M.2.1 X hx N x2 (0 : Int32) (99 : Int32) h1 q4 e_q4) rfl rfl (Nat.le_of_ble_eq_true rfl) (gDep rfl) ⟨Nat.le_refl 0, Nat.le_refl 0⟩ ?_
    refine g_if_ne K d_c11_rises_20 (fun c5 => ?_) (fun c5 => ?_)
    · rw [if_neg c5] at hy
      refine g_aload_n K d_c11_rises_25 0 rfl ?_
      obtain ⟨v6, e_v6, hy⟩ := gBd hy
      refine g_getR K fl_c11_9 d_c11_rises_26 e_v6 ?_
      refine g_aload_n K d_c11_rises_29 0 rfl ?_
      obtain ⟨v7, e_v7, hy⟩ := gBd hy
      refine g_getR K fl_c11_52 d_c11_rises_30 e_v7 ?_
      refine g_iconst (v := 0) K d_c11_rises_33 (by decide) ?_
      obtain ⟨q8, e_q8, hy⟩ := gBd hy
      refine g_callSv (rest := []) K hx ly_c11_lay ks_c11_253 d_c11_rises_34 (ct_c11_lay M.2.1 X hx N v6 v7 (0 : Int32) h1 q8 e_q8) rfl rfl (Nat.le_of_ble_eq_true rfl) (gDep rfl) ⟨Nat.le_refl 0, Nat.le_refl 0⟩ ?_
      refine g_iconst (v := 0) K d_c11_rises_37 (by decide) ?_
      refine g_istore_n (ls2 := [(3, .int (0 : Int32)), (0, .ref a0), (1, .int x1), (2, .int x2)]) K d_c11_rises_38 rfl rfl ?_
      obtain ⟨o19, e_o19, hy⟩ := gBd hy
      refine g_sub (ls2 := [(0, .ref a0), (1, .int x1), (2, .int x2), (3, .int (0 : Int32))]) [1, 2, 3, 0] rfl ?_
      refine wlp_c11_rises_39 hx K a0 x1 x2 N (0 : Int32) q8 o19 e_o19 (fun t20 e_t20 => ?_) (fun r21 e_r21 => ?_)
      · subst e_t20
        simp only [Sum.elim_inr] at hy
        refine g_bipush (v := (-2)) K d_c11_rises_94 (by decide) ?_
        obtain rfl := Option.some.inj hy
        exact hret rfl _ _ _ d_c11_rises_96
      · subst e_r21
        simp only [Sum.elim_inl] at hy
        intro hn pc9 pc9' ls9 hd9
        obtain rfl := Option.some.inj hy
        exact hret hn _ _ _ hd9
    · rw [if_pos c5] at hy
      refine g_iconst (v := (-1)) K d_c11_rises_23 (by decide) ?_
      obtain rfl := Option.some.inj hy
      exact hret rfl _ _ _ d_c11_rises_24
-- c11 years
theorem d_c11_years_0 : gD b_c11_years 0 (.aload_n 0) 1 1 := ⟨by decide +kernel, rfl⟩
theorem d_c11_years_1 : gD b_c11_years 1 (.iconst 0) 1 2 := ⟨by decide +kernel, rfl⟩
theorem d_c11_years_2 : gD b_c11_years 2 (.putfield 95) 3 5 := ⟨by decide +kernel, rfl⟩
theorem d_c11_years_5 : gD b_c11_years 5 (.iload_n 2) 1 6 := ⟨by decide +kernel, rfl⟩
theorem d_c11_years_6 : gD b_c11_years 6 (.iconst 1) 1 7 := ⟨by decide +kernel, rfl⟩
theorem d_c11_years_7 : gD b_c11_years 7 (.bipush 60) 2 9 := ⟨by decide +kernel, rfl⟩
theorem d_c11_years_9 : gD b_c11_years 9 (.invokestatic 105) 3 12 := ⟨by decide +kernel, rfl⟩
theorem d_c11_years_12 : gJ b_c11_years 12 (.ifCond .ne 5) 3 5 15 17 := ⟨by decide +kernel, rfl, by decide⟩
theorem d_c11_years_15 : gD b_c11_years 15 (.iconst (-1)) 1 16 := ⟨by decide +kernel, rfl⟩
theorem d_c11_years_16 : gD b_c11_years 16 .ireturn 1 17 := ⟨by decide +kernel, rfl⟩
theorem d_c11_years_17 : gD b_c11_years 17 (.aload_n 0) 1 18 := ⟨by decide +kernel, rfl⟩
theorem d_c11_years_18 : gD b_c11_years 18 (.iload_n 1) 1 19 := ⟨by decide +kernel, rfl⟩
theorem d_c11_years_19 : gD b_c11_years 19 (.putfield 375) 3 22 := ⟨by decide +kernel, rfl⟩
theorem d_c11_years_22 : gD b_c11_years 22 (.aload_n 0) 1 23 := ⟨by decide +kernel, rfl⟩
theorem d_c11_years_23 : gD b_c11_years 23 (.getfield 9) 3 26 := ⟨by decide +kernel, rfl⟩
theorem d_c11_years_26 : gD b_c11_years 26 (.aload_n 0) 1 27 := ⟨by decide +kernel, rfl⟩
theorem d_c11_years_27 : gD b_c11_years 27 (.getfield 52) 3 30 := ⟨by decide +kernel, rfl⟩
theorem d_c11_years_30 : gD b_c11_years 30 (.iconst 0) 1 31 := ⟨by decide +kernel, rfl⟩
theorem d_c11_years_31 : gD b_c11_years 31 (.invokestatic 253) 3 34 := ⟨by decide +kernel, rfl⟩
theorem d_c11_years_34 : gD b_c11_years 34 (.iconst 0) 1 35 := ⟨by decide +kernel, rfl⟩
theorem d_c11_years_35 : gD b_c11_years 35 (.istore_n 3) 1 36 := ⟨by decide +kernel, rfl⟩
theorem d_c11_years_36 : gD b_c11_years 36 (.iload_n 3) 1 37 := ⟨by decide +kernel, rfl⟩
theorem d_c11_years_37 : gD b_c11_years 37 (.iload_n 2) 1 38 := ⟨by decide +kernel, rfl⟩
theorem d_c11_years_38 : gJ b_c11_years 38 (.if_icmp .ge 149) 3 149 41 187 := ⟨by decide +kernel, rfl, by decide⟩
theorem d_c11_years_41 : gD b_c11_years 41 (.aload_n 0) 1 42 := ⟨by decide +kernel, rfl⟩
theorem d_c11_years_42 : gD b_c11_years 42 (.iconst 4) 1 43 := ⟨by decide +kernel, rfl⟩
theorem d_c11_years_43 : gD b_c11_years 43 (.invokevirtual 379) 3 46 := ⟨by decide +kernel, rfl⟩
theorem d_c11_years_46 : gD b_c11_years 46 (.istore 4) 2 48 := ⟨by decide +kernel, rfl⟩
theorem d_c11_years_48 : gD b_c11_years 48 (.iload 4) 2 50 := ⟨by decide +kernel, rfl⟩
theorem d_c11_years_50 : gD b_c11_years 50 (.iconst 2) 1 51 := ⟨by decide +kernel, rfl⟩
theorem d_c11_years_51 : gJ b_c11_years 51 (.if_icmp .ge 12) 3 12 54 63 := ⟨by decide +kernel, rfl, by decide⟩
theorem d_c11_years_54 : gD b_c11_years 54 (.aload_n 0) 1 55 := ⟨by decide +kernel, rfl⟩
theorem d_c11_years_55 : gD b_c11_years 55 (.aload_n 0) 1 56 := ⟨by decide +kernel, rfl⟩
theorem d_c11_years_56 : gD b_c11_years 56 (.getfield 52) 3 59 := ⟨by decide +kernel, rfl⟩
theorem d_c11_years_59 : gD b_c11_years 59 (.invokevirtual 257) 3 62 := ⟨by decide +kernel, rfl⟩
theorem d_c11_years_62 : gD b_c11_years 62 .pop 1 63 := ⟨by decide +kernel, rfl⟩
theorem d_c11_years_63 : gD b_c11_years 63 (.iload 4) 2 65 := ⟨by decide +kernel, rfl⟩
theorem d_c11_years_65 : gD b_c11_years 65 (.iconst 2) 1 66 := ⟨by decide +kernel, rfl⟩
theorem d_c11_years_66 : gJ b_c11_years 66 (.if_icmp .ne 60) 3 60 69 126 := ⟨by decide +kernel, rfl, by decide⟩
theorem d_c11_years_69 : gD b_c11_years 69 (.aload_n 0) 1 70 := ⟨by decide +kernel, rfl⟩
theorem d_c11_years_70 : gD b_c11_years 70 (.aload_n 0) 1 71 := ⟨by decide +kernel, rfl⟩
theorem d_c11_years_71 : gD b_c11_years 71 (.invokevirtual 101) 3 74 := ⟨by decide +kernel, rfl⟩
theorem d_c11_years_74 : gD b_c11_years 74 (.invokevirtual 379) 3 77 := ⟨by decide +kernel, rfl⟩
theorem d_c11_years_77 : gD b_c11_years 77 (.istore 5) 2 79 := ⟨by decide +kernel, rfl⟩
theorem d_c11_years_79 : gD b_c11_years 79 (.iconst 1) 1 80 := ⟨by decide +kernel, rfl⟩
theorem d_c11_years_80 : gD b_c11_years 80 (.aload_n 0) 1 81 := ⟨by decide +kernel, rfl⟩
theorem d_c11_years_81 : gD b_c11_years 81 (.bipush 9) 2 83 := ⟨by decide +kernel, rfl⟩
theorem d_c11_years_83 : gD b_c11_years 83 (.invokevirtual 379) 3 86 := ⟨by decide +kernel, rfl⟩
theorem d_c11_years_86 : gD b_c11_years 86 .iadd 1 87 := ⟨by decide +kernel, rfl⟩
theorem d_c11_years_87 : gD b_c11_years 87 (.istore 6) 2 89 := ⟨by decide +kernel, rfl⟩
theorem d_c11_years_89 : gD b_c11_years 89 (.aload_n 0) 1 90 := ⟨by decide +kernel, rfl⟩
theorem d_c11_years_90 : gD b_c11_years 90 (.iconst 2) 1 91 := ⟨by decide +kernel, rfl⟩
theorem d_c11_years_91 : gD b_c11_years 91 (.invokevirtual 379) 3 94 := ⟨by decide +kernel, rfl⟩
theorem d_c11_years_94 : gD b_c11_years 94 (.istore 7) 2 96 := ⟨by decide +kernel, rfl⟩
theorem d_c11_years_96 : gD b_c11_years 96 (.aload_n 0) 1 97 := ⟨by decide +kernel, rfl⟩
theorem d_c11_years_97 : gD b_c11_years 97 (.aload_n 0) 1 98 := ⟨by decide +kernel, rfl⟩
theorem d_c11_years_98 : gD b_c11_years 98 (.getfield 52) 3 101 := ⟨by decide +kernel, rfl⟩
theorem d_c11_years_101 : gD b_c11_years 101 (.iload 5) 2 103 := ⟨by decide +kernel, rfl⟩
theorem d_c11_years_103 : gD b_c11_years 103 (.iload 6) 2 105 := ⟨by decide +kernel, rfl⟩
theorem d_c11_years_105 : gD b_c11_years 105 (.iload 7) 2 107 := ⟨by decide +kernel, rfl⟩
theorem d_c11_years_107 : gD b_c11_years 107 (.invokevirtual 283) 3 110 := ⟨by decide +kernel, rfl⟩
theorem d_c11_years_110 : gJ b_c11_years 110 (.ifCond .ne 16) 3 16 113 126 := ⟨by decide +kernel, rfl, by decide⟩
theorem d_c11_years_113 : gD b_c11_years 113 (.aload_n 0) 1 114 := ⟨by decide +kernel, rfl⟩
theorem d_c11_years_114 : gD b_c11_years 114 (.getfield 52) 3 117 := ⟨by decide +kernel, rfl⟩
theorem d_c11_years_117 : gD b_c11_years 117 (.iload 5) 2 119 := ⟨by decide +kernel, rfl⟩
theorem d_c11_years_119 : gD b_c11_years 119 (.iload 6) 2 121 := ⟨by decide +kernel, rfl⟩
theorem d_c11_years_121 : gD b_c11_years 121 (.iload 7) 2 123 := ⟨by decide +kernel, rfl⟩
theorem d_c11_years_123 : gD b_c11_years 123 (.invokestatic 181) 3 126 := ⟨by decide +kernel, rfl⟩
theorem d_c11_years_126 : gD b_c11_years 126 (.iload 4) 2 128 := ⟨by decide +kernel, rfl⟩
theorem d_c11_years_128 : gD b_c11_years 128 (.iconst 3) 1 129 := ⟨by decide +kernel, rfl⟩
theorem d_c11_years_129 : gJ b_c11_years 129 (.if_icmp .ne 52) 3 52 132 181 := ⟨by decide +kernel, rfl, by decide⟩
theorem d_c11_years_132 : gD b_c11_years 132 (.aload_n 0) 1 133 := ⟨by decide +kernel, rfl⟩
theorem d_c11_years_133 : gD b_c11_years 133 (.getfield 52) 3 136 := ⟨by decide +kernel, rfl⟩
theorem d_c11_years_136 : gD b_c11_years 136 (.bipush 40) 2 138 := ⟨by decide +kernel, rfl⟩
theorem d_c11_years_138 : gD b_c11_years 138 .iaload 1 139 := ⟨by decide +kernel, rfl⟩
theorem d_c11_years_139 : gJ b_c11_years 139 (.ifCond .le 42) 3 42 142 181 := ⟨by decide +kernel, rfl, by decide⟩
theorem d_c11_years_142 : gD b_c11_years 142 (.aload_n 0) 1 143 := ⟨by decide +kernel, rfl⟩
theorem d_c11_years_143 : gD b_c11_years 143 (.aload_n 0) 1 144 := ⟨by decide +kernel, rfl⟩
theorem d_c11_years_144 : gD b_c11_years 144 (.getfield 52) 3 147 := ⟨by decide +kernel, rfl⟩
theorem d_c11_years_147 : gD b_c11_years 147 (.bipush 40) 2 149 := ⟨by decide +kernel, rfl⟩
theorem d_c11_years_149 : gD b_c11_years 149 .iaload 1 150 := ⟨by decide +kernel, rfl⟩
theorem d_c11_years_150 : gD b_c11_years 150 (.invokevirtual 379) 3 153 := ⟨by decide +kernel, rfl⟩
theorem d_c11_years_153 : gD b_c11_years 153 (.istore 5) 2 155 := ⟨by decide +kernel, rfl⟩
theorem d_c11_years_155 : gD b_c11_years 155 (.aload_n 0) 1 156 := ⟨by decide +kernel, rfl⟩
theorem d_c11_years_156 : gD b_c11_years 156 (.getfield 52) 3 159 := ⟨by decide +kernel, rfl⟩
theorem d_c11_years_159 : gD b_c11_years 159 (.iload 5) 2 161 := ⟨by decide +kernel, rfl⟩
theorem d_c11_years_161 : gD b_c11_years 161 (.invokestatic 287) 3 164 := ⟨by decide +kernel, rfl⟩
theorem d_c11_years_164 : gJ b_c11_years 164 (.ifCond .ne 17) 3 17 167 181 := ⟨by decide +kernel, rfl, by decide⟩
theorem d_c11_years_167 : gD b_c11_years 167 (.aload_n 0) 1 168 := ⟨by decide +kernel, rfl⟩
theorem d_c11_years_168 : gD b_c11_years 168 (.getfield 52) 3 171 := ⟨by decide +kernel, rfl⟩
theorem d_c11_years_171 : gD b_c11_years 171 (.bipush 24) 2 173 := ⟨by decide +kernel, rfl⟩
theorem d_c11_years_173 : gD b_c11_years 173 (.iload 5) 2 175 := ⟨by decide +kernel, rfl⟩
theorem d_c11_years_175 : gD b_c11_years 175 .iadd 1 176 := ⟨by decide +kernel, rfl⟩
theorem d_c11_years_176 : gD b_c11_years 176 .dup2 1 177 := ⟨by decide +kernel, rfl⟩
theorem d_c11_years_177 : gD b_c11_years 177 .iaload 1 178 := ⟨by decide +kernel, rfl⟩
theorem d_c11_years_178 : gD b_c11_years 178 (.iconst 1) 1 179 := ⟨by decide +kernel, rfl⟩
theorem d_c11_years_179 : gD b_c11_years 179 .iadd 1 180 := ⟨by decide +kernel, rfl⟩
theorem d_c11_years_180 : gD b_c11_years 180 .iastore 1 181 := ⟨by decide +kernel, rfl⟩
theorem d_c11_years_181 : gD b_c11_years 181 (.iinc 3 1) 3 184 := ⟨by decide +kernel, rfl⟩
theorem d_c11_years_184 : gJ b_c11_years 184 (.goto (-148)) 3 (-148) 187 36 := ⟨by decide +kernel, rfl, by decide⟩
theorem d_c11_years_187 : gD b_c11_years 187 (.aload_n 0) 1 188 := ⟨by decide +kernel, rfl⟩
theorem d_c11_years_188 : gD b_c11_years 188 (.iconst 0) 1 189 := ⟨by decide +kernel, rfl⟩
theorem d_c11_years_189 : gD b_c11_years 189 (.putfield 98) 3 192 := ⟨by decide +kernel, rfl⟩
theorem d_c11_years_192 : gD b_c11_years 192 (.aload_n 0) 1 193 := ⟨by decide +kernel, rfl⟩
theorem d_c11_years_193 : gD b_c11_years 193 (.aload_n 0) 1 194 := ⟨by decide +kernel, rfl⟩
theorem d_c11_years_194 : gD b_c11_years 194 (.getfield 52) 3 197 := ⟨by decide +kernel, rfl⟩
theorem d_c11_years_197 : gD b_c11_years 197 (.bipush 40) 2 199 := ⟨by decide +kernel, rfl⟩
theorem d_c11_years_199 : gD b_c11_years 199 .iaload 1 200 := ⟨by decide +kernel, rfl⟩
theorem d_c11_years_200 : gD b_c11_years 200 .i2l 1 201 := ⟨by decide +kernel, rfl⟩
theorem d_c11_years_201 : gD b_c11_years 201 (.invokevirtual 268) 3 204 := ⟨by decide +kernel, rfl⟩
theorem d_c11_years_204 : gD b_c11_years 204 (.aload_n 0) 1 205 := ⟨by decide +kernel, rfl⟩
theorem d_c11_years_205 : gD b_c11_years 205 (.aload_n 0) 1 206 := ⟨by decide +kernel, rfl⟩
theorem d_c11_years_206 : gD b_c11_years 206 (.getfield 52) 3 209 := ⟨by decide +kernel, rfl⟩
theorem d_c11_years_209 : gD b_c11_years 209 (.bipush 42) 2 211 := ⟨by decide +kernel, rfl⟩
theorem d_c11_years_211 : gD b_c11_years 211 .iaload 1 212 := ⟨by decide +kernel, rfl⟩
theorem d_c11_years_212 : gD b_c11_years 212 (.aload_n 0) 1 213 := ⟨by decide +kernel, rfl⟩
theorem d_c11_years_213 : gD b_c11_years 213 (.getfield 9) 3 216 := ⟨by decide +kernel, rfl⟩
theorem d_c11_years_216 : gD b_c11_years 216 (.bipush 42) 2 218 := ⟨by decide +kernel, rfl⟩
theorem d_c11_years_218 : gD b_c11_years 218 .iaload 1 219 := ⟨by decide +kernel, rfl⟩
theorem d_c11_years_219 : gD b_c11_years 219 .isub 1 220 := ⟨by decide +kernel, rfl⟩
theorem d_c11_years_220 : gD b_c11_years 220 .i2l 1 221 := ⟨by decide +kernel, rfl⟩
theorem d_c11_years_221 : gD b_c11_years 221 (.invokevirtual 268) 3 224 := ⟨by decide +kernel, rfl⟩
theorem d_c11_years_224 : gD b_c11_years 224 (.aload_n 0) 1 225 := ⟨by decide +kernel, rfl⟩
theorem d_c11_years_225 : gD b_c11_years 225 (.getfield 52) 3 228 := ⟨by decide +kernel, rfl⟩
theorem d_c11_years_228 : gD b_c11_years 228 (.invokestatic 249) 3 231 := ⟨by decide +kernel, rfl⟩
theorem d_c11_years_231 : gD b_c11_years 231 .ireturn 1 232 := ⟨by decide +kernel, rfl⟩
def lp_c11_years_36 (N : Nat) (a0 : Nat) (x2 : Int32) : Nat → Int32 → gH → Option (gH)
  | 0, _, _ => none
  | k + 1, x3, h =>
  if x2 ≤ x3 then
    some h
  else
    (f_c11_draw N a0 (4 : Int32) h).bind fun q9 =>
    (show Option (gH) from if (2 : Int32) ≤ q9.1 then
    some q9.2
  else
    (gfR q9.2 a0 11 25).bind fun v40 =>
    (f_c11_goSeason N a0 v40 q9.2).bind fun q41 =>
    some q41.2).bind fun t11 =>
    (show Option (gH) from if q9.1 = (2 : Int32) then
    (f_c11_fields N a0 t11).bind fun q31 =>
    (f_c11_draw N a0 q31 t11).bind fun q32 =>
    (f_c11_draw N a0 (9 : Int32) q32.2).bind fun q33 =>
    (f_c11_draw N a0 (2 : Int32) q33.2).bind fun q34 =>
    (gfR q34.2 a0 11 25).bind fun v35 =>
    (f_c11_refusesSaying N a0 v35 q32.1 ((1 : Int32) + q33.1) q34.1 q34.2).bind fun q36 =>
    if q36 = 0 then
    (gfR q34.2 a0 11 25).bind fun v38 =>
    (f_c11_add N v38 q32.1 ((1 : Int32) + q33.1) q34.1 q34.2).bind fun q39 =>
    some q39
  else
    some q34.2
  else
    some t11).bind fun t14 =>
    (show Option (gH) from if q9.1 = (3 : Int32) then
    (gfR t14 a0 11 25).bind fun v19 =>
    (ga 0 t14 v19 (40 : Int32)).bind fun v20 =>
    if v20 ≤ 0 then
    some t14
  else
    (gfR t14 a0 11 25).bind fun v22 =>
    (ga 0 t14 v22 (40 : Int32)).bind fun v23 =>
    (f_c11_draw N a0 v23 t14).bind fun q24 =>
    (gfR q24.2 a0 11 25).bind fun v25 =>
    (f_c11_refusesAnd N v25 q24.1 q24.2).bind fun q26 =>
    if q26 = 0 then
    (gfR q24.2 a0 11 25).bind fun v28 =>
    (ga 0 q24.2 v28 ((24 : Int32) + q24.1)).bind fun v29 =>
    (sa 0 q24.2 v28 ((24 : Int32) + q24.1) (v29 + (1 : Int32))).bind fun h30 =>
    some h30
  else
    some q24.2
  else
    some t14).bind fun t17 =>
    lp_c11_years_36 N a0 x2 k (x3 + (1 : Int32)) t17
def f_c11_years (N : Nat) (a0 : Nat) (x1 : Int32) (x2 : Int32) (h : gH) : Option (Int32 × gH) :=
  (gcl h a0 11).bind fun _ =>
  (sf h a0 11 10 (.int (0 : Int32))).bind fun h1 =>
    (f_c11_in N x2 (1 : Int32) (60 : Int32) h1).bind fun q2 =>
    if q2 = 0 then
    some ((-1 : Int32), h1)
  else
    (sf h1 a0 11 37 (.int x1)).bind fun h4 =>
    (gfR h4 a0 11 0).bind fun v5 =>
    (gfR h4 a0 11 25).bind fun v6 =>
    (f_c11_lay N v5 v6 (0 : Int32) h4).bind fun q7 =>
    (lp_c11_years_36 N a0 x2 N (0 : Int32) q7).bind fun o42 =>
    (sf o42 a0 11 9 (.int (0 : Int32))).bind fun h43 =>
    (gfR h43 a0 11 25).bind fun v44 =>
    (ga 0 h43 v44 (40 : Int32)).bind fun v45 =>
    (f_c11_tell N a0 v45.toInt64 h43).bind fun q46 =>
    (gfR q46 a0 11 25).bind fun v47 =>
    (ga 0 q46 v47 (42 : Int32)).bind fun v48 =>
    (gfR q46 a0 11 0).bind fun v49 =>
    (ga 0 q46 v49 (42 : Int32)).bind fun v50 =>
    (f_c11_tell N a0 ((v48 - v50).toInt64) q46).bind fun q51 =>
    (gfR q51 a0 11 25).bind fun v52 =>
    (f_c11_waters N v52 q51).bind fun q53 =>
    some (q53, q51)
set_option maxHeartbeats 4000000 in
set_option maxRecDepth 100000 in
theorem wlp_c11_years_36 {M : gM} {X : gX} {N : Nat} (hx : gEx X = false) (K : gC M X gN11 b_c11_years 8 (gRm (8 + N) 0 0)) (a0 : Nat) (x2 : Int32) : ∀ (k : Nat) (x3 : Int32) (h : gH) (o : gH), lp_c11_years_36 N a0 x2 k x3 h = some o → gG M X 8 0 0 187 [(0, .ref a0)] [] o → gG M X 8 0 0 36 [(0, .ref a0), (2, .int x2), (3, .int x3)] [] h := by
  intro k
  induction k with
  | zero =>
    intro x3 h o hy
    rw [lp_c11_years_36.eq_1] at hy
    cases hy
  | succ k ih =>
    intro x3 h o hy hE
    rw [lp_c11_years_36.eq_2] at hy
    refine g_iload_n K d_c11_years_36 2 rfl ?_
    refine g_iload_n K d_c11_years_37 1 rfl ?_
    refine g_icmp_ge K d_c11_years_38 (fun c8 => ?_) (fun c8 => ?_)
    · rw [if_pos c8] at hy
      refine g_sub (ls2 := [(0, .ref a0)]) [0] rfl ?_
      obtain rfl := Option.some.inj hy
      exact hE
    · rw [if_neg c8] at hy
      refine g_aload_n K d_c11_years_41 0 rfl ?_
      refine g_iconst (v := 4) K d_c11_years_42 (by decide) ?_
      obtain ⟨q9, e_q9, hy⟩ := gBd hy
      refine g_callVi (rest := []) K hx ly_c11_draw kv_c11_379 d_c11_years_43 (ct_c11_draw M.2.1 X hx N a0 (4 : Int32) h q9 e_q9) rfl rfl (Nat.le_of_ble_eq_true rfl) (gDep rfl) ⟨Nat.le_refl 0, Nat.le_refl 0⟩ ?_
      refine g_istore (ls2 := [(4, .int q9.1), (0, .ref a0), (2, .int x2), (3, .int x3)]) K d_c11_years_46 rfl rfl ?_
      refine g_iload K d_c11_years_48 0 rfl ?_
      refine g_iconst (v := 2) K d_c11_years_50 (by decide) ?_
      obtain ⟨t11, e_t11, hy⟩ := gBd hy
      have hJ12 : gG M X 8 0 0 63 [(0, .ref a0), (2, .int x2), (3, .int x3), (4, .int q9.1)] [] t11 := by
        refine g_iload K d_c11_years_63 3 rfl ?_
        refine g_iconst (v := 2) K d_c11_years_65 (by decide) ?_
        obtain ⟨t14, e_t14, hy⟩ := gBd hy
        have hJ15 : gG M X 8 0 0 126 [(0, .ref a0), (2, .int x2), (3, .int x3), (4, .int q9.1)] [] t14 := by
          refine g_iload K d_c11_years_126 3 rfl ?_
          refine g_iconst (v := 3) K d_c11_years_128 (by decide) ?_
          obtain ⟨t17, e_t17, hy⟩ := gBd hy
          have hJ18 : gG M X 8 0 0 181 [(0, .ref a0), (2, .int x2), (3, .int x3)] [] t17 := by
            refine g_iinc (ls2 := [(3, .int (x3 + (1 : Int32))), (0, .ref a0), (2, .int x2)]) (v := 1) K d_c11_years_181 2 rfl (by decide) rfl rfl ?_
            refine g_goto K d_c11_years_184 ?_
            refine g_sub (ls2 := [(0, .ref a0), (2, .int x2), (3, .int (x3 + (1 : Int32)))]) [1, 2, 0] rfl ?_
            exact ih _ _ _ hy hE
          refine g_icmp_ne K d_c11_years_129 (fun c16 => ?_) (fun c16 => ?_)
          · rw [if_neg c16] at e_t17
            refine g_sub (ls2 := [(0, .ref a0), (2, .int x2), (3, .int x3)]) [0, 1, 2] rfl ?_
            obtain rfl := Option.some.inj e_t17
            exact hJ18
          · rw [if_pos c16] at e_t17
            refine g_aload_n K d_c11_years_132 0 rfl ?_
            obtain ⟨v19, e_v19, e_t17⟩ := gBd e_t17
            refine g_getR K fl_c11_52 d_c11_years_133 e_v19 ?_
            refine g_bipush (v := 40) K d_c11_years_136 (by decide) ?_
            obtain ⟨v20, e_v20, e_t17⟩ := gBd e_t17
            refine g_iald K d_c11_years_138 e_v20 ?_
            refine g_if_le K d_c11_years_139 (fun c21 => ?_) (fun c21 => ?_)
            · rw [if_pos c21] at e_t17
              refine g_sub (ls2 := [(0, .ref a0), (2, .int x2), (3, .int x3)]) [0, 1, 2] rfl ?_
              obtain rfl := Option.some.inj e_t17
              exact hJ18
            · rw [if_neg c21] at e_t17
              refine g_aload_n K d_c11_years_142 0 rfl ?_
              refine g_aload_n K d_c11_years_143 0 rfl ?_
              obtain ⟨v22, e_v22, e_t17⟩ := gBd e_t17
              refine g_getR K fl_c11_52 d_c11_years_144 e_v22 ?_
              refine g_bipush (v := 40) K d_c11_years_147 (by decide) ?_
              obtain ⟨v23, e_v23, e_t17⟩ := gBd e_t17
              refine g_iald K d_c11_years_149 e_v23 ?_
              obtain ⟨q24, e_q24, e_t17⟩ := gBd e_t17
              refine g_callVi (rest := []) K hx ly_c11_draw kv_c11_379 d_c11_years_150 (ct_c11_draw M.2.1 X hx N a0 v23 t14 q24 e_q24) rfl rfl (Nat.le_of_ble_eq_true rfl) (gDep rfl) ⟨Nat.le_refl 0, Nat.le_refl 0⟩ ?_
              refine g_istore (ls2 := [(5, .int q24.1), (0, .ref a0), (2, .int x2), (3, .int x3), (4, .int q9.1)]) K d_c11_years_153 rfl rfl ?_
              refine g_aload_n K d_c11_years_155 1 rfl ?_
              obtain ⟨v25, e_v25, e_t17⟩ := gBd e_t17
              refine g_getR K fl_c11_52 d_c11_years_156 e_v25 ?_
              refine g_iload K d_c11_years_159 0 rfl ?_
              obtain ⟨q26, e_q26, e_t17⟩ := gBd e_t17
              refine g_callSi (rest := []) K hx ly_c11_refusesAnd ks_c11_287 d_c11_years_161 (ct_c11_refusesAnd M.2.1 X hx N v25 q24.1 q24.2 q26 e_q26) rfl rfl (Nat.le_of_ble_eq_true rfl) (gDep rfl) ⟨Nat.le_refl 0, Nat.le_refl 0⟩ ?_
              refine g_if_ne K d_c11_years_164 (fun c27 => ?_) (fun c27 => ?_)
              · rw [if_neg c27] at e_t17
                refine g_sub (ls2 := [(0, .ref a0), (2, .int x2), (3, .int x3)]) [1, 2, 3] rfl ?_
                obtain rfl := Option.some.inj e_t17
                exact hJ18
              · rw [if_pos c27] at e_t17
                refine g_aload_n K d_c11_years_167 1 rfl ?_
                obtain ⟨v28, e_v28, e_t17⟩ := gBd e_t17
                refine g_getR K fl_c11_52 d_c11_years_168 e_v28 ?_
                refine g_bipush (v := 24) K d_c11_years_171 (by decide) ?_
                refine g_iload K d_c11_years_173 0 rfl ?_
                refine g_iadd K d_c11_years_175 ?_
                refine g_dup2 K d_c11_years_176 rfl rfl ?_
                obtain ⟨v29, e_v29, e_t17⟩ := gBd e_t17
                refine g_iald K d_c11_years_177 e_v29 ?_
                refine g_iconst (v := 1) K d_c11_years_178 (by decide) ?_
                refine g_iadd K d_c11_years_179 ?_
                obtain ⟨h30, e_h30, e_t17⟩ := gBd e_t17
                refine g_iast K d_c11_years_180 e_h30 ?_
                refine g_sub (ls2 := [(0, .ref a0), (2, .int x2), (3, .int x3)]) [1, 2, 3] rfl ?_
                obtain rfl := Option.some.inj e_t17
                exact hJ18
        refine g_icmp_ne K d_c11_years_66 (fun c13 => ?_) (fun c13 => ?_)
        · rw [if_neg c13] at e_t14
          obtain rfl := Option.some.inj e_t14
          exact hJ15
        · rw [if_pos c13] at e_t14
          refine g_aload_n K d_c11_years_69 0 rfl ?_
          refine g_aload_n K d_c11_years_70 0 rfl ?_
          obtain ⟨q31, e_q31, e_t14⟩ := gBd e_t14
          refine g_callVi (rest := [.ref a0]) K hx ly_c11_fields kv_c11_101 d_c11_years_71 (ct_c11_fields M.2.1 X hx N a0 t11 q31 e_q31) rfl rfl (Nat.le_of_ble_eq_true rfl) (gDep rfl) ⟨Nat.le_refl 0, Nat.le_refl 0⟩ ?_
          obtain ⟨q32, e_q32, e_t14⟩ := gBd e_t14
          refine g_callVi (rest := []) K hx ly_c11_draw kv_c11_379 d_c11_years_74 (ct_c11_draw M.2.1 X hx N a0 q31 t11 q32 e_q32) rfl rfl (Nat.le_of_ble_eq_true rfl) (gDep rfl) ⟨Nat.le_refl 0, Nat.le_refl 0⟩ ?_
          refine g_istore (ls2 := [(5, .int q32.1), (0, .ref a0), (2, .int x2), (3, .int x3), (4, .int q9.1)]) K d_c11_years_77 rfl rfl ?_
          refine g_iconst (v := 1) K d_c11_years_79 (by decide) ?_
          refine g_aload_n K d_c11_years_80 1 rfl ?_
          refine g_bipush (v := 9) K d_c11_years_81 (by decide) ?_
          obtain ⟨q33, e_q33, e_t14⟩ := gBd e_t14
          refine g_callVi (rest := [.int (1 : Int32)]) K hx ly_c11_draw kv_c11_379 d_c11_years_83 (ct_c11_draw M.2.1 X hx N a0 (9 : Int32) q32.2 q33 e_q33) rfl rfl (Nat.le_of_ble_eq_true rfl) (gDep rfl) ⟨Nat.le_refl 0, Nat.le_refl 0⟩ ?_
          refine g_iadd K d_c11_years_86 ?_
          refine g_istore (ls2 := [(6, .int ((1 : Int32) + q33.1)), (5, .int q32.1), (0, .ref a0), (2, .int x2), (3, .int x3), (4, .int q9.1)]) K d_c11_years_87 rfl rfl ?_
          refine g_aload_n K d_c11_years_89 2 rfl ?_
          refine g_iconst (v := 2) K d_c11_years_90 (by decide) ?_
          obtain ⟨q34, e_q34, e_t14⟩ := gBd e_t14
          refine g_callVi (rest := []) K hx ly_c11_draw kv_c11_379 d_c11_years_91 (ct_c11_draw M.2.1 X hx N a0 (2 : Int32) q33.2 q34 e_q34) rfl rfl (Nat.le_of_ble_eq_true rfl) (gDep rfl) ⟨Nat.le_refl 0, Nat.le_refl 0⟩ ?_
          refine g_istore (ls2 := [(7, .int q34.1), (6, .int ((1 : Int32) + q33.1)), (5, .int q32.1), (0, .ref a0), (2, .int x2), (3, .int x3), (4, .int q9.1)]) K d_c11_years_94 rfl rfl ?_
          refine g_aload_n K d_c11_years_96 3 rfl ?_
          refine g_aload_n K d_c11_years_97 3 rfl ?_
          obtain ⟨v35, e_v35, e_t14⟩ := gBd e_t14
          refine g_getR K fl_c11_52 d_c11_years_98 e_v35 ?_
          refine g_iload K d_c11_years_101 2 rfl ?_
          refine g_iload K d_c11_years_103 1 rfl ?_
          refine g_iload K d_c11_years_105 0 rfl ?_
          obtain ⟨q36, e_q36, e_t14⟩ := gBd e_t14
          refine g_callVi (rest := []) K hx ly_c11_refusesSaying kv_c11_283 d_c11_years_107 (ct_c11_refusesSaying M.2.1 X hx N a0 v35 q32.1 ((1 : Int32) + q33.1) q34.1 q34.2 q36 e_q36) rfl rfl (Nat.le_of_ble_eq_true rfl) (gDep rfl) ⟨Nat.le_refl 0, Nat.le_refl 0⟩ ?_
          refine g_if_ne K d_c11_years_110 (fun c37 => ?_) (fun c37 => ?_)
          · rw [if_neg c37] at e_t14
            refine g_sub (ls2 := [(0, .ref a0), (2, .int x2), (3, .int x3), (4, .int q9.1)]) [3, 4, 5, 6] rfl ?_
            obtain rfl := Option.some.inj e_t14
            exact hJ15
          · rw [if_pos c37] at e_t14
            refine g_aload_n K d_c11_years_113 3 rfl ?_
            obtain ⟨v38, e_v38, e_t14⟩ := gBd e_t14
            refine g_getR K fl_c11_52 d_c11_years_114 e_v38 ?_
            refine g_iload K d_c11_years_117 2 rfl ?_
            refine g_iload K d_c11_years_119 1 rfl ?_
            refine g_iload K d_c11_years_121 0 rfl ?_
            obtain ⟨q39, e_q39, e_t14⟩ := gBd e_t14
            refine g_callSv (rest := []) K hx ly_c11_add ks_c11_181 d_c11_years_123 (ct_c11_add M.2.1 X hx N v38 q32.1 ((1 : Int32) + q33.1) q34.1 q34.2 q39 e_q39) rfl rfl (Nat.le_of_ble_eq_true rfl) (gDep rfl) ⟨Nat.le_refl 0, Nat.le_refl 0⟩ ?_
            refine g_sub (ls2 := [(0, .ref a0), (2, .int x2), (3, .int x3), (4, .int q9.1)]) [3, 4, 5, 6] rfl ?_
            obtain rfl := Option.some.inj e_t14
            exact hJ15
      refine g_icmp_ge K d_c11_years_51 (fun c10 => ?_) (fun c10 => ?_)
      · rw [if_pos c10] at e_t11
        refine g_sub (ls2 := [(0, .ref a0), (2, .int x2), (3, .int x3), (4, .int q9.1)]) [1, 2, 3, 0] rfl ?_
        obtain rfl := Option.some.inj e_t11
        exact hJ12
      · rw [if_neg c10] at e_t11
        refine g_aload_n K d_c11_years_54 1 rfl ?_
        refine g_aload_n K d_c11_years_55 1 rfl ?_
        obtain ⟨v40, e_v40, e_t11⟩ := gBd e_t11
        refine g_getR K fl_c11_52 d_c11_years_56 e_v40 ?_
        obtain ⟨q41, e_q41, e_t11⟩ := gBd e_t11
        refine g_callVi (rest := []) K hx ly_c11_goSeason kv_c11_257 d_c11_years_59 (ct_c11_goSeason M.2.1 X hx N a0 v40 q9.2 q41 e_q41) rfl rfl (Nat.le_of_ble_eq_true rfl) (gDep rfl) ⟨Nat.le_refl 0, Nat.le_refl 0⟩ ?_
        refine g_pop K d_c11_years_62 rfl ?_
        refine g_sub (ls2 := [(0, .ref a0), (2, .int x2), (3, .int x3), (4, .int q9.1)]) [1, 2, 3, 0] rfl ?_
        obtain rfl := Option.some.inj e_t11
        exact hJ12
set_option maxHeartbeats 4000000 in
set_option maxRecDepth 100000 in
theorem ct_c11_years (l : Launch) (X : gX) (hx : gEx X = false) (N : Nat) (a0 : Nat) (x1 : Int32) (x2 : Int32) (h : gH) (q : Int32 × gH) (hy : f_c11_years N a0 x1 x2 h = some q) : gRc y_c11_years h a0 ∧ gMi l X y_c11_years b_c11_years 8 .int (8 + N) 0 0 [.ref a0, .int x1, .int x2] h q.1 q.2 := by
  unfold f_c11_years at hy
  obtain ⟨u0, e_u0, hy⟩ := gBd hy
  cases u0
  refine ⟨Or.inl ⟨11, _, _, e_u0, rfl⟩, gMet_i (lsx := [(0, .ref a0), (1, .int x1), (2, .int x2)]) (by decide) rfl rfl ?_⟩
  intro M hMl K hret
  subst hMl
  refine g_aload_n K d_c11_years_0 0 rfl ?_
  refine g_iconst (v := 0) K d_c11_years_1 (by decide) ?_
  obtain ⟨h1, e_h1, hy⟩ := gBd hy
  refine g_putI K fp_c11_95 d_c11_years_2 e_h1 ?_
  refine g_iload_n K d_c11_years_5 2 rfl ?_
  refine g_iconst (v := 1) K d_c11_years_6 (by decide) ?_
  refine g_bipush (v := 60) K d_c11_years_7 (by decide) ?_
  obtain ⟨q2, e_q2, hy⟩ := gBd hy
  refine g_callSi (rest := []) K hx ly_c11_in ks_c11_105 d_c11_years_9 (ct_c11_in M.2.1 X hx N x2 (1 : Int32) (60 : Int32) h1 q2 e_q2) rfl rfl (Nat.le_of_ble_eq_true rfl) (gDep rfl) ⟨Nat.le_refl 0, Nat.le_refl 0⟩ ?_
  refine g_if_ne K d_c11_years_12 (fun c3 => ?_) (fun c3 => ?_)
  · rw [if_neg c3] at hy
    refine g_aload_n K d_c11_years_17 0 rfl ?_
    refine g_iload_n K d_c11_years_18 1 rfl ?_
    obtain ⟨h4, e_h4, hy⟩ := gBd hy
    refine g_putI K fp_c11_375 d_c11_years_19 e_h4 ?_
    refine g_aload_n K d_c11_years_22 0 rfl ?_
    obtain ⟨v5, e_v5, hy⟩ := gBd hy
    refine g_getR K fl_c11_9 d_c11_years_23 e_v5 ?_
    refine g_aload_n K d_c11_years_26 0 rfl ?_
    obtain ⟨v6, e_v6, hy⟩ := gBd hy
    refine g_getR K fl_c11_52 d_c11_years_27 e_v6 ?_
    refine g_iconst (v := 0) K d_c11_years_30 (by decide) ?_
    obtain ⟨q7, e_q7, hy⟩ := gBd hy
    refine g_callSv (rest := []) K hx ly_c11_lay ks_c11_253 d_c11_years_31 (ct_c11_lay M.2.1 X hx N v5 v6 (0 : Int32) h4 q7 e_q7) rfl rfl (Nat.le_of_ble_eq_true rfl) (gDep rfl) ⟨Nat.le_refl 0, Nat.le_refl 0⟩ ?_
    refine g_iconst (v := 0) K d_c11_years_34 (by decide) ?_
    refine g_istore_n (ls2 := [(3, .int (0 : Int32)), (0, .ref a0), (1, .int x1), (2, .int x2)]) K d_c11_years_35 rfl rfl ?_
    obtain ⟨o42, e_o42, hy⟩ := gBd hy
    refine g_sub (ls2 := [(0, .ref a0), (2, .int x2), (3, .int (0 : Int32))]) [1, 3, 0] rfl ?_
    refine wlp_c11_years_36 hx K a0 x2 N (0 : Int32) q7 o42 e_o42 ?_
    refine g_aload_n K d_c11_years_187 0 rfl ?_
    refine g_iconst (v := 0) K d_c11_years_188 (by decide) ?_
    obtain ⟨h43, e_h43, hy⟩ := gBd hy
    refine g_putI K fp_c11_98 d_c11_years_189 e_h43 ?_
    refine g_aload_n K d_c11_years_192 0 rfl ?_
    refine g_aload_n K d_c11_years_193 0 rfl ?_
    obtain ⟨v44, e_v44, hy⟩ := gBd hy
    refine g_getR K fl_c11_52 d_c11_years_194 e_v44 ?_
    refine g_bipush (v := 40) K d_c11_years_197 (by decide) ?_
    obtain ⟨v45, e_v45, hy⟩ := gBd hy
    refine g_iald K d_c11_years_199 e_v45 ?_
    refine g_i2l K d_c11_years_200 ?_
    obtain ⟨q46, e_q46, hy⟩ := gBd hy
    refine g_callVv (rest := []) K hx ly_c11_tell kv_c11_268 d_c11_years_201 (ct_c11_tell M.2.1 X hx N a0 v45.toInt64 h43 q46 e_q46) rfl rfl (Nat.le_of_ble_eq_true rfl) (gDep rfl) ⟨Nat.le_refl 0, Nat.le_refl 0⟩ ?_
    refine g_aload_n K d_c11_years_204 0 rfl ?_
    refine g_aload_n K d_c11_years_205 0 rfl ?_
    obtain ⟨v47, e_v47, hy⟩ := gBd hy
    refine g_getR K fl_c11_52 d_c11_years_206 e_v47 ?_
    refine g_bipush (v := 42) K d_c11_years_209 (by decide) ?_
    obtain ⟨v48, e_v48, hy⟩ := gBd hy
    refine g_iald K d_c11_years_211 e_v48 ?_
    refine g_aload_n K d_c11_years_212 0 rfl ?_
    obtain ⟨v49, e_v49, hy⟩ := gBd hy
    refine g_getR K fl_c11_9 d_c11_years_213 e_v49 ?_
    refine g_bipush (v := 42) K d_c11_years_216 (by decide) ?_
    obtain ⟨v50, e_v50, hy⟩ := gBd hy
    refine g_iald K d_c11_years_218 e_v50 ?_
    refine g_isub K d_c11_years_219 ?_
    refine g_i2l K d_c11_years_220 ?_
    obtain ⟨q51, e_q51, hy⟩ := gBd hy
    refine g_callVv (rest := []) K hx ly_c11_tell kv_c11_268 d_c11_years_221 (ct_c11_tell M.2.1 X hx N a0 ((v48 - v50).toInt64) q46 q51 e_q51) rfl rfl (Nat.le_of_ble_eq_true rfl) (gDep rfl) ⟨Nat.le_refl 0, Nat.le_refl 0⟩ ?_
    refine g_aload_n K d_c11_years_224 0 rfl ?_
    obtain ⟨v52, e_v52, hy⟩ := gBd hy
    refine g_getR K fl_c11_52 d_c11_years_225 e_v52 ?_
    obtain ⟨q53, e_q53, hy⟩ := gBd hy
    refine g_callSi (rest := []) K hx ly_c11_waters ks_c11_249 d_c11_years_228 (ct_c11_waters M.2.1 X hx N v52 q51 q53 e_q53) rfl rfl (Nat.le_of_ble_eq_true rfl) (gDep rfl) ⟨Nat.le_refl 0, Nat.le_refl 0⟩ ?_
    obtain rfl := Option.some.inj hy
    exact hret rfl _ _ _ d_c11_years_231
  · rw [if_pos c3] at hy
    refine g_iconst (v := (-1)) K d_c11_years_15 (by decide) ?_
    obtain rfl := Option.some.inj hy
    exact hret rfl _ _ _ d_c11_years_16
-- c11 act
theorem d_c11_act_0 : gD b_c11_act 0 (.aload_n 0) 1 1 := ⟨by decide +kernel, rfl⟩
theorem d_c11_act_1 : gD b_c11_act 1 (.getfield 64) 3 4 := ⟨by decide +kernel, rfl⟩
theorem d_c11_act_4 : gD b_c11_act 4 (.iload_n 1) 1 5 := ⟨by decide +kernel, rfl⟩
theorem d_c11_act_5 : gD b_c11_act 5 (.iconst 1) 1 6 := ⟨by decide +kernel, rfl⟩
theorem d_c11_act_6 : gD b_c11_act 6 .iadd 1 7 := ⟨by decide +kernel, rfl⟩
theorem d_c11_act_7 : gD b_c11_act 7 .iaload 1 8 := ⟨by decide +kernel, rfl⟩
theorem d_c11_act_8 : gD b_c11_act 8 (.istore_n 2) 1 9 := ⟨by decide +kernel, rfl⟩
theorem d_c11_act_9 : gD b_c11_act 9 (.aload_n 0) 1 10 := ⟨by decide +kernel, rfl⟩
theorem d_c11_act_10 : gD b_c11_act 10 (.getfield 64) 3 13 := ⟨by decide +kernel, rfl⟩
theorem d_c11_act_13 : gD b_c11_act 13 (.iload_n 1) 1 14 := ⟨by decide +kernel, rfl⟩
theorem d_c11_act_14 : gD b_c11_act 14 (.iconst 2) 1 15 := ⟨by decide +kernel, rfl⟩
theorem d_c11_act_15 : gD b_c11_act 15 .iadd 1 16 := ⟨by decide +kernel, rfl⟩
theorem d_c11_act_16 : gD b_c11_act 16 .iaload 1 17 := ⟨by decide +kernel, rfl⟩
theorem d_c11_act_17 : gD b_c11_act 17 (.istore_n 3) 1 18 := ⟨by decide +kernel, rfl⟩
theorem d_c11_act_18 : gD b_c11_act 18 (.aload_n 0) 1 19 := ⟨by decide +kernel, rfl⟩
theorem d_c11_act_19 : gD b_c11_act 19 (.getfield 64) 3 22 := ⟨by decide +kernel, rfl⟩
theorem d_c11_act_22 : gD b_c11_act 22 (.iload_n 1) 1 23 := ⟨by decide +kernel, rfl⟩
theorem d_c11_act_23 : gD b_c11_act 23 .iaload 1 24 := ⟨by decide +kernel, rfl⟩
theorem d_c11_act_24 : decode b_c11_act 24 = .ok ((.lookupswitch 181 #[(97, 105), (99, 133), (100, 155), (110, 52), (115, 63)]), 52) := by decide +kernel
theorem d_c11_act_76 : gD b_c11_act 76 (.aload_n 0) 1 77 := ⟨by decide +kernel, rfl⟩
theorem d_c11_act_77 : gD b_c11_act 77 (.aload_n 0) 1 78 := ⟨by decide +kernel, rfl⟩
theorem d_c11_act_78 : gD b_c11_act 78 (.getfield 9) 3 81 := ⟨by decide +kernel, rfl⟩
theorem d_c11_act_81 : gD b_c11_act 81 (.iload_n 2) 1 82 := ⟨by decide +kernel, rfl⟩
theorem d_c11_act_82 : gD b_c11_act 82 (.invokevirtual 264) 3 85 := ⟨by decide +kernel, rfl⟩
theorem d_c11_act_85 : gD b_c11_act 85 (.iconst 1) 1 86 := ⟨by decide +kernel, rfl⟩
theorem d_c11_act_86 : gD b_c11_act 86 .ireturn 1 87 := ⟨by decide +kernel, rfl⟩
theorem d_c11_act_87 : gD b_c11_act 87 (.aload_n 0) 1 88 := ⟨by decide +kernel, rfl⟩
theorem d_c11_act_88 : gD b_c11_act 88 (.aload_n 0) 1 89 := ⟨by decide +kernel, rfl⟩
theorem d_c11_act_89 : gD b_c11_act 89 (.getfield 9) 3 92 := ⟨by decide +kernel, rfl⟩
theorem d_c11_act_92 : gD b_c11_act 92 (.iload_n 2) 1 93 := ⟨by decide +kernel, rfl⟩
theorem d_c11_act_93 : gD b_c11_act 93 (.iload_n 3) 1 94 := ⟨by decide +kernel, rfl⟩
theorem d_c11_act_94 : gD b_c11_act 94 (.aload_n 0) 1 95 := ⟨by decide +kernel, rfl⟩
theorem d_c11_act_95 : gD b_c11_act 95 (.getfield 64) 3 98 := ⟨by decide +kernel, rfl⟩
theorem d_c11_act_98 : gD b_c11_act 98 (.iload_n 1) 1 99 := ⟨by decide +kernel, rfl⟩
theorem d_c11_act_99 : gD b_c11_act 99 (.iconst 3) 1 100 := ⟨by decide +kernel, rfl⟩
theorem d_c11_act_100 : gD b_c11_act 100 .iadd 1 101 := ⟨by decide +kernel, rfl⟩
theorem d_c11_act_101 : gD b_c11_act 101 .iaload 1 102 := ⟨by decide +kernel, rfl⟩
theorem d_c11_act_102 : gD b_c11_act 102 (.invokevirtual 283) 3 105 := ⟨by decide +kernel, rfl⟩
theorem d_c11_act_105 : gJ b_c11_act 105 (.ifCond .ge 5) 3 5 108 110 := ⟨by decide +kernel, rfl, by decide⟩
theorem d_c11_act_108 : gD b_c11_act 108 (.iconst 0) 1 109 := ⟨by decide +kernel, rfl⟩
theorem d_c11_act_109 : gD b_c11_act 109 .ireturn 1 110 := ⟨by decide +kernel, rfl⟩
theorem d_c11_act_110 : gD b_c11_act 110 (.aload_n 0) 1 111 := ⟨by decide +kernel, rfl⟩
theorem d_c11_act_111 : gD b_c11_act 111 (.getfield 9) 3 114 := ⟨by decide +kernel, rfl⟩
theorem d_c11_act_114 : gD b_c11_act 114 (.iload_n 2) 1 115 := ⟨by decide +kernel, rfl⟩
theorem d_c11_act_115 : gD b_c11_act 115 (.iload_n 3) 1 116 := ⟨by decide +kernel, rfl⟩
theorem d_c11_act_116 : gD b_c11_act 116 (.aload_n 0) 1 117 := ⟨by decide +kernel, rfl⟩
theorem d_c11_act_117 : gD b_c11_act 117 (.getfield 64) 3 120 := ⟨by decide +kernel, rfl⟩
theorem d_c11_act_120 : gD b_c11_act 120 (.iload_n 1) 1 121 := ⟨by decide +kernel, rfl⟩
theorem d_c11_act_121 : gD b_c11_act 121 (.iconst 3) 1 122 := ⟨by decide +kernel, rfl⟩
theorem d_c11_act_122 : gD b_c11_act 122 .iadd 1 123 := ⟨by decide +kernel, rfl⟩
theorem d_c11_act_123 : gD b_c11_act 123 .iaload 1 124 := ⟨by decide +kernel, rfl⟩
theorem d_c11_act_124 : gD b_c11_act 124 (.invokestatic 181) 3 127 := ⟨by decide +kernel, rfl⟩
theorem d_c11_act_127 : gD b_c11_act 127 (.iconst 1) 1 128 := ⟨by decide +kernel, rfl⟩
theorem d_c11_act_128 : gD b_c11_act 128 .ireturn 1 129 := ⟨by decide +kernel, rfl⟩
theorem d_c11_act_129 : gD b_c11_act 129 (.aload_n 0) 1 130 := ⟨by decide +kernel, rfl⟩
theorem d_c11_act_130 : gD b_c11_act 130 (.getfield 9) 3 133 := ⟨by decide +kernel, rfl⟩
theorem d_c11_act_133 : gD b_c11_act 133 (.iload_n 2) 1 134 := ⟨by decide +kernel, rfl⟩
theorem d_c11_act_134 : gD b_c11_act 134 (.invokestatic 287) 3 137 := ⟨by decide +kernel, rfl⟩
theorem d_c11_act_137 : gJ b_c11_act 137 (.ifCond .ge 5) 3 5 140 142 := ⟨by decide +kernel, rfl, by decide⟩
theorem d_c11_act_140 : gD b_c11_act 140 (.iconst 0) 1 141 := ⟨by decide +kernel, rfl⟩
theorem d_c11_act_141 : gD b_c11_act 141 .ireturn 1 142 := ⟨by decide +kernel, rfl⟩
theorem d_c11_act_142 : gD b_c11_act 142 (.aload_n 0) 1 143 := ⟨by decide +kernel, rfl⟩
theorem d_c11_act_143 : gD b_c11_act 143 (.getfield 9) 3 146 := ⟨by decide +kernel, rfl⟩
theorem d_c11_act_146 : gD b_c11_act 146 (.bipush 24) 2 148 := ⟨by decide +kernel, rfl⟩
theorem d_c11_act_148 : gD b_c11_act 148 (.iload_n 2) 1 149 := ⟨by decide +kernel, rfl⟩
theorem d_c11_act_149 : gD b_c11_act 149 .iadd 1 150 := ⟨by decide +kernel, rfl⟩
theorem d_c11_act_150 : gD b_c11_act 150 .dup2 1 151 := ⟨by decide +kernel, rfl⟩
theorem d_c11_act_151 : gD b_c11_act 151 .iaload 1 152 := ⟨by decide +kernel, rfl⟩
theorem d_c11_act_152 : gD b_c11_act 152 (.iconst 1) 1 153 := ⟨by decide +kernel, rfl⟩
theorem d_c11_act_153 : gD b_c11_act 153 .iadd 1 154 := ⟨by decide +kernel, rfl⟩
theorem d_c11_act_154 : gD b_c11_act 154 .iastore 1 155 := ⟨by decide +kernel, rfl⟩
theorem d_c11_act_155 : gD b_c11_act 155 (.iconst 1) 1 156 := ⟨by decide +kernel, rfl⟩
theorem d_c11_act_156 : gD b_c11_act 156 .ireturn 1 157 := ⟨by decide +kernel, rfl⟩
theorem d_c11_act_157 : gD b_c11_act 157 (.aload_n 0) 1 158 := ⟨by decide +kernel, rfl⟩
theorem d_c11_act_158 : gD b_c11_act 158 (.iload_n 2) 1 159 := ⟨by decide +kernel, rfl⟩
theorem d_c11_act_159 : gD b_c11_act 159 (.invokevirtual 290) 3 162 := ⟨by decide +kernel, rfl⟩
theorem d_c11_act_162 : gJ b_c11_act 162 (.ifCond .ge 5) 3 5 165 167 := ⟨by decide +kernel, rfl, by decide⟩
theorem d_c11_act_165 : gD b_c11_act 165 (.iconst 0) 1 166 := ⟨by decide +kernel, rfl⟩
theorem d_c11_act_166 : gD b_c11_act 166 .ireturn 1 167 := ⟨by decide +kernel, rfl⟩
theorem d_c11_act_167 : gD b_c11_act 167 (.aload_n 0) 1 168 := ⟨by decide +kernel, rfl⟩
theorem d_c11_act_168 : gD b_c11_act 168 (.getfield 9) 3 171 := ⟨by decide +kernel, rfl⟩
theorem d_c11_act_171 : gD b_c11_act 171 (.bipush 24) 2 173 := ⟨by decide +kernel, rfl⟩
theorem d_c11_act_173 : gD b_c11_act 173 (.iload_n 2) 1 174 := ⟨by decide +kernel, rfl⟩
theorem d_c11_act_174 : gD b_c11_act 174 .iadd 1 175 := ⟨by decide +kernel, rfl⟩
theorem d_c11_act_175 : gD b_c11_act 175 (.iconst 0) 1 176 := ⟨by decide +kernel, rfl⟩
theorem d_c11_act_176 : gD b_c11_act 176 .iastore 1 177 := ⟨by decide +kernel, rfl⟩
theorem d_c11_act_177 : gD b_c11_act 177 (.iconst 1) 1 178 := ⟨by decide +kernel, rfl⟩
theorem d_c11_act_178 : gD b_c11_act 178 .ireturn 1 179 := ⟨by decide +kernel, rfl⟩
theorem d_c11_act_179 : gD b_c11_act 179 (.aload_n 0) 1 180 := ⟨by decide +kernel, rfl⟩
theorem d_c11_act_180 : gD b_c11_act 180 (.iload_n 2) 1 181 := ⟨by decide +kernel, rfl⟩
theorem d_c11_act_181 : gD b_c11_act 181 (.iload_n 3) 1 182 := ⟨by decide +kernel, rfl⟩
theorem d_c11_act_182 : gD b_c11_act 182 (.invokevirtual 293) 3 185 := ⟨by decide +kernel, rfl⟩
theorem d_c11_act_185 : gJ b_c11_act 185 (.ifCond .ge 5) 3 5 188 190 := ⟨by decide +kernel, rfl, by decide⟩
theorem d_c11_act_188 : gD b_c11_act 188 (.iconst 0) 1 189 := ⟨by decide +kernel, rfl⟩
theorem d_c11_act_189 : gD b_c11_act 189 .ireturn 1 190 := ⟨by decide +kernel, rfl⟩
theorem d_c11_act_190 : gD b_c11_act 190 (.aload_n 0) 1 191 := ⟨by decide +kernel, rfl⟩
theorem d_c11_act_191 : gD b_c11_act 191 (.getfield 9) 3 194 := ⟨by decide +kernel, rfl⟩
theorem d_c11_act_194 : gD b_c11_act 194 (.bipush 32) 2 196 := ⟨by decide +kernel, rfl⟩
theorem d_c11_act_196 : gD b_c11_act 196 (.iload_n 2) 1 197 := ⟨by decide +kernel, rfl⟩
theorem d_c11_act_197 : gD b_c11_act 197 .iadd 1 198 := ⟨by decide +kernel, rfl⟩
theorem d_c11_act_198 : gD b_c11_act 198 .dup2 1 199 := ⟨by decide +kernel, rfl⟩
theorem d_c11_act_199 : gD b_c11_act 199 .iaload 1 200 := ⟨by decide +kernel, rfl⟩
theorem d_c11_act_200 : gD b_c11_act 200 (.iload_n 3) 1 201 := ⟨by decide +kernel, rfl⟩
theorem d_c11_act_201 : gD b_c11_act 201 .isub 1 202 := ⟨by decide +kernel, rfl⟩
theorem d_c11_act_202 : gD b_c11_act 202 .iastore 1 203 := ⟨by decide +kernel, rfl⟩
theorem d_c11_act_203 : gD b_c11_act 203 (.iconst 1) 1 204 := ⟨by decide +kernel, rfl⟩
theorem d_c11_act_204 : gD b_c11_act 204 .ireturn 1 205 := ⟨by decide +kernel, rfl⟩
theorem d_c11_act_205 : gD b_c11_act 205 (.aload_n 0) 1 206 := ⟨by decide +kernel, rfl⟩
theorem d_c11_act_206 : gD b_c11_act 206 (.iload_n 2) 1 207 := ⟨by decide +kernel, rfl⟩
theorem d_c11_act_207 : gD b_c11_act 207 (.invokevirtual 233) 3 210 := ⟨by decide +kernel, rfl⟩
theorem d_c11_act_210 : gJ b_c11_act 210 (.ifCond .ne 5) 3 5 213 215 := ⟨by decide +kernel, rfl, by decide⟩
theorem d_c11_act_213 : gD b_c11_act 213 (.iconst 0) 1 214 := ⟨by decide +kernel, rfl⟩
theorem d_c11_act_214 : gD b_c11_act 214 .ireturn 1 215 := ⟨by decide +kernel, rfl⟩
theorem d_c11_act_215 : gD b_c11_act 215 (.aload_n 0) 1 216 := ⟨by decide +kernel, rfl⟩
theorem d_c11_act_216 : gD b_c11_act 216 (.getfield 9) 3 219 := ⟨by decide +kernel, rfl⟩
theorem d_c11_act_219 : gD b_c11_act 219 (.bipush 16) 2 221 := ⟨by decide +kernel, rfl⟩
theorem d_c11_act_221 : gD b_c11_act 221 (.iload_n 2) 1 222 := ⟨by decide +kernel, rfl⟩
theorem d_c11_act_222 : gD b_c11_act 222 .iadd 1 223 := ⟨by decide +kernel, rfl⟩
theorem d_c11_act_223 : gD b_c11_act 223 (.iconst 1) 1 224 := ⟨by decide +kernel, rfl⟩
theorem d_c11_act_224 : gD b_c11_act 224 (.aload_n 0) 1 225 := ⟨by decide +kernel, rfl⟩
theorem d_c11_act_225 : gD b_c11_act 225 (.getfield 9) 3 228 := ⟨by decide +kernel, rfl⟩
theorem d_c11_act_228 : gD b_c11_act 228 (.bipush 16) 2 230 := ⟨by decide +kernel, rfl⟩
theorem d_c11_act_230 : gD b_c11_act 230 (.iload_n 2) 1 231 := ⟨by decide +kernel, rfl⟩
theorem d_c11_act_231 : gD b_c11_act 231 .iadd 1 232 := ⟨by decide +kernel, rfl⟩
theorem d_c11_act_232 : gD b_c11_act 232 .iaload 1 233 := ⟨by decide +kernel, rfl⟩
theorem d_c11_act_233 : gD b_c11_act 233 .isub 1 234 := ⟨by decide +kernel, rfl⟩
theorem d_c11_act_234 : gD b_c11_act 234 .iastore 1 235 := ⟨by decide +kernel, rfl⟩
theorem d_c11_act_235 : gD b_c11_act 235 (.iconst 1) 1 236 := ⟨by decide +kernel, rfl⟩
theorem d_c11_act_236 : gD b_c11_act 236 .ireturn 1 237 := ⟨by decide +kernel, rfl⟩
def f_c11_act (N : Nat) (a0 : Nat) (x1 : Int32) (h : gH) : Option (Int32 × gH) :=
  (gcl h a0 11).bind fun _ =>
  (gfR h a0 11 29).bind fun v1 =>
    (ga 0 h v1 (x1 + (1 : Int32))).bind fun v2 =>
    (gfR h a0 11 29).bind fun v3 =>
    (ga 0 h v3 (x1 + (2 : Int32))).bind fun v4 =>
    (gfR h a0 11 29).bind fun v5 =>
    (ga 0 h v5 x1).bind fun v6 =>
    if v6 = (97 : Int32) then
    (gfR h a0 11 0).bind fun v12 =>
    (f_c11_refusesAnd N v12 v2 h).bind fun q13 =>
    if 0 ≤ q13 then
    (gfR h a0 11 0).bind fun v15 =>
    (ga 0 h v15 ((24 : Int32) + v2)).bind fun v16 =>
    (sa 0 h v15 ((24 : Int32) + v2) (v16 + (1 : Int32))).bind fun h17 =>
    (gZ (1 : Int32)).bind fun w18 => some (w18, h17)
  else
    (gZ (0 : Int32)).bind fun w19 => some (w19, h)
  else
    if v6 = (99 : Int32) then
    (f_c11_refusesClearing N a0 v2 h).bind fun q20 =>
    if 0 ≤ q20 then
    (gfR h a0 11 0).bind fun v22 =>
    (sa 0 h v22 ((24 : Int32) + v2) (0 : Int32)).bind fun h23 =>
    (gZ (1 : Int32)).bind fun w24 => some (w24, h23)
  else
    (gZ (0 : Int32)).bind fun w25 => some (w25, h)
  else
    if v6 = (100 : Int32) then
    (f_c11_refusesDraught N a0 v2 v4 h).bind fun q26 =>
    if 0 ≤ q26 then
    (gfR h a0 11 0).bind fun v28 =>
    (ga 0 h v28 ((32 : Int32) + v2)).bind fun v29 =>
    (sa 0 h v28 ((32 : Int32) + v2) (v29 - v4)).bind fun h30 =>
    (gZ (1 : Int32)).bind fun w31 => some (w31, h30)
  else
    (gZ (0 : Int32)).bind fun w32 => some (w32, h)
  else
    if v6 = (110 : Int32) then
    (gfR h a0 11 0).bind fun v33 =>
    (f_c11_goSeasons N a0 v33 v2 h).bind fun q34 =>
    (gZ (1 : Int32)).bind fun w35 => some (w35, q34)
  else
    if v6 = (115 : Int32) then
    (gfR h a0 11 0).bind fun v36 =>
    (gfR h a0 11 29).bind fun v37 =>
    (ga 0 h v37 (x1 + (3 : Int32))).bind fun v38 =>
    (f_c11_refusesSaying N a0 v36 v2 v4 v38 h).bind fun q39 =>
    if 0 ≤ q39 then
    (gfR h a0 11 0).bind fun v41 =>
    (gfR h a0 11 29).bind fun v42 =>
    (ga 0 h v42 (x1 + (3 : Int32))).bind fun v43 =>
    (f_c11_add N v41 v2 v4 v43 h).bind fun q44 =>
    (gZ (1 : Int32)).bind fun w45 => some (w45, q44)
  else
    (gZ (0 : Int32)).bind fun w46 => some (w46, h)
  else
    (f_c11_isWell N a0 v2 h).bind fun q47 =>
    if q47 = 0 then
    (gZ (0 : Int32)).bind fun w54 => some (w54, h)
  else
    (gfR h a0 11 0).bind fun v49 =>
    (gfR h a0 11 0).bind fun v50 =>
    (ga 0 h v50 ((16 : Int32) + v2)).bind fun v51 =>
    (sa 0 h v49 ((16 : Int32) + v2) ((1 : Int32) - v51)).bind fun h52 =>
    (gZ (1 : Int32)).bind fun w53 => some (w53, h52)
set_option maxHeartbeats 4000000 in
set_option maxRecDepth 100000 in
theorem ct_c11_act (l : Launch) (X : gX) (hx : gEx X = false) (N : Nat) (a0 : Nat) (x1 : Int32) (h : gH) (q : Int32 × gH) (hy : f_c11_act N a0 x1 h = some q) : gRc y_c11_act h a0 ∧ gMi l X y_c11_act b_c11_act 4 .boolean (9 + N) 0 0 [.ref a0, .int x1] h q.1 q.2 := by
  unfold f_c11_act at hy
  obtain ⟨u0, e_u0, hy⟩ := gBd hy
  cases u0
  refine ⟨Or.inl ⟨11, _, _, e_u0, rfl⟩, gMet_i (lsx := [(0, .ref a0), (1, .int x1)]) (by decide) rfl rfl ?_⟩
  intro M hMl K hret
  subst hMl
  refine g_aload_n K d_c11_act_0 0 rfl ?_
  obtain ⟨v1, e_v1, hy⟩ := gBd hy
  refine g_getR K fl_c11_64 d_c11_act_1 e_v1 ?_
  refine g_iload_n K d_c11_act_4 1 rfl ?_
  refine g_iconst (v := 1) K d_c11_act_5 (by decide) ?_
  refine g_iadd K d_c11_act_6 ?_
  obtain ⟨v2, e_v2, hy⟩ := gBd hy
  refine g_iald K d_c11_act_7 e_v2 ?_
  refine g_istore_n (ls2 := [(2, .int v2), (0, .ref a0), (1, .int x1)]) K d_c11_act_8 rfl rfl ?_
  refine g_aload_n K d_c11_act_9 1 rfl ?_
  obtain ⟨v3, e_v3, hy⟩ := gBd hy
  refine g_getR K fl_c11_64 d_c11_act_10 e_v3 ?_
  refine g_iload_n K d_c11_act_13 2 rfl ?_
  refine g_iconst (v := 2) K d_c11_act_14 (by decide) ?_
  refine g_iadd K d_c11_act_15 ?_
  obtain ⟨v4, e_v4, hy⟩ := gBd hy
  refine g_iald K d_c11_act_16 e_v4 ?_
  refine g_istore_n (ls2 := [(3, .int v4), (2, .int v2), (0, .ref a0), (1, .int x1)]) K d_c11_act_17 rfl rfl ?_
  refine g_aload_n K d_c11_act_18 2 rfl ?_
  obtain ⟨v5, e_v5, hy⟩ := gBd hy
  refine g_getR K fl_c11_64 d_c11_act_19 e_v5 ?_
  refine g_iload_n K d_c11_act_22 3 rfl ?_
  obtain ⟨v6, e_v6, hy⟩ := gBd hy
  refine g_iald K d_c11_act_23 e_v6 ?_
  by_cases c7 : v6 = (97 : Int32)
  · rw [if_pos c7] at hy
    refine g_lkIn (v := (97 : Int32)) (off := 105) (tgt := 129) K d_c11_act_24 (by decide +kernel) c7 (by decide +kernel) (by decide) ?_
    refine g_aload_n K d_c11_act_129 2 rfl ?_
    obtain ⟨v12, e_v12, hy⟩ := gBd hy
    refine g_getR K fl_c11_9 d_c11_act_130 e_v12 ?_
    refine g_iload_n K d_c11_act_133 1 rfl ?_
    obtain ⟨q13, e_q13, hy⟩ := gBd hy
    refine g_callSi (rest := []) K hx ly_c11_refusesAnd ks_c11_287 d_c11_act_134 (ct_c11_refusesAnd M.2.1 X hx N v12 v2 h q13 e_q13) rfl rfl (Nat.le_of_ble_eq_true rfl) (gDep rfl) ⟨Nat.le_refl 0, Nat.le_refl 0⟩ ?_
    refine g_if_ge K d_c11_act_137 (fun c14 => ?_) (fun c14 => ?_)
    · rw [if_pos c14] at hy
      refine g_aload_n K d_c11_act_142 2 rfl ?_
      obtain ⟨v15, e_v15, hy⟩ := gBd hy
      refine g_getR K fl_c11_9 d_c11_act_143 e_v15 ?_
      refine g_bipush (v := 24) K d_c11_act_146 (by decide) ?_
      refine g_iload_n K d_c11_act_148 1 rfl ?_
      refine g_iadd K d_c11_act_149 ?_
      refine g_dup2 K d_c11_act_150 rfl rfl ?_
      obtain ⟨v16, e_v16, hy⟩ := gBd hy
      refine g_iald K d_c11_act_151 e_v16 ?_
      refine g_iconst (v := 1) K d_c11_act_152 (by decide) ?_
      refine g_iadd K d_c11_act_153 ?_
      obtain ⟨h17, e_h17, hy⟩ := gBd hy
      refine g_iast K d_c11_act_154 e_h17 ?_
      refine g_iconst (v := 1) K d_c11_act_155 (by decide) ?_
      obtain ⟨w18, e_w18, hy⟩ := gBd hy
      obtain ⟨z_w18, n_w18⟩ := gZ_spec e_w18
      rw [z_w18]
      obtain rfl := Option.some.inj hy
      exact hret (gZn n_w18) _ _ _ d_c11_act_156
    · rw [if_neg c14] at hy
      refine g_iconst (v := 0) K d_c11_act_140 (by decide) ?_
      obtain ⟨w19, e_w19, hy⟩ := gBd hy
      obtain ⟨z_w19, n_w19⟩ := gZ_spec e_w19
      rw [z_w19]
      obtain rfl := Option.some.inj hy
      exact hret (gZn n_w19) _ _ _ d_c11_act_141
  rw [if_neg c7] at hy
  by_cases c8 : v6 = (99 : Int32)
  · rw [if_pos c8] at hy
    refine g_lkIn (v := (99 : Int32)) (off := 133) (tgt := 157) K d_c11_act_24 (by decide +kernel) c8 (by decide +kernel) (by decide) ?_
    refine g_aload_n K d_c11_act_157 2 rfl ?_
    refine g_iload_n K d_c11_act_158 1 rfl ?_
    obtain ⟨q20, e_q20, hy⟩ := gBd hy
    refine g_callVi (rest := []) K hx ly_c11_refusesClearing kv_c11_290 d_c11_act_159 (ct_c11_refusesClearing M.2.1 X hx N a0 v2 h q20 e_q20) rfl rfl (Nat.le_of_ble_eq_true rfl) (gDep rfl) ⟨Nat.le_refl 0, Nat.le_refl 0⟩ ?_
    refine g_if_ge K d_c11_act_162 (fun c21 => ?_) (fun c21 => ?_)
    · rw [if_pos c21] at hy
      refine g_aload_n K d_c11_act_167 2 rfl ?_
      obtain ⟨v22, e_v22, hy⟩ := gBd hy
      refine g_getR K fl_c11_9 d_c11_act_168 e_v22 ?_
      refine g_bipush (v := 24) K d_c11_act_171 (by decide) ?_
      refine g_iload_n K d_c11_act_173 1 rfl ?_
      refine g_iadd K d_c11_act_174 ?_
      refine g_iconst (v := 0) K d_c11_act_175 (by decide) ?_
      obtain ⟨h23, e_h23, hy⟩ := gBd hy
      refine g_iast K d_c11_act_176 e_h23 ?_
      refine g_iconst (v := 1) K d_c11_act_177 (by decide) ?_
      obtain ⟨w24, e_w24, hy⟩ := gBd hy
      obtain ⟨z_w24, n_w24⟩ := gZ_spec e_w24
      rw [z_w24]
      obtain rfl := Option.some.inj hy
      exact hret (gZn n_w24) _ _ _ d_c11_act_178
    · rw [if_neg c21] at hy
      refine g_iconst (v := 0) K d_c11_act_165 (by decide) ?_
      obtain ⟨w25, e_w25, hy⟩ := gBd hy
      obtain ⟨z_w25, n_w25⟩ := gZ_spec e_w25
      rw [z_w25]
      obtain rfl := Option.some.inj hy
      exact hret (gZn n_w25) _ _ _ d_c11_act_166
  rw [if_neg c8] at hy
  by_cases c9 : v6 = (100 : Int32)
  · rw [if_pos c9] at hy
    refine g_lkIn (v := (100 : Int32)) (off := 155) (tgt := 179) K d_c11_act_24 (by decide +kernel) c9 (by decide +kernel) (by decide) ?_
    refine g_aload_n K d_c11_act_179 2 rfl ?_
    refine g_iload_n K d_c11_act_180 1 rfl ?_
    refine g_iload_n K d_c11_act_181 0 rfl ?_
    obtain ⟨q26, e_q26, hy⟩ := gBd hy
    refine g_callVi (rest := []) K hx ly_c11_refusesDraught kv_c11_293 d_c11_act_182 (ct_c11_refusesDraught M.2.1 X hx N a0 v2 v4 h q26 e_q26) rfl rfl (Nat.le_of_ble_eq_true rfl) (gDep rfl) ⟨Nat.le_refl 0, Nat.le_refl 0⟩ ?_
    refine g_if_ge K d_c11_act_185 (fun c27 => ?_) (fun c27 => ?_)
    · rw [if_pos c27] at hy
      refine g_aload_n K d_c11_act_190 2 rfl ?_
      obtain ⟨v28, e_v28, hy⟩ := gBd hy
      refine g_getR K fl_c11_9 d_c11_act_191 e_v28 ?_
      refine g_bipush (v := 32) K d_c11_act_194 (by decide) ?_
      refine g_iload_n K d_c11_act_196 1 rfl ?_
      refine g_iadd K d_c11_act_197 ?_
      refine g_dup2 K d_c11_act_198 rfl rfl ?_
      obtain ⟨v29, e_v29, hy⟩ := gBd hy
      refine g_iald K d_c11_act_199 e_v29 ?_
      refine g_iload_n K d_c11_act_200 0 rfl ?_
      refine g_isub K d_c11_act_201 ?_
      obtain ⟨h30, e_h30, hy⟩ := gBd hy
      refine g_iast K d_c11_act_202 e_h30 ?_
      refine g_iconst (v := 1) K d_c11_act_203 (by decide) ?_
      obtain ⟨w31, e_w31, hy⟩ := gBd hy
      obtain ⟨z_w31, n_w31⟩ := gZ_spec e_w31
      rw [z_w31]
      obtain rfl := Option.some.inj hy
      exact hret (gZn n_w31) _ _ _ d_c11_act_204
    · rw [if_neg c27] at hy
      refine g_iconst (v := 0) K d_c11_act_188 (by decide) ?_
      obtain ⟨w32, e_w32, hy⟩ := gBd hy
      obtain ⟨z_w32, n_w32⟩ := gZ_spec e_w32
      rw [z_w32]
      obtain rfl := Option.some.inj hy
      exact hret (gZn n_w32) _ _ _ d_c11_act_189
  rw [if_neg c9] at hy
  by_cases c10 : v6 = (110 : Int32)
  · rw [if_pos c10] at hy
    refine g_lkIn (v := (110 : Int32)) (off := 52) (tgt := 76) K d_c11_act_24 (by decide +kernel) c10 (by decide +kernel) (by decide) ?_
    refine g_aload_n K d_c11_act_76 2 rfl ?_
    refine g_aload_n K d_c11_act_77 2 rfl ?_
    obtain ⟨v33, e_v33, hy⟩ := gBd hy
    refine g_getR K fl_c11_9 d_c11_act_78 e_v33 ?_
    refine g_iload_n K d_c11_act_81 1 rfl ?_
    obtain ⟨q34, e_q34, hy⟩ := gBd hy
    refine g_callVv (rest := []) K hx ly_c11_goSeasons kv_c11_264 d_c11_act_82 (ct_c11_goSeasons M.2.1 X hx N a0 v33 v2 h q34 e_q34) rfl rfl (Nat.le_of_ble_eq_true rfl) (gDep rfl) ⟨Nat.le_refl 0, Nat.le_refl 0⟩ ?_
    refine g_iconst (v := 1) K d_c11_act_85 (by decide) ?_
    obtain ⟨w35, e_w35, hy⟩ := gBd hy
    obtain ⟨z_w35, n_w35⟩ := gZ_spec e_w35
    rw [z_w35]
    obtain rfl := Option.some.inj hy
    exact hret (gZn n_w35) _ _ _ d_c11_act_86
  rw [if_neg c10] at hy
  by_cases c11 : v6 = (115 : Int32)
  · rw [if_pos c11] at hy
    refine g_lkIn (v := (115 : Int32)) (off := 63) (tgt := 87) K d_c11_act_24 (by decide +kernel) c11 (by decide +kernel) (by decide) ?_
    refine g_aload_n K d_c11_act_87 2 rfl ?_
    refine g_aload_n K d_c11_act_88 2 rfl ?_
    obtain ⟨v36, e_v36, hy⟩ := gBd hy
    refine g_getR K fl_c11_9 d_c11_act_89 e_v36 ?_
    refine g_iload_n K d_c11_act_92 1 rfl ?_
    refine g_iload_n K d_c11_act_93 0 rfl ?_
    refine g_aload_n K d_c11_act_94 2 rfl ?_
    obtain ⟨v37, e_v37, hy⟩ := gBd hy
    refine g_getR K fl_c11_64 d_c11_act_95 e_v37 ?_
    refine g_iload_n K d_c11_act_98 3 rfl ?_
    refine g_iconst (v := 3) K d_c11_act_99 (by decide) ?_
    refine g_iadd K d_c11_act_100 ?_
    obtain ⟨v38, e_v38, hy⟩ := gBd hy
    refine g_iald K d_c11_act_101 e_v38 ?_
    obtain ⟨q39, e_q39, hy⟩ := gBd hy
    refine g_callVi (rest := []) K hx ly_c11_refusesSaying kv_c11_283 d_c11_act_102 (ct_c11_refusesSaying M.2.1 X hx N a0 v36 v2 v4 v38 h q39 e_q39) rfl rfl (Nat.le_of_ble_eq_true rfl) (gDep rfl) ⟨Nat.le_refl 0, Nat.le_refl 0⟩ ?_
    refine g_if_ge K d_c11_act_105 (fun c40 => ?_) (fun c40 => ?_)
    · rw [if_pos c40] at hy
      refine g_aload_n K d_c11_act_110 2 rfl ?_
      obtain ⟨v41, e_v41, hy⟩ := gBd hy
      refine g_getR K fl_c11_9 d_c11_act_111 e_v41 ?_
      refine g_iload_n K d_c11_act_114 1 rfl ?_
      refine g_iload_n K d_c11_act_115 0 rfl ?_
      refine g_aload_n K d_c11_act_116 2 rfl ?_
      obtain ⟨v42, e_v42, hy⟩ := gBd hy
      refine g_getR K fl_c11_64 d_c11_act_117 e_v42 ?_
      refine g_iload_n K d_c11_act_120 3 rfl ?_
      refine g_iconst (v := 3) K d_c11_act_121 (by decide) ?_
      refine g_iadd K d_c11_act_122 ?_
      obtain ⟨v43, e_v43, hy⟩ := gBd hy
      refine g_iald K d_c11_act_123 e_v43 ?_
      obtain ⟨q44, e_q44, hy⟩ := gBd hy
      refine g_callSv (rest := []) K hx ly_c11_add ks_c11_181 d_c11_act_124 (ct_c11_add M.2.1 X hx N v41 v2 v4 v43 h q44 e_q44) rfl rfl (Nat.le_of_ble_eq_true rfl) (gDep rfl) ⟨Nat.le_refl 0, Nat.le_refl 0⟩ ?_
      refine g_iconst (v := 1) K d_c11_act_127 (by decide) ?_
      obtain ⟨w45, e_w45, hy⟩ := gBd hy
      obtain ⟨z_w45, n_w45⟩ := gZ_spec e_w45
      rw [z_w45]
      obtain rfl := Option.some.inj hy
      exact hret (gZn n_w45) _ _ _ d_c11_act_128
    · rw [if_neg c40] at hy
      refine g_iconst (v := 0) K d_c11_act_108 (by decide) ?_
      obtain ⟨w46, e_w46, hy⟩ := gBd hy
      obtain ⟨z_w46, n_w46⟩ := gZ_spec e_w46
      rw [z_w46]
      obtain rfl := Option.some.inj hy
      exact hret (gZn n_w46) _ _ _ d_c11_act_109
  rw [if_neg c11] at hy
  refine g_lkD (tgt := 205) [(97 : Int32), (99 : Int32), (100 : Int32), (110 : Int32), (115 : Int32)] K d_c11_act_24 (by decide +kernel) (List.forall_mem_cons.mpr ⟨c7, (List.forall_mem_cons.mpr ⟨c8, (List.forall_mem_cons.mpr ⟨c9, (List.forall_mem_cons.mpr ⟨c10, (List.forall_mem_cons.mpr ⟨c11, (fun _ h => absurd h List.not_mem_nil)⟩)⟩)⟩)⟩)⟩) (by decide +kernel) (by decide) ?_
  refine g_aload_n K d_c11_act_205 2 rfl ?_
  refine g_iload_n K d_c11_act_206 1 rfl ?_
  obtain ⟨q47, e_q47, hy⟩ := gBd hy
  refine g_callVi (rest := []) K hx ly_c11_isWell kv_c11_233 d_c11_act_207 (ct_c11_isWell M.2.1 X hx N a0 v2 h q47 e_q47) rfl rfl (Nat.le_of_ble_eq_true rfl) (gDep rfl) ⟨Nat.le_refl 0, Nat.le_refl 0⟩ ?_
  refine g_if_ne K d_c11_act_210 (fun c48 => ?_) (fun c48 => ?_)
  · rw [if_neg c48] at hy
    refine g_aload_n K d_c11_act_215 2 rfl ?_
    obtain ⟨v49, e_v49, hy⟩ := gBd hy
    refine g_getR K fl_c11_9 d_c11_act_216 e_v49 ?_
    refine g_bipush (v := 16) K d_c11_act_219 (by decide) ?_
    refine g_iload_n K d_c11_act_221 1 rfl ?_
    refine g_iadd K d_c11_act_222 ?_
    refine g_iconst (v := 1) K d_c11_act_223 (by decide) ?_
    refine g_aload_n K d_c11_act_224 2 rfl ?_
    obtain ⟨v50, e_v50, hy⟩ := gBd hy
    refine g_getR K fl_c11_9 d_c11_act_225 e_v50 ?_
    refine g_bipush (v := 16) K d_c11_act_228 (by decide) ?_
    refine g_iload_n K d_c11_act_230 1 rfl ?_
    refine g_iadd K d_c11_act_231 ?_
    obtain ⟨v51, e_v51, hy⟩ := gBd hy
    refine g_iald K d_c11_act_232 e_v51 ?_
    refine g_isub K d_c11_act_233 ?_
    obtain ⟨h52, e_h52, hy⟩ := gBd hy
    refine g_iast K d_c11_act_234 e_h52 ?_
    refine g_iconst (v := 1) K d_c11_act_235 (by decide) ?_
    obtain ⟨w53, e_w53, hy⟩ := gBd hy
    obtain ⟨z_w53, n_w53⟩ := gZ_spec e_w53
    rw [z_w53]
    obtain rfl := Option.some.inj hy
    exact hret (gZn n_w53) _ _ _ d_c11_act_236
  · rw [if_pos c48] at hy
    refine g_iconst (v := 0) K d_c11_act_213 (by decide) ?_
    obtain ⟨w54, e_w54, hy⟩ := gBd hy
    obtain ⟨z_w54, n_w54⟩ := gZ_spec e_w54
    rw [z_w54]
    obtain rfl := Option.some.inj hy
    exact hret (gZn n_w54) _ _ _ d_c11_act_214
-- c11 drinks
theorem d_c11_drinks_0 : gD b_c11_drinks 0 (.aload_n 0) 1 1 := ⟨by decide +kernel, rfl⟩
theorem d_c11_drinks_1 : gD b_c11_drinks 1 (.iconst 0) 1 2 := ⟨by decide +kernel, rfl⟩
theorem d_c11_drinks_2 : gD b_c11_drinks 2 (.putfield 95) 3 5 := ⟨by decide +kernel, rfl⟩
theorem d_c11_drinks_5 : gD b_c11_drinks 5 (.aload_n 0) 1 6 := ⟨by decide +kernel, rfl⟩
theorem d_c11_drinks_6 : gD b_c11_drinks 6 (.iload_n 1) 1 7 := ⟨by decide +kernel, rfl⟩
theorem d_c11_drinks_7 : gD b_c11_drinks 7 (.invokevirtual 246) 3 10 := ⟨by decide +kernel, rfl⟩
theorem d_c11_drinks_10 : gJ b_c11_drinks 10 (.ifCond .eq 13) 3 13 13 23 := ⟨by decide +kernel, rfl, by decide⟩
theorem d_c11_drinks_13 : gD b_c11_drinks 13 (.iload_n 2) 1 14 := ⟨by decide +kernel, rfl⟩
theorem d_c11_drinks_14 : gD b_c11_drinks 14 (.iconst 1) 1 15 := ⟨by decide +kernel, rfl⟩
theorem d_c11_drinks_15 : gD b_c11_drinks 15 (.bipush 99) 2 17 := ⟨by decide +kernel, rfl⟩
theorem d_c11_drinks_17 : gD b_c11_drinks 17 (.invokestatic 105) 3 20 := ⟨by decide +kernel, rfl⟩
theorem d_c11_drinks_20 : gJ b_c11_drinks 20 (.ifCond .ne 5) 3 5 23 25 := ⟨by decide +kernel, rfl, by decide⟩
theorem d_c11_drinks_23 : gD b_c11_drinks 23 (.iconst (-1)) 1 24 := ⟨by decide +kernel, rfl⟩
theorem d_c11_drinks_24 : gD b_c11_drinks 24 .ireturn 1 25 := ⟨by decide +kernel, rfl⟩
theorem d_c11_drinks_25 : gD b_c11_drinks 25 (.aload_n 0) 1 26 := ⟨by decide +kernel, rfl⟩
theorem d_c11_drinks_26 : gD b_c11_drinks 26 (.getfield 9) 3 29 := ⟨by decide +kernel, rfl⟩
theorem d_c11_drinks_29 : gD b_c11_drinks 29 (.aload_n 0) 1 30 := ⟨by decide +kernel, rfl⟩
theorem d_c11_drinks_30 : gD b_c11_drinks 30 (.getfield 52) 3 33 := ⟨by decide +kernel, rfl⟩
theorem d_c11_drinks_33 : gD b_c11_drinks 33 (.iconst 0) 1 34 := ⟨by decide +kernel, rfl⟩
theorem d_c11_drinks_34 : gD b_c11_drinks 34 (.invokestatic 253) 3 37 := ⟨by decide +kernel, rfl⟩
theorem d_c11_drinks_37 : gD b_c11_drinks 37 (.aload_n 0) 1 38 := ⟨by decide +kernel, rfl⟩
theorem d_c11_drinks_38 : gD b_c11_drinks 38 (.aload_n 0) 1 39 := ⟨by decide +kernel, rfl⟩
theorem d_c11_drinks_39 : gD b_c11_drinks 39 (.getfield 52) 3 42 := ⟨by decide +kernel, rfl⟩
theorem d_c11_drinks_42 : gD b_c11_drinks 42 (.iload_n 2) 1 43 := ⟨by decide +kernel, rfl⟩
theorem d_c11_drinks_43 : gD b_c11_drinks 43 (.invokevirtual 264) 3 46 := ⟨by decide +kernel, rfl⟩
theorem d_c11_drinks_46 : gD b_c11_drinks 46 (.aload_n 0) 1 47 := ⟨by decide +kernel, rfl⟩
theorem d_c11_drinks_47 : gD b_c11_drinks 47 (.iconst 0) 1 48 := ⟨by decide +kernel, rfl⟩
theorem d_c11_drinks_48 : gD b_c11_drinks 48 (.putfield 98) 3 51 := ⟨by decide +kernel, rfl⟩
theorem d_c11_drinks_51 : gD b_c11_drinks 51 (.aload_n 0) 1 52 := ⟨by decide +kernel, rfl⟩
theorem d_c11_drinks_52 : gD b_c11_drinks 52 (.aload_n 0) 1 53 := ⟨by decide +kernel, rfl⟩
theorem d_c11_drinks_53 : gD b_c11_drinks 53 (.getfield 61) 3 56 := ⟨by decide +kernel, rfl⟩
theorem d_c11_drinks_56 : gD b_c11_drinks 56 (.iload_n 1) 1 57 := ⟨by decide +kernel, rfl⟩
theorem d_c11_drinks_57 : gD b_c11_drinks 57 .iaload 1 58 := ⟨by decide +kernel, rfl⟩
theorem d_c11_drinks_58 : gD b_c11_drinks 58 .i2l 1 59 := ⟨by decide +kernel, rfl⟩
theorem d_c11_drinks_59 : gD b_c11_drinks 59 (.invokevirtual 268) 3 62 := ⟨by decide +kernel, rfl⟩
theorem d_c11_drinks_62 : gD b_c11_drinks 62 (.aload_n 0) 1 63 := ⟨by decide +kernel, rfl⟩
theorem d_c11_drinks_63 : gD b_c11_drinks 63 (.getfield 58) 3 66 := ⟨by decide +kernel, rfl⟩
theorem d_c11_drinks_66 : gD b_c11_drinks 66 (.iload_n 1) 1 67 := ⟨by decide +kernel, rfl⟩
theorem d_c11_drinks_67 : gD b_c11_drinks 67 .iaload 1 68 := ⟨by decide +kernel, rfl⟩
theorem d_c11_drinks_68 : gD b_c11_drinks 68 .ireturn 1 69 := ⟨by decide +kernel, rfl⟩
def f_c11_drinks (N : Nat) (a0 : Nat) (x1 : Int32) (x2 : Int32) (h : gH) : Option (Int32 × gH) :=
  (gcl h a0 11).bind fun _ =>
  (sf h a0 11 10 (.int (0 : Int32))).bind fun h1 =>
    (f_c11_isVillage N a0 x1 h1).bind fun q2 =>
    if q2 = 0 then
    some ((-1 : Int32), h1)
  else
    (f_c11_in N x2 (1 : Int32) (99 : Int32) h1).bind fun q4 =>
    if q4 = 0 then
    some ((-1 : Int32), h1)
  else
    (gfR h1 a0 11 0).bind fun v6 =>
    (gfR h1 a0 11 25).bind fun v7 =>
    (f_c11_lay N v6 v7 (0 : Int32) h1).bind fun q8 =>
    (gfR q8 a0 11 25).bind fun v9 =>
    (f_c11_goSeasons N a0 v9 x2 q8).bind fun q10 =>
    (sf q10 a0 11 9 (.int (0 : Int32))).bind fun h11 =>
    (gfR h11 a0 11 28).bind fun v12 =>
    (ga 0 h11 v12 x1).bind fun v13 =>
    (f_c11_tell N a0 v13.toInt64 h11).bind fun q14 =>
    (gfR q14 a0 11 27).bind fun v15 =>
    (ga 0 q14 v15 x1).bind fun v16 =>
    some (v16, q14)
set_option maxHeartbeats 4000000 in
set_option maxRecDepth 100000 in
theorem ct_c11_drinks (l : Launch) (X : gX) (hx : gEx X = false) (N : Nat) (a0 : Nat) (x1 : Int32) (x2 : Int32) (h : gH) (q : Int32 × gH) (hy : f_c11_drinks N a0 x1 x2 h = some q) : gRc y_c11_drinks h a0 ∧ gMi l X y_c11_drinks b_c11_drinks 3 .int (9 + N) 0 0 [.ref a0, .int x1, .int x2] h q.1 q.2 := by
  unfold f_c11_drinks at hy
  obtain ⟨u0, e_u0, hy⟩ := gBd hy
  cases u0
  refine ⟨Or.inl ⟨11, _, _, e_u0, rfl⟩, gMet_i (lsx := [(0, .ref a0), (1, .int x1), (2, .int x2)]) (by decide) rfl rfl ?_⟩
  intro M hMl K hret
  subst hMl
  refine g_aload_n K d_c11_drinks_0 0 rfl ?_
  refine g_iconst (v := 0) K d_c11_drinks_1 (by decide) ?_
  obtain ⟨h1, e_h1, hy⟩ := gBd hy
  refine g_putI K fp_c11_95 d_c11_drinks_2 e_h1 ?_
  refine g_aload_n K d_c11_drinks_5 0 rfl ?_
  refine g_iload_n K d_c11_drinks_6 1 rfl ?_
  obtain ⟨q2, e_q2, hy⟩ := gBd hy
  refine g_callVi (rest := []) K hx ly_c11_isVillage kv_c11_246 d_c11_drinks_7 (ct_c11_isVillage M.2.1 X hx N a0 x1 h1 q2 e_q2) rfl rfl (Nat.le_of_ble_eq_true rfl) (gDep rfl) ⟨Nat.le_refl 0, Nat.le_refl 0⟩ ?_
  refine g_if_eq K d_c11_drinks_10 (fun c3 => ?_) (fun c3 => ?_)
  · rw [if_pos c3] at hy
    refine g_iconst (v := (-1)) K d_c11_drinks_23 (by decide) ?_
    obtain rfl := Option.some.inj hy
    exact hret rfl _ _ _ d_c11_drinks_24
  · rw [if_neg c3] at hy
    refine g_iload_n K d_c11_drinks_13 2 rfl ?_
    refine g_iconst (v := 1) K d_c11_drinks_14 (by decide) ?_
    refine g_bipush (v := 99) K d_c11_drinks_15 (by decide) ?_
    obtain ⟨q4, e_q4, hy⟩ := gBd hy
    refine g_callSi (rest := []) K hx ly_c11_in ks_c11_105 d_c11_drinks_17 (ct_c11_in M.2.1 X hx N x2 (1 : Int32) (99 : Int32) h1 q4 e_q4) rfl rfl (Nat.le_of_ble_eq_true rfl) (gDep rfl) ⟨Nat.le_refl 0, Nat.le_refl 0⟩ ?_
    refine g_if_ne K d_c11_drinks_20 (fun c5 => ?_) (fun c5 => ?_)
    · rw [if_neg c5] at hy
      refine g_aload_n K d_c11_drinks_25 0 rfl ?_
      obtain ⟨v6, e_v6, hy⟩ := gBd hy
      refine g_getR K fl_c11_9 d_c11_drinks_26 e_v6 ?_
      refine g_aload_n K d_c11_drinks_29 0 rfl ?_
      obtain ⟨v7, e_v7, hy⟩ := gBd hy
      refine g_getR K fl_c11_52 d_c11_drinks_30 e_v7 ?_
      refine g_iconst (v := 0) K d_c11_drinks_33 (by decide) ?_
      obtain ⟨q8, e_q8, hy⟩ := gBd hy
      refine g_callSv (rest := []) K hx ly_c11_lay ks_c11_253 d_c11_drinks_34 (ct_c11_lay M.2.1 X hx N v6 v7 (0 : Int32) h1 q8 e_q8) rfl rfl (Nat.le_of_ble_eq_true rfl) (gDep rfl) ⟨Nat.le_refl 0, Nat.le_refl 0⟩ ?_
      refine g_aload_n K d_c11_drinks_37 0 rfl ?_
      refine g_aload_n K d_c11_drinks_38 0 rfl ?_
      obtain ⟨v9, e_v9, hy⟩ := gBd hy
      refine g_getR K fl_c11_52 d_c11_drinks_39 e_v9 ?_
      refine g_iload_n K d_c11_drinks_42 2 rfl ?_
      obtain ⟨q10, e_q10, hy⟩ := gBd hy
      refine g_callVv (rest := []) K hx ly_c11_goSeasons kv_c11_264 d_c11_drinks_43 (ct_c11_goSeasons M.2.1 X hx N a0 v9 x2 q8 q10 e_q10) rfl rfl (Nat.le_of_ble_eq_true rfl) (gDep rfl) ⟨Nat.le_refl 0, Nat.le_refl 0⟩ ?_
      refine g_aload_n K d_c11_drinks_46 0 rfl ?_
      refine g_iconst (v := 0) K d_c11_drinks_47 (by decide) ?_
      obtain ⟨h11, e_h11, hy⟩ := gBd hy
      refine g_putI K fp_c11_98 d_c11_drinks_48 e_h11 ?_
      refine g_aload_n K d_c11_drinks_51 0 rfl ?_
      refine g_aload_n K d_c11_drinks_52 0 rfl ?_
      obtain ⟨v12, e_v12, hy⟩ := gBd hy
      refine g_getR K fl_c11_61 d_c11_drinks_53 e_v12 ?_
      refine g_iload_n K d_c11_drinks_56 1 rfl ?_
      obtain ⟨v13, e_v13, hy⟩ := gBd hy
      refine g_iald K d_c11_drinks_57 e_v13 ?_
      refine g_i2l K d_c11_drinks_58 ?_
      obtain ⟨q14, e_q14, hy⟩ := gBd hy
      refine g_callVv (rest := []) K hx ly_c11_tell kv_c11_268 d_c11_drinks_59 (ct_c11_tell M.2.1 X hx N a0 v13.toInt64 h11 q14 e_q14) rfl rfl (Nat.le_of_ble_eq_true rfl) (gDep rfl) ⟨Nat.le_refl 0, Nat.le_refl 0⟩ ?_
      refine g_aload_n K d_c11_drinks_62 0 rfl ?_
      obtain ⟨v15, e_v15, hy⟩ := gBd hy
      refine g_getR K fl_c11_58 d_c11_drinks_63 e_v15 ?_
      refine g_iload_n K d_c11_drinks_66 1 rfl ?_
      obtain ⟨v16, e_v16, hy⟩ := gBd hy
      refine g_iald K d_c11_drinks_67 e_v16 ?_
      obtain rfl := Option.some.inj hy
      exact hret rfl _ _ _ d_c11_drinks_68
    · rw [if_pos c5] at hy
      refine g_iconst (v := (-1)) K d_c11_drinks_23 (by decide) ?_
      obtain rfl := Option.some.inj hy
      exact hret rfl _ _ _ d_c11_drinks_24
-- c11 later
theorem d_c11_later_0 : gD b_c11_later 0 (.aload_n 0) 1 1 := ⟨by decide +kernel, rfl⟩
theorem d_c11_later_1 : gD b_c11_later 1 (.iconst 0) 1 2 := ⟨by decide +kernel, rfl⟩
theorem d_c11_later_2 : gD b_c11_later 2 (.putfield 95) 3 5 := ⟨by decide +kernel, rfl⟩
theorem d_c11_later_5 : gD b_c11_later 5 (.aload_n 0) 1 6 := ⟨by decide +kernel, rfl⟩
theorem d_c11_later_6 : gD b_c11_later 6 (.iload_n 1) 1 7 := ⟨by decide +kernel, rfl⟩
theorem d_c11_later_7 : gD b_c11_later 7 (.invokevirtual 233) 3 10 := ⟨by decide +kernel, rfl⟩
theorem d_c11_later_10 : gJ b_c11_later 10 (.ifCond .eq 13) 3 13 13 23 := ⟨by decide +kernel, rfl, by decide⟩
theorem d_c11_later_13 : gD b_c11_later 13 (.iload_n 2) 1 14 := ⟨by decide +kernel, rfl⟩
theorem d_c11_later_14 : gD b_c11_later 14 (.iconst 0) 1 15 := ⟨by decide +kernel, rfl⟩
theorem d_c11_later_15 : gD b_c11_later 15 (.bipush 99) 2 17 := ⟨by decide +kernel, rfl⟩
theorem d_c11_later_17 : gD b_c11_later 17 (.invokestatic 105) 3 20 := ⟨by decide +kernel, rfl⟩
theorem d_c11_later_20 : gJ b_c11_later 20 (.ifCond .ne 5) 3 5 23 25 := ⟨by decide +kernel, rfl, by decide⟩
theorem d_c11_later_23 : gD b_c11_later 23 (.iconst (-1)) 1 24 := ⟨by decide +kernel, rfl⟩
theorem d_c11_later_24 : gD b_c11_later 24 .ireturn 1 25 := ⟨by decide +kernel, rfl⟩
theorem d_c11_later_25 : gD b_c11_later 25 (.aload_n 0) 1 26 := ⟨by decide +kernel, rfl⟩
theorem d_c11_later_26 : gD b_c11_later 26 (.getfield 9) 3 29 := ⟨by decide +kernel, rfl⟩
theorem d_c11_later_29 : gD b_c11_later 29 (.aload_n 0) 1 30 := ⟨by decide +kernel, rfl⟩
theorem d_c11_later_30 : gD b_c11_later 30 (.getfield 52) 3 33 := ⟨by decide +kernel, rfl⟩
theorem d_c11_later_33 : gD b_c11_later 33 (.iconst 0) 1 34 := ⟨by decide +kernel, rfl⟩
theorem d_c11_later_34 : gD b_c11_later 34 (.invokestatic 253) 3 37 := ⟨by decide +kernel, rfl⟩
theorem d_c11_later_37 : gD b_c11_later 37 (.aload_n 0) 1 38 := ⟨by decide +kernel, rfl⟩
theorem d_c11_later_38 : gD b_c11_later 38 (.aload_n 0) 1 39 := ⟨by decide +kernel, rfl⟩
theorem d_c11_later_39 : gD b_c11_later 39 (.getfield 52) 3 42 := ⟨by decide +kernel, rfl⟩
theorem d_c11_later_42 : gD b_c11_later 42 (.iload_n 2) 1 43 := ⟨by decide +kernel, rfl⟩
theorem d_c11_later_43 : gD b_c11_later 43 (.invokevirtual 264) 3 46 := ⟨by decide +kernel, rfl⟩
theorem d_c11_later_46 : gD b_c11_later 46 (.aload_n 0) 1 47 := ⟨by decide +kernel, rfl⟩
theorem d_c11_later_47 : gD b_c11_later 47 (.iconst 0) 1 48 := ⟨by decide +kernel, rfl⟩
theorem d_c11_later_48 : gD b_c11_later 48 (.putfield 98) 3 51 := ⟨by decide +kernel, rfl⟩
theorem d_c11_later_51 : gD b_c11_later 51 (.aload_n 0) 1 52 := ⟨by decide +kernel, rfl⟩
theorem d_c11_later_52 : gD b_c11_later 52 (.aload_n 0) 1 53 := ⟨by decide +kernel, rfl⟩
theorem d_c11_later_53 : gD b_c11_later 53 (.getfield 52) 3 56 := ⟨by decide +kernel, rfl⟩
theorem d_c11_later_56 : gD b_c11_later 56 (.invokestatic 249) 3 59 := ⟨by decide +kernel, rfl⟩
theorem d_c11_later_59 : gD b_c11_later 59 .i2l 1 60 := ⟨by decide +kernel, rfl⟩
theorem d_c11_later_60 : gD b_c11_later 60 (.invokevirtual 268) 3 63 := ⟨by decide +kernel, rfl⟩
theorem d_c11_later_63 : gD b_c11_later 63 (.aload_n 0) 1 64 := ⟨by decide +kernel, rfl⟩
theorem d_c11_later_64 : gD b_c11_later 64 (.aload_n 0) 1 65 := ⟨by decide +kernel, rfl⟩
theorem d_c11_later_65 : gD b_c11_later 65 (.getfield 52) 3 68 := ⟨by decide +kernel, rfl⟩
theorem d_c11_later_68 : gD b_c11_later 68 (.bipush 42) 2 70 := ⟨by decide +kernel, rfl⟩
theorem d_c11_later_70 : gD b_c11_later 70 .iaload 1 71 := ⟨by decide +kernel, rfl⟩
theorem d_c11_later_71 : gD b_c11_later 71 (.aload_n 0) 1 72 := ⟨by decide +kernel, rfl⟩
theorem d_c11_later_72 : gD b_c11_later 72 (.getfield 9) 3 75 := ⟨by decide +kernel, rfl⟩
theorem d_c11_later_75 : gD b_c11_later 75 (.bipush 42) 2 77 := ⟨by decide +kernel, rfl⟩
theorem d_c11_later_77 : gD b_c11_later 77 .iaload 1 78 := ⟨by decide +kernel, rfl⟩
theorem d_c11_later_78 : gD b_c11_later 78 .isub 1 79 := ⟨by decide +kernel, rfl⟩
theorem d_c11_later_79 : gD b_c11_later 79 .i2l 1 80 := ⟨by decide +kernel, rfl⟩
theorem d_c11_later_80 : gD b_c11_later 80 (.invokevirtual 268) 3 83 := ⟨by decide +kernel, rfl⟩
theorem d_c11_later_83 : gD b_c11_later 83 (.aload_n 0) 1 84 := ⟨by decide +kernel, rfl⟩
theorem d_c11_later_84 : gD b_c11_later 84 (.getfield 52) 3 87 := ⟨by decide +kernel, rfl⟩
theorem d_c11_later_87 : gD b_c11_later 87 (.bipush 32) 2 89 := ⟨by decide +kernel, rfl⟩
theorem d_c11_later_89 : gD b_c11_later 89 (.iload_n 1) 1 90 := ⟨by decide +kernel, rfl⟩
theorem d_c11_later_90 : gD b_c11_later 90 .iadd 1 91 := ⟨by decide +kernel, rfl⟩
theorem d_c11_later_91 : gD b_c11_later 91 .iaload 1 92 := ⟨by decide +kernel, rfl⟩
theorem d_c11_later_92 : gD b_c11_later 92 .ireturn 1 93 := ⟨by decide +kernel, rfl⟩
def f_c11_later (N : Nat) (a0 : Nat) (x1 : Int32) (x2 : Int32) (h : gH) : Option (Int32 × gH) :=
  (gcl h a0 11).bind fun _ =>
  (sf h a0 11 10 (.int (0 : Int32))).bind fun h1 =>
    (f_c11_isWell N a0 x1 h1).bind fun q2 =>
    if q2 = 0 then
    some ((-1 : Int32), h1)
  else
    (f_c11_in N x2 (0 : Int32) (99 : Int32) h1).bind fun q4 =>
    if q4 = 0 then
    some ((-1 : Int32), h1)
  else
    (gfR h1 a0 11 0).bind fun v6 =>
    (gfR h1 a0 11 25).bind fun v7 =>
    (f_c11_lay N v6 v7 (0 : Int32) h1).bind fun q8 =>
    (gfR q8 a0 11 25).bind fun v9 =>
    (f_c11_goSeasons N a0 v9 x2 q8).bind fun q10 =>
    (sf q10 a0 11 9 (.int (0 : Int32))).bind fun h11 =>
    (gfR h11 a0 11 25).bind fun v12 =>
    (f_c11_waters N v12 h11).bind fun q13 =>
    (f_c11_tell N a0 q13.toInt64 h11).bind fun q14 =>
    (gfR q14 a0 11 25).bind fun v15 =>
    (ga 0 q14 v15 (42 : Int32)).bind fun v16 =>
    (gfR q14 a0 11 0).bind fun v17 =>
    (ga 0 q14 v17 (42 : Int32)).bind fun v18 =>
    (f_c11_tell N a0 ((v16 - v18).toInt64) q14).bind fun q19 =>
    (gfR q19 a0 11 25).bind fun v20 =>
    (ga 0 q19 v20 ((32 : Int32) + x1)).bind fun v21 =>
    some (v21, q19)
set_option maxHeartbeats 4000000 in
set_option maxRecDepth 100000 in
theorem ct_c11_later (l : Launch) (X : gX) (hx : gEx X = false) (N : Nat) (a0 : Nat) (x1 : Int32) (x2 : Int32) (h : gH) (q : Int32 × gH) (hy : f_c11_later N a0 x1 x2 h = some q) : gRc y_c11_later h a0 ∧ gMi l X y_c11_later b_c11_later 3 .int (9 + N) 0 0 [.ref a0, .int x1, .int x2] h q.1 q.2 := by
  unfold f_c11_later at hy
  obtain ⟨u0, e_u0, hy⟩ := gBd hy
  cases u0
  refine ⟨Or.inl ⟨11, _, _, e_u0, rfl⟩, gMet_i (lsx := [(0, .ref a0), (1, .int x1), (2, .int x2)]) (by decide) rfl rfl ?_⟩
  intro M hMl K hret
  subst hMl
  refine g_aload_n K d_c11_later_0 0 rfl ?_
  refine g_iconst (v := 0) K d_c11_later_1 (by decide) ?_
  obtain ⟨h1, e_h1, hy⟩ := gBd hy
  refine g_putI K fp_c11_95 d_c11_later_2 e_h1 ?_
  refine g_aload_n K d_c11_later_5 0 rfl ?_
  refine g_iload_n K d_c11_later_6 1 rfl ?_
  obtain ⟨q2, e_q2, hy⟩ := gBd hy
  refine g_callVi (rest := []) K hx ly_c11_isWell kv_c11_233 d_c11_later_7 (ct_c11_isWell M.2.1 X hx N a0 x1 h1 q2 e_q2) rfl rfl (Nat.le_of_ble_eq_true rfl) (gDep rfl) ⟨Nat.le_refl 0, Nat.le_refl 0⟩ ?_
  refine g_if_eq K d_c11_later_10 (fun c3 => ?_) (fun c3 => ?_)
  · rw [if_pos c3] at hy
    refine g_iconst (v := (-1)) K d_c11_later_23 (by decide) ?_
    obtain rfl := Option.some.inj hy
    exact hret rfl _ _ _ d_c11_later_24
  · rw [if_neg c3] at hy
    refine g_iload_n K d_c11_later_13 2 rfl ?_
    refine g_iconst (v := 0) K d_c11_later_14 (by decide) ?_
    refine g_bipush (v := 99) K d_c11_later_15 (by decide) ?_
    obtain ⟨q4, e_q4, hy⟩ := gBd hy
    refine g_callSi (rest := []) K hx ly_c11_in ks_c11_105 d_c11_later_17 (ct_c11_in M.2.1 X hx N x2 (0 : Int32) (99 : Int32) h1 q4 e_q4) rfl rfl (Nat.le_of_ble_eq_true rfl) (gDep rfl) ⟨Nat.le_refl 0, Nat.le_refl 0⟩ ?_
    refine g_if_ne K d_c11_later_20 (fun c5 => ?_) (fun c5 => ?_)
    · rw [if_neg c5] at hy
      refine g_aload_n K d_c11_later_25 0 rfl ?_
      obtain ⟨v6, e_v6, hy⟩ := gBd hy
      refine g_getR K fl_c11_9 d_c11_later_26 e_v6 ?_
      refine g_aload_n K d_c11_later_29 0 rfl ?_
      obtain ⟨v7, e_v7, hy⟩ := gBd hy
      refine g_getR K fl_c11_52 d_c11_later_30 e_v7 ?_
      refine g_iconst (v := 0) K d_c11_later_33 (by decide) ?_
      obtain ⟨q8, e_q8, hy⟩ := gBd hy
      refine g_callSv (rest := []) K hx ly_c11_lay ks_c11_253 d_c11_later_34 (ct_c11_lay M.2.1 X hx N v6 v7 (0 : Int32) h1 q8 e_q8) rfl rfl (Nat.le_of_ble_eq_true rfl) (gDep rfl) ⟨Nat.le_refl 0, Nat.le_refl 0⟩ ?_
      refine g_aload_n K d_c11_later_37 0 rfl ?_
      refine g_aload_n K d_c11_later_38 0 rfl ?_
      obtain ⟨v9, e_v9, hy⟩ := gBd hy
      refine g_getR K fl_c11_52 d_c11_later_39 e_v9 ?_
      refine g_iload_n K d_c11_later_42 2 rfl ?_
      obtain ⟨q10, e_q10, hy⟩ := gBd hy
      refine g_callVv (rest := []) K hx ly_c11_goSeasons kv_c11_264 d_c11_later_43 (ct_c11_goSeasons M.2.1 X hx N a0 v9 x2 q8 q10 e_q10) rfl rfl (Nat.le_of_ble_eq_true rfl) (gDep rfl) ⟨Nat.le_refl 0, Nat.le_refl 0⟩ ?_
      refine g_aload_n K d_c11_later_46 0 rfl ?_
      refine g_iconst (v := 0) K d_c11_later_47 (by decide) ?_
      obtain ⟨h11, e_h11, hy⟩ := gBd hy
      refine g_putI K fp_c11_98 d_c11_later_48 e_h11 ?_
      refine g_aload_n K d_c11_later_51 0 rfl ?_
      refine g_aload_n K d_c11_later_52 0 rfl ?_
      obtain ⟨v12, e_v12, hy⟩ := gBd hy
      refine g_getR K fl_c11_52 d_c11_later_53 e_v12 ?_
      obtain ⟨q13, e_q13, hy⟩ := gBd hy
      refine g_callSi (rest := [.ref a0]) K hx ly_c11_waters ks_c11_249 d_c11_later_56 (ct_c11_waters M.2.1 X hx N v12 h11 q13 e_q13) rfl rfl (Nat.le_of_ble_eq_true rfl) (gDep rfl) ⟨Nat.le_refl 0, Nat.le_refl 0⟩ ?_
      refine g_i2l K d_c11_later_59 ?_
      obtain ⟨q14, e_q14, hy⟩ := gBd hy
      refine g_callVv (rest := []) K hx ly_c11_tell kv_c11_268 d_c11_later_60 (ct_c11_tell M.2.1 X hx N a0 q13.toInt64 h11 q14 e_q14) rfl rfl (Nat.le_of_ble_eq_true rfl) (gDep rfl) ⟨Nat.le_refl 0, Nat.le_refl 0⟩ ?_
      refine g_aload_n K d_c11_later_63 0 rfl ?_
      refine g_aload_n K d_c11_later_64 0 rfl ?_
      obtain ⟨v15, e_v15, hy⟩ := gBd hy
      refine g_getR K fl_c11_52 d_c11_later_65 e_v15 ?_
      refine g_bipush (v := 42) K d_c11_later_68 (by decide) ?_
      obtain ⟨v16, e_v16, hy⟩ := gBd hy
      refine g_iald K d_c11_later_70 e_v16 ?_
      refine g_aload_n K d_c11_later_71 0 rfl ?_
      obtain ⟨v17, e_v17, hy⟩ := gBd hy
      refine g_getR K fl_c11_9 d_c11_later_72 e_v17 ?_
      refine g_bipush (v := 42) K d_c11_later_75 (by decide) ?_
      obtain ⟨v18, e_v18, hy⟩ := gBd hy
      refine g_iald K d_c11_later_77 e_v18 ?_
      refine g_isub K d_c11_later_78 ?_
      refine g_i2l K d_c11_later_79 ?_
      obtain ⟨q19, e_q19, hy⟩ := gBd hy
      refine g_callVv (rest := []) K hx ly_c11_tell kv_c11_268 d_c11_later_80 (ct_c11_tell M.2.1 X hx N a0 ((v16 - v18).toInt64) q14 q19 e_q19) rfl rfl (Nat.le_of_ble_eq_true rfl) (gDep rfl) ⟨Nat.le_refl 0, Nat.le_refl 0⟩ ?_
      refine g_aload_n K d_c11_later_83 0 rfl ?_
      obtain ⟨v20, e_v20, hy⟩ := gBd hy
      refine g_getR K fl_c11_52 d_c11_later_84 e_v20 ?_
      refine g_bipush (v := 32) K d_c11_later_87 (by decide) ?_
      refine g_iload_n K d_c11_later_89 1 rfl ?_
      refine g_iadd K d_c11_later_90 ?_
      obtain ⟨v21, e_v21, hy⟩ := gBd hy
      refine g_iald K d_c11_later_91 e_v21 ?_
      obtain rfl := Option.some.inj hy
      exact hret rfl _ _ _ d_c11_later_92
    · rw [if_pos c5] at hy
      refine g_iconst (v := (-1)) K d_c11_later_23 (by decide) ?_
      obtain rfl := Option.some.inj hy
      exact hret rfl _ _ _ d_c11_later_24
