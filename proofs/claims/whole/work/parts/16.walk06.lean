-- jStringLatin1 charAt
theorem d_jStringLatin1_charAt_0 : gD b_jStringLatin1_charAt 0 (.iload_n 1) 1 1 := ⟨by decide +kernel, rfl⟩
theorem d_jStringLatin1_charAt_1 : gD b_jStringLatin1_charAt 1 (.aload_n 0) 1 2 := ⟨by decide +kernel, rfl⟩
theorem d_jStringLatin1_charAt_2 : gD b_jStringLatin1_charAt 2 .arraylength 1 3 := ⟨by decide +kernel, rfl⟩
theorem d_jStringLatin1_charAt_3 : gD b_jStringLatin1_charAt 3 (.invokestatic 9) 3 6 := ⟨by decide +kernel, rfl⟩
theorem d_jStringLatin1_charAt_6 : gD b_jStringLatin1_charAt 6 (.aload_n 0) 1 7 := ⟨by decide +kernel, rfl⟩
theorem d_jStringLatin1_charAt_7 : gD b_jStringLatin1_charAt 7 (.iload_n 1) 1 8 := ⟨by decide +kernel, rfl⟩
theorem d_jStringLatin1_charAt_8 : gD b_jStringLatin1_charAt 8 .baload 1 9 := ⟨by decide +kernel, rfl⟩
theorem d_jStringLatin1_charAt_9 : gD b_jStringLatin1_charAt 9 (.sipush 255) 3 12 := ⟨by decide +kernel, rfl⟩
theorem d_jStringLatin1_charAt_12 : gD b_jStringLatin1_charAt 12 .iand 1 13 := ⟨by decide +kernel, rfl⟩
theorem d_jStringLatin1_charAt_13 : gD b_jStringLatin1_charAt 13 .i2c 1 14 := ⟨by decide +kernel, rfl⟩
theorem d_jStringLatin1_charAt_14 : gD b_jStringLatin1_charAt 14 .ireturn 1 15 := ⟨by decide +kernel, rfl⟩
def f_jStringLatin1_charAt (N : Nat) (a0 : Nat) (x1 : Int32) (h : gH) : Option (Int32) :=
  (gn h a0).bind fun v1 =>
    (f_jString_checkIndex N x1 v1 h).bind fun q2 =>
    (gaB h a0 x1).bind fun v3 =>
    (gNar .char (((v3 &&& (255 : Int32)).toUInt32 % 65536).toInt32)).bind fun w4 => some w4
set_option maxHeartbeats 4000000 in
set_option maxRecDepth 100000 in
theorem ct_jStringLatin1_charAt (l : Launch) (X : gX) (hx : gEx X = false) (N : Nat) (a0 : Nat) (x1 : Int32) (h : gH) (q : Int32) (hy : f_jStringLatin1_charAt N a0 x1 h = some q) : gMi l X y_jStringLatin1_charAt b_jStringLatin1_charAt 2 .char (3 + N) 0 0 [.ref a0, .int x1] h q h := by
  unfold f_jStringLatin1_charAt at hy
  refine gMet_i (lsx := [(0, .ref a0), (1, .int x1)]) (by decide) rfl rfl ?_
  intro M hMl K hret
  subst hMl
  refine g_iload_n K d_jStringLatin1_charAt_0 1 rfl ?_
  refine g_aload_n K d_jStringLatin1_charAt_1 0 rfl ?_
  obtain ⟨v1, e_v1, hy⟩ := gBd hy
  refine g_alen K d_jStringLatin1_charAt_2 e_v1 ?_
  obtain ⟨q2, e_q2, hy⟩ := gBd hy
  refine g_callSv (rest := []) K hx ly_jString_checkIndex ks_StringLatin1_9 d_jStringLatin1_charAt_3 (ct_jString_checkIndex M.2.1 X hx N x1 v1 h q2 e_q2) rfl rfl (Nat.le_of_ble_eq_true rfl) (gDep rfl) ⟨Nat.le_refl 0, Nat.le_refl 0⟩ ?_
  refine g_aload_n K d_jStringLatin1_charAt_6 0 rfl ?_
  refine g_iload_n K d_jStringLatin1_charAt_7 1 rfl ?_
  obtain ⟨v3, e_v3, hy⟩ := gBd hy
  refine g_bald K d_jStringLatin1_charAt_8 e_v3 ?_
  refine g_sipush (v := 255) K d_jStringLatin1_charAt_9 (by decide) ?_
  refine g_iand K d_jStringLatin1_charAt_12 ?_
  refine g_i2c K d_jStringLatin1_charAt_13 ?_
  obtain ⟨w4, e_w4, hy⟩ := gBd hy
  obtain ⟨z_w4, n_w4⟩ := gNar_spec e_w4
  rw [z_w4]
  obtain rfl := Option.some.inj hy
  exact hret (gNar_c n_w4) _ _ _ d_jStringLatin1_charAt_14
-- c0 passOne
theorem d_c0_passOne_0 : gD b_c0_passOne 0 (.iconst 0) 1 1 := ⟨by decide +kernel, rfl⟩
theorem d_c0_passOne_1 : gD b_c0_passOne 1 (.istore 4) 2 3 := ⟨by decide +kernel, rfl⟩
theorem d_c0_passOne_3 : gD b_c0_passOne 3 (.iload 4) 2 5 := ⟨by decide +kernel, rfl⟩
theorem d_c0_passOne_5 : gD b_c0_passOne 5 (.aload_n 1) 1 6 := ⟨by decide +kernel, rfl⟩
theorem d_c0_passOne_6 : gD b_c0_passOne 6 (.getfield 28) 3 9 := ⟨by decide +kernel, rfl⟩
theorem d_c0_passOne_9 : gJ b_c0_passOne 9 (.if_icmp .ge 37) 3 37 12 46 := ⟨by decide +kernel, rfl, by decide⟩
theorem d_c0_passOne_12 : gD b_c0_passOne 12 (.aload_n 1) 1 13 := ⟨by decide +kernel, rfl⟩
theorem d_c0_passOne_13 : gD b_c0_passOne 13 (.getfield 31) 3 16 := ⟨by decide +kernel, rfl⟩
theorem d_c0_passOne_16 : gD b_c0_passOne 16 (.iload 4) 2 18 := ⟨by decide +kernel, rfl⟩
theorem d_c0_passOne_18 : gD b_c0_passOne 18 (.aload_n 1) 1 19 := ⟨by decide +kernel, rfl⟩
theorem d_c0_passOne_19 : gD b_c0_passOne 19 (.getfield 31) 3 22 := ⟨by decide +kernel, rfl⟩
theorem d_c0_passOne_22 : gD b_c0_passOne 22 (.iload 4) 2 24 := ⟨by decide +kernel, rfl⟩
theorem d_c0_passOne_24 : gD b_c0_passOne 24 .iaload 1 25 := ⟨by decide +kernel, rfl⟩
theorem d_c0_passOne_25 : gD b_c0_passOne 25 (.aload_n 3) 1 26 := ⟨by decide +kernel, rfl⟩
theorem d_c0_passOne_26 : gD b_c0_passOne 26 (.aload_n 1) 1 27 := ⟨by decide +kernel, rfl⟩
theorem d_c0_passOne_27 : gD b_c0_passOne 27 (.iload 4) 2 29 := ⟨by decide +kernel, rfl⟩
theorem d_c0_passOne_29 : gD b_c0_passOne 29 (.aload_n 2) 1 30 := ⟨by decide +kernel, rfl⟩
theorem d_c0_passOne_30 : gD b_c0_passOne 30 (.invokevirtual 34) 3 33 := ⟨by decide +kernel, rfl⟩
theorem d_c0_passOne_33 : gD b_c0_passOne 33 .iadd 1 34 := ⟨by decide +kernel, rfl⟩
theorem d_c0_passOne_34 : gD b_c0_passOne 34 (.bipush 99) 2 36 := ⟨by decide +kernel, rfl⟩
theorem d_c0_passOne_36 : gD b_c0_passOne 36 (.invokestatic 40) 3 39 := ⟨by decide +kernel, rfl⟩
theorem d_c0_passOne_39 : gD b_c0_passOne 39 .iastore 1 40 := ⟨by decide +kernel, rfl⟩
theorem d_c0_passOne_40 : gD b_c0_passOne 40 (.iinc 4 1) 3 43 := ⟨by decide +kernel, rfl⟩
theorem d_c0_passOne_43 : gJ b_c0_passOne 43 (.goto (-40)) 3 (-40) 46 3 := ⟨by decide +kernel, rfl, by decide⟩
theorem d_c0_passOne_46 : gD b_c0_passOne 46 (.iconst 0) 1 47 := ⟨by decide +kernel, rfl⟩
theorem d_c0_passOne_47 : gD b_c0_passOne 47 (.istore 4) 2 49 := ⟨by decide +kernel, rfl⟩
theorem d_c0_passOne_49 : gD b_c0_passOne 49 (.iload 4) 2 51 := ⟨by decide +kernel, rfl⟩
theorem d_c0_passOne_51 : gD b_c0_passOne 51 (.aload_n 2) 1 52 := ⟨by decide +kernel, rfl⟩
theorem d_c0_passOne_52 : gD b_c0_passOne 52 (.getfield 44) 3 55 := ⟨by decide +kernel, rfl⟩
theorem d_c0_passOne_55 : gJ b_c0_passOne 55 (.if_icmp .ge 118) 3 118 58 173 := ⟨by decide +kernel, rfl, by decide⟩
theorem d_c0_passOne_58 : gD b_c0_passOne 58 (.aload_n 1) 1 59 := ⟨by decide +kernel, rfl⟩
theorem d_c0_passOne_59 : gD b_c0_passOne 59 (.aload_n 2) 1 60 := ⟨by decide +kernel, rfl⟩
theorem d_c0_passOne_60 : gD b_c0_passOne 60 (.aload_n 2) 1 61 := ⟨by decide +kernel, rfl⟩
theorem d_c0_passOne_61 : gD b_c0_passOne 61 (.getfield 49) 3 64 := ⟨by decide +kernel, rfl⟩
theorem d_c0_passOne_64 : gD b_c0_passOne 64 (.iload 4) 2 66 := ⟨by decide +kernel, rfl⟩
theorem d_c0_passOne_66 : gD b_c0_passOne 66 .iaload 1 67 := ⟨by decide +kernel, rfl⟩
theorem d_c0_passOne_67 : gD b_c0_passOne 67 (.invokevirtual 52) 3 70 := ⟨by decide +kernel, rfl⟩
theorem d_c0_passOne_70 : gD b_c0_passOne 70 (.istore 5) 2 72 := ⟨by decide +kernel, rfl⟩
theorem d_c0_passOne_72 : gD b_c0_passOne 72 (.iload 5) 2 74 := ⟨by decide +kernel, rfl⟩
theorem d_c0_passOne_74 : gJ b_c0_passOne 74 (.ifCond .ge 7) 3 7 77 81 := ⟨by decide +kernel, rfl, by decide⟩
theorem d_c0_passOne_77 : gD b_c0_passOne 77 (.iconst 0) 1 78 := ⟨by decide +kernel, rfl⟩
theorem d_c0_passOne_78 : gJ b_c0_passOne 78 (.goto 20) 3 20 81 98 := ⟨by decide +kernel, rfl, by decide⟩
theorem d_c0_passOne_81 : gD b_c0_passOne 81 (.aload_n 2) 1 82 := ⟨by decide +kernel, rfl⟩
theorem d_c0_passOne_82 : gD b_c0_passOne 82 (.getfield 56) 3 85 := ⟨by decide +kernel, rfl⟩
theorem d_c0_passOne_85 : gD b_c0_passOne 85 (.iload 4) 2 87 := ⟨by decide +kernel, rfl⟩
theorem d_c0_passOne_87 : gD b_c0_passOne 87 .iaload 1 88 := ⟨by decide +kernel, rfl⟩
theorem d_c0_passOne_88 : gD b_c0_passOne 88 (.aload_n 1) 1 89 := ⟨by decide +kernel, rfl⟩
theorem d_c0_passOne_89 : gD b_c0_passOne 89 (.getfield 31) 3 92 := ⟨by decide +kernel, rfl⟩
theorem d_c0_passOne_92 : gD b_c0_passOne 92 (.iload 5) 2 94 := ⟨by decide +kernel, rfl⟩
theorem d_c0_passOne_94 : gD b_c0_passOne 94 .iaload 1 95 := ⟨by decide +kernel, rfl⟩
theorem d_c0_passOne_95 : gD b_c0_passOne 95 (.invokestatic 59) 3 98 := ⟨by decide +kernel, rfl⟩
theorem d_c0_passOne_98 : gD b_c0_passOne 98 (.istore 6) 2 100 := ⟨by decide +kernel, rfl⟩
theorem d_c0_passOne_100 : gD b_c0_passOne 100 (.iload 5) 2 102 := ⟨by decide +kernel, rfl⟩
theorem d_c0_passOne_102 : gJ b_c0_passOne 102 (.ifCond .lt 15) 3 15 105 117 := ⟨by decide +kernel, rfl, by decide⟩
theorem d_c0_passOne_105 : gD b_c0_passOne 105 (.aload_n 1) 1 106 := ⟨by decide +kernel, rfl⟩
theorem d_c0_passOne_106 : gD b_c0_passOne 106 (.getfield 31) 3 109 := ⟨by decide +kernel, rfl⟩
theorem d_c0_passOne_109 : gD b_c0_passOne 109 (.iload 5) 2 111 := ⟨by decide +kernel, rfl⟩
theorem d_c0_passOne_111 : gD b_c0_passOne 111 .dup2 1 112 := ⟨by decide +kernel, rfl⟩
theorem d_c0_passOne_112 : gD b_c0_passOne 112 .iaload 1 113 := ⟨by decide +kernel, rfl⟩
theorem d_c0_passOne_113 : gD b_c0_passOne 113 (.iload 6) 2 115 := ⟨by decide +kernel, rfl⟩
theorem d_c0_passOne_115 : gD b_c0_passOne 115 .isub 1 116 := ⟨by decide +kernel, rfl⟩
theorem d_c0_passOne_116 : gD b_c0_passOne 116 .iastore 1 117 := ⟨by decide +kernel, rfl⟩
theorem d_c0_passOne_117 : gD b_c0_passOne 117 (.iload 6) 2 119 := ⟨by decide +kernel, rfl⟩
theorem d_c0_passOne_119 : gD b_c0_passOne 119 (.aload_n 2) 1 120 := ⟨by decide +kernel, rfl⟩
theorem d_c0_passOne_120 : gD b_c0_passOne 120 (.getfield 56) 3 123 := ⟨by decide +kernel, rfl⟩
theorem d_c0_passOne_123 : gD b_c0_passOne 123 (.iload 4) 2 125 := ⟨by decide +kernel, rfl⟩
theorem d_c0_passOne_125 : gD b_c0_passOne 125 .iaload 1 126 := ⟨by decide +kernel, rfl⟩
theorem d_c0_passOne_126 : gJ b_c0_passOne 126 (.if_icmp .ge 23) 3 23 129 149 := ⟨by decide +kernel, rfl, by decide⟩
theorem d_c0_passOne_129 : gD b_c0_passOne 129 (.aload_n 1) 1 130 := ⟨by decide +kernel, rfl⟩
theorem d_c0_passOne_130 : gD b_c0_passOne 130 (.getfield 18) 3 133 := ⟨by decide +kernel, rfl⟩
theorem d_c0_passOne_133 : gD b_c0_passOne 133 (.sipush 9999) 3 136 := ⟨by decide +kernel, rfl⟩
theorem d_c0_passOne_136 : gJ b_c0_passOne 136 (.if_icmp .ge 13) 3 13 139 149 := ⟨by decide +kernel, rfl, by decide⟩
theorem d_c0_passOne_139 : gD b_c0_passOne 139 (.aload_n 1) 1 140 := ⟨by decide +kernel, rfl⟩
theorem d_c0_passOne_140 : gD b_c0_passOne 140 .dup 1 141 := ⟨by decide +kernel, rfl⟩
theorem d_c0_passOne_141 : gD b_c0_passOne 141 (.getfield 18) 3 144 := ⟨by decide +kernel, rfl⟩
theorem d_c0_passOne_144 : gD b_c0_passOne 144 (.iconst 1) 1 145 := ⟨by decide +kernel, rfl⟩
theorem d_c0_passOne_145 : gD b_c0_passOne 145 .iadd 1 146 := ⟨by decide +kernel, rfl⟩
theorem d_c0_passOne_146 : gD b_c0_passOne 146 (.putfield 18) 3 149 := ⟨by decide +kernel, rfl⟩
theorem d_c0_passOne_149 : gD b_c0_passOne 149 (.aload_n 0) 1 150 := ⟨by decide +kernel, rfl⟩
theorem d_c0_passOne_150 : gD b_c0_passOne 150 (.getfield 9) 3 153 := ⟨by decide +kernel, rfl⟩
theorem d_c0_passOne_153 : gD b_c0_passOne 153 (.iload 4) 2 155 := ⟨by decide +kernel, rfl⟩
theorem d_c0_passOne_155 : gD b_c0_passOne 155 (.iload 6) 2 157 := ⟨by decide +kernel, rfl⟩
theorem d_c0_passOne_157 : gD b_c0_passOne 157 .iastore 1 158 := ⟨by decide +kernel, rfl⟩
theorem d_c0_passOne_158 : gD b_c0_passOne 158 (.aload_n 0) 1 159 := ⟨by decide +kernel, rfl⟩
theorem d_c0_passOne_159 : gD b_c0_passOne 159 (.getfield 15) 3 162 := ⟨by decide +kernel, rfl⟩
theorem d_c0_passOne_162 : gD b_c0_passOne 162 (.iload 4) 2 164 := ⟨by decide +kernel, rfl⟩
theorem d_c0_passOne_164 : gD b_c0_passOne 164 (.iload 5) 2 166 := ⟨by decide +kernel, rfl⟩
theorem d_c0_passOne_166 : gD b_c0_passOne 166 .iastore 1 167 := ⟨by decide +kernel, rfl⟩
theorem d_c0_passOne_167 : gD b_c0_passOne 167 (.iinc 4 1) 3 170 := ⟨by decide +kernel, rfl⟩
theorem d_c0_passOne_170 : gJ b_c0_passOne 170 (.goto (-121)) 3 (-121) 173 49 := ⟨by decide +kernel, rfl, by decide⟩
theorem d_c0_passOne_173 : gD b_c0_passOne 173 (.aload_n 1) 1 174 := ⟨by decide +kernel, rfl⟩
theorem d_c0_passOne_174 : gD b_c0_passOne 174 .dup 1 175 := ⟨by decide +kernel, rfl⟩
theorem d_c0_passOne_175 : gD b_c0_passOne 175 (.getfield 64) 3 178 := ⟨by decide +kernel, rfl⟩
theorem d_c0_passOne_178 : gD b_c0_passOne 178 (.iconst 1) 1 179 := ⟨by decide +kernel, rfl⟩
theorem d_c0_passOne_179 : gD b_c0_passOne 179 .iadd 1 180 := ⟨by decide +kernel, rfl⟩
theorem d_c0_passOne_180 : gD b_c0_passOne 180 (.putfield 64) 3 183 := ⟨by decide +kernel, rfl⟩
theorem d_c0_passOne_183 : gD b_c0_passOne 183 .return_ 1 184 := ⟨by decide +kernel, rfl⟩
def lp_c0_passOne_3 (N : Nat) (a1 : Nat) (a2 : Nat) (a3 : Nat) : Nat → Int32 → gH → Option (gH)
  | 0, _, _ => none
  | k + 1, x4, h =>
  (gfI h a1 7 0).bind fun v1 =>
    if v1 ≤ x4 then
    some h
  else
    (gfR h a1 7 5).bind fun v3 =>
    (gfR h a1 7 5).bind fun v4 =>
    (ga 0 h v4 x4).bind fun v5 =>
    (f_c6_flow N a3 a1 x4 a2 h).bind fun q6 =>
    (f_c10_put N (v5 + q6.1) (99 : Int32) q6.2).bind fun q7 =>
    (sa 0 q6.2 v3 x4 q7).bind fun h8 =>
    lp_c0_passOne_3 N a1 a2 a3 k (x4 + (1 : Int32)) h8
def lp_c0_passOne_49 (N : Nat) (a0 : Nat) (a1 : Nat) (a2 : Nat) : Nat → Int32 → gH → Option (gH)
  | 0, _, _ => none
  | k + 1, x4, h =>
  (gfI h a2 1 2).bind fun v10 =>
    if v10 ≤ x4 then
    some h
  else
    (gfR h a2 1 3).bind fun v12 =>
    (ga 0 h v12 x4).bind fun v13 =>
    (f_c7_nearestWater N a1 a2 v13 h).bind fun q14 =>
    (show Option (Int32) from if 0 ≤ q14 then
    (gfR h a2 1 4).bind fun v37 =>
    (ga 0 h v37 x4).bind fun v38 =>
    (gfR h a1 7 5).bind fun v39 =>
    (ga 0 h v39 q14).bind fun v40 =>
    some (gmin v38 v40)
  else
    some (0 : Int32)).bind fun t16 =>
    (show Option (gH) from if q14 < 0 then
    some h
  else
    (gfR h a1 7 5).bind fun v34 =>
    (ga 0 h v34 q14).bind fun v35 =>
    (sa 0 h v34 q14 (v35 - t16)).bind fun h36 =>
    some h36).bind fun t19 =>
    (gfR t19 a2 1 4).bind fun v21 =>
    (ga 0 t19 v21 x4).bind fun v22 =>
    (show Option (gH) from if v22 ≤ t16 then
    some t19
  else
    (gfI t19 a1 7 7).bind fun v30 =>
    if (9999 : Int32) ≤ v30 then
    some t19
  else
    (gfI t19 a1 7 7).bind fun v32 =>
    (sf t19 a1 7 7 (.int (v32 + (1 : Int32)))).bind fun h33 =>
    some h33).bind fun t24 =>
    (gfR t24 a0 0 0).bind fun v26 =>
    (sa 0 t24 v26 x4 t16).bind fun h27 =>
    (gfR h27 a0 0 1).bind fun v28 =>
    (sa 0 h27 v28 x4 q14).bind fun h29 =>
    lp_c0_passOne_49 N a0 a1 a2 k (x4 + (1 : Int32)) h29
def f_c0_passOne (N : Nat) (a0 : Nat) (a1 : Nat) (a2 : Nat) (a3 : Nat) (h : gH) : Option (gH) :=
  (gcl h a0 0).bind fun _ =>
  (lp_c0_passOne_3 N a1 a2 a3 N (0 : Int32) h).bind fun o9 =>
    (lp_c0_passOne_49 N a0 a1 a2 N (0 : Int32) o9).bind fun o41 =>
    (gfI o41 a1 7 6).bind fun v42 =>
    (sf o41 a1 7 6 (.int (v42 + (1 : Int32)))).bind fun h43 =>
    some h43
set_option maxHeartbeats 4000000 in
set_option maxRecDepth 100000 in
theorem wlp_c0_passOne_3 {M : gM} {X : gX} {N : Nat} (hx : gEx X = false) (K : gC M X gN0 b_c0_passOne 7 (gRm (4 + N) 0 0)) (a1 : Nat) (a2 : Nat) (a3 : Nat) (a0 : Nat) : ∀ (k : Nat) (x4 : Int32) (h : gH) (o : gH), lp_c0_passOne_3 N a1 a2 a3 k x4 h = some o → gG M X 7 0 0 46 [(0, .ref a0), (1, .ref a1), (2, .ref a2)] [] o → gG M X 7 0 0 3 [(0, .ref a0), (1, .ref a1), (2, .ref a2), (3, .ref a3), (4, .int x4)] [] h := by
  intro k
  induction k with
  | zero =>
    intro x4 h o hy
    rw [lp_c0_passOne_3.eq_1] at hy
    cases hy
  | succ k ih =>
    intro x4 h o hy hE
    rw [lp_c0_passOne_3.eq_2] at hy
    refine g_iload K d_c0_passOne_3 4 rfl ?_
    refine g_aload_n K d_c0_passOne_5 1 rfl ?_
    obtain ⟨v1, e_v1, hy⟩ := gBd hy
    refine g_getI K fl_c0_28 d_c0_passOne_6 e_v1 ?_
    refine g_icmp_ge K d_c0_passOne_9 (fun c2 => ?_) (fun c2 => ?_)
    · rw [if_pos c2] at hy
      refine g_sub (ls2 := [(0, .ref a0), (1, .ref a1), (2, .ref a2)]) [0, 1, 2] rfl ?_
      obtain rfl := Option.some.inj hy
      exact hE
    · rw [if_neg c2] at hy
      refine g_aload_n K d_c0_passOne_12 1 rfl ?_
      obtain ⟨v3, e_v3, hy⟩ := gBd hy
      refine g_getR K fl_c0_31 d_c0_passOne_13 e_v3 ?_
      refine g_iload K d_c0_passOne_16 4 rfl ?_
      refine g_aload_n K d_c0_passOne_18 1 rfl ?_
      obtain ⟨v4, e_v4, hy⟩ := gBd hy
      refine g_getR K fl_c0_31 d_c0_passOne_19 e_v4 ?_
      refine g_iload K d_c0_passOne_22 4 rfl ?_
      obtain ⟨v5, e_v5, hy⟩ := gBd hy
      refine g_iald K d_c0_passOne_24 e_v5 ?_
      refine g_aload_n K d_c0_passOne_25 3 rfl ?_
      refine g_aload_n K d_c0_passOne_26 1 rfl ?_
      refine g_iload K d_c0_passOne_27 4 rfl ?_
      refine g_aload_n K d_c0_passOne_29 2 rfl ?_
      obtain ⟨q6, e_q6, hy⟩ := gBd hy
      refine g_callVi (rest := [.int v5, .int x4, .ref v3]) K hx ly_c6_flow kv_c0_34 d_c0_passOne_30 (ct_c6_flow M.2.1 X hx N a3 a1 x4 a2 h q6 e_q6) rfl rfl (Nat.le_of_ble_eq_true rfl) (gDep rfl) ⟨Nat.le_refl 0, Nat.le_refl 0⟩ ?_
      refine g_iadd K d_c0_passOne_33 ?_
      refine g_bipush (v := 99) K d_c0_passOne_34 (by decide) ?_
      obtain ⟨q7, e_q7, hy⟩ := gBd hy
      refine g_callSi (rest := [.int x4, .ref v3]) K hx ly_c10_put ks_c0_40 d_c0_passOne_36 (ct_c10_put M.2.1 X hx N (v5 + q6.1) (99 : Int32) q6.2 q7 e_q7) rfl rfl (Nat.le_of_ble_eq_true rfl) (gDep rfl) ⟨Nat.le_refl 0, Nat.le_refl 0⟩ ?_
      obtain ⟨h8, e_h8, hy⟩ := gBd hy
      refine g_iast K d_c0_passOne_39 e_h8 ?_
      refine g_iinc (ls2 := [(4, .int (x4 + (1 : Int32))), (0, .ref a0), (1, .ref a1), (2, .ref a2), (3, .ref a3)]) (v := 1) K d_c0_passOne_40 4 rfl (by decide) rfl rfl ?_
      refine g_goto K d_c0_passOne_43 ?_
      refine g_sub (ls2 := [(0, .ref a0), (1, .ref a1), (2, .ref a2), (3, .ref a3), (4, .int (x4 + (1 : Int32)))]) [1, 2, 3, 4, 0] rfl ?_
      exact ih _ _ _ hy hE
set_option maxHeartbeats 4000000 in
set_option maxRecDepth 100000 in
theorem wlp_c0_passOne_49 {M : gM} {X : gX} {N : Nat} (hx : gEx X = false) (K : gC M X gN0 b_c0_passOne 7 (gRm (4 + N) 0 0)) (a0 : Nat) (a1 : Nat) (a2 : Nat) : ∀ (k : Nat) (x4 : Int32) (h : gH) (o : gH), lp_c0_passOne_49 N a0 a1 a2 k x4 h = some o → gG M X 7 0 0 173 [(1, .ref a1)] [] o → gG M X 7 0 0 49 [(0, .ref a0), (1, .ref a1), (2, .ref a2), (4, .int x4)] [] h := by
  intro k
  induction k with
  | zero =>
    intro x4 h o hy
    rw [lp_c0_passOne_49.eq_1] at hy
    cases hy
  | succ k ih =>
    intro x4 h o hy hE
    rw [lp_c0_passOne_49.eq_2] at hy
    refine g_iload K d_c0_passOne_49 3 rfl ?_
    refine g_aload_n K d_c0_passOne_51 2 rfl ?_
    obtain ⟨v10, e_v10, hy⟩ := gBd hy
    refine g_getI K fl_c0_44 d_c0_passOne_52 e_v10 ?_
    refine g_icmp_ge K d_c0_passOne_55 (fun c11 => ?_) (fun c11 => ?_)
    · rw [if_pos c11] at hy
      refine g_sub (ls2 := [(1, .ref a1)]) [1] rfl ?_
      obtain rfl := Option.some.inj hy
      exact hE
    · rw [if_neg c11] at hy
      refine g_aload_n K d_c0_passOne_58 1 rfl ?_
      refine g_aload_n K d_c0_passOne_59 2 rfl ?_
      refine g_aload_n K d_c0_passOne_60 2 rfl ?_
      obtain ⟨v12, e_v12, hy⟩ := gBd hy
      refine g_getR K fl_c0_49 d_c0_passOne_61 e_v12 ?_
      refine g_iload K d_c0_passOne_64 3 rfl ?_
      obtain ⟨v13, e_v13, hy⟩ := gBd hy
      refine g_iald K d_c0_passOne_66 e_v13 ?_
      obtain ⟨q14, e_q14, hy⟩ := gBd hy
      refine g_callVi (rest := []) K hx ly_c7_nearestWater kv_c0_52 d_c0_passOne_67 (ct_c7_nearestWater M.2.1 X hx N a1 a2 v13 h q14 e_q14) rfl rfl (Nat.le_of_ble_eq_true rfl) (gDep rfl) ⟨Nat.le_refl 0, Nat.le_refl 0⟩ ?_
      refine g_istore (ls2 := [(5, .int q14), (0, .ref a0), (1, .ref a1), (2, .ref a2), (4, .int x4)]) K d_c0_passOne_70 rfl rfl ?_
      refine g_iload K d_c0_passOne_72 0 rfl ?_
      obtain ⟨t16, e_t16, hy⟩ := gBd hy
      have hJ17 : gG M X 7 0 0 98 [(0, .ref a0), (1, .ref a1), (2, .ref a2), (4, .int x4), (5, .int q14)] [.int t16] h := by
        refine g_istore (ls2 := [(6, .int t16), (0, .ref a0), (1, .ref a1), (2, .ref a2), (4, .int x4), (5, .int q14)]) K d_c0_passOne_98 rfl rfl ?_
        refine g_iload K d_c0_passOne_100 5 rfl ?_
        obtain ⟨t19, e_t19, hy⟩ := gBd hy
        have hJ20 : gG M X 7 0 0 117 [(0, .ref a0), (1, .ref a1), (2, .ref a2), (4, .int x4), (5, .int q14), (6, .int t16)] [] t19 := by
          refine g_iload K d_c0_passOne_117 5 rfl ?_
          refine g_aload_n K d_c0_passOne_119 2 rfl ?_
          obtain ⟨v21, e_v21, hy⟩ := gBd hy
          refine g_getR K fl_c0_56 d_c0_passOne_120 e_v21 ?_
          refine g_iload K d_c0_passOne_123 3 rfl ?_
          obtain ⟨v22, e_v22, hy⟩ := gBd hy
          refine g_iald K d_c0_passOne_125 e_v22 ?_
          obtain ⟨t24, e_t24, hy⟩ := gBd hy
          have hJ25 : gG M X 7 0 0 149 [(0, .ref a0), (1, .ref a1), (2, .ref a2), (4, .int x4), (5, .int q14), (6, .int t16)] [] t24 := by
            refine g_aload_n K d_c0_passOne_149 0 rfl ?_
            obtain ⟨v26, e_v26, hy⟩ := gBd hy
            refine g_getR K fl_c0_9 d_c0_passOne_150 e_v26 ?_
            refine g_iload K d_c0_passOne_153 3 rfl ?_
            refine g_iload K d_c0_passOne_155 5 rfl ?_
            obtain ⟨h27, e_h27, hy⟩ := gBd hy
            refine g_iast K d_c0_passOne_157 e_h27 ?_
            refine g_aload_n K d_c0_passOne_158 0 rfl ?_
            obtain ⟨v28, e_v28, hy⟩ := gBd hy
            refine g_getR K fl_c0_15 d_c0_passOne_159 e_v28 ?_
            refine g_iload K d_c0_passOne_162 3 rfl ?_
            refine g_iload K d_c0_passOne_164 4 rfl ?_
            obtain ⟨h29, e_h29, hy⟩ := gBd hy
            refine g_iast K d_c0_passOne_166 e_h29 ?_
            refine g_iinc (ls2 := [(4, .int (x4 + (1 : Int32))), (0, .ref a0), (1, .ref a1), (2, .ref a2), (5, .int q14), (6, .int t16)]) (v := 1) K d_c0_passOne_167 3 rfl (by decide) rfl rfl ?_
            refine g_goto K d_c0_passOne_170 ?_
            refine g_sub (ls2 := [(0, .ref a0), (1, .ref a1), (2, .ref a2), (4, .int (x4 + (1 : Int32)))]) [1, 2, 3, 0] rfl ?_
            exact ih _ _ _ hy hE
          refine g_icmp_ge K d_c0_passOne_126 (fun c23 => ?_) (fun c23 => ?_)
          · rw [if_pos c23] at e_t24
            obtain rfl := Option.some.inj e_t24
            exact hJ25
          · rw [if_neg c23] at e_t24
            refine g_aload_n K d_c0_passOne_129 1 rfl ?_
            obtain ⟨v30, e_v30, e_t24⟩ := gBd e_t24
            refine g_getI K fl_c0_18 d_c0_passOne_130 e_v30 ?_
            refine g_sipush (v := 9999) K d_c0_passOne_133 (by decide) ?_
            refine g_icmp_ge K d_c0_passOne_136 (fun c31 => ?_) (fun c31 => ?_)
            · rw [if_pos c31] at e_t24
              obtain rfl := Option.some.inj e_t24
              exact hJ25
            · rw [if_neg c31] at e_t24
              refine g_aload_n K d_c0_passOne_139 1 rfl ?_
              refine g_dup K d_c0_passOne_140 rfl ?_
              obtain ⟨v32, e_v32, e_t24⟩ := gBd e_t24
              refine g_getI K fl_c0_18 d_c0_passOne_141 e_v32 ?_
              refine g_iconst (v := 1) K d_c0_passOne_144 (by decide) ?_
              refine g_iadd K d_c0_passOne_145 ?_
              obtain ⟨h33, e_h33, e_t24⟩ := gBd e_t24
              refine g_putI K fp_c0_18 d_c0_passOne_146 e_h33 ?_
              obtain rfl := Option.some.inj e_t24
              exact hJ25
        refine g_if_lt K d_c0_passOne_102 (fun c18 => ?_) (fun c18 => ?_)
        · rw [if_pos c18] at e_t19
          refine g_sub (ls2 := [(0, .ref a0), (1, .ref a1), (2, .ref a2), (4, .int x4), (5, .int q14), (6, .int t16)]) [1, 2, 3, 4, 5, 0] rfl ?_
          obtain rfl := Option.some.inj e_t19
          exact hJ20
        · rw [if_neg c18] at e_t19
          refine g_aload_n K d_c0_passOne_105 2 rfl ?_
          obtain ⟨v34, e_v34, e_t19⟩ := gBd e_t19
          refine g_getR K fl_c0_31 d_c0_passOne_106 e_v34 ?_
          refine g_iload K d_c0_passOne_109 5 rfl ?_
          refine g_dup2 K d_c0_passOne_111 rfl rfl ?_
          obtain ⟨v35, e_v35, e_t19⟩ := gBd e_t19
          refine g_iald K d_c0_passOne_112 e_v35 ?_
          refine g_iload K d_c0_passOne_113 0 rfl ?_
          refine g_isub K d_c0_passOne_115 ?_
          obtain ⟨h36, e_h36, e_t19⟩ := gBd e_t19
          refine g_iast K d_c0_passOne_116 e_h36 ?_
          refine g_sub (ls2 := [(0, .ref a0), (1, .ref a1), (2, .ref a2), (4, .int x4), (5, .int q14), (6, .int t16)]) [1, 2, 3, 4, 5, 0] rfl ?_
          obtain rfl := Option.some.inj e_t19
          exact hJ20
      refine g_if_ge K d_c0_passOne_74 (fun c15 => ?_) (fun c15 => ?_)
      · rw [if_pos c15] at e_t16
        refine g_aload_n K d_c0_passOne_81 3 rfl ?_
        obtain ⟨v37, e_v37, e_t16⟩ := gBd e_t16
        refine g_getR K fl_c0_56 d_c0_passOne_82 e_v37 ?_
        refine g_iload K d_c0_passOne_85 4 rfl ?_
        obtain ⟨v38, e_v38, e_t16⟩ := gBd e_t16
        refine g_iald K d_c0_passOne_87 e_v38 ?_
        refine g_aload_n K d_c0_passOne_88 2 rfl ?_
        obtain ⟨v39, e_v39, e_t16⟩ := gBd e_t16
        refine g_getR K fl_c0_31 d_c0_passOne_89 e_v39 ?_
        refine g_iload K d_c0_passOne_92 0 rfl ?_
        obtain ⟨v40, e_v40, e_t16⟩ := gBd e_t16
        refine g_iald K d_c0_passOne_94 e_v40 ?_
        refine g_mmin K d_c0_passOne_95 (gTk_3 45 rfl rfl) (gTk_2 41 rfl rfl) (gTk_1 12 rfl rfl) (gTk_2 42 rfl rfl) (gDep1 rfl) (Nat.le_of_ble_eq_true rfl) ⟨Nat.le_refl 0, Nat.le_refl 0⟩ ?_
        refine g_sub (ls2 := [(0, .ref a0), (1, .ref a1), (2, .ref a2), (4, .int x4), (5, .int q14)]) [1, 2, 3, 4, 0] rfl ?_
        obtain rfl := Option.some.inj e_t16
        exact hJ17
      · rw [if_neg c15] at e_t16
        refine g_iconst (v := 0) K d_c0_passOne_77 (by decide) ?_
        refine g_goto K d_c0_passOne_78 ?_
        refine g_sub (ls2 := [(0, .ref a0), (1, .ref a1), (2, .ref a2), (4, .int x4), (5, .int q14)]) [1, 2, 3, 4, 0] rfl ?_
        obtain rfl := Option.some.inj e_t16
        exact hJ17
set_option maxHeartbeats 4000000 in
set_option maxRecDepth 100000 in
theorem ct_c0_passOne (l : Launch) (X : gX) (hx : gEx X = false) (N : Nat) (a0 : Nat) (a1 : Nat) (a2 : Nat) (a3 : Nat) (h : gH) (q : gH) (hy : f_c0_passOne N a0 a1 a2 a3 h = some q) : gRc y_c0_passOne h a0 ∧ gMv l X y_c0_passOne b_c0_passOne 7 (4 + N) 0 0 [.ref a0, .ref a1, .ref a2, .ref a3] h q := by
  unfold f_c0_passOne at hy
  obtain ⟨u0, e_u0, hy⟩ := gBd hy
  cases u0
  refine ⟨Or.inl ⟨0, _, _, e_u0, rfl⟩, gMet_v (lsx := [(0, .ref a0), (1, .ref a1), (2, .ref a2), (3, .ref a3)]) (by decide) rfl rfl ?_⟩
  intro M hMl K hret
  subst hMl
  refine g_iconst (v := 0) K d_c0_passOne_0 (by decide) ?_
  refine g_istore (ls2 := [(4, .int (0 : Int32)), (0, .ref a0), (1, .ref a1), (2, .ref a2), (3, .ref a3)]) K d_c0_passOne_1 rfl rfl ?_
  obtain ⟨o9, e_o9, hy⟩ := gBd hy
  refine g_sub (ls2 := [(0, .ref a0), (1, .ref a1), (2, .ref a2), (3, .ref a3), (4, .int (0 : Int32))]) [1, 2, 3, 4, 0] rfl ?_
  refine wlp_c0_passOne_3 hx K a1 a2 a3 a0 N (0 : Int32) h o9 e_o9 ?_
  refine g_iconst (v := 0) K d_c0_passOne_46 (by decide) ?_
  refine g_istore (ls2 := [(4, .int (0 : Int32)), (0, .ref a0), (1, .ref a1), (2, .ref a2)]) K d_c0_passOne_47 rfl rfl ?_
  obtain ⟨o41, e_o41, hy⟩ := gBd hy
  refine g_sub (ls2 := [(0, .ref a0), (1, .ref a1), (2, .ref a2), (4, .int (0 : Int32))]) [1, 2, 3, 0] rfl ?_
  refine wlp_c0_passOne_49 hx K a0 a1 a2 N (0 : Int32) o9 o41 e_o41 ?_
  refine g_aload_n K d_c0_passOne_173 0 rfl ?_
  refine g_dup K d_c0_passOne_174 rfl ?_
  obtain ⟨v42, e_v42, hy⟩ := gBd hy
  refine g_getI K fl_c0_64 d_c0_passOne_175 e_v42 ?_
  refine g_iconst (v := 1) K d_c0_passOne_178 (by decide) ?_
  refine g_iadd K d_c0_passOne_179 ?_
  obtain ⟨h43, e_h43, hy⟩ := gBd hy
  refine g_putI K fp_c0_64 d_c0_passOne_180 e_h43 ?_
  obtain rfl := Option.some.inj hy
  exact hret _ _ _ d_c0_passOne_183
-- c10 again
theorem d_c10_again_0 : gD b_c10_again 0 (.aload_n 0) 1 1 := ⟨by decide +kernel, rfl⟩
theorem d_c10_again_1 : gD b_c10_again 1 (.getfield 53) 3 4 := ⟨by decide +kernel, rfl⟩
theorem d_c10_again_4 : gD b_c10_again 4 (.iload_n 1) 1 5 := ⟨by decide +kernel, rfl⟩
theorem d_c10_again_5 : gD b_c10_again 5 (.aload_n 0) 1 6 := ⟨by decide +kernel, rfl⟩
theorem d_c10_again_6 : gD b_c10_again 6 (.getfield 33) 3 9 := ⟨by decide +kernel, rfl⟩
theorem d_c10_again_9 : gD b_c10_again 9 (.invokevirtual 411) 3 12 := ⟨by decide +kernel, rfl⟩
theorem d_c10_again_12 : gD b_c10_again 12 .ireturn 1 13 := ⟨by decide +kernel, rfl⟩
def f_c10_again (N : Nat) (a0 : Nat) (x1 : Int32) (h : gH) : Option (Int32 × gH) :=
  (gcl h a0 10).bind fun _ =>
  (gfR h a0 10 7).bind fun v1 =>
    (gfR h a0 10 3).bind fun v2 =>
    (f_c5_bring N v1 x1 v2 h).bind fun q3 =>
    (gZ q3.1).bind fun w4 => some (w4, q3.2)
set_option maxHeartbeats 4000000 in
set_option maxRecDepth 100000 in
theorem ct_c10_again (l : Launch) (X : gX) (hx : gEx X = false) (N : Nat) (a0 : Nat) (x1 : Int32) (h : gH) (q : Int32 × gH) (hy : f_c10_again N a0 x1 h = some q) : gRc y_c10_again h a0 ∧ gMi l X y_c10_again b_c10_again 2 .boolean (4 + N) 0 0 [.ref a0, .int x1] h q.1 q.2 := by
  unfold f_c10_again at hy
  obtain ⟨u0, e_u0, hy⟩ := gBd hy
  cases u0
  refine ⟨Or.inl ⟨10, _, _, e_u0, rfl⟩, gMet_i (lsx := [(0, .ref a0), (1, .int x1)]) (by decide) rfl rfl ?_⟩
  intro M hMl K hret
  subst hMl
  refine g_aload_n K d_c10_again_0 0 rfl ?_
  obtain ⟨v1, e_v1, hy⟩ := gBd hy
  refine g_getR K fl_c10_53 d_c10_again_1 e_v1 ?_
  refine g_iload_n K d_c10_again_4 1 rfl ?_
  refine g_aload_n K d_c10_again_5 0 rfl ?_
  obtain ⟨v2, e_v2, hy⟩ := gBd hy
  refine g_getR K fl_c10_33 d_c10_again_6 e_v2 ?_
  obtain ⟨q3, e_q3, hy⟩ := gBd hy
  refine g_callVi (rest := []) K hx ly_c5_bring kv_c10_411 d_c10_again_9 (ct_c5_bring M.2.1 X hx N v1 x1 v2 h q3 e_q3) rfl rfl (Nat.le_of_ble_eq_true rfl) (gDep rfl) ⟨Nat.le_refl 0, Nat.le_refl 0⟩ ?_
  obtain ⟨w4, e_w4, hy⟩ := gBd hy
  obtain ⟨z_w4, n_w4⟩ := gZ_spec e_w4
  rw [z_w4]
  obtain rfl := Option.some.inj hy
  exact hret (gZn n_w4) _ _ _ d_c10_again_12
-- c10 balance
theorem d_c10_balance_0 : gD b_c10_balance 0 (.iconst 0) 1 1 := ⟨by decide +kernel, rfl⟩
theorem d_c10_balance_1 : gD b_c10_balance 1 (.istore_n 1) 1 2 := ⟨by decide +kernel, rfl⟩
theorem d_c10_balance_2 : gD b_c10_balance 2 (.iconst 0) 1 3 := ⟨by decide +kernel, rfl⟩
theorem d_c10_balance_3 : gD b_c10_balance 3 (.istore_n 2) 1 4 := ⟨by decide +kernel, rfl⟩
theorem d_c10_balance_4 : gD b_c10_balance 4 (.iload_n 2) 1 5 := ⟨by decide +kernel, rfl⟩
theorem d_c10_balance_5 : gD b_c10_balance 5 (.aload_n 0) 1 6 := ⟨by decide +kernel, rfl⟩
theorem d_c10_balance_6 : gD b_c10_balance 6 (.getfield 33) 3 9 := ⟨by decide +kernel, rfl⟩
theorem d_c10_balance_9 : gD b_c10_balance 9 (.getfield 132) 3 12 := ⟨by decide +kernel, rfl⟩
theorem d_c10_balance_12 : gJ b_c10_balance 12 (.if_icmp .ge 28) 3 28 15 40 := ⟨by decide +kernel, rfl, by decide⟩
theorem d_c10_balance_15 : gD b_c10_balance 15 (.iload_n 1) 1 16 := ⟨by decide +kernel, rfl⟩
theorem d_c10_balance_16 : gD b_c10_balance 16 (.aload_n 0) 1 17 := ⟨by decide +kernel, rfl⟩
theorem d_c10_balance_17 : gD b_c10_balance 17 (.getfield 81) 3 20 := ⟨by decide +kernel, rfl⟩
theorem d_c10_balance_20 : gD b_c10_balance 20 (.aload_n 0) 1 21 := ⟨by decide +kernel, rfl⟩
theorem d_c10_balance_21 : gD b_c10_balance 21 (.getfield 33) 3 24 := ⟨by decide +kernel, rfl⟩
theorem d_c10_balance_24 : gD b_c10_balance 24 (.iload_n 2) 1 25 := ⟨by decide +kernel, rfl⟩
theorem d_c10_balance_25 : gD b_c10_balance 25 (.aload_n 0) 1 26 := ⟨by decide +kernel, rfl⟩
theorem d_c10_balance_26 : gD b_c10_balance 26 (.getfield 26) 3 29 := ⟨by decide +kernel, rfl⟩
theorem d_c10_balance_29 : gD b_c10_balance 29 (.invokevirtual 164) 3 32 := ⟨by decide +kernel, rfl⟩
theorem d_c10_balance_32 : gD b_c10_balance 32 .iadd 1 33 := ⟨by decide +kernel, rfl⟩
theorem d_c10_balance_33 : gD b_c10_balance 33 (.istore_n 1) 1 34 := ⟨by decide +kernel, rfl⟩
theorem d_c10_balance_34 : gD b_c10_balance 34 (.iinc 2 1) 3 37 := ⟨by decide +kernel, rfl⟩
theorem d_c10_balance_37 : gJ b_c10_balance 37 (.goto (-33)) 3 (-33) 40 4 := ⟨by decide +kernel, rfl, by decide⟩
theorem d_c10_balance_40 : gD b_c10_balance 40 (.aload_n 0) 1 41 := ⟨by decide +kernel, rfl⟩
theorem d_c10_balance_41 : gD b_c10_balance 41 (.getfield 26) 3 44 := ⟨by decide +kernel, rfl⟩
theorem d_c10_balance_44 : gD b_c10_balance 44 (.invokevirtual 268) 3 47 := ⟨by decide +kernel, rfl⟩
theorem d_c10_balance_47 : gD b_c10_balance 47 (.istore_n 2) 1 48 := ⟨by decide +kernel, rfl⟩
theorem d_c10_balance_48 : gD b_c10_balance 48 (.aload_n 0) 1 49 := ⟨by decide +kernel, rfl⟩
theorem d_c10_balance_49 : gD b_c10_balance 49 (.iload_n 1) 1 50 := ⟨by decide +kernel, rfl⟩
theorem d_c10_balance_50 : gD b_c10_balance 50 (.iload_n 2) 1 51 := ⟨by decide +kernel, rfl⟩
theorem d_c10_balance_51 : gD b_c10_balance 51 .isub 1 52 := ⟨by decide +kernel, rfl⟩
theorem d_c10_balance_52 : gD b_c10_balance 52 (.sipush 1000) 3 55 := ⟨by decide +kernel, rfl⟩
theorem d_c10_balance_55 : gD b_c10_balance 55 .iadd 1 56 := ⟨by decide +kernel, rfl⟩
theorem d_c10_balance_56 : gD b_c10_balance 56 (.iload_n 1) 1 57 := ⟨by decide +kernel, rfl⟩
theorem d_c10_balance_57 : gD b_c10_balance 57 .i2l 1 58 := ⟨by decide +kernel, rfl⟩
theorem d_c10_balance_58 : gD b_c10_balance 58 (.iload_n 2) 1 59 := ⟨by decide +kernel, rfl⟩
theorem d_c10_balance_59 : gD b_c10_balance 59 .i2l 1 60 := ⟨by decide +kernel, rfl⟩
theorem d_c10_balance_60 : gD b_c10_balance 60 (.invokevirtual 205) 3 63 := ⟨by decide +kernel, rfl⟩
theorem d_c10_balance_63 : gD b_c10_balance 63 .ireturn 1 64 := ⟨by decide +kernel, rfl⟩
def lp_c10_balance_4 (N : Nat) (a0 : Nat) : Nat → Int32 → Int32 → gH → Option (Int32 × gH)
  | 0, _, _, _ => none
  | k + 1, x1, x2, h =>
  (gfR h a0 10 3).bind fun v1 =>
    (gfI h v1 7 0).bind fun v2 =>
    if v2 ≤ x2 then
    some (x1, h)
  else
    (gfR h a0 10 11).bind fun v4 =>
    (gfR h a0 10 3).bind fun v5 =>
    (gfR h a0 10 2).bind fun v6 =>
    (f_c6_flow N v4 v5 x2 v6 h).bind fun q7 =>
    lp_c10_balance_4 N a0 k (x1 + q7.1) (x2 + (1 : Int32)) q7.2
def f_c10_balance (N : Nat) (a0 : Nat) (h : gH) : Option (Int32 × gH) :=
  (gcl h a0 10).bind fun _ =>
  (lp_c10_balance_4 N a0 N (0 : Int32) (0 : Int32) h).bind fun o8 =>
    (gfR o8.2 a0 10 2).bind fun v9 =>
    (f_c1_thirstOfAll N v9 o8.2).bind fun q10 =>
    (f_c10_tellTwo N a0 ((o8.1 - q10) + (1000 : Int32)) o8.1.toInt64 q10.toInt64 o8.2).bind fun q11 =>
    some (q11.1, q11.2)
set_option maxHeartbeats 4000000 in
set_option maxRecDepth 100000 in
theorem wlp_c10_balance_4 {M : gM} {X : gX} {N : Nat} (hx : gEx X = false) (K : gC M X gN10 b_c10_balance 3 (gRm (4 + N) 0 0)) (a0 : Nat) : ∀ (k : Nat) (x1 : Int32) (x2 : Int32) (h : gH) (o : Int32 × gH), lp_c10_balance_4 N a0 k x1 x2 h = some o → gG M X 3 0 0 40 [(0, .ref a0), (1, .int o.1)] [] o.2 → gG M X 3 0 0 4 [(0, .ref a0), (1, .int x1), (2, .int x2)] [] h := by
  intro k
  induction k with
  | zero =>
    intro x1 x2 h o hy
    rw [lp_c10_balance_4.eq_1] at hy
    cases hy
  | succ k ih =>
    intro x1 x2 h o hy hE
    rw [lp_c10_balance_4.eq_2] at hy
    refine g_iload_n K d_c10_balance_4 2 rfl ?_
    refine g_aload_n K d_c10_balance_5 0 rfl ?_
    obtain ⟨v1, e_v1, hy⟩ := gBd hy
    refine g_getR K fl_c10_33 d_c10_balance_6 e_v1 ?_
    obtain ⟨v2, e_v2, hy⟩ := gBd hy
    refine g_getI K fl_c10_132 d_c10_balance_9 e_v2 ?_
    refine g_icmp_ge K d_c10_balance_12 (fun c3 => ?_) (fun c3 => ?_)
    · rw [if_pos c3] at hy
      refine g_sub (ls2 := [(0, .ref a0), (1, .int x1)]) [0, 1] rfl ?_
      obtain rfl := Option.some.inj hy
      exact hE
    · rw [if_neg c3] at hy
      refine g_iload_n K d_c10_balance_15 1 rfl ?_
      refine g_aload_n K d_c10_balance_16 0 rfl ?_
      obtain ⟨v4, e_v4, hy⟩ := gBd hy
      refine g_getR K fl_c10_81 d_c10_balance_17 e_v4 ?_
      refine g_aload_n K d_c10_balance_20 0 rfl ?_
      obtain ⟨v5, e_v5, hy⟩ := gBd hy
      refine g_getR K fl_c10_33 d_c10_balance_21 e_v5 ?_
      refine g_iload_n K d_c10_balance_24 2 rfl ?_
      refine g_aload_n K d_c10_balance_25 0 rfl ?_
      obtain ⟨v6, e_v6, hy⟩ := gBd hy
      refine g_getR K fl_c10_26 d_c10_balance_26 e_v6 ?_
      obtain ⟨q7, e_q7, hy⟩ := gBd hy
      refine g_callVi (rest := [.int x1]) K hx ly_c6_flow kv_c10_164 d_c10_balance_29 (ct_c6_flow M.2.1 X hx N v4 v5 x2 v6 h q7 e_q7) rfl rfl (Nat.le_of_ble_eq_true rfl) (gDep rfl) ⟨Nat.le_refl 0, Nat.le_refl 0⟩ ?_
      refine g_iadd K d_c10_balance_32 ?_
      refine g_istore_n (ls2 := [(1, .int (x1 + q7.1)), (0, .ref a0), (2, .int x2)]) K d_c10_balance_33 rfl rfl ?_
      refine g_iinc (ls2 := [(2, .int (x2 + (1 : Int32))), (1, .int (x1 + q7.1)), (0, .ref a0)]) (v := 1) K d_c10_balance_34 2 rfl (by decide) rfl rfl ?_
      refine g_goto K d_c10_balance_37 ?_
      refine g_sub (ls2 := [(0, .ref a0), (1, .int (x1 + q7.1)), (2, .int (x2 + (1 : Int32)))]) [2, 1, 0] rfl ?_
      exact ih _ _ _ _ hy hE
set_option maxHeartbeats 4000000 in
set_option maxRecDepth 100000 in
theorem ct_c10_balance (l : Launch) (X : gX) (hx : gEx X = false) (N : Nat) (a0 : Nat) (h : gH) (q : Int32 × gH) (hy : f_c10_balance N a0 h = some q) : gRc y_c10_balance h a0 ∧ gMi l X y_c10_balance b_c10_balance 3 .int (4 + N) 0 0 [.ref a0] h q.1 q.2 := by
  unfold f_c10_balance at hy
  obtain ⟨u0, e_u0, hy⟩ := gBd hy
  cases u0
  refine ⟨Or.inl ⟨10, _, _, e_u0, rfl⟩, gMet_i (lsx := [(0, .ref a0)]) (by decide) rfl rfl ?_⟩
  intro M hMl K hret
  subst hMl
  refine g_iconst (v := 0) K d_c10_balance_0 (by decide) ?_
  refine g_istore_n (ls2 := [(1, .int (0 : Int32)), (0, .ref a0)]) K d_c10_balance_1 rfl rfl ?_
  refine g_iconst (v := 0) K d_c10_balance_2 (by decide) ?_
  refine g_istore_n (ls2 := [(2, .int (0 : Int32)), (1, .int (0 : Int32)), (0, .ref a0)]) K d_c10_balance_3 rfl rfl ?_
  obtain ⟨o8, e_o8, hy⟩ := gBd hy
  refine g_sub (ls2 := [(0, .ref a0), (1, .int (0 : Int32)), (2, .int (0 : Int32))]) [2, 1, 0] rfl ?_
  refine wlp_c10_balance_4 hx K a0 N (0 : Int32) (0 : Int32) h o8 e_o8 ?_
  refine g_aload_n K d_c10_balance_40 0 rfl ?_
  obtain ⟨v9, e_v9, hy⟩ := gBd hy
  refine g_getR K fl_c10_26 d_c10_balance_41 e_v9 ?_
  obtain ⟨q10, e_q10, hy⟩ := gBd hy
  refine g_callVi (rest := []) K hx ly_c1_thirstOfAll kv_c10_268 d_c10_balance_44 (ct_c1_thirstOfAll M.2.1 X hx N v9 o8.2 q10 e_q10) rfl rfl (Nat.le_of_ble_eq_true rfl) (gDep rfl) ⟨Nat.le_refl 0, Nat.le_refl 0⟩ ?_
  refine g_istore_n (ls2 := [(2, .int q10), (0, .ref a0), (1, .int o8.1)]) K d_c10_balance_47 rfl rfl ?_
  refine g_aload_n K d_c10_balance_48 1 rfl ?_
  refine g_iload_n K d_c10_balance_49 2 rfl ?_
  refine g_iload_n K d_c10_balance_50 0 rfl ?_
  refine g_isub K d_c10_balance_51 ?_
  refine g_sipush (v := 1000) K d_c10_balance_52 (by decide) ?_
  refine g_iadd K d_c10_balance_55 ?_
  refine g_iload_n K d_c10_balance_56 2 rfl ?_
  refine g_i2l K d_c10_balance_57 ?_
  refine g_iload_n K d_c10_balance_58 0 rfl ?_
  refine g_i2l K d_c10_balance_59 ?_
  obtain ⟨q11, e_q11, hy⟩ := gBd hy
  refine g_callVi (rest := []) K hx ly_c10_tellTwo kv_c10_205 d_c10_balance_60 (ct_c10_tellTwo M.2.1 X hx N a0 ((o8.1 - q10) + (1000 : Int32)) o8.1.toInt64 q10.toInt64 o8.2 q11 e_q11) rfl rfl (Nat.le_of_ble_eq_true rfl) (gDep rfl) ⟨Nat.le_refl 0, Nat.le_refl 0⟩ ?_
  obtain rfl := Option.some.inj hy
  exact hret rfl _ _ _ d_c10_balance_63
-- c10 covers
theorem d_c10_covers_0 : gD b_c10_covers 0 (.iload_n 1) 1 1 := ⟨by decide +kernel, rfl⟩
theorem d_c10_covers_1 : gD b_c10_covers 1 (.invokestatic 271) 3 4 := ⟨by decide +kernel, rfl⟩
theorem d_c10_covers_4 : gJ b_c10_covers 4 (.ifCond .ne 5) 3 5 7 9 := ⟨by decide +kernel, rfl, by decide⟩
theorem d_c10_covers_7 : gD b_c10_covers 7 (.iconst (-1)) 1 8 := ⟨by decide +kernel, rfl⟩
theorem d_c10_covers_8 : gD b_c10_covers 8 .ireturn 1 9 := ⟨by decide +kernel, rfl⟩
theorem d_c10_covers_9 : gD b_c10_covers 9 (.iconst 1) 1 10 := ⟨by decide +kernel, rfl⟩
theorem d_c10_covers_10 : gD b_c10_covers 10 (.aload_n 0) 1 11 := ⟨by decide +kernel, rfl⟩
theorem d_c10_covers_11 : gD b_c10_covers 11 (.getfield 26) 3 14 := ⟨by decide +kernel, rfl⟩
theorem d_c10_covers_14 : gD b_c10_covers 14 (.getfield 274) 3 17 := ⟨by decide +kernel, rfl⟩
theorem d_c10_covers_17 : gD b_c10_covers 17 .ishl 1 18 := ⟨by decide +kernel, rfl⟩
theorem d_c10_covers_18 : gD b_c10_covers 18 (.iconst 1) 1 19 := ⟨by decide +kernel, rfl⟩
theorem d_c10_covers_19 : gD b_c10_covers 19 .isub 1 20 := ⟨by decide +kernel, rfl⟩
theorem d_c10_covers_20 : gD b_c10_covers 20 (.istore_n 2) 1 21 := ⟨by decide +kernel, rfl⟩
theorem d_c10_covers_21 : gD b_c10_covers 21 (.aload_n 0) 1 22 := ⟨by decide +kernel, rfl⟩
theorem d_c10_covers_22 : gD b_c10_covers 22 (.getfield 67) 3 25 := ⟨by decide +kernel, rfl⟩
theorem d_c10_covers_25 : gD b_c10_covers 25 (.aload_n 0) 1 26 := ⟨by decide +kernel, rfl⟩
theorem d_c10_covers_26 : gD b_c10_covers 26 (.getfield 26) 3 29 := ⟨by decide +kernel, rfl⟩
theorem d_c10_covers_29 : gD b_c10_covers 29 (.iload_n 1) 1 30 := ⟨by decide +kernel, rfl⟩
theorem d_c10_covers_30 : gD b_c10_covers 30 (.invokevirtual 277) 3 33 := ⟨by decide +kernel, rfl⟩
theorem d_c10_covers_33 : gD b_c10_covers 33 (.aload_n 0) 1 34 := ⟨by decide +kernel, rfl⟩
theorem d_c10_covers_34 : gD b_c10_covers 34 (.getfield 67) 3 37 := ⟨by decide +kernel, rfl⟩
theorem d_c10_covers_37 : gD b_c10_covers 37 (.iconst 0) 1 38 := ⟨by decide +kernel, rfl⟩
theorem d_c10_covers_38 : gD b_c10_covers 38 (.iload_n 2) 1 39 := ⟨by decide +kernel, rfl⟩
theorem d_c10_covers_39 : gD b_c10_covers 39 (.invokevirtual 281) 3 42 := ⟨by decide +kernel, rfl⟩
theorem d_c10_covers_42 : gD b_c10_covers 42 (.istore_n 3) 1 43 := ⟨by decide +kernel, rfl⟩
theorem d_c10_covers_43 : gD b_c10_covers 43 (.aload_n 0) 1 44 := ⟨by decide +kernel, rfl⟩
theorem d_c10_covers_44 : gD b_c10_covers 44 (.getfield 19) 3 47 := ⟨by decide +kernel, rfl⟩
theorem d_c10_covers_47 : gD b_c10_covers 47 (.invokevirtual 284) 3 50 := ⟨by decide +kernel, rfl⟩
theorem d_c10_covers_50 : gD b_c10_covers 50 (.iconst 0) 1 51 := ⟨by decide +kernel, rfl⟩
theorem d_c10_covers_51 : gD b_c10_covers 51 (.istore 4) 2 53 := ⟨by decide +kernel, rfl⟩
theorem d_c10_covers_53 : gD b_c10_covers 53 (.iload 4) 2 55 := ⟨by decide +kernel, rfl⟩
theorem d_c10_covers_55 : gD b_c10_covers 55 (.aload_n 0) 1 56 := ⟨by decide +kernel, rfl⟩
theorem d_c10_covers_56 : gD b_c10_covers 56 (.getfield 26) 3 59 := ⟨by decide +kernel, rfl⟩
theorem d_c10_covers_59 : gD b_c10_covers 59 (.invokevirtual 120) 3 62 := ⟨by decide +kernel, rfl⟩
theorem d_c10_covers_62 : gJ b_c10_covers 62 (.if_icmp .ge 63) 3 63 65 125 := ⟨by decide +kernel, rfl, by decide⟩
theorem d_c10_covers_65 : gD b_c10_covers 65 (.iload_n 2) 1 66 := ⟨by decide +kernel, rfl⟩
theorem d_c10_covers_66 : gD b_c10_covers 66 (.aload_n 0) 1 67 := ⟨by decide +kernel, rfl⟩
theorem d_c10_covers_67 : gD b_c10_covers 67 (.getfield 67) 3 70 := ⟨by decide +kernel, rfl⟩
theorem d_c10_covers_70 : gD b_c10_covers 70 (.iload 4) 2 72 := ⟨by decide +kernel, rfl⟩
theorem d_c10_covers_72 : gD b_c10_covers 72 (.invokevirtual 287) 3 75 := ⟨by decide +kernel, rfl⟩
theorem d_c10_covers_75 : gD b_c10_covers 75 (.iconst (-1)) 1 76 := ⟨by decide +kernel, rfl⟩
theorem d_c10_covers_76 : gD b_c10_covers 76 .ixor 1 77 := ⟨by decide +kernel, rfl⟩
theorem d_c10_covers_77 : gD b_c10_covers 77 .iand 1 78 := ⟨by decide +kernel, rfl⟩
theorem d_c10_covers_78 : gD b_c10_covers 78 (.istore 5) 2 80 := ⟨by decide +kernel, rfl⟩
theorem d_c10_covers_80 : gD b_c10_covers 80 (.aload_n 0) 1 81 := ⟨by decide +kernel, rfl⟩
theorem d_c10_covers_81 : gD b_c10_covers 81 (.getfield 67) 3 84 := ⟨by decide +kernel, rfl⟩
theorem d_c10_covers_84 : gD b_c10_covers 84 (.iload 4) 2 86 := ⟨by decide +kernel, rfl⟩
theorem d_c10_covers_86 : gD b_c10_covers 86 (.iconst 1) 1 87 := ⟨by decide +kernel, rfl⟩
theorem d_c10_covers_87 : gD b_c10_covers 87 .iadd 1 88 := ⟨by decide +kernel, rfl⟩
theorem d_c10_covers_88 : gD b_c10_covers 88 (.iload 5) 2 90 := ⟨by decide +kernel, rfl⟩
theorem d_c10_covers_90 : gD b_c10_covers 90 (.invokevirtual 281) 3 93 := ⟨by decide +kernel, rfl⟩
theorem d_c10_covers_93 : gD b_c10_covers 93 (.aload_n 0) 1 94 := ⟨by decide +kernel, rfl⟩
theorem d_c10_covers_94 : gD b_c10_covers 94 (.getfield 67) 3 97 := ⟨by decide +kernel, rfl⟩
theorem d_c10_covers_97 : gD b_c10_covers 97 (.iload 4) 2 99 := ⟨by decide +kernel, rfl⟩
theorem d_c10_covers_99 : gD b_c10_covers 99 (.iload_n 2) 1 100 := ⟨by decide +kernel, rfl⟩
theorem d_c10_covers_100 : gD b_c10_covers 100 (.invokevirtual 281) 3 103 := ⟨by decide +kernel, rfl⟩
theorem d_c10_covers_103 : gJ b_c10_covers 103 (.if_icmp .ge 16) 3 16 106 119 := ⟨by decide +kernel, rfl, by decide⟩
theorem d_c10_covers_106 : gD b_c10_covers 106 (.aload_n 0) 1 107 := ⟨by decide +kernel, rfl⟩
theorem d_c10_covers_107 : gD b_c10_covers 107 (.getfield 19) 3 110 := ⟨by decide +kernel, rfl⟩
theorem d_c10_covers_110 : gD b_c10_covers 110 (.iload 4) 2 112 := ⟨by decide +kernel, rfl⟩
theorem d_c10_covers_112 : gD b_c10_covers 112 .i2l 1 113 := ⟨by decide +kernel, rfl⟩
theorem d_c10_covers_113 : gD b_c10_covers 113 (.invokevirtual 290) 3 116 := ⟨by decide +kernel, rfl⟩
theorem d_c10_covers_116 : gD b_c10_covers 116 (.iload 5) 2 118 := ⟨by decide +kernel, rfl⟩
theorem d_c10_covers_118 : gD b_c10_covers 118 (.istore_n 2) 1 119 := ⟨by decide +kernel, rfl⟩
theorem d_c10_covers_119 : gD b_c10_covers 119 (.iinc 4 1) 3 122 := ⟨by decide +kernel, rfl⟩
theorem d_c10_covers_122 : gJ b_c10_covers 122 (.goto (-69)) 3 (-69) 125 53 := ⟨by decide +kernel, rfl, by decide⟩
theorem d_c10_covers_125 : gD b_c10_covers 125 (.iload_n 3) 1 126 := ⟨by decide +kernel, rfl⟩
theorem d_c10_covers_126 : gD b_c10_covers 126 .ireturn 1 127 := ⟨by decide +kernel, rfl⟩
def lp_c10_covers_53 (N : Nat) (a0 : Nat) : Nat → Int32 → Int32 → gH → Option (gH)
  | 0, _, _, _ => none
  | k + 1, x2, x4, h =>
  (gfR h a0 10 2).bind fun v12 =>
    (f_c1_fields N v12 h).bind fun q13 =>
    if q13 ≤ x4 then
    some h
  else
    (gfR h a0 10 9).bind fun v15 =>
    (f_c9_covered N v15 x4 h).bind fun q16 =>
    (gfR h a0 10 9).bind fun v17 =>
    (f_c9_needed N v17 (x4 + (1 : Int32)) (x2 &&& (q16 ^^^ (-1 : Int32))) h).bind fun q18 =>
    (gfR h a0 10 9).bind fun v19 =>
    (f_c9_needed N v19 x4 x2 h).bind fun q20 =>
    (show Option (Int32 × gH) from if q20 ≤ q18 then
    some (x2, h)
  else
    (gfR h a0 10 1).bind fun v24 =>
    (f_c4_add N v24 x4.toInt64 h).bind fun q25 =>
    some (x2 &&& (q16 ^^^ (-1 : Int32)), q25)).bind fun t22 =>
    lp_c10_covers_53 N a0 k t22.1 (x4 + (1 : Int32)) t22.2
def f_c10_covers (N : Nat) (a0 : Nat) (x1 : Int32) (h : gH) : Option (Int32 × gH) :=
  (gcl h a0 10).bind fun _ =>
  (f_c10_isFar N x1 h).bind fun q1 =>
    if q1 = 0 then
    some ((-1 : Int32), h)
  else
    (gfR h a0 10 2).bind fun v3 =>
    (gfI h v3 1 2).bind fun v4 =>
    (gfR h a0 10 9).bind fun v5 =>
    (gfR h a0 10 2).bind fun v6 =>
    (f_c9_needFields N v5 v6 x1 h).bind fun q7 =>
    (gfR q7 a0 10 9).bind fun v8 =>
    (f_c9_needed N v8 (0 : Int32) (((1 : Int32) <<< (v4 &&& 31)) - (1 : Int32)) q7).bind fun q9 =>
    (gfR q7 a0 10 1).bind fun v10 =>
    (f_c4_clear N v10 q7).bind fun q11 =>
    (lp_c10_covers_53 N a0 N (((1 : Int32) <<< (v4 &&& 31)) - (1 : Int32)) (0 : Int32) q11).bind fun o26 =>
    some (q9, o26)
set_option maxHeartbeats 4000000 in
set_option maxRecDepth 100000 in
theorem wlp_c10_covers_53 {M : gM} {X : gX} {N : Nat} (hx : gEx X = false) (K : gC M X gN10 b_c10_covers 6 (gRm (4 + N) 0 0)) (a0 : Nat) (x3 : Int32) : ∀ (k : Nat) (x2 : Int32) (x4 : Int32) (h : gH) (o : gH), lp_c10_covers_53 N a0 k x2 x4 h = some o → gG M X 6 0 0 125 [(3, .int x3)] [] o → gG M X 6 0 0 53 [(0, .ref a0), (2, .int x2), (3, .int x3), (4, .int x4)] [] h := by
  intro k
  induction k with
  | zero =>
    intro x2 x4 h o hy
    rw [lp_c10_covers_53.eq_1] at hy
    cases hy
  | succ k ih =>
    intro x2 x4 h o hy hE
    rw [lp_c10_covers_53.eq_2] at hy
    refine g_iload K d_c10_covers_53 3 rfl ?_
    refine g_aload_n K d_c10_covers_55 0 rfl ?_
    obtain ⟨v12, e_v12, hy⟩ := gBd hy
    refine g_getR K fl_c10_26 d_c10_covers_56 e_v12 ?_
    obtain ⟨q13, e_q13, hy⟩ := gBd hy
    refine g_callVi (rest := [.int x4]) K hx ly_c1_fields kv_c10_120 d_c10_covers_59 (ct_c1_fields M.2.1 X hx N v12 h q13 e_q13) rfl rfl (Nat.le_of_ble_eq_true rfl) (gDep rfl) ⟨Nat.le_refl 0, Nat.le_refl 0⟩ ?_
    refine g_icmp_ge K d_c10_covers_62 (fun c14 => ?_) (fun c14 => ?_)
    · rw [if_pos c14] at hy
      refine g_sub (ls2 := [(3, .int x3)]) [2] rfl ?_
      obtain rfl := Option.some.inj hy
      exact hE
    · rw [if_neg c14] at hy
      refine g_iload_n K d_c10_covers_65 1 rfl ?_
      refine g_aload_n K d_c10_covers_66 0 rfl ?_
      obtain ⟨v15, e_v15, hy⟩ := gBd hy
      refine g_getR K fl_c10_67 d_c10_covers_67 e_v15 ?_
      refine g_iload K d_c10_covers_70 3 rfl ?_
      obtain ⟨q16, e_q16, hy⟩ := gBd hy
      refine g_callVi (rest := [.int x2]) K hx ly_c9_covered kv_c10_287 d_c10_covers_72 (ct_c9_covered M.2.1 X hx N v15 x4 h q16 e_q16) rfl rfl (Nat.le_of_ble_eq_true rfl) (gDep rfl) ⟨Nat.le_refl 0, Nat.le_refl 0⟩ ?_
      refine g_iconst (v := (-1)) K d_c10_covers_75 (by decide) ?_
      refine g_ixor K d_c10_covers_76 ?_
      refine g_iand K d_c10_covers_77 ?_
      refine g_istore (ls2 := [(5, .int (x2 &&& (q16 ^^^ (-1 : Int32)))), (0, .ref a0), (2, .int x2), (3, .int x3), (4, .int x4)]) K d_c10_covers_78 rfl rfl ?_
      refine g_aload_n K d_c10_covers_80 1 rfl ?_
      obtain ⟨v17, e_v17, hy⟩ := gBd hy
      refine g_getR K fl_c10_67 d_c10_covers_81 e_v17 ?_
      refine g_iload K d_c10_covers_84 4 rfl ?_
      refine g_iconst (v := 1) K d_c10_covers_86 (by decide) ?_
      refine g_iadd K d_c10_covers_87 ?_
      refine g_iload K d_c10_covers_88 0 rfl ?_
      obtain ⟨q18, e_q18, hy⟩ := gBd hy
      refine g_callVi (rest := []) K hx ly_c9_needed kv_c10_281 d_c10_covers_90 (ct_c9_needed M.2.1 X hx N v17 (x4 + (1 : Int32)) (x2 &&& (q16 ^^^ (-1 : Int32))) h q18 e_q18) rfl rfl (Nat.le_of_ble_eq_true rfl) (gDep rfl) ⟨Nat.le_refl 0, Nat.le_refl 0⟩ ?_
      refine g_aload_n K d_c10_covers_93 1 rfl ?_
      obtain ⟨v19, e_v19, hy⟩ := gBd hy
      refine g_getR K fl_c10_67 d_c10_covers_94 e_v19 ?_
      refine g_iload K d_c10_covers_97 4 rfl ?_
      refine g_iload_n K d_c10_covers_99 2 rfl ?_
      obtain ⟨q20, e_q20, hy⟩ := gBd hy
      refine g_callVi (rest := [.int q18]) K hx ly_c9_needed kv_c10_281 d_c10_covers_100 (ct_c9_needed M.2.1 X hx N v19 x4 x2 h q20 e_q20) rfl rfl (Nat.le_of_ble_eq_true rfl) (gDep rfl) ⟨Nat.le_refl 0, Nat.le_refl 0⟩ ?_
      obtain ⟨t22, e_t22, hy⟩ := gBd hy
      have hJ23 : gG M X 6 0 0 119 [(0, .ref a0), (2, .int t22.1), (3, .int x3), (4, .int x4)] [] t22.2 := by
        refine g_iinc (ls2 := [(4, .int (x4 + (1 : Int32))), (0, .ref a0), (2, .int t22.1), (3, .int x3)]) (v := 1) K d_c10_covers_119 3 rfl (by decide) rfl rfl ?_
        refine g_goto K d_c10_covers_122 ?_
        refine g_sub (ls2 := [(0, .ref a0), (2, .int t22.1), (3, .int x3), (4, .int (x4 + (1 : Int32)))]) [1, 2, 3, 0] rfl ?_
        exact ih _ _ _ _ hy hE
      refine g_icmp_ge K d_c10_covers_103 (fun c21 => ?_) (fun c21 => ?_)
      · rw [if_pos c21] at e_t22
        refine g_sub (ls2 := [(0, .ref a0), (2, .int x2), (3, .int x3), (4, .int x4)]) [1, 2, 3, 4] rfl ?_
        obtain rfl := Option.some.inj e_t22
        exact hJ23
      · rw [if_neg c21] at e_t22
        refine g_aload_n K d_c10_covers_106 1 rfl ?_
        obtain ⟨v24, e_v24, e_t22⟩ := gBd e_t22
        refine g_getR K fl_c10_19 d_c10_covers_107 e_v24 ?_
        refine g_iload K d_c10_covers_110 4 rfl ?_
        refine g_i2l K d_c10_covers_112 ?_
        obtain ⟨q25, e_q25, e_t22⟩ := gBd e_t22
        refine g_callVv (rest := []) K hx ly_c4_add kv_c10_290 d_c10_covers_113 (ct_c4_add M.2.1 X hx N v24 x4.toInt64 h q25 e_q25) rfl rfl (Nat.le_of_ble_eq_true rfl) (gDep rfl) ⟨Nat.le_refl 0, Nat.le_refl 0⟩ ?_
        refine g_iload K d_c10_covers_116 0 rfl ?_
        refine g_istore_n (ls2 := [(2, .int (x2 &&& (q16 ^^^ (-1 : Int32)))), (5, .int (x2 &&& (q16 ^^^ (-1 : Int32)))), (0, .ref a0), (3, .int x3), (4, .int x4)]) K d_c10_covers_118 rfl rfl ?_
        refine g_sub (ls2 := [(0, .ref a0), (2, .int (x2 &&& (q16 ^^^ (-1 : Int32)))), (3, .int x3), (4, .int x4)]) [2, 0, 3, 4] rfl ?_
        obtain rfl := Option.some.inj e_t22
        exact hJ23
set_option maxHeartbeats 4000000 in
set_option maxRecDepth 100000 in
theorem ct_c10_covers (l : Launch) (X : gX) (hx : gEx X = false) (N : Nat) (a0 : Nat) (x1 : Int32) (h : gH) (q : Int32 × gH) (hy : f_c10_covers N a0 x1 h = some q) : gRc y_c10_covers h a0 ∧ gMi l X y_c10_covers b_c10_covers 6 .int (4 + N) 0 0 [.ref a0, .int x1] h q.1 q.2 := by
  unfold f_c10_covers at hy
  obtain ⟨u0, e_u0, hy⟩ := gBd hy
  cases u0
  refine ⟨Or.inl ⟨10, _, _, e_u0, rfl⟩, gMet_i (lsx := [(0, .ref a0), (1, .int x1)]) (by decide) rfl rfl ?_⟩
  intro M hMl K hret
  subst hMl
  refine g_iload_n K d_c10_covers_0 1 rfl ?_
  obtain ⟨q1, e_q1, hy⟩ := gBd hy
  refine g_callSi (rest := []) K hx ly_c10_isFar ks_c10_271 d_c10_covers_1 (ct_c10_isFar M.2.1 X hx N x1 h q1 e_q1) rfl rfl (Nat.le_of_ble_eq_true rfl) (gDep rfl) ⟨Nat.le_refl 0, Nat.le_refl 0⟩ ?_
  refine g_if_ne K d_c10_covers_4 (fun c2 => ?_) (fun c2 => ?_)
  · rw [if_neg c2] at hy
    refine g_iconst (v := 1) K d_c10_covers_9 (by decide) ?_
    refine g_aload_n K d_c10_covers_10 0 rfl ?_
    obtain ⟨v3, e_v3, hy⟩ := gBd hy
    refine g_getR K fl_c10_26 d_c10_covers_11 e_v3 ?_
    obtain ⟨v4, e_v4, hy⟩ := gBd hy
    refine g_getI K fl_c10_274 d_c10_covers_14 e_v4 ?_
    refine g_ishl K d_c10_covers_17 ?_
    refine g_iconst (v := 1) K d_c10_covers_18 (by decide) ?_
    refine g_isub K d_c10_covers_19 ?_
    refine g_istore_n (ls2 := [(2, .int (((1 : Int32) <<< (v4 &&& 31)) - (1 : Int32))), (0, .ref a0), (1, .int x1)]) K d_c10_covers_20 rfl rfl ?_
    refine g_aload_n K d_c10_covers_21 1 rfl ?_
    obtain ⟨v5, e_v5, hy⟩ := gBd hy
    refine g_getR K fl_c10_67 d_c10_covers_22 e_v5 ?_
    refine g_aload_n K d_c10_covers_25 1 rfl ?_
    obtain ⟨v6, e_v6, hy⟩ := gBd hy
    refine g_getR K fl_c10_26 d_c10_covers_26 e_v6 ?_
    refine g_iload_n K d_c10_covers_29 2 rfl ?_
    obtain ⟨q7, e_q7, hy⟩ := gBd hy
    refine g_callVv (rest := []) K hx ly_c9_needFields kv_c10_277 d_c10_covers_30 (ct_c9_needFields M.2.1 X hx N v5 v6 x1 h q7 e_q7) rfl rfl (Nat.le_of_ble_eq_true rfl) (gDep rfl) ⟨Nat.le_refl 0, Nat.le_refl 0⟩ ?_
    refine g_aload_n K d_c10_covers_33 1 rfl ?_
    obtain ⟨v8, e_v8, hy⟩ := gBd hy
    refine g_getR K fl_c10_67 d_c10_covers_34 e_v8 ?_
    refine g_iconst (v := 0) K d_c10_covers_37 (by decide) ?_
    refine g_iload_n K d_c10_covers_38 0 rfl ?_
    obtain ⟨q9, e_q9, hy⟩ := gBd hy
    refine g_callVi (rest := []) K hx ly_c9_needed kv_c10_281 d_c10_covers_39 (ct_c9_needed M.2.1 X hx N v8 (0 : Int32) (((1 : Int32) <<< (v4 &&& 31)) - (1 : Int32)) q7 q9 e_q9) rfl rfl (Nat.le_of_ble_eq_true rfl) (gDep rfl) ⟨Nat.le_refl 0, Nat.le_refl 0⟩ ?_
    refine g_istore_n (ls2 := [(3, .int q9), (2, .int (((1 : Int32) <<< (v4 &&& 31)) - (1 : Int32))), (0, .ref a0), (1, .int x1)]) K d_c10_covers_42 rfl rfl ?_
    refine g_aload_n K d_c10_covers_43 2 rfl ?_
    obtain ⟨v10, e_v10, hy⟩ := gBd hy
    refine g_getR K fl_c10_19 d_c10_covers_44 e_v10 ?_
    obtain ⟨q11, e_q11, hy⟩ := gBd hy
    refine g_callVv (rest := []) K hx ly_c4_clear kv_c10_284 d_c10_covers_47 (ct_c4_clear M.2.1 X hx N v10 q7 q11 e_q11) rfl rfl (Nat.le_of_ble_eq_true rfl) (gDep rfl) ⟨Nat.le_refl 0, Nat.le_refl 0⟩ ?_
    refine g_iconst (v := 0) K d_c10_covers_50 (by decide) ?_
    refine g_istore (ls2 := [(4, .int (0 : Int32)), (3, .int q9), (2, .int (((1 : Int32) <<< (v4 &&& 31)) - (1 : Int32))), (0, .ref a0), (1, .int x1)]) K d_c10_covers_51 rfl rfl ?_
    obtain ⟨o26, e_o26, hy⟩ := gBd hy
    refine g_sub (ls2 := [(0, .ref a0), (2, .int (((1 : Int32) <<< (v4 &&& 31)) - (1 : Int32))), (3, .int q9), (4, .int (0 : Int32))]) [3, 2, 1, 0] rfl ?_
    refine wlp_c10_covers_53 hx K a0 q9 N (((1 : Int32) <<< (v4 &&& 31)) - (1 : Int32)) (0 : Int32) q11 o26 e_o26 ?_
    refine g_iload_n K d_c10_covers_125 0 rfl ?_
    obtain rfl := Option.some.inj hy
    exact hret rfl _ _ _ d_c10_covers_126
  · rw [if_pos c2] at hy
    refine g_iconst (v := (-1)) K d_c10_covers_7 (by decide) ?_
    obtain rfl := Option.some.inj hy
    exact hret rfl _ _ _ d_c10_covers_8
-- c10 drawersFrom
theorem d_c10_drawersFrom_0 : gD b_c10_drawersFrom 0 (.iconst 0) 1 1 := ⟨by decide +kernel, rfl⟩
theorem d_c10_drawersFrom_1 : gD b_c10_drawersFrom 1 (.istore_n 2) 1 2 := ⟨by decide +kernel, rfl⟩
theorem d_c10_drawersFrom_2 : gD b_c10_drawersFrom 2 (.iconst 0) 1 3 := ⟨by decide +kernel, rfl⟩
theorem d_c10_drawersFrom_3 : gD b_c10_drawersFrom 3 (.istore_n 3) 1 4 := ⟨by decide +kernel, rfl⟩
theorem d_c10_drawersFrom_4 : gD b_c10_drawersFrom 4 (.iload_n 3) 1 5 := ⟨by decide +kernel, rfl⟩
theorem d_c10_drawersFrom_5 : gD b_c10_drawersFrom 5 (.aload_n 0) 1 6 := ⟨by decide +kernel, rfl⟩
theorem d_c10_drawersFrom_6 : gD b_c10_drawersFrom 6 (.getfield 26) 3 9 := ⟨by decide +kernel, rfl⟩
theorem d_c10_drawersFrom_9 : gD b_c10_drawersFrom 9 (.getfield 274) 3 12 := ⟨by decide +kernel, rfl⟩
theorem d_c10_drawersFrom_12 : gJ b_c10_drawersFrom 12 (.if_icmp .ge 39) 3 39 15 51 := ⟨by decide +kernel, rfl, by decide⟩
theorem d_c10_drawersFrom_15 : gD b_c10_drawersFrom 15 (.aload_n 0) 1 16 := ⟨by decide +kernel, rfl⟩
theorem d_c10_drawersFrom_16 : gD b_c10_drawersFrom 16 (.getfield 33) 3 19 := ⟨by decide +kernel, rfl⟩
theorem d_c10_drawersFrom_19 : gD b_c10_drawersFrom 19 (.aload_n 0) 1 20 := ⟨by decide +kernel, rfl⟩
theorem d_c10_drawersFrom_20 : gD b_c10_drawersFrom 20 (.getfield 26) 3 23 := ⟨by decide +kernel, rfl⟩
theorem d_c10_drawersFrom_23 : gD b_c10_drawersFrom 23 (.aload_n 0) 1 24 := ⟨by decide +kernel, rfl⟩
theorem d_c10_drawersFrom_24 : gD b_c10_drawersFrom 24 (.getfield 26) 3 27 := ⟨by decide +kernel, rfl⟩
theorem d_c10_drawersFrom_27 : gD b_c10_drawersFrom 27 (.getfield 172) 3 30 := ⟨by decide +kernel, rfl⟩
theorem d_c10_drawersFrom_30 : gD b_c10_drawersFrom 30 (.iload_n 3) 1 31 := ⟨by decide +kernel, rfl⟩
theorem d_c10_drawersFrom_31 : gD b_c10_drawersFrom 31 .iaload 1 32 := ⟨by decide +kernel, rfl⟩
theorem d_c10_drawersFrom_32 : gD b_c10_drawersFrom 32 (.invokevirtual 178) 3 35 := ⟨by decide +kernel, rfl⟩
theorem d_c10_drawersFrom_35 : gD b_c10_drawersFrom 35 (.iload_n 1) 1 36 := ⟨by decide +kernel, rfl⟩
theorem d_c10_drawersFrom_36 : gJ b_c10_drawersFrom 36 (.if_icmp .ne 9) 3 9 39 45 := ⟨by decide +kernel, rfl, by decide⟩
theorem d_c10_drawersFrom_39 : gD b_c10_drawersFrom 39 (.iload_n 2) 1 40 := ⟨by decide +kernel, rfl⟩
theorem d_c10_drawersFrom_40 : gD b_c10_drawersFrom 40 (.iconst 1) 1 41 := ⟨by decide +kernel, rfl⟩
theorem d_c10_drawersFrom_41 : gD b_c10_drawersFrom 41 (.iload_n 3) 1 42 := ⟨by decide +kernel, rfl⟩
theorem d_c10_drawersFrom_42 : gD b_c10_drawersFrom 42 .ishl 1 43 := ⟨by decide +kernel, rfl⟩
theorem d_c10_drawersFrom_43 : gD b_c10_drawersFrom 43 .ior 1 44 := ⟨by decide +kernel, rfl⟩
theorem d_c10_drawersFrom_44 : gD b_c10_drawersFrom 44 (.istore_n 2) 1 45 := ⟨by decide +kernel, rfl⟩
theorem d_c10_drawersFrom_45 : gD b_c10_drawersFrom 45 (.iinc 3 1) 3 48 := ⟨by decide +kernel, rfl⟩
theorem d_c10_drawersFrom_48 : gJ b_c10_drawersFrom 48 (.goto (-44)) 3 (-44) 51 4 := ⟨by decide +kernel, rfl, by decide⟩
theorem d_c10_drawersFrom_51 : gD b_c10_drawersFrom 51 (.iload_n 2) 1 52 := ⟨by decide +kernel, rfl⟩
theorem d_c10_drawersFrom_52 : gD b_c10_drawersFrom 52 .ireturn 1 53 := ⟨by decide +kernel, rfl⟩
def lp_c10_drawersFrom_4 (N : Nat) (a0 : Nat) (x1 : Int32) (h : gH) : Nat → Int32 → Int32 → Option (Int32)
  | 0, _, _ => none
  | k + 1, x2, x3 =>
  (gfR h a0 10 2).bind fun v1 =>
    (gfI h v1 1 2).bind fun v2 =>
    if v2 ≤ x3 then
    some x2
  else
    (gfR h a0 10 3).bind fun v4 =>
    (gfR h a0 10 2).bind fun v5 =>
    (gfR h a0 10 2).bind fun v6 =>
    (gfR h v6 1 3).bind fun v7 =>
    (ga 0 h v7 x3).bind fun v8 =>
    (f_c7_nearestWater N v4 v5 v8 h).bind fun q9 =>
    (show Option (Int32) from if q9 = x1 then
    some (x2 ||| ((1 : Int32) <<< (x3 &&& 31)))
  else
    some x2).bind fun t11 =>
    lp_c10_drawersFrom_4 N a0 x1 h k t11 (x3 + (1 : Int32))
def f_c10_drawersFrom (N : Nat) (a0 : Nat) (x1 : Int32) (h : gH) : Option (Int32) :=
  (gcl h a0 10).bind fun _ =>
  (lp_c10_drawersFrom_4 N a0 x1 h N (0 : Int32) (0 : Int32)).bind fun o13 =>
    some o13
set_option maxHeartbeats 4000000 in
set_option maxRecDepth 100000 in
theorem wlp_c10_drawersFrom_4 {M : gM} {X : gX} {N : Nat} (hx : gEx X = false) (K : gC M X gN10 b_c10_drawersFrom 4 (gRm (4 + N) 0 0)) (a0 : Nat) (x1 : Int32) (h : gH) : ∀ (k : Nat) (x2 : Int32) (x3 : Int32) (o : Int32), lp_c10_drawersFrom_4 N a0 x1 h k x2 x3 = some o → gG M X 4 0 0 51 [(2, .int o)] [] h → gG M X 4 0 0 4 [(0, .ref a0), (1, .int x1), (2, .int x2), (3, .int x3)] [] h := by
  intro k
  induction k with
  | zero =>
    intro x2 x3 o hy
    rw [lp_c10_drawersFrom_4.eq_1] at hy
    cases hy
  | succ k ih =>
    intro x2 x3 o hy hE
    rw [lp_c10_drawersFrom_4.eq_2] at hy
    refine g_iload_n K d_c10_drawersFrom_4 3 rfl ?_
    refine g_aload_n K d_c10_drawersFrom_5 0 rfl ?_
    obtain ⟨v1, e_v1, hy⟩ := gBd hy
    refine g_getR K fl_c10_26 d_c10_drawersFrom_6 e_v1 ?_
    obtain ⟨v2, e_v2, hy⟩ := gBd hy
    refine g_getI K fl_c10_274 d_c10_drawersFrom_9 e_v2 ?_
    refine g_icmp_ge K d_c10_drawersFrom_12 (fun c3 => ?_) (fun c3 => ?_)
    · rw [if_pos c3] at hy
      refine g_sub (ls2 := [(2, .int x2)]) [2] rfl ?_
      obtain rfl := Option.some.inj hy
      exact hE
    · rw [if_neg c3] at hy
      refine g_aload_n K d_c10_drawersFrom_15 0 rfl ?_
      obtain ⟨v4, e_v4, hy⟩ := gBd hy
      refine g_getR K fl_c10_33 d_c10_drawersFrom_16 e_v4 ?_
      refine g_aload_n K d_c10_drawersFrom_19 0 rfl ?_
      obtain ⟨v5, e_v5, hy⟩ := gBd hy
      refine g_getR K fl_c10_26 d_c10_drawersFrom_20 e_v5 ?_
      refine g_aload_n K d_c10_drawersFrom_23 0 rfl ?_
      obtain ⟨v6, e_v6, hy⟩ := gBd hy
      refine g_getR K fl_c10_26 d_c10_drawersFrom_24 e_v6 ?_
      obtain ⟨v7, e_v7, hy⟩ := gBd hy
      refine g_getR K fl_c10_172 d_c10_drawersFrom_27 e_v7 ?_
      refine g_iload_n K d_c10_drawersFrom_30 3 rfl ?_
      obtain ⟨v8, e_v8, hy⟩ := gBd hy
      refine g_iald K d_c10_drawersFrom_31 e_v8 ?_
      obtain ⟨q9, e_q9, hy⟩ := gBd hy
      refine g_callVi (rest := []) K hx ly_c7_nearestWater kv_c10_178 d_c10_drawersFrom_32 (ct_c7_nearestWater M.2.1 X hx N v4 v5 v8 h q9 e_q9) rfl rfl (Nat.le_of_ble_eq_true rfl) (gDep rfl) ⟨Nat.le_refl 0, Nat.le_refl 0⟩ ?_
      refine g_iload_n K d_c10_drawersFrom_35 1 rfl ?_
      obtain ⟨t11, e_t11, hy⟩ := gBd hy
      have hJ12 : gG M X 4 0 0 45 [(0, .ref a0), (1, .int x1), (2, .int t11), (3, .int x3)] [] h := by
        refine g_iinc (ls2 := [(3, .int (x3 + (1 : Int32))), (0, .ref a0), (1, .int x1), (2, .int t11)]) (v := 1) K d_c10_drawersFrom_45 3 rfl (by decide) rfl rfl ?_
        refine g_goto K d_c10_drawersFrom_48 ?_
        refine g_sub (ls2 := [(0, .ref a0), (1, .int x1), (2, .int t11), (3, .int (x3 + (1 : Int32)))]) [1, 2, 3, 0] rfl ?_
        exact ih _ _ _ hy hE
      refine g_icmp_ne K d_c10_drawersFrom_36 (fun c10 => ?_) (fun c10 => ?_)
      · rw [if_neg c10] at e_t11
        obtain rfl := Option.some.inj e_t11
        exact hJ12
      · rw [if_pos c10] at e_t11
        refine g_iload_n K d_c10_drawersFrom_39 2 rfl ?_
        refine g_iconst (v := 1) K d_c10_drawersFrom_40 (by decide) ?_
        refine g_iload_n K d_c10_drawersFrom_41 3 rfl ?_
        refine g_ishl K d_c10_drawersFrom_42 ?_
        refine g_ior K d_c10_drawersFrom_43 ?_
        refine g_istore_n (ls2 := [(2, .int (x2 ||| ((1 : Int32) <<< (x3 &&& 31)))), (0, .ref a0), (1, .int x1), (3, .int x3)]) K d_c10_drawersFrom_44 rfl rfl ?_
        refine g_sub (ls2 := [(0, .ref a0), (1, .int x1), (2, .int (x2 ||| ((1 : Int32) <<< (x3 &&& 31)))), (3, .int x3)]) [1, 2, 0, 3] rfl ?_
        obtain rfl := Option.some.inj e_t11
        exact hJ12
set_option maxHeartbeats 4000000 in
set_option maxRecDepth 100000 in
theorem ct_c10_drawersFrom (l : Launch) (X : gX) (hx : gEx X = false) (N : Nat) (a0 : Nat) (x1 : Int32) (h : gH) (q : Int32) (hy : f_c10_drawersFrom N a0 x1 h = some q) : gRc y_c10_drawersFrom h a0 ∧ gMi l X y_c10_drawersFrom b_c10_drawersFrom 4 .int (4 + N) 0 0 [.ref a0, .int x1] h q h := by
  unfold f_c10_drawersFrom at hy
  obtain ⟨u0, e_u0, hy⟩ := gBd hy
  cases u0
  refine ⟨Or.inl ⟨10, _, _, e_u0, rfl⟩, gMet_i (lsx := [(0, .ref a0), (1, .int x1)]) (by decide) rfl rfl ?_⟩
  intro M hMl K hret
  subst hMl
  refine g_iconst (v := 0) K d_c10_drawersFrom_0 (by decide) ?_
  refine g_istore_n (ls2 := [(2, .int (0 : Int32)), (0, .ref a0), (1, .int x1)]) K d_c10_drawersFrom_1 rfl rfl ?_
  refine g_iconst (v := 0) K d_c10_drawersFrom_2 (by decide) ?_
  refine g_istore_n (ls2 := [(3, .int (0 : Int32)), (2, .int (0 : Int32)), (0, .ref a0), (1, .int x1)]) K d_c10_drawersFrom_3 rfl rfl ?_
  obtain ⟨o13, e_o13, hy⟩ := gBd hy
  refine g_sub (ls2 := [(0, .ref a0), (1, .int x1), (2, .int (0 : Int32)), (3, .int (0 : Int32))]) [2, 3, 1, 0] rfl ?_
  refine wlp_c10_drawersFrom_4 hx K a0 x1 h N (0 : Int32) (0 : Int32) o13 e_o13 ?_
  refine g_iload_n K d_c10_drawersFrom_51 0 rfl ?_
  obtain rfl := Option.some.inj hy
  exact hret rfl _ _ _ d_c10_drawersFrom_52
-- c10 dry
theorem d_c10_dry_0 : gD b_c10_dry 0 (.iload_n 1) 1 1 := ⟨by decide +kernel, rfl⟩
theorem d_c10_dry_1 : gD b_c10_dry 1 (.invokestatic 271) 3 4 := ⟨by decide +kernel, rfl⟩
theorem d_c10_dry_4 : gJ b_c10_dry 4 (.ifCond .ne 7) 3 7 7 11 := ⟨by decide +kernel, rfl, by decide⟩
theorem d_c10_dry_7 : gD b_c10_dry 7 (.ldc2_w 334) 3 10 := ⟨by decide +kernel, rfl⟩
theorem d_c10_dry_10 : gD b_c10_dry 10 .lreturn 1 11 := ⟨by decide +kernel, rfl⟩
theorem d_c10_dry_11 : gD b_c10_dry 11 (.lconst 0) 1 12 := ⟨by decide +kernel, rfl⟩
theorem d_c10_dry_12 : gD b_c10_dry 12 (.lstore_n 2) 1 13 := ⟨by decide +kernel, rfl⟩
theorem d_c10_dry_13 : gD b_c10_dry 13 (.iconst 0) 1 14 := ⟨by decide +kernel, rfl⟩
theorem d_c10_dry_14 : gD b_c10_dry 14 (.istore 4) 2 16 := ⟨by decide +kernel, rfl⟩
theorem d_c10_dry_16 : gD b_c10_dry 16 (.iconst 0) 1 17 := ⟨by decide +kernel, rfl⟩
theorem d_c10_dry_17 : gD b_c10_dry 17 (.istore 5) 2 19 := ⟨by decide +kernel, rfl⟩
theorem d_c10_dry_19 : gD b_c10_dry 19 (.iload 5) 2 21 := ⟨by decide +kernel, rfl⟩
theorem d_c10_dry_21 : gD b_c10_dry 21 (.aload_n 0) 1 22 := ⟨by decide +kernel, rfl⟩
theorem d_c10_dry_22 : gD b_c10_dry 22 (.getfield 26) 3 25 := ⟨by decide +kernel, rfl⟩
theorem d_c10_dry_25 : gD b_c10_dry 25 (.invokevirtual 120) 3 28 := ⟨by decide +kernel, rfl⟩
theorem d_c10_dry_28 : gJ b_c10_dry 28 (.if_icmp .ge 36) 3 36 31 64 := ⟨by decide +kernel, rfl, by decide⟩
theorem d_c10_dry_31 : gD b_c10_dry 31 (.aload_n 0) 1 32 := ⟨by decide +kernel, rfl⟩
theorem d_c10_dry_32 : gD b_c10_dry 32 (.getfield 33) 3 35 := ⟨by decide +kernel, rfl⟩
theorem d_c10_dry_35 : gD b_c10_dry 35 (.aload_n 0) 1 36 := ⟨by decide +kernel, rfl⟩
theorem d_c10_dry_36 : gD b_c10_dry 36 (.getfield 26) 3 39 := ⟨by decide +kernel, rfl⟩
theorem d_c10_dry_39 : gD b_c10_dry 39 (.iload 5) 2 41 := ⟨by decide +kernel, rfl⟩
theorem d_c10_dry_41 : gD b_c10_dry 41 (.iload_n 1) 1 42 := ⟨by decide +kernel, rfl⟩
theorem d_c10_dry_42 : gD b_c10_dry 42 (.invokevirtual 336) 3 45 := ⟨by decide +kernel, rfl⟩
theorem d_c10_dry_45 : gJ b_c10_dry 45 (.ifCond .ne 13) 3 13 48 58 := ⟨by decide +kernel, rfl, by decide⟩
theorem d_c10_dry_48 : gD b_c10_dry 48 (.lload_n 2) 1 49 := ⟨by decide +kernel, rfl⟩
theorem d_c10_dry_49 : gD b_c10_dry 49 (.lconst 1) 1 50 := ⟨by decide +kernel, rfl⟩
theorem d_c10_dry_50 : gD b_c10_dry 50 (.iload 5) 2 52 := ⟨by decide +kernel, rfl⟩
theorem d_c10_dry_52 : gD b_c10_dry 52 .lshl 1 53 := ⟨by decide +kernel, rfl⟩
theorem d_c10_dry_53 : gD b_c10_dry 53 .lor 1 54 := ⟨by decide +kernel, rfl⟩
theorem d_c10_dry_54 : gD b_c10_dry 54 (.lstore_n 2) 1 55 := ⟨by decide +kernel, rfl⟩
theorem d_c10_dry_55 : gD b_c10_dry 55 (.iinc 4 1) 3 58 := ⟨by decide +kernel, rfl⟩
theorem d_c10_dry_58 : gD b_c10_dry 58 (.iinc 5 1) 3 61 := ⟨by decide +kernel, rfl⟩
theorem d_c10_dry_61 : gJ b_c10_dry 61 (.goto (-42)) 3 (-42) 64 19 := ⟨by decide +kernel, rfl, by decide⟩
theorem d_c10_dry_64 : gD b_c10_dry 64 (.iconst 0) 1 65 := ⟨by decide +kernel, rfl⟩
theorem d_c10_dry_65 : gD b_c10_dry 65 (.istore 5) 2 67 := ⟨by decide +kernel, rfl⟩
theorem d_c10_dry_67 : gD b_c10_dry 67 (.iconst 0) 1 68 := ⟨by decide +kernel, rfl⟩
theorem d_c10_dry_68 : gD b_c10_dry 68 (.istore 6) 2 70 := ⟨by decide +kernel, rfl⟩
theorem d_c10_dry_70 : gD b_c10_dry 70 (.iload 6) 2 72 := ⟨by decide +kernel, rfl⟩
theorem d_c10_dry_72 : gD b_c10_dry 72 (.aload_n 0) 1 73 := ⟨by decide +kernel, rfl⟩
theorem d_c10_dry_73 : gD b_c10_dry 73 (.getfield 26) 3 76 := ⟨by decide +kernel, rfl⟩
theorem d_c10_dry_76 : gD b_c10_dry 76 (.getfield 274) 3 79 := ⟨by decide +kernel, rfl⟩
theorem d_c10_dry_79 : gJ b_c10_dry 79 (.if_icmp .ge 29) 3 29 82 108 := ⟨by decide +kernel, rfl, by decide⟩
theorem d_c10_dry_82 : gD b_c10_dry 82 (.iload 5) 2 84 := ⟨by decide +kernel, rfl⟩
theorem d_c10_dry_84 : gD b_c10_dry 84 (.lload_n 2) 1 85 := ⟨by decide +kernel, rfl⟩
theorem d_c10_dry_85 : gD b_c10_dry 85 (.aload_n 0) 1 86 := ⟨by decide +kernel, rfl⟩
theorem d_c10_dry_86 : gD b_c10_dry 86 (.getfield 26) 3 89 := ⟨by decide +kernel, rfl⟩
theorem d_c10_dry_89 : gD b_c10_dry 89 (.getfield 172) 3 92 := ⟨by decide +kernel, rfl⟩
theorem d_c10_dry_92 : gD b_c10_dry 92 (.iload 6) 2 94 := ⟨by decide +kernel, rfl⟩
theorem d_c10_dry_94 : gD b_c10_dry 94 .iaload 1 95 := ⟨by decide +kernel, rfl⟩
theorem d_c10_dry_95 : gD b_c10_dry 95 .lushr 1 96 := ⟨by decide +kernel, rfl⟩
theorem d_c10_dry_96 : gD b_c10_dry 96 (.lconst 1) 1 97 := ⟨by decide +kernel, rfl⟩
theorem d_c10_dry_97 : gD b_c10_dry 97 .land 1 98 := ⟨by decide +kernel, rfl⟩
theorem d_c10_dry_98 : gD b_c10_dry 98 .l2i 1 99 := ⟨by decide +kernel, rfl⟩
theorem d_c10_dry_99 : gD b_c10_dry 99 .iadd 1 100 := ⟨by decide +kernel, rfl⟩
theorem d_c10_dry_100 : gD b_c10_dry 100 (.istore 5) 2 102 := ⟨by decide +kernel, rfl⟩
theorem d_c10_dry_102 : gD b_c10_dry 102 (.iinc 6 1) 3 105 := ⟨by decide +kernel, rfl⟩
theorem d_c10_dry_105 : gJ b_c10_dry 105 (.goto (-35)) 3 (-35) 108 70 := ⟨by decide +kernel, rfl, by decide⟩
theorem d_c10_dry_108 : gD b_c10_dry 108 (.aload_n 0) 1 109 := ⟨by decide +kernel, rfl⟩
theorem d_c10_dry_109 : gD b_c10_dry 109 (.iconst 0) 1 110 := ⟨by decide +kernel, rfl⟩
theorem d_c10_dry_110 : gD b_c10_dry 110 (.iload 4) 2 112 := ⟨by decide +kernel, rfl⟩
theorem d_c10_dry_112 : gD b_c10_dry 112 .i2l 1 113 := ⟨by decide +kernel, rfl⟩
theorem d_c10_dry_113 : gD b_c10_dry 113 (.iload 5) 2 115 := ⟨by decide +kernel, rfl⟩
theorem d_c10_dry_115 : gD b_c10_dry 115 .i2l 1 116 := ⟨by decide +kernel, rfl⟩
theorem d_c10_dry_116 : gD b_c10_dry 116 (.invokevirtual 205) 3 119 := ⟨by decide +kernel, rfl⟩
theorem d_c10_dry_119 : gD b_c10_dry 119 .pop 1 120 := ⟨by decide +kernel, rfl⟩
theorem d_c10_dry_120 : gD b_c10_dry 120 (.lload_n 2) 1 121 := ⟨by decide +kernel, rfl⟩
theorem d_c10_dry_121 : gD b_c10_dry 121 .lreturn 1 122 := ⟨by decide +kernel, rfl⟩
def lp_c10_dry_19 (N : Nat) (a0 : Nat) (x1 : Int32) (h : gH) : Nat → Int64 → Int32 → Int32 → Option (Int64 × Int32)
  | 0, _, _, _ => none
  | k + 1, y2, x4, x5 =>
  (gfR h a0 10 2).bind fun v3 =>
    (f_c1_fields N v3 h).bind fun q4 =>
    if q4 ≤ x5 then
    some (y2, x4)
  else
    (gfR h a0 10 3).bind fun v6 =>
    (gfR h a0 10 2).bind fun v7 =>
    (f_c7_hasWellNear N v6 v7 x5 x1 h).bind fun q8 =>
    (show Option (Int64 × Int32) from if q8 = 0 then
    some (y2 ||| ((1 : Int64) <<< (x5.toInt64 &&& 63)), x4 + (1 : Int32))
  else
    some (y2, x4)).bind fun t10 =>
    lp_c10_dry_19 N a0 x1 h k t10.1 t10.2 (x5 + (1 : Int32))
def lp_c10_dry_70 (N : Nat) (a0 : Nat) (y2 : Int64) (h : gH) : Nat → Int32 → Int32 → Option (Int32)
  | 0, _, _ => none
  | k + 1, x5, x6 =>
  (gfR h a0 10 2).bind fun v13 =>
    (gfI h v13 1 2).bind fun v14 =>
    if v14 ≤ x6 then
    some x5
  else
    (gfR h a0 10 2).bind fun v16 =>
    (gfR h v16 1 3).bind fun v17 =>
    (ga 0 h v17 x6).bind fun v18 =>
    lp_c10_dry_70 N a0 y2 h k (x5 + ((((y2.toUInt64 >>> (v18.toInt64.toUInt64 &&& Int64.toUInt64 63)).toInt64) &&& (1 : Int64)).toInt32)) (x6 + (1 : Int32))
def f_c10_dry (N : Nat) (a0 : Nat) (x1 : Int32) (h : gH) : Option (Int64 × gH) :=
  (gcl h a0 10).bind fun _ =>
  (f_c10_isFar N x1 h).bind fun q1 =>
    if q1 = 0 then
    some ((-1 : Int64), h)
  else
    (lp_c10_dry_19 N a0 x1 h N (0 : Int64) (0 : Int32) (0 : Int32)).bind fun o12 =>
    (lp_c10_dry_70 N a0 o12.1 h N (0 : Int32) (0 : Int32)).bind fun o19 =>
    (f_c10_tellTwo N a0 (0 : Int32) o12.2.toInt64 o19.toInt64 h).bind fun q20 =>
    some (o12.1, q20.2)
set_option maxHeartbeats 4000000 in
set_option maxRecDepth 100000 in
theorem wlp_c10_dry_19 {M : gM} {X : gX} {N : Nat} (hx : gEx X = false) (K : gC M X gN10 b_c10_dry 7 (gRm (4 + N) 0 0)) (a0 : Nat) (x1 : Int32) (h : gH) : ∀ (k : Nat) (y2 : Int64) (x4 : Int32) (x5 : Int32) (o : Int64 × Int32), lp_c10_dry_19 N a0 x1 h k y2 x4 x5 = some o → gG M X 7 0 0 64 [(0, .ref a0), (2, .long o.1), (4, .int o.2)] [] h → gG M X 7 0 0 19 [(0, .ref a0), (1, .int x1), (2, .long y2), (4, .int x4), (5, .int x5)] [] h := by
  intro k
  induction k with
  | zero =>
    intro y2 x4 x5 o hy
    rw [lp_c10_dry_19.eq_1] at hy
    cases hy
  | succ k ih =>
    intro y2 x4 x5 o hy hE
    rw [lp_c10_dry_19.eq_2] at hy
    refine g_iload K d_c10_dry_19 4 rfl ?_
    refine g_aload_n K d_c10_dry_21 0 rfl ?_
    obtain ⟨v3, e_v3, hy⟩ := gBd hy
    refine g_getR K fl_c10_26 d_c10_dry_22 e_v3 ?_
    obtain ⟨q4, e_q4, hy⟩ := gBd hy
    refine g_callVi (rest := [.int x5]) K hx ly_c1_fields kv_c10_120 d_c10_dry_25 (ct_c1_fields M.2.1 X hx N v3 h q4 e_q4) rfl rfl (Nat.le_of_ble_eq_true rfl) (gDep rfl) ⟨Nat.le_refl 0, Nat.le_refl 0⟩ ?_
    refine g_icmp_ge K d_c10_dry_28 (fun c5 => ?_) (fun c5 => ?_)
    · rw [if_pos c5] at hy
      refine g_sub (ls2 := [(0, .ref a0), (2, .long y2), (4, .int x4)]) [0, 2, 3] rfl ?_
      obtain rfl := Option.some.inj hy
      exact hE
    · rw [if_neg c5] at hy
      refine g_aload_n K d_c10_dry_31 0 rfl ?_
      obtain ⟨v6, e_v6, hy⟩ := gBd hy
      refine g_getR K fl_c10_33 d_c10_dry_32 e_v6 ?_
      refine g_aload_n K d_c10_dry_35 0 rfl ?_
      obtain ⟨v7, e_v7, hy⟩ := gBd hy
      refine g_getR K fl_c10_26 d_c10_dry_36 e_v7 ?_
      refine g_iload K d_c10_dry_39 4 rfl ?_
      refine g_iload_n K d_c10_dry_41 1 rfl ?_
      obtain ⟨q8, e_q8, hy⟩ := gBd hy
      refine g_callVi (rest := []) K hx ly_c7_hasWellNear kv_c10_336 d_c10_dry_42 (ct_c7_hasWellNear M.2.1 X hx N v6 v7 x5 x1 h q8 e_q8) rfl rfl (Nat.le_of_ble_eq_true rfl) (gDep rfl) ⟨Nat.le_refl 0, Nat.le_refl 0⟩ ?_
      obtain ⟨t10, e_t10, hy⟩ := gBd hy
      have hJ11 : gG M X 7 0 0 58 [(0, .ref a0), (1, .int x1), (2, .long t10.1), (4, .int t10.2), (5, .int x5)] [] h := by
        refine g_iinc (ls2 := [(5, .int (x5 + (1 : Int32))), (0, .ref a0), (1, .int x1), (2, .long t10.1), (4, .int t10.2)]) (v := 1) K d_c10_dry_58 4 rfl (by decide) rfl rfl ?_
        refine g_goto K d_c10_dry_61 ?_
        refine g_sub (ls2 := [(0, .ref a0), (1, .int x1), (2, .long t10.1), (4, .int t10.2), (5, .int (x5 + (1 : Int32)))]) [1, 2, 3, 4, 0] rfl ?_
        exact ih _ _ _ _ hy hE
      refine g_if_ne K d_c10_dry_45 (fun c9 => ?_) (fun c9 => ?_)
      · rw [if_neg c9] at e_t10
        obtain rfl := Option.some.inj e_t10
        exact hJ11
      · rw [if_pos c9] at e_t10
        refine g_lload_n K d_c10_dry_48 2 rfl ?_
        refine g_lconst (v := 1) K d_c10_dry_49 (by decide) ?_
        refine g_iload K d_c10_dry_50 4 rfl ?_
        refine g_lshl K d_c10_dry_52 ?_
        refine g_lor K d_c10_dry_53 ?_
        refine g_lstore_n (ls2 := [(2, .long (y2 ||| ((1 : Int64) <<< (x5.toInt64 &&& 63)))), (0, .ref a0), (1, .int x1), (4, .int x4), (5, .int x5)]) K d_c10_dry_54 rfl rfl ?_
        refine g_iinc (ls2 := [(4, .int (x4 + (1 : Int32))), (2, .long (y2 ||| ((1 : Int64) <<< (x5.toInt64 &&& 63)))), (0, .ref a0), (1, .int x1), (5, .int x5)]) (v := 1) K d_c10_dry_55 3 rfl (by decide) rfl rfl ?_
        refine g_sub (ls2 := [(0, .ref a0), (1, .int x1), (2, .long (y2 ||| ((1 : Int64) <<< (x5.toInt64 &&& 63)))), (4, .int (x4 + (1 : Int32))), (5, .int x5)]) [2, 3, 1, 0, 4] rfl ?_
        obtain rfl := Option.some.inj e_t10
        exact hJ11
set_option maxHeartbeats 4000000 in
set_option maxRecDepth 100000 in
theorem wlp_c10_dry_70 {M : gM} {X : gX} {N : Nat} (hx : gEx X = false) (K : gC M X gN10 b_c10_dry 7 (gRm (4 + N) 0 0)) (a0 : Nat) (y2 : Int64) (x4 : Int32) (h : gH) : ∀ (k : Nat) (x5 : Int32) (x6 : Int32) (o : Int32), lp_c10_dry_70 N a0 y2 h k x5 x6 = some o → gG M X 7 0 0 108 [(0, .ref a0), (2, .long y2), (4, .int x4), (5, .int o)] [] h → gG M X 7 0 0 70 [(0, .ref a0), (2, .long y2), (4, .int x4), (5, .int x5), (6, .int x6)] [] h := by
  intro k
  induction k with
  | zero =>
    intro x5 x6 o hy
    rw [lp_c10_dry_70.eq_1] at hy
    cases hy
  | succ k ih =>
    intro x5 x6 o hy hE
    rw [lp_c10_dry_70.eq_2] at hy
    refine g_iload K d_c10_dry_70 4 rfl ?_
    refine g_aload_n K d_c10_dry_72 0 rfl ?_
    obtain ⟨v13, e_v13, hy⟩ := gBd hy
    refine g_getR K fl_c10_26 d_c10_dry_73 e_v13 ?_
    obtain ⟨v14, e_v14, hy⟩ := gBd hy
    refine g_getI K fl_c10_274 d_c10_dry_76 e_v14 ?_
    refine g_icmp_ge K d_c10_dry_79 (fun c15 => ?_) (fun c15 => ?_)
    · rw [if_pos c15] at hy
      refine g_sub (ls2 := [(0, .ref a0), (2, .long y2), (4, .int x4), (5, .int x5)]) [0, 1, 2, 3] rfl ?_
      obtain rfl := Option.some.inj hy
      exact hE
    · rw [if_neg c15] at hy
      refine g_iload K d_c10_dry_82 3 rfl ?_
      refine g_lload_n K d_c10_dry_84 1 rfl ?_
      refine g_aload_n K d_c10_dry_85 0 rfl ?_
      obtain ⟨v16, e_v16, hy⟩ := gBd hy
      refine g_getR K fl_c10_26 d_c10_dry_86 e_v16 ?_
      obtain ⟨v17, e_v17, hy⟩ := gBd hy
      refine g_getR K fl_c10_172 d_c10_dry_89 e_v17 ?_
      refine g_iload K d_c10_dry_92 4 rfl ?_
      obtain ⟨v18, e_v18, hy⟩ := gBd hy
      refine g_iald K d_c10_dry_94 e_v18 ?_
      refine g_lushr K d_c10_dry_95 ?_
      refine g_lconst (v := 1) K d_c10_dry_96 (by decide) ?_
      refine g_land K d_c10_dry_97 ?_
      refine g_l2i K d_c10_dry_98 ?_
      refine g_iadd K d_c10_dry_99 ?_
      refine g_istore (ls2 := [(5, .int (x5 + ((((y2.toUInt64 >>> (v18.toInt64.toUInt64 &&& Int64.toUInt64 63)).toInt64) &&& (1 : Int64)).toInt32))), (0, .ref a0), (2, .long y2), (4, .int x4), (6, .int x6)]) K d_c10_dry_100 rfl rfl ?_
      refine g_iinc (ls2 := [(6, .int (x6 + (1 : Int32))), (5, .int (x5 + ((((y2.toUInt64 >>> (v18.toInt64.toUInt64 &&& Int64.toUInt64 63)).toInt64) &&& (1 : Int64)).toInt32))), (0, .ref a0), (2, .long y2), (4, .int x4)]) (v := 1) K d_c10_dry_102 4 rfl (by decide) rfl rfl ?_
      refine g_goto K d_c10_dry_105 ?_
      refine g_sub (ls2 := [(0, .ref a0), (2, .long y2), (4, .int x4), (5, .int (x5 + ((((y2.toUInt64 >>> (v18.toInt64.toUInt64 &&& Int64.toUInt64 63)).toInt64) &&& (1 : Int64)).toInt32))), (6, .int (x6 + (1 : Int32)))]) [2, 3, 4, 1, 0] rfl ?_
      exact ih _ _ _ hy hE
set_option maxHeartbeats 4000000 in
set_option maxRecDepth 100000 in
theorem ct_c10_dry (l : Launch) (X : gX) (hx : gEx X = false) (N : Nat) (a0 : Nat) (x1 : Int32) (h : gH) (q : Int64 × gH) (hy : f_c10_dry N a0 x1 h = some q) : gRc y_c10_dry h a0 ∧ gMl l X y_c10_dry b_c10_dry 7 (4 + N) 0 0 [.ref a0, .int x1] h q.1 q.2 := by
  unfold f_c10_dry at hy
  obtain ⟨u0, e_u0, hy⟩ := gBd hy
  cases u0
  refine ⟨Or.inl ⟨10, _, _, e_u0, rfl⟩, gMet_l (lsx := [(0, .ref a0), (1, .int x1)]) (by decide) rfl rfl ?_⟩
  intro M hMl K hret
  subst hMl
  refine g_iload_n K d_c10_dry_0 1 rfl ?_
  obtain ⟨q1, e_q1, hy⟩ := gBd hy
  refine g_callSi (rest := []) K hx ly_c10_isFar ks_c10_271 d_c10_dry_1 (ct_c10_isFar M.2.1 X hx N x1 h q1 e_q1) rfl rfl (Nat.le_of_ble_eq_true rfl) (gDep rfl) ⟨Nat.le_refl 0, Nat.le_refl 0⟩ ?_
  refine g_if_ne K d_c10_dry_4 (fun c2 => ?_) (fun c2 => ?_)
  · rw [if_neg c2] at hy
    refine g_lconst (v := 0) K d_c10_dry_11 (by decide) ?_
    refine g_lstore_n (ls2 := [(2, .long (0 : Int64)), (0, .ref a0), (1, .int x1)]) K d_c10_dry_12 rfl rfl ?_
    refine g_iconst (v := 0) K d_c10_dry_13 (by decide) ?_
    refine g_istore (ls2 := [(4, .int (0 : Int32)), (2, .long (0 : Int64)), (0, .ref a0), (1, .int x1)]) K d_c10_dry_14 rfl rfl ?_
    refine g_iconst (v := 0) K d_c10_dry_16 (by decide) ?_
    refine g_istore (ls2 := [(5, .int (0 : Int32)), (4, .int (0 : Int32)), (2, .long (0 : Int64)), (0, .ref a0), (1, .int x1)]) K d_c10_dry_17 rfl rfl ?_
    obtain ⟨o12, e_o12, hy⟩ := gBd hy
    refine g_sub (ls2 := [(0, .ref a0), (1, .int x1), (2, .long (0 : Int64)), (4, .int (0 : Int32)), (5, .int (0 : Int32))]) [3, 4, 2, 1, 0] rfl ?_
    refine wlp_c10_dry_19 hx K a0 x1 h N (0 : Int64) (0 : Int32) (0 : Int32) o12 e_o12 ?_
    refine g_iconst (v := 0) K d_c10_dry_64 (by decide) ?_
    refine g_istore (ls2 := [(5, .int (0 : Int32)), (0, .ref a0), (2, .long o12.1), (4, .int o12.2)]) K d_c10_dry_65 rfl rfl ?_
    refine g_iconst (v := 0) K d_c10_dry_67 (by decide) ?_
    refine g_istore (ls2 := [(6, .int (0 : Int32)), (5, .int (0 : Int32)), (0, .ref a0), (2, .long o12.1), (4, .int o12.2)]) K d_c10_dry_68 rfl rfl ?_
    obtain ⟨o19, e_o19, hy⟩ := gBd hy
    refine g_sub (ls2 := [(0, .ref a0), (2, .long o12.1), (4, .int o12.2), (5, .int (0 : Int32)), (6, .int (0 : Int32))]) [2, 3, 4, 1, 0] rfl ?_
    refine wlp_c10_dry_70 hx K a0 o12.1 o12.2 h N (0 : Int32) (0 : Int32) o19 e_o19 ?_
    refine g_aload_n K d_c10_dry_108 0 rfl ?_
    refine g_iconst (v := 0) K d_c10_dry_109 (by decide) ?_
    refine g_iload K d_c10_dry_110 2 rfl ?_
    refine g_i2l K d_c10_dry_112 ?_
    refine g_iload K d_c10_dry_113 3 rfl ?_
    refine g_i2l K d_c10_dry_115 ?_
    obtain ⟨q20, e_q20, hy⟩ := gBd hy
    refine g_callVi (rest := []) K hx ly_c10_tellTwo kv_c10_205 d_c10_dry_116 (ct_c10_tellTwo M.2.1 X hx N a0 (0 : Int32) o12.2.toInt64 o19.toInt64 h q20 e_q20) rfl rfl (Nat.le_of_ble_eq_true rfl) (gDep rfl) ⟨Nat.le_refl 0, Nat.le_refl 0⟩ ?_
    refine g_pop K d_c10_dry_119 rfl ?_
    refine g_lload_n K d_c10_dry_120 1 rfl ?_
    obtain rfl := Option.some.inj hy
    exact hret _ _ _ d_c10_dry_121
  · rw [if_pos c2] at hy
    refine g_ldc2 (v := (-1)) K d_c10_dry_7 (gTk_4 111 rfl rfl) ?_
    obtain rfl := Option.some.inj hy
    exact hret _ _ _ d_c10_dry_10
-- c10 keep
theorem d_c10_keep_0 : gD b_c10_keep 0 (.aload_n 0) 1 1 := ⟨by decide +kernel, rfl⟩
theorem d_c10_keep_1 : gD b_c10_keep 1 (.getfield 53) 3 4 := ⟨by decide +kernel, rfl⟩
theorem d_c10_keep_4 : gD b_c10_keep 4 (.iload_n 1) 1 5 := ⟨by decide +kernel, rfl⟩
theorem d_c10_keep_5 : gD b_c10_keep 5 (.aload_n 0) 1 6 := ⟨by decide +kernel, rfl⟩
theorem d_c10_keep_6 : gD b_c10_keep 6 (.getfield 33) 3 9 := ⟨by decide +kernel, rfl⟩
theorem d_c10_keep_9 : gD b_c10_keep 9 (.invokevirtual 407) 3 12 := ⟨by decide +kernel, rfl⟩
theorem d_c10_keep_12 : gD b_c10_keep 12 .ireturn 1 13 := ⟨by decide +kernel, rfl⟩
def f_c10_keep (N : Nat) (a0 : Nat) (x1 : Int32) (h : gH) : Option (Int32 × gH) :=
  (gcl h a0 10).bind fun _ =>
  (gfR h a0 10 7).bind fun v1 =>
    (gfR h a0 10 3).bind fun v2 =>
    (f_c5_store N v1 x1 v2 h).bind fun q3 =>
    (gZ q3.1).bind fun w4 => some (w4, q3.2)
set_option maxHeartbeats 4000000 in
set_option maxRecDepth 100000 in
theorem ct_c10_keep (l : Launch) (X : gX) (hx : gEx X = false) (N : Nat) (a0 : Nat) (x1 : Int32) (h : gH) (q : Int32 × gH) (hy : f_c10_keep N a0 x1 h = some q) : gRc y_c10_keep h a0 ∧ gMi l X y_c10_keep b_c10_keep 2 .boolean (4 + N) 0 0 [.ref a0, .int x1] h q.1 q.2 := by
  unfold f_c10_keep at hy
  obtain ⟨u0, e_u0, hy⟩ := gBd hy
  cases u0
  refine ⟨Or.inl ⟨10, _, _, e_u0, rfl⟩, gMet_i (lsx := [(0, .ref a0), (1, .int x1)]) (by decide) rfl rfl ?_⟩
  intro M hMl K hret
  subst hMl
  refine g_aload_n K d_c10_keep_0 0 rfl ?_
  obtain ⟨v1, e_v1, hy⟩ := gBd hy
  refine g_getR K fl_c10_53 d_c10_keep_1 e_v1 ?_
  refine g_iload_n K d_c10_keep_4 1 rfl ?_
  refine g_aload_n K d_c10_keep_5 0 rfl ?_
  obtain ⟨v2, e_v2, hy⟩ := gBd hy
  refine g_getR K fl_c10_33 d_c10_keep_6 e_v2 ?_
  obtain ⟨q3, e_q3, hy⟩ := gBd hy
  refine g_callVi (rest := []) K hx ly_c5_store kv_c10_407 d_c10_keep_9 (ct_c5_store M.2.1 X hx N v1 x1 v2 h q3 e_q3) rfl rfl (Nat.le_of_ble_eq_true rfl) (gDep rfl) ⟨Nat.le_refl 0, Nat.le_refl 0⟩ ?_
  obtain ⟨w4, e_w4, hy⟩ := gBd hy
  obtain ⟨z_w4, n_w4⟩ := gZ_spec e_w4
  rw [z_w4]
  obtain rfl := Option.some.inj hy
  exact hret (gZn n_w4) _ _ _ d_c10_keep_12
-- c10 meant
theorem d_c10_meant_0 : gD b_c10_meant 0 (.iload_n 1) 1 1 := ⟨by decide +kernel, rfl⟩
theorem d_c10_meant_1 : gD b_c10_meant 1 (.invokestatic 367) 3 4 := ⟨by decide +kernel, rfl⟩
theorem d_c10_meant_4 : gJ b_c10_meant 4 (.ifCond .eq 41) 3 41 7 45 := ⟨by decide +kernel, rfl, by decide⟩
theorem d_c10_meant_7 : gD b_c10_meant 7 (.iload_n 2) 1 8 := ⟨by decide +kernel, rfl⟩
theorem d_c10_meant_8 : gD b_c10_meant 8 (.invokestatic 367) 3 11 := ⟨by decide +kernel, rfl⟩
theorem d_c10_meant_11 : gJ b_c10_meant 11 (.ifCond .eq 34) 3 34 14 45 := ⟨by decide +kernel, rfl, by decide⟩
theorem d_c10_meant_14 : gD b_c10_meant 14 (.iload_n 3) 1 15 := ⟨by decide +kernel, rfl⟩
theorem d_c10_meant_15 : gD b_c10_meant 15 (.invokestatic 367) 3 18 := ⟨by decide +kernel, rfl⟩
theorem d_c10_meant_18 : gJ b_c10_meant 18 (.ifCond .eq 27) 3 27 21 45 := ⟨by decide +kernel, rfl, by decide⟩
theorem d_c10_meant_21 : gD b_c10_meant 21 (.iload 4) 2 23 := ⟨by decide +kernel, rfl⟩
theorem d_c10_meant_23 : gJ b_c10_meant 23 (.ifCond .lt 22) 3 22 26 45 := ⟨by decide +kernel, rfl, by decide⟩
theorem d_c10_meant_26 : gD b_c10_meant 26 (.iload 4) 2 28 := ⟨by decide +kernel, rfl⟩
theorem d_c10_meant_28 : gD b_c10_meant 28 (.bipush 7) 2 30 := ⟨by decide +kernel, rfl⟩
theorem d_c10_meant_30 : gJ b_c10_meant 30 (.if_icmp .gt 15) 3 15 33 45 := ⟨by decide +kernel, rfl, by decide⟩
theorem d_c10_meant_33 : gD b_c10_meant 33 (.iload 5) 2 35 := ⟨by decide +kernel, rfl⟩
theorem d_c10_meant_35 : gJ b_c10_meant 35 (.ifCond .lt 10) 3 10 38 45 := ⟨by decide +kernel, rfl, by decide⟩
theorem d_c10_meant_38 : gD b_c10_meant 38 (.iload 5) 2 40 := ⟨by decide +kernel, rfl⟩
theorem d_c10_meant_40 : gD b_c10_meant 40 (.iload 4) 2 42 := ⟨by decide +kernel, rfl⟩
theorem d_c10_meant_42 : gJ b_c10_meant 42 (.if_icmp .le 5) 3 5 45 47 := ⟨by decide +kernel, rfl, by decide⟩
theorem d_c10_meant_45 : gD b_c10_meant 45 (.iconst (-1)) 1 46 := ⟨by decide +kernel, rfl⟩
theorem d_c10_meant_46 : gD b_c10_meant 46 .ireturn 1 47 := ⟨by decide +kernel, rfl⟩
theorem d_c10_meant_47 : gD b_c10_meant 47 (.iload_n 1) 1 48 := ⟨by decide +kernel, rfl⟩
theorem d_c10_meant_48 : gD b_c10_meant 48 .i2l 1 49 := ⟨by decide +kernel, rfl⟩
theorem d_c10_meant_49 : gD b_c10_meant 49 (.iload_n 2) 1 50 := ⟨by decide +kernel, rfl⟩
theorem d_c10_meant_50 : gD b_c10_meant 50 (.iload 5) 2 52 := ⟨by decide +kernel, rfl⟩
theorem d_c10_meant_52 : gD b_c10_meant 52 (.invokestatic 370) 3 55 := ⟨by decide +kernel, rfl⟩
theorem d_c10_meant_55 : gD b_c10_meant 55 .lmul 1 56 := ⟨by decide +kernel, rfl⟩
theorem d_c10_meant_56 : gD b_c10_meant 56 (.bipush 10) 2 58 := ⟨by decide +kernel, rfl⟩
theorem d_c10_meant_58 : gD b_c10_meant 58 (.iload_n 2) 1 59 := ⟨by decide +kernel, rfl⟩
theorem d_c10_meant_59 : gD b_c10_meant 59 .isub 1 60 := ⟨by decide +kernel, rfl⟩
theorem d_c10_meant_60 : gD b_c10_meant 60 (.iload 4) 2 62 := ⟨by decide +kernel, rfl⟩
theorem d_c10_meant_62 : gD b_c10_meant 62 (.iload 5) 2 64 := ⟨by decide +kernel, rfl⟩
theorem d_c10_meant_64 : gD b_c10_meant 64 .isub 1 65 := ⟨by decide +kernel, rfl⟩
theorem d_c10_meant_65 : gD b_c10_meant 65 (.invokestatic 370) 3 68 := ⟨by decide +kernel, rfl⟩
theorem d_c10_meant_68 : gD b_c10_meant 68 .lmul 1 69 := ⟨by decide +kernel, rfl⟩
theorem d_c10_meant_69 : gD b_c10_meant 69 (.lstore 6) 2 71 := ⟨by decide +kernel, rfl⟩
theorem d_c10_meant_71 : gD b_c10_meant 71 (.bipush 10) 2 73 := ⟨by decide +kernel, rfl⟩
theorem d_c10_meant_73 : gD b_c10_meant 73 (.iload_n 1) 1 74 := ⟨by decide +kernel, rfl⟩
theorem d_c10_meant_74 : gD b_c10_meant 74 .isub 1 75 := ⟨by decide +kernel, rfl⟩
theorem d_c10_meant_75 : gD b_c10_meant 75 .i2l 1 76 := ⟨by decide +kernel, rfl⟩
theorem d_c10_meant_76 : gD b_c10_meant 76 (.iload_n 3) 1 77 := ⟨by decide +kernel, rfl⟩
theorem d_c10_meant_77 : gD b_c10_meant 77 (.iload 5) 2 79 := ⟨by decide +kernel, rfl⟩
theorem d_c10_meant_79 : gD b_c10_meant 79 (.invokestatic 370) 3 82 := ⟨by decide +kernel, rfl⟩
theorem d_c10_meant_82 : gD b_c10_meant 82 .lmul 1 83 := ⟨by decide +kernel, rfl⟩
theorem d_c10_meant_83 : gD b_c10_meant 83 (.bipush 10) 2 85 := ⟨by decide +kernel, rfl⟩
theorem d_c10_meant_85 : gD b_c10_meant 85 (.iload_n 3) 1 86 := ⟨by decide +kernel, rfl⟩
theorem d_c10_meant_86 : gD b_c10_meant 86 .isub 1 87 := ⟨by decide +kernel, rfl⟩
theorem d_c10_meant_87 : gD b_c10_meant 87 (.iload 4) 2 89 := ⟨by decide +kernel, rfl⟩
theorem d_c10_meant_89 : gD b_c10_meant 89 (.iload 5) 2 91 := ⟨by decide +kernel, rfl⟩
theorem d_c10_meant_91 : gD b_c10_meant 91 .isub 1 92 := ⟨by decide +kernel, rfl⟩
theorem d_c10_meant_92 : gD b_c10_meant 92 (.invokestatic 370) 3 95 := ⟨by decide +kernel, rfl⟩
theorem d_c10_meant_95 : gD b_c10_meant 95 .lmul 1 96 := ⟨by decide +kernel, rfl⟩
theorem d_c10_meant_96 : gD b_c10_meant 96 (.lstore 8) 2 98 := ⟨by decide +kernel, rfl⟩
theorem d_c10_meant_98 : gD b_c10_meant 98 (.lload 6) 2 100 := ⟨by decide +kernel, rfl⟩
theorem d_c10_meant_100 : gD b_c10_meant 100 (.lload 6) 2 102 := ⟨by decide +kernel, rfl⟩
theorem d_c10_meant_102 : gD b_c10_meant 102 (.lload 8) 2 104 := ⟨by decide +kernel, rfl⟩
theorem d_c10_meant_104 : gD b_c10_meant 104 .ladd 1 105 := ⟨by decide +kernel, rfl⟩
theorem d_c10_meant_105 : gD b_c10_meant 105 (.invokestatic 374) 3 108 := ⟨by decide +kernel, rfl⟩
theorem d_c10_meant_108 : gD b_c10_meant 108 (.lstore 10) 2 110 := ⟨by decide +kernel, rfl⟩
theorem d_c10_meant_110 : gD b_c10_meant 110 (.lload 10) 2 112 := ⟨by decide +kernel, rfl⟩
theorem d_c10_meant_112 : gD b_c10_meant 112 (.lconst 0) 1 113 := ⟨by decide +kernel, rfl⟩
theorem d_c10_meant_113 : gD b_c10_meant 113 .lcmp 1 114 := ⟨by decide +kernel, rfl⟩
theorem d_c10_meant_114 : gJ b_c10_meant 114 (.ifCond .gt 6) 3 6 117 120 := ⟨by decide +kernel, rfl, by decide⟩
theorem d_c10_meant_117 : gD b_c10_meant 117 (.bipush (-2)) 2 119 := ⟨by decide +kernel, rfl⟩
theorem d_c10_meant_119 : gD b_c10_meant 119 .ireturn 1 120 := ⟨by decide +kernel, rfl⟩
theorem d_c10_meant_120 : gD b_c10_meant 120 (.aload_n 0) 1 121 := ⟨by decide +kernel, rfl⟩
theorem d_c10_meant_121 : gD b_c10_meant 121 (.iconst 0) 1 122 := ⟨by decide +kernel, rfl⟩
theorem d_c10_meant_122 : gD b_c10_meant 122 (.lload 6) 2 124 := ⟨by decide +kernel, rfl⟩
theorem d_c10_meant_124 : gD b_c10_meant 124 (.lload 10) 2 126 := ⟨by decide +kernel, rfl⟩
theorem d_c10_meant_126 : gD b_c10_meant 126 .ldiv 1 127 := ⟨by decide +kernel, rfl⟩
theorem d_c10_meant_127 : gD b_c10_meant 127 (.lload 6) 2 129 := ⟨by decide +kernel, rfl⟩
theorem d_c10_meant_129 : gD b_c10_meant 129 (.lload 8) 2 131 := ⟨by decide +kernel, rfl⟩
theorem d_c10_meant_131 : gD b_c10_meant 131 .ladd 1 132 := ⟨by decide +kernel, rfl⟩
theorem d_c10_meant_132 : gD b_c10_meant 132 (.lload 10) 2 134 := ⟨by decide +kernel, rfl⟩
theorem d_c10_meant_134 : gD b_c10_meant 134 .ldiv 1 135 := ⟨by decide +kernel, rfl⟩
theorem d_c10_meant_135 : gD b_c10_meant 135 (.invokevirtual 205) 3 138 := ⟨by decide +kernel, rfl⟩
theorem d_c10_meant_138 : gD b_c10_meant 138 .ireturn 1 139 := ⟨by decide +kernel, rfl⟩
def f_c10_meant (N : Nat) (a0 : Nat) (x1 : Int32) (x2 : Int32) (x3 : Int32) (x4 : Int32) (x5 : Int32) (h : gH) : Option (Int32 × gH) :=
  (gcl h a0 10).bind fun _ =>
  (f_c10_isTenths N x1 h).bind fun q1 =>
    if q1 = 0 then
    some ((-1 : Int32), h)
  else
    (f_c10_isTenths N x2 h).bind fun q3 =>
    if q3 = 0 then
    some ((-1 : Int32), h)
  else
    (f_c10_isTenths N x3 h).bind fun q5 =>
    if q5 = 0 then
    some ((-1 : Int32), h)
  else
    if x4 < 0 then
    some ((-1 : Int32), h)
  else
    if (7 : Int32) < x4 then
    some ((-1 : Int32), h)
  else
    if x5 < 0 then
    some ((-1 : Int32), h)
  else
    if x5 ≤ x4 then
    (f_c10_power N x2 x5 h).bind fun q11 =>
    (f_c10_power N ((10 : Int32) - x2) (x4 - x5) h).bind fun q12 =>
    (f_c10_power N x3 x5 h).bind fun q13 =>
    (f_c10_power N ((10 : Int32) - x3) (x4 - x5) h).bind fun q14 =>
    (f_c10_commonDivisor N ((x1.toInt64 * q11) * q12) (((x1.toInt64 * q11) * q12) + (((((10 : Int32) - x1).toInt64) * q13) * q14)) h).bind fun q15 =>
    if 0 < (lg_cmp q15 (0 : Int64)) then
    (gNZL q15).bind fun u17 =>
    (gNZL q15).bind fun u18 =>
    (f_c10_tellTwo N a0 (0 : Int32) (((x1.toInt64 * q11) * q12) / q15) ((((x1.toInt64 * q11) * q12) + (((((10 : Int32) - x1).toInt64) * q13) * q14)) / q15) h).bind fun q19 =>
    some (q19.1, q19.2)
  else
    some ((-2 : Int32), h)
  else
    some ((-1 : Int32), h)
set_option maxHeartbeats 4000000 in
set_option maxRecDepth 100000 in
theorem ct_c10_meant (l : Launch) (X : gX) (hx : gEx X = false) (N : Nat) (a0 : Nat) (x1 : Int32) (x2 : Int32) (x3 : Int32) (x4 : Int32) (x5 : Int32) (h : gH) (q : Int32 × gH) (hy : f_c10_meant N a0 x1 x2 x3 x4 x5 h = some q) : gRc y_c10_meant h a0 ∧ gMi l X y_c10_meant b_c10_meant 12 .int (4 + N) 0 0 [.ref a0, .int x1, .int x2, .int x3, .int x4, .int x5] h q.1 q.2 := by
  unfold f_c10_meant at hy
  obtain ⟨u0, e_u0, hy⟩ := gBd hy
  cases u0
  refine ⟨Or.inl ⟨10, _, _, e_u0, rfl⟩, gMet_i (lsx := [(0, .ref a0), (1, .int x1), (2, .int x2), (3, .int x3), (4, .int x4), (5, .int x5)]) (by decide) rfl rfl ?_⟩
  intro M hMl K hret
  subst hMl
  refine g_iload_n K d_c10_meant_0 1 rfl ?_
  obtain ⟨q1, e_q1, hy⟩ := gBd hy
  refine g_callSi (rest := []) K hx ly_c10_isTenths ks_c10_367 d_c10_meant_1 (ct_c10_isTenths M.2.1 X hx N x1 h q1 e_q1) rfl rfl (Nat.le_of_ble_eq_true rfl) (gDep rfl) ⟨Nat.le_refl 0, Nat.le_refl 0⟩ ?_
  refine g_if_eq K d_c10_meant_4 (fun c2 => ?_) (fun c2 => ?_)
  · rw [if_pos c2] at hy
    refine g_iconst (v := (-1)) K d_c10_meant_45 (by decide) ?_
    obtain rfl := Option.some.inj hy
    exact hret rfl _ _ _ d_c10_meant_46
  · rw [if_neg c2] at hy
    refine g_iload_n K d_c10_meant_7 2 rfl ?_
    obtain ⟨q3, e_q3, hy⟩ := gBd hy
    refine g_callSi (rest := []) K hx ly_c10_isTenths ks_c10_367 d_c10_meant_8 (ct_c10_isTenths M.2.1 X hx N x2 h q3 e_q3) rfl rfl (Nat.le_of_ble_eq_true rfl) (gDep rfl) ⟨Nat.le_refl 0, Nat.le_refl 0⟩ ?_
    refine g_if_eq K d_c10_meant_11 (fun c4 => ?_) (fun c4 => ?_)
    · rw [if_pos c4] at hy
      refine g_iconst (v := (-1)) K d_c10_meant_45 (by decide) ?_
      obtain rfl := Option.some.inj hy
      exact hret rfl _ _ _ d_c10_meant_46
    · rw [if_neg c4] at hy
      refine g_iload_n K d_c10_meant_14 3 rfl ?_
      obtain ⟨q5, e_q5, hy⟩ := gBd hy
      refine g_callSi (rest := []) K hx ly_c10_isTenths ks_c10_367 d_c10_meant_15 (ct_c10_isTenths M.2.1 X hx N x3 h q5 e_q5) rfl rfl (Nat.le_of_ble_eq_true rfl) (gDep rfl) ⟨Nat.le_refl 0, Nat.le_refl 0⟩ ?_
      refine g_if_eq K d_c10_meant_18 (fun c6 => ?_) (fun c6 => ?_)
      · rw [if_pos c6] at hy
        refine g_iconst (v := (-1)) K d_c10_meant_45 (by decide) ?_
        obtain rfl := Option.some.inj hy
        exact hret rfl _ _ _ d_c10_meant_46
      · rw [if_neg c6] at hy
        refine g_iload K d_c10_meant_21 4 rfl ?_
        refine g_if_lt K d_c10_meant_23 (fun c7 => ?_) (fun c7 => ?_)
        · rw [if_pos c7] at hy
          refine g_iconst (v := (-1)) K d_c10_meant_45 (by decide) ?_
          obtain rfl := Option.some.inj hy
          exact hret rfl _ _ _ d_c10_meant_46
        · rw [if_neg c7] at hy
          refine g_iload K d_c10_meant_26 4 rfl ?_
          refine g_bipush (v := 7) K d_c10_meant_28 (by decide) ?_
          refine g_icmp_gt K d_c10_meant_30 (fun c8 => ?_) (fun c8 => ?_)
          · rw [if_pos c8] at hy
            refine g_iconst (v := (-1)) K d_c10_meant_45 (by decide) ?_
            obtain rfl := Option.some.inj hy
            exact hret rfl _ _ _ d_c10_meant_46
          · rw [if_neg c8] at hy
            refine g_iload K d_c10_meant_33 5 rfl ?_
            refine g_if_lt K d_c10_meant_35 (fun c9 => ?_) (fun c9 => ?_)
            · rw [if_pos c9] at hy
              refine g_iconst (v := (-1)) K d_c10_meant_45 (by decide) ?_
              obtain rfl := Option.some.inj hy
              exact hret rfl _ _ _ d_c10_meant_46
            · rw [if_neg c9] at hy
              refine g_iload K d_c10_meant_38 5 rfl ?_
              refine g_iload K d_c10_meant_40 4 rfl ?_
              refine g_icmp_le K d_c10_meant_42 (fun c10 => ?_) (fun c10 => ?_)
              · rw [if_pos c10] at hy
                refine g_iload_n K d_c10_meant_47 1 rfl ?_
                refine g_i2l K d_c10_meant_48 ?_
                refine g_iload_n K d_c10_meant_49 2 rfl ?_
                refine g_iload K d_c10_meant_50 5 rfl ?_
                obtain ⟨q11, e_q11, hy⟩ := gBd hy
                refine g_callSl (rest := [.long x1.toInt64]) K hx ly_c10_power ks_c10_370 d_c10_meant_52 (ct_c10_power M.2.1 X hx N x2 x5 h q11 e_q11) rfl rfl (Nat.le_of_ble_eq_true rfl) (gDep rfl) ⟨Nat.le_refl 0, Nat.le_refl 0⟩ ?_
                refine g_lmul K d_c10_meant_55 ?_
                refine g_bipush (v := 10) K d_c10_meant_56 (by decide) ?_
                refine g_iload_n K d_c10_meant_58 2 rfl ?_
                refine g_isub K d_c10_meant_59 ?_
                refine g_iload K d_c10_meant_60 4 rfl ?_
                refine g_iload K d_c10_meant_62 5 rfl ?_
                refine g_isub K d_c10_meant_64 ?_
                obtain ⟨q12, e_q12, hy⟩ := gBd hy
                refine g_callSl (rest := [.long (x1.toInt64 * q11)]) K hx ly_c10_power ks_c10_370 d_c10_meant_65 (ct_c10_power M.2.1 X hx N ((10 : Int32) - x2) (x4 - x5) h q12 e_q12) rfl rfl (Nat.le_of_ble_eq_true rfl) (gDep rfl) ⟨Nat.le_refl 0, Nat.le_refl 0⟩ ?_
                refine g_lmul K d_c10_meant_68 ?_
                refine g_lstore (ls2 := [(6, .long ((x1.toInt64 * q11) * q12)), (0, .ref a0), (1, .int x1), (2, .int x2), (3, .int x3), (4, .int x4), (5, .int x5)]) K d_c10_meant_69 rfl rfl ?_
                refine g_bipush (v := 10) K d_c10_meant_71 (by decide) ?_
                refine g_iload_n K d_c10_meant_73 2 rfl ?_
                refine g_isub K d_c10_meant_74 ?_
                refine g_i2l K d_c10_meant_75 ?_
                refine g_iload_n K d_c10_meant_76 4 rfl ?_
                refine g_iload K d_c10_meant_77 6 rfl ?_
                obtain ⟨q13, e_q13, hy⟩ := gBd hy
                refine g_callSl (rest := [.long (((10 : Int32) - x1).toInt64)]) K hx ly_c10_power ks_c10_370 d_c10_meant_79 (ct_c10_power M.2.1 X hx N x3 x5 h q13 e_q13) rfl rfl (Nat.le_of_ble_eq_true rfl) (gDep rfl) ⟨Nat.le_refl 0, Nat.le_refl 0⟩ ?_
                refine g_lmul K d_c10_meant_82 ?_
                refine g_bipush (v := 10) K d_c10_meant_83 (by decide) ?_
                refine g_iload_n K d_c10_meant_85 4 rfl ?_
                refine g_isub K d_c10_meant_86 ?_
                refine g_iload K d_c10_meant_87 5 rfl ?_
                refine g_iload K d_c10_meant_89 6 rfl ?_
                refine g_isub K d_c10_meant_91 ?_
                obtain ⟨q14, e_q14, hy⟩ := gBd hy
                refine g_callSl (rest := [.long ((((10 : Int32) - x1).toInt64) * q13)]) K hx ly_c10_power ks_c10_370 d_c10_meant_92 (ct_c10_power M.2.1 X hx N ((10 : Int32) - x3) (x4 - x5) h q14 e_q14) rfl rfl (Nat.le_of_ble_eq_true rfl) (gDep rfl) ⟨Nat.le_refl 0, Nat.le_refl 0⟩ ?_
                refine g_lmul K d_c10_meant_95 ?_
                refine g_lstore (ls2 := [(8, .long (((((10 : Int32) - x1).toInt64) * q13) * q14)), (6, .long ((x1.toInt64 * q11) * q12)), (0, .ref a0), (1, .int x1), (2, .int x2), (3, .int x3), (4, .int x4), (5, .int x5)]) K d_c10_meant_96 rfl rfl ?_
                refine g_lload K d_c10_meant_98 1 rfl ?_
                refine g_lload K d_c10_meant_100 1 rfl ?_
                refine g_lload K d_c10_meant_102 0 rfl ?_
                refine g_ladd K d_c10_meant_104 ?_
                obtain ⟨q15, e_q15, hy⟩ := gBd hy
                refine g_callSl (rest := []) K hx ly_c10_commonDivisor ks_c10_374 d_c10_meant_105 (ct_c10_commonDivisor M.2.1 X hx N ((x1.toInt64 * q11) * q12) (((x1.toInt64 * q11) * q12) + (((((10 : Int32) - x1).toInt64) * q13) * q14)) h q15 e_q15) rfl rfl (Nat.le_of_ble_eq_true rfl) (gDep rfl) ⟨Nat.le_refl 0, Nat.le_refl 0⟩ ?_
                refine g_lstore (ls2 := [(10, .long q15), (8, .long (((((10 : Int32) - x1).toInt64) * q13) * q14)), (6, .long ((x1.toInt64 * q11) * q12)), (0, .ref a0), (1, .int x1), (2, .int x2), (3, .int x3), (4, .int x4), (5, .int x5)]) K d_c10_meant_108 rfl rfl ?_
                refine g_lload K d_c10_meant_110 0 rfl ?_
                refine g_lconst (v := 0) K d_c10_meant_112 (by decide) ?_
                refine g_lcmp K d_c10_meant_113 ?_
                refine g_if_gt K d_c10_meant_114 (fun c16 => ?_) (fun c16 => ?_)
                · rw [if_pos c16] at hy
                  refine g_aload_n K d_c10_meant_120 3 rfl ?_
                  refine g_iconst (v := 0) K d_c10_meant_121 (by decide) ?_
                  refine g_lload K d_c10_meant_122 2 rfl ?_
                  refine g_lload K d_c10_meant_124 0 rfl ?_
                  obtain ⟨u17, e_u17, hy⟩ := gBd hy
                  refine g_ldiv K d_c10_meant_126 e_u17 ?_
                  refine g_lload K d_c10_meant_127 2 rfl ?_
                  refine g_lload K d_c10_meant_129 1 rfl ?_
                  refine g_ladd K d_c10_meant_131 ?_
                  refine g_lload K d_c10_meant_132 0 rfl ?_
                  obtain ⟨u18, e_u18, hy⟩ := gBd hy
                  refine g_ldiv K d_c10_meant_134 e_u18 ?_
                  obtain ⟨q19, e_q19, hy⟩ := gBd hy
                  refine g_callVi (rest := []) K hx ly_c10_tellTwo kv_c10_205 d_c10_meant_135 (ct_c10_tellTwo M.2.1 X hx N a0 (0 : Int32) (((x1.toInt64 * q11) * q12) / q15) ((((x1.toInt64 * q11) * q12) + (((((10 : Int32) - x1).toInt64) * q13) * q14)) / q15) h q19 e_q19) rfl rfl (Nat.le_of_ble_eq_true rfl) (gDep rfl) ⟨Nat.le_refl 0, Nat.le_refl 0⟩ ?_
                  obtain rfl := Option.some.inj hy
                  exact hret rfl _ _ _ d_c10_meant_138
                · rw [if_neg c16] at hy
                  refine g_bipush (v := (-2)) K d_c10_meant_117 (by decide) ?_
                  obtain rfl := Option.some.inj hy
                  exact hret rfl _ _ _ d_c10_meant_119
              · rw [if_neg c10] at hy
                refine g_iconst (v := (-1)) K d_c10_meant_45 (by decide) ?_
                obtain rfl := Option.some.inj hy
                exact hret rfl _ _ _ d_c10_meant_46
-- c10 pushIfDone
theorem d_c10_pushIfDone_0 : gD b_c10_pushIfDone 0 (.iload_n 1) 1 1 := ⟨by decide +kernel, rfl⟩
theorem d_c10_pushIfDone_1 : gJ b_c10_pushIfDone 1 (.ifCond .lt 14) 3 14 4 15 := ⟨by decide +kernel, rfl, by decide⟩
theorem d_c10_pushIfDone_4 : gD b_c10_pushIfDone 4 (.aload_n 0) 1 5 := ⟨by decide +kernel, rfl⟩
theorem d_c10_pushIfDone_5 : gD b_c10_pushIfDone 5 (.getfield 53) 3 8 := ⟨by decide +kernel, rfl⟩
theorem d_c10_pushIfDone_8 : gD b_c10_pushIfDone 8 (.aload_n 0) 1 9 := ⟨by decide +kernel, rfl⟩
theorem d_c10_pushIfDone_9 : gD b_c10_pushIfDone 9 (.getfield 37) 3 12 := ⟨by decide +kernel, rfl⟩
theorem d_c10_pushIfDone_12 : gD b_c10_pushIfDone 12 (.invokevirtual 199) 3 15 := ⟨by decide +kernel, rfl⟩
theorem d_c10_pushIfDone_15 : gD b_c10_pushIfDone 15 (.iload_n 1) 1 16 := ⟨by decide +kernel, rfl⟩
theorem d_c10_pushIfDone_16 : gD b_c10_pushIfDone 16 .ireturn 1 17 := ⟨by decide +kernel, rfl⟩
def f_c10_pushIfDone (N : Nat) (a0 : Nat) (x1 : Int32) (h : gH) : Option (Int32 × gH) :=
  (gcl h a0 10).bind fun _ =>
  (show Option (gH) from if x1 < 0 then
    some h
  else
    (gfR h a0 10 7).bind fun v4 =>
    (gfR h a0 10 4).bind fun v5 =>
    (f_c5_push N v4 v5 h).bind fun q6 =>
    some q6).bind fun t2 =>
    some (x1, t2)
set_option maxHeartbeats 4000000 in
set_option maxRecDepth 100000 in
theorem ct_c10_pushIfDone (l : Launch) (X : gX) (hx : gEx X = false) (N : Nat) (a0 : Nat) (x1 : Int32) (h : gH) (q : Int32 × gH) (hy : f_c10_pushIfDone N a0 x1 h = some q) : gRc y_c10_pushIfDone h a0 ∧ gMi l X y_c10_pushIfDone b_c10_pushIfDone 2 .int (4 + N) 0 0 [.ref a0, .int x1] h q.1 q.2 := by
  unfold f_c10_pushIfDone at hy
  obtain ⟨u0, e_u0, hy⟩ := gBd hy
  cases u0
  refine ⟨Or.inl ⟨10, _, _, e_u0, rfl⟩, gMet_i (lsx := [(0, .ref a0), (1, .int x1)]) (by decide) rfl rfl ?_⟩
  intro M hMl K hret
  subst hMl
  refine g_iload_n K d_c10_pushIfDone_0 1 rfl ?_
  obtain ⟨t2, e_t2, hy⟩ := gBd hy
  have hJ3 : gG M X 2 0 0 15 [(1, .int x1)] [] t2 := by
    refine g_iload_n K d_c10_pushIfDone_15 0 rfl ?_
    obtain rfl := Option.some.inj hy
    exact hret rfl _ _ _ d_c10_pushIfDone_16
  refine g_if_lt K d_c10_pushIfDone_1 (fun c1 => ?_) (fun c1 => ?_)
  · rw [if_pos c1] at e_t2
    refine g_sub (ls2 := [(1, .int x1)]) [1] rfl ?_
    obtain rfl := Option.some.inj e_t2
    exact hJ3
  · rw [if_neg c1] at e_t2
    refine g_aload_n K d_c10_pushIfDone_4 0 rfl ?_
    obtain ⟨v4, e_v4, e_t2⟩ := gBd e_t2
    refine g_getR K fl_c10_53 d_c10_pushIfDone_5 e_v4 ?_
    refine g_aload_n K d_c10_pushIfDone_8 0 rfl ?_
    obtain ⟨v5, e_v5, e_t2⟩ := gBd e_t2
    refine g_getR K fl_c10_37 d_c10_pushIfDone_9 e_v5 ?_
    obtain ⟨q6, e_q6, e_t2⟩ := gBd e_t2
    refine g_callVv (rest := []) K hx ly_c5_push kv_c10_199 d_c10_pushIfDone_12 (ct_c5_push M.2.1 X hx N v4 v5 h q6 e_q6) rfl rfl (Nat.le_of_ble_eq_true rfl) (gDep rfl) ⟨Nat.le_refl 0, Nat.le_refl 0⟩ ?_
    refine g_sub (ls2 := [(1, .int x1)]) [1] rfl ?_
    obtain rfl := Option.some.inj e_t2
    exact hJ3
-- c10 tellThree
theorem d_c10_tellThree_0 : gD b_c10_tellThree 0 (.aload_n 0) 1 1 := ⟨by decide +kernel, rfl⟩
theorem d_c10_tellThree_1 : gD b_c10_tellThree 1 (.iload_n 1) 1 2 := ⟨by decide +kernel, rfl⟩
theorem d_c10_tellThree_2 : gD b_c10_tellThree 2 (.lload_n 2) 1 3 := ⟨by decide +kernel, rfl⟩
theorem d_c10_tellThree_3 : gD b_c10_tellThree 3 (.lload 4) 2 5 := ⟨by decide +kernel, rfl⟩
theorem d_c10_tellThree_5 : gD b_c10_tellThree 5 (.invokevirtual 205) 3 8 := ⟨by decide +kernel, rfl⟩
theorem d_c10_tellThree_8 : gD b_c10_tellThree 8 .pop 1 9 := ⟨by decide +kernel, rfl⟩
theorem d_c10_tellThree_9 : gD b_c10_tellThree 9 (.aload_n 0) 1 10 := ⟨by decide +kernel, rfl⟩
theorem d_c10_tellThree_10 : gD b_c10_tellThree 10 (.getfield 19) 3 13 := ⟨by decide +kernel, rfl⟩
theorem d_c10_tellThree_13 : gD b_c10_tellThree 13 (.lload 6) 2 15 := ⟨by decide +kernel, rfl⟩
theorem d_c10_tellThree_15 : gD b_c10_tellThree 15 (.invokevirtual 290) 3 18 := ⟨by decide +kernel, rfl⟩
theorem d_c10_tellThree_18 : gD b_c10_tellThree 18 (.iload_n 1) 1 19 := ⟨by decide +kernel, rfl⟩
theorem d_c10_tellThree_19 : gD b_c10_tellThree 19 .ireturn 1 20 := ⟨by decide +kernel, rfl⟩
def f_c10_tellThree (N : Nat) (a0 : Nat) (x1 : Int32) (y2 : Int64) (y4 : Int64) (y6 : Int64) (h : gH) : Option (Int32 × gH) :=
  (gcl h a0 10).bind fun _ =>
  (f_c10_tellTwo N a0 x1 y2 y4 h).bind fun q1 =>
    (gfR q1.2 a0 10 1).bind fun v2 =>
    (f_c4_add N v2 y6 q1.2).bind fun q3 =>
    some (x1, q3)
set_option maxHeartbeats 4000000 in
set_option maxRecDepth 100000 in
theorem ct_c10_tellThree (l : Launch) (X : gX) (hx : gEx X = false) (N : Nat) (a0 : Nat) (x1 : Int32) (y2 : Int64) (y4 : Int64) (y6 : Int64) (h : gH) (q : Int32 × gH) (hy : f_c10_tellThree N a0 x1 y2 y4 y6 h = some q) : gRc y_c10_tellThree h a0 ∧ gMi l X y_c10_tellThree b_c10_tellThree 8 .int (4 + N) 0 0 [.ref a0, .int x1, .long y2, .long y4, .long y6] h q.1 q.2 := by
  unfold f_c10_tellThree at hy
  obtain ⟨u0, e_u0, hy⟩ := gBd hy
  cases u0
  refine ⟨Or.inl ⟨10, _, _, e_u0, rfl⟩, gMet_i (lsx := [(0, .ref a0), (1, .int x1), (2, .long y2), (4, .long y4), (6, .long y6)]) (by decide) rfl rfl ?_⟩
  intro M hMl K hret
  subst hMl
  refine g_aload_n K d_c10_tellThree_0 0 rfl ?_
  refine g_iload_n K d_c10_tellThree_1 1 rfl ?_
  refine g_lload_n K d_c10_tellThree_2 2 rfl ?_
  refine g_lload K d_c10_tellThree_3 3 rfl ?_
  obtain ⟨q1, e_q1, hy⟩ := gBd hy
  refine g_callVi (rest := []) K hx ly_c10_tellTwo kv_c10_205 d_c10_tellThree_5 (ct_c10_tellTwo M.2.1 X hx N a0 x1 y2 y4 h q1 e_q1) rfl rfl (Nat.le_of_ble_eq_true rfl) (gDep rfl) ⟨Nat.le_refl 0, Nat.le_refl 0⟩ ?_
  refine g_pop K d_c10_tellThree_8 rfl ?_
  refine g_aload_n K d_c10_tellThree_9 0 rfl ?_
  obtain ⟨v2, e_v2, hy⟩ := gBd hy
  refine g_getR K fl_c10_19 d_c10_tellThree_10 e_v2 ?_
  refine g_lload K d_c10_tellThree_13 4 rfl ?_
  obtain ⟨q3, e_q3, hy⟩ := gBd hy
  refine g_callVv (rest := []) K hx ly_c4_add kv_c10_290 d_c10_tellThree_15 (ct_c4_add M.2.1 X hx N v2 y6 q1.2 q3 e_q3) rfl rfl (Nat.le_of_ble_eq_true rfl) (gDep rfl) ⟨Nat.le_refl 0, Nat.le_refl 0⟩ ?_
  refine g_iload_n K d_c10_tellThree_18 1 rfl ?_
  obtain rfl := Option.some.inj hy
  exact hret rfl _ _ _ d_c10_tellThree_19
-- c10 twins
theorem d_c10_twins_0 : gD b_c10_twins 0 (.aload_n 0) 1 1 := ⟨by decide +kernel, rfl⟩
theorem d_c10_twins_1 : gD b_c10_twins 1 (.getfield 33) 3 4 := ⟨by decide +kernel, rfl⟩
theorem d_c10_twins_4 : gD b_c10_twins 4 (.getfield 132) 3 7 := ⟨by decide +kernel, rfl⟩
theorem d_c10_twins_7 : gD b_c10_twins 7 (.iconst 2) 1 8 := ⟨by decide +kernel, rfl⟩
theorem d_c10_twins_8 : gJ b_c10_twins 8 (.if_icmp .ge 6) 3 6 11 14 := ⟨by decide +kernel, rfl, by decide⟩
theorem d_c10_twins_11 : gD b_c10_twins 11 (.bipush (-2)) 2 13 := ⟨by decide +kernel, rfl⟩
theorem d_c10_twins_13 : gD b_c10_twins 13 .ireturn 1 14 := ⟨by decide +kernel, rfl⟩
theorem d_c10_twins_14 : gD b_c10_twins 14 (.iconst 0) 1 15 := ⟨by decide +kernel, rfl⟩
theorem d_c10_twins_15 : gD b_c10_twins 15 (.istore_n 1) 1 16 := ⟨by decide +kernel, rfl⟩
theorem d_c10_twins_16 : gD b_c10_twins 16 (.iconst 1) 1 17 := ⟨by decide +kernel, rfl⟩
theorem d_c10_twins_17 : gD b_c10_twins 17 (.istore_n 2) 1 18 := ⟨by decide +kernel, rfl⟩
theorem d_c10_twins_18 : gD b_c10_twins 18 (.iconst 0) 1 19 := ⟨by decide +kernel, rfl⟩
theorem d_c10_twins_19 : gD b_c10_twins 19 (.istore_n 3) 1 20 := ⟨by decide +kernel, rfl⟩
theorem d_c10_twins_20 : gD b_c10_twins 20 (.iload_n 3) 1 21 := ⟨by decide +kernel, rfl⟩
theorem d_c10_twins_21 : gD b_c10_twins 21 (.aload_n 0) 1 22 := ⟨by decide +kernel, rfl⟩
theorem d_c10_twins_22 : gD b_c10_twins 22 (.getfield 33) 3 25 := ⟨by decide +kernel, rfl⟩
theorem d_c10_twins_25 : gD b_c10_twins 25 (.getfield 132) 3 28 := ⟨by decide +kernel, rfl⟩
theorem d_c10_twins_28 : gJ b_c10_twins 28 (.if_icmp .ge 67) 3 67 31 95 := ⟨by decide +kernel, rfl, by decide⟩
theorem d_c10_twins_31 : gD b_c10_twins 31 (.iload_n 3) 1 32 := ⟨by decide +kernel, rfl⟩
theorem d_c10_twins_32 : gD b_c10_twins 32 (.iconst 1) 1 33 := ⟨by decide +kernel, rfl⟩
theorem d_c10_twins_33 : gD b_c10_twins 33 .iadd 1 34 := ⟨by decide +kernel, rfl⟩
theorem d_c10_twins_34 : gD b_c10_twins 34 (.istore 4) 2 36 := ⟨by decide +kernel, rfl⟩
theorem d_c10_twins_36 : gD b_c10_twins 36 (.iload 4) 2 38 := ⟨by decide +kernel, rfl⟩
theorem d_c10_twins_38 : gD b_c10_twins 38 (.aload_n 0) 1 39 := ⟨by decide +kernel, rfl⟩
theorem d_c10_twins_39 : gD b_c10_twins 39 (.getfield 33) 3 42 := ⟨by decide +kernel, rfl⟩
theorem d_c10_twins_42 : gD b_c10_twins 42 (.getfield 132) 3 45 := ⟨by decide +kernel, rfl⟩
theorem d_c10_twins_45 : gJ b_c10_twins 45 (.if_icmp .ge 44) 3 44 48 89 := ⟨by decide +kernel, rfl, by decide⟩
theorem d_c10_twins_48 : gD b_c10_twins 48 (.aload_n 0) 1 49 := ⟨by decide +kernel, rfl⟩
theorem d_c10_twins_49 : gD b_c10_twins 49 (.getfield 33) 3 52 := ⟨by decide +kernel, rfl⟩
theorem d_c10_twins_52 : gD b_c10_twins 52 (.aload_n 0) 1 53 := ⟨by decide +kernel, rfl⟩
theorem d_c10_twins_53 : gD b_c10_twins 53 (.getfield 26) 3 56 := ⟨by decide +kernel, rfl⟩
theorem d_c10_twins_56 : gD b_c10_twins 56 (.iload_n 3) 1 57 := ⟨by decide +kernel, rfl⟩
theorem d_c10_twins_57 : gD b_c10_twins 57 (.iload 4) 2 59 := ⟨by decide +kernel, rfl⟩
theorem d_c10_twins_59 : gD b_c10_twins 59 (.invokevirtual 308) 3 62 := ⟨by decide +kernel, rfl⟩
theorem d_c10_twins_62 : gD b_c10_twins 62 (.aload_n 0) 1 63 := ⟨by decide +kernel, rfl⟩
theorem d_c10_twins_63 : gD b_c10_twins 63 (.getfield 33) 3 66 := ⟨by decide +kernel, rfl⟩
theorem d_c10_twins_66 : gD b_c10_twins 66 (.aload_n 0) 1 67 := ⟨by decide +kernel, rfl⟩
theorem d_c10_twins_67 : gD b_c10_twins 67 (.getfield 26) 3 70 := ⟨by decide +kernel, rfl⟩
theorem d_c10_twins_70 : gD b_c10_twins 70 (.iload_n 1) 1 71 := ⟨by decide +kernel, rfl⟩
theorem d_c10_twins_71 : gD b_c10_twins 71 (.iload_n 2) 1 72 := ⟨by decide +kernel, rfl⟩
theorem d_c10_twins_72 : gD b_c10_twins 72 (.invokevirtual 308) 3 75 := ⟨by decide +kernel, rfl⟩
theorem d_c10_twins_75 : gJ b_c10_twins 75 (.if_icmp .ge 8) 3 8 78 83 := ⟨by decide +kernel, rfl, by decide⟩
theorem d_c10_twins_78 : gD b_c10_twins 78 (.iload_n 3) 1 79 := ⟨by decide +kernel, rfl⟩
theorem d_c10_twins_79 : gD b_c10_twins 79 (.istore_n 1) 1 80 := ⟨by decide +kernel, rfl⟩
theorem d_c10_twins_80 : gD b_c10_twins 80 (.iload 4) 2 82 := ⟨by decide +kernel, rfl⟩
theorem d_c10_twins_82 : gD b_c10_twins 82 (.istore_n 2) 1 83 := ⟨by decide +kernel, rfl⟩
theorem d_c10_twins_83 : gD b_c10_twins 83 (.iinc 4 1) 3 86 := ⟨by decide +kernel, rfl⟩
theorem d_c10_twins_86 : gJ b_c10_twins 86 (.goto (-50)) 3 (-50) 89 36 := ⟨by decide +kernel, rfl, by decide⟩
theorem d_c10_twins_89 : gD b_c10_twins 89 (.iinc 3 1) 3 92 := ⟨by decide +kernel, rfl⟩
theorem d_c10_twins_92 : gJ b_c10_twins 92 (.goto (-72)) 3 (-72) 95 20 := ⟨by decide +kernel, rfl, by decide⟩
theorem d_c10_twins_95 : gD b_c10_twins 95 (.aload_n 0) 1 96 := ⟨by decide +kernel, rfl⟩
theorem d_c10_twins_96 : gD b_c10_twins 96 (.aload_n 0) 1 97 := ⟨by decide +kernel, rfl⟩
theorem d_c10_twins_97 : gD b_c10_twins 97 (.getfield 33) 3 100 := ⟨by decide +kernel, rfl⟩
theorem d_c10_twins_100 : gD b_c10_twins 100 (.aload_n 0) 1 101 := ⟨by decide +kernel, rfl⟩
theorem d_c10_twins_101 : gD b_c10_twins 101 (.getfield 26) 3 104 := ⟨by decide +kernel, rfl⟩
theorem d_c10_twins_104 : gD b_c10_twins 104 (.iload_n 1) 1 105 := ⟨by decide +kernel, rfl⟩
theorem d_c10_twins_105 : gD b_c10_twins 105 (.iload_n 2) 1 106 := ⟨by decide +kernel, rfl⟩
theorem d_c10_twins_106 : gD b_c10_twins 106 (.invokevirtual 308) 3 109 := ⟨by decide +kernel, rfl⟩
theorem d_c10_twins_109 : gD b_c10_twins 109 (.iload_n 1) 1 110 := ⟨by decide +kernel, rfl⟩
theorem d_c10_twins_110 : gD b_c10_twins 110 .i2l 1 111 := ⟨by decide +kernel, rfl⟩
theorem d_c10_twins_111 : gD b_c10_twins 111 (.iload_n 2) 1 112 := ⟨by decide +kernel, rfl⟩
theorem d_c10_twins_112 : gD b_c10_twins 112 .i2l 1 113 := ⟨by decide +kernel, rfl⟩
theorem d_c10_twins_113 : gD b_c10_twins 113 (.invokevirtual 205) 3 116 := ⟨by decide +kernel, rfl⟩
theorem d_c10_twins_116 : gD b_c10_twins 116 .ireturn 1 117 := ⟨by decide +kernel, rfl⟩
def lp_c10_twins_36 (N : Nat) (a0 : Nat) (x3 : Int32) (h : gH) : Nat → Int32 → Int32 → Int32 → Option (Int32 × Int32)
  | 0, _, _, _ => none
  | k + 1, x1, x2, x4 =>
  (gfR h a0 10 3).bind fun v7 =>
    (gfI h v7 7 0).bind fun v8 =>
    if v8 ≤ x4 then
    some (x1, x2)
  else
    (gfR h a0 10 3).bind fun v10 =>
    (gfR h a0 10 2).bind fun v11 =>
    (f_c7_farApart N v10 v11 x3 x4 h).bind fun q12 =>
    (gfR h a0 10 3).bind fun v13 =>
    (gfR h a0 10 2).bind fun v14 =>
    (f_c7_farApart N v13 v14 x1 x2 h).bind fun q15 =>
    (show Option (Int32 × Int32) from if q15 ≤ q12 then
    some (x1, x2)
  else
    some (x3, x4)).bind fun t17 =>
    lp_c10_twins_36 N a0 x3 h k t17.1 t17.2 (x4 + (1 : Int32))
def lp_c10_twins_20 (N : Nat) (a0 : Nat) (h : gH) : Nat → Int32 → Int32 → Int32 → Option (Int32 × Int32)
  | 0, _, _, _ => none
  | k + 1, x1, x2, x3 =>
  (gfR h a0 10 3).bind fun v4 =>
    (gfI h v4 7 0).bind fun v5 =>
    if v5 ≤ x3 then
    some (x1, x2)
  else
    (lp_c10_twins_36 N a0 x3 h N x1 x2 (x3 + (1 : Int32))).bind fun o19 =>
    lp_c10_twins_20 N a0 h k o19.1 o19.2 (x3 + (1 : Int32))
def f_c10_twins (N : Nat) (a0 : Nat) (h : gH) : Option (Int32 × gH) :=
  (gcl h a0 10).bind fun _ =>
  (gfR h a0 10 3).bind fun v1 =>
    (gfI h v1 7 0).bind fun v2 =>
    if (2 : Int32) ≤ v2 then
    (lp_c10_twins_20 N a0 h N (0 : Int32) (1 : Int32) (0 : Int32)).bind fun o20 =>
    (gfR h a0 10 3).bind fun v21 =>
    (gfR h a0 10 2).bind fun v22 =>
    (f_c7_farApart N v21 v22 o20.1 o20.2 h).bind fun q23 =>
    (f_c10_tellTwo N a0 q23 o20.1.toInt64 o20.2.toInt64 h).bind fun q24 =>
    some (q24.1, q24.2)
  else
    some ((-2 : Int32), h)
set_option maxHeartbeats 4000000 in
set_option maxRecDepth 100000 in
theorem wlp_c10_twins_36 {M : gM} {X : gX} {N : Nat} (hx : gEx X = false) (K : gC M X gN10 b_c10_twins 5 (gRm (4 + N) 0 0)) (a0 : Nat) (x3 : Int32) (h : gH) : ∀ (k : Nat) (x1 : Int32) (x2 : Int32) (x4 : Int32) (o : Int32 × Int32), lp_c10_twins_36 N a0 x3 h k x1 x2 x4 = some o → gG M X 5 0 0 89 [(0, .ref a0), (1, .int o.1), (2, .int o.2), (3, .int x3)] [] h → gG M X 5 0 0 36 [(0, .ref a0), (1, .int x1), (2, .int x2), (3, .int x3), (4, .int x4)] [] h := by
  intro k
  induction k with
  | zero =>
    intro x1 x2 x4 o hy
    rw [lp_c10_twins_36.eq_1] at hy
    cases hy
  | succ k ih =>
    intro x1 x2 x4 o hy hE
    rw [lp_c10_twins_36.eq_2] at hy
    refine g_iload K d_c10_twins_36 4 rfl ?_
    refine g_aload_n K d_c10_twins_38 0 rfl ?_
    obtain ⟨v7, e_v7, hy⟩ := gBd hy
    refine g_getR K fl_c10_33 d_c10_twins_39 e_v7 ?_
    obtain ⟨v8, e_v8, hy⟩ := gBd hy
    refine g_getI K fl_c10_132 d_c10_twins_42 e_v8 ?_
    refine g_icmp_ge K d_c10_twins_45 (fun c9 => ?_) (fun c9 => ?_)
    · rw [if_pos c9] at hy
      refine g_sub (ls2 := [(0, .ref a0), (1, .int x1), (2, .int x2), (3, .int x3)]) [0, 1, 2, 3] rfl ?_
      obtain rfl := Option.some.inj hy
      exact hE
    · rw [if_neg c9] at hy
      refine g_aload_n K d_c10_twins_48 0 rfl ?_
      obtain ⟨v10, e_v10, hy⟩ := gBd hy
      refine g_getR K fl_c10_33 d_c10_twins_49 e_v10 ?_
      refine g_aload_n K d_c10_twins_52 0 rfl ?_
      obtain ⟨v11, e_v11, hy⟩ := gBd hy
      refine g_getR K fl_c10_26 d_c10_twins_53 e_v11 ?_
      refine g_iload_n K d_c10_twins_56 3 rfl ?_
      refine g_iload K d_c10_twins_57 4 rfl ?_
      obtain ⟨q12, e_q12, hy⟩ := gBd hy
      refine g_callVi (rest := []) K hx ly_c7_farApart kv_c10_308 d_c10_twins_59 (ct_c7_farApart M.2.1 X hx N v10 v11 x3 x4 h q12 e_q12) rfl rfl (Nat.le_of_ble_eq_true rfl) (gDep rfl) ⟨Nat.le_refl 0, Nat.le_refl 0⟩ ?_
      refine g_aload_n K d_c10_twins_62 0 rfl ?_
      obtain ⟨v13, e_v13, hy⟩ := gBd hy
      refine g_getR K fl_c10_33 d_c10_twins_63 e_v13 ?_
      refine g_aload_n K d_c10_twins_66 0 rfl ?_
      obtain ⟨v14, e_v14, hy⟩ := gBd hy
      refine g_getR K fl_c10_26 d_c10_twins_67 e_v14 ?_
      refine g_iload_n K d_c10_twins_70 1 rfl ?_
      refine g_iload_n K d_c10_twins_71 2 rfl ?_
      obtain ⟨q15, e_q15, hy⟩ := gBd hy
      refine g_callVi (rest := [.int q12]) K hx ly_c7_farApart kv_c10_308 d_c10_twins_72 (ct_c7_farApart M.2.1 X hx N v13 v14 x1 x2 h q15 e_q15) rfl rfl (Nat.le_of_ble_eq_true rfl) (gDep rfl) ⟨Nat.le_refl 0, Nat.le_refl 0⟩ ?_
      obtain ⟨t17, e_t17, hy⟩ := gBd hy
      have hJ18 : gG M X 5 0 0 83 [(0, .ref a0), (1, .int t17.1), (2, .int t17.2), (3, .int x3), (4, .int x4)] [] h := by
        refine g_iinc (ls2 := [(4, .int (x4 + (1 : Int32))), (0, .ref a0), (1, .int t17.1), (2, .int t17.2), (3, .int x3)]) (v := 1) K d_c10_twins_83 4 rfl (by decide) rfl rfl ?_
        refine g_goto K d_c10_twins_86 ?_
        refine g_sub (ls2 := [(0, .ref a0), (1, .int t17.1), (2, .int t17.2), (3, .int x3), (4, .int (x4 + (1 : Int32)))]) [1, 2, 3, 4, 0] rfl ?_
        exact ih _ _ _ _ hy hE
      refine g_icmp_ge K d_c10_twins_75 (fun c16 => ?_) (fun c16 => ?_)
      · rw [if_pos c16] at e_t17
        obtain rfl := Option.some.inj e_t17
        exact hJ18
      · rw [if_neg c16] at e_t17
        refine g_iload_n K d_c10_twins_78 3 rfl ?_
        refine g_istore_n (ls2 := [(1, .int x3), (0, .ref a0), (2, .int x2), (3, .int x3), (4, .int x4)]) K d_c10_twins_79 rfl rfl ?_
        refine g_iload K d_c10_twins_80 4 rfl ?_
        refine g_istore_n (ls2 := [(2, .int x4), (1, .int x3), (0, .ref a0), (3, .int x3), (4, .int x4)]) K d_c10_twins_82 rfl rfl ?_
        refine g_sub (ls2 := [(0, .ref a0), (1, .int x3), (2, .int x4), (3, .int x3), (4, .int x4)]) [2, 1, 0, 3, 4] rfl ?_
        obtain rfl := Option.some.inj e_t17
        exact hJ18
set_option maxHeartbeats 4000000 in
set_option maxRecDepth 100000 in
theorem wlp_c10_twins_20 {M : gM} {X : gX} {N : Nat} (hx : gEx X = false) (K : gC M X gN10 b_c10_twins 5 (gRm (4 + N) 0 0)) (a0 : Nat) (h : gH) : ∀ (k : Nat) (x1 : Int32) (x2 : Int32) (x3 : Int32) (o : Int32 × Int32), lp_c10_twins_20 N a0 h k x1 x2 x3 = some o → gG M X 5 0 0 95 [(0, .ref a0), (1, .int o.1), (2, .int o.2)] [] h → gG M X 5 0 0 20 [(0, .ref a0), (1, .int x1), (2, .int x2), (3, .int x3)] [] h := by
  intro k
  induction k with
  | zero =>
    intro x1 x2 x3 o hy
    rw [lp_c10_twins_20.eq_1] at hy
    cases hy
  | succ k ih =>
    intro x1 x2 x3 o hy hE
    rw [lp_c10_twins_20.eq_2] at hy
    refine g_iload_n K d_c10_twins_20 3 rfl ?_
    refine g_aload_n K d_c10_twins_21 0 rfl ?_
    obtain ⟨v4, e_v4, hy⟩ := gBd hy
    refine g_getR K fl_c10_33 d_c10_twins_22 e_v4 ?_
    obtain ⟨v5, e_v5, hy⟩ := gBd hy
    refine g_getI K fl_c10_132 d_c10_twins_25 e_v5 ?_
    refine g_icmp_ge K d_c10_twins_28 (fun c6 => ?_) (fun c6 => ?_)
    · rw [if_pos c6] at hy
      refine g_sub (ls2 := [(0, .ref a0), (1, .int x1), (2, .int x2)]) [0, 1, 2] rfl ?_
      obtain rfl := Option.some.inj hy
      exact hE
    · rw [if_neg c6] at hy
      refine g_iload_n K d_c10_twins_31 3 rfl ?_
      refine g_iconst (v := 1) K d_c10_twins_32 (by decide) ?_
      refine g_iadd K d_c10_twins_33 ?_
      refine g_istore (ls2 := [(4, .int (x3 + (1 : Int32))), (0, .ref a0), (1, .int x1), (2, .int x2), (3, .int x3)]) K d_c10_twins_34 rfl rfl ?_
      obtain ⟨o19, e_o19, hy⟩ := gBd hy
      refine g_sub (ls2 := [(0, .ref a0), (1, .int x1), (2, .int x2), (3, .int x3), (4, .int (x3 + (1 : Int32)))]) [1, 2, 3, 4, 0] rfl ?_
      refine wlp_c10_twins_36 hx K a0 x3 h N x1 x2 (x3 + (1 : Int32)) o19 e_o19 ?_
      refine g_iinc (ls2 := [(3, .int (x3 + (1 : Int32))), (0, .ref a0), (1, .int o19.1), (2, .int o19.2)]) (v := 1) K d_c10_twins_89 3 rfl (by decide) rfl rfl ?_
      refine g_goto K d_c10_twins_92 ?_
      refine g_sub (ls2 := [(0, .ref a0), (1, .int o19.1), (2, .int o19.2), (3, .int (x3 + (1 : Int32)))]) [1, 2, 3, 0] rfl ?_
      exact ih _ _ _ _ hy hE
set_option maxHeartbeats 4000000 in
set_option maxRecDepth 100000 in
theorem ct_c10_twins (l : Launch) (X : gX) (hx : gEx X = false) (N : Nat) (a0 : Nat) (h : gH) (q : Int32 × gH) (hy : f_c10_twins N a0 h = some q) : gRc y_c10_twins h a0 ∧ gMi l X y_c10_twins b_c10_twins 5 .int (4 + N) 0 0 [.ref a0] h q.1 q.2 := by
  unfold f_c10_twins at hy
  obtain ⟨u0, e_u0, hy⟩ := gBd hy
  cases u0
  refine ⟨Or.inl ⟨10, _, _, e_u0, rfl⟩, gMet_i (lsx := [(0, .ref a0)]) (by decide) rfl rfl ?_⟩
  intro M hMl K hret
  subst hMl
  refine g_aload_n K d_c10_twins_0 0 rfl ?_
  obtain ⟨v1, e_v1, hy⟩ := gBd hy
  refine g_getR K fl_c10_33 d_c10_twins_1 e_v1 ?_
  obtain ⟨v2, e_v2, hy⟩ := gBd hy
  refine g_getI K fl_c10_132 d_c10_twins_4 e_v2 ?_
  refine g_iconst (v := 2) K d_c10_twins_7 (by decide) ?_
  refine g_icmp_ge K d_c10_twins_8 (fun c3 => ?_) (fun c3 => ?_)
  · rw [if_pos c3] at hy
    refine g_iconst (v := 0) K d_c10_twins_14 (by decide) ?_
    refine g_istore_n (ls2 := [(1, .int (0 : Int32)), (0, .ref a0)]) K d_c10_twins_15 rfl rfl ?_
    refine g_iconst (v := 1) K d_c10_twins_16 (by decide) ?_
    refine g_istore_n (ls2 := [(2, .int (1 : Int32)), (1, .int (0 : Int32)), (0, .ref a0)]) K d_c10_twins_17 rfl rfl ?_
    refine g_iconst (v := 0) K d_c10_twins_18 (by decide) ?_
    refine g_istore_n (ls2 := [(3, .int (0 : Int32)), (2, .int (1 : Int32)), (1, .int (0 : Int32)), (0, .ref a0)]) K d_c10_twins_19 rfl rfl ?_
    obtain ⟨o20, e_o20, hy⟩ := gBd hy
    refine g_sub (ls2 := [(0, .ref a0), (1, .int (0 : Int32)), (2, .int (1 : Int32)), (3, .int (0 : Int32))]) [3, 2, 1, 0] rfl ?_
    refine wlp_c10_twins_20 hx K a0 h N (0 : Int32) (1 : Int32) (0 : Int32) o20 e_o20 ?_
    refine g_aload_n K d_c10_twins_95 0 rfl ?_
    refine g_aload_n K d_c10_twins_96 0 rfl ?_
    obtain ⟨v21, e_v21, hy⟩ := gBd hy
    refine g_getR K fl_c10_33 d_c10_twins_97 e_v21 ?_
    refine g_aload_n K d_c10_twins_100 0 rfl ?_
    obtain ⟨v22, e_v22, hy⟩ := gBd hy
    refine g_getR K fl_c10_26 d_c10_twins_101 e_v22 ?_
    refine g_iload_n K d_c10_twins_104 1 rfl ?_
    refine g_iload_n K d_c10_twins_105 2 rfl ?_
    obtain ⟨q23, e_q23, hy⟩ := gBd hy
    refine g_callVi (rest := [.ref a0]) K hx ly_c7_farApart kv_c10_308 d_c10_twins_106 (ct_c7_farApart M.2.1 X hx N v21 v22 o20.1 o20.2 h q23 e_q23) rfl rfl (Nat.le_of_ble_eq_true rfl) (gDep rfl) ⟨Nat.le_refl 0, Nat.le_refl 0⟩ ?_
    refine g_iload_n K d_c10_twins_109 1 rfl ?_
    refine g_i2l K d_c10_twins_110 ?_
    refine g_iload_n K d_c10_twins_111 2 rfl ?_
    refine g_i2l K d_c10_twins_112 ?_
    obtain ⟨q24, e_q24, hy⟩ := gBd hy
    refine g_callVi (rest := []) K hx ly_c10_tellTwo kv_c10_205 d_c10_twins_113 (ct_c10_tellTwo M.2.1 X hx N a0 q23 o20.1.toInt64 o20.2.toInt64 h q24 e_q24) rfl rfl (Nat.le_of_ble_eq_true rfl) (gDep rfl) ⟨Nat.le_refl 0, Nat.le_refl 0⟩ ?_
    obtain rfl := Option.some.inj hy
    exact hret rfl _ _ _ d_c10_twins_116
  · rw [if_neg c3] at hy
    refine g_bipush (v := (-2)) K d_c10_twins_11 (by decide) ?_
    obtain rfl := Option.some.inj hy
    exact hret rfl _ _ _ d_c10_twins_13
-- c10 undo
theorem d_c10_undo_0 : gD b_c10_undo 0 (.aload_n 0) 1 1 := ⟨by decide +kernel, rfl⟩
theorem d_c10_undo_1 : gD b_c10_undo 1 (.getfield 53) 3 4 := ⟨by decide +kernel, rfl⟩
theorem d_c10_undo_4 : gD b_c10_undo 4 (.aload_n 0) 1 5 := ⟨by decide +kernel, rfl⟩
theorem d_c10_undo_5 : gD b_c10_undo 5 (.getfield 33) 3 8 := ⟨by decide +kernel, rfl⟩
theorem d_c10_undo_8 : gD b_c10_undo 8 (.invokevirtual 248) 3 11 := ⟨by decide +kernel, rfl⟩
theorem d_c10_undo_11 : gD b_c10_undo 11 .ireturn 1 12 := ⟨by decide +kernel, rfl⟩
def f_c10_undo (N : Nat) (a0 : Nat) (h : gH) : Option (Int32 × gH) :=
  (gcl h a0 10).bind fun _ =>
  (gfR h a0 10 7).bind fun v1 =>
    (gfR h a0 10 3).bind fun v2 =>
    (f_c5_pop N v1 v2 h).bind fun q3 =>
    some (q3.1, q3.2)
set_option maxHeartbeats 4000000 in
set_option maxRecDepth 100000 in
theorem ct_c10_undo (l : Launch) (X : gX) (hx : gEx X = false) (N : Nat) (a0 : Nat) (h : gH) (q : Int32 × gH) (hy : f_c10_undo N a0 h = some q) : gRc y_c10_undo h a0 ∧ gMi l X y_c10_undo b_c10_undo 1 .int (4 + N) 0 0 [.ref a0] h q.1 q.2 := by
  unfold f_c10_undo at hy
  obtain ⟨u0, e_u0, hy⟩ := gBd hy
  cases u0
  refine ⟨Or.inl ⟨10, _, _, e_u0, rfl⟩, gMet_i (lsx := [(0, .ref a0)]) (by decide) rfl rfl ?_⟩
  intro M hMl K hret
  subst hMl
  refine g_aload_n K d_c10_undo_0 0 rfl ?_
  obtain ⟨v1, e_v1, hy⟩ := gBd hy
  refine g_getR K fl_c10_53 d_c10_undo_1 e_v1 ?_
  refine g_aload_n K d_c10_undo_4 0 rfl ?_
  obtain ⟨v2, e_v2, hy⟩ := gBd hy
  refine g_getR K fl_c10_33 d_c10_undo_5 e_v2 ?_
  obtain ⟨q3, e_q3, hy⟩ := gBd hy
  refine g_callVi (rest := []) K hx ly_c5_pop kv_c10_248 d_c10_undo_8 (ct_c5_pop M.2.1 X hx N v1 v2 h q3 e_q3) rfl rfl (Nat.le_of_ble_eq_true rfl) (gDep rfl) ⟨Nat.le_refl 0, Nat.le_refl 0⟩ ?_
  obtain rfl := Option.some.inj hy
  exact hret rfl _ _ _ d_c10_undo_11
-- c10 village
theorem d_c10_village_0 : gD b_c10_village 0 (.aload_n 0) 1 1 := ⟨by decide +kernel, rfl⟩
theorem d_c10_village_1 : gD b_c10_village 1 (.getfield 26) 3 4 := ⟨by decide +kernel, rfl⟩
theorem d_c10_village_4 : gD b_c10_village 4 (.iload_n 1) 1 5 := ⟨by decide +kernel, rfl⟩
theorem d_c10_village_5 : gD b_c10_village 5 (.invokevirtual 171) 3 8 := ⟨by decide +kernel, rfl⟩
theorem d_c10_village_8 : gJ b_c10_village 8 (.ifCond .eq 12) 3 12 11 20 := ⟨by decide +kernel, rfl, by decide⟩
theorem d_c10_village_11 : gD b_c10_village 11 (.iload_n 2) 1 12 := ⟨by decide +kernel, rfl⟩
theorem d_c10_village_12 : gJ b_c10_village 12 (.ifCond .lt 8) 3 8 15 20 := ⟨by decide +kernel, rfl, by decide⟩
theorem d_c10_village_15 : gD b_c10_village 15 (.iload_n 2) 1 16 := ⟨by decide +kernel, rfl⟩
theorem d_c10_village_16 : gD b_c10_village 16 (.iconst 3) 1 17 := ⟨by decide +kernel, rfl⟩
theorem d_c10_village_17 : gJ b_c10_village 17 (.if_icmp .le 11) 3 11 20 28 := ⟨by decide +kernel, rfl, by decide⟩
theorem d_c10_village_28 : gD b_c10_village 28 (.aload_n 0) 1 29 := ⟨by decide +kernel, rfl⟩
theorem d_c10_village_29 : gD b_c10_village 29 (.getfield 26) 3 32 := ⟨by decide +kernel, rfl⟩
theorem d_c10_village_32 : gD b_c10_village 32 (.getfield 172) 3 35 := ⟨by decide +kernel, rfl⟩
theorem d_c10_village_35 : gD b_c10_village 35 (.iload_n 1) 1 36 := ⟨by decide +kernel, rfl⟩
theorem d_c10_village_36 : gD b_c10_village 36 .iaload 1 37 := ⟨by decide +kernel, rfl⟩
theorem d_c10_village_37 : gD b_c10_village 37 (.istore_n 3) 1 38 := ⟨by decide +kernel, rfl⟩
theorem d_c10_village_38 : gD b_c10_village 38 (.iload_n 2) 1 39 := ⟨by decide +kernel, rfl⟩
theorem d_c10_village_39 : gJ b_c10_village 39 (.ifCond .ne 5) 3 5 42 44 := ⟨by decide +kernel, rfl, by decide⟩
theorem d_c10_village_42 : gD b_c10_village 42 (.iload_n 3) 1 43 := ⟨by decide +kernel, rfl⟩
theorem d_c10_village_43 : gD b_c10_village 43 .ireturn 1 44 := ⟨by decide +kernel, rfl⟩
theorem d_c10_village_44 : gD b_c10_village 44 (.iload_n 2) 1 45 := ⟨by decide +kernel, rfl⟩
theorem d_c10_village_45 : gD b_c10_village 45 (.iconst 1) 1 46 := ⟨by decide +kernel, rfl⟩
theorem d_c10_village_46 : gJ b_c10_village 46 (.if_icmp .ne 13) 3 13 49 59 := ⟨by decide +kernel, rfl, by decide⟩
theorem d_c10_village_49 : gD b_c10_village 49 (.aload_n 0) 1 50 := ⟨by decide +kernel, rfl⟩
theorem d_c10_village_50 : gD b_c10_village 50 (.getfield 26) 3 53 := ⟨by decide +kernel, rfl⟩
theorem d_c10_village_53 : gD b_c10_village 53 (.getfield 175) 3 56 := ⟨by decide +kernel, rfl⟩
theorem d_c10_village_56 : gD b_c10_village 56 (.iload_n 1) 1 57 := ⟨by decide +kernel, rfl⟩
theorem d_c10_village_57 : gD b_c10_village 57 .iaload 1 58 := ⟨by decide +kernel, rfl⟩
theorem d_c10_village_58 : gD b_c10_village 58 .ireturn 1 59 := ⟨by decide +kernel, rfl⟩
theorem d_c10_village_59 : gD b_c10_village 59 (.aload_n 0) 1 60 := ⟨by decide +kernel, rfl⟩
theorem d_c10_village_60 : gD b_c10_village 60 (.getfield 33) 3 63 := ⟨by decide +kernel, rfl⟩
theorem d_c10_village_63 : gD b_c10_village 63 (.aload_n 0) 1 64 := ⟨by decide +kernel, rfl⟩
theorem d_c10_village_64 : gD b_c10_village 64 (.getfield 26) 3 67 := ⟨by decide +kernel, rfl⟩
theorem d_c10_village_67 : gD b_c10_village 67 (.iload_n 3) 1 68 := ⟨by decide +kernel, rfl⟩
theorem d_c10_village_68 : gD b_c10_village 68 (.invokevirtual 178) 3 71 := ⟨by decide +kernel, rfl⟩
theorem d_c10_village_71 : gD b_c10_village 71 (.istore 4) 2 73 := ⟨by decide +kernel, rfl⟩
theorem d_c10_village_73 : gD b_c10_village 73 (.iload_n 2) 1 74 := ⟨by decide +kernel, rfl⟩
theorem d_c10_village_74 : gD b_c10_village 74 (.iconst 2) 1 75 := ⟨by decide +kernel, rfl⟩
theorem d_c10_village_75 : gJ b_c10_village 75 (.if_icmp .eq 8) 3 8 78 83 := ⟨by decide +kernel, rfl, by decide⟩
theorem d_c10_village_78 : gD b_c10_village 78 (.iload 4) 2 80 := ⟨by decide +kernel, rfl⟩
theorem d_c10_village_80 : gJ b_c10_village 80 (.ifCond .ge 6) 3 6 83 86 := ⟨by decide +kernel, rfl, by decide⟩
theorem d_c10_village_83 : gD b_c10_village 83 (.iload 4) 2 85 := ⟨by decide +kernel, rfl⟩
theorem d_c10_village_85 : gD b_c10_village 85 .ireturn 1 86 := ⟨by decide +kernel, rfl⟩
theorem d_c10_village_86 : gD b_c10_village 86 (.aload_n 0) 1 87 := ⟨by decide +kernel, rfl⟩
theorem d_c10_village_87 : gD b_c10_village 87 (.getfield 26) 3 90 := ⟨by decide +kernel, rfl⟩
theorem d_c10_village_90 : gD b_c10_village 90 (.iload_n 3) 1 91 := ⟨by decide +kernel, rfl⟩
theorem d_c10_village_91 : gD b_c10_village 91 (.aload_n 0) 1 92 := ⟨by decide +kernel, rfl⟩
theorem d_c10_village_92 : gD b_c10_village 92 (.getfield 33) 3 95 := ⟨by decide +kernel, rfl⟩
theorem d_c10_village_95 : gD b_c10_village 95 (.getfield 144) 3 98 := ⟨by decide +kernel, rfl⟩
theorem d_c10_village_98 : gD b_c10_village 98 (.iload 4) 2 100 := ⟨by decide +kernel, rfl⟩
theorem d_c10_village_100 : gD b_c10_village 100 .iaload 1 101 := ⟨by decide +kernel, rfl⟩
theorem d_c10_village_101 : gD b_c10_village 101 (.invokevirtual 182) 3 104 := ⟨by decide +kernel, rfl⟩
theorem d_c10_village_104 : gD b_c10_village 104 .ireturn 1 105 := ⟨by decide +kernel, rfl⟩
def f_c10_village (N : Nat) (a0 : Nat) (x1 : Int32) (x2 : Int32) (h : gH) : Option (Int32) :=
  (gcl h a0 10).bind fun _ =>
  (gfR h a0 10 2).bind fun v1 =>
    (f_c1_has N v1 x1 h).bind fun q2 =>
    if q2 = 0 then
    none
  else
    if x2 < 0 then
    none
  else
    if x2 ≤ (3 : Int32) then
    (gfR h a0 10 2).bind fun v6 =>
    (gfR h v6 1 3).bind fun v7 =>
    (ga 0 h v7 x1).bind fun v8 =>
    if x2 = 0 then
    some v8
  else
    if x2 = (1 : Int32) then
    (gfR h a0 10 2).bind fun v21 =>
    (gfR h v21 1 4).bind fun v22 =>
    (ga 0 h v22 x1).bind fun v23 =>
    some v23
  else
    (gfR h a0 10 3).bind fun v11 =>
    (gfR h a0 10 2).bind fun v12 =>
    (f_c7_nearestWater N v11 v12 v8 h).bind fun q13 =>
    if x2 = (2 : Int32) then
    some q13
  else
    if 0 ≤ q13 then
    (gfR h a0 10 2).bind fun v16 =>
    (gfR h a0 10 3).bind fun v17 =>
    (gfR h v17 7 1).bind fun v18 =>
    (ga 0 h v18 q13).bind fun v19 =>
    (f_c1_far N v16 v8 v19 h).bind fun q20 =>
    some q20
  else
    some q13
  else
    none
set_option maxHeartbeats 4000000 in
set_option maxRecDepth 100000 in
theorem ct_c10_village (l : Launch) (X : gX) (hx : gEx X = false) (N : Nat) (a0 : Nat) (x1 : Int32) (x2 : Int32) (h : gH) (q : Int32) (hy : f_c10_village N a0 x1 x2 h = some q) : gRc y_c10_village h a0 ∧ gMi l X y_c10_village b_c10_village 5 .int (4 + N) 0 0 [.ref a0, .int x1, .int x2] h q h := by
  unfold f_c10_village at hy
  obtain ⟨u0, e_u0, hy⟩ := gBd hy
  cases u0
  refine ⟨Or.inl ⟨10, _, _, e_u0, rfl⟩, gMet_i (lsx := [(0, .ref a0), (1, .int x1), (2, .int x2)]) (by decide) rfl rfl ?_⟩
  intro M hMl K hret
  subst hMl
  refine g_aload_n K d_c10_village_0 0 rfl ?_
  obtain ⟨v1, e_v1, hy⟩ := gBd hy
  refine g_getR K fl_c10_26 d_c10_village_1 e_v1 ?_
  refine g_iload_n K d_c10_village_4 1 rfl ?_
  obtain ⟨q2, e_q2, hy⟩ := gBd hy
  refine g_callVi (rest := []) K hx ly_c1_has kv_c10_171 d_c10_village_5 (ct_c1_has M.2.1 X hx N v1 x1 h q2 e_q2) rfl rfl (Nat.le_of_ble_eq_true rfl) (gDep rfl) ⟨Nat.le_refl 0, Nat.le_refl 0⟩ ?_
  refine g_if_eq K d_c10_village_8 (fun c3 => ?_) (fun c3 => ?_)
  · rw [if_pos c3] at hy
    cases hy
  · rw [if_neg c3] at hy
    refine g_iload_n K d_c10_village_11 2 rfl ?_
    refine g_if_lt K d_c10_village_12 (fun c4 => ?_) (fun c4 => ?_)
    · rw [if_pos c4] at hy
      cases hy
    · rw [if_neg c4] at hy
      refine g_iload_n K d_c10_village_15 2 rfl ?_
      refine g_iconst (v := 3) K d_c10_village_16 (by decide) ?_
      refine g_icmp_le K d_c10_village_17 (fun c5 => ?_) (fun c5 => ?_)
      · rw [if_pos c5] at hy
        refine g_aload_n K d_c10_village_28 0 rfl ?_
        obtain ⟨v6, e_v6, hy⟩ := gBd hy
        refine g_getR K fl_c10_26 d_c10_village_29 e_v6 ?_
        obtain ⟨v7, e_v7, hy⟩ := gBd hy
        refine g_getR K fl_c10_172 d_c10_village_32 e_v7 ?_
        refine g_iload_n K d_c10_village_35 1 rfl ?_
        obtain ⟨v8, e_v8, hy⟩ := gBd hy
        refine g_iald K d_c10_village_36 e_v8 ?_
        refine g_istore_n (ls2 := [(3, .int v8), (0, .ref a0), (1, .int x1), (2, .int x2)]) K d_c10_village_37 rfl rfl ?_
        refine g_iload_n K d_c10_village_38 3 rfl ?_
        refine g_if_ne K d_c10_village_39 (fun c9 => ?_) (fun c9 => ?_)
        · rw [if_neg c9] at hy
          refine g_iload_n K d_c10_village_44 3 rfl ?_
          refine g_iconst (v := 1) K d_c10_village_45 (by decide) ?_
          refine g_icmp_ne K d_c10_village_46 (fun c10 => ?_) (fun c10 => ?_)
          · rw [if_neg c10] at hy
            refine g_aload_n K d_c10_village_59 1 rfl ?_
            obtain ⟨v11, e_v11, hy⟩ := gBd hy
            refine g_getR K fl_c10_33 d_c10_village_60 e_v11 ?_
            refine g_aload_n K d_c10_village_63 1 rfl ?_
            obtain ⟨v12, e_v12, hy⟩ := gBd hy
            refine g_getR K fl_c10_26 d_c10_village_64 e_v12 ?_
            refine g_iload_n K d_c10_village_67 0 rfl ?_
            obtain ⟨q13, e_q13, hy⟩ := gBd hy
            refine g_callVi (rest := []) K hx ly_c7_nearestWater kv_c10_178 d_c10_village_68 (ct_c7_nearestWater M.2.1 X hx N v11 v12 v8 h q13 e_q13) rfl rfl (Nat.le_of_ble_eq_true rfl) (gDep rfl) ⟨Nat.le_refl 0, Nat.le_refl 0⟩ ?_
            refine g_istore (ls2 := [(4, .int q13), (3, .int v8), (0, .ref a0), (1, .int x1), (2, .int x2)]) K d_c10_village_71 rfl rfl ?_
            refine g_iload_n K d_c10_village_73 4 rfl ?_
            refine g_iconst (v := 2) K d_c10_village_74 (by decide) ?_
            refine g_icmp_eq K d_c10_village_75 (fun c14 => ?_) (fun c14 => ?_)
            · rw [if_pos c14] at hy
              refine g_iload K d_c10_village_83 0 rfl ?_
              obtain rfl := Option.some.inj hy
              exact hret rfl _ _ _ d_c10_village_85
            · rw [if_neg c14] at hy
              refine g_iload K d_c10_village_78 0 rfl ?_
              refine g_if_ge K d_c10_village_80 (fun c15 => ?_) (fun c15 => ?_)
              · rw [if_pos c15] at hy
                refine g_aload_n K d_c10_village_86 2 rfl ?_
                obtain ⟨v16, e_v16, hy⟩ := gBd hy
                refine g_getR K fl_c10_26 d_c10_village_87 e_v16 ?_
                refine g_iload_n K d_c10_village_90 1 rfl ?_
                refine g_aload_n K d_c10_village_91 2 rfl ?_
                obtain ⟨v17, e_v17, hy⟩ := gBd hy
                refine g_getR K fl_c10_33 d_c10_village_92 e_v17 ?_
                obtain ⟨v18, e_v18, hy⟩ := gBd hy
                refine g_getR K fl_c10_144 d_c10_village_95 e_v18 ?_
                refine g_iload K d_c10_village_98 0 rfl ?_
                obtain ⟨v19, e_v19, hy⟩ := gBd hy
                refine g_iald K d_c10_village_100 e_v19 ?_
                obtain ⟨q20, e_q20, hy⟩ := gBd hy
                refine g_callVi (rest := []) K hx ly_c1_far kv_c10_182 d_c10_village_101 (ct_c1_far M.2.1 X hx N v16 v8 v19 h q20 e_q20) rfl rfl (Nat.le_of_ble_eq_true rfl) (gDep rfl) ⟨Nat.le_refl 0, Nat.le_refl 0⟩ ?_
                obtain rfl := Option.some.inj hy
                exact hret rfl _ _ _ d_c10_village_104
              · rw [if_neg c15] at hy
                refine g_iload K d_c10_village_83 0 rfl ?_
                obtain rfl := Option.some.inj hy
                exact hret rfl _ _ _ d_c10_village_85
          · rw [if_pos c10] at hy
            refine g_aload_n K d_c10_village_49 1 rfl ?_
            obtain ⟨v21, e_v21, hy⟩ := gBd hy
            refine g_getR K fl_c10_26 d_c10_village_50 e_v21 ?_
            obtain ⟨v22, e_v22, hy⟩ := gBd hy
            refine g_getR K fl_c10_175 d_c10_village_53 e_v22 ?_
            refine g_iload_n K d_c10_village_56 2 rfl ?_
            obtain ⟨v23, e_v23, hy⟩ := gBd hy
            refine g_iald K d_c10_village_57 e_v23 ?_
            obtain rfl := Option.some.inj hy
            exact hret rfl _ _ _ d_c10_village_58
        · rw [if_pos c9] at hy
          refine g_iload_n K d_c10_village_42 0 rfl ?_
          obtain rfl := Option.some.inj hy
          exact hret rfl _ _ _ d_c10_village_43
      · rw [if_neg c5] at hy
        cases hy
-- c10 waits
theorem d_c10_waits_0 : gD b_c10_waits 0 (.aload_n 0) 1 1 := ⟨by decide +kernel, rfl⟩
theorem d_c10_waits_1 : gD b_c10_waits 1 (.invokevirtual 378) 3 4 := ⟨by decide +kernel, rfl⟩
theorem d_c10_waits_4 : gD b_c10_waits 4 (.istore_n 1) 1 5 := ⟨by decide +kernel, rfl⟩
theorem d_c10_waits_5 : gD b_c10_waits 5 (.iload_n 1) 1 6 := ⟨by decide +kernel, rfl⟩
theorem d_c10_waits_6 : gJ b_c10_waits 6 (.ifCond .lt 16) 3 16 9 22 := ⟨by decide +kernel, rfl, by decide⟩
theorem d_c10_waits_9 : gD b_c10_waits 9 (.aload_n 0) 1 10 := ⟨by decide +kernel, rfl⟩
theorem d_c10_waits_10 : gD b_c10_waits 10 (.getfield 10) 3 13 := ⟨by decide +kernel, rfl⟩
theorem d_c10_waits_13 : gD b_c10_waits 13 (.iconst 0) 1 14 := ⟨by decide +kernel, rfl⟩
theorem d_c10_waits_14 : gD b_c10_waits 14 (.invokevirtual 104) 3 17 := ⟨by decide +kernel, rfl⟩
theorem d_c10_waits_17 : gD b_c10_waits 17 .pop 1 18 := ⟨by decide +kernel, rfl⟩
theorem d_c10_waits_18 : gD b_c10_waits 18 (.iconst (-1)) 1 19 := ⟨by decide +kernel, rfl⟩
theorem d_c10_waits_19 : gD b_c10_waits 19 (.iload_n 1) 1 20 := ⟨by decide +kernel, rfl⟩
theorem d_c10_waits_20 : gD b_c10_waits 20 .isub 1 21 := ⟨by decide +kernel, rfl⟩
theorem d_c10_waits_21 : gD b_c10_waits 21 .ireturn 1 22 := ⟨by decide +kernel, rfl⟩
theorem d_c10_waits_22 : gD b_c10_waits 22 (.iconst (-1)) 1 23 := ⟨by decide +kernel, rfl⟩
theorem d_c10_waits_23 : gD b_c10_waits 23 (.istore_n 2) 1 24 := ⟨by decide +kernel, rfl⟩
theorem d_c10_waits_24 : gD b_c10_waits 24 (.iconst 0) 1 25 := ⟨by decide +kernel, rfl⟩
theorem d_c10_waits_25 : gD b_c10_waits 25 (.istore_n 3) 1 26 := ⟨by decide +kernel, rfl⟩
theorem d_c10_waits_26 : gD b_c10_waits 26 (.iconst 0) 1 27 := ⟨by decide +kernel, rfl⟩
theorem d_c10_waits_27 : gD b_c10_waits 27 (.istore 4) 2 29 := ⟨by decide +kernel, rfl⟩
theorem d_c10_waits_29 : gD b_c10_waits 29 (.iconst 0) 1 30 := ⟨by decide +kernel, rfl⟩
theorem d_c10_waits_30 : gD b_c10_waits 30 (.istore 5) 2 32 := ⟨by decide +kernel, rfl⟩
theorem d_c10_waits_32 : gD b_c10_waits 32 (.iload 5) 2 34 := ⟨by decide +kernel, rfl⟩
theorem d_c10_waits_34 : gD b_c10_waits 34 (.aload_n 0) 1 35 := ⟨by decide +kernel, rfl⟩
theorem d_c10_waits_35 : gD b_c10_waits 35 (.getfield 10) 3 38 := ⟨by decide +kernel, rfl⟩
theorem d_c10_waits_38 : gD b_c10_waits 38 (.getfield 100) 3 41 := ⟨by decide +kernel, rfl⟩
theorem d_c10_waits_41 : gJ b_c10_waits 41 (.if_icmp .ge 46) 3 46 44 87 := ⟨by decide +kernel, rfl, by decide⟩
theorem d_c10_waits_44 : gD b_c10_waits 44 (.aload_n 0) 1 45 := ⟨by decide +kernel, rfl⟩
theorem d_c10_waits_45 : gD b_c10_waits 45 (.iload 5) 2 47 := ⟨by decide +kernel, rfl⟩
theorem d_c10_waits_47 : gD b_c10_waits 47 (.invokevirtual 381) 3 50 := ⟨by decide +kernel, rfl⟩
theorem d_c10_waits_50 : gD b_c10_waits 50 (.istore 6) 2 52 := ⟨by decide +kernel, rfl⟩
theorem d_c10_waits_52 : gD b_c10_waits 52 (.aload_n 0) 1 53 := ⟨by decide +kernel, rfl⟩
theorem d_c10_waits_53 : gD b_c10_waits 53 (.getfield 10) 3 56 := ⟨by decide +kernel, rfl⟩
theorem d_c10_waits_56 : gD b_c10_waits 56 (.iload 6) 2 58 := ⟨by decide +kernel, rfl⟩
theorem d_c10_waits_58 : gD b_c10_waits 58 (.bipush 16) 2 60 := ⟨by decide +kernel, rfl⟩
theorem d_c10_waits_60 : gD b_c10_waits 60 (.invokevirtual 384) 3 63 := ⟨by decide +kernel, rfl⟩
theorem d_c10_waits_63 : gD b_c10_waits 63 (.istore 7) 2 65 := ⟨by decide +kernel, rfl⟩
theorem d_c10_waits_65 : gD b_c10_waits 65 (.iload 7) 2 67 := ⟨by decide +kernel, rfl⟩
theorem d_c10_waits_67 : gD b_c10_waits 67 (.iload_n 2) 1 68 := ⟨by decide +kernel, rfl⟩
theorem d_c10_waits_68 : gJ b_c10_waits 68 (.if_icmp .le 13) 3 13 71 81 := ⟨by decide +kernel, rfl, by decide⟩
theorem d_c10_waits_71 : gD b_c10_waits 71 (.iload 7) 2 73 := ⟨by decide +kernel, rfl⟩
theorem d_c10_waits_73 : gD b_c10_waits 73 (.istore_n 2) 1 74 := ⟨by decide +kernel, rfl⟩
theorem d_c10_waits_74 : gD b_c10_waits 74 (.iload 5) 2 76 := ⟨by decide +kernel, rfl⟩
theorem d_c10_waits_76 : gD b_c10_waits 76 (.istore_n 3) 1 77 := ⟨by decide +kernel, rfl⟩
theorem d_c10_waits_77 : gD b_c10_waits 77 (.iload 6) 2 79 := ⟨by decide +kernel, rfl⟩
theorem d_c10_waits_79 : gD b_c10_waits 79 (.istore 4) 2 81 := ⟨by decide +kernel, rfl⟩
theorem d_c10_waits_81 : gD b_c10_waits 81 (.iinc 5 1) 3 84 := ⟨by decide +kernel, rfl⟩
theorem d_c10_waits_84 : gJ b_c10_waits 84 (.goto (-52)) 3 (-52) 87 32 := ⟨by decide +kernel, rfl, by decide⟩
theorem d_c10_waits_87 : gD b_c10_waits 87 (.aload_n 0) 1 88 := ⟨by decide +kernel, rfl⟩
theorem d_c10_waits_88 : gD b_c10_waits 88 (.getfield 10) 3 91 := ⟨by decide +kernel, rfl⟩
theorem d_c10_waits_91 : gD b_c10_waits 91 (.iconst 0) 1 92 := ⟨by decide +kernel, rfl⟩
theorem d_c10_waits_92 : gD b_c10_waits 92 (.invokevirtual 104) 3 95 := ⟨by decide +kernel, rfl⟩
theorem d_c10_waits_95 : gD b_c10_waits 95 .pop 1 96 := ⟨by decide +kernel, rfl⟩
theorem d_c10_waits_96 : gD b_c10_waits 96 (.aload_n 0) 1 97 := ⟨by decide +kernel, rfl⟩
theorem d_c10_waits_97 : gD b_c10_waits 97 (.iload_n 2) 1 98 := ⟨by decide +kernel, rfl⟩
theorem d_c10_waits_98 : gD b_c10_waits 98 (.iload_n 3) 1 99 := ⟨by decide +kernel, rfl⟩
theorem d_c10_waits_99 : gD b_c10_waits 99 .i2l 1 100 := ⟨by decide +kernel, rfl⟩
theorem d_c10_waits_100 : gD b_c10_waits 100 (.iload 4) 2 102 := ⟨by decide +kernel, rfl⟩
theorem d_c10_waits_102 : gD b_c10_waits 102 .i2l 1 103 := ⟨by decide +kernel, rfl⟩
theorem d_c10_waits_103 : gD b_c10_waits 103 (.invokevirtual 205) 3 106 := ⟨by decide +kernel, rfl⟩
theorem d_c10_waits_106 : gD b_c10_waits 106 .ireturn 1 107 := ⟨by decide +kernel, rfl⟩
def lp_c10_waits_32 (N : Nat) (a0 : Nat) (h : gH) : Nat → Int32 → Int32 → Int32 → Int32 → Option (Int32 × Int32 × Int32)
  | 0, _, _, _, _ => none
  | k + 1, x2, x3, x4, x5 =>
  (gfR h a0 10 0).bind fun v3 =>
    (gfI h v3 8 1).bind fun v4 =>
    if v4 ≤ x5 then
    some (x2, x3, x4)
  else
    (f_c10_takenBehind N a0 x5 h).bind fun q6 =>
    (gfR h a0 10 0).bind fun v7 =>
    (f_c8_digit N v7 q6 (16 : Int32) h).bind fun q8 =>
    (show Option (Int32 × Int32 × Int32) from if q8 ≤ x2 then
    some (x2, x3, x4)
  else
    some (q8, x5, q6)).bind fun t10 =>
    lp_c10_waits_32 N a0 h k t10.1 t10.2.1 t10.2.2 (x5 + (1 : Int32))
def f_c10_waits (N : Nat) (a0 : Nat) (h : gH) : Option (Int32 × gH) :=
  (gcl h a0 10).bind fun _ =>
  (f_c10_faultInOffers N a0 h).bind fun q1 =>
    if q1 < 0 then
    (lp_c10_waits_32 N a0 h N (-1 : Int32) (0 : Int32) (0 : Int32) (0 : Int32)).bind fun o12 =>
    (gfR h a0 10 0).bind fun v13 =>
    (f_c8_cutTo N v13 (0 : Int32) h).bind fun q14 =>
    (f_c10_tellTwo N a0 o12.1 o12.2.1.toInt64 o12.2.2.toInt64 q14.2).bind fun q15 =>
    some (q15.1, q15.2)
  else
    (gfR h a0 10 0).bind fun v16 =>
    (f_c8_cutTo N v16 (0 : Int32) h).bind fun q17 =>
    some ((-1 : Int32) - q1, q17.2)
set_option maxHeartbeats 4000000 in
set_option maxRecDepth 100000 in
theorem wlp_c10_waits_32 {M : gM} {X : gX} {N : Nat} (hx : gEx X = false) (K : gC M X gN10 b_c10_waits 8 (gRm (4 + N) 0 0)) (a0 : Nat) (h : gH) : ∀ (k : Nat) (x2 : Int32) (x3 : Int32) (x4 : Int32) (x5 : Int32) (o : Int32 × Int32 × Int32), lp_c10_waits_32 N a0 h k x2 x3 x4 x5 = some o → gG M X 8 0 0 87 [(0, .ref a0), (2, .int o.1), (3, .int o.2.1), (4, .int o.2.2)] [] h → gG M X 8 0 0 32 [(0, .ref a0), (2, .int x2), (3, .int x3), (4, .int x4), (5, .int x5)] [] h := by
  intro k
  induction k with
  | zero =>
    intro x2 x3 x4 x5 o hy
    rw [lp_c10_waits_32.eq_1] at hy
    cases hy
  | succ k ih =>
    intro x2 x3 x4 x5 o hy hE
    rw [lp_c10_waits_32.eq_2] at hy
    refine g_iload K d_c10_waits_32 4 rfl ?_
    refine g_aload_n K d_c10_waits_34 0 rfl ?_
    obtain ⟨v3, e_v3, hy⟩ := gBd hy
    refine g_getR K fl_c10_10 d_c10_waits_35 e_v3 ?_
    obtain ⟨v4, e_v4, hy⟩ := gBd hy
    refine g_getI K fl_c10_100 d_c10_waits_38 e_v4 ?_
    refine g_icmp_ge K d_c10_waits_41 (fun c5 => ?_) (fun c5 => ?_)
    · rw [if_pos c5] at hy
      refine g_sub (ls2 := [(0, .ref a0), (2, .int x2), (3, .int x3), (4, .int x4)]) [0, 1, 2, 3] rfl ?_
      obtain rfl := Option.some.inj hy
      exact hE
    · rw [if_neg c5] at hy
      refine g_aload_n K d_c10_waits_44 0 rfl ?_
      refine g_iload K d_c10_waits_45 4 rfl ?_
      obtain ⟨q6, e_q6, hy⟩ := gBd hy
      refine g_callVi (rest := []) K hx ly_c10_takenBehind kv_c10_381 d_c10_waits_47 (ct_c10_takenBehind M.2.1 X hx N a0 x5 h q6 e_q6) rfl rfl (Nat.le_of_ble_eq_true rfl) (gDep rfl) ⟨Nat.le_refl 0, Nat.le_refl 0⟩ ?_
      refine g_istore (ls2 := [(6, .int q6), (0, .ref a0), (2, .int x2), (3, .int x3), (4, .int x4), (5, .int x5)]) K d_c10_waits_50 rfl rfl ?_
      refine g_aload_n K d_c10_waits_52 1 rfl ?_
      obtain ⟨v7, e_v7, hy⟩ := gBd hy
      refine g_getR K fl_c10_10 d_c10_waits_53 e_v7 ?_
      refine g_iload K d_c10_waits_56 0 rfl ?_
      refine g_bipush (v := 16) K d_c10_waits_58 (by decide) ?_
      obtain ⟨q8, e_q8, hy⟩ := gBd hy
      refine g_callVi (rest := []) K hx ly_c8_digit kv_c10_384 d_c10_waits_60 (ct_c8_digit M.2.1 X hx N v7 q6 (16 : Int32) h q8 e_q8) rfl rfl (Nat.le_of_ble_eq_true rfl) (gDep rfl) ⟨Nat.le_refl 0, Nat.le_refl 0⟩ ?_
      refine g_istore (ls2 := [(7, .int q8), (6, .int q6), (0, .ref a0), (2, .int x2), (3, .int x3), (4, .int x4), (5, .int x5)]) K d_c10_waits_63 rfl rfl ?_
      refine g_iload K d_c10_waits_65 0 rfl ?_
      refine g_iload_n K d_c10_waits_67 3 rfl ?_
      obtain ⟨t10, e_t10, hy⟩ := gBd hy
      have hJ11 : gG M X 8 0 0 81 [(0, .ref a0), (2, .int t10.1), (3, .int t10.2.1), (4, .int t10.2.2), (5, .int x5)] [] h := by
        refine g_iinc (ls2 := [(5, .int (x5 + (1 : Int32))), (0, .ref a0), (2, .int t10.1), (3, .int t10.2.1), (4, .int t10.2.2)]) (v := 1) K d_c10_waits_81 4 rfl (by decide) rfl rfl ?_
        refine g_goto K d_c10_waits_84 ?_
        refine g_sub (ls2 := [(0, .ref a0), (2, .int t10.1), (3, .int t10.2.1), (4, .int t10.2.2), (5, .int (x5 + (1 : Int32)))]) [1, 2, 3, 4, 0] rfl ?_
        exact ih _ _ _ _ _ hy hE
      refine g_icmp_le K d_c10_waits_68 (fun c9 => ?_) (fun c9 => ?_)
      · rw [if_pos c9] at e_t10
        refine g_sub (ls2 := [(0, .ref a0), (2, .int x2), (3, .int x3), (4, .int x4), (5, .int x5)]) [2, 3, 4, 5, 6] rfl ?_
        obtain rfl := Option.some.inj e_t10
        exact hJ11
      · rw [if_neg c9] at e_t10
        refine g_iload K d_c10_waits_71 0 rfl ?_
        refine g_istore_n (ls2 := [(2, .int q8), (7, .int q8), (6, .int q6), (0, .ref a0), (3, .int x3), (4, .int x4), (5, .int x5)]) K d_c10_waits_73 rfl rfl ?_
        refine g_iload K d_c10_waits_74 6 rfl ?_
        refine g_istore_n (ls2 := [(3, .int x5), (2, .int q8), (7, .int q8), (6, .int q6), (0, .ref a0), (4, .int x4), (5, .int x5)]) K d_c10_waits_76 rfl rfl ?_
        refine g_iload K d_c10_waits_77 3 rfl ?_
        refine g_istore (ls2 := [(4, .int q6), (3, .int x5), (2, .int q8), (7, .int q8), (6, .int q6), (0, .ref a0), (5, .int x5)]) K d_c10_waits_79 rfl rfl ?_
        refine g_sub (ls2 := [(0, .ref a0), (2, .int q8), (3, .int x5), (4, .int q6), (5, .int x5)]) [5, 2, 1, 0, 6] rfl ?_
        obtain rfl := Option.some.inj e_t10
        exact hJ11
set_option maxHeartbeats 4000000 in
set_option maxRecDepth 100000 in
theorem ct_c10_waits (l : Launch) (X : gX) (hx : gEx X = false) (N : Nat) (a0 : Nat) (h : gH) (q : Int32 × gH) (hy : f_c10_waits N a0 h = some q) : gRc y_c10_waits h a0 ∧ gMi l X y_c10_waits b_c10_waits 8 .int (4 + N) 0 0 [.ref a0] h q.1 q.2 := by
  unfold f_c10_waits at hy
  obtain ⟨u0, e_u0, hy⟩ := gBd hy
  cases u0
  refine ⟨Or.inl ⟨10, _, _, e_u0, rfl⟩, gMet_i (lsx := [(0, .ref a0)]) (by decide) rfl rfl ?_⟩
  intro M hMl K hret
  subst hMl
  refine g_aload_n K d_c10_waits_0 0 rfl ?_
  obtain ⟨q1, e_q1, hy⟩ := gBd hy
  refine g_callVi (rest := []) K hx ly_c10_faultInOffers kv_c10_378 d_c10_waits_1 (ct_c10_faultInOffers M.2.1 X hx N a0 h q1 e_q1) rfl rfl (Nat.le_of_ble_eq_true rfl) (gDep rfl) ⟨Nat.le_refl 0, Nat.le_refl 0⟩ ?_
  refine g_istore_n (ls2 := [(1, .int q1), (0, .ref a0)]) K d_c10_waits_4 rfl rfl ?_
  refine g_iload_n K d_c10_waits_5 0 rfl ?_
  refine g_if_lt K d_c10_waits_6 (fun c2 => ?_) (fun c2 => ?_)
  · rw [if_pos c2] at hy
    refine g_iconst (v := (-1)) K d_c10_waits_22 (by decide) ?_
    refine g_istore_n (ls2 := [(2, .int (-1 : Int32)), (1, .int q1), (0, .ref a0)]) K d_c10_waits_23 rfl rfl ?_
    refine g_iconst (v := 0) K d_c10_waits_24 (by decide) ?_
    refine g_istore_n (ls2 := [(3, .int (0 : Int32)), (2, .int (-1 : Int32)), (1, .int q1), (0, .ref a0)]) K d_c10_waits_25 rfl rfl ?_
    refine g_iconst (v := 0) K d_c10_waits_26 (by decide) ?_
    refine g_istore (ls2 := [(4, .int (0 : Int32)), (3, .int (0 : Int32)), (2, .int (-1 : Int32)), (1, .int q1), (0, .ref a0)]) K d_c10_waits_27 rfl rfl ?_
    refine g_iconst (v := 0) K d_c10_waits_29 (by decide) ?_
    refine g_istore (ls2 := [(5, .int (0 : Int32)), (4, .int (0 : Int32)), (3, .int (0 : Int32)), (2, .int (-1 : Int32)), (1, .int q1), (0, .ref a0)]) K d_c10_waits_30 rfl rfl ?_
    obtain ⟨o12, e_o12, hy⟩ := gBd hy
    refine g_sub (ls2 := [(0, .ref a0), (2, .int (-1 : Int32)), (3, .int (0 : Int32)), (4, .int (0 : Int32)), (5, .int (0 : Int32))]) [5, 3, 2, 1, 0] rfl ?_
    refine wlp_c10_waits_32 hx K a0 h N (-1 : Int32) (0 : Int32) (0 : Int32) (0 : Int32) o12 e_o12 ?_
    refine g_aload_n K d_c10_waits_87 0 rfl ?_
    obtain ⟨v13, e_v13, hy⟩ := gBd hy
    refine g_getR K fl_c10_10 d_c10_waits_88 e_v13 ?_
    refine g_iconst (v := 0) K d_c10_waits_91 (by decide) ?_
    obtain ⟨q14, e_q14, hy⟩ := gBd hy
    refine g_callVi (rest := []) K hx ly_c8_cutTo kv_c10_104 d_c10_waits_92 (ct_c8_cutTo M.2.1 X hx N v13 (0 : Int32) h q14 e_q14) rfl rfl (Nat.le_of_ble_eq_true rfl) (gDep rfl) ⟨Nat.le_refl 0, Nat.le_refl 0⟩ ?_
    refine g_pop K d_c10_waits_95 rfl ?_
    refine g_aload_n K d_c10_waits_96 0 rfl ?_
    refine g_iload_n K d_c10_waits_97 1 rfl ?_
    refine g_iload_n K d_c10_waits_98 2 rfl ?_
    refine g_i2l K d_c10_waits_99 ?_
    refine g_iload K d_c10_waits_100 3 rfl ?_
    refine g_i2l K d_c10_waits_102 ?_
    obtain ⟨q15, e_q15, hy⟩ := gBd hy
    refine g_callVi (rest := []) K hx ly_c10_tellTwo kv_c10_205 d_c10_waits_103 (ct_c10_tellTwo M.2.1 X hx N a0 o12.1 o12.2.1.toInt64 o12.2.2.toInt64 q14.2 q15 e_q15) rfl rfl (Nat.le_of_ble_eq_true rfl) (gDep rfl) ⟨Nat.le_refl 0, Nat.le_refl 0⟩ ?_
    obtain rfl := Option.some.inj hy
    exact hret rfl _ _ _ d_c10_waits_106
  · rw [if_neg c2] at hy
    refine g_aload_n K d_c10_waits_9 1 rfl ?_
    obtain ⟨v16, e_v16, hy⟩ := gBd hy
    refine g_getR K fl_c10_10 d_c10_waits_10 e_v16 ?_
    refine g_iconst (v := 0) K d_c10_waits_13 (by decide) ?_
    obtain ⟨q17, e_q17, hy⟩ := gBd hy
    refine g_callVi (rest := []) K hx ly_c8_cutTo kv_c10_104 d_c10_waits_14 (ct_c8_cutTo M.2.1 X hx N v16 (0 : Int32) h q17 e_q17) rfl rfl (Nat.le_of_ble_eq_true rfl) (gDep rfl) ⟨Nat.le_refl 0, Nat.le_refl 0⟩ ?_
    refine g_pop K d_c10_waits_17 rfl ?_
    refine g_iconst (v := (-1)) K d_c10_waits_18 (by decide) ?_
    refine g_iload_n K d_c10_waits_19 0 rfl ?_
    refine g_isub K d_c10_waits_20 ?_
    obtain rfl := Option.some.inj hy
    exact hret rfl _ _ _ d_c10_waits_21
-- c10 wells
theorem d_c10_wells_0 : gD b_c10_wells 0 (.aload_n 0) 1 1 := ⟨by decide +kernel, rfl⟩
theorem d_c10_wells_1 : gD b_c10_wells 1 (.getfield 10) 3 4 := ⟨by decide +kernel, rfl⟩
theorem d_c10_wells_4 : gD b_c10_wells 4 (.getfield 100) 3 7 := ⟨by decide +kernel, rfl⟩
theorem d_c10_wells_7 : gJ b_c10_wells 7 (.ifCond .ne 5) 3 5 10 12 := ⟨by decide +kernel, rfl, by decide⟩
theorem d_c10_wells_10 : gD b_c10_wells 10 (.iconst 0) 1 11 := ⟨by decide +kernel, rfl⟩
theorem d_c10_wells_11 : gD b_c10_wells 11 .ireturn 1 12 := ⟨by decide +kernel, rfl⟩
theorem d_c10_wells_12 : gD b_c10_wells 12 (.aload_n 0) 1 13 := ⟨by decide +kernel, rfl⟩
theorem d_c10_wells_13 : gD b_c10_wells 13 (.getfield 37) 3 16 := ⟨by decide +kernel, rfl⟩
theorem d_c10_wells_16 : gD b_c10_wells 16 (.aload_n 0) 1 17 := ⟨by decide +kernel, rfl⟩
theorem d_c10_wells_17 : gD b_c10_wells 17 (.getfield 33) 3 20 := ⟨by decide +kernel, rfl⟩
theorem d_c10_wells_20 : gD b_c10_wells 20 (.invokevirtual 124) 3 23 := ⟨by decide +kernel, rfl⟩
theorem d_c10_wells_23 : gD b_c10_wells 23 (.aload_n 0) 1 24 := ⟨by decide +kernel, rfl⟩
theorem d_c10_wells_24 : gD b_c10_wells 24 (.aload_n 0) 1 25 := ⟨by decide +kernel, rfl⟩
theorem d_c10_wells_25 : gD b_c10_wells 25 (.getfield 37) 3 28 := ⟨by decide +kernel, rfl⟩
theorem d_c10_wells_28 : gD b_c10_wells 28 (.invokevirtual 128) 3 31 := ⟨by decide +kernel, rfl⟩
theorem d_c10_wells_31 : gD b_c10_wells 31 (.istore_n 1) 1 32 := ⟨by decide +kernel, rfl⟩
theorem d_c10_wells_32 : gD b_c10_wells 32 (.aload_n 0) 1 33 := ⟨by decide +kernel, rfl⟩
theorem d_c10_wells_33 : gD b_c10_wells 33 (.getfield 10) 3 36 := ⟨by decide +kernel, rfl⟩
theorem d_c10_wells_36 : gD b_c10_wells 36 (.iconst 0) 1 37 := ⟨by decide +kernel, rfl⟩
theorem d_c10_wells_37 : gD b_c10_wells 37 (.invokevirtual 104) 3 40 := ⟨by decide +kernel, rfl⟩
theorem d_c10_wells_40 : gD b_c10_wells 40 .pop 1 41 := ⟨by decide +kernel, rfl⟩
theorem d_c10_wells_41 : gD b_c10_wells 41 (.iload_n 1) 1 42 := ⟨by decide +kernel, rfl⟩
theorem d_c10_wells_42 : gJ b_c10_wells 42 (.ifCond .lt 7) 3 7 45 49 := ⟨by decide +kernel, rfl, by decide⟩
theorem d_c10_wells_45 : gD b_c10_wells 45 (.iconst (-1)) 1 46 := ⟨by decide +kernel, rfl⟩
theorem d_c10_wells_46 : gD b_c10_wells 46 (.iload_n 1) 1 47 := ⟨by decide +kernel, rfl⟩
theorem d_c10_wells_47 : gD b_c10_wells 47 .isub 1 48 := ⟨by decide +kernel, rfl⟩
theorem d_c10_wells_48 : gD b_c10_wells 48 .ireturn 1 49 := ⟨by decide +kernel, rfl⟩
theorem d_c10_wells_49 : gD b_c10_wells 49 (.aload_n 0) 1 50 := ⟨by decide +kernel, rfl⟩
theorem d_c10_wells_50 : gD b_c10_wells 50 (.getfield 37) 3 53 := ⟨by decide +kernel, rfl⟩
theorem d_c10_wells_53 : gD b_c10_wells 53 (.getfield 132) 3 56 := ⟨by decide +kernel, rfl⟩
theorem d_c10_wells_56 : gD b_c10_wells 56 (.aload_n 0) 1 57 := ⟨by decide +kernel, rfl⟩
theorem d_c10_wells_57 : gD b_c10_wells 57 (.getfield 33) 3 60 := ⟨by decide +kernel, rfl⟩
theorem d_c10_wells_60 : gD b_c10_wells 60 (.getfield 132) 3 63 := ⟨by decide +kernel, rfl⟩
theorem d_c10_wells_63 : gD b_c10_wells 63 .isub 1 64 := ⟨by decide +kernel, rfl⟩
theorem d_c10_wells_64 : gD b_c10_wells 64 (.istore_n 2) 1 65 := ⟨by decide +kernel, rfl⟩
theorem d_c10_wells_65 : gD b_c10_wells 65 (.aload_n 0) 1 66 := ⟨by decide +kernel, rfl⟩
theorem d_c10_wells_66 : gD b_c10_wells 66 (.getfield 33) 3 69 := ⟨by decide +kernel, rfl⟩
theorem d_c10_wells_69 : gD b_c10_wells 69 (.aload_n 0) 1 70 := ⟨by decide +kernel, rfl⟩
theorem d_c10_wells_70 : gD b_c10_wells 70 (.getfield 37) 3 73 := ⟨by decide +kernel, rfl⟩
theorem d_c10_wells_73 : gD b_c10_wells 73 (.invokevirtual 124) 3 76 := ⟨by decide +kernel, rfl⟩
theorem d_c10_wells_76 : gD b_c10_wells 76 (.aload_n 0) 1 77 := ⟨by decide +kernel, rfl⟩
theorem d_c10_wells_77 : gD b_c10_wells 77 (.getfield 53) 3 80 := ⟨by decide +kernel, rfl⟩
theorem d_c10_wells_80 : gD b_c10_wells 80 (.invokevirtual 117) 3 83 := ⟨by decide +kernel, rfl⟩
theorem d_c10_wells_83 : gD b_c10_wells 83 (.iload_n 2) 1 84 := ⟨by decide +kernel, rfl⟩
theorem d_c10_wells_84 : gD b_c10_wells 84 .ireturn 1 85 := ⟨by decide +kernel, rfl⟩
def f_c10_wells (N : Nat) (a0 : Nat) (h : gH) : Option (Int32 × gH) :=
  (gcl h a0 10).bind fun _ =>
  (gfR h a0 10 0).bind fun v1 =>
    (gfI h v1 8 1).bind fun v2 =>
    if v2 = 0 then
    some ((0 : Int32), h)
  else
    (gfR h a0 10 4).bind fun v4 =>
    (gfR h a0 10 3).bind fun v5 =>
    (f_c7_take N v4 v5 h).bind fun q6 =>
    (gfR q6 a0 10 4).bind fun v7 =>
    (f_c10_readLines N a0 v7 q6).bind fun q8 =>
    (gfR q8.2 a0 10 0).bind fun v9 =>
    (f_c8_cutTo N v9 (0 : Int32) q8.2).bind fun q10 =>
    if q8.1 < 0 then
    (gfR q10.2 a0 10 4).bind fun v12 =>
    (gfI q10.2 v12 7 0).bind fun v13 =>
    (gfR q10.2 a0 10 3).bind fun v14 =>
    (gfI q10.2 v14 7 0).bind fun v15 =>
    (gfR q10.2 a0 10 3).bind fun v16 =>
    (gfR q10.2 a0 10 4).bind fun v17 =>
    (f_c7_take N v16 v17 q10.2).bind fun q18 =>
    (gfR q18 a0 10 7).bind fun v19 =>
    (f_c5_forgetAll N v19 q18).bind fun q20 =>
    some (v13 - v15, q20)
  else
    some ((-1 : Int32) - q8.1, q10.2)
set_option maxHeartbeats 4000000 in
set_option maxRecDepth 100000 in
theorem ct_c10_wells (l : Launch) (X : gX) (hx : gEx X = false) (N : Nat) (a0 : Nat) (h : gH) (q : Int32 × gH) (hy : f_c10_wells N a0 h = some q) : gRc y_c10_wells h a0 ∧ gMi l X y_c10_wells b_c10_wells 3 .int (4 + N) 0 0 [.ref a0] h q.1 q.2 := by
  unfold f_c10_wells at hy
  obtain ⟨u0, e_u0, hy⟩ := gBd hy
  cases u0
  refine ⟨Or.inl ⟨10, _, _, e_u0, rfl⟩, gMet_i (lsx := [(0, .ref a0)]) (by decide) rfl rfl ?_⟩
  intro M hMl K hret
  subst hMl
  refine g_aload_n K d_c10_wells_0 0 rfl ?_
  obtain ⟨v1, e_v1, hy⟩ := gBd hy
  refine g_getR K fl_c10_10 d_c10_wells_1 e_v1 ?_
  obtain ⟨v2, e_v2, hy⟩ := gBd hy
  refine g_getI K fl_c10_100 d_c10_wells_4 e_v2 ?_
  refine g_if_ne K d_c10_wells_7 (fun c3 => ?_) (fun c3 => ?_)
  · rw [if_neg c3] at hy
    refine g_aload_n K d_c10_wells_12 0 rfl ?_
    obtain ⟨v4, e_v4, hy⟩ := gBd hy
    refine g_getR K fl_c10_37 d_c10_wells_13 e_v4 ?_
    refine g_aload_n K d_c10_wells_16 0 rfl ?_
    obtain ⟨v5, e_v5, hy⟩ := gBd hy
    refine g_getR K fl_c10_33 d_c10_wells_17 e_v5 ?_
    obtain ⟨q6, e_q6, hy⟩ := gBd hy
    refine g_callVv (rest := []) K hx ly_c7_take kv_c10_124 d_c10_wells_20 (ct_c7_take M.2.1 X hx N v4 v5 h q6 e_q6) rfl rfl (Nat.le_of_ble_eq_true rfl) (gDep rfl) ⟨Nat.le_refl 0, Nat.le_refl 0⟩ ?_
    refine g_aload_n K d_c10_wells_23 0 rfl ?_
    refine g_aload_n K d_c10_wells_24 0 rfl ?_
    obtain ⟨v7, e_v7, hy⟩ := gBd hy
    refine g_getR K fl_c10_37 d_c10_wells_25 e_v7 ?_
    obtain ⟨q8, e_q8, hy⟩ := gBd hy
    refine g_callVi (rest := []) K hx ly_c10_readLines kv_c10_128 d_c10_wells_28 (ct_c10_readLines M.2.1 X hx N a0 v7 q6 q8 e_q8) rfl rfl (Nat.le_of_ble_eq_true rfl) (gDep rfl) ⟨Nat.le_refl 0, Nat.le_refl 0⟩ ?_
    refine g_istore_n (ls2 := [(1, .int q8.1), (0, .ref a0)]) K d_c10_wells_31 rfl rfl ?_
    refine g_aload_n K d_c10_wells_32 1 rfl ?_
    obtain ⟨v9, e_v9, hy⟩ := gBd hy
    refine g_getR K fl_c10_10 d_c10_wells_33 e_v9 ?_
    refine g_iconst (v := 0) K d_c10_wells_36 (by decide) ?_
    obtain ⟨q10, e_q10, hy⟩ := gBd hy
    refine g_callVi (rest := []) K hx ly_c8_cutTo kv_c10_104 d_c10_wells_37 (ct_c8_cutTo M.2.1 X hx N v9 (0 : Int32) q8.2 q10 e_q10) rfl rfl (Nat.le_of_ble_eq_true rfl) (gDep rfl) ⟨Nat.le_refl 0, Nat.le_refl 0⟩ ?_
    refine g_pop K d_c10_wells_40 rfl ?_
    refine g_iload_n K d_c10_wells_41 0 rfl ?_
    refine g_if_lt K d_c10_wells_42 (fun c11 => ?_) (fun c11 => ?_)
    · rw [if_pos c11] at hy
      refine g_aload_n K d_c10_wells_49 1 rfl ?_
      obtain ⟨v12, e_v12, hy⟩ := gBd hy
      refine g_getR K fl_c10_37 d_c10_wells_50 e_v12 ?_
      obtain ⟨v13, e_v13, hy⟩ := gBd hy
      refine g_getI K fl_c10_132 d_c10_wells_53 e_v13 ?_
      refine g_aload_n K d_c10_wells_56 1 rfl ?_
      obtain ⟨v14, e_v14, hy⟩ := gBd hy
      refine g_getR K fl_c10_33 d_c10_wells_57 e_v14 ?_
      obtain ⟨v15, e_v15, hy⟩ := gBd hy
      refine g_getI K fl_c10_132 d_c10_wells_60 e_v15 ?_
      refine g_isub K d_c10_wells_63 ?_
      refine g_istore_n (ls2 := [(2, .int (v13 - v15)), (1, .int q8.1), (0, .ref a0)]) K d_c10_wells_64 rfl rfl ?_
      refine g_aload_n K d_c10_wells_65 2 rfl ?_
      obtain ⟨v16, e_v16, hy⟩ := gBd hy
      refine g_getR K fl_c10_33 d_c10_wells_66 e_v16 ?_
      refine g_aload_n K d_c10_wells_69 2 rfl ?_
      obtain ⟨v17, e_v17, hy⟩ := gBd hy
      refine g_getR K fl_c10_37 d_c10_wells_70 e_v17 ?_
      obtain ⟨q18, e_q18, hy⟩ := gBd hy
      refine g_callVv (rest := []) K hx ly_c7_take kv_c10_124 d_c10_wells_73 (ct_c7_take M.2.1 X hx N v16 v17 q10.2 q18 e_q18) rfl rfl (Nat.le_of_ble_eq_true rfl) (gDep rfl) ⟨Nat.le_refl 0, Nat.le_refl 0⟩ ?_
      refine g_aload_n K d_c10_wells_76 2 rfl ?_
      obtain ⟨v19, e_v19, hy⟩ := gBd hy
      refine g_getR K fl_c10_53 d_c10_wells_77 e_v19 ?_
      obtain ⟨q20, e_q20, hy⟩ := gBd hy
      refine g_callVv (rest := []) K hx ly_c5_forgetAll kv_c10_117 d_c10_wells_80 (ct_c5_forgetAll M.2.1 X hx N v19 q18 q20 e_q20) rfl rfl (Nat.le_of_ble_eq_true rfl) (gDep rfl) ⟨Nat.le_refl 0, Nat.le_refl 0⟩ ?_
      refine g_iload_n K d_c10_wells_83 0 rfl ?_
      obtain rfl := Option.some.inj hy
      exact hret rfl _ _ _ d_c10_wells_84
    · rw [if_neg c11] at hy
      refine g_iconst (v := (-1)) K d_c10_wells_45 (by decide) ?_
      refine g_iload_n K d_c10_wells_46 0 rfl ?_
      refine g_isub K d_c10_wells_47 ?_
      obtain rfl := Option.some.inj hy
      exact hret rfl _ _ _ d_c10_wells_48
  · rw [if_pos c3] at hy
    refine g_iconst (v := 0) K d_c10_wells_10 (by decide) ?_
    obtain rfl := Option.some.inj hy
    exact hret rfl _ _ _ d_c10_wells_11
-- c11 clears
theorem d_c11_clears_0 : gD b_c11_clears 0 (.aload_n 0) 1 1 := ⟨by decide +kernel, rfl⟩
theorem d_c11_clears_1 : gD b_c11_clears 1 (.iconst 0) 1 2 := ⟨by decide +kernel, rfl⟩
theorem d_c11_clears_2 : gD b_c11_clears 2 (.putfield 95) 3 5 := ⟨by decide +kernel, rfl⟩
theorem d_c11_clears_5 : gD b_c11_clears 5 (.aload_n 0) 1 6 := ⟨by decide +kernel, rfl⟩
theorem d_c11_clears_6 : gD b_c11_clears 6 (.iload_n 1) 1 7 := ⟨by decide +kernel, rfl⟩
theorem d_c11_clears_7 : gD b_c11_clears 7 (.invokevirtual 290) 3 10 := ⟨by decide +kernel, rfl⟩
theorem d_c11_clears_10 : gD b_c11_clears 10 (.istore_n 2) 1 11 := ⟨by decide +kernel, rfl⟩
theorem d_c11_clears_11 : gD b_c11_clears 11 (.iload_n 2) 1 12 := ⟨by decide +kernel, rfl⟩
theorem d_c11_clears_12 : gJ b_c11_clears 12 (.ifCond .ge 5) 3 5 15 17 := ⟨by decide +kernel, rfl, by decide⟩
theorem d_c11_clears_15 : gD b_c11_clears 15 (.iload_n 2) 1 16 := ⟨by decide +kernel, rfl⟩
theorem d_c11_clears_16 : gD b_c11_clears 16 .ireturn 1 17 := ⟨by decide +kernel, rfl⟩
theorem d_c11_clears_17 : gD b_c11_clears 17 (.aload_n 0) 1 18 := ⟨by decide +kernel, rfl⟩
theorem d_c11_clears_18 : gD b_c11_clears 18 (.aload_n 0) 1 19 := ⟨by decide +kernel, rfl⟩
theorem d_c11_clears_19 : gD b_c11_clears 19 (.getfield 9) 3 22 := ⟨by decide +kernel, rfl⟩
theorem d_c11_clears_22 : gD b_c11_clears 22 (.invokevirtual 260) 3 25 := ⟨by decide +kernel, rfl⟩
theorem d_c11_clears_25 : gD b_c11_clears 25 (.aload_n 0) 1 26 := ⟨by decide +kernel, rfl⟩
theorem d_c11_clears_26 : gD b_c11_clears 26 (.getfield 9) 3 29 := ⟨by decide +kernel, rfl⟩
theorem d_c11_clears_29 : gD b_c11_clears 29 (.bipush 24) 2 31 := ⟨by decide +kernel, rfl⟩
theorem d_c11_clears_31 : gD b_c11_clears 31 (.iload_n 1) 1 32 := ⟨by decide +kernel, rfl⟩
theorem d_c11_clears_32 : gD b_c11_clears 32 .iadd 1 33 := ⟨by decide +kernel, rfl⟩
theorem d_c11_clears_33 : gD b_c11_clears 33 .iaload 1 34 := ⟨by decide +kernel, rfl⟩
theorem d_c11_clears_34 : gD b_c11_clears 34 (.istore_n 3) 1 35 := ⟨by decide +kernel, rfl⟩
theorem d_c11_clears_35 : gD b_c11_clears 35 (.aload_n 0) 1 36 := ⟨by decide +kernel, rfl⟩
theorem d_c11_clears_36 : gD b_c11_clears 36 (.getfield 9) 3 39 := ⟨by decide +kernel, rfl⟩
theorem d_c11_clears_39 : gD b_c11_clears 39 (.bipush 24) 2 41 := ⟨by decide +kernel, rfl⟩
theorem d_c11_clears_41 : gD b_c11_clears 41 (.iload_n 1) 1 42 := ⟨by decide +kernel, rfl⟩
theorem d_c11_clears_42 : gD b_c11_clears 42 .iadd 1 43 := ⟨by decide +kernel, rfl⟩
theorem d_c11_clears_43 : gD b_c11_clears 43 (.iconst 0) 1 44 := ⟨by decide +kernel, rfl⟩
theorem d_c11_clears_44 : gD b_c11_clears 44 .iastore 1 45 := ⟨by decide +kernel, rfl⟩
theorem d_c11_clears_45 : gD b_c11_clears 45 (.iload_n 3) 1 46 := ⟨by decide +kernel, rfl⟩
theorem d_c11_clears_46 : gD b_c11_clears 46 .ireturn 1 47 := ⟨by decide +kernel, rfl⟩
def f_c11_clears (N : Nat) (a0 : Nat) (x1 : Int32) (h : gH) : Option (Int32 × gH) :=
  (gcl h a0 11).bind fun _ =>
  (sf h a0 11 10 (.int (0 : Int32))).bind fun h1 =>
    (f_c11_refusesClearing N a0 x1 h1).bind fun q2 =>
    if 0 ≤ q2 then
    (gfR h1 a0 11 0).bind fun v4 =>
    (f_c11_remember N a0 v4 h1).bind fun q5 =>
    (gfR q5 a0 11 0).bind fun v6 =>
    (ga 0 q5 v6 ((24 : Int32) + x1)).bind fun v7 =>
    (gfR q5 a0 11 0).bind fun v8 =>
    (sa 0 q5 v8 ((24 : Int32) + x1) (0 : Int32)).bind fun h9 =>
    some (v7, h9)
  else
    some (q2, h1)
set_option maxHeartbeats 4000000 in
set_option maxRecDepth 100000 in
theorem ct_c11_clears (l : Launch) (X : gX) (hx : gEx X = false) (N : Nat) (a0 : Nat) (x1 : Int32) (h : gH) (q : Int32 × gH) (hy : f_c11_clears N a0 x1 h = some q) : gRc y_c11_clears h a0 ∧ gMi l X y_c11_clears b_c11_clears 4 .int (4 + N) 0 0 [.ref a0, .int x1] h q.1 q.2 := by
  unfold f_c11_clears at hy
  obtain ⟨u0, e_u0, hy⟩ := gBd hy
  cases u0
  refine ⟨Or.inl ⟨11, _, _, e_u0, rfl⟩, gMet_i (lsx := [(0, .ref a0), (1, .int x1)]) (by decide) rfl rfl ?_⟩
  intro M hMl K hret
  subst hMl
  refine g_aload_n K d_c11_clears_0 0 rfl ?_
  refine g_iconst (v := 0) K d_c11_clears_1 (by decide) ?_
  obtain ⟨h1, e_h1, hy⟩ := gBd hy
  refine g_putI K fp_c11_95 d_c11_clears_2 e_h1 ?_
  refine g_aload_n K d_c11_clears_5 0 rfl ?_
  refine g_iload_n K d_c11_clears_6 1 rfl ?_
  obtain ⟨q2, e_q2, hy⟩ := gBd hy
  refine g_callVi (rest := []) K hx ly_c11_refusesClearing kv_c11_290 d_c11_clears_7 (ct_c11_refusesClearing M.2.1 X hx N a0 x1 h1 q2 e_q2) rfl rfl (Nat.le_of_ble_eq_true rfl) (gDep rfl) ⟨Nat.le_refl 0, Nat.le_refl 0⟩ ?_
  refine g_istore_n (ls2 := [(2, .int q2), (0, .ref a0), (1, .int x1)]) K d_c11_clears_10 rfl rfl ?_
  refine g_iload_n K d_c11_clears_11 0 rfl ?_
  refine g_if_ge K d_c11_clears_12 (fun c3 => ?_) (fun c3 => ?_)
  · rw [if_pos c3] at hy
    refine g_aload_n K d_c11_clears_17 1 rfl ?_
    refine g_aload_n K d_c11_clears_18 1 rfl ?_
    obtain ⟨v4, e_v4, hy⟩ := gBd hy
    refine g_getR K fl_c11_9 d_c11_clears_19 e_v4 ?_
    obtain ⟨q5, e_q5, hy⟩ := gBd hy
    refine g_callVv (rest := []) K hx ly_c11_remember kv_c11_260 d_c11_clears_22 (ct_c11_remember M.2.1 X hx N a0 v4 h1 q5 e_q5) rfl rfl (Nat.le_of_ble_eq_true rfl) (gDep rfl) ⟨Nat.le_refl 0, Nat.le_refl 0⟩ ?_
    refine g_aload_n K d_c11_clears_25 1 rfl ?_
    obtain ⟨v6, e_v6, hy⟩ := gBd hy
    refine g_getR K fl_c11_9 d_c11_clears_26 e_v6 ?_
    refine g_bipush (v := 24) K d_c11_clears_29 (by decide) ?_
    refine g_iload_n K d_c11_clears_31 2 rfl ?_
    refine g_iadd K d_c11_clears_32 ?_
    obtain ⟨v7, e_v7, hy⟩ := gBd hy
    refine g_iald K d_c11_clears_33 e_v7 ?_
    refine g_istore_n (ls2 := [(3, .int v7), (2, .int q2), (0, .ref a0), (1, .int x1)]) K d_c11_clears_34 rfl rfl ?_
    refine g_aload_n K d_c11_clears_35 2 rfl ?_
    obtain ⟨v8, e_v8, hy⟩ := gBd hy
    refine g_getR K fl_c11_9 d_c11_clears_36 e_v8 ?_
    refine g_bipush (v := 24) K d_c11_clears_39 (by decide) ?_
    refine g_iload_n K d_c11_clears_41 3 rfl ?_
    refine g_iadd K d_c11_clears_42 ?_
    refine g_iconst (v := 0) K d_c11_clears_43 (by decide) ?_
    obtain ⟨h9, e_h9, hy⟩ := gBd hy
    refine g_iast K d_c11_clears_44 e_h9 ?_
    refine g_iload_n K d_c11_clears_45 0 rfl ?_
    obtain rfl := Option.some.inj hy
    exact hret rfl _ _ _ d_c11_clears_46
  · rw [if_neg c3] at hy
    refine g_iload_n K d_c11_clears_15 0 rfl ?_
    obtain rfl := Option.some.inj hy
    exact hret rfl _ _ _ d_c11_clears_16
-- c11 covers
theorem d_c11_covers_0 : gD b_c11_covers 0 (.aload_n 0) 1 1 := ⟨by decide +kernel, rfl⟩
theorem d_c11_covers_1 : gD b_c11_covers 1 (.iconst 0) 1 2 := ⟨by decide +kernel, rfl⟩
theorem d_c11_covers_2 : gD b_c11_covers 2 (.putfield 95) 3 5 := ⟨by decide +kernel, rfl⟩
theorem d_c11_covers_5 : gD b_c11_covers 5 (.iload_n 1) 1 6 := ⟨by decide +kernel, rfl⟩
theorem d_c11_covers_6 : gD b_c11_covers 6 (.iconst 0) 1 7 := ⟨by decide +kernel, rfl⟩
theorem d_c11_covers_7 : gD b_c11_covers 7 (.bipush 10) 2 9 := ⟨by decide +kernel, rfl⟩
theorem d_c11_covers_9 : gD b_c11_covers 9 (.invokestatic 105) 3 12 := ⟨by decide +kernel, rfl⟩
theorem d_c11_covers_12 : gJ b_c11_covers 12 (.ifCond .ne 5) 3 5 15 17 := ⟨by decide +kernel, rfl, by decide⟩
theorem d_c11_covers_15 : gD b_c11_covers 15 (.iconst (-1)) 1 16 := ⟨by decide +kernel, rfl⟩
theorem d_c11_covers_16 : gD b_c11_covers 16 .ireturn 1 17 := ⟨by decide +kernel, rfl⟩
theorem d_c11_covers_17 : gD b_c11_covers 17 (.iconst 1) 1 18 := ⟨by decide +kernel, rfl⟩
theorem d_c11_covers_18 : gD b_c11_covers 18 (.aload_n 0) 1 19 := ⟨by decide +kernel, rfl⟩
theorem d_c11_covers_19 : gD b_c11_covers 19 (.getfield 109) 3 22 := ⟨by decide +kernel, rfl⟩
theorem d_c11_covers_22 : gD b_c11_covers 22 .ishl 1 23 := ⟨by decide +kernel, rfl⟩
theorem d_c11_covers_23 : gD b_c11_covers 23 (.iconst 1) 1 24 := ⟨by decide +kernel, rfl⟩
theorem d_c11_covers_24 : gD b_c11_covers 24 .isub 1 25 := ⟨by decide +kernel, rfl⟩
theorem d_c11_covers_25 : gD b_c11_covers 25 (.istore_n 2) 1 26 := ⟨by decide +kernel, rfl⟩
theorem d_c11_covers_26 : gD b_c11_covers 26 (.iconst 0) 1 27 := ⟨by decide +kernel, rfl⟩
theorem d_c11_covers_27 : gD b_c11_covers 27 (.istore_n 3) 1 28 := ⟨by decide +kernel, rfl⟩
theorem d_c11_covers_28 : gD b_c11_covers 28 (.iload_n 3) 1 29 := ⟨by decide +kernel, rfl⟩
theorem d_c11_covers_29 : gD b_c11_covers 29 (.iload_n 2) 1 30 := ⟨by decide +kernel, rfl⟩
theorem d_c11_covers_30 : gJ b_c11_covers 30 (.if_icmp .gt 34) 3 34 33 64 := ⟨by decide +kernel, rfl, by decide⟩
theorem d_c11_covers_33 : gD b_c11_covers 33 (.aload_n 0) 1 34 := ⟨by decide +kernel, rfl⟩
theorem d_c11_covers_34 : gD b_c11_covers 34 (.getfield 67) 3 37 := ⟨by decide +kernel, rfl⟩
theorem d_c11_covers_37 : gD b_c11_covers 37 (.aload_n 0) 1 38 := ⟨by decide +kernel, rfl⟩
theorem d_c11_covers_38 : gD b_c11_covers 38 (.invokevirtual 101) 3 41 := ⟨by decide +kernel, rfl⟩
theorem d_c11_covers_41 : gD b_c11_covers 41 (.bipush 6) 2 43 := ⟨by decide +kernel, rfl⟩
theorem d_c11_covers_43 : gD b_c11_covers 43 .ishl 1 44 := ⟨by decide +kernel, rfl⟩
theorem d_c11_covers_44 : gD b_c11_covers 44 (.iload_n 3) 1 45 := ⟨by decide +kernel, rfl⟩
theorem d_c11_covers_45 : gD b_c11_covers 45 .ior 1 46 := ⟨by decide +kernel, rfl⟩
theorem d_c11_covers_46 : gD b_c11_covers 46 (.iload_n 3) 1 47 := ⟨by decide +kernel, rfl⟩
theorem d_c11_covers_47 : gJ b_c11_covers 47 (.ifCond .ne 7) 3 7 50 54 := ⟨by decide +kernel, rfl, by decide⟩
theorem d_c11_covers_50 : gD b_c11_covers 50 (.iconst 0) 1 51 := ⟨by decide +kernel, rfl⟩
theorem d_c11_covers_51 : gJ b_c11_covers 51 (.goto 6) 3 6 54 57 := ⟨by decide +kernel, rfl, by decide⟩
theorem d_c11_covers_54 : gD b_c11_covers 54 (.ldc_w 311) 3 57 := ⟨by decide +kernel, rfl⟩
theorem d_c11_covers_57 : gD b_c11_covers 57 .iastore 1 58 := ⟨by decide +kernel, rfl⟩
theorem d_c11_covers_58 : gD b_c11_covers 58 (.iinc 3 1) 3 61 := ⟨by decide +kernel, rfl⟩
theorem d_c11_covers_61 : gJ b_c11_covers 61 (.goto (-33)) 3 (-33) 64 28 := ⟨by decide +kernel, rfl, by decide⟩
theorem d_c11_covers_64 : gD b_c11_covers 64 (.aload_n 0) 1 65 := ⟨by decide +kernel, rfl⟩
theorem d_c11_covers_65 : gD b_c11_covers 65 (.invokevirtual 101) 3 68 := ⟨by decide +kernel, rfl⟩
theorem d_c11_covers_68 : gD b_c11_covers 68 (.iconst 1) 1 69 := ⟨by decide +kernel, rfl⟩
theorem d_c11_covers_69 : gD b_c11_covers 69 .isub 1 70 := ⟨by decide +kernel, rfl⟩
theorem d_c11_covers_70 : gD b_c11_covers 70 (.istore_n 3) 1 71 := ⟨by decide +kernel, rfl⟩
theorem d_c11_covers_71 : gD b_c11_covers 71 (.iload_n 3) 1 72 := ⟨by decide +kernel, rfl⟩
theorem d_c11_covers_72 : gJ b_c11_covers 72 (.ifCond .lt 82) 3 82 75 154 := ⟨by decide +kernel, rfl, by decide⟩
theorem d_c11_covers_75 : gD b_c11_covers 75 (.aload_n 0) 1 76 := ⟨by decide +kernel, rfl⟩
theorem d_c11_covers_76 : gD b_c11_covers 76 (.iload_n 3) 1 77 := ⟨by decide +kernel, rfl⟩
theorem d_c11_covers_77 : gD b_c11_covers 77 (.iload_n 1) 1 78 := ⟨by decide +kernel, rfl⟩
theorem d_c11_covers_78 : gD b_c11_covers 78 (.invokevirtual 312) 3 81 := ⟨by decide +kernel, rfl⟩
theorem d_c11_covers_81 : gD b_c11_covers 81 (.istore 4) 2 83 := ⟨by decide +kernel, rfl⟩
theorem d_c11_covers_83 : gD b_c11_covers 83 (.iconst 0) 1 84 := ⟨by decide +kernel, rfl⟩
theorem d_c11_covers_84 : gD b_c11_covers 84 (.istore 5) 2 86 := ⟨by decide +kernel, rfl⟩
theorem d_c11_covers_86 : gD b_c11_covers 86 (.iload 5) 2 88 := ⟨by decide +kernel, rfl⟩
theorem d_c11_covers_88 : gD b_c11_covers 88 (.iload_n 2) 1 89 := ⟨by decide +kernel, rfl⟩
theorem d_c11_covers_89 : gJ b_c11_covers 89 (.if_icmp .gt 59) 3 59 92 148 := ⟨by decide +kernel, rfl, by decide⟩
theorem d_c11_covers_92 : gD b_c11_covers 92 (.aload_n 0) 1 93 := ⟨by decide +kernel, rfl⟩
theorem d_c11_covers_93 : gD b_c11_covers 93 (.getfield 67) 3 96 := ⟨by decide +kernel, rfl⟩
theorem d_c11_covers_96 : gD b_c11_covers 96 (.iload_n 3) 1 97 := ⟨by decide +kernel, rfl⟩
theorem d_c11_covers_97 : gD b_c11_covers 97 (.bipush 6) 2 99 := ⟨by decide +kernel, rfl⟩
theorem d_c11_covers_99 : gD b_c11_covers 99 .ishl 1 100 := ⟨by decide +kernel, rfl⟩
theorem d_c11_covers_100 : gD b_c11_covers 100 (.iload 5) 2 102 := ⟨by decide +kernel, rfl⟩
theorem d_c11_covers_102 : gD b_c11_covers 102 .ior 1 103 := ⟨by decide +kernel, rfl⟩
theorem d_c11_covers_103 : gD b_c11_covers 103 (.aload_n 0) 1 104 := ⟨by decide +kernel, rfl⟩
theorem d_c11_covers_104 : gD b_c11_covers 104 (.getfield 67) 3 107 := ⟨by decide +kernel, rfl⟩
theorem d_c11_covers_107 : gD b_c11_covers 107 (.iload_n 3) 1 108 := ⟨by decide +kernel, rfl⟩
theorem d_c11_covers_108 : gD b_c11_covers 108 (.iconst 1) 1 109 := ⟨by decide +kernel, rfl⟩
theorem d_c11_covers_109 : gD b_c11_covers 109 .iadd 1 110 := ⟨by decide +kernel, rfl⟩
theorem d_c11_covers_110 : gD b_c11_covers 110 (.bipush 6) 2 112 := ⟨by decide +kernel, rfl⟩
theorem d_c11_covers_112 : gD b_c11_covers 112 .ishl 1 113 := ⟨by decide +kernel, rfl⟩
theorem d_c11_covers_113 : gD b_c11_covers 113 (.iload 5) 2 115 := ⟨by decide +kernel, rfl⟩
theorem d_c11_covers_115 : gD b_c11_covers 115 .ior 1 116 := ⟨by decide +kernel, rfl⟩
theorem d_c11_covers_116 : gD b_c11_covers 116 .iaload 1 117 := ⟨by decide +kernel, rfl⟩
theorem d_c11_covers_117 : gD b_c11_covers 117 (.iconst 1) 1 118 := ⟨by decide +kernel, rfl⟩
theorem d_c11_covers_118 : gD b_c11_covers 118 (.aload_n 0) 1 119 := ⟨by decide +kernel, rfl⟩
theorem d_c11_covers_119 : gD b_c11_covers 119 (.getfield 67) 3 122 := ⟨by decide +kernel, rfl⟩
theorem d_c11_covers_122 : gD b_c11_covers 122 (.iload_n 3) 1 123 := ⟨by decide +kernel, rfl⟩
theorem d_c11_covers_123 : gD b_c11_covers 123 (.iconst 1) 1 124 := ⟨by decide +kernel, rfl⟩
theorem d_c11_covers_124 : gD b_c11_covers 124 .iadd 1 125 := ⟨by decide +kernel, rfl⟩
theorem d_c11_covers_125 : gD b_c11_covers 125 (.bipush 6) 2 127 := ⟨by decide +kernel, rfl⟩
theorem d_c11_covers_127 : gD b_c11_covers 127 .ishl 1 128 := ⟨by decide +kernel, rfl⟩
theorem d_c11_covers_128 : gD b_c11_covers 128 (.iload 5) 2 130 := ⟨by decide +kernel, rfl⟩
theorem d_c11_covers_130 : gD b_c11_covers 130 (.iload 4) 2 132 := ⟨by decide +kernel, rfl⟩
theorem d_c11_covers_132 : gD b_c11_covers 132 (.iconst (-1)) 1 133 := ⟨by decide +kernel, rfl⟩
theorem d_c11_covers_133 : gD b_c11_covers 133 .ixor 1 134 := ⟨by decide +kernel, rfl⟩
theorem d_c11_covers_134 : gD b_c11_covers 134 .iand 1 135 := ⟨by decide +kernel, rfl⟩
theorem d_c11_covers_135 : gD b_c11_covers 135 .ior 1 136 := ⟨by decide +kernel, rfl⟩
theorem d_c11_covers_136 : gD b_c11_covers 136 .iaload 1 137 := ⟨by decide +kernel, rfl⟩
theorem d_c11_covers_137 : gD b_c11_covers 137 .iadd 1 138 := ⟨by decide +kernel, rfl⟩
theorem d_c11_covers_138 : gD b_c11_covers 138 (.invokestatic 224) 3 141 := ⟨by decide +kernel, rfl⟩
theorem d_c11_covers_141 : gD b_c11_covers 141 .iastore 1 142 := ⟨by decide +kernel, rfl⟩
theorem d_c11_covers_142 : gD b_c11_covers 142 (.iinc 5 1) 3 145 := ⟨by decide +kernel, rfl⟩
theorem d_c11_covers_145 : gJ b_c11_covers 145 (.goto (-59)) 3 (-59) 148 86 := ⟨by decide +kernel, rfl, by decide⟩
theorem d_c11_covers_148 : gD b_c11_covers 148 (.iinc 3 (-1)) 3 151 := ⟨by decide +kernel, rfl⟩
theorem d_c11_covers_151 : gJ b_c11_covers 151 (.goto (-80)) 3 (-80) 154 71 := ⟨by decide +kernel, rfl, by decide⟩
theorem d_c11_covers_154 : gD b_c11_covers 154 (.aload_n 0) 1 155 := ⟨by decide +kernel, rfl⟩
theorem d_c11_covers_155 : gD b_c11_covers 155 (.getfield 67) 3 158 := ⟨by decide +kernel, rfl⟩
theorem d_c11_covers_158 : gD b_c11_covers 158 (.iload_n 2) 1 159 := ⟨by decide +kernel, rfl⟩
theorem d_c11_covers_159 : gD b_c11_covers 159 .iaload 1 160 := ⟨by decide +kernel, rfl⟩
theorem d_c11_covers_160 : gD b_c11_covers 160 (.istore_n 3) 1 161 := ⟨by decide +kernel, rfl⟩
theorem d_c11_covers_161 : gD b_c11_covers 161 (.iload_n 2) 1 162 := ⟨by decide +kernel, rfl⟩
theorem d_c11_covers_162 : gD b_c11_covers 162 (.istore 4) 2 164 := ⟨by decide +kernel, rfl⟩
theorem d_c11_covers_164 : gD b_c11_covers 164 (.aload_n 0) 1 165 := ⟨by decide +kernel, rfl⟩
theorem d_c11_covers_165 : gD b_c11_covers 165 (.iconst 0) 1 166 := ⟨by decide +kernel, rfl⟩
theorem d_c11_covers_166 : gD b_c11_covers 166 (.putfield 98) 3 169 := ⟨by decide +kernel, rfl⟩
theorem d_c11_covers_169 : gD b_c11_covers 169 (.iconst 0) 1 170 := ⟨by decide +kernel, rfl⟩
theorem d_c11_covers_170 : gD b_c11_covers 170 (.istore 5) 2 172 := ⟨by decide +kernel, rfl⟩
theorem d_c11_covers_172 : gD b_c11_covers 172 (.iload 5) 2 174 := ⟨by decide +kernel, rfl⟩
theorem d_c11_covers_174 : gD b_c11_covers 174 (.aload_n 0) 1 175 := ⟨by decide +kernel, rfl⟩
theorem d_c11_covers_175 : gD b_c11_covers 175 (.invokevirtual 101) 3 178 := ⟨by decide +kernel, rfl⟩
theorem d_c11_covers_178 : gJ b_c11_covers 178 (.if_icmp .ge 71) 3 71 181 249 := ⟨by decide +kernel, rfl, by decide⟩
theorem d_c11_covers_181 : gD b_c11_covers 181 (.aload_n 0) 1 182 := ⟨by decide +kernel, rfl⟩
theorem d_c11_covers_182 : gD b_c11_covers 182 (.getfield 98) 3 185 := ⟨by decide +kernel, rfl⟩
theorem d_c11_covers_185 : gD b_c11_covers 185 (.iload_n 3) 1 186 := ⟨by decide +kernel, rfl⟩
theorem d_c11_covers_186 : gJ b_c11_covers 186 (.if_icmp .ge 63) 3 63 189 249 := ⟨by decide +kernel, rfl, by decide⟩
theorem d_c11_covers_189 : gD b_c11_covers 189 (.iload 4) 2 191 := ⟨by decide +kernel, rfl⟩
theorem d_c11_covers_191 : gD b_c11_covers 191 (.aload_n 0) 1 192 := ⟨by decide +kernel, rfl⟩
theorem d_c11_covers_192 : gD b_c11_covers 192 (.iload 5) 2 194 := ⟨by decide +kernel, rfl⟩
theorem d_c11_covers_194 : gD b_c11_covers 194 (.iload_n 1) 1 195 := ⟨by decide +kernel, rfl⟩
theorem d_c11_covers_195 : gD b_c11_covers 195 (.invokevirtual 312) 3 198 := ⟨by decide +kernel, rfl⟩
theorem d_c11_covers_198 : gD b_c11_covers 198 (.iconst (-1)) 1 199 := ⟨by decide +kernel, rfl⟩
theorem d_c11_covers_199 : gD b_c11_covers 199 .ixor 1 200 := ⟨by decide +kernel, rfl⟩
theorem d_c11_covers_200 : gD b_c11_covers 200 .iand 1 201 := ⟨by decide +kernel, rfl⟩
theorem d_c11_covers_201 : gD b_c11_covers 201 (.istore 6) 2 203 := ⟨by decide +kernel, rfl⟩
theorem d_c11_covers_203 : gD b_c11_covers 203 (.iconst 1) 1 204 := ⟨by decide +kernel, rfl⟩
theorem d_c11_covers_204 : gD b_c11_covers 204 (.aload_n 0) 1 205 := ⟨by decide +kernel, rfl⟩
theorem d_c11_covers_205 : gD b_c11_covers 205 (.getfield 67) 3 208 := ⟨by decide +kernel, rfl⟩
theorem d_c11_covers_208 : gD b_c11_covers 208 (.iload 5) 2 210 := ⟨by decide +kernel, rfl⟩
theorem d_c11_covers_210 : gD b_c11_covers 210 (.iconst 1) 1 211 := ⟨by decide +kernel, rfl⟩
theorem d_c11_covers_211 : gD b_c11_covers 211 .iadd 1 212 := ⟨by decide +kernel, rfl⟩
theorem d_c11_covers_212 : gD b_c11_covers 212 (.bipush 6) 2 214 := ⟨by decide +kernel, rfl⟩
theorem d_c11_covers_214 : gD b_c11_covers 214 .ishl 1 215 := ⟨by decide +kernel, rfl⟩
theorem d_c11_covers_215 : gD b_c11_covers 215 (.iload 6) 2 217 := ⟨by decide +kernel, rfl⟩
theorem d_c11_covers_217 : gD b_c11_covers 217 .ior 1 218 := ⟨by decide +kernel, rfl⟩
theorem d_c11_covers_218 : gD b_c11_covers 218 .iaload 1 219 := ⟨by decide +kernel, rfl⟩
theorem d_c11_covers_219 : gD b_c11_covers 219 .iadd 1 220 := ⟨by decide +kernel, rfl⟩
theorem d_c11_covers_220 : gD b_c11_covers 220 (.iload_n 3) 1 221 := ⟨by decide +kernel, rfl⟩
theorem d_c11_covers_221 : gD b_c11_covers 221 (.aload_n 0) 1 222 := ⟨by decide +kernel, rfl⟩
theorem d_c11_covers_222 : gD b_c11_covers 222 (.getfield 98) 3 225 := ⟨by decide +kernel, rfl⟩
theorem d_c11_covers_225 : gD b_c11_covers 225 .isub 1 226 := ⟨by decide +kernel, rfl⟩
theorem d_c11_covers_226 : gJ b_c11_covers 226 (.if_icmp .eq 6) 3 6 229 232 := ⟨by decide +kernel, rfl, by decide⟩
theorem d_c11_covers_229 : gJ b_c11_covers 229 (.goto 14) 3 14 232 243 := ⟨by decide +kernel, rfl, by decide⟩
theorem d_c11_covers_232 : gD b_c11_covers 232 (.iload 6) 2 234 := ⟨by decide +kernel, rfl⟩
theorem d_c11_covers_234 : gD b_c11_covers 234 (.istore 4) 2 236 := ⟨by decide +kernel, rfl⟩
theorem d_c11_covers_236 : gD b_c11_covers 236 (.aload_n 0) 1 237 := ⟨by decide +kernel, rfl⟩
theorem d_c11_covers_237 : gD b_c11_covers 237 (.iload 5) 2 239 := ⟨by decide +kernel, rfl⟩
theorem d_c11_covers_239 : gD b_c11_covers 239 .i2l 1 240 := ⟨by decide +kernel, rfl⟩
theorem d_c11_covers_240 : gD b_c11_covers 240 (.invokevirtual 268) 3 243 := ⟨by decide +kernel, rfl⟩
theorem d_c11_covers_243 : gD b_c11_covers 243 (.iinc 5 1) 3 246 := ⟨by decide +kernel, rfl⟩
theorem d_c11_covers_246 : gJ b_c11_covers 246 (.goto (-74)) 3 (-74) 249 172 := ⟨by decide +kernel, rfl, by decide⟩
theorem d_c11_covers_249 : gD b_c11_covers 249 (.iload_n 3) 1 250 := ⟨by decide +kernel, rfl⟩
theorem d_c11_covers_250 : gD b_c11_covers 250 .ireturn 1 251 := ⟨by decide +kernel, rfl⟩
def lp_c11_covers_28 (N : Nat) (a0 : Nat) (x2 : Int32) : Nat → Int32 → gH → Option (gH)
  | 0, _, _ => none
  | k + 1, x3, h =>
  if x2 < x3 then
    some h
  else
    (gfR h a0 11 30).bind fun v6 =>
    (f_c11_fields N a0 h).bind fun q7 =>
    (sa 0 h v6 ((q7 <<< ((6 : Int32) &&& 31)) ||| x3) (if x3 = 0 then (0 : Int32) else (1000000 : Int32))).bind fun h11 =>
    lp_c11_covers_28 N a0 x2 k (x3 + (1 : Int32)) h11
def lp_c11_covers_86 (N : Nat) (a0 : Nat) (x2 : Int32) (x3 : Int32) (x4 : Int32) : Nat → Int32 → gH → Option (gH)
  | 0, _, _ => none
  | k + 1, x5, h =>
  if x2 < x5 then
    some h
  else
    (gfR h a0 11 30).bind fun v17 =>
    (gfR h a0 11 30).bind fun v18 =>
    (ga 0 h v18 (((x3 + (1 : Int32)) <<< ((6 : Int32) &&& 31)) ||| x5)).bind fun v19 =>
    (gfR h a0 11 30).bind fun v20 =>
    (ga 0 h v20 (((x3 + (1 : Int32)) <<< ((6 : Int32) &&& 31)) ||| (x5 &&& (x4 ^^^ (-1 : Int32))))).bind fun v21 =>
    (sa 0 h v17 ((x3 <<< ((6 : Int32) &&& 31)) ||| x5) (gmin v19 ((1 : Int32) + v21))).bind fun h22 =>
    lp_c11_covers_86 N a0 x2 x3 x4 k (x5 + (1 : Int32)) h22
def lp_c11_covers_71 (N : Nat) (a0 : Nat) (x1 : Int32) (x2 : Int32) : Nat → Int32 → gH → Option (gH)
  | 0, _, _ => none
  | k + 1, x3, h =>
  if x3 < 0 then
    some h
  else
    (f_c11_coveredBy N a0 x3 x1 h).bind fun q15 =>
    (lp_c11_covers_86 N a0 x2 x3 q15 N (0 : Int32) h).bind fun o23 =>
    lp_c11_covers_71 N a0 x1 x2 k (x3 + (-1 : Int32)) o23
def lp_c11_covers_172 (N : Nat) (a0 : Nat) (x1 : Int32) (x3 : Int32) : Nat → Int32 → Int32 → gH → Option (gH)
  | 0, _, _, _ => none
  | k + 1, x4, x5, h =>
  (f_c11_fields N a0 h).bind fun q28 =>
    if q28 ≤ x5 then
    some h
  else
    (gfI h a0 11 9).bind fun v30 =>
    if x3 ≤ v30 then
    some h
  else
    (f_c11_coveredBy N a0 x5 x1 h).bind fun q32 =>
    (gfR h a0 11 30).bind fun v33 =>
    (ga 0 h v33 (((x5 + (1 : Int32)) <<< ((6 : Int32) &&& 31)) ||| (x4 &&& (q32 ^^^ (-1 : Int32))))).bind fun v34 =>
    (gfI h a0 11 9).bind fun v35 =>
    (show Option (Int32 × gH) from if ((1 : Int32) + v34) = (x3 - v35) then
    (f_c11_tell N a0 x5.toInt64 h).bind fun q39 =>
    some (x4 &&& (q32 ^^^ (-1 : Int32)), q39)
  else
    some (x4, h)).bind fun t37 =>
    lp_c11_covers_172 N a0 x1 x3 k t37.1 (x5 + (1 : Int32)) t37.2
def f_c11_covers (N : Nat) (a0 : Nat) (x1 : Int32) (h : gH) : Option (Int32 × gH) :=
  (gcl h a0 11).bind fun _ =>
  (sf h a0 11 10 (.int (0 : Int32))).bind fun h1 =>
    (f_c11_in N x1 (0 : Int32) (10 : Int32) h1).bind fun q2 =>
    if q2 = 0 then
    some ((-1 : Int32), h1)
  else
    (gfI h1 a0 11 3).bind fun v4 =>
    (lp_c11_covers_28 N a0 (((1 : Int32) <<< (v4 &&& 31)) - (1 : Int32)) N (0 : Int32) h1).bind fun o12 =>
    (f_c11_fields N a0 o12).bind fun q13 =>
    (lp_c11_covers_71 N a0 x1 (((1 : Int32) <<< (v4 &&& 31)) - (1 : Int32)) N (q13 - (1 : Int32)) o12).bind fun o24 =>
    (gfR o24 a0 11 30).bind fun v25 =>
    (ga 0 o24 v25 (((1 : Int32) <<< (v4 &&& 31)) - (1 : Int32))).bind fun v26 =>
    (sf o24 a0 11 9 (.int (0 : Int32))).bind fun h27 =>
    (lp_c11_covers_172 N a0 x1 v26 N (((1 : Int32) <<< (v4 &&& 31)) - (1 : Int32)) (0 : Int32) h27).bind fun o40 =>
    some (v26, o40)
set_option maxHeartbeats 4000000 in
set_option maxRecDepth 100000 in
theorem wlp_c11_covers_28 {M : gM} {X : gX} {N : Nat} (hx : gEx X = false) (K : gC M X gN11 b_c11_covers 7 (gRm (4 + N) 0 0)) (a0 : Nat) (x2 : Int32) (x1 : Int32) : ∀ (k : Nat) (x3 : Int32) (h : gH) (o : gH), lp_c11_covers_28 N a0 x2 k x3 h = some o → gG M X 7 0 0 64 [(0, .ref a0), (1, .int x1), (2, .int x2)] [] o → gG M X 7 0 0 28 [(0, .ref a0), (1, .int x1), (2, .int x2), (3, .int x3)] [] h := by
  intro k
  induction k with
  | zero =>
    intro x3 h o hy
    rw [lp_c11_covers_28.eq_1] at hy
    cases hy
  | succ k ih =>
    intro x3 h o hy hE
    rw [lp_c11_covers_28.eq_2] at hy
    refine g_iload_n K d_c11_covers_28 3 rfl ?_
    refine g_iload_n K d_c11_covers_29 2 rfl ?_
    refine g_icmp_gt K d_c11_covers_30 (fun c5 => ?_) (fun c5 => ?_)
    · rw [if_pos c5] at hy
      refine g_sub (ls2 := [(0, .ref a0), (1, .int x1), (2, .int x2)]) [0, 1, 2] rfl ?_
      obtain rfl := Option.some.inj hy
      exact hE
    · rw [if_neg c5] at hy
      refine g_aload_n K d_c11_covers_33 0 rfl ?_
      obtain ⟨v6, e_v6, hy⟩ := gBd hy
      refine g_getR K fl_c11_67 d_c11_covers_34 e_v6 ?_
      refine g_aload_n K d_c11_covers_37 0 rfl ?_
      obtain ⟨q7, e_q7, hy⟩ := gBd hy
      refine g_callVi (rest := [.ref v6]) K hx ly_c11_fields kv_c11_101 d_c11_covers_38 (ct_c11_fields M.2.1 X hx N a0 h q7 e_q7) rfl rfl (Nat.le_of_ble_eq_true rfl) (gDep rfl) ⟨Nat.le_refl 0, Nat.le_refl 0⟩ ?_
      refine g_bipush (v := 6) K d_c11_covers_41 (by decide) ?_
      refine g_ishl K d_c11_covers_43 ?_
      refine g_iload_n K d_c11_covers_44 3 rfl ?_
      refine g_ior K d_c11_covers_45 ?_
      refine g_iload_n K d_c11_covers_46 3 rfl ?_
      have hJ10 : ∀ w9 : Int32, w9 = (if x3 = 0 then (0 : Int32) else (1000000 : Int32)) → gG M X 7 0 0 57 [(0, .ref a0), (1, .int x1), (2, .int x2), (3, .int x3)] [.int w9, .int ((q7 <<< ((6 : Int32) &&& 31)) ||| x3), .ref v6] h := by
        intro w9 e_w9
        subst e_w9
        obtain ⟨h11, e_h11, hy⟩ := gBd hy
        refine g_iast K d_c11_covers_57 e_h11 ?_
        refine g_iinc (ls2 := [(3, .int (x3 + (1 : Int32))), (0, .ref a0), (1, .int x1), (2, .int x2)]) (v := 1) K d_c11_covers_58 3 rfl (by decide) rfl rfl ?_
        refine g_goto K d_c11_covers_61 ?_
        refine g_sub (ls2 := [(0, .ref a0), (1, .int x1), (2, .int x2), (3, .int (x3 + (1 : Int32)))]) [1, 2, 3, 0] rfl ?_
        exact ih _ _ _ hy hE
      refine g_if_ne K d_c11_covers_47 (fun c8 => ?_) (fun c8 => ?_)
      · refine g_ldcw (v := 1000000) K d_c11_covers_54 (gTk_7 44 rfl rfl) ?_
        exact hJ10 _ (by rw [if_neg c8])
      · refine g_iconst (v := 0) K d_c11_covers_50 (by decide) ?_
        refine g_goto K d_c11_covers_51 ?_
        exact hJ10 _ (by rw [if_pos c8])
set_option maxHeartbeats 4000000 in
set_option maxRecDepth 100000 in
theorem wlp_c11_covers_86 {M : gM} {X : gX} {N : Nat} (hx : gEx X = false) (K : gC M X gN11 b_c11_covers 7 (gRm (4 + N) 0 0)) (a0 : Nat) (x2 : Int32) (x3 : Int32) (x4 : Int32) (x1 : Int32) : ∀ (k : Nat) (x5 : Int32) (h : gH) (o : gH), lp_c11_covers_86 N a0 x2 x3 x4 k x5 h = some o → gG M X 7 0 0 148 [(0, .ref a0), (1, .int x1), (2, .int x2), (3, .int x3)] [] o → gG M X 7 0 0 86 [(0, .ref a0), (1, .int x1), (2, .int x2), (3, .int x3), (4, .int x4), (5, .int x5)] [] h := by
  intro k
  induction k with
  | zero =>
    intro x5 h o hy
    rw [lp_c11_covers_86.eq_1] at hy
    cases hy
  | succ k ih =>
    intro x5 h o hy hE
    rw [lp_c11_covers_86.eq_2] at hy
    refine g_iload K d_c11_covers_86 5 rfl ?_
    refine g_iload_n K d_c11_covers_88 2 rfl ?_
    refine g_icmp_gt K d_c11_covers_89 (fun c16 => ?_) (fun c16 => ?_)
    · rw [if_pos c16] at hy
      refine g_sub (ls2 := [(0, .ref a0), (1, .int x1), (2, .int x2), (3, .int x3)]) [0, 1, 2, 3] rfl ?_
      obtain rfl := Option.some.inj hy
      exact hE
    · rw [if_neg c16] at hy
      refine g_aload_n K d_c11_covers_92 0 rfl ?_
      obtain ⟨v17, e_v17, hy⟩ := gBd hy
      refine g_getR K fl_c11_67 d_c11_covers_93 e_v17 ?_
      refine g_iload_n K d_c11_covers_96 3 rfl ?_
      refine g_bipush (v := 6) K d_c11_covers_97 (by decide) ?_
      refine g_ishl K d_c11_covers_99 ?_
      refine g_iload K d_c11_covers_100 5 rfl ?_
      refine g_ior K d_c11_covers_102 ?_
      refine g_aload_n K d_c11_covers_103 0 rfl ?_
      obtain ⟨v18, e_v18, hy⟩ := gBd hy
      refine g_getR K fl_c11_67 d_c11_covers_104 e_v18 ?_
      refine g_iload_n K d_c11_covers_107 3 rfl ?_
      refine g_iconst (v := 1) K d_c11_covers_108 (by decide) ?_
      refine g_iadd K d_c11_covers_109 ?_
      refine g_bipush (v := 6) K d_c11_covers_110 (by decide) ?_
      refine g_ishl K d_c11_covers_112 ?_
      refine g_iload K d_c11_covers_113 5 rfl ?_
      refine g_ior K d_c11_covers_115 ?_
      obtain ⟨v19, e_v19, hy⟩ := gBd hy
      refine g_iald K d_c11_covers_116 e_v19 ?_
      refine g_iconst (v := 1) K d_c11_covers_117 (by decide) ?_
      refine g_aload_n K d_c11_covers_118 0 rfl ?_
      obtain ⟨v20, e_v20, hy⟩ := gBd hy
      refine g_getR K fl_c11_67 d_c11_covers_119 e_v20 ?_
      refine g_iload_n K d_c11_covers_122 3 rfl ?_
      refine g_iconst (v := 1) K d_c11_covers_123 (by decide) ?_
      refine g_iadd K d_c11_covers_124 ?_
      refine g_bipush (v := 6) K d_c11_covers_125 (by decide) ?_
      refine g_ishl K d_c11_covers_127 ?_
      refine g_iload K d_c11_covers_128 5 rfl ?_
      refine g_iload K d_c11_covers_130 4 rfl ?_
      refine g_iconst (v := (-1)) K d_c11_covers_132 (by decide) ?_
      refine g_ixor K d_c11_covers_133 ?_
      refine g_iand K d_c11_covers_134 ?_
      refine g_ior K d_c11_covers_135 ?_
      obtain ⟨v21, e_v21, hy⟩ := gBd hy
      refine g_iald K d_c11_covers_136 e_v21 ?_
      refine g_iadd K d_c11_covers_137 ?_
      refine g_mmin K d_c11_covers_138 (gTk_6 130 rfl rfl) (gTk_2 41 rfl rfl) (gTk_1 12 rfl rfl) (gTk_2 42 rfl rfl) (gDep1 rfl) (Nat.le_of_ble_eq_true rfl) ⟨Nat.le_refl 0, Nat.le_refl 0⟩ ?_
      obtain ⟨h22, e_h22, hy⟩ := gBd hy
      refine g_iast K d_c11_covers_141 e_h22 ?_
      refine g_iinc (ls2 := [(5, .int (x5 + (1 : Int32))), (0, .ref a0), (1, .int x1), (2, .int x2), (3, .int x3), (4, .int x4)]) (v := 1) K d_c11_covers_142 5 rfl (by decide) rfl rfl ?_
      refine g_goto K d_c11_covers_145 ?_
      refine g_sub (ls2 := [(0, .ref a0), (1, .int x1), (2, .int x2), (3, .int x3), (4, .int x4), (5, .int (x5 + (1 : Int32)))]) [1, 2, 3, 4, 5, 0] rfl ?_
      exact ih _ _ _ hy hE
set_option maxHeartbeats 4000000 in
set_option maxRecDepth 100000 in
theorem wlp_c11_covers_71 {M : gM} {X : gX} {N : Nat} (hx : gEx X = false) (K : gC M X gN11 b_c11_covers 7 (gRm (4 + N) 0 0)) (a0 : Nat) (x1 : Int32) (x2 : Int32) : ∀ (k : Nat) (x3 : Int32) (h : gH) (o : gH), lp_c11_covers_71 N a0 x1 x2 k x3 h = some o → gG M X 7 0 0 154 [(0, .ref a0), (1, .int x1), (2, .int x2)] [] o → gG M X 7 0 0 71 [(0, .ref a0), (1, .int x1), (2, .int x2), (3, .int x3)] [] h := by
  intro k
  induction k with
  | zero =>
    intro x3 h o hy
    rw [lp_c11_covers_71.eq_1] at hy
    cases hy
  | succ k ih =>
    intro x3 h o hy hE
    rw [lp_c11_covers_71.eq_2] at hy
    refine g_iload_n K d_c11_covers_71 3 rfl ?_
    refine g_if_lt K d_c11_covers_72 (fun c14 => ?_) (fun c14 => ?_)
    · rw [if_pos c14] at hy
      refine g_sub (ls2 := [(0, .ref a0), (1, .int x1), (2, .int x2)]) [0, 1, 2] rfl ?_
      obtain rfl := Option.some.inj hy
      exact hE
    · rw [if_neg c14] at hy
      refine g_aload_n K d_c11_covers_75 0 rfl ?_
      refine g_iload_n K d_c11_covers_76 3 rfl ?_
      refine g_iload_n K d_c11_covers_77 1 rfl ?_
      obtain ⟨q15, e_q15, hy⟩ := gBd hy
      refine g_callVi (rest := []) K hx ly_c11_coveredBy kv_c11_312 d_c11_covers_78 (ct_c11_coveredBy M.2.1 X hx N a0 x3 x1 h q15 e_q15) rfl rfl (Nat.le_of_ble_eq_true rfl) (gDep rfl) ⟨Nat.le_refl 0, Nat.le_refl 0⟩ ?_
      refine g_istore (ls2 := [(4, .int q15), (0, .ref a0), (1, .int x1), (2, .int x2), (3, .int x3)]) K d_c11_covers_81 rfl rfl ?_
      refine g_iconst (v := 0) K d_c11_covers_83 (by decide) ?_
      refine g_istore (ls2 := [(5, .int (0 : Int32)), (4, .int q15), (0, .ref a0), (1, .int x1), (2, .int x2), (3, .int x3)]) K d_c11_covers_84 rfl rfl ?_
      obtain ⟨o23, e_o23, hy⟩ := gBd hy
      refine g_sub (ls2 := [(0, .ref a0), (1, .int x1), (2, .int x2), (3, .int x3), (4, .int q15), (5, .int (0 : Int32))]) [2, 3, 4, 5, 1, 0] rfl ?_
      refine wlp_c11_covers_86 hx K a0 x2 x3 q15 x1 N (0 : Int32) h o23 e_o23 ?_
      refine g_iinc (ls2 := [(3, .int (x3 + (-1 : Int32))), (0, .ref a0), (1, .int x1), (2, .int x2)]) (v := (-1)) K d_c11_covers_148 3 rfl (by decide) rfl rfl ?_
      refine g_goto K d_c11_covers_151 ?_
      refine g_sub (ls2 := [(0, .ref a0), (1, .int x1), (2, .int x2), (3, .int (x3 + (-1 : Int32)))]) [1, 2, 3, 0] rfl ?_
      exact ih _ _ _ hy hE
set_option maxHeartbeats 4000000 in
set_option maxRecDepth 100000 in
theorem wlp_c11_covers_172 {M : gM} {X : gX} {N : Nat} (hx : gEx X = false) (K : gC M X gN11 b_c11_covers 7 (gRm (4 + N) 0 0)) (a0 : Nat) (x1 : Int32) (x3 : Int32) : ∀ (k : Nat) (x4 : Int32) (x5 : Int32) (h : gH) (o : gH), lp_c11_covers_172 N a0 x1 x3 k x4 x5 h = some o → gG M X 7 0 0 249 [(3, .int x3)] [] o → gG M X 7 0 0 172 [(0, .ref a0), (1, .int x1), (3, .int x3), (4, .int x4), (5, .int x5)] [] h := by
  intro k
  induction k with
  | zero =>
    intro x4 x5 h o hy
    rw [lp_c11_covers_172.eq_1] at hy
    cases hy
  | succ k ih =>
    intro x4 x5 h o hy hE
    rw [lp_c11_covers_172.eq_2] at hy
    refine g_iload K d_c11_covers_172 4 rfl ?_
    refine g_aload_n K d_c11_covers_174 0 rfl ?_
    obtain ⟨q28, e_q28, hy⟩ := gBd hy
    refine g_callVi (rest := [.int x5]) K hx ly_c11_fields kv_c11_101 d_c11_covers_175 (ct_c11_fields M.2.1 X hx N a0 h q28 e_q28) rfl rfl (Nat.le_of_ble_eq_true rfl) (gDep rfl) ⟨Nat.le_refl 0, Nat.le_refl 0⟩ ?_
    refine g_icmp_ge K d_c11_covers_178 (fun c29 => ?_) (fun c29 => ?_)
    · rw [if_pos c29] at hy
      refine g_sub (ls2 := [(3, .int x3)]) [2] rfl ?_
      obtain rfl := Option.some.inj hy
      exact hE
    · rw [if_neg c29] at hy
      refine g_aload_n K d_c11_covers_181 0 rfl ?_
      obtain ⟨v30, e_v30, hy⟩ := gBd hy
      refine g_getI K fl_c11_98 d_c11_covers_182 e_v30 ?_
      refine g_iload_n K d_c11_covers_185 2 rfl ?_
      refine g_icmp_ge K d_c11_covers_186 (fun c31 => ?_) (fun c31 => ?_)
      · rw [if_pos c31] at hy
        refine g_sub (ls2 := [(3, .int x3)]) [2] rfl ?_
        obtain rfl := Option.some.inj hy
        exact hE
      · rw [if_neg c31] at hy
        refine g_iload K d_c11_covers_189 3 rfl ?_
        refine g_aload_n K d_c11_covers_191 0 rfl ?_
        refine g_iload K d_c11_covers_192 4 rfl ?_
        refine g_iload_n K d_c11_covers_194 1 rfl ?_
        obtain ⟨q32, e_q32, hy⟩ := gBd hy
        refine g_callVi (rest := [.int x4]) K hx ly_c11_coveredBy kv_c11_312 d_c11_covers_195 (ct_c11_coveredBy M.2.1 X hx N a0 x5 x1 h q32 e_q32) rfl rfl (Nat.le_of_ble_eq_true rfl) (gDep rfl) ⟨Nat.le_refl 0, Nat.le_refl 0⟩ ?_
        refine g_iconst (v := (-1)) K d_c11_covers_198 (by decide) ?_
        refine g_ixor K d_c11_covers_199 ?_
        refine g_iand K d_c11_covers_200 ?_
        refine g_istore (ls2 := [(6, .int (x4 &&& (q32 ^^^ (-1 : Int32)))), (0, .ref a0), (1, .int x1), (3, .int x3), (4, .int x4), (5, .int x5)]) K d_c11_covers_201 rfl rfl ?_
        refine g_iconst (v := 1) K d_c11_covers_203 (by decide) ?_
        refine g_aload_n K d_c11_covers_204 1 rfl ?_
        obtain ⟨v33, e_v33, hy⟩ := gBd hy
        refine g_getR K fl_c11_67 d_c11_covers_205 e_v33 ?_
        refine g_iload K d_c11_covers_208 5 rfl ?_
        refine g_iconst (v := 1) K d_c11_covers_210 (by decide) ?_
        refine g_iadd K d_c11_covers_211 ?_
        refine g_bipush (v := 6) K d_c11_covers_212 (by decide) ?_
        refine g_ishl K d_c11_covers_214 ?_
        refine g_iload K d_c11_covers_215 0 rfl ?_
        refine g_ior K d_c11_covers_217 ?_
        obtain ⟨v34, e_v34, hy⟩ := gBd hy
        refine g_iald K d_c11_covers_218 e_v34 ?_
        refine g_iadd K d_c11_covers_219 ?_
        refine g_iload_n K d_c11_covers_220 3 rfl ?_
        refine g_aload_n K d_c11_covers_221 1 rfl ?_
        obtain ⟨v35, e_v35, hy⟩ := gBd hy
        refine g_getI K fl_c11_98 d_c11_covers_222 e_v35 ?_
        refine g_isub K d_c11_covers_225 ?_
        obtain ⟨t37, e_t37, hy⟩ := gBd hy
        have hJ38 : gG M X 7 0 0 243 [(0, .ref a0), (1, .int x1), (3, .int x3), (4, .int t37.1), (5, .int x5)] [] t37.2 := by
          refine g_iinc (ls2 := [(5, .int (x5 + (1 : Int32))), (0, .ref a0), (1, .int x1), (3, .int x3), (4, .int t37.1)]) (v := 1) K d_c11_covers_243 4 rfl (by decide) rfl rfl ?_
          refine g_goto K d_c11_covers_246 ?_
          refine g_sub (ls2 := [(0, .ref a0), (1, .int x1), (3, .int x3), (4, .int t37.1), (5, .int (x5 + (1 : Int32)))]) [1, 2, 3, 4, 0] rfl ?_
          exact ih _ _ _ _ hy hE
        refine g_icmp_eq K d_c11_covers_226 (fun c36 => ?_) (fun c36 => ?_)
        · rw [if_pos c36] at e_t37
          refine g_iload K d_c11_covers_232 0 rfl ?_
          refine g_istore (ls2 := [(4, .int (x4 &&& (q32 ^^^ (-1 : Int32)))), (6, .int (x4 &&& (q32 ^^^ (-1 : Int32)))), (0, .ref a0), (1, .int x1), (3, .int x3), (5, .int x5)]) K d_c11_covers_234 rfl rfl ?_
          refine g_aload_n K d_c11_covers_236 2 rfl ?_
          refine g_iload K d_c11_covers_237 5 rfl ?_
          refine g_i2l K d_c11_covers_239 ?_
          obtain ⟨q39, e_q39, e_t37⟩ := gBd e_t37
          refine g_callVv (rest := []) K hx ly_c11_tell kv_c11_268 d_c11_covers_240 (ct_c11_tell M.2.1 X hx N a0 x5.toInt64 h q39 e_q39) rfl rfl (Nat.le_of_ble_eq_true rfl) (gDep rfl) ⟨Nat.le_refl 0, Nat.le_refl 0⟩ ?_
          refine g_sub (ls2 := [(0, .ref a0), (1, .int x1), (3, .int x3), (4, .int (x4 &&& (q32 ^^^ (-1 : Int32)))), (5, .int x5)]) [2, 3, 4, 0, 5] rfl ?_
          obtain rfl := Option.some.inj e_t37
          exact hJ38
        · rw [if_neg c36] at e_t37
          refine g_goto K d_c11_covers_229 ?_
          refine g_sub (ls2 := [(0, .ref a0), (1, .int x1), (3, .int x3), (4, .int x4), (5, .int x5)]) [1, 2, 3, 4, 5] rfl ?_
          obtain rfl := Option.some.inj e_t37
          exact hJ38
set_option maxHeartbeats 4000000 in
set_option maxRecDepth 100000 in
theorem ct_c11_covers (l : Launch) (X : gX) (hx : gEx X = false) (N : Nat) (a0 : Nat) (x1 : Int32) (h : gH) (q : Int32 × gH) (hy : f_c11_covers N a0 x1 h = some q) : gRc y_c11_covers h a0 ∧ gMi l X y_c11_covers b_c11_covers 7 .int (4 + N) 0 0 [.ref a0, .int x1] h q.1 q.2 := by
  unfold f_c11_covers at hy
  obtain ⟨u0, e_u0, hy⟩ := gBd hy
  cases u0
  refine ⟨Or.inl ⟨11, _, _, e_u0, rfl⟩, gMet_i (lsx := [(0, .ref a0), (1, .int x1)]) (by decide) rfl rfl ?_⟩
  intro M hMl K hret
  subst hMl
  refine g_aload_n K d_c11_covers_0 0 rfl ?_
  refine g_iconst (v := 0) K d_c11_covers_1 (by decide) ?_
  obtain ⟨h1, e_h1, hy⟩ := gBd hy
  refine g_putI K fp_c11_95 d_c11_covers_2 e_h1 ?_
  refine g_iload_n K d_c11_covers_5 1 rfl ?_
  refine g_iconst (v := 0) K d_c11_covers_6 (by decide) ?_
  refine g_bipush (v := 10) K d_c11_covers_7 (by decide) ?_
  obtain ⟨q2, e_q2, hy⟩ := gBd hy
  refine g_callSi (rest := []) K hx ly_c11_in ks_c11_105 d_c11_covers_9 (ct_c11_in M.2.1 X hx N x1 (0 : Int32) (10 : Int32) h1 q2 e_q2) rfl rfl (Nat.le_of_ble_eq_true rfl) (gDep rfl) ⟨Nat.le_refl 0, Nat.le_refl 0⟩ ?_
  refine g_if_ne K d_c11_covers_12 (fun c3 => ?_) (fun c3 => ?_)
  · rw [if_neg c3] at hy
    refine g_iconst (v := 1) K d_c11_covers_17 (by decide) ?_
    refine g_aload_n K d_c11_covers_18 0 rfl ?_
    obtain ⟨v4, e_v4, hy⟩ := gBd hy
    refine g_getI K fl_c11_109 d_c11_covers_19 e_v4 ?_
    refine g_ishl K d_c11_covers_22 ?_
    refine g_iconst (v := 1) K d_c11_covers_23 (by decide) ?_
    refine g_isub K d_c11_covers_24 ?_
    refine g_istore_n (ls2 := [(2, .int (((1 : Int32) <<< (v4 &&& 31)) - (1 : Int32))), (0, .ref a0), (1, .int x1)]) K d_c11_covers_25 rfl rfl ?_
    refine g_iconst (v := 0) K d_c11_covers_26 (by decide) ?_
    refine g_istore_n (ls2 := [(3, .int (0 : Int32)), (2, .int (((1 : Int32) <<< (v4 &&& 31)) - (1 : Int32))), (0, .ref a0), (1, .int x1)]) K d_c11_covers_27 rfl rfl ?_
    obtain ⟨o12, e_o12, hy⟩ := gBd hy
    refine g_sub (ls2 := [(0, .ref a0), (1, .int x1), (2, .int (((1 : Int32) <<< (v4 &&& 31)) - (1 : Int32))), (3, .int (0 : Int32))]) [2, 3, 1, 0] rfl ?_
    refine wlp_c11_covers_28 hx K a0 (((1 : Int32) <<< (v4 &&& 31)) - (1 : Int32)) x1 N (0 : Int32) h1 o12 e_o12 ?_
    refine g_aload_n K d_c11_covers_64 0 rfl ?_
    obtain ⟨q13, e_q13, hy⟩ := gBd hy
    refine g_callVi (rest := []) K hx ly_c11_fields kv_c11_101 d_c11_covers_65 (ct_c11_fields M.2.1 X hx N a0 o12 q13 e_q13) rfl rfl (Nat.le_of_ble_eq_true rfl) (gDep rfl) ⟨Nat.le_refl 0, Nat.le_refl 0⟩ ?_
    refine g_iconst (v := 1) K d_c11_covers_68 (by decide) ?_
    refine g_isub K d_c11_covers_69 ?_
    refine g_istore_n (ls2 := [(3, .int (q13 - (1 : Int32))), (0, .ref a0), (1, .int x1), (2, .int (((1 : Int32) <<< (v4 &&& 31)) - (1 : Int32)))]) K d_c11_covers_70 rfl rfl ?_
    obtain ⟨o24, e_o24, hy⟩ := gBd hy
    refine g_sub (ls2 := [(0, .ref a0), (1, .int x1), (2, .int (((1 : Int32) <<< (v4 &&& 31)) - (1 : Int32))), (3, .int (q13 - (1 : Int32)))]) [1, 2, 3, 0] rfl ?_
    refine wlp_c11_covers_71 hx K a0 x1 (((1 : Int32) <<< (v4 &&& 31)) - (1 : Int32)) N (q13 - (1 : Int32)) o12 o24 e_o24 ?_
    refine g_aload_n K d_c11_covers_154 0 rfl ?_
    obtain ⟨v25, e_v25, hy⟩ := gBd hy
    refine g_getR K fl_c11_67 d_c11_covers_155 e_v25 ?_
    refine g_iload_n K d_c11_covers_158 2 rfl ?_
    obtain ⟨v26, e_v26, hy⟩ := gBd hy
    refine g_iald K d_c11_covers_159 e_v26 ?_
    refine g_istore_n (ls2 := [(3, .int v26), (0, .ref a0), (1, .int x1), (2, .int (((1 : Int32) <<< (v4 &&& 31)) - (1 : Int32)))]) K d_c11_covers_160 rfl rfl ?_
    refine g_iload_n K d_c11_covers_161 3 rfl ?_
    refine g_istore (ls2 := [(4, .int (((1 : Int32) <<< (v4 &&& 31)) - (1 : Int32))), (3, .int v26), (0, .ref a0), (1, .int x1), (2, .int (((1 : Int32) <<< (v4 &&& 31)) - (1 : Int32)))]) K d_c11_covers_162 rfl rfl ?_
    refine g_aload_n K d_c11_covers_164 2 rfl ?_
    refine g_iconst (v := 0) K d_c11_covers_165 (by decide) ?_
    obtain ⟨h27, e_h27, hy⟩ := gBd hy
    refine g_putI K fp_c11_98 d_c11_covers_166 e_h27 ?_
    refine g_iconst (v := 0) K d_c11_covers_169 (by decide) ?_
    refine g_istore (ls2 := [(5, .int (0 : Int32)), (4, .int (((1 : Int32) <<< (v4 &&& 31)) - (1 : Int32))), (3, .int v26), (0, .ref a0), (1, .int x1), (2, .int (((1 : Int32) <<< (v4 &&& 31)) - (1 : Int32)))]) K d_c11_covers_170 rfl rfl ?_
    obtain ⟨o40, e_o40, hy⟩ := gBd hy
    refine g_sub (ls2 := [(0, .ref a0), (1, .int x1), (3, .int v26), (4, .int (((1 : Int32) <<< (v4 &&& 31)) - (1 : Int32))), (5, .int (0 : Int32))]) [3, 4, 2, 1, 0] rfl ?_
    refine wlp_c11_covers_172 hx K a0 x1 v26 N (((1 : Int32) <<< (v4 &&& 31)) - (1 : Int32)) (0 : Int32) h27 o40 e_o40 ?_
    refine g_iload_n K d_c11_covers_249 0 rfl ?_
    obtain rfl := Option.some.inj hy
    exact hret rfl _ _ _ d_c11_covers_250
  · rw [if_pos c3] at hy
    refine g_iconst (v := (-1)) K d_c11_covers_15 (by decide) ?_
    obtain rfl := Option.some.inj hy
    exact hret rfl _ _ _ d_c11_covers_16
