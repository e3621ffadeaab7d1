-- c10 plain
theorem d_c10_plain_0 : gD b_c10_plain 0 (.aload_n 0) 1 1 := ⟨by decide +kernel, rfl⟩
theorem d_c10_plain_1 : gD b_c10_plain 1 (.getfield 26) 3 4 := ⟨by decide +kernel, rfl⟩
theorem d_c10_plain_4 : gD b_c10_plain 4 (.aload_n 0) 1 5 := ⟨by decide +kernel, rfl⟩
theorem d_c10_plain_5 : gD b_c10_plain 5 (.getfield 10) 3 8 := ⟨by decide +kernel, rfl⟩
theorem d_c10_plain_8 : gD b_c10_plain 8 (.invokevirtual 107) 3 11 := ⟨by decide +kernel, rfl⟩
theorem d_c10_plain_11 : gD b_c10_plain 11 (.istore_n 1) 1 12 := ⟨by decide +kernel, rfl⟩
theorem d_c10_plain_12 : gD b_c10_plain 12 (.iload_n 1) 1 13 := ⟨by decide +kernel, rfl⟩
theorem d_c10_plain_13 : gJ b_c10_plain 13 (.ifCond .ge 28) 3 28 16 41 := ⟨by decide +kernel, rfl, by decide⟩
theorem d_c10_plain_16 : gD b_c10_plain 16 (.aload_n 0) 1 17 := ⟨by decide +kernel, rfl⟩
theorem d_c10_plain_17 : gD b_c10_plain 17 (.getfield 26) 3 20 := ⟨by decide +kernel, rfl⟩
theorem d_c10_plain_20 : gD b_c10_plain 20 (.aload_n 0) 1 21 := ⟨by decide +kernel, rfl⟩
theorem d_c10_plain_21 : gD b_c10_plain 21 (.getfield 10) 3 24 := ⟨by decide +kernel, rfl⟩
theorem d_c10_plain_24 : gD b_c10_plain 24 (.invokevirtual 111) 3 27 := ⟨by decide +kernel, rfl⟩
theorem d_c10_plain_27 : gD b_c10_plain 27 (.aload_n 0) 1 28 := ⟨by decide +kernel, rfl⟩
theorem d_c10_plain_28 : gD b_c10_plain 28 (.getfield 33) 3 31 := ⟨by decide +kernel, rfl⟩
theorem d_c10_plain_31 : gD b_c10_plain 31 (.invokevirtual 114) 3 34 := ⟨by decide +kernel, rfl⟩
theorem d_c10_plain_34 : gD b_c10_plain 34 (.aload_n 0) 1 35 := ⟨by decide +kernel, rfl⟩
theorem d_c10_plain_35 : gD b_c10_plain 35 (.getfield 53) 3 38 := ⟨by decide +kernel, rfl⟩
theorem d_c10_plain_38 : gD b_c10_plain 38 (.invokevirtual 117) 3 41 := ⟨by decide +kernel, rfl⟩
theorem d_c10_plain_41 : gD b_c10_plain 41 (.aload_n 0) 1 42 := ⟨by decide +kernel, rfl⟩
theorem d_c10_plain_42 : gD b_c10_plain 42 (.getfield 10) 3 45 := ⟨by decide +kernel, rfl⟩
theorem d_c10_plain_45 : gD b_c10_plain 45 (.iconst 0) 1 46 := ⟨by decide +kernel, rfl⟩
theorem d_c10_plain_46 : gD b_c10_plain 46 (.invokevirtual 104) 3 49 := ⟨by decide +kernel, rfl⟩
theorem d_c10_plain_49 : gD b_c10_plain 49 .pop 1 50 := ⟨by decide +kernel, rfl⟩
theorem d_c10_plain_50 : gD b_c10_plain 50 (.iload_n 1) 1 51 := ⟨by decide +kernel, rfl⟩
theorem d_c10_plain_51 : gJ b_c10_plain 51 (.ifCond .ge 13) 3 13 54 64 := ⟨by decide +kernel, rfl, by decide⟩
theorem d_c10_plain_54 : gD b_c10_plain 54 (.aload_n 0) 1 55 := ⟨by decide +kernel, rfl⟩
theorem d_c10_plain_55 : gD b_c10_plain 55 (.getfield 26) 3 58 := ⟨by decide +kernel, rfl⟩
theorem d_c10_plain_58 : gD b_c10_plain 58 (.invokevirtual 120) 3 61 := ⟨by decide +kernel, rfl⟩
theorem d_c10_plain_61 : gJ b_c10_plain 61 (.goto 6) 3 6 64 67 := ⟨by decide +kernel, rfl, by decide⟩
theorem d_c10_plain_64 : gD b_c10_plain 64 (.iconst (-1)) 1 65 := ⟨by decide +kernel, rfl⟩
theorem d_c10_plain_65 : gD b_c10_plain 65 (.iload_n 1) 1 66 := ⟨by decide +kernel, rfl⟩
theorem d_c10_plain_66 : gD b_c10_plain 66 .isub 1 67 := ⟨by decide +kernel, rfl⟩
theorem d_c10_plain_67 : gD b_c10_plain 67 .ireturn 1 68 := ⟨by decide +kernel, rfl⟩
def f_c10_plain (N : Nat) (a0 : Nat) (h : gH) : Option (Int32 × gH) :=
  (gcl h a0 10).bind fun _ =>
  (gfR h a0 10 2).bind fun v1 =>
    (gfR h a0 10 0).bind fun v2 =>
    (f_c1_faultIn N v1 v2 h).bind fun q3 =>
    (show Option (gH) from if 0 ≤ q3 then
    some h
  else
    (gfR h a0 10 2).bind fun v14 =>
    (gfR h a0 10 0).bind fun v15 =>
    (f_c1_read N v14 v15 h).bind fun q16 =>
    (gfR q16 a0 10 3).bind fun v17 =>
    (f_c7_empty N v17 q16).bind fun q18 =>
    (gfR q18 a0 10 7).bind fun v19 =>
    (f_c5_forgetAll N v19 q18).bind fun q20 =>
    some q20).bind fun t5 =>
    (gfR t5 a0 10 0).bind fun v7 =>
    (f_c8_cutTo N v7 (0 : Int32) t5).bind fun q8 =>
    (show Option (Int32) from if 0 ≤ q3 then
    some ((-1 : Int32) - q3)
  else
    (gfR q8.2 a0 10 2).bind fun v12 =>
    (f_c1_fields N v12 q8.2).bind fun q13 =>
    some q13).bind fun t10 =>
    some (t10, q8.2)
set_option maxHeartbeats 4000000 in
set_option maxRecDepth 100000 in
theorem ct_c10_plain (l : Launch) (X : gX) (hx : gEx X = false) (N : Nat) (a0 : Nat) (h : gH) (q : Int32 × gH) (hy : f_c10_plain N a0 h = some q) : gRc y_c10_plain h a0 ∧ gMi l X y_c10_plain b_c10_plain 2 .int (5 + N) 0 0 [.ref a0] h q.1 q.2 := by
  unfold f_c10_plain at hy
  obtain ⟨u0, e_u0, hy⟩ := gBd hy
  cases u0
  refine ⟨Or.inl ⟨10, _, _, e_u0, rfl⟩, gMet_i (lsx := [(0, .ref a0)]) (by decide) rfl rfl ?_⟩
  intro M hMl K hret
  subst hMl
  refine g_aload_n K d_c10_plain_0 0 rfl ?_
  obtain ⟨v1, e_v1, hy⟩ := gBd hy
  refine g_getR K fl_c10_26 d_c10_plain_1 e_v1 ?_
  refine g_aload_n K d_c10_plain_4 0 rfl ?_
  obtain ⟨v2, e_v2, hy⟩ := gBd hy
  refine g_getR K fl_c10_10 d_c10_plain_5 e_v2 ?_
  obtain ⟨q3, e_q3, hy⟩ := gBd hy
  refine g_callVi (rest := []) K hx ly_c1_faultIn kv_c10_107 d_c10_plain_8 (ct_c1_faultIn M.2.1 X hx N v1 v2 h q3 e_q3) rfl rfl (Nat.le_of_ble_eq_true rfl) (gDep rfl) ⟨Nat.le_refl 0, Nat.le_refl 0⟩ ?_
  refine g_istore_n (ls2 := [(1, .int q3), (0, .ref a0)]) K d_c10_plain_11 rfl rfl ?_
  refine g_iload_n K d_c10_plain_12 0 rfl ?_
  obtain ⟨t5, e_t5, hy⟩ := gBd hy
  have hJ6 : gG M X 2 0 0 41 [(0, .ref a0), (1, .int q3)] [] t5 := by
    refine g_aload_n K d_c10_plain_41 0 rfl ?_
    obtain ⟨v7, e_v7, hy⟩ := gBd hy
    refine g_getR K fl_c10_10 d_c10_plain_42 e_v7 ?_
    refine g_iconst (v := 0) K d_c10_plain_45 (by decide) ?_
    obtain ⟨q8, e_q8, hy⟩ := gBd hy
    refine g_callVi (rest := []) K hx ly_c8_cutTo kv_c10_104 d_c10_plain_46 (ct_c8_cutTo M.2.1 X hx N v7 (0 : Int32) t5 q8 e_q8) rfl rfl (Nat.le_of_ble_eq_true rfl) (gDep rfl) ⟨Nat.le_refl 0, Nat.le_refl 0⟩ ?_
    refine g_pop K d_c10_plain_49 rfl ?_
    refine g_iload_n K d_c10_plain_50 1 rfl ?_
    obtain ⟨t10, e_t10, hy⟩ := gBd hy
    have hJ11 : gG M X 2 0 0 67 [] [.int t10] q8.2 := by
      obtain rfl := Option.some.inj hy
      exact hret rfl _ _ _ d_c10_plain_67
    refine g_if_ge K d_c10_plain_51 (fun c9 => ?_) (fun c9 => ?_)
    · rw [if_pos c9] at e_t10
      refine g_iconst (v := (-1)) K d_c10_plain_64 (by decide) ?_
      refine g_iload_n K d_c10_plain_65 1 rfl ?_
      refine g_isub K d_c10_plain_66 ?_
      refine g_sub (ls2 := []) [] rfl ?_
      obtain rfl := Option.some.inj e_t10
      exact hJ11
    · rw [if_neg c9] at e_t10
      refine g_aload_n K d_c10_plain_54 0 rfl ?_
      obtain ⟨v12, e_v12, e_t10⟩ := gBd e_t10
      refine g_getR K fl_c10_26 d_c10_plain_55 e_v12 ?_
      obtain ⟨q13, e_q13, e_t10⟩ := gBd e_t10
      refine g_callVi (rest := []) K hx ly_c1_fields kv_c10_120 d_c10_plain_58 (ct_c1_fields M.2.1 X hx N v12 q8.2 q13 e_q13) rfl rfl (Nat.le_of_ble_eq_true rfl) (gDep rfl) ⟨Nat.le_refl 0, Nat.le_refl 0⟩ ?_
      refine g_goto K d_c10_plain_61 ?_
      refine g_sub (ls2 := []) [] rfl ?_
      obtain rfl := Option.some.inj e_t10
      exact hJ11
  refine g_if_ge K d_c10_plain_13 (fun c4 => ?_) (fun c4 => ?_)
  · rw [if_pos c4] at e_t5
    refine g_sub (ls2 := [(0, .ref a0), (1, .int q3)]) [1, 0] rfl ?_
    obtain rfl := Option.some.inj e_t5
    exact hJ6
  · rw [if_neg c4] at e_t5
    refine g_aload_n K d_c10_plain_16 1 rfl ?_
    obtain ⟨v14, e_v14, e_t5⟩ := gBd e_t5
    refine g_getR K fl_c10_26 d_c10_plain_17 e_v14 ?_
    refine g_aload_n K d_c10_plain_20 1 rfl ?_
    obtain ⟨v15, e_v15, e_t5⟩ := gBd e_t5
    refine g_getR K fl_c10_10 d_c10_plain_21 e_v15 ?_
    obtain ⟨q16, e_q16, e_t5⟩ := gBd e_t5
    refine g_callVv (rest := []) K hx ly_c1_read kv_c10_111 d_c10_plain_24 (ct_c1_read M.2.1 X hx N v14 v15 h q16 e_q16) rfl rfl (Nat.le_of_ble_eq_true rfl) (gDep rfl) ⟨Nat.le_refl 0, Nat.le_refl 0⟩ ?_
    refine g_aload_n K d_c10_plain_27 1 rfl ?_
    obtain ⟨v17, e_v17, e_t5⟩ := gBd e_t5
    refine g_getR K fl_c10_33 d_c10_plain_28 e_v17 ?_
    obtain ⟨q18, e_q18, e_t5⟩ := gBd e_t5
    refine g_callVv (rest := []) K hx ly_c7_empty kv_c10_114 d_c10_plain_31 (ct_c7_empty M.2.1 X hx N v17 q16 q18 e_q18) rfl rfl (Nat.le_of_ble_eq_true rfl) (gDep rfl) ⟨Nat.le_refl 0, Nat.le_refl 0⟩ ?_
    refine g_aload_n K d_c10_plain_34 1 rfl ?_
    obtain ⟨v19, e_v19, e_t5⟩ := gBd e_t5
    refine g_getR K fl_c10_53 d_c10_plain_35 e_v19 ?_
    obtain ⟨q20, e_q20, e_t5⟩ := gBd e_t5
    refine g_callVv (rest := []) K hx ly_c5_forgetAll kv_c10_117 d_c10_plain_38 (ct_c5_forgetAll M.2.1 X hx N v19 q18 q20 e_q20) rfl rfl (Nat.le_of_ble_eq_true rfl) (gDep rfl) ⟨Nat.le_refl 0, Nat.le_refl 0⟩ ?_
    refine g_sub (ls2 := [(0, .ref a0), (1, .int q3)]) [1, 0] rfl ?_
    obtain rfl := Option.some.inj e_t5
    exact hJ6
-- c10 repents
theorem d_c10_repents_0 : gD b_c10_repents 0 (.aload_n 0) 1 1 := ⟨by decide +kernel, rfl⟩
theorem d_c10_repents_1 : gD b_c10_repents 1 (.getfield 37) 3 4 := ⟨by decide +kernel, rfl⟩
theorem d_c10_repents_4 : gD b_c10_repents 4 (.aload_n 0) 1 5 := ⟨by decide +kernel, rfl⟩
theorem d_c10_repents_5 : gD b_c10_repents 5 (.getfield 33) 3 8 := ⟨by decide +kernel, rfl⟩
theorem d_c10_repents_8 : gD b_c10_repents 8 (.invokevirtual 124) 3 11 := ⟨by decide +kernel, rfl⟩
theorem d_c10_repents_11 : gD b_c10_repents 11 (.aload_n 0) 1 12 := ⟨by decide +kernel, rfl⟩
theorem d_c10_repents_12 : gD b_c10_repents 12 (.aload_n 0) 1 13 := ⟨by decide +kernel, rfl⟩
theorem d_c10_repents_13 : gD b_c10_repents 13 (.getfield 33) 3 16 := ⟨by decide +kernel, rfl⟩
theorem d_c10_repents_16 : gD b_c10_repents 16 (.iload_n 1) 1 17 := ⟨by decide +kernel, rfl⟩
theorem d_c10_repents_17 : gD b_c10_repents 17 (.invokevirtual 228) 3 20 := ⟨by decide +kernel, rfl⟩
theorem d_c10_repents_20 : gD b_c10_repents 20 (.invokevirtual 216) 3 23 := ⟨by decide +kernel, rfl⟩
theorem d_c10_repents_23 : gD b_c10_repents 23 .ireturn 1 24 := ⟨by decide +kernel, rfl⟩
def f_c10_repents (N : Nat) (a0 : Nat) (x1 : Int32) (h : gH) : Option (Int32 × gH) :=
  (gcl h a0 10).bind fun _ =>
  (gfR h a0 10 4).bind fun v1 =>
    (gfR h a0 10 3).bind fun v2 =>
    (f_c7_take N v1 v2 h).bind fun q3 =>
    (gfR q3 a0 10 3).bind fun v4 =>
    (f_c7_turn N v4 x1 q3).bind fun q5 =>
    (f_c10_pushIfDone N a0 q5.1 q5.2).bind fun q6 =>
    some (q6.1, q6.2)
set_option maxHeartbeats 4000000 in
set_option maxRecDepth 100000 in
theorem ct_c10_repents (l : Launch) (X : gX) (hx : gEx X = false) (N : Nat) (a0 : Nat) (x1 : Int32) (h : gH) (q : Int32 × gH) (hy : f_c10_repents N a0 x1 h = some q) : gRc y_c10_repents h a0 ∧ gMi l X y_c10_repents b_c10_repents 2 .int (5 + N) 0 0 [.ref a0, .int x1] h q.1 q.2 := by
  unfold f_c10_repents at hy
  obtain ⟨u0, e_u0, hy⟩ := gBd hy
  cases u0
  refine ⟨Or.inl ⟨10, _, _, e_u0, rfl⟩, gMet_i (lsx := [(0, .ref a0), (1, .int x1)]) (by decide) rfl rfl ?_⟩
  intro M hMl K hret
  subst hMl
  refine g_aload_n K d_c10_repents_0 0 rfl ?_
  obtain ⟨v1, e_v1, hy⟩ := gBd hy
  refine g_getR K fl_c10_37 d_c10_repents_1 e_v1 ?_
  refine g_aload_n K d_c10_repents_4 0 rfl ?_
  obtain ⟨v2, e_v2, hy⟩ := gBd hy
  refine g_getR K fl_c10_33 d_c10_repents_5 e_v2 ?_
  obtain ⟨q3, e_q3, hy⟩ := gBd hy
  refine g_callVv (rest := []) K hx ly_c7_take kv_c10_124 d_c10_repents_8 (ct_c7_take M.2.1 X hx N v1 v2 h q3 e_q3) rfl rfl (Nat.le_of_ble_eq_true rfl) (gDep rfl) ⟨Nat.le_refl 0, Nat.le_refl 0⟩ ?_
  refine g_aload_n K d_c10_repents_11 0 rfl ?_
  refine g_aload_n K d_c10_repents_12 0 rfl ?_
  obtain ⟨v4, e_v4, hy⟩ := gBd hy
  refine g_getR K fl_c10_33 d_c10_repents_13 e_v4 ?_
  refine g_iload_n K d_c10_repents_16 1 rfl ?_
  obtain ⟨q5, e_q5, hy⟩ := gBd hy
  refine g_callVi (rest := [.ref a0]) K hx ly_c7_turn kv_c10_228 d_c10_repents_17 (ct_c7_turn M.2.1 X hx N v4 x1 q3 q5 e_q5) rfl rfl (Nat.le_of_ble_eq_true rfl) (gDep rfl) ⟨Nat.le_refl 0, Nat.le_refl 0⟩ ?_
  obtain ⟨q6, e_q6, hy⟩ := gBd hy
  refine g_callVi (rest := []) K hx ly_c10_pushIfDone kv_c10_216 d_c10_repents_20 (ct_c10_pushIfDone M.2.1 X hx N a0 q5.1 q5.2 q6 e_q6) rfl rfl (Nat.le_of_ble_eq_true rfl) (gDep rfl) ⟨Nat.le_refl 0, Nat.le_refl 0⟩ ?_
  obtain rfl := Option.some.inj hy
  exact hret rfl _ _ _ d_c10_repents_23
-- c10 rises
theorem d_c10_rises_0 : gD b_c10_rises 0 (.aload_n 0) 1 1 := ⟨by decide +kernel, rfl⟩
theorem d_c10_rises_1 : gD b_c10_rises 1 (.getfield 33) 3 4 := ⟨by decide +kernel, rfl⟩
theorem d_c10_rises_4 : gD b_c10_rises 4 (.iload_n 1) 1 5 := ⟨by decide +kernel, rfl⟩
theorem d_c10_rises_5 : gD b_c10_rises 5 (.invokevirtual 138) 3 8 := ⟨by decide +kernel, rfl⟩
theorem d_c10_rises_8 : gJ b_c10_rises 8 (.ifCond .eq 13) 3 13 11 21 := ⟨by decide +kernel, rfl, by decide⟩
theorem d_c10_rises_11 : gD b_c10_rises 11 (.iload_n 2) 1 12 := ⟨by decide +kernel, rfl⟩
theorem d_c10_rises_12 : gJ b_c10_rises 12 (.ifCond .lt 9) 3 9 15 21 := ⟨by decide +kernel, rfl, by decide⟩
theorem d_c10_rises_15 : gD b_c10_rises 15 (.iload_n 2) 1 16 := ⟨by decide +kernel, rfl⟩
theorem d_c10_rises_16 : gD b_c10_rises 16 (.bipush 99) 2 18 := ⟨by decide +kernel, rfl⟩
theorem d_c10_rises_18 : gJ b_c10_rises 18 (.if_icmp .le 5) 3 5 21 23 := ⟨by decide +kernel, rfl, by decide⟩
theorem d_c10_rises_21 : gD b_c10_rises 21 (.iconst (-1)) 1 22 := ⟨by decide +kernel, rfl⟩
theorem d_c10_rises_22 : gD b_c10_rises 22 .ireturn 1 23 := ⟨by decide +kernel, rfl⟩
theorem d_c10_rises_23 : gD b_c10_rises 23 (.aload_n 0) 1 24 := ⟨by decide +kernel, rfl⟩
theorem d_c10_rises_24 : gD b_c10_rises 24 (.getfield 40) 3 27 := ⟨by decide +kernel, rfl⟩
theorem d_c10_rises_27 : gD b_c10_rises 27 (.aload_n 0) 1 28 := ⟨by decide +kernel, rfl⟩
theorem d_c10_rises_28 : gD b_c10_rises 28 (.getfield 33) 3 31 := ⟨by decide +kernel, rfl⟩
theorem d_c10_rises_31 : gD b_c10_rises 31 (.invokevirtual 124) 3 34 := ⟨by decide +kernel, rfl⟩
theorem d_c10_rises_34 : gD b_c10_rises 34 (.iconst 0) 1 35 := ⟨by decide +kernel, rfl⟩
theorem d_c10_rises_35 : gD b_c10_rises 35 (.istore_n 3) 1 36 := ⟨by decide +kernel, rfl⟩
theorem d_c10_rises_36 : gD b_c10_rises 36 (.iload_n 3) 1 37 := ⟨by decide +kernel, rfl⟩
theorem d_c10_rises_37 : gD b_c10_rises 37 (.bipush 99) 2 39 := ⟨by decide +kernel, rfl⟩
theorem d_c10_rises_39 : gJ b_c10_rises 39 (.if_icmp .gt 57) 3 57 42 96 := ⟨by decide +kernel, rfl, by decide⟩
theorem d_c10_rises_42 : gD b_c10_rises 42 (.aload_n 0) 1 43 := ⟨by decide +kernel, rfl⟩
theorem d_c10_rises_43 : gD b_c10_rises 43 (.getfield 40) 3 46 := ⟨by decide +kernel, rfl⟩
theorem d_c10_rises_46 : gD b_c10_rises 46 (.getfield 157) 3 49 := ⟨by decide +kernel, rfl⟩
theorem d_c10_rises_49 : gD b_c10_rises 49 (.iload_n 1) 1 50 := ⟨by decide +kernel, rfl⟩
theorem d_c10_rises_50 : gD b_c10_rises 50 .iaload 1 51 := ⟨by decide +kernel, rfl⟩
theorem d_c10_rises_51 : gD b_c10_rises 51 (.iload_n 2) 1 52 := ⟨by decide +kernel, rfl⟩
theorem d_c10_rises_52 : gJ b_c10_rises 52 (.if_icmp .lt 19) 3 19 55 71 := ⟨by decide +kernel, rfl, by decide⟩
theorem d_c10_rises_55 : gD b_c10_rises 55 (.aload_n 0) 1 56 := ⟨by decide +kernel, rfl⟩
theorem d_c10_rises_56 : gD b_c10_rises 56 (.iload_n 3) 1 57 := ⟨by decide +kernel, rfl⟩
theorem d_c10_rises_57 : gD b_c10_rises 57 (.aload_n 0) 1 58 := ⟨by decide +kernel, rfl⟩
theorem d_c10_rises_58 : gD b_c10_rises 58 (.getfield 40) 3 61 := ⟨by decide +kernel, rfl⟩
theorem d_c10_rises_61 : gD b_c10_rises 61 (.getfield 157) 3 64 := ⟨by decide +kernel, rfl⟩
theorem d_c10_rises_64 : gD b_c10_rises 64 (.iload_n 1) 1 65 := ⟨by decide +kernel, rfl⟩
theorem d_c10_rises_65 : gD b_c10_rises 65 .iaload 1 66 := ⟨by decide +kernel, rfl⟩
theorem d_c10_rises_66 : gD b_c10_rises 66 .i2l 1 67 := ⟨by decide +kernel, rfl⟩
theorem d_c10_rises_67 : gD b_c10_rises 67 (.invokevirtual 261) 3 70 := ⟨by decide +kernel, rfl⟩
theorem d_c10_rises_70 : gD b_c10_rises 70 .ireturn 1 71 := ⟨by decide +kernel, rfl⟩
theorem d_c10_rises_71 : gD b_c10_rises 71 (.aload_n 0) 1 72 := ⟨by decide +kernel, rfl⟩
theorem d_c10_rises_72 : gD b_c10_rises 72 (.getfield 46) 3 75 := ⟨by decide +kernel, rfl⟩
theorem d_c10_rises_75 : gD b_c10_rises 75 (.aload_n 0) 1 76 := ⟨by decide +kernel, rfl⟩
theorem d_c10_rises_76 : gD b_c10_rises 76 (.getfield 40) 3 79 := ⟨by decide +kernel, rfl⟩
theorem d_c10_rises_79 : gD b_c10_rises 79 (.aload_n 0) 1 80 := ⟨by decide +kernel, rfl⟩
theorem d_c10_rises_80 : gD b_c10_rises 80 (.getfield 26) 3 83 := ⟨by decide +kernel, rfl⟩
theorem d_c10_rises_83 : gD b_c10_rises 83 (.aload_n 0) 1 84 := ⟨by decide +kernel, rfl⟩
theorem d_c10_rises_84 : gD b_c10_rises 84 (.getfield 81) 3 87 := ⟨by decide +kernel, rfl⟩
theorem d_c10_rises_87 : gD b_c10_rises 87 (.invokevirtual 254) 3 90 := ⟨by decide +kernel, rfl⟩
theorem d_c10_rises_90 : gD b_c10_rises 90 (.iinc 3 1) 3 93 := ⟨by decide +kernel, rfl⟩
theorem d_c10_rises_93 : gJ b_c10_rises 93 (.goto (-57)) 3 (-57) 96 36 := ⟨by decide +kernel, rfl, by decide⟩
theorem d_c10_rises_96 : gD b_c10_rises 96 (.bipush (-2)) 2 98 := ⟨by decide +kernel, rfl⟩
theorem d_c10_rises_98 : gD b_c10_rises 98 .ireturn 1 99 := ⟨by decide +kernel, rfl⟩
def lp_c10_rises_36 (N : Nat) (a0 : Nat) (x1 : Int32) (x2 : Int32) : Nat → Int32 → gH → Option ((Int32 × gH) ⊕ (gH))
  | 0, _, _ => none
  | k + 1, x3, h =>
  if (99 : Int32) < x3 then
    some (.inr h)
  else
    (gfR h a0 10 5).bind fun v10 =>
    (gfR h v10 7 5).bind fun v11 =>
    (ga 0 h v11 x1).bind fun v12 =>
    if v12 < x2 then
    (gfR h a0 10 6).bind fun v14 =>
    (gfR h a0 10 5).bind fun v15 =>
    (gfR h a0 10 2).bind fun v16 =>
    (gfR h a0 10 11).bind fun v17 =>
    (f_c0_passOne N v14 v15 v16 v17 h).bind fun q18 =>
    lp_c10_rises_36 N a0 x1 x2 k (x3 + (1 : Int32)) q18
  else
    (gfR h a0 10 5).bind fun v19 =>
    (gfR h v19 7 5).bind fun v20 =>
    (ga 0 h v20 x1).bind fun v21 =>
    (f_c10_tellOne N a0 x3 v21.toInt64 h).bind fun q22 =>
    some (.inl (q22.1, q22.2))
def f_c10_rises (N : Nat) (a0 : Nat) (x1 : Int32) (x2 : Int32) (h : gH) : Option (Int32 × gH) :=
  (gcl h a0 10).bind fun _ =>
  (gfR h a0 10 3).bind fun v1 =>
    (f_c7_has N v1 x1 h).bind fun q2 =>
    if q2 = 0 then
    some ((-1 : Int32), h)
  else
    if x2 < 0 then
    some ((-1 : Int32), h)
  else
    if x2 ≤ (99 : Int32) then
    (gfR h a0 10 5).bind fun v6 =>
    (gfR h a0 10 3).bind fun v7 =>
    (f_c7_take N v6 v7 h).bind fun q8 =>
    (lp_c10_rises_36 N a0 x1 x2 N (0 : Int32) q8).bind fun o23 => Sum.elim (fun r25 => some r25) (fun t24 =>
    some ((-2 : Int32), t24)) o23
  else
    some ((-1 : Int32), h)
set_option maxHeartbeats 4000000 in
set_option maxRecDepth 100000 in
theorem wlp_c10_rises_36 {M : gM} {X : gX} {N : Nat} (hx : gEx X = false) (K : gC M X gN10 b_c10_rises 4 (gRm (5 + N) 0 0)) (a0 : Nat) (x1 : Int32) (x2 : Int32) : ∀ (k : Nat) (x3 : Int32) (h : gH) (o : (Int32 × gH) ⊕ (gH)), lp_c10_rises_36 N a0 x1 x2 k x3 h = some o → (∀ t, o = .inr t → gG M X 4 0 0 96 [] [] t) → (∀ r, o = .inl r → (narrow .int (.int r.1) = .int r.1 → ∀ pc pc' ls, gD b_c10_rises pc .ireturn 1 pc' → gG M X 4 0 0 pc ls [.int r.1] r.2)) → gG M X 4 0 0 36 [(0, .ref a0), (1, .int x1), (2, .int x2), (3, .int x3)] [] h := by
  intro k
  induction k with
  | zero =>
    intro x3 h o hy
    rw [lp_c10_rises_36.eq_1] at hy
    cases hy
  | succ k ih =>
    intro x3 h o hy hE hR
    rw [lp_c10_rises_36.eq_2] at hy
    refine g_iload_n K d_c10_rises_36 3 rfl ?_
    refine g_bipush (v := 99) K d_c10_rises_37 (by decide) ?_
    refine g_icmp_gt K d_c10_rises_39 (fun c9 => ?_) (fun c9 => ?_)
    · rw [if_pos c9] at hy
      refine g_sub (ls2 := []) [] rfl ?_
      obtain rfl := Option.some.inj hy
      exact hE _ rfl
    · rw [if_neg c9] at hy
      refine g_aload_n K d_c10_rises_42 0 rfl ?_
      obtain ⟨v10, e_v10, hy⟩ := gBd hy
      refine g_getR K fl_c10_40 d_c10_rises_43 e_v10 ?_
      obtain ⟨v11, e_v11, hy⟩ := gBd hy
      refine g_getR K fl_c10_157 d_c10_rises_46 e_v11 ?_
      refine g_iload_n K d_c10_rises_49 1 rfl ?_
      obtain ⟨v12, e_v12, hy⟩ := gBd hy
      refine g_iald K d_c10_rises_50 e_v12 ?_
      refine g_iload_n K d_c10_rises_51 2 rfl ?_
      refine g_icmp_lt K d_c10_rises_52 (fun c13 => ?_) (fun c13 => ?_)
      · rw [if_pos c13] at hy
        refine g_aload_n K d_c10_rises_71 0 rfl ?_
        obtain ⟨v14, e_v14, hy⟩ := gBd hy
        refine g_getR K fl_c10_46 d_c10_rises_72 e_v14 ?_
        refine g_aload_n K d_c10_rises_75 0 rfl ?_
        obtain ⟨v15, e_v15, hy⟩ := gBd hy
        refine g_getR K fl_c10_40 d_c10_rises_76 e_v15 ?_
        refine g_aload_n K d_c10_rises_79 0 rfl ?_
        obtain ⟨v16, e_v16, hy⟩ := gBd hy
        refine g_getR K fl_c10_26 d_c10_rises_80 e_v16 ?_
        refine g_aload_n K d_c10_rises_83 0 rfl ?_
        obtain ⟨v17, e_v17, hy⟩ := gBd hy
        refine g_getR K fl_c10_81 d_c10_rises_84 e_v17 ?_
        obtain ⟨q18, e_q18, hy⟩ := gBd hy
        refine g_callVv (rest := []) K hx ly_c0_passOne kv_c10_254 d_c10_rises_87 (ct_c0_passOne M.2.1 X hx N v14 v15 v16 v17 h q18 e_q18) rfl rfl (Nat.le_of_ble_eq_true rfl) (gDep rfl) ⟨Nat.le_refl 0, Nat.le_refl 0⟩ ?_
        refine g_iinc (ls2 := [(3, .int (x3 + (1 : Int32))), (0, .ref a0), (1, .int x1), (2, .int x2)]) (v := 1) K d_c10_rises_90 3 rfl (by decide) rfl rfl ?_
        refine g_goto K d_c10_rises_93 ?_
        refine g_sub (ls2 := [(0, .ref a0), (1, .int x1), (2, .int x2), (3, .int (x3 + (1 : Int32)))]) [1, 2, 3, 0] rfl ?_
        exact ih _ _ _ hy hE hR
      · rw [if_neg c13] at hy
        refine g_aload_n K d_c10_rises_55 0 rfl ?_
        refine g_iload_n K d_c10_rises_56 3 rfl ?_
        refine g_aload_n K d_c10_rises_57 0 rfl ?_
        obtain ⟨v19, e_v19, hy⟩ := gBd hy
        refine g_getR K fl_c10_40 d_c10_rises_58 e_v19 ?_
        obtain ⟨v20, e_v20, hy⟩ := gBd hy
        refine g_getR K fl_c10_157 d_c10_rises_61 e_v20 ?_
        refine g_iload_n K d_c10_rises_64 1 rfl ?_
        obtain ⟨v21, e_v21, hy⟩ := gBd hy
        refine g_iald K d_c10_rises_65 e_v21 ?_
        refine g_i2l K d_c10_rises_66 ?_
        obtain ⟨q22, e_q22, hy⟩ := gBd hy
        refine g_callVi (rest := []) K hx ly_c10_tellOne kv_c10_261 d_c10_rises_67 (ct_c10_tellOne M.2.1 X hx N a0 x3 v21.toInt64 h q22 e_q22) rfl rfl (Nat.le_of_ble_eq_true rfl) (gDep rfl) ⟨Nat.le_refl 0, Nat.le_refl 0⟩ ?_
        obtain rfl := Option.some.inj hy
        exact hR _ rfl rfl _ _ _ d_c10_rises_70
set_option maxHeartbeats 4000000 in
set_option maxRecDepth 100000 in
theorem ct_c10_rises (l : Launch) (X : gX) (hx : gEx X = false) (N : Nat) (a0 : Nat) (x1 : Int32) (x2 : Int32) (h : gH) (q : Int32 × gH) (hy : f_c10_rises N a0 x1 x2 h = some q) : gRc y_c10_rises h a0 ∧ gMi l X y_c10_rises b_c10_rises 4 .int (5 + N) 0 0 [.ref a0, .int x1, .int x2] h q.1 q.2 := by
  unfold f_c10_rises at hy
  obtain ⟨u0, e_u0, hy⟩ := gBd hy
  cases u0
  refine ⟨Or.inl ⟨10, _, _, e_u0, rfl⟩, gMet_i (lsx := [(0, .ref a0), (1, .int x1), (2, .int x2)]) (by decide) rfl rfl ?_⟩
  intro M hMl K hret
  subst hMl
  refine g_aload_n K d_c10_rises_0 0 rfl ?_
  obtain ⟨v1, e_v1, hy⟩ := gBd hy
  refine g_getR K fl_c10_33 d_c10_rises_1 e_v1 ?_
  refine g_iload_n K d_c10_rises_4 1 rfl ?_
  obtain ⟨q2, e_q2, hy⟩ := gBd hy
  refine g_callVi (rest := []) K hx ly_c7_has kv_c10_138 d_c10_rises_5 (ct_c7_has M.2.1 X hx N v1 x1 h q2 e_q2) rfl rfl (Nat.le_of_ble_eq_true rfl) (gDep rfl) ⟨Nat.le_refl 0, Nat.le_refl 0⟩ ?_
  refine g_if_eq K d_c10_rises_8 (fun c3 => ?_) (fun c3 => ?_)
  · rw [if_pos c3] at hy
    refine g_iconst (v := (-1)) K d_c10_rises_21 (by decide) ?_
    obtain rfl := Option.some.inj hy
    exact hret rfl _ _ _ d_c10_rises_22
  · rw [if_neg c3] at hy
    refine g_iload_n K d_c10_rises_11 2 rfl ?_
    refine g_if_lt K d_c10_rises_12 (fun c4 => ?_) (fun c4 => ?_)
    · rw [if_pos c4] at hy
      refine g_iconst (v := (-1)) K d_c10_rises_21 (by decide) ?_
      obtain rfl := Option.some.inj hy
      exact hret rfl _ _ _ d_c10_rises_22
    · rw [if_neg c4] at hy
      refine g_iload_n K d_c10_rises_15 2 rfl ?_
      refine g_bipush (v := 99) K d_c10_rises_16 (by decide) ?_
      refine g_icmp_le K d_c10_rises_18 (fun c5 => ?_) (fun c5 => ?_)
      · rw [if_pos c5] at hy
        refine g_aload_n K d_c10_rises_23 0 rfl ?_
        obtain ⟨v6, e_v6, hy⟩ := gBd hy
        refine g_getR K fl_c10_40 d_c10_rises_24 e_v6 ?_
        refine g_aload_n K d_c10_rises_27 0 rfl ?_
        obtain ⟨v7, e_v7, hy⟩ := gBd hy
        refine g_getR K fl_c10_33 d_c10_rises_28 e_v7 ?_
        obtain ⟨q8, e_q8, hy⟩ := gBd hy
        refine g_callVv (rest := []) K hx ly_c7_take kv_c10_124 d_c10_rises_31 (ct_c7_take M.2.1 X hx N v6 v7 h q8 e_q8) rfl rfl (Nat.le_of_ble_eq_true rfl) (gDep rfl) ⟨Nat.le_refl 0, Nat.le_refl 0⟩ ?_
        refine g_iconst (v := 0) K d_c10_rises_34 (by decide) ?_
        refine g_istore_n (ls2 := [(3, .int (0 : Int32)), (0, .ref a0), (1, .int x1), (2, .int x2)]) K d_c10_rises_35 rfl rfl ?_
        obtain ⟨o23, e_o23, hy⟩ := gBd hy
        refine g_sub (ls2 := [(0, .ref a0), (1, .int x1), (2, .int x2), (3, .int (0 : Int32))]) [1, 2, 3, 0] rfl ?_
        refine wlp_c10_rises_36 hx K a0 x1 x2 N (0 : Int32) q8 o23 e_o23 (fun t24 e_t24 => ?_) (fun r25 e_r25 => ?_)
        · subst e_t24
          simp only [Sum.elim_inr] at hy
          refine g_bipush (v := (-2)) K d_c10_rises_96 (by decide) ?_
          obtain rfl := Option.some.inj hy
          exact hret rfl _ _ _ d_c10_rises_98
        · subst e_r25
          simp only [Sum.elim_inl] at hy
          intro hn pc9 pc9' ls9 hd9
          obtain rfl := Option.some.inj hy
          exact hret hn _ _ _ hd9
      · rw [if_neg c5] at hy
        refine g_iconst (v := (-1)) K d_c10_rises_21 (by decide) ?_
        obtain rfl := Option.some.inj hy
        exact hret rfl _ _ _ d_c10_rises_22
-- c10 says
theorem d_c10_says_0 : gD b_c10_says 0 (.aload_n 0) 1 1 := ⟨by decide +kernel, rfl⟩
theorem d_c10_says_1 : gD b_c10_says 1 (.getfield 26) 3 4 := ⟨by decide +kernel, rfl⟩
theorem d_c10_says_4 : gD b_c10_says 4 (.iload_n 1) 1 5 := ⟨by decide +kernel, rfl⟩
theorem d_c10_says_5 : gD b_c10_says 5 (.invokevirtual 209) 3 8 := ⟨by decide +kernel, rfl⟩
theorem d_c10_says_8 : gJ b_c10_says 8 (.ifCond .eq 23) 3 23 11 31 := ⟨by decide +kernel, rfl, by decide⟩
theorem d_c10_says_11 : gD b_c10_says 11 (.iload_n 2) 1 12 := ⟨by decide +kernel, rfl⟩
theorem d_c10_says_12 : gD b_c10_says 12 (.iconst 1) 1 13 := ⟨by decide +kernel, rfl⟩
theorem d_c10_says_13 : gJ b_c10_says 13 (.if_icmp .lt 18) 3 18 16 31 := ⟨by decide +kernel, rfl, by decide⟩
theorem d_c10_says_16 : gD b_c10_says 16 (.iload_n 2) 1 17 := ⟨by decide +kernel, rfl⟩
theorem d_c10_says_17 : gD b_c10_says 17 (.bipush 9) 2 19 := ⟨by decide +kernel, rfl⟩
theorem d_c10_says_19 : gJ b_c10_says 19 (.if_icmp .gt 12) 3 12 22 31 := ⟨by decide +kernel, rfl, by decide⟩
theorem d_c10_says_22 : gD b_c10_says 22 (.iload_n 3) 1 23 := ⟨by decide +kernel, rfl⟩
theorem d_c10_says_23 : gJ b_c10_says 23 (.ifCond .lt 8) 3 8 26 31 := ⟨by decide +kernel, rfl, by decide⟩
theorem d_c10_says_26 : gD b_c10_says 26 (.iload_n 3) 1 27 := ⟨by decide +kernel, rfl⟩
theorem d_c10_says_27 : gD b_c10_says 27 (.iconst 1) 1 28 := ⟨by decide +kernel, rfl⟩
theorem d_c10_says_28 : gJ b_c10_says 28 (.if_icmp .le 5) 3 5 31 33 := ⟨by decide +kernel, rfl, by decide⟩
theorem d_c10_says_31 : gD b_c10_says 31 (.iconst (-1)) 1 32 := ⟨by decide +kernel, rfl⟩
theorem d_c10_says_32 : gD b_c10_says 32 .ireturn 1 33 := ⟨by decide +kernel, rfl⟩
theorem d_c10_says_33 : gD b_c10_says 33 (.aload_n 0) 1 34 := ⟨by decide +kernel, rfl⟩
theorem d_c10_says_34 : gD b_c10_says 34 (.getfield 37) 3 37 := ⟨by decide +kernel, rfl⟩
theorem d_c10_says_37 : gD b_c10_says 37 (.aload_n 0) 1 38 := ⟨by decide +kernel, rfl⟩
theorem d_c10_says_38 : gD b_c10_says 38 (.getfield 33) 3 41 := ⟨by decide +kernel, rfl⟩
theorem d_c10_says_41 : gD b_c10_says 41 (.invokevirtual 124) 3 44 := ⟨by decide +kernel, rfl⟩
theorem d_c10_says_44 : gD b_c10_says 44 (.aload_n 0) 1 45 := ⟨by decide +kernel, rfl⟩
theorem d_c10_says_45 : gD b_c10_says 45 (.aload_n 0) 1 46 := ⟨by decide +kernel, rfl⟩
theorem d_c10_says_46 : gD b_c10_says 46 (.getfield 33) 3 49 := ⟨by decide +kernel, rfl⟩
theorem d_c10_says_49 : gD b_c10_says 49 (.iload_n 1) 1 50 := ⟨by decide +kernel, rfl⟩
theorem d_c10_says_50 : gD b_c10_says 50 (.iload_n 2) 1 51 := ⟨by decide +kernel, rfl⟩
theorem d_c10_says_51 : gD b_c10_says 51 (.iload_n 3) 1 52 := ⟨by decide +kernel, rfl⟩
theorem d_c10_says_52 : gD b_c10_says 52 (.invokevirtual 212) 3 55 := ⟨by decide +kernel, rfl⟩
theorem d_c10_says_55 : gD b_c10_says 55 (.invokevirtual 216) 3 58 := ⟨by decide +kernel, rfl⟩
theorem d_c10_says_58 : gD b_c10_says 58 .ireturn 1 59 := ⟨by decide +kernel, rfl⟩
def f_c10_says (N : Nat) (a0 : Nat) (x1 : Int32) (x2 : Int32) (x3 : Int32) (h : gH) : Option (Int32 × gH) :=
  (gcl h a0 10).bind fun _ =>
  (gfR h a0 10 2).bind fun v1 =>
    (f_c1_hasField N v1 x1 h).bind fun q2 =>
    if q2 = 0 then
    some ((-1 : Int32), h)
  else
    if x2 < (1 : Int32) then
    some ((-1 : Int32), h)
  else
    if (9 : Int32) < x2 then
    some ((-1 : Int32), h)
  else
    if x3 < 0 then
    some ((-1 : Int32), h)
  else
    if x3 ≤ (1 : Int32) then
    (gfR h a0 10 4).bind fun v8 =>
    (gfR h a0 10 3).bind fun v9 =>
    (f_c7_take N v8 v9 h).bind fun q10 =>
    (gfR q10 a0 10 3).bind fun v11 =>
    (f_c7_sayOn N v11 x1 x2 x3 q10).bind fun q12 =>
    (f_c10_pushIfDone N a0 q12.1 q12.2).bind fun q13 =>
    some (q13.1, q13.2)
  else
    some ((-1 : Int32), h)
set_option maxHeartbeats 4000000 in
set_option maxRecDepth 100000 in
theorem ct_c10_says (l : Launch) (X : gX) (hx : gEx X = false) (N : Nat) (a0 : Nat) (x1 : Int32) (x2 : Int32) (x3 : Int32) (h : gH) (q : Int32 × gH) (hy : f_c10_says N a0 x1 x2 x3 h = some q) : gRc y_c10_says h a0 ∧ gMi l X y_c10_says b_c10_says 4 .int (5 + N) 0 0 [.ref a0, .int x1, .int x2, .int x3] h q.1 q.2 := by
  unfold f_c10_says at hy
  obtain ⟨u0, e_u0, hy⟩ := gBd hy
  cases u0
  refine ⟨Or.inl ⟨10, _, _, e_u0, rfl⟩, gMet_i (lsx := [(0, .ref a0), (1, .int x1), (2, .int x2), (3, .int x3)]) (by decide) rfl rfl ?_⟩
  intro M hMl K hret
  subst hMl
  refine g_aload_n K d_c10_says_0 0 rfl ?_
  obtain ⟨v1, e_v1, hy⟩ := gBd hy
  refine g_getR K fl_c10_26 d_c10_says_1 e_v1 ?_
  refine g_iload_n K d_c10_says_4 1 rfl ?_
  obtain ⟨q2, e_q2, hy⟩ := gBd hy
  refine g_callVi (rest := []) K hx ly_c1_hasField kv_c10_209 d_c10_says_5 (ct_c1_hasField M.2.1 X hx N v1 x1 h q2 e_q2) rfl rfl (Nat.le_of_ble_eq_true rfl) (gDep rfl) ⟨Nat.le_refl 0, Nat.le_refl 0⟩ ?_
  refine g_if_eq K d_c10_says_8 (fun c3 => ?_) (fun c3 => ?_)
  · rw [if_pos c3] at hy
    refine g_iconst (v := (-1)) K d_c10_says_31 (by decide) ?_
    obtain rfl := Option.some.inj hy
    exact hret rfl _ _ _ d_c10_says_32
  · rw [if_neg c3] at hy
    refine g_iload_n K d_c10_says_11 2 rfl ?_
    refine g_iconst (v := 1) K d_c10_says_12 (by decide) ?_
    refine g_icmp_lt K d_c10_says_13 (fun c4 => ?_) (fun c4 => ?_)
    · rw [if_pos c4] at hy
      refine g_iconst (v := (-1)) K d_c10_says_31 (by decide) ?_
      obtain rfl := Option.some.inj hy
      exact hret rfl _ _ _ d_c10_says_32
    · rw [if_neg c4] at hy
      refine g_iload_n K d_c10_says_16 2 rfl ?_
      refine g_bipush (v := 9) K d_c10_says_17 (by decide) ?_
      refine g_icmp_gt K d_c10_says_19 (fun c5 => ?_) (fun c5 => ?_)
      · rw [if_pos c5] at hy
        refine g_iconst (v := (-1)) K d_c10_says_31 (by decide) ?_
        obtain rfl := Option.some.inj hy
        exact hret rfl _ _ _ d_c10_says_32
      · rw [if_neg c5] at hy
        refine g_iload_n K d_c10_says_22 3 rfl ?_
        refine g_if_lt K d_c10_says_23 (fun c6 => ?_) (fun c6 => ?_)
        · rw [if_pos c6] at hy
          refine g_iconst (v := (-1)) K d_c10_says_31 (by decide) ?_
          obtain rfl := Option.some.inj hy
          exact hret rfl _ _ _ d_c10_says_32
        · rw [if_neg c6] at hy
          refine g_iload_n K d_c10_says_26 3 rfl ?_
          refine g_iconst (v := 1) K d_c10_says_27 (by decide) ?_
          refine g_icmp_le K d_c10_says_28 (fun c7 => ?_) (fun c7 => ?_)
          · rw [if_pos c7] at hy
            refine g_aload_n K d_c10_says_33 0 rfl ?_
            obtain ⟨v8, e_v8, hy⟩ := gBd hy
            refine g_getR K fl_c10_37 d_c10_says_34 e_v8 ?_
            refine g_aload_n K d_c10_says_37 0 rfl ?_
            obtain ⟨v9, e_v9, hy⟩ := gBd hy
            refine g_getR K fl_c10_33 d_c10_says_38 e_v9 ?_
            obtain ⟨q10, e_q10, hy⟩ := gBd hy
            refine g_callVv (rest := []) K hx ly_c7_take kv_c10_124 d_c10_says_41 (ct_c7_take M.2.1 X hx N v8 v9 h q10 e_q10) rfl rfl (Nat.le_of_ble_eq_true rfl) (gDep rfl) ⟨Nat.le_refl 0, Nat.le_refl 0⟩ ?_
            refine g_aload_n K d_c10_says_44 0 rfl ?_
            refine g_aload_n K d_c10_says_45 0 rfl ?_
            obtain ⟨v11, e_v11, hy⟩ := gBd hy
            refine g_getR K fl_c10_33 d_c10_says_46 e_v11 ?_
            refine g_iload_n K d_c10_says_49 1 rfl ?_
            refine g_iload_n K d_c10_says_50 2 rfl ?_
            refine g_iload_n K d_c10_says_51 3 rfl ?_
            obtain ⟨q12, e_q12, hy⟩ := gBd hy
            refine g_callVi (rest := [.ref a0]) K hx ly_c7_sayOn kv_c10_212 d_c10_says_52 (ct_c7_sayOn M.2.1 X hx N v11 x1 x2 x3 q10 q12 e_q12) rfl rfl (Nat.le_of_ble_eq_true rfl) (gDep rfl) ⟨Nat.le_refl 0, Nat.le_refl 0⟩ ?_
            obtain ⟨q13, e_q13, hy⟩ := gBd hy
            refine g_callVi (rest := []) K hx ly_c10_pushIfDone kv_c10_216 d_c10_says_55 (ct_c10_pushIfDone M.2.1 X hx N a0 q12.1 q12.2 q13 e_q13) rfl rfl (Nat.le_of_ble_eq_true rfl) (gDep rfl) ⟨Nat.le_refl 0, Nat.le_refl 0⟩ ?_
            obtain rfl := Option.some.inj hy
            exact hret rfl _ _ _ d_c10_says_58
          · rw [if_neg c7] at hy
            refine g_iconst (v := (-1)) K d_c10_says_31 (by decide) ?_
            obtain rfl := Option.some.inj hy
            exact hret rfl _ _ _ d_c10_says_32
-- c10 tryDrawn
theorem d_c10_tryDrawn_0 : gD b_c10_tryDrawn 0 (.aload_n 0) 1 1 := ⟨by decide +kernel, rfl⟩
theorem d_c10_tryDrawn_1 : gD b_c10_tryDrawn 1 (.getfield 74) 3 4 := ⟨by decide +kernel, rfl⟩
theorem d_c10_tryDrawn_4 : gD b_c10_tryDrawn 4 (.iconst 4) 1 5 := ⟨by decide +kernel, rfl⟩
theorem d_c10_tryDrawn_5 : gD b_c10_tryDrawn 5 (.invokevirtual 472) 3 8 := ⟨by decide +kernel, rfl⟩
theorem d_c10_tryDrawn_8 : gD b_c10_tryDrawn 8 (.istore_n 1) 1 9 := ⟨by decide +kernel, rfl⟩
theorem d_c10_tryDrawn_9 : gD b_c10_tryDrawn 9 (.iload_n 1) 1 10 := ⟨by decide +kernel, rfl⟩
theorem d_c10_tryDrawn_10 : gD b_c10_tryDrawn 10 (.iconst 1) 1 11 := ⟨by decide +kernel, rfl⟩
theorem d_c10_tryDrawn_11 : gJ b_c10_tryDrawn 11 (.if_icmp .gt 25) 3 25 14 36 := ⟨by decide +kernel, rfl, by decide⟩
theorem d_c10_tryDrawn_14 : gD b_c10_tryDrawn 14 (.aload_n 0) 1 15 := ⟨by decide +kernel, rfl⟩
theorem d_c10_tryDrawn_15 : gD b_c10_tryDrawn 15 (.getfield 46) 3 18 := ⟨by decide +kernel, rfl⟩
theorem d_c10_tryDrawn_18 : gD b_c10_tryDrawn 18 (.aload_n 0) 1 19 := ⟨by decide +kernel, rfl⟩
theorem d_c10_tryDrawn_19 : gD b_c10_tryDrawn 19 (.getfield 40) 3 22 := ⟨by decide +kernel, rfl⟩
theorem d_c10_tryDrawn_22 : gD b_c10_tryDrawn 22 (.aload_n 0) 1 23 := ⟨by decide +kernel, rfl⟩
theorem d_c10_tryDrawn_23 : gD b_c10_tryDrawn 23 (.getfield 26) 3 26 := ⟨by decide +kernel, rfl⟩
theorem d_c10_tryDrawn_26 : gD b_c10_tryDrawn 26 (.aload_n 0) 1 27 := ⟨by decide +kernel, rfl⟩
theorem d_c10_tryDrawn_27 : gD b_c10_tryDrawn 27 (.getfield 81) 3 30 := ⟨by decide +kernel, rfl⟩
theorem d_c10_tryDrawn_30 : gD b_c10_tryDrawn 30 (.invokevirtual 254) 3 33 := ⟨by decide +kernel, rfl⟩
theorem d_c10_tryDrawn_33 : gJ b_c10_tryDrawn 33 (.goto 88) 3 88 36 121 := ⟨by decide +kernel, rfl, by decide⟩
theorem d_c10_tryDrawn_36 : gD b_c10_tryDrawn 36 (.iload_n 1) 1 37 := ⟨by decide +kernel, rfl⟩
theorem d_c10_tryDrawn_37 : gD b_c10_tryDrawn 37 (.iconst 2) 1 38 := ⟨by decide +kernel, rfl⟩
theorem d_c10_tryDrawn_38 : gJ b_c10_tryDrawn 38 (.if_icmp .ne 51) 3 51 41 89 := ⟨by decide +kernel, rfl, by decide⟩
theorem d_c10_tryDrawn_41 : gD b_c10_tryDrawn 41 (.aload_n 0) 1 42 := ⟨by decide +kernel, rfl⟩
theorem d_c10_tryDrawn_42 : gD b_c10_tryDrawn 42 (.getfield 74) 3 45 := ⟨by decide +kernel, rfl⟩
theorem d_c10_tryDrawn_45 : gD b_c10_tryDrawn 45 (.aload_n 0) 1 46 := ⟨by decide +kernel, rfl⟩
theorem d_c10_tryDrawn_46 : gD b_c10_tryDrawn 46 (.getfield 26) 3 49 := ⟨by decide +kernel, rfl⟩
theorem d_c10_tryDrawn_49 : gD b_c10_tryDrawn 49 (.invokevirtual 120) 3 52 := ⟨by decide +kernel, rfl⟩
theorem d_c10_tryDrawn_52 : gD b_c10_tryDrawn 52 (.invokevirtual 472) 3 55 := ⟨by decide +kernel, rfl⟩
theorem d_c10_tryDrawn_55 : gD b_c10_tryDrawn 55 (.istore_n 2) 1 56 := ⟨by decide +kernel, rfl⟩
theorem d_c10_tryDrawn_56 : gD b_c10_tryDrawn 56 (.aload_n 0) 1 57 := ⟨by decide +kernel, rfl⟩
theorem d_c10_tryDrawn_57 : gD b_c10_tryDrawn 57 (.getfield 74) 3 60 := ⟨by decide +kernel, rfl⟩
theorem d_c10_tryDrawn_60 : gD b_c10_tryDrawn 60 (.bipush 9) 2 62 := ⟨by decide +kernel, rfl⟩
theorem d_c10_tryDrawn_62 : gD b_c10_tryDrawn 62 (.invokevirtual 472) 3 65 := ⟨by decide +kernel, rfl⟩
theorem d_c10_tryDrawn_65 : gD b_c10_tryDrawn 65 (.iconst 1) 1 66 := ⟨by decide +kernel, rfl⟩
theorem d_c10_tryDrawn_66 : gD b_c10_tryDrawn 66 .iadd 1 67 := ⟨by decide +kernel, rfl⟩
theorem d_c10_tryDrawn_67 : gD b_c10_tryDrawn 67 (.istore_n 3) 1 68 := ⟨by decide +kernel, rfl⟩
theorem d_c10_tryDrawn_68 : gD b_c10_tryDrawn 68 (.aload_n 0) 1 69 := ⟨by decide +kernel, rfl⟩
theorem d_c10_tryDrawn_69 : gD b_c10_tryDrawn 69 (.getfield 40) 3 72 := ⟨by decide +kernel, rfl⟩
theorem d_c10_tryDrawn_72 : gD b_c10_tryDrawn 72 (.iload_n 2) 1 73 := ⟨by decide +kernel, rfl⟩
theorem d_c10_tryDrawn_73 : gD b_c10_tryDrawn 73 (.iload_n 3) 1 74 := ⟨by decide +kernel, rfl⟩
theorem d_c10_tryDrawn_74 : gD b_c10_tryDrawn 74 (.aload_n 0) 1 75 := ⟨by decide +kernel, rfl⟩
theorem d_c10_tryDrawn_75 : gD b_c10_tryDrawn 75 (.getfield 74) 3 78 := ⟨by decide +kernel, rfl⟩
theorem d_c10_tryDrawn_78 : gD b_c10_tryDrawn 78 (.iconst 2) 1 79 := ⟨by decide +kernel, rfl⟩
theorem d_c10_tryDrawn_79 : gD b_c10_tryDrawn 79 (.invokevirtual 472) 3 82 := ⟨by decide +kernel, rfl⟩
theorem d_c10_tryDrawn_82 : gD b_c10_tryDrawn 82 (.invokevirtual 212) 3 85 := ⟨by decide +kernel, rfl⟩
theorem d_c10_tryDrawn_85 : gD b_c10_tryDrawn 85 .pop 1 86 := ⟨by decide +kernel, rfl⟩
theorem d_c10_tryDrawn_86 : gJ b_c10_tryDrawn 86 (.goto 35) 3 35 89 121 := ⟨by decide +kernel, rfl, by decide⟩
theorem d_c10_tryDrawn_89 : gD b_c10_tryDrawn 89 (.aload_n 0) 1 90 := ⟨by decide +kernel, rfl⟩
theorem d_c10_tryDrawn_90 : gD b_c10_tryDrawn 90 (.getfield 40) 3 93 := ⟨by decide +kernel, rfl⟩
theorem d_c10_tryDrawn_93 : gD b_c10_tryDrawn 93 (.getfield 132) 3 96 := ⟨by decide +kernel, rfl⟩
theorem d_c10_tryDrawn_96 : gJ b_c10_tryDrawn 96 (.ifCond .le 25) 3 25 99 121 := ⟨by decide +kernel, rfl, by decide⟩
theorem d_c10_tryDrawn_99 : gD b_c10_tryDrawn 99 (.aload_n 0) 1 100 := ⟨by decide +kernel, rfl⟩
theorem d_c10_tryDrawn_100 : gD b_c10_tryDrawn 100 (.getfield 40) 3 103 := ⟨by decide +kernel, rfl⟩
theorem d_c10_tryDrawn_103 : gD b_c10_tryDrawn 103 (.aload_n 0) 1 104 := ⟨by decide +kernel, rfl⟩
theorem d_c10_tryDrawn_104 : gD b_c10_tryDrawn 104 (.getfield 74) 3 107 := ⟨by decide +kernel, rfl⟩
theorem d_c10_tryDrawn_107 : gD b_c10_tryDrawn 107 (.aload_n 0) 1 108 := ⟨by decide +kernel, rfl⟩
theorem d_c10_tryDrawn_108 : gD b_c10_tryDrawn 108 (.getfield 40) 3 111 := ⟨by decide +kernel, rfl⟩
theorem d_c10_tryDrawn_111 : gD b_c10_tryDrawn 111 (.getfield 132) 3 114 := ⟨by decide +kernel, rfl⟩
theorem d_c10_tryDrawn_114 : gD b_c10_tryDrawn 114 (.invokevirtual 472) 3 117 := ⟨by decide +kernel, rfl⟩
theorem d_c10_tryDrawn_117 : gD b_c10_tryDrawn 117 (.invokevirtual 219) 3 120 := ⟨by decide +kernel, rfl⟩
theorem d_c10_tryDrawn_120 : gD b_c10_tryDrawn 120 .pop 1 121 := ⟨by decide +kernel, rfl⟩
theorem d_c10_tryDrawn_121 : gD b_c10_tryDrawn 121 .return_ 1 122 := ⟨by decide +kernel, rfl⟩
def f_c10_tryDrawn (N : Nat) (a0 : Nat) (h : gH) : Option (gH) :=
  (gcl h a0 10).bind fun _ =>
  (gfR h a0 10 10).bind fun v1 =>
    (f_c3_drawn N v1 (4 : Int32) h).bind fun q2 =>
    (show Option (gH) from if (1 : Int32) < q2.1 then
    if q2.1 = (2 : Int32) then
    (gfR q2.2 a0 10 10).bind fun v16 =>
    (gfR q2.2 a0 10 2).bind fun v17 =>
    (f_c1_fields N v17 q2.2).bind fun q18 =>
    (f_c3_drawn N v16 q18 q2.2).bind fun q19 =>
    (gfR q19.2 a0 10 10).bind fun v20 =>
    (f_c3_drawn N v20 (9 : Int32) q19.2).bind fun q21 =>
    (gfR q21.2 a0 10 5).bind fun v22 =>
    (gfR q21.2 a0 10 10).bind fun v23 =>
    (f_c3_drawn N v23 (2 : Int32) q21.2).bind fun q24 =>
    (f_c7_sayOn N v22 q19.1 (q21.1 + (1 : Int32)) q24.1 q24.2).bind fun q25 =>
    some q25.2
  else
    (gfR q2.2 a0 10 5).bind fun v7 =>
    (gfI q2.2 v7 7 0).bind fun v8 =>
    if v8 ≤ 0 then
    some q2.2
  else
    (gfR q2.2 a0 10 5).bind fun v10 =>
    (gfR q2.2 a0 10 10).bind fun v11 =>
    (gfR q2.2 a0 10 5).bind fun v12 =>
    (gfI q2.2 v12 7 0).bind fun v13 =>
    (f_c3_drawn N v11 v13 q2.2).bind fun q14 =>
    (f_c7_throwAnd N v10 q14.1 q14.2).bind fun q15 =>
    some q15.2
  else
    (gfR q2.2 a0 10 6).bind fun v26 =>
    (gfR q2.2 a0 10 5).bind fun v27 =>
    (gfR q2.2 a0 10 2).bind fun v28 =>
    (gfR q2.2 a0 10 11).bind fun v29 =>
    (f_c0_passOne N v26 v27 v28 v29 q2.2).bind fun q30 =>
    some q30).bind fun t4 =>
    some t4
set_option maxHeartbeats 4000000 in
set_option maxRecDepth 100000 in
theorem ct_c10_tryDrawn (l : Launch) (X : gX) (hx : gEx X = false) (N : Nat) (a0 : Nat) (h : gH) (q : gH) (hy : f_c10_tryDrawn N a0 h = some q) : gRc y_c10_tryDrawn h a0 ∧ gMv l X y_c10_tryDrawn b_c10_tryDrawn 4 (5 + N) 0 0 [.ref a0] h q := by
  unfold f_c10_tryDrawn at hy
  obtain ⟨u0, e_u0, hy⟩ := gBd hy
  cases u0
  refine ⟨Or.inl ⟨10, _, _, e_u0, rfl⟩, gMet_v (lsx := [(0, .ref a0)]) (by decide) rfl rfl ?_⟩
  intro M hMl K hret
  subst hMl
  refine g_aload_n K d_c10_tryDrawn_0 0 rfl ?_
  obtain ⟨v1, e_v1, hy⟩ := gBd hy
  refine g_getR K fl_c10_74 d_c10_tryDrawn_1 e_v1 ?_
  refine g_iconst (v := 4) K d_c10_tryDrawn_4 (by decide) ?_
  obtain ⟨q2, e_q2, hy⟩ := gBd hy
  refine g_callVi (rest := []) K hx ly_c3_drawn kv_c10_472 d_c10_tryDrawn_5 (ct_c3_drawn M.2.1 X hx N v1 (4 : Int32) h q2 e_q2) rfl rfl (Nat.le_of_ble_eq_true rfl) (gDep rfl) ⟨Nat.le_refl 0, Nat.le_refl 0⟩ ?_
  refine g_istore_n (ls2 := [(1, .int q2.1), (0, .ref a0)]) K d_c10_tryDrawn_8 rfl rfl ?_
  refine g_iload_n K d_c10_tryDrawn_9 0 rfl ?_
  refine g_iconst (v := 1) K d_c10_tryDrawn_10 (by decide) ?_
  obtain ⟨t4, e_t4, hy⟩ := gBd hy
  have hJ5 : gG M X 4 0 0 121 [] [] t4 := by
    obtain rfl := Option.some.inj hy
    exact hret _ _ _ d_c10_tryDrawn_121
  refine g_icmp_gt K d_c10_tryDrawn_11 (fun c3 => ?_) (fun c3 => ?_)
  · rw [if_pos c3] at e_t4
    refine g_iload_n K d_c10_tryDrawn_36 0 rfl ?_
    refine g_iconst (v := 2) K d_c10_tryDrawn_37 (by decide) ?_
    refine g_icmp_ne K d_c10_tryDrawn_38 (fun c6 => ?_) (fun c6 => ?_)
    · rw [if_neg c6] at e_t4
      refine g_aload_n K d_c10_tryDrawn_89 1 rfl ?_
      obtain ⟨v7, e_v7, e_t4⟩ := gBd e_t4
      refine g_getR K fl_c10_40 d_c10_tryDrawn_90 e_v7 ?_
      obtain ⟨v8, e_v8, e_t4⟩ := gBd e_t4
      refine g_getI K fl_c10_132 d_c10_tryDrawn_93 e_v8 ?_
      refine g_if_le K d_c10_tryDrawn_96 (fun c9 => ?_) (fun c9 => ?_)
      · rw [if_pos c9] at e_t4
        refine g_sub (ls2 := []) [] rfl ?_
        obtain rfl := Option.some.inj e_t4
        exact hJ5
      · rw [if_neg c9] at e_t4
        refine g_aload_n K d_c10_tryDrawn_99 1 rfl ?_
        obtain ⟨v10, e_v10, e_t4⟩ := gBd e_t4
        refine g_getR K fl_c10_40 d_c10_tryDrawn_100 e_v10 ?_
        refine g_aload_n K d_c10_tryDrawn_103 1 rfl ?_
        obtain ⟨v11, e_v11, e_t4⟩ := gBd e_t4
        refine g_getR K fl_c10_74 d_c10_tryDrawn_104 e_v11 ?_
        refine g_aload_n K d_c10_tryDrawn_107 1 rfl ?_
        obtain ⟨v12, e_v12, e_t4⟩ := gBd e_t4
        refine g_getR K fl_c10_40 d_c10_tryDrawn_108 e_v12 ?_
        obtain ⟨v13, e_v13, e_t4⟩ := gBd e_t4
        refine g_getI K fl_c10_132 d_c10_tryDrawn_111 e_v13 ?_
        obtain ⟨q14, e_q14, e_t4⟩ := gBd e_t4
        refine g_callVi (rest := [.ref v10]) K hx ly_c3_drawn kv_c10_472 d_c10_tryDrawn_114 (ct_c3_drawn M.2.1 X hx N v11 v13 q2.2 q14 e_q14) rfl rfl (Nat.le_of_ble_eq_true rfl) (gDep rfl) ⟨Nat.le_refl 0, Nat.le_refl 0⟩ ?_
        obtain ⟨q15, e_q15, e_t4⟩ := gBd e_t4
        refine g_callVi (rest := []) K hx ly_c7_throwAnd kv_c10_219 d_c10_tryDrawn_117 (ct_c7_throwAnd M.2.1 X hx N v10 q14.1 q14.2 q15 e_q15) rfl rfl (Nat.le_of_ble_eq_true rfl) (gDep rfl) ⟨Nat.le_refl 0, Nat.le_refl 0⟩ ?_
        refine g_pop K d_c10_tryDrawn_120 rfl ?_
        refine g_sub (ls2 := []) [] rfl ?_
        obtain rfl := Option.some.inj e_t4
        exact hJ5
    · rw [if_pos c6] at e_t4
      refine g_aload_n K d_c10_tryDrawn_41 1 rfl ?_
      obtain ⟨v16, e_v16, e_t4⟩ := gBd e_t4
      refine g_getR K fl_c10_74 d_c10_tryDrawn_42 e_v16 ?_
      refine g_aload_n K d_c10_tryDrawn_45 1 rfl ?_
      obtain ⟨v17, e_v17, e_t4⟩ := gBd e_t4
      refine g_getR K fl_c10_26 d_c10_tryDrawn_46 e_v17 ?_
      obtain ⟨q18, e_q18, e_t4⟩ := gBd e_t4
      refine g_callVi (rest := [.ref v16]) K hx ly_c1_fields kv_c10_120 d_c10_tryDrawn_49 (ct_c1_fields M.2.1 X hx N v17 q2.2 q18 e_q18) rfl rfl (Nat.le_of_ble_eq_true rfl) (gDep rfl) ⟨Nat.le_refl 0, Nat.le_refl 0⟩ ?_
      obtain ⟨q19, e_q19, e_t4⟩ := gBd e_t4
      refine g_callVi (rest := []) K hx ly_c3_drawn kv_c10_472 d_c10_tryDrawn_52 (ct_c3_drawn M.2.1 X hx N v16 q18 q2.2 q19 e_q19) rfl rfl (Nat.le_of_ble_eq_true rfl) (gDep rfl) ⟨Nat.le_refl 0, Nat.le_refl 0⟩ ?_
      refine g_istore_n (ls2 := [(2, .int q19.1), (1, .int q2.1), (0, .ref a0)]) K d_c10_tryDrawn_55 rfl rfl ?_
      refine g_aload_n K d_c10_tryDrawn_56 2 rfl ?_
      obtain ⟨v20, e_v20, e_t4⟩ := gBd e_t4
      refine g_getR K fl_c10_74 d_c10_tryDrawn_57 e_v20 ?_
      refine g_bipush (v := 9) K d_c10_tryDrawn_60 (by decide) ?_
      obtain ⟨q21, e_q21, e_t4⟩ := gBd e_t4
      refine g_callVi (rest := []) K hx ly_c3_drawn kv_c10_472 d_c10_tryDrawn_62 (ct_c3_drawn M.2.1 X hx N v20 (9 : Int32) q19.2 q21 e_q21) rfl rfl (Nat.le_of_ble_eq_true rfl) (gDep rfl) ⟨Nat.le_refl 0, Nat.le_refl 0⟩ ?_
      refine g_iconst (v := 1) K d_c10_tryDrawn_65 (by decide) ?_
      refine g_iadd K d_c10_tryDrawn_66 ?_
      refine g_istore_n (ls2 := [(3, .int (q21.1 + (1 : Int32))), (2, .int q19.1), (1, .int q2.1), (0, .ref a0)]) K d_c10_tryDrawn_67 rfl rfl ?_
      refine g_aload_n K d_c10_tryDrawn_68 3 rfl ?_
      obtain ⟨v22, e_v22, e_t4⟩ := gBd e_t4
      refine g_getR K fl_c10_40 d_c10_tryDrawn_69 e_v22 ?_
      refine g_iload_n K d_c10_tryDrawn_72 1 rfl ?_
      refine g_iload_n K d_c10_tryDrawn_73 0 rfl ?_
      refine g_aload_n K d_c10_tryDrawn_74 3 rfl ?_
      obtain ⟨v23, e_v23, e_t4⟩ := gBd e_t4
      refine g_getR K fl_c10_74 d_c10_tryDrawn_75 e_v23 ?_
      refine g_iconst (v := 2) K d_c10_tryDrawn_78 (by decide) ?_
      obtain ⟨q24, e_q24, e_t4⟩ := gBd e_t4
      refine g_callVi (rest := [.int (q21.1 + (1 : Int32)), .int q19.1, .ref v22]) K hx ly_c3_drawn kv_c10_472 d_c10_tryDrawn_79 (ct_c3_drawn M.2.1 X hx N v23 (2 : Int32) q21.2 q24 e_q24) rfl rfl (Nat.le_of_ble_eq_true rfl) (gDep rfl) ⟨Nat.le_refl 0, Nat.le_refl 0⟩ ?_
      obtain ⟨q25, e_q25, e_t4⟩ := gBd e_t4
      refine g_callVi (rest := []) K hx ly_c7_sayOn kv_c10_212 d_c10_tryDrawn_82 (ct_c7_sayOn M.2.1 X hx N v22 q19.1 (q21.1 + (1 : Int32)) q24.1 q24.2 q25 e_q25) rfl rfl (Nat.le_of_ble_eq_true rfl) (gDep rfl) ⟨Nat.le_refl 0, Nat.le_refl 0⟩ ?_
      refine g_pop K d_c10_tryDrawn_85 rfl ?_
      refine g_goto K d_c10_tryDrawn_86 ?_
      refine g_sub (ls2 := []) [] rfl ?_
      obtain rfl := Option.some.inj e_t4
      exact hJ5
  · rw [if_neg c3] at e_t4
    refine g_aload_n K d_c10_tryDrawn_14 1 rfl ?_
    obtain ⟨v26, e_v26, e_t4⟩ := gBd e_t4
    refine g_getR K fl_c10_46 d_c10_tryDrawn_15 e_v26 ?_
    refine g_aload_n K d_c10_tryDrawn_18 1 rfl ?_
    obtain ⟨v27, e_v27, e_t4⟩ := gBd e_t4
    refine g_getR K fl_c10_40 d_c10_tryDrawn_19 e_v27 ?_
    refine g_aload_n K d_c10_tryDrawn_22 1 rfl ?_
    obtain ⟨v28, e_v28, e_t4⟩ := gBd e_t4
    refine g_getR K fl_c10_26 d_c10_tryDrawn_23 e_v28 ?_
    refine g_aload_n K d_c10_tryDrawn_26 1 rfl ?_
    obtain ⟨v29, e_v29, e_t4⟩ := gBd e_t4
    refine g_getR K fl_c10_81 d_c10_tryDrawn_27 e_v29 ?_
    obtain ⟨q30, e_q30, e_t4⟩ := gBd e_t4
    refine g_callVv (rest := []) K hx ly_c0_passOne kv_c10_254 d_c10_tryDrawn_30 (ct_c0_passOne M.2.1 X hx N v26 v27 v28 v29 q2.2 q30 e_q30) rfl rfl (Nat.le_of_ble_eq_true rfl) (gDep rfl) ⟨Nat.le_refl 0, Nat.le_refl 0⟩ ?_
    refine g_goto K d_c10_tryDrawn_33 ?_
    refine g_sub (ls2 := []) [] rfl ?_
    obtain rfl := Option.some.inj e_t4
    exact hJ5
-- c10 well
theorem d_c10_well_0 : gD b_c10_well 0 (.aload_n 0) 1 1 := ⟨by decide +kernel, rfl⟩
theorem d_c10_well_1 : gD b_c10_well 1 (.getfield 33) 3 4 := ⟨by decide +kernel, rfl⟩
theorem d_c10_well_4 : gD b_c10_well 4 (.iload_n 1) 1 5 := ⟨by decide +kernel, rfl⟩
theorem d_c10_well_5 : gD b_c10_well 5 (.invokevirtual 138) 3 8 := ⟨by decide +kernel, rfl⟩
theorem d_c10_well_8 : gJ b_c10_well 8 (.ifCond .eq 13) 3 13 11 21 := ⟨by decide +kernel, rfl, by decide⟩
theorem d_c10_well_11 : gD b_c10_well 11 (.iload_n 2) 1 12 := ⟨by decide +kernel, rfl⟩
theorem d_c10_well_12 : gJ b_c10_well 12 (.ifCond .lt 9) 3 9 15 21 := ⟨by decide +kernel, rfl, by decide⟩
theorem d_c10_well_15 : gD b_c10_well 15 (.iload_n 2) 1 16 := ⟨by decide +kernel, rfl⟩
theorem d_c10_well_16 : gD b_c10_well 16 (.bipush 7) 2 18 := ⟨by decide +kernel, rfl⟩
theorem d_c10_well_18 : gJ b_c10_well 18 (.if_icmp .le 11) 3 11 21 29 := ⟨by decide +kernel, rfl, by decide⟩
theorem d_c10_well_29 : gD b_c10_well 29 (.iload_n 2) 1 30 := ⟨by decide +kernel, rfl⟩
theorem d_c10_well_30 : decode b_c10_well 30 = .ok ((.tableswitch 118 0 6 #[42, 52, 62, 72, 82, 92, 101]), 42) := by decide +kernel
theorem d_c10_well_72 : gD b_c10_well 72 (.aload_n 0) 1 73 := ⟨by decide +kernel, rfl⟩
theorem d_c10_well_73 : gD b_c10_well 73 (.getfield 33) 3 76 := ⟨by decide +kernel, rfl⟩
theorem d_c10_well_76 : gD b_c10_well 76 (.getfield 144) 3 79 := ⟨by decide +kernel, rfl⟩
theorem d_c10_well_79 : gD b_c10_well 79 (.iload_n 1) 1 80 := ⟨by decide +kernel, rfl⟩
theorem d_c10_well_80 : gD b_c10_well 80 .iaload 1 81 := ⟨by decide +kernel, rfl⟩
theorem d_c10_well_81 : gD b_c10_well 81 .ireturn 1 82 := ⟨by decide +kernel, rfl⟩
theorem d_c10_well_82 : gD b_c10_well 82 (.aload_n 0) 1 83 := ⟨by decide +kernel, rfl⟩
theorem d_c10_well_83 : gD b_c10_well 83 (.getfield 33) 3 86 := ⟨by decide +kernel, rfl⟩
theorem d_c10_well_86 : gD b_c10_well 86 (.getfield 148) 3 89 := ⟨by decide +kernel, rfl⟩
theorem d_c10_well_89 : gD b_c10_well 89 (.iload_n 1) 1 90 := ⟨by decide +kernel, rfl⟩
theorem d_c10_well_90 : gD b_c10_well 90 .iaload 1 91 := ⟨by decide +kernel, rfl⟩
theorem d_c10_well_91 : gD b_c10_well 91 .ireturn 1 92 := ⟨by decide +kernel, rfl⟩
theorem d_c10_well_92 : gD b_c10_well 92 (.aload_n 0) 1 93 := ⟨by decide +kernel, rfl⟩
theorem d_c10_well_93 : gD b_c10_well 93 (.getfield 33) 3 96 := ⟨by decide +kernel, rfl⟩
theorem d_c10_well_96 : gD b_c10_well 96 (.getfield 151) 3 99 := ⟨by decide +kernel, rfl⟩
theorem d_c10_well_99 : gD b_c10_well 99 (.iload_n 1) 1 100 := ⟨by decide +kernel, rfl⟩
theorem d_c10_well_100 : gD b_c10_well 100 .iaload 1 101 := ⟨by decide +kernel, rfl⟩
theorem d_c10_well_101 : gD b_c10_well 101 .ireturn 1 102 := ⟨by decide +kernel, rfl⟩
theorem d_c10_well_102 : gD b_c10_well 102 (.aload_n 0) 1 103 := ⟨by decide +kernel, rfl⟩
theorem d_c10_well_103 : gD b_c10_well 103 (.getfield 33) 3 106 := ⟨by decide +kernel, rfl⟩
theorem d_c10_well_106 : gD b_c10_well 106 (.getfield 154) 3 109 := ⟨by decide +kernel, rfl⟩
theorem d_c10_well_109 : gD b_c10_well 109 (.iload_n 1) 1 110 := ⟨by decide +kernel, rfl⟩
theorem d_c10_well_110 : gD b_c10_well 110 .iaload 1 111 := ⟨by decide +kernel, rfl⟩
theorem d_c10_well_111 : gD b_c10_well 111 .ireturn 1 112 := ⟨by decide +kernel, rfl⟩
theorem d_c10_well_112 : gD b_c10_well 112 (.aload_n 0) 1 113 := ⟨by decide +kernel, rfl⟩
theorem d_c10_well_113 : gD b_c10_well 113 (.getfield 33) 3 116 := ⟨by decide +kernel, rfl⟩
theorem d_c10_well_116 : gD b_c10_well 116 (.getfield 157) 3 119 := ⟨by decide +kernel, rfl⟩
theorem d_c10_well_119 : gD b_c10_well 119 (.iload_n 1) 1 120 := ⟨by decide +kernel, rfl⟩
theorem d_c10_well_120 : gD b_c10_well 120 .iaload 1 121 := ⟨by decide +kernel, rfl⟩
theorem d_c10_well_121 : gD b_c10_well 121 .ireturn 1 122 := ⟨by decide +kernel, rfl⟩
theorem d_c10_well_122 : gD b_c10_well 122 (.aload_n 0) 1 123 := ⟨by decide +kernel, rfl⟩
theorem d_c10_well_123 : gD b_c10_well 123 (.getfield 33) 3 126 := ⟨by decide +kernel, rfl⟩
theorem d_c10_well_126 : gD b_c10_well 126 (.iload_n 1) 1 127 := ⟨by decide +kernel, rfl⟩
theorem d_c10_well_127 : gD b_c10_well 127 (.invokevirtual 160) 3 130 := ⟨by decide +kernel, rfl⟩
theorem d_c10_well_130 : gD b_c10_well 130 .ireturn 1 131 := ⟨by decide +kernel, rfl⟩
theorem d_c10_well_131 : gD b_c10_well 131 (.aload_n 0) 1 132 := ⟨by decide +kernel, rfl⟩
theorem d_c10_well_132 : gD b_c10_well 132 (.getfield 81) 3 135 := ⟨by decide +kernel, rfl⟩
theorem d_c10_well_135 : gD b_c10_well 135 (.aload_n 0) 1 136 := ⟨by decide +kernel, rfl⟩
theorem d_c10_well_136 : gD b_c10_well 136 (.getfield 33) 3 139 := ⟨by decide +kernel, rfl⟩
theorem d_c10_well_139 : gD b_c10_well 139 (.iload_n 1) 1 140 := ⟨by decide +kernel, rfl⟩
theorem d_c10_well_140 : gD b_c10_well 140 (.aload_n 0) 1 141 := ⟨by decide +kernel, rfl⟩
theorem d_c10_well_141 : gD b_c10_well 141 (.getfield 26) 3 144 := ⟨by decide +kernel, rfl⟩
theorem d_c10_well_144 : gD b_c10_well 144 (.invokevirtual 164) 3 147 := ⟨by decide +kernel, rfl⟩
theorem d_c10_well_147 : gD b_c10_well 147 .ireturn 1 148 := ⟨by decide +kernel, rfl⟩
theorem d_c10_well_148 : gD b_c10_well 148 (.aload_n 0) 1 149 := ⟨by decide +kernel, rfl⟩
theorem d_c10_well_149 : gD b_c10_well 149 (.iload_n 1) 1 150 := ⟨by decide +kernel, rfl⟩
theorem d_c10_well_150 : gD b_c10_well 150 (.invokevirtual 168) 3 153 := ⟨by decide +kernel, rfl⟩
theorem d_c10_well_153 : gD b_c10_well 153 .ireturn 1 154 := ⟨by decide +kernel, rfl⟩
def f_c10_well (N : Nat) (a0 : Nat) (x1 : Int32) (x2 : Int32) (h : gH) : Option (Int32 × gH) :=
  (gcl h a0 10).bind fun _ =>
  (gfR h a0 10 3).bind fun v1 =>
    (f_c7_has N v1 x1 h).bind fun q2 =>
    if q2 = 0 then
    none
  else
    if x2 < 0 then
    none
  else
    if x2 ≤ (7 : Int32) then
    if x2 = (0 : Int32) then
    (gfR h a0 10 3).bind fun v13 =>
    (gfR h v13 7 1).bind fun v14 =>
    (ga 0 h v14 x1).bind fun v15 =>
    some (v15, h)
  else
    if x2 = (1 : Int32) then
    (gfR h a0 10 3).bind fun v16 =>
    (gfR h v16 7 2).bind fun v17 =>
    (ga 0 h v17 x1).bind fun v18 =>
    some (v18, h)
  else
    if x2 = (2 : Int32) then
    (gfR h a0 10 3).bind fun v19 =>
    (gfR h v19 7 3).bind fun v20 =>
    (ga 0 h v20 x1).bind fun v21 =>
    some (v21, h)
  else
    if x2 = (3 : Int32) then
    (gfR h a0 10 3).bind fun v22 =>
    (gfR h v22 7 4).bind fun v23 =>
    (ga 0 h v23 x1).bind fun v24 =>
    some (v24, h)
  else
    if x2 = (4 : Int32) then
    (gfR h a0 10 3).bind fun v25 =>
    (gfR h v25 7 5).bind fun v26 =>
    (ga 0 h v26 x1).bind fun v27 =>
    some (v27, h)
  else
    if x2 = (5 : Int32) then
    (gfR h a0 10 3).bind fun v28 =>
    (f_c7_depth N v28 x1 h).bind fun q29 =>
    some (q29, h)
  else
    if x2 = (6 : Int32) then
    (gfR h a0 10 11).bind fun v30 =>
    (gfR h a0 10 3).bind fun v31 =>
    (gfR h a0 10 2).bind fun v32 =>
    (f_c6_flow N v30 v31 x1 v32 h).bind fun q33 =>
    some (q33.1, q33.2)
  else
    (f_c10_drawersFrom N a0 x1 h).bind fun q34 =>
    some (q34, h)
  else
    none
set_option maxHeartbeats 4000000 in
set_option maxRecDepth 100000 in
theorem ct_c10_well (l : Launch) (X : gX) (hx : gEx X = false) (N : Nat) (a0 : Nat) (x1 : Int32) (x2 : Int32) (h : gH) (q : Int32 × gH) (hy : f_c10_well N a0 x1 x2 h = some q) : gRc y_c10_well h a0 ∧ gMi l X y_c10_well b_c10_well 3 .int (5 + N) 0 0 [.ref a0, .int x1, .int x2] h q.1 q.2 := by
  unfold f_c10_well at hy
  obtain ⟨u0, e_u0, hy⟩ := gBd hy
  cases u0
  refine ⟨Or.inl ⟨10, _, _, e_u0, rfl⟩, gMet_i (lsx := [(0, .ref a0), (1, .int x1), (2, .int x2)]) (by decide) rfl rfl ?_⟩
  intro M hMl K hret
  subst hMl
  refine g_aload_n K d_c10_well_0 0 rfl ?_
  obtain ⟨v1, e_v1, hy⟩ := gBd hy
  refine g_getR K fl_c10_33 d_c10_well_1 e_v1 ?_
  refine g_iload_n K d_c10_well_4 1 rfl ?_
  obtain ⟨q2, e_q2, hy⟩ := gBd hy
  refine g_callVi (rest := []) K hx ly_c7_has kv_c10_138 d_c10_well_5 (ct_c7_has M.2.1 X hx N v1 x1 h q2 e_q2) rfl rfl (Nat.le_of_ble_eq_true rfl) (gDep rfl) ⟨Nat.le_refl 0, Nat.le_refl 0⟩ ?_
  refine g_if_eq K d_c10_well_8 (fun c3 => ?_) (fun c3 => ?_)
  · rw [if_pos c3] at hy
    cases hy
  · rw [if_neg c3] at hy
    refine g_iload_n K d_c10_well_11 2 rfl ?_
    refine g_if_lt K d_c10_well_12 (fun c4 => ?_) (fun c4 => ?_)
    · rw [if_pos c4] at hy
      cases hy
    · rw [if_neg c4] at hy
      refine g_iload_n K d_c10_well_15 2 rfl ?_
      refine g_bipush (v := 7) K d_c10_well_16 (by decide) ?_
      refine g_icmp_le K d_c10_well_18 (fun c5 => ?_) (fun c5 => ?_)
      · rw [if_pos c5] at hy
        refine g_iload_n K d_c10_well_29 2 rfl ?_
        by_cases c6 : x2 = (0 : Int32)
        · rw [if_pos c6] at hy
          refine g_tabIn (v := (0 : Int32)) (off := 42) (tgt := 72) K d_c10_well_30 c6 (by decide) (by decide) (by decide +kernel) (by decide) ?_
          refine g_aload_n K d_c10_well_72 0 rfl ?_
          obtain ⟨v13, e_v13, hy⟩ := gBd hy
          refine g_getR K fl_c10_33 d_c10_well_73 e_v13 ?_
          obtain ⟨v14, e_v14, hy⟩ := gBd hy
          refine g_getR K fl_c10_144 d_c10_well_76 e_v14 ?_
          refine g_iload_n K d_c10_well_79 1 rfl ?_
          obtain ⟨v15, e_v15, hy⟩ := gBd hy
          refine g_iald K d_c10_well_80 e_v15 ?_
          obtain rfl := Option.some.inj hy
          exact hret rfl _ _ _ d_c10_well_81
        rw [if_neg c6] at hy
        by_cases c7 : x2 = (1 : Int32)
        · rw [if_pos c7] at hy
          refine g_tabIn (v := (1 : Int32)) (off := 52) (tgt := 82) K d_c10_well_30 c7 (by decide) (by decide) (by decide +kernel) (by decide) ?_
          refine g_aload_n K d_c10_well_82 0 rfl ?_
          obtain ⟨v16, e_v16, hy⟩ := gBd hy
          refine g_getR K fl_c10_33 d_c10_well_83 e_v16 ?_
          obtain ⟨v17, e_v17, hy⟩ := gBd hy
          refine g_getR K fl_c10_148 d_c10_well_86 e_v17 ?_
          refine g_iload_n K d_c10_well_89 1 rfl ?_
          obtain ⟨v18, e_v18, hy⟩ := gBd hy
          refine g_iald K d_c10_well_90 e_v18 ?_
          obtain rfl := Option.some.inj hy
          exact hret rfl _ _ _ d_c10_well_91
        rw [if_neg c7] at hy
        by_cases c8 : x2 = (2 : Int32)
        · rw [if_pos c8] at hy
          refine g_tabIn (v := (2 : Int32)) (off := 62) (tgt := 92) K d_c10_well_30 c8 (by decide) (by decide) (by decide +kernel) (by decide) ?_
          refine g_aload_n K d_c10_well_92 0 rfl ?_
          obtain ⟨v19, e_v19, hy⟩ := gBd hy
          refine g_getR K fl_c10_33 d_c10_well_93 e_v19 ?_
          obtain ⟨v20, e_v20, hy⟩ := gBd hy
          refine g_getR K fl_c10_151 d_c10_well_96 e_v20 ?_
          refine g_iload_n K d_c10_well_99 1 rfl ?_
          obtain ⟨v21, e_v21, hy⟩ := gBd hy
          refine g_iald K d_c10_well_100 e_v21 ?_
          obtain rfl := Option.some.inj hy
          exact hret rfl _ _ _ d_c10_well_101
        rw [if_neg c8] at hy
        by_cases c9 : x2 = (3 : Int32)
        · rw [if_pos c9] at hy
          refine g_tabIn (v := (3 : Int32)) (off := 72) (tgt := 102) K d_c10_well_30 c9 (by decide) (by decide) (by decide +kernel) (by decide) ?_
          refine g_aload_n K d_c10_well_102 0 rfl ?_
          obtain ⟨v22, e_v22, hy⟩ := gBd hy
          refine g_getR K fl_c10_33 d_c10_well_103 e_v22 ?_
          obtain ⟨v23, e_v23, hy⟩ := gBd hy
          refine g_getR K fl_c10_154 d_c10_well_106 e_v23 ?_
          refine g_iload_n K d_c10_well_109 1 rfl ?_
          obtain ⟨v24, e_v24, hy⟩ := gBd hy
          refine g_iald K d_c10_well_110 e_v24 ?_
          obtain rfl := Option.some.inj hy
          exact hret rfl _ _ _ d_c10_well_111
        rw [if_neg c9] at hy
        by_cases c10 : x2 = (4 : Int32)
        · rw [if_pos c10] at hy
          refine g_tabIn (v := (4 : Int32)) (off := 82) (tgt := 112) K d_c10_well_30 c10 (by decide) (by decide) (by decide +kernel) (by decide) ?_
          refine g_aload_n K d_c10_well_112 0 rfl ?_
          obtain ⟨v25, e_v25, hy⟩ := gBd hy
          refine g_getR K fl_c10_33 d_c10_well_113 e_v25 ?_
          obtain ⟨v26, e_v26, hy⟩ := gBd hy
          refine g_getR K fl_c10_157 d_c10_well_116 e_v26 ?_
          refine g_iload_n K d_c10_well_119 1 rfl ?_
          obtain ⟨v27, e_v27, hy⟩ := gBd hy
          refine g_iald K d_c10_well_120 e_v27 ?_
          obtain rfl := Option.some.inj hy
          exact hret rfl _ _ _ d_c10_well_121
        rw [if_neg c10] at hy
        by_cases c11 : x2 = (5 : Int32)
        · rw [if_pos c11] at hy
          refine g_tabIn (v := (5 : Int32)) (off := 92) (tgt := 122) K d_c10_well_30 c11 (by decide) (by decide) (by decide +kernel) (by decide) ?_
          refine g_aload_n K d_c10_well_122 0 rfl ?_
          obtain ⟨v28, e_v28, hy⟩ := gBd hy
          refine g_getR K fl_c10_33 d_c10_well_123 e_v28 ?_
          refine g_iload_n K d_c10_well_126 1 rfl ?_
          obtain ⟨q29, e_q29, hy⟩ := gBd hy
          refine g_callVi (rest := []) K hx ly_c7_depth kv_c10_160 d_c10_well_127 (ct_c7_depth M.2.1 X hx N v28 x1 h q29 e_q29) rfl rfl (Nat.le_of_ble_eq_true rfl) (gDep rfl) ⟨Nat.le_refl 0, Nat.le_refl 0⟩ ?_
          obtain rfl := Option.some.inj hy
          exact hret rfl _ _ _ d_c10_well_130
        rw [if_neg c11] at hy
        by_cases c12 : x2 = (6 : Int32)
        · rw [if_pos c12] at hy
          refine g_tabIn (v := (6 : Int32)) (off := 101) (tgt := 131) K d_c10_well_30 c12 (by decide) (by decide) (by decide +kernel) (by decide) ?_
          refine g_aload_n K d_c10_well_131 0 rfl ?_
          obtain ⟨v30, e_v30, hy⟩ := gBd hy
          refine g_getR K fl_c10_81 d_c10_well_132 e_v30 ?_
          refine g_aload_n K d_c10_well_135 0 rfl ?_
          obtain ⟨v31, e_v31, hy⟩ := gBd hy
          refine g_getR K fl_c10_33 d_c10_well_136 e_v31 ?_
          refine g_iload_n K d_c10_well_139 1 rfl ?_
          refine g_aload_n K d_c10_well_140 0 rfl ?_
          obtain ⟨v32, e_v32, hy⟩ := gBd hy
          refine g_getR K fl_c10_26 d_c10_well_141 e_v32 ?_
          obtain ⟨q33, e_q33, hy⟩ := gBd hy
          refine g_callVi (rest := []) K hx ly_c6_flow kv_c10_164 d_c10_well_144 (ct_c6_flow M.2.1 X hx N v30 v31 x1 v32 h q33 e_q33) rfl rfl (Nat.le_of_ble_eq_true rfl) (gDep rfl) ⟨Nat.le_refl 0, Nat.le_refl 0⟩ ?_
          obtain rfl := Option.some.inj hy
          exact hret rfl _ _ _ d_c10_well_147
        rw [if_neg c12] at hy
        refine g_tabD (tgt := 148) [(0 : Int32), (1 : Int32), (2 : Int32), (3 : Int32), (4 : Int32), (5 : Int32), (6 : Int32)] K d_c10_well_30 (List.forall_mem_cons.mpr ⟨c6, (List.forall_mem_cons.mpr ⟨c7, (List.forall_mem_cons.mpr ⟨c8, (List.forall_mem_cons.mpr ⟨c9, (List.forall_mem_cons.mpr ⟨c10, (List.forall_mem_cons.mpr ⟨c11, (List.forall_mem_cons.mpr ⟨c12, (fun _ h => absurd h List.not_mem_nil)⟩)⟩)⟩)⟩)⟩)⟩)⟩) (by decide +kernel) (by decide) ?_
        refine g_aload_n K d_c10_well_148 0 rfl ?_
        refine g_iload_n K d_c10_well_149 1 rfl ?_
        obtain ⟨q34, e_q34, hy⟩ := gBd hy
        refine g_callVi (rest := []) K hx ly_c10_drawersFrom kv_c10_168 d_c10_well_150 (ct_c10_drawersFrom M.2.1 X hx N a0 x1 h q34 e_q34) rfl rfl (Nat.le_of_ble_eq_true rfl) (gDep rfl) ⟨Nat.le_refl 0, Nat.le_refl 0⟩ ?_
        obtain rfl := Option.some.inj hy
        exact hret rfl _ _ _ d_c10_well_153
      · rw [if_neg c5] at hy
        cases hy
-- c11 fits
theorem d_c11_fits_0 : gD b_c11_fits 0 (.iload_n 2) 1 1 := ⟨by decide +kernel, rfl⟩
theorem d_c11_fits_1 : decode b_c11_fits 1 = .ok ((.tableswitch 109 0 3 #[31, 50, 69, 88]), 31) := by decide +kernel
theorem d_c11_fits_32 : gD b_c11_fits 32 (.aload_n 0) 1 33 := ⟨by decide +kernel, rfl⟩
theorem d_c11_fits_33 : gD b_c11_fits 33 (.getfield 9) 3 36 := ⟨by decide +kernel, rfl⟩
theorem d_c11_fits_36 : gD b_c11_fits 36 (.bipush 8) 2 38 := ⟨by decide +kernel, rfl⟩
theorem d_c11_fits_38 : gD b_c11_fits 38 (.iload_n 1) 1 39 := ⟨by decide +kernel, rfl⟩
theorem d_c11_fits_39 : gD b_c11_fits 39 .iadd 1 40 := ⟨by decide +kernel, rfl⟩
theorem d_c11_fits_40 : gD b_c11_fits 40 .iaload 1 41 := ⟨by decide +kernel, rfl⟩
theorem d_c11_fits_41 : gD b_c11_fits 41 (.iload_n 3) 1 42 := ⟨by decide +kernel, rfl⟩
theorem d_c11_fits_42 : gJ b_c11_fits 42 (.if_icmp .lt 7) 3 7 45 49 := ⟨by decide +kernel, rfl, by decide⟩
theorem d_c11_fits_45 : gD b_c11_fits 45 (.iconst 1) 1 46 := ⟨by decide +kernel, rfl⟩
theorem d_c11_fits_46 : gJ b_c11_fits 46 (.goto 4) 3 4 49 50 := ⟨by decide +kernel, rfl, by decide⟩
theorem d_c11_fits_49 : gD b_c11_fits 49 (.iconst 0) 1 50 := ⟨by decide +kernel, rfl⟩
theorem d_c11_fits_50 : gD b_c11_fits 50 .ireturn 1 51 := ⟨by decide +kernel, rfl⟩
theorem d_c11_fits_51 : gD b_c11_fits 51 (.aload_n 0) 1 52 := ⟨by decide +kernel, rfl⟩
theorem d_c11_fits_52 : gD b_c11_fits 52 (.getfield 9) 3 55 := ⟨by decide +kernel, rfl⟩
theorem d_c11_fits_55 : gD b_c11_fits 55 (.bipush 16) 2 57 := ⟨by decide +kernel, rfl⟩
theorem d_c11_fits_57 : gD b_c11_fits 57 (.iload_n 1) 1 58 := ⟨by decide +kernel, rfl⟩
theorem d_c11_fits_58 : gD b_c11_fits 58 .iadd 1 59 := ⟨by decide +kernel, rfl⟩
theorem d_c11_fits_59 : gD b_c11_fits 59 .iaload 1 60 := ⟨by decide +kernel, rfl⟩
theorem d_c11_fits_60 : gD b_c11_fits 60 (.iload_n 3) 1 61 := ⟨by decide +kernel, rfl⟩
theorem d_c11_fits_61 : gJ b_c11_fits 61 (.if_icmp .ne 7) 3 7 64 68 := ⟨by decide +kernel, rfl, by decide⟩
theorem d_c11_fits_64 : gD b_c11_fits 64 (.iconst 1) 1 65 := ⟨by decide +kernel, rfl⟩
theorem d_c11_fits_65 : gJ b_c11_fits 65 (.goto 4) 3 4 68 69 := ⟨by decide +kernel, rfl, by decide⟩
theorem d_c11_fits_68 : gD b_c11_fits 68 (.iconst 0) 1 69 := ⟨by decide +kernel, rfl⟩
theorem d_c11_fits_69 : gD b_c11_fits 69 .ireturn 1 70 := ⟨by decide +kernel, rfl⟩
theorem d_c11_fits_70 : gD b_c11_fits 70 (.aload_n 0) 1 71 := ⟨by decide +kernel, rfl⟩
theorem d_c11_fits_71 : gD b_c11_fits 71 (.getfield 9) 3 74 := ⟨by decide +kernel, rfl⟩
theorem d_c11_fits_74 : gD b_c11_fits 74 (.bipush 32) 2 76 := ⟨by decide +kernel, rfl⟩
theorem d_c11_fits_76 : gD b_c11_fits 76 (.iload_n 1) 1 77 := ⟨by decide +kernel, rfl⟩
theorem d_c11_fits_77 : gD b_c11_fits 77 .iadd 1 78 := ⟨by decide +kernel, rfl⟩
theorem d_c11_fits_78 : gD b_c11_fits 78 .iaload 1 79 := ⟨by decide +kernel, rfl⟩
theorem d_c11_fits_79 : gD b_c11_fits 79 (.iload_n 3) 1 80 := ⟨by decide +kernel, rfl⟩
theorem d_c11_fits_80 : gJ b_c11_fits 80 (.if_icmp .lt 7) 3 7 83 87 := ⟨by decide +kernel, rfl, by decide⟩
theorem d_c11_fits_83 : gD b_c11_fits 83 (.iconst 1) 1 84 := ⟨by decide +kernel, rfl⟩
theorem d_c11_fits_84 : gJ b_c11_fits 84 (.goto 4) 3 4 87 88 := ⟨by decide +kernel, rfl, by decide⟩
theorem d_c11_fits_87 : gD b_c11_fits 87 (.iconst 0) 1 88 := ⟨by decide +kernel, rfl⟩
theorem d_c11_fits_88 : gD b_c11_fits 88 .ireturn 1 89 := ⟨by decide +kernel, rfl⟩
theorem d_c11_fits_89 : gD b_c11_fits 89 (.aload_n 0) 1 90 := ⟨by decide +kernel, rfl⟩
theorem d_c11_fits_90 : gD b_c11_fits 90 (.getfield 9) 3 93 := ⟨by decide +kernel, rfl⟩
theorem d_c11_fits_93 : gD b_c11_fits 93 (.iload_n 1) 1 94 := ⟨by decide +kernel, rfl⟩
theorem d_c11_fits_94 : gD b_c11_fits 94 .iaload 1 95 := ⟨by decide +kernel, rfl⟩
theorem d_c11_fits_95 : gD b_c11_fits 95 (.aload_n 0) 1 96 := ⟨by decide +kernel, rfl⟩
theorem d_c11_fits_96 : gD b_c11_fits 96 (.getfield 17) 3 99 := ⟨by decide +kernel, rfl⟩
theorem d_c11_fits_99 : gD b_c11_fits 99 .idiv 1 100 := ⟨by decide +kernel, rfl⟩
theorem d_c11_fits_100 : gD b_c11_fits 100 (.iload_n 3) 1 101 := ⟨by decide +kernel, rfl⟩
theorem d_c11_fits_101 : gJ b_c11_fits 101 (.if_icmp .ne 7) 3 7 104 108 := ⟨by decide +kernel, rfl, by decide⟩
theorem d_c11_fits_104 : gD b_c11_fits 104 (.iconst 1) 1 105 := ⟨by decide +kernel, rfl⟩
theorem d_c11_fits_105 : gJ b_c11_fits 105 (.goto 4) 3 4 108 109 := ⟨by decide +kernel, rfl, by decide⟩
theorem d_c11_fits_108 : gD b_c11_fits 108 (.iconst 0) 1 109 := ⟨by decide +kernel, rfl⟩
theorem d_c11_fits_109 : gD b_c11_fits 109 .ireturn 1 110 := ⟨by decide +kernel, rfl⟩
theorem d_c11_fits_110 : gD b_c11_fits 110 (.aload_n 0) 1 111 := ⟨by decide +kernel, rfl⟩
theorem d_c11_fits_111 : gD b_c11_fits 111 (.iload_n 1) 1 112 := ⟨by decide +kernel, rfl⟩
theorem d_c11_fits_112 : gD b_c11_fits 112 (.invokevirtual 243) 3 115 := ⟨by decide +kernel, rfl⟩
theorem d_c11_fits_115 : gD b_c11_fits 115 (.iload_n 3) 1 116 := ⟨by decide +kernel, rfl⟩
theorem d_c11_fits_116 : gD b_c11_fits 116 (.invokestatic 342) 3 119 := ⟨by decide +kernel, rfl⟩
theorem d_c11_fits_119 : gD b_c11_fits 119 .ireturn 1 120 := ⟨by decide +kernel, rfl⟩
def f_c11_fits (N : Nat) (a0 : Nat) (x1 : Int32) (x2 : Int32) (x3 : Int32) (h : gH) : Option (Int32) :=
  (gcl h a0 11).bind fun _ =>
  if x2 = (0 : Int32) then
    (gfR h a0 11 0).bind fun v5 =>
    (ga 0 h v5 ((8 : Int32) + x1)).bind fun v6 =>
    (gZ (if v6 < x3 then (0 : Int32) else (1 : Int32))).bind fun w10 => some w10
  else
    if x2 = (1 : Int32) then
    (gfR h a0 11 0).bind fun v11 =>
    (ga 0 h v11 ((16 : Int32) + x1)).bind fun v12 =>
    (gZ (if v12 = x3 then (1 : Int32) else (0 : Int32))).bind fun w16 => some w16
  else
    if x2 = (2 : Int32) then
    (gfR h a0 11 0).bind fun v17 =>
    (ga 0 h v17 ((32 : Int32) + x1)).bind fun v18 =>
    (gZ (if v18 < x3 then (0 : Int32) else (1 : Int32))).bind fun w22 => some w22
  else
    if x2 = (3 : Int32) then
    (gfR h a0 11 0).bind fun v23 =>
    (ga 0 h v23 x1).bind fun v24 =>
    (gfI h a0 11 2).bind fun v25 =>
    (gNZ v25).bind fun u26 =>
    (gZ (if (v24 / v25) = x3 then (1 : Int32) else (0 : Int32))).bind fun w30 => some w30
  else
    (f_c11_drawers N a0 x1 h).bind fun q31 =>
    (f_c11_has N q31 x3 h).bind fun q32 =>
    (gZ q32).bind fun w33 => some w33
set_option maxHeartbeats 4000000 in
set_option maxRecDepth 100000 in
theorem ct_c11_fits (l : Launch) (X : gX) (hx : gEx X = false) (N : Nat) (a0 : Nat) (x1 : Int32) (x2 : Int32) (x3 : Int32) (h : gH) (q : Int32) (hy : f_c11_fits N a0 x1 x2 x3 h = some q) : gRc y_c11_fits h a0 ∧ gMi l X y_c11_fits b_c11_fits 4 .boolean (5 + N) 0 0 [.ref a0, .int x1, .int x2, .int x3] h q h := by
  unfold f_c11_fits at hy
  obtain ⟨u0, e_u0, hy⟩ := gBd hy
  cases u0
  refine ⟨Or.inl ⟨11, _, _, e_u0, rfl⟩, gMet_i (lsx := [(0, .ref a0), (1, .int x1), (2, .int x2), (3, .int x3)]) (by decide) rfl rfl ?_⟩
  intro M hMl K hret
  subst hMl
  refine g_iload_n K d_c11_fits_0 2 rfl ?_
  by_cases c1 : x2 = (0 : Int32)
  · rw [if_pos c1] at hy
    refine g_tabIn (v := (0 : Int32)) (off := 31) (tgt := 32) K d_c11_fits_1 c1 (by decide) (by decide) (by decide +kernel) (by decide) ?_
    refine g_aload_n K d_c11_fits_32 0 rfl ?_
    obtain ⟨v5, e_v5, hy⟩ := gBd hy
    refine g_getR K fl_c11_9 d_c11_fits_33 e_v5 ?_
    refine g_bipush (v := 8) K d_c11_fits_36 (by decide) ?_
    refine g_iload_n K d_c11_fits_38 1 rfl ?_
    refine g_iadd K d_c11_fits_39 ?_
    obtain ⟨v6, e_v6, hy⟩ := gBd hy
    refine g_iald K d_c11_fits_40 e_v6 ?_
    refine g_iload_n K d_c11_fits_41 3 rfl ?_
    have hJ9 : ∀ w8 : Int32, w8 = (if v6 < x3 then (0 : Int32) else (1 : Int32)) → gG M X 4 0 0 50 [(0, .ref a0), (1, .int x1), (2, .int x2), (3, .int x3)] [.int w8] h := by
      intro w8 e_w8
      subst e_w8
      obtain ⟨w10, e_w10, hy⟩ := gBd hy
      obtain ⟨z_w10, n_w10⟩ := gZ_spec e_w10
      rw [z_w10]
      obtain rfl := Option.some.inj hy
      exact hret (gZn n_w10) _ _ _ d_c11_fits_50
    refine g_icmp_lt K d_c11_fits_42 (fun c7 => ?_) (fun c7 => ?_)
    · refine g_iconst (v := 0) K d_c11_fits_49 (by decide) ?_
      exact hJ9 _ (by rw [if_pos c7])
    · refine g_iconst (v := 1) K d_c11_fits_45 (by decide) ?_
      refine g_goto K d_c11_fits_46 ?_
      exact hJ9 _ (by rw [if_neg c7])
  rw [if_neg c1] at hy
  by_cases c2 : x2 = (1 : Int32)
  · rw [if_pos c2] at hy
    refine g_tabIn (v := (1 : Int32)) (off := 50) (tgt := 51) K d_c11_fits_1 c2 (by decide) (by decide) (by decide +kernel) (by decide) ?_
    refine g_aload_n K d_c11_fits_51 0 rfl ?_
    obtain ⟨v11, e_v11, hy⟩ := gBd hy
    refine g_getR K fl_c11_9 d_c11_fits_52 e_v11 ?_
    refine g_bipush (v := 16) K d_c11_fits_55 (by decide) ?_
    refine g_iload_n K d_c11_fits_57 1 rfl ?_
    refine g_iadd K d_c11_fits_58 ?_
    obtain ⟨v12, e_v12, hy⟩ := gBd hy
    refine g_iald K d_c11_fits_59 e_v12 ?_
    refine g_iload_n K d_c11_fits_60 3 rfl ?_
    have hJ15 : ∀ w14 : Int32, w14 = (if v12 = x3 then (1 : Int32) else (0 : Int32)) → gG M X 4 0 0 69 [(0, .ref a0), (1, .int x1), (2, .int x2), (3, .int x3)] [.int w14] h := by
      intro w14 e_w14
      subst e_w14
      obtain ⟨w16, e_w16, hy⟩ := gBd hy
      obtain ⟨z_w16, n_w16⟩ := gZ_spec e_w16
      rw [z_w16]
      obtain rfl := Option.some.inj hy
      exact hret (gZn n_w16) _ _ _ d_c11_fits_69
    refine g_icmp_ne K d_c11_fits_61 (fun c13 => ?_) (fun c13 => ?_)
    · refine g_iconst (v := 0) K d_c11_fits_68 (by decide) ?_
      exact hJ15 _ (by rw [if_neg c13])
    · refine g_iconst (v := 1) K d_c11_fits_64 (by decide) ?_
      refine g_goto K d_c11_fits_65 ?_
      exact hJ15 _ (by rw [if_pos c13])
  rw [if_neg c2] at hy
  by_cases c3 : x2 = (2 : Int32)
  · rw [if_pos c3] at hy
    refine g_tabIn (v := (2 : Int32)) (off := 69) (tgt := 70) K d_c11_fits_1 c3 (by decide) (by decide) (by decide +kernel) (by decide) ?_
    refine g_aload_n K d_c11_fits_70 0 rfl ?_
    obtain ⟨v17, e_v17, hy⟩ := gBd hy
    refine g_getR K fl_c11_9 d_c11_fits_71 e_v17 ?_
    refine g_bipush (v := 32) K d_c11_fits_74 (by decide) ?_
    refine g_iload_n K d_c11_fits_76 1 rfl ?_
    refine g_iadd K d_c11_fits_77 ?_
    obtain ⟨v18, e_v18, hy⟩ := gBd hy
    refine g_iald K d_c11_fits_78 e_v18 ?_
    refine g_iload_n K d_c11_fits_79 3 rfl ?_
    have hJ21 : ∀ w20 : Int32, w20 = (if v18 < x3 then (0 : Int32) else (1 : Int32)) → gG M X 4 0 0 88 [(0, .ref a0), (1, .int x1), (2, .int x2), (3, .int x3)] [.int w20] h := by
      intro w20 e_w20
      subst e_w20
      obtain ⟨w22, e_w22, hy⟩ := gBd hy
      obtain ⟨z_w22, n_w22⟩ := gZ_spec e_w22
      rw [z_w22]
      obtain rfl := Option.some.inj hy
      exact hret (gZn n_w22) _ _ _ d_c11_fits_88
    refine g_icmp_lt K d_c11_fits_80 (fun c19 => ?_) (fun c19 => ?_)
    · refine g_iconst (v := 0) K d_c11_fits_87 (by decide) ?_
      exact hJ21 _ (by rw [if_pos c19])
    · refine g_iconst (v := 1) K d_c11_fits_83 (by decide) ?_
      refine g_goto K d_c11_fits_84 ?_
      exact hJ21 _ (by rw [if_neg c19])
  rw [if_neg c3] at hy
  by_cases c4 : x2 = (3 : Int32)
  · rw [if_pos c4] at hy
    refine g_tabIn (v := (3 : Int32)) (off := 88) (tgt := 89) K d_c11_fits_1 c4 (by decide) (by decide) (by decide +kernel) (by decide) ?_
    refine g_aload_n K d_c11_fits_89 0 rfl ?_
    obtain ⟨v23, e_v23, hy⟩ := gBd hy
    refine g_getR K fl_c11_9 d_c11_fits_90 e_v23 ?_
    refine g_iload_n K d_c11_fits_93 1 rfl ?_
    obtain ⟨v24, e_v24, hy⟩ := gBd hy
    refine g_iald K d_c11_fits_94 e_v24 ?_
    refine g_aload_n K d_c11_fits_95 0 rfl ?_
    obtain ⟨v25, e_v25, hy⟩ := gBd hy
    refine g_getI K fl_c11_17 d_c11_fits_96 e_v25 ?_
    obtain ⟨u26, e_u26, hy⟩ := gBd hy
    refine g_idiv K d_c11_fits_99 e_u26 ?_
    refine g_iload_n K d_c11_fits_100 3 rfl ?_
    have hJ29 : ∀ w28 : Int32, w28 = (if (v24 / v25) = x3 then (1 : Int32) else (0 : Int32)) → gG M X 4 0 0 109 [(0, .ref a0), (1, .int x1), (2, .int x2), (3, .int x3)] [.int w28] h := by
      intro w28 e_w28
      subst e_w28
      obtain ⟨w30, e_w30, hy⟩ := gBd hy
      obtain ⟨z_w30, n_w30⟩ := gZ_spec e_w30
      rw [z_w30]
      obtain rfl := Option.some.inj hy
      exact hret (gZn n_w30) _ _ _ d_c11_fits_109
    refine g_icmp_ne K d_c11_fits_101 (fun c27 => ?_) (fun c27 => ?_)
    · refine g_iconst (v := 0) K d_c11_fits_108 (by decide) ?_
      exact hJ29 _ (by rw [if_neg c27])
    · refine g_iconst (v := 1) K d_c11_fits_104 (by decide) ?_
      refine g_goto K d_c11_fits_105 ?_
      exact hJ29 _ (by rw [if_pos c27])
  rw [if_neg c4] at hy
  refine g_tabD (tgt := 110) [(0 : Int32), (1 : Int32), (2 : Int32), (3 : Int32)] K d_c11_fits_1 (List.forall_mem_cons.mpr ⟨c1, (List.forall_mem_cons.mpr ⟨c2, (List.forall_mem_cons.mpr ⟨c3, (List.forall_mem_cons.mpr ⟨c4, (fun _ h => absurd h List.not_mem_nil)⟩)⟩)⟩)⟩) (by decide +kernel) (by decide) ?_
  refine g_aload_n K d_c11_fits_110 0 rfl ?_
  refine g_iload_n K d_c11_fits_111 1 rfl ?_
  obtain ⟨q31, e_q31, hy⟩ := gBd hy
  refine g_callVi (rest := []) K hx ly_c11_drawers kv_c11_243 d_c11_fits_112 (ct_c11_drawers M.2.1 X hx N a0 x1 h q31 e_q31) rfl rfl (Nat.le_of_ble_eq_true rfl) (gDep rfl) ⟨Nat.le_refl 0, Nat.le_refl 0⟩ ?_
  refine g_iload_n K d_c11_fits_115 3 rfl ?_
  obtain ⟨q32, e_q32, hy⟩ := gBd hy
  refine g_callSi (rest := []) K hx ly_c11_has ks_c11_342 d_c11_fits_116 (ct_c11_has M.2.1 X hx N q31 x3 h q32 e_q32) rfl rfl (Nat.le_of_ble_eq_true rfl) (gDep rfl) ⟨Nat.le_refl 0, Nat.le_refl 0⟩ ?_
  obtain ⟨w33, e_w33, hy⟩ := gBd hy
  obtain ⟨z_w33, n_w33⟩ := gZ_spec e_w33
  rw [z_w33]
  obtain rfl := Option.some.inj hy
  exact hret (gZn n_w33) _ _ _ d_c11_fits_119
-- c11 held
theorem d_c11_held_0 : gD b_c11_held 0 (.aload_n 0) 1 1 := ⟨by decide +kernel, rfl⟩
theorem d_c11_held_1 : gD b_c11_held 1 (.iload_n 1) 1 2 := ⟨by decide +kernel, rfl⟩
theorem d_c11_held_2 : gD b_c11_held 2 (.invokevirtual 185) 3 5 := ⟨by decide +kernel, rfl⟩
theorem d_c11_held_5 : gD b_c11_held 5 (.istore_n 2) 1 6 := ⟨by decide +kernel, rfl⟩
theorem d_c11_held_6 : gD b_c11_held 6 (.aload_n 0) 1 7 := ⟨by decide +kernel, rfl⟩
theorem d_c11_held_7 : gD b_c11_held 7 (.bipush 60) 2 9 := ⟨by decide +kernel, rfl⟩
theorem d_c11_held_9 : gD b_c11_held 9 (.invokevirtual 147) 3 12 := ⟨by decide +kernel, rfl⟩
theorem d_c11_held_12 : gJ b_c11_held 12 (.ifCond .eq 18) 3 18 15 30 := ⟨by decide +kernel, rfl, by decide⟩
theorem d_c11_held_15 : gD b_c11_held 15 (.iload_n 2) 1 16 := ⟨by decide +kernel, rfl⟩
theorem d_c11_held_16 : gD b_c11_held 16 (.aload_n 0) 1 17 := ⟨by decide +kernel, rfl⟩
theorem d_c11_held_17 : gD b_c11_held 17 (.iload_n 1) 1 18 := ⟨by decide +kernel, rfl⟩
theorem d_c11_held_18 : gD b_c11_held 18 (.invokevirtual 185) 3 21 := ⟨by decide +kernel, rfl⟩
theorem d_c11_held_21 : gJ b_c11_held 21 (.if_icmp .ge 7) 3 7 24 28 := ⟨by decide +kernel, rfl, by decide⟩
theorem d_c11_held_24 : gD b_c11_held 24 (.iconst 1) 1 25 := ⟨by decide +kernel, rfl⟩
theorem d_c11_held_25 : gJ b_c11_held 25 (.goto 4) 3 4 28 29 := ⟨by decide +kernel, rfl, by decide⟩
theorem d_c11_held_28 : gD b_c11_held 28 (.iconst 0) 1 29 := ⟨by decide +kernel, rfl⟩
theorem d_c11_held_29 : gD b_c11_held 29 .ireturn 1 30 := ⟨by decide +kernel, rfl⟩
theorem d_c11_held_30 : gD b_c11_held 30 (.aload_n 0) 1 31 := ⟨by decide +kernel, rfl⟩
theorem d_c11_held_31 : gD b_c11_held 31 (.bipush 62) 2 33 := ⟨by decide +kernel, rfl⟩
theorem d_c11_held_33 : gD b_c11_held 33 (.invokevirtual 147) 3 36 := ⟨by decide +kernel, rfl⟩
theorem d_c11_held_36 : gJ b_c11_held 36 (.ifCond .eq 18) 3 18 39 54 := ⟨by decide +kernel, rfl, by decide⟩
theorem d_c11_held_39 : gD b_c11_held 39 (.iload_n 2) 1 40 := ⟨by decide +kernel, rfl⟩
theorem d_c11_held_40 : gD b_c11_held 40 (.aload_n 0) 1 41 := ⟨by decide +kernel, rfl⟩
theorem d_c11_held_41 : gD b_c11_held 41 (.iload_n 1) 1 42 := ⟨by decide +kernel, rfl⟩
theorem d_c11_held_42 : gD b_c11_held 42 (.invokevirtual 185) 3 45 := ⟨by decide +kernel, rfl⟩
theorem d_c11_held_45 : gJ b_c11_held 45 (.if_icmp .le 7) 3 7 48 52 := ⟨by decide +kernel, rfl, by decide⟩
theorem d_c11_held_48 : gD b_c11_held 48 (.iconst 1) 1 49 := ⟨by decide +kernel, rfl⟩
theorem d_c11_held_49 : gJ b_c11_held 49 (.goto 4) 3 4 52 53 := ⟨by decide +kernel, rfl, by decide⟩
theorem d_c11_held_52 : gD b_c11_held 52 (.iconst 0) 1 53 := ⟨by decide +kernel, rfl⟩
theorem d_c11_held_53 : gD b_c11_held 53 .ireturn 1 54 := ⟨by decide +kernel, rfl⟩
theorem d_c11_held_54 : gD b_c11_held 54 (.aload_n 0) 1 55 := ⟨by decide +kernel, rfl⟩
theorem d_c11_held_55 : gD b_c11_held 55 (.bipush 61) 2 57 := ⟨by decide +kernel, rfl⟩
theorem d_c11_held_57 : gD b_c11_held 57 (.invokevirtual 147) 3 60 := ⟨by decide +kernel, rfl⟩
theorem d_c11_held_60 : gJ b_c11_held 60 (.ifCond .eq 18) 3 18 63 78 := ⟨by decide +kernel, rfl, by decide⟩
theorem d_c11_held_63 : gD b_c11_held 63 (.iload_n 2) 1 64 := ⟨by decide +kernel, rfl⟩
theorem d_c11_held_64 : gD b_c11_held 64 (.aload_n 0) 1 65 := ⟨by decide +kernel, rfl⟩
theorem d_c11_held_65 : gD b_c11_held 65 (.iload_n 1) 1 66 := ⟨by decide +kernel, rfl⟩
theorem d_c11_held_66 : gD b_c11_held 66 (.invokevirtual 185) 3 69 := ⟨by decide +kernel, rfl⟩
theorem d_c11_held_69 : gJ b_c11_held 69 (.if_icmp .ne 7) 3 7 72 76 := ⟨by decide +kernel, rfl, by decide⟩
theorem d_c11_held_72 : gD b_c11_held 72 (.iconst 1) 1 73 := ⟨by decide +kernel, rfl⟩
theorem d_c11_held_73 : gJ b_c11_held 73 (.goto 4) 3 4 76 77 := ⟨by decide +kernel, rfl, by decide⟩
theorem d_c11_held_76 : gD b_c11_held 76 (.iconst 0) 1 77 := ⟨by decide +kernel, rfl⟩
theorem d_c11_held_77 : gD b_c11_held 77 .ireturn 1 78 := ⟨by decide +kernel, rfl⟩
theorem d_c11_held_78 : gD b_c11_held 78 (.iload_n 2) 1 79 := ⟨by decide +kernel, rfl⟩
theorem d_c11_held_79 : gD b_c11_held 79 .ireturn 1 80 := ⟨by decide +kernel, rfl⟩
def b_fn_c11_held (N : Nat) (F : Nat → Nat → Int32 → gH → Option (Int32 × gH)) (a0 : Nat) (x1 : Int32) (h : gH) : Option (Int32 × gH) :=
  (gcl h a0 11).bind fun _ =>
  (F 1 a0 x1 h).bind fun q1 =>
    (f_c11_passes N a0 (60 : Int32) q1.2).bind fun q2 =>
    if q2.1 = 0 then
    (f_c11_passes N a0 (62 : Int32) q2.2).bind fun q4 =>
    if q4.1 = 0 then
    (f_c11_passes N a0 (61 : Int32) q4.2).bind fun q6 =>
    if q6.1 = 0 then
    some (q1.1, q6.2)
  else
    (F 1 a0 x1 q6.2).bind fun q8 =>
    some ((if q1.1 = q8.1 then (1 : Int32) else (0 : Int32)), q8.2)
  else
    (F 1 a0 x1 q4.2).bind fun q12 =>
    some ((if q1.1 ≤ q12.1 then (0 : Int32) else (1 : Int32)), q12.2)
  else
    (F 1 a0 x1 q2.2).bind fun q16 =>
    some ((if q16.1 ≤ q1.1 then (0 : Int32) else (1 : Int32)), q16.2)
set_option maxHeartbeats 4000000 in
set_option maxRecDepth 100000 in
theorem cb_c11_held (l : Launch) (X : gX) (hx : gEx X = false) (N : Nat) {F : Nat → Nat → Int32 → gH → Option (Int32 × gH)} (hF0 : ∀ (a0 : Nat) (x1 : Int32) (h : gH) (q : Int32 × gH), F 0 a0 x1 h = some q → gRc y_c11_held h a0 ∧ gMi l X y_c11_held b_c11_held 3 .int (5 + N) 0 0 [.ref a0, .int x1] h q.1 q.2) (hF1 : ∀ (a0 : Nat) (x1 : Int32) (h : gH) (q : Int32 × gH), F 1 a0 x1 h = some q → gRc y_c11_sum h a0 ∧ gMi l X y_c11_sum b_c11_sum 5 .int (5 + N) 0 0 [.ref a0, .int x1] h q.1 q.2) (hF2 : ∀ (a0 : Nat) (x1 : Int32) (h : gH) (q : Int32 × gH), F 2 a0 x1 h = some q → gRc y_c11_product h a0 ∧ gMi l X y_c11_product b_c11_product 5 .int (5 + N) 0 0 [.ref a0, .int x1] h q.1 q.2) (hF3 : ∀ (a0 : Nat) (x1 : Int32) (h : gH) (q : Int32 × gH), F 3 a0 x1 h = some q → gRc y_c11_thing h a0 ∧ gMi l X y_c11_thing b_c11_thing 4 .int (5 + N) 0 0 [.ref a0, .int x1] h q.1 q.2) (a0 : Nat) (x1 : Int32) (h : gH) (q : Int32 × gH) (hy : b_fn_c11_held N F a0 x1 h = some q) : gRc y_c11_held h a0 ∧ gMi l X y_c11_held b_c11_held 3 .int (5 + (N + 1)) 0 0 [.ref a0, .int x1] h q.1 q.2 := by
  unfold b_fn_c11_held at hy
  obtain ⟨u0, e_u0, hy⟩ := gBd hy
  cases u0
  refine ⟨Or.inl ⟨11, _, _, e_u0, rfl⟩, gMet_i (lsx := [(0, .ref a0), (1, .int x1)]) (by decide) rfl rfl ?_⟩
  intro M hMl K hret
  subst hMl
  refine g_aload_n K d_c11_held_0 0 rfl ?_
  refine g_iload_n K d_c11_held_1 1 rfl ?_
  obtain ⟨q1, e_q1, hy⟩ := gBd hy
  refine g_callVi (rest := []) K hx ly_c11_sum kv_c11_185 d_c11_held_2 (hF1 a0 x1 h q1 e_q1) rfl rfl (Nat.le_of_ble_eq_true rfl) (gDepR rfl) ⟨Nat.le_refl 0, Nat.le_refl 0⟩ ?_
  refine g_istore_n (ls2 := [(2, .int q1.1), (0, .ref a0), (1, .int x1)]) K d_c11_held_5 rfl rfl ?_
  refine g_aload_n K d_c11_held_6 1 rfl ?_
  refine g_bipush (v := 60) K d_c11_held_7 (by decide) ?_
  obtain ⟨q2, e_q2, hy⟩ := gBd hy
  refine g_callVi (rest := []) K hx ly_c11_passes kv_c11_147 d_c11_held_9 (ct_c11_passes M.2.1 X hx N a0 (60 : Int32) q1.2 q2 e_q2) rfl rfl (Nat.le_of_ble_eq_true rfl) (gDepS rfl) ⟨Nat.le_refl 0, Nat.le_refl 0⟩ ?_
  refine g_if_eq K d_c11_held_12 (fun c3 => ?_) (fun c3 => ?_)
  · rw [if_pos c3] at hy
    refine g_aload_n K d_c11_held_30 1 rfl ?_
    refine g_bipush (v := 62) K d_c11_held_31 (by decide) ?_
    obtain ⟨q4, e_q4, hy⟩ := gBd hy
    refine g_callVi (rest := []) K hx ly_c11_passes kv_c11_147 d_c11_held_33 (ct_c11_passes M.2.1 X hx N a0 (62 : Int32) q2.2 q4 e_q4) rfl rfl (Nat.le_of_ble_eq_true rfl) (gDepS rfl) ⟨Nat.le_refl 0, Nat.le_refl 0⟩ ?_
    refine g_if_eq K d_c11_held_36 (fun c5 => ?_) (fun c5 => ?_)
    · rw [if_pos c5] at hy
      refine g_aload_n K d_c11_held_54 1 rfl ?_
      refine g_bipush (v := 61) K d_c11_held_55 (by decide) ?_
      obtain ⟨q6, e_q6, hy⟩ := gBd hy
      refine g_callVi (rest := []) K hx ly_c11_passes kv_c11_147 d_c11_held_57 (ct_c11_passes M.2.1 X hx N a0 (61 : Int32) q4.2 q6 e_q6) rfl rfl (Nat.le_of_ble_eq_true rfl) (gDepS rfl) ⟨Nat.le_refl 0, Nat.le_refl 0⟩ ?_
      refine g_if_eq K d_c11_held_60 (fun c7 => ?_) (fun c7 => ?_)
      · rw [if_pos c7] at hy
        refine g_iload_n K d_c11_held_78 0 rfl ?_
        obtain rfl := Option.some.inj hy
        exact hret rfl _ _ _ d_c11_held_79
      · rw [if_neg c7] at hy
        refine g_iload_n K d_c11_held_63 0 rfl ?_
        refine g_aload_n K d_c11_held_64 1 rfl ?_
        refine g_iload_n K d_c11_held_65 2 rfl ?_
        obtain ⟨q8, e_q8, hy⟩ := gBd hy
        refine g_callVi (rest := [.int q1.1]) K hx ly_c11_sum kv_c11_185 d_c11_held_66 (hF1 a0 x1 q6.2 q8 e_q8) rfl rfl (Nat.le_of_ble_eq_true rfl) (gDepR rfl) ⟨Nat.le_refl 0, Nat.le_refl 0⟩ ?_
        have hJ11 : ∀ w10 : Int32, w10 = (if q1.1 = q8.1 then (1 : Int32) else (0 : Int32)) → gG M X 3 0 0 77 [(2, .int q1.1), (0, .ref a0), (1, .int x1)] [.int w10] q8.2 := by
          intro w10 e_w10
          subst e_w10
          obtain rfl := Option.some.inj hy
          exact hret rfl _ _ _ d_c11_held_77
        refine g_icmp_ne K d_c11_held_69 (fun c9 => ?_) (fun c9 => ?_)
        · refine g_iconst (v := 0) K d_c11_held_76 (by decide) ?_
          exact hJ11 _ (by rw [if_neg c9])
        · refine g_iconst (v := 1) K d_c11_held_72 (by decide) ?_
          refine g_goto K d_c11_held_73 ?_
          exact hJ11 _ (by rw [if_pos c9])
    · rw [if_neg c5] at hy
      refine g_iload_n K d_c11_held_39 0 rfl ?_
      refine g_aload_n K d_c11_held_40 1 rfl ?_
      refine g_iload_n K d_c11_held_41 2 rfl ?_
      obtain ⟨q12, e_q12, hy⟩ := gBd hy
      refine g_callVi (rest := [.int q1.1]) K hx ly_c11_sum kv_c11_185 d_c11_held_42 (hF1 a0 x1 q4.2 q12 e_q12) rfl rfl (Nat.le_of_ble_eq_true rfl) (gDepR rfl) ⟨Nat.le_refl 0, Nat.le_refl 0⟩ ?_
      have hJ15 : ∀ w14 : Int32, w14 = (if q1.1 ≤ q12.1 then (0 : Int32) else (1 : Int32)) → gG M X 3 0 0 53 [(2, .int q1.1), (0, .ref a0), (1, .int x1)] [.int w14] q12.2 := by
        intro w14 e_w14
        subst e_w14
        obtain rfl := Option.some.inj hy
        exact hret rfl _ _ _ d_c11_held_53
      refine g_icmp_le K d_c11_held_45 (fun c13 => ?_) (fun c13 => ?_)
      · refine g_iconst (v := 0) K d_c11_held_52 (by decide) ?_
        exact hJ15 _ (by rw [if_pos c13])
      · refine g_iconst (v := 1) K d_c11_held_48 (by decide) ?_
        refine g_goto K d_c11_held_49 ?_
        exact hJ15 _ (by rw [if_neg c13])
  · rw [if_neg c3] at hy
    refine g_iload_n K d_c11_held_15 0 rfl ?_
    refine g_aload_n K d_c11_held_16 1 rfl ?_
    refine g_iload_n K d_c11_held_17 2 rfl ?_
    obtain ⟨q16, e_q16, hy⟩ := gBd hy
    refine g_callVi (rest := [.int q1.1]) K hx ly_c11_sum kv_c11_185 d_c11_held_18 (hF1 a0 x1 q2.2 q16 e_q16) rfl rfl (Nat.le_of_ble_eq_true rfl) (gDepR rfl) ⟨Nat.le_refl 0, Nat.le_refl 0⟩ ?_
    have hJ19 : ∀ w18 : Int32, w18 = (if q16.1 ≤ q1.1 then (0 : Int32) else (1 : Int32)) → gG M X 3 0 0 29 [(2, .int q1.1), (0, .ref a0), (1, .int x1)] [.int w18] q16.2 := by
      intro w18 e_w18
      subst e_w18
      obtain rfl := Option.some.inj hy
      exact hret rfl _ _ _ d_c11_held_29
    refine g_icmp_ge K d_c11_held_21 (fun c17 => ?_) (fun c17 => ?_)
    · refine g_iconst (v := 0) K d_c11_held_28 (by decide) ?_
      exact hJ19 _ (by rw [if_pos c17])
    · refine g_iconst (v := 1) K d_c11_held_24 (by decide) ?_
      refine g_goto K d_c11_held_25 ?_
      exact hJ19 _ (by rw [if_neg c17])
-- c11 product
theorem d_c11_product_0 : gD b_c11_product 0 (.aload_n 0) 1 1 := ⟨by decide +kernel, rfl⟩
theorem d_c11_product_1 : gD b_c11_product 1 (.iload_n 1) 1 2 := ⟨by decide +kernel, rfl⟩
theorem d_c11_product_2 : gD b_c11_product 2 (.invokevirtual 191) 3 5 := ⟨by decide +kernel, rfl⟩
theorem d_c11_product_5 : gD b_c11_product 5 (.istore_n 2) 1 6 := ⟨by decide +kernel, rfl⟩
theorem d_c11_product_6 : gD b_c11_product 6 (.aload_n 0) 1 7 := ⟨by decide +kernel, rfl⟩
theorem d_c11_product_7 : gD b_c11_product 7 (.invokevirtual 140) 3 10 := ⟨by decide +kernel, rfl⟩
theorem d_c11_product_10 : gJ b_c11_product 10 (.ifCond .eq 81) 3 81 13 91 := ⟨by decide +kernel, rfl, by decide⟩
theorem d_c11_product_13 : gD b_c11_product 13 (.aload_n 0) 1 14 := ⟨by decide +kernel, rfl⟩
theorem d_c11_product_14 : gD b_c11_product 14 (.invokevirtual 144) 3 17 := ⟨by decide +kernel, rfl⟩
theorem d_c11_product_17 : gD b_c11_product 17 (.bipush 42) 2 19 := ⟨by decide +kernel, rfl⟩
theorem d_c11_product_19 : gJ b_c11_product 19 (.if_icmp .eq 12) 3 12 22 31 := ⟨by decide +kernel, rfl, by decide⟩
theorem d_c11_product_22 : gD b_c11_product 22 (.aload_n 0) 1 23 := ⟨by decide +kernel, rfl⟩
theorem d_c11_product_23 : gD b_c11_product 23 (.invokevirtual 144) 3 26 := ⟨by decide +kernel, rfl⟩
theorem d_c11_product_26 : gD b_c11_product 26 (.bipush 47) 2 28 := ⟨by decide +kernel, rfl⟩
theorem d_c11_product_28 : gJ b_c11_product 28 (.if_icmp .ne 63) 3 63 31 91 := ⟨by decide +kernel, rfl, by decide⟩
theorem d_c11_product_31 : gD b_c11_product 31 (.aload_n 0) 1 32 := ⟨by decide +kernel, rfl⟩
theorem d_c11_product_32 : gD b_c11_product 32 (.invokevirtual 144) 3 35 := ⟨by decide +kernel, rfl⟩
theorem d_c11_product_35 : gD b_c11_product 35 (.bipush 42) 2 37 := ⟨by decide +kernel, rfl⟩
theorem d_c11_product_37 : gJ b_c11_product 37 (.if_icmp .ne 7) 3 7 40 44 := ⟨by decide +kernel, rfl, by decide⟩
theorem d_c11_product_40 : gD b_c11_product 40 (.iconst 1) 1 41 := ⟨by decide +kernel, rfl⟩
theorem d_c11_product_41 : gJ b_c11_product 41 (.goto 4) 3 4 44 45 := ⟨by decide +kernel, rfl, by decide⟩
theorem d_c11_product_44 : gD b_c11_product 44 (.iconst 0) 1 45 := ⟨by decide +kernel, rfl⟩
theorem d_c11_product_45 : gD b_c11_product 45 (.istore_n 3) 1 46 := ⟨by decide +kernel, rfl⟩
theorem d_c11_product_46 : gD b_c11_product 46 (.aload_n 0) 1 47 := ⟨by decide +kernel, rfl⟩
theorem d_c11_product_47 : gD b_c11_product 47 .dup 1 48 := ⟨by decide +kernel, rfl⟩
theorem d_c11_product_48 : gD b_c11_product 48 (.getfield 130) 3 51 := ⟨by decide +kernel, rfl⟩
theorem d_c11_product_51 : gD b_c11_product 51 (.iconst 1) 1 52 := ⟨by decide +kernel, rfl⟩
theorem d_c11_product_52 : gD b_c11_product 52 .iadd 1 53 := ⟨by decide +kernel, rfl⟩
theorem d_c11_product_53 : gD b_c11_product 53 (.putfield 130) 3 56 := ⟨by decide +kernel, rfl⟩
theorem d_c11_product_56 : gD b_c11_product 56 (.aload_n 0) 1 57 := ⟨by decide +kernel, rfl⟩
theorem d_c11_product_57 : gD b_c11_product 57 (.iload_n 1) 1 58 := ⟨by decide +kernel, rfl⟩
theorem d_c11_product_58 : gD b_c11_product 58 (.invokevirtual 191) 3 61 := ⟨by decide +kernel, rfl⟩
theorem d_c11_product_61 : gD b_c11_product 61 (.istore 4) 2 63 := ⟨by decide +kernel, rfl⟩
theorem d_c11_product_63 : gD b_c11_product 63 (.iload_n 3) 1 64 := ⟨by decide +kernel, rfl⟩
theorem d_c11_product_64 : gJ b_c11_product 64 (.ifCond .eq 10) 3 10 67 74 := ⟨by decide +kernel, rfl, by decide⟩
theorem d_c11_product_67 : gD b_c11_product 67 (.iload_n 2) 1 68 := ⟨by decide +kernel, rfl⟩
theorem d_c11_product_68 : gD b_c11_product 68 (.iload 4) 2 70 := ⟨by decide +kernel, rfl⟩
theorem d_c11_product_70 : gD b_c11_product 70 .imul 1 71 := ⟨by decide +kernel, rfl⟩
theorem d_c11_product_71 : gJ b_c11_product 71 (.goto 16) 3 16 74 87 := ⟨by decide +kernel, rfl, by decide⟩
theorem d_c11_product_74 : gD b_c11_product 74 (.iload 4) 2 76 := ⟨by decide +kernel, rfl⟩
theorem d_c11_product_76 : gJ b_c11_product 76 (.ifCond .ne 7) 3 7 79 83 := ⟨by decide +kernel, rfl, by decide⟩
theorem d_c11_product_79 : gD b_c11_product 79 (.iconst 0) 1 80 := ⟨by decide +kernel, rfl⟩
theorem d_c11_product_80 : gJ b_c11_product 80 (.goto 7) 3 7 83 87 := ⟨by decide +kernel, rfl, by decide⟩
theorem d_c11_product_83 : gD b_c11_product 83 (.iload_n 2) 1 84 := ⟨by decide +kernel, rfl⟩
theorem d_c11_product_84 : gD b_c11_product 84 (.iload 4) 2 86 := ⟨by decide +kernel, rfl⟩
theorem d_c11_product_86 : gD b_c11_product 86 .idiv 1 87 := ⟨by decide +kernel, rfl⟩
theorem d_c11_product_87 : gD b_c11_product 87 (.istore_n 2) 1 88 := ⟨by decide +kernel, rfl⟩
theorem d_c11_product_88 : gJ b_c11_product 88 (.goto (-82)) 3 (-82) 91 6 := ⟨by decide +kernel, rfl, by decide⟩
theorem d_c11_product_91 : gD b_c11_product 91 (.iload_n 2) 1 92 := ⟨by decide +kernel, rfl⟩
theorem d_c11_product_92 : gD b_c11_product 92 .ireturn 1 93 := ⟨by decide +kernel, rfl⟩
def lp_c11_product_6 (N : Nat) (F : Nat → Nat → Int32 → gH → Option (Int32 × gH)) (a0 : Nat) (x1 : Int32) : Nat → Int32 → gH → Option (Int32 × gH)
  | 0, _, _ => none
  | k + 1, x2, h =>
  (f_c11_fine N a0 h).bind fun q2 =>
    if q2 = 0 then
    some (x2, h)
  else
    (f_c11_here N a0 h).bind fun q4 =>
    if q4 = (42 : Int32) then
    (f_c11_here N a0 h).bind fun q6 =>
    (gfI h a0 11 14).bind fun v10 =>
    (sf h a0 11 14 (.int (v10 + (1 : Int32)))).bind fun h11 =>
    (F 3 a0 x1 h11).bind fun q12 =>
    (show Option (Int32) from if (if q6 = (42 : Int32) then (1 : Int32) else (0 : Int32)) = 0 then
    if q12.1 = 0 then
    some (0 : Int32)
  else
    (gNZ q12.1).bind fun u17 =>
    some (x2 / q12.1)
  else
    some (x2 * q12.1)).bind fun t14 =>
    lp_c11_product_6 N F a0 x1 k t14 q12.2
  else
    (f_c11_here N a0 h).bind fun q18 =>
    if q18 = (47 : Int32) then
    (f_c11_here N a0 h).bind fun q20 =>
    (gfI h a0 11 14).bind fun v24 =>
    (sf h a0 11 14 (.int (v24 + (1 : Int32)))).bind fun h25 =>
    (F 3 a0 x1 h25).bind fun q26 =>
    (show Option (Int32) from if (if q20 = (42 : Int32) then (1 : Int32) else (0 : Int32)) = 0 then
    if q26.1 = 0 then
    some (0 : Int32)
  else
    (gNZ q26.1).bind fun u31 =>
    some (x2 / q26.1)
  else
    some (x2 * q26.1)).bind fun t28 =>
    lp_c11_product_6 N F a0 x1 k t28 q26.2
  else
    some (x2, h)
def b_fn_c11_product (N : Nat) (F : Nat → Nat → Int32 → gH → Option (Int32 × gH)) (a0 : Nat) (x1 : Int32) (h : gH) : Option (Int32 × gH) :=
  (gcl h a0 11).bind fun _ =>
  (F 3 a0 x1 h).bind fun q1 =>
    (lp_c11_product_6 N F a0 x1 N q1.1 q1.2).bind fun o32 =>
    some (o32.1, o32.2)
set_option maxHeartbeats 4000000 in
set_option maxRecDepth 100000 in
theorem wlp_c11_product_6 {M : gM} {X : gX} {N : Nat} (hx : gEx X = false) (K : gC M X gN11 b_c11_product 5 (gRm (5 + (N + 1)) 0 0)) {F : Nat → Nat → Int32 → gH → Option (Int32 × gH)} (hF0 : ∀ (a0 : Nat) (x1 : Int32) (h : gH) (q : Int32 × gH), F 0 a0 x1 h = some q → gRc y_c11_held h a0 ∧ gMi M.2.1 X y_c11_held b_c11_held 3 .int (5 + N) 0 0 [.ref a0, .int x1] h q.1 q.2) (hF1 : ∀ (a0 : Nat) (x1 : Int32) (h : gH) (q : Int32 × gH), F 1 a0 x1 h = some q → gRc y_c11_sum h a0 ∧ gMi M.2.1 X y_c11_sum b_c11_sum 5 .int (5 + N) 0 0 [.ref a0, .int x1] h q.1 q.2) (hF2 : ∀ (a0 : Nat) (x1 : Int32) (h : gH) (q : Int32 × gH), F 2 a0 x1 h = some q → gRc y_c11_product h a0 ∧ gMi M.2.1 X y_c11_product b_c11_product 5 .int (5 + N) 0 0 [.ref a0, .int x1] h q.1 q.2) (hF3 : ∀ (a0 : Nat) (x1 : Int32) (h : gH) (q : Int32 × gH), F 3 a0 x1 h = some q → gRc y_c11_thing h a0 ∧ gMi M.2.1 X y_c11_thing b_c11_thing 4 .int (5 + N) 0 0 [.ref a0, .int x1] h q.1 q.2) (a0 : Nat) (x1 : Int32) : ∀ (k : Nat) (x2 : Int32) (h : gH) (o : Int32 × gH), lp_c11_product_6 N F a0 x1 k x2 h = some o → gG M X 5 0 0 91 [(2, .int o.1)] [] o.2 → gG M X 5 0 0 6 [(0, .ref a0), (1, .int x1), (2, .int x2)] [] h := by
  intro k
  induction k with
  | zero =>
    intro x2 h o hy
    rw [lp_c11_product_6.eq_1] at hy
    cases hy
  | succ k ih =>
    intro x2 h o hy hE
    rw [lp_c11_product_6.eq_2] at hy
    refine g_aload_n K d_c11_product_6 0 rfl ?_
    obtain ⟨q2, e_q2, hy⟩ := gBd hy
    refine g_callVi (rest := []) K hx ly_c11_fine kv_c11_140 d_c11_product_7 (ct_c11_fine M.2.1 X hx N a0 h q2 e_q2) rfl rfl (Nat.le_of_ble_eq_true rfl) (gDepS rfl) ⟨Nat.le_refl 0, Nat.le_refl 0⟩ ?_
    refine g_if_eq K d_c11_product_10 (fun c3 => ?_) (fun c3 => ?_)
    · rw [if_pos c3] at hy
      refine g_sub (ls2 := [(2, .int x2)]) [2] rfl ?_
      obtain rfl := Option.some.inj hy
      exact hE
    · rw [if_neg c3] at hy
      refine g_aload_n K d_c11_product_13 0 rfl ?_
      obtain ⟨q4, e_q4, hy⟩ := gBd hy
      refine g_callVi (rest := []) K hx ly_c11_here kv_c11_144 d_c11_product_14 (ct_c11_here M.2.1 X hx N a0 h q4 e_q4) rfl rfl (Nat.le_of_ble_eq_true rfl) (gDepS rfl) ⟨Nat.le_refl 0, Nat.le_refl 0⟩ ?_
      refine g_bipush (v := 42) K d_c11_product_17 (by decide) ?_
      refine g_icmp_eq K d_c11_product_19 (fun c5 => ?_) (fun c5 => ?_)
      · rw [if_pos c5] at hy
        refine g_aload_n K d_c11_product_31 0 rfl ?_
        obtain ⟨q6, e_q6, hy⟩ := gBd hy
        refine g_callVi (rest := []) K hx ly_c11_here kv_c11_144 d_c11_product_32 (ct_c11_here M.2.1 X hx N a0 h q6 e_q6) rfl rfl (Nat.le_of_ble_eq_true rfl) (gDepS rfl) ⟨Nat.le_refl 0, Nat.le_refl 0⟩ ?_
        refine g_bipush (v := 42) K d_c11_product_35 (by decide) ?_
        have hJ9 : ∀ w8 : Int32, w8 = (if q6 = (42 : Int32) then (1 : Int32) else (0 : Int32)) → gG M X 5 0 0 45 [(0, .ref a0), (1, .int x1), (2, .int x2)] [.int w8] h := by
          intro w8 e_w8
          subst e_w8
          refine g_istore_n (ls2 := [(3, .int (if q6 = (42 : Int32) then (1 : Int32) else (0 : Int32))), (0, .ref a0), (1, .int x1), (2, .int x2)]) K d_c11_product_45 rfl rfl ?_
          refine g_aload_n K d_c11_product_46 1 rfl ?_
          refine g_dup K d_c11_product_47 rfl ?_
          obtain ⟨v10, e_v10, hy⟩ := gBd hy
          refine g_getI K fl_c11_130 d_c11_product_48 e_v10 ?_
          refine g_iconst (v := 1) K d_c11_product_51 (by decide) ?_
          refine g_iadd K d_c11_product_52 ?_
          obtain ⟨h11, e_h11, hy⟩ := gBd hy
          refine g_putI K fp_c11_130 d_c11_product_53 e_h11 ?_
          refine g_aload_n K d_c11_product_56 1 rfl ?_
          refine g_iload_n K d_c11_product_57 2 rfl ?_
          obtain ⟨q12, e_q12, hy⟩ := gBd hy
          refine g_callVi (rest := []) K hx ly_c11_thing kv_c11_191 d_c11_product_58 (hF3 a0 x1 h11 q12 e_q12) rfl rfl (Nat.le_of_ble_eq_true rfl) (gDepR rfl) ⟨Nat.le_refl 0, Nat.le_refl 0⟩ ?_
          refine g_istore (ls2 := [(4, .int q12.1), (3, .int (if q6 = (42 : Int32) then (1 : Int32) else (0 : Int32))), (0, .ref a0), (1, .int x1), (2, .int x2)]) K d_c11_product_61 rfl rfl ?_
          refine g_iload_n K d_c11_product_63 1 rfl ?_
          obtain ⟨t14, e_t14, hy⟩ := gBd hy
          have hJ15 : gG M X 5 0 0 87 [(0, .ref a0), (1, .int x1)] [.int t14] q12.2 := by
            refine g_istore_n (ls2 := [(2, .int t14), (0, .ref a0), (1, .int x1)]) K d_c11_product_87 rfl rfl ?_
            refine g_goto K d_c11_product_88 ?_
            refine g_sub (ls2 := [(0, .ref a0), (1, .int x1), (2, .int t14)]) [1, 2, 0] rfl ?_
            exact ih _ _ _ hy hE
          refine g_if_eq K d_c11_product_64 (fun c13 => ?_) (fun c13 => ?_)
          · rw [if_pos c13] at e_t14
            refine g_iload K d_c11_product_74 0 rfl ?_
            refine g_if_ne K d_c11_product_76 (fun c16 => ?_) (fun c16 => ?_)
            · rw [if_neg c16] at e_t14
              refine g_iload_n K d_c11_product_83 4 rfl ?_
              refine g_iload K d_c11_product_84 0 rfl ?_
              obtain ⟨u17, e_u17, e_t14⟩ := gBd e_t14
              refine g_idiv K d_c11_product_86 e_u17 ?_
              refine g_sub (ls2 := [(0, .ref a0), (1, .int x1)]) [2, 3] rfl ?_
              obtain rfl := Option.some.inj e_t14
              exact hJ15
            · rw [if_pos c16] at e_t14
              refine g_iconst (v := 0) K d_c11_product_79 (by decide) ?_
              refine g_goto K d_c11_product_80 ?_
              refine g_sub (ls2 := [(0, .ref a0), (1, .int x1)]) [2, 3] rfl ?_
              obtain rfl := Option.some.inj e_t14
              exact hJ15
          · rw [if_neg c13] at e_t14
            refine g_iload_n K d_c11_product_67 4 rfl ?_
            refine g_iload K d_c11_product_68 0 rfl ?_
            refine g_imul K d_c11_product_70 ?_
            refine g_goto K d_c11_product_71 ?_
            refine g_sub (ls2 := [(0, .ref a0), (1, .int x1)]) [2, 3] rfl ?_
            obtain rfl := Option.some.inj e_t14
            exact hJ15
        refine g_icmp_ne K d_c11_product_37 (fun c7 => ?_) (fun c7 => ?_)
        · refine g_iconst (v := 0) K d_c11_product_44 (by decide) ?_
          exact hJ9 _ (by rw [if_neg c7])
        · refine g_iconst (v := 1) K d_c11_product_40 (by decide) ?_
          refine g_goto K d_c11_product_41 ?_
          exact hJ9 _ (by rw [if_pos c7])
      · rw [if_neg c5] at hy
        refine g_aload_n K d_c11_product_22 0 rfl ?_
        obtain ⟨q18, e_q18, hy⟩ := gBd hy
        refine g_callVi (rest := []) K hx ly_c11_here kv_c11_144 d_c11_product_23 (ct_c11_here M.2.1 X hx N a0 h q18 e_q18) rfl rfl (Nat.le_of_ble_eq_true rfl) (gDepS rfl) ⟨Nat.le_refl 0, Nat.le_refl 0⟩ ?_
        refine g_bipush (v := 47) K d_c11_product_26 (by decide) ?_
        refine g_icmp_ne K d_c11_product_28 (fun c19 => ?_) (fun c19 => ?_)
        · rw [if_neg c19] at hy
          refine g_sub (ls2 := [(2, .int x2)]) [2] rfl ?_
          obtain rfl := Option.some.inj hy
          exact hE
        · rw [if_pos c19] at hy
          refine g_aload_n K d_c11_product_31 0 rfl ?_
          obtain ⟨q20, e_q20, hy⟩ := gBd hy
          refine g_callVi (rest := []) K hx ly_c11_here kv_c11_144 d_c11_product_32 (ct_c11_here M.2.1 X hx N a0 h q20 e_q20) rfl rfl (Nat.le_of_ble_eq_true rfl) (gDepS rfl) ⟨Nat.le_refl 0, Nat.le_refl 0⟩ ?_
          refine g_bipush (v := 42) K d_c11_product_35 (by decide) ?_
          have hJ23 : ∀ w22 : Int32, w22 = (if q20 = (42 : Int32) then (1 : Int32) else (0 : Int32)) → gG M X 5 0 0 45 [(0, .ref a0), (1, .int x1), (2, .int x2)] [.int w22] h := by
            intro w22 e_w22
            subst e_w22
            refine g_istore_n (ls2 := [(3, .int (if q20 = (42 : Int32) then (1 : Int32) else (0 : Int32))), (0, .ref a0), (1, .int x1), (2, .int x2)]) K d_c11_product_45 rfl rfl ?_
            refine g_aload_n K d_c11_product_46 1 rfl ?_
            refine g_dup K d_c11_product_47 rfl ?_
            obtain ⟨v24, e_v24, hy⟩ := gBd hy
            refine g_getI K fl_c11_130 d_c11_product_48 e_v24 ?_
            refine g_iconst (v := 1) K d_c11_product_51 (by decide) ?_
            refine g_iadd K d_c11_product_52 ?_
            obtain ⟨h25, e_h25, hy⟩ := gBd hy
            refine g_putI K fp_c11_130 d_c11_product_53 e_h25 ?_
            refine g_aload_n K d_c11_product_56 1 rfl ?_
            refine g_iload_n K d_c11_product_57 2 rfl ?_
            obtain ⟨q26, e_q26, hy⟩ := gBd hy
            refine g_callVi (rest := []) K hx ly_c11_thing kv_c11_191 d_c11_product_58 (hF3 a0 x1 h25 q26 e_q26) rfl rfl (Nat.le_of_ble_eq_true rfl) (gDepR rfl) ⟨Nat.le_refl 0, Nat.le_refl 0⟩ ?_
            refine g_istore (ls2 := [(4, .int q26.1), (3, .int (if q20 = (42 : Int32) then (1 : Int32) else (0 : Int32))), (0, .ref a0), (1, .int x1), (2, .int x2)]) K d_c11_product_61 rfl rfl ?_
            refine g_iload_n K d_c11_product_63 1 rfl ?_
            obtain ⟨t28, e_t28, hy⟩ := gBd hy
            have hJ29 : gG M X 5 0 0 87 [(0, .ref a0), (1, .int x1)] [.int t28] q26.2 := by
              refine g_istore_n (ls2 := [(2, .int t28), (0, .ref a0), (1, .int x1)]) K d_c11_product_87 rfl rfl ?_
              refine g_goto K d_c11_product_88 ?_
              refine g_sub (ls2 := [(0, .ref a0), (1, .int x1), (2, .int t28)]) [1, 2, 0] rfl ?_
              exact ih _ _ _ hy hE
            refine g_if_eq K d_c11_product_64 (fun c27 => ?_) (fun c27 => ?_)
            · rw [if_pos c27] at e_t28
              refine g_iload K d_c11_product_74 0 rfl ?_
              refine g_if_ne K d_c11_product_76 (fun c30 => ?_) (fun c30 => ?_)
              · rw [if_neg c30] at e_t28
                refine g_iload_n K d_c11_product_83 4 rfl ?_
                refine g_iload K d_c11_product_84 0 rfl ?_
                obtain ⟨u31, e_u31, e_t28⟩ := gBd e_t28
                refine g_idiv K d_c11_product_86 e_u31 ?_
                refine g_sub (ls2 := [(0, .ref a0), (1, .int x1)]) [2, 3] rfl ?_
                obtain rfl := Option.some.inj e_t28
                exact hJ29
              · rw [if_pos c30] at e_t28
                refine g_iconst (v := 0) K d_c11_product_79 (by decide) ?_
                refine g_goto K d_c11_product_80 ?_
                refine g_sub (ls2 := [(0, .ref a0), (1, .int x1)]) [2, 3] rfl ?_
                obtain rfl := Option.some.inj e_t28
                exact hJ29
            · rw [if_neg c27] at e_t28
              refine g_iload_n K d_c11_product_67 4 rfl ?_
              refine g_iload K d_c11_product_68 0 rfl ?_
              refine g_imul K d_c11_product_70 ?_
              refine g_goto K d_c11_product_71 ?_
              refine g_sub (ls2 := [(0, .ref a0), (1, .int x1)]) [2, 3] rfl ?_
              obtain rfl := Option.some.inj e_t28
              exact hJ29
          refine g_icmp_ne K d_c11_product_37 (fun c21 => ?_) (fun c21 => ?_)
          · refine g_iconst (v := 0) K d_c11_product_44 (by decide) ?_
            exact hJ23 _ (by rw [if_neg c21])
          · refine g_iconst (v := 1) K d_c11_product_40 (by decide) ?_
            refine g_goto K d_c11_product_41 ?_
            exact hJ23 _ (by rw [if_pos c21])
set_option maxHeartbeats 4000000 in
set_option maxRecDepth 100000 in
theorem cb_c11_product (l : Launch) (X : gX) (hx : gEx X = false) (N : Nat) {F : Nat → Nat → Int32 → gH → Option (Int32 × gH)} (hF0 : ∀ (a0 : Nat) (x1 : Int32) (h : gH) (q : Int32 × gH), F 0 a0 x1 h = some q → gRc y_c11_held h a0 ∧ gMi l X y_c11_held b_c11_held 3 .int (5 + N) 0 0 [.ref a0, .int x1] h q.1 q.2) (hF1 : ∀ (a0 : Nat) (x1 : Int32) (h : gH) (q : Int32 × gH), F 1 a0 x1 h = some q → gRc y_c11_sum h a0 ∧ gMi l X y_c11_sum b_c11_sum 5 .int (5 + N) 0 0 [.ref a0, .int x1] h q.1 q.2) (hF2 : ∀ (a0 : Nat) (x1 : Int32) (h : gH) (q : Int32 × gH), F 2 a0 x1 h = some q → gRc y_c11_product h a0 ∧ gMi l X y_c11_product b_c11_product 5 .int (5 + N) 0 0 [.ref a0, .int x1] h q.1 q.2) (hF3 : ∀ (a0 : Nat) (x1 : Int32) (h : gH) (q : Int32 × gH), F 3 a0 x1 h = some q → gRc y_c11_thing h a0 ∧ gMi l X y_c11_thing b_c11_thing 4 .int (5 + N) 0 0 [.ref a0, .int x1] h q.1 q.2) (a0 : Nat) (x1 : Int32) (h : gH) (q : Int32 × gH) (hy : b_fn_c11_product N F a0 x1 h = some q) : gRc y_c11_product h a0 ∧ gMi l X y_c11_product b_c11_product 5 .int (5 + (N + 1)) 0 0 [.ref a0, .int x1] h q.1 q.2 := by
  unfold b_fn_c11_product at hy
  obtain ⟨u0, e_u0, hy⟩ := gBd hy
  cases u0
  refine ⟨Or.inl ⟨11, _, _, e_u0, rfl⟩, gMet_i (lsx := [(0, .ref a0), (1, .int x1)]) (by decide) rfl rfl ?_⟩
  intro M hMl K hret
  subst hMl
  refine g_aload_n K d_c11_product_0 0 rfl ?_
  refine g_iload_n K d_c11_product_1 1 rfl ?_
  obtain ⟨q1, e_q1, hy⟩ := gBd hy
  refine g_callVi (rest := []) K hx ly_c11_thing kv_c11_191 d_c11_product_2 (hF3 a0 x1 h q1 e_q1) rfl rfl (Nat.le_of_ble_eq_true rfl) (gDepR rfl) ⟨Nat.le_refl 0, Nat.le_refl 0⟩ ?_
  refine g_istore_n (ls2 := [(2, .int q1.1), (0, .ref a0), (1, .int x1)]) K d_c11_product_5 rfl rfl ?_
  obtain ⟨o32, e_o32, hy⟩ := gBd hy
  refine g_sub (ls2 := [(0, .ref a0), (1, .int x1), (2, .int q1.1)]) [1, 2, 0] rfl ?_
  refine wlp_c11_product_6 hx K hF0 hF1 hF2 hF3 a0 x1 N q1.1 q1.2 o32 e_o32 ?_
  refine g_iload_n K d_c11_product_91 0 rfl ?_
  obtain rfl := Option.some.inj hy
  exact hret rfl _ _ _ d_c11_product_92
-- c11 sum
theorem d_c11_sum_0 : gD b_c11_sum 0 (.aload_n 0) 1 1 := ⟨by decide +kernel, rfl⟩
theorem d_c11_sum_1 : gD b_c11_sum 1 (.iload_n 1) 1 2 := ⟨by decide +kernel, rfl⟩
theorem d_c11_sum_2 : gD b_c11_sum 2 (.invokevirtual 188) 3 5 := ⟨by decide +kernel, rfl⟩
theorem d_c11_sum_5 : gD b_c11_sum 5 (.istore_n 2) 1 6 := ⟨by decide +kernel, rfl⟩
theorem d_c11_sum_6 : gD b_c11_sum 6 (.aload_n 0) 1 7 := ⟨by decide +kernel, rfl⟩
theorem d_c11_sum_7 : gD b_c11_sum 7 (.invokevirtual 140) 3 10 := ⟨by decide +kernel, rfl⟩
theorem d_c11_sum_10 : gJ b_c11_sum 10 (.ifCond .eq 72) 3 72 13 82 := ⟨by decide +kernel, rfl, by decide⟩
theorem d_c11_sum_13 : gD b_c11_sum 13 (.aload_n 0) 1 14 := ⟨by decide +kernel, rfl⟩
theorem d_c11_sum_14 : gD b_c11_sum 14 (.invokevirtual 144) 3 17 := ⟨by decide +kernel, rfl⟩
theorem d_c11_sum_17 : gD b_c11_sum 17 (.bipush 43) 2 19 := ⟨by decide +kernel, rfl⟩
theorem d_c11_sum_19 : gJ b_c11_sum 19 (.if_icmp .eq 12) 3 12 22 31 := ⟨by decide +kernel, rfl, by decide⟩
theorem d_c11_sum_22 : gD b_c11_sum 22 (.aload_n 0) 1 23 := ⟨by decide +kernel, rfl⟩
theorem d_c11_sum_23 : gD b_c11_sum 23 (.invokevirtual 144) 3 26 := ⟨by decide +kernel, rfl⟩
theorem d_c11_sum_26 : gD b_c11_sum 26 (.bipush 45) 2 28 := ⟨by decide +kernel, rfl⟩
theorem d_c11_sum_28 : gJ b_c11_sum 28 (.if_icmp .ne 54) 3 54 31 82 := ⟨by decide +kernel, rfl, by decide⟩
theorem d_c11_sum_31 : gD b_c11_sum 31 (.aload_n 0) 1 32 := ⟨by decide +kernel, rfl⟩
theorem d_c11_sum_32 : gD b_c11_sum 32 (.invokevirtual 144) 3 35 := ⟨by decide +kernel, rfl⟩
theorem d_c11_sum_35 : gD b_c11_sum 35 (.bipush 43) 2 37 := ⟨by decide +kernel, rfl⟩
theorem d_c11_sum_37 : gJ b_c11_sum 37 (.if_icmp .ne 7) 3 7 40 44 := ⟨by decide +kernel, rfl, by decide⟩
theorem d_c11_sum_40 : gD b_c11_sum 40 (.iconst 1) 1 41 := ⟨by decide +kernel, rfl⟩
theorem d_c11_sum_41 : gJ b_c11_sum 41 (.goto 4) 3 4 44 45 := ⟨by decide +kernel, rfl, by decide⟩
theorem d_c11_sum_44 : gD b_c11_sum 44 (.iconst 0) 1 45 := ⟨by decide +kernel, rfl⟩
theorem d_c11_sum_45 : gD b_c11_sum 45 (.istore_n 3) 1 46 := ⟨by decide +kernel, rfl⟩
theorem d_c11_sum_46 : gD b_c11_sum 46 (.aload_n 0) 1 47 := ⟨by decide +kernel, rfl⟩
theorem d_c11_sum_47 : gD b_c11_sum 47 .dup 1 48 := ⟨by decide +kernel, rfl⟩
theorem d_c11_sum_48 : gD b_c11_sum 48 (.getfield 130) 3 51 := ⟨by decide +kernel, rfl⟩
theorem d_c11_sum_51 : gD b_c11_sum 51 (.iconst 1) 1 52 := ⟨by decide +kernel, rfl⟩
theorem d_c11_sum_52 : gD b_c11_sum 52 .iadd 1 53 := ⟨by decide +kernel, rfl⟩
theorem d_c11_sum_53 : gD b_c11_sum 53 (.putfield 130) 3 56 := ⟨by decide +kernel, rfl⟩
theorem d_c11_sum_56 : gD b_c11_sum 56 (.aload_n 0) 1 57 := ⟨by decide +kernel, rfl⟩
theorem d_c11_sum_57 : gD b_c11_sum 57 (.iload_n 1) 1 58 := ⟨by decide +kernel, rfl⟩
theorem d_c11_sum_58 : gD b_c11_sum 58 (.invokevirtual 188) 3 61 := ⟨by decide +kernel, rfl⟩
theorem d_c11_sum_61 : gD b_c11_sum 61 (.istore 4) 2 63 := ⟨by decide +kernel, rfl⟩
theorem d_c11_sum_63 : gD b_c11_sum 63 (.iload_n 3) 1 64 := ⟨by decide +kernel, rfl⟩
theorem d_c11_sum_64 : gJ b_c11_sum 64 (.ifCond .eq 10) 3 10 67 74 := ⟨by decide +kernel, rfl, by decide⟩
theorem d_c11_sum_67 : gD b_c11_sum 67 (.iload_n 2) 1 68 := ⟨by decide +kernel, rfl⟩
theorem d_c11_sum_68 : gD b_c11_sum 68 (.iload 4) 2 70 := ⟨by decide +kernel, rfl⟩
theorem d_c11_sum_70 : gD b_c11_sum 70 .iadd 1 71 := ⟨by decide +kernel, rfl⟩
theorem d_c11_sum_71 : gJ b_c11_sum 71 (.goto 7) 3 7 74 78 := ⟨by decide +kernel, rfl, by decide⟩
theorem d_c11_sum_74 : gD b_c11_sum 74 (.iload_n 2) 1 75 := ⟨by decide +kernel, rfl⟩
theorem d_c11_sum_75 : gD b_c11_sum 75 (.iload 4) 2 77 := ⟨by decide +kernel, rfl⟩
theorem d_c11_sum_77 : gD b_c11_sum 77 .isub 1 78 := ⟨by decide +kernel, rfl⟩
theorem d_c11_sum_78 : gD b_c11_sum 78 (.istore_n 2) 1 79 := ⟨by decide +kernel, rfl⟩
theorem d_c11_sum_79 : gJ b_c11_sum 79 (.goto (-73)) 3 (-73) 82 6 := ⟨by decide +kernel, rfl, by decide⟩
theorem d_c11_sum_82 : gD b_c11_sum 82 (.iload_n 2) 1 83 := ⟨by decide +kernel, rfl⟩
theorem d_c11_sum_83 : gD b_c11_sum 83 .ireturn 1 84 := ⟨by decide +kernel, rfl⟩
def lp_c11_sum_6 (N : Nat) (F : Nat → Nat → Int32 → gH → Option (Int32 × gH)) (a0 : Nat) (x1 : Int32) : Nat → Int32 → gH → Option (Int32 × gH)
  | 0, _, _ => none
  | k + 1, x2, h =>
  (f_c11_fine N a0 h).bind fun q2 =>
    if q2 = 0 then
    some (x2, h)
  else
    (f_c11_here N a0 h).bind fun q4 =>
    if q4 = (43 : Int32) then
    (f_c11_here N a0 h).bind fun q6 =>
    (gfI h a0 11 14).bind fun v10 =>
    (sf h a0 11 14 (.int (v10 + (1 : Int32)))).bind fun h11 =>
    (F 2 a0 x1 h11).bind fun q12 =>
    lp_c11_sum_6 N F a0 x1 k (if (if q6 = (43 : Int32) then (1 : Int32) else (0 : Int32)) = 0 then x2 - q12.1 else x2 + q12.1) q12.2
  else
    (f_c11_here N a0 h).bind fun q16 =>
    if q16 = (45 : Int32) then
    (f_c11_here N a0 h).bind fun q18 =>
    (gfI h a0 11 14).bind fun v22 =>
    (sf h a0 11 14 (.int (v22 + (1 : Int32)))).bind fun h23 =>
    (F 2 a0 x1 h23).bind fun q24 =>
    lp_c11_sum_6 N F a0 x1 k (if (if q18 = (43 : Int32) then (1 : Int32) else (0 : Int32)) = 0 then x2 - q24.1 else x2 + q24.1) q24.2
  else
    some (x2, h)
def b_fn_c11_sum (N : Nat) (F : Nat → Nat → Int32 → gH → Option (Int32 × gH)) (a0 : Nat) (x1 : Int32) (h : gH) : Option (Int32 × gH) :=
  (gcl h a0 11).bind fun _ =>
  (F 2 a0 x1 h).bind fun q1 =>
    (lp_c11_sum_6 N F a0 x1 N q1.1 q1.2).bind fun o28 =>
    some (o28.1, o28.2)
set_option maxHeartbeats 4000000 in
set_option maxRecDepth 100000 in
theorem wlp_c11_sum_6 {M : gM} {X : gX} {N : Nat} (hx : gEx X = false) (K : gC M X gN11 b_c11_sum 5 (gRm (5 + (N + 1)) 0 0)) {F : Nat → Nat → Int32 → gH → Option (Int32 × gH)} (hF0 : ∀ (a0 : Nat) (x1 : Int32) (h : gH) (q : Int32 × gH), F 0 a0 x1 h = some q → gRc y_c11_held h a0 ∧ gMi M.2.1 X y_c11_held b_c11_held 3 .int (5 + N) 0 0 [.ref a0, .int x1] h q.1 q.2) (hF1 : ∀ (a0 : Nat) (x1 : Int32) (h : gH) (q : Int32 × gH), F 1 a0 x1 h = some q → gRc y_c11_sum h a0 ∧ gMi M.2.1 X y_c11_sum b_c11_sum 5 .int (5 + N) 0 0 [.ref a0, .int x1] h q.1 q.2) (hF2 : ∀ (a0 : Nat) (x1 : Int32) (h : gH) (q : Int32 × gH), F 2 a0 x1 h = some q → gRc y_c11_product h a0 ∧ gMi M.2.1 X y_c11_product b_c11_product 5 .int (5 + N) 0 0 [.ref a0, .int x1] h q.1 q.2) (hF3 : ∀ (a0 : Nat) (x1 : Int32) (h : gH) (q : Int32 × gH), F 3 a0 x1 h = some q → gRc y_c11_thing h a0 ∧ gMi M.2.1 X y_c11_thing b_c11_thing 4 .int (5 + N) 0 0 [.ref a0, .int x1] h q.1 q.2) (a0 : Nat) (x1 : Int32) : ∀ (k : Nat) (x2 : Int32) (h : gH) (o : Int32 × gH), lp_c11_sum_6 N F a0 x1 k x2 h = some o → gG M X 5 0 0 82 [(2, .int o.1)] [] o.2 → gG M X 5 0 0 6 [(0, .ref a0), (1, .int x1), (2, .int x2)] [] h := by
  intro k
  induction k with
  | zero =>
    intro x2 h o hy
    rw [lp_c11_sum_6.eq_1] at hy
    cases hy
  | succ k ih =>
    intro x2 h o hy hE
    rw [lp_c11_sum_6.eq_2] at hy
    refine g_aload_n K d_c11_sum_6 0 rfl ?_
    obtain ⟨q2, e_q2, hy⟩ := gBd hy
    refine g_callVi (rest := []) K hx ly_c11_fine kv_c11_140 d_c11_sum_7 (ct_c11_fine M.2.1 X hx N a0 h q2 e_q2) rfl rfl (Nat.le_of_ble_eq_true rfl) (gDepS rfl) ⟨Nat.le_refl 0, Nat.le_refl 0⟩ ?_
    refine g_if_eq K d_c11_sum_10 (fun c3 => ?_) (fun c3 => ?_)
    · rw [if_pos c3] at hy
      refine g_sub (ls2 := [(2, .int x2)]) [2] rfl ?_
      obtain rfl := Option.some.inj hy
      exact hE
    · rw [if_neg c3] at hy
      refine g_aload_n K d_c11_sum_13 0 rfl ?_
      obtain ⟨q4, e_q4, hy⟩ := gBd hy
      refine g_callVi (rest := []) K hx ly_c11_here kv_c11_144 d_c11_sum_14 (ct_c11_here M.2.1 X hx N a0 h q4 e_q4) rfl rfl (Nat.le_of_ble_eq_true rfl) (gDepS rfl) ⟨Nat.le_refl 0, Nat.le_refl 0⟩ ?_
      refine g_bipush (v := 43) K d_c11_sum_17 (by decide) ?_
      refine g_icmp_eq K d_c11_sum_19 (fun c5 => ?_) (fun c5 => ?_)
      · rw [if_pos c5] at hy
        refine g_aload_n K d_c11_sum_31 0 rfl ?_
        obtain ⟨q6, e_q6, hy⟩ := gBd hy
        refine g_callVi (rest := []) K hx ly_c11_here kv_c11_144 d_c11_sum_32 (ct_c11_here M.2.1 X hx N a0 h q6 e_q6) rfl rfl (Nat.le_of_ble_eq_true rfl) (gDepS rfl) ⟨Nat.le_refl 0, Nat.le_refl 0⟩ ?_
        refine g_bipush (v := 43) K d_c11_sum_35 (by decide) ?_
        have hJ9 : ∀ w8 : Int32, w8 = (if q6 = (43 : Int32) then (1 : Int32) else (0 : Int32)) → gG M X 5 0 0 45 [(0, .ref a0), (1, .int x1), (2, .int x2)] [.int w8] h := by
          intro w8 e_w8
          subst e_w8
          refine g_istore_n (ls2 := [(3, .int (if q6 = (43 : Int32) then (1 : Int32) else (0 : Int32))), (0, .ref a0), (1, .int x1), (2, .int x2)]) K d_c11_sum_45 rfl rfl ?_
          refine g_aload_n K d_c11_sum_46 1 rfl ?_
          refine g_dup K d_c11_sum_47 rfl ?_
          obtain ⟨v10, e_v10, hy⟩ := gBd hy
          refine g_getI K fl_c11_130 d_c11_sum_48 e_v10 ?_
          refine g_iconst (v := 1) K d_c11_sum_51 (by decide) ?_
          refine g_iadd K d_c11_sum_52 ?_
          obtain ⟨h11, e_h11, hy⟩ := gBd hy
          refine g_putI K fp_c11_130 d_c11_sum_53 e_h11 ?_
          refine g_aload_n K d_c11_sum_56 1 rfl ?_
          refine g_iload_n K d_c11_sum_57 2 rfl ?_
          obtain ⟨q12, e_q12, hy⟩ := gBd hy
          refine g_callVi (rest := []) K hx ly_c11_product kv_c11_188 d_c11_sum_58 (hF2 a0 x1 h11 q12 e_q12) rfl rfl (Nat.le_of_ble_eq_true rfl) (gDepR rfl) ⟨Nat.le_refl 0, Nat.le_refl 0⟩ ?_
          refine g_istore (ls2 := [(4, .int q12.1), (3, .int (if q6 = (43 : Int32) then (1 : Int32) else (0 : Int32))), (0, .ref a0), (1, .int x1), (2, .int x2)]) K d_c11_sum_61 rfl rfl ?_
          refine g_iload_n K d_c11_sum_63 1 rfl ?_
          have hJ15 : ∀ w14 : Int32, w14 = (if (if q6 = (43 : Int32) then (1 : Int32) else (0 : Int32)) = 0 then x2 - q12.1 else x2 + q12.1) → gG M X 5 0 0 78 [(4, .int q12.1), (3, .int (if q6 = (43 : Int32) then (1 : Int32) else (0 : Int32))), (0, .ref a0), (1, .int x1), (2, .int x2)] [.int w14] q12.2 := by
            intro w14 e_w14
            subst e_w14
            refine g_istore_n (ls2 := [(2, .int (if (if q6 = (43 : Int32) then (1 : Int32) else (0 : Int32)) = 0 then x2 - q12.1 else x2 + q12.1)), (4, .int q12.1), (3, .int (if q6 = (43 : Int32) then (1 : Int32) else (0 : Int32))), (0, .ref a0), (1, .int x1)]) K d_c11_sum_78 rfl rfl ?_
            refine g_goto K d_c11_sum_79 ?_
            refine g_sub (ls2 := [(0, .ref a0), (1, .int x1), (2, .int (if (if q6 = (43 : Int32) then (1 : Int32) else (0 : Int32)) = 0 then x2 - q12.1 else x2 + q12.1))]) [3, 4, 0] rfl ?_
            exact ih _ _ _ hy hE
          refine g_if_eq K d_c11_sum_64 (fun c13 => ?_) (fun c13 => ?_)
          · refine g_iload_n K d_c11_sum_74 4 rfl ?_
            refine g_iload K d_c11_sum_75 0 rfl ?_
            refine g_isub K d_c11_sum_77 ?_
            exact hJ15 _ (by rw [if_pos c13])
          · refine g_iload_n K d_c11_sum_67 4 rfl ?_
            refine g_iload K d_c11_sum_68 0 rfl ?_
            refine g_iadd K d_c11_sum_70 ?_
            refine g_goto K d_c11_sum_71 ?_
            exact hJ15 _ (by rw [if_neg c13])
        refine g_icmp_ne K d_c11_sum_37 (fun c7 => ?_) (fun c7 => ?_)
        · refine g_iconst (v := 0) K d_c11_sum_44 (by decide) ?_
          exact hJ9 _ (by rw [if_neg c7])
        · refine g_iconst (v := 1) K d_c11_sum_40 (by decide) ?_
          refine g_goto K d_c11_sum_41 ?_
          exact hJ9 _ (by rw [if_pos c7])
      · rw [if_neg c5] at hy
        refine g_aload_n K d_c11_sum_22 0 rfl ?_
        obtain ⟨q16, e_q16, hy⟩ := gBd hy
        refine g_callVi (rest := []) K hx ly_c11_here kv_c11_144 d_c11_sum_23 (ct_c11_here M.2.1 X hx N a0 h q16 e_q16) rfl rfl (Nat.le_of_ble_eq_true rfl) (gDepS rfl) ⟨Nat.le_refl 0, Nat.le_refl 0⟩ ?_
        refine g_bipush (v := 45) K d_c11_sum_26 (by decide) ?_
        refine g_icmp_ne K d_c11_sum_28 (fun c17 => ?_) (fun c17 => ?_)
        · rw [if_neg c17] at hy
          refine g_sub (ls2 := [(2, .int x2)]) [2] rfl ?_
          obtain rfl := Option.some.inj hy
          exact hE
        · rw [if_pos c17] at hy
          refine g_aload_n K d_c11_sum_31 0 rfl ?_
          obtain ⟨q18, e_q18, hy⟩ := gBd hy
          refine g_callVi (rest := []) K hx ly_c11_here kv_c11_144 d_c11_sum_32 (ct_c11_here M.2.1 X hx N a0 h q18 e_q18) rfl rfl (Nat.le_of_ble_eq_true rfl) (gDepS rfl) ⟨Nat.le_refl 0, Nat.le_refl 0⟩ ?_
          refine g_bipush (v := 43) K d_c11_sum_35 (by decide) ?_
          have hJ21 : ∀ w20 : Int32, w20 = (if q18 = (43 : Int32) then (1 : Int32) else (0 : Int32)) → gG M X 5 0 0 45 [(0, .ref a0), (1, .int x1), (2, .int x2)] [.int w20] h := by
            intro w20 e_w20
            subst e_w20
            refine g_istore_n (ls2 := [(3, .int (if q18 = (43 : Int32) then (1 : Int32) else (0 : Int32))), (0, .ref a0), (1, .int x1), (2, .int x2)]) K d_c11_sum_45 rfl rfl ?_
            refine g_aload_n K d_c11_sum_46 1 rfl ?_
            refine g_dup K d_c11_sum_47 rfl ?_
            obtain ⟨v22, e_v22, hy⟩ := gBd hy
            refine g_getI K fl_c11_130 d_c11_sum_48 e_v22 ?_
            refine g_iconst (v := 1) K d_c11_sum_51 (by decide) ?_
            refine g_iadd K d_c11_sum_52 ?_
            obtain ⟨h23, e_h23, hy⟩ := gBd hy
            refine g_putI K fp_c11_130 d_c11_sum_53 e_h23 ?_
            refine g_aload_n K d_c11_sum_56 1 rfl ?_
            refine g_iload_n K d_c11_sum_57 2 rfl ?_
            obtain ⟨q24, e_q24, hy⟩ := gBd hy
            refine g_callVi (rest := []) K hx ly_c11_product kv_c11_188 d_c11_sum_58 (hF2 a0 x1 h23 q24 e_q24) rfl rfl (Nat.le_of_ble_eq_true rfl) (gDepR rfl) ⟨Nat.le_refl 0, Nat.le_refl 0⟩ ?_
            refine g_istore (ls2 := [(4, .int q24.1), (3, .int (if q18 = (43 : Int32) then (1 : Int32) else (0 : Int32))), (0, .ref a0), (1, .int x1), (2, .int x2)]) K d_c11_sum_61 rfl rfl ?_
            refine g_iload_n K d_c11_sum_63 1 rfl ?_
            have hJ27 : ∀ w26 : Int32, w26 = (if (if q18 = (43 : Int32) then (1 : Int32) else (0 : Int32)) = 0 then x2 - q24.1 else x2 + q24.1) → gG M X 5 0 0 78 [(4, .int q24.1), (3, .int (if q18 = (43 : Int32) then (1 : Int32) else (0 : Int32))), (0, .ref a0), (1, .int x1), (2, .int x2)] [.int w26] q24.2 := by
              intro w26 e_w26
              subst e_w26
              refine g_istore_n (ls2 := [(2, .int (if (if q18 = (43 : Int32) then (1 : Int32) else (0 : Int32)) = 0 then x2 - q24.1 else x2 + q24.1)), (4, .int q24.1), (3, .int (if q18 = (43 : Int32) then (1 : Int32) else (0 : Int32))), (0, .ref a0), (1, .int x1)]) K d_c11_sum_78 rfl rfl ?_
              refine g_goto K d_c11_sum_79 ?_
              refine g_sub (ls2 := [(0, .ref a0), (1, .int x1), (2, .int (if (if q18 = (43 : Int32) then (1 : Int32) else (0 : Int32)) = 0 then x2 - q24.1 else x2 + q24.1))]) [3, 4, 0] rfl ?_
              exact ih _ _ _ hy hE
            refine g_if_eq K d_c11_sum_64 (fun c25 => ?_) (fun c25 => ?_)
            · refine g_iload_n K d_c11_sum_74 4 rfl ?_
              refine g_iload K d_c11_sum_75 0 rfl ?_
              refine g_isub K d_c11_sum_77 ?_
              exact hJ27 _ (by rw [if_pos c25])
            · refine g_iload_n K d_c11_sum_67 4 rfl ?_
              refine g_iload K d_c11_sum_68 0 rfl ?_
              refine g_iadd K d_c11_sum_70 ?_
              refine g_goto K d_c11_sum_71 ?_
              exact hJ27 _ (by rw [if_neg c25])
          refine g_icmp_ne K d_c11_sum_37 (fun c19 => ?_) (fun c19 => ?_)
          · refine g_iconst (v := 0) K d_c11_sum_44 (by decide) ?_
            exact hJ21 _ (by rw [if_neg c19])
          · refine g_iconst (v := 1) K d_c11_sum_40 (by decide) ?_
            refine g_goto K d_c11_sum_41 ?_
            exact hJ21 _ (by rw [if_pos c19])
set_option maxHeartbeats 4000000 in
set_option maxRecDepth 100000 in
theorem cb_c11_sum (l : Launch) (X : gX) (hx : gEx X = false) (N : Nat) {F : Nat → Nat → Int32 → gH → Option (Int32 × gH)} (hF0 : ∀ (a0 : Nat) (x1 : Int32) (h : gH) (q : Int32 × gH), F 0 a0 x1 h = some q → gRc y_c11_held h a0 ∧ gMi l X y_c11_held b_c11_held 3 .int (5 + N) 0 0 [.ref a0, .int x1] h q.1 q.2) (hF1 : ∀ (a0 : Nat) (x1 : Int32) (h : gH) (q : Int32 × gH), F 1 a0 x1 h = some q → gRc y_c11_sum h a0 ∧ gMi l X y_c11_sum b_c11_sum 5 .int (5 + N) 0 0 [.ref a0, .int x1] h q.1 q.2) (hF2 : ∀ (a0 : Nat) (x1 : Int32) (h : gH) (q : Int32 × gH), F 2 a0 x1 h = some q → gRc y_c11_product h a0 ∧ gMi l X y_c11_product b_c11_product 5 .int (5 + N) 0 0 [.ref a0, .int x1] h q.1 q.2) (hF3 : ∀ (a0 : Nat) (x1 : Int32) (h : gH) (q : Int32 × gH), F 3 a0 x1 h = some q → gRc y_c11_thing h a0 ∧ gMi l X y_c11_thing b_c11_thing 4 .int (5 + N) 0 0 [.ref a0, .int x1] h q.1 q.2) (a0 : Nat) (x1 : Int32) (h : gH) (q : Int32 × gH) (hy : b_fn_c11_sum N F a0 x1 h = some q) : gRc y_c11_sum h a0 ∧ gMi l X y_c11_sum b_c11_sum 5 .int (5 + (N + 1)) 0 0 [.ref a0, .int x1] h q.1 q.2 := by
  unfold b_fn_c11_sum at hy
  obtain ⟨u0, e_u0, hy⟩ := gBd hy
  cases u0
  refine ⟨Or.inl ⟨11, _, _, e_u0, rfl⟩, gMet_i (lsx := [(0, .ref a0), (1, .int x1)]) (by decide) rfl rfl ?_⟩
  intro M hMl K hret
  subst hMl
  refine g_aload_n K d_c11_sum_0 0 rfl ?_
  refine g_iload_n K d_c11_sum_1 1 rfl ?_
  obtain ⟨q1, e_q1, hy⟩ := gBd hy
  refine g_callVi (rest := []) K hx ly_c11_product kv_c11_188 d_c11_sum_2 (hF2 a0 x1 h q1 e_q1) rfl rfl (Nat.le_of_ble_eq_true rfl) (gDepR rfl) ⟨Nat.le_refl 0, Nat.le_refl 0⟩ ?_
  refine g_istore_n (ls2 := [(2, .int q1.1), (0, .ref a0), (1, .int x1)]) K d_c11_sum_5 rfl rfl ?_
  obtain ⟨o28, e_o28, hy⟩ := gBd hy
  refine g_sub (ls2 := [(0, .ref a0), (1, .int x1), (2, .int q1.1)]) [1, 2, 0] rfl ?_
  refine wlp_c11_sum_6 hx K hF0 hF1 hF2 hF3 a0 x1 N q1.1 q1.2 o28 e_o28 ?_
  refine g_iload_n K d_c11_sum_82 0 rfl ?_
  obtain rfl := Option.some.inj hy
  exact hret rfl _ _ _ d_c11_sum_83
-- c11 thing
theorem d_c11_thing_0 : gD b_c11_thing 0 (.aload_n 0) 1 1 := ⟨by decide +kernel, rfl⟩
theorem d_c11_thing_1 : gD b_c11_thing 1 (.bipush 45) 2 3 := ⟨by decide +kernel, rfl⟩
theorem d_c11_thing_3 : gD b_c11_thing 3 (.invokevirtual 147) 3 6 := ⟨by decide +kernel, rfl⟩
theorem d_c11_thing_6 : gJ b_c11_thing 6 (.ifCond .eq 10) 3 10 9 16 := ⟨by decide +kernel, rfl, by decide⟩
theorem d_c11_thing_9 : gD b_c11_thing 9 (.aload_n 0) 1 10 := ⟨by decide +kernel, rfl⟩
theorem d_c11_thing_10 : gD b_c11_thing 10 (.iload_n 1) 1 11 := ⟨by decide +kernel, rfl⟩
theorem d_c11_thing_11 : gD b_c11_thing 11 (.invokevirtual 191) 3 14 := ⟨by decide +kernel, rfl⟩
theorem d_c11_thing_14 : gD b_c11_thing 14 .ineg 1 15 := ⟨by decide +kernel, rfl⟩
theorem d_c11_thing_15 : gD b_c11_thing 15 .ireturn 1 16 := ⟨by decide +kernel, rfl⟩
theorem d_c11_thing_16 : gD b_c11_thing 16 (.aload_n 0) 1 17 := ⟨by decide +kernel, rfl⟩
theorem d_c11_thing_17 : gD b_c11_thing 17 (.invokevirtual 140) 3 20 := ⟨by decide +kernel, rfl⟩
theorem d_c11_thing_20 : gJ b_c11_thing 20 (.ifCond .ne 5) 3 5 23 25 := ⟨by decide +kernel, rfl, by decide⟩
theorem d_c11_thing_23 : gD b_c11_thing 23 (.iconst 0) 1 24 := ⟨by decide +kernel, rfl⟩
theorem d_c11_thing_24 : gD b_c11_thing 24 .ireturn 1 25 := ⟨by decide +kernel, rfl⟩
theorem d_c11_thing_25 : gD b_c11_thing 25 (.aload_n 0) 1 26 := ⟨by decide +kernel, rfl⟩
theorem d_c11_thing_26 : gD b_c11_thing 26 (.invokevirtual 144) 3 29 := ⟨by decide +kernel, rfl⟩
theorem d_c11_thing_29 : gD b_c11_thing 29 (.istore_n 2) 1 30 := ⟨by decide +kernel, rfl⟩
theorem d_c11_thing_30 : gD b_c11_thing 30 (.iload_n 2) 1 31 := ⟨by decide +kernel, rfl⟩
theorem d_c11_thing_31 : gD b_c11_thing 31 (.bipush 40) 2 33 := ⟨by decide +kernel, rfl⟩
theorem d_c11_thing_33 : gJ b_c11_thing 33 (.if_icmp .ne 34) 3 34 36 67 := ⟨by decide +kernel, rfl, by decide⟩
theorem d_c11_thing_36 : gD b_c11_thing 36 (.iload_n 1) 1 37 := ⟨by decide +kernel, rfl⟩
theorem d_c11_thing_37 : gD b_c11_thing 37 (.iconst 4) 1 38 := ⟨by decide +kernel, rfl⟩
theorem d_c11_thing_38 : gJ b_c11_thing 38 (.if_icmp .ge 29) 3 29 41 67 := ⟨by decide +kernel, rfl, by decide⟩
theorem d_c11_thing_41 : gD b_c11_thing 41 (.aload_n 0) 1 42 := ⟨by decide +kernel, rfl⟩
theorem d_c11_thing_42 : gD b_c11_thing 42 .dup 1 43 := ⟨by decide +kernel, rfl⟩
theorem d_c11_thing_43 : gD b_c11_thing 43 (.getfield 130) 3 46 := ⟨by decide +kernel, rfl⟩
theorem d_c11_thing_46 : gD b_c11_thing 46 (.iconst 1) 1 47 := ⟨by decide +kernel, rfl⟩
theorem d_c11_thing_47 : gD b_c11_thing 47 .iadd 1 48 := ⟨by decide +kernel, rfl⟩
theorem d_c11_thing_48 : gD b_c11_thing 48 (.putfield 130) 3 51 := ⟨by decide +kernel, rfl⟩
theorem d_c11_thing_51 : gD b_c11_thing 51 (.aload_n 0) 1 52 := ⟨by decide +kernel, rfl⟩
theorem d_c11_thing_52 : gD b_c11_thing 52 (.iload_n 1) 1 53 := ⟨by decide +kernel, rfl⟩
theorem d_c11_thing_53 : gD b_c11_thing 53 (.iconst 1) 1 54 := ⟨by decide +kernel, rfl⟩
theorem d_c11_thing_54 : gD b_c11_thing 54 .iadd 1 55 := ⟨by decide +kernel, rfl⟩
theorem d_c11_thing_55 : gD b_c11_thing 55 (.invokevirtual 194) 3 58 := ⟨by decide +kernel, rfl⟩
theorem d_c11_thing_58 : gD b_c11_thing 58 (.istore_n 3) 1 59 := ⟨by decide +kernel, rfl⟩
theorem d_c11_thing_59 : gD b_c11_thing 59 (.aload_n 0) 1 60 := ⟨by decide +kernel, rfl⟩
theorem d_c11_thing_60 : gD b_c11_thing 60 (.bipush 41) 2 62 := ⟨by decide +kernel, rfl⟩
theorem d_c11_thing_62 : gD b_c11_thing 62 (.invokevirtual 197) 3 65 := ⟨by decide +kernel, rfl⟩
theorem d_c11_thing_65 : gD b_c11_thing 65 (.iload_n 3) 1 66 := ⟨by decide +kernel, rfl⟩
theorem d_c11_thing_66 : gD b_c11_thing 66 .ireturn 1 67 := ⟨by decide +kernel, rfl⟩
theorem d_c11_thing_67 : gD b_c11_thing 67 (.iload_n 2) 1 68 := ⟨by decide +kernel, rfl⟩
theorem d_c11_thing_68 : gD b_c11_thing 68 (.bipush 48) 2 70 := ⟨by decide +kernel, rfl⟩
theorem d_c11_thing_70 : gD b_c11_thing 70 (.bipush 57) 2 72 := ⟨by decide +kernel, rfl⟩
theorem d_c11_thing_72 : gD b_c11_thing 72 (.invokestatic 105) 3 75 := ⟨by decide +kernel, rfl⟩
theorem d_c11_thing_75 : gJ b_c11_thing 75 (.ifCond .eq 9) 3 9 78 84 := ⟨by decide +kernel, rfl, by decide⟩
theorem d_c11_thing_78 : gD b_c11_thing 78 (.aload_n 0) 1 79 := ⟨by decide +kernel, rfl⟩
theorem d_c11_thing_79 : gD b_c11_thing 79 (.iconst 3) 1 80 := ⟨by decide +kernel, rfl⟩
theorem d_c11_thing_80 : gD b_c11_thing 80 (.invokevirtual 201) 3 83 := ⟨by decide +kernel, rfl⟩
theorem d_c11_thing_83 : gD b_c11_thing 83 .ireturn 1 84 := ⟨by decide +kernel, rfl⟩
theorem d_c11_thing_84 : gD b_c11_thing 84 (.iload_n 2) 1 85 := ⟨by decide +kernel, rfl⟩
theorem d_c11_thing_85 : gD b_c11_thing 85 (.invokestatic 204) 3 88 := ⟨by decide +kernel, rfl⟩
theorem d_c11_thing_88 : gD b_c11_thing 88 (.iconst (-1)) 1 89 := ⟨by decide +kernel, rfl⟩
theorem d_c11_thing_89 : gJ b_c11_thing 89 (.if_icmp .ne 13) 3 13 92 102 := ⟨by decide +kernel, rfl, by decide⟩
theorem d_c11_thing_92 : gD b_c11_thing 92 (.aload_n 0) 1 93 := ⟨by decide +kernel, rfl⟩
theorem d_c11_thing_93 : gD b_c11_thing 93 (.aload_n 0) 1 94 := ⟨by decide +kernel, rfl⟩
theorem d_c11_thing_94 : gD b_c11_thing 94 (.getfield 130) 3 97 := ⟨by decide +kernel, rfl⟩
theorem d_c11_thing_97 : gD b_c11_thing 97 (.invokevirtual 151) 3 100 := ⟨by decide +kernel, rfl⟩
theorem d_c11_thing_100 : gD b_c11_thing 100 (.iconst 0) 1 101 := ⟨by decide +kernel, rfl⟩
theorem d_c11_thing_101 : gD b_c11_thing 101 .ireturn 1 102 := ⟨by decide +kernel, rfl⟩
theorem d_c11_thing_102 : gD b_c11_thing 102 (.aload_n 0) 1 103 := ⟨by decide +kernel, rfl⟩
theorem d_c11_thing_103 : gD b_c11_thing 103 .dup 1 104 := ⟨by decide +kernel, rfl⟩
theorem d_c11_thing_104 : gD b_c11_thing 104 (.getfield 130) 3 107 := ⟨by decide +kernel, rfl⟩
theorem d_c11_thing_107 : gD b_c11_thing 107 (.iconst 1) 1 108 := ⟨by decide +kernel, rfl⟩
theorem d_c11_thing_108 : gD b_c11_thing 108 .iadd 1 109 := ⟨by decide +kernel, rfl⟩
theorem d_c11_thing_109 : gD b_c11_thing 109 (.putfield 130) 3 112 := ⟨by decide +kernel, rfl⟩
theorem d_c11_thing_112 : gD b_c11_thing 112 (.aload_n 0) 1 113 := ⟨by decide +kernel, rfl⟩
theorem d_c11_thing_113 : gD b_c11_thing 113 (.getfield 207) 3 116 := ⟨by decide +kernel, rfl⟩
theorem d_c11_thing_116 : gJ b_c11_thing 116 (.ifCond .eq 15) 3 15 119 131 := ⟨by decide +kernel, rfl, by decide⟩
theorem d_c11_thing_119 : gD b_c11_thing 119 (.aload_n 0) 1 120 := ⟨by decide +kernel, rfl⟩
theorem d_c11_thing_120 : gD b_c11_thing 120 (.getfield 43) 3 123 := ⟨by decide +kernel, rfl⟩
theorem d_c11_thing_123 : gD b_c11_thing 123 (.iload_n 2) 1 124 := ⟨by decide +kernel, rfl⟩
theorem d_c11_thing_124 : gD b_c11_thing 124 (.invokestatic 204) 3 127 := ⟨by decide +kernel, rfl⟩
theorem d_c11_thing_127 : gD b_c11_thing 127 .iaload 1 128 := ⟨by decide +kernel, rfl⟩
theorem d_c11_thing_128 : gJ b_c11_thing 128 (.goto 4) 3 4 131 132 := ⟨by decide +kernel, rfl, by decide⟩
theorem d_c11_thing_131 : gD b_c11_thing 131 (.iconst 0) 1 132 := ⟨by decide +kernel, rfl⟩
theorem d_c11_thing_132 : gD b_c11_thing 132 .ireturn 1 133 := ⟨by decide +kernel, rfl⟩
def b_fn_c11_thing (N : Nat) (F : Nat → Nat → Int32 → gH → Option (Int32 × gH)) (a0 : Nat) (x1 : Int32) (h : gH) : Option (Int32 × gH) :=
  (gcl h a0 11).bind fun _ =>
  (f_c11_passes N a0 (45 : Int32) h).bind fun q1 =>
    if q1.1 = 0 then
    (f_c11_fine N a0 q1.2).bind fun q3 =>
    if q3 = 0 then
    some ((0 : Int32), q1.2)
  else
    (f_c11_here N a0 q1.2).bind fun q5 =>
    if q5 = (40 : Int32) then
    if (4 : Int32) ≤ x1 then
    (f_c11_in N q5 (48 : Int32) (57 : Int32) q1.2).bind fun q24 =>
    if q24 = 0 then
    (f_c11_letterOf N q5 q1.2).bind fun q26 =>
    if q26 = (-1 : Int32) then
    (gfI q1.2 a0 11 14).bind fun v37 =>
    (f_c11_fault N a0 v37 q1.2).bind fun q38 =>
    some ((0 : Int32), q38)
  else
    (gfI q1.2 a0 11 14).bind fun v28 =>
    (sf q1.2 a0 11 14 (.int (v28 + (1 : Int32)))).bind fun h29 =>
    (gfI h29 a0 11 20).bind fun v30 =>
    (show Option (Int32) from if v30 = 0 then
    some (0 : Int32)
  else
    (gfR h29 a0 11 21).bind fun v34 =>
    (f_c11_letterOf N q5 h29).bind fun q35 =>
    (ga 0 h29 v34 q35).bind fun v36 =>
    some v36).bind fun t32 =>
    some (t32, h29)
  else
    (f_c11_number N a0 (3 : Int32) q1.2).bind fun q39 =>
    some (q39.1, q39.2)
  else
    (gfI q1.2 a0 11 14).bind fun v40 =>
    (sf q1.2 a0 11 14 (.int (v40 + (1 : Int32)))).bind fun h41 =>
    (F 0 a0 (x1 + (1 : Int32)) h41).bind fun q42 =>
    (f_c11_need N a0 (41 : Int32) q42.2).bind fun q43 =>
    some (q42.1, q43)
  else
    (f_c11_in N q5 (48 : Int32) (57 : Int32) q1.2).bind fun q7 =>
    if q7 = 0 then
    (f_c11_letterOf N q5 q1.2).bind fun q9 =>
    if q9 = (-1 : Int32) then
    (gfI q1.2 a0 11 14).bind fun v20 =>
    (f_c11_fault N a0 v20 q1.2).bind fun q21 =>
    some ((0 : Int32), q21)
  else
    (gfI q1.2 a0 11 14).bind fun v11 =>
    (sf q1.2 a0 11 14 (.int (v11 + (1 : Int32)))).bind fun h12 =>
    (gfI h12 a0 11 20).bind fun v13 =>
    (show Option (Int32) from if v13 = 0 then
    some (0 : Int32)
  else
    (gfR h12 a0 11 21).bind fun v17 =>
    (f_c11_letterOf N q5 h12).bind fun q18 =>
    (ga 0 h12 v17 q18).bind fun v19 =>
    some v19).bind fun t15 =>
    some (t15, h12)
  else
    (f_c11_number N a0 (3 : Int32) q1.2).bind fun q22 =>
    some (q22.1, q22.2)
  else
    (F 3 a0 x1 q1.2).bind fun q44 =>
    some (-q44.1, q44.2)
set_option maxHeartbeats 4000000 in
set_option maxRecDepth 100000 in
theorem cb_c11_thing (l : Launch) (X : gX) (hx : gEx X = false) (N : Nat) {F : Nat → Nat → Int32 → gH → Option (Int32 × gH)} (hF0 : ∀ (a0 : Nat) (x1 : Int32) (h : gH) (q : Int32 × gH), F 0 a0 x1 h = some q → gRc y_c11_held h a0 ∧ gMi l X y_c11_held b_c11_held 3 .int (5 + N) 0 0 [.ref a0, .int x1] h q.1 q.2) (hF1 : ∀ (a0 : Nat) (x1 : Int32) (h : gH) (q : Int32 × gH), F 1 a0 x1 h = some q → gRc y_c11_sum h a0 ∧ gMi l X y_c11_sum b_c11_sum 5 .int (5 + N) 0 0 [.ref a0, .int x1] h q.1 q.2) (hF2 : ∀ (a0 : Nat) (x1 : Int32) (h : gH) (q : Int32 × gH), F 2 a0 x1 h = some q → gRc y_c11_product h a0 ∧ gMi l X y_c11_product b_c11_product 5 .int (5 + N) 0 0 [.ref a0, .int x1] h q.1 q.2) (hF3 : ∀ (a0 : Nat) (x1 : Int32) (h : gH) (q : Int32 × gH), F 3 a0 x1 h = some q → gRc y_c11_thing h a0 ∧ gMi l X y_c11_thing b_c11_thing 4 .int (5 + N) 0 0 [.ref a0, .int x1] h q.1 q.2) (a0 : Nat) (x1 : Int32) (h : gH) (q : Int32 × gH) (hy : b_fn_c11_thing N F a0 x1 h = some q) : gRc y_c11_thing h a0 ∧ gMi l X y_c11_thing b_c11_thing 4 .int (5 + (N + 1)) 0 0 [.ref a0, .int x1] h q.1 q.2 := by
  unfold b_fn_c11_thing at hy
  obtain ⟨u0, e_u0, hy⟩ := gBd hy
  cases u0
  refine ⟨Or.inl ⟨11, _, _, e_u0, rfl⟩, gMet_i (lsx := [(0, .ref a0), (1, .int x1)]) (by decide) rfl rfl ?_⟩
  intro M hMl K hret
  subst hMl
  refine g_aload_n K d_c11_thing_0 0 rfl ?_
  refine g_bipush (v := 45) K d_c11_thing_1 (by decide) ?_
  obtain ⟨q1, e_q1, hy⟩ := gBd hy
  refine g_callVi (rest := []) K hx ly_c11_passes kv_c11_147 d_c11_thing_3 (ct_c11_passes M.2.1 X hx N a0 (45 : Int32) h q1 e_q1) rfl rfl (Nat.le_of_ble_eq_true rfl) (gDepS rfl) ⟨Nat.le_refl 0, Nat.le_refl 0⟩ ?_
  refine g_if_eq K d_c11_thing_6 (fun c2 => ?_) (fun c2 => ?_)
  · rw [if_pos c2] at hy
    refine g_aload_n K d_c11_thing_16 0 rfl ?_
    obtain ⟨q3, e_q3, hy⟩ := gBd hy
    refine g_callVi (rest := []) K hx ly_c11_fine kv_c11_140 d_c11_thing_17 (ct_c11_fine M.2.1 X hx N a0 q1.2 q3 e_q3) rfl rfl (Nat.le_of_ble_eq_true rfl) (gDepS rfl) ⟨Nat.le_refl 0, Nat.le_refl 0⟩ ?_
    refine g_if_ne K d_c11_thing_20 (fun c4 => ?_) (fun c4 => ?_)
    · rw [if_neg c4] at hy
      refine g_aload_n K d_c11_thing_25 0 rfl ?_
      obtain ⟨q5, e_q5, hy⟩ := gBd hy
      refine g_callVi (rest := []) K hx ly_c11_here kv_c11_144 d_c11_thing_26 (ct_c11_here M.2.1 X hx N a0 q1.2 q5 e_q5) rfl rfl (Nat.le_of_ble_eq_true rfl) (gDepS rfl) ⟨Nat.le_refl 0, Nat.le_refl 0⟩ ?_
      refine g_istore_n (ls2 := [(2, .int q5), (0, .ref a0), (1, .int x1)]) K d_c11_thing_29 rfl rfl ?_
      refine g_iload_n K d_c11_thing_30 0 rfl ?_
      refine g_bipush (v := 40) K d_c11_thing_31 (by decide) ?_
      refine g_icmp_ne K d_c11_thing_33 (fun c6 => ?_) (fun c6 => ?_)
      · rw [if_neg c6] at hy
        refine g_iload_n K d_c11_thing_67 0 rfl ?_
        refine g_bipush (v := 48) K d_c11_thing_68 (by decide) ?_
        refine g_bipush (v := 57) K d_c11_thing_70 (by decide) ?_
        obtain ⟨q7, e_q7, hy⟩ := gBd hy
        refine g_callSi (rest := []) K hx ly_c11_in ks_c11_105 d_c11_thing_72 (ct_c11_in M.2.1 X hx N q5 (48 : Int32) (57 : Int32) q1.2 q7 e_q7) rfl rfl (Nat.le_of_ble_eq_true rfl) (gDepS rfl) ⟨Nat.le_refl 0, Nat.le_refl 0⟩ ?_
        refine g_if_eq K d_c11_thing_75 (fun c8 => ?_) (fun c8 => ?_)
        · rw [if_pos c8] at hy
          refine g_iload_n K d_c11_thing_84 0 rfl ?_
          obtain ⟨q9, e_q9, hy⟩ := gBd hy
          refine g_callSi (rest := []) K hx ly_c11_letterOf ks_c11_204 d_c11_thing_85 (ct_c11_letterOf M.2.1 X hx N q5 q1.2 q9 e_q9) rfl rfl (Nat.le_of_ble_eq_true rfl) (gDepS rfl) ⟨Nat.le_refl 0, Nat.le_refl 0⟩ ?_
          refine g_iconst (v := (-1)) K d_c11_thing_88 (by decide) ?_
          refine g_icmp_ne K d_c11_thing_89 (fun c10 => ?_) (fun c10 => ?_)
          · rw [if_neg c10] at hy
            refine g_aload_n K d_c11_thing_102 1 rfl ?_
            refine g_dup K d_c11_thing_103 rfl ?_
            obtain ⟨v11, e_v11, hy⟩ := gBd hy
            refine g_getI K fl_c11_130 d_c11_thing_104 e_v11 ?_
            refine g_iconst (v := 1) K d_c11_thing_107 (by decide) ?_
            refine g_iadd K d_c11_thing_108 ?_
            obtain ⟨h12, e_h12, hy⟩ := gBd hy
            refine g_putI K fp_c11_130 d_c11_thing_109 e_h12 ?_
            refine g_aload_n K d_c11_thing_112 1 rfl ?_
            obtain ⟨v13, e_v13, hy⟩ := gBd hy
            refine g_getI K fl_c11_207 d_c11_thing_113 e_v13 ?_
            obtain ⟨t15, e_t15, hy⟩ := gBd hy
            have hJ16 : gG M X 4 0 0 132 [] [.int t15] h12 := by
              obtain rfl := Option.some.inj hy
              exact hret rfl _ _ _ d_c11_thing_132
            refine g_if_eq K d_c11_thing_116 (fun c14 => ?_) (fun c14 => ?_)
            · rw [if_pos c14] at e_t15
              refine g_iconst (v := 0) K d_c11_thing_131 (by decide) ?_
              refine g_sub (ls2 := []) [] rfl ?_
              obtain rfl := Option.some.inj e_t15
              exact hJ16
            · rw [if_neg c14] at e_t15
              refine g_aload_n K d_c11_thing_119 1 rfl ?_
              obtain ⟨v17, e_v17, e_t15⟩ := gBd e_t15
              refine g_getR K fl_c11_43 d_c11_thing_120 e_v17 ?_
              refine g_iload_n K d_c11_thing_123 0 rfl ?_
              obtain ⟨q18, e_q18, e_t15⟩ := gBd e_t15
              refine g_callSi (rest := [.ref v17]) K hx ly_c11_letterOf ks_c11_204 d_c11_thing_124 (ct_c11_letterOf M.2.1 X hx N q5 h12 q18 e_q18) rfl rfl (Nat.le_of_ble_eq_true rfl) (gDepS rfl) ⟨Nat.le_refl 0, Nat.le_refl 0⟩ ?_
              obtain ⟨v19, e_v19, e_t15⟩ := gBd e_t15
              refine g_iald K d_c11_thing_127 e_v19 ?_
              refine g_goto K d_c11_thing_128 ?_
              refine g_sub (ls2 := []) [] rfl ?_
              obtain rfl := Option.some.inj e_t15
              exact hJ16
          · rw [if_pos c10] at hy
            refine g_aload_n K d_c11_thing_92 1 rfl ?_
            refine g_aload_n K d_c11_thing_93 1 rfl ?_
            obtain ⟨v20, e_v20, hy⟩ := gBd hy
            refine g_getI K fl_c11_130 d_c11_thing_94 e_v20 ?_
            obtain ⟨q21, e_q21, hy⟩ := gBd hy
            refine g_callVv (rest := []) K hx ly_c11_fault kv_c11_151 d_c11_thing_97 (ct_c11_fault M.2.1 X hx N a0 v20 q1.2 q21 e_q21) rfl rfl (Nat.le_of_ble_eq_true rfl) (gDepS rfl) ⟨Nat.le_refl 0, Nat.le_refl 0⟩ ?_
            refine g_iconst (v := 0) K d_c11_thing_100 (by decide) ?_
            obtain rfl := Option.some.inj hy
            exact hret rfl _ _ _ d_c11_thing_101
        · rw [if_neg c8] at hy
          refine g_aload_n K d_c11_thing_78 1 rfl ?_
          refine g_iconst (v := 3) K d_c11_thing_79 (by decide) ?_
          obtain ⟨q22, e_q22, hy⟩ := gBd hy
          refine g_callVi (rest := []) K hx ly_c11_number kv_c11_201 d_c11_thing_80 (ct_c11_number M.2.1 X hx N a0 (3 : Int32) q1.2 q22 e_q22) rfl rfl (Nat.le_of_ble_eq_true rfl) (gDepS rfl) ⟨Nat.le_refl 0, Nat.le_refl 0⟩ ?_
          obtain rfl := Option.some.inj hy
          exact hret rfl _ _ _ d_c11_thing_83
      · rw [if_pos c6] at hy
        refine g_iload_n K d_c11_thing_36 2 rfl ?_
        refine g_iconst (v := 4) K d_c11_thing_37 (by decide) ?_
        refine g_icmp_ge K d_c11_thing_38 (fun c23 => ?_) (fun c23 => ?_)
        · rw [if_pos c23] at hy
          refine g_iload_n K d_c11_thing_67 0 rfl ?_
          refine g_bipush (v := 48) K d_c11_thing_68 (by decide) ?_
          refine g_bipush (v := 57) K d_c11_thing_70 (by decide) ?_
          obtain ⟨q24, e_q24, hy⟩ := gBd hy
          refine g_callSi (rest := []) K hx ly_c11_in ks_c11_105 d_c11_thing_72 (ct_c11_in M.2.1 X hx N q5 (48 : Int32) (57 : Int32) q1.2 q24 e_q24) rfl rfl (Nat.le_of_ble_eq_true rfl) (gDepS rfl) ⟨Nat.le_refl 0, Nat.le_refl 0⟩ ?_
          refine g_if_eq K d_c11_thing_75 (fun c25 => ?_) (fun c25 => ?_)
          · rw [if_pos c25] at hy
            refine g_iload_n K d_c11_thing_84 0 rfl ?_
            obtain ⟨q26, e_q26, hy⟩ := gBd hy
            refine g_callSi (rest := []) K hx ly_c11_letterOf ks_c11_204 d_c11_thing_85 (ct_c11_letterOf M.2.1 X hx N q5 q1.2 q26 e_q26) rfl rfl (Nat.le_of_ble_eq_true rfl) (gDepS rfl) ⟨Nat.le_refl 0, Nat.le_refl 0⟩ ?_
            refine g_iconst (v := (-1)) K d_c11_thing_88 (by decide) ?_
            refine g_icmp_ne K d_c11_thing_89 (fun c27 => ?_) (fun c27 => ?_)
            · rw [if_neg c27] at hy
              refine g_aload_n K d_c11_thing_102 1 rfl ?_
              refine g_dup K d_c11_thing_103 rfl ?_
              obtain ⟨v28, e_v28, hy⟩ := gBd hy
              refine g_getI K fl_c11_130 d_c11_thing_104 e_v28 ?_
              refine g_iconst (v := 1) K d_c11_thing_107 (by decide) ?_
              refine g_iadd K d_c11_thing_108 ?_
              obtain ⟨h29, e_h29, hy⟩ := gBd hy
              refine g_putI K fp_c11_130 d_c11_thing_109 e_h29 ?_
              refine g_aload_n K d_c11_thing_112 1 rfl ?_
              obtain ⟨v30, e_v30, hy⟩ := gBd hy
              refine g_getI K fl_c11_207 d_c11_thing_113 e_v30 ?_
              obtain ⟨t32, e_t32, hy⟩ := gBd hy
              have hJ33 : gG M X 4 0 0 132 [] [.int t32] h29 := by
                obtain rfl := Option.some.inj hy
                exact hret rfl _ _ _ d_c11_thing_132
              refine g_if_eq K d_c11_thing_116 (fun c31 => ?_) (fun c31 => ?_)
              · rw [if_pos c31] at e_t32
                refine g_iconst (v := 0) K d_c11_thing_131 (by decide) ?_
                refine g_sub (ls2 := []) [] rfl ?_
                obtain rfl := Option.some.inj e_t32
                exact hJ33
              · rw [if_neg c31] at e_t32
                refine g_aload_n K d_c11_thing_119 1 rfl ?_
                obtain ⟨v34, e_v34, e_t32⟩ := gBd e_t32
                refine g_getR K fl_c11_43 d_c11_thing_120 e_v34 ?_
                refine g_iload_n K d_c11_thing_123 0 rfl ?_
                obtain ⟨q35, e_q35, e_t32⟩ := gBd e_t32
                refine g_callSi (rest := [.ref v34]) K hx ly_c11_letterOf ks_c11_204 d_c11_thing_124 (ct_c11_letterOf M.2.1 X hx N q5 h29 q35 e_q35) rfl rfl (Nat.le_of_ble_eq_true rfl) (gDepS rfl) ⟨Nat.le_refl 0, Nat.le_refl 0⟩ ?_
                obtain ⟨v36, e_v36, e_t32⟩ := gBd e_t32
                refine g_iald K d_c11_thing_127 e_v36 ?_
                refine g_goto K d_c11_thing_128 ?_
                refine g_sub (ls2 := []) [] rfl ?_
                obtain rfl := Option.some.inj e_t32
                exact hJ33
            · rw [if_pos c27] at hy
              refine g_aload_n K d_c11_thing_92 1 rfl ?_
              refine g_aload_n K d_c11_thing_93 1 rfl ?_
              obtain ⟨v37, e_v37, hy⟩ := gBd hy
              refine g_getI K fl_c11_130 d_c11_thing_94 e_v37 ?_
              obtain ⟨q38, e_q38, hy⟩ := gBd hy
              refine g_callVv (rest := []) K hx ly_c11_fault kv_c11_151 d_c11_thing_97 (ct_c11_fault M.2.1 X hx N a0 v37 q1.2 q38 e_q38) rfl rfl (Nat.le_of_ble_eq_true rfl) (gDepS rfl) ⟨Nat.le_refl 0, Nat.le_refl 0⟩ ?_
              refine g_iconst (v := 0) K d_c11_thing_100 (by decide) ?_
              obtain rfl := Option.some.inj hy
              exact hret rfl _ _ _ d_c11_thing_101
          · rw [if_neg c25] at hy
            refine g_aload_n K d_c11_thing_78 1 rfl ?_
            refine g_iconst (v := 3) K d_c11_thing_79 (by decide) ?_
            obtain ⟨q39, e_q39, hy⟩ := gBd hy
            refine g_callVi (rest := []) K hx ly_c11_number kv_c11_201 d_c11_thing_80 (ct_c11_number M.2.1 X hx N a0 (3 : Int32) q1.2 q39 e_q39) rfl rfl (Nat.le_of_ble_eq_true rfl) (gDepS rfl) ⟨Nat.le_refl 0, Nat.le_refl 0⟩ ?_
            obtain rfl := Option.some.inj hy
            exact hret rfl _ _ _ d_c11_thing_83
        · rw [if_neg c23] at hy
          refine g_aload_n K d_c11_thing_41 1 rfl ?_
          refine g_dup K d_c11_thing_42 rfl ?_
          obtain ⟨v40, e_v40, hy⟩ := gBd hy
          refine g_getI K fl_c11_130 d_c11_thing_43 e_v40 ?_
          refine g_iconst (v := 1) K d_c11_thing_46 (by decide) ?_
          refine g_iadd K d_c11_thing_47 ?_
          obtain ⟨h41, e_h41, hy⟩ := gBd hy
          refine g_putI K fp_c11_130 d_c11_thing_48 e_h41 ?_
          refine g_aload_n K d_c11_thing_51 1 rfl ?_
          refine g_iload_n K d_c11_thing_52 2 rfl ?_
          refine g_iconst (v := 1) K d_c11_thing_53 (by decide) ?_
          refine g_iadd K d_c11_thing_54 ?_
          obtain ⟨q42, e_q42, hy⟩ := gBd hy
          refine g_callVi (rest := []) K hx ly_c11_held kv_c11_194 d_c11_thing_55 (hF0 a0 (x1 + (1 : Int32)) h41 q42 e_q42) rfl rfl (Nat.le_of_ble_eq_true rfl) (gDepR rfl) ⟨Nat.le_refl 0, Nat.le_refl 0⟩ ?_
          refine g_istore_n (ls2 := [(3, .int q42.1), (2, .int q5), (0, .ref a0), (1, .int x1)]) K d_c11_thing_58 rfl rfl ?_
          refine g_aload_n K d_c11_thing_59 2 rfl ?_
          refine g_bipush (v := 41) K d_c11_thing_60 (by decide) ?_
          obtain ⟨q43, e_q43, hy⟩ := gBd hy
          refine g_callVv (rest := []) K hx ly_c11_need kv_c11_197 d_c11_thing_62 (ct_c11_need M.2.1 X hx N a0 (41 : Int32) q42.2 q43 e_q43) rfl rfl (Nat.le_of_ble_eq_true rfl) (gDepS rfl) ⟨Nat.le_refl 0, Nat.le_refl 0⟩ ?_
          refine g_iload_n K d_c11_thing_65 0 rfl ?_
          obtain rfl := Option.some.inj hy
          exact hret rfl _ _ _ d_c11_thing_66
    · rw [if_pos c4] at hy
      refine g_iconst (v := 0) K d_c11_thing_23 (by decide) ?_
      obtain rfl := Option.some.inj hy
      exact hret rfl _ _ _ d_c11_thing_24
  · rw [if_neg c2] at hy
    refine g_aload_n K d_c11_thing_9 0 rfl ?_
    refine g_iload_n K d_c11_thing_10 1 rfl ?_
    obtain ⟨q44, e_q44, hy⟩ := gBd hy
    refine g_callVi (rest := []) K hx ly_c11_thing kv_c11_191 d_c11_thing_11 (hF3 a0 x1 q1.2 q44 e_q44) rfl rfl (Nat.le_of_ble_eq_true rfl) (gDepR rfl) ⟨Nat.le_refl 0, Nat.le_refl 0⟩ ?_
    refine g_ineg K d_c11_thing_14 ?_
    obtain rfl := Option.some.inj hy
    exact hret rfl _ _ _ d_c11_thing_15
def F_rule : Nat → Nat → Nat → Int32 → gH → Option (Int32 × gH)
  | 0, _, _, _, _ => none
  | N + 1, s, a0, x1, h => if s = 0 then b_fn_c11_held N (F_rule N) a0 x1 h else if s = 1 then b_fn_c11_sum N (F_rule N) a0 x1 h else if s = 2 then b_fn_c11_product N (F_rule N) a0 x1 h else b_fn_c11_thing N (F_rule N) a0 x1 h
def f_c11_held (N : Nat) (a0 : Nat) (x1 : Int32) (h : gH) : Option (Int32 × gH) := F_rule N 0 a0 x1 h
def f_c11_sum (N : Nat) (a0 : Nat) (x1 : Int32) (h : gH) : Option (Int32 × gH) := F_rule N 1 a0 x1 h
def f_c11_product (N : Nat) (a0 : Nat) (x1 : Int32) (h : gH) : Option (Int32 × gH) := F_rule N 2 a0 x1 h
def f_c11_thing (N : Nat) (a0 : Nat) (x1 : Int32) (h : gH) : Option (Int32 × gH) := F_rule N 3 a0 x1 h
theorem F_rule_ct (l : Launch) (X : gX) (hx : gEx X = false) : ∀ (N : Nat), (∀ (a0 : Nat) (x1 : Int32) (h : gH) (q : Int32 × gH), F_rule N 0 a0 x1 h = some q → gRc y_c11_held h a0 ∧ gMi l X y_c11_held b_c11_held 3 .int (5 + N) 0 0 [.ref a0, .int x1] h q.1 q.2) ∧ (∀ (a0 : Nat) (x1 : Int32) (h : gH) (q : Int32 × gH), F_rule N 1 a0 x1 h = some q → gRc y_c11_sum h a0 ∧ gMi l X y_c11_sum b_c11_sum 5 .int (5 + N) 0 0 [.ref a0, .int x1] h q.1 q.2) ∧ (∀ (a0 : Nat) (x1 : Int32) (h : gH) (q : Int32 × gH), F_rule N 2 a0 x1 h = some q → gRc y_c11_product h a0 ∧ gMi l X y_c11_product b_c11_product 5 .int (5 + N) 0 0 [.ref a0, .int x1] h q.1 q.2) ∧ (∀ (a0 : Nat) (x1 : Int32) (h : gH) (q : Int32 × gH), F_rule N 3 a0 x1 h = some q → gRc y_c11_thing h a0 ∧ gMi l X y_c11_thing b_c11_thing 4 .int (5 + N) 0 0 [.ref a0, .int x1] h q.1 q.2) := by
  intro N
  induction N with
  | zero => exact ⟨fun a0 x1 h q hy => (by rw [F_rule.eq_1] at hy; cases hy), fun a0 x1 h q hy => (by rw [F_rule.eq_1] at hy; cases hy), fun a0 x1 h q hy => (by rw [F_rule.eq_1] at hy; cases hy), fun a0 x1 h q hy => (by rw [F_rule.eq_1] at hy; cases hy)⟩
  | succ N ih =>
    obtain ⟨i0, i1, i2, i3⟩ := ih
    exact ⟨fun a0 x1 h q hy => (by rw [F_rule.eq_2] at hy; rw [if_pos rfl] at hy; exact cb_c11_held l X hx N i0 i1 i2 i3 a0 x1 h q hy), fun a0 x1 h q hy => (by rw [F_rule.eq_2] at hy; rw [if_neg (by decide), if_pos rfl] at hy; exact cb_c11_sum l X hx N i0 i1 i2 i3 a0 x1 h q hy), fun a0 x1 h q hy => (by rw [F_rule.eq_2] at hy; rw [if_neg (by decide), if_neg (by decide), if_pos rfl] at hy; exact cb_c11_product l X hx N i0 i1 i2 i3 a0 x1 h q hy), fun a0 x1 h q hy => (by rw [F_rule.eq_2] at hy; rw [if_neg (by decide), if_neg (by decide), if_neg (by decide)] at hy; exact cb_c11_thing l X hx N i0 i1 i2 i3 a0 x1 h q hy)⟩
theorem ct_c11_held (l : Launch) (X : gX) (hx : gEx X = false) (N : Nat) (a0 : Nat) (x1 : Int32) (h : gH) (q : Int32 × gH) (hy : f_c11_held N a0 x1 h = some q) : gRc y_c11_held h a0 ∧ gMi l X y_c11_held b_c11_held 3 .int (5 + N) 0 0 [.ref a0, .int x1] h q.1 q.2 := (F_rule_ct l X hx N).1 a0 x1 h q hy
theorem ct_c11_sum (l : Launch) (X : gX) (hx : gEx X = false) (N : Nat) (a0 : Nat) (x1 : Int32) (h : gH) (q : Int32 × gH) (hy : f_c11_sum N a0 x1 h = some q) : gRc y_c11_sum h a0 ∧ gMi l X y_c11_sum b_c11_sum 5 .int (5 + N) 0 0 [.ref a0, .int x1] h q.1 q.2 := (F_rule_ct l X hx N).2.1 a0 x1 h q hy
theorem ct_c11_product (l : Launch) (X : gX) (hx : gEx X = false) (N : Nat) (a0 : Nat) (x1 : Int32) (h : gH) (q : Int32 × gH) (hy : f_c11_product N a0 x1 h = some q) : gRc y_c11_product h a0 ∧ gMi l X y_c11_product b_c11_product 5 .int (5 + N) 0 0 [.ref a0, .int x1] h q.1 q.2 := (F_rule_ct l X hx N).2.2.1 a0 x1 h q hy
theorem ct_c11_thing (l : Launch) (X : gX) (hx : gEx X = false) (N : Nat) (a0 : Nat) (x1 : Int32) (h : gH) (q : Int32 × gH) (hy : f_c11_thing N a0 x1 h = some q) : gRc y_c11_thing h a0 ∧ gMi l X y_c11_thing b_c11_thing 4 .int (5 + N) 0 0 [.ref a0, .int x1] h q.1 q.2 := (F_rule_ct l X hx N).2.2.2 a0 x1 h q hy
-- c11 wells
theorem d_c11_wells_0 : gD b_c11_wells 0 (.aload_n 0) 1 1 := ⟨by decide +kernel, rfl⟩
theorem d_c11_wells_1 : gD b_c11_wells 1 (.iconst 0) 1 2 := ⟨by decide +kernel, rfl⟩
theorem d_c11_wells_2 : gD b_c11_wells 2 (.putfield 95) 3 5 := ⟨by decide +kernel, rfl⟩
theorem d_c11_wells_5 : gD b_c11_wells 5 (.aload_n 0) 1 6 := ⟨by decide +kernel, rfl⟩
theorem d_c11_wells_6 : gD b_c11_wells 6 (.bipush 39) 2 8 := ⟨by decide +kernel, rfl⟩
theorem d_c11_wells_8 : gD b_c11_wells 8 (.invokevirtual 165) 3 11 := ⟨by decide +kernel, rfl⟩
theorem d_c11_wells_11 : gD b_c11_wells 11 (.aload_n 0) 1 12 := ⟨by decide +kernel, rfl⟩
theorem d_c11_wells_12 : gD b_c11_wells 12 (.getfield 124) 3 15 := ⟨by decide +kernel, rfl⟩
theorem d_c11_wells_15 : gJ b_c11_wells 15 (.ifCond .ne 5) 3 5 18 20 := ⟨by decide +kernel, rfl, by decide⟩
theorem d_c11_wells_18 : gD b_c11_wells 18 (.iconst 0) 1 19 := ⟨by decide +kernel, rfl⟩
theorem d_c11_wells_19 : gD b_c11_wells 19 .ireturn 1 20 := ⟨by decide +kernel, rfl⟩
theorem d_c11_wells_20 : gD b_c11_wells 20 (.iconst 0) 1 21 := ⟨by decide +kernel, rfl⟩
theorem d_c11_wells_21 : gD b_c11_wells 21 (.istore_n 1) 1 22 := ⟨by decide +kernel, rfl⟩
theorem d_c11_wells_22 : gD b_c11_wells 22 (.iconst 1) 1 23 := ⟨by decide +kernel, rfl⟩
theorem d_c11_wells_23 : gD b_c11_wells 23 (.istore_n 2) 1 24 := ⟨by decide +kernel, rfl⟩
theorem d_c11_wells_24 : gD b_c11_wells 24 (.iload_n 2) 1 25 := ⟨by decide +kernel, rfl⟩
theorem d_c11_wells_25 : gJ b_c11_wells 25 (.ifCond .eq 53) 3 53 28 78 := ⟨by decide +kernel, rfl, by decide⟩
theorem d_c11_wells_28 : gD b_c11_wells 28 (.aload_n 0) 1 29 := ⟨by decide +kernel, rfl⟩
theorem d_c11_wells_29 : gD b_c11_wells 29 (.invokevirtual 140) 3 32 := ⟨by decide +kernel, rfl⟩
theorem d_c11_wells_32 : gJ b_c11_wells 32 (.ifCond .eq 46) 3 46 35 78 := ⟨by decide +kernel, rfl, by decide⟩
theorem d_c11_wells_35 : gD b_c11_wells 35 (.aload_n 0) 1 36 := ⟨by decide +kernel, rfl⟩
theorem d_c11_wells_36 : gD b_c11_wells 36 (.getfield 9) 3 39 := ⟨by decide +kernel, rfl⟩
theorem d_c11_wells_39 : gD b_c11_wells 39 (.bipush 40) 2 41 := ⟨by decide +kernel, rfl⟩
theorem d_c11_wells_41 : gD b_c11_wells 41 .iaload 1 42 := ⟨by decide +kernel, rfl⟩
theorem d_c11_wells_42 : gD b_c11_wells 42 (.iload_n 1) 1 43 := ⟨by decide +kernel, rfl⟩
theorem d_c11_wells_43 : gD b_c11_wells 43 .iadd 1 44 := ⟨by decide +kernel, rfl⟩
theorem d_c11_wells_44 : gD b_c11_wells 44 (.bipush 8) 2 46 := ⟨by decide +kernel, rfl⟩
theorem d_c11_wells_46 : gJ b_c11_wells 46 (.if_icmp .ne 14) 3 14 49 60 := ⟨by decide +kernel, rfl, by decide⟩
theorem d_c11_wells_49 : gD b_c11_wells 49 (.aload_n 0) 1 50 := ⟨by decide +kernel, rfl⟩
theorem d_c11_wells_50 : gD b_c11_wells 50 (.aload_n 0) 1 51 := ⟨by decide +kernel, rfl⟩
theorem d_c11_wells_51 : gD b_c11_wells 51 (.getfield 130) 3 54 := ⟨by decide +kernel, rfl⟩
theorem d_c11_wells_54 : gD b_c11_wells 54 (.invokevirtual 151) 3 57 := ⟨by decide +kernel, rfl⟩
theorem d_c11_wells_57 : gJ b_c11_wells 57 (.goto 8) 3 8 60 65 := ⟨by decide +kernel, rfl, by decide⟩
theorem d_c11_wells_60 : gD b_c11_wells 60 (.aload_n 0) 1 61 := ⟨by decide +kernel, rfl⟩
theorem d_c11_wells_61 : gD b_c11_wells 61 (.iload_n 1) 1 62 := ⟨by decide +kernel, rfl⟩
theorem d_c11_wells_62 : gD b_c11_wells 62 (.invokevirtual 178) 3 65 := ⟨by decide +kernel, rfl⟩
theorem d_c11_wells_65 : gD b_c11_wells 65 (.iinc 1 1) 3 68 := ⟨by decide +kernel, rfl⟩
theorem d_c11_wells_68 : gD b_c11_wells 68 (.aload_n 0) 1 69 := ⟨by decide +kernel, rfl⟩
theorem d_c11_wells_69 : gD b_c11_wells 69 (.bipush 59) 2 71 := ⟨by decide +kernel, rfl⟩
theorem d_c11_wells_71 : gD b_c11_wells 71 (.invokevirtual 147) 3 74 := ⟨by decide +kernel, rfl⟩
theorem d_c11_wells_74 : gD b_c11_wells 74 (.istore_n 2) 1 75 := ⟨by decide +kernel, rfl⟩
theorem d_c11_wells_75 : gJ b_c11_wells 75 (.goto (-51)) 3 (-51) 78 24 := ⟨by decide +kernel, rfl, by decide⟩
theorem d_c11_wells_78 : gD b_c11_wells 78 (.aload_n 0) 1 79 := ⟨by decide +kernel, rfl⟩
theorem d_c11_wells_79 : gD b_c11_wells 79 (.invokevirtual 168) 3 82 := ⟨by decide +kernel, rfl⟩
theorem d_c11_wells_82 : gJ b_c11_wells 82 (.ifCond .ne 10) 3 10 85 92 := ⟨by decide +kernel, rfl, by decide⟩
theorem d_c11_wells_85 : gD b_c11_wells 85 (.iconst (-1)) 1 86 := ⟨by decide +kernel, rfl⟩
theorem d_c11_wells_86 : gD b_c11_wells 86 (.aload_n 0) 1 87 := ⟨by decide +kernel, rfl⟩
theorem d_c11_wells_87 : gD b_c11_wells 87 (.getfield 133) 3 90 := ⟨by decide +kernel, rfl⟩
theorem d_c11_wells_90 : gD b_c11_wells 90 .isub 1 91 := ⟨by decide +kernel, rfl⟩
theorem d_c11_wells_91 : gD b_c11_wells 91 .ireturn 1 92 := ⟨by decide +kernel, rfl⟩
theorem d_c11_wells_92 : gD b_c11_wells 92 (.iconst 0) 1 93 := ⟨by decide +kernel, rfl⟩
theorem d_c11_wells_93 : gD b_c11_wells 93 (.istore_n 3) 1 94 := ⟨by decide +kernel, rfl⟩
theorem d_c11_wells_94 : gD b_c11_wells 94 (.iload_n 3) 1 95 := ⟨by decide +kernel, rfl⟩
theorem d_c11_wells_95 : gD b_c11_wells 95 (.iload_n 1) 1 96 := ⟨by decide +kernel, rfl⟩
theorem d_c11_wells_96 : gJ b_c11_wells 96 (.if_icmp .ge 44) 3 44 99 140 := ⟨by decide +kernel, rfl, by decide⟩
theorem d_c11_wells_99 : gD b_c11_wells 99 (.aload_n 0) 1 100 := ⟨by decide +kernel, rfl⟩
theorem d_c11_wells_100 : gD b_c11_wells 100 (.getfield 9) 3 103 := ⟨by decide +kernel, rfl⟩
theorem d_c11_wells_103 : gD b_c11_wells 103 (.aload_n 0) 1 104 := ⟨by decide +kernel, rfl⟩
theorem d_c11_wells_104 : gD b_c11_wells 104 (.getfield 34) 3 107 := ⟨by decide +kernel, rfl⟩
theorem d_c11_wells_107 : gD b_c11_wells 107 (.iconst 3) 1 108 := ⟨by decide +kernel, rfl⟩
theorem d_c11_wells_108 : gD b_c11_wells 108 (.iload_n 3) 1 109 := ⟨by decide +kernel, rfl⟩
theorem d_c11_wells_109 : gD b_c11_wells 109 .imul 1 110 := ⟨by decide +kernel, rfl⟩
theorem d_c11_wells_110 : gD b_c11_wells 110 .iaload 1 111 := ⟨by decide +kernel, rfl⟩
theorem d_c11_wells_111 : gD b_c11_wells 111 (.aload_n 0) 1 112 := ⟨by decide +kernel, rfl⟩
theorem d_c11_wells_112 : gD b_c11_wells 112 (.getfield 34) 3 115 := ⟨by decide +kernel, rfl⟩
theorem d_c11_wells_115 : gD b_c11_wells 115 (.iconst 3) 1 116 := ⟨by decide +kernel, rfl⟩
theorem d_c11_wells_116 : gD b_c11_wells 116 (.iload_n 3) 1 117 := ⟨by decide +kernel, rfl⟩
theorem d_c11_wells_117 : gD b_c11_wells 117 .imul 1 118 := ⟨by decide +kernel, rfl⟩
theorem d_c11_wells_118 : gD b_c11_wells 118 (.iconst 1) 1 119 := ⟨by decide +kernel, rfl⟩
theorem d_c11_wells_119 : gD b_c11_wells 119 .iadd 1 120 := ⟨by decide +kernel, rfl⟩
theorem d_c11_wells_120 : gD b_c11_wells 120 .iaload 1 121 := ⟨by decide +kernel, rfl⟩
theorem d_c11_wells_121 : gD b_c11_wells 121 (.aload_n 0) 1 122 := ⟨by decide +kernel, rfl⟩
theorem d_c11_wells_122 : gD b_c11_wells 122 (.getfield 34) 3 125 := ⟨by decide +kernel, rfl⟩
theorem d_c11_wells_125 : gD b_c11_wells 125 (.iconst 3) 1 126 := ⟨by decide +kernel, rfl⟩
theorem d_c11_wells_126 : gD b_c11_wells 126 (.iload_n 3) 1 127 := ⟨by decide +kernel, rfl⟩
theorem d_c11_wells_127 : gD b_c11_wells 127 .imul 1 128 := ⟨by decide +kernel, rfl⟩
theorem d_c11_wells_128 : gD b_c11_wells 128 (.iconst 2) 1 129 := ⟨by decide +kernel, rfl⟩
theorem d_c11_wells_129 : gD b_c11_wells 129 .iadd 1 130 := ⟨by decide +kernel, rfl⟩
theorem d_c11_wells_130 : gD b_c11_wells 130 .iaload 1 131 := ⟨by decide +kernel, rfl⟩
theorem d_c11_wells_131 : gD b_c11_wells 131 (.invokestatic 181) 3 134 := ⟨by decide +kernel, rfl⟩
theorem d_c11_wells_134 : gD b_c11_wells 134 (.iinc 3 1) 3 137 := ⟨by decide +kernel, rfl⟩
theorem d_c11_wells_137 : gJ b_c11_wells 137 (.goto (-43)) 3 (-43) 140 94 := ⟨by decide +kernel, rfl, by decide⟩
theorem d_c11_wells_140 : gD b_c11_wells 140 (.aload_n 0) 1 141 := ⟨by decide +kernel, rfl⟩
theorem d_c11_wells_141 : gD b_c11_wells 141 (.invokevirtual 171) 3 144 := ⟨by decide +kernel, rfl⟩
theorem d_c11_wells_144 : gD b_c11_wells 144 (.iload_n 1) 1 145 := ⟨by decide +kernel, rfl⟩
theorem d_c11_wells_145 : gD b_c11_wells 145 .ireturn 1 146 := ⟨by decide +kernel, rfl⟩
def lp_c11_wells_24 (N : Nat) (a0 : Nat) : Nat → Int32 → Int32 → gH → Option (Int32 × gH)
  | 0, _, _, _ => none
  | k + 1, x1, x2, h =>
  if x2 = 0 then
    some (x1, h)
  else
    (f_c11_fine N a0 h).bind fun q6 =>
    if q6 = 0 then
    some (x1, h)
  else
    (gfR h a0 11 0).bind fun v8 =>
    (ga 0 h v8 (40 : Int32)).bind fun v9 =>
    (show Option (gH) from if (v9 + x1) = (8 : Int32) then
    (gfI h a0 11 14).bind fun v15 =>
    (f_c11_fault N a0 v15 h).bind fun q16 =>
    some q16
  else
    (f_c11_readWell N a0 x1 h).bind fun q14 =>
    some q14).bind fun t11 =>
    (f_c11_passes N a0 (59 : Int32) t11).bind fun q13 =>
    lp_c11_wells_24 N a0 k (x1 + (1 : Int32)) q13.1 q13.2
def lp_c11_wells_94 (N : Nat) (a0 : Nat) (x1 : Int32) : Nat → Int32 → gH → Option (gH)
  | 0, _, _ => none
  | k + 1, x3, h =>
  if x1 ≤ x3 then
    some h
  else
    (gfR h a0 11 0).bind fun v21 =>
    (gfR h a0 11 16).bind fun v22 =>
    (ga 0 h v22 ((3 : Int32) * x3)).bind fun v23 =>
    (gfR h a0 11 16).bind fun v24 =>
    (ga 0 h v24 (((3 : Int32) * x3) + (1 : Int32))).bind fun v25 =>
    (gfR h a0 11 16).bind fun v26 =>
    (ga 0 h v26 (((3 : Int32) * x3) + (2 : Int32))).bind fun v27 =>
    (f_c11_add N v21 v23 v25 v27 h).bind fun q28 =>
    lp_c11_wells_94 N a0 x1 k (x3 + (1 : Int32)) q28
def f_c11_wells (N : Nat) (a0 : Nat) (h : gH) : Option (Int32 × gH) :=
  (gcl h a0 11).bind fun _ =>
  (sf h a0 11 10 (.int (0 : Int32))).bind fun h1 =>
    (f_c11_beginText N a0 (39 : Int32) h1).bind fun q2 =>
    (gfI q2 a0 11 12).bind fun v3 =>
    if v3 = 0 then
    some ((0 : Int32), q2)
  else
    (lp_c11_wells_24 N a0 N (0 : Int32) (1 : Int32) q2).bind fun o17 =>
    (f_c11_wasRight N a0 o17.2).bind fun q18 =>
    if q18.1 = 0 then
    (gfI q18.2 a0 11 15).bind fun v31 =>
    some ((-1 : Int32) - v31, q18.2)
  else
    (lp_c11_wells_94 N a0 o17.1 N (0 : Int32) q18.2).bind fun o29 =>
    (f_c11_told N a0 o29).bind fun q30 =>
    some (o17.1, q30)
set_option maxHeartbeats 4000000 in
set_option maxRecDepth 100000 in
theorem wlp_c11_wells_24 {M : gM} {X : gX} {N : Nat} (hx : gEx X = false) (K : gC M X gN11 b_c11_wells 4 (gRm (5 + N) 0 0)) (a0 : Nat) : ∀ (k : Nat) (x1 : Int32) (x2 : Int32) (h : gH) (o : Int32 × gH), lp_c11_wells_24 N a0 k x1 x2 h = some o → gG M X 4 0 0 78 [(0, .ref a0), (1, .int o.1)] [] o.2 → gG M X 4 0 0 24 [(0, .ref a0), (1, .int x1), (2, .int x2)] [] h := by
  intro k
  induction k with
  | zero =>
    intro x1 x2 h o hy
    rw [lp_c11_wells_24.eq_1] at hy
    cases hy
  | succ k ih =>
    intro x1 x2 h o hy hE
    rw [lp_c11_wells_24.eq_2] at hy
    refine g_iload_n K d_c11_wells_24 2 rfl ?_
    refine g_if_eq K d_c11_wells_25 (fun c5 => ?_) (fun c5 => ?_)
    · rw [if_pos c5] at hy
      refine g_sub (ls2 := [(0, .ref a0), (1, .int x1)]) [0, 1] rfl ?_
      obtain rfl := Option.some.inj hy
      exact hE
    · rw [if_neg c5] at hy
      refine g_aload_n K d_c11_wells_28 0 rfl ?_
      obtain ⟨q6, e_q6, hy⟩ := gBd hy
      refine g_callVi (rest := []) K hx ly_c11_fine kv_c11_140 d_c11_wells_29 (ct_c11_fine M.2.1 X hx N a0 h q6 e_q6) rfl rfl (Nat.le_of_ble_eq_true rfl) (gDep rfl) ⟨Nat.le_refl 0, Nat.le_refl 0⟩ ?_
      refine g_if_eq K d_c11_wells_32 (fun c7 => ?_) (fun c7 => ?_)
      · rw [if_pos c7] at hy
        refine g_sub (ls2 := [(0, .ref a0), (1, .int x1)]) [0, 1] rfl ?_
        obtain rfl := Option.some.inj hy
        exact hE
      · rw [if_neg c7] at hy
        refine g_aload_n K d_c11_wells_35 0 rfl ?_
        obtain ⟨v8, e_v8, hy⟩ := gBd hy
        refine g_getR K fl_c11_9 d_c11_wells_36 e_v8 ?_
        refine g_bipush (v := 40) K d_c11_wells_39 (by decide) ?_
        obtain ⟨v9, e_v9, hy⟩ := gBd hy
        refine g_iald K d_c11_wells_41 e_v9 ?_
        refine g_iload_n K d_c11_wells_42 1 rfl ?_
        refine g_iadd K d_c11_wells_43 ?_
        refine g_bipush (v := 8) K d_c11_wells_44 (by decide) ?_
        obtain ⟨t11, e_t11, hy⟩ := gBd hy
        have hJ12 : gG M X 4 0 0 65 [(0, .ref a0), (1, .int x1)] [] t11 := by
          refine g_iinc (ls2 := [(1, .int (x1 + (1 : Int32))), (0, .ref a0)]) (v := 1) K d_c11_wells_65 1 rfl (by decide) rfl rfl ?_
          refine g_aload_n K d_c11_wells_68 1 rfl ?_
          refine g_bipush (v := 59) K d_c11_wells_69 (by decide) ?_
          obtain ⟨q13, e_q13, hy⟩ := gBd hy
          refine g_callVi (rest := []) K hx ly_c11_passes kv_c11_147 d_c11_wells_71 (ct_c11_passes M.2.1 X hx N a0 (59 : Int32) t11 q13 e_q13) rfl rfl (Nat.le_of_ble_eq_true rfl) (gDep rfl) ⟨Nat.le_refl 0, Nat.le_refl 0⟩ ?_
          refine g_istore_n (ls2 := [(2, .int q13.1), (1, .int (x1 + (1 : Int32))), (0, .ref a0)]) K d_c11_wells_74 rfl rfl ?_
          refine g_goto K d_c11_wells_75 ?_
          refine g_sub (ls2 := [(0, .ref a0), (1, .int (x1 + (1 : Int32))), (2, .int q13.1)]) [2, 1, 0] rfl ?_
          exact ih _ _ _ _ hy hE
        refine g_icmp_ne K d_c11_wells_46 (fun c10 => ?_) (fun c10 => ?_)
        · rw [if_neg c10] at e_t11
          refine g_aload_n K d_c11_wells_60 0 rfl ?_
          refine g_iload_n K d_c11_wells_61 1 rfl ?_
          obtain ⟨q14, e_q14, e_t11⟩ := gBd e_t11
          refine g_callVv (rest := []) K hx ly_c11_readWell kv_c11_178 d_c11_wells_62 (ct_c11_readWell M.2.1 X hx N a0 x1 h q14 e_q14) rfl rfl (Nat.le_of_ble_eq_true rfl) (gDep rfl) ⟨Nat.le_refl 0, Nat.le_refl 0⟩ ?_
          refine g_sub (ls2 := [(0, .ref a0), (1, .int x1)]) [0, 1] rfl ?_
          obtain rfl := Option.some.inj e_t11
          exact hJ12
        · rw [if_pos c10] at e_t11
          refine g_aload_n K d_c11_wells_49 0 rfl ?_
          refine g_aload_n K d_c11_wells_50 0 rfl ?_
          obtain ⟨v15, e_v15, e_t11⟩ := gBd e_t11
          refine g_getI K fl_c11_130 d_c11_wells_51 e_v15 ?_
          obtain ⟨q16, e_q16, e_t11⟩ := gBd e_t11
          refine g_callVv (rest := []) K hx ly_c11_fault kv_c11_151 d_c11_wells_54 (ct_c11_fault M.2.1 X hx N a0 v15 h q16 e_q16) rfl rfl (Nat.le_of_ble_eq_true rfl) (gDep rfl) ⟨Nat.le_refl 0, Nat.le_refl 0⟩ ?_
          refine g_goto K d_c11_wells_57 ?_
          refine g_sub (ls2 := [(0, .ref a0), (1, .int x1)]) [0, 1] rfl ?_
          obtain rfl := Option.some.inj e_t11
          exact hJ12
set_option maxHeartbeats 4000000 in
set_option maxRecDepth 100000 in
theorem wlp_c11_wells_94 {M : gM} {X : gX} {N : Nat} (hx : gEx X = false) (K : gC M X gN11 b_c11_wells 4 (gRm (5 + N) 0 0)) (a0 : Nat) (x1 : Int32) : ∀ (k : Nat) (x3 : Int32) (h : gH) (o : gH), lp_c11_wells_94 N a0 x1 k x3 h = some o → gG M X 4 0 0 140 [(0, .ref a0), (1, .int x1)] [] o → gG M X 4 0 0 94 [(0, .ref a0), (1, .int x1), (3, .int x3)] [] h := by
  intro k
  induction k with
  | zero =>
    intro x3 h o hy
    rw [lp_c11_wells_94.eq_1] at hy
    cases hy
  | succ k ih =>
    intro x3 h o hy hE
    rw [lp_c11_wells_94.eq_2] at hy
    refine g_iload_n K d_c11_wells_94 2 rfl ?_
    refine g_iload_n K d_c11_wells_95 1 rfl ?_
    refine g_icmp_ge K d_c11_wells_96 (fun c20 => ?_) (fun c20 => ?_)
    · rw [if_pos c20] at hy
      refine g_sub (ls2 := [(0, .ref a0), (1, .int x1)]) [0, 1] rfl ?_
      obtain rfl := Option.some.inj hy
      exact hE
    · rw [if_neg c20] at hy
      refine g_aload_n K d_c11_wells_99 0 rfl ?_
      obtain ⟨v21, e_v21, hy⟩ := gBd hy
      refine g_getR K fl_c11_9 d_c11_wells_100 e_v21 ?_
      refine g_aload_n K d_c11_wells_103 0 rfl ?_
      obtain ⟨v22, e_v22, hy⟩ := gBd hy
      refine g_getR K fl_c11_34 d_c11_wells_104 e_v22 ?_
      refine g_iconst (v := 3) K d_c11_wells_107 (by decide) ?_
      refine g_iload_n K d_c11_wells_108 2 rfl ?_
      refine g_imul K d_c11_wells_109 ?_
      obtain ⟨v23, e_v23, hy⟩ := gBd hy
      refine g_iald K d_c11_wells_110 e_v23 ?_
      refine g_aload_n K d_c11_wells_111 0 rfl ?_
      obtain ⟨v24, e_v24, hy⟩ := gBd hy
      refine g_getR K fl_c11_34 d_c11_wells_112 e_v24 ?_
      refine g_iconst (v := 3) K d_c11_wells_115 (by decide) ?_
      refine g_iload_n K d_c11_wells_116 2 rfl ?_
      refine g_imul K d_c11_wells_117 ?_
      refine g_iconst (v := 1) K d_c11_wells_118 (by decide) ?_
      refine g_iadd K d_c11_wells_119 ?_
      obtain ⟨v25, e_v25, hy⟩ := gBd hy
      refine g_iald K d_c11_wells_120 e_v25 ?_
      refine g_aload_n K d_c11_wells_121 0 rfl ?_
      obtain ⟨v26, e_v26, hy⟩ := gBd hy
      refine g_getR K fl_c11_34 d_c11_wells_122 e_v26 ?_
      refine g_iconst (v := 3) K d_c11_wells_125 (by decide) ?_
      refine g_iload_n K d_c11_wells_126 2 rfl ?_
      refine g_imul K d_c11_wells_127 ?_
      refine g_iconst (v := 2) K d_c11_wells_128 (by decide) ?_
      refine g_iadd K d_c11_wells_129 ?_
      obtain ⟨v27, e_v27, hy⟩ := gBd hy
      refine g_iald K d_c11_wells_130 e_v27 ?_
      obtain ⟨q28, e_q28, hy⟩ := gBd hy
      refine g_callSv (rest := []) K hx ly_c11_add ks_c11_181 d_c11_wells_131 (ct_c11_add M.2.1 X hx N v21 v23 v25 v27 h q28 e_q28) rfl rfl (Nat.le_of_ble_eq_true rfl) (gDep rfl) ⟨Nat.le_refl 0, Nat.le_refl 0⟩ ?_
      refine g_iinc (ls2 := [(3, .int (x3 + (1 : Int32))), (0, .ref a0), (1, .int x1)]) (v := 1) K d_c11_wells_134 2 rfl (by decide) rfl rfl ?_
      refine g_goto K d_c11_wells_137 ?_
      refine g_sub (ls2 := [(0, .ref a0), (1, .int x1), (3, .int (x3 + (1 : Int32)))]) [1, 2, 0] rfl ?_
      exact ih _ _ _ hy hE
set_option maxHeartbeats 4000000 in
set_option maxRecDepth 100000 in
theorem ct_c11_wells (l : Launch) (X : gX) (hx : gEx X = false) (N : Nat) (a0 : Nat) (h : gH) (q : Int32 × gH) (hy : f_c11_wells N a0 h = some q) : gRc y_c11_wells h a0 ∧ gMi l X y_c11_wells b_c11_wells 4 .int (5 + N) 0 0 [.ref a0] h q.1 q.2 := by
  unfold f_c11_wells at hy
  obtain ⟨u0, e_u0, hy⟩ := gBd hy
  cases u0
  refine ⟨Or.inl ⟨11, _, _, e_u0, rfl⟩, gMet_i (lsx := [(0, .ref a0)]) (by decide) rfl rfl ?_⟩
  intro M hMl K hret
  subst hMl
  refine g_aload_n K d_c11_wells_0 0 rfl ?_
  refine g_iconst (v := 0) K d_c11_wells_1 (by decide) ?_
  obtain ⟨h1, e_h1, hy⟩ := gBd hy
  refine g_putI K fp_c11_95 d_c11_wells_2 e_h1 ?_
  refine g_aload_n K d_c11_wells_5 0 rfl ?_
  refine g_bipush (v := 39) K d_c11_wells_6 (by decide) ?_
  obtain ⟨q2, e_q2, hy⟩ := gBd hy
  refine g_callVv (rest := []) K hx ly_c11_beginText kv_c11_165 d_c11_wells_8 (ct_c11_beginText M.2.1 X hx N a0 (39 : Int32) h1 q2 e_q2) rfl rfl (Nat.le_of_ble_eq_true rfl) (gDep rfl) ⟨Nat.le_refl 0, Nat.le_refl 0⟩ ?_
  refine g_aload_n K d_c11_wells_11 0 rfl ?_
  obtain ⟨v3, e_v3, hy⟩ := gBd hy
  refine g_getI K fl_c11_124 d_c11_wells_12 e_v3 ?_
  refine g_if_ne K d_c11_wells_15 (fun c4 => ?_) (fun c4 => ?_)
  · rw [if_neg c4] at hy
    refine g_iconst (v := 0) K d_c11_wells_20 (by decide) ?_
    refine g_istore_n (ls2 := [(1, .int (0 : Int32)), (0, .ref a0)]) K d_c11_wells_21 rfl rfl ?_
    refine g_iconst (v := 1) K d_c11_wells_22 (by decide) ?_
    refine g_istore_n (ls2 := [(2, .int (1 : Int32)), (1, .int (0 : Int32)), (0, .ref a0)]) K d_c11_wells_23 rfl rfl ?_
    obtain ⟨o17, e_o17, hy⟩ := gBd hy
    refine g_sub (ls2 := [(0, .ref a0), (1, .int (0 : Int32)), (2, .int (1 : Int32))]) [2, 1, 0] rfl ?_
    refine wlp_c11_wells_24 hx K a0 N (0 : Int32) (1 : Int32) q2 o17 e_o17 ?_
    refine g_aload_n K d_c11_wells_78 0 rfl ?_
    obtain ⟨q18, e_q18, hy⟩ := gBd hy
    refine g_callVi (rest := []) K hx ly_c11_wasRight kv_c11_168 d_c11_wells_79 (ct_c11_wasRight M.2.1 X hx N a0 o17.2 q18 e_q18) rfl rfl (Nat.le_of_ble_eq_true rfl) (gDep rfl) ⟨Nat.le_refl 0, Nat.le_refl 0⟩ ?_
    refine g_if_ne K d_c11_wells_82 (fun c19 => ?_) (fun c19 => ?_)
    · rw [if_neg c19] at hy
      refine g_iconst (v := 0) K d_c11_wells_92 (by decide) ?_
      refine g_istore_n (ls2 := [(3, .int (0 : Int32)), (0, .ref a0), (1, .int o17.1)]) K d_c11_wells_93 rfl rfl ?_
      obtain ⟨o29, e_o29, hy⟩ := gBd hy
      refine g_sub (ls2 := [(0, .ref a0), (1, .int o17.1), (3, .int (0 : Int32))]) [1, 2, 0] rfl ?_
      refine wlp_c11_wells_94 hx K a0 o17.1 N (0 : Int32) q18.2 o29 e_o29 ?_
      refine g_aload_n K d_c11_wells_140 0 rfl ?_
      obtain ⟨q30, e_q30, hy⟩ := gBd hy
      refine g_callVv (rest := []) K hx ly_c11_told kv_c11_171 d_c11_wells_141 (ct_c11_told M.2.1 X hx N a0 o29 q30 e_q30) rfl rfl (Nat.le_of_ble_eq_true rfl) (gDep rfl) ⟨Nat.le_refl 0, Nat.le_refl 0⟩ ?_
      refine g_iload_n K d_c11_wells_144 1 rfl ?_
      obtain rfl := Option.some.inj hy
      exact hret rfl _ _ _ d_c11_wells_145
    · rw [if_pos c19] at hy
      refine g_iconst (v := (-1)) K d_c11_wells_85 (by decide) ?_
      refine g_aload_n K d_c11_wells_86 0 rfl ?_
      obtain ⟨v31, e_v31, hy⟩ := gBd hy
      refine g_getI K fl_c11_133 d_c11_wells_87 e_v31 ?_
      refine g_isub K d_c11_wells_90 ?_
      obtain rfl := Option.some.inj hy
      exact hret rfl _ _ _ d_c11_wells_91
  · rw [if_pos c4] at hy
    refine g_iconst (v := 0) K d_c11_wells_18 (by decide) ?_
    obtain rfl := Option.some.inj hy
    exact hret rfl _ _ _ d_c11_wells_19
-- c2 narrow
theorem d_c2_narrow_0 : gD b_c2_narrow 0 (.iconst 0) 1 1 := ⟨by decide +kernel, rfl⟩
theorem d_c2_narrow_1 : gD b_c2_narrow 1 (.istore 6) 2 3 := ⟨by decide +kernel, rfl⟩
theorem d_c2_narrow_3 : gD b_c2_narrow 3 (.iconst 0) 1 4 := ⟨by decide +kernel, rfl⟩
theorem d_c2_narrow_4 : gD b_c2_narrow 4 (.istore 7) 2 6 := ⟨by decide +kernel, rfl⟩
theorem d_c2_narrow_6 : gD b_c2_narrow 6 (.iload 7) 2 8 := ⟨by decide +kernel, rfl⟩
theorem d_c2_narrow_8 : gD b_c2_narrow 8 (.aload 4) 2 10 := ⟨by decide +kernel, rfl⟩
theorem d_c2_narrow_10 : gD b_c2_narrow 10 (.getfield 29) 3 13 := ⟨by decide +kernel, rfl⟩
theorem d_c2_narrow_13 : gJ b_c2_narrow 13 (.if_icmp .ge 43) 3 43 16 56 := ⟨by decide +kernel, rfl, by decide⟩
theorem d_c2_narrow_16 : gD b_c2_narrow 16 (.iload_n 1) 1 17 := ⟨by decide +kernel, rfl⟩
theorem d_c2_narrow_17 : gD b_c2_narrow 17 (.iload 7) 2 19 := ⟨by decide +kernel, rfl⟩
theorem d_c2_narrow_19 : gD b_c2_narrow 19 .ishr 1 20 := ⟨by decide +kernel, rfl⟩
theorem d_c2_narrow_20 : gD b_c2_narrow 20 (.iconst 1) 1 21 := ⟨by decide +kernel, rfl⟩
theorem d_c2_narrow_21 : gD b_c2_narrow 21 .iand 1 22 := ⟨by decide +kernel, rfl⟩
theorem d_c2_narrow_22 : gD b_c2_narrow 22 (.iconst 1) 1 23 := ⟨by decide +kernel, rfl⟩
theorem d_c2_narrow_23 : gJ b_c2_narrow 23 (.if_icmp .ne 27) 3 27 26 50 := ⟨by decide +kernel, rfl, by decide⟩
theorem d_c2_narrow_26 : gD b_c2_narrow 26 (.aload_n 0) 1 27 := ⟨by decide +kernel, rfl⟩
theorem d_c2_narrow_27 : gD b_c2_narrow 27 (.iload_n 2) 1 28 := ⟨by decide +kernel, rfl⟩
theorem d_c2_narrow_28 : gD b_c2_narrow 28 (.iload_n 3) 1 29 := ⟨by decide +kernel, rfl⟩
theorem d_c2_narrow_29 : gD b_c2_narrow 29 (.iload 7) 2 31 := ⟨by decide +kernel, rfl⟩
theorem d_c2_narrow_31 : gD b_c2_narrow 31 (.aload 4) 2 33 := ⟨by decide +kernel, rfl⟩
theorem d_c2_narrow_33 : gD b_c2_narrow 33 (.aload 5) 2 35 := ⟨by decide +kernel, rfl⟩
theorem d_c2_narrow_35 : gD b_c2_narrow 35 (.invokevirtual 36) 3 38 := ⟨by decide +kernel, rfl⟩
theorem d_c2_narrow_38 : gJ b_c2_narrow 38 (.ifCond .eq 12) 3 12 41 50 := ⟨by decide +kernel, rfl, by decide⟩
theorem d_c2_narrow_41 : gD b_c2_narrow 41 (.iload 6) 2 43 := ⟨by decide +kernel, rfl⟩
theorem d_c2_narrow_43 : gD b_c2_narrow 43 (.iconst 1) 1 44 := ⟨by decide +kernel, rfl⟩
theorem d_c2_narrow_44 : gD b_c2_narrow 44 (.iload 7) 2 46 := ⟨by decide +kernel, rfl⟩
theorem d_c2_narrow_46 : gD b_c2_narrow 46 .ishl 1 47 := ⟨by decide +kernel, rfl⟩
theorem d_c2_narrow_47 : gD b_c2_narrow 47 .ior 1 48 := ⟨by decide +kernel, rfl⟩
theorem d_c2_narrow_48 : gD b_c2_narrow 48 (.istore 6) 2 50 := ⟨by decide +kernel, rfl⟩
theorem d_c2_narrow_50 : gD b_c2_narrow 50 (.iinc 7 1) 3 53 := ⟨by decide +kernel, rfl⟩
theorem d_c2_narrow_53 : gJ b_c2_narrow 53 (.goto (-47)) 3 (-47) 56 6 := ⟨by decide +kernel, rfl, by decide⟩
theorem d_c2_narrow_56 : gD b_c2_narrow 56 (.iload 6) 2 58 := ⟨by decide +kernel, rfl⟩
theorem d_c2_narrow_58 : gD b_c2_narrow 58 .ireturn 1 59 := ⟨by decide +kernel, rfl⟩
def lp_c2_narrow_6 (N : Nat) (a0 : Nat) (x1 : Int32) (x2 : Int32) (x3 : Int32) (a4 : Nat) (a5 : Nat) (h : gH) : Nat → Int32 → Int32 → Option (Int32)
  | 0, _, _ => none
  | k + 1, x6, x7 =>
  (gfI h a4 7 0).bind fun v1 =>
    if v1 ≤ x7 then
    some x6
  else
    (show Option (Int32) from if ((x1 >>> (x7 &&& 31)) &&& (1 : Int32)) = (1 : Int32) then
    (f_c2_isSo N a0 x2 x3 x7 a4 a5 h).bind fun q6 =>
    if q6 = 0 then
    some x6
  else
    some (x6 ||| ((1 : Int32) <<< (x7 &&& 31)))
  else
    some x6).bind fun t4 =>
    lp_c2_narrow_6 N a0 x1 x2 x3 a4 a5 h k t4 (x7 + (1 : Int32))
def f_c2_narrow (N : Nat) (a0 : Nat) (x1 : Int32) (x2 : Int32) (x3 : Int32) (a4 : Nat) (a5 : Nat) (h : gH) : Option (Int32) :=
  (gcl h a0 2).bind fun _ =>
  (lp_c2_narrow_6 N a0 x1 x2 x3 a4 a5 h N (0 : Int32) (0 : Int32)).bind fun o8 =>
    some o8
set_option maxHeartbeats 4000000 in
set_option maxRecDepth 100000 in
theorem wlp_c2_narrow_6 {M : gM} {X : gX} {N : Nat} (hx : gEx X = false) (K : gC M X gN2 b_c2_narrow 8 (gRm (5 + N) 0 0)) (a0 : Nat) (x1 : Int32) (x2 : Int32) (x3 : Int32) (a4 : Nat) (a5 : Nat) (h : gH) : ∀ (k : Nat) (x6 : Int32) (x7 : Int32) (o : Int32), lp_c2_narrow_6 N a0 x1 x2 x3 a4 a5 h k x6 x7 = some o → gG M X 8 0 0 56 [(6, .int o)] [] h → gG M X 8 0 0 6 [(0, .ref a0), (1, .int x1), (2, .int x2), (3, .int x3), (4, .ref a4), (5, .ref a5), (6, .int x6), (7, .int x7)] [] h := by
  intro k
  induction k with
  | zero =>
    intro x6 x7 o hy
    rw [lp_c2_narrow_6.eq_1] at hy
    cases hy
  | succ k ih =>
    intro x6 x7 o hy hE
    rw [lp_c2_narrow_6.eq_2] at hy
    refine g_iload K d_c2_narrow_6 7 rfl ?_
    refine g_aload K d_c2_narrow_8 4 rfl ?_
    obtain ⟨v1, e_v1, hy⟩ := gBd hy
    refine g_getI K fl_c2_29 d_c2_narrow_10 e_v1 ?_
    refine g_icmp_ge K d_c2_narrow_13 (fun c2 => ?_) (fun c2 => ?_)
    · rw [if_pos c2] at hy
      refine g_sub (ls2 := [(6, .int x6)]) [6] rfl ?_
      obtain rfl := Option.some.inj hy
      exact hE
    · rw [if_neg c2] at hy
      refine g_iload_n K d_c2_narrow_16 1 rfl ?_
      refine g_iload K d_c2_narrow_17 7 rfl ?_
      refine g_ishr K d_c2_narrow_19 ?_
      refine g_iconst (v := 1) K d_c2_narrow_20 (by decide) ?_
      refine g_iand K d_c2_narrow_21 ?_
      refine g_iconst (v := 1) K d_c2_narrow_22 (by decide) ?_
      obtain ⟨t4, e_t4, hy⟩ := gBd hy
      have hJ5 : gG M X 8 0 0 50 [(0, .ref a0), (1, .int x1), (2, .int x2), (3, .int x3), (4, .ref a4), (5, .ref a5), (6, .int t4), (7, .int x7)] [] h := by
        refine g_iinc (ls2 := [(7, .int (x7 + (1 : Int32))), (0, .ref a0), (1, .int x1), (2, .int x2), (3, .int x3), (4, .ref a4), (5, .ref a5), (6, .int t4)]) (v := 1) K d_c2_narrow_50 7 rfl (by decide) rfl rfl ?_
        refine g_goto K d_c2_narrow_53 ?_
        refine g_sub (ls2 := [(0, .ref a0), (1, .int x1), (2, .int x2), (3, .int x3), (4, .ref a4), (5, .ref a5), (6, .int t4), (7, .int (x7 + (1 : Int32)))]) [1, 2, 3, 4, 5, 6, 7, 0] rfl ?_
        exact ih _ _ _ hy hE
      refine g_icmp_ne K d_c2_narrow_23 (fun c3 => ?_) (fun c3 => ?_)
      · rw [if_neg c3] at e_t4
        obtain rfl := Option.some.inj e_t4
        exact hJ5
      · rw [if_pos c3] at e_t4
        refine g_aload_n K d_c2_narrow_26 0 rfl ?_
        refine g_iload_n K d_c2_narrow_27 2 rfl ?_
        refine g_iload_n K d_c2_narrow_28 3 rfl ?_
        refine g_iload K d_c2_narrow_29 7 rfl ?_
        refine g_aload K d_c2_narrow_31 4 rfl ?_
        refine g_aload K d_c2_narrow_33 5 rfl ?_
        obtain ⟨q6, e_q6, e_t4⟩ := gBd e_t4
        refine g_callVi (rest := []) K hx ly_c2_isSo kv_c2_36 d_c2_narrow_35 (ct_c2_isSo M.2.1 X hx N a0 x2 x3 x7 a4 a5 h q6 e_q6) rfl rfl (Nat.le_of_ble_eq_true rfl) (gDep rfl) ⟨Nat.le_refl 0, Nat.le_refl 0⟩ ?_
        refine g_if_eq K d_c2_narrow_38 (fun c7 => ?_) (fun c7 => ?_)
        · rw [if_pos c7] at e_t4
          obtain rfl := Option.some.inj e_t4
          exact hJ5
        · rw [if_neg c7] at e_t4
          refine g_iload K d_c2_narrow_41 6 rfl ?_
          refine g_iconst (v := 1) K d_c2_narrow_43 (by decide) ?_
          refine g_iload K d_c2_narrow_44 7 rfl ?_
          refine g_ishl K d_c2_narrow_46 ?_
          refine g_ior K d_c2_narrow_47 ?_
          refine g_istore (ls2 := [(6, .int (x6 ||| ((1 : Int32) <<< (x7 &&& 31)))), (0, .ref a0), (1, .int x1), (2, .int x2), (3, .int x3), (4, .ref a4), (5, .ref a5), (7, .int x7)]) K d_c2_narrow_48 rfl rfl ?_
          refine g_sub (ls2 := [(0, .ref a0), (1, .int x1), (2, .int x2), (3, .int x3), (4, .ref a4), (5, .ref a5), (6, .int (x6 ||| ((1 : Int32) <<< (x7 &&& 31)))), (7, .int x7)]) [1, 2, 3, 4, 5, 6, 0, 7] rfl ?_
          obtain rfl := Option.some.inj e_t4
          exact hJ5
set_option maxHeartbeats 4000000 in
set_option maxRecDepth 100000 in
theorem ct_c2_narrow (l : Launch) (X : gX) (hx : gEx X = false) (N : Nat) (a0 : Nat) (x1 : Int32) (x2 : Int32) (x3 : Int32) (a4 : Nat) (a5 : Nat) (h : gH) (q : Int32) (hy : f_c2_narrow N a0 x1 x2 x3 a4 a5 h = some q) : gRc y_c2_narrow h a0 ∧ gMi l X y_c2_narrow b_c2_narrow 8 .int (5 + N) 0 0 [.ref a0, .int x1, .int x2, .int x3, .ref a4, .ref a5] h q h := by
  unfold f_c2_narrow at hy
  obtain ⟨u0, e_u0, hy⟩ := gBd hy
  cases u0
  refine ⟨Or.inl ⟨2, _, _, e_u0, rfl⟩, gMet_i (lsx := [(0, .ref a0), (1, .int x1), (2, .int x2), (3, .int x3), (4, .ref a4), (5, .ref a5)]) (by decide) rfl rfl ?_⟩
  intro M hMl K hret
  subst hMl
  refine g_iconst (v := 0) K d_c2_narrow_0 (by decide) ?_
  refine g_istore (ls2 := [(6, .int (0 : Int32)), (0, .ref a0), (1, .int x1), (2, .int x2), (3, .int x3), (4, .ref a4), (5, .ref a5)]) K d_c2_narrow_1 rfl rfl ?_
  refine g_iconst (v := 0) K d_c2_narrow_3 (by decide) ?_
  refine g_istore (ls2 := [(7, .int (0 : Int32)), (6, .int (0 : Int32)), (0, .ref a0), (1, .int x1), (2, .int x2), (3, .int x3), (4, .ref a4), (5, .ref a5)]) K d_c2_narrow_4 rfl rfl ?_
  obtain ⟨o8, e_o8, hy⟩ := gBd hy
  refine g_sub (ls2 := [(0, .ref a0), (1, .int x1), (2, .int x2), (3, .int x3), (4, .ref a4), (5, .ref a5), (6, .int (0 : Int32)), (7, .int (0 : Int32))]) [2, 3, 4, 5, 6, 7, 1, 0] rfl ?_
  refine wlp_c2_narrow_6 hx K a0 x1 x2 x3 a4 a5 h N (0 : Int32) (0 : Int32) o8 e_o8 ?_
  refine g_iload K d_c2_narrow_56 0 rfl ?_
  obtain rfl := Option.some.inj hy
  exact hret rfl _ _ _ d_c2_narrow_58
-- c6 read
theorem d_c6_read_0 : gD b_c6_read 0 (.aload_n 0) 1 1 := ⟨by decide +kernel, rfl⟩
theorem d_c6_read_1 : gD b_c6_read 1 (.iconst 0) 1 2 := ⟨by decide +kernel, rfl⟩
theorem d_c6_read_2 : gD b_c6_read 2 (.putfield 21) 3 5 := ⟨by decide +kernel, rfl⟩
theorem d_c6_read_5 : gD b_c6_read 5 (.aload_n 0) 1 6 := ⟨by decide +kernel, rfl⟩
theorem d_c6_read_6 : gD b_c6_read 6 (.iconst 0) 1 7 := ⟨by decide +kernel, rfl⟩
theorem d_c6_read_7 : gD b_c6_read 7 (.putfield 25) 3 10 := ⟨by decide +kernel, rfl⟩
theorem d_c6_read_10 : gD b_c6_read 10 (.aload_n 0) 1 11 := ⟨by decide +kernel, rfl⟩
theorem d_c6_read_11 : gD b_c6_read 11 (.iconst 0) 1 12 := ⟨by decide +kernel, rfl⟩
theorem d_c6_read_12 : gD b_c6_read 12 (.putfield 28) 3 15 := ⟨by decide +kernel, rfl⟩
theorem d_c6_read_15 : gD b_c6_read 15 (.aload_n 0) 1 16 := ⟨by decide +kernel, rfl⟩
theorem d_c6_read_16 : gD b_c6_read 16 (.iconst 0) 1 17 := ⟨by decide +kernel, rfl⟩
theorem d_c6_read_17 : gD b_c6_read 17 (.putfield 31) 3 20 := ⟨by decide +kernel, rfl⟩
theorem d_c6_read_20 : gD b_c6_read 20 (.aload_n 0) 1 21 := ⟨by decide +kernel, rfl⟩
theorem d_c6_read_21 : gD b_c6_read 21 (.iconst 0) 1 22 := ⟨by decide +kernel, rfl⟩
theorem d_c6_read_22 : gD b_c6_read 22 (.putfield 34) 3 25 := ⟨by decide +kernel, rfl⟩
theorem d_c6_read_25 : gD b_c6_read 25 (.aload_n 0) 1 26 := ⟨by decide +kernel, rfl⟩
theorem d_c6_read_26 : gD b_c6_read 26 (.iconst 1) 1 27 := ⟨by decide +kernel, rfl⟩
theorem d_c6_read_27 : gD b_c6_read 27 (.putfield 37) 3 30 := ⟨by decide +kernel, rfl⟩
theorem d_c6_read_30 : gD b_c6_read 30 (.iload_n 2) 1 31 := ⟨by decide +kernel, rfl⟩
theorem d_c6_read_31 : gD b_c6_read 31 (.bipush 40) 2 33 := ⟨by decide +kernel, rfl⟩
theorem d_c6_read_33 : gD b_c6_read 33 (.invokestatic 41) 3 36 := ⟨by decide +kernel, rfl⟩
theorem d_c6_read_36 : gD b_c6_read 36 (.aload_n 1) 1 37 := ⟨by decide +kernel, rfl⟩
theorem d_c6_read_37 : gD b_c6_read 37 .arraylength 1 38 := ⟨by decide +kernel, rfl⟩
theorem d_c6_read_38 : gD b_c6_read 38 (.invokestatic 41) 3 41 := ⟨by decide +kernel, rfl⟩
theorem d_c6_read_41 : gD b_c6_read 41 (.istore_n 3) 1 42 := ⟨by decide +kernel, rfl⟩
theorem d_c6_read_42 : gD b_c6_read 42 (.iconst 0) 1 43 := ⟨by decide +kernel, rfl⟩
theorem d_c6_read_43 : gD b_c6_read 43 (.istore 4) 2 45 := ⟨by decide +kernel, rfl⟩
theorem d_c6_read_45 : gD b_c6_read 45 (.iload 4) 2 47 := ⟨by decide +kernel, rfl⟩
theorem d_c6_read_47 : gD b_c6_read 47 (.iload_n 3) 1 48 := ⟨by decide +kernel, rfl⟩
theorem d_c6_read_48 : gJ b_c6_read 48 (.if_icmp .ge 45) 3 45 51 93 := ⟨by decide +kernel, rfl, by decide⟩
theorem d_c6_read_51 : gD b_c6_read 51 (.aload_n 0) 1 52 := ⟨by decide +kernel, rfl⟩
theorem d_c6_read_52 : gD b_c6_read 52 (.getfield 37) 3 55 := ⟨by decide +kernel, rfl⟩
theorem d_c6_read_55 : gJ b_c6_read 55 (.ifCond .eq 14) 3 14 58 69 := ⟨by decide +kernel, rfl, by decide⟩
theorem d_c6_read_58 : gD b_c6_read 58 (.aload_n 0) 1 59 := ⟨by decide +kernel, rfl⟩
theorem d_c6_read_59 : gD b_c6_read 59 (.aload_n 1) 1 60 := ⟨by decide +kernel, rfl⟩
theorem d_c6_read_60 : gD b_c6_read 60 (.iload 4) 2 62 := ⟨by decide +kernel, rfl⟩
theorem d_c6_read_62 : gD b_c6_read 62 .caload 1 63 := ⟨by decide +kernel, rfl⟩
theorem d_c6_read_63 : gD b_c6_read 63 (.invokevirtual 47) 3 66 := ⟨by decide +kernel, rfl⟩
theorem d_c6_read_66 : gJ b_c6_read 66 (.goto 11) 3 11 69 77 := ⟨by decide +kernel, rfl, by decide⟩
theorem d_c6_read_69 : gD b_c6_read 69 (.aload_n 0) 1 70 := ⟨by decide +kernel, rfl⟩
theorem d_c6_read_70 : gD b_c6_read 70 (.aload_n 1) 1 71 := ⟨by decide +kernel, rfl⟩
theorem d_c6_read_71 : gD b_c6_read 71 (.iload 4) 2 73 := ⟨by decide +kernel, rfl⟩
theorem d_c6_read_73 : gD b_c6_read 73 .caload 1 74 := ⟨by decide +kernel, rfl⟩
theorem d_c6_read_74 : gD b_c6_read 74 (.invokevirtual 51) 3 77 := ⟨by decide +kernel, rfl⟩
theorem d_c6_read_77 : gD b_c6_read 77 (.istore 5) 2 79 := ⟨by decide +kernel, rfl⟩
theorem d_c6_read_79 : gD b_c6_read 79 (.iload 5) 2 81 := ⟨by decide +kernel, rfl⟩
theorem d_c6_read_81 : gJ b_c6_read 81 (.ifCond .ne 6) 3 6 84 87 := ⟨by decide +kernel, rfl, by decide⟩
theorem d_c6_read_84 : gD b_c6_read 84 (.iload 4) 2 86 := ⟨by decide +kernel, rfl⟩
theorem d_c6_read_86 : gD b_c6_read 86 .ireturn 1 87 := ⟨by decide +kernel, rfl⟩
theorem d_c6_read_87 : gD b_c6_read 87 (.iinc 4 1) 3 90 := ⟨by decide +kernel, rfl⟩
theorem d_c6_read_90 : gJ b_c6_read 90 (.goto (-45)) 3 (-45) 93 45 := ⟨by decide +kernel, rfl, by decide⟩
theorem d_c6_read_93 : gD b_c6_read 93 (.iload_n 2) 1 94 := ⟨by decide +kernel, rfl⟩
theorem d_c6_read_94 : gD b_c6_read 94 (.bipush 40) 2 96 := ⟨by decide +kernel, rfl⟩
theorem d_c6_read_96 : gJ b_c6_read 96 (.if_icmp .gt 17) 3 17 99 113 := ⟨by decide +kernel, rfl, by decide⟩
theorem d_c6_read_99 : gD b_c6_read 99 (.aload_n 0) 1 100 := ⟨by decide +kernel, rfl⟩
theorem d_c6_read_100 : gD b_c6_read 100 (.getfield 37) 3 103 := ⟨by decide +kernel, rfl⟩
theorem d_c6_read_103 : gJ b_c6_read 103 (.ifCond .ne 10) 3 10 106 113 := ⟨by decide +kernel, rfl, by decide⟩
theorem d_c6_read_106 : gD b_c6_read 106 (.aload_n 0) 1 107 := ⟨by decide +kernel, rfl⟩
theorem d_c6_read_107 : gD b_c6_read 107 (.getfield 28) 3 110 := ⟨by decide +kernel, rfl⟩
theorem d_c6_read_110 : gJ b_c6_read 110 (.ifCond .le 5) 3 5 113 115 := ⟨by decide +kernel, rfl, by decide⟩
theorem d_c6_read_113 : gD b_c6_read 113 (.iload_n 3) 1 114 := ⟨by decide +kernel, rfl⟩
theorem d_c6_read_114 : gD b_c6_read 114 .ireturn 1 115 := ⟨by decide +kernel, rfl⟩
theorem d_c6_read_115 : gD b_c6_read 115 (.aload_n 0) 1 116 := ⟨by decide +kernel, rfl⟩
theorem d_c6_read_116 : gD b_c6_read 116 (.iconst 1) 1 117 := ⟨by decide +kernel, rfl⟩
theorem d_c6_read_117 : gD b_c6_read 117 (.invokevirtual 54) 3 120 := ⟨by decide +kernel, rfl⟩
theorem d_c6_read_120 : gD b_c6_read 120 (.iconst (-1)) 1 121 := ⟨by decide +kernel, rfl⟩
theorem d_c6_read_121 : gD b_c6_read 121 .ireturn 1 122 := ⟨by decide +kernel, rfl⟩
def lp_c6_read_45 (N : Nat) (a0 : Nat) (a1 : Nat) (x3 : Int32) : Nat → Int32 → gH → Option ((Int32 × gH) ⊕ (gH))
  | 0, _, _ => none
  | k + 1, x4, h =>
  if x3 ≤ x4 then
    some (.inr h)
  else
    (gfI h a0 6 8).bind fun v10 =>
    (show Option (Int32 × gH) from if v10 = 0 then
    (gaC h a1 x4).bind fun v15 =>
    (f_c6_takeBehind N a0 v15 h).bind fun q16 =>
    some (q16.1, q16.2)
  else
    (gaC h a1 x4).bind fun v17 =>
    (f_c6_takeThing N a0 v17 h).bind fun q18 =>
    some (q18.1, q18.2)).bind fun t12 =>
    if t12.1 = 0 then
    some (.inl (x4, t12.2))
  else
    lp_c6_read_45 N a0 a1 x3 k (x4 + (1 : Int32)) t12.2
def f_c6_read (N : Nat) (a0 : Nat) (a1 : Nat) (x2 : Int32) (h : gH) : Option (Int32 × gH) :=
  (gcl h a0 6).bind fun _ =>
  (sf h a0 6 3 (.int (0 : Int32))).bind fun h1 =>
    (sf h1 a0 6 4 (.int (0 : Int32))).bind fun h2 =>
    (sf h2 a0 6 5 (.int (0 : Int32))).bind fun h3 =>
    (sf h3 a0 6 6 (.int (0 : Int32))).bind fun h4 =>
    (sf h4 a0 6 7 (.int (0 : Int32))).bind fun h5 =>
    (gZ (1 : Int32)).bind fun w6 =>
    (sf h5 a0 6 8 (.int w6)).bind fun h7 =>
    (gn h7 a1).bind fun v8 =>
    (lp_c6_read_45 N a0 a1 (gmin (gmin x2 (40 : Int32)) v8) N (0 : Int32) h7).bind fun o19 => Sum.elim (fun r21 => some r21) (fun t20 =>
    if (40 : Int32) < x2 then
    some (gmin (gmin x2 (40 : Int32)) v8, t20)
  else
    (gfI t20 a0 6 8).bind fun v24 =>
    if v24 = 0 then
    (gfI t20 a0 6 5).bind fun v26 =>
    if v26 ≤ 0 then
    (f_c6_release N a0 (1 : Int32) t20).bind fun q28 =>
    some ((-1 : Int32), q28)
  else
    some (gmin (gmin x2 (40 : Int32)) v8, t20)
  else
    some (gmin (gmin x2 (40 : Int32)) v8, t20)) o19
set_option maxHeartbeats 4000000 in
set_option maxRecDepth 100000 in
theorem wlp_c6_read_45 {M : gM} {X : gX} {N : Nat} (hx : gEx X = false) (K : gC M X gN6 b_c6_read 6 (gRm (5 + N) 0 0)) (a0 : Nat) (a1 : Nat) (x3 : Int32) (x2 : Int32) : ∀ (k : Nat) (x4 : Int32) (h : gH) (o : (Int32 × gH) ⊕ (gH)), lp_c6_read_45 N a0 a1 x3 k x4 h = some o → (∀ t, o = .inr t → gG M X 6 0 0 93 [(0, .ref a0), (2, .int x2), (3, .int x3)] [] t) → (∀ r, o = .inl r → (narrow .int (.int r.1) = .int r.1 → ∀ pc pc' ls, gD b_c6_read pc .ireturn 1 pc' → gG M X 6 0 0 pc ls [.int r.1] r.2)) → gG M X 6 0 0 45 [(0, .ref a0), (1, .ref a1), (2, .int x2), (3, .int x3), (4, .int x4)] [] h := by
  intro k
  induction k with
  | zero =>
    intro x4 h o hy
    rw [lp_c6_read_45.eq_1] at hy
    cases hy
  | succ k ih =>
    intro x4 h o hy hE hR
    rw [lp_c6_read_45.eq_2] at hy
    refine g_iload K d_c6_read_45 4 rfl ?_
    refine g_iload_n K d_c6_read_47 3 rfl ?_
    refine g_icmp_ge K d_c6_read_48 (fun c9 => ?_) (fun c9 => ?_)
    · rw [if_pos c9] at hy
      refine g_sub (ls2 := [(0, .ref a0), (2, .int x2), (3, .int x3)]) [0, 2, 3] rfl ?_
      obtain rfl := Option.some.inj hy
      exact hE _ rfl
    · rw [if_neg c9] at hy
      refine g_aload_n K d_c6_read_51 0 rfl ?_
      obtain ⟨v10, e_v10, hy⟩ := gBd hy
      refine g_getI K fl_c6_37 d_c6_read_52 e_v10 ?_
      obtain ⟨t12, e_t12, hy⟩ := gBd hy
      have hJ13 : gG M X 6 0 0 77 [(0, .ref a0), (1, .ref a1), (2, .int x2), (3, .int x3), (4, .int x4)] [.int t12.1] t12.2 := by
        refine g_istore (ls2 := [(5, .int t12.1), (0, .ref a0), (1, .ref a1), (2, .int x2), (3, .int x3), (4, .int x4)]) K d_c6_read_77 rfl rfl ?_
        refine g_iload K d_c6_read_79 0 rfl ?_
        refine g_if_ne K d_c6_read_81 (fun c14 => ?_) (fun c14 => ?_)
        · rw [if_neg c14] at hy
          refine g_iinc (ls2 := [(4, .int (x4 + (1 : Int32))), (5, .int t12.1), (0, .ref a0), (1, .ref a1), (2, .int x2), (3, .int x3)]) (v := 1) K d_c6_read_87 5 rfl (by decide) rfl rfl ?_
          refine g_goto K d_c6_read_90 ?_
          refine g_sub (ls2 := [(0, .ref a0), (1, .ref a1), (2, .int x2), (3, .int x3), (4, .int (x4 + (1 : Int32)))]) [2, 3, 4, 5, 0] rfl ?_
          exact ih _ _ _ hy hE hR
        · rw [if_pos c14] at hy
          refine g_iload K d_c6_read_84 5 rfl ?_
          obtain rfl := Option.some.inj hy
          exact hR _ rfl rfl _ _ _ d_c6_read_86
      refine g_if_eq K d_c6_read_55 (fun c11 => ?_) (fun c11 => ?_)
      · rw [if_pos c11] at e_t12
        refine g_aload_n K d_c6_read_69 0 rfl ?_
        refine g_aload_n K d_c6_read_70 1 rfl ?_
        refine g_iload K d_c6_read_71 4 rfl ?_
        obtain ⟨v15, e_v15, e_t12⟩ := gBd e_t12
        refine g_cald K d_c6_read_73 e_v15 ?_
        obtain ⟨q16, e_q16, e_t12⟩ := gBd e_t12
        refine g_callVi (rest := []) K hx ly_c6_takeBehind kv_c6_51 d_c6_read_74 (ct_c6_takeBehind M.2.1 X hx N a0 v15 h q16 e_q16) rfl rfl (Nat.le_of_ble_eq_true rfl) (gDep rfl) ⟨Nat.le_refl 0, Nat.le_refl 0⟩ ?_
        obtain rfl := Option.some.inj e_t12
        exact hJ13
      · rw [if_neg c11] at e_t12
        refine g_aload_n K d_c6_read_58 0 rfl ?_
        refine g_aload_n K d_c6_read_59 1 rfl ?_
        refine g_iload K d_c6_read_60 4 rfl ?_
        obtain ⟨v17, e_v17, e_t12⟩ := gBd e_t12
        refine g_cald K d_c6_read_62 e_v17 ?_
        obtain ⟨q18, e_q18, e_t12⟩ := gBd e_t12
        refine g_callVi (rest := []) K hx ly_c6_takeThing kv_c6_47 d_c6_read_63 (ct_c6_takeThing M.2.1 X hx N a0 v17 h q18 e_q18) rfl rfl (Nat.le_of_ble_eq_true rfl) (gDep rfl) ⟨Nat.le_refl 0, Nat.le_refl 0⟩ ?_
        refine g_goto K d_c6_read_66 ?_
        obtain rfl := Option.some.inj e_t12
        exact hJ13
set_option maxHeartbeats 4000000 in
set_option maxRecDepth 100000 in
theorem ct_c6_read (l : Launch) (X : gX) (hx : gEx X = false) (N : Nat) (a0 : Nat) (a1 : Nat) (x2 : Int32) (h : gH) (q : Int32 × gH) (hy : f_c6_read N a0 a1 x2 h = some q) : gRc y_c6_read h a0 ∧ gMi l X y_c6_read b_c6_read 6 .int (5 + N) 0 0 [.ref a0, .ref a1, .int x2] h q.1 q.2 := by
  unfold f_c6_read at hy
  obtain ⟨u0, e_u0, hy⟩ := gBd hy
  cases u0
  refine ⟨Or.inl ⟨6, _, _, e_u0, rfl⟩, gMet_i (lsx := [(0, .ref a0), (1, .ref a1), (2, .int x2)]) (by decide) rfl rfl ?_⟩
  intro M hMl K hret
  subst hMl
  refine g_aload_n K d_c6_read_0 0 rfl ?_
  refine g_iconst (v := 0) K d_c6_read_1 (by decide) ?_
  obtain ⟨h1, e_h1, hy⟩ := gBd hy
  refine g_putI K fp_c6_21 d_c6_read_2 e_h1 ?_
  refine g_aload_n K d_c6_read_5 0 rfl ?_
  refine g_iconst (v := 0) K d_c6_read_6 (by decide) ?_
  obtain ⟨h2, e_h2, hy⟩ := gBd hy
  refine g_putI K fp_c6_25 d_c6_read_7 e_h2 ?_
  refine g_aload_n K d_c6_read_10 0 rfl ?_
  refine g_iconst (v := 0) K d_c6_read_11 (by decide) ?_
  obtain ⟨h3, e_h3, hy⟩ := gBd hy
  refine g_putI K fp_c6_28 d_c6_read_12 e_h3 ?_
  refine g_aload_n K d_c6_read_15 0 rfl ?_
  refine g_iconst (v := 0) K d_c6_read_16 (by decide) ?_
  obtain ⟨h4, e_h4, hy⟩ := gBd hy
  refine g_putI K fp_c6_31 d_c6_read_17 e_h4 ?_
  refine g_aload_n K d_c6_read_20 0 rfl ?_
  refine g_iconst (v := 0) K d_c6_read_21 (by decide) ?_
  obtain ⟨h5, e_h5, hy⟩ := gBd hy
  refine g_putI K fp_c6_34 d_c6_read_22 e_h5 ?_
  refine g_aload_n K d_c6_read_25 0 rfl ?_
  refine g_iconst (v := 1) K d_c6_read_26 (by decide) ?_
  obtain ⟨w6, e_w6, hy⟩ := gBd hy
  obtain ⟨h7, e_h7, hy⟩ := gBd hy
  refine g_putZ K fp_c6_37 d_c6_read_27 e_w6 e_h7 ?_
  refine g_iload_n K d_c6_read_30 2 rfl ?_
  refine g_bipush (v := 40) K d_c6_read_31 (by decide) ?_
  refine g_mmin K d_c6_read_33 (gTk_2 40 rfl rfl) (gTk_2 41 rfl rfl) (gTk_1 12 rfl rfl) (gTk_2 42 rfl rfl) (gDep1 rfl) (Nat.le_of_ble_eq_true rfl) ⟨Nat.le_refl 0, Nat.le_refl 0⟩ ?_
  refine g_aload_n K d_c6_read_36 1 rfl ?_
  obtain ⟨v8, e_v8, hy⟩ := gBd hy
  refine g_alen K d_c6_read_37 e_v8 ?_
  refine g_mmin K d_c6_read_38 (gTk_2 40 rfl rfl) (gTk_2 41 rfl rfl) (gTk_1 12 rfl rfl) (gTk_2 42 rfl rfl) (gDep1 rfl) (Nat.le_of_ble_eq_true rfl) ⟨Nat.le_refl 0, Nat.le_refl 0⟩ ?_
  refine g_istore_n (ls2 := [(3, .int (gmin (gmin x2 (40 : Int32)) v8)), (0, .ref a0), (1, .ref a1), (2, .int x2)]) K d_c6_read_41 rfl rfl ?_
  refine g_iconst (v := 0) K d_c6_read_42 (by decide) ?_
  refine g_istore (ls2 := [(4, .int (0 : Int32)), (3, .int (gmin (gmin x2 (40 : Int32)) v8)), (0, .ref a0), (1, .ref a1), (2, .int x2)]) K d_c6_read_43 rfl rfl ?_
  obtain ⟨o19, e_o19, hy⟩ := gBd hy
  refine g_sub (ls2 := [(0, .ref a0), (1, .ref a1), (2, .int x2), (3, .int (gmin (gmin x2 (40 : Int32)) v8)), (4, .int (0 : Int32))]) [2, 3, 4, 1, 0] rfl ?_
  refine wlp_c6_read_45 hx K a0 a1 (gmin (gmin x2 (40 : Int32)) v8) x2 N (0 : Int32) h7 o19 e_o19 (fun t20 e_t20 => ?_) (fun r21 e_r21 => ?_)
  · subst e_t20
    simp only [Sum.elim_inr] at hy
    refine g_iload_n K d_c6_read_93 1 rfl ?_
    refine g_bipush (v := 40) K d_c6_read_94 (by decide) ?_
    refine g_icmp_gt K d_c6_read_96 (fun c23 => ?_) (fun c23 => ?_)
    · rw [if_pos c23] at hy
      refine g_iload_n K d_c6_read_113 2 rfl ?_
      obtain rfl := Option.some.inj hy
      exact hret rfl _ _ _ d_c6_read_114
    · rw [if_neg c23] at hy
      refine g_aload_n K d_c6_read_99 0 rfl ?_
      obtain ⟨v24, e_v24, hy⟩ := gBd hy
      refine g_getI K fl_c6_37 d_c6_read_100 e_v24 ?_
      refine g_if_ne K d_c6_read_103 (fun c25 => ?_) (fun c25 => ?_)
      · rw [if_neg c25] at hy
        refine g_iload_n K d_c6_read_113 2 rfl ?_
        obtain rfl := Option.some.inj hy
        exact hret rfl _ _ _ d_c6_read_114
      · rw [if_pos c25] at hy
        refine g_aload_n K d_c6_read_106 0 rfl ?_
        obtain ⟨v26, e_v26, hy⟩ := gBd hy
        refine g_getI K fl_c6_28 d_c6_read_107 e_v26 ?_
        refine g_if_le K d_c6_read_110 (fun c27 => ?_) (fun c27 => ?_)
        · rw [if_pos c27] at hy
          refine g_aload_n K d_c6_read_115 0 rfl ?_
          refine g_iconst (v := 1) K d_c6_read_116 (by decide) ?_
          obtain ⟨q28, e_q28, hy⟩ := gBd hy
          refine g_callVv (rest := []) K hx ly_c6_release kv_c6_54 d_c6_read_117 (ct_c6_release M.2.1 X hx N a0 (1 : Int32) t20 q28 e_q28) rfl rfl (Nat.le_of_ble_eq_true rfl) (gDep rfl) ⟨Nat.le_refl 0, Nat.le_refl 0⟩ ?_
          refine g_iconst (v := (-1)) K d_c6_read_120 (by decide) ?_
          obtain rfl := Option.some.inj hy
          exact hret rfl _ _ _ d_c6_read_121
        · rw [if_neg c27] at hy
          refine g_iload_n K d_c6_read_113 2 rfl ?_
          obtain rfl := Option.some.inj hy
          exact hret rfl _ _ _ d_c6_read_114
  · subst e_r21
    simp only [Sum.elim_inl] at hy
    intro hn pc9 pc9' ls9 hd9
    obtain rfl := Option.some.inj hy
    exact hret hn _ _ _ hd9
