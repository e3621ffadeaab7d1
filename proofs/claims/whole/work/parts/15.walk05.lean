-- c11 refusesSaying
theorem d_c11_refusesSaying_0 : gD b_c11_refusesSaying 0 (.aload_n 0) 1 1 := ⟨by decide +kernel, rfl⟩
theorem d_c11_refusesSaying_1 : gD b_c11_refusesSaying 1 (.iload_n 2) 1 2 := ⟨by decide +kernel, rfl⟩
theorem d_c11_refusesSaying_2 : gD b_c11_refusesSaying 2 (.invokevirtual 280) 3 5 := ⟨by decide +kernel, rfl⟩
theorem d_c11_refusesSaying_5 : gJ b_c11_refusesSaying 5 (.ifCond .eq 23) 3 23 8 28 := ⟨by decide +kernel, rfl, by decide⟩
theorem d_c11_refusesSaying_8 : gD b_c11_refusesSaying 8 (.iload_n 3) 1 9 := ⟨by decide +kernel, rfl⟩
theorem d_c11_refusesSaying_9 : gD b_c11_refusesSaying 9 (.iconst 1) 1 10 := ⟨by decide +kernel, rfl⟩
theorem d_c11_refusesSaying_10 : gD b_c11_refusesSaying 10 (.bipush 9) 2 12 := ⟨by decide +kernel, rfl⟩
theorem d_c11_refusesSaying_12 : gD b_c11_refusesSaying 12 (.invokestatic 105) 3 15 := ⟨by decide +kernel, rfl⟩
theorem d_c11_refusesSaying_15 : gJ b_c11_refusesSaying 15 (.ifCond .eq 13) 3 13 18 28 := ⟨by decide +kernel, rfl, by decide⟩
theorem d_c11_refusesSaying_18 : gD b_c11_refusesSaying 18 (.iload 4) 2 20 := ⟨by decide +kernel, rfl⟩
theorem d_c11_refusesSaying_20 : gD b_c11_refusesSaying 20 (.iconst 0) 1 21 := ⟨by decide +kernel, rfl⟩
theorem d_c11_refusesSaying_21 : gD b_c11_refusesSaying 21 (.iconst 1) 1 22 := ⟨by decide +kernel, rfl⟩
theorem d_c11_refusesSaying_22 : gD b_c11_refusesSaying 22 (.invokestatic 105) 3 25 := ⟨by decide +kernel, rfl⟩
theorem d_c11_refusesSaying_25 : gJ b_c11_refusesSaying 25 (.ifCond .ne 5) 3 5 28 30 := ⟨by decide +kernel, rfl, by decide⟩
theorem d_c11_refusesSaying_28 : gD b_c11_refusesSaying 28 (.iconst (-1)) 1 29 := ⟨by decide +kernel, rfl⟩
theorem d_c11_refusesSaying_29 : gD b_c11_refusesSaying 29 .ireturn 1 30 := ⟨by decide +kernel, rfl⟩
theorem d_c11_refusesSaying_30 : gD b_c11_refusesSaying 30 (.aload_n 1) 1 31 := ⟨by decide +kernel, rfl⟩
theorem d_c11_refusesSaying_31 : gD b_c11_refusesSaying 31 (.iload_n 2) 1 32 := ⟨by decide +kernel, rfl⟩
theorem d_c11_refusesSaying_32 : gD b_c11_refusesSaying 32 (.invokestatic 174) 3 35 := ⟨by decide +kernel, rfl⟩
theorem d_c11_refusesSaying_35 : gD b_c11_refusesSaying 35 (.iconst (-1)) 1 36 := ⟨by decide +kernel, rfl⟩
theorem d_c11_refusesSaying_36 : gJ b_c11_refusesSaying 36 (.if_icmp .eq 6) 3 6 39 42 := ⟨by decide +kernel, rfl, by decide⟩
theorem d_c11_refusesSaying_39 : gD b_c11_refusesSaying 39 (.bipush (-2)) 2 41 := ⟨by decide +kernel, rfl⟩
theorem d_c11_refusesSaying_41 : gD b_c11_refusesSaying 41 .ireturn 1 42 := ⟨by decide +kernel, rfl⟩
theorem d_c11_refusesSaying_42 : gD b_c11_refusesSaying 42 (.aload_n 1) 1 43 := ⟨by decide +kernel, rfl⟩
theorem d_c11_refusesSaying_43 : gD b_c11_refusesSaying 43 (.bipush 40) 2 45 := ⟨by decide +kernel, rfl⟩
theorem d_c11_refusesSaying_45 : gD b_c11_refusesSaying 45 .iaload 1 46 := ⟨by decide +kernel, rfl⟩
theorem d_c11_refusesSaying_46 : gD b_c11_refusesSaying 46 (.bipush 8) 2 48 := ⟨by decide +kernel, rfl⟩
theorem d_c11_refusesSaying_48 : gJ b_c11_refusesSaying 48 (.if_icmp .ne 8) 3 8 51 56 := ⟨by decide +kernel, rfl, by decide⟩
theorem d_c11_refusesSaying_51 : gD b_c11_refusesSaying 51 (.bipush (-3)) 2 53 := ⟨by decide +kernel, rfl⟩
theorem d_c11_refusesSaying_53 : gJ b_c11_refusesSaying 53 (.goto 4) 3 4 56 57 := ⟨by decide +kernel, rfl, by decide⟩
theorem d_c11_refusesSaying_56 : gD b_c11_refusesSaying 56 (.iconst 0) 1 57 := ⟨by decide +kernel, rfl⟩
theorem d_c11_refusesSaying_57 : gD b_c11_refusesSaying 57 .ireturn 1 58 := ⟨by decide +kernel, rfl⟩
def f_c11_refusesSaying (N : Nat) (a0 : Nat) (a1 : Nat) (x2 : Int32) (x3 : Int32) (x4 : Int32) (h : gH) : Option (Int32) :=
  (gcl h a0 11).bind fun _ =>
  (f_c11_isField N a0 x2 h).bind fun q1 =>
    if q1 = 0 then
    some (-1 : Int32)
  else
    (f_c11_in N x3 (1 : Int32) (9 : Int32) h).bind fun q3 =>
    if q3 = 0 then
    some (-1 : Int32)
  else
    (f_c11_in N x4 (0 : Int32) (1 : Int32) h).bind fun q5 =>
    if q5 = 0 then
    some (-1 : Int32)
  else
    (f_c11_wellOn N a1 x2 h).bind fun q7 =>
    if q7 = (-1 : Int32) then
    (ga 0 h a1 (40 : Int32)).bind fun v9 =>
    some (if v9 = (8 : Int32) then (-3 : Int32) else (0 : Int32))
  else
    some (-2 : Int32)
set_option maxHeartbeats 4000000 in
set_option maxRecDepth 100000 in
theorem ct_c11_refusesSaying (l : Launch) (X : gX) (hx : gEx X = false) (N : Nat) (a0 : Nat) (a1 : Nat) (x2 : Int32) (x3 : Int32) (x4 : Int32) (h : gH) (q : Int32) (hy : f_c11_refusesSaying N a0 a1 x2 x3 x4 h = some q) : gRc y_c11_refusesSaying h a0 ∧ gMi l X y_c11_refusesSaying b_c11_refusesSaying 5 .int (3 + N) 0 0 [.ref a0, .ref a1, .int x2, .int x3, .int x4] h q h := by
  unfold f_c11_refusesSaying at hy
  obtain ⟨u0, e_u0, hy⟩ := gBd hy
  cases u0
  refine ⟨Or.inl ⟨11, _, _, e_u0, rfl⟩, gMet_i (lsx := [(0, .ref a0), (1, .ref a1), (2, .int x2), (3, .int x3), (4, .int x4)]) (by decide) rfl rfl ?_⟩
  intro M hMl K hret
  subst hMl
  refine g_aload_n K d_c11_refusesSaying_0 0 rfl ?_
  refine g_iload_n K d_c11_refusesSaying_1 2 rfl ?_
  obtain ⟨q1, e_q1, hy⟩ := gBd hy
  refine g_callVi (rest := []) K hx ly_c11_isField kv_c11_280 d_c11_refusesSaying_2 (ct_c11_isField M.2.1 X hx N a0 x2 h q1 e_q1) rfl rfl (Nat.le_of_ble_eq_true rfl) (gDep rfl) ⟨Nat.le_refl 0, Nat.le_refl 0⟩ ?_
  refine g_if_eq K d_c11_refusesSaying_5 (fun c2 => ?_) (fun c2 => ?_)
  · rw [if_pos c2] at hy
    refine g_iconst (v := (-1)) K d_c11_refusesSaying_28 (by decide) ?_
    obtain rfl := Option.some.inj hy
    exact hret rfl _ _ _ d_c11_refusesSaying_29
  · rw [if_neg c2] at hy
    refine g_iload_n K d_c11_refusesSaying_8 3 rfl ?_
    refine g_iconst (v := 1) K d_c11_refusesSaying_9 (by decide) ?_
    refine g_bipush (v := 9) K d_c11_refusesSaying_10 (by decide) ?_
    obtain ⟨q3, e_q3, hy⟩ := gBd hy
    refine g_callSi (rest := []) K hx ly_c11_in ks_c11_105 d_c11_refusesSaying_12 (ct_c11_in M.2.1 X hx N x3 (1 : Int32) (9 : Int32) h q3 e_q3) rfl rfl (Nat.le_of_ble_eq_true rfl) (gDep rfl) ⟨Nat.le_refl 0, Nat.le_refl 0⟩ ?_
    refine g_if_eq K d_c11_refusesSaying_15 (fun c4 => ?_) (fun c4 => ?_)
    · rw [if_pos c4] at hy
      refine g_iconst (v := (-1)) K d_c11_refusesSaying_28 (by decide) ?_
      obtain rfl := Option.some.inj hy
      exact hret rfl _ _ _ d_c11_refusesSaying_29
    · rw [if_neg c4] at hy
      refine g_iload K d_c11_refusesSaying_18 4 rfl ?_
      refine g_iconst (v := 0) K d_c11_refusesSaying_20 (by decide) ?_
      refine g_iconst (v := 1) K d_c11_refusesSaying_21 (by decide) ?_
      obtain ⟨q5, e_q5, hy⟩ := gBd hy
      refine g_callSi (rest := []) K hx ly_c11_in ks_c11_105 d_c11_refusesSaying_22 (ct_c11_in M.2.1 X hx N x4 (0 : Int32) (1 : Int32) h q5 e_q5) rfl rfl (Nat.le_of_ble_eq_true rfl) (gDep rfl) ⟨Nat.le_refl 0, Nat.le_refl 0⟩ ?_
      refine g_if_ne K d_c11_refusesSaying_25 (fun c6 => ?_) (fun c6 => ?_)
      · rw [if_neg c6] at hy
        refine g_aload_n K d_c11_refusesSaying_30 1 rfl ?_
        refine g_iload_n K d_c11_refusesSaying_31 2 rfl ?_
        obtain ⟨q7, e_q7, hy⟩ := gBd hy
        refine g_callSi (rest := []) K hx ly_c11_wellOn ks_c11_174 d_c11_refusesSaying_32 (ct_c11_wellOn M.2.1 X hx N a1 x2 h q7 e_q7) rfl rfl (Nat.le_of_ble_eq_true rfl) (gDep rfl) ⟨Nat.le_refl 0, Nat.le_refl 0⟩ ?_
        refine g_iconst (v := (-1)) K d_c11_refusesSaying_35 (by decide) ?_
        refine g_icmp_eq K d_c11_refusesSaying_36 (fun c8 => ?_) (fun c8 => ?_)
        · rw [if_pos c8] at hy
          refine g_aload_n K d_c11_refusesSaying_42 1 rfl ?_
          refine g_bipush (v := 40) K d_c11_refusesSaying_43 (by decide) ?_
          obtain ⟨v9, e_v9, hy⟩ := gBd hy
          refine g_iald K d_c11_refusesSaying_45 e_v9 ?_
          refine g_bipush (v := 8) K d_c11_refusesSaying_46 (by decide) ?_
          have hJ12 : ∀ w11 : Int32, w11 = (if v9 = (8 : Int32) then (-3 : Int32) else (0 : Int32)) → gG M X 5 0 0 57 [(0, .ref a0), (1, .ref a1), (2, .int x2), (3, .int x3), (4, .int x4)] [.int w11] h := by
            intro w11 e_w11
            subst e_w11
            obtain rfl := Option.some.inj hy
            exact hret rfl _ _ _ d_c11_refusesSaying_57
          refine g_icmp_ne K d_c11_refusesSaying_48 (fun c10 => ?_) (fun c10 => ?_)
          · refine g_iconst (v := 0) K d_c11_refusesSaying_56 (by decide) ?_
            exact hJ12 _ (by rw [if_neg c10])
          · refine g_bipush (v := (-3)) K d_c11_refusesSaying_51 (by decide) ?_
            refine g_goto K d_c11_refusesSaying_53 ?_
            exact hJ12 _ (by rw [if_pos c10])
        · rw [if_neg c8] at hy
          refine g_bipush (v := (-2)) K d_c11_refusesSaying_39 (by decide) ?_
          obtain rfl := Option.some.inj hy
          exact hret rfl _ _ _ d_c11_refusesSaying_41
      · rw [if_pos c6] at hy
        refine g_iconst (v := (-1)) K d_c11_refusesSaying_28 (by decide) ?_
        obtain rfl := Option.some.inj hy
        exact hret rfl _ _ _ d_c11_refusesSaying_29
-- c11 repents
theorem d_c11_repents_0 : gD b_c11_repents 0 (.aload_n 0) 1 1 := ⟨by decide +kernel, rfl⟩
theorem d_c11_repents_1 : gD b_c11_repents 1 (.iconst 0) 1 2 := ⟨by decide +kernel, rfl⟩
theorem d_c11_repents_2 : gD b_c11_repents 2 (.putfield 95) 3 5 := ⟨by decide +kernel, rfl⟩
theorem d_c11_repents_5 : gD b_c11_repents 5 (.aload_n 0) 1 6 := ⟨by decide +kernel, rfl⟩
theorem d_c11_repents_6 : gD b_c11_repents 6 (.iload_n 1) 1 7 := ⟨by decide +kernel, rfl⟩
theorem d_c11_repents_7 : gD b_c11_repents 7 (.invokevirtual 233) 3 10 := ⟨by decide +kernel, rfl⟩
theorem d_c11_repents_10 : gJ b_c11_repents 10 (.ifCond .ne 5) 3 5 13 15 := ⟨by decide +kernel, rfl, by decide⟩
theorem d_c11_repents_13 : gD b_c11_repents 13 (.iconst (-1)) 1 14 := ⟨by decide +kernel, rfl⟩
theorem d_c11_repents_14 : gD b_c11_repents 14 .ireturn 1 15 := ⟨by decide +kernel, rfl⟩
theorem d_c11_repents_15 : gD b_c11_repents 15 (.aload_n 0) 1 16 := ⟨by decide +kernel, rfl⟩
theorem d_c11_repents_16 : gD b_c11_repents 16 (.aload_n 0) 1 17 := ⟨by decide +kernel, rfl⟩
theorem d_c11_repents_17 : gD b_c11_repents 17 (.getfield 9) 3 20 := ⟨by decide +kernel, rfl⟩
theorem d_c11_repents_20 : gD b_c11_repents 20 (.invokevirtual 260) 3 23 := ⟨by decide +kernel, rfl⟩
theorem d_c11_repents_23 : gD b_c11_repents 23 (.aload_n 0) 1 24 := ⟨by decide +kernel, rfl⟩
theorem d_c11_repents_24 : gD b_c11_repents 24 (.getfield 9) 3 27 := ⟨by decide +kernel, rfl⟩
theorem d_c11_repents_27 : gD b_c11_repents 27 (.bipush 16) 2 29 := ⟨by decide +kernel, rfl⟩
theorem d_c11_repents_29 : gD b_c11_repents 29 (.iload_n 1) 1 30 := ⟨by decide +kernel, rfl⟩
theorem d_c11_repents_30 : gD b_c11_repents 30 .iadd 1 31 := ⟨by decide +kernel, rfl⟩
theorem d_c11_repents_31 : gD b_c11_repents 31 (.iconst 1) 1 32 := ⟨by decide +kernel, rfl⟩
theorem d_c11_repents_32 : gD b_c11_repents 32 (.aload_n 0) 1 33 := ⟨by decide +kernel, rfl⟩
theorem d_c11_repents_33 : gD b_c11_repents 33 (.getfield 9) 3 36 := ⟨by decide +kernel, rfl⟩
theorem d_c11_repents_36 : gD b_c11_repents 36 (.bipush 16) 2 38 := ⟨by decide +kernel, rfl⟩
theorem d_c11_repents_38 : gD b_c11_repents 38 (.iload_n 1) 1 39 := ⟨by decide +kernel, rfl⟩
theorem d_c11_repents_39 : gD b_c11_repents 39 .iadd 1 40 := ⟨by decide +kernel, rfl⟩
theorem d_c11_repents_40 : gD b_c11_repents 40 .iaload 1 41 := ⟨by decide +kernel, rfl⟩
theorem d_c11_repents_41 : gD b_c11_repents 41 .isub 1 42 := ⟨by decide +kernel, rfl⟩
theorem d_c11_repents_42 : gD b_c11_repents 42 .iastore 1 43 := ⟨by decide +kernel, rfl⟩
theorem d_c11_repents_43 : gD b_c11_repents 43 (.aload_n 0) 1 44 := ⟨by decide +kernel, rfl⟩
theorem d_c11_repents_44 : gD b_c11_repents 44 (.getfield 9) 3 47 := ⟨by decide +kernel, rfl⟩
theorem d_c11_repents_47 : gD b_c11_repents 47 (.iload_n 1) 1 48 := ⟨by decide +kernel, rfl⟩
theorem d_c11_repents_48 : gD b_c11_repents 48 (.invokestatic 217) 3 51 := ⟨by decide +kernel, rfl⟩
theorem d_c11_repents_51 : gD b_c11_repents 51 .ireturn 1 52 := ⟨by decide +kernel, rfl⟩
def f_c11_repents (N : Nat) (a0 : Nat) (x1 : Int32) (h : gH) : Option (Int32 × gH) :=
  (gcl h a0 11).bind fun _ =>
  (sf h a0 11 10 (.int (0 : Int32))).bind fun h1 =>
    (f_c11_isWell N a0 x1 h1).bind fun q2 =>
    if q2 = 0 then
    some ((-1 : Int32), h1)
  else
    (gfR h1 a0 11 0).bind fun v4 =>
    (f_c11_remember N a0 v4 h1).bind fun q5 =>
    (gfR q5 a0 11 0).bind fun v6 =>
    (gfR q5 a0 11 0).bind fun v7 =>
    (ga 0 q5 v7 ((16 : Int32) + x1)).bind fun v8 =>
    (sa 0 q5 v6 ((16 : Int32) + x1) ((1 : Int32) - v8)).bind fun h9 =>
    (gfR h9 a0 11 0).bind fun v10 =>
    (f_c11_depthOf N v10 x1 h9).bind fun q11 =>
    some (q11, h9)
set_option maxHeartbeats 4000000 in
set_option maxRecDepth 100000 in
theorem ct_c11_repents (l : Launch) (X : gX) (hx : gEx X = false) (N : Nat) (a0 : Nat) (x1 : Int32) (h : gH) (q : Int32 × gH) (hy : f_c11_repents N a0 x1 h = some q) : gRc y_c11_repents h a0 ∧ gMi l X y_c11_repents b_c11_repents 2 .int (3 + N) 0 0 [.ref a0, .int x1] h q.1 q.2 := by
  unfold f_c11_repents at hy
  obtain ⟨u0, e_u0, hy⟩ := gBd hy
  cases u0
  refine ⟨Or.inl ⟨11, _, _, e_u0, rfl⟩, gMet_i (lsx := [(0, .ref a0), (1, .int x1)]) (by decide) rfl rfl ?_⟩
  intro M hMl K hret
  subst hMl
  refine g_aload_n K d_c11_repents_0 0 rfl ?_
  refine g_iconst (v := 0) K d_c11_repents_1 (by decide) ?_
  obtain ⟨h1, e_h1, hy⟩ := gBd hy
  refine g_putI K fp_c11_95 d_c11_repents_2 e_h1 ?_
  refine g_aload_n K d_c11_repents_5 0 rfl ?_
  refine g_iload_n K d_c11_repents_6 1 rfl ?_
  obtain ⟨q2, e_q2, hy⟩ := gBd hy
  refine g_callVi (rest := []) K hx ly_c11_isWell kv_c11_233 d_c11_repents_7 (ct_c11_isWell M.2.1 X hx N a0 x1 h1 q2 e_q2) rfl rfl (Nat.le_of_ble_eq_true rfl) (gDep rfl) ⟨Nat.le_refl 0, Nat.le_refl 0⟩ ?_
  refine g_if_ne K d_c11_repents_10 (fun c3 => ?_) (fun c3 => ?_)
  · rw [if_neg c3] at hy
    refine g_aload_n K d_c11_repents_15 0 rfl ?_
    refine g_aload_n K d_c11_repents_16 0 rfl ?_
    obtain ⟨v4, e_v4, hy⟩ := gBd hy
    refine g_getR K fl_c11_9 d_c11_repents_17 e_v4 ?_
    obtain ⟨q5, e_q5, hy⟩ := gBd hy
    refine g_callVv (rest := []) K hx ly_c11_remember kv_c11_260 d_c11_repents_20 (ct_c11_remember M.2.1 X hx N a0 v4 h1 q5 e_q5) rfl rfl (Nat.le_of_ble_eq_true rfl) (gDep rfl) ⟨Nat.le_refl 0, Nat.le_refl 0⟩ ?_
    refine g_aload_n K d_c11_repents_23 0 rfl ?_
    obtain ⟨v6, e_v6, hy⟩ := gBd hy
    refine g_getR K fl_c11_9 d_c11_repents_24 e_v6 ?_
    refine g_bipush (v := 16) K d_c11_repents_27 (by decide) ?_
    refine g_iload_n K d_c11_repents_29 1 rfl ?_
    refine g_iadd K d_c11_repents_30 ?_
    refine g_iconst (v := 1) K d_c11_repents_31 (by decide) ?_
    refine g_aload_n K d_c11_repents_32 0 rfl ?_
    obtain ⟨v7, e_v7, hy⟩ := gBd hy
    refine g_getR K fl_c11_9 d_c11_repents_33 e_v7 ?_
    refine g_bipush (v := 16) K d_c11_repents_36 (by decide) ?_
    refine g_iload_n K d_c11_repents_38 1 rfl ?_
    refine g_iadd K d_c11_repents_39 ?_
    obtain ⟨v8, e_v8, hy⟩ := gBd hy
    refine g_iald K d_c11_repents_40 e_v8 ?_
    refine g_isub K d_c11_repents_41 ?_
    obtain ⟨h9, e_h9, hy⟩ := gBd hy
    refine g_iast K d_c11_repents_42 e_h9 ?_
    refine g_aload_n K d_c11_repents_43 0 rfl ?_
    obtain ⟨v10, e_v10, hy⟩ := gBd hy
    refine g_getR K fl_c11_9 d_c11_repents_44 e_v10 ?_
    refine g_iload_n K d_c11_repents_47 1 rfl ?_
    obtain ⟨q11, e_q11, hy⟩ := gBd hy
    refine g_callSi (rest := []) K hx ly_c11_depthOf ks_c11_217 d_c11_repents_48 (ct_c11_depthOf M.2.1 X hx N v10 x1 h9 q11 e_q11) rfl rfl (Nat.le_of_ble_eq_true rfl) (gDep rfl) ⟨Nat.le_refl 0, Nat.le_refl 0⟩ ?_
    obtain rfl := Option.some.inj hy
    exact hret rfl _ _ _ d_c11_repents_51
  · rw [if_pos c3] at hy
    refine g_iconst (v := (-1)) K d_c11_repents_13 (by decide) ?_
    obtain rfl := Option.some.inj hy
    exact hret rfl _ _ _ d_c11_repents_14
-- c11 square
theorem d_c11_square_0 : gD b_c11_square 0 (.aload_n 0) 1 1 := ⟨by decide +kernel, rfl⟩
theorem d_c11_square_1 : gD b_c11_square 1 (.iconst 0) 1 2 := ⟨by decide +kernel, rfl⟩
theorem d_c11_square_2 : gD b_c11_square 2 (.putfield 95) 3 5 := ⟨by decide +kernel, rfl⟩
theorem d_c11_square_5 : gD b_c11_square 5 (.aload_n 0) 1 6 := ⟨by decide +kernel, rfl⟩
theorem d_c11_square_6 : gD b_c11_square 6 (.iconst 0) 1 7 := ⟨by decide +kernel, rfl⟩
theorem d_c11_square_7 : gD b_c11_square 7 (.putfield 98) 3 10 := ⟨by decide +kernel, rfl⟩
theorem d_c11_square_10 : gD b_c11_square 10 (.aload_n 0) 1 11 := ⟨by decide +kernel, rfl⟩
theorem d_c11_square_11 : gD b_c11_square 11 (.getfield 13) 3 14 := ⟨by decide +kernel, rfl⟩
theorem d_c11_square_14 : gD b_c11_square 14 (.aload_n 0) 1 15 := ⟨by decide +kernel, rfl⟩
theorem d_c11_square_15 : gD b_c11_square 15 (.getfield 17) 3 18 := ⟨by decide +kernel, rfl⟩
theorem d_c11_square_18 : gD b_c11_square 18 (.invokestatic 224) 3 21 := ⟨by decide +kernel, rfl⟩
theorem d_c11_square_21 : gD b_c11_square 21 (.istore_n 1) 1 22 := ⟨by decide +kernel, rfl⟩
theorem d_c11_square_22 : gD b_c11_square 22 (.iload_n 1) 1 23 := ⟨by decide +kernel, rfl⟩
theorem d_c11_square_23 : gJ b_c11_square 23 (.ifCond .le 45) 3 45 26 68 := ⟨by decide +kernel, rfl, by decide⟩
theorem d_c11_square_26 : gD b_c11_square 26 (.iconst 0) 1 27 := ⟨by decide +kernel, rfl⟩
theorem d_c11_square_27 : gD b_c11_square 27 (.istore_n 2) 1 28 := ⟨by decide +kernel, rfl⟩
theorem d_c11_square_28 : gD b_c11_square 28 (.iload_n 2) 1 29 := ⟨by decide +kernel, rfl⟩
theorem d_c11_square_29 : gD b_c11_square 29 (.aload_n 0) 1 30 := ⟨by decide +kernel, rfl⟩
theorem d_c11_square_30 : gD b_c11_square 30 (.invokevirtual 101) 3 33 := ⟨by decide +kernel, rfl⟩
theorem d_c11_square_33 : gJ b_c11_square 33 (.if_icmp .ge 29) 3 29 36 62 := ⟨by decide +kernel, rfl, by decide⟩
theorem d_c11_square_36 : gD b_c11_square 36 (.aload_n 0) 1 37 := ⟨by decide +kernel, rfl⟩
theorem d_c11_square_37 : gD b_c11_square 37 (.iload_n 2) 1 38 := ⟨by decide +kernel, rfl⟩
theorem d_c11_square_38 : gD b_c11_square 38 (.iload_n 1) 1 39 := ⟨by decide +kernel, rfl⟩
theorem d_c11_square_39 : gD b_c11_square 39 (.invokevirtual 326) 3 42 := ⟨by decide +kernel, rfl⟩
theorem d_c11_square_42 : gJ b_c11_square 42 (.ifCond .ne 6) 3 6 45 48 := ⟨by decide +kernel, rfl, by decide⟩
theorem d_c11_square_45 : gJ b_c11_square 45 (.goto 11) 3 11 48 56 := ⟨by decide +kernel, rfl, by decide⟩
theorem d_c11_square_48 : gD b_c11_square 48 (.aload_n 0) 1 49 := ⟨by decide +kernel, rfl⟩
theorem d_c11_square_49 : gD b_c11_square 49 (.iload_n 2) 1 50 := ⟨by decide +kernel, rfl⟩
theorem d_c11_square_50 : gD b_c11_square 50 .i2l 1 51 := ⟨by decide +kernel, rfl⟩
theorem d_c11_square_51 : gD b_c11_square 51 (.invokevirtual 268) 3 54 := ⟨by decide +kernel, rfl⟩
theorem d_c11_square_54 : gD b_c11_square 54 (.iload_n 1) 1 55 := ⟨by decide +kernel, rfl⟩
theorem d_c11_square_55 : gD b_c11_square 55 .ireturn 1 56 := ⟨by decide +kernel, rfl⟩
theorem d_c11_square_56 : gD b_c11_square 56 (.iinc 2 1) 3 59 := ⟨by decide +kernel, rfl⟩
theorem d_c11_square_59 : gJ b_c11_square 59 (.goto (-31)) 3 (-31) 62 28 := ⟨by decide +kernel, rfl, by decide⟩
theorem d_c11_square_62 : gD b_c11_square 62 (.iinc 1 (-1)) 3 65 := ⟨by decide +kernel, rfl⟩
theorem d_c11_square_65 : gJ b_c11_square 65 (.goto (-43)) 3 (-43) 68 22 := ⟨by decide +kernel, rfl, by decide⟩
theorem d_c11_square_68 : gD b_c11_square 68 (.iconst 0) 1 69 := ⟨by decide +kernel, rfl⟩
theorem d_c11_square_69 : gD b_c11_square 69 .ireturn 1 70 := ⟨by decide +kernel, rfl⟩
def lp_c11_square_28 (N : Nat) (a0 : Nat) (x1 : Int32) : Nat → Int32 → gH → Option ((Int32 × gH) ⊕ (gH))
  | 0, _, _ => none
  | k + 1, x2, h =>
  (f_c11_fields N a0 h).bind fun q6 =>
    if q6 ≤ x2 then
    some (.inr h)
  else
    (f_c11_isClear N a0 x2 x1 h).bind fun q8 =>
    if q8 = 0 then
    lp_c11_square_28 N a0 x1 k (x2 + (1 : Int32)) h
  else
    (f_c11_tell N a0 x2.toInt64 h).bind fun q10 =>
    some (.inl (x1, q10))
def lp_c11_square_22 (N : Nat) (a0 : Nat) : Nat → Int32 → gH → Option ((Int32 × gH) ⊕ (gH))
  | 0, _, _ => none
  | k + 1, x1, h =>
  if x1 ≤ 0 then
    some (.inr h)
  else
    (lp_c11_square_28 N a0 x1 N (0 : Int32) h).bind fun o11 => Sum.elim (fun r13 => some (.inl r13)) (fun t12 =>
    lp_c11_square_22 N a0 k (x1 + (-1 : Int32)) t12) o11
def f_c11_square (N : Nat) (a0 : Nat) (h : gH) : Option (Int32 × gH) :=
  (gcl h a0 11).bind fun _ =>
  (sf h a0 11 10 (.int (0 : Int32))).bind fun h1 =>
    (sf h1 a0 11 9 (.int (0 : Int32))).bind fun h2 =>
    (gfI h2 a0 11 1).bind fun v3 =>
    (gfI h2 a0 11 2).bind fun v4 =>
    (lp_c11_square_22 N a0 N (gmin v3 v4) h2).bind fun o15 => Sum.elim (fun r17 => some r17) (fun t16 =>
    some ((0 : Int32), t16)) o15
set_option maxHeartbeats 4000000 in
set_option maxRecDepth 100000 in
theorem wlp_c11_square_28 {M : gM} {X : gX} {N : Nat} (hx : gEx X = false) (K : gC M X gN11 b_c11_square 3 (gRm (3 + N) 0 0)) (a0 : Nat) (x1 : Int32) : ∀ (k : Nat) (x2 : Int32) (h : gH) (o : (Int32 × gH) ⊕ (gH)), lp_c11_square_28 N a0 x1 k x2 h = some o → (∀ t, o = .inr t → gG M X 3 0 0 62 [(0, .ref a0), (1, .int x1)] [] t) → (∀ r, o = .inl r → (narrow .int (.int r.1) = .int r.1 → ∀ pc pc' ls, gD b_c11_square pc .ireturn 1 pc' → gG M X 3 0 0 pc ls [.int r.1] r.2)) → gG M X 3 0 0 28 [(0, .ref a0), (1, .int x1), (2, .int x2)] [] h := by
  intro k
  induction k with
  | zero =>
    intro x2 h o hy
    rw [lp_c11_square_28.eq_1] at hy
    cases hy
  | succ k ih =>
    intro x2 h o hy hE hR
    rw [lp_c11_square_28.eq_2] at hy
    refine g_iload_n K d_c11_square_28 2 rfl ?_
    refine g_aload_n K d_c11_square_29 0 rfl ?_
    obtain ⟨q6, e_q6, hy⟩ := gBd hy
    refine g_callVi (rest := [.int x2]) K hx ly_c11_fields kv_c11_101 d_c11_square_30 (ct_c11_fields M.2.1 X hx N a0 h q6 e_q6) rfl rfl (Nat.le_of_ble_eq_true rfl) (gDep rfl) ⟨Nat.le_refl 0, Nat.le_refl 0⟩ ?_
    refine g_icmp_ge K d_c11_square_33 (fun c7 => ?_) (fun c7 => ?_)
    · rw [if_pos c7] at hy
      refine g_sub (ls2 := [(0, .ref a0), (1, .int x1)]) [0, 1] rfl ?_
      obtain rfl := Option.some.inj hy
      exact hE _ rfl
    · rw [if_neg c7] at hy
      refine g_aload_n K d_c11_square_36 0 rfl ?_
      refine g_iload_n K d_c11_square_37 2 rfl ?_
      refine g_iload_n K d_c11_square_38 1 rfl ?_
      obtain ⟨q8, e_q8, hy⟩ := gBd hy
      refine g_callVi (rest := []) K hx ly_c11_isClear kv_c11_326 d_c11_square_39 (ct_c11_isClear M.2.1 X hx N a0 x2 x1 h q8 e_q8) rfl rfl (Nat.le_of_ble_eq_true rfl) (gDep rfl) ⟨Nat.le_refl 0, Nat.le_refl 0⟩ ?_
      refine g_if_ne K d_c11_square_42 (fun c9 => ?_) (fun c9 => ?_)
      · rw [if_neg c9] at hy
        refine g_aload_n K d_c11_square_48 0 rfl ?_
        refine g_iload_n K d_c11_square_49 2 rfl ?_
        refine g_i2l K d_c11_square_50 ?_
        obtain ⟨q10, e_q10, hy⟩ := gBd hy
        refine g_callVv (rest := []) K hx ly_c11_tell kv_c11_268 d_c11_square_51 (ct_c11_tell M.2.1 X hx N a0 x2.toInt64 h q10 e_q10) rfl rfl (Nat.le_of_ble_eq_true rfl) (gDep rfl) ⟨Nat.le_refl 0, Nat.le_refl 0⟩ ?_
        refine g_iload_n K d_c11_square_54 1 rfl ?_
        obtain rfl := Option.some.inj hy
        exact hR _ rfl rfl _ _ _ d_c11_square_55
      · rw [if_pos c9] at hy
        refine g_goto K d_c11_square_45 ?_
        refine g_iinc (ls2 := [(2, .int (x2 + (1 : Int32))), (0, .ref a0), (1, .int x1)]) (v := 1) K d_c11_square_56 2 rfl (by decide) rfl rfl ?_
        refine g_goto K d_c11_square_59 ?_
        refine g_sub (ls2 := [(0, .ref a0), (1, .int x1), (2, .int (x2 + (1 : Int32)))]) [1, 2, 0] rfl ?_
        exact ih _ _ _ hy hE hR
set_option maxHeartbeats 4000000 in
set_option maxRecDepth 100000 in
theorem wlp_c11_square_22 {M : gM} {X : gX} {N : Nat} (hx : gEx X = false) (K : gC M X gN11 b_c11_square 3 (gRm (3 + N) 0 0)) (a0 : Nat) : ∀ (k : Nat) (x1 : Int32) (h : gH) (o : (Int32 × gH) ⊕ (gH)), lp_c11_square_22 N a0 k x1 h = some o → (∀ t, o = .inr t → gG M X 3 0 0 68 [] [] t) → (∀ r, o = .inl r → (narrow .int (.int r.1) = .int r.1 → ∀ pc pc' ls, gD b_c11_square pc .ireturn 1 pc' → gG M X 3 0 0 pc ls [.int r.1] r.2)) → gG M X 3 0 0 22 [(0, .ref a0), (1, .int x1)] [] h := by
  intro k
  induction k with
  | zero =>
    intro x1 h o hy
    rw [lp_c11_square_22.eq_1] at hy
    cases hy
  | succ k ih =>
    intro x1 h o hy hE hR
    rw [lp_c11_square_22.eq_2] at hy
    refine g_iload_n K d_c11_square_22 1 rfl ?_
    refine g_if_le K d_c11_square_23 (fun c5 => ?_) (fun c5 => ?_)
    · rw [if_pos c5] at hy
      refine g_sub (ls2 := []) [] rfl ?_
      obtain rfl := Option.some.inj hy
      exact hE _ rfl
    · rw [if_neg c5] at hy
      refine g_iconst (v := 0) K d_c11_square_26 (by decide) ?_
      refine g_istore_n (ls2 := [(2, .int (0 : Int32)), (0, .ref a0), (1, .int x1)]) K d_c11_square_27 rfl rfl ?_
      obtain ⟨o11, e_o11, hy⟩ := gBd hy
      refine g_sub (ls2 := [(0, .ref a0), (1, .int x1), (2, .int (0 : Int32))]) [1, 2, 0] rfl ?_
      refine wlp_c11_square_28 hx K a0 x1 N (0 : Int32) h o11 e_o11 (fun t12 e_t12 => ?_) (fun r13 e_r13 => ?_)
      · subst e_t12
        simp only [Sum.elim_inr] at hy
        refine g_iinc (ls2 := [(1, .int (x1 + (-1 : Int32))), (0, .ref a0)]) (v := (-1)) K d_c11_square_62 1 rfl (by decide) rfl rfl ?_
        refine g_goto K d_c11_square_65 ?_
        refine g_sub (ls2 := [(0, .ref a0), (1, .int (x1 + (-1 : Int32)))]) [1, 0] rfl ?_
        exact ih _ _ _ hy hE hR
      · subst e_r13
        simp only [Sum.elim_inl] at hy
        intro hn pc9 pc9' ls9 hd9
        obtain rfl := Option.some.inj hy
        exact hR _ rfl hn _ _ _ hd9
set_option maxHeartbeats 4000000 in
set_option maxRecDepth 100000 in
theorem ct_c11_square (l : Launch) (X : gX) (hx : gEx X = false) (N : Nat) (a0 : Nat) (h : gH) (q : Int32 × gH) (hy : f_c11_square N a0 h = some q) : gRc y_c11_square h a0 ∧ gMi l X y_c11_square b_c11_square 3 .int (3 + N) 0 0 [.ref a0] h q.1 q.2 := by
  unfold f_c11_square at hy
  obtain ⟨u0, e_u0, hy⟩ := gBd hy
  cases u0
  refine ⟨Or.inl ⟨11, _, _, e_u0, rfl⟩, gMet_i (lsx := [(0, .ref a0)]) (by decide) rfl rfl ?_⟩
  intro M hMl K hret
  subst hMl
  refine g_aload_n K d_c11_square_0 0 rfl ?_
  refine g_iconst (v := 0) K d_c11_square_1 (by decide) ?_
  obtain ⟨h1, e_h1, hy⟩ := gBd hy
  refine g_putI K fp_c11_95 d_c11_square_2 e_h1 ?_
  refine g_aload_n K d_c11_square_5 0 rfl ?_
  refine g_iconst (v := 0) K d_c11_square_6 (by decide) ?_
  obtain ⟨h2, e_h2, hy⟩ := gBd hy
  refine g_putI K fp_c11_98 d_c11_square_7 e_h2 ?_
  refine g_aload_n K d_c11_square_10 0 rfl ?_
  obtain ⟨v3, e_v3, hy⟩ := gBd hy
  refine g_getI K fl_c11_13 d_c11_square_11 e_v3 ?_
  refine g_aload_n K d_c11_square_14 0 rfl ?_
  obtain ⟨v4, e_v4, hy⟩ := gBd hy
  refine g_getI K fl_c11_17 d_c11_square_15 e_v4 ?_
  refine g_mmin K d_c11_square_18 (gTk_6 130 rfl rfl) (gTk_2 41 rfl rfl) (gTk_1 12 rfl rfl) (gTk_2 42 rfl rfl) (gDep1 rfl) (Nat.le_of_ble_eq_true rfl) ⟨Nat.le_refl 0, Nat.le_refl 0⟩ ?_
  refine g_istore_n (ls2 := [(1, .int (gmin v3 v4)), (0, .ref a0)]) K d_c11_square_21 rfl rfl ?_
  obtain ⟨o15, e_o15, hy⟩ := gBd hy
  refine g_sub (ls2 := [(0, .ref a0), (1, .int (gmin v3 v4))]) [1, 0] rfl ?_
  refine wlp_c11_square_22 hx K a0 N (gmin v3 v4) h2 o15 e_o15 (fun t16 e_t16 => ?_) (fun r17 e_r17 => ?_)
  · subst e_t16
    simp only [Sum.elim_inr] at hy
    refine g_iconst (v := 0) K d_c11_square_68 (by decide) ?_
    obtain rfl := Option.some.inj hy
    exact hret rfl _ _ _ d_c11_square_69
  · subst e_r17
    simp only [Sum.elim_inl] at hy
    intro hn pc9 pc9' ls9 hd9
    obtain rfl := Option.some.inj hy
    exact hret hn _ _ _ hd9
-- c11 twins
theorem d_c11_twins_0 : gD b_c11_twins 0 (.aload_n 0) 1 1 := ⟨by decide +kernel, rfl⟩
theorem d_c11_twins_1 : gD b_c11_twins 1 (.iconst 0) 1 2 := ⟨by decide +kernel, rfl⟩
theorem d_c11_twins_2 : gD b_c11_twins 2 (.putfield 95) 3 5 := ⟨by decide +kernel, rfl⟩
theorem d_c11_twins_5 : gD b_c11_twins 5 (.ldc_w 311) 3 8 := ⟨by decide +kernel, rfl⟩
theorem d_c11_twins_8 : gD b_c11_twins 8 (.istore_n 1) 1 9 := ⟨by decide +kernel, rfl⟩
theorem d_c11_twins_9 : gD b_c11_twins 9 (.iconst (-1)) 1 10 := ⟨by decide +kernel, rfl⟩
theorem d_c11_twins_10 : gD b_c11_twins 10 (.istore_n 2) 1 11 := ⟨by decide +kernel, rfl⟩
theorem d_c11_twins_11 : gD b_c11_twins 11 (.iconst (-1)) 1 12 := ⟨by decide +kernel, rfl⟩
theorem d_c11_twins_12 : gD b_c11_twins 12 (.istore_n 3) 1 13 := ⟨by decide +kernel, rfl⟩
theorem d_c11_twins_13 : gD b_c11_twins 13 (.iconst 0) 1 14 := ⟨by decide +kernel, rfl⟩
theorem d_c11_twins_14 : gD b_c11_twins 14 (.istore 4) 2 16 := ⟨by decide +kernel, rfl⟩
theorem d_c11_twins_16 : gD b_c11_twins 16 (.iload 4) 2 18 := ⟨by decide +kernel, rfl⟩
theorem d_c11_twins_18 : gD b_c11_twins 18 (.aload_n 0) 1 19 := ⟨by decide +kernel, rfl⟩
theorem d_c11_twins_19 : gD b_c11_twins 19 (.getfield 9) 3 22 := ⟨by decide +kernel, rfl⟩
theorem d_c11_twins_22 : gD b_c11_twins 22 (.bipush 40) 2 24 := ⟨by decide +kernel, rfl⟩
theorem d_c11_twins_24 : gD b_c11_twins 24 .iaload 1 25 := ⟨by decide +kernel, rfl⟩
theorem d_c11_twins_25 : gJ b_c11_twins 25 (.if_icmp .ge 83) 3 83 28 108 := ⟨by decide +kernel, rfl, by decide⟩
theorem d_c11_twins_28 : gD b_c11_twins 28 (.iload 4) 2 30 := ⟨by decide +kernel, rfl⟩
theorem d_c11_twins_30 : gD b_c11_twins 30 (.iconst 1) 1 31 := ⟨by decide +kernel, rfl⟩
theorem d_c11_twins_31 : gD b_c11_twins 31 .iadd 1 32 := ⟨by decide +kernel, rfl⟩
theorem d_c11_twins_32 : gD b_c11_twins 32 (.istore 5) 2 34 := ⟨by decide +kernel, rfl⟩
theorem d_c11_twins_34 : gD b_c11_twins 34 (.iload 5) 2 36 := ⟨by decide +kernel, rfl⟩
theorem d_c11_twins_36 : gD b_c11_twins 36 (.aload_n 0) 1 37 := ⟨by decide +kernel, rfl⟩
theorem d_c11_twins_37 : gD b_c11_twins 37 (.getfield 9) 3 40 := ⟨by decide +kernel, rfl⟩
theorem d_c11_twins_40 : gD b_c11_twins 40 (.bipush 40) 2 42 := ⟨by decide +kernel, rfl⟩
theorem d_c11_twins_42 : gD b_c11_twins 42 .iaload 1 43 := ⟨by decide +kernel, rfl⟩
theorem d_c11_twins_43 : gJ b_c11_twins 43 (.if_icmp .ge 59) 3 59 46 102 := ⟨by decide +kernel, rfl, by decide⟩
theorem d_c11_twins_46 : gD b_c11_twins 46 (.aload_n 0) 1 47 := ⟨by decide +kernel, rfl⟩
theorem d_c11_twins_47 : gD b_c11_twins 47 (.aload_n 0) 1 48 := ⟨by decide +kernel, rfl⟩
theorem d_c11_twins_48 : gD b_c11_twins 48 (.getfield 9) 3 51 := ⟨by decide +kernel, rfl⟩
theorem d_c11_twins_51 : gD b_c11_twins 51 (.iload 4) 2 53 := ⟨by decide +kernel, rfl⟩
theorem d_c11_twins_53 : gD b_c11_twins 53 .iaload 1 54 := ⟨by decide +kernel, rfl⟩
theorem d_c11_twins_54 : gD b_c11_twins 54 (.aload_n 0) 1 55 := ⟨by decide +kernel, rfl⟩
theorem d_c11_twins_55 : gD b_c11_twins 55 (.getfield 9) 3 58 := ⟨by decide +kernel, rfl⟩
theorem d_c11_twins_58 : gD b_c11_twins 58 (.iload 5) 2 60 := ⟨by decide +kernel, rfl⟩
theorem d_c11_twins_60 : gD b_c11_twins 60 .iaload 1 61 := ⟨by decide +kernel, rfl⟩
theorem d_c11_twins_61 : gD b_c11_twins 61 (.invokevirtual 220) 3 64 := ⟨by decide +kernel, rfl⟩
theorem d_c11_twins_64 : gD b_c11_twins 64 (.iload_n 1) 1 65 := ⟨by decide +kernel, rfl⟩
theorem d_c11_twins_65 : gJ b_c11_twins 65 (.if_icmp .lt 6) 3 6 68 71 := ⟨by decide +kernel, rfl, by decide⟩
theorem d_c11_twins_68 : gJ b_c11_twins 68 (.goto 28) 3 28 71 96 := ⟨by decide +kernel, rfl, by decide⟩
theorem d_c11_twins_71 : gD b_c11_twins 71 (.aload_n 0) 1 72 := ⟨by decide +kernel, rfl⟩
theorem d_c11_twins_72 : gD b_c11_twins 72 (.aload_n 0) 1 73 := ⟨by decide +kernel, rfl⟩
theorem d_c11_twins_73 : gD b_c11_twins 73 (.getfield 9) 3 76 := ⟨by decide +kernel, rfl⟩
theorem d_c11_twins_76 : gD b_c11_twins 76 (.iload 4) 2 78 := ⟨by decide +kernel, rfl⟩
theorem d_c11_twins_78 : gD b_c11_twins 78 .iaload 1 79 := ⟨by decide +kernel, rfl⟩
theorem d_c11_twins_79 : gD b_c11_twins 79 (.aload_n 0) 1 80 := ⟨by decide +kernel, rfl⟩
theorem d_c11_twins_80 : gD b_c11_twins 80 (.getfield 9) 3 83 := ⟨by decide +kernel, rfl⟩
theorem d_c11_twins_83 : gD b_c11_twins 83 (.iload 5) 2 85 := ⟨by decide +kernel, rfl⟩
theorem d_c11_twins_85 : gD b_c11_twins 85 .iaload 1 86 := ⟨by decide +kernel, rfl⟩
theorem d_c11_twins_86 : gD b_c11_twins 86 (.invokevirtual 220) 3 89 := ⟨by decide +kernel, rfl⟩
theorem d_c11_twins_89 : gD b_c11_twins 89 (.istore_n 1) 1 90 := ⟨by decide +kernel, rfl⟩
theorem d_c11_twins_90 : gD b_c11_twins 90 (.iload 4) 2 92 := ⟨by decide +kernel, rfl⟩
theorem d_c11_twins_92 : gD b_c11_twins 92 (.istore_n 2) 1 93 := ⟨by decide +kernel, rfl⟩
theorem d_c11_twins_93 : gD b_c11_twins 93 (.iload 5) 2 95 := ⟨by decide +kernel, rfl⟩
theorem d_c11_twins_95 : gD b_c11_twins 95 (.istore_n 3) 1 96 := ⟨by decide +kernel, rfl⟩
theorem d_c11_twins_96 : gD b_c11_twins 96 (.iinc 5 1) 3 99 := ⟨by decide +kernel, rfl⟩
theorem d_c11_twins_99 : gJ b_c11_twins 99 (.goto (-65)) 3 (-65) 102 34 := ⟨by decide +kernel, rfl, by decide⟩
theorem d_c11_twins_102 : gD b_c11_twins 102 (.iinc 4 1) 3 105 := ⟨by decide +kernel, rfl⟩
theorem d_c11_twins_105 : gJ b_c11_twins 105 (.goto (-89)) 3 (-89) 108 16 := ⟨by decide +kernel, rfl, by decide⟩
theorem d_c11_twins_108 : gD b_c11_twins 108 (.iload_n 1) 1 109 := ⟨by decide +kernel, rfl⟩
theorem d_c11_twins_109 : gD b_c11_twins 109 (.ldc_w 311) 3 112 := ⟨by decide +kernel, rfl⟩
theorem d_c11_twins_112 : gJ b_c11_twins 112 (.if_icmp .ne 6) 3 6 115 118 := ⟨by decide +kernel, rfl, by decide⟩
theorem d_c11_twins_115 : gD b_c11_twins 115 (.bipush (-2)) 2 117 := ⟨by decide +kernel, rfl⟩
theorem d_c11_twins_117 : gD b_c11_twins 117 .ireturn 1 118 := ⟨by decide +kernel, rfl⟩
theorem d_c11_twins_118 : gD b_c11_twins 118 (.aload_n 0) 1 119 := ⟨by decide +kernel, rfl⟩
theorem d_c11_twins_119 : gD b_c11_twins 119 (.iconst 0) 1 120 := ⟨by decide +kernel, rfl⟩
theorem d_c11_twins_120 : gD b_c11_twins 120 (.putfield 98) 3 123 := ⟨by decide +kernel, rfl⟩
theorem d_c11_twins_123 : gD b_c11_twins 123 (.aload_n 0) 1 124 := ⟨by decide +kernel, rfl⟩
theorem d_c11_twins_124 : gD b_c11_twins 124 (.iload_n 2) 1 125 := ⟨by decide +kernel, rfl⟩
theorem d_c11_twins_125 : gD b_c11_twins 125 .i2l 1 126 := ⟨by decide +kernel, rfl⟩
theorem d_c11_twins_126 : gD b_c11_twins 126 (.invokevirtual 268) 3 129 := ⟨by decide +kernel, rfl⟩
theorem d_c11_twins_129 : gD b_c11_twins 129 (.aload_n 0) 1 130 := ⟨by decide +kernel, rfl⟩
theorem d_c11_twins_130 : gD b_c11_twins 130 (.iload_n 3) 1 131 := ⟨by decide +kernel, rfl⟩
theorem d_c11_twins_131 : gD b_c11_twins 131 .i2l 1 132 := ⟨by decide +kernel, rfl⟩
theorem d_c11_twins_132 : gD b_c11_twins 132 (.invokevirtual 268) 3 135 := ⟨by decide +kernel, rfl⟩
theorem d_c11_twins_135 : gD b_c11_twins 135 (.iload_n 1) 1 136 := ⟨by decide +kernel, rfl⟩
theorem d_c11_twins_136 : gD b_c11_twins 136 .ireturn 1 137 := ⟨by decide +kernel, rfl⟩
def lp_c11_twins_34 (N : Nat) (a0 : Nat) (x4 : Int32) (h : gH) : Nat → Int32 → Int32 → Int32 → Int32 → Option (Int32 × Int32 × Int32)
  | 0, _, _, _, _ => none
  | k + 1, x1, x2, x3, x5 =>
  (gfR h a0 11 0).bind fun v5 =>
    (ga 0 h v5 (40 : Int32)).bind fun v6 =>
    if v6 ≤ x5 then
    some (x1, x2, x3)
  else
    (gfR h a0 11 0).bind fun v8 =>
    (ga 0 h v8 x4).bind fun v9 =>
    (gfR h a0 11 0).bind fun v10 =>
    (ga 0 h v10 x5).bind fun v11 =>
    (f_c11_farOf N a0 v9 v11 h).bind fun q12 =>
    (show Option (Int32 × Int32 × Int32) from if q12 < x1 then
    (gfR h a0 11 0).bind fun v16 =>
    (ga 0 h v16 x4).bind fun v17 =>
    (gfR h a0 11 0).bind fun v18 =>
    (ga 0 h v18 x5).bind fun v19 =>
    (f_c11_farOf N a0 v17 v19 h).bind fun q20 =>
    some (q20, x4, x5)
  else
    some (x1, x2, x3)).bind fun t14 =>
    lp_c11_twins_34 N a0 x4 h k t14.1 t14.2.1 t14.2.2 (x5 + (1 : Int32))
def lp_c11_twins_16 (N : Nat) (a0 : Nat) (h : gH) : Nat → Int32 → Int32 → Int32 → Int32 → Option (Int32 × Int32 × Int32)
  | 0, _, _, _, _ => none
  | k + 1, x1, x2, x3, x4 =>
  (gfR h a0 11 0).bind fun v2 =>
    (ga 0 h v2 (40 : Int32)).bind fun v3 =>
    if v3 ≤ x4 then
    some (x1, x2, x3)
  else
    (lp_c11_twins_34 N a0 x4 h N x1 x2 x3 (x4 + (1 : Int32))).bind fun o21 =>
    lp_c11_twins_16 N a0 h k o21.1 o21.2.1 o21.2.2 (x4 + (1 : Int32))
def f_c11_twins (N : Nat) (a0 : Nat) (h : gH) : Option (Int32 × gH) :=
  (gcl h a0 11).bind fun _ =>
  (sf h a0 11 10 (.int (0 : Int32))).bind fun h1 =>
    (lp_c11_twins_16 N a0 h1 N (1000000 : Int32) (-1 : Int32) (-1 : Int32) (0 : Int32)).bind fun o22 =>
    if o22.1 = (1000000 : Int32) then
    some ((-2 : Int32), h1)
  else
    (sf h1 a0 11 9 (.int (0 : Int32))).bind fun h24 =>
    (f_c11_tell N a0 o22.2.1.toInt64 h24).bind fun q25 =>
    (f_c11_tell N a0 o22.2.2.toInt64 q25).bind fun q26 =>
    some (o22.1, q26)
set_option maxHeartbeats 4000000 in
set_option maxRecDepth 100000 in
theorem wlp_c11_twins_34 {M : gM} {X : gX} {N : Nat} (hx : gEx X = false) (K : gC M X gN11 b_c11_twins 6 (gRm (3 + N) 0 0)) (a0 : Nat) (x4 : Int32) (h : gH) : ∀ (k : Nat) (x1 : Int32) (x2 : Int32) (x3 : Int32) (x5 : Int32) (o : Int32 × Int32 × Int32), lp_c11_twins_34 N a0 x4 h k x1 x2 x3 x5 = some o → gG M X 6 0 0 102 [(0, .ref a0), (1, .int o.1), (2, .int o.2.1), (3, .int o.2.2), (4, .int x4)] [] h → gG M X 6 0 0 34 [(0, .ref a0), (1, .int x1), (2, .int x2), (3, .int x3), (4, .int x4), (5, .int x5)] [] h := by
  intro k
  induction k with
  | zero =>
    intro x1 x2 x3 x5 o hy
    rw [lp_c11_twins_34.eq_1] at hy
    cases hy
  | succ k ih =>
    intro x1 x2 x3 x5 o hy hE
    rw [lp_c11_twins_34.eq_2] at hy
    refine g_iload K d_c11_twins_34 5 rfl ?_
    refine g_aload_n K d_c11_twins_36 0 rfl ?_
    obtain ⟨v5, e_v5, hy⟩ := gBd hy
    refine g_getR K fl_c11_9 d_c11_twins_37 e_v5 ?_
    refine g_bipush (v := 40) K d_c11_twins_40 (by decide) ?_
    obtain ⟨v6, e_v6, hy⟩ := gBd hy
    refine g_iald K d_c11_twins_42 e_v6 ?_
    refine g_icmp_ge K d_c11_twins_43 (fun c7 => ?_) (fun c7 => ?_)
    · rw [if_pos c7] at hy
      refine g_sub (ls2 := [(0, .ref a0), (1, .int x1), (2, .int x2), (3, .int x3), (4, .int x4)]) [0, 1, 2, 3, 4] rfl ?_
      obtain rfl := Option.some.inj hy
      exact hE
    · rw [if_neg c7] at hy
      refine g_aload_n K d_c11_twins_46 0 rfl ?_
      refine g_aload_n K d_c11_twins_47 0 rfl ?_
      obtain ⟨v8, e_v8, hy⟩ := gBd hy
      refine g_getR K fl_c11_9 d_c11_twins_48 e_v8 ?_
      refine g_iload K d_c11_twins_51 4 rfl ?_
      obtain ⟨v9, e_v9, hy⟩ := gBd hy
      refine g_iald K d_c11_twins_53 e_v9 ?_
      refine g_aload_n K d_c11_twins_54 0 rfl ?_
      obtain ⟨v10, e_v10, hy⟩ := gBd hy
      refine g_getR K fl_c11_9 d_c11_twins_55 e_v10 ?_
      refine g_iload K d_c11_twins_58 5 rfl ?_
      obtain ⟨v11, e_v11, hy⟩ := gBd hy
      refine g_iald K d_c11_twins_60 e_v11 ?_
      obtain ⟨q12, e_q12, hy⟩ := gBd hy
      refine g_callVi (rest := []) K hx ly_c11_farOf kv_c11_220 d_c11_twins_61 (ct_c11_farOf M.2.1 X hx N a0 v9 v11 h q12 e_q12) rfl rfl (Nat.le_of_ble_eq_true rfl) (gDep rfl) ⟨Nat.le_refl 0, Nat.le_refl 0⟩ ?_
      refine g_iload_n K d_c11_twins_64 1 rfl ?_
      obtain ⟨t14, e_t14, hy⟩ := gBd hy
      have hJ15 : gG M X 6 0 0 96 [(0, .ref a0), (1, .int t14.1), (2, .int t14.2.1), (3, .int t14.2.2), (4, .int x4), (5, .int x5)] [] h := by
        refine g_iinc (ls2 := [(5, .int (x5 + (1 : Int32))), (0, .ref a0), (1, .int t14.1), (2, .int t14.2.1), (3, .int t14.2.2), (4, .int x4)]) (v := 1) K d_c11_twins_96 5 rfl (by decide) rfl rfl ?_
        refine g_goto K d_c11_twins_99 ?_
        refine g_sub (ls2 := [(0, .ref a0), (1, .int t14.1), (2, .int t14.2.1), (3, .int t14.2.2), (4, .int x4), (5, .int (x5 + (1 : Int32)))]) [1, 2, 3, 4, 5, 0] rfl ?_
        exact ih _ _ _ _ _ hy hE
      refine g_icmp_lt K d_c11_twins_65 (fun c13 => ?_) (fun c13 => ?_)
      · rw [if_pos c13] at e_t14
        refine g_aload_n K d_c11_twins_71 0 rfl ?_
        refine g_aload_n K d_c11_twins_72 0 rfl ?_
        obtain ⟨v16, e_v16, e_t14⟩ := gBd e_t14
        refine g_getR K fl_c11_9 d_c11_twins_73 e_v16 ?_
        refine g_iload K d_c11_twins_76 4 rfl ?_
        obtain ⟨v17, e_v17, e_t14⟩ := gBd e_t14
        refine g_iald K d_c11_twins_78 e_v17 ?_
        refine g_aload_n K d_c11_twins_79 0 rfl ?_
        obtain ⟨v18, e_v18, e_t14⟩ := gBd e_t14
        refine g_getR K fl_c11_9 d_c11_twins_80 e_v18 ?_
        refine g_iload K d_c11_twins_83 5 rfl ?_
        obtain ⟨v19, e_v19, e_t14⟩ := gBd e_t14
        refine g_iald K d_c11_twins_85 e_v19 ?_
        obtain ⟨q20, e_q20, e_t14⟩ := gBd e_t14
        refine g_callVi (rest := []) K hx ly_c11_farOf kv_c11_220 d_c11_twins_86 (ct_c11_farOf M.2.1 X hx N a0 v17 v19 h q20 e_q20) rfl rfl (Nat.le_of_ble_eq_true rfl) (gDep rfl) ⟨Nat.le_refl 0, Nat.le_refl 0⟩ ?_
        refine g_istore_n (ls2 := [(1, .int q20), (0, .ref a0), (2, .int x2), (3, .int x3), (4, .int x4), (5, .int x5)]) K d_c11_twins_89 rfl rfl ?_
        refine g_iload K d_c11_twins_90 4 rfl ?_
        refine g_istore_n (ls2 := [(2, .int x4), (1, .int q20), (0, .ref a0), (3, .int x3), (4, .int x4), (5, .int x5)]) K d_c11_twins_92 rfl rfl ?_
        refine g_iload K d_c11_twins_93 5 rfl ?_
        refine g_istore_n (ls2 := [(3, .int x5), (2, .int x4), (1, .int q20), (0, .ref a0), (4, .int x4), (5, .int x5)]) K d_c11_twins_95 rfl rfl ?_
        refine g_sub (ls2 := [(0, .ref a0), (1, .int q20), (2, .int x4), (3, .int x5), (4, .int x4), (5, .int x5)]) [3, 2, 1, 0, 4, 5] rfl ?_
        obtain rfl := Option.some.inj e_t14
        exact hJ15
      · rw [if_neg c13] at e_t14
        refine g_goto K d_c11_twins_68 ?_
        obtain rfl := Option.some.inj e_t14
        exact hJ15
set_option maxHeartbeats 4000000 in
set_option maxRecDepth 100000 in
theorem wlp_c11_twins_16 {M : gM} {X : gX} {N : Nat} (hx : gEx X = false) (K : gC M X gN11 b_c11_twins 6 (gRm (3 + N) 0 0)) (a0 : Nat) (h : gH) : ∀ (k : Nat) (x1 : Int32) (x2 : Int32) (x3 : Int32) (x4 : Int32) (o : Int32 × Int32 × Int32), lp_c11_twins_16 N a0 h k x1 x2 x3 x4 = some o → gG M X 6 0 0 108 [(0, .ref a0), (1, .int o.1), (2, .int o.2.1), (3, .int o.2.2)] [] h → gG M X 6 0 0 16 [(0, .ref a0), (1, .int x1), (2, .int x2), (3, .int x3), (4, .int x4)] [] h := by
  intro k
  induction k with
  | zero =>
    intro x1 x2 x3 x4 o hy
    rw [lp_c11_twins_16.eq_1] at hy
    cases hy
  | succ k ih =>
    intro x1 x2 x3 x4 o hy hE
    rw [lp_c11_twins_16.eq_2] at hy
    refine g_iload K d_c11_twins_16 4 rfl ?_
    refine g_aload_n K d_c11_twins_18 0 rfl ?_
    obtain ⟨v2, e_v2, hy⟩ := gBd hy
    refine g_getR K fl_c11_9 d_c11_twins_19 e_v2 ?_
    refine g_bipush (v := 40) K d_c11_twins_22 (by decide) ?_
    obtain ⟨v3, e_v3, hy⟩ := gBd hy
    refine g_iald K d_c11_twins_24 e_v3 ?_
    refine g_icmp_ge K d_c11_twins_25 (fun c4 => ?_) (fun c4 => ?_)
    · rw [if_pos c4] at hy
      refine g_sub (ls2 := [(0, .ref a0), (1, .int x1), (2, .int x2), (3, .int x3)]) [0, 1, 2, 3] rfl ?_
      obtain rfl := Option.some.inj hy
      exact hE
    · rw [if_neg c4] at hy
      refine g_iload K d_c11_twins_28 4 rfl ?_
      refine g_iconst (v := 1) K d_c11_twins_30 (by decide) ?_
      refine g_iadd K d_c11_twins_31 ?_
      refine g_istore (ls2 := [(5, .int (x4 + (1 : Int32))), (0, .ref a0), (1, .int x1), (2, .int x2), (3, .int x3), (4, .int x4)]) K d_c11_twins_32 rfl rfl ?_
      obtain ⟨o21, e_o21, hy⟩ := gBd hy
      refine g_sub (ls2 := [(0, .ref a0), (1, .int x1), (2, .int x2), (3, .int x3), (4, .int x4), (5, .int (x4 + (1 : Int32)))]) [1, 2, 3, 4, 5, 0] rfl ?_
      refine wlp_c11_twins_34 hx K a0 x4 h N x1 x2 x3 (x4 + (1 : Int32)) o21 e_o21 ?_
      refine g_iinc (ls2 := [(4, .int (x4 + (1 : Int32))), (0, .ref a0), (1, .int o21.1), (2, .int o21.2.1), (3, .int o21.2.2)]) (v := 1) K d_c11_twins_102 4 rfl (by decide) rfl rfl ?_
      refine g_goto K d_c11_twins_105 ?_
      refine g_sub (ls2 := [(0, .ref a0), (1, .int o21.1), (2, .int o21.2.1), (3, .int o21.2.2), (4, .int (x4 + (1 : Int32)))]) [1, 2, 3, 4, 0] rfl ?_
      exact ih _ _ _ _ _ hy hE
set_option maxHeartbeats 4000000 in
set_option maxRecDepth 100000 in
theorem ct_c11_twins (l : Launch) (X : gX) (hx : gEx X = false) (N : Nat) (a0 : Nat) (h : gH) (q : Int32 × gH) (hy : f_c11_twins N a0 h = some q) : gRc y_c11_twins h a0 ∧ gMi l X y_c11_twins b_c11_twins 6 .int (3 + N) 0 0 [.ref a0] h q.1 q.2 := by
  unfold f_c11_twins at hy
  obtain ⟨u0, e_u0, hy⟩ := gBd hy
  cases u0
  refine ⟨Or.inl ⟨11, _, _, e_u0, rfl⟩, gMet_i (lsx := [(0, .ref a0)]) (by decide) rfl rfl ?_⟩
  intro M hMl K hret
  subst hMl
  refine g_aload_n K d_c11_twins_0 0 rfl ?_
  refine g_iconst (v := 0) K d_c11_twins_1 (by decide) ?_
  obtain ⟨h1, e_h1, hy⟩ := gBd hy
  refine g_putI K fp_c11_95 d_c11_twins_2 e_h1 ?_
  refine g_ldcw (v := 1000000) K d_c11_twins_5 (gTk_7 44 rfl rfl) ?_
  refine g_istore_n (ls2 := [(1, .int (1000000 : Int32)), (0, .ref a0)]) K d_c11_twins_8 rfl rfl ?_
  refine g_iconst (v := (-1)) K d_c11_twins_9 (by decide) ?_
  refine g_istore_n (ls2 := [(2, .int (-1 : Int32)), (1, .int (1000000 : Int32)), (0, .ref a0)]) K d_c11_twins_10 rfl rfl ?_
  refine g_iconst (v := (-1)) K d_c11_twins_11 (by decide) ?_
  refine g_istore_n (ls2 := [(3, .int (-1 : Int32)), (2, .int (-1 : Int32)), (1, .int (1000000 : Int32)), (0, .ref a0)]) K d_c11_twins_12 rfl rfl ?_
  refine g_iconst (v := 0) K d_c11_twins_13 (by decide) ?_
  refine g_istore (ls2 := [(4, .int (0 : Int32)), (3, .int (-1 : Int32)), (2, .int (-1 : Int32)), (1, .int (1000000 : Int32)), (0, .ref a0)]) K d_c11_twins_14 rfl rfl ?_
  obtain ⟨o22, e_o22, hy⟩ := gBd hy
  refine g_sub (ls2 := [(0, .ref a0), (1, .int (1000000 : Int32)), (2, .int (-1 : Int32)), (3, .int (-1 : Int32)), (4, .int (0 : Int32))]) [4, 3, 2, 1, 0] rfl ?_
  refine wlp_c11_twins_16 hx K a0 h1 N (1000000 : Int32) (-1 : Int32) (-1 : Int32) (0 : Int32) o22 e_o22 ?_
  refine g_iload_n K d_c11_twins_108 1 rfl ?_
  refine g_ldcw (v := 1000000) K d_c11_twins_109 (gTk_7 44 rfl rfl) ?_
  refine g_icmp_ne K d_c11_twins_112 (fun c23 => ?_) (fun c23 => ?_)
  · rw [if_neg c23] at hy
    refine g_aload_n K d_c11_twins_118 0 rfl ?_
    refine g_iconst (v := 0) K d_c11_twins_119 (by decide) ?_
    obtain ⟨h24, e_h24, hy⟩ := gBd hy
    refine g_putI K fp_c11_98 d_c11_twins_120 e_h24 ?_
    refine g_aload_n K d_c11_twins_123 0 rfl ?_
    refine g_iload_n K d_c11_twins_124 2 rfl ?_
    refine g_i2l K d_c11_twins_125 ?_
    obtain ⟨q25, e_q25, hy⟩ := gBd hy
    refine g_callVv (rest := []) K hx ly_c11_tell kv_c11_268 d_c11_twins_126 (ct_c11_tell M.2.1 X hx N a0 o22.2.1.toInt64 h24 q25 e_q25) rfl rfl (Nat.le_of_ble_eq_true rfl) (gDep rfl) ⟨Nat.le_refl 0, Nat.le_refl 0⟩ ?_
    refine g_aload_n K d_c11_twins_129 0 rfl ?_
    refine g_iload_n K d_c11_twins_130 3 rfl ?_
    refine g_i2l K d_c11_twins_131 ?_
    obtain ⟨q26, e_q26, hy⟩ := gBd hy
    refine g_callVv (rest := []) K hx ly_c11_tell kv_c11_268 d_c11_twins_132 (ct_c11_tell M.2.1 X hx N a0 o22.2.2.toInt64 q25 q26 e_q26) rfl rfl (Nat.le_of_ble_eq_true rfl) (gDep rfl) ⟨Nat.le_refl 0, Nat.le_refl 0⟩ ?_
    refine g_iload_n K d_c11_twins_135 1 rfl ?_
    obtain rfl := Option.some.inj hy
    exact hret rfl _ _ _ d_c11_twins_136
  · rw [if_pos c23] at hy
    refine g_bipush (v := (-2)) K d_c11_twins_115 (by decide) ?_
    obtain rfl := Option.some.inj hy
    exact hret rfl _ _ _ d_c11_twins_117
-- c11 wasRight
theorem d_c11_wasRight_0 : gD b_c11_wasRight 0 (.aload_n 0) 1 1 := ⟨by decide +kernel, rfl⟩
theorem d_c11_wasRight_1 : gD b_c11_wasRight 1 (.getfield 130) 3 4 := ⟨by decide +kernel, rfl⟩
theorem d_c11_wasRight_4 : gD b_c11_wasRight 4 (.aload_n 0) 1 5 := ⟨by decide +kernel, rfl⟩
theorem d_c11_wasRight_5 : gD b_c11_wasRight 5 (.getfield 124) 3 8 := ⟨by decide +kernel, rfl⟩
theorem d_c11_wasRight_8 : gJ b_c11_wasRight 8 (.if_icmp .ge 11) 3 11 11 19 := ⟨by decide +kernel, rfl, by decide⟩
theorem d_c11_wasRight_11 : gD b_c11_wasRight 11 (.aload_n 0) 1 12 := ⟨by decide +kernel, rfl⟩
theorem d_c11_wasRight_12 : gD b_c11_wasRight 12 (.aload_n 0) 1 13 := ⟨by decide +kernel, rfl⟩
theorem d_c11_wasRight_13 : gD b_c11_wasRight 13 (.getfield 130) 3 16 := ⟨by decide +kernel, rfl⟩
theorem d_c11_wasRight_16 : gD b_c11_wasRight 16 (.invokevirtual 151) 3 19 := ⟨by decide +kernel, rfl⟩
theorem d_c11_wasRight_19 : gD b_c11_wasRight 19 (.aload_n 0) 1 20 := ⟨by decide +kernel, rfl⟩
theorem d_c11_wasRight_20 : gD b_c11_wasRight 20 (.invokevirtual 140) 3 23 := ⟨by decide +kernel, rfl⟩
theorem d_c11_wasRight_23 : gD b_c11_wasRight 23 .ireturn 1 24 := ⟨by decide +kernel, rfl⟩
def f_c11_wasRight (N : Nat) (a0 : Nat) (h : gH) : Option (Int32 × gH) :=
  (gcl h a0 11).bind fun _ =>
  (gfI h a0 11 14).bind fun v1 =>
    (gfI h a0 11 12).bind fun v2 =>
    (show Option (gH) from if v2 ≤ v1 then
    some h
  else
    (gfI h a0 11 14).bind fun v8 =>
    (f_c11_fault N a0 v8 h).bind fun q9 =>
    some q9).bind fun t4 =>
    (f_c11_fine N a0 t4).bind fun q6 =>
    (gZ q6).bind fun w7 => some (w7, t4)
set_option maxHeartbeats 4000000 in
set_option maxRecDepth 100000 in
theorem ct_c11_wasRight (l : Launch) (X : gX) (hx : gEx X = false) (N : Nat) (a0 : Nat) (h : gH) (q : Int32 × gH) (hy : f_c11_wasRight N a0 h = some q) : gRc y_c11_wasRight h a0 ∧ gMi l X y_c11_wasRight b_c11_wasRight 1 .boolean (3 + N) 0 0 [.ref a0] h q.1 q.2 := by
  unfold f_c11_wasRight at hy
  obtain ⟨u0, e_u0, hy⟩ := gBd hy
  cases u0
  refine ⟨Or.inl ⟨11, _, _, e_u0, rfl⟩, gMet_i (lsx := [(0, .ref a0)]) (by decide) rfl rfl ?_⟩
  intro M hMl K hret
  subst hMl
  refine g_aload_n K d_c11_wasRight_0 0 rfl ?_
  obtain ⟨v1, e_v1, hy⟩ := gBd hy
  refine g_getI K fl_c11_130 d_c11_wasRight_1 e_v1 ?_
  refine g_aload_n K d_c11_wasRight_4 0 rfl ?_
  obtain ⟨v2, e_v2, hy⟩ := gBd hy
  refine g_getI K fl_c11_124 d_c11_wasRight_5 e_v2 ?_
  obtain ⟨t4, e_t4, hy⟩ := gBd hy
  have hJ5 : gG M X 1 0 0 19 [(0, .ref a0)] [] t4 := by
    refine g_aload_n K d_c11_wasRight_19 0 rfl ?_
    obtain ⟨q6, e_q6, hy⟩ := gBd hy
    refine g_callVi (rest := []) K hx ly_c11_fine kv_c11_140 d_c11_wasRight_20 (ct_c11_fine M.2.1 X hx N a0 t4 q6 e_q6) rfl rfl (Nat.le_of_ble_eq_true rfl) (gDep rfl) ⟨Nat.le_refl 0, Nat.le_refl 0⟩ ?_
    obtain ⟨w7, e_w7, hy⟩ := gBd hy
    obtain ⟨z_w7, n_w7⟩ := gZ_spec e_w7
    rw [z_w7]
    obtain rfl := Option.some.inj hy
    exact hret (gZn n_w7) _ _ _ d_c11_wasRight_23
  refine g_icmp_ge K d_c11_wasRight_8 (fun c3 => ?_) (fun c3 => ?_)
  · rw [if_pos c3] at e_t4
    obtain rfl := Option.some.inj e_t4
    exact hJ5
  · rw [if_neg c3] at e_t4
    refine g_aload_n K d_c11_wasRight_11 0 rfl ?_
    refine g_aload_n K d_c11_wasRight_12 0 rfl ?_
    obtain ⟨v8, e_v8, e_t4⟩ := gBd e_t4
    refine g_getI K fl_c11_130 d_c11_wasRight_13 e_v8 ?_
    obtain ⟨q9, e_q9, e_t4⟩ := gBd e_t4
    refine g_callVv (rest := []) K hx ly_c11_fault kv_c11_151 d_c11_wasRight_16 (ct_c11_fault M.2.1 X hx N a0 v8 h q9 e_q9) rfl rfl (Nat.le_of_ble_eq_true rfl) (gDep rfl) ⟨Nat.le_refl 0, Nat.le_refl 0⟩ ?_
    obtain rfl := Option.some.inj e_t4
    exact hJ5
-- c1 faultIn
theorem d_c1_faultIn_0 : gD b_c1_faultIn 0 (.aload_n 1) 1 1 := ⟨by decide +kernel, rfl⟩
theorem d_c1_faultIn_1 : gD b_c1_faultIn 1 (.iconst 0) 1 2 := ⟨by decide +kernel, rfl⟩
theorem d_c1_faultIn_2 : gD b_c1_faultIn 2 (.bipush 80) 2 4 := ⟨by decide +kernel, rfl⟩
theorem d_c1_faultIn_4 : gD b_c1_faultIn 4 (.invokevirtual 28) 3 7 := ⟨by decide +kernel, rfl⟩
theorem d_c1_faultIn_7 : gD b_c1_faultIn 7 (.istore_n 2) 1 8 := ⟨by decide +kernel, rfl⟩
theorem d_c1_faultIn_8 : gD b_c1_faultIn 8 (.iload_n 2) 1 9 := ⟨by decide +kernel, rfl⟩
theorem d_c1_faultIn_9 : gD b_c1_faultIn 9 (.iconst 3) 1 10 := ⟨by decide +kernel, rfl⟩
theorem d_c1_faultIn_10 : gJ b_c1_faultIn 10 (.if_icmp .lt 9) 3 9 13 19 := ⟨by decide +kernel, rfl, by decide⟩
theorem d_c1_faultIn_13 : gD b_c1_faultIn 13 (.iload_n 2) 1 14 := ⟨by decide +kernel, rfl⟩
theorem d_c1_faultIn_14 : gD b_c1_faultIn 14 (.bipush 6) 2 16 := ⟨by decide +kernel, rfl⟩
theorem d_c1_faultIn_16 : gJ b_c1_faultIn 16 (.if_icmp .le 5) 3 5 19 21 := ⟨by decide +kernel, rfl, by decide⟩
theorem d_c1_faultIn_19 : gD b_c1_faultIn 19 (.iconst 0) 1 20 := ⟨by decide +kernel, rfl⟩
theorem d_c1_faultIn_20 : gD b_c1_faultIn 20 .ireturn 1 21 := ⟨by decide +kernel, rfl⟩
theorem d_c1_faultIn_21 : gD b_c1_faultIn 21 (.aload_n 1) 1 22 := ⟨by decide +kernel, rfl⟩
theorem d_c1_faultIn_22 : gD b_c1_faultIn 22 (.iconst 1) 1 23 := ⟨by decide +kernel, rfl⟩
theorem d_c1_faultIn_23 : gD b_c1_faultIn 23 (.bipush 80) 2 25 := ⟨by decide +kernel, rfl⟩
theorem d_c1_faultIn_25 : gD b_c1_faultIn 25 (.invokevirtual 28) 3 28 := ⟨by decide +kernel, rfl⟩
theorem d_c1_faultIn_28 : gD b_c1_faultIn 28 (.istore_n 3) 1 29 := ⟨by decide +kernel, rfl⟩
theorem d_c1_faultIn_29 : gD b_c1_faultIn 29 (.iload_n 3) 1 30 := ⟨by decide +kernel, rfl⟩
theorem d_c1_faultIn_30 : gD b_c1_faultIn 30 (.iconst 3) 1 31 := ⟨by decide +kernel, rfl⟩
theorem d_c1_faultIn_31 : gJ b_c1_faultIn 31 (.if_icmp .lt 9) 3 9 34 40 := ⟨by decide +kernel, rfl, by decide⟩
theorem d_c1_faultIn_34 : gD b_c1_faultIn 34 (.iload_n 3) 1 35 := ⟨by decide +kernel, rfl⟩
theorem d_c1_faultIn_35 : gD b_c1_faultIn 35 (.bipush 6) 2 37 := ⟨by decide +kernel, rfl⟩
theorem d_c1_faultIn_37 : gJ b_c1_faultIn 37 (.if_icmp .le 5) 3 5 40 42 := ⟨by decide +kernel, rfl, by decide⟩
theorem d_c1_faultIn_40 : gD b_c1_faultIn 40 (.iconst 1) 1 41 := ⟨by decide +kernel, rfl⟩
theorem d_c1_faultIn_41 : gD b_c1_faultIn 41 .ireturn 1 42 := ⟨by decide +kernel, rfl⟩
theorem d_c1_faultIn_42 : gD b_c1_faultIn 42 (.iconst 2) 1 43 := ⟨by decide +kernel, rfl⟩
theorem d_c1_faultIn_43 : gD b_c1_faultIn 43 (.iload_n 2) 1 44 := ⟨by decide +kernel, rfl⟩
theorem d_c1_faultIn_44 : gD b_c1_faultIn 44 (.iload_n 3) 1 45 := ⟨by decide +kernel, rfl⟩
theorem d_c1_faultIn_45 : gD b_c1_faultIn 45 .imul 1 46 := ⟨by decide +kernel, rfl⟩
theorem d_c1_faultIn_46 : gD b_c1_faultIn 46 .iadd 1 47 := ⟨by decide +kernel, rfl⟩
theorem d_c1_faultIn_47 : gD b_c1_faultIn 47 (.istore 4) 2 49 := ⟨by decide +kernel, rfl⟩
theorem d_c1_faultIn_49 : gD b_c1_faultIn 49 (.iconst 0) 1 50 := ⟨by decide +kernel, rfl⟩
theorem d_c1_faultIn_50 : gD b_c1_faultIn 50 (.istore 5) 2 52 := ⟨by decide +kernel, rfl⟩
theorem d_c1_faultIn_52 : gD b_c1_faultIn 52 (.iconst 2) 1 53 := ⟨by decide +kernel, rfl⟩
theorem d_c1_faultIn_53 : gD b_c1_faultIn 53 (.istore 6) 2 55 := ⟨by decide +kernel, rfl⟩
theorem d_c1_faultIn_55 : gD b_c1_faultIn 55 (.iload 6) 2 57 := ⟨by decide +kernel, rfl⟩
theorem d_c1_faultIn_57 : gD b_c1_faultIn 57 (.iload 4) 2 59 := ⟨by decide +kernel, rfl⟩
theorem d_c1_faultIn_59 : gJ b_c1_faultIn 59 (.if_icmp .ge 82) 3 82 62 141 := ⟨by decide +kernel, rfl, by decide⟩
theorem d_c1_faultIn_62 : gD b_c1_faultIn 62 (.aload_n 1) 1 63 := ⟨by decide +kernel, rfl⟩
theorem d_c1_faultIn_63 : gD b_c1_faultIn 63 (.iload 6) 2 65 := ⟨by decide +kernel, rfl⟩
theorem d_c1_faultIn_65 : gD b_c1_faultIn 65 (.bipush 80) 2 67 := ⟨by decide +kernel, rfl⟩
theorem d_c1_faultIn_67 : gD b_c1_faultIn 67 (.invokevirtual 28) 3 70 := ⟨by decide +kernel, rfl⟩
theorem d_c1_faultIn_70 : gD b_c1_faultIn 70 (.istore 7) 2 72 := ⟨by decide +kernel, rfl⟩
theorem d_c1_faultIn_72 : gD b_c1_faultIn 72 (.iload 7) 2 74 := ⟨by decide +kernel, rfl⟩
theorem d_c1_faultIn_74 : gD b_c1_faultIn 74 (.iconst 1) 1 75 := ⟨by decide +kernel, rfl⟩
theorem d_c1_faultIn_75 : gJ b_c1_faultIn 75 (.if_icmp .lt 14) 3 14 78 89 := ⟨by decide +kernel, rfl, by decide⟩
theorem d_c1_faultIn_78 : gD b_c1_faultIn 78 (.iload 7) 2 80 := ⟨by decide +kernel, rfl⟩
theorem d_c1_faultIn_80 : gD b_c1_faultIn 80 (.bipush 6) 2 82 := ⟨by decide +kernel, rfl⟩
theorem d_c1_faultIn_82 : gJ b_c1_faultIn 82 (.if_icmp .gt 7) 3 7 85 89 := ⟨by decide +kernel, rfl, by decide⟩
theorem d_c1_faultIn_85 : gD b_c1_faultIn 85 (.iconst 1) 1 86 := ⟨by decide +kernel, rfl⟩
theorem d_c1_faultIn_86 : gJ b_c1_faultIn 86 (.goto 4) 3 4 89 90 := ⟨by decide +kernel, rfl, by decide⟩
theorem d_c1_faultIn_89 : gD b_c1_faultIn 89 (.iconst 0) 1 90 := ⟨by decide +kernel, rfl⟩
theorem d_c1_faultIn_90 : gD b_c1_faultIn 90 (.istore 8) 2 92 := ⟨by decide +kernel, rfl⟩
theorem d_c1_faultIn_92 : gD b_c1_faultIn 92 (.iload 5) 2 94 := ⟨by decide +kernel, rfl⟩
theorem d_c1_faultIn_94 : gD b_c1_faultIn 94 (.iload 8) 2 96 := ⟨by decide +kernel, rfl⟩
theorem d_c1_faultIn_96 : gJ b_c1_faultIn 96 (.ifCond .eq 7) 3 7 99 103 := ⟨by decide +kernel, rfl, by decide⟩
theorem d_c1_faultIn_99 : gD b_c1_faultIn 99 (.iconst 1) 1 100 := ⟨by decide +kernel, rfl⟩
theorem d_c1_faultIn_100 : gJ b_c1_faultIn 100 (.goto 4) 3 4 103 104 := ⟨by decide +kernel, rfl, by decide⟩
theorem d_c1_faultIn_103 : gD b_c1_faultIn 103 (.iconst 0) 1 104 := ⟨by decide +kernel, rfl⟩
theorem d_c1_faultIn_104 : gD b_c1_faultIn 104 .iadd 1 105 := ⟨by decide +kernel, rfl⟩
theorem d_c1_faultIn_105 : gD b_c1_faultIn 105 (.istore 5) 2 107 := ⟨by decide +kernel, rfl⟩
theorem d_c1_faultIn_107 : gD b_c1_faultIn 107 (.iload 5) 2 109 := ⟨by decide +kernel, rfl⟩
theorem d_c1_faultIn_109 : gD b_c1_faultIn 109 (.bipush 6) 2 111 := ⟨by decide +kernel, rfl⟩
theorem d_c1_faultIn_111 : gJ b_c1_faultIn 111 (.if_icmp .gt 21) 3 21 114 132 := ⟨by decide +kernel, rfl, by decide⟩
theorem d_c1_faultIn_114 : gD b_c1_faultIn 114 (.iload 8) 2 116 := ⟨by decide +kernel, rfl⟩
theorem d_c1_faultIn_116 : gJ b_c1_faultIn 116 (.ifCond .ne 19) 3 19 119 135 := ⟨by decide +kernel, rfl, by decide⟩
theorem d_c1_faultIn_119 : gD b_c1_faultIn 119 (.aload_n 1) 1 120 := ⟨by decide +kernel, rfl⟩
theorem d_c1_faultIn_120 : gD b_c1_faultIn 120 (.iload 6) 2 122 := ⟨by decide +kernel, rfl⟩
theorem d_c1_faultIn_122 : gD b_c1_faultIn 122 (.bipush 80) 2 124 := ⟨by decide +kernel, rfl⟩
theorem d_c1_faultIn_124 : gD b_c1_faultIn 124 (.invokevirtual 34) 3 127 := ⟨by decide +kernel, rfl⟩
theorem d_c1_faultIn_127 : gD b_c1_faultIn 127 (.bipush 46) 2 129 := ⟨by decide +kernel, rfl⟩
theorem d_c1_faultIn_129 : gJ b_c1_faultIn 129 (.if_icmp .eq 6) 3 6 132 135 := ⟨by decide +kernel, rfl, by decide⟩
theorem d_c1_faultIn_132 : gD b_c1_faultIn 132 (.iload 6) 2 134 := ⟨by decide +kernel, rfl⟩
theorem d_c1_faultIn_134 : gD b_c1_faultIn 134 .ireturn 1 135 := ⟨by decide +kernel, rfl⟩
theorem d_c1_faultIn_135 : gD b_c1_faultIn 135 (.iinc 6 1) 3 138 := ⟨by decide +kernel, rfl⟩
theorem d_c1_faultIn_138 : gJ b_c1_faultIn 138 (.goto (-83)) 3 (-83) 141 55 := ⟨by decide +kernel, rfl, by decide⟩
theorem d_c1_faultIn_141 : gD b_c1_faultIn 141 (.aload_n 1) 1 142 := ⟨by decide +kernel, rfl⟩
theorem d_c1_faultIn_142 : gD b_c1_faultIn 142 (.getfield 37) 3 145 := ⟨by decide +kernel, rfl⟩
theorem d_c1_faultIn_145 : gD b_c1_faultIn 145 (.iload 4) 2 147 := ⟨by decide +kernel, rfl⟩
theorem d_c1_faultIn_147 : gJ b_c1_faultIn 147 (.if_icmp .le 8) 3 8 150 155 := ⟨by decide +kernel, rfl, by decide⟩
theorem d_c1_faultIn_150 : gD b_c1_faultIn 150 (.iload 4) 2 152 := ⟨by decide +kernel, rfl⟩
theorem d_c1_faultIn_152 : gJ b_c1_faultIn 152 (.goto 4) 3 4 155 156 := ⟨by decide +kernel, rfl, by decide⟩
theorem d_c1_faultIn_155 : gD b_c1_faultIn 155 (.iconst (-1)) 1 156 := ⟨by decide +kernel, rfl⟩
theorem d_c1_faultIn_156 : gD b_c1_faultIn 156 .ireturn 1 157 := ⟨by decide +kernel, rfl⟩
def lp_c1_faultIn_55 (N : Nat) (a1 : Nat) (x4 : Int32) (h : gH) : Nat → Int32 → Int32 → Option ((Int32) ⊕ (Unit))
  | 0, _, _ => none
  | k + 1, x5, x6 =>
  if x4 ≤ x6 then
    some (.inr ())
  else
    (f_c8_digit N a1 x6 (80 : Int32) h).bind fun q8 =>
    if (6 : Int32) < (x5 + (if (if q8 < (1 : Int32) then (0 : Int32) else (if (6 : Int32) < q8 then (0 : Int32) else (1 : Int32))) = 0 then (0 : Int32) else (1 : Int32))) then
    some (.inl x6)
  else
    if (if q8 < (1 : Int32) then (0 : Int32) else (if (6 : Int32) < q8 then (0 : Int32) else (1 : Int32))) = 0 then
    (f_c8_at N a1 x6 (80 : Int32) h).bind fun q17 =>
    if q17 = (46 : Int32) then
    lp_c1_faultIn_55 N a1 x4 h k (x5 + (if (if q8 < (1 : Int32) then (0 : Int32) else (if (6 : Int32) < q8 then (0 : Int32) else (1 : Int32))) = 0 then (0 : Int32) else (1 : Int32))) (x6 + (1 : Int32))
  else
    some (.inl x6)
  else
    lp_c1_faultIn_55 N a1 x4 h k (x5 + (if (if q8 < (1 : Int32) then (0 : Int32) else (if (6 : Int32) < q8 then (0 : Int32) else (1 : Int32))) = 0 then (0 : Int32) else (1 : Int32))) (x6 + (1 : Int32))
def f_c1_faultIn (N : Nat) (a0 : Nat) (a1 : Nat) (h : gH) : Option (Int32) :=
  (gcl h a0 1).bind fun _ =>
  (f_c8_digit N a1 (0 : Int32) (80 : Int32) h).bind fun q1 =>
    if q1 < (3 : Int32) then
    some (0 : Int32)
  else
    if q1 ≤ (6 : Int32) then
    (f_c8_digit N a1 (1 : Int32) (80 : Int32) h).bind fun q4 =>
    if q4 < (3 : Int32) then
    some (1 : Int32)
  else
    if q4 ≤ (6 : Int32) then
    (lp_c1_faultIn_55 N a1 ((2 : Int32) + (q1 * q4)) h N (0 : Int32) (2 : Int32)).bind fun o20 => Sum.elim (fun r22 => some r22) (fun t21 =>
    (gfI h a1 8 1).bind fun v24 =>
    some (if v24 ≤ ((2 : Int32) + (q1 * q4)) then (-1 : Int32) else (2 : Int32) + (q1 * q4))) o20
  else
    some (1 : Int32)
  else
    some (0 : Int32)
set_option maxHeartbeats 4000000 in
set_option maxRecDepth 100000 in
theorem wlp_c1_faultIn_55 {M : gM} {X : gX} {N : Nat} (hx : gEx X = false) (K : gC M X gN1 b_c1_faultIn 9 (gRm (3 + N) 0 0)) (a1 : Nat) (x4 : Int32) (h : gH) : ∀ (k : Nat) (x5 : Int32) (x6 : Int32) (o : (Int32) ⊕ (Unit)), lp_c1_faultIn_55 N a1 x4 h k x5 x6 = some o → (∀ t, o = .inr t → gG M X 9 0 0 141 [(1, .ref a1), (4, .int x4)] [] h) → (∀ r, o = .inl r → (narrow .int (.int r) = .int r → ∀ pc pc' ls, gD b_c1_faultIn pc .ireturn 1 pc' → gG M X 9 0 0 pc ls [.int r] h)) → gG M X 9 0 0 55 [(1, .ref a1), (4, .int x4), (5, .int x5), (6, .int x6)] [] h := by
  intro k
  induction k with
  | zero =>
    intro x5 x6 o hy
    rw [lp_c1_faultIn_55.eq_1] at hy
    cases hy
  | succ k ih =>
    intro x5 x6 o hy hE hR
    rw [lp_c1_faultIn_55.eq_2] at hy
    refine g_iload K d_c1_faultIn_55 3 rfl ?_
    refine g_iload K d_c1_faultIn_57 1 rfl ?_
    refine g_icmp_ge K d_c1_faultIn_59 (fun c7 => ?_) (fun c7 => ?_)
    · rw [if_pos c7] at hy
      refine g_sub (ls2 := [(1, .ref a1), (4, .int x4)]) [0, 1] rfl ?_
      obtain rfl := Option.some.inj hy
      exact hE _ rfl
    · rw [if_neg c7] at hy
      refine g_aload_n K d_c1_faultIn_62 0 rfl ?_
      refine g_iload K d_c1_faultIn_63 3 rfl ?_
      refine g_bipush (v := 80) K d_c1_faultIn_65 (by decide) ?_
      obtain ⟨q8, e_q8, hy⟩ := gBd hy
      refine g_callVi (rest := []) K hx ly_c8_digit kv_c1_28 d_c1_faultIn_67 (ct_c8_digit M.2.1 X hx N a1 x6 (80 : Int32) h q8 e_q8) rfl rfl (Nat.le_of_ble_eq_true rfl) (gDep rfl) ⟨Nat.le_refl 0, Nat.le_refl 0⟩ ?_
      refine g_istore (ls2 := [(7, .int q8), (1, .ref a1), (4, .int x4), (5, .int x5), (6, .int x6)]) K d_c1_faultIn_70 rfl rfl ?_
      refine g_iload K d_c1_faultIn_72 0 rfl ?_
      refine g_iconst (v := 1) K d_c1_faultIn_74 (by decide) ?_
      have hJ11 : ∀ w10 : Int32, w10 = (if q8 < (1 : Int32) then (0 : Int32) else (if (6 : Int32) < q8 then (0 : Int32) else (1 : Int32))) → gG M X 9 0 0 90 [(7, .int q8), (1, .ref a1), (4, .int x4), (5, .int x5), (6, .int x6)] [.int w10] h := by
        intro w10 e_w10
        subst e_w10
        refine g_istore (ls2 := [(8, .int (if q8 < (1 : Int32) then (0 : Int32) else (if (6 : Int32) < q8 then (0 : Int32) else (1 : Int32)))), (7, .int q8), (1, .ref a1), (4, .int x4), (5, .int x5), (6, .int x6)]) K d_c1_faultIn_90 rfl rfl ?_
        refine g_iload K d_c1_faultIn_92 4 rfl ?_
        refine g_iload K d_c1_faultIn_94 0 rfl ?_
        have hJ14 : ∀ w13 : Int32, w13 = (if (if q8 < (1 : Int32) then (0 : Int32) else (if (6 : Int32) < q8 then (0 : Int32) else (1 : Int32))) = 0 then (0 : Int32) else (1 : Int32)) → gG M X 9 0 0 104 [(8, .int (if q8 < (1 : Int32) then (0 : Int32) else (if (6 : Int32) < q8 then (0 : Int32) else (1 : Int32)))), (7, .int q8), (1, .ref a1), (4, .int x4), (5, .int x5), (6, .int x6)] [.int w13, .int x5] h := by
          intro w13 e_w13
          subst e_w13
          refine g_iadd K d_c1_faultIn_104 ?_
          refine g_istore (ls2 := [(5, .int (x5 + (if (if q8 < (1 : Int32) then (0 : Int32) else (if (6 : Int32) < q8 then (0 : Int32) else (1 : Int32))) = 0 then (0 : Int32) else (1 : Int32)))), (8, .int (if q8 < (1 : Int32) then (0 : Int32) else (if (6 : Int32) < q8 then (0 : Int32) else (1 : Int32)))), (7, .int q8), (1, .ref a1), (4, .int x4), (6, .int x6)]) K d_c1_faultIn_105 rfl rfl ?_
          refine g_iload K d_c1_faultIn_107 0 rfl ?_
          refine g_bipush (v := 6) K d_c1_faultIn_109 (by decide) ?_
          refine g_icmp_gt K d_c1_faultIn_111 (fun c15 => ?_) (fun c15 => ?_)
          · rw [if_pos c15] at hy
            refine g_iload K d_c1_faultIn_132 5 rfl ?_
            obtain rfl := Option.some.inj hy
            exact hR _ rfl rfl _ _ _ d_c1_faultIn_134
          · rw [if_neg c15] at hy
            refine g_iload K d_c1_faultIn_114 1 rfl ?_
            refine g_if_ne K d_c1_faultIn_116 (fun c16 => ?_) (fun c16 => ?_)
            · rw [if_neg c16] at hy
              refine g_iinc (ls2 := [(6, .int (x6 + (1 : Int32))), (5, .int (x5 + (if (if q8 < (1 : Int32) then (0 : Int32) else (if (6 : Int32) < q8 then (0 : Int32) else (1 : Int32))) = 0 then (0 : Int32) else (1 : Int32)))), (8, .int (if q8 < (1 : Int32) then (0 : Int32) else (if (6 : Int32) < q8 then (0 : Int32) else (1 : Int32)))), (7, .int q8), (1, .ref a1), (4, .int x4)]) (v := 1) K d_c1_faultIn_135 5 rfl (by decide) rfl rfl ?_
              refine g_goto K d_c1_faultIn_138 ?_
              refine g_sub (ls2 := [(1, .ref a1), (4, .int x4), (5, .int (x5 + (if (if q8 < (1 : Int32) then (0 : Int32) else (if (6 : Int32) < q8 then (0 : Int32) else (1 : Int32))) = 0 then (0 : Int32) else (1 : Int32)))), (6, .int (x6 + (1 : Int32)))]) [4, 5, 1, 0] rfl ?_
              exact ih _ _ _ hy hE hR
            · rw [if_pos c16] at hy
              refine g_aload_n K d_c1_faultIn_119 3 rfl ?_
              refine g_iload K d_c1_faultIn_120 5 rfl ?_
              refine g_bipush (v := 80) K d_c1_faultIn_122 (by decide) ?_
              obtain ⟨q17, e_q17, hy⟩ := gBd hy
              refine g_callVi (rest := []) K hx ly_c8_at kv_c1_34 d_c1_faultIn_124 (ct_c8_at M.2.1 X hx N a1 x6 (80 : Int32) h q17 e_q17) rfl rfl (Nat.le_of_ble_eq_true rfl) (gDep rfl) ⟨Nat.le_refl 0, Nat.le_refl 0⟩ ?_
              refine g_bipush (v := 46) K d_c1_faultIn_127 (by decide) ?_
              refine g_icmp_eq K d_c1_faultIn_129 (fun c18 => ?_) (fun c18 => ?_)
              · rw [if_pos c18] at hy
                refine g_iinc (ls2 := [(6, .int (x6 + (1 : Int32))), (5, .int (x5 + (if (if q8 < (1 : Int32) then (0 : Int32) else (if (6 : Int32) < q8 then (0 : Int32) else (1 : Int32))) = 0 then (0 : Int32) else (1 : Int32)))), (8, .int (if q8 < (1 : Int32) then (0 : Int32) else (if (6 : Int32) < q8 then (0 : Int32) else (1 : Int32)))), (7, .int q8), (1, .ref a1), (4, .int x4)]) (v := 1) K d_c1_faultIn_135 5 rfl (by decide) rfl rfl ?_
                refine g_goto K d_c1_faultIn_138 ?_
                refine g_sub (ls2 := [(1, .ref a1), (4, .int x4), (5, .int (x5 + (if (if q8 < (1 : Int32) then (0 : Int32) else (if (6 : Int32) < q8 then (0 : Int32) else (1 : Int32))) = 0 then (0 : Int32) else (1 : Int32)))), (6, .int (x6 + (1 : Int32)))]) [4, 5, 1, 0] rfl ?_
                exact ih _ _ _ hy hE hR
              · rw [if_neg c18] at hy
                refine g_iload K d_c1_faultIn_132 5 rfl ?_
                obtain rfl := Option.some.inj hy
                exact hR _ rfl rfl _ _ _ d_c1_faultIn_134
        refine g_if_eq K d_c1_faultIn_96 (fun c12 => ?_) (fun c12 => ?_)
        · refine g_iconst (v := 0) K d_c1_faultIn_103 (by decide) ?_
          exact hJ14 _ (by rw [if_pos c12])
        · refine g_iconst (v := 1) K d_c1_faultIn_99 (by decide) ?_
          refine g_goto K d_c1_faultIn_100 ?_
          exact hJ14 _ (by rw [if_neg c12])
      refine g_icmp_lt K d_c1_faultIn_75 (fun c9 => ?_) (fun c9 => ?_)
      · refine g_iconst (v := 0) K d_c1_faultIn_89 (by decide) ?_
        exact hJ11 _ (by rw [if_pos c9])
      · refine g_iload K d_c1_faultIn_78 0 rfl ?_
        refine g_bipush (v := 6) K d_c1_faultIn_80 (by decide) ?_
        refine g_icmp_gt K d_c1_faultIn_82 (fun c19 => ?_) (fun c19 => ?_)
        · refine g_iconst (v := 0) K d_c1_faultIn_89 (by decide) ?_
          exact hJ11 _ (by rw [if_neg c9, if_pos c19])
        · refine g_iconst (v := 1) K d_c1_faultIn_85 (by decide) ?_
          refine g_goto K d_c1_faultIn_86 ?_
          exact hJ11 _ (by rw [if_neg c9, if_neg c19])
set_option maxHeartbeats 4000000 in
set_option maxRecDepth 100000 in
theorem ct_c1_faultIn (l : Launch) (X : gX) (hx : gEx X = false) (N : Nat) (a0 : Nat) (a1 : Nat) (h : gH) (q : Int32) (hy : f_c1_faultIn N a0 a1 h = some q) : gRc y_c1_faultIn h a0 ∧ gMi l X y_c1_faultIn b_c1_faultIn 9 .int (3 + N) 0 0 [.ref a0, .ref a1] h q h := by
  unfold f_c1_faultIn at hy
  obtain ⟨u0, e_u0, hy⟩ := gBd hy
  cases u0
  refine ⟨Or.inl ⟨1, _, _, e_u0, rfl⟩, gMet_i (lsx := [(0, .ref a0), (1, .ref a1)]) (by decide) rfl rfl ?_⟩
  intro M hMl K hret
  subst hMl
  refine g_aload_n K d_c1_faultIn_0 1 rfl ?_
  refine g_iconst (v := 0) K d_c1_faultIn_1 (by decide) ?_
  refine g_bipush (v := 80) K d_c1_faultIn_2 (by decide) ?_
  obtain ⟨q1, e_q1, hy⟩ := gBd hy
  refine g_callVi (rest := []) K hx ly_c8_digit kv_c1_28 d_c1_faultIn_4 (ct_c8_digit M.2.1 X hx N a1 (0 : Int32) (80 : Int32) h q1 e_q1) rfl rfl (Nat.le_of_ble_eq_true rfl) (gDep rfl) ⟨Nat.le_refl 0, Nat.le_refl 0⟩ ?_
  refine g_istore_n (ls2 := [(2, .int q1), (0, .ref a0), (1, .ref a1)]) K d_c1_faultIn_7 rfl rfl ?_
  refine g_iload_n K d_c1_faultIn_8 0 rfl ?_
  refine g_iconst (v := 3) K d_c1_faultIn_9 (by decide) ?_
  refine g_icmp_lt K d_c1_faultIn_10 (fun c2 => ?_) (fun c2 => ?_)
  · rw [if_pos c2] at hy
    refine g_iconst (v := 0) K d_c1_faultIn_19 (by decide) ?_
    obtain rfl := Option.some.inj hy
    exact hret rfl _ _ _ d_c1_faultIn_20
  · rw [if_neg c2] at hy
    refine g_iload_n K d_c1_faultIn_13 0 rfl ?_
    refine g_bipush (v := 6) K d_c1_faultIn_14 (by decide) ?_
    refine g_icmp_le K d_c1_faultIn_16 (fun c3 => ?_) (fun c3 => ?_)
    · rw [if_pos c3] at hy
      refine g_aload_n K d_c1_faultIn_21 2 rfl ?_
      refine g_iconst (v := 1) K d_c1_faultIn_22 (by decide) ?_
      refine g_bipush (v := 80) K d_c1_faultIn_23 (by decide) ?_
      obtain ⟨q4, e_q4, hy⟩ := gBd hy
      refine g_callVi (rest := []) K hx ly_c8_digit kv_c1_28 d_c1_faultIn_25 (ct_c8_digit M.2.1 X hx N a1 (1 : Int32) (80 : Int32) h q4 e_q4) rfl rfl (Nat.le_of_ble_eq_true rfl) (gDep rfl) ⟨Nat.le_refl 0, Nat.le_refl 0⟩ ?_
      refine g_istore_n (ls2 := [(3, .int q4), (2, .int q1), (0, .ref a0), (1, .ref a1)]) K d_c1_faultIn_28 rfl rfl ?_
      refine g_iload_n K d_c1_faultIn_29 0 rfl ?_
      refine g_iconst (v := 3) K d_c1_faultIn_30 (by decide) ?_
      refine g_icmp_lt K d_c1_faultIn_31 (fun c5 => ?_) (fun c5 => ?_)
      · rw [if_pos c5] at hy
        refine g_iconst (v := 1) K d_c1_faultIn_40 (by decide) ?_
        obtain rfl := Option.some.inj hy
        exact hret rfl _ _ _ d_c1_faultIn_41
      · rw [if_neg c5] at hy
        refine g_iload_n K d_c1_faultIn_34 0 rfl ?_
        refine g_bipush (v := 6) K d_c1_faultIn_35 (by decide) ?_
        refine g_icmp_le K d_c1_faultIn_37 (fun c6 => ?_) (fun c6 => ?_)
        · rw [if_pos c6] at hy
          refine g_iconst (v := 2) K d_c1_faultIn_42 (by decide) ?_
          refine g_iload_n K d_c1_faultIn_43 1 rfl ?_
          refine g_iload_n K d_c1_faultIn_44 0 rfl ?_
          refine g_imul K d_c1_faultIn_45 ?_
          refine g_iadd K d_c1_faultIn_46 ?_
          refine g_istore (ls2 := [(4, .int ((2 : Int32) + (q1 * q4))), (3, .int q4), (2, .int q1), (0, .ref a0), (1, .ref a1)]) K d_c1_faultIn_47 rfl rfl ?_
          refine g_iconst (v := 0) K d_c1_faultIn_49 (by decide) ?_
          refine g_istore (ls2 := [(5, .int (0 : Int32)), (4, .int ((2 : Int32) + (q1 * q4))), (3, .int q4), (2, .int q1), (0, .ref a0), (1, .ref a1)]) K d_c1_faultIn_50 rfl rfl ?_
          refine g_iconst (v := 2) K d_c1_faultIn_52 (by decide) ?_
          refine g_istore (ls2 := [(6, .int (2 : Int32)), (5, .int (0 : Int32)), (4, .int ((2 : Int32) + (q1 * q4))), (3, .int q4), (2, .int q1), (0, .ref a0), (1, .ref a1)]) K d_c1_faultIn_53 rfl rfl ?_
          obtain ⟨o20, e_o20, hy⟩ := gBd hy
          refine g_sub (ls2 := [(1, .ref a1), (4, .int ((2 : Int32) + (q1 * q4))), (5, .int (0 : Int32)), (6, .int (2 : Int32))]) [6, 2, 1, 0] rfl ?_
          refine wlp_c1_faultIn_55 hx K a1 ((2 : Int32) + (q1 * q4)) h N (0 : Int32) (2 : Int32) o20 e_o20 (fun t21 e_t21 => ?_) (fun r22 e_r22 => ?_)
          · subst e_t21
            simp only [Sum.elim_inr] at hy
            refine g_aload_n K d_c1_faultIn_141 0 rfl ?_
            obtain ⟨v24, e_v24, hy⟩ := gBd hy
            refine g_getI K fl_c1_37 d_c1_faultIn_142 e_v24 ?_
            refine g_iload K d_c1_faultIn_145 1 rfl ?_
            have hJ27 : ∀ w26 : Int32, w26 = (if v24 ≤ ((2 : Int32) + (q1 * q4)) then (-1 : Int32) else (2 : Int32) + (q1 * q4)) → gG M X 9 0 0 156 [(1, .ref a1), (4, .int ((2 : Int32) + (q1 * q4)))] [.int w26] h := by
              intro w26 e_w26
              subst e_w26
              obtain rfl := Option.some.inj hy
              exact hret rfl _ _ _ d_c1_faultIn_156
            refine g_icmp_le K d_c1_faultIn_147 (fun c25 => ?_) (fun c25 => ?_)
            · refine g_iconst (v := (-1)) K d_c1_faultIn_155 (by decide) ?_
              exact hJ27 _ (by rw [if_pos c25])
            · refine g_iload K d_c1_faultIn_150 1 rfl ?_
              refine g_goto K d_c1_faultIn_152 ?_
              exact hJ27 _ (by rw [if_neg c25])
          · subst e_r22
            simp only [Sum.elim_inl] at hy
            intro hn pc9 pc9' ls9 hd9
            obtain rfl := Option.some.inj hy
            exact hret hn _ _ _ hd9
        · rw [if_neg c6] at hy
          refine g_iconst (v := 1) K d_c1_faultIn_40 (by decide) ?_
          obtain rfl := Option.some.inj hy
          exact hret rfl _ _ _ d_c1_faultIn_41
    · rw [if_neg c3] at hy
      refine g_iconst (v := 0) K d_c1_faultIn_19 (by decide) ?_
      obtain rfl := Option.some.inj hy
      exact hret rfl _ _ _ d_c1_faultIn_20
-- c1 villagesNear
theorem d_c1_villagesNear_0 : gD b_c1_villagesNear 0 (.iconst 0) 1 1 := ⟨by decide +kernel, rfl⟩
theorem d_c1_villagesNear_1 : gD b_c1_villagesNear 1 (.istore_n 3) 1 2 := ⟨by decide +kernel, rfl⟩
theorem d_c1_villagesNear_2 : gD b_c1_villagesNear 2 (.iconst 0) 1 3 := ⟨by decide +kernel, rfl⟩
theorem d_c1_villagesNear_3 : gD b_c1_villagesNear 3 (.istore 4) 2 5 := ⟨by decide +kernel, rfl⟩
theorem d_c1_villagesNear_5 : gD b_c1_villagesNear 5 (.iload 4) 2 7 := ⟨by decide +kernel, rfl⟩
theorem d_c1_villagesNear_7 : gD b_c1_villagesNear 7 (.aload_n 0) 1 8 := ⟨by decide +kernel, rfl⟩
theorem d_c1_villagesNear_8 : gD b_c1_villagesNear 8 (.getfield 40) 3 11 := ⟨by decide +kernel, rfl⟩
theorem d_c1_villagesNear_11 : gJ b_c1_villagesNear 11 (.if_icmp .ge 33) 3 33 14 44 := ⟨by decide +kernel, rfl, by decide⟩
theorem d_c1_villagesNear_14 : gD b_c1_villagesNear 14 (.iload_n 3) 1 15 := ⟨by decide +kernel, rfl⟩
theorem d_c1_villagesNear_15 : gD b_c1_villagesNear 15 (.aload_n 0) 1 16 := ⟨by decide +kernel, rfl⟩
theorem d_c1_villagesNear_16 : gD b_c1_villagesNear 16 (.aload_n 0) 1 17 := ⟨by decide +kernel, rfl⟩
theorem d_c1_villagesNear_17 : gD b_c1_villagesNear 17 (.getfield 18) 3 20 := ⟨by decide +kernel, rfl⟩
theorem d_c1_villagesNear_20 : gD b_c1_villagesNear 20 (.iload 4) 2 22 := ⟨by decide +kernel, rfl⟩
theorem d_c1_villagesNear_22 : gD b_c1_villagesNear 22 .iaload 1 23 := ⟨by decide +kernel, rfl⟩
theorem d_c1_villagesNear_23 : gD b_c1_villagesNear 23 (.iload_n 1) 1 24 := ⟨by decide +kernel, rfl⟩
theorem d_c1_villagesNear_24 : gD b_c1_villagesNear 24 (.invokevirtual 62) 3 27 := ⟨by decide +kernel, rfl⟩
theorem d_c1_villagesNear_27 : gD b_c1_villagesNear 27 (.iload_n 2) 1 28 := ⟨by decide +kernel, rfl⟩
theorem d_c1_villagesNear_28 : gJ b_c1_villagesNear 28 (.if_icmp .gt 7) 3 7 31 35 := ⟨by decide +kernel, rfl, by decide⟩
theorem d_c1_villagesNear_31 : gD b_c1_villagesNear 31 (.iconst 1) 1 32 := ⟨by decide +kernel, rfl⟩
theorem d_c1_villagesNear_32 : gJ b_c1_villagesNear 32 (.goto 4) 3 4 35 36 := ⟨by decide +kernel, rfl, by decide⟩
theorem d_c1_villagesNear_35 : gD b_c1_villagesNear 35 (.iconst 0) 1 36 := ⟨by decide +kernel, rfl⟩
theorem d_c1_villagesNear_36 : gD b_c1_villagesNear 36 .iadd 1 37 := ⟨by decide +kernel, rfl⟩
theorem d_c1_villagesNear_37 : gD b_c1_villagesNear 37 (.istore_n 3) 1 38 := ⟨by decide +kernel, rfl⟩
theorem d_c1_villagesNear_38 : gD b_c1_villagesNear 38 (.iinc 4 1) 3 41 := ⟨by decide +kernel, rfl⟩
theorem d_c1_villagesNear_41 : gJ b_c1_villagesNear 41 (.goto (-36)) 3 (-36) 44 5 := ⟨by decide +kernel, rfl, by decide⟩
theorem d_c1_villagesNear_44 : gD b_c1_villagesNear 44 (.iload_n 3) 1 45 := ⟨by decide +kernel, rfl⟩
theorem d_c1_villagesNear_45 : gD b_c1_villagesNear 45 .ireturn 1 46 := ⟨by decide +kernel, rfl⟩
def lp_c1_villagesNear_5 (N : Nat) (a0 : Nat) (x1 : Int32) (x2 : Int32) (h : gH) : Nat → Int32 → Int32 → Option (Int32)
  | 0, _, _ => none
  | k + 1, x3, x4 =>
  (gfI h a0 1 2).bind fun v1 =>
    if v1 ≤ x4 then
    some x3
  else
    (gfR h a0 1 3).bind fun v3 =>
    (ga 0 h v3 x4).bind fun v4 =>
    (f_c1_far N a0 v4 x1 h).bind fun q5 =>
    lp_c1_villagesNear_5 N a0 x1 x2 h k (x3 + (if x2 < q5 then (0 : Int32) else (1 : Int32))) (x4 + (1 : Int32))
def f_c1_villagesNear (N : Nat) (a0 : Nat) (x1 : Int32) (x2 : Int32) (h : gH) : Option (Int32) :=
  (gcl h a0 1).bind fun _ =>
  (lp_c1_villagesNear_5 N a0 x1 x2 h N (0 : Int32) (0 : Int32)).bind fun o9 =>
    some o9
set_option maxHeartbeats 4000000 in
set_option maxRecDepth 100000 in
theorem wlp_c1_villagesNear_5 {M : gM} {X : gX} {N : Nat} (hx : gEx X = false) (K : gC M X gN1 b_c1_villagesNear 5 (gRm (3 + N) 0 0)) (a0 : Nat) (x1 : Int32) (x2 : Int32) (h : gH) : ∀ (k : Nat) (x3 : Int32) (x4 : Int32) (o : Int32), lp_c1_villagesNear_5 N a0 x1 x2 h k x3 x4 = some o → gG M X 5 0 0 44 [(3, .int o)] [] h → gG M X 5 0 0 5 [(0, .ref a0), (1, .int x1), (2, .int x2), (3, .int x3), (4, .int x4)] [] h := by
  intro k
  induction k with
  | zero =>
    intro x3 x4 o hy
    rw [lp_c1_villagesNear_5.eq_1] at hy
    cases hy
  | succ k ih =>
    intro x3 x4 o hy hE
    rw [lp_c1_villagesNear_5.eq_2] at hy
    refine g_iload K d_c1_villagesNear_5 4 rfl ?_
    refine g_aload_n K d_c1_villagesNear_7 0 rfl ?_
    obtain ⟨v1, e_v1, hy⟩ := gBd hy
    refine g_getI K fl_c1_40 d_c1_villagesNear_8 e_v1 ?_
    refine g_icmp_ge K d_c1_villagesNear_11 (fun c2 => ?_) (fun c2 => ?_)
    · rw [if_pos c2] at hy
      refine g_sub (ls2 := [(3, .int x3)]) [3] rfl ?_
      obtain rfl := Option.some.inj hy
      exact hE
    · rw [if_neg c2] at hy
      refine g_iload_n K d_c1_villagesNear_14 3 rfl ?_
      refine g_aload_n K d_c1_villagesNear_15 0 rfl ?_
      refine g_aload_n K d_c1_villagesNear_16 0 rfl ?_
      obtain ⟨v3, e_v3, hy⟩ := gBd hy
      refine g_getR K fl_c1_18 d_c1_villagesNear_17 e_v3 ?_
      refine g_iload K d_c1_villagesNear_20 4 rfl ?_
      obtain ⟨v4, e_v4, hy⟩ := gBd hy
      refine g_iald K d_c1_villagesNear_22 e_v4 ?_
      refine g_iload_n K d_c1_villagesNear_23 1 rfl ?_
      obtain ⟨q5, e_q5, hy⟩ := gBd hy
      refine g_callVi (rest := [.int x3]) K hx ly_c1_far kv_c1_62 d_c1_villagesNear_24 (ct_c1_far M.2.1 X hx N a0 v4 x1 h q5 e_q5) rfl rfl (Nat.le_of_ble_eq_true rfl) (gDep rfl) ⟨Nat.le_refl 0, Nat.le_refl 0⟩ ?_
      refine g_iload_n K d_c1_villagesNear_27 2 rfl ?_
      have hJ8 : ∀ w7 : Int32, w7 = (if x2 < q5 then (0 : Int32) else (1 : Int32)) → gG M X 5 0 0 36 [(0, .ref a0), (1, .int x1), (2, .int x2), (3, .int x3), (4, .int x4)] [.int w7, .int x3] h := by
        intro w7 e_w7
        subst e_w7
        refine g_iadd K d_c1_villagesNear_36 ?_
        refine g_istore_n (ls2 := [(3, .int (x3 + (if x2 < q5 then (0 : Int32) else (1 : Int32)))), (0, .ref a0), (1, .int x1), (2, .int x2), (4, .int x4)]) K d_c1_villagesNear_37 rfl rfl ?_
        refine g_iinc (ls2 := [(4, .int (x4 + (1 : Int32))), (3, .int (x3 + (if x2 < q5 then (0 : Int32) else (1 : Int32)))), (0, .ref a0), (1, .int x1), (2, .int x2)]) (v := 1) K d_c1_villagesNear_38 4 rfl (by decide) rfl rfl ?_
        refine g_goto K d_c1_villagesNear_41 ?_
        refine g_sub (ls2 := [(0, .ref a0), (1, .int x1), (2, .int x2), (3, .int (x3 + (if x2 < q5 then (0 : Int32) else (1 : Int32)))), (4, .int (x4 + (1 : Int32)))]) [2, 3, 4, 1, 0] rfl ?_
        exact ih _ _ _ hy hE
      refine g_icmp_gt K d_c1_villagesNear_28 (fun c6 => ?_) (fun c6 => ?_)
      · refine g_iconst (v := 0) K d_c1_villagesNear_35 (by decide) ?_
        exact hJ8 _ (by rw [if_pos c6])
      · refine g_iconst (v := 1) K d_c1_villagesNear_31 (by decide) ?_
        refine g_goto K d_c1_villagesNear_32 ?_
        exact hJ8 _ (by rw [if_neg c6])
set_option maxHeartbeats 4000000 in
set_option maxRecDepth 100000 in
theorem ct_c1_villagesNear (l : Launch) (X : gX) (hx : gEx X = false) (N : Nat) (a0 : Nat) (x1 : Int32) (x2 : Int32) (h : gH) (q : Int32) (hy : f_c1_villagesNear N a0 x1 x2 h = some q) : gRc y_c1_villagesNear h a0 ∧ gMi l X y_c1_villagesNear b_c1_villagesNear 5 .int (3 + N) 0 0 [.ref a0, .int x1, .int x2] h q h := by
  unfold f_c1_villagesNear at hy
  obtain ⟨u0, e_u0, hy⟩ := gBd hy
  cases u0
  refine ⟨Or.inl ⟨1, _, _, e_u0, rfl⟩, gMet_i (lsx := [(0, .ref a0), (1, .int x1), (2, .int x2)]) (by decide) rfl rfl ?_⟩
  intro M hMl K hret
  subst hMl
  refine g_iconst (v := 0) K d_c1_villagesNear_0 (by decide) ?_
  refine g_istore_n (ls2 := [(3, .int (0 : Int32)), (0, .ref a0), (1, .int x1), (2, .int x2)]) K d_c1_villagesNear_1 rfl rfl ?_
  refine g_iconst (v := 0) K d_c1_villagesNear_2 (by decide) ?_
  refine g_istore (ls2 := [(4, .int (0 : Int32)), (3, .int (0 : Int32)), (0, .ref a0), (1, .int x1), (2, .int x2)]) K d_c1_villagesNear_3 rfl rfl ?_
  obtain ⟨o9, e_o9, hy⟩ := gBd hy
  refine g_sub (ls2 := [(0, .ref a0), (1, .int x1), (2, .int x2), (3, .int (0 : Int32)), (4, .int (0 : Int32))]) [2, 3, 4, 1, 0] rfl ?_
  refine wlp_c1_villagesNear_5 hx K a0 x1 x2 h N (0 : Int32) (0 : Int32) o9 e_o9 ?_
  refine g_iload_n K d_c1_villagesNear_44 0 rfl ?_
  obtain rfl := Option.some.inj hy
  exact hret rfl _ _ _ d_c1_villagesNear_45
-- c5 bring
theorem d_c5_bring_0 : gD b_c5_bring 0 (.iload_n 1) 1 1 := ⟨by decide +kernel, rfl⟩
theorem d_c5_bring_1 : gJ b_c5_bring 1 (.ifCond .lt 17) 3 17 4 18 := ⟨by decide +kernel, rfl, by decide⟩
theorem d_c5_bring_4 : gD b_c5_bring 4 (.iload_n 1) 1 5 := ⟨by decide +kernel, rfl⟩
theorem d_c5_bring_5 : gD b_c5_bring 5 (.iconst 2) 1 6 := ⟨by decide +kernel, rfl⟩
theorem d_c5_bring_6 : gJ b_c5_bring 6 (.if_icmp .ge 12) 3 12 9 18 := ⟨by decide +kernel, rfl, by decide⟩
theorem d_c5_bring_9 : gD b_c5_bring 9 (.aload_n 0) 1 10 := ⟨by decide +kernel, rfl⟩
theorem d_c5_bring_10 : gD b_c5_bring 10 (.getfield 20) 3 13 := ⟨by decide +kernel, rfl⟩
theorem d_c5_bring_13 : gD b_c5_bring 13 (.iload_n 1) 1 14 := ⟨by decide +kernel, rfl⟩
theorem d_c5_bring_14 : gD b_c5_bring 14 .baload 1 15 := ⟨by decide +kernel, rfl⟩
theorem d_c5_bring_15 : gJ b_c5_bring 15 (.ifCond .ne 5) 3 5 18 20 := ⟨by decide +kernel, rfl, by decide⟩
theorem d_c5_bring_18 : gD b_c5_bring 18 (.iconst 0) 1 19 := ⟨by decide +kernel, rfl⟩
theorem d_c5_bring_19 : gD b_c5_bring 19 .ireturn 1 20 := ⟨by decide +kernel, rfl⟩
theorem d_c5_bring_20 : gD b_c5_bring 20 (.aload_n 2) 1 21 := ⟨by decide +kernel, rfl⟩
theorem d_c5_bring_21 : gD b_c5_bring 21 (.aload_n 0) 1 22 := ⟨by decide +kernel, rfl⟩
theorem d_c5_bring_22 : gD b_c5_bring 22 (.getfield 17) 3 25 := ⟨by decide +kernel, rfl⟩
theorem d_c5_bring_25 : gD b_c5_bring 25 (.iload_n 1) 1 26 := ⟨by decide +kernel, rfl⟩
theorem d_c5_bring_26 : gD b_c5_bring 26 .aaload 1 27 := ⟨by decide +kernel, rfl⟩
theorem d_c5_bring_27 : gD b_c5_bring 27 (.invokevirtual 29) 3 30 := ⟨by decide +kernel, rfl⟩
theorem d_c5_bring_30 : gD b_c5_bring 30 (.aload_n 0) 1 31 := ⟨by decide +kernel, rfl⟩
theorem d_c5_bring_31 : gD b_c5_bring 31 (.iconst 0) 1 32 := ⟨by decide +kernel, rfl⟩
theorem d_c5_bring_32 : gD b_c5_bring 32 (.putfield 25) 3 35 := ⟨by decide +kernel, rfl⟩
theorem d_c5_bring_35 : gD b_c5_bring 35 (.iconst 1) 1 36 := ⟨by decide +kernel, rfl⟩
theorem d_c5_bring_36 : gD b_c5_bring 36 .ireturn 1 37 := ⟨by decide +kernel, rfl⟩
def f_c5_bring (N : Nat) (a0 : Nat) (x1 : Int32) (a2 : Nat) (h : gH) : Option (Int32 × gH) :=
  (gcl h a0 5).bind fun _ =>
  if x1 < 0 then
    (gZ (0 : Int32)).bind fun w2 => some (w2, h)
  else
    if (2 : Int32) ≤ x1 then
    (gZ (0 : Int32)).bind fun w4 => some (w4, h)
  else
    (gfR h a0 5 2).bind fun v5 =>
    (gaB h v5 x1).bind fun v6 =>
    if v6 = 0 then
    (gZ (0 : Int32)).bind fun w13 => some (w13, h)
  else
    (gfR h a0 5 1).bind fun v8 =>
    (gaR h v8 x1).bind fun v9 =>
    (f_c7_take N a2 v9 h).bind fun q10 =>
    (sf q10 a0 5 3 (.int (0 : Int32))).bind fun h11 =>
    (gZ (1 : Int32)).bind fun w12 => some (w12, h11)
set_option maxHeartbeats 4000000 in
set_option maxRecDepth 100000 in
theorem ct_c5_bring (l : Launch) (X : gX) (hx : gEx X = false) (N : Nat) (a0 : Nat) (x1 : Int32) (a2 : Nat) (h : gH) (q : Int32 × gH) (hy : f_c5_bring N a0 x1 a2 h = some q) : gRc y_c5_bring h a0 ∧ gMi l X y_c5_bring b_c5_bring 3 .boolean (3 + N) 0 0 [.ref a0, .int x1, .ref a2] h q.1 q.2 := by
  unfold f_c5_bring at hy
  obtain ⟨u0, e_u0, hy⟩ := gBd hy
  cases u0
  refine ⟨Or.inl ⟨5, _, _, e_u0, rfl⟩, gMet_i (lsx := [(0, .ref a0), (1, .int x1), (2, .ref a2)]) (by decide) rfl rfl ?_⟩
  intro M hMl K hret
  subst hMl
  refine g_iload_n K d_c5_bring_0 1 rfl ?_
  refine g_if_lt K d_c5_bring_1 (fun c1 => ?_) (fun c1 => ?_)
  · rw [if_pos c1] at hy
    refine g_iconst (v := 0) K d_c5_bring_18 (by decide) ?_
    obtain ⟨w2, e_w2, hy⟩ := gBd hy
    obtain ⟨z_w2, n_w2⟩ := gZ_spec e_w2
    rw [z_w2]
    obtain rfl := Option.some.inj hy
    exact hret (gZn n_w2) _ _ _ d_c5_bring_19
  · rw [if_neg c1] at hy
    refine g_iload_n K d_c5_bring_4 1 rfl ?_
    refine g_iconst (v := 2) K d_c5_bring_5 (by decide) ?_
    refine g_icmp_ge K d_c5_bring_6 (fun c3 => ?_) (fun c3 => ?_)
    · rw [if_pos c3] at hy
      refine g_iconst (v := 0) K d_c5_bring_18 (by decide) ?_
      obtain ⟨w4, e_w4, hy⟩ := gBd hy
      obtain ⟨z_w4, n_w4⟩ := gZ_spec e_w4
      rw [z_w4]
      obtain rfl := Option.some.inj hy
      exact hret (gZn n_w4) _ _ _ d_c5_bring_19
    · rw [if_neg c3] at hy
      refine g_aload_n K d_c5_bring_9 0 rfl ?_
      obtain ⟨v5, e_v5, hy⟩ := gBd hy
      refine g_getR K fl_c5_20 d_c5_bring_10 e_v5 ?_
      refine g_iload_n K d_c5_bring_13 1 rfl ?_
      obtain ⟨v6, e_v6, hy⟩ := gBd hy
      refine g_bald K d_c5_bring_14 e_v6 ?_
      refine g_if_ne K d_c5_bring_15 (fun c7 => ?_) (fun c7 => ?_)
      · rw [if_neg c7] at hy
        refine g_aload_n K d_c5_bring_20 2 rfl ?_
        refine g_aload_n K d_c5_bring_21 0 rfl ?_
        obtain ⟨v8, e_v8, hy⟩ := gBd hy
        refine g_getR K fl_c5_17 d_c5_bring_22 e_v8 ?_
        refine g_iload_n K d_c5_bring_25 1 rfl ?_
        obtain ⟨v9, e_v9, hy⟩ := gBd hy
        refine g_aald K d_c5_bring_26 e_v9 ?_
        obtain ⟨q10, e_q10, hy⟩ := gBd hy
        refine g_callVv (rest := []) K hx ly_c7_take kv_c5_29 d_c5_bring_27 (ct_c7_take M.2.1 X hx N a2 v9 h q10 e_q10) rfl rfl (Nat.le_of_ble_eq_true rfl) (gDep rfl) ⟨Nat.le_refl 0, Nat.le_refl 0⟩ ?_
        refine g_aload_n K d_c5_bring_30 0 rfl ?_
        refine g_iconst (v := 0) K d_c5_bring_31 (by decide) ?_
        obtain ⟨h11, e_h11, hy⟩ := gBd hy
        refine g_putI K fp_c5_25 d_c5_bring_32 e_h11 ?_
        refine g_iconst (v := 1) K d_c5_bring_35 (by decide) ?_
        obtain ⟨w12, e_w12, hy⟩ := gBd hy
        obtain ⟨z_w12, n_w12⟩ := gZ_spec e_w12
        rw [z_w12]
        obtain rfl := Option.some.inj hy
        exact hret (gZn n_w12) _ _ _ d_c5_bring_36
      · rw [if_pos c7] at hy
        refine g_iconst (v := 0) K d_c5_bring_18 (by decide) ?_
        obtain ⟨w13, e_w13, hy⟩ := gBd hy
        obtain ⟨z_w13, n_w13⟩ := gZ_spec e_w13
        rw [z_w13]
        obtain rfl := Option.some.inj hy
        exact hret (gZn n_w13) _ _ _ d_c5_bring_19
-- c5 pop
theorem d_c5_pop_0 : gD b_c5_pop 0 (.aload_n 0) 1 1 := ⟨by decide +kernel, rfl⟩
theorem d_c5_pop_1 : gD b_c5_pop 1 (.getfield 25) 3 4 := ⟨by decide +kernel, rfl⟩
theorem d_c5_pop_4 : gD b_c5_pop 4 (.iconst 1) 1 5 := ⟨by decide +kernel, rfl⟩
theorem d_c5_pop_5 : gJ b_c5_pop 5 (.if_icmp .ge 5) 3 5 8 10 := ⟨by decide +kernel, rfl, by decide⟩
theorem d_c5_pop_8 : gD b_c5_pop 8 (.iconst (-1)) 1 9 := ⟨by decide +kernel, rfl⟩
theorem d_c5_pop_9 : gD b_c5_pop 9 .ireturn 1 10 := ⟨by decide +kernel, rfl⟩
theorem d_c5_pop_10 : gD b_c5_pop 10 (.aload_n 0) 1 11 := ⟨by decide +kernel, rfl⟩
theorem d_c5_pop_11 : gD b_c5_pop 11 .dup 1 12 := ⟨by decide +kernel, rfl⟩
theorem d_c5_pop_12 : gD b_c5_pop 12 (.getfield 25) 3 15 := ⟨by decide +kernel, rfl⟩
theorem d_c5_pop_15 : gD b_c5_pop 15 (.iconst 1) 1 16 := ⟨by decide +kernel, rfl⟩
theorem d_c5_pop_16 : gD b_c5_pop 16 .isub 1 17 := ⟨by decide +kernel, rfl⟩
theorem d_c5_pop_17 : gD b_c5_pop 17 (.putfield 25) 3 20 := ⟨by decide +kernel, rfl⟩
theorem d_c5_pop_20 : gD b_c5_pop 20 (.aload_n 1) 1 21 := ⟨by decide +kernel, rfl⟩
theorem d_c5_pop_21 : gD b_c5_pop 21 (.aload_n 0) 1 22 := ⟨by decide +kernel, rfl⟩
theorem d_c5_pop_22 : gD b_c5_pop 22 (.getfield 11) 3 25 := ⟨by decide +kernel, rfl⟩
theorem d_c5_pop_25 : gD b_c5_pop 25 (.aload_n 0) 1 26 := ⟨by decide +kernel, rfl⟩
theorem d_c5_pop_26 : gD b_c5_pop 26 (.getfield 25) 3 29 := ⟨by decide +kernel, rfl⟩
theorem d_c5_pop_29 : gD b_c5_pop 29 .aaload 1 30 := ⟨by decide +kernel, rfl⟩
theorem d_c5_pop_30 : gD b_c5_pop 30 (.invokevirtual 29) 3 33 := ⟨by decide +kernel, rfl⟩
theorem d_c5_pop_33 : gD b_c5_pop 33 (.aload_n 0) 1 34 := ⟨by decide +kernel, rfl⟩
theorem d_c5_pop_34 : gD b_c5_pop 34 (.getfield 25) 3 37 := ⟨by decide +kernel, rfl⟩
theorem d_c5_pop_37 : gD b_c5_pop 37 .ireturn 1 38 := ⟨by decide +kernel, rfl⟩
def f_c5_pop (N : Nat) (a0 : Nat) (a1 : Nat) (h : gH) : Option (Int32 × gH) :=
  (gcl h a0 5).bind fun _ =>
  (gfI h a0 5 3).bind fun v1 =>
    if (1 : Int32) ≤ v1 then
    (gfI h a0 5 3).bind fun v3 =>
    (sf h a0 5 3 (.int (v3 - (1 : Int32)))).bind fun h4 =>
    (gfR h4 a0 5 0).bind fun v5 =>
    (gfI h4 a0 5 3).bind fun v6 =>
    (gaR h4 v5 v6).bind fun v7 =>
    (f_c7_take N a1 v7 h4).bind fun q8 =>
    (gfI q8 a0 5 3).bind fun v9 =>
    some (v9, q8)
  else
    some ((-1 : Int32), h)
set_option maxHeartbeats 4000000 in
set_option maxRecDepth 100000 in
theorem ct_c5_pop (l : Launch) (X : gX) (hx : gEx X = false) (N : Nat) (a0 : Nat) (a1 : Nat) (h : gH) (q : Int32 × gH) (hy : f_c5_pop N a0 a1 h = some q) : gRc y_c5_pop h a0 ∧ gMi l X y_c5_pop b_c5_pop 2 .int (3 + N) 0 0 [.ref a0, .ref a1] h q.1 q.2 := by
  unfold f_c5_pop at hy
  obtain ⟨u0, e_u0, hy⟩ := gBd hy
  cases u0
  refine ⟨Or.inl ⟨5, _, _, e_u0, rfl⟩, gMet_i (lsx := [(0, .ref a0), (1, .ref a1)]) (by decide) rfl rfl ?_⟩
  intro M hMl K hret
  subst hMl
  refine g_aload_n K d_c5_pop_0 0 rfl ?_
  obtain ⟨v1, e_v1, hy⟩ := gBd hy
  refine g_getI K fl_c5_25 d_c5_pop_1 e_v1 ?_
  refine g_iconst (v := 1) K d_c5_pop_4 (by decide) ?_
  refine g_icmp_ge K d_c5_pop_5 (fun c2 => ?_) (fun c2 => ?_)
  · rw [if_pos c2] at hy
    refine g_aload_n K d_c5_pop_10 0 rfl ?_
    refine g_dup K d_c5_pop_11 rfl ?_
    obtain ⟨v3, e_v3, hy⟩ := gBd hy
    refine g_getI K fl_c5_25 d_c5_pop_12 e_v3 ?_
    refine g_iconst (v := 1) K d_c5_pop_15 (by decide) ?_
    refine g_isub K d_c5_pop_16 ?_
    obtain ⟨h4, e_h4, hy⟩ := gBd hy
    refine g_putI K fp_c5_25 d_c5_pop_17 e_h4 ?_
    refine g_aload_n K d_c5_pop_20 1 rfl ?_
    refine g_aload_n K d_c5_pop_21 0 rfl ?_
    obtain ⟨v5, e_v5, hy⟩ := gBd hy
    refine g_getR K fl_c5_11 d_c5_pop_22 e_v5 ?_
    refine g_aload_n K d_c5_pop_25 0 rfl ?_
    obtain ⟨v6, e_v6, hy⟩ := gBd hy
    refine g_getI K fl_c5_25 d_c5_pop_26 e_v6 ?_
    obtain ⟨v7, e_v7, hy⟩ := gBd hy
    refine g_aald K d_c5_pop_29 e_v7 ?_
    obtain ⟨q8, e_q8, hy⟩ := gBd hy
    refine g_callVv (rest := []) K hx ly_c7_take kv_c5_29 d_c5_pop_30 (ct_c7_take M.2.1 X hx N a1 v7 h4 q8 e_q8) rfl rfl (Nat.le_of_ble_eq_true rfl) (gDep rfl) ⟨Nat.le_refl 0, Nat.le_refl 0⟩ ?_
    refine g_aload_n K d_c5_pop_33 0 rfl ?_
    obtain ⟨v9, e_v9, hy⟩ := gBd hy
    refine g_getI K fl_c5_25 d_c5_pop_34 e_v9 ?_
    obtain rfl := Option.some.inj hy
    exact hret rfl _ _ _ d_c5_pop_37
  · rw [if_neg c2] at hy
    refine g_iconst (v := (-1)) K d_c5_pop_8 (by decide) ?_
    obtain rfl := Option.some.inj hy
    exact hret rfl _ _ _ d_c5_pop_9
-- c5 push
theorem d_c5_push_0 : gD b_c5_push 0 (.aload_n 0) 1 1 := ⟨by decide +kernel, rfl⟩
theorem d_c5_push_1 : gD b_c5_push 1 (.getfield 25) 3 4 := ⟨by decide +kernel, rfl⟩
theorem d_c5_push_4 : gD b_c5_push 4 (.bipush 12) 2 6 := ⟨by decide +kernel, rfl⟩
theorem d_c5_push_6 : gJ b_c5_push 6 (.if_icmp .lt 52) 3 52 9 58 := ⟨by decide +kernel, rfl, by decide⟩
theorem d_c5_push_9 : gD b_c5_push 9 (.aload_n 0) 1 10 := ⟨by decide +kernel, rfl⟩
theorem d_c5_push_10 : gD b_c5_push 10 (.getfield 11) 3 13 := ⟨by decide +kernel, rfl⟩
theorem d_c5_push_13 : gD b_c5_push 13 (.iconst 0) 1 14 := ⟨by decide +kernel, rfl⟩
theorem d_c5_push_14 : gD b_c5_push 14 .aaload 1 15 := ⟨by decide +kernel, rfl⟩
theorem d_c5_push_15 : gD b_c5_push 15 (.astore_n 2) 1 16 := ⟨by decide +kernel, rfl⟩
theorem d_c5_push_16 : gD b_c5_push 16 (.iconst 1) 1 17 := ⟨by decide +kernel, rfl⟩
theorem d_c5_push_17 : gD b_c5_push 17 (.istore_n 3) 1 18 := ⟨by decide +kernel, rfl⟩
theorem d_c5_push_18 : gD b_c5_push 18 (.iload_n 3) 1 19 := ⟨by decide +kernel, rfl⟩
theorem d_c5_push_19 : gD b_c5_push 19 (.bipush 12) 2 21 := ⟨by decide +kernel, rfl⟩
theorem d_c5_push_21 : gJ b_c5_push 21 (.if_icmp .ge 23) 3 23 24 44 := ⟨by decide +kernel, rfl, by decide⟩
theorem d_c5_push_24 : gD b_c5_push 24 (.aload_n 0) 1 25 := ⟨by decide +kernel, rfl⟩
theorem d_c5_push_25 : gD b_c5_push 25 (.getfield 11) 3 28 := ⟨by decide +kernel, rfl⟩
theorem d_c5_push_28 : gD b_c5_push 28 (.iload_n 3) 1 29 := ⟨by decide +kernel, rfl⟩
theorem d_c5_push_29 : gD b_c5_push 29 (.iconst 1) 1 30 := ⟨by decide +kernel, rfl⟩
theorem d_c5_push_30 : gD b_c5_push 30 .isub 1 31 := ⟨by decide +kernel, rfl⟩
theorem d_c5_push_31 : gD b_c5_push 31 (.aload_n 0) 1 32 := ⟨by decide +kernel, rfl⟩
theorem d_c5_push_32 : gD b_c5_push 32 (.getfield 11) 3 35 := ⟨by decide +kernel, rfl⟩
theorem d_c5_push_35 : gD b_c5_push 35 (.iload_n 3) 1 36 := ⟨by decide +kernel, rfl⟩
theorem d_c5_push_36 : gD b_c5_push 36 .aaload 1 37 := ⟨by decide +kernel, rfl⟩
theorem d_c5_push_37 : gD b_c5_push 37 .aastore 1 38 := ⟨by decide +kernel, rfl⟩
theorem d_c5_push_38 : gD b_c5_push 38 (.iinc 3 1) 3 41 := ⟨by decide +kernel, rfl⟩
theorem d_c5_push_41 : gJ b_c5_push 41 (.goto (-23)) 3 (-23) 44 18 := ⟨by decide +kernel, rfl, by decide⟩
theorem d_c5_push_44 : gD b_c5_push 44 (.aload_n 0) 1 45 := ⟨by decide +kernel, rfl⟩
theorem d_c5_push_45 : gD b_c5_push 45 (.getfield 11) 3 48 := ⟨by decide +kernel, rfl⟩
theorem d_c5_push_48 : gD b_c5_push 48 (.bipush 11) 2 50 := ⟨by decide +kernel, rfl⟩
theorem d_c5_push_50 : gD b_c5_push 50 (.aload_n 2) 1 51 := ⟨by decide +kernel, rfl⟩
theorem d_c5_push_51 : gD b_c5_push 51 .aastore 1 52 := ⟨by decide +kernel, rfl⟩
theorem d_c5_push_52 : gD b_c5_push 52 (.aload_n 0) 1 53 := ⟨by decide +kernel, rfl⟩
theorem d_c5_push_53 : gD b_c5_push 53 (.bipush 11) 2 55 := ⟨by decide +kernel, rfl⟩
theorem d_c5_push_55 : gD b_c5_push 55 (.putfield 25) 3 58 := ⟨by decide +kernel, rfl⟩
theorem d_c5_push_58 : gD b_c5_push 58 (.aload_n 0) 1 59 := ⟨by decide +kernel, rfl⟩
theorem d_c5_push_59 : gD b_c5_push 59 (.getfield 11) 3 62 := ⟨by decide +kernel, rfl⟩
theorem d_c5_push_62 : gD b_c5_push 62 (.aload_n 0) 1 63 := ⟨by decide +kernel, rfl⟩
theorem d_c5_push_63 : gD b_c5_push 63 (.getfield 25) 3 66 := ⟨by decide +kernel, rfl⟩
theorem d_c5_push_66 : gD b_c5_push 66 .aaload 1 67 := ⟨by decide +kernel, rfl⟩
theorem d_c5_push_67 : gD b_c5_push 67 (.aload_n 1) 1 68 := ⟨by decide +kernel, rfl⟩
theorem d_c5_push_68 : gD b_c5_push 68 (.invokevirtual 29) 3 71 := ⟨by decide +kernel, rfl⟩
theorem d_c5_push_71 : gD b_c5_push 71 (.aload_n 0) 1 72 := ⟨by decide +kernel, rfl⟩
theorem d_c5_push_72 : gD b_c5_push 72 .dup 1 73 := ⟨by decide +kernel, rfl⟩
theorem d_c5_push_73 : gD b_c5_push 73 (.getfield 25) 3 76 := ⟨by decide +kernel, rfl⟩
theorem d_c5_push_76 : gD b_c5_push 76 (.iconst 1) 1 77 := ⟨by decide +kernel, rfl⟩
theorem d_c5_push_77 : gD b_c5_push 77 .iadd 1 78 := ⟨by decide +kernel, rfl⟩
theorem d_c5_push_78 : gD b_c5_push 78 (.putfield 25) 3 81 := ⟨by decide +kernel, rfl⟩
theorem d_c5_push_81 : gD b_c5_push 81 .return_ 1 82 := ⟨by decide +kernel, rfl⟩
def lp_c5_push_18 (N : Nat) (a0 : Nat) : Nat → Int32 → gH → Option (gH)
  | 0, _, _ => none
  | k + 1, x3, h =>
  if (12 : Int32) ≤ x3 then
    some h
  else
    (gfR h a0 5 0).bind fun v14 =>
    (gfR h a0 5 0).bind fun v15 =>
    (gaR h v15 x3).bind fun v16 =>
    (saR h v14 (x3 - (1 : Int32)) v16).bind fun h17 =>
    lp_c5_push_18 N a0 k (x3 + (1 : Int32)) h17
def f_c5_push (N : Nat) (a0 : Nat) (a1 : Nat) (h : gH) : Option (gH) :=
  (gcl h a0 5).bind fun _ =>
  (gfI h a0 5 3).bind fun v1 =>
    (show Option (gH) from if v1 < (12 : Int32) then
    some h
  else
    (gfR h a0 5 0).bind fun v11 =>
    (gaR h v11 (0 : Int32)).bind fun v12 =>
    (lp_c5_push_18 N a0 N (1 : Int32) h).bind fun o18 =>
    (gfR o18 a0 5 0).bind fun v19 =>
    (saR o18 v19 (11 : Int32) v12).bind fun h20 =>
    (sf h20 a0 5 3 (.int (11 : Int32))).bind fun h21 =>
    some h21).bind fun t3 =>
    (gfR t3 a0 5 0).bind fun v5 =>
    (gfI t3 a0 5 3).bind fun v6 =>
    (gaR t3 v5 v6).bind fun v7 =>
    (f_c7_take N v7 a1 t3).bind fun q8 =>
    (gfI q8 a0 5 3).bind fun v9 =>
    (sf q8 a0 5 3 (.int (v9 + (1 : Int32)))).bind fun h10 =>
    some h10
set_option maxHeartbeats 4000000 in
set_option maxRecDepth 100000 in
theorem wlp_c5_push_18 {M : gM} {X : gX} {N : Nat} (hx : gEx X = false) (K : gC M X gN5 b_c5_push 4 (gRm (3 + N) 0 0)) (a0 : Nat) (a1 : Nat) (a2 : Nat) : ∀ (k : Nat) (x3 : Int32) (h : gH) (o : gH), lp_c5_push_18 N a0 k x3 h = some o → gG M X 4 0 0 44 [(0, .ref a0), (1, .ref a1), (2, .ref a2)] [] o → gG M X 4 0 0 18 [(0, .ref a0), (1, .ref a1), (2, .ref a2), (3, .int x3)] [] h := by
  intro k
  induction k with
  | zero =>
    intro x3 h o hy
    rw [lp_c5_push_18.eq_1] at hy
    cases hy
  | succ k ih =>
    intro x3 h o hy hE
    rw [lp_c5_push_18.eq_2] at hy
    refine g_iload_n K d_c5_push_18 3 rfl ?_
    refine g_bipush (v := 12) K d_c5_push_19 (by decide) ?_
    refine g_icmp_ge K d_c5_push_21 (fun c13 => ?_) (fun c13 => ?_)
    · rw [if_pos c13] at hy
      refine g_sub (ls2 := [(0, .ref a0), (1, .ref a1), (2, .ref a2)]) [0, 1, 2] rfl ?_
      obtain rfl := Option.some.inj hy
      exact hE
    · rw [if_neg c13] at hy
      refine g_aload_n K d_c5_push_24 0 rfl ?_
      obtain ⟨v14, e_v14, hy⟩ := gBd hy
      refine g_getR K fl_c5_11 d_c5_push_25 e_v14 ?_
      refine g_iload_n K d_c5_push_28 3 rfl ?_
      refine g_iconst (v := 1) K d_c5_push_29 (by decide) ?_
      refine g_isub K d_c5_push_30 ?_
      refine g_aload_n K d_c5_push_31 0 rfl ?_
      obtain ⟨v15, e_v15, hy⟩ := gBd hy
      refine g_getR K fl_c5_11 d_c5_push_32 e_v15 ?_
      refine g_iload_n K d_c5_push_35 3 rfl ?_
      obtain ⟨v16, e_v16, hy⟩ := gBd hy
      refine g_aald K d_c5_push_36 e_v16 ?_
      obtain ⟨h17, e_h17, hy⟩ := gBd hy
      refine g_aast K d_c5_push_37 e_h17 ?_
      refine g_iinc (ls2 := [(3, .int (x3 + (1 : Int32))), (0, .ref a0), (1, .ref a1), (2, .ref a2)]) (v := 1) K d_c5_push_38 3 rfl (by decide) rfl rfl ?_
      refine g_goto K d_c5_push_41 ?_
      refine g_sub (ls2 := [(0, .ref a0), (1, .ref a1), (2, .ref a2), (3, .int (x3 + (1 : Int32)))]) [1, 2, 3, 0] rfl ?_
      exact ih _ _ _ hy hE
set_option maxHeartbeats 4000000 in
set_option maxRecDepth 100000 in
theorem ct_c5_push (l : Launch) (X : gX) (hx : gEx X = false) (N : Nat) (a0 : Nat) (a1 : Nat) (h : gH) (q : gH) (hy : f_c5_push N a0 a1 h = some q) : gRc y_c5_push h a0 ∧ gMv l X y_c5_push b_c5_push 4 (3 + N) 0 0 [.ref a0, .ref a1] h q := by
  unfold f_c5_push at hy
  obtain ⟨u0, e_u0, hy⟩ := gBd hy
  cases u0
  refine ⟨Or.inl ⟨5, _, _, e_u0, rfl⟩, gMet_v (lsx := [(0, .ref a0), (1, .ref a1)]) (by decide) rfl rfl ?_⟩
  intro M hMl K hret
  subst hMl
  refine g_aload_n K d_c5_push_0 0 rfl ?_
  obtain ⟨v1, e_v1, hy⟩ := gBd hy
  refine g_getI K fl_c5_25 d_c5_push_1 e_v1 ?_
  refine g_bipush (v := 12) K d_c5_push_4 (by decide) ?_
  obtain ⟨t3, e_t3, hy⟩ := gBd hy
  have hJ4 : gG M X 4 0 0 58 [(0, .ref a0), (1, .ref a1)] [] t3 := by
    refine g_aload_n K d_c5_push_58 0 rfl ?_
    obtain ⟨v5, e_v5, hy⟩ := gBd hy
    refine g_getR K fl_c5_11 d_c5_push_59 e_v5 ?_
    refine g_aload_n K d_c5_push_62 0 rfl ?_
    obtain ⟨v6, e_v6, hy⟩ := gBd hy
    refine g_getI K fl_c5_25 d_c5_push_63 e_v6 ?_
    obtain ⟨v7, e_v7, hy⟩ := gBd hy
    refine g_aald K d_c5_push_66 e_v7 ?_
    refine g_aload_n K d_c5_push_67 1 rfl ?_
    obtain ⟨q8, e_q8, hy⟩ := gBd hy
    refine g_callVv (rest := []) K hx ly_c7_take kv_c5_29 d_c5_push_68 (ct_c7_take M.2.1 X hx N v7 a1 t3 q8 e_q8) rfl rfl (Nat.le_of_ble_eq_true rfl) (gDep rfl) ⟨Nat.le_refl 0, Nat.le_refl 0⟩ ?_
    refine g_aload_n K d_c5_push_71 0 rfl ?_
    refine g_dup K d_c5_push_72 rfl ?_
    obtain ⟨v9, e_v9, hy⟩ := gBd hy
    refine g_getI K fl_c5_25 d_c5_push_73 e_v9 ?_
    refine g_iconst (v := 1) K d_c5_push_76 (by decide) ?_
    refine g_iadd K d_c5_push_77 ?_
    obtain ⟨h10, e_h10, hy⟩ := gBd hy
    refine g_putI K fp_c5_25 d_c5_push_78 e_h10 ?_
    obtain rfl := Option.some.inj hy
    exact hret _ _ _ d_c5_push_81
  refine g_icmp_lt K d_c5_push_6 (fun c2 => ?_) (fun c2 => ?_)
  · rw [if_pos c2] at e_t3
    obtain rfl := Option.some.inj e_t3
    exact hJ4
  · rw [if_neg c2] at e_t3
    refine g_aload_n K d_c5_push_9 0 rfl ?_
    obtain ⟨v11, e_v11, e_t3⟩ := gBd e_t3
    refine g_getR K fl_c5_11 d_c5_push_10 e_v11 ?_
    refine g_iconst (v := 0) K d_c5_push_13 (by decide) ?_
    obtain ⟨v12, e_v12, e_t3⟩ := gBd e_t3
    refine g_aald K d_c5_push_14 e_v12 ?_
    refine g_astore_n (ls2 := [(2, .ref v12), (0, .ref a0), (1, .ref a1)]) K d_c5_push_15 rfl rfl ?_
    refine g_iconst (v := 1) K d_c5_push_16 (by decide) ?_
    refine g_istore_n (ls2 := [(3, .int (1 : Int32)), (2, .ref v12), (0, .ref a0), (1, .ref a1)]) K d_c5_push_17 rfl rfl ?_
    obtain ⟨o18, e_o18, e_t3⟩ := gBd e_t3
    refine g_sub (ls2 := [(0, .ref a0), (1, .ref a1), (2, .ref v12), (3, .int (1 : Int32))]) [2, 3, 1, 0] rfl ?_
    refine wlp_c5_push_18 hx K a0 a1 v12 N (1 : Int32) h o18 e_o18 ?_
    refine g_aload_n K d_c5_push_44 0 rfl ?_
    obtain ⟨v19, e_v19, e_t3⟩ := gBd e_t3
    refine g_getR K fl_c5_11 d_c5_push_45 e_v19 ?_
    refine g_bipush (v := 11) K d_c5_push_48 (by decide) ?_
    refine g_aload_n K d_c5_push_50 2 rfl ?_
    obtain ⟨h20, e_h20, e_t3⟩ := gBd e_t3
    refine g_aast K d_c5_push_51 e_h20 ?_
    refine g_aload_n K d_c5_push_52 0 rfl ?_
    refine g_bipush (v := 11) K d_c5_push_53 (by decide) ?_
    obtain ⟨h21, e_h21, e_t3⟩ := gBd e_t3
    refine g_putI K fp_c5_25 d_c5_push_55 e_h21 ?_
    refine g_sub (ls2 := [(0, .ref a0), (1, .ref a1)]) [0, 1] rfl ?_
    obtain rfl := Option.some.inj e_t3
    exact hJ4
-- c5 store
theorem d_c5_store_0 : gD b_c5_store 0 (.iload_n 1) 1 1 := ⟨by decide +kernel, rfl⟩
theorem d_c5_store_1 : gJ b_c5_store 1 (.ifCond .lt 8) 3 8 4 9 := ⟨by decide +kernel, rfl, by decide⟩
theorem d_c5_store_4 : gD b_c5_store 4 (.iload_n 1) 1 5 := ⟨by decide +kernel, rfl⟩
theorem d_c5_store_5 : gD b_c5_store 5 (.iconst 2) 1 6 := ⟨by decide +kernel, rfl⟩
theorem d_c5_store_6 : gJ b_c5_store 6 (.if_icmp .lt 5) 3 5 9 11 := ⟨by decide +kernel, rfl, by decide⟩
theorem d_c5_store_9 : gD b_c5_store 9 (.iconst 0) 1 10 := ⟨by decide +kernel, rfl⟩
theorem d_c5_store_10 : gD b_c5_store 10 .ireturn 1 11 := ⟨by decide +kernel, rfl⟩
theorem d_c5_store_11 : gD b_c5_store 11 (.aload_n 0) 1 12 := ⟨by decide +kernel, rfl⟩
theorem d_c5_store_12 : gD b_c5_store 12 (.getfield 17) 3 15 := ⟨by decide +kernel, rfl⟩
theorem d_c5_store_15 : gD b_c5_store 15 (.iload_n 1) 1 16 := ⟨by decide +kernel, rfl⟩
theorem d_c5_store_16 : gD b_c5_store 16 .aaload 1 17 := ⟨by decide +kernel, rfl⟩
theorem d_c5_store_17 : gD b_c5_store 17 (.aload_n 2) 1 18 := ⟨by decide +kernel, rfl⟩
theorem d_c5_store_18 : gD b_c5_store 18 (.invokevirtual 29) 3 21 := ⟨by decide +kernel, rfl⟩
theorem d_c5_store_21 : gD b_c5_store 21 (.aload_n 0) 1 22 := ⟨by decide +kernel, rfl⟩
theorem d_c5_store_22 : gD b_c5_store 22 (.getfield 20) 3 25 := ⟨by decide +kernel, rfl⟩
theorem d_c5_store_25 : gD b_c5_store 25 (.iload_n 1) 1 26 := ⟨by decide +kernel, rfl⟩
theorem d_c5_store_26 : gD b_c5_store 26 (.iconst 1) 1 27 := ⟨by decide +kernel, rfl⟩
theorem d_c5_store_27 : gD b_c5_store 27 .bastore 1 28 := ⟨by decide +kernel, rfl⟩
theorem d_c5_store_28 : gD b_c5_store 28 (.iconst 1) 1 29 := ⟨by decide +kernel, rfl⟩
theorem d_c5_store_29 : gD b_c5_store 29 .ireturn 1 30 := ⟨by decide +kernel, rfl⟩
def f_c5_store (N : Nat) (a0 : Nat) (x1 : Int32) (a2 : Nat) (h : gH) : Option (Int32 × gH) :=
  (gcl h a0 5).bind fun _ =>
  if x1 < 0 then
    (gZ (0 : Int32)).bind fun w2 => some (w2, h)
  else
    if x1 < (2 : Int32) then
    (gfR h a0 5 1).bind fun v4 =>
    (gaR h v4 x1).bind fun v5 =>
    (f_c7_take N v5 a2 h).bind fun q6 =>
    (gfR q6 a0 5 2).bind fun v7 =>
    (saB q6 v7 x1 (1 : Int32)).bind fun h8 =>
    (gZ (1 : Int32)).bind fun w9 => some (w9, h8)
  else
    (gZ (0 : Int32)).bind fun w10 => some (w10, h)
set_option maxHeartbeats 4000000 in
set_option maxRecDepth 100000 in
theorem ct_c5_store (l : Launch) (X : gX) (hx : gEx X = false) (N : Nat) (a0 : Nat) (x1 : Int32) (a2 : Nat) (h : gH) (q : Int32 × gH) (hy : f_c5_store N a0 x1 a2 h = some q) : gRc y_c5_store h a0 ∧ gMi l X y_c5_store b_c5_store 3 .boolean (3 + N) 0 0 [.ref a0, .int x1, .ref a2] h q.1 q.2 := by
  unfold f_c5_store at hy
  obtain ⟨u0, e_u0, hy⟩ := gBd hy
  cases u0
  refine ⟨Or.inl ⟨5, _, _, e_u0, rfl⟩, gMet_i (lsx := [(0, .ref a0), (1, .int x1), (2, .ref a2)]) (by decide) rfl rfl ?_⟩
  intro M hMl K hret
  subst hMl
  refine g_iload_n K d_c5_store_0 1 rfl ?_
  refine g_if_lt K d_c5_store_1 (fun c1 => ?_) (fun c1 => ?_)
  · rw [if_pos c1] at hy
    refine g_iconst (v := 0) K d_c5_store_9 (by decide) ?_
    obtain ⟨w2, e_w2, hy⟩ := gBd hy
    obtain ⟨z_w2, n_w2⟩ := gZ_spec e_w2
    rw [z_w2]
    obtain rfl := Option.some.inj hy
    exact hret (gZn n_w2) _ _ _ d_c5_store_10
  · rw [if_neg c1] at hy
    refine g_iload_n K d_c5_store_4 1 rfl ?_
    refine g_iconst (v := 2) K d_c5_store_5 (by decide) ?_
    refine g_icmp_lt K d_c5_store_6 (fun c3 => ?_) (fun c3 => ?_)
    · rw [if_pos c3] at hy
      refine g_aload_n K d_c5_store_11 0 rfl ?_
      obtain ⟨v4, e_v4, hy⟩ := gBd hy
      refine g_getR K fl_c5_17 d_c5_store_12 e_v4 ?_
      refine g_iload_n K d_c5_store_15 1 rfl ?_
      obtain ⟨v5, e_v5, hy⟩ := gBd hy
      refine g_aald K d_c5_store_16 e_v5 ?_
      refine g_aload_n K d_c5_store_17 2 rfl ?_
      obtain ⟨q6, e_q6, hy⟩ := gBd hy
      refine g_callVv (rest := []) K hx ly_c7_take kv_c5_29 d_c5_store_18 (ct_c7_take M.2.1 X hx N v5 a2 h q6 e_q6) rfl rfl (Nat.le_of_ble_eq_true rfl) (gDep rfl) ⟨Nat.le_refl 0, Nat.le_refl 0⟩ ?_
      refine g_aload_n K d_c5_store_21 0 rfl ?_
      obtain ⟨v7, e_v7, hy⟩ := gBd hy
      refine g_getR K fl_c5_20 d_c5_store_22 e_v7 ?_
      refine g_iload_n K d_c5_store_25 1 rfl ?_
      refine g_iconst (v := 1) K d_c5_store_26 (by decide) ?_
      obtain ⟨h8, e_h8, hy⟩ := gBd hy
      refine g_bast K d_c5_store_27 e_h8 ?_
      refine g_iconst (v := 1) K d_c5_store_28 (by decide) ?_
      obtain ⟨w9, e_w9, hy⟩ := gBd hy
      obtain ⟨z_w9, n_w9⟩ := gZ_spec e_w9
      rw [z_w9]
      obtain rfl := Option.some.inj hy
      exact hret (gZn n_w9) _ _ _ d_c5_store_29
    · rw [if_neg c3] at hy
      refine g_iconst (v := 0) K d_c5_store_9 (by decide) ?_
      obtain ⟨w10, e_w10, hy⟩ := gBd hy
      obtain ⟨z_w10, n_w10⟩ := gZ_spec e_w10
      rw [z_w10]
      obtain rfl := Option.some.inj hy
      exact hret (gZn n_w10) _ _ _ d_c5_store_10
-- c6 close
theorem d_c6_close_0 : gD b_c6_close 0 (.aload_n 0) 1 1 := ⟨by decide +kernel, rfl⟩
theorem d_c6_close_1 : gD b_c6_close 1 (.getfield 28) 3 4 := ⟨by decide +kernel, rfl⟩
theorem d_c6_close_4 : gD b_c6_close 4 (.iconst 1) 1 5 := ⟨by decide +kernel, rfl⟩
theorem d_c6_close_5 : gJ b_c6_close 5 (.if_icmp .ge 5) 3 5 8 10 := ⟨by decide +kernel, rfl, by decide⟩
theorem d_c6_close_8 : gD b_c6_close 8 (.iconst 0) 1 9 := ⟨by decide +kernel, rfl⟩
theorem d_c6_close_9 : gD b_c6_close 9 .ireturn 1 10 := ⟨by decide +kernel, rfl⟩
theorem d_c6_close_10 : gD b_c6_close 10 (.aload_n 0) 1 11 := ⟨by decide +kernel, rfl⟩
theorem d_c6_close_11 : gD b_c6_close 11 (.iconst 1) 1 12 := ⟨by decide +kernel, rfl⟩
theorem d_c6_close_12 : gD b_c6_close 12 (.invokevirtual 54) 3 15 := ⟨by decide +kernel, rfl⟩
theorem d_c6_close_15 : gD b_c6_close 15 (.aload_n 0) 1 16 := ⟨by decide +kernel, rfl⟩
theorem d_c6_close_16 : gD b_c6_close 16 (.iconst 0) 1 17 := ⟨by decide +kernel, rfl⟩
theorem d_c6_close_17 : gD b_c6_close 17 (.aload_n 0) 1 18 := ⟨by decide +kernel, rfl⟩
theorem d_c6_close_18 : gD b_c6_close 18 (.getfield 25) 3 21 := ⟨by decide +kernel, rfl⟩
theorem d_c6_close_21 : gD b_c6_close 21 (.iconst 1) 1 22 := ⟨by decide +kernel, rfl⟩
theorem d_c6_close_22 : gD b_c6_close 22 .isub 1 23 := ⟨by decide +kernel, rfl⟩
theorem d_c6_close_23 : gD b_c6_close 23 (.invokestatic 81) 3 26 := ⟨by decide +kernel, rfl⟩
theorem d_c6_close_26 : gD b_c6_close 26 (.putfield 25) 3 29 := ⟨by decide +kernel, rfl⟩
theorem d_c6_close_29 : gD b_c6_close 29 (.aload_n 0) 1 30 := ⟨by decide +kernel, rfl⟩
theorem d_c6_close_30 : gD b_c6_close 30 .dup 1 31 := ⟨by decide +kernel, rfl⟩
theorem d_c6_close_31 : gD b_c6_close 31 (.getfield 28) 3 34 := ⟨by decide +kernel, rfl⟩
theorem d_c6_close_34 : gD b_c6_close 34 (.iconst 1) 1 35 := ⟨by decide +kernel, rfl⟩
theorem d_c6_close_35 : gD b_c6_close 35 .isub 1 36 := ⟨by decide +kernel, rfl⟩
theorem d_c6_close_36 : gD b_c6_close 36 (.putfield 28) 3 39 := ⟨by decide +kernel, rfl⟩
theorem d_c6_close_39 : gD b_c6_close 39 (.iconst 1) 1 40 := ⟨by decide +kernel, rfl⟩
theorem d_c6_close_40 : gD b_c6_close 40 .ireturn 1 41 := ⟨by decide +kernel, rfl⟩
def f_c6_close (N : Nat) (a0 : Nat) (h : gH) : Option (Int32 × gH) :=
  (gcl h a0 6).bind fun _ =>
  (gfI h a0 6 5).bind fun v1 =>
    if (1 : Int32) ≤ v1 then
    (f_c6_release N a0 (1 : Int32) h).bind fun q3 =>
    (gfI q3 a0 6 4).bind fun v4 =>
    (sf q3 a0 6 4 (.int (gmax (0 : Int32) (v4 - (1 : Int32))))).bind fun h5 =>
    (gfI h5 a0 6 5).bind fun v6 =>
    (sf h5 a0 6 5 (.int (v6 - (1 : Int32)))).bind fun h7 =>
    (gZ (1 : Int32)).bind fun w8 => some (w8, h7)
  else
    (gZ (0 : Int32)).bind fun w9 => some (w9, h)
set_option maxHeartbeats 4000000 in
set_option maxRecDepth 100000 in
theorem ct_c6_close (l : Launch) (X : gX) (hx : gEx X = false) (N : Nat) (a0 : Nat) (h : gH) (q : Int32 × gH) (hy : f_c6_close N a0 h = some q) : gRc y_c6_close h a0 ∧ gMi l X y_c6_close b_c6_close 1 .boolean (3 + N) 0 0 [.ref a0] h q.1 q.2 := by
  unfold f_c6_close at hy
  obtain ⟨u0, e_u0, hy⟩ := gBd hy
  cases u0
  refine ⟨Or.inl ⟨6, _, _, e_u0, rfl⟩, gMet_i (lsx := [(0, .ref a0)]) (by decide) rfl rfl ?_⟩
  intro M hMl K hret
  subst hMl
  refine g_aload_n K d_c6_close_0 0 rfl ?_
  obtain ⟨v1, e_v1, hy⟩ := gBd hy
  refine g_getI K fl_c6_28 d_c6_close_1 e_v1 ?_
  refine g_iconst (v := 1) K d_c6_close_4 (by decide) ?_
  refine g_icmp_ge K d_c6_close_5 (fun c2 => ?_) (fun c2 => ?_)
  · rw [if_pos c2] at hy
    refine g_aload_n K d_c6_close_10 0 rfl ?_
    refine g_iconst (v := 1) K d_c6_close_11 (by decide) ?_
    obtain ⟨q3, e_q3, hy⟩ := gBd hy
    refine g_callVv (rest := []) K hx ly_c6_release kv_c6_54 d_c6_close_12 (ct_c6_release M.2.1 X hx N a0 (1 : Int32) h q3 e_q3) rfl rfl (Nat.le_of_ble_eq_true rfl) (gDep rfl) ⟨Nat.le_refl 0, Nat.le_refl 0⟩ ?_
    refine g_aload_n K d_c6_close_15 0 rfl ?_
    refine g_iconst (v := 0) K d_c6_close_16 (by decide) ?_
    refine g_aload_n K d_c6_close_17 0 rfl ?_
    obtain ⟨v4, e_v4, hy⟩ := gBd hy
    refine g_getI K fl_c6_25 d_c6_close_18 e_v4 ?_
    refine g_iconst (v := 1) K d_c6_close_21 (by decide) ?_
    refine g_isub K d_c6_close_22 ?_
    refine g_mmax K d_c6_close_23 (gTk_2 81 rfl rfl) (gTk_2 82 rfl rfl) (gTk_1 12 rfl rfl) (gTk_2 83 rfl rfl) (gDep1 rfl) (Nat.le_of_ble_eq_true rfl) ⟨Nat.le_refl 0, Nat.le_refl 0⟩ ?_
    obtain ⟨h5, e_h5, hy⟩ := gBd hy
    refine g_putI K fp_c6_25 d_c6_close_26 e_h5 ?_
    refine g_aload_n K d_c6_close_29 0 rfl ?_
    refine g_dup K d_c6_close_30 rfl ?_
    obtain ⟨v6, e_v6, hy⟩ := gBd hy
    refine g_getI K fl_c6_28 d_c6_close_31 e_v6 ?_
    refine g_iconst (v := 1) K d_c6_close_34 (by decide) ?_
    refine g_isub K d_c6_close_35 ?_
    obtain ⟨h7, e_h7, hy⟩ := gBd hy
    refine g_putI K fp_c6_28 d_c6_close_36 e_h7 ?_
    refine g_iconst (v := 1) K d_c6_close_39 (by decide) ?_
    obtain ⟨w8, e_w8, hy⟩ := gBd hy
    obtain ⟨z_w8, n_w8⟩ := gZ_spec e_w8
    rw [z_w8]
    obtain rfl := Option.some.inj hy
    exact hret (gZn n_w8) _ _ _ d_c6_close_40
  · rw [if_neg c2] at hy
    refine g_iconst (v := 0) K d_c6_close_8 (by decide) ?_
    obtain ⟨w9, e_w9, hy⟩ := gBd hy
    obtain ⟨z_w9, n_w9⟩ := gZ_spec e_w9
    rw [z_w9]
    obtain rfl := Option.some.inj hy
    exact hret (gZn n_w9) _ _ _ d_c6_close_9
-- c6 flow
theorem d_c6_flow_0 : gD b_c6_flow 0 (.iconst 0) 1 1 := ⟨by decide +kernel, rfl⟩
theorem d_c6_flow_1 : gD b_c6_flow 1 (.istore 4) 2 3 := ⟨by decide +kernel, rfl⟩
theorem d_c6_flow_3 : gD b_c6_flow 3 (.iconst 0) 1 4 := ⟨by decide +kernel, rfl⟩
theorem d_c6_flow_4 : gD b_c6_flow 4 (.istore 5) 2 6 := ⟨by decide +kernel, rfl⟩
theorem d_c6_flow_6 : gD b_c6_flow 6 (.iload 5) 2 8 := ⟨by decide +kernel, rfl⟩
theorem d_c6_flow_8 : gD b_c6_flow 8 (.aload_n 0) 1 9 := ⟨by decide +kernel, rfl⟩
theorem d_c6_flow_9 : gD b_c6_flow 9 (.getfield 21) 3 12 := ⟨by decide +kernel, rfl⟩
theorem d_c6_flow_12 : gJ b_c6_flow 12 (.if_icmp .ge 156) 3 156 15 168 := ⟨by decide +kernel, rfl, by decide⟩
theorem d_c6_flow_15 : gD b_c6_flow 15 (.aload_n 0) 1 16 := ⟨by decide +kernel, rfl⟩
theorem d_c6_flow_16 : gD b_c6_flow 16 (.getfield 9) 3 19 := ⟨by decide +kernel, rfl⟩
theorem d_c6_flow_19 : gD b_c6_flow 19 (.iload 5) 2 21 := ⟨by decide +kernel, rfl⟩
theorem d_c6_flow_21 : gD b_c6_flow 21 .iaload 1 22 := ⟨by decide +kernel, rfl⟩
theorem d_c6_flow_22 : gD b_c6_flow 22 (.istore 6) 2 24 := ⟨by decide +kernel, rfl⟩
theorem d_c6_flow_24 : gD b_c6_flow 24 (.iload 6) 2 26 := ⟨by decide +kernel, rfl⟩
theorem d_c6_flow_26 : gJ b_c6_flow 26 (.ifCond .ge 12) 3 12 29 38 := ⟨by decide +kernel, rfl, by decide⟩
theorem d_c6_flow_29 : gD b_c6_flow 29 (.iload 6) 2 31 := ⟨by decide +kernel, rfl⟩
theorem d_c6_flow_31 : gD b_c6_flow 31 .ineg 1 32 := ⟨by decide +kernel, rfl⟩
theorem d_c6_flow_32 : gD b_c6_flow 32 (.invokestatic 77) 3 35 := ⟨by decide +kernel, rfl⟩
theorem d_c6_flow_35 : gJ b_c6_flow 35 (.goto 4) 3 4 38 39 := ⟨by decide +kernel, rfl, by decide⟩
theorem d_c6_flow_38 : gD b_c6_flow 38 (.iconst 0) 1 39 := ⟨by decide +kernel, rfl⟩
theorem d_c6_flow_39 : gD b_c6_flow 39 (.istore 7) 2 41 := ⟨by decide +kernel, rfl⟩
theorem d_c6_flow_41 : gD b_c6_flow 41 (.iload 7) 2 43 := ⟨by decide +kernel, rfl⟩
theorem d_c6_flow_43 : gD b_c6_flow 43 (.iconst 4) 1 44 := ⟨by decide +kernel, rfl⟩
theorem d_c6_flow_44 : gJ b_c6_flow 44 (.if_icmp .ne 31) 3 31 47 75 := ⟨by decide +kernel, rfl, by decide⟩
theorem d_c6_flow_47 : gD b_c6_flow 47 (.iload 4) 2 49 := ⟨by decide +kernel, rfl⟩
theorem d_c6_flow_49 : gD b_c6_flow 49 (.iconst 1) 1 50 := ⟨by decide +kernel, rfl⟩
theorem d_c6_flow_50 : gJ b_c6_flow 50 (.if_icmp .lt 25) 3 25 53 75 := ⟨by decide +kernel, rfl, by decide⟩
theorem d_c6_flow_53 : gD b_c6_flow 53 (.aload_n 0) 1 54 := ⟨by decide +kernel, rfl⟩
theorem d_c6_flow_54 : gD b_c6_flow 54 (.getfield 18) 3 57 := ⟨by decide +kernel, rfl⟩
theorem d_c6_flow_57 : gD b_c6_flow 57 (.iload 4) 2 59 := ⟨by decide +kernel, rfl⟩
theorem d_c6_flow_59 : gD b_c6_flow 59 (.iconst 1) 1 60 := ⟨by decide +kernel, rfl⟩
theorem d_c6_flow_60 : gD b_c6_flow 60 .isub 1 61 := ⟨by decide +kernel, rfl⟩
theorem d_c6_flow_61 : gD b_c6_flow 61 (.aload_n 0) 1 62 := ⟨by decide +kernel, rfl⟩
theorem d_c6_flow_62 : gD b_c6_flow 62 (.getfield 18) 3 65 := ⟨by decide +kernel, rfl⟩
theorem d_c6_flow_65 : gD b_c6_flow 65 (.iload 4) 2 67 := ⟨by decide +kernel, rfl⟩
theorem d_c6_flow_67 : gD b_c6_flow 67 (.iconst 1) 1 68 := ⟨by decide +kernel, rfl⟩
theorem d_c6_flow_68 : gD b_c6_flow 68 .isub 1 69 := ⟨by decide +kernel, rfl⟩
theorem d_c6_flow_69 : gD b_c6_flow 69 .iaload 1 70 := ⟨by decide +kernel, rfl⟩
theorem d_c6_flow_70 : gD b_c6_flow 70 .ineg 1 71 := ⟨by decide +kernel, rfl⟩
theorem d_c6_flow_71 : gD b_c6_flow 71 .iastore 1 72 := ⟨by decide +kernel, rfl⟩
theorem d_c6_flow_72 : gJ b_c6_flow 72 (.goto 90) 3 90 75 162 := ⟨by decide +kernel, rfl, by decide⟩
theorem d_c6_flow_75 : gD b_c6_flow 75 (.iload 7) 2 77 := ⟨by decide +kernel, rfl⟩
theorem d_c6_flow_77 : gJ b_c6_flow 77 (.ifCond .le 46) 3 46 80 123 := ⟨by decide +kernel, rfl, by decide⟩
theorem d_c6_flow_80 : gD b_c6_flow 80 (.iload 4) 2 82 := ⟨by decide +kernel, rfl⟩
theorem d_c6_flow_82 : gD b_c6_flow 82 (.iconst 2) 1 83 := ⟨by decide +kernel, rfl⟩
theorem d_c6_flow_83 : gJ b_c6_flow 83 (.if_icmp .lt 40) 3 40 86 123 := ⟨by decide +kernel, rfl, by decide⟩
theorem d_c6_flow_86 : gD b_c6_flow 86 (.iinc 4 (-1)) 3 89 := ⟨by decide +kernel, rfl⟩
theorem d_c6_flow_89 : gD b_c6_flow 89 (.aload_n 0) 1 90 := ⟨by decide +kernel, rfl⟩
theorem d_c6_flow_90 : gD b_c6_flow 90 (.getfield 18) 3 93 := ⟨by decide +kernel, rfl⟩
theorem d_c6_flow_93 : gD b_c6_flow 93 (.iload 4) 2 95 := ⟨by decide +kernel, rfl⟩
theorem d_c6_flow_95 : gD b_c6_flow 95 (.iconst 1) 1 96 := ⟨by decide +kernel, rfl⟩
theorem d_c6_flow_96 : gD b_c6_flow 96 .isub 1 97 := ⟨by decide +kernel, rfl⟩
theorem d_c6_flow_97 : gD b_c6_flow 97 (.iload 6) 2 99 := ⟨by decide +kernel, rfl⟩
theorem d_c6_flow_99 : gD b_c6_flow 99 .ineg 1 100 := ⟨by decide +kernel, rfl⟩
theorem d_c6_flow_100 : gD b_c6_flow 100 (.aload_n 0) 1 101 := ⟨by decide +kernel, rfl⟩
theorem d_c6_flow_101 : gD b_c6_flow 101 (.getfield 18) 3 104 := ⟨by decide +kernel, rfl⟩
theorem d_c6_flow_104 : gD b_c6_flow 104 (.iload 4) 2 106 := ⟨by decide +kernel, rfl⟩
theorem d_c6_flow_106 : gD b_c6_flow 106 (.iconst 1) 1 107 := ⟨by decide +kernel, rfl⟩
theorem d_c6_flow_107 : gD b_c6_flow 107 .isub 1 108 := ⟨by decide +kernel, rfl⟩
theorem d_c6_flow_108 : gD b_c6_flow 108 .iaload 1 109 := ⟨by decide +kernel, rfl⟩
theorem d_c6_flow_109 : gD b_c6_flow 109 (.aload_n 0) 1 110 := ⟨by decide +kernel, rfl⟩
theorem d_c6_flow_110 : gD b_c6_flow 110 (.getfield 18) 3 113 := ⟨by decide +kernel, rfl⟩
theorem d_c6_flow_113 : gD b_c6_flow 113 (.iload 4) 2 115 := ⟨by decide +kernel, rfl⟩
theorem d_c6_flow_115 : gD b_c6_flow 115 .iaload 1 116 := ⟨by decide +kernel, rfl⟩
theorem d_c6_flow_116 : gD b_c6_flow 116 (.invokestatic 84) 3 119 := ⟨by decide +kernel, rfl⟩
theorem d_c6_flow_119 : gD b_c6_flow 119 .iastore 1 120 := ⟨by decide +kernel, rfl⟩
theorem d_c6_flow_120 : gJ b_c6_flow 120 (.goto 42) 3 42 123 162 := ⟨by decide +kernel, rfl, by decide⟩
theorem d_c6_flow_123 : gD b_c6_flow 123 (.iload 4) 2 125 := ⟨by decide +kernel, rfl⟩
theorem d_c6_flow_125 : gD b_c6_flow 125 (.aload_n 0) 1 126 := ⟨by decide +kernel, rfl⟩
theorem d_c6_flow_126 : gD b_c6_flow 126 (.getfield 18) 3 129 := ⟨by decide +kernel, rfl⟩
theorem d_c6_flow_129 : gD b_c6_flow 129 .arraylength 1 130 := ⟨by decide +kernel, rfl⟩
theorem d_c6_flow_130 : gJ b_c6_flow 130 (.if_icmp .ge 32) 3 32 133 162 := ⟨by decide +kernel, rfl, by decide⟩
theorem d_c6_flow_133 : gD b_c6_flow 133 (.aload_n 0) 1 134 := ⟨by decide +kernel, rfl⟩
theorem d_c6_flow_134 : gD b_c6_flow 134 (.getfield 18) 3 137 := ⟨by decide +kernel, rfl⟩
theorem d_c6_flow_137 : gD b_c6_flow 137 (.iload 4) 2 139 := ⟨by decide +kernel, rfl⟩
theorem d_c6_flow_139 : gD b_c6_flow 139 (.iload 6) 2 141 := ⟨by decide +kernel, rfl⟩
theorem d_c6_flow_141 : gJ b_c6_flow 141 (.ifCond .ge 15) 3 15 144 156 := ⟨by decide +kernel, rfl, by decide⟩
theorem d_c6_flow_144 : gD b_c6_flow 144 (.iload 6) 2 146 := ⟨by decide +kernel, rfl⟩
theorem d_c6_flow_146 : gD b_c6_flow 146 .ineg 1 147 := ⟨by decide +kernel, rfl⟩
theorem d_c6_flow_147 : gD b_c6_flow 147 (.aload_n 1) 1 148 := ⟨by decide +kernel, rfl⟩
theorem d_c6_flow_148 : gD b_c6_flow 148 (.iload_n 2) 1 149 := ⟨by decide +kernel, rfl⟩
theorem d_c6_flow_149 : gD b_c6_flow 149 (.aload_n 3) 1 150 := ⟨by decide +kernel, rfl⟩
theorem d_c6_flow_150 : gD b_c6_flow 150 (.invokestatic 88) 3 153 := ⟨by decide +kernel, rfl⟩
theorem d_c6_flow_153 : gJ b_c6_flow 153 (.goto 5) 3 5 156 158 := ⟨by decide +kernel, rfl, by decide⟩
theorem d_c6_flow_156 : gD b_c6_flow 156 (.iload 6) 2 158 := ⟨by decide +kernel, rfl⟩
theorem d_c6_flow_158 : gD b_c6_flow 158 .iastore 1 159 := ⟨by decide +kernel, rfl⟩
theorem d_c6_flow_159 : gD b_c6_flow 159 (.iinc 4 1) 3 162 := ⟨by decide +kernel, rfl⟩
theorem d_c6_flow_162 : gD b_c6_flow 162 (.iinc 5 1) 3 165 := ⟨by decide +kernel, rfl⟩
theorem d_c6_flow_165 : gJ b_c6_flow 165 (.goto (-159)) 3 (-159) 168 6 := ⟨by decide +kernel, rfl, by decide⟩
theorem d_c6_flow_168 : gD b_c6_flow 168 (.aload_n 0) 1 169 := ⟨by decide +kernel, rfl⟩
theorem d_c6_flow_169 : gD b_c6_flow 169 (.getfield 18) 3 172 := ⟨by decide +kernel, rfl⟩
theorem d_c6_flow_172 : gD b_c6_flow 172 (.iconst 0) 1 173 := ⟨by decide +kernel, rfl⟩
theorem d_c6_flow_173 : gD b_c6_flow 173 .iaload 1 174 := ⟨by decide +kernel, rfl⟩
theorem d_c6_flow_174 : gD b_c6_flow 174 (.bipush 9) 2 176 := ⟨by decide +kernel, rfl⟩
theorem d_c6_flow_176 : gD b_c6_flow 176 (.invokestatic 92) 3 179 := ⟨by decide +kernel, rfl⟩
theorem d_c6_flow_179 : gD b_c6_flow 179 .ireturn 1 180 := ⟨by decide +kernel, rfl⟩
def lp_c6_flow_6 (N : Nat) (a0 : Nat) (a1 : Nat) (x2 : Int32) (a3 : Nat) : Nat → Int32 → Int32 → gH → Option (gH)
  | 0, _, _, _ => none
  | k + 1, x4, x5, h =>
  (gfI h a0 6 3).bind fun v1 =>
    if v1 ≤ x5 then
    some h
  else
    (gfR h a0 6 0).bind fun v3 =>
    (ga 0 h v3 x5).bind fun v4 =>
    (show Option (Int32) from if 0 ≤ v4 then
    some (0 : Int32)
  else
    (f_c6_rank N (-v4) h).bind fun q70 =>
    some q70).bind fun t6 =>
    (show Option (Int32 × gH) from if t6 = (4 : Int32) then
    if x4 < (1 : Int32) then
    if t6 ≤ 0 then
    (gfR h a0 6 2).bind fun v40 =>
    (gn h v40).bind fun v41 =>
    if v41 ≤ x4 then
    some (x4, h)
  else
    (gfR h a0 6 2).bind fun v43 =>
    (show Option (Int32) from if 0 ≤ v4 then
    some v4
  else
    (f_c6_thing N (-v4) a1 x2 a3 h).bind fun q48 =>
    some q48).bind fun t45 =>
    (sa 0 h v43 x4 t45).bind fun h47 =>
    some (x4 + (1 : Int32), h47)
  else
    if x4 < (2 : Int32) then
    (gfR h a0 6 2).bind fun v50 =>
    (gn h v50).bind fun v51 =>
    if v51 ≤ x4 then
    some (x4, h)
  else
    (gfR h a0 6 2).bind fun v53 =>
    (show Option (Int32) from if 0 ≤ v4 then
    some v4
  else
    (f_c6_thing N (-v4) a1 x2 a3 h).bind fun q58 =>
    some q58).bind fun t55 =>
    (sa 0 h v53 x4 t55).bind fun h57 =>
    some (x4 + (1 : Int32), h57)
  else
    (gfR h a0 6 2).bind fun v59 =>
    (gfR h a0 6 2).bind fun v60 =>
    (ga 0 h v60 ((x4 + (-1 : Int32)) - (1 : Int32))).bind fun v61 =>
    (gfR h a0 6 2).bind fun v62 =>
    (ga 0 h v62 (x4 + (-1 : Int32))).bind fun v63 =>
    (f_c6_apply N (-v4) v61 v63 h).bind fun q64 =>
    (sa 0 h v59 ((x4 + (-1 : Int32)) - (1 : Int32)) q64).bind fun h65 =>
    some (x4 + (-1 : Int32), h65)
  else
    (gfR h a0 6 2).bind fun v66 =>
    (gfR h a0 6 2).bind fun v67 =>
    (ga 0 h v67 (x4 - (1 : Int32))).bind fun v68 =>
    (sa 0 h v66 (x4 - (1 : Int32)) (-v68)).bind fun h69 =>
    some (x4, h69)
  else
    if t6 ≤ 0 then
    (gfR h a0 6 2).bind fun v12 =>
    (gn h v12).bind fun v13 =>
    if v13 ≤ x4 then
    some (x4, h)
  else
    (gfR h a0 6 2).bind fun v15 =>
    (show Option (Int32) from if 0 ≤ v4 then
    some v4
  else
    (f_c6_thing N (-v4) a1 x2 a3 h).bind fun q20 =>
    some q20).bind fun t17 =>
    (sa 0 h v15 x4 t17).bind fun h19 =>
    some (x4 + (1 : Int32), h19)
  else
    if x4 < (2 : Int32) then
    (gfR h a0 6 2).bind fun v22 =>
    (gn h v22).bind fun v23 =>
    if v23 ≤ x4 then
    some (x4, h)
  else
    (gfR h a0 6 2).bind fun v25 =>
    (show Option (Int32) from if 0 ≤ v4 then
    some v4
  else
    (f_c6_thing N (-v4) a1 x2 a3 h).bind fun q30 =>
    some q30).bind fun t27 =>
    (sa 0 h v25 x4 t27).bind fun h29 =>
    some (x4 + (1 : Int32), h29)
  else
    (gfR h a0 6 2).bind fun v31 =>
    (gfR h a0 6 2).bind fun v32 =>
    (ga 0 h v32 ((x4 + (-1 : Int32)) - (1 : Int32))).bind fun v33 =>
    (gfR h a0 6 2).bind fun v34 =>
    (ga 0 h v34 (x4 + (-1 : Int32))).bind fun v35 =>
    (f_c6_apply N (-v4) v33 v35 h).bind fun q36 =>
    (sa 0 h v31 ((x4 + (-1 : Int32)) - (1 : Int32)) q36).bind fun h37 =>
    some (x4 + (-1 : Int32), h37)).bind fun t9 =>
    lp_c6_flow_6 N a0 a1 x2 a3 k t9.1 (x5 + (1 : Int32)) t9.2
def f_c6_flow (N : Nat) (a0 : Nat) (a1 : Nat) (x2 : Int32) (a3 : Nat) (h : gH) : Option (Int32 × gH) :=
  (gcl h a0 6).bind fun _ =>
  (lp_c6_flow_6 N a0 a1 x2 a3 N (0 : Int32) (0 : Int32) h).bind fun o71 =>
    (gfR o71 a0 6 2).bind fun v72 =>
    (ga 0 o71 v72 (0 : Int32)).bind fun v73 =>
    (f_c10_put N v73 (9 : Int32) o71).bind fun q74 =>
    some (q74, o71)
set_option maxHeartbeats 4000000 in
set_option maxRecDepth 100000 in
theorem wlp_c6_flow_6 {M : gM} {X : gX} {N : Nat} (hx : gEx X = false) (K : gC M X gN6 b_c6_flow 8 (gRm (3 + N) 0 0)) (a0 : Nat) (a1 : Nat) (x2 : Int32) (a3 : Nat) : ∀ (k : Nat) (x4 : Int32) (x5 : Int32) (h : gH) (o : gH), lp_c6_flow_6 N a0 a1 x2 a3 k x4 x5 h = some o → gG M X 8 0 0 168 [(0, .ref a0)] [] o → gG M X 8 0 0 6 [(0, .ref a0), (1, .ref a1), (2, .int x2), (3, .ref a3), (4, .int x4), (5, .int x5)] [] h := by
  intro k
  induction k with
  | zero =>
    intro x4 x5 h o hy
    rw [lp_c6_flow_6.eq_1] at hy
    cases hy
  | succ k ih =>
    intro x4 x5 h o hy hE
    rw [lp_c6_flow_6.eq_2] at hy
    refine g_iload K d_c6_flow_6 5 rfl ?_
    refine g_aload_n K d_c6_flow_8 0 rfl ?_
    obtain ⟨v1, e_v1, hy⟩ := gBd hy
    refine g_getI K fl_c6_21 d_c6_flow_9 e_v1 ?_
    refine g_icmp_ge K d_c6_flow_12 (fun c2 => ?_) (fun c2 => ?_)
    · rw [if_pos c2] at hy
      refine g_sub (ls2 := [(0, .ref a0)]) [0] rfl ?_
      obtain rfl := Option.some.inj hy
      exact hE
    · rw [if_neg c2] at hy
      refine g_aload_n K d_c6_flow_15 0 rfl ?_
      obtain ⟨v3, e_v3, hy⟩ := gBd hy
      refine g_getR K fl_c6_9 d_c6_flow_16 e_v3 ?_
      refine g_iload K d_c6_flow_19 5 rfl ?_
      obtain ⟨v4, e_v4, hy⟩ := gBd hy
      refine g_iald K d_c6_flow_21 e_v4 ?_
      refine g_istore (ls2 := [(6, .int v4), (0, .ref a0), (1, .ref a1), (2, .int x2), (3, .ref a3), (4, .int x4), (5, .int x5)]) K d_c6_flow_22 rfl rfl ?_
      refine g_iload K d_c6_flow_24 0 rfl ?_
      obtain ⟨t6, e_t6, hy⟩ := gBd hy
      have hJ7 : gG M X 8 0 0 39 [(0, .ref a0), (1, .ref a1), (2, .int x2), (3, .ref a3), (4, .int x4), (5, .int x5), (6, .int v4)] [.int t6] h := by
        refine g_istore (ls2 := [(7, .int t6), (0, .ref a0), (1, .ref a1), (2, .int x2), (3, .ref a3), (4, .int x4), (5, .int x5), (6, .int v4)]) K d_c6_flow_39 rfl rfl ?_
        refine g_iload K d_c6_flow_41 0 rfl ?_
        refine g_iconst (v := 4) K d_c6_flow_43 (by decide) ?_
        obtain ⟨t9, e_t9, hy⟩ := gBd hy
        have hJ10 : gG M X 8 0 0 162 [(0, .ref a0), (1, .ref a1), (2, .int x2), (3, .ref a3), (4, .int t9.1), (5, .int x5)] [] t9.2 := by
          refine g_iinc (ls2 := [(5, .int (x5 + (1 : Int32))), (0, .ref a0), (1, .ref a1), (2, .int x2), (3, .ref a3), (4, .int t9.1)]) (v := 1) K d_c6_flow_162 5 rfl (by decide) rfl rfl ?_
          refine g_goto K d_c6_flow_165 ?_
          refine g_sub (ls2 := [(0, .ref a0), (1, .ref a1), (2, .int x2), (3, .ref a3), (4, .int t9.1), (5, .int (x5 + (1 : Int32)))]) [1, 2, 3, 4, 5, 0] rfl ?_
          exact ih _ _ _ _ hy hE
        refine g_icmp_ne K d_c6_flow_44 (fun c8 => ?_) (fun c8 => ?_)
        · rw [if_neg c8] at e_t9
          refine g_iload K d_c6_flow_75 0 rfl ?_
          refine g_if_le K d_c6_flow_77 (fun c11 => ?_) (fun c11 => ?_)
          · rw [if_pos c11] at e_t9
            refine g_iload K d_c6_flow_123 5 rfl ?_
            refine g_aload_n K d_c6_flow_125 1 rfl ?_
            obtain ⟨v12, e_v12, e_t9⟩ := gBd e_t9
            refine g_getR K fl_c6_18 d_c6_flow_126 e_v12 ?_
            obtain ⟨v13, e_v13, e_t9⟩ := gBd e_t9
            refine g_alen K d_c6_flow_129 e_v13 ?_
            refine g_icmp_ge K d_c6_flow_130 (fun c14 => ?_) (fun c14 => ?_)
            · rw [if_pos c14] at e_t9
              refine g_sub (ls2 := [(0, .ref a0), (1, .ref a1), (2, .int x2), (3, .ref a3), (4, .int x4), (5, .int x5)]) [1, 2, 3, 4, 5, 6] rfl ?_
              obtain rfl := Option.some.inj e_t9
              exact hJ10
            · rw [if_neg c14] at e_t9
              refine g_aload_n K d_c6_flow_133 1 rfl ?_
              obtain ⟨v15, e_v15, e_t9⟩ := gBd e_t9
              refine g_getR K fl_c6_18 d_c6_flow_134 e_v15 ?_
              refine g_iload K d_c6_flow_137 5 rfl ?_
              refine g_iload K d_c6_flow_139 7 rfl ?_
              obtain ⟨t17, e_t17, e_t9⟩ := gBd e_t9
              have hJ18 : gG M X 8 0 0 158 [(0, .ref a0), (1, .ref a1), (2, .int x2), (3, .ref a3), (4, .int x4), (5, .int x5)] [.int t17, .int x4, .ref v15] h := by
                obtain ⟨h19, e_h19, e_t9⟩ := gBd e_t9
                refine g_iast K d_c6_flow_158 e_h19 ?_
                refine g_iinc (ls2 := [(4, .int (x4 + (1 : Int32))), (0, .ref a0), (1, .ref a1), (2, .int x2), (3, .ref a3), (5, .int x5)]) (v := 1) K d_c6_flow_159 4 rfl (by decide) rfl rfl ?_
                refine g_sub (ls2 := [(0, .ref a0), (1, .ref a1), (2, .int x2), (3, .ref a3), (4, .int (x4 + (1 : Int32))), (5, .int x5)]) [1, 2, 3, 4, 0, 5] rfl ?_
                obtain rfl := Option.some.inj e_t9
                exact hJ10
              refine g_if_ge K d_c6_flow_141 (fun c16 => ?_) (fun c16 => ?_)
              · rw [if_pos c16] at e_t17
                refine g_iload K d_c6_flow_156 7 rfl ?_
                refine g_sub (ls2 := [(0, .ref a0), (1, .ref a1), (2, .int x2), (3, .ref a3), (4, .int x4), (5, .int x5)]) [1, 2, 3, 4, 5, 6] rfl ?_
                obtain rfl := Option.some.inj e_t17
                exact hJ18
              · rw [if_neg c16] at e_t17
                refine g_iload K d_c6_flow_144 7 rfl ?_
                refine g_ineg K d_c6_flow_146 ?_
                refine g_aload_n K d_c6_flow_147 2 rfl ?_
                refine g_iload_n K d_c6_flow_148 3 rfl ?_
                refine g_aload_n K d_c6_flow_149 4 rfl ?_
                obtain ⟨q20, e_q20, e_t17⟩ := gBd e_t17
                refine g_callSi (rest := [.int x4, .ref v15]) K hx ly_c6_thing ks_c6_88 d_c6_flow_150 (ct_c6_thing M.2.1 X hx N (-v4) a1 x2 a3 h q20 e_q20) rfl rfl (Nat.le_of_ble_eq_true rfl) (gDep rfl) ⟨Nat.le_refl 0, Nat.le_refl 0⟩ ?_
                refine g_goto K d_c6_flow_153 ?_
                refine g_sub (ls2 := [(0, .ref a0), (1, .ref a1), (2, .int x2), (3, .ref a3), (4, .int x4), (5, .int x5)]) [1, 2, 3, 4, 5, 6] rfl ?_
                obtain rfl := Option.some.inj e_t17
                exact hJ18
          · rw [if_neg c11] at e_t9
            refine g_iload K d_c6_flow_80 5 rfl ?_
            refine g_iconst (v := 2) K d_c6_flow_82 (by decide) ?_
            refine g_icmp_lt K d_c6_flow_83 (fun c21 => ?_) (fun c21 => ?_)
            · rw [if_pos c21] at e_t9
              refine g_iload K d_c6_flow_123 5 rfl ?_
              refine g_aload_n K d_c6_flow_125 1 rfl ?_
              obtain ⟨v22, e_v22, e_t9⟩ := gBd e_t9
              refine g_getR K fl_c6_18 d_c6_flow_126 e_v22 ?_
              obtain ⟨v23, e_v23, e_t9⟩ := gBd e_t9
              refine g_alen K d_c6_flow_129 e_v23 ?_
              refine g_icmp_ge K d_c6_flow_130 (fun c24 => ?_) (fun c24 => ?_)
              · rw [if_pos c24] at e_t9
                refine g_sub (ls2 := [(0, .ref a0), (1, .ref a1), (2, .int x2), (3, .ref a3), (4, .int x4), (5, .int x5)]) [1, 2, 3, 4, 5, 6] rfl ?_
                obtain rfl := Option.some.inj e_t9
                exact hJ10
              · rw [if_neg c24] at e_t9
                refine g_aload_n K d_c6_flow_133 1 rfl ?_
                obtain ⟨v25, e_v25, e_t9⟩ := gBd e_t9
                refine g_getR K fl_c6_18 d_c6_flow_134 e_v25 ?_
                refine g_iload K d_c6_flow_137 5 rfl ?_
                refine g_iload K d_c6_flow_139 7 rfl ?_
                obtain ⟨t27, e_t27, e_t9⟩ := gBd e_t9
                have hJ28 : gG M X 8 0 0 158 [(0, .ref a0), (1, .ref a1), (2, .int x2), (3, .ref a3), (4, .int x4), (5, .int x5)] [.int t27, .int x4, .ref v25] h := by
                  obtain ⟨h29, e_h29, e_t9⟩ := gBd e_t9
                  refine g_iast K d_c6_flow_158 e_h29 ?_
                  refine g_iinc (ls2 := [(4, .int (x4 + (1 : Int32))), (0, .ref a0), (1, .ref a1), (2, .int x2), (3, .ref a3), (5, .int x5)]) (v := 1) K d_c6_flow_159 4 rfl (by decide) rfl rfl ?_
                  refine g_sub (ls2 := [(0, .ref a0), (1, .ref a1), (2, .int x2), (3, .ref a3), (4, .int (x4 + (1 : Int32))), (5, .int x5)]) [1, 2, 3, 4, 0, 5] rfl ?_
                  obtain rfl := Option.some.inj e_t9
                  exact hJ10
                refine g_if_ge K d_c6_flow_141 (fun c26 => ?_) (fun c26 => ?_)
                · rw [if_pos c26] at e_t27
                  refine g_iload K d_c6_flow_156 7 rfl ?_
                  refine g_sub (ls2 := [(0, .ref a0), (1, .ref a1), (2, .int x2), (3, .ref a3), (4, .int x4), (5, .int x5)]) [1, 2, 3, 4, 5, 6] rfl ?_
                  obtain rfl := Option.some.inj e_t27
                  exact hJ28
                · rw [if_neg c26] at e_t27
                  refine g_iload K d_c6_flow_144 7 rfl ?_
                  refine g_ineg K d_c6_flow_146 ?_
                  refine g_aload_n K d_c6_flow_147 2 rfl ?_
                  refine g_iload_n K d_c6_flow_148 3 rfl ?_
                  refine g_aload_n K d_c6_flow_149 4 rfl ?_
                  obtain ⟨q30, e_q30, e_t27⟩ := gBd e_t27
                  refine g_callSi (rest := [.int x4, .ref v25]) K hx ly_c6_thing ks_c6_88 d_c6_flow_150 (ct_c6_thing M.2.1 X hx N (-v4) a1 x2 a3 h q30 e_q30) rfl rfl (Nat.le_of_ble_eq_true rfl) (gDep rfl) ⟨Nat.le_refl 0, Nat.le_refl 0⟩ ?_
                  refine g_goto K d_c6_flow_153 ?_
                  refine g_sub (ls2 := [(0, .ref a0), (1, .ref a1), (2, .int x2), (3, .ref a3), (4, .int x4), (5, .int x5)]) [1, 2, 3, 4, 5, 6] rfl ?_
                  obtain rfl := Option.some.inj e_t27
                  exact hJ28
            · rw [if_neg c21] at e_t9
              refine g_iinc (ls2 := [(4, .int (x4 + (-1 : Int32))), (7, .int t6), (0, .ref a0), (1, .ref a1), (2, .int x2), (3, .ref a3), (5, .int x5), (6, .int v4)]) (v := (-1)) K d_c6_flow_86 5 rfl (by decide) rfl rfl ?_
              refine g_aload_n K d_c6_flow_89 2 rfl ?_
              obtain ⟨v31, e_v31, e_t9⟩ := gBd e_t9
              refine g_getR K fl_c6_18 d_c6_flow_90 e_v31 ?_
              refine g_iload K d_c6_flow_93 0 rfl ?_
              refine g_iconst (v := 1) K d_c6_flow_95 (by decide) ?_
              refine g_isub K d_c6_flow_96 ?_
              refine g_iload K d_c6_flow_97 7 rfl ?_
              refine g_ineg K d_c6_flow_99 ?_
              refine g_aload_n K d_c6_flow_100 2 rfl ?_
              obtain ⟨v32, e_v32, e_t9⟩ := gBd e_t9
              refine g_getR K fl_c6_18 d_c6_flow_101 e_v32 ?_
              refine g_iload K d_c6_flow_104 0 rfl ?_
              refine g_iconst (v := 1) K d_c6_flow_106 (by decide) ?_
              refine g_isub K d_c6_flow_107 ?_
              obtain ⟨v33, e_v33, e_t9⟩ := gBd e_t9
              refine g_iald K d_c6_flow_108 e_v33 ?_
              refine g_aload_n K d_c6_flow_109 2 rfl ?_
              obtain ⟨v34, e_v34, e_t9⟩ := gBd e_t9
              refine g_getR K fl_c6_18 d_c6_flow_110 e_v34 ?_
              refine g_iload K d_c6_flow_113 0 rfl ?_
              obtain ⟨v35, e_v35, e_t9⟩ := gBd e_t9
              refine g_iald K d_c6_flow_115 e_v35 ?_
              obtain ⟨q36, e_q36, e_t9⟩ := gBd e_t9
              refine g_callSi (rest := [.int ((x4 + (-1 : Int32)) - (1 : Int32)), .ref v31]) K hx ly_c6_apply ks_c6_84 d_c6_flow_116 (ct_c6_apply M.2.1 X hx N (-v4) v33 v35 h q36 e_q36) rfl rfl (Nat.le_of_ble_eq_true rfl) (gDep rfl) ⟨Nat.le_refl 0, Nat.le_refl 0⟩ ?_
              obtain ⟨h37, e_h37, e_t9⟩ := gBd e_t9
              refine g_iast K d_c6_flow_119 e_h37 ?_
              refine g_goto K d_c6_flow_120 ?_
              refine g_sub (ls2 := [(0, .ref a0), (1, .ref a1), (2, .int x2), (3, .ref a3), (4, .int (x4 + (-1 : Int32))), (5, .int x5)]) [2, 3, 4, 5, 0, 6] rfl ?_
              obtain rfl := Option.some.inj e_t9
              exact hJ10
        · rw [if_pos c8] at e_t9
          refine g_iload K d_c6_flow_47 5 rfl ?_
          refine g_iconst (v := 1) K d_c6_flow_49 (by decide) ?_
          refine g_icmp_lt K d_c6_flow_50 (fun c38 => ?_) (fun c38 => ?_)
          · rw [if_pos c38] at e_t9
            refine g_iload K d_c6_flow_75 0 rfl ?_
            refine g_if_le K d_c6_flow_77 (fun c39 => ?_) (fun c39 => ?_)
            · rw [if_pos c39] at e_t9
              refine g_iload K d_c6_flow_123 5 rfl ?_
              refine g_aload_n K d_c6_flow_125 1 rfl ?_
              obtain ⟨v40, e_v40, e_t9⟩ := gBd e_t9
              refine g_getR K fl_c6_18 d_c6_flow_126 e_v40 ?_
              obtain ⟨v41, e_v41, e_t9⟩ := gBd e_t9
              refine g_alen K d_c6_flow_129 e_v41 ?_
              refine g_icmp_ge K d_c6_flow_130 (fun c42 => ?_) (fun c42 => ?_)
              · rw [if_pos c42] at e_t9
                refine g_sub (ls2 := [(0, .ref a0), (1, .ref a1), (2, .int x2), (3, .ref a3), (4, .int x4), (5, .int x5)]) [1, 2, 3, 4, 5, 6] rfl ?_
                obtain rfl := Option.some.inj e_t9
                exact hJ10
              · rw [if_neg c42] at e_t9
                refine g_aload_n K d_c6_flow_133 1 rfl ?_
                obtain ⟨v43, e_v43, e_t9⟩ := gBd e_t9
                refine g_getR K fl_c6_18 d_c6_flow_134 e_v43 ?_
                refine g_iload K d_c6_flow_137 5 rfl ?_
                refine g_iload K d_c6_flow_139 7 rfl ?_
                obtain ⟨t45, e_t45, e_t9⟩ := gBd e_t9
                have hJ46 : gG M X 8 0 0 158 [(0, .ref a0), (1, .ref a1), (2, .int x2), (3, .ref a3), (4, .int x4), (5, .int x5)] [.int t45, .int x4, .ref v43] h := by
                  obtain ⟨h47, e_h47, e_t9⟩ := gBd e_t9
                  refine g_iast K d_c6_flow_158 e_h47 ?_
                  refine g_iinc (ls2 := [(4, .int (x4 + (1 : Int32))), (0, .ref a0), (1, .ref a1), (2, .int x2), (3, .ref a3), (5, .int x5)]) (v := 1) K d_c6_flow_159 4 rfl (by decide) rfl rfl ?_
                  refine g_sub (ls2 := [(0, .ref a0), (1, .ref a1), (2, .int x2), (3, .ref a3), (4, .int (x4 + (1 : Int32))), (5, .int x5)]) [1, 2, 3, 4, 0, 5] rfl ?_
                  obtain rfl := Option.some.inj e_t9
                  exact hJ10
                refine g_if_ge K d_c6_flow_141 (fun c44 => ?_) (fun c44 => ?_)
                · rw [if_pos c44] at e_t45
                  refine g_iload K d_c6_flow_156 7 rfl ?_
                  refine g_sub (ls2 := [(0, .ref a0), (1, .ref a1), (2, .int x2), (3, .ref a3), (4, .int x4), (5, .int x5)]) [1, 2, 3, 4, 5, 6] rfl ?_
                  obtain rfl := Option.some.inj e_t45
                  exact hJ46
                · rw [if_neg c44] at e_t45
                  refine g_iload K d_c6_flow_144 7 rfl ?_
                  refine g_ineg K d_c6_flow_146 ?_
                  refine g_aload_n K d_c6_flow_147 2 rfl ?_
                  refine g_iload_n K d_c6_flow_148 3 rfl ?_
                  refine g_aload_n K d_c6_flow_149 4 rfl ?_
                  obtain ⟨q48, e_q48, e_t45⟩ := gBd e_t45
                  refine g_callSi (rest := [.int x4, .ref v43]) K hx ly_c6_thing ks_c6_88 d_c6_flow_150 (ct_c6_thing M.2.1 X hx N (-v4) a1 x2 a3 h q48 e_q48) rfl rfl (Nat.le_of_ble_eq_true rfl) (gDep rfl) ⟨Nat.le_refl 0, Nat.le_refl 0⟩ ?_
                  refine g_goto K d_c6_flow_153 ?_
                  refine g_sub (ls2 := [(0, .ref a0), (1, .ref a1), (2, .int x2), (3, .ref a3), (4, .int x4), (5, .int x5)]) [1, 2, 3, 4, 5, 6] rfl ?_
                  obtain rfl := Option.some.inj e_t45
                  exact hJ46
            · rw [if_neg c39] at e_t9
              refine g_iload K d_c6_flow_80 5 rfl ?_
              refine g_iconst (v := 2) K d_c6_flow_82 (by decide) ?_
              refine g_icmp_lt K d_c6_flow_83 (fun c49 => ?_) (fun c49 => ?_)
              · rw [if_pos c49] at e_t9
                refine g_iload K d_c6_flow_123 5 rfl ?_
                refine g_aload_n K d_c6_flow_125 1 rfl ?_
                obtain ⟨v50, e_v50, e_t9⟩ := gBd e_t9
                refine g_getR K fl_c6_18 d_c6_flow_126 e_v50 ?_
                obtain ⟨v51, e_v51, e_t9⟩ := gBd e_t9
                refine g_alen K d_c6_flow_129 e_v51 ?_
                refine g_icmp_ge K d_c6_flow_130 (fun c52 => ?_) (fun c52 => ?_)
                · rw [if_pos c52] at e_t9
                  refine g_sub (ls2 := [(0, .ref a0), (1, .ref a1), (2, .int x2), (3, .ref a3), (4, .int x4), (5, .int x5)]) [1, 2, 3, 4, 5, 6] rfl ?_
                  obtain rfl := Option.some.inj e_t9
                  exact hJ10
                · rw [if_neg c52] at e_t9
                  refine g_aload_n K d_c6_flow_133 1 rfl ?_
                  obtain ⟨v53, e_v53, e_t9⟩ := gBd e_t9
                  refine g_getR K fl_c6_18 d_c6_flow_134 e_v53 ?_
                  refine g_iload K d_c6_flow_137 5 rfl ?_
                  refine g_iload K d_c6_flow_139 7 rfl ?_
                  obtain ⟨t55, e_t55, e_t9⟩ := gBd e_t9
                  have hJ56 : gG M X 8 0 0 158 [(0, .ref a0), (1, .ref a1), (2, .int x2), (3, .ref a3), (4, .int x4), (5, .int x5)] [.int t55, .int x4, .ref v53] h := by
                    obtain ⟨h57, e_h57, e_t9⟩ := gBd e_t9
                    refine g_iast K d_c6_flow_158 e_h57 ?_
                    refine g_iinc (ls2 := [(4, .int (x4 + (1 : Int32))), (0, .ref a0), (1, .ref a1), (2, .int x2), (3, .ref a3), (5, .int x5)]) (v := 1) K d_c6_flow_159 4 rfl (by decide) rfl rfl ?_
                    refine g_sub (ls2 := [(0, .ref a0), (1, .ref a1), (2, .int x2), (3, .ref a3), (4, .int (x4 + (1 : Int32))), (5, .int x5)]) [1, 2, 3, 4, 0, 5] rfl ?_
                    obtain rfl := Option.some.inj e_t9
                    exact hJ10
                  refine g_if_ge K d_c6_flow_141 (fun c54 => ?_) (fun c54 => ?_)
                  · rw [if_pos c54] at e_t55
                    refine g_iload K d_c6_flow_156 7 rfl ?_
                    refine g_sub (ls2 := [(0, .ref a0), (1, .ref a1), (2, .int x2), (3, .ref a3), (4, .int x4), (5, .int x5)]) [1, 2, 3, 4, 5, 6] rfl ?_
                    obtain rfl := Option.some.inj e_t55
                    exact hJ56
                  · rw [if_neg c54] at e_t55
                    refine g_iload K d_c6_flow_144 7 rfl ?_
                    refine g_ineg K d_c6_flow_146 ?_
                    refine g_aload_n K d_c6_flow_147 2 rfl ?_
                    refine g_iload_n K d_c6_flow_148 3 rfl ?_
                    refine g_aload_n K d_c6_flow_149 4 rfl ?_
                    obtain ⟨q58, e_q58, e_t55⟩ := gBd e_t55
                    refine g_callSi (rest := [.int x4, .ref v53]) K hx ly_c6_thing ks_c6_88 d_c6_flow_150 (ct_c6_thing M.2.1 X hx N (-v4) a1 x2 a3 h q58 e_q58) rfl rfl (Nat.le_of_ble_eq_true rfl) (gDep rfl) ⟨Nat.le_refl 0, Nat.le_refl 0⟩ ?_
                    refine g_goto K d_c6_flow_153 ?_
                    refine g_sub (ls2 := [(0, .ref a0), (1, .ref a1), (2, .int x2), (3, .ref a3), (4, .int x4), (5, .int x5)]) [1, 2, 3, 4, 5, 6] rfl ?_
                    obtain rfl := Option.some.inj e_t55
                    exact hJ56
              · rw [if_neg c49] at e_t9
                refine g_iinc (ls2 := [(4, .int (x4 + (-1 : Int32))), (7, .int t6), (0, .ref a0), (1, .ref a1), (2, .int x2), (3, .ref a3), (5, .int x5), (6, .int v4)]) (v := (-1)) K d_c6_flow_86 5 rfl (by decide) rfl rfl ?_
                refine g_aload_n K d_c6_flow_89 2 rfl ?_
                obtain ⟨v59, e_v59, e_t9⟩ := gBd e_t9
                refine g_getR K fl_c6_18 d_c6_flow_90 e_v59 ?_
                refine g_iload K d_c6_flow_93 0 rfl ?_
                refine g_iconst (v := 1) K d_c6_flow_95 (by decide) ?_
                refine g_isub K d_c6_flow_96 ?_
                refine g_iload K d_c6_flow_97 7 rfl ?_
                refine g_ineg K d_c6_flow_99 ?_
                refine g_aload_n K d_c6_flow_100 2 rfl ?_
                obtain ⟨v60, e_v60, e_t9⟩ := gBd e_t9
                refine g_getR K fl_c6_18 d_c6_flow_101 e_v60 ?_
                refine g_iload K d_c6_flow_104 0 rfl ?_
                refine g_iconst (v := 1) K d_c6_flow_106 (by decide) ?_
                refine g_isub K d_c6_flow_107 ?_
                obtain ⟨v61, e_v61, e_t9⟩ := gBd e_t9
                refine g_iald K d_c6_flow_108 e_v61 ?_
                refine g_aload_n K d_c6_flow_109 2 rfl ?_
                obtain ⟨v62, e_v62, e_t9⟩ := gBd e_t9
                refine g_getR K fl_c6_18 d_c6_flow_110 e_v62 ?_
                refine g_iload K d_c6_flow_113 0 rfl ?_
                obtain ⟨v63, e_v63, e_t9⟩ := gBd e_t9
                refine g_iald K d_c6_flow_115 e_v63 ?_
                obtain ⟨q64, e_q64, e_t9⟩ := gBd e_t9
                refine g_callSi (rest := [.int ((x4 + (-1 : Int32)) - (1 : Int32)), .ref v59]) K hx ly_c6_apply ks_c6_84 d_c6_flow_116 (ct_c6_apply M.2.1 X hx N (-v4) v61 v63 h q64 e_q64) rfl rfl (Nat.le_of_ble_eq_true rfl) (gDep rfl) ⟨Nat.le_refl 0, Nat.le_refl 0⟩ ?_
                obtain ⟨h65, e_h65, e_t9⟩ := gBd e_t9
                refine g_iast K d_c6_flow_119 e_h65 ?_
                refine g_goto K d_c6_flow_120 ?_
                refine g_sub (ls2 := [(0, .ref a0), (1, .ref a1), (2, .int x2), (3, .ref a3), (4, .int (x4 + (-1 : Int32))), (5, .int x5)]) [2, 3, 4, 5, 0, 6] rfl ?_
                obtain rfl := Option.some.inj e_t9
                exact hJ10
          · rw [if_neg c38] at e_t9
            refine g_aload_n K d_c6_flow_53 1 rfl ?_
            obtain ⟨v66, e_v66, e_t9⟩ := gBd e_t9
            refine g_getR K fl_c6_18 d_c6_flow_54 e_v66 ?_
            refine g_iload K d_c6_flow_57 5 rfl ?_
            refine g_iconst (v := 1) K d_c6_flow_59 (by decide) ?_
            refine g_isub K d_c6_flow_60 ?_
            refine g_aload_n K d_c6_flow_61 1 rfl ?_
            obtain ⟨v67, e_v67, e_t9⟩ := gBd e_t9
            refine g_getR K fl_c6_18 d_c6_flow_62 e_v67 ?_
            refine g_iload K d_c6_flow_65 5 rfl ?_
            refine g_iconst (v := 1) K d_c6_flow_67 (by decide) ?_
            refine g_isub K d_c6_flow_68 ?_
            obtain ⟨v68, e_v68, e_t9⟩ := gBd e_t9
            refine g_iald K d_c6_flow_69 e_v68 ?_
            refine g_ineg K d_c6_flow_70 ?_
            obtain ⟨h69, e_h69, e_t9⟩ := gBd e_t9
            refine g_iast K d_c6_flow_71 e_h69 ?_
            refine g_goto K d_c6_flow_72 ?_
            refine g_sub (ls2 := [(0, .ref a0), (1, .ref a1), (2, .int x2), (3, .ref a3), (4, .int x4), (5, .int x5)]) [1, 2, 3, 4, 5, 6] rfl ?_
            obtain rfl := Option.some.inj e_t9
            exact hJ10
      refine g_if_ge K d_c6_flow_26 (fun c5 => ?_) (fun c5 => ?_)
      · rw [if_pos c5] at e_t6
        refine g_iconst (v := 0) K d_c6_flow_38 (by decide) ?_
        refine g_sub (ls2 := [(0, .ref a0), (1, .ref a1), (2, .int x2), (3, .ref a3), (4, .int x4), (5, .int x5), (6, .int v4)]) [1, 2, 3, 4, 5, 6, 0] rfl ?_
        obtain rfl := Option.some.inj e_t6
        exact hJ7
      · rw [if_neg c5] at e_t6
        refine g_iload K d_c6_flow_29 0 rfl ?_
        refine g_ineg K d_c6_flow_31 ?_
        obtain ⟨q70, e_q70, e_t6⟩ := gBd e_t6
        refine g_callSi (rest := []) K hx ly_c6_rank ks_c6_77 d_c6_flow_32 (ct_c6_rank M.2.1 X hx N (-v4) h q70 e_q70) rfl rfl (Nat.le_of_ble_eq_true rfl) (gDep rfl) ⟨Nat.le_refl 0, Nat.le_refl 0⟩ ?_
        refine g_goto K d_c6_flow_35 ?_
        refine g_sub (ls2 := [(0, .ref a0), (1, .ref a1), (2, .int x2), (3, .ref a3), (4, .int x4), (5, .int x5), (6, .int v4)]) [1, 2, 3, 4, 5, 6, 0] rfl ?_
        obtain rfl := Option.some.inj e_t6
        exact hJ7
set_option maxHeartbeats 4000000 in
set_option maxRecDepth 100000 in
theorem ct_c6_flow (l : Launch) (X : gX) (hx : gEx X = false) (N : Nat) (a0 : Nat) (a1 : Nat) (x2 : Int32) (a3 : Nat) (h : gH) (q : Int32 × gH) (hy : f_c6_flow N a0 a1 x2 a3 h = some q) : gRc y_c6_flow h a0 ∧ gMi l X y_c6_flow b_c6_flow 8 .int (3 + N) 0 0 [.ref a0, .ref a1, .int x2, .ref a3] h q.1 q.2 := by
  unfold f_c6_flow at hy
  obtain ⟨u0, e_u0, hy⟩ := gBd hy
  cases u0
  refine ⟨Or.inl ⟨6, _, _, e_u0, rfl⟩, gMet_i (lsx := [(0, .ref a0), (1, .ref a1), (2, .int x2), (3, .ref a3)]) (by decide) rfl rfl ?_⟩
  intro M hMl K hret
  subst hMl
  refine g_iconst (v := 0) K d_c6_flow_0 (by decide) ?_
  refine g_istore (ls2 := [(4, .int (0 : Int32)), (0, .ref a0), (1, .ref a1), (2, .int x2), (3, .ref a3)]) K d_c6_flow_1 rfl rfl ?_
  refine g_iconst (v := 0) K d_c6_flow_3 (by decide) ?_
  refine g_istore (ls2 := [(5, .int (0 : Int32)), (4, .int (0 : Int32)), (0, .ref a0), (1, .ref a1), (2, .int x2), (3, .ref a3)]) K d_c6_flow_4 rfl rfl ?_
  obtain ⟨o71, e_o71, hy⟩ := gBd hy
  refine g_sub (ls2 := [(0, .ref a0), (1, .ref a1), (2, .int x2), (3, .ref a3), (4, .int (0 : Int32)), (5, .int (0 : Int32))]) [2, 3, 4, 5, 1, 0] rfl ?_
  refine wlp_c6_flow_6 hx K a0 a1 x2 a3 N (0 : Int32) (0 : Int32) h o71 e_o71 ?_
  refine g_aload_n K d_c6_flow_168 0 rfl ?_
  obtain ⟨v72, e_v72, hy⟩ := gBd hy
  refine g_getR K fl_c6_18 d_c6_flow_169 e_v72 ?_
  refine g_iconst (v := 0) K d_c6_flow_172 (by decide) ?_
  obtain ⟨v73, e_v73, hy⟩ := gBd hy
  refine g_iald K d_c6_flow_173 e_v73 ?_
  refine g_bipush (v := 9) K d_c6_flow_174 (by decide) ?_
  obtain ⟨q74, e_q74, hy⟩ := gBd hy
  refine g_callSi (rest := []) K hx ly_c10_put ks_c6_92 d_c6_flow_176 (ct_c10_put M.2.1 X hx N v73 (9 : Int32) o71 q74 e_q74) rfl rfl (Nat.le_of_ble_eq_true rfl) (gDep rfl) ⟨Nat.le_refl 0, Nat.le_refl 0⟩ ?_
  obtain rfl := Option.some.inj hy
  exact hret rfl _ _ _ d_c6_flow_179
-- c6 takeThing
theorem d_c6_takeThing_0 : gD b_c6_takeThing 0 (.iload_n 1) 1 1 := ⟨by decide +kernel, rfl⟩
theorem d_c6_takeThing_1 : gD b_c6_takeThing 1 (.bipush 45) 2 3 := ⟨by decide +kernel, rfl⟩
theorem d_c6_takeThing_3 : gJ b_c6_takeThing 3 (.if_icmp .ne 12) 3 12 6 15 := ⟨by decide +kernel, rfl, by decide⟩
theorem d_c6_takeThing_6 : gD b_c6_takeThing 6 (.aload_n 0) 1 7 := ⟨by decide +kernel, rfl⟩
theorem d_c6_takeThing_7 : gD b_c6_takeThing 7 (.sipush 256) 3 10 := ⟨by decide +kernel, rfl⟩
theorem d_c6_takeThing_10 : gD b_c6_takeThing 10 (.invokevirtual 58) 3 13 := ⟨by decide +kernel, rfl⟩
theorem d_c6_takeThing_13 : gD b_c6_takeThing 13 (.iconst 1) 1 14 := ⟨by decide +kernel, rfl⟩
theorem d_c6_takeThing_14 : gD b_c6_takeThing 14 .ireturn 1 15 := ⟨by decide +kernel, rfl⟩
theorem d_c6_takeThing_15 : gD b_c6_takeThing 15 (.iload_n 1) 1 16 := ⟨by decide +kernel, rfl⟩
theorem d_c6_takeThing_16 : gD b_c6_takeThing 16 (.bipush 40) 2 18 := ⟨by decide +kernel, rfl⟩
theorem d_c6_takeThing_18 : gJ b_c6_takeThing 18 (.if_icmp .ne 8) 3 8 21 26 := ⟨by decide +kernel, rfl, by decide⟩
theorem d_c6_takeThing_21 : gD b_c6_takeThing 21 (.aload_n 0) 1 22 := ⟨by decide +kernel, rfl⟩
theorem d_c6_takeThing_22 : gD b_c6_takeThing 22 (.invokevirtual 61) 3 25 := ⟨by decide +kernel, rfl⟩
theorem d_c6_takeThing_25 : gD b_c6_takeThing 25 .ireturn 1 26 := ⟨by decide +kernel, rfl⟩
theorem d_c6_takeThing_26 : gD b_c6_takeThing 26 (.iload_n 1) 1 27 := ⟨by decide +kernel, rfl⟩
theorem d_c6_takeThing_27 : gD b_c6_takeThing 27 (.bipush 48) 2 29 := ⟨by decide +kernel, rfl⟩
theorem d_c6_takeThing_29 : gJ b_c6_takeThing 29 (.if_icmp .lt 13) 3 13 32 42 := ⟨by decide +kernel, rfl, by decide⟩
theorem d_c6_takeThing_32 : gD b_c6_takeThing 32 (.iload_n 1) 1 33 := ⟨by decide +kernel, rfl⟩
theorem d_c6_takeThing_33 : gD b_c6_takeThing 33 (.bipush 57) 2 35 := ⟨by decide +kernel, rfl⟩
theorem d_c6_takeThing_35 : gJ b_c6_takeThing 35 (.if_icmp .gt 7) 3 7 38 42 := ⟨by decide +kernel, rfl, by decide⟩
theorem d_c6_takeThing_38 : gD b_c6_takeThing 38 (.iconst 1) 1 39 := ⟨by decide +kernel, rfl⟩
theorem d_c6_takeThing_39 : gJ b_c6_takeThing 39 (.goto 4) 3 4 42 43 := ⟨by decide +kernel, rfl, by decide⟩
theorem d_c6_takeThing_42 : gD b_c6_takeThing 42 (.iconst 0) 1 43 := ⟨by decide +kernel, rfl⟩
theorem d_c6_takeThing_43 : gD b_c6_takeThing 43 (.istore_n 2) 1 44 := ⟨by decide +kernel, rfl⟩
theorem d_c6_takeThing_44 : gD b_c6_takeThing 44 (.iload_n 2) 1 45 := ⟨by decide +kernel, rfl⟩
theorem d_c6_takeThing_45 : gJ b_c6_takeThing 45 (.ifCond .ne 12) 3 12 48 57 := ⟨by decide +kernel, rfl, by decide⟩
theorem d_c6_takeThing_48 : gD b_c6_takeThing 48 (.iload_n 1) 1 49 := ⟨by decide +kernel, rfl⟩
theorem d_c6_takeThing_49 : gD b_c6_takeThing 49 (.invokestatic 65) 3 52 := ⟨by decide +kernel, rfl⟩
theorem d_c6_takeThing_52 : gJ b_c6_takeThing 52 (.ifCond .ne 5) 3 5 55 57 := ⟨by decide +kernel, rfl, by decide⟩
theorem d_c6_takeThing_55 : gD b_c6_takeThing 55 (.iconst 0) 1 56 := ⟨by decide +kernel, rfl⟩
theorem d_c6_takeThing_56 : gD b_c6_takeThing 56 .ireturn 1 57 := ⟨by decide +kernel, rfl⟩
theorem d_c6_takeThing_57 : gD b_c6_takeThing 57 (.aload_n 0) 1 58 := ⟨by decide +kernel, rfl⟩
theorem d_c6_takeThing_58 : gD b_c6_takeThing 58 (.iload_n 2) 1 59 := ⟨by decide +kernel, rfl⟩
theorem d_c6_takeThing_59 : gJ b_c6_takeThing 59 (.ifCond .eq 7) 3 7 62 66 := ⟨by decide +kernel, rfl, by decide⟩
theorem d_c6_takeThing_62 : gD b_c6_takeThing 62 (.iconst 1) 1 63 := ⟨by decide +kernel, rfl⟩
theorem d_c6_takeThing_63 : gJ b_c6_takeThing 63 (.goto 4) 3 4 66 67 := ⟨by decide +kernel, rfl, by decide⟩
theorem d_c6_takeThing_66 : gD b_c6_takeThing 66 (.iconst 0) 1 67 := ⟨by decide +kernel, rfl⟩
theorem d_c6_takeThing_67 : gD b_c6_takeThing 67 (.putfield 34) 3 70 := ⟨by decide +kernel, rfl⟩
theorem d_c6_takeThing_70 : gD b_c6_takeThing 70 (.aload_n 0) 1 71 := ⟨by decide +kernel, rfl⟩
theorem d_c6_takeThing_71 : gD b_c6_takeThing 71 (.iload_n 2) 1 72 := ⟨by decide +kernel, rfl⟩
theorem d_c6_takeThing_72 : gJ b_c6_takeThing 72 (.ifCond .eq 10) 3 10 75 82 := ⟨by decide +kernel, rfl, by decide⟩
theorem d_c6_takeThing_75 : gD b_c6_takeThing 75 (.iload_n 1) 1 76 := ⟨by decide +kernel, rfl⟩
theorem d_c6_takeThing_76 : gD b_c6_takeThing 76 (.bipush 48) 2 78 := ⟨by decide +kernel, rfl⟩
theorem d_c6_takeThing_78 : gD b_c6_takeThing 78 .isub 1 79 := ⟨by decide +kernel, rfl⟩
theorem d_c6_takeThing_79 : gJ b_c6_takeThing 79 (.goto 5) 3 5 82 84 := ⟨by decide +kernel, rfl, by decide⟩
theorem d_c6_takeThing_82 : gD b_c6_takeThing 82 (.iload_n 1) 1 83 := ⟨by decide +kernel, rfl⟩
theorem d_c6_takeThing_83 : gD b_c6_takeThing 83 .ineg 1 84 := ⟨by decide +kernel, rfl⟩
theorem d_c6_takeThing_84 : gD b_c6_takeThing 84 (.invokevirtual 68) 3 87 := ⟨by decide +kernel, rfl⟩
theorem d_c6_takeThing_87 : gD b_c6_takeThing 87 (.aload_n 0) 1 88 := ⟨by decide +kernel, rfl⟩
theorem d_c6_takeThing_88 : gD b_c6_takeThing 88 (.iconst 0) 1 89 := ⟨by decide +kernel, rfl⟩
theorem d_c6_takeThing_89 : gD b_c6_takeThing 89 (.putfield 37) 3 92 := ⟨by decide +kernel, rfl⟩
theorem d_c6_takeThing_92 : gD b_c6_takeThing 92 (.iconst 1) 1 93 := ⟨by decide +kernel, rfl⟩
theorem d_c6_takeThing_93 : gD b_c6_takeThing 93 .ireturn 1 94 := ⟨by decide +kernel, rfl⟩
def f_c6_takeThing (N : Nat) (a0 : Nat) (x1 : Int32) (h : gH) : Option (Int32 × gH) :=
  (gcl h a0 6).bind fun _ =>
  if x1 = (45 : Int32) then
    (f_c6_hold N a0 (256 : Int32) h).bind fun q35 =>
    (gZ (1 : Int32)).bind fun w36 => some (w36, q35)
  else
    if x1 = (40 : Int32) then
    (f_c6_open N a0 h).bind fun q33 =>
    (gZ q33.1).bind fun w34 => some (w34, q33.2)
  else
    if (if x1 < (48 : Int32) then (0 : Int32) else (if (57 : Int32) < x1 then (0 : Int32) else (1 : Int32))) = 0 then
    (f_c6_isThing N x1 h).bind fun q18 =>
    if q18 = 0 then
    (gZ (0 : Int32)).bind fun w31 => some (w31, h)
  else
    (sf h a0 6 7 (.int (if (if x1 < (48 : Int32) then (0 : Int32) else (if (57 : Int32) < x1 then (0 : Int32) else (1 : Int32))) = 0 then (0 : Int32) else (1 : Int32)))).bind fun h23 =>
    (f_c6_emit N a0 (if (if x1 < (48 : Int32) then (0 : Int32) else (if (57 : Int32) < x1 then (0 : Int32) else (1 : Int32))) = 0 then -x1 else x1 - (48 : Int32)) h23).bind fun q27 =>
    (gZ (0 : Int32)).bind fun w28 =>
    (sf q27 a0 6 8 (.int w28)).bind fun h29 =>
    (gZ (1 : Int32)).bind fun w30 => some (w30, h29)
  else
    (sf h a0 6 7 (.int (if (if x1 < (48 : Int32) then (0 : Int32) else (if (57 : Int32) < x1 then (0 : Int32) else (1 : Int32))) = 0 then (0 : Int32) else (1 : Int32)))).bind fun h10 =>
    (f_c6_emit N a0 (if (if x1 < (48 : Int32) then (0 : Int32) else (if (57 : Int32) < x1 then (0 : Int32) else (1 : Int32))) = 0 then -x1 else x1 - (48 : Int32)) h10).bind fun q14 =>
    (gZ (0 : Int32)).bind fun w15 =>
    (sf q14 a0 6 8 (.int w15)).bind fun h16 =>
    (gZ (1 : Int32)).bind fun w17 => some (w17, h16)
set_option maxHeartbeats 4000000 in
set_option maxRecDepth 100000 in
theorem ct_c6_takeThing (l : Launch) (X : gX) (hx : gEx X = false) (N : Nat) (a0 : Nat) (x1 : Int32) (h : gH) (q : Int32 × gH) (hy : f_c6_takeThing N a0 x1 h = some q) : gRc y_c6_takeThing h a0 ∧ gMi l X y_c6_takeThing b_c6_takeThing 3 .boolean (3 + N) 0 0 [.ref a0, .int x1] h q.1 q.2 := by
  unfold f_c6_takeThing at hy
  obtain ⟨u0, e_u0, hy⟩ := gBd hy
  cases u0
  refine ⟨Or.inl ⟨6, _, _, e_u0, rfl⟩, gMet_i (lsx := [(0, .ref a0), (1, .int x1)]) (by decide) rfl rfl ?_⟩
  intro M hMl K hret
  subst hMl
  refine g_iload_n K d_c6_takeThing_0 1 rfl ?_
  refine g_bipush (v := 45) K d_c6_takeThing_1 (by decide) ?_
  refine g_icmp_ne K d_c6_takeThing_3 (fun c1 => ?_) (fun c1 => ?_)
  · rw [if_neg c1] at hy
    refine g_iload_n K d_c6_takeThing_15 1 rfl ?_
    refine g_bipush (v := 40) K d_c6_takeThing_16 (by decide) ?_
    refine g_icmp_ne K d_c6_takeThing_18 (fun c2 => ?_) (fun c2 => ?_)
    · rw [if_neg c2] at hy
      refine g_iload_n K d_c6_takeThing_26 1 rfl ?_
      refine g_bipush (v := 48) K d_c6_takeThing_27 (by decide) ?_
      have hJ5 : ∀ w4 : Int32, w4 = (if x1 < (48 : Int32) then (0 : Int32) else (if (57 : Int32) < x1 then (0 : Int32) else (1 : Int32))) → gG M X 3 0 0 43 [(0, .ref a0), (1, .int x1)] [.int w4] h := by
        intro w4 e_w4
        subst e_w4
        refine g_istore_n (ls2 := [(2, .int (if x1 < (48 : Int32) then (0 : Int32) else (if (57 : Int32) < x1 then (0 : Int32) else (1 : Int32)))), (0, .ref a0), (1, .int x1)]) K d_c6_takeThing_43 rfl rfl ?_
        refine g_iload_n K d_c6_takeThing_44 0 rfl ?_
        refine g_if_ne K d_c6_takeThing_45 (fun c6 => ?_) (fun c6 => ?_)
        · rw [if_neg c6] at hy
          refine g_aload_n K d_c6_takeThing_57 1 rfl ?_
          refine g_iload_n K d_c6_takeThing_58 0 rfl ?_
          have hJ9 : ∀ w8 : Int32, w8 = (if (if x1 < (48 : Int32) then (0 : Int32) else (if (57 : Int32) < x1 then (0 : Int32) else (1 : Int32))) = 0 then (0 : Int32) else (1 : Int32)) → gG M X 3 0 0 67 [(2, .int (if x1 < (48 : Int32) then (0 : Int32) else (if (57 : Int32) < x1 then (0 : Int32) else (1 : Int32)))), (0, .ref a0), (1, .int x1)] [.int w8, .ref a0] h := by
            intro w8 e_w8
            subst e_w8
            obtain ⟨h10, e_h10, hy⟩ := gBd hy
            refine g_putI K fp_c6_34 d_c6_takeThing_67 e_h10 ?_
            refine g_aload_n K d_c6_takeThing_70 1 rfl ?_
            refine g_iload_n K d_c6_takeThing_71 0 rfl ?_
            have hJ13 : ∀ w12 : Int32, w12 = (if (if x1 < (48 : Int32) then (0 : Int32) else (if (57 : Int32) < x1 then (0 : Int32) else (1 : Int32))) = 0 then -x1 else x1 - (48 : Int32)) → gG M X 3 0 0 84 [(2, .int (if x1 < (48 : Int32) then (0 : Int32) else (if (57 : Int32) < x1 then (0 : Int32) else (1 : Int32)))), (0, .ref a0), (1, .int x1)] [.int w12, .ref a0] h10 := by
              intro w12 e_w12
              subst e_w12
              obtain ⟨q14, e_q14, hy⟩ := gBd hy
              refine g_callVv (rest := []) K hx ly_c6_emit kv_c6_68 d_c6_takeThing_84 (ct_c6_emit M.2.1 X hx N a0 (if (if x1 < (48 : Int32) then (0 : Int32) else (if (57 : Int32) < x1 then (0 : Int32) else (1 : Int32))) = 0 then -x1 else x1 - (48 : Int32)) h10 q14 e_q14) rfl rfl (Nat.le_of_ble_eq_true rfl) (gDep rfl) ⟨Nat.le_refl 0, Nat.le_refl 0⟩ ?_
              refine g_aload_n K d_c6_takeThing_87 1 rfl ?_
              refine g_iconst (v := 0) K d_c6_takeThing_88 (by decide) ?_
              obtain ⟨w15, e_w15, hy⟩ := gBd hy
              obtain ⟨h16, e_h16, hy⟩ := gBd hy
              refine g_putZ K fp_c6_37 d_c6_takeThing_89 e_w15 e_h16 ?_
              refine g_iconst (v := 1) K d_c6_takeThing_92 (by decide) ?_
              obtain ⟨w17, e_w17, hy⟩ := gBd hy
              obtain ⟨z_w17, n_w17⟩ := gZ_spec e_w17
              rw [z_w17]
              obtain rfl := Option.some.inj hy
              exact hret (gZn n_w17) _ _ _ d_c6_takeThing_93
            refine g_if_eq K d_c6_takeThing_72 (fun c11 => ?_) (fun c11 => ?_)
            · refine g_iload_n K d_c6_takeThing_82 2 rfl ?_
              refine g_ineg K d_c6_takeThing_83 ?_
              exact hJ13 _ (by rw [if_pos c11])
            · refine g_iload_n K d_c6_takeThing_75 2 rfl ?_
              refine g_bipush (v := 48) K d_c6_takeThing_76 (by decide) ?_
              refine g_isub K d_c6_takeThing_78 ?_
              refine g_goto K d_c6_takeThing_79 ?_
              exact hJ13 _ (by rw [if_neg c11])
          refine g_if_eq K d_c6_takeThing_59 (fun c7 => ?_) (fun c7 => ?_)
          · refine g_iconst (v := 0) K d_c6_takeThing_66 (by decide) ?_
            exact hJ9 _ (by rw [if_pos c7])
          · refine g_iconst (v := 1) K d_c6_takeThing_62 (by decide) ?_
            refine g_goto K d_c6_takeThing_63 ?_
            exact hJ9 _ (by rw [if_neg c7])
        · rw [if_pos c6] at hy
          refine g_iload_n K d_c6_takeThing_48 2 rfl ?_
          obtain ⟨q18, e_q18, hy⟩ := gBd hy
          refine g_callSi (rest := []) K hx ly_c6_isThing ks_c6_65 d_c6_takeThing_49 (ct_c6_isThing M.2.1 X hx N x1 h q18 e_q18) rfl rfl (Nat.le_of_ble_eq_true rfl) (gDep rfl) ⟨Nat.le_refl 0, Nat.le_refl 0⟩ ?_
          refine g_if_ne K d_c6_takeThing_52 (fun c19 => ?_) (fun c19 => ?_)
          · rw [if_neg c19] at hy
            refine g_aload_n K d_c6_takeThing_57 1 rfl ?_
            refine g_iload_n K d_c6_takeThing_58 0 rfl ?_
            have hJ22 : ∀ w21 : Int32, w21 = (if (if x1 < (48 : Int32) then (0 : Int32) else (if (57 : Int32) < x1 then (0 : Int32) else (1 : Int32))) = 0 then (0 : Int32) else (1 : Int32)) → gG M X 3 0 0 67 [(2, .int (if x1 < (48 : Int32) then (0 : Int32) else (if (57 : Int32) < x1 then (0 : Int32) else (1 : Int32)))), (0, .ref a0), (1, .int x1)] [.int w21, .ref a0] h := by
              intro w21 e_w21
              subst e_w21
              obtain ⟨h23, e_h23, hy⟩ := gBd hy
              refine g_putI K fp_c6_34 d_c6_takeThing_67 e_h23 ?_
              refine g_aload_n K d_c6_takeThing_70 1 rfl ?_
              refine g_iload_n K d_c6_takeThing_71 0 rfl ?_
              have hJ26 : ∀ w25 : Int32, w25 = (if (if x1 < (48 : Int32) then (0 : Int32) else (if (57 : Int32) < x1 then (0 : Int32) else (1 : Int32))) = 0 then -x1 else x1 - (48 : Int32)) → gG M X 3 0 0 84 [(2, .int (if x1 < (48 : Int32) then (0 : Int32) else (if (57 : Int32) < x1 then (0 : Int32) else (1 : Int32)))), (0, .ref a0), (1, .int x1)] [.int w25, .ref a0] h23 := by
                intro w25 e_w25
                subst e_w25
                obtain ⟨q27, e_q27, hy⟩ := gBd hy
                refine g_callVv (rest := []) K hx ly_c6_emit kv_c6_68 d_c6_takeThing_84 (ct_c6_emit M.2.1 X hx N a0 (if (if x1 < (48 : Int32) then (0 : Int32) else (if (57 : Int32) < x1 then (0 : Int32) else (1 : Int32))) = 0 then -x1 else x1 - (48 : Int32)) h23 q27 e_q27) rfl rfl (Nat.le_of_ble_eq_true rfl) (gDep rfl) ⟨Nat.le_refl 0, Nat.le_refl 0⟩ ?_
                refine g_aload_n K d_c6_takeThing_87 1 rfl ?_
                refine g_iconst (v := 0) K d_c6_takeThing_88 (by decide) ?_
                obtain ⟨w28, e_w28, hy⟩ := gBd hy
                obtain ⟨h29, e_h29, hy⟩ := gBd hy
                refine g_putZ K fp_c6_37 d_c6_takeThing_89 e_w28 e_h29 ?_
                refine g_iconst (v := 1) K d_c6_takeThing_92 (by decide) ?_
                obtain ⟨w30, e_w30, hy⟩ := gBd hy
                obtain ⟨z_w30, n_w30⟩ := gZ_spec e_w30
                rw [z_w30]
                obtain rfl := Option.some.inj hy
                exact hret (gZn n_w30) _ _ _ d_c6_takeThing_93
              refine g_if_eq K d_c6_takeThing_72 (fun c24 => ?_) (fun c24 => ?_)
              · refine g_iload_n K d_c6_takeThing_82 2 rfl ?_
                refine g_ineg K d_c6_takeThing_83 ?_
                exact hJ26 _ (by rw [if_pos c24])
              · refine g_iload_n K d_c6_takeThing_75 2 rfl ?_
                refine g_bipush (v := 48) K d_c6_takeThing_76 (by decide) ?_
                refine g_isub K d_c6_takeThing_78 ?_
                refine g_goto K d_c6_takeThing_79 ?_
                exact hJ26 _ (by rw [if_neg c24])
            refine g_if_eq K d_c6_takeThing_59 (fun c20 => ?_) (fun c20 => ?_)
            · refine g_iconst (v := 0) K d_c6_takeThing_66 (by decide) ?_
              exact hJ22 _ (by rw [if_pos c20])
            · refine g_iconst (v := 1) K d_c6_takeThing_62 (by decide) ?_
              refine g_goto K d_c6_takeThing_63 ?_
              exact hJ22 _ (by rw [if_neg c20])
          · rw [if_pos c19] at hy
            refine g_iconst (v := 0) K d_c6_takeThing_55 (by decide) ?_
            obtain ⟨w31, e_w31, hy⟩ := gBd hy
            obtain ⟨z_w31, n_w31⟩ := gZ_spec e_w31
            rw [z_w31]
            obtain rfl := Option.some.inj hy
            exact hret (gZn n_w31) _ _ _ d_c6_takeThing_56
      refine g_icmp_lt K d_c6_takeThing_29 (fun c3 => ?_) (fun c3 => ?_)
      · refine g_iconst (v := 0) K d_c6_takeThing_42 (by decide) ?_
        exact hJ5 _ (by rw [if_pos c3])
      · refine g_iload_n K d_c6_takeThing_32 1 rfl ?_
        refine g_bipush (v := 57) K d_c6_takeThing_33 (by decide) ?_
        refine g_icmp_gt K d_c6_takeThing_35 (fun c32 => ?_) (fun c32 => ?_)
        · refine g_iconst (v := 0) K d_c6_takeThing_42 (by decide) ?_
          exact hJ5 _ (by rw [if_neg c3, if_pos c32])
        · refine g_iconst (v := 1) K d_c6_takeThing_38 (by decide) ?_
          refine g_goto K d_c6_takeThing_39 ?_
          exact hJ5 _ (by rw [if_neg c3, if_neg c32])
    · rw [if_pos c2] at hy
      refine g_aload_n K d_c6_takeThing_21 0 rfl ?_
      obtain ⟨q33, e_q33, hy⟩ := gBd hy
      refine g_callVi (rest := []) K hx ly_c6_open kv_c6_61 d_c6_takeThing_22 (ct_c6_open M.2.1 X hx N a0 h q33 e_q33) rfl rfl (Nat.le_of_ble_eq_true rfl) (gDep rfl) ⟨Nat.le_refl 0, Nat.le_refl 0⟩ ?_
      obtain ⟨w34, e_w34, hy⟩ := gBd hy
      obtain ⟨z_w34, n_w34⟩ := gZ_spec e_w34
      rw [z_w34]
      obtain rfl := Option.some.inj hy
      exact hret (gZn n_w34) _ _ _ d_c6_takeThing_25
  · rw [if_pos c1] at hy
    refine g_aload_n K d_c6_takeThing_6 0 rfl ?_
    refine g_sipush (v := 256) K d_c6_takeThing_7 (by decide) ?_
    obtain ⟨q35, e_q35, hy⟩ := gBd hy
    refine g_callVv (rest := []) K hx ly_c6_hold kv_c6_58 d_c6_takeThing_10 (ct_c6_hold M.2.1 X hx N a0 (256 : Int32) h q35 e_q35) rfl rfl (Nat.le_of_ble_eq_true rfl) (gDep rfl) ⟨Nat.le_refl 0, Nat.le_refl 0⟩ ?_
    refine g_iconst (v := 1) K d_c6_takeThing_13 (by decide) ?_
    obtain ⟨w36, e_w36, hy⟩ := gBd hy
    obtain ⟨z_w36, n_w36⟩ := gZ_spec e_w36
    rw [z_w36]
    obtain rfl := Option.some.inj hy
    exact hret (gZn n_w36) _ _ _ d_c6_takeThing_14
-- c7 farApart
theorem d_c7_farApart_0 : gD b_c7_farApart 0 (.aload_n 1) 1 1 := ⟨by decide +kernel, rfl⟩
theorem d_c7_farApart_1 : gD b_c7_farApart 1 (.aload_n 0) 1 2 := ⟨by decide +kernel, rfl⟩
theorem d_c7_farApart_2 : gD b_c7_farApart 2 (.getfield 9) 3 5 := ⟨by decide +kernel, rfl⟩
theorem d_c7_farApart_5 : gD b_c7_farApart 5 (.iload_n 2) 1 6 := ⟨by decide +kernel, rfl⟩
theorem d_c7_farApart_6 : gD b_c7_farApart 6 .iaload 1 7 := ⟨by decide +kernel, rfl⟩
theorem d_c7_farApart_7 : gD b_c7_farApart 7 (.aload_n 0) 1 8 := ⟨by decide +kernel, rfl⟩
theorem d_c7_farApart_8 : gD b_c7_farApart 8 (.getfield 9) 3 11 := ⟨by decide +kernel, rfl⟩
theorem d_c7_farApart_11 : gD b_c7_farApart 11 (.iload_n 3) 1 12 := ⟨by decide +kernel, rfl⟩
theorem d_c7_farApart_12 : gD b_c7_farApart 12 .iaload 1 13 := ⟨by decide +kernel, rfl⟩
theorem d_c7_farApart_13 : gD b_c7_farApart 13 (.invokevirtual 61) 3 16 := ⟨by decide +kernel, rfl⟩
theorem d_c7_farApart_16 : gD b_c7_farApart 16 .ireturn 1 17 := ⟨by decide +kernel, rfl⟩
def f_c7_farApart (N : Nat) (a0 : Nat) (a1 : Nat) (x2 : Int32) (x3 : Int32) (h : gH) : Option (Int32) :=
  (gcl h a0 7).bind fun _ =>
  (gfR h a0 7 1).bind fun v1 =>
    (ga 0 h v1 x2).bind fun v2 =>
    (gfR h a0 7 1).bind fun v3 =>
    (ga 0 h v3 x3).bind fun v4 =>
    (f_c1_far N a1 v2 v4 h).bind fun q5 =>
    some q5
set_option maxHeartbeats 4000000 in
set_option maxRecDepth 100000 in
theorem ct_c7_farApart (l : Launch) (X : gX) (hx : gEx X = false) (N : Nat) (a0 : Nat) (a1 : Nat) (x2 : Int32) (x3 : Int32) (h : gH) (q : Int32) (hy : f_c7_farApart N a0 a1 x2 x3 h = some q) : gRc y_c7_farApart h a0 ∧ gMi l X y_c7_farApart b_c7_farApart 4 .int (3 + N) 0 0 [.ref a0, .ref a1, .int x2, .int x3] h q h := by
  unfold f_c7_farApart at hy
  obtain ⟨u0, e_u0, hy⟩ := gBd hy
  cases u0
  refine ⟨Or.inl ⟨7, _, _, e_u0, rfl⟩, gMet_i (lsx := [(0, .ref a0), (1, .ref a1), (2, .int x2), (3, .int x3)]) (by decide) rfl rfl ?_⟩
  intro M hMl K hret
  subst hMl
  refine g_aload_n K d_c7_farApart_0 1 rfl ?_
  refine g_aload_n K d_c7_farApart_1 0 rfl ?_
  obtain ⟨v1, e_v1, hy⟩ := gBd hy
  refine g_getR K fl_c7_9 d_c7_farApart_2 e_v1 ?_
  refine g_iload_n K d_c7_farApart_5 2 rfl ?_
  obtain ⟨v2, e_v2, hy⟩ := gBd hy
  refine g_iald K d_c7_farApart_6 e_v2 ?_
  refine g_aload_n K d_c7_farApart_7 0 rfl ?_
  obtain ⟨v3, e_v3, hy⟩ := gBd hy
  refine g_getR K fl_c7_9 d_c7_farApart_8 e_v3 ?_
  refine g_iload_n K d_c7_farApart_11 3 rfl ?_
  obtain ⟨v4, e_v4, hy⟩ := gBd hy
  refine g_iald K d_c7_farApart_12 e_v4 ?_
  obtain ⟨q5, e_q5, hy⟩ := gBd hy
  refine g_callVi (rest := []) K hx ly_c1_far kv_c7_61 d_c7_farApart_13 (ct_c1_far M.2.1 X hx N a1 v2 v4 h q5 e_q5) rfl rfl (Nat.le_of_ble_eq_true rfl) (gDep rfl) ⟨Nat.le_refl 0, Nat.le_refl 0⟩ ?_
  obtain rfl := Option.some.inj hy
  exact hret rfl _ _ _ d_c7_farApart_16
-- c7 hasWellNear
theorem d_c7_hasWellNear_0 : gD b_c7_hasWellNear 0 (.iconst 0) 1 1 := ⟨by decide +kernel, rfl⟩
theorem d_c7_hasWellNear_1 : gD b_c7_hasWellNear 1 (.istore 4) 2 3 := ⟨by decide +kernel, rfl⟩
theorem d_c7_hasWellNear_3 : gD b_c7_hasWellNear 3 (.iload 4) 2 5 := ⟨by decide +kernel, rfl⟩
theorem d_c7_hasWellNear_5 : gD b_c7_hasWellNear 5 (.aload_n 0) 1 6 := ⟨by decide +kernel, rfl⟩
theorem d_c7_hasWellNear_6 : gD b_c7_hasWellNear 6 (.getfield 27) 3 9 := ⟨by decide +kernel, rfl⟩
theorem d_c7_hasWellNear_9 : gJ b_c7_hasWellNear 9 (.if_icmp .ge 27) 3 27 12 36 := ⟨by decide +kernel, rfl, by decide⟩
theorem d_c7_hasWellNear_12 : gD b_c7_hasWellNear 12 (.aload_n 1) 1 13 := ⟨by decide +kernel, rfl⟩
theorem d_c7_hasWellNear_13 : gD b_c7_hasWellNear 13 (.iload_n 2) 1 14 := ⟨by decide +kernel, rfl⟩
theorem d_c7_hasWellNear_14 : gD b_c7_hasWellNear 14 (.aload_n 0) 1 15 := ⟨by decide +kernel, rfl⟩
theorem d_c7_hasWellNear_15 : gD b_c7_hasWellNear 15 (.getfield 9) 3 18 := ⟨by decide +kernel, rfl⟩
theorem d_c7_hasWellNear_18 : gD b_c7_hasWellNear 18 (.iload 4) 2 20 := ⟨by decide +kernel, rfl⟩
theorem d_c7_hasWellNear_20 : gD b_c7_hasWellNear 20 .iaload 1 21 := ⟨by decide +kernel, rfl⟩
theorem d_c7_hasWellNear_21 : gD b_c7_hasWellNear 21 (.invokevirtual 61) 3 24 := ⟨by decide +kernel, rfl⟩
theorem d_c7_hasWellNear_24 : gD b_c7_hasWellNear 24 (.iload_n 3) 1 25 := ⟨by decide +kernel, rfl⟩
theorem d_c7_hasWellNear_25 : gJ b_c7_hasWellNear 25 (.if_icmp .gt 5) 3 5 28 30 := ⟨by decide +kernel, rfl, by decide⟩
theorem d_c7_hasWellNear_28 : gD b_c7_hasWellNear 28 (.iconst 1) 1 29 := ⟨by decide +kernel, rfl⟩
theorem d_c7_hasWellNear_29 : gD b_c7_hasWellNear 29 .ireturn 1 30 := ⟨by decide +kernel, rfl⟩
theorem d_c7_hasWellNear_30 : gD b_c7_hasWellNear 30 (.iinc 4 1) 3 33 := ⟨by decide +kernel, rfl⟩
theorem d_c7_hasWellNear_33 : gJ b_c7_hasWellNear 33 (.goto (-30)) 3 (-30) 36 3 := ⟨by decide +kernel, rfl, by decide⟩
theorem d_c7_hasWellNear_36 : gD b_c7_hasWellNear 36 (.iconst 0) 1 37 := ⟨by decide +kernel, rfl⟩
theorem d_c7_hasWellNear_37 : gD b_c7_hasWellNear 37 .ireturn 1 38 := ⟨by decide +kernel, rfl⟩
def lp_c7_hasWellNear_3 (N : Nat) (a0 : Nat) (a1 : Nat) (x2 : Int32) (x3 : Int32) (h : gH) : Nat → Int32 → Option ((Int32) ⊕ (Unit))
  | 0, _ => none
  | k + 1, x4 =>
  (gfI h a0 7 0).bind fun v1 =>
    if v1 ≤ x4 then
    some (.inr ())
  else
    (gfR h a0 7 1).bind fun v3 =>
    (ga 0 h v3 x4).bind fun v4 =>
    (f_c1_far N a1 x2 v4 h).bind fun q5 =>
    if x3 < q5 then
    lp_c7_hasWellNear_3 N a0 a1 x2 x3 h k (x4 + (1 : Int32))
  else
    (gZ (1 : Int32)).bind fun w7 => some (.inl w7)
def f_c7_hasWellNear (N : Nat) (a0 : Nat) (a1 : Nat) (x2 : Int32) (x3 : Int32) (h : gH) : Option (Int32) :=
  (gcl h a0 7).bind fun _ =>
  (lp_c7_hasWellNear_3 N a0 a1 x2 x3 h N (0 : Int32)).bind fun o8 => Sum.elim (fun r10 => some r10) (fun t9 =>
    (gZ (0 : Int32)).bind fun w12 => some w12) o8
set_option maxHeartbeats 4000000 in
set_option maxRecDepth 100000 in
theorem wlp_c7_hasWellNear_3 {M : gM} {X : gX} {N : Nat} (hx : gEx X = false) (K : gC M X gN7 b_c7_hasWellNear 5 (gRm (3 + N) 0 0)) (a0 : Nat) (a1 : Nat) (x2 : Int32) (x3 : Int32) (h : gH) : ∀ (k : Nat) (x4 : Int32) (o : (Int32) ⊕ (Unit)), lp_c7_hasWellNear_3 N a0 a1 x2 x3 h k x4 = some o → (∀ t, o = .inr t → gG M X 5 0 0 36 [] [] h) → (∀ r, o = .inl r → (narrow .boolean (.int r) = .int r → ∀ pc pc' ls, gD b_c7_hasWellNear pc .ireturn 1 pc' → gG M X 5 0 0 pc ls [.int r] h)) → gG M X 5 0 0 3 [(0, .ref a0), (1, .ref a1), (2, .int x2), (3, .int x3), (4, .int x4)] [] h := by
  intro k
  induction k with
  | zero =>
    intro x4 o hy
    rw [lp_c7_hasWellNear_3.eq_1] at hy
    cases hy
  | succ k ih =>
    intro x4 o hy hE hR
    rw [lp_c7_hasWellNear_3.eq_2] at hy
    refine g_iload K d_c7_hasWellNear_3 4 rfl ?_
    refine g_aload_n K d_c7_hasWellNear_5 0 rfl ?_
    obtain ⟨v1, e_v1, hy⟩ := gBd hy
    refine g_getI K fl_c7_27 d_c7_hasWellNear_6 e_v1 ?_
    refine g_icmp_ge K d_c7_hasWellNear_9 (fun c2 => ?_) (fun c2 => ?_)
    · rw [if_pos c2] at hy
      refine g_sub (ls2 := []) [] rfl ?_
      obtain rfl := Option.some.inj hy
      exact hE _ rfl
    · rw [if_neg c2] at hy
      refine g_aload_n K d_c7_hasWellNear_12 1 rfl ?_
      refine g_iload_n K d_c7_hasWellNear_13 2 rfl ?_
      refine g_aload_n K d_c7_hasWellNear_14 0 rfl ?_
      obtain ⟨v3, e_v3, hy⟩ := gBd hy
      refine g_getR K fl_c7_9 d_c7_hasWellNear_15 e_v3 ?_
      refine g_iload K d_c7_hasWellNear_18 4 rfl ?_
      obtain ⟨v4, e_v4, hy⟩ := gBd hy
      refine g_iald K d_c7_hasWellNear_20 e_v4 ?_
      obtain ⟨q5, e_q5, hy⟩ := gBd hy
      refine g_callVi (rest := []) K hx ly_c1_far kv_c7_61 d_c7_hasWellNear_21 (ct_c1_far M.2.1 X hx N a1 x2 v4 h q5 e_q5) rfl rfl (Nat.le_of_ble_eq_true rfl) (gDep rfl) ⟨Nat.le_refl 0, Nat.le_refl 0⟩ ?_
      refine g_iload_n K d_c7_hasWellNear_24 3 rfl ?_
      refine g_icmp_gt K d_c7_hasWellNear_25 (fun c6 => ?_) (fun c6 => ?_)
      · rw [if_pos c6] at hy
        refine g_iinc (ls2 := [(4, .int (x4 + (1 : Int32))), (0, .ref a0), (1, .ref a1), (2, .int x2), (3, .int x3)]) (v := 1) K d_c7_hasWellNear_30 4 rfl (by decide) rfl rfl ?_
        refine g_goto K d_c7_hasWellNear_33 ?_
        refine g_sub (ls2 := [(0, .ref a0), (1, .ref a1), (2, .int x2), (3, .int x3), (4, .int (x4 + (1 : Int32)))]) [1, 2, 3, 4, 0] rfl ?_
        exact ih _ _ hy hE hR
      · rw [if_neg c6] at hy
        refine g_iconst (v := 1) K d_c7_hasWellNear_28 (by decide) ?_
        obtain ⟨w7, e_w7, hy⟩ := gBd hy
        obtain ⟨z_w7, n_w7⟩ := gZ_spec e_w7
        rw [z_w7]
        obtain rfl := Option.some.inj hy
        exact hR _ rfl (gZn n_w7) _ _ _ d_c7_hasWellNear_29
set_option maxHeartbeats 4000000 in
set_option maxRecDepth 100000 in
theorem ct_c7_hasWellNear (l : Launch) (X : gX) (hx : gEx X = false) (N : Nat) (a0 : Nat) (a1 : Nat) (x2 : Int32) (x3 : Int32) (h : gH) (q : Int32) (hy : f_c7_hasWellNear N a0 a1 x2 x3 h = some q) : gRc y_c7_hasWellNear h a0 ∧ gMi l X y_c7_hasWellNear b_c7_hasWellNear 5 .boolean (3 + N) 0 0 [.ref a0, .ref a1, .int x2, .int x3] h q h := by
  unfold f_c7_hasWellNear at hy
  obtain ⟨u0, e_u0, hy⟩ := gBd hy
  cases u0
  refine ⟨Or.inl ⟨7, _, _, e_u0, rfl⟩, gMet_i (lsx := [(0, .ref a0), (1, .ref a1), (2, .int x2), (3, .int x3)]) (by decide) rfl rfl ?_⟩
  intro M hMl K hret
  subst hMl
  refine g_iconst (v := 0) K d_c7_hasWellNear_0 (by decide) ?_
  refine g_istore (ls2 := [(4, .int (0 : Int32)), (0, .ref a0), (1, .ref a1), (2, .int x2), (3, .int x3)]) K d_c7_hasWellNear_1 rfl rfl ?_
  obtain ⟨o8, e_o8, hy⟩ := gBd hy
  refine g_sub (ls2 := [(0, .ref a0), (1, .ref a1), (2, .int x2), (3, .int x3), (4, .int (0 : Int32))]) [1, 2, 3, 4, 0] rfl ?_
  refine wlp_c7_hasWellNear_3 hx K a0 a1 x2 x3 h N (0 : Int32) o8 e_o8 (fun t9 e_t9 => ?_) (fun r10 e_r10 => ?_)
  · subst e_t9
    simp only [Sum.elim_inr] at hy
    refine g_iconst (v := 0) K d_c7_hasWellNear_36 (by decide) ?_
    obtain ⟨w12, e_w12, hy⟩ := gBd hy
    obtain ⟨z_w12, n_w12⟩ := gZ_spec e_w12
    rw [z_w12]
    obtain rfl := Option.some.inj hy
    exact hret (gZn n_w12) _ _ _ d_c7_hasWellNear_37
  · subst e_r10
    simp only [Sum.elim_inl] at hy
    intro hn pc9 pc9' ls9 hd9
    obtain rfl := Option.some.inj hy
    exact hret hn _ _ _ hd9
-- c7 nearestWater
theorem d_c7_nearestWater_0 : gD b_c7_nearestWater 0 (.iconst (-1)) 1 1 := ⟨by decide +kernel, rfl⟩
theorem d_c7_nearestWater_1 : gD b_c7_nearestWater 1 (.istore_n 3) 1 2 := ⟨by decide +kernel, rfl⟩
theorem d_c7_nearestWater_2 : gD b_c7_nearestWater 2 (.iconst 0) 1 3 := ⟨by decide +kernel, rfl⟩
theorem d_c7_nearestWater_3 : gD b_c7_nearestWater 3 (.istore 4) 2 5 := ⟨by decide +kernel, rfl⟩
theorem d_c7_nearestWater_5 : gD b_c7_nearestWater 5 (.iconst 0) 1 6 := ⟨by decide +kernel, rfl⟩
theorem d_c7_nearestWater_6 : gD b_c7_nearestWater 6 (.istore 5) 2 8 := ⟨by decide +kernel, rfl⟩
theorem d_c7_nearestWater_8 : gD b_c7_nearestWater 8 (.iload 5) 2 10 := ⟨by decide +kernel, rfl⟩
theorem d_c7_nearestWater_10 : gD b_c7_nearestWater 10 (.aload_n 0) 1 11 := ⟨by decide +kernel, rfl⟩
theorem d_c7_nearestWater_11 : gD b_c7_nearestWater 11 (.getfield 27) 3 14 := ⟨by decide +kernel, rfl⟩
theorem d_c7_nearestWater_14 : gJ b_c7_nearestWater 14 (.if_icmp .ge 54) 3 54 17 68 := ⟨by decide +kernel, rfl, by decide⟩
theorem d_c7_nearestWater_17 : gD b_c7_nearestWater 17 (.aload_n 0) 1 18 := ⟨by decide +kernel, rfl⟩
theorem d_c7_nearestWater_18 : gD b_c7_nearestWater 18 (.getfield 24) 3 21 := ⟨by decide +kernel, rfl⟩
theorem d_c7_nearestWater_21 : gD b_c7_nearestWater 21 (.iload 5) 2 23 := ⟨by decide +kernel, rfl⟩
theorem d_c7_nearestWater_23 : gD b_c7_nearestWater 23 .iaload 1 24 := ⟨by decide +kernel, rfl⟩
theorem d_c7_nearestWater_24 : gJ b_c7_nearestWater 24 (.ifCond .ne 6) 3 6 27 30 := ⟨by decide +kernel, rfl, by decide⟩
theorem d_c7_nearestWater_27 : gJ b_c7_nearestWater 27 (.goto 35) 3 35 30 62 := ⟨by decide +kernel, rfl, by decide⟩
theorem d_c7_nearestWater_30 : gD b_c7_nearestWater 30 (.aload_n 1) 1 31 := ⟨by decide +kernel, rfl⟩
theorem d_c7_nearestWater_31 : gD b_c7_nearestWater 31 (.iload_n 2) 1 32 := ⟨by decide +kernel, rfl⟩
theorem d_c7_nearestWater_32 : gD b_c7_nearestWater 32 (.aload_n 0) 1 33 := ⟨by decide +kernel, rfl⟩
theorem d_c7_nearestWater_33 : gD b_c7_nearestWater 33 (.getfield 9) 3 36 := ⟨by decide +kernel, rfl⟩
theorem d_c7_nearestWater_36 : gD b_c7_nearestWater 36 (.iload 5) 2 38 := ⟨by decide +kernel, rfl⟩
theorem d_c7_nearestWater_38 : gD b_c7_nearestWater 38 .iaload 1 39 := ⟨by decide +kernel, rfl⟩
theorem d_c7_nearestWater_39 : gD b_c7_nearestWater 39 (.invokevirtual 61) 3 42 := ⟨by decide +kernel, rfl⟩
theorem d_c7_nearestWater_42 : gD b_c7_nearestWater 42 (.istore 6) 2 44 := ⟨by decide +kernel, rfl⟩
theorem d_c7_nearestWater_44 : gD b_c7_nearestWater 44 (.iload_n 3) 1 45 := ⟨by decide +kernel, rfl⟩
theorem d_c7_nearestWater_45 : gJ b_c7_nearestWater 45 (.ifCond .lt 10) 3 10 48 55 := ⟨by decide +kernel, rfl, by decide⟩
theorem d_c7_nearestWater_48 : gD b_c7_nearestWater 48 (.iload 6) 2 50 := ⟨by decide +kernel, rfl⟩
theorem d_c7_nearestWater_50 : gD b_c7_nearestWater 50 (.iload 4) 2 52 := ⟨by decide +kernel, rfl⟩
theorem d_c7_nearestWater_52 : gJ b_c7_nearestWater 52 (.if_icmp .ge 10) 3 10 55 62 := ⟨by decide +kernel, rfl, by decide⟩
theorem d_c7_nearestWater_55 : gD b_c7_nearestWater 55 (.iload 5) 2 57 := ⟨by decide +kernel, rfl⟩
theorem d_c7_nearestWater_57 : gD b_c7_nearestWater 57 (.istore_n 3) 1 58 := ⟨by decide +kernel, rfl⟩
theorem d_c7_nearestWater_58 : gD b_c7_nearestWater 58 (.iload 6) 2 60 := ⟨by decide +kernel, rfl⟩
theorem d_c7_nearestWater_60 : gD b_c7_nearestWater 60 (.istore 4) 2 62 := ⟨by decide +kernel, rfl⟩
theorem d_c7_nearestWater_62 : gD b_c7_nearestWater 62 (.iinc 5 1) 3 65 := ⟨by decide +kernel, rfl⟩
theorem d_c7_nearestWater_65 : gJ b_c7_nearestWater 65 (.goto (-57)) 3 (-57) 68 8 := ⟨by decide +kernel, rfl, by decide⟩
theorem d_c7_nearestWater_68 : gD b_c7_nearestWater 68 (.iload_n 3) 1 69 := ⟨by decide +kernel, rfl⟩
theorem d_c7_nearestWater_69 : gD b_c7_nearestWater 69 .ireturn 1 70 := ⟨by decide +kernel, rfl⟩
def lp_c7_nearestWater_8 (N : Nat) (a0 : Nat) (a1 : Nat) (x2 : Int32) (h : gH) : Nat → Int32 → Int32 → Int32 → Option (Int32)
  | 0, _, _, _ => none
  | k + 1, x3, x4, x5 =>
  (gfI h a0 7 0).bind fun v1 =>
    if v1 ≤ x5 then
    some x3
  else
    (gfR h a0 7 5).bind fun v3 =>
    (ga 0 h v3 x5).bind fun v4 =>
    (show Option (Int32 × Int32) from if v4 = 0 then
    some (x3, x4)
  else
    (gfR h a0 7 1).bind fun v8 =>
    (ga 0 h v8 x5).bind fun v9 =>
    (f_c1_far N a1 x2 v9 h).bind fun q10 =>
    if x3 < 0 then
    some (x5, q10)
  else
    if x4 ≤ q10 then
    some (x3, x4)
  else
    some (x5, q10)).bind fun t6 =>
    lp_c7_nearestWater_8 N a0 a1 x2 h k t6.1 t6.2 (x5 + (1 : Int32))
def f_c7_nearestWater (N : Nat) (a0 : Nat) (a1 : Nat) (x2 : Int32) (h : gH) : Option (Int32) :=
  (gcl h a0 7).bind fun _ =>
  (lp_c7_nearestWater_8 N a0 a1 x2 h N (-1 : Int32) (0 : Int32) (0 : Int32)).bind fun o13 =>
    some o13
set_option maxHeartbeats 4000000 in
set_option maxRecDepth 100000 in
theorem wlp_c7_nearestWater_8 {M : gM} {X : gX} {N : Nat} (hx : gEx X = false) (K : gC M X gN7 b_c7_nearestWater 7 (gRm (3 + N) 0 0)) (a0 : Nat) (a1 : Nat) (x2 : Int32) (h : gH) : ∀ (k : Nat) (x3 : Int32) (x4 : Int32) (x5 : Int32) (o : Int32), lp_c7_nearestWater_8 N a0 a1 x2 h k x3 x4 x5 = some o → gG M X 7 0 0 68 [(3, .int o)] [] h → gG M X 7 0 0 8 [(0, .ref a0), (1, .ref a1), (2, .int x2), (3, .int x3), (4, .int x4), (5, .int x5)] [] h := by
  intro k
  induction k with
  | zero =>
    intro x3 x4 x5 o hy
    rw [lp_c7_nearestWater_8.eq_1] at hy
    cases hy
  | succ k ih =>
    intro x3 x4 x5 o hy hE
    rw [lp_c7_nearestWater_8.eq_2] at hy
    refine g_iload K d_c7_nearestWater_8 5 rfl ?_
    refine g_aload_n K d_c7_nearestWater_10 0 rfl ?_
    obtain ⟨v1, e_v1, hy⟩ := gBd hy
    refine g_getI K fl_c7_27 d_c7_nearestWater_11 e_v1 ?_
    refine g_icmp_ge K d_c7_nearestWater_14 (fun c2 => ?_) (fun c2 => ?_)
    · rw [if_pos c2] at hy
      refine g_sub (ls2 := [(3, .int x3)]) [3] rfl ?_
      obtain rfl := Option.some.inj hy
      exact hE
    · rw [if_neg c2] at hy
      refine g_aload_n K d_c7_nearestWater_17 0 rfl ?_
      obtain ⟨v3, e_v3, hy⟩ := gBd hy
      refine g_getR K fl_c7_24 d_c7_nearestWater_18 e_v3 ?_
      refine g_iload K d_c7_nearestWater_21 5 rfl ?_
      obtain ⟨v4, e_v4, hy⟩ := gBd hy
      refine g_iald K d_c7_nearestWater_23 e_v4 ?_
      obtain ⟨t6, e_t6, hy⟩ := gBd hy
      have hJ7 : gG M X 7 0 0 62 [(0, .ref a0), (1, .ref a1), (2, .int x2), (3, .int t6.1), (4, .int t6.2), (5, .int x5)] [] h := by
        refine g_iinc (ls2 := [(5, .int (x5 + (1 : Int32))), (0, .ref a0), (1, .ref a1), (2, .int x2), (3, .int t6.1), (4, .int t6.2)]) (v := 1) K d_c7_nearestWater_62 5 rfl (by decide) rfl rfl ?_
        refine g_goto K d_c7_nearestWater_65 ?_
        refine g_sub (ls2 := [(0, .ref a0), (1, .ref a1), (2, .int x2), (3, .int t6.1), (4, .int t6.2), (5, .int (x5 + (1 : Int32)))]) [1, 2, 3, 4, 5, 0] rfl ?_
        exact ih _ _ _ _ hy hE
      refine g_if_ne K d_c7_nearestWater_24 (fun c5 => ?_) (fun c5 => ?_)
      · rw [if_neg c5] at e_t6
        refine g_aload_n K d_c7_nearestWater_30 1 rfl ?_
        refine g_iload_n K d_c7_nearestWater_31 2 rfl ?_
        refine g_aload_n K d_c7_nearestWater_32 0 rfl ?_
        obtain ⟨v8, e_v8, e_t6⟩ := gBd e_t6
        refine g_getR K fl_c7_9 d_c7_nearestWater_33 e_v8 ?_
        refine g_iload K d_c7_nearestWater_36 5 rfl ?_
        obtain ⟨v9, e_v9, e_t6⟩ := gBd e_t6
        refine g_iald K d_c7_nearestWater_38 e_v9 ?_
        obtain ⟨q10, e_q10, e_t6⟩ := gBd e_t6
        refine g_callVi (rest := []) K hx ly_c1_far kv_c7_61 d_c7_nearestWater_39 (ct_c1_far M.2.1 X hx N a1 x2 v9 h q10 e_q10) rfl rfl (Nat.le_of_ble_eq_true rfl) (gDep rfl) ⟨Nat.le_refl 0, Nat.le_refl 0⟩ ?_
        refine g_istore (ls2 := [(6, .int q10), (0, .ref a0), (1, .ref a1), (2, .int x2), (3, .int x3), (4, .int x4), (5, .int x5)]) K d_c7_nearestWater_42 rfl rfl ?_
        refine g_iload_n K d_c7_nearestWater_44 4 rfl ?_
        refine g_if_lt K d_c7_nearestWater_45 (fun c11 => ?_) (fun c11 => ?_)
        · rw [if_pos c11] at e_t6
          refine g_iload K d_c7_nearestWater_55 6 rfl ?_
          refine g_istore_n (ls2 := [(3, .int x5), (6, .int q10), (0, .ref a0), (1, .ref a1), (2, .int x2), (4, .int x4), (5, .int x5)]) K d_c7_nearestWater_57 rfl rfl ?_
          refine g_iload K d_c7_nearestWater_58 1 rfl ?_
          refine g_istore (ls2 := [(4, .int q10), (3, .int x5), (6, .int q10), (0, .ref a0), (1, .ref a1), (2, .int x2), (5, .int x5)]) K d_c7_nearestWater_60 rfl rfl ?_
          refine g_sub (ls2 := [(0, .ref a0), (1, .ref a1), (2, .int x2), (3, .int x5), (4, .int q10), (5, .int x5)]) [3, 4, 5, 1, 0, 6] rfl ?_
          obtain rfl := Option.some.inj e_t6
          exact hJ7
        · rw [if_neg c11] at e_t6
          refine g_iload K d_c7_nearestWater_48 0 rfl ?_
          refine g_iload K d_c7_nearestWater_50 5 rfl ?_
          refine g_icmp_ge K d_c7_nearestWater_52 (fun c12 => ?_) (fun c12 => ?_)
          · rw [if_pos c12] at e_t6
            refine g_sub (ls2 := [(0, .ref a0), (1, .ref a1), (2, .int x2), (3, .int x3), (4, .int x4), (5, .int x5)]) [1, 2, 3, 4, 5, 6] rfl ?_
            obtain rfl := Option.some.inj e_t6
            exact hJ7
          · rw [if_neg c12] at e_t6
            refine g_iload K d_c7_nearestWater_55 6 rfl ?_
            refine g_istore_n (ls2 := [(3, .int x5), (6, .int q10), (0, .ref a0), (1, .ref a1), (2, .int x2), (4, .int x4), (5, .int x5)]) K d_c7_nearestWater_57 rfl rfl ?_
            refine g_iload K d_c7_nearestWater_58 1 rfl ?_
            refine g_istore (ls2 := [(4, .int q10), (3, .int x5), (6, .int q10), (0, .ref a0), (1, .ref a1), (2, .int x2), (5, .int x5)]) K d_c7_nearestWater_60 rfl rfl ?_
            refine g_sub (ls2 := [(0, .ref a0), (1, .ref a1), (2, .int x2), (3, .int x5), (4, .int q10), (5, .int x5)]) [3, 4, 5, 1, 0, 6] rfl ?_
            obtain rfl := Option.some.inj e_t6
            exact hJ7
      · rw [if_pos c5] at e_t6
        refine g_goto K d_c7_nearestWater_27 ?_
        obtain rfl := Option.some.inj e_t6
        exact hJ7
set_option maxHeartbeats 4000000 in
set_option maxRecDepth 100000 in
theorem ct_c7_nearestWater (l : Launch) (X : gX) (hx : gEx X = false) (N : Nat) (a0 : Nat) (a1 : Nat) (x2 : Int32) (h : gH) (q : Int32) (hy : f_c7_nearestWater N a0 a1 x2 h = some q) : gRc y_c7_nearestWater h a0 ∧ gMi l X y_c7_nearestWater b_c7_nearestWater 7 .int (3 + N) 0 0 [.ref a0, .ref a1, .int x2] h q h := by
  unfold f_c7_nearestWater at hy
  obtain ⟨u0, e_u0, hy⟩ := gBd hy
  cases u0
  refine ⟨Or.inl ⟨7, _, _, e_u0, rfl⟩, gMet_i (lsx := [(0, .ref a0), (1, .ref a1), (2, .int x2)]) (by decide) rfl rfl ?_⟩
  intro M hMl K hret
  subst hMl
  refine g_iconst (v := (-1)) K d_c7_nearestWater_0 (by decide) ?_
  refine g_istore_n (ls2 := [(3, .int (-1 : Int32)), (0, .ref a0), (1, .ref a1), (2, .int x2)]) K d_c7_nearestWater_1 rfl rfl ?_
  refine g_iconst (v := 0) K d_c7_nearestWater_2 (by decide) ?_
  refine g_istore (ls2 := [(4, .int (0 : Int32)), (3, .int (-1 : Int32)), (0, .ref a0), (1, .ref a1), (2, .int x2)]) K d_c7_nearestWater_3 rfl rfl ?_
  refine g_iconst (v := 0) K d_c7_nearestWater_5 (by decide) ?_
  refine g_istore (ls2 := [(5, .int (0 : Int32)), (4, .int (0 : Int32)), (3, .int (-1 : Int32)), (0, .ref a0), (1, .ref a1), (2, .int x2)]) K d_c7_nearestWater_6 rfl rfl ?_
  obtain ⟨o13, e_o13, hy⟩ := gBd hy
  refine g_sub (ls2 := [(0, .ref a0), (1, .ref a1), (2, .int x2), (3, .int (-1 : Int32)), (4, .int (0 : Int32)), (5, .int (0 : Int32))]) [3, 4, 5, 2, 1, 0] rfl ?_
  refine wlp_c7_nearestWater_8 hx K a0 a1 x2 h N (-1 : Int32) (0 : Int32) (0 : Int32) o13 e_o13 ?_
  refine g_iload_n K d_c7_nearestWater_68 0 rfl ?_
  obtain rfl := Option.some.inj hy
  exact hret rfl _ _ _ d_c7_nearestWater_69
-- c9 needFields
theorem d_c9_needFields_0 : gD b_c9_needFields 0 (.aload_n 1) 1 1 := ⟨by decide +kernel, rfl⟩
theorem d_c9_needFields_1 : gD b_c9_needFields 1 (.invokevirtual 21) 3 4 := ⟨by decide +kernel, rfl⟩
theorem d_c9_needFields_4 : gD b_c9_needFields 4 (.istore_n 3) 1 5 := ⟨by decide +kernel, rfl⟩
theorem d_c9_needFields_5 : gD b_c9_needFields 5 (.iconst 1) 1 6 := ⟨by decide +kernel, rfl⟩
theorem d_c9_needFields_6 : gD b_c9_needFields 6 (.aload_n 1) 1 7 := ⟨by decide +kernel, rfl⟩
theorem d_c9_needFields_7 : gD b_c9_needFields 7 (.getfield 27) 3 10 := ⟨by decide +kernel, rfl⟩
theorem d_c9_needFields_10 : gD b_c9_needFields 10 .ishl 1 11 := ⟨by decide +kernel, rfl⟩
theorem d_c9_needFields_11 : gD b_c9_needFields 11 (.istore 4) 2 13 := ⟨by decide +kernel, rfl⟩
theorem d_c9_needFields_13 : gD b_c9_needFields 13 (.iconst 0) 1 14 := ⟨by decide +kernel, rfl⟩
theorem d_c9_needFields_14 : gD b_c9_needFields 14 (.istore 5) 2 16 := ⟨by decide +kernel, rfl⟩
theorem d_c9_needFields_16 : gD b_c9_needFields 16 (.iload 5) 2 18 := ⟨by decide +kernel, rfl⟩
theorem d_c9_needFields_18 : gD b_c9_needFields 18 (.iload 4) 2 20 := ⟨by decide +kernel, rfl⟩
theorem d_c9_needFields_20 : gJ b_c9_needFields 20 (.if_icmp .ge 32) 3 32 23 52 := ⟨by decide +kernel, rfl, by decide⟩
theorem d_c9_needFields_23 : gD b_c9_needFields 23 (.aload_n 0) 1 24 := ⟨by decide +kernel, rfl⟩
theorem d_c9_needFields_24 : gD b_c9_needFields 24 (.getfield 18) 3 27 := ⟨by decide +kernel, rfl⟩
theorem d_c9_needFields_27 : gD b_c9_needFields 27 (.iload_n 3) 1 28 := ⟨by decide +kernel, rfl⟩
theorem d_c9_needFields_28 : gD b_c9_needFields 28 (.bipush 64) 2 30 := ⟨by decide +kernel, rfl⟩
theorem d_c9_needFields_30 : gD b_c9_needFields 30 .imul 1 31 := ⟨by decide +kernel, rfl⟩
theorem d_c9_needFields_31 : gD b_c9_needFields 31 (.iload 5) 2 33 := ⟨by decide +kernel, rfl⟩
theorem d_c9_needFields_33 : gD b_c9_needFields 33 .iadd 1 34 := ⟨by decide +kernel, rfl⟩
theorem d_c9_needFields_34 : gD b_c9_needFields 34 (.iload 5) 2 36 := ⟨by decide +kernel, rfl⟩
theorem d_c9_needFields_36 : gJ b_c9_needFields 36 (.ifCond .ne 7) 3 7 39 43 := ⟨by decide +kernel, rfl, by decide⟩
theorem d_c9_needFields_39 : gD b_c9_needFields 39 (.iconst 0) 1 40 := ⟨by decide +kernel, rfl⟩
theorem d_c9_needFields_40 : gJ b_c9_needFields 40 (.goto 5) 3 5 43 45 := ⟨by decide +kernel, rfl, by decide⟩
theorem d_c9_needFields_43 : gD b_c9_needFields 43 (.bipush 36) 2 45 := ⟨by decide +kernel, rfl⟩
theorem d_c9_needFields_45 : gD b_c9_needFields 45 .iastore 1 46 := ⟨by decide +kernel, rfl⟩
theorem d_c9_needFields_46 : gD b_c9_needFields 46 (.iinc 5 1) 3 49 := ⟨by decide +kernel, rfl⟩
theorem d_c9_needFields_49 : gJ b_c9_needFields 49 (.goto (-33)) 3 (-33) 52 16 := ⟨by decide +kernel, rfl, by decide⟩
theorem d_c9_needFields_52 : gD b_c9_needFields 52 (.iload_n 3) 1 53 := ⟨by decide +kernel, rfl⟩
theorem d_c9_needFields_53 : gD b_c9_needFields 53 (.iconst 1) 1 54 := ⟨by decide +kernel, rfl⟩
theorem d_c9_needFields_54 : gD b_c9_needFields 54 .isub 1 55 := ⟨by decide +kernel, rfl⟩
theorem d_c9_needFields_55 : gD b_c9_needFields 55 (.istore 5) 2 57 := ⟨by decide +kernel, rfl⟩
theorem d_c9_needFields_57 : gD b_c9_needFields 57 (.iload 5) 2 59 := ⟨by decide +kernel, rfl⟩
theorem d_c9_needFields_59 : gJ b_c9_needFields 59 (.ifCond .lt 138) 3 138 62 197 := ⟨by decide +kernel, rfl, by decide⟩
theorem d_c9_needFields_62 : gD b_c9_needFields 62 (.aload_n 0) 1 63 := ⟨by decide +kernel, rfl⟩
theorem d_c9_needFields_63 : gD b_c9_needFields 63 (.getfield 15) 3 66 := ⟨by decide +kernel, rfl⟩
theorem d_c9_needFields_66 : gD b_c9_needFields 66 (.iload 5) 2 68 := ⟨by decide +kernel, rfl⟩
theorem d_c9_needFields_68 : gD b_c9_needFields 68 (.iconst 0) 1 69 := ⟨by decide +kernel, rfl⟩
theorem d_c9_needFields_69 : gD b_c9_needFields 69 .iastore 1 70 := ⟨by decide +kernel, rfl⟩
theorem d_c9_needFields_70 : gD b_c9_needFields 70 (.iconst 0) 1 71 := ⟨by decide +kernel, rfl⟩
theorem d_c9_needFields_71 : gD b_c9_needFields 71 (.istore 6) 2 73 := ⟨by decide +kernel, rfl⟩
theorem d_c9_needFields_73 : gD b_c9_needFields 73 (.iload 6) 2 75 := ⟨by decide +kernel, rfl⟩
theorem d_c9_needFields_75 : gD b_c9_needFields 75 (.aload_n 1) 1 76 := ⟨by decide +kernel, rfl⟩
theorem d_c9_needFields_76 : gD b_c9_needFields 76 (.getfield 27) 3 79 := ⟨by decide +kernel, rfl⟩
theorem d_c9_needFields_79 : gJ b_c9_needFields 79 (.if_icmp .ge 44) 3 44 82 123 := ⟨by decide +kernel, rfl, by decide⟩
theorem d_c9_needFields_82 : gD b_c9_needFields 82 (.aload_n 0) 1 83 := ⟨by decide +kernel, rfl⟩
theorem d_c9_needFields_83 : gD b_c9_needFields 83 (.getfield 15) 3 86 := ⟨by decide +kernel, rfl⟩
theorem d_c9_needFields_86 : gD b_c9_needFields 86 (.iload 5) 2 88 := ⟨by decide +kernel, rfl⟩
theorem d_c9_needFields_88 : gD b_c9_needFields 88 .dup2 1 89 := ⟨by decide +kernel, rfl⟩
theorem d_c9_needFields_89 : gD b_c9_needFields 89 .iaload 1 90 := ⟨by decide +kernel, rfl⟩
theorem d_c9_needFields_90 : gD b_c9_needFields 90 (.aload_n 1) 1 91 := ⟨by decide +kernel, rfl⟩
theorem d_c9_needFields_91 : gD b_c9_needFields 91 (.iload 5) 2 93 := ⟨by decide +kernel, rfl⟩
theorem d_c9_needFields_93 : gD b_c9_needFields 93 (.aload_n 1) 1 94 := ⟨by decide +kernel, rfl⟩
theorem d_c9_needFields_94 : gD b_c9_needFields 94 (.getfield 31) 3 97 := ⟨by decide +kernel, rfl⟩
theorem d_c9_needFields_97 : gD b_c9_needFields 97 (.iload 6) 2 99 := ⟨by decide +kernel, rfl⟩
theorem d_c9_needFields_99 : gD b_c9_needFields 99 .iaload 1 100 := ⟨by decide +kernel, rfl⟩
theorem d_c9_needFields_100 : gD b_c9_needFields 100 (.invokevirtual 34) 3 103 := ⟨by decide +kernel, rfl⟩
theorem d_c9_needFields_103 : gD b_c9_needFields 103 (.iload_n 2) 1 104 := ⟨by decide +kernel, rfl⟩
theorem d_c9_needFields_104 : gJ b_c9_needFields 104 (.if_icmp .gt 10) 3 10 107 114 := ⟨by decide +kernel, rfl, by decide⟩
theorem d_c9_needFields_107 : gD b_c9_needFields 107 (.iconst 1) 1 108 := ⟨by decide +kernel, rfl⟩
theorem d_c9_needFields_108 : gD b_c9_needFields 108 (.iload 6) 2 110 := ⟨by decide +kernel, rfl⟩
theorem d_c9_needFields_110 : gD b_c9_needFields 110 .ishl 1 111 := ⟨by decide +kernel, rfl⟩
theorem d_c9_needFields_111 : gJ b_c9_needFields 111 (.goto 4) 3 4 114 115 := ⟨by decide +kernel, rfl, by decide⟩
theorem d_c9_needFields_114 : gD b_c9_needFields 114 (.iconst 0) 1 115 := ⟨by decide +kernel, rfl⟩
theorem d_c9_needFields_115 : gD b_c9_needFields 115 .ior 1 116 := ⟨by decide +kernel, rfl⟩
theorem d_c9_needFields_116 : gD b_c9_needFields 116 .iastore 1 117 := ⟨by decide +kernel, rfl⟩
theorem d_c9_needFields_117 : gD b_c9_needFields 117 (.iinc 6 1) 3 120 := ⟨by decide +kernel, rfl⟩
theorem d_c9_needFields_120 : gJ b_c9_needFields 120 (.goto (-47)) 3 (-47) 123 73 := ⟨by decide +kernel, rfl, by decide⟩
theorem d_c9_needFields_123 : gD b_c9_needFields 123 (.iconst 0) 1 124 := ⟨by decide +kernel, rfl⟩
theorem d_c9_needFields_124 : gD b_c9_needFields 124 (.istore 6) 2 126 := ⟨by decide +kernel, rfl⟩
theorem d_c9_needFields_126 : gD b_c9_needFields 126 (.iload 6) 2 128 := ⟨by decide +kernel, rfl⟩
theorem d_c9_needFields_128 : gD b_c9_needFields 128 (.iload 4) 2 130 := ⟨by decide +kernel, rfl⟩
theorem d_c9_needFields_130 : gJ b_c9_needFields 130 (.if_icmp .ge 61) 3 61 133 191 := ⟨by decide +kernel, rfl, by decide⟩
theorem d_c9_needFields_133 : gD b_c9_needFields 133 (.iconst 1) 1 134 := ⟨by decide +kernel, rfl⟩
theorem d_c9_needFields_134 : gD b_c9_needFields 134 (.aload_n 0) 1 135 := ⟨by decide +kernel, rfl⟩
theorem d_c9_needFields_135 : gD b_c9_needFields 135 (.iload 5) 2 137 := ⟨by decide +kernel, rfl⟩
theorem d_c9_needFields_137 : gD b_c9_needFields 137 (.iconst 1) 1 138 := ⟨by decide +kernel, rfl⟩
theorem d_c9_needFields_138 : gD b_c9_needFields 138 .iadd 1 139 := ⟨by decide +kernel, rfl⟩
theorem d_c9_needFields_139 : gD b_c9_needFields 139 (.iload 6) 2 141 := ⟨by decide +kernel, rfl⟩
theorem d_c9_needFields_141 : gD b_c9_needFields 141 (.aload_n 0) 1 142 := ⟨by decide +kernel, rfl⟩
theorem d_c9_needFields_142 : gD b_c9_needFields 142 (.getfield 15) 3 145 := ⟨by decide +kernel, rfl⟩
theorem d_c9_needFields_145 : gD b_c9_needFields 145 (.iload 5) 2 147 := ⟨by decide +kernel, rfl⟩
theorem d_c9_needFields_147 : gD b_c9_needFields 147 .iaload 1 148 := ⟨by decide +kernel, rfl⟩
theorem d_c9_needFields_148 : gD b_c9_needFields 148 (.iconst (-1)) 1 149 := ⟨by decide +kernel, rfl⟩
theorem d_c9_needFields_149 : gD b_c9_needFields 149 .ixor 1 150 := ⟨by decide +kernel, rfl⟩
theorem d_c9_needFields_150 : gD b_c9_needFields 150 .iand 1 151 := ⟨by decide +kernel, rfl⟩
theorem d_c9_needFields_151 : gD b_c9_needFields 151 (.invokevirtual 38) 3 154 := ⟨by decide +kernel, rfl⟩
theorem d_c9_needFields_154 : gD b_c9_needFields 154 .iadd 1 155 := ⟨by decide +kernel, rfl⟩
theorem d_c9_needFields_155 : gD b_c9_needFields 155 (.istore 7) 2 157 := ⟨by decide +kernel, rfl⟩
theorem d_c9_needFields_157 : gD b_c9_needFields 157 (.aload_n 0) 1 158 := ⟨by decide +kernel, rfl⟩
theorem d_c9_needFields_158 : gD b_c9_needFields 158 (.getfield 18) 3 161 := ⟨by decide +kernel, rfl⟩
theorem d_c9_needFields_161 : gD b_c9_needFields 161 (.iload 5) 2 163 := ⟨by decide +kernel, rfl⟩
theorem d_c9_needFields_163 : gD b_c9_needFields 163 (.bipush 64) 2 165 := ⟨by decide +kernel, rfl⟩
theorem d_c9_needFields_165 : gD b_c9_needFields 165 .imul 1 166 := ⟨by decide +kernel, rfl⟩
theorem d_c9_needFields_166 : gD b_c9_needFields 166 (.iload 6) 2 168 := ⟨by decide +kernel, rfl⟩
theorem d_c9_needFields_168 : gD b_c9_needFields 168 .iadd 1 169 := ⟨by decide +kernel, rfl⟩
theorem d_c9_needFields_169 : gD b_c9_needFields 169 (.aload_n 0) 1 170 := ⟨by decide +kernel, rfl⟩
theorem d_c9_needFields_170 : gD b_c9_needFields 170 (.iload 5) 2 172 := ⟨by decide +kernel, rfl⟩
theorem d_c9_needFields_172 : gD b_c9_needFields 172 (.iconst 1) 1 173 := ⟨by decide +kernel, rfl⟩
theorem d_c9_needFields_173 : gD b_c9_needFields 173 .iadd 1 174 := ⟨by decide +kernel, rfl⟩
theorem d_c9_needFields_174 : gD b_c9_needFields 174 (.iload 6) 2 176 := ⟨by decide +kernel, rfl⟩
theorem d_c9_needFields_176 : gD b_c9_needFields 176 (.invokevirtual 38) 3 179 := ⟨by decide +kernel, rfl⟩
theorem d_c9_needFields_179 : gD b_c9_needFields 179 (.iload 7) 2 181 := ⟨by decide +kernel, rfl⟩
theorem d_c9_needFields_181 : gD b_c9_needFields 181 (.invokestatic 41) 3 184 := ⟨by decide +kernel, rfl⟩
theorem d_c9_needFields_184 : gD b_c9_needFields 184 .iastore 1 185 := ⟨by decide +kernel, rfl⟩
theorem d_c9_needFields_185 : gD b_c9_needFields 185 (.iinc 6 1) 3 188 := ⟨by decide +kernel, rfl⟩
theorem d_c9_needFields_188 : gJ b_c9_needFields 188 (.goto (-62)) 3 (-62) 191 126 := ⟨by decide +kernel, rfl, by decide⟩
theorem d_c9_needFields_191 : gD b_c9_needFields 191 (.iinc 5 (-1)) 3 194 := ⟨by decide +kernel, rfl⟩
theorem d_c9_needFields_194 : gJ b_c9_needFields 194 (.goto (-137)) 3 (-137) 197 57 := ⟨by decide +kernel, rfl, by decide⟩
theorem d_c9_needFields_197 : gD b_c9_needFields 197 .return_ 1 198 := ⟨by decide +kernel, rfl⟩
def lp_c9_needFields_16 (N : Nat) (a0 : Nat) (x3 : Int32) (x4 : Int32) : Nat → Int32 → gH → Option (gH)
  | 0, _, _ => none
  | k + 1, x5, h =>
  if x4 ≤ x5 then
    some h
  else
    (gfR h a0 9 2).bind fun v4 =>
    (sa 0 h v4 ((x3 * (64 : Int32)) + x5) (if x5 = 0 then (0 : Int32) else (36 : Int32))).bind fun h8 =>
    lp_c9_needFields_16 N a0 x3 x4 k (x5 + (1 : Int32)) h8
def lp_c9_needFields_73 (N : Nat) (a0 : Nat) (a1 : Nat) (x2 : Int32) (x5 : Int32) : Nat → Int32 → gH → Option (gH)
  | 0, _, _ => none
  | k + 1, x6, h =>
  (gfI h a1 1 2).bind fun v13 =>
    if v13 ≤ x6 then
    some h
  else
    (gfR h a0 9 1).bind fun v15 =>
    (ga 0 h v15 x5).bind fun v16 =>
    (gfR h a1 1 3).bind fun v17 =>
    (ga 0 h v17 x6).bind fun v18 =>
    (f_c1_far N a1 x5 v18 h).bind fun q19 =>
    (sa 0 h v15 x5 (v16 ||| (if x2 < q19 then (0 : Int32) else (1 : Int32) <<< (x6 &&& 31)))).bind fun h23 =>
    lp_c9_needFields_73 N a0 a1 x2 x5 k (x6 + (1 : Int32)) h23
def lp_c9_needFields_126 (N : Nat) (a0 : Nat) (x4 : Int32) (x5 : Int32) : Nat → Int32 → gH → Option (gH)
  | 0, _, _ => none
  | k + 1, x6, h =>
  if x4 ≤ x6 then
    some h
  else
    (gfR h a0 9 1).bind fun v26 =>
    (ga 0 h v26 x5).bind fun v27 =>
    (f_c9_needed N a0 (x5 + (1 : Int32)) (x6 &&& (v27 ^^^ (-1 : Int32))) h).bind fun q28 =>
    (gfR h a0 9 2).bind fun v29 =>
    (f_c9_needed N a0 (x5 + (1 : Int32)) x6 h).bind fun q30 =>
    (sa 0 h v29 ((x5 * (64 : Int32)) + x6) (gmin q30 ((1 : Int32) + q28))).bind fun h31 =>
    lp_c9_needFields_126 N a0 x4 x5 k (x6 + (1 : Int32)) h31
def lp_c9_needFields_57 (N : Nat) (a0 : Nat) (a1 : Nat) (x2 : Int32) (x4 : Int32) : Nat → Int32 → gH → Option (gH)
  | 0, _, _ => none
  | k + 1, x5, h =>
  if x5 < 0 then
    some h
  else
    (gfR h a0 9 1).bind fun v11 =>
    (sa 0 h v11 x5 (0 : Int32)).bind fun h12 =>
    (lp_c9_needFields_73 N a0 a1 x2 x5 N (0 : Int32) h12).bind fun o24 =>
    (lp_c9_needFields_126 N a0 x4 x5 N (0 : Int32) o24).bind fun o32 =>
    lp_c9_needFields_57 N a0 a1 x2 x4 k (x5 + (-1 : Int32)) o32
def f_c9_needFields (N : Nat) (a0 : Nat) (a1 : Nat) (x2 : Int32) (h : gH) : Option (gH) :=
  (gcl h a0 9).bind fun _ =>
  (f_c1_fields N a1 h).bind fun q1 =>
    (gfI h a1 1 2).bind fun v2 =>
    (lp_c9_needFields_16 N a0 q1 ((1 : Int32) <<< (v2 &&& 31)) N (0 : Int32) h).bind fun o9 =>
    (lp_c9_needFields_57 N a0 a1 x2 ((1 : Int32) <<< (v2 &&& 31)) N (q1 - (1 : Int32)) o9).bind fun o33 =>
    some o33
set_option maxHeartbeats 4000000 in
set_option maxRecDepth 100000 in
theorem wlp_c9_needFields_16 {M : gM} {X : gX} {N : Nat} (hx : gEx X = false) (K : gC M X gN9 b_c9_needFields 8 (gRm (3 + N) 0 0)) (a0 : Nat) (x3 : Int32) (x4 : Int32) (a1 : Nat) (x2 : Int32) : ∀ (k : Nat) (x5 : Int32) (h : gH) (o : gH), lp_c9_needFields_16 N a0 x3 x4 k x5 h = some o → gG M X 8 0 0 52 [(0, .ref a0), (1, .ref a1), (2, .int x2), (3, .int x3), (4, .int x4)] [] o → gG M X 8 0 0 16 [(0, .ref a0), (1, .ref a1), (2, .int x2), (3, .int x3), (4, .int x4), (5, .int x5)] [] h := by
  intro k
  induction k with
  | zero =>
    intro x5 h o hy
    rw [lp_c9_needFields_16.eq_1] at hy
    cases hy
  | succ k ih =>
    intro x5 h o hy hE
    rw [lp_c9_needFields_16.eq_2] at hy
    refine g_iload K d_c9_needFields_16 5 rfl ?_
    refine g_iload K d_c9_needFields_18 4 rfl ?_
    refine g_icmp_ge K d_c9_needFields_20 (fun c3 => ?_) (fun c3 => ?_)
    · rw [if_pos c3] at hy
      refine g_sub (ls2 := [(0, .ref a0), (1, .ref a1), (2, .int x2), (3, .int x3), (4, .int x4)]) [0, 1, 2, 3, 4] rfl ?_
      obtain rfl := Option.some.inj hy
      exact hE
    · rw [if_neg c3] at hy
      refine g_aload_n K d_c9_needFields_23 0 rfl ?_
      obtain ⟨v4, e_v4, hy⟩ := gBd hy
      refine g_getR K fl_c9_18 d_c9_needFields_24 e_v4 ?_
      refine g_iload_n K d_c9_needFields_27 3 rfl ?_
      refine g_bipush (v := 64) K d_c9_needFields_28 (by decide) ?_
      refine g_imul K d_c9_needFields_30 ?_
      refine g_iload K d_c9_needFields_31 5 rfl ?_
      refine g_iadd K d_c9_needFields_33 ?_
      refine g_iload K d_c9_needFields_34 5 rfl ?_
      have hJ7 : ∀ w6 : Int32, w6 = (if x5 = 0 then (0 : Int32) else (36 : Int32)) → gG M X 8 0 0 45 [(0, .ref a0), (1, .ref a1), (2, .int x2), (3, .int x3), (4, .int x4), (5, .int x5)] [.int w6, .int ((x3 * (64 : Int32)) + x5), .ref v4] h := by
        intro w6 e_w6
        subst e_w6
        obtain ⟨h8, e_h8, hy⟩ := gBd hy
        refine g_iast K d_c9_needFields_45 e_h8 ?_
        refine g_iinc (ls2 := [(5, .int (x5 + (1 : Int32))), (0, .ref a0), (1, .ref a1), (2, .int x2), (3, .int x3), (4, .int x4)]) (v := 1) K d_c9_needFields_46 5 rfl (by decide) rfl rfl ?_
        refine g_goto K d_c9_needFields_49 ?_
        refine g_sub (ls2 := [(0, .ref a0), (1, .ref a1), (2, .int x2), (3, .int x3), (4, .int x4), (5, .int (x5 + (1 : Int32)))]) [1, 2, 3, 4, 5, 0] rfl ?_
        exact ih _ _ _ hy hE
      refine g_if_ne K d_c9_needFields_36 (fun c5 => ?_) (fun c5 => ?_)
      · refine g_bipush (v := 36) K d_c9_needFields_43 (by decide) ?_
        exact hJ7 _ (by rw [if_neg c5])
      · refine g_iconst (v := 0) K d_c9_needFields_39 (by decide) ?_
        refine g_goto K d_c9_needFields_40 ?_
        exact hJ7 _ (by rw [if_pos c5])
set_option maxHeartbeats 4000000 in
set_option maxRecDepth 100000 in
theorem wlp_c9_needFields_73 {M : gM} {X : gX} {N : Nat} (hx : gEx X = false) (K : gC M X gN9 b_c9_needFields 8 (gRm (3 + N) 0 0)) (a0 : Nat) (a1 : Nat) (x2 : Int32) (x5 : Int32) (x4 : Int32) : ∀ (k : Nat) (x6 : Int32) (h : gH) (o : gH), lp_c9_needFields_73 N a0 a1 x2 x5 k x6 h = some o → gG M X 8 0 0 123 [(0, .ref a0), (1, .ref a1), (2, .int x2), (4, .int x4), (5, .int x5)] [] o → gG M X 8 0 0 73 [(0, .ref a0), (1, .ref a1), (2, .int x2), (4, .int x4), (5, .int x5), (6, .int x6)] [] h := by
  intro k
  induction k with
  | zero =>
    intro x6 h o hy
    rw [lp_c9_needFields_73.eq_1] at hy
    cases hy
  | succ k ih =>
    intro x6 h o hy hE
    rw [lp_c9_needFields_73.eq_2] at hy
    refine g_iload K d_c9_needFields_73 5 rfl ?_
    refine g_aload_n K d_c9_needFields_75 1 rfl ?_
    obtain ⟨v13, e_v13, hy⟩ := gBd hy
    refine g_getI K fl_c9_27 d_c9_needFields_76 e_v13 ?_
    refine g_icmp_ge K d_c9_needFields_79 (fun c14 => ?_) (fun c14 => ?_)
    · rw [if_pos c14] at hy
      refine g_sub (ls2 := [(0, .ref a0), (1, .ref a1), (2, .int x2), (4, .int x4), (5, .int x5)]) [0, 1, 2, 3, 4] rfl ?_
      obtain rfl := Option.some.inj hy
      exact hE
    · rw [if_neg c14] at hy
      refine g_aload_n K d_c9_needFields_82 0 rfl ?_
      obtain ⟨v15, e_v15, hy⟩ := gBd hy
      refine g_getR K fl_c9_15 d_c9_needFields_83 e_v15 ?_
      refine g_iload K d_c9_needFields_86 4 rfl ?_
      refine g_dup2 K d_c9_needFields_88 rfl rfl ?_
      obtain ⟨v16, e_v16, hy⟩ := gBd hy
      refine g_iald K d_c9_needFields_89 e_v16 ?_
      refine g_aload_n K d_c9_needFields_90 1 rfl ?_
      refine g_iload K d_c9_needFields_91 4 rfl ?_
      refine g_aload_n K d_c9_needFields_93 1 rfl ?_
      obtain ⟨v17, e_v17, hy⟩ := gBd hy
      refine g_getR K fl_c9_31 d_c9_needFields_94 e_v17 ?_
      refine g_iload K d_c9_needFields_97 5 rfl ?_
      obtain ⟨v18, e_v18, hy⟩ := gBd hy
      refine g_iald K d_c9_needFields_99 e_v18 ?_
      obtain ⟨q19, e_q19, hy⟩ := gBd hy
      refine g_callVi (rest := [.int v16, .int x5, .ref v15]) K hx ly_c1_far kv_c9_34 d_c9_needFields_100 (ct_c1_far M.2.1 X hx N a1 x5 v18 h q19 e_q19) rfl rfl (Nat.le_of_ble_eq_true rfl) (gDep rfl) ⟨Nat.le_refl 0, Nat.le_refl 0⟩ ?_
      refine g_iload_n K d_c9_needFields_103 2 rfl ?_
      have hJ22 : ∀ w21 : Int32, w21 = (if x2 < q19 then (0 : Int32) else (1 : Int32) <<< (x6 &&& 31)) → gG M X 8 0 0 115 [(0, .ref a0), (1, .ref a1), (2, .int x2), (4, .int x4), (5, .int x5), (6, .int x6)] [.int w21, .int v16, .int x5, .ref v15] h := by
        intro w21 e_w21
        subst e_w21
        refine g_ior K d_c9_needFields_115 ?_
        obtain ⟨h23, e_h23, hy⟩ := gBd hy
        refine g_iast K d_c9_needFields_116 e_h23 ?_
        refine g_iinc (ls2 := [(6, .int (x6 + (1 : Int32))), (0, .ref a0), (1, .ref a1), (2, .int x2), (4, .int x4), (5, .int x5)]) (v := 1) K d_c9_needFields_117 5 rfl (by decide) rfl rfl ?_
        refine g_goto K d_c9_needFields_120 ?_
        refine g_sub (ls2 := [(0, .ref a0), (1, .ref a1), (2, .int x2), (4, .int x4), (5, .int x5), (6, .int (x6 + (1 : Int32)))]) [1, 2, 3, 4, 5, 0] rfl ?_
        exact ih _ _ _ hy hE
      refine g_icmp_gt K d_c9_needFields_104 (fun c20 => ?_) (fun c20 => ?_)
      · refine g_iconst (v := 0) K d_c9_needFields_114 (by decide) ?_
        exact hJ22 _ (by rw [if_pos c20])
      · refine g_iconst (v := 1) K d_c9_needFields_107 (by decide) ?_
        refine g_iload K d_c9_needFields_108 5 rfl ?_
        refine g_ishl K d_c9_needFields_110 ?_
        refine g_goto K d_c9_needFields_111 ?_
        exact hJ22 _ (by rw [if_neg c20])
set_option maxHeartbeats 4000000 in
set_option maxRecDepth 100000 in
theorem wlp_c9_needFields_126 {M : gM} {X : gX} {N : Nat} (hx : gEx X = false) (K : gC M X gN9 b_c9_needFields 8 (gRm (3 + N) 0 0)) (a0 : Nat) (x4 : Int32) (x5 : Int32) (a1 : Nat) (x2 : Int32) : ∀ (k : Nat) (x6 : Int32) (h : gH) (o : gH), lp_c9_needFields_126 N a0 x4 x5 k x6 h = some o → gG M X 8 0 0 191 [(0, .ref a0), (1, .ref a1), (2, .int x2), (4, .int x4), (5, .int x5)] [] o → gG M X 8 0 0 126 [(0, .ref a0), (1, .ref a1), (2, .int x2), (4, .int x4), (5, .int x5), (6, .int x6)] [] h := by
  intro k
  induction k with
  | zero =>
    intro x6 h o hy
    rw [lp_c9_needFields_126.eq_1] at hy
    cases hy
  | succ k ih =>
    intro x6 h o hy hE
    rw [lp_c9_needFields_126.eq_2] at hy
    refine g_iload K d_c9_needFields_126 5 rfl ?_
    refine g_iload K d_c9_needFields_128 3 rfl ?_
    refine g_icmp_ge K d_c9_needFields_130 (fun c25 => ?_) (fun c25 => ?_)
    · rw [if_pos c25] at hy
      refine g_sub (ls2 := [(0, .ref a0), (1, .ref a1), (2, .int x2), (4, .int x4), (5, .int x5)]) [0, 1, 2, 3, 4] rfl ?_
      obtain rfl := Option.some.inj hy
      exact hE
    · rw [if_neg c25] at hy
      refine g_iconst (v := 1) K d_c9_needFields_133 (by decide) ?_
      refine g_aload_n K d_c9_needFields_134 0 rfl ?_
      refine g_iload K d_c9_needFields_135 4 rfl ?_
      refine g_iconst (v := 1) K d_c9_needFields_137 (by decide) ?_
      refine g_iadd K d_c9_needFields_138 ?_
      refine g_iload K d_c9_needFields_139 5 rfl ?_
      refine g_aload_n K d_c9_needFields_141 0 rfl ?_
      obtain ⟨v26, e_v26, hy⟩ := gBd hy
      refine g_getR K fl_c9_15 d_c9_needFields_142 e_v26 ?_
      refine g_iload K d_c9_needFields_145 4 rfl ?_
      obtain ⟨v27, e_v27, hy⟩ := gBd hy
      refine g_iald K d_c9_needFields_147 e_v27 ?_
      refine g_iconst (v := (-1)) K d_c9_needFields_148 (by decide) ?_
      refine g_ixor K d_c9_needFields_149 ?_
      refine g_iand K d_c9_needFields_150 ?_
      obtain ⟨q28, e_q28, hy⟩ := gBd hy
      refine g_callVi (rest := [.int (1 : Int32)]) K hx ly_c9_needed kv_c9_38 d_c9_needFields_151 (ct_c9_needed M.2.1 X hx N a0 (x5 + (1 : Int32)) (x6 &&& (v27 ^^^ (-1 : Int32))) h q28 e_q28) rfl rfl (Nat.le_of_ble_eq_true rfl) (gDep rfl) ⟨Nat.le_refl 0, Nat.le_refl 0⟩ ?_
      refine g_iadd K d_c9_needFields_154 ?_
      refine g_istore (ls2 := [(7, .int ((1 : Int32) + q28)), (0, .ref a0), (1, .ref a1), (2, .int x2), (4, .int x4), (5, .int x5), (6, .int x6)]) K d_c9_needFields_155 rfl rfl ?_
      refine g_aload_n K d_c9_needFields_157 1 rfl ?_
      obtain ⟨v29, e_v29, hy⟩ := gBd hy
      refine g_getR K fl_c9_18 d_c9_needFields_158 e_v29 ?_
      refine g_iload K d_c9_needFields_161 5 rfl ?_
      refine g_bipush (v := 64) K d_c9_needFields_163 (by decide) ?_
      refine g_imul K d_c9_needFields_165 ?_
      refine g_iload K d_c9_needFields_166 6 rfl ?_
      refine g_iadd K d_c9_needFields_168 ?_
      refine g_aload_n K d_c9_needFields_169 1 rfl ?_
      refine g_iload K d_c9_needFields_170 5 rfl ?_
      refine g_iconst (v := 1) K d_c9_needFields_172 (by decide) ?_
      refine g_iadd K d_c9_needFields_173 ?_
      refine g_iload K d_c9_needFields_174 6 rfl ?_
      obtain ⟨q30, e_q30, hy⟩ := gBd hy
      refine g_callVi (rest := [.int ((x5 * (64 : Int32)) + x6), .ref v29]) K hx ly_c9_needed kv_c9_38 d_c9_needFields_176 (ct_c9_needed M.2.1 X hx N a0 (x5 + (1 : Int32)) x6 h q30 e_q30) rfl rfl (Nat.le_of_ble_eq_true rfl) (gDep rfl) ⟨Nat.le_refl 0, Nat.le_refl 0⟩ ?_
      refine g_iload K d_c9_needFields_179 0 rfl ?_
      refine g_mmin K d_c9_needFields_181 (gTk_4 29 rfl rfl) (gTk_2 41 rfl rfl) (gTk_1 12 rfl rfl) (gTk_2 42 rfl rfl) (gDep1 rfl) (Nat.le_of_ble_eq_true rfl) ⟨Nat.le_refl 0, Nat.le_refl 0⟩ ?_
      obtain ⟨h31, e_h31, hy⟩ := gBd hy
      refine g_iast K d_c9_needFields_184 e_h31 ?_
      refine g_iinc (ls2 := [(6, .int (x6 + (1 : Int32))), (7, .int ((1 : Int32) + q28)), (0, .ref a0), (1, .ref a1), (2, .int x2), (4, .int x4), (5, .int x5)]) (v := 1) K d_c9_needFields_185 6 rfl (by decide) rfl rfl ?_
      refine g_goto K d_c9_needFields_188 ?_
      refine g_sub (ls2 := [(0, .ref a0), (1, .ref a1), (2, .int x2), (4, .int x4), (5, .int x5), (6, .int (x6 + (1 : Int32)))]) [2, 3, 4, 5, 6, 0] rfl ?_
      exact ih _ _ _ hy hE
set_option maxHeartbeats 4000000 in
set_option maxRecDepth 100000 in
theorem wlp_c9_needFields_57 {M : gM} {X : gX} {N : Nat} (hx : gEx X = false) (K : gC M X gN9 b_c9_needFields 8 (gRm (3 + N) 0 0)) (a0 : Nat) (a1 : Nat) (x2 : Int32) (x4 : Int32) : ∀ (k : Nat) (x5 : Int32) (h : gH) (o : gH), lp_c9_needFields_57 N a0 a1 x2 x4 k x5 h = some o → gG M X 8 0 0 197 [] [] o → gG M X 8 0 0 57 [(0, .ref a0), (1, .ref a1), (2, .int x2), (4, .int x4), (5, .int x5)] [] h := by
  intro k
  induction k with
  | zero =>
    intro x5 h o hy
    rw [lp_c9_needFields_57.eq_1] at hy
    cases hy
  | succ k ih =>
    intro x5 h o hy hE
    rw [lp_c9_needFields_57.eq_2] at hy
    refine g_iload K d_c9_needFields_57 4 rfl ?_
    refine g_if_lt K d_c9_needFields_59 (fun c10 => ?_) (fun c10 => ?_)
    · rw [if_pos c10] at hy
      refine g_sub (ls2 := []) [] rfl ?_
      obtain rfl := Option.some.inj hy
      exact hE
    · rw [if_neg c10] at hy
      refine g_aload_n K d_c9_needFields_62 0 rfl ?_
      obtain ⟨v11, e_v11, hy⟩ := gBd hy
      refine g_getR K fl_c9_15 d_c9_needFields_63 e_v11 ?_
      refine g_iload K d_c9_needFields_66 4 rfl ?_
      refine g_iconst (v := 0) K d_c9_needFields_68 (by decide) ?_
      obtain ⟨h12, e_h12, hy⟩ := gBd hy
      refine g_iast K d_c9_needFields_69 e_h12 ?_
      refine g_iconst (v := 0) K d_c9_needFields_70 (by decide) ?_
      refine g_istore (ls2 := [(6, .int (0 : Int32)), (0, .ref a0), (1, .ref a1), (2, .int x2), (4, .int x4), (5, .int x5)]) K d_c9_needFields_71 rfl rfl ?_
      obtain ⟨o24, e_o24, hy⟩ := gBd hy
      refine g_sub (ls2 := [(0, .ref a0), (1, .ref a1), (2, .int x2), (4, .int x4), (5, .int x5), (6, .int (0 : Int32))]) [1, 2, 3, 4, 5, 0] rfl ?_
      refine wlp_c9_needFields_73 hx K a0 a1 x2 x5 x4 N (0 : Int32) h12 o24 e_o24 ?_
      refine g_iconst (v := 0) K d_c9_needFields_123 (by decide) ?_
      refine g_istore (ls2 := [(6, .int (0 : Int32)), (0, .ref a0), (1, .ref a1), (2, .int x2), (4, .int x4), (5, .int x5)]) K d_c9_needFields_124 rfl rfl ?_
      obtain ⟨o32, e_o32, hy⟩ := gBd hy
      refine g_sub (ls2 := [(0, .ref a0), (1, .ref a1), (2, .int x2), (4, .int x4), (5, .int x5), (6, .int (0 : Int32))]) [1, 2, 3, 4, 5, 0] rfl ?_
      refine wlp_c9_needFields_126 hx K a0 x4 x5 a1 x2 N (0 : Int32) o24 o32 e_o32 ?_
      refine g_iinc (ls2 := [(5, .int (x5 + (-1 : Int32))), (0, .ref a0), (1, .ref a1), (2, .int x2), (4, .int x4)]) (v := (-1)) K d_c9_needFields_191 4 rfl (by decide) rfl rfl ?_
      refine g_goto K d_c9_needFields_194 ?_
      refine g_sub (ls2 := [(0, .ref a0), (1, .ref a1), (2, .int x2), (4, .int x4), (5, .int (x5 + (-1 : Int32)))]) [1, 2, 3, 4, 0] rfl ?_
      exact ih _ _ _ hy hE
set_option maxHeartbeats 4000000 in
set_option maxRecDepth 100000 in
theorem ct_c9_needFields (l : Launch) (X : gX) (hx : gEx X = false) (N : Nat) (a0 : Nat) (a1 : Nat) (x2 : Int32) (h : gH) (q : gH) (hy : f_c9_needFields N a0 a1 x2 h = some q) : gRc y_c9_needFields h a0 ∧ gMv l X y_c9_needFields b_c9_needFields 8 (3 + N) 0 0 [.ref a0, .ref a1, .int x2] h q := by
  unfold f_c9_needFields at hy
  obtain ⟨u0, e_u0, hy⟩ := gBd hy
  cases u0
  refine ⟨Or.inl ⟨9, _, _, e_u0, rfl⟩, gMet_v (lsx := [(0, .ref a0), (1, .ref a1), (2, .int x2)]) (by decide) rfl rfl ?_⟩
  intro M hMl K hret
  subst hMl
  refine g_aload_n K d_c9_needFields_0 1 rfl ?_
  obtain ⟨q1, e_q1, hy⟩ := gBd hy
  refine g_callVi (rest := []) K hx ly_c1_fields kv_c9_21 d_c9_needFields_1 (ct_c1_fields M.2.1 X hx N a1 h q1 e_q1) rfl rfl (Nat.le_of_ble_eq_true rfl) (gDep rfl) ⟨Nat.le_refl 0, Nat.le_refl 0⟩ ?_
  refine g_istore_n (ls2 := [(3, .int q1), (0, .ref a0), (1, .ref a1), (2, .int x2)]) K d_c9_needFields_4 rfl rfl ?_
  refine g_iconst (v := 1) K d_c9_needFields_5 (by decide) ?_
  refine g_aload_n K d_c9_needFields_6 2 rfl ?_
  obtain ⟨v2, e_v2, hy⟩ := gBd hy
  refine g_getI K fl_c9_27 d_c9_needFields_7 e_v2 ?_
  refine g_ishl K d_c9_needFields_10 ?_
  refine g_istore (ls2 := [(4, .int ((1 : Int32) <<< (v2 &&& 31))), (3, .int q1), (0, .ref a0), (1, .ref a1), (2, .int x2)]) K d_c9_needFields_11 rfl rfl ?_
  refine g_iconst (v := 0) K d_c9_needFields_13 (by decide) ?_
  refine g_istore (ls2 := [(5, .int (0 : Int32)), (4, .int ((1 : Int32) <<< (v2 &&& 31))), (3, .int q1), (0, .ref a0), (1, .ref a1), (2, .int x2)]) K d_c9_needFields_14 rfl rfl ?_
  obtain ⟨o9, e_o9, hy⟩ := gBd hy
  refine g_sub (ls2 := [(0, .ref a0), (1, .ref a1), (2, .int x2), (3, .int q1), (4, .int ((1 : Int32) <<< (v2 &&& 31))), (5, .int (0 : Int32))]) [3, 4, 5, 2, 1, 0] rfl ?_
  refine wlp_c9_needFields_16 hx K a0 q1 ((1 : Int32) <<< (v2 &&& 31)) a1 x2 N (0 : Int32) h o9 e_o9 ?_
  refine g_iload_n K d_c9_needFields_52 3 rfl ?_
  refine g_iconst (v := 1) K d_c9_needFields_53 (by decide) ?_
  refine g_isub K d_c9_needFields_54 ?_
  refine g_istore (ls2 := [(5, .int (q1 - (1 : Int32))), (0, .ref a0), (1, .ref a1), (2, .int x2), (3, .int q1), (4, .int ((1 : Int32) <<< (v2 &&& 31)))]) K d_c9_needFields_55 rfl rfl ?_
  obtain ⟨o33, e_o33, hy⟩ := gBd hy
  refine g_sub (ls2 := [(0, .ref a0), (1, .ref a1), (2, .int x2), (4, .int ((1 : Int32) <<< (v2 &&& 31))), (5, .int (q1 - (1 : Int32)))]) [1, 2, 3, 5, 0] rfl ?_
  refine wlp_c9_needFields_57 hx K a0 a1 x2 ((1 : Int32) <<< (v2 &&& 31)) N (q1 - (1 : Int32)) o9 o33 e_o33 ?_
  obtain rfl := Option.some.inj hy
  exact hret _ _ _ d_c9_needFields_197
