-- c11 drawers
theorem d_c11_drawers_0 : gD b_c11_drawers 0 (.iconst 0) 1 1 := ⟨by decide +kernel, rfl⟩
theorem d_c11_drawers_1 : gD b_c11_drawers 1 (.istore_n 2) 1 2 := ⟨by decide +kernel, rfl⟩
theorem d_c11_drawers_2 : gD b_c11_drawers 2 (.iconst 0) 1 3 := ⟨by decide +kernel, rfl⟩
theorem d_c11_drawers_3 : gD b_c11_drawers 3 (.istore_n 3) 1 4 := ⟨by decide +kernel, rfl⟩
theorem d_c11_drawers_4 : gD b_c11_drawers 4 (.iload_n 3) 1 5 := ⟨by decide +kernel, rfl⟩
theorem d_c11_drawers_5 : gD b_c11_drawers 5 (.aload_n 0) 1 6 := ⟨by decide +kernel, rfl⟩
theorem d_c11_drawers_6 : gD b_c11_drawers 6 (.getfield 109) 3 9 := ⟨by decide +kernel, rfl⟩
theorem d_c11_drawers_9 : gJ b_c11_drawers 9 (.if_icmp .ge 32) 3 32 12 41 := ⟨by decide +kernel, rfl, by decide⟩
theorem d_c11_drawers_12 : gD b_c11_drawers 12 (.iload_n 2) 1 13 := ⟨by decide +kernel, rfl⟩
theorem d_c11_drawers_13 : gD b_c11_drawers 13 (.aload_n 0) 1 14 := ⟨by decide +kernel, rfl⟩
theorem d_c11_drawers_14 : gD b_c11_drawers 14 (.aload_n 0) 1 15 := ⟨by decide +kernel, rfl⟩
theorem d_c11_drawers_15 : gD b_c11_drawers 15 (.getfield 9) 3 18 := ⟨by decide +kernel, rfl⟩
theorem d_c11_drawers_18 : gD b_c11_drawers 18 (.iload_n 3) 1 19 := ⟨by decide +kernel, rfl⟩
theorem d_c11_drawers_19 : gD b_c11_drawers 19 (.invokevirtual 230) 3 22 := ⟨by decide +kernel, rfl⟩
theorem d_c11_drawers_22 : gD b_c11_drawers 22 (.iload_n 1) 1 23 := ⟨by decide +kernel, rfl⟩
theorem d_c11_drawers_23 : gJ b_c11_drawers 23 (.if_icmp .ne 9) 3 9 26 32 := ⟨by decide +kernel, rfl, by decide⟩
theorem d_c11_drawers_26 : gD b_c11_drawers 26 (.iconst 1) 1 27 := ⟨by decide +kernel, rfl⟩
theorem d_c11_drawers_27 : gD b_c11_drawers 27 (.iload_n 3) 1 28 := ⟨by decide +kernel, rfl⟩
theorem d_c11_drawers_28 : gD b_c11_drawers 28 .ishl 1 29 := ⟨by decide +kernel, rfl⟩
theorem d_c11_drawers_29 : gJ b_c11_drawers 29 (.goto 4) 3 4 32 33 := ⟨by decide +kernel, rfl, by decide⟩
theorem d_c11_drawers_32 : gD b_c11_drawers 32 (.iconst 0) 1 33 := ⟨by decide +kernel, rfl⟩
theorem d_c11_drawers_33 : gD b_c11_drawers 33 .ior 1 34 := ⟨by decide +kernel, rfl⟩
theorem d_c11_drawers_34 : gD b_c11_drawers 34 (.istore_n 2) 1 35 := ⟨by decide +kernel, rfl⟩
theorem d_c11_drawers_35 : gD b_c11_drawers 35 (.iinc 3 1) 3 38 := ⟨by decide +kernel, rfl⟩
theorem d_c11_drawers_38 : gJ b_c11_drawers 38 (.goto (-34)) 3 (-34) 41 4 := ⟨by decide +kernel, rfl, by decide⟩
theorem d_c11_drawers_41 : gD b_c11_drawers 41 (.iload_n 2) 1 42 := ⟨by decide +kernel, rfl⟩
theorem d_c11_drawers_42 : gD b_c11_drawers 42 .ireturn 1 43 := ⟨by decide +kernel, rfl⟩
def lp_c11_drawers_4 (N : Nat) (a0 : Nat) (x1 : Int32) (h : gH) : Nat → Int32 → Int32 → Option (Int32)
  | 0, _, _ => none
  | k + 1, x2, x3 =>
  (gfI h a0 11 3).bind fun v1 =>
    if v1 ≤ x3 then
    some x2
  else
    (gfR h a0 11 0).bind fun v3 =>
    (f_c11_nearest N a0 v3 x3 h).bind fun q4 =>
    lp_c11_drawers_4 N a0 x1 h k (x2 ||| (if q4 = x1 then (1 : Int32) <<< (x3 &&& 31) else (0 : Int32))) (x3 + (1 : Int32))
def f_c11_drawers (N : Nat) (a0 : Nat) (x1 : Int32) (h : gH) : Option (Int32) :=
  (gcl h a0 11).bind fun _ =>
  (lp_c11_drawers_4 N a0 x1 h N (0 : Int32) (0 : Int32)).bind fun o8 =>
    some o8
set_option maxHeartbeats 4000000 in
set_option maxRecDepth 100000 in
theorem wlp_c11_drawers_4 {M : gM} {X : gX} {N : Nat} (hx : gEx X = false) (K : gC M X gN11 b_c11_drawers 4 (gRm (4 + N) 0 0)) (a0 : Nat) (x1 : Int32) (h : gH) : ∀ (k : Nat) (x2 : Int32) (x3 : Int32) (o : Int32), lp_c11_drawers_4 N a0 x1 h k x2 x3 = some o → gG M X 4 0 0 41 [(2, .int o)] [] h → gG M X 4 0 0 4 [(0, .ref a0), (1, .int x1), (2, .int x2), (3, .int x3)] [] h := by
  intro k
  induction k with
  | zero =>
    intro x2 x3 o hy
    rw [lp_c11_drawers_4.eq_1] at hy
    cases hy
  | succ k ih =>
    intro x2 x3 o hy hE
    rw [lp_c11_drawers_4.eq_2] at hy
    refine g_iload_n K d_c11_drawers_4 3 rfl ?_
    refine g_aload_n K d_c11_drawers_5 0 rfl ?_
    obtain ⟨v1, e_v1, hy⟩ := gBd hy
    refine g_getI K fl_c11_109 d_c11_drawers_6 e_v1 ?_
    refine g_icmp_ge K d_c11_drawers_9 (fun c2 => ?_) (fun c2 => ?_)
    · rw [if_pos c2] at hy
      refine g_sub (ls2 := [(2, .int x2)]) [2] rfl ?_
      obtain rfl := Option.some.inj hy
      exact hE
    · rw [if_neg c2] at hy
      refine g_iload_n K d_c11_drawers_12 2 rfl ?_
      refine g_aload_n K d_c11_drawers_13 0 rfl ?_
      refine g_aload_n K d_c11_drawers_14 0 rfl ?_
      obtain ⟨v3, e_v3, hy⟩ := gBd hy
      refine g_getR K fl_c11_9 d_c11_drawers_15 e_v3 ?_
      refine g_iload_n K d_c11_drawers_18 3 rfl ?_
      obtain ⟨q4, e_q4, hy⟩ := gBd hy
      refine g_callVi (rest := [.int x2]) K hx ly_c11_nearest kv_c11_230 d_c11_drawers_19 (ct_c11_nearest M.2.1 X hx N a0 v3 x3 h q4 e_q4) rfl rfl (Nat.le_of_ble_eq_true rfl) (gDep rfl) ⟨Nat.le_refl 0, Nat.le_refl 0⟩ ?_
      refine g_iload_n K d_c11_drawers_22 1 rfl ?_
      have hJ7 : ∀ w6 : Int32, w6 = (if q4 = x1 then (1 : Int32) <<< (x3 &&& 31) else (0 : Int32)) → gG M X 4 0 0 33 [(0, .ref a0), (1, .int x1), (2, .int x2), (3, .int x3)] [.int w6, .int x2] h := by
        intro w6 e_w6
        subst e_w6
        refine g_ior K d_c11_drawers_33 ?_
        refine g_istore_n (ls2 := [(2, .int (x2 ||| (if q4 = x1 then (1 : Int32) <<< (x3 &&& 31) else (0 : Int32)))), (0, .ref a0), (1, .int x1), (3, .int x3)]) K d_c11_drawers_34 rfl rfl ?_
        refine g_iinc (ls2 := [(3, .int (x3 + (1 : Int32))), (2, .int (x2 ||| (if q4 = x1 then (1 : Int32) <<< (x3 &&& 31) else (0 : Int32)))), (0, .ref a0), (1, .int x1)]) (v := 1) K d_c11_drawers_35 3 rfl (by decide) rfl rfl ?_
        refine g_goto K d_c11_drawers_38 ?_
        refine g_sub (ls2 := [(0, .ref a0), (1, .int x1), (2, .int (x2 ||| (if q4 = x1 then (1 : Int32) <<< (x3 &&& 31) else (0 : Int32)))), (3, .int (x3 + (1 : Int32)))]) [2, 3, 1, 0] rfl ?_
        exact ih _ _ _ hy hE
      refine g_icmp_ne K d_c11_drawers_23 (fun c5 => ?_) (fun c5 => ?_)
      · refine g_iconst (v := 0) K d_c11_drawers_32 (by decide) ?_
        exact hJ7 _ (by rw [if_neg c5])
      · refine g_iconst (v := 1) K d_c11_drawers_26 (by decide) ?_
        refine g_iload_n K d_c11_drawers_27 3 rfl ?_
        refine g_ishl K d_c11_drawers_28 ?_
        refine g_goto K d_c11_drawers_29 ?_
        exact hJ7 _ (by rw [if_pos c5])
set_option maxHeartbeats 4000000 in
set_option maxRecDepth 100000 in
theorem ct_c11_drawers (l : Launch) (X : gX) (hx : gEx X = false) (N : Nat) (a0 : Nat) (x1 : Int32) (h : gH) (q : Int32) (hy : f_c11_drawers N a0 x1 h = some q) : gRc y_c11_drawers h a0 ∧ gMi l X y_c11_drawers b_c11_drawers 4 .int (4 + N) 0 0 [.ref a0, .int x1] h q h := by
  unfold f_c11_drawers at hy
  obtain ⟨u0, e_u0, hy⟩ := gBd hy
  cases u0
  refine ⟨Or.inl ⟨11, _, _, e_u0, rfl⟩, gMet_i (lsx := [(0, .ref a0), (1, .int x1)]) (by decide) rfl rfl ?_⟩
  intro M hMl K hret
  subst hMl
  refine g_iconst (v := 0) K d_c11_drawers_0 (by decide) ?_
  refine g_istore_n (ls2 := [(2, .int (0 : Int32)), (0, .ref a0), (1, .int x1)]) K d_c11_drawers_1 rfl rfl ?_
  refine g_iconst (v := 0) K d_c11_drawers_2 (by decide) ?_
  refine g_istore_n (ls2 := [(3, .int (0 : Int32)), (2, .int (0 : Int32)), (0, .ref a0), (1, .int x1)]) K d_c11_drawers_3 rfl rfl ?_
  obtain ⟨o8, e_o8, hy⟩ := gBd hy
  refine g_sub (ls2 := [(0, .ref a0), (1, .int x1), (2, .int (0 : Int32)), (3, .int (0 : Int32))]) [2, 3, 1, 0] rfl ?_
  refine wlp_c11_drawers_4 hx K a0 x1 h N (0 : Int32) (0 : Int32) o8 e_o8 ?_
  refine g_iload_n K d_c11_drawers_41 0 rfl ?_
  obtain rfl := Option.some.inj hy
  exact hret rfl _ _ _ d_c11_drawers_42
-- c11 draws
theorem d_c11_draws_0 : gD b_c11_draws 0 (.aload_n 0) 1 1 := ⟨by decide +kernel, rfl⟩
theorem d_c11_draws_1 : gD b_c11_draws 1 (.iconst 0) 1 2 := ⟨by decide +kernel, rfl⟩
theorem d_c11_draws_2 : gD b_c11_draws 2 (.putfield 95) 3 5 := ⟨by decide +kernel, rfl⟩
theorem d_c11_draws_5 : gD b_c11_draws 5 (.aload_n 0) 1 6 := ⟨by decide +kernel, rfl⟩
theorem d_c11_draws_6 : gD b_c11_draws 6 (.iload_n 1) 1 7 := ⟨by decide +kernel, rfl⟩
theorem d_c11_draws_7 : gD b_c11_draws 7 (.iload_n 2) 1 8 := ⟨by decide +kernel, rfl⟩
theorem d_c11_draws_8 : gD b_c11_draws 8 (.invokevirtual 293) 3 11 := ⟨by decide +kernel, rfl⟩
theorem d_c11_draws_11 : gD b_c11_draws 11 (.istore_n 3) 1 12 := ⟨by decide +kernel, rfl⟩
theorem d_c11_draws_12 : gD b_c11_draws 12 (.iload_n 3) 1 13 := ⟨by decide +kernel, rfl⟩
theorem d_c11_draws_13 : gJ b_c11_draws 13 (.ifCond .ge 5) 3 5 16 18 := ⟨by decide +kernel, rfl, by decide⟩
theorem d_c11_draws_16 : gD b_c11_draws 16 (.iload_n 3) 1 17 := ⟨by decide +kernel, rfl⟩
theorem d_c11_draws_17 : gD b_c11_draws 17 .ireturn 1 18 := ⟨by decide +kernel, rfl⟩
theorem d_c11_draws_18 : gD b_c11_draws 18 (.aload_n 0) 1 19 := ⟨by decide +kernel, rfl⟩
theorem d_c11_draws_19 : gD b_c11_draws 19 (.aload_n 0) 1 20 := ⟨by decide +kernel, rfl⟩
theorem d_c11_draws_20 : gD b_c11_draws 20 (.getfield 9) 3 23 := ⟨by decide +kernel, rfl⟩
theorem d_c11_draws_23 : gD b_c11_draws 23 (.invokevirtual 260) 3 26 := ⟨by decide +kernel, rfl⟩
theorem d_c11_draws_26 : gD b_c11_draws 26 (.aload_n 0) 1 27 := ⟨by decide +kernel, rfl⟩
theorem d_c11_draws_27 : gD b_c11_draws 27 (.getfield 9) 3 30 := ⟨by decide +kernel, rfl⟩
theorem d_c11_draws_30 : gD b_c11_draws 30 (.bipush 32) 2 32 := ⟨by decide +kernel, rfl⟩
theorem d_c11_draws_32 : gD b_c11_draws 32 (.iload_n 1) 1 33 := ⟨by decide +kernel, rfl⟩
theorem d_c11_draws_33 : gD b_c11_draws 33 .iadd 1 34 := ⟨by decide +kernel, rfl⟩
theorem d_c11_draws_34 : gD b_c11_draws 34 .dup2 1 35 := ⟨by decide +kernel, rfl⟩
theorem d_c11_draws_35 : gD b_c11_draws 35 .iaload 1 36 := ⟨by decide +kernel, rfl⟩
theorem d_c11_draws_36 : gD b_c11_draws 36 (.iload_n 2) 1 37 := ⟨by decide +kernel, rfl⟩
theorem d_c11_draws_37 : gD b_c11_draws 37 .isub 1 38 := ⟨by decide +kernel, rfl⟩
theorem d_c11_draws_38 : gD b_c11_draws 38 .iastore 1 39 := ⟨by decide +kernel, rfl⟩
theorem d_c11_draws_39 : gD b_c11_draws 39 (.aload_n 0) 1 40 := ⟨by decide +kernel, rfl⟩
theorem d_c11_draws_40 : gD b_c11_draws 40 (.getfield 9) 3 43 := ⟨by decide +kernel, rfl⟩
theorem d_c11_draws_43 : gD b_c11_draws 43 (.bipush 32) 2 45 := ⟨by decide +kernel, rfl⟩
theorem d_c11_draws_45 : gD b_c11_draws 45 (.iload_n 1) 1 46 := ⟨by decide +kernel, rfl⟩
theorem d_c11_draws_46 : gD b_c11_draws 46 .iadd 1 47 := ⟨by decide +kernel, rfl⟩
theorem d_c11_draws_47 : gD b_c11_draws 47 .iaload 1 48 := ⟨by decide +kernel, rfl⟩
theorem d_c11_draws_48 : gD b_c11_draws 48 .ireturn 1 49 := ⟨by decide +kernel, rfl⟩
def f_c11_draws (N : Nat) (a0 : Nat) (x1 : Int32) (x2 : Int32) (h : gH) : Option (Int32 × gH) :=
  (gcl h a0 11).bind fun _ =>
  (sf h a0 11 10 (.int (0 : Int32))).bind fun h1 =>
    (f_c11_refusesDraught N a0 x1 x2 h1).bind fun q2 =>
    if 0 ≤ q2 then
    (gfR h1 a0 11 0).bind fun v4 =>
    (f_c11_remember N a0 v4 h1).bind fun q5 =>
    (gfR q5 a0 11 0).bind fun v6 =>
    (ga 0 q5 v6 ((32 : Int32) + x1)).bind fun v7 =>
    (sa 0 q5 v6 ((32 : Int32) + x1) (v7 - x2)).bind fun h8 =>
    (gfR h8 a0 11 0).bind fun v9 =>
    (ga 0 h8 v9 ((32 : Int32) + x1)).bind fun v10 =>
    some (v10, h8)
  else
    some (q2, h1)
set_option maxHeartbeats 4000000 in
set_option maxRecDepth 100000 in
theorem ct_c11_draws (l : Launch) (X : gX) (hx : gEx X = false) (N : Nat) (a0 : Nat) (x1 : Int32) (x2 : Int32) (h : gH) (q : Int32 × gH) (hy : f_c11_draws N a0 x1 x2 h = some q) : gRc y_c11_draws h a0 ∧ gMi l X y_c11_draws b_c11_draws 4 .int (4 + N) 0 0 [.ref a0, .int x1, .int x2] h q.1 q.2 := by
  unfold f_c11_draws at hy
  obtain ⟨u0, e_u0, hy⟩ := gBd hy
  cases u0
  refine ⟨Or.inl ⟨11, _, _, e_u0, rfl⟩, gMet_i (lsx := [(0, .ref a0), (1, .int x1), (2, .int x2)]) (by decide) rfl rfl ?_⟩
  intro M hMl K hret
  subst hMl
  refine g_aload_n K d_c11_draws_0 0 rfl ?_
  refine g_iconst (v := 0) K d_c11_draws_1 (by decide) ?_
  obtain ⟨h1, e_h1, hy⟩ := gBd hy
  refine g_putI K fp_c11_95 d_c11_draws_2 e_h1 ?_
  refine g_aload_n K d_c11_draws_5 0 rfl ?_
  refine g_iload_n K d_c11_draws_6 1 rfl ?_
  refine g_iload_n K d_c11_draws_7 2 rfl ?_
  obtain ⟨q2, e_q2, hy⟩ := gBd hy
  refine g_callVi (rest := []) K hx ly_c11_refusesDraught kv_c11_293 d_c11_draws_8 (ct_c11_refusesDraught M.2.1 X hx N a0 x1 x2 h1 q2 e_q2) rfl rfl (Nat.le_of_ble_eq_true rfl) (gDep rfl) ⟨Nat.le_refl 0, Nat.le_refl 0⟩ ?_
  refine g_istore_n (ls2 := [(3, .int q2), (0, .ref a0), (1, .int x1), (2, .int x2)]) K d_c11_draws_11 rfl rfl ?_
  refine g_iload_n K d_c11_draws_12 0 rfl ?_
  refine g_if_ge K d_c11_draws_13 (fun c3 => ?_) (fun c3 => ?_)
  · rw [if_pos c3] at hy
    refine g_aload_n K d_c11_draws_18 1 rfl ?_
    refine g_aload_n K d_c11_draws_19 1 rfl ?_
    obtain ⟨v4, e_v4, hy⟩ := gBd hy
    refine g_getR K fl_c11_9 d_c11_draws_20 e_v4 ?_
    obtain ⟨q5, e_q5, hy⟩ := gBd hy
    refine g_callVv (rest := []) K hx ly_c11_remember kv_c11_260 d_c11_draws_23 (ct_c11_remember M.2.1 X hx N a0 v4 h1 q5 e_q5) rfl rfl (Nat.le_of_ble_eq_true rfl) (gDep rfl) ⟨Nat.le_refl 0, Nat.le_refl 0⟩ ?_
    refine g_aload_n K d_c11_draws_26 1 rfl ?_
    obtain ⟨v6, e_v6, hy⟩ := gBd hy
    refine g_getR K fl_c11_9 d_c11_draws_27 e_v6 ?_
    refine g_bipush (v := 32) K d_c11_draws_30 (by decide) ?_
    refine g_iload_n K d_c11_draws_32 2 rfl ?_
    refine g_iadd K d_c11_draws_33 ?_
    refine g_dup2 K d_c11_draws_34 rfl rfl ?_
    obtain ⟨v7, e_v7, hy⟩ := gBd hy
    refine g_iald K d_c11_draws_35 e_v7 ?_
    refine g_iload_n K d_c11_draws_36 3 rfl ?_
    refine g_isub K d_c11_draws_37 ?_
    obtain ⟨h8, e_h8, hy⟩ := gBd hy
    refine g_iast K d_c11_draws_38 e_h8 ?_
    refine g_aload_n K d_c11_draws_39 1 rfl ?_
    obtain ⟨v9, e_v9, hy⟩ := gBd hy
    refine g_getR K fl_c11_9 d_c11_draws_40 e_v9 ?_
    refine g_bipush (v := 32) K d_c11_draws_43 (by decide) ?_
    refine g_iload_n K d_c11_draws_45 2 rfl ?_
    refine g_iadd K d_c11_draws_46 ?_
    obtain ⟨v10, e_v10, hy⟩ := gBd hy
    refine g_iald K d_c11_draws_47 e_v10 ?_
    obtain rfl := Option.some.inj hy
    exact hret rfl _ _ _ d_c11_draws_48
  · rw [if_neg c3] at hy
    refine g_iload_n K d_c11_draws_16 0 rfl ?_
    obtain rfl := Option.some.inj hy
    exact hret rfl _ _ _ d_c11_draws_17
-- c11 dry
theorem d_c11_dry_0 : gD b_c11_dry 0 (.aload_n 0) 1 1 := ⟨by decide +kernel, rfl⟩
theorem d_c11_dry_1 : gD b_c11_dry 1 (.iconst 0) 1 2 := ⟨by decide +kernel, rfl⟩
theorem d_c11_dry_2 : gD b_c11_dry 2 (.putfield 95) 3 5 := ⟨by decide +kernel, rfl⟩
theorem d_c11_dry_5 : gD b_c11_dry 5 (.iload_n 1) 1 6 := ⟨by decide +kernel, rfl⟩
theorem d_c11_dry_6 : gD b_c11_dry 6 (.iconst 0) 1 7 := ⟨by decide +kernel, rfl⟩
theorem d_c11_dry_7 : gD b_c11_dry 7 (.bipush 10) 2 9 := ⟨by decide +kernel, rfl⟩
theorem d_c11_dry_9 : gD b_c11_dry 9 (.invokestatic 105) 3 12 := ⟨by decide +kernel, rfl⟩
theorem d_c11_dry_12 : gJ b_c11_dry 12 (.ifCond .ne 7) 3 7 15 19 := ⟨by decide +kernel, rfl, by decide⟩
theorem d_c11_dry_15 : gD b_c11_dry 15 (.ldc2_w 329) 3 18 := ⟨by decide +kernel, rfl⟩
theorem d_c11_dry_18 : gD b_c11_dry 18 .lreturn 1 19 := ⟨by decide +kernel, rfl⟩
theorem d_c11_dry_19 : gD b_c11_dry 19 (.lconst 0) 1 20 := ⟨by decide +kernel, rfl⟩
theorem d_c11_dry_20 : gD b_c11_dry 20 (.lstore_n 2) 1 21 := ⟨by decide +kernel, rfl⟩
theorem d_c11_dry_21 : gD b_c11_dry 21 (.iconst 0) 1 22 := ⟨by decide +kernel, rfl⟩
theorem d_c11_dry_22 : gD b_c11_dry 22 (.istore 4) 2 24 := ⟨by decide +kernel, rfl⟩
theorem d_c11_dry_24 : gD b_c11_dry 24 (.iconst 0) 1 25 := ⟨by decide +kernel, rfl⟩
theorem d_c11_dry_25 : gD b_c11_dry 25 (.istore 5) 2 27 := ⟨by decide +kernel, rfl⟩
theorem d_c11_dry_27 : gD b_c11_dry 27 (.iload 5) 2 29 := ⟨by decide +kernel, rfl⟩
theorem d_c11_dry_29 : gD b_c11_dry 29 (.aload_n 0) 1 30 := ⟨by decide +kernel, rfl⟩
theorem d_c11_dry_30 : gD b_c11_dry 30 (.invokevirtual 101) 3 33 := ⟨by decide +kernel, rfl⟩
theorem d_c11_dry_33 : gJ b_c11_dry 33 (.if_icmp .ge 30) 3 30 36 63 := ⟨by decide +kernel, rfl, by decide⟩
theorem d_c11_dry_36 : gD b_c11_dry 36 (.lload_n 2) 1 37 := ⟨by decide +kernel, rfl⟩
theorem d_c11_dry_37 : gD b_c11_dry 37 (.aload_n 0) 1 38 := ⟨by decide +kernel, rfl⟩
theorem d_c11_dry_38 : gD b_c11_dry 38 (.iload 5) 2 40 := ⟨by decide +kernel, rfl⟩
theorem d_c11_dry_40 : gD b_c11_dry 40 (.iload_n 1) 1 41 := ⟨by decide +kernel, rfl⟩
theorem d_c11_dry_41 : gD b_c11_dry 41 (.invokevirtual 331) 3 44 := ⟨by decide +kernel, rfl⟩
theorem d_c11_dry_44 : gJ b_c11_dry 44 (.ifCond .eq 10) 3 10 47 54 := ⟨by decide +kernel, rfl, by decide⟩
theorem d_c11_dry_47 : gD b_c11_dry 47 (.lconst 1) 1 48 := ⟨by decide +kernel, rfl⟩
theorem d_c11_dry_48 : gD b_c11_dry 48 (.iload 5) 2 50 := ⟨by decide +kernel, rfl⟩
theorem d_c11_dry_50 : gD b_c11_dry 50 .lshl 1 51 := ⟨by decide +kernel, rfl⟩
theorem d_c11_dry_51 : gJ b_c11_dry 51 (.goto 4) 3 4 54 55 := ⟨by decide +kernel, rfl, by decide⟩
theorem d_c11_dry_54 : gD b_c11_dry 54 (.lconst 0) 1 55 := ⟨by decide +kernel, rfl⟩
theorem d_c11_dry_55 : gD b_c11_dry 55 .lor 1 56 := ⟨by decide +kernel, rfl⟩
theorem d_c11_dry_56 : gD b_c11_dry 56 (.lstore_n 2) 1 57 := ⟨by decide +kernel, rfl⟩
theorem d_c11_dry_57 : gD b_c11_dry 57 (.iinc 5 1) 3 60 := ⟨by decide +kernel, rfl⟩
theorem d_c11_dry_60 : gJ b_c11_dry 60 (.goto (-33)) 3 (-33) 63 27 := ⟨by decide +kernel, rfl, by decide⟩
theorem d_c11_dry_63 : gD b_c11_dry 63 (.iconst 0) 1 64 := ⟨by decide +kernel, rfl⟩
theorem d_c11_dry_64 : gD b_c11_dry 64 (.istore 5) 2 66 := ⟨by decide +kernel, rfl⟩
theorem d_c11_dry_66 : gD b_c11_dry 66 (.iload 5) 2 68 := ⟨by decide +kernel, rfl⟩
theorem d_c11_dry_68 : gD b_c11_dry 68 (.aload_n 0) 1 69 := ⟨by decide +kernel, rfl⟩
theorem d_c11_dry_69 : gD b_c11_dry 69 (.getfield 109) 3 72 := ⟨by decide +kernel, rfl⟩
theorem d_c11_dry_72 : gJ b_c11_dry 72 (.if_icmp .ge 34) 3 34 75 106 := ⟨by decide +kernel, rfl, by decide⟩
theorem d_c11_dry_75 : gD b_c11_dry 75 (.iload 4) 2 77 := ⟨by decide +kernel, rfl⟩
theorem d_c11_dry_77 : gD b_c11_dry 77 (.aload_n 0) 1 78 := ⟨by decide +kernel, rfl⟩
theorem d_c11_dry_78 : gD b_c11_dry 78 (.aload_n 0) 1 79 := ⟨by decide +kernel, rfl⟩
theorem d_c11_dry_79 : gD b_c11_dry 79 (.getfield 20) 3 82 := ⟨by decide +kernel, rfl⟩
theorem d_c11_dry_82 : gD b_c11_dry 82 (.iload 5) 2 84 := ⟨by decide +kernel, rfl⟩
theorem d_c11_dry_84 : gD b_c11_dry 84 .iaload 1 85 := ⟨by decide +kernel, rfl⟩
theorem d_c11_dry_85 : gD b_c11_dry 85 (.iload_n 1) 1 86 := ⟨by decide +kernel, rfl⟩
theorem d_c11_dry_86 : gD b_c11_dry 86 (.invokevirtual 331) 3 89 := ⟨by decide +kernel, rfl⟩
theorem d_c11_dry_89 : gJ b_c11_dry 89 (.ifCond .eq 7) 3 7 92 96 := ⟨by decide +kernel, rfl, by decide⟩
theorem d_c11_dry_92 : gD b_c11_dry 92 (.iconst 1) 1 93 := ⟨by decide +kernel, rfl⟩
theorem d_c11_dry_93 : gJ b_c11_dry 93 (.goto 4) 3 4 96 97 := ⟨by decide +kernel, rfl, by decide⟩
theorem d_c11_dry_96 : gD b_c11_dry 96 (.iconst 0) 1 97 := ⟨by decide +kernel, rfl⟩
theorem d_c11_dry_97 : gD b_c11_dry 97 .iadd 1 98 := ⟨by decide +kernel, rfl⟩
theorem d_c11_dry_98 : gD b_c11_dry 98 (.istore 4) 2 100 := ⟨by decide +kernel, rfl⟩
theorem d_c11_dry_100 : gD b_c11_dry 100 (.iinc 5 1) 3 103 := ⟨by decide +kernel, rfl⟩
theorem d_c11_dry_103 : gJ b_c11_dry 103 (.goto (-37)) 3 (-37) 106 66 := ⟨by decide +kernel, rfl, by decide⟩
theorem d_c11_dry_106 : gD b_c11_dry 106 (.aload_n 0) 1 107 := ⟨by decide +kernel, rfl⟩
theorem d_c11_dry_107 : gD b_c11_dry 107 (.iconst 0) 1 108 := ⟨by decide +kernel, rfl⟩
theorem d_c11_dry_108 : gD b_c11_dry 108 (.putfield 98) 3 111 := ⟨by decide +kernel, rfl⟩
theorem d_c11_dry_111 : gD b_c11_dry 111 (.aload_n 0) 1 112 := ⟨by decide +kernel, rfl⟩
theorem d_c11_dry_112 : gD b_c11_dry 112 (.lload_n 2) 1 113 := ⟨by decide +kernel, rfl⟩
theorem d_c11_dry_113 : gD b_c11_dry 113 (.invokestatic 334) 3 116 := ⟨by decide +kernel, rfl⟩
theorem d_c11_dry_116 : gD b_c11_dry 116 .i2l 1 117 := ⟨by decide +kernel, rfl⟩
theorem d_c11_dry_117 : gD b_c11_dry 117 (.invokevirtual 268) 3 120 := ⟨by decide +kernel, rfl⟩
theorem d_c11_dry_120 : gD b_c11_dry 120 (.aload_n 0) 1 121 := ⟨by decide +kernel, rfl⟩
theorem d_c11_dry_121 : gD b_c11_dry 121 (.iload 4) 2 123 := ⟨by decide +kernel, rfl⟩
theorem d_c11_dry_123 : gD b_c11_dry 123 .i2l 1 124 := ⟨by decide +kernel, rfl⟩
theorem d_c11_dry_124 : gD b_c11_dry 124 (.invokevirtual 268) 3 127 := ⟨by decide +kernel, rfl⟩
theorem d_c11_dry_127 : gD b_c11_dry 127 (.lload_n 2) 1 128 := ⟨by decide +kernel, rfl⟩
theorem d_c11_dry_128 : gD b_c11_dry 128 .lreturn 1 129 := ⟨by decide +kernel, rfl⟩
def lp_c11_dry_27 (N : Nat) (a0 : Nat) (x1 : Int32) (h : gH) : Nat → Int64 → Int32 → Option (Int64)
  | 0, _, _ => none
  | k + 1, y2, x5 =>
  (f_c11_fields N a0 h).bind fun q4 =>
    if q4 ≤ x5 then
    some y2
  else
    (f_c11_isDry N a0 x5 x1 h).bind fun q6 =>
    lp_c11_dry_27 N a0 x1 h k (y2 ||| (if q6 = 0 then (0 : Int64) else (1 : Int64) <<< (x5.toInt64 &&& 63))) (x5 + (1 : Int32))
def lp_c11_dry_66 (N : Nat) (a0 : Nat) (x1 : Int32) (h : gH) : Nat → Int32 → Int32 → Option (Int32)
  | 0, _, _ => none
  | k + 1, x4, x5 =>
  (gfI h a0 11 3).bind fun v11 =>
    if v11 ≤ x5 then
    some x4
  else
    (gfR h a0 11 4).bind fun v13 =>
    (ga 0 h v13 x5).bind fun v14 =>
    (f_c11_isDry N a0 v14 x1 h).bind fun q15 =>
    lp_c11_dry_66 N a0 x1 h k (x4 + (if q15 = 0 then (0 : Int32) else (1 : Int32))) (x5 + (1 : Int32))
def f_c11_dry (N : Nat) (a0 : Nat) (x1 : Int32) (h : gH) : Option (Int64 × gH) :=
  (gcl h a0 11).bind fun _ =>
  (sf h a0 11 10 (.int (0 : Int32))).bind fun h1 =>
    (f_c11_in N x1 (0 : Int32) (10 : Int32) h1).bind fun q2 =>
    if q2 = 0 then
    some ((-1 : Int64), h1)
  else
    (lp_c11_dry_27 N a0 x1 h1 N (0 : Int64) (0 : Int32)).bind fun o10 =>
    (lp_c11_dry_66 N a0 x1 h1 N (0 : Int32) (0 : Int32)).bind fun o19 =>
    (sf h1 a0 11 9 (.int (0 : Int32))).bind fun h20 =>
    (f_jLong_bitCount N o10 h20).bind fun q21 =>
    (f_c11_tell N a0 q21.toInt64 h20).bind fun q22 =>
    (f_c11_tell N a0 o19.toInt64 q22).bind fun q23 =>
    some (o10, q23)
set_option maxHeartbeats 4000000 in
set_option maxRecDepth 100000 in
theorem wlp_c11_dry_27 {M : gM} {X : gX} {N : Nat} (hx : gEx X = false) (K : gC M X gN11 b_c11_dry 6 (gRm (4 + N) 0 0)) (a0 : Nat) (x1 : Int32) (x4 : Int32) (h : gH) : ∀ (k : Nat) (y2 : Int64) (x5 : Int32) (o : Int64), lp_c11_dry_27 N a0 x1 h k y2 x5 = some o → gG M X 6 0 0 63 [(0, .ref a0), (1, .int x1), (2, .long o), (4, .int x4)] [] h → gG M X 6 0 0 27 [(0, .ref a0), (1, .int x1), (2, .long y2), (4, .int x4), (5, .int x5)] [] h := by
  intro k
  induction k with
  | zero =>
    intro y2 x5 o hy
    rw [lp_c11_dry_27.eq_1] at hy
    cases hy
  | succ k ih =>
    intro y2 x5 o hy hE
    rw [lp_c11_dry_27.eq_2] at hy
    refine g_iload K d_c11_dry_27 4 rfl ?_
    refine g_aload_n K d_c11_dry_29 0 rfl ?_
    obtain ⟨q4, e_q4, hy⟩ := gBd hy
    refine g_callVi (rest := [.int x5]) K hx ly_c11_fields kv_c11_101 d_c11_dry_30 (ct_c11_fields M.2.1 X hx N a0 h q4 e_q4) rfl rfl (Nat.le_of_ble_eq_true rfl) (gDep rfl) ⟨Nat.le_refl 0, Nat.le_refl 0⟩ ?_
    refine g_icmp_ge K d_c11_dry_33 (fun c5 => ?_) (fun c5 => ?_)
    · rw [if_pos c5] at hy
      refine g_sub (ls2 := [(0, .ref a0), (1, .int x1), (2, .long y2), (4, .int x4)]) [0, 1, 2, 3] rfl ?_
      obtain rfl := Option.some.inj hy
      exact hE
    · rw [if_neg c5] at hy
      refine g_lload_n K d_c11_dry_36 2 rfl ?_
      refine g_aload_n K d_c11_dry_37 0 rfl ?_
      refine g_iload K d_c11_dry_38 4 rfl ?_
      refine g_iload_n K d_c11_dry_40 1 rfl ?_
      obtain ⟨q6, e_q6, hy⟩ := gBd hy
      refine g_callVi (rest := [.long y2]) K hx ly_c11_isDry kv_c11_331 d_c11_dry_41 (ct_c11_isDry M.2.1 X hx N a0 x5 x1 h q6 e_q6) rfl rfl (Nat.le_of_ble_eq_true rfl) (gDep rfl) ⟨Nat.le_refl 0, Nat.le_refl 0⟩ ?_
      have hJ9 : ∀ w8 : Int64, w8 = (if q6 = 0 then (0 : Int64) else (1 : Int64) <<< (x5.toInt64 &&& 63)) → gG M X 6 0 0 55 [(0, .ref a0), (1, .int x1), (2, .long y2), (4, .int x4), (5, .int x5)] [.long w8, .long y2] h := by
        intro w8 e_w8
        subst e_w8
        refine g_lor K d_c11_dry_55 ?_
        refine g_lstore_n (ls2 := [(2, .long (y2 ||| (if q6 = 0 then (0 : Int64) else (1 : Int64) <<< (x5.toInt64 &&& 63)))), (0, .ref a0), (1, .int x1), (4, .int x4), (5, .int x5)]) K d_c11_dry_56 rfl rfl ?_
        refine g_iinc (ls2 := [(5, .int (x5 + (1 : Int32))), (2, .long (y2 ||| (if q6 = 0 then (0 : Int64) else (1 : Int64) <<< (x5.toInt64 &&& 63)))), (0, .ref a0), (1, .int x1), (4, .int x4)]) (v := 1) K d_c11_dry_57 4 rfl (by decide) rfl rfl ?_
        refine g_goto K d_c11_dry_60 ?_
        refine g_sub (ls2 := [(0, .ref a0), (1, .int x1), (2, .long (y2 ||| (if q6 = 0 then (0 : Int64) else (1 : Int64) <<< (x5.toInt64 &&& 63)))), (4, .int x4), (5, .int (x5 + (1 : Int32)))]) [2, 3, 1, 4, 0] rfl ?_
        exact ih _ _ _ hy hE
      refine g_if_eq K d_c11_dry_44 (fun c7 => ?_) (fun c7 => ?_)
      · refine g_lconst (v := 0) K d_c11_dry_54 (by decide) ?_
        exact hJ9 _ (by rw [if_pos c7])
      · refine g_lconst (v := 1) K d_c11_dry_47 (by decide) ?_
        refine g_iload K d_c11_dry_48 4 rfl ?_
        refine g_lshl K d_c11_dry_50 ?_
        refine g_goto K d_c11_dry_51 ?_
        exact hJ9 _ (by rw [if_neg c7])
set_option maxHeartbeats 4000000 in
set_option maxRecDepth 100000 in
theorem wlp_c11_dry_66 {M : gM} {X : gX} {N : Nat} (hx : gEx X = false) (K : gC M X gN11 b_c11_dry 6 (gRm (4 + N) 0 0)) (a0 : Nat) (x1 : Int32) (y2 : Int64) (h : gH) : ∀ (k : Nat) (x4 : Int32) (x5 : Int32) (o : Int32), lp_c11_dry_66 N a0 x1 h k x4 x5 = some o → gG M X 6 0 0 106 [(0, .ref a0), (2, .long y2), (4, .int o)] [] h → gG M X 6 0 0 66 [(0, .ref a0), (1, .int x1), (2, .long y2), (4, .int x4), (5, .int x5)] [] h := by
  intro k
  induction k with
  | zero =>
    intro x4 x5 o hy
    rw [lp_c11_dry_66.eq_1] at hy
    cases hy
  | succ k ih =>
    intro x4 x5 o hy hE
    rw [lp_c11_dry_66.eq_2] at hy
    refine g_iload K d_c11_dry_66 4 rfl ?_
    refine g_aload_n K d_c11_dry_68 0 rfl ?_
    obtain ⟨v11, e_v11, hy⟩ := gBd hy
    refine g_getI K fl_c11_109 d_c11_dry_69 e_v11 ?_
    refine g_icmp_ge K d_c11_dry_72 (fun c12 => ?_) (fun c12 => ?_)
    · rw [if_pos c12] at hy
      refine g_sub (ls2 := [(0, .ref a0), (2, .long y2), (4, .int x4)]) [0, 2, 3] rfl ?_
      obtain rfl := Option.some.inj hy
      exact hE
    · rw [if_neg c12] at hy
      refine g_iload K d_c11_dry_75 3 rfl ?_
      refine g_aload_n K d_c11_dry_77 0 rfl ?_
      refine g_aload_n K d_c11_dry_78 0 rfl ?_
      obtain ⟨v13, e_v13, hy⟩ := gBd hy
      refine g_getR K fl_c11_20 d_c11_dry_79 e_v13 ?_
      refine g_iload K d_c11_dry_82 4 rfl ?_
      obtain ⟨v14, e_v14, hy⟩ := gBd hy
      refine g_iald K d_c11_dry_84 e_v14 ?_
      refine g_iload_n K d_c11_dry_85 1 rfl ?_
      obtain ⟨q15, e_q15, hy⟩ := gBd hy
      refine g_callVi (rest := [.int x4]) K hx ly_c11_isDry kv_c11_331 d_c11_dry_86 (ct_c11_isDry M.2.1 X hx N a0 v14 x1 h q15 e_q15) rfl rfl (Nat.le_of_ble_eq_true rfl) (gDep rfl) ⟨Nat.le_refl 0, Nat.le_refl 0⟩ ?_
      have hJ18 : ∀ w17 : Int32, w17 = (if q15 = 0 then (0 : Int32) else (1 : Int32)) → gG M X 6 0 0 97 [(0, .ref a0), (1, .int x1), (2, .long y2), (4, .int x4), (5, .int x5)] [.int w17, .int x4] h := by
        intro w17 e_w17
        subst e_w17
        refine g_iadd K d_c11_dry_97 ?_
        refine g_istore (ls2 := [(4, .int (x4 + (if q15 = 0 then (0 : Int32) else (1 : Int32)))), (0, .ref a0), (1, .int x1), (2, .long y2), (5, .int x5)]) K d_c11_dry_98 rfl rfl ?_
        refine g_iinc (ls2 := [(5, .int (x5 + (1 : Int32))), (4, .int (x4 + (if q15 = 0 then (0 : Int32) else (1 : Int32)))), (0, .ref a0), (1, .int x1), (2, .long y2)]) (v := 1) K d_c11_dry_100 4 rfl (by decide) rfl rfl ?_
        refine g_goto K d_c11_dry_103 ?_
        refine g_sub (ls2 := [(0, .ref a0), (1, .int x1), (2, .long y2), (4, .int (x4 + (if q15 = 0 then (0 : Int32) else (1 : Int32)))), (5, .int (x5 + (1 : Int32)))]) [2, 3, 4, 1, 0] rfl ?_
        exact ih _ _ _ hy hE
      refine g_if_eq K d_c11_dry_89 (fun c16 => ?_) (fun c16 => ?_)
      · refine g_iconst (v := 0) K d_c11_dry_96 (by decide) ?_
        exact hJ18 _ (by rw [if_pos c16])
      · refine g_iconst (v := 1) K d_c11_dry_92 (by decide) ?_
        refine g_goto K d_c11_dry_93 ?_
        exact hJ18 _ (by rw [if_neg c16])
set_option maxHeartbeats 4000000 in
set_option maxRecDepth 100000 in
theorem ct_c11_dry (l : Launch) (X : gX) (hx : gEx X = false) (N : Nat) (a0 : Nat) (x1 : Int32) (h : gH) (q : Int64 × gH) (hy : f_c11_dry N a0 x1 h = some q) : gRc y_c11_dry h a0 ∧ gMl l X y_c11_dry b_c11_dry 6 (4 + N) 0 0 [.ref a0, .int x1] h q.1 q.2 := by
  unfold f_c11_dry at hy
  obtain ⟨u0, e_u0, hy⟩ := gBd hy
  cases u0
  refine ⟨Or.inl ⟨11, _, _, e_u0, rfl⟩, gMet_l (lsx := [(0, .ref a0), (1, .int x1)]) (by decide) rfl rfl ?_⟩
  intro M hMl K hret
  subst hMl
  refine g_aload_n K d_c11_dry_0 0 rfl ?_
  refine g_iconst (v := 0) K d_c11_dry_1 (by decide) ?_
  obtain ⟨h1, e_h1, hy⟩ := gBd hy
  refine g_putI K fp_c11_95 d_c11_dry_2 e_h1 ?_
  refine g_iload_n K d_c11_dry_5 1 rfl ?_
  refine g_iconst (v := 0) K d_c11_dry_6 (by decide) ?_
  refine g_bipush (v := 10) K d_c11_dry_7 (by decide) ?_
  obtain ⟨q2, e_q2, hy⟩ := gBd hy
  refine g_callSi (rest := []) K hx ly_c11_in ks_c11_105 d_c11_dry_9 (ct_c11_in M.2.1 X hx N x1 (0 : Int32) (10 : Int32) h1 q2 e_q2) rfl rfl (Nat.le_of_ble_eq_true rfl) (gDep rfl) ⟨Nat.le_refl 0, Nat.le_refl 0⟩ ?_
  refine g_if_ne K d_c11_dry_12 (fun c3 => ?_) (fun c3 => ?_)
  · rw [if_neg c3] at hy
    refine g_lconst (v := 0) K d_c11_dry_19 (by decide) ?_
    refine g_lstore_n (ls2 := [(2, .long (0 : Int64)), (0, .ref a0), (1, .int x1)]) K d_c11_dry_20 rfl rfl ?_
    refine g_iconst (v := 0) K d_c11_dry_21 (by decide) ?_
    refine g_istore (ls2 := [(4, .int (0 : Int32)), (2, .long (0 : Int64)), (0, .ref a0), (1, .int x1)]) K d_c11_dry_22 rfl rfl ?_
    refine g_iconst (v := 0) K d_c11_dry_24 (by decide) ?_
    refine g_istore (ls2 := [(5, .int (0 : Int32)), (4, .int (0 : Int32)), (2, .long (0 : Int64)), (0, .ref a0), (1, .int x1)]) K d_c11_dry_25 rfl rfl ?_
    obtain ⟨o10, e_o10, hy⟩ := gBd hy
    refine g_sub (ls2 := [(0, .ref a0), (1, .int x1), (2, .long (0 : Int64)), (4, .int (0 : Int32)), (5, .int (0 : Int32))]) [3, 4, 2, 1, 0] rfl ?_
    refine wlp_c11_dry_27 hx K a0 x1 (0 : Int32) h1 N (0 : Int64) (0 : Int32) o10 e_o10 ?_
    refine g_iconst (v := 0) K d_c11_dry_63 (by decide) ?_
    refine g_istore (ls2 := [(5, .int (0 : Int32)), (0, .ref a0), (1, .int x1), (2, .long o10), (4, .int (0 : Int32))]) K d_c11_dry_64 rfl rfl ?_
    obtain ⟨o19, e_o19, hy⟩ := gBd hy
    refine g_sub (ls2 := [(0, .ref a0), (1, .int x1), (2, .long o10), (4, .int (0 : Int32)), (5, .int (0 : Int32))]) [1, 2, 3, 4, 0] rfl ?_
    refine wlp_c11_dry_66 hx K a0 x1 o10 h1 N (0 : Int32) (0 : Int32) o19 e_o19 ?_
    refine g_aload_n K d_c11_dry_106 0 rfl ?_
    refine g_iconst (v := 0) K d_c11_dry_107 (by decide) ?_
    obtain ⟨h20, e_h20, hy⟩ := gBd hy
    refine g_putI K fp_c11_98 d_c11_dry_108 e_h20 ?_
    refine g_aload_n K d_c11_dry_111 0 rfl ?_
    refine g_lload_n K d_c11_dry_112 1 rfl ?_
    obtain ⟨q21, e_q21, hy⟩ := gBd hy
    refine g_callSi (rest := [.ref a0]) K hx ly_jLong_bitCount ks_c11_334 d_c11_dry_113 (ct_jLong_bitCount M.2.1 X hx N o10 h20 q21 e_q21) rfl rfl (Nat.le_of_ble_eq_true rfl) (gDep rfl) ⟨Nat.le_refl 0, Nat.le_refl 0⟩ ?_
    refine g_i2l K d_c11_dry_116 ?_
    obtain ⟨q22, e_q22, hy⟩ := gBd hy
    refine g_callVv (rest := []) K hx ly_c11_tell kv_c11_268 d_c11_dry_117 (ct_c11_tell M.2.1 X hx N a0 q21.toInt64 h20 q22 e_q22) rfl rfl (Nat.le_of_ble_eq_true rfl) (gDep rfl) ⟨Nat.le_refl 0, Nat.le_refl 0⟩ ?_
    refine g_aload_n K d_c11_dry_120 0 rfl ?_
    refine g_iload K d_c11_dry_121 2 rfl ?_
    refine g_i2l K d_c11_dry_123 ?_
    obtain ⟨q23, e_q23, hy⟩ := gBd hy
    refine g_callVv (rest := []) K hx ly_c11_tell kv_c11_268 d_c11_dry_124 (ct_c11_tell M.2.1 X hx N a0 o19.toInt64 q22 q23 e_q23) rfl rfl (Nat.le_of_ble_eq_true rfl) (gDep rfl) ⟨Nat.le_refl 0, Nat.le_refl 0⟩ ?_
    refine g_lload_n K d_c11_dry_127 1 rfl ?_
    obtain rfl := Option.some.inj hy
    exact hret _ _ _ d_c11_dry_128
  · rw [if_pos c3] at hy
    refine g_ldc2 (v := (-1)) K d_c11_dry_15 (gTk_7 97 rfl rfl) ?_
    obtain rfl := Option.some.inj hy
    exact hret _ _ _ d_c11_dry_18
-- c11 number
theorem d_c11_number_0 : gD b_c11_number 0 (.aload_n 0) 1 1 := ⟨by decide +kernel, rfl⟩
theorem d_c11_number_1 : gD b_c11_number 1 (.bipush 48) 2 3 := ⟨by decide +kernel, rfl⟩
theorem d_c11_number_3 : gD b_c11_number 3 (.bipush 10) 2 5 := ⟨by decide +kernel, rfl⟩
theorem d_c11_number_5 : gD b_c11_number 5 (.invokevirtual 155) 3 8 := ⟨by decide +kernel, rfl⟩
theorem d_c11_number_8 : gD b_c11_number 8 (.istore_n 2) 1 9 := ⟨by decide +kernel, rfl⟩
theorem d_c11_number_9 : gD b_c11_number 9 (.iconst 1) 1 10 := ⟨by decide +kernel, rfl⟩
theorem d_c11_number_10 : gD b_c11_number 10 (.istore_n 3) 1 11 := ⟨by decide +kernel, rfl⟩
theorem d_c11_number_11 : gD b_c11_number 11 (.iload_n 3) 1 12 := ⟨by decide +kernel, rfl⟩
theorem d_c11_number_12 : gD b_c11_number 12 (.iload_n 1) 1 13 := ⟨by decide +kernel, rfl⟩
theorem d_c11_number_13 : gJ b_c11_number 13 (.if_icmp .ge 44) 3 44 16 57 := ⟨by decide +kernel, rfl, by decide⟩
theorem d_c11_number_16 : gD b_c11_number 16 (.aload_n 0) 1 17 := ⟨by decide +kernel, rfl⟩
theorem d_c11_number_17 : gD b_c11_number 17 (.invokevirtual 140) 3 20 := ⟨by decide +kernel, rfl⟩
theorem d_c11_number_20 : gJ b_c11_number 20 (.ifCond .eq 37) 3 37 23 57 := ⟨by decide +kernel, rfl, by decide⟩
theorem d_c11_number_23 : gD b_c11_number 23 (.aload_n 0) 1 24 := ⟨by decide +kernel, rfl⟩
theorem d_c11_number_24 : gD b_c11_number 24 (.invokevirtual 144) 3 27 := ⟨by decide +kernel, rfl⟩
theorem d_c11_number_27 : gD b_c11_number 27 (.bipush 48) 2 29 := ⟨by decide +kernel, rfl⟩
theorem d_c11_number_29 : gD b_c11_number 29 (.bipush 57) 2 31 := ⟨by decide +kernel, rfl⟩
theorem d_c11_number_31 : gD b_c11_number 31 (.invokestatic 105) 3 34 := ⟨by decide +kernel, rfl⟩
theorem d_c11_number_34 : gJ b_c11_number 34 (.ifCond .eq 23) 3 23 37 57 := ⟨by decide +kernel, rfl, by decide⟩
theorem d_c11_number_37 : gD b_c11_number 37 (.bipush 10) 2 39 := ⟨by decide +kernel, rfl⟩
theorem d_c11_number_39 : gD b_c11_number 39 (.iload_n 2) 1 40 := ⟨by decide +kernel, rfl⟩
theorem d_c11_number_40 : gD b_c11_number 40 .imul 1 41 := ⟨by decide +kernel, rfl⟩
theorem d_c11_number_41 : gD b_c11_number 41 (.aload_n 0) 1 42 := ⟨by decide +kernel, rfl⟩
theorem d_c11_number_42 : gD b_c11_number 42 (.bipush 48) 2 44 := ⟨by decide +kernel, rfl⟩
theorem d_c11_number_44 : gD b_c11_number 44 (.bipush 10) 2 46 := ⟨by decide +kernel, rfl⟩
theorem d_c11_number_46 : gD b_c11_number 46 (.invokevirtual 155) 3 49 := ⟨by decide +kernel, rfl⟩
theorem d_c11_number_49 : gD b_c11_number 49 .iadd 1 50 := ⟨by decide +kernel, rfl⟩
theorem d_c11_number_50 : gD b_c11_number 50 (.istore_n 2) 1 51 := ⟨by decide +kernel, rfl⟩
theorem d_c11_number_51 : gD b_c11_number 51 (.iinc 3 1) 3 54 := ⟨by decide +kernel, rfl⟩
theorem d_c11_number_54 : gJ b_c11_number 54 (.goto (-43)) 3 (-43) 57 11 := ⟨by decide +kernel, rfl, by decide⟩
theorem d_c11_number_57 : gD b_c11_number 57 (.iload_n 2) 1 58 := ⟨by decide +kernel, rfl⟩
theorem d_c11_number_58 : gD b_c11_number 58 .ireturn 1 59 := ⟨by decide +kernel, rfl⟩
def lp_c11_number_11 (N : Nat) (a0 : Nat) (x1 : Int32) : Nat → Int32 → Int32 → gH → Option (Int32 × gH)
  | 0, _, _, _ => none
  | k + 1, x2, x3, h =>
  if x1 ≤ x3 then
    some (x2, h)
  else
    (f_c11_fine N a0 h).bind fun q3 =>
    if q3 = 0 then
    some (x2, h)
  else
    (f_c11_here N a0 h).bind fun q5 =>
    (f_c11_in N q5 (48 : Int32) (57 : Int32) h).bind fun q6 =>
    if q6 = 0 then
    some (x2, h)
  else
    (f_c11_oneOf N a0 (48 : Int32) (10 : Int32) h).bind fun q8 =>
    lp_c11_number_11 N a0 x1 k (((10 : Int32) * x2) + q8.1) (x3 + (1 : Int32)) q8.2
def f_c11_number (N : Nat) (a0 : Nat) (x1 : Int32) (h : gH) : Option (Int32 × gH) :=
  (gcl h a0 11).bind fun _ =>
  (f_c11_oneOf N a0 (48 : Int32) (10 : Int32) h).bind fun q1 =>
    (lp_c11_number_11 N a0 x1 N q1.1 (1 : Int32) q1.2).bind fun o9 =>
    some (o9.1, o9.2)
set_option maxHeartbeats 4000000 in
set_option maxRecDepth 100000 in
theorem wlp_c11_number_11 {M : gM} {X : gX} {N : Nat} (hx : gEx X = false) (K : gC M X gN11 b_c11_number 4 (gRm (4 + N) 0 0)) (a0 : Nat) (x1 : Int32) : ∀ (k : Nat) (x2 : Int32) (x3 : Int32) (h : gH) (o : Int32 × gH), lp_c11_number_11 N a0 x1 k x2 x3 h = some o → gG M X 4 0 0 57 [(2, .int o.1)] [] o.2 → gG M X 4 0 0 11 [(0, .ref a0), (1, .int x1), (2, .int x2), (3, .int x3)] [] h := by
  intro k
  induction k with
  | zero =>
    intro x2 x3 h o hy
    rw [lp_c11_number_11.eq_1] at hy
    cases hy
  | succ k ih =>
    intro x2 x3 h o hy hE
    rw [lp_c11_number_11.eq_2] at hy
    refine g_iload_n K d_c11_number_11 3 rfl ?_
    refine g_iload_n K d_c11_number_12 1 rfl ?_
    refine g_icmp_ge K d_c11_number_13 (fun c2 => ?_) (fun c2 => ?_)
    · rw [if_pos c2] at hy
      refine g_sub (ls2 := [(2, .int x2)]) [2] rfl ?_
      obtain rfl := Option.some.inj hy
      exact hE
    · rw [if_neg c2] at hy
      refine g_aload_n K d_c11_number_16 0 rfl ?_
      obtain ⟨q3, e_q3, hy⟩ := gBd hy
      refine g_callVi (rest := []) K hx ly_c11_fine kv_c11_140 d_c11_number_17 (ct_c11_fine M.2.1 X hx N a0 h q3 e_q3) rfl rfl (Nat.le_of_ble_eq_true rfl) (gDep rfl) ⟨Nat.le_refl 0, Nat.le_refl 0⟩ ?_
      refine g_if_eq K d_c11_number_20 (fun c4 => ?_) (fun c4 => ?_)
      · rw [if_pos c4] at hy
        refine g_sub (ls2 := [(2, .int x2)]) [2] rfl ?_
        obtain rfl := Option.some.inj hy
        exact hE
      · rw [if_neg c4] at hy
        refine g_aload_n K d_c11_number_23 0 rfl ?_
        obtain ⟨q5, e_q5, hy⟩ := gBd hy
        refine g_callVi (rest := []) K hx ly_c11_here kv_c11_144 d_c11_number_24 (ct_c11_here M.2.1 X hx N a0 h q5 e_q5) rfl rfl (Nat.le_of_ble_eq_true rfl) (gDep rfl) ⟨Nat.le_refl 0, Nat.le_refl 0⟩ ?_
        refine g_bipush (v := 48) K d_c11_number_27 (by decide) ?_
        refine g_bipush (v := 57) K d_c11_number_29 (by decide) ?_
        obtain ⟨q6, e_q6, hy⟩ := gBd hy
        refine g_callSi (rest := []) K hx ly_c11_in ks_c11_105 d_c11_number_31 (ct_c11_in M.2.1 X hx N q5 (48 : Int32) (57 : Int32) h q6 e_q6) rfl rfl (Nat.le_of_ble_eq_true rfl) (gDep rfl) ⟨Nat.le_refl 0, Nat.le_refl 0⟩ ?_
        refine g_if_eq K d_c11_number_34 (fun c7 => ?_) (fun c7 => ?_)
        · rw [if_pos c7] at hy
          refine g_sub (ls2 := [(2, .int x2)]) [2] rfl ?_
          obtain rfl := Option.some.inj hy
          exact hE
        · rw [if_neg c7] at hy
          refine g_bipush (v := 10) K d_c11_number_37 (by decide) ?_
          refine g_iload_n K d_c11_number_39 2 rfl ?_
          refine g_imul K d_c11_number_40 ?_
          refine g_aload_n K d_c11_number_41 0 rfl ?_
          refine g_bipush (v := 48) K d_c11_number_42 (by decide) ?_
          refine g_bipush (v := 10) K d_c11_number_44 (by decide) ?_
          obtain ⟨q8, e_q8, hy⟩ := gBd hy
          refine g_callVi (rest := [.int ((10 : Int32) * x2)]) K hx ly_c11_oneOf kv_c11_155 d_c11_number_46 (ct_c11_oneOf M.2.1 X hx N a0 (48 : Int32) (10 : Int32) h q8 e_q8) rfl rfl (Nat.le_of_ble_eq_true rfl) (gDep rfl) ⟨Nat.le_refl 0, Nat.le_refl 0⟩ ?_
          refine g_iadd K d_c11_number_49 ?_
          refine g_istore_n (ls2 := [(2, .int (((10 : Int32) * x2) + q8.1)), (0, .ref a0), (1, .int x1), (3, .int x3)]) K d_c11_number_50 rfl rfl ?_
          refine g_iinc (ls2 := [(3, .int (x3 + (1 : Int32))), (2, .int (((10 : Int32) * x2) + q8.1)), (0, .ref a0), (1, .int x1)]) (v := 1) K d_c11_number_51 3 rfl (by decide) rfl rfl ?_
          refine g_goto K d_c11_number_54 ?_
          refine g_sub (ls2 := [(0, .ref a0), (1, .int x1), (2, .int (((10 : Int32) * x2) + q8.1)), (3, .int (x3 + (1 : Int32)))]) [2, 3, 1, 0] rfl ?_
          exact ih _ _ _ _ hy hE
set_option maxHeartbeats 4000000 in
set_option maxRecDepth 100000 in
theorem ct_c11_number (l : Launch) (X : gX) (hx : gEx X = false) (N : Nat) (a0 : Nat) (x1 : Int32) (h : gH) (q : Int32 × gH) (hy : f_c11_number N a0 x1 h = some q) : gRc y_c11_number h a0 ∧ gMi l X y_c11_number b_c11_number 4 .int (4 + N) 0 0 [.ref a0, .int x1] h q.1 q.2 := by
  unfold f_c11_number at hy
  obtain ⟨u0, e_u0, hy⟩ := gBd hy
  cases u0
  refine ⟨Or.inl ⟨11, _, _, e_u0, rfl⟩, gMet_i (lsx := [(0, .ref a0), (1, .int x1)]) (by decide) rfl rfl ?_⟩
  intro M hMl K hret
  subst hMl
  refine g_aload_n K d_c11_number_0 0 rfl ?_
  refine g_bipush (v := 48) K d_c11_number_1 (by decide) ?_
  refine g_bipush (v := 10) K d_c11_number_3 (by decide) ?_
  obtain ⟨q1, e_q1, hy⟩ := gBd hy
  refine g_callVi (rest := []) K hx ly_c11_oneOf kv_c11_155 d_c11_number_5 (ct_c11_oneOf M.2.1 X hx N a0 (48 : Int32) (10 : Int32) h q1 e_q1) rfl rfl (Nat.le_of_ble_eq_true rfl) (gDep rfl) ⟨Nat.le_refl 0, Nat.le_refl 0⟩ ?_
  refine g_istore_n (ls2 := [(2, .int q1.1), (0, .ref a0), (1, .int x1)]) K d_c11_number_8 rfl rfl ?_
  refine g_iconst (v := 1) K d_c11_number_9 (by decide) ?_
  refine g_istore_n (ls2 := [(3, .int (1 : Int32)), (2, .int q1.1), (0, .ref a0), (1, .int x1)]) K d_c11_number_10 rfl rfl ?_
  obtain ⟨o9, e_o9, hy⟩ := gBd hy
  refine g_sub (ls2 := [(0, .ref a0), (1, .int x1), (2, .int q1.1), (3, .int (1 : Int32))]) [2, 3, 1, 0] rfl ?_
  refine wlp_c11_number_11 hx K a0 x1 N q1.1 (1 : Int32) q1.2 o9 e_o9 ?_
  refine g_iload_n K d_c11_number_57 0 rfl ?_
  obtain rfl := Option.some.inj hy
  exact hret rfl _ _ _ d_c11_number_58
-- c11 plain
theorem d_c11_plain_0 : gD b_c11_plain 0 (.aload_n 0) 1 1 := ⟨by decide +kernel, rfl⟩
theorem d_c11_plain_1 : gD b_c11_plain 1 (.iconst 0) 1 2 := ⟨by decide +kernel, rfl⟩
theorem d_c11_plain_2 : gD b_c11_plain 2 (.putfield 95) 3 5 := ⟨by decide +kernel, rfl⟩
theorem d_c11_plain_5 : gD b_c11_plain 5 (.aload_n 0) 1 6 := ⟨by decide +kernel, rfl⟩
theorem d_c11_plain_6 : gD b_c11_plain 6 (.bipush 38) 2 8 := ⟨by decide +kernel, rfl⟩
theorem d_c11_plain_8 : gD b_c11_plain 8 (.invokevirtual 165) 3 11 := ⟨by decide +kernel, rfl⟩
theorem d_c11_plain_11 : gD b_c11_plain 11 (.aload_n 0) 1 12 := ⟨by decide +kernel, rfl⟩
theorem d_c11_plain_12 : gD b_c11_plain 12 (.bipush 51) 2 14 := ⟨by decide +kernel, rfl⟩
theorem d_c11_plain_14 : gD b_c11_plain 14 (.iconst 4) 1 15 := ⟨by decide +kernel, rfl⟩
theorem d_c11_plain_15 : gD b_c11_plain 15 (.invokevirtual 155) 3 18 := ⟨by decide +kernel, rfl⟩
theorem d_c11_plain_18 : gD b_c11_plain 18 (.iconst 3) 1 19 := ⟨by decide +kernel, rfl⟩
theorem d_c11_plain_19 : gD b_c11_plain 19 .iadd 1 20 := ⟨by decide +kernel, rfl⟩
theorem d_c11_plain_20 : gD b_c11_plain 20 (.istore_n 1) 1 21 := ⟨by decide +kernel, rfl⟩
theorem d_c11_plain_21 : gD b_c11_plain 21 (.aload_n 0) 1 22 := ⟨by decide +kernel, rfl⟩
theorem d_c11_plain_22 : gD b_c11_plain 22 (.bipush 51) 2 24 := ⟨by decide +kernel, rfl⟩
theorem d_c11_plain_24 : gD b_c11_plain 24 (.iconst 4) 1 25 := ⟨by decide +kernel, rfl⟩
theorem d_c11_plain_25 : gD b_c11_plain 25 (.invokevirtual 155) 3 28 := ⟨by decide +kernel, rfl⟩
theorem d_c11_plain_28 : gD b_c11_plain 28 (.iconst 3) 1 29 := ⟨by decide +kernel, rfl⟩
theorem d_c11_plain_29 : gD b_c11_plain 29 .iadd 1 30 := ⟨by decide +kernel, rfl⟩
theorem d_c11_plain_30 : gD b_c11_plain 30 (.istore_n 2) 1 31 := ⟨by decide +kernel, rfl⟩
theorem d_c11_plain_31 : gD b_c11_plain 31 (.iconst 0) 1 32 := ⟨by decide +kernel, rfl⟩
theorem d_c11_plain_32 : gD b_c11_plain 32 (.istore_n 3) 1 33 := ⟨by decide +kernel, rfl⟩
theorem d_c11_plain_33 : gD b_c11_plain 33 (.iconst 0) 1 34 := ⟨by decide +kernel, rfl⟩
theorem d_c11_plain_34 : gD b_c11_plain 34 (.istore 4) 2 36 := ⟨by decide +kernel, rfl⟩
theorem d_c11_plain_36 : gD b_c11_plain 36 (.iload 4) 2 38 := ⟨by decide +kernel, rfl⟩
theorem d_c11_plain_38 : gD b_c11_plain 38 (.iload_n 1) 1 39 := ⟨by decide +kernel, rfl⟩
theorem d_c11_plain_39 : gD b_c11_plain 39 (.iload_n 2) 1 40 := ⟨by decide +kernel, rfl⟩
theorem d_c11_plain_40 : gD b_c11_plain 40 .imul 1 41 := ⟨by decide +kernel, rfl⟩
theorem d_c11_plain_41 : gJ b_c11_plain 41 (.if_icmp .ge 119) 3 119 44 160 := ⟨by decide +kernel, rfl, by decide⟩
theorem d_c11_plain_44 : gD b_c11_plain 44 (.aload_n 0) 1 45 := ⟨by decide +kernel, rfl⟩
theorem d_c11_plain_45 : gD b_c11_plain 45 (.invokevirtual 140) 3 48 := ⟨by decide +kernel, rfl⟩
theorem d_c11_plain_48 : gJ b_c11_plain 48 (.ifCond .eq 112) 3 112 51 160 := ⟨by decide +kernel, rfl, by decide⟩
theorem d_c11_plain_51 : gD b_c11_plain 51 (.aload_n 0) 1 52 := ⟨by decide +kernel, rfl⟩
theorem d_c11_plain_52 : gD b_c11_plain 52 (.getfield 34) 3 55 := ⟨by decide +kernel, rfl⟩
theorem d_c11_plain_55 : gD b_c11_plain 55 (.iload 4) 2 57 := ⟨by decide +kernel, rfl⟩
theorem d_c11_plain_57 : gD b_c11_plain 57 (.aload_n 0) 1 58 := ⟨by decide +kernel, rfl⟩
theorem d_c11_plain_58 : gD b_c11_plain 58 (.invokevirtual 144) 3 61 := ⟨by decide +kernel, rfl⟩
theorem d_c11_plain_61 : gD b_c11_plain 61 (.bipush 49) 2 63 := ⟨by decide +kernel, rfl⟩
theorem d_c11_plain_63 : gD b_c11_plain 63 (.bipush 54) 2 65 := ⟨by decide +kernel, rfl⟩
theorem d_c11_plain_65 : gD b_c11_plain 65 (.invokestatic 105) 3 68 := ⟨by decide +kernel, rfl⟩
theorem d_c11_plain_68 : gJ b_c11_plain 68 (.ifCond .eq 13) 3 13 71 81 := ⟨by decide +kernel, rfl, by decide⟩
theorem d_c11_plain_71 : gD b_c11_plain 71 (.aload_n 0) 1 72 := ⟨by decide +kernel, rfl⟩
theorem d_c11_plain_72 : gD b_c11_plain 72 (.invokevirtual 144) 3 75 := ⟨by decide +kernel, rfl⟩
theorem d_c11_plain_75 : gD b_c11_plain 75 (.bipush 48) 2 77 := ⟨by decide +kernel, rfl⟩
theorem d_c11_plain_77 : gD b_c11_plain 77 .isub 1 78 := ⟨by decide +kernel, rfl⟩
theorem d_c11_plain_78 : gJ b_c11_plain 78 (.goto 4) 3 4 81 82 := ⟨by decide +kernel, rfl, by decide⟩
theorem d_c11_plain_81 : gD b_c11_plain 81 (.iconst 0) 1 82 := ⟨by decide +kernel, rfl⟩
theorem d_c11_plain_82 : gD b_c11_plain 82 .iastore 1 83 := ⟨by decide +kernel, rfl⟩
theorem d_c11_plain_83 : gD b_c11_plain 83 (.aload_n 0) 1 84 := ⟨by decide +kernel, rfl⟩
theorem d_c11_plain_84 : gD b_c11_plain 84 (.getfield 34) 3 87 := ⟨by decide +kernel, rfl⟩
theorem d_c11_plain_87 : gD b_c11_plain 87 (.iload 4) 2 89 := ⟨by decide +kernel, rfl⟩
theorem d_c11_plain_89 : gD b_c11_plain 89 .iaload 1 90 := ⟨by decide +kernel, rfl⟩
theorem d_c11_plain_90 : gJ b_c11_plain 90 (.ifCond .ne 12) 3 12 93 102 := ⟨by decide +kernel, rfl, by decide⟩
theorem d_c11_plain_93 : gD b_c11_plain 93 (.aload_n 0) 1 94 := ⟨by decide +kernel, rfl⟩
theorem d_c11_plain_94 : gD b_c11_plain 94 (.invokevirtual 144) 3 97 := ⟨by decide +kernel, rfl⟩
theorem d_c11_plain_97 : gD b_c11_plain 97 (.bipush 46) 2 99 := ⟨by decide +kernel, rfl⟩
theorem d_c11_plain_99 : gJ b_c11_plain 99 (.if_icmp .ne 19) 3 19 102 118 := ⟨by decide +kernel, rfl, by decide⟩
theorem d_c11_plain_102 : gD b_c11_plain 102 (.aload_n 0) 1 103 := ⟨by decide +kernel, rfl⟩
theorem d_c11_plain_103 : gD b_c11_plain 103 (.getfield 34) 3 106 := ⟨by decide +kernel, rfl⟩
theorem d_c11_plain_106 : gD b_c11_plain 106 (.iload 4) 2 108 := ⟨by decide +kernel, rfl⟩
theorem d_c11_plain_108 : gD b_c11_plain 108 .iaload 1 109 := ⟨by decide +kernel, rfl⟩
theorem d_c11_plain_109 : gJ b_c11_plain 109 (.ifCond .le 17) 3 17 112 126 := ⟨by decide +kernel, rfl, by decide⟩
theorem d_c11_plain_112 : gD b_c11_plain 112 (.iload_n 3) 1 113 := ⟨by decide +kernel, rfl⟩
theorem d_c11_plain_113 : gD b_c11_plain 113 (.bipush 6) 2 115 := ⟨by decide +kernel, rfl⟩
theorem d_c11_plain_115 : gJ b_c11_plain 115 (.if_icmp .ne 11) 3 11 118 126 := ⟨by decide +kernel, rfl, by decide⟩
theorem d_c11_plain_118 : gD b_c11_plain 118 (.aload_n 0) 1 119 := ⟨by decide +kernel, rfl⟩
theorem d_c11_plain_119 : gD b_c11_plain 119 (.aload_n 0) 1 120 := ⟨by decide +kernel, rfl⟩
theorem d_c11_plain_120 : gD b_c11_plain 120 (.getfield 130) 3 123 := ⟨by decide +kernel, rfl⟩
theorem d_c11_plain_123 : gD b_c11_plain 123 (.invokevirtual 151) 3 126 := ⟨by decide +kernel, rfl⟩
theorem d_c11_plain_126 : gD b_c11_plain 126 (.iload_n 3) 1 127 := ⟨by decide +kernel, rfl⟩
theorem d_c11_plain_127 : gD b_c11_plain 127 (.aload_n 0) 1 128 := ⟨by decide +kernel, rfl⟩
theorem d_c11_plain_128 : gD b_c11_plain 128 (.getfield 34) 3 131 := ⟨by decide +kernel, rfl⟩
theorem d_c11_plain_131 : gD b_c11_plain 131 (.iload 4) 2 133 := ⟨by decide +kernel, rfl⟩
theorem d_c11_plain_133 : gD b_c11_plain 133 .iaload 1 134 := ⟨by decide +kernel, rfl⟩
theorem d_c11_plain_134 : gJ b_c11_plain 134 (.ifCond .le 7) 3 7 137 141 := ⟨by decide +kernel, rfl, by decide⟩
theorem d_c11_plain_137 : gD b_c11_plain 137 (.iconst 1) 1 138 := ⟨by decide +kernel, rfl⟩
theorem d_c11_plain_138 : gJ b_c11_plain 138 (.goto 4) 3 4 141 142 := ⟨by decide +kernel, rfl, by decide⟩
theorem d_c11_plain_141 : gD b_c11_plain 141 (.iconst 0) 1 142 := ⟨by decide +kernel, rfl⟩
theorem d_c11_plain_142 : gD b_c11_plain 142 .iadd 1 143 := ⟨by decide +kernel, rfl⟩
theorem d_c11_plain_143 : gD b_c11_plain 143 (.istore_n 3) 1 144 := ⟨by decide +kernel, rfl⟩
theorem d_c11_plain_144 : gD b_c11_plain 144 (.aload_n 0) 1 145 := ⟨by decide +kernel, rfl⟩
theorem d_c11_plain_145 : gD b_c11_plain 145 .dup 1 146 := ⟨by decide +kernel, rfl⟩
theorem d_c11_plain_146 : gD b_c11_plain 146 (.getfield 130) 3 149 := ⟨by decide +kernel, rfl⟩
theorem d_c11_plain_149 : gD b_c11_plain 149 (.iconst 1) 1 150 := ⟨by decide +kernel, rfl⟩
theorem d_c11_plain_150 : gD b_c11_plain 150 .iadd 1 151 := ⟨by decide +kernel, rfl⟩
theorem d_c11_plain_151 : gD b_c11_plain 151 (.putfield 130) 3 154 := ⟨by decide +kernel, rfl⟩
theorem d_c11_plain_154 : gD b_c11_plain 154 (.iinc 4 1) 3 157 := ⟨by decide +kernel, rfl⟩
theorem d_c11_plain_157 : gJ b_c11_plain 157 (.goto (-121)) 3 (-121) 160 36 := ⟨by decide +kernel, rfl, by decide⟩
theorem d_c11_plain_160 : gD b_c11_plain 160 (.aload_n 0) 1 161 := ⟨by decide +kernel, rfl⟩
theorem d_c11_plain_161 : gD b_c11_plain 161 (.invokevirtual 168) 3 164 := ⟨by decide +kernel, rfl⟩
theorem d_c11_plain_164 : gJ b_c11_plain 164 (.ifCond .ne 10) 3 10 167 174 := ⟨by decide +kernel, rfl, by decide⟩
theorem d_c11_plain_167 : gD b_c11_plain 167 (.iconst (-1)) 1 168 := ⟨by decide +kernel, rfl⟩
theorem d_c11_plain_168 : gD b_c11_plain 168 (.aload_n 0) 1 169 := ⟨by decide +kernel, rfl⟩
theorem d_c11_plain_169 : gD b_c11_plain 169 (.getfield 133) 3 172 := ⟨by decide +kernel, rfl⟩
theorem d_c11_plain_172 : gD b_c11_plain 172 .isub 1 173 := ⟨by decide +kernel, rfl⟩
theorem d_c11_plain_173 : gD b_c11_plain 173 .ireturn 1 174 := ⟨by decide +kernel, rfl⟩
theorem d_c11_plain_174 : gD b_c11_plain 174 (.aload_n 0) 1 175 := ⟨by decide +kernel, rfl⟩
theorem d_c11_plain_175 : gD b_c11_plain 175 (.iload_n 1) 1 176 := ⟨by decide +kernel, rfl⟩
theorem d_c11_plain_176 : gD b_c11_plain 176 (.putfield 13) 3 179 := ⟨by decide +kernel, rfl⟩
theorem d_c11_plain_179 : gD b_c11_plain 179 (.aload_n 0) 1 180 := ⟨by decide +kernel, rfl⟩
theorem d_c11_plain_180 : gD b_c11_plain 180 (.iload_n 2) 1 181 := ⟨by decide +kernel, rfl⟩
theorem d_c11_plain_181 : gD b_c11_plain 181 (.putfield 17) 3 184 := ⟨by decide +kernel, rfl⟩
theorem d_c11_plain_184 : gD b_c11_plain 184 (.aload_n 0) 1 185 := ⟨by decide +kernel, rfl⟩
theorem d_c11_plain_185 : gD b_c11_plain 185 (.iconst 0) 1 186 := ⟨by decide +kernel, rfl⟩
theorem d_c11_plain_186 : gD b_c11_plain 186 (.putfield 109) 3 189 := ⟨by decide +kernel, rfl⟩
theorem d_c11_plain_189 : gD b_c11_plain 189 (.iconst 0) 1 190 := ⟨by decide +kernel, rfl⟩
theorem d_c11_plain_190 : gD b_c11_plain 190 (.istore 4) 2 192 := ⟨by decide +kernel, rfl⟩
theorem d_c11_plain_192 : gD b_c11_plain 192 (.iload 4) 2 194 := ⟨by decide +kernel, rfl⟩
theorem d_c11_plain_194 : gD b_c11_plain 194 (.iload_n 1) 1 195 := ⟨by decide +kernel, rfl⟩
theorem d_c11_plain_195 : gD b_c11_plain 195 (.iload_n 2) 1 196 := ⟨by decide +kernel, rfl⟩
theorem d_c11_plain_196 : gD b_c11_plain 196 .imul 1 197 := ⟨by decide +kernel, rfl⟩
theorem d_c11_plain_197 : gJ b_c11_plain 197 (.if_icmp .ge 59) 3 59 200 256 := ⟨by decide +kernel, rfl, by decide⟩
theorem d_c11_plain_200 : gD b_c11_plain 200 (.aload_n 0) 1 201 := ⟨by decide +kernel, rfl⟩
theorem d_c11_plain_201 : gD b_c11_plain 201 (.getfield 34) 3 204 := ⟨by decide +kernel, rfl⟩
theorem d_c11_plain_204 : gD b_c11_plain 204 (.iload 4) 2 206 := ⟨by decide +kernel, rfl⟩
theorem d_c11_plain_206 : gD b_c11_plain 206 .iaload 1 207 := ⟨by decide +kernel, rfl⟩
theorem d_c11_plain_207 : gJ b_c11_plain 207 (.ifCond .ne 6) 3 6 210 213 := ⟨by decide +kernel, rfl, by decide⟩
theorem d_c11_plain_210 : gJ b_c11_plain 210 (.goto 40) 3 40 213 250 := ⟨by decide +kernel, rfl, by decide⟩
theorem d_c11_plain_213 : gD b_c11_plain 213 (.aload_n 0) 1 214 := ⟨by decide +kernel, rfl⟩
theorem d_c11_plain_214 : gD b_c11_plain 214 (.getfield 20) 3 217 := ⟨by decide +kernel, rfl⟩
theorem d_c11_plain_217 : gD b_c11_plain 217 (.aload_n 0) 1 218 := ⟨by decide +kernel, rfl⟩
theorem d_c11_plain_218 : gD b_c11_plain 218 (.getfield 109) 3 221 := ⟨by decide +kernel, rfl⟩
theorem d_c11_plain_221 : gD b_c11_plain 221 (.iload 4) 2 223 := ⟨by decide +kernel, rfl⟩
theorem d_c11_plain_223 : gD b_c11_plain 223 .iastore 1 224 := ⟨by decide +kernel, rfl⟩
theorem d_c11_plain_224 : gD b_c11_plain 224 (.aload_n 0) 1 225 := ⟨by decide +kernel, rfl⟩
theorem d_c11_plain_225 : gD b_c11_plain 225 (.getfield 23) 3 228 := ⟨by decide +kernel, rfl⟩
theorem d_c11_plain_228 : gD b_c11_plain 228 (.aload_n 0) 1 229 := ⟨by decide +kernel, rfl⟩
theorem d_c11_plain_229 : gD b_c11_plain 229 (.getfield 109) 3 232 := ⟨by decide +kernel, rfl⟩
theorem d_c11_plain_232 : gD b_c11_plain 232 (.aload_n 0) 1 233 := ⟨by decide +kernel, rfl⟩
theorem d_c11_plain_233 : gD b_c11_plain 233 (.getfield 34) 3 236 := ⟨by decide +kernel, rfl⟩
theorem d_c11_plain_236 : gD b_c11_plain 236 (.iload 4) 2 238 := ⟨by decide +kernel, rfl⟩
theorem d_c11_plain_238 : gD b_c11_plain 238 .iaload 1 239 := ⟨by decide +kernel, rfl⟩
theorem d_c11_plain_239 : gD b_c11_plain 239 .iastore 1 240 := ⟨by decide +kernel, rfl⟩
theorem d_c11_plain_240 : gD b_c11_plain 240 (.aload_n 0) 1 241 := ⟨by decide +kernel, rfl⟩
theorem d_c11_plain_241 : gD b_c11_plain 241 .dup 1 242 := ⟨by decide +kernel, rfl⟩
theorem d_c11_plain_242 : gD b_c11_plain 242 (.getfield 109) 3 245 := ⟨by decide +kernel, rfl⟩
theorem d_c11_plain_245 : gD b_c11_plain 245 (.iconst 1) 1 246 := ⟨by decide +kernel, rfl⟩
theorem d_c11_plain_246 : gD b_c11_plain 246 .iadd 1 247 := ⟨by decide +kernel, rfl⟩
theorem d_c11_plain_247 : gD b_c11_plain 247 (.putfield 109) 3 250 := ⟨by decide +kernel, rfl⟩
theorem d_c11_plain_250 : gD b_c11_plain 250 (.iinc 4 1) 3 253 := ⟨by decide +kernel, rfl⟩
theorem d_c11_plain_253 : gJ b_c11_plain 253 (.goto (-61)) 3 (-61) 256 192 := ⟨by decide +kernel, rfl, by decide⟩
theorem d_c11_plain_256 : gD b_c11_plain 256 (.aload_n 0) 1 257 := ⟨by decide +kernel, rfl⟩
theorem d_c11_plain_257 : gD b_c11_plain 257 (.getfield 9) 3 260 := ⟨by decide +kernel, rfl⟩
theorem d_c11_plain_260 : gD b_c11_plain 260 (.bipush 40) 2 262 := ⟨by decide +kernel, rfl⟩
theorem d_c11_plain_262 : gD b_c11_plain 262 (.iconst 0) 1 263 := ⟨by decide +kernel, rfl⟩
theorem d_c11_plain_263 : gD b_c11_plain 263 .iastore 1 264 := ⟨by decide +kernel, rfl⟩
theorem d_c11_plain_264 : gD b_c11_plain 264 (.aload_n 0) 1 265 := ⟨by decide +kernel, rfl⟩
theorem d_c11_plain_265 : gD b_c11_plain 265 (.getfield 9) 3 268 := ⟨by decide +kernel, rfl⟩
theorem d_c11_plain_268 : gD b_c11_plain 268 (.bipush 41) 2 270 := ⟨by decide +kernel, rfl⟩
theorem d_c11_plain_270 : gD b_c11_plain 270 (.iconst 0) 1 271 := ⟨by decide +kernel, rfl⟩
theorem d_c11_plain_271 : gD b_c11_plain 271 .iastore 1 272 := ⟨by decide +kernel, rfl⟩
theorem d_c11_plain_272 : gD b_c11_plain 272 (.aload_n 0) 1 273 := ⟨by decide +kernel, rfl⟩
theorem d_c11_plain_273 : gD b_c11_plain 273 (.getfield 9) 3 276 := ⟨by decide +kernel, rfl⟩
theorem d_c11_plain_276 : gD b_c11_plain 276 (.bipush 42) 2 278 := ⟨by decide +kernel, rfl⟩
theorem d_c11_plain_278 : gD b_c11_plain 278 (.iconst 0) 1 279 := ⟨by decide +kernel, rfl⟩
theorem d_c11_plain_279 : gD b_c11_plain 279 .iastore 1 280 := ⟨by decide +kernel, rfl⟩
theorem d_c11_plain_280 : gD b_c11_plain 280 (.aload_n 0) 1 281 := ⟨by decide +kernel, rfl⟩
theorem d_c11_plain_281 : gD b_c11_plain 281 (.invokevirtual 171) 3 284 := ⟨by decide +kernel, rfl⟩
theorem d_c11_plain_284 : gD b_c11_plain 284 (.iload_n 1) 1 285 := ⟨by decide +kernel, rfl⟩
theorem d_c11_plain_285 : gD b_c11_plain 285 (.iload_n 2) 1 286 := ⟨by decide +kernel, rfl⟩
theorem d_c11_plain_286 : gD b_c11_plain 286 .imul 1 287 := ⟨by decide +kernel, rfl⟩
theorem d_c11_plain_287 : gD b_c11_plain 287 .ireturn 1 288 := ⟨by decide +kernel, rfl⟩
def lp_c11_plain_36 (N : Nat) (a0 : Nat) (x1 : Int32) (x2 : Int32) : Nat → Int32 → Int32 → gH → Option (gH)
  | 0, _, _, _ => none
  | k + 1, x3, x4, h =>
  if (x1 * x2) ≤ x4 then
    some h
  else
    (f_c11_fine N a0 h).bind fun q6 =>
    if q6 = 0 then
    some h
  else
    (gfR h a0 11 16).bind fun v8 =>
    (f_c11_here N a0 h).bind fun q9 =>
    (f_c11_in N q9 (49 : Int32) (54 : Int32) h).bind fun q10 =>
    (show Option (Int32) from if q10 = 0 then
    some (0 : Int32)
  else
    (f_c11_here N a0 h).bind fun q43 =>
    some (q43 - (48 : Int32))).bind fun t12 =>
    (sa 0 h v8 x4 t12).bind fun h14 =>
    (gfR h14 a0 11 16).bind fun v15 =>
    (ga 0 h14 v15 x4).bind fun v16 =>
    (show Option (gH) from if v16 = 0 then
    (f_c11_here N a0 h14).bind fun q33 =>
    if q33 = (46 : Int32) then
    (gfR h14 a0 11 16).bind fun v37 =>
    (ga 0 h14 v37 x4).bind fun v38 =>
    if v38 ≤ 0 then
    some h14
  else
    if x3 = (6 : Int32) then
    (gfI h14 a0 11 14).bind fun v41 =>
    (f_c11_fault N a0 v41 h14).bind fun q42 =>
    some q42
  else
    some h14
  else
    (gfI h14 a0 11 14).bind fun v35 =>
    (f_c11_fault N a0 v35 h14).bind fun q36 =>
    some q36
  else
    (gfR h14 a0 11 16).bind fun v27 =>
    (ga 0 h14 v27 x4).bind fun v28 =>
    if v28 ≤ 0 then
    some h14
  else
    if x3 = (6 : Int32) then
    (gfI h14 a0 11 14).bind fun v31 =>
    (f_c11_fault N a0 v31 h14).bind fun q32 =>
    some q32
  else
    some h14).bind fun t18 =>
    (gfR t18 a0 11 16).bind fun v20 =>
    (ga 0 t18 v20 x4).bind fun v21 =>
    (gfI t18 a0 11 14).bind fun v25 =>
    (sf t18 a0 11 14 (.int (v25 + (1 : Int32)))).bind fun h26 =>
    lp_c11_plain_36 N a0 x1 x2 k (x3 + (if v21 ≤ 0 then (0 : Int32) else (1 : Int32))) (x4 + (1 : Int32)) h26
def lp_c11_plain_192 (N : Nat) (a0 : Nat) (x1 : Int32) (x2 : Int32) : Nat → Int32 → gH → Option (gH)
  | 0, _, _ => none
  | k + 1, x4, h =>
  if (x1 * x2) ≤ x4 then
    some h
  else
    (gfR h a0 11 16).bind fun v51 =>
    (ga 0 h v51 x4).bind fun v52 =>
    (show Option (gH) from if v52 = 0 then
    some h
  else
    (gfR h a0 11 4).bind fun v56 =>
    (gfI h a0 11 3).bind fun v57 =>
    (sa 0 h v56 v57 x4).bind fun h58 =>
    (gfR h58 a0 11 5).bind fun v59 =>
    (gfI h58 a0 11 3).bind fun v60 =>
    (gfR h58 a0 11 16).bind fun v61 =>
    (ga 0 h58 v61 x4).bind fun v62 =>
    (sa 0 h58 v59 v60 v62).bind fun h63 =>
    (gfI h63 a0 11 3).bind fun v64 =>
    (sf h63 a0 11 3 (.int (v64 + (1 : Int32)))).bind fun h65 =>
    some h65).bind fun t54 =>
    lp_c11_plain_192 N a0 x1 x2 k (x4 + (1 : Int32)) t54
def f_c11_plain (N : Nat) (a0 : Nat) (h : gH) : Option (Int32 × gH) :=
  (gcl h a0 11).bind fun _ =>
  (sf h a0 11 10 (.int (0 : Int32))).bind fun h1 =>
    (f_c11_beginText N a0 (38 : Int32) h1).bind fun q2 =>
    (f_c11_oneOf N a0 (51 : Int32) (4 : Int32) q2).bind fun q3 =>
    (f_c11_oneOf N a0 (51 : Int32) (4 : Int32) q3.2).bind fun q4 =>
    (lp_c11_plain_36 N a0 (q3.1 + (3 : Int32)) (q4.1 + (3 : Int32)) N (0 : Int32) (0 : Int32) q4.2).bind fun o44 =>
    (f_c11_wasRight N a0 o44).bind fun q45 =>
    if q45.1 = 0 then
    (gfI q45.2 a0 11 15).bind fun v74 =>
    some ((-1 : Int32) - v74, q45.2)
  else
    (sf q45.2 a0 11 1 (.int (q3.1 + (3 : Int32)))).bind fun h47 =>
    (sf h47 a0 11 2 (.int (q4.1 + (3 : Int32)))).bind fun h48 =>
    (sf h48 a0 11 3 (.int (0 : Int32))).bind fun h49 =>
    (lp_c11_plain_192 N a0 (q3.1 + (3 : Int32)) (q4.1 + (3 : Int32)) N (0 : Int32) h49).bind fun o66 =>
    (gfR o66 a0 11 0).bind fun v67 =>
    (sa 0 o66 v67 (40 : Int32) (0 : Int32)).bind fun h68 =>
    (gfR h68 a0 11 0).bind fun v69 =>
    (sa 0 h68 v69 (41 : Int32) (0 : Int32)).bind fun h70 =>
    (gfR h70 a0 11 0).bind fun v71 =>
    (sa 0 h70 v71 (42 : Int32) (0 : Int32)).bind fun h72 =>
    (f_c11_told N a0 h72).bind fun q73 =>
    some ((q3.1 + (3 : Int32)) * (q4.1 + (3 : Int32)), q73)
set_option maxHeartbeats 4000000 in
set_option maxRecDepth 100000 in
theorem wlp_c11_plain_36 {M : gM} {X : gX} {N : Nat} (hx : gEx X = false) (K : gC M X gN11 b_c11_plain 5 (gRm (4 + N) 0 0)) (a0 : Nat) (x1 : Int32) (x2 : Int32) : ∀ (k : Nat) (x3 : Int32) (x4 : Int32) (h : gH) (o : gH), lp_c11_plain_36 N a0 x1 x2 k x3 x4 h = some o → gG M X 5 0 0 160 [(0, .ref a0), (1, .int x1), (2, .int x2)] [] o → gG M X 5 0 0 36 [(0, .ref a0), (1, .int x1), (2, .int x2), (3, .int x3), (4, .int x4)] [] h := by
  intro k
  induction k with
  | zero =>
    intro x3 x4 h o hy
    rw [lp_c11_plain_36.eq_1] at hy
    cases hy
  | succ k ih =>
    intro x3 x4 h o hy hE
    rw [lp_c11_plain_36.eq_2] at hy
    refine g_iload K d_c11_plain_36 4 rfl ?_
    refine g_iload_n K d_c11_plain_38 1 rfl ?_
    refine g_iload_n K d_c11_plain_39 2 rfl ?_
    refine g_imul K d_c11_plain_40 ?_
    refine g_icmp_ge K d_c11_plain_41 (fun c5 => ?_) (fun c5 => ?_)
    · rw [if_pos c5] at hy
      refine g_sub (ls2 := [(0, .ref a0), (1, .int x1), (2, .int x2)]) [0, 1, 2] rfl ?_
      obtain rfl := Option.some.inj hy
      exact hE
    · rw [if_neg c5] at hy
      refine g_aload_n K d_c11_plain_44 0 rfl ?_
      obtain ⟨q6, e_q6, hy⟩ := gBd hy
      refine g_callVi (rest := []) K hx ly_c11_fine kv_c11_140 d_c11_plain_45 (ct_c11_fine M.2.1 X hx N a0 h q6 e_q6) rfl rfl (Nat.le_of_ble_eq_true rfl) (gDep rfl) ⟨Nat.le_refl 0, Nat.le_refl 0⟩ ?_
      refine g_if_eq K d_c11_plain_48 (fun c7 => ?_) (fun c7 => ?_)
      · rw [if_pos c7] at hy
        refine g_sub (ls2 := [(0, .ref a0), (1, .int x1), (2, .int x2)]) [0, 1, 2] rfl ?_
        obtain rfl := Option.some.inj hy
        exact hE
      · rw [if_neg c7] at hy
        refine g_aload_n K d_c11_plain_51 0 rfl ?_
        obtain ⟨v8, e_v8, hy⟩ := gBd hy
        refine g_getR K fl_c11_34 d_c11_plain_52 e_v8 ?_
        refine g_iload K d_c11_plain_55 4 rfl ?_
        refine g_aload_n K d_c11_plain_57 0 rfl ?_
        obtain ⟨q9, e_q9, hy⟩ := gBd hy
        refine g_callVi (rest := [.int x4, .ref v8]) K hx ly_c11_here kv_c11_144 d_c11_plain_58 (ct_c11_here M.2.1 X hx N a0 h q9 e_q9) rfl rfl (Nat.le_of_ble_eq_true rfl) (gDep rfl) ⟨Nat.le_refl 0, Nat.le_refl 0⟩ ?_
        refine g_bipush (v := 49) K d_c11_plain_61 (by decide) ?_
        refine g_bipush (v := 54) K d_c11_plain_63 (by decide) ?_
        obtain ⟨q10, e_q10, hy⟩ := gBd hy
        refine g_callSi (rest := [.int x4, .ref v8]) K hx ly_c11_in ks_c11_105 d_c11_plain_65 (ct_c11_in M.2.1 X hx N q9 (49 : Int32) (54 : Int32) h q10 e_q10) rfl rfl (Nat.le_of_ble_eq_true rfl) (gDep rfl) ⟨Nat.le_refl 0, Nat.le_refl 0⟩ ?_
        obtain ⟨t12, e_t12, hy⟩ := gBd hy
        have hJ13 : gG M X 5 0 0 82 [(0, .ref a0), (1, .int x1), (2, .int x2), (3, .int x3), (4, .int x4)] [.int t12, .int x4, .ref v8] h := by
          obtain ⟨h14, e_h14, hy⟩ := gBd hy
          refine g_iast K d_c11_plain_82 e_h14 ?_
          refine g_aload_n K d_c11_plain_83 0 rfl ?_
          obtain ⟨v15, e_v15, hy⟩ := gBd hy
          refine g_getR K fl_c11_34 d_c11_plain_84 e_v15 ?_
          refine g_iload K d_c11_plain_87 4 rfl ?_
          obtain ⟨v16, e_v16, hy⟩ := gBd hy
          refine g_iald K d_c11_plain_89 e_v16 ?_
          obtain ⟨t18, e_t18, hy⟩ := gBd hy
          have hJ19 : gG M X 5 0 0 126 [(0, .ref a0), (1, .int x1), (2, .int x2), (3, .int x3), (4, .int x4)] [] t18 := by
            refine g_iload_n K d_c11_plain_126 3 rfl ?_
            refine g_aload_n K d_c11_plain_127 0 rfl ?_
            obtain ⟨v20, e_v20, hy⟩ := gBd hy
            refine g_getR K fl_c11_34 d_c11_plain_128 e_v20 ?_
            refine g_iload K d_c11_plain_131 4 rfl ?_
            obtain ⟨v21, e_v21, hy⟩ := gBd hy
            refine g_iald K d_c11_plain_133 e_v21 ?_
            have hJ24 : ∀ w23 : Int32, w23 = (if v21 ≤ 0 then (0 : Int32) else (1 : Int32)) → gG M X 5 0 0 142 [(0, .ref a0), (1, .int x1), (2, .int x2), (3, .int x3), (4, .int x4)] [.int w23, .int x3] t18 := by
              intro w23 e_w23
              subst e_w23
              refine g_iadd K d_c11_plain_142 ?_
              refine g_istore_n (ls2 := [(3, .int (x3 + (if v21 ≤ 0 then (0 : Int32) else (1 : Int32)))), (0, .ref a0), (1, .int x1), (2, .int x2), (4, .int x4)]) K d_c11_plain_143 rfl rfl ?_
              refine g_aload_n K d_c11_plain_144 1 rfl ?_
              refine g_dup K d_c11_plain_145 rfl ?_
              obtain ⟨v25, e_v25, hy⟩ := gBd hy
              refine g_getI K fl_c11_130 d_c11_plain_146 e_v25 ?_
              refine g_iconst (v := 1) K d_c11_plain_149 (by decide) ?_
              refine g_iadd K d_c11_plain_150 ?_
              obtain ⟨h26, e_h26, hy⟩ := gBd hy
              refine g_putI K fp_c11_130 d_c11_plain_151 e_h26 ?_
              refine g_iinc (ls2 := [(4, .int (x4 + (1 : Int32))), (3, .int (x3 + (if v21 ≤ 0 then (0 : Int32) else (1 : Int32)))), (0, .ref a0), (1, .int x1), (2, .int x2)]) (v := 1) K d_c11_plain_154 4 rfl (by decide) rfl rfl ?_
              refine g_goto K d_c11_plain_157 ?_
              refine g_sub (ls2 := [(0, .ref a0), (1, .int x1), (2, .int x2), (3, .int (x3 + (if v21 ≤ 0 then (0 : Int32) else (1 : Int32)))), (4, .int (x4 + (1 : Int32)))]) [2, 3, 4, 1, 0] rfl ?_
              exact ih _ _ _ _ hy hE
            refine g_if_le K d_c11_plain_134 (fun c22 => ?_) (fun c22 => ?_)
            · refine g_iconst (v := 0) K d_c11_plain_141 (by decide) ?_
              exact hJ24 _ (by rw [if_pos c22])
            · refine g_iconst (v := 1) K d_c11_plain_137 (by decide) ?_
              refine g_goto K d_c11_plain_138 ?_
              exact hJ24 _ (by rw [if_neg c22])
          refine g_if_ne K d_c11_plain_90 (fun c17 => ?_) (fun c17 => ?_)
          · rw [if_neg c17] at e_t18
            refine g_aload_n K d_c11_plain_102 0 rfl ?_
            obtain ⟨v27, e_v27, e_t18⟩ := gBd e_t18
            refine g_getR K fl_c11_34 d_c11_plain_103 e_v27 ?_
            refine g_iload K d_c11_plain_106 4 rfl ?_
            obtain ⟨v28, e_v28, e_t18⟩ := gBd e_t18
            refine g_iald K d_c11_plain_108 e_v28 ?_
            refine g_if_le K d_c11_plain_109 (fun c29 => ?_) (fun c29 => ?_)
            · rw [if_pos c29] at e_t18
              obtain rfl := Option.some.inj e_t18
              exact hJ19
            · rw [if_neg c29] at e_t18
              refine g_iload_n K d_c11_plain_112 3 rfl ?_
              refine g_bipush (v := 6) K d_c11_plain_113 (by decide) ?_
              refine g_icmp_ne K d_c11_plain_115 (fun c30 => ?_) (fun c30 => ?_)
              · rw [if_neg c30] at e_t18
                obtain rfl := Option.some.inj e_t18
                exact hJ19
              · rw [if_pos c30] at e_t18
                refine g_aload_n K d_c11_plain_118 0 rfl ?_
                refine g_aload_n K d_c11_plain_119 0 rfl ?_
                obtain ⟨v31, e_v31, e_t18⟩ := gBd e_t18
                refine g_getI K fl_c11_130 d_c11_plain_120 e_v31 ?_
                obtain ⟨q32, e_q32, e_t18⟩ := gBd e_t18
                refine g_callVv (rest := []) K hx ly_c11_fault kv_c11_151 d_c11_plain_123 (ct_c11_fault M.2.1 X hx N a0 v31 h14 q32 e_q32) rfl rfl (Nat.le_of_ble_eq_true rfl) (gDep rfl) ⟨Nat.le_refl 0, Nat.le_refl 0⟩ ?_
                obtain rfl := Option.some.inj e_t18
                exact hJ19
          · rw [if_pos c17] at e_t18
            refine g_aload_n K d_c11_plain_93 0 rfl ?_
            obtain ⟨q33, e_q33, e_t18⟩ := gBd e_t18
            refine g_callVi (rest := []) K hx ly_c11_here kv_c11_144 d_c11_plain_94 (ct_c11_here M.2.1 X hx N a0 h14 q33 e_q33) rfl rfl (Nat.le_of_ble_eq_true rfl) (gDep rfl) ⟨Nat.le_refl 0, Nat.le_refl 0⟩ ?_
            refine g_bipush (v := 46) K d_c11_plain_97 (by decide) ?_
            refine g_icmp_ne K d_c11_plain_99 (fun c34 => ?_) (fun c34 => ?_)
            · rw [if_neg c34] at e_t18
              refine g_aload_n K d_c11_plain_118 0 rfl ?_
              refine g_aload_n K d_c11_plain_119 0 rfl ?_
              obtain ⟨v35, e_v35, e_t18⟩ := gBd e_t18
              refine g_getI K fl_c11_130 d_c11_plain_120 e_v35 ?_
              obtain ⟨q36, e_q36, e_t18⟩ := gBd e_t18
              refine g_callVv (rest := []) K hx ly_c11_fault kv_c11_151 d_c11_plain_123 (ct_c11_fault M.2.1 X hx N a0 v35 h14 q36 e_q36) rfl rfl (Nat.le_of_ble_eq_true rfl) (gDep rfl) ⟨Nat.le_refl 0, Nat.le_refl 0⟩ ?_
              obtain rfl := Option.some.inj e_t18
              exact hJ19
            · rw [if_pos c34] at e_t18
              refine g_aload_n K d_c11_plain_102 0 rfl ?_
              obtain ⟨v37, e_v37, e_t18⟩ := gBd e_t18
              refine g_getR K fl_c11_34 d_c11_plain_103 e_v37 ?_
              refine g_iload K d_c11_plain_106 4 rfl ?_
              obtain ⟨v38, e_v38, e_t18⟩ := gBd e_t18
              refine g_iald K d_c11_plain_108 e_v38 ?_
              refine g_if_le K d_c11_plain_109 (fun c39 => ?_) (fun c39 => ?_)
              · rw [if_pos c39] at e_t18
                obtain rfl := Option.some.inj e_t18
                exact hJ19
              · rw [if_neg c39] at e_t18
                refine g_iload_n K d_c11_plain_112 3 rfl ?_
                refine g_bipush (v := 6) K d_c11_plain_113 (by decide) ?_
                refine g_icmp_ne K d_c11_plain_115 (fun c40 => ?_) (fun c40 => ?_)
                · rw [if_neg c40] at e_t18
                  obtain rfl := Option.some.inj e_t18
                  exact hJ19
                · rw [if_pos c40] at e_t18
                  refine g_aload_n K d_c11_plain_118 0 rfl ?_
                  refine g_aload_n K d_c11_plain_119 0 rfl ?_
                  obtain ⟨v41, e_v41, e_t18⟩ := gBd e_t18
                  refine g_getI K fl_c11_130 d_c11_plain_120 e_v41 ?_
                  obtain ⟨q42, e_q42, e_t18⟩ := gBd e_t18
                  refine g_callVv (rest := []) K hx ly_c11_fault kv_c11_151 d_c11_plain_123 (ct_c11_fault M.2.1 X hx N a0 v41 h14 q42 e_q42) rfl rfl (Nat.le_of_ble_eq_true rfl) (gDep rfl) ⟨Nat.le_refl 0, Nat.le_refl 0⟩ ?_
                  obtain rfl := Option.some.inj e_t18
                  exact hJ19
        refine g_if_eq K d_c11_plain_68 (fun c11 => ?_) (fun c11 => ?_)
        · rw [if_pos c11] at e_t12
          refine g_iconst (v := 0) K d_c11_plain_81 (by decide) ?_
          obtain rfl := Option.some.inj e_t12
          exact hJ13
        · rw [if_neg c11] at e_t12
          refine g_aload_n K d_c11_plain_71 0 rfl ?_
          obtain ⟨q43, e_q43, e_t12⟩ := gBd e_t12
          refine g_callVi (rest := [.int x4, .ref v8]) K hx ly_c11_here kv_c11_144 d_c11_plain_72 (ct_c11_here M.2.1 X hx N a0 h q43 e_q43) rfl rfl (Nat.le_of_ble_eq_true rfl) (gDep rfl) ⟨Nat.le_refl 0, Nat.le_refl 0⟩ ?_
          refine g_bipush (v := 48) K d_c11_plain_75 (by decide) ?_
          refine g_isub K d_c11_plain_77 ?_
          refine g_goto K d_c11_plain_78 ?_
          obtain rfl := Option.some.inj e_t12
          exact hJ13
set_option maxHeartbeats 4000000 in
set_option maxRecDepth 100000 in
theorem wlp_c11_plain_192 {M : gM} {X : gX} {N : Nat} (hx : gEx X = false) (K : gC M X gN11 b_c11_plain 5 (gRm (4 + N) 0 0)) (a0 : Nat) (x1 : Int32) (x2 : Int32) : ∀ (k : Nat) (x4 : Int32) (h : gH) (o : gH), lp_c11_plain_192 N a0 x1 x2 k x4 h = some o → gG M X 5 0 0 256 [(0, .ref a0), (1, .int x1), (2, .int x2)] [] o → gG M X 5 0 0 192 [(0, .ref a0), (1, .int x1), (2, .int x2), (4, .int x4)] [] h := by
  intro k
  induction k with
  | zero =>
    intro x4 h o hy
    rw [lp_c11_plain_192.eq_1] at hy
    cases hy
  | succ k ih =>
    intro x4 h o hy hE
    rw [lp_c11_plain_192.eq_2] at hy
    refine g_iload K d_c11_plain_192 3 rfl ?_
    refine g_iload_n K d_c11_plain_194 1 rfl ?_
    refine g_iload_n K d_c11_plain_195 2 rfl ?_
    refine g_imul K d_c11_plain_196 ?_
    refine g_icmp_ge K d_c11_plain_197 (fun c50 => ?_) (fun c50 => ?_)
    · rw [if_pos c50] at hy
      refine g_sub (ls2 := [(0, .ref a0), (1, .int x1), (2, .int x2)]) [0, 1, 2] rfl ?_
      obtain rfl := Option.some.inj hy
      exact hE
    · rw [if_neg c50] at hy
      refine g_aload_n K d_c11_plain_200 0 rfl ?_
      obtain ⟨v51, e_v51, hy⟩ := gBd hy
      refine g_getR K fl_c11_34 d_c11_plain_201 e_v51 ?_
      refine g_iload K d_c11_plain_204 3 rfl ?_
      obtain ⟨v52, e_v52, hy⟩ := gBd hy
      refine g_iald K d_c11_plain_206 e_v52 ?_
      obtain ⟨t54, e_t54, hy⟩ := gBd hy
      have hJ55 : gG M X 5 0 0 250 [(0, .ref a0), (1, .int x1), (2, .int x2), (4, .int x4)] [] t54 := by
        refine g_iinc (ls2 := [(4, .int (x4 + (1 : Int32))), (0, .ref a0), (1, .int x1), (2, .int x2)]) (v := 1) K d_c11_plain_250 3 rfl (by decide) rfl rfl ?_
        refine g_goto K d_c11_plain_253 ?_
        refine g_sub (ls2 := [(0, .ref a0), (1, .int x1), (2, .int x2), (4, .int (x4 + (1 : Int32)))]) [1, 2, 3, 0] rfl ?_
        exact ih _ _ _ hy hE
      refine g_if_ne K d_c11_plain_207 (fun c53 => ?_) (fun c53 => ?_)
      · rw [if_neg c53] at e_t54
        refine g_aload_n K d_c11_plain_213 0 rfl ?_
        obtain ⟨v56, e_v56, e_t54⟩ := gBd e_t54
        refine g_getR K fl_c11_20 d_c11_plain_214 e_v56 ?_
        refine g_aload_n K d_c11_plain_217 0 rfl ?_
        obtain ⟨v57, e_v57, e_t54⟩ := gBd e_t54
        refine g_getI K fl_c11_109 d_c11_plain_218 e_v57 ?_
        refine g_iload K d_c11_plain_221 3 rfl ?_
        obtain ⟨h58, e_h58, e_t54⟩ := gBd e_t54
        refine g_iast K d_c11_plain_223 e_h58 ?_
        refine g_aload_n K d_c11_plain_224 0 rfl ?_
        obtain ⟨v59, e_v59, e_t54⟩ := gBd e_t54
        refine g_getR K fl_c11_23 d_c11_plain_225 e_v59 ?_
        refine g_aload_n K d_c11_plain_228 0 rfl ?_
        obtain ⟨v60, e_v60, e_t54⟩ := gBd e_t54
        refine g_getI K fl_c11_109 d_c11_plain_229 e_v60 ?_
        refine g_aload_n K d_c11_plain_232 0 rfl ?_
        obtain ⟨v61, e_v61, e_t54⟩ := gBd e_t54
        refine g_getR K fl_c11_34 d_c11_plain_233 e_v61 ?_
        refine g_iload K d_c11_plain_236 3 rfl ?_
        obtain ⟨v62, e_v62, e_t54⟩ := gBd e_t54
        refine g_iald K d_c11_plain_238 e_v62 ?_
        obtain ⟨h63, e_h63, e_t54⟩ := gBd e_t54
        refine g_iast K d_c11_plain_239 e_h63 ?_
        refine g_aload_n K d_c11_plain_240 0 rfl ?_
        refine g_dup K d_c11_plain_241 rfl ?_
        obtain ⟨v64, e_v64, e_t54⟩ := gBd e_t54
        refine g_getI K fl_c11_109 d_c11_plain_242 e_v64 ?_
        refine g_iconst (v := 1) K d_c11_plain_245 (by decide) ?_
        refine g_iadd K d_c11_plain_246 ?_
        obtain ⟨h65, e_h65, e_t54⟩ := gBd e_t54
        refine g_putI K fp_c11_109 d_c11_plain_247 e_h65 ?_
        obtain rfl := Option.some.inj e_t54
        exact hJ55
      · rw [if_pos c53] at e_t54
        refine g_goto K d_c11_plain_210 ?_
        obtain rfl := Option.some.inj e_t54
        exact hJ55
set_option maxHeartbeats 4000000 in
set_option maxRecDepth 100000 in
theorem ct_c11_plain (l : Launch) (X : gX) (hx : gEx X = false) (N : Nat) (a0 : Nat) (h : gH) (q : Int32 × gH) (hy : f_c11_plain N a0 h = some q) : gRc y_c11_plain h a0 ∧ gMi l X y_c11_plain b_c11_plain 5 .int (4 + N) 0 0 [.ref a0] h q.1 q.2 := by
  unfold f_c11_plain at hy
  obtain ⟨u0, e_u0, hy⟩ := gBd hy
  cases u0
  refine ⟨Or.inl ⟨11, _, _, e_u0, rfl⟩, gMet_i (lsx := [(0, .ref a0)]) (by decide) rfl rfl ?_⟩
  intro M hMl K hret
  subst hMl
  refine g_aload_n K d_c11_plain_0 0 rfl ?_
  refine g_iconst (v := 0) K d_c11_plain_1 (by decide) ?_
  obtain ⟨h1, e_h1, hy⟩ := gBd hy
  refine g_putI K fp_c11_95 d_c11_plain_2 e_h1 ?_
  refine g_aload_n K d_c11_plain_5 0 rfl ?_
  refine g_bipush (v := 38) K d_c11_plain_6 (by decide) ?_
  obtain ⟨q2, e_q2, hy⟩ := gBd hy
  refine g_callVv (rest := []) K hx ly_c11_beginText kv_c11_165 d_c11_plain_8 (ct_c11_beginText M.2.1 X hx N a0 (38 : Int32) h1 q2 e_q2) rfl rfl (Nat.le_of_ble_eq_true rfl) (gDep rfl) ⟨Nat.le_refl 0, Nat.le_refl 0⟩ ?_
  refine g_aload_n K d_c11_plain_11 0 rfl ?_
  refine g_bipush (v := 51) K d_c11_plain_12 (by decide) ?_
  refine g_iconst (v := 4) K d_c11_plain_14 (by decide) ?_
  obtain ⟨q3, e_q3, hy⟩ := gBd hy
  refine g_callVi (rest := []) K hx ly_c11_oneOf kv_c11_155 d_c11_plain_15 (ct_c11_oneOf M.2.1 X hx N a0 (51 : Int32) (4 : Int32) q2 q3 e_q3) rfl rfl (Nat.le_of_ble_eq_true rfl) (gDep rfl) ⟨Nat.le_refl 0, Nat.le_refl 0⟩ ?_
  refine g_iconst (v := 3) K d_c11_plain_18 (by decide) ?_
  refine g_iadd K d_c11_plain_19 ?_
  refine g_istore_n (ls2 := [(1, .int (q3.1 + (3 : Int32))), (0, .ref a0)]) K d_c11_plain_20 rfl rfl ?_
  refine g_aload_n K d_c11_plain_21 1 rfl ?_
  refine g_bipush (v := 51) K d_c11_plain_22 (by decide) ?_
  refine g_iconst (v := 4) K d_c11_plain_24 (by decide) ?_
  obtain ⟨q4, e_q4, hy⟩ := gBd hy
  refine g_callVi (rest := []) K hx ly_c11_oneOf kv_c11_155 d_c11_plain_25 (ct_c11_oneOf M.2.1 X hx N a0 (51 : Int32) (4 : Int32) q3.2 q4 e_q4) rfl rfl (Nat.le_of_ble_eq_true rfl) (gDep rfl) ⟨Nat.le_refl 0, Nat.le_refl 0⟩ ?_
  refine g_iconst (v := 3) K d_c11_plain_28 (by decide) ?_
  refine g_iadd K d_c11_plain_29 ?_
  refine g_istore_n (ls2 := [(2, .int (q4.1 + (3 : Int32))), (1, .int (q3.1 + (3 : Int32))), (0, .ref a0)]) K d_c11_plain_30 rfl rfl ?_
  refine g_iconst (v := 0) K d_c11_plain_31 (by decide) ?_
  refine g_istore_n (ls2 := [(3, .int (0 : Int32)), (2, .int (q4.1 + (3 : Int32))), (1, .int (q3.1 + (3 : Int32))), (0, .ref a0)]) K d_c11_plain_32 rfl rfl ?_
  refine g_iconst (v := 0) K d_c11_plain_33 (by decide) ?_
  refine g_istore (ls2 := [(4, .int (0 : Int32)), (3, .int (0 : Int32)), (2, .int (q4.1 + (3 : Int32))), (1, .int (q3.1 + (3 : Int32))), (0, .ref a0)]) K d_c11_plain_34 rfl rfl ?_
  obtain ⟨o44, e_o44, hy⟩ := gBd hy
  refine g_sub (ls2 := [(0, .ref a0), (1, .int (q3.1 + (3 : Int32))), (2, .int (q4.1 + (3 : Int32))), (3, .int (0 : Int32)), (4, .int (0 : Int32))]) [4, 3, 2, 1, 0] rfl ?_
  refine wlp_c11_plain_36 hx K a0 (q3.1 + (3 : Int32)) (q4.1 + (3 : Int32)) N (0 : Int32) (0 : Int32) q4.2 o44 e_o44 ?_
  refine g_aload_n K d_c11_plain_160 0 rfl ?_
  obtain ⟨q45, e_q45, hy⟩ := gBd hy
  refine g_callVi (rest := []) K hx ly_c11_wasRight kv_c11_168 d_c11_plain_161 (ct_c11_wasRight M.2.1 X hx N a0 o44 q45 e_q45) rfl rfl (Nat.le_of_ble_eq_true rfl) (gDep rfl) ⟨Nat.le_refl 0, Nat.le_refl 0⟩ ?_
  refine g_if_ne K d_c11_plain_164 (fun c46 => ?_) (fun c46 => ?_)
  · rw [if_neg c46] at hy
    refine g_aload_n K d_c11_plain_174 0 rfl ?_
    refine g_iload_n K d_c11_plain_175 1 rfl ?_
    obtain ⟨h47, e_h47, hy⟩ := gBd hy
    refine g_putI K fp_c11_13 d_c11_plain_176 e_h47 ?_
    refine g_aload_n K d_c11_plain_179 0 rfl ?_
    refine g_iload_n K d_c11_plain_180 2 rfl ?_
    obtain ⟨h48, e_h48, hy⟩ := gBd hy
    refine g_putI K fp_c11_17 d_c11_plain_181 e_h48 ?_
    refine g_aload_n K d_c11_plain_184 0 rfl ?_
    refine g_iconst (v := 0) K d_c11_plain_185 (by decide) ?_
    obtain ⟨h49, e_h49, hy⟩ := gBd hy
    refine g_putI K fp_c11_109 d_c11_plain_186 e_h49 ?_
    refine g_iconst (v := 0) K d_c11_plain_189 (by decide) ?_
    refine g_istore (ls2 := [(4, .int (0 : Int32)), (0, .ref a0), (1, .int (q3.1 + (3 : Int32))), (2, .int (q4.1 + (3 : Int32)))]) K d_c11_plain_190 rfl rfl ?_
    obtain ⟨o66, e_o66, hy⟩ := gBd hy
    refine g_sub (ls2 := [(0, .ref a0), (1, .int (q3.1 + (3 : Int32))), (2, .int (q4.1 + (3 : Int32))), (4, .int (0 : Int32))]) [1, 2, 3, 0] rfl ?_
    refine wlp_c11_plain_192 hx K a0 (q3.1 + (3 : Int32)) (q4.1 + (3 : Int32)) N (0 : Int32) h49 o66 e_o66 ?_
    refine g_aload_n K d_c11_plain_256 0 rfl ?_
    obtain ⟨v67, e_v67, hy⟩ := gBd hy
    refine g_getR K fl_c11_9 d_c11_plain_257 e_v67 ?_
    refine g_bipush (v := 40) K d_c11_plain_260 (by decide) ?_
    refine g_iconst (v := 0) K d_c11_plain_262 (by decide) ?_
    obtain ⟨h68, e_h68, hy⟩ := gBd hy
    refine g_iast K d_c11_plain_263 e_h68 ?_
    refine g_aload_n K d_c11_plain_264 0 rfl ?_
    obtain ⟨v69, e_v69, hy⟩ := gBd hy
    refine g_getR K fl_c11_9 d_c11_plain_265 e_v69 ?_
    refine g_bipush (v := 41) K d_c11_plain_268 (by decide) ?_
    refine g_iconst (v := 0) K d_c11_plain_270 (by decide) ?_
    obtain ⟨h70, e_h70, hy⟩ := gBd hy
    refine g_iast K d_c11_plain_271 e_h70 ?_
    refine g_aload_n K d_c11_plain_272 0 rfl ?_
    obtain ⟨v71, e_v71, hy⟩ := gBd hy
    refine g_getR K fl_c11_9 d_c11_plain_273 e_v71 ?_
    refine g_bipush (v := 42) K d_c11_plain_276 (by decide) ?_
    refine g_iconst (v := 0) K d_c11_plain_278 (by decide) ?_
    obtain ⟨h72, e_h72, hy⟩ := gBd hy
    refine g_iast K d_c11_plain_279 e_h72 ?_
    refine g_aload_n K d_c11_plain_280 0 rfl ?_
    obtain ⟨q73, e_q73, hy⟩ := gBd hy
    refine g_callVv (rest := []) K hx ly_c11_told kv_c11_171 d_c11_plain_281 (ct_c11_told M.2.1 X hx N a0 h72 q73 e_q73) rfl rfl (Nat.le_of_ble_eq_true rfl) (gDep rfl) ⟨Nat.le_refl 0, Nat.le_refl 0⟩ ?_
    refine g_iload_n K d_c11_plain_284 1 rfl ?_
    refine g_iload_n K d_c11_plain_285 2 rfl ?_
    refine g_imul K d_c11_plain_286 ?_
    obtain rfl := Option.some.inj hy
    exact hret rfl _ _ _ d_c11_plain_287
  · rw [if_pos c46] at hy
    refine g_iconst (v := (-1)) K d_c11_plain_167 (by decide) ?_
    refine g_aload_n K d_c11_plain_168 0 rfl ?_
    obtain ⟨v74, e_v74, hy⟩ := gBd hy
    refine g_getI K fl_c11_133 d_c11_plain_169 e_v74 ?_
    refine g_isub K d_c11_plain_172 ?_
    obtain rfl := Option.some.inj hy
    exact hret rfl _ _ _ d_c11_plain_173
-- c11 reach
theorem d_c11_reach_0 : gD b_c11_reach 0 (.aload_n 0) 1 1 := ⟨by decide +kernel, rfl⟩
theorem d_c11_reach_1 : gD b_c11_reach 1 (.iconst 0) 1 2 := ⟨by decide +kernel, rfl⟩
theorem d_c11_reach_2 : gD b_c11_reach 2 (.putfield 95) 3 5 := ⟨by decide +kernel, rfl⟩
theorem d_c11_reach_5 : gD b_c11_reach 5 (.aload_n 0) 1 6 := ⟨by decide +kernel, rfl⟩
theorem d_c11_reach_6 : gD b_c11_reach 6 (.getfield 9) 3 9 := ⟨by decide +kernel, rfl⟩
theorem d_c11_reach_9 : gD b_c11_reach 9 (.bipush 40) 2 11 := ⟨by decide +kernel, rfl⟩
theorem d_c11_reach_11 : gD b_c11_reach 11 .iaload 1 12 := ⟨by decide +kernel, rfl⟩
theorem d_c11_reach_12 : gD b_c11_reach 12 (.iconst 2) 1 13 := ⟨by decide +kernel, rfl⟩
theorem d_c11_reach_13 : gJ b_c11_reach 13 (.if_icmp .ge 6) 3 6 16 19 := ⟨by decide +kernel, rfl, by decide⟩
theorem d_c11_reach_16 : gD b_c11_reach 16 (.bipush (-2)) 2 18 := ⟨by decide +kernel, rfl⟩
theorem d_c11_reach_18 : gD b_c11_reach 18 .ireturn 1 19 := ⟨by decide +kernel, rfl⟩
theorem d_c11_reach_19 : gD b_c11_reach 19 (.iconst 0) 1 20 := ⟨by decide +kernel, rfl⟩
theorem d_c11_reach_20 : gD b_c11_reach 20 (.istore_n 1) 1 21 := ⟨by decide +kernel, rfl⟩
theorem d_c11_reach_21 : gD b_c11_reach 21 (.iconst 0) 1 22 := ⟨by decide +kernel, rfl⟩
theorem d_c11_reach_22 : gD b_c11_reach 22 (.istore_n 2) 1 23 := ⟨by decide +kernel, rfl⟩
theorem d_c11_reach_23 : gD b_c11_reach 23 (.iload_n 2) 1 24 := ⟨by decide +kernel, rfl⟩
theorem d_c11_reach_24 : gJ b_c11_reach 24 (.ifCond .ne 58) 3 58 27 82 := ⟨by decide +kernel, rfl, by decide⟩
theorem d_c11_reach_27 : gD b_c11_reach 27 (.iinc 1 1) 3 30 := ⟨by decide +kernel, rfl⟩
theorem d_c11_reach_30 : gD b_c11_reach 30 (.aload_n 0) 1 31 := ⟨by decide +kernel, rfl⟩
theorem d_c11_reach_31 : gD b_c11_reach 31 (.iconst 0) 1 32 := ⟨by decide +kernel, rfl⟩
theorem d_c11_reach_32 : gD b_c11_reach 32 (.iload_n 1) 1 33 := ⟨by decide +kernel, rfl⟩
theorem d_c11_reach_33 : gD b_c11_reach 33 (.invokevirtual 322) 3 36 := ⟨by decide +kernel, rfl⟩
theorem d_c11_reach_36 : gD b_c11_reach 36 (.iconst 1) 1 37 := ⟨by decide +kernel, rfl⟩
theorem d_c11_reach_37 : gD b_c11_reach 37 (.istore_n 2) 1 38 := ⟨by decide +kernel, rfl⟩
theorem d_c11_reach_38 : gD b_c11_reach 38 (.iconst 0) 1 39 := ⟨by decide +kernel, rfl⟩
theorem d_c11_reach_39 : gD b_c11_reach 39 (.istore_n 3) 1 40 := ⟨by decide +kernel, rfl⟩
theorem d_c11_reach_40 : gD b_c11_reach 40 (.iload_n 3) 1 41 := ⟨by decide +kernel, rfl⟩
theorem d_c11_reach_41 : gD b_c11_reach 41 (.aload_n 0) 1 42 := ⟨by decide +kernel, rfl⟩
theorem d_c11_reach_42 : gD b_c11_reach 42 (.getfield 9) 3 45 := ⟨by decide +kernel, rfl⟩
theorem d_c11_reach_45 : gD b_c11_reach 45 (.bipush 40) 2 47 := ⟨by decide +kernel, rfl⟩
theorem d_c11_reach_47 : gD b_c11_reach 47 .iaload 1 48 := ⟨by decide +kernel, rfl⟩
theorem d_c11_reach_48 : gJ b_c11_reach 48 (.if_icmp .ge 31) 3 31 51 79 := ⟨by decide +kernel, rfl, by decide⟩
theorem d_c11_reach_51 : gD b_c11_reach 51 (.iload_n 2) 1 52 := ⟨by decide +kernel, rfl⟩
theorem d_c11_reach_52 : gJ b_c11_reach 52 (.ifCond .eq 19) 3 19 55 71 := ⟨by decide +kernel, rfl, by decide⟩
theorem d_c11_reach_55 : gD b_c11_reach 55 (.aload_n 0) 1 56 := ⟨by decide +kernel, rfl⟩
theorem d_c11_reach_56 : gD b_c11_reach 56 (.getfield 70) 3 59 := ⟨by decide +kernel, rfl⟩
theorem d_c11_reach_59 : gD b_c11_reach 59 (.iload_n 3) 1 60 := ⟨by decide +kernel, rfl⟩
theorem d_c11_reach_60 : gD b_c11_reach 60 .iaload 1 61 := ⟨by decide +kernel, rfl⟩
theorem d_c11_reach_61 : gD b_c11_reach 61 (.ldc_w 311) 3 64 := ⟨by decide +kernel, rfl⟩
theorem d_c11_reach_64 : gJ b_c11_reach 64 (.if_icmp .ge 7) 3 7 67 71 := ⟨by decide +kernel, rfl, by decide⟩
theorem d_c11_reach_67 : gD b_c11_reach 67 (.iconst 1) 1 68 := ⟨by decide +kernel, rfl⟩
theorem d_c11_reach_68 : gJ b_c11_reach 68 (.goto 4) 3 4 71 72 := ⟨by decide +kernel, rfl, by decide⟩
theorem d_c11_reach_71 : gD b_c11_reach 71 (.iconst 0) 1 72 := ⟨by decide +kernel, rfl⟩
theorem d_c11_reach_72 : gD b_c11_reach 72 (.istore_n 2) 1 73 := ⟨by decide +kernel, rfl⟩
theorem d_c11_reach_73 : gD b_c11_reach 73 (.iinc 3 1) 3 76 := ⟨by decide +kernel, rfl⟩
theorem d_c11_reach_76 : gJ b_c11_reach 76 (.goto (-36)) 3 (-36) 79 40 := ⟨by decide +kernel, rfl, by decide⟩
theorem d_c11_reach_79 : gJ b_c11_reach 79 (.goto (-56)) 3 (-56) 82 23 := ⟨by decide +kernel, rfl, by decide⟩
theorem d_c11_reach_82 : gD b_c11_reach 82 (.iconst 0) 1 83 := ⟨by decide +kernel, rfl⟩
theorem d_c11_reach_83 : gD b_c11_reach 83 (.istore_n 3) 1 84 := ⟨by decide +kernel, rfl⟩
theorem d_c11_reach_84 : gD b_c11_reach 84 (.iconst 1) 1 85 := ⟨by decide +kernel, rfl⟩
theorem d_c11_reach_85 : gD b_c11_reach 85 (.istore 4) 2 87 := ⟨by decide +kernel, rfl⟩
theorem d_c11_reach_87 : gD b_c11_reach 87 (.iconst 0) 1 88 := ⟨by decide +kernel, rfl⟩
theorem d_c11_reach_88 : gD b_c11_reach 88 (.istore 5) 2 90 := ⟨by decide +kernel, rfl⟩
theorem d_c11_reach_90 : gD b_c11_reach 90 (.iload 5) 2 92 := ⟨by decide +kernel, rfl⟩
theorem d_c11_reach_92 : gD b_c11_reach 92 (.aload_n 0) 1 93 := ⟨by decide +kernel, rfl⟩
theorem d_c11_reach_93 : gD b_c11_reach 93 (.getfield 9) 3 96 := ⟨by decide +kernel, rfl⟩
theorem d_c11_reach_96 : gD b_c11_reach 96 (.bipush 40) 2 98 := ⟨by decide +kernel, rfl⟩
theorem d_c11_reach_98 : gD b_c11_reach 98 .iaload 1 99 := ⟨by decide +kernel, rfl⟩
theorem d_c11_reach_99 : gJ b_c11_reach 99 (.if_icmp .ge 81) 3 81 102 180 := ⟨by decide +kernel, rfl, by decide⟩
theorem d_c11_reach_102 : gD b_c11_reach 102 (.iload 5) 2 104 := ⟨by decide +kernel, rfl⟩
theorem d_c11_reach_104 : gD b_c11_reach 104 (.iconst 1) 1 105 := ⟨by decide +kernel, rfl⟩
theorem d_c11_reach_105 : gD b_c11_reach 105 .iadd 1 106 := ⟨by decide +kernel, rfl⟩
theorem d_c11_reach_106 : gD b_c11_reach 106 (.istore 6) 2 108 := ⟨by decide +kernel, rfl⟩
theorem d_c11_reach_108 : gD b_c11_reach 108 (.iload 6) 2 110 := ⟨by decide +kernel, rfl⟩
theorem d_c11_reach_110 : gD b_c11_reach 110 (.aload_n 0) 1 111 := ⟨by decide +kernel, rfl⟩
theorem d_c11_reach_111 : gD b_c11_reach 111 (.getfield 9) 3 114 := ⟨by decide +kernel, rfl⟩
theorem d_c11_reach_114 : gD b_c11_reach 114 (.bipush 40) 2 116 := ⟨by decide +kernel, rfl⟩
theorem d_c11_reach_116 : gD b_c11_reach 116 .iaload 1 117 := ⟨by decide +kernel, rfl⟩
theorem d_c11_reach_117 : gJ b_c11_reach 117 (.if_icmp .ge 57) 3 57 120 174 := ⟨by decide +kernel, rfl, by decide⟩
theorem d_c11_reach_120 : gD b_c11_reach 120 (.aload_n 0) 1 121 := ⟨by decide +kernel, rfl⟩
theorem d_c11_reach_121 : gD b_c11_reach 121 (.aload_n 0) 1 122 := ⟨by decide +kernel, rfl⟩
theorem d_c11_reach_122 : gD b_c11_reach 122 (.getfield 9) 3 125 := ⟨by decide +kernel, rfl⟩
theorem d_c11_reach_125 : gD b_c11_reach 125 (.iload 5) 2 127 := ⟨by decide +kernel, rfl⟩
theorem d_c11_reach_127 : gD b_c11_reach 127 .iaload 1 128 := ⟨by decide +kernel, rfl⟩
theorem d_c11_reach_128 : gD b_c11_reach 128 (.aload_n 0) 1 129 := ⟨by decide +kernel, rfl⟩
theorem d_c11_reach_129 : gD b_c11_reach 129 (.getfield 9) 3 132 := ⟨by decide +kernel, rfl⟩
theorem d_c11_reach_132 : gD b_c11_reach 132 (.iload 6) 2 134 := ⟨by decide +kernel, rfl⟩
theorem d_c11_reach_134 : gD b_c11_reach 134 .iaload 1 135 := ⟨by decide +kernel, rfl⟩
theorem d_c11_reach_135 : gD b_c11_reach 135 (.invokevirtual 220) 3 138 := ⟨by decide +kernel, rfl⟩
theorem d_c11_reach_138 : gD b_c11_reach 138 (.aload_n 0) 1 139 := ⟨by decide +kernel, rfl⟩
theorem d_c11_reach_139 : gD b_c11_reach 139 (.aload_n 0) 1 140 := ⟨by decide +kernel, rfl⟩
theorem d_c11_reach_140 : gD b_c11_reach 140 (.getfield 9) 3 143 := ⟨by decide +kernel, rfl⟩
theorem d_c11_reach_143 : gD b_c11_reach 143 (.iload_n 3) 1 144 := ⟨by decide +kernel, rfl⟩
theorem d_c11_reach_144 : gD b_c11_reach 144 .iaload 1 145 := ⟨by decide +kernel, rfl⟩
theorem d_c11_reach_145 : gD b_c11_reach 145 (.aload_n 0) 1 146 := ⟨by decide +kernel, rfl⟩
theorem d_c11_reach_146 : gD b_c11_reach 146 (.getfield 9) 3 149 := ⟨by decide +kernel, rfl⟩
theorem d_c11_reach_149 : gD b_c11_reach 149 (.iload 4) 2 151 := ⟨by decide +kernel, rfl⟩
theorem d_c11_reach_151 : gD b_c11_reach 151 .iaload 1 152 := ⟨by decide +kernel, rfl⟩
theorem d_c11_reach_152 : gD b_c11_reach 152 (.invokevirtual 220) 3 155 := ⟨by decide +kernel, rfl⟩
theorem d_c11_reach_155 : gJ b_c11_reach 155 (.if_icmp .gt 6) 3 6 158 161 := ⟨by decide +kernel, rfl, by decide⟩
theorem d_c11_reach_158 : gJ b_c11_reach 158 (.goto 10) 3 10 161 168 := ⟨by decide +kernel, rfl, by decide⟩
theorem d_c11_reach_161 : gD b_c11_reach 161 (.iload 5) 2 163 := ⟨by decide +kernel, rfl⟩
theorem d_c11_reach_163 : gD b_c11_reach 163 (.istore_n 3) 1 164 := ⟨by decide +kernel, rfl⟩
theorem d_c11_reach_164 : gD b_c11_reach 164 (.iload 6) 2 166 := ⟨by decide +kernel, rfl⟩
theorem d_c11_reach_166 : gD b_c11_reach 166 (.istore 4) 2 168 := ⟨by decide +kernel, rfl⟩
theorem d_c11_reach_168 : gD b_c11_reach 168 (.iinc 6 1) 3 171 := ⟨by decide +kernel, rfl⟩
theorem d_c11_reach_171 : gJ b_c11_reach 171 (.goto (-63)) 3 (-63) 174 108 := ⟨by decide +kernel, rfl, by decide⟩
theorem d_c11_reach_174 : gD b_c11_reach 174 (.iinc 5 1) 3 177 := ⟨by decide +kernel, rfl⟩
theorem d_c11_reach_177 : gJ b_c11_reach 177 (.goto (-87)) 3 (-87) 180 90 := ⟨by decide +kernel, rfl, by decide⟩
theorem d_c11_reach_180 : gD b_c11_reach 180 (.aload_n 0) 1 181 := ⟨by decide +kernel, rfl⟩
theorem d_c11_reach_181 : gD b_c11_reach 181 (.iconst 0) 1 182 := ⟨by decide +kernel, rfl⟩
theorem d_c11_reach_182 : gD b_c11_reach 182 (.putfield 98) 3 185 := ⟨by decide +kernel, rfl⟩
theorem d_c11_reach_185 : gD b_c11_reach 185 (.aload_n 0) 1 186 := ⟨by decide +kernel, rfl⟩
theorem d_c11_reach_186 : gD b_c11_reach 186 (.iload_n 3) 1 187 := ⟨by decide +kernel, rfl⟩
theorem d_c11_reach_187 : gD b_c11_reach 187 .i2l 1 188 := ⟨by decide +kernel, rfl⟩
theorem d_c11_reach_188 : gD b_c11_reach 188 (.invokevirtual 268) 3 191 := ⟨by decide +kernel, rfl⟩
theorem d_c11_reach_191 : gD b_c11_reach 191 (.aload_n 0) 1 192 := ⟨by decide +kernel, rfl⟩
theorem d_c11_reach_192 : gD b_c11_reach 192 (.iload 4) 2 194 := ⟨by decide +kernel, rfl⟩
theorem d_c11_reach_194 : gD b_c11_reach 194 .i2l 1 195 := ⟨by decide +kernel, rfl⟩
theorem d_c11_reach_195 : gD b_c11_reach 195 (.invokevirtual 268) 3 198 := ⟨by decide +kernel, rfl⟩
theorem d_c11_reach_198 : gD b_c11_reach 198 (.aload_n 0) 1 199 := ⟨by decide +kernel, rfl⟩
theorem d_c11_reach_199 : gD b_c11_reach 199 (.aload_n 0) 1 200 := ⟨by decide +kernel, rfl⟩
theorem d_c11_reach_200 : gD b_c11_reach 200 (.aload_n 0) 1 201 := ⟨by decide +kernel, rfl⟩
theorem d_c11_reach_201 : gD b_c11_reach 201 (.getfield 9) 3 204 := ⟨by decide +kernel, rfl⟩
theorem d_c11_reach_204 : gD b_c11_reach 204 (.iload_n 3) 1 205 := ⟨by decide +kernel, rfl⟩
theorem d_c11_reach_205 : gD b_c11_reach 205 .iaload 1 206 := ⟨by decide +kernel, rfl⟩
theorem d_c11_reach_206 : gD b_c11_reach 206 (.aload_n 0) 1 207 := ⟨by decide +kernel, rfl⟩
theorem d_c11_reach_207 : gD b_c11_reach 207 (.getfield 9) 3 210 := ⟨by decide +kernel, rfl⟩
theorem d_c11_reach_210 : gD b_c11_reach 210 (.iload 4) 2 212 := ⟨by decide +kernel, rfl⟩
theorem d_c11_reach_212 : gD b_c11_reach 212 .iaload 1 213 := ⟨by decide +kernel, rfl⟩
theorem d_c11_reach_213 : gD b_c11_reach 213 (.invokevirtual 220) 3 216 := ⟨by decide +kernel, rfl⟩
theorem d_c11_reach_216 : gD b_c11_reach 216 .i2l 1 217 := ⟨by decide +kernel, rfl⟩
theorem d_c11_reach_217 : gD b_c11_reach 217 (.invokevirtual 268) 3 220 := ⟨by decide +kernel, rfl⟩
theorem d_c11_reach_220 : gD b_c11_reach 220 (.iload_n 1) 1 221 := ⟨by decide +kernel, rfl⟩
theorem d_c11_reach_221 : gD b_c11_reach 221 .ireturn 1 222 := ⟨by decide +kernel, rfl⟩
def lp_c11_reach_40 (N : Nat) (a0 : Nat) (h : gH) : Nat → Int32 → Int32 → Option (Int32)
  | 0, _, _ => none
  | k + 1, x2, x3 =>
  (gfR h a0 11 0).bind fun v7 =>
    (ga 0 h v7 (40 : Int32)).bind fun v8 =>
    if v8 ≤ x3 then
    some x2
  else
    (show Option (Int32) from if x2 = 0 then
    some (0 : Int32)
  else
    (gfR h a0 11 31).bind fun v13 =>
    (ga 0 h v13 x3).bind fun v14 =>
    if (1000000 : Int32) ≤ v14 then
    some (0 : Int32)
  else
    some (1 : Int32)).bind fun t11 =>
    lp_c11_reach_40 N a0 h k t11 (x3 + (1 : Int32))
def lp_c11_reach_23 (N : Nat) (a0 : Nat) : Nat → Int32 → Int32 → gH → Option (Int32 × gH)
  | 0, _, _, _ => none
  | k + 1, x1, x2, h =>
  if x2 = 0 then
    (f_c11_laySteps N a0 (0 : Int32) (x1 + (1 : Int32)) h).bind fun q6 =>
    (lp_c11_reach_40 N a0 q6 N (1 : Int32) (0 : Int32)).bind fun o16 =>
    lp_c11_reach_23 N a0 k (x1 + (1 : Int32)) o16 q6
  else
    some (x1, h)
def lp_c11_reach_108 (N : Nat) (a0 : Nat) (x5 : Int32) (h : gH) : Nat → Int32 → Int32 → Int32 → Option (Int32 × Int32)
  | 0, _, _, _ => none
  | k + 1, x3, x4, x6 =>
  (gfR h a0 11 0).bind fun v21 =>
    (ga 0 h v21 (40 : Int32)).bind fun v22 =>
    if v22 ≤ x6 then
    some (x3, x4)
  else
    (gfR h a0 11 0).bind fun v24 =>
    (ga 0 h v24 x5).bind fun v25 =>
    (gfR h a0 11 0).bind fun v26 =>
    (ga 0 h v26 x6).bind fun v27 =>
    (f_c11_farOf N a0 v25 v27 h).bind fun q28 =>
    (gfR h a0 11 0).bind fun v29 =>
    (ga 0 h v29 x3).bind fun v30 =>
    (gfR h a0 11 0).bind fun v31 =>
    (ga 0 h v31 x4).bind fun v32 =>
    (f_c11_farOf N a0 v30 v32 h).bind fun q33 =>
    (show Option (Int32 × Int32) from if q33 < q28 then
    some (x5, x6)
  else
    some (x3, x4)).bind fun t35 =>
    lp_c11_reach_108 N a0 x5 h k t35.1 t35.2 (x6 + (1 : Int32))
def lp_c11_reach_90 (N : Nat) (a0 : Nat) (h : gH) : Nat → Int32 → Int32 → Int32 → Option (Int32 × Int32)
  | 0, _, _, _ => none
  | k + 1, x3, x4, x5 =>
  (gfR h a0 11 0).bind fun v18 =>
    (ga 0 h v18 (40 : Int32)).bind fun v19 =>
    if v19 ≤ x5 then
    some (x3, x4)
  else
    (lp_c11_reach_108 N a0 x5 h N x3 x4 (x5 + (1 : Int32))).bind fun o37 =>
    lp_c11_reach_90 N a0 h k o37.1 o37.2 (x5 + (1 : Int32))
def f_c11_reach (N : Nat) (a0 : Nat) (h : gH) : Option (Int32 × gH) :=
  (gcl h a0 11).bind fun _ =>
  (sf h a0 11 10 (.int (0 : Int32))).bind fun h1 =>
    (gfR h1 a0 11 0).bind fun v2 =>
    (ga 0 h1 v2 (40 : Int32)).bind fun v3 =>
    if (2 : Int32) ≤ v3 then
    (lp_c11_reach_23 N a0 N (0 : Int32) (0 : Int32) h1).bind fun o17 =>
    (lp_c11_reach_90 N a0 o17.2 N (0 : Int32) (1 : Int32) (0 : Int32)).bind fun o38 =>
    (sf o17.2 a0 11 9 (.int (0 : Int32))).bind fun h39 =>
    (f_c11_tell N a0 o38.1.toInt64 h39).bind fun q40 =>
    (f_c11_tell N a0 o38.2.toInt64 q40).bind fun q41 =>
    (gfR q41 a0 11 0).bind fun v42 =>
    (ga 0 q41 v42 o38.1).bind fun v43 =>
    (gfR q41 a0 11 0).bind fun v44 =>
    (ga 0 q41 v44 o38.2).bind fun v45 =>
    (f_c11_farOf N a0 v43 v45 q41).bind fun q46 =>
    (f_c11_tell N a0 q46.toInt64 q41).bind fun q47 =>
    some (o17.1, q47)
  else
    some ((-2 : Int32), h1)
set_option maxHeartbeats 4000000 in
set_option maxRecDepth 100000 in
theorem wlp_c11_reach_40 {M : gM} {X : gX} {N : Nat} (hx : gEx X = false) (K : gC M X gN11 b_c11_reach 7 (gRm (4 + N) 0 0)) (a0 : Nat) (x1 : Int32) (h : gH) : ∀ (k : Nat) (x2 : Int32) (x3 : Int32) (o : Int32), lp_c11_reach_40 N a0 h k x2 x3 = some o → gG M X 7 0 0 79 [(0, .ref a0), (1, .int x1), (2, .int o)] [] h → gG M X 7 0 0 40 [(0, .ref a0), (1, .int x1), (2, .int x2), (3, .int x3)] [] h := by
  intro k
  induction k with
  | zero =>
    intro x2 x3 o hy
    rw [lp_c11_reach_40.eq_1] at hy
    cases hy
  | succ k ih =>
    intro x2 x3 o hy hE
    rw [lp_c11_reach_40.eq_2] at hy
    refine g_iload_n K d_c11_reach_40 3 rfl ?_
    refine g_aload_n K d_c11_reach_41 0 rfl ?_
    obtain ⟨v7, e_v7, hy⟩ := gBd hy
    refine g_getR K fl_c11_9 d_c11_reach_42 e_v7 ?_
    refine g_bipush (v := 40) K d_c11_reach_45 (by decide) ?_
    obtain ⟨v8, e_v8, hy⟩ := gBd hy
    refine g_iald K d_c11_reach_47 e_v8 ?_
    refine g_icmp_ge K d_c11_reach_48 (fun c9 => ?_) (fun c9 => ?_)
    · rw [if_pos c9] at hy
      refine g_sub (ls2 := [(0, .ref a0), (1, .int x1), (2, .int x2)]) [0, 1, 2] rfl ?_
      obtain rfl := Option.some.inj hy
      exact hE
    · rw [if_neg c9] at hy
      refine g_iload_n K d_c11_reach_51 2 rfl ?_
      obtain ⟨t11, e_t11, hy⟩ := gBd hy
      have hJ12 : gG M X 7 0 0 72 [(0, .ref a0), (1, .int x1), (3, .int x3)] [.int t11] h := by
        refine g_istore_n (ls2 := [(2, .int t11), (0, .ref a0), (1, .int x1), (3, .int x3)]) K d_c11_reach_72 rfl rfl ?_
        refine g_iinc (ls2 := [(3, .int (x3 + (1 : Int32))), (2, .int t11), (0, .ref a0), (1, .int x1)]) (v := 1) K d_c11_reach_73 3 rfl (by decide) rfl rfl ?_
        refine g_goto K d_c11_reach_76 ?_
        refine g_sub (ls2 := [(0, .ref a0), (1, .int x1), (2, .int t11), (3, .int (x3 + (1 : Int32)))]) [2, 3, 1, 0] rfl ?_
        exact ih _ _ _ hy hE
      refine g_if_eq K d_c11_reach_52 (fun c10 => ?_) (fun c10 => ?_)
      · rw [if_pos c10] at e_t11
        refine g_iconst (v := 0) K d_c11_reach_71 (by decide) ?_
        refine g_sub (ls2 := [(0, .ref a0), (1, .int x1), (3, .int x3)]) [0, 1, 3] rfl ?_
        obtain rfl := Option.some.inj e_t11
        exact hJ12
      · rw [if_neg c10] at e_t11
        refine g_aload_n K d_c11_reach_55 0 rfl ?_
        obtain ⟨v13, e_v13, e_t11⟩ := gBd e_t11
        refine g_getR K fl_c11_70 d_c11_reach_56 e_v13 ?_
        refine g_iload_n K d_c11_reach_59 3 rfl ?_
        obtain ⟨v14, e_v14, e_t11⟩ := gBd e_t11
        refine g_iald K d_c11_reach_60 e_v14 ?_
        refine g_ldcw (v := 1000000) K d_c11_reach_61 (gTk_7 44 rfl rfl) ?_
        refine g_icmp_ge K d_c11_reach_64 (fun c15 => ?_) (fun c15 => ?_)
        · rw [if_pos c15] at e_t11
          refine g_iconst (v := 0) K d_c11_reach_71 (by decide) ?_
          refine g_sub (ls2 := [(0, .ref a0), (1, .int x1), (3, .int x3)]) [0, 1, 3] rfl ?_
          obtain rfl := Option.some.inj e_t11
          exact hJ12
        · rw [if_neg c15] at e_t11
          refine g_iconst (v := 1) K d_c11_reach_67 (by decide) ?_
          refine g_goto K d_c11_reach_68 ?_
          refine g_sub (ls2 := [(0, .ref a0), (1, .int x1), (3, .int x3)]) [0, 1, 3] rfl ?_
          obtain rfl := Option.some.inj e_t11
          exact hJ12
set_option maxHeartbeats 4000000 in
set_option maxRecDepth 100000 in
theorem wlp_c11_reach_23 {M : gM} {X : gX} {N : Nat} (hx : gEx X = false) (K : gC M X gN11 b_c11_reach 7 (gRm (4 + N) 0 0)) (a0 : Nat) : ∀ (k : Nat) (x1 : Int32) (x2 : Int32) (h : gH) (o : Int32 × gH), lp_c11_reach_23 N a0 k x1 x2 h = some o → gG M X 7 0 0 82 [(0, .ref a0), (1, .int o.1)] [] o.2 → gG M X 7 0 0 23 [(0, .ref a0), (1, .int x1), (2, .int x2)] [] h := by
  intro k
  induction k with
  | zero =>
    intro x1 x2 h o hy
    rw [lp_c11_reach_23.eq_1] at hy
    cases hy
  | succ k ih =>
    intro x1 x2 h o hy hE
    rw [lp_c11_reach_23.eq_2] at hy
    refine g_iload_n K d_c11_reach_23 2 rfl ?_
    refine g_if_ne K d_c11_reach_24 (fun c5 => ?_) (fun c5 => ?_)
    · rw [if_neg c5] at hy
      refine g_sub (ls2 := [(0, .ref a0), (1, .int x1)]) [0, 1] rfl ?_
      obtain rfl := Option.some.inj hy
      exact hE
    · rw [if_pos c5] at hy
      refine g_iinc (ls2 := [(1, .int (x1 + (1 : Int32))), (0, .ref a0), (2, .int x2)]) (v := 1) K d_c11_reach_27 1 rfl (by decide) rfl rfl ?_
      refine g_aload_n K d_c11_reach_30 1 rfl ?_
      refine g_iconst (v := 0) K d_c11_reach_31 (by decide) ?_
      refine g_iload_n K d_c11_reach_32 0 rfl ?_
      obtain ⟨q6, e_q6, hy⟩ := gBd hy
      refine g_callVv (rest := []) K hx ly_c11_laySteps kv_c11_322 d_c11_reach_33 (ct_c11_laySteps M.2.1 X hx N a0 (0 : Int32) (x1 + (1 : Int32)) h q6 e_q6) rfl rfl (Nat.le_of_ble_eq_true rfl) (gDep rfl) ⟨Nat.le_refl 0, Nat.le_refl 0⟩ ?_
      refine g_iconst (v := 1) K d_c11_reach_36 (by decide) ?_
      refine g_istore_n (ls2 := [(2, .int (1 : Int32)), (1, .int (x1 + (1 : Int32))), (0, .ref a0)]) K d_c11_reach_37 rfl rfl ?_
      refine g_iconst (v := 0) K d_c11_reach_38 (by decide) ?_
      refine g_istore_n (ls2 := [(3, .int (0 : Int32)), (2, .int (1 : Int32)), (1, .int (x1 + (1 : Int32))), (0, .ref a0)]) K d_c11_reach_39 rfl rfl ?_
      obtain ⟨o16, e_o16, hy⟩ := gBd hy
      refine g_sub (ls2 := [(0, .ref a0), (1, .int (x1 + (1 : Int32))), (2, .int (1 : Int32)), (3, .int (0 : Int32))]) [3, 2, 1, 0] rfl ?_
      refine wlp_c11_reach_40 hx K a0 (x1 + (1 : Int32)) q6 N (1 : Int32) (0 : Int32) o16 e_o16 ?_
      refine g_goto K d_c11_reach_79 ?_
      exact ih _ _ _ _ hy hE
set_option maxHeartbeats 4000000 in
set_option maxRecDepth 100000 in
theorem wlp_c11_reach_108 {M : gM} {X : gX} {N : Nat} (hx : gEx X = false) (K : gC M X gN11 b_c11_reach 7 (gRm (4 + N) 0 0)) (a0 : Nat) (x5 : Int32) (x1 : Int32) (h : gH) : ∀ (k : Nat) (x3 : Int32) (x4 : Int32) (x6 : Int32) (o : Int32 × Int32), lp_c11_reach_108 N a0 x5 h k x3 x4 x6 = some o → gG M X 7 0 0 174 [(0, .ref a0), (1, .int x1), (3, .int o.1), (4, .int o.2), (5, .int x5)] [] h → gG M X 7 0 0 108 [(0, .ref a0), (1, .int x1), (3, .int x3), (4, .int x4), (5, .int x5), (6, .int x6)] [] h := by
  intro k
  induction k with
  | zero =>
    intro x3 x4 x6 o hy
    rw [lp_c11_reach_108.eq_1] at hy
    cases hy
  | succ k ih =>
    intro x3 x4 x6 o hy hE
    rw [lp_c11_reach_108.eq_2] at hy
    refine g_iload K d_c11_reach_108 5 rfl ?_
    refine g_aload_n K d_c11_reach_110 0 rfl ?_
    obtain ⟨v21, e_v21, hy⟩ := gBd hy
    refine g_getR K fl_c11_9 d_c11_reach_111 e_v21 ?_
    refine g_bipush (v := 40) K d_c11_reach_114 (by decide) ?_
    obtain ⟨v22, e_v22, hy⟩ := gBd hy
    refine g_iald K d_c11_reach_116 e_v22 ?_
    refine g_icmp_ge K d_c11_reach_117 (fun c23 => ?_) (fun c23 => ?_)
    · rw [if_pos c23] at hy
      refine g_sub (ls2 := [(0, .ref a0), (1, .int x1), (3, .int x3), (4, .int x4), (5, .int x5)]) [0, 1, 2, 3, 4] rfl ?_
      obtain rfl := Option.some.inj hy
      exact hE
    · rw [if_neg c23] at hy
      refine g_aload_n K d_c11_reach_120 0 rfl ?_
      refine g_aload_n K d_c11_reach_121 0 rfl ?_
      obtain ⟨v24, e_v24, hy⟩ := gBd hy
      refine g_getR K fl_c11_9 d_c11_reach_122 e_v24 ?_
      refine g_iload K d_c11_reach_125 4 rfl ?_
      obtain ⟨v25, e_v25, hy⟩ := gBd hy
      refine g_iald K d_c11_reach_127 e_v25 ?_
      refine g_aload_n K d_c11_reach_128 0 rfl ?_
      obtain ⟨v26, e_v26, hy⟩ := gBd hy
      refine g_getR K fl_c11_9 d_c11_reach_129 e_v26 ?_
      refine g_iload K d_c11_reach_132 5 rfl ?_
      obtain ⟨v27, e_v27, hy⟩ := gBd hy
      refine g_iald K d_c11_reach_134 e_v27 ?_
      obtain ⟨q28, e_q28, hy⟩ := gBd hy
      refine g_callVi (rest := []) K hx ly_c11_farOf kv_c11_220 d_c11_reach_135 (ct_c11_farOf M.2.1 X hx N a0 v25 v27 h q28 e_q28) rfl rfl (Nat.le_of_ble_eq_true rfl) (gDep rfl) ⟨Nat.le_refl 0, Nat.le_refl 0⟩ ?_
      refine g_aload_n K d_c11_reach_138 0 rfl ?_
      refine g_aload_n K d_c11_reach_139 0 rfl ?_
      obtain ⟨v29, e_v29, hy⟩ := gBd hy
      refine g_getR K fl_c11_9 d_c11_reach_140 e_v29 ?_
      refine g_iload_n K d_c11_reach_143 2 rfl ?_
      obtain ⟨v30, e_v30, hy⟩ := gBd hy
      refine g_iald K d_c11_reach_144 e_v30 ?_
      refine g_aload_n K d_c11_reach_145 0 rfl ?_
      obtain ⟨v31, e_v31, hy⟩ := gBd hy
      refine g_getR K fl_c11_9 d_c11_reach_146 e_v31 ?_
      refine g_iload K d_c11_reach_149 3 rfl ?_
      obtain ⟨v32, e_v32, hy⟩ := gBd hy
      refine g_iald K d_c11_reach_151 e_v32 ?_
      obtain ⟨q33, e_q33, hy⟩ := gBd hy
      refine g_callVi (rest := [.int q28]) K hx ly_c11_farOf kv_c11_220 d_c11_reach_152 (ct_c11_farOf M.2.1 X hx N a0 v30 v32 h q33 e_q33) rfl rfl (Nat.le_of_ble_eq_true rfl) (gDep rfl) ⟨Nat.le_refl 0, Nat.le_refl 0⟩ ?_
      obtain ⟨t35, e_t35, hy⟩ := gBd hy
      have hJ36 : gG M X 7 0 0 168 [(0, .ref a0), (1, .int x1), (3, .int t35.1), (4, .int t35.2), (5, .int x5), (6, .int x6)] [] h := by
        refine g_iinc (ls2 := [(6, .int (x6 + (1 : Int32))), (0, .ref a0), (1, .int x1), (3, .int t35.1), (4, .int t35.2), (5, .int x5)]) (v := 1) K d_c11_reach_168 5 rfl (by decide) rfl rfl ?_
        refine g_goto K d_c11_reach_171 ?_
        refine g_sub (ls2 := [(0, .ref a0), (1, .int x1), (3, .int t35.1), (4, .int t35.2), (5, .int x5), (6, .int (x6 + (1 : Int32)))]) [1, 2, 3, 4, 5, 0] rfl ?_
        exact ih _ _ _ _ hy hE
      refine g_icmp_gt K d_c11_reach_155 (fun c34 => ?_) (fun c34 => ?_)
      · rw [if_pos c34] at e_t35
        refine g_iload K d_c11_reach_161 4 rfl ?_
        refine g_istore_n (ls2 := [(3, .int x5), (0, .ref a0), (1, .int x1), (4, .int x4), (5, .int x5), (6, .int x6)]) K d_c11_reach_163 rfl rfl ?_
        refine g_iload K d_c11_reach_164 5 rfl ?_
        refine g_istore (ls2 := [(4, .int x6), (3, .int x5), (0, .ref a0), (1, .int x1), (5, .int x5), (6, .int x6)]) K d_c11_reach_166 rfl rfl ?_
        refine g_sub (ls2 := [(0, .ref a0), (1, .int x1), (3, .int x5), (4, .int x6), (5, .int x5), (6, .int x6)]) [2, 3, 1, 0, 4, 5] rfl ?_
        obtain rfl := Option.some.inj e_t35
        exact hJ36
      · rw [if_neg c34] at e_t35
        refine g_goto K d_c11_reach_158 ?_
        obtain rfl := Option.some.inj e_t35
        exact hJ36
set_option maxHeartbeats 4000000 in
set_option maxRecDepth 100000 in
theorem wlp_c11_reach_90 {M : gM} {X : gX} {N : Nat} (hx : gEx X = false) (K : gC M X gN11 b_c11_reach 7 (gRm (4 + N) 0 0)) (a0 : Nat) (x1 : Int32) (h : gH) : ∀ (k : Nat) (x3 : Int32) (x4 : Int32) (x5 : Int32) (o : Int32 × Int32), lp_c11_reach_90 N a0 h k x3 x4 x5 = some o → gG M X 7 0 0 180 [(0, .ref a0), (1, .int x1), (3, .int o.1), (4, .int o.2)] [] h → gG M X 7 0 0 90 [(0, .ref a0), (1, .int x1), (3, .int x3), (4, .int x4), (5, .int x5)] [] h := by
  intro k
  induction k with
  | zero =>
    intro x3 x4 x5 o hy
    rw [lp_c11_reach_90.eq_1] at hy
    cases hy
  | succ k ih =>
    intro x3 x4 x5 o hy hE
    rw [lp_c11_reach_90.eq_2] at hy
    refine g_iload K d_c11_reach_90 4 rfl ?_
    refine g_aload_n K d_c11_reach_92 0 rfl ?_
    obtain ⟨v18, e_v18, hy⟩ := gBd hy
    refine g_getR K fl_c11_9 d_c11_reach_93 e_v18 ?_
    refine g_bipush (v := 40) K d_c11_reach_96 (by decide) ?_
    obtain ⟨v19, e_v19, hy⟩ := gBd hy
    refine g_iald K d_c11_reach_98 e_v19 ?_
    refine g_icmp_ge K d_c11_reach_99 (fun c20 => ?_) (fun c20 => ?_)
    · rw [if_pos c20] at hy
      refine g_sub (ls2 := [(0, .ref a0), (1, .int x1), (3, .int x3), (4, .int x4)]) [0, 1, 2, 3] rfl ?_
      obtain rfl := Option.some.inj hy
      exact hE
    · rw [if_neg c20] at hy
      refine g_iload K d_c11_reach_102 4 rfl ?_
      refine g_iconst (v := 1) K d_c11_reach_104 (by decide) ?_
      refine g_iadd K d_c11_reach_105 ?_
      refine g_istore (ls2 := [(6, .int (x5 + (1 : Int32))), (0, .ref a0), (1, .int x1), (3, .int x3), (4, .int x4), (5, .int x5)]) K d_c11_reach_106 rfl rfl ?_
      obtain ⟨o37, e_o37, hy⟩ := gBd hy
      refine g_sub (ls2 := [(0, .ref a0), (1, .int x1), (3, .int x3), (4, .int x4), (5, .int x5), (6, .int (x5 + (1 : Int32)))]) [1, 2, 3, 4, 5, 0] rfl ?_
      refine wlp_c11_reach_108 hx K a0 x5 x1 h N x3 x4 (x5 + (1 : Int32)) o37 e_o37 ?_
      refine g_iinc (ls2 := [(5, .int (x5 + (1 : Int32))), (0, .ref a0), (1, .int x1), (3, .int o37.1), (4, .int o37.2)]) (v := 1) K d_c11_reach_174 4 rfl (by decide) rfl rfl ?_
      refine g_goto K d_c11_reach_177 ?_
      refine g_sub (ls2 := [(0, .ref a0), (1, .int x1), (3, .int o37.1), (4, .int o37.2), (5, .int (x5 + (1 : Int32)))]) [1, 2, 3, 4, 0] rfl ?_
      exact ih _ _ _ _ hy hE
set_option maxHeartbeats 4000000 in
set_option maxRecDepth 100000 in
theorem ct_c11_reach (l : Launch) (X : gX) (hx : gEx X = false) (N : Nat) (a0 : Nat) (h : gH) (q : Int32 × gH) (hy : f_c11_reach N a0 h = some q) : gRc y_c11_reach h a0 ∧ gMi l X y_c11_reach b_c11_reach 7 .int (4 + N) 0 0 [.ref a0] h q.1 q.2 := by
  unfold f_c11_reach at hy
  obtain ⟨u0, e_u0, hy⟩ := gBd hy
  cases u0
  refine ⟨Or.inl ⟨11, _, _, e_u0, rfl⟩, gMet_i (lsx := [(0, .ref a0)]) (by decide) rfl rfl ?_⟩
  intro M hMl K hret
  subst hMl
  refine g_aload_n K d_c11_reach_0 0 rfl ?_
  refine g_iconst (v := 0) K d_c11_reach_1 (by decide) ?_
  obtain ⟨h1, e_h1, hy⟩ := gBd hy
  refine g_putI K fp_c11_95 d_c11_reach_2 e_h1 ?_
  refine g_aload_n K d_c11_reach_5 0 rfl ?_
  obtain ⟨v2, e_v2, hy⟩ := gBd hy
  refine g_getR K fl_c11_9 d_c11_reach_6 e_v2 ?_
  refine g_bipush (v := 40) K d_c11_reach_9 (by decide) ?_
  obtain ⟨v3, e_v3, hy⟩ := gBd hy
  refine g_iald K d_c11_reach_11 e_v3 ?_
  refine g_iconst (v := 2) K d_c11_reach_12 (by decide) ?_
  refine g_icmp_ge K d_c11_reach_13 (fun c4 => ?_) (fun c4 => ?_)
  · rw [if_pos c4] at hy
    refine g_iconst (v := 0) K d_c11_reach_19 (by decide) ?_
    refine g_istore_n (ls2 := [(1, .int (0 : Int32)), (0, .ref a0)]) K d_c11_reach_20 rfl rfl ?_
    refine g_iconst (v := 0) K d_c11_reach_21 (by decide) ?_
    refine g_istore_n (ls2 := [(2, .int (0 : Int32)), (1, .int (0 : Int32)), (0, .ref a0)]) K d_c11_reach_22 rfl rfl ?_
    obtain ⟨o17, e_o17, hy⟩ := gBd hy
    refine g_sub (ls2 := [(0, .ref a0), (1, .int (0 : Int32)), (2, .int (0 : Int32))]) [2, 1, 0] rfl ?_
    refine wlp_c11_reach_23 hx K a0 N (0 : Int32) (0 : Int32) h1 o17 e_o17 ?_
    refine g_iconst (v := 0) K d_c11_reach_82 (by decide) ?_
    refine g_istore_n (ls2 := [(3, .int (0 : Int32)), (0, .ref a0), (1, .int o17.1)]) K d_c11_reach_83 rfl rfl ?_
    refine g_iconst (v := 1) K d_c11_reach_84 (by decide) ?_
    refine g_istore (ls2 := [(4, .int (1 : Int32)), (3, .int (0 : Int32)), (0, .ref a0), (1, .int o17.1)]) K d_c11_reach_85 rfl rfl ?_
    refine g_iconst (v := 0) K d_c11_reach_87 (by decide) ?_
    refine g_istore (ls2 := [(5, .int (0 : Int32)), (4, .int (1 : Int32)), (3, .int (0 : Int32)), (0, .ref a0), (1, .int o17.1)]) K d_c11_reach_88 rfl rfl ?_
    obtain ⟨o38, e_o38, hy⟩ := gBd hy
    refine g_sub (ls2 := [(0, .ref a0), (1, .int o17.1), (3, .int (0 : Int32)), (4, .int (1 : Int32)), (5, .int (0 : Int32))]) [3, 4, 2, 1, 0] rfl ?_
    refine wlp_c11_reach_90 hx K a0 o17.1 o17.2 N (0 : Int32) (1 : Int32) (0 : Int32) o38 e_o38 ?_
    refine g_aload_n K d_c11_reach_180 0 rfl ?_
    refine g_iconst (v := 0) K d_c11_reach_181 (by decide) ?_
    obtain ⟨h39, e_h39, hy⟩ := gBd hy
    refine g_putI K fp_c11_98 d_c11_reach_182 e_h39 ?_
    refine g_aload_n K d_c11_reach_185 0 rfl ?_
    refine g_iload_n K d_c11_reach_186 2 rfl ?_
    refine g_i2l K d_c11_reach_187 ?_
    obtain ⟨q40, e_q40, hy⟩ := gBd hy
    refine g_callVv (rest := []) K hx ly_c11_tell kv_c11_268 d_c11_reach_188 (ct_c11_tell M.2.1 X hx N a0 o38.1.toInt64 h39 q40 e_q40) rfl rfl (Nat.le_of_ble_eq_true rfl) (gDep rfl) ⟨Nat.le_refl 0, Nat.le_refl 0⟩ ?_
    refine g_aload_n K d_c11_reach_191 0 rfl ?_
    refine g_iload K d_c11_reach_192 3 rfl ?_
    refine g_i2l K d_c11_reach_194 ?_
    obtain ⟨q41, e_q41, hy⟩ := gBd hy
    refine g_callVv (rest := []) K hx ly_c11_tell kv_c11_268 d_c11_reach_195 (ct_c11_tell M.2.1 X hx N a0 o38.2.toInt64 q40 q41 e_q41) rfl rfl (Nat.le_of_ble_eq_true rfl) (gDep rfl) ⟨Nat.le_refl 0, Nat.le_refl 0⟩ ?_
    refine g_aload_n K d_c11_reach_198 0 rfl ?_
    refine g_aload_n K d_c11_reach_199 0 rfl ?_
    refine g_aload_n K d_c11_reach_200 0 rfl ?_
    obtain ⟨v42, e_v42, hy⟩ := gBd hy
    refine g_getR K fl_c11_9 d_c11_reach_201 e_v42 ?_
    refine g_iload_n K d_c11_reach_204 2 rfl ?_
    obtain ⟨v43, e_v43, hy⟩ := gBd hy
    refine g_iald K d_c11_reach_205 e_v43 ?_
    refine g_aload_n K d_c11_reach_206 0 rfl ?_
    obtain ⟨v44, e_v44, hy⟩ := gBd hy
    refine g_getR K fl_c11_9 d_c11_reach_207 e_v44 ?_
    refine g_iload K d_c11_reach_210 3 rfl ?_
    obtain ⟨v45, e_v45, hy⟩ := gBd hy
    refine g_iald K d_c11_reach_212 e_v45 ?_
    obtain ⟨q46, e_q46, hy⟩ := gBd hy
    refine g_callVi (rest := [.ref a0]) K hx ly_c11_farOf kv_c11_220 d_c11_reach_213 (ct_c11_farOf M.2.1 X hx N a0 v43 v45 q41 q46 e_q46) rfl rfl (Nat.le_of_ble_eq_true rfl) (gDep rfl) ⟨Nat.le_refl 0, Nat.le_refl 0⟩ ?_
    refine g_i2l K d_c11_reach_216 ?_
    obtain ⟨q47, e_q47, hy⟩ := gBd hy
    refine g_callVv (rest := []) K hx ly_c11_tell kv_c11_268 d_c11_reach_217 (ct_c11_tell M.2.1 X hx N a0 q46.toInt64 q41 q47 e_q47) rfl rfl (Nat.le_of_ble_eq_true rfl) (gDep rfl) ⟨Nat.le_refl 0, Nat.le_refl 0⟩ ?_
    refine g_iload_n K d_c11_reach_220 1 rfl ?_
    obtain rfl := Option.some.inj hy
    exact hret rfl _ _ _ d_c11_reach_221
  · rw [if_neg c4] at hy
    refine g_bipush (v := (-2)) K d_c11_reach_16 (by decide) ?_
    obtain rfl := Option.some.inj hy
    exact hret rfl _ _ _ d_c11_reach_18
-- c11 readAct
theorem d_c11_readAct_0 : gD b_c11_readAct 0 (.aload_n 0) 1 1 := ⟨by decide +kernel, rfl⟩
theorem d_c11_readAct_1 : gD b_c11_readAct 1 (.invokevirtual 144) 3 4 := ⟨by decide +kernel, rfl⟩
theorem d_c11_readAct_4 : gD b_c11_readAct 4 (.istore_n 2) 1 5 := ⟨by decide +kernel, rfl⟩
theorem d_c11_readAct_5 : gD b_c11_readAct 5 (.iload_n 2) 1 6 := ⟨by decide +kernel, rfl⟩
theorem d_c11_readAct_6 : gD b_c11_readAct 6 (.bipush 110) 2 8 := ⟨by decide +kernel, rfl⟩
theorem d_c11_readAct_8 : gJ b_c11_readAct 8 (.if_icmp .eq 42) 3 42 11 50 := ⟨by decide +kernel, rfl, by decide⟩
theorem d_c11_readAct_11 : gD b_c11_readAct 11 (.iload_n 2) 1 12 := ⟨by decide +kernel, rfl⟩
theorem d_c11_readAct_12 : gD b_c11_readAct 12 (.bipush 115) 2 14 := ⟨by decide +kernel, rfl⟩
theorem d_c11_readAct_14 : gJ b_c11_readAct 14 (.if_icmp .eq 36) 3 36 17 50 := ⟨by decide +kernel, rfl, by decide⟩
theorem d_c11_readAct_17 : gD b_c11_readAct 17 (.iload_n 2) 1 18 := ⟨by decide +kernel, rfl⟩
theorem d_c11_readAct_18 : gD b_c11_readAct 18 (.bipush 97) 2 20 := ⟨by decide +kernel, rfl⟩
theorem d_c11_readAct_20 : gJ b_c11_readAct 20 (.if_icmp .eq 30) 3 30 23 50 := ⟨by decide +kernel, rfl, by decide⟩
theorem d_c11_readAct_23 : gD b_c11_readAct 23 (.iload_n 2) 1 24 := ⟨by decide +kernel, rfl⟩
theorem d_c11_readAct_24 : gD b_c11_readAct 24 (.bipush 99) 2 26 := ⟨by decide +kernel, rfl⟩
theorem d_c11_readAct_26 : gJ b_c11_readAct 26 (.if_icmp .eq 24) 3 24 29 50 := ⟨by decide +kernel, rfl, by decide⟩
theorem d_c11_readAct_29 : gD b_c11_readAct 29 (.iload_n 2) 1 30 := ⟨by decide +kernel, rfl⟩
theorem d_c11_readAct_30 : gD b_c11_readAct 30 (.bipush 100) 2 32 := ⟨by decide +kernel, rfl⟩
theorem d_c11_readAct_32 : gJ b_c11_readAct 32 (.if_icmp .eq 18) 3 18 35 50 := ⟨by decide +kernel, rfl, by decide⟩
theorem d_c11_readAct_35 : gD b_c11_readAct 35 (.iload_n 2) 1 36 := ⟨by decide +kernel, rfl⟩
theorem d_c11_readAct_36 : gD b_c11_readAct 36 (.bipush 114) 2 38 := ⟨by decide +kernel, rfl⟩
theorem d_c11_readAct_38 : gJ b_c11_readAct 38 (.if_icmp .eq 12) 3 12 41 50 := ⟨by decide +kernel, rfl, by decide⟩
theorem d_c11_readAct_41 : gD b_c11_readAct 41 (.aload_n 0) 1 42 := ⟨by decide +kernel, rfl⟩
theorem d_c11_readAct_42 : gD b_c11_readAct 42 (.aload_n 0) 1 43 := ⟨by decide +kernel, rfl⟩
theorem d_c11_readAct_43 : gD b_c11_readAct 43 (.getfield 130) 3 46 := ⟨by decide +kernel, rfl⟩
theorem d_c11_readAct_46 : gD b_c11_readAct 46 (.invokevirtual 151) 3 49 := ⟨by decide +kernel, rfl⟩
theorem d_c11_readAct_49 : gD b_c11_readAct 49 .return_ 1 50 := ⟨by decide +kernel, rfl⟩
theorem d_c11_readAct_50 : gD b_c11_readAct 50 (.aload_n 0) 1 51 := ⟨by decide +kernel, rfl⟩
theorem d_c11_readAct_51 : gD b_c11_readAct 51 .dup 1 52 := ⟨by decide +kernel, rfl⟩
theorem d_c11_readAct_52 : gD b_c11_readAct 52 (.getfield 130) 3 55 := ⟨by decide +kernel, rfl⟩
theorem d_c11_readAct_55 : gD b_c11_readAct 55 (.iconst 1) 1 56 := ⟨by decide +kernel, rfl⟩
theorem d_c11_readAct_56 : gD b_c11_readAct 56 .iadd 1 57 := ⟨by decide +kernel, rfl⟩
theorem d_c11_readAct_57 : gD b_c11_readAct 57 (.putfield 130) 3 60 := ⟨by decide +kernel, rfl⟩
theorem d_c11_readAct_60 : gD b_c11_readAct 60 (.aload_n 0) 1 61 := ⟨by decide +kernel, rfl⟩
theorem d_c11_readAct_61 : gD b_c11_readAct 61 (.getfield 64) 3 64 := ⟨by decide +kernel, rfl⟩
theorem d_c11_readAct_64 : gD b_c11_readAct 64 (.iload_n 1) 1 65 := ⟨by decide +kernel, rfl⟩
theorem d_c11_readAct_65 : gD b_c11_readAct 65 (.iload_n 2) 1 66 := ⟨by decide +kernel, rfl⟩
theorem d_c11_readAct_66 : gD b_c11_readAct 66 .iastore 1 67 := ⟨by decide +kernel, rfl⟩
theorem d_c11_readAct_67 : gD b_c11_readAct 67 (.aload_n 0) 1 68 := ⟨by decide +kernel, rfl⟩
theorem d_c11_readAct_68 : gD b_c11_readAct 68 (.getfield 64) 3 71 := ⟨by decide +kernel, rfl⟩
theorem d_c11_readAct_71 : gD b_c11_readAct 71 (.iload_n 1) 1 72 := ⟨by decide +kernel, rfl⟩
theorem d_c11_readAct_72 : gD b_c11_readAct 72 (.iconst 1) 1 73 := ⟨by decide +kernel, rfl⟩
theorem d_c11_readAct_73 : gD b_c11_readAct 73 .iadd 1 74 := ⟨by decide +kernel, rfl⟩
theorem d_c11_readAct_74 : gD b_c11_readAct 74 (.aload_n 0) 1 75 := ⟨by decide +kernel, rfl⟩
theorem d_c11_readAct_75 : gD b_c11_readAct 75 (.bipush 48) 2 77 := ⟨by decide +kernel, rfl⟩
theorem d_c11_readAct_77 : gD b_c11_readAct 77 (.bipush 10) 2 79 := ⟨by decide +kernel, rfl⟩
theorem d_c11_readAct_79 : gD b_c11_readAct 79 (.invokevirtual 155) 3 82 := ⟨by decide +kernel, rfl⟩
theorem d_c11_readAct_82 : gD b_c11_readAct 82 .iastore 1 83 := ⟨by decide +kernel, rfl⟩
theorem d_c11_readAct_83 : gD b_c11_readAct 83 (.iload_n 2) 1 84 := ⟨by decide +kernel, rfl⟩
theorem d_c11_readAct_84 : gD b_c11_readAct 84 (.bipush 100) 2 86 := ⟨by decide +kernel, rfl⟩
theorem d_c11_readAct_86 : gJ b_c11_readAct 86 (.if_icmp .ne 21) 3 21 89 107 := ⟨by decide +kernel, rfl, by decide⟩
theorem d_c11_readAct_89 : gD b_c11_readAct 89 (.aload_n 0) 1 90 := ⟨by decide +kernel, rfl⟩
theorem d_c11_readAct_90 : gD b_c11_readAct 90 (.getfield 64) 3 93 := ⟨by decide +kernel, rfl⟩
theorem d_c11_readAct_93 : gD b_c11_readAct 93 (.iload_n 1) 1 94 := ⟨by decide +kernel, rfl⟩
theorem d_c11_readAct_94 : gD b_c11_readAct 94 (.iconst 2) 1 95 := ⟨by decide +kernel, rfl⟩
theorem d_c11_readAct_95 : gD b_c11_readAct 95 .iadd 1 96 := ⟨by decide +kernel, rfl⟩
theorem d_c11_readAct_96 : gD b_c11_readAct 96 (.aload_n 0) 1 97 := ⟨by decide +kernel, rfl⟩
theorem d_c11_readAct_97 : gD b_c11_readAct 97 (.bipush 49) 2 99 := ⟨by decide +kernel, rfl⟩
theorem d_c11_readAct_99 : gD b_c11_readAct 99 (.bipush 9) 2 101 := ⟨by decide +kernel, rfl⟩
theorem d_c11_readAct_101 : gD b_c11_readAct 101 (.invokevirtual 155) 3 104 := ⟨by decide +kernel, rfl⟩
theorem d_c11_readAct_104 : gD b_c11_readAct 104 (.iconst 1) 1 105 := ⟨by decide +kernel, rfl⟩
theorem d_c11_readAct_105 : gD b_c11_readAct 105 .iadd 1 106 := ⟨by decide +kernel, rfl⟩
theorem d_c11_readAct_106 : gD b_c11_readAct 106 .iastore 1 107 := ⟨by decide +kernel, rfl⟩
theorem d_c11_readAct_107 : gD b_c11_readAct 107 (.iload_n 2) 1 108 := ⟨by decide +kernel, rfl⟩
theorem d_c11_readAct_108 : gD b_c11_readAct 108 (.bipush 115) 2 110 := ⟨by decide +kernel, rfl⟩
theorem d_c11_readAct_110 : gJ b_c11_readAct 110 (.if_icmp .eq 4) 3 4 113 114 := ⟨by decide +kernel, rfl, by decide⟩
theorem d_c11_readAct_113 : gD b_c11_readAct 113 .return_ 1 114 := ⟨by decide +kernel, rfl⟩
theorem d_c11_readAct_114 : gD b_c11_readAct 114 (.aload_n 0) 1 115 := ⟨by decide +kernel, rfl⟩
theorem d_c11_readAct_115 : gD b_c11_readAct 115 (.bipush 48) 2 117 := ⟨by decide +kernel, rfl⟩
theorem d_c11_readAct_117 : gD b_c11_readAct 117 (.bipush 10) 2 119 := ⟨by decide +kernel, rfl⟩
theorem d_c11_readAct_119 : gD b_c11_readAct 119 (.invokevirtual 155) 3 122 := ⟨by decide +kernel, rfl⟩
theorem d_c11_readAct_122 : gD b_c11_readAct 122 (.istore_n 3) 1 123 := ⟨by decide +kernel, rfl⟩
theorem d_c11_readAct_123 : gD b_c11_readAct 123 (.aload_n 0) 1 124 := ⟨by decide +kernel, rfl⟩
theorem d_c11_readAct_124 : gD b_c11_readAct 124 (.getfield 64) 3 127 := ⟨by decide +kernel, rfl⟩
theorem d_c11_readAct_127 : gD b_c11_readAct 127 (.iload_n 1) 1 128 := ⟨by decide +kernel, rfl⟩
theorem d_c11_readAct_128 : gD b_c11_readAct 128 (.iconst 1) 1 129 := ⟨by decide +kernel, rfl⟩
theorem d_c11_readAct_129 : gD b_c11_readAct 129 .iadd 1 130 := ⟨by decide +kernel, rfl⟩
theorem d_c11_readAct_130 : gD b_c11_readAct 130 (.aload_n 0) 1 131 := ⟨by decide +kernel, rfl⟩
theorem d_c11_readAct_131 : gD b_c11_readAct 131 (.getfield 64) 3 134 := ⟨by decide +kernel, rfl⟩
theorem d_c11_readAct_134 : gD b_c11_readAct 134 (.iload_n 1) 1 135 := ⟨by decide +kernel, rfl⟩
theorem d_c11_readAct_135 : gD b_c11_readAct 135 (.iconst 1) 1 136 := ⟨by decide +kernel, rfl⟩
theorem d_c11_readAct_136 : gD b_c11_readAct 136 .iadd 1 137 := ⟨by decide +kernel, rfl⟩
theorem d_c11_readAct_137 : gD b_c11_readAct 137 .iaload 1 138 := ⟨by decide +kernel, rfl⟩
theorem d_c11_readAct_138 : gD b_c11_readAct 138 (.aload_n 0) 1 139 := ⟨by decide +kernel, rfl⟩
theorem d_c11_readAct_139 : gD b_c11_readAct 139 (.getfield 13) 3 142 := ⟨by decide +kernel, rfl⟩
theorem d_c11_readAct_142 : gJ b_c11_readAct 142 (.if_icmp .ge 29) 3 29 145 171 := ⟨by decide +kernel, rfl, by decide⟩
theorem d_c11_readAct_145 : gD b_c11_readAct 145 (.iload_n 3) 1 146 := ⟨by decide +kernel, rfl⟩
theorem d_c11_readAct_146 : gD b_c11_readAct 146 (.aload_n 0) 1 147 := ⟨by decide +kernel, rfl⟩
theorem d_c11_readAct_147 : gD b_c11_readAct 147 (.getfield 17) 3 150 := ⟨by decide +kernel, rfl⟩
theorem d_c11_readAct_150 : gJ b_c11_readAct 150 (.if_icmp .ge 21) 3 21 153 171 := ⟨by decide +kernel, rfl, by decide⟩
theorem d_c11_readAct_153 : gD b_c11_readAct 153 (.aload_n 0) 1 154 := ⟨by decide +kernel, rfl⟩
theorem d_c11_readAct_154 : gD b_c11_readAct 154 (.getfield 17) 3 157 := ⟨by decide +kernel, rfl⟩
theorem d_c11_readAct_157 : gD b_c11_readAct 157 (.aload_n 0) 1 158 := ⟨by decide +kernel, rfl⟩
theorem d_c11_readAct_158 : gD b_c11_readAct 158 (.getfield 64) 3 161 := ⟨by decide +kernel, rfl⟩
theorem d_c11_readAct_161 : gD b_c11_readAct 161 (.iload_n 1) 1 162 := ⟨by decide +kernel, rfl⟩
theorem d_c11_readAct_162 : gD b_c11_readAct 162 (.iconst 1) 1 163 := ⟨by decide +kernel, rfl⟩
theorem d_c11_readAct_163 : gD b_c11_readAct 163 .iadd 1 164 := ⟨by decide +kernel, rfl⟩
theorem d_c11_readAct_164 : gD b_c11_readAct 164 .iaload 1 165 := ⟨by decide +kernel, rfl⟩
theorem d_c11_readAct_165 : gD b_c11_readAct 165 .imul 1 166 := ⟨by decide +kernel, rfl⟩
theorem d_c11_readAct_166 : gD b_c11_readAct 166 (.iload_n 3) 1 167 := ⟨by decide +kernel, rfl⟩
theorem d_c11_readAct_167 : gD b_c11_readAct 167 .iadd 1 168 := ⟨by decide +kernel, rfl⟩
theorem d_c11_readAct_168 : gJ b_c11_readAct 168 (.goto 4) 3 4 171 172 := ⟨by decide +kernel, rfl, by decide⟩
theorem d_c11_readAct_171 : gD b_c11_readAct 171 (.iconst (-1)) 1 172 := ⟨by decide +kernel, rfl⟩
theorem d_c11_readAct_172 : gD b_c11_readAct 172 .iastore 1 173 := ⟨by decide +kernel, rfl⟩
theorem d_c11_readAct_173 : gD b_c11_readAct 173 (.aload_n 0) 1 174 := ⟨by decide +kernel, rfl⟩
theorem d_c11_readAct_174 : gD b_c11_readAct 174 (.getfield 64) 3 177 := ⟨by decide +kernel, rfl⟩
theorem d_c11_readAct_177 : gD b_c11_readAct 177 (.iload_n 1) 1 178 := ⟨by decide +kernel, rfl⟩
theorem d_c11_readAct_178 : gD b_c11_readAct 178 (.iconst 2) 1 179 := ⟨by decide +kernel, rfl⟩
theorem d_c11_readAct_179 : gD b_c11_readAct 179 .iadd 1 180 := ⟨by decide +kernel, rfl⟩
theorem d_c11_readAct_180 : gD b_c11_readAct 180 (.aload_n 0) 1 181 := ⟨by decide +kernel, rfl⟩
theorem d_c11_readAct_181 : gD b_c11_readAct 181 (.bipush 49) 2 183 := ⟨by decide +kernel, rfl⟩
theorem d_c11_readAct_183 : gD b_c11_readAct 183 (.bipush 9) 2 185 := ⟨by decide +kernel, rfl⟩
theorem d_c11_readAct_185 : gD b_c11_readAct 185 (.invokevirtual 155) 3 188 := ⟨by decide +kernel, rfl⟩
theorem d_c11_readAct_188 : gD b_c11_readAct 188 (.iconst 1) 1 189 := ⟨by decide +kernel, rfl⟩
theorem d_c11_readAct_189 : gD b_c11_readAct 189 .iadd 1 190 := ⟨by decide +kernel, rfl⟩
theorem d_c11_readAct_190 : gD b_c11_readAct 190 .iastore 1 191 := ⟨by decide +kernel, rfl⟩
theorem d_c11_readAct_191 : gD b_c11_readAct 191 (.aload_n 0) 1 192 := ⟨by decide +kernel, rfl⟩
theorem d_c11_readAct_192 : gD b_c11_readAct 192 (.getfield 64) 3 195 := ⟨by decide +kernel, rfl⟩
theorem d_c11_readAct_195 : gD b_c11_readAct 195 (.iload_n 1) 1 196 := ⟨by decide +kernel, rfl⟩
theorem d_c11_readAct_196 : gD b_c11_readAct 196 (.iconst 3) 1 197 := ⟨by decide +kernel, rfl⟩
theorem d_c11_readAct_197 : gD b_c11_readAct 197 .iadd 1 198 := ⟨by decide +kernel, rfl⟩
theorem d_c11_readAct_198 : gD b_c11_readAct 198 (.aload_n 0) 1 199 := ⟨by decide +kernel, rfl⟩
theorem d_c11_readAct_199 : gD b_c11_readAct 199 (.invokevirtual 144) 3 202 := ⟨by decide +kernel, rfl⟩
theorem d_c11_readAct_202 : gD b_c11_readAct 202 (.bipush 46) 2 204 := ⟨by decide +kernel, rfl⟩
theorem d_c11_readAct_204 : gJ b_c11_readAct 204 (.if_icmp .ne 7) 3 7 207 211 := ⟨by decide +kernel, rfl, by decide⟩
theorem d_c11_readAct_207 : gD b_c11_readAct 207 (.iconst 1) 1 208 := ⟨by decide +kernel, rfl⟩
theorem d_c11_readAct_208 : gJ b_c11_readAct 208 (.goto 4) 3 4 211 212 := ⟨by decide +kernel, rfl, by decide⟩
theorem d_c11_readAct_211 : gD b_c11_readAct 211 (.iconst 0) 1 212 := ⟨by decide +kernel, rfl⟩
theorem d_c11_readAct_212 : gD b_c11_readAct 212 .iastore 1 213 := ⟨by decide +kernel, rfl⟩
theorem d_c11_readAct_213 : gD b_c11_readAct 213 (.aload_n 0) 1 214 := ⟨by decide +kernel, rfl⟩
theorem d_c11_readAct_214 : gD b_c11_readAct 214 (.invokevirtual 140) 3 217 := ⟨by decide +kernel, rfl⟩
theorem d_c11_readAct_217 : gJ b_c11_readAct 217 (.ifCond .eq 29) 3 29 220 246 := ⟨by decide +kernel, rfl, by decide⟩
theorem d_c11_readAct_220 : gD b_c11_readAct 220 (.aload_n 0) 1 221 := ⟨by decide +kernel, rfl⟩
theorem d_c11_readAct_221 : gD b_c11_readAct 221 (.invokevirtual 144) 3 224 := ⟨by decide +kernel, rfl⟩
theorem d_c11_readAct_224 : gD b_c11_readAct 224 (.bipush 46) 2 226 := ⟨by decide +kernel, rfl⟩
theorem d_c11_readAct_226 : gJ b_c11_readAct 226 (.if_icmp .eq 20) 3 20 229 246 := ⟨by decide +kernel, rfl, by decide⟩
theorem d_c11_readAct_229 : gD b_c11_readAct 229 (.aload_n 0) 1 230 := ⟨by decide +kernel, rfl⟩
theorem d_c11_readAct_230 : gD b_c11_readAct 230 (.invokevirtual 144) 3 233 := ⟨by decide +kernel, rfl⟩
theorem d_c11_readAct_233 : gD b_c11_readAct 233 (.bipush 44) 2 235 := ⟨by decide +kernel, rfl⟩
theorem d_c11_readAct_235 : gJ b_c11_readAct 235 (.if_icmp .eq 11) 3 11 238 246 := ⟨by decide +kernel, rfl, by decide⟩
theorem d_c11_readAct_238 : gD b_c11_readAct 238 (.aload_n 0) 1 239 := ⟨by decide +kernel, rfl⟩
theorem d_c11_readAct_239 : gD b_c11_readAct 239 (.aload_n 0) 1 240 := ⟨by decide +kernel, rfl⟩
theorem d_c11_readAct_240 : gD b_c11_readAct 240 (.getfield 130) 3 243 := ⟨by decide +kernel, rfl⟩
theorem d_c11_readAct_243 : gD b_c11_readAct 243 (.invokevirtual 151) 3 246 := ⟨by decide +kernel, rfl⟩
theorem d_c11_readAct_246 : gD b_c11_readAct 246 (.aload_n 0) 1 247 := ⟨by decide +kernel, rfl⟩
theorem d_c11_readAct_247 : gD b_c11_readAct 247 .dup 1 248 := ⟨by decide +kernel, rfl⟩
theorem d_c11_readAct_248 : gD b_c11_readAct 248 (.getfield 130) 3 251 := ⟨by decide +kernel, rfl⟩
theorem d_c11_readAct_251 : gD b_c11_readAct 251 (.iconst 1) 1 252 := ⟨by decide +kernel, rfl⟩
theorem d_c11_readAct_252 : gD b_c11_readAct 252 .iadd 1 253 := ⟨by decide +kernel, rfl⟩
theorem d_c11_readAct_253 : gD b_c11_readAct 253 (.putfield 130) 3 256 := ⟨by decide +kernel, rfl⟩
theorem d_c11_readAct_256 : gD b_c11_readAct 256 .return_ 1 257 := ⟨by decide +kernel, rfl⟩
def f_c11_readAct (N : Nat) (a0 : Nat) (x1 : Int32) (h : gH) : Option (gH) :=
  (gcl h a0 11).bind fun _ =>
  (f_c11_here N a0 h).bind fun q1 =>
    (show Option ((gH) ⊕ (Unit)) from if q1 = (110 : Int32) then
    some (.inr ())
  else
    if q1 = (115 : Int32) then
    some (.inr ())
  else
    if q1 = (97 : Int32) then
    some (.inr ())
  else
    if q1 = (99 : Int32) then
    some (.inr ())
  else
    if q1 = (100 : Int32) then
    some (.inr ())
  else
    if q1 = (114 : Int32) then
    some (.inr ())
  else
    (gfI h a0 11 14).bind fun v62 =>
    (f_c11_fault N a0 v62 h).bind fun q63 =>
    (show Option (gH) from some q63).bind fun r64 => some (.inl r64)).bind fun o5 => Sum.elim (fun r6 => some r6) (fun t3 =>
    (gfI h a0 11 14).bind fun v8 =>
    (sf h a0 11 14 (.int (v8 + (1 : Int32)))).bind fun h9 =>
    (gfR h9 a0 11 29).bind fun v10 =>
    (sa 0 h9 v10 x1 q1).bind fun h11 =>
    (gfR h11 a0 11 29).bind fun v12 =>
    (f_c11_oneOf N a0 (48 : Int32) (10 : Int32) h11).bind fun q13 =>
    (sa 0 q13.2 v12 (x1 + (1 : Int32)) q13.1).bind fun h14 =>
    (show Option (gH) from if q1 = (100 : Int32) then
    (gfR h14 a0 11 29).bind fun v54 =>
    (f_c11_oneOf N a0 (49 : Int32) (9 : Int32) h14).bind fun q55 =>
    (sa 0 q55.2 v54 (x1 + (2 : Int32)) (q55.1 + (1 : Int32))).bind fun h56 =>
    some h56
  else
    some h14).bind fun t16 =>
    if q1 = (115 : Int32) then
    (f_c11_oneOf N a0 (48 : Int32) (10 : Int32) t16).bind fun q19 =>
    (gfR q19.2 a0 11 29).bind fun v20 =>
    (gfR q19.2 a0 11 29).bind fun v21 =>
    (ga 0 q19.2 v21 (x1 + (1 : Int32))).bind fun v22 =>
    (gfI q19.2 a0 11 1).bind fun v23 =>
    (show Option (Int32) from if v23 ≤ v22 then
    some (-1 : Int32)
  else
    (gfI q19.2 a0 11 2).bind fun v49 =>
    if v49 ≤ q19.1 then
    some (-1 : Int32)
  else
    (gfI q19.2 a0 11 2).bind fun v51 =>
    (gfR q19.2 a0 11 29).bind fun v52 =>
    (ga 0 q19.2 v52 (x1 + (1 : Int32))).bind fun v53 =>
    some ((v51 * v53) + q19.1)).bind fun t25 =>
    (sa 0 q19.2 v20 (x1 + (1 : Int32)) t25).bind fun h27 =>
    (gfR h27 a0 11 29).bind fun v28 =>
    (f_c11_oneOf N a0 (49 : Int32) (9 : Int32) h27).bind fun q29 =>
    (sa 0 q29.2 v28 (x1 + (2 : Int32)) (q29.1 + (1 : Int32))).bind fun h30 =>
    (gfR h30 a0 11 29).bind fun v31 =>
    (f_c11_here N a0 h30).bind fun q32 =>
    (sa 0 h30 v31 (x1 + (3 : Int32)) (if q32 = (46 : Int32) then (1 : Int32) else (0 : Int32))).bind fun h36 =>
    (f_c11_fine N a0 h36).bind fun q37 =>
    (show Option (gH) from if q37 = 0 then
    some h36
  else
    (f_c11_here N a0 h36).bind fun q43 =>
    if q43 = (46 : Int32) then
    some h36
  else
    (f_c11_here N a0 h36).bind fun q45 =>
    if q45 = (44 : Int32) then
    some h36
  else
    (gfI h36 a0 11 14).bind fun v47 =>
    (f_c11_fault N a0 v47 h36).bind fun q48 =>
    some q48).bind fun t39 =>
    (gfI t39 a0 11 14).bind fun v41 =>
    (sf t39 a0 11 14 (.int (v41 + (1 : Int32)))).bind fun h42 =>
    some h42
  else
    some t16) o5
set_option maxHeartbeats 4000000 in
set_option maxRecDepth 100000 in
theorem ct_c11_readAct (l : Launch) (X : gX) (hx : gEx X = false) (N : Nat) (a0 : Nat) (x1 : Int32) (h : gH) (q : gH) (hy : f_c11_readAct N a0 x1 h = some q) : gRc y_c11_readAct h a0 ∧ gMv l X y_c11_readAct b_c11_readAct 4 (4 + N) 0 0 [.ref a0, .int x1] h q := by
  unfold f_c11_readAct at hy
  obtain ⟨u0, e_u0, hy⟩ := gBd hy
  cases u0
  refine ⟨Or.inl ⟨11, _, _, e_u0, rfl⟩, gMet_v (lsx := [(0, .ref a0), (1, .int x1)]) (by decide) rfl rfl ?_⟩
  intro M hMl K hret
  subst hMl
  refine g_aload_n K d_c11_readAct_0 0 rfl ?_
  obtain ⟨q1, e_q1, hy⟩ := gBd hy
  refine g_callVi (rest := []) K hx ly_c11_here kv_c11_144 d_c11_readAct_1 (ct_c11_here M.2.1 X hx N a0 h q1 e_q1) rfl rfl (Nat.le_of_ble_eq_true rfl) (gDep rfl) ⟨Nat.le_refl 0, Nat.le_refl 0⟩ ?_
  refine g_istore_n (ls2 := [(2, .int q1), (0, .ref a0), (1, .int x1)]) K d_c11_readAct_4 rfl rfl ?_
  refine g_iload_n K d_c11_readAct_5 0 rfl ?_
  refine g_bipush (v := 110) K d_c11_readAct_6 (by decide) ?_
  obtain ⟨o5, e_o5, hy⟩ := gBd hy
  have hJ4 : ∀ t3, o5 = .inr t3 → gG M X 4 0 0 50 [(0, .ref a0), (1, .int x1), (2, .int q1)] [] h := by
    intro t3 e_t3
    subst e_t3
    simp only [Sum.elim_inr] at hy
    refine g_aload_n K d_c11_readAct_50 0 rfl ?_
    refine g_dup K d_c11_readAct_51 rfl ?_
    obtain ⟨v8, e_v8, hy⟩ := gBd hy
    refine g_getI K fl_c11_130 d_c11_readAct_52 e_v8 ?_
    refine g_iconst (v := 1) K d_c11_readAct_55 (by decide) ?_
    refine g_iadd K d_c11_readAct_56 ?_
    obtain ⟨h9, e_h9, hy⟩ := gBd hy
    refine g_putI K fp_c11_130 d_c11_readAct_57 e_h9 ?_
    refine g_aload_n K d_c11_readAct_60 0 rfl ?_
    obtain ⟨v10, e_v10, hy⟩ := gBd hy
    refine g_getR K fl_c11_64 d_c11_readAct_61 e_v10 ?_
    refine g_iload_n K d_c11_readAct_64 1 rfl ?_
    refine g_iload_n K d_c11_readAct_65 2 rfl ?_
    obtain ⟨h11, e_h11, hy⟩ := gBd hy
    refine g_iast K d_c11_readAct_66 e_h11 ?_
    refine g_aload_n K d_c11_readAct_67 0 rfl ?_
    obtain ⟨v12, e_v12, hy⟩ := gBd hy
    refine g_getR K fl_c11_64 d_c11_readAct_68 e_v12 ?_
    refine g_iload_n K d_c11_readAct_71 1 rfl ?_
    refine g_iconst (v := 1) K d_c11_readAct_72 (by decide) ?_
    refine g_iadd K d_c11_readAct_73 ?_
    refine g_aload_n K d_c11_readAct_74 0 rfl ?_
    refine g_bipush (v := 48) K d_c11_readAct_75 (by decide) ?_
    refine g_bipush (v := 10) K d_c11_readAct_77 (by decide) ?_
    obtain ⟨q13, e_q13, hy⟩ := gBd hy
    refine g_callVi (rest := [.int (x1 + (1 : Int32)), .ref v12]) K hx ly_c11_oneOf kv_c11_155 d_c11_readAct_79 (ct_c11_oneOf M.2.1 X hx N a0 (48 : Int32) (10 : Int32) h11 q13 e_q13) rfl rfl (Nat.le_of_ble_eq_true rfl) (gDep rfl) ⟨Nat.le_refl 0, Nat.le_refl 0⟩ ?_
    obtain ⟨h14, e_h14, hy⟩ := gBd hy
    refine g_iast K d_c11_readAct_82 e_h14 ?_
    refine g_iload_n K d_c11_readAct_83 2 rfl ?_
    refine g_bipush (v := 100) K d_c11_readAct_84 (by decide) ?_
    obtain ⟨t16, e_t16, hy⟩ := gBd hy
    have hJ17 : gG M X 4 0 0 107 [(0, .ref a0), (1, .int x1), (2, .int q1)] [] t16 := by
      refine g_iload_n K d_c11_readAct_107 2 rfl ?_
      refine g_bipush (v := 115) K d_c11_readAct_108 (by decide) ?_
      refine g_icmp_eq K d_c11_readAct_110 (fun c18 => ?_) (fun c18 => ?_)
      · rw [if_pos c18] at hy
        refine g_aload_n K d_c11_readAct_114 0 rfl ?_
        refine g_bipush (v := 48) K d_c11_readAct_115 (by decide) ?_
        refine g_bipush (v := 10) K d_c11_readAct_117 (by decide) ?_
        obtain ⟨q19, e_q19, hy⟩ := gBd hy
        refine g_callVi (rest := []) K hx ly_c11_oneOf kv_c11_155 d_c11_readAct_119 (ct_c11_oneOf M.2.1 X hx N a0 (48 : Int32) (10 : Int32) t16 q19 e_q19) rfl rfl (Nat.le_of_ble_eq_true rfl) (gDep rfl) ⟨Nat.le_refl 0, Nat.le_refl 0⟩ ?_
        refine g_istore_n (ls2 := [(3, .int q19.1), (0, .ref a0), (1, .int x1), (2, .int q1)]) K d_c11_readAct_122 rfl rfl ?_
        refine g_aload_n K d_c11_readAct_123 1 rfl ?_
        obtain ⟨v20, e_v20, hy⟩ := gBd hy
        refine g_getR K fl_c11_64 d_c11_readAct_124 e_v20 ?_
        refine g_iload_n K d_c11_readAct_127 2 rfl ?_
        refine g_iconst (v := 1) K d_c11_readAct_128 (by decide) ?_
        refine g_iadd K d_c11_readAct_129 ?_
        refine g_aload_n K d_c11_readAct_130 1 rfl ?_
        obtain ⟨v21, e_v21, hy⟩ := gBd hy
        refine g_getR K fl_c11_64 d_c11_readAct_131 e_v21 ?_
        refine g_iload_n K d_c11_readAct_134 2 rfl ?_
        refine g_iconst (v := 1) K d_c11_readAct_135 (by decide) ?_
        refine g_iadd K d_c11_readAct_136 ?_
        obtain ⟨v22, e_v22, hy⟩ := gBd hy
        refine g_iald K d_c11_readAct_137 e_v22 ?_
        refine g_aload_n K d_c11_readAct_138 1 rfl ?_
        obtain ⟨v23, e_v23, hy⟩ := gBd hy
        refine g_getI K fl_c11_13 d_c11_readAct_139 e_v23 ?_
        obtain ⟨t25, e_t25, hy⟩ := gBd hy
        have hJ26 : gG M X 4 0 0 172 [(0, .ref a0), (1, .int x1)] [.int t25, .int (x1 + (1 : Int32)), .ref v20] q19.2 := by
          obtain ⟨h27, e_h27, hy⟩ := gBd hy
          refine g_iast K d_c11_readAct_172 e_h27 ?_
          refine g_aload_n K d_c11_readAct_173 0 rfl ?_
          obtain ⟨v28, e_v28, hy⟩ := gBd hy
          refine g_getR K fl_c11_64 d_c11_readAct_174 e_v28 ?_
          refine g_iload_n K d_c11_readAct_177 1 rfl ?_
          refine g_iconst (v := 2) K d_c11_readAct_178 (by decide) ?_
          refine g_iadd K d_c11_readAct_179 ?_
          refine g_aload_n K d_c11_readAct_180 0 rfl ?_
          refine g_bipush (v := 49) K d_c11_readAct_181 (by decide) ?_
          refine g_bipush (v := 9) K d_c11_readAct_183 (by decide) ?_
          obtain ⟨q29, e_q29, hy⟩ := gBd hy
          refine g_callVi (rest := [.int (x1 + (2 : Int32)), .ref v28]) K hx ly_c11_oneOf kv_c11_155 d_c11_readAct_185 (ct_c11_oneOf M.2.1 X hx N a0 (49 : Int32) (9 : Int32) h27 q29 e_q29) rfl rfl (Nat.le_of_ble_eq_true rfl) (gDep rfl) ⟨Nat.le_refl 0, Nat.le_refl 0⟩ ?_
          refine g_iconst (v := 1) K d_c11_readAct_188 (by decide) ?_
          refine g_iadd K d_c11_readAct_189 ?_
          obtain ⟨h30, e_h30, hy⟩ := gBd hy
          refine g_iast K d_c11_readAct_190 e_h30 ?_
          refine g_aload_n K d_c11_readAct_191 0 rfl ?_
          obtain ⟨v31, e_v31, hy⟩ := gBd hy
          refine g_getR K fl_c11_64 d_c11_readAct_192 e_v31 ?_
          refine g_iload_n K d_c11_readAct_195 1 rfl ?_
          refine g_iconst (v := 3) K d_c11_readAct_196 (by decide) ?_
          refine g_iadd K d_c11_readAct_197 ?_
          refine g_aload_n K d_c11_readAct_198 0 rfl ?_
          obtain ⟨q32, e_q32, hy⟩ := gBd hy
          refine g_callVi (rest := [.int (x1 + (3 : Int32)), .ref v31]) K hx ly_c11_here kv_c11_144 d_c11_readAct_199 (ct_c11_here M.2.1 X hx N a0 h30 q32 e_q32) rfl rfl (Nat.le_of_ble_eq_true rfl) (gDep rfl) ⟨Nat.le_refl 0, Nat.le_refl 0⟩ ?_
          refine g_bipush (v := 46) K d_c11_readAct_202 (by decide) ?_
          have hJ35 : ∀ w34 : Int32, w34 = (if q32 = (46 : Int32) then (1 : Int32) else (0 : Int32)) → gG M X 4 0 0 212 [(0, .ref a0), (1, .int x1)] [.int w34, .int (x1 + (3 : Int32)), .ref v31] h30 := by
            intro w34 e_w34
            subst e_w34
            obtain ⟨h36, e_h36, hy⟩ := gBd hy
            refine g_iast K d_c11_readAct_212 e_h36 ?_
            refine g_aload_n K d_c11_readAct_213 0 rfl ?_
            obtain ⟨q37, e_q37, hy⟩ := gBd hy
            refine g_callVi (rest := []) K hx ly_c11_fine kv_c11_140 d_c11_readAct_214 (ct_c11_fine M.2.1 X hx N a0 h36 q37 e_q37) rfl rfl (Nat.le_of_ble_eq_true rfl) (gDep rfl) ⟨Nat.le_refl 0, Nat.le_refl 0⟩ ?_
            obtain ⟨t39, e_t39, hy⟩ := gBd hy
            have hJ40 : gG M X 4 0 0 246 [(0, .ref a0)] [] t39 := by
              refine g_aload_n K d_c11_readAct_246 0 rfl ?_
              refine g_dup K d_c11_readAct_247 rfl ?_
              obtain ⟨v41, e_v41, hy⟩ := gBd hy
              refine g_getI K fl_c11_130 d_c11_readAct_248 e_v41 ?_
              refine g_iconst (v := 1) K d_c11_readAct_251 (by decide) ?_
              refine g_iadd K d_c11_readAct_252 ?_
              obtain ⟨h42, e_h42, hy⟩ := gBd hy
              refine g_putI K fp_c11_130 d_c11_readAct_253 e_h42 ?_
              obtain rfl := Option.some.inj hy
              exact hret _ _ _ d_c11_readAct_256
            refine g_if_eq K d_c11_readAct_217 (fun c38 => ?_) (fun c38 => ?_)
            · rw [if_pos c38] at e_t39
              refine g_sub (ls2 := [(0, .ref a0)]) [0] rfl ?_
              obtain rfl := Option.some.inj e_t39
              exact hJ40
            · rw [if_neg c38] at e_t39
              refine g_aload_n K d_c11_readAct_220 0 rfl ?_
              obtain ⟨q43, e_q43, e_t39⟩ := gBd e_t39
              refine g_callVi (rest := []) K hx ly_c11_here kv_c11_144 d_c11_readAct_221 (ct_c11_here M.2.1 X hx N a0 h36 q43 e_q43) rfl rfl (Nat.le_of_ble_eq_true rfl) (gDep rfl) ⟨Nat.le_refl 0, Nat.le_refl 0⟩ ?_
              refine g_bipush (v := 46) K d_c11_readAct_224 (by decide) ?_
              refine g_icmp_eq K d_c11_readAct_226 (fun c44 => ?_) (fun c44 => ?_)
              · rw [if_pos c44] at e_t39
                refine g_sub (ls2 := [(0, .ref a0)]) [0] rfl ?_
                obtain rfl := Option.some.inj e_t39
                exact hJ40
              · rw [if_neg c44] at e_t39
                refine g_aload_n K d_c11_readAct_229 0 rfl ?_
                obtain ⟨q45, e_q45, e_t39⟩ := gBd e_t39
                refine g_callVi (rest := []) K hx ly_c11_here kv_c11_144 d_c11_readAct_230 (ct_c11_here M.2.1 X hx N a0 h36 q45 e_q45) rfl rfl (Nat.le_of_ble_eq_true rfl) (gDep rfl) ⟨Nat.le_refl 0, Nat.le_refl 0⟩ ?_
                refine g_bipush (v := 44) K d_c11_readAct_233 (by decide) ?_
                refine g_icmp_eq K d_c11_readAct_235 (fun c46 => ?_) (fun c46 => ?_)
                · rw [if_pos c46] at e_t39
                  refine g_sub (ls2 := [(0, .ref a0)]) [0] rfl ?_
                  obtain rfl := Option.some.inj e_t39
                  exact hJ40
                · rw [if_neg c46] at e_t39
                  refine g_aload_n K d_c11_readAct_238 0 rfl ?_
                  refine g_aload_n K d_c11_readAct_239 0 rfl ?_
                  obtain ⟨v47, e_v47, e_t39⟩ := gBd e_t39
                  refine g_getI K fl_c11_130 d_c11_readAct_240 e_v47 ?_
                  obtain ⟨q48, e_q48, e_t39⟩ := gBd e_t39
                  refine g_callVv (rest := []) K hx ly_c11_fault kv_c11_151 d_c11_readAct_243 (ct_c11_fault M.2.1 X hx N a0 v47 h36 q48 e_q48) rfl rfl (Nat.le_of_ble_eq_true rfl) (gDep rfl) ⟨Nat.le_refl 0, Nat.le_refl 0⟩ ?_
                  refine g_sub (ls2 := [(0, .ref a0)]) [0] rfl ?_
                  obtain rfl := Option.some.inj e_t39
                  exact hJ40
          refine g_icmp_ne K d_c11_readAct_204 (fun c33 => ?_) (fun c33 => ?_)
          · refine g_iconst (v := 0) K d_c11_readAct_211 (by decide) ?_
            exact hJ35 _ (by rw [if_neg c33])
          · refine g_iconst (v := 1) K d_c11_readAct_207 (by decide) ?_
            refine g_goto K d_c11_readAct_208 ?_
            exact hJ35 _ (by rw [if_pos c33])
        refine g_icmp_ge K d_c11_readAct_142 (fun c24 => ?_) (fun c24 => ?_)
        · rw [if_pos c24] at e_t25
          refine g_iconst (v := (-1)) K d_c11_readAct_171 (by decide) ?_
          refine g_sub (ls2 := [(0, .ref a0), (1, .int x1)]) [1, 2] rfl ?_
          obtain rfl := Option.some.inj e_t25
          exact hJ26
        · rw [if_neg c24] at e_t25
          refine g_iload_n K d_c11_readAct_145 0 rfl ?_
          refine g_aload_n K d_c11_readAct_146 1 rfl ?_
          obtain ⟨v49, e_v49, e_t25⟩ := gBd e_t25
          refine g_getI K fl_c11_17 d_c11_readAct_147 e_v49 ?_
          refine g_icmp_ge K d_c11_readAct_150 (fun c50 => ?_) (fun c50 => ?_)
          · rw [if_pos c50] at e_t25
            refine g_iconst (v := (-1)) K d_c11_readAct_171 (by decide) ?_
            refine g_sub (ls2 := [(0, .ref a0), (1, .int x1)]) [1, 2] rfl ?_
            obtain rfl := Option.some.inj e_t25
            exact hJ26
          · rw [if_neg c50] at e_t25
            refine g_aload_n K d_c11_readAct_153 1 rfl ?_
            obtain ⟨v51, e_v51, e_t25⟩ := gBd e_t25
            refine g_getI K fl_c11_17 d_c11_readAct_154 e_v51 ?_
            refine g_aload_n K d_c11_readAct_157 1 rfl ?_
            obtain ⟨v52, e_v52, e_t25⟩ := gBd e_t25
            refine g_getR K fl_c11_64 d_c11_readAct_158 e_v52 ?_
            refine g_iload_n K d_c11_readAct_161 2 rfl ?_
            refine g_iconst (v := 1) K d_c11_readAct_162 (by decide) ?_
            refine g_iadd K d_c11_readAct_163 ?_
            obtain ⟨v53, e_v53, e_t25⟩ := gBd e_t25
            refine g_iald K d_c11_readAct_164 e_v53 ?_
            refine g_imul K d_c11_readAct_165 ?_
            refine g_iload_n K d_c11_readAct_166 0 rfl ?_
            refine g_iadd K d_c11_readAct_167 ?_
            refine g_goto K d_c11_readAct_168 ?_
            refine g_sub (ls2 := [(0, .ref a0), (1, .int x1)]) [1, 2] rfl ?_
            obtain rfl := Option.some.inj e_t25
            exact hJ26
      · rw [if_neg c18] at hy
        obtain rfl := Option.some.inj hy
        exact hret _ _ _ d_c11_readAct_113
    refine g_icmp_ne K d_c11_readAct_86 (fun c15 => ?_) (fun c15 => ?_)
    · rw [if_neg c15] at e_t16
      obtain rfl := Option.some.inj e_t16
      exact hJ17
    · rw [if_pos c15] at e_t16
      refine g_aload_n K d_c11_readAct_89 0 rfl ?_
      obtain ⟨v54, e_v54, e_t16⟩ := gBd e_t16
      refine g_getR K fl_c11_64 d_c11_readAct_90 e_v54 ?_
      refine g_iload_n K d_c11_readAct_93 1 rfl ?_
      refine g_iconst (v := 2) K d_c11_readAct_94 (by decide) ?_
      refine g_iadd K d_c11_readAct_95 ?_
      refine g_aload_n K d_c11_readAct_96 0 rfl ?_
      refine g_bipush (v := 49) K d_c11_readAct_97 (by decide) ?_
      refine g_bipush (v := 9) K d_c11_readAct_99 (by decide) ?_
      obtain ⟨q55, e_q55, e_t16⟩ := gBd e_t16
      refine g_callVi (rest := [.int (x1 + (2 : Int32)), .ref v54]) K hx ly_c11_oneOf kv_c11_155 d_c11_readAct_101 (ct_c11_oneOf M.2.1 X hx N a0 (49 : Int32) (9 : Int32) h14 q55 e_q55) rfl rfl (Nat.le_of_ble_eq_true rfl) (gDep rfl) ⟨Nat.le_refl 0, Nat.le_refl 0⟩ ?_
      refine g_iconst (v := 1) K d_c11_readAct_104 (by decide) ?_
      refine g_iadd K d_c11_readAct_105 ?_
      obtain ⟨h56, e_h56, e_t16⟩ := gBd e_t16
      refine g_iast K d_c11_readAct_106 e_h56 ?_
      obtain rfl := Option.some.inj e_t16
      exact hJ17
  refine g_icmp_eq K d_c11_readAct_8 (fun c2 => ?_) (fun c2 => ?_)
  · rw [if_pos c2] at e_o5
    refine g_sub (ls2 := [(0, .ref a0), (1, .int x1), (2, .int q1)]) [1, 2, 0] rfl ?_
    obtain rfl := Option.some.inj e_o5
    exact hJ4 _ rfl
  · rw [if_neg c2] at e_o5
    refine g_iload_n K d_c11_readAct_11 0 rfl ?_
    refine g_bipush (v := 115) K d_c11_readAct_12 (by decide) ?_
    refine g_icmp_eq K d_c11_readAct_14 (fun c57 => ?_) (fun c57 => ?_)
    · rw [if_pos c57] at e_o5
      refine g_sub (ls2 := [(0, .ref a0), (1, .int x1), (2, .int q1)]) [1, 2, 0] rfl ?_
      obtain rfl := Option.some.inj e_o5
      exact hJ4 _ rfl
    · rw [if_neg c57] at e_o5
      refine g_iload_n K d_c11_readAct_17 0 rfl ?_
      refine g_bipush (v := 97) K d_c11_readAct_18 (by decide) ?_
      refine g_icmp_eq K d_c11_readAct_20 (fun c58 => ?_) (fun c58 => ?_)
      · rw [if_pos c58] at e_o5
        refine g_sub (ls2 := [(0, .ref a0), (1, .int x1), (2, .int q1)]) [1, 2, 0] rfl ?_
        obtain rfl := Option.some.inj e_o5
        exact hJ4 _ rfl
      · rw [if_neg c58] at e_o5
        refine g_iload_n K d_c11_readAct_23 0 rfl ?_
        refine g_bipush (v := 99) K d_c11_readAct_24 (by decide) ?_
        refine g_icmp_eq K d_c11_readAct_26 (fun c59 => ?_) (fun c59 => ?_)
        · rw [if_pos c59] at e_o5
          refine g_sub (ls2 := [(0, .ref a0), (1, .int x1), (2, .int q1)]) [1, 2, 0] rfl ?_
          obtain rfl := Option.some.inj e_o5
          exact hJ4 _ rfl
        · rw [if_neg c59] at e_o5
          refine g_iload_n K d_c11_readAct_29 0 rfl ?_
          refine g_bipush (v := 100) K d_c11_readAct_30 (by decide) ?_
          refine g_icmp_eq K d_c11_readAct_32 (fun c60 => ?_) (fun c60 => ?_)
          · rw [if_pos c60] at e_o5
            refine g_sub (ls2 := [(0, .ref a0), (1, .int x1), (2, .int q1)]) [1, 2, 0] rfl ?_
            obtain rfl := Option.some.inj e_o5
            exact hJ4 _ rfl
          · rw [if_neg c60] at e_o5
            refine g_iload_n K d_c11_readAct_35 0 rfl ?_
            refine g_bipush (v := 114) K d_c11_readAct_36 (by decide) ?_
            refine g_icmp_eq K d_c11_readAct_38 (fun c61 => ?_) (fun c61 => ?_)
            · rw [if_pos c61] at e_o5
              refine g_sub (ls2 := [(0, .ref a0), (1, .int x1), (2, .int q1)]) [1, 2, 0] rfl ?_
              obtain rfl := Option.some.inj e_o5
              exact hJ4 _ rfl
            · rw [if_neg c61] at e_o5
              refine g_aload_n K d_c11_readAct_41 1 rfl ?_
              refine g_aload_n K d_c11_readAct_42 1 rfl ?_
              obtain ⟨v62, e_v62, e_o5⟩ := gBd e_o5
              refine g_getI K fl_c11_130 d_c11_readAct_43 e_v62 ?_
              obtain ⟨q63, e_q63, e_o5⟩ := gBd e_o5
              refine g_callVv (rest := []) K hx ly_c11_fault kv_c11_151 d_c11_readAct_46 (ct_c11_fault M.2.1 X hx N a0 v62 h q63 e_q63) rfl rfl (Nat.le_of_ble_eq_true rfl) (gDep rfl) ⟨Nat.le_refl 0, Nat.le_refl 0⟩ ?_
              obtain ⟨r64, e_r64, e_o5⟩ := gBd e_o5
              obtain rfl := Option.some.inj e_o5
              simp only [Sum.elim_inl] at hy
              obtain rfl := Option.some.inj hy
              have hy := e_r64
              obtain rfl := Option.some.inj hy
              exact hret _ _ _ d_c11_readAct_49
-- c11 readWell
theorem d_c11_readWell_0 : gD b_c11_readWell 0 (.aload_n 0) 1 1 := ⟨by decide +kernel, rfl⟩
theorem d_c11_readWell_1 : gD b_c11_readWell 1 (.bipush 48) 2 3 := ⟨by decide +kernel, rfl⟩
theorem d_c11_readWell_3 : gD b_c11_readWell 3 (.aload_n 0) 1 4 := ⟨by decide +kernel, rfl⟩
theorem d_c11_readWell_4 : gD b_c11_readWell 4 (.getfield 13) 3 7 := ⟨by decide +kernel, rfl⟩
theorem d_c11_readWell_7 : gD b_c11_readWell 7 (.invokevirtual 155) 3 10 := ⟨by decide +kernel, rfl⟩
theorem d_c11_readWell_10 : gD b_c11_readWell 10 (.istore_n 2) 1 11 := ⟨by decide +kernel, rfl⟩
theorem d_c11_readWell_11 : gD b_c11_readWell 11 (.aload_n 0) 1 12 := ⟨by decide +kernel, rfl⟩
theorem d_c11_readWell_12 : gD b_c11_readWell 12 (.getfield 17) 3 15 := ⟨by decide +kernel, rfl⟩
theorem d_c11_readWell_15 : gD b_c11_readWell 15 (.iload_n 2) 1 16 := ⟨by decide +kernel, rfl⟩
theorem d_c11_readWell_16 : gD b_c11_readWell 16 .imul 1 17 := ⟨by decide +kernel, rfl⟩
theorem d_c11_readWell_17 : gD b_c11_readWell 17 (.aload_n 0) 1 18 := ⟨by decide +kernel, rfl⟩
theorem d_c11_readWell_18 : gD b_c11_readWell 18 (.bipush 48) 2 20 := ⟨by decide +kernel, rfl⟩
theorem d_c11_readWell_20 : gD b_c11_readWell 20 (.aload_n 0) 1 21 := ⟨by decide +kernel, rfl⟩
theorem d_c11_readWell_21 : gD b_c11_readWell 21 (.getfield 17) 3 24 := ⟨by decide +kernel, rfl⟩
theorem d_c11_readWell_24 : gD b_c11_readWell 24 (.invokevirtual 155) 3 27 := ⟨by decide +kernel, rfl⟩
theorem d_c11_readWell_27 : gD b_c11_readWell 27 .iadd 1 28 := ⟨by decide +kernel, rfl⟩
theorem d_c11_readWell_28 : gD b_c11_readWell 28 (.istore_n 3) 1 29 := ⟨by decide +kernel, rfl⟩
theorem d_c11_readWell_29 : gD b_c11_readWell 29 (.aload_n 0) 1 30 := ⟨by decide +kernel, rfl⟩
theorem d_c11_readWell_30 : gD b_c11_readWell 30 (.getfield 9) 3 33 := ⟨by decide +kernel, rfl⟩
theorem d_c11_readWell_33 : gD b_c11_readWell 33 (.iload_n 3) 1 34 := ⟨by decide +kernel, rfl⟩
theorem d_c11_readWell_34 : gD b_c11_readWell 34 (.invokestatic 174) 3 37 := ⟨by decide +kernel, rfl⟩
theorem d_c11_readWell_37 : gD b_c11_readWell 37 (.iconst (-1)) 1 38 := ⟨by decide +kernel, rfl⟩
theorem d_c11_readWell_38 : gJ b_c11_readWell 38 (.if_icmp .ne 7) 3 7 41 45 := ⟨by decide +kernel, rfl, by decide⟩
theorem d_c11_readWell_41 : gD b_c11_readWell 41 (.iconst 1) 1 42 := ⟨by decide +kernel, rfl⟩
theorem d_c11_readWell_42 : gJ b_c11_readWell 42 (.goto 4) 3 4 45 46 := ⟨by decide +kernel, rfl, by decide⟩
theorem d_c11_readWell_45 : gD b_c11_readWell 45 (.iconst 0) 1 46 := ⟨by decide +kernel, rfl⟩
theorem d_c11_readWell_46 : gD b_c11_readWell 46 (.istore 4) 2 48 := ⟨by decide +kernel, rfl⟩
theorem d_c11_readWell_48 : gD b_c11_readWell 48 (.iconst 0) 1 49 := ⟨by decide +kernel, rfl⟩
theorem d_c11_readWell_49 : gD b_c11_readWell 49 (.istore 5) 2 51 := ⟨by decide +kernel, rfl⟩
theorem d_c11_readWell_51 : gD b_c11_readWell 51 (.iload 5) 2 53 := ⟨by decide +kernel, rfl⟩
theorem d_c11_readWell_53 : gD b_c11_readWell 53 (.iload_n 1) 1 54 := ⟨by decide +kernel, rfl⟩
theorem d_c11_readWell_54 : gJ b_c11_readWell 54 (.if_icmp .ge 34) 3 34 57 88 := ⟨by decide +kernel, rfl, by decide⟩
theorem d_c11_readWell_57 : gD b_c11_readWell 57 (.iload 4) 2 59 := ⟨by decide +kernel, rfl⟩
theorem d_c11_readWell_59 : gJ b_c11_readWell 59 (.ifCond .eq 20) 3 20 62 79 := ⟨by decide +kernel, rfl, by decide⟩
theorem d_c11_readWell_62 : gD b_c11_readWell 62 (.aload_n 0) 1 63 := ⟨by decide +kernel, rfl⟩
theorem d_c11_readWell_63 : gD b_c11_readWell 63 (.getfield 34) 3 66 := ⟨by decide +kernel, rfl⟩
theorem d_c11_readWell_66 : gD b_c11_readWell 66 (.iconst 3) 1 67 := ⟨by decide +kernel, rfl⟩
theorem d_c11_readWell_67 : gD b_c11_readWell 67 (.iload 5) 2 69 := ⟨by decide +kernel, rfl⟩
theorem d_c11_readWell_69 : gD b_c11_readWell 69 .imul 1 70 := ⟨by decide +kernel, rfl⟩
theorem d_c11_readWell_70 : gD b_c11_readWell 70 .iaload 1 71 := ⟨by decide +kernel, rfl⟩
theorem d_c11_readWell_71 : gD b_c11_readWell 71 (.iload_n 3) 1 72 := ⟨by decide +kernel, rfl⟩
theorem d_c11_readWell_72 : gJ b_c11_readWell 72 (.if_icmp .eq 7) 3 7 75 79 := ⟨by decide +kernel, rfl, by decide⟩
theorem d_c11_readWell_75 : gD b_c11_readWell 75 (.iconst 1) 1 76 := ⟨by decide +kernel, rfl⟩
theorem d_c11_readWell_76 : gJ b_c11_readWell 76 (.goto 4) 3 4 79 80 := ⟨by decide +kernel, rfl, by decide⟩
theorem d_c11_readWell_79 : gD b_c11_readWell 79 (.iconst 0) 1 80 := ⟨by decide +kernel, rfl⟩
theorem d_c11_readWell_80 : gD b_c11_readWell 80 (.istore 4) 2 82 := ⟨by decide +kernel, rfl⟩
theorem d_c11_readWell_82 : gD b_c11_readWell 82 (.iinc 5 1) 3 85 := ⟨by decide +kernel, rfl⟩
theorem d_c11_readWell_85 : gJ b_c11_readWell 85 (.goto (-34)) 3 (-34) 88 51 := ⟨by decide +kernel, rfl, by decide⟩
theorem d_c11_readWell_88 : gD b_c11_readWell 88 (.aload_n 0) 1 89 := ⟨by decide +kernel, rfl⟩
theorem d_c11_readWell_89 : gD b_c11_readWell 89 (.invokevirtual 140) 3 92 := ⟨by decide +kernel, rfl⟩
theorem d_c11_readWell_92 : gJ b_c11_readWell 92 (.ifCond .eq 18) 3 18 95 110 := ⟨by decide +kernel, rfl, by decide⟩
theorem d_c11_readWell_95 : gD b_c11_readWell 95 (.iload 4) 2 97 := ⟨by decide +kernel, rfl⟩
theorem d_c11_readWell_97 : gJ b_c11_readWell 97 (.ifCond .ne 13) 3 13 100 110 := ⟨by decide +kernel, rfl, by decide⟩
theorem d_c11_readWell_100 : gD b_c11_readWell 100 (.aload_n 0) 1 101 := ⟨by decide +kernel, rfl⟩
theorem d_c11_readWell_101 : gD b_c11_readWell 101 (.aload_n 0) 1 102 := ⟨by decide +kernel, rfl⟩
theorem d_c11_readWell_102 : gD b_c11_readWell 102 (.getfield 130) 3 105 := ⟨by decide +kernel, rfl⟩
theorem d_c11_readWell_105 : gD b_c11_readWell 105 (.iconst 1) 1 106 := ⟨by decide +kernel, rfl⟩
theorem d_c11_readWell_106 : gD b_c11_readWell 106 .isub 1 107 := ⟨by decide +kernel, rfl⟩
theorem d_c11_readWell_107 : gD b_c11_readWell 107 (.invokevirtual 151) 3 110 := ⟨by decide +kernel, rfl⟩
theorem d_c11_readWell_110 : gD b_c11_readWell 110 (.aload_n 0) 1 111 := ⟨by decide +kernel, rfl⟩
theorem d_c11_readWell_111 : gD b_c11_readWell 111 (.getfield 34) 3 114 := ⟨by decide +kernel, rfl⟩
theorem d_c11_readWell_114 : gD b_c11_readWell 114 (.iconst 3) 1 115 := ⟨by decide +kernel, rfl⟩
theorem d_c11_readWell_115 : gD b_c11_readWell 115 (.iload_n 1) 1 116 := ⟨by decide +kernel, rfl⟩
theorem d_c11_readWell_116 : gD b_c11_readWell 116 .imul 1 117 := ⟨by decide +kernel, rfl⟩
theorem d_c11_readWell_117 : gD b_c11_readWell 117 (.iload_n 3) 1 118 := ⟨by decide +kernel, rfl⟩
theorem d_c11_readWell_118 : gD b_c11_readWell 118 .iastore 1 119 := ⟨by decide +kernel, rfl⟩
theorem d_c11_readWell_119 : gD b_c11_readWell 119 (.aload_n 0) 1 120 := ⟨by decide +kernel, rfl⟩
theorem d_c11_readWell_120 : gD b_c11_readWell 120 (.getfield 34) 3 123 := ⟨by decide +kernel, rfl⟩
theorem d_c11_readWell_123 : gD b_c11_readWell 123 (.iconst 3) 1 124 := ⟨by decide +kernel, rfl⟩
theorem d_c11_readWell_124 : gD b_c11_readWell 124 (.iload_n 1) 1 125 := ⟨by decide +kernel, rfl⟩
theorem d_c11_readWell_125 : gD b_c11_readWell 125 .imul 1 126 := ⟨by decide +kernel, rfl⟩
theorem d_c11_readWell_126 : gD b_c11_readWell 126 (.iconst 1) 1 127 := ⟨by decide +kernel, rfl⟩
theorem d_c11_readWell_127 : gD b_c11_readWell 127 .iadd 1 128 := ⟨by decide +kernel, rfl⟩
theorem d_c11_readWell_128 : gD b_c11_readWell 128 (.aload_n 0) 1 129 := ⟨by decide +kernel, rfl⟩
theorem d_c11_readWell_129 : gD b_c11_readWell 129 (.bipush 49) 2 131 := ⟨by decide +kernel, rfl⟩
theorem d_c11_readWell_131 : gD b_c11_readWell 131 (.bipush 9) 2 133 := ⟨by decide +kernel, rfl⟩
theorem d_c11_readWell_133 : gD b_c11_readWell 133 (.invokevirtual 155) 3 136 := ⟨by decide +kernel, rfl⟩
theorem d_c11_readWell_136 : gD b_c11_readWell 136 (.iconst 1) 1 137 := ⟨by decide +kernel, rfl⟩
theorem d_c11_readWell_137 : gD b_c11_readWell 137 .iadd 1 138 := ⟨by decide +kernel, rfl⟩
theorem d_c11_readWell_138 : gD b_c11_readWell 138 .iastore 1 139 := ⟨by decide +kernel, rfl⟩
theorem d_c11_readWell_139 : gD b_c11_readWell 139 (.aload_n 0) 1 140 := ⟨by decide +kernel, rfl⟩
theorem d_c11_readWell_140 : gD b_c11_readWell 140 (.getfield 34) 3 143 := ⟨by decide +kernel, rfl⟩
theorem d_c11_readWell_143 : gD b_c11_readWell 143 (.iconst 3) 1 144 := ⟨by decide +kernel, rfl⟩
theorem d_c11_readWell_144 : gD b_c11_readWell 144 (.iload_n 1) 1 145 := ⟨by decide +kernel, rfl⟩
theorem d_c11_readWell_145 : gD b_c11_readWell 145 .imul 1 146 := ⟨by decide +kernel, rfl⟩
theorem d_c11_readWell_146 : gD b_c11_readWell 146 (.iconst 2) 1 147 := ⟨by decide +kernel, rfl⟩
theorem d_c11_readWell_147 : gD b_c11_readWell 147 .iadd 1 148 := ⟨by decide +kernel, rfl⟩
theorem d_c11_readWell_148 : gD b_c11_readWell 148 (.aload_n 0) 1 149 := ⟨by decide +kernel, rfl⟩
theorem d_c11_readWell_149 : gD b_c11_readWell 149 (.invokevirtual 144) 3 152 := ⟨by decide +kernel, rfl⟩
theorem d_c11_readWell_152 : gD b_c11_readWell 152 (.bipush 46) 2 154 := ⟨by decide +kernel, rfl⟩
theorem d_c11_readWell_154 : gJ b_c11_readWell 154 (.if_icmp .ne 7) 3 7 157 161 := ⟨by decide +kernel, rfl, by decide⟩
theorem d_c11_readWell_157 : gD b_c11_readWell 157 (.iconst 1) 1 158 := ⟨by decide +kernel, rfl⟩
theorem d_c11_readWell_158 : gJ b_c11_readWell 158 (.goto 4) 3 4 161 162 := ⟨by decide +kernel, rfl, by decide⟩
theorem d_c11_readWell_161 : gD b_c11_readWell 161 (.iconst 0) 1 162 := ⟨by decide +kernel, rfl⟩
theorem d_c11_readWell_162 : gD b_c11_readWell 162 .iastore 1 163 := ⟨by decide +kernel, rfl⟩
theorem d_c11_readWell_163 : gD b_c11_readWell 163 (.aload_n 0) 1 164 := ⟨by decide +kernel, rfl⟩
theorem d_c11_readWell_164 : gD b_c11_readWell 164 (.invokevirtual 140) 3 167 := ⟨by decide +kernel, rfl⟩
theorem d_c11_readWell_167 : gJ b_c11_readWell 167 (.ifCond .eq 29) 3 29 170 196 := ⟨by decide +kernel, rfl, by decide⟩
theorem d_c11_readWell_170 : gD b_c11_readWell 170 (.aload_n 0) 1 171 := ⟨by decide +kernel, rfl⟩
theorem d_c11_readWell_171 : gD b_c11_readWell 171 (.invokevirtual 144) 3 174 := ⟨by decide +kernel, rfl⟩
theorem d_c11_readWell_174 : gD b_c11_readWell 174 (.bipush 46) 2 176 := ⟨by decide +kernel, rfl⟩
theorem d_c11_readWell_176 : gJ b_c11_readWell 176 (.if_icmp .eq 20) 3 20 179 196 := ⟨by decide +kernel, rfl, by decide⟩
theorem d_c11_readWell_179 : gD b_c11_readWell 179 (.aload_n 0) 1 180 := ⟨by decide +kernel, rfl⟩
theorem d_c11_readWell_180 : gD b_c11_readWell 180 (.invokevirtual 144) 3 183 := ⟨by decide +kernel, rfl⟩
theorem d_c11_readWell_183 : gD b_c11_readWell 183 (.bipush 44) 2 185 := ⟨by decide +kernel, rfl⟩
theorem d_c11_readWell_185 : gJ b_c11_readWell 185 (.if_icmp .eq 11) 3 11 188 196 := ⟨by decide +kernel, rfl, by decide⟩
theorem d_c11_readWell_188 : gD b_c11_readWell 188 (.aload_n 0) 1 189 := ⟨by decide +kernel, rfl⟩
theorem d_c11_readWell_189 : gD b_c11_readWell 189 (.aload_n 0) 1 190 := ⟨by decide +kernel, rfl⟩
theorem d_c11_readWell_190 : gD b_c11_readWell 190 (.getfield 130) 3 193 := ⟨by decide +kernel, rfl⟩
theorem d_c11_readWell_193 : gD b_c11_readWell 193 (.invokevirtual 151) 3 196 := ⟨by decide +kernel, rfl⟩
theorem d_c11_readWell_196 : gD b_c11_readWell 196 (.aload_n 0) 1 197 := ⟨by decide +kernel, rfl⟩
theorem d_c11_readWell_197 : gD b_c11_readWell 197 .dup 1 198 := ⟨by decide +kernel, rfl⟩
theorem d_c11_readWell_198 : gD b_c11_readWell 198 (.getfield 130) 3 201 := ⟨by decide +kernel, rfl⟩
theorem d_c11_readWell_201 : gD b_c11_readWell 201 (.iconst 1) 1 202 := ⟨by decide +kernel, rfl⟩
theorem d_c11_readWell_202 : gD b_c11_readWell 202 .iadd 1 203 := ⟨by decide +kernel, rfl⟩
theorem d_c11_readWell_203 : gD b_c11_readWell 203 (.putfield 130) 3 206 := ⟨by decide +kernel, rfl⟩
theorem d_c11_readWell_206 : gD b_c11_readWell 206 .return_ 1 207 := ⟨by decide +kernel, rfl⟩
def lp_c11_readWell_51 (N : Nat) (a0 : Nat) (x1 : Int32) (x3 : Int32) (h : gH) : Nat → Int32 → Int32 → Option (Int32)
  | 0, _, _ => none
  | k + 1, x4, x5 =>
  if x1 ≤ x5 then
    some x4
  else
    (show Option (Int32) from if x4 = 0 then
    some (0 : Int32)
  else
    (gfR h a0 11 16).bind fun v15 =>
    (ga 0 h v15 ((3 : Int32) * x5)).bind fun v16 =>
    if v16 = x3 then
    some (0 : Int32)
  else
    some (1 : Int32)).bind fun t13 =>
    lp_c11_readWell_51 N a0 x1 x3 h k t13 (x5 + (1 : Int32))
def f_c11_readWell (N : Nat) (a0 : Nat) (x1 : Int32) (h : gH) : Option (gH) :=
  (gcl h a0 11).bind fun _ =>
  (gfI h a0 11 1).bind fun v1 =>
    (f_c11_oneOf N a0 (48 : Int32) v1 h).bind fun q2 =>
    (gfI q2.2 a0 11 2).bind fun v3 =>
    (gfI q2.2 a0 11 2).bind fun v4 =>
    (f_c11_oneOf N a0 (48 : Int32) v4 q2.2).bind fun q5 =>
    (gfR q5.2 a0 11 0).bind fun v6 =>
    (f_c11_wellOn N v6 ((v3 * q2.1) + q5.1) q5.2).bind fun q7 =>
    (lp_c11_readWell_51 N a0 x1 ((v3 * q2.1) + q5.1) q5.2 N (if q7 = (-1 : Int32) then (1 : Int32) else (0 : Int32)) (0 : Int32)).bind fun o18 =>
    (f_c11_fine N a0 q5.2).bind fun q19 =>
    (show Option (gH) from if q19 = 0 then
    some q5.2
  else
    if o18 = 0 then
    (gfI q5.2 a0 11 14).bind fun v47 =>
    (f_c11_fault N a0 (v47 - (1 : Int32)) q5.2).bind fun q48 =>
    some q48
  else
    some q5.2).bind fun t21 =>
    (gfR t21 a0 11 16).bind fun v23 =>
    (sa 0 t21 v23 ((3 : Int32) * x1) ((v3 * q2.1) + q5.1)).bind fun h24 =>
    (gfR h24 a0 11 16).bind fun v25 =>
    (f_c11_oneOf N a0 (49 : Int32) (9 : Int32) h24).bind fun q26 =>
    (sa 0 q26.2 v25 (((3 : Int32) * x1) + (1 : Int32)) (q26.1 + (1 : Int32))).bind fun h27 =>
    (gfR h27 a0 11 16).bind fun v28 =>
    (f_c11_here N a0 h27).bind fun q29 =>
    (sa 0 h27 v28 (((3 : Int32) * x1) + (2 : Int32)) (if q29 = (46 : Int32) then (1 : Int32) else (0 : Int32))).bind fun h33 =>
    (f_c11_fine N a0 h33).bind fun q34 =>
    (show Option (gH) from if q34 = 0 then
    some h33
  else
    (f_c11_here N a0 h33).bind fun q40 =>
    if q40 = (46 : Int32) then
    some h33
  else
    (f_c11_here N a0 h33).bind fun q42 =>
    if q42 = (44 : Int32) then
    some h33
  else
    (gfI h33 a0 11 14).bind fun v44 =>
    (f_c11_fault N a0 v44 h33).bind fun q45 =>
    some q45).bind fun t36 =>
    (gfI t36 a0 11 14).bind fun v38 =>
    (sf t36 a0 11 14 (.int (v38 + (1 : Int32)))).bind fun h39 =>
    some h39
set_option maxHeartbeats 4000000 in
set_option maxRecDepth 100000 in
theorem wlp_c11_readWell_51 {M : gM} {X : gX} {N : Nat} (hx : gEx X = false) (K : gC M X gN11 b_c11_readWell 6 (gRm (4 + N) 0 0)) (a0 : Nat) (x1 : Int32) (x3 : Int32) (h : gH) : ∀ (k : Nat) (x4 : Int32) (x5 : Int32) (o : Int32), lp_c11_readWell_51 N a0 x1 x3 h k x4 x5 = some o → gG M X 6 0 0 88 [(0, .ref a0), (1, .int x1), (3, .int x3), (4, .int o)] [] h → gG M X 6 0 0 51 [(0, .ref a0), (1, .int x1), (3, .int x3), (4, .int x4), (5, .int x5)] [] h := by
  intro k
  induction k with
  | zero =>
    intro x4 x5 o hy
    rw [lp_c11_readWell_51.eq_1] at hy
    cases hy
  | succ k ih =>
    intro x4 x5 o hy hE
    rw [lp_c11_readWell_51.eq_2] at hy
    refine g_iload K d_c11_readWell_51 4 rfl ?_
    refine g_iload_n K d_c11_readWell_53 1 rfl ?_
    refine g_icmp_ge K d_c11_readWell_54 (fun c11 => ?_) (fun c11 => ?_)
    · rw [if_pos c11] at hy
      refine g_sub (ls2 := [(0, .ref a0), (1, .int x1), (3, .int x3), (4, .int x4)]) [0, 1, 2, 3] rfl ?_
      obtain rfl := Option.some.inj hy
      exact hE
    · rw [if_neg c11] at hy
      refine g_iload K d_c11_readWell_57 3 rfl ?_
      obtain ⟨t13, e_t13, hy⟩ := gBd hy
      have hJ14 : gG M X 6 0 0 80 [(0, .ref a0), (1, .int x1), (3, .int x3), (5, .int x5)] [.int t13] h := by
        refine g_istore (ls2 := [(4, .int t13), (0, .ref a0), (1, .int x1), (3, .int x3), (5, .int x5)]) K d_c11_readWell_80 rfl rfl ?_
        refine g_iinc (ls2 := [(5, .int (x5 + (1 : Int32))), (4, .int t13), (0, .ref a0), (1, .int x1), (3, .int x3)]) (v := 1) K d_c11_readWell_82 4 rfl (by decide) rfl rfl ?_
        refine g_goto K d_c11_readWell_85 ?_
        refine g_sub (ls2 := [(0, .ref a0), (1, .int x1), (3, .int x3), (4, .int t13), (5, .int (x5 + (1 : Int32)))]) [2, 3, 4, 1, 0] rfl ?_
        exact ih _ _ _ hy hE
      refine g_if_eq K d_c11_readWell_59 (fun c12 => ?_) (fun c12 => ?_)
      · rw [if_pos c12] at e_t13
        refine g_iconst (v := 0) K d_c11_readWell_79 (by decide) ?_
        refine g_sub (ls2 := [(0, .ref a0), (1, .int x1), (3, .int x3), (5, .int x5)]) [0, 1, 2, 4] rfl ?_
        obtain rfl := Option.some.inj e_t13
        exact hJ14
      · rw [if_neg c12] at e_t13
        refine g_aload_n K d_c11_readWell_62 0 rfl ?_
        obtain ⟨v15, e_v15, e_t13⟩ := gBd e_t13
        refine g_getR K fl_c11_34 d_c11_readWell_63 e_v15 ?_
        refine g_iconst (v := 3) K d_c11_readWell_66 (by decide) ?_
        refine g_iload K d_c11_readWell_67 4 rfl ?_
        refine g_imul K d_c11_readWell_69 ?_
        obtain ⟨v16, e_v16, e_t13⟩ := gBd e_t13
        refine g_iald K d_c11_readWell_70 e_v16 ?_
        refine g_iload_n K d_c11_readWell_71 2 rfl ?_
        refine g_icmp_eq K d_c11_readWell_72 (fun c17 => ?_) (fun c17 => ?_)
        · rw [if_pos c17] at e_t13
          refine g_iconst (v := 0) K d_c11_readWell_79 (by decide) ?_
          refine g_sub (ls2 := [(0, .ref a0), (1, .int x1), (3, .int x3), (5, .int x5)]) [0, 1, 2, 4] rfl ?_
          obtain rfl := Option.some.inj e_t13
          exact hJ14
        · rw [if_neg c17] at e_t13
          refine g_iconst (v := 1) K d_c11_readWell_75 (by decide) ?_
          refine g_goto K d_c11_readWell_76 ?_
          refine g_sub (ls2 := [(0, .ref a0), (1, .int x1), (3, .int x3), (5, .int x5)]) [0, 1, 2, 4] rfl ?_
          obtain rfl := Option.some.inj e_t13
          exact hJ14
set_option maxHeartbeats 4000000 in
set_option maxRecDepth 100000 in
theorem ct_c11_readWell (l : Launch) (X : gX) (hx : gEx X = false) (N : Nat) (a0 : Nat) (x1 : Int32) (h : gH) (q : gH) (hy : f_c11_readWell N a0 x1 h = some q) : gRc y_c11_readWell h a0 ∧ gMv l X y_c11_readWell b_c11_readWell 6 (4 + N) 0 0 [.ref a0, .int x1] h q := by
  unfold f_c11_readWell at hy
  obtain ⟨u0, e_u0, hy⟩ := gBd hy
  cases u0
  refine ⟨Or.inl ⟨11, _, _, e_u0, rfl⟩, gMet_v (lsx := [(0, .ref a0), (1, .int x1)]) (by decide) rfl rfl ?_⟩
  intro M hMl K hret
  subst hMl
  refine g_aload_n K d_c11_readWell_0 0 rfl ?_
  refine g_bipush (v := 48) K d_c11_readWell_1 (by decide) ?_
  refine g_aload_n K d_c11_readWell_3 0 rfl ?_
  obtain ⟨v1, e_v1, hy⟩ := gBd hy
  refine g_getI K fl_c11_13 d_c11_readWell_4 e_v1 ?_
  obtain ⟨q2, e_q2, hy⟩ := gBd hy
  refine g_callVi (rest := []) K hx ly_c11_oneOf kv_c11_155 d_c11_readWell_7 (ct_c11_oneOf M.2.1 X hx N a0 (48 : Int32) v1 h q2 e_q2) rfl rfl (Nat.le_of_ble_eq_true rfl) (gDep rfl) ⟨Nat.le_refl 0, Nat.le_refl 0⟩ ?_
  refine g_istore_n (ls2 := [(2, .int q2.1), (0, .ref a0), (1, .int x1)]) K d_c11_readWell_10 rfl rfl ?_
  refine g_aload_n K d_c11_readWell_11 1 rfl ?_
  obtain ⟨v3, e_v3, hy⟩ := gBd hy
  refine g_getI K fl_c11_17 d_c11_readWell_12 e_v3 ?_
  refine g_iload_n K d_c11_readWell_15 0 rfl ?_
  refine g_imul K d_c11_readWell_16 ?_
  refine g_aload_n K d_c11_readWell_17 1 rfl ?_
  refine g_bipush (v := 48) K d_c11_readWell_18 (by decide) ?_
  refine g_aload_n K d_c11_readWell_20 1 rfl ?_
  obtain ⟨v4, e_v4, hy⟩ := gBd hy
  refine g_getI K fl_c11_17 d_c11_readWell_21 e_v4 ?_
  obtain ⟨q5, e_q5, hy⟩ := gBd hy
  refine g_callVi (rest := [.int (v3 * q2.1)]) K hx ly_c11_oneOf kv_c11_155 d_c11_readWell_24 (ct_c11_oneOf M.2.1 X hx N a0 (48 : Int32) v4 q2.2 q5 e_q5) rfl rfl (Nat.le_of_ble_eq_true rfl) (gDep rfl) ⟨Nat.le_refl 0, Nat.le_refl 0⟩ ?_
  refine g_iadd K d_c11_readWell_27 ?_
  refine g_istore_n (ls2 := [(3, .int ((v3 * q2.1) + q5.1)), (2, .int q2.1), (0, .ref a0), (1, .int x1)]) K d_c11_readWell_28 rfl rfl ?_
  refine g_aload_n K d_c11_readWell_29 2 rfl ?_
  obtain ⟨v6, e_v6, hy⟩ := gBd hy
  refine g_getR K fl_c11_9 d_c11_readWell_30 e_v6 ?_
  refine g_iload_n K d_c11_readWell_33 0 rfl ?_
  obtain ⟨q7, e_q7, hy⟩ := gBd hy
  refine g_callSi (rest := []) K hx ly_c11_wellOn ks_c11_174 d_c11_readWell_34 (ct_c11_wellOn M.2.1 X hx N v6 ((v3 * q2.1) + q5.1) q5.2 q7 e_q7) rfl rfl (Nat.le_of_ble_eq_true rfl) (gDep rfl) ⟨Nat.le_refl 0, Nat.le_refl 0⟩ ?_
  refine g_iconst (v := (-1)) K d_c11_readWell_37 (by decide) ?_
  have hJ10 : ∀ w9 : Int32, w9 = (if q7 = (-1 : Int32) then (1 : Int32) else (0 : Int32)) → gG M X 6 0 0 46 [(3, .int ((v3 * q2.1) + q5.1)), (2, .int q2.1), (0, .ref a0), (1, .int x1)] [.int w9] q5.2 := by
    intro w9 e_w9
    subst e_w9
    refine g_istore (ls2 := [(4, .int (if q7 = (-1 : Int32) then (1 : Int32) else (0 : Int32))), (3, .int ((v3 * q2.1) + q5.1)), (2, .int q2.1), (0, .ref a0), (1, .int x1)]) K d_c11_readWell_46 rfl rfl ?_
    refine g_iconst (v := 0) K d_c11_readWell_48 (by decide) ?_
    refine g_istore (ls2 := [(5, .int (0 : Int32)), (4, .int (if q7 = (-1 : Int32) then (1 : Int32) else (0 : Int32))), (3, .int ((v3 * q2.1) + q5.1)), (2, .int q2.1), (0, .ref a0), (1, .int x1)]) K d_c11_readWell_49 rfl rfl ?_
    obtain ⟨o18, e_o18, hy⟩ := gBd hy
    refine g_sub (ls2 := [(0, .ref a0), (1, .int x1), (3, .int ((v3 * q2.1) + q5.1)), (4, .int (if q7 = (-1 : Int32) then (1 : Int32) else (0 : Int32))), (5, .int (0 : Int32))]) [4, 5, 2, 1, 0] rfl ?_
    refine wlp_c11_readWell_51 hx K a0 x1 ((v3 * q2.1) + q5.1) q5.2 N (if q7 = (-1 : Int32) then (1 : Int32) else (0 : Int32)) (0 : Int32) o18 e_o18 ?_
    refine g_aload_n K d_c11_readWell_88 0 rfl ?_
    obtain ⟨q19, e_q19, hy⟩ := gBd hy
    refine g_callVi (rest := []) K hx ly_c11_fine kv_c11_140 d_c11_readWell_89 (ct_c11_fine M.2.1 X hx N a0 q5.2 q19 e_q19) rfl rfl (Nat.le_of_ble_eq_true rfl) (gDep rfl) ⟨Nat.le_refl 0, Nat.le_refl 0⟩ ?_
    obtain ⟨t21, e_t21, hy⟩ := gBd hy
    have hJ22 : gG M X 6 0 0 110 [(0, .ref a0), (1, .int x1), (3, .int ((v3 * q2.1) + q5.1))] [] t21 := by
      refine g_aload_n K d_c11_readWell_110 0 rfl ?_
      obtain ⟨v23, e_v23, hy⟩ := gBd hy
      refine g_getR K fl_c11_34 d_c11_readWell_111 e_v23 ?_
      refine g_iconst (v := 3) K d_c11_readWell_114 (by decide) ?_
      refine g_iload_n K d_c11_readWell_115 1 rfl ?_
      refine g_imul K d_c11_readWell_116 ?_
      refine g_iload_n K d_c11_readWell_117 2 rfl ?_
      obtain ⟨h24, e_h24, hy⟩ := gBd hy
      refine g_iast K d_c11_readWell_118 e_h24 ?_
      refine g_aload_n K d_c11_readWell_119 0 rfl ?_
      obtain ⟨v25, e_v25, hy⟩ := gBd hy
      refine g_getR K fl_c11_34 d_c11_readWell_120 e_v25 ?_
      refine g_iconst (v := 3) K d_c11_readWell_123 (by decide) ?_
      refine g_iload_n K d_c11_readWell_124 1 rfl ?_
      refine g_imul K d_c11_readWell_125 ?_
      refine g_iconst (v := 1) K d_c11_readWell_126 (by decide) ?_
      refine g_iadd K d_c11_readWell_127 ?_
      refine g_aload_n K d_c11_readWell_128 0 rfl ?_
      refine g_bipush (v := 49) K d_c11_readWell_129 (by decide) ?_
      refine g_bipush (v := 9) K d_c11_readWell_131 (by decide) ?_
      obtain ⟨q26, e_q26, hy⟩ := gBd hy
      refine g_callVi (rest := [.int (((3 : Int32) * x1) + (1 : Int32)), .ref v25]) K hx ly_c11_oneOf kv_c11_155 d_c11_readWell_133 (ct_c11_oneOf M.2.1 X hx N a0 (49 : Int32) (9 : Int32) h24 q26 e_q26) rfl rfl (Nat.le_of_ble_eq_true rfl) (gDep rfl) ⟨Nat.le_refl 0, Nat.le_refl 0⟩ ?_
      refine g_iconst (v := 1) K d_c11_readWell_136 (by decide) ?_
      refine g_iadd K d_c11_readWell_137 ?_
      obtain ⟨h27, e_h27, hy⟩ := gBd hy
      refine g_iast K d_c11_readWell_138 e_h27 ?_
      refine g_aload_n K d_c11_readWell_139 0 rfl ?_
      obtain ⟨v28, e_v28, hy⟩ := gBd hy
      refine g_getR K fl_c11_34 d_c11_readWell_140 e_v28 ?_
      refine g_iconst (v := 3) K d_c11_readWell_143 (by decide) ?_
      refine g_iload_n K d_c11_readWell_144 1 rfl ?_
      refine g_imul K d_c11_readWell_145 ?_
      refine g_iconst (v := 2) K d_c11_readWell_146 (by decide) ?_
      refine g_iadd K d_c11_readWell_147 ?_
      refine g_aload_n K d_c11_readWell_148 0 rfl ?_
      obtain ⟨q29, e_q29, hy⟩ := gBd hy
      refine g_callVi (rest := [.int (((3 : Int32) * x1) + (2 : Int32)), .ref v28]) K hx ly_c11_here kv_c11_144 d_c11_readWell_149 (ct_c11_here M.2.1 X hx N a0 h27 q29 e_q29) rfl rfl (Nat.le_of_ble_eq_true rfl) (gDep rfl) ⟨Nat.le_refl 0, Nat.le_refl 0⟩ ?_
      refine g_bipush (v := 46) K d_c11_readWell_152 (by decide) ?_
      have hJ32 : ∀ w31 : Int32, w31 = (if q29 = (46 : Int32) then (1 : Int32) else (0 : Int32)) → gG M X 6 0 0 162 [(0, .ref a0), (1, .int x1), (3, .int ((v3 * q2.1) + q5.1))] [.int w31, .int (((3 : Int32) * x1) + (2 : Int32)), .ref v28] h27 := by
        intro w31 e_w31
        subst e_w31
        obtain ⟨h33, e_h33, hy⟩ := gBd hy
        refine g_iast K d_c11_readWell_162 e_h33 ?_
        refine g_aload_n K d_c11_readWell_163 0 rfl ?_
        obtain ⟨q34, e_q34, hy⟩ := gBd hy
        refine g_callVi (rest := []) K hx ly_c11_fine kv_c11_140 d_c11_readWell_164 (ct_c11_fine M.2.1 X hx N a0 h33 q34 e_q34) rfl rfl (Nat.le_of_ble_eq_true rfl) (gDep rfl) ⟨Nat.le_refl 0, Nat.le_refl 0⟩ ?_
        obtain ⟨t36, e_t36, hy⟩ := gBd hy
        have hJ37 : gG M X 6 0 0 196 [(0, .ref a0)] [] t36 := by
          refine g_aload_n K d_c11_readWell_196 0 rfl ?_
          refine g_dup K d_c11_readWell_197 rfl ?_
          obtain ⟨v38, e_v38, hy⟩ := gBd hy
          refine g_getI K fl_c11_130 d_c11_readWell_198 e_v38 ?_
          refine g_iconst (v := 1) K d_c11_readWell_201 (by decide) ?_
          refine g_iadd K d_c11_readWell_202 ?_
          obtain ⟨h39, e_h39, hy⟩ := gBd hy
          refine g_putI K fp_c11_130 d_c11_readWell_203 e_h39 ?_
          obtain rfl := Option.some.inj hy
          exact hret _ _ _ d_c11_readWell_206
        refine g_if_eq K d_c11_readWell_167 (fun c35 => ?_) (fun c35 => ?_)
        · rw [if_pos c35] at e_t36
          refine g_sub (ls2 := [(0, .ref a0)]) [0] rfl ?_
          obtain rfl := Option.some.inj e_t36
          exact hJ37
        · rw [if_neg c35] at e_t36
          refine g_aload_n K d_c11_readWell_170 0 rfl ?_
          obtain ⟨q40, e_q40, e_t36⟩ := gBd e_t36
          refine g_callVi (rest := []) K hx ly_c11_here kv_c11_144 d_c11_readWell_171 (ct_c11_here M.2.1 X hx N a0 h33 q40 e_q40) rfl rfl (Nat.le_of_ble_eq_true rfl) (gDep rfl) ⟨Nat.le_refl 0, Nat.le_refl 0⟩ ?_
          refine g_bipush (v := 46) K d_c11_readWell_174 (by decide) ?_
          refine g_icmp_eq K d_c11_readWell_176 (fun c41 => ?_) (fun c41 => ?_)
          · rw [if_pos c41] at e_t36
            refine g_sub (ls2 := [(0, .ref a0)]) [0] rfl ?_
            obtain rfl := Option.some.inj e_t36
            exact hJ37
          · rw [if_neg c41] at e_t36
            refine g_aload_n K d_c11_readWell_179 0 rfl ?_
            obtain ⟨q42, e_q42, e_t36⟩ := gBd e_t36
            refine g_callVi (rest := []) K hx ly_c11_here kv_c11_144 d_c11_readWell_180 (ct_c11_here M.2.1 X hx N a0 h33 q42 e_q42) rfl rfl (Nat.le_of_ble_eq_true rfl) (gDep rfl) ⟨Nat.le_refl 0, Nat.le_refl 0⟩ ?_
            refine g_bipush (v := 44) K d_c11_readWell_183 (by decide) ?_
            refine g_icmp_eq K d_c11_readWell_185 (fun c43 => ?_) (fun c43 => ?_)
            · rw [if_pos c43] at e_t36
              refine g_sub (ls2 := [(0, .ref a0)]) [0] rfl ?_
              obtain rfl := Option.some.inj e_t36
              exact hJ37
            · rw [if_neg c43] at e_t36
              refine g_aload_n K d_c11_readWell_188 0 rfl ?_
              refine g_aload_n K d_c11_readWell_189 0 rfl ?_
              obtain ⟨v44, e_v44, e_t36⟩ := gBd e_t36
              refine g_getI K fl_c11_130 d_c11_readWell_190 e_v44 ?_
              obtain ⟨q45, e_q45, e_t36⟩ := gBd e_t36
              refine g_callVv (rest := []) K hx ly_c11_fault kv_c11_151 d_c11_readWell_193 (ct_c11_fault M.2.1 X hx N a0 v44 h33 q45 e_q45) rfl rfl (Nat.le_of_ble_eq_true rfl) (gDep rfl) ⟨Nat.le_refl 0, Nat.le_refl 0⟩ ?_
              refine g_sub (ls2 := [(0, .ref a0)]) [0] rfl ?_
              obtain rfl := Option.some.inj e_t36
              exact hJ37
      refine g_icmp_ne K d_c11_readWell_154 (fun c30 => ?_) (fun c30 => ?_)
      · refine g_iconst (v := 0) K d_c11_readWell_161 (by decide) ?_
        exact hJ32 _ (by rw [if_neg c30])
      · refine g_iconst (v := 1) K d_c11_readWell_157 (by decide) ?_
        refine g_goto K d_c11_readWell_158 ?_
        exact hJ32 _ (by rw [if_pos c30])
    refine g_if_eq K d_c11_readWell_92 (fun c20 => ?_) (fun c20 => ?_)
    · rw [if_pos c20] at e_t21
      refine g_sub (ls2 := [(0, .ref a0), (1, .int x1), (3, .int ((v3 * q2.1) + q5.1))]) [0, 1, 2] rfl ?_
      obtain rfl := Option.some.inj e_t21
      exact hJ22
    · rw [if_neg c20] at e_t21
      refine g_iload K d_c11_readWell_95 3 rfl ?_
      refine g_if_ne K d_c11_readWell_97 (fun c46 => ?_) (fun c46 => ?_)
      · rw [if_neg c46] at e_t21
        refine g_sub (ls2 := [(0, .ref a0), (1, .int x1), (3, .int ((v3 * q2.1) + q5.1))]) [0, 1, 2] rfl ?_
        obtain rfl := Option.some.inj e_t21
        exact hJ22
      · rw [if_pos c46] at e_t21
        refine g_aload_n K d_c11_readWell_100 0 rfl ?_
        refine g_aload_n K d_c11_readWell_101 0 rfl ?_
        obtain ⟨v47, e_v47, e_t21⟩ := gBd e_t21
        refine g_getI K fl_c11_130 d_c11_readWell_102 e_v47 ?_
        refine g_iconst (v := 1) K d_c11_readWell_105 (by decide) ?_
        refine g_isub K d_c11_readWell_106 ?_
        obtain ⟨q48, e_q48, e_t21⟩ := gBd e_t21
        refine g_callVv (rest := []) K hx ly_c11_fault kv_c11_151 d_c11_readWell_107 (ct_c11_fault M.2.1 X hx N a0 (v47 - (1 : Int32)) q5.2 q48 e_q48) rfl rfl (Nat.le_of_ble_eq_true rfl) (gDep rfl) ⟨Nat.le_refl 0, Nat.le_refl 0⟩ ?_
        refine g_sub (ls2 := [(0, .ref a0), (1, .int x1), (3, .int ((v3 * q2.1) + q5.1))]) [0, 1, 2] rfl ?_
        obtain rfl := Option.some.inj e_t21
        exact hJ22
  refine g_icmp_ne K d_c11_readWell_38 (fun c8 => ?_) (fun c8 => ?_)
  · refine g_iconst (v := 0) K d_c11_readWell_45 (by decide) ?_
    exact hJ10 _ (by rw [if_neg c8])
  · refine g_iconst (v := 1) K d_c11_readWell_41 (by decide) ?_
    refine g_goto K d_c11_readWell_42 ?_
    exact hJ10 _ (by rw [if_pos c8])
