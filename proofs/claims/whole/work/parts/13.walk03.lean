-- c11 passes
theorem d_c11_passes_0 : gD b_c11_passes 0 (.aload_n 0) 1 1 := ⟨by decide +kernel, rfl⟩
theorem d_c11_passes_1 : gD b_c11_passes 1 (.invokevirtual 140) 3 4 := ⟨by decide +kernel, rfl⟩
theorem d_c11_passes_4 : gJ b_c11_passes 4 (.ifCond .eq 11) 3 11 7 15 := ⟨by decide +kernel, rfl, by decide⟩
theorem d_c11_passes_7 : gD b_c11_passes 7 (.aload_n 0) 1 8 := ⟨by decide +kernel, rfl⟩
theorem d_c11_passes_8 : gD b_c11_passes 8 (.invokevirtual 144) 3 11 := ⟨by decide +kernel, rfl⟩
theorem d_c11_passes_11 : gD b_c11_passes 11 (.iload_n 1) 1 12 := ⟨by decide +kernel, rfl⟩
theorem d_c11_passes_12 : gJ b_c11_passes 12 (.if_icmp .eq 5) 3 5 15 17 := ⟨by decide +kernel, rfl, by decide⟩
theorem d_c11_passes_15 : gD b_c11_passes 15 (.iconst 0) 1 16 := ⟨by decide +kernel, rfl⟩
theorem d_c11_passes_16 : gD b_c11_passes 16 .ireturn 1 17 := ⟨by decide +kernel, rfl⟩
theorem d_c11_passes_17 : gD b_c11_passes 17 (.aload_n 0) 1 18 := ⟨by decide +kernel, rfl⟩
theorem d_c11_passes_18 : gD b_c11_passes 18 .dup 1 19 := ⟨by decide +kernel, rfl⟩
theorem d_c11_passes_19 : gD b_c11_passes 19 (.getfield 130) 3 22 := ⟨by decide +kernel, rfl⟩
theorem d_c11_passes_22 : gD b_c11_passes 22 (.iconst 1) 1 23 := ⟨by decide +kernel, rfl⟩
theorem d_c11_passes_23 : gD b_c11_passes 23 .iadd 1 24 := ⟨by decide +kernel, rfl⟩
theorem d_c11_passes_24 : gD b_c11_passes 24 (.putfield 130) 3 27 := ⟨by decide +kernel, rfl⟩
theorem d_c11_passes_27 : gD b_c11_passes 27 (.iconst 1) 1 28 := ⟨by decide +kernel, rfl⟩
theorem d_c11_passes_28 : gD b_c11_passes 28 .ireturn 1 29 := ⟨by decide +kernel, rfl⟩
def f_c11_passes (N : Nat) (a0 : Nat) (x1 : Int32) (h : gH) : Option (Int32 × gH) :=
  (gcl h a0 11).bind fun _ =>
  (f_c11_fine N a0 h).bind fun q1 =>
    if q1 = 0 then
    (gZ (0 : Int32)).bind fun w3 => some (w3, h)
  else
    (f_c11_here N a0 h).bind fun q4 =>
    if q4 = x1 then
    (gfI h a0 11 14).bind fun v6 =>
    (sf h a0 11 14 (.int (v6 + (1 : Int32)))).bind fun h7 =>
    (gZ (1 : Int32)).bind fun w8 => some (w8, h7)
  else
    (gZ (0 : Int32)).bind fun w9 => some (w9, h)
set_option maxHeartbeats 4000000 in
set_option maxRecDepth 100000 in
theorem ct_c11_passes (l : Launch) (X : gX) (hx : gEx X = false) (N : Nat) (a0 : Nat) (x1 : Int32) (h : gH) (q : Int32 × gH) (hy : f_c11_passes N a0 x1 h = some q) : gRc y_c11_passes h a0 ∧ gMi l X y_c11_passes b_c11_passes 2 .boolean (2 + N) 0 0 [.ref a0, .int x1] h q.1 q.2 := by
  unfold f_c11_passes at hy
  obtain ⟨u0, e_u0, hy⟩ := gBd hy
  cases u0
  refine ⟨Or.inl ⟨11, _, _, e_u0, rfl⟩, gMet_i (lsx := [(0, .ref a0), (1, .int x1)]) (by decide) rfl rfl ?_⟩
  intro M hMl K hret
  subst hMl
  refine g_aload_n K d_c11_passes_0 0 rfl ?_
  obtain ⟨q1, e_q1, hy⟩ := gBd hy
  refine g_callVi (rest := []) K hx ly_c11_fine kv_c11_140 d_c11_passes_1 (ct_c11_fine M.2.1 X hx N a0 h q1 e_q1) rfl rfl (Nat.le_of_ble_eq_true rfl) (gDep rfl) ⟨Nat.le_refl 0, Nat.le_refl 0⟩ ?_
  refine g_if_eq K d_c11_passes_4 (fun c2 => ?_) (fun c2 => ?_)
  · rw [if_pos c2] at hy
    refine g_iconst (v := 0) K d_c11_passes_15 (by decide) ?_
    obtain ⟨w3, e_w3, hy⟩ := gBd hy
    obtain ⟨z_w3, n_w3⟩ := gZ_spec e_w3
    rw [z_w3]
    obtain rfl := Option.some.inj hy
    exact hret (gZn n_w3) _ _ _ d_c11_passes_16
  · rw [if_neg c2] at hy
    refine g_aload_n K d_c11_passes_7 0 rfl ?_
    obtain ⟨q4, e_q4, hy⟩ := gBd hy
    refine g_callVi (rest := []) K hx ly_c11_here kv_c11_144 d_c11_passes_8 (ct_c11_here M.2.1 X hx N a0 h q4 e_q4) rfl rfl (Nat.le_of_ble_eq_true rfl) (gDep rfl) ⟨Nat.le_refl 0, Nat.le_refl 0⟩ ?_
    refine g_iload_n K d_c11_passes_11 1 rfl ?_
    refine g_icmp_eq K d_c11_passes_12 (fun c5 => ?_) (fun c5 => ?_)
    · rw [if_pos c5] at hy
      refine g_aload_n K d_c11_passes_17 0 rfl ?_
      refine g_dup K d_c11_passes_18 rfl ?_
      obtain ⟨v6, e_v6, hy⟩ := gBd hy
      refine g_getI K fl_c11_130 d_c11_passes_19 e_v6 ?_
      refine g_iconst (v := 1) K d_c11_passes_22 (by decide) ?_
      refine g_iadd K d_c11_passes_23 ?_
      obtain ⟨h7, e_h7, hy⟩ := gBd hy
      refine g_putI K fp_c11_130 d_c11_passes_24 e_h7 ?_
      refine g_iconst (v := 1) K d_c11_passes_27 (by decide) ?_
      obtain ⟨w8, e_w8, hy⟩ := gBd hy
      obtain ⟨z_w8, n_w8⟩ := gZ_spec e_w8
      rw [z_w8]
      obtain rfl := Option.some.inj hy
      exact hret (gZn n_w8) _ _ _ d_c11_passes_28
    · rw [if_neg c5] at hy
      refine g_iconst (v := 0) K d_c11_passes_15 (by decide) ?_
      obtain ⟨w9, e_w9, hy⟩ := gBd hy
      obtain ⟨z_w9, n_w9⟩ := gZ_spec e_w9
      rw [z_w9]
      obtain rfl := Option.some.inj hy
      exact hret (gZn n_w9) _ _ _ d_c11_passes_16
-- c11 refusesAnd
theorem d_c11_refusesAnd_0 : gD b_c11_refusesAnd 0 (.iload_n 1) 1 1 := ⟨by decide +kernel, rfl⟩
theorem d_c11_refusesAnd_1 : gD b_c11_refusesAnd 1 (.iconst 0) 1 2 := ⟨by decide +kernel, rfl⟩
theorem d_c11_refusesAnd_2 : gD b_c11_refusesAnd 2 (.aload_n 0) 1 3 := ⟨by decide +kernel, rfl⟩
theorem d_c11_refusesAnd_3 : gD b_c11_refusesAnd 3 (.bipush 40) 2 5 := ⟨by decide +kernel, rfl⟩
theorem d_c11_refusesAnd_5 : gD b_c11_refusesAnd 5 .iaload 1 6 := ⟨by decide +kernel, rfl⟩
theorem d_c11_refusesAnd_6 : gD b_c11_refusesAnd 6 (.iconst 1) 1 7 := ⟨by decide +kernel, rfl⟩
theorem d_c11_refusesAnd_7 : gD b_c11_refusesAnd 7 .isub 1 8 := ⟨by decide +kernel, rfl⟩
theorem d_c11_refusesAnd_8 : gD b_c11_refusesAnd 8 (.invokestatic 105) 3 11 := ⟨by decide +kernel, rfl⟩
theorem d_c11_refusesAnd_11 : gJ b_c11_refusesAnd 11 (.ifCond .ne 5) 3 5 14 16 := ⟨by decide +kernel, rfl, by decide⟩
theorem d_c11_refusesAnd_14 : gD b_c11_refusesAnd 14 (.iconst (-1)) 1 15 := ⟨by decide +kernel, rfl⟩
theorem d_c11_refusesAnd_15 : gD b_c11_refusesAnd 15 .ireturn 1 16 := ⟨by decide +kernel, rfl⟩
theorem d_c11_refusesAnd_16 : gD b_c11_refusesAnd 16 (.aload_n 0) 1 17 := ⟨by decide +kernel, rfl⟩
theorem d_c11_refusesAnd_17 : gD b_c11_refusesAnd 17 (.bipush 24) 2 19 := ⟨by decide +kernel, rfl⟩
theorem d_c11_refusesAnd_19 : gD b_c11_refusesAnd 19 (.iload_n 1) 1 20 := ⟨by decide +kernel, rfl⟩
theorem d_c11_refusesAnd_20 : gD b_c11_refusesAnd 20 .iadd 1 21 := ⟨by decide +kernel, rfl⟩
theorem d_c11_refusesAnd_21 : gD b_c11_refusesAnd 21 .iaload 1 22 := ⟨by decide +kernel, rfl⟩
theorem d_c11_refusesAnd_22 : gD b_c11_refusesAnd 22 (.bipush 9) 2 24 := ⟨by decide +kernel, rfl⟩
theorem d_c11_refusesAnd_24 : gJ b_c11_refusesAnd 24 (.if_icmp .ne 8) 3 8 27 32 := ⟨by decide +kernel, rfl, by decide⟩
theorem d_c11_refusesAnd_27 : gD b_c11_refusesAnd 27 (.bipush (-2)) 2 29 := ⟨by decide +kernel, rfl⟩
theorem d_c11_refusesAnd_29 : gJ b_c11_refusesAnd 29 (.goto 4) 3 4 32 33 := ⟨by decide +kernel, rfl, by decide⟩
theorem d_c11_refusesAnd_32 : gD b_c11_refusesAnd 32 (.iconst 0) 1 33 := ⟨by decide +kernel, rfl⟩
theorem d_c11_refusesAnd_33 : gD b_c11_refusesAnd 33 .ireturn 1 34 := ⟨by decide +kernel, rfl⟩
def f_c11_refusesAnd (N : Nat) (a0 : Nat) (x1 : Int32) (h : gH) : Option (Int32) :=
  (ga 0 h a0 (40 : Int32)).bind fun v1 =>
    (f_c11_in N x1 (0 : Int32) (v1 - (1 : Int32)) h).bind fun q2 =>
    if q2 = 0 then
    some (-1 : Int32)
  else
    (ga 0 h a0 ((24 : Int32) + x1)).bind fun v4 =>
    some (if v4 = (9 : Int32) then (-2 : Int32) else (0 : Int32))
set_option maxHeartbeats 4000000 in
set_option maxRecDepth 100000 in
theorem ct_c11_refusesAnd (l : Launch) (X : gX) (hx : gEx X = false) (N : Nat) (a0 : Nat) (x1 : Int32) (h : gH) (q : Int32) (hy : f_c11_refusesAnd N a0 x1 h = some q) : gMi l X y_c11_refusesAnd b_c11_refusesAnd 2 .int (2 + N) 0 0 [.ref a0, .int x1] h q h := by
  unfold f_c11_refusesAnd at hy
  refine gMet_i (lsx := [(0, .ref a0), (1, .int x1)]) (by decide) rfl rfl ?_
  intro M hMl K hret
  subst hMl
  refine g_iload_n K d_c11_refusesAnd_0 1 rfl ?_
  refine g_iconst (v := 0) K d_c11_refusesAnd_1 (by decide) ?_
  refine g_aload_n K d_c11_refusesAnd_2 0 rfl ?_
  refine g_bipush (v := 40) K d_c11_refusesAnd_3 (by decide) ?_
  obtain ⟨v1, e_v1, hy⟩ := gBd hy
  refine g_iald K d_c11_refusesAnd_5 e_v1 ?_
  refine g_iconst (v := 1) K d_c11_refusesAnd_6 (by decide) ?_
  refine g_isub K d_c11_refusesAnd_7 ?_
  obtain ⟨q2, e_q2, hy⟩ := gBd hy
  refine g_callSi (rest := []) K hx ly_c11_in ks_c11_105 d_c11_refusesAnd_8 (ct_c11_in M.2.1 X hx N x1 (0 : Int32) (v1 - (1 : Int32)) h q2 e_q2) rfl rfl (Nat.le_of_ble_eq_true rfl) (gDep rfl) ⟨Nat.le_refl 0, Nat.le_refl 0⟩ ?_
  refine g_if_ne K d_c11_refusesAnd_11 (fun c3 => ?_) (fun c3 => ?_)
  · rw [if_neg c3] at hy
    refine g_aload_n K d_c11_refusesAnd_16 0 rfl ?_
    refine g_bipush (v := 24) K d_c11_refusesAnd_17 (by decide) ?_
    refine g_iload_n K d_c11_refusesAnd_19 1 rfl ?_
    refine g_iadd K d_c11_refusesAnd_20 ?_
    obtain ⟨v4, e_v4, hy⟩ := gBd hy
    refine g_iald K d_c11_refusesAnd_21 e_v4 ?_
    refine g_bipush (v := 9) K d_c11_refusesAnd_22 (by decide) ?_
    have hJ7 : ∀ w6 : Int32, w6 = (if v4 = (9 : Int32) then (-2 : Int32) else (0 : Int32)) → gG M X 2 0 0 33 [(0, .ref a0), (1, .int x1)] [.int w6] h := by
      intro w6 e_w6
      subst e_w6
      obtain rfl := Option.some.inj hy
      exact hret rfl _ _ _ d_c11_refusesAnd_33
    refine g_icmp_ne K d_c11_refusesAnd_24 (fun c5 => ?_) (fun c5 => ?_)
    · refine g_iconst (v := 0) K d_c11_refusesAnd_32 (by decide) ?_
      exact hJ7 _ (by rw [if_neg c5])
    · refine g_bipush (v := (-2)) K d_c11_refusesAnd_27 (by decide) ?_
      refine g_goto K d_c11_refusesAnd_29 ?_
      exact hJ7 _ (by rw [if_pos c5])
  · rw [if_pos c3] at hy
    refine g_iconst (v := (-1)) K d_c11_refusesAnd_14 (by decide) ?_
    obtain rfl := Option.some.inj hy
    exact hret rfl _ _ _ d_c11_refusesAnd_15
-- c11 remember
theorem d_c11_remember_0 : gD b_c11_remember 0 (.aload_n 0) 1 1 := ⟨by decide +kernel, rfl⟩
theorem d_c11_remember_1 : gD b_c11_remember 1 (.getfield 159) 3 4 := ⟨by decide +kernel, rfl⟩
theorem d_c11_remember_4 : gD b_c11_remember 4 (.bipush 12) 2 6 := ⟨by decide +kernel, rfl⟩
theorem d_c11_remember_6 : gJ b_c11_remember 6 (.if_icmp .ne 43) 3 43 9 49 := ⟨by decide +kernel, rfl, by decide⟩
theorem d_c11_remember_9 : gD b_c11_remember 9 (.iconst 0) 1 10 := ⟨by decide +kernel, rfl⟩
theorem d_c11_remember_10 : gD b_c11_remember 10 (.istore_n 2) 1 11 := ⟨by decide +kernel, rfl⟩
theorem d_c11_remember_11 : gD b_c11_remember 11 (.iload_n 2) 1 12 := ⟨by decide +kernel, rfl⟩
theorem d_c11_remember_12 : gD b_c11_remember 12 (.sipush 473) 3 15 := ⟨by decide +kernel, rfl⟩
theorem d_c11_remember_15 : gJ b_c11_remember 15 (.if_icmp .ge 24) 3 24 18 39 := ⟨by decide +kernel, rfl, by decide⟩
theorem d_c11_remember_18 : gD b_c11_remember 18 (.aload_n 0) 1 19 := ⟨by decide +kernel, rfl⟩
theorem d_c11_remember_19 : gD b_c11_remember 19 (.getfield 46) 3 22 := ⟨by decide +kernel, rfl⟩
theorem d_c11_remember_22 : gD b_c11_remember 22 (.iload_n 2) 1 23 := ⟨by decide +kernel, rfl⟩
theorem d_c11_remember_23 : gD b_c11_remember 23 (.aload_n 0) 1 24 := ⟨by decide +kernel, rfl⟩
theorem d_c11_remember_24 : gD b_c11_remember 24 (.getfield 46) 3 27 := ⟨by decide +kernel, rfl⟩
theorem d_c11_remember_27 : gD b_c11_remember 27 (.iload_n 2) 1 28 := ⟨by decide +kernel, rfl⟩
theorem d_c11_remember_28 : gD b_c11_remember 28 (.bipush 43) 2 30 := ⟨by decide +kernel, rfl⟩
theorem d_c11_remember_30 : gD b_c11_remember 30 .iadd 1 31 := ⟨by decide +kernel, rfl⟩
theorem d_c11_remember_31 : gD b_c11_remember 31 .iaload 1 32 := ⟨by decide +kernel, rfl⟩
theorem d_c11_remember_32 : gD b_c11_remember 32 .iastore 1 33 := ⟨by decide +kernel, rfl⟩
theorem d_c11_remember_33 : gD b_c11_remember 33 (.iinc 2 1) 3 36 := ⟨by decide +kernel, rfl⟩
theorem d_c11_remember_36 : gJ b_c11_remember 36 (.goto (-25)) 3 (-25) 39 11 := ⟨by decide +kernel, rfl, by decide⟩
theorem d_c11_remember_39 : gD b_c11_remember 39 (.aload_n 0) 1 40 := ⟨by decide +kernel, rfl⟩
theorem d_c11_remember_40 : gD b_c11_remember 40 .dup 1 41 := ⟨by decide +kernel, rfl⟩
theorem d_c11_remember_41 : gD b_c11_remember 41 (.getfield 159) 3 44 := ⟨by decide +kernel, rfl⟩
theorem d_c11_remember_44 : gD b_c11_remember 44 (.iconst 1) 1 45 := ⟨by decide +kernel, rfl⟩
theorem d_c11_remember_45 : gD b_c11_remember 45 .isub 1 46 := ⟨by decide +kernel, rfl⟩
theorem d_c11_remember_46 : gD b_c11_remember 46 (.putfield 159) 3 49 := ⟨by decide +kernel, rfl⟩
theorem d_c11_remember_49 : gD b_c11_remember 49 (.aload_n 1) 1 50 := ⟨by decide +kernel, rfl⟩
theorem d_c11_remember_50 : gD b_c11_remember 50 (.aload_n 0) 1 51 := ⟨by decide +kernel, rfl⟩
theorem d_c11_remember_51 : gD b_c11_remember 51 (.getfield 46) 3 54 := ⟨by decide +kernel, rfl⟩
theorem d_c11_remember_54 : gD b_c11_remember 54 (.bipush 43) 2 56 := ⟨by decide +kernel, rfl⟩
theorem d_c11_remember_56 : gD b_c11_remember 56 (.aload_n 0) 1 57 := ⟨by decide +kernel, rfl⟩
theorem d_c11_remember_57 : gD b_c11_remember 57 (.getfield 159) 3 60 := ⟨by decide +kernel, rfl⟩
theorem d_c11_remember_60 : gD b_c11_remember 60 .imul 1 61 := ⟨by decide +kernel, rfl⟩
theorem d_c11_remember_61 : gD b_c11_remember 61 (.invokestatic 253) 3 64 := ⟨by decide +kernel, rfl⟩
theorem d_c11_remember_64 : gD b_c11_remember 64 (.aload_n 0) 1 65 := ⟨by decide +kernel, rfl⟩
theorem d_c11_remember_65 : gD b_c11_remember 65 .dup 1 66 := ⟨by decide +kernel, rfl⟩
theorem d_c11_remember_66 : gD b_c11_remember 66 (.getfield 159) 3 69 := ⟨by decide +kernel, rfl⟩
theorem d_c11_remember_69 : gD b_c11_remember 69 (.iconst 1) 1 70 := ⟨by decide +kernel, rfl⟩
theorem d_c11_remember_70 : gD b_c11_remember 70 .iadd 1 71 := ⟨by decide +kernel, rfl⟩
theorem d_c11_remember_71 : gD b_c11_remember 71 (.putfield 159) 3 74 := ⟨by decide +kernel, rfl⟩
theorem d_c11_remember_74 : gD b_c11_remember 74 .return_ 1 75 := ⟨by decide +kernel, rfl⟩
def lp_c11_remember_11 (N : Nat) (a0 : Nat) : Nat → Int32 → gH → Option (gH)
  | 0, _, _ => none
  | k + 1, x2, h =>
  if (473 : Int32) ≤ x2 then
    some h
  else
    (gfR h a0 11 22).bind fun v11 =>
    (gfR h a0 11 22).bind fun v12 =>
    (ga 0 h v12 (x2 + (43 : Int32))).bind fun v13 =>
    (sa 0 h v11 x2 v13).bind fun h14 =>
    lp_c11_remember_11 N a0 k (x2 + (1 : Int32)) h14
def f_c11_remember (N : Nat) (a0 : Nat) (a1 : Nat) (h : gH) : Option (gH) :=
  (gcl h a0 11).bind fun _ =>
  (gfI h a0 11 23).bind fun v1 =>
    (show Option (gH) from if v1 = (12 : Int32) then
    (lp_c11_remember_11 N a0 N (0 : Int32) h).bind fun o15 =>
    (gfI o15 a0 11 23).bind fun v16 =>
    (sf o15 a0 11 23 (.int (v16 - (1 : Int32)))).bind fun h17 =>
    some h17
  else
    some h).bind fun t3 =>
    (gfR t3 a0 11 22).bind fun v5 =>
    (gfI t3 a0 11 23).bind fun v6 =>
    (f_c11_lay N a1 v5 ((43 : Int32) * v6) t3).bind fun q7 =>
    (gfI q7 a0 11 23).bind fun v8 =>
    (sf q7 a0 11 23 (.int (v8 + (1 : Int32)))).bind fun h9 =>
    some h9
set_option maxHeartbeats 4000000 in
set_option maxRecDepth 100000 in
theorem wlp_c11_remember_11 {M : gM} {X : gX} {N : Nat} (hx : gEx X = false) (K : gC M X gN11 b_c11_remember 3 (gRm (2 + N) 0 0)) (a0 : Nat) (a1 : Nat) : ∀ (k : Nat) (x2 : Int32) (h : gH) (o : gH), lp_c11_remember_11 N a0 k x2 h = some o → gG M X 3 0 0 39 [(0, .ref a0), (1, .ref a1)] [] o → gG M X 3 0 0 11 [(0, .ref a0), (1, .ref a1), (2, .int x2)] [] h := by
  intro k
  induction k with
  | zero =>
    intro x2 h o hy
    rw [lp_c11_remember_11.eq_1] at hy
    cases hy
  | succ k ih =>
    intro x2 h o hy hE
    rw [lp_c11_remember_11.eq_2] at hy
    refine g_iload_n K d_c11_remember_11 2 rfl ?_
    refine g_sipush (v := 473) K d_c11_remember_12 (by decide) ?_
    refine g_icmp_ge K d_c11_remember_15 (fun c10 => ?_) (fun c10 => ?_)
    · rw [if_pos c10] at hy
      refine g_sub (ls2 := [(0, .ref a0), (1, .ref a1)]) [0, 1] rfl ?_
      obtain rfl := Option.some.inj hy
      exact hE
    · rw [if_neg c10] at hy
      refine g_aload_n K d_c11_remember_18 0 rfl ?_
      obtain ⟨v11, e_v11, hy⟩ := gBd hy
      refine g_getR K fl_c11_46 d_c11_remember_19 e_v11 ?_
      refine g_iload_n K d_c11_remember_22 2 rfl ?_
      refine g_aload_n K d_c11_remember_23 0 rfl ?_
      obtain ⟨v12, e_v12, hy⟩ := gBd hy
      refine g_getR K fl_c11_46 d_c11_remember_24 e_v12 ?_
      refine g_iload_n K d_c11_remember_27 2 rfl ?_
      refine g_bipush (v := 43) K d_c11_remember_28 (by decide) ?_
      refine g_iadd K d_c11_remember_30 ?_
      obtain ⟨v13, e_v13, hy⟩ := gBd hy
      refine g_iald K d_c11_remember_31 e_v13 ?_
      obtain ⟨h14, e_h14, hy⟩ := gBd hy
      refine g_iast K d_c11_remember_32 e_h14 ?_
      refine g_iinc (ls2 := [(2, .int (x2 + (1 : Int32))), (0, .ref a0), (1, .ref a1)]) (v := 1) K d_c11_remember_33 2 rfl (by decide) rfl rfl ?_
      refine g_goto K d_c11_remember_36 ?_
      refine g_sub (ls2 := [(0, .ref a0), (1, .ref a1), (2, .int (x2 + (1 : Int32)))]) [1, 2, 0] rfl ?_
      exact ih _ _ _ hy hE
set_option maxHeartbeats 4000000 in
set_option maxRecDepth 100000 in
theorem ct_c11_remember (l : Launch) (X : gX) (hx : gEx X = false) (N : Nat) (a0 : Nat) (a1 : Nat) (h : gH) (q : gH) (hy : f_c11_remember N a0 a1 h = some q) : gRc y_c11_remember h a0 ∧ gMv l X y_c11_remember b_c11_remember 3 (2 + N) 0 0 [.ref a0, .ref a1] h q := by
  unfold f_c11_remember at hy
  obtain ⟨u0, e_u0, hy⟩ := gBd hy
  cases u0
  refine ⟨Or.inl ⟨11, _, _, e_u0, rfl⟩, gMet_v (lsx := [(0, .ref a0), (1, .ref a1)]) (by decide) rfl rfl ?_⟩
  intro M hMl K hret
  subst hMl
  refine g_aload_n K d_c11_remember_0 0 rfl ?_
  obtain ⟨v1, e_v1, hy⟩ := gBd hy
  refine g_getI K fl_c11_159 d_c11_remember_1 e_v1 ?_
  refine g_bipush (v := 12) K d_c11_remember_4 (by decide) ?_
  obtain ⟨t3, e_t3, hy⟩ := gBd hy
  have hJ4 : gG M X 3 0 0 49 [(0, .ref a0), (1, .ref a1)] [] t3 := by
    refine g_aload_n K d_c11_remember_49 1 rfl ?_
    refine g_aload_n K d_c11_remember_50 0 rfl ?_
    obtain ⟨v5, e_v5, hy⟩ := gBd hy
    refine g_getR K fl_c11_46 d_c11_remember_51 e_v5 ?_
    refine g_bipush (v := 43) K d_c11_remember_54 (by decide) ?_
    refine g_aload_n K d_c11_remember_56 0 rfl ?_
    obtain ⟨v6, e_v6, hy⟩ := gBd hy
    refine g_getI K fl_c11_159 d_c11_remember_57 e_v6 ?_
    refine g_imul K d_c11_remember_60 ?_
    obtain ⟨q7, e_q7, hy⟩ := gBd hy
    refine g_callSv (rest := []) K hx ly_c11_lay ks_c11_253 d_c11_remember_61 (ct_c11_lay M.2.1 X hx N a1 v5 ((43 : Int32) * v6) t3 q7 e_q7) rfl rfl (Nat.le_of_ble_eq_true rfl) (gDep rfl) ⟨Nat.le_refl 0, Nat.le_refl 0⟩ ?_
    refine g_aload_n K d_c11_remember_64 0 rfl ?_
    refine g_dup K d_c11_remember_65 rfl ?_
    obtain ⟨v8, e_v8, hy⟩ := gBd hy
    refine g_getI K fl_c11_159 d_c11_remember_66 e_v8 ?_
    refine g_iconst (v := 1) K d_c11_remember_69 (by decide) ?_
    refine g_iadd K d_c11_remember_70 ?_
    obtain ⟨h9, e_h9, hy⟩ := gBd hy
    refine g_putI K fp_c11_159 d_c11_remember_71 e_h9 ?_
    obtain rfl := Option.some.inj hy
    exact hret _ _ _ d_c11_remember_74
  refine g_icmp_ne K d_c11_remember_6 (fun c2 => ?_) (fun c2 => ?_)
  · rw [if_neg c2] at e_t3
    obtain rfl := Option.some.inj e_t3
    exact hJ4
  · rw [if_pos c2] at e_t3
    refine g_iconst (v := 0) K d_c11_remember_9 (by decide) ?_
    refine g_istore_n (ls2 := [(2, .int (0 : Int32)), (0, .ref a0), (1, .ref a1)]) K d_c11_remember_10 rfl rfl ?_
    obtain ⟨o15, e_o15, e_t3⟩ := gBd e_t3
    refine g_sub (ls2 := [(0, .ref a0), (1, .ref a1), (2, .int (0 : Int32))]) [1, 2, 0] rfl ?_
    refine wlp_c11_remember_11 hx K a0 a1 N (0 : Int32) h o15 e_o15 ?_
    refine g_aload_n K d_c11_remember_39 0 rfl ?_
    refine g_dup K d_c11_remember_40 rfl ?_
    obtain ⟨v16, e_v16, e_t3⟩ := gBd e_t3
    refine g_getI K fl_c11_159 d_c11_remember_41 e_v16 ?_
    refine g_iconst (v := 1) K d_c11_remember_44 (by decide) ?_
    refine g_isub K d_c11_remember_45 ?_
    obtain ⟨h17, e_h17, e_t3⟩ := gBd e_t3
    refine g_putI K fp_c11_159 d_c11_remember_46 e_h17 ?_
    obtain rfl := Option.some.inj e_t3
    exact hJ4
-- c11 row
theorem d_c11_row_0 : gD b_c11_row 0 (.aload_n 0) 1 1 := ⟨by decide +kernel, rfl⟩
theorem d_c11_row_1 : gD b_c11_row 1 (.iconst 0) 1 2 := ⟨by decide +kernel, rfl⟩
theorem d_c11_row_2 : gD b_c11_row 2 (.putfield 95) 3 5 := ⟨by decide +kernel, rfl⟩
theorem d_c11_row_5 : gD b_c11_row 5 (.iload_n 1) 1 6 := ⟨by decide +kernel, rfl⟩
theorem d_c11_row_6 : gD b_c11_row 6 (.iconst 0) 1 7 := ⟨by decide +kernel, rfl⟩
theorem d_c11_row_7 : gD b_c11_row 7 (.aload_n 0) 1 8 := ⟨by decide +kernel, rfl⟩
theorem d_c11_row_8 : gD b_c11_row 8 (.getfield 98) 3 11 := ⟨by decide +kernel, rfl⟩
theorem d_c11_row_11 : gD b_c11_row 11 (.iconst 1) 1 12 := ⟨by decide +kernel, rfl⟩
theorem d_c11_row_12 : gD b_c11_row 12 .isub 1 13 := ⟨by decide +kernel, rfl⟩
theorem d_c11_row_13 : gD b_c11_row 13 (.invokestatic 105) 3 16 := ⟨by decide +kernel, rfl⟩
theorem d_c11_row_16 : gJ b_c11_row 16 (.ifCond .eq 12) 3 12 19 28 := ⟨by decide +kernel, rfl, by decide⟩
theorem d_c11_row_19 : gD b_c11_row 19 (.aload_n 0) 1 20 := ⟨by decide +kernel, rfl⟩
theorem d_c11_row_20 : gD b_c11_row 20 (.getfield 30) 3 23 := ⟨by decide +kernel, rfl⟩
theorem d_c11_row_23 : gD b_c11_row 23 (.iload_n 1) 1 24 := ⟨by decide +kernel, rfl⟩
theorem d_c11_row_24 : gD b_c11_row 24 .laload 1 25 := ⟨by decide +kernel, rfl⟩
theorem d_c11_row_25 : gJ b_c11_row 25 (.goto 8) 3 8 28 33 := ⟨by decide +kernel, rfl, by decide⟩
theorem d_c11_row_28 : gD b_c11_row 28 (.aload_n 0) 1 29 := ⟨by decide +kernel, rfl⟩
theorem d_c11_row_29 : gD b_c11_row 29 (.invokevirtual 237) 3 32 := ⟨by decide +kernel, rfl⟩
theorem d_c11_row_32 : gD b_c11_row 32 .i2l 1 33 := ⟨by decide +kernel, rfl⟩
theorem d_c11_row_33 : gD b_c11_row 33 .lreturn 1 34 := ⟨by decide +kernel, rfl⟩
def f_c11_row (N : Nat) (a0 : Nat) (x1 : Int32) (h : gH) : Option (Int64 × gH) :=
  (gcl h a0 11).bind fun _ =>
  (sf h a0 11 10 (.int (0 : Int32))).bind fun h1 =>
    (gfI h1 a0 11 9).bind fun v2 =>
    (f_c11_in N x1 (0 : Int32) (v2 - (1 : Int32)) h1).bind fun q3 =>
    (show Option (Int64 × gH) from if q3 = 0 then
    (f_c11_lost N a0 h1).bind fun q7 =>
    some (q7.1.toInt64, q7.2)
  else
    (gfR h1 a0 11 8).bind fun v8 =>
    (gaL h1 v8 x1).bind fun v9 =>
    some (v9, h1)).bind fun t5 =>
    some (t5.1, t5.2)
set_option maxHeartbeats 4000000 in
set_option maxRecDepth 100000 in
theorem ct_c11_row (l : Launch) (X : gX) (hx : gEx X = false) (N : Nat) (a0 : Nat) (x1 : Int32) (h : gH) (q : Int64 × gH) (hy : f_c11_row N a0 x1 h = some q) : gRc y_c11_row h a0 ∧ gMl l X y_c11_row b_c11_row 2 (2 + N) 0 0 [.ref a0, .int x1] h q.1 q.2 := by
  unfold f_c11_row at hy
  obtain ⟨u0, e_u0, hy⟩ := gBd hy
  cases u0
  refine ⟨Or.inl ⟨11, _, _, e_u0, rfl⟩, gMet_l (lsx := [(0, .ref a0), (1, .int x1)]) (by decide) rfl rfl ?_⟩
  intro M hMl K hret
  subst hMl
  refine g_aload_n K d_c11_row_0 0 rfl ?_
  refine g_iconst (v := 0) K d_c11_row_1 (by decide) ?_
  obtain ⟨h1, e_h1, hy⟩ := gBd hy
  refine g_putI K fp_c11_95 d_c11_row_2 e_h1 ?_
  refine g_iload_n K d_c11_row_5 1 rfl ?_
  refine g_iconst (v := 0) K d_c11_row_6 (by decide) ?_
  refine g_aload_n K d_c11_row_7 0 rfl ?_
  obtain ⟨v2, e_v2, hy⟩ := gBd hy
  refine g_getI K fl_c11_98 d_c11_row_8 e_v2 ?_
  refine g_iconst (v := 1) K d_c11_row_11 (by decide) ?_
  refine g_isub K d_c11_row_12 ?_
  obtain ⟨q3, e_q3, hy⟩ := gBd hy
  refine g_callSi (rest := []) K hx ly_c11_in ks_c11_105 d_c11_row_13 (ct_c11_in M.2.1 X hx N x1 (0 : Int32) (v2 - (1 : Int32)) h1 q3 e_q3) rfl rfl (Nat.le_of_ble_eq_true rfl) (gDep rfl) ⟨Nat.le_refl 0, Nat.le_refl 0⟩ ?_
  obtain ⟨t5, e_t5, hy⟩ := gBd hy
  have hJ6 : gG M X 2 0 0 33 [] [.long t5.1] t5.2 := by
    obtain rfl := Option.some.inj hy
    exact hret _ _ _ d_c11_row_33
  refine g_if_eq K d_c11_row_16 (fun c4 => ?_) (fun c4 => ?_)
  · rw [if_pos c4] at e_t5
    refine g_aload_n K d_c11_row_28 0 rfl ?_
    obtain ⟨q7, e_q7, e_t5⟩ := gBd e_t5
    refine g_callVi (rest := []) K hx ly_c11_lost kv_c11_237 d_c11_row_29 (ct_c11_lost M.2.1 X hx N a0 h1 q7 e_q7) rfl rfl (Nat.le_of_ble_eq_true rfl) (gDep rfl) ⟨Nat.le_refl 0, Nat.le_refl 0⟩ ?_
    refine g_i2l K d_c11_row_32 ?_
    refine g_sub (ls2 := []) [] rfl ?_
    obtain rfl := Option.some.inj e_t5
    exact hJ6
  · rw [if_neg c4] at e_t5
    refine g_aload_n K d_c11_row_19 0 rfl ?_
    obtain ⟨v8, e_v8, e_t5⟩ := gBd e_t5
    refine g_getR K fl_c11_30 d_c11_row_20 e_v8 ?_
    refine g_iload_n K d_c11_row_23 1 rfl ?_
    obtain ⟨v9, e_v9, e_t5⟩ := gBd e_t5
    refine g_lald K d_c11_row_24 e_v9 ?_
    refine g_goto K d_c11_row_25 ?_
    refine g_sub (ls2 := []) [] rfl ?_
    obtain rfl := Option.some.inj e_t5
    exact hJ6
-- c11 shares
theorem d_c11_shares_0 : gD b_c11_shares 0 (.aload_n 0) 1 1 := ⟨by decide +kernel, rfl⟩
theorem d_c11_shares_1 : gD b_c11_shares 1 (.iconst 0) 1 2 := ⟨by decide +kernel, rfl⟩
theorem d_c11_shares_2 : gD b_c11_shares 2 (.putfield 95) 3 5 := ⟨by decide +kernel, rfl⟩
theorem d_c11_shares_5 : gD b_c11_shares 5 (.iload_n 1) 1 6 := ⟨by decide +kernel, rfl⟩
theorem d_c11_shares_6 : gD b_c11_shares 6 (.iconst 0) 1 7 := ⟨by decide +kernel, rfl⟩
theorem d_c11_shares_7 : gD b_c11_shares 7 (.bipush 99) 2 9 := ⟨by decide +kernel, rfl⟩
theorem d_c11_shares_9 : gD b_c11_shares 9 (.invokestatic 105) 3 12 := ⟨by decide +kernel, rfl⟩
theorem d_c11_shares_12 : gJ b_c11_shares 12 (.ifCond .ne 5) 3 5 15 17 := ⟨by decide +kernel, rfl, by decide⟩
theorem d_c11_shares_15 : gD b_c11_shares 15 (.iconst (-1)) 1 16 := ⟨by decide +kernel, rfl⟩
theorem d_c11_shares_16 : gD b_c11_shares 16 .ireturn 1 17 := ⟨by decide +kernel, rfl⟩
theorem d_c11_shares_17 : gD b_c11_shares 17 (.iconst 0) 1 18 := ⟨by decide +kernel, rfl⟩
theorem d_c11_shares_18 : gD b_c11_shares 18 (.istore_n 2) 1 19 := ⟨by decide +kernel, rfl⟩
theorem d_c11_shares_19 : gD b_c11_shares 19 (.iconst 0) 1 20 := ⟨by decide +kernel, rfl⟩
theorem d_c11_shares_20 : gD b_c11_shares 20 (.istore_n 3) 1 21 := ⟨by decide +kernel, rfl⟩
theorem d_c11_shares_21 : gD b_c11_shares 21 (.iload_n 3) 1 22 := ⟨by decide +kernel, rfl⟩
theorem d_c11_shares_22 : gD b_c11_shares 22 (.aload_n 0) 1 23 := ⟨by decide +kernel, rfl⟩
theorem d_c11_shares_23 : gD b_c11_shares 23 (.getfield 109) 3 26 := ⟨by decide +kernel, rfl⟩
theorem d_c11_shares_26 : gJ b_c11_shares 26 (.if_icmp .ge 16) 3 16 29 42 := ⟨by decide +kernel, rfl, by decide⟩
theorem d_c11_shares_29 : gD b_c11_shares 29 (.aload_n 0) 1 30 := ⟨by decide +kernel, rfl⟩
theorem d_c11_shares_30 : gD b_c11_shares 30 (.getfield 79) 3 33 := ⟨by decide +kernel, rfl⟩
theorem d_c11_shares_33 : gD b_c11_shares 33 (.iload_n 3) 1 34 := ⟨by decide +kernel, rfl⟩
theorem d_c11_shares_34 : gD b_c11_shares 34 (.iconst 0) 1 35 := ⟨by decide +kernel, rfl⟩
theorem d_c11_shares_35 : gD b_c11_shares 35 .iastore 1 36 := ⟨by decide +kernel, rfl⟩
theorem d_c11_shares_36 : gD b_c11_shares 36 (.iinc 3 1) 3 39 := ⟨by decide +kernel, rfl⟩
theorem d_c11_shares_39 : gJ b_c11_shares 39 (.goto (-18)) 3 (-18) 42 21 := ⟨by decide +kernel, rfl, by decide⟩
theorem d_c11_shares_42 : gD b_c11_shares 42 (.iconst 0) 1 43 := ⟨by decide +kernel, rfl⟩
theorem d_c11_shares_43 : gD b_c11_shares 43 (.istore_n 3) 1 44 := ⟨by decide +kernel, rfl⟩
theorem d_c11_shares_44 : gD b_c11_shares 44 (.iload_n 3) 1 45 := ⟨by decide +kernel, rfl⟩
theorem d_c11_shares_45 : gD b_c11_shares 45 (.bipush 6) 2 47 := ⟨by decide +kernel, rfl⟩
theorem d_c11_shares_47 : gJ b_c11_shares 47 (.if_icmp .ge 66) 3 66 50 113 := ⟨by decide +kernel, rfl, by decide⟩
theorem d_c11_shares_50 : gD b_c11_shares 50 (.iconst 0) 1 51 := ⟨by decide +kernel, rfl⟩
theorem d_c11_shares_51 : gD b_c11_shares 51 (.istore 4) 2 53 := ⟨by decide +kernel, rfl⟩
theorem d_c11_shares_53 : gD b_c11_shares 53 (.iload 4) 2 55 := ⟨by decide +kernel, rfl⟩
theorem d_c11_shares_55 : gD b_c11_shares 55 (.aload_n 0) 1 56 := ⟨by decide +kernel, rfl⟩
theorem d_c11_shares_56 : gD b_c11_shares 56 (.getfield 109) 3 59 := ⟨by decide +kernel, rfl⟩
theorem d_c11_shares_59 : gJ b_c11_shares 59 (.if_icmp .ge 48) 3 48 62 107 := ⟨by decide +kernel, rfl, by decide⟩
theorem d_c11_shares_62 : gD b_c11_shares 62 (.iload_n 2) 1 63 := ⟨by decide +kernel, rfl⟩
theorem d_c11_shares_63 : gD b_c11_shares 63 (.iload_n 1) 1 64 := ⟨by decide +kernel, rfl⟩
theorem d_c11_shares_64 : gJ b_c11_shares 64 (.if_icmp .eq 37) 3 37 67 101 := ⟨by decide +kernel, rfl, by decide⟩
theorem d_c11_shares_67 : gD b_c11_shares 67 (.aload_n 0) 1 68 := ⟨by decide +kernel, rfl⟩
theorem d_c11_shares_68 : gD b_c11_shares 68 (.getfield 79) 3 71 := ⟨by decide +kernel, rfl⟩
theorem d_c11_shares_71 : gD b_c11_shares 71 (.iload 4) 2 73 := ⟨by decide +kernel, rfl⟩
theorem d_c11_shares_73 : gD b_c11_shares 73 .iaload 1 74 := ⟨by decide +kernel, rfl⟩
theorem d_c11_shares_74 : gD b_c11_shares 74 (.aload_n 0) 1 75 := ⟨by decide +kernel, rfl⟩
theorem d_c11_shares_75 : gD b_c11_shares 75 (.getfield 23) 3 78 := ⟨by decide +kernel, rfl⟩
theorem d_c11_shares_78 : gD b_c11_shares 78 (.iload 4) 2 80 := ⟨by decide +kernel, rfl⟩
theorem d_c11_shares_80 : gD b_c11_shares 80 .iaload 1 81 := ⟨by decide +kernel, rfl⟩
theorem d_c11_shares_81 : gJ b_c11_shares 81 (.if_icmp .ne 6) 3 6 84 87 := ⟨by decide +kernel, rfl, by decide⟩
theorem d_c11_shares_84 : gJ b_c11_shares 84 (.goto 17) 3 17 87 101 := ⟨by decide +kernel, rfl, by decide⟩
theorem d_c11_shares_87 : gD b_c11_shares 87 (.aload_n 0) 1 88 := ⟨by decide +kernel, rfl⟩
theorem d_c11_shares_88 : gD b_c11_shares 88 (.getfield 79) 3 91 := ⟨by decide +kernel, rfl⟩
theorem d_c11_shares_91 : gD b_c11_shares 91 (.iload 4) 2 93 := ⟨by decide +kernel, rfl⟩
theorem d_c11_shares_93 : gD b_c11_shares 93 .dup2 1 94 := ⟨by decide +kernel, rfl⟩
theorem d_c11_shares_94 : gD b_c11_shares 94 .iaload 1 95 := ⟨by decide +kernel, rfl⟩
theorem d_c11_shares_95 : gD b_c11_shares 95 (.iconst 1) 1 96 := ⟨by decide +kernel, rfl⟩
theorem d_c11_shares_96 : gD b_c11_shares 96 .iadd 1 97 := ⟨by decide +kernel, rfl⟩
theorem d_c11_shares_97 : gD b_c11_shares 97 .iastore 1 98 := ⟨by decide +kernel, rfl⟩
theorem d_c11_shares_98 : gD b_c11_shares 98 (.iinc 2 1) 3 101 := ⟨by decide +kernel, rfl⟩
theorem d_c11_shares_101 : gD b_c11_shares 101 (.iinc 4 1) 3 104 := ⟨by decide +kernel, rfl⟩
theorem d_c11_shares_104 : gJ b_c11_shares 104 (.goto (-51)) 3 (-51) 107 53 := ⟨by decide +kernel, rfl, by decide⟩
theorem d_c11_shares_107 : gD b_c11_shares 107 (.iinc 3 1) 3 110 := ⟨by decide +kernel, rfl⟩
theorem d_c11_shares_110 : gJ b_c11_shares 110 (.goto (-66)) 3 (-66) 113 44 := ⟨by decide +kernel, rfl, by decide⟩
theorem d_c11_shares_113 : gD b_c11_shares 113 (.aload_n 0) 1 114 := ⟨by decide +kernel, rfl⟩
theorem d_c11_shares_114 : gD b_c11_shares 114 (.iconst 0) 1 115 := ⟨by decide +kernel, rfl⟩
theorem d_c11_shares_115 : gD b_c11_shares 115 (.putfield 98) 3 118 := ⟨by decide +kernel, rfl⟩
theorem d_c11_shares_118 : gD b_c11_shares 118 (.iconst 0) 1 119 := ⟨by decide +kernel, rfl⟩
theorem d_c11_shares_119 : gD b_c11_shares 119 (.istore_n 3) 1 120 := ⟨by decide +kernel, rfl⟩
theorem d_c11_shares_120 : gD b_c11_shares 120 (.iload_n 3) 1 121 := ⟨by decide +kernel, rfl⟩
theorem d_c11_shares_121 : gD b_c11_shares 121 (.aload_n 0) 1 122 := ⟨by decide +kernel, rfl⟩
theorem d_c11_shares_122 : gD b_c11_shares 122 (.getfield 109) 3 125 := ⟨by decide +kernel, rfl⟩
theorem d_c11_shares_125 : gJ b_c11_shares 125 (.if_icmp .ge 20) 3 20 128 145 := ⟨by decide +kernel, rfl, by decide⟩
theorem d_c11_shares_128 : gD b_c11_shares 128 (.aload_n 0) 1 129 := ⟨by decide +kernel, rfl⟩
theorem d_c11_shares_129 : gD b_c11_shares 129 (.aload_n 0) 1 130 := ⟨by decide +kernel, rfl⟩
theorem d_c11_shares_130 : gD b_c11_shares 130 (.getfield 79) 3 133 := ⟨by decide +kernel, rfl⟩
theorem d_c11_shares_133 : gD b_c11_shares 133 (.iload_n 3) 1 134 := ⟨by decide +kernel, rfl⟩
theorem d_c11_shares_134 : gD b_c11_shares 134 .iaload 1 135 := ⟨by decide +kernel, rfl⟩
theorem d_c11_shares_135 : gD b_c11_shares 135 .i2l 1 136 := ⟨by decide +kernel, rfl⟩
theorem d_c11_shares_136 : gD b_c11_shares 136 (.invokevirtual 268) 3 139 := ⟨by decide +kernel, rfl⟩
theorem d_c11_shares_139 : gD b_c11_shares 139 (.iinc 3 1) 3 142 := ⟨by decide +kernel, rfl⟩
theorem d_c11_shares_142 : gJ b_c11_shares 142 (.goto (-22)) 3 (-22) 145 120 := ⟨by decide +kernel, rfl, by decide⟩
theorem d_c11_shares_145 : gD b_c11_shares 145 (.iload_n 2) 1 146 := ⟨by decide +kernel, rfl⟩
theorem d_c11_shares_146 : gD b_c11_shares 146 .ireturn 1 147 := ⟨by decide +kernel, rfl⟩
def lp_c11_shares_21 (N : Nat) (a0 : Nat) : Nat → Int32 → gH → Option (gH)
  | 0, _, _ => none
  | k + 1, x3, h =>
  (gfI h a0 11 3).bind fun v4 =>
    if v4 ≤ x3 then
    some h
  else
    (gfR h a0 11 35).bind fun v6 =>
    (sa 0 h v6 x3 (0 : Int32)).bind fun h7 =>
    lp_c11_shares_21 N a0 k (x3 + (1 : Int32)) h7
def lp_c11_shares_53 (N : Nat) (a0 : Nat) (x1 : Int32) : Nat → Int32 → Int32 → gH → Option (Int32 × gH)
  | 0, _, _, _ => none
  | k + 1, x2, x4, h =>
  (gfI h a0 11 3).bind fun v10 =>
    if v10 ≤ x4 then
    some (x2, h)
  else
    (show Option (Int32 × gH) from if x2 = x1 then
    some (x2, h)
  else
    (gfR h a0 11 35).bind fun v15 =>
    (ga 0 h v15 x4).bind fun v16 =>
    (gfR h a0 11 5).bind fun v17 =>
    (ga 0 h v17 x4).bind fun v18 =>
    if v16 = v18 then
    some (x2, h)
  else
    (gfR h a0 11 35).bind fun v20 =>
    (ga 0 h v20 x4).bind fun v21 =>
    (sa 0 h v20 x4 (v21 + (1 : Int32))).bind fun h22 =>
    some (x2 + (1 : Int32), h22)).bind fun t13 =>
    lp_c11_shares_53 N a0 x1 k t13.1 (x4 + (1 : Int32)) t13.2
def lp_c11_shares_44 (N : Nat) (a0 : Nat) (x1 : Int32) : Nat → Int32 → Int32 → gH → Option (Int32 × gH)
  | 0, _, _, _ => none
  | k + 1, x2, x3, h =>
  if (6 : Int32) ≤ x3 then
    some (x2, h)
  else
    (lp_c11_shares_53 N a0 x1 N x2 (0 : Int32) h).bind fun o23 =>
    lp_c11_shares_44 N a0 x1 k o23.1 (x3 + (1 : Int32)) o23.2
def lp_c11_shares_120 (N : Nat) (a0 : Nat) : Nat → Int32 → gH → Option (gH)
  | 0, _, _ => none
  | k + 1, x3, h =>
  (gfI h a0 11 3).bind fun v26 =>
    if v26 ≤ x3 then
    some h
  else
    (gfR h a0 11 35).bind fun v28 =>
    (ga 0 h v28 x3).bind fun v29 =>
    (f_c11_tell N a0 v29.toInt64 h).bind fun q30 =>
    lp_c11_shares_120 N a0 k (x3 + (1 : Int32)) q30
def f_c11_shares (N : Nat) (a0 : Nat) (x1 : Int32) (h : gH) : Option (Int32 × gH) :=
  (gcl h a0 11).bind fun _ =>
  (sf h a0 11 10 (.int (0 : Int32))).bind fun h1 =>
    (f_c11_in N x1 (0 : Int32) (99 : Int32) h1).bind fun q2 =>
    if q2 = 0 then
    some ((-1 : Int32), h1)
  else
    (lp_c11_shares_21 N a0 N (0 : Int32) h1).bind fun o8 =>
    (lp_c11_shares_44 N a0 x1 N (0 : Int32) (0 : Int32) o8).bind fun o24 =>
    (sf o24.2 a0 11 9 (.int (0 : Int32))).bind fun h25 =>
    (lp_c11_shares_120 N a0 N (0 : Int32) h25).bind fun o31 =>
    some (o24.1, o31)
set_option maxHeartbeats 4000000 in
set_option maxRecDepth 100000 in
theorem wlp_c11_shares_21 {M : gM} {X : gX} {N : Nat} (hx : gEx X = false) (K : gC M X gN11 b_c11_shares 5 (gRm (2 + N) 0 0)) (a0 : Nat) (x1 : Int32) (x2 : Int32) : ∀ (k : Nat) (x3 : Int32) (h : gH) (o : gH), lp_c11_shares_21 N a0 k x3 h = some o → gG M X 5 0 0 42 [(0, .ref a0), (1, .int x1), (2, .int x2)] [] o → gG M X 5 0 0 21 [(0, .ref a0), (1, .int x1), (2, .int x2), (3, .int x3)] [] h := by
  intro k
  induction k with
  | zero =>
    intro x3 h o hy
    rw [lp_c11_shares_21.eq_1] at hy
    cases hy
  | succ k ih =>
    intro x3 h o hy hE
    rw [lp_c11_shares_21.eq_2] at hy
    refine g_iload_n K d_c11_shares_21 3 rfl ?_
    refine g_aload_n K d_c11_shares_22 0 rfl ?_
    obtain ⟨v4, e_v4, hy⟩ := gBd hy
    refine g_getI K fl_c11_109 d_c11_shares_23 e_v4 ?_
    refine g_icmp_ge K d_c11_shares_26 (fun c5 => ?_) (fun c5 => ?_)
    · rw [if_pos c5] at hy
      refine g_sub (ls2 := [(0, .ref a0), (1, .int x1), (2, .int x2)]) [0, 1, 2] rfl ?_
      obtain rfl := Option.some.inj hy
      exact hE
    · rw [if_neg c5] at hy
      refine g_aload_n K d_c11_shares_29 0 rfl ?_
      obtain ⟨v6, e_v6, hy⟩ := gBd hy
      refine g_getR K fl_c11_79 d_c11_shares_30 e_v6 ?_
      refine g_iload_n K d_c11_shares_33 3 rfl ?_
      refine g_iconst (v := 0) K d_c11_shares_34 (by decide) ?_
      obtain ⟨h7, e_h7, hy⟩ := gBd hy
      refine g_iast K d_c11_shares_35 e_h7 ?_
      refine g_iinc (ls2 := [(3, .int (x3 + (1 : Int32))), (0, .ref a0), (1, .int x1), (2, .int x2)]) (v := 1) K d_c11_shares_36 3 rfl (by decide) rfl rfl ?_
      refine g_goto K d_c11_shares_39 ?_
      refine g_sub (ls2 := [(0, .ref a0), (1, .int x1), (2, .int x2), (3, .int (x3 + (1 : Int32)))]) [1, 2, 3, 0] rfl ?_
      exact ih _ _ _ hy hE
set_option maxHeartbeats 4000000 in
set_option maxRecDepth 100000 in
theorem wlp_c11_shares_53 {M : gM} {X : gX} {N : Nat} (hx : gEx X = false) (K : gC M X gN11 b_c11_shares 5 (gRm (2 + N) 0 0)) (a0 : Nat) (x1 : Int32) (x3 : Int32) : ∀ (k : Nat) (x2 : Int32) (x4 : Int32) (h : gH) (o : Int32 × gH), lp_c11_shares_53 N a0 x1 k x2 x4 h = some o → gG M X 5 0 0 107 [(0, .ref a0), (1, .int x1), (2, .int o.1), (3, .int x3)] [] o.2 → gG M X 5 0 0 53 [(0, .ref a0), (1, .int x1), (2, .int x2), (3, .int x3), (4, .int x4)] [] h := by
  intro k
  induction k with
  | zero =>
    intro x2 x4 h o hy
    rw [lp_c11_shares_53.eq_1] at hy
    cases hy
  | succ k ih =>
    intro x2 x4 h o hy hE
    rw [lp_c11_shares_53.eq_2] at hy
    refine g_iload K d_c11_shares_53 4 rfl ?_
    refine g_aload_n K d_c11_shares_55 0 rfl ?_
    obtain ⟨v10, e_v10, hy⟩ := gBd hy
    refine g_getI K fl_c11_109 d_c11_shares_56 e_v10 ?_
    refine g_icmp_ge K d_c11_shares_59 (fun c11 => ?_) (fun c11 => ?_)
    · rw [if_pos c11] at hy
      refine g_sub (ls2 := [(0, .ref a0), (1, .int x1), (2, .int x2), (3, .int x3)]) [0, 1, 2, 3] rfl ?_
      obtain rfl := Option.some.inj hy
      exact hE
    · rw [if_neg c11] at hy
      refine g_iload_n K d_c11_shares_62 2 rfl ?_
      refine g_iload_n K d_c11_shares_63 1 rfl ?_
      obtain ⟨t13, e_t13, hy⟩ := gBd hy
      have hJ14 : gG M X 5 0 0 101 [(0, .ref a0), (1, .int x1), (2, .int t13.1), (3, .int x3), (4, .int x4)] [] t13.2 := by
        refine g_iinc (ls2 := [(4, .int (x4 + (1 : Int32))), (0, .ref a0), (1, .int x1), (2, .int t13.1), (3, .int x3)]) (v := 1) K d_c11_shares_101 4 rfl (by decide) rfl rfl ?_
        refine g_goto K d_c11_shares_104 ?_
        refine g_sub (ls2 := [(0, .ref a0), (1, .int x1), (2, .int t13.1), (3, .int x3), (4, .int (x4 + (1 : Int32)))]) [1, 2, 3, 4, 0] rfl ?_
        exact ih _ _ _ _ hy hE
      refine g_icmp_eq K d_c11_shares_64 (fun c12 => ?_) (fun c12 => ?_)
      · rw [if_pos c12] at e_t13
        obtain rfl := Option.some.inj e_t13
        exact hJ14
      · rw [if_neg c12] at e_t13
        refine g_aload_n K d_c11_shares_67 0 rfl ?_
        obtain ⟨v15, e_v15, e_t13⟩ := gBd e_t13
        refine g_getR K fl_c11_79 d_c11_shares_68 e_v15 ?_
        refine g_iload K d_c11_shares_71 4 rfl ?_
        obtain ⟨v16, e_v16, e_t13⟩ := gBd e_t13
        refine g_iald K d_c11_shares_73 e_v16 ?_
        refine g_aload_n K d_c11_shares_74 0 rfl ?_
        obtain ⟨v17, e_v17, e_t13⟩ := gBd e_t13
        refine g_getR K fl_c11_23 d_c11_shares_75 e_v17 ?_
        refine g_iload K d_c11_shares_78 4 rfl ?_
        obtain ⟨v18, e_v18, e_t13⟩ := gBd e_t13
        refine g_iald K d_c11_shares_80 e_v18 ?_
        refine g_icmp_ne K d_c11_shares_81 (fun c19 => ?_) (fun c19 => ?_)
        · rw [if_neg c19] at e_t13
          refine g_aload_n K d_c11_shares_87 0 rfl ?_
          obtain ⟨v20, e_v20, e_t13⟩ := gBd e_t13
          refine g_getR K fl_c11_79 d_c11_shares_88 e_v20 ?_
          refine g_iload K d_c11_shares_91 4 rfl ?_
          refine g_dup2 K d_c11_shares_93 rfl rfl ?_
          obtain ⟨v21, e_v21, e_t13⟩ := gBd e_t13
          refine g_iald K d_c11_shares_94 e_v21 ?_
          refine g_iconst (v := 1) K d_c11_shares_95 (by decide) ?_
          refine g_iadd K d_c11_shares_96 ?_
          obtain ⟨h22, e_h22, e_t13⟩ := gBd e_t13
          refine g_iast K d_c11_shares_97 e_h22 ?_
          refine g_iinc (ls2 := [(2, .int (x2 + (1 : Int32))), (0, .ref a0), (1, .int x1), (3, .int x3), (4, .int x4)]) (v := 1) K d_c11_shares_98 2 rfl (by decide) rfl rfl ?_
          refine g_sub (ls2 := [(0, .ref a0), (1, .int x1), (2, .int (x2 + (1 : Int32))), (3, .int x3), (4, .int x4)]) [1, 2, 0, 3, 4] rfl ?_
          obtain rfl := Option.some.inj e_t13
          exact hJ14
        · rw [if_pos c19] at e_t13
          refine g_goto K d_c11_shares_84 ?_
          obtain rfl := Option.some.inj e_t13
          exact hJ14
set_option maxHeartbeats 4000000 in
set_option maxRecDepth 100000 in
theorem wlp_c11_shares_44 {M : gM} {X : gX} {N : Nat} (hx : gEx X = false) (K : gC M X gN11 b_c11_shares 5 (gRm (2 + N) 0 0)) (a0 : Nat) (x1 : Int32) : ∀ (k : Nat) (x2 : Int32) (x3 : Int32) (h : gH) (o : Int32 × gH), lp_c11_shares_44 N a0 x1 k x2 x3 h = some o → gG M X 5 0 0 113 [(0, .ref a0), (2, .int o.1)] [] o.2 → gG M X 5 0 0 44 [(0, .ref a0), (1, .int x1), (2, .int x2), (3, .int x3)] [] h := by
  intro k
  induction k with
  | zero =>
    intro x2 x3 h o hy
    rw [lp_c11_shares_44.eq_1] at hy
    cases hy
  | succ k ih =>
    intro x2 x3 h o hy hE
    rw [lp_c11_shares_44.eq_2] at hy
    refine g_iload_n K d_c11_shares_44 3 rfl ?_
    refine g_bipush (v := 6) K d_c11_shares_45 (by decide) ?_
    refine g_icmp_ge K d_c11_shares_47 (fun c9 => ?_) (fun c9 => ?_)
    · rw [if_pos c9] at hy
      refine g_sub (ls2 := [(0, .ref a0), (2, .int x2)]) [0, 2] rfl ?_
      obtain rfl := Option.some.inj hy
      exact hE
    · rw [if_neg c9] at hy
      refine g_iconst (v := 0) K d_c11_shares_50 (by decide) ?_
      refine g_istore (ls2 := [(4, .int (0 : Int32)), (0, .ref a0), (1, .int x1), (2, .int x2), (3, .int x3)]) K d_c11_shares_51 rfl rfl ?_
      obtain ⟨o23, e_o23, hy⟩ := gBd hy
      refine g_sub (ls2 := [(0, .ref a0), (1, .int x1), (2, .int x2), (3, .int x3), (4, .int (0 : Int32))]) [1, 2, 3, 4, 0] rfl ?_
      refine wlp_c11_shares_53 hx K a0 x1 x3 N x2 (0 : Int32) h o23 e_o23 ?_
      refine g_iinc (ls2 := [(3, .int (x3 + (1 : Int32))), (0, .ref a0), (1, .int x1), (2, .int o23.1)]) (v := 1) K d_c11_shares_107 3 rfl (by decide) rfl rfl ?_
      refine g_goto K d_c11_shares_110 ?_
      refine g_sub (ls2 := [(0, .ref a0), (1, .int x1), (2, .int o23.1), (3, .int (x3 + (1 : Int32)))]) [1, 2, 3, 0] rfl ?_
      exact ih _ _ _ _ hy hE
set_option maxHeartbeats 4000000 in
set_option maxRecDepth 100000 in
theorem wlp_c11_shares_120 {M : gM} {X : gX} {N : Nat} (hx : gEx X = false) (K : gC M X gN11 b_c11_shares 5 (gRm (2 + N) 0 0)) (a0 : Nat) (x2 : Int32) : ∀ (k : Nat) (x3 : Int32) (h : gH) (o : gH), lp_c11_shares_120 N a0 k x3 h = some o → gG M X 5 0 0 145 [(2, .int x2)] [] o → gG M X 5 0 0 120 [(0, .ref a0), (2, .int x2), (3, .int x3)] [] h := by
  intro k
  induction k with
  | zero =>
    intro x3 h o hy
    rw [lp_c11_shares_120.eq_1] at hy
    cases hy
  | succ k ih =>
    intro x3 h o hy hE
    rw [lp_c11_shares_120.eq_2] at hy
    refine g_iload_n K d_c11_shares_120 2 rfl ?_
    refine g_aload_n K d_c11_shares_121 0 rfl ?_
    obtain ⟨v26, e_v26, hy⟩ := gBd hy
    refine g_getI K fl_c11_109 d_c11_shares_122 e_v26 ?_
    refine g_icmp_ge K d_c11_shares_125 (fun c27 => ?_) (fun c27 => ?_)
    · rw [if_pos c27] at hy
      refine g_sub (ls2 := [(2, .int x2)]) [1] rfl ?_
      obtain rfl := Option.some.inj hy
      exact hE
    · rw [if_neg c27] at hy
      refine g_aload_n K d_c11_shares_128 0 rfl ?_
      refine g_aload_n K d_c11_shares_129 0 rfl ?_
      obtain ⟨v28, e_v28, hy⟩ := gBd hy
      refine g_getR K fl_c11_79 d_c11_shares_130 e_v28 ?_
      refine g_iload_n K d_c11_shares_133 2 rfl ?_
      obtain ⟨v29, e_v29, hy⟩ := gBd hy
      refine g_iald K d_c11_shares_134 e_v29 ?_
      refine g_i2l K d_c11_shares_135 ?_
      obtain ⟨q30, e_q30, hy⟩ := gBd hy
      refine g_callVv (rest := []) K hx ly_c11_tell kv_c11_268 d_c11_shares_136 (ct_c11_tell M.2.1 X hx N a0 v29.toInt64 h q30 e_q30) rfl rfl (Nat.le_of_ble_eq_true rfl) (gDep rfl) ⟨Nat.le_refl 0, Nat.le_refl 0⟩ ?_
      refine g_iinc (ls2 := [(3, .int (x3 + (1 : Int32))), (0, .ref a0), (2, .int x2)]) (v := 1) K d_c11_shares_139 2 rfl (by decide) rfl rfl ?_
      refine g_goto K d_c11_shares_142 ?_
      refine g_sub (ls2 := [(0, .ref a0), (2, .int x2), (3, .int (x3 + (1 : Int32)))]) [1, 2, 0] rfl ?_
      exact ih _ _ _ hy hE
set_option maxHeartbeats 4000000 in
set_option maxRecDepth 100000 in
theorem ct_c11_shares (l : Launch) (X : gX) (hx : gEx X = false) (N : Nat) (a0 : Nat) (x1 : Int32) (h : gH) (q : Int32 × gH) (hy : f_c11_shares N a0 x1 h = some q) : gRc y_c11_shares h a0 ∧ gMi l X y_c11_shares b_c11_shares 5 .int (2 + N) 0 0 [.ref a0, .int x1] h q.1 q.2 := by
  unfold f_c11_shares at hy
  obtain ⟨u0, e_u0, hy⟩ := gBd hy
  cases u0
  refine ⟨Or.inl ⟨11, _, _, e_u0, rfl⟩, gMet_i (lsx := [(0, .ref a0), (1, .int x1)]) (by decide) rfl rfl ?_⟩
  intro M hMl K hret
  subst hMl
  refine g_aload_n K d_c11_shares_0 0 rfl ?_
  refine g_iconst (v := 0) K d_c11_shares_1 (by decide) ?_
  obtain ⟨h1, e_h1, hy⟩ := gBd hy
  refine g_putI K fp_c11_95 d_c11_shares_2 e_h1 ?_
  refine g_iload_n K d_c11_shares_5 1 rfl ?_
  refine g_iconst (v := 0) K d_c11_shares_6 (by decide) ?_
  refine g_bipush (v := 99) K d_c11_shares_7 (by decide) ?_
  obtain ⟨q2, e_q2, hy⟩ := gBd hy
  refine g_callSi (rest := []) K hx ly_c11_in ks_c11_105 d_c11_shares_9 (ct_c11_in M.2.1 X hx N x1 (0 : Int32) (99 : Int32) h1 q2 e_q2) rfl rfl (Nat.le_of_ble_eq_true rfl) (gDep rfl) ⟨Nat.le_refl 0, Nat.le_refl 0⟩ ?_
  refine g_if_ne K d_c11_shares_12 (fun c3 => ?_) (fun c3 => ?_)
  · rw [if_neg c3] at hy
    refine g_iconst (v := 0) K d_c11_shares_17 (by decide) ?_
    refine g_istore_n (ls2 := [(2, .int (0 : Int32)), (0, .ref a0), (1, .int x1)]) K d_c11_shares_18 rfl rfl ?_
    refine g_iconst (v := 0) K d_c11_shares_19 (by decide) ?_
    refine g_istore_n (ls2 := [(3, .int (0 : Int32)), (2, .int (0 : Int32)), (0, .ref a0), (1, .int x1)]) K d_c11_shares_20 rfl rfl ?_
    obtain ⟨o8, e_o8, hy⟩ := gBd hy
    refine g_sub (ls2 := [(0, .ref a0), (1, .int x1), (2, .int (0 : Int32)), (3, .int (0 : Int32))]) [2, 3, 1, 0] rfl ?_
    refine wlp_c11_shares_21 hx K a0 x1 (0 : Int32) N (0 : Int32) h1 o8 e_o8 ?_
    refine g_iconst (v := 0) K d_c11_shares_42 (by decide) ?_
    refine g_istore_n (ls2 := [(3, .int (0 : Int32)), (0, .ref a0), (1, .int x1), (2, .int (0 : Int32))]) K d_c11_shares_43 rfl rfl ?_
    obtain ⟨o24, e_o24, hy⟩ := gBd hy
    refine g_sub (ls2 := [(0, .ref a0), (1, .int x1), (2, .int (0 : Int32)), (3, .int (0 : Int32))]) [1, 2, 3, 0] rfl ?_
    refine wlp_c11_shares_44 hx K a0 x1 N (0 : Int32) (0 : Int32) o8 o24 e_o24 ?_
    refine g_aload_n K d_c11_shares_113 0 rfl ?_
    refine g_iconst (v := 0) K d_c11_shares_114 (by decide) ?_
    obtain ⟨h25, e_h25, hy⟩ := gBd hy
    refine g_putI K fp_c11_98 d_c11_shares_115 e_h25 ?_
    refine g_iconst (v := 0) K d_c11_shares_118 (by decide) ?_
    refine g_istore_n (ls2 := [(3, .int (0 : Int32)), (0, .ref a0), (2, .int o24.1)]) K d_c11_shares_119 rfl rfl ?_
    obtain ⟨o31, e_o31, hy⟩ := gBd hy
    refine g_sub (ls2 := [(0, .ref a0), (2, .int o24.1), (3, .int (0 : Int32))]) [1, 2, 0] rfl ?_
    refine wlp_c11_shares_120 hx K a0 o24.1 N (0 : Int32) h25 o31 e_o31 ?_
    refine g_iload_n K d_c11_shares_145 0 rfl ?_
    obtain rfl := Option.some.inj hy
    exact hret rfl _ _ _ d_c11_shares_146
  · rw [if_pos c3] at hy
    refine g_iconst (v := (-1)) K d_c11_shares_15 (by decide) ?_
    obtain rfl := Option.some.inj hy
    exact hret rfl _ _ _ d_c11_shares_16
-- c11 sheet
theorem d_c11_sheet_0 : gD b_c11_sheet 0 (.aload_n 0) 1 1 := ⟨by decide +kernel, rfl⟩
theorem d_c11_sheet_1 : gD b_c11_sheet 1 (.iconst 0) 1 2 := ⟨by decide +kernel, rfl⟩
theorem d_c11_sheet_2 : gD b_c11_sheet 2 (.putfield 95) 3 5 := ⟨by decide +kernel, rfl⟩
theorem d_c11_sheet_5 : gD b_c11_sheet 5 (.iload_n 1) 1 6 := ⟨by decide +kernel, rfl⟩
theorem d_c11_sheet_6 : gD b_c11_sheet 6 (.iconst 0) 1 7 := ⟨by decide +kernel, rfl⟩
theorem d_c11_sheet_7 : gD b_c11_sheet 7 (.iconst 3) 1 8 := ⟨by decide +kernel, rfl⟩
theorem d_c11_sheet_8 : gD b_c11_sheet 8 (.invokestatic 105) 3 11 := ⟨by decide +kernel, rfl⟩
theorem d_c11_sheet_11 : gJ b_c11_sheet 11 (.ifCond .eq 9) 3 9 14 20 := ⟨by decide +kernel, rfl, by decide⟩
theorem d_c11_sheet_14 : gD b_c11_sheet 14 (.iload_n 2) 1 15 := ⟨by decide +kernel, rfl⟩
theorem d_c11_sheet_15 : gD b_c11_sheet 15 (.bipush 8) 2 17 := ⟨by decide +kernel, rfl⟩
theorem d_c11_sheet_17 : gJ b_c11_sheet 17 (.if_icmp .le 5) 3 5 20 22 := ⟨by decide +kernel, rfl, by decide⟩
theorem d_c11_sheet_20 : gD b_c11_sheet 20 (.iconst (-1)) 1 21 := ⟨by decide +kernel, rfl⟩
theorem d_c11_sheet_21 : gD b_c11_sheet 21 .ireturn 1 22 := ⟨by decide +kernel, rfl⟩
theorem d_c11_sheet_22 : gD b_c11_sheet 22 (.iload_n 1) 1 23 := ⟨by decide +kernel, rfl⟩
theorem d_c11_sheet_23 : gD b_c11_sheet 23 (.iconst 3) 1 24 := ⟨by decide +kernel, rfl⟩
theorem d_c11_sheet_24 : gJ b_c11_sheet 24 (.if_icmp .ge 10) 3 10 27 34 := ⟨by decide +kernel, rfl, by decide⟩
theorem d_c11_sheet_27 : gD b_c11_sheet 27 (.iload_n 2) 1 28 := ⟨by decide +kernel, rfl⟩
theorem d_c11_sheet_28 : gJ b_c11_sheet 28 (.ifCond .ge 6) 3 6 31 34 := ⟨by decide +kernel, rfl, by decide⟩
theorem d_c11_sheet_31 : gD b_c11_sheet 31 (.bipush (-2)) 2 33 := ⟨by decide +kernel, rfl⟩
theorem d_c11_sheet_33 : gD b_c11_sheet 33 .ireturn 1 34 := ⟨by decide +kernel, rfl⟩
theorem d_c11_sheet_34 : gD b_c11_sheet 34 (.iload_n 3) 1 35 := ⟨by decide +kernel, rfl⟩
theorem d_c11_sheet_35 : gD b_c11_sheet 35 (.istore 5) 2 37 := ⟨by decide +kernel, rfl⟩
theorem d_c11_sheet_37 : gD b_c11_sheet 37 (.iconst 0) 1 38 := ⟨by decide +kernel, rfl⟩
theorem d_c11_sheet_38 : gD b_c11_sheet 38 (.istore 6) 2 40 := ⟨by decide +kernel, rfl⟩
theorem d_c11_sheet_40 : gD b_c11_sheet 40 (.iload 6) 2 42 := ⟨by decide +kernel, rfl⟩
theorem d_c11_sheet_42 : gD b_c11_sheet 42 (.aload_n 0) 1 43 := ⟨by decide +kernel, rfl⟩
theorem d_c11_sheet_43 : gD b_c11_sheet 43 (.getfield 9) 3 46 := ⟨by decide +kernel, rfl⟩
theorem d_c11_sheet_46 : gD b_c11_sheet 46 (.bipush 40) 2 48 := ⟨by decide +kernel, rfl⟩
theorem d_c11_sheet_48 : gD b_c11_sheet 48 .iaload 1 49 := ⟨by decide +kernel, rfl⟩
theorem d_c11_sheet_49 : gJ b_c11_sheet 49 (.if_icmp .ge 77) 3 77 52 126 := ⟨by decide +kernel, rfl, by decide⟩
theorem d_c11_sheet_52 : gD b_c11_sheet 52 (.iload_n 1) 1 53 := ⟨by decide +kernel, rfl⟩
theorem d_c11_sheet_53 : gJ b_c11_sheet 53 (.ifCond .ne 9) 3 9 56 62 := ⟨by decide +kernel, rfl, by decide⟩
theorem d_c11_sheet_56 : gD b_c11_sheet 56 (.iload 5) 2 58 := ⟨by decide +kernel, rfl⟩
theorem d_c11_sheet_58 : gD b_c11_sheet 58 .i2b 1 59 := ⟨by decide +kernel, rfl⟩
theorem d_c11_sheet_59 : gJ b_c11_sheet 59 (.goto 16) 3 16 62 75 := ⟨by decide +kernel, rfl, by decide⟩
theorem d_c11_sheet_62 : gD b_c11_sheet 62 (.iload_n 1) 1 63 := ⟨by decide +kernel, rfl⟩
theorem d_c11_sheet_63 : gD b_c11_sheet 63 (.iconst 1) 1 64 := ⟨by decide +kernel, rfl⟩
theorem d_c11_sheet_64 : gJ b_c11_sheet 64 (.if_icmp .ne 9) 3 9 67 73 := ⟨by decide +kernel, rfl, by decide⟩
theorem d_c11_sheet_67 : gD b_c11_sheet 67 (.iload 5) 2 69 := ⟨by decide +kernel, rfl⟩
theorem d_c11_sheet_69 : gD b_c11_sheet 69 .i2s 1 70 := ⟨by decide +kernel, rfl⟩
theorem d_c11_sheet_70 : gJ b_c11_sheet 70 (.goto 5) 3 5 73 75 := ⟨by decide +kernel, rfl, by decide⟩
theorem d_c11_sheet_73 : gD b_c11_sheet 73 (.iload 5) 2 75 := ⟨by decide +kernel, rfl⟩
theorem d_c11_sheet_75 : gD b_c11_sheet 75 (.istore 7) 2 77 := ⟨by decide +kernel, rfl⟩
theorem d_c11_sheet_77 : gD b_c11_sheet 77 (.aload_n 0) 1 78 := ⟨by decide +kernel, rfl⟩
theorem d_c11_sheet_78 : gD b_c11_sheet 78 (.getfield 9) 3 81 := ⟨by decide +kernel, rfl⟩
theorem d_c11_sheet_81 : gD b_c11_sheet 81 (.bipush 32) 2 83 := ⟨by decide +kernel, rfl⟩
theorem d_c11_sheet_83 : gD b_c11_sheet 83 (.iload 6) 2 85 := ⟨by decide +kernel, rfl⟩
theorem d_c11_sheet_85 : gD b_c11_sheet 85 .iadd 1 86 := ⟨by decide +kernel, rfl⟩
theorem d_c11_sheet_86 : gD b_c11_sheet 86 (.iload_n 1) 1 87 := ⟨by decide +kernel, rfl⟩
theorem d_c11_sheet_87 : gD b_c11_sheet 87 (.iconst 3) 1 88 := ⟨by decide +kernel, rfl⟩
theorem d_c11_sheet_88 : gJ b_c11_sheet 88 (.if_icmp .eq 9) 3 9 91 97 := ⟨by decide +kernel, rfl, by decide⟩
theorem d_c11_sheet_91 : gD b_c11_sheet 91 (.iload 6) 2 93 := ⟨by decide +kernel, rfl⟩
theorem d_c11_sheet_93 : gD b_c11_sheet 93 (.iload_n 2) 1 94 := ⟨by decide +kernel, rfl⟩
theorem d_c11_sheet_94 : gJ b_c11_sheet 94 (.if_icmp .lt 7) 3 7 97 101 := ⟨by decide +kernel, rfl, by decide⟩
theorem d_c11_sheet_97 : gD b_c11_sheet 97 (.iconst 0) 1 98 := ⟨by decide +kernel, rfl⟩
theorem d_c11_sheet_98 : gJ b_c11_sheet 98 (.goto 14) 3 14 101 112 := ⟨by decide +kernel, rfl, by decide⟩
theorem d_c11_sheet_101 : gD b_c11_sheet 101 (.iconst 0) 1 102 := ⟨by decide +kernel, rfl⟩
theorem d_c11_sheet_102 : gD b_c11_sheet 102 (.bipush 99) 2 104 := ⟨by decide +kernel, rfl⟩
theorem d_c11_sheet_104 : gD b_c11_sheet 104 (.iload 7) 2 106 := ⟨by decide +kernel, rfl⟩
theorem d_c11_sheet_106 : gD b_c11_sheet 106 (.invokestatic 224) 3 109 := ⟨by decide +kernel, rfl⟩
theorem d_c11_sheet_109 : gD b_c11_sheet 109 (.invokestatic 227) 3 112 := ⟨by decide +kernel, rfl⟩
theorem d_c11_sheet_112 : gD b_c11_sheet 112 .iastore 1 113 := ⟨by decide +kernel, rfl⟩
theorem d_c11_sheet_113 : gD b_c11_sheet 113 (.iload 5) 2 115 := ⟨by decide +kernel, rfl⟩
theorem d_c11_sheet_115 : gD b_c11_sheet 115 (.iload 4) 2 117 := ⟨by decide +kernel, rfl⟩
theorem d_c11_sheet_117 : gD b_c11_sheet 117 .iadd 1 118 := ⟨by decide +kernel, rfl⟩
theorem d_c11_sheet_118 : gD b_c11_sheet 118 (.istore 5) 2 120 := ⟨by decide +kernel, rfl⟩
theorem d_c11_sheet_120 : gD b_c11_sheet 120 (.iinc 6 1) 3 123 := ⟨by decide +kernel, rfl⟩
theorem d_c11_sheet_123 : gJ b_c11_sheet 123 (.goto (-83)) 3 (-83) 126 40 := ⟨by decide +kernel, rfl, by decide⟩
theorem d_c11_sheet_126 : gD b_c11_sheet 126 (.iload_n 1) 1 127 := ⟨by decide +kernel, rfl⟩
theorem d_c11_sheet_127 : gD b_c11_sheet 127 (.iconst 3) 1 128 := ⟨by decide +kernel, rfl⟩
theorem d_c11_sheet_128 : gJ b_c11_sheet 128 (.if_icmp .ne 8) 3 8 131 136 := ⟨by decide +kernel, rfl, by decide⟩
theorem d_c11_sheet_131 : gD b_c11_sheet 131 (.bipush (-3)) 2 133 := ⟨by decide +kernel, rfl⟩
theorem d_c11_sheet_133 : gJ b_c11_sheet 133 (.goto 10) 3 10 136 143 := ⟨by decide +kernel, rfl, by decide⟩
theorem d_c11_sheet_136 : gD b_c11_sheet 136 (.aload_n 0) 1 137 := ⟨by decide +kernel, rfl⟩
theorem d_c11_sheet_137 : gD b_c11_sheet 137 (.getfield 9) 3 140 := ⟨by decide +kernel, rfl⟩
theorem d_c11_sheet_140 : gD b_c11_sheet 140 (.invokestatic 249) 3 143 := ⟨by decide +kernel, rfl⟩
theorem d_c11_sheet_143 : gD b_c11_sheet 143 .ireturn 1 144 := ⟨by decide +kernel, rfl⟩
def lp_c11_sheet_40 (N : Nat) (a0 : Nat) (x1 : Int32) (x2 : Int32) (x4 : Int32) : Nat → Int32 → Int32 → gH → Option (gH)
  | 0, _, _, _ => none
  | k + 1, x5, x6, h =>
  (gfR h a0 11 0).bind fun v6 =>
    (ga 0 h v6 (40 : Int32)).bind fun v7 =>
    if v7 ≤ x6 then
    some h
  else
    (gfR h a0 11 0).bind fun v12 =>
    (sa 0 h v12 ((32 : Int32) + x6) (if x1 = (3 : Int32) then (0 : Int32) else (if x6 < x2 then gmax (0 : Int32) (gmin (99 : Int32) (if x1 = 0 then x5.toInt8.toInt32 else (if x1 = (1 : Int32) then x5.toInt16.toInt32 else x5))) else (0 : Int32)))).bind fun h16 =>
    lp_c11_sheet_40 N a0 x1 x2 x4 k (x5 + x4) (x6 + (1 : Int32)) h16
def f_c11_sheet (N : Nat) (a0 : Nat) (x1 : Int32) (x2 : Int32) (x3 : Int32) (x4 : Int32) (h : gH) : Option (Int32 × gH) :=
  (gcl h a0 11).bind fun _ =>
  (sf h a0 11 10 (.int (0 : Int32))).bind fun h1 =>
    (f_c11_in N x1 (0 : Int32) (3 : Int32) h1).bind fun q2 =>
    if q2 = 0 then
    some ((-1 : Int32), h1)
  else
    if x2 ≤ (8 : Int32) then
    if (3 : Int32) ≤ x1 then
    (lp_c11_sheet_40 N a0 x1 x2 x4 N x3 (0 : Int32) h1).bind fun o19 =>
    (show Option (Int32) from if x1 = (3 : Int32) then
    some (-3 : Int32)
  else
    (gfR o19 a0 11 0).bind fun v23 =>
    (f_c11_waters N v23 o19).bind fun q24 =>
    some q24).bind fun t21 =>
    some (t21, o19)
  else
    if 0 ≤ x2 then
    (lp_c11_sheet_40 N a0 x1 x2 x4 N x3 (0 : Int32) h1).bind fun o26 =>
    (show Option (Int32) from if x1 = (3 : Int32) then
    some (-3 : Int32)
  else
    (gfR o26 a0 11 0).bind fun v30 =>
    (f_c11_waters N v30 o26).bind fun q31 =>
    some q31).bind fun t28 =>
    some (t28, o26)
  else
    some ((-2 : Int32), h1)
  else
    some ((-1 : Int32), h1)
set_option maxHeartbeats 4000000 in
set_option maxRecDepth 100000 in
theorem wlp_c11_sheet_40 {M : gM} {X : gX} {N : Nat} (hx : gEx X = false) (K : gC M X gN11 b_c11_sheet 8 (gRm (2 + N) 0 0)) (a0 : Nat) (x1 : Int32) (x2 : Int32) (x4 : Int32) : ∀ (k : Nat) (x5 : Int32) (x6 : Int32) (h : gH) (o : gH), lp_c11_sheet_40 N a0 x1 x2 x4 k x5 x6 h = some o → gG M X 8 0 0 126 [(0, .ref a0), (1, .int x1)] [] o → gG M X 8 0 0 40 [(0, .ref a0), (1, .int x1), (2, .int x2), (4, .int x4), (5, .int x5), (6, .int x6)] [] h := by
  intro k
  induction k with
  | zero =>
    intro x5 x6 h o hy
    rw [lp_c11_sheet_40.eq_1] at hy
    cases hy
  | succ k ih =>
    intro x5 x6 h o hy hE
    rw [lp_c11_sheet_40.eq_2] at hy
    refine g_iload K d_c11_sheet_40 5 rfl ?_
    refine g_aload_n K d_c11_sheet_42 0 rfl ?_
    obtain ⟨v6, e_v6, hy⟩ := gBd hy
    refine g_getR K fl_c11_9 d_c11_sheet_43 e_v6 ?_
    refine g_bipush (v := 40) K d_c11_sheet_46 (by decide) ?_
    obtain ⟨v7, e_v7, hy⟩ := gBd hy
    refine g_iald K d_c11_sheet_48 e_v7 ?_
    refine g_icmp_ge K d_c11_sheet_49 (fun c8 => ?_) (fun c8 => ?_)
    · rw [if_pos c8] at hy
      refine g_sub (ls2 := [(0, .ref a0), (1, .int x1)]) [0, 1] rfl ?_
      obtain rfl := Option.some.inj hy
      exact hE
    · rw [if_neg c8] at hy
      refine g_iload_n K d_c11_sheet_52 1 rfl ?_
      have hJ11 : ∀ w10 : Int32, w10 = (if x1 = 0 then x5.toInt8.toInt32 else (if x1 = (1 : Int32) then x5.toInt16.toInt32 else x5)) → gG M X 8 0 0 75 [(0, .ref a0), (1, .int x1), (2, .int x2), (4, .int x4), (5, .int x5), (6, .int x6)] [.int w10] h := by
        intro w10 e_w10
        subst e_w10
        refine g_istore (ls2 := [(7, .int (if x1 = 0 then x5.toInt8.toInt32 else (if x1 = (1 : Int32) then x5.toInt16.toInt32 else x5))), (0, .ref a0), (1, .int x1), (2, .int x2), (4, .int x4), (5, .int x5), (6, .int x6)]) K d_c11_sheet_75 rfl rfl ?_
        refine g_aload_n K d_c11_sheet_77 1 rfl ?_
        obtain ⟨v12, e_v12, hy⟩ := gBd hy
        refine g_getR K fl_c11_9 d_c11_sheet_78 e_v12 ?_
        refine g_bipush (v := 32) K d_c11_sheet_81 (by decide) ?_
        refine g_iload K d_c11_sheet_83 6 rfl ?_
        refine g_iadd K d_c11_sheet_85 ?_
        refine g_iload_n K d_c11_sheet_86 2 rfl ?_
        refine g_iconst (v := 3) K d_c11_sheet_87 (by decide) ?_
        have hJ15 : ∀ w14 : Int32, w14 = (if x1 = (3 : Int32) then (0 : Int32) else (if x6 < x2 then gmax (0 : Int32) (gmin (99 : Int32) (if x1 = 0 then x5.toInt8.toInt32 else (if x1 = (1 : Int32) then x5.toInt16.toInt32 else x5))) else (0 : Int32))) → gG M X 8 0 0 112 [(7, .int (if x1 = 0 then x5.toInt8.toInt32 else (if x1 = (1 : Int32) then x5.toInt16.toInt32 else x5))), (0, .ref a0), (1, .int x1), (2, .int x2), (4, .int x4), (5, .int x5), (6, .int x6)] [.int w14, .int ((32 : Int32) + x6), .ref v12] h := by
          intro w14 e_w14
          subst e_w14
          obtain ⟨h16, e_h16, hy⟩ := gBd hy
          refine g_iast K d_c11_sheet_112 e_h16 ?_
          refine g_iload K d_c11_sheet_113 5 rfl ?_
          refine g_iload K d_c11_sheet_115 4 rfl ?_
          refine g_iadd K d_c11_sheet_117 ?_
          refine g_istore (ls2 := [(5, .int (x5 + x4)), (7, .int (if x1 = 0 then x5.toInt8.toInt32 else (if x1 = (1 : Int32) then x5.toInt16.toInt32 else x5))), (0, .ref a0), (1, .int x1), (2, .int x2), (4, .int x4), (6, .int x6)]) K d_c11_sheet_118 rfl rfl ?_
          refine g_iinc (ls2 := [(6, .int (x6 + (1 : Int32))), (5, .int (x5 + x4)), (7, .int (if x1 = 0 then x5.toInt8.toInt32 else (if x1 = (1 : Int32) then x5.toInt16.toInt32 else x5))), (0, .ref a0), (1, .int x1), (2, .int x2), (4, .int x4)]) (v := 1) K d_c11_sheet_120 6 rfl (by decide) rfl rfl ?_
          refine g_goto K d_c11_sheet_123 ?_
          refine g_sub (ls2 := [(0, .ref a0), (1, .int x1), (2, .int x2), (4, .int x4), (5, .int (x5 + x4)), (6, .int (x6 + (1 : Int32)))]) [3, 4, 5, 6, 1, 0] rfl ?_
          exact ih _ _ _ _ hy hE
        refine g_icmp_eq K d_c11_sheet_88 (fun c13 => ?_) (fun c13 => ?_)
        · refine g_iconst (v := 0) K d_c11_sheet_97 (by decide) ?_
          refine g_goto K d_c11_sheet_98 ?_
          exact hJ15 _ (by rw [if_pos c13])
        · refine g_iload K d_c11_sheet_91 6 rfl ?_
          refine g_iload_n K d_c11_sheet_93 3 rfl ?_
          refine g_icmp_lt K d_c11_sheet_94 (fun c17 => ?_) (fun c17 => ?_)
          · refine g_iconst (v := 0) K d_c11_sheet_101 (by decide) ?_
            refine g_bipush (v := 99) K d_c11_sheet_102 (by decide) ?_
            refine g_iload K d_c11_sheet_104 0 rfl ?_
            refine g_mmin K d_c11_sheet_106 (gTk_6 130 rfl rfl) (gTk_2 41 rfl rfl) (gTk_1 12 rfl rfl) (gTk_2 42 rfl rfl) (gDep1 rfl) (Nat.le_of_ble_eq_true rfl) ⟨Nat.le_refl 0, Nat.le_refl 0⟩ ?_
            refine g_mmax K d_c11_sheet_109 (gTk_6 131 rfl rfl) (gTk_2 82 rfl rfl) (gTk_1 12 rfl rfl) (gTk_2 83 rfl rfl) (gDep1 rfl) (Nat.le_of_ble_eq_true rfl) ⟨Nat.le_refl 0, Nat.le_refl 0⟩ ?_
            exact hJ15 _ (by rw [if_neg c13, if_pos c17])
          · refine g_iconst (v := 0) K d_c11_sheet_97 (by decide) ?_
            refine g_goto K d_c11_sheet_98 ?_
            exact hJ15 _ (by rw [if_neg c13, if_neg c17])
      refine g_if_ne K d_c11_sheet_53 (fun c9 => ?_) (fun c9 => ?_)
      · refine g_iload_n K d_c11_sheet_62 1 rfl ?_
        refine g_iconst (v := 1) K d_c11_sheet_63 (by decide) ?_
        refine g_icmp_ne K d_c11_sheet_64 (fun c18 => ?_) (fun c18 => ?_)
        · refine g_iload K d_c11_sheet_73 4 rfl ?_
          exact hJ11 _ (by rw [if_neg c9, if_neg c18])
        · refine g_iload K d_c11_sheet_67 4 rfl ?_
          refine g_i2s K d_c11_sheet_69 ?_
          refine g_goto K d_c11_sheet_70 ?_
          exact hJ11 _ (by rw [if_neg c9, if_pos c18])
      · refine g_iload K d_c11_sheet_56 4 rfl ?_
        refine g_i2b K d_c11_sheet_58 ?_
        refine g_goto K d_c11_sheet_59 ?_
        exact hJ11 _ (by rw [if_pos c9])
set_option maxHeartbeats 4000000 in
set_option maxRecDepth 100000 in
theorem ct_c11_sheet (l : Launch) (X : gX) (hx : gEx X = false) (N : Nat) (a0 : Nat) (x1 : Int32) (x2 : Int32) (x3 : Int32) (x4 : Int32) (h : gH) (q : Int32 × gH) (hy : f_c11_sheet N a0 x1 x2 x3 x4 h = some q) : gRc y_c11_sheet h a0 ∧ gMi l X y_c11_sheet b_c11_sheet 8 .int (2 + N) 0 0 [.ref a0, .int x1, .int x2, .int x3, .int x4] h q.1 q.2 := by
  unfold f_c11_sheet at hy
  obtain ⟨u0, e_u0, hy⟩ := gBd hy
  cases u0
  refine ⟨Or.inl ⟨11, _, _, e_u0, rfl⟩, gMet_i (lsx := [(0, .ref a0), (1, .int x1), (2, .int x2), (3, .int x3), (4, .int x4)]) (by decide) rfl rfl ?_⟩
  intro M hMl K hret
  subst hMl
  refine g_aload_n K d_c11_sheet_0 0 rfl ?_
  refine g_iconst (v := 0) K d_c11_sheet_1 (by decide) ?_
  obtain ⟨h1, e_h1, hy⟩ := gBd hy
  refine g_putI K fp_c11_95 d_c11_sheet_2 e_h1 ?_
  refine g_iload_n K d_c11_sheet_5 1 rfl ?_
  refine g_iconst (v := 0) K d_c11_sheet_6 (by decide) ?_
  refine g_iconst (v := 3) K d_c11_sheet_7 (by decide) ?_
  obtain ⟨q2, e_q2, hy⟩ := gBd hy
  refine g_callSi (rest := []) K hx ly_c11_in ks_c11_105 d_c11_sheet_8 (ct_c11_in M.2.1 X hx N x1 (0 : Int32) (3 : Int32) h1 q2 e_q2) rfl rfl (Nat.le_of_ble_eq_true rfl) (gDep rfl) ⟨Nat.le_refl 0, Nat.le_refl 0⟩ ?_
  refine g_if_eq K d_c11_sheet_11 (fun c3 => ?_) (fun c3 => ?_)
  · rw [if_pos c3] at hy
    refine g_iconst (v := (-1)) K d_c11_sheet_20 (by decide) ?_
    obtain rfl := Option.some.inj hy
    exact hret rfl _ _ _ d_c11_sheet_21
  · rw [if_neg c3] at hy
    refine g_iload_n K d_c11_sheet_14 2 rfl ?_
    refine g_bipush (v := 8) K d_c11_sheet_15 (by decide) ?_
    refine g_icmp_le K d_c11_sheet_17 (fun c4 => ?_) (fun c4 => ?_)
    · rw [if_pos c4] at hy
      refine g_iload_n K d_c11_sheet_22 1 rfl ?_
      refine g_iconst (v := 3) K d_c11_sheet_23 (by decide) ?_
      refine g_icmp_ge K d_c11_sheet_24 (fun c5 => ?_) (fun c5 => ?_)
      · rw [if_pos c5] at hy
        refine g_iload_n K d_c11_sheet_34 3 rfl ?_
        refine g_istore (ls2 := [(5, .int x3), (0, .ref a0), (1, .int x1), (2, .int x2), (3, .int x3), (4, .int x4)]) K d_c11_sheet_35 rfl rfl ?_
        refine g_iconst (v := 0) K d_c11_sheet_37 (by decide) ?_
        refine g_istore (ls2 := [(6, .int (0 : Int32)), (5, .int x3), (0, .ref a0), (1, .int x1), (2, .int x2), (3, .int x3), (4, .int x4)]) K d_c11_sheet_38 rfl rfl ?_
        obtain ⟨o19, e_o19, hy⟩ := gBd hy
        refine g_sub (ls2 := [(0, .ref a0), (1, .int x1), (2, .int x2), (4, .int x4), (5, .int x3), (6, .int (0 : Int32))]) [2, 3, 4, 6, 1, 0] rfl ?_
        refine wlp_c11_sheet_40 hx K a0 x1 x2 x4 N x3 (0 : Int32) h1 o19 e_o19 ?_
        refine g_iload_n K d_c11_sheet_126 1 rfl ?_
        refine g_iconst (v := 3) K d_c11_sheet_127 (by decide) ?_
        obtain ⟨t21, e_t21, hy⟩ := gBd hy
        have hJ22 : gG M X 8 0 0 143 [] [.int t21] o19 := by
          obtain rfl := Option.some.inj hy
          exact hret rfl _ _ _ d_c11_sheet_143
        refine g_icmp_ne K d_c11_sheet_128 (fun c20 => ?_) (fun c20 => ?_)
        · rw [if_neg c20] at e_t21
          refine g_aload_n K d_c11_sheet_136 0 rfl ?_
          obtain ⟨v23, e_v23, e_t21⟩ := gBd e_t21
          refine g_getR K fl_c11_9 d_c11_sheet_137 e_v23 ?_
          obtain ⟨q24, e_q24, e_t21⟩ := gBd e_t21
          refine g_callSi (rest := []) K hx ly_c11_waters ks_c11_249 d_c11_sheet_140 (ct_c11_waters M.2.1 X hx N v23 o19 q24 e_q24) rfl rfl (Nat.le_of_ble_eq_true rfl) (gDep rfl) ⟨Nat.le_refl 0, Nat.le_refl 0⟩ ?_
          refine g_sub (ls2 := []) [] rfl ?_
          obtain rfl := Option.some.inj e_t21
          exact hJ22
        · rw [if_pos c20] at e_t21
          refine g_bipush (v := (-3)) K d_c11_sheet_131 (by decide) ?_
          refine g_goto K d_c11_sheet_133 ?_
          refine g_sub (ls2 := []) [] rfl ?_
          obtain rfl := Option.some.inj e_t21
          exact hJ22
      · rw [if_neg c5] at hy
        refine g_iload_n K d_c11_sheet_27 2 rfl ?_
        refine g_if_ge K d_c11_sheet_28 (fun c25 => ?_) (fun c25 => ?_)
        · rw [if_pos c25] at hy
          refine g_iload_n K d_c11_sheet_34 3 rfl ?_
          refine g_istore (ls2 := [(5, .int x3), (0, .ref a0), (1, .int x1), (2, .int x2), (3, .int x3), (4, .int x4)]) K d_c11_sheet_35 rfl rfl ?_
          refine g_iconst (v := 0) K d_c11_sheet_37 (by decide) ?_
          refine g_istore (ls2 := [(6, .int (0 : Int32)), (5, .int x3), (0, .ref a0), (1, .int x1), (2, .int x2), (3, .int x3), (4, .int x4)]) K d_c11_sheet_38 rfl rfl ?_
          obtain ⟨o26, e_o26, hy⟩ := gBd hy
          refine g_sub (ls2 := [(0, .ref a0), (1, .int x1), (2, .int x2), (4, .int x4), (5, .int x3), (6, .int (0 : Int32))]) [2, 3, 4, 6, 1, 0] rfl ?_
          refine wlp_c11_sheet_40 hx K a0 x1 x2 x4 N x3 (0 : Int32) h1 o26 e_o26 ?_
          refine g_iload_n K d_c11_sheet_126 1 rfl ?_
          refine g_iconst (v := 3) K d_c11_sheet_127 (by decide) ?_
          obtain ⟨t28, e_t28, hy⟩ := gBd hy
          have hJ29 : gG M X 8 0 0 143 [] [.int t28] o26 := by
            obtain rfl := Option.some.inj hy
            exact hret rfl _ _ _ d_c11_sheet_143
          refine g_icmp_ne K d_c11_sheet_128 (fun c27 => ?_) (fun c27 => ?_)
          · rw [if_neg c27] at e_t28
            refine g_aload_n K d_c11_sheet_136 0 rfl ?_
            obtain ⟨v30, e_v30, e_t28⟩ := gBd e_t28
            refine g_getR K fl_c11_9 d_c11_sheet_137 e_v30 ?_
            obtain ⟨q31, e_q31, e_t28⟩ := gBd e_t28
            refine g_callSi (rest := []) K hx ly_c11_waters ks_c11_249 d_c11_sheet_140 (ct_c11_waters M.2.1 X hx N v30 o26 q31 e_q31) rfl rfl (Nat.le_of_ble_eq_true rfl) (gDep rfl) ⟨Nat.le_refl 0, Nat.le_refl 0⟩ ?_
            refine g_sub (ls2 := []) [] rfl ?_
            obtain rfl := Option.some.inj e_t28
            exact hJ29
          · rw [if_pos c27] at e_t28
            refine g_bipush (v := (-3)) K d_c11_sheet_131 (by decide) ?_
            refine g_goto K d_c11_sheet_133 ?_
            refine g_sub (ls2 := []) [] rfl ?_
            obtain rfl := Option.some.inj e_t28
            exact hJ29
        · rw [if_neg c25] at hy
          refine g_bipush (v := (-2)) K d_c11_sheet_31 (by decide) ?_
          obtain rfl := Option.some.inj hy
          exact hret rfl _ _ _ d_c11_sheet_33
    · rw [if_neg c4] at hy
      refine g_iconst (v := (-1)) K d_c11_sheet_20 (by decide) ?_
      obtain rfl := Option.some.inj hy
      exact hret rfl _ _ _ d_c11_sheet_21
-- c11 squares
theorem d_c11_squares_0 : gD b_c11_squares 0 (.aload_n 0) 1 1 := ⟨by decide +kernel, rfl⟩
theorem d_c11_squares_1 : gD b_c11_squares 1 (.iconst 0) 1 2 := ⟨by decide +kernel, rfl⟩
theorem d_c11_squares_2 : gD b_c11_squares 2 (.putfield 95) 3 5 := ⟨by decide +kernel, rfl⟩
theorem d_c11_squares_5 : gD b_c11_squares 5 (.iload_n 1) 1 6 := ⟨by decide +kernel, rfl⟩
theorem d_c11_squares_6 : gD b_c11_squares 6 (.iconst 0) 1 7 := ⟨by decide +kernel, rfl⟩
theorem d_c11_squares_7 : gD b_c11_squares 7 (.bipush 60) 2 9 := ⟨by decide +kernel, rfl⟩
theorem d_c11_squares_9 : gD b_c11_squares 9 (.invokestatic 105) 3 12 := ⟨by decide +kernel, rfl⟩
theorem d_c11_squares_12 : gJ b_c11_squares 12 (.ifCond .ne 5) 3 5 15 17 := ⟨by decide +kernel, rfl, by decide⟩
theorem d_c11_squares_15 : gD b_c11_squares 15 (.iconst (-1)) 1 16 := ⟨by decide +kernel, rfl⟩
theorem d_c11_squares_16 : gD b_c11_squares 16 .ireturn 1 17 := ⟨by decide +kernel, rfl⟩
theorem d_c11_squares_17 : gD b_c11_squares 17 (.iconst 0) 1 18 := ⟨by decide +kernel, rfl⟩
theorem d_c11_squares_18 : gD b_c11_squares 18 (.istore_n 2) 1 19 := ⟨by decide +kernel, rfl⟩
theorem d_c11_squares_19 : gD b_c11_squares 19 (.iload_n 2) 1 20 := ⟨by decide +kernel, rfl⟩
theorem d_c11_squares_20 : gD b_c11_squares 20 (.iload_n 1) 1 21 := ⟨by decide +kernel, rfl⟩
theorem d_c11_squares_21 : gJ b_c11_squares 21 (.if_icmp .gt 28) 3 28 24 49 := ⟨by decide +kernel, rfl, by decide⟩
theorem d_c11_squares_24 : gD b_c11_squares 24 (.aload_n 0) 1 25 := ⟨by decide +kernel, rfl⟩
theorem d_c11_squares_25 : gD b_c11_squares 25 (.getfield 82) 3 28 := ⟨by decide +kernel, rfl⟩
theorem d_c11_squares_28 : gD b_c11_squares 28 (.iload_n 2) 1 29 := ⟨by decide +kernel, rfl⟩
theorem d_c11_squares_29 : gD b_c11_squares 29 (.aload_n 0) 1 30 := ⟨by decide +kernel, rfl⟩
theorem d_c11_squares_30 : gD b_c11_squares 30 (.iload_n 2) 1 31 := ⟨by decide +kernel, rfl⟩
theorem d_c11_squares_31 : gD b_c11_squares 31 (.invokevirtual 362) 3 34 := ⟨by decide +kernel, rfl⟩
theorem d_c11_squares_34 : gJ b_c11_squares 34 (.ifCond .le 7) 3 7 37 41 := ⟨by decide +kernel, rfl, by decide⟩
theorem d_c11_squares_37 : gD b_c11_squares 37 (.iconst 1) 1 38 := ⟨by decide +kernel, rfl⟩
theorem d_c11_squares_38 : gJ b_c11_squares 38 (.goto 4) 3 4 41 42 := ⟨by decide +kernel, rfl, by decide⟩
theorem d_c11_squares_41 : gD b_c11_squares 41 (.iconst 0) 1 42 := ⟨by decide +kernel, rfl⟩
theorem d_c11_squares_42 : gD b_c11_squares 42 .bastore 1 43 := ⟨by decide +kernel, rfl⟩
theorem d_c11_squares_43 : gD b_c11_squares 43 (.iinc 2 1) 3 46 := ⟨by decide +kernel, rfl⟩
theorem d_c11_squares_46 : gJ b_c11_squares 46 (.goto (-27)) 3 (-27) 49 19 := ⟨by decide +kernel, rfl, by decide⟩
theorem d_c11_squares_49 : gD b_c11_squares 49 (.aload_n 0) 1 50 := ⟨by decide +kernel, rfl⟩
theorem d_c11_squares_50 : gD b_c11_squares 50 (.iconst 0) 1 51 := ⟨by decide +kernel, rfl⟩
theorem d_c11_squares_51 : gD b_c11_squares 51 (.putfield 98) 3 54 := ⟨by decide +kernel, rfl⟩
theorem d_c11_squares_54 : gD b_c11_squares 54 (.aload_n 0) 1 55 := ⟨by decide +kernel, rfl⟩
theorem d_c11_squares_55 : gD b_c11_squares 55 (.getfield 82) 3 58 := ⟨by decide +kernel, rfl⟩
theorem d_c11_squares_58 : gD b_c11_squares 58 (.iload_n 1) 1 59 := ⟨by decide +kernel, rfl⟩
theorem d_c11_squares_59 : gD b_c11_squares 59 .baload 1 60 := ⟨by decide +kernel, rfl⟩
theorem d_c11_squares_60 : gJ b_c11_squares 60 (.ifCond .ne 5) 3 5 63 65 := ⟨by decide +kernel, rfl, by decide⟩
theorem d_c11_squares_63 : gD b_c11_squares 63 (.iconst 0) 1 64 := ⟨by decide +kernel, rfl⟩
theorem d_c11_squares_64 : gD b_c11_squares 64 .ireturn 1 65 := ⟨by decide +kernel, rfl⟩
theorem d_c11_squares_65 : gD b_c11_squares 65 (.aload_n 0) 1 66 := ⟨by decide +kernel, rfl⟩
theorem d_c11_squares_66 : gD b_c11_squares 66 (.aload_n 0) 1 67 := ⟨by decide +kernel, rfl⟩
theorem d_c11_squares_67 : gD b_c11_squares 67 (.iload_n 1) 1 68 := ⟨by decide +kernel, rfl⟩
theorem d_c11_squares_68 : gD b_c11_squares 68 (.invokevirtual 362) 3 71 := ⟨by decide +kernel, rfl⟩
theorem d_c11_squares_71 : gD b_c11_squares 71 .i2l 1 72 := ⟨by decide +kernel, rfl⟩
theorem d_c11_squares_72 : gD b_c11_squares 72 (.invokevirtual 268) 3 75 := ⟨by decide +kernel, rfl⟩
theorem d_c11_squares_75 : gD b_c11_squares 75 (.iconst 1) 1 76 := ⟨by decide +kernel, rfl⟩
theorem d_c11_squares_76 : gD b_c11_squares 76 .ireturn 1 77 := ⟨by decide +kernel, rfl⟩
def lp_c11_squares_19 (N : Nat) (a0 : Nat) (x1 : Int32) : Nat → Int32 → gH → Option (gH)
  | 0, _, _ => none
  | k + 1, x2, h =>
  if x1 < x2 then
    some h
  else
    (gfR h a0 11 36).bind fun v5 =>
    (f_c11_takesOf N a0 x2 h).bind fun q6 =>
    (saB h v5 x2 (if q6 ≤ 0 then (0 : Int32) else (1 : Int32))).bind fun h10 =>
    lp_c11_squares_19 N a0 x1 k (x2 + (1 : Int32)) h10
def f_c11_squares (N : Nat) (a0 : Nat) (x1 : Int32) (h : gH) : Option (Int32 × gH) :=
  (gcl h a0 11).bind fun _ =>
  (sf h a0 11 10 (.int (0 : Int32))).bind fun h1 =>
    (f_c11_in N x1 (0 : Int32) (60 : Int32) h1).bind fun q2 =>
    if q2 = 0 then
    some ((-1 : Int32), h1)
  else
    (lp_c11_squares_19 N a0 x1 N (0 : Int32) h1).bind fun o11 =>
    (sf o11 a0 11 9 (.int (0 : Int32))).bind fun h12 =>
    (gfR h12 a0 11 36).bind fun v13 =>
    (gaB h12 v13 x1).bind fun v14 =>
    if v14 = 0 then
    some ((0 : Int32), h12)
  else
    (f_c11_takesOf N a0 x1 h12).bind fun q16 =>
    (f_c11_tell N a0 q16.toInt64 h12).bind fun q17 =>
    some ((1 : Int32), q17)
set_option maxHeartbeats 4000000 in
set_option maxRecDepth 100000 in
theorem wlp_c11_squares_19 {M : gM} {X : gX} {N : Nat} (hx : gEx X = false) (K : gC M X gN11 b_c11_squares 3 (gRm (2 + N) 0 0)) (a0 : Nat) (x1 : Int32) : ∀ (k : Nat) (x2 : Int32) (h : gH) (o : gH), lp_c11_squares_19 N a0 x1 k x2 h = some o → gG M X 3 0 0 49 [(0, .ref a0), (1, .int x1)] [] o → gG M X 3 0 0 19 [(0, .ref a0), (1, .int x1), (2, .int x2)] [] h := by
  intro k
  induction k with
  | zero =>
    intro x2 h o hy
    rw [lp_c11_squares_19.eq_1] at hy
    cases hy
  | succ k ih =>
    intro x2 h o hy hE
    rw [lp_c11_squares_19.eq_2] at hy
    refine g_iload_n K d_c11_squares_19 2 rfl ?_
    refine g_iload_n K d_c11_squares_20 1 rfl ?_
    refine g_icmp_gt K d_c11_squares_21 (fun c4 => ?_) (fun c4 => ?_)
    · rw [if_pos c4] at hy
      refine g_sub (ls2 := [(0, .ref a0), (1, .int x1)]) [0, 1] rfl ?_
      obtain rfl := Option.some.inj hy
      exact hE
    · rw [if_neg c4] at hy
      refine g_aload_n K d_c11_squares_24 0 rfl ?_
      obtain ⟨v5, e_v5, hy⟩ := gBd hy
      refine g_getR K fl_c11_82 d_c11_squares_25 e_v5 ?_
      refine g_iload_n K d_c11_squares_28 2 rfl ?_
      refine g_aload_n K d_c11_squares_29 0 rfl ?_
      refine g_iload_n K d_c11_squares_30 2 rfl ?_
      obtain ⟨q6, e_q6, hy⟩ := gBd hy
      refine g_callVi (rest := [.int x2, .ref v5]) K hx ly_c11_takesOf kv_c11_362 d_c11_squares_31 (ct_c11_takesOf M.2.1 X hx N a0 x2 h q6 e_q6) rfl rfl (Nat.le_of_ble_eq_true rfl) (gDep rfl) ⟨Nat.le_refl 0, Nat.le_refl 0⟩ ?_
      have hJ9 : ∀ w8 : Int32, w8 = (if q6 ≤ 0 then (0 : Int32) else (1 : Int32)) → gG M X 3 0 0 42 [(0, .ref a0), (1, .int x1), (2, .int x2)] [.int w8, .int x2, .ref v5] h := by
        intro w8 e_w8
        subst e_w8
        obtain ⟨h10, e_h10, hy⟩ := gBd hy
        refine g_bast K d_c11_squares_42 e_h10 ?_
        refine g_iinc (ls2 := [(2, .int (x2 + (1 : Int32))), (0, .ref a0), (1, .int x1)]) (v := 1) K d_c11_squares_43 2 rfl (by decide) rfl rfl ?_
        refine g_goto K d_c11_squares_46 ?_
        refine g_sub (ls2 := [(0, .ref a0), (1, .int x1), (2, .int (x2 + (1 : Int32)))]) [1, 2, 0] rfl ?_
        exact ih _ _ _ hy hE
      refine g_if_le K d_c11_squares_34 (fun c7 => ?_) (fun c7 => ?_)
      · refine g_iconst (v := 0) K d_c11_squares_41 (by decide) ?_
        exact hJ9 _ (by rw [if_pos c7])
      · refine g_iconst (v := 1) K d_c11_squares_37 (by decide) ?_
        refine g_goto K d_c11_squares_38 ?_
        exact hJ9 _ (by rw [if_neg c7])
set_option maxHeartbeats 4000000 in
set_option maxRecDepth 100000 in
theorem ct_c11_squares (l : Launch) (X : gX) (hx : gEx X = false) (N : Nat) (a0 : Nat) (x1 : Int32) (h : gH) (q : Int32 × gH) (hy : f_c11_squares N a0 x1 h = some q) : gRc y_c11_squares h a0 ∧ gMi l X y_c11_squares b_c11_squares 3 .int (2 + N) 0 0 [.ref a0, .int x1] h q.1 q.2 := by
  unfold f_c11_squares at hy
  obtain ⟨u0, e_u0, hy⟩ := gBd hy
  cases u0
  refine ⟨Or.inl ⟨11, _, _, e_u0, rfl⟩, gMet_i (lsx := [(0, .ref a0), (1, .int x1)]) (by decide) rfl rfl ?_⟩
  intro M hMl K hret
  subst hMl
  refine g_aload_n K d_c11_squares_0 0 rfl ?_
  refine g_iconst (v := 0) K d_c11_squares_1 (by decide) ?_
  obtain ⟨h1, e_h1, hy⟩ := gBd hy
  refine g_putI K fp_c11_95 d_c11_squares_2 e_h1 ?_
  refine g_iload_n K d_c11_squares_5 1 rfl ?_
  refine g_iconst (v := 0) K d_c11_squares_6 (by decide) ?_
  refine g_bipush (v := 60) K d_c11_squares_7 (by decide) ?_
  obtain ⟨q2, e_q2, hy⟩ := gBd hy
  refine g_callSi (rest := []) K hx ly_c11_in ks_c11_105 d_c11_squares_9 (ct_c11_in M.2.1 X hx N x1 (0 : Int32) (60 : Int32) h1 q2 e_q2) rfl rfl (Nat.le_of_ble_eq_true rfl) (gDep rfl) ⟨Nat.le_refl 0, Nat.le_refl 0⟩ ?_
  refine g_if_ne K d_c11_squares_12 (fun c3 => ?_) (fun c3 => ?_)
  · rw [if_neg c3] at hy
    refine g_iconst (v := 0) K d_c11_squares_17 (by decide) ?_
    refine g_istore_n (ls2 := [(2, .int (0 : Int32)), (0, .ref a0), (1, .int x1)]) K d_c11_squares_18 rfl rfl ?_
    obtain ⟨o11, e_o11, hy⟩ := gBd hy
    refine g_sub (ls2 := [(0, .ref a0), (1, .int x1), (2, .int (0 : Int32))]) [1, 2, 0] rfl ?_
    refine wlp_c11_squares_19 hx K a0 x1 N (0 : Int32) h1 o11 e_o11 ?_
    refine g_aload_n K d_c11_squares_49 0 rfl ?_
    refine g_iconst (v := 0) K d_c11_squares_50 (by decide) ?_
    obtain ⟨h12, e_h12, hy⟩ := gBd hy
    refine g_putI K fp_c11_98 d_c11_squares_51 e_h12 ?_
    refine g_aload_n K d_c11_squares_54 0 rfl ?_
    obtain ⟨v13, e_v13, hy⟩ := gBd hy
    refine g_getR K fl_c11_82 d_c11_squares_55 e_v13 ?_
    refine g_iload_n K d_c11_squares_58 1 rfl ?_
    obtain ⟨v14, e_v14, hy⟩ := gBd hy
    refine g_bald K d_c11_squares_59 e_v14 ?_
    refine g_if_ne K d_c11_squares_60 (fun c15 => ?_) (fun c15 => ?_)
    · rw [if_neg c15] at hy
      refine g_aload_n K d_c11_squares_65 0 rfl ?_
      refine g_aload_n K d_c11_squares_66 0 rfl ?_
      refine g_iload_n K d_c11_squares_67 1 rfl ?_
      obtain ⟨q16, e_q16, hy⟩ := gBd hy
      refine g_callVi (rest := [.ref a0]) K hx ly_c11_takesOf kv_c11_362 d_c11_squares_68 (ct_c11_takesOf M.2.1 X hx N a0 x1 h12 q16 e_q16) rfl rfl (Nat.le_of_ble_eq_true rfl) (gDep rfl) ⟨Nat.le_refl 0, Nat.le_refl 0⟩ ?_
      refine g_i2l K d_c11_squares_71 ?_
      obtain ⟨q17, e_q17, hy⟩ := gBd hy
      refine g_callVv (rest := []) K hx ly_c11_tell kv_c11_268 d_c11_squares_72 (ct_c11_tell M.2.1 X hx N a0 q16.toInt64 h12 q17 e_q17) rfl rfl (Nat.le_of_ble_eq_true rfl) (gDep rfl) ⟨Nat.le_refl 0, Nat.le_refl 0⟩ ?_
      refine g_iconst (v := 1) K d_c11_squares_75 (by decide) ?_
      obtain rfl := Option.some.inj hy
      exact hret rfl _ _ _ d_c11_squares_76
    · rw [if_pos c15] at hy
      refine g_iconst (v := 0) K d_c11_squares_63 (by decide) ?_
      obtain rfl := Option.some.inj hy
      exact hret rfl _ _ _ d_c11_squares_64
  · rw [if_pos c3] at hy
    refine g_iconst (v := (-1)) K d_c11_squares_15 (by decide) ?_
    obtain rfl := Option.some.inj hy
    exact hret rfl _ _ _ d_c11_squares_16
-- c11 takes
theorem d_c11_takes_0 : gD b_c11_takes 0 (.iload_n 1) 1 1 := ⟨by decide +kernel, rfl⟩
theorem d_c11_takes_1 : gJ b_c11_takes 1 (.ifCond .ne 5) 3 5 4 6 := ⟨by decide +kernel, rfl, by decide⟩
theorem d_c11_takes_4 : gD b_c11_takes 4 (.iconst 0) 1 5 := ⟨by decide +kernel, rfl⟩
theorem d_c11_takes_5 : gD b_c11_takes 5 .ireturn 1 6 := ⟨by decide +kernel, rfl⟩
theorem d_c11_takes_6 : gD b_c11_takes 6 (.iconst 0) 1 7 := ⟨by decide +kernel, rfl⟩
theorem d_c11_takes_7 : gD b_c11_takes 7 (.istore_n 3) 1 8 := ⟨by decide +kernel, rfl⟩
theorem d_c11_takes_8 : gD b_c11_takes 8 (.iconst 0) 1 9 := ⟨by decide +kernel, rfl⟩
theorem d_c11_takes_9 : gD b_c11_takes 9 (.istore 4) 2 11 := ⟨by decide +kernel, rfl⟩
theorem d_c11_takes_11 : gD b_c11_takes 11 (.iload 4) 2 13 := ⟨by decide +kernel, rfl⟩
theorem d_c11_takes_13 : gD b_c11_takes 13 (.iload_n 1) 1 14 := ⟨by decide +kernel, rfl⟩
theorem d_c11_takes_14 : gJ b_c11_takes 14 (.if_icmp .ge 21) 3 21 17 35 := ⟨by decide +kernel, rfl, by decide⟩
theorem d_c11_takes_17 : gD b_c11_takes 17 (.iload_n 3) 1 18 := ⟨by decide +kernel, rfl⟩
theorem d_c11_takes_18 : gD b_c11_takes 18 (.aload_n 0) 1 19 := ⟨by decide +kernel, rfl⟩
theorem d_c11_takes_19 : gD b_c11_takes 19 (.getfield 34) 3 22 := ⟨by decide +kernel, rfl⟩
theorem d_c11_takes_22 : gD b_c11_takes 22 (.iload 4) 2 24 := ⟨by decide +kernel, rfl⟩
theorem d_c11_takes_24 : gD b_c11_takes 24 .iaload 1 25 := ⟨by decide +kernel, rfl⟩
theorem d_c11_takes_25 : gD b_c11_takes 25 (.invokestatic 227) 3 28 := ⟨by decide +kernel, rfl⟩
theorem d_c11_takes_28 : gD b_c11_takes 28 (.istore_n 3) 1 29 := ⟨by decide +kernel, rfl⟩
theorem d_c11_takes_29 : gD b_c11_takes 29 (.iinc 4 1) 3 32 := ⟨by decide +kernel, rfl⟩
theorem d_c11_takes_32 : gJ b_c11_takes 32 (.goto (-21)) 3 (-21) 35 11 := ⟨by decide +kernel, rfl, by decide⟩
theorem d_c11_takes_35 : gD b_c11_takes 35 (.iload_n 1) 1 36 := ⟨by decide +kernel, rfl⟩
theorem d_c11_takes_36 : gD b_c11_takes 36 (.istore 4) 2 38 := ⟨by decide +kernel, rfl⟩
theorem d_c11_takes_38 : gD b_c11_takes 38 (.iload 4) 2 40 := ⟨by decide +kernel, rfl⟩
theorem d_c11_takes_40 : gD b_c11_takes 40 (.iload_n 2) 1 41 := ⟨by decide +kernel, rfl⟩
theorem d_c11_takes_41 : gJ b_c11_takes 41 (.if_icmp .ge 23) 3 23 44 64 := ⟨by decide +kernel, rfl, by decide⟩
theorem d_c11_takes_44 : gD b_c11_takes 44 (.aload_n 0) 1 45 := ⟨by decide +kernel, rfl⟩
theorem d_c11_takes_45 : gD b_c11_takes 45 (.getfield 34) 3 48 := ⟨by decide +kernel, rfl⟩
theorem d_c11_takes_48 : gD b_c11_takes 48 (.iload 4) 2 50 := ⟨by decide +kernel, rfl⟩
theorem d_c11_takes_50 : gD b_c11_takes 50 .iaload 1 51 := ⟨by decide +kernel, rfl⟩
theorem d_c11_takes_51 : gD b_c11_takes 51 (.iload_n 3) 1 52 := ⟨by decide +kernel, rfl⟩
theorem d_c11_takes_52 : gJ b_c11_takes 52 (.if_icmp .le 6) 3 6 55 58 := ⟨by decide +kernel, rfl, by decide⟩
theorem d_c11_takes_55 : gD b_c11_takes 55 (.iload 4) 2 57 := ⟨by decide +kernel, rfl⟩
theorem d_c11_takes_57 : gD b_c11_takes 57 .ireturn 1 58 := ⟨by decide +kernel, rfl⟩
theorem d_c11_takes_58 : gD b_c11_takes 58 (.iinc 4 1) 3 61 := ⟨by decide +kernel, rfl⟩
theorem d_c11_takes_61 : gJ b_c11_takes 61 (.goto (-23)) 3 (-23) 64 38 := ⟨by decide +kernel, rfl, by decide⟩
theorem d_c11_takes_64 : gD b_c11_takes 64 (.iload_n 2) 1 65 := ⟨by decide +kernel, rfl⟩
theorem d_c11_takes_65 : gD b_c11_takes 65 (.iconst 1) 1 66 := ⟨by decide +kernel, rfl⟩
theorem d_c11_takes_66 : gD b_c11_takes 66 .isub 1 67 := ⟨by decide +kernel, rfl⟩
theorem d_c11_takes_67 : gD b_c11_takes 67 .ireturn 1 68 := ⟨by decide +kernel, rfl⟩
def lp_c11_takes_11 (N : Nat) (a0 : Nat) (x1 : Int32) (h : gH) : Nat → Int32 → Int32 → Option (Int32)
  | 0, _, _ => none
  | k + 1, x3, x4 =>
  if x1 ≤ x4 then
    some x3
  else
    (gfR h a0 11 16).bind fun v3 =>
    (ga 0 h v3 x4).bind fun v4 =>
    lp_c11_takes_11 N a0 x1 h k (gmax x3 v4) (x4 + (1 : Int32))
def lp_c11_takes_38 (N : Nat) (a0 : Nat) (x2 : Int32) (x3 : Int32) (h : gH) : Nat → Int32 → Option ((Int32) ⊕ (Unit))
  | 0, _ => none
  | k + 1, x4 =>
  if x2 ≤ x4 then
    some (.inr ())
  else
    (gfR h a0 11 16).bind fun v7 =>
    (ga 0 h v7 x4).bind fun v8 =>
    if v8 ≤ x3 then
    lp_c11_takes_38 N a0 x2 x3 h k (x4 + (1 : Int32))
  else
    some (.inl x4)
def f_c11_takes (N : Nat) (a0 : Nat) (x1 : Int32) (x2 : Int32) (h : gH) : Option (Int32) :=
  (gcl h a0 11).bind fun _ =>
  if x1 = 0 then
    some (0 : Int32)
  else
    (lp_c11_takes_11 N a0 x1 h N (0 : Int32) (0 : Int32)).bind fun o5 =>
    (lp_c11_takes_38 N a0 x2 o5 h N x1).bind fun o10 => Sum.elim (fun r12 => some r12) (fun t11 =>
    some (x2 - (1 : Int32))) o10
set_option maxHeartbeats 4000000 in
set_option maxRecDepth 100000 in
theorem wlp_c11_takes_11 {M : gM} {X : gX} {N : Nat} (hx : gEx X = false) (K : gC M X gN11 b_c11_takes 5 (gRm (2 + N) 0 0)) (a0 : Nat) (x1 : Int32) (x2 : Int32) (h : gH) : ∀ (k : Nat) (x3 : Int32) (x4 : Int32) (o : Int32), lp_c11_takes_11 N a0 x1 h k x3 x4 = some o → gG M X 5 0 0 35 [(0, .ref a0), (1, .int x1), (2, .int x2), (3, .int o)] [] h → gG M X 5 0 0 11 [(0, .ref a0), (1, .int x1), (2, .int x2), (3, .int x3), (4, .int x4)] [] h := by
  intro k
  induction k with
  | zero =>
    intro x3 x4 o hy
    rw [lp_c11_takes_11.eq_1] at hy
    cases hy
  | succ k ih =>
    intro x3 x4 o hy hE
    rw [lp_c11_takes_11.eq_2] at hy
    refine g_iload K d_c11_takes_11 4 rfl ?_
    refine g_iload_n K d_c11_takes_13 1 rfl ?_
    refine g_icmp_ge K d_c11_takes_14 (fun c2 => ?_) (fun c2 => ?_)
    · rw [if_pos c2] at hy
      refine g_sub (ls2 := [(0, .ref a0), (1, .int x1), (2, .int x2), (3, .int x3)]) [0, 1, 2, 3] rfl ?_
      obtain rfl := Option.some.inj hy
      exact hE
    · rw [if_neg c2] at hy
      refine g_iload_n K d_c11_takes_17 3 rfl ?_
      refine g_aload_n K d_c11_takes_18 0 rfl ?_
      obtain ⟨v3, e_v3, hy⟩ := gBd hy
      refine g_getR K fl_c11_34 d_c11_takes_19 e_v3 ?_
      refine g_iload K d_c11_takes_22 4 rfl ?_
      obtain ⟨v4, e_v4, hy⟩ := gBd hy
      refine g_iald K d_c11_takes_24 e_v4 ?_
      refine g_mmax K d_c11_takes_25 (gTk_6 131 rfl rfl) (gTk_2 82 rfl rfl) (gTk_1 12 rfl rfl) (gTk_2 83 rfl rfl) (gDep1 rfl) (Nat.le_of_ble_eq_true rfl) ⟨Nat.le_refl 0, Nat.le_refl 0⟩ ?_
      refine g_istore_n (ls2 := [(3, .int (gmax x3 v4)), (0, .ref a0), (1, .int x1), (2, .int x2), (4, .int x4)]) K d_c11_takes_28 rfl rfl ?_
      refine g_iinc (ls2 := [(4, .int (x4 + (1 : Int32))), (3, .int (gmax x3 v4)), (0, .ref a0), (1, .int x1), (2, .int x2)]) (v := 1) K d_c11_takes_29 4 rfl (by decide) rfl rfl ?_
      refine g_goto K d_c11_takes_32 ?_
      refine g_sub (ls2 := [(0, .ref a0), (1, .int x1), (2, .int x2), (3, .int (gmax x3 v4)), (4, .int (x4 + (1 : Int32)))]) [2, 3, 4, 1, 0] rfl ?_
      exact ih _ _ _ hy hE
set_option maxHeartbeats 4000000 in
set_option maxRecDepth 100000 in
theorem wlp_c11_takes_38 {M : gM} {X : gX} {N : Nat} (hx : gEx X = false) (K : gC M X gN11 b_c11_takes 5 (gRm (2 + N) 0 0)) (a0 : Nat) (x2 : Int32) (x3 : Int32) (h : gH) : ∀ (k : Nat) (x4 : Int32) (o : (Int32) ⊕ (Unit)), lp_c11_takes_38 N a0 x2 x3 h k x4 = some o → (∀ t, o = .inr t → gG M X 5 0 0 64 [(2, .int x2)] [] h) → (∀ r, o = .inl r → (narrow .int (.int r) = .int r → ∀ pc pc' ls, gD b_c11_takes pc .ireturn 1 pc' → gG M X 5 0 0 pc ls [.int r] h)) → gG M X 5 0 0 38 [(0, .ref a0), (2, .int x2), (3, .int x3), (4, .int x4)] [] h := by
  intro k
  induction k with
  | zero =>
    intro x4 o hy
    rw [lp_c11_takes_38.eq_1] at hy
    cases hy
  | succ k ih =>
    intro x4 o hy hE hR
    rw [lp_c11_takes_38.eq_2] at hy
    refine g_iload K d_c11_takes_38 3 rfl ?_
    refine g_iload_n K d_c11_takes_40 1 rfl ?_
    refine g_icmp_ge K d_c11_takes_41 (fun c6 => ?_) (fun c6 => ?_)
    · rw [if_pos c6] at hy
      refine g_sub (ls2 := [(2, .int x2)]) [1] rfl ?_
      obtain rfl := Option.some.inj hy
      exact hE _ rfl
    · rw [if_neg c6] at hy
      refine g_aload_n K d_c11_takes_44 0 rfl ?_
      obtain ⟨v7, e_v7, hy⟩ := gBd hy
      refine g_getR K fl_c11_34 d_c11_takes_45 e_v7 ?_
      refine g_iload K d_c11_takes_48 3 rfl ?_
      obtain ⟨v8, e_v8, hy⟩ := gBd hy
      refine g_iald K d_c11_takes_50 e_v8 ?_
      refine g_iload_n K d_c11_takes_51 2 rfl ?_
      refine g_icmp_le K d_c11_takes_52 (fun c9 => ?_) (fun c9 => ?_)
      · rw [if_pos c9] at hy
        refine g_iinc (ls2 := [(4, .int (x4 + (1 : Int32))), (0, .ref a0), (2, .int x2), (3, .int x3)]) (v := 1) K d_c11_takes_58 3 rfl (by decide) rfl rfl ?_
        refine g_goto K d_c11_takes_61 ?_
        refine g_sub (ls2 := [(0, .ref a0), (2, .int x2), (3, .int x3), (4, .int (x4 + (1 : Int32)))]) [1, 2, 3, 0] rfl ?_
        exact ih _ _ hy hE hR
      · rw [if_neg c9] at hy
        refine g_iload K d_c11_takes_55 3 rfl ?_
        obtain rfl := Option.some.inj hy
        exact hR _ rfl rfl _ _ _ d_c11_takes_57
set_option maxHeartbeats 4000000 in
set_option maxRecDepth 100000 in
theorem ct_c11_takes (l : Launch) (X : gX) (hx : gEx X = false) (N : Nat) (a0 : Nat) (x1 : Int32) (x2 : Int32) (h : gH) (q : Int32) (hy : f_c11_takes N a0 x1 x2 h = some q) : gRc y_c11_takes h a0 ∧ gMi l X y_c11_takes b_c11_takes 5 .int (2 + N) 0 0 [.ref a0, .int x1, .int x2] h q h := by
  unfold f_c11_takes at hy
  obtain ⟨u0, e_u0, hy⟩ := gBd hy
  cases u0
  refine ⟨Or.inl ⟨11, _, _, e_u0, rfl⟩, gMet_i (lsx := [(0, .ref a0), (1, .int x1), (2, .int x2)]) (by decide) rfl rfl ?_⟩
  intro M hMl K hret
  subst hMl
  refine g_iload_n K d_c11_takes_0 1 rfl ?_
  refine g_if_ne K d_c11_takes_1 (fun c1 => ?_) (fun c1 => ?_)
  · rw [if_neg c1] at hy
    refine g_iconst (v := 0) K d_c11_takes_6 (by decide) ?_
    refine g_istore_n (ls2 := [(3, .int (0 : Int32)), (0, .ref a0), (1, .int x1), (2, .int x2)]) K d_c11_takes_7 rfl rfl ?_
    refine g_iconst (v := 0) K d_c11_takes_8 (by decide) ?_
    refine g_istore (ls2 := [(4, .int (0 : Int32)), (3, .int (0 : Int32)), (0, .ref a0), (1, .int x1), (2, .int x2)]) K d_c11_takes_9 rfl rfl ?_
    obtain ⟨o5, e_o5, hy⟩ := gBd hy
    refine g_sub (ls2 := [(0, .ref a0), (1, .int x1), (2, .int x2), (3, .int (0 : Int32)), (4, .int (0 : Int32))]) [2, 3, 4, 1, 0] rfl ?_
    refine wlp_c11_takes_11 hx K a0 x1 x2 h N (0 : Int32) (0 : Int32) o5 e_o5 ?_
    refine g_iload_n K d_c11_takes_35 1 rfl ?_
    refine g_istore (ls2 := [(4, .int x1), (0, .ref a0), (1, .int x1), (2, .int x2), (3, .int o5)]) K d_c11_takes_36 rfl rfl ?_
    obtain ⟨o10, e_o10, hy⟩ := gBd hy
    refine g_sub (ls2 := [(0, .ref a0), (2, .int x2), (3, .int o5), (4, .int x1)]) [1, 3, 4, 0] rfl ?_
    refine wlp_c11_takes_38 hx K a0 x2 o5 h N x1 o10 e_o10 (fun t11 e_t11 => ?_) (fun r12 e_r12 => ?_)
    · subst e_t11
      simp only [Sum.elim_inr] at hy
      refine g_iload_n K d_c11_takes_64 0 rfl ?_
      refine g_iconst (v := 1) K d_c11_takes_65 (by decide) ?_
      refine g_isub K d_c11_takes_66 ?_
      obtain rfl := Option.some.inj hy
      exact hret rfl _ _ _ d_c11_takes_67
    · subst e_r12
      simp only [Sum.elim_inl] at hy
      intro hn pc9 pc9' ls9 hd9
      obtain rfl := Option.some.inj hy
      exact hret hn _ _ _ hd9
  · rw [if_pos c1] at hy
    refine g_iconst (v := 0) K d_c11_takes_4 (by decide) ?_
    obtain rfl := Option.some.inj hy
    exact hret rfl _ _ _ d_c11_takes_5
-- c1 far
theorem d_c1_far_0 : gD b_c1_far 0 (.aload_n 0) 1 1 := ⟨by decide +kernel, rfl⟩
theorem d_c1_far_1 : gD b_c1_far 1 (.iload_n 1) 1 2 := ⟨by decide +kernel, rfl⟩
theorem d_c1_far_2 : gD b_c1_far 2 (.invokevirtual 50) 3 5 := ⟨by decide +kernel, rfl⟩
theorem d_c1_far_5 : gD b_c1_far 5 (.aload_n 0) 1 6 := ⟨by decide +kernel, rfl⟩
theorem d_c1_far_6 : gD b_c1_far 6 (.iload_n 2) 1 7 := ⟨by decide +kernel, rfl⟩
theorem d_c1_far_7 : gD b_c1_far 7 (.invokevirtual 50) 3 10 := ⟨by decide +kernel, rfl⟩
theorem d_c1_far_10 : gD b_c1_far 10 .isub 1 11 := ⟨by decide +kernel, rfl⟩
theorem d_c1_far_11 : gD b_c1_far 11 (.invokestatic 54) 3 14 := ⟨by decide +kernel, rfl⟩
theorem d_c1_far_14 : gD b_c1_far 14 (.aload_n 0) 1 15 := ⟨by decide +kernel, rfl⟩
theorem d_c1_far_15 : gD b_c1_far 15 (.iload_n 1) 1 16 := ⟨by decide +kernel, rfl⟩
theorem d_c1_far_16 : gD b_c1_far 16 (.invokevirtual 59) 3 19 := ⟨by decide +kernel, rfl⟩
theorem d_c1_far_19 : gD b_c1_far 19 (.aload_n 0) 1 20 := ⟨by decide +kernel, rfl⟩
theorem d_c1_far_20 : gD b_c1_far 20 (.iload_n 2) 1 21 := ⟨by decide +kernel, rfl⟩
theorem d_c1_far_21 : gD b_c1_far 21 (.invokevirtual 59) 3 24 := ⟨by decide +kernel, rfl⟩
theorem d_c1_far_24 : gD b_c1_far 24 .isub 1 25 := ⟨by decide +kernel, rfl⟩
theorem d_c1_far_25 : gD b_c1_far 25 (.invokestatic 54) 3 28 := ⟨by decide +kernel, rfl⟩
theorem d_c1_far_28 : gD b_c1_far 28 .iadd 1 29 := ⟨by decide +kernel, rfl⟩
theorem d_c1_far_29 : gD b_c1_far 29 .ireturn 1 30 := ⟨by decide +kernel, rfl⟩
def f_c1_far (N : Nat) (a0 : Nat) (x1 : Int32) (x2 : Int32) (h : gH) : Option (Int32) :=
  (gcl h a0 1).bind fun _ =>
  (f_c1_rowOf N a0 x1 h).bind fun q1 =>
    (f_c1_rowOf N a0 x2 h).bind fun q2 =>
    (f_c1_columnOf N a0 x1 h).bind fun q3 =>
    (f_c1_columnOf N a0 x2 h).bind fun q4 =>
    some ((gabs (q1 - q2)) + (gabs (q3 - q4)))
set_option maxHeartbeats 4000000 in
set_option maxRecDepth 100000 in
theorem ct_c1_far (l : Launch) (X : gX) (hx : gEx X = false) (N : Nat) (a0 : Nat) (x1 : Int32) (x2 : Int32) (h : gH) (q : Int32) (hy : f_c1_far N a0 x1 x2 h = some q) : gRc y_c1_far h a0 ∧ gMi l X y_c1_far b_c1_far 3 .int (2 + N) 0 0 [.ref a0, .int x1, .int x2] h q h := by
  unfold f_c1_far at hy
  obtain ⟨u0, e_u0, hy⟩ := gBd hy
  cases u0
  refine ⟨Or.inl ⟨1, _, _, e_u0, rfl⟩, gMet_i (lsx := [(0, .ref a0), (1, .int x1), (2, .int x2)]) (by decide) rfl rfl ?_⟩
  intro M hMl K hret
  subst hMl
  refine g_aload_n K d_c1_far_0 0 rfl ?_
  refine g_iload_n K d_c1_far_1 1 rfl ?_
  obtain ⟨q1, e_q1, hy⟩ := gBd hy
  refine g_callVi (rest := []) K hx ly_c1_rowOf kv_c1_50 d_c1_far_2 (ct_c1_rowOf M.2.1 X hx N a0 x1 h q1 e_q1) rfl rfl (Nat.le_of_ble_eq_true rfl) (gDep rfl) ⟨Nat.le_refl 0, Nat.le_refl 0⟩ ?_
  refine g_aload_n K d_c1_far_5 0 rfl ?_
  refine g_iload_n K d_c1_far_6 2 rfl ?_
  obtain ⟨q2, e_q2, hy⟩ := gBd hy
  refine g_callVi (rest := [.int q1]) K hx ly_c1_rowOf kv_c1_50 d_c1_far_7 (ct_c1_rowOf M.2.1 X hx N a0 x2 h q2 e_q2) rfl rfl (Nat.le_of_ble_eq_true rfl) (gDep rfl) ⟨Nat.le_refl 0, Nat.le_refl 0⟩ ?_
  refine g_isub K d_c1_far_10 ?_
  refine g_mabs K d_c1_far_11 (gTk_2 177 rfl rfl) (gTk_2 178 rfl rfl) (gTk_1 12 rfl rfl) (gTk_2 179 rfl rfl) (gDep1 rfl) (Nat.le_of_ble_eq_true rfl) ⟨Nat.le_refl 0, Nat.le_refl 0⟩ ?_
  refine g_aload_n K d_c1_far_14 0 rfl ?_
  refine g_iload_n K d_c1_far_15 1 rfl ?_
  obtain ⟨q3, e_q3, hy⟩ := gBd hy
  refine g_callVi (rest := [.int (gabs (q1 - q2))]) K hx ly_c1_columnOf kv_c1_59 d_c1_far_16 (ct_c1_columnOf M.2.1 X hx N a0 x1 h q3 e_q3) rfl rfl (Nat.le_of_ble_eq_true rfl) (gDep rfl) ⟨Nat.le_refl 0, Nat.le_refl 0⟩ ?_
  refine g_aload_n K d_c1_far_19 0 rfl ?_
  refine g_iload_n K d_c1_far_20 2 rfl ?_
  obtain ⟨q4, e_q4, hy⟩ := gBd hy
  refine g_callVi (rest := [.int q3, .int (gabs (q1 - q2))]) K hx ly_c1_columnOf kv_c1_59 d_c1_far_21 (ct_c1_columnOf M.2.1 X hx N a0 x2 h q4 e_q4) rfl rfl (Nat.le_of_ble_eq_true rfl) (gDep rfl) ⟨Nat.le_refl 0, Nat.le_refl 0⟩ ?_
  refine g_isub K d_c1_far_24 ?_
  refine g_mabs K d_c1_far_25 (gTk_2 177 rfl rfl) (gTk_2 178 rfl rfl) (gTk_1 12 rfl rfl) (gTk_2 179 rfl rfl) (gDep1 rfl) (Nat.le_of_ble_eq_true rfl) ⟨Nat.le_refl 0, Nat.le_refl 0⟩ ?_
  refine g_iadd K d_c1_far_28 ?_
  obtain rfl := Option.some.inj hy
  exact hret rfl _ _ _ d_c1_far_29
-- c1 hasField
theorem d_c1_hasField_0 : gD b_c1_hasField 0 (.iload_n 1) 1 1 := ⟨by decide +kernel, rfl⟩
theorem d_c1_hasField_1 : gJ b_c1_hasField 1 (.ifCond .lt 15) 3 15 4 16 := ⟨by decide +kernel, rfl, by decide⟩
theorem d_c1_hasField_4 : gD b_c1_hasField 4 (.iload_n 1) 1 5 := ⟨by decide +kernel, rfl⟩
theorem d_c1_hasField_5 : gD b_c1_hasField 5 (.aload_n 0) 1 6 := ⟨by decide +kernel, rfl⟩
theorem d_c1_hasField_6 : gD b_c1_hasField 6 (.invokevirtual 43) 3 9 := ⟨by decide +kernel, rfl⟩
theorem d_c1_hasField_9 : gJ b_c1_hasField 9 (.if_icmp .ge 7) 3 7 12 16 := ⟨by decide +kernel, rfl, by decide⟩
theorem d_c1_hasField_12 : gD b_c1_hasField 12 (.iconst 1) 1 13 := ⟨by decide +kernel, rfl⟩
theorem d_c1_hasField_13 : gJ b_c1_hasField 13 (.goto 4) 3 4 16 17 := ⟨by decide +kernel, rfl, by decide⟩
theorem d_c1_hasField_16 : gD b_c1_hasField 16 (.iconst 0) 1 17 := ⟨by decide +kernel, rfl⟩
theorem d_c1_hasField_17 : gD b_c1_hasField 17 .ireturn 1 18 := ⟨by decide +kernel, rfl⟩
def f_c1_hasField (N : Nat) (a0 : Nat) (x1 : Int32) (h : gH) : Option (Int32) :=
  (gcl h a0 1).bind fun _ =>
  (show Option (Int32) from if x1 < 0 then
    some (0 : Int32)
  else
    (f_c1_fields N a0 h).bind fun q5 =>
    if q5 ≤ x1 then
    some (0 : Int32)
  else
    some (1 : Int32)).bind fun t2 =>
    (gZ t2).bind fun w4 => some w4
set_option maxHeartbeats 4000000 in
set_option maxRecDepth 100000 in
theorem ct_c1_hasField (l : Launch) (X : gX) (hx : gEx X = false) (N : Nat) (a0 : Nat) (x1 : Int32) (h : gH) (q : Int32) (hy : f_c1_hasField N a0 x1 h = some q) : gRc y_c1_hasField h a0 ∧ gMi l X y_c1_hasField b_c1_hasField 2 .boolean (2 + N) 0 0 [.ref a0, .int x1] h q h := by
  unfold f_c1_hasField at hy
  obtain ⟨u0, e_u0, hy⟩ := gBd hy
  cases u0
  refine ⟨Or.inl ⟨1, _, _, e_u0, rfl⟩, gMet_i (lsx := [(0, .ref a0), (1, .int x1)]) (by decide) rfl rfl ?_⟩
  intro M hMl K hret
  subst hMl
  refine g_iload_n K d_c1_hasField_0 1 rfl ?_
  obtain ⟨t2, e_t2, hy⟩ := gBd hy
  have hJ3 : gG M X 2 0 0 17 [] [.int t2] h := by
    obtain ⟨w4, e_w4, hy⟩ := gBd hy
    obtain ⟨z_w4, n_w4⟩ := gZ_spec e_w4
    rw [z_w4]
    obtain rfl := Option.some.inj hy
    exact hret (gZn n_w4) _ _ _ d_c1_hasField_17
  refine g_if_lt K d_c1_hasField_1 (fun c1 => ?_) (fun c1 => ?_)
  · rw [if_pos c1] at e_t2
    refine g_iconst (v := 0) K d_c1_hasField_16 (by decide) ?_
    refine g_sub (ls2 := []) [] rfl ?_
    obtain rfl := Option.some.inj e_t2
    exact hJ3
  · rw [if_neg c1] at e_t2
    refine g_iload_n K d_c1_hasField_4 1 rfl ?_
    refine g_aload_n K d_c1_hasField_5 0 rfl ?_
    obtain ⟨q5, e_q5, e_t2⟩ := gBd e_t2
    refine g_callVi (rest := [.int x1]) K hx ly_c1_fields kv_c1_43 d_c1_hasField_6 (ct_c1_fields M.2.1 X hx N a0 h q5 e_q5) rfl rfl (Nat.le_of_ble_eq_true rfl) (gDep rfl) ⟨Nat.le_refl 0, Nat.le_refl 0⟩ ?_
    refine g_icmp_ge K d_c1_hasField_9 (fun c6 => ?_) (fun c6 => ?_)
    · rw [if_pos c6] at e_t2
      refine g_iconst (v := 0) K d_c1_hasField_16 (by decide) ?_
      refine g_sub (ls2 := []) [] rfl ?_
      obtain rfl := Option.some.inj e_t2
      exact hJ3
    · rw [if_neg c6] at e_t2
      refine g_iconst (v := 1) K d_c1_hasField_12 (by decide) ?_
      refine g_goto K d_c1_hasField_13 ?_
      refine g_sub (ls2 := []) [] rfl ?_
      obtain rfl := Option.some.inj e_t2
      exact hJ3
-- c2 add
theorem d_c2_add_0 : gD b_c2_add 0 (.iload_n 1) 1 1 := ⟨by decide +kernel, rfl⟩
theorem d_c2_add_1 : gJ b_c2_add 1 (.ifCond .lt 30) 3 30 4 31 := ⟨by decide +kernel, rfl, by decide⟩
theorem d_c2_add_4 : gD b_c2_add 4 (.iload_n 1) 1 5 := ⟨by decide +kernel, rfl⟩
theorem d_c2_add_5 : gD b_c2_add 5 (.iconst 4) 1 6 := ⟨by decide +kernel, rfl⟩
theorem d_c2_add_6 : gJ b_c2_add 6 (.if_icmp .gt 25) 3 25 9 31 := ⟨by decide +kernel, rfl, by decide⟩
theorem d_c2_add_9 : gD b_c2_add 9 (.iload_n 2) 1 10 := ⟨by decide +kernel, rfl⟩
theorem d_c2_add_10 : gD b_c2_add 10 (.aload_n 0) 1 11 := ⟨by decide +kernel, rfl⟩
theorem d_c2_add_11 : gD b_c2_add 11 (.iload_n 1) 1 12 := ⟨by decide +kernel, rfl⟩
theorem d_c2_add_12 : gD b_c2_add 12 (.invokevirtual 18) 3 15 := ⟨by decide +kernel, rfl⟩
theorem d_c2_add_15 : gJ b_c2_add 15 (.if_icmp .lt 16) 3 16 18 31 := ⟨by decide +kernel, rfl, by decide⟩
theorem d_c2_add_18 : gD b_c2_add 18 (.iload_n 2) 1 19 := ⟨by decide +kernel, rfl⟩
theorem d_c2_add_19 : gD b_c2_add 19 (.aload_n 0) 1 20 := ⟨by decide +kernel, rfl⟩
theorem d_c2_add_20 : gD b_c2_add 20 (.iload_n 1) 1 21 := ⟨by decide +kernel, rfl⟩
theorem d_c2_add_21 : gD b_c2_add 21 (.invokevirtual 22) 3 24 := ⟨by decide +kernel, rfl⟩
theorem d_c2_add_24 : gJ b_c2_add 24 (.if_icmp .gt 7) 3 7 27 31 := ⟨by decide +kernel, rfl, by decide⟩
theorem d_c2_add_27 : gD b_c2_add 27 (.iconst 1) 1 28 := ⟨by decide +kernel, rfl⟩
theorem d_c2_add_28 : gJ b_c2_add 28 (.goto 4) 3 4 31 32 := ⟨by decide +kernel, rfl, by decide⟩
theorem d_c2_add_31 : gD b_c2_add 31 (.iconst 0) 1 32 := ⟨by decide +kernel, rfl⟩
theorem d_c2_add_32 : gD b_c2_add 32 (.istore_n 3) 1 33 := ⟨by decide +kernel, rfl⟩
theorem d_c2_add_33 : gD b_c2_add 33 (.iload_n 3) 1 34 := ⟨by decide +kernel, rfl⟩
theorem d_c2_add_34 : gJ b_c2_add 34 (.ifCond .eq 12) 3 12 37 46 := ⟨by decide +kernel, rfl, by decide⟩
theorem d_c2_add_37 : gD b_c2_add 37 (.aload_n 0) 1 38 := ⟨by decide +kernel, rfl⟩
theorem d_c2_add_38 : gD b_c2_add 38 (.getfield 25) 3 41 := ⟨by decide +kernel, rfl⟩
theorem d_c2_add_41 : gD b_c2_add 41 (.bipush 12) 2 43 := ⟨by decide +kernel, rfl⟩
theorem d_c2_add_43 : gJ b_c2_add 43 (.if_icmp .lt 5) 3 5 46 48 := ⟨by decide +kernel, rfl, by decide⟩
theorem d_c2_add_46 : gD b_c2_add 46 (.iconst 0) 1 47 := ⟨by decide +kernel, rfl⟩
theorem d_c2_add_47 : gD b_c2_add 47 .ireturn 1 48 := ⟨by decide +kernel, rfl⟩
theorem d_c2_add_48 : gD b_c2_add 48 (.aload_n 0) 1 49 := ⟨by decide +kernel, rfl⟩
theorem d_c2_add_49 : gD b_c2_add 49 (.getfield 9) 3 52 := ⟨by decide +kernel, rfl⟩
theorem d_c2_add_52 : gD b_c2_add 52 (.aload_n 0) 1 53 := ⟨by decide +kernel, rfl⟩
theorem d_c2_add_53 : gD b_c2_add 53 (.getfield 25) 3 56 := ⟨by decide +kernel, rfl⟩
theorem d_c2_add_56 : gD b_c2_add 56 (.iload_n 1) 1 57 := ⟨by decide +kernel, rfl⟩
theorem d_c2_add_57 : gD b_c2_add 57 .iastore 1 58 := ⟨by decide +kernel, rfl⟩
theorem d_c2_add_58 : gD b_c2_add 58 (.aload_n 0) 1 59 := ⟨by decide +kernel, rfl⟩
theorem d_c2_add_59 : gD b_c2_add 59 (.getfield 15) 3 62 := ⟨by decide +kernel, rfl⟩
theorem d_c2_add_62 : gD b_c2_add 62 (.aload_n 0) 1 63 := ⟨by decide +kernel, rfl⟩
theorem d_c2_add_63 : gD b_c2_add 63 (.getfield 25) 3 66 := ⟨by decide +kernel, rfl⟩
theorem d_c2_add_66 : gD b_c2_add 66 (.iload_n 2) 1 67 := ⟨by decide +kernel, rfl⟩
theorem d_c2_add_67 : gD b_c2_add 67 .iastore 1 68 := ⟨by decide +kernel, rfl⟩
theorem d_c2_add_68 : gD b_c2_add 68 (.aload_n 0) 1 69 := ⟨by decide +kernel, rfl⟩
theorem d_c2_add_69 : gD b_c2_add 69 .dup 1 70 := ⟨by decide +kernel, rfl⟩
theorem d_c2_add_70 : gD b_c2_add 70 (.getfield 25) 3 73 := ⟨by decide +kernel, rfl⟩
theorem d_c2_add_73 : gD b_c2_add 73 (.iconst 1) 1 74 := ⟨by decide +kernel, rfl⟩
theorem d_c2_add_74 : gD b_c2_add 74 .iadd 1 75 := ⟨by decide +kernel, rfl⟩
theorem d_c2_add_75 : gD b_c2_add 75 (.putfield 25) 3 78 := ⟨by decide +kernel, rfl⟩
theorem d_c2_add_78 : gD b_c2_add 78 (.iconst 1) 1 79 := ⟨by decide +kernel, rfl⟩
theorem d_c2_add_79 : gD b_c2_add 79 .ireturn 1 80 := ⟨by decide +kernel, rfl⟩
def f_c2_add (N : Nat) (a0 : Nat) (x1 : Int32) (x2 : Int32) (h : gH) : Option (Int32 × gH) :=
  (gcl h a0 2).bind fun _ =>
  (show Option (Int32) from if x1 < 0 then
    some (0 : Int32)
  else
    if (4 : Int32) < x1 then
    some (0 : Int32)
  else
    (f_c2_least N a0 x1 h).bind fun q19 =>
    if x2 < q19 then
    some (0 : Int32)
  else
    (f_c2_greatest N a0 x1 h).bind fun q21 =>
    if q21 < x2 then
    some (0 : Int32)
  else
    some (1 : Int32)).bind fun t2 =>
    if t2 = 0 then
    (gZ (0 : Int32)).bind fun w5 => some (w5, h)
  else
    (gfI h a0 2 2).bind fun v6 =>
    if v6 < (12 : Int32) then
    (gfR h a0 2 0).bind fun v8 =>
    (gfI h a0 2 2).bind fun v9 =>
    (sa 0 h v8 v9 x1).bind fun h10 =>
    (gfR h10 a0 2 1).bind fun v11 =>
    (gfI h10 a0 2 2).bind fun v12 =>
    (sa 0 h10 v11 v12 x2).bind fun h13 =>
    (gfI h13 a0 2 2).bind fun v14 =>
    (sf h13 a0 2 2 (.int (v14 + (1 : Int32)))).bind fun h15 =>
    (gZ (1 : Int32)).bind fun w16 => some (w16, h15)
  else
    (gZ (0 : Int32)).bind fun w17 => some (w17, h)
set_option maxHeartbeats 4000000 in
set_option maxRecDepth 100000 in
theorem ct_c2_add (l : Launch) (X : gX) (hx : gEx X = false) (N : Nat) (a0 : Nat) (x1 : Int32) (x2 : Int32) (h : gH) (q : Int32 × gH) (hy : f_c2_add N a0 x1 x2 h = some q) : gRc y_c2_add h a0 ∧ gMi l X y_c2_add b_c2_add 4 .boolean (2 + N) 0 0 [.ref a0, .int x1, .int x2] h q.1 q.2 := by
  unfold f_c2_add at hy
  obtain ⟨u0, e_u0, hy⟩ := gBd hy
  cases u0
  refine ⟨Or.inl ⟨2, _, _, e_u0, rfl⟩, gMet_i (lsx := [(0, .ref a0), (1, .int x1), (2, .int x2)]) (by decide) rfl rfl ?_⟩
  intro M hMl K hret
  subst hMl
  refine g_iload_n K d_c2_add_0 1 rfl ?_
  obtain ⟨t2, e_t2, hy⟩ := gBd hy
  have hJ3 : gG M X 4 0 0 32 [(0, .ref a0), (1, .int x1), (2, .int x2)] [.int t2] h := by
    refine g_istore_n (ls2 := [(3, .int t2), (0, .ref a0), (1, .int x1), (2, .int x2)]) K d_c2_add_32 rfl rfl ?_
    refine g_iload_n K d_c2_add_33 0 rfl ?_
    refine g_if_eq K d_c2_add_34 (fun c4 => ?_) (fun c4 => ?_)
    · rw [if_pos c4] at hy
      refine g_iconst (v := 0) K d_c2_add_46 (by decide) ?_
      obtain ⟨w5, e_w5, hy⟩ := gBd hy
      obtain ⟨z_w5, n_w5⟩ := gZ_spec e_w5
      rw [z_w5]
      obtain rfl := Option.some.inj hy
      exact hret (gZn n_w5) _ _ _ d_c2_add_47
    · rw [if_neg c4] at hy
      refine g_aload_n K d_c2_add_37 1 rfl ?_
      obtain ⟨v6, e_v6, hy⟩ := gBd hy
      refine g_getI K fl_c2_25 d_c2_add_38 e_v6 ?_
      refine g_bipush (v := 12) K d_c2_add_41 (by decide) ?_
      refine g_icmp_lt K d_c2_add_43 (fun c7 => ?_) (fun c7 => ?_)
      · rw [if_pos c7] at hy
        refine g_aload_n K d_c2_add_48 1 rfl ?_
        obtain ⟨v8, e_v8, hy⟩ := gBd hy
        refine g_getR K fl_c2_9 d_c2_add_49 e_v8 ?_
        refine g_aload_n K d_c2_add_52 1 rfl ?_
        obtain ⟨v9, e_v9, hy⟩ := gBd hy
        refine g_getI K fl_c2_25 d_c2_add_53 e_v9 ?_
        refine g_iload_n K d_c2_add_56 2 rfl ?_
        obtain ⟨h10, e_h10, hy⟩ := gBd hy
        refine g_iast K d_c2_add_57 e_h10 ?_
        refine g_aload_n K d_c2_add_58 1 rfl ?_
        obtain ⟨v11, e_v11, hy⟩ := gBd hy
        refine g_getR K fl_c2_15 d_c2_add_59 e_v11 ?_
        refine g_aload_n K d_c2_add_62 1 rfl ?_
        obtain ⟨v12, e_v12, hy⟩ := gBd hy
        refine g_getI K fl_c2_25 d_c2_add_63 e_v12 ?_
        refine g_iload_n K d_c2_add_66 3 rfl ?_
        obtain ⟨h13, e_h13, hy⟩ := gBd hy
        refine g_iast K d_c2_add_67 e_h13 ?_
        refine g_aload_n K d_c2_add_68 1 rfl ?_
        refine g_dup K d_c2_add_69 rfl ?_
        obtain ⟨v14, e_v14, hy⟩ := gBd hy
        refine g_getI K fl_c2_25 d_c2_add_70 e_v14 ?_
        refine g_iconst (v := 1) K d_c2_add_73 (by decide) ?_
        refine g_iadd K d_c2_add_74 ?_
        obtain ⟨h15, e_h15, hy⟩ := gBd hy
        refine g_putI K fp_c2_25 d_c2_add_75 e_h15 ?_
        refine g_iconst (v := 1) K d_c2_add_78 (by decide) ?_
        obtain ⟨w16, e_w16, hy⟩ := gBd hy
        obtain ⟨z_w16, n_w16⟩ := gZ_spec e_w16
        rw [z_w16]
        obtain rfl := Option.some.inj hy
        exact hret (gZn n_w16) _ _ _ d_c2_add_79
      · rw [if_neg c7] at hy
        refine g_iconst (v := 0) K d_c2_add_46 (by decide) ?_
        obtain ⟨w17, e_w17, hy⟩ := gBd hy
        obtain ⟨z_w17, n_w17⟩ := gZ_spec e_w17
        rw [z_w17]
        obtain rfl := Option.some.inj hy
        exact hret (gZn n_w17) _ _ _ d_c2_add_47
  refine g_if_lt K d_c2_add_1 (fun c1 => ?_) (fun c1 => ?_)
  · rw [if_pos c1] at e_t2
    refine g_iconst (v := 0) K d_c2_add_31 (by decide) ?_
    obtain rfl := Option.some.inj e_t2
    exact hJ3
  · rw [if_neg c1] at e_t2
    refine g_iload_n K d_c2_add_4 1 rfl ?_
    refine g_iconst (v := 4) K d_c2_add_5 (by decide) ?_
    refine g_icmp_gt K d_c2_add_6 (fun c18 => ?_) (fun c18 => ?_)
    · rw [if_pos c18] at e_t2
      refine g_iconst (v := 0) K d_c2_add_31 (by decide) ?_
      obtain rfl := Option.some.inj e_t2
      exact hJ3
    · rw [if_neg c18] at e_t2
      refine g_iload_n K d_c2_add_9 2 rfl ?_
      refine g_aload_n K d_c2_add_10 0 rfl ?_
      refine g_iload_n K d_c2_add_11 1 rfl ?_
      obtain ⟨q19, e_q19, e_t2⟩ := gBd e_t2
      refine g_callVi (rest := [.int x2]) K hx ly_c2_least kv_c2_18 d_c2_add_12 (ct_c2_least M.2.1 X hx N a0 x1 h q19 e_q19) rfl rfl (Nat.le_of_ble_eq_true rfl) (gDep rfl) ⟨Nat.le_refl 0, Nat.le_refl 0⟩ ?_
      refine g_icmp_lt K d_c2_add_15 (fun c20 => ?_) (fun c20 => ?_)
      · rw [if_pos c20] at e_t2
        refine g_iconst (v := 0) K d_c2_add_31 (by decide) ?_
        obtain rfl := Option.some.inj e_t2
        exact hJ3
      · rw [if_neg c20] at e_t2
        refine g_iload_n K d_c2_add_18 2 rfl ?_
        refine g_aload_n K d_c2_add_19 0 rfl ?_
        refine g_iload_n K d_c2_add_20 1 rfl ?_
        obtain ⟨q21, e_q21, e_t2⟩ := gBd e_t2
        refine g_callVi (rest := [.int x2]) K hx ly_c2_greatest kv_c2_22 d_c2_add_21 (ct_c2_greatest M.2.1 X hx N a0 x1 h q21 e_q21) rfl rfl (Nat.le_of_ble_eq_true rfl) (gDep rfl) ⟨Nat.le_refl 0, Nat.le_refl 0⟩ ?_
        refine g_icmp_gt K d_c2_add_24 (fun c22 => ?_) (fun c22 => ?_)
        · rw [if_pos c22] at e_t2
          refine g_iconst (v := 0) K d_c2_add_31 (by decide) ?_
          obtain rfl := Option.some.inj e_t2
          exact hJ3
        · rw [if_neg c22] at e_t2
          refine g_iconst (v := 1) K d_c2_add_27 (by decide) ?_
          refine g_goto K d_c2_add_28 ?_
          obtain rfl := Option.some.inj e_t2
          exact hJ3
-- c6 open
theorem d_c6_open_0 : gD b_c6_open 0 (.aload_n 0) 1 1 := ⟨by decide +kernel, rfl⟩
theorem d_c6_open_1 : gD b_c6_open 1 (.getfield 28) 3 4 := ⟨by decide +kernel, rfl⟩
theorem d_c6_open_4 : gD b_c6_open 4 (.iconst 4) 1 5 := ⟨by decide +kernel, rfl⟩
theorem d_c6_open_5 : gJ b_c6_open 5 (.if_icmp .lt 5) 3 5 8 10 := ⟨by decide +kernel, rfl, by decide⟩
theorem d_c6_open_8 : gD b_c6_open 8 (.iconst 0) 1 9 := ⟨by decide +kernel, rfl⟩
theorem d_c6_open_9 : gD b_c6_open 9 .ireturn 1 10 := ⟨by decide +kernel, rfl⟩
theorem d_c6_open_10 : gD b_c6_open 10 (.aload_n 0) 1 11 := ⟨by decide +kernel, rfl⟩
theorem d_c6_open_11 : gD b_c6_open 11 .dup 1 12 := ⟨by decide +kernel, rfl⟩
theorem d_c6_open_12 : gD b_c6_open 12 (.getfield 28) 3 15 := ⟨by decide +kernel, rfl⟩
theorem d_c6_open_15 : gD b_c6_open 15 (.iconst 1) 1 16 := ⟨by decide +kernel, rfl⟩
theorem d_c6_open_16 : gD b_c6_open 16 .iadd 1 17 := ⟨by decide +kernel, rfl⟩
theorem d_c6_open_17 : gD b_c6_open 17 (.putfield 28) 3 20 := ⟨by decide +kernel, rfl⟩
theorem d_c6_open_20 : gD b_c6_open 20 (.aload_n 0) 1 21 := ⟨by decide +kernel, rfl⟩
theorem d_c6_open_21 : gD b_c6_open 21 .dup 1 22 := ⟨by decide +kernel, rfl⟩
theorem d_c6_open_22 : gD b_c6_open 22 (.getfield 31) 3 25 := ⟨by decide +kernel, rfl⟩
theorem d_c6_open_25 : gD b_c6_open 25 (.iconst 1) 1 26 := ⟨by decide +kernel, rfl⟩
theorem d_c6_open_26 : gD b_c6_open 26 (.aload_n 0) 1 27 := ⟨by decide +kernel, rfl⟩
theorem d_c6_open_27 : gD b_c6_open 27 (.getfield 28) 3 30 := ⟨by decide +kernel, rfl⟩
theorem d_c6_open_30 : gD b_c6_open 30 .ishl 1 31 := ⟨by decide +kernel, rfl⟩
theorem d_c6_open_31 : gD b_c6_open 31 (.iconst (-1)) 1 32 := ⟨by decide +kernel, rfl⟩
theorem d_c6_open_32 : gD b_c6_open 32 .ixor 1 33 := ⟨by decide +kernel, rfl⟩
theorem d_c6_open_33 : gD b_c6_open 33 .iand 1 34 := ⟨by decide +kernel, rfl⟩
theorem d_c6_open_34 : gD b_c6_open 34 (.putfield 31) 3 37 := ⟨by decide +kernel, rfl⟩
theorem d_c6_open_37 : gD b_c6_open 37 (.aload_n 0) 1 38 := ⟨by decide +kernel, rfl⟩
theorem d_c6_open_38 : gD b_c6_open 38 (.bipush 40) 2 40 := ⟨by decide +kernel, rfl⟩
theorem d_c6_open_40 : gD b_c6_open 40 (.invokevirtual 58) 3 43 := ⟨by decide +kernel, rfl⟩
theorem d_c6_open_43 : gD b_c6_open 43 (.iconst 1) 1 44 := ⟨by decide +kernel, rfl⟩
theorem d_c6_open_44 : gD b_c6_open 44 .ireturn 1 45 := ⟨by decide +kernel, rfl⟩
def f_c6_open (N : Nat) (a0 : Nat) (h : gH) : Option (Int32 × gH) :=
  (gcl h a0 6).bind fun _ =>
  (gfI h a0 6 5).bind fun v1 =>
    if v1 < (4 : Int32) then
    (gfI h a0 6 5).bind fun v3 =>
    (sf h a0 6 5 (.int (v3 + (1 : Int32)))).bind fun h4 =>
    (gfI h4 a0 6 6).bind fun v5 =>
    (gfI h4 a0 6 5).bind fun v6 =>
    (sf h4 a0 6 6 (.int (v5 &&& (((1 : Int32) <<< (v6 &&& 31)) ^^^ (-1 : Int32))))).bind fun h7 =>
    (f_c6_hold N a0 (40 : Int32) h7).bind fun q8 =>
    (gZ (1 : Int32)).bind fun w9 => some (w9, q8)
  else
    (gZ (0 : Int32)).bind fun w10 => some (w10, h)
set_option maxHeartbeats 4000000 in
set_option maxRecDepth 100000 in
theorem ct_c6_open (l : Launch) (X : gX) (hx : gEx X = false) (N : Nat) (a0 : Nat) (h : gH) (q : Int32 × gH) (hy : f_c6_open N a0 h = some q) : gRc y_c6_open h a0 ∧ gMi l X y_c6_open b_c6_open 1 .boolean (2 + N) 0 0 [.ref a0] h q.1 q.2 := by
  unfold f_c6_open at hy
  obtain ⟨u0, e_u0, hy⟩ := gBd hy
  cases u0
  refine ⟨Or.inl ⟨6, _, _, e_u0, rfl⟩, gMet_i (lsx := [(0, .ref a0)]) (by decide) rfl rfl ?_⟩
  intro M hMl K hret
  subst hMl
  refine g_aload_n K d_c6_open_0 0 rfl ?_
  obtain ⟨v1, e_v1, hy⟩ := gBd hy
  refine g_getI K fl_c6_28 d_c6_open_1 e_v1 ?_
  refine g_iconst (v := 4) K d_c6_open_4 (by decide) ?_
  refine g_icmp_lt K d_c6_open_5 (fun c2 => ?_) (fun c2 => ?_)
  · rw [if_pos c2] at hy
    refine g_aload_n K d_c6_open_10 0 rfl ?_
    refine g_dup K d_c6_open_11 rfl ?_
    obtain ⟨v3, e_v3, hy⟩ := gBd hy
    refine g_getI K fl_c6_28 d_c6_open_12 e_v3 ?_
    refine g_iconst (v := 1) K d_c6_open_15 (by decide) ?_
    refine g_iadd K d_c6_open_16 ?_
    obtain ⟨h4, e_h4, hy⟩ := gBd hy
    refine g_putI K fp_c6_28 d_c6_open_17 e_h4 ?_
    refine g_aload_n K d_c6_open_20 0 rfl ?_
    refine g_dup K d_c6_open_21 rfl ?_
    obtain ⟨v5, e_v5, hy⟩ := gBd hy
    refine g_getI K fl_c6_31 d_c6_open_22 e_v5 ?_
    refine g_iconst (v := 1) K d_c6_open_25 (by decide) ?_
    refine g_aload_n K d_c6_open_26 0 rfl ?_
    obtain ⟨v6, e_v6, hy⟩ := gBd hy
    refine g_getI K fl_c6_28 d_c6_open_27 e_v6 ?_
    refine g_ishl K d_c6_open_30 ?_
    refine g_iconst (v := (-1)) K d_c6_open_31 (by decide) ?_
    refine g_ixor K d_c6_open_32 ?_
    refine g_iand K d_c6_open_33 ?_
    obtain ⟨h7, e_h7, hy⟩ := gBd hy
    refine g_putI K fp_c6_31 d_c6_open_34 e_h7 ?_
    refine g_aload_n K d_c6_open_37 0 rfl ?_
    refine g_bipush (v := 40) K d_c6_open_38 (by decide) ?_
    obtain ⟨q8, e_q8, hy⟩ := gBd hy
    refine g_callVv (rest := []) K hx ly_c6_hold kv_c6_58 d_c6_open_40 (ct_c6_hold M.2.1 X hx N a0 (40 : Int32) h7 q8 e_q8) rfl rfl (Nat.le_of_ble_eq_true rfl) (gDep rfl) ⟨Nat.le_refl 0, Nat.le_refl 0⟩ ?_
    refine g_iconst (v := 1) K d_c6_open_43 (by decide) ?_
    obtain ⟨w9, e_w9, hy⟩ := gBd hy
    obtain ⟨z_w9, n_w9⟩ := gZ_spec e_w9
    rw [z_w9]
    obtain rfl := Option.some.inj hy
    exact hret (gZn n_w9) _ _ _ d_c6_open_44
  · rw [if_neg c2] at hy
    refine g_iconst (v := 0) K d_c6_open_8 (by decide) ?_
    obtain ⟨w10, e_w10, hy⟩ := gBd hy
    obtain ⟨z_w10, n_w10⟩ := gZ_spec e_w10
    rw [z_w10]
    obtain rfl := Option.some.inj hy
    exact hret (gZn n_w10) _ _ _ d_c6_open_9
-- c6 release
theorem d_c6_release_0 : gD b_c6_release 0 (.aload_n 0) 1 1 := ⟨by decide +kernel, rfl⟩
theorem d_c6_release_1 : gD b_c6_release 1 (.getfield 25) 3 4 := ⟨by decide +kernel, rfl⟩
theorem d_c6_release_4 : gJ b_c6_release 4 (.ifCond .le 48) 3 48 7 52 := ⟨by decide +kernel, rfl, by decide⟩
theorem d_c6_release_7 : gD b_c6_release 7 (.aload_n 0) 1 8 := ⟨by decide +kernel, rfl⟩
theorem d_c6_release_8 : gD b_c6_release 8 (.getfield 15) 3 11 := ⟨by decide +kernel, rfl⟩
theorem d_c6_release_11 : gD b_c6_release 11 (.aload_n 0) 1 12 := ⟨by decide +kernel, rfl⟩
theorem d_c6_release_12 : gD b_c6_release 12 (.getfield 25) 3 15 := ⟨by decide +kernel, rfl⟩
theorem d_c6_release_15 : gD b_c6_release 15 (.iconst 1) 1 16 := ⟨by decide +kernel, rfl⟩
theorem d_c6_release_16 : gD b_c6_release 16 .isub 1 17 := ⟨by decide +kernel, rfl⟩
theorem d_c6_release_17 : gD b_c6_release 17 .iaload 1 18 := ⟨by decide +kernel, rfl⟩
theorem d_c6_release_18 : gD b_c6_release 18 (.invokestatic 77) 3 21 := ⟨by decide +kernel, rfl⟩
theorem d_c6_release_21 : gD b_c6_release 21 (.iload_n 1) 1 22 := ⟨by decide +kernel, rfl⟩
theorem d_c6_release_22 : gJ b_c6_release 22 (.if_icmp .lt 30) 3 30 25 52 := ⟨by decide +kernel, rfl, by decide⟩
theorem d_c6_release_25 : gD b_c6_release 25 (.aload_n 0) 1 26 := ⟨by decide +kernel, rfl⟩
theorem d_c6_release_26 : gD b_c6_release 26 .dup 1 27 := ⟨by decide +kernel, rfl⟩
theorem d_c6_release_27 : gD b_c6_release 27 (.getfield 25) 3 30 := ⟨by decide +kernel, rfl⟩
theorem d_c6_release_30 : gD b_c6_release 30 (.iconst 1) 1 31 := ⟨by decide +kernel, rfl⟩
theorem d_c6_release_31 : gD b_c6_release 31 .isub 1 32 := ⟨by decide +kernel, rfl⟩
theorem d_c6_release_32 : gD b_c6_release 32 (.putfield 25) 3 35 := ⟨by decide +kernel, rfl⟩
theorem d_c6_release_35 : gD b_c6_release 35 (.aload_n 0) 1 36 := ⟨by decide +kernel, rfl⟩
theorem d_c6_release_36 : gD b_c6_release 36 (.aload_n 0) 1 37 := ⟨by decide +kernel, rfl⟩
theorem d_c6_release_37 : gD b_c6_release 37 (.getfield 15) 3 40 := ⟨by decide +kernel, rfl⟩
theorem d_c6_release_40 : gD b_c6_release 40 (.aload_n 0) 1 41 := ⟨by decide +kernel, rfl⟩
theorem d_c6_release_41 : gD b_c6_release 41 (.getfield 25) 3 44 := ⟨by decide +kernel, rfl⟩
theorem d_c6_release_44 : gD b_c6_release 44 .iaload 1 45 := ⟨by decide +kernel, rfl⟩
theorem d_c6_release_45 : gD b_c6_release 45 .ineg 1 46 := ⟨by decide +kernel, rfl⟩
theorem d_c6_release_46 : gD b_c6_release 46 (.invokevirtual 68) 3 49 := ⟨by decide +kernel, rfl⟩
theorem d_c6_release_49 : gJ b_c6_release 49 (.goto (-49)) 3 (-49) 52 0 := ⟨by decide +kernel, rfl, by decide⟩
theorem d_c6_release_52 : gD b_c6_release 52 .return_ 1 53 := ⟨by decide +kernel, rfl⟩
def lp_c6_release_0 (N : Nat) (a0 : Nat) (x1 : Int32) : Nat → gH → Option (gH)
  | 0, _ => none
  | k + 1, h =>
  (gfI h a0 6 4).bind fun v1 =>
    if v1 ≤ 0 then
    some h
  else
    (gfR h a0 6 1).bind fun v3 =>
    (gfI h a0 6 4).bind fun v4 =>
    (ga 0 h v3 (v4 - (1 : Int32))).bind fun v5 =>
    (f_c6_rank N v5 h).bind fun q6 =>
    if q6 < x1 then
    some h
  else
    (gfI h a0 6 4).bind fun v8 =>
    (sf h a0 6 4 (.int (v8 - (1 : Int32)))).bind fun h9 =>
    (gfR h9 a0 6 1).bind fun v10 =>
    (gfI h9 a0 6 4).bind fun v11 =>
    (ga 0 h9 v10 v11).bind fun v12 =>
    (f_c6_emit N a0 (-v12) h9).bind fun q13 =>
    lp_c6_release_0 N a0 x1 k q13
def f_c6_release (N : Nat) (a0 : Nat) (x1 : Int32) (h : gH) : Option (gH) :=
  (gcl h a0 6).bind fun _ =>
  (lp_c6_release_0 N a0 x1 N h).bind fun o14 =>
    some o14
set_option maxHeartbeats 4000000 in
set_option maxRecDepth 100000 in
theorem wlp_c6_release_0 {M : gM} {X : gX} {N : Nat} (hx : gEx X = false) (K : gC M X gN6 b_c6_release 2 (gRm (2 + N) 0 0)) (a0 : Nat) (x1 : Int32) : ∀ (k : Nat) (h : gH) (o : gH), lp_c6_release_0 N a0 x1 k h = some o → gG M X 2 0 0 52 [] [] o → gG M X 2 0 0 0 [(0, .ref a0), (1, .int x1)] [] h := by
  intro k
  induction k with
  | zero =>
    intro h o hy
    rw [lp_c6_release_0.eq_1] at hy
    cases hy
  | succ k ih =>
    intro h o hy hE
    rw [lp_c6_release_0.eq_2] at hy
    refine g_aload_n K d_c6_release_0 0 rfl ?_
    obtain ⟨v1, e_v1, hy⟩ := gBd hy
    refine g_getI K fl_c6_25 d_c6_release_1 e_v1 ?_
    refine g_if_le K d_c6_release_4 (fun c2 => ?_) (fun c2 => ?_)
    · rw [if_pos c2] at hy
      refine g_sub (ls2 := []) [] rfl ?_
      obtain rfl := Option.some.inj hy
      exact hE
    · rw [if_neg c2] at hy
      refine g_aload_n K d_c6_release_7 0 rfl ?_
      obtain ⟨v3, e_v3, hy⟩ := gBd hy
      refine g_getR K fl_c6_15 d_c6_release_8 e_v3 ?_
      refine g_aload_n K d_c6_release_11 0 rfl ?_
      obtain ⟨v4, e_v4, hy⟩ := gBd hy
      refine g_getI K fl_c6_25 d_c6_release_12 e_v4 ?_
      refine g_iconst (v := 1) K d_c6_release_15 (by decide) ?_
      refine g_isub K d_c6_release_16 ?_
      obtain ⟨v5, e_v5, hy⟩ := gBd hy
      refine g_iald K d_c6_release_17 e_v5 ?_
      obtain ⟨q6, e_q6, hy⟩ := gBd hy
      refine g_callSi (rest := []) K hx ly_c6_rank ks_c6_77 d_c6_release_18 (ct_c6_rank M.2.1 X hx N v5 h q6 e_q6) rfl rfl (Nat.le_of_ble_eq_true rfl) (gDep rfl) ⟨Nat.le_refl 0, Nat.le_refl 0⟩ ?_
      refine g_iload_n K d_c6_release_21 1 rfl ?_
      refine g_icmp_lt K d_c6_release_22 (fun c7 => ?_) (fun c7 => ?_)
      · rw [if_pos c7] at hy
        refine g_sub (ls2 := []) [] rfl ?_
        obtain rfl := Option.some.inj hy
        exact hE
      · rw [if_neg c7] at hy
        refine g_aload_n K d_c6_release_25 0 rfl ?_
        refine g_dup K d_c6_release_26 rfl ?_
        obtain ⟨v8, e_v8, hy⟩ := gBd hy
        refine g_getI K fl_c6_25 d_c6_release_27 e_v8 ?_
        refine g_iconst (v := 1) K d_c6_release_30 (by decide) ?_
        refine g_isub K d_c6_release_31 ?_
        obtain ⟨h9, e_h9, hy⟩ := gBd hy
        refine g_putI K fp_c6_25 d_c6_release_32 e_h9 ?_
        refine g_aload_n K d_c6_release_35 0 rfl ?_
        refine g_aload_n K d_c6_release_36 0 rfl ?_
        obtain ⟨v10, e_v10, hy⟩ := gBd hy
        refine g_getR K fl_c6_15 d_c6_release_37 e_v10 ?_
        refine g_aload_n K d_c6_release_40 0 rfl ?_
        obtain ⟨v11, e_v11, hy⟩ := gBd hy
        refine g_getI K fl_c6_25 d_c6_release_41 e_v11 ?_
        obtain ⟨v12, e_v12, hy⟩ := gBd hy
        refine g_iald K d_c6_release_44 e_v12 ?_
        refine g_ineg K d_c6_release_45 ?_
        obtain ⟨q13, e_q13, hy⟩ := gBd hy
        refine g_callVv (rest := []) K hx ly_c6_emit kv_c6_68 d_c6_release_46 (ct_c6_emit M.2.1 X hx N a0 (-v12) h9 q13 e_q13) rfl rfl (Nat.le_of_ble_eq_true rfl) (gDep rfl) ⟨Nat.le_refl 0, Nat.le_refl 0⟩ ?_
        refine g_goto K d_c6_release_49 ?_
        exact ih _ _ hy hE
set_option maxHeartbeats 4000000 in
set_option maxRecDepth 100000 in
theorem ct_c6_release (l : Launch) (X : gX) (hx : gEx X = false) (N : Nat) (a0 : Nat) (x1 : Int32) (h : gH) (q : gH) (hy : f_c6_release N a0 x1 h = some q) : gRc y_c6_release h a0 ∧ gMv l X y_c6_release b_c6_release 2 (2 + N) 0 0 [.ref a0, .int x1] h q := by
  unfold f_c6_release at hy
  obtain ⟨u0, e_u0, hy⟩ := gBd hy
  cases u0
  refine ⟨Or.inl ⟨6, _, _, e_u0, rfl⟩, gMet_v (lsx := [(0, .ref a0), (1, .int x1)]) (by decide) rfl rfl ?_⟩
  intro M hMl K hret
  subst hMl
  obtain ⟨o14, e_o14, hy⟩ := gBd hy
  refine wlp_c6_release_0 hx K a0 x1 N h o14 e_o14 ?_
  obtain rfl := Option.some.inj hy
  exact hret _ _ _ d_c6_release_52
-- c6 thing
theorem d_c6_thing_0 : gD b_c6_thing 0 (.iload_n 0) 1 1 := ⟨by decide +kernel, rfl⟩
theorem d_c6_thing_1 : decode b_c6_thing 1 = .ok ((.lookupswitch 104 #[(97, 72), (100, 66), (108, 97), (109, 79), (118, 86), (119, 59)]), 59) := by decide +kernel
theorem d_c6_thing_60 : gD b_c6_thing 60 (.aload_n 1) 1 61 := ⟨by decide +kernel, rfl⟩
theorem d_c6_thing_61 : gD b_c6_thing 61 (.getfield 95) 3 64 := ⟨by decide +kernel, rfl⟩
theorem d_c6_thing_64 : gD b_c6_thing 64 (.iload_n 2) 1 65 := ⟨by decide +kernel, rfl⟩
theorem d_c6_thing_65 : gD b_c6_thing 65 .iaload 1 66 := ⟨by decide +kernel, rfl⟩
theorem d_c6_thing_66 : gD b_c6_thing 66 .ireturn 1 67 := ⟨by decide +kernel, rfl⟩
theorem d_c6_thing_67 : gD b_c6_thing 67 (.aload_n 1) 1 68 := ⟨by decide +kernel, rfl⟩
theorem d_c6_thing_68 : gD b_c6_thing 68 (.iload_n 2) 1 69 := ⟨by decide +kernel, rfl⟩
theorem d_c6_thing_69 : gD b_c6_thing 69 (.invokevirtual 100) 3 72 := ⟨by decide +kernel, rfl⟩
theorem d_c6_thing_72 : gD b_c6_thing 72 .ireturn 1 73 := ⟨by decide +kernel, rfl⟩
theorem d_c6_thing_73 : gD b_c6_thing 73 (.aload_n 1) 1 74 := ⟨by decide +kernel, rfl⟩
theorem d_c6_thing_74 : gD b_c6_thing 74 (.getfield 103) 3 77 := ⟨by decide +kernel, rfl⟩
theorem d_c6_thing_77 : gD b_c6_thing 77 (.iload_n 2) 1 78 := ⟨by decide +kernel, rfl⟩
theorem d_c6_thing_78 : gD b_c6_thing 78 .iaload 1 79 := ⟨by decide +kernel, rfl⟩
theorem d_c6_thing_79 : gD b_c6_thing 79 .ireturn 1 80 := ⟨by decide +kernel, rfl⟩
theorem d_c6_thing_80 : gD b_c6_thing 80 (.aload_n 1) 1 81 := ⟨by decide +kernel, rfl⟩
theorem d_c6_thing_81 : gD b_c6_thing 81 (.getfield 106) 3 84 := ⟨by decide +kernel, rfl⟩
theorem d_c6_thing_84 : gD b_c6_thing 84 (.iload_n 2) 1 85 := ⟨by decide +kernel, rfl⟩
theorem d_c6_thing_85 : gD b_c6_thing 85 .iaload 1 86 := ⟨by decide +kernel, rfl⟩
theorem d_c6_thing_86 : gD b_c6_thing 86 .ireturn 1 87 := ⟨by decide +kernel, rfl⟩
theorem d_c6_thing_87 : gD b_c6_thing 87 (.aload_n 3) 1 88 := ⟨by decide +kernel, rfl⟩
theorem d_c6_thing_88 : gD b_c6_thing 88 (.aload_n 1) 1 89 := ⟨by decide +kernel, rfl⟩
theorem d_c6_thing_89 : gD b_c6_thing 89 (.getfield 109) 3 92 := ⟨by decide +kernel, rfl⟩
theorem d_c6_thing_92 : gD b_c6_thing 92 (.iload_n 2) 1 93 := ⟨by decide +kernel, rfl⟩
theorem d_c6_thing_93 : gD b_c6_thing 93 .iaload 1 94 := ⟨by decide +kernel, rfl⟩
theorem d_c6_thing_94 : gD b_c6_thing 94 (.invokevirtual 112) 3 97 := ⟨by decide +kernel, rfl⟩
theorem d_c6_thing_97 : gD b_c6_thing 97 .ireturn 1 98 := ⟨by decide +kernel, rfl⟩
theorem d_c6_thing_98 : gD b_c6_thing 98 (.aload_n 1) 1 99 := ⟨by decide +kernel, rfl⟩
theorem d_c6_thing_99 : gD b_c6_thing 99 (.getfield 117) 3 102 := ⟨by decide +kernel, rfl⟩
theorem d_c6_thing_102 : gD b_c6_thing 102 (.iload_n 2) 1 103 := ⟨by decide +kernel, rfl⟩
theorem d_c6_thing_103 : gD b_c6_thing 103 .iaload 1 104 := ⟨by decide +kernel, rfl⟩
theorem d_c6_thing_104 : gD b_c6_thing 104 .ireturn 1 105 := ⟨by decide +kernel, rfl⟩
theorem d_c6_thing_105 : gD b_c6_thing 105 (.aload_n 1) 1 106 := ⟨by decide +kernel, rfl⟩
theorem d_c6_thing_106 : gD b_c6_thing 106 (.getfield 120) 3 109 := ⟨by decide +kernel, rfl⟩
theorem d_c6_thing_109 : gD b_c6_thing 109 (.iconst 4) 1 110 := ⟨by decide +kernel, rfl⟩
theorem d_c6_thing_110 : gD b_c6_thing 110 .irem 1 111 := ⟨by decide +kernel, rfl⟩
theorem d_c6_thing_111 : gD b_c6_thing 111 .ireturn 1 112 := ⟨by decide +kernel, rfl⟩
def f_c6_thing (N : Nat) (x0 : Int32) (a1 : Nat) (x2 : Int32) (a3 : Nat) (h : gH) : Option (Int32) :=
  if x0 = (97 : Int32) then
    (gfR h a1 7 4).bind fun v7 =>
    (ga 0 h v7 x2).bind fun v8 =>
    some v8
  else
    if x0 = (100 : Int32) then
    (f_c7_depth N a1 x2 h).bind fun q9 =>
    some q9
  else
    if x0 = (108 : Int32) then
    (gfR h a1 7 5).bind fun v10 =>
    (ga 0 h v10 x2).bind fun v11 =>
    some v11
  else
    if x0 = (109 : Int32) then
    (gfR h a1 7 3).bind fun v12 =>
    (ga 0 h v12 x2).bind fun v13 =>
    some v13
  else
    if x0 = (118 : Int32) then
    (gfR h a1 7 1).bind fun v14 =>
    (ga 0 h v14 x2).bind fun v15 =>
    (f_c1_crowdAt N a3 v15 h).bind fun q16 =>
    some q16
  else
    if x0 = (119 : Int32) then
    (gfR h a1 7 2).bind fun v17 =>
    (ga 0 h v17 x2).bind fun v18 =>
    some v18
  else
    (gfI h a1 7 6).bind fun v19 =>
    (gNZ (4 : Int32)).bind fun u20 =>
    some (v19 - v19 / (4 : Int32) * (4 : Int32))
set_option maxHeartbeats 4000000 in
set_option maxRecDepth 100000 in
theorem ct_c6_thing (l : Launch) (X : gX) (hx : gEx X = false) (N : Nat) (x0 : Int32) (a1 : Nat) (x2 : Int32) (a3 : Nat) (h : gH) (q : Int32) (hy : f_c6_thing N x0 a1 x2 a3 h = some q) : gMi l X y_c6_thing b_c6_thing 4 .int (2 + N) 0 0 [.int x0, .ref a1, .int x2, .ref a3] h q h := by
  unfold f_c6_thing at hy
  refine gMet_i (lsx := [(0, .int x0), (1, .ref a1), (2, .int x2), (3, .ref a3)]) (by decide) rfl rfl ?_
  intro M hMl K hret
  subst hMl
  refine g_iload_n K d_c6_thing_0 0 rfl ?_
  by_cases c1 : x0 = (97 : Int32)
  · rw [if_pos c1] at hy
    refine g_lkIn (v := (97 : Int32)) (off := 72) (tgt := 73) K d_c6_thing_1 (by decide +kernel) c1 (by decide +kernel) (by decide) ?_
    refine g_aload_n K d_c6_thing_73 1 rfl ?_
    obtain ⟨v7, e_v7, hy⟩ := gBd hy
    refine g_getR K fl_c6_103 d_c6_thing_74 e_v7 ?_
    refine g_iload_n K d_c6_thing_77 2 rfl ?_
    obtain ⟨v8, e_v8, hy⟩ := gBd hy
    refine g_iald K d_c6_thing_78 e_v8 ?_
    obtain rfl := Option.some.inj hy
    exact hret rfl _ _ _ d_c6_thing_79
  rw [if_neg c1] at hy
  by_cases c2 : x0 = (100 : Int32)
  · rw [if_pos c2] at hy
    refine g_lkIn (v := (100 : Int32)) (off := 66) (tgt := 67) K d_c6_thing_1 (by decide +kernel) c2 (by decide +kernel) (by decide) ?_
    refine g_aload_n K d_c6_thing_67 1 rfl ?_
    refine g_iload_n K d_c6_thing_68 2 rfl ?_
    obtain ⟨q9, e_q9, hy⟩ := gBd hy
    refine g_callVi (rest := []) K hx ly_c7_depth kv_c6_100 d_c6_thing_69 (ct_c7_depth M.2.1 X hx N a1 x2 h q9 e_q9) rfl rfl (Nat.le_of_ble_eq_true rfl) (gDep rfl) ⟨Nat.le_refl 0, Nat.le_refl 0⟩ ?_
    obtain rfl := Option.some.inj hy
    exact hret rfl _ _ _ d_c6_thing_72
  rw [if_neg c2] at hy
  by_cases c3 : x0 = (108 : Int32)
  · rw [if_pos c3] at hy
    refine g_lkIn (v := (108 : Int32)) (off := 97) (tgt := 98) K d_c6_thing_1 (by decide +kernel) c3 (by decide +kernel) (by decide) ?_
    refine g_aload_n K d_c6_thing_98 1 rfl ?_
    obtain ⟨v10, e_v10, hy⟩ := gBd hy
    refine g_getR K fl_c6_117 d_c6_thing_99 e_v10 ?_
    refine g_iload_n K d_c6_thing_102 2 rfl ?_
    obtain ⟨v11, e_v11, hy⟩ := gBd hy
    refine g_iald K d_c6_thing_103 e_v11 ?_
    obtain rfl := Option.some.inj hy
    exact hret rfl _ _ _ d_c6_thing_104
  rw [if_neg c3] at hy
  by_cases c4 : x0 = (109 : Int32)
  · rw [if_pos c4] at hy
    refine g_lkIn (v := (109 : Int32)) (off := 79) (tgt := 80) K d_c6_thing_1 (by decide +kernel) c4 (by decide +kernel) (by decide) ?_
    refine g_aload_n K d_c6_thing_80 1 rfl ?_
    obtain ⟨v12, e_v12, hy⟩ := gBd hy
    refine g_getR K fl_c6_106 d_c6_thing_81 e_v12 ?_
    refine g_iload_n K d_c6_thing_84 2 rfl ?_
    obtain ⟨v13, e_v13, hy⟩ := gBd hy
    refine g_iald K d_c6_thing_85 e_v13 ?_
    obtain rfl := Option.some.inj hy
    exact hret rfl _ _ _ d_c6_thing_86
  rw [if_neg c4] at hy
  by_cases c5 : x0 = (118 : Int32)
  · rw [if_pos c5] at hy
    refine g_lkIn (v := (118 : Int32)) (off := 86) (tgt := 87) K d_c6_thing_1 (by decide +kernel) c5 (by decide +kernel) (by decide) ?_
    refine g_aload_n K d_c6_thing_87 3 rfl ?_
    refine g_aload_n K d_c6_thing_88 1 rfl ?_
    obtain ⟨v14, e_v14, hy⟩ := gBd hy
    refine g_getR K fl_c6_109 d_c6_thing_89 e_v14 ?_
    refine g_iload_n K d_c6_thing_92 2 rfl ?_
    obtain ⟨v15, e_v15, hy⟩ := gBd hy
    refine g_iald K d_c6_thing_93 e_v15 ?_
    obtain ⟨q16, e_q16, hy⟩ := gBd hy
    refine g_callVi (rest := []) K hx ly_c1_crowdAt kv_c6_112 d_c6_thing_94 (ct_c1_crowdAt M.2.1 X hx N a3 v15 h q16 e_q16) rfl rfl (Nat.le_of_ble_eq_true rfl) (gDep rfl) ⟨Nat.le_refl 0, Nat.le_refl 0⟩ ?_
    obtain rfl := Option.some.inj hy
    exact hret rfl _ _ _ d_c6_thing_97
  rw [if_neg c5] at hy
  by_cases c6 : x0 = (119 : Int32)
  · rw [if_pos c6] at hy
    refine g_lkIn (v := (119 : Int32)) (off := 59) (tgt := 60) K d_c6_thing_1 (by decide +kernel) c6 (by decide +kernel) (by decide) ?_
    refine g_aload_n K d_c6_thing_60 1 rfl ?_
    obtain ⟨v17, e_v17, hy⟩ := gBd hy
    refine g_getR K fl_c6_95 d_c6_thing_61 e_v17 ?_
    refine g_iload_n K d_c6_thing_64 2 rfl ?_
    obtain ⟨v18, e_v18, hy⟩ := gBd hy
    refine g_iald K d_c6_thing_65 e_v18 ?_
    obtain rfl := Option.some.inj hy
    exact hret rfl _ _ _ d_c6_thing_66
  rw [if_neg c6] at hy
  refine g_lkD (tgt := 105) [(97 : Int32), (100 : Int32), (108 : Int32), (109 : Int32), (118 : Int32), (119 : Int32)] K d_c6_thing_1 (by decide +kernel) (List.forall_mem_cons.mpr ⟨c1, (List.forall_mem_cons.mpr ⟨c2, (List.forall_mem_cons.mpr ⟨c3, (List.forall_mem_cons.mpr ⟨c4, (List.forall_mem_cons.mpr ⟨c5, (List.forall_mem_cons.mpr ⟨c6, (fun _ h => absurd h List.not_mem_nil)⟩)⟩)⟩)⟩)⟩)⟩) (by decide +kernel) (by decide) ?_
  refine g_aload_n K d_c6_thing_105 1 rfl ?_
  obtain ⟨v19, e_v19, hy⟩ := gBd hy
  refine g_getI K fl_c6_120 d_c6_thing_106 e_v19 ?_
  refine g_iconst (v := 4) K d_c6_thing_109 (by decide) ?_
  obtain ⟨u20, e_u20, hy⟩ := gBd hy
  refine g_irem K d_c6_thing_110 e_u20 ?_
  obtain rfl := Option.some.inj hy
  exact hret rfl _ _ _ d_c6_thing_111
-- c7 drawFrom
theorem d_c7_drawFrom_0 : gD b_c7_drawFrom 0 (.aload_n 0) 1 1 := ⟨by decide +kernel, rfl⟩
theorem d_c7_drawFrom_1 : gD b_c7_drawFrom 1 (.iload_n 1) 1 2 := ⟨by decide +kernel, rfl⟩
theorem d_c7_drawFrom_2 : gD b_c7_drawFrom 2 (.invokevirtual 45) 3 5 := ⟨by decide +kernel, rfl⟩
theorem d_c7_drawFrom_5 : gJ b_c7_drawFrom 5 (.ifCond .eq 14) 3 14 8 19 := ⟨by decide +kernel, rfl, by decide⟩
theorem d_c7_drawFrom_8 : gD b_c7_drawFrom 8 (.iload_n 2) 1 9 := ⟨by decide +kernel, rfl⟩
theorem d_c7_drawFrom_9 : gD b_c7_drawFrom 9 (.iconst 1) 1 10 := ⟨by decide +kernel, rfl⟩
theorem d_c7_drawFrom_10 : gJ b_c7_drawFrom 10 (.if_icmp .lt 9) 3 9 13 19 := ⟨by decide +kernel, rfl, by decide⟩
theorem d_c7_drawFrom_13 : gD b_c7_drawFrom 13 (.iload_n 2) 1 14 := ⟨by decide +kernel, rfl⟩
theorem d_c7_drawFrom_14 : gD b_c7_drawFrom 14 (.bipush 99) 2 16 := ⟨by decide +kernel, rfl⟩
theorem d_c7_drawFrom_16 : gJ b_c7_drawFrom 16 (.if_icmp .le 5) 3 5 19 21 := ⟨by decide +kernel, rfl, by decide⟩
theorem d_c7_drawFrom_19 : gD b_c7_drawFrom 19 (.iconst (-1)) 1 20 := ⟨by decide +kernel, rfl⟩
theorem d_c7_drawFrom_20 : gD b_c7_drawFrom 20 .ireturn 1 21 := ⟨by decide +kernel, rfl⟩
theorem d_c7_drawFrom_21 : gD b_c7_drawFrom 21 (.aload_n 0) 1 22 := ⟨by decide +kernel, rfl⟩
theorem d_c7_drawFrom_22 : gD b_c7_drawFrom 22 (.getfield 24) 3 25 := ⟨by decide +kernel, rfl⟩
theorem d_c7_drawFrom_25 : gD b_c7_drawFrom 25 (.iload_n 1) 1 26 := ⟨by decide +kernel, rfl⟩
theorem d_c7_drawFrom_26 : gD b_c7_drawFrom 26 .iaload 1 27 := ⟨by decide +kernel, rfl⟩
theorem d_c7_drawFrom_27 : gD b_c7_drawFrom 27 (.iload_n 2) 1 28 := ⟨by decide +kernel, rfl⟩
theorem d_c7_drawFrom_28 : gJ b_c7_drawFrom 28 (.if_icmp .ge 6) 3 6 31 34 := ⟨by decide +kernel, rfl, by decide⟩
theorem d_c7_drawFrom_31 : gD b_c7_drawFrom 31 (.bipush (-2)) 2 33 := ⟨by decide +kernel, rfl⟩
theorem d_c7_drawFrom_33 : gD b_c7_drawFrom 33 .ireturn 1 34 := ⟨by decide +kernel, rfl⟩
theorem d_c7_drawFrom_34 : gD b_c7_drawFrom 34 (.aload_n 0) 1 35 := ⟨by decide +kernel, rfl⟩
theorem d_c7_drawFrom_35 : gD b_c7_drawFrom 35 (.getfield 24) 3 38 := ⟨by decide +kernel, rfl⟩
theorem d_c7_drawFrom_38 : gD b_c7_drawFrom 38 (.iload_n 1) 1 39 := ⟨by decide +kernel, rfl⟩
theorem d_c7_drawFrom_39 : gD b_c7_drawFrom 39 .dup2 1 40 := ⟨by decide +kernel, rfl⟩
theorem d_c7_drawFrom_40 : gD b_c7_drawFrom 40 .iaload 1 41 := ⟨by decide +kernel, rfl⟩
theorem d_c7_drawFrom_41 : gD b_c7_drawFrom 41 (.iload_n 2) 1 42 := ⟨by decide +kernel, rfl⟩
theorem d_c7_drawFrom_42 : gD b_c7_drawFrom 42 .isub 1 43 := ⟨by decide +kernel, rfl⟩
theorem d_c7_drawFrom_43 : gD b_c7_drawFrom 43 .iastore 1 44 := ⟨by decide +kernel, rfl⟩
theorem d_c7_drawFrom_44 : gD b_c7_drawFrom 44 (.aload_n 0) 1 45 := ⟨by decide +kernel, rfl⟩
theorem d_c7_drawFrom_45 : gD b_c7_drawFrom 45 (.getfield 24) 3 48 := ⟨by decide +kernel, rfl⟩
theorem d_c7_drawFrom_48 : gD b_c7_drawFrom 48 (.iload_n 1) 1 49 := ⟨by decide +kernel, rfl⟩
theorem d_c7_drawFrom_49 : gD b_c7_drawFrom 49 .iaload 1 50 := ⟨by decide +kernel, rfl⟩
theorem d_c7_drawFrom_50 : gD b_c7_drawFrom 50 .ireturn 1 51 := ⟨by decide +kernel, rfl⟩
def f_c7_drawFrom (N : Nat) (a0 : Nat) (x1 : Int32) (x2 : Int32) (h : gH) : Option (Int32 × gH) :=
  (gcl h a0 7).bind fun _ =>
  (f_c7_has N a0 x1 h).bind fun q1 =>
    if q1 = 0 then
    some ((-1 : Int32), h)
  else
    if x2 < (1 : Int32) then
    some ((-1 : Int32), h)
  else
    if x2 ≤ (99 : Int32) then
    (gfR h a0 7 5).bind fun v5 =>
    (ga 0 h v5 x1).bind fun v6 =>
    if x2 ≤ v6 then
    (gfR h a0 7 5).bind fun v8 =>
    (ga 0 h v8 x1).bind fun v9 =>
    (sa 0 h v8 x1 (v9 - x2)).bind fun h10 =>
    (gfR h10 a0 7 5).bind fun v11 =>
    (ga 0 h10 v11 x1).bind fun v12 =>
    some (v12, h10)
  else
    some ((-2 : Int32), h)
  else
    some ((-1 : Int32), h)
set_option maxHeartbeats 4000000 in
set_option maxRecDepth 100000 in
theorem ct_c7_drawFrom (l : Launch) (X : gX) (hx : gEx X = false) (N : Nat) (a0 : Nat) (x1 : Int32) (x2 : Int32) (h : gH) (q : Int32 × gH) (hy : f_c7_drawFrom N a0 x1 x2 h = some q) : gRc y_c7_drawFrom h a0 ∧ gMi l X y_c7_drawFrom b_c7_drawFrom 3 .int (2 + N) 0 0 [.ref a0, .int x1, .int x2] h q.1 q.2 := by
  unfold f_c7_drawFrom at hy
  obtain ⟨u0, e_u0, hy⟩ := gBd hy
  cases u0
  refine ⟨Or.inl ⟨7, _, _, e_u0, rfl⟩, gMet_i (lsx := [(0, .ref a0), (1, .int x1), (2, .int x2)]) (by decide) rfl rfl ?_⟩
  intro M hMl K hret
  subst hMl
  refine g_aload_n K d_c7_drawFrom_0 0 rfl ?_
  refine g_iload_n K d_c7_drawFrom_1 1 rfl ?_
  obtain ⟨q1, e_q1, hy⟩ := gBd hy
  refine g_callVi (rest := []) K hx ly_c7_has kv_c7_45 d_c7_drawFrom_2 (ct_c7_has M.2.1 X hx N a0 x1 h q1 e_q1) rfl rfl (Nat.le_of_ble_eq_true rfl) (gDep rfl) ⟨Nat.le_refl 0, Nat.le_refl 0⟩ ?_
  refine g_if_eq K d_c7_drawFrom_5 (fun c2 => ?_) (fun c2 => ?_)
  · rw [if_pos c2] at hy
    refine g_iconst (v := (-1)) K d_c7_drawFrom_19 (by decide) ?_
    obtain rfl := Option.some.inj hy
    exact hret rfl _ _ _ d_c7_drawFrom_20
  · rw [if_neg c2] at hy
    refine g_iload_n K d_c7_drawFrom_8 2 rfl ?_
    refine g_iconst (v := 1) K d_c7_drawFrom_9 (by decide) ?_
    refine g_icmp_lt K d_c7_drawFrom_10 (fun c3 => ?_) (fun c3 => ?_)
    · rw [if_pos c3] at hy
      refine g_iconst (v := (-1)) K d_c7_drawFrom_19 (by decide) ?_
      obtain rfl := Option.some.inj hy
      exact hret rfl _ _ _ d_c7_drawFrom_20
    · rw [if_neg c3] at hy
      refine g_iload_n K d_c7_drawFrom_13 2 rfl ?_
      refine g_bipush (v := 99) K d_c7_drawFrom_14 (by decide) ?_
      refine g_icmp_le K d_c7_drawFrom_16 (fun c4 => ?_) (fun c4 => ?_)
      · rw [if_pos c4] at hy
        refine g_aload_n K d_c7_drawFrom_21 0 rfl ?_
        obtain ⟨v5, e_v5, hy⟩ := gBd hy
        refine g_getR K fl_c7_24 d_c7_drawFrom_22 e_v5 ?_
        refine g_iload_n K d_c7_drawFrom_25 1 rfl ?_
        obtain ⟨v6, e_v6, hy⟩ := gBd hy
        refine g_iald K d_c7_drawFrom_26 e_v6 ?_
        refine g_iload_n K d_c7_drawFrom_27 2 rfl ?_
        refine g_icmp_ge K d_c7_drawFrom_28 (fun c7 => ?_) (fun c7 => ?_)
        · rw [if_pos c7] at hy
          refine g_aload_n K d_c7_drawFrom_34 0 rfl ?_
          obtain ⟨v8, e_v8, hy⟩ := gBd hy
          refine g_getR K fl_c7_24 d_c7_drawFrom_35 e_v8 ?_
          refine g_iload_n K d_c7_drawFrom_38 1 rfl ?_
          refine g_dup2 K d_c7_drawFrom_39 rfl rfl ?_
          obtain ⟨v9, e_v9, hy⟩ := gBd hy
          refine g_iald K d_c7_drawFrom_40 e_v9 ?_
          refine g_iload_n K d_c7_drawFrom_41 2 rfl ?_
          refine g_isub K d_c7_drawFrom_42 ?_
          obtain ⟨h10, e_h10, hy⟩ := gBd hy
          refine g_iast K d_c7_drawFrom_43 e_h10 ?_
          refine g_aload_n K d_c7_drawFrom_44 0 rfl ?_
          obtain ⟨v11, e_v11, hy⟩ := gBd hy
          refine g_getR K fl_c7_24 d_c7_drawFrom_45 e_v11 ?_
          refine g_iload_n K d_c7_drawFrom_48 1 rfl ?_
          obtain ⟨v12, e_v12, hy⟩ := gBd hy
          refine g_iald K d_c7_drawFrom_49 e_v12 ?_
          obtain rfl := Option.some.inj hy
          exact hret rfl _ _ _ d_c7_drawFrom_50
        · rw [if_neg c7] at hy
          refine g_bipush (v := (-2)) K d_c7_drawFrom_31 (by decide) ?_
          obtain rfl := Option.some.inj hy
          exact hret rfl _ _ _ d_c7_drawFrom_33
      · rw [if_neg c4] at hy
        refine g_iconst (v := (-1)) K d_c7_drawFrom_19 (by decide) ?_
        obtain rfl := Option.some.inj hy
        exact hret rfl _ _ _ d_c7_drawFrom_20
-- c7 drop
theorem d_c7_drop_0 : gD b_c7_drop 0 (.iload_n 1) 1 1 := ⟨by decide +kernel, rfl⟩
theorem d_c7_drop_1 : gD b_c7_drop 1 (.iconst 1) 1 2 := ⟨by decide +kernel, rfl⟩
theorem d_c7_drop_2 : gD b_c7_drop 2 .iadd 1 3 := ⟨by decide +kernel, rfl⟩
theorem d_c7_drop_3 : gD b_c7_drop 3 (.istore_n 2) 1 4 := ⟨by decide +kernel, rfl⟩
theorem d_c7_drop_4 : gD b_c7_drop 4 (.iload_n 2) 1 5 := ⟨by decide +kernel, rfl⟩
theorem d_c7_drop_5 : gD b_c7_drop 5 (.aload_n 0) 1 6 := ⟨by decide +kernel, rfl⟩
theorem d_c7_drop_6 : gD b_c7_drop 6 (.getfield 27) 3 9 := ⟨by decide +kernel, rfl⟩
theorem d_c7_drop_9 : gJ b_c7_drop 9 (.if_icmp .ge 18) 3 18 12 27 := ⟨by decide +kernel, rfl, by decide⟩
theorem d_c7_drop_12 : gD b_c7_drop 12 (.aload_n 0) 1 13 := ⟨by decide +kernel, rfl⟩
theorem d_c7_drop_13 : gD b_c7_drop 13 (.aload_n 0) 1 14 := ⟨by decide +kernel, rfl⟩
theorem d_c7_drop_14 : gD b_c7_drop 14 (.iload_n 2) 1 15 := ⟨by decide +kernel, rfl⟩
theorem d_c7_drop_15 : gD b_c7_drop 15 (.iload_n 2) 1 16 := ⟨by decide +kernel, rfl⟩
theorem d_c7_drop_16 : gD b_c7_drop 16 (.iconst 1) 1 17 := ⟨by decide +kernel, rfl⟩
theorem d_c7_drop_17 : gD b_c7_drop 17 .isub 1 18 := ⟨by decide +kernel, rfl⟩
theorem d_c7_drop_18 : gD b_c7_drop 18 (.invokevirtual 37) 3 21 := ⟨by decide +kernel, rfl⟩
theorem d_c7_drop_21 : gD b_c7_drop 21 (.iinc 2 1) 3 24 := ⟨by decide +kernel, rfl⟩
theorem d_c7_drop_24 : gJ b_c7_drop 24 (.goto (-20)) 3 (-20) 27 4 := ⟨by decide +kernel, rfl, by decide⟩
theorem d_c7_drop_27 : gD b_c7_drop 27 (.aload_n 0) 1 28 := ⟨by decide +kernel, rfl⟩
theorem d_c7_drop_28 : gD b_c7_drop 28 .dup 1 29 := ⟨by decide +kernel, rfl⟩
theorem d_c7_drop_29 : gD b_c7_drop 29 (.getfield 27) 3 32 := ⟨by decide +kernel, rfl⟩
theorem d_c7_drop_32 : gD b_c7_drop 32 (.iconst 1) 1 33 := ⟨by decide +kernel, rfl⟩
theorem d_c7_drop_33 : gD b_c7_drop 33 .isub 1 34 := ⟨by decide +kernel, rfl⟩
theorem d_c7_drop_34 : gD b_c7_drop 34 (.putfield 27) 3 37 := ⟨by decide +kernel, rfl⟩
theorem d_c7_drop_37 : gD b_c7_drop 37 .return_ 1 38 := ⟨by decide +kernel, rfl⟩
def lp_c7_drop_4 (N : Nat) (a0 : Nat) : Nat → Int32 → gH → Option (gH)
  | 0, _, _ => none
  | k + 1, x2, h =>
  (gfI h a0 7 0).bind fun v1 =>
    if v1 ≤ x2 then
    some h
  else
    (f_c7_setFrom N a0 a0 x2 (x2 - (1 : Int32)) h).bind fun q3 =>
    lp_c7_drop_4 N a0 k (x2 + (1 : Int32)) q3
def f_c7_drop (N : Nat) (a0 : Nat) (x1 : Int32) (h : gH) : Option (gH) :=
  (gcl h a0 7).bind fun _ =>
  (lp_c7_drop_4 N a0 N (x1 + (1 : Int32)) h).bind fun o4 =>
    (gfI o4 a0 7 0).bind fun v5 =>
    (sf o4 a0 7 0 (.int (v5 - (1 : Int32)))).bind fun h6 =>
    some h6
set_option maxHeartbeats 4000000 in
set_option maxRecDepth 100000 in
theorem wlp_c7_drop_4 {M : gM} {X : gX} {N : Nat} (hx : gEx X = false) (K : gC M X gN7 b_c7_drop 3 (gRm (2 + N) 0 0)) (a0 : Nat) : ∀ (k : Nat) (x2 : Int32) (h : gH) (o : gH), lp_c7_drop_4 N a0 k x2 h = some o → gG M X 3 0 0 27 [(0, .ref a0)] [] o → gG M X 3 0 0 4 [(0, .ref a0), (2, .int x2)] [] h := by
  intro k
  induction k with
  | zero =>
    intro x2 h o hy
    rw [lp_c7_drop_4.eq_1] at hy
    cases hy
  | succ k ih =>
    intro x2 h o hy hE
    rw [lp_c7_drop_4.eq_2] at hy
    refine g_iload_n K d_c7_drop_4 1 rfl ?_
    refine g_aload_n K d_c7_drop_5 0 rfl ?_
    obtain ⟨v1, e_v1, hy⟩ := gBd hy
    refine g_getI K fl_c7_27 d_c7_drop_6 e_v1 ?_
    refine g_icmp_ge K d_c7_drop_9 (fun c2 => ?_) (fun c2 => ?_)
    · rw [if_pos c2] at hy
      refine g_sub (ls2 := [(0, .ref a0)]) [0] rfl ?_
      obtain rfl := Option.some.inj hy
      exact hE
    · rw [if_neg c2] at hy
      refine g_aload_n K d_c7_drop_12 0 rfl ?_
      refine g_aload_n K d_c7_drop_13 0 rfl ?_
      refine g_iload_n K d_c7_drop_14 1 rfl ?_
      refine g_iload_n K d_c7_drop_15 1 rfl ?_
      refine g_iconst (v := 1) K d_c7_drop_16 (by decide) ?_
      refine g_isub K d_c7_drop_17 ?_
      obtain ⟨q3, e_q3, hy⟩ := gBd hy
      refine g_callVv (rest := []) K hx ly_c7_setFrom kv_c7_37 d_c7_drop_18 (ct_c7_setFrom M.2.1 X hx N a0 a0 x2 (x2 - (1 : Int32)) h q3 e_q3) rfl rfl (Nat.le_of_ble_eq_true rfl) (gDep rfl) ⟨Nat.le_refl 0, Nat.le_refl 0⟩ ?_
      refine g_iinc (ls2 := [(2, .int (x2 + (1 : Int32))), (0, .ref a0)]) (v := 1) K d_c7_drop_21 1 rfl (by decide) rfl rfl ?_
      refine g_goto K d_c7_drop_24 ?_
      refine g_sub (ls2 := [(0, .ref a0), (2, .int (x2 + (1 : Int32)))]) [1, 0] rfl ?_
      exact ih _ _ _ hy hE
set_option maxHeartbeats 4000000 in
set_option maxRecDepth 100000 in
theorem ct_c7_drop (l : Launch) (X : gX) (hx : gEx X = false) (N : Nat) (a0 : Nat) (x1 : Int32) (h : gH) (q : gH) (hy : f_c7_drop N a0 x1 h = some q) : gRc y_c7_drop h a0 ∧ gMv l X y_c7_drop b_c7_drop 3 (2 + N) 0 0 [.ref a0, .int x1] h q := by
  unfold f_c7_drop at hy
  obtain ⟨u0, e_u0, hy⟩ := gBd hy
  cases u0
  refine ⟨Or.inl ⟨7, _, _, e_u0, rfl⟩, gMet_v (lsx := [(0, .ref a0), (1, .int x1)]) (by decide) rfl rfl ?_⟩
  intro M hMl K hret
  subst hMl
  refine g_iload_n K d_c7_drop_0 1 rfl ?_
  refine g_iconst (v := 1) K d_c7_drop_1 (by decide) ?_
  refine g_iadd K d_c7_drop_2 ?_
  refine g_istore_n (ls2 := [(2, .int (x1 + (1 : Int32))), (0, .ref a0), (1, .int x1)]) K d_c7_drop_3 rfl rfl ?_
  obtain ⟨o4, e_o4, hy⟩ := gBd hy
  refine g_sub (ls2 := [(0, .ref a0), (2, .int (x1 + (1 : Int32)))]) [1, 0] rfl ?_
  refine wlp_c7_drop_4 hx K a0 N (x1 + (1 : Int32)) h o4 e_o4 ?_
  refine g_aload_n K d_c7_drop_27 0 rfl ?_
  refine g_dup K d_c7_drop_28 rfl ?_
  obtain ⟨v5, e_v5, hy⟩ := gBd hy
  refine g_getI K fl_c7_27 d_c7_drop_29 e_v5 ?_
  refine g_iconst (v := 1) K d_c7_drop_32 (by decide) ?_
  refine g_isub K d_c7_drop_33 ?_
  obtain ⟨h6, e_h6, hy⟩ := gBd hy
  refine g_putI K fp_c7_27 d_c7_drop_34 e_h6 ?_
  obtain rfl := Option.some.inj hy
  exact hret _ _ _ d_c7_drop_37
-- c7 howManyDry
theorem d_c7_howManyDry_0 : gD b_c7_howManyDry 0 (.aload_n 0) 1 1 := ⟨by decide +kernel, rfl⟩
theorem d_c7_howManyDry_1 : gD b_c7_howManyDry 1 (.invokevirtual 52) 3 4 := ⟨by decide +kernel, rfl⟩
theorem d_c7_howManyDry_4 : gD b_c7_howManyDry 4 (.invokestatic 56) 3 7 := ⟨by decide +kernel, rfl⟩
theorem d_c7_howManyDry_7 : gD b_c7_howManyDry 7 .ireturn 1 8 := ⟨by decide +kernel, rfl⟩
def f_c7_howManyDry (N : Nat) (a0 : Nat) (h : gH) : Option (Int32) :=
  (gcl h a0 7).bind fun _ =>
  (f_c7_dryOnes N a0 h).bind fun q1 =>
    (f_jInteger_bitCount N q1 h).bind fun q2 =>
    some q2
set_option maxHeartbeats 4000000 in
set_option maxRecDepth 100000 in
theorem ct_c7_howManyDry (l : Launch) (X : gX) (hx : gEx X = false) (N : Nat) (a0 : Nat) (h : gH) (q : Int32) (hy : f_c7_howManyDry N a0 h = some q) : gRc y_c7_howManyDry h a0 ∧ gMi l X y_c7_howManyDry b_c7_howManyDry 1 .int (2 + N) 0 0 [.ref a0] h q h := by
  unfold f_c7_howManyDry at hy
  obtain ⟨u0, e_u0, hy⟩ := gBd hy
  cases u0
  refine ⟨Or.inl ⟨7, _, _, e_u0, rfl⟩, gMet_i (lsx := [(0, .ref a0)]) (by decide) rfl rfl ?_⟩
  intro M hMl K hret
  subst hMl
  refine g_aload_n K d_c7_howManyDry_0 0 rfl ?_
  obtain ⟨q1, e_q1, hy⟩ := gBd hy
  refine g_callVi (rest := []) K hx ly_c7_dryOnes kv_c7_52 d_c7_howManyDry_1 (ct_c7_dryOnes M.2.1 X hx N a0 h q1 e_q1) rfl rfl (Nat.le_of_ble_eq_true rfl) (gDep rfl) ⟨Nat.le_refl 0, Nat.le_refl 0⟩ ?_
  obtain ⟨q2, e_q2, hy⟩ := gBd hy
  refine g_callSi (rest := []) K hx ly_jInteger_bitCount ks_c7_56 d_c7_howManyDry_4 (ct_jInteger_bitCount M.2.1 X hx N q1 h q2 e_q2) rfl rfl (Nat.le_of_ble_eq_true rfl) (gDep rfl) ⟨Nat.le_refl 0, Nat.le_refl 0⟩ ?_
  obtain rfl := Option.some.inj hy
  exact hret rfl _ _ _ d_c7_howManyDry_7
-- c7 sayOn
theorem d_c7_sayOn_0 : gD b_c7_sayOn 0 (.aload_n 0) 1 1 := ⟨by decide +kernel, rfl⟩
theorem d_c7_sayOn_1 : gD b_c7_sayOn 1 (.iload_n 1) 1 2 := ⟨by decide +kernel, rfl⟩
theorem d_c7_sayOn_2 : gD b_c7_sayOn 2 (.invokevirtual 41) 3 5 := ⟨by decide +kernel, rfl⟩
theorem d_c7_sayOn_5 : gJ b_c7_sayOn 5 (.ifCond .lt 6) 3 6 8 11 := ⟨by decide +kernel, rfl, by decide⟩
theorem d_c7_sayOn_8 : gD b_c7_sayOn 8 (.bipush (-2)) 2 10 := ⟨by decide +kernel, rfl⟩
theorem d_c7_sayOn_10 : gD b_c7_sayOn 10 .ireturn 1 11 := ⟨by decide +kernel, rfl⟩
theorem d_c7_sayOn_11 : gD b_c7_sayOn 11 (.aload_n 0) 1 12 := ⟨by decide +kernel, rfl⟩
theorem d_c7_sayOn_12 : gD b_c7_sayOn 12 (.getfield 27) 3 15 := ⟨by decide +kernel, rfl⟩
theorem d_c7_sayOn_15 : gD b_c7_sayOn 15 (.bipush 8) 2 17 := ⟨by decide +kernel, rfl⟩
theorem d_c7_sayOn_17 : gJ b_c7_sayOn 17 (.if_icmp .lt 6) 3 6 20 23 := ⟨by decide +kernel, rfl, by decide⟩
theorem d_c7_sayOn_20 : gD b_c7_sayOn 20 (.bipush (-3)) 2 22 := ⟨by decide +kernel, rfl⟩
theorem d_c7_sayOn_22 : gD b_c7_sayOn 22 .ireturn 1 23 := ⟨by decide +kernel, rfl⟩
theorem d_c7_sayOn_23 : gD b_c7_sayOn 23 (.aload_n 0) 1 24 := ⟨by decide +kernel, rfl⟩
theorem d_c7_sayOn_24 : gD b_c7_sayOn 24 (.getfield 9) 3 27 := ⟨by decide +kernel, rfl⟩
theorem d_c7_sayOn_27 : gD b_c7_sayOn 27 (.aload_n 0) 1 28 := ⟨by decide +kernel, rfl⟩
theorem d_c7_sayOn_28 : gD b_c7_sayOn 28 (.getfield 27) 3 31 := ⟨by decide +kernel, rfl⟩
theorem d_c7_sayOn_31 : gD b_c7_sayOn 31 (.iload_n 1) 1 32 := ⟨by decide +kernel, rfl⟩
theorem d_c7_sayOn_32 : gD b_c7_sayOn 32 .iastore 1 33 := ⟨by decide +kernel, rfl⟩
theorem d_c7_sayOn_33 : gD b_c7_sayOn 33 (.aload_n 0) 1 34 := ⟨by decide +kernel, rfl⟩
theorem d_c7_sayOn_34 : gD b_c7_sayOn 34 (.getfield 15) 3 37 := ⟨by decide +kernel, rfl⟩
theorem d_c7_sayOn_37 : gD b_c7_sayOn 37 (.aload_n 0) 1 38 := ⟨by decide +kernel, rfl⟩
theorem d_c7_sayOn_38 : gD b_c7_sayOn 38 (.getfield 27) 3 41 := ⟨by decide +kernel, rfl⟩
theorem d_c7_sayOn_41 : gD b_c7_sayOn 41 (.iload_n 2) 1 42 := ⟨by decide +kernel, rfl⟩
theorem d_c7_sayOn_42 : gD b_c7_sayOn 42 .iastore 1 43 := ⟨by decide +kernel, rfl⟩
theorem d_c7_sayOn_43 : gD b_c7_sayOn 43 (.aload_n 0) 1 44 := ⟨by decide +kernel, rfl⟩
theorem d_c7_sayOn_44 : gD b_c7_sayOn 44 (.getfield 18) 3 47 := ⟨by decide +kernel, rfl⟩
theorem d_c7_sayOn_47 : gD b_c7_sayOn 47 (.aload_n 0) 1 48 := ⟨by decide +kernel, rfl⟩
theorem d_c7_sayOn_48 : gD b_c7_sayOn 48 (.getfield 27) 3 51 := ⟨by decide +kernel, rfl⟩
theorem d_c7_sayOn_51 : gD b_c7_sayOn 51 (.iload_n 3) 1 52 := ⟨by decide +kernel, rfl⟩
theorem d_c7_sayOn_52 : gD b_c7_sayOn 52 .iastore 1 53 := ⟨by decide +kernel, rfl⟩
theorem d_c7_sayOn_53 : gD b_c7_sayOn 53 (.aload_n 0) 1 54 := ⟨by decide +kernel, rfl⟩
theorem d_c7_sayOn_54 : gD b_c7_sayOn 54 (.getfield 21) 3 57 := ⟨by decide +kernel, rfl⟩
theorem d_c7_sayOn_57 : gD b_c7_sayOn 57 (.aload_n 0) 1 58 := ⟨by decide +kernel, rfl⟩
theorem d_c7_sayOn_58 : gD b_c7_sayOn 58 (.getfield 27) 3 61 := ⟨by decide +kernel, rfl⟩
theorem d_c7_sayOn_61 : gD b_c7_sayOn 61 (.iconst 0) 1 62 := ⟨by decide +kernel, rfl⟩
theorem d_c7_sayOn_62 : gD b_c7_sayOn 62 .iastore 1 63 := ⟨by decide +kernel, rfl⟩
theorem d_c7_sayOn_63 : gD b_c7_sayOn 63 (.aload_n 0) 1 64 := ⟨by decide +kernel, rfl⟩
theorem d_c7_sayOn_64 : gD b_c7_sayOn 64 (.getfield 24) 3 67 := ⟨by decide +kernel, rfl⟩
theorem d_c7_sayOn_67 : gD b_c7_sayOn 67 (.aload_n 0) 1 68 := ⟨by decide +kernel, rfl⟩
theorem d_c7_sayOn_68 : gD b_c7_sayOn 68 (.getfield 27) 3 71 := ⟨by decide +kernel, rfl⟩
theorem d_c7_sayOn_71 : gD b_c7_sayOn 71 (.iconst 0) 1 72 := ⟨by decide +kernel, rfl⟩
theorem d_c7_sayOn_72 : gD b_c7_sayOn 72 .iastore 1 73 := ⟨by decide +kernel, rfl⟩
theorem d_c7_sayOn_73 : gD b_c7_sayOn 73 (.aload_n 0) 1 74 := ⟨by decide +kernel, rfl⟩
theorem d_c7_sayOn_74 : gD b_c7_sayOn 74 .dup 1 75 := ⟨by decide +kernel, rfl⟩
theorem d_c7_sayOn_75 : gD b_c7_sayOn 75 (.getfield 27) 3 78 := ⟨by decide +kernel, rfl⟩
theorem d_c7_sayOn_78 : gD b_c7_sayOn 78 (.iconst 1) 1 79 := ⟨by decide +kernel, rfl⟩
theorem d_c7_sayOn_79 : gD b_c7_sayOn 79 .iadd 1 80 := ⟨by decide +kernel, rfl⟩
theorem d_c7_sayOn_80 : gD b_c7_sayOn 80 (.putfield 27) 3 83 := ⟨by decide +kernel, rfl⟩
theorem d_c7_sayOn_83 : gD b_c7_sayOn 83 (.aload_n 0) 1 84 := ⟨by decide +kernel, rfl⟩
theorem d_c7_sayOn_84 : gD b_c7_sayOn 84 (.getfield 27) 3 87 := ⟨by decide +kernel, rfl⟩
theorem d_c7_sayOn_87 : gD b_c7_sayOn 87 (.iconst 1) 1 88 := ⟨by decide +kernel, rfl⟩
theorem d_c7_sayOn_88 : gD b_c7_sayOn 88 .isub 1 89 := ⟨by decide +kernel, rfl⟩
theorem d_c7_sayOn_89 : gD b_c7_sayOn 89 .ireturn 1 90 := ⟨by decide +kernel, rfl⟩
def f_c7_sayOn (N : Nat) (a0 : Nat) (x1 : Int32) (x2 : Int32) (x3 : Int32) (h : gH) : Option (Int32 × gH) :=
  (gcl h a0 7).bind fun _ =>
  (f_c7_wellOn N a0 x1 h).bind fun q1 =>
    if q1 < 0 then
    (gfI h a0 7 0).bind fun v3 =>
    if v3 < (8 : Int32) then
    (gfR h a0 7 1).bind fun v5 =>
    (gfI h a0 7 0).bind fun v6 =>
    (sa 0 h v5 v6 x1).bind fun h7 =>
    (gfR h7 a0 7 2).bind fun v8 =>
    (gfI h7 a0 7 0).bind fun v9 =>
    (sa 0 h7 v8 v9 x2).bind fun h10 =>
    (gfR h10 a0 7 3).bind fun v11 =>
    (gfI h10 a0 7 0).bind fun v12 =>
    (sa 0 h10 v11 v12 x3).bind fun h13 =>
    (gfR h13 a0 7 4).bind fun v14 =>
    (gfI h13 a0 7 0).bind fun v15 =>
    (sa 0 h13 v14 v15 (0 : Int32)).bind fun h16 =>
    (gfR h16 a0 7 5).bind fun v17 =>
    (gfI h16 a0 7 0).bind fun v18 =>
    (sa 0 h16 v17 v18 (0 : Int32)).bind fun h19 =>
    (gfI h19 a0 7 0).bind fun v20 =>
    (sf h19 a0 7 0 (.int (v20 + (1 : Int32)))).bind fun h21 =>
    (gfI h21 a0 7 0).bind fun v22 =>
    some (v22 - (1 : Int32), h21)
  else
    some ((-3 : Int32), h)
  else
    some ((-2 : Int32), h)
set_option maxHeartbeats 4000000 in
set_option maxRecDepth 100000 in
theorem ct_c7_sayOn (l : Launch) (X : gX) (hx : gEx X = false) (N : Nat) (a0 : Nat) (x1 : Int32) (x2 : Int32) (x3 : Int32) (h : gH) (q : Int32 × gH) (hy : f_c7_sayOn N a0 x1 x2 x3 h = some q) : gRc y_c7_sayOn h a0 ∧ gMi l X y_c7_sayOn b_c7_sayOn 4 .int (2 + N) 0 0 [.ref a0, .int x1, .int x2, .int x3] h q.1 q.2 := by
  unfold f_c7_sayOn at hy
  obtain ⟨u0, e_u0, hy⟩ := gBd hy
  cases u0
  refine ⟨Or.inl ⟨7, _, _, e_u0, rfl⟩, gMet_i (lsx := [(0, .ref a0), (1, .int x1), (2, .int x2), (3, .int x3)]) (by decide) rfl rfl ?_⟩
  intro M hMl K hret
  subst hMl
  refine g_aload_n K d_c7_sayOn_0 0 rfl ?_
  refine g_iload_n K d_c7_sayOn_1 1 rfl ?_
  obtain ⟨q1, e_q1, hy⟩ := gBd hy
  refine g_callVi (rest := []) K hx ly_c7_wellOn kv_c7_41 d_c7_sayOn_2 (ct_c7_wellOn M.2.1 X hx N a0 x1 h q1 e_q1) rfl rfl (Nat.le_of_ble_eq_true rfl) (gDep rfl) ⟨Nat.le_refl 0, Nat.le_refl 0⟩ ?_
  refine g_if_lt K d_c7_sayOn_5 (fun c2 => ?_) (fun c2 => ?_)
  · rw [if_pos c2] at hy
    refine g_aload_n K d_c7_sayOn_11 0 rfl ?_
    obtain ⟨v3, e_v3, hy⟩ := gBd hy
    refine g_getI K fl_c7_27 d_c7_sayOn_12 e_v3 ?_
    refine g_bipush (v := 8) K d_c7_sayOn_15 (by decide) ?_
    refine g_icmp_lt K d_c7_sayOn_17 (fun c4 => ?_) (fun c4 => ?_)
    · rw [if_pos c4] at hy
      refine g_aload_n K d_c7_sayOn_23 0 rfl ?_
      obtain ⟨v5, e_v5, hy⟩ := gBd hy
      refine g_getR K fl_c7_9 d_c7_sayOn_24 e_v5 ?_
      refine g_aload_n K d_c7_sayOn_27 0 rfl ?_
      obtain ⟨v6, e_v6, hy⟩ := gBd hy
      refine g_getI K fl_c7_27 d_c7_sayOn_28 e_v6 ?_
      refine g_iload_n K d_c7_sayOn_31 1 rfl ?_
      obtain ⟨h7, e_h7, hy⟩ := gBd hy
      refine g_iast K d_c7_sayOn_32 e_h7 ?_
      refine g_aload_n K d_c7_sayOn_33 0 rfl ?_
      obtain ⟨v8, e_v8, hy⟩ := gBd hy
      refine g_getR K fl_c7_15 d_c7_sayOn_34 e_v8 ?_
      refine g_aload_n K d_c7_sayOn_37 0 rfl ?_
      obtain ⟨v9, e_v9, hy⟩ := gBd hy
      refine g_getI K fl_c7_27 d_c7_sayOn_38 e_v9 ?_
      refine g_iload_n K d_c7_sayOn_41 2 rfl ?_
      obtain ⟨h10, e_h10, hy⟩ := gBd hy
      refine g_iast K d_c7_sayOn_42 e_h10 ?_
      refine g_aload_n K d_c7_sayOn_43 0 rfl ?_
      obtain ⟨v11, e_v11, hy⟩ := gBd hy
      refine g_getR K fl_c7_18 d_c7_sayOn_44 e_v11 ?_
      refine g_aload_n K d_c7_sayOn_47 0 rfl ?_
      obtain ⟨v12, e_v12, hy⟩ := gBd hy
      refine g_getI K fl_c7_27 d_c7_sayOn_48 e_v12 ?_
      refine g_iload_n K d_c7_sayOn_51 3 rfl ?_
      obtain ⟨h13, e_h13, hy⟩ := gBd hy
      refine g_iast K d_c7_sayOn_52 e_h13 ?_
      refine g_aload_n K d_c7_sayOn_53 0 rfl ?_
      obtain ⟨v14, e_v14, hy⟩ := gBd hy
      refine g_getR K fl_c7_21 d_c7_sayOn_54 e_v14 ?_
      refine g_aload_n K d_c7_sayOn_57 0 rfl ?_
      obtain ⟨v15, e_v15, hy⟩ := gBd hy
      refine g_getI K fl_c7_27 d_c7_sayOn_58 e_v15 ?_
      refine g_iconst (v := 0) K d_c7_sayOn_61 (by decide) ?_
      obtain ⟨h16, e_h16, hy⟩ := gBd hy
      refine g_iast K d_c7_sayOn_62 e_h16 ?_
      refine g_aload_n K d_c7_sayOn_63 0 rfl ?_
      obtain ⟨v17, e_v17, hy⟩ := gBd hy
      refine g_getR K fl_c7_24 d_c7_sayOn_64 e_v17 ?_
      refine g_aload_n K d_c7_sayOn_67 0 rfl ?_
      obtain ⟨v18, e_v18, hy⟩ := gBd hy
      refine g_getI K fl_c7_27 d_c7_sayOn_68 e_v18 ?_
      refine g_iconst (v := 0) K d_c7_sayOn_71 (by decide) ?_
      obtain ⟨h19, e_h19, hy⟩ := gBd hy
      refine g_iast K d_c7_sayOn_72 e_h19 ?_
      refine g_aload_n K d_c7_sayOn_73 0 rfl ?_
      refine g_dup K d_c7_sayOn_74 rfl ?_
      obtain ⟨v20, e_v20, hy⟩ := gBd hy
      refine g_getI K fl_c7_27 d_c7_sayOn_75 e_v20 ?_
      refine g_iconst (v := 1) K d_c7_sayOn_78 (by decide) ?_
      refine g_iadd K d_c7_sayOn_79 ?_
      obtain ⟨h21, e_h21, hy⟩ := gBd hy
      refine g_putI K fp_c7_27 d_c7_sayOn_80 e_h21 ?_
      refine g_aload_n K d_c7_sayOn_83 0 rfl ?_
      obtain ⟨v22, e_v22, hy⟩ := gBd hy
      refine g_getI K fl_c7_27 d_c7_sayOn_84 e_v22 ?_
      refine g_iconst (v := 1) K d_c7_sayOn_87 (by decide) ?_
      refine g_isub K d_c7_sayOn_88 ?_
      obtain rfl := Option.some.inj hy
      exact hret rfl _ _ _ d_c7_sayOn_89
    · rw [if_neg c4] at hy
      refine g_bipush (v := (-3)) K d_c7_sayOn_20 (by decide) ?_
      obtain rfl := Option.some.inj hy
      exact hret rfl _ _ _ d_c7_sayOn_22
  · rw [if_neg c2] at hy
    refine g_bipush (v := (-2)) K d_c7_sayOn_8 (by decide) ?_
    obtain rfl := Option.some.inj hy
    exact hret rfl _ _ _ d_c7_sayOn_10
-- c7 take
theorem d_c7_take_0 : gD b_c7_take 0 (.aload_n 0) 1 1 := ⟨by decide +kernel, rfl⟩
theorem d_c7_take_1 : gD b_c7_take 1 (.aload_n 1) 1 2 := ⟨by decide +kernel, rfl⟩
theorem d_c7_take_2 : gD b_c7_take 2 (.getfield 27) 3 5 := ⟨by decide +kernel, rfl⟩
theorem d_c7_take_5 : gD b_c7_take 5 (.putfield 27) 3 8 := ⟨by decide +kernel, rfl⟩
theorem d_c7_take_8 : gD b_c7_take 8 (.aload_n 0) 1 9 := ⟨by decide +kernel, rfl⟩
theorem d_c7_take_9 : gD b_c7_take 9 (.aload_n 1) 1 10 := ⟨by decide +kernel, rfl⟩
theorem d_c7_take_10 : gD b_c7_take 10 (.getfield 31) 3 13 := ⟨by decide +kernel, rfl⟩
theorem d_c7_take_13 : gD b_c7_take 13 (.putfield 31) 3 16 := ⟨by decide +kernel, rfl⟩
theorem d_c7_take_16 : gD b_c7_take 16 (.aload_n 0) 1 17 := ⟨by decide +kernel, rfl⟩
theorem d_c7_take_17 : gD b_c7_take 17 (.aload_n 1) 1 18 := ⟨by decide +kernel, rfl⟩
theorem d_c7_take_18 : gD b_c7_take 18 (.getfield 34) 3 21 := ⟨by decide +kernel, rfl⟩
theorem d_c7_take_21 : gD b_c7_take 21 (.putfield 34) 3 24 := ⟨by decide +kernel, rfl⟩
theorem d_c7_take_24 : gD b_c7_take 24 (.iconst 0) 1 25 := ⟨by decide +kernel, rfl⟩
theorem d_c7_take_25 : gD b_c7_take 25 (.istore_n 2) 1 26 := ⟨by decide +kernel, rfl⟩
theorem d_c7_take_26 : gD b_c7_take 26 (.iload_n 2) 1 27 := ⟨by decide +kernel, rfl⟩
theorem d_c7_take_27 : gD b_c7_take 27 (.aload_n 0) 1 28 := ⟨by decide +kernel, rfl⟩
theorem d_c7_take_28 : gD b_c7_take 28 (.getfield 27) 3 31 := ⟨by decide +kernel, rfl⟩
theorem d_c7_take_31 : gJ b_c7_take 31 (.if_icmp .ge 16) 3 16 34 47 := ⟨by decide +kernel, rfl, by decide⟩
theorem d_c7_take_34 : gD b_c7_take 34 (.aload_n 0) 1 35 := ⟨by decide +kernel, rfl⟩
theorem d_c7_take_35 : gD b_c7_take 35 (.aload_n 1) 1 36 := ⟨by decide +kernel, rfl⟩
theorem d_c7_take_36 : gD b_c7_take 36 (.iload_n 2) 1 37 := ⟨by decide +kernel, rfl⟩
theorem d_c7_take_37 : gD b_c7_take 37 (.iload_n 2) 1 38 := ⟨by decide +kernel, rfl⟩
theorem d_c7_take_38 : gD b_c7_take 38 (.invokevirtual 37) 3 41 := ⟨by decide +kernel, rfl⟩
theorem d_c7_take_41 : gD b_c7_take 41 (.iinc 2 1) 3 44 := ⟨by decide +kernel, rfl⟩
theorem d_c7_take_44 : gJ b_c7_take 44 (.goto (-18)) 3 (-18) 47 26 := ⟨by decide +kernel, rfl, by decide⟩
theorem d_c7_take_47 : gD b_c7_take 47 .return_ 1 48 := ⟨by decide +kernel, rfl⟩
def lp_c7_take_26 (N : Nat) (a0 : Nat) (a1 : Nat) : Nat → Int32 → gH → Option (gH)
  | 0, _, _ => none
  | k + 1, x2, h =>
  (gfI h a0 7 0).bind fun v7 =>
    if v7 ≤ x2 then
    some h
  else
    (f_c7_setFrom N a0 a1 x2 x2 h).bind fun q9 =>
    lp_c7_take_26 N a0 a1 k (x2 + (1 : Int32)) q9
def f_c7_take (N : Nat) (a0 : Nat) (a1 : Nat) (h : gH) : Option (gH) :=
  (gcl h a0 7).bind fun _ =>
  (gfI h a1 7 0).bind fun v1 =>
    (sf h a0 7 0 (.int v1)).bind fun h2 =>
    (gfI h2 a1 7 6).bind fun v3 =>
    (sf h2 a0 7 6 (.int v3)).bind fun h4 =>
    (gfI h4 a1 7 7).bind fun v5 =>
    (sf h4 a0 7 7 (.int v5)).bind fun h6 =>
    (lp_c7_take_26 N a0 a1 N (0 : Int32) h6).bind fun o10 =>
    some o10
set_option maxHeartbeats 4000000 in
set_option maxRecDepth 100000 in
theorem wlp_c7_take_26 {M : gM} {X : gX} {N : Nat} (hx : gEx X = false) (K : gC M X gN7 b_c7_take 3 (gRm (2 + N) 0 0)) (a0 : Nat) (a1 : Nat) : ∀ (k : Nat) (x2 : Int32) (h : gH) (o : gH), lp_c7_take_26 N a0 a1 k x2 h = some o → gG M X 3 0 0 47 [] [] o → gG M X 3 0 0 26 [(0, .ref a0), (1, .ref a1), (2, .int x2)] [] h := by
  intro k
  induction k with
  | zero =>
    intro x2 h o hy
    rw [lp_c7_take_26.eq_1] at hy
    cases hy
  | succ k ih =>
    intro x2 h o hy hE
    rw [lp_c7_take_26.eq_2] at hy
    refine g_iload_n K d_c7_take_26 2 rfl ?_
    refine g_aload_n K d_c7_take_27 0 rfl ?_
    obtain ⟨v7, e_v7, hy⟩ := gBd hy
    refine g_getI K fl_c7_27 d_c7_take_28 e_v7 ?_
    refine g_icmp_ge K d_c7_take_31 (fun c8 => ?_) (fun c8 => ?_)
    · rw [if_pos c8] at hy
      refine g_sub (ls2 := []) [] rfl ?_
      obtain rfl := Option.some.inj hy
      exact hE
    · rw [if_neg c8] at hy
      refine g_aload_n K d_c7_take_34 0 rfl ?_
      refine g_aload_n K d_c7_take_35 1 rfl ?_
      refine g_iload_n K d_c7_take_36 2 rfl ?_
      refine g_iload_n K d_c7_take_37 2 rfl ?_
      obtain ⟨q9, e_q9, hy⟩ := gBd hy
      refine g_callVv (rest := []) K hx ly_c7_setFrom kv_c7_37 d_c7_take_38 (ct_c7_setFrom M.2.1 X hx N a0 a1 x2 x2 h q9 e_q9) rfl rfl (Nat.le_of_ble_eq_true rfl) (gDep rfl) ⟨Nat.le_refl 0, Nat.le_refl 0⟩ ?_
      refine g_iinc (ls2 := [(2, .int (x2 + (1 : Int32))), (0, .ref a0), (1, .ref a1)]) (v := 1) K d_c7_take_41 2 rfl (by decide) rfl rfl ?_
      refine g_goto K d_c7_take_44 ?_
      refine g_sub (ls2 := [(0, .ref a0), (1, .ref a1), (2, .int (x2 + (1 : Int32)))]) [1, 2, 0] rfl ?_
      exact ih _ _ _ hy hE
set_option maxHeartbeats 4000000 in
set_option maxRecDepth 100000 in
theorem ct_c7_take (l : Launch) (X : gX) (hx : gEx X = false) (N : Nat) (a0 : Nat) (a1 : Nat) (h : gH) (q : gH) (hy : f_c7_take N a0 a1 h = some q) : gRc y_c7_take h a0 ∧ gMv l X y_c7_take b_c7_take 3 (2 + N) 0 0 [.ref a0, .ref a1] h q := by
  unfold f_c7_take at hy
  obtain ⟨u0, e_u0, hy⟩ := gBd hy
  cases u0
  refine ⟨Or.inl ⟨7, _, _, e_u0, rfl⟩, gMet_v (lsx := [(0, .ref a0), (1, .ref a1)]) (by decide) rfl rfl ?_⟩
  intro M hMl K hret
  subst hMl
  refine g_aload_n K d_c7_take_0 0 rfl ?_
  refine g_aload_n K d_c7_take_1 1 rfl ?_
  obtain ⟨v1, e_v1, hy⟩ := gBd hy
  refine g_getI K fl_c7_27 d_c7_take_2 e_v1 ?_
  obtain ⟨h2, e_h2, hy⟩ := gBd hy
  refine g_putI K fp_c7_27 d_c7_take_5 e_h2 ?_
  refine g_aload_n K d_c7_take_8 0 rfl ?_
  refine g_aload_n K d_c7_take_9 1 rfl ?_
  obtain ⟨v3, e_v3, hy⟩ := gBd hy
  refine g_getI K fl_c7_31 d_c7_take_10 e_v3 ?_
  obtain ⟨h4, e_h4, hy⟩ := gBd hy
  refine g_putI K fp_c7_31 d_c7_take_13 e_h4 ?_
  refine g_aload_n K d_c7_take_16 0 rfl ?_
  refine g_aload_n K d_c7_take_17 1 rfl ?_
  obtain ⟨v5, e_v5, hy⟩ := gBd hy
  refine g_getI K fl_c7_34 d_c7_take_18 e_v5 ?_
  obtain ⟨h6, e_h6, hy⟩ := gBd hy
  refine g_putI K fp_c7_34 d_c7_take_21 e_h6 ?_
  refine g_iconst (v := 0) K d_c7_take_24 (by decide) ?_
  refine g_istore_n (ls2 := [(2, .int (0 : Int32)), (0, .ref a0), (1, .ref a1)]) K d_c7_take_25 rfl rfl ?_
  obtain ⟨o10, e_o10, hy⟩ := gBd hy
  refine g_sub (ls2 := [(0, .ref a0), (1, .ref a1), (2, .int (0 : Int32))]) [1, 2, 0] rfl ?_
  refine wlp_c7_take_26 hx K a0 a1 N (0 : Int32) h6 o10 e_o10 ?_
  obtain rfl := Option.some.inj hy
  exact hret _ _ _ d_c7_take_47
-- c7 takeAnds
theorem d_c7_takeAnds_0 : gD b_c7_takeAnds 0 (.aload_n 0) 1 1 := ⟨by decide +kernel, rfl⟩
theorem d_c7_takeAnds_1 : gD b_c7_takeAnds 1 (.iload_n 1) 1 2 := ⟨by decide +kernel, rfl⟩
theorem d_c7_takeAnds_2 : gD b_c7_takeAnds 2 (.invokevirtual 45) 3 5 := ⟨by decide +kernel, rfl⟩
theorem d_c7_takeAnds_5 : gJ b_c7_takeAnds 5 (.ifCond .ne 5) 3 5 8 10 := ⟨by decide +kernel, rfl, by decide⟩
theorem d_c7_takeAnds_8 : gD b_c7_takeAnds 8 (.iconst (-1)) 1 9 := ⟨by decide +kernel, rfl⟩
theorem d_c7_takeAnds_9 : gD b_c7_takeAnds 9 .ireturn 1 10 := ⟨by decide +kernel, rfl⟩
theorem d_c7_takeAnds_10 : gD b_c7_takeAnds 10 (.aload_n 0) 1 11 := ⟨by decide +kernel, rfl⟩
theorem d_c7_takeAnds_11 : gD b_c7_takeAnds 11 (.getfield 21) 3 14 := ⟨by decide +kernel, rfl⟩
theorem d_c7_takeAnds_14 : gD b_c7_takeAnds 14 (.iload_n 1) 1 15 := ⟨by decide +kernel, rfl⟩
theorem d_c7_takeAnds_15 : gD b_c7_takeAnds 15 .iaload 1 16 := ⟨by decide +kernel, rfl⟩
theorem d_c7_takeAnds_16 : gD b_c7_takeAnds 16 (.istore_n 2) 1 17 := ⟨by decide +kernel, rfl⟩
theorem d_c7_takeAnds_17 : gD b_c7_takeAnds 17 (.aload_n 0) 1 18 := ⟨by decide +kernel, rfl⟩
theorem d_c7_takeAnds_18 : gD b_c7_takeAnds 18 (.getfield 21) 3 21 := ⟨by decide +kernel, rfl⟩
theorem d_c7_takeAnds_21 : gD b_c7_takeAnds 21 (.iload_n 1) 1 22 := ⟨by decide +kernel, rfl⟩
theorem d_c7_takeAnds_22 : gD b_c7_takeAnds 22 (.iconst 0) 1 23 := ⟨by decide +kernel, rfl⟩
theorem d_c7_takeAnds_23 : gD b_c7_takeAnds 23 .iastore 1 24 := ⟨by decide +kernel, rfl⟩
theorem d_c7_takeAnds_24 : gD b_c7_takeAnds 24 (.iload_n 2) 1 25 := ⟨by decide +kernel, rfl⟩
theorem d_c7_takeAnds_25 : gJ b_c7_takeAnds 25 (.ifCond .ne 8) 3 8 28 33 := ⟨by decide +kernel, rfl, by decide⟩
theorem d_c7_takeAnds_28 : gD b_c7_takeAnds 28 (.bipush (-2)) 2 30 := ⟨by decide +kernel, rfl⟩
theorem d_c7_takeAnds_30 : gJ b_c7_takeAnds 30 (.goto 4) 3 4 33 34 := ⟨by decide +kernel, rfl, by decide⟩
theorem d_c7_takeAnds_33 : gD b_c7_takeAnds 33 (.iload_n 2) 1 34 := ⟨by decide +kernel, rfl⟩
theorem d_c7_takeAnds_34 : gD b_c7_takeAnds 34 .ireturn 1 35 := ⟨by decide +kernel, rfl⟩
def f_c7_takeAnds (N : Nat) (a0 : Nat) (x1 : Int32) (h : gH) : Option (Int32 × gH) :=
  (gcl h a0 7).bind fun _ =>
  (f_c7_has N a0 x1 h).bind fun q1 =>
    if q1 = 0 then
    some ((-1 : Int32), h)
  else
    (gfR h a0 7 4).bind fun v3 =>
    (ga 0 h v3 x1).bind fun v4 =>
    (gfR h a0 7 4).bind fun v5 =>
    (sa 0 h v5 x1 (0 : Int32)).bind fun h6 =>
    some ((if v4 = 0 then (-2 : Int32) else v4), h6)
set_option maxHeartbeats 4000000 in
set_option maxRecDepth 100000 in
theorem ct_c7_takeAnds (l : Launch) (X : gX) (hx : gEx X = false) (N : Nat) (a0 : Nat) (x1 : Int32) (h : gH) (q : Int32 × gH) (hy : f_c7_takeAnds N a0 x1 h = some q) : gRc y_c7_takeAnds h a0 ∧ gMi l X y_c7_takeAnds b_c7_takeAnds 3 .int (2 + N) 0 0 [.ref a0, .int x1] h q.1 q.2 := by
  unfold f_c7_takeAnds at hy
  obtain ⟨u0, e_u0, hy⟩ := gBd hy
  cases u0
  refine ⟨Or.inl ⟨7, _, _, e_u0, rfl⟩, gMet_i (lsx := [(0, .ref a0), (1, .int x1)]) (by decide) rfl rfl ?_⟩
  intro M hMl K hret
  subst hMl
  refine g_aload_n K d_c7_takeAnds_0 0 rfl ?_
  refine g_iload_n K d_c7_takeAnds_1 1 rfl ?_
  obtain ⟨q1, e_q1, hy⟩ := gBd hy
  refine g_callVi (rest := []) K hx ly_c7_has kv_c7_45 d_c7_takeAnds_2 (ct_c7_has M.2.1 X hx N a0 x1 h q1 e_q1) rfl rfl (Nat.le_of_ble_eq_true rfl) (gDep rfl) ⟨Nat.le_refl 0, Nat.le_refl 0⟩ ?_
  refine g_if_ne K d_c7_takeAnds_5 (fun c2 => ?_) (fun c2 => ?_)
  · rw [if_neg c2] at hy
    refine g_aload_n K d_c7_takeAnds_10 0 rfl ?_
    obtain ⟨v3, e_v3, hy⟩ := gBd hy
    refine g_getR K fl_c7_21 d_c7_takeAnds_11 e_v3 ?_
    refine g_iload_n K d_c7_takeAnds_14 1 rfl ?_
    obtain ⟨v4, e_v4, hy⟩ := gBd hy
    refine g_iald K d_c7_takeAnds_15 e_v4 ?_
    refine g_istore_n (ls2 := [(2, .int v4), (0, .ref a0), (1, .int x1)]) K d_c7_takeAnds_16 rfl rfl ?_
    refine g_aload_n K d_c7_takeAnds_17 1 rfl ?_
    obtain ⟨v5, e_v5, hy⟩ := gBd hy
    refine g_getR K fl_c7_21 d_c7_takeAnds_18 e_v5 ?_
    refine g_iload_n K d_c7_takeAnds_21 2 rfl ?_
    refine g_iconst (v := 0) K d_c7_takeAnds_22 (by decide) ?_
    obtain ⟨h6, e_h6, hy⟩ := gBd hy
    refine g_iast K d_c7_takeAnds_23 e_h6 ?_
    refine g_iload_n K d_c7_takeAnds_24 0 rfl ?_
    have hJ9 : ∀ w8 : Int32, w8 = (if v4 = 0 then (-2 : Int32) else v4) → gG M X 3 0 0 34 [(2, .int v4), (0, .ref a0), (1, .int x1)] [.int w8] h6 := by
      intro w8 e_w8
      subst e_w8
      obtain rfl := Option.some.inj hy
      exact hret rfl _ _ _ d_c7_takeAnds_34
    refine g_if_ne K d_c7_takeAnds_25 (fun c7 => ?_) (fun c7 => ?_)
    · refine g_iload_n K d_c7_takeAnds_33 0 rfl ?_
      exact hJ9 _ (by rw [if_neg c7])
    · refine g_bipush (v := (-2)) K d_c7_takeAnds_28 (by decide) ?_
      refine g_goto K d_c7_takeAnds_30 ?_
      exact hJ9 _ (by rw [if_pos c7])
  · rw [if_pos c2] at hy
    refine g_iconst (v := (-1)) K d_c7_takeAnds_8 (by decide) ?_
    obtain rfl := Option.some.inj hy
    exact hret rfl _ _ _ d_c7_takeAnds_9
-- c7 throwAnd
theorem d_c7_throwAnd_0 : gD b_c7_throwAnd 0 (.aload_n 0) 1 1 := ⟨by decide +kernel, rfl⟩
theorem d_c7_throwAnd_1 : gD b_c7_throwAnd 1 (.iload_n 1) 1 2 := ⟨by decide +kernel, rfl⟩
theorem d_c7_throwAnd_2 : gD b_c7_throwAnd 2 (.invokevirtual 45) 3 5 := ⟨by decide +kernel, rfl⟩
theorem d_c7_throwAnd_5 : gJ b_c7_throwAnd 5 (.ifCond .ne 5) 3 5 8 10 := ⟨by decide +kernel, rfl, by decide⟩
theorem d_c7_throwAnd_8 : gD b_c7_throwAnd 8 (.iconst (-1)) 1 9 := ⟨by decide +kernel, rfl⟩
theorem d_c7_throwAnd_9 : gD b_c7_throwAnd 9 .ireturn 1 10 := ⟨by decide +kernel, rfl⟩
theorem d_c7_throwAnd_10 : gD b_c7_throwAnd 10 (.aload_n 0) 1 11 := ⟨by decide +kernel, rfl⟩
theorem d_c7_throwAnd_11 : gD b_c7_throwAnd 11 (.getfield 21) 3 14 := ⟨by decide +kernel, rfl⟩
theorem d_c7_throwAnd_14 : gD b_c7_throwAnd 14 (.iload_n 1) 1 15 := ⟨by decide +kernel, rfl⟩
theorem d_c7_throwAnd_15 : gD b_c7_throwAnd 15 .iaload 1 16 := ⟨by decide +kernel, rfl⟩
theorem d_c7_throwAnd_16 : gD b_c7_throwAnd 16 (.bipush 9) 2 18 := ⟨by decide +kernel, rfl⟩
theorem d_c7_throwAnd_18 : gJ b_c7_throwAnd 18 (.if_icmp .lt 6) 3 6 21 24 := ⟨by decide +kernel, rfl, by decide⟩
theorem d_c7_throwAnd_21 : gD b_c7_throwAnd 21 (.bipush (-2)) 2 23 := ⟨by decide +kernel, rfl⟩
theorem d_c7_throwAnd_23 : gD b_c7_throwAnd 23 .ireturn 1 24 := ⟨by decide +kernel, rfl⟩
theorem d_c7_throwAnd_24 : gD b_c7_throwAnd 24 (.aload_n 0) 1 25 := ⟨by decide +kernel, rfl⟩
theorem d_c7_throwAnd_25 : gD b_c7_throwAnd 25 (.getfield 21) 3 28 := ⟨by decide +kernel, rfl⟩
theorem d_c7_throwAnd_28 : gD b_c7_throwAnd 28 (.iload_n 1) 1 29 := ⟨by decide +kernel, rfl⟩
theorem d_c7_throwAnd_29 : gD b_c7_throwAnd 29 .dup2 1 30 := ⟨by decide +kernel, rfl⟩
theorem d_c7_throwAnd_30 : gD b_c7_throwAnd 30 .iaload 1 31 := ⟨by decide +kernel, rfl⟩
theorem d_c7_throwAnd_31 : gD b_c7_throwAnd 31 (.iconst 1) 1 32 := ⟨by decide +kernel, rfl⟩
theorem d_c7_throwAnd_32 : gD b_c7_throwAnd 32 .iadd 1 33 := ⟨by decide +kernel, rfl⟩
theorem d_c7_throwAnd_33 : gD b_c7_throwAnd 33 .iastore 1 34 := ⟨by decide +kernel, rfl⟩
theorem d_c7_throwAnd_34 : gD b_c7_throwAnd 34 (.aload_n 0) 1 35 := ⟨by decide +kernel, rfl⟩
theorem d_c7_throwAnd_35 : gD b_c7_throwAnd 35 (.getfield 21) 3 38 := ⟨by decide +kernel, rfl⟩
theorem d_c7_throwAnd_38 : gD b_c7_throwAnd 38 (.iload_n 1) 1 39 := ⟨by decide +kernel, rfl⟩
theorem d_c7_throwAnd_39 : gD b_c7_throwAnd 39 .iaload 1 40 := ⟨by decide +kernel, rfl⟩
theorem d_c7_throwAnd_40 : gD b_c7_throwAnd 40 .ireturn 1 41 := ⟨by decide +kernel, rfl⟩
def f_c7_throwAnd (N : Nat) (a0 : Nat) (x1 : Int32) (h : gH) : Option (Int32 × gH) :=
  (gcl h a0 7).bind fun _ =>
  (f_c7_has N a0 x1 h).bind fun q1 =>
    if q1 = 0 then
    some ((-1 : Int32), h)
  else
    (gfR h a0 7 4).bind fun v3 =>
    (ga 0 h v3 x1).bind fun v4 =>
    if v4 < (9 : Int32) then
    (gfR h a0 7 4).bind fun v6 =>
    (ga 0 h v6 x1).bind fun v7 =>
    (sa 0 h v6 x1 (v7 + (1 : Int32))).bind fun h8 =>
    (gfR h8 a0 7 4).bind fun v9 =>
    (ga 0 h8 v9 x1).bind fun v10 =>
    some (v10, h8)
  else
    some ((-2 : Int32), h)
set_option maxHeartbeats 4000000 in
set_option maxRecDepth 100000 in
theorem ct_c7_throwAnd (l : Launch) (X : gX) (hx : gEx X = false) (N : Nat) (a0 : Nat) (x1 : Int32) (h : gH) (q : Int32 × gH) (hy : f_c7_throwAnd N a0 x1 h = some q) : gRc y_c7_throwAnd h a0 ∧ gMi l X y_c7_throwAnd b_c7_throwAnd 2 .int (2 + N) 0 0 [.ref a0, .int x1] h q.1 q.2 := by
  unfold f_c7_throwAnd at hy
  obtain ⟨u0, e_u0, hy⟩ := gBd hy
  cases u0
  refine ⟨Or.inl ⟨7, _, _, e_u0, rfl⟩, gMet_i (lsx := [(0, .ref a0), (1, .int x1)]) (by decide) rfl rfl ?_⟩
  intro M hMl K hret
  subst hMl
  refine g_aload_n K d_c7_throwAnd_0 0 rfl ?_
  refine g_iload_n K d_c7_throwAnd_1 1 rfl ?_
  obtain ⟨q1, e_q1, hy⟩ := gBd hy
  refine g_callVi (rest := []) K hx ly_c7_has kv_c7_45 d_c7_throwAnd_2 (ct_c7_has M.2.1 X hx N a0 x1 h q1 e_q1) rfl rfl (Nat.le_of_ble_eq_true rfl) (gDep rfl) ⟨Nat.le_refl 0, Nat.le_refl 0⟩ ?_
  refine g_if_ne K d_c7_throwAnd_5 (fun c2 => ?_) (fun c2 => ?_)
  · rw [if_neg c2] at hy
    refine g_aload_n K d_c7_throwAnd_10 0 rfl ?_
    obtain ⟨v3, e_v3, hy⟩ := gBd hy
    refine g_getR K fl_c7_21 d_c7_throwAnd_11 e_v3 ?_
    refine g_iload_n K d_c7_throwAnd_14 1 rfl ?_
    obtain ⟨v4, e_v4, hy⟩ := gBd hy
    refine g_iald K d_c7_throwAnd_15 e_v4 ?_
    refine g_bipush (v := 9) K d_c7_throwAnd_16 (by decide) ?_
    refine g_icmp_lt K d_c7_throwAnd_18 (fun c5 => ?_) (fun c5 => ?_)
    · rw [if_pos c5] at hy
      refine g_aload_n K d_c7_throwAnd_24 0 rfl ?_
      obtain ⟨v6, e_v6, hy⟩ := gBd hy
      refine g_getR K fl_c7_21 d_c7_throwAnd_25 e_v6 ?_
      refine g_iload_n K d_c7_throwAnd_28 1 rfl ?_
      refine g_dup2 K d_c7_throwAnd_29 rfl rfl ?_
      obtain ⟨v7, e_v7, hy⟩ := gBd hy
      refine g_iald K d_c7_throwAnd_30 e_v7 ?_
      refine g_iconst (v := 1) K d_c7_throwAnd_31 (by decide) ?_
      refine g_iadd K d_c7_throwAnd_32 ?_
      obtain ⟨h8, e_h8, hy⟩ := gBd hy
      refine g_iast K d_c7_throwAnd_33 e_h8 ?_
      refine g_aload_n K d_c7_throwAnd_34 0 rfl ?_
      obtain ⟨v9, e_v9, hy⟩ := gBd hy
      refine g_getR K fl_c7_21 d_c7_throwAnd_35 e_v9 ?_
      refine g_iload_n K d_c7_throwAnd_38 1 rfl ?_
      obtain ⟨v10, e_v10, hy⟩ := gBd hy
      refine g_iald K d_c7_throwAnd_39 e_v10 ?_
      obtain rfl := Option.some.inj hy
      exact hret rfl _ _ _ d_c7_throwAnd_40
    · rw [if_neg c5] at hy
      refine g_bipush (v := (-2)) K d_c7_throwAnd_21 (by decide) ?_
      obtain rfl := Option.some.inj hy
      exact hret rfl _ _ _ d_c7_throwAnd_23
  · rw [if_pos c2] at hy
    refine g_iconst (v := (-1)) K d_c7_throwAnd_8 (by decide) ?_
    obtain rfl := Option.some.inj hy
    exact hret rfl _ _ _ d_c7_throwAnd_9
