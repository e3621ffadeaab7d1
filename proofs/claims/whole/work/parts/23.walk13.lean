-- c11 longest
theorem d_c11_longest_0 : gD b_c11_longest 0 (.aload_n 0) 1 1 := ⟨by decide +kernel, rfl⟩
theorem d_c11_longest_1 : gD b_c11_longest 1 (.iconst 0) 1 2 := ⟨by decide +kernel, rfl⟩
theorem d_c11_longest_2 : gD b_c11_longest 2 (.putfield 95) 3 5 := ⟨by decide +kernel, rfl⟩
theorem d_c11_longest_5 : gD b_c11_longest 5 (.aload_n 0) 1 6 := ⟨by decide +kernel, rfl⟩
theorem d_c11_longest_6 : gD b_c11_longest 6 (.iload_n 1) 1 7 := ⟨by decide +kernel, rfl⟩
theorem d_c11_longest_7 : gD b_c11_longest 7 (.invokevirtual 280) 3 10 := ⟨by decide +kernel, rfl⟩
theorem d_c11_longest_10 : gJ b_c11_longest 10 (.ifCond .eq 18) 3 18 13 28 := ⟨by decide +kernel, rfl, by decide⟩
theorem d_c11_longest_13 : gD b_c11_longest 13 (.aload_n 0) 1 14 := ⟨by decide +kernel, rfl⟩
theorem d_c11_longest_14 : gD b_c11_longest 14 (.iload_n 2) 1 15 := ⟨by decide +kernel, rfl⟩
theorem d_c11_longest_15 : gD b_c11_longest 15 (.invokevirtual 246) 3 18 := ⟨by decide +kernel, rfl⟩
theorem d_c11_longest_18 : gJ b_c11_longest 18 (.ifCond .eq 10) 3 10 21 28 := ⟨by decide +kernel, rfl, by decide⟩
theorem d_c11_longest_21 : gD b_c11_longest 21 (.iload_n 3) 1 22 := ⟨by decide +kernel, rfl⟩
theorem d_c11_longest_22 : gD b_c11_longest 22 (.invokestatic 305) 3 25 := ⟨by decide +kernel, rfl⟩
theorem d_c11_longest_25 : gJ b_c11_longest 25 (.ifCond .ne 5) 3 5 28 30 := ⟨by decide +kernel, rfl, by decide⟩
theorem d_c11_longest_28 : gD b_c11_longest 28 (.iconst (-1)) 1 29 := ⟨by decide +kernel, rfl⟩
theorem d_c11_longest_29 : gD b_c11_longest 29 .ireturn 1 30 := ⟨by decide +kernel, rfl⟩
theorem d_c11_longest_30 : gD b_c11_longest 30 (.aload_n 0) 1 31 := ⟨by decide +kernel, rfl⟩
theorem d_c11_longest_31 : gD b_c11_longest 31 (.getfield 9) 3 34 := ⟨by decide +kernel, rfl⟩
theorem d_c11_longest_34 : gD b_c11_longest 34 (.iload_n 1) 1 35 := ⟨by decide +kernel, rfl⟩
theorem d_c11_longest_35 : gD b_c11_longest 35 (.invokestatic 174) 3 38 := ⟨by decide +kernel, rfl⟩
theorem d_c11_longest_38 : gD b_c11_longest 38 (.iconst (-1)) 1 39 := ⟨by decide +kernel, rfl⟩
theorem d_c11_longest_39 : gJ b_c11_longest 39 (.if_icmp .ne 15) 3 15 42 54 := ⟨by decide +kernel, rfl, by decide⟩
theorem d_c11_longest_42 : gD b_c11_longest 42 (.aload_n 0) 1 43 := ⟨by decide +kernel, rfl⟩
theorem d_c11_longest_43 : gD b_c11_longest 43 (.getfield 9) 3 46 := ⟨by decide +kernel, rfl⟩
theorem d_c11_longest_46 : gD b_c11_longest 46 (.bipush 40) 2 48 := ⟨by decide +kernel, rfl⟩
theorem d_c11_longest_48 : gD b_c11_longest 48 .iaload 1 49 := ⟨by decide +kernel, rfl⟩
theorem d_c11_longest_49 : gD b_c11_longest 49 (.bipush 8) 2 51 := ⟨by decide +kernel, rfl⟩
theorem d_c11_longest_51 : gJ b_c11_longest 51 (.if_icmp .ne 6) 3 6 54 57 := ⟨by decide +kernel, rfl, by decide⟩
theorem d_c11_longest_54 : gD b_c11_longest 54 (.bipush (-3)) 2 56 := ⟨by decide +kernel, rfl⟩
theorem d_c11_longest_56 : gD b_c11_longest 56 .ireturn 1 57 := ⟨by decide +kernel, rfl⟩
theorem d_c11_longest_57 : gD b_c11_longest 57 (.bipush 9) 2 59 := ⟨by decide +kernel, rfl⟩
theorem d_c11_longest_59 : gD b_c11_longest 59 (.istore 4) 2 61 := ⟨by decide +kernel, rfl⟩
theorem d_c11_longest_61 : gD b_c11_longest 61 (.iload 4) 2 63 := ⟨by decide +kernel, rfl⟩
theorem d_c11_longest_63 : gJ b_c11_longest 63 (.ifCond .le 72) 3 72 66 135 := ⟨by decide +kernel, rfl, by decide⟩
theorem d_c11_longest_66 : gD b_c11_longest 66 (.aload_n 0) 1 67 := ⟨by decide +kernel, rfl⟩
theorem d_c11_longest_67 : gD b_c11_longest 67 (.getfield 9) 3 70 := ⟨by decide +kernel, rfl⟩
theorem d_c11_longest_70 : gD b_c11_longest 70 (.aload_n 0) 1 71 := ⟨by decide +kernel, rfl⟩
theorem d_c11_longest_71 : gD b_c11_longest 71 (.getfield 52) 3 74 := ⟨by decide +kernel, rfl⟩
theorem d_c11_longest_74 : gD b_c11_longest 74 (.iconst 0) 1 75 := ⟨by decide +kernel, rfl⟩
theorem d_c11_longest_75 : gD b_c11_longest 75 (.invokestatic 253) 3 78 := ⟨by decide +kernel, rfl⟩
theorem d_c11_longest_78 : gD b_c11_longest 78 (.aload_n 0) 1 79 := ⟨by decide +kernel, rfl⟩
theorem d_c11_longest_79 : gD b_c11_longest 79 (.getfield 52) 3 82 := ⟨by decide +kernel, rfl⟩
theorem d_c11_longest_82 : gD b_c11_longest 82 (.iload_n 1) 1 83 := ⟨by decide +kernel, rfl⟩
theorem d_c11_longest_83 : gD b_c11_longest 83 (.iload 4) 2 85 := ⟨by decide +kernel, rfl⟩
theorem d_c11_longest_85 : gD b_c11_longest 85 (.iconst 1) 1 86 := ⟨by decide +kernel, rfl⟩
theorem d_c11_longest_86 : gD b_c11_longest 86 (.invokestatic 181) 3 89 := ⟨by decide +kernel, rfl⟩
theorem d_c11_longest_89 : gD b_c11_longest 89 (.aload_n 0) 1 90 := ⟨by decide +kernel, rfl⟩
theorem d_c11_longest_90 : gD b_c11_longest 90 (.iload_n 2) 1 91 := ⟨by decide +kernel, rfl⟩
theorem d_c11_longest_91 : gD b_c11_longest 91 (.iload_n 3) 1 92 := ⟨by decide +kernel, rfl⟩
theorem d_c11_longest_92 : gD b_c11_longest 92 (.invokevirtual 315) 3 95 := ⟨by decide +kernel, rfl⟩
theorem d_c11_longest_95 : gJ b_c11_longest 95 (.ifCond .ne 6) 3 6 98 101 := ⟨by decide +kernel, rfl, by decide⟩
theorem d_c11_longest_98 : gJ b_c11_longest 98 (.goto 31) 3 31 101 129 := ⟨by decide +kernel, rfl, by decide⟩
theorem d_c11_longest_101 : gD b_c11_longest 101 (.aload_n 0) 1 102 := ⟨by decide +kernel, rfl⟩
theorem d_c11_longest_102 : gD b_c11_longest 102 (.iconst 0) 1 103 := ⟨by decide +kernel, rfl⟩
theorem d_c11_longest_103 : gD b_c11_longest 103 (.putfield 98) 3 106 := ⟨by decide +kernel, rfl⟩
theorem d_c11_longest_106 : gD b_c11_longest 106 (.aload_n 0) 1 107 := ⟨by decide +kernel, rfl⟩
theorem d_c11_longest_107 : gD b_c11_longest 107 (.aload_n 0) 1 108 := ⟨by decide +kernel, rfl⟩
theorem d_c11_longest_108 : gD b_c11_longest 108 (.getfield 52) 3 111 := ⟨by decide +kernel, rfl⟩
theorem d_c11_longest_111 : gD b_c11_longest 111 (.bipush 32) 2 113 := ⟨by decide +kernel, rfl⟩
theorem d_c11_longest_113 : gD b_c11_longest 113 (.aload_n 0) 1 114 := ⟨by decide +kernel, rfl⟩
theorem d_c11_longest_114 : gD b_c11_longest 114 (.getfield 9) 3 117 := ⟨by decide +kernel, rfl⟩
theorem d_c11_longest_117 : gD b_c11_longest 117 (.bipush 40) 2 119 := ⟨by decide +kernel, rfl⟩
theorem d_c11_longest_119 : gD b_c11_longest 119 .iaload 1 120 := ⟨by decide +kernel, rfl⟩
theorem d_c11_longest_120 : gD b_c11_longest 120 .iadd 1 121 := ⟨by decide +kernel, rfl⟩
theorem d_c11_longest_121 : gD b_c11_longest 121 .iaload 1 122 := ⟨by decide +kernel, rfl⟩
theorem d_c11_longest_122 : gD b_c11_longest 122 .i2l 1 123 := ⟨by decide +kernel, rfl⟩
theorem d_c11_longest_123 : gD b_c11_longest 123 (.invokevirtual 268) 3 126 := ⟨by decide +kernel, rfl⟩
theorem d_c11_longest_126 : gD b_c11_longest 126 (.iload 4) 2 128 := ⟨by decide +kernel, rfl⟩
theorem d_c11_longest_128 : gD b_c11_longest 128 .ireturn 1 129 := ⟨by decide +kernel, rfl⟩
theorem d_c11_longest_129 : gD b_c11_longest 129 (.iinc 4 (-1)) 3 132 := ⟨by decide +kernel, rfl⟩
theorem d_c11_longest_132 : gJ b_c11_longest 132 (.goto (-71)) 3 (-71) 135 61 := ⟨by decide +kernel, rfl, by decide⟩
theorem d_c11_longest_135 : gD b_c11_longest 135 (.bipush (-2)) 2 137 := ⟨by decide +kernel, rfl⟩
theorem d_c11_longest_137 : gD b_c11_longest 137 .ireturn 1 138 := ⟨by decide +kernel, rfl⟩
def lp_c11_longest_61 (N : Nat) (a0 : Nat) (x1 : Int32) (x2 : Int32) (x3 : Int32) : Nat → Int32 → gH → Option ((Int32 × gH) ⊕ (gH))
  | 0, _, _ => none
  | k + 1, x4, h =>
  if x4 ≤ 0 then
    some (.inr h)
  else
    (gfR h a0 11 0).bind fun v15 =>
    (gfR h a0 11 25).bind fun v16 =>
    (f_c11_lay N v15 v16 (0 : Int32) h).bind fun q17 =>
    (gfR q17 a0 11 25).bind fun v18 =>
    (f_c11_add N v18 x1 x4 (1 : Int32) q17).bind fun q19 =>
    (f_c11_isWet N a0 x2 x3 q19).bind fun q20 =>
    if q20.1 = 0 then
    lp_c11_longest_61 N a0 x1 x2 x3 k (x4 + (-1 : Int32)) q20.2
  else
    (sf q20.2 a0 11 9 (.int (0 : Int32))).bind fun h22 =>
    (gfR h22 a0 11 25).bind fun v23 =>
    (gfR h22 a0 11 0).bind fun v24 =>
    (ga 0 h22 v24 (40 : Int32)).bind fun v25 =>
    (ga 0 h22 v23 ((32 : Int32) + v25)).bind fun v26 =>
    (f_c11_tell N a0 v26.toInt64 h22).bind fun q27 =>
    some (.inl (x4, q27))
def f_c11_longest (N : Nat) (a0 : Nat) (x1 : Int32) (x2 : Int32) (x3 : Int32) (h : gH) : Option (Int32 × gH) :=
  (gcl h a0 11).bind fun _ =>
  (sf h a0 11 10 (.int (0 : Int32))).bind fun h1 =>
    (f_c11_isField N a0 x1 h1).bind fun q2 =>
    if q2 = 0 then
    some ((-1 : Int32), h1)
  else
    (f_c11_isVillage N a0 x2 h1).bind fun q4 =>
    if q4 = 0 then
    some ((-1 : Int32), h1)
  else
    (f_c11_isSpan N x3 h1).bind fun q6 =>
    if q6 = 0 then
    some ((-1 : Int32), h1)
  else
    (gfR h1 a0 11 0).bind fun v8 =>
    (f_c11_wellOn N v8 x1 h1).bind fun q9 =>
    if q9 = (-1 : Int32) then
    (gfR h1 a0 11 0).bind fun v11 =>
    (ga 0 h1 v11 (40 : Int32)).bind fun v12 =>
    if v12 = (8 : Int32) then
    some ((-3 : Int32), h1)
  else
    (lp_c11_longest_61 N a0 x1 x2 x3 N (9 : Int32) h1).bind fun o28 => Sum.elim (fun r30 => some r30) (fun t29 =>
    some ((-2 : Int32), t29)) o28
  else
    some ((-3 : Int32), h1)
set_option maxHeartbeats 4000000 in
set_option maxRecDepth 100000 in
theorem wlp_c11_longest_61 {M : gM} {X : gX} {N : Nat} (hx : gEx X = false) (K : gC M X gN11 b_c11_longest 5 (gRm (9 + N) 0 0)) (a0 : Nat) (x1 : Int32) (x2 : Int32) (x3 : Int32) : ∀ (k : Nat) (x4 : Int32) (h : gH) (o : (Int32 × gH) ⊕ (gH)), lp_c11_longest_61 N a0 x1 x2 x3 k x4 h = some o → (∀ t, o = .inr t → gG M X 5 0 0 135 [] [] t) → (∀ r, o = .inl r → (narrow .int (.int r.1) = .int r.1 → ∀ pc pc' ls, gD b_c11_longest pc .ireturn 1 pc' → gG M X 5 0 0 pc ls [.int r.1] r.2)) → gG M X 5 0 0 61 [(0, .ref a0), (1, .int x1), (2, .int x2), (3, .int x3), (4, .int x4)] [] h := by
  intro k
  induction k with
  | zero =>
    intro x4 h o hy
    rw [lp_c11_longest_61.eq_1] at hy
    cases hy
  | succ k ih =>
    intro x4 h o hy hE hR
    rw [lp_c11_longest_61.eq_2] at hy
    refine g_iload K d_c11_longest_61 4 rfl ?_
    refine g_if_le K d_c11_longest_63 (fun c14 => ?_) (fun c14 => ?_)
    · rw [if_pos c14] at hy
      refine g_sub (ls2 := []) [] rfl ?_
      obtain rfl := Option.some.inj hy
      exact hE _ rfl
    · rw [if_neg c14] at hy
      refine g_aload_n K d_c11_longest_66 0 rfl ?_
      obtain ⟨v15, e_v15, hy⟩ := gBd hy
      refine g_getR K fl_c11_9 d_c11_longest_67 e_v15 ?_
      refine g_aload_n K d_c11_longest_70 0 rfl ?_
      obtain ⟨v16, e_v16, hy⟩ := gBd hy
      refine g_getR K fl_c11_52 d_c11_longest_71 e_v16 ?_
      refine g_iconst (v := 0) K d_c11_longest_74 (by decide) ?_
      obtain ⟨q17, e_q17, hy⟩ := gBd hy
      refine g_callSv (rest := []) K hx ly_c11_lay ks_c11_253 d_c11_longest_75 (ct_c11_lay M.2.1 X hx N v15 v16 (0 : Int32) h q17 e_q17) rfl rfl (Nat.le_of_ble_eq_true rfl) (gDep rfl) ⟨Nat.le_refl 0, Nat.le_refl 0⟩ ?_
      refine g_aload_n K d_c11_longest_78 0 rfl ?_
      obtain ⟨v18, e_v18, hy⟩ := gBd hy
      refine g_getR K fl_c11_52 d_c11_longest_79 e_v18 ?_
      refine g_iload_n K d_c11_longest_82 1 rfl ?_
      refine g_iload K d_c11_longest_83 4 rfl ?_
      refine g_iconst (v := 1) K d_c11_longest_85 (by decide) ?_
      obtain ⟨q19, e_q19, hy⟩ := gBd hy
      refine g_callSv (rest := []) K hx ly_c11_add ks_c11_181 d_c11_longest_86 (ct_c11_add M.2.1 X hx N v18 x1 x4 (1 : Int32) q17 q19 e_q19) rfl rfl (Nat.le_of_ble_eq_true rfl) (gDep rfl) ⟨Nat.le_refl 0, Nat.le_refl 0⟩ ?_
      refine g_aload_n K d_c11_longest_89 0 rfl ?_
      refine g_iload_n K d_c11_longest_90 2 rfl ?_
      refine g_iload_n K d_c11_longest_91 3 rfl ?_
      obtain ⟨q20, e_q20, hy⟩ := gBd hy
      refine g_callVi (rest := []) K hx ly_c11_isWet kv_c11_315 d_c11_longest_92 (ct_c11_isWet M.2.1 X hx N a0 x2 x3 q19 q20 e_q20) rfl rfl (Nat.le_of_ble_eq_true rfl) (gDep rfl) ⟨Nat.le_refl 0, Nat.le_refl 0⟩ ?_
      refine g_if_ne K d_c11_longest_95 (fun c21 => ?_) (fun c21 => ?_)
      · rw [if_neg c21] at hy
        refine g_aload_n K d_c11_longest_101 0 rfl ?_
        refine g_iconst (v := 0) K d_c11_longest_102 (by decide) ?_
        obtain ⟨h22, e_h22, hy⟩ := gBd hy
        refine g_putI K fp_c11_98 d_c11_longest_103 e_h22 ?_
        refine g_aload_n K d_c11_longest_106 0 rfl ?_
        refine g_aload_n K d_c11_longest_107 0 rfl ?_
        obtain ⟨v23, e_v23, hy⟩ := gBd hy
        refine g_getR K fl_c11_52 d_c11_longest_108 e_v23 ?_
        refine g_bipush (v := 32) K d_c11_longest_111 (by decide) ?_
        refine g_aload_n K d_c11_longest_113 0 rfl ?_
        obtain ⟨v24, e_v24, hy⟩ := gBd hy
        refine g_getR K fl_c11_9 d_c11_longest_114 e_v24 ?_
        refine g_bipush (v := 40) K d_c11_longest_117 (by decide) ?_
        obtain ⟨v25, e_v25, hy⟩ := gBd hy
        refine g_iald K d_c11_longest_119 e_v25 ?_
        refine g_iadd K d_c11_longest_120 ?_
        obtain ⟨v26, e_v26, hy⟩ := gBd hy
        refine g_iald K d_c11_longest_121 e_v26 ?_
        refine g_i2l K d_c11_longest_122 ?_
        obtain ⟨q27, e_q27, hy⟩ := gBd hy
        refine g_callVv (rest := []) K hx ly_c11_tell kv_c11_268 d_c11_longest_123 (ct_c11_tell M.2.1 X hx N a0 v26.toInt64 h22 q27 e_q27) rfl rfl (Nat.le_of_ble_eq_true rfl) (gDep rfl) ⟨Nat.le_refl 0, Nat.le_refl 0⟩ ?_
        refine g_iload K d_c11_longest_126 4 rfl ?_
        obtain rfl := Option.some.inj hy
        exact hR _ rfl rfl _ _ _ d_c11_longest_128
      · rw [if_pos c21] at hy
        refine g_goto K d_c11_longest_98 ?_
        refine g_iinc (ls2 := [(4, .int (x4 + (-1 : Int32))), (0, .ref a0), (1, .int x1), (2, .int x2), (3, .int x3)]) (v := (-1)) K d_c11_longest_129 4 rfl (by decide) rfl rfl ?_
        refine g_goto K d_c11_longest_132 ?_
        refine g_sub (ls2 := [(0, .ref a0), (1, .int x1), (2, .int x2), (3, .int x3), (4, .int (x4 + (-1 : Int32)))]) [1, 2, 3, 4, 0] rfl ?_
        exact ih _ _ _ hy hE hR
set_option maxHeartbeats 4000000 in
set_option maxRecDepth 100000 in
theorem ct_c11_longest (l : Launch) (X : gX) (hx : gEx X = false) (N : Nat) (a0 : Nat) (x1 : Int32) (x2 : Int32) (x3 : Int32) (h : gH) (q : Int32 × gH) (hy : f_c11_longest N a0 x1 x2 x3 h = some q) : gRc y_c11_longest h a0 ∧ gMi l X y_c11_longest b_c11_longest 5 .int (9 + N) 0 0 [.ref a0, .int x1, .int x2, .int x3] h q.1 q.2 := by
  unfold f_c11_longest at hy
  obtain ⟨u0, e_u0, hy⟩ := gBd hy
  cases u0
  refine ⟨Or.inl ⟨11, _, _, e_u0, rfl⟩, gMet_i (lsx := [(0, .ref a0), (1, .int x1), (2, .int x2), (3, .int x3)]) (by decide) rfl rfl ?_⟩
  intro M hMl K hret
  subst hMl
  refine g_aload_n K d_c11_longest_0 0 rfl ?_
  refine g_iconst (v := 0) K d_c11_longest_1 (by decide) ?_
  obtain ⟨h1, e_h1, hy⟩ := gBd hy
  refine g_putI K fp_c11_95 d_c11_longest_2 e_h1 ?_
  refine g_aload_n K d_c11_longest_5 0 rfl ?_
  refine g_iload_n K d_c11_longest_6 1 rfl ?_
  obtain ⟨q2, e_q2, hy⟩ := gBd hy
  refine g_callVi (rest := []) K hx ly_c11_isField kv_c11_280 d_c11_longest_7 (ct_c11_isField M.2.1 X hx N a0 x1 h1 q2 e_q2) rfl rfl (Nat.le_of_ble_eq_true rfl) (gDep rfl) ⟨Nat.le_refl 0, Nat.le_refl 0⟩ ?_
  refine g_if_eq K d_c11_longest_10 (fun c3 => ?_) (fun c3 => ?_)
  · rw [if_pos c3] at hy
    refine g_iconst (v := (-1)) K d_c11_longest_28 (by decide) ?_
    obtain rfl := Option.some.inj hy
    exact hret rfl _ _ _ d_c11_longest_29
  · rw [if_neg c3] at hy
    refine g_aload_n K d_c11_longest_13 0 rfl ?_
    refine g_iload_n K d_c11_longest_14 2 rfl ?_
    obtain ⟨q4, e_q4, hy⟩ := gBd hy
    refine g_callVi (rest := []) K hx ly_c11_isVillage kv_c11_246 d_c11_longest_15 (ct_c11_isVillage M.2.1 X hx N a0 x2 h1 q4 e_q4) rfl rfl (Nat.le_of_ble_eq_true rfl) (gDep rfl) ⟨Nat.le_refl 0, Nat.le_refl 0⟩ ?_
    refine g_if_eq K d_c11_longest_18 (fun c5 => ?_) (fun c5 => ?_)
    · rw [if_pos c5] at hy
      refine g_iconst (v := (-1)) K d_c11_longest_28 (by decide) ?_
      obtain rfl := Option.some.inj hy
      exact hret rfl _ _ _ d_c11_longest_29
    · rw [if_neg c5] at hy
      refine g_iload_n K d_c11_longest_21 3 rfl ?_
      obtain ⟨q6, e_q6, hy⟩ := gBd hy
      refine g_callSi (rest := []) K hx ly_c11_isSpan ks_c11_305 d_c11_longest_22 (ct_c11_isSpan M.2.1 X hx N x3 h1 q6 e_q6) rfl rfl (Nat.le_of_ble_eq_true rfl) (gDep rfl) ⟨Nat.le_refl 0, Nat.le_refl 0⟩ ?_
      refine g_if_ne K d_c11_longest_25 (fun c7 => ?_) (fun c7 => ?_)
      · rw [if_neg c7] at hy
        refine g_aload_n K d_c11_longest_30 0 rfl ?_
        obtain ⟨v8, e_v8, hy⟩ := gBd hy
        refine g_getR K fl_c11_9 d_c11_longest_31 e_v8 ?_
        refine g_iload_n K d_c11_longest_34 1 rfl ?_
        obtain ⟨q9, e_q9, hy⟩ := gBd hy
        refine g_callSi (rest := []) K hx ly_c11_wellOn ks_c11_174 d_c11_longest_35 (ct_c11_wellOn M.2.1 X hx N v8 x1 h1 q9 e_q9) rfl rfl (Nat.le_of_ble_eq_true rfl) (gDep rfl) ⟨Nat.le_refl 0, Nat.le_refl 0⟩ ?_
        refine g_iconst (v := (-1)) K d_c11_longest_38 (by decide) ?_
        refine g_icmp_ne K d_c11_longest_39 (fun c10 => ?_) (fun c10 => ?_)
        · rw [if_neg c10] at hy
          refine g_bipush (v := (-3)) K d_c11_longest_54 (by decide) ?_
          obtain rfl := Option.some.inj hy
          exact hret rfl _ _ _ d_c11_longest_56
        · rw [if_pos c10] at hy
          refine g_aload_n K d_c11_longest_42 0 rfl ?_
          obtain ⟨v11, e_v11, hy⟩ := gBd hy
          refine g_getR K fl_c11_9 d_c11_longest_43 e_v11 ?_
          refine g_bipush (v := 40) K d_c11_longest_46 (by decide) ?_
          obtain ⟨v12, e_v12, hy⟩ := gBd hy
          refine g_iald K d_c11_longest_48 e_v12 ?_
          refine g_bipush (v := 8) K d_c11_longest_49 (by decide) ?_
          refine g_icmp_ne K d_c11_longest_51 (fun c13 => ?_) (fun c13 => ?_)
          · rw [if_neg c13] at hy
            refine g_bipush (v := 9) K d_c11_longest_57 (by decide) ?_
            refine g_istore (ls2 := [(4, .int (9 : Int32)), (0, .ref a0), (1, .int x1), (2, .int x2), (3, .int x3)]) K d_c11_longest_59 rfl rfl ?_
            obtain ⟨o28, e_o28, hy⟩ := gBd hy
            refine g_sub (ls2 := [(0, .ref a0), (1, .int x1), (2, .int x2), (3, .int x3), (4, .int (9 : Int32))]) [1, 2, 3, 4, 0] rfl ?_
            refine wlp_c11_longest_61 hx K a0 x1 x2 x3 N (9 : Int32) h1 o28 e_o28 (fun t29 e_t29 => ?_) (fun r30 e_r30 => ?_)
            · subst e_t29
              simp only [Sum.elim_inr] at hy
              refine g_bipush (v := (-2)) K d_c11_longest_135 (by decide) ?_
              obtain rfl := Option.some.inj hy
              exact hret rfl _ _ _ d_c11_longest_137
            · subst e_r30
              simp only [Sum.elim_inl] at hy
              intro hn pc9 pc9' ls9 hd9
              obtain rfl := Option.some.inj hy
              exact hret hn _ _ _ hd9
          · rw [if_pos c13] at hy
            refine g_bipush (v := (-3)) K d_c11_longest_54 (by decide) ?_
            obtain rfl := Option.some.inj hy
            exact hret rfl _ _ _ d_c11_longest_56
      · rw [if_pos c7] at hy
        refine g_iconst (v := (-1)) K d_c11_longest_28 (by decide) ?_
        obtain rfl := Option.some.inj hy
        exact hret rfl _ _ _ d_c11_longest_29
-- c11 parchedIn
theorem d_c11_parchedIn_0 : gD b_c11_parchedIn 0 (.aload_n 0) 1 1 := ⟨by decide +kernel, rfl⟩
theorem d_c11_parchedIn_1 : gD b_c11_parchedIn 1 (.getfield 52) 3 4 := ⟨by decide +kernel, rfl⟩
theorem d_c11_parchedIn_4 : gD b_c11_parchedIn 4 (.bipush 42) 2 6 := ⟨by decide +kernel, rfl⟩
theorem d_c11_parchedIn_6 : gD b_c11_parchedIn 6 .iaload 1 7 := ⟨by decide +kernel, rfl⟩
theorem d_c11_parchedIn_7 : gD b_c11_parchedIn 7 (.istore_n 2) 1 8 := ⟨by decide +kernel, rfl⟩
theorem d_c11_parchedIn_8 : gD b_c11_parchedIn 8 (.aload_n 0) 1 9 := ⟨by decide +kernel, rfl⟩
theorem d_c11_parchedIn_9 : gD b_c11_parchedIn 9 (.aload_n 0) 1 10 := ⟨by decide +kernel, rfl⟩
theorem d_c11_parchedIn_10 : gD b_c11_parchedIn 10 (.getfield 52) 3 13 := ⟨by decide +kernel, rfl⟩
theorem d_c11_parchedIn_13 : gD b_c11_parchedIn 13 (.iload_n 1) 1 14 := ⟨by decide +kernel, rfl⟩
theorem d_c11_parchedIn_14 : gD b_c11_parchedIn 14 (.invokevirtual 264) 3 17 := ⟨by decide +kernel, rfl⟩
theorem d_c11_parchedIn_17 : gD b_c11_parchedIn 17 (.aload_n 0) 1 18 := ⟨by decide +kernel, rfl⟩
theorem d_c11_parchedIn_18 : gD b_c11_parchedIn 18 (.getfield 52) 3 21 := ⟨by decide +kernel, rfl⟩
theorem d_c11_parchedIn_21 : gD b_c11_parchedIn 21 (.bipush 42) 2 23 := ⟨by decide +kernel, rfl⟩
theorem d_c11_parchedIn_23 : gD b_c11_parchedIn 23 .iaload 1 24 := ⟨by decide +kernel, rfl⟩
theorem d_c11_parchedIn_24 : gD b_c11_parchedIn 24 (.iload_n 2) 1 25 := ⟨by decide +kernel, rfl⟩
theorem d_c11_parchedIn_25 : gD b_c11_parchedIn 25 .isub 1 26 := ⟨by decide +kernel, rfl⟩
theorem d_c11_parchedIn_26 : gD b_c11_parchedIn 26 .ireturn 1 27 := ⟨by decide +kernel, rfl⟩
def f_c11_parchedIn (N : Nat) (a0 : Nat) (x1 : Int32) (h : gH) : Option (Int32 × gH) :=
  (gcl h a0 11).bind fun _ =>
  (gfR h a0 11 25).bind fun v1 =>
    (ga 0 h v1 (42 : Int32)).bind fun v2 =>
    (gfR h a0 11 25).bind fun v3 =>
    (f_c11_goSeasons N a0 v3 x1 h).bind fun q4 =>
    (gfR q4 a0 11 25).bind fun v5 =>
    (ga 0 q4 v5 (42 : Int32)).bind fun v6 =>
    some (v6 - v2, q4)
set_option maxHeartbeats 4000000 in
set_option maxRecDepth 100000 in
theorem ct_c11_parchedIn (l : Launch) (X : gX) (hx : gEx X = false) (N : Nat) (a0 : Nat) (x1 : Int32) (h : gH) (q : Int32 × gH) (hy : f_c11_parchedIn N a0 x1 h = some q) : gRc y_c11_parchedIn h a0 ∧ gMi l X y_c11_parchedIn b_c11_parchedIn 3 .int (9 + N) 0 0 [.ref a0, .int x1] h q.1 q.2 := by
  unfold f_c11_parchedIn at hy
  obtain ⟨u0, e_u0, hy⟩ := gBd hy
  cases u0
  refine ⟨Or.inl ⟨11, _, _, e_u0, rfl⟩, gMet_i (lsx := [(0, .ref a0), (1, .int x1)]) (by decide) rfl rfl ?_⟩
  intro M hMl K hret
  subst hMl
  refine g_aload_n K d_c11_parchedIn_0 0 rfl ?_
  obtain ⟨v1, e_v1, hy⟩ := gBd hy
  refine g_getR K fl_c11_52 d_c11_parchedIn_1 e_v1 ?_
  refine g_bipush (v := 42) K d_c11_parchedIn_4 (by decide) ?_
  obtain ⟨v2, e_v2, hy⟩ := gBd hy
  refine g_iald K d_c11_parchedIn_6 e_v2 ?_
  refine g_istore_n (ls2 := [(2, .int v2), (0, .ref a0), (1, .int x1)]) K d_c11_parchedIn_7 rfl rfl ?_
  refine g_aload_n K d_c11_parchedIn_8 1 rfl ?_
  refine g_aload_n K d_c11_parchedIn_9 1 rfl ?_
  obtain ⟨v3, e_v3, hy⟩ := gBd hy
  refine g_getR K fl_c11_52 d_c11_parchedIn_10 e_v3 ?_
  refine g_iload_n K d_c11_parchedIn_13 2 rfl ?_
  obtain ⟨q4, e_q4, hy⟩ := gBd hy
  refine g_callVv (rest := []) K hx ly_c11_goSeasons kv_c11_264 d_c11_parchedIn_14 (ct_c11_goSeasons M.2.1 X hx N a0 v3 x1 h q4 e_q4) rfl rfl (Nat.le_of_ble_eq_true rfl) (gDep rfl) ⟨Nat.le_refl 0, Nat.le_refl 0⟩ ?_
  refine g_aload_n K d_c11_parchedIn_17 1 rfl ?_
  obtain ⟨v5, e_v5, hy⟩ := gBd hy
  refine g_getR K fl_c11_52 d_c11_parchedIn_18 e_v5 ?_
  refine g_bipush (v := 42) K d_c11_parchedIn_21 (by decide) ?_
  obtain ⟨v6, e_v6, hy⟩ := gBd hy
  refine g_iald K d_c11_parchedIn_23 e_v6 ?_
  refine g_iload_n K d_c11_parchedIn_24 0 rfl ?_
  refine g_isub K d_c11_parchedIn_25 ?_
  obtain rfl := Option.some.inj hy
  exact hret rfl _ _ _ d_c11_parchedIn_26
-- c11 richest
theorem d_c11_richest_0 : gD b_c11_richest 0 (.aload_n 0) 1 1 := ⟨by decide +kernel, rfl⟩
theorem d_c11_richest_1 : gD b_c11_richest 1 (.iconst 0) 1 2 := ⟨by decide +kernel, rfl⟩
theorem d_c11_richest_2 : gD b_c11_richest 2 (.putfield 95) 3 5 := ⟨by decide +kernel, rfl⟩
theorem d_c11_richest_5 : gD b_c11_richest 5 (.iload_n 1) 1 6 := ⟨by decide +kernel, rfl⟩
theorem d_c11_richest_6 : gD b_c11_richest 6 (.iconst 0) 1 7 := ⟨by decide +kernel, rfl⟩
theorem d_c11_richest_7 : gD b_c11_richest 7 (.bipush 99) 2 9 := ⟨by decide +kernel, rfl⟩
theorem d_c11_richest_9 : gD b_c11_richest 9 (.invokestatic 105) 3 12 := ⟨by decide +kernel, rfl⟩
theorem d_c11_richest_12 : gJ b_c11_richest 12 (.ifCond .ne 5) 3 5 15 17 := ⟨by decide +kernel, rfl, by decide⟩
theorem d_c11_richest_15 : gD b_c11_richest 15 (.iconst (-1)) 1 16 := ⟨by decide +kernel, rfl⟩
theorem d_c11_richest_16 : gD b_c11_richest 16 .ireturn 1 17 := ⟨by decide +kernel, rfl⟩
theorem d_c11_richest_17 : gD b_c11_richest 17 (.aload_n 0) 1 18 := ⟨by decide +kernel, rfl⟩
theorem d_c11_richest_18 : gD b_c11_richest 18 (.getfield 9) 3 21 := ⟨by decide +kernel, rfl⟩
theorem d_c11_richest_21 : gD b_c11_richest 21 (.bipush 40) 2 23 := ⟨by decide +kernel, rfl⟩
theorem d_c11_richest_23 : gD b_c11_richest 23 .iaload 1 24 := ⟨by decide +kernel, rfl⟩
theorem d_c11_richest_24 : gJ b_c11_richest 24 (.ifCond .ne 6) 3 6 27 30 := ⟨by decide +kernel, rfl, by decide⟩
theorem d_c11_richest_27 : gD b_c11_richest 27 (.bipush (-2)) 2 29 := ⟨by decide +kernel, rfl⟩
theorem d_c11_richest_29 : gD b_c11_richest 29 .ireturn 1 30 := ⟨by decide +kernel, rfl⟩
theorem d_c11_richest_30 : gD b_c11_richest 30 (.aload_n 0) 1 31 := ⟨by decide +kernel, rfl⟩
theorem d_c11_richest_31 : gD b_c11_richest 31 (.getfield 9) 3 34 := ⟨by decide +kernel, rfl⟩
theorem d_c11_richest_34 : gD b_c11_richest 34 (.aload_n 0) 1 35 := ⟨by decide +kernel, rfl⟩
theorem d_c11_richest_35 : gD b_c11_richest 35 (.getfield 52) 3 38 := ⟨by decide +kernel, rfl⟩
theorem d_c11_richest_38 : gD b_c11_richest 38 (.iconst 0) 1 39 := ⟨by decide +kernel, rfl⟩
theorem d_c11_richest_39 : gD b_c11_richest 39 (.invokestatic 253) 3 42 := ⟨by decide +kernel, rfl⟩
theorem d_c11_richest_42 : gD b_c11_richest 42 (.aload_n 0) 1 43 := ⟨by decide +kernel, rfl⟩
theorem d_c11_richest_43 : gD b_c11_richest 43 (.aload_n 0) 1 44 := ⟨by decide +kernel, rfl⟩
theorem d_c11_richest_44 : gD b_c11_richest 44 (.getfield 52) 3 47 := ⟨by decide +kernel, rfl⟩
theorem d_c11_richest_47 : gD b_c11_richest 47 (.iload_n 1) 1 48 := ⟨by decide +kernel, rfl⟩
theorem d_c11_richest_48 : gD b_c11_richest 48 (.invokevirtual 264) 3 51 := ⟨by decide +kernel, rfl⟩
theorem d_c11_richest_51 : gD b_c11_richest 51 (.iconst 0) 1 52 := ⟨by decide +kernel, rfl⟩
theorem d_c11_richest_52 : gD b_c11_richest 52 (.istore_n 2) 1 53 := ⟨by decide +kernel, rfl⟩
theorem d_c11_richest_53 : gD b_c11_richest 53 (.iconst 1) 1 54 := ⟨by decide +kernel, rfl⟩
theorem d_c11_richest_54 : gD b_c11_richest 54 (.istore_n 3) 1 55 := ⟨by decide +kernel, rfl⟩
theorem d_c11_richest_55 : gD b_c11_richest 55 (.iload_n 3) 1 56 := ⟨by decide +kernel, rfl⟩
theorem d_c11_richest_56 : gD b_c11_richest 56 (.aload_n 0) 1 57 := ⟨by decide +kernel, rfl⟩
theorem d_c11_richest_57 : gD b_c11_richest 57 (.getfield 52) 3 60 := ⟨by decide +kernel, rfl⟩
theorem d_c11_richest_60 : gD b_c11_richest 60 (.bipush 40) 2 62 := ⟨by decide +kernel, rfl⟩
theorem d_c11_richest_62 : gD b_c11_richest 62 .iaload 1 63 := ⟨by decide +kernel, rfl⟩
theorem d_c11_richest_63 : gJ b_c11_richest 63 (.if_icmp .ge 36) 3 36 66 99 := ⟨by decide +kernel, rfl, by decide⟩
theorem d_c11_richest_66 : gD b_c11_richest 66 (.aload_n 0) 1 67 := ⟨by decide +kernel, rfl⟩
theorem d_c11_richest_67 : gD b_c11_richest 67 (.getfield 52) 3 70 := ⟨by decide +kernel, rfl⟩
theorem d_c11_richest_70 : gD b_c11_richest 70 (.bipush 32) 2 72 := ⟨by decide +kernel, rfl⟩
theorem d_c11_richest_72 : gD b_c11_richest 72 (.iload_n 3) 1 73 := ⟨by decide +kernel, rfl⟩
theorem d_c11_richest_73 : gD b_c11_richest 73 .iadd 1 74 := ⟨by decide +kernel, rfl⟩
theorem d_c11_richest_74 : gD b_c11_richest 74 .iaload 1 75 := ⟨by decide +kernel, rfl⟩
theorem d_c11_richest_75 : gD b_c11_richest 75 (.aload_n 0) 1 76 := ⟨by decide +kernel, rfl⟩
theorem d_c11_richest_76 : gD b_c11_richest 76 (.getfield 52) 3 79 := ⟨by decide +kernel, rfl⟩
theorem d_c11_richest_79 : gD b_c11_richest 79 (.bipush 32) 2 81 := ⟨by decide +kernel, rfl⟩
theorem d_c11_richest_81 : gD b_c11_richest 81 (.iload_n 2) 1 82 := ⟨by decide +kernel, rfl⟩
theorem d_c11_richest_82 : gD b_c11_richest 82 .iadd 1 83 := ⟨by decide +kernel, rfl⟩
theorem d_c11_richest_83 : gD b_c11_richest 83 .iaload 1 84 := ⟨by decide +kernel, rfl⟩
theorem d_c11_richest_84 : gJ b_c11_richest 84 (.if_icmp .le 7) 3 7 87 91 := ⟨by decide +kernel, rfl, by decide⟩
theorem d_c11_richest_87 : gD b_c11_richest 87 (.iload_n 3) 1 88 := ⟨by decide +kernel, rfl⟩
theorem d_c11_richest_88 : gJ b_c11_richest 88 (.goto 4) 3 4 91 92 := ⟨by decide +kernel, rfl, by decide⟩
theorem d_c11_richest_91 : gD b_c11_richest 91 (.iload_n 2) 1 92 := ⟨by decide +kernel, rfl⟩
theorem d_c11_richest_92 : gD b_c11_richest 92 (.istore_n 2) 1 93 := ⟨by decide +kernel, rfl⟩
theorem d_c11_richest_93 : gD b_c11_richest 93 (.iinc 3 1) 3 96 := ⟨by decide +kernel, rfl⟩
theorem d_c11_richest_96 : gJ b_c11_richest 96 (.goto (-41)) 3 (-41) 99 55 := ⟨by decide +kernel, rfl, by decide⟩
theorem d_c11_richest_99 : gD b_c11_richest 99 (.aload_n 0) 1 100 := ⟨by decide +kernel, rfl⟩
theorem d_c11_richest_100 : gD b_c11_richest 100 (.iconst 0) 1 101 := ⟨by decide +kernel, rfl⟩
theorem d_c11_richest_101 : gD b_c11_richest 101 (.putfield 98) 3 104 := ⟨by decide +kernel, rfl⟩
theorem d_c11_richest_104 : gD b_c11_richest 104 (.aload_n 0) 1 105 := ⟨by decide +kernel, rfl⟩
theorem d_c11_richest_105 : gD b_c11_richest 105 (.aload_n 0) 1 106 := ⟨by decide +kernel, rfl⟩
theorem d_c11_richest_106 : gD b_c11_richest 106 (.getfield 52) 3 109 := ⟨by decide +kernel, rfl⟩
theorem d_c11_richest_109 : gD b_c11_richest 109 (.bipush 32) 2 111 := ⟨by decide +kernel, rfl⟩
theorem d_c11_richest_111 : gD b_c11_richest 111 (.iload_n 2) 1 112 := ⟨by decide +kernel, rfl⟩
theorem d_c11_richest_112 : gD b_c11_richest 112 .iadd 1 113 := ⟨by decide +kernel, rfl⟩
theorem d_c11_richest_113 : gD b_c11_richest 113 .iaload 1 114 := ⟨by decide +kernel, rfl⟩
theorem d_c11_richest_114 : gD b_c11_richest 114 .i2l 1 115 := ⟨by decide +kernel, rfl⟩
theorem d_c11_richest_115 : gD b_c11_richest 115 (.invokevirtual 268) 3 118 := ⟨by decide +kernel, rfl⟩
theorem d_c11_richest_118 : gD b_c11_richest 118 (.aload_n 0) 1 119 := ⟨by decide +kernel, rfl⟩
theorem d_c11_richest_119 : gD b_c11_richest 119 (.aload_n 0) 1 120 := ⟨by decide +kernel, rfl⟩
theorem d_c11_richest_120 : gD b_c11_richest 120 (.getfield 52) 3 123 := ⟨by decide +kernel, rfl⟩
theorem d_c11_richest_123 : gD b_c11_richest 123 (.invokestatic 272) 3 126 := ⟨by decide +kernel, rfl⟩
theorem d_c11_richest_126 : gD b_c11_richest 126 (.invokestatic 275) 3 129 := ⟨by decide +kernel, rfl⟩
theorem d_c11_richest_129 : gD b_c11_richest 129 .i2l 1 130 := ⟨by decide +kernel, rfl⟩
theorem d_c11_richest_130 : gD b_c11_richest 130 (.invokevirtual 268) 3 133 := ⟨by decide +kernel, rfl⟩
theorem d_c11_richest_133 : gD b_c11_richest 133 (.iload_n 2) 1 134 := ⟨by decide +kernel, rfl⟩
theorem d_c11_richest_134 : gD b_c11_richest 134 .ireturn 1 135 := ⟨by decide +kernel, rfl⟩
def lp_c11_richest_55 (N : Nat) (a0 : Nat) (h : gH) : Nat → Int32 → Int32 → Option (Int32)
  | 0, _, _ => none
  | k + 1, x2, x3 =>
  (gfR h a0 11 25).bind fun v12 =>
    (ga 0 h v12 (40 : Int32)).bind fun v13 =>
    if v13 ≤ x3 then
    some x2
  else
    (gfR h a0 11 25).bind fun v15 =>
    (ga 0 h v15 ((32 : Int32) + x3)).bind fun v16 =>
    (gfR h a0 11 25).bind fun v17 =>
    (ga 0 h v17 ((32 : Int32) + x2)).bind fun v18 =>
    lp_c11_richest_55 N a0 h k (if v16 ≤ v18 then x2 else x3) (x3 + (1 : Int32))
def f_c11_richest (N : Nat) (a0 : Nat) (x1 : Int32) (h : gH) : Option (Int32 × gH) :=
  (gcl h a0 11).bind fun _ =>
  (sf h a0 11 10 (.int (0 : Int32))).bind fun h1 =>
    (f_c11_in N x1 (0 : Int32) (99 : Int32) h1).bind fun q2 =>
    if q2 = 0 then
    some ((-1 : Int32), h1)
  else
    (gfR h1 a0 11 0).bind fun v4 =>
    (ga 0 h1 v4 (40 : Int32)).bind fun v5 =>
    if v5 = 0 then
    some ((-2 : Int32), h1)
  else
    (gfR h1 a0 11 0).bind fun v7 =>
    (gfR h1 a0 11 25).bind fun v8 =>
    (f_c11_lay N v7 v8 (0 : Int32) h1).bind fun q9 =>
    (gfR q9 a0 11 25).bind fun v10 =>
    (f_c11_goSeasons N a0 v10 x1 q9).bind fun q11 =>
    (lp_c11_richest_55 N a0 q11 N (0 : Int32) (1 : Int32)).bind fun o22 =>
    (sf q11 a0 11 9 (.int (0 : Int32))).bind fun h23 =>
    (gfR h23 a0 11 25).bind fun v24 =>
    (ga 0 h23 v24 ((32 : Int32) + o22)).bind fun v25 =>
    (f_c11_tell N a0 v25.toInt64 h23).bind fun q26 =>
    (gfR q26 a0 11 25).bind fun v27 =>
    (f_c11_dryOnes N v27 q26).bind fun q28 =>
    (f_jInteger_bitCount N q28 q26).bind fun q29 =>
    (f_c11_tell N a0 q29.toInt64 q26).bind fun q30 =>
    some (o22, q30)
set_option maxHeartbeats 4000000 in
set_option maxRecDepth 100000 in
theorem wlp_c11_richest_55 {M : gM} {X : gX} {N : Nat} (hx : gEx X = false) (K : gC M X gN11 b_c11_richest 4 (gRm (9 + N) 0 0)) (a0 : Nat) (h : gH) : ∀ (k : Nat) (x2 : Int32) (x3 : Int32) (o : Int32), lp_c11_richest_55 N a0 h k x2 x3 = some o → gG M X 4 0 0 99 [(0, .ref a0), (2, .int o)] [] h → gG M X 4 0 0 55 [(0, .ref a0), (2, .int x2), (3, .int x3)] [] h := by
  intro k
  induction k with
  | zero =>
    intro x2 x3 o hy
    rw [lp_c11_richest_55.eq_1] at hy
    cases hy
  | succ k ih =>
    intro x2 x3 o hy hE
    rw [lp_c11_richest_55.eq_2] at hy
    refine g_iload_n K d_c11_richest_55 2 rfl ?_
    refine g_aload_n K d_c11_richest_56 0 rfl ?_
    obtain ⟨v12, e_v12, hy⟩ := gBd hy
    refine g_getR K fl_c11_52 d_c11_richest_57 e_v12 ?_
    refine g_bipush (v := 40) K d_c11_richest_60 (by decide) ?_
    obtain ⟨v13, e_v13, hy⟩ := gBd hy
    refine g_iald K d_c11_richest_62 e_v13 ?_
    refine g_icmp_ge K d_c11_richest_63 (fun c14 => ?_) (fun c14 => ?_)
    · rw [if_pos c14] at hy
      refine g_sub (ls2 := [(0, .ref a0), (2, .int x2)]) [0, 1] rfl ?_
      obtain rfl := Option.some.inj hy
      exact hE
    · rw [if_neg c14] at hy
      refine g_aload_n K d_c11_richest_66 0 rfl ?_
      obtain ⟨v15, e_v15, hy⟩ := gBd hy
      refine g_getR K fl_c11_52 d_c11_richest_67 e_v15 ?_
      refine g_bipush (v := 32) K d_c11_richest_70 (by decide) ?_
      refine g_iload_n K d_c11_richest_72 2 rfl ?_
      refine g_iadd K d_c11_richest_73 ?_
      obtain ⟨v16, e_v16, hy⟩ := gBd hy
      refine g_iald K d_c11_richest_74 e_v16 ?_
      refine g_aload_n K d_c11_richest_75 0 rfl ?_
      obtain ⟨v17, e_v17, hy⟩ := gBd hy
      refine g_getR K fl_c11_52 d_c11_richest_76 e_v17 ?_
      refine g_bipush (v := 32) K d_c11_richest_79 (by decide) ?_
      refine g_iload_n K d_c11_richest_81 1 rfl ?_
      refine g_iadd K d_c11_richest_82 ?_
      obtain ⟨v18, e_v18, hy⟩ := gBd hy
      refine g_iald K d_c11_richest_83 e_v18 ?_
      have hJ21 : ∀ w20 : Int32, w20 = (if v16 ≤ v18 then x2 else x3) → gG M X 4 0 0 92 [(0, .ref a0), (2, .int x2), (3, .int x3)] [.int w20] h := by
        intro w20 e_w20
        subst e_w20
        refine g_istore_n (ls2 := [(2, .int (if v16 ≤ v18 then x2 else x3)), (0, .ref a0), (3, .int x3)]) K d_c11_richest_92 rfl rfl ?_
        refine g_iinc (ls2 := [(3, .int (x3 + (1 : Int32))), (2, .int (if v16 ≤ v18 then x2 else x3)), (0, .ref a0)]) (v := 1) K d_c11_richest_93 2 rfl (by decide) rfl rfl ?_
        refine g_goto K d_c11_richest_96 ?_
        refine g_sub (ls2 := [(0, .ref a0), (2, .int (if v16 ≤ v18 then x2 else x3)), (3, .int (x3 + (1 : Int32)))]) [2, 1, 0] rfl ?_
        exact ih _ _ _ hy hE
      refine g_icmp_le K d_c11_richest_84 (fun c19 => ?_) (fun c19 => ?_)
      · refine g_iload_n K d_c11_richest_91 1 rfl ?_
        exact hJ21 _ (by rw [if_pos c19])
      · refine g_iload_n K d_c11_richest_87 2 rfl ?_
        refine g_goto K d_c11_richest_88 ?_
        exact hJ21 _ (by rw [if_neg c19])
set_option maxHeartbeats 4000000 in
set_option maxRecDepth 100000 in
theorem ct_c11_richest (l : Launch) (X : gX) (hx : gEx X = false) (N : Nat) (a0 : Nat) (x1 : Int32) (h : gH) (q : Int32 × gH) (hy : f_c11_richest N a0 x1 h = some q) : gRc y_c11_richest h a0 ∧ gMi l X y_c11_richest b_c11_richest 4 .int (9 + N) 0 0 [.ref a0, .int x1] h q.1 q.2 := by
  unfold f_c11_richest at hy
  obtain ⟨u0, e_u0, hy⟩ := gBd hy
  cases u0
  refine ⟨Or.inl ⟨11, _, _, e_u0, rfl⟩, gMet_i (lsx := [(0, .ref a0), (1, .int x1)]) (by decide) rfl rfl ?_⟩
  intro M hMl K hret
  subst hMl
  refine g_aload_n K d_c11_richest_0 0 rfl ?_
  refine g_iconst (v := 0) K d_c11_richest_1 (by decide) ?_
  obtain ⟨h1, e_h1, hy⟩ := gBd hy
  refine g_putI K fp_c11_95 d_c11_richest_2 e_h1 ?_
  refine g_iload_n K d_c11_richest_5 1 rfl ?_
  refine g_iconst (v := 0) K d_c11_richest_6 (by decide) ?_
  refine g_bipush (v := 99) K d_c11_richest_7 (by decide) ?_
  obtain ⟨q2, e_q2, hy⟩ := gBd hy
  refine g_callSi (rest := []) K hx ly_c11_in ks_c11_105 d_c11_richest_9 (ct_c11_in M.2.1 X hx N x1 (0 : Int32) (99 : Int32) h1 q2 e_q2) rfl rfl (Nat.le_of_ble_eq_true rfl) (gDep rfl) ⟨Nat.le_refl 0, Nat.le_refl 0⟩ ?_
  refine g_if_ne K d_c11_richest_12 (fun c3 => ?_) (fun c3 => ?_)
  · rw [if_neg c3] at hy
    refine g_aload_n K d_c11_richest_17 0 rfl ?_
    obtain ⟨v4, e_v4, hy⟩ := gBd hy
    refine g_getR K fl_c11_9 d_c11_richest_18 e_v4 ?_
    refine g_bipush (v := 40) K d_c11_richest_21 (by decide) ?_
    obtain ⟨v5, e_v5, hy⟩ := gBd hy
    refine g_iald K d_c11_richest_23 e_v5 ?_
    refine g_if_ne K d_c11_richest_24 (fun c6 => ?_) (fun c6 => ?_)
    · rw [if_neg c6] at hy
      refine g_aload_n K d_c11_richest_30 0 rfl ?_
      obtain ⟨v7, e_v7, hy⟩ := gBd hy
      refine g_getR K fl_c11_9 d_c11_richest_31 e_v7 ?_
      refine g_aload_n K d_c11_richest_34 0 rfl ?_
      obtain ⟨v8, e_v8, hy⟩ := gBd hy
      refine g_getR K fl_c11_52 d_c11_richest_35 e_v8 ?_
      refine g_iconst (v := 0) K d_c11_richest_38 (by decide) ?_
      obtain ⟨q9, e_q9, hy⟩ := gBd hy
      refine g_callSv (rest := []) K hx ly_c11_lay ks_c11_253 d_c11_richest_39 (ct_c11_lay M.2.1 X hx N v7 v8 (0 : Int32) h1 q9 e_q9) rfl rfl (Nat.le_of_ble_eq_true rfl) (gDep rfl) ⟨Nat.le_refl 0, Nat.le_refl 0⟩ ?_
      refine g_aload_n K d_c11_richest_42 0 rfl ?_
      refine g_aload_n K d_c11_richest_43 0 rfl ?_
      obtain ⟨v10, e_v10, hy⟩ := gBd hy
      refine g_getR K fl_c11_52 d_c11_richest_44 e_v10 ?_
      refine g_iload_n K d_c11_richest_47 1 rfl ?_
      obtain ⟨q11, e_q11, hy⟩ := gBd hy
      refine g_callVv (rest := []) K hx ly_c11_goSeasons kv_c11_264 d_c11_richest_48 (ct_c11_goSeasons M.2.1 X hx N a0 v10 x1 q9 q11 e_q11) rfl rfl (Nat.le_of_ble_eq_true rfl) (gDep rfl) ⟨Nat.le_refl 0, Nat.le_refl 0⟩ ?_
      refine g_iconst (v := 0) K d_c11_richest_51 (by decide) ?_
      refine g_istore_n (ls2 := [(2, .int (0 : Int32)), (0, .ref a0), (1, .int x1)]) K d_c11_richest_52 rfl rfl ?_
      refine g_iconst (v := 1) K d_c11_richest_53 (by decide) ?_
      refine g_istore_n (ls2 := [(3, .int (1 : Int32)), (2, .int (0 : Int32)), (0, .ref a0), (1, .int x1)]) K d_c11_richest_54 rfl rfl ?_
      obtain ⟨o22, e_o22, hy⟩ := gBd hy
      refine g_sub (ls2 := [(0, .ref a0), (2, .int (0 : Int32)), (3, .int (1 : Int32))]) [2, 1, 0] rfl ?_
      refine wlp_c11_richest_55 hx K a0 q11 N (0 : Int32) (1 : Int32) o22 e_o22 ?_
      refine g_aload_n K d_c11_richest_99 0 rfl ?_
      refine g_iconst (v := 0) K d_c11_richest_100 (by decide) ?_
      obtain ⟨h23, e_h23, hy⟩ := gBd hy
      refine g_putI K fp_c11_98 d_c11_richest_101 e_h23 ?_
      refine g_aload_n K d_c11_richest_104 0 rfl ?_
      refine g_aload_n K d_c11_richest_105 0 rfl ?_
      obtain ⟨v24, e_v24, hy⟩ := gBd hy
      refine g_getR K fl_c11_52 d_c11_richest_106 e_v24 ?_
      refine g_bipush (v := 32) K d_c11_richest_109 (by decide) ?_
      refine g_iload_n K d_c11_richest_111 1 rfl ?_
      refine g_iadd K d_c11_richest_112 ?_
      obtain ⟨v25, e_v25, hy⟩ := gBd hy
      refine g_iald K d_c11_richest_113 e_v25 ?_
      refine g_i2l K d_c11_richest_114 ?_
      obtain ⟨q26, e_q26, hy⟩ := gBd hy
      refine g_callVv (rest := []) K hx ly_c11_tell kv_c11_268 d_c11_richest_115 (ct_c11_tell M.2.1 X hx N a0 v25.toInt64 h23 q26 e_q26) rfl rfl (Nat.le_of_ble_eq_true rfl) (gDep rfl) ⟨Nat.le_refl 0, Nat.le_refl 0⟩ ?_
      refine g_aload_n K d_c11_richest_118 0 rfl ?_
      refine g_aload_n K d_c11_richest_119 0 rfl ?_
      obtain ⟨v27, e_v27, hy⟩ := gBd hy
      refine g_getR K fl_c11_52 d_c11_richest_120 e_v27 ?_
      obtain ⟨q28, e_q28, hy⟩ := gBd hy
      refine g_callSi (rest := [.ref a0]) K hx ly_c11_dryOnes ks_c11_272 d_c11_richest_123 (ct_c11_dryOnes M.2.1 X hx N v27 q26 q28 e_q28) rfl rfl (Nat.le_of_ble_eq_true rfl) (gDep rfl) ⟨Nat.le_refl 0, Nat.le_refl 0⟩ ?_
      obtain ⟨q29, e_q29, hy⟩ := gBd hy
      refine g_callSi (rest := [.ref a0]) K hx ly_jInteger_bitCount ks_c11_275 d_c11_richest_126 (ct_jInteger_bitCount M.2.1 X hx N q28 q26 q29 e_q29) rfl rfl (Nat.le_of_ble_eq_true rfl) (gDep rfl) ⟨Nat.le_refl 0, Nat.le_refl 0⟩ ?_
      refine g_i2l K d_c11_richest_129 ?_
      obtain ⟨q30, e_q30, hy⟩ := gBd hy
      refine g_callVv (rest := []) K hx ly_c11_tell kv_c11_268 d_c11_richest_130 (ct_c11_tell M.2.1 X hx N a0 q29.toInt64 q26 q30 e_q30) rfl rfl (Nat.le_of_ble_eq_true rfl) (gDep rfl) ⟨Nat.le_refl 0, Nat.le_refl 0⟩ ?_
      refine g_iload_n K d_c11_richest_133 1 rfl ?_
      obtain rfl := Option.some.inj hy
      exact hret rfl _ _ _ d_c11_richest_134
    · rw [if_pos c6] at hy
      refine g_bipush (v := (-2)) K d_c11_richest_27 (by decide) ?_
      obtain rfl := Option.some.inj hy
      exact hret rfl _ _ _ d_c11_richest_29
  · rw [if_pos c3] at hy
    refine g_iconst (v := (-1)) K d_c11_richest_15 (by decide) ?_
    obtain rfl := Option.some.inj hy
    exact hret rfl _ _ _ d_c11_richest_16
-- c11 seasons
theorem d_c11_seasons_0 : gD b_c11_seasons 0 (.aload_n 0) 1 1 := ⟨by decide +kernel, rfl⟩
theorem d_c11_seasons_1 : gD b_c11_seasons 1 (.iconst 0) 1 2 := ⟨by decide +kernel, rfl⟩
theorem d_c11_seasons_2 : gD b_c11_seasons 2 (.putfield 95) 3 5 := ⟨by decide +kernel, rfl⟩
theorem d_c11_seasons_5 : gD b_c11_seasons 5 (.iload_n 1) 1 6 := ⟨by decide +kernel, rfl⟩
theorem d_c11_seasons_6 : gD b_c11_seasons 6 (.iconst 0) 1 7 := ⟨by decide +kernel, rfl⟩
theorem d_c11_seasons_7 : gD b_c11_seasons 7 (.bipush 60) 2 9 := ⟨by decide +kernel, rfl⟩
theorem d_c11_seasons_9 : gD b_c11_seasons 9 (.invokestatic 105) 3 12 := ⟨by decide +kernel, rfl⟩
theorem d_c11_seasons_12 : gJ b_c11_seasons 12 (.ifCond .ne 5) 3 5 15 17 := ⟨by decide +kernel, rfl, by decide⟩
theorem d_c11_seasons_15 : gD b_c11_seasons 15 (.iconst (-1)) 1 16 := ⟨by decide +kernel, rfl⟩
theorem d_c11_seasons_16 : gD b_c11_seasons 16 .ireturn 1 17 := ⟨by decide +kernel, rfl⟩
theorem d_c11_seasons_17 : gD b_c11_seasons 17 (.iload_n 1) 1 18 := ⟨by decide +kernel, rfl⟩
theorem d_c11_seasons_18 : gJ b_c11_seasons 18 (.ifCond .le 11) 3 11 21 29 := ⟨by decide +kernel, rfl, by decide⟩
theorem d_c11_seasons_21 : gD b_c11_seasons 21 (.aload_n 0) 1 22 := ⟨by decide +kernel, rfl⟩
theorem d_c11_seasons_22 : gD b_c11_seasons 22 (.aload_n 0) 1 23 := ⟨by decide +kernel, rfl⟩
theorem d_c11_seasons_23 : gD b_c11_seasons 23 (.getfield 9) 3 26 := ⟨by decide +kernel, rfl⟩
theorem d_c11_seasons_26 : gD b_c11_seasons 26 (.invokevirtual 260) 3 29 := ⟨by decide +kernel, rfl⟩
theorem d_c11_seasons_29 : gD b_c11_seasons 29 (.aload_n 0) 1 30 := ⟨by decide +kernel, rfl⟩
theorem d_c11_seasons_30 : gD b_c11_seasons 30 (.getfield 9) 3 33 := ⟨by decide +kernel, rfl⟩
theorem d_c11_seasons_33 : gD b_c11_seasons 33 (.bipush 42) 2 35 := ⟨by decide +kernel, rfl⟩
theorem d_c11_seasons_35 : gD b_c11_seasons 35 .iaload 1 36 := ⟨by decide +kernel, rfl⟩
theorem d_c11_seasons_36 : gD b_c11_seasons 36 (.istore_n 2) 1 37 := ⟨by decide +kernel, rfl⟩
theorem d_c11_seasons_37 : gD b_c11_seasons 37 (.aload_n 0) 1 38 := ⟨by decide +kernel, rfl⟩
theorem d_c11_seasons_38 : gD b_c11_seasons 38 (.aload_n 0) 1 39 := ⟨by decide +kernel, rfl⟩
theorem d_c11_seasons_39 : gD b_c11_seasons 39 (.getfield 9) 3 42 := ⟨by decide +kernel, rfl⟩
theorem d_c11_seasons_42 : gD b_c11_seasons 42 (.iload_n 1) 1 43 := ⟨by decide +kernel, rfl⟩
theorem d_c11_seasons_43 : gD b_c11_seasons 43 (.invokevirtual 264) 3 46 := ⟨by decide +kernel, rfl⟩
theorem d_c11_seasons_46 : gD b_c11_seasons 46 (.aload_n 0) 1 47 := ⟨by decide +kernel, rfl⟩
theorem d_c11_seasons_47 : gD b_c11_seasons 47 (.iconst 0) 1 48 := ⟨by decide +kernel, rfl⟩
theorem d_c11_seasons_48 : gD b_c11_seasons 48 (.putfield 98) 3 51 := ⟨by decide +kernel, rfl⟩
theorem d_c11_seasons_51 : gD b_c11_seasons 51 (.aload_n 0) 1 52 := ⟨by decide +kernel, rfl⟩
theorem d_c11_seasons_52 : gD b_c11_seasons 52 (.aload_n 0) 1 53 := ⟨by decide +kernel, rfl⟩
theorem d_c11_seasons_53 : gD b_c11_seasons 53 (.getfield 9) 3 56 := ⟨by decide +kernel, rfl⟩
theorem d_c11_seasons_56 : gD b_c11_seasons 56 (.bipush 42) 2 58 := ⟨by decide +kernel, rfl⟩
theorem d_c11_seasons_58 : gD b_c11_seasons 58 .iaload 1 59 := ⟨by decide +kernel, rfl⟩
theorem d_c11_seasons_59 : gD b_c11_seasons 59 (.iload_n 2) 1 60 := ⟨by decide +kernel, rfl⟩
theorem d_c11_seasons_60 : gD b_c11_seasons 60 .isub 1 61 := ⟨by decide +kernel, rfl⟩
theorem d_c11_seasons_61 : gD b_c11_seasons 61 .i2l 1 62 := ⟨by decide +kernel, rfl⟩
theorem d_c11_seasons_62 : gD b_c11_seasons 62 (.invokevirtual 268) 3 65 := ⟨by decide +kernel, rfl⟩
theorem d_c11_seasons_65 : gD b_c11_seasons 65 (.aload_n 0) 1 66 := ⟨by decide +kernel, rfl⟩
theorem d_c11_seasons_66 : gD b_c11_seasons 66 (.aload_n 0) 1 67 := ⟨by decide +kernel, rfl⟩
theorem d_c11_seasons_67 : gD b_c11_seasons 67 (.getfield 9) 3 70 := ⟨by decide +kernel, rfl⟩
theorem d_c11_seasons_70 : gD b_c11_seasons 70 (.invokestatic 272) 3 73 := ⟨by decide +kernel, rfl⟩
theorem d_c11_seasons_73 : gD b_c11_seasons 73 (.invokestatic 275) 3 76 := ⟨by decide +kernel, rfl⟩
theorem d_c11_seasons_76 : gD b_c11_seasons 76 .i2l 1 77 := ⟨by decide +kernel, rfl⟩
theorem d_c11_seasons_77 : gD b_c11_seasons 77 (.invokevirtual 268) 3 80 := ⟨by decide +kernel, rfl⟩
theorem d_c11_seasons_80 : gD b_c11_seasons 80 (.aload_n 0) 1 81 := ⟨by decide +kernel, rfl⟩
theorem d_c11_seasons_81 : gD b_c11_seasons 81 (.getfield 9) 3 84 := ⟨by decide +kernel, rfl⟩
theorem d_c11_seasons_84 : gD b_c11_seasons 84 (.invokestatic 249) 3 87 := ⟨by decide +kernel, rfl⟩
theorem d_c11_seasons_87 : gD b_c11_seasons 87 .ireturn 1 88 := ⟨by decide +kernel, rfl⟩
def f_c11_seasons (N : Nat) (a0 : Nat) (x1 : Int32) (h : gH) : Option (Int32 × gH) :=
  (gcl h a0 11).bind fun _ =>
  (sf h a0 11 10 (.int (0 : Int32))).bind fun h1 =>
    (f_c11_in N x1 (0 : Int32) (60 : Int32) h1).bind fun q2 =>
    if q2 = 0 then
    some ((-1 : Int32), h1)
  else
    (show Option (gH) from if x1 ≤ 0 then
    some h1
  else
    (gfR h1 a0 11 0).bind fun v21 =>
    (f_c11_remember N a0 v21 h1).bind fun q22 =>
    some q22).bind fun t5 =>
    (gfR t5 a0 11 0).bind fun v7 =>
    (ga 0 t5 v7 (42 : Int32)).bind fun v8 =>
    (gfR t5 a0 11 0).bind fun v9 =>
    (f_c11_goSeasons N a0 v9 x1 t5).bind fun q10 =>
    (sf q10 a0 11 9 (.int (0 : Int32))).bind fun h11 =>
    (gfR h11 a0 11 0).bind fun v12 =>
    (ga 0 h11 v12 (42 : Int32)).bind fun v13 =>
    (f_c11_tell N a0 ((v13 - v8).toInt64) h11).bind fun q14 =>
    (gfR q14 a0 11 0).bind fun v15 =>
    (f_c11_dryOnes N v15 q14).bind fun q16 =>
    (f_jInteger_bitCount N q16 q14).bind fun q17 =>
    (f_c11_tell N a0 q17.toInt64 q14).bind fun q18 =>
    (gfR q18 a0 11 0).bind fun v19 =>
    (f_c11_waters N v19 q18).bind fun q20 =>
    some (q20, q18)
set_option maxHeartbeats 4000000 in
set_option maxRecDepth 100000 in
theorem ct_c11_seasons (l : Launch) (X : gX) (hx : gEx X = false) (N : Nat) (a0 : Nat) (x1 : Int32) (h : gH) (q : Int32 × gH) (hy : f_c11_seasons N a0 x1 h = some q) : gRc y_c11_seasons h a0 ∧ gMi l X y_c11_seasons b_c11_seasons 3 .int (9 + N) 0 0 [.ref a0, .int x1] h q.1 q.2 := by
  unfold f_c11_seasons at hy
  obtain ⟨u0, e_u0, hy⟩ := gBd hy
  cases u0
  refine ⟨Or.inl ⟨11, _, _, e_u0, rfl⟩, gMet_i (lsx := [(0, .ref a0), (1, .int x1)]) (by decide) rfl rfl ?_⟩
  intro M hMl K hret
  subst hMl
  refine g_aload_n K d_c11_seasons_0 0 rfl ?_
  refine g_iconst (v := 0) K d_c11_seasons_1 (by decide) ?_
  obtain ⟨h1, e_h1, hy⟩ := gBd hy
  refine g_putI K fp_c11_95 d_c11_seasons_2 e_h1 ?_
  refine g_iload_n K d_c11_seasons_5 1 rfl ?_
  refine g_iconst (v := 0) K d_c11_seasons_6 (by decide) ?_
  refine g_bipush (v := 60) K d_c11_seasons_7 (by decide) ?_
  obtain ⟨q2, e_q2, hy⟩ := gBd hy
  refine g_callSi (rest := []) K hx ly_c11_in ks_c11_105 d_c11_seasons_9 (ct_c11_in M.2.1 X hx N x1 (0 : Int32) (60 : Int32) h1 q2 e_q2) rfl rfl (Nat.le_of_ble_eq_true rfl) (gDep rfl) ⟨Nat.le_refl 0, Nat.le_refl 0⟩ ?_
  refine g_if_ne K d_c11_seasons_12 (fun c3 => ?_) (fun c3 => ?_)
  · rw [if_neg c3] at hy
    refine g_iload_n K d_c11_seasons_17 1 rfl ?_
    obtain ⟨t5, e_t5, hy⟩ := gBd hy
    have hJ6 : gG M X 3 0 0 29 [(0, .ref a0), (1, .int x1)] [] t5 := by
      refine g_aload_n K d_c11_seasons_29 0 rfl ?_
      obtain ⟨v7, e_v7, hy⟩ := gBd hy
      refine g_getR K fl_c11_9 d_c11_seasons_30 e_v7 ?_
      refine g_bipush (v := 42) K d_c11_seasons_33 (by decide) ?_
      obtain ⟨v8, e_v8, hy⟩ := gBd hy
      refine g_iald K d_c11_seasons_35 e_v8 ?_
      refine g_istore_n (ls2 := [(2, .int v8), (0, .ref a0), (1, .int x1)]) K d_c11_seasons_36 rfl rfl ?_
      refine g_aload_n K d_c11_seasons_37 1 rfl ?_
      refine g_aload_n K d_c11_seasons_38 1 rfl ?_
      obtain ⟨v9, e_v9, hy⟩ := gBd hy
      refine g_getR K fl_c11_9 d_c11_seasons_39 e_v9 ?_
      refine g_iload_n K d_c11_seasons_42 2 rfl ?_
      obtain ⟨q10, e_q10, hy⟩ := gBd hy
      refine g_callVv (rest := []) K hx ly_c11_goSeasons kv_c11_264 d_c11_seasons_43 (ct_c11_goSeasons M.2.1 X hx N a0 v9 x1 t5 q10 e_q10) rfl rfl (Nat.le_of_ble_eq_true rfl) (gDep rfl) ⟨Nat.le_refl 0, Nat.le_refl 0⟩ ?_
      refine g_aload_n K d_c11_seasons_46 1 rfl ?_
      refine g_iconst (v := 0) K d_c11_seasons_47 (by decide) ?_
      obtain ⟨h11, e_h11, hy⟩ := gBd hy
      refine g_putI K fp_c11_98 d_c11_seasons_48 e_h11 ?_
      refine g_aload_n K d_c11_seasons_51 1 rfl ?_
      refine g_aload_n K d_c11_seasons_52 1 rfl ?_
      obtain ⟨v12, e_v12, hy⟩ := gBd hy
      refine g_getR K fl_c11_9 d_c11_seasons_53 e_v12 ?_
      refine g_bipush (v := 42) K d_c11_seasons_56 (by decide) ?_
      obtain ⟨v13, e_v13, hy⟩ := gBd hy
      refine g_iald K d_c11_seasons_58 e_v13 ?_
      refine g_iload_n K d_c11_seasons_59 0 rfl ?_
      refine g_isub K d_c11_seasons_60 ?_
      refine g_i2l K d_c11_seasons_61 ?_
      obtain ⟨q14, e_q14, hy⟩ := gBd hy
      refine g_callVv (rest := []) K hx ly_c11_tell kv_c11_268 d_c11_seasons_62 (ct_c11_tell M.2.1 X hx N a0 ((v13 - v8).toInt64) h11 q14 e_q14) rfl rfl (Nat.le_of_ble_eq_true rfl) (gDep rfl) ⟨Nat.le_refl 0, Nat.le_refl 0⟩ ?_
      refine g_aload_n K d_c11_seasons_65 1 rfl ?_
      refine g_aload_n K d_c11_seasons_66 1 rfl ?_
      obtain ⟨v15, e_v15, hy⟩ := gBd hy
      refine g_getR K fl_c11_9 d_c11_seasons_67 e_v15 ?_
      obtain ⟨q16, e_q16, hy⟩ := gBd hy
      refine g_callSi (rest := [.ref a0]) K hx ly_c11_dryOnes ks_c11_272 d_c11_seasons_70 (ct_c11_dryOnes M.2.1 X hx N v15 q14 q16 e_q16) rfl rfl (Nat.le_of_ble_eq_true rfl) (gDep rfl) ⟨Nat.le_refl 0, Nat.le_refl 0⟩ ?_
      obtain ⟨q17, e_q17, hy⟩ := gBd hy
      refine g_callSi (rest := [.ref a0]) K hx ly_jInteger_bitCount ks_c11_275 d_c11_seasons_73 (ct_jInteger_bitCount M.2.1 X hx N q16 q14 q17 e_q17) rfl rfl (Nat.le_of_ble_eq_true rfl) (gDep rfl) ⟨Nat.le_refl 0, Nat.le_refl 0⟩ ?_
      refine g_i2l K d_c11_seasons_76 ?_
      obtain ⟨q18, e_q18, hy⟩ := gBd hy
      refine g_callVv (rest := []) K hx ly_c11_tell kv_c11_268 d_c11_seasons_77 (ct_c11_tell M.2.1 X hx N a0 q17.toInt64 q14 q18 e_q18) rfl rfl (Nat.le_of_ble_eq_true rfl) (gDep rfl) ⟨Nat.le_refl 0, Nat.le_refl 0⟩ ?_
      refine g_aload_n K d_c11_seasons_80 1 rfl ?_
      obtain ⟨v19, e_v19, hy⟩ := gBd hy
      refine g_getR K fl_c11_9 d_c11_seasons_81 e_v19 ?_
      obtain ⟨q20, e_q20, hy⟩ := gBd hy
      refine g_callSi (rest := []) K hx ly_c11_waters ks_c11_249 d_c11_seasons_84 (ct_c11_waters M.2.1 X hx N v19 q18 q20 e_q20) rfl rfl (Nat.le_of_ble_eq_true rfl) (gDep rfl) ⟨Nat.le_refl 0, Nat.le_refl 0⟩ ?_
      obtain rfl := Option.some.inj hy
      exact hret rfl _ _ _ d_c11_seasons_87
    refine g_if_le K d_c11_seasons_18 (fun c4 => ?_) (fun c4 => ?_)
    · rw [if_pos c4] at e_t5
      obtain rfl := Option.some.inj e_t5
      exact hJ6
    · rw [if_neg c4] at e_t5
      refine g_aload_n K d_c11_seasons_21 0 rfl ?_
      refine g_aload_n K d_c11_seasons_22 0 rfl ?_
      obtain ⟨v21, e_v21, e_t5⟩ := gBd e_t5
      refine g_getR K fl_c11_9 d_c11_seasons_23 e_v21 ?_
      obtain ⟨q22, e_q22, e_t5⟩ := gBd e_t5
      refine g_callVv (rest := []) K hx ly_c11_remember kv_c11_260 d_c11_seasons_26 (ct_c11_remember M.2.1 X hx N a0 v21 h1 q22 e_q22) rfl rfl (Nat.le_of_ble_eq_true rfl) (gDep rfl) ⟨Nat.le_refl 0, Nat.le_refl 0⟩ ?_
      obtain rfl := Option.some.inj e_t5
      exact hJ6
  · rw [if_pos c3] at hy
    refine g_iconst (v := (-1)) K d_c11_seasons_15 (by decide) ?_
    obtain rfl := Option.some.inj hy
    exact hret rfl _ _ _ d_c11_seasons_16
-- c11 bears
theorem d_c11_bears_0 : gD b_c11_bears 0 (.aload_n 0) 1 1 := ⟨by decide +kernel, rfl⟩
theorem d_c11_bears_1 : gD b_c11_bears 1 (.iconst 0) 1 2 := ⟨by decide +kernel, rfl⟩
theorem d_c11_bears_2 : gD b_c11_bears 2 (.putfield 95) 3 5 := ⟨by decide +kernel, rfl⟩
theorem d_c11_bears_5 : gD b_c11_bears 5 (.aload_n 0) 1 6 := ⟨by decide +kernel, rfl⟩
theorem d_c11_bears_6 : gD b_c11_bears 6 (.iload_n 1) 1 7 := ⟨by decide +kernel, rfl⟩
theorem d_c11_bears_7 : gD b_c11_bears 7 (.invokevirtual 233) 3 10 := ⟨by decide +kernel, rfl⟩
theorem d_c11_bears_10 : gJ b_c11_bears 10 (.ifCond .eq 10) 3 10 13 20 := ⟨by decide +kernel, rfl, by decide⟩
theorem d_c11_bears_13 : gD b_c11_bears 13 (.iload_n 2) 1 14 := ⟨by decide +kernel, rfl⟩
theorem d_c11_bears_14 : gD b_c11_bears 14 (.invokestatic 305) 3 17 := ⟨by decide +kernel, rfl⟩
theorem d_c11_bears_17 : gJ b_c11_bears 17 (.ifCond .ne 5) 3 5 20 22 := ⟨by decide +kernel, rfl, by decide⟩
theorem d_c11_bears_20 : gD b_c11_bears 20 (.iconst (-1)) 1 21 := ⟨by decide +kernel, rfl⟩
theorem d_c11_bears_21 : gD b_c11_bears 21 .ireturn 1 22 := ⟨by decide +kernel, rfl⟩
theorem d_c11_bears_22 : gD b_c11_bears 22 (.aload_n 0) 1 23 := ⟨by decide +kernel, rfl⟩
theorem d_c11_bears_23 : gD b_c11_bears 23 (.getfield 9) 3 26 := ⟨by decide +kernel, rfl⟩
theorem d_c11_bears_26 : gD b_c11_bears 26 (.aload_n 0) 1 27 := ⟨by decide +kernel, rfl⟩
theorem d_c11_bears_27 : gD b_c11_bears 27 (.getfield 52) 3 30 := ⟨by decide +kernel, rfl⟩
theorem d_c11_bears_30 : gD b_c11_bears 30 (.iconst 0) 1 31 := ⟨by decide +kernel, rfl⟩
theorem d_c11_bears_31 : gD b_c11_bears 31 (.invokestatic 253) 3 34 := ⟨by decide +kernel, rfl⟩
theorem d_c11_bears_34 : gD b_c11_bears 34 (.aload_n 0) 1 35 := ⟨by decide +kernel, rfl⟩
theorem d_c11_bears_35 : gD b_c11_bears 35 (.iload_n 2) 1 36 := ⟨by decide +kernel, rfl⟩
theorem d_c11_bears_36 : gD b_c11_bears 36 (.invokevirtual 308) 3 39 := ⟨by decide +kernel, rfl⟩
theorem d_c11_bears_39 : gD b_c11_bears 39 (.istore_n 3) 1 40 := ⟨by decide +kernel, rfl⟩
theorem d_c11_bears_40 : gD b_c11_bears 40 (.iconst 0) 1 41 := ⟨by decide +kernel, rfl⟩
theorem d_c11_bears_41 : gD b_c11_bears 41 (.istore 4) 2 43 := ⟨by decide +kernel, rfl⟩
theorem d_c11_bears_43 : gD b_c11_bears 43 (.iconst 1) 1 44 := ⟨by decide +kernel, rfl⟩
theorem d_c11_bears_44 : gD b_c11_bears 44 (.istore 5) 2 46 := ⟨by decide +kernel, rfl⟩
theorem d_c11_bears_46 : gD b_c11_bears 46 (.aload_n 0) 1 47 := ⟨by decide +kernel, rfl⟩
theorem d_c11_bears_47 : gD b_c11_bears 47 (.getfield 9) 3 50 := ⟨by decide +kernel, rfl⟩
theorem d_c11_bears_50 : gD b_c11_bears 50 (.bipush 24) 2 52 := ⟨by decide +kernel, rfl⟩
theorem d_c11_bears_52 : gD b_c11_bears 52 (.iload_n 1) 1 53 := ⟨by decide +kernel, rfl⟩
theorem d_c11_bears_53 : gD b_c11_bears 53 .iadd 1 54 := ⟨by decide +kernel, rfl⟩
theorem d_c11_bears_54 : gD b_c11_bears 54 .iaload 1 55 := ⟨by decide +kernel, rfl⟩
theorem d_c11_bears_55 : gD b_c11_bears 55 (.iload 5) 2 57 := ⟨by decide +kernel, rfl⟩
theorem d_c11_bears_57 : gD b_c11_bears 57 .iadd 1 58 := ⟨by decide +kernel, rfl⟩
theorem d_c11_bears_58 : gD b_c11_bears 58 (.bipush 9) 2 60 := ⟨by decide +kernel, rfl⟩
theorem d_c11_bears_60 : gJ b_c11_bears 60 (.if_icmp .gt 53) 3 53 63 113 := ⟨by decide +kernel, rfl, by decide⟩
theorem d_c11_bears_63 : gD b_c11_bears 63 (.aload_n 0) 1 64 := ⟨by decide +kernel, rfl⟩
theorem d_c11_bears_64 : gD b_c11_bears 64 (.getfield 9) 3 67 := ⟨by decide +kernel, rfl⟩
theorem d_c11_bears_67 : gD b_c11_bears 67 (.aload_n 0) 1 68 := ⟨by decide +kernel, rfl⟩
theorem d_c11_bears_68 : gD b_c11_bears 68 (.getfield 52) 3 71 := ⟨by decide +kernel, rfl⟩
theorem d_c11_bears_71 : gD b_c11_bears 71 (.iconst 0) 1 72 := ⟨by decide +kernel, rfl⟩
theorem d_c11_bears_72 : gD b_c11_bears 72 (.invokestatic 253) 3 75 := ⟨by decide +kernel, rfl⟩
theorem d_c11_bears_75 : gD b_c11_bears 75 (.aload_n 0) 1 76 := ⟨by decide +kernel, rfl⟩
theorem d_c11_bears_76 : gD b_c11_bears 76 (.getfield 52) 3 79 := ⟨by decide +kernel, rfl⟩
theorem d_c11_bears_79 : gD b_c11_bears 79 (.bipush 24) 2 81 := ⟨by decide +kernel, rfl⟩
theorem d_c11_bears_81 : gD b_c11_bears 81 (.iload_n 1) 1 82 := ⟨by decide +kernel, rfl⟩
theorem d_c11_bears_82 : gD b_c11_bears 82 .iadd 1 83 := ⟨by decide +kernel, rfl⟩
theorem d_c11_bears_83 : gD b_c11_bears 83 .dup2 1 84 := ⟨by decide +kernel, rfl⟩
theorem d_c11_bears_84 : gD b_c11_bears 84 .iaload 1 85 := ⟨by decide +kernel, rfl⟩
theorem d_c11_bears_85 : gD b_c11_bears 85 (.iload 5) 2 87 := ⟨by decide +kernel, rfl⟩
theorem d_c11_bears_87 : gD b_c11_bears 87 .iadd 1 88 := ⟨by decide +kernel, rfl⟩
theorem d_c11_bears_88 : gD b_c11_bears 88 .iastore 1 89 := ⟨by decide +kernel, rfl⟩
theorem d_c11_bears_89 : gD b_c11_bears 89 (.aload_n 0) 1 90 := ⟨by decide +kernel, rfl⟩
theorem d_c11_bears_90 : gD b_c11_bears 90 (.iload_n 2) 1 91 := ⟨by decide +kernel, rfl⟩
theorem d_c11_bears_91 : gD b_c11_bears 91 (.invokevirtual 308) 3 94 := ⟨by decide +kernel, rfl⟩
theorem d_c11_bears_94 : gD b_c11_bears 94 (.iload_n 3) 1 95 := ⟨by decide +kernel, rfl⟩
theorem d_c11_bears_95 : gJ b_c11_bears 95 (.if_icmp .gt 8) 3 8 98 103 := ⟨by decide +kernel, rfl, by decide⟩
theorem d_c11_bears_98 : gD b_c11_bears 98 (.iload 5) 2 100 := ⟨by decide +kernel, rfl⟩
theorem d_c11_bears_100 : gJ b_c11_bears 100 (.goto 5) 3 5 103 105 := ⟨by decide +kernel, rfl, by decide⟩
theorem d_c11_bears_103 : gD b_c11_bears 103 (.iload 4) 2 105 := ⟨by decide +kernel, rfl⟩
theorem d_c11_bears_105 : gD b_c11_bears 105 (.istore 4) 2 107 := ⟨by decide +kernel, rfl⟩
theorem d_c11_bears_107 : gD b_c11_bears 107 (.iinc 5 1) 3 110 := ⟨by decide +kernel, rfl⟩
theorem d_c11_bears_110 : gJ b_c11_bears 110 (.goto (-64)) 3 (-64) 113 46 := ⟨by decide +kernel, rfl, by decide⟩
theorem d_c11_bears_113 : gD b_c11_bears 113 (.aload_n 0) 1 114 := ⟨by decide +kernel, rfl⟩
theorem d_c11_bears_114 : gD b_c11_bears 114 (.getfield 9) 3 117 := ⟨by decide +kernel, rfl⟩
theorem d_c11_bears_117 : gD b_c11_bears 117 (.aload_n 0) 1 118 := ⟨by decide +kernel, rfl⟩
theorem d_c11_bears_118 : gD b_c11_bears 118 (.getfield 52) 3 121 := ⟨by decide +kernel, rfl⟩
theorem d_c11_bears_121 : gD b_c11_bears 121 (.iconst 0) 1 122 := ⟨by decide +kernel, rfl⟩
theorem d_c11_bears_122 : gD b_c11_bears 122 (.invokestatic 253) 3 125 := ⟨by decide +kernel, rfl⟩
theorem d_c11_bears_125 : gD b_c11_bears 125 (.aload_n 0) 1 126 := ⟨by decide +kernel, rfl⟩
theorem d_c11_bears_126 : gD b_c11_bears 126 (.getfield 52) 3 129 := ⟨by decide +kernel, rfl⟩
theorem d_c11_bears_129 : gD b_c11_bears 129 (.bipush 24) 2 131 := ⟨by decide +kernel, rfl⟩
theorem d_c11_bears_131 : gD b_c11_bears 131 (.iload_n 1) 1 132 := ⟨by decide +kernel, rfl⟩
theorem d_c11_bears_132 : gD b_c11_bears 132 .iadd 1 133 := ⟨by decide +kernel, rfl⟩
theorem d_c11_bears_133 : gD b_c11_bears 133 .dup2 1 134 := ⟨by decide +kernel, rfl⟩
theorem d_c11_bears_134 : gD b_c11_bears 134 .iaload 1 135 := ⟨by decide +kernel, rfl⟩
theorem d_c11_bears_135 : gD b_c11_bears 135 (.iload 4) 2 137 := ⟨by decide +kernel, rfl⟩
theorem d_c11_bears_137 : gD b_c11_bears 137 .iadd 1 138 := ⟨by decide +kernel, rfl⟩
theorem d_c11_bears_138 : gD b_c11_bears 138 .iastore 1 139 := ⟨by decide +kernel, rfl⟩
theorem d_c11_bears_139 : gD b_c11_bears 139 (.aload_n 0) 1 140 := ⟨by decide +kernel, rfl⟩
theorem d_c11_bears_140 : gD b_c11_bears 140 (.iconst 0) 1 141 := ⟨by decide +kernel, rfl⟩
theorem d_c11_bears_141 : gD b_c11_bears 141 (.putfield 98) 3 144 := ⟨by decide +kernel, rfl⟩
theorem d_c11_bears_144 : gD b_c11_bears 144 (.aload_n 0) 1 145 := ⟨by decide +kernel, rfl⟩
theorem d_c11_bears_145 : gD b_c11_bears 145 (.aload_n 0) 1 146 := ⟨by decide +kernel, rfl⟩
theorem d_c11_bears_146 : gD b_c11_bears 146 (.iload_n 2) 1 147 := ⟨by decide +kernel, rfl⟩
theorem d_c11_bears_147 : gD b_c11_bears 147 (.invokevirtual 308) 3 150 := ⟨by decide +kernel, rfl⟩
theorem d_c11_bears_150 : gD b_c11_bears 150 .i2l 1 151 := ⟨by decide +kernel, rfl⟩
theorem d_c11_bears_151 : gD b_c11_bears 151 (.invokevirtual 268) 3 154 := ⟨by decide +kernel, rfl⟩
theorem d_c11_bears_154 : gD b_c11_bears 154 (.iload 4) 2 156 := ⟨by decide +kernel, rfl⟩
theorem d_c11_bears_156 : gD b_c11_bears 156 .ireturn 1 157 := ⟨by decide +kernel, rfl⟩
def lp_c11_bears_46 (N : Nat) (a0 : Nat) (x1 : Int32) (x2 : Int32) (x3 : Int32) : Nat → Int32 → Int32 → gH → Option (Int32 × gH)
  | 0, _, _, _ => none
  | k + 1, x4, x5, h =>
  (gfR h a0 11 0).bind fun v10 =>
    (ga 0 h v10 ((24 : Int32) + x1)).bind fun v11 =>
    if (9 : Int32) < (v11 + x5) then
    some (x4, h)
  else
    (gfR h a0 11 0).bind fun v13 =>
    (gfR h a0 11 25).bind fun v14 =>
    (f_c11_lay N v13 v14 (0 : Int32) h).bind fun q15 =>
    (gfR q15 a0 11 25).bind fun v16 =>
    (ga 0 q15 v16 ((24 : Int32) + x1)).bind fun v17 =>
    (sa 0 q15 v16 ((24 : Int32) + x1) (v17 + x5)).bind fun h18 =>
    (f_c11_parchedIn N a0 x2 h18).bind fun q19 =>
    lp_c11_bears_46 N a0 x1 x2 x3 k (if x3 < q19.1 then x4 else x5) (x5 + (1 : Int32)) q19.2
def f_c11_bears (N : Nat) (a0 : Nat) (x1 : Int32) (x2 : Int32) (h : gH) : Option (Int32 × gH) :=
  (gcl h a0 11).bind fun _ =>
  (sf h a0 11 10 (.int (0 : Int32))).bind fun h1 =>
    (f_c11_isWell N a0 x1 h1).bind fun q2 =>
    if q2 = 0 then
    some ((-1 : Int32), h1)
  else
    (f_c11_isSpan N x2 h1).bind fun q4 =>
    if q4 = 0 then
    some ((-1 : Int32), h1)
  else
    (gfR h1 a0 11 0).bind fun v6 =>
    (gfR h1 a0 11 25).bind fun v7 =>
    (f_c11_lay N v6 v7 (0 : Int32) h1).bind fun q8 =>
    (f_c11_parchedIn N a0 x2 q8).bind fun q9 =>
    (lp_c11_bears_46 N a0 x1 x2 q9.1 N (0 : Int32) (1 : Int32) q9.2).bind fun o23 =>
    (gfR o23.2 a0 11 0).bind fun v24 =>
    (gfR o23.2 a0 11 25).bind fun v25 =>
    (f_c11_lay N v24 v25 (0 : Int32) o23.2).bind fun q26 =>
    (gfR q26 a0 11 25).bind fun v27 =>
    (ga 0 q26 v27 ((24 : Int32) + x1)).bind fun v28 =>
    (sa 0 q26 v27 ((24 : Int32) + x1) (v28 + o23.1)).bind fun h29 =>
    (sf h29 a0 11 9 (.int (0 : Int32))).bind fun h30 =>
    (f_c11_parchedIn N a0 x2 h30).bind fun q31 =>
    (f_c11_tell N a0 q31.1.toInt64 q31.2).bind fun q32 =>
    some (o23.1, q32)
set_option maxHeartbeats 4000000 in
set_option maxRecDepth 100000 in
theorem wlp_c11_bears_46 {M : gM} {X : gX} {N : Nat} (hx : gEx X = false) (K : gC M X gN11 b_c11_bears 6 (gRm (10 + N) 0 0)) (a0 : Nat) (x1 : Int32) (x2 : Int32) (x3 : Int32) : ∀ (k : Nat) (x4 : Int32) (x5 : Int32) (h : gH) (o : Int32 × gH), lp_c11_bears_46 N a0 x1 x2 x3 k x4 x5 h = some o → gG M X 6 0 0 113 [(0, .ref a0), (1, .int x1), (2, .int x2), (4, .int o.1)] [] o.2 → gG M X 6 0 0 46 [(0, .ref a0), (1, .int x1), (2, .int x2), (3, .int x3), (4, .int x4), (5, .int x5)] [] h := by
  intro k
  induction k with
  | zero =>
    intro x4 x5 h o hy
    rw [lp_c11_bears_46.eq_1] at hy
    cases hy
  | succ k ih =>
    intro x4 x5 h o hy hE
    rw [lp_c11_bears_46.eq_2] at hy
    refine g_aload_n K d_c11_bears_46 0 rfl ?_
    obtain ⟨v10, e_v10, hy⟩ := gBd hy
    refine g_getR K fl_c11_9 d_c11_bears_47 e_v10 ?_
    refine g_bipush (v := 24) K d_c11_bears_50 (by decide) ?_
    refine g_iload_n K d_c11_bears_52 1 rfl ?_
    refine g_iadd K d_c11_bears_53 ?_
    obtain ⟨v11, e_v11, hy⟩ := gBd hy
    refine g_iald K d_c11_bears_54 e_v11 ?_
    refine g_iload K d_c11_bears_55 5 rfl ?_
    refine g_iadd K d_c11_bears_57 ?_
    refine g_bipush (v := 9) K d_c11_bears_58 (by decide) ?_
    refine g_icmp_gt K d_c11_bears_60 (fun c12 => ?_) (fun c12 => ?_)
    · rw [if_pos c12] at hy
      refine g_sub (ls2 := [(0, .ref a0), (1, .int x1), (2, .int x2), (4, .int x4)]) [0, 1, 2, 4] rfl ?_
      obtain rfl := Option.some.inj hy
      exact hE
    · rw [if_neg c12] at hy
      refine g_aload_n K d_c11_bears_63 0 rfl ?_
      obtain ⟨v13, e_v13, hy⟩ := gBd hy
      refine g_getR K fl_c11_9 d_c11_bears_64 e_v13 ?_
      refine g_aload_n K d_c11_bears_67 0 rfl ?_
      obtain ⟨v14, e_v14, hy⟩ := gBd hy
      refine g_getR K fl_c11_52 d_c11_bears_68 e_v14 ?_
      refine g_iconst (v := 0) K d_c11_bears_71 (by decide) ?_
      obtain ⟨q15, e_q15, hy⟩ := gBd hy
      refine g_callSv (rest := []) K hx ly_c11_lay ks_c11_253 d_c11_bears_72 (ct_c11_lay M.2.1 X hx N v13 v14 (0 : Int32) h q15 e_q15) rfl rfl (Nat.le_of_ble_eq_true rfl) (gDep rfl) ⟨Nat.le_refl 0, Nat.le_refl 0⟩ ?_
      refine g_aload_n K d_c11_bears_75 0 rfl ?_
      obtain ⟨v16, e_v16, hy⟩ := gBd hy
      refine g_getR K fl_c11_52 d_c11_bears_76 e_v16 ?_
      refine g_bipush (v := 24) K d_c11_bears_79 (by decide) ?_
      refine g_iload_n K d_c11_bears_81 1 rfl ?_
      refine g_iadd K d_c11_bears_82 ?_
      refine g_dup2 K d_c11_bears_83 rfl rfl ?_
      obtain ⟨v17, e_v17, hy⟩ := gBd hy
      refine g_iald K d_c11_bears_84 e_v17 ?_
      refine g_iload K d_c11_bears_85 5 rfl ?_
      refine g_iadd K d_c11_bears_87 ?_
      obtain ⟨h18, e_h18, hy⟩ := gBd hy
      refine g_iast K d_c11_bears_88 e_h18 ?_
      refine g_aload_n K d_c11_bears_89 0 rfl ?_
      refine g_iload_n K d_c11_bears_90 2 rfl ?_
      obtain ⟨q19, e_q19, hy⟩ := gBd hy
      refine g_callVi (rest := []) K hx ly_c11_parchedIn kv_c11_308 d_c11_bears_91 (ct_c11_parchedIn M.2.1 X hx N a0 x2 h18 q19 e_q19) rfl rfl (Nat.le_of_ble_eq_true rfl) (gDep rfl) ⟨Nat.le_refl 0, Nat.le_refl 0⟩ ?_
      refine g_iload_n K d_c11_bears_94 3 rfl ?_
      have hJ22 : ∀ w21 : Int32, w21 = (if x3 < q19.1 then x4 else x5) → gG M X 6 0 0 105 [(0, .ref a0), (1, .int x1), (2, .int x2), (3, .int x3), (4, .int x4), (5, .int x5)] [.int w21] q19.2 := by
        intro w21 e_w21
        subst e_w21
        refine g_istore (ls2 := [(4, .int (if x3 < q19.1 then x4 else x5)), (0, .ref a0), (1, .int x1), (2, .int x2), (3, .int x3), (5, .int x5)]) K d_c11_bears_105 rfl rfl ?_
        refine g_iinc (ls2 := [(5, .int (x5 + (1 : Int32))), (4, .int (if x3 < q19.1 then x4 else x5)), (0, .ref a0), (1, .int x1), (2, .int x2), (3, .int x3)]) (v := 1) K d_c11_bears_107 5 rfl (by decide) rfl rfl ?_
        refine g_goto K d_c11_bears_110 ?_
        refine g_sub (ls2 := [(0, .ref a0), (1, .int x1), (2, .int x2), (3, .int x3), (4, .int (if x3 < q19.1 then x4 else x5)), (5, .int (x5 + (1 : Int32)))]) [2, 3, 4, 5, 1, 0] rfl ?_
        exact ih _ _ _ _ hy hE
      refine g_icmp_gt K d_c11_bears_95 (fun c20 => ?_) (fun c20 => ?_)
      · refine g_iload K d_c11_bears_103 4 rfl ?_
        exact hJ22 _ (by rw [if_pos c20])
      · refine g_iload K d_c11_bears_98 5 rfl ?_
        refine g_goto K d_c11_bears_100 ?_
        exact hJ22 _ (by rw [if_neg c20])
set_option maxHeartbeats 4000000 in
set_option maxRecDepth 100000 in
theorem ct_c11_bears (l : Launch) (X : gX) (hx : gEx X = false) (N : Nat) (a0 : Nat) (x1 : Int32) (x2 : Int32) (h : gH) (q : Int32 × gH) (hy : f_c11_bears N a0 x1 x2 h = some q) : gRc y_c11_bears h a0 ∧ gMi l X y_c11_bears b_c11_bears 6 .int (10 + N) 0 0 [.ref a0, .int x1, .int x2] h q.1 q.2 := by
  unfold f_c11_bears at hy
  obtain ⟨u0, e_u0, hy⟩ := gBd hy
  cases u0
  refine ⟨Or.inl ⟨11, _, _, e_u0, rfl⟩, gMet_i (lsx := [(0, .ref a0), (1, .int x1), (2, .int x2)]) (by decide) rfl rfl ?_⟩
  intro M hMl K hret
  subst hMl
  refine g_aload_n K d_c11_bears_0 0 rfl ?_
  refine g_iconst (v := 0) K d_c11_bears_1 (by decide) ?_
  obtain ⟨h1, e_h1, hy⟩ := gBd hy
  refine g_putI K fp_c11_95 d_c11_bears_2 e_h1 ?_
  refine g_aload_n K d_c11_bears_5 0 rfl ?_
  refine g_iload_n K d_c11_bears_6 1 rfl ?_
  obtain ⟨q2, e_q2, hy⟩ := gBd hy
  refine g_callVi (rest := []) K hx ly_c11_isWell kv_c11_233 d_c11_bears_7 (ct_c11_isWell M.2.1 X hx N a0 x1 h1 q2 e_q2) rfl rfl (Nat.le_of_ble_eq_true rfl) (gDep rfl) ⟨Nat.le_refl 0, Nat.le_refl 0⟩ ?_
  refine g_if_eq K d_c11_bears_10 (fun c3 => ?_) (fun c3 => ?_)
  · rw [if_pos c3] at hy
    refine g_iconst (v := (-1)) K d_c11_bears_20 (by decide) ?_
    obtain rfl := Option.some.inj hy
    exact hret rfl _ _ _ d_c11_bears_21
  · rw [if_neg c3] at hy
    refine g_iload_n K d_c11_bears_13 2 rfl ?_
    obtain ⟨q4, e_q4, hy⟩ := gBd hy
    refine g_callSi (rest := []) K hx ly_c11_isSpan ks_c11_305 d_c11_bears_14 (ct_c11_isSpan M.2.1 X hx N x2 h1 q4 e_q4) rfl rfl (Nat.le_of_ble_eq_true rfl) (gDep rfl) ⟨Nat.le_refl 0, Nat.le_refl 0⟩ ?_
    refine g_if_ne K d_c11_bears_17 (fun c5 => ?_) (fun c5 => ?_)
    · rw [if_neg c5] at hy
      refine g_aload_n K d_c11_bears_22 0 rfl ?_
      obtain ⟨v6, e_v6, hy⟩ := gBd hy
      refine g_getR K fl_c11_9 d_c11_bears_23 e_v6 ?_
      refine g_aload_n K d_c11_bears_26 0 rfl ?_
      obtain ⟨v7, e_v7, hy⟩ := gBd hy
      refine g_getR K fl_c11_52 d_c11_bears_27 e_v7 ?_
      refine g_iconst (v := 0) K d_c11_bears_30 (by decide) ?_
      obtain ⟨q8, e_q8, hy⟩ := gBd hy
      refine g_callSv (rest := []) K hx ly_c11_lay ks_c11_253 d_c11_bears_31 (ct_c11_lay M.2.1 X hx N v6 v7 (0 : Int32) h1 q8 e_q8) rfl rfl (Nat.le_of_ble_eq_true rfl) (gDep rfl) ⟨Nat.le_refl 0, Nat.le_refl 0⟩ ?_
      refine g_aload_n K d_c11_bears_34 0 rfl ?_
      refine g_iload_n K d_c11_bears_35 2 rfl ?_
      obtain ⟨q9, e_q9, hy⟩ := gBd hy
      refine g_callVi (rest := []) K hx ly_c11_parchedIn kv_c11_308 d_c11_bears_36 (ct_c11_parchedIn M.2.1 X hx N a0 x2 q8 q9 e_q9) rfl rfl (Nat.le_of_ble_eq_true rfl) (gDep rfl) ⟨Nat.le_refl 0, Nat.le_refl 0⟩ ?_
      refine g_istore_n (ls2 := [(3, .int q9.1), (0, .ref a0), (1, .int x1), (2, .int x2)]) K d_c11_bears_39 rfl rfl ?_
      refine g_iconst (v := 0) K d_c11_bears_40 (by decide) ?_
      refine g_istore (ls2 := [(4, .int (0 : Int32)), (3, .int q9.1), (0, .ref a0), (1, .int x1), (2, .int x2)]) K d_c11_bears_41 rfl rfl ?_
      refine g_iconst (v := 1) K d_c11_bears_43 (by decide) ?_
      refine g_istore (ls2 := [(5, .int (1 : Int32)), (4, .int (0 : Int32)), (3, .int q9.1), (0, .ref a0), (1, .int x1), (2, .int x2)]) K d_c11_bears_44 rfl rfl ?_
      obtain ⟨o23, e_o23, hy⟩ := gBd hy
      refine g_sub (ls2 := [(0, .ref a0), (1, .int x1), (2, .int x2), (3, .int q9.1), (4, .int (0 : Int32)), (5, .int (1 : Int32))]) [3, 4, 5, 2, 1, 0] rfl ?_
      refine wlp_c11_bears_46 hx K a0 x1 x2 q9.1 N (0 : Int32) (1 : Int32) q9.2 o23 e_o23 ?_
      refine g_aload_n K d_c11_bears_113 0 rfl ?_
      obtain ⟨v24, e_v24, hy⟩ := gBd hy
      refine g_getR K fl_c11_9 d_c11_bears_114 e_v24 ?_
      refine g_aload_n K d_c11_bears_117 0 rfl ?_
      obtain ⟨v25, e_v25, hy⟩ := gBd hy
      refine g_getR K fl_c11_52 d_c11_bears_118 e_v25 ?_
      refine g_iconst (v := 0) K d_c11_bears_121 (by decide) ?_
      obtain ⟨q26, e_q26, hy⟩ := gBd hy
      refine g_callSv (rest := []) K hx ly_c11_lay ks_c11_253 d_c11_bears_122 (ct_c11_lay M.2.1 X hx N v24 v25 (0 : Int32) o23.2 q26 e_q26) rfl rfl (Nat.le_of_ble_eq_true rfl) (gDep rfl) ⟨Nat.le_refl 0, Nat.le_refl 0⟩ ?_
      refine g_aload_n K d_c11_bears_125 0 rfl ?_
      obtain ⟨v27, e_v27, hy⟩ := gBd hy
      refine g_getR K fl_c11_52 d_c11_bears_126 e_v27 ?_
      refine g_bipush (v := 24) K d_c11_bears_129 (by decide) ?_
      refine g_iload_n K d_c11_bears_131 1 rfl ?_
      refine g_iadd K d_c11_bears_132 ?_
      refine g_dup2 K d_c11_bears_133 rfl rfl ?_
      obtain ⟨v28, e_v28, hy⟩ := gBd hy
      refine g_iald K d_c11_bears_134 e_v28 ?_
      refine g_iload K d_c11_bears_135 3 rfl ?_
      refine g_iadd K d_c11_bears_137 ?_
      obtain ⟨h29, e_h29, hy⟩ := gBd hy
      refine g_iast K d_c11_bears_138 e_h29 ?_
      refine g_aload_n K d_c11_bears_139 0 rfl ?_
      refine g_iconst (v := 0) K d_c11_bears_140 (by decide) ?_
      obtain ⟨h30, e_h30, hy⟩ := gBd hy
      refine g_putI K fp_c11_98 d_c11_bears_141 e_h30 ?_
      refine g_aload_n K d_c11_bears_144 0 rfl ?_
      refine g_aload_n K d_c11_bears_145 0 rfl ?_
      refine g_iload_n K d_c11_bears_146 2 rfl ?_
      obtain ⟨q31, e_q31, hy⟩ := gBd hy
      refine g_callVi (rest := [.ref a0]) K hx ly_c11_parchedIn kv_c11_308 d_c11_bears_147 (ct_c11_parchedIn M.2.1 X hx N a0 x2 h30 q31 e_q31) rfl rfl (Nat.le_of_ble_eq_true rfl) (gDep rfl) ⟨Nat.le_refl 0, Nat.le_refl 0⟩ ?_
      refine g_i2l K d_c11_bears_150 ?_
      obtain ⟨q32, e_q32, hy⟩ := gBd hy
      refine g_callVv (rest := []) K hx ly_c11_tell kv_c11_268 d_c11_bears_151 (ct_c11_tell M.2.1 X hx N a0 q31.1.toInt64 q31.2 q32 e_q32) rfl rfl (Nat.le_of_ble_eq_true rfl) (gDep rfl) ⟨Nat.le_refl 0, Nat.le_refl 0⟩ ?_
      refine g_iload K d_c11_bears_154 3 rfl ?_
      obtain rfl := Option.some.inj hy
      exact hret rfl _ _ _ d_c11_bears_156
    · rw [if_pos c5] at hy
      refine g_iconst (v := (-1)) K d_c11_bears_20 (by decide) ?_
      obtain rfl := Option.some.inj hy
      exact hret rfl _ _ _ d_c11_bears_21
-- c11 best
theorem d_c11_best_0 : gD b_c11_best 0 (.aload_n 0) 1 1 := ⟨by decide +kernel, rfl⟩
theorem d_c11_best_1 : gD b_c11_best 1 (.iconst 0) 1 2 := ⟨by decide +kernel, rfl⟩
theorem d_c11_best_2 : gD b_c11_best 2 (.putfield 95) 3 5 := ⟨by decide +kernel, rfl⟩
theorem d_c11_best_5 : gD b_c11_best 5 (.iload_n 1) 1 6 := ⟨by decide +kernel, rfl⟩
theorem d_c11_best_6 : gD b_c11_best 6 (.iconst 1) 1 7 := ⟨by decide +kernel, rfl⟩
theorem d_c11_best_7 : gD b_c11_best 7 (.bipush 9) 2 9 := ⟨by decide +kernel, rfl⟩
theorem d_c11_best_9 : gD b_c11_best 9 (.invokestatic 105) 3 12 := ⟨by decide +kernel, rfl⟩
theorem d_c11_best_12 : gJ b_c11_best 12 (.ifCond .eq 10) 3 10 15 22 := ⟨by decide +kernel, rfl, by decide⟩
theorem d_c11_best_15 : gD b_c11_best 15 (.iload_n 2) 1 16 := ⟨by decide +kernel, rfl⟩
theorem d_c11_best_16 : gD b_c11_best 16 (.invokestatic 305) 3 19 := ⟨by decide +kernel, rfl⟩
theorem d_c11_best_19 : gJ b_c11_best 19 (.ifCond .ne 5) 3 5 22 24 := ⟨by decide +kernel, rfl, by decide⟩
theorem d_c11_best_22 : gD b_c11_best 22 (.iconst (-1)) 1 23 := ⟨by decide +kernel, rfl⟩
theorem d_c11_best_23 : gD b_c11_best 23 .ireturn 1 24 := ⟨by decide +kernel, rfl⟩
theorem d_c11_best_24 : gD b_c11_best 24 (.aload_n 0) 1 25 := ⟨by decide +kernel, rfl⟩
theorem d_c11_best_25 : gD b_c11_best 25 (.getfield 9) 3 28 := ⟨by decide +kernel, rfl⟩
theorem d_c11_best_28 : gD b_c11_best 28 (.bipush 40) 2 30 := ⟨by decide +kernel, rfl⟩
theorem d_c11_best_30 : gD b_c11_best 30 .iaload 1 31 := ⟨by decide +kernel, rfl⟩
theorem d_c11_best_31 : gD b_c11_best 31 (.bipush 8) 2 33 := ⟨by decide +kernel, rfl⟩
theorem d_c11_best_33 : gJ b_c11_best 33 (.if_icmp .ne 6) 3 6 36 39 := ⟨by decide +kernel, rfl, by decide⟩
theorem d_c11_best_36 : gD b_c11_best 36 (.bipush (-2)) 2 38 := ⟨by decide +kernel, rfl⟩
theorem d_c11_best_38 : gD b_c11_best 38 .ireturn 1 39 := ⟨by decide +kernel, rfl⟩
theorem d_c11_best_39 : gD b_c11_best 39 (.iconst (-1)) 1 40 := ⟨by decide +kernel, rfl⟩
theorem d_c11_best_40 : gD b_c11_best 40 (.istore_n 3) 1 41 := ⟨by decide +kernel, rfl⟩
theorem d_c11_best_41 : gD b_c11_best 41 (.ldc_w 311) 3 44 := ⟨by decide +kernel, rfl⟩
theorem d_c11_best_44 : gD b_c11_best 44 (.istore 4) 2 46 := ⟨by decide +kernel, rfl⟩
theorem d_c11_best_46 : gD b_c11_best 46 (.iconst 0) 1 47 := ⟨by decide +kernel, rfl⟩
theorem d_c11_best_47 : gD b_c11_best 47 (.istore 5) 2 49 := ⟨by decide +kernel, rfl⟩
theorem d_c11_best_49 : gD b_c11_best 49 (.iload 5) 2 51 := ⟨by decide +kernel, rfl⟩
theorem d_c11_best_51 : gD b_c11_best 51 (.aload_n 0) 1 52 := ⟨by decide +kernel, rfl⟩
theorem d_c11_best_52 : gD b_c11_best 52 (.invokevirtual 101) 3 55 := ⟨by decide +kernel, rfl⟩
theorem d_c11_best_55 : gJ b_c11_best 55 (.if_icmp .ge 72) 3 72 58 127 := ⟨by decide +kernel, rfl, by decide⟩
theorem d_c11_best_58 : gD b_c11_best 58 (.aload_n 0) 1 59 := ⟨by decide +kernel, rfl⟩
theorem d_c11_best_59 : gD b_c11_best 59 (.getfield 9) 3 62 := ⟨by decide +kernel, rfl⟩
theorem d_c11_best_62 : gD b_c11_best 62 (.iload 5) 2 64 := ⟨by decide +kernel, rfl⟩
theorem d_c11_best_64 : gD b_c11_best 64 (.invokestatic 174) 3 67 := ⟨by decide +kernel, rfl⟩
theorem d_c11_best_67 : gD b_c11_best 67 (.iconst (-1)) 1 68 := ⟨by decide +kernel, rfl⟩
theorem d_c11_best_68 : gJ b_c11_best 68 (.if_icmp .eq 6) 3 6 71 74 := ⟨by decide +kernel, rfl, by decide⟩
theorem d_c11_best_71 : gJ b_c11_best 71 (.goto 50) 3 50 74 121 := ⟨by decide +kernel, rfl, by decide⟩
theorem d_c11_best_74 : gD b_c11_best 74 (.aload_n 0) 1 75 := ⟨by decide +kernel, rfl⟩
theorem d_c11_best_75 : gD b_c11_best 75 (.getfield 9) 3 78 := ⟨by decide +kernel, rfl⟩
theorem d_c11_best_78 : gD b_c11_best 78 (.aload_n 0) 1 79 := ⟨by decide +kernel, rfl⟩
theorem d_c11_best_79 : gD b_c11_best 79 (.getfield 52) 3 82 := ⟨by decide +kernel, rfl⟩
theorem d_c11_best_82 : gD b_c11_best 82 (.iconst 0) 1 83 := ⟨by decide +kernel, rfl⟩
theorem d_c11_best_83 : gD b_c11_best 83 (.invokestatic 253) 3 86 := ⟨by decide +kernel, rfl⟩
theorem d_c11_best_86 : gD b_c11_best 86 (.aload_n 0) 1 87 := ⟨by decide +kernel, rfl⟩
theorem d_c11_best_87 : gD b_c11_best 87 (.getfield 52) 3 90 := ⟨by decide +kernel, rfl⟩
theorem d_c11_best_90 : gD b_c11_best 90 (.iload 5) 2 92 := ⟨by decide +kernel, rfl⟩
theorem d_c11_best_92 : gD b_c11_best 92 (.iload_n 1) 1 93 := ⟨by decide +kernel, rfl⟩
theorem d_c11_best_93 : gD b_c11_best 93 (.iconst 1) 1 94 := ⟨by decide +kernel, rfl⟩
theorem d_c11_best_94 : gD b_c11_best 94 (.invokestatic 181) 3 97 := ⟨by decide +kernel, rfl⟩
theorem d_c11_best_97 : gD b_c11_best 97 (.aload_n 0) 1 98 := ⟨by decide +kernel, rfl⟩
theorem d_c11_best_98 : gD b_c11_best 98 (.iload_n 2) 1 99 := ⟨by decide +kernel, rfl⟩
theorem d_c11_best_99 : gD b_c11_best 99 (.invokevirtual 308) 3 102 := ⟨by decide +kernel, rfl⟩
theorem d_c11_best_102 : gD b_c11_best 102 (.istore 6) 2 104 := ⟨by decide +kernel, rfl⟩
theorem d_c11_best_104 : gD b_c11_best 104 (.iload 6) 2 106 := ⟨by decide +kernel, rfl⟩
theorem d_c11_best_106 : gD b_c11_best 106 (.iload 4) 2 108 := ⟨by decide +kernel, rfl⟩
theorem d_c11_best_108 : gJ b_c11_best 108 (.if_icmp .lt 6) 3 6 111 114 := ⟨by decide +kernel, rfl, by decide⟩
theorem d_c11_best_111 : gJ b_c11_best 111 (.goto 10) 3 10 114 121 := ⟨by decide +kernel, rfl, by decide⟩
theorem d_c11_best_114 : gD b_c11_best 114 (.iload 5) 2 116 := ⟨by decide +kernel, rfl⟩
theorem d_c11_best_116 : gD b_c11_best 116 (.istore_n 3) 1 117 := ⟨by decide +kernel, rfl⟩
theorem d_c11_best_117 : gD b_c11_best 117 (.iload 6) 2 119 := ⟨by decide +kernel, rfl⟩
theorem d_c11_best_119 : gD b_c11_best 119 (.istore 4) 2 121 := ⟨by decide +kernel, rfl⟩
theorem d_c11_best_121 : gD b_c11_best 121 (.iinc 5 1) 3 124 := ⟨by decide +kernel, rfl⟩
theorem d_c11_best_124 : gJ b_c11_best 124 (.goto (-75)) 3 (-75) 127 49 := ⟨by decide +kernel, rfl, by decide⟩
theorem d_c11_best_127 : gD b_c11_best 127 (.aload_n 0) 1 128 := ⟨by decide +kernel, rfl⟩
theorem d_c11_best_128 : gD b_c11_best 128 (.iconst 0) 1 129 := ⟨by decide +kernel, rfl⟩
theorem d_c11_best_129 : gD b_c11_best 129 (.putfield 98) 3 132 := ⟨by decide +kernel, rfl⟩
theorem d_c11_best_132 : gD b_c11_best 132 (.aload_n 0) 1 133 := ⟨by decide +kernel, rfl⟩
theorem d_c11_best_133 : gD b_c11_best 133 (.iload 4) 2 135 := ⟨by decide +kernel, rfl⟩
theorem d_c11_best_135 : gD b_c11_best 135 .i2l 1 136 := ⟨by decide +kernel, rfl⟩
theorem d_c11_best_136 : gD b_c11_best 136 (.invokevirtual 268) 3 139 := ⟨by decide +kernel, rfl⟩
theorem d_c11_best_139 : gD b_c11_best 139 (.iload_n 3) 1 140 := ⟨by decide +kernel, rfl⟩
theorem d_c11_best_140 : gD b_c11_best 140 .ireturn 1 141 := ⟨by decide +kernel, rfl⟩
def lp_c11_best_49 (N : Nat) (a0 : Nat) (x1 : Int32) (x2 : Int32) : Nat → Int32 → Int32 → Int32 → gH → Option (Int32 × Int32 × gH)
  | 0, _, _, _, _ => none
  | k + 1, x3, x4, x5, h =>
  (f_c11_fields N a0 h).bind fun q9 =>
    if q9 ≤ x5 then
    some (x3, x4, h)
  else
    (gfR h a0 11 0).bind fun v11 =>
    (f_c11_wellOn N v11 x5 h).bind fun q12 =>
    (show Option (Int32 × Int32 × gH) from if q12 = (-1 : Int32) then
    (gfR h a0 11 0).bind fun v16 =>
    (gfR h a0 11 25).bind fun v17 =>
    (f_c11_lay N v16 v17 (0 : Int32) h).bind fun q18 =>
    (gfR q18 a0 11 25).bind fun v19 =>
    (f_c11_add N v19 x5 x1 (1 : Int32) q18).bind fun q20 =>
    (f_c11_parchedIn N a0 x2 q20).bind fun q21 =>
    if q21.1 < x4 then
    some (x5, q21.1, q21.2)
  else
    some (x3, x4, q21.2)
  else
    some (x3, x4, h)).bind fun t14 =>
    lp_c11_best_49 N a0 x1 x2 k t14.1 t14.2.1 (x5 + (1 : Int32)) t14.2.2
def f_c11_best (N : Nat) (a0 : Nat) (x1 : Int32) (x2 : Int32) (h : gH) : Option (Int32 × gH) :=
  (gcl h a0 11).bind fun _ =>
  (sf h a0 11 10 (.int (0 : Int32))).bind fun h1 =>
    (f_c11_in N x1 (1 : Int32) (9 : Int32) h1).bind fun q2 =>
    if q2 = 0 then
    some ((-1 : Int32), h1)
  else
    (f_c11_isSpan N x2 h1).bind fun q4 =>
    if q4 = 0 then
    some ((-1 : Int32), h1)
  else
    (gfR h1 a0 11 0).bind fun v6 =>
    (ga 0 h1 v6 (40 : Int32)).bind fun v7 =>
    if v7 = (8 : Int32) then
    some ((-2 : Int32), h1)
  else
    (lp_c11_best_49 N a0 x1 x2 N (-1 : Int32) (1000000 : Int32) (0 : Int32) h1).bind fun o23 =>
    (sf o23.2.2 a0 11 9 (.int (0 : Int32))).bind fun h24 =>
    (f_c11_tell N a0 o23.2.1.toInt64 h24).bind fun q25 =>
    some (o23.1, q25)
set_option maxHeartbeats 4000000 in
set_option maxRecDepth 100000 in
theorem wlp_c11_best_49 {M : gM} {X : gX} {N : Nat} (hx : gEx X = false) (K : gC M X gN11 b_c11_best 7 (gRm (10 + N) 0 0)) (a0 : Nat) (x1 : Int32) (x2 : Int32) : ∀ (k : Nat) (x3 : Int32) (x4 : Int32) (x5 : Int32) (h : gH) (o : Int32 × Int32 × gH), lp_c11_best_49 N a0 x1 x2 k x3 x4 x5 h = some o → gG M X 7 0 0 127 [(0, .ref a0), (3, .int o.1), (4, .int o.2.1)] [] o.2.2 → gG M X 7 0 0 49 [(0, .ref a0), (1, .int x1), (2, .int x2), (3, .int x3), (4, .int x4), (5, .int x5)] [] h := by
  intro k
  induction k with
  | zero =>
    intro x3 x4 x5 h o hy
    rw [lp_c11_best_49.eq_1] at hy
    cases hy
  | succ k ih =>
    intro x3 x4 x5 h o hy hE
    rw [lp_c11_best_49.eq_2] at hy
    refine g_iload K d_c11_best_49 5 rfl ?_
    refine g_aload_n K d_c11_best_51 0 rfl ?_
    obtain ⟨q9, e_q9, hy⟩ := gBd hy
    refine g_callVi (rest := [.int x5]) K hx ly_c11_fields kv_c11_101 d_c11_best_52 (ct_c11_fields M.2.1 X hx N a0 h q9 e_q9) rfl rfl (Nat.le_of_ble_eq_true rfl) (gDep rfl) ⟨Nat.le_refl 0, Nat.le_refl 0⟩ ?_
    refine g_icmp_ge K d_c11_best_55 (fun c10 => ?_) (fun c10 => ?_)
    · rw [if_pos c10] at hy
      refine g_sub (ls2 := [(0, .ref a0), (3, .int x3), (4, .int x4)]) [0, 3, 4] rfl ?_
      obtain rfl := Option.some.inj hy
      exact hE
    · rw [if_neg c10] at hy
      refine g_aload_n K d_c11_best_58 0 rfl ?_
      obtain ⟨v11, e_v11, hy⟩ := gBd hy
      refine g_getR K fl_c11_9 d_c11_best_59 e_v11 ?_
      refine g_iload K d_c11_best_62 5 rfl ?_
      obtain ⟨q12, e_q12, hy⟩ := gBd hy
      refine g_callSi (rest := []) K hx ly_c11_wellOn ks_c11_174 d_c11_best_64 (ct_c11_wellOn M.2.1 X hx N v11 x5 h q12 e_q12) rfl rfl (Nat.le_of_ble_eq_true rfl) (gDep rfl) ⟨Nat.le_refl 0, Nat.le_refl 0⟩ ?_
      refine g_iconst (v := (-1)) K d_c11_best_67 (by decide) ?_
      obtain ⟨t14, e_t14, hy⟩ := gBd hy
      have hJ15 : gG M X 7 0 0 121 [(0, .ref a0), (1, .int x1), (2, .int x2), (3, .int t14.1), (4, .int t14.2.1), (5, .int x5)] [] t14.2.2 := by
        refine g_iinc (ls2 := [(5, .int (x5 + (1 : Int32))), (0, .ref a0), (1, .int x1), (2, .int x2), (3, .int t14.1), (4, .int t14.2.1)]) (v := 1) K d_c11_best_121 5 rfl (by decide) rfl rfl ?_
        refine g_goto K d_c11_best_124 ?_
        refine g_sub (ls2 := [(0, .ref a0), (1, .int x1), (2, .int x2), (3, .int t14.1), (4, .int t14.2.1), (5, .int (x5 + (1 : Int32)))]) [1, 2, 3, 4, 5, 0] rfl ?_
        exact ih _ _ _ _ _ hy hE
      refine g_icmp_eq K d_c11_best_68 (fun c13 => ?_) (fun c13 => ?_)
      · rw [if_pos c13] at e_t14
        refine g_aload_n K d_c11_best_74 0 rfl ?_
        obtain ⟨v16, e_v16, e_t14⟩ := gBd e_t14
        refine g_getR K fl_c11_9 d_c11_best_75 e_v16 ?_
        refine g_aload_n K d_c11_best_78 0 rfl ?_
        obtain ⟨v17, e_v17, e_t14⟩ := gBd e_t14
        refine g_getR K fl_c11_52 d_c11_best_79 e_v17 ?_
        refine g_iconst (v := 0) K d_c11_best_82 (by decide) ?_
        obtain ⟨q18, e_q18, e_t14⟩ := gBd e_t14
        refine g_callSv (rest := []) K hx ly_c11_lay ks_c11_253 d_c11_best_83 (ct_c11_lay M.2.1 X hx N v16 v17 (0 : Int32) h q18 e_q18) rfl rfl (Nat.le_of_ble_eq_true rfl) (gDep rfl) ⟨Nat.le_refl 0, Nat.le_refl 0⟩ ?_
        refine g_aload_n K d_c11_best_86 0 rfl ?_
        obtain ⟨v19, e_v19, e_t14⟩ := gBd e_t14
        refine g_getR K fl_c11_52 d_c11_best_87 e_v19 ?_
        refine g_iload K d_c11_best_90 5 rfl ?_
        refine g_iload_n K d_c11_best_92 1 rfl ?_
        refine g_iconst (v := 1) K d_c11_best_93 (by decide) ?_
        obtain ⟨q20, e_q20, e_t14⟩ := gBd e_t14
        refine g_callSv (rest := []) K hx ly_c11_add ks_c11_181 d_c11_best_94 (ct_c11_add M.2.1 X hx N v19 x5 x1 (1 : Int32) q18 q20 e_q20) rfl rfl (Nat.le_of_ble_eq_true rfl) (gDep rfl) ⟨Nat.le_refl 0, Nat.le_refl 0⟩ ?_
        refine g_aload_n K d_c11_best_97 0 rfl ?_
        refine g_iload_n K d_c11_best_98 2 rfl ?_
        obtain ⟨q21, e_q21, e_t14⟩ := gBd e_t14
        refine g_callVi (rest := []) K hx ly_c11_parchedIn kv_c11_308 d_c11_best_99 (ct_c11_parchedIn M.2.1 X hx N a0 x2 q20 q21 e_q21) rfl rfl (Nat.le_of_ble_eq_true rfl) (gDep rfl) ⟨Nat.le_refl 0, Nat.le_refl 0⟩ ?_
        refine g_istore (ls2 := [(6, .int q21.1), (0, .ref a0), (1, .int x1), (2, .int x2), (3, .int x3), (4, .int x4), (5, .int x5)]) K d_c11_best_102 rfl rfl ?_
        refine g_iload K d_c11_best_104 0 rfl ?_
        refine g_iload K d_c11_best_106 5 rfl ?_
        refine g_icmp_lt K d_c11_best_108 (fun c22 => ?_) (fun c22 => ?_)
        · rw [if_pos c22] at e_t14
          refine g_iload K d_c11_best_114 6 rfl ?_
          refine g_istore_n (ls2 := [(3, .int x5), (6, .int q21.1), (0, .ref a0), (1, .int x1), (2, .int x2), (4, .int x4), (5, .int x5)]) K d_c11_best_116 rfl rfl ?_
          refine g_iload K d_c11_best_117 1 rfl ?_
          refine g_istore (ls2 := [(4, .int q21.1), (3, .int x5), (6, .int q21.1), (0, .ref a0), (1, .int x1), (2, .int x2), (5, .int x5)]) K d_c11_best_119 rfl rfl ?_
          refine g_sub (ls2 := [(0, .ref a0), (1, .int x1), (2, .int x2), (3, .int x5), (4, .int q21.1), (5, .int x5)]) [3, 4, 5, 1, 0, 6] rfl ?_
          obtain rfl := Option.some.inj e_t14
          exact hJ15
        · rw [if_neg c22] at e_t14
          refine g_goto K d_c11_best_111 ?_
          refine g_sub (ls2 := [(0, .ref a0), (1, .int x1), (2, .int x2), (3, .int x3), (4, .int x4), (5, .int x5)]) [1, 2, 3, 4, 5, 6] rfl ?_
          obtain rfl := Option.some.inj e_t14
          exact hJ15
      · rw [if_neg c13] at e_t14
        refine g_goto K d_c11_best_71 ?_
        obtain rfl := Option.some.inj e_t14
        exact hJ15
set_option maxHeartbeats 4000000 in
set_option maxRecDepth 100000 in
theorem ct_c11_best (l : Launch) (X : gX) (hx : gEx X = false) (N : Nat) (a0 : Nat) (x1 : Int32) (x2 : Int32) (h : gH) (q : Int32 × gH) (hy : f_c11_best N a0 x1 x2 h = some q) : gRc y_c11_best h a0 ∧ gMi l X y_c11_best b_c11_best 7 .int (10 + N) 0 0 [.ref a0, .int x1, .int x2] h q.1 q.2 := by
  unfold f_c11_best at hy
  obtain ⟨u0, e_u0, hy⟩ := gBd hy
  cases u0
  refine ⟨Or.inl ⟨11, _, _, e_u0, rfl⟩, gMet_i (lsx := [(0, .ref a0), (1, .int x1), (2, .int x2)]) (by decide) rfl rfl ?_⟩
  intro M hMl K hret
  subst hMl
  refine g_aload_n K d_c11_best_0 0 rfl ?_
  refine g_iconst (v := 0) K d_c11_best_1 (by decide) ?_
  obtain ⟨h1, e_h1, hy⟩ := gBd hy
  refine g_putI K fp_c11_95 d_c11_best_2 e_h1 ?_
  refine g_iload_n K d_c11_best_5 1 rfl ?_
  refine g_iconst (v := 1) K d_c11_best_6 (by decide) ?_
  refine g_bipush (v := 9) K d_c11_best_7 (by decide) ?_
  obtain ⟨q2, e_q2, hy⟩ := gBd hy
  refine g_callSi (rest := []) K hx ly_c11_in ks_c11_105 d_c11_best_9 (ct_c11_in M.2.1 X hx N x1 (1 : Int32) (9 : Int32) h1 q2 e_q2) rfl rfl (Nat.le_of_ble_eq_true rfl) (gDep rfl) ⟨Nat.le_refl 0, Nat.le_refl 0⟩ ?_
  refine g_if_eq K d_c11_best_12 (fun c3 => ?_) (fun c3 => ?_)
  · rw [if_pos c3] at hy
    refine g_iconst (v := (-1)) K d_c11_best_22 (by decide) ?_
    obtain rfl := Option.some.inj hy
    exact hret rfl _ _ _ d_c11_best_23
  · rw [if_neg c3] at hy
    refine g_iload_n K d_c11_best_15 2 rfl ?_
    obtain ⟨q4, e_q4, hy⟩ := gBd hy
    refine g_callSi (rest := []) K hx ly_c11_isSpan ks_c11_305 d_c11_best_16 (ct_c11_isSpan M.2.1 X hx N x2 h1 q4 e_q4) rfl rfl (Nat.le_of_ble_eq_true rfl) (gDep rfl) ⟨Nat.le_refl 0, Nat.le_refl 0⟩ ?_
    refine g_if_ne K d_c11_best_19 (fun c5 => ?_) (fun c5 => ?_)
    · rw [if_neg c5] at hy
      refine g_aload_n K d_c11_best_24 0 rfl ?_
      obtain ⟨v6, e_v6, hy⟩ := gBd hy
      refine g_getR K fl_c11_9 d_c11_best_25 e_v6 ?_
      refine g_bipush (v := 40) K d_c11_best_28 (by decide) ?_
      obtain ⟨v7, e_v7, hy⟩ := gBd hy
      refine g_iald K d_c11_best_30 e_v7 ?_
      refine g_bipush (v := 8) K d_c11_best_31 (by decide) ?_
      refine g_icmp_ne K d_c11_best_33 (fun c8 => ?_) (fun c8 => ?_)
      · rw [if_neg c8] at hy
        refine g_iconst (v := (-1)) K d_c11_best_39 (by decide) ?_
        refine g_istore_n (ls2 := [(3, .int (-1 : Int32)), (0, .ref a0), (1, .int x1), (2, .int x2)]) K d_c11_best_40 rfl rfl ?_
        refine g_ldcw (v := 1000000) K d_c11_best_41 (gTk_7 44 rfl rfl) ?_
        refine g_istore (ls2 := [(4, .int (1000000 : Int32)), (3, .int (-1 : Int32)), (0, .ref a0), (1, .int x1), (2, .int x2)]) K d_c11_best_44 rfl rfl ?_
        refine g_iconst (v := 0) K d_c11_best_46 (by decide) ?_
        refine g_istore (ls2 := [(5, .int (0 : Int32)), (4, .int (1000000 : Int32)), (3, .int (-1 : Int32)), (0, .ref a0), (1, .int x1), (2, .int x2)]) K d_c11_best_47 rfl rfl ?_
        obtain ⟨o23, e_o23, hy⟩ := gBd hy
        refine g_sub (ls2 := [(0, .ref a0), (1, .int x1), (2, .int x2), (3, .int (-1 : Int32)), (4, .int (1000000 : Int32)), (5, .int (0 : Int32))]) [3, 4, 5, 2, 1, 0] rfl ?_
        refine wlp_c11_best_49 hx K a0 x1 x2 N (-1 : Int32) (1000000 : Int32) (0 : Int32) h1 o23 e_o23 ?_
        refine g_aload_n K d_c11_best_127 0 rfl ?_
        refine g_iconst (v := 0) K d_c11_best_128 (by decide) ?_
        obtain ⟨h24, e_h24, hy⟩ := gBd hy
        refine g_putI K fp_c11_98 d_c11_best_129 e_h24 ?_
        refine g_aload_n K d_c11_best_132 0 rfl ?_
        refine g_iload K d_c11_best_133 2 rfl ?_
        refine g_i2l K d_c11_best_135 ?_
        obtain ⟨q25, e_q25, hy⟩ := gBd hy
        refine g_callVv (rest := []) K hx ly_c11_tell kv_c11_268 d_c11_best_136 (ct_c11_tell M.2.1 X hx N a0 o23.2.1.toInt64 h24 q25 e_q25) rfl rfl (Nat.le_of_ble_eq_true rfl) (gDep rfl) ⟨Nat.le_refl 0, Nat.le_refl 0⟩ ?_
        refine g_iload_n K d_c11_best_139 1 rfl ?_
        obtain rfl := Option.some.inj hy
        exact hret rfl _ _ _ d_c11_best_140
      · rw [if_pos c8] at hy
        refine g_bipush (v := (-2)) K d_c11_best_36 (by decide) ?_
        obtain rfl := Option.some.inj hy
        exact hret rfl _ _ _ d_c11_best_38
    · rw [if_pos c5] at hy
      refine g_iconst (v := (-1)) K d_c11_best_22 (by decide) ?_
      obtain rfl := Option.some.inj hy
      exact hret rfl _ _ _ d_c11_best_23
-- c11 dearest
theorem d_c11_dearest_0 : gD b_c11_dearest 0 (.aload_n 0) 1 1 := ⟨by decide +kernel, rfl⟩
theorem d_c11_dearest_1 : gD b_c11_dearest 1 (.iconst 0) 1 2 := ⟨by decide +kernel, rfl⟩
theorem d_c11_dearest_2 : gD b_c11_dearest 2 (.putfield 95) 3 5 := ⟨by decide +kernel, rfl⟩
theorem d_c11_dearest_5 : gD b_c11_dearest 5 (.iload_n 1) 1 6 := ⟨by decide +kernel, rfl⟩
theorem d_c11_dearest_6 : gD b_c11_dearest 6 (.invokestatic 305) 3 9 := ⟨by decide +kernel, rfl⟩
theorem d_c11_dearest_9 : gJ b_c11_dearest 9 (.ifCond .ne 5) 3 5 12 14 := ⟨by decide +kernel, rfl, by decide⟩
theorem d_c11_dearest_12 : gD b_c11_dearest 12 (.iconst (-1)) 1 13 := ⟨by decide +kernel, rfl⟩
theorem d_c11_dearest_13 : gD b_c11_dearest 13 .ireturn 1 14 := ⟨by decide +kernel, rfl⟩
theorem d_c11_dearest_14 : gD b_c11_dearest 14 (.aload_n 0) 1 15 := ⟨by decide +kernel, rfl⟩
theorem d_c11_dearest_15 : gD b_c11_dearest 15 (.getfield 9) 3 18 := ⟨by decide +kernel, rfl⟩
theorem d_c11_dearest_18 : gD b_c11_dearest 18 (.bipush 40) 2 20 := ⟨by decide +kernel, rfl⟩
theorem d_c11_dearest_20 : gD b_c11_dearest 20 .iaload 1 21 := ⟨by decide +kernel, rfl⟩
theorem d_c11_dearest_21 : gJ b_c11_dearest 21 (.ifCond .ne 6) 3 6 24 27 := ⟨by decide +kernel, rfl, by decide⟩
theorem d_c11_dearest_24 : gD b_c11_dearest 24 (.bipush (-2)) 2 26 := ⟨by decide +kernel, rfl⟩
theorem d_c11_dearest_26 : gD b_c11_dearest 26 .ireturn 1 27 := ⟨by decide +kernel, rfl⟩
theorem d_c11_dearest_27 : gD b_c11_dearest 27 (.iconst (-1)) 1 28 := ⟨by decide +kernel, rfl⟩
theorem d_c11_dearest_28 : gD b_c11_dearest 28 (.istore_n 2) 1 29 := ⟨by decide +kernel, rfl⟩
theorem d_c11_dearest_29 : gD b_c11_dearest 29 (.iconst (-1)) 1 30 := ⟨by decide +kernel, rfl⟩
theorem d_c11_dearest_30 : gD b_c11_dearest 30 (.istore_n 3) 1 31 := ⟨by decide +kernel, rfl⟩
theorem d_c11_dearest_31 : gD b_c11_dearest 31 (.iconst 0) 1 32 := ⟨by decide +kernel, rfl⟩
theorem d_c11_dearest_32 : gD b_c11_dearest 32 (.istore 4) 2 34 := ⟨by decide +kernel, rfl⟩
theorem d_c11_dearest_34 : gD b_c11_dearest 34 (.iload 4) 2 36 := ⟨by decide +kernel, rfl⟩
theorem d_c11_dearest_36 : gD b_c11_dearest 36 (.aload_n 0) 1 37 := ⟨by decide +kernel, rfl⟩
theorem d_c11_dearest_37 : gD b_c11_dearest 37 (.getfield 9) 3 40 := ⟨by decide +kernel, rfl⟩
theorem d_c11_dearest_40 : gD b_c11_dearest 40 (.bipush 40) 2 42 := ⟨by decide +kernel, rfl⟩
theorem d_c11_dearest_42 : gD b_c11_dearest 42 .iaload 1 43 := ⟨by decide +kernel, rfl⟩
theorem d_c11_dearest_43 : gJ b_c11_dearest 43 (.if_icmp .ge 49) 3 49 46 92 := ⟨by decide +kernel, rfl, by decide⟩
theorem d_c11_dearest_46 : gD b_c11_dearest 46 (.aload_n 0) 1 47 := ⟨by decide +kernel, rfl⟩
theorem d_c11_dearest_47 : gD b_c11_dearest 47 (.getfield 9) 3 50 := ⟨by decide +kernel, rfl⟩
theorem d_c11_dearest_50 : gD b_c11_dearest 50 (.aload_n 0) 1 51 := ⟨by decide +kernel, rfl⟩
theorem d_c11_dearest_51 : gD b_c11_dearest 51 (.getfield 52) 3 54 := ⟨by decide +kernel, rfl⟩
theorem d_c11_dearest_54 : gD b_c11_dearest 54 (.iconst 0) 1 55 := ⟨by decide +kernel, rfl⟩
theorem d_c11_dearest_55 : gD b_c11_dearest 55 (.invokestatic 253) 3 58 := ⟨by decide +kernel, rfl⟩
theorem d_c11_dearest_58 : gD b_c11_dearest 58 (.aload_n 0) 1 59 := ⟨by decide +kernel, rfl⟩
theorem d_c11_dearest_59 : gD b_c11_dearest 59 (.iload 4) 2 61 := ⟨by decide +kernel, rfl⟩
theorem d_c11_dearest_61 : gD b_c11_dearest 61 (.invokevirtual 319) 3 64 := ⟨by decide +kernel, rfl⟩
theorem d_c11_dearest_64 : gD b_c11_dearest 64 (.aload_n 0) 1 65 := ⟨by decide +kernel, rfl⟩
theorem d_c11_dearest_65 : gD b_c11_dearest 65 (.iload_n 1) 1 66 := ⟨by decide +kernel, rfl⟩
theorem d_c11_dearest_66 : gD b_c11_dearest 66 (.invokevirtual 308) 3 69 := ⟨by decide +kernel, rfl⟩
theorem d_c11_dearest_69 : gD b_c11_dearest 69 (.istore 5) 2 71 := ⟨by decide +kernel, rfl⟩
theorem d_c11_dearest_71 : gD b_c11_dearest 71 (.iload 5) 2 73 := ⟨by decide +kernel, rfl⟩
theorem d_c11_dearest_73 : gD b_c11_dearest 73 (.iload_n 3) 1 74 := ⟨by decide +kernel, rfl⟩
theorem d_c11_dearest_74 : gJ b_c11_dearest 74 (.if_icmp .gt 6) 3 6 77 80 := ⟨by decide +kernel, rfl, by decide⟩
theorem d_c11_dearest_77 : gJ b_c11_dearest 77 (.goto 9) 3 9 80 86 := ⟨by decide +kernel, rfl, by decide⟩
theorem d_c11_dearest_80 : gD b_c11_dearest 80 (.iload 4) 2 82 := ⟨by decide +kernel, rfl⟩
theorem d_c11_dearest_82 : gD b_c11_dearest 82 (.istore_n 2) 1 83 := ⟨by decide +kernel, rfl⟩
theorem d_c11_dearest_83 : gD b_c11_dearest 83 (.iload 5) 2 85 := ⟨by decide +kernel, rfl⟩
theorem d_c11_dearest_85 : gD b_c11_dearest 85 (.istore_n 3) 1 86 := ⟨by decide +kernel, rfl⟩
theorem d_c11_dearest_86 : gD b_c11_dearest 86 (.iinc 4 1) 3 89 := ⟨by decide +kernel, rfl⟩
theorem d_c11_dearest_89 : gJ b_c11_dearest 89 (.goto (-55)) 3 (-55) 92 34 := ⟨by decide +kernel, rfl, by decide⟩
theorem d_c11_dearest_92 : gD b_c11_dearest 92 (.aload_n 0) 1 93 := ⟨by decide +kernel, rfl⟩
theorem d_c11_dearest_93 : gD b_c11_dearest 93 (.getfield 9) 3 96 := ⟨by decide +kernel, rfl⟩
theorem d_c11_dearest_96 : gD b_c11_dearest 96 (.aload_n 0) 1 97 := ⟨by decide +kernel, rfl⟩
theorem d_c11_dearest_97 : gD b_c11_dearest 97 (.getfield 52) 3 100 := ⟨by decide +kernel, rfl⟩
theorem d_c11_dearest_100 : gD b_c11_dearest 100 (.iconst 0) 1 101 := ⟨by decide +kernel, rfl⟩
theorem d_c11_dearest_101 : gD b_c11_dearest 101 (.invokestatic 253) 3 104 := ⟨by decide +kernel, rfl⟩
theorem d_c11_dearest_104 : gD b_c11_dearest 104 (.aload_n 0) 1 105 := ⟨by decide +kernel, rfl⟩
theorem d_c11_dearest_105 : gD b_c11_dearest 105 (.iconst 0) 1 106 := ⟨by decide +kernel, rfl⟩
theorem d_c11_dearest_106 : gD b_c11_dearest 106 (.putfield 98) 3 109 := ⟨by decide +kernel, rfl⟩
theorem d_c11_dearest_109 : gD b_c11_dearest 109 (.aload_n 0) 1 110 := ⟨by decide +kernel, rfl⟩
theorem d_c11_dearest_110 : gD b_c11_dearest 110 (.iload_n 3) 1 111 := ⟨by decide +kernel, rfl⟩
theorem d_c11_dearest_111 : gD b_c11_dearest 111 .i2l 1 112 := ⟨by decide +kernel, rfl⟩
theorem d_c11_dearest_112 : gD b_c11_dearest 112 (.invokevirtual 268) 3 115 := ⟨by decide +kernel, rfl⟩
theorem d_c11_dearest_115 : gD b_c11_dearest 115 (.aload_n 0) 1 116 := ⟨by decide +kernel, rfl⟩
theorem d_c11_dearest_116 : gD b_c11_dearest 116 (.aload_n 0) 1 117 := ⟨by decide +kernel, rfl⟩
theorem d_c11_dearest_117 : gD b_c11_dearest 117 (.iload_n 1) 1 118 := ⟨by decide +kernel, rfl⟩
theorem d_c11_dearest_118 : gD b_c11_dearest 118 (.invokevirtual 308) 3 121 := ⟨by decide +kernel, rfl⟩
theorem d_c11_dearest_121 : gD b_c11_dearest 121 .i2l 1 122 := ⟨by decide +kernel, rfl⟩
theorem d_c11_dearest_122 : gD b_c11_dearest 122 (.invokevirtual 268) 3 125 := ⟨by decide +kernel, rfl⟩
theorem d_c11_dearest_125 : gD b_c11_dearest 125 (.iload_n 2) 1 126 := ⟨by decide +kernel, rfl⟩
theorem d_c11_dearest_126 : gD b_c11_dearest 126 .ireturn 1 127 := ⟨by decide +kernel, rfl⟩
def lp_c11_dearest_34 (N : Nat) (a0 : Nat) (x1 : Int32) : Nat → Int32 → Int32 → Int32 → gH → Option (Int32 × Int32 × gH)
  | 0, _, _, _, _ => none
  | k + 1, x2, x3, x4, h =>
  (gfR h a0 11 0).bind fun v7 =>
    (ga 0 h v7 (40 : Int32)).bind fun v8 =>
    if v8 ≤ x4 then
    some (x2, x3, h)
  else
    (gfR h a0 11 0).bind fun v10 =>
    (gfR h a0 11 25).bind fun v11 =>
    (f_c11_lay N v10 v11 (0 : Int32) h).bind fun q12 =>
    (f_c11_takeAway N a0 x4 q12).bind fun q13 =>
    (f_c11_parchedIn N a0 x1 q13).bind fun q14 =>
    (show Option (Int32 × Int32) from if x3 < q14.1 then
    some (x4, q14.1)
  else
    some (x2, x3)).bind fun t16 =>
    lp_c11_dearest_34 N a0 x1 k t16.1 t16.2 (x4 + (1 : Int32)) q14.2
def f_c11_dearest (N : Nat) (a0 : Nat) (x1 : Int32) (h : gH) : Option (Int32 × gH) :=
  (gcl h a0 11).bind fun _ =>
  (sf h a0 11 10 (.int (0 : Int32))).bind fun h1 =>
    (f_c11_isSpan N x1 h1).bind fun q2 =>
    if q2 = 0 then
    some ((-1 : Int32), h1)
  else
    (gfR h1 a0 11 0).bind fun v4 =>
    (ga 0 h1 v4 (40 : Int32)).bind fun v5 =>
    if v5 = 0 then
    some ((-2 : Int32), h1)
  else
    (lp_c11_dearest_34 N a0 x1 N (-1 : Int32) (-1 : Int32) (0 : Int32) h1).bind fun o18 =>
    (gfR o18.2.2 a0 11 0).bind fun v19 =>
    (gfR o18.2.2 a0 11 25).bind fun v20 =>
    (f_c11_lay N v19 v20 (0 : Int32) o18.2.2).bind fun q21 =>
    (sf q21 a0 11 9 (.int (0 : Int32))).bind fun h22 =>
    (f_c11_tell N a0 o18.2.1.toInt64 h22).bind fun q23 =>
    (f_c11_parchedIn N a0 x1 q23).bind fun q24 =>
    (f_c11_tell N a0 q24.1.toInt64 q24.2).bind fun q25 =>
    some (o18.1, q25)
set_option maxHeartbeats 4000000 in
set_option maxRecDepth 100000 in
theorem wlp_c11_dearest_34 {M : gM} {X : gX} {N : Nat} (hx : gEx X = false) (K : gC M X gN11 b_c11_dearest 6 (gRm (10 + N) 0 0)) (a0 : Nat) (x1 : Int32) : ∀ (k : Nat) (x2 : Int32) (x3 : Int32) (x4 : Int32) (h : gH) (o : Int32 × Int32 × gH), lp_c11_dearest_34 N a0 x1 k x2 x3 x4 h = some o → gG M X 6 0 0 92 [(0, .ref a0), (1, .int x1), (2, .int o.1), (3, .int o.2.1)] [] o.2.2 → gG M X 6 0 0 34 [(0, .ref a0), (1, .int x1), (2, .int x2), (3, .int x3), (4, .int x4)] [] h := by
  intro k
  induction k with
  | zero =>
    intro x2 x3 x4 h o hy
    rw [lp_c11_dearest_34.eq_1] at hy
    cases hy
  | succ k ih =>
    intro x2 x3 x4 h o hy hE
    rw [lp_c11_dearest_34.eq_2] at hy
    refine g_iload K d_c11_dearest_34 4 rfl ?_
    refine g_aload_n K d_c11_dearest_36 0 rfl ?_
    obtain ⟨v7, e_v7, hy⟩ := gBd hy
    refine g_getR K fl_c11_9 d_c11_dearest_37 e_v7 ?_
    refine g_bipush (v := 40) K d_c11_dearest_40 (by decide) ?_
    obtain ⟨v8, e_v8, hy⟩ := gBd hy
    refine g_iald K d_c11_dearest_42 e_v8 ?_
    refine g_icmp_ge K d_c11_dearest_43 (fun c9 => ?_) (fun c9 => ?_)
    · rw [if_pos c9] at hy
      refine g_sub (ls2 := [(0, .ref a0), (1, .int x1), (2, .int x2), (3, .int x3)]) [0, 1, 2, 3] rfl ?_
      obtain rfl := Option.some.inj hy
      exact hE
    · rw [if_neg c9] at hy
      refine g_aload_n K d_c11_dearest_46 0 rfl ?_
      obtain ⟨v10, e_v10, hy⟩ := gBd hy
      refine g_getR K fl_c11_9 d_c11_dearest_47 e_v10 ?_
      refine g_aload_n K d_c11_dearest_50 0 rfl ?_
      obtain ⟨v11, e_v11, hy⟩ := gBd hy
      refine g_getR K fl_c11_52 d_c11_dearest_51 e_v11 ?_
      refine g_iconst (v := 0) K d_c11_dearest_54 (by decide) ?_
      obtain ⟨q12, e_q12, hy⟩ := gBd hy
      refine g_callSv (rest := []) K hx ly_c11_lay ks_c11_253 d_c11_dearest_55 (ct_c11_lay M.2.1 X hx N v10 v11 (0 : Int32) h q12 e_q12) rfl rfl (Nat.le_of_ble_eq_true rfl) (gDep rfl) ⟨Nat.le_refl 0, Nat.le_refl 0⟩ ?_
      refine g_aload_n K d_c11_dearest_58 0 rfl ?_
      refine g_iload K d_c11_dearest_59 4 rfl ?_
      obtain ⟨q13, e_q13, hy⟩ := gBd hy
      refine g_callVv (rest := []) K hx ly_c11_takeAway kv_c11_319 d_c11_dearest_61 (ct_c11_takeAway M.2.1 X hx N a0 x4 q12 q13 e_q13) rfl rfl (Nat.le_of_ble_eq_true rfl) (gDep rfl) ⟨Nat.le_refl 0, Nat.le_refl 0⟩ ?_
      refine g_aload_n K d_c11_dearest_64 0 rfl ?_
      refine g_iload_n K d_c11_dearest_65 1 rfl ?_
      obtain ⟨q14, e_q14, hy⟩ := gBd hy
      refine g_callVi (rest := []) K hx ly_c11_parchedIn kv_c11_308 d_c11_dearest_66 (ct_c11_parchedIn M.2.1 X hx N a0 x1 q13 q14 e_q14) rfl rfl (Nat.le_of_ble_eq_true rfl) (gDep rfl) ⟨Nat.le_refl 0, Nat.le_refl 0⟩ ?_
      refine g_istore (ls2 := [(5, .int q14.1), (0, .ref a0), (1, .int x1), (2, .int x2), (3, .int x3), (4, .int x4)]) K d_c11_dearest_69 rfl rfl ?_
      refine g_iload K d_c11_dearest_71 0 rfl ?_
      refine g_iload_n K d_c11_dearest_73 4 rfl ?_
      obtain ⟨t16, e_t16, hy⟩ := gBd hy
      have hJ17 : gG M X 6 0 0 86 [(0, .ref a0), (1, .int x1), (2, .int t16.1), (3, .int t16.2), (4, .int x4)] [] q14.2 := by
        refine g_iinc (ls2 := [(4, .int (x4 + (1 : Int32))), (0, .ref a0), (1, .int x1), (2, .int t16.1), (3, .int t16.2)]) (v := 1) K d_c11_dearest_86 4 rfl (by decide) rfl rfl ?_
        refine g_goto K d_c11_dearest_89 ?_
        refine g_sub (ls2 := [(0, .ref a0), (1, .int x1), (2, .int t16.1), (3, .int t16.2), (4, .int (x4 + (1 : Int32)))]) [1, 2, 3, 4, 0] rfl ?_
        exact ih _ _ _ _ _ hy hE
      refine g_icmp_gt K d_c11_dearest_74 (fun c15 => ?_) (fun c15 => ?_)
      · rw [if_pos c15] at e_t16
        refine g_iload K d_c11_dearest_80 5 rfl ?_
        refine g_istore_n (ls2 := [(2, .int x4), (5, .int q14.1), (0, .ref a0), (1, .int x1), (3, .int x3), (4, .int x4)]) K d_c11_dearest_82 rfl rfl ?_
        refine g_iload K d_c11_dearest_83 1 rfl ?_
        refine g_istore_n (ls2 := [(3, .int q14.1), (2, .int x4), (5, .int q14.1), (0, .ref a0), (1, .int x1), (4, .int x4)]) K d_c11_dearest_85 rfl rfl ?_
        refine g_sub (ls2 := [(0, .ref a0), (1, .int x1), (2, .int x4), (3, .int q14.1), (4, .int x4)]) [3, 4, 1, 0, 5] rfl ?_
        obtain rfl := Option.some.inj e_t16
        exact hJ17
      · rw [if_neg c15] at e_t16
        refine g_goto K d_c11_dearest_77 ?_
        refine g_sub (ls2 := [(0, .ref a0), (1, .int x1), (2, .int x2), (3, .int x3), (4, .int x4)]) [1, 2, 3, 4, 5] rfl ?_
        obtain rfl := Option.some.inj e_t16
        exact hJ17
set_option maxHeartbeats 4000000 in
set_option maxRecDepth 100000 in
theorem ct_c11_dearest (l : Launch) (X : gX) (hx : gEx X = false) (N : Nat) (a0 : Nat) (x1 : Int32) (h : gH) (q : Int32 × gH) (hy : f_c11_dearest N a0 x1 h = some q) : gRc y_c11_dearest h a0 ∧ gMi l X y_c11_dearest b_c11_dearest 6 .int (10 + N) 0 0 [.ref a0, .int x1] h q.1 q.2 := by
  unfold f_c11_dearest at hy
  obtain ⟨u0, e_u0, hy⟩ := gBd hy
  cases u0
  refine ⟨Or.inl ⟨11, _, _, e_u0, rfl⟩, gMet_i (lsx := [(0, .ref a0), (1, .int x1)]) (by decide) rfl rfl ?_⟩
  intro M hMl K hret
  subst hMl
  refine g_aload_n K d_c11_dearest_0 0 rfl ?_
  refine g_iconst (v := 0) K d_c11_dearest_1 (by decide) ?_
  obtain ⟨h1, e_h1, hy⟩ := gBd hy
  refine g_putI K fp_c11_95 d_c11_dearest_2 e_h1 ?_
  refine g_iload_n K d_c11_dearest_5 1 rfl ?_
  obtain ⟨q2, e_q2, hy⟩ := gBd hy
  refine g_callSi (rest := []) K hx ly_c11_isSpan ks_c11_305 d_c11_dearest_6 (ct_c11_isSpan M.2.1 X hx N x1 h1 q2 e_q2) rfl rfl (Nat.le_of_ble_eq_true rfl) (gDep rfl) ⟨Nat.le_refl 0, Nat.le_refl 0⟩ ?_
  refine g_if_ne K d_c11_dearest_9 (fun c3 => ?_) (fun c3 => ?_)
  · rw [if_neg c3] at hy
    refine g_aload_n K d_c11_dearest_14 0 rfl ?_
    obtain ⟨v4, e_v4, hy⟩ := gBd hy
    refine g_getR K fl_c11_9 d_c11_dearest_15 e_v4 ?_
    refine g_bipush (v := 40) K d_c11_dearest_18 (by decide) ?_
    obtain ⟨v5, e_v5, hy⟩ := gBd hy
    refine g_iald K d_c11_dearest_20 e_v5 ?_
    refine g_if_ne K d_c11_dearest_21 (fun c6 => ?_) (fun c6 => ?_)
    · rw [if_neg c6] at hy
      refine g_iconst (v := (-1)) K d_c11_dearest_27 (by decide) ?_
      refine g_istore_n (ls2 := [(2, .int (-1 : Int32)), (0, .ref a0), (1, .int x1)]) K d_c11_dearest_28 rfl rfl ?_
      refine g_iconst (v := (-1)) K d_c11_dearest_29 (by decide) ?_
      refine g_istore_n (ls2 := [(3, .int (-1 : Int32)), (2, .int (-1 : Int32)), (0, .ref a0), (1, .int x1)]) K d_c11_dearest_30 rfl rfl ?_
      refine g_iconst (v := 0) K d_c11_dearest_31 (by decide) ?_
      refine g_istore (ls2 := [(4, .int (0 : Int32)), (3, .int (-1 : Int32)), (2, .int (-1 : Int32)), (0, .ref a0), (1, .int x1)]) K d_c11_dearest_32 rfl rfl ?_
      obtain ⟨o18, e_o18, hy⟩ := gBd hy
      refine g_sub (ls2 := [(0, .ref a0), (1, .int x1), (2, .int (-1 : Int32)), (3, .int (-1 : Int32)), (4, .int (0 : Int32))]) [3, 4, 2, 1, 0] rfl ?_
      refine wlp_c11_dearest_34 hx K a0 x1 N (-1 : Int32) (-1 : Int32) (0 : Int32) h1 o18 e_o18 ?_
      refine g_aload_n K d_c11_dearest_92 0 rfl ?_
      obtain ⟨v19, e_v19, hy⟩ := gBd hy
      refine g_getR K fl_c11_9 d_c11_dearest_93 e_v19 ?_
      refine g_aload_n K d_c11_dearest_96 0 rfl ?_
      obtain ⟨v20, e_v20, hy⟩ := gBd hy
      refine g_getR K fl_c11_52 d_c11_dearest_97 e_v20 ?_
      refine g_iconst (v := 0) K d_c11_dearest_100 (by decide) ?_
      obtain ⟨q21, e_q21, hy⟩ := gBd hy
      refine g_callSv (rest := []) K hx ly_c11_lay ks_c11_253 d_c11_dearest_101 (ct_c11_lay M.2.1 X hx N v19 v20 (0 : Int32) o18.2.2 q21 e_q21) rfl rfl (Nat.le_of_ble_eq_true rfl) (gDep rfl) ⟨Nat.le_refl 0, Nat.le_refl 0⟩ ?_
      refine g_aload_n K d_c11_dearest_104 0 rfl ?_
      refine g_iconst (v := 0) K d_c11_dearest_105 (by decide) ?_
      obtain ⟨h22, e_h22, hy⟩ := gBd hy
      refine g_putI K fp_c11_98 d_c11_dearest_106 e_h22 ?_
      refine g_aload_n K d_c11_dearest_109 0 rfl ?_
      refine g_iload_n K d_c11_dearest_110 3 rfl ?_
      refine g_i2l K d_c11_dearest_111 ?_
      obtain ⟨q23, e_q23, hy⟩ := gBd hy
      refine g_callVv (rest := []) K hx ly_c11_tell kv_c11_268 d_c11_dearest_112 (ct_c11_tell M.2.1 X hx N a0 o18.2.1.toInt64 h22 q23 e_q23) rfl rfl (Nat.le_of_ble_eq_true rfl) (gDep rfl) ⟨Nat.le_refl 0, Nat.le_refl 0⟩ ?_
      refine g_aload_n K d_c11_dearest_115 0 rfl ?_
      refine g_aload_n K d_c11_dearest_116 0 rfl ?_
      refine g_iload_n K d_c11_dearest_117 1 rfl ?_
      obtain ⟨q24, e_q24, hy⟩ := gBd hy
      refine g_callVi (rest := [.ref a0]) K hx ly_c11_parchedIn kv_c11_308 d_c11_dearest_118 (ct_c11_parchedIn M.2.1 X hx N a0 x1 q23 q24 e_q24) rfl rfl (Nat.le_of_ble_eq_true rfl) (gDep rfl) ⟨Nat.le_refl 0, Nat.le_refl 0⟩ ?_
      refine g_i2l K d_c11_dearest_121 ?_
      obtain ⟨q25, e_q25, hy⟩ := gBd hy
      refine g_callVv (rest := []) K hx ly_c11_tell kv_c11_268 d_c11_dearest_122 (ct_c11_tell M.2.1 X hx N a0 q24.1.toInt64 q24.2 q25 e_q25) rfl rfl (Nat.le_of_ble_eq_true rfl) (gDep rfl) ⟨Nat.le_refl 0, Nat.le_refl 0⟩ ?_
      refine g_iload_n K d_c11_dearest_125 2 rfl ?_
      obtain rfl := Option.some.inj hy
      exact hret rfl _ _ _ d_c11_dearest_126
    · rw [if_pos c6] at hy
      refine g_bipush (v := (-2)) K d_c11_dearest_24 (by decide) ?_
      obtain rfl := Option.some.inj hy
      exact hret rfl _ _ _ d_c11_dearest_26
  · rw [if_pos c3] at hy
    refine g_iconst (v := (-1)) K d_c11_dearest_12 (by decide) ?_
    obtain rfl := Option.some.inj hy
    exact hret rfl _ _ _ d_c11_dearest_13
-- c11 parchedIn10
theorem d_c11_parchedIn10_0 : gD b_c11_parchedIn10 0 (.aload_n 0) 1 1 := ⟨by decide +kernel, rfl⟩
theorem d_c11_parchedIn10_1 : gD b_c11_parchedIn10 1 (.getfield 9) 3 4 := ⟨by decide +kernel, rfl⟩
theorem d_c11_parchedIn10_4 : gD b_c11_parchedIn10 4 (.aload_n 0) 1 5 := ⟨by decide +kernel, rfl⟩
theorem d_c11_parchedIn10_5 : gD b_c11_parchedIn10 5 (.getfield 52) 3 8 := ⟨by decide +kernel, rfl⟩
theorem d_c11_parchedIn10_8 : gD b_c11_parchedIn10 8 (.iconst 0) 1 9 := ⟨by decide +kernel, rfl⟩
theorem d_c11_parchedIn10_9 : gD b_c11_parchedIn10 9 (.invokestatic 253) 3 12 := ⟨by decide +kernel, rfl⟩
theorem d_c11_parchedIn10_12 : gD b_c11_parchedIn10 12 (.aload_n 0) 1 13 := ⟨by decide +kernel, rfl⟩
theorem d_c11_parchedIn10_13 : gD b_c11_parchedIn10 13 (.bipush 10) 2 15 := ⟨by decide +kernel, rfl⟩
theorem d_c11_parchedIn10_15 : gD b_c11_parchedIn10 15 (.invokevirtual 308) 3 18 := ⟨by decide +kernel, rfl⟩
theorem d_c11_parchedIn10_18 : gD b_c11_parchedIn10 18 .ireturn 1 19 := ⟨by decide +kernel, rfl⟩
def f_c11_parchedIn10 (N : Nat) (a0 : Nat) (h : gH) : Option (Int32 × gH) :=
  (gcl h a0 11).bind fun _ =>
  (gfR h a0 11 0).bind fun v1 =>
    (gfR h a0 11 25).bind fun v2 =>
    (f_c11_lay N v1 v2 (0 : Int32) h).bind fun q3 =>
    (f_c11_parchedIn N a0 (10 : Int32) q3).bind fun q4 =>
    some (q4.1, q4.2)
set_option maxHeartbeats 4000000 in
set_option maxRecDepth 100000 in
theorem ct_c11_parchedIn10 (l : Launch) (X : gX) (hx : gEx X = false) (N : Nat) (a0 : Nat) (h : gH) (q : Int32 × gH) (hy : f_c11_parchedIn10 N a0 h = some q) : gRc y_c11_parchedIn10 h a0 ∧ gMi l X y_c11_parchedIn10 b_c11_parchedIn10 1 .int (10 + N) 0 0 [.ref a0] h q.1 q.2 := by
  unfold f_c11_parchedIn10 at hy
  obtain ⟨u0, e_u0, hy⟩ := gBd hy
  cases u0
  refine ⟨Or.inl ⟨11, _, _, e_u0, rfl⟩, gMet_i (lsx := [(0, .ref a0)]) (by decide) rfl rfl ?_⟩
  intro M hMl K hret
  subst hMl
  refine g_aload_n K d_c11_parchedIn10_0 0 rfl ?_
  obtain ⟨v1, e_v1, hy⟩ := gBd hy
  refine g_getR K fl_c11_9 d_c11_parchedIn10_1 e_v1 ?_
  refine g_aload_n K d_c11_parchedIn10_4 0 rfl ?_
  obtain ⟨v2, e_v2, hy⟩ := gBd hy
  refine g_getR K fl_c11_52 d_c11_parchedIn10_5 e_v2 ?_
  refine g_iconst (v := 0) K d_c11_parchedIn10_8 (by decide) ?_
  obtain ⟨q3, e_q3, hy⟩ := gBd hy
  refine g_callSv (rest := []) K hx ly_c11_lay ks_c11_253 d_c11_parchedIn10_9 (ct_c11_lay M.2.1 X hx N v1 v2 (0 : Int32) h q3 e_q3) rfl rfl (Nat.le_of_ble_eq_true rfl) (gDep rfl) ⟨Nat.le_refl 0, Nat.le_refl 0⟩ ?_
  refine g_aload_n K d_c11_parchedIn10_12 0 rfl ?_
  refine g_bipush (v := 10) K d_c11_parchedIn10_13 (by decide) ?_
  obtain ⟨q4, e_q4, hy⟩ := gBd hy
  refine g_callVi (rest := []) K hx ly_c11_parchedIn kv_c11_308 d_c11_parchedIn10_15 (ct_c11_parchedIn M.2.1 X hx N a0 (10 : Int32) q3 q4 e_q4) rfl rfl (Nat.le_of_ble_eq_true rfl) (gDep rfl) ⟨Nat.le_refl 0, Nat.le_refl 0⟩ ?_
  obtain rfl := Option.some.inj hy
  exact hret rfl _ _ _ d_c11_parchedIn10_18
-- c11 year
theorem d_c11_year_0 : gD b_c11_year 0 (.aload_n 0) 1 1 := ⟨by decide +kernel, rfl⟩
theorem d_c11_year_1 : gD b_c11_year 1 (.iconst 0) 1 2 := ⟨by decide +kernel, rfl⟩
theorem d_c11_year_2 : gD b_c11_year 2 (.putfield 95) 3 5 := ⟨by decide +kernel, rfl⟩
theorem d_c11_year_5 : gD b_c11_year 5 (.aload_n 0) 1 6 := ⟨by decide +kernel, rfl⟩
theorem d_c11_year_6 : gD b_c11_year 6 (.bipush 60) 2 8 := ⟨by decide +kernel, rfl⟩
theorem d_c11_year_8 : gD b_c11_year 8 (.invokevirtual 165) 3 11 := ⟨by decide +kernel, rfl⟩
theorem d_c11_year_11 : gD b_c11_year 11 (.iconst 0) 1 12 := ⟨by decide +kernel, rfl⟩
theorem d_c11_year_12 : gD b_c11_year 12 (.istore_n 1) 1 13 := ⟨by decide +kernel, rfl⟩
theorem d_c11_year_13 : gD b_c11_year 13 (.aload_n 0) 1 14 := ⟨by decide +kernel, rfl⟩
theorem d_c11_year_14 : gD b_c11_year 14 (.invokevirtual 140) 3 17 := ⟨by decide +kernel, rfl⟩
theorem d_c11_year_17 : gJ b_c11_year 17 (.ifCond .eq 27) 3 27 20 44 := ⟨by decide +kernel, rfl, by decide⟩
theorem d_c11_year_20 : gD b_c11_year 20 (.aload_n 0) 1 21 := ⟨by decide +kernel, rfl⟩
theorem d_c11_year_21 : gD b_c11_year 21 (.getfield 130) 3 24 := ⟨by decide +kernel, rfl⟩
theorem d_c11_year_24 : gD b_c11_year 24 (.aload_n 0) 1 25 := ⟨by decide +kernel, rfl⟩
theorem d_c11_year_25 : gD b_c11_year 25 (.getfield 124) 3 28 := ⟨by decide +kernel, rfl⟩
theorem d_c11_year_28 : gJ b_c11_year 28 (.if_icmp .ge 16) 3 16 31 44 := ⟨by decide +kernel, rfl, by decide⟩
theorem d_c11_year_31 : gD b_c11_year 31 (.aload_n 0) 1 32 := ⟨by decide +kernel, rfl⟩
theorem d_c11_year_32 : gD b_c11_year 32 (.iconst 4) 1 33 := ⟨by decide +kernel, rfl⟩
theorem d_c11_year_33 : gD b_c11_year 33 (.iload_n 1) 1 34 := ⟨by decide +kernel, rfl⟩
theorem d_c11_year_34 : gD b_c11_year 34 .imul 1 35 := ⟨by decide +kernel, rfl⟩
theorem d_c11_year_35 : gD b_c11_year 35 (.invokevirtual 296) 3 38 := ⟨by decide +kernel, rfl⟩
theorem d_c11_year_38 : gD b_c11_year 38 (.iinc 1 1) 3 41 := ⟨by decide +kernel, rfl⟩
theorem d_c11_year_41 : gJ b_c11_year 41 (.goto (-28)) 3 (-28) 44 13 := ⟨by decide +kernel, rfl, by decide⟩
theorem d_c11_year_44 : gD b_c11_year 44 (.aload_n 0) 1 45 := ⟨by decide +kernel, rfl⟩
theorem d_c11_year_45 : gD b_c11_year 45 (.invokevirtual 168) 3 48 := ⟨by decide +kernel, rfl⟩
theorem d_c11_year_48 : gJ b_c11_year 48 (.ifCond .ne 10) 3 10 51 58 := ⟨by decide +kernel, rfl, by decide⟩
theorem d_c11_year_51 : gD b_c11_year 51 (.iconst (-1)) 1 52 := ⟨by decide +kernel, rfl⟩
theorem d_c11_year_52 : gD b_c11_year 52 (.aload_n 0) 1 53 := ⟨by decide +kernel, rfl⟩
theorem d_c11_year_53 : gD b_c11_year 53 (.getfield 133) 3 56 := ⟨by decide +kernel, rfl⟩
theorem d_c11_year_56 : gD b_c11_year 56 .isub 1 57 := ⟨by decide +kernel, rfl⟩
theorem d_c11_year_57 : gD b_c11_year 57 .ireturn 1 58 := ⟨by decide +kernel, rfl⟩
theorem d_c11_year_58 : gD b_c11_year 58 (.aload_n 0) 1 59 := ⟨by decide +kernel, rfl⟩
theorem d_c11_year_59 : gD b_c11_year 59 (.getfield 9) 3 62 := ⟨by decide +kernel, rfl⟩
theorem d_c11_year_62 : gD b_c11_year 62 (.aload_n 0) 1 63 := ⟨by decide +kernel, rfl⟩
theorem d_c11_year_63 : gD b_c11_year 63 (.getfield 49) 3 66 := ⟨by decide +kernel, rfl⟩
theorem d_c11_year_66 : gD b_c11_year 66 (.iconst 0) 1 67 := ⟨by decide +kernel, rfl⟩
theorem d_c11_year_67 : gD b_c11_year 67 (.invokestatic 253) 3 70 := ⟨by decide +kernel, rfl⟩
theorem d_c11_year_70 : gD b_c11_year 70 (.iconst 0) 1 71 := ⟨by decide +kernel, rfl⟩
theorem d_c11_year_71 : gD b_c11_year 71 (.istore_n 2) 1 72 := ⟨by decide +kernel, rfl⟩
theorem d_c11_year_72 : gD b_c11_year 72 (.iload_n 2) 1 73 := ⟨by decide +kernel, rfl⟩
theorem d_c11_year_73 : gD b_c11_year 73 (.iload_n 1) 1 74 := ⟨by decide +kernel, rfl⟩
theorem d_c11_year_74 : gJ b_c11_year 74 (.if_icmp .ge 19) 3 19 77 93 := ⟨by decide +kernel, rfl, by decide⟩
theorem d_c11_year_77 : gD b_c11_year 77 (.aload_n 0) 1 78 := ⟨by decide +kernel, rfl⟩
theorem d_c11_year_78 : gD b_c11_year 78 (.iconst 4) 1 79 := ⟨by decide +kernel, rfl⟩
theorem d_c11_year_79 : gD b_c11_year 79 (.iload_n 2) 1 80 := ⟨by decide +kernel, rfl⟩
theorem d_c11_year_80 : gD b_c11_year 80 .imul 1 81 := ⟨by decide +kernel, rfl⟩
theorem d_c11_year_81 : gD b_c11_year 81 (.invokevirtual 299) 3 84 := ⟨by decide +kernel, rfl⟩
theorem d_c11_year_84 : gJ b_c11_year 84 (.ifCond .eq 9) 3 9 87 93 := ⟨by decide +kernel, rfl, by decide⟩
theorem d_c11_year_87 : gD b_c11_year 87 (.iinc 2 1) 3 90 := ⟨by decide +kernel, rfl⟩
theorem d_c11_year_90 : gJ b_c11_year 90 (.goto (-18)) 3 (-18) 93 72 := ⟨by decide +kernel, rfl, by decide⟩
theorem d_c11_year_93 : gD b_c11_year 93 (.iload_n 2) 1 94 := ⟨by decide +kernel, rfl⟩
theorem d_c11_year_94 : gJ b_c11_year 94 (.ifCond .le 11) 3 11 97 105 := ⟨by decide +kernel, rfl, by decide⟩
theorem d_c11_year_97 : gD b_c11_year 97 (.aload_n 0) 1 98 := ⟨by decide +kernel, rfl⟩
theorem d_c11_year_98 : gD b_c11_year 98 (.aload_n 0) 1 99 := ⟨by decide +kernel, rfl⟩
theorem d_c11_year_99 : gD b_c11_year 99 (.getfield 49) 3 102 := ⟨by decide +kernel, rfl⟩
theorem d_c11_year_102 : gD b_c11_year 102 (.invokevirtual 260) 3 105 := ⟨by decide +kernel, rfl⟩
theorem d_c11_year_105 : gD b_c11_year 105 (.aload_n 0) 1 106 := ⟨by decide +kernel, rfl⟩
theorem d_c11_year_106 : gD b_c11_year 106 (.iconst 0) 1 107 := ⟨by decide +kernel, rfl⟩
theorem d_c11_year_107 : gD b_c11_year 107 (.putfield 98) 3 110 := ⟨by decide +kernel, rfl⟩
theorem d_c11_year_110 : gD b_c11_year 110 (.aload_n 0) 1 111 := ⟨by decide +kernel, rfl⟩
theorem d_c11_year_111 : gD b_c11_year 111 (.iload_n 2) 1 112 := ⟨by decide +kernel, rfl⟩
theorem d_c11_year_112 : gD b_c11_year 112 (.iload_n 1) 1 113 := ⟨by decide +kernel, rfl⟩
theorem d_c11_year_113 : gJ b_c11_year 113 (.if_icmp .ge 7) 3 7 116 120 := ⟨by decide +kernel, rfl, by decide⟩
theorem d_c11_year_116 : gD b_c11_year 116 (.lconst 1) 1 117 := ⟨by decide +kernel, rfl⟩
theorem d_c11_year_117 : gJ b_c11_year 117 (.goto 4) 3 4 120 121 := ⟨by decide +kernel, rfl, by decide⟩
theorem d_c11_year_120 : gD b_c11_year 120 (.lconst 0) 1 121 := ⟨by decide +kernel, rfl⟩
theorem d_c11_year_121 : gD b_c11_year 121 (.invokevirtual 268) 3 124 := ⟨by decide +kernel, rfl⟩
theorem d_c11_year_124 : gD b_c11_year 124 (.aload_n 0) 1 125 := ⟨by decide +kernel, rfl⟩
theorem d_c11_year_125 : gD b_c11_year 125 (.aload_n 0) 1 126 := ⟨by decide +kernel, rfl⟩
theorem d_c11_year_126 : gD b_c11_year 126 (.getfield 9) 3 129 := ⟨by decide +kernel, rfl⟩
theorem d_c11_year_129 : gD b_c11_year 129 (.invokestatic 249) 3 132 := ⟨by decide +kernel, rfl⟩
theorem d_c11_year_132 : gD b_c11_year 132 .i2l 1 133 := ⟨by decide +kernel, rfl⟩
theorem d_c11_year_133 : gD b_c11_year 133 (.invokevirtual 268) 3 136 := ⟨by decide +kernel, rfl⟩
theorem d_c11_year_136 : gD b_c11_year 136 (.iload_n 2) 1 137 := ⟨by decide +kernel, rfl⟩
theorem d_c11_year_137 : gD b_c11_year 137 .ireturn 1 138 := ⟨by decide +kernel, rfl⟩
def lp_c11_year_13 (N : Nat) (a0 : Nat) : Nat → Int32 → gH → Option (Int32 × gH)
  | 0, _, _ => none
  | k + 1, x1, h =>
  (f_c11_fine N a0 h).bind fun q3 =>
    if q3 = 0 then
    some (x1, h)
  else
    (gfI h a0 11 14).bind fun v5 =>
    (gfI h a0 11 12).bind fun v6 =>
    if v6 ≤ v5 then
    some (x1, h)
  else
    (f_c11_readAct N a0 ((4 : Int32) * x1) h).bind fun q8 =>
    lp_c11_year_13 N a0 k (x1 + (1 : Int32)) q8
def lp_c11_year_72 (N : Nat) (a0 : Nat) (x1 : Int32) : Nat → Int32 → gH → Option (Int32 × gH)
  | 0, _, _ => none
  | k + 1, x2, h =>
  if x1 ≤ x2 then
    some (x2, h)
  else
    (f_c11_act N a0 ((4 : Int32) * x2) h).bind fun q16 =>
    if q16.1 = 0 then
    some (x2, q16.2)
  else
    lp_c11_year_72 N a0 x1 k (x2 + (1 : Int32)) q16.2
def f_c11_year (N : Nat) (a0 : Nat) (h : gH) : Option (Int32 × gH) :=
  (gcl h a0 11).bind fun _ =>
  (sf h a0 11 10 (.int (0 : Int32))).bind fun h1 =>
    (f_c11_beginText N a0 (60 : Int32) h1).bind fun q2 =>
    (lp_c11_year_13 N a0 N (0 : Int32) q2).bind fun o9 =>
    (f_c11_wasRight N a0 o9.2).bind fun q10 =>
    if q10.1 = 0 then
    (gfI q10.2 a0 11 15).bind fun v32 =>
    some ((-1 : Int32) - v32, q10.2)
  else
    (gfR q10.2 a0 11 0).bind fun v12 =>
    (gfR q10.2 a0 11 24).bind fun v13 =>
    (f_c11_lay N v12 v13 (0 : Int32) q10.2).bind fun q14 =>
    (lp_c11_year_72 N a0 o9.1 N (0 : Int32) q14).bind fun o18 =>
    (show Option (gH) from if o18.1 ≤ 0 then
    some o18.2
  else
    (gfR o18.2 a0 11 24).bind fun v30 =>
    (f_c11_remember N a0 v30 o18.2).bind fun q31 =>
    some q31).bind fun t20 =>
    (sf t20 a0 11 9 (.int (0 : Int32))).bind fun h22 =>
    (f_c11_tell N a0 (if o9.1 ≤ o18.1 then (0 : Int64) else (1 : Int64)) h22).bind fun q26 =>
    (gfR q26 a0 11 0).bind fun v27 =>
    (f_c11_waters N v27 q26).bind fun q28 =>
    (f_c11_tell N a0 q28.toInt64 q26).bind fun q29 =>
    some (o18.1, q29)
set_option maxHeartbeats 4000000 in
set_option maxRecDepth 100000 in
theorem wlp_c11_year_13 {M : gM} {X : gX} {N : Nat} (hx : gEx X = false) (K : gC M X gN11 b_c11_year 3 (gRm (10 + N) 0 0)) (a0 : Nat) : ∀ (k : Nat) (x1 : Int32) (h : gH) (o : Int32 × gH), lp_c11_year_13 N a0 k x1 h = some o → gG M X 3 0 0 44 [(0, .ref a0), (1, .int o.1)] [] o.2 → gG M X 3 0 0 13 [(0, .ref a0), (1, .int x1)] [] h := by
  intro k
  induction k with
  | zero =>
    intro x1 h o hy
    rw [lp_c11_year_13.eq_1] at hy
    cases hy
  | succ k ih =>
    intro x1 h o hy hE
    rw [lp_c11_year_13.eq_2] at hy
    refine g_aload_n K d_c11_year_13 0 rfl ?_
    obtain ⟨q3, e_q3, hy⟩ := gBd hy
    refine g_callVi (rest := []) K hx ly_c11_fine kv_c11_140 d_c11_year_14 (ct_c11_fine M.2.1 X hx N a0 h q3 e_q3) rfl rfl (Nat.le_of_ble_eq_true rfl) (gDep rfl) ⟨Nat.le_refl 0, Nat.le_refl 0⟩ ?_
    refine g_if_eq K d_c11_year_17 (fun c4 => ?_) (fun c4 => ?_)
    · rw [if_pos c4] at hy
      obtain rfl := Option.some.inj hy
      exact hE
    · rw [if_neg c4] at hy
      refine g_aload_n K d_c11_year_20 0 rfl ?_
      obtain ⟨v5, e_v5, hy⟩ := gBd hy
      refine g_getI K fl_c11_130 d_c11_year_21 e_v5 ?_
      refine g_aload_n K d_c11_year_24 0 rfl ?_
      obtain ⟨v6, e_v6, hy⟩ := gBd hy
      refine g_getI K fl_c11_124 d_c11_year_25 e_v6 ?_
      refine g_icmp_ge K d_c11_year_28 (fun c7 => ?_) (fun c7 => ?_)
      · rw [if_pos c7] at hy
        obtain rfl := Option.some.inj hy
        exact hE
      · rw [if_neg c7] at hy
        refine g_aload_n K d_c11_year_31 0 rfl ?_
        refine g_iconst (v := 4) K d_c11_year_32 (by decide) ?_
        refine g_iload_n K d_c11_year_33 1 rfl ?_
        refine g_imul K d_c11_year_34 ?_
        obtain ⟨q8, e_q8, hy⟩ := gBd hy
        refine g_callVv (rest := []) K hx ly_c11_readAct kv_c11_296 d_c11_year_35 (ct_c11_readAct M.2.1 X hx N a0 ((4 : Int32) * x1) h q8 e_q8) rfl rfl (Nat.le_of_ble_eq_true rfl) (gDep rfl) ⟨Nat.le_refl 0, Nat.le_refl 0⟩ ?_
        refine g_iinc (ls2 := [(1, .int (x1 + (1 : Int32))), (0, .ref a0)]) (v := 1) K d_c11_year_38 1 rfl (by decide) rfl rfl ?_
        refine g_goto K d_c11_year_41 ?_
        refine g_sub (ls2 := [(0, .ref a0), (1, .int (x1 + (1 : Int32)))]) [1, 0] rfl ?_
        exact ih _ _ _ hy hE
set_option maxHeartbeats 4000000 in
set_option maxRecDepth 100000 in
theorem wlp_c11_year_72 {M : gM} {X : gX} {N : Nat} (hx : gEx X = false) (K : gC M X gN11 b_c11_year 3 (gRm (10 + N) 0 0)) (a0 : Nat) (x1 : Int32) : ∀ (k : Nat) (x2 : Int32) (h : gH) (o : Int32 × gH), lp_c11_year_72 N a0 x1 k x2 h = some o → gG M X 3 0 0 93 [(0, .ref a0), (1, .int x1), (2, .int o.1)] [] o.2 → gG M X 3 0 0 72 [(0, .ref a0), (1, .int x1), (2, .int x2)] [] h := by
  intro k
  induction k with
  | zero =>
    intro x2 h o hy
    rw [lp_c11_year_72.eq_1] at hy
    cases hy
  | succ k ih =>
    intro x2 h o hy hE
    rw [lp_c11_year_72.eq_2] at hy
    refine g_iload_n K d_c11_year_72 2 rfl ?_
    refine g_iload_n K d_c11_year_73 1 rfl ?_
    refine g_icmp_ge K d_c11_year_74 (fun c15 => ?_) (fun c15 => ?_)
    · rw [if_pos c15] at hy
      obtain rfl := Option.some.inj hy
      exact hE
    · rw [if_neg c15] at hy
      refine g_aload_n K d_c11_year_77 0 rfl ?_
      refine g_iconst (v := 4) K d_c11_year_78 (by decide) ?_
      refine g_iload_n K d_c11_year_79 2 rfl ?_
      refine g_imul K d_c11_year_80 ?_
      obtain ⟨q16, e_q16, hy⟩ := gBd hy
      refine g_callVi (rest := []) K hx ly_c11_act kv_c11_299 d_c11_year_81 (ct_c11_act M.2.1 X hx N a0 ((4 : Int32) * x2) h q16 e_q16) rfl rfl (Nat.le_of_ble_eq_true rfl) (gDep rfl) ⟨Nat.le_refl 0, Nat.le_refl 0⟩ ?_
      refine g_if_eq K d_c11_year_84 (fun c17 => ?_) (fun c17 => ?_)
      · rw [if_pos c17] at hy
        obtain rfl := Option.some.inj hy
        exact hE
      · rw [if_neg c17] at hy
        refine g_iinc (ls2 := [(2, .int (x2 + (1 : Int32))), (0, .ref a0), (1, .int x1)]) (v := 1) K d_c11_year_87 2 rfl (by decide) rfl rfl ?_
        refine g_goto K d_c11_year_90 ?_
        refine g_sub (ls2 := [(0, .ref a0), (1, .int x1), (2, .int (x2 + (1 : Int32)))]) [1, 2, 0] rfl ?_
        exact ih _ _ _ hy hE
set_option maxHeartbeats 4000000 in
set_option maxRecDepth 100000 in
theorem ct_c11_year (l : Launch) (X : gX) (hx : gEx X = false) (N : Nat) (a0 : Nat) (h : gH) (q : Int32 × gH) (hy : f_c11_year N a0 h = some q) : gRc y_c11_year h a0 ∧ gMi l X y_c11_year b_c11_year 3 .int (10 + N) 0 0 [.ref a0] h q.1 q.2 := by
  unfold f_c11_year at hy
  obtain ⟨u0, e_u0, hy⟩ := gBd hy
  cases u0
  refine ⟨Or.inl ⟨11, _, _, e_u0, rfl⟩, gMet_i (lsx := [(0, .ref a0)]) (by decide) rfl rfl ?_⟩
  intro M hMl K hret
  subst hMl
  refine g_aload_n K d_c11_year_0 0 rfl ?_
  refine g_iconst (v := 0) K d_c11_year_1 (by decide) ?_
  obtain ⟨h1, e_h1, hy⟩ := gBd hy
  refine g_putI K fp_c11_95 d_c11_year_2 e_h1 ?_
  refine g_aload_n K d_c11_year_5 0 rfl ?_
  refine g_bipush (v := 60) K d_c11_year_6 (by decide) ?_
  obtain ⟨q2, e_q2, hy⟩ := gBd hy
  refine g_callVv (rest := []) K hx ly_c11_beginText kv_c11_165 d_c11_year_8 (ct_c11_beginText M.2.1 X hx N a0 (60 : Int32) h1 q2 e_q2) rfl rfl (Nat.le_of_ble_eq_true rfl) (gDep rfl) ⟨Nat.le_refl 0, Nat.le_refl 0⟩ ?_
  refine g_iconst (v := 0) K d_c11_year_11 (by decide) ?_
  refine g_istore_n (ls2 := [(1, .int (0 : Int32)), (0, .ref a0)]) K d_c11_year_12 rfl rfl ?_
  obtain ⟨o9, e_o9, hy⟩ := gBd hy
  refine g_sub (ls2 := [(0, .ref a0), (1, .int (0 : Int32))]) [1, 0] rfl ?_
  refine wlp_c11_year_13 hx K a0 N (0 : Int32) q2 o9 e_o9 ?_
  refine g_aload_n K d_c11_year_44 0 rfl ?_
  obtain ⟨q10, e_q10, hy⟩ := gBd hy
  refine g_callVi (rest := []) K hx ly_c11_wasRight kv_c11_168 d_c11_year_45 (ct_c11_wasRight M.2.1 X hx N a0 o9.2 q10 e_q10) rfl rfl (Nat.le_of_ble_eq_true rfl) (gDep rfl) ⟨Nat.le_refl 0, Nat.le_refl 0⟩ ?_
  refine g_if_ne K d_c11_year_48 (fun c11 => ?_) (fun c11 => ?_)
  · rw [if_neg c11] at hy
    refine g_aload_n K d_c11_year_58 0 rfl ?_
    obtain ⟨v12, e_v12, hy⟩ := gBd hy
    refine g_getR K fl_c11_9 d_c11_year_59 e_v12 ?_
    refine g_aload_n K d_c11_year_62 0 rfl ?_
    obtain ⟨v13, e_v13, hy⟩ := gBd hy
    refine g_getR K fl_c11_49 d_c11_year_63 e_v13 ?_
    refine g_iconst (v := 0) K d_c11_year_66 (by decide) ?_
    obtain ⟨q14, e_q14, hy⟩ := gBd hy
    refine g_callSv (rest := []) K hx ly_c11_lay ks_c11_253 d_c11_year_67 (ct_c11_lay M.2.1 X hx N v12 v13 (0 : Int32) q10.2 q14 e_q14) rfl rfl (Nat.le_of_ble_eq_true rfl) (gDep rfl) ⟨Nat.le_refl 0, Nat.le_refl 0⟩ ?_
    refine g_iconst (v := 0) K d_c11_year_70 (by decide) ?_
    refine g_istore_n (ls2 := [(2, .int (0 : Int32)), (0, .ref a0), (1, .int o9.1)]) K d_c11_year_71 rfl rfl ?_
    obtain ⟨o18, e_o18, hy⟩ := gBd hy
    refine g_sub (ls2 := [(0, .ref a0), (1, .int o9.1), (2, .int (0 : Int32))]) [1, 2, 0] rfl ?_
    refine wlp_c11_year_72 hx K a0 o9.1 N (0 : Int32) q14 o18 e_o18 ?_
    refine g_iload_n K d_c11_year_93 2 rfl ?_
    obtain ⟨t20, e_t20, hy⟩ := gBd hy
    have hJ21 : gG M X 3 0 0 105 [(0, .ref a0), (1, .int o9.1), (2, .int o18.1)] [] t20 := by
      refine g_aload_n K d_c11_year_105 0 rfl ?_
      refine g_iconst (v := 0) K d_c11_year_106 (by decide) ?_
      obtain ⟨h22, e_h22, hy⟩ := gBd hy
      refine g_putI K fp_c11_98 d_c11_year_107 e_h22 ?_
      refine g_aload_n K d_c11_year_110 0 rfl ?_
      refine g_iload_n K d_c11_year_111 2 rfl ?_
      refine g_iload_n K d_c11_year_112 1 rfl ?_
      have hJ25 : ∀ w24 : Int64, w24 = (if o9.1 ≤ o18.1 then (0 : Int64) else (1 : Int64)) → gG M X 3 0 0 121 [(0, .ref a0), (1, .int o9.1), (2, .int o18.1)] [.long w24, .ref a0] h22 := by
        intro w24 e_w24
        subst e_w24
        obtain ⟨q26, e_q26, hy⟩ := gBd hy
        refine g_callVv (rest := []) K hx ly_c11_tell kv_c11_268 d_c11_year_121 (ct_c11_tell M.2.1 X hx N a0 (if o9.1 ≤ o18.1 then (0 : Int64) else (1 : Int64)) h22 q26 e_q26) rfl rfl (Nat.le_of_ble_eq_true rfl) (gDep rfl) ⟨Nat.le_refl 0, Nat.le_refl 0⟩ ?_
        refine g_aload_n K d_c11_year_124 0 rfl ?_
        refine g_aload_n K d_c11_year_125 0 rfl ?_
        obtain ⟨v27, e_v27, hy⟩ := gBd hy
        refine g_getR K fl_c11_9 d_c11_year_126 e_v27 ?_
        obtain ⟨q28, e_q28, hy⟩ := gBd hy
        refine g_callSi (rest := [.ref a0]) K hx ly_c11_waters ks_c11_249 d_c11_year_129 (ct_c11_waters M.2.1 X hx N v27 q26 q28 e_q28) rfl rfl (Nat.le_of_ble_eq_true rfl) (gDep rfl) ⟨Nat.le_refl 0, Nat.le_refl 0⟩ ?_
        refine g_i2l K d_c11_year_132 ?_
        obtain ⟨q29, e_q29, hy⟩ := gBd hy
        refine g_callVv (rest := []) K hx ly_c11_tell kv_c11_268 d_c11_year_133 (ct_c11_tell M.2.1 X hx N a0 q28.toInt64 q26 q29 e_q29) rfl rfl (Nat.le_of_ble_eq_true rfl) (gDep rfl) ⟨Nat.le_refl 0, Nat.le_refl 0⟩ ?_
        refine g_iload_n K d_c11_year_136 2 rfl ?_
        obtain rfl := Option.some.inj hy
        exact hret rfl _ _ _ d_c11_year_137
      refine g_icmp_ge K d_c11_year_113 (fun c23 => ?_) (fun c23 => ?_)
      · refine g_lconst (v := 0) K d_c11_year_120 (by decide) ?_
        exact hJ25 _ (by rw [if_pos c23])
      · refine g_lconst (v := 1) K d_c11_year_116 (by decide) ?_
        refine g_goto K d_c11_year_117 ?_
        exact hJ25 _ (by rw [if_neg c23])
    refine g_if_le K d_c11_year_94 (fun c19 => ?_) (fun c19 => ?_)
    · rw [if_pos c19] at e_t20
      obtain rfl := Option.some.inj e_t20
      exact hJ21
    · rw [if_neg c19] at e_t20
      refine g_aload_n K d_c11_year_97 0 rfl ?_
      refine g_aload_n K d_c11_year_98 0 rfl ?_
      obtain ⟨v30, e_v30, e_t20⟩ := gBd e_t20
      refine g_getR K fl_c11_49 d_c11_year_99 e_v30 ?_
      obtain ⟨q31, e_q31, e_t20⟩ := gBd e_t20
      refine g_callVv (rest := []) K hx ly_c11_remember kv_c11_260 d_c11_year_102 (ct_c11_remember M.2.1 X hx N a0 v30 o18.2 q31 e_q31) rfl rfl (Nat.le_of_ble_eq_true rfl) (gDep rfl) ⟨Nat.le_refl 0, Nat.le_refl 0⟩ ?_
      obtain rfl := Option.some.inj e_t20
      exact hJ21
  · rw [if_pos c11] at hy
    refine g_iconst (v := (-1)) K d_c11_year_51 (by decide) ?_
    refine g_aload_n K d_c11_year_52 0 rfl ?_
    obtain ⟨v32, e_v32, hy⟩ := gBd hy
    refine g_getI K fl_c11_133 d_c11_year_53 e_v32 ?_
    refine g_isub K d_c11_year_56 ?_
    obtain rfl := Option.some.inj hy
    exact hret rfl _ _ _ d_c11_year_57
-- c11 law
theorem d_c11_law_0 : gD b_c11_law 0 (.aload_n 0) 1 1 := ⟨by decide +kernel, rfl⟩
theorem d_c11_law_1 : gD b_c11_law 1 (.iconst 0) 1 2 := ⟨by decide +kernel, rfl⟩
theorem d_c11_law_2 : gD b_c11_law 2 (.putfield 95) 3 5 := ⟨by decide +kernel, rfl⟩
theorem d_c11_law_5 : gD b_c11_law 5 (.aload_n 0) 1 6 := ⟨by decide +kernel, rfl⟩
theorem d_c11_law_6 : gD b_c11_law 6 (.getfield 118) 3 9 := ⟨by decide +kernel, rfl⟩
theorem d_c11_law_9 : gD b_c11_law 9 (.istore_n 1) 1 10 := ⟨by decide +kernel, rfl⟩
theorem d_c11_law_10 : gD b_c11_law 10 (.aload_n 0) 1 11 := ⟨by decide +kernel, rfl⟩
theorem d_c11_law_11 : gD b_c11_law 11 (.invokevirtual 211) 3 14 := ⟨by decide +kernel, rfl⟩
theorem d_c11_law_14 : gJ b_c11_law 14 (.ifCond .ne 12) 3 12 17 26 := ⟨by decide +kernel, rfl, by decide⟩
theorem d_c11_law_17 : gD b_c11_law 17 (.sipush (-10000)) 3 20 := ⟨by decide +kernel, rfl⟩
theorem d_c11_law_20 : gD b_c11_law 20 (.aload_n 0) 1 21 := ⟨by decide +kernel, rfl⟩
theorem d_c11_law_21 : gD b_c11_law 21 (.getfield 133) 3 24 := ⟨by decide +kernel, rfl⟩
theorem d_c11_law_24 : gD b_c11_law 24 .isub 1 25 := ⟨by decide +kernel, rfl⟩
theorem d_c11_law_25 : gD b_c11_law 25 .ireturn 1 26 := ⟨by decide +kernel, rfl⟩
theorem d_c11_law_26 : gD b_c11_law 26 (.aload_n 0) 1 27 := ⟨by decide +kernel, rfl⟩
theorem d_c11_law_27 : gD b_c11_law 27 (.invokevirtual 372) 3 30 := ⟨by decide +kernel, rfl⟩
theorem d_c11_law_30 : gD b_c11_law 30 (.istore_n 2) 1 31 := ⟨by decide +kernel, rfl⟩
theorem d_c11_law_31 : gD b_c11_law 31 (.aload_n 0) 1 32 := ⟨by decide +kernel, rfl⟩
theorem d_c11_law_32 : gD b_c11_law 32 (.getfield 37) 3 35 := ⟨by decide +kernel, rfl⟩
theorem d_c11_law_35 : gD b_c11_law 35 (.astore_n 3) 1 36 := ⟨by decide +kernel, rfl⟩
theorem d_c11_law_36 : gD b_c11_law 36 (.aload_n 0) 1 37 := ⟨by decide +kernel, rfl⟩
theorem d_c11_law_37 : gD b_c11_law 37 (.getfield 214) 3 40 := ⟨by decide +kernel, rfl⟩
theorem d_c11_law_40 : gD b_c11_law 40 (.istore 4) 2 42 := ⟨by decide +kernel, rfl⟩
theorem d_c11_law_42 : gD b_c11_law 42 (.aload_n 0) 1 43 := ⟨by decide +kernel, rfl⟩
theorem d_c11_law_43 : gD b_c11_law 43 (.aload_n 0) 1 44 := ⟨by decide +kernel, rfl⟩
theorem d_c11_law_44 : gD b_c11_law 44 (.getfield 40) 3 47 := ⟨by decide +kernel, rfl⟩
theorem d_c11_law_47 : gD b_c11_law 47 (.putfield 37) 3 50 := ⟨by decide +kernel, rfl⟩
theorem d_c11_law_50 : gD b_c11_law 50 (.aload_n 0) 1 51 := ⟨by decide +kernel, rfl⟩
theorem d_c11_law_51 : gD b_c11_law 51 (.iload_n 1) 1 52 := ⟨by decide +kernel, rfl⟩
theorem d_c11_law_52 : gD b_c11_law 52 (.putfield 214) 3 55 := ⟨by decide +kernel, rfl⟩
theorem d_c11_law_55 : gD b_c11_law 55 (.iconst 0) 1 56 := ⟨by decide +kernel, rfl⟩
theorem d_c11_law_56 : gD b_c11_law 56 (.istore 5) 2 58 := ⟨by decide +kernel, rfl⟩
theorem d_c11_law_58 : gD b_c11_law 58 (.iload 5) 2 60 := ⟨by decide +kernel, rfl⟩
theorem d_c11_law_60 : gD b_c11_law 60 (.iload_n 1) 1 61 := ⟨by decide +kernel, rfl⟩
theorem d_c11_law_61 : gJ b_c11_law 61 (.if_icmp .ge 23) 3 23 64 84 := ⟨by decide +kernel, rfl, by decide⟩
theorem d_c11_law_64 : gD b_c11_law 64 (.aload_n 0) 1 65 := ⟨by decide +kernel, rfl⟩
theorem d_c11_law_65 : gD b_c11_law 65 (.getfield 37) 3 68 := ⟨by decide +kernel, rfl⟩
theorem d_c11_law_68 : gD b_c11_law 68 (.iload 5) 2 70 := ⟨by decide +kernel, rfl⟩
theorem d_c11_law_70 : gD b_c11_law 70 (.aload_n 0) 1 71 := ⟨by decide +kernel, rfl⟩
theorem d_c11_law_71 : gD b_c11_law 71 (.getfield 26) 3 74 := ⟨by decide +kernel, rfl⟩
theorem d_c11_law_74 : gD b_c11_law 74 (.iload 5) 2 76 := ⟨by decide +kernel, rfl⟩
theorem d_c11_law_76 : gD b_c11_law 76 .baload 1 77 := ⟨by decide +kernel, rfl⟩
theorem d_c11_law_77 : gD b_c11_law 77 .bastore 1 78 := ⟨by decide +kernel, rfl⟩
theorem d_c11_law_78 : gD b_c11_law 78 (.iinc 5 1) 3 81 := ⟨by decide +kernel, rfl⟩
theorem d_c11_law_81 : gJ b_c11_law 81 (.goto (-23)) 3 (-23) 84 58 := ⟨by decide +kernel, rfl, by decide⟩
theorem d_c11_law_84 : gD b_c11_law 84 (.aload_n 0) 1 85 := ⟨by decide +kernel, rfl⟩
theorem d_c11_law_85 : gD b_c11_law 85 (.invokevirtual 372) 3 88 := ⟨by decide +kernel, rfl⟩
theorem d_c11_law_88 : gD b_c11_law 88 (.istore 5) 2 90 := ⟨by decide +kernel, rfl⟩
theorem d_c11_law_90 : gD b_c11_law 90 (.aload_n 0) 1 91 := ⟨by decide +kernel, rfl⟩
theorem d_c11_law_91 : gD b_c11_law 91 (.aload_n 3) 1 92 := ⟨by decide +kernel, rfl⟩
theorem d_c11_law_92 : gD b_c11_law 92 (.putfield 37) 3 95 := ⟨by decide +kernel, rfl⟩
theorem d_c11_law_95 : gD b_c11_law 95 (.aload_n 0) 1 96 := ⟨by decide +kernel, rfl⟩
theorem d_c11_law_96 : gD b_c11_law 96 (.iload 4) 2 98 := ⟨by decide +kernel, rfl⟩
theorem d_c11_law_98 : gD b_c11_law 98 (.putfield 214) 3 101 := ⟨by decide +kernel, rfl⟩
theorem d_c11_law_101 : gD b_c11_law 101 (.aload_n 0) 1 102 := ⟨by decide +kernel, rfl⟩
theorem d_c11_law_102 : gD b_c11_law 102 (.iconst 0) 1 103 := ⟨by decide +kernel, rfl⟩
theorem d_c11_law_103 : gD b_c11_law 103 (.putfield 98) 3 106 := ⟨by decide +kernel, rfl⟩
theorem d_c11_law_106 : gD b_c11_law 106 (.aload_n 0) 1 107 := ⟨by decide +kernel, rfl⟩
theorem d_c11_law_107 : gD b_c11_law 107 (.iload 5) 2 109 := ⟨by decide +kernel, rfl⟩
theorem d_c11_law_109 : gD b_c11_law 109 .i2l 1 110 := ⟨by decide +kernel, rfl⟩
theorem d_c11_law_110 : gD b_c11_law 110 (.invokevirtual 268) 3 113 := ⟨by decide +kernel, rfl⟩
theorem d_c11_law_113 : gD b_c11_law 113 (.aload_n 0) 1 114 := ⟨by decide +kernel, rfl⟩
theorem d_c11_law_114 : gD b_c11_law 114 (.iload_n 2) 1 115 := ⟨by decide +kernel, rfl⟩
theorem d_c11_law_115 : gD b_c11_law 115 .i2l 1 116 := ⟨by decide +kernel, rfl⟩
theorem d_c11_law_116 : gD b_c11_law 116 (.invokevirtual 268) 3 119 := ⟨by decide +kernel, rfl⟩
theorem d_c11_law_119 : gD b_c11_law 119 (.iload 5) 2 121 := ⟨by decide +kernel, rfl⟩
theorem d_c11_law_121 : gD b_c11_law 121 (.iload_n 2) 1 122 := ⟨by decide +kernel, rfl⟩
theorem d_c11_law_122 : gD b_c11_law 122 .isub 1 123 := ⟨by decide +kernel, rfl⟩
theorem d_c11_law_123 : gD b_c11_law 123 .ireturn 1 124 := ⟨by decide +kernel, rfl⟩
def lp_c11_law_58 (N : Nat) (a0 : Nat) (x1 : Int32) : Nat → Int32 → gH → Option (gH)
  | 0, _, _ => none
  | k + 1, x5, h =>
  if x1 ≤ x5 then
    some h
  else
    (gfR h a0 11 17).bind fun v12 =>
    (gfR h a0 11 6).bind fun v13 =>
    (gaB h v13 x5).bind fun v14 =>
    (saB h v12 x5 v14).bind fun h15 =>
    lp_c11_law_58 N a0 x1 k (x5 + (1 : Int32)) h15
def f_c11_law (N : Nat) (a0 : Nat) (h : gH) : Option (Int32 × gH) :=
  (gcl h a0 11).bind fun _ =>
  (sf h a0 11 10 (.int (0 : Int32))).bind fun h1 =>
    (gfI h1 a0 11 7).bind fun v2 =>
    (f_c11_readRule N a0 h1).bind fun q3 =>
    if q3.1 = 0 then
    (gfI q3.2 a0 11 15).bind fun v23 =>
    some ((-10000 : Int32) - v23, q3.2)
  else
    (f_c11_parchedIn10 N a0 q3.2).bind fun q5 =>
    (gfR q5.2 a0 11 17).bind fun v6 =>
    (gfI q5.2 a0 11 19).bind fun v7 =>
    (gfR q5.2 a0 11 18).bind fun v8 =>
    (sf q5.2 a0 11 17 (.ref v8)).bind fun h9 =>
    (sf h9 a0 11 19 (.int v2)).bind fun h10 =>
    (lp_c11_law_58 N a0 v2 N (0 : Int32) h10).bind fun o16 =>
    (f_c11_parchedIn10 N a0 o16).bind fun q17 =>
    (sf q17.2 a0 11 17 (.ref v6)).bind fun h18 =>
    (sf h18 a0 11 19 (.int v7)).bind fun h19 =>
    (sf h19 a0 11 9 (.int (0 : Int32))).bind fun h20 =>
    (f_c11_tell N a0 q17.1.toInt64 h20).bind fun q21 =>
    (f_c11_tell N a0 q5.1.toInt64 q21).bind fun q22 =>
    some (q17.1 - q5.1, q22)
set_option maxHeartbeats 4000000 in
set_option maxRecDepth 100000 in
theorem wlp_c11_law_58 {M : gM} {X : gX} {N : Nat} (hx : gEx X = false) (K : gC M X gN11 b_c11_law 6 (gRm (11 + N) 0 0)) (a0 : Nat) (x1 : Int32) (x2 : Int32) (a3 : Nat) (x4 : Int32) : ∀ (k : Nat) (x5 : Int32) (h : gH) (o : gH), lp_c11_law_58 N a0 x1 k x5 h = some o → gG M X 6 0 0 84 [(0, .ref a0), (2, .int x2), (3, .ref a3), (4, .int x4)] [] o → gG M X 6 0 0 58 [(0, .ref a0), (1, .int x1), (2, .int x2), (3, .ref a3), (4, .int x4), (5, .int x5)] [] h := by
  intro k
  induction k with
  | zero =>
    intro x5 h o hy
    rw [lp_c11_law_58.eq_1] at hy
    cases hy
  | succ k ih =>
    intro x5 h o hy hE
    rw [lp_c11_law_58.eq_2] at hy
    refine g_iload K d_c11_law_58 5 rfl ?_
    refine g_iload_n K d_c11_law_60 1 rfl ?_
    refine g_icmp_ge K d_c11_law_61 (fun c11 => ?_) (fun c11 => ?_)
    · rw [if_pos c11] at hy
      refine g_sub (ls2 := [(0, .ref a0), (2, .int x2), (3, .ref a3), (4, .int x4)]) [0, 2, 3, 4] rfl ?_
      obtain rfl := Option.some.inj hy
      exact hE
    · rw [if_neg c11] at hy
      refine g_aload_n K d_c11_law_64 0 rfl ?_
      obtain ⟨v12, e_v12, hy⟩ := gBd hy
      refine g_getR K fl_c11_37 d_c11_law_65 e_v12 ?_
      refine g_iload K d_c11_law_68 5 rfl ?_
      refine g_aload_n K d_c11_law_70 0 rfl ?_
      obtain ⟨v13, e_v13, hy⟩ := gBd hy
      refine g_getR K fl_c11_26 d_c11_law_71 e_v13 ?_
      refine g_iload K d_c11_law_74 5 rfl ?_
      obtain ⟨v14, e_v14, hy⟩ := gBd hy
      refine g_bald K d_c11_law_76 e_v14 ?_
      obtain ⟨h15, e_h15, hy⟩ := gBd hy
      refine g_bast K d_c11_law_77 e_h15 ?_
      refine g_iinc (ls2 := [(5, .int (x5 + (1 : Int32))), (0, .ref a0), (1, .int x1), (2, .int x2), (3, .ref a3), (4, .int x4)]) (v := 1) K d_c11_law_78 5 rfl (by decide) rfl rfl ?_
      refine g_goto K d_c11_law_81 ?_
      refine g_sub (ls2 := [(0, .ref a0), (1, .int x1), (2, .int x2), (3, .ref a3), (4, .int x4), (5, .int (x5 + (1 : Int32)))]) [1, 2, 3, 4, 5, 0] rfl ?_
      exact ih _ _ _ hy hE
set_option maxHeartbeats 4000000 in
set_option maxRecDepth 100000 in
theorem ct_c11_law (l : Launch) (X : gX) (hx : gEx X = false) (N : Nat) (a0 : Nat) (h : gH) (q : Int32 × gH) (hy : f_c11_law N a0 h = some q) : gRc y_c11_law h a0 ∧ gMi l X y_c11_law b_c11_law 6 .int (11 + N) 0 0 [.ref a0] h q.1 q.2 := by
  unfold f_c11_law at hy
  obtain ⟨u0, e_u0, hy⟩ := gBd hy
  cases u0
  refine ⟨Or.inl ⟨11, _, _, e_u0, rfl⟩, gMet_i (lsx := [(0, .ref a0)]) (by decide) rfl rfl ?_⟩
  intro M hMl K hret
  subst hMl
  refine g_aload_n K d_c11_law_0 0 rfl ?_
  refine g_iconst (v := 0) K d_c11_law_1 (by decide) ?_
  obtain ⟨h1, e_h1, hy⟩ := gBd hy
  refine g_putI K fp_c11_95 d_c11_law_2 e_h1 ?_
  refine g_aload_n K d_c11_law_5 0 rfl ?_
  obtain ⟨v2, e_v2, hy⟩ := gBd hy
  refine g_getI K fl_c11_118 d_c11_law_6 e_v2 ?_
  refine g_istore_n (ls2 := [(1, .int v2), (0, .ref a0)]) K d_c11_law_9 rfl rfl ?_
  refine g_aload_n K d_c11_law_10 1 rfl ?_
  obtain ⟨q3, e_q3, hy⟩ := gBd hy
  refine g_callVi (rest := []) K hx ly_c11_readRule kv_c11_211 d_c11_law_11 (ct_c11_readRule M.2.1 X hx N a0 h1 q3 e_q3) rfl rfl (Nat.le_of_ble_eq_true rfl) (gDep rfl) ⟨Nat.le_refl 0, Nat.le_refl 0⟩ ?_
  refine g_if_ne K d_c11_law_14 (fun c4 => ?_) (fun c4 => ?_)
  · rw [if_neg c4] at hy
    refine g_aload_n K d_c11_law_26 1 rfl ?_
    obtain ⟨q5, e_q5, hy⟩ := gBd hy
    refine g_callVi (rest := []) K hx ly_c11_parchedIn10 kv_c11_372 d_c11_law_27 (ct_c11_parchedIn10 M.2.1 X hx N a0 q3.2 q5 e_q5) rfl rfl (Nat.le_of_ble_eq_true rfl) (gDep rfl) ⟨Nat.le_refl 0, Nat.le_refl 0⟩ ?_
    refine g_istore_n (ls2 := [(2, .int q5.1), (1, .int v2), (0, .ref a0)]) K d_c11_law_30 rfl rfl ?_
    refine g_aload_n K d_c11_law_31 2 rfl ?_
    obtain ⟨v6, e_v6, hy⟩ := gBd hy
    refine g_getR K fl_c11_37 d_c11_law_32 e_v6 ?_
    refine g_astore_n (ls2 := [(3, .ref v6), (2, .int q5.1), (1, .int v2), (0, .ref a0)]) K d_c11_law_35 rfl rfl ?_
    refine g_aload_n K d_c11_law_36 3 rfl ?_
    obtain ⟨v7, e_v7, hy⟩ := gBd hy
    refine g_getI K fl_c11_214 d_c11_law_37 e_v7 ?_
    refine g_istore (ls2 := [(4, .int v7), (3, .ref v6), (2, .int q5.1), (1, .int v2), (0, .ref a0)]) K d_c11_law_40 rfl rfl ?_
    refine g_aload_n K d_c11_law_42 4 rfl ?_
    refine g_aload_n K d_c11_law_43 4 rfl ?_
    obtain ⟨v8, e_v8, hy⟩ := gBd hy
    refine g_getR K fl_c11_40 d_c11_law_44 e_v8 ?_
    obtain ⟨h9, e_h9, hy⟩ := gBd hy
    refine g_putR K fp_c11_37 d_c11_law_47 (fun _ => rfl) (fun _ => rfl) e_h9 ?_
    refine g_aload_n K d_c11_law_50 4 rfl ?_
    refine g_iload_n K d_c11_law_51 3 rfl ?_
    obtain ⟨h10, e_h10, hy⟩ := gBd hy
    refine g_putI K fp_c11_214 d_c11_law_52 e_h10 ?_
    refine g_iconst (v := 0) K d_c11_law_55 (by decide) ?_
    refine g_istore (ls2 := [(5, .int (0 : Int32)), (4, .int v7), (3, .ref v6), (2, .int q5.1), (1, .int v2), (0, .ref a0)]) K d_c11_law_56 rfl rfl ?_
    obtain ⟨o16, e_o16, hy⟩ := gBd hy
    refine g_sub (ls2 := [(0, .ref a0), (1, .int v2), (2, .int q5.1), (3, .ref v6), (4, .int v7), (5, .int (0 : Int32))]) [5, 4, 3, 2, 1, 0] rfl ?_
    refine wlp_c11_law_58 hx K a0 v2 q5.1 v6 v7 N (0 : Int32) h10 o16 e_o16 ?_
    refine g_aload_n K d_c11_law_84 0 rfl ?_
    obtain ⟨q17, e_q17, hy⟩ := gBd hy
    refine g_callVi (rest := []) K hx ly_c11_parchedIn10 kv_c11_372 d_c11_law_85 (ct_c11_parchedIn10 M.2.1 X hx N a0 o16 q17 e_q17) rfl rfl (Nat.le_of_ble_eq_true rfl) (gDep rfl) ⟨Nat.le_refl 0, Nat.le_refl 0⟩ ?_
    refine g_istore (ls2 := [(5, .int q17.1), (0, .ref a0), (2, .int q5.1), (3, .ref v6), (4, .int v7)]) K d_c11_law_88 rfl rfl ?_
    refine g_aload_n K d_c11_law_90 1 rfl ?_
    refine g_aload_n K d_c11_law_91 3 rfl ?_
    obtain ⟨h18, e_h18, hy⟩ := gBd hy
    refine g_putR K fp_c11_37 d_c11_law_92 (fun _ => rfl) (fun _ => rfl) e_h18 ?_
    refine g_aload_n K d_c11_law_95 1 rfl ?_
    refine g_iload K d_c11_law_96 4 rfl ?_
    obtain ⟨h19, e_h19, hy⟩ := gBd hy
    refine g_putI K fp_c11_214 d_c11_law_98 e_h19 ?_
    refine g_aload_n K d_c11_law_101 1 rfl ?_
    refine g_iconst (v := 0) K d_c11_law_102 (by decide) ?_
    obtain ⟨h20, e_h20, hy⟩ := gBd hy
    refine g_putI K fp_c11_98 d_c11_law_103 e_h20 ?_
    refine g_aload_n K d_c11_law_106 1 rfl ?_
    refine g_iload K d_c11_law_107 0 rfl ?_
    refine g_i2l K d_c11_law_109 ?_
    obtain ⟨q21, e_q21, hy⟩ := gBd hy
    refine g_callVv (rest := []) K hx ly_c11_tell kv_c11_268 d_c11_law_110 (ct_c11_tell M.2.1 X hx N a0 q17.1.toInt64 h20 q21 e_q21) rfl rfl (Nat.le_of_ble_eq_true rfl) (gDep rfl) ⟨Nat.le_refl 0, Nat.le_refl 0⟩ ?_
    refine g_aload_n K d_c11_law_113 1 rfl ?_
    refine g_iload_n K d_c11_law_114 2 rfl ?_
    refine g_i2l K d_c11_law_115 ?_
    obtain ⟨q22, e_q22, hy⟩ := gBd hy
    refine g_callVv (rest := []) K hx ly_c11_tell kv_c11_268 d_c11_law_116 (ct_c11_tell M.2.1 X hx N a0 q5.1.toInt64 q21 q22 e_q22) rfl rfl (Nat.le_of_ble_eq_true rfl) (gDep rfl) ⟨Nat.le_refl 0, Nat.le_refl 0⟩ ?_
    refine g_iload K d_c11_law_119 0 rfl ?_
    refine g_iload_n K d_c11_law_121 2 rfl ?_
    refine g_isub K d_c11_law_122 ?_
    obtain rfl := Option.some.inj hy
    exact hret rfl _ _ _ d_c11_law_123
  · rw [if_pos c4] at hy
    refine g_sipush (v := (-10000)) K d_c11_law_17 (by decide) ?_
    refine g_aload_n K d_c11_law_20 1 rfl ?_
    obtain ⟨v23, e_v23, hy⟩ := gBd hy
    refine g_getI K fl_c11_133 d_c11_law_21 e_v23 ?_
    refine g_isub K d_c11_law_24 ?_
    obtain rfl := Option.some.inj hy
    exact hret rfl _ _ _ d_c11_law_25
