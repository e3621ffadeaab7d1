-- c11 rests
theorem d_c11_rests_0 : gD b_c11_rests 0 (.aload_n 0) 1 1 := ⟨by decide +kernel, rfl⟩
theorem d_c11_rests_1 : gD b_c11_rests 1 (.iconst 0) 1 2 := ⟨by decide +kernel, rfl⟩
theorem d_c11_rests_2 : gD b_c11_rests 2 (.putfield 95) 3 5 := ⟨by decide +kernel, rfl⟩
theorem d_c11_rests_5 : gD b_c11_rests 5 (.iload_n 1) 1 6 := ⟨by decide +kernel, rfl⟩
theorem d_c11_rests_6 : gD b_c11_rests 6 (.iconst 0) 1 7 := ⟨by decide +kernel, rfl⟩
theorem d_c11_rests_7 : gD b_c11_rests 7 (.bipush 20) 2 9 := ⟨by decide +kernel, rfl⟩
theorem d_c11_rests_9 : gD b_c11_rests 9 (.invokestatic 105) 3 12 := ⟨by decide +kernel, rfl⟩
theorem d_c11_rests_12 : gJ b_c11_rests 12 (.ifCond .ne 5) 3 5 15 17 := ⟨by decide +kernel, rfl, by decide⟩
theorem d_c11_rests_15 : gD b_c11_rests 15 (.iconst (-1)) 1 16 := ⟨by decide +kernel, rfl⟩
theorem d_c11_rests_16 : gD b_c11_rests 16 .ireturn 1 17 := ⟨by decide +kernel, rfl⟩
theorem d_c11_rests_17 : gD b_c11_rests 17 (.iconst 0) 1 18 := ⟨by decide +kernel, rfl⟩
theorem d_c11_rests_18 : gD b_c11_rests 18 (.istore_n 2) 1 19 := ⟨by decide +kernel, rfl⟩
theorem d_c11_rests_19 : gD b_c11_rests 19 (.aload_n 0) 1 20 := ⟨by decide +kernel, rfl⟩
theorem d_c11_rests_20 : gD b_c11_rests 20 (.iconst 0) 1 21 := ⟨by decide +kernel, rfl⟩
theorem d_c11_rests_21 : gD b_c11_rests 21 (.putfield 98) 3 24 := ⟨by decide +kernel, rfl⟩
theorem d_c11_rests_24 : gD b_c11_rests 24 (.iconst 0) 1 25 := ⟨by decide +kernel, rfl⟩
theorem d_c11_rests_25 : gD b_c11_rests 25 (.istore_n 3) 1 26 := ⟨by decide +kernel, rfl⟩
theorem d_c11_rests_26 : gD b_c11_rests 26 (.iload_n 3) 1 27 := ⟨by decide +kernel, rfl⟩
theorem d_c11_rests_27 : gD b_c11_rests 27 (.bipush 9) 2 29 := ⟨by decide +kernel, rfl⟩
theorem d_c11_rests_29 : gJ b_c11_rests 29 (.if_icmp .gt 68) 3 68 32 97 := ⟨by decide +kernel, rfl, by decide⟩
theorem d_c11_rests_32 : gD b_c11_rests 32 (.iconst 0) 1 33 := ⟨by decide +kernel, rfl⟩
theorem d_c11_rests_33 : gD b_c11_rests 33 (.istore 4) 2 35 := ⟨by decide +kernel, rfl⟩
theorem d_c11_rests_35 : gD b_c11_rests 35 (.iload 4) 2 37 := ⟨by decide +kernel, rfl⟩
theorem d_c11_rests_37 : gD b_c11_rests 37 (.bipush 9) 2 39 := ⟨by decide +kernel, rfl⟩
theorem d_c11_rests_39 : gJ b_c11_rests 39 (.if_icmp .gt 52) 3 52 42 91 := ⟨by decide +kernel, rfl, by decide⟩
theorem d_c11_rests_42 : gD b_c11_rests 42 (.iload_n 3) 1 43 := ⟨by decide +kernel, rfl⟩
theorem d_c11_rests_43 : gD b_c11_rests 43 (.iload 4) 2 45 := ⟨by decide +kernel, rfl⟩
theorem d_c11_rests_45 : gD b_c11_rests 45 (.iload_n 1) 1 46 := ⟨by decide +kernel, rfl⟩
theorem d_c11_rests_46 : gD b_c11_rests 46 (.invokestatic 369) 3 49 := ⟨by decide +kernel, rfl⟩
theorem d_c11_rests_49 : gJ b_c11_rests 49 (.ifCond .eq 36) 3 36 52 85 := ⟨by decide +kernel, rfl, by decide⟩
theorem d_c11_rests_52 : gD b_c11_rests 52 (.iload 4) 2 54 := ⟨by decide +kernel, rfl⟩
theorem d_c11_rests_54 : gD b_c11_rests 54 (.iload_n 3) 1 55 := ⟨by decide +kernel, rfl⟩
theorem d_c11_rests_55 : gD b_c11_rests 55 (.iload_n 1) 1 56 := ⟨by decide +kernel, rfl⟩
theorem d_c11_rests_56 : gD b_c11_rests 56 (.invokestatic 369) 3 59 := ⟨by decide +kernel, rfl⟩
theorem d_c11_rests_59 : gJ b_c11_rests 59 (.ifCond .ne 6) 3 6 62 65 := ⟨by decide +kernel, rfl, by decide⟩
theorem d_c11_rests_62 : gJ b_c11_rests 62 (.goto 23) 3 23 65 85 := ⟨by decide +kernel, rfl, by decide⟩
theorem d_c11_rests_65 : gD b_c11_rests 65 (.iload_n 2) 1 66 := ⟨by decide +kernel, rfl⟩
theorem d_c11_rests_66 : gJ b_c11_rests 66 (.ifCond .ne 16) 3 16 69 82 := ⟨by decide +kernel, rfl, by decide⟩
theorem d_c11_rests_69 : gD b_c11_rests 69 (.aload_n 0) 1 70 := ⟨by decide +kernel, rfl⟩
theorem d_c11_rests_70 : gD b_c11_rests 70 (.iload_n 3) 1 71 := ⟨by decide +kernel, rfl⟩
theorem d_c11_rests_71 : gD b_c11_rests 71 .i2l 1 72 := ⟨by decide +kernel, rfl⟩
theorem d_c11_rests_72 : gD b_c11_rests 72 (.invokevirtual 268) 3 75 := ⟨by decide +kernel, rfl⟩
theorem d_c11_rests_75 : gD b_c11_rests 75 (.aload_n 0) 1 76 := ⟨by decide +kernel, rfl⟩
theorem d_c11_rests_76 : gD b_c11_rests 76 (.iload 4) 2 78 := ⟨by decide +kernel, rfl⟩
theorem d_c11_rests_78 : gD b_c11_rests 78 .i2l 1 79 := ⟨by decide +kernel, rfl⟩
theorem d_c11_rests_79 : gD b_c11_rests 79 (.invokevirtual 268) 3 82 := ⟨by decide +kernel, rfl⟩
theorem d_c11_rests_82 : gD b_c11_rests 82 (.iinc 2 1) 3 85 := ⟨by decide +kernel, rfl⟩
theorem d_c11_rests_85 : gD b_c11_rests 85 (.iinc 4 1) 3 88 := ⟨by decide +kernel, rfl⟩
theorem d_c11_rests_88 : gJ b_c11_rests 88 (.goto (-53)) 3 (-53) 91 35 := ⟨by decide +kernel, rfl, by decide⟩
theorem d_c11_rests_91 : gD b_c11_rests 91 (.iinc 3 1) 3 94 := ⟨by decide +kernel, rfl⟩
theorem d_c11_rests_94 : gJ b_c11_rests 94 (.goto (-68)) 3 (-68) 97 26 := ⟨by decide +kernel, rfl, by decide⟩
theorem d_c11_rests_97 : gD b_c11_rests 97 (.iload_n 2) 1 98 := ⟨by decide +kernel, rfl⟩
theorem d_c11_rests_98 : gD b_c11_rests 98 .ireturn 1 99 := ⟨by decide +kernel, rfl⟩
def lp_c11_rests_35 (N : Nat) (a0 : Nat) (x1 : Int32) (x3 : Int32) : Nat → Int32 → Int32 → gH → Option (Int32 × gH)
  | 0, _, _, _ => none
  | k + 1, x2, x4, h =>
  if (9 : Int32) < x4 then
    some (x2, h)
  else
    (f_c11_isBest N x3 x4 x1 h).bind fun q7 =>
    (show Option (Int32 × gH) from if q7 = 0 then
    some (x2, h)
  else
    (f_c11_isBest N x4 x3 x1 h).bind fun q11 =>
    if q11 = 0 then
    some (x2, h)
  else
    (show Option (gH) from if x2 = 0 then
    (f_c11_tell N a0 x3.toInt64 h).bind fun q16 =>
    (f_c11_tell N a0 x4.toInt64 q16).bind fun q17 =>
    some q17
  else
    some h).bind fun t14 =>
    some (x2 + (1 : Int32), t14)).bind fun t9 =>
    lp_c11_rests_35 N a0 x1 x3 k t9.1 (x4 + (1 : Int32)) t9.2
def lp_c11_rests_26 (N : Nat) (a0 : Nat) (x1 : Int32) : Nat → Int32 → Int32 → gH → Option (Int32 × gH)
  | 0, _, _, _ => none
  | k + 1, x2, x3, h =>
  if (9 : Int32) < x3 then
    some (x2, h)
  else
    (lp_c11_rests_35 N a0 x1 x3 N x2 (0 : Int32) h).bind fun o18 =>
    lp_c11_rests_26 N a0 x1 k o18.1 (x3 + (1 : Int32)) o18.2
def f_c11_rests (N : Nat) (a0 : Nat) (x1 : Int32) (h : gH) : Option (Int32 × gH) :=
  (gcl h a0 11).bind fun _ =>
  (sf h a0 11 10 (.int (0 : Int32))).bind fun h1 =>
    (f_c11_in N x1 (0 : Int32) (20 : Int32) h1).bind fun q2 =>
    if q2 = 0 then
    some ((-1 : Int32), h1)
  else
    (sf h1 a0 11 9 (.int (0 : Int32))).bind fun h4 =>
    (lp_c11_rests_26 N a0 x1 N (0 : Int32) (0 : Int32) h4).bind fun o19 =>
    some (o19.1, o19.2)
set_option maxHeartbeats 4000000 in
set_option maxRecDepth 100000 in
theorem wlp_c11_rests_35 {M : gM} {X : gX} {N : Nat} (hx : gEx X = false) (K : gC M X gN11 b_c11_rests 5 (gRm (4 + N) 0 0)) (a0 : Nat) (x1 : Int32) (x3 : Int32) : ∀ (k : Nat) (x2 : Int32) (x4 : Int32) (h : gH) (o : Int32 × gH), lp_c11_rests_35 N a0 x1 x3 k x2 x4 h = some o → gG M X 5 0 0 91 [(0, .ref a0), (1, .int x1), (2, .int o.1), (3, .int x3)] [] o.2 → gG M X 5 0 0 35 [(0, .ref a0), (1, .int x1), (2, .int x2), (3, .int x3), (4, .int x4)] [] h := by
  intro k
  induction k with
  | zero =>
    intro x2 x4 h o hy
    rw [lp_c11_rests_35.eq_1] at hy
    cases hy
  | succ k ih =>
    intro x2 x4 h o hy hE
    rw [lp_c11_rests_35.eq_2] at hy
    refine g_iload K d_c11_rests_35 4 rfl ?_
    refine g_bipush (v := 9) K d_c11_rests_37 (by decide) ?_
    refine g_icmp_gt K d_c11_rests_39 (fun c6 => ?_) (fun c6 => ?_)
    · rw [if_pos c6] at hy
      refine g_sub (ls2 := [(0, .ref a0), (1, .int x1), (2, .int x2), (3, .int x3)]) [0, 1, 2, 3] rfl ?_
      obtain rfl := Option.some.inj hy
      exact hE
    · rw [if_neg c6] at hy
      refine g_iload_n K d_c11_rests_42 3 rfl ?_
      refine g_iload K d_c11_rests_43 4 rfl ?_
      refine g_iload_n K d_c11_rests_45 1 rfl ?_
      obtain ⟨q7, e_q7, hy⟩ := gBd hy
      refine g_callSi (rest := []) K hx ly_c11_isBest ks_c11_369 d_c11_rests_46 (ct_c11_isBest M.2.1 X hx N x3 x4 x1 h q7 e_q7) rfl rfl (Nat.le_of_ble_eq_true rfl) (gDep rfl) ⟨Nat.le_refl 0, Nat.le_refl 0⟩ ?_
      obtain ⟨t9, e_t9, hy⟩ := gBd hy
      have hJ10 : gG M X 5 0 0 85 [(0, .ref a0), (1, .int x1), (2, .int t9.1), (3, .int x3), (4, .int x4)] [] t9.2 := by
        refine g_iinc (ls2 := [(4, .int (x4 + (1 : Int32))), (0, .ref a0), (1, .int x1), (2, .int t9.1), (3, .int x3)]) (v := 1) K d_c11_rests_85 4 rfl (by decide) rfl rfl ?_
        refine g_goto K d_c11_rests_88 ?_
        refine g_sub (ls2 := [(0, .ref a0), (1, .int x1), (2, .int t9.1), (3, .int x3), (4, .int (x4 + (1 : Int32)))]) [1, 2, 3, 4, 0] rfl ?_
        exact ih _ _ _ _ hy hE
      refine g_if_eq K d_c11_rests_49 (fun c8 => ?_) (fun c8 => ?_)
      · rw [if_pos c8] at e_t9
        obtain rfl := Option.some.inj e_t9
        exact hJ10
      · rw [if_neg c8] at e_t9
        refine g_iload K d_c11_rests_52 4 rfl ?_
        refine g_iload_n K d_c11_rests_54 3 rfl ?_
        refine g_iload_n K d_c11_rests_55 1 rfl ?_
        obtain ⟨q11, e_q11, e_t9⟩ := gBd e_t9
        refine g_callSi (rest := []) K hx ly_c11_isBest ks_c11_369 d_c11_rests_56 (ct_c11_isBest M.2.1 X hx N x4 x3 x1 h q11 e_q11) rfl rfl (Nat.le_of_ble_eq_true rfl) (gDep rfl) ⟨Nat.le_refl 0, Nat.le_refl 0⟩ ?_
        refine g_if_ne K d_c11_rests_59 (fun c12 => ?_) (fun c12 => ?_)
        · rw [if_neg c12] at e_t9
          refine g_iload_n K d_c11_rests_65 2 rfl ?_
          obtain ⟨t14, e_t14, e_t9⟩ := gBd e_t9
          have hJ15 : gG M X 5 0 0 82 [(0, .ref a0), (1, .int x1), (2, .int x2), (3, .int x3), (4, .int x4)] [] t14 := by
            refine g_iinc (ls2 := [(2, .int (x2 + (1 : Int32))), (0, .ref a0), (1, .int x1), (3, .int x3), (4, .int x4)]) (v := 1) K d_c11_rests_82 2 rfl (by decide) rfl rfl ?_
            refine g_sub (ls2 := [(0, .ref a0), (1, .int x1), (2, .int (x2 + (1 : Int32))), (3, .int x3), (4, .int x4)]) [1, 2, 0, 3, 4] rfl ?_
            obtain rfl := Option.some.inj e_t9
            exact hJ10
          refine g_if_ne K d_c11_rests_66 (fun c13 => ?_) (fun c13 => ?_)
          · rw [if_neg c13] at e_t14
            obtain rfl := Option.some.inj e_t14
            exact hJ15
          · rw [if_pos c13] at e_t14
            refine g_aload_n K d_c11_rests_69 0 rfl ?_
            refine g_iload_n K d_c11_rests_70 3 rfl ?_
            refine g_i2l K d_c11_rests_71 ?_
            obtain ⟨q16, e_q16, e_t14⟩ := gBd e_t14
            refine g_callVv (rest := []) K hx ly_c11_tell kv_c11_268 d_c11_rests_72 (ct_c11_tell M.2.1 X hx N a0 x3.toInt64 h q16 e_q16) rfl rfl (Nat.le_of_ble_eq_true rfl) (gDep rfl) ⟨Nat.le_refl 0, Nat.le_refl 0⟩ ?_
            refine g_aload_n K d_c11_rests_75 0 rfl ?_
            refine g_iload K d_c11_rests_76 4 rfl ?_
            refine g_i2l K d_c11_rests_78 ?_
            obtain ⟨q17, e_q17, e_t14⟩ := gBd e_t14
            refine g_callVv (rest := []) K hx ly_c11_tell kv_c11_268 d_c11_rests_79 (ct_c11_tell M.2.1 X hx N a0 x4.toInt64 q16 q17 e_q17) rfl rfl (Nat.le_of_ble_eq_true rfl) (gDep rfl) ⟨Nat.le_refl 0, Nat.le_refl 0⟩ ?_
            obtain rfl := Option.some.inj e_t14
            exact hJ15
        · rw [if_pos c12] at e_t9
          refine g_goto K d_c11_rests_62 ?_
          obtain rfl := Option.some.inj e_t9
          exact hJ10
set_option maxHeartbeats 4000000 in
set_option maxRecDepth 100000 in
theorem wlp_c11_rests_26 {M : gM} {X : gX} {N : Nat} (hx : gEx X = false) (K : gC M X gN11 b_c11_rests 5 (gRm (4 + N) 0 0)) (a0 : Nat) (x1 : Int32) : ∀ (k : Nat) (x2 : Int32) (x3 : Int32) (h : gH) (o : Int32 × gH), lp_c11_rests_26 N a0 x1 k x2 x3 h = some o → gG M X 5 0 0 97 [(2, .int o.1)] [] o.2 → gG M X 5 0 0 26 [(0, .ref a0), (1, .int x1), (2, .int x2), (3, .int x3)] [] h := by
  intro k
  induction k with
  | zero =>
    intro x2 x3 h o hy
    rw [lp_c11_rests_26.eq_1] at hy
    cases hy
  | succ k ih =>
    intro x2 x3 h o hy hE
    rw [lp_c11_rests_26.eq_2] at hy
    refine g_iload_n K d_c11_rests_26 3 rfl ?_
    refine g_bipush (v := 9) K d_c11_rests_27 (by decide) ?_
    refine g_icmp_gt K d_c11_rests_29 (fun c5 => ?_) (fun c5 => ?_)
    · rw [if_pos c5] at hy
      refine g_sub (ls2 := [(2, .int x2)]) [2] rfl ?_
      obtain rfl := Option.some.inj hy
      exact hE
    · rw [if_neg c5] at hy
      refine g_iconst (v := 0) K d_c11_rests_32 (by decide) ?_
      refine g_istore (ls2 := [(4, .int (0 : Int32)), (0, .ref a0), (1, .int x1), (2, .int x2), (3, .int x3)]) K d_c11_rests_33 rfl rfl ?_
      obtain ⟨o18, e_o18, hy⟩ := gBd hy
      refine g_sub (ls2 := [(0, .ref a0), (1, .int x1), (2, .int x2), (3, .int x3), (4, .int (0 : Int32))]) [1, 2, 3, 4, 0] rfl ?_
      refine wlp_c11_rests_35 hx K a0 x1 x3 N x2 (0 : Int32) h o18 e_o18 ?_
      refine g_iinc (ls2 := [(3, .int (x3 + (1 : Int32))), (0, .ref a0), (1, .int x1), (2, .int o18.1)]) (v := 1) K d_c11_rests_91 3 rfl (by decide) rfl rfl ?_
      refine g_goto K d_c11_rests_94 ?_
      refine g_sub (ls2 := [(0, .ref a0), (1, .int x1), (2, .int o18.1), (3, .int (x3 + (1 : Int32)))]) [1, 2, 3, 0] rfl ?_
      exact ih _ _ _ _ hy hE
set_option maxHeartbeats 4000000 in
set_option maxRecDepth 100000 in
theorem ct_c11_rests (l : Launch) (X : gX) (hx : gEx X = false) (N : Nat) (a0 : Nat) (x1 : Int32) (h : gH) (q : Int32 × gH) (hy : f_c11_rests N a0 x1 h = some q) : gRc y_c11_rests h a0 ∧ gMi l X y_c11_rests b_c11_rests 5 .int (4 + N) 0 0 [.ref a0, .int x1] h q.1 q.2 := by
  unfold f_c11_rests at hy
  obtain ⟨u0, e_u0, hy⟩ := gBd hy
  cases u0
  refine ⟨Or.inl ⟨11, _, _, e_u0, rfl⟩, gMet_i (lsx := [(0, .ref a0), (1, .int x1)]) (by decide) rfl rfl ?_⟩
  intro M hMl K hret
  subst hMl
  refine g_aload_n K d_c11_rests_0 0 rfl ?_
  refine g_iconst (v := 0) K d_c11_rests_1 (by decide) ?_
  obtain ⟨h1, e_h1, hy⟩ := gBd hy
  refine g_putI K fp_c11_95 d_c11_rests_2 e_h1 ?_
  refine g_iload_n K d_c11_rests_5 1 rfl ?_
  refine g_iconst (v := 0) K d_c11_rests_6 (by decide) ?_
  refine g_bipush (v := 20) K d_c11_rests_7 (by decide) ?_
  obtain ⟨q2, e_q2, hy⟩ := gBd hy
  refine g_callSi (rest := []) K hx ly_c11_in ks_c11_105 d_c11_rests_9 (ct_c11_in M.2.1 X hx N x1 (0 : Int32) (20 : Int32) h1 q2 e_q2) rfl rfl (Nat.le_of_ble_eq_true rfl) (gDep rfl) ⟨Nat.le_refl 0, Nat.le_refl 0⟩ ?_
  refine g_if_ne K d_c11_rests_12 (fun c3 => ?_) (fun c3 => ?_)
  · rw [if_neg c3] at hy
    refine g_iconst (v := 0) K d_c11_rests_17 (by decide) ?_
    refine g_istore_n (ls2 := [(2, .int (0 : Int32)), (0, .ref a0), (1, .int x1)]) K d_c11_rests_18 rfl rfl ?_
    refine g_aload_n K d_c11_rests_19 1 rfl ?_
    refine g_iconst (v := 0) K d_c11_rests_20 (by decide) ?_
    obtain ⟨h4, e_h4, hy⟩ := gBd hy
    refine g_putI K fp_c11_98 d_c11_rests_21 e_h4 ?_
    refine g_iconst (v := 0) K d_c11_rests_24 (by decide) ?_
    refine g_istore_n (ls2 := [(3, .int (0 : Int32)), (2, .int (0 : Int32)), (0, .ref a0), (1, .int x1)]) K d_c11_rests_25 rfl rfl ?_
    obtain ⟨o19, e_o19, hy⟩ := gBd hy
    refine g_sub (ls2 := [(0, .ref a0), (1, .int x1), (2, .int (0 : Int32)), (3, .int (0 : Int32))]) [2, 3, 1, 0] rfl ?_
    refine wlp_c11_rests_26 hx K a0 x1 N (0 : Int32) (0 : Int32) h4 o19 e_o19 ?_
    refine g_iload_n K d_c11_rests_97 0 rfl ?_
    obtain rfl := Option.some.inj hy
    exact hret rfl _ _ _ d_c11_rests_98
  · rw [if_pos c3] at hy
    refine g_iconst (v := (-1)) K d_c11_rests_15 (by decide) ?_
    obtain rfl := Option.some.inj hy
    exact hret rfl _ _ _ d_c11_rests_16
-- c11 route
theorem d_c11_route_0 : gD b_c11_route 0 (.aload_n 0) 1 1 := ⟨by decide +kernel, rfl⟩
theorem d_c11_route_1 : gD b_c11_route 1 (.iconst 0) 1 2 := ⟨by decide +kernel, rfl⟩
theorem d_c11_route_2 : gD b_c11_route 2 (.putfield 95) 3 5 := ⟨by decide +kernel, rfl⟩
theorem d_c11_route_5 : gD b_c11_route 5 (.aload_n 0) 1 6 := ⟨by decide +kernel, rfl⟩
theorem d_c11_route_6 : gD b_c11_route 6 (.iload_n 1) 1 7 := ⟨by decide +kernel, rfl⟩
theorem d_c11_route_7 : gD b_c11_route 7 (.invokevirtual 233) 3 10 := ⟨by decide +kernel, rfl⟩
theorem d_c11_route_10 : gJ b_c11_route 10 (.ifCond .eq 21) 3 21 13 31 := ⟨by decide +kernel, rfl, by decide⟩
theorem d_c11_route_13 : gD b_c11_route 13 (.aload_n 0) 1 14 := ⟨by decide +kernel, rfl⟩
theorem d_c11_route_14 : gD b_c11_route 14 (.iload_n 2) 1 15 := ⟨by decide +kernel, rfl⟩
theorem d_c11_route_15 : gD b_c11_route 15 (.invokevirtual 233) 3 18 := ⟨by decide +kernel, rfl⟩
theorem d_c11_route_18 : gJ b_c11_route 18 (.ifCond .eq 13) 3 13 21 31 := ⟨by decide +kernel, rfl, by decide⟩
theorem d_c11_route_21 : gD b_c11_route 21 (.iload_n 3) 1 22 := ⟨by decide +kernel, rfl⟩
theorem d_c11_route_22 : gD b_c11_route 22 (.iconst 0) 1 23 := ⟨by decide +kernel, rfl⟩
theorem d_c11_route_23 : gD b_c11_route 23 (.bipush 10) 2 25 := ⟨by decide +kernel, rfl⟩
theorem d_c11_route_25 : gD b_c11_route 25 (.invokestatic 105) 3 28 := ⟨by decide +kernel, rfl⟩
theorem d_c11_route_28 : gJ b_c11_route 28 (.ifCond .ne 5) 3 5 31 33 := ⟨by decide +kernel, rfl, by decide⟩
theorem d_c11_route_31 : gD b_c11_route 31 (.iconst (-1)) 1 32 := ⟨by decide +kernel, rfl⟩
theorem d_c11_route_32 : gD b_c11_route 32 .ireturn 1 33 := ⟨by decide +kernel, rfl⟩
theorem d_c11_route_33 : gD b_c11_route 33 (.aload_n 0) 1 34 := ⟨by decide +kernel, rfl⟩
theorem d_c11_route_34 : gD b_c11_route 34 (.iload_n 2) 1 35 := ⟨by decide +kernel, rfl⟩
theorem d_c11_route_35 : gD b_c11_route 35 (.iload_n 3) 1 36 := ⟨by decide +kernel, rfl⟩
theorem d_c11_route_36 : gD b_c11_route 36 (.invokevirtual 322) 3 39 := ⟨by decide +kernel, rfl⟩
theorem d_c11_route_39 : gD b_c11_route 39 (.aload_n 0) 1 40 := ⟨by decide +kernel, rfl⟩
theorem d_c11_route_40 : gD b_c11_route 40 (.getfield 70) 3 43 := ⟨by decide +kernel, rfl⟩
theorem d_c11_route_43 : gD b_c11_route 43 (.iload_n 1) 1 44 := ⟨by decide +kernel, rfl⟩
theorem d_c11_route_44 : gD b_c11_route 44 .iaload 1 45 := ⟨by decide +kernel, rfl⟩
theorem d_c11_route_45 : gD b_c11_route 45 (.ldc_w 311) 3 48 := ⟨by decide +kernel, rfl⟩
theorem d_c11_route_48 : gJ b_c11_route 48 (.if_icmp .lt 6) 3 6 51 54 := ⟨by decide +kernel, rfl, by decide⟩
theorem d_c11_route_51 : gD b_c11_route 51 (.bipush (-2)) 2 53 := ⟨by decide +kernel, rfl⟩
theorem d_c11_route_53 : gD b_c11_route 53 .ireturn 1 54 := ⟨by decide +kernel, rfl⟩
theorem d_c11_route_54 : gD b_c11_route 54 (.aload_n 0) 1 55 := ⟨by decide +kernel, rfl⟩
theorem d_c11_route_55 : gD b_c11_route 55 (.iconst 0) 1 56 := ⟨by decide +kernel, rfl⟩
theorem d_c11_route_56 : gD b_c11_route 56 (.putfield 98) 3 59 := ⟨by decide +kernel, rfl⟩
theorem d_c11_route_59 : gD b_c11_route 59 (.aload_n 0) 1 60 := ⟨by decide +kernel, rfl⟩
theorem d_c11_route_60 : gD b_c11_route 60 (.iload_n 1) 1 61 := ⟨by decide +kernel, rfl⟩
theorem d_c11_route_61 : gD b_c11_route 61 .i2l 1 62 := ⟨by decide +kernel, rfl⟩
theorem d_c11_route_62 : gD b_c11_route 62 (.invokevirtual 268) 3 65 := ⟨by decide +kernel, rfl⟩
theorem d_c11_route_65 : gD b_c11_route 65 (.iload_n 1) 1 66 := ⟨by decide +kernel, rfl⟩
theorem d_c11_route_66 : gD b_c11_route 66 (.istore 4) 2 68 := ⟨by decide +kernel, rfl⟩
theorem d_c11_route_68 : gD b_c11_route 68 (.iload 4) 2 70 := ⟨by decide +kernel, rfl⟩
theorem d_c11_route_70 : gD b_c11_route 70 (.iload_n 2) 1 71 := ⟨by decide +kernel, rfl⟩
theorem d_c11_route_71 : gJ b_c11_route 71 (.if_icmp .eq 74) 3 74 74 145 := ⟨by decide +kernel, rfl, by decide⟩
theorem d_c11_route_74 : gD b_c11_route 74 (.iconst 0) 1 75 := ⟨by decide +kernel, rfl⟩
theorem d_c11_route_75 : gD b_c11_route 75 (.istore 5) 2 77 := ⟨by decide +kernel, rfl⟩
theorem d_c11_route_77 : gD b_c11_route 77 (.iload 5) 2 79 := ⟨by decide +kernel, rfl⟩
theorem d_c11_route_79 : gD b_c11_route 79 (.iload 4) 2 81 := ⟨by decide +kernel, rfl⟩
theorem d_c11_route_81 : gJ b_c11_route 81 (.if_icmp .eq 44) 3 44 84 125 := ⟨by decide +kernel, rfl, by decide⟩
theorem d_c11_route_84 : gD b_c11_route 84 (.aload_n 0) 1 85 := ⟨by decide +kernel, rfl⟩
theorem d_c11_route_85 : gD b_c11_route 85 (.aload_n 0) 1 86 := ⟨by decide +kernel, rfl⟩
theorem d_c11_route_86 : gD b_c11_route 86 (.getfield 9) 3 89 := ⟨by decide +kernel, rfl⟩
theorem d_c11_route_89 : gD b_c11_route 89 (.iload 4) 2 91 := ⟨by decide +kernel, rfl⟩
theorem d_c11_route_91 : gD b_c11_route 91 .iaload 1 92 := ⟨by decide +kernel, rfl⟩
theorem d_c11_route_92 : gD b_c11_route 92 (.aload_n 0) 1 93 := ⟨by decide +kernel, rfl⟩
theorem d_c11_route_93 : gD b_c11_route 93 (.getfield 9) 3 96 := ⟨by decide +kernel, rfl⟩
theorem d_c11_route_96 : gD b_c11_route 96 (.iload 5) 2 98 := ⟨by decide +kernel, rfl⟩
theorem d_c11_route_98 : gD b_c11_route 98 .iaload 1 99 := ⟨by decide +kernel, rfl⟩
theorem d_c11_route_99 : gD b_c11_route 99 (.invokevirtual 220) 3 102 := ⟨by decide +kernel, rfl⟩
theorem d_c11_route_102 : gD b_c11_route 102 (.iload_n 3) 1 103 := ⟨by decide +kernel, rfl⟩
theorem d_c11_route_103 : gJ b_c11_route 103 (.if_icmp .gt 22) 3 22 106 125 := ⟨by decide +kernel, rfl, by decide⟩
theorem d_c11_route_106 : gD b_c11_route 106 (.aload_n 0) 1 107 := ⟨by decide +kernel, rfl⟩
theorem d_c11_route_107 : gD b_c11_route 107 (.getfield 70) 3 110 := ⟨by decide +kernel, rfl⟩
theorem d_c11_route_110 : gD b_c11_route 110 (.iload 5) 2 112 := ⟨by decide +kernel, rfl⟩
theorem d_c11_route_112 : gD b_c11_route 112 .iaload 1 113 := ⟨by decide +kernel, rfl⟩
theorem d_c11_route_113 : gD b_c11_route 113 (.aload_n 0) 1 114 := ⟨by decide +kernel, rfl⟩
theorem d_c11_route_114 : gD b_c11_route 114 (.getfield 70) 3 117 := ⟨by decide +kernel, rfl⟩
theorem d_c11_route_117 : gD b_c11_route 117 (.iload 4) 2 119 := ⟨by decide +kernel, rfl⟩
theorem d_c11_route_119 : gD b_c11_route 119 .iaload 1 120 := ⟨by decide +kernel, rfl⟩
theorem d_c11_route_120 : gD b_c11_route 120 (.iconst 1) 1 121 := ⟨by decide +kernel, rfl⟩
theorem d_c11_route_121 : gD b_c11_route 121 .isub 1 122 := ⟨by decide +kernel, rfl⟩
theorem d_c11_route_122 : gJ b_c11_route 122 (.if_icmp .eq 9) 3 9 125 131 := ⟨by decide +kernel, rfl, by decide⟩
theorem d_c11_route_125 : gD b_c11_route 125 (.iinc 5 1) 3 128 := ⟨by decide +kernel, rfl⟩
theorem d_c11_route_128 : gJ b_c11_route 128 (.goto (-51)) 3 (-51) 131 77 := ⟨by decide +kernel, rfl, by decide⟩
theorem d_c11_route_131 : gD b_c11_route 131 (.iload 5) 2 133 := ⟨by decide +kernel, rfl⟩
theorem d_c11_route_133 : gD b_c11_route 133 (.istore 4) 2 135 := ⟨by decide +kernel, rfl⟩
theorem d_c11_route_135 : gD b_c11_route 135 (.aload_n 0) 1 136 := ⟨by decide +kernel, rfl⟩
theorem d_c11_route_136 : gD b_c11_route 136 (.iload 4) 2 138 := ⟨by decide +kernel, rfl⟩
theorem d_c11_route_138 : gD b_c11_route 138 .i2l 1 139 := ⟨by decide +kernel, rfl⟩
theorem d_c11_route_139 : gD b_c11_route 139 (.invokevirtual 268) 3 142 := ⟨by decide +kernel, rfl⟩
theorem d_c11_route_142 : gJ b_c11_route 142 (.goto (-74)) 3 (-74) 145 68 := ⟨by decide +kernel, rfl, by decide⟩
theorem d_c11_route_145 : gD b_c11_route 145 (.aload_n 0) 1 146 := ⟨by decide +kernel, rfl⟩
theorem d_c11_route_146 : gD b_c11_route 146 (.getfield 70) 3 149 := ⟨by decide +kernel, rfl⟩
theorem d_c11_route_149 : gD b_c11_route 149 (.iload_n 1) 1 150 := ⟨by decide +kernel, rfl⟩
theorem d_c11_route_150 : gD b_c11_route 150 .iaload 1 151 := ⟨by decide +kernel, rfl⟩
theorem d_c11_route_151 : gD b_c11_route 151 .ireturn 1 152 := ⟨by decide +kernel, rfl⟩
def lp_c11_route_77 (N : Nat) (a0 : Nat) (x3 : Int32) (x4 : Int32) (h : gH) : Nat → Int32 → Option (Int32)
  | 0, _ => none
  | k + 1, x5 =>
  if x5 = x4 then
    lp_c11_route_77 N a0 x3 x4 h k (x5 + (1 : Int32))
  else
    (gfR h a0 11 0).bind fun v16 =>
    (ga 0 h v16 x4).bind fun v17 =>
    (gfR h a0 11 0).bind fun v18 =>
    (ga 0 h v18 x5).bind fun v19 =>
    (f_c11_farOf N a0 v17 v19 h).bind fun q20 =>
    if x3 < q20 then
    lp_c11_route_77 N a0 x3 x4 h k (x5 + (1 : Int32))
  else
    (gfR h a0 11 31).bind fun v22 =>
    (ga 0 h v22 x5).bind fun v23 =>
    (gfR h a0 11 31).bind fun v24 =>
    (ga 0 h v24 x4).bind fun v25 =>
    if v23 = (v25 - (1 : Int32)) then
    some x5
  else
    lp_c11_route_77 N a0 x3 x4 h k (x5 + (1 : Int32))
def lp_c11_route_68 (N : Nat) (a0 : Nat) (x2 : Int32) (x3 : Int32) : Nat → Int32 → gH → Option (gH)
  | 0, _, _ => none
  | k + 1, x4, h =>
  if x4 = x2 then
    some h
  else
    (lp_c11_route_77 N a0 x3 x4 h N (0 : Int32)).bind fun o27 =>
    (f_c11_tell N a0 o27.toInt64 h).bind fun q28 =>
    lp_c11_route_68 N a0 x2 x3 k o27 q28
def f_c11_route (N : Nat) (a0 : Nat) (x1 : Int32) (x2 : Int32) (x3 : Int32) (h : gH) : Option (Int32 × gH) :=
  (gcl h a0 11).bind fun _ =>
  (sf h a0 11 10 (.int (0 : Int32))).bind fun h1 =>
    (f_c11_isWell N a0 x1 h1).bind fun q2 =>
    if q2 = 0 then
    some ((-1 : Int32), h1)
  else
    (f_c11_isWell N a0 x2 h1).bind fun q4 =>
    if q4 = 0 then
    some ((-1 : Int32), h1)
  else
    (f_c11_in N x3 (0 : Int32) (10 : Int32) h1).bind fun q6 =>
    if q6 = 0 then
    some ((-1 : Int32), h1)
  else
    (f_c11_laySteps N a0 x2 x3 h1).bind fun q8 =>
    (gfR q8 a0 11 31).bind fun v9 =>
    (ga 0 q8 v9 x1).bind fun v10 =>
    if v10 < (1000000 : Int32) then
    (sf q8 a0 11 9 (.int (0 : Int32))).bind fun h12 =>
    (f_c11_tell N a0 x1.toInt64 h12).bind fun q13 =>
    (lp_c11_route_68 N a0 x2 x3 N x1 q13).bind fun o29 =>
    (gfR o29 a0 11 31).bind fun v30 =>
    (ga 0 o29 v30 x1).bind fun v31 =>
    some (v31, o29)
  else
    some ((-2 : Int32), q8)
set_option maxHeartbeats 4000000 in
set_option maxRecDepth 100000 in
theorem wlp_c11_route_77 {M : gM} {X : gX} {N : Nat} (hx : gEx X = false) (K : gC M X gN11 b_c11_route 6 (gRm (4 + N) 0 0)) (a0 : Nat) (x3 : Int32) (x4 : Int32) (x1 : Int32) (x2 : Int32) (h : gH) : ∀ (k : Nat) (x5 : Int32) (o : Int32), lp_c11_route_77 N a0 x3 x4 h k x5 = some o → gG M X 6 0 0 131 [(0, .ref a0), (1, .int x1), (2, .int x2), (3, .int x3), (5, .int o)] [] h → gG M X 6 0 0 77 [(0, .ref a0), (1, .int x1), (2, .int x2), (3, .int x3), (4, .int x4), (5, .int x5)] [] h := by
  intro k
  induction k with
  | zero =>
    intro x5 o hy
    rw [lp_c11_route_77.eq_1] at hy
    cases hy
  | succ k ih =>
    intro x5 o hy hE
    rw [lp_c11_route_77.eq_2] at hy
    refine g_iload K d_c11_route_77 5 rfl ?_
    refine g_iload K d_c11_route_79 4 rfl ?_
    refine g_icmp_eq K d_c11_route_81 (fun c15 => ?_) (fun c15 => ?_)
    · rw [if_pos c15] at hy
      refine g_iinc (ls2 := [(5, .int (x5 + (1 : Int32))), (0, .ref a0), (1, .int x1), (2, .int x2), (3, .int x3), (4, .int x4)]) (v := 1) K d_c11_route_125 5 rfl (by decide) rfl rfl ?_
      refine g_goto K d_c11_route_128 ?_
      refine g_sub (ls2 := [(0, .ref a0), (1, .int x1), (2, .int x2), (3, .int x3), (4, .int x4), (5, .int (x5 + (1 : Int32)))]) [1, 2, 3, 4, 5, 0] rfl ?_
      exact ih _ _ hy hE
    · rw [if_neg c15] at hy
      refine g_aload_n K d_c11_route_84 0 rfl ?_
      refine g_aload_n K d_c11_route_85 0 rfl ?_
      obtain ⟨v16, e_v16, hy⟩ := gBd hy
      refine g_getR K fl_c11_9 d_c11_route_86 e_v16 ?_
      refine g_iload K d_c11_route_89 4 rfl ?_
      obtain ⟨v17, e_v17, hy⟩ := gBd hy
      refine g_iald K d_c11_route_91 e_v17 ?_
      refine g_aload_n K d_c11_route_92 0 rfl ?_
      obtain ⟨v18, e_v18, hy⟩ := gBd hy
      refine g_getR K fl_c11_9 d_c11_route_93 e_v18 ?_
      refine g_iload K d_c11_route_96 5 rfl ?_
      obtain ⟨v19, e_v19, hy⟩ := gBd hy
      refine g_iald K d_c11_route_98 e_v19 ?_
      obtain ⟨q20, e_q20, hy⟩ := gBd hy
      refine g_callVi (rest := []) K hx ly_c11_farOf kv_c11_220 d_c11_route_99 (ct_c11_farOf M.2.1 X hx N a0 v17 v19 h q20 e_q20) rfl rfl (Nat.le_of_ble_eq_true rfl) (gDep rfl) ⟨Nat.le_refl 0, Nat.le_refl 0⟩ ?_
      refine g_iload_n K d_c11_route_102 3 rfl ?_
      refine g_icmp_gt K d_c11_route_103 (fun c21 => ?_) (fun c21 => ?_)
      · rw [if_pos c21] at hy
        refine g_iinc (ls2 := [(5, .int (x5 + (1 : Int32))), (0, .ref a0), (1, .int x1), (2, .int x2), (3, .int x3), (4, .int x4)]) (v := 1) K d_c11_route_125 5 rfl (by decide) rfl rfl ?_
        refine g_goto K d_c11_route_128 ?_
        refine g_sub (ls2 := [(0, .ref a0), (1, .int x1), (2, .int x2), (3, .int x3), (4, .int x4), (5, .int (x5 + (1 : Int32)))]) [1, 2, 3, 4, 5, 0] rfl ?_
        exact ih _ _ hy hE
      · rw [if_neg c21] at hy
        refine g_aload_n K d_c11_route_106 0 rfl ?_
        obtain ⟨v22, e_v22, hy⟩ := gBd hy
        refine g_getR K fl_c11_70 d_c11_route_107 e_v22 ?_
        refine g_iload K d_c11_route_110 5 rfl ?_
        obtain ⟨v23, e_v23, hy⟩ := gBd hy
        refine g_iald K d_c11_route_112 e_v23 ?_
        refine g_aload_n K d_c11_route_113 0 rfl ?_
        obtain ⟨v24, e_v24, hy⟩ := gBd hy
        refine g_getR K fl_c11_70 d_c11_route_114 e_v24 ?_
        refine g_iload K d_c11_route_117 4 rfl ?_
        obtain ⟨v25, e_v25, hy⟩ := gBd hy
        refine g_iald K d_c11_route_119 e_v25 ?_
        refine g_iconst (v := 1) K d_c11_route_120 (by decide) ?_
        refine g_isub K d_c11_route_121 ?_
        refine g_icmp_eq K d_c11_route_122 (fun c26 => ?_) (fun c26 => ?_)
        · rw [if_pos c26] at hy
          refine g_sub (ls2 := [(0, .ref a0), (1, .int x1), (2, .int x2), (3, .int x3), (5, .int x5)]) [0, 1, 2, 3, 5] rfl ?_
          obtain rfl := Option.some.inj hy
          exact hE
        · rw [if_neg c26] at hy
          refine g_iinc (ls2 := [(5, .int (x5 + (1 : Int32))), (0, .ref a0), (1, .int x1), (2, .int x2), (3, .int x3), (4, .int x4)]) (v := 1) K d_c11_route_125 5 rfl (by decide) rfl rfl ?_
          refine g_goto K d_c11_route_128 ?_
          refine g_sub (ls2 := [(0, .ref a0), (1, .int x1), (2, .int x2), (3, .int x3), (4, .int x4), (5, .int (x5 + (1 : Int32)))]) [1, 2, 3, 4, 5, 0] rfl ?_
          exact ih _ _ hy hE
set_option maxHeartbeats 4000000 in
set_option maxRecDepth 100000 in
theorem wlp_c11_route_68 {M : gM} {X : gX} {N : Nat} (hx : gEx X = false) (K : gC M X gN11 b_c11_route 6 (gRm (4 + N) 0 0)) (a0 : Nat) (x2 : Int32) (x3 : Int32) (x1 : Int32) : ∀ (k : Nat) (x4 : Int32) (h : gH) (o : gH), lp_c11_route_68 N a0 x2 x3 k x4 h = some o → gG M X 6 0 0 145 [(0, .ref a0), (1, .int x1)] [] o → gG M X 6 0 0 68 [(0, .ref a0), (1, .int x1), (2, .int x2), (3, .int x3), (4, .int x4)] [] h := by
  intro k
  induction k with
  | zero =>
    intro x4 h o hy
    rw [lp_c11_route_68.eq_1] at hy
    cases hy
  | succ k ih =>
    intro x4 h o hy hE
    rw [lp_c11_route_68.eq_2] at hy
    refine g_iload K d_c11_route_68 4 rfl ?_
    refine g_iload_n K d_c11_route_70 2 rfl ?_
    refine g_icmp_eq K d_c11_route_71 (fun c14 => ?_) (fun c14 => ?_)
    · rw [if_pos c14] at hy
      refine g_sub (ls2 := [(0, .ref a0), (1, .int x1)]) [0, 1] rfl ?_
      obtain rfl := Option.some.inj hy
      exact hE
    · rw [if_neg c14] at hy
      refine g_iconst (v := 0) K d_c11_route_74 (by decide) ?_
      refine g_istore (ls2 := [(5, .int (0 : Int32)), (0, .ref a0), (1, .int x1), (2, .int x2), (3, .int x3), (4, .int x4)]) K d_c11_route_75 rfl rfl ?_
      obtain ⟨o27, e_o27, hy⟩ := gBd hy
      refine g_sub (ls2 := [(0, .ref a0), (1, .int x1), (2, .int x2), (3, .int x3), (4, .int x4), (5, .int (0 : Int32))]) [1, 2, 3, 4, 5, 0] rfl ?_
      refine wlp_c11_route_77 hx K a0 x3 x4 x1 x2 h N (0 : Int32) o27 e_o27 ?_
      refine g_iload K d_c11_route_131 4 rfl ?_
      refine g_istore (ls2 := [(4, .int o27), (0, .ref a0), (1, .int x1), (2, .int x2), (3, .int x3), (5, .int o27)]) K d_c11_route_133 rfl rfl ?_
      refine g_aload_n K d_c11_route_135 1 rfl ?_
      refine g_iload K d_c11_route_136 0 rfl ?_
      refine g_i2l K d_c11_route_138 ?_
      obtain ⟨q28, e_q28, hy⟩ := gBd hy
      refine g_callVv (rest := []) K hx ly_c11_tell kv_c11_268 d_c11_route_139 (ct_c11_tell M.2.1 X hx N a0 o27.toInt64 h q28 e_q28) rfl rfl (Nat.le_of_ble_eq_true rfl) (gDep rfl) ⟨Nat.le_refl 0, Nat.le_refl 0⟩ ?_
      refine g_goto K d_c11_route_142 ?_
      refine g_sub (ls2 := [(0, .ref a0), (1, .int x1), (2, .int x2), (3, .int x3), (4, .int o27)]) [1, 2, 3, 4, 0] rfl ?_
      exact ih _ _ _ hy hE
set_option maxHeartbeats 4000000 in
set_option maxRecDepth 100000 in
theorem ct_c11_route (l : Launch) (X : gX) (hx : gEx X = false) (N : Nat) (a0 : Nat) (x1 : Int32) (x2 : Int32) (x3 : Int32) (h : gH) (q : Int32 × gH) (hy : f_c11_route N a0 x1 x2 x3 h = some q) : gRc y_c11_route h a0 ∧ gMi l X y_c11_route b_c11_route 6 .int (4 + N) 0 0 [.ref a0, .int x1, .int x2, .int x3] h q.1 q.2 := by
  unfold f_c11_route at hy
  obtain ⟨u0, e_u0, hy⟩ := gBd hy
  cases u0
  refine ⟨Or.inl ⟨11, _, _, e_u0, rfl⟩, gMet_i (lsx := [(0, .ref a0), (1, .int x1), (2, .int x2), (3, .int x3)]) (by decide) rfl rfl ?_⟩
  intro M hMl K hret
  subst hMl
  refine g_aload_n K d_c11_route_0 0 rfl ?_
  refine g_iconst (v := 0) K d_c11_route_1 (by decide) ?_
  obtain ⟨h1, e_h1, hy⟩ := gBd hy
  refine g_putI K fp_c11_95 d_c11_route_2 e_h1 ?_
  refine g_aload_n K d_c11_route_5 0 rfl ?_
  refine g_iload_n K d_c11_route_6 1 rfl ?_
  obtain ⟨q2, e_q2, hy⟩ := gBd hy
  refine g_callVi (rest := []) K hx ly_c11_isWell kv_c11_233 d_c11_route_7 (ct_c11_isWell M.2.1 X hx N a0 x1 h1 q2 e_q2) rfl rfl (Nat.le_of_ble_eq_true rfl) (gDep rfl) ⟨Nat.le_refl 0, Nat.le_refl 0⟩ ?_
  refine g_if_eq K d_c11_route_10 (fun c3 => ?_) (fun c3 => ?_)
  · rw [if_pos c3] at hy
    refine g_iconst (v := (-1)) K d_c11_route_31 (by decide) ?_
    obtain rfl := Option.some.inj hy
    exact hret rfl _ _ _ d_c11_route_32
  · rw [if_neg c3] at hy
    refine g_aload_n K d_c11_route_13 0 rfl ?_
    refine g_iload_n K d_c11_route_14 2 rfl ?_
    obtain ⟨q4, e_q4, hy⟩ := gBd hy
    refine g_callVi (rest := []) K hx ly_c11_isWell kv_c11_233 d_c11_route_15 (ct_c11_isWell M.2.1 X hx N a0 x2 h1 q4 e_q4) rfl rfl (Nat.le_of_ble_eq_true rfl) (gDep rfl) ⟨Nat.le_refl 0, Nat.le_refl 0⟩ ?_
    refine g_if_eq K d_c11_route_18 (fun c5 => ?_) (fun c5 => ?_)
    · rw [if_pos c5] at hy
      refine g_iconst (v := (-1)) K d_c11_route_31 (by decide) ?_
      obtain rfl := Option.some.inj hy
      exact hret rfl _ _ _ d_c11_route_32
    · rw [if_neg c5] at hy
      refine g_iload_n K d_c11_route_21 3 rfl ?_
      refine g_iconst (v := 0) K d_c11_route_22 (by decide) ?_
      refine g_bipush (v := 10) K d_c11_route_23 (by decide) ?_
      obtain ⟨q6, e_q6, hy⟩ := gBd hy
      refine g_callSi (rest := []) K hx ly_c11_in ks_c11_105 d_c11_route_25 (ct_c11_in M.2.1 X hx N x3 (0 : Int32) (10 : Int32) h1 q6 e_q6) rfl rfl (Nat.le_of_ble_eq_true rfl) (gDep rfl) ⟨Nat.le_refl 0, Nat.le_refl 0⟩ ?_
      refine g_if_ne K d_c11_route_28 (fun c7 => ?_) (fun c7 => ?_)
      · rw [if_neg c7] at hy
        refine g_aload_n K d_c11_route_33 0 rfl ?_
        refine g_iload_n K d_c11_route_34 2 rfl ?_
        refine g_iload_n K d_c11_route_35 3 rfl ?_
        obtain ⟨q8, e_q8, hy⟩ := gBd hy
        refine g_callVv (rest := []) K hx ly_c11_laySteps kv_c11_322 d_c11_route_36 (ct_c11_laySteps M.2.1 X hx N a0 x2 x3 h1 q8 e_q8) rfl rfl (Nat.le_of_ble_eq_true rfl) (gDep rfl) ⟨Nat.le_refl 0, Nat.le_refl 0⟩ ?_
        refine g_aload_n K d_c11_route_39 0 rfl ?_
        obtain ⟨v9, e_v9, hy⟩ := gBd hy
        refine g_getR K fl_c11_70 d_c11_route_40 e_v9 ?_
        refine g_iload_n K d_c11_route_43 1 rfl ?_
        obtain ⟨v10, e_v10, hy⟩ := gBd hy
        refine g_iald K d_c11_route_44 e_v10 ?_
        refine g_ldcw (v := 1000000) K d_c11_route_45 (gTk_7 44 rfl rfl) ?_
        refine g_icmp_lt K d_c11_route_48 (fun c11 => ?_) (fun c11 => ?_)
        · rw [if_pos c11] at hy
          refine g_aload_n K d_c11_route_54 0 rfl ?_
          refine g_iconst (v := 0) K d_c11_route_55 (by decide) ?_
          obtain ⟨h12, e_h12, hy⟩ := gBd hy
          refine g_putI K fp_c11_98 d_c11_route_56 e_h12 ?_
          refine g_aload_n K d_c11_route_59 0 rfl ?_
          refine g_iload_n K d_c11_route_60 1 rfl ?_
          refine g_i2l K d_c11_route_61 ?_
          obtain ⟨q13, e_q13, hy⟩ := gBd hy
          refine g_callVv (rest := []) K hx ly_c11_tell kv_c11_268 d_c11_route_62 (ct_c11_tell M.2.1 X hx N a0 x1.toInt64 h12 q13 e_q13) rfl rfl (Nat.le_of_ble_eq_true rfl) (gDep rfl) ⟨Nat.le_refl 0, Nat.le_refl 0⟩ ?_
          refine g_iload_n K d_c11_route_65 1 rfl ?_
          refine g_istore (ls2 := [(4, .int x1), (0, .ref a0), (1, .int x1), (2, .int x2), (3, .int x3)]) K d_c11_route_66 rfl rfl ?_
          obtain ⟨o29, e_o29, hy⟩ := gBd hy
          refine g_sub (ls2 := [(0, .ref a0), (1, .int x1), (2, .int x2), (3, .int x3), (4, .int x1)]) [1, 2, 3, 4, 0] rfl ?_
          refine wlp_c11_route_68 hx K a0 x2 x3 x1 N x1 q13 o29 e_o29 ?_
          refine g_aload_n K d_c11_route_145 0 rfl ?_
          obtain ⟨v30, e_v30, hy⟩ := gBd hy
          refine g_getR K fl_c11_70 d_c11_route_146 e_v30 ?_
          refine g_iload_n K d_c11_route_149 1 rfl ?_
          obtain ⟨v31, e_v31, hy⟩ := gBd hy
          refine g_iald K d_c11_route_150 e_v31 ?_
          obtain rfl := Option.some.inj hy
          exact hret rfl _ _ _ d_c11_route_151
        · rw [if_neg c11] at hy
          refine g_bipush (v := (-2)) K d_c11_route_51 (by decide) ?_
          obtain rfl := Option.some.inj hy
          exact hret rfl _ _ _ d_c11_route_53
      · rw [if_pos c7] at hy
        refine g_iconst (v := (-1)) K d_c11_route_31 (by decide) ?_
        obtain rfl := Option.some.inj hy
        exact hret rfl _ _ _ d_c11_route_32
-- c11 says
theorem d_c11_says_0 : gD b_c11_says 0 (.aload_n 0) 1 1 := ⟨by decide +kernel, rfl⟩
theorem d_c11_says_1 : gD b_c11_says 1 (.iconst 0) 1 2 := ⟨by decide +kernel, rfl⟩
theorem d_c11_says_2 : gD b_c11_says 2 (.putfield 95) 3 5 := ⟨by decide +kernel, rfl⟩
theorem d_c11_says_5 : gD b_c11_says 5 (.aload_n 0) 1 6 := ⟨by decide +kernel, rfl⟩
theorem d_c11_says_6 : gD b_c11_says 6 (.aload_n 0) 1 7 := ⟨by decide +kernel, rfl⟩
theorem d_c11_says_7 : gD b_c11_says 7 (.getfield 9) 3 10 := ⟨by decide +kernel, rfl⟩
theorem d_c11_says_10 : gD b_c11_says 10 (.iload_n 1) 1 11 := ⟨by decide +kernel, rfl⟩
theorem d_c11_says_11 : gD b_c11_says 11 (.iload_n 2) 1 12 := ⟨by decide +kernel, rfl⟩
theorem d_c11_says_12 : gD b_c11_says 12 (.iload_n 3) 1 13 := ⟨by decide +kernel, rfl⟩
theorem d_c11_says_13 : gD b_c11_says 13 (.invokevirtual 283) 3 16 := ⟨by decide +kernel, rfl⟩
theorem d_c11_says_16 : gD b_c11_says 16 (.istore 4) 2 18 := ⟨by decide +kernel, rfl⟩
theorem d_c11_says_18 : gD b_c11_says 18 (.iload 4) 2 20 := ⟨by decide +kernel, rfl⟩
theorem d_c11_says_20 : gJ b_c11_says 20 (.ifCond .ge 6) 3 6 23 26 := ⟨by decide +kernel, rfl, by decide⟩
theorem d_c11_says_23 : gD b_c11_says 23 (.iload 4) 2 25 := ⟨by decide +kernel, rfl⟩
theorem d_c11_says_25 : gD b_c11_says 25 .ireturn 1 26 := ⟨by decide +kernel, rfl⟩
theorem d_c11_says_26 : gD b_c11_says 26 (.aload_n 0) 1 27 := ⟨by decide +kernel, rfl⟩
theorem d_c11_says_27 : gD b_c11_says 27 (.aload_n 0) 1 28 := ⟨by decide +kernel, rfl⟩
theorem d_c11_says_28 : gD b_c11_says 28 (.getfield 9) 3 31 := ⟨by decide +kernel, rfl⟩
theorem d_c11_says_31 : gD b_c11_says 31 (.invokevirtual 260) 3 34 := ⟨by decide +kernel, rfl⟩
theorem d_c11_says_34 : gD b_c11_says 34 (.aload_n 0) 1 35 := ⟨by decide +kernel, rfl⟩
theorem d_c11_says_35 : gD b_c11_says 35 (.getfield 9) 3 38 := ⟨by decide +kernel, rfl⟩
theorem d_c11_says_38 : gD b_c11_says 38 (.iload_n 1) 1 39 := ⟨by decide +kernel, rfl⟩
theorem d_c11_says_39 : gD b_c11_says 39 (.iload_n 2) 1 40 := ⟨by decide +kernel, rfl⟩
theorem d_c11_says_40 : gD b_c11_says 40 (.iload_n 3) 1 41 := ⟨by decide +kernel, rfl⟩
theorem d_c11_says_41 : gD b_c11_says 41 (.invokestatic 181) 3 44 := ⟨by decide +kernel, rfl⟩
theorem d_c11_says_44 : gD b_c11_says 44 (.aload_n 0) 1 45 := ⟨by decide +kernel, rfl⟩
theorem d_c11_says_45 : gD b_c11_says 45 (.getfield 9) 3 48 := ⟨by decide +kernel, rfl⟩
theorem d_c11_says_48 : gD b_c11_says 48 (.bipush 40) 2 50 := ⟨by decide +kernel, rfl⟩
theorem d_c11_says_50 : gD b_c11_says 50 .iaload 1 51 := ⟨by decide +kernel, rfl⟩
theorem d_c11_says_51 : gD b_c11_says 51 (.iconst 1) 1 52 := ⟨by decide +kernel, rfl⟩
theorem d_c11_says_52 : gD b_c11_says 52 .isub 1 53 := ⟨by decide +kernel, rfl⟩
theorem d_c11_says_53 : gD b_c11_says 53 .ireturn 1 54 := ⟨by decide +kernel, rfl⟩
def f_c11_says (N : Nat) (a0 : Nat) (x1 : Int32) (x2 : Int32) (x3 : Int32) (h : gH) : Option (Int32 × gH) :=
  (gcl h a0 11).bind fun _ =>
  (sf h a0 11 10 (.int (0 : Int32))).bind fun h1 =>
    (gfR h1 a0 11 0).bind fun v2 =>
    (f_c11_refusesSaying N a0 v2 x1 x2 x3 h1).bind fun q3 =>
    if 0 ≤ q3 then
    (gfR h1 a0 11 0).bind fun v5 =>
    (f_c11_remember N a0 v5 h1).bind fun q6 =>
    (gfR q6 a0 11 0).bind fun v7 =>
    (f_c11_add N v7 x1 x2 x3 q6).bind fun q8 =>
    (gfR q8 a0 11 0).bind fun v9 =>
    (ga 0 q8 v9 (40 : Int32)).bind fun v10 =>
    some (v10 - (1 : Int32), q8)
  else
    some (q3, h1)
set_option maxHeartbeats 4000000 in
set_option maxRecDepth 100000 in
theorem ct_c11_says (l : Launch) (X : gX) (hx : gEx X = false) (N : Nat) (a0 : Nat) (x1 : Int32) (x2 : Int32) (x3 : Int32) (h : gH) (q : Int32 × gH) (hy : f_c11_says N a0 x1 x2 x3 h = some q) : gRc y_c11_says h a0 ∧ gMi l X y_c11_says b_c11_says 5 .int (4 + N) 0 0 [.ref a0, .int x1, .int x2, .int x3] h q.1 q.2 := by
  unfold f_c11_says at hy
  obtain ⟨u0, e_u0, hy⟩ := gBd hy
  cases u0
  refine ⟨Or.inl ⟨11, _, _, e_u0, rfl⟩, gMet_i (lsx := [(0, .ref a0), (1, .int x1), (2, .int x2), (3, .int x3)]) (by decide) rfl rfl ?_⟩
  intro M hMl K hret
  subst hMl
  refine g_aload_n K d_c11_says_0 0 rfl ?_
  refine g_iconst (v := 0) K d_c11_says_1 (by decide) ?_
  obtain ⟨h1, e_h1, hy⟩ := gBd hy
  refine g_putI K fp_c11_95 d_c11_says_2 e_h1 ?_
  refine g_aload_n K d_c11_says_5 0 rfl ?_
  refine g_aload_n K d_c11_says_6 0 rfl ?_
  obtain ⟨v2, e_v2, hy⟩ := gBd hy
  refine g_getR K fl_c11_9 d_c11_says_7 e_v2 ?_
  refine g_iload_n K d_c11_says_10 1 rfl ?_
  refine g_iload_n K d_c11_says_11 2 rfl ?_
  refine g_iload_n K d_c11_says_12 3 rfl ?_
  obtain ⟨q3, e_q3, hy⟩ := gBd hy
  refine g_callVi (rest := []) K hx ly_c11_refusesSaying kv_c11_283 d_c11_says_13 (ct_c11_refusesSaying M.2.1 X hx N a0 v2 x1 x2 x3 h1 q3 e_q3) rfl rfl (Nat.le_of_ble_eq_true rfl) (gDep rfl) ⟨Nat.le_refl 0, Nat.le_refl 0⟩ ?_
  refine g_istore (ls2 := [(4, .int q3), (0, .ref a0), (1, .int x1), (2, .int x2), (3, .int x3)]) K d_c11_says_16 rfl rfl ?_
  refine g_iload K d_c11_says_18 0 rfl ?_
  refine g_if_ge K d_c11_says_20 (fun c4 => ?_) (fun c4 => ?_)
  · rw [if_pos c4] at hy
    refine g_aload_n K d_c11_says_26 1 rfl ?_
    refine g_aload_n K d_c11_says_27 1 rfl ?_
    obtain ⟨v5, e_v5, hy⟩ := gBd hy
    refine g_getR K fl_c11_9 d_c11_says_28 e_v5 ?_
    obtain ⟨q6, e_q6, hy⟩ := gBd hy
    refine g_callVv (rest := []) K hx ly_c11_remember kv_c11_260 d_c11_says_31 (ct_c11_remember M.2.1 X hx N a0 v5 h1 q6 e_q6) rfl rfl (Nat.le_of_ble_eq_true rfl) (gDep rfl) ⟨Nat.le_refl 0, Nat.le_refl 0⟩ ?_
    refine g_aload_n K d_c11_says_34 1 rfl ?_
    obtain ⟨v7, e_v7, hy⟩ := gBd hy
    refine g_getR K fl_c11_9 d_c11_says_35 e_v7 ?_
    refine g_iload_n K d_c11_says_38 2 rfl ?_
    refine g_iload_n K d_c11_says_39 3 rfl ?_
    refine g_iload_n K d_c11_says_40 4 rfl ?_
    obtain ⟨q8, e_q8, hy⟩ := gBd hy
    refine g_callSv (rest := []) K hx ly_c11_add ks_c11_181 d_c11_says_41 (ct_c11_add M.2.1 X hx N v7 x1 x2 x3 q6 q8 e_q8) rfl rfl (Nat.le_of_ble_eq_true rfl) (gDep rfl) ⟨Nat.le_refl 0, Nat.le_refl 0⟩ ?_
    refine g_aload_n K d_c11_says_44 1 rfl ?_
    obtain ⟨v9, e_v9, hy⟩ := gBd hy
    refine g_getR K fl_c11_9 d_c11_says_45 e_v9 ?_
    refine g_bipush (v := 40) K d_c11_says_48 (by decide) ?_
    obtain ⟨v10, e_v10, hy⟩ := gBd hy
    refine g_iald K d_c11_says_50 e_v10 ?_
    refine g_iconst (v := 1) K d_c11_says_51 (by decide) ?_
    refine g_isub K d_c11_says_52 ?_
    obtain rfl := Option.some.inj hy
    exact hret rfl _ _ _ d_c11_says_53
  · rw [if_neg c4] at hy
    refine g_iload K d_c11_says_23 0 rfl ?_
    obtain rfl := Option.some.inj hy
    exact hret rfl _ _ _ d_c11_says_25
-- c11 village
theorem d_c11_village_0 : gD b_c11_village 0 (.aload_n 0) 1 1 := ⟨by decide +kernel, rfl⟩
theorem d_c11_village_1 : gD b_c11_village 1 (.iconst 0) 1 2 := ⟨by decide +kernel, rfl⟩
theorem d_c11_village_2 : gD b_c11_village 2 (.putfield 95) 3 5 := ⟨by decide +kernel, rfl⟩
theorem d_c11_village_5 : gD b_c11_village 5 (.aload_n 0) 1 6 := ⟨by decide +kernel, rfl⟩
theorem d_c11_village_6 : gD b_c11_village 6 (.iload_n 1) 1 7 := ⟨by decide +kernel, rfl⟩
theorem d_c11_village_7 : gD b_c11_village 7 (.invokevirtual 246) 3 10 := ⟨by decide +kernel, rfl⟩
theorem d_c11_village_10 : gJ b_c11_village 10 (.ifCond .eq 12) 3 12 13 22 := ⟨by decide +kernel, rfl, by decide⟩
theorem d_c11_village_13 : gD b_c11_village 13 (.iload_n 2) 1 14 := ⟨by decide +kernel, rfl⟩
theorem d_c11_village_14 : gD b_c11_village 14 (.iconst 0) 1 15 := ⟨by decide +kernel, rfl⟩
theorem d_c11_village_15 : gD b_c11_village 15 (.iconst 3) 1 16 := ⟨by decide +kernel, rfl⟩
theorem d_c11_village_16 : gD b_c11_village 16 (.invokestatic 105) 3 19 := ⟨by decide +kernel, rfl⟩
theorem d_c11_village_19 : gJ b_c11_village 19 (.ifCond .ne 8) 3 8 22 27 := ⟨by decide +kernel, rfl, by decide⟩
theorem d_c11_village_22 : gD b_c11_village 22 (.aload_n 0) 1 23 := ⟨by decide +kernel, rfl⟩
theorem d_c11_village_23 : gD b_c11_village 23 (.invokevirtual 237) 3 26 := ⟨by decide +kernel, rfl⟩
theorem d_c11_village_26 : gD b_c11_village 26 .ireturn 1 27 := ⟨by decide +kernel, rfl⟩
theorem d_c11_village_27 : gD b_c11_village 27 (.aload_n 0) 1 28 := ⟨by decide +kernel, rfl⟩
theorem d_c11_village_28 : gD b_c11_village 28 (.aload_n 0) 1 29 := ⟨by decide +kernel, rfl⟩
theorem d_c11_village_29 : gD b_c11_village 29 (.getfield 9) 3 32 := ⟨by decide +kernel, rfl⟩
theorem d_c11_village_32 : gD b_c11_village 32 (.iload_n 1) 1 33 := ⟨by decide +kernel, rfl⟩
theorem d_c11_village_33 : gD b_c11_village 33 (.invokevirtual 230) 3 36 := ⟨by decide +kernel, rfl⟩
theorem d_c11_village_36 : gD b_c11_village 36 (.istore_n 3) 1 37 := ⟨by decide +kernel, rfl⟩
theorem d_c11_village_37 : gD b_c11_village 37 (.iload_n 2) 1 38 := ⟨by decide +kernel, rfl⟩
theorem d_c11_village_38 : decode b_c11_village 38 = .ok ((.tableswitch 42 0 2 #[26, 33, 40]), 26) := by decide +kernel
theorem d_c11_village_64 : gD b_c11_village 64 (.aload_n 0) 1 65 := ⟨by decide +kernel, rfl⟩
theorem d_c11_village_65 : gD b_c11_village 65 (.getfield 20) 3 68 := ⟨by decide +kernel, rfl⟩
theorem d_c11_village_68 : gD b_c11_village 68 (.iload_n 1) 1 69 := ⟨by decide +kernel, rfl⟩
theorem d_c11_village_69 : gD b_c11_village 69 .iaload 1 70 := ⟨by decide +kernel, rfl⟩
theorem d_c11_village_70 : gD b_c11_village 70 .ireturn 1 71 := ⟨by decide +kernel, rfl⟩
theorem d_c11_village_71 : gD b_c11_village 71 (.aload_n 0) 1 72 := ⟨by decide +kernel, rfl⟩
theorem d_c11_village_72 : gD b_c11_village 72 (.getfield 23) 3 75 := ⟨by decide +kernel, rfl⟩
theorem d_c11_village_75 : gD b_c11_village 75 (.iload_n 1) 1 76 := ⟨by decide +kernel, rfl⟩
theorem d_c11_village_76 : gD b_c11_village 76 .iaload 1 77 := ⟨by decide +kernel, rfl⟩
theorem d_c11_village_77 : gD b_c11_village 77 .ireturn 1 78 := ⟨by decide +kernel, rfl⟩
theorem d_c11_village_78 : gD b_c11_village 78 (.iload_n 3) 1 79 := ⟨by decide +kernel, rfl⟩
theorem d_c11_village_79 : gD b_c11_village 79 .ireturn 1 80 := ⟨by decide +kernel, rfl⟩
theorem d_c11_village_80 : gD b_c11_village 80 (.iload_n 3) 1 81 := ⟨by decide +kernel, rfl⟩
theorem d_c11_village_81 : gD b_c11_village 81 (.iconst (-1)) 1 82 := ⟨by decide +kernel, rfl⟩
theorem d_c11_village_82 : gJ b_c11_village 82 (.if_icmp .ne 7) 3 7 85 89 := ⟨by decide +kernel, rfl, by decide⟩
theorem d_c11_village_85 : gD b_c11_village 85 (.iconst (-1)) 1 86 := ⟨by decide +kernel, rfl⟩
theorem d_c11_village_86 : gJ b_c11_village 86 (.goto 19) 3 19 89 105 := ⟨by decide +kernel, rfl, by decide⟩
theorem d_c11_village_89 : gD b_c11_village 89 (.aload_n 0) 1 90 := ⟨by decide +kernel, rfl⟩
theorem d_c11_village_90 : gD b_c11_village 90 (.aload_n 0) 1 91 := ⟨by decide +kernel, rfl⟩
theorem d_c11_village_91 : gD b_c11_village 91 (.getfield 9) 3 94 := ⟨by decide +kernel, rfl⟩
theorem d_c11_village_94 : gD b_c11_village 94 (.iload_n 3) 1 95 := ⟨by decide +kernel, rfl⟩
theorem d_c11_village_95 : gD b_c11_village 95 .iaload 1 96 := ⟨by decide +kernel, rfl⟩
theorem d_c11_village_96 : gD b_c11_village 96 (.aload_n 0) 1 97 := ⟨by decide +kernel, rfl⟩
theorem d_c11_village_97 : gD b_c11_village 97 (.getfield 20) 3 100 := ⟨by decide +kernel, rfl⟩
theorem d_c11_village_100 : gD b_c11_village 100 (.iload_n 1) 1 101 := ⟨by decide +kernel, rfl⟩
theorem d_c11_village_101 : gD b_c11_village 101 .iaload 1 102 := ⟨by decide +kernel, rfl⟩
theorem d_c11_village_102 : gD b_c11_village 102 (.invokevirtual 220) 3 105 := ⟨by decide +kernel, rfl⟩
theorem d_c11_village_105 : gD b_c11_village 105 .ireturn 1 106 := ⟨by decide +kernel, rfl⟩
def f_c11_village (N : Nat) (a0 : Nat) (x1 : Int32) (x2 : Int32) (h : gH) : Option (Int32 × gH) :=
  (gcl h a0 11).bind fun _ =>
  (sf h a0 11 10 (.int (0 : Int32))).bind fun h1 =>
    (f_c11_isVillage N a0 x1 h1).bind fun q2 =>
    if q2 = 0 then
    (f_c11_lost N a0 h1).bind fun q4 =>
    some (q4.1, q4.2)
  else
    (f_c11_in N x2 (0 : Int32) (3 : Int32) h1).bind fun q5 =>
    if q5 = 0 then
    (f_c11_lost N a0 h1).bind fun q24 =>
    some (q24.1, q24.2)
  else
    (gfR h1 a0 11 0).bind fun v7 =>
    (f_c11_nearest N a0 v7 x1 h1).bind fun q8 =>
    if x2 = (0 : Int32) then
    (gfR h1 a0 11 4).bind fun v12 =>
    (ga 0 h1 v12 x1).bind fun v13 =>
    some (v13, h1)
  else
    if x2 = (1 : Int32) then
    (gfR h1 a0 11 5).bind fun v14 =>
    (ga 0 h1 v14 x1).bind fun v15 =>
    some (v15, h1)
  else
    if x2 = (2 : Int32) then
    some (q8, h1)
  else
    (show Option (Int32) from if q8 = (-1 : Int32) then
    some (-1 : Int32)
  else
    (gfR h1 a0 11 0).bind fun v19 =>
    (ga 0 h1 v19 q8).bind fun v20 =>
    (gfR h1 a0 11 4).bind fun v21 =>
    (ga 0 h1 v21 x1).bind fun v22 =>
    (f_c11_farOf N a0 v20 v22 h1).bind fun q23 =>
    some q23).bind fun t17 =>
    some (t17, h1)
set_option maxHeartbeats 4000000 in
set_option maxRecDepth 100000 in
theorem ct_c11_village (l : Launch) (X : gX) (hx : gEx X = false) (N : Nat) (a0 : Nat) (x1 : Int32) (x2 : Int32) (h : gH) (q : Int32 × gH) (hy : f_c11_village N a0 x1 x2 h = some q) : gRc y_c11_village h a0 ∧ gMi l X y_c11_village b_c11_village 4 .int (4 + N) 0 0 [.ref a0, .int x1, .int x2] h q.1 q.2 := by
  unfold f_c11_village at hy
  obtain ⟨u0, e_u0, hy⟩ := gBd hy
  cases u0
  refine ⟨Or.inl ⟨11, _, _, e_u0, rfl⟩, gMet_i (lsx := [(0, .ref a0), (1, .int x1), (2, .int x2)]) (by decide) rfl rfl ?_⟩
  intro M hMl K hret
  subst hMl
  refine g_aload_n K d_c11_village_0 0 rfl ?_
  refine g_iconst (v := 0) K d_c11_village_1 (by decide) ?_
  obtain ⟨h1, e_h1, hy⟩ := gBd hy
  refine g_putI K fp_c11_95 d_c11_village_2 e_h1 ?_
  refine g_aload_n K d_c11_village_5 0 rfl ?_
  refine g_iload_n K d_c11_village_6 1 rfl ?_
  obtain ⟨q2, e_q2, hy⟩ := gBd hy
  refine g_callVi (rest := []) K hx ly_c11_isVillage kv_c11_246 d_c11_village_7 (ct_c11_isVillage M.2.1 X hx N a0 x1 h1 q2 e_q2) rfl rfl (Nat.le_of_ble_eq_true rfl) (gDep rfl) ⟨Nat.le_refl 0, Nat.le_refl 0⟩ ?_
  refine g_if_eq K d_c11_village_10 (fun c3 => ?_) (fun c3 => ?_)
  · rw [if_pos c3] at hy
    refine g_aload_n K d_c11_village_22 0 rfl ?_
    obtain ⟨q4, e_q4, hy⟩ := gBd hy
    refine g_callVi (rest := []) K hx ly_c11_lost kv_c11_237 d_c11_village_23 (ct_c11_lost M.2.1 X hx N a0 h1 q4 e_q4) rfl rfl (Nat.le_of_ble_eq_true rfl) (gDep rfl) ⟨Nat.le_refl 0, Nat.le_refl 0⟩ ?_
    obtain rfl := Option.some.inj hy
    exact hret rfl _ _ _ d_c11_village_26
  · rw [if_neg c3] at hy
    refine g_iload_n K d_c11_village_13 2 rfl ?_
    refine g_iconst (v := 0) K d_c11_village_14 (by decide) ?_
    refine g_iconst (v := 3) K d_c11_village_15 (by decide) ?_
    obtain ⟨q5, e_q5, hy⟩ := gBd hy
    refine g_callSi (rest := []) K hx ly_c11_in ks_c11_105 d_c11_village_16 (ct_c11_in M.2.1 X hx N x2 (0 : Int32) (3 : Int32) h1 q5 e_q5) rfl rfl (Nat.le_of_ble_eq_true rfl) (gDep rfl) ⟨Nat.le_refl 0, Nat.le_refl 0⟩ ?_
    refine g_if_ne K d_c11_village_19 (fun c6 => ?_) (fun c6 => ?_)
    · rw [if_neg c6] at hy
      refine g_aload_n K d_c11_village_27 0 rfl ?_
      refine g_aload_n K d_c11_village_28 0 rfl ?_
      obtain ⟨v7, e_v7, hy⟩ := gBd hy
      refine g_getR K fl_c11_9 d_c11_village_29 e_v7 ?_
      refine g_iload_n K d_c11_village_32 1 rfl ?_
      obtain ⟨q8, e_q8, hy⟩ := gBd hy
      refine g_callVi (rest := []) K hx ly_c11_nearest kv_c11_230 d_c11_village_33 (ct_c11_nearest M.2.1 X hx N a0 v7 x1 h1 q8 e_q8) rfl rfl (Nat.le_of_ble_eq_true rfl) (gDep rfl) ⟨Nat.le_refl 0, Nat.le_refl 0⟩ ?_
      refine g_istore_n (ls2 := [(3, .int q8), (0, .ref a0), (1, .int x1), (2, .int x2)]) K d_c11_village_36 rfl rfl ?_
      refine g_iload_n K d_c11_village_37 3 rfl ?_
      by_cases c9 : x2 = (0 : Int32)
      · rw [if_pos c9] at hy
        refine g_tabIn (v := (0 : Int32)) (off := 26) (tgt := 64) K d_c11_village_38 c9 (by decide) (by decide) (by decide +kernel) (by decide) ?_
        refine g_aload_n K d_c11_village_64 1 rfl ?_
        obtain ⟨v12, e_v12, hy⟩ := gBd hy
        refine g_getR K fl_c11_20 d_c11_village_65 e_v12 ?_
        refine g_iload_n K d_c11_village_68 2 rfl ?_
        obtain ⟨v13, e_v13, hy⟩ := gBd hy
        refine g_iald K d_c11_village_69 e_v13 ?_
        obtain rfl := Option.some.inj hy
        exact hret rfl _ _ _ d_c11_village_70
      rw [if_neg c9] at hy
      by_cases c10 : x2 = (1 : Int32)
      · rw [if_pos c10] at hy
        refine g_tabIn (v := (1 : Int32)) (off := 33) (tgt := 71) K d_c11_village_38 c10 (by decide) (by decide) (by decide +kernel) (by decide) ?_
        refine g_aload_n K d_c11_village_71 1 rfl ?_
        obtain ⟨v14, e_v14, hy⟩ := gBd hy
        refine g_getR K fl_c11_23 d_c11_village_72 e_v14 ?_
        refine g_iload_n K d_c11_village_75 2 rfl ?_
        obtain ⟨v15, e_v15, hy⟩ := gBd hy
        refine g_iald K d_c11_village_76 e_v15 ?_
        obtain rfl := Option.some.inj hy
        exact hret rfl _ _ _ d_c11_village_77
      rw [if_neg c10] at hy
      by_cases c11 : x2 = (2 : Int32)
      · rw [if_pos c11] at hy
        refine g_tabIn (v := (2 : Int32)) (off := 40) (tgt := 78) K d_c11_village_38 c11 (by decide) (by decide) (by decide +kernel) (by decide) ?_
        refine g_iload_n K d_c11_village_78 0 rfl ?_
        obtain rfl := Option.some.inj hy
        exact hret rfl _ _ _ d_c11_village_79
      rw [if_neg c11] at hy
      refine g_tabD (tgt := 80) [(0 : Int32), (1 : Int32), (2 : Int32)] K d_c11_village_38 (List.forall_mem_cons.mpr ⟨c9, (List.forall_mem_cons.mpr ⟨c10, (List.forall_mem_cons.mpr ⟨c11, (fun _ h => absurd h List.not_mem_nil)⟩)⟩)⟩) (by decide +kernel) (by decide) ?_
      refine g_iload_n K d_c11_village_80 0 rfl ?_
      refine g_iconst (v := (-1)) K d_c11_village_81 (by decide) ?_
      obtain ⟨t17, e_t17, hy⟩ := gBd hy
      have hJ18 : gG M X 4 0 0 105 [] [.int t17] h1 := by
        obtain rfl := Option.some.inj hy
        exact hret rfl _ _ _ d_c11_village_105
      refine g_icmp_ne K d_c11_village_82 (fun c16 => ?_) (fun c16 => ?_)
      · rw [if_neg c16] at e_t17
        refine g_aload_n K d_c11_village_89 1 rfl ?_
        refine g_aload_n K d_c11_village_90 1 rfl ?_
        obtain ⟨v19, e_v19, e_t17⟩ := gBd e_t17
        refine g_getR K fl_c11_9 d_c11_village_91 e_v19 ?_
        refine g_iload_n K d_c11_village_94 0 rfl ?_
        obtain ⟨v20, e_v20, e_t17⟩ := gBd e_t17
        refine g_iald K d_c11_village_95 e_v20 ?_
        refine g_aload_n K d_c11_village_96 1 rfl ?_
        obtain ⟨v21, e_v21, e_t17⟩ := gBd e_t17
        refine g_getR K fl_c11_20 d_c11_village_97 e_v21 ?_
        refine g_iload_n K d_c11_village_100 2 rfl ?_
        obtain ⟨v22, e_v22, e_t17⟩ := gBd e_t17
        refine g_iald K d_c11_village_101 e_v22 ?_
        obtain ⟨q23, e_q23, e_t17⟩ := gBd e_t17
        refine g_callVi (rest := []) K hx ly_c11_farOf kv_c11_220 d_c11_village_102 (ct_c11_farOf M.2.1 X hx N a0 v20 v22 h1 q23 e_q23) rfl rfl (Nat.le_of_ble_eq_true rfl) (gDep rfl) ⟨Nat.le_refl 0, Nat.le_refl 0⟩ ?_
        refine g_sub (ls2 := []) [] rfl ?_
        obtain rfl := Option.some.inj e_t17
        exact hJ18
      · rw [if_pos c16] at e_t17
        refine g_iconst (v := (-1)) K d_c11_village_85 (by decide) ?_
        refine g_goto K d_c11_village_86 ?_
        refine g_sub (ls2 := []) [] rfl ?_
        obtain rfl := Option.some.inj e_t17
        exact hJ18
    · rw [if_pos c6] at hy
      refine g_aload_n K d_c11_village_22 0 rfl ?_
      obtain ⟨q24, e_q24, hy⟩ := gBd hy
      refine g_callVi (rest := []) K hx ly_c11_lost kv_c11_237 d_c11_village_23 (ct_c11_lost M.2.1 X hx N a0 h1 q24 e_q24) rfl rfl (Nat.le_of_ble_eq_true rfl) (gDep rfl) ⟨Nat.le_refl 0, Nat.le_refl 0⟩ ?_
      obtain rfl := Option.some.inj hy
      exact hret rfl _ _ _ d_c11_village_26
-- c11 waits
theorem d_c11_waits_0 : gD b_c11_waits 0 (.aload_n 0) 1 1 := ⟨by decide +kernel, rfl⟩
theorem d_c11_waits_1 : gD b_c11_waits 1 (.iconst 0) 1 2 := ⟨by decide +kernel, rfl⟩
theorem d_c11_waits_2 : gD b_c11_waits 2 (.putfield 95) 3 5 := ⟨by decide +kernel, rfl⟩
theorem d_c11_waits_5 : gD b_c11_waits 5 (.aload_n 0) 1 6 := ⟨by decide +kernel, rfl⟩
theorem d_c11_waits_6 : gD b_c11_waits 6 (.bipush 16) 2 8 := ⟨by decide +kernel, rfl⟩
theorem d_c11_waits_8 : gD b_c11_waits 8 (.invokevirtual 165) 3 11 := ⟨by decide +kernel, rfl⟩
theorem d_c11_waits_11 : gD b_c11_waits 11 (.iconst 0) 1 12 := ⟨by decide +kernel, rfl⟩
theorem d_c11_waits_12 : gD b_c11_waits 12 (.istore_n 1) 1 13 := ⟨by decide +kernel, rfl⟩
theorem d_c11_waits_13 : gD b_c11_waits 13 (.aload_n 0) 1 14 := ⟨by decide +kernel, rfl⟩
theorem d_c11_waits_14 : gD b_c11_waits 14 (.invokevirtual 140) 3 17 := ⟨by decide +kernel, rfl⟩
theorem d_c11_waits_17 : gJ b_c11_waits 17 (.ifCond .eq 35) 3 35 20 52 := ⟨by decide +kernel, rfl, by decide⟩
theorem d_c11_waits_20 : gD b_c11_waits 20 (.iload_n 1) 1 21 := ⟨by decide +kernel, rfl⟩
theorem d_c11_waits_21 : gJ b_c11_waits 21 (.ifCond .eq 11) 3 11 24 32 := ⟨by decide +kernel, rfl, by decide⟩
theorem d_c11_waits_24 : gD b_c11_waits 24 (.aload_n 0) 1 25 := ⟨by decide +kernel, rfl⟩
theorem d_c11_waits_25 : gD b_c11_waits 25 (.invokevirtual 144) 3 28 := ⟨by decide +kernel, rfl⟩
theorem d_c11_waits_28 : gD b_c11_waits 28 (.iconst (-1)) 1 29 := ⟨by decide +kernel, rfl⟩
theorem d_c11_waits_29 : gJ b_c11_waits 29 (.if_icmp .eq 23) 3 23 32 52 := ⟨by decide +kernel, rfl, by decide⟩
theorem d_c11_waits_32 : gD b_c11_waits 32 (.aload_n 0) 1 33 := ⟨by decide +kernel, rfl⟩
theorem d_c11_waits_33 : gD b_c11_waits 33 (.getfield 34) 3 36 := ⟨by decide +kernel, rfl⟩
theorem d_c11_waits_36 : gD b_c11_waits 36 (.iload_n 1) 1 37 := ⟨by decide +kernel, rfl⟩
theorem d_c11_waits_37 : gD b_c11_waits 37 (.aload_n 0) 1 38 := ⟨by decide +kernel, rfl⟩
theorem d_c11_waits_38 : gD b_c11_waits 38 (.bipush 48) 2 40 := ⟨by decide +kernel, rfl⟩
theorem d_c11_waits_40 : gD b_c11_waits 40 (.bipush 10) 2 42 := ⟨by decide +kernel, rfl⟩
theorem d_c11_waits_42 : gD b_c11_waits 42 (.invokevirtual 155) 3 45 := ⟨by decide +kernel, rfl⟩
theorem d_c11_waits_45 : gD b_c11_waits 45 .iastore 1 46 := ⟨by decide +kernel, rfl⟩
theorem d_c11_waits_46 : gD b_c11_waits 46 (.iinc 1 1) 3 49 := ⟨by decide +kernel, rfl⟩
theorem d_c11_waits_49 : gJ b_c11_waits 49 (.goto (-36)) 3 (-36) 52 13 := ⟨by decide +kernel, rfl, by decide⟩
theorem d_c11_waits_52 : gD b_c11_waits 52 (.aload_n 0) 1 53 := ⟨by decide +kernel, rfl⟩
theorem d_c11_waits_53 : gD b_c11_waits 53 (.invokevirtual 168) 3 56 := ⟨by decide +kernel, rfl⟩
theorem d_c11_waits_56 : gJ b_c11_waits 56 (.ifCond .ne 10) 3 10 59 66 := ⟨by decide +kernel, rfl, by decide⟩
theorem d_c11_waits_59 : gD b_c11_waits 59 (.iconst (-1)) 1 60 := ⟨by decide +kernel, rfl⟩
theorem d_c11_waits_60 : gD b_c11_waits 60 (.aload_n 0) 1 61 := ⟨by decide +kernel, rfl⟩
theorem d_c11_waits_61 : gD b_c11_waits 61 (.getfield 133) 3 64 := ⟨by decide +kernel, rfl⟩
theorem d_c11_waits_64 : gD b_c11_waits 64 .isub 1 65 := ⟨by decide +kernel, rfl⟩
theorem d_c11_waits_65 : gD b_c11_waits 65 .ireturn 1 66 := ⟨by decide +kernel, rfl⟩
theorem d_c11_waits_66 : gD b_c11_waits 66 (.iconst 0) 1 67 := ⟨by decide +kernel, rfl⟩
theorem d_c11_waits_67 : gD b_c11_waits 67 (.istore_n 2) 1 68 := ⟨by decide +kernel, rfl⟩
theorem d_c11_waits_68 : gD b_c11_waits 68 (.iconst 1) 1 69 := ⟨by decide +kernel, rfl⟩
theorem d_c11_waits_69 : gD b_c11_waits 69 (.istore_n 3) 1 70 := ⟨by decide +kernel, rfl⟩
theorem d_c11_waits_70 : gD b_c11_waits 70 (.iload_n 3) 1 71 := ⟨by decide +kernel, rfl⟩
theorem d_c11_waits_71 : gD b_c11_waits 71 (.iload_n 1) 1 72 := ⟨by decide +kernel, rfl⟩
theorem d_c11_waits_72 : gJ b_c11_waits 72 (.if_icmp .ge 40) 3 40 75 112 := ⟨by decide +kernel, rfl, by decide⟩
theorem d_c11_waits_75 : gD b_c11_waits 75 (.aload_n 0) 1 76 := ⟨by decide +kernel, rfl⟩
theorem d_c11_waits_76 : gD b_c11_waits 76 (.getfield 34) 3 79 := ⟨by decide +kernel, rfl⟩
theorem d_c11_waits_79 : gD b_c11_waits 79 (.aload_n 0) 1 80 := ⟨by decide +kernel, rfl⟩
theorem d_c11_waits_80 : gD b_c11_waits 80 (.iload_n 3) 1 81 := ⟨by decide +kernel, rfl⟩
theorem d_c11_waits_81 : gD b_c11_waits 81 (.iload_n 1) 1 82 := ⟨by decide +kernel, rfl⟩
theorem d_c11_waits_82 : gD b_c11_waits 82 (.invokevirtual 359) 3 85 := ⟨by decide +kernel, rfl⟩
theorem d_c11_waits_85 : gD b_c11_waits 85 .iaload 1 86 := ⟨by decide +kernel, rfl⟩
theorem d_c11_waits_86 : gD b_c11_waits 86 (.aload_n 0) 1 87 := ⟨by decide +kernel, rfl⟩
theorem d_c11_waits_87 : gD b_c11_waits 87 (.getfield 34) 3 90 := ⟨by decide +kernel, rfl⟩
theorem d_c11_waits_90 : gD b_c11_waits 90 (.aload_n 0) 1 91 := ⟨by decide +kernel, rfl⟩
theorem d_c11_waits_91 : gD b_c11_waits 91 (.iload_n 2) 1 92 := ⟨by decide +kernel, rfl⟩
theorem d_c11_waits_92 : gD b_c11_waits 92 (.iload_n 1) 1 93 := ⟨by decide +kernel, rfl⟩
theorem d_c11_waits_93 : gD b_c11_waits 93 (.invokevirtual 359) 3 96 := ⟨by decide +kernel, rfl⟩
theorem d_c11_waits_96 : gD b_c11_waits 96 .iaload 1 97 := ⟨by decide +kernel, rfl⟩
theorem d_c11_waits_97 : gJ b_c11_waits 97 (.if_icmp .le 7) 3 7 100 104 := ⟨by decide +kernel, rfl, by decide⟩
theorem d_c11_waits_100 : gD b_c11_waits 100 (.iload_n 3) 1 101 := ⟨by decide +kernel, rfl⟩
theorem d_c11_waits_101 : gJ b_c11_waits 101 (.goto 4) 3 4 104 105 := ⟨by decide +kernel, rfl, by decide⟩
theorem d_c11_waits_104 : gD b_c11_waits 104 (.iload_n 2) 1 105 := ⟨by decide +kernel, rfl⟩
theorem d_c11_waits_105 : gD b_c11_waits 105 (.istore_n 2) 1 106 := ⟨by decide +kernel, rfl⟩
theorem d_c11_waits_106 : gD b_c11_waits 106 (.iinc 3 1) 3 109 := ⟨by decide +kernel, rfl⟩
theorem d_c11_waits_109 : gJ b_c11_waits 109 (.goto (-39)) 3 (-39) 112 70 := ⟨by decide +kernel, rfl, by decide⟩
theorem d_c11_waits_112 : gD b_c11_waits 112 (.aload_n 0) 1 113 := ⟨by decide +kernel, rfl⟩
theorem d_c11_waits_113 : gD b_c11_waits 113 (.iconst 0) 1 114 := ⟨by decide +kernel, rfl⟩
theorem d_c11_waits_114 : gD b_c11_waits 114 (.putfield 98) 3 117 := ⟨by decide +kernel, rfl⟩
theorem d_c11_waits_117 : gD b_c11_waits 117 (.aload_n 0) 1 118 := ⟨by decide +kernel, rfl⟩
theorem d_c11_waits_118 : gD b_c11_waits 118 (.iload_n 2) 1 119 := ⟨by decide +kernel, rfl⟩
theorem d_c11_waits_119 : gD b_c11_waits 119 .i2l 1 120 := ⟨by decide +kernel, rfl⟩
theorem d_c11_waits_120 : gD b_c11_waits 120 (.invokevirtual 268) 3 123 := ⟨by decide +kernel, rfl⟩
theorem d_c11_waits_123 : gD b_c11_waits 123 (.aload_n 0) 1 124 := ⟨by decide +kernel, rfl⟩
theorem d_c11_waits_124 : gD b_c11_waits 124 (.aload_n 0) 1 125 := ⟨by decide +kernel, rfl⟩
theorem d_c11_waits_125 : gD b_c11_waits 125 (.iload_n 2) 1 126 := ⟨by decide +kernel, rfl⟩
theorem d_c11_waits_126 : gD b_c11_waits 126 (.iload_n 1) 1 127 := ⟨by decide +kernel, rfl⟩
theorem d_c11_waits_127 : gD b_c11_waits 127 (.invokevirtual 359) 3 130 := ⟨by decide +kernel, rfl⟩
theorem d_c11_waits_130 : gD b_c11_waits 130 .i2l 1 131 := ⟨by decide +kernel, rfl⟩
theorem d_c11_waits_131 : gD b_c11_waits 131 (.invokevirtual 268) 3 134 := ⟨by decide +kernel, rfl⟩
theorem d_c11_waits_134 : gD b_c11_waits 134 (.aload_n 0) 1 135 := ⟨by decide +kernel, rfl⟩
theorem d_c11_waits_135 : gD b_c11_waits 135 (.getfield 34) 3 138 := ⟨by decide +kernel, rfl⟩
theorem d_c11_waits_138 : gD b_c11_waits 138 (.aload_n 0) 1 139 := ⟨by decide +kernel, rfl⟩
theorem d_c11_waits_139 : gD b_c11_waits 139 (.iload_n 2) 1 140 := ⟨by decide +kernel, rfl⟩
theorem d_c11_waits_140 : gD b_c11_waits 140 (.iload_n 1) 1 141 := ⟨by decide +kernel, rfl⟩
theorem d_c11_waits_141 : gD b_c11_waits 141 (.invokevirtual 359) 3 144 := ⟨by decide +kernel, rfl⟩
theorem d_c11_waits_144 : gD b_c11_waits 144 .iaload 1 145 := ⟨by decide +kernel, rfl⟩
theorem d_c11_waits_145 : gD b_c11_waits 145 .ireturn 1 146 := ⟨by decide +kernel, rfl⟩
def lp_c11_waits_13 (N : Nat) (a0 : Nat) : Nat → Int32 → gH → Option (Int32 × gH)
  | 0, _, _ => none
  | k + 1, x1, h =>
  (f_c11_fine N a0 h).bind fun q3 =>
    if q3 = 0 then
    some (x1, h)
  else
    if x1 = 0 then
    (gfR h a0 11 16).bind fun v6 =>
    (f_c11_oneOf N a0 (48 : Int32) (10 : Int32) h).bind fun q7 =>
    (sa 0 q7.2 v6 x1 q7.1).bind fun h8 =>
    lp_c11_waits_13 N a0 k (x1 + (1 : Int32)) h8
  else
    (f_c11_here N a0 h).bind fun q9 =>
    if q9 = (-1 : Int32) then
    some (x1, h)
  else
    (gfR h a0 11 16).bind fun v11 =>
    (f_c11_oneOf N a0 (48 : Int32) (10 : Int32) h).bind fun q12 =>
    (sa 0 q12.2 v11 x1 q12.1).bind fun h13 =>
    lp_c11_waits_13 N a0 k (x1 + (1 : Int32)) h13
def lp_c11_waits_70 (N : Nat) (a0 : Nat) (x1 : Int32) (h : gH) : Nat → Int32 → Int32 → Option (Int32)
  | 0, _, _ => none
  | k + 1, x2, x3 =>
  if x1 ≤ x3 then
    some x2
  else
    (gfR h a0 11 16).bind fun v18 =>
    (f_c11_takes N a0 x3 x1 h).bind fun q19 =>
    (ga 0 h v18 q19).bind fun v20 =>
    (gfR h a0 11 16).bind fun v21 =>
    (f_c11_takes N a0 x2 x1 h).bind fun q22 =>
    (ga 0 h v21 q22).bind fun v23 =>
    lp_c11_waits_70 N a0 x1 h k (if v20 ≤ v23 then x2 else x3) (x3 + (1 : Int32))
def f_c11_waits (N : Nat) (a0 : Nat) (h : gH) : Option (Int32 × gH) :=
  (gcl h a0 11).bind fun _ =>
  (sf h a0 11 10 (.int (0 : Int32))).bind fun h1 =>
    (f_c11_beginText N a0 (16 : Int32) h1).bind fun q2 =>
    (lp_c11_waits_13 N a0 N (0 : Int32) q2).bind fun o14 =>
    (f_c11_wasRight N a0 o14.2).bind fun q15 =>
    if q15.1 = 0 then
    (gfI q15.2 a0 11 15).bind fun v35 =>
    some ((-1 : Int32) - v35, q15.2)
  else
    (lp_c11_waits_70 N a0 o14.1 q15.2 N (0 : Int32) (1 : Int32)).bind fun o27 =>
    (sf q15.2 a0 11 9 (.int (0 : Int32))).bind fun h28 =>
    (f_c11_tell N a0 o27.toInt64 h28).bind fun q29 =>
    (f_c11_takes N a0 o27 o14.1 q29).bind fun q30 =>
    (f_c11_tell N a0 q30.toInt64 q29).bind fun q31 =>
    (gfR q31 a0 11 16).bind fun v32 =>
    (f_c11_takes N a0 o27 o14.1 q31).bind fun q33 =>
    (ga 0 q31 v32 q33).bind fun v34 =>
    some (v34, q31)
set_option maxHeartbeats 4000000 in
set_option maxRecDepth 100000 in
theorem wlp_c11_waits_13 {M : gM} {X : gX} {N : Nat} (hx : gEx X = false) (K : gC M X gN11 b_c11_waits 4 (gRm (4 + N) 0 0)) (a0 : Nat) : ∀ (k : Nat) (x1 : Int32) (h : gH) (o : Int32 × gH), lp_c11_waits_13 N a0 k x1 h = some o → gG M X 4 0 0 52 [(0, .ref a0), (1, .int o.1)] [] o.2 → gG M X 4 0 0 13 [(0, .ref a0), (1, .int x1)] [] h := by
  intro k
  induction k with
  | zero =>
    intro x1 h o hy
    rw [lp_c11_waits_13.eq_1] at hy
    cases hy
  | succ k ih =>
    intro x1 h o hy hE
    rw [lp_c11_waits_13.eq_2] at hy
    refine g_aload_n K d_c11_waits_13 0 rfl ?_
    obtain ⟨q3, e_q3, hy⟩ := gBd hy
    refine g_callVi (rest := []) K hx ly_c11_fine kv_c11_140 d_c11_waits_14 (ct_c11_fine M.2.1 X hx N a0 h q3 e_q3) rfl rfl (Nat.le_of_ble_eq_true rfl) (gDep rfl) ⟨Nat.le_refl 0, Nat.le_refl 0⟩ ?_
    refine g_if_eq K d_c11_waits_17 (fun c4 => ?_) (fun c4 => ?_)
    · rw [if_pos c4] at hy
      obtain rfl := Option.some.inj hy
      exact hE
    · rw [if_neg c4] at hy
      refine g_iload_n K d_c11_waits_20 1 rfl ?_
      refine g_if_eq K d_c11_waits_21 (fun c5 => ?_) (fun c5 => ?_)
      · rw [if_pos c5] at hy
        refine g_aload_n K d_c11_waits_32 0 rfl ?_
        obtain ⟨v6, e_v6, hy⟩ := gBd hy
        refine g_getR K fl_c11_34 d_c11_waits_33 e_v6 ?_
        refine g_iload_n K d_c11_waits_36 1 rfl ?_
        refine g_aload_n K d_c11_waits_37 0 rfl ?_
        refine g_bipush (v := 48) K d_c11_waits_38 (by decide) ?_
        refine g_bipush (v := 10) K d_c11_waits_40 (by decide) ?_
        obtain ⟨q7, e_q7, hy⟩ := gBd hy
        refine g_callVi (rest := [.int x1, .ref v6]) K hx ly_c11_oneOf kv_c11_155 d_c11_waits_42 (ct_c11_oneOf M.2.1 X hx N a0 (48 : Int32) (10 : Int32) h q7 e_q7) rfl rfl (Nat.le_of_ble_eq_true rfl) (gDep rfl) ⟨Nat.le_refl 0, Nat.le_refl 0⟩ ?_
        obtain ⟨h8, e_h8, hy⟩ := gBd hy
        refine g_iast K d_c11_waits_45 e_h8 ?_
        refine g_iinc (ls2 := [(1, .int (x1 + (1 : Int32))), (0, .ref a0)]) (v := 1) K d_c11_waits_46 1 rfl (by decide) rfl rfl ?_
        refine g_goto K d_c11_waits_49 ?_
        refine g_sub (ls2 := [(0, .ref a0), (1, .int (x1 + (1 : Int32)))]) [1, 0] rfl ?_
        exact ih _ _ _ hy hE
      · rw [if_neg c5] at hy
        refine g_aload_n K d_c11_waits_24 0 rfl ?_
        obtain ⟨q9, e_q9, hy⟩ := gBd hy
        refine g_callVi (rest := []) K hx ly_c11_here kv_c11_144 d_c11_waits_25 (ct_c11_here M.2.1 X hx N a0 h q9 e_q9) rfl rfl (Nat.le_of_ble_eq_true rfl) (gDep rfl) ⟨Nat.le_refl 0, Nat.le_refl 0⟩ ?_
        refine g_iconst (v := (-1)) K d_c11_waits_28 (by decide) ?_
        refine g_icmp_eq K d_c11_waits_29 (fun c10 => ?_) (fun c10 => ?_)
        · rw [if_pos c10] at hy
          obtain rfl := Option.some.inj hy
          exact hE
        · rw [if_neg c10] at hy
          refine g_aload_n K d_c11_waits_32 0 rfl ?_
          obtain ⟨v11, e_v11, hy⟩ := gBd hy
          refine g_getR K fl_c11_34 d_c11_waits_33 e_v11 ?_
          refine g_iload_n K d_c11_waits_36 1 rfl ?_
          refine g_aload_n K d_c11_waits_37 0 rfl ?_
          refine g_bipush (v := 48) K d_c11_waits_38 (by decide) ?_
          refine g_bipush (v := 10) K d_c11_waits_40 (by decide) ?_
          obtain ⟨q12, e_q12, hy⟩ := gBd hy
          refine g_callVi (rest := [.int x1, .ref v11]) K hx ly_c11_oneOf kv_c11_155 d_c11_waits_42 (ct_c11_oneOf M.2.1 X hx N a0 (48 : Int32) (10 : Int32) h q12 e_q12) rfl rfl (Nat.le_of_ble_eq_true rfl) (gDep rfl) ⟨Nat.le_refl 0, Nat.le_refl 0⟩ ?_
          obtain ⟨h13, e_h13, hy⟩ := gBd hy
          refine g_iast K d_c11_waits_45 e_h13 ?_
          refine g_iinc (ls2 := [(1, .int (x1 + (1 : Int32))), (0, .ref a0)]) (v := 1) K d_c11_waits_46 1 rfl (by decide) rfl rfl ?_
          refine g_goto K d_c11_waits_49 ?_
          refine g_sub (ls2 := [(0, .ref a0), (1, .int (x1 + (1 : Int32)))]) [1, 0] rfl ?_
          exact ih _ _ _ hy hE
set_option maxHeartbeats 4000000 in
set_option maxRecDepth 100000 in
theorem wlp_c11_waits_70 {M : gM} {X : gX} {N : Nat} (hx : gEx X = false) (K : gC M X gN11 b_c11_waits 4 (gRm (4 + N) 0 0)) (a0 : Nat) (x1 : Int32) (h : gH) : ∀ (k : Nat) (x2 : Int32) (x3 : Int32) (o : Int32), lp_c11_waits_70 N a0 x1 h k x2 x3 = some o → gG M X 4 0 0 112 [(0, .ref a0), (1, .int x1), (2, .int o)] [] h → gG M X 4 0 0 70 [(0, .ref a0), (1, .int x1), (2, .int x2), (3, .int x3)] [] h := by
  intro k
  induction k with
  | zero =>
    intro x2 x3 o hy
    rw [lp_c11_waits_70.eq_1] at hy
    cases hy
  | succ k ih =>
    intro x2 x3 o hy hE
    rw [lp_c11_waits_70.eq_2] at hy
    refine g_iload_n K d_c11_waits_70 3 rfl ?_
    refine g_iload_n K d_c11_waits_71 1 rfl ?_
    refine g_icmp_ge K d_c11_waits_72 (fun c17 => ?_) (fun c17 => ?_)
    · rw [if_pos c17] at hy
      refine g_sub (ls2 := [(0, .ref a0), (1, .int x1), (2, .int x2)]) [0, 1, 2] rfl ?_
      obtain rfl := Option.some.inj hy
      exact hE
    · rw [if_neg c17] at hy
      refine g_aload_n K d_c11_waits_75 0 rfl ?_
      obtain ⟨v18, e_v18, hy⟩ := gBd hy
      refine g_getR K fl_c11_34 d_c11_waits_76 e_v18 ?_
      refine g_aload_n K d_c11_waits_79 0 rfl ?_
      refine g_iload_n K d_c11_waits_80 3 rfl ?_
      refine g_iload_n K d_c11_waits_81 1 rfl ?_
      obtain ⟨q19, e_q19, hy⟩ := gBd hy
      refine g_callVi (rest := [.ref v18]) K hx ly_c11_takes kv_c11_359 d_c11_waits_82 (ct_c11_takes M.2.1 X hx N a0 x3 x1 h q19 e_q19) rfl rfl (Nat.le_of_ble_eq_true rfl) (gDep rfl) ⟨Nat.le_refl 0, Nat.le_refl 0⟩ ?_
      obtain ⟨v20, e_v20, hy⟩ := gBd hy
      refine g_iald K d_c11_waits_85 e_v20 ?_
      refine g_aload_n K d_c11_waits_86 0 rfl ?_
      obtain ⟨v21, e_v21, hy⟩ := gBd hy
      refine g_getR K fl_c11_34 d_c11_waits_87 e_v21 ?_
      refine g_aload_n K d_c11_waits_90 0 rfl ?_
      refine g_iload_n K d_c11_waits_91 2 rfl ?_
      refine g_iload_n K d_c11_waits_92 1 rfl ?_
      obtain ⟨q22, e_q22, hy⟩ := gBd hy
      refine g_callVi (rest := [.ref v21, .int v20]) K hx ly_c11_takes kv_c11_359 d_c11_waits_93 (ct_c11_takes M.2.1 X hx N a0 x2 x1 h q22 e_q22) rfl rfl (Nat.le_of_ble_eq_true rfl) (gDep rfl) ⟨Nat.le_refl 0, Nat.le_refl 0⟩ ?_
      obtain ⟨v23, e_v23, hy⟩ := gBd hy
      refine g_iald K d_c11_waits_96 e_v23 ?_
      have hJ26 : ∀ w25 : Int32, w25 = (if v20 ≤ v23 then x2 else x3) → gG M X 4 0 0 105 [(0, .ref a0), (1, .int x1), (2, .int x2), (3, .int x3)] [.int w25] h := by
        intro w25 e_w25
        subst e_w25
        refine g_istore_n (ls2 := [(2, .int (if v20 ≤ v23 then x2 else x3)), (0, .ref a0), (1, .int x1), (3, .int x3)]) K d_c11_waits_105 rfl rfl ?_
        refine g_iinc (ls2 := [(3, .int (x3 + (1 : Int32))), (2, .int (if v20 ≤ v23 then x2 else x3)), (0, .ref a0), (1, .int x1)]) (v := 1) K d_c11_waits_106 3 rfl (by decide) rfl rfl ?_
        refine g_goto K d_c11_waits_109 ?_
        refine g_sub (ls2 := [(0, .ref a0), (1, .int x1), (2, .int (if v20 ≤ v23 then x2 else x3)), (3, .int (x3 + (1 : Int32)))]) [2, 3, 1, 0] rfl ?_
        exact ih _ _ _ hy hE
      refine g_icmp_le K d_c11_waits_97 (fun c24 => ?_) (fun c24 => ?_)
      · refine g_iload_n K d_c11_waits_104 2 rfl ?_
        exact hJ26 _ (by rw [if_pos c24])
      · refine g_iload_n K d_c11_waits_100 3 rfl ?_
        refine g_goto K d_c11_waits_101 ?_
        exact hJ26 _ (by rw [if_neg c24])
set_option maxHeartbeats 4000000 in
set_option maxRecDepth 100000 in
theorem ct_c11_waits (l : Launch) (X : gX) (hx : gEx X = false) (N : Nat) (a0 : Nat) (h : gH) (q : Int32 × gH) (hy : f_c11_waits N a0 h = some q) : gRc y_c11_waits h a0 ∧ gMi l X y_c11_waits b_c11_waits 4 .int (4 + N) 0 0 [.ref a0] h q.1 q.2 := by
  unfold f_c11_waits at hy
  obtain ⟨u0, e_u0, hy⟩ := gBd hy
  cases u0
  refine ⟨Or.inl ⟨11, _, _, e_u0, rfl⟩, gMet_i (lsx := [(0, .ref a0)]) (by decide) rfl rfl ?_⟩
  intro M hMl K hret
  subst hMl
  refine g_aload_n K d_c11_waits_0 0 rfl ?_
  refine g_iconst (v := 0) K d_c11_waits_1 (by decide) ?_
  obtain ⟨h1, e_h1, hy⟩ := gBd hy
  refine g_putI K fp_c11_95 d_c11_waits_2 e_h1 ?_
  refine g_aload_n K d_c11_waits_5 0 rfl ?_
  refine g_bipush (v := 16) K d_c11_waits_6 (by decide) ?_
  obtain ⟨q2, e_q2, hy⟩ := gBd hy
  refine g_callVv (rest := []) K hx ly_c11_beginText kv_c11_165 d_c11_waits_8 (ct_c11_beginText M.2.1 X hx N a0 (16 : Int32) h1 q2 e_q2) rfl rfl (Nat.le_of_ble_eq_true rfl) (gDep rfl) ⟨Nat.le_refl 0, Nat.le_refl 0⟩ ?_
  refine g_iconst (v := 0) K d_c11_waits_11 (by decide) ?_
  refine g_istore_n (ls2 := [(1, .int (0 : Int32)), (0, .ref a0)]) K d_c11_waits_12 rfl rfl ?_
  obtain ⟨o14, e_o14, hy⟩ := gBd hy
  refine g_sub (ls2 := [(0, .ref a0), (1, .int (0 : Int32))]) [1, 0] rfl ?_
  refine wlp_c11_waits_13 hx K a0 N (0 : Int32) q2 o14 e_o14 ?_
  refine g_aload_n K d_c11_waits_52 0 rfl ?_
  obtain ⟨q15, e_q15, hy⟩ := gBd hy
  refine g_callVi (rest := []) K hx ly_c11_wasRight kv_c11_168 d_c11_waits_53 (ct_c11_wasRight M.2.1 X hx N a0 o14.2 q15 e_q15) rfl rfl (Nat.le_of_ble_eq_true rfl) (gDep rfl) ⟨Nat.le_refl 0, Nat.le_refl 0⟩ ?_
  refine g_if_ne K d_c11_waits_56 (fun c16 => ?_) (fun c16 => ?_)
  · rw [if_neg c16] at hy
    refine g_iconst (v := 0) K d_c11_waits_66 (by decide) ?_
    refine g_istore_n (ls2 := [(2, .int (0 : Int32)), (0, .ref a0), (1, .int o14.1)]) K d_c11_waits_67 rfl rfl ?_
    refine g_iconst (v := 1) K d_c11_waits_68 (by decide) ?_
    refine g_istore_n (ls2 := [(3, .int (1 : Int32)), (2, .int (0 : Int32)), (0, .ref a0), (1, .int o14.1)]) K d_c11_waits_69 rfl rfl ?_
    obtain ⟨o27, e_o27, hy⟩ := gBd hy
    refine g_sub (ls2 := [(0, .ref a0), (1, .int o14.1), (2, .int (0 : Int32)), (3, .int (1 : Int32))]) [2, 3, 1, 0] rfl ?_
    refine wlp_c11_waits_70 hx K a0 o14.1 q15.2 N (0 : Int32) (1 : Int32) o27 e_o27 ?_
    refine g_aload_n K d_c11_waits_112 0 rfl ?_
    refine g_iconst (v := 0) K d_c11_waits_113 (by decide) ?_
    obtain ⟨h28, e_h28, hy⟩ := gBd hy
    refine g_putI K fp_c11_98 d_c11_waits_114 e_h28 ?_
    refine g_aload_n K d_c11_waits_117 0 rfl ?_
    refine g_iload_n K d_c11_waits_118 2 rfl ?_
    refine g_i2l K d_c11_waits_119 ?_
    obtain ⟨q29, e_q29, hy⟩ := gBd hy
    refine g_callVv (rest := []) K hx ly_c11_tell kv_c11_268 d_c11_waits_120 (ct_c11_tell M.2.1 X hx N a0 o27.toInt64 h28 q29 e_q29) rfl rfl (Nat.le_of_ble_eq_true rfl) (gDep rfl) ⟨Nat.le_refl 0, Nat.le_refl 0⟩ ?_
    refine g_aload_n K d_c11_waits_123 0 rfl ?_
    refine g_aload_n K d_c11_waits_124 0 rfl ?_
    refine g_iload_n K d_c11_waits_125 2 rfl ?_
    refine g_iload_n K d_c11_waits_126 1 rfl ?_
    obtain ⟨q30, e_q30, hy⟩ := gBd hy
    refine g_callVi (rest := [.ref a0]) K hx ly_c11_takes kv_c11_359 d_c11_waits_127 (ct_c11_takes M.2.1 X hx N a0 o27 o14.1 q29 q30 e_q30) rfl rfl (Nat.le_of_ble_eq_true rfl) (gDep rfl) ⟨Nat.le_refl 0, Nat.le_refl 0⟩ ?_
    refine g_i2l K d_c11_waits_130 ?_
    obtain ⟨q31, e_q31, hy⟩ := gBd hy
    refine g_callVv (rest := []) K hx ly_c11_tell kv_c11_268 d_c11_waits_131 (ct_c11_tell M.2.1 X hx N a0 q30.toInt64 q29 q31 e_q31) rfl rfl (Nat.le_of_ble_eq_true rfl) (gDep rfl) ⟨Nat.le_refl 0, Nat.le_refl 0⟩ ?_
    refine g_aload_n K d_c11_waits_134 0 rfl ?_
    obtain ⟨v32, e_v32, hy⟩ := gBd hy
    refine g_getR K fl_c11_34 d_c11_waits_135 e_v32 ?_
    refine g_aload_n K d_c11_waits_138 0 rfl ?_
    refine g_iload_n K d_c11_waits_139 2 rfl ?_
    refine g_iload_n K d_c11_waits_140 1 rfl ?_
    obtain ⟨q33, e_q33, hy⟩ := gBd hy
    refine g_callVi (rest := [.ref v32]) K hx ly_c11_takes kv_c11_359 d_c11_waits_141 (ct_c11_takes M.2.1 X hx N a0 o27 o14.1 q31 q33 e_q33) rfl rfl (Nat.le_of_ble_eq_true rfl) (gDep rfl) ⟨Nat.le_refl 0, Nat.le_refl 0⟩ ?_
    obtain ⟨v34, e_v34, hy⟩ := gBd hy
    refine g_iald K d_c11_waits_144 e_v34 ?_
    obtain rfl := Option.some.inj hy
    exact hret rfl _ _ _ d_c11_waits_145
  · rw [if_pos c16] at hy
    refine g_iconst (v := (-1)) K d_c11_waits_59 (by decide) ?_
    refine g_aload_n K d_c11_waits_60 0 rfl ?_
    obtain ⟨v35, e_v35, hy⟩ := gBd hy
    refine g_getI K fl_c11_133 d_c11_waits_61 e_v35 ?_
    refine g_isub K d_c11_waits_64 ?_
    obtain rfl := Option.some.inj hy
    exact hret rfl _ _ _ d_c11_waits_65
-- c1 read
theorem d_c1_read_0 : gD b_c1_read 0 (.aload_n 0) 1 1 := ⟨by decide +kernel, rfl⟩
theorem d_c1_read_1 : gD b_c1_read 1 (.aload_n 1) 1 2 := ⟨by decide +kernel, rfl⟩
theorem d_c1_read_2 : gD b_c1_read 2 (.iconst 0) 1 3 := ⟨by decide +kernel, rfl⟩
theorem d_c1_read_3 : gD b_c1_read 3 (.bipush 80) 2 5 := ⟨by decide +kernel, rfl⟩
theorem d_c1_read_5 : gD b_c1_read 5 (.invokevirtual 28) 3 8 := ⟨by decide +kernel, rfl⟩
theorem d_c1_read_8 : gD b_c1_read 8 (.putfield 9) 3 11 := ⟨by decide +kernel, rfl⟩
theorem d_c1_read_11 : gD b_c1_read 11 (.aload_n 0) 1 12 := ⟨by decide +kernel, rfl⟩
theorem d_c1_read_12 : gD b_c1_read 12 (.aload_n 1) 1 13 := ⟨by decide +kernel, rfl⟩
theorem d_c1_read_13 : gD b_c1_read 13 (.iconst 1) 1 14 := ⟨by decide +kernel, rfl⟩
theorem d_c1_read_14 : gD b_c1_read 14 (.bipush 80) 2 16 := ⟨by decide +kernel, rfl⟩
theorem d_c1_read_16 : gD b_c1_read 16 (.invokevirtual 28) 3 19 := ⟨by decide +kernel, rfl⟩
theorem d_c1_read_19 : gD b_c1_read 19 (.putfield 15) 3 22 := ⟨by decide +kernel, rfl⟩
theorem d_c1_read_22 : gD b_c1_read 22 (.aload_n 0) 1 23 := ⟨by decide +kernel, rfl⟩
theorem d_c1_read_23 : gD b_c1_read 23 (.iconst 0) 1 24 := ⟨by decide +kernel, rfl⟩
theorem d_c1_read_24 : gD b_c1_read 24 (.putfield 40) 3 27 := ⟨by decide +kernel, rfl⟩
theorem d_c1_read_27 : gD b_c1_read 27 (.iconst 2) 1 28 := ⟨by decide +kernel, rfl⟩
theorem d_c1_read_28 : gD b_c1_read 28 (.istore_n 2) 1 29 := ⟨by decide +kernel, rfl⟩
theorem d_c1_read_29 : gD b_c1_read 29 (.iload_n 2) 1 30 := ⟨by decide +kernel, rfl⟩
theorem d_c1_read_30 : gD b_c1_read 30 (.aload_n 1) 1 31 := ⟨by decide +kernel, rfl⟩
theorem d_c1_read_31 : gD b_c1_read 31 (.getfield 37) 3 34 := ⟨by decide +kernel, rfl⟩
theorem d_c1_read_34 : gJ b_c1_read 34 (.if_icmp .ge 62) 3 62 37 96 := ⟨by decide +kernel, rfl, by decide⟩
theorem d_c1_read_37 : gD b_c1_read 37 (.aload_n 1) 1 38 := ⟨by decide +kernel, rfl⟩
theorem d_c1_read_38 : gD b_c1_read 38 (.iload_n 2) 1 39 := ⟨by decide +kernel, rfl⟩
theorem d_c1_read_39 : gD b_c1_read 39 (.bipush 80) 2 41 := ⟨by decide +kernel, rfl⟩
theorem d_c1_read_41 : gD b_c1_read 41 (.invokevirtual 28) 3 44 := ⟨by decide +kernel, rfl⟩
theorem d_c1_read_44 : gD b_c1_read 44 (.istore_n 3) 1 45 := ⟨by decide +kernel, rfl⟩
theorem d_c1_read_45 : gD b_c1_read 45 (.iload_n 3) 1 46 := ⟨by decide +kernel, rfl⟩
theorem d_c1_read_46 : gJ b_c1_read 46 (.ifCond .le 44) 3 44 49 90 := ⟨by decide +kernel, rfl, by decide⟩
theorem d_c1_read_49 : gD b_c1_read 49 (.aload_n 0) 1 50 := ⟨by decide +kernel, rfl⟩
theorem d_c1_read_50 : gD b_c1_read 50 (.getfield 40) 3 53 := ⟨by decide +kernel, rfl⟩
theorem d_c1_read_53 : gD b_c1_read 53 (.bipush 6) 2 55 := ⟨by decide +kernel, rfl⟩
theorem d_c1_read_55 : gJ b_c1_read 55 (.if_icmp .ge 35) 3 35 58 90 := ⟨by decide +kernel, rfl, by decide⟩
theorem d_c1_read_58 : gD b_c1_read 58 (.aload_n 0) 1 59 := ⟨by decide +kernel, rfl⟩
theorem d_c1_read_59 : gD b_c1_read 59 (.getfield 18) 3 62 := ⟨by decide +kernel, rfl⟩
theorem d_c1_read_62 : gD b_c1_read 62 (.aload_n 0) 1 63 := ⟨by decide +kernel, rfl⟩
theorem d_c1_read_63 : gD b_c1_read 63 (.getfield 40) 3 66 := ⟨by decide +kernel, rfl⟩
theorem d_c1_read_66 : gD b_c1_read 66 (.iload_n 2) 1 67 := ⟨by decide +kernel, rfl⟩
theorem d_c1_read_67 : gD b_c1_read 67 (.iconst 2) 1 68 := ⟨by decide +kernel, rfl⟩
theorem d_c1_read_68 : gD b_c1_read 68 .isub 1 69 := ⟨by decide +kernel, rfl⟩
theorem d_c1_read_69 : gD b_c1_read 69 .iastore 1 70 := ⟨by decide +kernel, rfl⟩
theorem d_c1_read_70 : gD b_c1_read 70 (.aload_n 0) 1 71 := ⟨by decide +kernel, rfl⟩
theorem d_c1_read_71 : gD b_c1_read 71 (.getfield 22) 3 74 := ⟨by decide +kernel, rfl⟩
theorem d_c1_read_74 : gD b_c1_read 74 (.aload_n 0) 1 75 := ⟨by decide +kernel, rfl⟩
theorem d_c1_read_75 : gD b_c1_read 75 (.getfield 40) 3 78 := ⟨by decide +kernel, rfl⟩
theorem d_c1_read_78 : gD b_c1_read 78 (.iload_n 3) 1 79 := ⟨by decide +kernel, rfl⟩
theorem d_c1_read_79 : gD b_c1_read 79 .iastore 1 80 := ⟨by decide +kernel, rfl⟩
theorem d_c1_read_80 : gD b_c1_read 80 (.aload_n 0) 1 81 := ⟨by decide +kernel, rfl⟩
theorem d_c1_read_81 : gD b_c1_read 81 .dup 1 82 := ⟨by decide +kernel, rfl⟩
theorem d_c1_read_82 : gD b_c1_read 82 (.getfield 40) 3 85 := ⟨by decide +kernel, rfl⟩
theorem d_c1_read_85 : gD b_c1_read 85 (.iconst 1) 1 86 := ⟨by decide +kernel, rfl⟩
theorem d_c1_read_86 : gD b_c1_read 86 .iadd 1 87 := ⟨by decide +kernel, rfl⟩
theorem d_c1_read_87 : gD b_c1_read 87 (.putfield 40) 3 90 := ⟨by decide +kernel, rfl⟩
theorem d_c1_read_90 : gD b_c1_read 90 (.iinc 2 1) 3 93 := ⟨by decide +kernel, rfl⟩
theorem d_c1_read_93 : gJ b_c1_read 93 (.goto (-64)) 3 (-64) 96 29 := ⟨by decide +kernel, rfl, by decide⟩
theorem d_c1_read_96 : gD b_c1_read 96 (.iconst 0) 1 97 := ⟨by decide +kernel, rfl⟩
theorem d_c1_read_97 : gD b_c1_read 97 (.istore_n 2) 1 98 := ⟨by decide +kernel, rfl⟩
theorem d_c1_read_98 : gD b_c1_read 98 (.iload_n 2) 1 99 := ⟨by decide +kernel, rfl⟩
theorem d_c1_read_99 : gD b_c1_read 99 (.aload_n 0) 1 100 := ⟨by decide +kernel, rfl⟩
theorem d_c1_read_100 : gD b_c1_read 100 (.invokevirtual 43) 3 103 := ⟨by decide +kernel, rfl⟩
theorem d_c1_read_103 : gJ b_c1_read 103 (.if_icmp .ge 21) 3 21 106 124 := ⟨by decide +kernel, rfl, by decide⟩
theorem d_c1_read_106 : gD b_c1_read 106 (.aload_n 0) 1 107 := ⟨by decide +kernel, rfl⟩
theorem d_c1_read_107 : gD b_c1_read 107 (.getfield 25) 3 110 := ⟨by decide +kernel, rfl⟩
theorem d_c1_read_110 : gD b_c1_read 110 (.iload_n 2) 1 111 := ⟨by decide +kernel, rfl⟩
theorem d_c1_read_111 : gD b_c1_read 111 (.aload_n 0) 1 112 := ⟨by decide +kernel, rfl⟩
theorem d_c1_read_112 : gD b_c1_read 112 (.iload_n 2) 1 113 := ⟨by decide +kernel, rfl⟩
theorem d_c1_read_113 : gD b_c1_read 113 (.iconst 2) 1 114 := ⟨by decide +kernel, rfl⟩
theorem d_c1_read_114 : gD b_c1_read 114 (.invokevirtual 47) 3 117 := ⟨by decide +kernel, rfl⟩
theorem d_c1_read_117 : gD b_c1_read 117 .iastore 1 118 := ⟨by decide +kernel, rfl⟩
theorem d_c1_read_118 : gD b_c1_read 118 (.iinc 2 1) 3 121 := ⟨by decide +kernel, rfl⟩
theorem d_c1_read_121 : gJ b_c1_read 121 (.goto (-23)) 3 (-23) 124 98 := ⟨by decide +kernel, rfl, by decide⟩
theorem d_c1_read_124 : gD b_c1_read 124 .return_ 1 125 := ⟨by decide +kernel, rfl⟩
def lp_c1_read_29 (N : Nat) (a0 : Nat) (a1 : Nat) : Nat → Int32 → gH → Option (gH)
  | 0, _, _ => none
  | k + 1, x2, h =>
  (gfI h a1 8 1).bind fun v6 =>
    if v6 ≤ x2 then
    some h
  else
    (f_c8_digit N a1 x2 (80 : Int32) h).bind fun q8 =>
    (show Option (gH) from if q8 ≤ 0 then
    some h
  else
    (gfI h a0 1 2).bind fun v12 =>
    if (6 : Int32) ≤ v12 then
    some h
  else
    (gfR h a0 1 3).bind fun v14 =>
    (gfI h a0 1 2).bind fun v15 =>
    (sa 0 h v14 v15 (x2 - (2 : Int32))).bind fun h16 =>
    (gfR h16 a0 1 4).bind fun v17 =>
    (gfI h16 a0 1 2).bind fun v18 =>
    (sa 0 h16 v17 v18 q8).bind fun h19 =>
    (gfI h19 a0 1 2).bind fun v20 =>
    (sf h19 a0 1 2 (.int (v20 + (1 : Int32)))).bind fun h21 =>
    some h21).bind fun t10 =>
    lp_c1_read_29 N a0 a1 k (x2 + (1 : Int32)) t10
def lp_c1_read_98 (N : Nat) (a0 : Nat) : Nat → Int32 → gH → Option (gH)
  | 0, _, _ => none
  | k + 1, x2, h =>
  (f_c1_fields N a0 h).bind fun q23 =>
    if q23 ≤ x2 then
    some h
  else
    (gfR h a0 1 5).bind fun v25 =>
    (f_c1_villagesNear N a0 x2 (2 : Int32) h).bind fun q26 =>
    (sa 0 h v25 x2 q26).bind fun h27 =>
    lp_c1_read_98 N a0 k (x2 + (1 : Int32)) h27
def f_c1_read (N : Nat) (a0 : Nat) (a1 : Nat) (h : gH) : Option (gH) :=
  (gcl h a0 1).bind fun _ =>
  (f_c8_digit N a1 (0 : Int32) (80 : Int32) h).bind fun q1 =>
    (sf h a0 1 0 (.int q1)).bind fun h2 =>
    (f_c8_digit N a1 (1 : Int32) (80 : Int32) h2).bind fun q3 =>
    (sf h2 a0 1 1 (.int q3)).bind fun h4 =>
    (sf h4 a0 1 2 (.int (0 : Int32))).bind fun h5 =>
    (lp_c1_read_29 N a0 a1 N (2 : Int32) h5).bind fun o22 =>
    (lp_c1_read_98 N a0 N (0 : Int32) o22).bind fun o28 =>
    some o28
set_option maxHeartbeats 4000000 in
set_option maxRecDepth 100000 in
theorem wlp_c1_read_29 {M : gM} {X : gX} {N : Nat} (hx : gEx X = false) (K : gC M X gN1 b_c1_read 4 (gRm (4 + N) 0 0)) (a0 : Nat) (a1 : Nat) : ∀ (k : Nat) (x2 : Int32) (h : gH) (o : gH), lp_c1_read_29 N a0 a1 k x2 h = some o → gG M X 4 0 0 96 [(0, .ref a0)] [] o → gG M X 4 0 0 29 [(0, .ref a0), (1, .ref a1), (2, .int x2)] [] h := by
  intro k
  induction k with
  | zero =>
    intro x2 h o hy
    rw [lp_c1_read_29.eq_1] at hy
    cases hy
  | succ k ih =>
    intro x2 h o hy hE
    rw [lp_c1_read_29.eq_2] at hy
    refine g_iload_n K d_c1_read_29 2 rfl ?_
    refine g_aload_n K d_c1_read_30 1 rfl ?_
    obtain ⟨v6, e_v6, hy⟩ := gBd hy
    refine g_getI K fl_c1_37 d_c1_read_31 e_v6 ?_
    refine g_icmp_ge K d_c1_read_34 (fun c7 => ?_) (fun c7 => ?_)
    · rw [if_pos c7] at hy
      refine g_sub (ls2 := [(0, .ref a0)]) [0] rfl ?_
      obtain rfl := Option.some.inj hy
      exact hE
    · rw [if_neg c7] at hy
      refine g_aload_n K d_c1_read_37 1 rfl ?_
      refine g_iload_n K d_c1_read_38 2 rfl ?_
      refine g_bipush (v := 80) K d_c1_read_39 (by decide) ?_
      obtain ⟨q8, e_q8, hy⟩ := gBd hy
      refine g_callVi (rest := []) K hx ly_c8_digit kv_c1_28 d_c1_read_41 (ct_c8_digit M.2.1 X hx N a1 x2 (80 : Int32) h q8 e_q8) rfl rfl (Nat.le_of_ble_eq_true rfl) (gDep rfl) ⟨Nat.le_refl 0, Nat.le_refl 0⟩ ?_
      refine g_istore_n (ls2 := [(3, .int q8), (0, .ref a0), (1, .ref a1), (2, .int x2)]) K d_c1_read_44 rfl rfl ?_
      refine g_iload_n K d_c1_read_45 0 rfl ?_
      obtain ⟨t10, e_t10, hy⟩ := gBd hy
      have hJ11 : gG M X 4 0 0 90 [(0, .ref a0), (1, .ref a1), (2, .int x2)] [] t10 := by
        refine g_iinc (ls2 := [(2, .int (x2 + (1 : Int32))), (0, .ref a0), (1, .ref a1)]) (v := 1) K d_c1_read_90 2 rfl (by decide) rfl rfl ?_
        refine g_goto K d_c1_read_93 ?_
        refine g_sub (ls2 := [(0, .ref a0), (1, .ref a1), (2, .int (x2 + (1 : Int32)))]) [1, 2, 0] rfl ?_
        exact ih _ _ _ hy hE
      refine g_if_le K d_c1_read_46 (fun c9 => ?_) (fun c9 => ?_)
      · rw [if_pos c9] at e_t10
        refine g_sub (ls2 := [(0, .ref a0), (1, .ref a1), (2, .int x2)]) [1, 2, 3] rfl ?_
        obtain rfl := Option.some.inj e_t10
        exact hJ11
      · rw [if_neg c9] at e_t10
        refine g_aload_n K d_c1_read_49 1 rfl ?_
        obtain ⟨v12, e_v12, e_t10⟩ := gBd e_t10
        refine g_getI K fl_c1_40 d_c1_read_50 e_v12 ?_
        refine g_bipush (v := 6) K d_c1_read_53 (by decide) ?_
        refine g_icmp_ge K d_c1_read_55 (fun c13 => ?_) (fun c13 => ?_)
        · rw [if_pos c13] at e_t10
          refine g_sub (ls2 := [(0, .ref a0), (1, .ref a1), (2, .int x2)]) [1, 2, 3] rfl ?_
          obtain rfl := Option.some.inj e_t10
          exact hJ11
        · rw [if_neg c13] at e_t10
          refine g_aload_n K d_c1_read_58 1 rfl ?_
          obtain ⟨v14, e_v14, e_t10⟩ := gBd e_t10
          refine g_getR K fl_c1_18 d_c1_read_59 e_v14 ?_
          refine g_aload_n K d_c1_read_62 1 rfl ?_
          obtain ⟨v15, e_v15, e_t10⟩ := gBd e_t10
          refine g_getI K fl_c1_40 d_c1_read_63 e_v15 ?_
          refine g_iload_n K d_c1_read_66 3 rfl ?_
          refine g_iconst (v := 2) K d_c1_read_67 (by decide) ?_
          refine g_isub K d_c1_read_68 ?_
          obtain ⟨h16, e_h16, e_t10⟩ := gBd e_t10
          refine g_iast K d_c1_read_69 e_h16 ?_
          refine g_aload_n K d_c1_read_70 1 rfl ?_
          obtain ⟨v17, e_v17, e_t10⟩ := gBd e_t10
          refine g_getR K fl_c1_22 d_c1_read_71 e_v17 ?_
          refine g_aload_n K d_c1_read_74 1 rfl ?_
          obtain ⟨v18, e_v18, e_t10⟩ := gBd e_t10
          refine g_getI K fl_c1_40 d_c1_read_75 e_v18 ?_
          refine g_iload_n K d_c1_read_78 0 rfl ?_
          obtain ⟨h19, e_h19, e_t10⟩ := gBd e_t10
          refine g_iast K d_c1_read_79 e_h19 ?_
          refine g_aload_n K d_c1_read_80 1 rfl ?_
          refine g_dup K d_c1_read_81 rfl ?_
          obtain ⟨v20, e_v20, e_t10⟩ := gBd e_t10
          refine g_getI K fl_c1_40 d_c1_read_82 e_v20 ?_
          refine g_iconst (v := 1) K d_c1_read_85 (by decide) ?_
          refine g_iadd K d_c1_read_86 ?_
          obtain ⟨h21, e_h21, e_t10⟩ := gBd e_t10
          refine g_putI K fp_c1_40 d_c1_read_87 e_h21 ?_
          refine g_sub (ls2 := [(0, .ref a0), (1, .ref a1), (2, .int x2)]) [1, 2, 3] rfl ?_
          obtain rfl := Option.some.inj e_t10
          exact hJ11
set_option maxHeartbeats 4000000 in
set_option maxRecDepth 100000 in
theorem wlp_c1_read_98 {M : gM} {X : gX} {N : Nat} (hx : gEx X = false) (K : gC M X gN1 b_c1_read 4 (gRm (4 + N) 0 0)) (a0 : Nat) : ∀ (k : Nat) (x2 : Int32) (h : gH) (o : gH), lp_c1_read_98 N a0 k x2 h = some o → gG M X 4 0 0 124 [] [] o → gG M X 4 0 0 98 [(0, .ref a0), (2, .int x2)] [] h := by
  intro k
  induction k with
  | zero =>
    intro x2 h o hy
    rw [lp_c1_read_98.eq_1] at hy
    cases hy
  | succ k ih =>
    intro x2 h o hy hE
    rw [lp_c1_read_98.eq_2] at hy
    refine g_iload_n K d_c1_read_98 1 rfl ?_
    refine g_aload_n K d_c1_read_99 0 rfl ?_
    obtain ⟨q23, e_q23, hy⟩ := gBd hy
    refine g_callVi (rest := [.int x2]) K hx ly_c1_fields kv_c1_43 d_c1_read_100 (ct_c1_fields M.2.1 X hx N a0 h q23 e_q23) rfl rfl (Nat.le_of_ble_eq_true rfl) (gDep rfl) ⟨Nat.le_refl 0, Nat.le_refl 0⟩ ?_
    refine g_icmp_ge K d_c1_read_103 (fun c24 => ?_) (fun c24 => ?_)
    · rw [if_pos c24] at hy
      refine g_sub (ls2 := []) [] rfl ?_
      obtain rfl := Option.some.inj hy
      exact hE
    · rw [if_neg c24] at hy
      refine g_aload_n K d_c1_read_106 0 rfl ?_
      obtain ⟨v25, e_v25, hy⟩ := gBd hy
      refine g_getR K fl_c1_25 d_c1_read_107 e_v25 ?_
      refine g_iload_n K d_c1_read_110 1 rfl ?_
      refine g_aload_n K d_c1_read_111 0 rfl ?_
      refine g_iload_n K d_c1_read_112 1 rfl ?_
      refine g_iconst (v := 2) K d_c1_read_113 (by decide) ?_
      obtain ⟨q26, e_q26, hy⟩ := gBd hy
      refine g_callVi (rest := [.int x2, .ref v25]) K hx ly_c1_villagesNear kv_c1_47 d_c1_read_114 (ct_c1_villagesNear M.2.1 X hx N a0 x2 (2 : Int32) h q26 e_q26) rfl rfl (Nat.le_of_ble_eq_true rfl) (gDep rfl) ⟨Nat.le_refl 0, Nat.le_refl 0⟩ ?_
      obtain ⟨h27, e_h27, hy⟩ := gBd hy
      refine g_iast K d_c1_read_117 e_h27 ?_
      refine g_iinc (ls2 := [(2, .int (x2 + (1 : Int32))), (0, .ref a0)]) (v := 1) K d_c1_read_118 1 rfl (by decide) rfl rfl ?_
      refine g_goto K d_c1_read_121 ?_
      refine g_sub (ls2 := [(0, .ref a0), (2, .int (x2 + (1 : Int32)))]) [1, 0] rfl ?_
      exact ih _ _ _ hy hE
set_option maxHeartbeats 4000000 in
set_option maxRecDepth 100000 in
theorem ct_c1_read (l : Launch) (X : gX) (hx : gEx X = false) (N : Nat) (a0 : Nat) (a1 : Nat) (h : gH) (q : gH) (hy : f_c1_read N a0 a1 h = some q) : gRc y_c1_read h a0 ∧ gMv l X y_c1_read b_c1_read 4 (4 + N) 0 0 [.ref a0, .ref a1] h q := by
  unfold f_c1_read at hy
  obtain ⟨u0, e_u0, hy⟩ := gBd hy
  cases u0
  refine ⟨Or.inl ⟨1, _, _, e_u0, rfl⟩, gMet_v (lsx := [(0, .ref a0), (1, .ref a1)]) (by decide) rfl rfl ?_⟩
  intro M hMl K hret
  subst hMl
  refine g_aload_n K d_c1_read_0 0 rfl ?_
  refine g_aload_n K d_c1_read_1 1 rfl ?_
  refine g_iconst (v := 0) K d_c1_read_2 (by decide) ?_
  refine g_bipush (v := 80) K d_c1_read_3 (by decide) ?_
  obtain ⟨q1, e_q1, hy⟩ := gBd hy
  refine g_callVi (rest := [.ref a0]) K hx ly_c8_digit kv_c1_28 d_c1_read_5 (ct_c8_digit M.2.1 X hx N a1 (0 : Int32) (80 : Int32) h q1 e_q1) rfl rfl (Nat.le_of_ble_eq_true rfl) (gDep rfl) ⟨Nat.le_refl 0, Nat.le_refl 0⟩ ?_
  obtain ⟨h2, e_h2, hy⟩ := gBd hy
  refine g_putI K fp_c1_9 d_c1_read_8 e_h2 ?_
  refine g_aload_n K d_c1_read_11 0 rfl ?_
  refine g_aload_n K d_c1_read_12 1 rfl ?_
  refine g_iconst (v := 1) K d_c1_read_13 (by decide) ?_
  refine g_bipush (v := 80) K d_c1_read_14 (by decide) ?_
  obtain ⟨q3, e_q3, hy⟩ := gBd hy
  refine g_callVi (rest := [.ref a0]) K hx ly_c8_digit kv_c1_28 d_c1_read_16 (ct_c8_digit M.2.1 X hx N a1 (1 : Int32) (80 : Int32) h2 q3 e_q3) rfl rfl (Nat.le_of_ble_eq_true rfl) (gDep rfl) ⟨Nat.le_refl 0, Nat.le_refl 0⟩ ?_
  obtain ⟨h4, e_h4, hy⟩ := gBd hy
  refine g_putI K fp_c1_15 d_c1_read_19 e_h4 ?_
  refine g_aload_n K d_c1_read_22 0 rfl ?_
  refine g_iconst (v := 0) K d_c1_read_23 (by decide) ?_
  obtain ⟨h5, e_h5, hy⟩ := gBd hy
  refine g_putI K fp_c1_40 d_c1_read_24 e_h5 ?_
  refine g_iconst (v := 2) K d_c1_read_27 (by decide) ?_
  refine g_istore_n (ls2 := [(2, .int (2 : Int32)), (0, .ref a0), (1, .ref a1)]) K d_c1_read_28 rfl rfl ?_
  obtain ⟨o22, e_o22, hy⟩ := gBd hy
  refine g_sub (ls2 := [(0, .ref a0), (1, .ref a1), (2, .int (2 : Int32))]) [1, 2, 0] rfl ?_
  refine wlp_c1_read_29 hx K a0 a1 N (2 : Int32) h5 o22 e_o22 ?_
  refine g_iconst (v := 0) K d_c1_read_96 (by decide) ?_
  refine g_istore_n (ls2 := [(2, .int (0 : Int32)), (0, .ref a0)]) K d_c1_read_97 rfl rfl ?_
  obtain ⟨o28, e_o28, hy⟩ := gBd hy
  refine g_sub (ls2 := [(0, .ref a0), (2, .int (0 : Int32))]) [1, 0] rfl ?_
  refine wlp_c1_read_98 hx K a0 N (0 : Int32) o22 o28 e_o28 ?_
  obtain rfl := Option.some.inj hy
  exact hret _ _ _ d_c1_read_124
-- c2 isSo
theorem d_c2_isSo_0 : gD b_c2_isSo 0 (.iload_n 1) 1 1 := ⟨by decide +kernel, rfl⟩
theorem d_c2_isSo_1 : decode b_c2_isSo 1 = .ok ((.tableswitch 104 0 3 #[31, 48, 65, 82]), 31) := by decide +kernel
theorem d_c2_isSo_32 : gD b_c2_isSo 32 (.aload 4) 2 34 := ⟨by decide +kernel, rfl⟩
theorem d_c2_isSo_34 : gD b_c2_isSo 34 (.getfield 40) 3 37 := ⟨by decide +kernel, rfl⟩
theorem d_c2_isSo_37 : gD b_c2_isSo 37 (.iload_n 3) 1 38 := ⟨by decide +kernel, rfl⟩
theorem d_c2_isSo_38 : gD b_c2_isSo 38 .iaload 1 39 := ⟨by decide +kernel, rfl⟩
theorem d_c2_isSo_39 : gD b_c2_isSo 39 (.iload_n 2) 1 40 := ⟨by decide +kernel, rfl⟩
theorem d_c2_isSo_40 : gJ b_c2_isSo 40 (.if_icmp .lt 7) 3 7 43 47 := ⟨by decide +kernel, rfl, by decide⟩
theorem d_c2_isSo_43 : gD b_c2_isSo 43 (.iconst 1) 1 44 := ⟨by decide +kernel, rfl⟩
theorem d_c2_isSo_44 : gJ b_c2_isSo 44 (.goto 4) 3 4 47 48 := ⟨by decide +kernel, rfl, by decide⟩
theorem d_c2_isSo_47 : gD b_c2_isSo 47 (.iconst 0) 1 48 := ⟨by decide +kernel, rfl⟩
theorem d_c2_isSo_48 : gD b_c2_isSo 48 .ireturn 1 49 := ⟨by decide +kernel, rfl⟩
theorem d_c2_isSo_49 : gD b_c2_isSo 49 (.aload 4) 2 51 := ⟨by decide +kernel, rfl⟩
theorem d_c2_isSo_51 : gD b_c2_isSo 51 (.getfield 43) 3 54 := ⟨by decide +kernel, rfl⟩
theorem d_c2_isSo_54 : gD b_c2_isSo 54 (.iload_n 3) 1 55 := ⟨by decide +kernel, rfl⟩
theorem d_c2_isSo_55 : gD b_c2_isSo 55 .iaload 1 56 := ⟨by decide +kernel, rfl⟩
theorem d_c2_isSo_56 : gD b_c2_isSo 56 (.iload_n 2) 1 57 := ⟨by decide +kernel, rfl⟩
theorem d_c2_isSo_57 : gJ b_c2_isSo 57 (.if_icmp .ne 7) 3 7 60 64 := ⟨by decide +kernel, rfl, by decide⟩
theorem d_c2_isSo_60 : gD b_c2_isSo 60 (.iconst 1) 1 61 := ⟨by decide +kernel, rfl⟩
theorem d_c2_isSo_61 : gJ b_c2_isSo 61 (.goto 4) 3 4 64 65 := ⟨by decide +kernel, rfl, by decide⟩
theorem d_c2_isSo_64 : gD b_c2_isSo 64 (.iconst 0) 1 65 := ⟨by decide +kernel, rfl⟩
theorem d_c2_isSo_65 : gD b_c2_isSo 65 .ireturn 1 66 := ⟨by decide +kernel, rfl⟩
theorem d_c2_isSo_66 : gD b_c2_isSo 66 (.aload 4) 2 68 := ⟨by decide +kernel, rfl⟩
theorem d_c2_isSo_68 : gD b_c2_isSo 68 (.getfield 46) 3 71 := ⟨by decide +kernel, rfl⟩
theorem d_c2_isSo_71 : gD b_c2_isSo 71 (.iload_n 3) 1 72 := ⟨by decide +kernel, rfl⟩
theorem d_c2_isSo_72 : gD b_c2_isSo 72 .iaload 1 73 := ⟨by decide +kernel, rfl⟩
theorem d_c2_isSo_73 : gD b_c2_isSo 73 (.iload_n 2) 1 74 := ⟨by decide +kernel, rfl⟩
theorem d_c2_isSo_74 : gJ b_c2_isSo 74 (.if_icmp .lt 7) 3 7 77 81 := ⟨by decide +kernel, rfl, by decide⟩
theorem d_c2_isSo_77 : gD b_c2_isSo 77 (.iconst 1) 1 78 := ⟨by decide +kernel, rfl⟩
theorem d_c2_isSo_78 : gJ b_c2_isSo 78 (.goto 4) 3 4 81 82 := ⟨by decide +kernel, rfl, by decide⟩
theorem d_c2_isSo_81 : gD b_c2_isSo 81 (.iconst 0) 1 82 := ⟨by decide +kernel, rfl⟩
theorem d_c2_isSo_82 : gD b_c2_isSo 82 .ireturn 1 83 := ⟨by decide +kernel, rfl⟩
theorem d_c2_isSo_83 : gD b_c2_isSo 83 (.aload 5) 2 85 := ⟨by decide +kernel, rfl⟩
theorem d_c2_isSo_85 : gD b_c2_isSo 85 (.aload 4) 2 87 := ⟨by decide +kernel, rfl⟩
theorem d_c2_isSo_87 : gD b_c2_isSo 87 (.getfield 49) 3 90 := ⟨by decide +kernel, rfl⟩
theorem d_c2_isSo_90 : gD b_c2_isSo 90 (.iload_n 3) 1 91 := ⟨by decide +kernel, rfl⟩
theorem d_c2_isSo_91 : gD b_c2_isSo 91 .iaload 1 92 := ⟨by decide +kernel, rfl⟩
theorem d_c2_isSo_92 : gD b_c2_isSo 92 (.invokevirtual 52) 3 95 := ⟨by decide +kernel, rfl⟩
theorem d_c2_isSo_95 : gD b_c2_isSo 95 (.iload_n 2) 1 96 := ⟨by decide +kernel, rfl⟩
theorem d_c2_isSo_96 : gJ b_c2_isSo 96 (.if_icmp .ne 7) 3 7 99 103 := ⟨by decide +kernel, rfl, by decide⟩
theorem d_c2_isSo_99 : gD b_c2_isSo 99 (.iconst 1) 1 100 := ⟨by decide +kernel, rfl⟩
theorem d_c2_isSo_100 : gJ b_c2_isSo 100 (.goto 4) 3 4 103 104 := ⟨by decide +kernel, rfl, by decide⟩
theorem d_c2_isSo_103 : gD b_c2_isSo 103 (.iconst 0) 1 104 := ⟨by decide +kernel, rfl⟩
theorem d_c2_isSo_104 : gD b_c2_isSo 104 .ireturn 1 105 := ⟨by decide +kernel, rfl⟩
theorem d_c2_isSo_105 : gD b_c2_isSo 105 (.aload 5) 2 107 := ⟨by decide +kernel, rfl⟩
theorem d_c2_isSo_107 : gD b_c2_isSo 107 (.iload_n 2) 1 108 := ⟨by decide +kernel, rfl⟩
theorem d_c2_isSo_108 : gD b_c2_isSo 108 (.invokevirtual 57) 3 111 := ⟨by decide +kernel, rfl⟩
theorem d_c2_isSo_111 : gJ b_c2_isSo 111 (.ifCond .eq 25) 3 25 114 136 := ⟨by decide +kernel, rfl, by decide⟩
theorem d_c2_isSo_114 : gD b_c2_isSo 114 (.aload 4) 2 116 := ⟨by decide +kernel, rfl⟩
theorem d_c2_isSo_116 : gD b_c2_isSo 116 (.aload 5) 2 118 := ⟨by decide +kernel, rfl⟩
theorem d_c2_isSo_118 : gD b_c2_isSo 118 (.aload 5) 2 120 := ⟨by decide +kernel, rfl⟩
theorem d_c2_isSo_120 : gD b_c2_isSo 120 (.getfield 61) 3 123 := ⟨by decide +kernel, rfl⟩
theorem d_c2_isSo_123 : gD b_c2_isSo 123 (.iload_n 2) 1 124 := ⟨by decide +kernel, rfl⟩
theorem d_c2_isSo_124 : gD b_c2_isSo 124 .iaload 1 125 := ⟨by decide +kernel, rfl⟩
theorem d_c2_isSo_125 : gD b_c2_isSo 125 (.invokevirtual 64) 3 128 := ⟨by decide +kernel, rfl⟩
theorem d_c2_isSo_128 : gD b_c2_isSo 128 (.iload_n 3) 1 129 := ⟨by decide +kernel, rfl⟩
theorem d_c2_isSo_129 : gJ b_c2_isSo 129 (.if_icmp .ne 7) 3 7 132 136 := ⟨by decide +kernel, rfl, by decide⟩
theorem d_c2_isSo_132 : gD b_c2_isSo 132 (.iconst 1) 1 133 := ⟨by decide +kernel, rfl⟩
theorem d_c2_isSo_133 : gJ b_c2_isSo 133 (.goto 4) 3 4 136 137 := ⟨by decide +kernel, rfl, by decide⟩
theorem d_c2_isSo_136 : gD b_c2_isSo 136 (.iconst 0) 1 137 := ⟨by decide +kernel, rfl⟩
theorem d_c2_isSo_137 : gD b_c2_isSo 137 .ireturn 1 138 := ⟨by decide +kernel, rfl⟩
def f_c2_isSo (N : Nat) (a0 : Nat) (x1 : Int32) (x2 : Int32) (x3 : Int32) (a4 : Nat) (a5 : Nat) (h : gH) : Option (Int32) :=
  (gcl h a0 2).bind fun _ =>
  if x1 = (0 : Int32) then
    (gfR h a4 7 2).bind fun v5 =>
    (ga 0 h v5 x3).bind fun v6 =>
    (gZ (if v6 < x2 then (0 : Int32) else (1 : Int32))).bind fun w10 => some w10
  else
    if x1 = (1 : Int32) then
    (gfR h a4 7 3).bind fun v11 =>
    (ga 0 h v11 x3).bind fun v12 =>
    (gZ (if v12 = x2 then (1 : Int32) else (0 : Int32))).bind fun w16 => some w16
  else
    if x1 = (2 : Int32) then
    (gfR h a4 7 5).bind fun v17 =>
    (ga 0 h v17 x3).bind fun v18 =>
    (gZ (if v18 < x2 then (0 : Int32) else (1 : Int32))).bind fun w22 => some w22
  else
    if x1 = (3 : Int32) then
    (gfR h a4 7 1).bind fun v23 =>
    (ga 0 h v23 x3).bind fun v24 =>
    (f_c1_rowOf N a5 v24 h).bind fun q25 =>
    (gZ (if q25 = x2 then (1 : Int32) else (0 : Int32))).bind fun w29 => some w29
  else
    (f_c1_has N a5 x2 h).bind fun q30 =>
    (show Option (Int32) from if q30 = 0 then
    some (0 : Int32)
  else
    (gfR h a5 1 3).bind fun v35 =>
    (ga 0 h v35 x2).bind fun v36 =>
    (f_c7_nearestWater N a4 a5 v36 h).bind fun q37 =>
    if q37 = x3 then
    some (1 : Int32)
  else
    some (0 : Int32)).bind fun t32 =>
    (gZ t32).bind fun w34 => some w34
set_option maxHeartbeats 4000000 in
set_option maxRecDepth 100000 in
theorem ct_c2_isSo (l : Launch) (X : gX) (hx : gEx X = false) (N : Nat) (a0 : Nat) (x1 : Int32) (x2 : Int32) (x3 : Int32) (a4 : Nat) (a5 : Nat) (h : gH) (q : Int32) (hy : f_c2_isSo N a0 x1 x2 x3 a4 a5 h = some q) : gRc y_c2_isSo h a0 ∧ gMi l X y_c2_isSo b_c2_isSo 6 .boolean (4 + N) 0 0 [.ref a0, .int x1, .int x2, .int x3, .ref a4, .ref a5] h q h := by
  unfold f_c2_isSo at hy
  obtain ⟨u0, e_u0, hy⟩ := gBd hy
  cases u0
  refine ⟨Or.inl ⟨2, _, _, e_u0, rfl⟩, gMet_i (lsx := [(0, .ref a0), (1, .int x1), (2, .int x2), (3, .int x3), (4, .ref a4), (5, .ref a5)]) (by decide) rfl rfl ?_⟩
  intro M hMl K hret
  subst hMl
  refine g_iload_n K d_c2_isSo_0 1 rfl ?_
  by_cases c1 : x1 = (0 : Int32)
  · rw [if_pos c1] at hy
    refine g_tabIn (v := (0 : Int32)) (off := 31) (tgt := 32) K d_c2_isSo_1 c1 (by decide) (by decide) (by decide +kernel) (by decide) ?_
    refine g_aload K d_c2_isSo_32 4 rfl ?_
    obtain ⟨v5, e_v5, hy⟩ := gBd hy
    refine g_getR K fl_c2_40 d_c2_isSo_34 e_v5 ?_
    refine g_iload_n K d_c2_isSo_37 3 rfl ?_
    obtain ⟨v6, e_v6, hy⟩ := gBd hy
    refine g_iald K d_c2_isSo_38 e_v6 ?_
    refine g_iload_n K d_c2_isSo_39 2 rfl ?_
    have hJ9 : ∀ w8 : Int32, w8 = (if v6 < x2 then (0 : Int32) else (1 : Int32)) → gG M X 6 0 0 48 [(0, .ref a0), (1, .int x1), (2, .int x2), (3, .int x3), (4, .ref a4), (5, .ref a5)] [.int w8] h := by
      intro w8 e_w8
      subst e_w8
      obtain ⟨w10, e_w10, hy⟩ := gBd hy
      obtain ⟨z_w10, n_w10⟩ := gZ_spec e_w10
      rw [z_w10]
      obtain rfl := Option.some.inj hy
      exact hret (gZn n_w10) _ _ _ d_c2_isSo_48
    refine g_icmp_lt K d_c2_isSo_40 (fun c7 => ?_) (fun c7 => ?_)
    · refine g_iconst (v := 0) K d_c2_isSo_47 (by decide) ?_
      exact hJ9 _ (by rw [if_pos c7])
    · refine g_iconst (v := 1) K d_c2_isSo_43 (by decide) ?_
      refine g_goto K d_c2_isSo_44 ?_
      exact hJ9 _ (by rw [if_neg c7])
  rw [if_neg c1] at hy
  by_cases c2 : x1 = (1 : Int32)
  · rw [if_pos c2] at hy
    refine g_tabIn (v := (1 : Int32)) (off := 48) (tgt := 49) K d_c2_isSo_1 c2 (by decide) (by decide) (by decide +kernel) (by decide) ?_
    refine g_aload K d_c2_isSo_49 4 rfl ?_
    obtain ⟨v11, e_v11, hy⟩ := gBd hy
    refine g_getR K fl_c2_43 d_c2_isSo_51 e_v11 ?_
    refine g_iload_n K d_c2_isSo_54 3 rfl ?_
    obtain ⟨v12, e_v12, hy⟩ := gBd hy
    refine g_iald K d_c2_isSo_55 e_v12 ?_
    refine g_iload_n K d_c2_isSo_56 2 rfl ?_
    have hJ15 : ∀ w14 : Int32, w14 = (if v12 = x2 then (1 : Int32) else (0 : Int32)) → gG M X 6 0 0 65 [(0, .ref a0), (1, .int x1), (2, .int x2), (3, .int x3), (4, .ref a4), (5, .ref a5)] [.int w14] h := by
      intro w14 e_w14
      subst e_w14
      obtain ⟨w16, e_w16, hy⟩ := gBd hy
      obtain ⟨z_w16, n_w16⟩ := gZ_spec e_w16
      rw [z_w16]
      obtain rfl := Option.some.inj hy
      exact hret (gZn n_w16) _ _ _ d_c2_isSo_65
    refine g_icmp_ne K d_c2_isSo_57 (fun c13 => ?_) (fun c13 => ?_)
    · refine g_iconst (v := 0) K d_c2_isSo_64 (by decide) ?_
      exact hJ15 _ (by rw [if_neg c13])
    · refine g_iconst (v := 1) K d_c2_isSo_60 (by decide) ?_
      refine g_goto K d_c2_isSo_61 ?_
      exact hJ15 _ (by rw [if_pos c13])
  rw [if_neg c2] at hy
  by_cases c3 : x1 = (2 : Int32)
  · rw [if_pos c3] at hy
    refine g_tabIn (v := (2 : Int32)) (off := 65) (tgt := 66) K d_c2_isSo_1 c3 (by decide) (by decide) (by decide +kernel) (by decide) ?_
    refine g_aload K d_c2_isSo_66 4 rfl ?_
    obtain ⟨v17, e_v17, hy⟩ := gBd hy
    refine g_getR K fl_c2_46 d_c2_isSo_68 e_v17 ?_
    refine g_iload_n K d_c2_isSo_71 3 rfl ?_
    obtain ⟨v18, e_v18, hy⟩ := gBd hy
    refine g_iald K d_c2_isSo_72 e_v18 ?_
    refine g_iload_n K d_c2_isSo_73 2 rfl ?_
    have hJ21 : ∀ w20 : Int32, w20 = (if v18 < x2 then (0 : Int32) else (1 : Int32)) → gG M X 6 0 0 82 [(0, .ref a0), (1, .int x1), (2, .int x2), (3, .int x3), (4, .ref a4), (5, .ref a5)] [.int w20] h := by
      intro w20 e_w20
      subst e_w20
      obtain ⟨w22, e_w22, hy⟩ := gBd hy
      obtain ⟨z_w22, n_w22⟩ := gZ_spec e_w22
      rw [z_w22]
      obtain rfl := Option.some.inj hy
      exact hret (gZn n_w22) _ _ _ d_c2_isSo_82
    refine g_icmp_lt K d_c2_isSo_74 (fun c19 => ?_) (fun c19 => ?_)
    · refine g_iconst (v := 0) K d_c2_isSo_81 (by decide) ?_
      exact hJ21 _ (by rw [if_pos c19])
    · refine g_iconst (v := 1) K d_c2_isSo_77 (by decide) ?_
      refine g_goto K d_c2_isSo_78 ?_
      exact hJ21 _ (by rw [if_neg c19])
  rw [if_neg c3] at hy
  by_cases c4 : x1 = (3 : Int32)
  · rw [if_pos c4] at hy
    refine g_tabIn (v := (3 : Int32)) (off := 82) (tgt := 83) K d_c2_isSo_1 c4 (by decide) (by decide) (by decide +kernel) (by decide) ?_
    refine g_aload K d_c2_isSo_83 5 rfl ?_
    refine g_aload K d_c2_isSo_85 4 rfl ?_
    obtain ⟨v23, e_v23, hy⟩ := gBd hy
    refine g_getR K fl_c2_49 d_c2_isSo_87 e_v23 ?_
    refine g_iload_n K d_c2_isSo_90 3 rfl ?_
    obtain ⟨v24, e_v24, hy⟩ := gBd hy
    refine g_iald K d_c2_isSo_91 e_v24 ?_
    obtain ⟨q25, e_q25, hy⟩ := gBd hy
    refine g_callVi (rest := []) K hx ly_c1_rowOf kv_c2_52 d_c2_isSo_92 (ct_c1_rowOf M.2.1 X hx N a5 v24 h q25 e_q25) rfl rfl (Nat.le_of_ble_eq_true rfl) (gDep rfl) ⟨Nat.le_refl 0, Nat.le_refl 0⟩ ?_
    refine g_iload_n K d_c2_isSo_95 2 rfl ?_
    have hJ28 : ∀ w27 : Int32, w27 = (if q25 = x2 then (1 : Int32) else (0 : Int32)) → gG M X 6 0 0 104 [(0, .ref a0), (1, .int x1), (2, .int x2), (3, .int x3), (4, .ref a4), (5, .ref a5)] [.int w27] h := by
      intro w27 e_w27
      subst e_w27
      obtain ⟨w29, e_w29, hy⟩ := gBd hy
      obtain ⟨z_w29, n_w29⟩ := gZ_spec e_w29
      rw [z_w29]
      obtain rfl := Option.some.inj hy
      exact hret (gZn n_w29) _ _ _ d_c2_isSo_104
    refine g_icmp_ne K d_c2_isSo_96 (fun c26 => ?_) (fun c26 => ?_)
    · refine g_iconst (v := 0) K d_c2_isSo_103 (by decide) ?_
      exact hJ28 _ (by rw [if_neg c26])
    · refine g_iconst (v := 1) K d_c2_isSo_99 (by decide) ?_
      refine g_goto K d_c2_isSo_100 ?_
      exact hJ28 _ (by rw [if_pos c26])
  rw [if_neg c4] at hy
  refine g_tabD (tgt := 105) [(0 : Int32), (1 : Int32), (2 : Int32), (3 : Int32)] K d_c2_isSo_1 (List.forall_mem_cons.mpr ⟨c1, (List.forall_mem_cons.mpr ⟨c2, (List.forall_mem_cons.mpr ⟨c3, (List.forall_mem_cons.mpr ⟨c4, (fun _ h => absurd h List.not_mem_nil)⟩)⟩)⟩)⟩) (by decide +kernel) (by decide) ?_
  refine g_aload K d_c2_isSo_105 5 rfl ?_
  refine g_iload_n K d_c2_isSo_107 2 rfl ?_
  obtain ⟨q30, e_q30, hy⟩ := gBd hy
  refine g_callVi (rest := []) K hx ly_c1_has kv_c2_57 d_c2_isSo_108 (ct_c1_has M.2.1 X hx N a5 x2 h q30 e_q30) rfl rfl (Nat.le_of_ble_eq_true rfl) (gDep rfl) ⟨Nat.le_refl 0, Nat.le_refl 0⟩ ?_
  obtain ⟨t32, e_t32, hy⟩ := gBd hy
  have hJ33 : gG M X 6 0 0 137 [] [.int t32] h := by
    obtain ⟨w34, e_w34, hy⟩ := gBd hy
    obtain ⟨z_w34, n_w34⟩ := gZ_spec e_w34
    rw [z_w34]
    obtain rfl := Option.some.inj hy
    exact hret (gZn n_w34) _ _ _ d_c2_isSo_137
  refine g_if_eq K d_c2_isSo_111 (fun c31 => ?_) (fun c31 => ?_)
  · rw [if_pos c31] at e_t32
    refine g_iconst (v := 0) K d_c2_isSo_136 (by decide) ?_
    refine g_sub (ls2 := []) [] rfl ?_
    obtain rfl := Option.some.inj e_t32
    exact hJ33
  · rw [if_neg c31] at e_t32
    refine g_aload K d_c2_isSo_114 4 rfl ?_
    refine g_aload K d_c2_isSo_116 5 rfl ?_
    refine g_aload K d_c2_isSo_118 5 rfl ?_
    obtain ⟨v35, e_v35, e_t32⟩ := gBd e_t32
    refine g_getR K fl_c2_61 d_c2_isSo_120 e_v35 ?_
    refine g_iload_n K d_c2_isSo_123 2 rfl ?_
    obtain ⟨v36, e_v36, e_t32⟩ := gBd e_t32
    refine g_iald K d_c2_isSo_124 e_v36 ?_
    obtain ⟨q37, e_q37, e_t32⟩ := gBd e_t32
    refine g_callVi (rest := []) K hx ly_c7_nearestWater kv_c2_64 d_c2_isSo_125 (ct_c7_nearestWater M.2.1 X hx N a4 a5 v36 h q37 e_q37) rfl rfl (Nat.le_of_ble_eq_true rfl) (gDep rfl) ⟨Nat.le_refl 0, Nat.le_refl 0⟩ ?_
    refine g_iload_n K d_c2_isSo_128 3 rfl ?_
    refine g_icmp_ne K d_c2_isSo_129 (fun c38 => ?_) (fun c38 => ?_)
    · rw [if_neg c38] at e_t32
      refine g_iconst (v := 0) K d_c2_isSo_136 (by decide) ?_
      refine g_sub (ls2 := []) [] rfl ?_
      obtain rfl := Option.some.inj e_t32
      exact hJ33
    · rw [if_pos c38] at e_t32
      refine g_iconst (v := 1) K d_c2_isSo_132 (by decide) ?_
      refine g_goto K d_c2_isSo_133 ?_
      refine g_sub (ls2 := []) [] rfl ?_
      obtain rfl := Option.some.inj e_t32
      exact hJ33
-- c6 takeBehind
theorem d_c6_takeBehind_0 : gD b_c6_takeBehind 0 (.iload_n 1) 1 1 := ⟨by decide +kernel, rfl⟩
theorem d_c6_takeBehind_1 : gD b_c6_takeBehind 1 (.bipush 48) 2 3 := ⟨by decide +kernel, rfl⟩
theorem d_c6_takeBehind_3 : gJ b_c6_takeBehind 3 (.if_icmp .lt 18) 3 18 6 21 := ⟨by decide +kernel, rfl, by decide⟩
theorem d_c6_takeBehind_6 : gD b_c6_takeBehind 6 (.iload_n 1) 1 7 := ⟨by decide +kernel, rfl⟩
theorem d_c6_takeBehind_7 : gD b_c6_takeBehind 7 (.bipush 57) 2 9 := ⟨by decide +kernel, rfl⟩
theorem d_c6_takeBehind_9 : gJ b_c6_takeBehind 9 (.if_icmp .gt 12) 3 12 12 21 := ⟨by decide +kernel, rfl, by decide⟩
theorem d_c6_takeBehind_12 : gD b_c6_takeBehind 12 (.aload_n 0) 1 13 := ⟨by decide +kernel, rfl⟩
theorem d_c6_takeBehind_13 : gD b_c6_takeBehind 13 (.iload_n 1) 1 14 := ⟨by decide +kernel, rfl⟩
theorem d_c6_takeBehind_14 : gD b_c6_takeBehind 14 (.bipush 48) 2 16 := ⟨by decide +kernel, rfl⟩
theorem d_c6_takeBehind_16 : gD b_c6_takeBehind 16 .isub 1 17 := ⟨by decide +kernel, rfl⟩
theorem d_c6_takeBehind_17 : gD b_c6_takeBehind 17 (.invokevirtual 71) 3 20 := ⟨by decide +kernel, rfl⟩
theorem d_c6_takeBehind_20 : gD b_c6_takeBehind 20 .ireturn 1 21 := ⟨by decide +kernel, rfl⟩
theorem d_c6_takeBehind_21 : gD b_c6_takeBehind 21 (.aload_n 0) 1 22 := ⟨by decide +kernel, rfl⟩
theorem d_c6_takeBehind_22 : gD b_c6_takeBehind 22 (.iconst 0) 1 23 := ⟨by decide +kernel, rfl⟩
theorem d_c6_takeBehind_23 : gD b_c6_takeBehind 23 (.putfield 34) 3 26 := ⟨by decide +kernel, rfl⟩
theorem d_c6_takeBehind_26 : gD b_c6_takeBehind 26 (.iload_n 1) 1 27 := ⟨by decide +kernel, rfl⟩
theorem d_c6_takeBehind_27 : gD b_c6_takeBehind 27 (.bipush 41) 2 29 := ⟨by decide +kernel, rfl⟩
theorem d_c6_takeBehind_29 : gJ b_c6_takeBehind 29 (.if_icmp .ne 8) 3 8 32 37 := ⟨by decide +kernel, rfl, by decide⟩
theorem d_c6_takeBehind_32 : gD b_c6_takeBehind 32 (.aload_n 0) 1 33 := ⟨by decide +kernel, rfl⟩
theorem d_c6_takeBehind_33 : gD b_c6_takeBehind 33 (.invokevirtual 74) 3 36 := ⟨by decide +kernel, rfl⟩
theorem d_c6_takeBehind_36 : gD b_c6_takeBehind 36 .ireturn 1 37 := ⟨by decide +kernel, rfl⟩
theorem d_c6_takeBehind_37 : gD b_c6_takeBehind 37 (.iload_n 1) 1 38 := ⟨by decide +kernel, rfl⟩
theorem d_c6_takeBehind_38 : gD b_c6_takeBehind 38 (.invokestatic 77) 3 41 := ⟨by decide +kernel, rfl⟩
theorem d_c6_takeBehind_41 : gD b_c6_takeBehind 41 (.istore_n 2) 1 42 := ⟨by decide +kernel, rfl⟩
theorem d_c6_takeBehind_42 : gD b_c6_takeBehind 42 (.iload_n 2) 1 43 := ⟨by decide +kernel, rfl⟩
theorem d_c6_takeBehind_43 : gJ b_c6_takeBehind 43 (.ifCond .eq 23) 3 23 46 66 := ⟨by decide +kernel, rfl, by decide⟩
theorem d_c6_takeBehind_46 : gD b_c6_takeBehind 46 (.iload_n 2) 1 47 := ⟨by decide +kernel, rfl⟩
theorem d_c6_takeBehind_47 : gD b_c6_takeBehind 47 (.iconst 1) 1 48 := ⟨by decide +kernel, rfl⟩
theorem d_c6_takeBehind_48 : gJ b_c6_takeBehind 48 (.if_icmp .ne 20) 3 20 51 68 := ⟨by decide +kernel, rfl, by decide⟩
theorem d_c6_takeBehind_51 : gD b_c6_takeBehind 51 (.aload_n 0) 1 52 := ⟨by decide +kernel, rfl⟩
theorem d_c6_takeBehind_52 : gD b_c6_takeBehind 52 (.getfield 31) 3 55 := ⟨by decide +kernel, rfl⟩
theorem d_c6_takeBehind_55 : gD b_c6_takeBehind 55 (.aload_n 0) 1 56 := ⟨by decide +kernel, rfl⟩
theorem d_c6_takeBehind_56 : gD b_c6_takeBehind 56 (.getfield 28) 3 59 := ⟨by decide +kernel, rfl⟩
theorem d_c6_takeBehind_59 : gD b_c6_takeBehind 59 .ishr 1 60 := ⟨by decide +kernel, rfl⟩
theorem d_c6_takeBehind_60 : gD b_c6_takeBehind 60 (.iconst 1) 1 61 := ⟨by decide +kernel, rfl⟩
theorem d_c6_takeBehind_61 : gD b_c6_takeBehind 61 .iand 1 62 := ⟨by decide +kernel, rfl⟩
theorem d_c6_takeBehind_62 : gD b_c6_takeBehind 62 (.iconst 1) 1 63 := ⟨by decide +kernel, rfl⟩
theorem d_c6_takeBehind_63 : gJ b_c6_takeBehind 63 (.if_icmp .ne 5) 3 5 66 68 := ⟨by decide +kernel, rfl, by decide⟩
theorem d_c6_takeBehind_66 : gD b_c6_takeBehind 66 (.iconst 0) 1 67 := ⟨by decide +kernel, rfl⟩
theorem d_c6_takeBehind_67 : gD b_c6_takeBehind 67 .ireturn 1 68 := ⟨by decide +kernel, rfl⟩
theorem d_c6_takeBehind_68 : gD b_c6_takeBehind 68 (.iload_n 2) 1 69 := ⟨by decide +kernel, rfl⟩
theorem d_c6_takeBehind_69 : gD b_c6_takeBehind 69 (.iconst 1) 1 70 := ⟨by decide +kernel, rfl⟩
theorem d_c6_takeBehind_70 : gJ b_c6_takeBehind 70 (.if_icmp .ne 18) 3 18 73 88 := ⟨by decide +kernel, rfl, by decide⟩
theorem d_c6_takeBehind_73 : gD b_c6_takeBehind 73 (.aload_n 0) 1 74 := ⟨by decide +kernel, rfl⟩
theorem d_c6_takeBehind_74 : gD b_c6_takeBehind 74 .dup 1 75 := ⟨by decide +kernel, rfl⟩
theorem d_c6_takeBehind_75 : gD b_c6_takeBehind 75 (.getfield 31) 3 78 := ⟨by decide +kernel, rfl⟩
theorem d_c6_takeBehind_78 : gD b_c6_takeBehind 78 (.iconst 1) 1 79 := ⟨by decide +kernel, rfl⟩
theorem d_c6_takeBehind_79 : gD b_c6_takeBehind 79 (.aload_n 0) 1 80 := ⟨by decide +kernel, rfl⟩
theorem d_c6_takeBehind_80 : gD b_c6_takeBehind 80 (.getfield 28) 3 83 := ⟨by decide +kernel, rfl⟩
theorem d_c6_takeBehind_83 : gD b_c6_takeBehind 83 .ishl 1 84 := ⟨by decide +kernel, rfl⟩
theorem d_c6_takeBehind_84 : gD b_c6_takeBehind 84 .ior 1 85 := ⟨by decide +kernel, rfl⟩
theorem d_c6_takeBehind_85 : gD b_c6_takeBehind 85 (.putfield 31) 3 88 := ⟨by decide +kernel, rfl⟩
theorem d_c6_takeBehind_88 : gD b_c6_takeBehind 88 (.aload_n 0) 1 89 := ⟨by decide +kernel, rfl⟩
theorem d_c6_takeBehind_89 : gD b_c6_takeBehind 89 (.iload_n 2) 1 90 := ⟨by decide +kernel, rfl⟩
theorem d_c6_takeBehind_90 : gD b_c6_takeBehind 90 (.invokevirtual 54) 3 93 := ⟨by decide +kernel, rfl⟩
theorem d_c6_takeBehind_93 : gD b_c6_takeBehind 93 (.aload_n 0) 1 94 := ⟨by decide +kernel, rfl⟩
theorem d_c6_takeBehind_94 : gD b_c6_takeBehind 94 (.iload_n 1) 1 95 := ⟨by decide +kernel, rfl⟩
theorem d_c6_takeBehind_95 : gD b_c6_takeBehind 95 (.invokevirtual 58) 3 98 := ⟨by decide +kernel, rfl⟩
theorem d_c6_takeBehind_98 : gD b_c6_takeBehind 98 (.aload_n 0) 1 99 := ⟨by decide +kernel, rfl⟩
theorem d_c6_takeBehind_99 : gD b_c6_takeBehind 99 (.iconst 1) 1 100 := ⟨by decide +kernel, rfl⟩
theorem d_c6_takeBehind_100 : gD b_c6_takeBehind 100 (.putfield 37) 3 103 := ⟨by decide +kernel, rfl⟩
theorem d_c6_takeBehind_103 : gD b_c6_takeBehind 103 (.iconst 1) 1 104 := ⟨by decide +kernel, rfl⟩
theorem d_c6_takeBehind_104 : gD b_c6_takeBehind 104 .ireturn 1 105 := ⟨by decide +kernel, rfl⟩
def f_c6_takeBehind (N : Nat) (a0 : Nat) (x1 : Int32) (h : gH) : Option (Int32 × gH) :=
  (gcl h a0 6).bind fun _ =>
  if x1 < (48 : Int32) then
    (sf h a0 6 7 (.int (0 : Int32))).bind fun h2 =>
    if x1 = (41 : Int32) then
    (f_c6_close N a0 h2).bind fun q34 =>
    (gZ q34.1).bind fun w35 => some (w35, q34.2)
  else
    (f_c6_rank N x1 h2).bind fun q4 =>
    if q4 = 0 then
    (gZ (0 : Int32)).bind fun w6 => some (w6, h2)
  else
    if q4 = (1 : Int32) then
    (gfI h2 a0 6 6).bind fun v19 =>
    (gfI h2 a0 6 5).bind fun v20 =>
    if ((v19 >>> (v20 &&& 31)) &&& (1 : Int32)) = (1 : Int32) then
    (gZ (0 : Int32)).bind fun w33 => some (w33, h2)
  else
    (show Option (gH) from if q4 = (1 : Int32) then
    (gfI h2 a0 6 6).bind fun v30 =>
    (gfI h2 a0 6 5).bind fun v31 =>
    (sf h2 a0 6 6 (.int (v30 ||| ((1 : Int32) <<< (v31 &&& 31))))).bind fun h32 =>
    some h32
  else
    some h2).bind fun t23 =>
    (f_c6_release N a0 q4 t23).bind fun q25 =>
    (f_c6_hold N a0 x1 q25).bind fun q26 =>
    (gZ (1 : Int32)).bind fun w27 =>
    (sf q26 a0 6 8 (.int w27)).bind fun h28 =>
    (gZ (1 : Int32)).bind fun w29 => some (w29, h28)
  else
    (show Option (gH) from if q4 = (1 : Int32) then
    (gfI h2 a0 6 6).bind fun v16 =>
    (gfI h2 a0 6 5).bind fun v17 =>
    (sf h2 a0 6 6 (.int (v16 ||| ((1 : Int32) <<< (v17 &&& 31))))).bind fun h18 =>
    some h18
  else
    some h2).bind fun t9 =>
    (f_c6_release N a0 q4 t9).bind fun q11 =>
    (f_c6_hold N a0 x1 q11).bind fun q12 =>
    (gZ (1 : Int32)).bind fun w13 =>
    (sf q12 a0 6 8 (.int w13)).bind fun h14 =>
    (gZ (1 : Int32)).bind fun w15 => some (w15, h14)
  else
    if (57 : Int32) < x1 then
    (sf h a0 6 7 (.int (0 : Int32))).bind fun h37 =>
    if x1 = (41 : Int32) then
    (f_c6_close N a0 h37).bind fun q69 =>
    (gZ q69.1).bind fun w70 => some (w70, q69.2)
  else
    (f_c6_rank N x1 h37).bind fun q39 =>
    if q39 = 0 then
    (gZ (0 : Int32)).bind fun w41 => some (w41, h37)
  else
    if q39 = (1 : Int32) then
    (gfI h37 a0 6 6).bind fun v54 =>
    (gfI h37 a0 6 5).bind fun v55 =>
    if ((v54 >>> (v55 &&& 31)) &&& (1 : Int32)) = (1 : Int32) then
    (gZ (0 : Int32)).bind fun w68 => some (w68, h37)
  else
    (show Option (gH) from if q39 = (1 : Int32) then
    (gfI h37 a0 6 6).bind fun v65 =>
    (gfI h37 a0 6 5).bind fun v66 =>
    (sf h37 a0 6 6 (.int (v65 ||| ((1 : Int32) <<< (v66 &&& 31))))).bind fun h67 =>
    some h67
  else
    some h37).bind fun t58 =>
    (f_c6_release N a0 q39 t58).bind fun q60 =>
    (f_c6_hold N a0 x1 q60).bind fun q61 =>
    (gZ (1 : Int32)).bind fun w62 =>
    (sf q61 a0 6 8 (.int w62)).bind fun h63 =>
    (gZ (1 : Int32)).bind fun w64 => some (w64, h63)
  else
    (show Option (gH) from if q39 = (1 : Int32) then
    (gfI h37 a0 6 6).bind fun v51 =>
    (gfI h37 a0 6 5).bind fun v52 =>
    (sf h37 a0 6 6 (.int (v51 ||| ((1 : Int32) <<< (v52 &&& 31))))).bind fun h53 =>
    some h53
  else
    some h37).bind fun t44 =>
    (f_c6_release N a0 q39 t44).bind fun q46 =>
    (f_c6_hold N a0 x1 q46).bind fun q47 =>
    (gZ (1 : Int32)).bind fun w48 =>
    (sf q47 a0 6 8 (.int w48)).bind fun h49 =>
    (gZ (1 : Int32)).bind fun w50 => some (w50, h49)
  else
    (f_c6_lengthen N a0 (x1 - (48 : Int32)) h).bind fun q71 =>
    (gZ q71.1).bind fun w72 => some (w72, q71.2)
set_option maxHeartbeats 4000000 in
set_option maxRecDepth 100000 in
theorem ct_c6_takeBehind (l : Launch) (X : gX) (hx : gEx X = false) (N : Nat) (a0 : Nat) (x1 : Int32) (h : gH) (q : Int32 × gH) (hy : f_c6_takeBehind N a0 x1 h = some q) : gRc y_c6_takeBehind h a0 ∧ gMi l X y_c6_takeBehind b_c6_takeBehind 3 .boolean (4 + N) 0 0 [.ref a0, .int x1] h q.1 q.2 := by
  unfold f_c6_takeBehind at hy
  obtain ⟨u0, e_u0, hy⟩ := gBd hy
  cases u0
  refine ⟨Or.inl ⟨6, _, _, e_u0, rfl⟩, gMet_i (lsx := [(0, .ref a0), (1, .int x1)]) (by decide) rfl rfl ?_⟩
  intro M hMl K hret
  subst hMl
  refine g_iload_n K d_c6_takeBehind_0 1 rfl ?_
  refine g_bipush (v := 48) K d_c6_takeBehind_1 (by decide) ?_
  refine g_icmp_lt K d_c6_takeBehind_3 (fun c1 => ?_) (fun c1 => ?_)
  · rw [if_pos c1] at hy
    refine g_aload_n K d_c6_takeBehind_21 0 rfl ?_
    refine g_iconst (v := 0) K d_c6_takeBehind_22 (by decide) ?_
    obtain ⟨h2, e_h2, hy⟩ := gBd hy
    refine g_putI K fp_c6_34 d_c6_takeBehind_23 e_h2 ?_
    refine g_iload_n K d_c6_takeBehind_26 1 rfl ?_
    refine g_bipush (v := 41) K d_c6_takeBehind_27 (by decide) ?_
    refine g_icmp_ne K d_c6_takeBehind_29 (fun c3 => ?_) (fun c3 => ?_)
    · rw [if_neg c3] at hy
      refine g_iload_n K d_c6_takeBehind_37 1 rfl ?_
      obtain ⟨q4, e_q4, hy⟩ := gBd hy
      refine g_callSi (rest := []) K hx ly_c6_rank ks_c6_77 d_c6_takeBehind_38 (ct_c6_rank M.2.1 X hx N x1 h2 q4 e_q4) rfl rfl (Nat.le_of_ble_eq_true rfl) (gDep rfl) ⟨Nat.le_refl 0, Nat.le_refl 0⟩ ?_
      refine g_istore_n (ls2 := [(2, .int q4), (0, .ref a0), (1, .int x1)]) K d_c6_takeBehind_41 rfl rfl ?_
      refine g_iload_n K d_c6_takeBehind_42 0 rfl ?_
      refine g_if_eq K d_c6_takeBehind_43 (fun c5 => ?_) (fun c5 => ?_)
      · rw [if_pos c5] at hy
        refine g_iconst (v := 0) K d_c6_takeBehind_66 (by decide) ?_
        obtain ⟨w6, e_w6, hy⟩ := gBd hy
        obtain ⟨z_w6, n_w6⟩ := gZ_spec e_w6
        rw [z_w6]
        obtain rfl := Option.some.inj hy
        exact hret (gZn n_w6) _ _ _ d_c6_takeBehind_67
      · rw [if_neg c5] at hy
        refine g_iload_n K d_c6_takeBehind_46 0 rfl ?_
        refine g_iconst (v := 1) K d_c6_takeBehind_47 (by decide) ?_
        refine g_icmp_ne K d_c6_takeBehind_48 (fun c7 => ?_) (fun c7 => ?_)
        · rw [if_neg c7] at hy
          refine g_iload_n K d_c6_takeBehind_68 0 rfl ?_
          refine g_iconst (v := 1) K d_c6_takeBehind_69 (by decide) ?_
          obtain ⟨t9, e_t9, hy⟩ := gBd hy
          have hJ10 : gG M X 3 0 0 88 [(0, .ref a0), (1, .int x1), (2, .int q4)] [] t9 := by
            refine g_aload_n K d_c6_takeBehind_88 0 rfl ?_
            refine g_iload_n K d_c6_takeBehind_89 2 rfl ?_
            obtain ⟨q11, e_q11, hy⟩ := gBd hy
            refine g_callVv (rest := []) K hx ly_c6_release kv_c6_54 d_c6_takeBehind_90 (ct_c6_release M.2.1 X hx N a0 q4 t9 q11 e_q11) rfl rfl (Nat.le_of_ble_eq_true rfl) (gDep rfl) ⟨Nat.le_refl 0, Nat.le_refl 0⟩ ?_
            refine g_aload_n K d_c6_takeBehind_93 0 rfl ?_
            refine g_iload_n K d_c6_takeBehind_94 1 rfl ?_
            obtain ⟨q12, e_q12, hy⟩ := gBd hy
            refine g_callVv (rest := []) K hx ly_c6_hold kv_c6_58 d_c6_takeBehind_95 (ct_c6_hold M.2.1 X hx N a0 x1 q11 q12 e_q12) rfl rfl (Nat.le_of_ble_eq_true rfl) (gDep rfl) ⟨Nat.le_refl 0, Nat.le_refl 0⟩ ?_
            refine g_aload_n K d_c6_takeBehind_98 0 rfl ?_
            refine g_iconst (v := 1) K d_c6_takeBehind_99 (by decide) ?_
            obtain ⟨w13, e_w13, hy⟩ := gBd hy
            obtain ⟨h14, e_h14, hy⟩ := gBd hy
            refine g_putZ K fp_c6_37 d_c6_takeBehind_100 e_w13 e_h14 ?_
            refine g_iconst (v := 1) K d_c6_takeBehind_103 (by decide) ?_
            obtain ⟨w15, e_w15, hy⟩ := gBd hy
            obtain ⟨z_w15, n_w15⟩ := gZ_spec e_w15
            rw [z_w15]
            obtain rfl := Option.some.inj hy
            exact hret (gZn n_w15) _ _ _ d_c6_takeBehind_104
          refine g_icmp_ne K d_c6_takeBehind_70 (fun c8 => ?_) (fun c8 => ?_)
          · rw [if_neg c8] at e_t9
            refine g_sub (ls2 := [(0, .ref a0), (1, .int x1), (2, .int q4)]) [1, 2, 0] rfl ?_
            obtain rfl := Option.some.inj e_t9
            exact hJ10
          · rw [if_pos c8] at e_t9
            refine g_aload_n K d_c6_takeBehind_73 1 rfl ?_
            refine g_dup K d_c6_takeBehind_74 rfl ?_
            obtain ⟨v16, e_v16, e_t9⟩ := gBd e_t9
            refine g_getI K fl_c6_31 d_c6_takeBehind_75 e_v16 ?_
            refine g_iconst (v := 1) K d_c6_takeBehind_78 (by decide) ?_
            refine g_aload_n K d_c6_takeBehind_79 1 rfl ?_
            obtain ⟨v17, e_v17, e_t9⟩ := gBd e_t9
            refine g_getI K fl_c6_28 d_c6_takeBehind_80 e_v17 ?_
            refine g_ishl K d_c6_takeBehind_83 ?_
            refine g_ior K d_c6_takeBehind_84 ?_
            obtain ⟨h18, e_h18, e_t9⟩ := gBd e_t9
            refine g_putI K fp_c6_31 d_c6_takeBehind_85 e_h18 ?_
            refine g_sub (ls2 := [(0, .ref a0), (1, .int x1), (2, .int q4)]) [1, 2, 0] rfl ?_
            obtain rfl := Option.some.inj e_t9
            exact hJ10
        · rw [if_pos c7] at hy
          refine g_aload_n K d_c6_takeBehind_51 1 rfl ?_
          obtain ⟨v19, e_v19, hy⟩ := gBd hy
          refine g_getI K fl_c6_31 d_c6_takeBehind_52 e_v19 ?_
          refine g_aload_n K d_c6_takeBehind_55 1 rfl ?_
          obtain ⟨v20, e_v20, hy⟩ := gBd hy
          refine g_getI K fl_c6_28 d_c6_takeBehind_56 e_v20 ?_
          refine g_ishr K d_c6_takeBehind_59 ?_
          refine g_iconst (v := 1) K d_c6_takeBehind_60 (by decide) ?_
          refine g_iand K d_c6_takeBehind_61 ?_
          refine g_iconst (v := 1) K d_c6_takeBehind_62 (by decide) ?_
          refine g_icmp_ne K d_c6_takeBehind_63 (fun c21 => ?_) (fun c21 => ?_)
          · rw [if_neg c21] at hy
            refine g_iload_n K d_c6_takeBehind_68 0 rfl ?_
            refine g_iconst (v := 1) K d_c6_takeBehind_69 (by decide) ?_
            obtain ⟨t23, e_t23, hy⟩ := gBd hy
            have hJ24 : gG M X 3 0 0 88 [(0, .ref a0), (1, .int x1), (2, .int q4)] [] t23 := by
              refine g_aload_n K d_c6_takeBehind_88 0 rfl ?_
              refine g_iload_n K d_c6_takeBehind_89 2 rfl ?_
              obtain ⟨q25, e_q25, hy⟩ := gBd hy
              refine g_callVv (rest := []) K hx ly_c6_release kv_c6_54 d_c6_takeBehind_90 (ct_c6_release M.2.1 X hx N a0 q4 t23 q25 e_q25) rfl rfl (Nat.le_of_ble_eq_true rfl) (gDep rfl) ⟨Nat.le_refl 0, Nat.le_refl 0⟩ ?_
              refine g_aload_n K d_c6_takeBehind_93 0 rfl ?_
              refine g_iload_n K d_c6_takeBehind_94 1 rfl ?_
              obtain ⟨q26, e_q26, hy⟩ := gBd hy
              refine g_callVv (rest := []) K hx ly_c6_hold kv_c6_58 d_c6_takeBehind_95 (ct_c6_hold M.2.1 X hx N a0 x1 q25 q26 e_q26) rfl rfl (Nat.le_of_ble_eq_true rfl) (gDep rfl) ⟨Nat.le_refl 0, Nat.le_refl 0⟩ ?_
              refine g_aload_n K d_c6_takeBehind_98 0 rfl ?_
              refine g_iconst (v := 1) K d_c6_takeBehind_99 (by decide) ?_
              obtain ⟨w27, e_w27, hy⟩ := gBd hy
              obtain ⟨h28, e_h28, hy⟩ := gBd hy
              refine g_putZ K fp_c6_37 d_c6_takeBehind_100 e_w27 e_h28 ?_
              refine g_iconst (v := 1) K d_c6_takeBehind_103 (by decide) ?_
              obtain ⟨w29, e_w29, hy⟩ := gBd hy
              obtain ⟨z_w29, n_w29⟩ := gZ_spec e_w29
              rw [z_w29]
              obtain rfl := Option.some.inj hy
              exact hret (gZn n_w29) _ _ _ d_c6_takeBehind_104
            refine g_icmp_ne K d_c6_takeBehind_70 (fun c22 => ?_) (fun c22 => ?_)
            · rw [if_neg c22] at e_t23
              refine g_sub (ls2 := [(0, .ref a0), (1, .int x1), (2, .int q4)]) [1, 2, 0] rfl ?_
              obtain rfl := Option.some.inj e_t23
              exact hJ24
            · rw [if_pos c22] at e_t23
              refine g_aload_n K d_c6_takeBehind_73 1 rfl ?_
              refine g_dup K d_c6_takeBehind_74 rfl ?_
              obtain ⟨v30, e_v30, e_t23⟩ := gBd e_t23
              refine g_getI K fl_c6_31 d_c6_takeBehind_75 e_v30 ?_
              refine g_iconst (v := 1) K d_c6_takeBehind_78 (by decide) ?_
              refine g_aload_n K d_c6_takeBehind_79 1 rfl ?_
              obtain ⟨v31, e_v31, e_t23⟩ := gBd e_t23
              refine g_getI K fl_c6_28 d_c6_takeBehind_80 e_v31 ?_
              refine g_ishl K d_c6_takeBehind_83 ?_
              refine g_ior K d_c6_takeBehind_84 ?_
              obtain ⟨h32, e_h32, e_t23⟩ := gBd e_t23
              refine g_putI K fp_c6_31 d_c6_takeBehind_85 e_h32 ?_
              refine g_sub (ls2 := [(0, .ref a0), (1, .int x1), (2, .int q4)]) [1, 2, 0] rfl ?_
              obtain rfl := Option.some.inj e_t23
              exact hJ24
          · rw [if_pos c21] at hy
            refine g_iconst (v := 0) K d_c6_takeBehind_66 (by decide) ?_
            obtain ⟨w33, e_w33, hy⟩ := gBd hy
            obtain ⟨z_w33, n_w33⟩ := gZ_spec e_w33
            rw [z_w33]
            obtain rfl := Option.some.inj hy
            exact hret (gZn n_w33) _ _ _ d_c6_takeBehind_67
    · rw [if_pos c3] at hy
      refine g_aload_n K d_c6_takeBehind_32 0 rfl ?_
      obtain ⟨q34, e_q34, hy⟩ := gBd hy
      refine g_callVi (rest := []) K hx ly_c6_close kv_c6_74 d_c6_takeBehind_33 (ct_c6_close M.2.1 X hx N a0 h2 q34 e_q34) rfl rfl (Nat.le_of_ble_eq_true rfl) (gDep rfl) ⟨Nat.le_refl 0, Nat.le_refl 0⟩ ?_
      obtain ⟨w35, e_w35, hy⟩ := gBd hy
      obtain ⟨z_w35, n_w35⟩ := gZ_spec e_w35
      rw [z_w35]
      obtain rfl := Option.some.inj hy
      exact hret (gZn n_w35) _ _ _ d_c6_takeBehind_36
  · rw [if_neg c1] at hy
    refine g_iload_n K d_c6_takeBehind_6 1 rfl ?_
    refine g_bipush (v := 57) K d_c6_takeBehind_7 (by decide) ?_
    refine g_icmp_gt K d_c6_takeBehind_9 (fun c36 => ?_) (fun c36 => ?_)
    · rw [if_pos c36] at hy
      refine g_aload_n K d_c6_takeBehind_21 0 rfl ?_
      refine g_iconst (v := 0) K d_c6_takeBehind_22 (by decide) ?_
      obtain ⟨h37, e_h37, hy⟩ := gBd hy
      refine g_putI K fp_c6_34 d_c6_takeBehind_23 e_h37 ?_
      refine g_iload_n K d_c6_takeBehind_26 1 rfl ?_
      refine g_bipush (v := 41) K d_c6_takeBehind_27 (by decide) ?_
      refine g_icmp_ne K d_c6_takeBehind_29 (fun c38 => ?_) (fun c38 => ?_)
      · rw [if_neg c38] at hy
        refine g_iload_n K d_c6_takeBehind_37 1 rfl ?_
        obtain ⟨q39, e_q39, hy⟩ := gBd hy
        refine g_callSi (rest := []) K hx ly_c6_rank ks_c6_77 d_c6_takeBehind_38 (ct_c6_rank M.2.1 X hx N x1 h37 q39 e_q39) rfl rfl (Nat.le_of_ble_eq_true rfl) (gDep rfl) ⟨Nat.le_refl 0, Nat.le_refl 0⟩ ?_
        refine g_istore_n (ls2 := [(2, .int q39), (0, .ref a0), (1, .int x1)]) K d_c6_takeBehind_41 rfl rfl ?_
        refine g_iload_n K d_c6_takeBehind_42 0 rfl ?_
        refine g_if_eq K d_c6_takeBehind_43 (fun c40 => ?_) (fun c40 => ?_)
        · rw [if_pos c40] at hy
          refine g_iconst (v := 0) K d_c6_takeBehind_66 (by decide) ?_
          obtain ⟨w41, e_w41, hy⟩ := gBd hy
          obtain ⟨z_w41, n_w41⟩ := gZ_spec e_w41
          rw [z_w41]
          obtain rfl := Option.some.inj hy
          exact hret (gZn n_w41) _ _ _ d_c6_takeBehind_67
        · rw [if_neg c40] at hy
          refine g_iload_n K d_c6_takeBehind_46 0 rfl ?_
          refine g_iconst (v := 1) K d_c6_takeBehind_47 (by decide) ?_
          refine g_icmp_ne K d_c6_takeBehind_48 (fun c42 => ?_) (fun c42 => ?_)
          · rw [if_neg c42] at hy
            refine g_iload_n K d_c6_takeBehind_68 0 rfl ?_
            refine g_iconst (v := 1) K d_c6_takeBehind_69 (by decide) ?_
            obtain ⟨t44, e_t44, hy⟩ := gBd hy
            have hJ45 : gG M X 3 0 0 88 [(0, .ref a0), (1, .int x1), (2, .int q39)] [] t44 := by
              refine g_aload_n K d_c6_takeBehind_88 0 rfl ?_
              refine g_iload_n K d_c6_takeBehind_89 2 rfl ?_
              obtain ⟨q46, e_q46, hy⟩ := gBd hy
              refine g_callVv (rest := []) K hx ly_c6_release kv_c6_54 d_c6_takeBehind_90 (ct_c6_release M.2.1 X hx N a0 q39 t44 q46 e_q46) rfl rfl (Nat.le_of_ble_eq_true rfl) (gDep rfl) ⟨Nat.le_refl 0, Nat.le_refl 0⟩ ?_
              refine g_aload_n K d_c6_takeBehind_93 0 rfl ?_
              refine g_iload_n K d_c6_takeBehind_94 1 rfl ?_
              obtain ⟨q47, e_q47, hy⟩ := gBd hy
              refine g_callVv (rest := []) K hx ly_c6_hold kv_c6_58 d_c6_takeBehind_95 (ct_c6_hold M.2.1 X hx N a0 x1 q46 q47 e_q47) rfl rfl (Nat.le_of_ble_eq_true rfl) (gDep rfl) ⟨Nat.le_refl 0, Nat.le_refl 0⟩ ?_
              refine g_aload_n K d_c6_takeBehind_98 0 rfl ?_
              refine g_iconst (v := 1) K d_c6_takeBehind_99 (by decide) ?_
              obtain ⟨w48, e_w48, hy⟩ := gBd hy
              obtain ⟨h49, e_h49, hy⟩ := gBd hy
              refine g_putZ K fp_c6_37 d_c6_takeBehind_100 e_w48 e_h49 ?_
              refine g_iconst (v := 1) K d_c6_takeBehind_103 (by decide) ?_
              obtain ⟨w50, e_w50, hy⟩ := gBd hy
              obtain ⟨z_w50, n_w50⟩ := gZ_spec e_w50
              rw [z_w50]
              obtain rfl := Option.some.inj hy
              exact hret (gZn n_w50) _ _ _ d_c6_takeBehind_104
            refine g_icmp_ne K d_c6_takeBehind_70 (fun c43 => ?_) (fun c43 => ?_)
            · rw [if_neg c43] at e_t44
              refine g_sub (ls2 := [(0, .ref a0), (1, .int x1), (2, .int q39)]) [1, 2, 0] rfl ?_
              obtain rfl := Option.some.inj e_t44
              exact hJ45
            · rw [if_pos c43] at e_t44
              refine g_aload_n K d_c6_takeBehind_73 1 rfl ?_
              refine g_dup K d_c6_takeBehind_74 rfl ?_
              obtain ⟨v51, e_v51, e_t44⟩ := gBd e_t44
              refine g_getI K fl_c6_31 d_c6_takeBehind_75 e_v51 ?_
              refine g_iconst (v := 1) K d_c6_takeBehind_78 (by decide) ?_
              refine g_aload_n K d_c6_takeBehind_79 1 rfl ?_
              obtain ⟨v52, e_v52, e_t44⟩ := gBd e_t44
              refine g_getI K fl_c6_28 d_c6_takeBehind_80 e_v52 ?_
              refine g_ishl K d_c6_takeBehind_83 ?_
              refine g_ior K d_c6_takeBehind_84 ?_
              obtain ⟨h53, e_h53, e_t44⟩ := gBd e_t44
              refine g_putI K fp_c6_31 d_c6_takeBehind_85 e_h53 ?_
              refine g_sub (ls2 := [(0, .ref a0), (1, .int x1), (2, .int q39)]) [1, 2, 0] rfl ?_
              obtain rfl := Option.some.inj e_t44
              exact hJ45
          · rw [if_pos c42] at hy
            refine g_aload_n K d_c6_takeBehind_51 1 rfl ?_
            obtain ⟨v54, e_v54, hy⟩ := gBd hy
            refine g_getI K fl_c6_31 d_c6_takeBehind_52 e_v54 ?_
            refine g_aload_n K d_c6_takeBehind_55 1 rfl ?_
            obtain ⟨v55, e_v55, hy⟩ := gBd hy
            refine g_getI K fl_c6_28 d_c6_takeBehind_56 e_v55 ?_
            refine g_ishr K d_c6_takeBehind_59 ?_
            refine g_iconst (v := 1) K d_c6_takeBehind_60 (by decide) ?_
            refine g_iand K d_c6_takeBehind_61 ?_
            refine g_iconst (v := 1) K d_c6_takeBehind_62 (by decide) ?_
            refine g_icmp_ne K d_c6_takeBehind_63 (fun c56 => ?_) (fun c56 => ?_)
            · rw [if_neg c56] at hy
              refine g_iload_n K d_c6_takeBehind_68 0 rfl ?_
              refine g_iconst (v := 1) K d_c6_takeBehind_69 (by decide) ?_
              obtain ⟨t58, e_t58, hy⟩ := gBd hy
              have hJ59 : gG M X 3 0 0 88 [(0, .ref a0), (1, .int x1), (2, .int q39)] [] t58 := by
                refine g_aload_n K d_c6_takeBehind_88 0 rfl ?_
                refine g_iload_n K d_c6_takeBehind_89 2 rfl ?_
                obtain ⟨q60, e_q60, hy⟩ := gBd hy
                refine g_callVv (rest := []) K hx ly_c6_release kv_c6_54 d_c6_takeBehind_90 (ct_c6_release M.2.1 X hx N a0 q39 t58 q60 e_q60) rfl rfl (Nat.le_of_ble_eq_true rfl) (gDep rfl) ⟨Nat.le_refl 0, Nat.le_refl 0⟩ ?_
                refine g_aload_n K d_c6_takeBehind_93 0 rfl ?_
                refine g_iload_n K d_c6_takeBehind_94 1 rfl ?_
                obtain ⟨q61, e_q61, hy⟩ := gBd hy
                refine g_callVv (rest := []) K hx ly_c6_hold kv_c6_58 d_c6_takeBehind_95 (ct_c6_hold M.2.1 X hx N a0 x1 q60 q61 e_q61) rfl rfl (Nat.le_of_ble_eq_true rfl) (gDep rfl) ⟨Nat.le_refl 0, Nat.le_refl 0⟩ ?_
                refine g_aload_n K d_c6_takeBehind_98 0 rfl ?_
                refine g_iconst (v := 1) K d_c6_takeBehind_99 (by decide) ?_
                obtain ⟨w62, e_w62, hy⟩ := gBd hy
                obtain ⟨h63, e_h63, hy⟩ := gBd hy
                refine g_putZ K fp_c6_37 d_c6_takeBehind_100 e_w62 e_h63 ?_
                refine g_iconst (v := 1) K d_c6_takeBehind_103 (by decide) ?_
                obtain ⟨w64, e_w64, hy⟩ := gBd hy
                obtain ⟨z_w64, n_w64⟩ := gZ_spec e_w64
                rw [z_w64]
                obtain rfl := Option.some.inj hy
                exact hret (gZn n_w64) _ _ _ d_c6_takeBehind_104
              refine g_icmp_ne K d_c6_takeBehind_70 (fun c57 => ?_) (fun c57 => ?_)
              · rw [if_neg c57] at e_t58
                refine g_sub (ls2 := [(0, .ref a0), (1, .int x1), (2, .int q39)]) [1, 2, 0] rfl ?_
                obtain rfl := Option.some.inj e_t58
                exact hJ59
              · rw [if_pos c57] at e_t58
                refine g_aload_n K d_c6_takeBehind_73 1 rfl ?_
                refine g_dup K d_c6_takeBehind_74 rfl ?_
                obtain ⟨v65, e_v65, e_t58⟩ := gBd e_t58
                refine g_getI K fl_c6_31 d_c6_takeBehind_75 e_v65 ?_
                refine g_iconst (v := 1) K d_c6_takeBehind_78 (by decide) ?_
                refine g_aload_n K d_c6_takeBehind_79 1 rfl ?_
                obtain ⟨v66, e_v66, e_t58⟩ := gBd e_t58
                refine g_getI K fl_c6_28 d_c6_takeBehind_80 e_v66 ?_
                refine g_ishl K d_c6_takeBehind_83 ?_
                refine g_ior K d_c6_takeBehind_84 ?_
                obtain ⟨h67, e_h67, e_t58⟩ := gBd e_t58
                refine g_putI K fp_c6_31 d_c6_takeBehind_85 e_h67 ?_
                refine g_sub (ls2 := [(0, .ref a0), (1, .int x1), (2, .int q39)]) [1, 2, 0] rfl ?_
                obtain rfl := Option.some.inj e_t58
                exact hJ59
            · rw [if_pos c56] at hy
              refine g_iconst (v := 0) K d_c6_takeBehind_66 (by decide) ?_
              obtain ⟨w68, e_w68, hy⟩ := gBd hy
              obtain ⟨z_w68, n_w68⟩ := gZ_spec e_w68
              rw [z_w68]
              obtain rfl := Option.some.inj hy
              exact hret (gZn n_w68) _ _ _ d_c6_takeBehind_67
      · rw [if_pos c38] at hy
        refine g_aload_n K d_c6_takeBehind_32 0 rfl ?_
        obtain ⟨q69, e_q69, hy⟩ := gBd hy
        refine g_callVi (rest := []) K hx ly_c6_close kv_c6_74 d_c6_takeBehind_33 (ct_c6_close M.2.1 X hx N a0 h37 q69 e_q69) rfl rfl (Nat.le_of_ble_eq_true rfl) (gDep rfl) ⟨Nat.le_refl 0, Nat.le_refl 0⟩ ?_
        obtain ⟨w70, e_w70, hy⟩ := gBd hy
        obtain ⟨z_w70, n_w70⟩ := gZ_spec e_w70
        rw [z_w70]
        obtain rfl := Option.some.inj hy
        exact hret (gZn n_w70) _ _ _ d_c6_takeBehind_36
    · rw [if_neg c36] at hy
      refine g_aload_n K d_c6_takeBehind_12 0 rfl ?_
      refine g_iload_n K d_c6_takeBehind_13 1 rfl ?_
      refine g_bipush (v := 48) K d_c6_takeBehind_14 (by decide) ?_
      refine g_isub K d_c6_takeBehind_16 ?_
      obtain ⟨q71, e_q71, hy⟩ := gBd hy
      refine g_callVi (rest := []) K hx ly_c6_lengthen kv_c6_71 d_c6_takeBehind_17 (ct_c6_lengthen M.2.1 X hx N a0 (x1 - (48 : Int32)) h q71 e_q71) rfl rfl (Nat.le_of_ble_eq_true rfl) (gDep rfl) ⟨Nat.le_refl 0, Nat.le_refl 0⟩ ?_
      obtain ⟨w72, e_w72, hy⟩ := gBd hy
      obtain ⟨z_w72, n_w72⟩ := gZ_spec e_w72
      rw [z_w72]
      obtain rfl := Option.some.inj hy
      exact hret (gZn n_w72) _ _ _ d_c6_takeBehind_20
-- c9 nextOne
theorem d_c9_nextOne_0 : gD b_c9_nextOne 0 (.iconst 0) 1 1 := ⟨by decide +kernel, rfl⟩
theorem d_c9_nextOne_1 : gD b_c9_nextOne 1 (.istore 6) 2 3 := ⟨by decide +kernel, rfl⟩
theorem d_c9_nextOne_3 : gD b_c9_nextOne 3 (.iload 6) 2 5 := ⟨by decide +kernel, rfl⟩
theorem d_c9_nextOne_5 : gD b_c9_nextOne 5 (.aload_n 1) 1 6 := ⟨by decide +kernel, rfl⟩
theorem d_c9_nextOne_6 : gD b_c9_nextOne 6 (.getfield 46) 3 9 := ⟨by decide +kernel, rfl⟩
theorem d_c9_nextOne_9 : gJ b_c9_nextOne 9 (.if_icmp .ge 37) 3 37 12 46 := ⟨by decide +kernel, rfl, by decide⟩
theorem d_c9_nextOne_12 : gD b_c9_nextOne 12 (.aload_n 0) 1 13 := ⟨by decide +kernel, rfl⟩
theorem d_c9_nextOne_13 : gD b_c9_nextOne 13 (.getfield 9) 3 16 := ⟨by decide +kernel, rfl⟩
theorem d_c9_nextOne_16 : gD b_c9_nextOne 16 (.iload 6) 2 18 := ⟨by decide +kernel, rfl⟩
theorem d_c9_nextOne_18 : gD b_c9_nextOne 18 .iaload 1 19 := ⟨by decide +kernel, rfl⟩
theorem d_c9_nextOne_19 : gD b_c9_nextOne 19 (.iload 5) 2 21 := ⟨by decide +kernel, rfl⟩
theorem d_c9_nextOne_21 : gJ b_c9_nextOne 21 (.if_icmp .ne 19) 3 19 24 40 := ⟨by decide +kernel, rfl, by decide⟩
theorem d_c9_nextOne_24 : gD b_c9_nextOne 24 (.aload_n 1) 1 25 := ⟨by decide +kernel, rfl⟩
theorem d_c9_nextOne_25 : gD b_c9_nextOne 25 (.aload_n 2) 1 26 := ⟨by decide +kernel, rfl⟩
theorem d_c9_nextOne_26 : gD b_c9_nextOne 26 (.iload_n 3) 1 27 := ⟨by decide +kernel, rfl⟩
theorem d_c9_nextOne_27 : gD b_c9_nextOne 27 (.iload 6) 2 29 := ⟨by decide +kernel, rfl⟩
theorem d_c9_nextOne_29 : gD b_c9_nextOne 29 (.invokevirtual 55) 3 32 := ⟨by decide +kernel, rfl⟩
theorem d_c9_nextOne_32 : gD b_c9_nextOne 32 (.iload 4) 2 34 := ⟨by decide +kernel, rfl⟩
theorem d_c9_nextOne_34 : gJ b_c9_nextOne 34 (.if_icmp .gt 6) 3 6 37 40 := ⟨by decide +kernel, rfl, by decide⟩
theorem d_c9_nextOne_37 : gD b_c9_nextOne 37 (.iload 6) 2 39 := ⟨by decide +kernel, rfl⟩
theorem d_c9_nextOne_39 : gD b_c9_nextOne 39 .ireturn 1 40 := ⟨by decide +kernel, rfl⟩
theorem d_c9_nextOne_40 : gD b_c9_nextOne 40 (.iinc 6 1) 3 43 := ⟨by decide +kernel, rfl⟩
theorem d_c9_nextOne_43 : gJ b_c9_nextOne 43 (.goto (-40)) 3 (-40) 46 3 := ⟨by decide +kernel, rfl, by decide⟩
theorem d_c9_nextOne_46 : gD b_c9_nextOne 46 (.iconst (-1)) 1 47 := ⟨by decide +kernel, rfl⟩
theorem d_c9_nextOne_47 : gD b_c9_nextOne 47 .ireturn 1 48 := ⟨by decide +kernel, rfl⟩
def lp_c9_nextOne_3 (N : Nat) (a0 : Nat) (a1 : Nat) (a2 : Nat) (x3 : Int32) (x4 : Int32) (x5 : Int32) (h : gH) : Nat → Int32 → Option ((Int32) ⊕ (Unit))
  | 0, _ => none
  | k + 1, x6 =>
  (gfI h a1 7 0).bind fun v1 =>
    if v1 ≤ x6 then
    some (.inr ())
  else
    (gfR h a0 9 0).bind fun v3 =>
    (ga 0 h v3 x6).bind fun v4 =>
    if v4 = x5 then
    (f_c7_farApart N a1 a2 x3 x6 h).bind fun q6 =>
    if x4 < q6 then
    lp_c9_nextOne_3 N a0 a1 a2 x3 x4 x5 h k (x6 + (1 : Int32))
  else
    some (.inl x6)
  else
    lp_c9_nextOne_3 N a0 a1 a2 x3 x4 x5 h k (x6 + (1 : Int32))
def f_c9_nextOne (N : Nat) (a0 : Nat) (a1 : Nat) (a2 : Nat) (x3 : Int32) (x4 : Int32) (x5 : Int32) (h : gH) : Option (Int32) :=
  (gcl h a0 9).bind fun _ =>
  (lp_c9_nextOne_3 N a0 a1 a2 x3 x4 x5 h N (0 : Int32)).bind fun o8 => Sum.elim (fun r10 => some r10) (fun t9 =>
    some (-1 : Int32)) o8
set_option maxHeartbeats 4000000 in
set_option maxRecDepth 100000 in
theorem wlp_c9_nextOne_3 {M : gM} {X : gX} {N : Nat} (hx : gEx X = false) (K : gC M X gN9 b_c9_nextOne 7 (gRm (4 + N) 0 0)) (a0 : Nat) (a1 : Nat) (a2 : Nat) (x3 : Int32) (x4 : Int32) (x5 : Int32) (h : gH) : ∀ (k : Nat) (x6 : Int32) (o : (Int32) ⊕ (Unit)), lp_c9_nextOne_3 N a0 a1 a2 x3 x4 x5 h k x6 = some o → (∀ t, o = .inr t → gG M X 7 0 0 46 [] [] h) → (∀ r, o = .inl r → (narrow .int (.int r) = .int r → ∀ pc pc' ls, gD b_c9_nextOne pc .ireturn 1 pc' → gG M X 7 0 0 pc ls [.int r] h)) → gG M X 7 0 0 3 [(0, .ref a0), (1, .ref a1), (2, .ref a2), (3, .int x3), (4, .int x4), (5, .int x5), (6, .int x6)] [] h := by
  intro k
  induction k with
  | zero =>
    intro x6 o hy
    rw [lp_c9_nextOne_3.eq_1] at hy
    cases hy
  | succ k ih =>
    intro x6 o hy hE hR
    rw [lp_c9_nextOne_3.eq_2] at hy
    refine g_iload K d_c9_nextOne_3 6 rfl ?_
    refine g_aload_n K d_c9_nextOne_5 1 rfl ?_
    obtain ⟨v1, e_v1, hy⟩ := gBd hy
    refine g_getI K fl_c9_46 d_c9_nextOne_6 e_v1 ?_
    refine g_icmp_ge K d_c9_nextOne_9 (fun c2 => ?_) (fun c2 => ?_)
    · rw [if_pos c2] at hy
      refine g_sub (ls2 := []) [] rfl ?_
      obtain rfl := Option.some.inj hy
      exact hE _ rfl
    · rw [if_neg c2] at hy
      refine g_aload_n K d_c9_nextOne_12 0 rfl ?_
      obtain ⟨v3, e_v3, hy⟩ := gBd hy
      refine g_getR K fl_c9_9 d_c9_nextOne_13 e_v3 ?_
      refine g_iload K d_c9_nextOne_16 6 rfl ?_
      obtain ⟨v4, e_v4, hy⟩ := gBd hy
      refine g_iald K d_c9_nextOne_18 e_v4 ?_
      refine g_iload K d_c9_nextOne_19 5 rfl ?_
      refine g_icmp_ne K d_c9_nextOne_21 (fun c5 => ?_) (fun c5 => ?_)
      · rw [if_neg c5] at hy
        refine g_iinc (ls2 := [(6, .int (x6 + (1 : Int32))), (0, .ref a0), (1, .ref a1), (2, .ref a2), (3, .int x3), (4, .int x4), (5, .int x5)]) (v := 1) K d_c9_nextOne_40 6 rfl (by decide) rfl rfl ?_
        refine g_goto K d_c9_nextOne_43 ?_
        refine g_sub (ls2 := [(0, .ref a0), (1, .ref a1), (2, .ref a2), (3, .int x3), (4, .int x4), (5, .int x5), (6, .int (x6 + (1 : Int32)))]) [1, 2, 3, 4, 5, 6, 0] rfl ?_
        exact ih _ _ hy hE hR
      · rw [if_pos c5] at hy
        refine g_aload_n K d_c9_nextOne_24 1 rfl ?_
        refine g_aload_n K d_c9_nextOne_25 2 rfl ?_
        refine g_iload_n K d_c9_nextOne_26 3 rfl ?_
        refine g_iload K d_c9_nextOne_27 6 rfl ?_
        obtain ⟨q6, e_q6, hy⟩ := gBd hy
        refine g_callVi (rest := []) K hx ly_c7_farApart kv_c9_55 d_c9_nextOne_29 (ct_c7_farApart M.2.1 X hx N a1 a2 x3 x6 h q6 e_q6) rfl rfl (Nat.le_of_ble_eq_true rfl) (gDep rfl) ⟨Nat.le_refl 0, Nat.le_refl 0⟩ ?_
        refine g_iload K d_c9_nextOne_32 4 rfl ?_
        refine g_icmp_gt K d_c9_nextOne_34 (fun c7 => ?_) (fun c7 => ?_)
        · rw [if_pos c7] at hy
          refine g_iinc (ls2 := [(6, .int (x6 + (1 : Int32))), (0, .ref a0), (1, .ref a1), (2, .ref a2), (3, .int x3), (4, .int x4), (5, .int x5)]) (v := 1) K d_c9_nextOne_40 6 rfl (by decide) rfl rfl ?_
          refine g_goto K d_c9_nextOne_43 ?_
          refine g_sub (ls2 := [(0, .ref a0), (1, .ref a1), (2, .ref a2), (3, .int x3), (4, .int x4), (5, .int x5), (6, .int (x6 + (1 : Int32)))]) [1, 2, 3, 4, 5, 6, 0] rfl ?_
          exact ih _ _ hy hE hR
        · rw [if_neg c7] at hy
          refine g_iload K d_c9_nextOne_37 6 rfl ?_
          obtain rfl := Option.some.inj hy
          exact hR _ rfl rfl _ _ _ d_c9_nextOne_39
set_option maxHeartbeats 4000000 in
set_option maxRecDepth 100000 in
theorem ct_c9_nextOne (l : Launch) (X : gX) (hx : gEx X = false) (N : Nat) (a0 : Nat) (a1 : Nat) (a2 : Nat) (x3 : Int32) (x4 : Int32) (x5 : Int32) (h : gH) (q : Int32) (hy : f_c9_nextOne N a0 a1 a2 x3 x4 x5 h = some q) : gRc y_c9_nextOne h a0 ∧ gMi l X y_c9_nextOne b_c9_nextOne 7 .int (4 + N) 0 0 [.ref a0, .ref a1, .ref a2, .int x3, .int x4, .int x5] h q h := by
  unfold f_c9_nextOne at hy
  obtain ⟨u0, e_u0, hy⟩ := gBd hy
  cases u0
  refine ⟨Or.inl ⟨9, _, _, e_u0, rfl⟩, gMet_i (lsx := [(0, .ref a0), (1, .ref a1), (2, .ref a2), (3, .int x3), (4, .int x4), (5, .int x5)]) (by decide) rfl rfl ?_⟩
  intro M hMl K hret
  subst hMl
  refine g_iconst (v := 0) K d_c9_nextOne_0 (by decide) ?_
  refine g_istore (ls2 := [(6, .int (0 : Int32)), (0, .ref a0), (1, .ref a1), (2, .ref a2), (3, .int x3), (4, .int x4), (5, .int x5)]) K d_c9_nextOne_1 rfl rfl ?_
  obtain ⟨o8, e_o8, hy⟩ := gBd hy
  refine g_sub (ls2 := [(0, .ref a0), (1, .ref a1), (2, .ref a2), (3, .int x3), (4, .int x4), (5, .int x5), (6, .int (0 : Int32))]) [1, 2, 3, 4, 5, 6, 0] rfl ?_
  refine wlp_c9_nextOne_3 hx K a0 a1 a2 x3 x4 x5 h N (0 : Int32) o8 e_o8 (fun t9 e_t9 => ?_) (fun r10 e_r10 => ?_)
  · subst e_t9
    simp only [Sum.elim_inr] at hy
    refine g_iconst (v := (-1)) K d_c9_nextOne_46 (by decide) ?_
    obtain rfl := Option.some.inj hy
    exact hret rfl _ _ _ d_c9_nextOne_47
  · subst e_r10
    simp only [Sum.elim_inl] at hy
    intro hn pc9 pc9' ls9 hd9
    obtain rfl := Option.some.inj hy
    exact hret hn _ _ _ hd9
-- jString charAt
theorem d_jString_charAt_0 : gD b_jString_charAt 0 (.aload_n 0) 1 1 := ⟨by decide +kernel, rfl⟩
theorem d_jString_charAt_1 : gD b_jString_charAt 1 (.invokevirtual 492) 3 4 := ⟨by decide +kernel, rfl⟩
theorem d_jString_charAt_4 : gJ b_jString_charAt 4 (.ifCond .eq 12) 3 12 7 16 := ⟨by decide +kernel, rfl, by decide⟩
theorem d_jString_charAt_7 : gD b_jString_charAt 7 (.aload_n 0) 1 8 := ⟨by decide +kernel, rfl⟩
theorem d_jString_charAt_8 : gD b_jString_charAt 8 (.getfield 9) 3 11 := ⟨by decide +kernel, rfl⟩
theorem d_jString_charAt_11 : gD b_jString_charAt 11 (.iload_n 1) 1 12 := ⟨by decide +kernel, rfl⟩
theorem d_jString_charAt_12 : gD b_jString_charAt 12 (.invokestatic 495) 3 15 := ⟨by decide +kernel, rfl⟩
theorem d_jString_charAt_15 : gD b_jString_charAt 15 .ireturn 1 16 := ⟨by decide +kernel, rfl⟩
theorem d_jString_charAt_16 : gD b_jString_charAt 16 (.aload_n 0) 1 17 := ⟨by decide +kernel, rfl⟩
theorem d_jString_charAt_17 : gD b_jString_charAt 17 (.getfield 9) 3 20 := ⟨by decide +kernel, rfl⟩
theorem d_jString_charAt_20 : gD b_jString_charAt 20 (.iload_n 1) 1 21 := ⟨by decide +kernel, rfl⟩
def f_jString_charAt (N : Nat) (a0 : Nat) (x1 : Int32) (h : gH) : Option (Int32) :=
  (gclS a0).bind fun _ =>
  (f_jString_isLatin1 N a0 h).bind fun q1 =>
    if q1 = 0 then
    (gsV a0).bind fun v3 =>
    none
  else
    (gsV a0).bind fun v4 =>
    (f_jStringLatin1_charAt N v4 x1 h).bind fun q5 =>
    (gNar .char q5).bind fun w6 => some w6
set_option maxHeartbeats 4000000 in
set_option maxRecDepth 100000 in
theorem ct_jString_charAt (l : Launch) (X : gX) (hx : gEx X = false) (N : Nat) (a0 : Nat) (x1 : Int32) (h : gH) (q : Int32) (hy : f_jString_charAt N a0 x1 h = some q) : gRc y_jString_charAt h a0 ∧ gMi l X y_jString_charAt b_jString_charAt 2 .char (4 + N) 0 0 [.ref a0, .int x1] h q h := by
  unfold f_jString_charAt at hy
  obtain ⟨u0, e_u0, hy⟩ := gBd hy
  cases u0
  refine ⟨Or.inr ⟨rfl, (gclS_spec e_u0).1, (gclS_spec e_u0).2⟩, gMet_i (lsx := [(0, .ref a0), (1, .int x1)]) (by decide) rfl rfl ?_⟩
  intro M hMl K hret
  subst hMl
  refine g_aload_n K d_jString_charAt_0 0 rfl ?_
  obtain ⟨q1, e_q1, hy⟩ := gBd hy
  refine g_callVi (rest := []) K hx ly_jString_isLatin1 kv_String_492 d_jString_charAt_1 (ct_jString_isLatin1 M.2.1 X hx N a0 h q1 e_q1) rfl rfl (Nat.le_of_ble_eq_true rfl) (gDep rfl) ⟨Nat.le_refl 0, Nat.le_refl 0⟩ ?_
  refine g_if_eq K d_jString_charAt_4 (fun c2 => ?_) (fun c2 => ?_)
  · rw [if_pos c2] at hy
    refine g_aload_n K d_jString_charAt_16 0 rfl ?_
    obtain ⟨v3, e_v3, hy⟩ := gBd hy
    refine g_strV K (gTk_7 228 rfl rfl) d_jString_charAt_17 e_v3 ?_
    refine g_iload_n K d_jString_charAt_20 1 rfl ?_
    cases hy
  · rw [if_neg c2] at hy
    refine g_aload_n K d_jString_charAt_7 0 rfl ?_
    obtain ⟨v4, e_v4, hy⟩ := gBd hy
    refine g_strV K (gTk_7 228 rfl rfl) d_jString_charAt_8 e_v4 ?_
    refine g_iload_n K d_jString_charAt_11 1 rfl ?_
    obtain ⟨q5, e_q5, hy⟩ := gBd hy
    refine g_callSi (rest := []) K hx ly_jStringLatin1_charAt ks_String_495 d_jString_charAt_12 (ct_jStringLatin1_charAt M.2.1 X hx N v4 x1 h q5 e_q5) rfl rfl (Nat.le_of_ble_eq_true rfl) (gDep rfl) ⟨Nat.le_refl 0, Nat.le_refl 0⟩ ?_
    obtain ⟨w6, e_w6, hy⟩ := gBd hy
    obtain ⟨z_w6, n_w6⟩ := gNar_spec e_w6
    rw [z_w6]
    obtain rfl := Option.some.inj hy
    exact hret (gNar_c n_w6) _ _ _ d_jString_charAt_15
-- c0 pass
theorem d_c0_pass_0 : gD b_c0_pass 0 (.aload_n 1) 1 1 := ⟨by decide +kernel, rfl⟩
theorem d_c0_pass_1 : gD b_c0_pass 1 (.getfield 18) 3 4 := ⟨by decide +kernel, rfl⟩
theorem d_c0_pass_4 : gD b_c0_pass 4 (.istore 5) 2 6 := ⟨by decide +kernel, rfl⟩
theorem d_c0_pass_6 : gD b_c0_pass 6 (.iconst 0) 1 7 := ⟨by decide +kernel, rfl⟩
theorem d_c0_pass_7 : gD b_c0_pass 7 (.istore 6) 2 9 := ⟨by decide +kernel, rfl⟩
theorem d_c0_pass_9 : gD b_c0_pass 9 (.iload 6) 2 11 := ⟨by decide +kernel, rfl⟩
theorem d_c0_pass_11 : gD b_c0_pass 11 (.iload 4) 2 13 := ⟨by decide +kernel, rfl⟩
theorem d_c0_pass_13 : gJ b_c0_pass 13 (.if_icmp .ge 16) 3 16 16 29 := ⟨by decide +kernel, rfl, by decide⟩
theorem d_c0_pass_16 : gD b_c0_pass 16 (.aload_n 0) 1 17 := ⟨by decide +kernel, rfl⟩
theorem d_c0_pass_17 : gD b_c0_pass 17 (.aload_n 1) 1 18 := ⟨by decide +kernel, rfl⟩
theorem d_c0_pass_18 : gD b_c0_pass 18 (.aload_n 2) 1 19 := ⟨by decide +kernel, rfl⟩
theorem d_c0_pass_19 : gD b_c0_pass 19 (.aload_n 3) 1 20 := ⟨by decide +kernel, rfl⟩
theorem d_c0_pass_20 : gD b_c0_pass 20 (.invokevirtual 24) 3 23 := ⟨by decide +kernel, rfl⟩
theorem d_c0_pass_23 : gD b_c0_pass 23 (.iinc 6 1) 3 26 := ⟨by decide +kernel, rfl⟩
theorem d_c0_pass_26 : gJ b_c0_pass 26 (.goto (-17)) 3 (-17) 29 9 := ⟨by decide +kernel, rfl, by decide⟩
theorem d_c0_pass_29 : gD b_c0_pass 29 (.aload_n 1) 1 30 := ⟨by decide +kernel, rfl⟩
theorem d_c0_pass_30 : gD b_c0_pass 30 (.getfield 18) 3 33 := ⟨by decide +kernel, rfl⟩
theorem d_c0_pass_33 : gD b_c0_pass 33 (.iload 5) 2 35 := ⟨by decide +kernel, rfl⟩
theorem d_c0_pass_35 : gD b_c0_pass 35 .isub 1 36 := ⟨by decide +kernel, rfl⟩
theorem d_c0_pass_36 : gD b_c0_pass 36 .ireturn 1 37 := ⟨by decide +kernel, rfl⟩
def lp_c0_pass_9 (N : Nat) (a0 : Nat) (a1 : Nat) (a2 : Nat) (a3 : Nat) (x4 : Int32) : Nat → Int32 → gH → Option (gH)
  | 0, _, _ => none
  | k + 1, x6, h =>
  if x4 ≤ x6 then
    some h
  else
    (f_c0_passOne N a0 a1 a2 a3 h).bind fun q3 =>
    lp_c0_pass_9 N a0 a1 a2 a3 x4 k (x6 + (1 : Int32)) q3
def f_c0_pass (N : Nat) (a0 : Nat) (a1 : Nat) (a2 : Nat) (a3 : Nat) (x4 : Int32) (h : gH) : Option (Int32 × gH) :=
  (gcl h a0 0).bind fun _ =>
  (gfI h a1 7 7).bind fun v1 =>
    (lp_c0_pass_9 N a0 a1 a2 a3 x4 N (0 : Int32) h).bind fun o4 =>
    (gfI o4 a1 7 7).bind fun v5 =>
    some (v5 - v1, o4)
set_option maxHeartbeats 4000000 in
set_option maxRecDepth 100000 in
theorem wlp_c0_pass_9 {M : gM} {X : gX} {N : Nat} (hx : gEx X = false) (K : gC M X gN0 b_c0_pass 7 (gRm (5 + N) 0 0)) (a0 : Nat) (a1 : Nat) (a2 : Nat) (a3 : Nat) (x4 : Int32) (x5 : Int32) : ∀ (k : Nat) (x6 : Int32) (h : gH) (o : gH), lp_c0_pass_9 N a0 a1 a2 a3 x4 k x6 h = some o → gG M X 7 0 0 29 [(1, .ref a1), (5, .int x5)] [] o → gG M X 7 0 0 9 [(0, .ref a0), (1, .ref a1), (2, .ref a2), (3, .ref a3), (4, .int x4), (5, .int x5), (6, .int x6)] [] h := by
  intro k
  induction k with
  | zero =>
    intro x6 h o hy
    rw [lp_c0_pass_9.eq_1] at hy
    cases hy
  | succ k ih =>
    intro x6 h o hy hE
    rw [lp_c0_pass_9.eq_2] at hy
    refine g_iload K d_c0_pass_9 6 rfl ?_
    refine g_iload K d_c0_pass_11 4 rfl ?_
    refine g_icmp_ge K d_c0_pass_13 (fun c2 => ?_) (fun c2 => ?_)
    · rw [if_pos c2] at hy
      refine g_sub (ls2 := [(1, .ref a1), (5, .int x5)]) [1, 5] rfl ?_
      obtain rfl := Option.some.inj hy
      exact hE
    · rw [if_neg c2] at hy
      refine g_aload_n K d_c0_pass_16 0 rfl ?_
      refine g_aload_n K d_c0_pass_17 1 rfl ?_
      refine g_aload_n K d_c0_pass_18 2 rfl ?_
      refine g_aload_n K d_c0_pass_19 3 rfl ?_
      obtain ⟨q3, e_q3, hy⟩ := gBd hy
      refine g_callVv (rest := []) K hx ly_c0_passOne kv_c0_24 d_c0_pass_20 (ct_c0_passOne M.2.1 X hx N a0 a1 a2 a3 h q3 e_q3) rfl rfl (Nat.le_of_ble_eq_true rfl) (gDep rfl) ⟨Nat.le_refl 0, Nat.le_refl 0⟩ ?_
      refine g_iinc (ls2 := [(6, .int (x6 + (1 : Int32))), (0, .ref a0), (1, .ref a1), (2, .ref a2), (3, .ref a3), (4, .int x4), (5, .int x5)]) (v := 1) K d_c0_pass_23 6 rfl (by decide) rfl rfl ?_
      refine g_goto K d_c0_pass_26 ?_
      refine g_sub (ls2 := [(0, .ref a0), (1, .ref a1), (2, .ref a2), (3, .ref a3), (4, .int x4), (5, .int x5), (6, .int (x6 + (1 : Int32)))]) [1, 2, 3, 4, 5, 6, 0] rfl ?_
      exact ih _ _ _ hy hE
set_option maxHeartbeats 4000000 in
set_option maxRecDepth 100000 in
theorem ct_c0_pass (l : Launch) (X : gX) (hx : gEx X = false) (N : Nat) (a0 : Nat) (a1 : Nat) (a2 : Nat) (a3 : Nat) (x4 : Int32) (h : gH) (q : Int32 × gH) (hy : f_c0_pass N a0 a1 a2 a3 x4 h = some q) : gRc y_c0_pass h a0 ∧ gMi l X y_c0_pass b_c0_pass 7 .int (5 + N) 0 0 [.ref a0, .ref a1, .ref a2, .ref a3, .int x4] h q.1 q.2 := by
  unfold f_c0_pass at hy
  obtain ⟨u0, e_u0, hy⟩ := gBd hy
  cases u0
  refine ⟨Or.inl ⟨0, _, _, e_u0, rfl⟩, gMet_i (lsx := [(0, .ref a0), (1, .ref a1), (2, .ref a2), (3, .ref a3), (4, .int x4)]) (by decide) rfl rfl ?_⟩
  intro M hMl K hret
  subst hMl
  refine g_aload_n K d_c0_pass_0 1 rfl ?_
  obtain ⟨v1, e_v1, hy⟩ := gBd hy
  refine g_getI K fl_c0_18 d_c0_pass_1 e_v1 ?_
  refine g_istore (ls2 := [(5, .int v1), (0, .ref a0), (1, .ref a1), (2, .ref a2), (3, .ref a3), (4, .int x4)]) K d_c0_pass_4 rfl rfl ?_
  refine g_iconst (v := 0) K d_c0_pass_6 (by decide) ?_
  refine g_istore (ls2 := [(6, .int (0 : Int32)), (5, .int v1), (0, .ref a0), (1, .ref a1), (2, .ref a2), (3, .ref a3), (4, .int x4)]) K d_c0_pass_7 rfl rfl ?_
  obtain ⟨o4, e_o4, hy⟩ := gBd hy
  refine g_sub (ls2 := [(0, .ref a0), (1, .ref a1), (2, .ref a2), (3, .ref a3), (4, .int x4), (5, .int v1), (6, .int (0 : Int32))]) [2, 3, 4, 5, 6, 1, 0] rfl ?_
  refine wlp_c0_pass_9 hx K a0 a1 a2 a3 x4 v1 N (0 : Int32) h o4 e_o4 ?_
  refine g_aload_n K d_c0_pass_29 0 rfl ?_
  obtain ⟨v5, e_v5, hy⟩ := gBd hy
  refine g_getI K fl_c0_18 d_c0_pass_30 e_v5 ?_
  refine g_iload K d_c0_pass_33 1 rfl ?_
  refine g_isub K d_c0_pass_35 ?_
  obtain rfl := Option.some.inj hy
  exact hret rfl _ _ _ d_c0_pass_36
-- c10 ands
theorem d_c10_ands_0 : gD b_c10_ands 0 (.aload_n 0) 1 1 := ⟨by decide +kernel, rfl⟩
theorem d_c10_ands_1 : gD b_c10_ands 1 (.getfield 37) 3 4 := ⟨by decide +kernel, rfl⟩
theorem d_c10_ands_4 : gD b_c10_ands 4 (.aload_n 0) 1 5 := ⟨by decide +kernel, rfl⟩
theorem d_c10_ands_5 : gD b_c10_ands 5 (.getfield 33) 3 8 := ⟨by decide +kernel, rfl⟩
theorem d_c10_ands_8 : gD b_c10_ands 8 (.invokevirtual 124) 3 11 := ⟨by decide +kernel, rfl⟩
theorem d_c10_ands_11 : gD b_c10_ands 11 (.aload_n 0) 1 12 := ⟨by decide +kernel, rfl⟩
theorem d_c10_ands_12 : gD b_c10_ands 12 (.aload_n 0) 1 13 := ⟨by decide +kernel, rfl⟩
theorem d_c10_ands_13 : gD b_c10_ands 13 (.getfield 33) 3 16 := ⟨by decide +kernel, rfl⟩
theorem d_c10_ands_16 : gD b_c10_ands 16 (.iload_n 1) 1 17 := ⟨by decide +kernel, rfl⟩
theorem d_c10_ands_17 : gD b_c10_ands 17 (.invokevirtual 219) 3 20 := ⟨by decide +kernel, rfl⟩
theorem d_c10_ands_20 : gD b_c10_ands 20 (.invokevirtual 216) 3 23 := ⟨by decide +kernel, rfl⟩
theorem d_c10_ands_23 : gD b_c10_ands 23 .ireturn 1 24 := ⟨by decide +kernel, rfl⟩
def f_c10_ands (N : Nat) (a0 : Nat) (x1 : Int32) (h : gH) : Option (Int32 × gH) :=
  (gcl h a0 10).bind fun _ =>
  (gfR h a0 10 4).bind fun v1 =>
    (gfR h a0 10 3).bind fun v2 =>
    (f_c7_take N v1 v2 h).bind fun q3 =>
    (gfR q3 a0 10 3).bind fun v4 =>
    (f_c7_throwAnd N v4 x1 q3).bind fun q5 =>
    (f_c10_pushIfDone N a0 q5.1 q5.2).bind fun q6 =>
    some (q6.1, q6.2)
set_option maxHeartbeats 4000000 in
set_option maxRecDepth 100000 in
theorem ct_c10_ands (l : Launch) (X : gX) (hx : gEx X = false) (N : Nat) (a0 : Nat) (x1 : Int32) (h : gH) (q : Int32 × gH) (hy : f_c10_ands N a0 x1 h = some q) : gRc y_c10_ands h a0 ∧ gMi l X y_c10_ands b_c10_ands 2 .int (5 + N) 0 0 [.ref a0, .int x1] h q.1 q.2 := by
  unfold f_c10_ands at hy
  obtain ⟨u0, e_u0, hy⟩ := gBd hy
  cases u0
  refine ⟨Or.inl ⟨10, _, _, e_u0, rfl⟩, gMet_i (lsx := [(0, .ref a0), (1, .int x1)]) (by decide) rfl rfl ?_⟩
  intro M hMl K hret
  subst hMl
  refine g_aload_n K d_c10_ands_0 0 rfl ?_
  obtain ⟨v1, e_v1, hy⟩ := gBd hy
  refine g_getR K fl_c10_37 d_c10_ands_1 e_v1 ?_
  refine g_aload_n K d_c10_ands_4 0 rfl ?_
  obtain ⟨v2, e_v2, hy⟩ := gBd hy
  refine g_getR K fl_c10_33 d_c10_ands_5 e_v2 ?_
  obtain ⟨q3, e_q3, hy⟩ := gBd hy
  refine g_callVv (rest := []) K hx ly_c7_take kv_c10_124 d_c10_ands_8 (ct_c7_take M.2.1 X hx N v1 v2 h q3 e_q3) rfl rfl (Nat.le_of_ble_eq_true rfl) (gDep rfl) ⟨Nat.le_refl 0, Nat.le_refl 0⟩ ?_
  refine g_aload_n K d_c10_ands_11 0 rfl ?_
  refine g_aload_n K d_c10_ands_12 0 rfl ?_
  obtain ⟨v4, e_v4, hy⟩ := gBd hy
  refine g_getR K fl_c10_33 d_c10_ands_13 e_v4 ?_
  refine g_iload_n K d_c10_ands_16 1 rfl ?_
  obtain ⟨q5, e_q5, hy⟩ := gBd hy
  refine g_callVi (rest := [.ref a0]) K hx ly_c7_throwAnd kv_c10_219 d_c10_ands_17 (ct_c7_throwAnd M.2.1 X hx N v4 x1 q3 q5 e_q5) rfl rfl (Nat.le_of_ble_eq_true rfl) (gDep rfl) ⟨Nat.le_refl 0, Nat.le_refl 0⟩ ?_
  obtain ⟨q6, e_q6, hy⟩ := gBd hy
  refine g_callVi (rest := []) K hx ly_c10_pushIfDone kv_c10_216 d_c10_ands_20 (ct_c10_pushIfDone M.2.1 X hx N a0 q5.1 q5.2 q6 e_q6) rfl rfl (Nat.le_of_ble_eq_true rfl) (gDep rfl) ⟨Nat.le_refl 0, Nat.le_refl 0⟩ ?_
  obtain rfl := Option.some.inj hy
  exact hret rfl _ _ _ d_c10_ands_23
-- c10 clears
theorem d_c10_clears_0 : gD b_c10_clears 0 (.aload_n 0) 1 1 := ⟨by decide +kernel, rfl⟩
theorem d_c10_clears_1 : gD b_c10_clears 1 (.getfield 37) 3 4 := ⟨by decide +kernel, rfl⟩
theorem d_c10_clears_4 : gD b_c10_clears 4 (.aload_n 0) 1 5 := ⟨by decide +kernel, rfl⟩
theorem d_c10_clears_5 : gD b_c10_clears 5 (.getfield 33) 3 8 := ⟨by decide +kernel, rfl⟩
theorem d_c10_clears_8 : gD b_c10_clears 8 (.invokevirtual 124) 3 11 := ⟨by decide +kernel, rfl⟩
theorem d_c10_clears_11 : gD b_c10_clears 11 (.aload_n 0) 1 12 := ⟨by decide +kernel, rfl⟩
theorem d_c10_clears_12 : gD b_c10_clears 12 (.aload_n 0) 1 13 := ⟨by decide +kernel, rfl⟩
theorem d_c10_clears_13 : gD b_c10_clears 13 (.getfield 33) 3 16 := ⟨by decide +kernel, rfl⟩
theorem d_c10_clears_16 : gD b_c10_clears 16 (.iload_n 1) 1 17 := ⟨by decide +kernel, rfl⟩
theorem d_c10_clears_17 : gD b_c10_clears 17 (.invokevirtual 222) 3 20 := ⟨by decide +kernel, rfl⟩
theorem d_c10_clears_20 : gD b_c10_clears 20 (.invokevirtual 216) 3 23 := ⟨by decide +kernel, rfl⟩
theorem d_c10_clears_23 : gD b_c10_clears 23 .ireturn 1 24 := ⟨by decide +kernel, rfl⟩
def f_c10_clears (N : Nat) (a0 : Nat) (x1 : Int32) (h : gH) : Option (Int32 × gH) :=
  (gcl h a0 10).bind fun _ =>
  (gfR h a0 10 4).bind fun v1 =>
    (gfR h a0 10 3).bind fun v2 =>
    (f_c7_take N v1 v2 h).bind fun q3 =>
    (gfR q3 a0 10 3).bind fun v4 =>
    (f_c7_takeAnds N v4 x1 q3).bind fun q5 =>
    (f_c10_pushIfDone N a0 q5.1 q5.2).bind fun q6 =>
    some (q6.1, q6.2)
set_option maxHeartbeats 4000000 in
set_option maxRecDepth 100000 in
theorem ct_c10_clears (l : Launch) (X : gX) (hx : gEx X = false) (N : Nat) (a0 : Nat) (x1 : Int32) (h : gH) (q : Int32 × gH) (hy : f_c10_clears N a0 x1 h = some q) : gRc y_c10_clears h a0 ∧ gMi l X y_c10_clears b_c10_clears 2 .int (5 + N) 0 0 [.ref a0, .int x1] h q.1 q.2 := by
  unfold f_c10_clears at hy
  obtain ⟨u0, e_u0, hy⟩ := gBd hy
  cases u0
  refine ⟨Or.inl ⟨10, _, _, e_u0, rfl⟩, gMet_i (lsx := [(0, .ref a0), (1, .int x1)]) (by decide) rfl rfl ?_⟩
  intro M hMl K hret
  subst hMl
  refine g_aload_n K d_c10_clears_0 0 rfl ?_
  obtain ⟨v1, e_v1, hy⟩ := gBd hy
  refine g_getR K fl_c10_37 d_c10_clears_1 e_v1 ?_
  refine g_aload_n K d_c10_clears_4 0 rfl ?_
  obtain ⟨v2, e_v2, hy⟩ := gBd hy
  refine g_getR K fl_c10_33 d_c10_clears_5 e_v2 ?_
  obtain ⟨q3, e_q3, hy⟩ := gBd hy
  refine g_callVv (rest := []) K hx ly_c7_take kv_c10_124 d_c10_clears_8 (ct_c7_take M.2.1 X hx N v1 v2 h q3 e_q3) rfl rfl (Nat.le_of_ble_eq_true rfl) (gDep rfl) ⟨Nat.le_refl 0, Nat.le_refl 0⟩ ?_
  refine g_aload_n K d_c10_clears_11 0 rfl ?_
  refine g_aload_n K d_c10_clears_12 0 rfl ?_
  obtain ⟨v4, e_v4, hy⟩ := gBd hy
  refine g_getR K fl_c10_33 d_c10_clears_13 e_v4 ?_
  refine g_iload_n K d_c10_clears_16 1 rfl ?_
  obtain ⟨q5, e_q5, hy⟩ := gBd hy
  refine g_callVi (rest := [.ref a0]) K hx ly_c7_takeAnds kv_c10_222 d_c10_clears_17 (ct_c7_takeAnds M.2.1 X hx N v4 x1 q3 q5 e_q5) rfl rfl (Nat.le_of_ble_eq_true rfl) (gDep rfl) ⟨Nat.le_refl 0, Nat.le_refl 0⟩ ?_
  obtain ⟨q6, e_q6, hy⟩ := gBd hy
  refine g_callVi (rest := []) K hx ly_c10_pushIfDone kv_c10_216 d_c10_clears_20 (ct_c10_pushIfDone M.2.1 X hx N a0 q5.1 q5.2 q6 e_q6) rfl rfl (Nat.le_of_ble_eq_true rfl) (gDep rfl) ⟨Nat.le_refl 0, Nat.le_refl 0⟩ ?_
  obtain rfl := Option.some.inj hy
  exact hret rfl _ _ _ d_c10_clears_23
-- c10 draws
theorem d_c10_draws_0 : gD b_c10_draws 0 (.aload_n 0) 1 1 := ⟨by decide +kernel, rfl⟩
theorem d_c10_draws_1 : gD b_c10_draws 1 (.getfield 37) 3 4 := ⟨by decide +kernel, rfl⟩
theorem d_c10_draws_4 : gD b_c10_draws 4 (.aload_n 0) 1 5 := ⟨by decide +kernel, rfl⟩
theorem d_c10_draws_5 : gD b_c10_draws 5 (.getfield 33) 3 8 := ⟨by decide +kernel, rfl⟩
theorem d_c10_draws_8 : gD b_c10_draws 8 (.invokevirtual 124) 3 11 := ⟨by decide +kernel, rfl⟩
theorem d_c10_draws_11 : gD b_c10_draws 11 (.aload_n 0) 1 12 := ⟨by decide +kernel, rfl⟩
theorem d_c10_draws_12 : gD b_c10_draws 12 (.aload_n 0) 1 13 := ⟨by decide +kernel, rfl⟩
theorem d_c10_draws_13 : gD b_c10_draws 13 (.getfield 33) 3 16 := ⟨by decide +kernel, rfl⟩
theorem d_c10_draws_16 : gD b_c10_draws 16 (.iload_n 1) 1 17 := ⟨by decide +kernel, rfl⟩
theorem d_c10_draws_17 : gD b_c10_draws 17 (.iload_n 2) 1 18 := ⟨by decide +kernel, rfl⟩
theorem d_c10_draws_18 : gD b_c10_draws 18 (.invokevirtual 225) 3 21 := ⟨by decide +kernel, rfl⟩
theorem d_c10_draws_21 : gD b_c10_draws 21 (.invokevirtual 216) 3 24 := ⟨by decide +kernel, rfl⟩
theorem d_c10_draws_24 : gD b_c10_draws 24 .ireturn 1 25 := ⟨by decide +kernel, rfl⟩
def f_c10_draws (N : Nat) (a0 : Nat) (x1 : Int32) (x2 : Int32) (h : gH) : Option (Int32 × gH) :=
  (gcl h a0 10).bind fun _ =>
  (gfR h a0 10 4).bind fun v1 =>
    (gfR h a0 10 3).bind fun v2 =>
    (f_c7_take N v1 v2 h).bind fun q3 =>
    (gfR q3 a0 10 3).bind fun v4 =>
    (f_c7_drawFrom N v4 x1 x2 q3).bind fun q5 =>
    (f_c10_pushIfDone N a0 q5.1 q5.2).bind fun q6 =>
    some (q6.1, q6.2)
set_option maxHeartbeats 4000000 in
set_option maxRecDepth 100000 in
theorem ct_c10_draws (l : Launch) (X : gX) (hx : gEx X = false) (N : Nat) (a0 : Nat) (x1 : Int32) (x2 : Int32) (h : gH) (q : Int32 × gH) (hy : f_c10_draws N a0 x1 x2 h = some q) : gRc y_c10_draws h a0 ∧ gMi l X y_c10_draws b_c10_draws 3 .int (5 + N) 0 0 [.ref a0, .int x1, .int x2] h q.1 q.2 := by
  unfold f_c10_draws at hy
  obtain ⟨u0, e_u0, hy⟩ := gBd hy
  cases u0
  refine ⟨Or.inl ⟨10, _, _, e_u0, rfl⟩, gMet_i (lsx := [(0, .ref a0), (1, .int x1), (2, .int x2)]) (by decide) rfl rfl ?_⟩
  intro M hMl K hret
  subst hMl
  refine g_aload_n K d_c10_draws_0 0 rfl ?_
  obtain ⟨v1, e_v1, hy⟩ := gBd hy
  refine g_getR K fl_c10_37 d_c10_draws_1 e_v1 ?_
  refine g_aload_n K d_c10_draws_4 0 rfl ?_
  obtain ⟨v2, e_v2, hy⟩ := gBd hy
  refine g_getR K fl_c10_33 d_c10_draws_5 e_v2 ?_
  obtain ⟨q3, e_q3, hy⟩ := gBd hy
  refine g_callVv (rest := []) K hx ly_c7_take kv_c10_124 d_c10_draws_8 (ct_c7_take M.2.1 X hx N v1 v2 h q3 e_q3) rfl rfl (Nat.le_of_ble_eq_true rfl) (gDep rfl) ⟨Nat.le_refl 0, Nat.le_refl 0⟩ ?_
  refine g_aload_n K d_c10_draws_11 0 rfl ?_
  refine g_aload_n K d_c10_draws_12 0 rfl ?_
  obtain ⟨v4, e_v4, hy⟩ := gBd hy
  refine g_getR K fl_c10_33 d_c10_draws_13 e_v4 ?_
  refine g_iload_n K d_c10_draws_16 1 rfl ?_
  refine g_iload_n K d_c10_draws_17 2 rfl ?_
  obtain ⟨q5, e_q5, hy⟩ := gBd hy
  refine g_callVi (rest := [.ref a0]) K hx ly_c7_drawFrom kv_c10_225 d_c10_draws_18 (ct_c7_drawFrom M.2.1 X hx N v4 x1 x2 q3 q5 e_q5) rfl rfl (Nat.le_of_ble_eq_true rfl) (gDep rfl) ⟨Nat.le_refl 0, Nat.le_refl 0⟩ ?_
  obtain ⟨q6, e_q6, hy⟩ := gBd hy
  refine g_callVi (rest := []) K hx ly_c10_pushIfDone kv_c10_216 d_c10_draws_21 (ct_c10_pushIfDone M.2.1 X hx N a0 q5.1 q5.2 q6 e_q6) rfl rfl (Nat.le_of_ble_eq_true rfl) (gDep rfl) ⟨Nat.le_refl 0, Nat.le_refl 0⟩ ?_
  obtain rfl := Option.some.inj hy
  exact hret rfl _ _ _ d_c10_draws_24
-- c10 drinksItsFill
theorem d_c10_drinksItsFill_0 : gD b_c10_drinksItsFill 0 (.iconst 0) 1 1 := ⟨by decide +kernel, rfl⟩
theorem d_c10_drinksItsFill_1 : gD b_c10_drinksItsFill 1 (.istore_n 3) 1 2 := ⟨by decide +kernel, rfl⟩
theorem d_c10_drinksItsFill_2 : gD b_c10_drinksItsFill 2 (.iload_n 3) 1 3 := ⟨by decide +kernel, rfl⟩
theorem d_c10_drinksItsFill_3 : gD b_c10_drinksItsFill 3 (.iload_n 2) 1 4 := ⟨by decide +kernel, rfl⟩
theorem d_c10_drinksItsFill_4 : gJ b_c10_drinksItsFill 4 (.if_icmp .ge 51) 3 51 7 55 := ⟨by decide +kernel, rfl, by decide⟩
theorem d_c10_drinksItsFill_7 : gD b_c10_drinksItsFill 7 (.aload_n 0) 1 8 := ⟨by decide +kernel, rfl⟩
theorem d_c10_drinksItsFill_8 : gD b_c10_drinksItsFill 8 (.getfield 46) 3 11 := ⟨by decide +kernel, rfl⟩
theorem d_c10_drinksItsFill_11 : gD b_c10_drinksItsFill 11 (.aload_n 0) 1 12 := ⟨by decide +kernel, rfl⟩
theorem d_c10_drinksItsFill_12 : gD b_c10_drinksItsFill 12 (.getfield 40) 3 15 := ⟨by decide +kernel, rfl⟩
theorem d_c10_drinksItsFill_15 : gD b_c10_drinksItsFill 15 (.aload_n 0) 1 16 := ⟨by decide +kernel, rfl⟩
theorem d_c10_drinksItsFill_16 : gD b_c10_drinksItsFill 16 (.getfield 26) 3 19 := ⟨by decide +kernel, rfl⟩
theorem d_c10_drinksItsFill_19 : gD b_c10_drinksItsFill 19 (.aload_n 0) 1 20 := ⟨by decide +kernel, rfl⟩
theorem d_c10_drinksItsFill_20 : gD b_c10_drinksItsFill 20 (.getfield 81) 3 23 := ⟨by decide +kernel, rfl⟩
theorem d_c10_drinksItsFill_23 : gD b_c10_drinksItsFill 23 (.invokevirtual 254) 3 26 := ⟨by decide +kernel, rfl⟩
theorem d_c10_drinksItsFill_26 : gD b_c10_drinksItsFill 26 (.aload_n 0) 1 27 := ⟨by decide +kernel, rfl⟩
theorem d_c10_drinksItsFill_27 : gD b_c10_drinksItsFill 27 (.getfield 46) 3 30 := ⟨by decide +kernel, rfl⟩
theorem d_c10_drinksItsFill_30 : gD b_c10_drinksItsFill 30 (.getfield 258) 3 33 := ⟨by decide +kernel, rfl⟩
theorem d_c10_drinksItsFill_33 : gD b_c10_drinksItsFill 33 (.iload_n 1) 1 34 := ⟨by decide +kernel, rfl⟩
theorem d_c10_drinksItsFill_34 : gD b_c10_drinksItsFill 34 .iaload 1 35 := ⟨by decide +kernel, rfl⟩
theorem d_c10_drinksItsFill_35 : gD b_c10_drinksItsFill 35 (.aload_n 0) 1 36 := ⟨by decide +kernel, rfl⟩
theorem d_c10_drinksItsFill_36 : gD b_c10_drinksItsFill 36 (.getfield 26) 3 39 := ⟨by decide +kernel, rfl⟩
theorem d_c10_drinksItsFill_39 : gD b_c10_drinksItsFill 39 (.getfield 175) 3 42 := ⟨by decide +kernel, rfl⟩
theorem d_c10_drinksItsFill_42 : gD b_c10_drinksItsFill 42 (.iload_n 1) 1 43 := ⟨by decide +kernel, rfl⟩
theorem d_c10_drinksItsFill_43 : gD b_c10_drinksItsFill 43 .iaload 1 44 := ⟨by decide +kernel, rfl⟩
theorem d_c10_drinksItsFill_44 : gJ b_c10_drinksItsFill 44 (.if_icmp .ge 5) 3 5 47 49 := ⟨by decide +kernel, rfl, by decide⟩
theorem d_c10_drinksItsFill_47 : gD b_c10_drinksItsFill 47 (.iconst 0) 1 48 := ⟨by decide +kernel, rfl⟩
theorem d_c10_drinksItsFill_48 : gD b_c10_drinksItsFill 48 .ireturn 1 49 := ⟨by decide +kernel, rfl⟩
theorem d_c10_drinksItsFill_49 : gD b_c10_drinksItsFill 49 (.iinc 3 1) 3 52 := ⟨by decide +kernel, rfl⟩
theorem d_c10_drinksItsFill_52 : gJ b_c10_drinksItsFill 52 (.goto (-50)) 3 (-50) 55 2 := ⟨by decide +kernel, rfl, by decide⟩
theorem d_c10_drinksItsFill_55 : gD b_c10_drinksItsFill 55 (.iconst 1) 1 56 := ⟨by decide +kernel, rfl⟩
theorem d_c10_drinksItsFill_56 : gD b_c10_drinksItsFill 56 .ireturn 1 57 := ⟨by decide +kernel, rfl⟩
def lp_c10_drinksItsFill_2 (N : Nat) (a0 : Nat) (x1 : Int32) (x2 : Int32) : Nat → Int32 → gH → Option ((Int32 × gH) ⊕ (gH))
  | 0, _, _ => none
  | k + 1, x3, h =>
  if x2 ≤ x3 then
    some (.inr h)
  else
    (gfR h a0 10 6).bind fun v2 =>
    (gfR h a0 10 5).bind fun v3 =>
    (gfR h a0 10 2).bind fun v4 =>
    (gfR h a0 10 11).bind fun v5 =>
    (f_c0_passOne N v2 v3 v4 v5 h).bind fun q6 =>
    (gfR q6 a0 10 6).bind fun v7 =>
    (gfR q6 v7 0 0).bind fun v8 =>
    (ga 0 q6 v8 x1).bind fun v9 =>
    (gfR q6 a0 10 2).bind fun v10 =>
    (gfR q6 v10 1 4).bind fun v11 =>
    (ga 0 q6 v11 x1).bind fun v12 =>
    if v12 ≤ v9 then
    lp_c10_drinksItsFill_2 N a0 x1 x2 k (x3 + (1 : Int32)) q6
  else
    (gZ (0 : Int32)).bind fun w14 => some (.inl (w14, q6))
def f_c10_drinksItsFill (N : Nat) (a0 : Nat) (x1 : Int32) (x2 : Int32) (h : gH) : Option (Int32 × gH) :=
  (gcl h a0 10).bind fun _ =>
  (lp_c10_drinksItsFill_2 N a0 x1 x2 N (0 : Int32) h).bind fun o15 => Sum.elim (fun r17 => some r17) (fun t16 =>
    (gZ (1 : Int32)).bind fun w19 => some (w19, t16)) o15
set_option maxHeartbeats 4000000 in
set_option maxRecDepth 100000 in
theorem wlp_c10_drinksItsFill_2 {M : gM} {X : gX} {N : Nat} (hx : gEx X = false) (K : gC M X gN10 b_c10_drinksItsFill 4 (gRm (5 + N) 0 0)) (a0 : Nat) (x1 : Int32) (x2 : Int32) : ∀ (k : Nat) (x3 : Int32) (h : gH) (o : (Int32 × gH) ⊕ (gH)), lp_c10_drinksItsFill_2 N a0 x1 x2 k x3 h = some o → (∀ t, o = .inr t → gG M X 4 0 0 55 [] [] t) → (∀ r, o = .inl r → (narrow .boolean (.int r.1) = .int r.1 → ∀ pc pc' ls, gD b_c10_drinksItsFill pc .ireturn 1 pc' → gG M X 4 0 0 pc ls [.int r.1] r.2)) → gG M X 4 0 0 2 [(0, .ref a0), (1, .int x1), (2, .int x2), (3, .int x3)] [] h := by
  intro k
  induction k with
  | zero =>
    intro x3 h o hy
    rw [lp_c10_drinksItsFill_2.eq_1] at hy
    cases hy
  | succ k ih =>
    intro x3 h o hy hE hR
    rw [lp_c10_drinksItsFill_2.eq_2] at hy
    refine g_iload_n K d_c10_drinksItsFill_2 3 rfl ?_
    refine g_iload_n K d_c10_drinksItsFill_3 2 rfl ?_
    refine g_icmp_ge K d_c10_drinksItsFill_4 (fun c1 => ?_) (fun c1 => ?_)
    · rw [if_pos c1] at hy
      refine g_sub (ls2 := []) [] rfl ?_
      obtain rfl := Option.some.inj hy
      exact hE _ rfl
    · rw [if_neg c1] at hy
      refine g_aload_n K d_c10_drinksItsFill_7 0 rfl ?_
      obtain ⟨v2, e_v2, hy⟩ := gBd hy
      refine g_getR K fl_c10_46 d_c10_drinksItsFill_8 e_v2 ?_
      refine g_aload_n K d_c10_drinksItsFill_11 0 rfl ?_
      obtain ⟨v3, e_v3, hy⟩ := gBd hy
      refine g_getR K fl_c10_40 d_c10_drinksItsFill_12 e_v3 ?_
      refine g_aload_n K d_c10_drinksItsFill_15 0 rfl ?_
      obtain ⟨v4, e_v4, hy⟩ := gBd hy
      refine g_getR K fl_c10_26 d_c10_drinksItsFill_16 e_v4 ?_
      refine g_aload_n K d_c10_drinksItsFill_19 0 rfl ?_
      obtain ⟨v5, e_v5, hy⟩ := gBd hy
      refine g_getR K fl_c10_81 d_c10_drinksItsFill_20 e_v5 ?_
      obtain ⟨q6, e_q6, hy⟩ := gBd hy
      refine g_callVv (rest := []) K hx ly_c0_passOne kv_c10_254 d_c10_drinksItsFill_23 (ct_c0_passOne M.2.1 X hx N v2 v3 v4 v5 h q6 e_q6) rfl rfl (Nat.le_of_ble_eq_true rfl) (gDep rfl) ⟨Nat.le_refl 0, Nat.le_refl 0⟩ ?_
      refine g_aload_n K d_c10_drinksItsFill_26 0 rfl ?_
      obtain ⟨v7, e_v7, hy⟩ := gBd hy
      refine g_getR K fl_c10_46 d_c10_drinksItsFill_27 e_v7 ?_
      obtain ⟨v8, e_v8, hy⟩ := gBd hy
      refine g_getR K fl_c10_258 d_c10_drinksItsFill_30 e_v8 ?_
      refine g_iload_n K d_c10_drinksItsFill_33 1 rfl ?_
      obtain ⟨v9, e_v9, hy⟩ := gBd hy
      refine g_iald K d_c10_drinksItsFill_34 e_v9 ?_
      refine g_aload_n K d_c10_drinksItsFill_35 0 rfl ?_
      obtain ⟨v10, e_v10, hy⟩ := gBd hy
      refine g_getR K fl_c10_26 d_c10_drinksItsFill_36 e_v10 ?_
      obtain ⟨v11, e_v11, hy⟩ := gBd hy
      refine g_getR K fl_c10_175 d_c10_drinksItsFill_39 e_v11 ?_
      refine g_iload_n K d_c10_drinksItsFill_42 1 rfl ?_
      obtain ⟨v12, e_v12, hy⟩ := gBd hy
      refine g_iald K d_c10_drinksItsFill_43 e_v12 ?_
      refine g_icmp_ge K d_c10_drinksItsFill_44 (fun c13 => ?_) (fun c13 => ?_)
      · rw [if_pos c13] at hy
        refine g_iinc (ls2 := [(3, .int (x3 + (1 : Int32))), (0, .ref a0), (1, .int x1), (2, .int x2)]) (v := 1) K d_c10_drinksItsFill_49 3 rfl (by decide) rfl rfl ?_
        refine g_goto K d_c10_drinksItsFill_52 ?_
        refine g_sub (ls2 := [(0, .ref a0), (1, .int x1), (2, .int x2), (3, .int (x3 + (1 : Int32)))]) [1, 2, 3, 0] rfl ?_
        exact ih _ _ _ hy hE hR
      · rw [if_neg c13] at hy
        refine g_iconst (v := 0) K d_c10_drinksItsFill_47 (by decide) ?_
        obtain ⟨w14, e_w14, hy⟩ := gBd hy
        obtain ⟨z_w14, n_w14⟩ := gZ_spec e_w14
        rw [z_w14]
        obtain rfl := Option.some.inj hy
        exact hR _ rfl (gZn n_w14) _ _ _ d_c10_drinksItsFill_48
set_option maxHeartbeats 4000000 in
set_option maxRecDepth 100000 in
theorem ct_c10_drinksItsFill (l : Launch) (X : gX) (hx : gEx X = false) (N : Nat) (a0 : Nat) (x1 : Int32) (x2 : Int32) (h : gH) (q : Int32 × gH) (hy : f_c10_drinksItsFill N a0 x1 x2 h = some q) : gRc y_c10_drinksItsFill h a0 ∧ gMi l X y_c10_drinksItsFill b_c10_drinksItsFill 4 .boolean (5 + N) 0 0 [.ref a0, .int x1, .int x2] h q.1 q.2 := by
  unfold f_c10_drinksItsFill at hy
  obtain ⟨u0, e_u0, hy⟩ := gBd hy
  cases u0
  refine ⟨Or.inl ⟨10, _, _, e_u0, rfl⟩, gMet_i (lsx := [(0, .ref a0), (1, .int x1), (2, .int x2)]) (by decide) rfl rfl ?_⟩
  intro M hMl K hret
  subst hMl
  refine g_iconst (v := 0) K d_c10_drinksItsFill_0 (by decide) ?_
  refine g_istore_n (ls2 := [(3, .int (0 : Int32)), (0, .ref a0), (1, .int x1), (2, .int x2)]) K d_c10_drinksItsFill_1 rfl rfl ?_
  obtain ⟨o15, e_o15, hy⟩ := gBd hy
  refine g_sub (ls2 := [(0, .ref a0), (1, .int x1), (2, .int x2), (3, .int (0 : Int32))]) [1, 2, 3, 0] rfl ?_
  refine wlp_c10_drinksItsFill_2 hx K a0 x1 x2 N (0 : Int32) h o15 e_o15 (fun t16 e_t16 => ?_) (fun r17 e_r17 => ?_)
  · subst e_t16
    simp only [Sum.elim_inr] at hy
    refine g_iconst (v := 1) K d_c10_drinksItsFill_55 (by decide) ?_
    obtain ⟨w19, e_w19, hy⟩ := gBd hy
    obtain ⟨z_w19, n_w19⟩ := gZ_spec e_w19
    rw [z_w19]
    obtain rfl := Option.some.inj hy
    exact hret (gZn n_w19) _ _ _ d_c10_drinksItsFill_56
  · subst e_r17
    simp only [Sum.elim_inl] at hy
    intro hn pc9 pc9' ls9 hd9
    obtain rfl := Option.some.inj hy
    exact hret hn _ _ _ hd9
-- c10 faultInYear
theorem d_c10_faultInYear_0 : gD b_c10_faultInYear 0 (.iconst 0) 1 1 := ⟨by decide +kernel, rfl⟩
theorem d_c10_faultInYear_1 : gD b_c10_faultInYear 1 (.istore_n 1) 1 2 := ⟨by decide +kernel, rfl⟩
theorem d_c10_faultInYear_2 : gD b_c10_faultInYear 2 (.iconst 0) 1 3 := ⟨by decide +kernel, rfl⟩
theorem d_c10_faultInYear_3 : gD b_c10_faultInYear 3 (.istore_n 2) 1 4 := ⟨by decide +kernel, rfl⟩
theorem d_c10_faultInYear_4 : gD b_c10_faultInYear 4 (.iload_n 2) 1 5 := ⟨by decide +kernel, rfl⟩
theorem d_c10_faultInYear_5 : gD b_c10_faultInYear 5 (.bipush 60) 2 7 := ⟨by decide +kernel, rfl⟩
theorem d_c10_faultInYear_7 : gJ b_c10_faultInYear 7 (.if_icmp .gt 91) 3 91 10 98 := ⟨by decide +kernel, rfl, by decide⟩
theorem d_c10_faultInYear_10 : gD b_c10_faultInYear 10 (.iload_n 1) 1 11 := ⟨by decide +kernel, rfl⟩
theorem d_c10_faultInYear_11 : gD b_c10_faultInYear 11 (.aload_n 0) 1 12 := ⟨by decide +kernel, rfl⟩
theorem d_c10_faultInYear_12 : gD b_c10_faultInYear 12 (.getfield 10) 3 15 := ⟨by decide +kernel, rfl⟩
theorem d_c10_faultInYear_15 : gD b_c10_faultInYear 15 (.getfield 100) 3 18 := ⟨by decide +kernel, rfl⟩
theorem d_c10_faultInYear_18 : gJ b_c10_faultInYear 18 (.if_icmp .ge 80) 3 80 21 98 := ⟨by decide +kernel, rfl, by decide⟩
theorem d_c10_faultInYear_21 : gD b_c10_faultInYear 21 (.aload_n 0) 1 22 := ⟨by decide +kernel, rfl⟩
theorem d_c10_faultInYear_22 : gD b_c10_faultInYear 22 (.getfield 10) 3 25 := ⟨by decide +kernel, rfl⟩
theorem d_c10_faultInYear_25 : gD b_c10_faultInYear 25 (.iload_n 1) 1 26 := ⟨by decide +kernel, rfl⟩
theorem d_c10_faultInYear_26 : gD b_c10_faultInYear 26 (.bipush 60) 2 28 := ⟨by decide +kernel, rfl⟩
theorem d_c10_faultInYear_28 : gD b_c10_faultInYear 28 (.invokevirtual 237) 3 31 := ⟨by decide +kernel, rfl⟩
theorem d_c10_faultInYear_31 : gD b_c10_faultInYear 31 (.invokestatic 240) 3 34 := ⟨by decide +kernel, rfl⟩
theorem d_c10_faultInYear_34 : gD b_c10_faultInYear 34 (.astore_n 3) 1 35 := ⟨by decide +kernel, rfl⟩
theorem d_c10_faultInYear_35 : gD b_c10_faultInYear 35 (.aload_n 3) 1 36 := ⟨by decide +kernel, rfl⟩
theorem d_c10_faultInYear_36 : gD b_c10_faultInYear 36 (.invokevirtual 451) 3 39 := ⟨by decide +kernel, rfl⟩
theorem d_c10_faultInYear_39 : gJ b_c10_faultInYear 39 (.ifCond .eq 5) 3 5 42 44 := ⟨by decide +kernel, rfl, by decide⟩
theorem d_c10_faultInYear_42 : gD b_c10_faultInYear 42 (.iload_n 1) 1 43 := ⟨by decide +kernel, rfl⟩
theorem d_c10_faultInYear_43 : gD b_c10_faultInYear 43 .ireturn 1 44 := ⟨by decide +kernel, rfl⟩
theorem d_c10_faultInYear_44 : gD b_c10_faultInYear 44 (.iinc 1 1) 3 47 := ⟨by decide +kernel, rfl⟩
theorem d_c10_faultInYear_47 : gD b_c10_faultInYear 47 (.iconst 0) 1 48 := ⟨by decide +kernel, rfl⟩
theorem d_c10_faultInYear_48 : gD b_c10_faultInYear 48 (.istore 4) 2 50 := ⟨by decide +kernel, rfl⟩
theorem d_c10_faultInYear_50 : gD b_c10_faultInYear 50 (.iload 4) 2 52 := ⟨by decide +kernel, rfl⟩
theorem d_c10_faultInYear_52 : gD b_c10_faultInYear 52 (.aload_n 3) 1 53 := ⟨by decide +kernel, rfl⟩
theorem d_c10_faultInYear_53 : gD b_c10_faultInYear 53 (.invokevirtual 244) 3 56 := ⟨by decide +kernel, rfl⟩
theorem d_c10_faultInYear_56 : gJ b_c10_faultInYear 56 (.if_icmp .ge 36) 3 36 59 92 := ⟨by decide +kernel, rfl, by decide⟩
theorem d_c10_faultInYear_59 : gD b_c10_faultInYear 59 (.aload_n 3) 1 60 := ⟨by decide +kernel, rfl⟩
theorem d_c10_faultInYear_60 : gD b_c10_faultInYear 60 (.iload 4) 2 62 := ⟨by decide +kernel, rfl⟩
theorem d_c10_faultInYear_62 : gD b_c10_faultInYear 62 (.invokevirtual 455) 3 65 := ⟨by decide +kernel, rfl⟩
theorem d_c10_faultInYear_65 : gD b_c10_faultInYear 65 (.aload_n 0) 1 66 := ⟨by decide +kernel, rfl⟩
theorem d_c10_faultInYear_66 : gD b_c10_faultInYear 66 (.getfield 10) 3 69 := ⟨by decide +kernel, rfl⟩
theorem d_c10_faultInYear_69 : gD b_c10_faultInYear 69 (.iload_n 1) 1 70 := ⟨by decide +kernel, rfl⟩
theorem d_c10_faultInYear_70 : gD b_c10_faultInYear 70 (.bipush 60) 2 72 := ⟨by decide +kernel, rfl⟩
theorem d_c10_faultInYear_72 : gD b_c10_faultInYear 72 (.invokevirtual 237) 3 75 := ⟨by decide +kernel, rfl⟩
theorem d_c10_faultInYear_75 : gD b_c10_faultInYear 75 (.invokestatic 459) 3 78 := ⟨by decide +kernel, rfl⟩
theorem d_c10_faultInYear_78 : gJ b_c10_faultInYear 78 (.ifCond .ne 5) 3 5 81 83 := ⟨by decide +kernel, rfl, by decide⟩
theorem d_c10_faultInYear_81 : gD b_c10_faultInYear 81 (.iload_n 1) 1 82 := ⟨by decide +kernel, rfl⟩
theorem d_c10_faultInYear_82 : gD b_c10_faultInYear 82 .ireturn 1 83 := ⟨by decide +kernel, rfl⟩
theorem d_c10_faultInYear_83 : gD b_c10_faultInYear 83 (.iinc 1 1) 3 86 := ⟨by decide +kernel, rfl⟩
theorem d_c10_faultInYear_86 : gD b_c10_faultInYear 86 (.iinc 4 1) 3 89 := ⟨by decide +kernel, rfl⟩
theorem d_c10_faultInYear_89 : gJ b_c10_faultInYear 89 (.goto (-39)) 3 (-39) 92 50 := ⟨by decide +kernel, rfl, by decide⟩
theorem d_c10_faultInYear_92 : gD b_c10_faultInYear 92 (.iinc 2 1) 3 95 := ⟨by decide +kernel, rfl⟩
theorem d_c10_faultInYear_95 : gJ b_c10_faultInYear 95 (.goto (-91)) 3 (-91) 98 4 := ⟨by decide +kernel, rfl, by decide⟩
theorem d_c10_faultInYear_98 : gD b_c10_faultInYear 98 (.iconst (-1)) 1 99 := ⟨by decide +kernel, rfl⟩
theorem d_c10_faultInYear_99 : gD b_c10_faultInYear 99 .ireturn 1 100 := ⟨by decide +kernel, rfl⟩
def lp_c10_faultInYear_50 (N : Nat) (a0 : Nat) (a3 : Nat) (h : gH) : Nat → Int32 → Int32 → Option ((Int32) ⊕ (Int32))
  | 0, _, _ => none
  | k + 1, x1, x4 =>
  (f_jString_length N a3 h).bind fun q10 =>
    if q10 ≤ x4 then
    some (.inr x1)
  else
    (f_jString_charAt N a3 x4 h).bind fun q12 =>
    (gfR h a0 10 0).bind fun v13 =>
    (f_c8_at N v13 x1 (60 : Int32) h).bind fun q14 =>
    (f_c10_stands N q12 q14 h).bind fun q15 =>
    if q15 = 0 then
    some (.inl x1)
  else
    lp_c10_faultInYear_50 N a0 a3 h k (x1 + (1 : Int32)) (x4 + (1 : Int32))
def lp_c10_faultInYear_4 (N : Nat) (a0 : Nat) (h : gH) : Nat → Int32 → Int32 → Option ((Int32) ⊕ (Unit))
  | 0, _, _ => none
  | k + 1, x1, x2 =>
  if (60 : Int32) < x2 then
    some (.inr ())
  else
    (gfR h a0 10 0).bind fun v2 =>
    (gfI h v2 8 1).bind fun v3 =>
    if v3 ≤ x1 then
    some (.inr ())
  else
    (gfR h a0 10 0).bind fun v5 =>
    (f_c8_at N v5 x1 (60 : Int32) h).bind fun q6 =>
    (f_c10_shape N q6 h).bind fun q7 =>
    (f_jString_isEmpty N q7 h).bind fun q8 =>
    if q8 = 0 then
    (lp_c10_faultInYear_50 N a0 q7 h N (x1 + (1 : Int32)) (0 : Int32)).bind fun o17 => Sum.elim (fun r19 => some (.inl r19)) (fun t18 =>
    lp_c10_faultInYear_4 N a0 h k t18 (x2 + (1 : Int32))) o17
  else
    some (.inl x1)
def f_c10_faultInYear (N : Nat) (a0 : Nat) (h : gH) : Option (Int32) :=
  (gcl h a0 10).bind fun _ =>
  (lp_c10_faultInYear_4 N a0 h N (0 : Int32) (0 : Int32)).bind fun o21 => Sum.elim (fun r23 => some r23) (fun t22 =>
    some (-1 : Int32)) o21
set_option maxHeartbeats 4000000 in
set_option maxRecDepth 100000 in
theorem wlp_c10_faultInYear_50 {M : gM} {X : gX} {N : Nat} (hx : gEx X = false) (K : gC M X gN10 b_c10_faultInYear 5 (gRm (5 + N) 0 0)) (a0 : Nat) (a3 : Nat) (x2 : Int32) (h : gH) : ∀ (k : Nat) (x1 : Int32) (x4 : Int32) (o : (Int32) ⊕ (Int32)), lp_c10_faultInYear_50 N a0 a3 h k x1 x4 = some o → (∀ t, o = .inr t → gG M X 5 0 0 92 [(0, .ref a0), (1, .int t), (2, .int x2)] [] h) → (∀ r, o = .inl r → (narrow .int (.int r) = .int r → ∀ pc pc' ls, gD b_c10_faultInYear pc .ireturn 1 pc' → gG M X 5 0 0 pc ls [.int r] h)) → gG M X 5 0 0 50 [(0, .ref a0), (1, .int x1), (2, .int x2), (3, .ref a3), (4, .int x4)] [] h := by
  intro k
  induction k with
  | zero =>
    intro x1 x4 o hy
    rw [lp_c10_faultInYear_50.eq_1] at hy
    cases hy
  | succ k ih =>
    intro x1 x4 o hy hE hR
    rw [lp_c10_faultInYear_50.eq_2] at hy
    refine g_iload K d_c10_faultInYear_50 4 rfl ?_
    refine g_aload_n K d_c10_faultInYear_52 3 rfl ?_
    obtain ⟨q10, e_q10, hy⟩ := gBd hy
    refine g_callVi (rest := [.int x4]) K hx ly_jString_length kv_c10_244 d_c10_faultInYear_53 (ct_jString_length M.2.1 X hx N a3 h q10 e_q10) rfl rfl (Nat.le_of_ble_eq_true rfl) (gDep rfl) ⟨Nat.le_refl 0, Nat.le_refl 0⟩ ?_
    refine g_icmp_ge K d_c10_faultInYear_56 (fun c11 => ?_) (fun c11 => ?_)
    · rw [if_pos c11] at hy
      refine g_sub (ls2 := [(0, .ref a0), (1, .int x1), (2, .int x2)]) [0, 1, 2] rfl ?_
      obtain rfl := Option.some.inj hy
      exact hE _ rfl
    · rw [if_neg c11] at hy
      refine g_aload_n K d_c10_faultInYear_59 3 rfl ?_
      refine g_iload K d_c10_faultInYear_60 4 rfl ?_
      obtain ⟨q12, e_q12, hy⟩ := gBd hy
      refine g_callVi (rest := []) K hx ly_jString_charAt kv_c10_455 d_c10_faultInYear_62 (ct_jString_charAt M.2.1 X hx N a3 x4 h q12 e_q12) rfl rfl (Nat.le_of_ble_eq_true rfl) (gDep rfl) ⟨Nat.le_refl 0, Nat.le_refl 0⟩ ?_
      refine g_aload_n K d_c10_faultInYear_65 0 rfl ?_
      obtain ⟨v13, e_v13, hy⟩ := gBd hy
      refine g_getR K fl_c10_10 d_c10_faultInYear_66 e_v13 ?_
      refine g_iload_n K d_c10_faultInYear_69 1 rfl ?_
      refine g_bipush (v := 60) K d_c10_faultInYear_70 (by decide) ?_
      obtain ⟨q14, e_q14, hy⟩ := gBd hy
      refine g_callVi (rest := [.int q12]) K hx ly_c8_at kv_c10_237 d_c10_faultInYear_72 (ct_c8_at M.2.1 X hx N v13 x1 (60 : Int32) h q14 e_q14) rfl rfl (Nat.le_of_ble_eq_true rfl) (gDep rfl) ⟨Nat.le_refl 0, Nat.le_refl 0⟩ ?_
      obtain ⟨q15, e_q15, hy⟩ := gBd hy
      refine g_callSi (rest := []) K hx ly_c10_stands ks_c10_459 d_c10_faultInYear_75 (ct_c10_stands M.2.1 X hx N q12 q14 h q15 e_q15) rfl rfl (Nat.le_of_ble_eq_true rfl) (gDep rfl) ⟨Nat.le_refl 0, Nat.le_refl 0⟩ ?_
      refine g_if_ne K d_c10_faultInYear_78 (fun c16 => ?_) (fun c16 => ?_)
      · rw [if_neg c16] at hy
        refine g_iinc (ls2 := [(1, .int (x1 + (1 : Int32))), (0, .ref a0), (2, .int x2), (3, .ref a3), (4, .int x4)]) (v := 1) K d_c10_faultInYear_83 1 rfl (by decide) rfl rfl ?_
        refine g_iinc (ls2 := [(4, .int (x4 + (1 : Int32))), (1, .int (x1 + (1 : Int32))), (0, .ref a0), (2, .int x2), (3, .ref a3)]) (v := 1) K d_c10_faultInYear_86 4 rfl (by decide) rfl rfl ?_
        refine g_goto K d_c10_faultInYear_89 ?_
        refine g_sub (ls2 := [(0, .ref a0), (1, .int (x1 + (1 : Int32))), (2, .int x2), (3, .ref a3), (4, .int (x4 + (1 : Int32)))]) [2, 1, 3, 4, 0] rfl ?_
        exact ih _ _ _ hy hE hR
      · rw [if_pos c16] at hy
        refine g_iload_n K d_c10_faultInYear_81 1 rfl ?_
        obtain rfl := Option.some.inj hy
        exact hR _ rfl rfl _ _ _ d_c10_faultInYear_82
set_option maxHeartbeats 4000000 in
set_option maxRecDepth 100000 in
theorem wlp_c10_faultInYear_4 {M : gM} {X : gX} {N : Nat} (hx : gEx X = false) (K : gC M X gN10 b_c10_faultInYear 5 (gRm (5 + N) 0 0)) (a0 : Nat) (h : gH) : ∀ (k : Nat) (x1 : Int32) (x2 : Int32) (o : (Int32) ⊕ (Unit)), lp_c10_faultInYear_4 N a0 h k x1 x2 = some o → (∀ t, o = .inr t → gG M X 5 0 0 98 [] [] h) → (∀ r, o = .inl r → (narrow .int (.int r) = .int r → ∀ pc pc' ls, gD b_c10_faultInYear pc .ireturn 1 pc' → gG M X 5 0 0 pc ls [.int r] h)) → gG M X 5 0 0 4 [(0, .ref a0), (1, .int x1), (2, .int x2)] [] h := by
  intro k
  induction k with
  | zero =>
    intro x1 x2 o hy
    rw [lp_c10_faultInYear_4.eq_1] at hy
    cases hy
  | succ k ih =>
    intro x1 x2 o hy hE hR
    rw [lp_c10_faultInYear_4.eq_2] at hy
    refine g_iload_n K d_c10_faultInYear_4 2 rfl ?_
    refine g_bipush (v := 60) K d_c10_faultInYear_5 (by decide) ?_
    refine g_icmp_gt K d_c10_faultInYear_7 (fun c1 => ?_) (fun c1 => ?_)
    · rw [if_pos c1] at hy
      refine g_sub (ls2 := []) [] rfl ?_
      obtain rfl := Option.some.inj hy
      exact hE _ rfl
    · rw [if_neg c1] at hy
      refine g_iload_n K d_c10_faultInYear_10 1 rfl ?_
      refine g_aload_n K d_c10_faultInYear_11 0 rfl ?_
      obtain ⟨v2, e_v2, hy⟩ := gBd hy
      refine g_getR K fl_c10_10 d_c10_faultInYear_12 e_v2 ?_
      obtain ⟨v3, e_v3, hy⟩ := gBd hy
      refine g_getI K fl_c10_100 d_c10_faultInYear_15 e_v3 ?_
      refine g_icmp_ge K d_c10_faultInYear_18 (fun c4 => ?_) (fun c4 => ?_)
      · rw [if_pos c4] at hy
        refine g_sub (ls2 := []) [] rfl ?_
        obtain rfl := Option.some.inj hy
        exact hE _ rfl
      · rw [if_neg c4] at hy
        refine g_aload_n K d_c10_faultInYear_21 0 rfl ?_
        obtain ⟨v5, e_v5, hy⟩ := gBd hy
        refine g_getR K fl_c10_10 d_c10_faultInYear_22 e_v5 ?_
        refine g_iload_n K d_c10_faultInYear_25 1 rfl ?_
        refine g_bipush (v := 60) K d_c10_faultInYear_26 (by decide) ?_
        obtain ⟨q6, e_q6, hy⟩ := gBd hy
        refine g_callVi (rest := []) K hx ly_c8_at kv_c10_237 d_c10_faultInYear_28 (ct_c8_at M.2.1 X hx N v5 x1 (60 : Int32) h q6 e_q6) rfl rfl (Nat.le_of_ble_eq_true rfl) (gDep rfl) ⟨Nat.le_refl 0, Nat.le_refl 0⟩ ?_
        obtain ⟨q7, e_q7, hy⟩ := gBd hy
        refine g_callSr (rest := []) K hx ly_c10_shape ks_c10_240 d_c10_faultInYear_31 (ct_c10_shape M.2.1 X hx N q6 h q7 e_q7) rfl rfl (Nat.le_of_ble_eq_true rfl) (gDep rfl) ⟨Nat.le_refl 0, Nat.le_refl 0⟩ ?_
        refine g_astore_n (ls2 := [(3, .ref q7), (0, .ref a0), (1, .int x1), (2, .int x2)]) K d_c10_faultInYear_34 rfl rfl ?_
        refine g_aload_n K d_c10_faultInYear_35 0 rfl ?_
        obtain ⟨q8, e_q8, hy⟩ := gBd hy
        refine g_callVi (rest := []) K hx ly_jString_isEmpty kv_c10_451 d_c10_faultInYear_36 (ct_jString_isEmpty M.2.1 X hx N q7 h q8 e_q8) rfl rfl (Nat.le_of_ble_eq_true rfl) (gDep rfl) ⟨Nat.le_refl 0, Nat.le_refl 0⟩ ?_
        refine g_if_eq K d_c10_faultInYear_39 (fun c9 => ?_) (fun c9 => ?_)
        · rw [if_pos c9] at hy
          refine g_iinc (ls2 := [(1, .int (x1 + (1 : Int32))), (3, .ref q7), (0, .ref a0), (2, .int x2)]) (v := 1) K d_c10_faultInYear_44 2 rfl (by decide) rfl rfl ?_
          refine g_iconst (v := 0) K d_c10_faultInYear_47 (by decide) ?_
          refine g_istore (ls2 := [(4, .int (0 : Int32)), (1, .int (x1 + (1 : Int32))), (3, .ref q7), (0, .ref a0), (2, .int x2)]) K d_c10_faultInYear_48 rfl rfl ?_
          obtain ⟨o17, e_o17, hy⟩ := gBd hy
          refine g_sub (ls2 := [(0, .ref a0), (1, .int (x1 + (1 : Int32))), (2, .int x2), (3, .ref q7), (4, .int (0 : Int32))]) [3, 1, 4, 2, 0] rfl ?_
          refine wlp_c10_faultInYear_50 hx K a0 q7 x2 h N (x1 + (1 : Int32)) (0 : Int32) o17 e_o17 (fun t18 e_t18 => ?_) (fun r19 e_r19 => ?_)
          · subst e_t18
            simp only [Sum.elim_inr] at hy
            refine g_iinc (ls2 := [(2, .int (x2 + (1 : Int32))), (0, .ref a0), (1, .int t18)]) (v := 1) K d_c10_faultInYear_92 2 rfl (by decide) rfl rfl ?_
            refine g_goto K d_c10_faultInYear_95 ?_
            refine g_sub (ls2 := [(0, .ref a0), (1, .int t18), (2, .int (x2 + (1 : Int32)))]) [1, 2, 0] rfl ?_
            exact ih _ _ _ hy hE hR
          · subst e_r19
            simp only [Sum.elim_inl] at hy
            intro hn pc9 pc9' ls9 hd9
            obtain rfl := Option.some.inj hy
            exact hR _ rfl hn _ _ _ hd9
        · rw [if_neg c9] at hy
          refine g_iload_n K d_c10_faultInYear_42 2 rfl ?_
          obtain rfl := Option.some.inj hy
          exact hR _ rfl rfl _ _ _ d_c10_faultInYear_43
set_option maxHeartbeats 4000000 in
set_option maxRecDepth 100000 in
theorem ct_c10_faultInYear (l : Launch) (X : gX) (hx : gEx X = false) (N : Nat) (a0 : Nat) (h : gH) (q : Int32) (hy : f_c10_faultInYear N a0 h = some q) : gRc y_c10_faultInYear h a0 ∧ gMi l X y_c10_faultInYear b_c10_faultInYear 5 .int (5 + N) 0 0 [.ref a0] h q h := by
  unfold f_c10_faultInYear at hy
  obtain ⟨u0, e_u0, hy⟩ := gBd hy
  cases u0
  refine ⟨Or.inl ⟨10, _, _, e_u0, rfl⟩, gMet_i (lsx := [(0, .ref a0)]) (by decide) rfl rfl ?_⟩
  intro M hMl K hret
  subst hMl
  refine g_iconst (v := 0) K d_c10_faultInYear_0 (by decide) ?_
  refine g_istore_n (ls2 := [(1, .int (0 : Int32)), (0, .ref a0)]) K d_c10_faultInYear_1 rfl rfl ?_
  refine g_iconst (v := 0) K d_c10_faultInYear_2 (by decide) ?_
  refine g_istore_n (ls2 := [(2, .int (0 : Int32)), (1, .int (0 : Int32)), (0, .ref a0)]) K d_c10_faultInYear_3 rfl rfl ?_
  obtain ⟨o21, e_o21, hy⟩ := gBd hy
  refine g_sub (ls2 := [(0, .ref a0), (1, .int (0 : Int32)), (2, .int (0 : Int32))]) [2, 1, 0] rfl ?_
  refine wlp_c10_faultInYear_4 hx K a0 h N (0 : Int32) (0 : Int32) o21 e_o21 (fun t22 e_t22 => ?_) (fun r23 e_r23 => ?_)
  · subst e_t22
    simp only [Sum.elim_inr] at hy
    refine g_iconst (v := (-1)) K d_c10_faultInYear_98 (by decide) ?_
    obtain rfl := Option.some.inj hy
    exact hret rfl _ _ _ d_c10_faultInYear_99
  · subst e_r23
    simp only [Sum.elim_inl] at hy
    intro hn pc9 pc9' ls9 hd9
    obtain rfl := Option.some.inj hy
    exact hret hn _ _ _ hd9
-- c10 parched
theorem d_c10_parched_0 : gD b_c10_parched 0 (.aload_n 0) 1 1 := ⟨by decide +kernel, rfl⟩
theorem d_c10_parched_1 : gD b_c10_parched 1 (.getfield 26) 3 4 := ⟨by decide +kernel, rfl⟩
theorem d_c10_parched_4 : gD b_c10_parched 4 (.iload_n 1) 1 5 := ⟨by decide +kernel, rfl⟩
theorem d_c10_parched_5 : gD b_c10_parched 5 (.invokevirtual 171) 3 8 := ⟨by decide +kernel, rfl⟩
theorem d_c10_parched_8 : gJ b_c10_parched 8 (.ifCond .ne 5) 3 5 11 13 := ⟨by decide +kernel, rfl, by decide⟩
theorem d_c10_parched_11 : gD b_c10_parched 11 (.iconst (-1)) 1 12 := ⟨by decide +kernel, rfl⟩
theorem d_c10_parched_12 : gD b_c10_parched 12 .ireturn 1 13 := ⟨by decide +kernel, rfl⟩
theorem d_c10_parched_13 : gD b_c10_parched 13 (.aload_n 0) 1 14 := ⟨by decide +kernel, rfl⟩
theorem d_c10_parched_14 : gD b_c10_parched 14 (.getfield 40) 3 17 := ⟨by decide +kernel, rfl⟩
theorem d_c10_parched_17 : gD b_c10_parched 17 (.aload_n 0) 1 18 := ⟨by decide +kernel, rfl⟩
theorem d_c10_parched_18 : gD b_c10_parched 18 (.getfield 33) 3 21 := ⟨by decide +kernel, rfl⟩
theorem d_c10_parched_21 : gD b_c10_parched 21 (.invokevirtual 124) 3 24 := ⟨by decide +kernel, rfl⟩
theorem d_c10_parched_24 : gD b_c10_parched 24 (.bipush (-2)) 2 26 := ⟨by decide +kernel, rfl⟩
theorem d_c10_parched_26 : gD b_c10_parched 26 (.istore_n 2) 1 27 := ⟨by decide +kernel, rfl⟩
theorem d_c10_parched_27 : gD b_c10_parched 27 (.iconst 0) 1 28 := ⟨by decide +kernel, rfl⟩
theorem d_c10_parched_28 : gD b_c10_parched 28 (.istore_n 3) 1 29 := ⟨by decide +kernel, rfl⟩
theorem d_c10_parched_29 : gD b_c10_parched 29 (.iconst 1) 1 30 := ⟨by decide +kernel, rfl⟩
theorem d_c10_parched_30 : gD b_c10_parched 30 (.istore 4) 2 32 := ⟨by decide +kernel, rfl⟩
theorem d_c10_parched_32 : gD b_c10_parched 32 (.iload 4) 2 34 := ⟨by decide +kernel, rfl⟩
theorem d_c10_parched_34 : gD b_c10_parched 34 (.bipush 99) 2 36 := ⟨by decide +kernel, rfl⟩
theorem d_c10_parched_36 : gJ b_c10_parched 36 (.if_icmp .gt 64) 3 64 39 100 := ⟨by decide +kernel, rfl, by decide⟩
theorem d_c10_parched_39 : gD b_c10_parched 39 (.aload_n 0) 1 40 := ⟨by decide +kernel, rfl⟩
theorem d_c10_parched_40 : gD b_c10_parched 40 (.getfield 46) 3 43 := ⟨by decide +kernel, rfl⟩
theorem d_c10_parched_43 : gD b_c10_parched 43 (.aload_n 0) 1 44 := ⟨by decide +kernel, rfl⟩
theorem d_c10_parched_44 : gD b_c10_parched 44 (.getfield 40) 3 47 := ⟨by decide +kernel, rfl⟩
theorem d_c10_parched_47 : gD b_c10_parched 47 (.aload_n 0) 1 48 := ⟨by decide +kernel, rfl⟩
theorem d_c10_parched_48 : gD b_c10_parched 48 (.getfield 26) 3 51 := ⟨by decide +kernel, rfl⟩
theorem d_c10_parched_51 : gD b_c10_parched 51 (.aload_n 0) 1 52 := ⟨by decide +kernel, rfl⟩
theorem d_c10_parched_52 : gD b_c10_parched 52 (.getfield 81) 3 55 := ⟨by decide +kernel, rfl⟩
theorem d_c10_parched_55 : gD b_c10_parched 55 (.invokevirtual 254) 3 58 := ⟨by decide +kernel, rfl⟩
theorem d_c10_parched_58 : gD b_c10_parched 58 (.aload_n 0) 1 59 := ⟨by decide +kernel, rfl⟩
theorem d_c10_parched_59 : gD b_c10_parched 59 (.getfield 46) 3 62 := ⟨by decide +kernel, rfl⟩
theorem d_c10_parched_62 : gD b_c10_parched 62 (.getfield 258) 3 65 := ⟨by decide +kernel, rfl⟩
theorem d_c10_parched_65 : gD b_c10_parched 65 (.iload_n 1) 1 66 := ⟨by decide +kernel, rfl⟩
theorem d_c10_parched_66 : gD b_c10_parched 66 .iaload 1 67 := ⟨by decide +kernel, rfl⟩
theorem d_c10_parched_67 : gD b_c10_parched 67 (.aload_n 0) 1 68 := ⟨by decide +kernel, rfl⟩
theorem d_c10_parched_68 : gD b_c10_parched 68 (.getfield 26) 3 71 := ⟨by decide +kernel, rfl⟩
theorem d_c10_parched_71 : gD b_c10_parched 71 (.getfield 175) 3 74 := ⟨by decide +kernel, rfl⟩
theorem d_c10_parched_74 : gD b_c10_parched 74 (.iload_n 1) 1 75 := ⟨by decide +kernel, rfl⟩
theorem d_c10_parched_75 : gD b_c10_parched 75 .iaload 1 76 := ⟨by decide +kernel, rfl⟩
theorem d_c10_parched_76 : gJ b_c10_parched 76 (.if_icmp .ge 18) 3 18 79 94 := ⟨by decide +kernel, rfl, by decide⟩
theorem d_c10_parched_79 : gD b_c10_parched 79 (.iinc 3 1) 3 82 := ⟨by decide +kernel, rfl⟩
theorem d_c10_parched_82 : gD b_c10_parched 82 (.iload_n 3) 1 83 := ⟨by decide +kernel, rfl⟩
theorem d_c10_parched_83 : gD b_c10_parched 83 (.iconst 1) 1 84 := ⟨by decide +kernel, rfl⟩
theorem d_c10_parched_84 : gJ b_c10_parched 84 (.if_icmp .ne 8) 3 8 87 92 := ⟨by decide +kernel, rfl, by decide⟩
theorem d_c10_parched_87 : gD b_c10_parched 87 (.iload 4) 2 89 := ⟨by decide +kernel, rfl⟩
theorem d_c10_parched_89 : gJ b_c10_parched 89 (.goto 4) 3 4 92 93 := ⟨by decide +kernel, rfl, by decide⟩
theorem d_c10_parched_92 : gD b_c10_parched 92 (.iload_n 2) 1 93 := ⟨by decide +kernel, rfl⟩
theorem d_c10_parched_93 : gD b_c10_parched 93 (.istore_n 2) 1 94 := ⟨by decide +kernel, rfl⟩
theorem d_c10_parched_94 : gD b_c10_parched 94 (.iinc 4 1) 3 97 := ⟨by decide +kernel, rfl⟩
theorem d_c10_parched_97 : gJ b_c10_parched 97 (.goto (-65)) 3 (-65) 100 32 := ⟨by decide +kernel, rfl, by decide⟩
theorem d_c10_parched_100 : gD b_c10_parched 100 (.iload_n 3) 1 101 := ⟨by decide +kernel, rfl⟩
theorem d_c10_parched_101 : gJ b_c10_parched 101 (.ifCond .ne 8) 3 8 104 109 := ⟨by decide +kernel, rfl, by decide⟩
theorem d_c10_parched_104 : gD b_c10_parched 104 (.bipush (-2)) 2 106 := ⟨by decide +kernel, rfl⟩
theorem d_c10_parched_106 : gJ b_c10_parched 106 (.goto 10) 3 10 109 116 := ⟨by decide +kernel, rfl, by decide⟩
theorem d_c10_parched_109 : gD b_c10_parched 109 (.aload_n 0) 1 110 := ⟨by decide +kernel, rfl⟩
theorem d_c10_parched_110 : gD b_c10_parched 110 (.iload_n 2) 1 111 := ⟨by decide +kernel, rfl⟩
theorem d_c10_parched_111 : gD b_c10_parched 111 (.iload_n 3) 1 112 := ⟨by decide +kernel, rfl⟩
theorem d_c10_parched_112 : gD b_c10_parched 112 .i2l 1 113 := ⟨by decide +kernel, rfl⟩
theorem d_c10_parched_113 : gD b_c10_parched 113 (.invokevirtual 261) 3 116 := ⟨by decide +kernel, rfl⟩
theorem d_c10_parched_116 : gD b_c10_parched 116 .ireturn 1 117 := ⟨by decide +kernel, rfl⟩
def lp_c10_parched_32 (N : Nat) (a0 : Nat) (x1 : Int32) : Nat → Int32 → Int32 → Int32 → gH → Option (Int32 × Int32 × gH)
  | 0, _, _, _, _ => none
  | k + 1, x2, x3, x4, h =>
  if (99 : Int32) < x4 then
    some (x2, x3, h)
  else
    (gfR h a0 10 6).bind fun v8 =>
    (gfR h a0 10 5).bind fun v9 =>
    (gfR h a0 10 2).bind fun v10 =>
    (gfR h a0 10 11).bind fun v11 =>
    (f_c0_passOne N v8 v9 v10 v11 h).bind fun q12 =>
    (gfR q12 a0 10 6).bind fun v13 =>
    (gfR q12 v13 0 0).bind fun v14 =>
    (ga 0 q12 v14 x1).bind fun v15 =>
    (gfR q12 a0 10 2).bind fun v16 =>
    (gfR q12 v16 1 4).bind fun v17 =>
    (ga 0 q12 v17 x1).bind fun v18 =>
    (show Option (Int32 × Int32) from if v18 ≤ v15 then
    some (x2, x3)
  else
    some ((if (x3 + (1 : Int32)) = (1 : Int32) then x4 else x2), x3 + (1 : Int32))).bind fun t20 =>
    lp_c10_parched_32 N a0 x1 k t20.1 t20.2 (x4 + (1 : Int32)) q12
def f_c10_parched (N : Nat) (a0 : Nat) (x1 : Int32) (h : gH) : Option (Int32 × gH) :=
  (gcl h a0 10).bind fun _ =>
  (gfR h a0 10 2).bind fun v1 =>
    (f_c1_has N v1 x1 h).bind fun q2 =>
    if q2 = 0 then
    some ((-1 : Int32), h)
  else
    (gfR h a0 10 5).bind fun v4 =>
    (gfR h a0 10 3).bind fun v5 =>
    (f_c7_take N v4 v5 h).bind fun q6 =>
    (lp_c10_parched_32 N a0 x1 N (-2 : Int32) (0 : Int32) (1 : Int32) q6).bind fun o25 =>
    (show Option (Int32 × gH) from if o25.2.1 = 0 then
    some ((-2 : Int32), o25.2.2)
  else
    (f_c10_tellOne N a0 o25.1 o25.2.1.toInt64 o25.2.2).bind fun q29 =>
    some (q29.1, q29.2)).bind fun t27 =>
    some (t27.1, t27.2)
set_option maxHeartbeats 4000000 in
set_option maxRecDepth 100000 in
theorem wlp_c10_parched_32 {M : gM} {X : gX} {N : Nat} (hx : gEx X = false) (K : gC M X gN10 b_c10_parched 5 (gRm (5 + N) 0 0)) (a0 : Nat) (x1 : Int32) : ∀ (k : Nat) (x2 : Int32) (x3 : Int32) (x4 : Int32) (h : gH) (o : Int32 × Int32 × gH), lp_c10_parched_32 N a0 x1 k x2 x3 x4 h = some o → gG M X 5 0 0 100 [(0, .ref a0), (2, .int o.1), (3, .int o.2.1)] [] o.2.2 → gG M X 5 0 0 32 [(0, .ref a0), (1, .int x1), (2, .int x2), (3, .int x3), (4, .int x4)] [] h := by
  intro k
  induction k with
  | zero =>
    intro x2 x3 x4 h o hy
    rw [lp_c10_parched_32.eq_1] at hy
    cases hy
  | succ k ih =>
    intro x2 x3 x4 h o hy hE
    rw [lp_c10_parched_32.eq_2] at hy
    refine g_iload K d_c10_parched_32 4 rfl ?_
    refine g_bipush (v := 99) K d_c10_parched_34 (by decide) ?_
    refine g_icmp_gt K d_c10_parched_36 (fun c7 => ?_) (fun c7 => ?_)
    · rw [if_pos c7] at hy
      refine g_sub (ls2 := [(0, .ref a0), (2, .int x2), (3, .int x3)]) [0, 2, 3] rfl ?_
      obtain rfl := Option.some.inj hy
      exact hE
    · rw [if_neg c7] at hy
      refine g_aload_n K d_c10_parched_39 0 rfl ?_
      obtain ⟨v8, e_v8, hy⟩ := gBd hy
      refine g_getR K fl_c10_46 d_c10_parched_40 e_v8 ?_
      refine g_aload_n K d_c10_parched_43 0 rfl ?_
      obtain ⟨v9, e_v9, hy⟩ := gBd hy
      refine g_getR K fl_c10_40 d_c10_parched_44 e_v9 ?_
      refine g_aload_n K d_c10_parched_47 0 rfl ?_
      obtain ⟨v10, e_v10, hy⟩ := gBd hy
      refine g_getR K fl_c10_26 d_c10_parched_48 e_v10 ?_
      refine g_aload_n K d_c10_parched_51 0 rfl ?_
      obtain ⟨v11, e_v11, hy⟩ := gBd hy
      refine g_getR K fl_c10_81 d_c10_parched_52 e_v11 ?_
      obtain ⟨q12, e_q12, hy⟩ := gBd hy
      refine g_callVv (rest := []) K hx ly_c0_passOne kv_c10_254 d_c10_parched_55 (ct_c0_passOne M.2.1 X hx N v8 v9 v10 v11 h q12 e_q12) rfl rfl (Nat.le_of_ble_eq_true rfl) (gDep rfl) ⟨Nat.le_refl 0, Nat.le_refl 0⟩ ?_
      refine g_aload_n K d_c10_parched_58 0 rfl ?_
      obtain ⟨v13, e_v13, hy⟩ := gBd hy
      refine g_getR K fl_c10_46 d_c10_parched_59 e_v13 ?_
      obtain ⟨v14, e_v14, hy⟩ := gBd hy
      refine g_getR K fl_c10_258 d_c10_parched_62 e_v14 ?_
      refine g_iload_n K d_c10_parched_65 1 rfl ?_
      obtain ⟨v15, e_v15, hy⟩ := gBd hy
      refine g_iald K d_c10_parched_66 e_v15 ?_
      refine g_aload_n K d_c10_parched_67 0 rfl ?_
      obtain ⟨v16, e_v16, hy⟩ := gBd hy
      refine g_getR K fl_c10_26 d_c10_parched_68 e_v16 ?_
      obtain ⟨v17, e_v17, hy⟩ := gBd hy
      refine g_getR K fl_c10_175 d_c10_parched_71 e_v17 ?_
      refine g_iload_n K d_c10_parched_74 1 rfl ?_
      obtain ⟨v18, e_v18, hy⟩ := gBd hy
      refine g_iald K d_c10_parched_75 e_v18 ?_
      obtain ⟨t20, e_t20, hy⟩ := gBd hy
      have hJ21 : gG M X 5 0 0 94 [(0, .ref a0), (1, .int x1), (2, .int t20.1), (3, .int t20.2), (4, .int x4)] [] q12 := by
        refine g_iinc (ls2 := [(4, .int (x4 + (1 : Int32))), (0, .ref a0), (1, .int x1), (2, .int t20.1), (3, .int t20.2)]) (v := 1) K d_c10_parched_94 4 rfl (by decide) rfl rfl ?_
        refine g_goto K d_c10_parched_97 ?_
        refine g_sub (ls2 := [(0, .ref a0), (1, .int x1), (2, .int t20.1), (3, .int t20.2), (4, .int (x4 + (1 : Int32)))]) [1, 2, 3, 4, 0] rfl ?_
        exact ih _ _ _ _ _ hy hE
      refine g_icmp_ge K d_c10_parched_76 (fun c19 => ?_) (fun c19 => ?_)
      · rw [if_pos c19] at e_t20
        obtain rfl := Option.some.inj e_t20
        exact hJ21
      · rw [if_neg c19] at e_t20
        refine g_iinc (ls2 := [(3, .int (x3 + (1 : Int32))), (0, .ref a0), (1, .int x1), (2, .int x2), (4, .int x4)]) (v := 1) K d_c10_parched_79 3 rfl (by decide) rfl rfl ?_
        refine g_iload_n K d_c10_parched_82 0 rfl ?_
        refine g_iconst (v := 1) K d_c10_parched_83 (by decide) ?_
        have hJ24 : ∀ w23 : Int32, w23 = (if (x3 + (1 : Int32)) = (1 : Int32) then x4 else x2) → gG M X 5 0 0 93 [(3, .int (x3 + (1 : Int32))), (0, .ref a0), (1, .int x1), (2, .int x2), (4, .int x4)] [.int w23] q12 := by
          intro w23 e_w23
          subst e_w23
          refine g_istore_n (ls2 := [(2, .int (if (x3 + (1 : Int32)) = (1 : Int32) then x4 else x2)), (3, .int (x3 + (1 : Int32))), (0, .ref a0), (1, .int x1), (4, .int x4)]) K d_c10_parched_93 rfl rfl ?_
          refine g_sub (ls2 := [(0, .ref a0), (1, .int x1), (2, .int (if (x3 + (1 : Int32)) = (1 : Int32) then x4 else x2)), (3, .int (x3 + (1 : Int32))), (4, .int x4)]) [2, 3, 0, 1, 4] rfl ?_
          obtain rfl := Option.some.inj e_t20
          exact hJ21
        refine g_icmp_ne K d_c10_parched_84 (fun c22 => ?_) (fun c22 => ?_)
        · refine g_iload_n K d_c10_parched_92 3 rfl ?_
          exact hJ24 _ (by rw [if_neg c22])
        · refine g_iload K d_c10_parched_87 4 rfl ?_
          refine g_goto K d_c10_parched_89 ?_
          exact hJ24 _ (by rw [if_pos c22])
set_option maxHeartbeats 4000000 in
set_option maxRecDepth 100000 in
theorem ct_c10_parched (l : Launch) (X : gX) (hx : gEx X = false) (N : Nat) (a0 : Nat) (x1 : Int32) (h : gH) (q : Int32 × gH) (hy : f_c10_parched N a0 x1 h = some q) : gRc y_c10_parched h a0 ∧ gMi l X y_c10_parched b_c10_parched 5 .int (5 + N) 0 0 [.ref a0, .int x1] h q.1 q.2 := by
  unfold f_c10_parched at hy
  obtain ⟨u0, e_u0, hy⟩ := gBd hy
  cases u0
  refine ⟨Or.inl ⟨10, _, _, e_u0, rfl⟩, gMet_i (lsx := [(0, .ref a0), (1, .int x1)]) (by decide) rfl rfl ?_⟩
  intro M hMl K hret
  subst hMl
  refine g_aload_n K d_c10_parched_0 0 rfl ?_
  obtain ⟨v1, e_v1, hy⟩ := gBd hy
  refine g_getR K fl_c10_26 d_c10_parched_1 e_v1 ?_
  refine g_iload_n K d_c10_parched_4 1 rfl ?_
  obtain ⟨q2, e_q2, hy⟩ := gBd hy
  refine g_callVi (rest := []) K hx ly_c1_has kv_c10_171 d_c10_parched_5 (ct_c1_has M.2.1 X hx N v1 x1 h q2 e_q2) rfl rfl (Nat.le_of_ble_eq_true rfl) (gDep rfl) ⟨Nat.le_refl 0, Nat.le_refl 0⟩ ?_
  refine g_if_ne K d_c10_parched_8 (fun c3 => ?_) (fun c3 => ?_)
  · rw [if_neg c3] at hy
    refine g_aload_n K d_c10_parched_13 0 rfl ?_
    obtain ⟨v4, e_v4, hy⟩ := gBd hy
    refine g_getR K fl_c10_40 d_c10_parched_14 e_v4 ?_
    refine g_aload_n K d_c10_parched_17 0 rfl ?_
    obtain ⟨v5, e_v5, hy⟩ := gBd hy
    refine g_getR K fl_c10_33 d_c10_parched_18 e_v5 ?_
    obtain ⟨q6, e_q6, hy⟩ := gBd hy
    refine g_callVv (rest := []) K hx ly_c7_take kv_c10_124 d_c10_parched_21 (ct_c7_take M.2.1 X hx N v4 v5 h q6 e_q6) rfl rfl (Nat.le_of_ble_eq_true rfl) (gDep rfl) ⟨Nat.le_refl 0, Nat.le_refl 0⟩ ?_
    refine g_bipush (v := (-2)) K d_c10_parched_24 (by decide) ?_
    refine g_istore_n (ls2 := [(2, .int (-2 : Int32)), (0, .ref a0), (1, .int x1)]) K d_c10_parched_26 rfl rfl ?_
    refine g_iconst (v := 0) K d_c10_parched_27 (by decide) ?_
    refine g_istore_n (ls2 := [(3, .int (0 : Int32)), (2, .int (-2 : Int32)), (0, .ref a0), (1, .int x1)]) K d_c10_parched_28 rfl rfl ?_
    refine g_iconst (v := 1) K d_c10_parched_29 (by decide) ?_
    refine g_istore (ls2 := [(4, .int (1 : Int32)), (3, .int (0 : Int32)), (2, .int (-2 : Int32)), (0, .ref a0), (1, .int x1)]) K d_c10_parched_30 rfl rfl ?_
    obtain ⟨o25, e_o25, hy⟩ := gBd hy
    refine g_sub (ls2 := [(0, .ref a0), (1, .int x1), (2, .int (-2 : Int32)), (3, .int (0 : Int32)), (4, .int (1 : Int32))]) [3, 4, 2, 1, 0] rfl ?_
    refine wlp_c10_parched_32 hx K a0 x1 N (-2 : Int32) (0 : Int32) (1 : Int32) q6 o25 e_o25 ?_
    refine g_iload_n K d_c10_parched_100 2 rfl ?_
    obtain ⟨t27, e_t27, hy⟩ := gBd hy
    have hJ28 : gG M X 5 0 0 116 [] [.int t27.1] t27.2 := by
      obtain rfl := Option.some.inj hy
      exact hret rfl _ _ _ d_c10_parched_116
    refine g_if_ne K d_c10_parched_101 (fun c26 => ?_) (fun c26 => ?_)
    · rw [if_neg c26] at e_t27
      refine g_aload_n K d_c10_parched_109 0 rfl ?_
      refine g_iload_n K d_c10_parched_110 1 rfl ?_
      refine g_iload_n K d_c10_parched_111 2 rfl ?_
      refine g_i2l K d_c10_parched_112 ?_
      obtain ⟨q29, e_q29, e_t27⟩ := gBd e_t27
      refine g_callVi (rest := []) K hx ly_c10_tellOne kv_c10_261 d_c10_parched_113 (ct_c10_tellOne M.2.1 X hx N a0 o25.1 o25.2.1.toInt64 o25.2.2 q29 e_q29) rfl rfl (Nat.le_of_ble_eq_true rfl) (gDep rfl) ⟨Nat.le_refl 0, Nat.le_refl 0⟩ ?_
      refine g_sub (ls2 := []) [] rfl ?_
      obtain rfl := Option.some.inj e_t27
      exact hJ28
    · rw [if_pos c26] at e_t27
      refine g_bipush (v := (-2)) K d_c10_parched_104 (by decide) ?_
      refine g_goto K d_c10_parched_106 ?_
      refine g_sub (ls2 := []) [] rfl ?_
      obtain rfl := Option.some.inj e_t27
      exact hJ28
  · rw [if_pos c3] at hy
    refine g_iconst (v := (-1)) K d_c10_parched_11 (by decide) ?_
    obtain rfl := Option.some.inj hy
    exact hret rfl _ _ _ d_c10_parched_12
