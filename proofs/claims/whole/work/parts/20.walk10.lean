-- c9 countSteps
theorem d_c9_countSteps_0 : gD b_c9_countSteps 0 (.iconst 0) 1 1 := ⟨by decide +kernel, rfl⟩
theorem d_c9_countSteps_1 : gD b_c9_countSteps 1 (.istore 5) 2 3 := ⟨by decide +kernel, rfl⟩
theorem d_c9_countSteps_3 : gD b_c9_countSteps 3 (.iload 5) 2 5 := ⟨by decide +kernel, rfl⟩
theorem d_c9_countSteps_5 : gD b_c9_countSteps 5 (.bipush 8) 2 7 := ⟨by decide +kernel, rfl⟩
theorem d_c9_countSteps_7 : gJ b_c9_countSteps 7 (.if_icmp .ge 27) 3 27 10 34 := ⟨by decide +kernel, rfl, by decide⟩
theorem d_c9_countSteps_10 : gD b_c9_countSteps 10 (.aload_n 0) 1 11 := ⟨by decide +kernel, rfl⟩
theorem d_c9_countSteps_11 : gD b_c9_countSteps 11 (.getfield 9) 3 14 := ⟨by decide +kernel, rfl⟩
theorem d_c9_countSteps_14 : gD b_c9_countSteps 14 (.iload 5) 2 16 := ⟨by decide +kernel, rfl⟩
theorem d_c9_countSteps_16 : gD b_c9_countSteps 16 (.iload 5) 2 18 := ⟨by decide +kernel, rfl⟩
theorem d_c9_countSteps_18 : gD b_c9_countSteps 18 (.iload_n 3) 1 19 := ⟨by decide +kernel, rfl⟩
theorem d_c9_countSteps_19 : gJ b_c9_countSteps 19 (.if_icmp .ne 7) 3 7 22 26 := ⟨by decide +kernel, rfl, by decide⟩
theorem d_c9_countSteps_22 : gD b_c9_countSteps 22 (.iconst 0) 1 23 := ⟨by decide +kernel, rfl⟩
theorem d_c9_countSteps_23 : gJ b_c9_countSteps 23 (.goto 4) 3 4 26 27 := ⟨by decide +kernel, rfl, by decide⟩
theorem d_c9_countSteps_26 : gD b_c9_countSteps 26 (.iconst (-1)) 1 27 := ⟨by decide +kernel, rfl⟩
theorem d_c9_countSteps_27 : gD b_c9_countSteps 27 .iastore 1 28 := ⟨by decide +kernel, rfl⟩
theorem d_c9_countSteps_28 : gD b_c9_countSteps 28 (.iinc 5 1) 3 31 := ⟨by decide +kernel, rfl⟩
theorem d_c9_countSteps_31 : gJ b_c9_countSteps 31 (.goto (-28)) 3 (-28) 34 3 := ⟨by decide +kernel, rfl, by decide⟩
theorem d_c9_countSteps_34 : gD b_c9_countSteps 34 (.iconst 0) 1 35 := ⟨by decide +kernel, rfl⟩
theorem d_c9_countSteps_35 : gD b_c9_countSteps 35 (.istore 5) 2 37 := ⟨by decide +kernel, rfl⟩
theorem d_c9_countSteps_37 : gD b_c9_countSteps 37 (.iload 5) 2 39 := ⟨by decide +kernel, rfl⟩
theorem d_c9_countSteps_39 : gD b_c9_countSteps 39 (.aload_n 1) 1 40 := ⟨by decide +kernel, rfl⟩
theorem d_c9_countSteps_40 : gD b_c9_countSteps 40 (.getfield 46) 3 43 := ⟨by decide +kernel, rfl⟩
theorem d_c9_countSteps_43 : gJ b_c9_countSteps 43 (.if_icmp .ge 63) 3 63 46 106 := ⟨by decide +kernel, rfl, by decide⟩
theorem d_c9_countSteps_46 : gD b_c9_countSteps 46 (.iconst 0) 1 47 := ⟨by decide +kernel, rfl⟩
theorem d_c9_countSteps_47 : gD b_c9_countSteps 47 (.istore 6) 2 49 := ⟨by decide +kernel, rfl⟩
theorem d_c9_countSteps_49 : gD b_c9_countSteps 49 (.iload 6) 2 51 := ⟨by decide +kernel, rfl⟩
theorem d_c9_countSteps_51 : gD b_c9_countSteps 51 (.aload_n 1) 1 52 := ⟨by decide +kernel, rfl⟩
theorem d_c9_countSteps_52 : gD b_c9_countSteps 52 (.getfield 46) 3 55 := ⟨by decide +kernel, rfl⟩
theorem d_c9_countSteps_55 : gJ b_c9_countSteps 55 (.if_icmp .ge 45) 3 45 58 100 := ⟨by decide +kernel, rfl, by decide⟩
theorem d_c9_countSteps_58 : gD b_c9_countSteps 58 (.aload_n 0) 1 59 := ⟨by decide +kernel, rfl⟩
theorem d_c9_countSteps_59 : gD b_c9_countSteps 59 (.getfield 9) 3 62 := ⟨by decide +kernel, rfl⟩
theorem d_c9_countSteps_62 : gD b_c9_countSteps 62 (.iload 6) 2 64 := ⟨by decide +kernel, rfl⟩
theorem d_c9_countSteps_64 : gD b_c9_countSteps 64 .iaload 1 65 := ⟨by decide +kernel, rfl⟩
theorem d_c9_countSteps_65 : gJ b_c9_countSteps 65 (.ifCond .ge 29) 3 29 68 94 := ⟨by decide +kernel, rfl, by decide⟩
theorem d_c9_countSteps_68 : gD b_c9_countSteps 68 (.aload_n 0) 1 69 := ⟨by decide +kernel, rfl⟩
theorem d_c9_countSteps_69 : gD b_c9_countSteps 69 (.aload_n 1) 1 70 := ⟨by decide +kernel, rfl⟩
theorem d_c9_countSteps_70 : gD b_c9_countSteps 70 (.aload_n 2) 1 71 := ⟨by decide +kernel, rfl⟩
theorem d_c9_countSteps_71 : gD b_c9_countSteps 71 (.iload 6) 2 73 := ⟨by decide +kernel, rfl⟩
theorem d_c9_countSteps_73 : gD b_c9_countSteps 73 (.iload 4) 2 75 := ⟨by decide +kernel, rfl⟩
theorem d_c9_countSteps_75 : gD b_c9_countSteps 75 (.iload 5) 2 77 := ⟨by decide +kernel, rfl⟩
theorem d_c9_countSteps_77 : gD b_c9_countSteps 77 (.invokevirtual 51) 3 80 := ⟨by decide +kernel, rfl⟩
theorem d_c9_countSteps_80 : gJ b_c9_countSteps 80 (.ifCond .lt 14) 3 14 83 94 := ⟨by decide +kernel, rfl, by decide⟩
theorem d_c9_countSteps_83 : gD b_c9_countSteps 83 (.aload_n 0) 1 84 := ⟨by decide +kernel, rfl⟩
theorem d_c9_countSteps_84 : gD b_c9_countSteps 84 (.getfield 9) 3 87 := ⟨by decide +kernel, rfl⟩
theorem d_c9_countSteps_87 : gD b_c9_countSteps 87 (.iload 6) 2 89 := ⟨by decide +kernel, rfl⟩
theorem d_c9_countSteps_89 : gD b_c9_countSteps 89 (.iload 5) 2 91 := ⟨by decide +kernel, rfl⟩
theorem d_c9_countSteps_91 : gD b_c9_countSteps 91 (.iconst 1) 1 92 := ⟨by decide +kernel, rfl⟩
theorem d_c9_countSteps_92 : gD b_c9_countSteps 92 .iadd 1 93 := ⟨by decide +kernel, rfl⟩
theorem d_c9_countSteps_93 : gD b_c9_countSteps 93 .iastore 1 94 := ⟨by decide +kernel, rfl⟩
theorem d_c9_countSteps_94 : gD b_c9_countSteps 94 (.iinc 6 1) 3 97 := ⟨by decide +kernel, rfl⟩
theorem d_c9_countSteps_97 : gJ b_c9_countSteps 97 (.goto (-48)) 3 (-48) 100 49 := ⟨by decide +kernel, rfl, by decide⟩
theorem d_c9_countSteps_100 : gD b_c9_countSteps 100 (.iinc 5 1) 3 103 := ⟨by decide +kernel, rfl⟩
theorem d_c9_countSteps_103 : gJ b_c9_countSteps 103 (.goto (-66)) 3 (-66) 106 37 := ⟨by decide +kernel, rfl, by decide⟩
theorem d_c9_countSteps_106 : gD b_c9_countSteps 106 .return_ 1 107 := ⟨by decide +kernel, rfl⟩
def lp_c9_countSteps_3 (N : Nat) (a0 : Nat) (x3 : Int32) : Nat → Int32 → gH → Option (gH)
  | 0, _, _ => none
  | k + 1, x5, h =>
  if (8 : Int32) ≤ x5 then
    some h
  else
    (gfR h a0 9 0).bind fun v2 =>
    (sa 0 h v2 x5 (if x5 = x3 then (0 : Int32) else (-1 : Int32))).bind fun h6 =>
    lp_c9_countSteps_3 N a0 x3 k (x5 + (1 : Int32)) h6
def lp_c9_countSteps_49 (N : Nat) (a0 : Nat) (a1 : Nat) (a2 : Nat) (x4 : Int32) (x5 : Int32) : Nat → Int32 → gH → Option (gH)
  | 0, _, _ => none
  | k + 1, x6, h =>
  (gfI h a1 7 0).bind fun v10 =>
    if v10 ≤ x6 then
    some h
  else
    (gfR h a0 9 0).bind fun v12 =>
    (ga 0 h v12 x6).bind fun v13 =>
    (show Option (gH) from if 0 ≤ v13 then
    some h
  else
    (f_c9_nextOne N a0 a1 a2 x6 x4 x5 h).bind fun q17 =>
    if q17 < 0 then
    some h
  else
    (gfR h a0 9 0).bind fun v19 =>
    (sa 0 h v19 x6 (x5 + (1 : Int32))).bind fun h20 =>
    some h20).bind fun t15 =>
    lp_c9_countSteps_49 N a0 a1 a2 x4 x5 k (x6 + (1 : Int32)) t15
def lp_c9_countSteps_37 (N : Nat) (a0 : Nat) (a1 : Nat) (a2 : Nat) (x4 : Int32) : Nat → Int32 → gH → Option (gH)
  | 0, _, _ => none
  | k + 1, x5, h =>
  (gfI h a1 7 0).bind fun v8 =>
    if v8 ≤ x5 then
    some h
  else
    (lp_c9_countSteps_49 N a0 a1 a2 x4 x5 N (0 : Int32) h).bind fun o21 =>
    lp_c9_countSteps_37 N a0 a1 a2 x4 k (x5 + (1 : Int32)) o21
def f_c9_countSteps (N : Nat) (a0 : Nat) (a1 : Nat) (a2 : Nat) (x3 : Int32) (x4 : Int32) (h : gH) : Option (gH) :=
  (gcl h a0 9).bind fun _ =>
  (lp_c9_countSteps_3 N a0 x3 N (0 : Int32) h).bind fun o7 =>
    (lp_c9_countSteps_37 N a0 a1 a2 x4 N (0 : Int32) o7).bind fun o22 =>
    some o22
set_option maxHeartbeats 4000000 in
set_option maxRecDepth 100000 in
theorem wlp_c9_countSteps_3 {M : gM} {X : gX} {N : Nat} (hx : gEx X = false) (K : gC M X gN9 b_c9_countSteps 7 (gRm (5 + N) 0 0)) (a0 : Nat) (x3 : Int32) (a1 : Nat) (a2 : Nat) (x4 : Int32) : ∀ (k : Nat) (x5 : Int32) (h : gH) (o : gH), lp_c9_countSteps_3 N a0 x3 k x5 h = some o → gG M X 7 0 0 34 [(0, .ref a0), (1, .ref a1), (2, .ref a2), (4, .int x4)] [] o → gG M X 7 0 0 3 [(0, .ref a0), (1, .ref a1), (2, .ref a2), (3, .int x3), (4, .int x4), (5, .int x5)] [] h := by
  intro k
  induction k with
  | zero =>
    intro x5 h o hy
    rw [lp_c9_countSteps_3.eq_1] at hy
    cases hy
  | succ k ih =>
    intro x5 h o hy hE
    rw [lp_c9_countSteps_3.eq_2] at hy
    refine g_iload K d_c9_countSteps_3 5 rfl ?_
    refine g_bipush (v := 8) K d_c9_countSteps_5 (by decide) ?_
    refine g_icmp_ge K d_c9_countSteps_7 (fun c1 => ?_) (fun c1 => ?_)
    · rw [if_pos c1] at hy
      refine g_sub (ls2 := [(0, .ref a0), (1, .ref a1), (2, .ref a2), (4, .int x4)]) [0, 1, 2, 4] rfl ?_
      obtain rfl := Option.some.inj hy
      exact hE
    · rw [if_neg c1] at hy
      refine g_aload_n K d_c9_countSteps_10 0 rfl ?_
      obtain ⟨v2, e_v2, hy⟩ := gBd hy
      refine g_getR K fl_c9_9 d_c9_countSteps_11 e_v2 ?_
      refine g_iload K d_c9_countSteps_14 5 rfl ?_
      refine g_iload K d_c9_countSteps_16 5 rfl ?_
      refine g_iload_n K d_c9_countSteps_18 3 rfl ?_
      have hJ5 : ∀ w4 : Int32, w4 = (if x5 = x3 then (0 : Int32) else (-1 : Int32)) → gG M X 7 0 0 27 [(0, .ref a0), (1, .ref a1), (2, .ref a2), (3, .int x3), (4, .int x4), (5, .int x5)] [.int w4, .int x5, .ref v2] h := by
        intro w4 e_w4
        subst e_w4
        obtain ⟨h6, e_h6, hy⟩ := gBd hy
        refine g_iast K d_c9_countSteps_27 e_h6 ?_
        refine g_iinc (ls2 := [(5, .int (x5 + (1 : Int32))), (0, .ref a0), (1, .ref a1), (2, .ref a2), (3, .int x3), (4, .int x4)]) (v := 1) K d_c9_countSteps_28 5 rfl (by decide) rfl rfl ?_
        refine g_goto K d_c9_countSteps_31 ?_
        refine g_sub (ls2 := [(0, .ref a0), (1, .ref a1), (2, .ref a2), (3, .int x3), (4, .int x4), (5, .int (x5 + (1 : Int32)))]) [1, 2, 3, 4, 5, 0] rfl ?_
        exact ih _ _ _ hy hE
      refine g_icmp_ne K d_c9_countSteps_19 (fun c3 => ?_) (fun c3 => ?_)
      · refine g_iconst (v := (-1)) K d_c9_countSteps_26 (by decide) ?_
        exact hJ5 _ (by rw [if_neg c3])
      · refine g_iconst (v := 0) K d_c9_countSteps_22 (by decide) ?_
        refine g_goto K d_c9_countSteps_23 ?_
        exact hJ5 _ (by rw [if_pos c3])
set_option maxHeartbeats 4000000 in
set_option maxRecDepth 100000 in
theorem wlp_c9_countSteps_49 {M : gM} {X : gX} {N : Nat} (hx : gEx X = false) (K : gC M X gN9 b_c9_countSteps 7 (gRm (5 + N) 0 0)) (a0 : Nat) (a1 : Nat) (a2 : Nat) (x4 : Int32) (x5 : Int32) : ∀ (k : Nat) (x6 : Int32) (h : gH) (o : gH), lp_c9_countSteps_49 N a0 a1 a2 x4 x5 k x6 h = some o → gG M X 7 0 0 100 [(0, .ref a0), (1, .ref a1), (2, .ref a2), (4, .int x4), (5, .int x5)] [] o → gG M X 7 0 0 49 [(0, .ref a0), (1, .ref a1), (2, .ref a2), (4, .int x4), (5, .int x5), (6, .int x6)] [] h := by
  intro k
  induction k with
  | zero =>
    intro x6 h o hy
    rw [lp_c9_countSteps_49.eq_1] at hy
    cases hy
  | succ k ih =>
    intro x6 h o hy hE
    rw [lp_c9_countSteps_49.eq_2] at hy
    refine g_iload K d_c9_countSteps_49 5 rfl ?_
    refine g_aload_n K d_c9_countSteps_51 1 rfl ?_
    obtain ⟨v10, e_v10, hy⟩ := gBd hy
    refine g_getI K fl_c9_46 d_c9_countSteps_52 e_v10 ?_
    refine g_icmp_ge K d_c9_countSteps_55 (fun c11 => ?_) (fun c11 => ?_)
    · rw [if_pos c11] at hy
      refine g_sub (ls2 := [(0, .ref a0), (1, .ref a1), (2, .ref a2), (4, .int x4), (5, .int x5)]) [0, 1, 2, 3, 4] rfl ?_
      obtain rfl := Option.some.inj hy
      exact hE
    · rw [if_neg c11] at hy
      refine g_aload_n K d_c9_countSteps_58 0 rfl ?_
      obtain ⟨v12, e_v12, hy⟩ := gBd hy
      refine g_getR K fl_c9_9 d_c9_countSteps_59 e_v12 ?_
      refine g_iload K d_c9_countSteps_62 5 rfl ?_
      obtain ⟨v13, e_v13, hy⟩ := gBd hy
      refine g_iald K d_c9_countSteps_64 e_v13 ?_
      obtain ⟨t15, e_t15, hy⟩ := gBd hy
      have hJ16 : gG M X 7 0 0 94 [(0, .ref a0), (1, .ref a1), (2, .ref a2), (4, .int x4), (5, .int x5), (6, .int x6)] [] t15 := by
        refine g_iinc (ls2 := [(6, .int (x6 + (1 : Int32))), (0, .ref a0), (1, .ref a1), (2, .ref a2), (4, .int x4), (5, .int x5)]) (v := 1) K d_c9_countSteps_94 5 rfl (by decide) rfl rfl ?_
        refine g_goto K d_c9_countSteps_97 ?_
        refine g_sub (ls2 := [(0, .ref a0), (1, .ref a1), (2, .ref a2), (4, .int x4), (5, .int x5), (6, .int (x6 + (1 : Int32)))]) [1, 2, 3, 4, 5, 0] rfl ?_
        exact ih _ _ _ hy hE
      refine g_if_ge K d_c9_countSteps_65 (fun c14 => ?_) (fun c14 => ?_)
      · rw [if_pos c14] at e_t15
        obtain rfl := Option.some.inj e_t15
        exact hJ16
      · rw [if_neg c14] at e_t15
        refine g_aload_n K d_c9_countSteps_68 0 rfl ?_
        refine g_aload_n K d_c9_countSteps_69 1 rfl ?_
        refine g_aload_n K d_c9_countSteps_70 2 rfl ?_
        refine g_iload K d_c9_countSteps_71 5 rfl ?_
        refine g_iload K d_c9_countSteps_73 3 rfl ?_
        refine g_iload K d_c9_countSteps_75 4 rfl ?_
        obtain ⟨q17, e_q17, e_t15⟩ := gBd e_t15
        refine g_callVi (rest := []) K hx ly_c9_nextOne kv_c9_51 d_c9_countSteps_77 (ct_c9_nextOne M.2.1 X hx N a0 a1 a2 x6 x4 x5 h q17 e_q17) rfl rfl (Nat.le_of_ble_eq_true rfl) (gDep rfl) ⟨Nat.le_refl 0, Nat.le_refl 0⟩ ?_
        refine g_if_lt K d_c9_countSteps_80 (fun c18 => ?_) (fun c18 => ?_)
        · rw [if_pos c18] at e_t15
          obtain rfl := Option.some.inj e_t15
          exact hJ16
        · rw [if_neg c18] at e_t15
          refine g_aload_n K d_c9_countSteps_83 0 rfl ?_
          obtain ⟨v19, e_v19, e_t15⟩ := gBd e_t15
          refine g_getR K fl_c9_9 d_c9_countSteps_84 e_v19 ?_
          refine g_iload K d_c9_countSteps_87 5 rfl ?_
          refine g_iload K d_c9_countSteps_89 4 rfl ?_
          refine g_iconst (v := 1) K d_c9_countSteps_91 (by decide) ?_
          refine g_iadd K d_c9_countSteps_92 ?_
          obtain ⟨h20, e_h20, e_t15⟩ := gBd e_t15
          refine g_iast K d_c9_countSteps_93 e_h20 ?_
          obtain rfl := Option.some.inj e_t15
          exact hJ16
set_option maxHeartbeats 4000000 in
set_option maxRecDepth 100000 in
theorem wlp_c9_countSteps_37 {M : gM} {X : gX} {N : Nat} (hx : gEx X = false) (K : gC M X gN9 b_c9_countSteps 7 (gRm (5 + N) 0 0)) (a0 : Nat) (a1 : Nat) (a2 : Nat) (x4 : Int32) : ∀ (k : Nat) (x5 : Int32) (h : gH) (o : gH), lp_c9_countSteps_37 N a0 a1 a2 x4 k x5 h = some o → gG M X 7 0 0 106 [] [] o → gG M X 7 0 0 37 [(0, .ref a0), (1, .ref a1), (2, .ref a2), (4, .int x4), (5, .int x5)] [] h := by
  intro k
  induction k with
  | zero =>
    intro x5 h o hy
    rw [lp_c9_countSteps_37.eq_1] at hy
    cases hy
  | succ k ih =>
    intro x5 h o hy hE
    rw [lp_c9_countSteps_37.eq_2] at hy
    refine g_iload K d_c9_countSteps_37 4 rfl ?_
    refine g_aload_n K d_c9_countSteps_39 1 rfl ?_
    obtain ⟨v8, e_v8, hy⟩ := gBd hy
    refine g_getI K fl_c9_46 d_c9_countSteps_40 e_v8 ?_
    refine g_icmp_ge K d_c9_countSteps_43 (fun c9 => ?_) (fun c9 => ?_)
    · rw [if_pos c9] at hy
      refine g_sub (ls2 := []) [] rfl ?_
      obtain rfl := Option.some.inj hy
      exact hE
    · rw [if_neg c9] at hy
      refine g_iconst (v := 0) K d_c9_countSteps_46 (by decide) ?_
      refine g_istore (ls2 := [(6, .int (0 : Int32)), (0, .ref a0), (1, .ref a1), (2, .ref a2), (4, .int x4), (5, .int x5)]) K d_c9_countSteps_47 rfl rfl ?_
      obtain ⟨o21, e_o21, hy⟩ := gBd hy
      refine g_sub (ls2 := [(0, .ref a0), (1, .ref a1), (2, .ref a2), (4, .int x4), (5, .int x5), (6, .int (0 : Int32))]) [1, 2, 3, 4, 5, 0] rfl ?_
      refine wlp_c9_countSteps_49 hx K a0 a1 a2 x4 x5 N (0 : Int32) h o21 e_o21 ?_
      refine g_iinc (ls2 := [(5, .int (x5 + (1 : Int32))), (0, .ref a0), (1, .ref a1), (2, .ref a2), (4, .int x4)]) (v := 1) K d_c9_countSteps_100 4 rfl (by decide) rfl rfl ?_
      refine g_goto K d_c9_countSteps_103 ?_
      refine g_sub (ls2 := [(0, .ref a0), (1, .ref a1), (2, .ref a2), (4, .int x4), (5, .int (x5 + (1 : Int32)))]) [1, 2, 3, 4, 0] rfl ?_
      exact ih _ _ _ hy hE
set_option maxHeartbeats 4000000 in
set_option maxRecDepth 100000 in
theorem ct_c9_countSteps (l : Launch) (X : gX) (hx : gEx X = false) (N : Nat) (a0 : Nat) (a1 : Nat) (a2 : Nat) (x3 : Int32) (x4 : Int32) (h : gH) (q : gH) (hy : f_c9_countSteps N a0 a1 a2 x3 x4 h = some q) : gRc y_c9_countSteps h a0 ∧ gMv l X y_c9_countSteps b_c9_countSteps 7 (5 + N) 0 0 [.ref a0, .ref a1, .ref a2, .int x3, .int x4] h q := by
  unfold f_c9_countSteps at hy
  obtain ⟨u0, e_u0, hy⟩ := gBd hy
  cases u0
  refine ⟨Or.inl ⟨9, _, _, e_u0, rfl⟩, gMet_v (lsx := [(0, .ref a0), (1, .ref a1), (2, .ref a2), (3, .int x3), (4, .int x4)]) (by decide) rfl rfl ?_⟩
  intro M hMl K hret
  subst hMl
  refine g_iconst (v := 0) K d_c9_countSteps_0 (by decide) ?_
  refine g_istore (ls2 := [(5, .int (0 : Int32)), (0, .ref a0), (1, .ref a1), (2, .ref a2), (3, .int x3), (4, .int x4)]) K d_c9_countSteps_1 rfl rfl ?_
  obtain ⟨o7, e_o7, hy⟩ := gBd hy
  refine g_sub (ls2 := [(0, .ref a0), (1, .ref a1), (2, .ref a2), (3, .int x3), (4, .int x4), (5, .int (0 : Int32))]) [1, 2, 3, 4, 5, 0] rfl ?_
  refine wlp_c9_countSteps_3 hx K a0 x3 a1 a2 x4 N (0 : Int32) h o7 e_o7 ?_
  refine g_iconst (v := 0) K d_c9_countSteps_34 (by decide) ?_
  refine g_istore (ls2 := [(5, .int (0 : Int32)), (0, .ref a0), (1, .ref a1), (2, .ref a2), (4, .int x4)]) K d_c9_countSteps_35 rfl rfl ?_
  obtain ⟨o22, e_o22, hy⟩ := gBd hy
  refine g_sub (ls2 := [(0, .ref a0), (1, .ref a1), (2, .ref a2), (4, .int x4), (5, .int (0 : Int32))]) [1, 2, 3, 4, 0] rfl ?_
  refine wlp_c9_countSteps_37 hx K a0 a1 a2 x4 N (0 : Int32) o7 o22 e_o22 ?_
  obtain rfl := Option.some.inj hy
  exact hret _ _ _ d_c9_countSteps_106
-- c10 act
theorem d_c10_act_0 : gD b_c10_act 0 (.aload_n 0) 1 1 := ⟨by decide +kernel, rfl⟩
theorem d_c10_act_1 : gD b_c10_act 1 (.getfield 10) 3 4 := ⟨by decide +kernel, rfl⟩
theorem d_c10_act_4 : gD b_c10_act 4 (.iload_n 1) 1 5 := ⟨by decide +kernel, rfl⟩
theorem d_c10_act_5 : gD b_c10_act 5 (.iconst 1) 1 6 := ⟨by decide +kernel, rfl⟩
theorem d_c10_act_6 : gD b_c10_act 6 .iadd 1 7 := ⟨by decide +kernel, rfl⟩
theorem d_c10_act_7 : gD b_c10_act 7 (.bipush 60) 2 9 := ⟨by decide +kernel, rfl⟩
theorem d_c10_act_9 : gD b_c10_act 9 (.invokevirtual 384) 3 12 := ⟨by decide +kernel, rfl⟩
theorem d_c10_act_12 : gD b_c10_act 12 (.istore_n 2) 1 13 := ⟨by decide +kernel, rfl⟩
theorem d_c10_act_13 : gD b_c10_act 13 (.aload_n 0) 1 14 := ⟨by decide +kernel, rfl⟩
theorem d_c10_act_14 : gD b_c10_act 14 (.getfield 10) 3 17 := ⟨by decide +kernel, rfl⟩
theorem d_c10_act_17 : gD b_c10_act 17 (.iload_n 1) 1 18 := ⟨by decide +kernel, rfl⟩
theorem d_c10_act_18 : gD b_c10_act 18 (.iconst 2) 1 19 := ⟨by decide +kernel, rfl⟩
theorem d_c10_act_19 : gD b_c10_act 19 .iadd 1 20 := ⟨by decide +kernel, rfl⟩
theorem d_c10_act_20 : gD b_c10_act 20 (.bipush 60) 2 22 := ⟨by decide +kernel, rfl⟩
theorem d_c10_act_22 : gD b_c10_act 22 (.invokevirtual 384) 3 25 := ⟨by decide +kernel, rfl⟩
theorem d_c10_act_25 : gD b_c10_act 25 (.istore_n 3) 1 26 := ⟨by decide +kernel, rfl⟩
theorem d_c10_act_26 : gD b_c10_act 26 (.aload_n 0) 1 27 := ⟨by decide +kernel, rfl⟩
theorem d_c10_act_27 : gD b_c10_act 27 (.getfield 10) 3 30 := ⟨by decide +kernel, rfl⟩
theorem d_c10_act_30 : gD b_c10_act 30 (.iload_n 1) 1 31 := ⟨by decide +kernel, rfl⟩
theorem d_c10_act_31 : gD b_c10_act 31 (.bipush 60) 2 33 := ⟨by decide +kernel, rfl⟩
theorem d_c10_act_33 : gD b_c10_act 33 (.invokevirtual 237) 3 36 := ⟨by decide +kernel, rfl⟩
theorem d_c10_act_36 : decode b_c10_act 36 = .ok ((.tableswitch 230 97 115 #[193, 230, 202, 211, 230, 230, 230, 230, 230, 230, 230, 230, 230, 92, 230, 230, 230, 221, 121]), 92) := by decide +kernel
theorem d_c10_act_128 : gD b_c10_act 128 (.aload_n 0) 1 129 := ⟨by decide +kernel, rfl⟩
theorem d_c10_act_129 : gD b_c10_act 129 (.getfield 46) 3 132 := ⟨by decide +kernel, rfl⟩
theorem d_c10_act_132 : gD b_c10_act 132 (.aload_n 0) 1 133 := ⟨by decide +kernel, rfl⟩
theorem d_c10_act_133 : gD b_c10_act 133 (.getfield 33) 3 136 := ⟨by decide +kernel, rfl⟩
theorem d_c10_act_136 : gD b_c10_act 136 (.aload_n 0) 1 137 := ⟨by decide +kernel, rfl⟩
theorem d_c10_act_137 : gD b_c10_act 137 (.getfield 26) 3 140 := ⟨by decide +kernel, rfl⟩
theorem d_c10_act_140 : gD b_c10_act 140 (.aload_n 0) 1 141 := ⟨by decide +kernel, rfl⟩
theorem d_c10_act_141 : gD b_c10_act 141 (.getfield 81) 3 144 := ⟨by decide +kernel, rfl⟩
theorem d_c10_act_144 : gD b_c10_act 144 (.iload_n 2) 1 145 := ⟨by decide +kernel, rfl⟩
theorem d_c10_act_145 : gD b_c10_act 145 (.invokevirtual 195) 3 148 := ⟨by decide +kernel, rfl⟩
theorem d_c10_act_148 : gD b_c10_act 148 .pop 1 149 := ⟨by decide +kernel, rfl⟩
theorem d_c10_act_149 : gD b_c10_act 149 (.aload_n 0) 1 150 := ⟨by decide +kernel, rfl⟩
theorem d_c10_act_150 : gD b_c10_act 150 (.getfield 33) 3 153 := ⟨by decide +kernel, rfl⟩
theorem d_c10_act_153 : gD b_c10_act 153 (.invokevirtual 192) 3 156 := ⟨by decide +kernel, rfl⟩
theorem d_c10_act_156 : gD b_c10_act 156 .ireturn 1 157 := ⟨by decide +kernel, rfl⟩
theorem d_c10_act_157 : gD b_c10_act 157 (.aload_n 0) 1 158 := ⟨by decide +kernel, rfl⟩
theorem d_c10_act_158 : gD b_c10_act 158 (.getfield 26) 3 161 := ⟨by decide +kernel, rfl⟩
theorem d_c10_act_161 : gD b_c10_act 161 (.iload_n 2) 1 162 := ⟨by decide +kernel, rfl⟩
theorem d_c10_act_162 : gD b_c10_act 162 (.iload_n 3) 1 163 := ⟨by decide +kernel, rfl⟩
theorem d_c10_act_163 : gD b_c10_act 163 (.invokevirtual 440) 3 166 := ⟨by decide +kernel, rfl⟩
theorem d_c10_act_166 : gD b_c10_act 166 (.istore 4) 2 168 := ⟨by decide +kernel, rfl⟩
theorem d_c10_act_168 : gD b_c10_act 168 (.aload_n 0) 1 169 := ⟨by decide +kernel, rfl⟩
theorem d_c10_act_169 : gD b_c10_act 169 (.getfield 10) 3 172 := ⟨by decide +kernel, rfl⟩
theorem d_c10_act_172 : gD b_c10_act 172 (.iload_n 1) 1 173 := ⟨by decide +kernel, rfl⟩
theorem d_c10_act_173 : gD b_c10_act 173 (.iconst 3) 1 174 := ⟨by decide +kernel, rfl⟩
theorem d_c10_act_174 : gD b_c10_act 174 .iadd 1 175 := ⟨by decide +kernel, rfl⟩
theorem d_c10_act_175 : gD b_c10_act 175 (.bipush 60) 2 177 := ⟨by decide +kernel, rfl⟩
theorem d_c10_act_177 : gD b_c10_act 177 (.invokevirtual 384) 3 180 := ⟨by decide +kernel, rfl⟩
theorem d_c10_act_180 : gD b_c10_act 180 (.istore 5) 2 182 := ⟨by decide +kernel, rfl⟩
theorem d_c10_act_182 : gD b_c10_act 182 (.aload_n 0) 1 183 := ⟨by decide +kernel, rfl⟩
theorem d_c10_act_183 : gD b_c10_act 183 (.getfield 10) 3 186 := ⟨by decide +kernel, rfl⟩
theorem d_c10_act_186 : gD b_c10_act 186 (.iload_n 1) 1 187 := ⟨by decide +kernel, rfl⟩
theorem d_c10_act_187 : gD b_c10_act 187 (.iconst 4) 1 188 := ⟨by decide +kernel, rfl⟩
theorem d_c10_act_188 : gD b_c10_act 188 .iadd 1 189 := ⟨by decide +kernel, rfl⟩
theorem d_c10_act_189 : gD b_c10_act 189 (.bipush 60) 2 191 := ⟨by decide +kernel, rfl⟩
theorem d_c10_act_191 : gD b_c10_act 191 (.invokevirtual 237) 3 194 := ⟨by decide +kernel, rfl⟩
theorem d_c10_act_194 : gD b_c10_act 194 (.istore 6) 2 196 := ⟨by decide +kernel, rfl⟩
theorem d_c10_act_196 : gD b_c10_act 196 (.iload 4) 2 198 := ⟨by decide +kernel, rfl⟩
theorem d_c10_act_198 : gJ b_c10_act 198 (.ifCond .ge 7) 3 7 201 205 := ⟨by decide +kernel, rfl, by decide⟩
theorem d_c10_act_201 : gD b_c10_act 201 (.iconst (-1)) 1 202 := ⟨by decide +kernel, rfl⟩
theorem d_c10_act_202 : gJ b_c10_act 202 (.goto 26) 3 26 205 228 := ⟨by decide +kernel, rfl, by decide⟩
theorem d_c10_act_205 : gD b_c10_act 205 (.aload_n 0) 1 206 := ⟨by decide +kernel, rfl⟩
theorem d_c10_act_206 : gD b_c10_act 206 (.getfield 33) 3 209 := ⟨by decide +kernel, rfl⟩
theorem d_c10_act_209 : gD b_c10_act 209 (.iload 4) 2 211 := ⟨by decide +kernel, rfl⟩
theorem d_c10_act_211 : gD b_c10_act 211 (.iload 5) 2 213 := ⟨by decide +kernel, rfl⟩
theorem d_c10_act_213 : gD b_c10_act 213 (.iload 6) 2 215 := ⟨by decide +kernel, rfl⟩
theorem d_c10_act_215 : gD b_c10_act 215 (.bipush 46) 2 217 := ⟨by decide +kernel, rfl⟩
theorem d_c10_act_217 : gJ b_c10_act 217 (.if_icmp .ne 7) 3 7 220 224 := ⟨by decide +kernel, rfl, by decide⟩
theorem d_c10_act_220 : gD b_c10_act 220 (.iconst 1) 1 221 := ⟨by decide +kernel, rfl⟩
theorem d_c10_act_221 : gJ b_c10_act 221 (.goto 4) 3 4 224 225 := ⟨by decide +kernel, rfl, by decide⟩
theorem d_c10_act_224 : gD b_c10_act 224 (.iconst 0) 1 225 := ⟨by decide +kernel, rfl⟩
theorem d_c10_act_225 : gD b_c10_act 225 (.invokevirtual 212) 3 228 := ⟨by decide +kernel, rfl⟩
theorem d_c10_act_228 : gD b_c10_act 228 .ireturn 1 229 := ⟨by decide +kernel, rfl⟩
theorem d_c10_act_229 : gD b_c10_act 229 (.aload_n 0) 1 230 := ⟨by decide +kernel, rfl⟩
theorem d_c10_act_230 : gD b_c10_act 230 (.getfield 33) 3 233 := ⟨by decide +kernel, rfl⟩
theorem d_c10_act_233 : gD b_c10_act 233 (.iload_n 2) 1 234 := ⟨by decide +kernel, rfl⟩
theorem d_c10_act_234 : gD b_c10_act 234 (.invokevirtual 219) 3 237 := ⟨by decide +kernel, rfl⟩
theorem d_c10_act_237 : gD b_c10_act 237 .ireturn 1 238 := ⟨by decide +kernel, rfl⟩
theorem d_c10_act_238 : gD b_c10_act 238 (.aload_n 0) 1 239 := ⟨by decide +kernel, rfl⟩
theorem d_c10_act_239 : gD b_c10_act 239 (.getfield 33) 3 242 := ⟨by decide +kernel, rfl⟩
theorem d_c10_act_242 : gD b_c10_act 242 (.iload_n 2) 1 243 := ⟨by decide +kernel, rfl⟩
theorem d_c10_act_243 : gD b_c10_act 243 (.invokevirtual 222) 3 246 := ⟨by decide +kernel, rfl⟩
theorem d_c10_act_246 : gD b_c10_act 246 .ireturn 1 247 := ⟨by decide +kernel, rfl⟩
theorem d_c10_act_247 : gD b_c10_act 247 (.aload_n 0) 1 248 := ⟨by decide +kernel, rfl⟩
theorem d_c10_act_248 : gD b_c10_act 248 (.getfield 33) 3 251 := ⟨by decide +kernel, rfl⟩
theorem d_c10_act_251 : gD b_c10_act 251 (.iload_n 2) 1 252 := ⟨by decide +kernel, rfl⟩
theorem d_c10_act_252 : gD b_c10_act 252 (.iload_n 3) 1 253 := ⟨by decide +kernel, rfl⟩
theorem d_c10_act_253 : gD b_c10_act 253 (.invokevirtual 225) 3 256 := ⟨by decide +kernel, rfl⟩
theorem d_c10_act_256 : gD b_c10_act 256 .ireturn 1 257 := ⟨by decide +kernel, rfl⟩
theorem d_c10_act_257 : gD b_c10_act 257 (.aload_n 0) 1 258 := ⟨by decide +kernel, rfl⟩
theorem d_c10_act_258 : gD b_c10_act 258 (.getfield 33) 3 261 := ⟨by decide +kernel, rfl⟩
theorem d_c10_act_261 : gD b_c10_act 261 (.iload_n 2) 1 262 := ⟨by decide +kernel, rfl⟩
theorem d_c10_act_262 : gD b_c10_act 262 (.invokevirtual 228) 3 265 := ⟨by decide +kernel, rfl⟩
theorem d_c10_act_265 : gD b_c10_act 265 .ireturn 1 266 := ⟨by decide +kernel, rfl⟩
theorem d_c10_act_266 : gD b_c10_act 266 (.iconst (-1)) 1 267 := ⟨by decide +kernel, rfl⟩
theorem d_c10_act_267 : gD b_c10_act 267 .ireturn 1 268 := ⟨by decide +kernel, rfl⟩
def f_c10_act (N : Nat) (a0 : Nat) (x1 : Int32) (h : gH) : Option (Int32 × gH) :=
  (gcl h a0 10).bind fun _ =>
  (gfR h a0 10 0).bind fun v1 =>
    (f_c8_digit N v1 (x1 + (1 : Int32)) (60 : Int32) h).bind fun q2 =>
    (gfR h a0 10 0).bind fun v3 =>
    (f_c8_digit N v3 (x1 + (2 : Int32)) (60 : Int32) h).bind fun q4 =>
    (gfR h a0 10 0).bind fun v5 =>
    (f_c8_at N v5 x1 (60 : Int32) h).bind fun q6 =>
    if q6 = (97 : Int32) then
    (gfR h a0 10 3).bind fun v13 =>
    (f_c7_throwAnd N v13 q2 h).bind fun q14 =>
    some (q14.1, q14.2)
  else
    if q6 = (99 : Int32) then
    (gfR h a0 10 3).bind fun v15 =>
    (f_c7_takeAnds N v15 q2 h).bind fun q16 =>
    some (q16.1, q16.2)
  else
    if q6 = (100 : Int32) then
    (gfR h a0 10 3).bind fun v17 =>
    (f_c7_drawFrom N v17 q2 q4 h).bind fun q18 =>
    some (q18.1, q18.2)
  else
    if q6 = (110 : Int32) then
    (gfR h a0 10 6).bind fun v19 =>
    (gfR h a0 10 3).bind fun v20 =>
    (gfR h a0 10 2).bind fun v21 =>
    (gfR h a0 10 11).bind fun v22 =>
    (f_c0_pass N v19 v20 v21 v22 q2 h).bind fun q23 =>
    (gfR q23.2 a0 10 3).bind fun v24 =>
    (f_c7_waterOfAll N v24 q23.2).bind fun q25 =>
    some (q25, q23.2)
  else
    if q6 = (114 : Int32) then
    (gfR h a0 10 3).bind fun v26 =>
    (f_c7_turn N v26 q2 h).bind fun q27 =>
    some (q27.1, q27.2)
  else
    if q6 = (115 : Int32) then
    (gfR h a0 10 2).bind fun v28 =>
    (f_c1_fieldAt N v28 q2 q4 h).bind fun q29 =>
    (gfR h a0 10 0).bind fun v30 =>
    (f_c8_digit N v30 (x1 + (3 : Int32)) (60 : Int32) h).bind fun q31 =>
    (gfR h a0 10 0).bind fun v32 =>
    (f_c8_at N v32 (x1 + (4 : Int32)) (60 : Int32) h).bind fun q33 =>
    (show Option (Int32 × gH) from if 0 ≤ q29 then
    (gfR h a0 10 3).bind fun v37 =>
    (f_c7_sayOn N v37 q29 q31 (if q33 = (46 : Int32) then (1 : Int32) else (0 : Int32)) h).bind fun q41 =>
    some (q41.1, q41.2)
  else
    some ((-1 : Int32), h)).bind fun t35 =>
    some (t35.1, t35.2)
  else
    some ((-1 : Int32), h)
set_option maxHeartbeats 4000000 in
set_option maxRecDepth 100000 in
theorem ct_c10_act (l : Launch) (X : gX) (hx : gEx X = false) (N : Nat) (a0 : Nat) (x1 : Int32) (h : gH) (q : Int32 × gH) (hy : f_c10_act N a0 x1 h = some q) : gRc y_c10_act h a0 ∧ gMi l X y_c10_act b_c10_act 7 .int (6 + N) 0 0 [.ref a0, .int x1] h q.1 q.2 := by
  unfold f_c10_act at hy
  obtain ⟨u0, e_u0, hy⟩ := gBd hy
  cases u0
  refine ⟨Or.inl ⟨10, _, _, e_u0, rfl⟩, gMet_i (lsx := [(0, .ref a0), (1, .int x1)]) (by decide) rfl rfl ?_⟩
  intro M hMl K hret
  subst hMl
  refine g_aload_n K d_c10_act_0 0 rfl ?_
  obtain ⟨v1, e_v1, hy⟩ := gBd hy
  refine g_getR K fl_c10_10 d_c10_act_1 e_v1 ?_
  refine g_iload_n K d_c10_act_4 1 rfl ?_
  refine g_iconst (v := 1) K d_c10_act_5 (by decide) ?_
  refine g_iadd K d_c10_act_6 ?_
  refine g_bipush (v := 60) K d_c10_act_7 (by decide) ?_
  obtain ⟨q2, e_q2, hy⟩ := gBd hy
  refine g_callVi (rest := []) K hx ly_c8_digit kv_c10_384 d_c10_act_9 (ct_c8_digit M.2.1 X hx N v1 (x1 + (1 : Int32)) (60 : Int32) h q2 e_q2) rfl rfl (Nat.le_of_ble_eq_true rfl) (gDep rfl) ⟨Nat.le_refl 0, Nat.le_refl 0⟩ ?_
  refine g_istore_n (ls2 := [(2, .int q2), (0, .ref a0), (1, .int x1)]) K d_c10_act_12 rfl rfl ?_
  refine g_aload_n K d_c10_act_13 1 rfl ?_
  obtain ⟨v3, e_v3, hy⟩ := gBd hy
  refine g_getR K fl_c10_10 d_c10_act_14 e_v3 ?_
  refine g_iload_n K d_c10_act_17 2 rfl ?_
  refine g_iconst (v := 2) K d_c10_act_18 (by decide) ?_
  refine g_iadd K d_c10_act_19 ?_
  refine g_bipush (v := 60) K d_c10_act_20 (by decide) ?_
  obtain ⟨q4, e_q4, hy⟩ := gBd hy
  refine g_callVi (rest := []) K hx ly_c8_digit kv_c10_384 d_c10_act_22 (ct_c8_digit M.2.1 X hx N v3 (x1 + (2 : Int32)) (60 : Int32) h q4 e_q4) rfl rfl (Nat.le_of_ble_eq_true rfl) (gDep rfl) ⟨Nat.le_refl 0, Nat.le_refl 0⟩ ?_
  refine g_istore_n (ls2 := [(3, .int q4), (2, .int q2), (0, .ref a0), (1, .int x1)]) K d_c10_act_25 rfl rfl ?_
  refine g_aload_n K d_c10_act_26 2 rfl ?_
  obtain ⟨v5, e_v5, hy⟩ := gBd hy
  refine g_getR K fl_c10_10 d_c10_act_27 e_v5 ?_
  refine g_iload_n K d_c10_act_30 3 rfl ?_
  refine g_bipush (v := 60) K d_c10_act_31 (by decide) ?_
  obtain ⟨q6, e_q6, hy⟩ := gBd hy
  refine g_callVi (rest := []) K hx ly_c8_at kv_c10_237 d_c10_act_33 (ct_c8_at M.2.1 X hx N v5 x1 (60 : Int32) h q6 e_q6) rfl rfl (Nat.le_of_ble_eq_true rfl) (gDep rfl) ⟨Nat.le_refl 0, Nat.le_refl 0⟩ ?_
  by_cases c7 : q6 = (97 : Int32)
  · rw [if_pos c7] at hy
    refine g_tabIn (v := (97 : Int32)) (off := 193) (tgt := 229) K d_c10_act_36 c7 (by decide) (by decide) (by decide +kernel) (by decide) ?_
    refine g_aload_n K d_c10_act_229 2 rfl ?_
    obtain ⟨v13, e_v13, hy⟩ := gBd hy
    refine g_getR K fl_c10_33 d_c10_act_230 e_v13 ?_
    refine g_iload_n K d_c10_act_233 1 rfl ?_
    obtain ⟨q14, e_q14, hy⟩ := gBd hy
    refine g_callVi (rest := []) K hx ly_c7_throwAnd kv_c10_219 d_c10_act_234 (ct_c7_throwAnd M.2.1 X hx N v13 q2 h q14 e_q14) rfl rfl (Nat.le_of_ble_eq_true rfl) (gDep rfl) ⟨Nat.le_refl 0, Nat.le_refl 0⟩ ?_
    obtain rfl := Option.some.inj hy
    exact hret rfl _ _ _ d_c10_act_237
  rw [if_neg c7] at hy
  by_cases c8 : q6 = (99 : Int32)
  · rw [if_pos c8] at hy
    refine g_tabIn (v := (99 : Int32)) (off := 202) (tgt := 238) K d_c10_act_36 c8 (by decide) (by decide) (by decide +kernel) (by decide) ?_
    refine g_aload_n K d_c10_act_238 2 rfl ?_
    obtain ⟨v15, e_v15, hy⟩ := gBd hy
    refine g_getR K fl_c10_33 d_c10_act_239 e_v15 ?_
    refine g_iload_n K d_c10_act_242 1 rfl ?_
    obtain ⟨q16, e_q16, hy⟩ := gBd hy
    refine g_callVi (rest := []) K hx ly_c7_takeAnds kv_c10_222 d_c10_act_243 (ct_c7_takeAnds M.2.1 X hx N v15 q2 h q16 e_q16) rfl rfl (Nat.le_of_ble_eq_true rfl) (gDep rfl) ⟨Nat.le_refl 0, Nat.le_refl 0⟩ ?_
    obtain rfl := Option.some.inj hy
    exact hret rfl _ _ _ d_c10_act_246
  rw [if_neg c8] at hy
  by_cases c9 : q6 = (100 : Int32)
  · rw [if_pos c9] at hy
    refine g_tabIn (v := (100 : Int32)) (off := 211) (tgt := 247) K d_c10_act_36 c9 (by decide) (by decide) (by decide +kernel) (by decide) ?_
    refine g_aload_n K d_c10_act_247 2 rfl ?_
    obtain ⟨v17, e_v17, hy⟩ := gBd hy
    refine g_getR K fl_c10_33 d_c10_act_248 e_v17 ?_
    refine g_iload_n K d_c10_act_251 1 rfl ?_
    refine g_iload_n K d_c10_act_252 0 rfl ?_
    obtain ⟨q18, e_q18, hy⟩ := gBd hy
    refine g_callVi (rest := []) K hx ly_c7_drawFrom kv_c10_225 d_c10_act_253 (ct_c7_drawFrom M.2.1 X hx N v17 q2 q4 h q18 e_q18) rfl rfl (Nat.le_of_ble_eq_true rfl) (gDep rfl) ⟨Nat.le_refl 0, Nat.le_refl 0⟩ ?_
    obtain rfl := Option.some.inj hy
    exact hret rfl _ _ _ d_c10_act_256
  rw [if_neg c9] at hy
  by_cases c10 : q6 = (110 : Int32)
  · rw [if_pos c10] at hy
    refine g_tabIn (v := (110 : Int32)) (off := 92) (tgt := 128) K d_c10_act_36 c10 (by decide) (by decide) (by decide +kernel) (by decide) ?_
    refine g_aload_n K d_c10_act_128 2 rfl ?_
    obtain ⟨v19, e_v19, hy⟩ := gBd hy
    refine g_getR K fl_c10_46 d_c10_act_129 e_v19 ?_
    refine g_aload_n K d_c10_act_132 2 rfl ?_
    obtain ⟨v20, e_v20, hy⟩ := gBd hy
    refine g_getR K fl_c10_33 d_c10_act_133 e_v20 ?_
    refine g_aload_n K d_c10_act_136 2 rfl ?_
    obtain ⟨v21, e_v21, hy⟩ := gBd hy
    refine g_getR K fl_c10_26 d_c10_act_137 e_v21 ?_
    refine g_aload_n K d_c10_act_140 2 rfl ?_
    obtain ⟨v22, e_v22, hy⟩ := gBd hy
    refine g_getR K fl_c10_81 d_c10_act_141 e_v22 ?_
    refine g_iload_n K d_c10_act_144 1 rfl ?_
    obtain ⟨q23, e_q23, hy⟩ := gBd hy
    refine g_callVi (rest := []) K hx ly_c0_pass kv_c10_195 d_c10_act_145 (ct_c0_pass M.2.1 X hx N v19 v20 v21 v22 q2 h q23 e_q23) rfl rfl (Nat.le_of_ble_eq_true rfl) (gDep rfl) ⟨Nat.le_refl 0, Nat.le_refl 0⟩ ?_
    refine g_pop K d_c10_act_148 rfl ?_
    refine g_aload_n K d_c10_act_149 2 rfl ?_
    obtain ⟨v24, e_v24, hy⟩ := gBd hy
    refine g_getR K fl_c10_33 d_c10_act_150 e_v24 ?_
    obtain ⟨q25, e_q25, hy⟩ := gBd hy
    refine g_callVi (rest := []) K hx ly_c7_waterOfAll kv_c10_192 d_c10_act_153 (ct_c7_waterOfAll M.2.1 X hx N v24 q23.2 q25 e_q25) rfl rfl (Nat.le_of_ble_eq_true rfl) (gDep rfl) ⟨Nat.le_refl 0, Nat.le_refl 0⟩ ?_
    obtain rfl := Option.some.inj hy
    exact hret rfl _ _ _ d_c10_act_156
  rw [if_neg c10] at hy
  by_cases c11 : q6 = (114 : Int32)
  · rw [if_pos c11] at hy
    refine g_tabIn (v := (114 : Int32)) (off := 221) (tgt := 257) K d_c10_act_36 c11 (by decide) (by decide) (by decide +kernel) (by decide) ?_
    refine g_aload_n K d_c10_act_257 2 rfl ?_
    obtain ⟨v26, e_v26, hy⟩ := gBd hy
    refine g_getR K fl_c10_33 d_c10_act_258 e_v26 ?_
    refine g_iload_n K d_c10_act_261 1 rfl ?_
    obtain ⟨q27, e_q27, hy⟩ := gBd hy
    refine g_callVi (rest := []) K hx ly_c7_turn kv_c10_228 d_c10_act_262 (ct_c7_turn M.2.1 X hx N v26 q2 h q27 e_q27) rfl rfl (Nat.le_of_ble_eq_true rfl) (gDep rfl) ⟨Nat.le_refl 0, Nat.le_refl 0⟩ ?_
    obtain rfl := Option.some.inj hy
    exact hret rfl _ _ _ d_c10_act_265
  rw [if_neg c11] at hy
  by_cases c12 : q6 = (115 : Int32)
  · rw [if_pos c12] at hy
    refine g_tabIn (v := (115 : Int32)) (off := 121) (tgt := 157) K d_c10_act_36 c12 (by decide) (by decide) (by decide +kernel) (by decide) ?_
    refine g_aload_n K d_c10_act_157 2 rfl ?_
    obtain ⟨v28, e_v28, hy⟩ := gBd hy
    refine g_getR K fl_c10_26 d_c10_act_158 e_v28 ?_
    refine g_iload_n K d_c10_act_161 1 rfl ?_
    refine g_iload_n K d_c10_act_162 0 rfl ?_
    obtain ⟨q29, e_q29, hy⟩ := gBd hy
    refine g_callVi (rest := []) K hx ly_c1_fieldAt kv_c10_440 d_c10_act_163 (ct_c1_fieldAt M.2.1 X hx N v28 q2 q4 h q29 e_q29) rfl rfl (Nat.le_of_ble_eq_true rfl) (gDep rfl) ⟨Nat.le_refl 0, Nat.le_refl 0⟩ ?_
    refine g_istore (ls2 := [(4, .int q29), (3, .int q4), (2, .int q2), (0, .ref a0), (1, .int x1)]) K d_c10_act_166 rfl rfl ?_
    refine g_aload_n K d_c10_act_168 3 rfl ?_
    obtain ⟨v30, e_v30, hy⟩ := gBd hy
    refine g_getR K fl_c10_10 d_c10_act_169 e_v30 ?_
    refine g_iload_n K d_c10_act_172 4 rfl ?_
    refine g_iconst (v := 3) K d_c10_act_173 (by decide) ?_
    refine g_iadd K d_c10_act_174 ?_
    refine g_bipush (v := 60) K d_c10_act_175 (by decide) ?_
    obtain ⟨q31, e_q31, hy⟩ := gBd hy
    refine g_callVi (rest := []) K hx ly_c8_digit kv_c10_384 d_c10_act_177 (ct_c8_digit M.2.1 X hx N v30 (x1 + (3 : Int32)) (60 : Int32) h q31 e_q31) rfl rfl (Nat.le_of_ble_eq_true rfl) (gDep rfl) ⟨Nat.le_refl 0, Nat.le_refl 0⟩ ?_
    refine g_istore (ls2 := [(5, .int q31), (4, .int q29), (3, .int q4), (2, .int q2), (0, .ref a0), (1, .int x1)]) K d_c10_act_180 rfl rfl ?_
    refine g_aload_n K d_c10_act_182 4 rfl ?_
    obtain ⟨v32, e_v32, hy⟩ := gBd hy
    refine g_getR K fl_c10_10 d_c10_act_183 e_v32 ?_
    refine g_iload_n K d_c10_act_186 5 rfl ?_
    refine g_iconst (v := 4) K d_c10_act_187 (by decide) ?_
    refine g_iadd K d_c10_act_188 ?_
    refine g_bipush (v := 60) K d_c10_act_189 (by decide) ?_
    obtain ⟨q33, e_q33, hy⟩ := gBd hy
    refine g_callVi (rest := []) K hx ly_c8_at kv_c10_237 d_c10_act_191 (ct_c8_at M.2.1 X hx N v32 (x1 + (4 : Int32)) (60 : Int32) h q33 e_q33) rfl rfl (Nat.le_of_ble_eq_true rfl) (gDep rfl) ⟨Nat.le_refl 0, Nat.le_refl 0⟩ ?_
    refine g_istore (ls2 := [(6, .int q33), (5, .int q31), (4, .int q29), (3, .int q4), (2, .int q2), (0, .ref a0), (1, .int x1)]) K d_c10_act_194 rfl rfl ?_
    refine g_iload K d_c10_act_196 2 rfl ?_
    obtain ⟨t35, e_t35, hy⟩ := gBd hy
    have hJ36 : gG M X 7 0 0 228 [] [.int t35.1] t35.2 := by
      obtain rfl := Option.some.inj hy
      exact hret rfl _ _ _ d_c10_act_228
    refine g_if_ge K d_c10_act_198 (fun c34 => ?_) (fun c34 => ?_)
    · rw [if_pos c34] at e_t35
      refine g_aload_n K d_c10_act_205 5 rfl ?_
      obtain ⟨v37, e_v37, e_t35⟩ := gBd e_t35
      refine g_getR K fl_c10_33 d_c10_act_206 e_v37 ?_
      refine g_iload K d_c10_act_209 2 rfl ?_
      refine g_iload K d_c10_act_211 1 rfl ?_
      refine g_iload K d_c10_act_213 0 rfl ?_
      refine g_bipush (v := 46) K d_c10_act_215 (by decide) ?_
      have hJ40 : ∀ w39 : Int32, w39 = (if q33 = (46 : Int32) then (1 : Int32) else (0 : Int32)) → gG M X 7 0 0 225 [(6, .int q33), (5, .int q31), (4, .int q29), (3, .int q4), (2, .int q2), (0, .ref a0), (1, .int x1)] [.int w39, .int q31, .int q29, .ref v37] h := by
        intro w39 e_w39
        subst e_w39
        obtain ⟨q41, e_q41, e_t35⟩ := gBd e_t35
        refine g_callVi (rest := []) K hx ly_c7_sayOn kv_c10_212 d_c10_act_225 (ct_c7_sayOn M.2.1 X hx N v37 q29 q31 (if q33 = (46 : Int32) then (1 : Int32) else (0 : Int32)) h q41 e_q41) rfl rfl (Nat.le_of_ble_eq_true rfl) (gDep rfl) ⟨Nat.le_refl 0, Nat.le_refl 0⟩ ?_
        refine g_sub (ls2 := []) [] rfl ?_
        obtain rfl := Option.some.inj e_t35
        exact hJ36
      refine g_icmp_ne K d_c10_act_217 (fun c38 => ?_) (fun c38 => ?_)
      · refine g_iconst (v := 0) K d_c10_act_224 (by decide) ?_
        exact hJ40 _ (by rw [if_neg c38])
      · refine g_iconst (v := 1) K d_c10_act_220 (by decide) ?_
        refine g_goto K d_c10_act_221 ?_
        exact hJ40 _ (by rw [if_pos c38])
    · rw [if_neg c34] at e_t35
      refine g_iconst (v := (-1)) K d_c10_act_201 (by decide) ?_
      refine g_goto K d_c10_act_202 ?_
      refine g_sub (ls2 := []) [] rfl ?_
      obtain rfl := Option.some.inj e_t35
      exact hJ36
  rw [if_neg c12] at hy
  refine g_tabD (tgt := 266) [(97 : Int32), (99 : Int32), (100 : Int32), (110 : Int32), (114 : Int32), (115 : Int32)] K d_c10_act_36 (List.forall_mem_cons.mpr ⟨c7, (List.forall_mem_cons.mpr ⟨c8, (List.forall_mem_cons.mpr ⟨c9, (List.forall_mem_cons.mpr ⟨c10, (List.forall_mem_cons.mpr ⟨c11, (List.forall_mem_cons.mpr ⟨c12, (fun _ h => absurd h List.not_mem_nil)⟩)⟩)⟩)⟩)⟩)⟩) (by decide +kernel) (by decide) ?_
  refine g_iconst (v := (-1)) K d_c10_act_266 (by decide) ?_
  obtain rfl := Option.some.inj hy
  exact hret rfl _ _ _ d_c10_act_267
-- c10 best
theorem d_c10_best_0 : gD b_c10_best 0 (.iload_n 1) 1 1 := ⟨by decide +kernel, rfl⟩
theorem d_c10_best_1 : gD b_c10_best 1 (.iconst 1) 1 2 := ⟨by decide +kernel, rfl⟩
theorem d_c10_best_2 : gJ b_c10_best 2 (.if_icmp .lt 16) 3 16 5 18 := ⟨by decide +kernel, rfl, by decide⟩
theorem d_c10_best_5 : gD b_c10_best 5 (.iload_n 1) 1 6 := ⟨by decide +kernel, rfl⟩
theorem d_c10_best_6 : gD b_c10_best 6 (.bipush 9) 2 8 := ⟨by decide +kernel, rfl⟩
theorem d_c10_best_8 : gJ b_c10_best 8 (.if_icmp .gt 10) 3 10 11 18 := ⟨by decide +kernel, rfl, by decide⟩
theorem d_c10_best_11 : gD b_c10_best 11 (.iload_n 2) 1 12 := ⟨by decide +kernel, rfl⟩
theorem d_c10_best_12 : gD b_c10_best 12 (.invokestatic 294) 3 15 := ⟨by decide +kernel, rfl⟩
theorem d_c10_best_15 : gJ b_c10_best 15 (.ifCond .ne 5) 3 5 18 20 := ⟨by decide +kernel, rfl, by decide⟩
theorem d_c10_best_18 : gD b_c10_best 18 (.iconst (-1)) 1 19 := ⟨by decide +kernel, rfl⟩
theorem d_c10_best_19 : gD b_c10_best 19 .ireturn 1 20 := ⟨by decide +kernel, rfl⟩
theorem d_c10_best_20 : gD b_c10_best 20 (.aload_n 0) 1 21 := ⟨by decide +kernel, rfl⟩
theorem d_c10_best_21 : gD b_c10_best 21 (.getfield 33) 3 24 := ⟨by decide +kernel, rfl⟩
theorem d_c10_best_24 : gD b_c10_best 24 (.getfield 132) 3 27 := ⟨by decide +kernel, rfl⟩
theorem d_c10_best_27 : gD b_c10_best 27 (.bipush 8) 2 29 := ⟨by decide +kernel, rfl⟩
theorem d_c10_best_29 : gJ b_c10_best 29 (.if_icmp .lt 6) 3 6 32 35 := ⟨by decide +kernel, rfl, by decide⟩
theorem d_c10_best_32 : gD b_c10_best 32 (.bipush (-2)) 2 34 := ⟨by decide +kernel, rfl⟩
theorem d_c10_best_34 : gD b_c10_best 34 .ireturn 1 35 := ⟨by decide +kernel, rfl⟩
theorem d_c10_best_35 : gD b_c10_best 35 (.iconst (-1)) 1 36 := ⟨by decide +kernel, rfl⟩
theorem d_c10_best_36 : gD b_c10_best 36 (.istore_n 3) 1 37 := ⟨by decide +kernel, rfl⟩
theorem d_c10_best_37 : gD b_c10_best 37 (.iconst 0) 1 38 := ⟨by decide +kernel, rfl⟩
theorem d_c10_best_38 : gD b_c10_best 38 (.istore 4) 2 40 := ⟨by decide +kernel, rfl⟩
theorem d_c10_best_40 : gD b_c10_best 40 (.iconst 0) 1 41 := ⟨by decide +kernel, rfl⟩
theorem d_c10_best_41 : gD b_c10_best 41 (.istore 5) 2 43 := ⟨by decide +kernel, rfl⟩
theorem d_c10_best_43 : gD b_c10_best 43 (.iload 5) 2 45 := ⟨by decide +kernel, rfl⟩
theorem d_c10_best_45 : gD b_c10_best 45 (.aload_n 0) 1 46 := ⟨by decide +kernel, rfl⟩
theorem d_c10_best_46 : gD b_c10_best 46 (.getfield 26) 3 49 := ⟨by decide +kernel, rfl⟩
theorem d_c10_best_49 : gD b_c10_best 49 (.invokevirtual 120) 3 52 := ⟨by decide +kernel, rfl⟩
theorem d_c10_best_52 : gJ b_c10_best 52 (.if_icmp .ge 87) 3 87 55 139 := ⟨by decide +kernel, rfl, by decide⟩
theorem d_c10_best_55 : gD b_c10_best 55 (.aload_n 0) 1 56 := ⟨by decide +kernel, rfl⟩
theorem d_c10_best_56 : gD b_c10_best 56 (.getfield 33) 3 59 := ⟨by decide +kernel, rfl⟩
theorem d_c10_best_59 : gD b_c10_best 59 (.iload 5) 2 61 := ⟨by decide +kernel, rfl⟩
theorem d_c10_best_61 : gD b_c10_best 61 (.invokevirtual 297) 3 64 := ⟨by decide +kernel, rfl⟩
theorem d_c10_best_64 : gJ b_c10_best 64 (.ifCond .lt 6) 3 6 67 70 := ⟨by decide +kernel, rfl, by decide⟩
theorem d_c10_best_67 : gJ b_c10_best 67 (.goto 66) 3 66 70 133 := ⟨by decide +kernel, rfl, by decide⟩
theorem d_c10_best_70 : gD b_c10_best 70 (.aload_n 0) 1 71 := ⟨by decide +kernel, rfl⟩
theorem d_c10_best_71 : gD b_c10_best 71 (.getfield 40) 3 74 := ⟨by decide +kernel, rfl⟩
theorem d_c10_best_74 : gD b_c10_best 74 (.aload_n 0) 1 75 := ⟨by decide +kernel, rfl⟩
theorem d_c10_best_75 : gD b_c10_best 75 (.getfield 33) 3 78 := ⟨by decide +kernel, rfl⟩
theorem d_c10_best_78 : gD b_c10_best 78 (.invokevirtual 124) 3 81 := ⟨by decide +kernel, rfl⟩
theorem d_c10_best_81 : gD b_c10_best 81 (.aload_n 0) 1 82 := ⟨by decide +kernel, rfl⟩
theorem d_c10_best_82 : gD b_c10_best 82 (.getfield 40) 3 85 := ⟨by decide +kernel, rfl⟩
theorem d_c10_best_85 : gD b_c10_best 85 (.iload 5) 2 87 := ⟨by decide +kernel, rfl⟩
theorem d_c10_best_87 : gD b_c10_best 87 (.iload_n 1) 1 88 := ⟨by decide +kernel, rfl⟩
theorem d_c10_best_88 : gD b_c10_best 88 (.iconst 1) 1 89 := ⟨by decide +kernel, rfl⟩
theorem d_c10_best_89 : gD b_c10_best 89 (.invokevirtual 212) 3 92 := ⟨by decide +kernel, rfl⟩
theorem d_c10_best_92 : gD b_c10_best 92 .pop 1 93 := ⟨by decide +kernel, rfl⟩
theorem d_c10_best_93 : gD b_c10_best 93 (.aload_n 0) 1 94 := ⟨by decide +kernel, rfl⟩
theorem d_c10_best_94 : gD b_c10_best 94 (.getfield 46) 3 97 := ⟨by decide +kernel, rfl⟩
theorem d_c10_best_97 : gD b_c10_best 97 (.aload_n 0) 1 98 := ⟨by decide +kernel, rfl⟩
theorem d_c10_best_98 : gD b_c10_best 98 (.getfield 40) 3 101 := ⟨by decide +kernel, rfl⟩
theorem d_c10_best_101 : gD b_c10_best 101 (.aload_n 0) 1 102 := ⟨by decide +kernel, rfl⟩
theorem d_c10_best_102 : gD b_c10_best 102 (.getfield 26) 3 105 := ⟨by decide +kernel, rfl⟩
theorem d_c10_best_105 : gD b_c10_best 105 (.aload_n 0) 1 106 := ⟨by decide +kernel, rfl⟩
theorem d_c10_best_106 : gD b_c10_best 106 (.getfield 81) 3 109 := ⟨by decide +kernel, rfl⟩
theorem d_c10_best_109 : gD b_c10_best 109 (.iload_n 2) 1 110 := ⟨by decide +kernel, rfl⟩
theorem d_c10_best_110 : gD b_c10_best 110 (.invokevirtual 195) 3 113 := ⟨by decide +kernel, rfl⟩
theorem d_c10_best_113 : gD b_c10_best 113 (.istore 6) 2 115 := ⟨by decide +kernel, rfl⟩
theorem d_c10_best_115 : gD b_c10_best 115 (.iload_n 3) 1 116 := ⟨by decide +kernel, rfl⟩
theorem d_c10_best_116 : gJ b_c10_best 116 (.ifCond .lt 10) 3 10 119 126 := ⟨by decide +kernel, rfl, by decide⟩
theorem d_c10_best_119 : gD b_c10_best 119 (.iload 6) 2 121 := ⟨by decide +kernel, rfl⟩
theorem d_c10_best_121 : gD b_c10_best 121 (.iload 4) 2 123 := ⟨by decide +kernel, rfl⟩
theorem d_c10_best_123 : gJ b_c10_best 123 (.if_icmp .ge 10) 3 10 126 133 := ⟨by decide +kernel, rfl, by decide⟩
theorem d_c10_best_126 : gD b_c10_best 126 (.iload 5) 2 128 := ⟨by decide +kernel, rfl⟩
theorem d_c10_best_128 : gD b_c10_best 128 (.istore_n 3) 1 129 := ⟨by decide +kernel, rfl⟩
theorem d_c10_best_129 : gD b_c10_best 129 (.iload 6) 2 131 := ⟨by decide +kernel, rfl⟩
theorem d_c10_best_131 : gD b_c10_best 131 (.istore 4) 2 133 := ⟨by decide +kernel, rfl⟩
theorem d_c10_best_133 : gD b_c10_best 133 (.iinc 5 1) 3 136 := ⟨by decide +kernel, rfl⟩
theorem d_c10_best_136 : gJ b_c10_best 136 (.goto (-93)) 3 (-93) 139 43 := ⟨by decide +kernel, rfl, by decide⟩
theorem d_c10_best_139 : gD b_c10_best 139 (.iload_n 3) 1 140 := ⟨by decide +kernel, rfl⟩
theorem d_c10_best_140 : gJ b_c10_best 140 (.ifCond .ge 8) 3 8 143 148 := ⟨by decide +kernel, rfl, by decide⟩
theorem d_c10_best_143 : gD b_c10_best 143 (.bipush (-2)) 2 145 := ⟨by decide +kernel, rfl⟩
theorem d_c10_best_145 : gJ b_c10_best 145 (.goto 11) 3 11 148 156 := ⟨by decide +kernel, rfl, by decide⟩
theorem d_c10_best_148 : gD b_c10_best 148 (.aload_n 0) 1 149 := ⟨by decide +kernel, rfl⟩
theorem d_c10_best_149 : gD b_c10_best 149 (.iload_n 3) 1 150 := ⟨by decide +kernel, rfl⟩
theorem d_c10_best_150 : gD b_c10_best 150 (.iload 4) 2 152 := ⟨by decide +kernel, rfl⟩
theorem d_c10_best_152 : gD b_c10_best 152 .i2l 1 153 := ⟨by decide +kernel, rfl⟩
theorem d_c10_best_153 : gD b_c10_best 153 (.invokevirtual 261) 3 156 := ⟨by decide +kernel, rfl⟩
theorem d_c10_best_156 : gD b_c10_best 156 .ireturn 1 157 := ⟨by decide +kernel, rfl⟩
def lp_c10_best_43 (N : Nat) (a0 : Nat) (x1 : Int32) (x2 : Int32) : Nat → Int32 → Int32 → Int32 → gH → Option (Int32 × Int32 × gH)
  | 0, _, _, _, _ => none
  | k + 1, x3, x4, x5, h =>
  (gfR h a0 10 2).bind fun v8 =>
    (f_c1_fields N v8 h).bind fun q9 =>
    if q9 ≤ x5 then
    some (x3, x4, h)
  else
    (gfR h a0 10 3).bind fun v11 =>
    (f_c7_wellOn N v11 x5 h).bind fun q12 =>
    (show Option (Int32 × Int32 × gH) from if q12 < 0 then
    (gfR h a0 10 5).bind fun v16 =>
    (gfR h a0 10 3).bind fun v17 =>
    (f_c7_take N v16 v17 h).bind fun q18 =>
    (gfR q18 a0 10 5).bind fun v19 =>
    (f_c7_sayOn N v19 x5 x1 (1 : Int32) q18).bind fun q20 =>
    (gfR q20.2 a0 10 6).bind fun v21 =>
    (gfR q20.2 a0 10 5).bind fun v22 =>
    (gfR q20.2 a0 10 2).bind fun v23 =>
    (gfR q20.2 a0 10 11).bind fun v24 =>
    (f_c0_pass N v21 v22 v23 v24 x2 q20.2).bind fun q25 =>
    if x3 < 0 then
    some (x5, q25.1, q25.2)
  else
    if x4 ≤ q25.1 then
    some (x3, x4, q25.2)
  else
    some (x5, q25.1, q25.2)
  else
    some (x3, x4, h)).bind fun t14 =>
    lp_c10_best_43 N a0 x1 x2 k t14.1 t14.2.1 (x5 + (1 : Int32)) t14.2.2
def f_c10_best (N : Nat) (a0 : Nat) (x1 : Int32) (x2 : Int32) (h : gH) : Option (Int32 × gH) :=
  (gcl h a0 10).bind fun _ =>
  if x1 < (1 : Int32) then
    some ((-1 : Int32), h)
  else
    if (9 : Int32) < x1 then
    some ((-1 : Int32), h)
  else
    (f_c10_isTried N x2 h).bind fun q3 =>
    if q3 = 0 then
    some ((-1 : Int32), h)
  else
    (gfR h a0 10 3).bind fun v5 =>
    (gfI h v5 7 0).bind fun v6 =>
    if v6 < (8 : Int32) then
    (lp_c10_best_43 N a0 x1 x2 N (-1 : Int32) (0 : Int32) (0 : Int32) h).bind fun o28 =>
    (show Option (Int32 × gH) from if 0 ≤ o28.1 then
    (f_c10_tellOne N a0 o28.1 o28.2.1.toInt64 o28.2.2).bind fun q32 =>
    some (q32.1, q32.2)
  else
    some ((-2 : Int32), o28.2.2)).bind fun t30 =>
    some (t30.1, t30.2)
  else
    some ((-2 : Int32), h)
set_option maxHeartbeats 4000000 in
set_option maxRecDepth 100000 in
theorem wlp_c10_best_43 {M : gM} {X : gX} {N : Nat} (hx : gEx X = false) (K : gC M X gN10 b_c10_best 7 (gRm (6 + N) 0 0)) (a0 : Nat) (x1 : Int32) (x2 : Int32) : ∀ (k : Nat) (x3 : Int32) (x4 : Int32) (x5 : Int32) (h : gH) (o : Int32 × Int32 × gH), lp_c10_best_43 N a0 x1 x2 k x3 x4 x5 h = some o → gG M X 7 0 0 139 [(0, .ref a0), (3, .int o.1), (4, .int o.2.1)] [] o.2.2 → gG M X 7 0 0 43 [(0, .ref a0), (1, .int x1), (2, .int x2), (3, .int x3), (4, .int x4), (5, .int x5)] [] h := by
  intro k
  induction k with
  | zero =>
    intro x3 x4 x5 h o hy
    rw [lp_c10_best_43.eq_1] at hy
    cases hy
  | succ k ih =>
    intro x3 x4 x5 h o hy hE
    rw [lp_c10_best_43.eq_2] at hy
    refine g_iload K d_c10_best_43 5 rfl ?_
    refine g_aload_n K d_c10_best_45 0 rfl ?_
    obtain ⟨v8, e_v8, hy⟩ := gBd hy
    refine g_getR K fl_c10_26 d_c10_best_46 e_v8 ?_
    obtain ⟨q9, e_q9, hy⟩ := gBd hy
    refine g_callVi (rest := [.int x5]) K hx ly_c1_fields kv_c10_120 d_c10_best_49 (ct_c1_fields M.2.1 X hx N v8 h q9 e_q9) rfl rfl (Nat.le_of_ble_eq_true rfl) (gDep rfl) ⟨Nat.le_refl 0, Nat.le_refl 0⟩ ?_
    refine g_icmp_ge K d_c10_best_52 (fun c10 => ?_) (fun c10 => ?_)
    · rw [if_pos c10] at hy
      refine g_sub (ls2 := [(0, .ref a0), (3, .int x3), (4, .int x4)]) [0, 3, 4] rfl ?_
      obtain rfl := Option.some.inj hy
      exact hE
    · rw [if_neg c10] at hy
      refine g_aload_n K d_c10_best_55 0 rfl ?_
      obtain ⟨v11, e_v11, hy⟩ := gBd hy
      refine g_getR K fl_c10_33 d_c10_best_56 e_v11 ?_
      refine g_iload K d_c10_best_59 5 rfl ?_
      obtain ⟨q12, e_q12, hy⟩ := gBd hy
      refine g_callVi (rest := []) K hx ly_c7_wellOn kv_c10_297 d_c10_best_61 (ct_c7_wellOn M.2.1 X hx N v11 x5 h q12 e_q12) rfl rfl (Nat.le_of_ble_eq_true rfl) (gDep rfl) ⟨Nat.le_refl 0, Nat.le_refl 0⟩ ?_
      obtain ⟨t14, e_t14, hy⟩ := gBd hy
      have hJ15 : gG M X 7 0 0 133 [(0, .ref a0), (1, .int x1), (2, .int x2), (3, .int t14.1), (4, .int t14.2.1), (5, .int x5)] [] t14.2.2 := by
        refine g_iinc (ls2 := [(5, .int (x5 + (1 : Int32))), (0, .ref a0), (1, .int x1), (2, .int x2), (3, .int t14.1), (4, .int t14.2.1)]) (v := 1) K d_c10_best_133 5 rfl (by decide) rfl rfl ?_
        refine g_goto K d_c10_best_136 ?_
        refine g_sub (ls2 := [(0, .ref a0), (1, .int x1), (2, .int x2), (3, .int t14.1), (4, .int t14.2.1), (5, .int (x5 + (1 : Int32)))]) [1, 2, 3, 4, 5, 0] rfl ?_
        exact ih _ _ _ _ _ hy hE
      refine g_if_lt K d_c10_best_64 (fun c13 => ?_) (fun c13 => ?_)
      · rw [if_pos c13] at e_t14
        refine g_aload_n K d_c10_best_70 0 rfl ?_
        obtain ⟨v16, e_v16, e_t14⟩ := gBd e_t14
        refine g_getR K fl_c10_40 d_c10_best_71 e_v16 ?_
        refine g_aload_n K d_c10_best_74 0 rfl ?_
        obtain ⟨v17, e_v17, e_t14⟩ := gBd e_t14
        refine g_getR K fl_c10_33 d_c10_best_75 e_v17 ?_
        obtain ⟨q18, e_q18, e_t14⟩ := gBd e_t14
        refine g_callVv (rest := []) K hx ly_c7_take kv_c10_124 d_c10_best_78 (ct_c7_take M.2.1 X hx N v16 v17 h q18 e_q18) rfl rfl (Nat.le_of_ble_eq_true rfl) (gDep rfl) ⟨Nat.le_refl 0, Nat.le_refl 0⟩ ?_
        refine g_aload_n K d_c10_best_81 0 rfl ?_
        obtain ⟨v19, e_v19, e_t14⟩ := gBd e_t14
        refine g_getR K fl_c10_40 d_c10_best_82 e_v19 ?_
        refine g_iload K d_c10_best_85 5 rfl ?_
        refine g_iload_n K d_c10_best_87 1 rfl ?_
        refine g_iconst (v := 1) K d_c10_best_88 (by decide) ?_
        obtain ⟨q20, e_q20, e_t14⟩ := gBd e_t14
        refine g_callVi (rest := []) K hx ly_c7_sayOn kv_c10_212 d_c10_best_89 (ct_c7_sayOn M.2.1 X hx N v19 x5 x1 (1 : Int32) q18 q20 e_q20) rfl rfl (Nat.le_of_ble_eq_true rfl) (gDep rfl) ⟨Nat.le_refl 0, Nat.le_refl 0⟩ ?_
        refine g_pop K d_c10_best_92 rfl ?_
        refine g_aload_n K d_c10_best_93 0 rfl ?_
        obtain ⟨v21, e_v21, e_t14⟩ := gBd e_t14
        refine g_getR K fl_c10_46 d_c10_best_94 e_v21 ?_
        refine g_aload_n K d_c10_best_97 0 rfl ?_
        obtain ⟨v22, e_v22, e_t14⟩ := gBd e_t14
        refine g_getR K fl_c10_40 d_c10_best_98 e_v22 ?_
        refine g_aload_n K d_c10_best_101 0 rfl ?_
        obtain ⟨v23, e_v23, e_t14⟩ := gBd e_t14
        refine g_getR K fl_c10_26 d_c10_best_102 e_v23 ?_
        refine g_aload_n K d_c10_best_105 0 rfl ?_
        obtain ⟨v24, e_v24, e_t14⟩ := gBd e_t14
        refine g_getR K fl_c10_81 d_c10_best_106 e_v24 ?_
        refine g_iload_n K d_c10_best_109 2 rfl ?_
        obtain ⟨q25, e_q25, e_t14⟩ := gBd e_t14
        refine g_callVi (rest := []) K hx ly_c0_pass kv_c10_195 d_c10_best_110 (ct_c0_pass M.2.1 X hx N v21 v22 v23 v24 x2 q20.2 q25 e_q25) rfl rfl (Nat.le_of_ble_eq_true rfl) (gDep rfl) ⟨Nat.le_refl 0, Nat.le_refl 0⟩ ?_
        refine g_istore (ls2 := [(6, .int q25.1), (0, .ref a0), (1, .int x1), (2, .int x2), (3, .int x3), (4, .int x4), (5, .int x5)]) K d_c10_best_113 rfl rfl ?_
        refine g_iload_n K d_c10_best_115 4 rfl ?_
        refine g_if_lt K d_c10_best_116 (fun c26 => ?_) (fun c26 => ?_)
        · rw [if_pos c26] at e_t14
          refine g_iload K d_c10_best_126 6 rfl ?_
          refine g_istore_n (ls2 := [(3, .int x5), (6, .int q25.1), (0, .ref a0), (1, .int x1), (2, .int x2), (4, .int x4), (5, .int x5)]) K d_c10_best_128 rfl rfl ?_
          refine g_iload K d_c10_best_129 1 rfl ?_
          refine g_istore (ls2 := [(4, .int q25.1), (3, .int x5), (6, .int q25.1), (0, .ref a0), (1, .int x1), (2, .int x2), (5, .int x5)]) K d_c10_best_131 rfl rfl ?_
          refine g_sub (ls2 := [(0, .ref a0), (1, .int x1), (2, .int x2), (3, .int x5), (4, .int q25.1), (5, .int x5)]) [3, 4, 5, 1, 0, 6] rfl ?_
          obtain rfl := Option.some.inj e_t14
          exact hJ15
        · rw [if_neg c26] at e_t14
          refine g_iload K d_c10_best_119 0 rfl ?_
          refine g_iload K d_c10_best_121 5 rfl ?_
          refine g_icmp_ge K d_c10_best_123 (fun c27 => ?_) (fun c27 => ?_)
          · rw [if_pos c27] at e_t14
            refine g_sub (ls2 := [(0, .ref a0), (1, .int x1), (2, .int x2), (3, .int x3), (4, .int x4), (5, .int x5)]) [1, 2, 3, 4, 5, 6] rfl ?_
            obtain rfl := Option.some.inj e_t14
            exact hJ15
          · rw [if_neg c27] at e_t14
            refine g_iload K d_c10_best_126 6 rfl ?_
            refine g_istore_n (ls2 := [(3, .int x5), (6, .int q25.1), (0, .ref a0), (1, .int x1), (2, .int x2), (4, .int x4), (5, .int x5)]) K d_c10_best_128 rfl rfl ?_
            refine g_iload K d_c10_best_129 1 rfl ?_
            refine g_istore (ls2 := [(4, .int q25.1), (3, .int x5), (6, .int q25.1), (0, .ref a0), (1, .int x1), (2, .int x2), (5, .int x5)]) K d_c10_best_131 rfl rfl ?_
            refine g_sub (ls2 := [(0, .ref a0), (1, .int x1), (2, .int x2), (3, .int x5), (4, .int q25.1), (5, .int x5)]) [3, 4, 5, 1, 0, 6] rfl ?_
            obtain rfl := Option.some.inj e_t14
            exact hJ15
      · rw [if_neg c13] at e_t14
        refine g_goto K d_c10_best_67 ?_
        obtain rfl := Option.some.inj e_t14
        exact hJ15
set_option maxHeartbeats 4000000 in
set_option maxRecDepth 100000 in
theorem ct_c10_best (l : Launch) (X : gX) (hx : gEx X = false) (N : Nat) (a0 : Nat) (x1 : Int32) (x2 : Int32) (h : gH) (q : Int32 × gH) (hy : f_c10_best N a0 x1 x2 h = some q) : gRc y_c10_best h a0 ∧ gMi l X y_c10_best b_c10_best 7 .int (6 + N) 0 0 [.ref a0, .int x1, .int x2] h q.1 q.2 := by
  unfold f_c10_best at hy
  obtain ⟨u0, e_u0, hy⟩ := gBd hy
  cases u0
  refine ⟨Or.inl ⟨10, _, _, e_u0, rfl⟩, gMet_i (lsx := [(0, .ref a0), (1, .int x1), (2, .int x2)]) (by decide) rfl rfl ?_⟩
  intro M hMl K hret
  subst hMl
  refine g_iload_n K d_c10_best_0 1 rfl ?_
  refine g_iconst (v := 1) K d_c10_best_1 (by decide) ?_
  refine g_icmp_lt K d_c10_best_2 (fun c1 => ?_) (fun c1 => ?_)
  · rw [if_pos c1] at hy
    refine g_iconst (v := (-1)) K d_c10_best_18 (by decide) ?_
    obtain rfl := Option.some.inj hy
    exact hret rfl _ _ _ d_c10_best_19
  · rw [if_neg c1] at hy
    refine g_iload_n K d_c10_best_5 1 rfl ?_
    refine g_bipush (v := 9) K d_c10_best_6 (by decide) ?_
    refine g_icmp_gt K d_c10_best_8 (fun c2 => ?_) (fun c2 => ?_)
    · rw [if_pos c2] at hy
      refine g_iconst (v := (-1)) K d_c10_best_18 (by decide) ?_
      obtain rfl := Option.some.inj hy
      exact hret rfl _ _ _ d_c10_best_19
    · rw [if_neg c2] at hy
      refine g_iload_n K d_c10_best_11 2 rfl ?_
      obtain ⟨q3, e_q3, hy⟩ := gBd hy
      refine g_callSi (rest := []) K hx ly_c10_isTried ks_c10_294 d_c10_best_12 (ct_c10_isTried M.2.1 X hx N x2 h q3 e_q3) rfl rfl (Nat.le_of_ble_eq_true rfl) (gDep rfl) ⟨Nat.le_refl 0, Nat.le_refl 0⟩ ?_
      refine g_if_ne K d_c10_best_15 (fun c4 => ?_) (fun c4 => ?_)
      · rw [if_neg c4] at hy
        refine g_aload_n K d_c10_best_20 0 rfl ?_
        obtain ⟨v5, e_v5, hy⟩ := gBd hy
        refine g_getR K fl_c10_33 d_c10_best_21 e_v5 ?_
        obtain ⟨v6, e_v6, hy⟩ := gBd hy
        refine g_getI K fl_c10_132 d_c10_best_24 e_v6 ?_
        refine g_bipush (v := 8) K d_c10_best_27 (by decide) ?_
        refine g_icmp_lt K d_c10_best_29 (fun c7 => ?_) (fun c7 => ?_)
        · rw [if_pos c7] at hy
          refine g_iconst (v := (-1)) K d_c10_best_35 (by decide) ?_
          refine g_istore_n (ls2 := [(3, .int (-1 : Int32)), (0, .ref a0), (1, .int x1), (2, .int x2)]) K d_c10_best_36 rfl rfl ?_
          refine g_iconst (v := 0) K d_c10_best_37 (by decide) ?_
          refine g_istore (ls2 := [(4, .int (0 : Int32)), (3, .int (-1 : Int32)), (0, .ref a0), (1, .int x1), (2, .int x2)]) K d_c10_best_38 rfl rfl ?_
          refine g_iconst (v := 0) K d_c10_best_40 (by decide) ?_
          refine g_istore (ls2 := [(5, .int (0 : Int32)), (4, .int (0 : Int32)), (3, .int (-1 : Int32)), (0, .ref a0), (1, .int x1), (2, .int x2)]) K d_c10_best_41 rfl rfl ?_
          obtain ⟨o28, e_o28, hy⟩ := gBd hy
          refine g_sub (ls2 := [(0, .ref a0), (1, .int x1), (2, .int x2), (3, .int (-1 : Int32)), (4, .int (0 : Int32)), (5, .int (0 : Int32))]) [3, 4, 5, 2, 1, 0] rfl ?_
          refine wlp_c10_best_43 hx K a0 x1 x2 N (-1 : Int32) (0 : Int32) (0 : Int32) h o28 e_o28 ?_
          refine g_iload_n K d_c10_best_139 1 rfl ?_
          obtain ⟨t30, e_t30, hy⟩ := gBd hy
          have hJ31 : gG M X 7 0 0 156 [] [.int t30.1] t30.2 := by
            obtain rfl := Option.some.inj hy
            exact hret rfl _ _ _ d_c10_best_156
          refine g_if_ge K d_c10_best_140 (fun c29 => ?_) (fun c29 => ?_)
          · rw [if_pos c29] at e_t30
            refine g_aload_n K d_c10_best_148 0 rfl ?_
            refine g_iload_n K d_c10_best_149 1 rfl ?_
            refine g_iload K d_c10_best_150 2 rfl ?_
            refine g_i2l K d_c10_best_152 ?_
            obtain ⟨q32, e_q32, e_t30⟩ := gBd e_t30
            refine g_callVi (rest := []) K hx ly_c10_tellOne kv_c10_261 d_c10_best_153 (ct_c10_tellOne M.2.1 X hx N a0 o28.1 o28.2.1.toInt64 o28.2.2 q32 e_q32) rfl rfl (Nat.le_of_ble_eq_true rfl) (gDep rfl) ⟨Nat.le_refl 0, Nat.le_refl 0⟩ ?_
            refine g_sub (ls2 := []) [] rfl ?_
            obtain rfl := Option.some.inj e_t30
            exact hJ31
          · rw [if_neg c29] at e_t30
            refine g_bipush (v := (-2)) K d_c10_best_143 (by decide) ?_
            refine g_goto K d_c10_best_145 ?_
            refine g_sub (ls2 := []) [] rfl ?_
            obtain rfl := Option.some.inj e_t30
            exact hJ31
        · rw [if_neg c7] at hy
          refine g_bipush (v := (-2)) K d_c10_best_32 (by decide) ?_
          obtain rfl := Option.some.inj hy
          exact hret rfl _ _ _ d_c10_best_34
      · rw [if_pos c4] at hy
        refine g_iconst (v := (-1)) K d_c10_best_18 (by decide) ?_
        obtain rfl := Option.some.inj hy
        exact hret rfl _ _ _ d_c10_best_19
-- c10 longest
theorem d_c10_longest_0 : gD b_c10_longest 0 (.aload_n 0) 1 1 := ⟨by decide +kernel, rfl⟩
theorem d_c10_longest_1 : gD b_c10_longest 1 (.getfield 26) 3 4 := ⟨by decide +kernel, rfl⟩
theorem d_c10_longest_4 : gD b_c10_longest 4 (.iload_n 1) 1 5 := ⟨by decide +kernel, rfl⟩
theorem d_c10_longest_5 : gD b_c10_longest 5 (.invokevirtual 209) 3 8 := ⟨by decide +kernel, rfl⟩
theorem d_c10_longest_8 : gJ b_c10_longest 8 (.ifCond .eq 21) 3 21 11 29 := ⟨by decide +kernel, rfl, by decide⟩
theorem d_c10_longest_11 : gD b_c10_longest 11 (.aload_n 0) 1 12 := ⟨by decide +kernel, rfl⟩
theorem d_c10_longest_12 : gD b_c10_longest 12 (.getfield 26) 3 15 := ⟨by decide +kernel, rfl⟩
theorem d_c10_longest_15 : gD b_c10_longest 15 (.iload_n 2) 1 16 := ⟨by decide +kernel, rfl⟩
theorem d_c10_longest_16 : gD b_c10_longest 16 (.invokevirtual 171) 3 19 := ⟨by decide +kernel, rfl⟩
theorem d_c10_longest_19 : gJ b_c10_longest 19 (.ifCond .eq 10) 3 10 22 29 := ⟨by decide +kernel, rfl, by decide⟩
theorem d_c10_longest_22 : gD b_c10_longest 22 (.iload_n 3) 1 23 := ⟨by decide +kernel, rfl⟩
theorem d_c10_longest_23 : gD b_c10_longest 23 (.invokestatic 294) 3 26 := ⟨by decide +kernel, rfl⟩
theorem d_c10_longest_26 : gJ b_c10_longest 26 (.ifCond .ne 5) 3 5 29 31 := ⟨by decide +kernel, rfl, by decide⟩
theorem d_c10_longest_29 : gD b_c10_longest 29 (.iconst (-1)) 1 30 := ⟨by decide +kernel, rfl⟩
theorem d_c10_longest_30 : gD b_c10_longest 30 .ireturn 1 31 := ⟨by decide +kernel, rfl⟩
theorem d_c10_longest_31 : gD b_c10_longest 31 (.aload_n 0) 1 32 := ⟨by decide +kernel, rfl⟩
theorem d_c10_longest_32 : gD b_c10_longest 32 (.getfield 33) 3 35 := ⟨by decide +kernel, rfl⟩
theorem d_c10_longest_35 : gD b_c10_longest 35 (.getfield 132) 3 38 := ⟨by decide +kernel, rfl⟩
theorem d_c10_longest_38 : gD b_c10_longest 38 (.bipush 8) 2 40 := ⟨by decide +kernel, rfl⟩
theorem d_c10_longest_40 : gJ b_c10_longest 40 (.if_icmp .ge 14) 3 14 43 54 := ⟨by decide +kernel, rfl, by decide⟩
theorem d_c10_longest_43 : gD b_c10_longest 43 (.aload_n 0) 1 44 := ⟨by decide +kernel, rfl⟩
theorem d_c10_longest_44 : gD b_c10_longest 44 (.getfield 33) 3 47 := ⟨by decide +kernel, rfl⟩
theorem d_c10_longest_47 : gD b_c10_longest 47 (.iload_n 1) 1 48 := ⟨by decide +kernel, rfl⟩
theorem d_c10_longest_48 : gD b_c10_longest 48 (.invokevirtual 297) 3 51 := ⟨by decide +kernel, rfl⟩
theorem d_c10_longest_51 : gJ b_c10_longest 51 (.ifCond .lt 6) 3 6 54 57 := ⟨by decide +kernel, rfl, by decide⟩
theorem d_c10_longest_54 : gD b_c10_longest 54 (.bipush (-3)) 2 56 := ⟨by decide +kernel, rfl⟩
theorem d_c10_longest_56 : gD b_c10_longest 56 .ireturn 1 57 := ⟨by decide +kernel, rfl⟩
theorem d_c10_longest_57 : gD b_c10_longest 57 (.bipush 9) 2 59 := ⟨by decide +kernel, rfl⟩
theorem d_c10_longest_59 : gD b_c10_longest 59 (.istore 4) 2 61 := ⟨by decide +kernel, rfl⟩
theorem d_c10_longest_61 : gD b_c10_longest 61 (.iload 4) 2 63 := ⟨by decide +kernel, rfl⟩
theorem d_c10_longest_63 : gD b_c10_longest 63 (.iconst 1) 1 64 := ⟨by decide +kernel, rfl⟩
theorem d_c10_longest_64 : gJ b_c10_longest 64 (.if_icmp .lt 72) 3 72 67 136 := ⟨by decide +kernel, rfl, by decide⟩
theorem d_c10_longest_67 : gD b_c10_longest 67 (.aload_n 0) 1 68 := ⟨by decide +kernel, rfl⟩
theorem d_c10_longest_68 : gD b_c10_longest 68 (.getfield 40) 3 71 := ⟨by decide +kernel, rfl⟩
theorem d_c10_longest_71 : gD b_c10_longest 71 (.aload_n 0) 1 72 := ⟨by decide +kernel, rfl⟩
theorem d_c10_longest_72 : gD b_c10_longest 72 (.getfield 33) 3 75 := ⟨by decide +kernel, rfl⟩
theorem d_c10_longest_75 : gD b_c10_longest 75 (.invokevirtual 124) 3 78 := ⟨by decide +kernel, rfl⟩
theorem d_c10_longest_78 : gD b_c10_longest 78 (.aload_n 0) 1 79 := ⟨by decide +kernel, rfl⟩
theorem d_c10_longest_79 : gD b_c10_longest 79 (.getfield 40) 3 82 := ⟨by decide +kernel, rfl⟩
theorem d_c10_longest_82 : gD b_c10_longest 82 (.iload_n 1) 1 83 := ⟨by decide +kernel, rfl⟩
theorem d_c10_longest_83 : gD b_c10_longest 83 (.iload 4) 2 85 := ⟨by decide +kernel, rfl⟩
theorem d_c10_longest_85 : gD b_c10_longest 85 (.iconst 1) 1 86 := ⟨by decide +kernel, rfl⟩
theorem d_c10_longest_86 : gD b_c10_longest 86 (.invokevirtual 212) 3 89 := ⟨by decide +kernel, rfl⟩
theorem d_c10_longest_89 : gD b_c10_longest 89 (.istore 5) 2 91 := ⟨by decide +kernel, rfl⟩
theorem d_c10_longest_91 : gD b_c10_longest 91 (.aload_n 0) 1 92 := ⟨by decide +kernel, rfl⟩
theorem d_c10_longest_92 : gD b_c10_longest 92 (.iload_n 2) 1 93 := ⟨by decide +kernel, rfl⟩
theorem d_c10_longest_93 : gD b_c10_longest 93 (.iload_n 3) 1 94 := ⟨by decide +kernel, rfl⟩
theorem d_c10_longest_94 : gD b_c10_longest 94 (.invokevirtual 300) 3 97 := ⟨by decide +kernel, rfl⟩
theorem d_c10_longest_97 : gJ b_c10_longest 97 (.ifCond .eq 33) 3 33 100 130 := ⟨by decide +kernel, rfl, by decide⟩
theorem d_c10_longest_100 : gD b_c10_longest 100 (.aload_n 0) 1 101 := ⟨by decide +kernel, rfl⟩
theorem d_c10_longest_101 : gD b_c10_longest 101 (.getfield 40) 3 104 := ⟨by decide +kernel, rfl⟩
theorem d_c10_longest_104 : gD b_c10_longest 104 (.iload 5) 2 106 := ⟨by decide +kernel, rfl⟩
theorem d_c10_longest_106 : gD b_c10_longest 106 (.invokevirtual 138) 3 109 := ⟨by decide +kernel, rfl⟩
theorem d_c10_longest_109 : gJ b_c10_longest 109 (.ifCond .eq 21) 3 21 112 130 := ⟨by decide +kernel, rfl, by decide⟩
theorem d_c10_longest_112 : gD b_c10_longest 112 (.aload_n 0) 1 113 := ⟨by decide +kernel, rfl⟩
theorem d_c10_longest_113 : gD b_c10_longest 113 (.iload 4) 2 115 := ⟨by decide +kernel, rfl⟩
theorem d_c10_longest_115 : gD b_c10_longest 115 (.aload_n 0) 1 116 := ⟨by decide +kernel, rfl⟩
theorem d_c10_longest_116 : gD b_c10_longest 116 (.getfield 40) 3 119 := ⟨by decide +kernel, rfl⟩
theorem d_c10_longest_119 : gD b_c10_longest 119 (.getfield 157) 3 122 := ⟨by decide +kernel, rfl⟩
theorem d_c10_longest_122 : gD b_c10_longest 122 (.iload 5) 2 124 := ⟨by decide +kernel, rfl⟩
theorem d_c10_longest_124 : gD b_c10_longest 124 .iaload 1 125 := ⟨by decide +kernel, rfl⟩
theorem d_c10_longest_125 : gD b_c10_longest 125 .i2l 1 126 := ⟨by decide +kernel, rfl⟩
theorem d_c10_longest_126 : gD b_c10_longest 126 (.invokevirtual 261) 3 129 := ⟨by decide +kernel, rfl⟩
theorem d_c10_longest_129 : gD b_c10_longest 129 .ireturn 1 130 := ⟨by decide +kernel, rfl⟩
theorem d_c10_longest_130 : gD b_c10_longest 130 (.iinc 4 (-1)) 3 133 := ⟨by decide +kernel, rfl⟩
theorem d_c10_longest_133 : gJ b_c10_longest 133 (.goto (-72)) 3 (-72) 136 61 := ⟨by decide +kernel, rfl, by decide⟩
theorem d_c10_longest_136 : gD b_c10_longest 136 (.bipush (-2)) 2 138 := ⟨by decide +kernel, rfl⟩
theorem d_c10_longest_138 : gD b_c10_longest 138 .ireturn 1 139 := ⟨by decide +kernel, rfl⟩
def lp_c10_longest_61 (N : Nat) (a0 : Nat) (x1 : Int32) (x2 : Int32) (x3 : Int32) : Nat → Int32 → gH → Option ((Int32 × gH) ⊕ (gH))
  | 0, _, _ => none
  | k + 1, x4, h =>
  if x4 < (1 : Int32) then
    some (.inr h)
  else
    (gfR h a0 10 5).bind fun v16 =>
    (gfR h a0 10 3).bind fun v17 =>
    (f_c7_take N v16 v17 h).bind fun q18 =>
    (gfR q18 a0 10 5).bind fun v19 =>
    (f_c7_sayOn N v19 x1 x4 (1 : Int32) q18).bind fun q20 =>
    (f_c10_drinksItsFill N a0 x2 x3 q20.2).bind fun q21 =>
    if q21.1 = 0 then
    lp_c10_longest_61 N a0 x1 x2 x3 k (x4 + (-1 : Int32)) q21.2
  else
    (gfR q21.2 a0 10 5).bind fun v23 =>
    (f_c7_has N v23 q20.1 q21.2).bind fun q24 =>
    if q24 = 0 then
    lp_c10_longest_61 N a0 x1 x2 x3 k (x4 + (-1 : Int32)) q21.2
  else
    (gfR q21.2 a0 10 5).bind fun v26 =>
    (gfR q21.2 v26 7 5).bind fun v27 =>
    (ga 0 q21.2 v27 q20.1).bind fun v28 =>
    (f_c10_tellOne N a0 x4 v28.toInt64 q21.2).bind fun q29 =>
    some (.inl (q29.1, q29.2))
def f_c10_longest (N : Nat) (a0 : Nat) (x1 : Int32) (x2 : Int32) (x3 : Int32) (h : gH) : Option (Int32 × gH) :=
  (gcl h a0 10).bind fun _ =>
  (gfR h a0 10 2).bind fun v1 =>
    (f_c1_hasField N v1 x1 h).bind fun q2 =>
    if q2 = 0 then
    some ((-1 : Int32), h)
  else
    (gfR h a0 10 2).bind fun v4 =>
    (f_c1_has N v4 x2 h).bind fun q5 =>
    if q5 = 0 then
    some ((-1 : Int32), h)
  else
    (f_c10_isTried N x3 h).bind fun q7 =>
    if q7 = 0 then
    some ((-1 : Int32), h)
  else
    (gfR h a0 10 3).bind fun v9 =>
    (gfI h v9 7 0).bind fun v10 =>
    if (8 : Int32) ≤ v10 then
    some ((-3 : Int32), h)
  else
    (gfR h a0 10 3).bind fun v12 =>
    (f_c7_wellOn N v12 x1 h).bind fun q13 =>
    if q13 < 0 then
    (lp_c10_longest_61 N a0 x1 x2 x3 N (9 : Int32) h).bind fun o30 => Sum.elim (fun r32 => some r32) (fun t31 =>
    some ((-2 : Int32), t31)) o30
  else
    some ((-3 : Int32), h)
set_option maxHeartbeats 4000000 in
set_option maxRecDepth 100000 in
theorem wlp_c10_longest_61 {M : gM} {X : gX} {N : Nat} (hx : gEx X = false) (K : gC M X gN10 b_c10_longest 6 (gRm (6 + N) 0 0)) (a0 : Nat) (x1 : Int32) (x2 : Int32) (x3 : Int32) : ∀ (k : Nat) (x4 : Int32) (h : gH) (o : (Int32 × gH) ⊕ (gH)), lp_c10_longest_61 N a0 x1 x2 x3 k x4 h = some o → (∀ t, o = .inr t → gG M X 6 0 0 136 [] [] t) → (∀ r, o = .inl r → (narrow .int (.int r.1) = .int r.1 → ∀ pc pc' ls, gD b_c10_longest pc .ireturn 1 pc' → gG M X 6 0 0 pc ls [.int r.1] r.2)) → gG M X 6 0 0 61 [(0, .ref a0), (1, .int x1), (2, .int x2), (3, .int x3), (4, .int x4)] [] h := by
  intro k
  induction k with
  | zero =>
    intro x4 h o hy
    rw [lp_c10_longest_61.eq_1] at hy
    cases hy
  | succ k ih =>
    intro x4 h o hy hE hR
    rw [lp_c10_longest_61.eq_2] at hy
    refine g_iload K d_c10_longest_61 4 rfl ?_
    refine g_iconst (v := 1) K d_c10_longest_63 (by decide) ?_
    refine g_icmp_lt K d_c10_longest_64 (fun c15 => ?_) (fun c15 => ?_)
    · rw [if_pos c15] at hy
      refine g_sub (ls2 := []) [] rfl ?_
      obtain rfl := Option.some.inj hy
      exact hE _ rfl
    · rw [if_neg c15] at hy
      refine g_aload_n K d_c10_longest_67 0 rfl ?_
      obtain ⟨v16, e_v16, hy⟩ := gBd hy
      refine g_getR K fl_c10_40 d_c10_longest_68 e_v16 ?_
      refine g_aload_n K d_c10_longest_71 0 rfl ?_
      obtain ⟨v17, e_v17, hy⟩ := gBd hy
      refine g_getR K fl_c10_33 d_c10_longest_72 e_v17 ?_
      obtain ⟨q18, e_q18, hy⟩ := gBd hy
      refine g_callVv (rest := []) K hx ly_c7_take kv_c10_124 d_c10_longest_75 (ct_c7_take M.2.1 X hx N v16 v17 h q18 e_q18) rfl rfl (Nat.le_of_ble_eq_true rfl) (gDep rfl) ⟨Nat.le_refl 0, Nat.le_refl 0⟩ ?_
      refine g_aload_n K d_c10_longest_78 0 rfl ?_
      obtain ⟨v19, e_v19, hy⟩ := gBd hy
      refine g_getR K fl_c10_40 d_c10_longest_79 e_v19 ?_
      refine g_iload_n K d_c10_longest_82 1 rfl ?_
      refine g_iload K d_c10_longest_83 4 rfl ?_
      refine g_iconst (v := 1) K d_c10_longest_85 (by decide) ?_
      obtain ⟨q20, e_q20, hy⟩ := gBd hy
      refine g_callVi (rest := []) K hx ly_c7_sayOn kv_c10_212 d_c10_longest_86 (ct_c7_sayOn M.2.1 X hx N v19 x1 x4 (1 : Int32) q18 q20 e_q20) rfl rfl (Nat.le_of_ble_eq_true rfl) (gDep rfl) ⟨Nat.le_refl 0, Nat.le_refl 0⟩ ?_
      refine g_istore (ls2 := [(5, .int q20.1), (0, .ref a0), (1, .int x1), (2, .int x2), (3, .int x3), (4, .int x4)]) K d_c10_longest_89 rfl rfl ?_
      refine g_aload_n K d_c10_longest_91 1 rfl ?_
      refine g_iload_n K d_c10_longest_92 3 rfl ?_
      refine g_iload_n K d_c10_longest_93 4 rfl ?_
      obtain ⟨q21, e_q21, hy⟩ := gBd hy
      refine g_callVi (rest := []) K hx ly_c10_drinksItsFill kv_c10_300 d_c10_longest_94 (ct_c10_drinksItsFill M.2.1 X hx N a0 x2 x3 q20.2 q21 e_q21) rfl rfl (Nat.le_of_ble_eq_true rfl) (gDep rfl) ⟨Nat.le_refl 0, Nat.le_refl 0⟩ ?_
      refine g_if_eq K d_c10_longest_97 (fun c22 => ?_) (fun c22 => ?_)
      · rw [if_pos c22] at hy
        refine g_iinc (ls2 := [(4, .int (x4 + (-1 : Int32))), (5, .int q20.1), (0, .ref a0), (1, .int x1), (2, .int x2), (3, .int x3)]) (v := (-1)) K d_c10_longest_130 5 rfl (by decide) rfl rfl ?_
        refine g_goto K d_c10_longest_133 ?_
        refine g_sub (ls2 := [(0, .ref a0), (1, .int x1), (2, .int x2), (3, .int x3), (4, .int (x4 + (-1 : Int32)))]) [2, 3, 4, 5, 0] rfl ?_
        exact ih _ _ _ hy hE hR
      · rw [if_neg c22] at hy
        refine g_aload_n K d_c10_longest_100 1 rfl ?_
        obtain ⟨v23, e_v23, hy⟩ := gBd hy
        refine g_getR K fl_c10_40 d_c10_longest_101 e_v23 ?_
        refine g_iload K d_c10_longest_104 0 rfl ?_
        obtain ⟨q24, e_q24, hy⟩ := gBd hy
        refine g_callVi (rest := []) K hx ly_c7_has kv_c10_138 d_c10_longest_106 (ct_c7_has M.2.1 X hx N v23 q20.1 q21.2 q24 e_q24) rfl rfl (Nat.le_of_ble_eq_true rfl) (gDep rfl) ⟨Nat.le_refl 0, Nat.le_refl 0⟩ ?_
        refine g_if_eq K d_c10_longest_109 (fun c25 => ?_) (fun c25 => ?_)
        · rw [if_pos c25] at hy
          refine g_iinc (ls2 := [(4, .int (x4 + (-1 : Int32))), (5, .int q20.1), (0, .ref a0), (1, .int x1), (2, .int x2), (3, .int x3)]) (v := (-1)) K d_c10_longest_130 5 rfl (by decide) rfl rfl ?_
          refine g_goto K d_c10_longest_133 ?_
          refine g_sub (ls2 := [(0, .ref a0), (1, .int x1), (2, .int x2), (3, .int x3), (4, .int (x4 + (-1 : Int32)))]) [2, 3, 4, 5, 0] rfl ?_
          exact ih _ _ _ hy hE hR
        · rw [if_neg c25] at hy
          refine g_aload_n K d_c10_longest_112 1 rfl ?_
          refine g_iload K d_c10_longest_113 5 rfl ?_
          refine g_aload_n K d_c10_longest_115 1 rfl ?_
          obtain ⟨v26, e_v26, hy⟩ := gBd hy
          refine g_getR K fl_c10_40 d_c10_longest_116 e_v26 ?_
          obtain ⟨v27, e_v27, hy⟩ := gBd hy
          refine g_getR K fl_c10_157 d_c10_longest_119 e_v27 ?_
          refine g_iload K d_c10_longest_122 0 rfl ?_
          obtain ⟨v28, e_v28, hy⟩ := gBd hy
          refine g_iald K d_c10_longest_124 e_v28 ?_
          refine g_i2l K d_c10_longest_125 ?_
          obtain ⟨q29, e_q29, hy⟩ := gBd hy
          refine g_callVi (rest := []) K hx ly_c10_tellOne kv_c10_261 d_c10_longest_126 (ct_c10_tellOne M.2.1 X hx N a0 x4 v28.toInt64 q21.2 q29 e_q29) rfl rfl (Nat.le_of_ble_eq_true rfl) (gDep rfl) ⟨Nat.le_refl 0, Nat.le_refl 0⟩ ?_
          obtain rfl := Option.some.inj hy
          exact hR _ rfl rfl _ _ _ d_c10_longest_129
set_option maxHeartbeats 4000000 in
set_option maxRecDepth 100000 in
theorem ct_c10_longest (l : Launch) (X : gX) (hx : gEx X = false) (N : Nat) (a0 : Nat) (x1 : Int32) (x2 : Int32) (x3 : Int32) (h : gH) (q : Int32 × gH) (hy : f_c10_longest N a0 x1 x2 x3 h = some q) : gRc y_c10_longest h a0 ∧ gMi l X y_c10_longest b_c10_longest 6 .int (6 + N) 0 0 [.ref a0, .int x1, .int x2, .int x3] h q.1 q.2 := by
  unfold f_c10_longest at hy
  obtain ⟨u0, e_u0, hy⟩ := gBd hy
  cases u0
  refine ⟨Or.inl ⟨10, _, _, e_u0, rfl⟩, gMet_i (lsx := [(0, .ref a0), (1, .int x1), (2, .int x2), (3, .int x3)]) (by decide) rfl rfl ?_⟩
  intro M hMl K hret
  subst hMl
  refine g_aload_n K d_c10_longest_0 0 rfl ?_
  obtain ⟨v1, e_v1, hy⟩ := gBd hy
  refine g_getR K fl_c10_26 d_c10_longest_1 e_v1 ?_
  refine g_iload_n K d_c10_longest_4 1 rfl ?_
  obtain ⟨q2, e_q2, hy⟩ := gBd hy
  refine g_callVi (rest := []) K hx ly_c1_hasField kv_c10_209 d_c10_longest_5 (ct_c1_hasField M.2.1 X hx N v1 x1 h q2 e_q2) rfl rfl (Nat.le_of_ble_eq_true rfl) (gDep rfl) ⟨Nat.le_refl 0, Nat.le_refl 0⟩ ?_
  refine g_if_eq K d_c10_longest_8 (fun c3 => ?_) (fun c3 => ?_)
  · rw [if_pos c3] at hy
    refine g_iconst (v := (-1)) K d_c10_longest_29 (by decide) ?_
    obtain rfl := Option.some.inj hy
    exact hret rfl _ _ _ d_c10_longest_30
  · rw [if_neg c3] at hy
    refine g_aload_n K d_c10_longest_11 0 rfl ?_
    obtain ⟨v4, e_v4, hy⟩ := gBd hy
    refine g_getR K fl_c10_26 d_c10_longest_12 e_v4 ?_
    refine g_iload_n K d_c10_longest_15 2 rfl ?_
    obtain ⟨q5, e_q5, hy⟩ := gBd hy
    refine g_callVi (rest := []) K hx ly_c1_has kv_c10_171 d_c10_longest_16 (ct_c1_has M.2.1 X hx N v4 x2 h q5 e_q5) rfl rfl (Nat.le_of_ble_eq_true rfl) (gDep rfl) ⟨Nat.le_refl 0, Nat.le_refl 0⟩ ?_
    refine g_if_eq K d_c10_longest_19 (fun c6 => ?_) (fun c6 => ?_)
    · rw [if_pos c6] at hy
      refine g_iconst (v := (-1)) K d_c10_longest_29 (by decide) ?_
      obtain rfl := Option.some.inj hy
      exact hret rfl _ _ _ d_c10_longest_30
    · rw [if_neg c6] at hy
      refine g_iload_n K d_c10_longest_22 3 rfl ?_
      obtain ⟨q7, e_q7, hy⟩ := gBd hy
      refine g_callSi (rest := []) K hx ly_c10_isTried ks_c10_294 d_c10_longest_23 (ct_c10_isTried M.2.1 X hx N x3 h q7 e_q7) rfl rfl (Nat.le_of_ble_eq_true rfl) (gDep rfl) ⟨Nat.le_refl 0, Nat.le_refl 0⟩ ?_
      refine g_if_ne K d_c10_longest_26 (fun c8 => ?_) (fun c8 => ?_)
      · rw [if_neg c8] at hy
        refine g_aload_n K d_c10_longest_31 0 rfl ?_
        obtain ⟨v9, e_v9, hy⟩ := gBd hy
        refine g_getR K fl_c10_33 d_c10_longest_32 e_v9 ?_
        obtain ⟨v10, e_v10, hy⟩ := gBd hy
        refine g_getI K fl_c10_132 d_c10_longest_35 e_v10 ?_
        refine g_bipush (v := 8) K d_c10_longest_38 (by decide) ?_
        refine g_icmp_ge K d_c10_longest_40 (fun c11 => ?_) (fun c11 => ?_)
        · rw [if_pos c11] at hy
          refine g_bipush (v := (-3)) K d_c10_longest_54 (by decide) ?_
          obtain rfl := Option.some.inj hy
          exact hret rfl _ _ _ d_c10_longest_56
        · rw [if_neg c11] at hy
          refine g_aload_n K d_c10_longest_43 0 rfl ?_
          obtain ⟨v12, e_v12, hy⟩ := gBd hy
          refine g_getR K fl_c10_33 d_c10_longest_44 e_v12 ?_
          refine g_iload_n K d_c10_longest_47 1 rfl ?_
          obtain ⟨q13, e_q13, hy⟩ := gBd hy
          refine g_callVi (rest := []) K hx ly_c7_wellOn kv_c10_297 d_c10_longest_48 (ct_c7_wellOn M.2.1 X hx N v12 x1 h q13 e_q13) rfl rfl (Nat.le_of_ble_eq_true rfl) (gDep rfl) ⟨Nat.le_refl 0, Nat.le_refl 0⟩ ?_
          refine g_if_lt K d_c10_longest_51 (fun c14 => ?_) (fun c14 => ?_)
          · rw [if_pos c14] at hy
            refine g_bipush (v := 9) K d_c10_longest_57 (by decide) ?_
            refine g_istore (ls2 := [(4, .int (9 : Int32)), (0, .ref a0), (1, .int x1), (2, .int x2), (3, .int x3)]) K d_c10_longest_59 rfl rfl ?_
            obtain ⟨o30, e_o30, hy⟩ := gBd hy
            refine g_sub (ls2 := [(0, .ref a0), (1, .int x1), (2, .int x2), (3, .int x3), (4, .int (9 : Int32))]) [1, 2, 3, 4, 0] rfl ?_
            refine wlp_c10_longest_61 hx K a0 x1 x2 x3 N (9 : Int32) h o30 e_o30 (fun t31 e_t31 => ?_) (fun r32 e_r32 => ?_)
            · subst e_t31
              simp only [Sum.elim_inr] at hy
              refine g_bipush (v := (-2)) K d_c10_longest_136 (by decide) ?_
              obtain rfl := Option.some.inj hy
              exact hret rfl _ _ _ d_c10_longest_138
            · subst e_r32
              simp only [Sum.elim_inl] at hy
              intro hn pc9 pc9' ls9 hd9
              obtain rfl := Option.some.inj hy
              exact hret hn _ _ _ hd9
          · rw [if_neg c14] at hy
            refine g_bipush (v := (-3)) K d_c10_longest_54 (by decide) ?_
            obtain rfl := Option.some.inj hy
            exact hret rfl _ _ _ d_c10_longest_56
      · rw [if_pos c8] at hy
        refine g_iconst (v := (-1)) K d_c10_longest_29 (by decide) ?_
        obtain rfl := Option.some.inj hy
        exact hret rfl _ _ _ d_c10_longest_30
-- c10 readSpareRule
theorem d_c10_readSpareRule_0 : gD b_c10_readSpareRule 0 (.aload_n 0) 1 1 := ⟨by decide +kernel, rfl⟩
theorem d_c10_readSpareRule_1 : gD b_c10_readSpareRule 1 (.getfield 10) 3 4 := ⟨by decide +kernel, rfl⟩
theorem d_c10_readSpareRule_4 : gD b_c10_readSpareRule 4 (.getfield 100) 3 7 := ⟨by decide +kernel, rfl⟩
theorem d_c10_readSpareRule_7 : gJ b_c10_readSpareRule 7 (.ifCond .ne 20) 3 20 10 27 := ⟨by decide +kernel, rfl, by decide⟩
theorem d_c10_readSpareRule_10 : gD b_c10_readSpareRule 10 (.aload_n 0) 1 11 := ⟨by decide +kernel, rfl⟩
theorem d_c10_readSpareRule_11 : gD b_c10_readSpareRule 11 (.getfield 85) 3 14 := ⟨by decide +kernel, rfl⟩
theorem d_c10_readSpareRule_14 : gD b_c10_readSpareRule 14 (.getstatic 88) 3 17 := ⟨by decide +kernel, rfl⟩
theorem d_c10_readSpareRule_17 : gD b_c10_readSpareRule 17 (.getstatic 88) 3 20 := ⟨by decide +kernel, rfl⟩
theorem d_c10_readSpareRule_20 : gD b_c10_readSpareRule 20 .arraylength 1 21 := ⟨by decide +kernel, rfl⟩
theorem d_c10_readSpareRule_21 : gD b_c10_readSpareRule 21 (.invokevirtual 92) 3 24 := ⟨by decide +kernel, rfl⟩
theorem d_c10_readSpareRule_24 : gJ b_c10_readSpareRule 24 (.goto 24) 3 24 27 48 := ⟨by decide +kernel, rfl, by decide⟩
theorem d_c10_readSpareRule_27 : gD b_c10_readSpareRule 27 (.aload_n 0) 1 28 := ⟨by decide +kernel, rfl⟩
theorem d_c10_readSpareRule_28 : gD b_c10_readSpareRule 28 (.getfield 85) 3 31 := ⟨by decide +kernel, rfl⟩
theorem d_c10_readSpareRule_31 : gD b_c10_readSpareRule 31 (.aload_n 0) 1 32 := ⟨by decide +kernel, rfl⟩
theorem d_c10_readSpareRule_32 : gD b_c10_readSpareRule 32 (.getfield 10) 3 35 := ⟨by decide +kernel, rfl⟩
theorem d_c10_readSpareRule_35 : gD b_c10_readSpareRule 35 (.getfield 437) 3 38 := ⟨by decide +kernel, rfl⟩
theorem d_c10_readSpareRule_38 : gD b_c10_readSpareRule 38 (.aload_n 0) 1 39 := ⟨by decide +kernel, rfl⟩
theorem d_c10_readSpareRule_39 : gD b_c10_readSpareRule 39 (.getfield 10) 3 42 := ⟨by decide +kernel, rfl⟩
theorem d_c10_readSpareRule_42 : gD b_c10_readSpareRule 42 (.getfield 100) 3 45 := ⟨by decide +kernel, rfl⟩
theorem d_c10_readSpareRule_45 : gD b_c10_readSpareRule 45 (.invokevirtual 92) 3 48 := ⟨by decide +kernel, rfl⟩
theorem d_c10_readSpareRule_48 : gD b_c10_readSpareRule 48 (.istore_n 1) 1 49 := ⟨by decide +kernel, rfl⟩
theorem d_c10_readSpareRule_49 : gD b_c10_readSpareRule 49 (.aload_n 0) 1 50 := ⟨by decide +kernel, rfl⟩
theorem d_c10_readSpareRule_50 : gD b_c10_readSpareRule 50 (.getfield 10) 3 53 := ⟨by decide +kernel, rfl⟩
theorem d_c10_readSpareRule_53 : gD b_c10_readSpareRule 53 (.iconst 0) 1 54 := ⟨by decide +kernel, rfl⟩
theorem d_c10_readSpareRule_54 : gD b_c10_readSpareRule 54 (.invokevirtual 104) 3 57 := ⟨by decide +kernel, rfl⟩
theorem d_c10_readSpareRule_57 : gD b_c10_readSpareRule 57 .pop 1 58 := ⟨by decide +kernel, rfl⟩
theorem d_c10_readSpareRule_58 : gD b_c10_readSpareRule 58 (.iload_n 1) 1 59 := ⟨by decide +kernel, rfl⟩
theorem d_c10_readSpareRule_59 : gD b_c10_readSpareRule 59 .ireturn 1 60 := ⟨by decide +kernel, rfl⟩
def f_c10_readSpareRule (N : Nat) (a0 : Nat) (h : gH) : Option (Int32 × gH) :=
  (gcl h a0 10).bind fun _ =>
  (gfR h a0 10 0).bind fun v1 =>
    (gfI h v1 8 1).bind fun v2 =>
    (show Option (Int32 × gH) from if v2 = 0 then
    (gfR h a0 10 12).bind fun v14 =>
    (gn h 1).bind fun v15 =>
    (f_c6_read N v14 1 v15 h).bind fun q16 =>
    some (q16.1, q16.2)
  else
    (gfR h a0 10 12).bind fun v8 =>
    (gfR h a0 10 0).bind fun v9 =>
    (gfR h v9 8 0).bind fun v10 =>
    (gfR h a0 10 0).bind fun v11 =>
    (gfI h v11 8 1).bind fun v12 =>
    (f_c6_read N v8 v10 v12 h).bind fun q13 =>
    some (q13.1, q13.2)).bind fun t4 =>
    (gfR t4.2 a0 10 0).bind fun v6 =>
    (f_c8_cutTo N v6 (0 : Int32) t4.2).bind fun q7 =>
    some (t4.1, q7.2)
set_option maxHeartbeats 4000000 in
set_option maxRecDepth 100000 in
theorem ct_c10_readSpareRule (l : Launch) (X : gX) (hx : gEx X = false) (N : Nat) (a0 : Nat) (h : gH) (q : Int32 × gH) (hy : f_c10_readSpareRule N a0 h = some q) : gRc y_c10_readSpareRule h a0 ∧ gMi l X y_c10_readSpareRule b_c10_readSpareRule 2 .int (6 + N) 0 0 [.ref a0] h q.1 q.2 := by
  unfold f_c10_readSpareRule at hy
  obtain ⟨u0, e_u0, hy⟩ := gBd hy
  cases u0
  refine ⟨Or.inl ⟨10, _, _, e_u0, rfl⟩, gMet_i (lsx := [(0, .ref a0)]) (by decide) rfl rfl ?_⟩
  intro M hMl K hret
  subst hMl
  refine g_aload_n K d_c10_readSpareRule_0 0 rfl ?_
  obtain ⟨v1, e_v1, hy⟩ := gBd hy
  refine g_getR K fl_c10_10 d_c10_readSpareRule_1 e_v1 ?_
  obtain ⟨v2, e_v2, hy⟩ := gBd hy
  refine g_getI K fl_c10_100 d_c10_readSpareRule_4 e_v2 ?_
  obtain ⟨t4, e_t4, hy⟩ := gBd hy
  have hJ5 : gG M X 2 0 0 48 [(0, .ref a0)] [.int t4.1] t4.2 := by
    refine g_istore_n (ls2 := [(1, .int t4.1), (0, .ref a0)]) K d_c10_readSpareRule_48 rfl rfl ?_
    refine g_aload_n K d_c10_readSpareRule_49 1 rfl ?_
    obtain ⟨v6, e_v6, hy⟩ := gBd hy
    refine g_getR K fl_c10_10 d_c10_readSpareRule_50 e_v6 ?_
    refine g_iconst (v := 0) K d_c10_readSpareRule_53 (by decide) ?_
    obtain ⟨q7, e_q7, hy⟩ := gBd hy
    refine g_callVi (rest := []) K hx ly_c8_cutTo kv_c10_104 d_c10_readSpareRule_54 (ct_c8_cutTo M.2.1 X hx N v6 (0 : Int32) t4.2 q7 e_q7) rfl rfl (Nat.le_of_ble_eq_true rfl) (gDep rfl) ⟨Nat.le_refl 0, Nat.le_refl 0⟩ ?_
    refine g_pop K d_c10_readSpareRule_57 rfl ?_
    refine g_iload_n K d_c10_readSpareRule_58 0 rfl ?_
    obtain rfl := Option.some.inj hy
    exact hret rfl _ _ _ d_c10_readSpareRule_59
  refine g_if_ne K d_c10_readSpareRule_7 (fun c3 => ?_) (fun c3 => ?_)
  · rw [if_neg c3] at e_t4
    refine g_aload_n K d_c10_readSpareRule_27 0 rfl ?_
    obtain ⟨v8, e_v8, e_t4⟩ := gBd e_t4
    refine g_getR K fl_c10_85 d_c10_readSpareRule_28 e_v8 ?_
    refine g_aload_n K d_c10_readSpareRule_31 0 rfl ?_
    obtain ⟨v9, e_v9, e_t4⟩ := gBd e_t4
    refine g_getR K fl_c10_10 d_c10_readSpareRule_32 e_v9 ?_
    obtain ⟨v10, e_v10, e_t4⟩ := gBd e_t4
    refine g_getR K fl_c10_437 d_c10_readSpareRule_35 e_v10 ?_
    refine g_aload_n K d_c10_readSpareRule_38 0 rfl ?_
    obtain ⟨v11, e_v11, e_t4⟩ := gBd e_t4
    refine g_getR K fl_c10_10 d_c10_readSpareRule_39 e_v11 ?_
    obtain ⟨v12, e_v12, e_t4⟩ := gBd e_t4
    refine g_getI K fl_c10_100 d_c10_readSpareRule_42 e_v12 ?_
    obtain ⟨q13, e_q13, e_t4⟩ := gBd e_t4
    refine g_callVi (rest := []) K hx ly_c6_read kv_c10_92 d_c10_readSpareRule_45 (ct_c6_read M.2.1 X hx N v8 v10 v12 h q13 e_q13) rfl rfl (Nat.le_of_ble_eq_true rfl) (gDep rfl) ⟨Nat.le_refl 0, Nat.le_refl 0⟩ ?_
    obtain rfl := Option.some.inj e_t4
    exact hJ5
  · rw [if_pos c3] at e_t4
    refine g_aload_n K d_c10_readSpareRule_10 0 rfl ?_
    obtain ⟨v14, e_v14, e_t4⟩ := gBd e_t4
    refine g_getR K fl_c10_85 d_c10_readSpareRule_11 e_v14 ?_
    refine g_norule K d_c10_readSpareRule_14 (gTk_2 34 rfl rfl) ?_
    refine g_norule K d_c10_readSpareRule_17 (gTk_2 34 rfl rfl) ?_
    obtain ⟨v15, e_v15, e_t4⟩ := gBd e_t4
    refine g_alen K d_c10_readSpareRule_20 e_v15 ?_
    obtain ⟨q16, e_q16, e_t4⟩ := gBd e_t4
    refine g_callVi (rest := []) K hx ly_c6_read kv_c10_92 d_c10_readSpareRule_21 (ct_c6_read M.2.1 X hx N v14 1 v15 h q16 e_q16) rfl rfl (Nat.le_of_ble_eq_true rfl) (gDep rfl) ⟨Nat.le_refl 0, Nat.le_refl 0⟩ ?_
    refine g_goto K d_c10_readSpareRule_24 ?_
    obtain rfl := Option.some.inj e_t4
    exact hJ5
-- c10 route
theorem d_c10_route_0 : gD b_c10_route 0 (.aload_n 0) 1 1 := ⟨by decide +kernel, rfl⟩
theorem d_c10_route_1 : gD b_c10_route 1 (.getfield 33) 3 4 := ⟨by decide +kernel, rfl⟩
theorem d_c10_route_4 : gD b_c10_route 4 (.iload_n 1) 1 5 := ⟨by decide +kernel, rfl⟩
theorem d_c10_route_5 : gD b_c10_route 5 (.invokevirtual 138) 3 8 := ⟨by decide +kernel, rfl⟩
theorem d_c10_route_8 : gJ b_c10_route 8 (.ifCond .eq 21) 3 21 11 29 := ⟨by decide +kernel, rfl, by decide⟩
theorem d_c10_route_11 : gD b_c10_route 11 (.aload_n 0) 1 12 := ⟨by decide +kernel, rfl⟩
theorem d_c10_route_12 : gD b_c10_route 12 (.getfield 33) 3 15 := ⟨by decide +kernel, rfl⟩
theorem d_c10_route_15 : gD b_c10_route 15 (.iload_n 2) 1 16 := ⟨by decide +kernel, rfl⟩
theorem d_c10_route_16 : gD b_c10_route 16 (.invokevirtual 138) 3 19 := ⟨by decide +kernel, rfl⟩
theorem d_c10_route_19 : gJ b_c10_route 19 (.ifCond .eq 10) 3 10 22 29 := ⟨by decide +kernel, rfl, by decide⟩
theorem d_c10_route_22 : gD b_c10_route 22 (.iload_n 3) 1 23 := ⟨by decide +kernel, rfl⟩
theorem d_c10_route_23 : gD b_c10_route 23 (.invokestatic 271) 3 26 := ⟨by decide +kernel, rfl⟩
theorem d_c10_route_26 : gJ b_c10_route 26 (.ifCond .ne 5) 3 5 29 31 := ⟨by decide +kernel, rfl, by decide⟩
theorem d_c10_route_29 : gD b_c10_route 29 (.iconst (-1)) 1 30 := ⟨by decide +kernel, rfl⟩
theorem d_c10_route_30 : gD b_c10_route 30 .ireturn 1 31 := ⟨by decide +kernel, rfl⟩
theorem d_c10_route_31 : gD b_c10_route 31 (.aload_n 0) 1 32 := ⟨by decide +kernel, rfl⟩
theorem d_c10_route_32 : gD b_c10_route 32 (.getfield 67) 3 35 := ⟨by decide +kernel, rfl⟩
theorem d_c10_route_35 : gD b_c10_route 35 (.aload_n 0) 1 36 := ⟨by decide +kernel, rfl⟩
theorem d_c10_route_36 : gD b_c10_route 36 (.getfield 33) 3 39 := ⟨by decide +kernel, rfl⟩
theorem d_c10_route_39 : gD b_c10_route 39 (.aload_n 0) 1 40 := ⟨by decide +kernel, rfl⟩
theorem d_c10_route_40 : gD b_c10_route 40 (.getfield 26) 3 43 := ⟨by decide +kernel, rfl⟩
theorem d_c10_route_43 : gD b_c10_route 43 (.iload_n 2) 1 44 := ⟨by decide +kernel, rfl⟩
theorem d_c10_route_44 : gD b_c10_route 44 (.iload_n 3) 1 45 := ⟨by decide +kernel, rfl⟩
theorem d_c10_route_45 : gD b_c10_route 45 (.invokevirtual 312) 3 48 := ⟨by decide +kernel, rfl⟩
theorem d_c10_route_48 : gD b_c10_route 48 (.aload_n 0) 1 49 := ⟨by decide +kernel, rfl⟩
theorem d_c10_route_49 : gD b_c10_route 49 (.getfield 67) 3 52 := ⟨by decide +kernel, rfl⟩
theorem d_c10_route_52 : gD b_c10_route 52 (.getfield 316) 3 55 := ⟨by decide +kernel, rfl⟩
theorem d_c10_route_55 : gD b_c10_route 55 (.iload_n 1) 1 56 := ⟨by decide +kernel, rfl⟩
theorem d_c10_route_56 : gD b_c10_route 56 .iaload 1 57 := ⟨by decide +kernel, rfl⟩
theorem d_c10_route_57 : gD b_c10_route 57 (.istore 4) 2 59 := ⟨by decide +kernel, rfl⟩
theorem d_c10_route_59 : gD b_c10_route 59 (.iload 4) 2 61 := ⟨by decide +kernel, rfl⟩
theorem d_c10_route_61 : gJ b_c10_route 61 (.ifCond .ge 6) 3 6 64 67 := ⟨by decide +kernel, rfl, by decide⟩
theorem d_c10_route_64 : gD b_c10_route 64 (.bipush (-2)) 2 66 := ⟨by decide +kernel, rfl⟩
theorem d_c10_route_66 : gD b_c10_route 66 .ireturn 1 67 := ⟨by decide +kernel, rfl⟩
theorem d_c10_route_67 : gD b_c10_route 67 (.aload_n 0) 1 68 := ⟨by decide +kernel, rfl⟩
theorem d_c10_route_68 : gD b_c10_route 68 (.getfield 19) 3 71 := ⟨by decide +kernel, rfl⟩
theorem d_c10_route_71 : gD b_c10_route 71 (.invokevirtual 284) 3 74 := ⟨by decide +kernel, rfl⟩
theorem d_c10_route_74 : gD b_c10_route 74 (.aload_n 0) 1 75 := ⟨by decide +kernel, rfl⟩
theorem d_c10_route_75 : gD b_c10_route 75 (.getfield 19) 3 78 := ⟨by decide +kernel, rfl⟩
theorem d_c10_route_78 : gD b_c10_route 78 (.iload_n 1) 1 79 := ⟨by decide +kernel, rfl⟩
theorem d_c10_route_79 : gD b_c10_route 79 .i2l 1 80 := ⟨by decide +kernel, rfl⟩
theorem d_c10_route_80 : gD b_c10_route 80 (.invokevirtual 290) 3 83 := ⟨by decide +kernel, rfl⟩
theorem d_c10_route_83 : gD b_c10_route 83 (.iload_n 1) 1 84 := ⟨by decide +kernel, rfl⟩
theorem d_c10_route_84 : gD b_c10_route 84 (.istore 5) 2 86 := ⟨by decide +kernel, rfl⟩
theorem d_c10_route_86 : gD b_c10_route 86 (.iload 4) 2 88 := ⟨by decide +kernel, rfl⟩
theorem d_c10_route_88 : gD b_c10_route 88 (.iconst 1) 1 89 := ⟨by decide +kernel, rfl⟩
theorem d_c10_route_89 : gD b_c10_route 89 .isub 1 90 := ⟨by decide +kernel, rfl⟩
theorem d_c10_route_90 : gD b_c10_route 90 (.istore 6) 2 92 := ⟨by decide +kernel, rfl⟩
theorem d_c10_route_92 : gD b_c10_route 92 (.iload 6) 2 94 := ⟨by decide +kernel, rfl⟩
theorem d_c10_route_94 : gJ b_c10_route 94 (.ifCond .lt 53) 3 53 97 147 := ⟨by decide +kernel, rfl, by decide⟩
theorem d_c10_route_97 : gD b_c10_route 97 (.aload_n 0) 1 98 := ⟨by decide +kernel, rfl⟩
theorem d_c10_route_98 : gD b_c10_route 98 (.getfield 33) 3 101 := ⟨by decide +kernel, rfl⟩
theorem d_c10_route_101 : gD b_c10_route 101 (.iload 5) 2 103 := ⟨by decide +kernel, rfl⟩
theorem d_c10_route_103 : gD b_c10_route 103 (.invokevirtual 138) 3 106 := ⟨by decide +kernel, rfl⟩
theorem d_c10_route_106 : gJ b_c10_route 106 (.ifCond .eq 41) 3 41 109 147 := ⟨by decide +kernel, rfl, by decide⟩
theorem d_c10_route_109 : gD b_c10_route 109 (.aload_n 0) 1 110 := ⟨by decide +kernel, rfl⟩
theorem d_c10_route_110 : gD b_c10_route 110 (.getfield 67) 3 113 := ⟨by decide +kernel, rfl⟩
theorem d_c10_route_113 : gD b_c10_route 113 (.aload_n 0) 1 114 := ⟨by decide +kernel, rfl⟩
theorem d_c10_route_114 : gD b_c10_route 114 (.getfield 33) 3 117 := ⟨by decide +kernel, rfl⟩
theorem d_c10_route_117 : gD b_c10_route 117 (.aload_n 0) 1 118 := ⟨by decide +kernel, rfl⟩
theorem d_c10_route_118 : gD b_c10_route 118 (.getfield 26) 3 121 := ⟨by decide +kernel, rfl⟩
theorem d_c10_route_121 : gD b_c10_route 121 (.iload 5) 2 123 := ⟨by decide +kernel, rfl⟩
theorem d_c10_route_123 : gD b_c10_route 123 (.iload_n 3) 1 124 := ⟨by decide +kernel, rfl⟩
theorem d_c10_route_124 : gD b_c10_route 124 (.iload 6) 2 126 := ⟨by decide +kernel, rfl⟩
theorem d_c10_route_126 : gD b_c10_route 126 (.invokevirtual 319) 3 129 := ⟨by decide +kernel, rfl⟩
theorem d_c10_route_129 : gD b_c10_route 129 (.istore 5) 2 131 := ⟨by decide +kernel, rfl⟩
theorem d_c10_route_131 : gD b_c10_route 131 (.aload_n 0) 1 132 := ⟨by decide +kernel, rfl⟩
theorem d_c10_route_132 : gD b_c10_route 132 (.getfield 19) 3 135 := ⟨by decide +kernel, rfl⟩
theorem d_c10_route_135 : gD b_c10_route 135 (.iload 5) 2 137 := ⟨by decide +kernel, rfl⟩
theorem d_c10_route_137 : gD b_c10_route 137 .i2l 1 138 := ⟨by decide +kernel, rfl⟩
theorem d_c10_route_138 : gD b_c10_route 138 (.invokevirtual 290) 3 141 := ⟨by decide +kernel, rfl⟩
theorem d_c10_route_141 : gD b_c10_route 141 (.iinc 6 (-1)) 3 144 := ⟨by decide +kernel, rfl⟩
theorem d_c10_route_144 : gJ b_c10_route 144 (.goto (-52)) 3 (-52) 147 92 := ⟨by decide +kernel, rfl, by decide⟩
theorem d_c10_route_147 : gD b_c10_route 147 (.iload 4) 2 149 := ⟨by decide +kernel, rfl⟩
theorem d_c10_route_149 : gD b_c10_route 149 (.iconst 1) 1 150 := ⟨by decide +kernel, rfl⟩
theorem d_c10_route_150 : gD b_c10_route 150 .iadd 1 151 := ⟨by decide +kernel, rfl⟩
theorem d_c10_route_151 : gD b_c10_route 151 .ireturn 1 152 := ⟨by decide +kernel, rfl⟩
def lp_c10_route_92 (N : Nat) (a0 : Nat) (x3 : Int32) : Nat → Int32 → Int32 → gH → Option (gH)
  | 0, _, _, _ => none
  | k + 1, x5, x6, h =>
  if x6 < 0 then
    some h
  else
    (gfR h a0 10 3).bind fun v22 =>
    (f_c7_has N v22 x5 h).bind fun q23 =>
    if q23 = 0 then
    some h
  else
    (gfR h a0 10 9).bind fun v25 =>
    (gfR h a0 10 3).bind fun v26 =>
    (gfR h a0 10 2).bind fun v27 =>
    (f_c9_nextOne N v25 v26 v27 x5 x3 x6 h).bind fun q28 =>
    (gfR h a0 10 1).bind fun v29 =>
    (f_c4_add N v29 q28.toInt64 h).bind fun q30 =>
    lp_c10_route_92 N a0 x3 k q28 (x6 + (-1 : Int32)) q30
def f_c10_route (N : Nat) (a0 : Nat) (x1 : Int32) (x2 : Int32) (x3 : Int32) (h : gH) : Option (Int32 × gH) :=
  (gcl h a0 10).bind fun _ =>
  (gfR h a0 10 3).bind fun v1 =>
    (f_c7_has N v1 x1 h).bind fun q2 =>
    if q2 = 0 then
    some ((-1 : Int32), h)
  else
    (gfR h a0 10 3).bind fun v4 =>
    (f_c7_has N v4 x2 h).bind fun q5 =>
    if q5 = 0 then
    some ((-1 : Int32), h)
  else
    (f_c10_isFar N x3 h).bind fun q7 =>
    if q7 = 0 then
    some ((-1 : Int32), h)
  else
    (gfR h a0 10 9).bind fun v9 =>
    (gfR h a0 10 3).bind fun v10 =>
    (gfR h a0 10 2).bind fun v11 =>
    (f_c9_countSteps N v9 v10 v11 x2 x3 h).bind fun q12 =>
    (gfR q12 a0 10 9).bind fun v13 =>
    (gfR q12 v13 9 0).bind fun v14 =>
    (ga 0 q12 v14 x1).bind fun v15 =>
    if 0 ≤ v15 then
    (gfR q12 a0 10 1).bind fun v17 =>
    (f_c4_clear N v17 q12).bind fun q18 =>
    (gfR q18 a0 10 1).bind fun v19 =>
    (f_c4_add N v19 x1.toInt64 q18).bind fun q20 =>
    (lp_c10_route_92 N a0 x3 N x1 (v15 - (1 : Int32)) q20).bind fun o31 =>
    some (v15 + (1 : Int32), o31)
  else
    some ((-2 : Int32), q12)
set_option maxHeartbeats 4000000 in
set_option maxRecDepth 100000 in
theorem wlp_c10_route_92 {M : gM} {X : gX} {N : Nat} (hx : gEx X = false) (K : gC M X gN10 b_c10_route 7 (gRm (6 + N) 0 0)) (a0 : Nat) (x3 : Int32) (x4 : Int32) : ∀ (k : Nat) (x5 : Int32) (x6 : Int32) (h : gH) (o : gH), lp_c10_route_92 N a0 x3 k x5 x6 h = some o → gG M X 7 0 0 147 [(4, .int x4)] [] o → gG M X 7 0 0 92 [(0, .ref a0), (3, .int x3), (4, .int x4), (5, .int x5), (6, .int x6)] [] h := by
  intro k
  induction k with
  | zero =>
    intro x5 x6 h o hy
    rw [lp_c10_route_92.eq_1] at hy
    cases hy
  | succ k ih =>
    intro x5 x6 h o hy hE
    rw [lp_c10_route_92.eq_2] at hy
    refine g_iload K d_c10_route_92 4 rfl ?_
    refine g_if_lt K d_c10_route_94 (fun c21 => ?_) (fun c21 => ?_)
    · rw [if_pos c21] at hy
      refine g_sub (ls2 := [(4, .int x4)]) [2] rfl ?_
      obtain rfl := Option.some.inj hy
      exact hE
    · rw [if_neg c21] at hy
      refine g_aload_n K d_c10_route_97 0 rfl ?_
      obtain ⟨v22, e_v22, hy⟩ := gBd hy
      refine g_getR K fl_c10_33 d_c10_route_98 e_v22 ?_
      refine g_iload K d_c10_route_101 3 rfl ?_
      obtain ⟨q23, e_q23, hy⟩ := gBd hy
      refine g_callVi (rest := []) K hx ly_c7_has kv_c10_138 d_c10_route_103 (ct_c7_has M.2.1 X hx N v22 x5 h q23 e_q23) rfl rfl (Nat.le_of_ble_eq_true rfl) (gDep rfl) ⟨Nat.le_refl 0, Nat.le_refl 0⟩ ?_
      refine g_if_eq K d_c10_route_106 (fun c24 => ?_) (fun c24 => ?_)
      · rw [if_pos c24] at hy
        refine g_sub (ls2 := [(4, .int x4)]) [2] rfl ?_
        obtain rfl := Option.some.inj hy
        exact hE
      · rw [if_neg c24] at hy
        refine g_aload_n K d_c10_route_109 0 rfl ?_
        obtain ⟨v25, e_v25, hy⟩ := gBd hy
        refine g_getR K fl_c10_67 d_c10_route_110 e_v25 ?_
        refine g_aload_n K d_c10_route_113 0 rfl ?_
        obtain ⟨v26, e_v26, hy⟩ := gBd hy
        refine g_getR K fl_c10_33 d_c10_route_114 e_v26 ?_
        refine g_aload_n K d_c10_route_117 0 rfl ?_
        obtain ⟨v27, e_v27, hy⟩ := gBd hy
        refine g_getR K fl_c10_26 d_c10_route_118 e_v27 ?_
        refine g_iload K d_c10_route_121 3 rfl ?_
        refine g_iload_n K d_c10_route_123 1 rfl ?_
        refine g_iload K d_c10_route_124 4 rfl ?_
        obtain ⟨q28, e_q28, hy⟩ := gBd hy
        refine g_callVi (rest := []) K hx ly_c9_nextOne kv_c10_319 d_c10_route_126 (ct_c9_nextOne M.2.1 X hx N v25 v26 v27 x5 x3 x6 h q28 e_q28) rfl rfl (Nat.le_of_ble_eq_true rfl) (gDep rfl) ⟨Nat.le_refl 0, Nat.le_refl 0⟩ ?_
        refine g_istore (ls2 := [(5, .int q28), (0, .ref a0), (3, .int x3), (4, .int x4), (6, .int x6)]) K d_c10_route_129 rfl rfl ?_
        refine g_aload_n K d_c10_route_131 1 rfl ?_
        obtain ⟨v29, e_v29, hy⟩ := gBd hy
        refine g_getR K fl_c10_19 d_c10_route_132 e_v29 ?_
        refine g_iload K d_c10_route_135 0 rfl ?_
        refine g_i2l K d_c10_route_137 ?_
        obtain ⟨q30, e_q30, hy⟩ := gBd hy
        refine g_callVv (rest := []) K hx ly_c4_add kv_c10_290 d_c10_route_138 (ct_c4_add M.2.1 X hx N v29 q28.toInt64 h q30 e_q30) rfl rfl (Nat.le_of_ble_eq_true rfl) (gDep rfl) ⟨Nat.le_refl 0, Nat.le_refl 0⟩ ?_
        refine g_iinc (ls2 := [(6, .int (x6 + (-1 : Int32))), (5, .int q28), (0, .ref a0), (3, .int x3), (4, .int x4)]) (v := (-1)) K d_c10_route_141 4 rfl (by decide) rfl rfl ?_
        refine g_goto K d_c10_route_144 ?_
        refine g_sub (ls2 := [(0, .ref a0), (3, .int x3), (4, .int x4), (5, .int q28), (6, .int (x6 + (-1 : Int32)))]) [2, 3, 4, 1, 0] rfl ?_
        exact ih _ _ _ _ hy hE
set_option maxHeartbeats 4000000 in
set_option maxRecDepth 100000 in
theorem ct_c10_route (l : Launch) (X : gX) (hx : gEx X = false) (N : Nat) (a0 : Nat) (x1 : Int32) (x2 : Int32) (x3 : Int32) (h : gH) (q : Int32 × gH) (hy : f_c10_route N a0 x1 x2 x3 h = some q) : gRc y_c10_route h a0 ∧ gMi l X y_c10_route b_c10_route 7 .int (6 + N) 0 0 [.ref a0, .int x1, .int x2, .int x3] h q.1 q.2 := by
  unfold f_c10_route at hy
  obtain ⟨u0, e_u0, hy⟩ := gBd hy
  cases u0
  refine ⟨Or.inl ⟨10, _, _, e_u0, rfl⟩, gMet_i (lsx := [(0, .ref a0), (1, .int x1), (2, .int x2), (3, .int x3)]) (by decide) rfl rfl ?_⟩
  intro M hMl K hret
  subst hMl
  refine g_aload_n K d_c10_route_0 0 rfl ?_
  obtain ⟨v1, e_v1, hy⟩ := gBd hy
  refine g_getR K fl_c10_33 d_c10_route_1 e_v1 ?_
  refine g_iload_n K d_c10_route_4 1 rfl ?_
  obtain ⟨q2, e_q2, hy⟩ := gBd hy
  refine g_callVi (rest := []) K hx ly_c7_has kv_c10_138 d_c10_route_5 (ct_c7_has M.2.1 X hx N v1 x1 h q2 e_q2) rfl rfl (Nat.le_of_ble_eq_true rfl) (gDep rfl) ⟨Nat.le_refl 0, Nat.le_refl 0⟩ ?_
  refine g_if_eq K d_c10_route_8 (fun c3 => ?_) (fun c3 => ?_)
  · rw [if_pos c3] at hy
    refine g_iconst (v := (-1)) K d_c10_route_29 (by decide) ?_
    obtain rfl := Option.some.inj hy
    exact hret rfl _ _ _ d_c10_route_30
  · rw [if_neg c3] at hy
    refine g_aload_n K d_c10_route_11 0 rfl ?_
    obtain ⟨v4, e_v4, hy⟩ := gBd hy
    refine g_getR K fl_c10_33 d_c10_route_12 e_v4 ?_
    refine g_iload_n K d_c10_route_15 2 rfl ?_
    obtain ⟨q5, e_q5, hy⟩ := gBd hy
    refine g_callVi (rest := []) K hx ly_c7_has kv_c10_138 d_c10_route_16 (ct_c7_has M.2.1 X hx N v4 x2 h q5 e_q5) rfl rfl (Nat.le_of_ble_eq_true rfl) (gDep rfl) ⟨Nat.le_refl 0, Nat.le_refl 0⟩ ?_
    refine g_if_eq K d_c10_route_19 (fun c6 => ?_) (fun c6 => ?_)
    · rw [if_pos c6] at hy
      refine g_iconst (v := (-1)) K d_c10_route_29 (by decide) ?_
      obtain rfl := Option.some.inj hy
      exact hret rfl _ _ _ d_c10_route_30
    · rw [if_neg c6] at hy
      refine g_iload_n K d_c10_route_22 3 rfl ?_
      obtain ⟨q7, e_q7, hy⟩ := gBd hy
      refine g_callSi (rest := []) K hx ly_c10_isFar ks_c10_271 d_c10_route_23 (ct_c10_isFar M.2.1 X hx N x3 h q7 e_q7) rfl rfl (Nat.le_of_ble_eq_true rfl) (gDep rfl) ⟨Nat.le_refl 0, Nat.le_refl 0⟩ ?_
      refine g_if_ne K d_c10_route_26 (fun c8 => ?_) (fun c8 => ?_)
      · rw [if_neg c8] at hy
        refine g_aload_n K d_c10_route_31 0 rfl ?_
        obtain ⟨v9, e_v9, hy⟩ := gBd hy
        refine g_getR K fl_c10_67 d_c10_route_32 e_v9 ?_
        refine g_aload_n K d_c10_route_35 0 rfl ?_
        obtain ⟨v10, e_v10, hy⟩ := gBd hy
        refine g_getR K fl_c10_33 d_c10_route_36 e_v10 ?_
        refine g_aload_n K d_c10_route_39 0 rfl ?_
        obtain ⟨v11, e_v11, hy⟩ := gBd hy
        refine g_getR K fl_c10_26 d_c10_route_40 e_v11 ?_
        refine g_iload_n K d_c10_route_43 2 rfl ?_
        refine g_iload_n K d_c10_route_44 3 rfl ?_
        obtain ⟨q12, e_q12, hy⟩ := gBd hy
        refine g_callVv (rest := []) K hx ly_c9_countSteps kv_c10_312 d_c10_route_45 (ct_c9_countSteps M.2.1 X hx N v9 v10 v11 x2 x3 h q12 e_q12) rfl rfl (Nat.le_of_ble_eq_true rfl) (gDep rfl) ⟨Nat.le_refl 0, Nat.le_refl 0⟩ ?_
        refine g_aload_n K d_c10_route_48 0 rfl ?_
        obtain ⟨v13, e_v13, hy⟩ := gBd hy
        refine g_getR K fl_c10_67 d_c10_route_49 e_v13 ?_
        obtain ⟨v14, e_v14, hy⟩ := gBd hy
        refine g_getR K fl_c10_316 d_c10_route_52 e_v14 ?_
        refine g_iload_n K d_c10_route_55 1 rfl ?_
        obtain ⟨v15, e_v15, hy⟩ := gBd hy
        refine g_iald K d_c10_route_56 e_v15 ?_
        refine g_istore (ls2 := [(4, .int v15), (0, .ref a0), (1, .int x1), (2, .int x2), (3, .int x3)]) K d_c10_route_57 rfl rfl ?_
        refine g_iload K d_c10_route_59 0 rfl ?_
        refine g_if_ge K d_c10_route_61 (fun c16 => ?_) (fun c16 => ?_)
        · rw [if_pos c16] at hy
          refine g_aload_n K d_c10_route_67 1 rfl ?_
          obtain ⟨v17, e_v17, hy⟩ := gBd hy
          refine g_getR K fl_c10_19 d_c10_route_68 e_v17 ?_
          obtain ⟨q18, e_q18, hy⟩ := gBd hy
          refine g_callVv (rest := []) K hx ly_c4_clear kv_c10_284 d_c10_route_71 (ct_c4_clear M.2.1 X hx N v17 q12 q18 e_q18) rfl rfl (Nat.le_of_ble_eq_true rfl) (gDep rfl) ⟨Nat.le_refl 0, Nat.le_refl 0⟩ ?_
          refine g_aload_n K d_c10_route_74 1 rfl ?_
          obtain ⟨v19, e_v19, hy⟩ := gBd hy
          refine g_getR K fl_c10_19 d_c10_route_75 e_v19 ?_
          refine g_iload_n K d_c10_route_78 2 rfl ?_
          refine g_i2l K d_c10_route_79 ?_
          obtain ⟨q20, e_q20, hy⟩ := gBd hy
          refine g_callVv (rest := []) K hx ly_c4_add kv_c10_290 d_c10_route_80 (ct_c4_add M.2.1 X hx N v19 x1.toInt64 q18 q20 e_q20) rfl rfl (Nat.le_of_ble_eq_true rfl) (gDep rfl) ⟨Nat.le_refl 0, Nat.le_refl 0⟩ ?_
          refine g_iload_n K d_c10_route_83 2 rfl ?_
          refine g_istore (ls2 := [(5, .int x1), (4, .int v15), (0, .ref a0), (1, .int x1), (2, .int x2), (3, .int x3)]) K d_c10_route_84 rfl rfl ?_
          refine g_iload K d_c10_route_86 1 rfl ?_
          refine g_iconst (v := 1) K d_c10_route_88 (by decide) ?_
          refine g_isub K d_c10_route_89 ?_
          refine g_istore (ls2 := [(6, .int (v15 - (1 : Int32))), (5, .int x1), (4, .int v15), (0, .ref a0), (1, .int x1), (2, .int x2), (3, .int x3)]) K d_c10_route_90 rfl rfl ?_
          obtain ⟨o31, e_o31, hy⟩ := gBd hy
          refine g_sub (ls2 := [(0, .ref a0), (3, .int x3), (4, .int v15), (5, .int x1), (6, .int (v15 - (1 : Int32)))]) [3, 6, 2, 1, 0] rfl ?_
          refine wlp_c10_route_92 hx K a0 x3 v15 N x1 (v15 - (1 : Int32)) q20 o31 e_o31 ?_
          refine g_iload K d_c10_route_147 0 rfl ?_
          refine g_iconst (v := 1) K d_c10_route_149 (by decide) ?_
          refine g_iadd K d_c10_route_150 ?_
          obtain rfl := Option.some.inj hy
          exact hret rfl _ _ _ d_c10_route_151
        · rw [if_neg c16] at hy
          refine g_bipush (v := (-2)) K d_c10_route_64 (by decide) ?_
          obtain rfl := Option.some.inj hy
          exact hret rfl _ _ _ d_c10_route_66
      · rw [if_pos c8] at hy
        refine g_iconst (v := (-1)) K d_c10_route_29 (by decide) ?_
        obtain rfl := Option.some.inj hy
        exact hret rfl _ _ _ d_c10_route_30
-- c10 seasons
theorem d_c10_seasons_0 : gD b_c10_seasons 0 (.iload_n 1) 1 1 := ⟨by decide +kernel, rfl⟩
theorem d_c10_seasons_1 : gJ b_c10_seasons 1 (.ifCond .lt 9) 3 9 4 10 := ⟨by decide +kernel, rfl, by decide⟩
theorem d_c10_seasons_4 : gD b_c10_seasons 4 (.iload_n 1) 1 5 := ⟨by decide +kernel, rfl⟩
theorem d_c10_seasons_5 : gD b_c10_seasons 5 (.bipush 60) 2 7 := ⟨by decide +kernel, rfl⟩
theorem d_c10_seasons_7 : gJ b_c10_seasons 7 (.if_icmp .le 5) 3 5 10 12 := ⟨by decide +kernel, rfl, by decide⟩
theorem d_c10_seasons_10 : gD b_c10_seasons 10 (.iconst (-1)) 1 11 := ⟨by decide +kernel, rfl⟩
theorem d_c10_seasons_11 : gD b_c10_seasons 11 .ireturn 1 12 := ⟨by decide +kernel, rfl⟩
theorem d_c10_seasons_12 : gD b_c10_seasons 12 (.aload_n 0) 1 13 := ⟨by decide +kernel, rfl⟩
theorem d_c10_seasons_13 : gD b_c10_seasons 13 (.getfield 37) 3 16 := ⟨by decide +kernel, rfl⟩
theorem d_c10_seasons_16 : gD b_c10_seasons 16 (.aload_n 0) 1 17 := ⟨by decide +kernel, rfl⟩
theorem d_c10_seasons_17 : gD b_c10_seasons 17 (.getfield 33) 3 20 := ⟨by decide +kernel, rfl⟩
theorem d_c10_seasons_20 : gD b_c10_seasons 20 (.invokevirtual 124) 3 23 := ⟨by decide +kernel, rfl⟩
theorem d_c10_seasons_23 : gD b_c10_seasons 23 (.aload_n 0) 1 24 := ⟨by decide +kernel, rfl⟩
theorem d_c10_seasons_24 : gD b_c10_seasons 24 (.getfield 46) 3 27 := ⟨by decide +kernel, rfl⟩
theorem d_c10_seasons_27 : gD b_c10_seasons 27 (.aload_n 0) 1 28 := ⟨by decide +kernel, rfl⟩
theorem d_c10_seasons_28 : gD b_c10_seasons 28 (.getfield 33) 3 31 := ⟨by decide +kernel, rfl⟩
theorem d_c10_seasons_31 : gD b_c10_seasons 31 (.aload_n 0) 1 32 := ⟨by decide +kernel, rfl⟩
theorem d_c10_seasons_32 : gD b_c10_seasons 32 (.getfield 26) 3 35 := ⟨by decide +kernel, rfl⟩
theorem d_c10_seasons_35 : gD b_c10_seasons 35 (.aload_n 0) 1 36 := ⟨by decide +kernel, rfl⟩
theorem d_c10_seasons_36 : gD b_c10_seasons 36 (.getfield 81) 3 39 := ⟨by decide +kernel, rfl⟩
theorem d_c10_seasons_39 : gD b_c10_seasons 39 (.iload_n 1) 1 40 := ⟨by decide +kernel, rfl⟩
theorem d_c10_seasons_40 : gD b_c10_seasons 40 (.invokevirtual 195) 3 43 := ⟨by decide +kernel, rfl⟩
theorem d_c10_seasons_43 : gD b_c10_seasons 43 (.istore_n 2) 1 44 := ⟨by decide +kernel, rfl⟩
theorem d_c10_seasons_44 : gD b_c10_seasons 44 (.iload_n 1) 1 45 := ⟨by decide +kernel, rfl⟩
theorem d_c10_seasons_45 : gJ b_c10_seasons 45 (.ifCond .le 14) 3 14 48 59 := ⟨by decide +kernel, rfl, by decide⟩
theorem d_c10_seasons_48 : gD b_c10_seasons 48 (.aload_n 0) 1 49 := ⟨by decide +kernel, rfl⟩
theorem d_c10_seasons_49 : gD b_c10_seasons 49 (.getfield 53) 3 52 := ⟨by decide +kernel, rfl⟩
theorem d_c10_seasons_52 : gD b_c10_seasons 52 (.aload_n 0) 1 53 := ⟨by decide +kernel, rfl⟩
theorem d_c10_seasons_53 : gD b_c10_seasons 53 (.getfield 37) 3 56 := ⟨by decide +kernel, rfl⟩
theorem d_c10_seasons_56 : gD b_c10_seasons 56 (.invokevirtual 199) 3 59 := ⟨by decide +kernel, rfl⟩
theorem d_c10_seasons_59 : gD b_c10_seasons 59 (.aload_n 0) 1 60 := ⟨by decide +kernel, rfl⟩
theorem d_c10_seasons_60 : gD b_c10_seasons 60 (.aload_n 0) 1 61 := ⟨by decide +kernel, rfl⟩
theorem d_c10_seasons_61 : gD b_c10_seasons 61 (.getfield 33) 3 64 := ⟨by decide +kernel, rfl⟩
theorem d_c10_seasons_64 : gD b_c10_seasons 64 (.invokevirtual 192) 3 67 := ⟨by decide +kernel, rfl⟩
theorem d_c10_seasons_67 : gD b_c10_seasons 67 (.iload_n 2) 1 68 := ⟨by decide +kernel, rfl⟩
theorem d_c10_seasons_68 : gD b_c10_seasons 68 .i2l 1 69 := ⟨by decide +kernel, rfl⟩
theorem d_c10_seasons_69 : gD b_c10_seasons 69 (.aload_n 0) 1 70 := ⟨by decide +kernel, rfl⟩
theorem d_c10_seasons_70 : gD b_c10_seasons 70 (.getfield 33) 3 73 := ⟨by decide +kernel, rfl⟩
theorem d_c10_seasons_73 : gD b_c10_seasons 73 (.invokevirtual 202) 3 76 := ⟨by decide +kernel, rfl⟩
theorem d_c10_seasons_76 : gD b_c10_seasons 76 .i2l 1 77 := ⟨by decide +kernel, rfl⟩
theorem d_c10_seasons_77 : gD b_c10_seasons 77 (.invokevirtual 205) 3 80 := ⟨by decide +kernel, rfl⟩
theorem d_c10_seasons_80 : gD b_c10_seasons 80 .ireturn 1 81 := ⟨by decide +kernel, rfl⟩
def f_c10_seasons (N : Nat) (a0 : Nat) (x1 : Int32) (h : gH) : Option (Int32 × gH) :=
  (gcl h a0 10).bind fun _ =>
  if x1 < 0 then
    some ((-1 : Int32), h)
  else
    if x1 ≤ (60 : Int32) then
    (gfR h a0 10 4).bind fun v3 =>
    (gfR h a0 10 3).bind fun v4 =>
    (f_c7_take N v3 v4 h).bind fun q5 =>
    (gfR q5 a0 10 6).bind fun v6 =>
    (gfR q5 a0 10 3).bind fun v7 =>
    (gfR q5 a0 10 2).bind fun v8 =>
    (gfR q5 a0 10 11).bind fun v9 =>
    (f_c0_pass N v6 v7 v8 v9 x1 q5).bind fun q10 =>
    (show Option (gH) from if x1 ≤ 0 then
    some q10.2
  else
    (gfR q10.2 a0 10 7).bind fun v19 =>
    (gfR q10.2 a0 10 4).bind fun v20 =>
    (f_c5_push N v19 v20 q10.2).bind fun q21 =>
    some q21).bind fun t12 =>
    (gfR t12 a0 10 3).bind fun v14 =>
    (f_c7_waterOfAll N v14 t12).bind fun q15 =>
    (gfR t12 a0 10 3).bind fun v16 =>
    (f_c7_howManyDry N v16 t12).bind fun q17 =>
    (f_c10_tellTwo N a0 q15 q10.1.toInt64 q17.toInt64 t12).bind fun q18 =>
    some (q18.1, q18.2)
  else
    some ((-1 : Int32), h)
set_option maxHeartbeats 4000000 in
set_option maxRecDepth 100000 in
theorem ct_c10_seasons (l : Launch) (X : gX) (hx : gEx X = false) (N : Nat) (a0 : Nat) (x1 : Int32) (h : gH) (q : Int32 × gH) (hy : f_c10_seasons N a0 x1 h = some q) : gRc y_c10_seasons h a0 ∧ gMi l X y_c10_seasons b_c10_seasons 3 .int (6 + N) 0 0 [.ref a0, .int x1] h q.1 q.2 := by
  unfold f_c10_seasons at hy
  obtain ⟨u0, e_u0, hy⟩ := gBd hy
  cases u0
  refine ⟨Or.inl ⟨10, _, _, e_u0, rfl⟩, gMet_i (lsx := [(0, .ref a0), (1, .int x1)]) (by decide) rfl rfl ?_⟩
  intro M hMl K hret
  subst hMl
  refine g_iload_n K d_c10_seasons_0 1 rfl ?_
  refine g_if_lt K d_c10_seasons_1 (fun c1 => ?_) (fun c1 => ?_)
  · rw [if_pos c1] at hy
    refine g_iconst (v := (-1)) K d_c10_seasons_10 (by decide) ?_
    obtain rfl := Option.some.inj hy
    exact hret rfl _ _ _ d_c10_seasons_11
  · rw [if_neg c1] at hy
    refine g_iload_n K d_c10_seasons_4 1 rfl ?_
    refine g_bipush (v := 60) K d_c10_seasons_5 (by decide) ?_
    refine g_icmp_le K d_c10_seasons_7 (fun c2 => ?_) (fun c2 => ?_)
    · rw [if_pos c2] at hy
      refine g_aload_n K d_c10_seasons_12 0 rfl ?_
      obtain ⟨v3, e_v3, hy⟩ := gBd hy
      refine g_getR K fl_c10_37 d_c10_seasons_13 e_v3 ?_
      refine g_aload_n K d_c10_seasons_16 0 rfl ?_
      obtain ⟨v4, e_v4, hy⟩ := gBd hy
      refine g_getR K fl_c10_33 d_c10_seasons_17 e_v4 ?_
      obtain ⟨q5, e_q5, hy⟩ := gBd hy
      refine g_callVv (rest := []) K hx ly_c7_take kv_c10_124 d_c10_seasons_20 (ct_c7_take M.2.1 X hx N v3 v4 h q5 e_q5) rfl rfl (Nat.le_of_ble_eq_true rfl) (gDep rfl) ⟨Nat.le_refl 0, Nat.le_refl 0⟩ ?_
      refine g_aload_n K d_c10_seasons_23 0 rfl ?_
      obtain ⟨v6, e_v6, hy⟩ := gBd hy
      refine g_getR K fl_c10_46 d_c10_seasons_24 e_v6 ?_
      refine g_aload_n K d_c10_seasons_27 0 rfl ?_
      obtain ⟨v7, e_v7, hy⟩ := gBd hy
      refine g_getR K fl_c10_33 d_c10_seasons_28 e_v7 ?_
      refine g_aload_n K d_c10_seasons_31 0 rfl ?_
      obtain ⟨v8, e_v8, hy⟩ := gBd hy
      refine g_getR K fl_c10_26 d_c10_seasons_32 e_v8 ?_
      refine g_aload_n K d_c10_seasons_35 0 rfl ?_
      obtain ⟨v9, e_v9, hy⟩ := gBd hy
      refine g_getR K fl_c10_81 d_c10_seasons_36 e_v9 ?_
      refine g_iload_n K d_c10_seasons_39 1 rfl ?_
      obtain ⟨q10, e_q10, hy⟩ := gBd hy
      refine g_callVi (rest := []) K hx ly_c0_pass kv_c10_195 d_c10_seasons_40 (ct_c0_pass M.2.1 X hx N v6 v7 v8 v9 x1 q5 q10 e_q10) rfl rfl (Nat.le_of_ble_eq_true rfl) (gDep rfl) ⟨Nat.le_refl 0, Nat.le_refl 0⟩ ?_
      refine g_istore_n (ls2 := [(2, .int q10.1), (0, .ref a0), (1, .int x1)]) K d_c10_seasons_43 rfl rfl ?_
      refine g_iload_n K d_c10_seasons_44 2 rfl ?_
      obtain ⟨t12, e_t12, hy⟩ := gBd hy
      have hJ13 : gG M X 3 0 0 59 [(0, .ref a0), (2, .int q10.1)] [] t12 := by
        refine g_aload_n K d_c10_seasons_59 0 rfl ?_
        refine g_aload_n K d_c10_seasons_60 0 rfl ?_
        obtain ⟨v14, e_v14, hy⟩ := gBd hy
        refine g_getR K fl_c10_33 d_c10_seasons_61 e_v14 ?_
        obtain ⟨q15, e_q15, hy⟩ := gBd hy
        refine g_callVi (rest := [.ref a0]) K hx ly_c7_waterOfAll kv_c10_192 d_c10_seasons_64 (ct_c7_waterOfAll M.2.1 X hx N v14 t12 q15 e_q15) rfl rfl (Nat.le_of_ble_eq_true rfl) (gDep rfl) ⟨Nat.le_refl 0, Nat.le_refl 0⟩ ?_
        refine g_iload_n K d_c10_seasons_67 1 rfl ?_
        refine g_i2l K d_c10_seasons_68 ?_
        refine g_aload_n K d_c10_seasons_69 0 rfl ?_
        obtain ⟨v16, e_v16, hy⟩ := gBd hy
        refine g_getR K fl_c10_33 d_c10_seasons_70 e_v16 ?_
        obtain ⟨q17, e_q17, hy⟩ := gBd hy
        refine g_callVi (rest := [.long q10.1.toInt64, .int q15, .ref a0]) K hx ly_c7_howManyDry kv_c10_202 d_c10_seasons_73 (ct_c7_howManyDry M.2.1 X hx N v16 t12 q17 e_q17) rfl rfl (Nat.le_of_ble_eq_true rfl) (gDep rfl) ⟨Nat.le_refl 0, Nat.le_refl 0⟩ ?_
        refine g_i2l K d_c10_seasons_76 ?_
        obtain ⟨q18, e_q18, hy⟩ := gBd hy
        refine g_callVi (rest := []) K hx ly_c10_tellTwo kv_c10_205 d_c10_seasons_77 (ct_c10_tellTwo M.2.1 X hx N a0 q15 q10.1.toInt64 q17.toInt64 t12 q18 e_q18) rfl rfl (Nat.le_of_ble_eq_true rfl) (gDep rfl) ⟨Nat.le_refl 0, Nat.le_refl 0⟩ ?_
        obtain rfl := Option.some.inj hy
        exact hret rfl _ _ _ d_c10_seasons_80
      refine g_if_le K d_c10_seasons_45 (fun c11 => ?_) (fun c11 => ?_)
      · rw [if_pos c11] at e_t12
        refine g_sub (ls2 := [(0, .ref a0), (2, .int q10.1)]) [1, 0] rfl ?_
        obtain rfl := Option.some.inj e_t12
        exact hJ13
      · rw [if_neg c11] at e_t12
        refine g_aload_n K d_c10_seasons_48 1 rfl ?_
        obtain ⟨v19, e_v19, e_t12⟩ := gBd e_t12
        refine g_getR K fl_c10_53 d_c10_seasons_49 e_v19 ?_
        refine g_aload_n K d_c10_seasons_52 1 rfl ?_
        obtain ⟨v20, e_v20, e_t12⟩ := gBd e_t12
        refine g_getR K fl_c10_37 d_c10_seasons_53 e_v20 ?_
        obtain ⟨q21, e_q21, e_t12⟩ := gBd e_t12
        refine g_callVv (rest := []) K hx ly_c5_push kv_c10_199 d_c10_seasons_56 (ct_c5_push M.2.1 X hx N v19 v20 q10.2 q21 e_q21) rfl rfl (Nat.le_of_ble_eq_true rfl) (gDep rfl) ⟨Nat.le_refl 0, Nat.le_refl 0⟩ ?_
        refine g_sub (ls2 := [(0, .ref a0), (2, .int q10.1)]) [1, 0] rfl ?_
        obtain rfl := Option.some.inj e_t12
        exact hJ13
    · rw [if_neg c2] at hy
      refine g_iconst (v := (-1)) K d_c10_seasons_10 (by decide) ?_
      obtain rfl := Option.some.inj hy
      exact hret rfl _ _ _ d_c10_seasons_11
-- c10 tryAsItIs
theorem d_c10_tryAsItIs_0 : gD b_c10_tryAsItIs 0 (.aload_n 0) 1 1 := ⟨by decide +kernel, rfl⟩
theorem d_c10_tryAsItIs_1 : gD b_c10_tryAsItIs 1 (.getfield 40) 3 4 := ⟨by decide +kernel, rfl⟩
theorem d_c10_tryAsItIs_4 : gD b_c10_tryAsItIs 4 (.aload_n 0) 1 5 := ⟨by decide +kernel, rfl⟩
theorem d_c10_tryAsItIs_5 : gD b_c10_tryAsItIs 5 (.getfield 33) 3 8 := ⟨by decide +kernel, rfl⟩
theorem d_c10_tryAsItIs_8 : gD b_c10_tryAsItIs 8 (.invokevirtual 124) 3 11 := ⟨by decide +kernel, rfl⟩
theorem d_c10_tryAsItIs_11 : gD b_c10_tryAsItIs 11 (.aload_n 0) 1 12 := ⟨by decide +kernel, rfl⟩
theorem d_c10_tryAsItIs_12 : gD b_c10_tryAsItIs 12 (.getfield 46) 3 15 := ⟨by decide +kernel, rfl⟩
theorem d_c10_tryAsItIs_15 : gD b_c10_tryAsItIs 15 (.aload_n 0) 1 16 := ⟨by decide +kernel, rfl⟩
theorem d_c10_tryAsItIs_16 : gD b_c10_tryAsItIs 16 (.getfield 40) 3 19 := ⟨by decide +kernel, rfl⟩
theorem d_c10_tryAsItIs_19 : gD b_c10_tryAsItIs 19 (.aload_n 0) 1 20 := ⟨by decide +kernel, rfl⟩
theorem d_c10_tryAsItIs_20 : gD b_c10_tryAsItIs 20 (.getfield 26) 3 23 := ⟨by decide +kernel, rfl⟩
theorem d_c10_tryAsItIs_23 : gD b_c10_tryAsItIs 23 (.aload_n 0) 1 24 := ⟨by decide +kernel, rfl⟩
theorem d_c10_tryAsItIs_24 : gD b_c10_tryAsItIs 24 (.getfield 81) 3 27 := ⟨by decide +kernel, rfl⟩
theorem d_c10_tryAsItIs_27 : gD b_c10_tryAsItIs 27 (.iload_n 1) 1 28 := ⟨by decide +kernel, rfl⟩
theorem d_c10_tryAsItIs_28 : gD b_c10_tryAsItIs 28 (.invokevirtual 195) 3 31 := ⟨by decide +kernel, rfl⟩
theorem d_c10_tryAsItIs_31 : gD b_c10_tryAsItIs 31 .ireturn 1 32 := ⟨by decide +kernel, rfl⟩
def f_c10_tryAsItIs (N : Nat) (a0 : Nat) (x1 : Int32) (h : gH) : Option (Int32 × gH) :=
  (gcl h a0 10).bind fun _ =>
  (gfR h a0 10 5).bind fun v1 =>
    (gfR h a0 10 3).bind fun v2 =>
    (f_c7_take N v1 v2 h).bind fun q3 =>
    (gfR q3 a0 10 6).bind fun v4 =>
    (gfR q3 a0 10 5).bind fun v5 =>
    (gfR q3 a0 10 2).bind fun v6 =>
    (gfR q3 a0 10 11).bind fun v7 =>
    (f_c0_pass N v4 v5 v6 v7 x1 q3).bind fun q8 =>
    some (q8.1, q8.2)
set_option maxHeartbeats 4000000 in
set_option maxRecDepth 100000 in
theorem ct_c10_tryAsItIs (l : Launch) (X : gX) (hx : gEx X = false) (N : Nat) (a0 : Nat) (x1 : Int32) (h : gH) (q : Int32 × gH) (hy : f_c10_tryAsItIs N a0 x1 h = some q) : gRc y_c10_tryAsItIs h a0 ∧ gMi l X y_c10_tryAsItIs b_c10_tryAsItIs 2 .int (6 + N) 0 0 [.ref a0, .int x1] h q.1 q.2 := by
  unfold f_c10_tryAsItIs at hy
  obtain ⟨u0, e_u0, hy⟩ := gBd hy
  cases u0
  refine ⟨Or.inl ⟨10, _, _, e_u0, rfl⟩, gMet_i (lsx := [(0, .ref a0), (1, .int x1)]) (by decide) rfl rfl ?_⟩
  intro M hMl K hret
  subst hMl
  refine g_aload_n K d_c10_tryAsItIs_0 0 rfl ?_
  obtain ⟨v1, e_v1, hy⟩ := gBd hy
  refine g_getR K fl_c10_40 d_c10_tryAsItIs_1 e_v1 ?_
  refine g_aload_n K d_c10_tryAsItIs_4 0 rfl ?_
  obtain ⟨v2, e_v2, hy⟩ := gBd hy
  refine g_getR K fl_c10_33 d_c10_tryAsItIs_5 e_v2 ?_
  obtain ⟨q3, e_q3, hy⟩ := gBd hy
  refine g_callVv (rest := []) K hx ly_c7_take kv_c10_124 d_c10_tryAsItIs_8 (ct_c7_take M.2.1 X hx N v1 v2 h q3 e_q3) rfl rfl (Nat.le_of_ble_eq_true rfl) (gDep rfl) ⟨Nat.le_refl 0, Nat.le_refl 0⟩ ?_
  refine g_aload_n K d_c10_tryAsItIs_11 0 rfl ?_
  obtain ⟨v4, e_v4, hy⟩ := gBd hy
  refine g_getR K fl_c10_46 d_c10_tryAsItIs_12 e_v4 ?_
  refine g_aload_n K d_c10_tryAsItIs_15 0 rfl ?_
  obtain ⟨v5, e_v5, hy⟩ := gBd hy
  refine g_getR K fl_c10_40 d_c10_tryAsItIs_16 e_v5 ?_
  refine g_aload_n K d_c10_tryAsItIs_19 0 rfl ?_
  obtain ⟨v6, e_v6, hy⟩ := gBd hy
  refine g_getR K fl_c10_26 d_c10_tryAsItIs_20 e_v6 ?_
  refine g_aload_n K d_c10_tryAsItIs_23 0 rfl ?_
  obtain ⟨v7, e_v7, hy⟩ := gBd hy
  refine g_getR K fl_c10_81 d_c10_tryAsItIs_24 e_v7 ?_
  refine g_iload_n K d_c10_tryAsItIs_27 1 rfl ?_
  obtain ⟨q8, e_q8, hy⟩ := gBd hy
  refine g_callVi (rest := []) K hx ly_c0_pass kv_c10_195 d_c10_tryAsItIs_28 (ct_c0_pass M.2.1 X hx N v4 v5 v6 v7 x1 q3 q8 e_q8) rfl rfl (Nat.le_of_ble_eq_true rfl) (gDep rfl) ⟨Nat.le_refl 0, Nat.le_refl 0⟩ ?_
  obtain rfl := Option.some.inj hy
  exact hret rfl _ _ _ d_c10_tryAsItIs_31
-- c10 years
theorem d_c10_years_0 : gD b_c10_years 0 (.iload_n 2) 1 1 := ⟨by decide +kernel, rfl⟩
theorem d_c10_years_1 : gD b_c10_years 1 (.iconst 1) 1 2 := ⟨by decide +kernel, rfl⟩
theorem d_c10_years_2 : gJ b_c10_years 2 (.if_icmp .lt 9) 3 9 5 11 := ⟨by decide +kernel, rfl, by decide⟩
theorem d_c10_years_5 : gD b_c10_years 5 (.iload_n 2) 1 6 := ⟨by decide +kernel, rfl⟩
theorem d_c10_years_6 : gD b_c10_years 6 (.bipush 60) 2 8 := ⟨by decide +kernel, rfl⟩
theorem d_c10_years_8 : gJ b_c10_years 8 (.if_icmp .le 5) 3 5 11 13 := ⟨by decide +kernel, rfl, by decide⟩
theorem d_c10_years_11 : gD b_c10_years 11 (.iconst (-1)) 1 12 := ⟨by decide +kernel, rfl⟩
theorem d_c10_years_12 : gD b_c10_years 12 .ireturn 1 13 := ⟨by decide +kernel, rfl⟩
theorem d_c10_years_13 : gD b_c10_years 13 (.aload_n 0) 1 14 := ⟨by decide +kernel, rfl⟩
theorem d_c10_years_14 : gD b_c10_years 14 (.getfield 40) 3 17 := ⟨by decide +kernel, rfl⟩
theorem d_c10_years_17 : gD b_c10_years 17 (.aload_n 0) 1 18 := ⟨by decide +kernel, rfl⟩
theorem d_c10_years_18 : gD b_c10_years 18 (.getfield 33) 3 21 := ⟨by decide +kernel, rfl⟩
theorem d_c10_years_21 : gD b_c10_years 21 (.invokevirtual 124) 3 24 := ⟨by decide +kernel, rfl⟩
theorem d_c10_years_24 : gD b_c10_years 24 (.aload_n 0) 1 25 := ⟨by decide +kernel, rfl⟩
theorem d_c10_years_25 : gD b_c10_years 25 (.getfield 74) 3 28 := ⟨by decide +kernel, rfl⟩
theorem d_c10_years_28 : gD b_c10_years 28 (.iload_n 1) 1 29 := ⟨by decide +kernel, rfl⟩
theorem d_c10_years_29 : gD b_c10_years 29 (.invokevirtual 398) 3 32 := ⟨by decide +kernel, rfl⟩
theorem d_c10_years_32 : gD b_c10_years 32 (.iconst 0) 1 33 := ⟨by decide +kernel, rfl⟩
theorem d_c10_years_33 : gD b_c10_years 33 (.istore_n 3) 1 34 := ⟨by decide +kernel, rfl⟩
theorem d_c10_years_34 : gD b_c10_years 34 (.iload_n 3) 1 35 := ⟨by decide +kernel, rfl⟩
theorem d_c10_years_35 : gD b_c10_years 35 (.iload_n 2) 1 36 := ⟨by decide +kernel, rfl⟩
theorem d_c10_years_36 : gJ b_c10_years 36 (.if_icmp .ge 13) 3 13 39 49 := ⟨by decide +kernel, rfl, by decide⟩
theorem d_c10_years_39 : gD b_c10_years 39 (.aload_n 0) 1 40 := ⟨by decide +kernel, rfl⟩
theorem d_c10_years_40 : gD b_c10_years 40 (.invokevirtual 401) 3 43 := ⟨by decide +kernel, rfl⟩
theorem d_c10_years_43 : gD b_c10_years 43 (.iinc 3 1) 3 46 := ⟨by decide +kernel, rfl⟩
theorem d_c10_years_46 : gJ b_c10_years 46 (.goto (-12)) 3 (-12) 49 34 := ⟨by decide +kernel, rfl, by decide⟩
theorem d_c10_years_49 : gD b_c10_years 49 (.aload_n 0) 1 50 := ⟨by decide +kernel, rfl⟩
theorem d_c10_years_50 : gD b_c10_years 50 (.aload_n 0) 1 51 := ⟨by decide +kernel, rfl⟩
theorem d_c10_years_51 : gD b_c10_years 51 (.getfield 40) 3 54 := ⟨by decide +kernel, rfl⟩
theorem d_c10_years_54 : gD b_c10_years 54 (.invokevirtual 192) 3 57 := ⟨by decide +kernel, rfl⟩
theorem d_c10_years_57 : gD b_c10_years 57 (.aload_n 0) 1 58 := ⟨by decide +kernel, rfl⟩
theorem d_c10_years_58 : gD b_c10_years 58 (.getfield 40) 3 61 := ⟨by decide +kernel, rfl⟩
theorem d_c10_years_61 : gD b_c10_years 61 (.getfield 132) 3 64 := ⟨by decide +kernel, rfl⟩
theorem d_c10_years_64 : gD b_c10_years 64 .i2l 1 65 := ⟨by decide +kernel, rfl⟩
theorem d_c10_years_65 : gD b_c10_years 65 (.aload_n 0) 1 66 := ⟨by decide +kernel, rfl⟩
theorem d_c10_years_66 : gD b_c10_years 66 (.getfield 40) 3 69 := ⟨by decide +kernel, rfl⟩
theorem d_c10_years_69 : gD b_c10_years 69 (.getfield 404) 3 72 := ⟨by decide +kernel, rfl⟩
theorem d_c10_years_72 : gD b_c10_years 72 (.aload_n 0) 1 73 := ⟨by decide +kernel, rfl⟩
theorem d_c10_years_73 : gD b_c10_years 73 (.getfield 33) 3 76 := ⟨by decide +kernel, rfl⟩
theorem d_c10_years_76 : gD b_c10_years 76 (.getfield 404) 3 79 := ⟨by decide +kernel, rfl⟩
theorem d_c10_years_79 : gD b_c10_years 79 .isub 1 80 := ⟨by decide +kernel, rfl⟩
theorem d_c10_years_80 : gD b_c10_years 80 .i2l 1 81 := ⟨by decide +kernel, rfl⟩
theorem d_c10_years_81 : gD b_c10_years 81 (.invokevirtual 205) 3 84 := ⟨by decide +kernel, rfl⟩
theorem d_c10_years_84 : gD b_c10_years 84 .ireturn 1 85 := ⟨by decide +kernel, rfl⟩
def lp_c10_years_34 (N : Nat) (a0 : Nat) (x2 : Int32) : Nat → Int32 → gH → Option (gH)
  | 0, _, _ => none
  | k + 1, x3, h =>
  if x2 ≤ x3 then
    some h
  else
    (f_c10_tryDrawn N a0 h).bind fun q9 =>
    lp_c10_years_34 N a0 x2 k (x3 + (1 : Int32)) q9
def f_c10_years (N : Nat) (a0 : Nat) (x1 : Int32) (x2 : Int32) (h : gH) : Option (Int32 × gH) :=
  (gcl h a0 10).bind fun _ =>
  if x2 < (1 : Int32) then
    some ((-1 : Int32), h)
  else
    if x2 ≤ (60 : Int32) then
    (gfR h a0 10 5).bind fun v3 =>
    (gfR h a0 10 3).bind fun v4 =>
    (f_c7_take N v3 v4 h).bind fun q5 =>
    (gfR q5 a0 10 10).bind fun v6 =>
    (f_c3_begin N v6 x1 q5).bind fun q7 =>
    (lp_c10_years_34 N a0 x2 N (0 : Int32) q7).bind fun o10 =>
    (gfR o10 a0 10 5).bind fun v11 =>
    (f_c7_waterOfAll N v11 o10).bind fun q12 =>
    (gfR o10 a0 10 5).bind fun v13 =>
    (gfI o10 v13 7 0).bind fun v14 =>
    (gfR o10 a0 10 5).bind fun v15 =>
    (gfI o10 v15 7 7).bind fun v16 =>
    (gfR o10 a0 10 3).bind fun v17 =>
    (gfI o10 v17 7 7).bind fun v18 =>
    (f_c10_tellTwo N a0 q12 v14.toInt64 ((v16 - v18).toInt64) o10).bind fun q19 =>
    some (q19.1, q19.2)
  else
    some ((-1 : Int32), h)
set_option maxHeartbeats 4000000 in
set_option maxRecDepth 100000 in
theorem wlp_c10_years_34 {M : gM} {X : gX} {N : Nat} (hx : gEx X = false) (K : gC M X gN10 b_c10_years 4 (gRm (6 + N) 0 0)) (a0 : Nat) (x2 : Int32) : ∀ (k : Nat) (x3 : Int32) (h : gH) (o : gH), lp_c10_years_34 N a0 x2 k x3 h = some o → gG M X 4 0 0 49 [(0, .ref a0)] [] o → gG M X 4 0 0 34 [(0, .ref a0), (2, .int x2), (3, .int x3)] [] h := by
  intro k
  induction k with
  | zero =>
    intro x3 h o hy
    rw [lp_c10_years_34.eq_1] at hy
    cases hy
  | succ k ih =>
    intro x3 h o hy hE
    rw [lp_c10_years_34.eq_2] at hy
    refine g_iload_n K d_c10_years_34 2 rfl ?_
    refine g_iload_n K d_c10_years_35 1 rfl ?_
    refine g_icmp_ge K d_c10_years_36 (fun c8 => ?_) (fun c8 => ?_)
    · rw [if_pos c8] at hy
      refine g_sub (ls2 := [(0, .ref a0)]) [0] rfl ?_
      obtain rfl := Option.some.inj hy
      exact hE
    · rw [if_neg c8] at hy
      refine g_aload_n K d_c10_years_39 0 rfl ?_
      obtain ⟨q9, e_q9, hy⟩ := gBd hy
      refine g_callVv (rest := []) K hx ly_c10_tryDrawn kv_c10_401 d_c10_years_40 (ct_c10_tryDrawn M.2.1 X hx N a0 h q9 e_q9) rfl rfl (Nat.le_of_ble_eq_true rfl) (gDep rfl) ⟨Nat.le_refl 0, Nat.le_refl 0⟩ ?_
      refine g_iinc (ls2 := [(3, .int (x3 + (1 : Int32))), (0, .ref a0), (2, .int x2)]) (v := 1) K d_c10_years_43 2 rfl (by decide) rfl rfl ?_
      refine g_goto K d_c10_years_46 ?_
      refine g_sub (ls2 := [(0, .ref a0), (2, .int x2), (3, .int (x3 + (1 : Int32)))]) [1, 2, 0] rfl ?_
      exact ih _ _ _ hy hE
set_option maxHeartbeats 4000000 in
set_option maxRecDepth 100000 in
theorem ct_c10_years (l : Launch) (X : gX) (hx : gEx X = false) (N : Nat) (a0 : Nat) (x1 : Int32) (x2 : Int32) (h : gH) (q : Int32 × gH) (hy : f_c10_years N a0 x1 x2 h = some q) : gRc y_c10_years h a0 ∧ gMi l X y_c10_years b_c10_years 4 .int (6 + N) 0 0 [.ref a0, .int x1, .int x2] h q.1 q.2 := by
  unfold f_c10_years at hy
  obtain ⟨u0, e_u0, hy⟩ := gBd hy
  cases u0
  refine ⟨Or.inl ⟨10, _, _, e_u0, rfl⟩, gMet_i (lsx := [(0, .ref a0), (1, .int x1), (2, .int x2)]) (by decide) rfl rfl ?_⟩
  intro M hMl K hret
  subst hMl
  refine g_iload_n K d_c10_years_0 2 rfl ?_
  refine g_iconst (v := 1) K d_c10_years_1 (by decide) ?_
  refine g_icmp_lt K d_c10_years_2 (fun c1 => ?_) (fun c1 => ?_)
  · rw [if_pos c1] at hy
    refine g_iconst (v := (-1)) K d_c10_years_11 (by decide) ?_
    obtain rfl := Option.some.inj hy
    exact hret rfl _ _ _ d_c10_years_12
  · rw [if_neg c1] at hy
    refine g_iload_n K d_c10_years_5 2 rfl ?_
    refine g_bipush (v := 60) K d_c10_years_6 (by decide) ?_
    refine g_icmp_le K d_c10_years_8 (fun c2 => ?_) (fun c2 => ?_)
    · rw [if_pos c2] at hy
      refine g_aload_n K d_c10_years_13 0 rfl ?_
      obtain ⟨v3, e_v3, hy⟩ := gBd hy
      refine g_getR K fl_c10_40 d_c10_years_14 e_v3 ?_
      refine g_aload_n K d_c10_years_17 0 rfl ?_
      obtain ⟨v4, e_v4, hy⟩ := gBd hy
      refine g_getR K fl_c10_33 d_c10_years_18 e_v4 ?_
      obtain ⟨q5, e_q5, hy⟩ := gBd hy
      refine g_callVv (rest := []) K hx ly_c7_take kv_c10_124 d_c10_years_21 (ct_c7_take M.2.1 X hx N v3 v4 h q5 e_q5) rfl rfl (Nat.le_of_ble_eq_true rfl) (gDep rfl) ⟨Nat.le_refl 0, Nat.le_refl 0⟩ ?_
      refine g_aload_n K d_c10_years_24 0 rfl ?_
      obtain ⟨v6, e_v6, hy⟩ := gBd hy
      refine g_getR K fl_c10_74 d_c10_years_25 e_v6 ?_
      refine g_iload_n K d_c10_years_28 1 rfl ?_
      obtain ⟨q7, e_q7, hy⟩ := gBd hy
      refine g_callVv (rest := []) K hx ly_c3_begin kv_c10_398 d_c10_years_29 (ct_c3_begin M.2.1 X hx N v6 x1 q5 q7 e_q7) rfl rfl (Nat.le_of_ble_eq_true rfl) (gDep rfl) ⟨Nat.le_refl 0, Nat.le_refl 0⟩ ?_
      refine g_iconst (v := 0) K d_c10_years_32 (by decide) ?_
      refine g_istore_n (ls2 := [(3, .int (0 : Int32)), (0, .ref a0), (1, .int x1), (2, .int x2)]) K d_c10_years_33 rfl rfl ?_
      obtain ⟨o10, e_o10, hy⟩ := gBd hy
      refine g_sub (ls2 := [(0, .ref a0), (2, .int x2), (3, .int (0 : Int32))]) [1, 3, 0] rfl ?_
      refine wlp_c10_years_34 hx K a0 x2 N (0 : Int32) q7 o10 e_o10 ?_
      refine g_aload_n K d_c10_years_49 0 rfl ?_
      refine g_aload_n K d_c10_years_50 0 rfl ?_
      obtain ⟨v11, e_v11, hy⟩ := gBd hy
      refine g_getR K fl_c10_40 d_c10_years_51 e_v11 ?_
      obtain ⟨q12, e_q12, hy⟩ := gBd hy
      refine g_callVi (rest := [.ref a0]) K hx ly_c7_waterOfAll kv_c10_192 d_c10_years_54 (ct_c7_waterOfAll M.2.1 X hx N v11 o10 q12 e_q12) rfl rfl (Nat.le_of_ble_eq_true rfl) (gDep rfl) ⟨Nat.le_refl 0, Nat.le_refl 0⟩ ?_
      refine g_aload_n K d_c10_years_57 0 rfl ?_
      obtain ⟨v13, e_v13, hy⟩ := gBd hy
      refine g_getR K fl_c10_40 d_c10_years_58 e_v13 ?_
      obtain ⟨v14, e_v14, hy⟩ := gBd hy
      refine g_getI K fl_c10_132 d_c10_years_61 e_v14 ?_
      refine g_i2l K d_c10_years_64 ?_
      refine g_aload_n K d_c10_years_65 0 rfl ?_
      obtain ⟨v15, e_v15, hy⟩ := gBd hy
      refine g_getR K fl_c10_40 d_c10_years_66 e_v15 ?_
      obtain ⟨v16, e_v16, hy⟩ := gBd hy
      refine g_getI K fl_c10_404 d_c10_years_69 e_v16 ?_
      refine g_aload_n K d_c10_years_72 0 rfl ?_
      obtain ⟨v17, e_v17, hy⟩ := gBd hy
      refine g_getR K fl_c10_33 d_c10_years_73 e_v17 ?_
      obtain ⟨v18, e_v18, hy⟩ := gBd hy
      refine g_getI K fl_c10_404 d_c10_years_76 e_v18 ?_
      refine g_isub K d_c10_years_79 ?_
      refine g_i2l K d_c10_years_80 ?_
      obtain ⟨q19, e_q19, hy⟩ := gBd hy
      refine g_callVi (rest := []) K hx ly_c10_tellTwo kv_c10_205 d_c10_years_81 (ct_c10_tellTwo M.2.1 X hx N a0 q12 v14.toInt64 ((v16 - v18).toInt64) o10 q19 e_q19) rfl rfl (Nat.le_of_ble_eq_true rfl) (gDep rfl) ⟨Nat.le_refl 0, Nat.le_refl 0⟩ ?_
      obtain rfl := Option.some.inj hy
      exact hret rfl _ _ _ d_c10_years_84
    · rw [if_neg c2] at hy
      refine g_iconst (v := (-1)) K d_c10_years_11 (by decide) ?_
      obtain rfl := Option.some.inj hy
      exact hret rfl _ _ _ d_c10_years_12
-- c11 fitting
theorem d_c11_fitting_0 : gD b_c11_fitting 0 (.iconst 0) 1 1 := ⟨by decide +kernel, rfl⟩
theorem d_c11_fitting_1 : gD b_c11_fitting 1 (.istore_n 1) 1 2 := ⟨by decide +kernel, rfl⟩
theorem d_c11_fitting_2 : gD b_c11_fitting 2 (.iconst 0) 1 3 := ⟨by decide +kernel, rfl⟩
theorem d_c11_fitting_3 : gD b_c11_fitting 3 (.istore_n 2) 1 4 := ⟨by decide +kernel, rfl⟩
theorem d_c11_fitting_4 : gD b_c11_fitting 4 (.iload_n 2) 1 5 := ⟨by decide +kernel, rfl⟩
theorem d_c11_fitting_5 : gD b_c11_fitting 5 (.aload_n 0) 1 6 := ⟨by decide +kernel, rfl⟩
theorem d_c11_fitting_6 : gD b_c11_fitting 6 (.getfield 9) 3 9 := ⟨by decide +kernel, rfl⟩
theorem d_c11_fitting_9 : gD b_c11_fitting 9 (.bipush 40) 2 11 := ⟨by decide +kernel, rfl⟩
theorem d_c11_fitting_11 : gD b_c11_fitting 11 .iaload 1 12 := ⟨by decide +kernel, rfl⟩
theorem d_c11_fitting_12 : gJ b_c11_fitting 12 (.if_icmp .ge 75) 3 75 15 87 := ⟨by decide +kernel, rfl, by decide⟩
theorem d_c11_fitting_15 : gD b_c11_fitting 15 (.iconst 1) 1 16 := ⟨by decide +kernel, rfl⟩
theorem d_c11_fitting_16 : gD b_c11_fitting 16 (.istore_n 3) 1 17 := ⟨by decide +kernel, rfl⟩
theorem d_c11_fitting_17 : gD b_c11_fitting 17 (.iconst 0) 1 18 := ⟨by decide +kernel, rfl⟩
theorem d_c11_fitting_18 : gD b_c11_fitting 18 (.istore 4) 2 20 := ⟨by decide +kernel, rfl⟩
theorem d_c11_fitting_20 : gD b_c11_fitting 20 (.iload 4) 2 22 := ⟨by decide +kernel, rfl⟩
theorem d_c11_fitting_22 : gD b_c11_fitting 22 (.aload_n 0) 1 23 := ⟨by decide +kernel, rfl⟩
theorem d_c11_fitting_23 : gD b_c11_fitting 23 (.getfield 339) 3 26 := ⟨by decide +kernel, rfl⟩
theorem d_c11_fitting_26 : gJ b_c11_fitting 26 (.if_icmp .ge 41) 3 41 29 67 := ⟨by decide +kernel, rfl, by decide⟩
theorem d_c11_fitting_29 : gD b_c11_fitting 29 (.iload_n 3) 1 30 := ⟨by decide +kernel, rfl⟩
theorem d_c11_fitting_30 : gJ b_c11_fitting 30 (.ifCond .eq 29) 3 29 33 59 := ⟨by decide +kernel, rfl, by decide⟩
theorem d_c11_fitting_33 : gD b_c11_fitting 33 (.aload_n 0) 1 34 := ⟨by decide +kernel, rfl⟩
theorem d_c11_fitting_34 : gD b_c11_fitting 34 (.iload_n 2) 1 35 := ⟨by decide +kernel, rfl⟩
theorem d_c11_fitting_35 : gD b_c11_fitting 35 (.aload_n 0) 1 36 := ⟨by decide +kernel, rfl⟩
theorem d_c11_fitting_36 : gD b_c11_fitting 36 (.getfield 73) 3 39 := ⟨by decide +kernel, rfl⟩
theorem d_c11_fitting_39 : gD b_c11_fitting 39 (.iload 4) 2 41 := ⟨by decide +kernel, rfl⟩
theorem d_c11_fitting_41 : gD b_c11_fitting 41 .iaload 1 42 := ⟨by decide +kernel, rfl⟩
theorem d_c11_fitting_42 : gD b_c11_fitting 42 (.aload_n 0) 1 43 := ⟨by decide +kernel, rfl⟩
theorem d_c11_fitting_43 : gD b_c11_fitting 43 (.getfield 76) 3 46 := ⟨by decide +kernel, rfl⟩
theorem d_c11_fitting_46 : gD b_c11_fitting 46 (.iload 4) 2 48 := ⟨by decide +kernel, rfl⟩
theorem d_c11_fitting_48 : gD b_c11_fitting 48 .iaload 1 49 := ⟨by decide +kernel, rfl⟩
theorem d_c11_fitting_49 : gD b_c11_fitting 49 (.invokevirtual 345) 3 52 := ⟨by decide +kernel, rfl⟩
theorem d_c11_fitting_52 : gJ b_c11_fitting 52 (.ifCond .eq 7) 3 7 55 59 := ⟨by decide +kernel, rfl, by decide⟩
theorem d_c11_fitting_55 : gD b_c11_fitting 55 (.iconst 1) 1 56 := ⟨by decide +kernel, rfl⟩
theorem d_c11_fitting_56 : gJ b_c11_fitting 56 (.goto 4) 3 4 59 60 := ⟨by decide +kernel, rfl, by decide⟩
theorem d_c11_fitting_59 : gD b_c11_fitting 59 (.iconst 0) 1 60 := ⟨by decide +kernel, rfl⟩
theorem d_c11_fitting_60 : gD b_c11_fitting 60 (.istore_n 3) 1 61 := ⟨by decide +kernel, rfl⟩
theorem d_c11_fitting_61 : gD b_c11_fitting 61 (.iinc 4 1) 3 64 := ⟨by decide +kernel, rfl⟩
theorem d_c11_fitting_64 : gJ b_c11_fitting 64 (.goto (-44)) 3 (-44) 67 20 := ⟨by decide +kernel, rfl, by decide⟩
theorem d_c11_fitting_67 : gD b_c11_fitting 67 (.iload_n 1) 1 68 := ⟨by decide +kernel, rfl⟩
theorem d_c11_fitting_68 : gD b_c11_fitting 68 (.iload_n 3) 1 69 := ⟨by decide +kernel, rfl⟩
theorem d_c11_fitting_69 : gJ b_c11_fitting 69 (.ifCond .eq 9) 3 9 72 78 := ⟨by decide +kernel, rfl, by decide⟩
theorem d_c11_fitting_72 : gD b_c11_fitting 72 (.iconst 1) 1 73 := ⟨by decide +kernel, rfl⟩
theorem d_c11_fitting_73 : gD b_c11_fitting 73 (.iload_n 2) 1 74 := ⟨by decide +kernel, rfl⟩
theorem d_c11_fitting_74 : gD b_c11_fitting 74 .ishl 1 75 := ⟨by decide +kernel, rfl⟩
theorem d_c11_fitting_75 : gJ b_c11_fitting 75 (.goto 4) 3 4 78 79 := ⟨by decide +kernel, rfl, by decide⟩
theorem d_c11_fitting_78 : gD b_c11_fitting 78 (.iconst 0) 1 79 := ⟨by decide +kernel, rfl⟩
theorem d_c11_fitting_79 : gD b_c11_fitting 79 .ior 1 80 := ⟨by decide +kernel, rfl⟩
theorem d_c11_fitting_80 : gD b_c11_fitting 80 (.istore_n 1) 1 81 := ⟨by decide +kernel, rfl⟩
theorem d_c11_fitting_81 : gD b_c11_fitting 81 (.iinc 2 1) 3 84 := ⟨by decide +kernel, rfl⟩
theorem d_c11_fitting_84 : gJ b_c11_fitting 84 (.goto (-80)) 3 (-80) 87 4 := ⟨by decide +kernel, rfl, by decide⟩
theorem d_c11_fitting_87 : gD b_c11_fitting 87 (.iload_n 1) 1 88 := ⟨by decide +kernel, rfl⟩
theorem d_c11_fitting_88 : gD b_c11_fitting 88 .ireturn 1 89 := ⟨by decide +kernel, rfl⟩
def lp_c11_fitting_20 (N : Nat) (a0 : Nat) (x2 : Int32) (h : gH) : Nat → Int32 → Int32 → Option (Int32)
  | 0, _, _ => none
  | k + 1, x3, x4 =>
  (gfI h a0 11 34).bind fun v4 =>
    if v4 ≤ x4 then
    some x3
  else
    (show Option (Int32) from if x3 = 0 then
    some (0 : Int32)
  else
    (gfR h a0 11 32).bind fun v9 =>
    (ga 0 h v9 x4).bind fun v10 =>
    (gfR h a0 11 33).bind fun v11 =>
    (ga 0 h v11 x4).bind fun v12 =>
    (f_c11_fits N a0 x2 v10 v12 h).bind fun q13 =>
    if q13 = 0 then
    some (0 : Int32)
  else
    some (1 : Int32)).bind fun t7 =>
    lp_c11_fitting_20 N a0 x2 h k t7 (x4 + (1 : Int32))
def lp_c11_fitting_4 (N : Nat) (a0 : Nat) (h : gH) : Nat → Int32 → Int32 → Option (Int32)
  | 0, _, _ => none
  | k + 1, x1, x2 =>
  (gfR h a0 11 0).bind fun v1 =>
    (ga 0 h v1 (40 : Int32)).bind fun v2 =>
    if v2 ≤ x2 then
    some x1
  else
    (lp_c11_fitting_20 N a0 x2 h N (1 : Int32) (0 : Int32)).bind fun o15 =>
    lp_c11_fitting_4 N a0 h k (x1 ||| (if o15 = 0 then (0 : Int32) else (1 : Int32) <<< (x2 &&& 31))) (x2 + (1 : Int32))
def f_c11_fitting (N : Nat) (a0 : Nat) (h : gH) : Option (Int32) :=
  (gcl h a0 11).bind fun _ =>
  (lp_c11_fitting_4 N a0 h N (0 : Int32) (0 : Int32)).bind fun o19 =>
    some o19
set_option maxHeartbeats 4000000 in
set_option maxRecDepth 100000 in
theorem wlp_c11_fitting_20 {M : gM} {X : gX} {N : Nat} (hx : gEx X = false) (K : gC M X gN11 b_c11_fitting 5 (gRm (6 + N) 0 0)) (a0 : Nat) (x2 : Int32) (x1 : Int32) (h : gH) : ∀ (k : Nat) (x3 : Int32) (x4 : Int32) (o : Int32), lp_c11_fitting_20 N a0 x2 h k x3 x4 = some o → gG M X 5 0 0 67 [(0, .ref a0), (1, .int x1), (2, .int x2), (3, .int o)] [] h → gG M X 5 0 0 20 [(0, .ref a0), (1, .int x1), (2, .int x2), (3, .int x3), (4, .int x4)] [] h := by
  intro k
  induction k with
  | zero =>
    intro x3 x4 o hy
    rw [lp_c11_fitting_20.eq_1] at hy
    cases hy
  | succ k ih =>
    intro x3 x4 o hy hE
    rw [lp_c11_fitting_20.eq_2] at hy
    refine g_iload K d_c11_fitting_20 4 rfl ?_
    refine g_aload_n K d_c11_fitting_22 0 rfl ?_
    obtain ⟨v4, e_v4, hy⟩ := gBd hy
    refine g_getI K fl_c11_339 d_c11_fitting_23 e_v4 ?_
    refine g_icmp_ge K d_c11_fitting_26 (fun c5 => ?_) (fun c5 => ?_)
    · rw [if_pos c5] at hy
      refine g_sub (ls2 := [(0, .ref a0), (1, .int x1), (2, .int x2), (3, .int x3)]) [0, 1, 2, 3] rfl ?_
      obtain rfl := Option.some.inj hy
      exact hE
    · rw [if_neg c5] at hy
      refine g_iload_n K d_c11_fitting_29 3 rfl ?_
      obtain ⟨t7, e_t7, hy⟩ := gBd hy
      have hJ8 : gG M X 5 0 0 60 [(0, .ref a0), (1, .int x1), (2, .int x2), (4, .int x4)] [.int t7] h := by
        refine g_istore_n (ls2 := [(3, .int t7), (0, .ref a0), (1, .int x1), (2, .int x2), (4, .int x4)]) K d_c11_fitting_60 rfl rfl ?_
        refine g_iinc (ls2 := [(4, .int (x4 + (1 : Int32))), (3, .int t7), (0, .ref a0), (1, .int x1), (2, .int x2)]) (v := 1) K d_c11_fitting_61 4 rfl (by decide) rfl rfl ?_
        refine g_goto K d_c11_fitting_64 ?_
        refine g_sub (ls2 := [(0, .ref a0), (1, .int x1), (2, .int x2), (3, .int t7), (4, .int (x4 + (1 : Int32)))]) [2, 3, 4, 1, 0] rfl ?_
        exact ih _ _ _ hy hE
      refine g_if_eq K d_c11_fitting_30 (fun c6 => ?_) (fun c6 => ?_)
      · rw [if_pos c6] at e_t7
        refine g_iconst (v := 0) K d_c11_fitting_59 (by decide) ?_
        refine g_sub (ls2 := [(0, .ref a0), (1, .int x1), (2, .int x2), (4, .int x4)]) [0, 1, 2, 4] rfl ?_
        obtain rfl := Option.some.inj e_t7
        exact hJ8
      · rw [if_neg c6] at e_t7
        refine g_aload_n K d_c11_fitting_33 0 rfl ?_
        refine g_iload_n K d_c11_fitting_34 2 rfl ?_
        refine g_aload_n K d_c11_fitting_35 0 rfl ?_
        obtain ⟨v9, e_v9, e_t7⟩ := gBd e_t7
        refine g_getR K fl_c11_73 d_c11_fitting_36 e_v9 ?_
        refine g_iload K d_c11_fitting_39 4 rfl ?_
        obtain ⟨v10, e_v10, e_t7⟩ := gBd e_t7
        refine g_iald K d_c11_fitting_41 e_v10 ?_
        refine g_aload_n K d_c11_fitting_42 0 rfl ?_
        obtain ⟨v11, e_v11, e_t7⟩ := gBd e_t7
        refine g_getR K fl_c11_76 d_c11_fitting_43 e_v11 ?_
        refine g_iload K d_c11_fitting_46 4 rfl ?_
        obtain ⟨v12, e_v12, e_t7⟩ := gBd e_t7
        refine g_iald K d_c11_fitting_48 e_v12 ?_
        obtain ⟨q13, e_q13, e_t7⟩ := gBd e_t7
        refine g_callVi (rest := []) K hx ly_c11_fits kv_c11_345 d_c11_fitting_49 (ct_c11_fits M.2.1 X hx N a0 x2 v10 v12 h q13 e_q13) rfl rfl (Nat.le_of_ble_eq_true rfl) (gDep rfl) ⟨Nat.le_refl 0, Nat.le_refl 0⟩ ?_
        refine g_if_eq K d_c11_fitting_52 (fun c14 => ?_) (fun c14 => ?_)
        · rw [if_pos c14] at e_t7
          refine g_iconst (v := 0) K d_c11_fitting_59 (by decide) ?_
          refine g_sub (ls2 := [(0, .ref a0), (1, .int x1), (2, .int x2), (4, .int x4)]) [0, 1, 2, 4] rfl ?_
          obtain rfl := Option.some.inj e_t7
          exact hJ8
        · rw [if_neg c14] at e_t7
          refine g_iconst (v := 1) K d_c11_fitting_55 (by decide) ?_
          refine g_goto K d_c11_fitting_56 ?_
          refine g_sub (ls2 := [(0, .ref a0), (1, .int x1), (2, .int x2), (4, .int x4)]) [0, 1, 2, 4] rfl ?_
          obtain rfl := Option.some.inj e_t7
          exact hJ8
set_option maxHeartbeats 4000000 in
set_option maxRecDepth 100000 in
theorem wlp_c11_fitting_4 {M : gM} {X : gX} {N : Nat} (hx : gEx X = false) (K : gC M X gN11 b_c11_fitting 5 (gRm (6 + N) 0 0)) (a0 : Nat) (h : gH) : ∀ (k : Nat) (x1 : Int32) (x2 : Int32) (o : Int32), lp_c11_fitting_4 N a0 h k x1 x2 = some o → gG M X 5 0 0 87 [(1, .int o)] [] h → gG M X 5 0 0 4 [(0, .ref a0), (1, .int x1), (2, .int x2)] [] h := by
  intro k
  induction k with
  | zero =>
    intro x1 x2 o hy
    rw [lp_c11_fitting_4.eq_1] at hy
    cases hy
  | succ k ih =>
    intro x1 x2 o hy hE
    rw [lp_c11_fitting_4.eq_2] at hy
    refine g_iload_n K d_c11_fitting_4 2 rfl ?_
    refine g_aload_n K d_c11_fitting_5 0 rfl ?_
    obtain ⟨v1, e_v1, hy⟩ := gBd hy
    refine g_getR K fl_c11_9 d_c11_fitting_6 e_v1 ?_
    refine g_bipush (v := 40) K d_c11_fitting_9 (by decide) ?_
    obtain ⟨v2, e_v2, hy⟩ := gBd hy
    refine g_iald K d_c11_fitting_11 e_v2 ?_
    refine g_icmp_ge K d_c11_fitting_12 (fun c3 => ?_) (fun c3 => ?_)
    · rw [if_pos c3] at hy
      refine g_sub (ls2 := [(1, .int x1)]) [1] rfl ?_
      obtain rfl := Option.some.inj hy
      exact hE
    · rw [if_neg c3] at hy
      refine g_iconst (v := 1) K d_c11_fitting_15 (by decide) ?_
      refine g_istore_n (ls2 := [(3, .int (1 : Int32)), (0, .ref a0), (1, .int x1), (2, .int x2)]) K d_c11_fitting_16 rfl rfl ?_
      refine g_iconst (v := 0) K d_c11_fitting_17 (by decide) ?_
      refine g_istore (ls2 := [(4, .int (0 : Int32)), (3, .int (1 : Int32)), (0, .ref a0), (1, .int x1), (2, .int x2)]) K d_c11_fitting_18 rfl rfl ?_
      obtain ⟨o15, e_o15, hy⟩ := gBd hy
      refine g_sub (ls2 := [(0, .ref a0), (1, .int x1), (2, .int x2), (3, .int (1 : Int32)), (4, .int (0 : Int32))]) [2, 3, 4, 1, 0] rfl ?_
      refine wlp_c11_fitting_20 hx K a0 x2 x1 h N (1 : Int32) (0 : Int32) o15 e_o15 ?_
      refine g_iload_n K d_c11_fitting_67 1 rfl ?_
      refine g_iload_n K d_c11_fitting_68 3 rfl ?_
      have hJ18 : ∀ w17 : Int32, w17 = (if o15 = 0 then (0 : Int32) else (1 : Int32) <<< (x2 &&& 31)) → gG M X 5 0 0 79 [(0, .ref a0), (1, .int x1), (2, .int x2), (3, .int o15)] [.int w17, .int x1] h := by
        intro w17 e_w17
        subst e_w17
        refine g_ior K d_c11_fitting_79 ?_
        refine g_istore_n (ls2 := [(1, .int (x1 ||| (if o15 = 0 then (0 : Int32) else (1 : Int32) <<< (x2 &&& 31)))), (0, .ref a0), (2, .int x2), (3, .int o15)]) K d_c11_fitting_80 rfl rfl ?_
        refine g_iinc (ls2 := [(2, .int (x2 + (1 : Int32))), (1, .int (x1 ||| (if o15 = 0 then (0 : Int32) else (1 : Int32) <<< (x2 &&& 31)))), (0, .ref a0), (3, .int o15)]) (v := 1) K d_c11_fitting_81 2 rfl (by decide) rfl rfl ?_
        refine g_goto K d_c11_fitting_84 ?_
        refine g_sub (ls2 := [(0, .ref a0), (1, .int (x1 ||| (if o15 = 0 then (0 : Int32) else (1 : Int32) <<< (x2 &&& 31)))), (2, .int (x2 + (1 : Int32)))]) [2, 1, 0] rfl ?_
        exact ih _ _ _ hy hE
      refine g_if_eq K d_c11_fitting_69 (fun c16 => ?_) (fun c16 => ?_)
      · refine g_iconst (v := 0) K d_c11_fitting_78 (by decide) ?_
        exact hJ18 _ (by rw [if_pos c16])
      · refine g_iconst (v := 1) K d_c11_fitting_72 (by decide) ?_
        refine g_iload_n K d_c11_fitting_73 2 rfl ?_
        refine g_ishl K d_c11_fitting_74 ?_
        refine g_goto K d_c11_fitting_75 ?_
        exact hJ18 _ (by rw [if_neg c16])
set_option maxHeartbeats 4000000 in
set_option maxRecDepth 100000 in
theorem ct_c11_fitting (l : Launch) (X : gX) (hx : gEx X = false) (N : Nat) (a0 : Nat) (h : gH) (q : Int32) (hy : f_c11_fitting N a0 h = some q) : gRc y_c11_fitting h a0 ∧ gMi l X y_c11_fitting b_c11_fitting 5 .int (6 + N) 0 0 [.ref a0] h q h := by
  unfold f_c11_fitting at hy
  obtain ⟨u0, e_u0, hy⟩ := gBd hy
  cases u0
  refine ⟨Or.inl ⟨11, _, _, e_u0, rfl⟩, gMet_i (lsx := [(0, .ref a0)]) (by decide) rfl rfl ?_⟩
  intro M hMl K hret
  subst hMl
  refine g_iconst (v := 0) K d_c11_fitting_0 (by decide) ?_
  refine g_istore_n (ls2 := [(1, .int (0 : Int32)), (0, .ref a0)]) K d_c11_fitting_1 rfl rfl ?_
  refine g_iconst (v := 0) K d_c11_fitting_2 (by decide) ?_
  refine g_istore_n (ls2 := [(2, .int (0 : Int32)), (1, .int (0 : Int32)), (0, .ref a0)]) K d_c11_fitting_3 rfl rfl ?_
  obtain ⟨o19, e_o19, hy⟩ := gBd hy
  refine g_sub (ls2 := [(0, .ref a0), (1, .int (0 : Int32)), (2, .int (0 : Int32))]) [2, 1, 0] rfl ?_
  refine wlp_c11_fitting_4 hx K a0 h N (0 : Int32) (0 : Int32) o19 e_o19 ?_
  refine g_iload_n K d_c11_fitting_87 0 rfl ?_
  obtain rfl := Option.some.inj hy
  exact hret rfl _ _ _ d_c11_fitting_88
-- c11 flowOf
theorem d_c11_flowOf_0 : gD b_c11_flowOf 0 (.aload_n 1) 1 1 := ⟨by decide +kernel, rfl⟩
theorem d_c11_flowOf_1 : gD b_c11_flowOf 1 (.iload_n 2) 1 2 := ⟨by decide +kernel, rfl⟩
theorem d_c11_flowOf_2 : gD b_c11_flowOf 2 (.invokestatic 217) 3 5 := ⟨by decide +kernel, rfl⟩
theorem d_c11_flowOf_5 : gD b_c11_flowOf 5 (.aload_n 1) 1 6 := ⟨by decide +kernel, rfl⟩
theorem d_c11_flowOf_6 : gD b_c11_flowOf 6 (.bipush 24) 2 8 := ⟨by decide +kernel, rfl⟩
theorem d_c11_flowOf_8 : gD b_c11_flowOf 8 (.iload_n 2) 1 9 := ⟨by decide +kernel, rfl⟩
theorem d_c11_flowOf_9 : gD b_c11_flowOf 9 .iadd 1 10 := ⟨by decide +kernel, rfl⟩
theorem d_c11_flowOf_10 : gD b_c11_flowOf 10 .iaload 1 11 := ⟨by decide +kernel, rfl⟩
theorem d_c11_flowOf_11 : gD b_c11_flowOf 11 (.iconst 2) 1 12 := ⟨by decide +kernel, rfl⟩
theorem d_c11_flowOf_12 : gD b_c11_flowOf 12 .imul 1 13 := ⟨by decide +kernel, rfl⟩
theorem d_c11_flowOf_13 : gD b_c11_flowOf 13 .isub 1 14 := ⟨by decide +kernel, rfl⟩
theorem d_c11_flowOf_14 : gD b_c11_flowOf 14 (.istore_n 3) 1 15 := ⟨by decide +kernel, rfl⟩
theorem d_c11_flowOf_15 : gD b_c11_flowOf 15 (.aload_n 0) 1 16 := ⟨by decide +kernel, rfl⟩
theorem d_c11_flowOf_16 : gD b_c11_flowOf 16 (.getfield 214) 3 19 := ⟨by decide +kernel, rfl⟩
theorem d_c11_flowOf_19 : gJ b_c11_flowOf 19 (.ifCond .le 162) 3 162 22 181 := ⟨by decide +kernel, rfl, by decide⟩
theorem d_c11_flowOf_22 : gD b_c11_flowOf 22 (.iconst 0) 1 23 := ⟨by decide +kernel, rfl⟩
theorem d_c11_flowOf_23 : gD b_c11_flowOf 23 (.istore 4) 2 25 := ⟨by decide +kernel, rfl⟩
theorem d_c11_flowOf_25 : gD b_c11_flowOf 25 (.iconst 0) 1 26 := ⟨by decide +kernel, rfl⟩
theorem d_c11_flowOf_26 : gD b_c11_flowOf 26 (.istore 5) 2 28 := ⟨by decide +kernel, rfl⟩
theorem d_c11_flowOf_28 : gD b_c11_flowOf 28 (.iload 5) 2 30 := ⟨by decide +kernel, rfl⟩
theorem d_c11_flowOf_30 : gD b_c11_flowOf 30 (.aload_n 0) 1 31 := ⟨by decide +kernel, rfl⟩
theorem d_c11_flowOf_31 : gD b_c11_flowOf 31 (.getfield 109) 3 34 := ⟨by decide +kernel, rfl⟩
theorem d_c11_flowOf_34 : gJ b_c11_flowOf 34 (.if_icmp .ge 37) 3 37 37 71 := ⟨by decide +kernel, rfl, by decide⟩
theorem d_c11_flowOf_37 : gD b_c11_flowOf 37 (.iload 4) 2 39 := ⟨by decide +kernel, rfl⟩
theorem d_c11_flowOf_39 : gD b_c11_flowOf 39 (.aload_n 0) 1 40 := ⟨by decide +kernel, rfl⟩
theorem d_c11_flowOf_40 : gD b_c11_flowOf 40 (.aload_n 0) 1 41 := ⟨by decide +kernel, rfl⟩
theorem d_c11_flowOf_41 : gD b_c11_flowOf 41 (.getfield 20) 3 44 := ⟨by decide +kernel, rfl⟩
theorem d_c11_flowOf_44 : gD b_c11_flowOf 44 (.iload 5) 2 46 := ⟨by decide +kernel, rfl⟩
theorem d_c11_flowOf_46 : gD b_c11_flowOf 46 .iaload 1 47 := ⟨by decide +kernel, rfl⟩
theorem d_c11_flowOf_47 : gD b_c11_flowOf 47 (.aload_n 1) 1 48 := ⟨by decide +kernel, rfl⟩
theorem d_c11_flowOf_48 : gD b_c11_flowOf 48 (.iload_n 2) 1 49 := ⟨by decide +kernel, rfl⟩
theorem d_c11_flowOf_49 : gD b_c11_flowOf 49 .iaload 1 50 := ⟨by decide +kernel, rfl⟩
theorem d_c11_flowOf_50 : gD b_c11_flowOf 50 (.invokevirtual 220) 3 53 := ⟨by decide +kernel, rfl⟩
theorem d_c11_flowOf_53 : gD b_c11_flowOf 53 (.iconst 2) 1 54 := ⟨by decide +kernel, rfl⟩
theorem d_c11_flowOf_54 : gJ b_c11_flowOf 54 (.if_icmp .gt 7) 3 7 57 61 := ⟨by decide +kernel, rfl, by decide⟩
theorem d_c11_flowOf_57 : gD b_c11_flowOf 57 (.iconst 1) 1 58 := ⟨by decide +kernel, rfl⟩
theorem d_c11_flowOf_58 : gJ b_c11_flowOf 58 (.goto 4) 3 4 61 62 := ⟨by decide +kernel, rfl, by decide⟩
theorem d_c11_flowOf_61 : gD b_c11_flowOf 61 (.iconst 0) 1 62 := ⟨by decide +kernel, rfl⟩
theorem d_c11_flowOf_62 : gD b_c11_flowOf 62 .iadd 1 63 := ⟨by decide +kernel, rfl⟩
theorem d_c11_flowOf_63 : gD b_c11_flowOf 63 (.istore 4) 2 65 := ⟨by decide +kernel, rfl⟩
theorem d_c11_flowOf_65 : gD b_c11_flowOf 65 (.iinc 5 1) 3 68 := ⟨by decide +kernel, rfl⟩
theorem d_c11_flowOf_68 : gJ b_c11_flowOf 68 (.goto (-40)) 3 (-40) 71 28 := ⟨by decide +kernel, rfl, by decide⟩
theorem d_c11_flowOf_71 : gD b_c11_flowOf 71 (.aload_n 0) 1 72 := ⟨by decide +kernel, rfl⟩
theorem d_c11_flowOf_72 : gD b_c11_flowOf 72 (.getfield 43) 3 75 := ⟨by decide +kernel, rfl⟩
theorem d_c11_flowOf_75 : gD b_c11_flowOf 75 (.iconst 0) 1 76 := ⟨by decide +kernel, rfl⟩
theorem d_c11_flowOf_76 : gD b_c11_flowOf 76 (.aload_n 1) 1 77 := ⟨by decide +kernel, rfl⟩
theorem d_c11_flowOf_77 : gD b_c11_flowOf 77 (.bipush 8) 2 79 := ⟨by decide +kernel, rfl⟩
theorem d_c11_flowOf_79 : gD b_c11_flowOf 79 (.iload_n 2) 1 80 := ⟨by decide +kernel, rfl⟩
theorem d_c11_flowOf_80 : gD b_c11_flowOf 80 .iadd 1 81 := ⟨by decide +kernel, rfl⟩
theorem d_c11_flowOf_81 : gD b_c11_flowOf 81 .iaload 1 82 := ⟨by decide +kernel, rfl⟩
theorem d_c11_flowOf_82 : gD b_c11_flowOf 82 .iastore 1 83 := ⟨by decide +kernel, rfl⟩
theorem d_c11_flowOf_83 : gD b_c11_flowOf 83 (.aload_n 0) 1 84 := ⟨by decide +kernel, rfl⟩
theorem d_c11_flowOf_84 : gD b_c11_flowOf 84 (.getfield 43) 3 87 := ⟨by decide +kernel, rfl⟩
theorem d_c11_flowOf_87 : gD b_c11_flowOf 87 (.iconst 1) 1 88 := ⟨by decide +kernel, rfl⟩
theorem d_c11_flowOf_88 : gD b_c11_flowOf 88 (.aload_n 1) 1 89 := ⟨by decide +kernel, rfl⟩
theorem d_c11_flowOf_89 : gD b_c11_flowOf 89 (.iload_n 2) 1 90 := ⟨by decide +kernel, rfl⟩
theorem d_c11_flowOf_90 : gD b_c11_flowOf 90 (.invokestatic 217) 3 93 := ⟨by decide +kernel, rfl⟩
theorem d_c11_flowOf_93 : gD b_c11_flowOf 93 .iastore 1 94 := ⟨by decide +kernel, rfl⟩
theorem d_c11_flowOf_94 : gD b_c11_flowOf 94 (.aload_n 0) 1 95 := ⟨by decide +kernel, rfl⟩
theorem d_c11_flowOf_95 : gD b_c11_flowOf 95 (.getfield 43) 3 98 := ⟨by decide +kernel, rfl⟩
theorem d_c11_flowOf_98 : gD b_c11_flowOf 98 (.iconst 2) 1 99 := ⟨by decide +kernel, rfl⟩
theorem d_c11_flowOf_99 : gD b_c11_flowOf 99 (.aload_n 1) 1 100 := ⟨by decide +kernel, rfl⟩
theorem d_c11_flowOf_100 : gD b_c11_flowOf 100 (.bipush 24) 2 102 := ⟨by decide +kernel, rfl⟩
theorem d_c11_flowOf_102 : gD b_c11_flowOf 102 (.iload_n 2) 1 103 := ⟨by decide +kernel, rfl⟩
theorem d_c11_flowOf_103 : gD b_c11_flowOf 103 .iadd 1 104 := ⟨by decide +kernel, rfl⟩
theorem d_c11_flowOf_104 : gD b_c11_flowOf 104 .iaload 1 105 := ⟨by decide +kernel, rfl⟩
theorem d_c11_flowOf_105 : gD b_c11_flowOf 105 .iastore 1 106 := ⟨by decide +kernel, rfl⟩
theorem d_c11_flowOf_106 : gD b_c11_flowOf 106 (.aload_n 0) 1 107 := ⟨by decide +kernel, rfl⟩
theorem d_c11_flowOf_107 : gD b_c11_flowOf 107 (.getfield 43) 3 110 := ⟨by decide +kernel, rfl⟩
theorem d_c11_flowOf_110 : gD b_c11_flowOf 110 (.iconst 3) 1 111 := ⟨by decide +kernel, rfl⟩
theorem d_c11_flowOf_111 : gD b_c11_flowOf 111 (.aload_n 1) 1 112 := ⟨by decide +kernel, rfl⟩
theorem d_c11_flowOf_112 : gD b_c11_flowOf 112 (.bipush 16) 2 114 := ⟨by decide +kernel, rfl⟩
theorem d_c11_flowOf_114 : gD b_c11_flowOf 114 (.iload_n 2) 1 115 := ⟨by decide +kernel, rfl⟩
theorem d_c11_flowOf_115 : gD b_c11_flowOf 115 .iadd 1 116 := ⟨by decide +kernel, rfl⟩
theorem d_c11_flowOf_116 : gD b_c11_flowOf 116 .iaload 1 117 := ⟨by decide +kernel, rfl⟩
theorem d_c11_flowOf_117 : gD b_c11_flowOf 117 .iastore 1 118 := ⟨by decide +kernel, rfl⟩
theorem d_c11_flowOf_118 : gD b_c11_flowOf 118 (.aload_n 0) 1 119 := ⟨by decide +kernel, rfl⟩
theorem d_c11_flowOf_119 : gD b_c11_flowOf 119 (.getfield 43) 3 122 := ⟨by decide +kernel, rfl⟩
theorem d_c11_flowOf_122 : gD b_c11_flowOf 122 (.iconst 4) 1 123 := ⟨by decide +kernel, rfl⟩
theorem d_c11_flowOf_123 : gD b_c11_flowOf 123 (.iload 4) 2 125 := ⟨by decide +kernel, rfl⟩
theorem d_c11_flowOf_125 : gD b_c11_flowOf 125 .iastore 1 126 := ⟨by decide +kernel, rfl⟩
theorem d_c11_flowOf_126 : gD b_c11_flowOf 126 (.aload_n 0) 1 127 := ⟨by decide +kernel, rfl⟩
theorem d_c11_flowOf_127 : gD b_c11_flowOf 127 (.getfield 43) 3 130 := ⟨by decide +kernel, rfl⟩
theorem d_c11_flowOf_130 : gD b_c11_flowOf 130 (.iconst 5) 1 131 := ⟨by decide +kernel, rfl⟩
theorem d_c11_flowOf_131 : gD b_c11_flowOf 131 (.aload_n 1) 1 132 := ⟨by decide +kernel, rfl⟩
theorem d_c11_flowOf_132 : gD b_c11_flowOf 132 (.bipush 32) 2 134 := ⟨by decide +kernel, rfl⟩
theorem d_c11_flowOf_134 : gD b_c11_flowOf 134 (.iload_n 2) 1 135 := ⟨by decide +kernel, rfl⟩
theorem d_c11_flowOf_135 : gD b_c11_flowOf 135 .iadd 1 136 := ⟨by decide +kernel, rfl⟩
theorem d_c11_flowOf_136 : gD b_c11_flowOf 136 .iaload 1 137 := ⟨by decide +kernel, rfl⟩
theorem d_c11_flowOf_137 : gD b_c11_flowOf 137 .iastore 1 138 := ⟨by decide +kernel, rfl⟩
theorem d_c11_flowOf_138 : gD b_c11_flowOf 138 (.aload_n 0) 1 139 := ⟨by decide +kernel, rfl⟩
theorem d_c11_flowOf_139 : gD b_c11_flowOf 139 (.getfield 43) 3 142 := ⟨by decide +kernel, rfl⟩
theorem d_c11_flowOf_142 : gD b_c11_flowOf 142 (.bipush 6) 2 144 := ⟨by decide +kernel, rfl⟩
theorem d_c11_flowOf_144 : gD b_c11_flowOf 144 (.aload_n 1) 1 145 := ⟨by decide +kernel, rfl⟩
theorem d_c11_flowOf_145 : gD b_c11_flowOf 145 (.bipush 41) 2 147 := ⟨by decide +kernel, rfl⟩
theorem d_c11_flowOf_147 : gD b_c11_flowOf 147 .iaload 1 148 := ⟨by decide +kernel, rfl⟩
theorem d_c11_flowOf_148 : gD b_c11_flowOf 148 (.iconst 4) 1 149 := ⟨by decide +kernel, rfl⟩
theorem d_c11_flowOf_149 : gD b_c11_flowOf 149 .irem 1 150 := ⟨by decide +kernel, rfl⟩
theorem d_c11_flowOf_150 : gD b_c11_flowOf 150 .iastore 1 151 := ⟨by decide +kernel, rfl⟩
theorem d_c11_flowOf_151 : gD b_c11_flowOf 151 (.aload_n 0) 1 152 := ⟨by decide +kernel, rfl⟩
theorem d_c11_flowOf_152 : gD b_c11_flowOf 152 (.aload_n 0) 1 153 := ⟨by decide +kernel, rfl⟩
theorem d_c11_flowOf_153 : gD b_c11_flowOf 153 (.getfield 37) 3 156 := ⟨by decide +kernel, rfl⟩
theorem d_c11_flowOf_156 : gD b_c11_flowOf 156 (.aload_n 0) 1 157 := ⟨by decide +kernel, rfl⟩
theorem d_c11_flowOf_157 : gD b_c11_flowOf 157 (.getfield 214) 3 160 := ⟨by decide +kernel, rfl⟩
theorem d_c11_flowOf_160 : gD b_c11_flowOf 160 (.bipush 40) 2 162 := ⟨by decide +kernel, rfl⟩
theorem d_c11_flowOf_162 : gD b_c11_flowOf 162 (.invokevirtual 136) 3 165 := ⟨by decide +kernel, rfl⟩
theorem d_c11_flowOf_165 : gD b_c11_flowOf 165 (.aload_n 0) 1 166 := ⟨by decide +kernel, rfl⟩
theorem d_c11_flowOf_166 : gD b_c11_flowOf 166 (.iconst 1) 1 167 := ⟨by decide +kernel, rfl⟩
theorem d_c11_flowOf_167 : gD b_c11_flowOf 167 (.putfield 207) 3 170 := ⟨by decide +kernel, rfl⟩
theorem d_c11_flowOf_170 : gD b_c11_flowOf 170 (.aload_n 0) 1 171 := ⟨by decide +kernel, rfl⟩
theorem d_c11_flowOf_171 : gD b_c11_flowOf 171 (.iconst 0) 1 172 := ⟨by decide +kernel, rfl⟩
theorem d_c11_flowOf_172 : gD b_c11_flowOf 172 (.invokevirtual 194) 3 175 := ⟨by decide +kernel, rfl⟩
theorem d_c11_flowOf_175 : gD b_c11_flowOf 175 (.istore_n 3) 1 176 := ⟨by decide +kernel, rfl⟩
theorem d_c11_flowOf_176 : gD b_c11_flowOf 176 (.aload_n 0) 1 177 := ⟨by decide +kernel, rfl⟩
theorem d_c11_flowOf_177 : gD b_c11_flowOf 177 (.iconst 0) 1 178 := ⟨by decide +kernel, rfl⟩
theorem d_c11_flowOf_178 : gD b_c11_flowOf 178 (.putfield 207) 3 181 := ⟨by decide +kernel, rfl⟩
theorem d_c11_flowOf_181 : gD b_c11_flowOf 181 (.iconst 0) 1 182 := ⟨by decide +kernel, rfl⟩
theorem d_c11_flowOf_182 : gD b_c11_flowOf 182 (.bipush 9) 2 184 := ⟨by decide +kernel, rfl⟩
theorem d_c11_flowOf_184 : gD b_c11_flowOf 184 (.iload_n 3) 1 185 := ⟨by decide +kernel, rfl⟩
theorem d_c11_flowOf_185 : gD b_c11_flowOf 185 (.invokestatic 224) 3 188 := ⟨by decide +kernel, rfl⟩
theorem d_c11_flowOf_188 : gD b_c11_flowOf 188 (.invokestatic 227) 3 191 := ⟨by decide +kernel, rfl⟩
theorem d_c11_flowOf_191 : gD b_c11_flowOf 191 .ireturn 1 192 := ⟨by decide +kernel, rfl⟩
def lp_c11_flowOf_28 (N : Nat) (a0 : Nat) (a1 : Nat) (x2 : Int32) (h : gH) : Nat → Int32 → Int32 → Option (Int32)
  | 0, _, _ => none
  | k + 1, x4, x5 =>
  (gfI h a0 11 3).bind fun v7 =>
    if v7 ≤ x5 then
    some x4
  else
    (gfR h a0 11 4).bind fun v9 =>
    (ga 0 h v9 x5).bind fun v10 =>
    (ga 0 h a1 x2).bind fun v11 =>
    (f_c11_farOf N a0 v10 v11 h).bind fun q12 =>
    lp_c11_flowOf_28 N a0 a1 x2 h k (x4 + (if (2 : Int32) < q12 then (0 : Int32) else (1 : Int32))) (x5 + (1 : Int32))
def f_c11_flowOf (N : Nat) (a0 : Nat) (a1 : Nat) (x2 : Int32) (h : gH) : Option (Int32 × gH) :=
  (gcl h a0 11).bind fun _ =>
  (f_c11_depthOf N a1 x2 h).bind fun q1 =>
    (ga 0 h a1 ((24 : Int32) + x2)).bind fun v2 =>
    (gfI h a0 11 19).bind fun v3 =>
    (show Option (Int32 × gH) from if v3 ≤ 0 then
    some (q1 - (v2 * (2 : Int32)), h)
  else
    (lp_c11_flowOf_28 N a0 a1 x2 h N (0 : Int32) (0 : Int32)).bind fun o16 =>
    (gfR h a0 11 21).bind fun v17 =>
    (ga 0 h a1 ((8 : Int32) + x2)).bind fun v18 =>
    (sa 0 h v17 (0 : Int32) v18).bind fun h19 =>
    (gfR h19 a0 11 21).bind fun v20 =>
    (f_c11_depthOf N a1 x2 h19).bind fun q21 =>
    (sa 0 h19 v20 (1 : Int32) q21).bind fun h22 =>
    (gfR h22 a0 11 21).bind fun v23 =>
    (ga 0 h22 a1 ((24 : Int32) + x2)).bind fun v24 =>
    (sa 0 h22 v23 (2 : Int32) v24).bind fun h25 =>
    (gfR h25 a0 11 21).bind fun v26 =>
    (ga 0 h25 a1 ((16 : Int32) + x2)).bind fun v27 =>
    (sa 0 h25 v26 (3 : Int32) v27).bind fun h28 =>
    (gfR h28 a0 11 21).bind fun v29 =>
    (sa 0 h28 v29 (4 : Int32) o16).bind fun h30 =>
    (gfR h30 a0 11 21).bind fun v31 =>
    (ga 0 h30 a1 ((32 : Int32) + x2)).bind fun v32 =>
    (sa 0 h30 v31 (5 : Int32) v32).bind fun h33 =>
    (gfR h33 a0 11 21).bind fun v34 =>
    (ga 0 h33 a1 (41 : Int32)).bind fun v35 =>
    (gNZ (4 : Int32)).bind fun u36 =>
    (sa 0 h33 v34 (6 : Int32) (v35 - v35 / (4 : Int32) * (4 : Int32))).bind fun h37 =>
    (gfR h37 a0 11 17).bind fun v38 =>
    (gfI h37 a0 11 19).bind fun v39 =>
    (f_c11_begin N a0 v38 v39 (40 : Int32) h37).bind fun q40 =>
    (gZ (1 : Int32)).bind fun w41 =>
    (sf q40 a0 11 20 (.int w41)).bind fun h42 =>
    (f_c11_held N a0 (0 : Int32) h42).bind fun q43 =>
    (gZ (0 : Int32)).bind fun w44 =>
    (sf q43.2 a0 11 20 (.int w44)).bind fun h45 =>
    some (q43.1, h45)).bind fun t5 =>
    some (gmax (0 : Int32) (gmin (9 : Int32) t5.1), t5.2)
set_option maxHeartbeats 4000000 in
set_option maxRecDepth 100000 in
theorem wlp_c11_flowOf_28 {M : gM} {X : gX} {N : Nat} (hx : gEx X = false) (K : gC M X gN11 b_c11_flowOf 6 (gRm (6 + N) 0 0)) (a0 : Nat) (a1 : Nat) (x2 : Int32) (h : gH) : ∀ (k : Nat) (x4 : Int32) (x5 : Int32) (o : Int32), lp_c11_flowOf_28 N a0 a1 x2 h k x4 x5 = some o → gG M X 6 0 0 71 [(0, .ref a0), (1, .ref a1), (2, .int x2), (4, .int o)] [] h → gG M X 6 0 0 28 [(0, .ref a0), (1, .ref a1), (2, .int x2), (4, .int x4), (5, .int x5)] [] h := by
  intro k
  induction k with
  | zero =>
    intro x4 x5 o hy
    rw [lp_c11_flowOf_28.eq_1] at hy
    cases hy
  | succ k ih =>
    intro x4 x5 o hy hE
    rw [lp_c11_flowOf_28.eq_2] at hy
    refine g_iload K d_c11_flowOf_28 4 rfl ?_
    refine g_aload_n K d_c11_flowOf_30 0 rfl ?_
    obtain ⟨v7, e_v7, hy⟩ := gBd hy
    refine g_getI K fl_c11_109 d_c11_flowOf_31 e_v7 ?_
    refine g_icmp_ge K d_c11_flowOf_34 (fun c8 => ?_) (fun c8 => ?_)
    · rw [if_pos c8] at hy
      refine g_sub (ls2 := [(0, .ref a0), (1, .ref a1), (2, .int x2), (4, .int x4)]) [0, 1, 2, 3] rfl ?_
      obtain rfl := Option.some.inj hy
      exact hE
    · rw [if_neg c8] at hy
      refine g_iload K d_c11_flowOf_37 3 rfl ?_
      refine g_aload_n K d_c11_flowOf_39 0 rfl ?_
      refine g_aload_n K d_c11_flowOf_40 0 rfl ?_
      obtain ⟨v9, e_v9, hy⟩ := gBd hy
      refine g_getR K fl_c11_20 d_c11_flowOf_41 e_v9 ?_
      refine g_iload K d_c11_flowOf_44 4 rfl ?_
      obtain ⟨v10, e_v10, hy⟩ := gBd hy
      refine g_iald K d_c11_flowOf_46 e_v10 ?_
      refine g_aload_n K d_c11_flowOf_47 1 rfl ?_
      refine g_iload_n K d_c11_flowOf_48 2 rfl ?_
      obtain ⟨v11, e_v11, hy⟩ := gBd hy
      refine g_iald K d_c11_flowOf_49 e_v11 ?_
      obtain ⟨q12, e_q12, hy⟩ := gBd hy
      refine g_callVi (rest := [.int x4]) K hx ly_c11_farOf kv_c11_220 d_c11_flowOf_50 (ct_c11_farOf M.2.1 X hx N a0 v10 v11 h q12 e_q12) rfl rfl (Nat.le_of_ble_eq_true rfl) (gDep rfl) ⟨Nat.le_refl 0, Nat.le_refl 0⟩ ?_
      refine g_iconst (v := 2) K d_c11_flowOf_53 (by decide) ?_
      have hJ15 : ∀ w14 : Int32, w14 = (if (2 : Int32) < q12 then (0 : Int32) else (1 : Int32)) → gG M X 6 0 0 62 [(0, .ref a0), (1, .ref a1), (2, .int x2), (4, .int x4), (5, .int x5)] [.int w14, .int x4] h := by
        intro w14 e_w14
        subst e_w14
        refine g_iadd K d_c11_flowOf_62 ?_
        refine g_istore (ls2 := [(4, .int (x4 + (if (2 : Int32) < q12 then (0 : Int32) else (1 : Int32)))), (0, .ref a0), (1, .ref a1), (2, .int x2), (5, .int x5)]) K d_c11_flowOf_63 rfl rfl ?_
        refine g_iinc (ls2 := [(5, .int (x5 + (1 : Int32))), (4, .int (x4 + (if (2 : Int32) < q12 then (0 : Int32) else (1 : Int32)))), (0, .ref a0), (1, .ref a1), (2, .int x2)]) (v := 1) K d_c11_flowOf_65 4 rfl (by decide) rfl rfl ?_
        refine g_goto K d_c11_flowOf_68 ?_
        refine g_sub (ls2 := [(0, .ref a0), (1, .ref a1), (2, .int x2), (4, .int (x4 + (if (2 : Int32) < q12 then (0 : Int32) else (1 : Int32)))), (5, .int (x5 + (1 : Int32)))]) [2, 3, 4, 1, 0] rfl ?_
        exact ih _ _ _ hy hE
      refine g_icmp_gt K d_c11_flowOf_54 (fun c13 => ?_) (fun c13 => ?_)
      · refine g_iconst (v := 0) K d_c11_flowOf_61 (by decide) ?_
        exact hJ15 _ (by rw [if_pos c13])
      · refine g_iconst (v := 1) K d_c11_flowOf_57 (by decide) ?_
        refine g_goto K d_c11_flowOf_58 ?_
        exact hJ15 _ (by rw [if_neg c13])
set_option maxHeartbeats 4000000 in
set_option maxRecDepth 100000 in
theorem ct_c11_flowOf (l : Launch) (X : gX) (hx : gEx X = false) (N : Nat) (a0 : Nat) (a1 : Nat) (x2 : Int32) (h : gH) (q : Int32 × gH) (hy : f_c11_flowOf N a0 a1 x2 h = some q) : gRc y_c11_flowOf h a0 ∧ gMi l X y_c11_flowOf b_c11_flowOf 6 .int (6 + N) 0 0 [.ref a0, .ref a1, .int x2] h q.1 q.2 := by
  unfold f_c11_flowOf at hy
  obtain ⟨u0, e_u0, hy⟩ := gBd hy
  cases u0
  refine ⟨Or.inl ⟨11, _, _, e_u0, rfl⟩, gMet_i (lsx := [(0, .ref a0), (1, .ref a1), (2, .int x2)]) (by decide) rfl rfl ?_⟩
  intro M hMl K hret
  subst hMl
  refine g_aload_n K d_c11_flowOf_0 1 rfl ?_
  refine g_iload_n K d_c11_flowOf_1 2 rfl ?_
  obtain ⟨q1, e_q1, hy⟩ := gBd hy
  refine g_callSi (rest := []) K hx ly_c11_depthOf ks_c11_217 d_c11_flowOf_2 (ct_c11_depthOf M.2.1 X hx N a1 x2 h q1 e_q1) rfl rfl (Nat.le_of_ble_eq_true rfl) (gDep rfl) ⟨Nat.le_refl 0, Nat.le_refl 0⟩ ?_
  refine g_aload_n K d_c11_flowOf_5 1 rfl ?_
  refine g_bipush (v := 24) K d_c11_flowOf_6 (by decide) ?_
  refine g_iload_n K d_c11_flowOf_8 2 rfl ?_
  refine g_iadd K d_c11_flowOf_9 ?_
  obtain ⟨v2, e_v2, hy⟩ := gBd hy
  refine g_iald K d_c11_flowOf_10 e_v2 ?_
  refine g_iconst (v := 2) K d_c11_flowOf_11 (by decide) ?_
  refine g_imul K d_c11_flowOf_12 ?_
  refine g_isub K d_c11_flowOf_13 ?_
  refine g_istore_n (ls2 := [(3, .int (q1 - (v2 * (2 : Int32)))), (0, .ref a0), (1, .ref a1), (2, .int x2)]) K d_c11_flowOf_14 rfl rfl ?_
  refine g_aload_n K d_c11_flowOf_15 1 rfl ?_
  obtain ⟨v3, e_v3, hy⟩ := gBd hy
  refine g_getI K fl_c11_214 d_c11_flowOf_16 e_v3 ?_
  obtain ⟨t5, e_t5, hy⟩ := gBd hy
  have hJ6 : gG M X 6 0 0 181 [(3, .int t5.1)] [] t5.2 := by
    refine g_iconst (v := 0) K d_c11_flowOf_181 (by decide) ?_
    refine g_bipush (v := 9) K d_c11_flowOf_182 (by decide) ?_
    refine g_iload_n K d_c11_flowOf_184 0 rfl ?_
    refine g_mmin K d_c11_flowOf_185 (gTk_6 130 rfl rfl) (gTk_2 41 rfl rfl) (gTk_1 12 rfl rfl) (gTk_2 42 rfl rfl) (gDep1 rfl) (Nat.le_of_ble_eq_true rfl) ⟨Nat.le_refl 0, Nat.le_refl 0⟩ ?_
    refine g_mmax K d_c11_flowOf_188 (gTk_6 131 rfl rfl) (gTk_2 82 rfl rfl) (gTk_1 12 rfl rfl) (gTk_2 83 rfl rfl) (gDep1 rfl) (Nat.le_of_ble_eq_true rfl) ⟨Nat.le_refl 0, Nat.le_refl 0⟩ ?_
    obtain rfl := Option.some.inj hy
    exact hret rfl _ _ _ d_c11_flowOf_191
  refine g_if_le K d_c11_flowOf_19 (fun c4 => ?_) (fun c4 => ?_)
  · rw [if_pos c4] at e_t5
    refine g_sub (ls2 := [(3, .int (q1 - (v2 * (2 : Int32))))]) [0] rfl ?_
    obtain rfl := Option.some.inj e_t5
    exact hJ6
  · rw [if_neg c4] at e_t5
    refine g_iconst (v := 0) K d_c11_flowOf_22 (by decide) ?_
    refine g_istore (ls2 := [(4, .int (0 : Int32)), (3, .int (q1 - (v2 * (2 : Int32)))), (0, .ref a0), (1, .ref a1), (2, .int x2)]) K d_c11_flowOf_23 rfl rfl ?_
    refine g_iconst (v := 0) K d_c11_flowOf_25 (by decide) ?_
    refine g_istore (ls2 := [(5, .int (0 : Int32)), (4, .int (0 : Int32)), (3, .int (q1 - (v2 * (2 : Int32)))), (0, .ref a0), (1, .ref a1), (2, .int x2)]) K d_c11_flowOf_26 rfl rfl ?_
    obtain ⟨o16, e_o16, e_t5⟩ := gBd e_t5
    refine g_sub (ls2 := [(0, .ref a0), (1, .ref a1), (2, .int x2), (4, .int (0 : Int32)), (5, .int (0 : Int32))]) [3, 4, 5, 1, 0] rfl ?_
    refine wlp_c11_flowOf_28 hx K a0 a1 x2 h N (0 : Int32) (0 : Int32) o16 e_o16 ?_
    refine g_aload_n K d_c11_flowOf_71 0 rfl ?_
    obtain ⟨v17, e_v17, e_t5⟩ := gBd e_t5
    refine g_getR K fl_c11_43 d_c11_flowOf_72 e_v17 ?_
    refine g_iconst (v := 0) K d_c11_flowOf_75 (by decide) ?_
    refine g_aload_n K d_c11_flowOf_76 1 rfl ?_
    refine g_bipush (v := 8) K d_c11_flowOf_77 (by decide) ?_
    refine g_iload_n K d_c11_flowOf_79 2 rfl ?_
    refine g_iadd K d_c11_flowOf_80 ?_
    obtain ⟨v18, e_v18, e_t5⟩ := gBd e_t5
    refine g_iald K d_c11_flowOf_81 e_v18 ?_
    obtain ⟨h19, e_h19, e_t5⟩ := gBd e_t5
    refine g_iast K d_c11_flowOf_82 e_h19 ?_
    refine g_aload_n K d_c11_flowOf_83 0 rfl ?_
    obtain ⟨v20, e_v20, e_t5⟩ := gBd e_t5
    refine g_getR K fl_c11_43 d_c11_flowOf_84 e_v20 ?_
    refine g_iconst (v := 1) K d_c11_flowOf_87 (by decide) ?_
    refine g_aload_n K d_c11_flowOf_88 1 rfl ?_
    refine g_iload_n K d_c11_flowOf_89 2 rfl ?_
    obtain ⟨q21, e_q21, e_t5⟩ := gBd e_t5
    refine g_callSi (rest := [.int (1 : Int32), .ref v20]) K hx ly_c11_depthOf ks_c11_217 d_c11_flowOf_90 (ct_c11_depthOf M.2.1 X hx N a1 x2 h19 q21 e_q21) rfl rfl (Nat.le_of_ble_eq_true rfl) (gDep rfl) ⟨Nat.le_refl 0, Nat.le_refl 0⟩ ?_
    obtain ⟨h22, e_h22, e_t5⟩ := gBd e_t5
    refine g_iast K d_c11_flowOf_93 e_h22 ?_
    refine g_aload_n K d_c11_flowOf_94 0 rfl ?_
    obtain ⟨v23, e_v23, e_t5⟩ := gBd e_t5
    refine g_getR K fl_c11_43 d_c11_flowOf_95 e_v23 ?_
    refine g_iconst (v := 2) K d_c11_flowOf_98 (by decide) ?_
    refine g_aload_n K d_c11_flowOf_99 1 rfl ?_
    refine g_bipush (v := 24) K d_c11_flowOf_100 (by decide) ?_
    refine g_iload_n K d_c11_flowOf_102 2 rfl ?_
    refine g_iadd K d_c11_flowOf_103 ?_
    obtain ⟨v24, e_v24, e_t5⟩ := gBd e_t5
    refine g_iald K d_c11_flowOf_104 e_v24 ?_
    obtain ⟨h25, e_h25, e_t5⟩ := gBd e_t5
    refine g_iast K d_c11_flowOf_105 e_h25 ?_
    refine g_aload_n K d_c11_flowOf_106 0 rfl ?_
    obtain ⟨v26, e_v26, e_t5⟩ := gBd e_t5
    refine g_getR K fl_c11_43 d_c11_flowOf_107 e_v26 ?_
    refine g_iconst (v := 3) K d_c11_flowOf_110 (by decide) ?_
    refine g_aload_n K d_c11_flowOf_111 1 rfl ?_
    refine g_bipush (v := 16) K d_c11_flowOf_112 (by decide) ?_
    refine g_iload_n K d_c11_flowOf_114 2 rfl ?_
    refine g_iadd K d_c11_flowOf_115 ?_
    obtain ⟨v27, e_v27, e_t5⟩ := gBd e_t5
    refine g_iald K d_c11_flowOf_116 e_v27 ?_
    obtain ⟨h28, e_h28, e_t5⟩ := gBd e_t5
    refine g_iast K d_c11_flowOf_117 e_h28 ?_
    refine g_aload_n K d_c11_flowOf_118 0 rfl ?_
    obtain ⟨v29, e_v29, e_t5⟩ := gBd e_t5
    refine g_getR K fl_c11_43 d_c11_flowOf_119 e_v29 ?_
    refine g_iconst (v := 4) K d_c11_flowOf_122 (by decide) ?_
    refine g_iload K d_c11_flowOf_123 3 rfl ?_
    obtain ⟨h30, e_h30, e_t5⟩ := gBd e_t5
    refine g_iast K d_c11_flowOf_125 e_h30 ?_
    refine g_aload_n K d_c11_flowOf_126 0 rfl ?_
    obtain ⟨v31, e_v31, e_t5⟩ := gBd e_t5
    refine g_getR K fl_c11_43 d_c11_flowOf_127 e_v31 ?_
    refine g_iconst (v := 5) K d_c11_flowOf_130 (by decide) ?_
    refine g_aload_n K d_c11_flowOf_131 1 rfl ?_
    refine g_bipush (v := 32) K d_c11_flowOf_132 (by decide) ?_
    refine g_iload_n K d_c11_flowOf_134 2 rfl ?_
    refine g_iadd K d_c11_flowOf_135 ?_
    obtain ⟨v32, e_v32, e_t5⟩ := gBd e_t5
    refine g_iald K d_c11_flowOf_136 e_v32 ?_
    obtain ⟨h33, e_h33, e_t5⟩ := gBd e_t5
    refine g_iast K d_c11_flowOf_137 e_h33 ?_
    refine g_aload_n K d_c11_flowOf_138 0 rfl ?_
    obtain ⟨v34, e_v34, e_t5⟩ := gBd e_t5
    refine g_getR K fl_c11_43 d_c11_flowOf_139 e_v34 ?_
    refine g_bipush (v := 6) K d_c11_flowOf_142 (by decide) ?_
    refine g_aload_n K d_c11_flowOf_144 1 rfl ?_
    refine g_bipush (v := 41) K d_c11_flowOf_145 (by decide) ?_
    obtain ⟨v35, e_v35, e_t5⟩ := gBd e_t5
    refine g_iald K d_c11_flowOf_147 e_v35 ?_
    refine g_iconst (v := 4) K d_c11_flowOf_148 (by decide) ?_
    obtain ⟨u36, e_u36, e_t5⟩ := gBd e_t5
    refine g_irem K d_c11_flowOf_149 e_u36 ?_
    obtain ⟨h37, e_h37, e_t5⟩ := gBd e_t5
    refine g_iast K d_c11_flowOf_150 e_h37 ?_
    refine g_aload_n K d_c11_flowOf_151 0 rfl ?_
    refine g_aload_n K d_c11_flowOf_152 0 rfl ?_
    obtain ⟨v38, e_v38, e_t5⟩ := gBd e_t5
    refine g_getR K fl_c11_37 d_c11_flowOf_153 e_v38 ?_
    refine g_aload_n K d_c11_flowOf_156 0 rfl ?_
    obtain ⟨v39, e_v39, e_t5⟩ := gBd e_t5
    refine g_getI K fl_c11_214 d_c11_flowOf_157 e_v39 ?_
    refine g_bipush (v := 40) K d_c11_flowOf_160 (by decide) ?_
    obtain ⟨q40, e_q40, e_t5⟩ := gBd e_t5
    refine g_callVv (rest := []) K hx ly_c11_begin kv_c11_136 d_c11_flowOf_162 (ct_c11_begin M.2.1 X hx N a0 v38 v39 (40 : Int32) h37 q40 e_q40) rfl rfl (Nat.le_of_ble_eq_true rfl) (gDep rfl) ⟨Nat.le_refl 0, Nat.le_refl 0⟩ ?_
    refine g_aload_n K d_c11_flowOf_165 0 rfl ?_
    refine g_iconst (v := 1) K d_c11_flowOf_166 (by decide) ?_
    obtain ⟨w41, e_w41, e_t5⟩ := gBd e_t5
    obtain ⟨h42, e_h42, e_t5⟩ := gBd e_t5
    refine g_putZ K fp_c11_207 d_c11_flowOf_167 e_w41 e_h42 ?_
    refine g_aload_n K d_c11_flowOf_170 0 rfl ?_
    refine g_iconst (v := 0) K d_c11_flowOf_171 (by decide) ?_
    obtain ⟨q43, e_q43, e_t5⟩ := gBd e_t5
    refine g_callVi (rest := []) K hx ly_c11_held kv_c11_194 d_c11_flowOf_172 (ct_c11_held M.2.1 X hx N a0 (0 : Int32) h42 q43 e_q43) rfl rfl (Nat.le_of_ble_eq_true rfl) (gDep rfl) ⟨Nat.le_refl 0, Nat.le_refl 0⟩ ?_
    refine g_istore_n (ls2 := [(3, .int q43.1), (0, .ref a0), (1, .ref a1), (2, .int x2), (4, .int o16)]) K d_c11_flowOf_175 rfl rfl ?_
    refine g_aload_n K d_c11_flowOf_176 1 rfl ?_
    refine g_iconst (v := 0) K d_c11_flowOf_177 (by decide) ?_
    obtain ⟨w44, e_w44, e_t5⟩ := gBd e_t5
    obtain ⟨h45, e_h45, e_t5⟩ := gBd e_t5
    refine g_putZ K fp_c11_207 d_c11_flowOf_178 e_w44 e_h45 ?_
    refine g_sub (ls2 := [(3, .int q43.1)]) [0] rfl ?_
    obtain rfl := Option.some.inj e_t5
    exact hJ6
-- c11 readRule
theorem d_c11_readRule_0 : gD b_c11_readRule 0 (.aload_n 0) 1 1 := ⟨by decide +kernel, rfl⟩
theorem d_c11_readRule_1 : gD b_c11_readRule 1 (.bipush 40) 2 3 := ⟨by decide +kernel, rfl⟩
theorem d_c11_readRule_3 : gD b_c11_readRule 3 (.invokevirtual 165) 3 6 := ⟨by decide +kernel, rfl⟩
theorem d_c11_readRule_6 : gD b_c11_readRule 6 (.aload_n 0) 1 7 := ⟨by decide +kernel, rfl⟩
theorem d_c11_readRule_7 : gD b_c11_readRule 7 (.iconst 0) 1 8 := ⟨by decide +kernel, rfl⟩
theorem d_c11_readRule_8 : gD b_c11_readRule 8 (.putfield 207) 3 11 := ⟨by decide +kernel, rfl⟩
theorem d_c11_readRule_11 : gD b_c11_readRule 11 (.aload_n 0) 1 12 := ⟨by decide +kernel, rfl⟩
theorem d_c11_readRule_12 : gD b_c11_readRule 12 (.getfield 124) 3 15 := ⟨by decide +kernel, rfl⟩
theorem d_c11_readRule_15 : gJ b_c11_readRule 15 (.ifCond .le 9) 3 9 18 24 := ⟨by decide +kernel, rfl, by decide⟩
theorem d_c11_readRule_18 : gD b_c11_readRule 18 (.aload_n 0) 1 19 := ⟨by decide +kernel, rfl⟩
theorem d_c11_readRule_19 : gD b_c11_readRule 19 (.iconst 0) 1 20 := ⟨by decide +kernel, rfl⟩
theorem d_c11_readRule_20 : gD b_c11_readRule 20 (.invokevirtual 194) 3 23 := ⟨by decide +kernel, rfl⟩
theorem d_c11_readRule_23 : gD b_c11_readRule 23 .pop 1 24 := ⟨by decide +kernel, rfl⟩
theorem d_c11_readRule_24 : gD b_c11_readRule 24 (.aload_n 0) 1 25 := ⟨by decide +kernel, rfl⟩
theorem d_c11_readRule_25 : gD b_c11_readRule 25 (.invokevirtual 168) 3 28 := ⟨by decide +kernel, rfl⟩
theorem d_c11_readRule_28 : gD b_c11_readRule 28 .ireturn 1 29 := ⟨by decide +kernel, rfl⟩
def f_c11_readRule (N : Nat) (a0 : Nat) (h : gH) : Option (Int32 × gH) :=
  (gcl h a0 11).bind fun _ =>
  (f_c11_beginText N a0 (40 : Int32) h).bind fun q1 =>
    (gZ (0 : Int32)).bind fun w2 =>
    (sf q1 a0 11 20 (.int w2)).bind fun h3 =>
    (gfI h3 a0 11 12).bind fun v4 =>
    (show Option (gH) from if v4 ≤ 0 then
    some h3
  else
    (f_c11_held N a0 (0 : Int32) h3).bind fun q10 =>
    some q10.2).bind fun t6 =>
    (f_c11_wasRight N a0 t6).bind fun q8 =>
    (gZ q8.1).bind fun w9 => some (w9, q8.2)
set_option maxHeartbeats 4000000 in
set_option maxRecDepth 100000 in
theorem ct_c11_readRule (l : Launch) (X : gX) (hx : gEx X = false) (N : Nat) (a0 : Nat) (h : gH) (q : Int32 × gH) (hy : f_c11_readRule N a0 h = some q) : gRc y_c11_readRule h a0 ∧ gMi l X y_c11_readRule b_c11_readRule 1 .boolean (6 + N) 0 0 [.ref a0] h q.1 q.2 := by
  unfold f_c11_readRule at hy
  obtain ⟨u0, e_u0, hy⟩ := gBd hy
  cases u0
  refine ⟨Or.inl ⟨11, _, _, e_u0, rfl⟩, gMet_i (lsx := [(0, .ref a0)]) (by decide) rfl rfl ?_⟩
  intro M hMl K hret
  subst hMl
  refine g_aload_n K d_c11_readRule_0 0 rfl ?_
  refine g_bipush (v := 40) K d_c11_readRule_1 (by decide) ?_
  obtain ⟨q1, e_q1, hy⟩ := gBd hy
  refine g_callVv (rest := []) K hx ly_c11_beginText kv_c11_165 d_c11_readRule_3 (ct_c11_beginText M.2.1 X hx N a0 (40 : Int32) h q1 e_q1) rfl rfl (Nat.le_of_ble_eq_true rfl) (gDep rfl) ⟨Nat.le_refl 0, Nat.le_refl 0⟩ ?_
  refine g_aload_n K d_c11_readRule_6 0 rfl ?_
  refine g_iconst (v := 0) K d_c11_readRule_7 (by decide) ?_
  obtain ⟨w2, e_w2, hy⟩ := gBd hy
  obtain ⟨h3, e_h3, hy⟩ := gBd hy
  refine g_putZ K fp_c11_207 d_c11_readRule_8 e_w2 e_h3 ?_
  refine g_aload_n K d_c11_readRule_11 0 rfl ?_
  obtain ⟨v4, e_v4, hy⟩ := gBd hy
  refine g_getI K fl_c11_124 d_c11_readRule_12 e_v4 ?_
  obtain ⟨t6, e_t6, hy⟩ := gBd hy
  have hJ7 : gG M X 1 0 0 24 [(0, .ref a0)] [] t6 := by
    refine g_aload_n K d_c11_readRule_24 0 rfl ?_
    obtain ⟨q8, e_q8, hy⟩ := gBd hy
    refine g_callVi (rest := []) K hx ly_c11_wasRight kv_c11_168 d_c11_readRule_25 (ct_c11_wasRight M.2.1 X hx N a0 t6 q8 e_q8) rfl rfl (Nat.le_of_ble_eq_true rfl) (gDep rfl) ⟨Nat.le_refl 0, Nat.le_refl 0⟩ ?_
    obtain ⟨w9, e_w9, hy⟩ := gBd hy
    obtain ⟨z_w9, n_w9⟩ := gZ_spec e_w9
    rw [z_w9]
    obtain rfl := Option.some.inj hy
    exact hret (gZn n_w9) _ _ _ d_c11_readRule_28
  refine g_if_le K d_c11_readRule_15 (fun c5 => ?_) (fun c5 => ?_)
  · rw [if_pos c5] at e_t6
    obtain rfl := Option.some.inj e_t6
    exact hJ7
  · rw [if_neg c5] at e_t6
    refine g_aload_n K d_c11_readRule_18 0 rfl ?_
    refine g_iconst (v := 0) K d_c11_readRule_19 (by decide) ?_
    obtain ⟨q10, e_q10, e_t6⟩ := gBd e_t6
    refine g_callVi (rest := []) K hx ly_c11_held kv_c11_194 d_c11_readRule_20 (ct_c11_held M.2.1 X hx N a0 (0 : Int32) h3 q10 e_q10) rfl rfl (Nat.le_of_ble_eq_true rfl) (gDep rfl) ⟨Nat.le_refl 0, Nat.le_refl 0⟩ ?_
    refine g_pop K d_c11_readRule_23 rfl ?_
    obtain rfl := Option.some.inj e_t6
    exact hJ7
-- c2 fitting
theorem d_c2_fitting_0 : gD b_c2_fitting 0 (.iconst 1) 1 1 := ⟨by decide +kernel, rfl⟩
theorem d_c2_fitting_1 : gD b_c2_fitting 1 (.aload_n 1) 1 2 := ⟨by decide +kernel, rfl⟩
theorem d_c2_fitting_2 : gD b_c2_fitting 2 (.getfield 29) 3 5 := ⟨by decide +kernel, rfl⟩
theorem d_c2_fitting_5 : gD b_c2_fitting 5 .ishl 1 6 := ⟨by decide +kernel, rfl⟩
theorem d_c2_fitting_6 : gD b_c2_fitting 6 (.iconst 1) 1 7 := ⟨by decide +kernel, rfl⟩
theorem d_c2_fitting_7 : gD b_c2_fitting 7 .isub 1 8 := ⟨by decide +kernel, rfl⟩
theorem d_c2_fitting_8 : gD b_c2_fitting 8 (.istore_n 3) 1 9 := ⟨by decide +kernel, rfl⟩
theorem d_c2_fitting_9 : gD b_c2_fitting 9 (.iconst 0) 1 10 := ⟨by decide +kernel, rfl⟩
theorem d_c2_fitting_10 : gD b_c2_fitting 10 (.istore 4) 2 12 := ⟨by decide +kernel, rfl⟩
theorem d_c2_fitting_12 : gD b_c2_fitting 12 (.iload 4) 2 14 := ⟨by decide +kernel, rfl⟩
theorem d_c2_fitting_14 : gD b_c2_fitting 14 (.aload_n 0) 1 15 := ⟨by decide +kernel, rfl⟩
theorem d_c2_fitting_15 : gD b_c2_fitting 15 (.getfield 25) 3 18 := ⟨by decide +kernel, rfl⟩
theorem d_c2_fitting_18 : gJ b_c2_fitting 18 (.if_icmp .ge 31) 3 31 21 49 := ⟨by decide +kernel, rfl, by decide⟩
theorem d_c2_fitting_21 : gD b_c2_fitting 21 (.aload_n 0) 1 22 := ⟨by decide +kernel, rfl⟩
theorem d_c2_fitting_22 : gD b_c2_fitting 22 (.iload_n 3) 1 23 := ⟨by decide +kernel, rfl⟩
theorem d_c2_fitting_23 : gD b_c2_fitting 23 (.aload_n 0) 1 24 := ⟨by decide +kernel, rfl⟩
theorem d_c2_fitting_24 : gD b_c2_fitting 24 (.getfield 9) 3 27 := ⟨by decide +kernel, rfl⟩
theorem d_c2_fitting_27 : gD b_c2_fitting 27 (.iload 4) 2 29 := ⟨by decide +kernel, rfl⟩
theorem d_c2_fitting_29 : gD b_c2_fitting 29 .iaload 1 30 := ⟨by decide +kernel, rfl⟩
theorem d_c2_fitting_30 : gD b_c2_fitting 30 (.aload_n 0) 1 31 := ⟨by decide +kernel, rfl⟩
theorem d_c2_fitting_31 : gD b_c2_fitting 31 (.getfield 15) 3 34 := ⟨by decide +kernel, rfl⟩
theorem d_c2_fitting_34 : gD b_c2_fitting 34 (.iload 4) 2 36 := ⟨by decide +kernel, rfl⟩
theorem d_c2_fitting_36 : gD b_c2_fitting 36 .iaload 1 37 := ⟨by decide +kernel, rfl⟩
theorem d_c2_fitting_37 : gD b_c2_fitting 37 (.aload_n 1) 1 38 := ⟨by decide +kernel, rfl⟩
theorem d_c2_fitting_38 : gD b_c2_fitting 38 (.aload_n 2) 1 39 := ⟨by decide +kernel, rfl⟩
theorem d_c2_fitting_39 : gD b_c2_fitting 39 (.invokevirtual 32) 3 42 := ⟨by decide +kernel, rfl⟩
theorem d_c2_fitting_42 : gD b_c2_fitting 42 (.istore_n 3) 1 43 := ⟨by decide +kernel, rfl⟩
theorem d_c2_fitting_43 : gD b_c2_fitting 43 (.iinc 4 1) 3 46 := ⟨by decide +kernel, rfl⟩
theorem d_c2_fitting_46 : gJ b_c2_fitting 46 (.goto (-34)) 3 (-34) 49 12 := ⟨by decide +kernel, rfl, by decide⟩
theorem d_c2_fitting_49 : gD b_c2_fitting 49 (.iload_n 3) 1 50 := ⟨by decide +kernel, rfl⟩
theorem d_c2_fitting_50 : gD b_c2_fitting 50 .ireturn 1 51 := ⟨by decide +kernel, rfl⟩
def lp_c2_fitting_12 (N : Nat) (a0 : Nat) (a1 : Nat) (a2 : Nat) (h : gH) : Nat → Int32 → Int32 → Option (Int32)
  | 0, _, _ => none
  | k + 1, x3, x4 =>
  (gfI h a0 2 2).bind fun v2 =>
    if v2 ≤ x4 then
    some x3
  else
    (gfR h a0 2 0).bind fun v4 =>
    (ga 0 h v4 x4).bind fun v5 =>
    (gfR h a0 2 1).bind fun v6 =>
    (ga 0 h v6 x4).bind fun v7 =>
    (f_c2_narrow N a0 x3 v5 v7 a1 a2 h).bind fun q8 =>
    lp_c2_fitting_12 N a0 a1 a2 h k q8 (x4 + (1 : Int32))
def f_c2_fitting (N : Nat) (a0 : Nat) (a1 : Nat) (a2 : Nat) (h : gH) : Option (Int32) :=
  (gcl h a0 2).bind fun _ =>
  (gfI h a1 7 0).bind fun v1 =>
    (lp_c2_fitting_12 N a0 a1 a2 h N (((1 : Int32) <<< (v1 &&& 31)) - (1 : Int32)) (0 : Int32)).bind fun o9 =>
    some o9
set_option maxHeartbeats 4000000 in
set_option maxRecDepth 100000 in
theorem wlp_c2_fitting_12 {M : gM} {X : gX} {N : Nat} (hx : gEx X = false) (K : gC M X gN2 b_c2_fitting 5 (gRm (6 + N) 0 0)) (a0 : Nat) (a1 : Nat) (a2 : Nat) (h : gH) : ∀ (k : Nat) (x3 : Int32) (x4 : Int32) (o : Int32), lp_c2_fitting_12 N a0 a1 a2 h k x3 x4 = some o → gG M X 5 0 0 49 [(3, .int o)] [] h → gG M X 5 0 0 12 [(0, .ref a0), (1, .ref a1), (2, .ref a2), (3, .int x3), (4, .int x4)] [] h := by
  intro k
  induction k with
  | zero =>
    intro x3 x4 o hy
    rw [lp_c2_fitting_12.eq_1] at hy
    cases hy
  | succ k ih =>
    intro x3 x4 o hy hE
    rw [lp_c2_fitting_12.eq_2] at hy
    refine g_iload K d_c2_fitting_12 4 rfl ?_
    refine g_aload_n K d_c2_fitting_14 0 rfl ?_
    obtain ⟨v2, e_v2, hy⟩ := gBd hy
    refine g_getI K fl_c2_25 d_c2_fitting_15 e_v2 ?_
    refine g_icmp_ge K d_c2_fitting_18 (fun c3 => ?_) (fun c3 => ?_)
    · rw [if_pos c3] at hy
      refine g_sub (ls2 := [(3, .int x3)]) [3] rfl ?_
      obtain rfl := Option.some.inj hy
      exact hE
    · rw [if_neg c3] at hy
      refine g_aload_n K d_c2_fitting_21 0 rfl ?_
      refine g_iload_n K d_c2_fitting_22 3 rfl ?_
      refine g_aload_n K d_c2_fitting_23 0 rfl ?_
      obtain ⟨v4, e_v4, hy⟩ := gBd hy
      refine g_getR K fl_c2_9 d_c2_fitting_24 e_v4 ?_
      refine g_iload K d_c2_fitting_27 4 rfl ?_
      obtain ⟨v5, e_v5, hy⟩ := gBd hy
      refine g_iald K d_c2_fitting_29 e_v5 ?_
      refine g_aload_n K d_c2_fitting_30 0 rfl ?_
      obtain ⟨v6, e_v6, hy⟩ := gBd hy
      refine g_getR K fl_c2_15 d_c2_fitting_31 e_v6 ?_
      refine g_iload K d_c2_fitting_34 4 rfl ?_
      obtain ⟨v7, e_v7, hy⟩ := gBd hy
      refine g_iald K d_c2_fitting_36 e_v7 ?_
      refine g_aload_n K d_c2_fitting_37 1 rfl ?_
      refine g_aload_n K d_c2_fitting_38 2 rfl ?_
      obtain ⟨q8, e_q8, hy⟩ := gBd hy
      refine g_callVi (rest := []) K hx ly_c2_narrow kv_c2_32 d_c2_fitting_39 (ct_c2_narrow M.2.1 X hx N a0 x3 v5 v7 a1 a2 h q8 e_q8) rfl rfl (Nat.le_of_ble_eq_true rfl) (gDep rfl) ⟨Nat.le_refl 0, Nat.le_refl 0⟩ ?_
      refine g_istore_n (ls2 := [(3, .int q8), (0, .ref a0), (1, .ref a1), (2, .ref a2), (4, .int x4)]) K d_c2_fitting_42 rfl rfl ?_
      refine g_iinc (ls2 := [(4, .int (x4 + (1 : Int32))), (3, .int q8), (0, .ref a0), (1, .ref a1), (2, .ref a2)]) (v := 1) K d_c2_fitting_43 4 rfl (by decide) rfl rfl ?_
      refine g_goto K d_c2_fitting_46 ?_
      refine g_sub (ls2 := [(0, .ref a0), (1, .ref a1), (2, .ref a2), (3, .int q8), (4, .int (x4 + (1 : Int32)))]) [2, 3, 4, 1, 0] rfl ?_
      exact ih _ _ _ hy hE
set_option maxHeartbeats 4000000 in
set_option maxRecDepth 100000 in
theorem ct_c2_fitting (l : Launch) (X : gX) (hx : gEx X = false) (N : Nat) (a0 : Nat) (a1 : Nat) (a2 : Nat) (h : gH) (q : Int32) (hy : f_c2_fitting N a0 a1 a2 h = some q) : gRc y_c2_fitting h a0 ∧ gMi l X y_c2_fitting b_c2_fitting 5 .int (6 + N) 0 0 [.ref a0, .ref a1, .ref a2] h q h := by
  unfold f_c2_fitting at hy
  obtain ⟨u0, e_u0, hy⟩ := gBd hy
  cases u0
  refine ⟨Or.inl ⟨2, _, _, e_u0, rfl⟩, gMet_i (lsx := [(0, .ref a0), (1, .ref a1), (2, .ref a2)]) (by decide) rfl rfl ?_⟩
  intro M hMl K hret
  subst hMl
  refine g_iconst (v := 1) K d_c2_fitting_0 (by decide) ?_
  refine g_aload_n K d_c2_fitting_1 1 rfl ?_
  obtain ⟨v1, e_v1, hy⟩ := gBd hy
  refine g_getI K fl_c2_29 d_c2_fitting_2 e_v1 ?_
  refine g_ishl K d_c2_fitting_5 ?_
  refine g_iconst (v := 1) K d_c2_fitting_6 (by decide) ?_
  refine g_isub K d_c2_fitting_7 ?_
  refine g_istore_n (ls2 := [(3, .int (((1 : Int32) <<< (v1 &&& 31)) - (1 : Int32))), (0, .ref a0), (1, .ref a1), (2, .ref a2)]) K d_c2_fitting_8 rfl rfl ?_
  refine g_iconst (v := 0) K d_c2_fitting_9 (by decide) ?_
  refine g_istore (ls2 := [(4, .int (0 : Int32)), (3, .int (((1 : Int32) <<< (v1 &&& 31)) - (1 : Int32))), (0, .ref a0), (1, .ref a1), (2, .ref a2)]) K d_c2_fitting_10 rfl rfl ?_
  obtain ⟨o9, e_o9, hy⟩ := gBd hy
  refine g_sub (ls2 := [(0, .ref a0), (1, .ref a1), (2, .ref a2), (3, .int (((1 : Int32) <<< (v1 &&& 31)) - (1 : Int32))), (4, .int (0 : Int32))]) [2, 3, 4, 1, 0] rfl ?_
  refine wlp_c2_fitting_12 hx K a0 a1 a2 h N (((1 : Int32) <<< (v1 &&& 31)) - (1 : Int32)) (0 : Int32) o9 e_o9 ?_
  refine g_iload_n K d_c2_fitting_49 0 rfl ?_
  obtain rfl := Option.some.inj hy
  exact hret rfl _ _ _ d_c2_fitting_50
