-- c9 allReached
theorem d_c9_allReached_0 : gD b_c9_allReached 0 (.aload_n 0) 1 1 := ⟨by decide +kernel, rfl⟩
theorem d_c9_allReached_1 : gD b_c9_allReached 1 (.aload_n 1) 1 2 := ⟨by decide +kernel, rfl⟩
theorem d_c9_allReached_2 : gD b_c9_allReached 2 (.aload_n 2) 1 3 := ⟨by decide +kernel, rfl⟩
theorem d_c9_allReached_3 : gD b_c9_allReached 3 (.iconst 0) 1 4 := ⟨by decide +kernel, rfl⟩
theorem d_c9_allReached_4 : gD b_c9_allReached 4 (.iload_n 3) 1 5 := ⟨by decide +kernel, rfl⟩
theorem d_c9_allReached_5 : gD b_c9_allReached 5 (.invokevirtual 59) 3 8 := ⟨by decide +kernel, rfl⟩
theorem d_c9_allReached_8 : gD b_c9_allReached 8 (.iconst 0) 1 9 := ⟨by decide +kernel, rfl⟩
theorem d_c9_allReached_9 : gD b_c9_allReached 9 (.istore 4) 2 11 := ⟨by decide +kernel, rfl⟩
theorem d_c9_allReached_11 : gD b_c9_allReached 11 (.iload 4) 2 13 := ⟨by decide +kernel, rfl⟩
theorem d_c9_allReached_13 : gD b_c9_allReached 13 (.aload_n 1) 1 14 := ⟨by decide +kernel, rfl⟩
theorem d_c9_allReached_14 : gD b_c9_allReached 14 (.getfield 46) 3 17 := ⟨by decide +kernel, rfl⟩
theorem d_c9_allReached_17 : gJ b_c9_allReached 17 (.if_icmp .ge 21) 3 21 20 38 := ⟨by decide +kernel, rfl, by decide⟩
theorem d_c9_allReached_20 : gD b_c9_allReached 20 (.aload_n 0) 1 21 := ⟨by decide +kernel, rfl⟩
theorem d_c9_allReached_21 : gD b_c9_allReached 21 (.getfield 9) 3 24 := ⟨by decide +kernel, rfl⟩
theorem d_c9_allReached_24 : gD b_c9_allReached 24 (.iload 4) 2 26 := ⟨by decide +kernel, rfl⟩
theorem d_c9_allReached_26 : gD b_c9_allReached 26 .iaload 1 27 := ⟨by decide +kernel, rfl⟩
theorem d_c9_allReached_27 : gJ b_c9_allReached 27 (.ifCond .ge 5) 3 5 30 32 := ⟨by decide +kernel, rfl, by decide⟩
theorem d_c9_allReached_30 : gD b_c9_allReached 30 (.iconst 0) 1 31 := ⟨by decide +kernel, rfl⟩
theorem d_c9_allReached_31 : gD b_c9_allReached 31 .ireturn 1 32 := ⟨by decide +kernel, rfl⟩
theorem d_c9_allReached_32 : gD b_c9_allReached 32 (.iinc 4 1) 3 35 := ⟨by decide +kernel, rfl⟩
theorem d_c9_allReached_35 : gJ b_c9_allReached 35 (.goto (-24)) 3 (-24) 38 11 := ⟨by decide +kernel, rfl, by decide⟩
theorem d_c9_allReached_38 : gD b_c9_allReached 38 (.iconst 1) 1 39 := ⟨by decide +kernel, rfl⟩
theorem d_c9_allReached_39 : gD b_c9_allReached 39 .ireturn 1 40 := ⟨by decide +kernel, rfl⟩
def lp_c9_allReached_11 (N : Nat) (a0 : Nat) (a1 : Nat) (h : gH) : Nat → Int32 → Option ((Int32 × gH) ⊕ (Unit))
  | 0, _ => none
  | k + 1, x4 =>
  (gfI h a1 7 0).bind fun v2 =>
    if v2 ≤ x4 then
    some (.inr ())
  else
    (gfR h a0 9 0).bind fun v4 =>
    (ga 0 h v4 x4).bind fun v5 =>
    if 0 ≤ v5 then
    lp_c9_allReached_11 N a0 a1 h k (x4 + (1 : Int32))
  else
    (gZ (0 : Int32)).bind fun w7 => some (.inl (w7, h))
def f_c9_allReached (N : Nat) (a0 : Nat) (a1 : Nat) (a2 : Nat) (x3 : Int32) (h : gH) : Option (Int32 × gH) :=
  (gcl h a0 9).bind fun _ =>
  (f_c9_countSteps N a0 a1 a2 (0 : Int32) x3 h).bind fun q1 =>
    (lp_c9_allReached_11 N a0 a1 q1 N (0 : Int32)).bind fun o8 => Sum.elim (fun r10 => some r10) (fun t9 =>
    (gZ (1 : Int32)).bind fun w12 => some (w12, q1)) o8
set_option maxHeartbeats 4000000 in
set_option maxRecDepth 100000 in
theorem wlp_c9_allReached_11 {M : gM} {X : gX} {N : Nat} (hx : gEx X = false) (K : gC M X gN9 b_c9_allReached 5 (gRm (6 + N) 0 0)) (a0 : Nat) (a1 : Nat) (h : gH) : ∀ (k : Nat) (x4 : Int32) (o : (Int32 × gH) ⊕ (Unit)), lp_c9_allReached_11 N a0 a1 h k x4 = some o → (∀ t, o = .inr t → gG M X 5 0 0 38 [] [] h) → (∀ r, o = .inl r → (narrow .boolean (.int r.1) = .int r.1 → ∀ pc pc' ls, gD b_c9_allReached pc .ireturn 1 pc' → gG M X 5 0 0 pc ls [.int r.1] r.2)) → gG M X 5 0 0 11 [(0, .ref a0), (1, .ref a1), (4, .int x4)] [] h := by
  intro k
  induction k with
  | zero =>
    intro x4 o hy
    rw [lp_c9_allReached_11.eq_1] at hy
    cases hy
  | succ k ih =>
    intro x4 o hy hE hR
    rw [lp_c9_allReached_11.eq_2] at hy
    refine g_iload K d_c9_allReached_11 2 rfl ?_
    refine g_aload_n K d_c9_allReached_13 1 rfl ?_
    obtain ⟨v2, e_v2, hy⟩ := gBd hy
    refine g_getI K fl_c9_46 d_c9_allReached_14 e_v2 ?_
    refine g_icmp_ge K d_c9_allReached_17 (fun c3 => ?_) (fun c3 => ?_)
    · rw [if_pos c3] at hy
      refine g_sub (ls2 := []) [] rfl ?_
      obtain rfl := Option.some.inj hy
      exact hE _ rfl
    · rw [if_neg c3] at hy
      refine g_aload_n K d_c9_allReached_20 0 rfl ?_
      obtain ⟨v4, e_v4, hy⟩ := gBd hy
      refine g_getR K fl_c9_9 d_c9_allReached_21 e_v4 ?_
      refine g_iload K d_c9_allReached_24 2 rfl ?_
      obtain ⟨v5, e_v5, hy⟩ := gBd hy
      refine g_iald K d_c9_allReached_26 e_v5 ?_
      refine g_if_ge K d_c9_allReached_27 (fun c6 => ?_) (fun c6 => ?_)
      · rw [if_pos c6] at hy
        refine g_iinc (ls2 := [(4, .int (x4 + (1 : Int32))), (0, .ref a0), (1, .ref a1)]) (v := 1) K d_c9_allReached_32 2 rfl (by decide) rfl rfl ?_
        refine g_goto K d_c9_allReached_35 ?_
        refine g_sub (ls2 := [(0, .ref a0), (1, .ref a1), (4, .int (x4 + (1 : Int32)))]) [1, 2, 0] rfl ?_
        exact ih _ _ hy hE hR
      · rw [if_neg c6] at hy
        refine g_iconst (v := 0) K d_c9_allReached_30 (by decide) ?_
        obtain ⟨w7, e_w7, hy⟩ := gBd hy
        obtain ⟨z_w7, n_w7⟩ := gZ_spec e_w7
        rw [z_w7]
        obtain rfl := Option.some.inj hy
        exact hR _ rfl (gZn n_w7) _ _ _ d_c9_allReached_31
set_option maxHeartbeats 4000000 in
set_option maxRecDepth 100000 in
theorem ct_c9_allReached (l : Launch) (X : gX) (hx : gEx X = false) (N : Nat) (a0 : Nat) (a1 : Nat) (a2 : Nat) (x3 : Int32) (h : gH) (q : Int32 × gH) (hy : f_c9_allReached N a0 a1 a2 x3 h = some q) : gRc y_c9_allReached h a0 ∧ gMi l X y_c9_allReached b_c9_allReached 5 .boolean (6 + N) 0 0 [.ref a0, .ref a1, .ref a2, .int x3] h q.1 q.2 := by
  unfold f_c9_allReached at hy
  obtain ⟨u0, e_u0, hy⟩ := gBd hy
  cases u0
  refine ⟨Or.inl ⟨9, _, _, e_u0, rfl⟩, gMet_i (lsx := [(0, .ref a0), (1, .ref a1), (2, .ref a2), (3, .int x3)]) (by decide) rfl rfl ?_⟩
  intro M hMl K hret
  subst hMl
  refine g_aload_n K d_c9_allReached_0 0 rfl ?_
  refine g_aload_n K d_c9_allReached_1 1 rfl ?_
  refine g_aload_n K d_c9_allReached_2 2 rfl ?_
  refine g_iconst (v := 0) K d_c9_allReached_3 (by decide) ?_
  refine g_iload_n K d_c9_allReached_4 3 rfl ?_
  obtain ⟨q1, e_q1, hy⟩ := gBd hy
  refine g_callVv (rest := []) K hx ly_c9_countSteps kv_c9_59 d_c9_allReached_5 (ct_c9_countSteps M.2.1 X hx N a0 a1 a2 (0 : Int32) x3 h q1 e_q1) rfl rfl (Nat.le_of_ble_eq_true rfl) (gDep rfl) ⟨Nat.le_refl 0, Nat.le_refl 0⟩ ?_
  refine g_iconst (v := 0) K d_c9_allReached_8 (by decide) ?_
  refine g_istore (ls2 := [(4, .int (0 : Int32)), (0, .ref a0), (1, .ref a1), (2, .ref a2), (3, .int x3)]) K d_c9_allReached_9 rfl rfl ?_
  obtain ⟨o8, e_o8, hy⟩ := gBd hy
  refine g_sub (ls2 := [(0, .ref a0), (1, .ref a1), (4, .int (0 : Int32))]) [1, 2, 0] rfl ?_
  refine wlp_c9_allReached_11 hx K a0 a1 q1 N (0 : Int32) o8 e_o8 (fun t9 e_t9 => ?_) (fun r10 e_r10 => ?_)
  · subst e_t9
    simp only [Sum.elim_inr] at hy
    refine g_iconst (v := 1) K d_c9_allReached_38 (by decide) ?_
    obtain ⟨w12, e_w12, hy⟩ := gBd hy
    obtain ⟨z_w12, n_w12⟩ := gZ_spec e_w12
    rw [z_w12]
    obtain rfl := Option.some.inj hy
    exact hret (gZn n_w12) _ _ _ d_c9_allReached_39
  · subst e_r10
    simp only [Sum.elim_inl] at hy
    intro hn pc9 pc9' ls9 hd9
    obtain rfl := Option.some.inj hy
    exact hret hn _ _ _ hd9
-- c10 asks
theorem d_c10_asks_0 : gD b_c10_asks 0 (.aload_n 0) 1 1 := ⟨by decide +kernel, rfl⟩
theorem d_c10_asks_1 : gD b_c10_asks 1 (.getfield 60) 3 4 := ⟨by decide +kernel, rfl⟩
theorem d_c10_asks_4 : gD b_c10_asks 4 (.aload_n 0) 1 5 := ⟨by decide +kernel, rfl⟩
theorem d_c10_asks_5 : gD b_c10_asks 5 (.getfield 33) 3 8 := ⟨by decide +kernel, rfl⟩
theorem d_c10_asks_8 : gD b_c10_asks 8 (.aload_n 0) 1 9 := ⟨by decide +kernel, rfl⟩
theorem d_c10_asks_9 : gD b_c10_asks 9 (.getfield 26) 3 12 := ⟨by decide +kernel, rfl⟩
theorem d_c10_asks_12 : gD b_c10_asks 12 (.invokevirtual 343) 3 15 := ⟨by decide +kernel, rfl⟩
theorem d_c10_asks_15 : gD b_c10_asks 15 (.istore_n 1) 1 16 := ⟨by decide +kernel, rfl⟩
theorem d_c10_asks_16 : gD b_c10_asks 16 (.iload_n 1) 1 17 := ⟨by decide +kernel, rfl⟩
theorem d_c10_asks_17 : gJ b_c10_asks 17 (.ifCond .ne 6) 3 6 20 23 := ⟨by decide +kernel, rfl, by decide⟩
theorem d_c10_asks_20 : gD b_c10_asks 20 (.bipush (-2)) 2 22 := ⟨by decide +kernel, rfl⟩
theorem d_c10_asks_22 : gD b_c10_asks 22 .ireturn 1 23 := ⟨by decide +kernel, rfl⟩
theorem d_c10_asks_23 : gD b_c10_asks 23 (.iload_n 1) 1 24 := ⟨by decide +kernel, rfl⟩
theorem d_c10_asks_24 : gD b_c10_asks 24 (.invokestatic 347) 3 27 := ⟨by decide +kernel, rfl⟩
theorem d_c10_asks_27 : gD b_c10_asks 27 (.istore_n 2) 1 28 := ⟨by decide +kernel, rfl⟩
theorem d_c10_asks_28 : gD b_c10_asks 28 (.iconst 0) 1 29 := ⟨by decide +kernel, rfl⟩
theorem d_c10_asks_29 : gD b_c10_asks 29 (.istore_n 3) 1 30 := ⟨by decide +kernel, rfl⟩
theorem d_c10_asks_30 : gD b_c10_asks 30 (.iload_n 2) 1 31 := ⟨by decide +kernel, rfl⟩
theorem d_c10_asks_31 : gD b_c10_asks 31 (.iconst 1) 1 32 := ⟨by decide +kernel, rfl⟩
theorem d_c10_asks_32 : gD b_c10_asks 32 .iadd 1 33 := ⟨by decide +kernel, rfl⟩
theorem d_c10_asks_33 : gD b_c10_asks 33 (.istore 4) 2 35 := ⟨by decide +kernel, rfl⟩
theorem d_c10_asks_35 : gD b_c10_asks 35 (.iconst 0) 1 36 := ⟨by decide +kernel, rfl⟩
theorem d_c10_asks_36 : gD b_c10_asks 36 (.istore 5) 2 38 := ⟨by decide +kernel, rfl⟩
theorem d_c10_asks_38 : gD b_c10_asks 38 (.iload 5) 2 40 := ⟨by decide +kernel, rfl⟩
theorem d_c10_asks_40 : gD b_c10_asks 40 (.iconst 3) 1 41 := ⟨by decide +kernel, rfl⟩
theorem d_c10_asks_41 : gJ b_c10_asks 41 (.if_icmp .gt 102) 3 102 44 143 := ⟨by decide +kernel, rfl, by decide⟩
theorem d_c10_asks_44 : gD b_c10_asks 44 (.aload_n 0) 1 45 := ⟨by decide +kernel, rfl⟩
theorem d_c10_asks_45 : gD b_c10_asks 45 (.getfield 60) 3 48 := ⟨by decide +kernel, rfl⟩
theorem d_c10_asks_48 : gD b_c10_asks 48 (.iload 5) 2 50 := ⟨by decide +kernel, rfl⟩
theorem d_c10_asks_50 : gD b_c10_asks 50 (.invokevirtual 352) 3 53 := ⟨by decide +kernel, rfl⟩
theorem d_c10_asks_53 : gD b_c10_asks 53 (.istore 6) 2 55 := ⟨by decide +kernel, rfl⟩
theorem d_c10_asks_55 : gD b_c10_asks 55 (.iload 5) 2 57 := ⟨by decide +kernel, rfl⟩
theorem d_c10_asks_57 : gD b_c10_asks 57 (.iconst 2) 1 58 := ⟨by decide +kernel, rfl⟩
theorem d_c10_asks_58 : gJ b_c10_asks 58 (.if_icmp .eq 79) 3 79 61 137 := ⟨by decide +kernel, rfl, by decide⟩
theorem d_c10_asks_61 : gD b_c10_asks 61 (.iload 6) 2 63 := ⟨by decide +kernel, rfl⟩
theorem d_c10_asks_63 : gD b_c10_asks 63 (.aload_n 0) 1 64 := ⟨by decide +kernel, rfl⟩
theorem d_c10_asks_64 : gD b_c10_asks 64 (.getfield 60) 3 67 := ⟨by decide +kernel, rfl⟩
theorem d_c10_asks_67 : gD b_c10_asks 67 (.iload 5) 2 69 := ⟨by decide +kernel, rfl⟩
theorem d_c10_asks_69 : gD b_c10_asks 69 (.invokevirtual 355) 3 72 := ⟨by decide +kernel, rfl⟩
theorem d_c10_asks_72 : gJ b_c10_asks 72 (.if_icmp .gt 65) 3 65 75 137 := ⟨by decide +kernel, rfl, by decide⟩
theorem d_c10_asks_75 : gD b_c10_asks 75 (.aload_n 0) 1 76 := ⟨by decide +kernel, rfl⟩
theorem d_c10_asks_76 : gD b_c10_asks 76 (.getfield 60) 3 79 := ⟨by decide +kernel, rfl⟩
theorem d_c10_asks_79 : gD b_c10_asks 79 (.iload_n 1) 1 80 := ⟨by decide +kernel, rfl⟩
theorem d_c10_asks_80 : gD b_c10_asks 80 (.iload 5) 2 82 := ⟨by decide +kernel, rfl⟩
theorem d_c10_asks_82 : gD b_c10_asks 82 (.iload 6) 2 84 := ⟨by decide +kernel, rfl⟩
theorem d_c10_asks_84 : gD b_c10_asks 84 (.aload_n 0) 1 85 := ⟨by decide +kernel, rfl⟩
theorem d_c10_asks_85 : gD b_c10_asks 85 (.getfield 33) 3 88 := ⟨by decide +kernel, rfl⟩
theorem d_c10_asks_88 : gD b_c10_asks 88 (.aload_n 0) 1 89 := ⟨by decide +kernel, rfl⟩
theorem d_c10_asks_89 : gD b_c10_asks 89 (.getfield 26) 3 92 := ⟨by decide +kernel, rfl⟩
theorem d_c10_asks_92 : gD b_c10_asks 92 (.invokevirtual 358) 3 95 := ⟨by decide +kernel, rfl⟩
theorem d_c10_asks_95 : gD b_c10_asks 95 (.invokestatic 347) 3 98 := ⟨by decide +kernel, rfl⟩
theorem d_c10_asks_98 : gD b_c10_asks 98 (.istore 7) 2 100 := ⟨by decide +kernel, rfl⟩
theorem d_c10_asks_100 : gD b_c10_asks 100 (.iload 7) 2 102 := ⟨by decide +kernel, rfl⟩
theorem d_c10_asks_102 : gD b_c10_asks 102 (.iload_n 2) 1 103 := ⟨by decide +kernel, rfl⟩
theorem d_c10_asks_103 : gD b_c10_asks 103 (.iload 7) 2 105 := ⟨by decide +kernel, rfl⟩
theorem d_c10_asks_105 : gD b_c10_asks 105 .isub 1 106 := ⟨by decide +kernel, rfl⟩
theorem d_c10_asks_106 : gD b_c10_asks 106 (.invokestatic 362) 3 109 := ⟨by decide +kernel, rfl⟩
theorem d_c10_asks_109 : gD b_c10_asks 109 (.istore 8) 2 111 := ⟨by decide +kernel, rfl⟩
theorem d_c10_asks_111 : gD b_c10_asks 111 (.iload 8) 2 113 := ⟨by decide +kernel, rfl⟩
theorem d_c10_asks_113 : gD b_c10_asks 113 (.iload 4) 2 115 := ⟨by decide +kernel, rfl⟩
theorem d_c10_asks_115 : gJ b_c10_asks 115 (.if_icmp .ge 16) 3 16 118 131 := ⟨by decide +kernel, rfl, by decide⟩
theorem d_c10_asks_118 : gD b_c10_asks 118 (.iload 8) 2 120 := ⟨by decide +kernel, rfl⟩
theorem d_c10_asks_120 : gD b_c10_asks 120 (.istore 4) 2 122 := ⟨by decide +kernel, rfl⟩
theorem d_c10_asks_122 : gD b_c10_asks 122 (.bipush 10) 2 124 := ⟨by decide +kernel, rfl⟩
theorem d_c10_asks_124 : gD b_c10_asks 124 (.iload 5) 2 126 := ⟨by decide +kernel, rfl⟩
theorem d_c10_asks_126 : gD b_c10_asks 126 .imul 1 127 := ⟨by decide +kernel, rfl⟩
theorem d_c10_asks_127 : gD b_c10_asks 127 (.iload 6) 2 129 := ⟨by decide +kernel, rfl⟩
theorem d_c10_asks_129 : gD b_c10_asks 129 .iadd 1 130 := ⟨by decide +kernel, rfl⟩
theorem d_c10_asks_130 : gD b_c10_asks 130 (.istore_n 3) 1 131 := ⟨by decide +kernel, rfl⟩
theorem d_c10_asks_131 : gD b_c10_asks 131 (.iinc 6 1) 3 134 := ⟨by decide +kernel, rfl⟩
theorem d_c10_asks_134 : gJ b_c10_asks 134 (.goto (-79)) 3 (-79) 137 55 := ⟨by decide +kernel, rfl, by decide⟩
theorem d_c10_asks_137 : gD b_c10_asks 137 (.iinc 5 1) 3 140 := ⟨by decide +kernel, rfl⟩
theorem d_c10_asks_140 : gJ b_c10_asks 140 (.goto (-102)) 3 (-102) 143 38 := ⟨by decide +kernel, rfl, by decide⟩
theorem d_c10_asks_143 : gD b_c10_asks 143 (.aload_n 0) 1 144 := ⟨by decide +kernel, rfl⟩
theorem d_c10_asks_144 : gD b_c10_asks 144 (.iload_n 3) 1 145 := ⟨by decide +kernel, rfl⟩
theorem d_c10_asks_145 : gD b_c10_asks 145 (.iload 4) 2 147 := ⟨by decide +kernel, rfl⟩
theorem d_c10_asks_147 : gD b_c10_asks 147 .i2l 1 148 := ⟨by decide +kernel, rfl⟩
theorem d_c10_asks_148 : gD b_c10_asks 148 (.invokevirtual 261) 3 151 := ⟨by decide +kernel, rfl⟩
theorem d_c10_asks_151 : gD b_c10_asks 151 .ireturn 1 152 := ⟨by decide +kernel, rfl⟩
def lp_c10_asks_55 (N : Nat) (a0 : Nat) (x1 : Int32) (x2 : Int32) (x5 : Int32) (h : gH) : Nat → Int32 → Int32 → Int32 → Option (Int32 × Int32)
  | 0, _, _, _ => none
  | k + 1, x3, x4, x6 =>
  if x5 = (2 : Int32) then
    some (x3, x4)
  else
    (gfR h a0 10 8).bind fun v11 =>
    (f_c2_greatest N v11 x5 h).bind fun q12 =>
    if q12 < x6 then
    some (x3, x4)
  else
    (gfR h a0 10 8).bind fun v14 =>
    (gfR h a0 10 3).bind fun v15 =>
    (gfR h a0 10 2).bind fun v16 =>
    (f_c2_narrow N v14 x1 x5 x6 v15 v16 h).bind fun q17 =>
    (f_jInteger_bitCount N q17 h).bind fun q18 =>
    (show Option (Int32 × Int32) from if x4 ≤ (gmax q18 (x2 - q18)) then
    some (x3, x4)
  else
    some (((10 : Int32) * x5) + x6, gmax q18 (x2 - q18))).bind fun t20 =>
    lp_c10_asks_55 N a0 x1 x2 x5 h k t20.1 t20.2 (x6 + (1 : Int32))
def lp_c10_asks_38 (N : Nat) (a0 : Nat) (x1 : Int32) (x2 : Int32) (h : gH) : Nat → Int32 → Int32 → Int32 → Option (Int32 × Int32)
  | 0, _, _, _ => none
  | k + 1, x3, x4, x5 =>
  if (3 : Int32) < x5 then
    some (x3, x4)
  else
    (gfR h a0 10 8).bind fun v8 =>
    (f_c2_least N v8 x5 h).bind fun q9 =>
    (lp_c10_asks_55 N a0 x1 x2 x5 h N x3 x4 q9).bind fun o22 =>
    lp_c10_asks_38 N a0 x1 x2 h k o22.1 o22.2 (x5 + (1 : Int32))
def f_c10_asks (N : Nat) (a0 : Nat) (h : gH) : Option (Int32 × gH) :=
  (gcl h a0 10).bind fun _ =>
  (gfR h a0 10 8).bind fun v1 =>
    (gfR h a0 10 3).bind fun v2 =>
    (gfR h a0 10 2).bind fun v3 =>
    (f_c2_fitting N v1 v2 v3 h).bind fun q4 =>
    if q4 = 0 then
    some ((-2 : Int32), h)
  else
    (f_jInteger_bitCount N q4 h).bind fun q6 =>
    (lp_c10_asks_38 N a0 q4 q6 h N (0 : Int32) (q6 + (1 : Int32)) (0 : Int32)).bind fun o23 =>
    (f_c10_tellOne N a0 o23.1 o23.2.toInt64 h).bind fun q24 =>
    some (q24.1, q24.2)
set_option maxHeartbeats 4000000 in
set_option maxRecDepth 100000 in
theorem wlp_c10_asks_55 {M : gM} {X : gX} {N : Nat} (hx : gEx X = false) (K : gC M X gN10 b_c10_asks 9 (gRm (7 + N) 0 0)) (a0 : Nat) (x1 : Int32) (x2 : Int32) (x5 : Int32) (h : gH) : ∀ (k : Nat) (x3 : Int32) (x4 : Int32) (x6 : Int32) (o : Int32 × Int32), lp_c10_asks_55 N a0 x1 x2 x5 h k x3 x4 x6 = some o → gG M X 9 0 0 137 [(0, .ref a0), (1, .int x1), (2, .int x2), (3, .int o.1), (4, .int o.2), (5, .int x5)] [] h → gG M X 9 0 0 55 [(0, .ref a0), (1, .int x1), (2, .int x2), (3, .int x3), (4, .int x4), (5, .int x5), (6, .int x6)] [] h := by
  intro k
  induction k with
  | zero =>
    intro x3 x4 x6 o hy
    rw [lp_c10_asks_55.eq_1] at hy
    cases hy
  | succ k ih =>
    intro x3 x4 x6 o hy hE
    rw [lp_c10_asks_55.eq_2] at hy
    refine g_iload K d_c10_asks_55 5 rfl ?_
    refine g_iconst (v := 2) K d_c10_asks_57 (by decide) ?_
    refine g_icmp_eq K d_c10_asks_58 (fun c10 => ?_) (fun c10 => ?_)
    · rw [if_pos c10] at hy
      refine g_sub (ls2 := [(0, .ref a0), (1, .int x1), (2, .int x2), (3, .int x3), (4, .int x4), (5, .int x5)]) [0, 1, 2, 3, 4, 5] rfl ?_
      obtain rfl := Option.some.inj hy
      exact hE
    · rw [if_neg c10] at hy
      refine g_iload K d_c10_asks_61 6 rfl ?_
      refine g_aload_n K d_c10_asks_63 0 rfl ?_
      obtain ⟨v11, e_v11, hy⟩ := gBd hy
      refine g_getR K fl_c10_60 d_c10_asks_64 e_v11 ?_
      refine g_iload K d_c10_asks_67 5 rfl ?_
      obtain ⟨q12, e_q12, hy⟩ := gBd hy
      refine g_callVi (rest := [.int x6]) K hx ly_c2_greatest kv_c10_355 d_c10_asks_69 (ct_c2_greatest M.2.1 X hx N v11 x5 h q12 e_q12) rfl rfl (Nat.le_of_ble_eq_true rfl) (gDep rfl) ⟨Nat.le_refl 0, Nat.le_refl 0⟩ ?_
      refine g_icmp_gt K d_c10_asks_72 (fun c13 => ?_) (fun c13 => ?_)
      · rw [if_pos c13] at hy
        refine g_sub (ls2 := [(0, .ref a0), (1, .int x1), (2, .int x2), (3, .int x3), (4, .int x4), (5, .int x5)]) [0, 1, 2, 3, 4, 5] rfl ?_
        obtain rfl := Option.some.inj hy
        exact hE
      · rw [if_neg c13] at hy
        refine g_aload_n K d_c10_asks_75 0 rfl ?_
        obtain ⟨v14, e_v14, hy⟩ := gBd hy
        refine g_getR K fl_c10_60 d_c10_asks_76 e_v14 ?_
        refine g_iload_n K d_c10_asks_79 1 rfl ?_
        refine g_iload K d_c10_asks_80 5 rfl ?_
        refine g_iload K d_c10_asks_82 6 rfl ?_
        refine g_aload_n K d_c10_asks_84 0 rfl ?_
        obtain ⟨v15, e_v15, hy⟩ := gBd hy
        refine g_getR K fl_c10_33 d_c10_asks_85 e_v15 ?_
        refine g_aload_n K d_c10_asks_88 0 rfl ?_
        obtain ⟨v16, e_v16, hy⟩ := gBd hy
        refine g_getR K fl_c10_26 d_c10_asks_89 e_v16 ?_
        obtain ⟨q17, e_q17, hy⟩ := gBd hy
        refine g_callVi (rest := []) K hx ly_c2_narrow kv_c10_358 d_c10_asks_92 (ct_c2_narrow M.2.1 X hx N v14 x1 x5 x6 v15 v16 h q17 e_q17) rfl rfl (Nat.le_of_ble_eq_true rfl) (gDep rfl) ⟨Nat.le_refl 0, Nat.le_refl 0⟩ ?_
        obtain ⟨q18, e_q18, hy⟩ := gBd hy
        refine g_callSi (rest := []) K hx ly_jInteger_bitCount ks_c10_347 d_c10_asks_95 (ct_jInteger_bitCount M.2.1 X hx N q17 h q18 e_q18) rfl rfl (Nat.le_of_ble_eq_true rfl) (gDep rfl) ⟨Nat.le_refl 0, Nat.le_refl 0⟩ ?_
        refine g_istore (ls2 := [(7, .int q18), (0, .ref a0), (1, .int x1), (2, .int x2), (3, .int x3), (4, .int x4), (5, .int x5), (6, .int x6)]) K d_c10_asks_98 rfl rfl ?_
        refine g_iload K d_c10_asks_100 0 rfl ?_
        refine g_iload_n K d_c10_asks_102 3 rfl ?_
        refine g_iload K d_c10_asks_103 0 rfl ?_
        refine g_isub K d_c10_asks_105 ?_
        refine g_mmax K d_c10_asks_106 (gTk_3 3 rfl rfl) (gTk_2 82 rfl rfl) (gTk_1 12 rfl rfl) (gTk_2 83 rfl rfl) (gDep1 rfl) (Nat.le_of_ble_eq_true rfl) ⟨Nat.le_refl 0, Nat.le_refl 0⟩ ?_
        refine g_istore (ls2 := [(8, .int (gmax q18 (x2 - q18))), (7, .int q18), (0, .ref a0), (1, .int x1), (2, .int x2), (3, .int x3), (4, .int x4), (5, .int x5), (6, .int x6)]) K d_c10_asks_109 rfl rfl ?_
        refine g_iload K d_c10_asks_111 0 rfl ?_
        refine g_iload K d_c10_asks_113 6 rfl ?_
        obtain ⟨t20, e_t20, hy⟩ := gBd hy
        have hJ21 : gG M X 9 0 0 131 [(0, .ref a0), (1, .int x1), (2, .int x2), (3, .int t20.1), (4, .int t20.2), (5, .int x5), (6, .int x6)] [] h := by
          refine g_iinc (ls2 := [(6, .int (x6 + (1 : Int32))), (0, .ref a0), (1, .int x1), (2, .int x2), (3, .int t20.1), (4, .int t20.2), (5, .int x5)]) (v := 1) K d_c10_asks_131 6 rfl (by decide) rfl rfl ?_
          refine g_goto K d_c10_asks_134 ?_
          refine g_sub (ls2 := [(0, .ref a0), (1, .int x1), (2, .int x2), (3, .int t20.1), (4, .int t20.2), (5, .int x5), (6, .int (x6 + (1 : Int32)))]) [1, 2, 3, 4, 5, 6, 0] rfl ?_
          exact ih _ _ _ _ hy hE
        refine g_icmp_ge K d_c10_asks_115 (fun c19 => ?_) (fun c19 => ?_)
        · rw [if_pos c19] at e_t20
          refine g_sub (ls2 := [(0, .ref a0), (1, .int x1), (2, .int x2), (3, .int x3), (4, .int x4), (5, .int x5), (6, .int x6)]) [2, 3, 4, 5, 6, 7, 8] rfl ?_
          obtain rfl := Option.some.inj e_t20
          exact hJ21
        · rw [if_neg c19] at e_t20
          refine g_iload K d_c10_asks_118 0 rfl ?_
          refine g_istore (ls2 := [(4, .int (gmax q18 (x2 - q18))), (8, .int (gmax q18 (x2 - q18))), (7, .int q18), (0, .ref a0), (1, .int x1), (2, .int x2), (3, .int x3), (5, .int x5), (6, .int x6)]) K d_c10_asks_120 rfl rfl ?_
          refine g_bipush (v := 10) K d_c10_asks_122 (by decide) ?_
          refine g_iload K d_c10_asks_124 7 rfl ?_
          refine g_imul K d_c10_asks_126 ?_
          refine g_iload K d_c10_asks_127 8 rfl ?_
          refine g_iadd K d_c10_asks_129 ?_
          refine g_istore_n (ls2 := [(3, .int (((10 : Int32) * x5) + x6)), (4, .int (gmax q18 (x2 - q18))), (8, .int (gmax q18 (x2 - q18))), (7, .int q18), (0, .ref a0), (1, .int x1), (2, .int x2), (5, .int x5), (6, .int x6)]) K d_c10_asks_130 rfl rfl ?_
          refine g_sub (ls2 := [(0, .ref a0), (1, .int x1), (2, .int x2), (3, .int (((10 : Int32) * x5) + x6)), (4, .int (gmax q18 (x2 - q18))), (5, .int x5), (6, .int x6)]) [4, 5, 6, 0, 1, 7, 8] rfl ?_
          obtain rfl := Option.some.inj e_t20
          exact hJ21
set_option maxHeartbeats 4000000 in
set_option maxRecDepth 100000 in
theorem wlp_c10_asks_38 {M : gM} {X : gX} {N : Nat} (hx : gEx X = false) (K : gC M X gN10 b_c10_asks 9 (gRm (7 + N) 0 0)) (a0 : Nat) (x1 : Int32) (x2 : Int32) (h : gH) : ∀ (k : Nat) (x3 : Int32) (x4 : Int32) (x5 : Int32) (o : Int32 × Int32), lp_c10_asks_38 N a0 x1 x2 h k x3 x4 x5 = some o → gG M X 9 0 0 143 [(0, .ref a0), (3, .int o.1), (4, .int o.2)] [] h → gG M X 9 0 0 38 [(0, .ref a0), (1, .int x1), (2, .int x2), (3, .int x3), (4, .int x4), (5, .int x5)] [] h := by
  intro k
  induction k with
  | zero =>
    intro x3 x4 x5 o hy
    rw [lp_c10_asks_38.eq_1] at hy
    cases hy
  | succ k ih =>
    intro x3 x4 x5 o hy hE
    rw [lp_c10_asks_38.eq_2] at hy
    refine g_iload K d_c10_asks_38 5 rfl ?_
    refine g_iconst (v := 3) K d_c10_asks_40 (by decide) ?_
    refine g_icmp_gt K d_c10_asks_41 (fun c7 => ?_) (fun c7 => ?_)
    · rw [if_pos c7] at hy
      refine g_sub (ls2 := [(0, .ref a0), (3, .int x3), (4, .int x4)]) [0, 3, 4] rfl ?_
      obtain rfl := Option.some.inj hy
      exact hE
    · rw [if_neg c7] at hy
      refine g_aload_n K d_c10_asks_44 0 rfl ?_
      obtain ⟨v8, e_v8, hy⟩ := gBd hy
      refine g_getR K fl_c10_60 d_c10_asks_45 e_v8 ?_
      refine g_iload K d_c10_asks_48 5 rfl ?_
      obtain ⟨q9, e_q9, hy⟩ := gBd hy
      refine g_callVi (rest := []) K hx ly_c2_least kv_c10_352 d_c10_asks_50 (ct_c2_least M.2.1 X hx N v8 x5 h q9 e_q9) rfl rfl (Nat.le_of_ble_eq_true rfl) (gDep rfl) ⟨Nat.le_refl 0, Nat.le_refl 0⟩ ?_
      refine g_istore (ls2 := [(6, .int q9), (0, .ref a0), (1, .int x1), (2, .int x2), (3, .int x3), (4, .int x4), (5, .int x5)]) K d_c10_asks_53 rfl rfl ?_
      obtain ⟨o22, e_o22, hy⟩ := gBd hy
      refine g_sub (ls2 := [(0, .ref a0), (1, .int x1), (2, .int x2), (3, .int x3), (4, .int x4), (5, .int x5), (6, .int q9)]) [1, 2, 3, 4, 5, 6, 0] rfl ?_
      refine wlp_c10_asks_55 hx K a0 x1 x2 x5 h N x3 x4 q9 o22 e_o22 ?_
      refine g_iinc (ls2 := [(5, .int (x5 + (1 : Int32))), (0, .ref a0), (1, .int x1), (2, .int x2), (3, .int o22.1), (4, .int o22.2)]) (v := 1) K d_c10_asks_137 5 rfl (by decide) rfl rfl ?_
      refine g_goto K d_c10_asks_140 ?_
      refine g_sub (ls2 := [(0, .ref a0), (1, .int x1), (2, .int x2), (3, .int o22.1), (4, .int o22.2), (5, .int (x5 + (1 : Int32)))]) [1, 2, 3, 4, 5, 0] rfl ?_
      exact ih _ _ _ _ hy hE
set_option maxHeartbeats 4000000 in
set_option maxRecDepth 100000 in
theorem ct_c10_asks (l : Launch) (X : gX) (hx : gEx X = false) (N : Nat) (a0 : Nat) (h : gH) (q : Int32 × gH) (hy : f_c10_asks N a0 h = some q) : gRc y_c10_asks h a0 ∧ gMi l X y_c10_asks b_c10_asks 9 .int (7 + N) 0 0 [.ref a0] h q.1 q.2 := by
  unfold f_c10_asks at hy
  obtain ⟨u0, e_u0, hy⟩ := gBd hy
  cases u0
  refine ⟨Or.inl ⟨10, _, _, e_u0, rfl⟩, gMet_i (lsx := [(0, .ref a0)]) (by decide) rfl rfl ?_⟩
  intro M hMl K hret
  subst hMl
  refine g_aload_n K d_c10_asks_0 0 rfl ?_
  obtain ⟨v1, e_v1, hy⟩ := gBd hy
  refine g_getR K fl_c10_60 d_c10_asks_1 e_v1 ?_
  refine g_aload_n K d_c10_asks_4 0 rfl ?_
  obtain ⟨v2, e_v2, hy⟩ := gBd hy
  refine g_getR K fl_c10_33 d_c10_asks_5 e_v2 ?_
  refine g_aload_n K d_c10_asks_8 0 rfl ?_
  obtain ⟨v3, e_v3, hy⟩ := gBd hy
  refine g_getR K fl_c10_26 d_c10_asks_9 e_v3 ?_
  obtain ⟨q4, e_q4, hy⟩ := gBd hy
  refine g_callVi (rest := []) K hx ly_c2_fitting kv_c10_343 d_c10_asks_12 (ct_c2_fitting M.2.1 X hx N v1 v2 v3 h q4 e_q4) rfl rfl (Nat.le_of_ble_eq_true rfl) (gDep rfl) ⟨Nat.le_refl 0, Nat.le_refl 0⟩ ?_
  refine g_istore_n (ls2 := [(1, .int q4), (0, .ref a0)]) K d_c10_asks_15 rfl rfl ?_
  refine g_iload_n K d_c10_asks_16 0 rfl ?_
  refine g_if_ne K d_c10_asks_17 (fun c5 => ?_) (fun c5 => ?_)
  · rw [if_neg c5] at hy
    refine g_iload_n K d_c10_asks_23 0 rfl ?_
    obtain ⟨q6, e_q6, hy⟩ := gBd hy
    refine g_callSi (rest := []) K hx ly_jInteger_bitCount ks_c10_347 d_c10_asks_24 (ct_jInteger_bitCount M.2.1 X hx N q4 h q6 e_q6) rfl rfl (Nat.le_of_ble_eq_true rfl) (gDep rfl) ⟨Nat.le_refl 0, Nat.le_refl 0⟩ ?_
    refine g_istore_n (ls2 := [(2, .int q6), (1, .int q4), (0, .ref a0)]) K d_c10_asks_27 rfl rfl ?_
    refine g_iconst (v := 0) K d_c10_asks_28 (by decide) ?_
    refine g_istore_n (ls2 := [(3, .int (0 : Int32)), (2, .int q6), (1, .int q4), (0, .ref a0)]) K d_c10_asks_29 rfl rfl ?_
    refine g_iload_n K d_c10_asks_30 1 rfl ?_
    refine g_iconst (v := 1) K d_c10_asks_31 (by decide) ?_
    refine g_iadd K d_c10_asks_32 ?_
    refine g_istore (ls2 := [(4, .int (q6 + (1 : Int32))), (3, .int (0 : Int32)), (2, .int q6), (1, .int q4), (0, .ref a0)]) K d_c10_asks_33 rfl rfl ?_
    refine g_iconst (v := 0) K d_c10_asks_35 (by decide) ?_
    refine g_istore (ls2 := [(5, .int (0 : Int32)), (4, .int (q6 + (1 : Int32))), (3, .int (0 : Int32)), (2, .int q6), (1, .int q4), (0, .ref a0)]) K d_c10_asks_36 rfl rfl ?_
    obtain ⟨o23, e_o23, hy⟩ := gBd hy
    refine g_sub (ls2 := [(0, .ref a0), (1, .int q4), (2, .int q6), (3, .int (0 : Int32)), (4, .int (q6 + (1 : Int32))), (5, .int (0 : Int32))]) [5, 4, 3, 2, 1, 0] rfl ?_
    refine wlp_c10_asks_38 hx K a0 q4 q6 h N (0 : Int32) (q6 + (1 : Int32)) (0 : Int32) o23 e_o23 ?_
    refine g_aload_n K d_c10_asks_143 0 rfl ?_
    refine g_iload_n K d_c10_asks_144 1 rfl ?_
    refine g_iload K d_c10_asks_145 2 rfl ?_
    refine g_i2l K d_c10_asks_147 ?_
    obtain ⟨q24, e_q24, hy⟩ := gBd hy
    refine g_callVi (rest := []) K hx ly_c10_tellOne kv_c10_261 d_c10_asks_148 (ct_c10_tellOne M.2.1 X hx N a0 o23.1 o23.2.toInt64 h q24 e_q24) rfl rfl (Nat.le_of_ble_eq_true rfl) (gDep rfl) ⟨Nat.le_refl 0, Nat.le_refl 0⟩ ?_
    obtain rfl := Option.some.inj hy
    exact hret rfl _ _ _ d_c10_asks_151
  · rw [if_pos c5] at hy
    refine g_bipush (v := (-2)) K d_c10_asks_20 (by decide) ?_
    obtain rfl := Option.some.inj hy
    exact hret rfl _ _ _ d_c10_asks_22
-- c10 bears
theorem d_c10_bears_0 : gD b_c10_bears 0 (.aload_n 0) 1 1 := ⟨by decide +kernel, rfl⟩
theorem d_c10_bears_1 : gD b_c10_bears 1 (.getfield 33) 3 4 := ⟨by decide +kernel, rfl⟩
theorem d_c10_bears_4 : gD b_c10_bears 4 (.iload_n 1) 1 5 := ⟨by decide +kernel, rfl⟩
theorem d_c10_bears_5 : gD b_c10_bears 5 (.invokevirtual 138) 3 8 := ⟨by decide +kernel, rfl⟩
theorem d_c10_bears_8 : gJ b_c10_bears 8 (.ifCond .eq 10) 3 10 11 18 := ⟨by decide +kernel, rfl, by decide⟩
theorem d_c10_bears_11 : gD b_c10_bears 11 (.iload_n 2) 1 12 := ⟨by decide +kernel, rfl⟩
theorem d_c10_bears_12 : gD b_c10_bears 12 (.invokestatic 294) 3 15 := ⟨by decide +kernel, rfl⟩
theorem d_c10_bears_15 : gJ b_c10_bears 15 (.ifCond .ne 5) 3 5 18 20 := ⟨by decide +kernel, rfl, by decide⟩
theorem d_c10_bears_18 : gD b_c10_bears 18 (.iconst (-1)) 1 19 := ⟨by decide +kernel, rfl⟩
theorem d_c10_bears_19 : gD b_c10_bears 19 .ireturn 1 20 := ⟨by decide +kernel, rfl⟩
theorem d_c10_bears_20 : gD b_c10_bears 20 (.aload_n 0) 1 21 := ⟨by decide +kernel, rfl⟩
theorem d_c10_bears_21 : gD b_c10_bears 21 (.iload_n 2) 1 22 := ⟨by decide +kernel, rfl⟩
theorem d_c10_bears_22 : gD b_c10_bears 22 (.invokevirtual 251) 3 25 := ⟨by decide +kernel, rfl⟩
theorem d_c10_bears_25 : gD b_c10_bears 25 (.istore_n 3) 1 26 := ⟨by decide +kernel, rfl⟩
theorem d_c10_bears_26 : gD b_c10_bears 26 (.bipush 9) 2 28 := ⟨by decide +kernel, rfl⟩
theorem d_c10_bears_28 : gD b_c10_bears 28 (.aload_n 0) 1 29 := ⟨by decide +kernel, rfl⟩
theorem d_c10_bears_29 : gD b_c10_bears 29 (.getfield 33) 3 32 := ⟨by decide +kernel, rfl⟩
theorem d_c10_bears_32 : gD b_c10_bears 32 (.getfield 154) 3 35 := ⟨by decide +kernel, rfl⟩
theorem d_c10_bears_35 : gD b_c10_bears 35 (.iload_n 1) 1 36 := ⟨by decide +kernel, rfl⟩
theorem d_c10_bears_36 : gD b_c10_bears 36 .iaload 1 37 := ⟨by decide +kernel, rfl⟩
theorem d_c10_bears_37 : gD b_c10_bears 37 .isub 1 38 := ⟨by decide +kernel, rfl⟩
theorem d_c10_bears_38 : gD b_c10_bears 38 (.istore 4) 2 40 := ⟨by decide +kernel, rfl⟩
theorem d_c10_bears_40 : gD b_c10_bears 40 (.iload 4) 2 42 := ⟨by decide +kernel, rfl⟩
theorem d_c10_bears_42 : gD b_c10_bears 42 (.iconst 1) 1 43 := ⟨by decide +kernel, rfl⟩
theorem d_c10_bears_43 : gJ b_c10_bears 43 (.if_icmp .lt 72) 3 72 46 115 := ⟨by decide +kernel, rfl, by decide⟩
theorem d_c10_bears_46 : gD b_c10_bears 46 (.aload_n 0) 1 47 := ⟨by decide +kernel, rfl⟩
theorem d_c10_bears_47 : gD b_c10_bears 47 (.getfield 40) 3 50 := ⟨by decide +kernel, rfl⟩
theorem d_c10_bears_50 : gD b_c10_bears 50 (.aload_n 0) 1 51 := ⟨by decide +kernel, rfl⟩
theorem d_c10_bears_51 : gD b_c10_bears 51 (.getfield 33) 3 54 := ⟨by decide +kernel, rfl⟩
theorem d_c10_bears_54 : gD b_c10_bears 54 (.invokevirtual 124) 3 57 := ⟨by decide +kernel, rfl⟩
theorem d_c10_bears_57 : gD b_c10_bears 57 (.aload_n 0) 1 58 := ⟨by decide +kernel, rfl⟩
theorem d_c10_bears_58 : gD b_c10_bears 58 (.getfield 40) 3 61 := ⟨by decide +kernel, rfl⟩
theorem d_c10_bears_61 : gD b_c10_bears 61 (.getfield 154) 3 64 := ⟨by decide +kernel, rfl⟩
theorem d_c10_bears_64 : gD b_c10_bears 64 (.iload_n 1) 1 65 := ⟨by decide +kernel, rfl⟩
theorem d_c10_bears_65 : gD b_c10_bears 65 .dup2 1 66 := ⟨by decide +kernel, rfl⟩
theorem d_c10_bears_66 : gD b_c10_bears 66 .iaload 1 67 := ⟨by decide +kernel, rfl⟩
theorem d_c10_bears_67 : gD b_c10_bears 67 (.iload 4) 2 69 := ⟨by decide +kernel, rfl⟩
theorem d_c10_bears_69 : gD b_c10_bears 69 .iadd 1 70 := ⟨by decide +kernel, rfl⟩
theorem d_c10_bears_70 : gD b_c10_bears 70 .iastore 1 71 := ⟨by decide +kernel, rfl⟩
theorem d_c10_bears_71 : gD b_c10_bears 71 (.aload_n 0) 1 72 := ⟨by decide +kernel, rfl⟩
theorem d_c10_bears_72 : gD b_c10_bears 72 (.getfield 46) 3 75 := ⟨by decide +kernel, rfl⟩
theorem d_c10_bears_75 : gD b_c10_bears 75 (.aload_n 0) 1 76 := ⟨by decide +kernel, rfl⟩
theorem d_c10_bears_76 : gD b_c10_bears 76 (.getfield 40) 3 79 := ⟨by decide +kernel, rfl⟩
theorem d_c10_bears_79 : gD b_c10_bears 79 (.aload_n 0) 1 80 := ⟨by decide +kernel, rfl⟩
theorem d_c10_bears_80 : gD b_c10_bears 80 (.getfield 26) 3 83 := ⟨by decide +kernel, rfl⟩
theorem d_c10_bears_83 : gD b_c10_bears 83 (.aload_n 0) 1 84 := ⟨by decide +kernel, rfl⟩
theorem d_c10_bears_84 : gD b_c10_bears 84 (.getfield 81) 3 87 := ⟨by decide +kernel, rfl⟩
theorem d_c10_bears_87 : gD b_c10_bears 87 (.iload_n 2) 1 88 := ⟨by decide +kernel, rfl⟩
theorem d_c10_bears_88 : gD b_c10_bears 88 (.invokevirtual 195) 3 91 := ⟨by decide +kernel, rfl⟩
theorem d_c10_bears_91 : gD b_c10_bears 91 (.istore 5) 2 93 := ⟨by decide +kernel, rfl⟩
theorem d_c10_bears_93 : gD b_c10_bears 93 (.iload 5) 2 95 := ⟨by decide +kernel, rfl⟩
theorem d_c10_bears_95 : gD b_c10_bears 95 (.iload_n 3) 1 96 := ⟨by decide +kernel, rfl⟩
theorem d_c10_bears_96 : gJ b_c10_bears 96 (.if_icmp .gt 13) 3 13 99 109 := ⟨by decide +kernel, rfl, by decide⟩
theorem d_c10_bears_99 : gD b_c10_bears 99 (.aload_n 0) 1 100 := ⟨by decide +kernel, rfl⟩
theorem d_c10_bears_100 : gD b_c10_bears 100 (.iload 4) 2 102 := ⟨by decide +kernel, rfl⟩
theorem d_c10_bears_102 : gD b_c10_bears 102 (.iload 5) 2 104 := ⟨by decide +kernel, rfl⟩
theorem d_c10_bears_104 : gD b_c10_bears 104 .i2l 1 105 := ⟨by decide +kernel, rfl⟩
theorem d_c10_bears_105 : gD b_c10_bears 105 (.invokevirtual 261) 3 108 := ⟨by decide +kernel, rfl⟩
theorem d_c10_bears_108 : gD b_c10_bears 108 .ireturn 1 109 := ⟨by decide +kernel, rfl⟩
theorem d_c10_bears_109 : gD b_c10_bears 109 (.iinc 4 (-1)) 3 112 := ⟨by decide +kernel, rfl⟩
theorem d_c10_bears_112 : gJ b_c10_bears 112 (.goto (-72)) 3 (-72) 115 40 := ⟨by decide +kernel, rfl, by decide⟩
theorem d_c10_bears_115 : gD b_c10_bears 115 (.aload_n 0) 1 116 := ⟨by decide +kernel, rfl⟩
theorem d_c10_bears_116 : gD b_c10_bears 116 (.iconst 0) 1 117 := ⟨by decide +kernel, rfl⟩
theorem d_c10_bears_117 : gD b_c10_bears 117 (.iload_n 3) 1 118 := ⟨by decide +kernel, rfl⟩
theorem d_c10_bears_118 : gD b_c10_bears 118 .i2l 1 119 := ⟨by decide +kernel, rfl⟩
theorem d_c10_bears_119 : gD b_c10_bears 119 (.invokevirtual 261) 3 122 := ⟨by decide +kernel, rfl⟩
theorem d_c10_bears_122 : gD b_c10_bears 122 .ireturn 1 123 := ⟨by decide +kernel, rfl⟩
def lp_c10_bears_40 (N : Nat) (a0 : Nat) (x1 : Int32) (x2 : Int32) (x3 : Int32) : Nat → Int32 → gH → Option ((Int32 × gH) ⊕ (gH))
  | 0, _, _ => none
  | k + 1, x4, h =>
  if x4 < (1 : Int32) then
    some (.inr h)
  else
    (gfR h a0 10 5).bind fun v11 =>
    (gfR h a0 10 3).bind fun v12 =>
    (f_c7_take N v11 v12 h).bind fun q13 =>
    (gfR q13 a0 10 5).bind fun v14 =>
    (gfR q13 v14 7 4).bind fun v15 =>
    (ga 0 q13 v15 x1).bind fun v16 =>
    (sa 0 q13 v15 x1 (v16 + x4)).bind fun h17 =>
    (gfR h17 a0 10 6).bind fun v18 =>
    (gfR h17 a0 10 5).bind fun v19 =>
    (gfR h17 a0 10 2).bind fun v20 =>
    (gfR h17 a0 10 11).bind fun v21 =>
    (f_c0_pass N v18 v19 v20 v21 x2 h17).bind fun q22 =>
    if x3 < q22.1 then
    lp_c10_bears_40 N a0 x1 x2 x3 k (x4 + (-1 : Int32)) q22.2
  else
    (f_c10_tellOne N a0 x4 q22.1.toInt64 q22.2).bind fun q24 =>
    some (.inl (q24.1, q24.2))
def f_c10_bears (N : Nat) (a0 : Nat) (x1 : Int32) (x2 : Int32) (h : gH) : Option (Int32 × gH) :=
  (gcl h a0 10).bind fun _ =>
  (gfR h a0 10 3).bind fun v1 =>
    (f_c7_has N v1 x1 h).bind fun q2 =>
    if q2 = 0 then
    some ((-1 : Int32), h)
  else
    (f_c10_isTried N x2 h).bind fun q4 =>
    if q4 = 0 then
    some ((-1 : Int32), h)
  else
    (f_c10_tryAsItIs N a0 x2 h).bind fun q6 =>
    (gfR q6.2 a0 10 3).bind fun v7 =>
    (gfR q6.2 v7 7 4).bind fun v8 =>
    (ga 0 q6.2 v8 x1).bind fun v9 =>
    (lp_c10_bears_40 N a0 x1 x2 q6.1 N ((9 : Int32) - v9) q6.2).bind fun o25 => Sum.elim (fun r27 => some r27) (fun t26 =>
    (f_c10_tellOne N a0 (0 : Int32) q6.1.toInt64 t26).bind fun q29 =>
    some (q29.1, q29.2)) o25
set_option maxHeartbeats 4000000 in
set_option maxRecDepth 100000 in
theorem wlp_c10_bears_40 {M : gM} {X : gX} {N : Nat} (hx : gEx X = false) (K : gC M X gN10 b_c10_bears 6 (gRm (7 + N) 0 0)) (a0 : Nat) (x1 : Int32) (x2 : Int32) (x3 : Int32) : ∀ (k : Nat) (x4 : Int32) (h : gH) (o : (Int32 × gH) ⊕ (gH)), lp_c10_bears_40 N a0 x1 x2 x3 k x4 h = some o → (∀ t, o = .inr t → gG M X 6 0 0 115 [(0, .ref a0), (3, .int x3)] [] t) → (∀ r, o = .inl r → (narrow .int (.int r.1) = .int r.1 → ∀ pc pc' ls, gD b_c10_bears pc .ireturn 1 pc' → gG M X 6 0 0 pc ls [.int r.1] r.2)) → gG M X 6 0 0 40 [(0, .ref a0), (1, .int x1), (2, .int x2), (3, .int x3), (4, .int x4)] [] h := by
  intro k
  induction k with
  | zero =>
    intro x4 h o hy
    rw [lp_c10_bears_40.eq_1] at hy
    cases hy
  | succ k ih =>
    intro x4 h o hy hE hR
    rw [lp_c10_bears_40.eq_2] at hy
    refine g_iload K d_c10_bears_40 4 rfl ?_
    refine g_iconst (v := 1) K d_c10_bears_42 (by decide) ?_
    refine g_icmp_lt K d_c10_bears_43 (fun c10 => ?_) (fun c10 => ?_)
    · rw [if_pos c10] at hy
      refine g_sub (ls2 := [(0, .ref a0), (3, .int x3)]) [0, 3] rfl ?_
      obtain rfl := Option.some.inj hy
      exact hE _ rfl
    · rw [if_neg c10] at hy
      refine g_aload_n K d_c10_bears_46 0 rfl ?_
      obtain ⟨v11, e_v11, hy⟩ := gBd hy
      refine g_getR K fl_c10_40 d_c10_bears_47 e_v11 ?_
      refine g_aload_n K d_c10_bears_50 0 rfl ?_
      obtain ⟨v12, e_v12, hy⟩ := gBd hy
      refine g_getR K fl_c10_33 d_c10_bears_51 e_v12 ?_
      obtain ⟨q13, e_q13, hy⟩ := gBd hy
      refine g_callVv (rest := []) K hx ly_c7_take kv_c10_124 d_c10_bears_54 (ct_c7_take M.2.1 X hx N v11 v12 h q13 e_q13) rfl rfl (Nat.le_of_ble_eq_true rfl) (gDep rfl) ⟨Nat.le_refl 0, Nat.le_refl 0⟩ ?_
      refine g_aload_n K d_c10_bears_57 0 rfl ?_
      obtain ⟨v14, e_v14, hy⟩ := gBd hy
      refine g_getR K fl_c10_40 d_c10_bears_58 e_v14 ?_
      obtain ⟨v15, e_v15, hy⟩ := gBd hy
      refine g_getR K fl_c10_154 d_c10_bears_61 e_v15 ?_
      refine g_iload_n K d_c10_bears_64 1 rfl ?_
      refine g_dup2 K d_c10_bears_65 rfl rfl ?_
      obtain ⟨v16, e_v16, hy⟩ := gBd hy
      refine g_iald K d_c10_bears_66 e_v16 ?_
      refine g_iload K d_c10_bears_67 4 rfl ?_
      refine g_iadd K d_c10_bears_69 ?_
      obtain ⟨h17, e_h17, hy⟩ := gBd hy
      refine g_iast K d_c10_bears_70 e_h17 ?_
      refine g_aload_n K d_c10_bears_71 0 rfl ?_
      obtain ⟨v18, e_v18, hy⟩ := gBd hy
      refine g_getR K fl_c10_46 d_c10_bears_72 e_v18 ?_
      refine g_aload_n K d_c10_bears_75 0 rfl ?_
      obtain ⟨v19, e_v19, hy⟩ := gBd hy
      refine g_getR K fl_c10_40 d_c10_bears_76 e_v19 ?_
      refine g_aload_n K d_c10_bears_79 0 rfl ?_
      obtain ⟨v20, e_v20, hy⟩ := gBd hy
      refine g_getR K fl_c10_26 d_c10_bears_80 e_v20 ?_
      refine g_aload_n K d_c10_bears_83 0 rfl ?_
      obtain ⟨v21, e_v21, hy⟩ := gBd hy
      refine g_getR K fl_c10_81 d_c10_bears_84 e_v21 ?_
      refine g_iload_n K d_c10_bears_87 2 rfl ?_
      obtain ⟨q22, e_q22, hy⟩ := gBd hy
      refine g_callVi (rest := []) K hx ly_c0_pass kv_c10_195 d_c10_bears_88 (ct_c0_pass M.2.1 X hx N v18 v19 v20 v21 x2 h17 q22 e_q22) rfl rfl (Nat.le_of_ble_eq_true rfl) (gDep rfl) ⟨Nat.le_refl 0, Nat.le_refl 0⟩ ?_
      refine g_istore (ls2 := [(5, .int q22.1), (0, .ref a0), (1, .int x1), (2, .int x2), (3, .int x3), (4, .int x4)]) K d_c10_bears_91 rfl rfl ?_
      refine g_iload K d_c10_bears_93 0 rfl ?_
      refine g_iload_n K d_c10_bears_95 4 rfl ?_
      refine g_icmp_gt K d_c10_bears_96 (fun c23 => ?_) (fun c23 => ?_)
      · rw [if_pos c23] at hy
        refine g_iinc (ls2 := [(4, .int (x4 + (-1 : Int32))), (5, .int q22.1), (0, .ref a0), (1, .int x1), (2, .int x2), (3, .int x3)]) (v := (-1)) K d_c10_bears_109 5 rfl (by decide) rfl rfl ?_
        refine g_goto K d_c10_bears_112 ?_
        refine g_sub (ls2 := [(0, .ref a0), (1, .int x1), (2, .int x2), (3, .int x3), (4, .int (x4 + (-1 : Int32)))]) [2, 3, 4, 5, 0] rfl ?_
        exact ih _ _ _ hy hE hR
      · rw [if_neg c23] at hy
        refine g_aload_n K d_c10_bears_99 1 rfl ?_
        refine g_iload K d_c10_bears_100 5 rfl ?_
        refine g_iload K d_c10_bears_102 0 rfl ?_
        refine g_i2l K d_c10_bears_104 ?_
        obtain ⟨q24, e_q24, hy⟩ := gBd hy
        refine g_callVi (rest := []) K hx ly_c10_tellOne kv_c10_261 d_c10_bears_105 (ct_c10_tellOne M.2.1 X hx N a0 x4 q22.1.toInt64 q22.2 q24 e_q24) rfl rfl (Nat.le_of_ble_eq_true rfl) (gDep rfl) ⟨Nat.le_refl 0, Nat.le_refl 0⟩ ?_
        obtain rfl := Option.some.inj hy
        exact hR _ rfl rfl _ _ _ d_c10_bears_108
set_option maxHeartbeats 4000000 in
set_option maxRecDepth 100000 in
theorem ct_c10_bears (l : Launch) (X : gX) (hx : gEx X = false) (N : Nat) (a0 : Nat) (x1 : Int32) (x2 : Int32) (h : gH) (q : Int32 × gH) (hy : f_c10_bears N a0 x1 x2 h = some q) : gRc y_c10_bears h a0 ∧ gMi l X y_c10_bears b_c10_bears 6 .int (7 + N) 0 0 [.ref a0, .int x1, .int x2] h q.1 q.2 := by
  unfold f_c10_bears at hy
  obtain ⟨u0, e_u0, hy⟩ := gBd hy
  cases u0
  refine ⟨Or.inl ⟨10, _, _, e_u0, rfl⟩, gMet_i (lsx := [(0, .ref a0), (1, .int x1), (2, .int x2)]) (by decide) rfl rfl ?_⟩
  intro M hMl K hret
  subst hMl
  refine g_aload_n K d_c10_bears_0 0 rfl ?_
  obtain ⟨v1, e_v1, hy⟩ := gBd hy
  refine g_getR K fl_c10_33 d_c10_bears_1 e_v1 ?_
  refine g_iload_n K d_c10_bears_4 1 rfl ?_
  obtain ⟨q2, e_q2, hy⟩ := gBd hy
  refine g_callVi (rest := []) K hx ly_c7_has kv_c10_138 d_c10_bears_5 (ct_c7_has M.2.1 X hx N v1 x1 h q2 e_q2) rfl rfl (Nat.le_of_ble_eq_true rfl) (gDep rfl) ⟨Nat.le_refl 0, Nat.le_refl 0⟩ ?_
  refine g_if_eq K d_c10_bears_8 (fun c3 => ?_) (fun c3 => ?_)
  · rw [if_pos c3] at hy
    refine g_iconst (v := (-1)) K d_c10_bears_18 (by decide) ?_
    obtain rfl := Option.some.inj hy
    exact hret rfl _ _ _ d_c10_bears_19
  · rw [if_neg c3] at hy
    refine g_iload_n K d_c10_bears_11 2 rfl ?_
    obtain ⟨q4, e_q4, hy⟩ := gBd hy
    refine g_callSi (rest := []) K hx ly_c10_isTried ks_c10_294 d_c10_bears_12 (ct_c10_isTried M.2.1 X hx N x2 h q4 e_q4) rfl rfl (Nat.le_of_ble_eq_true rfl) (gDep rfl) ⟨Nat.le_refl 0, Nat.le_refl 0⟩ ?_
    refine g_if_ne K d_c10_bears_15 (fun c5 => ?_) (fun c5 => ?_)
    · rw [if_neg c5] at hy
      refine g_aload_n K d_c10_bears_20 0 rfl ?_
      refine g_iload_n K d_c10_bears_21 2 rfl ?_
      obtain ⟨q6, e_q6, hy⟩ := gBd hy
      refine g_callVi (rest := []) K hx ly_c10_tryAsItIs kv_c10_251 d_c10_bears_22 (ct_c10_tryAsItIs M.2.1 X hx N a0 x2 h q6 e_q6) rfl rfl (Nat.le_of_ble_eq_true rfl) (gDep rfl) ⟨Nat.le_refl 0, Nat.le_refl 0⟩ ?_
      refine g_istore_n (ls2 := [(3, .int q6.1), (0, .ref a0), (1, .int x1), (2, .int x2)]) K d_c10_bears_25 rfl rfl ?_
      refine g_bipush (v := 9) K d_c10_bears_26 (by decide) ?_
      refine g_aload_n K d_c10_bears_28 1 rfl ?_
      obtain ⟨v7, e_v7, hy⟩ := gBd hy
      refine g_getR K fl_c10_33 d_c10_bears_29 e_v7 ?_
      obtain ⟨v8, e_v8, hy⟩ := gBd hy
      refine g_getR K fl_c10_154 d_c10_bears_32 e_v8 ?_
      refine g_iload_n K d_c10_bears_35 2 rfl ?_
      obtain ⟨v9, e_v9, hy⟩ := gBd hy
      refine g_iald K d_c10_bears_36 e_v9 ?_
      refine g_isub K d_c10_bears_37 ?_
      refine g_istore (ls2 := [(4, .int ((9 : Int32) - v9)), (3, .int q6.1), (0, .ref a0), (1, .int x1), (2, .int x2)]) K d_c10_bears_38 rfl rfl ?_
      obtain ⟨o25, e_o25, hy⟩ := gBd hy
      refine g_sub (ls2 := [(0, .ref a0), (1, .int x1), (2, .int x2), (3, .int q6.1), (4, .int ((9 : Int32) - v9))]) [2, 3, 4, 1, 0] rfl ?_
      refine wlp_c10_bears_40 hx K a0 x1 x2 q6.1 N ((9 : Int32) - v9) q6.2 o25 e_o25 (fun t26 e_t26 => ?_) (fun r27 e_r27 => ?_)
      · subst e_t26
        simp only [Sum.elim_inr] at hy
        refine g_aload_n K d_c10_bears_115 0 rfl ?_
        refine g_iconst (v := 0) K d_c10_bears_116 (by decide) ?_
        refine g_iload_n K d_c10_bears_117 1 rfl ?_
        refine g_i2l K d_c10_bears_118 ?_
        obtain ⟨q29, e_q29, hy⟩ := gBd hy
        refine g_callVi (rest := []) K hx ly_c10_tellOne kv_c10_261 d_c10_bears_119 (ct_c10_tellOne M.2.1 X hx N a0 (0 : Int32) q6.1.toInt64 t26 q29 e_q29) rfl rfl (Nat.le_of_ble_eq_true rfl) (gDep rfl) ⟨Nat.le_refl 0, Nat.le_refl 0⟩ ?_
        obtain rfl := Option.some.inj hy
        exact hret rfl _ _ _ d_c10_bears_122
      · subst e_r27
        simp only [Sum.elim_inl] at hy
        intro hn pc9 pc9' ls9 hd9
        obtain rfl := Option.some.inj hy
        exact hret hn _ _ _ hd9
    · rw [if_pos c5] at hy
      refine g_iconst (v := (-1)) K d_c10_bears_18 (by decide) ?_
      obtain rfl := Option.some.inj hy
      exact hret rfl _ _ _ d_c10_bears_19
-- c10 dearest
theorem d_c10_dearest_0 : gD b_c10_dearest 0 (.iload_n 1) 1 1 := ⟨by decide +kernel, rfl⟩
theorem d_c10_dearest_1 : gD b_c10_dearest 1 (.invokestatic 294) 3 4 := ⟨by decide +kernel, rfl⟩
theorem d_c10_dearest_4 : gJ b_c10_dearest 4 (.ifCond .ne 5) 3 5 7 9 := ⟨by decide +kernel, rfl, by decide⟩
theorem d_c10_dearest_7 : gD b_c10_dearest 7 (.iconst (-1)) 1 8 := ⟨by decide +kernel, rfl⟩
theorem d_c10_dearest_8 : gD b_c10_dearest 8 .ireturn 1 9 := ⟨by decide +kernel, rfl⟩
theorem d_c10_dearest_9 : gD b_c10_dearest 9 (.aload_n 0) 1 10 := ⟨by decide +kernel, rfl⟩
theorem d_c10_dearest_10 : gD b_c10_dearest 10 (.getfield 33) 3 13 := ⟨by decide +kernel, rfl⟩
theorem d_c10_dearest_13 : gD b_c10_dearest 13 (.getfield 132) 3 16 := ⟨by decide +kernel, rfl⟩
theorem d_c10_dearest_16 : gJ b_c10_dearest 16 (.ifCond .ne 6) 3 6 19 22 := ⟨by decide +kernel, rfl, by decide⟩
theorem d_c10_dearest_19 : gD b_c10_dearest 19 (.bipush (-2)) 2 21 := ⟨by decide +kernel, rfl⟩
theorem d_c10_dearest_21 : gD b_c10_dearest 21 .ireturn 1 22 := ⟨by decide +kernel, rfl⟩
theorem d_c10_dearest_22 : gD b_c10_dearest 22 (.iconst (-1)) 1 23 := ⟨by decide +kernel, rfl⟩
theorem d_c10_dearest_23 : gD b_c10_dearest 23 (.istore_n 2) 1 24 := ⟨by decide +kernel, rfl⟩
theorem d_c10_dearest_24 : gD b_c10_dearest 24 (.iconst 0) 1 25 := ⟨by decide +kernel, rfl⟩
theorem d_c10_dearest_25 : gD b_c10_dearest 25 (.istore_n 3) 1 26 := ⟨by decide +kernel, rfl⟩
theorem d_c10_dearest_26 : gD b_c10_dearest 26 (.iconst 0) 1 27 := ⟨by decide +kernel, rfl⟩
theorem d_c10_dearest_27 : gD b_c10_dearest 27 (.istore 4) 2 29 := ⟨by decide +kernel, rfl⟩
theorem d_c10_dearest_29 : gD b_c10_dearest 29 (.iload 4) 2 31 := ⟨by decide +kernel, rfl⟩
theorem d_c10_dearest_31 : gD b_c10_dearest 31 (.aload_n 0) 1 32 := ⟨by decide +kernel, rfl⟩
theorem d_c10_dearest_32 : gD b_c10_dearest 32 (.getfield 33) 3 35 := ⟨by decide +kernel, rfl⟩
theorem d_c10_dearest_35 : gD b_c10_dearest 35 (.getfield 132) 3 38 := ⟨by decide +kernel, rfl⟩
theorem d_c10_dearest_38 : gJ b_c10_dearest 38 (.if_icmp .ge 67) 3 67 41 105 := ⟨by decide +kernel, rfl, by decide⟩
theorem d_c10_dearest_41 : gD b_c10_dearest 41 (.aload_n 0) 1 42 := ⟨by decide +kernel, rfl⟩
theorem d_c10_dearest_42 : gD b_c10_dearest 42 (.getfield 40) 3 45 := ⟨by decide +kernel, rfl⟩
theorem d_c10_dearest_45 : gD b_c10_dearest 45 (.aload_n 0) 1 46 := ⟨by decide +kernel, rfl⟩
theorem d_c10_dearest_46 : gD b_c10_dearest 46 (.getfield 33) 3 49 := ⟨by decide +kernel, rfl⟩
theorem d_c10_dearest_49 : gD b_c10_dearest 49 (.invokevirtual 124) 3 52 := ⟨by decide +kernel, rfl⟩
theorem d_c10_dearest_52 : gD b_c10_dearest 52 (.aload_n 0) 1 53 := ⟨by decide +kernel, rfl⟩
theorem d_c10_dearest_53 : gD b_c10_dearest 53 (.getfield 40) 3 56 := ⟨by decide +kernel, rfl⟩
theorem d_c10_dearest_56 : gD b_c10_dearest 56 (.iload 4) 2 58 := ⟨by decide +kernel, rfl⟩
theorem d_c10_dearest_58 : gD b_c10_dearest 58 (.invokevirtual 304) 3 61 := ⟨by decide +kernel, rfl⟩
theorem d_c10_dearest_61 : gD b_c10_dearest 61 (.aload_n 0) 1 62 := ⟨by decide +kernel, rfl⟩
theorem d_c10_dearest_62 : gD b_c10_dearest 62 (.getfield 46) 3 65 := ⟨by decide +kernel, rfl⟩
theorem d_c10_dearest_65 : gD b_c10_dearest 65 (.aload_n 0) 1 66 := ⟨by decide +kernel, rfl⟩
theorem d_c10_dearest_66 : gD b_c10_dearest 66 (.getfield 40) 3 69 := ⟨by decide +kernel, rfl⟩
theorem d_c10_dearest_69 : gD b_c10_dearest 69 (.aload_n 0) 1 70 := ⟨by decide +kernel, rfl⟩
theorem d_c10_dearest_70 : gD b_c10_dearest 70 (.getfield 26) 3 73 := ⟨by decide +kernel, rfl⟩
theorem d_c10_dearest_73 : gD b_c10_dearest 73 (.aload_n 0) 1 74 := ⟨by decide +kernel, rfl⟩
theorem d_c10_dearest_74 : gD b_c10_dearest 74 (.getfield 81) 3 77 := ⟨by decide +kernel, rfl⟩
theorem d_c10_dearest_77 : gD b_c10_dearest 77 (.iload_n 1) 1 78 := ⟨by decide +kernel, rfl⟩
theorem d_c10_dearest_78 : gD b_c10_dearest 78 (.invokevirtual 195) 3 81 := ⟨by decide +kernel, rfl⟩
theorem d_c10_dearest_81 : gD b_c10_dearest 81 (.istore 5) 2 83 := ⟨by decide +kernel, rfl⟩
theorem d_c10_dearest_83 : gD b_c10_dearest 83 (.iload_n 2) 1 84 := ⟨by decide +kernel, rfl⟩
theorem d_c10_dearest_84 : gJ b_c10_dearest 84 (.ifCond .lt 9) 3 9 87 93 := ⟨by decide +kernel, rfl, by decide⟩
theorem d_c10_dearest_87 : gD b_c10_dearest 87 (.iload 5) 2 89 := ⟨by decide +kernel, rfl⟩
theorem d_c10_dearest_89 : gD b_c10_dearest 89 (.iload_n 3) 1 90 := ⟨by decide +kernel, rfl⟩
theorem d_c10_dearest_90 : gJ b_c10_dearest 90 (.if_icmp .le 9) 3 9 93 99 := ⟨by decide +kernel, rfl, by decide⟩
theorem d_c10_dearest_93 : gD b_c10_dearest 93 (.iload 4) 2 95 := ⟨by decide +kernel, rfl⟩
theorem d_c10_dearest_95 : gD b_c10_dearest 95 (.istore_n 2) 1 96 := ⟨by decide +kernel, rfl⟩
theorem d_c10_dearest_96 : gD b_c10_dearest 96 (.iload 5) 2 98 := ⟨by decide +kernel, rfl⟩
theorem d_c10_dearest_98 : gD b_c10_dearest 98 (.istore_n 3) 1 99 := ⟨by decide +kernel, rfl⟩
theorem d_c10_dearest_99 : gD b_c10_dearest 99 (.iinc 4 1) 3 102 := ⟨by decide +kernel, rfl⟩
theorem d_c10_dearest_102 : gJ b_c10_dearest 102 (.goto (-73)) 3 (-73) 105 29 := ⟨by decide +kernel, rfl, by decide⟩
theorem d_c10_dearest_105 : gD b_c10_dearest 105 (.aload_n 0) 1 106 := ⟨by decide +kernel, rfl⟩
theorem d_c10_dearest_106 : gD b_c10_dearest 106 (.iload_n 2) 1 107 := ⟨by decide +kernel, rfl⟩
theorem d_c10_dearest_107 : gD b_c10_dearest 107 (.iload_n 3) 1 108 := ⟨by decide +kernel, rfl⟩
theorem d_c10_dearest_108 : gD b_c10_dearest 108 .i2l 1 109 := ⟨by decide +kernel, rfl⟩
theorem d_c10_dearest_109 : gD b_c10_dearest 109 (.aload_n 0) 1 110 := ⟨by decide +kernel, rfl⟩
theorem d_c10_dearest_110 : gD b_c10_dearest 110 (.iload_n 1) 1 111 := ⟨by decide +kernel, rfl⟩
theorem d_c10_dearest_111 : gD b_c10_dearest 111 (.invokevirtual 251) 3 114 := ⟨by decide +kernel, rfl⟩
theorem d_c10_dearest_114 : gD b_c10_dearest 114 .i2l 1 115 := ⟨by decide +kernel, rfl⟩
theorem d_c10_dearest_115 : gD b_c10_dearest 115 (.invokevirtual 205) 3 118 := ⟨by decide +kernel, rfl⟩
theorem d_c10_dearest_118 : gD b_c10_dearest 118 .ireturn 1 119 := ⟨by decide +kernel, rfl⟩
def lp_c10_dearest_29 (N : Nat) (a0 : Nat) (x1 : Int32) : Nat → Int32 → Int32 → Int32 → gH → Option (Int32 × Int32 × gH)
  | 0, _, _, _, _ => none
  | k + 1, x2, x3, x4, h =>
  (gfR h a0 10 3).bind fun v6 =>
    (gfI h v6 7 0).bind fun v7 =>
    if v7 ≤ x4 then
    some (x2, x3, h)
  else
    (gfR h a0 10 5).bind fun v9 =>
    (gfR h a0 10 3).bind fun v10 =>
    (f_c7_take N v9 v10 h).bind fun q11 =>
    (gfR q11 a0 10 5).bind fun v12 =>
    (f_c7_drop N v12 x4 q11).bind fun q13 =>
    (gfR q13 a0 10 6).bind fun v14 =>
    (gfR q13 a0 10 5).bind fun v15 =>
    (gfR q13 a0 10 2).bind fun v16 =>
    (gfR q13 a0 10 11).bind fun v17 =>
    (f_c0_pass N v14 v15 v16 v17 x1 q13).bind fun q18 =>
    (show Option (Int32 × Int32) from if x2 < 0 then
    some (x4, q18.1)
  else
    if q18.1 ≤ x3 then
    some (x2, x3)
  else
    some (x4, q18.1)).bind fun t20 =>
    lp_c10_dearest_29 N a0 x1 k t20.1 t20.2 (x4 + (1 : Int32)) q18.2
def f_c10_dearest (N : Nat) (a0 : Nat) (x1 : Int32) (h : gH) : Option (Int32 × gH) :=
  (gcl h a0 10).bind fun _ =>
  (f_c10_isTried N x1 h).bind fun q1 =>
    if q1 = 0 then
    some ((-1 : Int32), h)
  else
    (gfR h a0 10 3).bind fun v3 =>
    (gfI h v3 7 0).bind fun v4 =>
    if v4 = 0 then
    some ((-2 : Int32), h)
  else
    (lp_c10_dearest_29 N a0 x1 N (-1 : Int32) (0 : Int32) (0 : Int32) h).bind fun o23 =>
    (f_c10_tryAsItIs N a0 x1 o23.2.2).bind fun q24 =>
    (f_c10_tellTwo N a0 o23.1 o23.2.1.toInt64 q24.1.toInt64 q24.2).bind fun q25 =>
    some (q25.1, q25.2)
set_option maxHeartbeats 4000000 in
set_option maxRecDepth 100000 in
theorem wlp_c10_dearest_29 {M : gM} {X : gX} {N : Nat} (hx : gEx X = false) (K : gC M X gN10 b_c10_dearest 6 (gRm (7 + N) 0 0)) (a0 : Nat) (x1 : Int32) : ∀ (k : Nat) (x2 : Int32) (x3 : Int32) (x4 : Int32) (h : gH) (o : Int32 × Int32 × gH), lp_c10_dearest_29 N a0 x1 k x2 x3 x4 h = some o → gG M X 6 0 0 105 [(0, .ref a0), (1, .int x1), (2, .int o.1), (3, .int o.2.1)] [] o.2.2 → gG M X 6 0 0 29 [(0, .ref a0), (1, .int x1), (2, .int x2), (3, .int x3), (4, .int x4)] [] h := by
  intro k
  induction k with
  | zero =>
    intro x2 x3 x4 h o hy
    rw [lp_c10_dearest_29.eq_1] at hy
    cases hy
  | succ k ih =>
    intro x2 x3 x4 h o hy hE
    rw [lp_c10_dearest_29.eq_2] at hy
    refine g_iload K d_c10_dearest_29 4 rfl ?_
    refine g_aload_n K d_c10_dearest_31 0 rfl ?_
    obtain ⟨v6, e_v6, hy⟩ := gBd hy
    refine g_getR K fl_c10_33 d_c10_dearest_32 e_v6 ?_
    obtain ⟨v7, e_v7, hy⟩ := gBd hy
    refine g_getI K fl_c10_132 d_c10_dearest_35 e_v7 ?_
    refine g_icmp_ge K d_c10_dearest_38 (fun c8 => ?_) (fun c8 => ?_)
    · rw [if_pos c8] at hy
      refine g_sub (ls2 := [(0, .ref a0), (1, .int x1), (2, .int x2), (3, .int x3)]) [0, 1, 2, 3] rfl ?_
      obtain rfl := Option.some.inj hy
      exact hE
    · rw [if_neg c8] at hy
      refine g_aload_n K d_c10_dearest_41 0 rfl ?_
      obtain ⟨v9, e_v9, hy⟩ := gBd hy
      refine g_getR K fl_c10_40 d_c10_dearest_42 e_v9 ?_
      refine g_aload_n K d_c10_dearest_45 0 rfl ?_
      obtain ⟨v10, e_v10, hy⟩ := gBd hy
      refine g_getR K fl_c10_33 d_c10_dearest_46 e_v10 ?_
      obtain ⟨q11, e_q11, hy⟩ := gBd hy
      refine g_callVv (rest := []) K hx ly_c7_take kv_c10_124 d_c10_dearest_49 (ct_c7_take M.2.1 X hx N v9 v10 h q11 e_q11) rfl rfl (Nat.le_of_ble_eq_true rfl) (gDep rfl) ⟨Nat.le_refl 0, Nat.le_refl 0⟩ ?_
      refine g_aload_n K d_c10_dearest_52 0 rfl ?_
      obtain ⟨v12, e_v12, hy⟩ := gBd hy
      refine g_getR K fl_c10_40 d_c10_dearest_53 e_v12 ?_
      refine g_iload K d_c10_dearest_56 4 rfl ?_
      obtain ⟨q13, e_q13, hy⟩ := gBd hy
      refine g_callVv (rest := []) K hx ly_c7_drop kv_c10_304 d_c10_dearest_58 (ct_c7_drop M.2.1 X hx N v12 x4 q11 q13 e_q13) rfl rfl (Nat.le_of_ble_eq_true rfl) (gDep rfl) ⟨Nat.le_refl 0, Nat.le_refl 0⟩ ?_
      refine g_aload_n K d_c10_dearest_61 0 rfl ?_
      obtain ⟨v14, e_v14, hy⟩ := gBd hy
      refine g_getR K fl_c10_46 d_c10_dearest_62 e_v14 ?_
      refine g_aload_n K d_c10_dearest_65 0 rfl ?_
      obtain ⟨v15, e_v15, hy⟩ := gBd hy
      refine g_getR K fl_c10_40 d_c10_dearest_66 e_v15 ?_
      refine g_aload_n K d_c10_dearest_69 0 rfl ?_
      obtain ⟨v16, e_v16, hy⟩ := gBd hy
      refine g_getR K fl_c10_26 d_c10_dearest_70 e_v16 ?_
      refine g_aload_n K d_c10_dearest_73 0 rfl ?_
      obtain ⟨v17, e_v17, hy⟩ := gBd hy
      refine g_getR K fl_c10_81 d_c10_dearest_74 e_v17 ?_
      refine g_iload_n K d_c10_dearest_77 1 rfl ?_
      obtain ⟨q18, e_q18, hy⟩ := gBd hy
      refine g_callVi (rest := []) K hx ly_c0_pass kv_c10_195 d_c10_dearest_78 (ct_c0_pass M.2.1 X hx N v14 v15 v16 v17 x1 q13 q18 e_q18) rfl rfl (Nat.le_of_ble_eq_true rfl) (gDep rfl) ⟨Nat.le_refl 0, Nat.le_refl 0⟩ ?_
      refine g_istore (ls2 := [(5, .int q18.1), (0, .ref a0), (1, .int x1), (2, .int x2), (3, .int x3), (4, .int x4)]) K d_c10_dearest_81 rfl rfl ?_
      refine g_iload_n K d_c10_dearest_83 3 rfl ?_
      obtain ⟨t20, e_t20, hy⟩ := gBd hy
      have hJ21 : gG M X 6 0 0 99 [(0, .ref a0), (1, .int x1), (2, .int t20.1), (3, .int t20.2), (4, .int x4)] [] q18.2 := by
        refine g_iinc (ls2 := [(4, .int (x4 + (1 : Int32))), (0, .ref a0), (1, .int x1), (2, .int t20.1), (3, .int t20.2)]) (v := 1) K d_c10_dearest_99 4 rfl (by decide) rfl rfl ?_
        refine g_goto K d_c10_dearest_102 ?_
        refine g_sub (ls2 := [(0, .ref a0), (1, .int x1), (2, .int t20.1), (3, .int t20.2), (4, .int (x4 + (1 : Int32)))]) [1, 2, 3, 4, 0] rfl ?_
        exact ih _ _ _ _ _ hy hE
      refine g_if_lt K d_c10_dearest_84 (fun c19 => ?_) (fun c19 => ?_)
      · rw [if_pos c19] at e_t20
        refine g_iload K d_c10_dearest_93 5 rfl ?_
        refine g_istore_n (ls2 := [(2, .int x4), (5, .int q18.1), (0, .ref a0), (1, .int x1), (3, .int x3), (4, .int x4)]) K d_c10_dearest_95 rfl rfl ?_
        refine g_iload K d_c10_dearest_96 1 rfl ?_
        refine g_istore_n (ls2 := [(3, .int q18.1), (2, .int x4), (5, .int q18.1), (0, .ref a0), (1, .int x1), (4, .int x4)]) K d_c10_dearest_98 rfl rfl ?_
        refine g_sub (ls2 := [(0, .ref a0), (1, .int x1), (2, .int x4), (3, .int q18.1), (4, .int x4)]) [3, 4, 1, 0, 5] rfl ?_
        obtain rfl := Option.some.inj e_t20
        exact hJ21
      · rw [if_neg c19] at e_t20
        refine g_iload K d_c10_dearest_87 0 rfl ?_
        refine g_iload_n K d_c10_dearest_89 4 rfl ?_
        refine g_icmp_le K d_c10_dearest_90 (fun c22 => ?_) (fun c22 => ?_)
        · rw [if_pos c22] at e_t20
          refine g_sub (ls2 := [(0, .ref a0), (1, .int x1), (2, .int x2), (3, .int x3), (4, .int x4)]) [1, 2, 3, 4, 5] rfl ?_
          obtain rfl := Option.some.inj e_t20
          exact hJ21
        · rw [if_neg c22] at e_t20
          refine g_iload K d_c10_dearest_93 5 rfl ?_
          refine g_istore_n (ls2 := [(2, .int x4), (5, .int q18.1), (0, .ref a0), (1, .int x1), (3, .int x3), (4, .int x4)]) K d_c10_dearest_95 rfl rfl ?_
          refine g_iload K d_c10_dearest_96 1 rfl ?_
          refine g_istore_n (ls2 := [(3, .int q18.1), (2, .int x4), (5, .int q18.1), (0, .ref a0), (1, .int x1), (4, .int x4)]) K d_c10_dearest_98 rfl rfl ?_
          refine g_sub (ls2 := [(0, .ref a0), (1, .int x1), (2, .int x4), (3, .int q18.1), (4, .int x4)]) [3, 4, 1, 0, 5] rfl ?_
          obtain rfl := Option.some.inj e_t20
          exact hJ21
set_option maxHeartbeats 4000000 in
set_option maxRecDepth 100000 in
theorem ct_c10_dearest (l : Launch) (X : gX) (hx : gEx X = false) (N : Nat) (a0 : Nat) (x1 : Int32) (h : gH) (q : Int32 × gH) (hy : f_c10_dearest N a0 x1 h = some q) : gRc y_c10_dearest h a0 ∧ gMi l X y_c10_dearest b_c10_dearest 6 .int (7 + N) 0 0 [.ref a0, .int x1] h q.1 q.2 := by
  unfold f_c10_dearest at hy
  obtain ⟨u0, e_u0, hy⟩ := gBd hy
  cases u0
  refine ⟨Or.inl ⟨10, _, _, e_u0, rfl⟩, gMet_i (lsx := [(0, .ref a0), (1, .int x1)]) (by decide) rfl rfl ?_⟩
  intro M hMl K hret
  subst hMl
  refine g_iload_n K d_c10_dearest_0 1 rfl ?_
  obtain ⟨q1, e_q1, hy⟩ := gBd hy
  refine g_callSi (rest := []) K hx ly_c10_isTried ks_c10_294 d_c10_dearest_1 (ct_c10_isTried M.2.1 X hx N x1 h q1 e_q1) rfl rfl (Nat.le_of_ble_eq_true rfl) (gDep rfl) ⟨Nat.le_refl 0, Nat.le_refl 0⟩ ?_
  refine g_if_ne K d_c10_dearest_4 (fun c2 => ?_) (fun c2 => ?_)
  · rw [if_neg c2] at hy
    refine g_aload_n K d_c10_dearest_9 0 rfl ?_
    obtain ⟨v3, e_v3, hy⟩ := gBd hy
    refine g_getR K fl_c10_33 d_c10_dearest_10 e_v3 ?_
    obtain ⟨v4, e_v4, hy⟩ := gBd hy
    refine g_getI K fl_c10_132 d_c10_dearest_13 e_v4 ?_
    refine g_if_ne K d_c10_dearest_16 (fun c5 => ?_) (fun c5 => ?_)
    · rw [if_neg c5] at hy
      refine g_iconst (v := (-1)) K d_c10_dearest_22 (by decide) ?_
      refine g_istore_n (ls2 := [(2, .int (-1 : Int32)), (0, .ref a0), (1, .int x1)]) K d_c10_dearest_23 rfl rfl ?_
      refine g_iconst (v := 0) K d_c10_dearest_24 (by decide) ?_
      refine g_istore_n (ls2 := [(3, .int (0 : Int32)), (2, .int (-1 : Int32)), (0, .ref a0), (1, .int x1)]) K d_c10_dearest_25 rfl rfl ?_
      refine g_iconst (v := 0) K d_c10_dearest_26 (by decide) ?_
      refine g_istore (ls2 := [(4, .int (0 : Int32)), (3, .int (0 : Int32)), (2, .int (-1 : Int32)), (0, .ref a0), (1, .int x1)]) K d_c10_dearest_27 rfl rfl ?_
      obtain ⟨o23, e_o23, hy⟩ := gBd hy
      refine g_sub (ls2 := [(0, .ref a0), (1, .int x1), (2, .int (-1 : Int32)), (3, .int (0 : Int32)), (4, .int (0 : Int32))]) [3, 4, 2, 1, 0] rfl ?_
      refine wlp_c10_dearest_29 hx K a0 x1 N (-1 : Int32) (0 : Int32) (0 : Int32) h o23 e_o23 ?_
      refine g_aload_n K d_c10_dearest_105 0 rfl ?_
      refine g_iload_n K d_c10_dearest_106 2 rfl ?_
      refine g_iload_n K d_c10_dearest_107 3 rfl ?_
      refine g_i2l K d_c10_dearest_108 ?_
      refine g_aload_n K d_c10_dearest_109 0 rfl ?_
      refine g_iload_n K d_c10_dearest_110 1 rfl ?_
      obtain ⟨q24, e_q24, hy⟩ := gBd hy
      refine g_callVi (rest := [.long o23.2.1.toInt64, .int o23.1, .ref a0]) K hx ly_c10_tryAsItIs kv_c10_251 d_c10_dearest_111 (ct_c10_tryAsItIs M.2.1 X hx N a0 x1 o23.2.2 q24 e_q24) rfl rfl (Nat.le_of_ble_eq_true rfl) (gDep rfl) ⟨Nat.le_refl 0, Nat.le_refl 0⟩ ?_
      refine g_i2l K d_c10_dearest_114 ?_
      obtain ⟨q25, e_q25, hy⟩ := gBd hy
      refine g_callVi (rest := []) K hx ly_c10_tellTwo kv_c10_205 d_c10_dearest_115 (ct_c10_tellTwo M.2.1 X hx N a0 o23.1 o23.2.1.toInt64 q24.1.toInt64 q24.2 q25 e_q25) rfl rfl (Nat.le_of_ble_eq_true rfl) (gDep rfl) ⟨Nat.le_refl 0, Nat.le_refl 0⟩ ?_
      obtain rfl := Option.some.inj hy
      exact hret rfl _ _ _ d_c10_dearest_118
    · rw [if_pos c5] at hy
      refine g_bipush (v := (-2)) K d_c10_dearest_19 (by decide) ?_
      obtain rfl := Option.some.inj hy
      exact hret rfl _ _ _ d_c10_dearest_21
  · rw [if_pos c2] at hy
    refine g_iconst (v := (-1)) K d_c10_dearest_7 (by decide) ?_
    obtain rfl := Option.some.inj hy
    exact hret rfl _ _ _ d_c10_dearest_8
-- c10 drinks
theorem d_c10_drinks_0 : gD b_c10_drinks 0 (.aload_n 0) 1 1 := ⟨by decide +kernel, rfl⟩
theorem d_c10_drinks_1 : gD b_c10_drinks 1 (.getfield 26) 3 4 := ⟨by decide +kernel, rfl⟩
theorem d_c10_drinks_4 : gD b_c10_drinks 4 (.iload_n 1) 1 5 := ⟨by decide +kernel, rfl⟩
theorem d_c10_drinks_5 : gD b_c10_drinks 5 (.invokevirtual 171) 3 8 := ⟨by decide +kernel, rfl⟩
theorem d_c10_drinks_8 : gJ b_c10_drinks 8 (.ifCond .eq 14) 3 14 11 22 := ⟨by decide +kernel, rfl, by decide⟩
theorem d_c10_drinks_11 : gD b_c10_drinks 11 (.iload_n 2) 1 12 := ⟨by decide +kernel, rfl⟩
theorem d_c10_drinks_12 : gD b_c10_drinks 12 (.iconst 1) 1 13 := ⟨by decide +kernel, rfl⟩
theorem d_c10_drinks_13 : gJ b_c10_drinks 13 (.if_icmp .lt 9) 3 9 16 22 := ⟨by decide +kernel, rfl, by decide⟩
theorem d_c10_drinks_16 : gD b_c10_drinks 16 (.iload_n 2) 1 17 := ⟨by decide +kernel, rfl⟩
theorem d_c10_drinks_17 : gD b_c10_drinks 17 (.bipush 99) 2 19 := ⟨by decide +kernel, rfl⟩
theorem d_c10_drinks_19 : gJ b_c10_drinks 19 (.if_icmp .le 5) 3 5 22 24 := ⟨by decide +kernel, rfl, by decide⟩
theorem d_c10_drinks_22 : gD b_c10_drinks 22 (.iconst (-1)) 1 23 := ⟨by decide +kernel, rfl⟩
theorem d_c10_drinks_23 : gD b_c10_drinks 23 .ireturn 1 24 := ⟨by decide +kernel, rfl⟩
theorem d_c10_drinks_24 : gD b_c10_drinks 24 (.aload_n 0) 1 25 := ⟨by decide +kernel, rfl⟩
theorem d_c10_drinks_25 : gD b_c10_drinks 25 (.iload_n 2) 1 26 := ⟨by decide +kernel, rfl⟩
theorem d_c10_drinks_26 : gD b_c10_drinks 26 (.invokevirtual 251) 3 29 := ⟨by decide +kernel, rfl⟩
theorem d_c10_drinks_29 : gD b_c10_drinks 29 .pop 1 30 := ⟨by decide +kernel, rfl⟩
theorem d_c10_drinks_30 : gD b_c10_drinks 30 (.aload_n 0) 1 31 := ⟨by decide +kernel, rfl⟩
theorem d_c10_drinks_31 : gD b_c10_drinks 31 (.aload_n 0) 1 32 := ⟨by decide +kernel, rfl⟩
theorem d_c10_drinks_32 : gD b_c10_drinks 32 (.getfield 46) 3 35 := ⟨by decide +kernel, rfl⟩
theorem d_c10_drinks_35 : gD b_c10_drinks 35 (.getfield 258) 3 38 := ⟨by decide +kernel, rfl⟩
theorem d_c10_drinks_38 : gD b_c10_drinks 38 (.iload_n 1) 1 39 := ⟨by decide +kernel, rfl⟩
theorem d_c10_drinks_39 : gD b_c10_drinks 39 .iaload 1 40 := ⟨by decide +kernel, rfl⟩
theorem d_c10_drinks_40 : gD b_c10_drinks 40 (.aload_n 0) 1 41 := ⟨by decide +kernel, rfl⟩
theorem d_c10_drinks_41 : gD b_c10_drinks 41 (.getfield 46) 3 44 := ⟨by decide +kernel, rfl⟩
theorem d_c10_drinks_44 : gD b_c10_drinks 44 (.getfield 265) 3 47 := ⟨by decide +kernel, rfl⟩
theorem d_c10_drinks_47 : gD b_c10_drinks 47 (.iload_n 1) 1 48 := ⟨by decide +kernel, rfl⟩
theorem d_c10_drinks_48 : gD b_c10_drinks 48 .iaload 1 49 := ⟨by decide +kernel, rfl⟩
theorem d_c10_drinks_49 : gD b_c10_drinks 49 .i2l 1 50 := ⟨by decide +kernel, rfl⟩
theorem d_c10_drinks_50 : gD b_c10_drinks 50 (.invokevirtual 261) 3 53 := ⟨by decide +kernel, rfl⟩
theorem d_c10_drinks_53 : gD b_c10_drinks 53 .ireturn 1 54 := ⟨by decide +kernel, rfl⟩
def f_c10_drinks (N : Nat) (a0 : Nat) (x1 : Int32) (x2 : Int32) (h : gH) : Option (Int32 × gH) :=
  (gcl h a0 10).bind fun _ =>
  (gfR h a0 10 2).bind fun v1 =>
    (f_c1_has N v1 x1 h).bind fun q2 =>
    if q2 = 0 then
    some ((-1 : Int32), h)
  else
    if x2 < (1 : Int32) then
    some ((-1 : Int32), h)
  else
    if x2 ≤ (99 : Int32) then
    (f_c10_tryAsItIs N a0 x2 h).bind fun q6 =>
    (gfR q6.2 a0 10 6).bind fun v7 =>
    (gfR q6.2 v7 0 0).bind fun v8 =>
    (ga 0 q6.2 v8 x1).bind fun v9 =>
    (gfR q6.2 a0 10 6).bind fun v10 =>
    (gfR q6.2 v10 0 1).bind fun v11 =>
    (ga 0 q6.2 v11 x1).bind fun v12 =>
    (f_c10_tellOne N a0 v9 v12.toInt64 q6.2).bind fun q13 =>
    some (q13.1, q13.2)
  else
    some ((-1 : Int32), h)
set_option maxHeartbeats 4000000 in
set_option maxRecDepth 100000 in
theorem ct_c10_drinks (l : Launch) (X : gX) (hx : gEx X = false) (N : Nat) (a0 : Nat) (x1 : Int32) (x2 : Int32) (h : gH) (q : Int32 × gH) (hy : f_c10_drinks N a0 x1 x2 h = some q) : gRc y_c10_drinks h a0 ∧ gMi l X y_c10_drinks b_c10_drinks 3 .int (7 + N) 0 0 [.ref a0, .int x1, .int x2] h q.1 q.2 := by
  unfold f_c10_drinks at hy
  obtain ⟨u0, e_u0, hy⟩ := gBd hy
  cases u0
  refine ⟨Or.inl ⟨10, _, _, e_u0, rfl⟩, gMet_i (lsx := [(0, .ref a0), (1, .int x1), (2, .int x2)]) (by decide) rfl rfl ?_⟩
  intro M hMl K hret
  subst hMl
  refine g_aload_n K d_c10_drinks_0 0 rfl ?_
  obtain ⟨v1, e_v1, hy⟩ := gBd hy
  refine g_getR K fl_c10_26 d_c10_drinks_1 e_v1 ?_
  refine g_iload_n K d_c10_drinks_4 1 rfl ?_
  obtain ⟨q2, e_q2, hy⟩ := gBd hy
  refine g_callVi (rest := []) K hx ly_c1_has kv_c10_171 d_c10_drinks_5 (ct_c1_has M.2.1 X hx N v1 x1 h q2 e_q2) rfl rfl (Nat.le_of_ble_eq_true rfl) (gDep rfl) ⟨Nat.le_refl 0, Nat.le_refl 0⟩ ?_
  refine g_if_eq K d_c10_drinks_8 (fun c3 => ?_) (fun c3 => ?_)
  · rw [if_pos c3] at hy
    refine g_iconst (v := (-1)) K d_c10_drinks_22 (by decide) ?_
    obtain rfl := Option.some.inj hy
    exact hret rfl _ _ _ d_c10_drinks_23
  · rw [if_neg c3] at hy
    refine g_iload_n K d_c10_drinks_11 2 rfl ?_
    refine g_iconst (v := 1) K d_c10_drinks_12 (by decide) ?_
    refine g_icmp_lt K d_c10_drinks_13 (fun c4 => ?_) (fun c4 => ?_)
    · rw [if_pos c4] at hy
      refine g_iconst (v := (-1)) K d_c10_drinks_22 (by decide) ?_
      obtain rfl := Option.some.inj hy
      exact hret rfl _ _ _ d_c10_drinks_23
    · rw [if_neg c4] at hy
      refine g_iload_n K d_c10_drinks_16 2 rfl ?_
      refine g_bipush (v := 99) K d_c10_drinks_17 (by decide) ?_
      refine g_icmp_le K d_c10_drinks_19 (fun c5 => ?_) (fun c5 => ?_)
      · rw [if_pos c5] at hy
        refine g_aload_n K d_c10_drinks_24 0 rfl ?_
        refine g_iload_n K d_c10_drinks_25 2 rfl ?_
        obtain ⟨q6, e_q6, hy⟩ := gBd hy
        refine g_callVi (rest := []) K hx ly_c10_tryAsItIs kv_c10_251 d_c10_drinks_26 (ct_c10_tryAsItIs M.2.1 X hx N a0 x2 h q6 e_q6) rfl rfl (Nat.le_of_ble_eq_true rfl) (gDep rfl) ⟨Nat.le_refl 0, Nat.le_refl 0⟩ ?_
        refine g_pop K d_c10_drinks_29 rfl ?_
        refine g_aload_n K d_c10_drinks_30 0 rfl ?_
        refine g_aload_n K d_c10_drinks_31 0 rfl ?_
        obtain ⟨v7, e_v7, hy⟩ := gBd hy
        refine g_getR K fl_c10_46 d_c10_drinks_32 e_v7 ?_
        obtain ⟨v8, e_v8, hy⟩ := gBd hy
        refine g_getR K fl_c10_258 d_c10_drinks_35 e_v8 ?_
        refine g_iload_n K d_c10_drinks_38 1 rfl ?_
        obtain ⟨v9, e_v9, hy⟩ := gBd hy
        refine g_iald K d_c10_drinks_39 e_v9 ?_
        refine g_aload_n K d_c10_drinks_40 0 rfl ?_
        obtain ⟨v10, e_v10, hy⟩ := gBd hy
        refine g_getR K fl_c10_46 d_c10_drinks_41 e_v10 ?_
        obtain ⟨v11, e_v11, hy⟩ := gBd hy
        refine g_getR K fl_c10_265 d_c10_drinks_44 e_v11 ?_
        refine g_iload_n K d_c10_drinks_47 1 rfl ?_
        obtain ⟨v12, e_v12, hy⟩ := gBd hy
        refine g_iald K d_c10_drinks_48 e_v12 ?_
        refine g_i2l K d_c10_drinks_49 ?_
        obtain ⟨q13, e_q13, hy⟩ := gBd hy
        refine g_callVi (rest := []) K hx ly_c10_tellOne kv_c10_261 d_c10_drinks_50 (ct_c10_tellOne M.2.1 X hx N a0 v9 v12.toInt64 q6.2 q13 e_q13) rfl rfl (Nat.le_of_ble_eq_true rfl) (gDep rfl) ⟨Nat.le_refl 0, Nat.le_refl 0⟩ ?_
        obtain rfl := Option.some.inj hy
        exact hret rfl _ _ _ d_c10_drinks_53
      · rw [if_neg c5] at hy
        refine g_iconst (v := (-1)) K d_c10_drinks_22 (by decide) ?_
        obtain rfl := Option.some.inj hy
        exact hret rfl _ _ _ d_c10_drinks_23
-- c10 fits
theorem d_c10_fits_0 : gD b_c10_fits 0 (.aload_n 0) 1 1 := ⟨by decide +kernel, rfl⟩
theorem d_c10_fits_1 : gD b_c10_fits 1 (.getfield 60) 3 4 := ⟨by decide +kernel, rfl⟩
theorem d_c10_fits_4 : gD b_c10_fits 4 (.aload_n 0) 1 5 := ⟨by decide +kernel, rfl⟩
theorem d_c10_fits_5 : gD b_c10_fits 5 (.getfield 33) 3 8 := ⟨by decide +kernel, rfl⟩
theorem d_c10_fits_8 : gD b_c10_fits 8 (.aload_n 0) 1 9 := ⟨by decide +kernel, rfl⟩
theorem d_c10_fits_9 : gD b_c10_fits 9 (.getfield 26) 3 12 := ⟨by decide +kernel, rfl⟩
theorem d_c10_fits_12 : gD b_c10_fits 12 (.invokevirtual 343) 3 15 := ⟨by decide +kernel, rfl⟩
theorem d_c10_fits_15 : gD b_c10_fits 15 (.istore_n 1) 1 16 := ⟨by decide +kernel, rfl⟩
theorem d_c10_fits_16 : gD b_c10_fits 16 (.aload_n 0) 1 17 := ⟨by decide +kernel, rfl⟩
theorem d_c10_fits_17 : gD b_c10_fits 17 (.iload_n 1) 1 18 := ⟨by decide +kernel, rfl⟩
theorem d_c10_fits_18 : gD b_c10_fits 18 (.iload_n 1) 1 19 := ⟨by decide +kernel, rfl⟩
theorem d_c10_fits_19 : gD b_c10_fits 19 (.invokestatic 347) 3 22 := ⟨by decide +kernel, rfl⟩
theorem d_c10_fits_22 : gD b_c10_fits 22 .i2l 1 23 := ⟨by decide +kernel, rfl⟩
theorem d_c10_fits_23 : gD b_c10_fits 23 (.invokevirtual 261) 3 26 := ⟨by decide +kernel, rfl⟩
theorem d_c10_fits_26 : gD b_c10_fits 26 .ireturn 1 27 := ⟨by decide +kernel, rfl⟩
def f_c10_fits (N : Nat) (a0 : Nat) (h : gH) : Option (Int32 × gH) :=
  (gcl h a0 10).bind fun _ =>
  (gfR h a0 10 8).bind fun v1 =>
    (gfR h a0 10 3).bind fun v2 =>
    (gfR h a0 10 2).bind fun v3 =>
    (f_c2_fitting N v1 v2 v3 h).bind fun q4 =>
    (f_jInteger_bitCount N q4 h).bind fun q5 =>
    (f_c10_tellOne N a0 q4 q5.toInt64 h).bind fun q6 =>
    some (q6.1, q6.2)
set_option maxHeartbeats 4000000 in
set_option maxRecDepth 100000 in
theorem ct_c10_fits (l : Launch) (X : gX) (hx : gEx X = false) (N : Nat) (a0 : Nat) (h : gH) (q : Int32 × gH) (hy : f_c10_fits N a0 h = some q) : gRc y_c10_fits h a0 ∧ gMi l X y_c10_fits b_c10_fits 2 .int (7 + N) 0 0 [.ref a0] h q.1 q.2 := by
  unfold f_c10_fits at hy
  obtain ⟨u0, e_u0, hy⟩ := gBd hy
  cases u0
  refine ⟨Or.inl ⟨10, _, _, e_u0, rfl⟩, gMet_i (lsx := [(0, .ref a0)]) (by decide) rfl rfl ?_⟩
  intro M hMl K hret
  subst hMl
  refine g_aload_n K d_c10_fits_0 0 rfl ?_
  obtain ⟨v1, e_v1, hy⟩ := gBd hy
  refine g_getR K fl_c10_60 d_c10_fits_1 e_v1 ?_
  refine g_aload_n K d_c10_fits_4 0 rfl ?_
  obtain ⟨v2, e_v2, hy⟩ := gBd hy
  refine g_getR K fl_c10_33 d_c10_fits_5 e_v2 ?_
  refine g_aload_n K d_c10_fits_8 0 rfl ?_
  obtain ⟨v3, e_v3, hy⟩ := gBd hy
  refine g_getR K fl_c10_26 d_c10_fits_9 e_v3 ?_
  obtain ⟨q4, e_q4, hy⟩ := gBd hy
  refine g_callVi (rest := []) K hx ly_c2_fitting kv_c10_343 d_c10_fits_12 (ct_c2_fitting M.2.1 X hx N v1 v2 v3 h q4 e_q4) rfl rfl (Nat.le_of_ble_eq_true rfl) (gDep rfl) ⟨Nat.le_refl 0, Nat.le_refl 0⟩ ?_
  refine g_istore_n (ls2 := [(1, .int q4), (0, .ref a0)]) K d_c10_fits_15 rfl rfl ?_
  refine g_aload_n K d_c10_fits_16 1 rfl ?_
  refine g_iload_n K d_c10_fits_17 0 rfl ?_
  refine g_iload_n K d_c10_fits_18 0 rfl ?_
  obtain ⟨q5, e_q5, hy⟩ := gBd hy
  refine g_callSi (rest := [.int q4, .ref a0]) K hx ly_jInteger_bitCount ks_c10_347 d_c10_fits_19 (ct_jInteger_bitCount M.2.1 X hx N q4 h q5 e_q5) rfl rfl (Nat.le_of_ble_eq_true rfl) (gDep rfl) ⟨Nat.le_refl 0, Nat.le_refl 0⟩ ?_
  refine g_i2l K d_c10_fits_22 ?_
  obtain ⟨q6, e_q6, hy⟩ := gBd hy
  refine g_callVi (rest := []) K hx ly_c10_tellOne kv_c10_261 d_c10_fits_23 (ct_c10_tellOne M.2.1 X hx N a0 q4 q5.toInt64 h q6 e_q6) rfl rfl (Nat.le_of_ble_eq_true rfl) (gDep rfl) ⟨Nat.le_refl 0, Nat.le_refl 0⟩ ?_
  obtain rfl := Option.some.inj hy
  exact hret rfl _ _ _ d_c10_fits_26
-- c10 later
theorem d_c10_later_0 : gD b_c10_later 0 (.aload_n 0) 1 1 := ⟨by decide +kernel, rfl⟩
theorem d_c10_later_1 : gD b_c10_later 1 (.getfield 33) 3 4 := ⟨by decide +kernel, rfl⟩
theorem d_c10_later_4 : gD b_c10_later 4 (.iload_n 1) 1 5 := ⟨by decide +kernel, rfl⟩
theorem d_c10_later_5 : gD b_c10_later 5 (.invokevirtual 138) 3 8 := ⟨by decide +kernel, rfl⟩
theorem d_c10_later_8 : gJ b_c10_later 8 (.ifCond .eq 13) 3 13 11 21 := ⟨by decide +kernel, rfl, by decide⟩
theorem d_c10_later_11 : gD b_c10_later 11 (.iload_n 2) 1 12 := ⟨by decide +kernel, rfl⟩
theorem d_c10_later_12 : gJ b_c10_later 12 (.ifCond .lt 9) 3 9 15 21 := ⟨by decide +kernel, rfl, by decide⟩
theorem d_c10_later_15 : gD b_c10_later 15 (.iload_n 2) 1 16 := ⟨by decide +kernel, rfl⟩
theorem d_c10_later_16 : gD b_c10_later 16 (.bipush 99) 2 18 := ⟨by decide +kernel, rfl⟩
theorem d_c10_later_18 : gJ b_c10_later 18 (.if_icmp .le 5) 3 5 21 23 := ⟨by decide +kernel, rfl, by decide⟩
theorem d_c10_later_21 : gD b_c10_later 21 (.iconst (-1)) 1 22 := ⟨by decide +kernel, rfl⟩
theorem d_c10_later_22 : gD b_c10_later 22 .ireturn 1 23 := ⟨by decide +kernel, rfl⟩
theorem d_c10_later_23 : gD b_c10_later 23 (.aload_n 0) 1 24 := ⟨by decide +kernel, rfl⟩
theorem d_c10_later_24 : gD b_c10_later 24 (.iload_n 2) 1 25 := ⟨by decide +kernel, rfl⟩
theorem d_c10_later_25 : gD b_c10_later 25 (.invokevirtual 251) 3 28 := ⟨by decide +kernel, rfl⟩
theorem d_c10_later_28 : gD b_c10_later 28 (.istore_n 3) 1 29 := ⟨by decide +kernel, rfl⟩
theorem d_c10_later_29 : gD b_c10_later 29 (.aload_n 0) 1 30 := ⟨by decide +kernel, rfl⟩
theorem d_c10_later_30 : gD b_c10_later 30 (.aload_n 0) 1 31 := ⟨by decide +kernel, rfl⟩
theorem d_c10_later_31 : gD b_c10_later 31 (.getfield 40) 3 34 := ⟨by decide +kernel, rfl⟩
theorem d_c10_later_34 : gD b_c10_later 34 (.getfield 157) 3 37 := ⟨by decide +kernel, rfl⟩
theorem d_c10_later_37 : gD b_c10_later 37 (.iload_n 1) 1 38 := ⟨by decide +kernel, rfl⟩
theorem d_c10_later_38 : gD b_c10_later 38 .iaload 1 39 := ⟨by decide +kernel, rfl⟩
theorem d_c10_later_39 : gD b_c10_later 39 (.aload_n 0) 1 40 := ⟨by decide +kernel, rfl⟩
theorem d_c10_later_40 : gD b_c10_later 40 (.getfield 40) 3 43 := ⟨by decide +kernel, rfl⟩
theorem d_c10_later_43 : gD b_c10_later 43 (.invokevirtual 192) 3 46 := ⟨by decide +kernel, rfl⟩
theorem d_c10_later_46 : gD b_c10_later 46 .i2l 1 47 := ⟨by decide +kernel, rfl⟩
theorem d_c10_later_47 : gD b_c10_later 47 (.iload_n 3) 1 48 := ⟨by decide +kernel, rfl⟩
theorem d_c10_later_48 : gD b_c10_later 48 .i2l 1 49 := ⟨by decide +kernel, rfl⟩
theorem d_c10_later_49 : gD b_c10_later 49 (.invokevirtual 205) 3 52 := ⟨by decide +kernel, rfl⟩
theorem d_c10_later_52 : gD b_c10_later 52 .ireturn 1 53 := ⟨by decide +kernel, rfl⟩
def f_c10_later (N : Nat) (a0 : Nat) (x1 : Int32) (x2 : Int32) (h : gH) : Option (Int32 × gH) :=
  (gcl h a0 10).bind fun _ =>
  (gfR h a0 10 3).bind fun v1 =>
    (f_c7_has N v1 x1 h).bind fun q2 =>
    if q2 = 0 then
    some ((-1 : Int32), h)
  else
    if x2 < 0 then
    some ((-1 : Int32), h)
  else
    if x2 ≤ (99 : Int32) then
    (f_c10_tryAsItIs N a0 x2 h).bind fun q6 =>
    (gfR q6.2 a0 10 5).bind fun v7 =>
    (gfR q6.2 v7 7 5).bind fun v8 =>
    (ga 0 q6.2 v8 x1).bind fun v9 =>
    (gfR q6.2 a0 10 5).bind fun v10 =>
    (f_c7_waterOfAll N v10 q6.2).bind fun q11 =>
    (f_c10_tellTwo N a0 v9 q11.toInt64 q6.1.toInt64 q6.2).bind fun q12 =>
    some (q12.1, q12.2)
  else
    some ((-1 : Int32), h)
set_option maxHeartbeats 4000000 in
set_option maxRecDepth 100000 in
theorem ct_c10_later (l : Launch) (X : gX) (hx : gEx X = false) (N : Nat) (a0 : Nat) (x1 : Int32) (x2 : Int32) (h : gH) (q : Int32 × gH) (hy : f_c10_later N a0 x1 x2 h = some q) : gRc y_c10_later h a0 ∧ gMi l X y_c10_later b_c10_later 4 .int (7 + N) 0 0 [.ref a0, .int x1, .int x2] h q.1 q.2 := by
  unfold f_c10_later at hy
  obtain ⟨u0, e_u0, hy⟩ := gBd hy
  cases u0
  refine ⟨Or.inl ⟨10, _, _, e_u0, rfl⟩, gMet_i (lsx := [(0, .ref a0), (1, .int x1), (2, .int x2)]) (by decide) rfl rfl ?_⟩
  intro M hMl K hret
  subst hMl
  refine g_aload_n K d_c10_later_0 0 rfl ?_
  obtain ⟨v1, e_v1, hy⟩ := gBd hy
  refine g_getR K fl_c10_33 d_c10_later_1 e_v1 ?_
  refine g_iload_n K d_c10_later_4 1 rfl ?_
  obtain ⟨q2, e_q2, hy⟩ := gBd hy
  refine g_callVi (rest := []) K hx ly_c7_has kv_c10_138 d_c10_later_5 (ct_c7_has M.2.1 X hx N v1 x1 h q2 e_q2) rfl rfl (Nat.le_of_ble_eq_true rfl) (gDep rfl) ⟨Nat.le_refl 0, Nat.le_refl 0⟩ ?_
  refine g_if_eq K d_c10_later_8 (fun c3 => ?_) (fun c3 => ?_)
  · rw [if_pos c3] at hy
    refine g_iconst (v := (-1)) K d_c10_later_21 (by decide) ?_
    obtain rfl := Option.some.inj hy
    exact hret rfl _ _ _ d_c10_later_22
  · rw [if_neg c3] at hy
    refine g_iload_n K d_c10_later_11 2 rfl ?_
    refine g_if_lt K d_c10_later_12 (fun c4 => ?_) (fun c4 => ?_)
    · rw [if_pos c4] at hy
      refine g_iconst (v := (-1)) K d_c10_later_21 (by decide) ?_
      obtain rfl := Option.some.inj hy
      exact hret rfl _ _ _ d_c10_later_22
    · rw [if_neg c4] at hy
      refine g_iload_n K d_c10_later_15 2 rfl ?_
      refine g_bipush (v := 99) K d_c10_later_16 (by decide) ?_
      refine g_icmp_le K d_c10_later_18 (fun c5 => ?_) (fun c5 => ?_)
      · rw [if_pos c5] at hy
        refine g_aload_n K d_c10_later_23 0 rfl ?_
        refine g_iload_n K d_c10_later_24 2 rfl ?_
        obtain ⟨q6, e_q6, hy⟩ := gBd hy
        refine g_callVi (rest := []) K hx ly_c10_tryAsItIs kv_c10_251 d_c10_later_25 (ct_c10_tryAsItIs M.2.1 X hx N a0 x2 h q6 e_q6) rfl rfl (Nat.le_of_ble_eq_true rfl) (gDep rfl) ⟨Nat.le_refl 0, Nat.le_refl 0⟩ ?_
        refine g_istore_n (ls2 := [(3, .int q6.1), (0, .ref a0), (1, .int x1), (2, .int x2)]) K d_c10_later_28 rfl rfl ?_
        refine g_aload_n K d_c10_later_29 1 rfl ?_
        refine g_aload_n K d_c10_later_30 1 rfl ?_
        obtain ⟨v7, e_v7, hy⟩ := gBd hy
        refine g_getR K fl_c10_40 d_c10_later_31 e_v7 ?_
        obtain ⟨v8, e_v8, hy⟩ := gBd hy
        refine g_getR K fl_c10_157 d_c10_later_34 e_v8 ?_
        refine g_iload_n K d_c10_later_37 2 rfl ?_
        obtain ⟨v9, e_v9, hy⟩ := gBd hy
        refine g_iald K d_c10_later_38 e_v9 ?_
        refine g_aload_n K d_c10_later_39 1 rfl ?_
        obtain ⟨v10, e_v10, hy⟩ := gBd hy
        refine g_getR K fl_c10_40 d_c10_later_40 e_v10 ?_
        obtain ⟨q11, e_q11, hy⟩ := gBd hy
        refine g_callVi (rest := [.int v9, .ref a0]) K hx ly_c7_waterOfAll kv_c10_192 d_c10_later_43 (ct_c7_waterOfAll M.2.1 X hx N v10 q6.2 q11 e_q11) rfl rfl (Nat.le_of_ble_eq_true rfl) (gDep rfl) ⟨Nat.le_refl 0, Nat.le_refl 0⟩ ?_
        refine g_i2l K d_c10_later_46 ?_
        refine g_iload_n K d_c10_later_47 0 rfl ?_
        refine g_i2l K d_c10_later_48 ?_
        obtain ⟨q12, e_q12, hy⟩ := gBd hy
        refine g_callVi (rest := []) K hx ly_c10_tellTwo kv_c10_205 d_c10_later_49 (ct_c10_tellTwo M.2.1 X hx N a0 v9 q11.toInt64 q6.1.toInt64 q6.2 q12 e_q12) rfl rfl (Nat.le_of_ble_eq_true rfl) (gDep rfl) ⟨Nat.le_refl 0, Nat.le_refl 0⟩ ?_
        obtain rfl := Option.some.inj hy
        exact hret rfl _ _ _ d_c10_later_52
      · rw [if_neg c5] at hy
        refine g_iconst (v := (-1)) K d_c10_later_21 (by decide) ?_
        obtain rfl := Option.some.inj hy
        exact hret rfl _ _ _ d_c10_later_22
-- c10 law
theorem d_c10_law_0 : gD b_c10_law 0 (.aload_n 0) 1 1 := ⟨by decide +kernel, rfl⟩
theorem d_c10_law_1 : gD b_c10_law 1 (.invokevirtual 135) 3 4 := ⟨by decide +kernel, rfl⟩
theorem d_c10_law_4 : gD b_c10_law 4 (.istore_n 1) 1 5 := ⟨by decide +kernel, rfl⟩
theorem d_c10_law_5 : gD b_c10_law 5 (.iload_n 1) 1 6 := ⟨by decide +kernel, rfl⟩
theorem d_c10_law_6 : gJ b_c10_law 6 (.ifCond .lt 9) 3 9 9 15 := ⟨by decide +kernel, rfl, by decide⟩
theorem d_c10_law_9 : gD b_c10_law 9 (.sipush (-10000)) 3 12 := ⟨by decide +kernel, rfl⟩
theorem d_c10_law_12 : gD b_c10_law 12 (.iload_n 1) 1 13 := ⟨by decide +kernel, rfl⟩
theorem d_c10_law_13 : gD b_c10_law 13 .isub 1 14 := ⟨by decide +kernel, rfl⟩
theorem d_c10_law_14 : gD b_c10_law 14 .ireturn 1 15 := ⟨by decide +kernel, rfl⟩
theorem d_c10_law_15 : gD b_c10_law 15 (.aload_n 0) 1 16 := ⟨by decide +kernel, rfl⟩
theorem d_c10_law_16 : gD b_c10_law 16 (.getfield 40) 3 19 := ⟨by decide +kernel, rfl⟩
theorem d_c10_law_19 : gD b_c10_law 19 (.aload_n 0) 1 20 := ⟨by decide +kernel, rfl⟩
theorem d_c10_law_20 : gD b_c10_law 20 (.getfield 33) 3 23 := ⟨by decide +kernel, rfl⟩
theorem d_c10_law_23 : gD b_c10_law 23 (.invokevirtual 124) 3 26 := ⟨by decide +kernel, rfl⟩
theorem d_c10_law_26 : gD b_c10_law 26 (.aload_n 0) 1 27 := ⟨by decide +kernel, rfl⟩
theorem d_c10_law_27 : gD b_c10_law 27 (.getfield 46) 3 30 := ⟨by decide +kernel, rfl⟩
theorem d_c10_law_30 : gD b_c10_law 30 (.aload_n 0) 1 31 := ⟨by decide +kernel, rfl⟩
theorem d_c10_law_31 : gD b_c10_law 31 (.getfield 40) 3 34 := ⟨by decide +kernel, rfl⟩
theorem d_c10_law_34 : gD b_c10_law 34 (.aload_n 0) 1 35 := ⟨by decide +kernel, rfl⟩
theorem d_c10_law_35 : gD b_c10_law 35 (.getfield 26) 3 38 := ⟨by decide +kernel, rfl⟩
theorem d_c10_law_38 : gD b_c10_law 38 (.aload_n 0) 1 39 := ⟨by decide +kernel, rfl⟩
theorem d_c10_law_39 : gD b_c10_law 39 (.getfield 85) 3 42 := ⟨by decide +kernel, rfl⟩
theorem d_c10_law_42 : gD b_c10_law 42 (.bipush 10) 2 44 := ⟨by decide +kernel, rfl⟩
theorem d_c10_law_44 : gD b_c10_law 44 (.invokevirtual 195) 3 47 := ⟨by decide +kernel, rfl⟩
theorem d_c10_law_47 : gD b_c10_law 47 (.istore_n 2) 1 48 := ⟨by decide +kernel, rfl⟩
theorem d_c10_law_48 : gD b_c10_law 48 (.aload_n 0) 1 49 := ⟨by decide +kernel, rfl⟩
theorem d_c10_law_49 : gD b_c10_law 49 (.bipush 10) 2 51 := ⟨by decide +kernel, rfl⟩
theorem d_c10_law_51 : gD b_c10_law 51 (.invokevirtual 251) 3 54 := ⟨by decide +kernel, rfl⟩
theorem d_c10_law_54 : gD b_c10_law 54 (.istore_n 3) 1 55 := ⟨by decide +kernel, rfl⟩
theorem d_c10_law_55 : gD b_c10_law 55 (.aload_n 0) 1 56 := ⟨by decide +kernel, rfl⟩
theorem d_c10_law_56 : gD b_c10_law 56 (.iload_n 2) 1 57 := ⟨by decide +kernel, rfl⟩
theorem d_c10_law_57 : gD b_c10_law 57 (.iload_n 3) 1 58 := ⟨by decide +kernel, rfl⟩
theorem d_c10_law_58 : gD b_c10_law 58 .isub 1 59 := ⟨by decide +kernel, rfl⟩
theorem d_c10_law_59 : gD b_c10_law 59 (.iload_n 2) 1 60 := ⟨by decide +kernel, rfl⟩
theorem d_c10_law_60 : gD b_c10_law 60 .i2l 1 61 := ⟨by decide +kernel, rfl⟩
theorem d_c10_law_61 : gD b_c10_law 61 (.iload_n 3) 1 62 := ⟨by decide +kernel, rfl⟩
theorem d_c10_law_62 : gD b_c10_law 62 .i2l 1 63 := ⟨by decide +kernel, rfl⟩
theorem d_c10_law_63 : gD b_c10_law 63 (.invokevirtual 205) 3 66 := ⟨by decide +kernel, rfl⟩
theorem d_c10_law_66 : gD b_c10_law 66 .ireturn 1 67 := ⟨by decide +kernel, rfl⟩
def f_c10_law (N : Nat) (a0 : Nat) (h : gH) : Option (Int32 × gH) :=
  (gcl h a0 10).bind fun _ =>
  (f_c10_readSpareRule N a0 h).bind fun q1 =>
    if q1.1 < 0 then
    (gfR q1.2 a0 10 5).bind fun v3 =>
    (gfR q1.2 a0 10 3).bind fun v4 =>
    (f_c7_take N v3 v4 q1.2).bind fun q5 =>
    (gfR q5 a0 10 6).bind fun v6 =>
    (gfR q5 a0 10 5).bind fun v7 =>
    (gfR q5 a0 10 2).bind fun v8 =>
    (gfR q5 a0 10 12).bind fun v9 =>
    (f_c0_pass N v6 v7 v8 v9 (10 : Int32) q5).bind fun q10 =>
    (f_c10_tryAsItIs N a0 (10 : Int32) q10.2).bind fun q11 =>
    (f_c10_tellTwo N a0 (q10.1 - q11.1) q10.1.toInt64 q11.1.toInt64 q11.2).bind fun q12 =>
    some (q12.1, q12.2)
  else
    some ((-10000 : Int32) - q1.1, q1.2)
set_option maxHeartbeats 4000000 in
set_option maxRecDepth 100000 in
theorem ct_c10_law (l : Launch) (X : gX) (hx : gEx X = false) (N : Nat) (a0 : Nat) (h : gH) (q : Int32 × gH) (hy : f_c10_law N a0 h = some q) : gRc y_c10_law h a0 ∧ gMi l X y_c10_law b_c10_law 4 .int (7 + N) 0 0 [.ref a0] h q.1 q.2 := by
  unfold f_c10_law at hy
  obtain ⟨u0, e_u0, hy⟩ := gBd hy
  cases u0
  refine ⟨Or.inl ⟨10, _, _, e_u0, rfl⟩, gMet_i (lsx := [(0, .ref a0)]) (by decide) rfl rfl ?_⟩
  intro M hMl K hret
  subst hMl
  refine g_aload_n K d_c10_law_0 0 rfl ?_
  obtain ⟨q1, e_q1, hy⟩ := gBd hy
  refine g_callVi (rest := []) K hx ly_c10_readSpareRule kv_c10_135 d_c10_law_1 (ct_c10_readSpareRule M.2.1 X hx N a0 h q1 e_q1) rfl rfl (Nat.le_of_ble_eq_true rfl) (gDep rfl) ⟨Nat.le_refl 0, Nat.le_refl 0⟩ ?_
  refine g_istore_n (ls2 := [(1, .int q1.1), (0, .ref a0)]) K d_c10_law_4 rfl rfl ?_
  refine g_iload_n K d_c10_law_5 0 rfl ?_
  refine g_if_lt K d_c10_law_6 (fun c2 => ?_) (fun c2 => ?_)
  · rw [if_pos c2] at hy
    refine g_aload_n K d_c10_law_15 1 rfl ?_
    obtain ⟨v3, e_v3, hy⟩ := gBd hy
    refine g_getR K fl_c10_40 d_c10_law_16 e_v3 ?_
    refine g_aload_n K d_c10_law_19 1 rfl ?_
    obtain ⟨v4, e_v4, hy⟩ := gBd hy
    refine g_getR K fl_c10_33 d_c10_law_20 e_v4 ?_
    obtain ⟨q5, e_q5, hy⟩ := gBd hy
    refine g_callVv (rest := []) K hx ly_c7_take kv_c10_124 d_c10_law_23 (ct_c7_take M.2.1 X hx N v3 v4 q1.2 q5 e_q5) rfl rfl (Nat.le_of_ble_eq_true rfl) (gDep rfl) ⟨Nat.le_refl 0, Nat.le_refl 0⟩ ?_
    refine g_aload_n K d_c10_law_26 1 rfl ?_
    obtain ⟨v6, e_v6, hy⟩ := gBd hy
    refine g_getR K fl_c10_46 d_c10_law_27 e_v6 ?_
    refine g_aload_n K d_c10_law_30 1 rfl ?_
    obtain ⟨v7, e_v7, hy⟩ := gBd hy
    refine g_getR K fl_c10_40 d_c10_law_31 e_v7 ?_
    refine g_aload_n K d_c10_law_34 1 rfl ?_
    obtain ⟨v8, e_v8, hy⟩ := gBd hy
    refine g_getR K fl_c10_26 d_c10_law_35 e_v8 ?_
    refine g_aload_n K d_c10_law_38 1 rfl ?_
    obtain ⟨v9, e_v9, hy⟩ := gBd hy
    refine g_getR K fl_c10_85 d_c10_law_39 e_v9 ?_
    refine g_bipush (v := 10) K d_c10_law_42 (by decide) ?_
    obtain ⟨q10, e_q10, hy⟩ := gBd hy
    refine g_callVi (rest := []) K hx ly_c0_pass kv_c10_195 d_c10_law_44 (ct_c0_pass M.2.1 X hx N v6 v7 v8 v9 (10 : Int32) q5 q10 e_q10) rfl rfl (Nat.le_of_ble_eq_true rfl) (gDep rfl) ⟨Nat.le_refl 0, Nat.le_refl 0⟩ ?_
    refine g_istore_n (ls2 := [(2, .int q10.1), (1, .int q1.1), (0, .ref a0)]) K d_c10_law_47 rfl rfl ?_
    refine g_aload_n K d_c10_law_48 2 rfl ?_
    refine g_bipush (v := 10) K d_c10_law_49 (by decide) ?_
    obtain ⟨q11, e_q11, hy⟩ := gBd hy
    refine g_callVi (rest := []) K hx ly_c10_tryAsItIs kv_c10_251 d_c10_law_51 (ct_c10_tryAsItIs M.2.1 X hx N a0 (10 : Int32) q10.2 q11 e_q11) rfl rfl (Nat.le_of_ble_eq_true rfl) (gDep rfl) ⟨Nat.le_refl 0, Nat.le_refl 0⟩ ?_
    refine g_istore_n (ls2 := [(3, .int q11.1), (2, .int q10.1), (1, .int q1.1), (0, .ref a0)]) K d_c10_law_54 rfl rfl ?_
    refine g_aload_n K d_c10_law_55 3 rfl ?_
    refine g_iload_n K d_c10_law_56 1 rfl ?_
    refine g_iload_n K d_c10_law_57 0 rfl ?_
    refine g_isub K d_c10_law_58 ?_
    refine g_iload_n K d_c10_law_59 1 rfl ?_
    refine g_i2l K d_c10_law_60 ?_
    refine g_iload_n K d_c10_law_61 0 rfl ?_
    refine g_i2l K d_c10_law_62 ?_
    obtain ⟨q12, e_q12, hy⟩ := gBd hy
    refine g_callVi (rest := []) K hx ly_c10_tellTwo kv_c10_205 d_c10_law_63 (ct_c10_tellTwo M.2.1 X hx N a0 (q10.1 - q11.1) q10.1.toInt64 q11.1.toInt64 q11.2 q12 e_q12) rfl rfl (Nat.le_of_ble_eq_true rfl) (gDep rfl) ⟨Nat.le_refl 0, Nat.le_refl 0⟩ ?_
    obtain rfl := Option.some.inj hy
    exact hret rfl _ _ _ d_c10_law_66
  · rw [if_neg c2] at hy
    refine g_sipush (v := (-10000)) K d_c10_law_9 (by decide) ?_
    refine g_iload_n K d_c10_law_12 0 rfl ?_
    refine g_isub K d_c10_law_13 ?_
    obtain rfl := Option.some.inj hy
    exact hret rfl _ _ _ d_c10_law_14
-- c10 reach
theorem d_c10_reach_0 : gD b_c10_reach 0 (.aload_n 0) 1 1 := ⟨by decide +kernel, rfl⟩
theorem d_c10_reach_1 : gD b_c10_reach 1 (.getfield 33) 3 4 := ⟨by decide +kernel, rfl⟩
theorem d_c10_reach_4 : gD b_c10_reach 4 (.getfield 132) 3 7 := ⟨by decide +kernel, rfl⟩
theorem d_c10_reach_7 : gD b_c10_reach 7 (.iconst 2) 1 8 := ⟨by decide +kernel, rfl⟩
theorem d_c10_reach_8 : gJ b_c10_reach 8 (.if_icmp .ge 6) 3 6 11 14 := ⟨by decide +kernel, rfl, by decide⟩
theorem d_c10_reach_11 : gD b_c10_reach 11 (.bipush (-2)) 2 13 := ⟨by decide +kernel, rfl⟩
theorem d_c10_reach_13 : gD b_c10_reach 13 .ireturn 1 14 := ⟨by decide +kernel, rfl⟩
theorem d_c10_reach_14 : gD b_c10_reach 14 (.iconst 0) 1 15 := ⟨by decide +kernel, rfl⟩
theorem d_c10_reach_15 : gD b_c10_reach 15 (.istore_n 1) 1 16 := ⟨by decide +kernel, rfl⟩
theorem d_c10_reach_16 : gD b_c10_reach 16 (.iconst 1) 1 17 := ⟨by decide +kernel, rfl⟩
theorem d_c10_reach_17 : gD b_c10_reach 17 (.istore_n 2) 1 18 := ⟨by decide +kernel, rfl⟩
theorem d_c10_reach_18 : gD b_c10_reach 18 (.iconst 0) 1 19 := ⟨by decide +kernel, rfl⟩
theorem d_c10_reach_19 : gD b_c10_reach 19 (.istore_n 3) 1 20 := ⟨by decide +kernel, rfl⟩
theorem d_c10_reach_20 : gD b_c10_reach 20 (.iload_n 3) 1 21 := ⟨by decide +kernel, rfl⟩
theorem d_c10_reach_21 : gD b_c10_reach 21 (.aload_n 0) 1 22 := ⟨by decide +kernel, rfl⟩
theorem d_c10_reach_22 : gD b_c10_reach 22 (.getfield 33) 3 25 := ⟨by decide +kernel, rfl⟩
theorem d_c10_reach_25 : gD b_c10_reach 25 (.getfield 132) 3 28 := ⟨by decide +kernel, rfl⟩
theorem d_c10_reach_28 : gJ b_c10_reach 28 (.if_icmp .ge 67) 3 67 31 95 := ⟨by decide +kernel, rfl, by decide⟩
theorem d_c10_reach_31 : gD b_c10_reach 31 (.iload_n 3) 1 32 := ⟨by decide +kernel, rfl⟩
theorem d_c10_reach_32 : gD b_c10_reach 32 (.iconst 1) 1 33 := ⟨by decide +kernel, rfl⟩
theorem d_c10_reach_33 : gD b_c10_reach 33 .iadd 1 34 := ⟨by decide +kernel, rfl⟩
theorem d_c10_reach_34 : gD b_c10_reach 34 (.istore 4) 2 36 := ⟨by decide +kernel, rfl⟩
theorem d_c10_reach_36 : gD b_c10_reach 36 (.iload 4) 2 38 := ⟨by decide +kernel, rfl⟩
theorem d_c10_reach_38 : gD b_c10_reach 38 (.aload_n 0) 1 39 := ⟨by decide +kernel, rfl⟩
theorem d_c10_reach_39 : gD b_c10_reach 39 (.getfield 33) 3 42 := ⟨by decide +kernel, rfl⟩
theorem d_c10_reach_42 : gD b_c10_reach 42 (.getfield 132) 3 45 := ⟨by decide +kernel, rfl⟩
theorem d_c10_reach_45 : gJ b_c10_reach 45 (.if_icmp .ge 44) 3 44 48 89 := ⟨by decide +kernel, rfl, by decide⟩
theorem d_c10_reach_48 : gD b_c10_reach 48 (.aload_n 0) 1 49 := ⟨by decide +kernel, rfl⟩
theorem d_c10_reach_49 : gD b_c10_reach 49 (.getfield 33) 3 52 := ⟨by decide +kernel, rfl⟩
theorem d_c10_reach_52 : gD b_c10_reach 52 (.aload_n 0) 1 53 := ⟨by decide +kernel, rfl⟩
theorem d_c10_reach_53 : gD b_c10_reach 53 (.getfield 26) 3 56 := ⟨by decide +kernel, rfl⟩
theorem d_c10_reach_56 : gD b_c10_reach 56 (.iload_n 3) 1 57 := ⟨by decide +kernel, rfl⟩
theorem d_c10_reach_57 : gD b_c10_reach 57 (.iload 4) 2 59 := ⟨by decide +kernel, rfl⟩
theorem d_c10_reach_59 : gD b_c10_reach 59 (.invokevirtual 308) 3 62 := ⟨by decide +kernel, rfl⟩
theorem d_c10_reach_62 : gD b_c10_reach 62 (.aload_n 0) 1 63 := ⟨by decide +kernel, rfl⟩
theorem d_c10_reach_63 : gD b_c10_reach 63 (.getfield 33) 3 66 := ⟨by decide +kernel, rfl⟩
theorem d_c10_reach_66 : gD b_c10_reach 66 (.aload_n 0) 1 67 := ⟨by decide +kernel, rfl⟩
theorem d_c10_reach_67 : gD b_c10_reach 67 (.getfield 26) 3 70 := ⟨by decide +kernel, rfl⟩
theorem d_c10_reach_70 : gD b_c10_reach 70 (.iload_n 1) 1 71 := ⟨by decide +kernel, rfl⟩
theorem d_c10_reach_71 : gD b_c10_reach 71 (.iload_n 2) 1 72 := ⟨by decide +kernel, rfl⟩
theorem d_c10_reach_72 : gD b_c10_reach 72 (.invokevirtual 308) 3 75 := ⟨by decide +kernel, rfl⟩
theorem d_c10_reach_75 : gJ b_c10_reach 75 (.if_icmp .le 8) 3 8 78 83 := ⟨by decide +kernel, rfl, by decide⟩
theorem d_c10_reach_78 : gD b_c10_reach 78 (.iload_n 3) 1 79 := ⟨by decide +kernel, rfl⟩
theorem d_c10_reach_79 : gD b_c10_reach 79 (.istore_n 1) 1 80 := ⟨by decide +kernel, rfl⟩
theorem d_c10_reach_80 : gD b_c10_reach 80 (.iload 4) 2 82 := ⟨by decide +kernel, rfl⟩
theorem d_c10_reach_82 : gD b_c10_reach 82 (.istore_n 2) 1 83 := ⟨by decide +kernel, rfl⟩
theorem d_c10_reach_83 : gD b_c10_reach 83 (.iinc 4 1) 3 86 := ⟨by decide +kernel, rfl⟩
theorem d_c10_reach_86 : gJ b_c10_reach 86 (.goto (-50)) 3 (-50) 89 36 := ⟨by decide +kernel, rfl, by decide⟩
theorem d_c10_reach_89 : gD b_c10_reach 89 (.iinc 3 1) 3 92 := ⟨by decide +kernel, rfl⟩
theorem d_c10_reach_92 : gJ b_c10_reach 92 (.goto (-72)) 3 (-72) 95 20 := ⟨by decide +kernel, rfl, by decide⟩
theorem d_c10_reach_95 : gD b_c10_reach 95 (.iconst 0) 1 96 := ⟨by decide +kernel, rfl⟩
theorem d_c10_reach_96 : gD b_c10_reach 96 (.istore_n 3) 1 97 := ⟨by decide +kernel, rfl⟩
theorem d_c10_reach_97 : gD b_c10_reach 97 (.iload_n 3) 1 98 := ⟨by decide +kernel, rfl⟩
theorem d_c10_reach_98 : gD b_c10_reach 98 (.bipush 10) 2 100 := ⟨by decide +kernel, rfl⟩
theorem d_c10_reach_100 : gJ b_c10_reach 100 (.if_icmp .ge 28) 3 28 103 128 := ⟨by decide +kernel, rfl, by decide⟩
theorem d_c10_reach_103 : gD b_c10_reach 103 (.aload_n 0) 1 104 := ⟨by decide +kernel, rfl⟩
theorem d_c10_reach_104 : gD b_c10_reach 104 (.getfield 67) 3 107 := ⟨by decide +kernel, rfl⟩
theorem d_c10_reach_107 : gD b_c10_reach 107 (.aload_n 0) 1 108 := ⟨by decide +kernel, rfl⟩
theorem d_c10_reach_108 : gD b_c10_reach 108 (.getfield 33) 3 111 := ⟨by decide +kernel, rfl⟩
theorem d_c10_reach_111 : gD b_c10_reach 111 (.aload_n 0) 1 112 := ⟨by decide +kernel, rfl⟩
theorem d_c10_reach_112 : gD b_c10_reach 112 (.getfield 26) 3 115 := ⟨by decide +kernel, rfl⟩
theorem d_c10_reach_115 : gD b_c10_reach 115 (.iload_n 3) 1 116 := ⟨by decide +kernel, rfl⟩
theorem d_c10_reach_116 : gD b_c10_reach 116 (.invokevirtual 323) 3 119 := ⟨by decide +kernel, rfl⟩
theorem d_c10_reach_119 : gJ b_c10_reach 119 (.ifCond .ne 9) 3 9 122 128 := ⟨by decide +kernel, rfl, by decide⟩
theorem d_c10_reach_122 : gD b_c10_reach 122 (.iinc 3 1) 3 125 := ⟨by decide +kernel, rfl⟩
theorem d_c10_reach_125 : gJ b_c10_reach 125 (.goto (-28)) 3 (-28) 128 97 := ⟨by decide +kernel, rfl, by decide⟩
theorem d_c10_reach_128 : gD b_c10_reach 128 (.aload_n 0) 1 129 := ⟨by decide +kernel, rfl⟩
theorem d_c10_reach_129 : gD b_c10_reach 129 (.iload_n 3) 1 130 := ⟨by decide +kernel, rfl⟩
theorem d_c10_reach_130 : gD b_c10_reach 130 (.iload_n 1) 1 131 := ⟨by decide +kernel, rfl⟩
theorem d_c10_reach_131 : gD b_c10_reach 131 .i2l 1 132 := ⟨by decide +kernel, rfl⟩
theorem d_c10_reach_132 : gD b_c10_reach 132 (.iload_n 2) 1 133 := ⟨by decide +kernel, rfl⟩
theorem d_c10_reach_133 : gD b_c10_reach 133 .i2l 1 134 := ⟨by decide +kernel, rfl⟩
theorem d_c10_reach_134 : gD b_c10_reach 134 (.aload_n 0) 1 135 := ⟨by decide +kernel, rfl⟩
theorem d_c10_reach_135 : gD b_c10_reach 135 (.getfield 33) 3 138 := ⟨by decide +kernel, rfl⟩
theorem d_c10_reach_138 : gD b_c10_reach 138 (.aload_n 0) 1 139 := ⟨by decide +kernel, rfl⟩
theorem d_c10_reach_139 : gD b_c10_reach 139 (.getfield 26) 3 142 := ⟨by decide +kernel, rfl⟩
theorem d_c10_reach_142 : gD b_c10_reach 142 (.iload_n 1) 1 143 := ⟨by decide +kernel, rfl⟩
theorem d_c10_reach_143 : gD b_c10_reach 143 (.iload_n 2) 1 144 := ⟨by decide +kernel, rfl⟩
theorem d_c10_reach_144 : gD b_c10_reach 144 (.invokevirtual 308) 3 147 := ⟨by decide +kernel, rfl⟩
theorem d_c10_reach_147 : gD b_c10_reach 147 .i2l 1 148 := ⟨by decide +kernel, rfl⟩
theorem d_c10_reach_148 : gD b_c10_reach 148 (.invokevirtual 327) 3 151 := ⟨by decide +kernel, rfl⟩
theorem d_c10_reach_151 : gD b_c10_reach 151 .ireturn 1 152 := ⟨by decide +kernel, rfl⟩
def lp_c10_reach_36 (N : Nat) (a0 : Nat) (x3 : Int32) (h : gH) : Nat → Int32 → Int32 → Int32 → Option (Int32 × Int32)
  | 0, _, _, _ => none
  | k + 1, x1, x2, x4 =>
  (gfR h a0 10 3).bind fun v7 =>
    (gfI h v7 7 0).bind fun v8 =>
    if v8 ≤ x4 then
    some (x1, x2)
  else
    (gfR h a0 10 3).bind fun v10 =>
    (gfR h a0 10 2).bind fun v11 =>
    (f_c7_farApart N v10 v11 x3 x4 h).bind fun q12 =>
    (gfR h a0 10 3).bind fun v13 =>
    (gfR h a0 10 2).bind fun v14 =>
    (f_c7_farApart N v13 v14 x1 x2 h).bind fun q15 =>
    (show Option (Int32 × Int32) from if q12 ≤ q15 then
    some (x1, x2)
  else
    some (x3, x4)).bind fun t17 =>
    lp_c10_reach_36 N a0 x3 h k t17.1 t17.2 (x4 + (1 : Int32))
def lp_c10_reach_20 (N : Nat) (a0 : Nat) (h : gH) : Nat → Int32 → Int32 → Int32 → Option (Int32 × Int32)
  | 0, _, _, _ => none
  | k + 1, x1, x2, x3 =>
  (gfR h a0 10 3).bind fun v4 =>
    (gfI h v4 7 0).bind fun v5 =>
    if v5 ≤ x3 then
    some (x1, x2)
  else
    (lp_c10_reach_36 N a0 x3 h N x1 x2 (x3 + (1 : Int32))).bind fun o19 =>
    lp_c10_reach_20 N a0 h k o19.1 o19.2 (x3 + (1 : Int32))
def lp_c10_reach_97 (N : Nat) (a0 : Nat) : Nat → Int32 → gH → Option (Int32 × gH)
  | 0, _, _ => none
  | k + 1, x3, h =>
  if (10 : Int32) ≤ x3 then
    some (x3, h)
  else
    (gfR h a0 10 9).bind fun v22 =>
    (gfR h a0 10 3).bind fun v23 =>
    (gfR h a0 10 2).bind fun v24 =>
    (f_c9_allReached N v22 v23 v24 x3 h).bind fun q25 =>
    if q25.1 = 0 then
    lp_c10_reach_97 N a0 k (x3 + (1 : Int32)) q25.2
  else
    some (x3, q25.2)
def f_c10_reach (N : Nat) (a0 : Nat) (h : gH) : Option (Int32 × gH) :=
  (gcl h a0 10).bind fun _ =>
  (gfR h a0 10 3).bind fun v1 =>
    (gfI h v1 7 0).bind fun v2 =>
    if (2 : Int32) ≤ v2 then
    (lp_c10_reach_20 N a0 h N (0 : Int32) (1 : Int32) (0 : Int32)).bind fun o20 =>
    (lp_c10_reach_97 N a0 N (0 : Int32) h).bind fun o27 =>
    (gfR o27.2 a0 10 3).bind fun v28 =>
    (gfR o27.2 a0 10 2).bind fun v29 =>
    (f_c7_farApart N v28 v29 o20.1 o20.2 o27.2).bind fun q30 =>
    (f_c10_tellThree N a0 o27.1 o20.1.toInt64 o20.2.toInt64 q30.toInt64 o27.2).bind fun q31 =>
    some (q31.1, q31.2)
  else
    some ((-2 : Int32), h)
set_option maxHeartbeats 4000000 in
set_option maxRecDepth 100000 in
theorem wlp_c10_reach_36 {M : gM} {X : gX} {N : Nat} (hx : gEx X = false) (K : gC M X gN10 b_c10_reach 5 (gRm (7 + N) 0 0)) (a0 : Nat) (x3 : Int32) (h : gH) : ∀ (k : Nat) (x1 : Int32) (x2 : Int32) (x4 : Int32) (o : Int32 × Int32), lp_c10_reach_36 N a0 x3 h k x1 x2 x4 = some o → gG M X 5 0 0 89 [(0, .ref a0), (1, .int o.1), (2, .int o.2), (3, .int x3)] [] h → gG M X 5 0 0 36 [(0, .ref a0), (1, .int x1), (2, .int x2), (3, .int x3), (4, .int x4)] [] h := by
  intro k
  induction k with
  | zero =>
    intro x1 x2 x4 o hy
    rw [lp_c10_reach_36.eq_1] at hy
    cases hy
  | succ k ih =>
    intro x1 x2 x4 o hy hE
    rw [lp_c10_reach_36.eq_2] at hy
    refine g_iload K d_c10_reach_36 4 rfl ?_
    refine g_aload_n K d_c10_reach_38 0 rfl ?_
    obtain ⟨v7, e_v7, hy⟩ := gBd hy
    refine g_getR K fl_c10_33 d_c10_reach_39 e_v7 ?_
    obtain ⟨v8, e_v8, hy⟩ := gBd hy
    refine g_getI K fl_c10_132 d_c10_reach_42 e_v8 ?_
    refine g_icmp_ge K d_c10_reach_45 (fun c9 => ?_) (fun c9 => ?_)
    · rw [if_pos c9] at hy
      refine g_sub (ls2 := [(0, .ref a0), (1, .int x1), (2, .int x2), (3, .int x3)]) [0, 1, 2, 3] rfl ?_
      obtain rfl := Option.some.inj hy
      exact hE
    · rw [if_neg c9] at hy
      refine g_aload_n K d_c10_reach_48 0 rfl ?_
      obtain ⟨v10, e_v10, hy⟩ := gBd hy
      refine g_getR K fl_c10_33 d_c10_reach_49 e_v10 ?_
      refine g_aload_n K d_c10_reach_52 0 rfl ?_
      obtain ⟨v11, e_v11, hy⟩ := gBd hy
      refine g_getR K fl_c10_26 d_c10_reach_53 e_v11 ?_
      refine g_iload_n K d_c10_reach_56 3 rfl ?_
      refine g_iload K d_c10_reach_57 4 rfl ?_
      obtain ⟨q12, e_q12, hy⟩ := gBd hy
      refine g_callVi (rest := []) K hx ly_c7_farApart kv_c10_308 d_c10_reach_59 (ct_c7_farApart M.2.1 X hx N v10 v11 x3 x4 h q12 e_q12) rfl rfl (Nat.le_of_ble_eq_true rfl) (gDep rfl) ⟨Nat.le_refl 0, Nat.le_refl 0⟩ ?_
      refine g_aload_n K d_c10_reach_62 0 rfl ?_
      obtain ⟨v13, e_v13, hy⟩ := gBd hy
      refine g_getR K fl_c10_33 d_c10_reach_63 e_v13 ?_
      refine g_aload_n K d_c10_reach_66 0 rfl ?_
      obtain ⟨v14, e_v14, hy⟩ := gBd hy
      refine g_getR K fl_c10_26 d_c10_reach_67 e_v14 ?_
      refine g_iload_n K d_c10_reach_70 1 rfl ?_
      refine g_iload_n K d_c10_reach_71 2 rfl ?_
      obtain ⟨q15, e_q15, hy⟩ := gBd hy
      refine g_callVi (rest := [.int q12]) K hx ly_c7_farApart kv_c10_308 d_c10_reach_72 (ct_c7_farApart M.2.1 X hx N v13 v14 x1 x2 h q15 e_q15) rfl rfl (Nat.le_of_ble_eq_true rfl) (gDep rfl) ⟨Nat.le_refl 0, Nat.le_refl 0⟩ ?_
      obtain ⟨t17, e_t17, hy⟩ := gBd hy
      have hJ18 : gG M X 5 0 0 83 [(0, .ref a0), (1, .int t17.1), (2, .int t17.2), (3, .int x3), (4, .int x4)] [] h := by
        refine g_iinc (ls2 := [(4, .int (x4 + (1 : Int32))), (0, .ref a0), (1, .int t17.1), (2, .int t17.2), (3, .int x3)]) (v := 1) K d_c10_reach_83 4 rfl (by decide) rfl rfl ?_
        refine g_goto K d_c10_reach_86 ?_
        refine g_sub (ls2 := [(0, .ref a0), (1, .int t17.1), (2, .int t17.2), (3, .int x3), (4, .int (x4 + (1 : Int32)))]) [1, 2, 3, 4, 0] rfl ?_
        exact ih _ _ _ _ hy hE
      refine g_icmp_le K d_c10_reach_75 (fun c16 => ?_) (fun c16 => ?_)
      · rw [if_pos c16] at e_t17
        obtain rfl := Option.some.inj e_t17
        exact hJ18
      · rw [if_neg c16] at e_t17
        refine g_iload_n K d_c10_reach_78 3 rfl ?_
        refine g_istore_n (ls2 := [(1, .int x3), (0, .ref a0), (2, .int x2), (3, .int x3), (4, .int x4)]) K d_c10_reach_79 rfl rfl ?_
        refine g_iload K d_c10_reach_80 4 rfl ?_
        refine g_istore_n (ls2 := [(2, .int x4), (1, .int x3), (0, .ref a0), (3, .int x3), (4, .int x4)]) K d_c10_reach_82 rfl rfl ?_
        refine g_sub (ls2 := [(0, .ref a0), (1, .int x3), (2, .int x4), (3, .int x3), (4, .int x4)]) [2, 1, 0, 3, 4] rfl ?_
        obtain rfl := Option.some.inj e_t17
        exact hJ18
set_option maxHeartbeats 4000000 in
set_option maxRecDepth 100000 in
theorem wlp_c10_reach_20 {M : gM} {X : gX} {N : Nat} (hx : gEx X = false) (K : gC M X gN10 b_c10_reach 5 (gRm (7 + N) 0 0)) (a0 : Nat) (h : gH) : ∀ (k : Nat) (x1 : Int32) (x2 : Int32) (x3 : Int32) (o : Int32 × Int32), lp_c10_reach_20 N a0 h k x1 x2 x3 = some o → gG M X 5 0 0 95 [(0, .ref a0), (1, .int o.1), (2, .int o.2)] [] h → gG M X 5 0 0 20 [(0, .ref a0), (1, .int x1), (2, .int x2), (3, .int x3)] [] h := by
  intro k
  induction k with
  | zero =>
    intro x1 x2 x3 o hy
    rw [lp_c10_reach_20.eq_1] at hy
    cases hy
  | succ k ih =>
    intro x1 x2 x3 o hy hE
    rw [lp_c10_reach_20.eq_2] at hy
    refine g_iload_n K d_c10_reach_20 3 rfl ?_
    refine g_aload_n K d_c10_reach_21 0 rfl ?_
    obtain ⟨v4, e_v4, hy⟩ := gBd hy
    refine g_getR K fl_c10_33 d_c10_reach_22 e_v4 ?_
    obtain ⟨v5, e_v5, hy⟩ := gBd hy
    refine g_getI K fl_c10_132 d_c10_reach_25 e_v5 ?_
    refine g_icmp_ge K d_c10_reach_28 (fun c6 => ?_) (fun c6 => ?_)
    · rw [if_pos c6] at hy
      refine g_sub (ls2 := [(0, .ref a0), (1, .int x1), (2, .int x2)]) [0, 1, 2] rfl ?_
      obtain rfl := Option.some.inj hy
      exact hE
    · rw [if_neg c6] at hy
      refine g_iload_n K d_c10_reach_31 3 rfl ?_
      refine g_iconst (v := 1) K d_c10_reach_32 (by decide) ?_
      refine g_iadd K d_c10_reach_33 ?_
      refine g_istore (ls2 := [(4, .int (x3 + (1 : Int32))), (0, .ref a0), (1, .int x1), (2, .int x2), (3, .int x3)]) K d_c10_reach_34 rfl rfl ?_
      obtain ⟨o19, e_o19, hy⟩ := gBd hy
      refine g_sub (ls2 := [(0, .ref a0), (1, .int x1), (2, .int x2), (3, .int x3), (4, .int (x3 + (1 : Int32)))]) [1, 2, 3, 4, 0] rfl ?_
      refine wlp_c10_reach_36 hx K a0 x3 h N x1 x2 (x3 + (1 : Int32)) o19 e_o19 ?_
      refine g_iinc (ls2 := [(3, .int (x3 + (1 : Int32))), (0, .ref a0), (1, .int o19.1), (2, .int o19.2)]) (v := 1) K d_c10_reach_89 3 rfl (by decide) rfl rfl ?_
      refine g_goto K d_c10_reach_92 ?_
      refine g_sub (ls2 := [(0, .ref a0), (1, .int o19.1), (2, .int o19.2), (3, .int (x3 + (1 : Int32)))]) [1, 2, 3, 0] rfl ?_
      exact ih _ _ _ _ hy hE
set_option maxHeartbeats 4000000 in
set_option maxRecDepth 100000 in
theorem wlp_c10_reach_97 {M : gM} {X : gX} {N : Nat} (hx : gEx X = false) (K : gC M X gN10 b_c10_reach 5 (gRm (7 + N) 0 0)) (a0 : Nat) (x1 : Int32) (x2 : Int32) : ∀ (k : Nat) (x3 : Int32) (h : gH) (o : Int32 × gH), lp_c10_reach_97 N a0 k x3 h = some o → gG M X 5 0 0 128 [(0, .ref a0), (1, .int x1), (2, .int x2), (3, .int o.1)] [] o.2 → gG M X 5 0 0 97 [(0, .ref a0), (1, .int x1), (2, .int x2), (3, .int x3)] [] h := by
  intro k
  induction k with
  | zero =>
    intro x3 h o hy
    rw [lp_c10_reach_97.eq_1] at hy
    cases hy
  | succ k ih =>
    intro x3 h o hy hE
    rw [lp_c10_reach_97.eq_2] at hy
    refine g_iload_n K d_c10_reach_97 3 rfl ?_
    refine g_bipush (v := 10) K d_c10_reach_98 (by decide) ?_
    refine g_icmp_ge K d_c10_reach_100 (fun c21 => ?_) (fun c21 => ?_)
    · rw [if_pos c21] at hy
      obtain rfl := Option.some.inj hy
      exact hE
    · rw [if_neg c21] at hy
      refine g_aload_n K d_c10_reach_103 0 rfl ?_
      obtain ⟨v22, e_v22, hy⟩ := gBd hy
      refine g_getR K fl_c10_67 d_c10_reach_104 e_v22 ?_
      refine g_aload_n K d_c10_reach_107 0 rfl ?_
      obtain ⟨v23, e_v23, hy⟩ := gBd hy
      refine g_getR K fl_c10_33 d_c10_reach_108 e_v23 ?_
      refine g_aload_n K d_c10_reach_111 0 rfl ?_
      obtain ⟨v24, e_v24, hy⟩ := gBd hy
      refine g_getR K fl_c10_26 d_c10_reach_112 e_v24 ?_
      refine g_iload_n K d_c10_reach_115 3 rfl ?_
      obtain ⟨q25, e_q25, hy⟩ := gBd hy
      refine g_callVi (rest := []) K hx ly_c9_allReached kv_c10_323 d_c10_reach_116 (ct_c9_allReached M.2.1 X hx N v22 v23 v24 x3 h q25 e_q25) rfl rfl (Nat.le_of_ble_eq_true rfl) (gDep rfl) ⟨Nat.le_refl 0, Nat.le_refl 0⟩ ?_
      refine g_if_ne K d_c10_reach_119 (fun c26 => ?_) (fun c26 => ?_)
      · rw [if_neg c26] at hy
        obtain rfl := Option.some.inj hy
        exact hE
      · rw [if_pos c26] at hy
        refine g_iinc (ls2 := [(3, .int (x3 + (1 : Int32))), (0, .ref a0), (1, .int x1), (2, .int x2)]) (v := 1) K d_c10_reach_122 3 rfl (by decide) rfl rfl ?_
        refine g_goto K d_c10_reach_125 ?_
        refine g_sub (ls2 := [(0, .ref a0), (1, .int x1), (2, .int x2), (3, .int (x3 + (1 : Int32)))]) [1, 2, 3, 0] rfl ?_
        exact ih _ _ _ hy hE
set_option maxHeartbeats 4000000 in
set_option maxRecDepth 100000 in
theorem ct_c10_reach (l : Launch) (X : gX) (hx : gEx X = false) (N : Nat) (a0 : Nat) (h : gH) (q : Int32 × gH) (hy : f_c10_reach N a0 h = some q) : gRc y_c10_reach h a0 ∧ gMi l X y_c10_reach b_c10_reach 5 .int (7 + N) 0 0 [.ref a0] h q.1 q.2 := by
  unfold f_c10_reach at hy
  obtain ⟨u0, e_u0, hy⟩ := gBd hy
  cases u0
  refine ⟨Or.inl ⟨10, _, _, e_u0, rfl⟩, gMet_i (lsx := [(0, .ref a0)]) (by decide) rfl rfl ?_⟩
  intro M hMl K hret
  subst hMl
  refine g_aload_n K d_c10_reach_0 0 rfl ?_
  obtain ⟨v1, e_v1, hy⟩ := gBd hy
  refine g_getR K fl_c10_33 d_c10_reach_1 e_v1 ?_
  obtain ⟨v2, e_v2, hy⟩ := gBd hy
  refine g_getI K fl_c10_132 d_c10_reach_4 e_v2 ?_
  refine g_iconst (v := 2) K d_c10_reach_7 (by decide) ?_
  refine g_icmp_ge K d_c10_reach_8 (fun c3 => ?_) (fun c3 => ?_)
  · rw [if_pos c3] at hy
    refine g_iconst (v := 0) K d_c10_reach_14 (by decide) ?_
    refine g_istore_n (ls2 := [(1, .int (0 : Int32)), (0, .ref a0)]) K d_c10_reach_15 rfl rfl ?_
    refine g_iconst (v := 1) K d_c10_reach_16 (by decide) ?_
    refine g_istore_n (ls2 := [(2, .int (1 : Int32)), (1, .int (0 : Int32)), (0, .ref a0)]) K d_c10_reach_17 rfl rfl ?_
    refine g_iconst (v := 0) K d_c10_reach_18 (by decide) ?_
    refine g_istore_n (ls2 := [(3, .int (0 : Int32)), (2, .int (1 : Int32)), (1, .int (0 : Int32)), (0, .ref a0)]) K d_c10_reach_19 rfl rfl ?_
    obtain ⟨o20, e_o20, hy⟩ := gBd hy
    refine g_sub (ls2 := [(0, .ref a0), (1, .int (0 : Int32)), (2, .int (1 : Int32)), (3, .int (0 : Int32))]) [3, 2, 1, 0] rfl ?_
    refine wlp_c10_reach_20 hx K a0 h N (0 : Int32) (1 : Int32) (0 : Int32) o20 e_o20 ?_
    refine g_iconst (v := 0) K d_c10_reach_95 (by decide) ?_
    refine g_istore_n (ls2 := [(3, .int (0 : Int32)), (0, .ref a0), (1, .int o20.1), (2, .int o20.2)]) K d_c10_reach_96 rfl rfl ?_
    obtain ⟨o27, e_o27, hy⟩ := gBd hy
    refine g_sub (ls2 := [(0, .ref a0), (1, .int o20.1), (2, .int o20.2), (3, .int (0 : Int32))]) [1, 2, 3, 0] rfl ?_
    refine wlp_c10_reach_97 hx K a0 o20.1 o20.2 N (0 : Int32) h o27 e_o27 ?_
    refine g_aload_n K d_c10_reach_128 0 rfl ?_
    refine g_iload_n K d_c10_reach_129 3 rfl ?_
    refine g_iload_n K d_c10_reach_130 1 rfl ?_
    refine g_i2l K d_c10_reach_131 ?_
    refine g_iload_n K d_c10_reach_132 2 rfl ?_
    refine g_i2l K d_c10_reach_133 ?_
    refine g_aload_n K d_c10_reach_134 0 rfl ?_
    obtain ⟨v28, e_v28, hy⟩ := gBd hy
    refine g_getR K fl_c10_33 d_c10_reach_135 e_v28 ?_
    refine g_aload_n K d_c10_reach_138 0 rfl ?_
    obtain ⟨v29, e_v29, hy⟩ := gBd hy
    refine g_getR K fl_c10_26 d_c10_reach_139 e_v29 ?_
    refine g_iload_n K d_c10_reach_142 1 rfl ?_
    refine g_iload_n K d_c10_reach_143 2 rfl ?_
    obtain ⟨q30, e_q30, hy⟩ := gBd hy
    refine g_callVi (rest := [.long o20.2.toInt64, .long o20.1.toInt64, .int o27.1, .ref a0]) K hx ly_c7_farApart kv_c10_308 d_c10_reach_144 (ct_c7_farApart M.2.1 X hx N v28 v29 o20.1 o20.2 o27.2 q30 e_q30) rfl rfl (Nat.le_of_ble_eq_true rfl) (gDep rfl) ⟨Nat.le_refl 0, Nat.le_refl 0⟩ ?_
    refine g_i2l K d_c10_reach_147 ?_
    obtain ⟨q31, e_q31, hy⟩ := gBd hy
    refine g_callVi (rest := []) K hx ly_c10_tellThree kv_c10_327 d_c10_reach_148 (ct_c10_tellThree M.2.1 X hx N a0 o27.1 o20.1.toInt64 o20.2.toInt64 q30.toInt64 o27.2 q31 e_q31) rfl rfl (Nat.le_of_ble_eq_true rfl) (gDep rfl) ⟨Nat.le_refl 0, Nat.le_refl 0⟩ ?_
    obtain rfl := Option.some.inj hy
    exact hret rfl _ _ _ d_c10_reach_151
  · rw [if_neg c3] at hy
    refine g_bipush (v := (-2)) K d_c10_reach_11 (by decide) ?_
    obtain rfl := Option.some.inj hy
    exact hret rfl _ _ _ d_c10_reach_13
-- c10 richest
theorem d_c10_richest_0 : gD b_c10_richest 0 (.iload_n 1) 1 1 := ⟨by decide +kernel, rfl⟩
theorem d_c10_richest_1 : gJ b_c10_richest 1 (.ifCond .lt 9) 3 9 4 10 := ⟨by decide +kernel, rfl, by decide⟩
theorem d_c10_richest_4 : gD b_c10_richest 4 (.iload_n 1) 1 5 := ⟨by decide +kernel, rfl⟩
theorem d_c10_richest_5 : gD b_c10_richest 5 (.bipush 99) 2 7 := ⟨by decide +kernel, rfl⟩
theorem d_c10_richest_7 : gJ b_c10_richest 7 (.if_icmp .le 5) 3 5 10 12 := ⟨by decide +kernel, rfl, by decide⟩
theorem d_c10_richest_10 : gD b_c10_richest 10 (.iconst (-1)) 1 11 := ⟨by decide +kernel, rfl⟩
theorem d_c10_richest_11 : gD b_c10_richest 11 .ireturn 1 12 := ⟨by decide +kernel, rfl⟩
theorem d_c10_richest_12 : gD b_c10_richest 12 (.aload_n 0) 1 13 := ⟨by decide +kernel, rfl⟩
theorem d_c10_richest_13 : gD b_c10_richest 13 (.getfield 33) 3 16 := ⟨by decide +kernel, rfl⟩
theorem d_c10_richest_16 : gD b_c10_richest 16 (.getfield 132) 3 19 := ⟨by decide +kernel, rfl⟩
theorem d_c10_richest_19 : gJ b_c10_richest 19 (.ifCond .ne 6) 3 6 22 25 := ⟨by decide +kernel, rfl, by decide⟩
theorem d_c10_richest_22 : gD b_c10_richest 22 (.bipush (-2)) 2 24 := ⟨by decide +kernel, rfl⟩
theorem d_c10_richest_24 : gD b_c10_richest 24 .ireturn 1 25 := ⟨by decide +kernel, rfl⟩
theorem d_c10_richest_25 : gD b_c10_richest 25 (.aload_n 0) 1 26 := ⟨by decide +kernel, rfl⟩
theorem d_c10_richest_26 : gD b_c10_richest 26 (.iload_n 1) 1 27 := ⟨by decide +kernel, rfl⟩
theorem d_c10_richest_27 : gD b_c10_richest 27 (.invokevirtual 251) 3 30 := ⟨by decide +kernel, rfl⟩
theorem d_c10_richest_30 : gD b_c10_richest 30 .pop 1 31 := ⟨by decide +kernel, rfl⟩
theorem d_c10_richest_31 : gD b_c10_richest 31 (.iconst 0) 1 32 := ⟨by decide +kernel, rfl⟩
theorem d_c10_richest_32 : gD b_c10_richest 32 (.istore_n 2) 1 33 := ⟨by decide +kernel, rfl⟩
theorem d_c10_richest_33 : gD b_c10_richest 33 (.iconst 1) 1 34 := ⟨by decide +kernel, rfl⟩
theorem d_c10_richest_34 : gD b_c10_richest 34 (.istore_n 3) 1 35 := ⟨by decide +kernel, rfl⟩
theorem d_c10_richest_35 : gD b_c10_richest 35 (.iload_n 3) 1 36 := ⟨by decide +kernel, rfl⟩
theorem d_c10_richest_36 : gD b_c10_richest 36 (.aload_n 0) 1 37 := ⟨by decide +kernel, rfl⟩
theorem d_c10_richest_37 : gD b_c10_richest 37 (.getfield 40) 3 40 := ⟨by decide +kernel, rfl⟩
theorem d_c10_richest_40 : gD b_c10_richest 40 (.getfield 132) 3 43 := ⟨by decide +kernel, rfl⟩
theorem d_c10_richest_43 : gJ b_c10_richest 43 (.if_icmp .ge 32) 3 32 46 75 := ⟨by decide +kernel, rfl, by decide⟩
theorem d_c10_richest_46 : gD b_c10_richest 46 (.aload_n 0) 1 47 := ⟨by decide +kernel, rfl⟩
theorem d_c10_richest_47 : gD b_c10_richest 47 (.getfield 40) 3 50 := ⟨by decide +kernel, rfl⟩
theorem d_c10_richest_50 : gD b_c10_richest 50 (.getfield 157) 3 53 := ⟨by decide +kernel, rfl⟩
theorem d_c10_richest_53 : gD b_c10_richest 53 (.iload_n 3) 1 54 := ⟨by decide +kernel, rfl⟩
theorem d_c10_richest_54 : gD b_c10_richest 54 .iaload 1 55 := ⟨by decide +kernel, rfl⟩
theorem d_c10_richest_55 : gD b_c10_richest 55 (.aload_n 0) 1 56 := ⟨by decide +kernel, rfl⟩
theorem d_c10_richest_56 : gD b_c10_richest 56 (.getfield 40) 3 59 := ⟨by decide +kernel, rfl⟩
theorem d_c10_richest_59 : gD b_c10_richest 59 (.getfield 157) 3 62 := ⟨by decide +kernel, rfl⟩
theorem d_c10_richest_62 : gD b_c10_richest 62 (.iload_n 2) 1 63 := ⟨by decide +kernel, rfl⟩
theorem d_c10_richest_63 : gD b_c10_richest 63 .iaload 1 64 := ⟨by decide +kernel, rfl⟩
theorem d_c10_richest_64 : gJ b_c10_richest 64 (.if_icmp .le 5) 3 5 67 69 := ⟨by decide +kernel, rfl, by decide⟩
theorem d_c10_richest_67 : gD b_c10_richest 67 (.iload_n 3) 1 68 := ⟨by decide +kernel, rfl⟩
theorem d_c10_richest_68 : gD b_c10_richest 68 (.istore_n 2) 1 69 := ⟨by decide +kernel, rfl⟩
theorem d_c10_richest_69 : gD b_c10_richest 69 (.iinc 3 1) 3 72 := ⟨by decide +kernel, rfl⟩
theorem d_c10_richest_72 : gJ b_c10_richest 72 (.goto (-37)) 3 (-37) 75 35 := ⟨by decide +kernel, rfl, by decide⟩
theorem d_c10_richest_75 : gD b_c10_richest 75 (.aload_n 0) 1 76 := ⟨by decide +kernel, rfl⟩
theorem d_c10_richest_76 : gD b_c10_richest 76 (.iload_n 2) 1 77 := ⟨by decide +kernel, rfl⟩
theorem d_c10_richest_77 : gD b_c10_richest 77 (.aload_n 0) 1 78 := ⟨by decide +kernel, rfl⟩
theorem d_c10_richest_78 : gD b_c10_richest 78 (.getfield 40) 3 81 := ⟨by decide +kernel, rfl⟩
theorem d_c10_richest_81 : gD b_c10_richest 81 (.getfield 157) 3 84 := ⟨by decide +kernel, rfl⟩
theorem d_c10_richest_84 : gD b_c10_richest 84 (.iload_n 2) 1 85 := ⟨by decide +kernel, rfl⟩
theorem d_c10_richest_85 : gD b_c10_richest 85 .iaload 1 86 := ⟨by decide +kernel, rfl⟩
theorem d_c10_richest_86 : gD b_c10_richest 86 .i2l 1 87 := ⟨by decide +kernel, rfl⟩
theorem d_c10_richest_87 : gD b_c10_richest 87 (.aload_n 0) 1 88 := ⟨by decide +kernel, rfl⟩
theorem d_c10_richest_88 : gD b_c10_richest 88 (.getfield 40) 3 91 := ⟨by decide +kernel, rfl⟩
theorem d_c10_richest_91 : gD b_c10_richest 91 (.invokevirtual 202) 3 94 := ⟨by decide +kernel, rfl⟩
theorem d_c10_richest_94 : gD b_c10_richest 94 .i2l 1 95 := ⟨by decide +kernel, rfl⟩
theorem d_c10_richest_95 : gD b_c10_richest 95 (.invokevirtual 205) 3 98 := ⟨by decide +kernel, rfl⟩
theorem d_c10_richest_98 : gD b_c10_richest 98 .ireturn 1 99 := ⟨by decide +kernel, rfl⟩
def lp_c10_richest_35 (N : Nat) (a0 : Nat) (h : gH) : Nat → Int32 → Int32 → Option (Int32)
  | 0, _, _ => none
  | k + 1, x2, x3 =>
  (gfR h a0 10 5).bind fun v7 =>
    (gfI h v7 7 0).bind fun v8 =>
    if v8 ≤ x3 then
    some x2
  else
    (gfR h a0 10 5).bind fun v10 =>
    (gfR h v10 7 5).bind fun v11 =>
    (ga 0 h v11 x3).bind fun v12 =>
    (gfR h a0 10 5).bind fun v13 =>
    (gfR h v13 7 5).bind fun v14 =>
    (ga 0 h v14 x2).bind fun v15 =>
    (show Option (Int32) from if v12 ≤ v15 then
    some x2
  else
    some x3).bind fun t17 =>
    lp_c10_richest_35 N a0 h k t17 (x3 + (1 : Int32))
def f_c10_richest (N : Nat) (a0 : Nat) (x1 : Int32) (h : gH) : Option (Int32 × gH) :=
  (gcl h a0 10).bind fun _ =>
  if x1 < 0 then
    some ((-1 : Int32), h)
  else
    if x1 ≤ (99 : Int32) then
    (gfR h a0 10 3).bind fun v3 =>
    (gfI h v3 7 0).bind fun v4 =>
    if v4 = 0 then
    some ((-2 : Int32), h)
  else
    (f_c10_tryAsItIs N a0 x1 h).bind fun q6 =>
    (lp_c10_richest_35 N a0 q6.2 N (0 : Int32) (1 : Int32)).bind fun o19 =>
    (gfR q6.2 a0 10 5).bind fun v20 =>
    (gfR q6.2 v20 7 5).bind fun v21 =>
    (ga 0 q6.2 v21 o19).bind fun v22 =>
    (gfR q6.2 a0 10 5).bind fun v23 =>
    (f_c7_howManyDry N v23 q6.2).bind fun q24 =>
    (f_c10_tellTwo N a0 o19 v22.toInt64 q24.toInt64 q6.2).bind fun q25 =>
    some (q25.1, q25.2)
  else
    some ((-1 : Int32), h)
set_option maxHeartbeats 4000000 in
set_option maxRecDepth 100000 in
theorem wlp_c10_richest_35 {M : gM} {X : gX} {N : Nat} (hx : gEx X = false) (K : gC M X gN10 b_c10_richest 4 (gRm (7 + N) 0 0)) (a0 : Nat) (h : gH) : ∀ (k : Nat) (x2 : Int32) (x3 : Int32) (o : Int32), lp_c10_richest_35 N a0 h k x2 x3 = some o → gG M X 4 0 0 75 [(0, .ref a0), (2, .int o)] [] h → gG M X 4 0 0 35 [(0, .ref a0), (2, .int x2), (3, .int x3)] [] h := by
  intro k
  induction k with
  | zero =>
    intro x2 x3 o hy
    rw [lp_c10_richest_35.eq_1] at hy
    cases hy
  | succ k ih =>
    intro x2 x3 o hy hE
    rw [lp_c10_richest_35.eq_2] at hy
    refine g_iload_n K d_c10_richest_35 2 rfl ?_
    refine g_aload_n K d_c10_richest_36 0 rfl ?_
    obtain ⟨v7, e_v7, hy⟩ := gBd hy
    refine g_getR K fl_c10_40 d_c10_richest_37 e_v7 ?_
    obtain ⟨v8, e_v8, hy⟩ := gBd hy
    refine g_getI K fl_c10_132 d_c10_richest_40 e_v8 ?_
    refine g_icmp_ge K d_c10_richest_43 (fun c9 => ?_) (fun c9 => ?_)
    · rw [if_pos c9] at hy
      refine g_sub (ls2 := [(0, .ref a0), (2, .int x2)]) [0, 1] rfl ?_
      obtain rfl := Option.some.inj hy
      exact hE
    · rw [if_neg c9] at hy
      refine g_aload_n K d_c10_richest_46 0 rfl ?_
      obtain ⟨v10, e_v10, hy⟩ := gBd hy
      refine g_getR K fl_c10_40 d_c10_richest_47 e_v10 ?_
      obtain ⟨v11, e_v11, hy⟩ := gBd hy
      refine g_getR K fl_c10_157 d_c10_richest_50 e_v11 ?_
      refine g_iload_n K d_c10_richest_53 2 rfl ?_
      obtain ⟨v12, e_v12, hy⟩ := gBd hy
      refine g_iald K d_c10_richest_54 e_v12 ?_
      refine g_aload_n K d_c10_richest_55 0 rfl ?_
      obtain ⟨v13, e_v13, hy⟩ := gBd hy
      refine g_getR K fl_c10_40 d_c10_richest_56 e_v13 ?_
      obtain ⟨v14, e_v14, hy⟩ := gBd hy
      refine g_getR K fl_c10_157 d_c10_richest_59 e_v14 ?_
      refine g_iload_n K d_c10_richest_62 1 rfl ?_
      obtain ⟨v15, e_v15, hy⟩ := gBd hy
      refine g_iald K d_c10_richest_63 e_v15 ?_
      obtain ⟨t17, e_t17, hy⟩ := gBd hy
      have hJ18 : gG M X 4 0 0 69 [(0, .ref a0), (2, .int t17), (3, .int x3)] [] h := by
        refine g_iinc (ls2 := [(3, .int (x3 + (1 : Int32))), (0, .ref a0), (2, .int t17)]) (v := 1) K d_c10_richest_69 2 rfl (by decide) rfl rfl ?_
        refine g_goto K d_c10_richest_72 ?_
        refine g_sub (ls2 := [(0, .ref a0), (2, .int t17), (3, .int (x3 + (1 : Int32)))]) [1, 2, 0] rfl ?_
        exact ih _ _ _ hy hE
      refine g_icmp_le K d_c10_richest_64 (fun c16 => ?_) (fun c16 => ?_)
      · rw [if_pos c16] at e_t17
        obtain rfl := Option.some.inj e_t17
        exact hJ18
      · rw [if_neg c16] at e_t17
        refine g_iload_n K d_c10_richest_67 2 rfl ?_
        refine g_istore_n (ls2 := [(2, .int x3), (0, .ref a0), (3, .int x3)]) K d_c10_richest_68 rfl rfl ?_
        refine g_sub (ls2 := [(0, .ref a0), (2, .int x3), (3, .int x3)]) [1, 0, 2] rfl ?_
        obtain rfl := Option.some.inj e_t17
        exact hJ18
set_option maxHeartbeats 4000000 in
set_option maxRecDepth 100000 in
theorem ct_c10_richest (l : Launch) (X : gX) (hx : gEx X = false) (N : Nat) (a0 : Nat) (x1 : Int32) (h : gH) (q : Int32 × gH) (hy : f_c10_richest N a0 x1 h = some q) : gRc y_c10_richest h a0 ∧ gMi l X y_c10_richest b_c10_richest 4 .int (7 + N) 0 0 [.ref a0, .int x1] h q.1 q.2 := by
  unfold f_c10_richest at hy
  obtain ⟨u0, e_u0, hy⟩ := gBd hy
  cases u0
  refine ⟨Or.inl ⟨10, _, _, e_u0, rfl⟩, gMet_i (lsx := [(0, .ref a0), (1, .int x1)]) (by decide) rfl rfl ?_⟩
  intro M hMl K hret
  subst hMl
  refine g_iload_n K d_c10_richest_0 1 rfl ?_
  refine g_if_lt K d_c10_richest_1 (fun c1 => ?_) (fun c1 => ?_)
  · rw [if_pos c1] at hy
    refine g_iconst (v := (-1)) K d_c10_richest_10 (by decide) ?_
    obtain rfl := Option.some.inj hy
    exact hret rfl _ _ _ d_c10_richest_11
  · rw [if_neg c1] at hy
    refine g_iload_n K d_c10_richest_4 1 rfl ?_
    refine g_bipush (v := 99) K d_c10_richest_5 (by decide) ?_
    refine g_icmp_le K d_c10_richest_7 (fun c2 => ?_) (fun c2 => ?_)
    · rw [if_pos c2] at hy
      refine g_aload_n K d_c10_richest_12 0 rfl ?_
      obtain ⟨v3, e_v3, hy⟩ := gBd hy
      refine g_getR K fl_c10_33 d_c10_richest_13 e_v3 ?_
      obtain ⟨v4, e_v4, hy⟩ := gBd hy
      refine g_getI K fl_c10_132 d_c10_richest_16 e_v4 ?_
      refine g_if_ne K d_c10_richest_19 (fun c5 => ?_) (fun c5 => ?_)
      · rw [if_neg c5] at hy
        refine g_aload_n K d_c10_richest_25 0 rfl ?_
        refine g_iload_n K d_c10_richest_26 1 rfl ?_
        obtain ⟨q6, e_q6, hy⟩ := gBd hy
        refine g_callVi (rest := []) K hx ly_c10_tryAsItIs kv_c10_251 d_c10_richest_27 (ct_c10_tryAsItIs M.2.1 X hx N a0 x1 h q6 e_q6) rfl rfl (Nat.le_of_ble_eq_true rfl) (gDep rfl) ⟨Nat.le_refl 0, Nat.le_refl 0⟩ ?_
        refine g_pop K d_c10_richest_30 rfl ?_
        refine g_iconst (v := 0) K d_c10_richest_31 (by decide) ?_
        refine g_istore_n (ls2 := [(2, .int (0 : Int32)), (0, .ref a0), (1, .int x1)]) K d_c10_richest_32 rfl rfl ?_
        refine g_iconst (v := 1) K d_c10_richest_33 (by decide) ?_
        refine g_istore_n (ls2 := [(3, .int (1 : Int32)), (2, .int (0 : Int32)), (0, .ref a0), (1, .int x1)]) K d_c10_richest_34 rfl rfl ?_
        obtain ⟨o19, e_o19, hy⟩ := gBd hy
        refine g_sub (ls2 := [(0, .ref a0), (2, .int (0 : Int32)), (3, .int (1 : Int32))]) [2, 1, 0] rfl ?_
        refine wlp_c10_richest_35 hx K a0 q6.2 N (0 : Int32) (1 : Int32) o19 e_o19 ?_
        refine g_aload_n K d_c10_richest_75 0 rfl ?_
        refine g_iload_n K d_c10_richest_76 1 rfl ?_
        refine g_aload_n K d_c10_richest_77 0 rfl ?_
        obtain ⟨v20, e_v20, hy⟩ := gBd hy
        refine g_getR K fl_c10_40 d_c10_richest_78 e_v20 ?_
        obtain ⟨v21, e_v21, hy⟩ := gBd hy
        refine g_getR K fl_c10_157 d_c10_richest_81 e_v21 ?_
        refine g_iload_n K d_c10_richest_84 1 rfl ?_
        obtain ⟨v22, e_v22, hy⟩ := gBd hy
        refine g_iald K d_c10_richest_85 e_v22 ?_
        refine g_i2l K d_c10_richest_86 ?_
        refine g_aload_n K d_c10_richest_87 0 rfl ?_
        obtain ⟨v23, e_v23, hy⟩ := gBd hy
        refine g_getR K fl_c10_40 d_c10_richest_88 e_v23 ?_
        obtain ⟨q24, e_q24, hy⟩ := gBd hy
        refine g_callVi (rest := [.long v22.toInt64, .int o19, .ref a0]) K hx ly_c7_howManyDry kv_c10_202 d_c10_richest_91 (ct_c7_howManyDry M.2.1 X hx N v23 q6.2 q24 e_q24) rfl rfl (Nat.le_of_ble_eq_true rfl) (gDep rfl) ⟨Nat.le_refl 0, Nat.le_refl 0⟩ ?_
        refine g_i2l K d_c10_richest_94 ?_
        obtain ⟨q25, e_q25, hy⟩ := gBd hy
        refine g_callVi (rest := []) K hx ly_c10_tellTwo kv_c10_205 d_c10_richest_95 (ct_c10_tellTwo M.2.1 X hx N a0 o19 v22.toInt64 q24.toInt64 q6.2 q25 e_q25) rfl rfl (Nat.le_of_ble_eq_true rfl) (gDep rfl) ⟨Nat.le_refl 0, Nat.le_refl 0⟩ ?_
        obtain rfl := Option.some.inj hy
        exact hret rfl _ _ _ d_c10_richest_98
      · rw [if_pos c5] at hy
        refine g_bipush (v := (-2)) K d_c10_richest_22 (by decide) ?_
        obtain rfl := Option.some.inj hy
        exact hret rfl _ _ _ d_c10_richest_24
    · rw [if_neg c2] at hy
      refine g_iconst (v := (-1)) K d_c10_richest_10 (by decide) ?_
      obtain rfl := Option.some.inj hy
      exact hret rfl _ _ _ d_c10_richest_11
-- c10 rule
theorem d_c10_rule_0 : gD b_c10_rule 0 (.aload_n 0) 1 1 := ⟨by decide +kernel, rfl⟩
theorem d_c10_rule_1 : gD b_c10_rule 1 (.invokevirtual 135) 3 4 := ⟨by decide +kernel, rfl⟩
theorem d_c10_rule_4 : gD b_c10_rule 4 (.istore_n 1) 1 5 := ⟨by decide +kernel, rfl⟩
theorem d_c10_rule_5 : gD b_c10_rule 5 (.iload_n 1) 1 6 := ⟨by decide +kernel, rfl⟩
theorem d_c10_rule_6 : gJ b_c10_rule 6 (.ifCond .lt 7) 3 7 9 13 := ⟨by decide +kernel, rfl, by decide⟩
theorem d_c10_rule_9 : gD b_c10_rule 9 (.iconst (-1)) 1 10 := ⟨by decide +kernel, rfl⟩
theorem d_c10_rule_10 : gD b_c10_rule 10 (.iload_n 1) 1 11 := ⟨by decide +kernel, rfl⟩
theorem d_c10_rule_11 : gD b_c10_rule 11 .isub 1 12 := ⟨by decide +kernel, rfl⟩
theorem d_c10_rule_12 : gD b_c10_rule 12 .ireturn 1 13 := ⟨by decide +kernel, rfl⟩
theorem d_c10_rule_13 : gD b_c10_rule 13 (.aload_n 0) 1 14 := ⟨by decide +kernel, rfl⟩
theorem d_c10_rule_14 : gD b_c10_rule 14 (.getfield 81) 3 17 := ⟨by decide +kernel, rfl⟩
theorem d_c10_rule_17 : gD b_c10_rule 17 (.astore_n 2) 1 18 := ⟨by decide +kernel, rfl⟩
theorem d_c10_rule_18 : gD b_c10_rule 18 (.aload_n 0) 1 19 := ⟨by decide +kernel, rfl⟩
theorem d_c10_rule_19 : gD b_c10_rule 19 (.aload_n 0) 1 20 := ⟨by decide +kernel, rfl⟩
theorem d_c10_rule_20 : gD b_c10_rule 20 (.getfield 85) 3 23 := ⟨by decide +kernel, rfl⟩
theorem d_c10_rule_23 : gD b_c10_rule 23 (.putfield 81) 3 26 := ⟨by decide +kernel, rfl⟩
theorem d_c10_rule_26 : gD b_c10_rule 26 (.aload_n 0) 1 27 := ⟨by decide +kernel, rfl⟩
theorem d_c10_rule_27 : gD b_c10_rule 27 (.aload_n 2) 1 28 := ⟨by decide +kernel, rfl⟩
theorem d_c10_rule_28 : gD b_c10_rule 28 (.putfield 85) 3 31 := ⟨by decide +kernel, rfl⟩
theorem d_c10_rule_31 : gD b_c10_rule 31 (.iconst 0) 1 32 := ⟨by decide +kernel, rfl⟩
theorem d_c10_rule_32 : gD b_c10_rule 32 .ireturn 1 33 := ⟨by decide +kernel, rfl⟩
def f_c10_rule (N : Nat) (a0 : Nat) (h : gH) : Option (Int32 × gH) :=
  (gcl h a0 10).bind fun _ =>
  (f_c10_readSpareRule N a0 h).bind fun q1 =>
    if q1.1 < 0 then
    (gfR q1.2 a0 10 11).bind fun v3 =>
    (gfR q1.2 a0 10 12).bind fun v4 =>
    (sf q1.2 a0 10 11 (.ref v4)).bind fun h5 =>
    (sf h5 a0 10 12 (.ref v3)).bind fun h6 =>
    some ((0 : Int32), h6)
  else
    some ((-1 : Int32) - q1.1, q1.2)
set_option maxHeartbeats 4000000 in
set_option maxRecDepth 100000 in
theorem ct_c10_rule (l : Launch) (X : gX) (hx : gEx X = false) (N : Nat) (a0 : Nat) (h : gH) (q : Int32 × gH) (hy : f_c10_rule N a0 h = some q) : gRc y_c10_rule h a0 ∧ gMi l X y_c10_rule b_c10_rule 3 .int (7 + N) 0 0 [.ref a0] h q.1 q.2 := by
  unfold f_c10_rule at hy
  obtain ⟨u0, e_u0, hy⟩ := gBd hy
  cases u0
  refine ⟨Or.inl ⟨10, _, _, e_u0, rfl⟩, gMet_i (lsx := [(0, .ref a0)]) (by decide) rfl rfl ?_⟩
  intro M hMl K hret
  subst hMl
  refine g_aload_n K d_c10_rule_0 0 rfl ?_
  obtain ⟨q1, e_q1, hy⟩ := gBd hy
  refine g_callVi (rest := []) K hx ly_c10_readSpareRule kv_c10_135 d_c10_rule_1 (ct_c10_readSpareRule M.2.1 X hx N a0 h q1 e_q1) rfl rfl (Nat.le_of_ble_eq_true rfl) (gDep rfl) ⟨Nat.le_refl 0, Nat.le_refl 0⟩ ?_
  refine g_istore_n (ls2 := [(1, .int q1.1), (0, .ref a0)]) K d_c10_rule_4 rfl rfl ?_
  refine g_iload_n K d_c10_rule_5 0 rfl ?_
  refine g_if_lt K d_c10_rule_6 (fun c2 => ?_) (fun c2 => ?_)
  · rw [if_pos c2] at hy
    refine g_aload_n K d_c10_rule_13 1 rfl ?_
    obtain ⟨v3, e_v3, hy⟩ := gBd hy
    refine g_getR K fl_c10_81 d_c10_rule_14 e_v3 ?_
    refine g_astore_n (ls2 := [(2, .ref v3), (1, .int q1.1), (0, .ref a0)]) K d_c10_rule_17 rfl rfl ?_
    refine g_aload_n K d_c10_rule_18 2 rfl ?_
    refine g_aload_n K d_c10_rule_19 2 rfl ?_
    obtain ⟨v4, e_v4, hy⟩ := gBd hy
    refine g_getR K fl_c10_85 d_c10_rule_20 e_v4 ?_
    obtain ⟨h5, e_h5, hy⟩ := gBd hy
    refine g_putR K fp_c10_81 d_c10_rule_23 (fun _ => rfl) (fun _ => rfl) e_h5 ?_
    refine g_aload_n K d_c10_rule_26 2 rfl ?_
    refine g_aload_n K d_c10_rule_27 0 rfl ?_
    obtain ⟨h6, e_h6, hy⟩ := gBd hy
    refine g_putR K fp_c10_85 d_c10_rule_28 (fun _ => rfl) (fun _ => rfl) e_h6 ?_
    refine g_iconst (v := 0) K d_c10_rule_31 (by decide) ?_
    obtain rfl := Option.some.inj hy
    exact hret rfl _ _ _ d_c10_rule_32
  · rw [if_neg c2] at hy
    refine g_iconst (v := (-1)) K d_c10_rule_9 (by decide) ?_
    refine g_iload_n K d_c10_rule_10 0 rfl ?_
    refine g_isub K d_c10_rule_11 ?_
    obtain rfl := Option.some.inj hy
    exact hret rfl _ _ _ d_c10_rule_12
-- c10 year
theorem d_c10_year_0 : gD b_c10_year 0 (.aload_n 0) 1 1 := ⟨by decide +kernel, rfl⟩
theorem d_c10_year_1 : gD b_c10_year 1 (.invokevirtual 231) 3 4 := ⟨by decide +kernel, rfl⟩
theorem d_c10_year_4 : gD b_c10_year 4 (.istore_n 1) 1 5 := ⟨by decide +kernel, rfl⟩
theorem d_c10_year_5 : gD b_c10_year 5 (.iload_n 1) 1 6 := ⟨by decide +kernel, rfl⟩
theorem d_c10_year_6 : gJ b_c10_year 6 (.ifCond .lt 16) 3 16 9 22 := ⟨by decide +kernel, rfl, by decide⟩
theorem d_c10_year_9 : gD b_c10_year 9 (.aload_n 0) 1 10 := ⟨by decide +kernel, rfl⟩
theorem d_c10_year_10 : gD b_c10_year 10 (.getfield 10) 3 13 := ⟨by decide +kernel, rfl⟩
theorem d_c10_year_13 : gD b_c10_year 13 (.iconst 0) 1 14 := ⟨by decide +kernel, rfl⟩
theorem d_c10_year_14 : gD b_c10_year 14 (.invokevirtual 104) 3 17 := ⟨by decide +kernel, rfl⟩
theorem d_c10_year_17 : gD b_c10_year 17 .pop 1 18 := ⟨by decide +kernel, rfl⟩
theorem d_c10_year_18 : gD b_c10_year 18 (.iconst (-1)) 1 19 := ⟨by decide +kernel, rfl⟩
theorem d_c10_year_19 : gD b_c10_year 19 (.iload_n 1) 1 20 := ⟨by decide +kernel, rfl⟩
theorem d_c10_year_20 : gD b_c10_year 20 .isub 1 21 := ⟨by decide +kernel, rfl⟩
theorem d_c10_year_21 : gD b_c10_year 21 .ireturn 1 22 := ⟨by decide +kernel, rfl⟩
theorem d_c10_year_22 : gD b_c10_year 22 (.aload_n 0) 1 23 := ⟨by decide +kernel, rfl⟩
theorem d_c10_year_23 : gD b_c10_year 23 (.getfield 37) 3 26 := ⟨by decide +kernel, rfl⟩
theorem d_c10_year_26 : gD b_c10_year 26 (.aload_n 0) 1 27 := ⟨by decide +kernel, rfl⟩
theorem d_c10_year_27 : gD b_c10_year 27 (.getfield 33) 3 30 := ⟨by decide +kernel, rfl⟩
theorem d_c10_year_30 : gD b_c10_year 30 (.invokevirtual 124) 3 33 := ⟨by decide +kernel, rfl⟩
theorem d_c10_year_33 : gD b_c10_year 33 (.iconst 0) 1 34 := ⟨by decide +kernel, rfl⟩
theorem d_c10_year_34 : gD b_c10_year 34 (.istore_n 2) 1 35 := ⟨by decide +kernel, rfl⟩
theorem d_c10_year_35 : gD b_c10_year 35 (.iconst 0) 1 36 := ⟨by decide +kernel, rfl⟩
theorem d_c10_year_36 : gD b_c10_year 36 (.istore_n 3) 1 37 := ⟨by decide +kernel, rfl⟩
theorem d_c10_year_37 : gD b_c10_year 37 (.iconst 0) 1 38 := ⟨by decide +kernel, rfl⟩
theorem d_c10_year_38 : gD b_c10_year 38 (.istore 4) 2 40 := ⟨by decide +kernel, rfl⟩
theorem d_c10_year_40 : gD b_c10_year 40 (.iconst 0) 1 41 := ⟨by decide +kernel, rfl⟩
theorem d_c10_year_41 : gD b_c10_year 41 (.istore 5) 2 43 := ⟨by decide +kernel, rfl⟩
theorem d_c10_year_43 : gD b_c10_year 43 (.iload 5) 2 45 := ⟨by decide +kernel, rfl⟩
theorem d_c10_year_45 : gD b_c10_year 45 (.bipush 60) 2 47 := ⟨by decide +kernel, rfl⟩
theorem d_c10_year_47 : gJ b_c10_year 47 (.if_icmp .ge 63) 3 63 50 110 := ⟨by decide +kernel, rfl, by decide⟩
theorem d_c10_year_50 : gD b_c10_year 50 (.iload_n 3) 1 51 := ⟨by decide +kernel, rfl⟩
theorem d_c10_year_51 : gD b_c10_year 51 (.aload_n 0) 1 52 := ⟨by decide +kernel, rfl⟩
theorem d_c10_year_52 : gD b_c10_year 52 (.getfield 10) 3 55 := ⟨by decide +kernel, rfl⟩
theorem d_c10_year_55 : gD b_c10_year 55 (.getfield 100) 3 58 := ⟨by decide +kernel, rfl⟩
theorem d_c10_year_58 : gJ b_c10_year 58 (.if_icmp .ge 52) 3 52 61 110 := ⟨by decide +kernel, rfl, by decide⟩
theorem d_c10_year_61 : gD b_c10_year 61 (.iload 4) 2 63 := ⟨by decide +kernel, rfl⟩
theorem d_c10_year_63 : gJ b_c10_year 63 (.ifCond .ne 47) 3 47 66 110 := ⟨by decide +kernel, rfl, by decide⟩
theorem d_c10_year_66 : gD b_c10_year 66 (.aload_n 0) 1 67 := ⟨by decide +kernel, rfl⟩
theorem d_c10_year_67 : gD b_c10_year 67 (.iload_n 3) 1 68 := ⟨by decide +kernel, rfl⟩
theorem d_c10_year_68 : gD b_c10_year 68 (.invokevirtual 234) 3 71 := ⟨by decide +kernel, rfl⟩
theorem d_c10_year_71 : gJ b_c10_year 71 (.ifCond .ge 9) 3 9 74 80 := ⟨by decide +kernel, rfl, by decide⟩
theorem d_c10_year_74 : gD b_c10_year 74 (.iconst 1) 1 75 := ⟨by decide +kernel, rfl⟩
theorem d_c10_year_75 : gD b_c10_year 75 (.istore 4) 2 77 := ⟨by decide +kernel, rfl⟩
theorem d_c10_year_77 : gJ b_c10_year 77 (.goto 27) 3 27 80 104 := ⟨by decide +kernel, rfl, by decide⟩
theorem d_c10_year_80 : gD b_c10_year 80 (.iinc 2 1) 3 83 := ⟨by decide +kernel, rfl⟩
theorem d_c10_year_83 : gD b_c10_year 83 (.iload_n 3) 1 84 := ⟨by decide +kernel, rfl⟩
theorem d_c10_year_84 : gD b_c10_year 84 (.iconst 1) 1 85 := ⟨by decide +kernel, rfl⟩
theorem d_c10_year_85 : gD b_c10_year 85 (.aload_n 0) 1 86 := ⟨by decide +kernel, rfl⟩
theorem d_c10_year_86 : gD b_c10_year 86 (.getfield 10) 3 89 := ⟨by decide +kernel, rfl⟩
theorem d_c10_year_89 : gD b_c10_year 89 (.iload_n 3) 1 90 := ⟨by decide +kernel, rfl⟩
theorem d_c10_year_90 : gD b_c10_year 90 (.bipush 60) 2 92 := ⟨by decide +kernel, rfl⟩
theorem d_c10_year_92 : gD b_c10_year 92 (.invokevirtual 237) 3 95 := ⟨by decide +kernel, rfl⟩
theorem d_c10_year_95 : gD b_c10_year 95 (.invokestatic 240) 3 98 := ⟨by decide +kernel, rfl⟩
theorem d_c10_year_98 : gD b_c10_year 98 (.invokevirtual 244) 3 101 := ⟨by decide +kernel, rfl⟩
theorem d_c10_year_101 : gD b_c10_year 101 .iadd 1 102 := ⟨by decide +kernel, rfl⟩
theorem d_c10_year_102 : gD b_c10_year 102 .iadd 1 103 := ⟨by decide +kernel, rfl⟩
theorem d_c10_year_103 : gD b_c10_year 103 (.istore_n 3) 1 104 := ⟨by decide +kernel, rfl⟩
theorem d_c10_year_104 : gD b_c10_year 104 (.iinc 5 1) 3 107 := ⟨by decide +kernel, rfl⟩
theorem d_c10_year_107 : gJ b_c10_year 107 (.goto (-64)) 3 (-64) 110 43 := ⟨by decide +kernel, rfl, by decide⟩
theorem d_c10_year_110 : gD b_c10_year 110 (.aload_n 0) 1 111 := ⟨by decide +kernel, rfl⟩
theorem d_c10_year_111 : gD b_c10_year 111 (.getfield 10) 3 114 := ⟨by decide +kernel, rfl⟩
theorem d_c10_year_114 : gD b_c10_year 114 (.iconst 0) 1 115 := ⟨by decide +kernel, rfl⟩
theorem d_c10_year_115 : gD b_c10_year 115 (.invokevirtual 104) 3 118 := ⟨by decide +kernel, rfl⟩
theorem d_c10_year_118 : gD b_c10_year 118 .pop 1 119 := ⟨by decide +kernel, rfl⟩
theorem d_c10_year_119 : gD b_c10_year 119 (.iload_n 2) 1 120 := ⟨by decide +kernel, rfl⟩
theorem d_c10_year_120 : gJ b_c10_year 120 (.ifCond .le 14) 3 14 123 134 := ⟨by decide +kernel, rfl, by decide⟩
theorem d_c10_year_123 : gD b_c10_year 123 (.aload_n 0) 1 124 := ⟨by decide +kernel, rfl⟩
theorem d_c10_year_124 : gD b_c10_year 124 (.getfield 53) 3 127 := ⟨by decide +kernel, rfl⟩
theorem d_c10_year_127 : gD b_c10_year 127 (.aload_n 0) 1 128 := ⟨by decide +kernel, rfl⟩
theorem d_c10_year_128 : gD b_c10_year 128 (.getfield 37) 3 131 := ⟨by decide +kernel, rfl⟩
theorem d_c10_year_131 : gD b_c10_year 131 (.invokevirtual 199) 3 134 := ⟨by decide +kernel, rfl⟩
theorem d_c10_year_134 : gD b_c10_year 134 (.aload_n 0) 1 135 := ⟨by decide +kernel, rfl⟩
theorem d_c10_year_135 : gD b_c10_year 135 (.iload_n 2) 1 136 := ⟨by decide +kernel, rfl⟩
theorem d_c10_year_136 : gD b_c10_year 136 (.iload 4) 2 138 := ⟨by decide +kernel, rfl⟩
theorem d_c10_year_138 : gJ b_c10_year 138 (.ifCond .eq 7) 3 7 141 145 := ⟨by decide +kernel, rfl, by decide⟩
theorem d_c10_year_141 : gD b_c10_year 141 (.lconst 1) 1 142 := ⟨by decide +kernel, rfl⟩
theorem d_c10_year_142 : gJ b_c10_year 142 (.goto 4) 3 4 145 146 := ⟨by decide +kernel, rfl, by decide⟩
theorem d_c10_year_145 : gD b_c10_year 145 (.lconst 0) 1 146 := ⟨by decide +kernel, rfl⟩
theorem d_c10_year_146 : gD b_c10_year 146 (.aload_n 0) 1 147 := ⟨by decide +kernel, rfl⟩
theorem d_c10_year_147 : gD b_c10_year 147 (.getfield 33) 3 150 := ⟨by decide +kernel, rfl⟩
theorem d_c10_year_150 : gD b_c10_year 150 (.invokevirtual 192) 3 153 := ⟨by decide +kernel, rfl⟩
theorem d_c10_year_153 : gD b_c10_year 153 .i2l 1 154 := ⟨by decide +kernel, rfl⟩
theorem d_c10_year_154 : gD b_c10_year 154 (.invokevirtual 205) 3 157 := ⟨by decide +kernel, rfl⟩
theorem d_c10_year_157 : gD b_c10_year 157 .ireturn 1 158 := ⟨by decide +kernel, rfl⟩
def lp_c10_year_43 (N : Nat) (a0 : Nat) : Nat → Int32 → Int32 → Int32 → Int32 → gH → Option (Int32 × Int32 × gH)
  | 0, _, _, _, _, _ => none
  | k + 1, x2, x3, x4, x5, h =>
  if (60 : Int32) ≤ x5 then
    some (x2, x4, h)
  else
    (gfR h a0 10 0).bind fun v7 =>
    (gfI h v7 8 1).bind fun v8 =>
    if v8 ≤ x3 then
    some (x2, x4, h)
  else
    if x4 = 0 then
    (f_c10_act N a0 x3 h).bind fun q11 =>
    (show Option (Int32 × Int32 × Int32) from if 0 ≤ q11.1 then
    (gfR q11.2 a0 10 0).bind fun v15 =>
    (f_c8_at N v15 x3 (60 : Int32) q11.2).bind fun q16 =>
    (f_c10_shape N q16 q11.2).bind fun q17 =>
    (f_jString_length N q17 q11.2).bind fun q18 =>
    some (x2 + (1 : Int32), x3 + ((1 : Int32) + q18), x4)
  else
    some (x2, x3, (1 : Int32))).bind fun t13 =>
    lp_c10_year_43 N a0 k t13.1 t13.2.1 t13.2.2 (x5 + (1 : Int32)) q11.2
  else
    some (x2, x4, h)
def f_c10_year (N : Nat) (a0 : Nat) (h : gH) : Option (Int32 × gH) :=
  (gcl h a0 10).bind fun _ =>
  (f_c10_faultInYear N a0 h).bind fun q1 =>
    if q1 < 0 then
    (gfR h a0 10 4).bind fun v3 =>
    (gfR h a0 10 3).bind fun v4 =>
    (f_c7_take N v3 v4 h).bind fun q5 =>
    (lp_c10_year_43 N a0 N (0 : Int32) (0 : Int32) (0 : Int32) (0 : Int32) q5).bind fun o19 =>
    (gfR o19.2.2 a0 10 0).bind fun v20 =>
    (f_c8_cutTo N v20 (0 : Int32) o19.2.2).bind fun q21 =>
    (show Option (gH) from if o19.1 ≤ 0 then
    some q21.2
  else
    (gfR q21.2 a0 10 7).bind fun v31 =>
    (gfR q21.2 a0 10 4).bind fun v32 =>
    (f_c5_push N v31 v32 q21.2).bind fun q33 =>
    some q33).bind fun t23 =>
    (gfR t23 a0 10 3).bind fun v28 =>
    (f_c7_waterOfAll N v28 t23).bind fun q29 =>
    (f_c10_tellTwo N a0 o19.1 (if o19.2.1 = 0 then (0 : Int64) else (1 : Int64)) q29.toInt64 t23).bind fun q30 =>
    some (q30.1, q30.2)
  else
    (gfR h a0 10 0).bind fun v34 =>
    (f_c8_cutTo N v34 (0 : Int32) h).bind fun q35 =>
    some ((-1 : Int32) - q1, q35.2)
set_option maxHeartbeats 4000000 in
set_option maxRecDepth 100000 in
theorem wlp_c10_year_43 {M : gM} {X : gX} {N : Nat} (hx : gEx X = false) (K : gC M X gN10 b_c10_year 6 (gRm (7 + N) 0 0)) (a0 : Nat) : ∀ (k : Nat) (x2 : Int32) (x3 : Int32) (x4 : Int32) (x5 : Int32) (h : gH) (o : Int32 × Int32 × gH), lp_c10_year_43 N a0 k x2 x3 x4 x5 h = some o → gG M X 6 0 0 110 [(0, .ref a0), (2, .int o.1), (4, .int o.2.1)] [] o.2.2 → gG M X 6 0 0 43 [(0, .ref a0), (2, .int x2), (3, .int x3), (4, .int x4), (5, .int x5)] [] h := by
  intro k
  induction k with
  | zero =>
    intro x2 x3 x4 x5 h o hy
    rw [lp_c10_year_43.eq_1] at hy
    cases hy
  | succ k ih =>
    intro x2 x3 x4 x5 h o hy hE
    rw [lp_c10_year_43.eq_2] at hy
    refine g_iload K d_c10_year_43 4 rfl ?_
    refine g_bipush (v := 60) K d_c10_year_45 (by decide) ?_
    refine g_icmp_ge K d_c10_year_47 (fun c6 => ?_) (fun c6 => ?_)
    · rw [if_pos c6] at hy
      refine g_sub (ls2 := [(0, .ref a0), (2, .int x2), (4, .int x4)]) [0, 1, 3] rfl ?_
      obtain rfl := Option.some.inj hy
      exact hE
    · rw [if_neg c6] at hy
      refine g_iload_n K d_c10_year_50 2 rfl ?_
      refine g_aload_n K d_c10_year_51 0 rfl ?_
      obtain ⟨v7, e_v7, hy⟩ := gBd hy
      refine g_getR K fl_c10_10 d_c10_year_52 e_v7 ?_
      obtain ⟨v8, e_v8, hy⟩ := gBd hy
      refine g_getI K fl_c10_100 d_c10_year_55 e_v8 ?_
      refine g_icmp_ge K d_c10_year_58 (fun c9 => ?_) (fun c9 => ?_)
      · rw [if_pos c9] at hy
        refine g_sub (ls2 := [(0, .ref a0), (2, .int x2), (4, .int x4)]) [0, 1, 3] rfl ?_
        obtain rfl := Option.some.inj hy
        exact hE
      · rw [if_neg c9] at hy
        refine g_iload K d_c10_year_61 3 rfl ?_
        refine g_if_ne K d_c10_year_63 (fun c10 => ?_) (fun c10 => ?_)
        · rw [if_neg c10] at hy
          refine g_sub (ls2 := [(0, .ref a0), (2, .int x2), (4, .int x4)]) [0, 1, 3] rfl ?_
          obtain rfl := Option.some.inj hy
          exact hE
        · rw [if_pos c10] at hy
          refine g_aload_n K d_c10_year_66 0 rfl ?_
          refine g_iload_n K d_c10_year_67 2 rfl ?_
          obtain ⟨q11, e_q11, hy⟩ := gBd hy
          refine g_callVi (rest := []) K hx ly_c10_act kv_c10_234 d_c10_year_68 (ct_c10_act M.2.1 X hx N a0 x3 h q11 e_q11) rfl rfl (Nat.le_of_ble_eq_true rfl) (gDep rfl) ⟨Nat.le_refl 0, Nat.le_refl 0⟩ ?_
          obtain ⟨t13, e_t13, hy⟩ := gBd hy
          have hJ14 : gG M X 6 0 0 104 [(0, .ref a0), (2, .int t13.1), (3, .int t13.2.1), (4, .int t13.2.2), (5, .int x5)] [] q11.2 := by
            refine g_iinc (ls2 := [(5, .int (x5 + (1 : Int32))), (0, .ref a0), (2, .int t13.1), (3, .int t13.2.1), (4, .int t13.2.2)]) (v := 1) K d_c10_year_104 4 rfl (by decide) rfl rfl ?_
            refine g_goto K d_c10_year_107 ?_
            refine g_sub (ls2 := [(0, .ref a0), (2, .int t13.1), (3, .int t13.2.1), (4, .int t13.2.2), (5, .int (x5 + (1 : Int32)))]) [1, 2, 3, 4, 0] rfl ?_
            exact ih _ _ _ _ _ _ hy hE
          refine g_if_ge K d_c10_year_71 (fun c12 => ?_) (fun c12 => ?_)
          · rw [if_pos c12] at e_t13
            refine g_iinc (ls2 := [(2, .int (x2 + (1 : Int32))), (0, .ref a0), (3, .int x3), (4, .int x4), (5, .int x5)]) (v := 1) K d_c10_year_80 1 rfl (by decide) rfl rfl ?_
            refine g_iload_n K d_c10_year_83 2 rfl ?_
            refine g_iconst (v := 1) K d_c10_year_84 (by decide) ?_
            refine g_aload_n K d_c10_year_85 1 rfl ?_
            obtain ⟨v15, e_v15, e_t13⟩ := gBd e_t13
            refine g_getR K fl_c10_10 d_c10_year_86 e_v15 ?_
            refine g_iload_n K d_c10_year_89 2 rfl ?_
            refine g_bipush (v := 60) K d_c10_year_90 (by decide) ?_
            obtain ⟨q16, e_q16, e_t13⟩ := gBd e_t13
            refine g_callVi (rest := [.int (1 : Int32), .int x3]) K hx ly_c8_at kv_c10_237 d_c10_year_92 (ct_c8_at M.2.1 X hx N v15 x3 (60 : Int32) q11.2 q16 e_q16) rfl rfl (Nat.le_of_ble_eq_true rfl) (gDep rfl) ⟨Nat.le_refl 0, Nat.le_refl 0⟩ ?_
            obtain ⟨q17, e_q17, e_t13⟩ := gBd e_t13
            refine g_callSr (rest := [.int (1 : Int32), .int x3]) K hx ly_c10_shape ks_c10_240 d_c10_year_95 (ct_c10_shape M.2.1 X hx N q16 q11.2 q17 e_q17) rfl rfl (Nat.le_of_ble_eq_true rfl) (gDep rfl) ⟨Nat.le_refl 0, Nat.le_refl 0⟩ ?_
            obtain ⟨q18, e_q18, e_t13⟩ := gBd e_t13
            refine g_callVi (rest := [.int (1 : Int32), .int x3]) K hx ly_jString_length kv_c10_244 d_c10_year_98 (ct_jString_length M.2.1 X hx N q17 q11.2 q18 e_q18) rfl rfl (Nat.le_of_ble_eq_true rfl) (gDep rfl) ⟨Nat.le_refl 0, Nat.le_refl 0⟩ ?_
            refine g_iadd K d_c10_year_101 ?_
            refine g_iadd K d_c10_year_102 ?_
            refine g_istore_n (ls2 := [(3, .int (x3 + ((1 : Int32) + q18))), (2, .int (x2 + (1 : Int32))), (0, .ref a0), (4, .int x4), (5, .int x5)]) K d_c10_year_103 rfl rfl ?_
            refine g_sub (ls2 := [(0, .ref a0), (2, .int (x2 + (1 : Int32))), (3, .int (x3 + ((1 : Int32) + q18))), (4, .int x4), (5, .int x5)]) [2, 1, 0, 3, 4] rfl ?_
            obtain rfl := Option.some.inj e_t13
            exact hJ14
          · rw [if_neg c12] at e_t13
            refine g_iconst (v := 1) K d_c10_year_74 (by decide) ?_
            refine g_istore (ls2 := [(4, .int (1 : Int32)), (0, .ref a0), (2, .int x2), (3, .int x3), (5, .int x5)]) K d_c10_year_75 rfl rfl ?_
            refine g_goto K d_c10_year_77 ?_
            refine g_sub (ls2 := [(0, .ref a0), (2, .int x2), (3, .int x3), (4, .int (1 : Int32)), (5, .int x5)]) [1, 2, 3, 0, 4] rfl ?_
            obtain rfl := Option.some.inj e_t13
            exact hJ14
set_option maxHeartbeats 4000000 in
set_option maxRecDepth 100000 in
theorem ct_c10_year (l : Launch) (X : gX) (hx : gEx X = false) (N : Nat) (a0 : Nat) (h : gH) (q : Int32 × gH) (hy : f_c10_year N a0 h = some q) : gRc y_c10_year h a0 ∧ gMi l X y_c10_year b_c10_year 6 .int (7 + N) 0 0 [.ref a0] h q.1 q.2 := by
  unfold f_c10_year at hy
  obtain ⟨u0, e_u0, hy⟩ := gBd hy
  cases u0
  refine ⟨Or.inl ⟨10, _, _, e_u0, rfl⟩, gMet_i (lsx := [(0, .ref a0)]) (by decide) rfl rfl ?_⟩
  intro M hMl K hret
  subst hMl
  refine g_aload_n K d_c10_year_0 0 rfl ?_
  obtain ⟨q1, e_q1, hy⟩ := gBd hy
  refine g_callVi (rest := []) K hx ly_c10_faultInYear kv_c10_231 d_c10_year_1 (ct_c10_faultInYear M.2.1 X hx N a0 h q1 e_q1) rfl rfl (Nat.le_of_ble_eq_true rfl) (gDep rfl) ⟨Nat.le_refl 0, Nat.le_refl 0⟩ ?_
  refine g_istore_n (ls2 := [(1, .int q1), (0, .ref a0)]) K d_c10_year_4 rfl rfl ?_
  refine g_iload_n K d_c10_year_5 0 rfl ?_
  refine g_if_lt K d_c10_year_6 (fun c2 => ?_) (fun c2 => ?_)
  · rw [if_pos c2] at hy
    refine g_aload_n K d_c10_year_22 1 rfl ?_
    obtain ⟨v3, e_v3, hy⟩ := gBd hy
    refine g_getR K fl_c10_37 d_c10_year_23 e_v3 ?_
    refine g_aload_n K d_c10_year_26 1 rfl ?_
    obtain ⟨v4, e_v4, hy⟩ := gBd hy
    refine g_getR K fl_c10_33 d_c10_year_27 e_v4 ?_
    obtain ⟨q5, e_q5, hy⟩ := gBd hy
    refine g_callVv (rest := []) K hx ly_c7_take kv_c10_124 d_c10_year_30 (ct_c7_take M.2.1 X hx N v3 v4 h q5 e_q5) rfl rfl (Nat.le_of_ble_eq_true rfl) (gDep rfl) ⟨Nat.le_refl 0, Nat.le_refl 0⟩ ?_
    refine g_iconst (v := 0) K d_c10_year_33 (by decide) ?_
    refine g_istore_n (ls2 := [(2, .int (0 : Int32)), (1, .int q1), (0, .ref a0)]) K d_c10_year_34 rfl rfl ?_
    refine g_iconst (v := 0) K d_c10_year_35 (by decide) ?_
    refine g_istore_n (ls2 := [(3, .int (0 : Int32)), (2, .int (0 : Int32)), (1, .int q1), (0, .ref a0)]) K d_c10_year_36 rfl rfl ?_
    refine g_iconst (v := 0) K d_c10_year_37 (by decide) ?_
    refine g_istore (ls2 := [(4, .int (0 : Int32)), (3, .int (0 : Int32)), (2, .int (0 : Int32)), (1, .int q1), (0, .ref a0)]) K d_c10_year_38 rfl rfl ?_
    refine g_iconst (v := 0) K d_c10_year_40 (by decide) ?_
    refine g_istore (ls2 := [(5, .int (0 : Int32)), (4, .int (0 : Int32)), (3, .int (0 : Int32)), (2, .int (0 : Int32)), (1, .int q1), (0, .ref a0)]) K d_c10_year_41 rfl rfl ?_
    obtain ⟨o19, e_o19, hy⟩ := gBd hy
    refine g_sub (ls2 := [(0, .ref a0), (2, .int (0 : Int32)), (3, .int (0 : Int32)), (4, .int (0 : Int32)), (5, .int (0 : Int32))]) [5, 3, 2, 1, 0] rfl ?_
    refine wlp_c10_year_43 hx K a0 N (0 : Int32) (0 : Int32) (0 : Int32) (0 : Int32) q5 o19 e_o19 ?_
    refine g_aload_n K d_c10_year_110 0 rfl ?_
    obtain ⟨v20, e_v20, hy⟩ := gBd hy
    refine g_getR K fl_c10_10 d_c10_year_111 e_v20 ?_
    refine g_iconst (v := 0) K d_c10_year_114 (by decide) ?_
    obtain ⟨q21, e_q21, hy⟩ := gBd hy
    refine g_callVi (rest := []) K hx ly_c8_cutTo kv_c10_104 d_c10_year_115 (ct_c8_cutTo M.2.1 X hx N v20 (0 : Int32) o19.2.2 q21 e_q21) rfl rfl (Nat.le_of_ble_eq_true rfl) (gDep rfl) ⟨Nat.le_refl 0, Nat.le_refl 0⟩ ?_
    refine g_pop K d_c10_year_118 rfl ?_
    refine g_iload_n K d_c10_year_119 1 rfl ?_
    obtain ⟨t23, e_t23, hy⟩ := gBd hy
    have hJ24 : gG M X 6 0 0 134 [(0, .ref a0), (2, .int o19.1), (4, .int o19.2.1)] [] t23 := by
      refine g_aload_n K d_c10_year_134 0 rfl ?_
      refine g_iload_n K d_c10_year_135 1 rfl ?_
      refine g_iload K d_c10_year_136 2 rfl ?_
      have hJ27 : ∀ w26 : Int64, w26 = (if o19.2.1 = 0 then (0 : Int64) else (1 : Int64)) → gG M X 6 0 0 146 [(0, .ref a0), (2, .int o19.1), (4, .int o19.2.1)] [.long w26, .int o19.1, .ref a0] t23 := by
        intro w26 e_w26
        subst e_w26
        refine g_aload_n K d_c10_year_146 0 rfl ?_
        obtain ⟨v28, e_v28, hy⟩ := gBd hy
        refine g_getR K fl_c10_33 d_c10_year_147 e_v28 ?_
        obtain ⟨q29, e_q29, hy⟩ := gBd hy
        refine g_callVi (rest := [.long (if o19.2.1 = 0 then (0 : Int64) else (1 : Int64)), .int o19.1, .ref a0]) K hx ly_c7_waterOfAll kv_c10_192 d_c10_year_150 (ct_c7_waterOfAll M.2.1 X hx N v28 t23 q29 e_q29) rfl rfl (Nat.le_of_ble_eq_true rfl) (gDep rfl) ⟨Nat.le_refl 0, Nat.le_refl 0⟩ ?_
        refine g_i2l K d_c10_year_153 ?_
        obtain ⟨q30, e_q30, hy⟩ := gBd hy
        refine g_callVi (rest := []) K hx ly_c10_tellTwo kv_c10_205 d_c10_year_154 (ct_c10_tellTwo M.2.1 X hx N a0 o19.1 (if o19.2.1 = 0 then (0 : Int64) else (1 : Int64)) q29.toInt64 t23 q30 e_q30) rfl rfl (Nat.le_of_ble_eq_true rfl) (gDep rfl) ⟨Nat.le_refl 0, Nat.le_refl 0⟩ ?_
        obtain rfl := Option.some.inj hy
        exact hret rfl _ _ _ d_c10_year_157
      refine g_if_eq K d_c10_year_138 (fun c25 => ?_) (fun c25 => ?_)
      · refine g_lconst (v := 0) K d_c10_year_145 (by decide) ?_
        exact hJ27 _ (by rw [if_pos c25])
      · refine g_lconst (v := 1) K d_c10_year_141 (by decide) ?_
        refine g_goto K d_c10_year_142 ?_
        exact hJ27 _ (by rw [if_neg c25])
    refine g_if_le K d_c10_year_120 (fun c22 => ?_) (fun c22 => ?_)
    · rw [if_pos c22] at e_t23
      obtain rfl := Option.some.inj e_t23
      exact hJ24
    · rw [if_neg c22] at e_t23
      refine g_aload_n K d_c10_year_123 0 rfl ?_
      obtain ⟨v31, e_v31, e_t23⟩ := gBd e_t23
      refine g_getR K fl_c10_53 d_c10_year_124 e_v31 ?_
      refine g_aload_n K d_c10_year_127 0 rfl ?_
      obtain ⟨v32, e_v32, e_t23⟩ := gBd e_t23
      refine g_getR K fl_c10_37 d_c10_year_128 e_v32 ?_
      obtain ⟨q33, e_q33, e_t23⟩ := gBd e_t23
      refine g_callVv (rest := []) K hx ly_c5_push kv_c10_199 d_c10_year_131 (ct_c5_push M.2.1 X hx N v31 v32 q21.2 q33 e_q33) rfl rfl (Nat.le_of_ble_eq_true rfl) (gDep rfl) ⟨Nat.le_refl 0, Nat.le_refl 0⟩ ?_
      obtain rfl := Option.some.inj e_t23
      exact hJ24
  · rw [if_neg c2] at hy
    refine g_aload_n K d_c10_year_9 1 rfl ?_
    obtain ⟨v34, e_v34, hy⟩ := gBd hy
    refine g_getR K fl_c10_10 d_c10_year_10 e_v34 ?_
    refine g_iconst (v := 0) K d_c10_year_13 (by decide) ?_
    obtain ⟨q35, e_q35, hy⟩ := gBd hy
    refine g_callVi (rest := []) K hx ly_c8_cutTo kv_c10_104 d_c10_year_14 (ct_c8_cutTo M.2.1 X hx N v34 (0 : Int32) h q35 e_q35) rfl rfl (Nat.le_of_ble_eq_true rfl) (gDep rfl) ⟨Nat.le_refl 0, Nat.le_refl 0⟩ ?_
    refine g_pop K d_c10_year_17 rfl ?_
    refine g_iconst (v := (-1)) K d_c10_year_18 (by decide) ?_
    refine g_iload_n K d_c10_year_19 0 rfl ?_
    refine g_isub K d_c10_year_20 ?_
    obtain rfl := Option.some.inj hy
    exact hret rfl _ _ _ d_c10_year_21
-- c11 asks
theorem d_c11_asks_0 : gD b_c11_asks 0 (.aload_n 0) 1 1 := ⟨by decide +kernel, rfl⟩
theorem d_c11_asks_1 : gD b_c11_asks 1 (.iconst 0) 1 2 := ⟨by decide +kernel, rfl⟩
theorem d_c11_asks_2 : gD b_c11_asks 2 (.putfield 95) 3 5 := ⟨by decide +kernel, rfl⟩
theorem d_c11_asks_5 : gD b_c11_asks 5 (.aload_n 0) 1 6 := ⟨by decide +kernel, rfl⟩
theorem d_c11_asks_6 : gD b_c11_asks 6 (.invokevirtual 348) 3 9 := ⟨by decide +kernel, rfl⟩
theorem d_c11_asks_9 : gD b_c11_asks 9 (.istore_n 1) 1 10 := ⟨by decide +kernel, rfl⟩
theorem d_c11_asks_10 : gD b_c11_asks 10 (.iload_n 1) 1 11 := ⟨by decide +kernel, rfl⟩
theorem d_c11_asks_11 : gJ b_c11_asks 11 (.ifCond .ne 6) 3 6 14 17 := ⟨by decide +kernel, rfl, by decide⟩
theorem d_c11_asks_14 : gD b_c11_asks 14 (.bipush (-2)) 2 16 := ⟨by decide +kernel, rfl⟩
theorem d_c11_asks_16 : gD b_c11_asks 16 .ireturn 1 17 := ⟨by decide +kernel, rfl⟩
theorem d_c11_asks_17 : gD b_c11_asks 17 (.iconst (-1)) 1 18 := ⟨by decide +kernel, rfl⟩
theorem d_c11_asks_18 : gD b_c11_asks 18 (.istore_n 2) 1 19 := ⟨by decide +kernel, rfl⟩
theorem d_c11_asks_19 : gD b_c11_asks 19 (.ldc_w 311) 3 22 := ⟨by decide +kernel, rfl⟩
theorem d_c11_asks_22 : gD b_c11_asks 22 (.istore_n 3) 1 23 := ⟨by decide +kernel, rfl⟩
theorem d_c11_asks_23 : gD b_c11_asks 23 (.iconst 1) 1 24 := ⟨by decide +kernel, rfl⟩
theorem d_c11_asks_24 : gD b_c11_asks 24 (.istore 4) 2 26 := ⟨by decide +kernel, rfl⟩
theorem d_c11_asks_26 : gD b_c11_asks 26 (.iload 4) 2 28 := ⟨by decide +kernel, rfl⟩
theorem d_c11_asks_28 : gD b_c11_asks 28 (.bipush 36) 2 30 := ⟨by decide +kernel, rfl⟩
theorem d_c11_asks_30 : gJ b_c11_asks 30 (.if_icmp .ge 115) 3 115 33 145 := ⟨by decide +kernel, rfl, by decide⟩
theorem d_c11_asks_33 : gD b_c11_asks 33 (.iload 4) 2 35 := ⟨by decide +kernel, rfl⟩
theorem d_c11_asks_35 : gD b_c11_asks 35 (.bipush 12) 2 37 := ⟨by decide +kernel, rfl⟩
theorem d_c11_asks_37 : gD b_c11_asks 37 (.bipush 29) 2 39 := ⟨by decide +kernel, rfl⟩
theorem d_c11_asks_39 : gD b_c11_asks 39 (.invokestatic 105) 3 42 := ⟨by decide +kernel, rfl⟩
theorem d_c11_asks_42 : gJ b_c11_asks 42 (.ifCond .eq 6) 3 6 45 48 := ⟨by decide +kernel, rfl, by decide⟩
theorem d_c11_asks_45 : gJ b_c11_asks 45 (.goto 94) 3 94 48 139 := ⟨by decide +kernel, rfl, by decide⟩
theorem d_c11_asks_48 : gD b_c11_asks 48 (.iconst 0) 1 49 := ⟨by decide +kernel, rfl⟩
theorem d_c11_asks_49 : gD b_c11_asks 49 (.istore 5) 2 51 := ⟨by decide +kernel, rfl⟩
theorem d_c11_asks_51 : gD b_c11_asks 51 (.iconst 0) 1 52 := ⟨by decide +kernel, rfl⟩
theorem d_c11_asks_52 : gD b_c11_asks 52 (.istore 6) 2 54 := ⟨by decide +kernel, rfl⟩
theorem d_c11_asks_54 : gD b_c11_asks 54 (.iload 6) 2 56 := ⟨by decide +kernel, rfl⟩
theorem d_c11_asks_56 : gD b_c11_asks 56 (.aload_n 0) 1 57 := ⟨by decide +kernel, rfl⟩
theorem d_c11_asks_57 : gD b_c11_asks 57 (.getfield 9) 3 60 := ⟨by decide +kernel, rfl⟩
theorem d_c11_asks_60 : gD b_c11_asks 60 (.bipush 40) 2 62 := ⟨by decide +kernel, rfl⟩
theorem d_c11_asks_62 : gD b_c11_asks 62 .iaload 1 63 := ⟨by decide +kernel, rfl⟩
theorem d_c11_asks_63 : gJ b_c11_asks 63 (.if_icmp .ge 47) 3 47 66 110 := ⟨by decide +kernel, rfl, by decide⟩
theorem d_c11_asks_66 : gD b_c11_asks 66 (.iload 5) 2 68 := ⟨by decide +kernel, rfl⟩
theorem d_c11_asks_68 : gD b_c11_asks 68 (.iload_n 1) 1 69 := ⟨by decide +kernel, rfl⟩
theorem d_c11_asks_69 : gD b_c11_asks 69 (.iload 6) 2 71 := ⟨by decide +kernel, rfl⟩
theorem d_c11_asks_71 : gD b_c11_asks 71 (.invokestatic 342) 3 74 := ⟨by decide +kernel, rfl⟩
theorem d_c11_asks_74 : gJ b_c11_asks 74 (.ifCond .eq 26) 3 26 77 100 := ⟨by decide +kernel, rfl, by decide⟩
theorem d_c11_asks_77 : gD b_c11_asks 77 (.aload_n 0) 1 78 := ⟨by decide +kernel, rfl⟩
theorem d_c11_asks_78 : gD b_c11_asks 78 (.iload 6) 2 80 := ⟨by decide +kernel, rfl⟩
theorem d_c11_asks_80 : gD b_c11_asks 80 (.iload 4) 2 82 := ⟨by decide +kernel, rfl⟩
theorem d_c11_asks_82 : gD b_c11_asks 82 (.bipush 10) 2 84 := ⟨by decide +kernel, rfl⟩
theorem d_c11_asks_84 : gD b_c11_asks 84 .idiv 1 85 := ⟨by decide +kernel, rfl⟩
theorem d_c11_asks_85 : gD b_c11_asks 85 (.iload 4) 2 87 := ⟨by decide +kernel, rfl⟩
theorem d_c11_asks_87 : gD b_c11_asks 87 (.bipush 10) 2 89 := ⟨by decide +kernel, rfl⟩
theorem d_c11_asks_89 : gD b_c11_asks 89 .irem 1 90 := ⟨by decide +kernel, rfl⟩
theorem d_c11_asks_90 : gD b_c11_asks 90 (.invokevirtual 345) 3 93 := ⟨by decide +kernel, rfl⟩
theorem d_c11_asks_93 : gJ b_c11_asks 93 (.ifCond .eq 7) 3 7 96 100 := ⟨by decide +kernel, rfl, by decide⟩
theorem d_c11_asks_96 : gD b_c11_asks 96 (.iconst 1) 1 97 := ⟨by decide +kernel, rfl⟩
theorem d_c11_asks_97 : gJ b_c11_asks 97 (.goto 4) 3 4 100 101 := ⟨by decide +kernel, rfl, by decide⟩
theorem d_c11_asks_100 : gD b_c11_asks 100 (.iconst 0) 1 101 := ⟨by decide +kernel, rfl⟩
theorem d_c11_asks_101 : gD b_c11_asks 101 .iadd 1 102 := ⟨by decide +kernel, rfl⟩
theorem d_c11_asks_102 : gD b_c11_asks 102 (.istore 5) 2 104 := ⟨by decide +kernel, rfl⟩
theorem d_c11_asks_104 : gD b_c11_asks 104 (.iinc 6 1) 3 107 := ⟨by decide +kernel, rfl⟩
theorem d_c11_asks_107 : gJ b_c11_asks 107 (.goto (-53)) 3 (-53) 110 54 := ⟨by decide +kernel, rfl, by decide⟩
theorem d_c11_asks_110 : gD b_c11_asks 110 (.iload 5) 2 112 := ⟨by decide +kernel, rfl⟩
theorem d_c11_asks_112 : gD b_c11_asks 112 (.iload_n 1) 1 113 := ⟨by decide +kernel, rfl⟩
theorem d_c11_asks_113 : gD b_c11_asks 113 (.invokestatic 275) 3 116 := ⟨by decide +kernel, rfl⟩
theorem d_c11_asks_116 : gD b_c11_asks 116 (.iload 5) 2 118 := ⟨by decide +kernel, rfl⟩
theorem d_c11_asks_118 : gD b_c11_asks 118 .isub 1 119 := ⟨by decide +kernel, rfl⟩
theorem d_c11_asks_119 : gD b_c11_asks 119 (.invokestatic 227) 3 122 := ⟨by decide +kernel, rfl⟩
theorem d_c11_asks_122 : gD b_c11_asks 122 (.istore 6) 2 124 := ⟨by decide +kernel, rfl⟩
theorem d_c11_asks_124 : gD b_c11_asks 124 (.iload 6) 2 126 := ⟨by decide +kernel, rfl⟩
theorem d_c11_asks_126 : gD b_c11_asks 126 (.iload_n 3) 1 127 := ⟨by decide +kernel, rfl⟩
theorem d_c11_asks_127 : gJ b_c11_asks 127 (.if_icmp .lt 6) 3 6 130 133 := ⟨by decide +kernel, rfl, by decide⟩
theorem d_c11_asks_130 : gJ b_c11_asks 130 (.goto 9) 3 9 133 139 := ⟨by decide +kernel, rfl, by decide⟩
theorem d_c11_asks_133 : gD b_c11_asks 133 (.iload 4) 2 135 := ⟨by decide +kernel, rfl⟩
theorem d_c11_asks_135 : gD b_c11_asks 135 (.istore_n 2) 1 136 := ⟨by decide +kernel, rfl⟩
theorem d_c11_asks_136 : gD b_c11_asks 136 (.iload 6) 2 138 := ⟨by decide +kernel, rfl⟩
theorem d_c11_asks_138 : gD b_c11_asks 138 (.istore_n 3) 1 139 := ⟨by decide +kernel, rfl⟩
theorem d_c11_asks_139 : gD b_c11_asks 139 (.iinc 4 1) 3 142 := ⟨by decide +kernel, rfl⟩
theorem d_c11_asks_142 : gJ b_c11_asks 142 (.goto (-116)) 3 (-116) 145 26 := ⟨by decide +kernel, rfl, by decide⟩
theorem d_c11_asks_145 : gD b_c11_asks 145 (.aload_n 0) 1 146 := ⟨by decide +kernel, rfl⟩
theorem d_c11_asks_146 : gD b_c11_asks 146 (.iconst 0) 1 147 := ⟨by decide +kernel, rfl⟩
theorem d_c11_asks_147 : gD b_c11_asks 147 (.putfield 98) 3 150 := ⟨by decide +kernel, rfl⟩
theorem d_c11_asks_150 : gD b_c11_asks 150 (.aload_n 0) 1 151 := ⟨by decide +kernel, rfl⟩
theorem d_c11_asks_151 : gD b_c11_asks 151 (.iload_n 3) 1 152 := ⟨by decide +kernel, rfl⟩
theorem d_c11_asks_152 : gD b_c11_asks 152 .i2l 1 153 := ⟨by decide +kernel, rfl⟩
theorem d_c11_asks_153 : gD b_c11_asks 153 (.invokevirtual 268) 3 156 := ⟨by decide +kernel, rfl⟩
theorem d_c11_asks_156 : gD b_c11_asks 156 (.iload_n 2) 1 157 := ⟨by decide +kernel, rfl⟩
theorem d_c11_asks_157 : gD b_c11_asks 157 .ireturn 1 158 := ⟨by decide +kernel, rfl⟩
def lp_c11_asks_54 (N : Nat) (a0 : Nat) (x1 : Int32) (x4 : Int32) (h : gH) : Nat → Int32 → Int32 → Option (Int32)
  | 0, _, _ => none
  | k + 1, x5, x6 =>
  (gfR h a0 11 0).bind fun v9 =>
    (ga 0 h v9 (40 : Int32)).bind fun v10 =>
    if v10 ≤ x6 then
    some x5
  else
    (f_c11_has N x1 x6 h).bind fun q12 =>
    (show Option (Int32) from if q12 = 0 then
    some (0 : Int32)
  else
    (gNZ (10 : Int32)).bind fun u16 =>
    (gNZ (10 : Int32)).bind fun u17 =>
    (f_c11_fits N a0 x6 (x4 / (10 : Int32)) (x4 - x4 / (10 : Int32) * (10 : Int32)) h).bind fun q18 =>
    if q18 = 0 then
    some (0 : Int32)
  else
    some (1 : Int32)).bind fun t14 =>
    lp_c11_asks_54 N a0 x1 x4 h k (x5 + t14) (x6 + (1 : Int32))
def lp_c11_asks_26 (N : Nat) (a0 : Nat) (x1 : Int32) (h : gH) : Nat → Int32 → Int32 → Int32 → Option (Int32 × Int32)
  | 0, _, _, _ => none
  | k + 1, x2, x3, x4 =>
  if (36 : Int32) ≤ x4 then
    some (x2, x3)
  else
    (f_c11_in N x4 (12 : Int32) (29 : Int32) h).bind fun q5 =>
    (show Option (Int32 × Int32) from if q5 = 0 then
    (lp_c11_asks_54 N a0 x1 x4 h N (0 : Int32) (0 : Int32)).bind fun o20 =>
    (f_jInteger_bitCount N x1 h).bind fun q21 =>
    if (gmax o20 (q21 - o20)) < x3 then
    some (x4, gmax o20 (q21 - o20))
  else
    some (x2, x3)
  else
    some (x2, x3)).bind fun t7 =>
    lp_c11_asks_26 N a0 x1 h k t7.1 t7.2 (x4 + (1 : Int32))
def f_c11_asks (N : Nat) (a0 : Nat) (h : gH) : Option (Int32 × gH) :=
  (gcl h a0 11).bind fun _ =>
  (sf h a0 11 10 (.int (0 : Int32))).bind fun h1 =>
    (f_c11_fitting N a0 h1).bind fun q2 =>
    if q2 = 0 then
    some ((-2 : Int32), h1)
  else
    (lp_c11_asks_26 N a0 q2 h1 N (-1 : Int32) (1000000 : Int32) (1 : Int32)).bind fun o23 =>
    (sf h1 a0 11 9 (.int (0 : Int32))).bind fun h24 =>
    (f_c11_tell N a0 o23.2.toInt64 h24).bind fun q25 =>
    some (o23.1, q25)
set_option maxHeartbeats 4000000 in
set_option maxRecDepth 100000 in
theorem wlp_c11_asks_54 {M : gM} {X : gX} {N : Nat} (hx : gEx X = false) (K : gC M X gN11 b_c11_asks 7 (gRm (7 + N) 0 0)) (a0 : Nat) (x1 : Int32) (x4 : Int32) (x2 : Int32) (x3 : Int32) (h : gH) : ∀ (k : Nat) (x5 : Int32) (x6 : Int32) (o : Int32), lp_c11_asks_54 N a0 x1 x4 h k x5 x6 = some o → gG M X 7 0 0 110 [(0, .ref a0), (1, .int x1), (2, .int x2), (3, .int x3), (4, .int x4), (5, .int o)] [] h → gG M X 7 0 0 54 [(0, .ref a0), (1, .int x1), (2, .int x2), (3, .int x3), (4, .int x4), (5, .int x5), (6, .int x6)] [] h := by
  intro k
  induction k with
  | zero =>
    intro x5 x6 o hy
    rw [lp_c11_asks_54.eq_1] at hy
    cases hy
  | succ k ih =>
    intro x5 x6 o hy hE
    rw [lp_c11_asks_54.eq_2] at hy
    refine g_iload K d_c11_asks_54 6 rfl ?_
    refine g_aload_n K d_c11_asks_56 0 rfl ?_
    obtain ⟨v9, e_v9, hy⟩ := gBd hy
    refine g_getR K fl_c11_9 d_c11_asks_57 e_v9 ?_
    refine g_bipush (v := 40) K d_c11_asks_60 (by decide) ?_
    obtain ⟨v10, e_v10, hy⟩ := gBd hy
    refine g_iald K d_c11_asks_62 e_v10 ?_
    refine g_icmp_ge K d_c11_asks_63 (fun c11 => ?_) (fun c11 => ?_)
    · rw [if_pos c11] at hy
      refine g_sub (ls2 := [(0, .ref a0), (1, .int x1), (2, .int x2), (3, .int x3), (4, .int x4), (5, .int x5)]) [0, 1, 2, 3, 4, 5] rfl ?_
      obtain rfl := Option.some.inj hy
      exact hE
    · rw [if_neg c11] at hy
      refine g_iload K d_c11_asks_66 5 rfl ?_
      refine g_iload_n K d_c11_asks_68 1 rfl ?_
      refine g_iload K d_c11_asks_69 6 rfl ?_
      obtain ⟨q12, e_q12, hy⟩ := gBd hy
      refine g_callSi (rest := [.int x5]) K hx ly_c11_has ks_c11_342 d_c11_asks_71 (ct_c11_has M.2.1 X hx N x1 x6 h q12 e_q12) rfl rfl (Nat.le_of_ble_eq_true rfl) (gDep rfl) ⟨Nat.le_refl 0, Nat.le_refl 0⟩ ?_
      obtain ⟨t14, e_t14, hy⟩ := gBd hy
      have hJ15 : gG M X 7 0 0 101 [(0, .ref a0), (1, .int x1), (2, .int x2), (3, .int x3), (4, .int x4), (6, .int x6)] [.int t14, .int x5] h := by
        refine g_iadd K d_c11_asks_101 ?_
        refine g_istore (ls2 := [(5, .int (x5 + t14)), (0, .ref a0), (1, .int x1), (2, .int x2), (3, .int x3), (4, .int x4), (6, .int x6)]) K d_c11_asks_102 rfl rfl ?_
        refine g_iinc (ls2 := [(6, .int (x6 + (1 : Int32))), (5, .int (x5 + t14)), (0, .ref a0), (1, .int x1), (2, .int x2), (3, .int x3), (4, .int x4)]) (v := 1) K d_c11_asks_104 6 rfl (by decide) rfl rfl ?_
        refine g_goto K d_c11_asks_107 ?_
        refine g_sub (ls2 := [(0, .ref a0), (1, .int x1), (2, .int x2), (3, .int x3), (4, .int x4), (5, .int (x5 + t14)), (6, .int (x6 + (1 : Int32)))]) [2, 3, 4, 5, 6, 1, 0] rfl ?_
        exact ih _ _ _ hy hE
      refine g_if_eq K d_c11_asks_74 (fun c13 => ?_) (fun c13 => ?_)
      · rw [if_pos c13] at e_t14
        refine g_iconst (v := 0) K d_c11_asks_100 (by decide) ?_
        refine g_sub (ls2 := [(0, .ref a0), (1, .int x1), (2, .int x2), (3, .int x3), (4, .int x4), (6, .int x6)]) [0, 1, 2, 3, 4, 6] rfl ?_
        obtain rfl := Option.some.inj e_t14
        exact hJ15
      · rw [if_neg c13] at e_t14
        refine g_aload_n K d_c11_asks_77 0 rfl ?_
        refine g_iload K d_c11_asks_78 6 rfl ?_
        refine g_iload K d_c11_asks_80 4 rfl ?_
        refine g_bipush (v := 10) K d_c11_asks_82 (by decide) ?_
        obtain ⟨u16, e_u16, e_t14⟩ := gBd e_t14
        refine g_idiv K d_c11_asks_84 e_u16 ?_
        refine g_iload K d_c11_asks_85 4 rfl ?_
        refine g_bipush (v := 10) K d_c11_asks_87 (by decide) ?_
        obtain ⟨u17, e_u17, e_t14⟩ := gBd e_t14
        refine g_irem K d_c11_asks_89 e_u17 ?_
        obtain ⟨q18, e_q18, e_t14⟩ := gBd e_t14
        refine g_callVi (rest := [.int x5]) K hx ly_c11_fits kv_c11_345 d_c11_asks_90 (ct_c11_fits M.2.1 X hx N a0 x6 (x4 / (10 : Int32)) (x4 - x4 / (10 : Int32) * (10 : Int32)) h q18 e_q18) rfl rfl (Nat.le_of_ble_eq_true rfl) (gDep rfl) ⟨Nat.le_refl 0, Nat.le_refl 0⟩ ?_
        refine g_if_eq K d_c11_asks_93 (fun c19 => ?_) (fun c19 => ?_)
        · rw [if_pos c19] at e_t14
          refine g_iconst (v := 0) K d_c11_asks_100 (by decide) ?_
          refine g_sub (ls2 := [(0, .ref a0), (1, .int x1), (2, .int x2), (3, .int x3), (4, .int x4), (6, .int x6)]) [0, 1, 2, 3, 4, 6] rfl ?_
          obtain rfl := Option.some.inj e_t14
          exact hJ15
        · rw [if_neg c19] at e_t14
          refine g_iconst (v := 1) K d_c11_asks_96 (by decide) ?_
          refine g_goto K d_c11_asks_97 ?_
          refine g_sub (ls2 := [(0, .ref a0), (1, .int x1), (2, .int x2), (3, .int x3), (4, .int x4), (6, .int x6)]) [0, 1, 2, 3, 4, 6] rfl ?_
          obtain rfl := Option.some.inj e_t14
          exact hJ15
set_option maxHeartbeats 4000000 in
set_option maxRecDepth 100000 in
theorem wlp_c11_asks_26 {M : gM} {X : gX} {N : Nat} (hx : gEx X = false) (K : gC M X gN11 b_c11_asks 7 (gRm (7 + N) 0 0)) (a0 : Nat) (x1 : Int32) (h : gH) : ∀ (k : Nat) (x2 : Int32) (x3 : Int32) (x4 : Int32) (o : Int32 × Int32), lp_c11_asks_26 N a0 x1 h k x2 x3 x4 = some o → gG M X 7 0 0 145 [(0, .ref a0), (2, .int o.1), (3, .int o.2)] [] h → gG M X 7 0 0 26 [(0, .ref a0), (1, .int x1), (2, .int x2), (3, .int x3), (4, .int x4)] [] h := by
  intro k
  induction k with
  | zero =>
    intro x2 x3 x4 o hy
    rw [lp_c11_asks_26.eq_1] at hy
    cases hy
  | succ k ih =>
    intro x2 x3 x4 o hy hE
    rw [lp_c11_asks_26.eq_2] at hy
    refine g_iload K d_c11_asks_26 4 rfl ?_
    refine g_bipush (v := 36) K d_c11_asks_28 (by decide) ?_
    refine g_icmp_ge K d_c11_asks_30 (fun c4 => ?_) (fun c4 => ?_)
    · rw [if_pos c4] at hy
      refine g_sub (ls2 := [(0, .ref a0), (2, .int x2), (3, .int x3)]) [0, 2, 3] rfl ?_
      obtain rfl := Option.some.inj hy
      exact hE
    · rw [if_neg c4] at hy
      refine g_iload K d_c11_asks_33 4 rfl ?_
      refine g_bipush (v := 12) K d_c11_asks_35 (by decide) ?_
      refine g_bipush (v := 29) K d_c11_asks_37 (by decide) ?_
      obtain ⟨q5, e_q5, hy⟩ := gBd hy
      refine g_callSi (rest := []) K hx ly_c11_in ks_c11_105 d_c11_asks_39 (ct_c11_in M.2.1 X hx N x4 (12 : Int32) (29 : Int32) h q5 e_q5) rfl rfl (Nat.le_of_ble_eq_true rfl) (gDep rfl) ⟨Nat.le_refl 0, Nat.le_refl 0⟩ ?_
      obtain ⟨t7, e_t7, hy⟩ := gBd hy
      have hJ8 : gG M X 7 0 0 139 [(0, .ref a0), (1, .int x1), (2, .int t7.1), (3, .int t7.2), (4, .int x4)] [] h := by
        refine g_iinc (ls2 := [(4, .int (x4 + (1 : Int32))), (0, .ref a0), (1, .int x1), (2, .int t7.1), (3, .int t7.2)]) (v := 1) K d_c11_asks_139 4 rfl (by decide) rfl rfl ?_
        refine g_goto K d_c11_asks_142 ?_
        refine g_sub (ls2 := [(0, .ref a0), (1, .int x1), (2, .int t7.1), (3, .int t7.2), (4, .int (x4 + (1 : Int32)))]) [1, 2, 3, 4, 0] rfl ?_
        exact ih _ _ _ _ hy hE
      refine g_if_eq K d_c11_asks_42 (fun c6 => ?_) (fun c6 => ?_)
      · rw [if_pos c6] at e_t7
        refine g_iconst (v := 0) K d_c11_asks_48 (by decide) ?_
        refine g_istore (ls2 := [(5, .int (0 : Int32)), (0, .ref a0), (1, .int x1), (2, .int x2), (3, .int x3), (4, .int x4)]) K d_c11_asks_49 rfl rfl ?_
        refine g_iconst (v := 0) K d_c11_asks_51 (by decide) ?_
        refine g_istore (ls2 := [(6, .int (0 : Int32)), (5, .int (0 : Int32)), (0, .ref a0), (1, .int x1), (2, .int x2), (3, .int x3), (4, .int x4)]) K d_c11_asks_52 rfl rfl ?_
        obtain ⟨o20, e_o20, e_t7⟩ := gBd e_t7
        refine g_sub (ls2 := [(0, .ref a0), (1, .int x1), (2, .int x2), (3, .int x3), (4, .int x4), (5, .int (0 : Int32)), (6, .int (0 : Int32))]) [2, 3, 4, 5, 6, 1, 0] rfl ?_
        refine wlp_c11_asks_54 hx K a0 x1 x4 x2 x3 h N (0 : Int32) (0 : Int32) o20 e_o20 ?_
        refine g_iload K d_c11_asks_110 5 rfl ?_
        refine g_iload_n K d_c11_asks_112 1 rfl ?_
        obtain ⟨q21, e_q21, e_t7⟩ := gBd e_t7
        refine g_callSi (rest := [.int o20]) K hx ly_jInteger_bitCount ks_c11_275 d_c11_asks_113 (ct_jInteger_bitCount M.2.1 X hx N x1 h q21 e_q21) rfl rfl (Nat.le_of_ble_eq_true rfl) (gDep rfl) ⟨Nat.le_refl 0, Nat.le_refl 0⟩ ?_
        refine g_iload K d_c11_asks_116 5 rfl ?_
        refine g_isub K d_c11_asks_118 ?_
        refine g_mmax K d_c11_asks_119 (gTk_6 131 rfl rfl) (gTk_2 82 rfl rfl) (gTk_1 12 rfl rfl) (gTk_2 83 rfl rfl) (gDep1 rfl) (Nat.le_of_ble_eq_true rfl) ⟨Nat.le_refl 0, Nat.le_refl 0⟩ ?_
        refine g_istore (ls2 := [(6, .int (gmax o20 (q21 - o20))), (0, .ref a0), (1, .int x1), (2, .int x2), (3, .int x3), (4, .int x4), (5, .int o20)]) K d_c11_asks_122 rfl rfl ?_
        refine g_iload K d_c11_asks_124 0 rfl ?_
        refine g_iload_n K d_c11_asks_126 4 rfl ?_
        refine g_icmp_lt K d_c11_asks_127 (fun c22 => ?_) (fun c22 => ?_)
        · rw [if_pos c22] at e_t7
          refine g_iload K d_c11_asks_133 5 rfl ?_
          refine g_istore_n (ls2 := [(2, .int x4), (6, .int (gmax o20 (q21 - o20))), (0, .ref a0), (1, .int x1), (3, .int x3), (4, .int x4), (5, .int o20)]) K d_c11_asks_135 rfl rfl ?_
          refine g_iload K d_c11_asks_136 1 rfl ?_
          refine g_istore_n (ls2 := [(3, .int (gmax o20 (q21 - o20))), (2, .int x4), (6, .int (gmax o20 (q21 - o20))), (0, .ref a0), (1, .int x1), (4, .int x4), (5, .int o20)]) K d_c11_asks_138 rfl rfl ?_
          refine g_sub (ls2 := [(0, .ref a0), (1, .int x1), (2, .int x4), (3, .int (gmax o20 (q21 - o20))), (4, .int x4)]) [3, 4, 1, 0, 5] rfl ?_
          obtain rfl := Option.some.inj e_t7
          exact hJ8
        · rw [if_neg c22] at e_t7
          refine g_goto K d_c11_asks_130 ?_
          refine g_sub (ls2 := [(0, .ref a0), (1, .int x1), (2, .int x2), (3, .int x3), (4, .int x4)]) [1, 2, 3, 4, 5] rfl ?_
          obtain rfl := Option.some.inj e_t7
          exact hJ8
      · rw [if_neg c6] at e_t7
        refine g_goto K d_c11_asks_45 ?_
        obtain rfl := Option.some.inj e_t7
        exact hJ8
set_option maxHeartbeats 4000000 in
set_option maxRecDepth 100000 in
theorem ct_c11_asks (l : Launch) (X : gX) (hx : gEx X = false) (N : Nat) (a0 : Nat) (h : gH) (q : Int32 × gH) (hy : f_c11_asks N a0 h = some q) : gRc y_c11_asks h a0 ∧ gMi l X y_c11_asks b_c11_asks 7 .int (7 + N) 0 0 [.ref a0] h q.1 q.2 := by
  unfold f_c11_asks at hy
  obtain ⟨u0, e_u0, hy⟩ := gBd hy
  cases u0
  refine ⟨Or.inl ⟨11, _, _, e_u0, rfl⟩, gMet_i (lsx := [(0, .ref a0)]) (by decide) rfl rfl ?_⟩
  intro M hMl K hret
  subst hMl
  refine g_aload_n K d_c11_asks_0 0 rfl ?_
  refine g_iconst (v := 0) K d_c11_asks_1 (by decide) ?_
  obtain ⟨h1, e_h1, hy⟩ := gBd hy
  refine g_putI K fp_c11_95 d_c11_asks_2 e_h1 ?_
  refine g_aload_n K d_c11_asks_5 0 rfl ?_
  obtain ⟨q2, e_q2, hy⟩ := gBd hy
  refine g_callVi (rest := []) K hx ly_c11_fitting kv_c11_348 d_c11_asks_6 (ct_c11_fitting M.2.1 X hx N a0 h1 q2 e_q2) rfl rfl (Nat.le_of_ble_eq_true rfl) (gDep rfl) ⟨Nat.le_refl 0, Nat.le_refl 0⟩ ?_
  refine g_istore_n (ls2 := [(1, .int q2), (0, .ref a0)]) K d_c11_asks_9 rfl rfl ?_
  refine g_iload_n K d_c11_asks_10 0 rfl ?_
  refine g_if_ne K d_c11_asks_11 (fun c3 => ?_) (fun c3 => ?_)
  · rw [if_neg c3] at hy
    refine g_iconst (v := (-1)) K d_c11_asks_17 (by decide) ?_
    refine g_istore_n (ls2 := [(2, .int (-1 : Int32)), (1, .int q2), (0, .ref a0)]) K d_c11_asks_18 rfl rfl ?_
    refine g_ldcw (v := 1000000) K d_c11_asks_19 (gTk_7 44 rfl rfl) ?_
    refine g_istore_n (ls2 := [(3, .int (1000000 : Int32)), (2, .int (-1 : Int32)), (1, .int q2), (0, .ref a0)]) K d_c11_asks_22 rfl rfl ?_
    refine g_iconst (v := 1) K d_c11_asks_23 (by decide) ?_
    refine g_istore (ls2 := [(4, .int (1 : Int32)), (3, .int (1000000 : Int32)), (2, .int (-1 : Int32)), (1, .int q2), (0, .ref a0)]) K d_c11_asks_24 rfl rfl ?_
    obtain ⟨o23, e_o23, hy⟩ := gBd hy
    refine g_sub (ls2 := [(0, .ref a0), (1, .int q2), (2, .int (-1 : Int32)), (3, .int (1000000 : Int32)), (4, .int (1 : Int32))]) [4, 3, 2, 1, 0] rfl ?_
    refine wlp_c11_asks_26 hx K a0 q2 h1 N (-1 : Int32) (1000000 : Int32) (1 : Int32) o23 e_o23 ?_
    refine g_aload_n K d_c11_asks_145 0 rfl ?_
    refine g_iconst (v := 0) K d_c11_asks_146 (by decide) ?_
    obtain ⟨h24, e_h24, hy⟩ := gBd hy
    refine g_putI K fp_c11_98 d_c11_asks_147 e_h24 ?_
    refine g_aload_n K d_c11_asks_150 0 rfl ?_
    refine g_iload_n K d_c11_asks_151 2 rfl ?_
    refine g_i2l K d_c11_asks_152 ?_
    obtain ⟨q25, e_q25, hy⟩ := gBd hy
    refine g_callVv (rest := []) K hx ly_c11_tell kv_c11_268 d_c11_asks_153 (ct_c11_tell M.2.1 X hx N a0 o23.2.toInt64 h24 q25 e_q25) rfl rfl (Nat.le_of_ble_eq_true rfl) (gDep rfl) ⟨Nat.le_refl 0, Nat.le_refl 0⟩ ?_
    refine g_iload_n K d_c11_asks_156 1 rfl ?_
    obtain rfl := Option.some.inj hy
    exact hret rfl _ _ _ d_c11_asks_157
  · rw [if_pos c3] at hy
    refine g_bipush (v := (-2)) K d_c11_asks_14 (by decide) ?_
    obtain rfl := Option.some.inj hy
    exact hret rfl _ _ _ d_c11_asks_16
-- c11 balance
theorem d_c11_balance_0 : gD b_c11_balance 0 (.aload_n 0) 1 1 := ⟨by decide +kernel, rfl⟩
theorem d_c11_balance_1 : gD b_c11_balance 1 (.iconst 0) 1 2 := ⟨by decide +kernel, rfl⟩
theorem d_c11_balance_2 : gD b_c11_balance 2 (.putfield 95) 3 5 := ⟨by decide +kernel, rfl⟩
theorem d_c11_balance_5 : gD b_c11_balance 5 (.iconst 0) 1 6 := ⟨by decide +kernel, rfl⟩
theorem d_c11_balance_6 : gD b_c11_balance 6 (.istore_n 1) 1 7 := ⟨by decide +kernel, rfl⟩
theorem d_c11_balance_7 : gD b_c11_balance 7 (.iconst 0) 1 8 := ⟨by decide +kernel, rfl⟩
theorem d_c11_balance_8 : gD b_c11_balance 8 (.istore_n 2) 1 9 := ⟨by decide +kernel, rfl⟩
theorem d_c11_balance_9 : gD b_c11_balance 9 (.iload_n 2) 1 10 := ⟨by decide +kernel, rfl⟩
theorem d_c11_balance_10 : gD b_c11_balance 10 (.aload_n 0) 1 11 := ⟨by decide +kernel, rfl⟩
theorem d_c11_balance_11 : gD b_c11_balance 11 (.getfield 9) 3 14 := ⟨by decide +kernel, rfl⟩
theorem d_c11_balance_14 : gD b_c11_balance 14 (.bipush 40) 2 16 := ⟨by decide +kernel, rfl⟩
theorem d_c11_balance_16 : gD b_c11_balance 16 .iaload 1 17 := ⟨by decide +kernel, rfl⟩
theorem d_c11_balance_17 : gJ b_c11_balance 17 (.if_icmp .ge 21) 3 21 20 38 := ⟨by decide +kernel, rfl, by decide⟩
theorem d_c11_balance_20 : gD b_c11_balance 20 (.iload_n 1) 1 21 := ⟨by decide +kernel, rfl⟩
theorem d_c11_balance_21 : gD b_c11_balance 21 (.aload_n 0) 1 22 := ⟨by decide +kernel, rfl⟩
theorem d_c11_balance_22 : gD b_c11_balance 22 (.aload_n 0) 1 23 := ⟨by decide +kernel, rfl⟩
theorem d_c11_balance_23 : gD b_c11_balance 23 (.getfield 9) 3 26 := ⟨by decide +kernel, rfl⟩
theorem d_c11_balance_26 : gD b_c11_balance 26 (.iload_n 2) 1 27 := ⟨by decide +kernel, rfl⟩
theorem d_c11_balance_27 : gD b_c11_balance 27 (.invokevirtual 240) 3 30 := ⟨by decide +kernel, rfl⟩
theorem d_c11_balance_30 : gD b_c11_balance 30 .iadd 1 31 := ⟨by decide +kernel, rfl⟩
theorem d_c11_balance_31 : gD b_c11_balance 31 (.istore_n 1) 1 32 := ⟨by decide +kernel, rfl⟩
theorem d_c11_balance_32 : gD b_c11_balance 32 (.iinc 2 1) 3 35 := ⟨by decide +kernel, rfl⟩
theorem d_c11_balance_35 : gJ b_c11_balance 35 (.goto (-26)) 3 (-26) 38 9 := ⟨by decide +kernel, rfl, by decide⟩
theorem d_c11_balance_38 : gD b_c11_balance 38 (.aload_n 0) 1 39 := ⟨by decide +kernel, rfl⟩
theorem d_c11_balance_39 : gD b_c11_balance 39 (.iconst 0) 1 40 := ⟨by decide +kernel, rfl⟩
theorem d_c11_balance_40 : gD b_c11_balance 40 (.putfield 98) 3 43 := ⟨by decide +kernel, rfl⟩
theorem d_c11_balance_43 : gD b_c11_balance 43 (.aload_n 0) 1 44 := ⟨by decide +kernel, rfl⟩
theorem d_c11_balance_44 : gD b_c11_balance 44 (.iload_n 1) 1 45 := ⟨by decide +kernel, rfl⟩
theorem d_c11_balance_45 : gD b_c11_balance 45 .i2l 1 46 := ⟨by decide +kernel, rfl⟩
theorem d_c11_balance_46 : gD b_c11_balance 46 (.invokevirtual 268) 3 49 := ⟨by decide +kernel, rfl⟩
theorem d_c11_balance_49 : gD b_c11_balance 49 (.aload_n 0) 1 50 := ⟨by decide +kernel, rfl⟩
theorem d_c11_balance_50 : gD b_c11_balance 50 (.aload_n 0) 1 51 := ⟨by decide +kernel, rfl⟩
theorem d_c11_balance_51 : gD b_c11_balance 51 (.invokevirtual 302) 3 54 := ⟨by decide +kernel, rfl⟩
theorem d_c11_balance_54 : gD b_c11_balance 54 .i2l 1 55 := ⟨by decide +kernel, rfl⟩
theorem d_c11_balance_55 : gD b_c11_balance 55 (.invokevirtual 268) 3 58 := ⟨by decide +kernel, rfl⟩
theorem d_c11_balance_58 : gD b_c11_balance 58 (.sipush 1000) 3 61 := ⟨by decide +kernel, rfl⟩
theorem d_c11_balance_61 : gD b_c11_balance 61 (.iload_n 1) 1 62 := ⟨by decide +kernel, rfl⟩
theorem d_c11_balance_62 : gD b_c11_balance 62 .iadd 1 63 := ⟨by decide +kernel, rfl⟩
theorem d_c11_balance_63 : gD b_c11_balance 63 (.aload_n 0) 1 64 := ⟨by decide +kernel, rfl⟩
theorem d_c11_balance_64 : gD b_c11_balance 64 (.invokevirtual 302) 3 67 := ⟨by decide +kernel, rfl⟩
theorem d_c11_balance_67 : gD b_c11_balance 67 .isub 1 68 := ⟨by decide +kernel, rfl⟩
theorem d_c11_balance_68 : gD b_c11_balance 68 .ireturn 1 69 := ⟨by decide +kernel, rfl⟩
def lp_c11_balance_9 (N : Nat) (a0 : Nat) : Nat → Int32 → Int32 → gH → Option (Int32 × gH)
  | 0, _, _, _ => none
  | k + 1, x1, x2, h =>
  (gfR h a0 11 0).bind fun v2 =>
    (ga 0 h v2 (40 : Int32)).bind fun v3 =>
    if v3 ≤ x2 then
    some (x1, h)
  else
    (gfR h a0 11 0).bind fun v5 =>
    (f_c11_flowOf N a0 v5 x2 h).bind fun q6 =>
    lp_c11_balance_9 N a0 k (x1 + q6.1) (x2 + (1 : Int32)) q6.2
def f_c11_balance (N : Nat) (a0 : Nat) (h : gH) : Option (Int32 × gH) :=
  (gcl h a0 11).bind fun _ =>
  (sf h a0 11 10 (.int (0 : Int32))).bind fun h1 =>
    (lp_c11_balance_9 N a0 N (0 : Int32) (0 : Int32) h1).bind fun o7 =>
    (sf o7.2 a0 11 9 (.int (0 : Int32))).bind fun h8 =>
    (f_c11_tell N a0 o7.1.toInt64 h8).bind fun q9 =>
    (f_c11_thirsts N a0 q9).bind fun q10 =>
    (f_c11_tell N a0 q10.toInt64 q9).bind fun q11 =>
    (f_c11_thirsts N a0 q11).bind fun q12 =>
    some (((1000 : Int32) + o7.1) - q12, q11)
set_option maxHeartbeats 4000000 in
set_option maxRecDepth 100000 in
theorem wlp_c11_balance_9 {M : gM} {X : gX} {N : Nat} (hx : gEx X = false) (K : gC M X gN11 b_c11_balance 3 (gRm (7 + N) 0 0)) (a0 : Nat) : ∀ (k : Nat) (x1 : Int32) (x2 : Int32) (h : gH) (o : Int32 × gH), lp_c11_balance_9 N a0 k x1 x2 h = some o → gG M X 3 0 0 38 [(0, .ref a0), (1, .int o.1)] [] o.2 → gG M X 3 0 0 9 [(0, .ref a0), (1, .int x1), (2, .int x2)] [] h := by
  intro k
  induction k with
  | zero =>
    intro x1 x2 h o hy
    rw [lp_c11_balance_9.eq_1] at hy
    cases hy
  | succ k ih =>
    intro x1 x2 h o hy hE
    rw [lp_c11_balance_9.eq_2] at hy
    refine g_iload_n K d_c11_balance_9 2 rfl ?_
    refine g_aload_n K d_c11_balance_10 0 rfl ?_
    obtain ⟨v2, e_v2, hy⟩ := gBd hy
    refine g_getR K fl_c11_9 d_c11_balance_11 e_v2 ?_
    refine g_bipush (v := 40) K d_c11_balance_14 (by decide) ?_
    obtain ⟨v3, e_v3, hy⟩ := gBd hy
    refine g_iald K d_c11_balance_16 e_v3 ?_
    refine g_icmp_ge K d_c11_balance_17 (fun c4 => ?_) (fun c4 => ?_)
    · rw [if_pos c4] at hy
      refine g_sub (ls2 := [(0, .ref a0), (1, .int x1)]) [0, 1] rfl ?_
      obtain rfl := Option.some.inj hy
      exact hE
    · rw [if_neg c4] at hy
      refine g_iload_n K d_c11_balance_20 1 rfl ?_
      refine g_aload_n K d_c11_balance_21 0 rfl ?_
      refine g_aload_n K d_c11_balance_22 0 rfl ?_
      obtain ⟨v5, e_v5, hy⟩ := gBd hy
      refine g_getR K fl_c11_9 d_c11_balance_23 e_v5 ?_
      refine g_iload_n K d_c11_balance_26 2 rfl ?_
      obtain ⟨q6, e_q6, hy⟩ := gBd hy
      refine g_callVi (rest := [.int x1]) K hx ly_c11_flowOf kv_c11_240 d_c11_balance_27 (ct_c11_flowOf M.2.1 X hx N a0 v5 x2 h q6 e_q6) rfl rfl (Nat.le_of_ble_eq_true rfl) (gDep rfl) ⟨Nat.le_refl 0, Nat.le_refl 0⟩ ?_
      refine g_iadd K d_c11_balance_30 ?_
      refine g_istore_n (ls2 := [(1, .int (x1 + q6.1)), (0, .ref a0), (2, .int x2)]) K d_c11_balance_31 rfl rfl ?_
      refine g_iinc (ls2 := [(2, .int (x2 + (1 : Int32))), (1, .int (x1 + q6.1)), (0, .ref a0)]) (v := 1) K d_c11_balance_32 2 rfl (by decide) rfl rfl ?_
      refine g_goto K d_c11_balance_35 ?_
      refine g_sub (ls2 := [(0, .ref a0), (1, .int (x1 + q6.1)), (2, .int (x2 + (1 : Int32)))]) [2, 1, 0] rfl ?_
      exact ih _ _ _ _ hy hE
set_option maxHeartbeats 4000000 in
set_option maxRecDepth 100000 in
theorem ct_c11_balance (l : Launch) (X : gX) (hx : gEx X = false) (N : Nat) (a0 : Nat) (h : gH) (q : Int32 × gH) (hy : f_c11_balance N a0 h = some q) : gRc y_c11_balance h a0 ∧ gMi l X y_c11_balance b_c11_balance 3 .int (7 + N) 0 0 [.ref a0] h q.1 q.2 := by
  unfold f_c11_balance at hy
  obtain ⟨u0, e_u0, hy⟩ := gBd hy
  cases u0
  refine ⟨Or.inl ⟨11, _, _, e_u0, rfl⟩, gMet_i (lsx := [(0, .ref a0)]) (by decide) rfl rfl ?_⟩
  intro M hMl K hret
  subst hMl
  refine g_aload_n K d_c11_balance_0 0 rfl ?_
  refine g_iconst (v := 0) K d_c11_balance_1 (by decide) ?_
  obtain ⟨h1, e_h1, hy⟩ := gBd hy
  refine g_putI K fp_c11_95 d_c11_balance_2 e_h1 ?_
  refine g_iconst (v := 0) K d_c11_balance_5 (by decide) ?_
  refine g_istore_n (ls2 := [(1, .int (0 : Int32)), (0, .ref a0)]) K d_c11_balance_6 rfl rfl ?_
  refine g_iconst (v := 0) K d_c11_balance_7 (by decide) ?_
  refine g_istore_n (ls2 := [(2, .int (0 : Int32)), (1, .int (0 : Int32)), (0, .ref a0)]) K d_c11_balance_8 rfl rfl ?_
  obtain ⟨o7, e_o7, hy⟩ := gBd hy
  refine g_sub (ls2 := [(0, .ref a0), (1, .int (0 : Int32)), (2, .int (0 : Int32))]) [2, 1, 0] rfl ?_
  refine wlp_c11_balance_9 hx K a0 N (0 : Int32) (0 : Int32) h1 o7 e_o7 ?_
  refine g_aload_n K d_c11_balance_38 0 rfl ?_
  refine g_iconst (v := 0) K d_c11_balance_39 (by decide) ?_
  obtain ⟨h8, e_h8, hy⟩ := gBd hy
  refine g_putI K fp_c11_98 d_c11_balance_40 e_h8 ?_
  refine g_aload_n K d_c11_balance_43 0 rfl ?_
  refine g_iload_n K d_c11_balance_44 1 rfl ?_
  refine g_i2l K d_c11_balance_45 ?_
  obtain ⟨q9, e_q9, hy⟩ := gBd hy
  refine g_callVv (rest := []) K hx ly_c11_tell kv_c11_268 d_c11_balance_46 (ct_c11_tell M.2.1 X hx N a0 o7.1.toInt64 h8 q9 e_q9) rfl rfl (Nat.le_of_ble_eq_true rfl) (gDep rfl) ⟨Nat.le_refl 0, Nat.le_refl 0⟩ ?_
  refine g_aload_n K d_c11_balance_49 0 rfl ?_
  refine g_aload_n K d_c11_balance_50 0 rfl ?_
  obtain ⟨q10, e_q10, hy⟩ := gBd hy
  refine g_callVi (rest := [.ref a0]) K hx ly_c11_thirsts kv_c11_302 d_c11_balance_51 (ct_c11_thirsts M.2.1 X hx N a0 q9 q10 e_q10) rfl rfl (Nat.le_of_ble_eq_true rfl) (gDep rfl) ⟨Nat.le_refl 0, Nat.le_refl 0⟩ ?_
  refine g_i2l K d_c11_balance_54 ?_
  obtain ⟨q11, e_q11, hy⟩ := gBd hy
  refine g_callVv (rest := []) K hx ly_c11_tell kv_c11_268 d_c11_balance_55 (ct_c11_tell M.2.1 X hx N a0 q10.toInt64 q9 q11 e_q11) rfl rfl (Nat.le_of_ble_eq_true rfl) (gDep rfl) ⟨Nat.le_refl 0, Nat.le_refl 0⟩ ?_
  refine g_sipush (v := 1000) K d_c11_balance_58 (by decide) ?_
  refine g_iload_n K d_c11_balance_61 1 rfl ?_
  refine g_iadd K d_c11_balance_62 ?_
  refine g_aload_n K d_c11_balance_63 0 rfl ?_
  obtain ⟨q12, e_q12, hy⟩ := gBd hy
  refine g_callVi (rest := [.int ((1000 : Int32) + o7.1)]) K hx ly_c11_thirsts kv_c11_302 d_c11_balance_64 (ct_c11_thirsts M.2.1 X hx N a0 q11 q12 e_q12) rfl rfl (Nat.le_of_ble_eq_true rfl) (gDep rfl) ⟨Nat.le_refl 0, Nat.le_refl 0⟩ ?_
  refine g_isub K d_c11_balance_67 ?_
  obtain rfl := Option.some.inj hy
  exact hret rfl _ _ _ d_c11_balance_68
