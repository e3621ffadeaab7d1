-- c10 asKind
theorem d_c10_asKind_0 : gD b_c10_asKind 0 (.iload_n 0) 1 1 := ⟨by decide +kernel, rfl⟩
theorem d_c10_asKind_1 : gJ b_c10_asKind 1 (.ifCond .ne 6) 3 6 4 7 := ⟨by decide +kernel, rfl, by decide⟩
theorem d_c10_asKind_4 : gD b_c10_asKind 4 (.iload_n 1) 1 5 := ⟨by decide +kernel, rfl⟩
theorem d_c10_asKind_5 : gD b_c10_asKind 5 .i2b 1 6 := ⟨by decide +kernel, rfl⟩
theorem d_c10_asKind_6 : gD b_c10_asKind 6 .ireturn 1 7 := ⟨by decide +kernel, rfl⟩
theorem d_c10_asKind_7 : gD b_c10_asKind 7 (.iload_n 0) 1 8 := ⟨by decide +kernel, rfl⟩
theorem d_c10_asKind_8 : gD b_c10_asKind 8 (.iconst 1) 1 9 := ⟨by decide +kernel, rfl⟩
theorem d_c10_asKind_9 : gJ b_c10_asKind 9 (.if_icmp .ne 8) 3 8 12 17 := ⟨by decide +kernel, rfl, by decide⟩
theorem d_c10_asKind_12 : gD b_c10_asKind 12 (.iload_n 1) 1 13 := ⟨by decide +kernel, rfl⟩
theorem d_c10_asKind_13 : gD b_c10_asKind 13 .i2s 1 14 := ⟨by decide +kernel, rfl⟩
theorem d_c10_asKind_14 : gJ b_c10_asKind 14 (.goto 4) 3 4 17 18 := ⟨by decide +kernel, rfl, by decide⟩
theorem d_c10_asKind_17 : gD b_c10_asKind 17 (.iload_n 1) 1 18 := ⟨by decide +kernel, rfl⟩
theorem d_c10_asKind_18 : gD b_c10_asKind 18 .ireturn 1 19 := ⟨by decide +kernel, rfl⟩
def f_c10_asKind (N : Nat) (x0 : Int32) (x1 : Int32) (h : gH) : Option (Int32) :=
  if x0 = 0 then
    some x1.toInt8.toInt32
  else
    some (if x0 = (1 : Int32) then x1.toInt16.toInt32 else x1)
set_option maxHeartbeats 4000000 in
set_option maxRecDepth 100000 in
theorem ct_c10_asKind (l : Launch) (X : gX) (hx : gEx X = false) (N : Nat) (x0 : Int32) (x1 : Int32) (h : gH) (q : Int32) (hy : f_c10_asKind N x0 x1 h = some q) : gMi l X y_c10_asKind b_c10_asKind 2 .int (1 + N) 0 0 [.int x0, .int x1] h q h := by
  unfold f_c10_asKind at hy
  refine gMet_i (lsx := [(0, .int x0), (1, .int x1)]) (by decide) rfl rfl ?_
  intro M hMl K hret
  subst hMl
  refine g_iload_n K d_c10_asKind_0 0 rfl ?_
  refine g_if_ne K d_c10_asKind_1 (fun c1 => ?_) (fun c1 => ?_)
  · rw [if_neg c1] at hy
    refine g_iload_n K d_c10_asKind_7 0 rfl ?_
    refine g_iconst (v := 1) K d_c10_asKind_8 (by decide) ?_
    have hJ4 : ∀ w3 : Int32, w3 = (if x0 = (1 : Int32) then x1.toInt16.toInt32 else x1) → gG M X 2 0 0 18 [(0, .int x0), (1, .int x1)] [.int w3] h := by
      intro w3 e_w3
      subst e_w3
      obtain rfl := Option.some.inj hy
      exact hret rfl _ _ _ d_c10_asKind_18
    refine g_icmp_ne K d_c10_asKind_9 (fun c2 => ?_) (fun c2 => ?_)
    · refine g_iload_n K d_c10_asKind_17 1 rfl ?_
      exact hJ4 _ (by rw [if_neg c2])
    · refine g_iload_n K d_c10_asKind_12 1 rfl ?_
      refine g_i2s K d_c10_asKind_13 ?_
      refine g_goto K d_c10_asKind_14 ?_
      exact hJ4 _ (by rw [if_pos c2])
  · rw [if_pos c1] at hy
    refine g_iload_n K d_c10_asKind_4 1 rfl ?_
    refine g_i2b K d_c10_asKind_5 ?_
    obtain rfl := Option.some.inj hy
    exact hret rfl _ _ _ d_c10_asKind_6
-- c10 commonDivisor
theorem d_c10_commonDivisor_0 : gD b_c10_commonDivisor 0 (.lload_n 2) 1 1 := ⟨by decide +kernel, rfl⟩
theorem d_c10_commonDivisor_1 : gD b_c10_commonDivisor 1 (.lstore 4) 2 3 := ⟨by decide +kernel, rfl⟩
theorem d_c10_commonDivisor_3 : gD b_c10_commonDivisor 3 (.lload_n 0) 1 4 := ⟨by decide +kernel, rfl⟩
theorem d_c10_commonDivisor_4 : gD b_c10_commonDivisor 4 (.lstore 6) 2 6 := ⟨by decide +kernel, rfl⟩
theorem d_c10_commonDivisor_6 : gD b_c10_commonDivisor 6 (.iconst 0) 1 7 := ⟨by decide +kernel, rfl⟩
theorem d_c10_commonDivisor_7 : gD b_c10_commonDivisor 7 (.istore 8) 2 9 := ⟨by decide +kernel, rfl⟩
theorem d_c10_commonDivisor_9 : gD b_c10_commonDivisor 9 (.iload 8) 2 11 := ⟨by decide +kernel, rfl⟩
theorem d_c10_commonDivisor_11 : gD b_c10_commonDivisor 11 (.bipush 100) 2 13 := ⟨by decide +kernel, rfl⟩
theorem d_c10_commonDivisor_13 : gJ b_c10_commonDivisor 13 (.if_icmp .ge 31) 3 31 16 44 := ⟨by decide +kernel, rfl, by decide⟩
theorem d_c10_commonDivisor_16 : gD b_c10_commonDivisor 16 (.lload 6) 2 18 := ⟨by decide +kernel, rfl⟩
theorem d_c10_commonDivisor_18 : gD b_c10_commonDivisor 18 (.lconst 0) 1 19 := ⟨by decide +kernel, rfl⟩
theorem d_c10_commonDivisor_19 : gD b_c10_commonDivisor 19 .lcmp 1 20 := ⟨by decide +kernel, rfl⟩
theorem d_c10_commonDivisor_20 : gJ b_c10_commonDivisor 20 (.ifCond .eq 24) 3 24 23 44 := ⟨by decide +kernel, rfl, by decide⟩
theorem d_c10_commonDivisor_23 : gD b_c10_commonDivisor 23 (.lload 4) 2 25 := ⟨by decide +kernel, rfl⟩
theorem d_c10_commonDivisor_25 : gD b_c10_commonDivisor 25 (.lload 6) 2 27 := ⟨by decide +kernel, rfl⟩
theorem d_c10_commonDivisor_27 : gD b_c10_commonDivisor 27 .lrem 1 28 := ⟨by decide +kernel, rfl⟩
theorem d_c10_commonDivisor_28 : gD b_c10_commonDivisor 28 (.lstore 9) 2 30 := ⟨by decide +kernel, rfl⟩
theorem d_c10_commonDivisor_30 : gD b_c10_commonDivisor 30 (.lload 6) 2 32 := ⟨by decide +kernel, rfl⟩
theorem d_c10_commonDivisor_32 : gD b_c10_commonDivisor 32 (.lstore 4) 2 34 := ⟨by decide +kernel, rfl⟩
theorem d_c10_commonDivisor_34 : gD b_c10_commonDivisor 34 (.lload 9) 2 36 := ⟨by decide +kernel, rfl⟩
theorem d_c10_commonDivisor_36 : gD b_c10_commonDivisor 36 (.lstore 6) 2 38 := ⟨by decide +kernel, rfl⟩
theorem d_c10_commonDivisor_38 : gD b_c10_commonDivisor 38 (.iinc 8 1) 3 41 := ⟨by decide +kernel, rfl⟩
theorem d_c10_commonDivisor_41 : gJ b_c10_commonDivisor 41 (.goto (-32)) 3 (-32) 44 9 := ⟨by decide +kernel, rfl, by decide⟩
theorem d_c10_commonDivisor_44 : gD b_c10_commonDivisor 44 (.lload 4) 2 46 := ⟨by decide +kernel, rfl⟩
theorem d_c10_commonDivisor_46 : gD b_c10_commonDivisor 46 .lreturn 1 47 := ⟨by decide +kernel, rfl⟩
def lp_c10_commonDivisor_9 (N : Nat) (h : gH) : Nat → Int64 → Int64 → Int32 → Option (Int64)
  | 0, _, _, _ => none
  | k + 1, y4, y6, x8 =>
  if (100 : Int32) ≤ x8 then
    some y4
  else
    if (lg_cmp y6 (0 : Int64)) = 0 then
    some y4
  else
    (gNZL y6).bind fun u3 =>
    lp_c10_commonDivisor_9 N h k y6 (y4 - y4 / y6 * y6) (x8 + (1 : Int32))
def f_c10_commonDivisor (N : Nat) (y0 : Int64) (y2 : Int64) (h : gH) : Option (Int64) :=
  (lp_c10_commonDivisor_9 N h N y2 y0 (0 : Int32)).bind fun o4 =>
    some o4
set_option maxHeartbeats 4000000 in
set_option maxRecDepth 100000 in
theorem wlp_c10_commonDivisor_9 {M : gM} {X : gX} {N : Nat} (hx : gEx X = false) (K : gC M X gN10 b_c10_commonDivisor 11 (gRm (1 + N) 0 0)) (h : gH) : ∀ (k : Nat) (y4 : Int64) (y6 : Int64) (x8 : Int32) (o : Int64), lp_c10_commonDivisor_9 N h k y4 y6 x8 = some o → gG M X 11 0 0 44 [(4, .long o)] [] h → gG M X 11 0 0 9 [(4, .long y4), (6, .long y6), (8, .int x8)] [] h := by
  intro k
  induction k with
  | zero =>
    intro y4 y6 x8 o hy
    rw [lp_c10_commonDivisor_9.eq_1] at hy
    cases hy
  | succ k ih =>
    intro y4 y6 x8 o hy hE
    rw [lp_c10_commonDivisor_9.eq_2] at hy
    refine g_iload K d_c10_commonDivisor_9 2 rfl ?_
    refine g_bipush (v := 100) K d_c10_commonDivisor_11 (by decide) ?_
    refine g_icmp_ge K d_c10_commonDivisor_13 (fun c1 => ?_) (fun c1 => ?_)
    · rw [if_pos c1] at hy
      refine g_sub (ls2 := [(4, .long y4)]) [0] rfl ?_
      obtain rfl := Option.some.inj hy
      exact hE
    · rw [if_neg c1] at hy
      refine g_lload K d_c10_commonDivisor_16 1 rfl ?_
      refine g_lconst (v := 0) K d_c10_commonDivisor_18 (by decide) ?_
      refine g_lcmp K d_c10_commonDivisor_19 ?_
      refine g_if_eq K d_c10_commonDivisor_20 (fun c2 => ?_) (fun c2 => ?_)
      · rw [if_pos c2] at hy
        refine g_sub (ls2 := [(4, .long y4)]) [0] rfl ?_
        obtain rfl := Option.some.inj hy
        exact hE
      · rw [if_neg c2] at hy
        refine g_lload K d_c10_commonDivisor_23 0 rfl ?_
        refine g_lload K d_c10_commonDivisor_25 1 rfl ?_
        obtain ⟨u3, e_u3, hy⟩ := gBd hy
        refine g_lrem K d_c10_commonDivisor_27 e_u3 ?_
        refine g_lstore (ls2 := [(9, .long (y4 - y4 / y6 * y6)), (4, .long y4), (6, .long y6), (8, .int x8)]) K d_c10_commonDivisor_28 rfl rfl ?_
        refine g_lload K d_c10_commonDivisor_30 2 rfl ?_
        refine g_lstore (ls2 := [(4, .long y6), (9, .long (y4 - y4 / y6 * y6)), (6, .long y6), (8, .int x8)]) K d_c10_commonDivisor_32 rfl rfl ?_
        refine g_lload K d_c10_commonDivisor_34 1 rfl ?_
        refine g_lstore (ls2 := [(6, .long (y4 - y4 / y6 * y6)), (4, .long y6), (9, .long (y4 - y4 / y6 * y6)), (8, .int x8)]) K d_c10_commonDivisor_36 rfl rfl ?_
        refine g_iinc (ls2 := [(8, .int (x8 + (1 : Int32))), (6, .long (y4 - y4 / y6 * y6)), (4, .long y6), (9, .long (y4 - y4 / y6 * y6))]) (v := 1) K d_c10_commonDivisor_38 3 rfl (by decide) rfl rfl ?_
        refine g_goto K d_c10_commonDivisor_41 ?_
        refine g_sub (ls2 := [(4, .long y6), (6, .long (y4 - y4 / y6 * y6)), (8, .int (x8 + (1 : Int32)))]) [2, 1, 0] rfl ?_
        exact ih _ _ _ _ hy hE
set_option maxHeartbeats 4000000 in
set_option maxRecDepth 100000 in
theorem ct_c10_commonDivisor (l : Launch) (X : gX) (hx : gEx X = false) (N : Nat) (y0 : Int64) (y2 : Int64) (h : gH) (q : Int64) (hy : f_c10_commonDivisor N y0 y2 h = some q) : gMl l X y_c10_commonDivisor b_c10_commonDivisor 11 (1 + N) 0 0 [.long y0, .long y2] h q h := by
  unfold f_c10_commonDivisor at hy
  refine gMet_l (lsx := [(0, .long y0), (2, .long y2)]) (by decide) rfl rfl ?_
  intro M hMl K hret
  subst hMl
  refine g_lload_n K d_c10_commonDivisor_0 1 rfl ?_
  refine g_lstore (ls2 := [(4, .long y2), (0, .long y0), (2, .long y2)]) K d_c10_commonDivisor_1 rfl rfl ?_
  refine g_lload_n K d_c10_commonDivisor_3 1 rfl ?_
  refine g_lstore (ls2 := [(6, .long y0), (4, .long y2), (0, .long y0), (2, .long y2)]) K d_c10_commonDivisor_4 rfl rfl ?_
  refine g_iconst (v := 0) K d_c10_commonDivisor_6 (by decide) ?_
  refine g_istore (ls2 := [(8, .int (0 : Int32)), (6, .long y0), (4, .long y2), (0, .long y0), (2, .long y2)]) K d_c10_commonDivisor_7 rfl rfl ?_
  obtain ⟨o4, e_o4, hy⟩ := gBd hy
  refine g_sub (ls2 := [(4, .long y2), (6, .long y0), (8, .int (0 : Int32))]) [2, 1, 0] rfl ?_
  refine wlp_c10_commonDivisor_9 hx K h N y2 y0 (0 : Int32) o4 e_o4 ?_
  refine g_lload K d_c10_commonDivisor_44 0 rfl ?_
  obtain rfl := Option.some.inj hy
  exact hret _ _ _ d_c10_commonDivisor_46
-- c10 forget
theorem d_c10_forget_0 : gD b_c10_forget 0 (.aload_n 0) 1 1 := ⟨by decide +kernel, rfl⟩
theorem d_c10_forget_1 : gD b_c10_forget 1 (.getfield 60) 3 4 := ⟨by decide +kernel, rfl⟩
theorem d_c10_forget_4 : gD b_c10_forget 4 (.getfield 342) 3 7 := ⟨by decide +kernel, rfl⟩
theorem d_c10_forget_7 : gD b_c10_forget 7 (.istore_n 1) 1 8 := ⟨by decide +kernel, rfl⟩
theorem d_c10_forget_8 : gD b_c10_forget 8 (.aload_n 0) 1 9 := ⟨by decide +kernel, rfl⟩
theorem d_c10_forget_9 : gD b_c10_forget 9 (.getfield 60) 3 12 := ⟨by decide +kernel, rfl⟩
theorem d_c10_forget_12 : gD b_c10_forget 12 (.iconst 0) 1 13 := ⟨by decide +kernel, rfl⟩
theorem d_c10_forget_13 : gD b_c10_forget 13 (.putfield 342) 3 16 := ⟨by decide +kernel, rfl⟩
theorem d_c10_forget_16 : gD b_c10_forget 16 (.iload_n 1) 1 17 := ⟨by decide +kernel, rfl⟩
theorem d_c10_forget_17 : gD b_c10_forget 17 .ireturn 1 18 := ⟨by decide +kernel, rfl⟩
def f_c10_forget (N : Nat) (a0 : Nat) (h : gH) : Option (Int32 × gH) :=
  (gcl h a0 10).bind fun _ =>
  (gfR h a0 10 8).bind fun v1 =>
    (gfI h v1 2 2).bind fun v2 =>
    (gfR h a0 10 8).bind fun v3 =>
    (sf h v3 2 2 (.int (0 : Int32))).bind fun h4 =>
    some (v2, h4)
set_option maxHeartbeats 4000000 in
set_option maxRecDepth 100000 in
theorem ct_c10_forget (l : Launch) (X : gX) (hx : gEx X = false) (N : Nat) (a0 : Nat) (h : gH) (q : Int32 × gH) (hy : f_c10_forget N a0 h = some q) : gRc y_c10_forget h a0 ∧ gMi l X y_c10_forget b_c10_forget 2 .int (1 + N) 0 0 [.ref a0] h q.1 q.2 := by
  unfold f_c10_forget at hy
  obtain ⟨u0, e_u0, hy⟩ := gBd hy
  cases u0
  refine ⟨Or.inl ⟨10, _, _, e_u0, rfl⟩, gMet_i (lsx := [(0, .ref a0)]) (by decide) rfl rfl ?_⟩
  intro M hMl K hret
  subst hMl
  refine g_aload_n K d_c10_forget_0 0 rfl ?_
  obtain ⟨v1, e_v1, hy⟩ := gBd hy
  refine g_getR K fl_c10_60 d_c10_forget_1 e_v1 ?_
  obtain ⟨v2, e_v2, hy⟩ := gBd hy
  refine g_getI K fl_c10_342 d_c10_forget_4 e_v2 ?_
  refine g_istore_n (ls2 := [(1, .int v2), (0, .ref a0)]) K d_c10_forget_7 rfl rfl ?_
  refine g_aload_n K d_c10_forget_8 1 rfl ?_
  obtain ⟨v3, e_v3, hy⟩ := gBd hy
  refine g_getR K fl_c10_60 d_c10_forget_9 e_v3 ?_
  refine g_iconst (v := 0) K d_c10_forget_12 (by decide) ?_
  obtain ⟨h4, e_h4, hy⟩ := gBd hy
  refine g_putI K fp_c10_342 d_c10_forget_13 e_h4 ?_
  refine g_iload_n K d_c10_forget_16 0 rfl ?_
  obtain rfl := Option.some.inj hy
  exact hret rfl _ _ _ d_c10_forget_17
-- c10 isFar
theorem d_c10_isFar_0 : gD b_c10_isFar 0 (.iload_n 0) 1 1 := ⟨by decide +kernel, rfl⟩
theorem d_c10_isFar_1 : gJ b_c10_isFar 1 (.ifCond .lt 13) 3 13 4 14 := ⟨by decide +kernel, rfl, by decide⟩
theorem d_c10_isFar_4 : gD b_c10_isFar 4 (.iload_n 0) 1 5 := ⟨by decide +kernel, rfl⟩
theorem d_c10_isFar_5 : gD b_c10_isFar 5 (.bipush 10) 2 7 := ⟨by decide +kernel, rfl⟩
theorem d_c10_isFar_7 : gJ b_c10_isFar 7 (.if_icmp .gt 7) 3 7 10 14 := ⟨by decide +kernel, rfl, by decide⟩
theorem d_c10_isFar_10 : gD b_c10_isFar 10 (.iconst 1) 1 11 := ⟨by decide +kernel, rfl⟩
theorem d_c10_isFar_11 : gJ b_c10_isFar 11 (.goto 4) 3 4 14 15 := ⟨by decide +kernel, rfl, by decide⟩
theorem d_c10_isFar_14 : gD b_c10_isFar 14 (.iconst 0) 1 15 := ⟨by decide +kernel, rfl⟩
theorem d_c10_isFar_15 : gD b_c10_isFar 15 .ireturn 1 16 := ⟨by decide +kernel, rfl⟩
def f_c10_isFar (N : Nat) (x0 : Int32) (h : gH) : Option (Int32) :=
  (gZ (if x0 < 0 then (0 : Int32) else (if (10 : Int32) < x0 then (0 : Int32) else (1 : Int32)))).bind fun w4 => some w4
set_option maxHeartbeats 4000000 in
set_option maxRecDepth 100000 in
theorem ct_c10_isFar (l : Launch) (X : gX) (hx : gEx X = false) (N : Nat) (x0 : Int32) (h : gH) (q : Int32) (hy : f_c10_isFar N x0 h = some q) : gMi l X y_c10_isFar b_c10_isFar 1 .boolean (1 + N) 0 0 [.int x0] h q h := by
  unfold f_c10_isFar at hy
  refine gMet_i (lsx := [(0, .int x0)]) (by decide) rfl rfl ?_
  intro M hMl K hret
  subst hMl
  refine g_iload_n K d_c10_isFar_0 0 rfl ?_
  have hJ3 : ∀ w2 : Int32, w2 = (if x0 < 0 then (0 : Int32) else (if (10 : Int32) < x0 then (0 : Int32) else (1 : Int32))) → gG M X 1 0 0 15 [(0, .int x0)] [.int w2] h := by
    intro w2 e_w2
    subst e_w2
    obtain ⟨w4, e_w4, hy⟩ := gBd hy
    obtain ⟨z_w4, n_w4⟩ := gZ_spec e_w4
    rw [z_w4]
    obtain rfl := Option.some.inj hy
    exact hret (gZn n_w4) _ _ _ d_c10_isFar_15
  refine g_if_lt K d_c10_isFar_1 (fun c1 => ?_) (fun c1 => ?_)
  · refine g_iconst (v := 0) K d_c10_isFar_14 (by decide) ?_
    exact hJ3 _ (by rw [if_pos c1])
  · refine g_iload_n K d_c10_isFar_4 0 rfl ?_
    refine g_bipush (v := 10) K d_c10_isFar_5 (by decide) ?_
    refine g_icmp_gt K d_c10_isFar_7 (fun c5 => ?_) (fun c5 => ?_)
    · refine g_iconst (v := 0) K d_c10_isFar_14 (by decide) ?_
      exact hJ3 _ (by rw [if_neg c1, if_pos c5])
    · refine g_iconst (v := 1) K d_c10_isFar_10 (by decide) ?_
      refine g_goto K d_c10_isFar_11 ?_
      exact hJ3 _ (by rw [if_neg c1, if_neg c5])
-- c10 isTenths
theorem d_c10_isTenths_0 : gD b_c10_isTenths 0 (.iload_n 0) 1 1 := ⟨by decide +kernel, rfl⟩
theorem d_c10_isTenths_1 : gJ b_c10_isTenths 1 (.ifCond .lt 13) 3 13 4 14 := ⟨by decide +kernel, rfl, by decide⟩
theorem d_c10_isTenths_4 : gD b_c10_isTenths 4 (.iload_n 0) 1 5 := ⟨by decide +kernel, rfl⟩
theorem d_c10_isTenths_5 : gD b_c10_isTenths 5 (.bipush 10) 2 7 := ⟨by decide +kernel, rfl⟩
theorem d_c10_isTenths_7 : gJ b_c10_isTenths 7 (.if_icmp .gt 7) 3 7 10 14 := ⟨by decide +kernel, rfl, by decide⟩
theorem d_c10_isTenths_10 : gD b_c10_isTenths 10 (.iconst 1) 1 11 := ⟨by decide +kernel, rfl⟩
theorem d_c10_isTenths_11 : gJ b_c10_isTenths 11 (.goto 4) 3 4 14 15 := ⟨by decide +kernel, rfl, by decide⟩
theorem d_c10_isTenths_14 : gD b_c10_isTenths 14 (.iconst 0) 1 15 := ⟨by decide +kernel, rfl⟩
theorem d_c10_isTenths_15 : gD b_c10_isTenths 15 .ireturn 1 16 := ⟨by decide +kernel, rfl⟩
def f_c10_isTenths (N : Nat) (x0 : Int32) (h : gH) : Option (Int32) :=
  (gZ (if x0 < 0 then (0 : Int32) else (if (10 : Int32) < x0 then (0 : Int32) else (1 : Int32)))).bind fun w4 => some w4
set_option maxHeartbeats 4000000 in
set_option maxRecDepth 100000 in
theorem ct_c10_isTenths (l : Launch) (X : gX) (hx : gEx X = false) (N : Nat) (x0 : Int32) (h : gH) (q : Int32) (hy : f_c10_isTenths N x0 h = some q) : gMi l X y_c10_isTenths b_c10_isTenths 1 .boolean (1 + N) 0 0 [.int x0] h q h := by
  unfold f_c10_isTenths at hy
  refine gMet_i (lsx := [(0, .int x0)]) (by decide) rfl rfl ?_
  intro M hMl K hret
  subst hMl
  refine g_iload_n K d_c10_isTenths_0 0 rfl ?_
  have hJ3 : ∀ w2 : Int32, w2 = (if x0 < 0 then (0 : Int32) else (if (10 : Int32) < x0 then (0 : Int32) else (1 : Int32))) → gG M X 1 0 0 15 [(0, .int x0)] [.int w2] h := by
    intro w2 e_w2
    subst e_w2
    obtain ⟨w4, e_w4, hy⟩ := gBd hy
    obtain ⟨z_w4, n_w4⟩ := gZ_spec e_w4
    rw [z_w4]
    obtain rfl := Option.some.inj hy
    exact hret (gZn n_w4) _ _ _ d_c10_isTenths_15
  refine g_if_lt K d_c10_isTenths_1 (fun c1 => ?_) (fun c1 => ?_)
  · refine g_iconst (v := 0) K d_c10_isTenths_14 (by decide) ?_
    exact hJ3 _ (by rw [if_pos c1])
  · refine g_iload_n K d_c10_isTenths_4 0 rfl ?_
    refine g_bipush (v := 10) K d_c10_isTenths_5 (by decide) ?_
    refine g_icmp_gt K d_c10_isTenths_7 (fun c5 => ?_) (fun c5 => ?_)
    · refine g_iconst (v := 0) K d_c10_isTenths_14 (by decide) ?_
      exact hJ3 _ (by rw [if_neg c1, if_pos c5])
    · refine g_iconst (v := 1) K d_c10_isTenths_10 (by decide) ?_
      refine g_goto K d_c10_isTenths_11 ?_
      exact hJ3 _ (by rw [if_neg c1, if_neg c5])
-- c10 isTried
theorem d_c10_isTried_0 : gD b_c10_isTried 0 (.iload_n 0) 1 1 := ⟨by decide +kernel, rfl⟩
theorem d_c10_isTried_1 : gD b_c10_isTried 1 (.iconst 1) 1 2 := ⟨by decide +kernel, rfl⟩
theorem d_c10_isTried_2 : gJ b_c10_isTried 2 (.if_icmp .lt 13) 3 13 5 15 := ⟨by decide +kernel, rfl, by decide⟩
theorem d_c10_isTried_5 : gD b_c10_isTried 5 (.iload_n 0) 1 6 := ⟨by decide +kernel, rfl⟩
theorem d_c10_isTried_6 : gD b_c10_isTried 6 (.bipush 30) 2 8 := ⟨by decide +kernel, rfl⟩
theorem d_c10_isTried_8 : gJ b_c10_isTried 8 (.if_icmp .gt 7) 3 7 11 15 := ⟨by decide +kernel, rfl, by decide⟩
theorem d_c10_isTried_11 : gD b_c10_isTried 11 (.iconst 1) 1 12 := ⟨by decide +kernel, rfl⟩
theorem d_c10_isTried_12 : gJ b_c10_isTried 12 (.goto 4) 3 4 15 16 := ⟨by decide +kernel, rfl, by decide⟩
theorem d_c10_isTried_15 : gD b_c10_isTried 15 (.iconst 0) 1 16 := ⟨by decide +kernel, rfl⟩
theorem d_c10_isTried_16 : gD b_c10_isTried 16 .ireturn 1 17 := ⟨by decide +kernel, rfl⟩
def f_c10_isTried (N : Nat) (x0 : Int32) (h : gH) : Option (Int32) :=
  (gZ (if x0 < (1 : Int32) then (0 : Int32) else (if (30 : Int32) < x0 then (0 : Int32) else (1 : Int32)))).bind fun w4 => some w4
set_option maxHeartbeats 4000000 in
set_option maxRecDepth 100000 in
theorem ct_c10_isTried (l : Launch) (X : gX) (hx : gEx X = false) (N : Nat) (x0 : Int32) (h : gH) (q : Int32) (hy : f_c10_isTried N x0 h = some q) : gMi l X y_c10_isTried b_c10_isTried 1 .boolean (1 + N) 0 0 [.int x0] h q h := by
  unfold f_c10_isTried at hy
  refine gMet_i (lsx := [(0, .int x0)]) (by decide) rfl rfl ?_
  intro M hMl K hret
  subst hMl
  refine g_iload_n K d_c10_isTried_0 0 rfl ?_
  refine g_iconst (v := 1) K d_c10_isTried_1 (by decide) ?_
  have hJ3 : ∀ w2 : Int32, w2 = (if x0 < (1 : Int32) then (0 : Int32) else (if (30 : Int32) < x0 then (0 : Int32) else (1 : Int32))) → gG M X 1 0 0 16 [(0, .int x0)] [.int w2] h := by
    intro w2 e_w2
    subst e_w2
    obtain ⟨w4, e_w4, hy⟩ := gBd hy
    obtain ⟨z_w4, n_w4⟩ := gZ_spec e_w4
    rw [z_w4]
    obtain rfl := Option.some.inj hy
    exact hret (gZn n_w4) _ _ _ d_c10_isTried_16
  refine g_icmp_lt K d_c10_isTried_2 (fun c1 => ?_) (fun c1 => ?_)
  · refine g_iconst (v := 0) K d_c10_isTried_15 (by decide) ?_
    exact hJ3 _ (by rw [if_pos c1])
  · refine g_iload_n K d_c10_isTried_5 0 rfl ?_
    refine g_bipush (v := 30) K d_c10_isTried_6 (by decide) ?_
    refine g_icmp_gt K d_c10_isTried_8 (fun c5 => ?_) (fun c5 => ?_)
    · refine g_iconst (v := 0) K d_c10_isTried_15 (by decide) ?_
      exact hJ3 _ (by rw [if_neg c1, if_pos c5])
    · refine g_iconst (v := 1) K d_c10_isTried_11 (by decide) ?_
      refine g_goto K d_c10_isTried_12 ?_
      exact hJ3 _ (by rw [if_neg c1, if_neg c5])
-- c10 power
theorem d_c10_power_0 : gD b_c10_power 0 (.lconst 1) 1 1 := ⟨by decide +kernel, rfl⟩
theorem d_c10_power_1 : gD b_c10_power 1 (.lstore_n 2) 1 2 := ⟨by decide +kernel, rfl⟩
theorem d_c10_power_2 : gD b_c10_power 2 (.iconst 0) 1 3 := ⟨by decide +kernel, rfl⟩
theorem d_c10_power_3 : gD b_c10_power 3 (.istore 4) 2 5 := ⟨by decide +kernel, rfl⟩
theorem d_c10_power_5 : gD b_c10_power 5 (.iload 4) 2 7 := ⟨by decide +kernel, rfl⟩
theorem d_c10_power_7 : gD b_c10_power 7 (.iload_n 1) 1 8 := ⟨by decide +kernel, rfl⟩
theorem d_c10_power_8 : gJ b_c10_power 8 (.if_icmp .ge 14) 3 14 11 22 := ⟨by decide +kernel, rfl, by decide⟩
theorem d_c10_power_11 : gD b_c10_power 11 (.lload_n 2) 1 12 := ⟨by decide +kernel, rfl⟩
theorem d_c10_power_12 : gD b_c10_power 12 (.iload_n 0) 1 13 := ⟨by decide +kernel, rfl⟩
theorem d_c10_power_13 : gD b_c10_power 13 .i2l 1 14 := ⟨by decide +kernel, rfl⟩
theorem d_c10_power_14 : gD b_c10_power 14 .lmul 1 15 := ⟨by decide +kernel, rfl⟩
theorem d_c10_power_15 : gD b_c10_power 15 (.lstore_n 2) 1 16 := ⟨by decide +kernel, rfl⟩
theorem d_c10_power_16 : gD b_c10_power 16 (.iinc 4 1) 3 19 := ⟨by decide +kernel, rfl⟩
theorem d_c10_power_19 : gJ b_c10_power 19 (.goto (-14)) 3 (-14) 22 5 := ⟨by decide +kernel, rfl, by decide⟩
theorem d_c10_power_22 : gD b_c10_power 22 (.lload_n 2) 1 23 := ⟨by decide +kernel, rfl⟩
theorem d_c10_power_23 : gD b_c10_power 23 .lreturn 1 24 := ⟨by decide +kernel, rfl⟩
def lp_c10_power_5 (N : Nat) (x0 : Int32) (x1 : Int32) (h : gH) : Nat → Int64 → Int32 → Option (Int64)
  | 0, _, _ => none
  | k + 1, y2, x4 =>
  if x1 ≤ x4 then
    some y2
  else
    lp_c10_power_5 N x0 x1 h k (y2 * x0.toInt64) (x4 + (1 : Int32))
def f_c10_power (N : Nat) (x0 : Int32) (x1 : Int32) (h : gH) : Option (Int64) :=
  (lp_c10_power_5 N x0 x1 h N (1 : Int64) (0 : Int32)).bind fun o2 =>
    some o2
set_option maxHeartbeats 4000000 in
set_option maxRecDepth 100000 in
theorem wlp_c10_power_5 {M : gM} {X : gX} {N : Nat} (hx : gEx X = false) (K : gC M X gN10 b_c10_power 5 (gRm (1 + N) 0 0)) (x0 : Int32) (x1 : Int32) (h : gH) : ∀ (k : Nat) (y2 : Int64) (x4 : Int32) (o : Int64), lp_c10_power_5 N x0 x1 h k y2 x4 = some o → gG M X 5 0 0 22 [(2, .long o)] [] h → gG M X 5 0 0 5 [(0, .int x0), (1, .int x1), (2, .long y2), (4, .int x4)] [] h := by
  intro k
  induction k with
  | zero =>
    intro y2 x4 o hy
    rw [lp_c10_power_5.eq_1] at hy
    cases hy
  | succ k ih =>
    intro y2 x4 o hy hE
    rw [lp_c10_power_5.eq_2] at hy
    refine g_iload K d_c10_power_5 3 rfl ?_
    refine g_iload_n K d_c10_power_7 1 rfl ?_
    refine g_icmp_ge K d_c10_power_8 (fun c1 => ?_) (fun c1 => ?_)
    · rw [if_pos c1] at hy
      refine g_sub (ls2 := [(2, .long y2)]) [2] rfl ?_
      obtain rfl := Option.some.inj hy
      exact hE
    · rw [if_neg c1] at hy
      refine g_lload_n K d_c10_power_11 2 rfl ?_
      refine g_iload_n K d_c10_power_12 0 rfl ?_
      refine g_i2l K d_c10_power_13 ?_
      refine g_lmul K d_c10_power_14 ?_
      refine g_lstore_n (ls2 := [(2, .long (y2 * x0.toInt64)), (0, .int x0), (1, .int x1), (4, .int x4)]) K d_c10_power_15 rfl rfl ?_
      refine g_iinc (ls2 := [(4, .int (x4 + (1 : Int32))), (2, .long (y2 * x0.toInt64)), (0, .int x0), (1, .int x1)]) (v := 1) K d_c10_power_16 3 rfl (by decide) rfl rfl ?_
      refine g_goto K d_c10_power_19 ?_
      refine g_sub (ls2 := [(0, .int x0), (1, .int x1), (2, .long (y2 * x0.toInt64)), (4, .int (x4 + (1 : Int32)))]) [2, 3, 1, 0] rfl ?_
      exact ih _ _ _ hy hE
set_option maxHeartbeats 4000000 in
set_option maxRecDepth 100000 in
theorem ct_c10_power (l : Launch) (X : gX) (hx : gEx X = false) (N : Nat) (x0 : Int32) (x1 : Int32) (h : gH) (q : Int64) (hy : f_c10_power N x0 x1 h = some q) : gMl l X y_c10_power b_c10_power 5 (1 + N) 0 0 [.int x0, .int x1] h q h := by
  unfold f_c10_power at hy
  refine gMet_l (lsx := [(0, .int x0), (1, .int x1)]) (by decide) rfl rfl ?_
  intro M hMl K hret
  subst hMl
  refine g_lconst (v := 1) K d_c10_power_0 (by decide) ?_
  refine g_lstore_n (ls2 := [(2, .long (1 : Int64)), (0, .int x0), (1, .int x1)]) K d_c10_power_1 rfl rfl ?_
  refine g_iconst (v := 0) K d_c10_power_2 (by decide) ?_
  refine g_istore (ls2 := [(4, .int (0 : Int32)), (2, .long (1 : Int64)), (0, .int x0), (1, .int x1)]) K d_c10_power_3 rfl rfl ?_
  obtain ⟨o2, e_o2, hy⟩ := gBd hy
  refine g_sub (ls2 := [(0, .int x0), (1, .int x1), (2, .long (1 : Int64)), (4, .int (0 : Int32))]) [2, 3, 1, 0] rfl ?_
  refine wlp_c10_power_5 hx K x0 x1 h N (1 : Int64) (0 : Int32) o2 e_o2 ?_
  refine g_lload_n K d_c10_power_22 0 rfl ?_
  obtain rfl := Option.some.inj hy
  exact hret _ _ _ d_c10_power_23
-- c10 shape
theorem d_c10_shape_0 : gD b_c10_shape 0 (.iload_n 0) 1 1 := ⟨by decide +kernel, rfl⟩
theorem d_c10_shape_1 : decode b_c10_shape 1 = .ok ((.tableswitch 103 97 115 #[91, 103, 91, 99, 103, 103, 103, 103, 103, 103, 103, 103, 103, 91, 103, 103, 103, 91, 95]), 91) := by decide +kernel
theorem d_c10_shape_92 : gD b_c10_shape 92 (.ldc_w 443) 3 95 := ⟨by decide +kernel, rfl⟩
theorem d_c10_shape_95 : gD b_c10_shape 95 .areturn 1 96 := ⟨by decide +kernel, rfl⟩
theorem d_c10_shape_96 : gD b_c10_shape 96 (.ldc_w 445) 3 99 := ⟨by decide +kernel, rfl⟩
theorem d_c10_shape_99 : gD b_c10_shape 99 .areturn 1 100 := ⟨by decide +kernel, rfl⟩
theorem d_c10_shape_100 : gD b_c10_shape 100 (.ldc_w 447) 3 103 := ⟨by decide +kernel, rfl⟩
theorem d_c10_shape_103 : gD b_c10_shape 103 .areturn 1 104 := ⟨by decide +kernel, rfl⟩
theorem d_c10_shape_104 : gD b_c10_shape 104 (.ldc_w 449) 3 107 := ⟨by decide +kernel, rfl⟩
theorem d_c10_shape_107 : gD b_c10_shape 107 .areturn 1 108 := ⟨by decide +kernel, rfl⟩
def f_c10_shape (N : Nat) (x0 : Int32) (h : gH) : Option (Nat) :=
  if x0 = (97 : Int32) then
    some 2
  else
    if x0 = (99 : Int32) then
    some 2
  else
    if x0 = (100 : Int32) then
    some 4
  else
    if x0 = (110 : Int32) then
    some 2
  else
    if x0 = (114 : Int32) then
    some 2
  else
    if x0 = (115 : Int32) then
    some 3
  else
    some 5
set_option maxHeartbeats 4000000 in
set_option maxRecDepth 100000 in
theorem ct_c10_shape (l : Launch) (X : gX) (hx : gEx X = false) (N : Nat) (x0 : Int32) (h : gH) (q : Nat) (hy : f_c10_shape N x0 h = some q) : gMr l X y_c10_shape b_c10_shape 1 (.object "java/lang/String") (1 + N) 0 0 [.int x0] h q h := by
  unfold f_c10_shape at hy
  refine gMet_r (lsx := [(0, .int x0)]) (by decide) (Or.inl ⟨_, rfl⟩) rfl rfl ?_
  intro M hMl K hret
  subst hMl
  refine g_iload_n K d_c10_shape_0 0 rfl ?_
  by_cases c1 : x0 = (97 : Int32)
  · rw [if_pos c1] at hy
    refine g_tabIn (v := (97 : Int32)) (off := 91) (tgt := 92) K d_c10_shape_1 c1 (by decide) (by decide) (by decide +kernel) (by decide) ?_
    refine g_ldcwS (i := 0) K d_c10_shape_92 (by decide) rfl ?_
    obtain rfl := Option.some.inj hy
    exact hret _ _ _ d_c10_shape_95
  rw [if_neg c1] at hy
  by_cases c2 : x0 = (99 : Int32)
  · rw [if_pos c2] at hy
    refine g_tabIn (v := (99 : Int32)) (off := 91) (tgt := 92) K d_c10_shape_1 c2 (by decide) (by decide) (by decide +kernel) (by decide) ?_
    refine g_ldcwS (i := 0) K d_c10_shape_92 (by decide) rfl ?_
    obtain rfl := Option.some.inj hy
    exact hret _ _ _ d_c10_shape_95
  rw [if_neg c2] at hy
  by_cases c3 : x0 = (100 : Int32)
  · rw [if_pos c3] at hy
    refine g_tabIn (v := (100 : Int32)) (off := 99) (tgt := 100) K d_c10_shape_1 c3 (by decide) (by decide) (by decide +kernel) (by decide) ?_
    refine g_ldcwS (i := 2) K d_c10_shape_100 (by decide) rfl ?_
    obtain rfl := Option.some.inj hy
    exact hret _ _ _ d_c10_shape_103
  rw [if_neg c3] at hy
  by_cases c4 : x0 = (110 : Int32)
  · rw [if_pos c4] at hy
    refine g_tabIn (v := (110 : Int32)) (off := 91) (tgt := 92) K d_c10_shape_1 c4 (by decide) (by decide) (by decide +kernel) (by decide) ?_
    refine g_ldcwS (i := 0) K d_c10_shape_92 (by decide) rfl ?_
    obtain rfl := Option.some.inj hy
    exact hret _ _ _ d_c10_shape_95
  rw [if_neg c4] at hy
  by_cases c5 : x0 = (114 : Int32)
  · rw [if_pos c5] at hy
    refine g_tabIn (v := (114 : Int32)) (off := 91) (tgt := 92) K d_c10_shape_1 c5 (by decide) (by decide) (by decide +kernel) (by decide) ?_
    refine g_ldcwS (i := 0) K d_c10_shape_92 (by decide) rfl ?_
    obtain rfl := Option.some.inj hy
    exact hret _ _ _ d_c10_shape_95
  rw [if_neg c5] at hy
  by_cases c6 : x0 = (115 : Int32)
  · rw [if_pos c6] at hy
    refine g_tabIn (v := (115 : Int32)) (off := 95) (tgt := 96) K d_c10_shape_1 c6 (by decide) (by decide) (by decide +kernel) (by decide) ?_
    refine g_ldcwS (i := 1) K d_c10_shape_96 (by decide) rfl ?_
    obtain rfl := Option.some.inj hy
    exact hret _ _ _ d_c10_shape_99
  rw [if_neg c6] at hy
  refine g_tabD (tgt := 104) [(97 : Int32), (99 : Int32), (100 : Int32), (110 : Int32), (114 : Int32), (115 : Int32)] K d_c10_shape_1 (List.forall_mem_cons.mpr ⟨c1, (List.forall_mem_cons.mpr ⟨c2, (List.forall_mem_cons.mpr ⟨c3, (List.forall_mem_cons.mpr ⟨c4, (List.forall_mem_cons.mpr ⟨c5, (List.forall_mem_cons.mpr ⟨c6, (fun _ h => absurd h List.not_mem_nil)⟩)⟩)⟩)⟩)⟩)⟩) (by decide +kernel) (by decide) ?_
  refine g_ldcwS (i := 3) K d_c10_shape_104 (by decide) rfl ?_
  obtain rfl := Option.some.inj hy
  exact hret _ _ _ d_c10_shape_107
-- c10 stands
theorem d_c10_stands_0 : gD b_c10_stands 0 (.iload_n 0) 1 1 := ⟨by decide +kernel, rfl⟩
theorem d_c10_stands_1 : gD b_c10_stands 1 (.bipush 46) 2 3 := ⟨by decide +kernel, rfl⟩
theorem d_c10_stands_3 : gJ b_c10_stands 3 (.if_icmp .ne 21) 3 21 6 24 := ⟨by decide +kernel, rfl, by decide⟩
theorem d_c10_stands_6 : gD b_c10_stands 6 (.iload_n 1) 1 7 := ⟨by decide +kernel, rfl⟩
theorem d_c10_stands_7 : gD b_c10_stands 7 (.bipush 46) 2 9 := ⟨by decide +kernel, rfl⟩
theorem d_c10_stands_9 : gJ b_c10_stands 9 (.if_icmp .eq 9) 3 9 12 18 := ⟨by decide +kernel, rfl, by decide⟩
theorem d_c10_stands_12 : gD b_c10_stands 12 (.iload_n 1) 1 13 := ⟨by decide +kernel, rfl⟩
theorem d_c10_stands_13 : gD b_c10_stands 13 (.bipush 44) 2 15 := ⟨by decide +kernel, rfl⟩
theorem d_c10_stands_15 : gJ b_c10_stands 15 (.if_icmp .ne 7) 3 7 18 22 := ⟨by decide +kernel, rfl, by decide⟩
theorem d_c10_stands_18 : gD b_c10_stands 18 (.iconst 1) 1 19 := ⟨by decide +kernel, rfl⟩
theorem d_c10_stands_19 : gJ b_c10_stands 19 (.goto 4) 3 4 22 23 := ⟨by decide +kernel, rfl, by decide⟩
theorem d_c10_stands_22 : gD b_c10_stands 22 (.iconst 0) 1 23 := ⟨by decide +kernel, rfl⟩
theorem d_c10_stands_23 : gD b_c10_stands 23 .ireturn 1 24 := ⟨by decide +kernel, rfl⟩
theorem d_c10_stands_24 : gD b_c10_stands 24 (.iload_n 1) 1 25 := ⟨by decide +kernel, rfl⟩
theorem d_c10_stands_25 : gD b_c10_stands 25 (.iload_n 0) 1 26 := ⟨by decide +kernel, rfl⟩
theorem d_c10_stands_26 : gJ b_c10_stands 26 (.if_icmp .lt 13) 3 13 29 39 := ⟨by decide +kernel, rfl, by decide⟩
theorem d_c10_stands_29 : gD b_c10_stands 29 (.iload_n 1) 1 30 := ⟨by decide +kernel, rfl⟩
theorem d_c10_stands_30 : gD b_c10_stands 30 (.bipush 57) 2 32 := ⟨by decide +kernel, rfl⟩
theorem d_c10_stands_32 : gJ b_c10_stands 32 (.if_icmp .gt 7) 3 7 35 39 := ⟨by decide +kernel, rfl, by decide⟩
theorem d_c10_stands_35 : gD b_c10_stands 35 (.iconst 1) 1 36 := ⟨by decide +kernel, rfl⟩
theorem d_c10_stands_36 : gJ b_c10_stands 36 (.goto 4) 3 4 39 40 := ⟨by decide +kernel, rfl, by decide⟩
theorem d_c10_stands_39 : gD b_c10_stands 39 (.iconst 0) 1 40 := ⟨by decide +kernel, rfl⟩
theorem d_c10_stands_40 : gD b_c10_stands 40 .ireturn 1 41 := ⟨by decide +kernel, rfl⟩
def f_c10_stands (N : Nat) (x0 : Int32) (x1 : Int32) (h : gH) : Option (Int32) :=
  if x0 = (46 : Int32) then
    (gZ (if x1 = (46 : Int32) then (1 : Int32) else (if x1 = (44 : Int32) then (1 : Int32) else (0 : Int32)))).bind fun w10 => some w10
  else
    (gZ (if x1 < x0 then (0 : Int32) else (if (57 : Int32) < x1 then (0 : Int32) else (1 : Int32)))).bind fun w5 => some w5
set_option maxHeartbeats 4000000 in
set_option maxRecDepth 100000 in
theorem ct_c10_stands (l : Launch) (X : gX) (hx : gEx X = false) (N : Nat) (x0 : Int32) (x1 : Int32) (h : gH) (q : Int32) (hy : f_c10_stands N x0 x1 h = some q) : gMi l X y_c10_stands b_c10_stands 2 .boolean (1 + N) 0 0 [.int x0, .int x1] h q h := by
  unfold f_c10_stands at hy
  refine gMet_i (lsx := [(0, .int x0), (1, .int x1)]) (by decide) rfl rfl ?_
  intro M hMl K hret
  subst hMl
  refine g_iload_n K d_c10_stands_0 0 rfl ?_
  refine g_bipush (v := 46) K d_c10_stands_1 (by decide) ?_
  refine g_icmp_ne K d_c10_stands_3 (fun c1 => ?_) (fun c1 => ?_)
  · rw [if_neg c1] at hy
    refine g_iload_n K d_c10_stands_24 1 rfl ?_
    refine g_iload_n K d_c10_stands_25 0 rfl ?_
    have hJ4 : ∀ w3 : Int32, w3 = (if x1 < x0 then (0 : Int32) else (if (57 : Int32) < x1 then (0 : Int32) else (1 : Int32))) → gG M X 2 0 0 40 [(0, .int x0), (1, .int x1)] [.int w3] h := by
      intro w3 e_w3
      subst e_w3
      obtain ⟨w5, e_w5, hy⟩ := gBd hy
      obtain ⟨z_w5, n_w5⟩ := gZ_spec e_w5
      rw [z_w5]
      obtain rfl := Option.some.inj hy
      exact hret (gZn n_w5) _ _ _ d_c10_stands_40
    refine g_icmp_lt K d_c10_stands_26 (fun c2 => ?_) (fun c2 => ?_)
    · refine g_iconst (v := 0) K d_c10_stands_39 (by decide) ?_
      exact hJ4 _ (by rw [if_pos c2])
    · refine g_iload_n K d_c10_stands_29 1 rfl ?_
      refine g_bipush (v := 57) K d_c10_stands_30 (by decide) ?_
      refine g_icmp_gt K d_c10_stands_32 (fun c6 => ?_) (fun c6 => ?_)
      · refine g_iconst (v := 0) K d_c10_stands_39 (by decide) ?_
        exact hJ4 _ (by rw [if_neg c2, if_pos c6])
      · refine g_iconst (v := 1) K d_c10_stands_35 (by decide) ?_
        refine g_goto K d_c10_stands_36 ?_
        exact hJ4 _ (by rw [if_neg c2, if_neg c6])
  · rw [if_pos c1] at hy
    refine g_iload_n K d_c10_stands_6 1 rfl ?_
    refine g_bipush (v := 46) K d_c10_stands_7 (by decide) ?_
    have hJ9 : ∀ w8 : Int32, w8 = (if x1 = (46 : Int32) then (1 : Int32) else (if x1 = (44 : Int32) then (1 : Int32) else (0 : Int32))) → gG M X 2 0 0 23 [(0, .int x0), (1, .int x1)] [.int w8] h := by
      intro w8 e_w8
      subst e_w8
      obtain ⟨w10, e_w10, hy⟩ := gBd hy
      obtain ⟨z_w10, n_w10⟩ := gZ_spec e_w10
      rw [z_w10]
      obtain rfl := Option.some.inj hy
      exact hret (gZn n_w10) _ _ _ d_c10_stands_23
    refine g_icmp_eq K d_c10_stands_9 (fun c7 => ?_) (fun c7 => ?_)
    · refine g_iconst (v := 1) K d_c10_stands_18 (by decide) ?_
      refine g_goto K d_c10_stands_19 ?_
      exact hJ9 _ (by rw [if_pos c7])
    · refine g_iload_n K d_c10_stands_12 1 rfl ?_
      refine g_bipush (v := 44) K d_c10_stands_13 (by decide) ?_
      refine g_icmp_ne K d_c10_stands_15 (fun c11 => ?_) (fun c11 => ?_)
      · refine g_iconst (v := 0) K d_c10_stands_22 (by decide) ?_
        exact hJ9 _ (by rw [if_neg c7, if_neg c11])
      · refine g_iconst (v := 1) K d_c10_stands_18 (by decide) ?_
        refine g_goto K d_c10_stands_19 ?_
        exact hJ9 _ (by rw [if_neg c7, if_pos c11])
-- c10 talkIsWorth
theorem d_c10_talkIsWorth_0 : gD b_c10_talkIsWorth 0 (.iload_n 0) 1 1 := ⟨by decide +kernel, rfl⟩
theorem d_c10_talkIsWorth_1 : gD b_c10_talkIsWorth 1 (.bipush 6) 2 3 := ⟨by decide +kernel, rfl⟩
theorem d_c10_talkIsWorth_3 : gJ b_c10_talkIsWorth 3 (.if_icmp .gt 7) 3 7 6 10 := ⟨by decide +kernel, rfl, by decide⟩
theorem d_c10_talkIsWorth_6 : gD b_c10_talkIsWorth 6 (.iload_n 0) 1 7 := ⟨by decide +kernel, rfl⟩
theorem d_c10_talkIsWorth_7 : gJ b_c10_talkIsWorth 7 (.goto 7) 3 7 10 14 := ⟨by decide +kernel, rfl, by decide⟩
theorem d_c10_talkIsWorth_10 : gD b_c10_talkIsWorth 10 (.bipush 12) 2 12 := ⟨by decide +kernel, rfl⟩
theorem d_c10_talkIsWorth_12 : gD b_c10_talkIsWorth 12 (.iload_n 0) 1 13 := ⟨by decide +kernel, rfl⟩
theorem d_c10_talkIsWorth_13 : gD b_c10_talkIsWorth 13 .isub 1 14 := ⟨by decide +kernel, rfl⟩
theorem d_c10_talkIsWorth_14 : gD b_c10_talkIsWorth 14 (.istore_n 3) 1 15 := ⟨by decide +kernel, rfl⟩
theorem d_c10_talkIsWorth_15 : gD b_c10_talkIsWorth 15 (.iload_n 0) 1 16 := ⟨by decide +kernel, rfl⟩
theorem d_c10_talkIsWorth_16 : gD b_c10_talkIsWorth 16 (.iload_n 1) 1 17 := ⟨by decide +kernel, rfl⟩
theorem d_c10_talkIsWorth_17 : gJ b_c10_talkIsWorth 17 (.if_icmp .ne 9) 3 9 20 26 := ⟨by decide +kernel, rfl, by decide⟩
theorem d_c10_talkIsWorth_20 : gD b_c10_talkIsWorth 20 (.iload_n 3) 1 21 := ⟨by decide +kernel, rfl⟩
theorem d_c10_talkIsWorth_21 : gD b_c10_talkIsWorth 21 (.iload_n 2) 1 22 := ⟨by decide +kernel, rfl⟩
theorem d_c10_talkIsWorth_22 : gD b_c10_talkIsWorth 22 (.iconst 2) 1 23 := ⟨by decide +kernel, rfl⟩
theorem d_c10_talkIsWorth_23 : gD b_c10_talkIsWorth 23 .idiv 1 24 := ⟨by decide +kernel, rfl⟩
theorem d_c10_talkIsWorth_24 : gD b_c10_talkIsWorth 24 .iadd 1 25 := ⟨by decide +kernel, rfl⟩
theorem d_c10_talkIsWorth_25 : gD b_c10_talkIsWorth 25 .ireturn 1 26 := ⟨by decide +kernel, rfl⟩
theorem d_c10_talkIsWorth_26 : gD b_c10_talkIsWorth 26 (.iload_n 0) 1 27 := ⟨by decide +kernel, rfl⟩
theorem d_c10_talkIsWorth_27 : gD b_c10_talkIsWorth 27 (.iload_n 1) 1 28 := ⟨by decide +kernel, rfl⟩
theorem d_c10_talkIsWorth_28 : gJ b_c10_talkIsWorth 28 (.if_icmp .ge 9) 3 9 31 37 := ⟨by decide +kernel, rfl, by decide⟩
theorem d_c10_talkIsWorth_31 : gD b_c10_talkIsWorth 31 (.iload_n 3) 1 32 := ⟨by decide +kernel, rfl⟩
theorem d_c10_talkIsWorth_32 : gD b_c10_talkIsWorth 32 (.iload_n 2) 1 33 := ⟨by decide +kernel, rfl⟩
theorem d_c10_talkIsWorth_33 : gD b_c10_talkIsWorth 33 .iadd 1 34 := ⟨by decide +kernel, rfl⟩
theorem d_c10_talkIsWorth_34 : gJ b_c10_talkIsWorth 34 (.goto 4) 3 4 37 38 := ⟨by decide +kernel, rfl, by decide⟩
theorem d_c10_talkIsWorth_37 : gD b_c10_talkIsWorth 37 (.iload_n 3) 1 38 := ⟨by decide +kernel, rfl⟩
theorem d_c10_talkIsWorth_38 : gD b_c10_talkIsWorth 38 .ireturn 1 39 := ⟨by decide +kernel, rfl⟩
def f_c10_talkIsWorth (N : Nat) (x0 : Int32) (x1 : Int32) (x2 : Int32) (h : gH) : Option (Int32) :=
  if x0 = x1 then
    (gNZ (2 : Int32)).bind fun u8 =>
    some ((if (6 : Int32) < x0 then (12 : Int32) - x0 else x0) + (x2 / (2 : Int32)))
  else
    some (if x1 ≤ x0 then (if (6 : Int32) < x0 then (12 : Int32) - x0 else x0) else (if (6 : Int32) < x0 then (12 : Int32) - x0 else x0) + x2)
set_option maxHeartbeats 4000000 in
set_option maxRecDepth 100000 in
theorem ct_c10_talkIsWorth (l : Launch) (X : gX) (hx : gEx X = false) (N : Nat) (x0 : Int32) (x1 : Int32) (x2 : Int32) (h : gH) (q : Int32) (hy : f_c10_talkIsWorth N x0 x1 x2 h = some q) : gMi l X y_c10_talkIsWorth b_c10_talkIsWorth 4 .int (1 + N) 0 0 [.int x0, .int x1, .int x2] h q h := by
  unfold f_c10_talkIsWorth at hy
  refine gMet_i (lsx := [(0, .int x0), (1, .int x1), (2, .int x2)]) (by decide) rfl rfl ?_
  intro M hMl K hret
  subst hMl
  refine g_iload_n K d_c10_talkIsWorth_0 0 rfl ?_
  refine g_bipush (v := 6) K d_c10_talkIsWorth_1 (by decide) ?_
  have hJ3 : ∀ w2 : Int32, w2 = (if (6 : Int32) < x0 then (12 : Int32) - x0 else x0) → gG M X 4 0 0 14 [(0, .int x0), (1, .int x1), (2, .int x2)] [.int w2] h := by
    intro w2 e_w2
    subst e_w2
    refine g_istore_n (ls2 := [(3, .int (if (6 : Int32) < x0 then (12 : Int32) - x0 else x0)), (0, .int x0), (1, .int x1), (2, .int x2)]) K d_c10_talkIsWorth_14 rfl rfl ?_
    refine g_iload_n K d_c10_talkIsWorth_15 1 rfl ?_
    refine g_iload_n K d_c10_talkIsWorth_16 2 rfl ?_
    refine g_icmp_ne K d_c10_talkIsWorth_17 (fun c4 => ?_) (fun c4 => ?_)
    · rw [if_neg c4] at hy
      refine g_iload_n K d_c10_talkIsWorth_26 1 rfl ?_
      refine g_iload_n K d_c10_talkIsWorth_27 2 rfl ?_
      have hJ7 : ∀ w6 : Int32, w6 = (if x1 ≤ x0 then (if (6 : Int32) < x0 then (12 : Int32) - x0 else x0) else (if (6 : Int32) < x0 then (12 : Int32) - x0 else x0) + x2) → gG M X 4 0 0 38 [(3, .int (if (6 : Int32) < x0 then (12 : Int32) - x0 else x0)), (0, .int x0), (1, .int x1), (2, .int x2)] [.int w6] h := by
        intro w6 e_w6
        subst e_w6
        obtain rfl := Option.some.inj hy
        exact hret rfl _ _ _ d_c10_talkIsWorth_38
      refine g_icmp_ge K d_c10_talkIsWorth_28 (fun c5 => ?_) (fun c5 => ?_)
      · refine g_iload_n K d_c10_talkIsWorth_37 0 rfl ?_
        exact hJ7 _ (by rw [if_pos c5])
      · refine g_iload_n K d_c10_talkIsWorth_31 0 rfl ?_
        refine g_iload_n K d_c10_talkIsWorth_32 3 rfl ?_
        refine g_iadd K d_c10_talkIsWorth_33 ?_
        refine g_goto K d_c10_talkIsWorth_34 ?_
        exact hJ7 _ (by rw [if_neg c5])
    · rw [if_pos c4] at hy
      refine g_iload_n K d_c10_talkIsWorth_20 0 rfl ?_
      refine g_iload_n K d_c10_talkIsWorth_21 3 rfl ?_
      refine g_iconst (v := 2) K d_c10_talkIsWorth_22 (by decide) ?_
      obtain ⟨u8, e_u8, hy⟩ := gBd hy
      refine g_idiv K d_c10_talkIsWorth_23 e_u8 ?_
      refine g_iadd K d_c10_talkIsWorth_24 ?_
      obtain rfl := Option.some.inj hy
      exact hret rfl _ _ _ d_c10_talkIsWorth_25
  refine g_icmp_gt K d_c10_talkIsWorth_3 (fun c1 => ?_) (fun c1 => ?_)
  · refine g_bipush (v := 12) K d_c10_talkIsWorth_10 (by decide) ?_
    refine g_iload_n K d_c10_talkIsWorth_12 0 rfl ?_
    refine g_isub K d_c10_talkIsWorth_13 ?_
    exact hJ3 _ (by rw [if_pos c1])
  · refine g_iload_n K d_c10_talkIsWorth_6 0 rfl ?_
    refine g_goto K d_c10_talkIsWorth_7 ?_
    exact hJ3 _ (by rw [if_neg c1])
-- c10 winningSquare
theorem d_c10_winningSquare_0 : gD b_c10_winningSquare 0 (.iconst 1) 1 1 := ⟨by decide +kernel, rfl⟩
theorem d_c10_winningSquare_1 : gD b_c10_winningSquare 1 (.istore_n 3) 1 2 := ⟨by decide +kernel, rfl⟩
theorem d_c10_winningSquare_2 : gD b_c10_winningSquare 2 (.iload_n 3) 1 3 := ⟨by decide +kernel, rfl⟩
theorem d_c10_winningSquare_3 : gD b_c10_winningSquare 3 (.iload_n 3) 1 4 := ⟨by decide +kernel, rfl⟩
theorem d_c10_winningSquare_4 : gD b_c10_winningSquare 4 .imul 1 5 := ⟨by decide +kernel, rfl⟩
theorem d_c10_winningSquare_5 : gD b_c10_winningSquare 5 (.iload_n 0) 1 6 := ⟨by decide +kernel, rfl⟩
theorem d_c10_winningSquare_6 : gJ b_c10_winningSquare 6 (.if_icmp .gt 27) 3 27 9 33 := ⟨by decide +kernel, rfl, by decide⟩
theorem d_c10_winningSquare_9 : gD b_c10_winningSquare 9 (.lload_n 1) 1 10 := ⟨by decide +kernel, rfl⟩
theorem d_c10_winningSquare_10 : gD b_c10_winningSquare 10 (.iload_n 0) 1 11 := ⟨by decide +kernel, rfl⟩
theorem d_c10_winningSquare_11 : gD b_c10_winningSquare 11 (.iload_n 3) 1 12 := ⟨by decide +kernel, rfl⟩
theorem d_c10_winningSquare_12 : gD b_c10_winningSquare 12 (.iload_n 3) 1 13 := ⟨by decide +kernel, rfl⟩
theorem d_c10_winningSquare_13 : gD b_c10_winningSquare 13 .imul 1 14 := ⟨by decide +kernel, rfl⟩
theorem d_c10_winningSquare_14 : gD b_c10_winningSquare 14 .isub 1 15 := ⟨by decide +kernel, rfl⟩
theorem d_c10_winningSquare_15 : gD b_c10_winningSquare 15 .lushr 1 16 := ⟨by decide +kernel, rfl⟩
theorem d_c10_winningSquare_16 : gD b_c10_winningSquare 16 (.lconst 1) 1 17 := ⟨by decide +kernel, rfl⟩
theorem d_c10_winningSquare_17 : gD b_c10_winningSquare 17 .land 1 18 := ⟨by decide +kernel, rfl⟩
theorem d_c10_winningSquare_18 : gD b_c10_winningSquare 18 (.lconst 1) 1 19 := ⟨by decide +kernel, rfl⟩
theorem d_c10_winningSquare_19 : gD b_c10_winningSquare 19 .lcmp 1 20 := ⟨by decide +kernel, rfl⟩
theorem d_c10_winningSquare_20 : gJ b_c10_winningSquare 20 (.ifCond .ne 7) 3 7 23 27 := ⟨by decide +kernel, rfl, by decide⟩
theorem d_c10_winningSquare_23 : gD b_c10_winningSquare 23 (.iload_n 3) 1 24 := ⟨by decide +kernel, rfl⟩
theorem d_c10_winningSquare_24 : gD b_c10_winningSquare 24 (.iload_n 3) 1 25 := ⟨by decide +kernel, rfl⟩
theorem d_c10_winningSquare_25 : gD b_c10_winningSquare 25 .imul 1 26 := ⟨by decide +kernel, rfl⟩
theorem d_c10_winningSquare_26 : gD b_c10_winningSquare 26 .ireturn 1 27 := ⟨by decide +kernel, rfl⟩
theorem d_c10_winningSquare_27 : gD b_c10_winningSquare 27 (.iinc 3 1) 3 30 := ⟨by decide +kernel, rfl⟩
theorem d_c10_winningSquare_30 : gJ b_c10_winningSquare 30 (.goto (-28)) 3 (-28) 33 2 := ⟨by decide +kernel, rfl, by decide⟩
theorem d_c10_winningSquare_33 : gD b_c10_winningSquare 33 (.iconst 0) 1 34 := ⟨by decide +kernel, rfl⟩
theorem d_c10_winningSquare_34 : gD b_c10_winningSquare 34 .ireturn 1 35 := ⟨by decide +kernel, rfl⟩
def lp_c10_winningSquare_2 (N : Nat) (x0 : Int32) (y1 : Int64) (h : gH) : Nat → Int32 → Option ((Int32) ⊕ (Unit))
  | 0, _ => none
  | k + 1, x3 =>
  if x0 < (x3 * x3) then
    some (.inr ())
  else
    if (lg_cmp (((y1.toUInt64 >>> ((x0 - (x3 * x3)).toInt64.toUInt64 &&& Int64.toUInt64 63)).toInt64) &&& (1 : Int64)) (1 : Int64)) = 0 then
    some (.inl (x3 * x3))
  else
    lp_c10_winningSquare_2 N x0 y1 h k (x3 + (1 : Int32))
def f_c10_winningSquare (N : Nat) (x0 : Int32) (y1 : Int64) (h : gH) : Option (Int32) :=
  (lp_c10_winningSquare_2 N x0 y1 h N (1 : Int32)).bind fun o3 => Sum.elim (fun r5 => some r5) (fun t4 =>
    some (0 : Int32)) o3
set_option maxHeartbeats 4000000 in
set_option maxRecDepth 100000 in
theorem wlp_c10_winningSquare_2 {M : gM} {X : gX} {N : Nat} (hx : gEx X = false) (K : gC M X gN10 b_c10_winningSquare 4 (gRm (1 + N) 0 0)) (x0 : Int32) (y1 : Int64) (h : gH) : ∀ (k : Nat) (x3 : Int32) (o : (Int32) ⊕ (Unit)), lp_c10_winningSquare_2 N x0 y1 h k x3 = some o → (∀ t, o = .inr t → gG M X 4 0 0 33 [] [] h) → (∀ r, o = .inl r → (narrow .int (.int r) = .int r → ∀ pc pc' ls, gD b_c10_winningSquare pc .ireturn 1 pc' → gG M X 4 0 0 pc ls [.int r] h)) → gG M X 4 0 0 2 [(0, .int x0), (1, .long y1), (3, .int x3)] [] h := by
  intro k
  induction k with
  | zero =>
    intro x3 o hy
    rw [lp_c10_winningSquare_2.eq_1] at hy
    cases hy
  | succ k ih =>
    intro x3 o hy hE hR
    rw [lp_c10_winningSquare_2.eq_2] at hy
    refine g_iload_n K d_c10_winningSquare_2 2 rfl ?_
    refine g_iload_n K d_c10_winningSquare_3 2 rfl ?_
    refine g_imul K d_c10_winningSquare_4 ?_
    refine g_iload_n K d_c10_winningSquare_5 0 rfl ?_
    refine g_icmp_gt K d_c10_winningSquare_6 (fun c1 => ?_) (fun c1 => ?_)
    · rw [if_pos c1] at hy
      refine g_sub (ls2 := []) [] rfl ?_
      obtain rfl := Option.some.inj hy
      exact hE _ rfl
    · rw [if_neg c1] at hy
      refine g_lload_n K d_c10_winningSquare_9 1 rfl ?_
      refine g_iload_n K d_c10_winningSquare_10 0 rfl ?_
      refine g_iload_n K d_c10_winningSquare_11 2 rfl ?_
      refine g_iload_n K d_c10_winningSquare_12 2 rfl ?_
      refine g_imul K d_c10_winningSquare_13 ?_
      refine g_isub K d_c10_winningSquare_14 ?_
      refine g_lushr K d_c10_winningSquare_15 ?_
      refine g_lconst (v := 1) K d_c10_winningSquare_16 (by decide) ?_
      refine g_land K d_c10_winningSquare_17 ?_
      refine g_lconst (v := 1) K d_c10_winningSquare_18 (by decide) ?_
      refine g_lcmp K d_c10_winningSquare_19 ?_
      refine g_if_ne K d_c10_winningSquare_20 (fun c2 => ?_) (fun c2 => ?_)
      · rw [if_neg c2] at hy
        refine g_iinc (ls2 := [(3, .int (x3 + (1 : Int32))), (0, .int x0), (1, .long y1)]) (v := 1) K d_c10_winningSquare_27 2 rfl (by decide) rfl rfl ?_
        refine g_goto K d_c10_winningSquare_30 ?_
        refine g_sub (ls2 := [(0, .int x0), (1, .long y1), (3, .int (x3 + (1 : Int32)))]) [1, 2, 0] rfl ?_
        exact ih _ _ hy hE hR
      · rw [if_pos c2] at hy
        refine g_iload_n K d_c10_winningSquare_23 2 rfl ?_
        refine g_iload_n K d_c10_winningSquare_24 2 rfl ?_
        refine g_imul K d_c10_winningSquare_25 ?_
        obtain rfl := Option.some.inj hy
        exact hR _ rfl rfl _ _ _ d_c10_winningSquare_26
set_option maxHeartbeats 4000000 in
set_option maxRecDepth 100000 in
theorem ct_c10_winningSquare (l : Launch) (X : gX) (hx : gEx X = false) (N : Nat) (x0 : Int32) (y1 : Int64) (h : gH) (q : Int32) (hy : f_c10_winningSquare N x0 y1 h = some q) : gMi l X y_c10_winningSquare b_c10_winningSquare 4 .int (1 + N) 0 0 [.int x0, .long y1] h q h := by
  unfold f_c10_winningSquare at hy
  refine gMet_i (lsx := [(0, .int x0), (1, .long y1)]) (by decide) rfl rfl ?_
  intro M hMl K hret
  subst hMl
  refine g_iconst (v := 1) K d_c10_winningSquare_0 (by decide) ?_
  refine g_istore_n (ls2 := [(3, .int (1 : Int32)), (0, .int x0), (1, .long y1)]) K d_c10_winningSquare_1 rfl rfl ?_
  obtain ⟨o3, e_o3, hy⟩ := gBd hy
  refine g_sub (ls2 := [(0, .int x0), (1, .long y1), (3, .int (1 : Int32))]) [1, 2, 0] rfl ?_
  refine wlp_c10_winningSquare_2 hx K x0 y1 h N (1 : Int32) o3 e_o3 (fun t4 e_t4 => ?_) (fun r5 e_r5 => ?_)
  · subst e_t4
    simp only [Sum.elim_inr] at hy
    refine g_iconst (v := 0) K d_c10_winningSquare_33 (by decide) ?_
    obtain rfl := Option.some.inj hy
    exact hret rfl _ _ _ d_c10_winningSquare_34
  · subst e_r5
    simp only [Sum.elim_inl] at hy
    intro hn pc9 pc9' ls9 hd9
    obtain rfl := Option.some.inj hy
    exact hret hn _ _ _ hd9
-- c11 add
theorem d_c11_add_0 : gD b_c11_add 0 (.aload_n 0) 1 1 := ⟨by decide +kernel, rfl⟩
theorem d_c11_add_1 : gD b_c11_add 1 (.bipush 40) 2 3 := ⟨by decide +kernel, rfl⟩
theorem d_c11_add_3 : gD b_c11_add 3 .iaload 1 4 := ⟨by decide +kernel, rfl⟩
theorem d_c11_add_4 : gD b_c11_add 4 (.istore 4) 2 6 := ⟨by decide +kernel, rfl⟩
theorem d_c11_add_6 : gD b_c11_add 6 (.aload_n 0) 1 7 := ⟨by decide +kernel, rfl⟩
theorem d_c11_add_7 : gD b_c11_add 7 (.iload 4) 2 9 := ⟨by decide +kernel, rfl⟩
theorem d_c11_add_9 : gD b_c11_add 9 (.iload_n 1) 1 10 := ⟨by decide +kernel, rfl⟩
theorem d_c11_add_10 : gD b_c11_add 10 .iastore 1 11 := ⟨by decide +kernel, rfl⟩
theorem d_c11_add_11 : gD b_c11_add 11 (.aload_n 0) 1 12 := ⟨by decide +kernel, rfl⟩
theorem d_c11_add_12 : gD b_c11_add 12 (.bipush 8) 2 14 := ⟨by decide +kernel, rfl⟩
theorem d_c11_add_14 : gD b_c11_add 14 (.iload 4) 2 16 := ⟨by decide +kernel, rfl⟩
theorem d_c11_add_16 : gD b_c11_add 16 .iadd 1 17 := ⟨by decide +kernel, rfl⟩
theorem d_c11_add_17 : gD b_c11_add 17 (.iload_n 2) 1 18 := ⟨by decide +kernel, rfl⟩
theorem d_c11_add_18 : gD b_c11_add 18 .iastore 1 19 := ⟨by decide +kernel, rfl⟩
theorem d_c11_add_19 : gD b_c11_add 19 (.aload_n 0) 1 20 := ⟨by decide +kernel, rfl⟩
theorem d_c11_add_20 : gD b_c11_add 20 (.bipush 16) 2 22 := ⟨by decide +kernel, rfl⟩
theorem d_c11_add_22 : gD b_c11_add 22 (.iload 4) 2 24 := ⟨by decide +kernel, rfl⟩
theorem d_c11_add_24 : gD b_c11_add 24 .iadd 1 25 := ⟨by decide +kernel, rfl⟩
theorem d_c11_add_25 : gD b_c11_add 25 (.iload_n 3) 1 26 := ⟨by decide +kernel, rfl⟩
theorem d_c11_add_26 : gD b_c11_add 26 .iastore 1 27 := ⟨by decide +kernel, rfl⟩
theorem d_c11_add_27 : gD b_c11_add 27 (.aload_n 0) 1 28 := ⟨by decide +kernel, rfl⟩
theorem d_c11_add_28 : gD b_c11_add 28 (.bipush 24) 2 30 := ⟨by decide +kernel, rfl⟩
theorem d_c11_add_30 : gD b_c11_add 30 (.iload 4) 2 32 := ⟨by decide +kernel, rfl⟩
theorem d_c11_add_32 : gD b_c11_add 32 .iadd 1 33 := ⟨by decide +kernel, rfl⟩
theorem d_c11_add_33 : gD b_c11_add 33 (.iconst 0) 1 34 := ⟨by decide +kernel, rfl⟩
theorem d_c11_add_34 : gD b_c11_add 34 .iastore 1 35 := ⟨by decide +kernel, rfl⟩
theorem d_c11_add_35 : gD b_c11_add 35 (.aload_n 0) 1 36 := ⟨by decide +kernel, rfl⟩
theorem d_c11_add_36 : gD b_c11_add 36 (.bipush 32) 2 38 := ⟨by decide +kernel, rfl⟩
theorem d_c11_add_38 : gD b_c11_add 38 (.iload 4) 2 40 := ⟨by decide +kernel, rfl⟩
theorem d_c11_add_40 : gD b_c11_add 40 .iadd 1 41 := ⟨by decide +kernel, rfl⟩
theorem d_c11_add_41 : gD b_c11_add 41 (.iconst 0) 1 42 := ⟨by decide +kernel, rfl⟩
theorem d_c11_add_42 : gD b_c11_add 42 .iastore 1 43 := ⟨by decide +kernel, rfl⟩
theorem d_c11_add_43 : gD b_c11_add 43 (.aload_n 0) 1 44 := ⟨by decide +kernel, rfl⟩
theorem d_c11_add_44 : gD b_c11_add 44 (.bipush 40) 2 46 := ⟨by decide +kernel, rfl⟩
theorem d_c11_add_46 : gD b_c11_add 46 (.iload 4) 2 48 := ⟨by decide +kernel, rfl⟩
theorem d_c11_add_48 : gD b_c11_add 48 (.iconst 1) 1 49 := ⟨by decide +kernel, rfl⟩
theorem d_c11_add_49 : gD b_c11_add 49 .iadd 1 50 := ⟨by decide +kernel, rfl⟩
theorem d_c11_add_50 : gD b_c11_add 50 .iastore 1 51 := ⟨by decide +kernel, rfl⟩
theorem d_c11_add_51 : gD b_c11_add 51 .return_ 1 52 := ⟨by decide +kernel, rfl⟩
def f_c11_add (N : Nat) (a0 : Nat) (x1 : Int32) (x2 : Int32) (x3 : Int32) (h : gH) : Option (gH) :=
  (ga 0 h a0 (40 : Int32)).bind fun v1 =>
    (sa 0 h a0 v1 x1).bind fun h2 =>
    (sa 0 h2 a0 ((8 : Int32) + v1) x2).bind fun h3 =>
    (sa 0 h3 a0 ((16 : Int32) + v1) x3).bind fun h4 =>
    (sa 0 h4 a0 ((24 : Int32) + v1) (0 : Int32)).bind fun h5 =>
    (sa 0 h5 a0 ((32 : Int32) + v1) (0 : Int32)).bind fun h6 =>
    (sa 0 h6 a0 (40 : Int32) (v1 + (1 : Int32))).bind fun h7 =>
    some h7
set_option maxHeartbeats 4000000 in
set_option maxRecDepth 100000 in
theorem ct_c11_add (l : Launch) (X : gX) (hx : gEx X = false) (N : Nat) (a0 : Nat) (x1 : Int32) (x2 : Int32) (x3 : Int32) (h : gH) (q : gH) (hy : f_c11_add N a0 x1 x2 x3 h = some q) : gMv l X y_c11_add b_c11_add 5 (1 + N) 0 0 [.ref a0, .int x1, .int x2, .int x3] h q := by
  unfold f_c11_add at hy
  refine gMet_v (lsx := [(0, .ref a0), (1, .int x1), (2, .int x2), (3, .int x3)]) (by decide) rfl rfl ?_
  intro M hMl K hret
  subst hMl
  refine g_aload_n K d_c11_add_0 0 rfl ?_
  refine g_bipush (v := 40) K d_c11_add_1 (by decide) ?_
  obtain ⟨v1, e_v1, hy⟩ := gBd hy
  refine g_iald K d_c11_add_3 e_v1 ?_
  refine g_istore (ls2 := [(4, .int v1), (0, .ref a0), (1, .int x1), (2, .int x2), (3, .int x3)]) K d_c11_add_4 rfl rfl ?_
  refine g_aload_n K d_c11_add_6 1 rfl ?_
  refine g_iload K d_c11_add_7 0 rfl ?_
  refine g_iload_n K d_c11_add_9 2 rfl ?_
  obtain ⟨h2, e_h2, hy⟩ := gBd hy
  refine g_iast K d_c11_add_10 e_h2 ?_
  refine g_aload_n K d_c11_add_11 1 rfl ?_
  refine g_bipush (v := 8) K d_c11_add_12 (by decide) ?_
  refine g_iload K d_c11_add_14 0 rfl ?_
  refine g_iadd K d_c11_add_16 ?_
  refine g_iload_n K d_c11_add_17 3 rfl ?_
  obtain ⟨h3, e_h3, hy⟩ := gBd hy
  refine g_iast K d_c11_add_18 e_h3 ?_
  refine g_aload_n K d_c11_add_19 1 rfl ?_
  refine g_bipush (v := 16) K d_c11_add_20 (by decide) ?_
  refine g_iload K d_c11_add_22 0 rfl ?_
  refine g_iadd K d_c11_add_24 ?_
  refine g_iload_n K d_c11_add_25 4 rfl ?_
  obtain ⟨h4, e_h4, hy⟩ := gBd hy
  refine g_iast K d_c11_add_26 e_h4 ?_
  refine g_aload_n K d_c11_add_27 1 rfl ?_
  refine g_bipush (v := 24) K d_c11_add_28 (by decide) ?_
  refine g_iload K d_c11_add_30 0 rfl ?_
  refine g_iadd K d_c11_add_32 ?_
  refine g_iconst (v := 0) K d_c11_add_33 (by decide) ?_
  obtain ⟨h5, e_h5, hy⟩ := gBd hy
  refine g_iast K d_c11_add_34 e_h5 ?_
  refine g_aload_n K d_c11_add_35 1 rfl ?_
  refine g_bipush (v := 32) K d_c11_add_36 (by decide) ?_
  refine g_iload K d_c11_add_38 0 rfl ?_
  refine g_iadd K d_c11_add_40 ?_
  refine g_iconst (v := 0) K d_c11_add_41 (by decide) ?_
  obtain ⟨h6, e_h6, hy⟩ := gBd hy
  refine g_iast K d_c11_add_42 e_h6 ?_
  refine g_aload_n K d_c11_add_43 1 rfl ?_
  refine g_bipush (v := 40) K d_c11_add_44 (by decide) ?_
  refine g_iload K d_c11_add_46 0 rfl ?_
  refine g_iconst (v := 1) K d_c11_add_48 (by decide) ?_
  refine g_iadd K d_c11_add_49 ?_
  obtain ⟨h7, e_h7, hy⟩ := gBd hy
  refine g_iast K d_c11_add_50 e_h7 ?_
  obtain rfl := Option.some.inj hy
  exact hret _ _ _ d_c11_add_51
-- c11 allAnds
theorem d_c11_allAnds_0 : gD b_c11_allAnds 0 (.iconst 0) 1 1 := ⟨by decide +kernel, rfl⟩
theorem d_c11_allAnds_1 : gD b_c11_allAnds 1 (.istore_n 1) 1 2 := ⟨by decide +kernel, rfl⟩
theorem d_c11_allAnds_2 : gD b_c11_allAnds 2 (.iconst 0) 1 3 := ⟨by decide +kernel, rfl⟩
theorem d_c11_allAnds_3 : gD b_c11_allAnds 3 (.istore_n 2) 1 4 := ⟨by decide +kernel, rfl⟩
theorem d_c11_allAnds_4 : gD b_c11_allAnds 4 (.iload_n 2) 1 5 := ⟨by decide +kernel, rfl⟩
theorem d_c11_allAnds_5 : gD b_c11_allAnds 5 (.aload_n 0) 1 6 := ⟨by decide +kernel, rfl⟩
theorem d_c11_allAnds_6 : gD b_c11_allAnds 6 (.getfield 9) 3 9 := ⟨by decide +kernel, rfl⟩
theorem d_c11_allAnds_9 : gD b_c11_allAnds 9 (.bipush 40) 2 11 := ⟨by decide +kernel, rfl⟩
theorem d_c11_allAnds_11 : gD b_c11_allAnds 11 .iaload 1 12 := ⟨by decide +kernel, rfl⟩
theorem d_c11_allAnds_12 : gJ b_c11_allAnds 12 (.if_icmp .ge 21) 3 21 15 33 := ⟨by decide +kernel, rfl, by decide⟩
theorem d_c11_allAnds_15 : gD b_c11_allAnds 15 (.iload_n 1) 1 16 := ⟨by decide +kernel, rfl⟩
theorem d_c11_allAnds_16 : gD b_c11_allAnds 16 (.aload_n 0) 1 17 := ⟨by decide +kernel, rfl⟩
theorem d_c11_allAnds_17 : gD b_c11_allAnds 17 (.getfield 9) 3 20 := ⟨by decide +kernel, rfl⟩
theorem d_c11_allAnds_20 : gD b_c11_allAnds 20 (.bipush 24) 2 22 := ⟨by decide +kernel, rfl⟩
theorem d_c11_allAnds_22 : gD b_c11_allAnds 22 (.iload_n 2) 1 23 := ⟨by decide +kernel, rfl⟩
theorem d_c11_allAnds_23 : gD b_c11_allAnds 23 .iadd 1 24 := ⟨by decide +kernel, rfl⟩
theorem d_c11_allAnds_24 : gD b_c11_allAnds 24 .iaload 1 25 := ⟨by decide +kernel, rfl⟩
theorem d_c11_allAnds_25 : gD b_c11_allAnds 25 .iadd 1 26 := ⟨by decide +kernel, rfl⟩
theorem d_c11_allAnds_26 : gD b_c11_allAnds 26 (.istore_n 1) 1 27 := ⟨by decide +kernel, rfl⟩
theorem d_c11_allAnds_27 : gD b_c11_allAnds 27 (.iinc 2 1) 3 30 := ⟨by decide +kernel, rfl⟩
theorem d_c11_allAnds_30 : gJ b_c11_allAnds 30 (.goto (-26)) 3 (-26) 33 4 := ⟨by decide +kernel, rfl, by decide⟩
theorem d_c11_allAnds_33 : gD b_c11_allAnds 33 (.iload_n 1) 1 34 := ⟨by decide +kernel, rfl⟩
theorem d_c11_allAnds_34 : gD b_c11_allAnds 34 .ireturn 1 35 := ⟨by decide +kernel, rfl⟩
def lp_c11_allAnds_4 (N : Nat) (a0 : Nat) (h : gH) : Nat → Int32 → Int32 → Option (Int32)
  | 0, _, _ => none
  | k + 1, x1, x2 =>
  (gfR h a0 11 0).bind fun v1 =>
    (ga 0 h v1 (40 : Int32)).bind fun v2 =>
    if v2 ≤ x2 then
    some x1
  else
    (gfR h a0 11 0).bind fun v4 =>
    (ga 0 h v4 ((24 : Int32) + x2)).bind fun v5 =>
    lp_c11_allAnds_4 N a0 h k (x1 + v5) (x2 + (1 : Int32))
def f_c11_allAnds (N : Nat) (a0 : Nat) (h : gH) : Option (Int32) :=
  (gcl h a0 11).bind fun _ =>
  (lp_c11_allAnds_4 N a0 h N (0 : Int32) (0 : Int32)).bind fun o6 =>
    some o6
set_option maxHeartbeats 4000000 in
set_option maxRecDepth 100000 in
theorem wlp_c11_allAnds_4 {M : gM} {X : gX} {N : Nat} (hx : gEx X = false) (K : gC M X gN11 b_c11_allAnds 3 (gRm (1 + N) 0 0)) (a0 : Nat) (h : gH) : ∀ (k : Nat) (x1 : Int32) (x2 : Int32) (o : Int32), lp_c11_allAnds_4 N a0 h k x1 x2 = some o → gG M X 3 0 0 33 [(1, .int o)] [] h → gG M X 3 0 0 4 [(0, .ref a0), (1, .int x1), (2, .int x2)] [] h := by
  intro k
  induction k with
  | zero =>
    intro x1 x2 o hy
    rw [lp_c11_allAnds_4.eq_1] at hy
    cases hy
  | succ k ih =>
    intro x1 x2 o hy hE
    rw [lp_c11_allAnds_4.eq_2] at hy
    refine g_iload_n K d_c11_allAnds_4 2 rfl ?_
    refine g_aload_n K d_c11_allAnds_5 0 rfl ?_
    obtain ⟨v1, e_v1, hy⟩ := gBd hy
    refine g_getR K fl_c11_9 d_c11_allAnds_6 e_v1 ?_
    refine g_bipush (v := 40) K d_c11_allAnds_9 (by decide) ?_
    obtain ⟨v2, e_v2, hy⟩ := gBd hy
    refine g_iald K d_c11_allAnds_11 e_v2 ?_
    refine g_icmp_ge K d_c11_allAnds_12 (fun c3 => ?_) (fun c3 => ?_)
    · rw [if_pos c3] at hy
      refine g_sub (ls2 := [(1, .int x1)]) [1] rfl ?_
      obtain rfl := Option.some.inj hy
      exact hE
    · rw [if_neg c3] at hy
      refine g_iload_n K d_c11_allAnds_15 1 rfl ?_
      refine g_aload_n K d_c11_allAnds_16 0 rfl ?_
      obtain ⟨v4, e_v4, hy⟩ := gBd hy
      refine g_getR K fl_c11_9 d_c11_allAnds_17 e_v4 ?_
      refine g_bipush (v := 24) K d_c11_allAnds_20 (by decide) ?_
      refine g_iload_n K d_c11_allAnds_22 2 rfl ?_
      refine g_iadd K d_c11_allAnds_23 ?_
      obtain ⟨v5, e_v5, hy⟩ := gBd hy
      refine g_iald K d_c11_allAnds_24 e_v5 ?_
      refine g_iadd K d_c11_allAnds_25 ?_
      refine g_istore_n (ls2 := [(1, .int (x1 + v5)), (0, .ref a0), (2, .int x2)]) K d_c11_allAnds_26 rfl rfl ?_
      refine g_iinc (ls2 := [(2, .int (x2 + (1 : Int32))), (1, .int (x1 + v5)), (0, .ref a0)]) (v := 1) K d_c11_allAnds_27 2 rfl (by decide) rfl rfl ?_
      refine g_goto K d_c11_allAnds_30 ?_
      refine g_sub (ls2 := [(0, .ref a0), (1, .int (x1 + v5)), (2, .int (x2 + (1 : Int32)))]) [2, 1, 0] rfl ?_
      exact ih _ _ _ hy hE
set_option maxHeartbeats 4000000 in
set_option maxRecDepth 100000 in
theorem ct_c11_allAnds (l : Launch) (X : gX) (hx : gEx X = false) (N : Nat) (a0 : Nat) (h : gH) (q : Int32) (hy : f_c11_allAnds N a0 h = some q) : gRc y_c11_allAnds h a0 ∧ gMi l X y_c11_allAnds b_c11_allAnds 3 .int (1 + N) 0 0 [.ref a0] h q h := by
  unfold f_c11_allAnds at hy
  obtain ⟨u0, e_u0, hy⟩ := gBd hy
  cases u0
  refine ⟨Or.inl ⟨11, _, _, e_u0, rfl⟩, gMet_i (lsx := [(0, .ref a0)]) (by decide) rfl rfl ?_⟩
  intro M hMl K hret
  subst hMl
  refine g_iconst (v := 0) K d_c11_allAnds_0 (by decide) ?_
  refine g_istore_n (ls2 := [(1, .int (0 : Int32)), (0, .ref a0)]) K d_c11_allAnds_1 rfl rfl ?_
  refine g_iconst (v := 0) K d_c11_allAnds_2 (by decide) ?_
  refine g_istore_n (ls2 := [(2, .int (0 : Int32)), (1, .int (0 : Int32)), (0, .ref a0)]) K d_c11_allAnds_3 rfl rfl ?_
  obtain ⟨o6, e_o6, hy⟩ := gBd hy
  refine g_sub (ls2 := [(0, .ref a0), (1, .int (0 : Int32)), (2, .int (0 : Int32))]) [2, 1, 0] rfl ?_
  refine wlp_c11_allAnds_4 hx K a0 h N (0 : Int32) (0 : Int32) o6 e_o6 ?_
  refine g_iload_n K d_c11_allAnds_33 0 rfl ?_
  obtain rfl := Option.some.inj hy
  exact hret rfl _ _ _ d_c11_allAnds_34
-- c11 begin
theorem d_c11_begin_0 : gD b_c11_begin 0 (.aload_n 0) 1 1 := ⟨by decide +kernel, rfl⟩
theorem d_c11_begin_1 : gD b_c11_begin 1 (.aload_n 1) 1 2 := ⟨by decide +kernel, rfl⟩
theorem d_c11_begin_2 : gD b_c11_begin 2 (.putfield 121) 3 5 := ⟨by decide +kernel, rfl⟩
theorem d_c11_begin_5 : gD b_c11_begin 5 (.aload_n 0) 1 6 := ⟨by decide +kernel, rfl⟩
theorem d_c11_begin_6 : gD b_c11_begin 6 (.iload_n 2) 1 7 := ⟨by decide +kernel, rfl⟩
theorem d_c11_begin_7 : gD b_c11_begin 7 (.putfield 124) 3 10 := ⟨by decide +kernel, rfl⟩
theorem d_c11_begin_10 : gD b_c11_begin 10 (.aload_n 0) 1 11 := ⟨by decide +kernel, rfl⟩
theorem d_c11_begin_11 : gD b_c11_begin 11 (.iload_n 3) 1 12 := ⟨by decide +kernel, rfl⟩
theorem d_c11_begin_12 : gD b_c11_begin 12 (.putfield 127) 3 15 := ⟨by decide +kernel, rfl⟩
theorem d_c11_begin_15 : gD b_c11_begin 15 (.aload_n 0) 1 16 := ⟨by decide +kernel, rfl⟩
theorem d_c11_begin_16 : gD b_c11_begin 16 (.iconst 0) 1 17 := ⟨by decide +kernel, rfl⟩
theorem d_c11_begin_17 : gD b_c11_begin 17 (.putfield 130) 3 20 := ⟨by decide +kernel, rfl⟩
theorem d_c11_begin_20 : gD b_c11_begin 20 (.aload_n 0) 1 21 := ⟨by decide +kernel, rfl⟩
theorem d_c11_begin_21 : gD b_c11_begin 21 (.iconst (-1)) 1 22 := ⟨by decide +kernel, rfl⟩
theorem d_c11_begin_22 : gD b_c11_begin 22 (.putfield 133) 3 25 := ⟨by decide +kernel, rfl⟩
theorem d_c11_begin_25 : gD b_c11_begin 25 .return_ 1 26 := ⟨by decide +kernel, rfl⟩
def f_c11_begin (N : Nat) (a0 : Nat) (a1 : Nat) (x2 : Int32) (x3 : Int32) (h : gH) : Option (gH) :=
  (gcl h a0 11).bind fun _ =>
  (sf h a0 11 11 (.ref a1)).bind fun h1 =>
    (sf h1 a0 11 12 (.int x2)).bind fun h2 =>
    (sf h2 a0 11 13 (.int x3)).bind fun h3 =>
    (sf h3 a0 11 14 (.int (0 : Int32))).bind fun h4 =>
    (sf h4 a0 11 15 (.int (-1 : Int32))).bind fun h5 =>
    some h5
set_option maxHeartbeats 4000000 in
set_option maxRecDepth 100000 in
theorem ct_c11_begin (l : Launch) (X : gX) (hx : gEx X = false) (N : Nat) (a0 : Nat) (a1 : Nat) (x2 : Int32) (x3 : Int32) (h : gH) (q : gH) (hy : f_c11_begin N a0 a1 x2 x3 h = some q) : gRc y_c11_begin h a0 ∧ gMv l X y_c11_begin b_c11_begin 4 (1 + N) 0 0 [.ref a0, .ref a1, .int x2, .int x3] h q := by
  unfold f_c11_begin at hy
  obtain ⟨u0, e_u0, hy⟩ := gBd hy
  cases u0
  refine ⟨Or.inl ⟨11, _, _, e_u0, rfl⟩, gMet_v (lsx := [(0, .ref a0), (1, .ref a1), (2, .int x2), (3, .int x3)]) (by decide) rfl rfl ?_⟩
  intro M hMl K hret
  subst hMl
  refine g_aload_n K d_c11_begin_0 0 rfl ?_
  refine g_aload_n K d_c11_begin_1 1 rfl ?_
  obtain ⟨h1, e_h1, hy⟩ := gBd hy
  refine g_putR K fp_c11_121 d_c11_begin_2 (fun _ => rfl) (fun _ => rfl) e_h1 ?_
  refine g_aload_n K d_c11_begin_5 0 rfl ?_
  refine g_iload_n K d_c11_begin_6 2 rfl ?_
  obtain ⟨h2, e_h2, hy⟩ := gBd hy
  refine g_putI K fp_c11_124 d_c11_begin_7 e_h2 ?_
  refine g_aload_n K d_c11_begin_10 0 rfl ?_
  refine g_iload_n K d_c11_begin_11 3 rfl ?_
  obtain ⟨h3, e_h3, hy⟩ := gBd hy
  refine g_putI K fp_c11_127 d_c11_begin_12 e_h3 ?_
  refine g_aload_n K d_c11_begin_15 0 rfl ?_
  refine g_iconst (v := 0) K d_c11_begin_16 (by decide) ?_
  obtain ⟨h4, e_h4, hy⟩ := gBd hy
  refine g_putI K fp_c11_130 d_c11_begin_17 e_h4 ?_
  refine g_aload_n K d_c11_begin_20 0 rfl ?_
  refine g_iconst (v := (-1)) K d_c11_begin_21 (by decide) ?_
  obtain ⟨h5, e_h5, hy⟩ := gBd hy
  refine g_putI K fp_c11_133 d_c11_begin_22 e_h5 ?_
  obtain rfl := Option.some.inj hy
  exact hret _ _ _ d_c11_begin_25
-- c11 common
theorem d_c11_common_0 : gD b_c11_common 0 (.lload_n 2) 1 1 := ⟨by decide +kernel, rfl⟩
theorem d_c11_common_1 : gD b_c11_common 1 (.lconst 0) 1 2 := ⟨by decide +kernel, rfl⟩
theorem d_c11_common_2 : gD b_c11_common 2 .lcmp 1 3 := ⟨by decide +kernel, rfl⟩
theorem d_c11_common_3 : gJ b_c11_common 3 (.ifCond .ne 7) 3 7 6 10 := ⟨by decide +kernel, rfl, by decide⟩
theorem d_c11_common_6 : gD b_c11_common 6 (.lload_n 0) 1 7 := ⟨by decide +kernel, rfl⟩
theorem d_c11_common_7 : gJ b_c11_common 7 (.goto 10) 3 10 10 17 := ⟨by decide +kernel, rfl, by decide⟩
theorem d_c11_common_10 : gD b_c11_common 10 (.lload_n 2) 1 11 := ⟨by decide +kernel, rfl⟩
theorem d_c11_common_11 : gD b_c11_common 11 (.lload_n 0) 1 12 := ⟨by decide +kernel, rfl⟩
theorem d_c11_common_12 : gD b_c11_common 12 (.lload_n 2) 1 13 := ⟨by decide +kernel, rfl⟩
theorem d_c11_common_13 : gD b_c11_common 13 .lrem 1 14 := ⟨by decide +kernel, rfl⟩
theorem d_c11_common_14 : gD b_c11_common 14 (.invokestatic 351) 3 17 := ⟨by decide +kernel, rfl⟩
theorem d_c11_common_17 : gD b_c11_common 17 .lreturn 1 18 := ⟨by decide +kernel, rfl⟩
def b_fn_c11_common (N : Nat) (F : Int64 → Int64 → gH → Option Int64) (y0 : Int64) (y2 : Int64) (h : gH) : Option (Int64) :=
  (show Option (Int64) from if (lg_cmp y2 (0 : Int64)) = 0 then
    some y0
  else
    (gNZL y2).bind fun u4 =>
    (F y2 (y0 - y0 / y2 * y2) h).bind fun q5 =>
    some q5).bind fun t2 =>
    some t2
set_option maxHeartbeats 4000000 in
set_option maxRecDepth 100000 in
theorem cb_c11_common (l : Launch) (X : gX) (hx : gEx X = false) (N : Nat) {F : Int64 → Int64 → gH → Option Int64} (hF : ∀ (y0 y2 : Int64) (h : gH) (q : Int64), F y0 y2 h = some q → gMl l X y_c11_common b_c11_common 4 (1 + N) 0 0 [.long y0, .long y2] h q h) (y0 : Int64) (y2 : Int64) (h : gH) (q : Int64) (hy : b_fn_c11_common N F y0 y2 h = some q) : gMl l X y_c11_common b_c11_common 4 (1 + (N + 1)) 0 0 [.long y0, .long y2] h q h := by
  unfold b_fn_c11_common at hy
  refine gMet_l (lsx := [(0, .long y0), (2, .long y2)]) (by decide) rfl rfl ?_
  intro M hMl K hret
  subst hMl
  refine g_lload_n K d_c11_common_0 1 rfl ?_
  refine g_lconst (v := 0) K d_c11_common_1 (by decide) ?_
  refine g_lcmp K d_c11_common_2 ?_
  obtain ⟨t2, e_t2, hy⟩ := gBd hy
  have hJ3 : gG M X 4 0 0 17 [] [.long t2] h := by
    obtain rfl := Option.some.inj hy
    exact hret _ _ _ d_c11_common_17
  refine g_if_ne K d_c11_common_3 (fun c1 => ?_) (fun c1 => ?_)
  · rw [if_neg c1] at e_t2
    refine g_lload_n K d_c11_common_10 1 rfl ?_
    refine g_lload_n K d_c11_common_11 0 rfl ?_
    refine g_lload_n K d_c11_common_12 1 rfl ?_
    obtain ⟨u4, e_u4, e_t2⟩ := gBd e_t2
    refine g_lrem K d_c11_common_13 e_u4 ?_
    obtain ⟨q5, e_q5, e_t2⟩ := gBd e_t2
    refine g_callSl (rest := []) K hx ly_c11_common ks_c11_351 d_c11_common_14 (hF y2 (y0 - y0 / y2 * y2) h q5 e_q5) rfl rfl (Nat.le_of_ble_eq_true rfl) (gDepR rfl) ⟨Nat.le_refl 0, Nat.le_refl 0⟩ ?_
    refine g_sub (ls2 := []) [] rfl ?_
    obtain rfl := Option.some.inj e_t2
    exact hJ3
  · rw [if_pos c1] at e_t2
    refine g_lload_n K d_c11_common_6 0 rfl ?_
    refine g_goto K d_c11_common_7 ?_
    refine g_sub (ls2 := []) [] rfl ?_
    obtain rfl := Option.some.inj e_t2
    exact hJ3
def f_c11_common : Nat → Int64 → Int64 → gH → Option Int64
  | 0, _, _, _ => none
  | N + 1, y0, y2, h => b_fn_c11_common N (f_c11_common N) y0 y2 h
theorem ct_c11_common (l : Launch) (X : gX) (hx : gEx X = false) : ∀ (N : Nat) (y0 y2 : Int64) (h : gH) (q : Int64), f_c11_common N y0 y2 h = some q → gMl l X y_c11_common b_c11_common 4 (1 + N) 0 0 [.long y0, .long y2] h q h := by
  intro N
  induction N with
  | zero =>
    intro y0 y2 h q hy
    rw [f_c11_common.eq_1] at hy
    cases hy
  | succ N ih =>
    intro y0 y2 h q hy
    rw [f_c11_common.eq_2] at hy
    exact cb_c11_common l X hx N ih y0 y2 h q hy
-- c11 depthOf
theorem d_c11_depthOf_0 : gD b_c11_depthOf 0 (.aload_n 0) 1 1 := ⟨by decide +kernel, rfl⟩
theorem d_c11_depthOf_1 : gD b_c11_depthOf 1 (.bipush 16) 2 3 := ⟨by decide +kernel, rfl⟩
theorem d_c11_depthOf_3 : gD b_c11_depthOf 3 (.iload_n 1) 1 4 := ⟨by decide +kernel, rfl⟩
theorem d_c11_depthOf_4 : gD b_c11_depthOf 4 .iadd 1 5 := ⟨by decide +kernel, rfl⟩
theorem d_c11_depthOf_5 : gD b_c11_depthOf 5 .iaload 1 6 := ⟨by decide +kernel, rfl⟩
theorem d_c11_depthOf_6 : gD b_c11_depthOf 6 (.iconst 1) 1 7 := ⟨by decide +kernel, rfl⟩
theorem d_c11_depthOf_7 : gJ b_c11_depthOf 7 (.if_icmp .ne 15) 3 15 10 22 := ⟨by decide +kernel, rfl, by decide⟩
theorem d_c11_depthOf_10 : gD b_c11_depthOf 10 (.bipush 10) 2 12 := ⟨by decide +kernel, rfl⟩
theorem d_c11_depthOf_12 : gD b_c11_depthOf 12 (.aload_n 0) 1 13 := ⟨by decide +kernel, rfl⟩
theorem d_c11_depthOf_13 : gD b_c11_depthOf 13 (.bipush 8) 2 15 := ⟨by decide +kernel, rfl⟩
theorem d_c11_depthOf_15 : gD b_c11_depthOf 15 (.iload_n 1) 1 16 := ⟨by decide +kernel, rfl⟩
theorem d_c11_depthOf_16 : gD b_c11_depthOf 16 .iadd 1 17 := ⟨by decide +kernel, rfl⟩
theorem d_c11_depthOf_17 : gD b_c11_depthOf 17 .iaload 1 18 := ⟨by decide +kernel, rfl⟩
theorem d_c11_depthOf_18 : gD b_c11_depthOf 18 .isub 1 19 := ⟨by decide +kernel, rfl⟩
theorem d_c11_depthOf_19 : gJ b_c11_depthOf 19 (.goto 4) 3 4 22 23 := ⟨by decide +kernel, rfl, by decide⟩
theorem d_c11_depthOf_22 : gD b_c11_depthOf 22 (.iconst 1) 1 23 := ⟨by decide +kernel, rfl⟩
theorem d_c11_depthOf_23 : gD b_c11_depthOf 23 .ireturn 1 24 := ⟨by decide +kernel, rfl⟩
def f_c11_depthOf (N : Nat) (a0 : Nat) (x1 : Int32) (h : gH) : Option (Int32) :=
  (ga 0 h a0 ((16 : Int32) + x1)).bind fun v1 =>
    (show Option (Int32) from if v1 = (1 : Int32) then
    (ga 0 h a0 ((8 : Int32) + x1)).bind fun v5 =>
    some ((10 : Int32) - v5)
  else
    some (1 : Int32)).bind fun t3 =>
    some t3
set_option maxHeartbeats 4000000 in
set_option maxRecDepth 100000 in
theorem ct_c11_depthOf (l : Launch) (X : gX) (hx : gEx X = false) (N : Nat) (a0 : Nat) (x1 : Int32) (h : gH) (q : Int32) (hy : f_c11_depthOf N a0 x1 h = some q) : gMi l X y_c11_depthOf b_c11_depthOf 2 .int (1 + N) 0 0 [.ref a0, .int x1] h q h := by
  unfold f_c11_depthOf at hy
  refine gMet_i (lsx := [(0, .ref a0), (1, .int x1)]) (by decide) rfl rfl ?_
  intro M hMl K hret
  subst hMl
  refine g_aload_n K d_c11_depthOf_0 0 rfl ?_
  refine g_bipush (v := 16) K d_c11_depthOf_1 (by decide) ?_
  refine g_iload_n K d_c11_depthOf_3 1 rfl ?_
  refine g_iadd K d_c11_depthOf_4 ?_
  obtain ⟨v1, e_v1, hy⟩ := gBd hy
  refine g_iald K d_c11_depthOf_5 e_v1 ?_
  refine g_iconst (v := 1) K d_c11_depthOf_6 (by decide) ?_
  obtain ⟨t3, e_t3, hy⟩ := gBd hy
  have hJ4 : gG M X 2 0 0 23 [] [.int t3] h := by
    obtain rfl := Option.some.inj hy
    exact hret rfl _ _ _ d_c11_depthOf_23
  refine g_icmp_ne K d_c11_depthOf_7 (fun c2 => ?_) (fun c2 => ?_)
  · rw [if_neg c2] at e_t3
    refine g_iconst (v := 1) K d_c11_depthOf_22 (by decide) ?_
    refine g_sub (ls2 := []) [] rfl ?_
    obtain rfl := Option.some.inj e_t3
    exact hJ4
  · rw [if_pos c2] at e_t3
    refine g_bipush (v := 10) K d_c11_depthOf_10 (by decide) ?_
    refine g_aload_n K d_c11_depthOf_12 0 rfl ?_
    refine g_bipush (v := 8) K d_c11_depthOf_13 (by decide) ?_
    refine g_iload_n K d_c11_depthOf_15 1 rfl ?_
    refine g_iadd K d_c11_depthOf_16 ?_
    obtain ⟨v5, e_v5, e_t3⟩ := gBd e_t3
    refine g_iald K d_c11_depthOf_17 e_v5 ?_
    refine g_isub K d_c11_depthOf_18 ?_
    refine g_goto K d_c11_depthOf_19 ?_
    refine g_sub (ls2 := []) [] rfl ?_
    obtain rfl := Option.some.inj e_t3
    exact hJ4
-- c11 draw
theorem d_c11_draw_0 : gD b_c11_draw 0 (.aload_n 0) 1 1 := ⟨by decide +kernel, rfl⟩
theorem d_c11_draw_1 : gD b_c11_draw 1 (.aload_n 0) 1 2 := ⟨by decide +kernel, rfl⟩
theorem d_c11_draw_2 : gD b_c11_draw 2 (.getfield 375) 3 5 := ⟨by decide +kernel, rfl⟩
theorem d_c11_draw_5 : gD b_c11_draw 5 (.ldc_w 378) 3 8 := ⟨by decide +kernel, rfl⟩
theorem d_c11_draw_8 : gD b_c11_draw 8 .imul 1 9 := ⟨by decide +kernel, rfl⟩
theorem d_c11_draw_9 : gD b_c11_draw 9 (.sipush 12345) 3 12 := ⟨by decide +kernel, rfl⟩
theorem d_c11_draw_12 : gD b_c11_draw 12 .iadd 1 13 := ⟨by decide +kernel, rfl⟩
theorem d_c11_draw_13 : gD b_c11_draw 13 (.putfield 375) 3 16 := ⟨by decide +kernel, rfl⟩
theorem d_c11_draw_16 : gD b_c11_draw 16 (.aload_n 0) 1 17 := ⟨by decide +kernel, rfl⟩
theorem d_c11_draw_17 : gD b_c11_draw 17 (.getfield 375) 3 20 := ⟨by decide +kernel, rfl⟩
theorem d_c11_draw_20 : gD b_c11_draw 20 (.bipush 16) 2 22 := ⟨by decide +kernel, rfl⟩
theorem d_c11_draw_22 : gD b_c11_draw 22 .iushr 1 23 := ⟨by decide +kernel, rfl⟩
theorem d_c11_draw_23 : gD b_c11_draw 23 (.iload_n 1) 1 24 := ⟨by decide +kernel, rfl⟩
theorem d_c11_draw_24 : gD b_c11_draw 24 .irem 1 25 := ⟨by decide +kernel, rfl⟩
theorem d_c11_draw_25 : gD b_c11_draw 25 .ireturn 1 26 := ⟨by decide +kernel, rfl⟩
def f_c11_draw (N : Nat) (a0 : Nat) (x1 : Int32) (h : gH) : Option (Int32 × gH) :=
  (gcl h a0 11).bind fun _ =>
  (gfI h a0 11 37).bind fun v1 =>
    (sf h a0 11 37 (.int ((v1 * (1103515245 : Int32)) + (12345 : Int32)))).bind fun h2 =>
    (gfI h2 a0 11 37).bind fun v3 =>
    (gNZ x1).bind fun u4 =>
    some (((v3.toUInt32 >>> ((16 : Int32).toUInt32 &&& Int32.toUInt32 31)).toInt32) - ((v3.toUInt32 >>> ((16 : Int32).toUInt32 &&& Int32.toUInt32 31)).toInt32) / x1 * x1, h2)
set_option maxHeartbeats 4000000 in
set_option maxRecDepth 100000 in
theorem ct_c11_draw (l : Launch) (X : gX) (hx : gEx X = false) (N : Nat) (a0 : Nat) (x1 : Int32) (h : gH) (q : Int32 × gH) (hy : f_c11_draw N a0 x1 h = some q) : gRc y_c11_draw h a0 ∧ gMi l X y_c11_draw b_c11_draw 2 .int (1 + N) 0 0 [.ref a0, .int x1] h q.1 q.2 := by
  unfold f_c11_draw at hy
  obtain ⟨u0, e_u0, hy⟩ := gBd hy
  cases u0
  refine ⟨Or.inl ⟨11, _, _, e_u0, rfl⟩, gMet_i (lsx := [(0, .ref a0), (1, .int x1)]) (by decide) rfl rfl ?_⟩
  intro M hMl K hret
  subst hMl
  refine g_aload_n K d_c11_draw_0 0 rfl ?_
  refine g_aload_n K d_c11_draw_1 0 rfl ?_
  obtain ⟨v1, e_v1, hy⟩ := gBd hy
  refine g_getI K fl_c11_375 d_c11_draw_2 e_v1 ?_
  refine g_ldcw (v := 1103515245) K d_c11_draw_5 (gTk_7 191 rfl rfl) ?_
  refine g_imul K d_c11_draw_8 ?_
  refine g_sipush (v := 12345) K d_c11_draw_9 (by decide) ?_
  refine g_iadd K d_c11_draw_12 ?_
  obtain ⟨h2, e_h2, hy⟩ := gBd hy
  refine g_putI K fp_c11_375 d_c11_draw_13 e_h2 ?_
  refine g_aload_n K d_c11_draw_16 0 rfl ?_
  obtain ⟨v3, e_v3, hy⟩ := gBd hy
  refine g_getI K fl_c11_375 d_c11_draw_17 e_v3 ?_
  refine g_bipush (v := 16) K d_c11_draw_20 (by decide) ?_
  refine g_iushr K d_c11_draw_22 ?_
  refine g_iload_n K d_c11_draw_23 1 rfl ?_
  obtain ⟨u4, e_u4, hy⟩ := gBd hy
  refine g_irem K d_c11_draw_24 e_u4 ?_
  obtain rfl := Option.some.inj hy
  exact hret rfl _ _ _ d_c11_draw_25
-- c11 dryOnes
theorem d_c11_dryOnes_0 : gD b_c11_dryOnes 0 (.iconst 0) 1 1 := ⟨by decide +kernel, rfl⟩
theorem d_c11_dryOnes_1 : gD b_c11_dryOnes 1 (.istore_n 1) 1 2 := ⟨by decide +kernel, rfl⟩
theorem d_c11_dryOnes_2 : gD b_c11_dryOnes 2 (.iconst 0) 1 3 := ⟨by decide +kernel, rfl⟩
theorem d_c11_dryOnes_3 : gD b_c11_dryOnes 3 (.istore_n 2) 1 4 := ⟨by decide +kernel, rfl⟩
theorem d_c11_dryOnes_4 : gD b_c11_dryOnes 4 (.iload_n 2) 1 5 := ⟨by decide +kernel, rfl⟩
theorem d_c11_dryOnes_5 : gD b_c11_dryOnes 5 (.aload_n 0) 1 6 := ⟨by decide +kernel, rfl⟩
theorem d_c11_dryOnes_6 : gD b_c11_dryOnes 6 (.bipush 40) 2 8 := ⟨by decide +kernel, rfl⟩
theorem d_c11_dryOnes_8 : gD b_c11_dryOnes 8 .iaload 1 9 := ⟨by decide +kernel, rfl⟩
theorem d_c11_dryOnes_9 : gJ b_c11_dryOnes 9 (.if_icmp .ge 28) 3 28 12 37 := ⟨by decide +kernel, rfl, by decide⟩
theorem d_c11_dryOnes_12 : gD b_c11_dryOnes 12 (.iload_n 1) 1 13 := ⟨by decide +kernel, rfl⟩
theorem d_c11_dryOnes_13 : gD b_c11_dryOnes 13 (.aload_n 0) 1 14 := ⟨by decide +kernel, rfl⟩
theorem d_c11_dryOnes_14 : gD b_c11_dryOnes 14 (.bipush 32) 2 16 := ⟨by decide +kernel, rfl⟩
theorem d_c11_dryOnes_16 : gD b_c11_dryOnes 16 (.iload_n 2) 1 17 := ⟨by decide +kernel, rfl⟩
theorem d_c11_dryOnes_17 : gD b_c11_dryOnes 17 .iadd 1 18 := ⟨by decide +kernel, rfl⟩
theorem d_c11_dryOnes_18 : gD b_c11_dryOnes 18 .iaload 1 19 := ⟨by decide +kernel, rfl⟩
theorem d_c11_dryOnes_19 : gJ b_c11_dryOnes 19 (.ifCond .ne 9) 3 9 22 28 := ⟨by decide +kernel, rfl, by decide⟩
theorem d_c11_dryOnes_22 : gD b_c11_dryOnes 22 (.iconst 1) 1 23 := ⟨by decide +kernel, rfl⟩
theorem d_c11_dryOnes_23 : gD b_c11_dryOnes 23 (.iload_n 2) 1 24 := ⟨by decide +kernel, rfl⟩
theorem d_c11_dryOnes_24 : gD b_c11_dryOnes 24 .ishl 1 25 := ⟨by decide +kernel, rfl⟩
theorem d_c11_dryOnes_25 : gJ b_c11_dryOnes 25 (.goto 4) 3 4 28 29 := ⟨by decide +kernel, rfl, by decide⟩
theorem d_c11_dryOnes_28 : gD b_c11_dryOnes 28 (.iconst 0) 1 29 := ⟨by decide +kernel, rfl⟩
theorem d_c11_dryOnes_29 : gD b_c11_dryOnes 29 .ior 1 30 := ⟨by decide +kernel, rfl⟩
theorem d_c11_dryOnes_30 : gD b_c11_dryOnes 30 (.istore_n 1) 1 31 := ⟨by decide +kernel, rfl⟩
theorem d_c11_dryOnes_31 : gD b_c11_dryOnes 31 (.iinc 2 1) 3 34 := ⟨by decide +kernel, rfl⟩
theorem d_c11_dryOnes_34 : gJ b_c11_dryOnes 34 (.goto (-30)) 3 (-30) 37 4 := ⟨by decide +kernel, rfl, by decide⟩
theorem d_c11_dryOnes_37 : gD b_c11_dryOnes 37 (.iload_n 1) 1 38 := ⟨by decide +kernel, rfl⟩
theorem d_c11_dryOnes_38 : gD b_c11_dryOnes 38 .ireturn 1 39 := ⟨by decide +kernel, rfl⟩
def lp_c11_dryOnes_4 (N : Nat) (a0 : Nat) (h : gH) : Nat → Int32 → Int32 → Option (Int32)
  | 0, _, _ => none
  | k + 1, x1, x2 =>
  (ga 0 h a0 (40 : Int32)).bind fun v1 =>
    if v1 ≤ x2 then
    some x1
  else
    (ga 0 h a0 ((32 : Int32) + x2)).bind fun v3 =>
    lp_c11_dryOnes_4 N a0 h k (x1 ||| (if v3 = 0 then (1 : Int32) <<< (x2 &&& 31) else (0 : Int32))) (x2 + (1 : Int32))
def f_c11_dryOnes (N : Nat) (a0 : Nat) (h : gH) : Option (Int32) :=
  (lp_c11_dryOnes_4 N a0 h N (0 : Int32) (0 : Int32)).bind fun o7 =>
    some o7
set_option maxHeartbeats 4000000 in
set_option maxRecDepth 100000 in
theorem wlp_c11_dryOnes_4 {M : gM} {X : gX} {N : Nat} (hx : gEx X = false) (K : gC M X gN11 b_c11_dryOnes 3 (gRm (1 + N) 0 0)) (a0 : Nat) (h : gH) : ∀ (k : Nat) (x1 : Int32) (x2 : Int32) (o : Int32), lp_c11_dryOnes_4 N a0 h k x1 x2 = some o → gG M X 3 0 0 37 [(1, .int o)] [] h → gG M X 3 0 0 4 [(0, .ref a0), (1, .int x1), (2, .int x2)] [] h := by
  intro k
  induction k with
  | zero =>
    intro x1 x2 o hy
    rw [lp_c11_dryOnes_4.eq_1] at hy
    cases hy
  | succ k ih =>
    intro x1 x2 o hy hE
    rw [lp_c11_dryOnes_4.eq_2] at hy
    refine g_iload_n K d_c11_dryOnes_4 2 rfl ?_
    refine g_aload_n K d_c11_dryOnes_5 0 rfl ?_
    refine g_bipush (v := 40) K d_c11_dryOnes_6 (by decide) ?_
    obtain ⟨v1, e_v1, hy⟩ := gBd hy
    refine g_iald K d_c11_dryOnes_8 e_v1 ?_
    refine g_icmp_ge K d_c11_dryOnes_9 (fun c2 => ?_) (fun c2 => ?_)
    · rw [if_pos c2] at hy
      refine g_sub (ls2 := [(1, .int x1)]) [1] rfl ?_
      obtain rfl := Option.some.inj hy
      exact hE
    · rw [if_neg c2] at hy
      refine g_iload_n K d_c11_dryOnes_12 1 rfl ?_
      refine g_aload_n K d_c11_dryOnes_13 0 rfl ?_
      refine g_bipush (v := 32) K d_c11_dryOnes_14 (by decide) ?_
      refine g_iload_n K d_c11_dryOnes_16 2 rfl ?_
      refine g_iadd K d_c11_dryOnes_17 ?_
      obtain ⟨v3, e_v3, hy⟩ := gBd hy
      refine g_iald K d_c11_dryOnes_18 e_v3 ?_
      have hJ6 : ∀ w5 : Int32, w5 = (if v3 = 0 then (1 : Int32) <<< (x2 &&& 31) else (0 : Int32)) → gG M X 3 0 0 29 [(0, .ref a0), (1, .int x1), (2, .int x2)] [.int w5, .int x1] h := by
        intro w5 e_w5
        subst e_w5
        refine g_ior K d_c11_dryOnes_29 ?_
        refine g_istore_n (ls2 := [(1, .int (x1 ||| (if v3 = 0 then (1 : Int32) <<< (x2 &&& 31) else (0 : Int32)))), (0, .ref a0), (2, .int x2)]) K d_c11_dryOnes_30 rfl rfl ?_
        refine g_iinc (ls2 := [(2, .int (x2 + (1 : Int32))), (1, .int (x1 ||| (if v3 = 0 then (1 : Int32) <<< (x2 &&& 31) else (0 : Int32)))), (0, .ref a0)]) (v := 1) K d_c11_dryOnes_31 2 rfl (by decide) rfl rfl ?_
        refine g_goto K d_c11_dryOnes_34 ?_
        refine g_sub (ls2 := [(0, .ref a0), (1, .int (x1 ||| (if v3 = 0 then (1 : Int32) <<< (x2 &&& 31) else (0 : Int32)))), (2, .int (x2 + (1 : Int32)))]) [2, 1, 0] rfl ?_
        exact ih _ _ _ hy hE
      refine g_if_ne K d_c11_dryOnes_19 (fun c4 => ?_) (fun c4 => ?_)
      · refine g_iconst (v := 0) K d_c11_dryOnes_28 (by decide) ?_
        exact hJ6 _ (by rw [if_neg c4])
      · refine g_iconst (v := 1) K d_c11_dryOnes_22 (by decide) ?_
        refine g_iload_n K d_c11_dryOnes_23 2 rfl ?_
        refine g_ishl K d_c11_dryOnes_24 ?_
        refine g_goto K d_c11_dryOnes_25 ?_
        exact hJ6 _ (by rw [if_pos c4])
set_option maxHeartbeats 4000000 in
set_option maxRecDepth 100000 in
theorem ct_c11_dryOnes (l : Launch) (X : gX) (hx : gEx X = false) (N : Nat) (a0 : Nat) (h : gH) (q : Int32) (hy : f_c11_dryOnes N a0 h = some q) : gMi l X y_c11_dryOnes b_c11_dryOnes 3 .int (1 + N) 0 0 [.ref a0] h q h := by
  unfold f_c11_dryOnes at hy
  refine gMet_i (lsx := [(0, .ref a0)]) (by decide) rfl rfl ?_
  intro M hMl K hret
  subst hMl
  refine g_iconst (v := 0) K d_c11_dryOnes_0 (by decide) ?_
  refine g_istore_n (ls2 := [(1, .int (0 : Int32)), (0, .ref a0)]) K d_c11_dryOnes_1 rfl rfl ?_
  refine g_iconst (v := 0) K d_c11_dryOnes_2 (by decide) ?_
  refine g_istore_n (ls2 := [(2, .int (0 : Int32)), (1, .int (0 : Int32)), (0, .ref a0)]) K d_c11_dryOnes_3 rfl rfl ?_
  obtain ⟨o7, e_o7, hy⟩ := gBd hy
  refine g_sub (ls2 := [(0, .ref a0), (1, .int (0 : Int32)), (2, .int (0 : Int32))]) [2, 1, 0] rfl ?_
  refine wlp_c11_dryOnes_4 hx K a0 h N (0 : Int32) (0 : Int32) o7 e_o7 ?_
  refine g_iload_n K d_c11_dryOnes_37 0 rfl ?_
  obtain rfl := Option.some.inj hy
  exact hret rfl _ _ _ d_c11_dryOnes_38
-- c11 fields
theorem d_c11_fields_0 : gD b_c11_fields 0 (.aload_n 0) 1 1 := ⟨by decide +kernel, rfl⟩
theorem d_c11_fields_1 : gD b_c11_fields 1 (.getfield 13) 3 4 := ⟨by decide +kernel, rfl⟩
theorem d_c11_fields_4 : gD b_c11_fields 4 (.aload_n 0) 1 5 := ⟨by decide +kernel, rfl⟩
theorem d_c11_fields_5 : gD b_c11_fields 5 (.getfield 17) 3 8 := ⟨by decide +kernel, rfl⟩
theorem d_c11_fields_8 : gD b_c11_fields 8 .imul 1 9 := ⟨by decide +kernel, rfl⟩
theorem d_c11_fields_9 : gD b_c11_fields 9 .ireturn 1 10 := ⟨by decide +kernel, rfl⟩
def f_c11_fields (N : Nat) (a0 : Nat) (h : gH) : Option (Int32) :=
  (gcl h a0 11).bind fun _ =>
  (gfI h a0 11 1).bind fun v1 =>
    (gfI h a0 11 2).bind fun v2 =>
    some (v1 * v2)
set_option maxHeartbeats 4000000 in
set_option maxRecDepth 100000 in
theorem ct_c11_fields (l : Launch) (X : gX) (hx : gEx X = false) (N : Nat) (a0 : Nat) (h : gH) (q : Int32) (hy : f_c11_fields N a0 h = some q) : gRc y_c11_fields h a0 ∧ gMi l X y_c11_fields b_c11_fields 1 .int (1 + N) 0 0 [.ref a0] h q h := by
  unfold f_c11_fields at hy
  obtain ⟨u0, e_u0, hy⟩ := gBd hy
  cases u0
  refine ⟨Or.inl ⟨11, _, _, e_u0, rfl⟩, gMet_i (lsx := [(0, .ref a0)]) (by decide) rfl rfl ?_⟩
  intro M hMl K hret
  subst hMl
  refine g_aload_n K d_c11_fields_0 0 rfl ?_
  obtain ⟨v1, e_v1, hy⟩ := gBd hy
  refine g_getI K fl_c11_13 d_c11_fields_1 e_v1 ?_
  refine g_aload_n K d_c11_fields_4 0 rfl ?_
  obtain ⟨v2, e_v2, hy⟩ := gBd hy
  refine g_getI K fl_c11_17 d_c11_fields_5 e_v2 ?_
  refine g_imul K d_c11_fields_8 ?_
  obtain rfl := Option.some.inj hy
  exact hret rfl _ _ _ d_c11_fields_9
-- c11 fine
theorem d_c11_fine_0 : gD b_c11_fine 0 (.aload_n 0) 1 1 := ⟨by decide +kernel, rfl⟩
theorem d_c11_fine_1 : gD b_c11_fine 1 (.getfield 133) 3 4 := ⟨by decide +kernel, rfl⟩
theorem d_c11_fine_4 : gD b_c11_fine 4 (.iconst (-1)) 1 5 := ⟨by decide +kernel, rfl⟩
theorem d_c11_fine_5 : gJ b_c11_fine 5 (.if_icmp .ne 7) 3 7 8 12 := ⟨by decide +kernel, rfl, by decide⟩
theorem d_c11_fine_8 : gD b_c11_fine 8 (.iconst 1) 1 9 := ⟨by decide +kernel, rfl⟩
theorem d_c11_fine_9 : gJ b_c11_fine 9 (.goto 4) 3 4 12 13 := ⟨by decide +kernel, rfl, by decide⟩
theorem d_c11_fine_12 : gD b_c11_fine 12 (.iconst 0) 1 13 := ⟨by decide +kernel, rfl⟩
theorem d_c11_fine_13 : gD b_c11_fine 13 .ireturn 1 14 := ⟨by decide +kernel, rfl⟩
def f_c11_fine (N : Nat) (a0 : Nat) (h : gH) : Option (Int32) :=
  (gcl h a0 11).bind fun _ =>
  (gfI h a0 11 15).bind fun v1 =>
    (gZ (if v1 = (-1 : Int32) then (1 : Int32) else (0 : Int32))).bind fun w5 => some w5
set_option maxHeartbeats 4000000 in
set_option maxRecDepth 100000 in
theorem ct_c11_fine (l : Launch) (X : gX) (hx : gEx X = false) (N : Nat) (a0 : Nat) (h : gH) (q : Int32) (hy : f_c11_fine N a0 h = some q) : gRc y_c11_fine h a0 ∧ gMi l X y_c11_fine b_c11_fine 1 .boolean (1 + N) 0 0 [.ref a0] h q h := by
  unfold f_c11_fine at hy
  obtain ⟨u0, e_u0, hy⟩ := gBd hy
  cases u0
  refine ⟨Or.inl ⟨11, _, _, e_u0, rfl⟩, gMet_i (lsx := [(0, .ref a0)]) (by decide) rfl rfl ?_⟩
  intro M hMl K hret
  subst hMl
  refine g_aload_n K d_c11_fine_0 0 rfl ?_
  obtain ⟨v1, e_v1, hy⟩ := gBd hy
  refine g_getI K fl_c11_133 d_c11_fine_1 e_v1 ?_
  refine g_iconst (v := (-1)) K d_c11_fine_4 (by decide) ?_
  have hJ4 : ∀ w3 : Int32, w3 = (if v1 = (-1 : Int32) then (1 : Int32) else (0 : Int32)) → gG M X 1 0 0 13 [(0, .ref a0)] [.int w3] h := by
    intro w3 e_w3
    subst e_w3
    obtain ⟨w5, e_w5, hy⟩ := gBd hy
    obtain ⟨z_w5, n_w5⟩ := gZ_spec e_w5
    rw [z_w5]
    obtain rfl := Option.some.inj hy
    exact hret (gZn n_w5) _ _ _ d_c11_fine_13
  refine g_icmp_ne K d_c11_fine_5 (fun c2 => ?_) (fun c2 => ?_)
  · refine g_iconst (v := 0) K d_c11_fine_12 (by decide) ?_
    exact hJ4 _ (by rw [if_neg c2])
  · refine g_iconst (v := 1) K d_c11_fine_8 (by decide) ?_
    refine g_goto K d_c11_fine_9 ?_
    exact hJ4 _ (by rw [if_pos c2])
-- c11 forget
theorem d_c11_forget_0 : gD b_c11_forget 0 (.aload_n 0) 1 1 := ⟨by decide +kernel, rfl⟩
theorem d_c11_forget_1 : gD b_c11_forget 1 (.iconst 0) 1 2 := ⟨by decide +kernel, rfl⟩
theorem d_c11_forget_2 : gD b_c11_forget 2 (.putfield 95) 3 5 := ⟨by decide +kernel, rfl⟩
theorem d_c11_forget_5 : gD b_c11_forget 5 (.aload_n 0) 1 6 := ⟨by decide +kernel, rfl⟩
theorem d_c11_forget_6 : gD b_c11_forget 6 (.getfield 339) 3 9 := ⟨by decide +kernel, rfl⟩
theorem d_c11_forget_9 : gD b_c11_forget 9 (.istore_n 1) 1 10 := ⟨by decide +kernel, rfl⟩
theorem d_c11_forget_10 : gD b_c11_forget 10 (.aload_n 0) 1 11 := ⟨by decide +kernel, rfl⟩
theorem d_c11_forget_11 : gD b_c11_forget 11 (.iconst 0) 1 12 := ⟨by decide +kernel, rfl⟩
theorem d_c11_forget_12 : gD b_c11_forget 12 (.putfield 339) 3 15 := ⟨by decide +kernel, rfl⟩
theorem d_c11_forget_15 : gD b_c11_forget 15 (.iload_n 1) 1 16 := ⟨by decide +kernel, rfl⟩
theorem d_c11_forget_16 : gD b_c11_forget 16 .ireturn 1 17 := ⟨by decide +kernel, rfl⟩
def f_c11_forget (N : Nat) (a0 : Nat) (h : gH) : Option (Int32 × gH) :=
  (gcl h a0 11).bind fun _ =>
  (sf h a0 11 10 (.int (0 : Int32))).bind fun h1 =>
    (gfI h1 a0 11 34).bind fun v2 =>
    (sf h1 a0 11 34 (.int (0 : Int32))).bind fun h3 =>
    some (v2, h3)
set_option maxHeartbeats 4000000 in
set_option maxRecDepth 100000 in
theorem ct_c11_forget (l : Launch) (X : gX) (hx : gEx X = false) (N : Nat) (a0 : Nat) (h : gH) (q : Int32 × gH) (hy : f_c11_forget N a0 h = some q) : gRc y_c11_forget h a0 ∧ gMi l X y_c11_forget b_c11_forget 2 .int (1 + N) 0 0 [.ref a0] h q.1 q.2 := by
  unfold f_c11_forget at hy
  obtain ⟨u0, e_u0, hy⟩ := gBd hy
  cases u0
  refine ⟨Or.inl ⟨11, _, _, e_u0, rfl⟩, gMet_i (lsx := [(0, .ref a0)]) (by decide) rfl rfl ?_⟩
  intro M hMl K hret
  subst hMl
  refine g_aload_n K d_c11_forget_0 0 rfl ?_
  refine g_iconst (v := 0) K d_c11_forget_1 (by decide) ?_
  obtain ⟨h1, e_h1, hy⟩ := gBd hy
  refine g_putI K fp_c11_95 d_c11_forget_2 e_h1 ?_
  refine g_aload_n K d_c11_forget_5 0 rfl ?_
  obtain ⟨v2, e_v2, hy⟩ := gBd hy
  refine g_getI K fl_c11_339 d_c11_forget_6 e_v2 ?_
  refine g_istore_n (ls2 := [(1, .int v2), (0, .ref a0)]) K d_c11_forget_9 rfl rfl ?_
  refine g_aload_n K d_c11_forget_10 1 rfl ?_
  refine g_iconst (v := 0) K d_c11_forget_11 (by decide) ?_
  obtain ⟨h3, e_h3, hy⟩ := gBd hy
  refine g_putI K fp_c11_339 d_c11_forget_12 e_h3 ?_
  refine g_iload_n K d_c11_forget_15 0 rfl ?_
  obtain rfl := Option.some.inj hy
  exact hret rfl _ _ _ d_c11_forget_16
-- c11 has
theorem d_c11_has_0 : gD b_c11_has 0 (.iload_n 0) 1 1 := ⟨by decide +kernel, rfl⟩
theorem d_c11_has_1 : gD b_c11_has 1 (.iload_n 1) 1 2 := ⟨by decide +kernel, rfl⟩
theorem d_c11_has_2 : gD b_c11_has 2 .ishr 1 3 := ⟨by decide +kernel, rfl⟩
theorem d_c11_has_3 : gD b_c11_has 3 (.iconst 1) 1 4 := ⟨by decide +kernel, rfl⟩
theorem d_c11_has_4 : gD b_c11_has 4 .iand 1 5 := ⟨by decide +kernel, rfl⟩
theorem d_c11_has_5 : gD b_c11_has 5 (.iconst 1) 1 6 := ⟨by decide +kernel, rfl⟩
theorem d_c11_has_6 : gJ b_c11_has 6 (.if_icmp .ne 7) 3 7 9 13 := ⟨by decide +kernel, rfl, by decide⟩
theorem d_c11_has_9 : gD b_c11_has 9 (.iconst 1) 1 10 := ⟨by decide +kernel, rfl⟩
theorem d_c11_has_10 : gJ b_c11_has 10 (.goto 4) 3 4 13 14 := ⟨by decide +kernel, rfl, by decide⟩
theorem d_c11_has_13 : gD b_c11_has 13 (.iconst 0) 1 14 := ⟨by decide +kernel, rfl⟩
theorem d_c11_has_14 : gD b_c11_has 14 .ireturn 1 15 := ⟨by decide +kernel, rfl⟩
def f_c11_has (N : Nat) (x0 : Int32) (x1 : Int32) (h : gH) : Option (Int32) :=
  (gZ (if ((x0 >>> (x1 &&& 31)) &&& (1 : Int32)) = (1 : Int32) then (1 : Int32) else (0 : Int32))).bind fun w4 => some w4
set_option maxHeartbeats 4000000 in
set_option maxRecDepth 100000 in
theorem ct_c11_has (l : Launch) (X : gX) (hx : gEx X = false) (N : Nat) (x0 : Int32) (x1 : Int32) (h : gH) (q : Int32) (hy : f_c11_has N x0 x1 h = some q) : gMi l X y_c11_has b_c11_has 2 .boolean (1 + N) 0 0 [.int x0, .int x1] h q h := by
  unfold f_c11_has at hy
  refine gMet_i (lsx := [(0, .int x0), (1, .int x1)]) (by decide) rfl rfl ?_
  intro M hMl K hret
  subst hMl
  refine g_iload_n K d_c11_has_0 0 rfl ?_
  refine g_iload_n K d_c11_has_1 1 rfl ?_
  refine g_ishr K d_c11_has_2 ?_
  refine g_iconst (v := 1) K d_c11_has_3 (by decide) ?_
  refine g_iand K d_c11_has_4 ?_
  refine g_iconst (v := 1) K d_c11_has_5 (by decide) ?_
  have hJ3 : ∀ w2 : Int32, w2 = (if ((x0 >>> (x1 &&& 31)) &&& (1 : Int32)) = (1 : Int32) then (1 : Int32) else (0 : Int32)) → gG M X 2 0 0 14 [(0, .int x0), (1, .int x1)] [.int w2] h := by
    intro w2 e_w2
    subst e_w2
    obtain ⟨w4, e_w4, hy⟩ := gBd hy
    obtain ⟨z_w4, n_w4⟩ := gZ_spec e_w4
    rw [z_w4]
    obtain rfl := Option.some.inj hy
    exact hret (gZn n_w4) _ _ _ d_c11_has_14
  refine g_icmp_ne K d_c11_has_6 (fun c1 => ?_) (fun c1 => ?_)
  · refine g_iconst (v := 0) K d_c11_has_13 (by decide) ?_
    exact hJ3 _ (by rw [if_neg c1])
  · refine g_iconst (v := 1) K d_c11_has_9 (by decide) ?_
    refine g_goto K d_c11_has_10 ?_
    exact hJ3 _ (by rw [if_pos c1])
-- c11 here
theorem d_c11_here_0 : gD b_c11_here 0 (.aload_n 0) 1 1 := ⟨by decide +kernel, rfl⟩
theorem d_c11_here_1 : gD b_c11_here 1 (.getfield 130) 3 4 := ⟨by decide +kernel, rfl⟩
theorem d_c11_here_4 : gD b_c11_here 4 (.aload_n 0) 1 5 := ⟨by decide +kernel, rfl⟩
theorem d_c11_here_5 : gD b_c11_here 5 (.getfield 124) 3 8 := ⟨by decide +kernel, rfl⟩
theorem d_c11_here_8 : gJ b_c11_here 8 (.if_icmp .ge 30) 3 30 11 38 := ⟨by decide +kernel, rfl, by decide⟩
theorem d_c11_here_11 : gD b_c11_here 11 (.aload_n 0) 1 12 := ⟨by decide +kernel, rfl⟩
theorem d_c11_here_12 : gD b_c11_here 12 (.getfield 130) 3 15 := ⟨by decide +kernel, rfl⟩
theorem d_c11_here_15 : gD b_c11_here 15 (.aload_n 0) 1 16 := ⟨by decide +kernel, rfl⟩
theorem d_c11_here_16 : gD b_c11_here 16 (.getfield 127) 3 19 := ⟨by decide +kernel, rfl⟩
theorem d_c11_here_19 : gJ b_c11_here 19 (.if_icmp .ge 19) 3 19 22 38 := ⟨by decide +kernel, rfl, by decide⟩
theorem d_c11_here_22 : gD b_c11_here 22 (.aload_n 0) 1 23 := ⟨by decide +kernel, rfl⟩
theorem d_c11_here_23 : gD b_c11_here 23 (.getfield 121) 3 26 := ⟨by decide +kernel, rfl⟩
theorem d_c11_here_26 : gD b_c11_here 26 (.aload_n 0) 1 27 := ⟨by decide +kernel, rfl⟩
theorem d_c11_here_27 : gD b_c11_here 27 (.getfield 130) 3 30 := ⟨by decide +kernel, rfl⟩
theorem d_c11_here_30 : gD b_c11_here 30 .baload 1 31 := ⟨by decide +kernel, rfl⟩
theorem d_c11_here_31 : gD b_c11_here 31 (.sipush 255) 3 34 := ⟨by decide +kernel, rfl⟩
theorem d_c11_here_34 : gD b_c11_here 34 .iand 1 35 := ⟨by decide +kernel, rfl⟩
theorem d_c11_here_35 : gJ b_c11_here 35 (.goto 4) 3 4 38 39 := ⟨by decide +kernel, rfl, by decide⟩
theorem d_c11_here_38 : gD b_c11_here 38 (.iconst (-1)) 1 39 := ⟨by decide +kernel, rfl⟩
theorem d_c11_here_39 : gD b_c11_here 39 .ireturn 1 40 := ⟨by decide +kernel, rfl⟩
def f_c11_here (N : Nat) (a0 : Nat) (h : gH) : Option (Int32) :=
  (gcl h a0 11).bind fun _ =>
  (gfI h a0 11 14).bind fun v1 =>
    (gfI h a0 11 12).bind fun v2 =>
    (show Option (Int32) from if v2 ≤ v1 then
    some (-1 : Int32)
  else
    (gfI h a0 11 14).bind fun v6 =>
    (gfI h a0 11 13).bind fun v7 =>
    if v7 ≤ v6 then
    some (-1 : Int32)
  else
    (gfR h a0 11 11).bind fun v9 =>
    (gfI h a0 11 14).bind fun v10 =>
    (gaB h v9 v10).bind fun v11 =>
    some (v11 &&& (255 : Int32))).bind fun t4 =>
    some t4
set_option maxHeartbeats 4000000 in
set_option maxRecDepth 100000 in
theorem ct_c11_here (l : Launch) (X : gX) (hx : gEx X = false) (N : Nat) (a0 : Nat) (h : gH) (q : Int32) (hy : f_c11_here N a0 h = some q) : gRc y_c11_here h a0 ∧ gMi l X y_c11_here b_c11_here 1 .int (1 + N) 0 0 [.ref a0] h q h := by
  unfold f_c11_here at hy
  obtain ⟨u0, e_u0, hy⟩ := gBd hy
  cases u0
  refine ⟨Or.inl ⟨11, _, _, e_u0, rfl⟩, gMet_i (lsx := [(0, .ref a0)]) (by decide) rfl rfl ?_⟩
  intro M hMl K hret
  subst hMl
  refine g_aload_n K d_c11_here_0 0 rfl ?_
  obtain ⟨v1, e_v1, hy⟩ := gBd hy
  refine g_getI K fl_c11_130 d_c11_here_1 e_v1 ?_
  refine g_aload_n K d_c11_here_4 0 rfl ?_
  obtain ⟨v2, e_v2, hy⟩ := gBd hy
  refine g_getI K fl_c11_124 d_c11_here_5 e_v2 ?_
  obtain ⟨t4, e_t4, hy⟩ := gBd hy
  have hJ5 : gG M X 1 0 0 39 [] [.int t4] h := by
    obtain rfl := Option.some.inj hy
    exact hret rfl _ _ _ d_c11_here_39
  refine g_icmp_ge K d_c11_here_8 (fun c3 => ?_) (fun c3 => ?_)
  · rw [if_pos c3] at e_t4
    refine g_iconst (v := (-1)) K d_c11_here_38 (by decide) ?_
    refine g_sub (ls2 := []) [] rfl ?_
    obtain rfl := Option.some.inj e_t4
    exact hJ5
  · rw [if_neg c3] at e_t4
    refine g_aload_n K d_c11_here_11 0 rfl ?_
    obtain ⟨v6, e_v6, e_t4⟩ := gBd e_t4
    refine g_getI K fl_c11_130 d_c11_here_12 e_v6 ?_
    refine g_aload_n K d_c11_here_15 0 rfl ?_
    obtain ⟨v7, e_v7, e_t4⟩ := gBd e_t4
    refine g_getI K fl_c11_127 d_c11_here_16 e_v7 ?_
    refine g_icmp_ge K d_c11_here_19 (fun c8 => ?_) (fun c8 => ?_)
    · rw [if_pos c8] at e_t4
      refine g_iconst (v := (-1)) K d_c11_here_38 (by decide) ?_
      refine g_sub (ls2 := []) [] rfl ?_
      obtain rfl := Option.some.inj e_t4
      exact hJ5
    · rw [if_neg c8] at e_t4
      refine g_aload_n K d_c11_here_22 0 rfl ?_
      obtain ⟨v9, e_v9, e_t4⟩ := gBd e_t4
      refine g_getR K fl_c11_121 d_c11_here_23 e_v9 ?_
      refine g_aload_n K d_c11_here_26 0 rfl ?_
      obtain ⟨v10, e_v10, e_t4⟩ := gBd e_t4
      refine g_getI K fl_c11_130 d_c11_here_27 e_v10 ?_
      obtain ⟨v11, e_v11, e_t4⟩ := gBd e_t4
      refine g_bald K d_c11_here_30 e_v11 ?_
      refine g_sipush (v := 255) K d_c11_here_31 (by decide) ?_
      refine g_iand K d_c11_here_34 ?_
      refine g_goto K d_c11_here_35 ?_
      refine g_sub (ls2 := []) [] rfl ?_
      obtain rfl := Option.some.inj e_t4
      exact hJ5
-- c11 in
theorem d_c11_in_0 : gD b_c11_in 0 (.iload_n 0) 1 1 := ⟨by decide +kernel, rfl⟩
theorem d_c11_in_1 : gD b_c11_in 1 (.iload_n 1) 1 2 := ⟨by decide +kernel, rfl⟩
theorem d_c11_in_2 : gJ b_c11_in 2 (.if_icmp .lt 12) 3 12 5 14 := ⟨by decide +kernel, rfl, by decide⟩
theorem d_c11_in_5 : gD b_c11_in 5 (.iload_n 0) 1 6 := ⟨by decide +kernel, rfl⟩
theorem d_c11_in_6 : gD b_c11_in 6 (.iload_n 2) 1 7 := ⟨by decide +kernel, rfl⟩
theorem d_c11_in_7 : gJ b_c11_in 7 (.if_icmp .gt 7) 3 7 10 14 := ⟨by decide +kernel, rfl, by decide⟩
theorem d_c11_in_10 : gD b_c11_in 10 (.iconst 1) 1 11 := ⟨by decide +kernel, rfl⟩
theorem d_c11_in_11 : gJ b_c11_in 11 (.goto 4) 3 4 14 15 := ⟨by decide +kernel, rfl, by decide⟩
theorem d_c11_in_14 : gD b_c11_in 14 (.iconst 0) 1 15 := ⟨by decide +kernel, rfl⟩
theorem d_c11_in_15 : gD b_c11_in 15 .ireturn 1 16 := ⟨by decide +kernel, rfl⟩
def f_c11_in (N : Nat) (x0 : Int32) (x1 : Int32) (x2 : Int32) (h : gH) : Option (Int32) :=
  (gZ (if x0 < x1 then (0 : Int32) else (if x2 < x0 then (0 : Int32) else (1 : Int32)))).bind fun w4 => some w4
set_option maxHeartbeats 4000000 in
set_option maxRecDepth 100000 in
theorem ct_c11_in (l : Launch) (X : gX) (hx : gEx X = false) (N : Nat) (x0 : Int32) (x1 : Int32) (x2 : Int32) (h : gH) (q : Int32) (hy : f_c11_in N x0 x1 x2 h = some q) : gMi l X y_c11_in b_c11_in 3 .boolean (1 + N) 0 0 [.int x0, .int x1, .int x2] h q h := by
  unfold f_c11_in at hy
  refine gMet_i (lsx := [(0, .int x0), (1, .int x1), (2, .int x2)]) (by decide) rfl rfl ?_
  intro M hMl K hret
  subst hMl
  refine g_iload_n K d_c11_in_0 0 rfl ?_
  refine g_iload_n K d_c11_in_1 1 rfl ?_
  have hJ3 : ∀ w2 : Int32, w2 = (if x0 < x1 then (0 : Int32) else (if x2 < x0 then (0 : Int32) else (1 : Int32))) → gG M X 3 0 0 15 [(0, .int x0), (1, .int x1), (2, .int x2)] [.int w2] h := by
    intro w2 e_w2
    subst e_w2
    obtain ⟨w4, e_w4, hy⟩ := gBd hy
    obtain ⟨z_w4, n_w4⟩ := gZ_spec e_w4
    rw [z_w4]
    obtain rfl := Option.some.inj hy
    exact hret (gZn n_w4) _ _ _ d_c11_in_15
  refine g_icmp_lt K d_c11_in_2 (fun c1 => ?_) (fun c1 => ?_)
  · refine g_iconst (v := 0) K d_c11_in_14 (by decide) ?_
    exact hJ3 _ (by rw [if_pos c1])
  · refine g_iload_n K d_c11_in_5 0 rfl ?_
    refine g_iload_n K d_c11_in_6 2 rfl ?_
    refine g_icmp_gt K d_c11_in_7 (fun c5 => ?_) (fun c5 => ?_)
    · refine g_iconst (v := 0) K d_c11_in_14 (by decide) ?_
      exact hJ3 _ (by rw [if_neg c1, if_pos c5])
    · refine g_iconst (v := 1) K d_c11_in_10 (by decide) ?_
      refine g_goto K d_c11_in_11 ?_
      exact hJ3 _ (by rw [if_neg c1, if_neg c5])
-- c11 lay
theorem d_c11_lay_0 : gD b_c11_lay 0 (.iconst 0) 1 1 := ⟨by decide +kernel, rfl⟩
theorem d_c11_lay_1 : gD b_c11_lay 1 (.istore_n 3) 1 2 := ⟨by decide +kernel, rfl⟩
theorem d_c11_lay_2 : gD b_c11_lay 2 (.iload_n 3) 1 3 := ⟨by decide +kernel, rfl⟩
theorem d_c11_lay_3 : gD b_c11_lay 3 (.bipush 43) 2 5 := ⟨by decide +kernel, rfl⟩
theorem d_c11_lay_5 : gJ b_c11_lay 5 (.if_icmp .ge 17) 3 17 8 22 := ⟨by decide +kernel, rfl, by decide⟩
theorem d_c11_lay_8 : gD b_c11_lay 8 (.aload_n 1) 1 9 := ⟨by decide +kernel, rfl⟩
theorem d_c11_lay_9 : gD b_c11_lay 9 (.iload_n 2) 1 10 := ⟨by decide +kernel, rfl⟩
theorem d_c11_lay_10 : gD b_c11_lay 10 (.iload_n 3) 1 11 := ⟨by decide +kernel, rfl⟩
theorem d_c11_lay_11 : gD b_c11_lay 11 .iadd 1 12 := ⟨by decide +kernel, rfl⟩
theorem d_c11_lay_12 : gD b_c11_lay 12 (.aload_n 0) 1 13 := ⟨by decide +kernel, rfl⟩
theorem d_c11_lay_13 : gD b_c11_lay 13 (.iload_n 3) 1 14 := ⟨by decide +kernel, rfl⟩
theorem d_c11_lay_14 : gD b_c11_lay 14 .iaload 1 15 := ⟨by decide +kernel, rfl⟩
theorem d_c11_lay_15 : gD b_c11_lay 15 .iastore 1 16 := ⟨by decide +kernel, rfl⟩
theorem d_c11_lay_16 : gD b_c11_lay 16 (.iinc 3 1) 3 19 := ⟨by decide +kernel, rfl⟩
theorem d_c11_lay_19 : gJ b_c11_lay 19 (.goto (-17)) 3 (-17) 22 2 := ⟨by decide +kernel, rfl, by decide⟩
theorem d_c11_lay_22 : gD b_c11_lay 22 .return_ 1 23 := ⟨by decide +kernel, rfl⟩
def lp_c11_lay_2 (N : Nat) (a0 : Nat) (a1 : Nat) (x2 : Int32) : Nat → Int32 → gH → Option (gH)
  | 0, _, _ => none
  | k + 1, x3, h =>
  if (43 : Int32) ≤ x3 then
    some h
  else
    (ga 0 h a0 x3).bind fun v2 =>
    (sa 0 h a1 (x2 + x3) v2).bind fun h3 =>
    lp_c11_lay_2 N a0 a1 x2 k (x3 + (1 : Int32)) h3
def f_c11_lay (N : Nat) (a0 : Nat) (a1 : Nat) (x2 : Int32) (h : gH) : Option (gH) :=
  (lp_c11_lay_2 N a0 a1 x2 N (0 : Int32) h).bind fun o4 =>
    some o4
set_option maxHeartbeats 4000000 in
set_option maxRecDepth 100000 in
theorem wlp_c11_lay_2 {M : gM} {X : gX} {N : Nat} (hx : gEx X = false) (K : gC M X gN11 b_c11_lay 4 (gRm (1 + N) 0 0)) (a0 : Nat) (a1 : Nat) (x2 : Int32) : ∀ (k : Nat) (x3 : Int32) (h : gH) (o : gH), lp_c11_lay_2 N a0 a1 x2 k x3 h = some o → gG M X 4 0 0 22 [] [] o → gG M X 4 0 0 2 [(0, .ref a0), (1, .ref a1), (2, .int x2), (3, .int x3)] [] h := by
  intro k
  induction k with
  | zero =>
    intro x3 h o hy
    rw [lp_c11_lay_2.eq_1] at hy
    cases hy
  | succ k ih =>
    intro x3 h o hy hE
    rw [lp_c11_lay_2.eq_2] at hy
    refine g_iload_n K d_c11_lay_2 3 rfl ?_
    refine g_bipush (v := 43) K d_c11_lay_3 (by decide) ?_
    refine g_icmp_ge K d_c11_lay_5 (fun c1 => ?_) (fun c1 => ?_)
    · rw [if_pos c1] at hy
      refine g_sub (ls2 := []) [] rfl ?_
      obtain rfl := Option.some.inj hy
      exact hE
    · rw [if_neg c1] at hy
      refine g_aload_n K d_c11_lay_8 1 rfl ?_
      refine g_iload_n K d_c11_lay_9 2 rfl ?_
      refine g_iload_n K d_c11_lay_10 3 rfl ?_
      refine g_iadd K d_c11_lay_11 ?_
      refine g_aload_n K d_c11_lay_12 0 rfl ?_
      refine g_iload_n K d_c11_lay_13 3 rfl ?_
      obtain ⟨v2, e_v2, hy⟩ := gBd hy
      refine g_iald K d_c11_lay_14 e_v2 ?_
      obtain ⟨h3, e_h3, hy⟩ := gBd hy
      refine g_iast K d_c11_lay_15 e_h3 ?_
      refine g_iinc (ls2 := [(3, .int (x3 + (1 : Int32))), (0, .ref a0), (1, .ref a1), (2, .int x2)]) (v := 1) K d_c11_lay_16 3 rfl (by decide) rfl rfl ?_
      refine g_goto K d_c11_lay_19 ?_
      refine g_sub (ls2 := [(0, .ref a0), (1, .ref a1), (2, .int x2), (3, .int (x3 + (1 : Int32)))]) [1, 2, 3, 0] rfl ?_
      exact ih _ _ _ hy hE
set_option maxHeartbeats 4000000 in
set_option maxRecDepth 100000 in
theorem ct_c11_lay (l : Launch) (X : gX) (hx : gEx X = false) (N : Nat) (a0 : Nat) (a1 : Nat) (x2 : Int32) (h : gH) (q : gH) (hy : f_c11_lay N a0 a1 x2 h = some q) : gMv l X y_c11_lay b_c11_lay 4 (1 + N) 0 0 [.ref a0, .ref a1, .int x2] h q := by
  unfold f_c11_lay at hy
  refine gMet_v (lsx := [(0, .ref a0), (1, .ref a1), (2, .int x2)]) (by decide) rfl rfl ?_
  intro M hMl K hret
  subst hMl
  refine g_iconst (v := 0) K d_c11_lay_0 (by decide) ?_
  refine g_istore_n (ls2 := [(3, .int (0 : Int32)), (0, .ref a0), (1, .ref a1), (2, .int x2)]) K d_c11_lay_1 rfl rfl ?_
  obtain ⟨o4, e_o4, hy⟩ := gBd hy
  refine g_sub (ls2 := [(0, .ref a0), (1, .ref a1), (2, .int x2), (3, .int (0 : Int32))]) [1, 2, 3, 0] rfl ?_
  refine wlp_c11_lay_2 hx K a0 a1 x2 N (0 : Int32) h o4 e_o4 ?_
  obtain rfl := Option.some.inj hy
  exact hret _ _ _ d_c11_lay_22
-- c11 letterOf
theorem d_c11_letterOf_0 : gD b_c11_letterOf 0 (.iload_n 0) 1 1 := ⟨by decide +kernel, rfl⟩
theorem d_c11_letterOf_1 : gD b_c11_letterOf 1 (.bipush 119) 2 3 := ⟨by decide +kernel, rfl⟩
theorem d_c11_letterOf_3 : gJ b_c11_letterOf 3 (.if_icmp .ne 7) 3 7 6 10 := ⟨by decide +kernel, rfl, by decide⟩
theorem d_c11_letterOf_6 : gD b_c11_letterOf 6 (.iconst 0) 1 7 := ⟨by decide +kernel, rfl⟩
theorem d_c11_letterOf_7 : gJ b_c11_letterOf 7 (.goto 65) 3 65 10 72 := ⟨by decide +kernel, rfl, by decide⟩
theorem d_c11_letterOf_10 : gD b_c11_letterOf 10 (.iload_n 0) 1 11 := ⟨by decide +kernel, rfl⟩
theorem d_c11_letterOf_11 : gD b_c11_letterOf 11 (.bipush 100) 2 13 := ⟨by decide +kernel, rfl⟩
theorem d_c11_letterOf_13 : gJ b_c11_letterOf 13 (.if_icmp .ne 7) 3 7 16 20 := ⟨by decide +kernel, rfl, by decide⟩
theorem d_c11_letterOf_16 : gD b_c11_letterOf 16 (.iconst 1) 1 17 := ⟨by decide +kernel, rfl⟩
theorem d_c11_letterOf_17 : gJ b_c11_letterOf 17 (.goto 55) 3 55 20 72 := ⟨by decide +kernel, rfl, by decide⟩
theorem d_c11_letterOf_20 : gD b_c11_letterOf 20 (.iload_n 0) 1 21 := ⟨by decide +kernel, rfl⟩
theorem d_c11_letterOf_21 : gD b_c11_letterOf 21 (.bipush 97) 2 23 := ⟨by decide +kernel, rfl⟩
theorem d_c11_letterOf_23 : gJ b_c11_letterOf 23 (.if_icmp .ne 7) 3 7 26 30 := ⟨by decide +kernel, rfl, by decide⟩
theorem d_c11_letterOf_26 : gD b_c11_letterOf 26 (.iconst 2) 1 27 := ⟨by decide +kernel, rfl⟩
theorem d_c11_letterOf_27 : gJ b_c11_letterOf 27 (.goto 45) 3 45 30 72 := ⟨by decide +kernel, rfl, by decide⟩
theorem d_c11_letterOf_30 : gD b_c11_letterOf 30 (.iload_n 0) 1 31 := ⟨by decide +kernel, rfl⟩
theorem d_c11_letterOf_31 : gD b_c11_letterOf 31 (.bipush 109) 2 33 := ⟨by decide +kernel, rfl⟩
theorem d_c11_letterOf_33 : gJ b_c11_letterOf 33 (.if_icmp .ne 7) 3 7 36 40 := ⟨by decide +kernel, rfl, by decide⟩
theorem d_c11_letterOf_36 : gD b_c11_letterOf 36 (.iconst 3) 1 37 := ⟨by decide +kernel, rfl⟩
theorem d_c11_letterOf_37 : gJ b_c11_letterOf 37 (.goto 35) 3 35 40 72 := ⟨by decide +kernel, rfl, by decide⟩
theorem d_c11_letterOf_40 : gD b_c11_letterOf 40 (.iload_n 0) 1 41 := ⟨by decide +kernel, rfl⟩
theorem d_c11_letterOf_41 : gD b_c11_letterOf 41 (.bipush 118) 2 43 := ⟨by decide +kernel, rfl⟩
theorem d_c11_letterOf_43 : gJ b_c11_letterOf 43 (.if_icmp .ne 7) 3 7 46 50 := ⟨by decide +kernel, rfl, by decide⟩
theorem d_c11_letterOf_46 : gD b_c11_letterOf 46 (.iconst 4) 1 47 := ⟨by decide +kernel, rfl⟩
theorem d_c11_letterOf_47 : gJ b_c11_letterOf 47 (.goto 25) 3 25 50 72 := ⟨by decide +kernel, rfl, by decide⟩
theorem d_c11_letterOf_50 : gD b_c11_letterOf 50 (.iload_n 0) 1 51 := ⟨by decide +kernel, rfl⟩
theorem d_c11_letterOf_51 : gD b_c11_letterOf 51 (.bipush 108) 2 53 := ⟨by decide +kernel, rfl⟩
theorem d_c11_letterOf_53 : gJ b_c11_letterOf 53 (.if_icmp .ne 7) 3 7 56 60 := ⟨by decide +kernel, rfl, by decide⟩
theorem d_c11_letterOf_56 : gD b_c11_letterOf 56 (.iconst 5) 1 57 := ⟨by decide +kernel, rfl⟩
theorem d_c11_letterOf_57 : gJ b_c11_letterOf 57 (.goto 15) 3 15 60 72 := ⟨by decide +kernel, rfl, by decide⟩
theorem d_c11_letterOf_60 : gD b_c11_letterOf 60 (.iload_n 0) 1 61 := ⟨by decide +kernel, rfl⟩
theorem d_c11_letterOf_61 : gD b_c11_letterOf 61 (.bipush 110) 2 63 := ⟨by decide +kernel, rfl⟩
theorem d_c11_letterOf_63 : gJ b_c11_letterOf 63 (.if_icmp .ne 8) 3 8 66 71 := ⟨by decide +kernel, rfl, by decide⟩
theorem d_c11_letterOf_66 : gD b_c11_letterOf 66 (.bipush 6) 2 68 := ⟨by decide +kernel, rfl⟩
theorem d_c11_letterOf_68 : gJ b_c11_letterOf 68 (.goto 4) 3 4 71 72 := ⟨by decide +kernel, rfl, by decide⟩
theorem d_c11_letterOf_71 : gD b_c11_letterOf 71 (.iconst (-1)) 1 72 := ⟨by decide +kernel, rfl⟩
theorem d_c11_letterOf_72 : gD b_c11_letterOf 72 .ireturn 1 73 := ⟨by decide +kernel, rfl⟩
def f_c11_letterOf (N : Nat) (x0 : Int32) (h : gH) : Option (Int32) :=
  some (if x0 = (119 : Int32) then (0 : Int32) else (if x0 = (100 : Int32) then (1 : Int32) else (if x0 = (97 : Int32) then (2 : Int32) else (if x0 = (109 : Int32) then (3 : Int32) else (if x0 = (118 : Int32) then (4 : Int32) else (if x0 = (108 : Int32) then (5 : Int32) else (if x0 = (110 : Int32) then (6 : Int32) else (-1 : Int32))))))))
set_option maxHeartbeats 4000000 in
set_option maxRecDepth 100000 in
theorem ct_c11_letterOf (l : Launch) (X : gX) (hx : gEx X = false) (N : Nat) (x0 : Int32) (h : gH) (q : Int32) (hy : f_c11_letterOf N x0 h = some q) : gMi l X y_c11_letterOf b_c11_letterOf 1 .int (1 + N) 0 0 [.int x0] h q h := by
  unfold f_c11_letterOf at hy
  refine gMet_i (lsx := [(0, .int x0)]) (by decide) rfl rfl ?_
  intro M hMl K hret
  subst hMl
  refine g_iload_n K d_c11_letterOf_0 0 rfl ?_
  refine g_bipush (v := 119) K d_c11_letterOf_1 (by decide) ?_
  have hJ3 : ∀ w2 : Int32, w2 = (if x0 = (119 : Int32) then (0 : Int32) else (if x0 = (100 : Int32) then (1 : Int32) else (if x0 = (97 : Int32) then (2 : Int32) else (if x0 = (109 : Int32) then (3 : Int32) else (if x0 = (118 : Int32) then (4 : Int32) else (if x0 = (108 : Int32) then (5 : Int32) else (if x0 = (110 : Int32) then (6 : Int32) else (-1 : Int32)))))))) → gG M X 1 0 0 72 [(0, .int x0)] [.int w2] h := by
    intro w2 e_w2
    subst e_w2
    obtain rfl := Option.some.inj hy
    exact hret rfl _ _ _ d_c11_letterOf_72
  refine g_icmp_ne K d_c11_letterOf_3 (fun c1 => ?_) (fun c1 => ?_)
  · refine g_iload_n K d_c11_letterOf_10 0 rfl ?_
    refine g_bipush (v := 100) K d_c11_letterOf_11 (by decide) ?_
    refine g_icmp_ne K d_c11_letterOf_13 (fun c4 => ?_) (fun c4 => ?_)
    · refine g_iload_n K d_c11_letterOf_20 0 rfl ?_
      refine g_bipush (v := 97) K d_c11_letterOf_21 (by decide) ?_
      refine g_icmp_ne K d_c11_letterOf_23 (fun c5 => ?_) (fun c5 => ?_)
      · refine g_iload_n K d_c11_letterOf_30 0 rfl ?_
        refine g_bipush (v := 109) K d_c11_letterOf_31 (by decide) ?_
        refine g_icmp_ne K d_c11_letterOf_33 (fun c6 => ?_) (fun c6 => ?_)
        · refine g_iload_n K d_c11_letterOf_40 0 rfl ?_
          refine g_bipush (v := 118) K d_c11_letterOf_41 (by decide) ?_
          refine g_icmp_ne K d_c11_letterOf_43 (fun c7 => ?_) (fun c7 => ?_)
          · refine g_iload_n K d_c11_letterOf_50 0 rfl ?_
            refine g_bipush (v := 108) K d_c11_letterOf_51 (by decide) ?_
            refine g_icmp_ne K d_c11_letterOf_53 (fun c8 => ?_) (fun c8 => ?_)
            · refine g_iload_n K d_c11_letterOf_60 0 rfl ?_
              refine g_bipush (v := 110) K d_c11_letterOf_61 (by decide) ?_
              refine g_icmp_ne K d_c11_letterOf_63 (fun c9 => ?_) (fun c9 => ?_)
              · refine g_iconst (v := (-1)) K d_c11_letterOf_71 (by decide) ?_
                exact hJ3 _ (by rw [if_neg c1, if_neg c4, if_neg c5, if_neg c6, if_neg c7, if_neg c8, if_neg c9])
              · refine g_bipush (v := 6) K d_c11_letterOf_66 (by decide) ?_
                refine g_goto K d_c11_letterOf_68 ?_
                exact hJ3 _ (by rw [if_neg c1, if_neg c4, if_neg c5, if_neg c6, if_neg c7, if_neg c8, if_pos c9])
            · refine g_iconst (v := 5) K d_c11_letterOf_56 (by decide) ?_
              refine g_goto K d_c11_letterOf_57 ?_
              exact hJ3 _ (by rw [if_neg c1, if_neg c4, if_neg c5, if_neg c6, if_neg c7, if_pos c8])
          · refine g_iconst (v := 4) K d_c11_letterOf_46 (by decide) ?_
            refine g_goto K d_c11_letterOf_47 ?_
            exact hJ3 _ (by rw [if_neg c1, if_neg c4, if_neg c5, if_neg c6, if_pos c7])
        · refine g_iconst (v := 3) K d_c11_letterOf_36 (by decide) ?_
          refine g_goto K d_c11_letterOf_37 ?_
          exact hJ3 _ (by rw [if_neg c1, if_neg c4, if_neg c5, if_pos c6])
      · refine g_iconst (v := 2) K d_c11_letterOf_26 (by decide) ?_
        refine g_goto K d_c11_letterOf_27 ?_
        exact hJ3 _ (by rw [if_neg c1, if_neg c4, if_pos c5])
    · refine g_iconst (v := 1) K d_c11_letterOf_16 (by decide) ?_
      refine g_goto K d_c11_letterOf_17 ?_
      exact hJ3 _ (by rw [if_neg c1, if_pos c4])
  · refine g_iconst (v := 0) K d_c11_letterOf_6 (by decide) ?_
    refine g_goto K d_c11_letterOf_7 ?_
    exact hJ3 _ (by rw [if_pos c1])
-- c11 lost
theorem d_c11_lost_0 : gD b_c11_lost 0 (.aload_n 0) 1 1 := ⟨by decide +kernel, rfl⟩
theorem d_c11_lost_1 : gD b_c11_lost 1 (.iconst 1) 1 2 := ⟨by decide +kernel, rfl⟩
theorem d_c11_lost_2 : gD b_c11_lost 2 (.putfield 95) 3 5 := ⟨by decide +kernel, rfl⟩
theorem d_c11_lost_5 : gD b_c11_lost 5 (.iconst 0) 1 6 := ⟨by decide +kernel, rfl⟩
theorem d_c11_lost_6 : gD b_c11_lost 6 .ireturn 1 7 := ⟨by decide +kernel, rfl⟩
def f_c11_lost (N : Nat) (a0 : Nat) (h : gH) : Option (Int32 × gH) :=
  (gcl h a0 11).bind fun _ =>
  (sf h a0 11 10 (.int (1 : Int32))).bind fun h1 =>
    some ((0 : Int32), h1)
set_option maxHeartbeats 4000000 in
set_option maxRecDepth 100000 in
theorem ct_c11_lost (l : Launch) (X : gX) (hx : gEx X = false) (N : Nat) (a0 : Nat) (h : gH) (q : Int32 × gH) (hy : f_c11_lost N a0 h = some q) : gRc y_c11_lost h a0 ∧ gMi l X y_c11_lost b_c11_lost 1 .int (1 + N) 0 0 [.ref a0] h q.1 q.2 := by
  unfold f_c11_lost at hy
  obtain ⟨u0, e_u0, hy⟩ := gBd hy
  cases u0
  refine ⟨Or.inl ⟨11, _, _, e_u0, rfl⟩, gMet_i (lsx := [(0, .ref a0)]) (by decide) rfl rfl ?_⟩
  intro M hMl K hret
  subst hMl
  refine g_aload_n K d_c11_lost_0 0 rfl ?_
  refine g_iconst (v := 1) K d_c11_lost_1 (by decide) ?_
  obtain ⟨h1, e_h1, hy⟩ := gBd hy
  refine g_putI K fp_c11_95 d_c11_lost_2 e_h1 ?_
  refine g_iconst (v := 0) K d_c11_lost_5 (by decide) ?_
  obtain rfl := Option.some.inj hy
  exact hret rfl _ _ _ d_c11_lost_6
-- c11 power
theorem d_c11_power_0 : gD b_c11_power 0 (.lconst 1) 1 1 := ⟨by decide +kernel, rfl⟩
theorem d_c11_power_1 : gD b_c11_power 1 (.lstore_n 3) 1 2 := ⟨by decide +kernel, rfl⟩
theorem d_c11_power_2 : gD b_c11_power 2 (.iconst 0) 1 3 := ⟨by decide +kernel, rfl⟩
theorem d_c11_power_3 : gD b_c11_power 3 (.istore 5) 2 5 := ⟨by decide +kernel, rfl⟩
theorem d_c11_power_5 : gD b_c11_power 5 (.iload 5) 2 7 := ⟨by decide +kernel, rfl⟩
theorem d_c11_power_7 : gD b_c11_power 7 (.iload_n 2) 1 8 := ⟨by decide +kernel, rfl⟩
theorem d_c11_power_8 : gJ b_c11_power 8 (.if_icmp .ge 13) 3 13 11 21 := ⟨by decide +kernel, rfl, by decide⟩
theorem d_c11_power_11 : gD b_c11_power 11 (.lload_n 3) 1 12 := ⟨by decide +kernel, rfl⟩
theorem d_c11_power_12 : gD b_c11_power 12 (.lload_n 0) 1 13 := ⟨by decide +kernel, rfl⟩
theorem d_c11_power_13 : gD b_c11_power 13 .lmul 1 14 := ⟨by decide +kernel, rfl⟩
theorem d_c11_power_14 : gD b_c11_power 14 (.lstore_n 3) 1 15 := ⟨by decide +kernel, rfl⟩
theorem d_c11_power_15 : gD b_c11_power 15 (.iinc 5 1) 3 18 := ⟨by decide +kernel, rfl⟩
theorem d_c11_power_18 : gJ b_c11_power 18 (.goto (-13)) 3 (-13) 21 5 := ⟨by decide +kernel, rfl, by decide⟩
theorem d_c11_power_21 : gD b_c11_power 21 (.lload_n 3) 1 22 := ⟨by decide +kernel, rfl⟩
theorem d_c11_power_22 : gD b_c11_power 22 .lreturn 1 23 := ⟨by decide +kernel, rfl⟩
def lp_c11_power_5 (N : Nat) (y0 : Int64) (x2 : Int32) (h : gH) : Nat → Int64 → Int32 → Option (Int64)
  | 0, _, _ => none
  | k + 1, y3, x5 =>
  if x2 ≤ x5 then
    some y3
  else
    lp_c11_power_5 N y0 x2 h k (y3 * y0) (x5 + (1 : Int32))
def f_c11_power (N : Nat) (y0 : Int64) (x2 : Int32) (h : gH) : Option (Int64) :=
  (lp_c11_power_5 N y0 x2 h N (1 : Int64) (0 : Int32)).bind fun o2 =>
    some o2
set_option maxHeartbeats 4000000 in
set_option maxRecDepth 100000 in
theorem wlp_c11_power_5 {M : gM} {X : gX} {N : Nat} (hx : gEx X = false) (K : gC M X gN11 b_c11_power 6 (gRm (1 + N) 0 0)) (y0 : Int64) (x2 : Int32) (h : gH) : ∀ (k : Nat) (y3 : Int64) (x5 : Int32) (o : Int64), lp_c11_power_5 N y0 x2 h k y3 x5 = some o → gG M X 6 0 0 21 [(3, .long o)] [] h → gG M X 6 0 0 5 [(0, .long y0), (2, .int x2), (3, .long y3), (5, .int x5)] [] h := by
  intro k
  induction k with
  | zero =>
    intro y3 x5 o hy
    rw [lp_c11_power_5.eq_1] at hy
    cases hy
  | succ k ih =>
    intro y3 x5 o hy hE
    rw [lp_c11_power_5.eq_2] at hy
    refine g_iload K d_c11_power_5 3 rfl ?_
    refine g_iload_n K d_c11_power_7 1 rfl ?_
    refine g_icmp_ge K d_c11_power_8 (fun c1 => ?_) (fun c1 => ?_)
    · rw [if_pos c1] at hy
      refine g_sub (ls2 := [(3, .long y3)]) [2] rfl ?_
      obtain rfl := Option.some.inj hy
      exact hE
    · rw [if_neg c1] at hy
      refine g_lload_n K d_c11_power_11 2 rfl ?_
      refine g_lload_n K d_c11_power_12 0 rfl ?_
      refine g_lmul K d_c11_power_13 ?_
      refine g_lstore_n (ls2 := [(3, .long (y3 * y0)), (0, .long y0), (2, .int x2), (5, .int x5)]) K d_c11_power_14 rfl rfl ?_
      refine g_iinc (ls2 := [(5, .int (x5 + (1 : Int32))), (3, .long (y3 * y0)), (0, .long y0), (2, .int x2)]) (v := 1) K d_c11_power_15 3 rfl (by decide) rfl rfl ?_
      refine g_goto K d_c11_power_18 ?_
      refine g_sub (ls2 := [(0, .long y0), (2, .int x2), (3, .long (y3 * y0)), (5, .int (x5 + (1 : Int32)))]) [2, 3, 1, 0] rfl ?_
      exact ih _ _ _ hy hE
set_option maxHeartbeats 4000000 in
set_option maxRecDepth 100000 in
theorem ct_c11_power (l : Launch) (X : gX) (hx : gEx X = false) (N : Nat) (y0 : Int64) (x2 : Int32) (h : gH) (q : Int64) (hy : f_c11_power N y0 x2 h = some q) : gMl l X y_c11_power b_c11_power 6 (1 + N) 0 0 [.long y0, .int x2] h q h := by
  unfold f_c11_power at hy
  refine gMet_l (lsx := [(0, .long y0), (2, .int x2)]) (by decide) rfl rfl ?_
  intro M hMl K hret
  subst hMl
  refine g_lconst (v := 1) K d_c11_power_0 (by decide) ?_
  refine g_lstore_n (ls2 := [(3, .long (1 : Int64)), (0, .long y0), (2, .int x2)]) K d_c11_power_1 rfl rfl ?_
  refine g_iconst (v := 0) K d_c11_power_2 (by decide) ?_
  refine g_istore (ls2 := [(5, .int (0 : Int32)), (3, .long (1 : Int64)), (0, .long y0), (2, .int x2)]) K d_c11_power_3 rfl rfl ?_
  obtain ⟨o2, e_o2, hy⟩ := gBd hy
  refine g_sub (ls2 := [(0, .long y0), (2, .int x2), (3, .long (1 : Int64)), (5, .int (0 : Int32))]) [2, 3, 1, 0] rfl ?_
  refine wlp_c11_power_5 hx K y0 x2 h N (1 : Int64) (0 : Int32) o2 e_o2 ?_
  refine g_lload_n K d_c11_power_21 0 rfl ?_
  obtain rfl := Option.some.inj hy
  exact hret _ _ _ d_c11_power_22
-- c11 sign
theorem d_c11_sign_0 : gD b_c11_sign 0 (.aload_n 0) 1 1 := ⟨by decide +kernel, rfl⟩
theorem d_c11_sign_1 : gD b_c11_sign 1 (.iconst 0) 1 2 := ⟨by decide +kernel, rfl⟩
theorem d_c11_sign_2 : gD b_c11_sign 2 (.putfield 95) 3 5 := ⟨by decide +kernel, rfl⟩
theorem d_c11_sign_5 : gD b_c11_sign 5 (.aload_n 0) 1 6 := ⟨by decide +kernel, rfl⟩
theorem d_c11_sign_6 : gD b_c11_sign 6 (.getfield 118) 3 9 := ⟨by decide +kernel, rfl⟩
theorem d_c11_sign_9 : gD b_c11_sign 9 (.iconst 4) 1 10 := ⟨by decide +kernel, rfl⟩
theorem d_c11_sign_10 : gD b_c11_sign 10 .iadd 1 11 := ⟨by decide +kernel, rfl⟩
theorem d_c11_sign_11 : gD b_c11_sign 11 (.bipush 80) 2 13 := ⟨by decide +kernel, rfl⟩
theorem d_c11_sign_13 : gJ b_c11_sign 13 (.if_icmp .le 5) 3 5 16 18 := ⟨by decide +kernel, rfl, by decide⟩
theorem d_c11_sign_16 : gD b_c11_sign 16 (.iconst (-1)) 1 17 := ⟨by decide +kernel, rfl⟩
theorem d_c11_sign_17 : gD b_c11_sign 17 .ireturn 1 18 := ⟨by decide +kernel, rfl⟩
theorem d_c11_sign_18 : gD b_c11_sign 18 (.iconst 3) 1 19 := ⟨by decide +kernel, rfl⟩
theorem d_c11_sign_19 : gD b_c11_sign 19 (.istore_n 2) 1 20 := ⟨by decide +kernel, rfl⟩
theorem d_c11_sign_20 : gD b_c11_sign 20 (.iload_n 2) 1 21 := ⟨by decide +kernel, rfl⟩
theorem d_c11_sign_21 : gJ b_c11_sign 21 (.ifCond .lt 32) 3 32 24 53 := ⟨by decide +kernel, rfl, by decide⟩
theorem d_c11_sign_24 : gD b_c11_sign 24 (.aload_n 0) 1 25 := ⟨by decide +kernel, rfl⟩
theorem d_c11_sign_25 : gD b_c11_sign 25 (.getfield 26) 3 28 := ⟨by decide +kernel, rfl⟩
theorem d_c11_sign_28 : gD b_c11_sign 28 (.aload_n 0) 1 29 := ⟨by decide +kernel, rfl⟩
theorem d_c11_sign_29 : gD b_c11_sign 29 .dup 1 30 := ⟨by decide +kernel, rfl⟩
theorem d_c11_sign_30 : gD b_c11_sign 30 (.getfield 118) 3 33 := ⟨by decide +kernel, rfl⟩
theorem d_c11_sign_33 : gD b_c11_sign 33 .dup_x1 1 34 := ⟨by decide +kernel, rfl⟩
theorem d_c11_sign_34 : gD b_c11_sign 34 (.iconst 1) 1 35 := ⟨by decide +kernel, rfl⟩
theorem d_c11_sign_35 : gD b_c11_sign 35 .iadd 1 36 := ⟨by decide +kernel, rfl⟩
theorem d_c11_sign_36 : gD b_c11_sign 36 (.putfield 118) 3 39 := ⟨by decide +kernel, rfl⟩
theorem d_c11_sign_39 : gD b_c11_sign 39 (.iload_n 1) 1 40 := ⟨by decide +kernel, rfl⟩
theorem d_c11_sign_40 : gD b_c11_sign 40 (.bipush 8) 2 42 := ⟨by decide +kernel, rfl⟩
theorem d_c11_sign_42 : gD b_c11_sign 42 (.iload_n 2) 1 43 := ⟨by decide +kernel, rfl⟩
theorem d_c11_sign_43 : gD b_c11_sign 43 .imul 1 44 := ⟨by decide +kernel, rfl⟩
theorem d_c11_sign_44 : gD b_c11_sign 44 .ishr 1 45 := ⟨by decide +kernel, rfl⟩
theorem d_c11_sign_45 : gD b_c11_sign 45 .i2b 1 46 := ⟨by decide +kernel, rfl⟩
theorem d_c11_sign_46 : gD b_c11_sign 46 .bastore 1 47 := ⟨by decide +kernel, rfl⟩
theorem d_c11_sign_47 : gD b_c11_sign 47 (.iinc 2 (-1)) 3 50 := ⟨by decide +kernel, rfl⟩
theorem d_c11_sign_50 : gJ b_c11_sign 50 (.goto (-30)) 3 (-30) 53 20 := ⟨by decide +kernel, rfl, by decide⟩
theorem d_c11_sign_53 : gD b_c11_sign 53 (.aload_n 0) 1 54 := ⟨by decide +kernel, rfl⟩
theorem d_c11_sign_54 : gD b_c11_sign 54 (.getfield 118) 3 57 := ⟨by decide +kernel, rfl⟩
theorem d_c11_sign_57 : gD b_c11_sign 57 .ireturn 1 58 := ⟨by decide +kernel, rfl⟩
def lp_c11_sign_20 (N : Nat) (a0 : Nat) (x1 : Int32) : Nat → Int32 → gH → Option (gH)
  | 0, _, _ => none
  | k + 1, x2, h =>
  if x2 < 0 then
    some h
  else
    (gfR h a0 11 6).bind fun v5 =>
    (gfI h a0 11 7).bind fun v6 =>
    (sf h a0 11 7 (.int (v6 + (1 : Int32)))).bind fun h7 =>
    (saB h7 v5 v6 ((x1 >>> (((8 : Int32) * x2) &&& 31)).toInt8.toInt32)).bind fun h8 =>
    lp_c11_sign_20 N a0 x1 k (x2 + (-1 : Int32)) h8
def f_c11_sign (N : Nat) (a0 : Nat) (x1 : Int32) (h : gH) : Option (Int32 × gH) :=
  (gcl h a0 11).bind fun _ =>
  (sf h a0 11 10 (.int (0 : Int32))).bind fun h1 =>
    (gfI h1 a0 11 7).bind fun v2 =>
    if (v2 + (4 : Int32)) ≤ (80 : Int32) then
    (lp_c11_sign_20 N a0 x1 N (3 : Int32) h1).bind fun o9 =>
    (gfI o9 a0 11 7).bind fun v10 =>
    some (v10, o9)
  else
    some ((-1 : Int32), h1)
set_option maxHeartbeats 4000000 in
set_option maxRecDepth 100000 in
theorem wlp_c11_sign_20 {M : gM} {X : gX} {N : Nat} (hx : gEx X = false) (K : gC M X gN11 b_c11_sign 3 (gRm (1 + N) 0 0)) (a0 : Nat) (x1 : Int32) : ∀ (k : Nat) (x2 : Int32) (h : gH) (o : gH), lp_c11_sign_20 N a0 x1 k x2 h = some o → gG M X 3 0 0 53 [(0, .ref a0)] [] o → gG M X 3 0 0 20 [(0, .ref a0), (1, .int x1), (2, .int x2)] [] h := by
  intro k
  induction k with
  | zero =>
    intro x2 h o hy
    rw [lp_c11_sign_20.eq_1] at hy
    cases hy
  | succ k ih =>
    intro x2 h o hy hE
    rw [lp_c11_sign_20.eq_2] at hy
    refine g_iload_n K d_c11_sign_20 2 rfl ?_
    refine g_if_lt K d_c11_sign_21 (fun c4 => ?_) (fun c4 => ?_)
    · rw [if_pos c4] at hy
      refine g_sub (ls2 := [(0, .ref a0)]) [0] rfl ?_
      obtain rfl := Option.some.inj hy
      exact hE
    · rw [if_neg c4] at hy
      refine g_aload_n K d_c11_sign_24 0 rfl ?_
      obtain ⟨v5, e_v5, hy⟩ := gBd hy
      refine g_getR K fl_c11_26 d_c11_sign_25 e_v5 ?_
      refine g_aload_n K d_c11_sign_28 0 rfl ?_
      refine g_dup K d_c11_sign_29 rfl ?_
      obtain ⟨v6, e_v6, hy⟩ := gBd hy
      refine g_getI K fl_c11_118 d_c11_sign_30 e_v6 ?_
      refine g_dup_x1 K d_c11_sign_33 rfl rfl ?_
      refine g_iconst (v := 1) K d_c11_sign_34 (by decide) ?_
      refine g_iadd K d_c11_sign_35 ?_
      obtain ⟨h7, e_h7, hy⟩ := gBd hy
      refine g_putI K fp_c11_118 d_c11_sign_36 e_h7 ?_
      refine g_iload_n K d_c11_sign_39 1 rfl ?_
      refine g_bipush (v := 8) K d_c11_sign_40 (by decide) ?_
      refine g_iload_n K d_c11_sign_42 2 rfl ?_
      refine g_imul K d_c11_sign_43 ?_
      refine g_ishr K d_c11_sign_44 ?_
      refine g_i2b K d_c11_sign_45 ?_
      obtain ⟨h8, e_h8, hy⟩ := gBd hy
      refine g_bast K d_c11_sign_46 e_h8 ?_
      refine g_iinc (ls2 := [(2, .int (x2 + (-1 : Int32))), (0, .ref a0), (1, .int x1)]) (v := (-1)) K d_c11_sign_47 2 rfl (by decide) rfl rfl ?_
      refine g_goto K d_c11_sign_50 ?_
      refine g_sub (ls2 := [(0, .ref a0), (1, .int x1), (2, .int (x2 + (-1 : Int32)))]) [1, 2, 0] rfl ?_
      exact ih _ _ _ hy hE
set_option maxHeartbeats 4000000 in
set_option maxRecDepth 100000 in
theorem ct_c11_sign (l : Launch) (X : gX) (hx : gEx X = false) (N : Nat) (a0 : Nat) (x1 : Int32) (h : gH) (q : Int32 × gH) (hy : f_c11_sign N a0 x1 h = some q) : gRc y_c11_sign h a0 ∧ gMi l X y_c11_sign b_c11_sign 3 .int (1 + N) 0 0 [.ref a0, .int x1] h q.1 q.2 := by
  unfold f_c11_sign at hy
  obtain ⟨u0, e_u0, hy⟩ := gBd hy
  cases u0
  refine ⟨Or.inl ⟨11, _, _, e_u0, rfl⟩, gMet_i (lsx := [(0, .ref a0), (1, .int x1)]) (by decide) rfl rfl ?_⟩
  intro M hMl K hret
  subst hMl
  refine g_aload_n K d_c11_sign_0 0 rfl ?_
  refine g_iconst (v := 0) K d_c11_sign_1 (by decide) ?_
  obtain ⟨h1, e_h1, hy⟩ := gBd hy
  refine g_putI K fp_c11_95 d_c11_sign_2 e_h1 ?_
  refine g_aload_n K d_c11_sign_5 0 rfl ?_
  obtain ⟨v2, e_v2, hy⟩ := gBd hy
  refine g_getI K fl_c11_118 d_c11_sign_6 e_v2 ?_
  refine g_iconst (v := 4) K d_c11_sign_9 (by decide) ?_
  refine g_iadd K d_c11_sign_10 ?_
  refine g_bipush (v := 80) K d_c11_sign_11 (by decide) ?_
  refine g_icmp_le K d_c11_sign_13 (fun c3 => ?_) (fun c3 => ?_)
  · rw [if_pos c3] at hy
    refine g_iconst (v := 3) K d_c11_sign_18 (by decide) ?_
    refine g_istore_n (ls2 := [(2, .int (3 : Int32)), (0, .ref a0), (1, .int x1)]) K d_c11_sign_19 rfl rfl ?_
    obtain ⟨o9, e_o9, hy⟩ := gBd hy
    refine g_sub (ls2 := [(0, .ref a0), (1, .int x1), (2, .int (3 : Int32))]) [1, 2, 0] rfl ?_
    refine wlp_c11_sign_20 hx K a0 x1 N (3 : Int32) h1 o9 e_o9 ?_
    refine g_aload_n K d_c11_sign_53 0 rfl ?_
    obtain ⟨v10, e_v10, hy⟩ := gBd hy
    refine g_getI K fl_c11_118 d_c11_sign_54 e_v10 ?_
    obtain rfl := Option.some.inj hy
    exact hret rfl _ _ _ d_c11_sign_57
  · rw [if_neg c3] at hy
    refine g_iconst (v := (-1)) K d_c11_sign_16 (by decide) ?_
    obtain rfl := Option.some.inj hy
    exact hret rfl _ _ _ d_c11_sign_17
-- c11 takeAway
theorem d_c11_takeAway_0 : gD b_c11_takeAway 0 (.iconst 0) 1 1 := ⟨by decide +kernel, rfl⟩
theorem d_c11_takeAway_1 : gD b_c11_takeAway 1 (.istore_n 2) 1 2 := ⟨by decide +kernel, rfl⟩
theorem d_c11_takeAway_2 : gD b_c11_takeAway 2 (.iload_n 2) 1 3 := ⟨by decide +kernel, rfl⟩
theorem d_c11_takeAway_3 : gD b_c11_takeAway 3 (.iconst 5) 1 4 := ⟨by decide +kernel, rfl⟩
theorem d_c11_takeAway_4 : gJ b_c11_takeAway 4 (.if_icmp .ge 54) 3 54 7 58 := ⟨by decide +kernel, rfl, by decide⟩
theorem d_c11_takeAway_7 : gD b_c11_takeAway 7 (.iload_n 1) 1 8 := ⟨by decide +kernel, rfl⟩
theorem d_c11_takeAway_8 : gD b_c11_takeAway 8 (.istore_n 3) 1 9 := ⟨by decide +kernel, rfl⟩
theorem d_c11_takeAway_9 : gD b_c11_takeAway 9 (.iload_n 3) 1 10 := ⟨by decide +kernel, rfl⟩
theorem d_c11_takeAway_10 : gD b_c11_takeAway 10 (.aload_n 0) 1 11 := ⟨by decide +kernel, rfl⟩
theorem d_c11_takeAway_11 : gD b_c11_takeAway 11 (.getfield 52) 3 14 := ⟨by decide +kernel, rfl⟩
theorem d_c11_takeAway_14 : gD b_c11_takeAway 14 (.bipush 40) 2 16 := ⟨by decide +kernel, rfl⟩
theorem d_c11_takeAway_16 : gD b_c11_takeAway 16 .iaload 1 17 := ⟨by decide +kernel, rfl⟩
theorem d_c11_takeAway_17 : gD b_c11_takeAway 17 (.iconst 1) 1 18 := ⟨by decide +kernel, rfl⟩
theorem d_c11_takeAway_18 : gD b_c11_takeAway 18 .isub 1 19 := ⟨by decide +kernel, rfl⟩
theorem d_c11_takeAway_19 : gJ b_c11_takeAway 19 (.if_icmp .ge 33) 3 33 22 52 := ⟨by decide +kernel, rfl, by decide⟩
theorem d_c11_takeAway_22 : gD b_c11_takeAway 22 (.aload_n 0) 1 23 := ⟨by decide +kernel, rfl⟩
theorem d_c11_takeAway_23 : gD b_c11_takeAway 23 (.getfield 52) 3 26 := ⟨by decide +kernel, rfl⟩
theorem d_c11_takeAway_26 : gD b_c11_takeAway 26 (.bipush 8) 2 28 := ⟨by decide +kernel, rfl⟩
theorem d_c11_takeAway_28 : gD b_c11_takeAway 28 (.iload_n 2) 1 29 := ⟨by decide +kernel, rfl⟩
theorem d_c11_takeAway_29 : gD b_c11_takeAway 29 .imul 1 30 := ⟨by decide +kernel, rfl⟩
theorem d_c11_takeAway_30 : gD b_c11_takeAway 30 (.iload_n 3) 1 31 := ⟨by decide +kernel, rfl⟩
theorem d_c11_takeAway_31 : gD b_c11_takeAway 31 .iadd 1 32 := ⟨by decide +kernel, rfl⟩
theorem d_c11_takeAway_32 : gD b_c11_takeAway 32 (.aload_n 0) 1 33 := ⟨by decide +kernel, rfl⟩
theorem d_c11_takeAway_33 : gD b_c11_takeAway 33 (.getfield 52) 3 36 := ⟨by decide +kernel, rfl⟩
theorem d_c11_takeAway_36 : gD b_c11_takeAway 36 (.bipush 8) 2 38 := ⟨by decide +kernel, rfl⟩
theorem d_c11_takeAway_38 : gD b_c11_takeAway 38 (.iload_n 2) 1 39 := ⟨by decide +kernel, rfl⟩
theorem d_c11_takeAway_39 : gD b_c11_takeAway 39 .imul 1 40 := ⟨by decide +kernel, rfl⟩
theorem d_c11_takeAway_40 : gD b_c11_takeAway 40 (.iload_n 3) 1 41 := ⟨by decide +kernel, rfl⟩
theorem d_c11_takeAway_41 : gD b_c11_takeAway 41 .iadd 1 42 := ⟨by decide +kernel, rfl⟩
theorem d_c11_takeAway_42 : gD b_c11_takeAway 42 (.iconst 1) 1 43 := ⟨by decide +kernel, rfl⟩
theorem d_c11_takeAway_43 : gD b_c11_takeAway 43 .iadd 1 44 := ⟨by decide +kernel, rfl⟩
theorem d_c11_takeAway_44 : gD b_c11_takeAway 44 .iaload 1 45 := ⟨by decide +kernel, rfl⟩
theorem d_c11_takeAway_45 : gD b_c11_takeAway 45 .iastore 1 46 := ⟨by decide +kernel, rfl⟩
theorem d_c11_takeAway_46 : gD b_c11_takeAway 46 (.iinc 3 1) 3 49 := ⟨by decide +kernel, rfl⟩
theorem d_c11_takeAway_49 : gJ b_c11_takeAway 49 (.goto (-40)) 3 (-40) 52 9 := ⟨by decide +kernel, rfl, by decide⟩
theorem d_c11_takeAway_52 : gD b_c11_takeAway 52 (.iinc 2 1) 3 55 := ⟨by decide +kernel, rfl⟩
theorem d_c11_takeAway_55 : gJ b_c11_takeAway 55 (.goto (-53)) 3 (-53) 58 2 := ⟨by decide +kernel, rfl, by decide⟩
theorem d_c11_takeAway_58 : gD b_c11_takeAway 58 (.aload_n 0) 1 59 := ⟨by decide +kernel, rfl⟩
theorem d_c11_takeAway_59 : gD b_c11_takeAway 59 (.getfield 52) 3 62 := ⟨by decide +kernel, rfl⟩
theorem d_c11_takeAway_62 : gD b_c11_takeAway 62 (.bipush 40) 2 64 := ⟨by decide +kernel, rfl⟩
theorem d_c11_takeAway_64 : gD b_c11_takeAway 64 .dup2 1 65 := ⟨by decide +kernel, rfl⟩
theorem d_c11_takeAway_65 : gD b_c11_takeAway 65 .iaload 1 66 := ⟨by decide +kernel, rfl⟩
theorem d_c11_takeAway_66 : gD b_c11_takeAway 66 (.iconst 1) 1 67 := ⟨by decide +kernel, rfl⟩
theorem d_c11_takeAway_67 : gD b_c11_takeAway 67 .isub 1 68 := ⟨by decide +kernel, rfl⟩
theorem d_c11_takeAway_68 : gD b_c11_takeAway 68 .iastore 1 69 := ⟨by decide +kernel, rfl⟩
theorem d_c11_takeAway_69 : gD b_c11_takeAway 69 .return_ 1 70 := ⟨by decide +kernel, rfl⟩
def lp_c11_takeAway_9 (N : Nat) (a0 : Nat) (x2 : Int32) : Nat → Int32 → gH → Option (gH)
  | 0, _, _ => none
  | k + 1, x3, h =>
  (gfR h a0 11 25).bind fun v2 =>
    (ga 0 h v2 (40 : Int32)).bind fun v3 =>
    if (v3 - (1 : Int32)) ≤ x3 then
    some h
  else
    (gfR h a0 11 25).bind fun v5 =>
    (gfR h a0 11 25).bind fun v6 =>
    (ga 0 h v6 ((((8 : Int32) * x2) + x3) + (1 : Int32))).bind fun v7 =>
    (sa 0 h v5 (((8 : Int32) * x2) + x3) v7).bind fun h8 =>
    lp_c11_takeAway_9 N a0 x2 k (x3 + (1 : Int32)) h8
def lp_c11_takeAway_2 (N : Nat) (a0 : Nat) (x1 : Int32) : Nat → Int32 → gH → Option (gH)
  | 0, _, _ => none
  | k + 1, x2, h =>
  if (5 : Int32) ≤ x2 then
    some h
  else
    (lp_c11_takeAway_9 N a0 x2 N x1 h).bind fun o9 =>
    lp_c11_takeAway_2 N a0 x1 k (x2 + (1 : Int32)) o9
def f_c11_takeAway (N : Nat) (a0 : Nat) (x1 : Int32) (h : gH) : Option (gH) :=
  (gcl h a0 11).bind fun _ =>
  (lp_c11_takeAway_2 N a0 x1 N (0 : Int32) h).bind fun o10 =>
    (gfR o10 a0 11 25).bind fun v11 =>
    (ga 0 o10 v11 (40 : Int32)).bind fun v12 =>
    (sa 0 o10 v11 (40 : Int32) (v12 - (1 : Int32))).bind fun h13 =>
    some h13
set_option maxHeartbeats 4000000 in
set_option maxRecDepth 100000 in
theorem wlp_c11_takeAway_9 {M : gM} {X : gX} {N : Nat} (hx : gEx X = false) (K : gC M X gN11 b_c11_takeAway 4 (gRm (1 + N) 0 0)) (a0 : Nat) (x2 : Int32) (x1 : Int32) : ∀ (k : Nat) (x3 : Int32) (h : gH) (o : gH), lp_c11_takeAway_9 N a0 x2 k x3 h = some o → gG M X 4 0 0 52 [(0, .ref a0), (1, .int x1), (2, .int x2)] [] o → gG M X 4 0 0 9 [(0, .ref a0), (1, .int x1), (2, .int x2), (3, .int x3)] [] h := by
  intro k
  induction k with
  | zero =>
    intro x3 h o hy
    rw [lp_c11_takeAway_9.eq_1] at hy
    cases hy
  | succ k ih =>
    intro x3 h o hy hE
    rw [lp_c11_takeAway_9.eq_2] at hy
    refine g_iload_n K d_c11_takeAway_9 3 rfl ?_
    refine g_aload_n K d_c11_takeAway_10 0 rfl ?_
    obtain ⟨v2, e_v2, hy⟩ := gBd hy
    refine g_getR K fl_c11_52 d_c11_takeAway_11 e_v2 ?_
    refine g_bipush (v := 40) K d_c11_takeAway_14 (by decide) ?_
    obtain ⟨v3, e_v3, hy⟩ := gBd hy
    refine g_iald K d_c11_takeAway_16 e_v3 ?_
    refine g_iconst (v := 1) K d_c11_takeAway_17 (by decide) ?_
    refine g_isub K d_c11_takeAway_18 ?_
    refine g_icmp_ge K d_c11_takeAway_19 (fun c4 => ?_) (fun c4 => ?_)
    · rw [if_pos c4] at hy
      refine g_sub (ls2 := [(0, .ref a0), (1, .int x1), (2, .int x2)]) [0, 1, 2] rfl ?_
      obtain rfl := Option.some.inj hy
      exact hE
    · rw [if_neg c4] at hy
      refine g_aload_n K d_c11_takeAway_22 0 rfl ?_
      obtain ⟨v5, e_v5, hy⟩ := gBd hy
      refine g_getR K fl_c11_52 d_c11_takeAway_23 e_v5 ?_
      refine g_bipush (v := 8) K d_c11_takeAway_26 (by decide) ?_
      refine g_iload_n K d_c11_takeAway_28 2 rfl ?_
      refine g_imul K d_c11_takeAway_29 ?_
      refine g_iload_n K d_c11_takeAway_30 3 rfl ?_
      refine g_iadd K d_c11_takeAway_31 ?_
      refine g_aload_n K d_c11_takeAway_32 0 rfl ?_
      obtain ⟨v6, e_v6, hy⟩ := gBd hy
      refine g_getR K fl_c11_52 d_c11_takeAway_33 e_v6 ?_
      refine g_bipush (v := 8) K d_c11_takeAway_36 (by decide) ?_
      refine g_iload_n K d_c11_takeAway_38 2 rfl ?_
      refine g_imul K d_c11_takeAway_39 ?_
      refine g_iload_n K d_c11_takeAway_40 3 rfl ?_
      refine g_iadd K d_c11_takeAway_41 ?_
      refine g_iconst (v := 1) K d_c11_takeAway_42 (by decide) ?_
      refine g_iadd K d_c11_takeAway_43 ?_
      obtain ⟨v7, e_v7, hy⟩ := gBd hy
      refine g_iald K d_c11_takeAway_44 e_v7 ?_
      obtain ⟨h8, e_h8, hy⟩ := gBd hy
      refine g_iast K d_c11_takeAway_45 e_h8 ?_
      refine g_iinc (ls2 := [(3, .int (x3 + (1 : Int32))), (0, .ref a0), (1, .int x1), (2, .int x2)]) (v := 1) K d_c11_takeAway_46 3 rfl (by decide) rfl rfl ?_
      refine g_goto K d_c11_takeAway_49 ?_
      refine g_sub (ls2 := [(0, .ref a0), (1, .int x1), (2, .int x2), (3, .int (x3 + (1 : Int32)))]) [1, 2, 3, 0] rfl ?_
      exact ih _ _ _ hy hE
set_option maxHeartbeats 4000000 in
set_option maxRecDepth 100000 in
theorem wlp_c11_takeAway_2 {M : gM} {X : gX} {N : Nat} (hx : gEx X = false) (K : gC M X gN11 b_c11_takeAway 4 (gRm (1 + N) 0 0)) (a0 : Nat) (x1 : Int32) : ∀ (k : Nat) (x2 : Int32) (h : gH) (o : gH), lp_c11_takeAway_2 N a0 x1 k x2 h = some o → gG M X 4 0 0 58 [(0, .ref a0)] [] o → gG M X 4 0 0 2 [(0, .ref a0), (1, .int x1), (2, .int x2)] [] h := by
  intro k
  induction k with
  | zero =>
    intro x2 h o hy
    rw [lp_c11_takeAway_2.eq_1] at hy
    cases hy
  | succ k ih =>
    intro x2 h o hy hE
    rw [lp_c11_takeAway_2.eq_2] at hy
    refine g_iload_n K d_c11_takeAway_2 2 rfl ?_
    refine g_iconst (v := 5) K d_c11_takeAway_3 (by decide) ?_
    refine g_icmp_ge K d_c11_takeAway_4 (fun c1 => ?_) (fun c1 => ?_)
    · rw [if_pos c1] at hy
      refine g_sub (ls2 := [(0, .ref a0)]) [0] rfl ?_
      obtain rfl := Option.some.inj hy
      exact hE
    · rw [if_neg c1] at hy
      refine g_iload_n K d_c11_takeAway_7 1 rfl ?_
      refine g_istore_n (ls2 := [(3, .int x1), (0, .ref a0), (1, .int x1), (2, .int x2)]) K d_c11_takeAway_8 rfl rfl ?_
      obtain ⟨o9, e_o9, hy⟩ := gBd hy
      refine g_sub (ls2 := [(0, .ref a0), (1, .int x1), (2, .int x2), (3, .int x1)]) [1, 2, 3, 0] rfl ?_
      refine wlp_c11_takeAway_9 hx K a0 x2 x1 N x1 h o9 e_o9 ?_
      refine g_iinc (ls2 := [(2, .int (x2 + (1 : Int32))), (0, .ref a0), (1, .int x1)]) (v := 1) K d_c11_takeAway_52 2 rfl (by decide) rfl rfl ?_
      refine g_goto K d_c11_takeAway_55 ?_
      refine g_sub (ls2 := [(0, .ref a0), (1, .int x1), (2, .int (x2 + (1 : Int32)))]) [1, 2, 0] rfl ?_
      exact ih _ _ _ hy hE
set_option maxHeartbeats 4000000 in
set_option maxRecDepth 100000 in
theorem ct_c11_takeAway (l : Launch) (X : gX) (hx : gEx X = false) (N : Nat) (a0 : Nat) (x1 : Int32) (h : gH) (q : gH) (hy : f_c11_takeAway N a0 x1 h = some q) : gRc y_c11_takeAway h a0 ∧ gMv l X y_c11_takeAway b_c11_takeAway 4 (1 + N) 0 0 [.ref a0, .int x1] h q := by
  unfold f_c11_takeAway at hy
  obtain ⟨u0, e_u0, hy⟩ := gBd hy
  cases u0
  refine ⟨Or.inl ⟨11, _, _, e_u0, rfl⟩, gMet_v (lsx := [(0, .ref a0), (1, .int x1)]) (by decide) rfl rfl ?_⟩
  intro M hMl K hret
  subst hMl
  refine g_iconst (v := 0) K d_c11_takeAway_0 (by decide) ?_
  refine g_istore_n (ls2 := [(2, .int (0 : Int32)), (0, .ref a0), (1, .int x1)]) K d_c11_takeAway_1 rfl rfl ?_
  obtain ⟨o10, e_o10, hy⟩ := gBd hy
  refine g_sub (ls2 := [(0, .ref a0), (1, .int x1), (2, .int (0 : Int32))]) [1, 2, 0] rfl ?_
  refine wlp_c11_takeAway_2 hx K a0 x1 N (0 : Int32) h o10 e_o10 ?_
  refine g_aload_n K d_c11_takeAway_58 0 rfl ?_
  obtain ⟨v11, e_v11, hy⟩ := gBd hy
  refine g_getR K fl_c11_52 d_c11_takeAway_59 e_v11 ?_
  refine g_bipush (v := 40) K d_c11_takeAway_62 (by decide) ?_
  refine g_dup2 K d_c11_takeAway_64 rfl rfl ?_
  obtain ⟨v12, e_v12, hy⟩ := gBd hy
  refine g_iald K d_c11_takeAway_65 e_v12 ?_
  refine g_iconst (v := 1) K d_c11_takeAway_66 (by decide) ?_
  refine g_isub K d_c11_takeAway_67 ?_
  obtain ⟨h13, e_h13, hy⟩ := gBd hy
  refine g_iast K d_c11_takeAway_68 e_h13 ?_
  obtain rfl := Option.some.inj hy
  exact hret _ _ _ d_c11_takeAway_69
-- c11 takesOf
theorem d_c11_takesOf_0 : gD b_c11_takesOf 0 (.iconst 1) 1 1 := ⟨by decide +kernel, rfl⟩
theorem d_c11_takesOf_1 : gD b_c11_takesOf 1 (.istore_n 2) 1 2 := ⟨by decide +kernel, rfl⟩
theorem d_c11_takesOf_2 : gD b_c11_takesOf 2 (.iload_n 2) 1 3 := ⟨by decide +kernel, rfl⟩
theorem d_c11_takesOf_3 : gD b_c11_takesOf 3 (.iload_n 2) 1 4 := ⟨by decide +kernel, rfl⟩
theorem d_c11_takesOf_4 : gD b_c11_takesOf 4 .imul 1 5 := ⟨by decide +kernel, rfl⟩
theorem d_c11_takesOf_5 : gD b_c11_takesOf 5 (.iload_n 1) 1 6 := ⟨by decide +kernel, rfl⟩
theorem d_c11_takesOf_6 : gJ b_c11_takesOf 6 (.if_icmp .gt 26) 3 26 9 32 := ⟨by decide +kernel, rfl, by decide⟩
theorem d_c11_takesOf_9 : gD b_c11_takesOf 9 (.aload_n 0) 1 10 := ⟨by decide +kernel, rfl⟩
theorem d_c11_takesOf_10 : gD b_c11_takesOf 10 (.getfield 82) 3 13 := ⟨by decide +kernel, rfl⟩
theorem d_c11_takesOf_13 : gD b_c11_takesOf 13 (.iload_n 1) 1 14 := ⟨by decide +kernel, rfl⟩
theorem d_c11_takesOf_14 : gD b_c11_takesOf 14 (.iload_n 2) 1 15 := ⟨by decide +kernel, rfl⟩
theorem d_c11_takesOf_15 : gD b_c11_takesOf 15 (.iload_n 2) 1 16 := ⟨by decide +kernel, rfl⟩
theorem d_c11_takesOf_16 : gD b_c11_takesOf 16 .imul 1 17 := ⟨by decide +kernel, rfl⟩
theorem d_c11_takesOf_17 : gD b_c11_takesOf 17 .isub 1 18 := ⟨by decide +kernel, rfl⟩
theorem d_c11_takesOf_18 : gD b_c11_takesOf 18 .baload 1 19 := ⟨by decide +kernel, rfl⟩
theorem d_c11_takesOf_19 : gJ b_c11_takesOf 19 (.ifCond .ne 7) 3 7 22 26 := ⟨by decide +kernel, rfl, by decide⟩
theorem d_c11_takesOf_22 : gD b_c11_takesOf 22 (.iload_n 2) 1 23 := ⟨by decide +kernel, rfl⟩
theorem d_c11_takesOf_23 : gD b_c11_takesOf 23 (.iload_n 2) 1 24 := ⟨by decide +kernel, rfl⟩
theorem d_c11_takesOf_24 : gD b_c11_takesOf 24 .imul 1 25 := ⟨by decide +kernel, rfl⟩
theorem d_c11_takesOf_25 : gD b_c11_takesOf 25 .ireturn 1 26 := ⟨by decide +kernel, rfl⟩
theorem d_c11_takesOf_26 : gD b_c11_takesOf 26 (.iinc 2 1) 3 29 := ⟨by decide +kernel, rfl⟩
theorem d_c11_takesOf_29 : gJ b_c11_takesOf 29 (.goto (-27)) 3 (-27) 32 2 := ⟨by decide +kernel, rfl, by decide⟩
theorem d_c11_takesOf_32 : gD b_c11_takesOf 32 (.iconst 0) 1 33 := ⟨by decide +kernel, rfl⟩
theorem d_c11_takesOf_33 : gD b_c11_takesOf 33 .ireturn 1 34 := ⟨by decide +kernel, rfl⟩
def lp_c11_takesOf_2 (N : Nat) (a0 : Nat) (x1 : Int32) (h : gH) : Nat → Int32 → Option ((Int32) ⊕ (Unit))
  | 0, _ => none
  | k + 1, x2 =>
  if x1 < (x2 * x2) then
    some (.inr ())
  else
    (gfR h a0 11 36).bind fun v2 =>
    (gaB h v2 (x1 - (x2 * x2))).bind fun v3 =>
    if v3 = 0 then
    some (.inl (x2 * x2))
  else
    lp_c11_takesOf_2 N a0 x1 h k (x2 + (1 : Int32))
def f_c11_takesOf (N : Nat) (a0 : Nat) (x1 : Int32) (h : gH) : Option (Int32) :=
  (gcl h a0 11).bind fun _ =>
  (lp_c11_takesOf_2 N a0 x1 h N (1 : Int32)).bind fun o5 => Sum.elim (fun r7 => some r7) (fun t6 =>
    some (0 : Int32)) o5
set_option maxHeartbeats 4000000 in
set_option maxRecDepth 100000 in
theorem wlp_c11_takesOf_2 {M : gM} {X : gX} {N : Nat} (hx : gEx X = false) (K : gC M X gN11 b_c11_takesOf 3 (gRm (1 + N) 0 0)) (a0 : Nat) (x1 : Int32) (h : gH) : ∀ (k : Nat) (x2 : Int32) (o : (Int32) ⊕ (Unit)), lp_c11_takesOf_2 N a0 x1 h k x2 = some o → (∀ t, o = .inr t → gG M X 3 0 0 32 [] [] h) → (∀ r, o = .inl r → (narrow .int (.int r) = .int r → ∀ pc pc' ls, gD b_c11_takesOf pc .ireturn 1 pc' → gG M X 3 0 0 pc ls [.int r] h)) → gG M X 3 0 0 2 [(0, .ref a0), (1, .int x1), (2, .int x2)] [] h := by
  intro k
  induction k with
  | zero =>
    intro x2 o hy
    rw [lp_c11_takesOf_2.eq_1] at hy
    cases hy
  | succ k ih =>
    intro x2 o hy hE hR
    rw [lp_c11_takesOf_2.eq_2] at hy
    refine g_iload_n K d_c11_takesOf_2 2 rfl ?_
    refine g_iload_n K d_c11_takesOf_3 2 rfl ?_
    refine g_imul K d_c11_takesOf_4 ?_
    refine g_iload_n K d_c11_takesOf_5 1 rfl ?_
    refine g_icmp_gt K d_c11_takesOf_6 (fun c1 => ?_) (fun c1 => ?_)
    · rw [if_pos c1] at hy
      refine g_sub (ls2 := []) [] rfl ?_
      obtain rfl := Option.some.inj hy
      exact hE _ rfl
    · rw [if_neg c1] at hy
      refine g_aload_n K d_c11_takesOf_9 0 rfl ?_
      obtain ⟨v2, e_v2, hy⟩ := gBd hy
      refine g_getR K fl_c11_82 d_c11_takesOf_10 e_v2 ?_
      refine g_iload_n K d_c11_takesOf_13 1 rfl ?_
      refine g_iload_n K d_c11_takesOf_14 2 rfl ?_
      refine g_iload_n K d_c11_takesOf_15 2 rfl ?_
      refine g_imul K d_c11_takesOf_16 ?_
      refine g_isub K d_c11_takesOf_17 ?_
      obtain ⟨v3, e_v3, hy⟩ := gBd hy
      refine g_bald K d_c11_takesOf_18 e_v3 ?_
      refine g_if_ne K d_c11_takesOf_19 (fun c4 => ?_) (fun c4 => ?_)
      · rw [if_neg c4] at hy
        refine g_iinc (ls2 := [(2, .int (x2 + (1 : Int32))), (0, .ref a0), (1, .int x1)]) (v := 1) K d_c11_takesOf_26 2 rfl (by decide) rfl rfl ?_
        refine g_goto K d_c11_takesOf_29 ?_
        refine g_sub (ls2 := [(0, .ref a0), (1, .int x1), (2, .int (x2 + (1 : Int32)))]) [1, 2, 0] rfl ?_
        exact ih _ _ hy hE hR
      · rw [if_pos c4] at hy
        refine g_iload_n K d_c11_takesOf_22 2 rfl ?_
        refine g_iload_n K d_c11_takesOf_23 2 rfl ?_
        refine g_imul K d_c11_takesOf_24 ?_
        obtain rfl := Option.some.inj hy
        exact hR _ rfl rfl _ _ _ d_c11_takesOf_25
set_option maxHeartbeats 4000000 in
set_option maxRecDepth 100000 in
theorem ct_c11_takesOf (l : Launch) (X : gX) (hx : gEx X = false) (N : Nat) (a0 : Nat) (x1 : Int32) (h : gH) (q : Int32) (hy : f_c11_takesOf N a0 x1 h = some q) : gRc y_c11_takesOf h a0 ∧ gMi l X y_c11_takesOf b_c11_takesOf 3 .int (1 + N) 0 0 [.ref a0, .int x1] h q h := by
  unfold f_c11_takesOf at hy
  obtain ⟨u0, e_u0, hy⟩ := gBd hy
  cases u0
  refine ⟨Or.inl ⟨11, _, _, e_u0, rfl⟩, gMet_i (lsx := [(0, .ref a0), (1, .int x1)]) (by decide) rfl rfl ?_⟩
  intro M hMl K hret
  subst hMl
  refine g_iconst (v := 1) K d_c11_takesOf_0 (by decide) ?_
  refine g_istore_n (ls2 := [(2, .int (1 : Int32)), (0, .ref a0), (1, .int x1)]) K d_c11_takesOf_1 rfl rfl ?_
  obtain ⟨o5, e_o5, hy⟩ := gBd hy
  refine g_sub (ls2 := [(0, .ref a0), (1, .int x1), (2, .int (1 : Int32))]) [1, 2, 0] rfl ?_
  refine wlp_c11_takesOf_2 hx K a0 x1 h N (1 : Int32) o5 e_o5 (fun t6 e_t6 => ?_) (fun r7 e_r7 => ?_)
  · subst e_t6
    simp only [Sum.elim_inr] at hy
    refine g_iconst (v := 0) K d_c11_takesOf_32 (by decide) ?_
    obtain rfl := Option.some.inj hy
    exact hret rfl _ _ _ d_c11_takesOf_33
  · subst e_r7
    simp only [Sum.elim_inl] at hy
    intro hn pc9 pc9' ls9 hd9
    obtain rfl := Option.some.inj hy
    exact hret hn _ _ _ hd9
-- c11 tell
theorem d_c11_tell_0 : gD b_c11_tell 0 (.aload_n 0) 1 1 := ⟨by decide +kernel, rfl⟩
theorem d_c11_tell_1 : gD b_c11_tell 1 (.getfield 30) 3 4 := ⟨by decide +kernel, rfl⟩
theorem d_c11_tell_4 : gD b_c11_tell 4 (.aload_n 0) 1 5 := ⟨by decide +kernel, rfl⟩
theorem d_c11_tell_5 : gD b_c11_tell 5 (.getfield 98) 3 8 := ⟨by decide +kernel, rfl⟩
theorem d_c11_tell_8 : gD b_c11_tell 8 (.lload_n 1) 1 9 := ⟨by decide +kernel, rfl⟩
theorem d_c11_tell_9 : gD b_c11_tell 9 .lastore 1 10 := ⟨by decide +kernel, rfl⟩
theorem d_c11_tell_10 : gD b_c11_tell 10 (.aload_n 0) 1 11 := ⟨by decide +kernel, rfl⟩
theorem d_c11_tell_11 : gD b_c11_tell 11 .dup 1 12 := ⟨by decide +kernel, rfl⟩
theorem d_c11_tell_12 : gD b_c11_tell 12 (.getfield 98) 3 15 := ⟨by decide +kernel, rfl⟩
theorem d_c11_tell_15 : gD b_c11_tell 15 (.iconst 1) 1 16 := ⟨by decide +kernel, rfl⟩
theorem d_c11_tell_16 : gD b_c11_tell 16 .iadd 1 17 := ⟨by decide +kernel, rfl⟩
theorem d_c11_tell_17 : gD b_c11_tell 17 (.putfield 98) 3 20 := ⟨by decide +kernel, rfl⟩
theorem d_c11_tell_20 : gD b_c11_tell 20 .return_ 1 21 := ⟨by decide +kernel, rfl⟩
def f_c11_tell (N : Nat) (a0 : Nat) (y1 : Int64) (h : gH) : Option (gH) :=
  (gcl h a0 11).bind fun _ =>
  (gfR h a0 11 8).bind fun v1 =>
    (gfI h a0 11 9).bind fun v2 =>
    (saL h v1 v2 y1).bind fun h3 =>
    (gfI h3 a0 11 9).bind fun v4 =>
    (sf h3 a0 11 9 (.int (v4 + (1 : Int32)))).bind fun h5 =>
    some h5
set_option maxHeartbeats 4000000 in
set_option maxRecDepth 100000 in
theorem ct_c11_tell (l : Launch) (X : gX) (hx : gEx X = false) (N : Nat) (a0 : Nat) (y1 : Int64) (h : gH) (q : gH) (hy : f_c11_tell N a0 y1 h = some q) : gRc y_c11_tell h a0 ∧ gMv l X y_c11_tell b_c11_tell 3 (1 + N) 0 0 [.ref a0, .long y1] h q := by
  unfold f_c11_tell at hy
  obtain ⟨u0, e_u0, hy⟩ := gBd hy
  cases u0
  refine ⟨Or.inl ⟨11, _, _, e_u0, rfl⟩, gMet_v (lsx := [(0, .ref a0), (1, .long y1)]) (by decide) rfl rfl ?_⟩
  intro M hMl K hret
  subst hMl
  refine g_aload_n K d_c11_tell_0 0 rfl ?_
  obtain ⟨v1, e_v1, hy⟩ := gBd hy
  refine g_getR K fl_c11_30 d_c11_tell_1 e_v1 ?_
  refine g_aload_n K d_c11_tell_4 0 rfl ?_
  obtain ⟨v2, e_v2, hy⟩ := gBd hy
  refine g_getI K fl_c11_98 d_c11_tell_5 e_v2 ?_
  refine g_lload_n K d_c11_tell_8 1 rfl ?_
  obtain ⟨h3, e_h3, hy⟩ := gBd hy
  refine g_last K d_c11_tell_9 e_h3 ?_
  refine g_aload_n K d_c11_tell_10 0 rfl ?_
  refine g_dup K d_c11_tell_11 rfl ?_
  obtain ⟨v4, e_v4, hy⟩ := gBd hy
  refine g_getI K fl_c11_98 d_c11_tell_12 e_v4 ?_
  refine g_iconst (v := 1) K d_c11_tell_15 (by decide) ?_
  refine g_iadd K d_c11_tell_16 ?_
  obtain ⟨h5, e_h5, hy⟩ := gBd hy
  refine g_putI K fp_c11_98 d_c11_tell_17 e_h5 ?_
  obtain rfl := Option.some.inj hy
  exact hret _ _ _ d_c11_tell_20
-- c11 thirsts
theorem d_c11_thirsts_0 : gD b_c11_thirsts 0 (.iconst 0) 1 1 := ⟨by decide +kernel, rfl⟩
theorem d_c11_thirsts_1 : gD b_c11_thirsts 1 (.istore_n 1) 1 2 := ⟨by decide +kernel, rfl⟩
theorem d_c11_thirsts_2 : gD b_c11_thirsts 2 (.iconst 0) 1 3 := ⟨by decide +kernel, rfl⟩
theorem d_c11_thirsts_3 : gD b_c11_thirsts 3 (.istore_n 2) 1 4 := ⟨by decide +kernel, rfl⟩
theorem d_c11_thirsts_4 : gD b_c11_thirsts 4 (.iload_n 2) 1 5 := ⟨by decide +kernel, rfl⟩
theorem d_c11_thirsts_5 : gD b_c11_thirsts 5 (.aload_n 0) 1 6 := ⟨by decide +kernel, rfl⟩
theorem d_c11_thirsts_6 : gD b_c11_thirsts 6 (.getfield 109) 3 9 := ⟨by decide +kernel, rfl⟩
theorem d_c11_thirsts_9 : gJ b_c11_thirsts 9 (.if_icmp .ge 18) 3 18 12 27 := ⟨by decide +kernel, rfl, by decide⟩
theorem d_c11_thirsts_12 : gD b_c11_thirsts 12 (.iload_n 1) 1 13 := ⟨by decide +kernel, rfl⟩
theorem d_c11_thirsts_13 : gD b_c11_thirsts 13 (.aload_n 0) 1 14 := ⟨by decide +kernel, rfl⟩
theorem d_c11_thirsts_14 : gD b_c11_thirsts 14 (.getfield 23) 3 17 := ⟨by decide +kernel, rfl⟩
theorem d_c11_thirsts_17 : gD b_c11_thirsts 17 (.iload_n 2) 1 18 := ⟨by decide +kernel, rfl⟩
theorem d_c11_thirsts_18 : gD b_c11_thirsts 18 .iaload 1 19 := ⟨by decide +kernel, rfl⟩
theorem d_c11_thirsts_19 : gD b_c11_thirsts 19 .iadd 1 20 := ⟨by decide +kernel, rfl⟩
theorem d_c11_thirsts_20 : gD b_c11_thirsts 20 (.istore_n 1) 1 21 := ⟨by decide +kernel, rfl⟩
theorem d_c11_thirsts_21 : gD b_c11_thirsts 21 (.iinc 2 1) 3 24 := ⟨by decide +kernel, rfl⟩
theorem d_c11_thirsts_24 : gJ b_c11_thirsts 24 (.goto (-20)) 3 (-20) 27 4 := ⟨by decide +kernel, rfl, by decide⟩
theorem d_c11_thirsts_27 : gD b_c11_thirsts 27 (.iload_n 1) 1 28 := ⟨by decide +kernel, rfl⟩
theorem d_c11_thirsts_28 : gD b_c11_thirsts 28 .ireturn 1 29 := ⟨by decide +kernel, rfl⟩
def lp_c11_thirsts_4 (N : Nat) (a0 : Nat) (h : gH) : Nat → Int32 → Int32 → Option (Int32)
  | 0, _, _ => none
  | k + 1, x1, x2 =>
  (gfI h a0 11 3).bind fun v1 =>
    if v1 ≤ x2 then
    some x1
  else
    (gfR h a0 11 5).bind fun v3 =>
    (ga 0 h v3 x2).bind fun v4 =>
    lp_c11_thirsts_4 N a0 h k (x1 + v4) (x2 + (1 : Int32))
def f_c11_thirsts (N : Nat) (a0 : Nat) (h : gH) : Option (Int32) :=
  (gcl h a0 11).bind fun _ =>
  (lp_c11_thirsts_4 N a0 h N (0 : Int32) (0 : Int32)).bind fun o5 =>
    some o5
set_option maxHeartbeats 4000000 in
set_option maxRecDepth 100000 in
theorem wlp_c11_thirsts_4 {M : gM} {X : gX} {N : Nat} (hx : gEx X = false) (K : gC M X gN11 b_c11_thirsts 3 (gRm (1 + N) 0 0)) (a0 : Nat) (h : gH) : ∀ (k : Nat) (x1 : Int32) (x2 : Int32) (o : Int32), lp_c11_thirsts_4 N a0 h k x1 x2 = some o → gG M X 3 0 0 27 [(1, .int o)] [] h → gG M X 3 0 0 4 [(0, .ref a0), (1, .int x1), (2, .int x2)] [] h := by
  intro k
  induction k with
  | zero =>
    intro x1 x2 o hy
    rw [lp_c11_thirsts_4.eq_1] at hy
    cases hy
  | succ k ih =>
    intro x1 x2 o hy hE
    rw [lp_c11_thirsts_4.eq_2] at hy
    refine g_iload_n K d_c11_thirsts_4 2 rfl ?_
    refine g_aload_n K d_c11_thirsts_5 0 rfl ?_
    obtain ⟨v1, e_v1, hy⟩ := gBd hy
    refine g_getI K fl_c11_109 d_c11_thirsts_6 e_v1 ?_
    refine g_icmp_ge K d_c11_thirsts_9 (fun c2 => ?_) (fun c2 => ?_)
    · rw [if_pos c2] at hy
      refine g_sub (ls2 := [(1, .int x1)]) [1] rfl ?_
      obtain rfl := Option.some.inj hy
      exact hE
    · rw [if_neg c2] at hy
      refine g_iload_n K d_c11_thirsts_12 1 rfl ?_
      refine g_aload_n K d_c11_thirsts_13 0 rfl ?_
      obtain ⟨v3, e_v3, hy⟩ := gBd hy
      refine g_getR K fl_c11_23 d_c11_thirsts_14 e_v3 ?_
      refine g_iload_n K d_c11_thirsts_17 2 rfl ?_
      obtain ⟨v4, e_v4, hy⟩ := gBd hy
      refine g_iald K d_c11_thirsts_18 e_v4 ?_
      refine g_iadd K d_c11_thirsts_19 ?_
      refine g_istore_n (ls2 := [(1, .int (x1 + v4)), (0, .ref a0), (2, .int x2)]) K d_c11_thirsts_20 rfl rfl ?_
      refine g_iinc (ls2 := [(2, .int (x2 + (1 : Int32))), (1, .int (x1 + v4)), (0, .ref a0)]) (v := 1) K d_c11_thirsts_21 2 rfl (by decide) rfl rfl ?_
      refine g_goto K d_c11_thirsts_24 ?_
      refine g_sub (ls2 := [(0, .ref a0), (1, .int (x1 + v4)), (2, .int (x2 + (1 : Int32)))]) [2, 1, 0] rfl ?_
      exact ih _ _ _ hy hE
set_option maxHeartbeats 4000000 in
set_option maxRecDepth 100000 in
theorem ct_c11_thirsts (l : Launch) (X : gX) (hx : gEx X = false) (N : Nat) (a0 : Nat) (h : gH) (q : Int32) (hy : f_c11_thirsts N a0 h = some q) : gRc y_c11_thirsts h a0 ∧ gMi l X y_c11_thirsts b_c11_thirsts 3 .int (1 + N) 0 0 [.ref a0] h q h := by
  unfold f_c11_thirsts at hy
  obtain ⟨u0, e_u0, hy⟩ := gBd hy
  cases u0
  refine ⟨Or.inl ⟨11, _, _, e_u0, rfl⟩, gMet_i (lsx := [(0, .ref a0)]) (by decide) rfl rfl ?_⟩
  intro M hMl K hret
  subst hMl
  refine g_iconst (v := 0) K d_c11_thirsts_0 (by decide) ?_
  refine g_istore_n (ls2 := [(1, .int (0 : Int32)), (0, .ref a0)]) K d_c11_thirsts_1 rfl rfl ?_
  refine g_iconst (v := 0) K d_c11_thirsts_2 (by decide) ?_
  refine g_istore_n (ls2 := [(2, .int (0 : Int32)), (1, .int (0 : Int32)), (0, .ref a0)]) K d_c11_thirsts_3 rfl rfl ?_
  obtain ⟨o5, e_o5, hy⟩ := gBd hy
  refine g_sub (ls2 := [(0, .ref a0), (1, .int (0 : Int32)), (2, .int (0 : Int32))]) [2, 1, 0] rfl ?_
  refine wlp_c11_thirsts_4 hx K a0 h N (0 : Int32) (0 : Int32) o5 e_o5 ?_
  refine g_iload_n K d_c11_thirsts_27 0 rfl ?_
  obtain rfl := Option.some.inj hy
  exact hret rfl _ _ _ d_c11_thirsts_28
-- c11 thrown
theorem d_c11_thrown_0 : gD b_c11_thrown 0 (.aload_n 0) 1 1 := ⟨by decide +kernel, rfl⟩
theorem d_c11_thrown_1 : gD b_c11_thrown 1 (.getfield 95) 3 4 := ⟨by decide +kernel, rfl⟩
theorem d_c11_thrown_4 : gD b_c11_thrown 4 .ireturn 1 5 := ⟨by decide +kernel, rfl⟩
def f_c11_thrown (N : Nat) (a0 : Nat) (h : gH) : Option (Int32) :=
  (gcl h a0 11).bind fun _ =>
  (gfI h a0 11 10).bind fun v1 =>
    some v1
set_option maxHeartbeats 4000000 in
set_option maxRecDepth 100000 in
theorem ct_c11_thrown (l : Launch) (X : gX) (hx : gEx X = false) (N : Nat) (a0 : Nat) (h : gH) (q : Int32) (hy : f_c11_thrown N a0 h = some q) : gRc y_c11_thrown h a0 ∧ gMi l X y_c11_thrown b_c11_thrown 1 .int (1 + N) 0 0 [.ref a0] h q h := by
  unfold f_c11_thrown at hy
  obtain ⟨u0, e_u0, hy⟩ := gBd hy
  cases u0
  refine ⟨Or.inl ⟨11, _, _, e_u0, rfl⟩, gMet_i (lsx := [(0, .ref a0)]) (by decide) rfl rfl ?_⟩
  intro M hMl K hret
  subst hMl
  refine g_aload_n K d_c11_thrown_0 0 rfl ?_
  obtain ⟨v1, e_v1, hy⟩ := gBd hy
  refine g_getI K fl_c11_95 d_c11_thrown_1 e_v1 ?_
  obtain rfl := Option.some.inj hy
  exact hret rfl _ _ _ d_c11_thrown_4
-- c11 told
theorem d_c11_told_0 : gD b_c11_told 0 (.aload_n 0) 1 1 := ⟨by decide +kernel, rfl⟩
theorem d_c11_told_1 : gD b_c11_told 1 (.iconst 0) 1 2 := ⟨by decide +kernel, rfl⟩
theorem d_c11_told_2 : gD b_c11_told 2 (.putfield 159) 3 5 := ⟨by decide +kernel, rfl⟩
theorem d_c11_told_5 : gD b_c11_told 5 (.aload_n 0) 1 6 := ⟨by decide +kernel, rfl⟩
theorem d_c11_told_6 : gD b_c11_told 6 .dup 1 7 := ⟨by decide +kernel, rfl⟩
theorem d_c11_told_7 : gD b_c11_told 7 (.getfield 162) 3 10 := ⟨by decide +kernel, rfl⟩
theorem d_c11_told_10 : gD b_c11_told 10 (.iconst 1) 1 11 := ⟨by decide +kernel, rfl⟩
theorem d_c11_told_11 : gD b_c11_told 11 .iadd 1 12 := ⟨by decide +kernel, rfl⟩
theorem d_c11_told_12 : gD b_c11_told 12 (.putfield 162) 3 15 := ⟨by decide +kernel, rfl⟩
theorem d_c11_told_15 : gD b_c11_told 15 .return_ 1 16 := ⟨by decide +kernel, rfl⟩
def f_c11_told (N : Nat) (a0 : Nat) (h : gH) : Option (gH) :=
  (gcl h a0 11).bind fun _ =>
  (sf h a0 11 23 (.int (0 : Int32))).bind fun h1 =>
    (gfI h1 a0 11 38).bind fun v2 =>
    (sf h1 a0 11 38 (.int (v2 + (1 : Int32)))).bind fun h3 =>
    some h3
set_option maxHeartbeats 4000000 in
set_option maxRecDepth 100000 in
theorem ct_c11_told (l : Launch) (X : gX) (hx : gEx X = false) (N : Nat) (a0 : Nat) (h : gH) (q : gH) (hy : f_c11_told N a0 h = some q) : gRc y_c11_told h a0 ∧ gMv l X y_c11_told b_c11_told 1 (1 + N) 0 0 [.ref a0] h q := by
  unfold f_c11_told at hy
  obtain ⟨u0, e_u0, hy⟩ := gBd hy
  cases u0
  refine ⟨Or.inl ⟨11, _, _, e_u0, rfl⟩, gMet_v (lsx := [(0, .ref a0)]) (by decide) rfl rfl ?_⟩
  intro M hMl K hret
  subst hMl
  refine g_aload_n K d_c11_told_0 0 rfl ?_
  refine g_iconst (v := 0) K d_c11_told_1 (by decide) ?_
  obtain ⟨h1, e_h1, hy⟩ := gBd hy
  refine g_putI K fp_c11_159 d_c11_told_2 e_h1 ?_
  refine g_aload_n K d_c11_told_5 0 rfl ?_
  refine g_dup K d_c11_told_6 rfl ?_
  obtain ⟨v2, e_v2, hy⟩ := gBd hy
  refine g_getI K fl_c11_162 d_c11_told_7 e_v2 ?_
  refine g_iconst (v := 1) K d_c11_told_10 (by decide) ?_
  refine g_iadd K d_c11_told_11 ?_
  obtain ⟨h3, e_h3, hy⟩ := gBd hy
  refine g_putI K fp_c11_162 d_c11_told_12 e_h3 ?_
  obtain rfl := Option.some.inj hy
  exact hret _ _ _ d_c11_told_15
-- c11 undo
theorem d_c11_undo_0 : gD b_c11_undo 0 (.aload_n 0) 1 1 := ⟨by decide +kernel, rfl⟩
theorem d_c11_undo_1 : gD b_c11_undo 1 (.iconst 0) 1 2 := ⟨by decide +kernel, rfl⟩
theorem d_c11_undo_2 : gD b_c11_undo 2 (.putfield 95) 3 5 := ⟨by decide +kernel, rfl⟩
theorem d_c11_undo_5 : gD b_c11_undo 5 (.aload_n 0) 1 6 := ⟨by decide +kernel, rfl⟩
theorem d_c11_undo_6 : gD b_c11_undo 6 (.getfield 159) 3 9 := ⟨by decide +kernel, rfl⟩
theorem d_c11_undo_9 : gJ b_c11_undo 9 (.ifCond .ne 5) 3 5 12 14 := ⟨by decide +kernel, rfl, by decide⟩
theorem d_c11_undo_12 : gD b_c11_undo 12 (.iconst (-1)) 1 13 := ⟨by decide +kernel, rfl⟩
theorem d_c11_undo_13 : gD b_c11_undo 13 .ireturn 1 14 := ⟨by decide +kernel, rfl⟩
theorem d_c11_undo_14 : gD b_c11_undo 14 (.aload_n 0) 1 15 := ⟨by decide +kernel, rfl⟩
theorem d_c11_undo_15 : gD b_c11_undo 15 .dup 1 16 := ⟨by decide +kernel, rfl⟩
theorem d_c11_undo_16 : gD b_c11_undo 16 (.getfield 159) 3 19 := ⟨by decide +kernel, rfl⟩
theorem d_c11_undo_19 : gD b_c11_undo 19 (.iconst 1) 1 20 := ⟨by decide +kernel, rfl⟩
theorem d_c11_undo_20 : gD b_c11_undo 20 .isub 1 21 := ⟨by decide +kernel, rfl⟩
theorem d_c11_undo_21 : gD b_c11_undo 21 (.putfield 159) 3 24 := ⟨by decide +kernel, rfl⟩
theorem d_c11_undo_24 : gD b_c11_undo 24 (.iconst 0) 1 25 := ⟨by decide +kernel, rfl⟩
theorem d_c11_undo_25 : gD b_c11_undo 25 (.istore_n 1) 1 26 := ⟨by decide +kernel, rfl⟩
theorem d_c11_undo_26 : gD b_c11_undo 26 (.iload_n 1) 1 27 := ⟨by decide +kernel, rfl⟩
theorem d_c11_undo_27 : gD b_c11_undo 27 (.bipush 43) 2 29 := ⟨by decide +kernel, rfl⟩
theorem d_c11_undo_29 : gJ b_c11_undo 29 (.if_icmp .ge 29) 3 29 32 58 := ⟨by decide +kernel, rfl, by decide⟩
theorem d_c11_undo_32 : gD b_c11_undo 32 (.aload_n 0) 1 33 := ⟨by decide +kernel, rfl⟩
theorem d_c11_undo_33 : gD b_c11_undo 33 (.getfield 9) 3 36 := ⟨by decide +kernel, rfl⟩
theorem d_c11_undo_36 : gD b_c11_undo 36 (.iload_n 1) 1 37 := ⟨by decide +kernel, rfl⟩
theorem d_c11_undo_37 : gD b_c11_undo 37 (.aload_n 0) 1 38 := ⟨by decide +kernel, rfl⟩
theorem d_c11_undo_38 : gD b_c11_undo 38 (.getfield 46) 3 41 := ⟨by decide +kernel, rfl⟩
theorem d_c11_undo_41 : gD b_c11_undo 41 (.bipush 43) 2 43 := ⟨by decide +kernel, rfl⟩
theorem d_c11_undo_43 : gD b_c11_undo 43 (.aload_n 0) 1 44 := ⟨by decide +kernel, rfl⟩
theorem d_c11_undo_44 : gD b_c11_undo 44 (.getfield 159) 3 47 := ⟨by decide +kernel, rfl⟩
theorem d_c11_undo_47 : gD b_c11_undo 47 .imul 1 48 := ⟨by decide +kernel, rfl⟩
theorem d_c11_undo_48 : gD b_c11_undo 48 (.iload_n 1) 1 49 := ⟨by decide +kernel, rfl⟩
theorem d_c11_undo_49 : gD b_c11_undo 49 .iadd 1 50 := ⟨by decide +kernel, rfl⟩
theorem d_c11_undo_50 : gD b_c11_undo 50 .iaload 1 51 := ⟨by decide +kernel, rfl⟩
theorem d_c11_undo_51 : gD b_c11_undo 51 .iastore 1 52 := ⟨by decide +kernel, rfl⟩
theorem d_c11_undo_52 : gD b_c11_undo 52 (.iinc 1 1) 3 55 := ⟨by decide +kernel, rfl⟩
theorem d_c11_undo_55 : gJ b_c11_undo 55 (.goto (-29)) 3 (-29) 58 26 := ⟨by decide +kernel, rfl, by decide⟩
theorem d_c11_undo_58 : gD b_c11_undo 58 (.aload_n 0) 1 59 := ⟨by decide +kernel, rfl⟩
theorem d_c11_undo_59 : gD b_c11_undo 59 (.getfield 159) 3 62 := ⟨by decide +kernel, rfl⟩
theorem d_c11_undo_62 : gD b_c11_undo 62 .ireturn 1 63 := ⟨by decide +kernel, rfl⟩
def lp_c11_undo_26 (N : Nat) (a0 : Nat) : Nat → Int32 → gH → Option (gH)
  | 0, _, _ => none
  | k + 1, x1, h =>
  if (43 : Int32) ≤ x1 then
    some h
  else
    (gfR h a0 11 0).bind fun v7 =>
    (gfR h a0 11 22).bind fun v8 =>
    (gfI h a0 11 23).bind fun v9 =>
    (ga 0 h v8 (((43 : Int32) * v9) + x1)).bind fun v10 =>
    (sa 0 h v7 x1 v10).bind fun h11 =>
    lp_c11_undo_26 N a0 k (x1 + (1 : Int32)) h11
def f_c11_undo (N : Nat) (a0 : Nat) (h : gH) : Option (Int32 × gH) :=
  (gcl h a0 11).bind fun _ =>
  (sf h a0 11 10 (.int (0 : Int32))).bind fun h1 =>
    (gfI h1 a0 11 23).bind fun v2 =>
    if v2 = 0 then
    some ((-1 : Int32), h1)
  else
    (gfI h1 a0 11 23).bind fun v4 =>
    (sf h1 a0 11 23 (.int (v4 - (1 : Int32)))).bind fun h5 =>
    (lp_c11_undo_26 N a0 N (0 : Int32) h5).bind fun o12 =>
    (gfI o12 a0 11 23).bind fun v13 =>
    some (v13, o12)
set_option maxHeartbeats 4000000 in
set_option maxRecDepth 100000 in
theorem wlp_c11_undo_26 {M : gM} {X : gX} {N : Nat} (hx : gEx X = false) (K : gC M X gN11 b_c11_undo 2 (gRm (1 + N) 0 0)) (a0 : Nat) : ∀ (k : Nat) (x1 : Int32) (h : gH) (o : gH), lp_c11_undo_26 N a0 k x1 h = some o → gG M X 2 0 0 58 [(0, .ref a0)] [] o → gG M X 2 0 0 26 [(0, .ref a0), (1, .int x1)] [] h := by
  intro k
  induction k with
  | zero =>
    intro x1 h o hy
    rw [lp_c11_undo_26.eq_1] at hy
    cases hy
  | succ k ih =>
    intro x1 h o hy hE
    rw [lp_c11_undo_26.eq_2] at hy
    refine g_iload_n K d_c11_undo_26 1 rfl ?_
    refine g_bipush (v := 43) K d_c11_undo_27 (by decide) ?_
    refine g_icmp_ge K d_c11_undo_29 (fun c6 => ?_) (fun c6 => ?_)
    · rw [if_pos c6] at hy
      refine g_sub (ls2 := [(0, .ref a0)]) [0] rfl ?_
      obtain rfl := Option.some.inj hy
      exact hE
    · rw [if_neg c6] at hy
      refine g_aload_n K d_c11_undo_32 0 rfl ?_
      obtain ⟨v7, e_v7, hy⟩ := gBd hy
      refine g_getR K fl_c11_9 d_c11_undo_33 e_v7 ?_
      refine g_iload_n K d_c11_undo_36 1 rfl ?_
      refine g_aload_n K d_c11_undo_37 0 rfl ?_
      obtain ⟨v8, e_v8, hy⟩ := gBd hy
      refine g_getR K fl_c11_46 d_c11_undo_38 e_v8 ?_
      refine g_bipush (v := 43) K d_c11_undo_41 (by decide) ?_
      refine g_aload_n K d_c11_undo_43 0 rfl ?_
      obtain ⟨v9, e_v9, hy⟩ := gBd hy
      refine g_getI K fl_c11_159 d_c11_undo_44 e_v9 ?_
      refine g_imul K d_c11_undo_47 ?_
      refine g_iload_n K d_c11_undo_48 1 rfl ?_
      refine g_iadd K d_c11_undo_49 ?_
      obtain ⟨v10, e_v10, hy⟩ := gBd hy
      refine g_iald K d_c11_undo_50 e_v10 ?_
      obtain ⟨h11, e_h11, hy⟩ := gBd hy
      refine g_iast K d_c11_undo_51 e_h11 ?_
      refine g_iinc (ls2 := [(1, .int (x1 + (1 : Int32))), (0, .ref a0)]) (v := 1) K d_c11_undo_52 1 rfl (by decide) rfl rfl ?_
      refine g_goto K d_c11_undo_55 ?_
      refine g_sub (ls2 := [(0, .ref a0), (1, .int (x1 + (1 : Int32)))]) [1, 0] rfl ?_
      exact ih _ _ _ hy hE
set_option maxHeartbeats 4000000 in
set_option maxRecDepth 100000 in
theorem ct_c11_undo (l : Launch) (X : gX) (hx : gEx X = false) (N : Nat) (a0 : Nat) (h : gH) (q : Int32 × gH) (hy : f_c11_undo N a0 h = some q) : gRc y_c11_undo h a0 ∧ gMi l X y_c11_undo b_c11_undo 2 .int (1 + N) 0 0 [.ref a0] h q.1 q.2 := by
  unfold f_c11_undo at hy
  obtain ⟨u0, e_u0, hy⟩ := gBd hy
  cases u0
  refine ⟨Or.inl ⟨11, _, _, e_u0, rfl⟩, gMet_i (lsx := [(0, .ref a0)]) (by decide) rfl rfl ?_⟩
  intro M hMl K hret
  subst hMl
  refine g_aload_n K d_c11_undo_0 0 rfl ?_
  refine g_iconst (v := 0) K d_c11_undo_1 (by decide) ?_
  obtain ⟨h1, e_h1, hy⟩ := gBd hy
  refine g_putI K fp_c11_95 d_c11_undo_2 e_h1 ?_
  refine g_aload_n K d_c11_undo_5 0 rfl ?_
  obtain ⟨v2, e_v2, hy⟩ := gBd hy
  refine g_getI K fl_c11_159 d_c11_undo_6 e_v2 ?_
  refine g_if_ne K d_c11_undo_9 (fun c3 => ?_) (fun c3 => ?_)
  · rw [if_neg c3] at hy
    refine g_aload_n K d_c11_undo_14 0 rfl ?_
    refine g_dup K d_c11_undo_15 rfl ?_
    obtain ⟨v4, e_v4, hy⟩ := gBd hy
    refine g_getI K fl_c11_159 d_c11_undo_16 e_v4 ?_
    refine g_iconst (v := 1) K d_c11_undo_19 (by decide) ?_
    refine g_isub K d_c11_undo_20 ?_
    obtain ⟨h5, e_h5, hy⟩ := gBd hy
    refine g_putI K fp_c11_159 d_c11_undo_21 e_h5 ?_
    refine g_iconst (v := 0) K d_c11_undo_24 (by decide) ?_
    refine g_istore_n (ls2 := [(1, .int (0 : Int32)), (0, .ref a0)]) K d_c11_undo_25 rfl rfl ?_
    obtain ⟨o12, e_o12, hy⟩ := gBd hy
    refine g_sub (ls2 := [(0, .ref a0), (1, .int (0 : Int32))]) [1, 0] rfl ?_
    refine wlp_c11_undo_26 hx K a0 N (0 : Int32) h5 o12 e_o12 ?_
    refine g_aload_n K d_c11_undo_58 0 rfl ?_
    obtain ⟨v13, e_v13, hy⟩ := gBd hy
    refine g_getI K fl_c11_159 d_c11_undo_59 e_v13 ?_
    obtain rfl := Option.some.inj hy
    exact hret rfl _ _ _ d_c11_undo_62
  · rw [if_pos c3] at hy
    refine g_iconst (v := (-1)) K d_c11_undo_12 (by decide) ?_
    obtain rfl := Option.some.inj hy
    exact hret rfl _ _ _ d_c11_undo_13
-- c11 waters
theorem d_c11_waters_0 : gD b_c11_waters 0 (.iconst 0) 1 1 := ⟨by decide +kernel, rfl⟩
theorem d_c11_waters_1 : gD b_c11_waters 1 (.istore_n 1) 1 2 := ⟨by decide +kernel, rfl⟩
theorem d_c11_waters_2 : gD b_c11_waters 2 (.iconst 0) 1 3 := ⟨by decide +kernel, rfl⟩
theorem d_c11_waters_3 : gD b_c11_waters 3 (.istore_n 2) 1 4 := ⟨by decide +kernel, rfl⟩
theorem d_c11_waters_4 : gD b_c11_waters 4 (.iload_n 2) 1 5 := ⟨by decide +kernel, rfl⟩
theorem d_c11_waters_5 : gD b_c11_waters 5 (.aload_n 0) 1 6 := ⟨by decide +kernel, rfl⟩
theorem d_c11_waters_6 : gD b_c11_waters 6 (.bipush 40) 2 8 := ⟨by decide +kernel, rfl⟩
theorem d_c11_waters_8 : gD b_c11_waters 8 .iaload 1 9 := ⟨by decide +kernel, rfl⟩
theorem d_c11_waters_9 : gJ b_c11_waters 9 (.if_icmp .ge 18) 3 18 12 27 := ⟨by decide +kernel, rfl, by decide⟩
theorem d_c11_waters_12 : gD b_c11_waters 12 (.iload_n 1) 1 13 := ⟨by decide +kernel, rfl⟩
theorem d_c11_waters_13 : gD b_c11_waters 13 (.aload_n 0) 1 14 := ⟨by decide +kernel, rfl⟩
theorem d_c11_waters_14 : gD b_c11_waters 14 (.bipush 32) 2 16 := ⟨by decide +kernel, rfl⟩
theorem d_c11_waters_16 : gD b_c11_waters 16 (.iload_n 2) 1 17 := ⟨by decide +kernel, rfl⟩
theorem d_c11_waters_17 : gD b_c11_waters 17 .iadd 1 18 := ⟨by decide +kernel, rfl⟩
theorem d_c11_waters_18 : gD b_c11_waters 18 .iaload 1 19 := ⟨by decide +kernel, rfl⟩
theorem d_c11_waters_19 : gD b_c11_waters 19 .iadd 1 20 := ⟨by decide +kernel, rfl⟩
theorem d_c11_waters_20 : gD b_c11_waters 20 (.istore_n 1) 1 21 := ⟨by decide +kernel, rfl⟩
theorem d_c11_waters_21 : gD b_c11_waters 21 (.iinc 2 1) 3 24 := ⟨by decide +kernel, rfl⟩
theorem d_c11_waters_24 : gJ b_c11_waters 24 (.goto (-20)) 3 (-20) 27 4 := ⟨by decide +kernel, rfl, by decide⟩
theorem d_c11_waters_27 : gD b_c11_waters 27 (.iload_n 1) 1 28 := ⟨by decide +kernel, rfl⟩
theorem d_c11_waters_28 : gD b_c11_waters 28 .ireturn 1 29 := ⟨by decide +kernel, rfl⟩
def lp_c11_waters_4 (N : Nat) (a0 : Nat) (h : gH) : Nat → Int32 → Int32 → Option (Int32)
  | 0, _, _ => none
  | k + 1, x1, x2 =>
  (ga 0 h a0 (40 : Int32)).bind fun v1 =>
    if v1 ≤ x2 then
    some x1
  else
    (ga 0 h a0 ((32 : Int32) + x2)).bind fun v3 =>
    lp_c11_waters_4 N a0 h k (x1 + v3) (x2 + (1 : Int32))
def f_c11_waters (N : Nat) (a0 : Nat) (h : gH) : Option (Int32) :=
  (lp_c11_waters_4 N a0 h N (0 : Int32) (0 : Int32)).bind fun o4 =>
    some o4
set_option maxHeartbeats 4000000 in
set_option maxRecDepth 100000 in
theorem wlp_c11_waters_4 {M : gM} {X : gX} {N : Nat} (hx : gEx X = false) (K : gC M X gN11 b_c11_waters 3 (gRm (1 + N) 0 0)) (a0 : Nat) (h : gH) : ∀ (k : Nat) (x1 : Int32) (x2 : Int32) (o : Int32), lp_c11_waters_4 N a0 h k x1 x2 = some o → gG M X 3 0 0 27 [(1, .int o)] [] h → gG M X 3 0 0 4 [(0, .ref a0), (1, .int x1), (2, .int x2)] [] h := by
  intro k
  induction k with
  | zero =>
    intro x1 x2 o hy
    rw [lp_c11_waters_4.eq_1] at hy
    cases hy
  | succ k ih =>
    intro x1 x2 o hy hE
    rw [lp_c11_waters_4.eq_2] at hy
    refine g_iload_n K d_c11_waters_4 2 rfl ?_
    refine g_aload_n K d_c11_waters_5 0 rfl ?_
    refine g_bipush (v := 40) K d_c11_waters_6 (by decide) ?_
    obtain ⟨v1, e_v1, hy⟩ := gBd hy
    refine g_iald K d_c11_waters_8 e_v1 ?_
    refine g_icmp_ge K d_c11_waters_9 (fun c2 => ?_) (fun c2 => ?_)
    · rw [if_pos c2] at hy
      refine g_sub (ls2 := [(1, .int x1)]) [1] rfl ?_
      obtain rfl := Option.some.inj hy
      exact hE
    · rw [if_neg c2] at hy
      refine g_iload_n K d_c11_waters_12 1 rfl ?_
      refine g_aload_n K d_c11_waters_13 0 rfl ?_
      refine g_bipush (v := 32) K d_c11_waters_14 (by decide) ?_
      refine g_iload_n K d_c11_waters_16 2 rfl ?_
      refine g_iadd K d_c11_waters_17 ?_
      obtain ⟨v3, e_v3, hy⟩ := gBd hy
      refine g_iald K d_c11_waters_18 e_v3 ?_
      refine g_iadd K d_c11_waters_19 ?_
      refine g_istore_n (ls2 := [(1, .int (x1 + v3)), (0, .ref a0), (2, .int x2)]) K d_c11_waters_20 rfl rfl ?_
      refine g_iinc (ls2 := [(2, .int (x2 + (1 : Int32))), (1, .int (x1 + v3)), (0, .ref a0)]) (v := 1) K d_c11_waters_21 2 rfl (by decide) rfl rfl ?_
      refine g_goto K d_c11_waters_24 ?_
      refine g_sub (ls2 := [(0, .ref a0), (1, .int (x1 + v3)), (2, .int (x2 + (1 : Int32)))]) [2, 1, 0] rfl ?_
      exact ih _ _ _ hy hE
set_option maxHeartbeats 4000000 in
set_option maxRecDepth 100000 in
theorem ct_c11_waters (l : Launch) (X : gX) (hx : gEx X = false) (N : Nat) (a0 : Nat) (h : gH) (q : Int32) (hy : f_c11_waters N a0 h = some q) : gMi l X y_c11_waters b_c11_waters 3 .int (1 + N) 0 0 [.ref a0] h q h := by
  unfold f_c11_waters at hy
  refine gMet_i (lsx := [(0, .ref a0)]) (by decide) rfl rfl ?_
  intro M hMl K hret
  subst hMl
  refine g_iconst (v := 0) K d_c11_waters_0 (by decide) ?_
  refine g_istore_n (ls2 := [(1, .int (0 : Int32)), (0, .ref a0)]) K d_c11_waters_1 rfl rfl ?_
  refine g_iconst (v := 0) K d_c11_waters_2 (by decide) ?_
  refine g_istore_n (ls2 := [(2, .int (0 : Int32)), (1, .int (0 : Int32)), (0, .ref a0)]) K d_c11_waters_3 rfl rfl ?_
  obtain ⟨o4, e_o4, hy⟩ := gBd hy
  refine g_sub (ls2 := [(0, .ref a0), (1, .int (0 : Int32)), (2, .int (0 : Int32))]) [2, 1, 0] rfl ?_
  refine wlp_c11_waters_4 hx K a0 h N (0 : Int32) (0 : Int32) o4 e_o4 ?_
  refine g_iload_n K d_c11_waters_27 0 rfl ?_
  obtain rfl := Option.some.inj hy
  exact hret rfl _ _ _ d_c11_waters_28
-- c11 wellOn
theorem d_c11_wellOn_0 : gD b_c11_wellOn 0 (.iconst 0) 1 1 := ⟨by decide +kernel, rfl⟩
theorem d_c11_wellOn_1 : gD b_c11_wellOn 1 (.istore_n 2) 1 2 := ⟨by decide +kernel, rfl⟩
theorem d_c11_wellOn_2 : gD b_c11_wellOn 2 (.iload_n 2) 1 3 := ⟨by decide +kernel, rfl⟩
theorem d_c11_wellOn_3 : gD b_c11_wellOn 3 (.aload_n 0) 1 4 := ⟨by decide +kernel, rfl⟩
theorem d_c11_wellOn_4 : gD b_c11_wellOn 4 (.bipush 40) 2 6 := ⟨by decide +kernel, rfl⟩
theorem d_c11_wellOn_6 : gD b_c11_wellOn 6 .iaload 1 7 := ⟨by decide +kernel, rfl⟩
theorem d_c11_wellOn_7 : gJ b_c11_wellOn 7 (.if_icmp .ge 18) 3 18 10 25 := ⟨by decide +kernel, rfl, by decide⟩
theorem d_c11_wellOn_10 : gD b_c11_wellOn 10 (.aload_n 0) 1 11 := ⟨by decide +kernel, rfl⟩
theorem d_c11_wellOn_11 : gD b_c11_wellOn 11 (.iload_n 2) 1 12 := ⟨by decide +kernel, rfl⟩
theorem d_c11_wellOn_12 : gD b_c11_wellOn 12 .iaload 1 13 := ⟨by decide +kernel, rfl⟩
theorem d_c11_wellOn_13 : gD b_c11_wellOn 13 (.iload_n 1) 1 14 := ⟨by decide +kernel, rfl⟩
theorem d_c11_wellOn_14 : gJ b_c11_wellOn 14 (.if_icmp .ne 5) 3 5 17 19 := ⟨by decide +kernel, rfl, by decide⟩
theorem d_c11_wellOn_17 : gD b_c11_wellOn 17 (.iload_n 2) 1 18 := ⟨by decide +kernel, rfl⟩
theorem d_c11_wellOn_18 : gD b_c11_wellOn 18 .ireturn 1 19 := ⟨by decide +kernel, rfl⟩
theorem d_c11_wellOn_19 : gD b_c11_wellOn 19 (.iinc 2 1) 3 22 := ⟨by decide +kernel, rfl⟩
theorem d_c11_wellOn_22 : gJ b_c11_wellOn 22 (.goto (-20)) 3 (-20) 25 2 := ⟨by decide +kernel, rfl, by decide⟩
theorem d_c11_wellOn_25 : gD b_c11_wellOn 25 (.iconst (-1)) 1 26 := ⟨by decide +kernel, rfl⟩
theorem d_c11_wellOn_26 : gD b_c11_wellOn 26 .ireturn 1 27 := ⟨by decide +kernel, rfl⟩
def lp_c11_wellOn_2 (N : Nat) (a0 : Nat) (x1 : Int32) (h : gH) : Nat → Int32 → Option ((Int32) ⊕ (Unit))
  | 0, _ => none
  | k + 1, x2 =>
  (ga 0 h a0 (40 : Int32)).bind fun v1 =>
    if v1 ≤ x2 then
    some (.inr ())
  else
    (ga 0 h a0 x2).bind fun v3 =>
    if v3 = x1 then
    some (.inl x2)
  else
    lp_c11_wellOn_2 N a0 x1 h k (x2 + (1 : Int32))
def f_c11_wellOn (N : Nat) (a0 : Nat) (x1 : Int32) (h : gH) : Option (Int32) :=
  (lp_c11_wellOn_2 N a0 x1 h N (0 : Int32)).bind fun o5 => Sum.elim (fun r7 => some r7) (fun t6 =>
    some (-1 : Int32)) o5
set_option maxHeartbeats 4000000 in
set_option maxRecDepth 100000 in
theorem wlp_c11_wellOn_2 {M : gM} {X : gX} {N : Nat} (hx : gEx X = false) (K : gC M X gN11 b_c11_wellOn 3 (gRm (1 + N) 0 0)) (a0 : Nat) (x1 : Int32) (h : gH) : ∀ (k : Nat) (x2 : Int32) (o : (Int32) ⊕ (Unit)), lp_c11_wellOn_2 N a0 x1 h k x2 = some o → (∀ t, o = .inr t → gG M X 3 0 0 25 [] [] h) → (∀ r, o = .inl r → (narrow .int (.int r) = .int r → ∀ pc pc' ls, gD b_c11_wellOn pc .ireturn 1 pc' → gG M X 3 0 0 pc ls [.int r] h)) → gG M X 3 0 0 2 [(0, .ref a0), (1, .int x1), (2, .int x2)] [] h := by
  intro k
  induction k with
  | zero =>
    intro x2 o hy
    rw [lp_c11_wellOn_2.eq_1] at hy
    cases hy
  | succ k ih =>
    intro x2 o hy hE hR
    rw [lp_c11_wellOn_2.eq_2] at hy
    refine g_iload_n K d_c11_wellOn_2 2 rfl ?_
    refine g_aload_n K d_c11_wellOn_3 0 rfl ?_
    refine g_bipush (v := 40) K d_c11_wellOn_4 (by decide) ?_
    obtain ⟨v1, e_v1, hy⟩ := gBd hy
    refine g_iald K d_c11_wellOn_6 e_v1 ?_
    refine g_icmp_ge K d_c11_wellOn_7 (fun c2 => ?_) (fun c2 => ?_)
    · rw [if_pos c2] at hy
      refine g_sub (ls2 := []) [] rfl ?_
      obtain rfl := Option.some.inj hy
      exact hE _ rfl
    · rw [if_neg c2] at hy
      refine g_aload_n K d_c11_wellOn_10 0 rfl ?_
      refine g_iload_n K d_c11_wellOn_11 2 rfl ?_
      obtain ⟨v3, e_v3, hy⟩ := gBd hy
      refine g_iald K d_c11_wellOn_12 e_v3 ?_
      refine g_iload_n K d_c11_wellOn_13 1 rfl ?_
      refine g_icmp_ne K d_c11_wellOn_14 (fun c4 => ?_) (fun c4 => ?_)
      · rw [if_neg c4] at hy
        refine g_iinc (ls2 := [(2, .int (x2 + (1 : Int32))), (0, .ref a0), (1, .int x1)]) (v := 1) K d_c11_wellOn_19 2 rfl (by decide) rfl rfl ?_
        refine g_goto K d_c11_wellOn_22 ?_
        refine g_sub (ls2 := [(0, .ref a0), (1, .int x1), (2, .int (x2 + (1 : Int32)))]) [1, 2, 0] rfl ?_
        exact ih _ _ hy hE hR
      · rw [if_pos c4] at hy
        refine g_iload_n K d_c11_wellOn_17 2 rfl ?_
        obtain rfl := Option.some.inj hy
        exact hR _ rfl rfl _ _ _ d_c11_wellOn_18
set_option maxHeartbeats 4000000 in
set_option maxRecDepth 100000 in
theorem ct_c11_wellOn (l : Launch) (X : gX) (hx : gEx X = false) (N : Nat) (a0 : Nat) (x1 : Int32) (h : gH) (q : Int32) (hy : f_c11_wellOn N a0 x1 h = some q) : gMi l X y_c11_wellOn b_c11_wellOn 3 .int (1 + N) 0 0 [.ref a0, .int x1] h q h := by
  unfold f_c11_wellOn at hy
  refine gMet_i (lsx := [(0, .ref a0), (1, .int x1)]) (by decide) rfl rfl ?_
  intro M hMl K hret
  subst hMl
  refine g_iconst (v := 0) K d_c11_wellOn_0 (by decide) ?_
  refine g_istore_n (ls2 := [(2, .int (0 : Int32)), (0, .ref a0), (1, .int x1)]) K d_c11_wellOn_1 rfl rfl ?_
  obtain ⟨o5, e_o5, hy⟩ := gBd hy
  refine g_sub (ls2 := [(0, .ref a0), (1, .int x1), (2, .int (0 : Int32))]) [1, 2, 0] rfl ?_
  refine wlp_c11_wellOn_2 hx K a0 x1 h N (0 : Int32) o5 e_o5 (fun t6 e_t6 => ?_) (fun r7 e_r7 => ?_)
  · subst e_t6
    simp only [Sum.elim_inr] at hy
    refine g_iconst (v := (-1)) K d_c11_wellOn_25 (by decide) ?_
    obtain rfl := Option.some.inj hy
    exact hret rfl _ _ _ d_c11_wellOn_26
  · subst e_r7
    simp only [Sum.elim_inl] at hy
    intro hn pc9 pc9' ls9 hd9
    obtain rfl := Option.some.inj hy
    exact hret hn _ _ _ hd9
-- c1 columnOf
theorem d_c1_columnOf_0 : gD b_c1_columnOf 0 (.aload_n 0) 1 1 := ⟨by decide +kernel, rfl⟩
theorem d_c1_columnOf_1 : gD b_c1_columnOf 1 (.getfield 15) 3 4 := ⟨by decide +kernel, rfl⟩
theorem d_c1_columnOf_4 : gJ b_c1_columnOf 4 (.ifCond .le 12) 3 12 7 16 := ⟨by decide +kernel, rfl, by decide⟩
theorem d_c1_columnOf_7 : gD b_c1_columnOf 7 (.iload_n 1) 1 8 := ⟨by decide +kernel, rfl⟩
theorem d_c1_columnOf_8 : gD b_c1_columnOf 8 (.aload_n 0) 1 9 := ⟨by decide +kernel, rfl⟩
theorem d_c1_columnOf_9 : gD b_c1_columnOf 9 (.getfield 15) 3 12 := ⟨by decide +kernel, rfl⟩
theorem d_c1_columnOf_12 : gD b_c1_columnOf 12 .irem 1 13 := ⟨by decide +kernel, rfl⟩
theorem d_c1_columnOf_13 : gJ b_c1_columnOf 13 (.goto 4) 3 4 16 17 := ⟨by decide +kernel, rfl, by decide⟩
theorem d_c1_columnOf_16 : gD b_c1_columnOf 16 (.iconst 0) 1 17 := ⟨by decide +kernel, rfl⟩
theorem d_c1_columnOf_17 : gD b_c1_columnOf 17 .ireturn 1 18 := ⟨by decide +kernel, rfl⟩
def f_c1_columnOf (N : Nat) (a0 : Nat) (x1 : Int32) (h : gH) : Option (Int32) :=
  (gcl h a0 1).bind fun _ =>
  (gfI h a0 1 1).bind fun v1 =>
    (show Option (Int32) from if v1 ≤ 0 then
    some (0 : Int32)
  else
    (gfI h a0 1 1).bind fun v5 =>
    (gNZ v5).bind fun u6 =>
    some (x1 - x1 / v5 * v5)).bind fun t3 =>
    some t3
set_option maxHeartbeats 4000000 in
set_option maxRecDepth 100000 in
theorem ct_c1_columnOf (l : Launch) (X : gX) (hx : gEx X = false) (N : Nat) (a0 : Nat) (x1 : Int32) (h : gH) (q : Int32) (hy : f_c1_columnOf N a0 x1 h = some q) : gRc y_c1_columnOf h a0 ∧ gMi l X y_c1_columnOf b_c1_columnOf 2 .int (1 + N) 0 0 [.ref a0, .int x1] h q h := by
  unfold f_c1_columnOf at hy
  obtain ⟨u0, e_u0, hy⟩ := gBd hy
  cases u0
  refine ⟨Or.inl ⟨1, _, _, e_u0, rfl⟩, gMet_i (lsx := [(0, .ref a0), (1, .int x1)]) (by decide) rfl rfl ?_⟩
  intro M hMl K hret
  subst hMl
  refine g_aload_n K d_c1_columnOf_0 0 rfl ?_
  obtain ⟨v1, e_v1, hy⟩ := gBd hy
  refine g_getI K fl_c1_15 d_c1_columnOf_1 e_v1 ?_
  obtain ⟨t3, e_t3, hy⟩ := gBd hy
  have hJ4 : gG M X 2 0 0 17 [] [.int t3] h := by
    obtain rfl := Option.some.inj hy
    exact hret rfl _ _ _ d_c1_columnOf_17
  refine g_if_le K d_c1_columnOf_4 (fun c2 => ?_) (fun c2 => ?_)
  · rw [if_pos c2] at e_t3
    refine g_iconst (v := 0) K d_c1_columnOf_16 (by decide) ?_
    refine g_sub (ls2 := []) [] rfl ?_
    obtain rfl := Option.some.inj e_t3
    exact hJ4
  · rw [if_neg c2] at e_t3
    refine g_iload_n K d_c1_columnOf_7 1 rfl ?_
    refine g_aload_n K d_c1_columnOf_8 0 rfl ?_
    obtain ⟨v5, e_v5, e_t3⟩ := gBd e_t3
    refine g_getI K fl_c1_15 d_c1_columnOf_9 e_v5 ?_
    obtain ⟨u6, e_u6, e_t3⟩ := gBd e_t3
    refine g_irem K d_c1_columnOf_12 e_u6 ?_
    refine g_goto K d_c1_columnOf_13 ?_
    refine g_sub (ls2 := []) [] rfl ?_
    obtain rfl := Option.some.inj e_t3
    exact hJ4
