-- c1 crowdAt
theorem d_c1_crowdAt_0 : gD b_c1_crowdAt 0 (.iload_n 1) 1 1 := ⟨by decide +kernel, rfl⟩
theorem d_c1_crowdAt_1 : gJ b_c1_crowdAt 1 (.ifCond .lt 18) 3 18 4 19 := ⟨by decide +kernel, rfl, by decide⟩
theorem d_c1_crowdAt_4 : gD b_c1_crowdAt 4 (.iload_n 1) 1 5 := ⟨by decide +kernel, rfl⟩
theorem d_c1_crowdAt_5 : gD b_c1_crowdAt 5 (.bipush 36) 2 7 := ⟨by decide +kernel, rfl⟩
theorem d_c1_crowdAt_7 : gJ b_c1_crowdAt 7 (.if_icmp .ge 12) 3 12 10 19 := ⟨by decide +kernel, rfl, by decide⟩
theorem d_c1_crowdAt_10 : gD b_c1_crowdAt 10 (.aload_n 0) 1 11 := ⟨by decide +kernel, rfl⟩
theorem d_c1_crowdAt_11 : gD b_c1_crowdAt 11 (.getfield 25) 3 14 := ⟨by decide +kernel, rfl⟩
theorem d_c1_crowdAt_14 : gD b_c1_crowdAt 14 (.iload_n 1) 1 15 := ⟨by decide +kernel, rfl⟩
theorem d_c1_crowdAt_15 : gD b_c1_crowdAt 15 .iaload 1 16 := ⟨by decide +kernel, rfl⟩
theorem d_c1_crowdAt_16 : gJ b_c1_crowdAt 16 (.goto 4) 3 4 19 20 := ⟨by decide +kernel, rfl, by decide⟩
theorem d_c1_crowdAt_19 : gD b_c1_crowdAt 19 (.iconst 0) 1 20 := ⟨by decide +kernel, rfl⟩
theorem d_c1_crowdAt_20 : gD b_c1_crowdAt 20 .ireturn 1 21 := ⟨by decide +kernel, rfl⟩
def f_c1_crowdAt (N : Nat) (a0 : Nat) (x1 : Int32) (h : gH) : Option (Int32) :=
  (gcl h a0 1).bind fun _ =>
  (show Option (Int32) from if x1 < 0 then
    some (0 : Int32)
  else
    if (36 : Int32) ≤ x1 then
    some (0 : Int32)
  else
    (gfR h a0 1 5).bind fun v5 =>
    (ga 0 h v5 x1).bind fun v6 =>
    some v6).bind fun t2 =>
    some t2
set_option maxHeartbeats 4000000 in
set_option maxRecDepth 100000 in
theorem ct_c1_crowdAt (l : Launch) (X : gX) (hx : gEx X = false) (N : Nat) (a0 : Nat) (x1 : Int32) (h : gH) (q : Int32) (hy : f_c1_crowdAt N a0 x1 h = some q) : gRc y_c1_crowdAt h a0 ∧ gMi l X y_c1_crowdAt b_c1_crowdAt 2 .int (1 + N) 0 0 [.ref a0, .int x1] h q h := by
  unfold f_c1_crowdAt at hy
  obtain ⟨u0, e_u0, hy⟩ := gBd hy
  cases u0
  refine ⟨Or.inl ⟨1, _, _, e_u0, rfl⟩, gMet_i (lsx := [(0, .ref a0), (1, .int x1)]) (by decide) rfl rfl ?_⟩
  intro M hMl K hret
  subst hMl
  refine g_iload_n K d_c1_crowdAt_0 1 rfl ?_
  obtain ⟨t2, e_t2, hy⟩ := gBd hy
  have hJ3 : gG M X 2 0 0 20 [] [.int t2] h := by
    obtain rfl := Option.some.inj hy
    exact hret rfl _ _ _ d_c1_crowdAt_20
  refine g_if_lt K d_c1_crowdAt_1 (fun c1 => ?_) (fun c1 => ?_)
  · rw [if_pos c1] at e_t2
    refine g_iconst (v := 0) K d_c1_crowdAt_19 (by decide) ?_
    refine g_sub (ls2 := []) [] rfl ?_
    obtain rfl := Option.some.inj e_t2
    exact hJ3
  · rw [if_neg c1] at e_t2
    refine g_iload_n K d_c1_crowdAt_4 1 rfl ?_
    refine g_bipush (v := 36) K d_c1_crowdAt_5 (by decide) ?_
    refine g_icmp_ge K d_c1_crowdAt_7 (fun c4 => ?_) (fun c4 => ?_)
    · rw [if_pos c4] at e_t2
      refine g_iconst (v := 0) K d_c1_crowdAt_19 (by decide) ?_
      refine g_sub (ls2 := []) [] rfl ?_
      obtain rfl := Option.some.inj e_t2
      exact hJ3
    · rw [if_neg c4] at e_t2
      refine g_aload_n K d_c1_crowdAt_10 0 rfl ?_
      obtain ⟨v5, e_v5, e_t2⟩ := gBd e_t2
      refine g_getR K fl_c1_25 d_c1_crowdAt_11 e_v5 ?_
      refine g_iload_n K d_c1_crowdAt_14 1 rfl ?_
      obtain ⟨v6, e_v6, e_t2⟩ := gBd e_t2
      refine g_iald K d_c1_crowdAt_15 e_v6 ?_
      refine g_goto K d_c1_crowdAt_16 ?_
      refine g_sub (ls2 := []) [] rfl ?_
      obtain rfl := Option.some.inj e_t2
      exact hJ3
-- c1 fieldAt
theorem d_c1_fieldAt_0 : gD b_c1_fieldAt 0 (.iload_n 1) 1 1 := ⟨by decide +kernel, rfl⟩
theorem d_c1_fieldAt_1 : gJ b_c1_fieldAt 1 (.ifCond .lt 27) 3 27 4 28 := ⟨by decide +kernel, rfl, by decide⟩
theorem d_c1_fieldAt_4 : gD b_c1_fieldAt 4 (.iload_n 1) 1 5 := ⟨by decide +kernel, rfl⟩
theorem d_c1_fieldAt_5 : gD b_c1_fieldAt 5 (.aload_n 0) 1 6 := ⟨by decide +kernel, rfl⟩
theorem d_c1_fieldAt_6 : gD b_c1_fieldAt 6 (.getfield 9) 3 9 := ⟨by decide +kernel, rfl⟩
theorem d_c1_fieldAt_9 : gJ b_c1_fieldAt 9 (.if_icmp .ge 19) 3 19 12 28 := ⟨by decide +kernel, rfl, by decide⟩
theorem d_c1_fieldAt_12 : gD b_c1_fieldAt 12 (.iload_n 2) 1 13 := ⟨by decide +kernel, rfl⟩
theorem d_c1_fieldAt_13 : gJ b_c1_fieldAt 13 (.ifCond .lt 15) 3 15 16 28 := ⟨by decide +kernel, rfl, by decide⟩
theorem d_c1_fieldAt_16 : gD b_c1_fieldAt 16 (.iload_n 2) 1 17 := ⟨by decide +kernel, rfl⟩
theorem d_c1_fieldAt_17 : gD b_c1_fieldAt 17 (.aload_n 0) 1 18 := ⟨by decide +kernel, rfl⟩
theorem d_c1_fieldAt_18 : gD b_c1_fieldAt 18 (.getfield 15) 3 21 := ⟨by decide +kernel, rfl⟩
theorem d_c1_fieldAt_21 : gJ b_c1_fieldAt 21 (.if_icmp .ge 7) 3 7 24 28 := ⟨by decide +kernel, rfl, by decide⟩
theorem d_c1_fieldAt_24 : gD b_c1_fieldAt 24 (.iconst 1) 1 25 := ⟨by decide +kernel, rfl⟩
theorem d_c1_fieldAt_25 : gJ b_c1_fieldAt 25 (.goto 4) 3 4 28 29 := ⟨by decide +kernel, rfl, by decide⟩
theorem d_c1_fieldAt_28 : gD b_c1_fieldAt 28 (.iconst 0) 1 29 := ⟨by decide +kernel, rfl⟩
theorem d_c1_fieldAt_29 : gD b_c1_fieldAt 29 (.istore_n 3) 1 30 := ⟨by decide +kernel, rfl⟩
theorem d_c1_fieldAt_30 : gD b_c1_fieldAt 30 (.iload_n 3) 1 31 := ⟨by decide +kernel, rfl⟩
theorem d_c1_fieldAt_31 : gJ b_c1_fieldAt 31 (.ifCond .eq 14) 3 14 34 45 := ⟨by decide +kernel, rfl, by decide⟩
theorem d_c1_fieldAt_34 : gD b_c1_fieldAt 34 (.iload_n 1) 1 35 := ⟨by decide +kernel, rfl⟩
theorem d_c1_fieldAt_35 : gD b_c1_fieldAt 35 (.aload_n 0) 1 36 := ⟨by decide +kernel, rfl⟩
theorem d_c1_fieldAt_36 : gD b_c1_fieldAt 36 (.getfield 15) 3 39 := ⟨by decide +kernel, rfl⟩
theorem d_c1_fieldAt_39 : gD b_c1_fieldAt 39 .imul 1 40 := ⟨by decide +kernel, rfl⟩
theorem d_c1_fieldAt_40 : gD b_c1_fieldAt 40 (.iload_n 2) 1 41 := ⟨by decide +kernel, rfl⟩
theorem d_c1_fieldAt_41 : gD b_c1_fieldAt 41 .iadd 1 42 := ⟨by decide +kernel, rfl⟩
theorem d_c1_fieldAt_42 : gJ b_c1_fieldAt 42 (.goto 4) 3 4 45 46 := ⟨by decide +kernel, rfl, by decide⟩
theorem d_c1_fieldAt_45 : gD b_c1_fieldAt 45 (.iconst (-1)) 1 46 := ⟨by decide +kernel, rfl⟩
theorem d_c1_fieldAt_46 : gD b_c1_fieldAt 46 .ireturn 1 47 := ⟨by decide +kernel, rfl⟩
def f_c1_fieldAt (N : Nat) (a0 : Nat) (x1 : Int32) (x2 : Int32) (h : gH) : Option (Int32) :=
  (gcl h a0 1).bind fun _ =>
  (show Option (Int32) from if x1 < 0 then
    some (0 : Int32)
  else
    (gfI h a0 1 0).bind fun v8 =>
    if v8 ≤ x1 then
    some (0 : Int32)
  else
    if x2 < 0 then
    some (0 : Int32)
  else
    (gfI h a0 1 1).bind fun v11 =>
    if v11 ≤ x2 then
    some (0 : Int32)
  else
    some (1 : Int32)).bind fun t2 =>
    (show Option (Int32) from if t2 = 0 then
    some (-1 : Int32)
  else
    (gfI h a0 1 1).bind fun v7 =>
    some ((x1 * v7) + x2)).bind fun t5 =>
    some t5
set_option maxHeartbeats 4000000 in
set_option maxRecDepth 100000 in
theorem ct_c1_fieldAt (l : Launch) (X : gX) (hx : gEx X = false) (N : Nat) (a0 : Nat) (x1 : Int32) (x2 : Int32) (h : gH) (q : Int32) (hy : f_c1_fieldAt N a0 x1 x2 h = some q) : gRc y_c1_fieldAt h a0 ∧ gMi l X y_c1_fieldAt b_c1_fieldAt 4 .int (1 + N) 0 0 [.ref a0, .int x1, .int x2] h q h := by
  unfold f_c1_fieldAt at hy
  obtain ⟨u0, e_u0, hy⟩ := gBd hy
  cases u0
  refine ⟨Or.inl ⟨1, _, _, e_u0, rfl⟩, gMet_i (lsx := [(0, .ref a0), (1, .int x1), (2, .int x2)]) (by decide) rfl rfl ?_⟩
  intro M hMl K hret
  subst hMl
  refine g_iload_n K d_c1_fieldAt_0 1 rfl ?_
  obtain ⟨t2, e_t2, hy⟩ := gBd hy
  have hJ3 : gG M X 4 0 0 29 [(0, .ref a0), (1, .int x1), (2, .int x2)] [.int t2] h := by
    refine g_istore_n (ls2 := [(3, .int t2), (0, .ref a0), (1, .int x1), (2, .int x2)]) K d_c1_fieldAt_29 rfl rfl ?_
    refine g_iload_n K d_c1_fieldAt_30 0 rfl ?_
    obtain ⟨t5, e_t5, hy⟩ := gBd hy
    have hJ6 : gG M X 4 0 0 46 [] [.int t5] h := by
      obtain rfl := Option.some.inj hy
      exact hret rfl _ _ _ d_c1_fieldAt_46
    refine g_if_eq K d_c1_fieldAt_31 (fun c4 => ?_) (fun c4 => ?_)
    · rw [if_pos c4] at e_t5
      refine g_iconst (v := (-1)) K d_c1_fieldAt_45 (by decide) ?_
      refine g_sub (ls2 := []) [] rfl ?_
      obtain rfl := Option.some.inj e_t5
      exact hJ6
    · rw [if_neg c4] at e_t5
      refine g_iload_n K d_c1_fieldAt_34 2 rfl ?_
      refine g_aload_n K d_c1_fieldAt_35 1 rfl ?_
      obtain ⟨v7, e_v7, e_t5⟩ := gBd e_t5
      refine g_getI K fl_c1_15 d_c1_fieldAt_36 e_v7 ?_
      refine g_imul K d_c1_fieldAt_39 ?_
      refine g_iload_n K d_c1_fieldAt_40 3 rfl ?_
      refine g_iadd K d_c1_fieldAt_41 ?_
      refine g_goto K d_c1_fieldAt_42 ?_
      refine g_sub (ls2 := []) [] rfl ?_
      obtain rfl := Option.some.inj e_t5
      exact hJ6
  refine g_if_lt K d_c1_fieldAt_1 (fun c1 => ?_) (fun c1 => ?_)
  · rw [if_pos c1] at e_t2
    refine g_iconst (v := 0) K d_c1_fieldAt_28 (by decide) ?_
    obtain rfl := Option.some.inj e_t2
    exact hJ3
  · rw [if_neg c1] at e_t2
    refine g_iload_n K d_c1_fieldAt_4 1 rfl ?_
    refine g_aload_n K d_c1_fieldAt_5 0 rfl ?_
    obtain ⟨v8, e_v8, e_t2⟩ := gBd e_t2
    refine g_getI K fl_c1_9 d_c1_fieldAt_6 e_v8 ?_
    refine g_icmp_ge K d_c1_fieldAt_9 (fun c9 => ?_) (fun c9 => ?_)
    · rw [if_pos c9] at e_t2
      refine g_iconst (v := 0) K d_c1_fieldAt_28 (by decide) ?_
      obtain rfl := Option.some.inj e_t2
      exact hJ3
    · rw [if_neg c9] at e_t2
      refine g_iload_n K d_c1_fieldAt_12 2 rfl ?_
      refine g_if_lt K d_c1_fieldAt_13 (fun c10 => ?_) (fun c10 => ?_)
      · rw [if_pos c10] at e_t2
        refine g_iconst (v := 0) K d_c1_fieldAt_28 (by decide) ?_
        obtain rfl := Option.some.inj e_t2
        exact hJ3
      · rw [if_neg c10] at e_t2
        refine g_iload_n K d_c1_fieldAt_16 2 rfl ?_
        refine g_aload_n K d_c1_fieldAt_17 0 rfl ?_
        obtain ⟨v11, e_v11, e_t2⟩ := gBd e_t2
        refine g_getI K fl_c1_15 d_c1_fieldAt_18 e_v11 ?_
        refine g_icmp_ge K d_c1_fieldAt_21 (fun c12 => ?_) (fun c12 => ?_)
        · rw [if_pos c12] at e_t2
          refine g_iconst (v := 0) K d_c1_fieldAt_28 (by decide) ?_
          obtain rfl := Option.some.inj e_t2
          exact hJ3
        · rw [if_neg c12] at e_t2
          refine g_iconst (v := 1) K d_c1_fieldAt_24 (by decide) ?_
          refine g_goto K d_c1_fieldAt_25 ?_
          obtain rfl := Option.some.inj e_t2
          exact hJ3
-- c1 fields
theorem d_c1_fields_0 : gD b_c1_fields 0 (.aload_n 0) 1 1 := ⟨by decide +kernel, rfl⟩
theorem d_c1_fields_1 : gD b_c1_fields 1 (.getfield 9) 3 4 := ⟨by decide +kernel, rfl⟩
theorem d_c1_fields_4 : gD b_c1_fields 4 (.aload_n 0) 1 5 := ⟨by decide +kernel, rfl⟩
theorem d_c1_fields_5 : gD b_c1_fields 5 (.getfield 15) 3 8 := ⟨by decide +kernel, rfl⟩
theorem d_c1_fields_8 : gD b_c1_fields 8 .imul 1 9 := ⟨by decide +kernel, rfl⟩
theorem d_c1_fields_9 : gD b_c1_fields 9 .ireturn 1 10 := ⟨by decide +kernel, rfl⟩
def f_c1_fields (N : Nat) (a0 : Nat) (h : gH) : Option (Int32) :=
  (gcl h a0 1).bind fun _ =>
  (gfI h a0 1 0).bind fun v1 =>
    (gfI h a0 1 1).bind fun v2 =>
    some (v1 * v2)
set_option maxHeartbeats 4000000 in
set_option maxRecDepth 100000 in
theorem ct_c1_fields (l : Launch) (X : gX) (hx : gEx X = false) (N : Nat) (a0 : Nat) (h : gH) (q : Int32) (hy : f_c1_fields N a0 h = some q) : gRc y_c1_fields h a0 ∧ gMi l X y_c1_fields b_c1_fields 1 .int (1 + N) 0 0 [.ref a0] h q h := by
  unfold f_c1_fields at hy
  obtain ⟨u0, e_u0, hy⟩ := gBd hy
  cases u0
  refine ⟨Or.inl ⟨1, _, _, e_u0, rfl⟩, gMet_i (lsx := [(0, .ref a0)]) (by decide) rfl rfl ?_⟩
  intro M hMl K hret
  subst hMl
  refine g_aload_n K d_c1_fields_0 0 rfl ?_
  obtain ⟨v1, e_v1, hy⟩ := gBd hy
  refine g_getI K fl_c1_9 d_c1_fields_1 e_v1 ?_
  refine g_aload_n K d_c1_fields_4 0 rfl ?_
  obtain ⟨v2, e_v2, hy⟩ := gBd hy
  refine g_getI K fl_c1_15 d_c1_fields_5 e_v2 ?_
  refine g_imul K d_c1_fields_8 ?_
  obtain rfl := Option.some.inj hy
  exact hret rfl _ _ _ d_c1_fields_9
-- c1 has
theorem d_c1_has_0 : gD b_c1_has 0 (.iload_n 1) 1 1 := ⟨by decide +kernel, rfl⟩
theorem d_c1_has_1 : gJ b_c1_has 1 (.ifCond .lt 15) 3 15 4 16 := ⟨by decide +kernel, rfl, by decide⟩
theorem d_c1_has_4 : gD b_c1_has 4 (.iload_n 1) 1 5 := ⟨by decide +kernel, rfl⟩
theorem d_c1_has_5 : gD b_c1_has 5 (.aload_n 0) 1 6 := ⟨by decide +kernel, rfl⟩
theorem d_c1_has_6 : gD b_c1_has 6 (.getfield 40) 3 9 := ⟨by decide +kernel, rfl⟩
theorem d_c1_has_9 : gJ b_c1_has 9 (.if_icmp .ge 7) 3 7 12 16 := ⟨by decide +kernel, rfl, by decide⟩
theorem d_c1_has_12 : gD b_c1_has 12 (.iconst 1) 1 13 := ⟨by decide +kernel, rfl⟩
theorem d_c1_has_13 : gJ b_c1_has 13 (.goto 4) 3 4 16 17 := ⟨by decide +kernel, rfl, by decide⟩
theorem d_c1_has_16 : gD b_c1_has 16 (.iconst 0) 1 17 := ⟨by decide +kernel, rfl⟩
theorem d_c1_has_17 : gD b_c1_has 17 .ireturn 1 18 := ⟨by decide +kernel, rfl⟩
def f_c1_has (N : Nat) (a0 : Nat) (x1 : Int32) (h : gH) : Option (Int32) :=
  (gcl h a0 1).bind fun _ =>
  (show Option (Int32) from if x1 < 0 then
    some (0 : Int32)
  else
    (gfI h a0 1 2).bind fun v5 =>
    if v5 ≤ x1 then
    some (0 : Int32)
  else
    some (1 : Int32)).bind fun t2 =>
    (gZ t2).bind fun w4 => some w4
set_option maxHeartbeats 4000000 in
set_option maxRecDepth 100000 in
theorem ct_c1_has (l : Launch) (X : gX) (hx : gEx X = false) (N : Nat) (a0 : Nat) (x1 : Int32) (h : gH) (q : Int32) (hy : f_c1_has N a0 x1 h = some q) : gRc y_c1_has h a0 ∧ gMi l X y_c1_has b_c1_has 2 .boolean (1 + N) 0 0 [.ref a0, .int x1] h q h := by
  unfold f_c1_has at hy
  obtain ⟨u0, e_u0, hy⟩ := gBd hy
  cases u0
  refine ⟨Or.inl ⟨1, _, _, e_u0, rfl⟩, gMet_i (lsx := [(0, .ref a0), (1, .int x1)]) (by decide) rfl rfl ?_⟩
  intro M hMl K hret
  subst hMl
  refine g_iload_n K d_c1_has_0 1 rfl ?_
  obtain ⟨t2, e_t2, hy⟩ := gBd hy
  have hJ3 : gG M X 2 0 0 17 [] [.int t2] h := by
    obtain ⟨w4, e_w4, hy⟩ := gBd hy
    obtain ⟨z_w4, n_w4⟩ := gZ_spec e_w4
    rw [z_w4]
    obtain rfl := Option.some.inj hy
    exact hret (gZn n_w4) _ _ _ d_c1_has_17
  refine g_if_lt K d_c1_has_1 (fun c1 => ?_) (fun c1 => ?_)
  · rw [if_pos c1] at e_t2
    refine g_iconst (v := 0) K d_c1_has_16 (by decide) ?_
    refine g_sub (ls2 := []) [] rfl ?_
    obtain rfl := Option.some.inj e_t2
    exact hJ3
  · rw [if_neg c1] at e_t2
    refine g_iload_n K d_c1_has_4 1 rfl ?_
    refine g_aload_n K d_c1_has_5 0 rfl ?_
    obtain ⟨v5, e_v5, e_t2⟩ := gBd e_t2
    refine g_getI K fl_c1_40 d_c1_has_6 e_v5 ?_
    refine g_icmp_ge K d_c1_has_9 (fun c6 => ?_) (fun c6 => ?_)
    · rw [if_pos c6] at e_t2
      refine g_iconst (v := 0) K d_c1_has_16 (by decide) ?_
      refine g_sub (ls2 := []) [] rfl ?_
      obtain rfl := Option.some.inj e_t2
      exact hJ3
    · rw [if_neg c6] at e_t2
      refine g_iconst (v := 1) K d_c1_has_12 (by decide) ?_
      refine g_goto K d_c1_has_13 ?_
      refine g_sub (ls2 := []) [] rfl ?_
      obtain rfl := Option.some.inj e_t2
      exact hJ3
-- c1 rowOf
theorem d_c1_rowOf_0 : gD b_c1_rowOf 0 (.aload_n 0) 1 1 := ⟨by decide +kernel, rfl⟩
theorem d_c1_rowOf_1 : gD b_c1_rowOf 1 (.getfield 15) 3 4 := ⟨by decide +kernel, rfl⟩
theorem d_c1_rowOf_4 : gJ b_c1_rowOf 4 (.ifCond .le 12) 3 12 7 16 := ⟨by decide +kernel, rfl, by decide⟩
theorem d_c1_rowOf_7 : gD b_c1_rowOf 7 (.iload_n 1) 1 8 := ⟨by decide +kernel, rfl⟩
theorem d_c1_rowOf_8 : gD b_c1_rowOf 8 (.aload_n 0) 1 9 := ⟨by decide +kernel, rfl⟩
theorem d_c1_rowOf_9 : gD b_c1_rowOf 9 (.getfield 15) 3 12 := ⟨by decide +kernel, rfl⟩
theorem d_c1_rowOf_12 : gD b_c1_rowOf 12 .idiv 1 13 := ⟨by decide +kernel, rfl⟩
theorem d_c1_rowOf_13 : gJ b_c1_rowOf 13 (.goto 4) 3 4 16 17 := ⟨by decide +kernel, rfl, by decide⟩
theorem d_c1_rowOf_16 : gD b_c1_rowOf 16 (.iconst 0) 1 17 := ⟨by decide +kernel, rfl⟩
theorem d_c1_rowOf_17 : gD b_c1_rowOf 17 .ireturn 1 18 := ⟨by decide +kernel, rfl⟩
def f_c1_rowOf (N : Nat) (a0 : Nat) (x1 : Int32) (h : gH) : Option (Int32) :=
  (gcl h a0 1).bind fun _ =>
  (gfI h a0 1 1).bind fun v1 =>
    (show Option (Int32) from if v1 ≤ 0 then
    some (0 : Int32)
  else
    (gfI h a0 1 1).bind fun v5 =>
    (gNZ v5).bind fun u6 =>
    some (x1 / v5)).bind fun t3 =>
    some t3
set_option maxHeartbeats 4000000 in
set_option maxRecDepth 100000 in
theorem ct_c1_rowOf (l : Launch) (X : gX) (hx : gEx X = false) (N : Nat) (a0 : Nat) (x1 : Int32) (h : gH) (q : Int32) (hy : f_c1_rowOf N a0 x1 h = some q) : gRc y_c1_rowOf h a0 ∧ gMi l X y_c1_rowOf b_c1_rowOf 2 .int (1 + N) 0 0 [.ref a0, .int x1] h q h := by
  unfold f_c1_rowOf at hy
  obtain ⟨u0, e_u0, hy⟩ := gBd hy
  cases u0
  refine ⟨Or.inl ⟨1, _, _, e_u0, rfl⟩, gMet_i (lsx := [(0, .ref a0), (1, .int x1)]) (by decide) rfl rfl ?_⟩
  intro M hMl K hret
  subst hMl
  refine g_aload_n K d_c1_rowOf_0 0 rfl ?_
  obtain ⟨v1, e_v1, hy⟩ := gBd hy
  refine g_getI K fl_c1_15 d_c1_rowOf_1 e_v1 ?_
  obtain ⟨t3, e_t3, hy⟩ := gBd hy
  have hJ4 : gG M X 2 0 0 17 [] [.int t3] h := by
    obtain rfl := Option.some.inj hy
    exact hret rfl _ _ _ d_c1_rowOf_17
  refine g_if_le K d_c1_rowOf_4 (fun c2 => ?_) (fun c2 => ?_)
  · rw [if_pos c2] at e_t3
    refine g_iconst (v := 0) K d_c1_rowOf_16 (by decide) ?_
    refine g_sub (ls2 := []) [] rfl ?_
    obtain rfl := Option.some.inj e_t3
    exact hJ4
  · rw [if_neg c2] at e_t3
    refine g_iload_n K d_c1_rowOf_7 1 rfl ?_
    refine g_aload_n K d_c1_rowOf_8 0 rfl ?_
    obtain ⟨v5, e_v5, e_t3⟩ := gBd e_t3
    refine g_getI K fl_c1_15 d_c1_rowOf_9 e_v5 ?_
    obtain ⟨u6, e_u6, e_t3⟩ := gBd e_t3
    refine g_idiv K d_c1_rowOf_12 e_u6 ?_
    refine g_goto K d_c1_rowOf_13 ?_
    refine g_sub (ls2 := []) [] rfl ?_
    obtain rfl := Option.some.inj e_t3
    exact hJ4
-- c1 thirstOfAll
theorem d_c1_thirstOfAll_0 : gD b_c1_thirstOfAll 0 (.iconst 0) 1 1 := ⟨by decide +kernel, rfl⟩
theorem d_c1_thirstOfAll_1 : gD b_c1_thirstOfAll 1 (.istore_n 1) 1 2 := ⟨by decide +kernel, rfl⟩
theorem d_c1_thirstOfAll_2 : gD b_c1_thirstOfAll 2 (.iconst 0) 1 3 := ⟨by decide +kernel, rfl⟩
theorem d_c1_thirstOfAll_3 : gD b_c1_thirstOfAll 3 (.istore_n 2) 1 4 := ⟨by decide +kernel, rfl⟩
theorem d_c1_thirstOfAll_4 : gD b_c1_thirstOfAll 4 (.iload_n 2) 1 5 := ⟨by decide +kernel, rfl⟩
theorem d_c1_thirstOfAll_5 : gD b_c1_thirstOfAll 5 (.aload_n 0) 1 6 := ⟨by decide +kernel, rfl⟩
theorem d_c1_thirstOfAll_6 : gD b_c1_thirstOfAll 6 (.getfield 40) 3 9 := ⟨by decide +kernel, rfl⟩
theorem d_c1_thirstOfAll_9 : gJ b_c1_thirstOfAll 9 (.if_icmp .ge 18) 3 18 12 27 := ⟨by decide +kernel, rfl, by decide⟩
theorem d_c1_thirstOfAll_12 : gD b_c1_thirstOfAll 12 (.iload_n 1) 1 13 := ⟨by decide +kernel, rfl⟩
theorem d_c1_thirstOfAll_13 : gD b_c1_thirstOfAll 13 (.aload_n 0) 1 14 := ⟨by decide +kernel, rfl⟩
theorem d_c1_thirstOfAll_14 : gD b_c1_thirstOfAll 14 (.getfield 22) 3 17 := ⟨by decide +kernel, rfl⟩
theorem d_c1_thirstOfAll_17 : gD b_c1_thirstOfAll 17 (.iload_n 2) 1 18 := ⟨by decide +kernel, rfl⟩
theorem d_c1_thirstOfAll_18 : gD b_c1_thirstOfAll 18 .iaload 1 19 := ⟨by decide +kernel, rfl⟩
theorem d_c1_thirstOfAll_19 : gD b_c1_thirstOfAll 19 .iadd 1 20 := ⟨by decide +kernel, rfl⟩
theorem d_c1_thirstOfAll_20 : gD b_c1_thirstOfAll 20 (.istore_n 1) 1 21 := ⟨by decide +kernel, rfl⟩
theorem d_c1_thirstOfAll_21 : gD b_c1_thirstOfAll 21 (.iinc 2 1) 3 24 := ⟨by decide +kernel, rfl⟩
theorem d_c1_thirstOfAll_24 : gJ b_c1_thirstOfAll 24 (.goto (-20)) 3 (-20) 27 4 := ⟨by decide +kernel, rfl, by decide⟩
theorem d_c1_thirstOfAll_27 : gD b_c1_thirstOfAll 27 (.iload_n 1) 1 28 := ⟨by decide +kernel, rfl⟩
theorem d_c1_thirstOfAll_28 : gD b_c1_thirstOfAll 28 .ireturn 1 29 := ⟨by decide +kernel, rfl⟩
def lp_c1_thirstOfAll_4 (N : Nat) (a0 : Nat) (h : gH) : Nat → Int32 → Int32 → Option (Int32)
  | 0, _, _ => none
  | k + 1, x1, x2 =>
  (gfI h a0 1 2).bind fun v1 =>
    if v1 ≤ x2 then
    some x1
  else
    (gfR h a0 1 4).bind fun v3 =>
    (ga 0 h v3 x2).bind fun v4 =>
    lp_c1_thirstOfAll_4 N a0 h k (x1 + v4) (x2 + (1 : Int32))
def f_c1_thirstOfAll (N : Nat) (a0 : Nat) (h : gH) : Option (Int32) :=
  (gcl h a0 1).bind fun _ =>
  (lp_c1_thirstOfAll_4 N a0 h N (0 : Int32) (0 : Int32)).bind fun o5 =>
    some o5
set_option maxHeartbeats 4000000 in
set_option maxRecDepth 100000 in
theorem wlp_c1_thirstOfAll_4 {M : gM} {X : gX} {N : Nat} (hx : gEx X = false) (K : gC M X gN1 b_c1_thirstOfAll 3 (gRm (1 + N) 0 0)) (a0 : Nat) (h : gH) : ∀ (k : Nat) (x1 : Int32) (x2 : Int32) (o : Int32), lp_c1_thirstOfAll_4 N a0 h k x1 x2 = some o → gG M X 3 0 0 27 [(1, .int o)] [] h → gG M X 3 0 0 4 [(0, .ref a0), (1, .int x1), (2, .int x2)] [] h := by
  intro k
  induction k with
  | zero =>
    intro x1 x2 o hy
    rw [lp_c1_thirstOfAll_4.eq_1] at hy
    cases hy
  | succ k ih =>
    intro x1 x2 o hy hE
    rw [lp_c1_thirstOfAll_4.eq_2] at hy
    refine g_iload_n K d_c1_thirstOfAll_4 2 rfl ?_
    refine g_aload_n K d_c1_thirstOfAll_5 0 rfl ?_
    obtain ⟨v1, e_v1, hy⟩ := gBd hy
    refine g_getI K fl_c1_40 d_c1_thirstOfAll_6 e_v1 ?_
    refine g_icmp_ge K d_c1_thirstOfAll_9 (fun c2 => ?_) (fun c2 => ?_)
    · rw [if_pos c2] at hy
      refine g_sub (ls2 := [(1, .int x1)]) [1] rfl ?_
      obtain rfl := Option.some.inj hy
      exact hE
    · rw [if_neg c2] at hy
      refine g_iload_n K d_c1_thirstOfAll_12 1 rfl ?_
      refine g_aload_n K d_c1_thirstOfAll_13 0 rfl ?_
      obtain ⟨v3, e_v3, hy⟩ := gBd hy
      refine g_getR K fl_c1_22 d_c1_thirstOfAll_14 e_v3 ?_
      refine g_iload_n K d_c1_thirstOfAll_17 2 rfl ?_
      obtain ⟨v4, e_v4, hy⟩ := gBd hy
      refine g_iald K d_c1_thirstOfAll_18 e_v4 ?_
      refine g_iadd K d_c1_thirstOfAll_19 ?_
      refine g_istore_n (ls2 := [(1, .int (x1 + v4)), (0, .ref a0), (2, .int x2)]) K d_c1_thirstOfAll_20 rfl rfl ?_
      refine g_iinc (ls2 := [(2, .int (x2 + (1 : Int32))), (1, .int (x1 + v4)), (0, .ref a0)]) (v := 1) K d_c1_thirstOfAll_21 2 rfl (by decide) rfl rfl ?_
      refine g_goto K d_c1_thirstOfAll_24 ?_
      refine g_sub (ls2 := [(0, .ref a0), (1, .int (x1 + v4)), (2, .int (x2 + (1 : Int32)))]) [2, 1, 0] rfl ?_
      exact ih _ _ _ hy hE
set_option maxHeartbeats 4000000 in
set_option maxRecDepth 100000 in
theorem ct_c1_thirstOfAll (l : Launch) (X : gX) (hx : gEx X = false) (N : Nat) (a0 : Nat) (h : gH) (q : Int32) (hy : f_c1_thirstOfAll N a0 h = some q) : gRc y_c1_thirstOfAll h a0 ∧ gMi l X y_c1_thirstOfAll b_c1_thirstOfAll 3 .int (1 + N) 0 0 [.ref a0] h q h := by
  unfold f_c1_thirstOfAll at hy
  obtain ⟨u0, e_u0, hy⟩ := gBd hy
  cases u0
  refine ⟨Or.inl ⟨1, _, _, e_u0, rfl⟩, gMet_i (lsx := [(0, .ref a0)]) (by decide) rfl rfl ?_⟩
  intro M hMl K hret
  subst hMl
  refine g_iconst (v := 0) K d_c1_thirstOfAll_0 (by decide) ?_
  refine g_istore_n (ls2 := [(1, .int (0 : Int32)), (0, .ref a0)]) K d_c1_thirstOfAll_1 rfl rfl ?_
  refine g_iconst (v := 0) K d_c1_thirstOfAll_2 (by decide) ?_
  refine g_istore_n (ls2 := [(2, .int (0 : Int32)), (1, .int (0 : Int32)), (0, .ref a0)]) K d_c1_thirstOfAll_3 rfl rfl ?_
  obtain ⟨o5, e_o5, hy⟩ := gBd hy
  refine g_sub (ls2 := [(0, .ref a0), (1, .int (0 : Int32)), (2, .int (0 : Int32))]) [2, 1, 0] rfl ?_
  refine wlp_c1_thirstOfAll_4 hx K a0 h N (0 : Int32) (0 : Int32) o5 e_o5 ?_
  refine g_iload_n K d_c1_thirstOfAll_27 0 rfl ?_
  obtain rfl := Option.some.inj hy
  exact hret rfl _ _ _ d_c1_thirstOfAll_28
-- c2 greatest
theorem d_c2_greatest_0 : gD b_c2_greatest 0 (.iload_n 1) 1 1 := ⟨by decide +kernel, rfl⟩
theorem d_c2_greatest_1 : decode b_c2_greatest 1 = .ok ((.tableswitch 35 0 2 #[27, 30, 32]), 27) := by decide +kernel
theorem d_c2_greatest_28 : gD b_c2_greatest 28 (.bipush 9) 2 30 := ⟨by decide +kernel, rfl⟩
theorem d_c2_greatest_30 : gD b_c2_greatest 30 .ireturn 1 31 := ⟨by decide +kernel, rfl⟩
theorem d_c2_greatest_31 : gD b_c2_greatest 31 (.iconst 1) 1 32 := ⟨by decide +kernel, rfl⟩
theorem d_c2_greatest_32 : gD b_c2_greatest 32 .ireturn 1 33 := ⟨by decide +kernel, rfl⟩
theorem d_c2_greatest_33 : gD b_c2_greatest 33 (.bipush 99) 2 35 := ⟨by decide +kernel, rfl⟩
theorem d_c2_greatest_35 : gD b_c2_greatest 35 .ireturn 1 36 := ⟨by decide +kernel, rfl⟩
theorem d_c2_greatest_36 : gD b_c2_greatest 36 (.iconst 5) 1 37 := ⟨by decide +kernel, rfl⟩
theorem d_c2_greatest_37 : gD b_c2_greatest 37 .ireturn 1 38 := ⟨by decide +kernel, rfl⟩
def f_c2_greatest (N : Nat) (a0 : Nat) (x1 : Int32) (h : gH) : Option (Int32) :=
  (gcl h a0 2).bind fun _ =>
  if x1 = (0 : Int32) then
    some (9 : Int32)
  else
    if x1 = (1 : Int32) then
    some (1 : Int32)
  else
    if x1 = (2 : Int32) then
    some (99 : Int32)
  else
    some (5 : Int32)
set_option maxHeartbeats 4000000 in
set_option maxRecDepth 100000 in
theorem ct_c2_greatest (l : Launch) (X : gX) (hx : gEx X = false) (N : Nat) (a0 : Nat) (x1 : Int32) (h : gH) (q : Int32) (hy : f_c2_greatest N a0 x1 h = some q) : gRc y_c2_greatest h a0 ∧ gMi l X y_c2_greatest b_c2_greatest 2 .int (1 + N) 0 0 [.ref a0, .int x1] h q h := by
  unfold f_c2_greatest at hy
  obtain ⟨u0, e_u0, hy⟩ := gBd hy
  cases u0
  refine ⟨Or.inl ⟨2, _, _, e_u0, rfl⟩, gMet_i (lsx := [(0, .ref a0), (1, .int x1)]) (by decide) rfl rfl ?_⟩
  intro M hMl K hret
  subst hMl
  refine g_iload_n K d_c2_greatest_0 1 rfl ?_
  by_cases c1 : x1 = (0 : Int32)
  · rw [if_pos c1] at hy
    refine g_tabIn (v := (0 : Int32)) (off := 27) (tgt := 28) K d_c2_greatest_1 c1 (by decide) (by decide) (by decide +kernel) (by decide) ?_
    refine g_bipush (v := 9) K d_c2_greatest_28 (by decide) ?_
    obtain rfl := Option.some.inj hy
    exact hret rfl _ _ _ d_c2_greatest_30
  rw [if_neg c1] at hy
  by_cases c2 : x1 = (1 : Int32)
  · rw [if_pos c2] at hy
    refine g_tabIn (v := (1 : Int32)) (off := 30) (tgt := 31) K d_c2_greatest_1 c2 (by decide) (by decide) (by decide +kernel) (by decide) ?_
    refine g_iconst (v := 1) K d_c2_greatest_31 (by decide) ?_
    obtain rfl := Option.some.inj hy
    exact hret rfl _ _ _ d_c2_greatest_32
  rw [if_neg c2] at hy
  by_cases c3 : x1 = (2 : Int32)
  · rw [if_pos c3] at hy
    refine g_tabIn (v := (2 : Int32)) (off := 32) (tgt := 33) K d_c2_greatest_1 c3 (by decide) (by decide) (by decide +kernel) (by decide) ?_
    refine g_bipush (v := 99) K d_c2_greatest_33 (by decide) ?_
    obtain rfl := Option.some.inj hy
    exact hret rfl _ _ _ d_c2_greatest_35
  rw [if_neg c3] at hy
  refine g_tabD (tgt := 36) [(0 : Int32), (1 : Int32), (2 : Int32)] K d_c2_greatest_1 (List.forall_mem_cons.mpr ⟨c1, (List.forall_mem_cons.mpr ⟨c2, (List.forall_mem_cons.mpr ⟨c3, (fun _ h => absurd h List.not_mem_nil)⟩)⟩)⟩) (by decide +kernel) (by decide) ?_
  refine g_iconst (v := 5) K d_c2_greatest_36 (by decide) ?_
  obtain rfl := Option.some.inj hy
  exact hret rfl _ _ _ d_c2_greatest_37
-- c2 least
theorem d_c2_least_0 : gD b_c2_least 0 (.iload_n 1) 1 1 := ⟨by decide +kernel, rfl⟩
theorem d_c2_least_1 : gJ b_c2_least 1 (.ifCond .ne 7) 3 7 4 8 := ⟨by decide +kernel, rfl, by decide⟩
theorem d_c2_least_4 : gD b_c2_least 4 (.iconst 1) 1 5 := ⟨by decide +kernel, rfl⟩
theorem d_c2_least_5 : gJ b_c2_least 5 (.goto 4) 3 4 8 9 := ⟨by decide +kernel, rfl, by decide⟩
theorem d_c2_least_8 : gD b_c2_least 8 (.iconst 0) 1 9 := ⟨by decide +kernel, rfl⟩
theorem d_c2_least_9 : gD b_c2_least 9 .ireturn 1 10 := ⟨by decide +kernel, rfl⟩
def f_c2_least (N : Nat) (a0 : Nat) (x1 : Int32) (h : gH) : Option (Int32) :=
  (gcl h a0 2).bind fun _ =>
  some (if x1 = 0 then (1 : Int32) else (0 : Int32))
set_option maxHeartbeats 4000000 in
set_option maxRecDepth 100000 in
theorem ct_c2_least (l : Launch) (X : gX) (hx : gEx X = false) (N : Nat) (a0 : Nat) (x1 : Int32) (h : gH) (q : Int32) (hy : f_c2_least N a0 x1 h = some q) : gRc y_c2_least h a0 ∧ gMi l X y_c2_least b_c2_least 2 .int (1 + N) 0 0 [.ref a0, .int x1] h q h := by
  unfold f_c2_least at hy
  obtain ⟨u0, e_u0, hy⟩ := gBd hy
  cases u0
  refine ⟨Or.inl ⟨2, _, _, e_u0, rfl⟩, gMet_i (lsx := [(0, .ref a0), (1, .int x1)]) (by decide) rfl rfl ?_⟩
  intro M hMl K hret
  subst hMl
  refine g_iload_n K d_c2_least_0 1 rfl ?_
  have hJ3 : ∀ w2 : Int32, w2 = (if x1 = 0 then (1 : Int32) else (0 : Int32)) → gG M X 2 0 0 9 [(0, .ref a0), (1, .int x1)] [.int w2] h := by
    intro w2 e_w2
    subst e_w2
    obtain rfl := Option.some.inj hy
    exact hret rfl _ _ _ d_c2_least_9
  refine g_if_ne K d_c2_least_1 (fun c1 => ?_) (fun c1 => ?_)
  · refine g_iconst (v := 0) K d_c2_least_8 (by decide) ?_
    exact hJ3 _ (by rw [if_neg c1])
  · refine g_iconst (v := 1) K d_c2_least_4 (by decide) ?_
    refine g_goto K d_c2_least_5 ?_
    exact hJ3 _ (by rw [if_pos c1])
-- c3 begin
theorem d_c3_begin_0 : gD b_c3_begin 0 (.aload_n 0) 1 1 := ⟨by decide +kernel, rfl⟩
theorem d_c3_begin_1 : gD b_c3_begin 1 (.iload_n 1) 1 2 := ⟨by decide +kernel, rfl⟩
theorem d_c3_begin_2 : gD b_c3_begin 2 (.putfield 7) 3 5 := ⟨by decide +kernel, rfl⟩
theorem d_c3_begin_5 : gD b_c3_begin 5 .return_ 1 6 := ⟨by decide +kernel, rfl⟩
def f_c3_begin (N : Nat) (a0 : Nat) (x1 : Int32) (h : gH) : Option (gH) :=
  (gcl h a0 3).bind fun _ =>
  (sf h a0 3 0 (.int x1)).bind fun h1 =>
    some h1
set_option maxHeartbeats 4000000 in
set_option maxRecDepth 100000 in
theorem ct_c3_begin (l : Launch) (X : gX) (hx : gEx X = false) (N : Nat) (a0 : Nat) (x1 : Int32) (h : gH) (q : gH) (hy : f_c3_begin N a0 x1 h = some q) : gRc y_c3_begin h a0 ∧ gMv l X y_c3_begin b_c3_begin 2 (1 + N) 0 0 [.ref a0, .int x1] h q := by
  unfold f_c3_begin at hy
  obtain ⟨u0, e_u0, hy⟩ := gBd hy
  cases u0
  refine ⟨Or.inl ⟨3, _, _, e_u0, rfl⟩, gMet_v (lsx := [(0, .ref a0), (1, .int x1)]) (by decide) rfl rfl ?_⟩
  intro M hMl K hret
  subst hMl
  refine g_aload_n K d_c3_begin_0 0 rfl ?_
  refine g_iload_n K d_c3_begin_1 1 rfl ?_
  obtain ⟨h1, e_h1, hy⟩ := gBd hy
  refine g_putI K fp_c3_7 d_c3_begin_2 e_h1 ?_
  obtain rfl := Option.some.inj hy
  exact hret _ _ _ d_c3_begin_5
-- c3 drawn
theorem d_c3_drawn_0 : gD b_c3_drawn 0 (.aload_n 0) 1 1 := ⟨by decide +kernel, rfl⟩
theorem d_c3_drawn_1 : gD b_c3_drawn 1 (.aload_n 0) 1 2 := ⟨by decide +kernel, rfl⟩
theorem d_c3_drawn_2 : gD b_c3_drawn 2 (.getfield 7) 3 5 := ⟨by decide +kernel, rfl⟩
theorem d_c3_drawn_5 : gD b_c3_drawn 5 (.ldc 13) 2 7 := ⟨by decide +kernel, rfl⟩
theorem d_c3_drawn_7 : gD b_c3_drawn 7 .imul 1 8 := ⟨by decide +kernel, rfl⟩
theorem d_c3_drawn_8 : gD b_c3_drawn 8 (.sipush 12345) 3 11 := ⟨by decide +kernel, rfl⟩
theorem d_c3_drawn_11 : gD b_c3_drawn 11 .iadd 1 12 := ⟨by decide +kernel, rfl⟩
theorem d_c3_drawn_12 : gD b_c3_drawn 12 (.putfield 7) 3 15 := ⟨by decide +kernel, rfl⟩
theorem d_c3_drawn_15 : gD b_c3_drawn 15 (.iload_n 1) 1 16 := ⟨by decide +kernel, rfl⟩
theorem d_c3_drawn_16 : gJ b_c3_drawn 16 (.ifCond .le 15) 3 15 19 31 := ⟨by decide +kernel, rfl, by decide⟩
theorem d_c3_drawn_19 : gD b_c3_drawn 19 (.aload_n 0) 1 20 := ⟨by decide +kernel, rfl⟩
theorem d_c3_drawn_20 : gD b_c3_drawn 20 (.getfield 7) 3 23 := ⟨by decide +kernel, rfl⟩
theorem d_c3_drawn_23 : gD b_c3_drawn 23 (.bipush 16) 2 25 := ⟨by decide +kernel, rfl⟩
theorem d_c3_drawn_25 : gD b_c3_drawn 25 .iushr 1 26 := ⟨by decide +kernel, rfl⟩
theorem d_c3_drawn_26 : gD b_c3_drawn 26 (.iload_n 1) 1 27 := ⟨by decide +kernel, rfl⟩
theorem d_c3_drawn_27 : gD b_c3_drawn 27 .irem 1 28 := ⟨by decide +kernel, rfl⟩
theorem d_c3_drawn_28 : gJ b_c3_drawn 28 (.goto 4) 3 4 31 32 := ⟨by decide +kernel, rfl, by decide⟩
theorem d_c3_drawn_31 : gD b_c3_drawn 31 (.iconst 0) 1 32 := ⟨by decide +kernel, rfl⟩
theorem d_c3_drawn_32 : gD b_c3_drawn 32 .ireturn 1 33 := ⟨by decide +kernel, rfl⟩
def f_c3_drawn (N : Nat) (a0 : Nat) (x1 : Int32) (h : gH) : Option (Int32 × gH) :=
  (gcl h a0 3).bind fun _ =>
  (gfI h a0 3 0).bind fun v1 =>
    (sf h a0 3 0 (.int ((v1 * (1103515245 : Int32)) + (12345 : Int32)))).bind fun h2 =>
    (show Option (Int32) from if x1 ≤ 0 then
    some (0 : Int32)
  else
    (gfI h2 a0 3 0).bind fun v6 =>
    (gNZ x1).bind fun u7 =>
    some (((v6.toUInt32 >>> ((16 : Int32).toUInt32 &&& Int32.toUInt32 31)).toInt32) - ((v6.toUInt32 >>> ((16 : Int32).toUInt32 &&& Int32.toUInt32 31)).toInt32) / x1 * x1)).bind fun t4 =>
    some (t4, h2)
set_option maxHeartbeats 4000000 in
set_option maxRecDepth 100000 in
theorem ct_c3_drawn (l : Launch) (X : gX) (hx : gEx X = false) (N : Nat) (a0 : Nat) (x1 : Int32) (h : gH) (q : Int32 × gH) (hy : f_c3_drawn N a0 x1 h = some q) : gRc y_c3_drawn h a0 ∧ gMi l X y_c3_drawn b_c3_drawn 2 .int (1 + N) 0 0 [.ref a0, .int x1] h q.1 q.2 := by
  unfold f_c3_drawn at hy
  obtain ⟨u0, e_u0, hy⟩ := gBd hy
  cases u0
  refine ⟨Or.inl ⟨3, _, _, e_u0, rfl⟩, gMet_i (lsx := [(0, .ref a0), (1, .int x1)]) (by decide) rfl rfl ?_⟩
  intro M hMl K hret
  subst hMl
  refine g_aload_n K d_c3_drawn_0 0 rfl ?_
  refine g_aload_n K d_c3_drawn_1 0 rfl ?_
  obtain ⟨v1, e_v1, hy⟩ := gBd hy
  refine g_getI K fl_c3_7 d_c3_drawn_2 e_v1 ?_
  refine g_ldc (v := 1103515245) K d_c3_drawn_5 (gTk_4 233 rfl rfl) ?_
  refine g_imul K d_c3_drawn_7 ?_
  refine g_sipush (v := 12345) K d_c3_drawn_8 (by decide) ?_
  refine g_iadd K d_c3_drawn_11 ?_
  obtain ⟨h2, e_h2, hy⟩ := gBd hy
  refine g_putI K fp_c3_7 d_c3_drawn_12 e_h2 ?_
  refine g_iload_n K d_c3_drawn_15 1 rfl ?_
  obtain ⟨t4, e_t4, hy⟩ := gBd hy
  have hJ5 : gG M X 2 0 0 32 [] [.int t4] h2 := by
    obtain rfl := Option.some.inj hy
    exact hret rfl _ _ _ d_c3_drawn_32
  refine g_if_le K d_c3_drawn_16 (fun c3 => ?_) (fun c3 => ?_)
  · rw [if_pos c3] at e_t4
    refine g_iconst (v := 0) K d_c3_drawn_31 (by decide) ?_
    refine g_sub (ls2 := []) [] rfl ?_
    obtain rfl := Option.some.inj e_t4
    exact hJ5
  · rw [if_neg c3] at e_t4
    refine g_aload_n K d_c3_drawn_19 0 rfl ?_
    obtain ⟨v6, e_v6, e_t4⟩ := gBd e_t4
    refine g_getI K fl_c3_7 d_c3_drawn_20 e_v6 ?_
    refine g_bipush (v := 16) K d_c3_drawn_23 (by decide) ?_
    refine g_iushr K d_c3_drawn_25 ?_
    refine g_iload_n K d_c3_drawn_26 1 rfl ?_
    obtain ⟨u7, e_u7, e_t4⟩ := gBd e_t4
    refine g_irem K d_c3_drawn_27 e_u7 ?_
    refine g_goto K d_c3_drawn_28 ?_
    refine g_sub (ls2 := []) [] rfl ?_
    obtain rfl := Option.some.inj e_t4
    exact hJ5
-- c4 add
theorem d_c4_add_0 : gD b_c4_add 0 (.aload_n 0) 1 1 := ⟨by decide +kernel, rfl⟩
theorem d_c4_add_1 : gD b_c4_add 1 (.getfield 15) 3 4 := ⟨by decide +kernel, rfl⟩
theorem d_c4_add_4 : gD b_c4_add 4 (.aload_n 0) 1 5 := ⟨by decide +kernel, rfl⟩
theorem d_c4_add_5 : gD b_c4_add 5 (.getfield 9) 3 8 := ⟨by decide +kernel, rfl⟩
theorem d_c4_add_8 : gD b_c4_add 8 .arraylength 1 9 := ⟨by decide +kernel, rfl⟩
theorem d_c4_add_9 : gJ b_c4_add 9 (.if_icmp .ge 23) 3 23 12 32 := ⟨by decide +kernel, rfl, by decide⟩
theorem d_c4_add_12 : gD b_c4_add 12 (.aload_n 0) 1 13 := ⟨by decide +kernel, rfl⟩
theorem d_c4_add_13 : gD b_c4_add 13 (.getfield 9) 3 16 := ⟨by decide +kernel, rfl⟩
theorem d_c4_add_16 : gD b_c4_add 16 (.aload_n 0) 1 17 := ⟨by decide +kernel, rfl⟩
theorem d_c4_add_17 : gD b_c4_add 17 (.getfield 15) 3 20 := ⟨by decide +kernel, rfl⟩
theorem d_c4_add_20 : gD b_c4_add 20 (.lload_n 1) 1 21 := ⟨by decide +kernel, rfl⟩
theorem d_c4_add_21 : gD b_c4_add 21 .lastore 1 22 := ⟨by decide +kernel, rfl⟩
theorem d_c4_add_22 : gD b_c4_add 22 (.aload_n 0) 1 23 := ⟨by decide +kernel, rfl⟩
theorem d_c4_add_23 : gD b_c4_add 23 .dup 1 24 := ⟨by decide +kernel, rfl⟩
theorem d_c4_add_24 : gD b_c4_add 24 (.getfield 15) 3 27 := ⟨by decide +kernel, rfl⟩
theorem d_c4_add_27 : gD b_c4_add 27 (.iconst 1) 1 28 := ⟨by decide +kernel, rfl⟩
theorem d_c4_add_28 : gD b_c4_add 28 .iadd 1 29 := ⟨by decide +kernel, rfl⟩
theorem d_c4_add_29 : gD b_c4_add 29 (.putfield 15) 3 32 := ⟨by decide +kernel, rfl⟩
theorem d_c4_add_32 : gD b_c4_add 32 .return_ 1 33 := ⟨by decide +kernel, rfl⟩
def f_c4_add (N : Nat) (a0 : Nat) (y1 : Int64) (h : gH) : Option (gH) :=
  (gcl h a0 4).bind fun _ =>
  (gfI h a0 4 1).bind fun v1 =>
    (gfR h a0 4 0).bind fun v2 =>
    (gn h v2).bind fun v3 =>
    (show Option (gH) from if v3 ≤ v1 then
    some h
  else
    (gfR h a0 4 0).bind fun v7 =>
    (gfI h a0 4 1).bind fun v8 =>
    (saL h v7 v8 y1).bind fun h9 =>
    (gfI h9 a0 4 1).bind fun v10 =>
    (sf h9 a0 4 1 (.int (v10 + (1 : Int32)))).bind fun h11 =>
    some h11).bind fun t5 =>
    some t5
set_option maxHeartbeats 4000000 in
set_option maxRecDepth 100000 in
theorem ct_c4_add (l : Launch) (X : gX) (hx : gEx X = false) (N : Nat) (a0 : Nat) (y1 : Int64) (h : gH) (q : gH) (hy : f_c4_add N a0 y1 h = some q) : gRc y_c4_add h a0 ∧ gMv l X y_c4_add b_c4_add 3 (1 + N) 0 0 [.ref a0, .long y1] h q := by
  unfold f_c4_add at hy
  obtain ⟨u0, e_u0, hy⟩ := gBd hy
  cases u0
  refine ⟨Or.inl ⟨4, _, _, e_u0, rfl⟩, gMet_v (lsx := [(0, .ref a0), (1, .long y1)]) (by decide) rfl rfl ?_⟩
  intro M hMl K hret
  subst hMl
  refine g_aload_n K d_c4_add_0 0 rfl ?_
  obtain ⟨v1, e_v1, hy⟩ := gBd hy
  refine g_getI K fl_c4_15 d_c4_add_1 e_v1 ?_
  refine g_aload_n K d_c4_add_4 0 rfl ?_
  obtain ⟨v2, e_v2, hy⟩ := gBd hy
  refine g_getR K fl_c4_9 d_c4_add_5 e_v2 ?_
  obtain ⟨v3, e_v3, hy⟩ := gBd hy
  refine g_alen K d_c4_add_8 e_v3 ?_
  obtain ⟨t5, e_t5, hy⟩ := gBd hy
  have hJ6 : gG M X 3 0 0 32 [] [] t5 := by
    obtain rfl := Option.some.inj hy
    exact hret _ _ _ d_c4_add_32
  refine g_icmp_ge K d_c4_add_9 (fun c4 => ?_) (fun c4 => ?_)
  · rw [if_pos c4] at e_t5
    refine g_sub (ls2 := []) [] rfl ?_
    obtain rfl := Option.some.inj e_t5
    exact hJ6
  · rw [if_neg c4] at e_t5
    refine g_aload_n K d_c4_add_12 0 rfl ?_
    obtain ⟨v7, e_v7, e_t5⟩ := gBd e_t5
    refine g_getR K fl_c4_9 d_c4_add_13 e_v7 ?_
    refine g_aload_n K d_c4_add_16 0 rfl ?_
    obtain ⟨v8, e_v8, e_t5⟩ := gBd e_t5
    refine g_getI K fl_c4_15 d_c4_add_17 e_v8 ?_
    refine g_lload_n K d_c4_add_20 1 rfl ?_
    obtain ⟨h9, e_h9, e_t5⟩ := gBd e_t5
    refine g_last K d_c4_add_21 e_h9 ?_
    refine g_aload_n K d_c4_add_22 0 rfl ?_
    refine g_dup K d_c4_add_23 rfl ?_
    obtain ⟨v10, e_v10, e_t5⟩ := gBd e_t5
    refine g_getI K fl_c4_15 d_c4_add_24 e_v10 ?_
    refine g_iconst (v := 1) K d_c4_add_27 (by decide) ?_
    refine g_iadd K d_c4_add_28 ?_
    obtain ⟨h11, e_h11, e_t5⟩ := gBd e_t5
    refine g_putI K fp_c4_15 d_c4_add_29 e_h11 ?_
    refine g_sub (ls2 := []) [] rfl ?_
    obtain rfl := Option.some.inj e_t5
    exact hJ6
-- c4 clear
theorem d_c4_clear_0 : gD b_c4_clear 0 (.aload_n 0) 1 1 := ⟨by decide +kernel, rfl⟩
theorem d_c4_clear_1 : gD b_c4_clear 1 (.iconst 0) 1 2 := ⟨by decide +kernel, rfl⟩
theorem d_c4_clear_2 : gD b_c4_clear 2 (.putfield 15) 3 5 := ⟨by decide +kernel, rfl⟩
theorem d_c4_clear_5 : gD b_c4_clear 5 .return_ 1 6 := ⟨by decide +kernel, rfl⟩
def f_c4_clear (N : Nat) (a0 : Nat) (h : gH) : Option (gH) :=
  (gcl h a0 4).bind fun _ =>
  (sf h a0 4 1 (.int (0 : Int32))).bind fun h1 =>
    some h1
set_option maxHeartbeats 4000000 in
set_option maxRecDepth 100000 in
theorem ct_c4_clear (l : Launch) (X : gX) (hx : gEx X = false) (N : Nat) (a0 : Nat) (h : gH) (q : gH) (hy : f_c4_clear N a0 h = some q) : gRc y_c4_clear h a0 ∧ gMv l X y_c4_clear b_c4_clear 1 (1 + N) 0 0 [.ref a0] h q := by
  unfold f_c4_clear at hy
  obtain ⟨u0, e_u0, hy⟩ := gBd hy
  cases u0
  refine ⟨Or.inl ⟨4, _, _, e_u0, rfl⟩, gMet_v (lsx := [(0, .ref a0)]) (by decide) rfl rfl ?_⟩
  intro M hMl K hret
  subst hMl
  refine g_aload_n K d_c4_clear_0 0 rfl ?_
  refine g_iconst (v := 0) K d_c4_clear_1 (by decide) ?_
  obtain ⟨h1, e_h1, hy⟩ := gBd hy
  refine g_putI K fp_c4_15 d_c4_clear_2 e_h1 ?_
  obtain rfl := Option.some.inj hy
  exact hret _ _ _ d_c4_clear_5
-- c4 set
theorem d_c4_set_0 : gD b_c4_set 0 (.iload_n 1) 1 1 := ⟨by decide +kernel, rfl⟩
theorem d_c4_set_1 : gJ b_c4_set 1 (.ifCond .lt 18) 3 18 4 19 := ⟨by decide +kernel, rfl, by decide⟩
theorem d_c4_set_4 : gD b_c4_set 4 (.iload_n 1) 1 5 := ⟨by decide +kernel, rfl⟩
theorem d_c4_set_5 : gD b_c4_set 5 (.aload_n 0) 1 6 := ⟨by decide +kernel, rfl⟩
theorem d_c4_set_6 : gD b_c4_set 6 (.getfield 15) 3 9 := ⟨by decide +kernel, rfl⟩
theorem d_c4_set_9 : gJ b_c4_set 9 (.if_icmp .ge 10) 3 10 12 19 := ⟨by decide +kernel, rfl, by decide⟩
theorem d_c4_set_12 : gD b_c4_set 12 (.aload_n 0) 1 13 := ⟨by decide +kernel, rfl⟩
theorem d_c4_set_13 : gD b_c4_set 13 (.getfield 9) 3 16 := ⟨by decide +kernel, rfl⟩
theorem d_c4_set_16 : gD b_c4_set 16 (.iload_n 1) 1 17 := ⟨by decide +kernel, rfl⟩
theorem d_c4_set_17 : gD b_c4_set 17 (.lload_n 2) 1 18 := ⟨by decide +kernel, rfl⟩
theorem d_c4_set_18 : gD b_c4_set 18 .lastore 1 19 := ⟨by decide +kernel, rfl⟩
theorem d_c4_set_19 : gD b_c4_set 19 .return_ 1 20 := ⟨by decide +kernel, rfl⟩
def f_c4_set (N : Nat) (a0 : Nat) (x1 : Int32) (y2 : Int64) (h : gH) : Option (gH) :=
  (gcl h a0 4).bind fun _ =>
  (show Option (gH) from if x1 < 0 then
    some h
  else
    (gfI h a0 4 1).bind fun v4 =>
    if v4 ≤ x1 then
    some h
  else
    (gfR h a0 4 0).bind fun v6 =>
    (saL h v6 x1 y2).bind fun h7 =>
    some h7).bind fun t2 =>
    some t2
set_option maxHeartbeats 4000000 in
set_option maxRecDepth 100000 in
theorem ct_c4_set (l : Launch) (X : gX) (hx : gEx X = false) (N : Nat) (a0 : Nat) (x1 : Int32) (y2 : Int64) (h : gH) (q : gH) (hy : f_c4_set N a0 x1 y2 h = some q) : gRc y_c4_set h a0 ∧ gMv l X y_c4_set b_c4_set 4 (1 + N) 0 0 [.ref a0, .int x1, .long y2] h q := by
  unfold f_c4_set at hy
  obtain ⟨u0, e_u0, hy⟩ := gBd hy
  cases u0
  refine ⟨Or.inl ⟨4, _, _, e_u0, rfl⟩, gMet_v (lsx := [(0, .ref a0), (1, .int x1), (2, .long y2)]) (by decide) rfl rfl ?_⟩
  intro M hMl K hret
  subst hMl
  refine g_iload_n K d_c4_set_0 1 rfl ?_
  obtain ⟨t2, e_t2, hy⟩ := gBd hy
  have hJ3 : gG M X 4 0 0 19 [] [] t2 := by
    obtain rfl := Option.some.inj hy
    exact hret _ _ _ d_c4_set_19
  refine g_if_lt K d_c4_set_1 (fun c1 => ?_) (fun c1 => ?_)
  · rw [if_pos c1] at e_t2
    refine g_sub (ls2 := []) [] rfl ?_
    obtain rfl := Option.some.inj e_t2
    exact hJ3
  · rw [if_neg c1] at e_t2
    refine g_iload_n K d_c4_set_4 1 rfl ?_
    refine g_aload_n K d_c4_set_5 0 rfl ?_
    obtain ⟨v4, e_v4, e_t2⟩ := gBd e_t2
    refine g_getI K fl_c4_15 d_c4_set_6 e_v4 ?_
    refine g_icmp_ge K d_c4_set_9 (fun c5 => ?_) (fun c5 => ?_)
    · rw [if_pos c5] at e_t2
      refine g_sub (ls2 := []) [] rfl ?_
      obtain rfl := Option.some.inj e_t2
      exact hJ3
    · rw [if_neg c5] at e_t2
      refine g_aload_n K d_c4_set_12 0 rfl ?_
      obtain ⟨v6, e_v6, e_t2⟩ := gBd e_t2
      refine g_getR K fl_c4_9 d_c4_set_13 e_v6 ?_
      refine g_iload_n K d_c4_set_16 1 rfl ?_
      refine g_lload_n K d_c4_set_17 2 rfl ?_
      obtain ⟨h7, e_h7, e_t2⟩ := gBd e_t2
      refine g_last K d_c4_set_18 e_h7 ?_
      refine g_sub (ls2 := []) [] rfl ?_
      obtain rfl := Option.some.inj e_t2
      exact hJ3
-- c5 forgetAll
theorem d_c5_forgetAll_0 : gD b_c5_forgetAll 0 (.aload_n 0) 1 1 := ⟨by decide +kernel, rfl⟩
theorem d_c5_forgetAll_1 : gD b_c5_forgetAll 1 (.iconst 0) 1 2 := ⟨by decide +kernel, rfl⟩
theorem d_c5_forgetAll_2 : gD b_c5_forgetAll 2 (.putfield 25) 3 5 := ⟨by decide +kernel, rfl⟩
theorem d_c5_forgetAll_5 : gD b_c5_forgetAll 5 (.iconst 0) 1 6 := ⟨by decide +kernel, rfl⟩
theorem d_c5_forgetAll_6 : gD b_c5_forgetAll 6 (.istore_n 1) 1 7 := ⟨by decide +kernel, rfl⟩
theorem d_c5_forgetAll_7 : gD b_c5_forgetAll 7 (.iload_n 1) 1 8 := ⟨by decide +kernel, rfl⟩
theorem d_c5_forgetAll_8 : gD b_c5_forgetAll 8 (.iconst 2) 1 9 := ⟨by decide +kernel, rfl⟩
theorem d_c5_forgetAll_9 : gJ b_c5_forgetAll 9 (.if_icmp .ge 16) 3 16 12 25 := ⟨by decide +kernel, rfl, by decide⟩
theorem d_c5_forgetAll_12 : gD b_c5_forgetAll 12 (.aload_n 0) 1 13 := ⟨by decide +kernel, rfl⟩
theorem d_c5_forgetAll_13 : gD b_c5_forgetAll 13 (.getfield 20) 3 16 := ⟨by decide +kernel, rfl⟩
theorem d_c5_forgetAll_16 : gD b_c5_forgetAll 16 (.iload_n 1) 1 17 := ⟨by decide +kernel, rfl⟩
theorem d_c5_forgetAll_17 : gD b_c5_forgetAll 17 (.iconst 0) 1 18 := ⟨by decide +kernel, rfl⟩
theorem d_c5_forgetAll_18 : gD b_c5_forgetAll 18 .bastore 1 19 := ⟨by decide +kernel, rfl⟩
theorem d_c5_forgetAll_19 : gD b_c5_forgetAll 19 (.iinc 1 1) 3 22 := ⟨by decide +kernel, rfl⟩
theorem d_c5_forgetAll_22 : gJ b_c5_forgetAll 22 (.goto (-15)) 3 (-15) 25 7 := ⟨by decide +kernel, rfl, by decide⟩
theorem d_c5_forgetAll_25 : gD b_c5_forgetAll 25 .return_ 1 26 := ⟨by decide +kernel, rfl⟩
def lp_c5_forgetAll_7 (N : Nat) (a0 : Nat) : Nat → Int32 → gH → Option (gH)
  | 0, _, _ => none
  | k + 1, x1, h =>
  if (2 : Int32) ≤ x1 then
    some h
  else
    (gfR h a0 5 2).bind fun v3 =>
    (saB h v3 x1 (0 : Int32)).bind fun h4 =>
    lp_c5_forgetAll_7 N a0 k (x1 + (1 : Int32)) h4
def f_c5_forgetAll (N : Nat) (a0 : Nat) (h : gH) : Option (gH) :=
  (gcl h a0 5).bind fun _ =>
  (sf h a0 5 3 (.int (0 : Int32))).bind fun h1 =>
    (lp_c5_forgetAll_7 N a0 N (0 : Int32) h1).bind fun o5 =>
    some o5
set_option maxHeartbeats 4000000 in
set_option maxRecDepth 100000 in
theorem wlp_c5_forgetAll_7 {M : gM} {X : gX} {N : Nat} (hx : gEx X = false) (K : gC M X gN5 b_c5_forgetAll 2 (gRm (1 + N) 0 0)) (a0 : Nat) : ∀ (k : Nat) (x1 : Int32) (h : gH) (o : gH), lp_c5_forgetAll_7 N a0 k x1 h = some o → gG M X 2 0 0 25 [] [] o → gG M X 2 0 0 7 [(0, .ref a0), (1, .int x1)] [] h := by
  intro k
  induction k with
  | zero =>
    intro x1 h o hy
    rw [lp_c5_forgetAll_7.eq_1] at hy
    cases hy
  | succ k ih =>
    intro x1 h o hy hE
    rw [lp_c5_forgetAll_7.eq_2] at hy
    refine g_iload_n K d_c5_forgetAll_7 1 rfl ?_
    refine g_iconst (v := 2) K d_c5_forgetAll_8 (by decide) ?_
    refine g_icmp_ge K d_c5_forgetAll_9 (fun c2 => ?_) (fun c2 => ?_)
    · rw [if_pos c2] at hy
      refine g_sub (ls2 := []) [] rfl ?_
      obtain rfl := Option.some.inj hy
      exact hE
    · rw [if_neg c2] at hy
      refine g_aload_n K d_c5_forgetAll_12 0 rfl ?_
      obtain ⟨v3, e_v3, hy⟩ := gBd hy
      refine g_getR K fl_c5_20 d_c5_forgetAll_13 e_v3 ?_
      refine g_iload_n K d_c5_forgetAll_16 1 rfl ?_
      refine g_iconst (v := 0) K d_c5_forgetAll_17 (by decide) ?_
      obtain ⟨h4, e_h4, hy⟩ := gBd hy
      refine g_bast K d_c5_forgetAll_18 e_h4 ?_
      refine g_iinc (ls2 := [(1, .int (x1 + (1 : Int32))), (0, .ref a0)]) (v := 1) K d_c5_forgetAll_19 1 rfl (by decide) rfl rfl ?_
      refine g_goto K d_c5_forgetAll_22 ?_
      refine g_sub (ls2 := [(0, .ref a0), (1, .int (x1 + (1 : Int32)))]) [1, 0] rfl ?_
      exact ih _ _ _ hy hE
set_option maxHeartbeats 4000000 in
set_option maxRecDepth 100000 in
theorem ct_c5_forgetAll (l : Launch) (X : gX) (hx : gEx X = false) (N : Nat) (a0 : Nat) (h : gH) (q : gH) (hy : f_c5_forgetAll N a0 h = some q) : gRc y_c5_forgetAll h a0 ∧ gMv l X y_c5_forgetAll b_c5_forgetAll 2 (1 + N) 0 0 [.ref a0] h q := by
  unfold f_c5_forgetAll at hy
  obtain ⟨u0, e_u0, hy⟩ := gBd hy
  cases u0
  refine ⟨Or.inl ⟨5, _, _, e_u0, rfl⟩, gMet_v (lsx := [(0, .ref a0)]) (by decide) rfl rfl ?_⟩
  intro M hMl K hret
  subst hMl
  refine g_aload_n K d_c5_forgetAll_0 0 rfl ?_
  refine g_iconst (v := 0) K d_c5_forgetAll_1 (by decide) ?_
  obtain ⟨h1, e_h1, hy⟩ := gBd hy
  refine g_putI K fp_c5_25 d_c5_forgetAll_2 e_h1 ?_
  refine g_iconst (v := 0) K d_c5_forgetAll_5 (by decide) ?_
  refine g_istore_n (ls2 := [(1, .int (0 : Int32)), (0, .ref a0)]) K d_c5_forgetAll_6 rfl rfl ?_
  obtain ⟨o5, e_o5, hy⟩ := gBd hy
  refine g_sub (ls2 := [(0, .ref a0), (1, .int (0 : Int32))]) [1, 0] rfl ?_
  refine wlp_c5_forgetAll_7 hx K a0 N (0 : Int32) h1 o5 e_o5 ?_
  obtain rfl := Option.some.inj hy
  exact hret _ _ _ d_c5_forgetAll_25
-- c6 apply
theorem d_c6_apply_0 : gD b_c6_apply 0 (.iload_n 0) 1 1 := ⟨by decide +kernel, rfl⟩
theorem d_c6_apply_1 : decode b_c6_apply 1 = .ok ((.lookupswitch 104 #[(42, 100), (43, 92), (45, 96), (60, 59), (61, 81), (62, 70)]), 59) := by decide +kernel
theorem d_c6_apply_60 : gD b_c6_apply 60 (.iload_n 1) 1 61 := ⟨by decide +kernel, rfl⟩
theorem d_c6_apply_61 : gD b_c6_apply 61 (.iload_n 2) 1 62 := ⟨by decide +kernel, rfl⟩
theorem d_c6_apply_62 : gJ b_c6_apply 62 (.if_icmp .ge 7) 3 7 65 69 := ⟨by decide +kernel, rfl, by decide⟩
theorem d_c6_apply_65 : gD b_c6_apply 65 (.iconst 1) 1 66 := ⟨by decide +kernel, rfl⟩
theorem d_c6_apply_66 : gJ b_c6_apply 66 (.goto 4) 3 4 69 70 := ⟨by decide +kernel, rfl, by decide⟩
theorem d_c6_apply_69 : gD b_c6_apply 69 (.iconst 0) 1 70 := ⟨by decide +kernel, rfl⟩
theorem d_c6_apply_70 : gD b_c6_apply 70 .ireturn 1 71 := ⟨by decide +kernel, rfl⟩
theorem d_c6_apply_71 : gD b_c6_apply 71 (.iload_n 1) 1 72 := ⟨by decide +kernel, rfl⟩
theorem d_c6_apply_72 : gD b_c6_apply 72 (.iload_n 2) 1 73 := ⟨by decide +kernel, rfl⟩
theorem d_c6_apply_73 : gJ b_c6_apply 73 (.if_icmp .le 7) 3 7 76 80 := ⟨by decide +kernel, rfl, by decide⟩
theorem d_c6_apply_76 : gD b_c6_apply 76 (.iconst 1) 1 77 := ⟨by decide +kernel, rfl⟩
theorem d_c6_apply_77 : gJ b_c6_apply 77 (.goto 4) 3 4 80 81 := ⟨by decide +kernel, rfl, by decide⟩
theorem d_c6_apply_80 : gD b_c6_apply 80 (.iconst 0) 1 81 := ⟨by decide +kernel, rfl⟩
theorem d_c6_apply_81 : gD b_c6_apply 81 .ireturn 1 82 := ⟨by decide +kernel, rfl⟩
theorem d_c6_apply_82 : gD b_c6_apply 82 (.iload_n 1) 1 83 := ⟨by decide +kernel, rfl⟩
theorem d_c6_apply_83 : gD b_c6_apply 83 (.iload_n 2) 1 84 := ⟨by decide +kernel, rfl⟩
theorem d_c6_apply_84 : gJ b_c6_apply 84 (.if_icmp .ne 7) 3 7 87 91 := ⟨by decide +kernel, rfl, by decide⟩
theorem d_c6_apply_87 : gD b_c6_apply 87 (.iconst 1) 1 88 := ⟨by decide +kernel, rfl⟩
theorem d_c6_apply_88 : gJ b_c6_apply 88 (.goto 4) 3 4 91 92 := ⟨by decide +kernel, rfl, by decide⟩
theorem d_c6_apply_91 : gD b_c6_apply 91 (.iconst 0) 1 92 := ⟨by decide +kernel, rfl⟩
theorem d_c6_apply_92 : gD b_c6_apply 92 .ireturn 1 93 := ⟨by decide +kernel, rfl⟩
theorem d_c6_apply_93 : gD b_c6_apply 93 (.iload_n 1) 1 94 := ⟨by decide +kernel, rfl⟩
theorem d_c6_apply_94 : gD b_c6_apply 94 (.iload_n 2) 1 95 := ⟨by decide +kernel, rfl⟩
theorem d_c6_apply_95 : gD b_c6_apply 95 .iadd 1 96 := ⟨by decide +kernel, rfl⟩
theorem d_c6_apply_96 : gD b_c6_apply 96 .ireturn 1 97 := ⟨by decide +kernel, rfl⟩
theorem d_c6_apply_97 : gD b_c6_apply 97 (.iload_n 1) 1 98 := ⟨by decide +kernel, rfl⟩
theorem d_c6_apply_98 : gD b_c6_apply 98 (.iload_n 2) 1 99 := ⟨by decide +kernel, rfl⟩
theorem d_c6_apply_99 : gD b_c6_apply 99 .isub 1 100 := ⟨by decide +kernel, rfl⟩
theorem d_c6_apply_100 : gD b_c6_apply 100 .ireturn 1 101 := ⟨by decide +kernel, rfl⟩
theorem d_c6_apply_101 : gD b_c6_apply 101 (.iload_n 1) 1 102 := ⟨by decide +kernel, rfl⟩
theorem d_c6_apply_102 : gD b_c6_apply 102 (.iload_n 2) 1 103 := ⟨by decide +kernel, rfl⟩
theorem d_c6_apply_103 : gD b_c6_apply 103 .imul 1 104 := ⟨by decide +kernel, rfl⟩
theorem d_c6_apply_104 : gD b_c6_apply 104 .ireturn 1 105 := ⟨by decide +kernel, rfl⟩
theorem d_c6_apply_105 : gD b_c6_apply 105 (.iload_n 2) 1 106 := ⟨by decide +kernel, rfl⟩
theorem d_c6_apply_106 : gJ b_c6_apply 106 (.ifCond .ne 7) 3 7 109 113 := ⟨by decide +kernel, rfl, by decide⟩
theorem d_c6_apply_109 : gD b_c6_apply 109 (.iconst 0) 1 110 := ⟨by decide +kernel, rfl⟩
theorem d_c6_apply_110 : gJ b_c6_apply 110 (.goto 6) 3 6 113 116 := ⟨by decide +kernel, rfl, by decide⟩
theorem d_c6_apply_113 : gD b_c6_apply 113 (.iload_n 1) 1 114 := ⟨by decide +kernel, rfl⟩
theorem d_c6_apply_114 : gD b_c6_apply 114 (.iload_n 2) 1 115 := ⟨by decide +kernel, rfl⟩
theorem d_c6_apply_115 : gD b_c6_apply 115 .idiv 1 116 := ⟨by decide +kernel, rfl⟩
theorem d_c6_apply_116 : gD b_c6_apply 116 .ireturn 1 117 := ⟨by decide +kernel, rfl⟩
def f_c6_apply (N : Nat) (x0 : Int32) (x1 : Int32) (x2 : Int32) (h : gH) : Option (Int32) :=
  if x0 = (42 : Int32) then
    some (x1 * x2)
  else
    if x0 = (43 : Int32) then
    some (x1 + x2)
  else
    if x0 = (45 : Int32) then
    some (x1 - x2)
  else
    if x0 = (60 : Int32) then
    some (if x2 ≤ x1 then (0 : Int32) else (1 : Int32))
  else
    if x0 = (61 : Int32) then
    some (if x1 = x2 then (1 : Int32) else (0 : Int32))
  else
    if x0 = (62 : Int32) then
    some (if x1 ≤ x2 then (0 : Int32) else (1 : Int32))
  else
    (show Option (Int32) from if x2 = 0 then
    some (0 : Int32)
  else
    (gNZ x2).bind fun u19 =>
    some (x1 / x2)).bind fun t17 =>
    some t17
set_option maxHeartbeats 4000000 in
set_option maxRecDepth 100000 in
theorem ct_c6_apply (l : Launch) (X : gX) (hx : gEx X = false) (N : Nat) (x0 : Int32) (x1 : Int32) (x2 : Int32) (h : gH) (q : Int32) (hy : f_c6_apply N x0 x1 x2 h = some q) : gMi l X y_c6_apply b_c6_apply 3 .int (1 + N) 0 0 [.int x0, .int x1, .int x2] h q h := by
  unfold f_c6_apply at hy
  refine gMet_i (lsx := [(0, .int x0), (1, .int x1), (2, .int x2)]) (by decide) rfl rfl ?_
  intro M hMl K hret
  subst hMl
  refine g_iload_n K d_c6_apply_0 0 rfl ?_
  by_cases c1 : x0 = (42 : Int32)
  · rw [if_pos c1] at hy
    refine g_lkIn (v := (42 : Int32)) (off := 100) (tgt := 101) K d_c6_apply_1 (by decide +kernel) c1 (by decide +kernel) (by decide) ?_
    refine g_iload_n K d_c6_apply_101 1 rfl ?_
    refine g_iload_n K d_c6_apply_102 2 rfl ?_
    refine g_imul K d_c6_apply_103 ?_
    obtain rfl := Option.some.inj hy
    exact hret rfl _ _ _ d_c6_apply_104
  rw [if_neg c1] at hy
  by_cases c2 : x0 = (43 : Int32)
  · rw [if_pos c2] at hy
    refine g_lkIn (v := (43 : Int32)) (off := 92) (tgt := 93) K d_c6_apply_1 (by decide +kernel) c2 (by decide +kernel) (by decide) ?_
    refine g_iload_n K d_c6_apply_93 1 rfl ?_
    refine g_iload_n K d_c6_apply_94 2 rfl ?_
    refine g_iadd K d_c6_apply_95 ?_
    obtain rfl := Option.some.inj hy
    exact hret rfl _ _ _ d_c6_apply_96
  rw [if_neg c2] at hy
  by_cases c3 : x0 = (45 : Int32)
  · rw [if_pos c3] at hy
    refine g_lkIn (v := (45 : Int32)) (off := 96) (tgt := 97) K d_c6_apply_1 (by decide +kernel) c3 (by decide +kernel) (by decide) ?_
    refine g_iload_n K d_c6_apply_97 1 rfl ?_
    refine g_iload_n K d_c6_apply_98 2 rfl ?_
    refine g_isub K d_c6_apply_99 ?_
    obtain rfl := Option.some.inj hy
    exact hret rfl _ _ _ d_c6_apply_100
  rw [if_neg c3] at hy
  by_cases c4 : x0 = (60 : Int32)
  · rw [if_pos c4] at hy
    refine g_lkIn (v := (60 : Int32)) (off := 59) (tgt := 60) K d_c6_apply_1 (by decide +kernel) c4 (by decide +kernel) (by decide) ?_
    refine g_iload_n K d_c6_apply_60 1 rfl ?_
    refine g_iload_n K d_c6_apply_61 2 rfl ?_
    have hJ9 : ∀ w8 : Int32, w8 = (if x2 ≤ x1 then (0 : Int32) else (1 : Int32)) → gG M X 3 0 0 70 [(0, .int x0), (1, .int x1), (2, .int x2)] [.int w8] h := by
      intro w8 e_w8
      subst e_w8
      obtain rfl := Option.some.inj hy
      exact hret rfl _ _ _ d_c6_apply_70
    refine g_icmp_ge K d_c6_apply_62 (fun c7 => ?_) (fun c7 => ?_)
    · refine g_iconst (v := 0) K d_c6_apply_69 (by decide) ?_
      exact hJ9 _ (by rw [if_pos c7])
    · refine g_iconst (v := 1) K d_c6_apply_65 (by decide) ?_
      refine g_goto K d_c6_apply_66 ?_
      exact hJ9 _ (by rw [if_neg c7])
  rw [if_neg c4] at hy
  by_cases c5 : x0 = (61 : Int32)
  · rw [if_pos c5] at hy
    refine g_lkIn (v := (61 : Int32)) (off := 81) (tgt := 82) K d_c6_apply_1 (by decide +kernel) c5 (by decide +kernel) (by decide) ?_
    refine g_iload_n K d_c6_apply_82 1 rfl ?_
    refine g_iload_n K d_c6_apply_83 2 rfl ?_
    have hJ12 : ∀ w11 : Int32, w11 = (if x1 = x2 then (1 : Int32) else (0 : Int32)) → gG M X 3 0 0 92 [(0, .int x0), (1, .int x1), (2, .int x2)] [.int w11] h := by
      intro w11 e_w11
      subst e_w11
      obtain rfl := Option.some.inj hy
      exact hret rfl _ _ _ d_c6_apply_92
    refine g_icmp_ne K d_c6_apply_84 (fun c10 => ?_) (fun c10 => ?_)
    · refine g_iconst (v := 0) K d_c6_apply_91 (by decide) ?_
      exact hJ12 _ (by rw [if_neg c10])
    · refine g_iconst (v := 1) K d_c6_apply_87 (by decide) ?_
      refine g_goto K d_c6_apply_88 ?_
      exact hJ12 _ (by rw [if_pos c10])
  rw [if_neg c5] at hy
  by_cases c6 : x0 = (62 : Int32)
  · rw [if_pos c6] at hy
    refine g_lkIn (v := (62 : Int32)) (off := 70) (tgt := 71) K d_c6_apply_1 (by decide +kernel) c6 (by decide +kernel) (by decide) ?_
    refine g_iload_n K d_c6_apply_71 1 rfl ?_
    refine g_iload_n K d_c6_apply_72 2 rfl ?_
    have hJ15 : ∀ w14 : Int32, w14 = (if x1 ≤ x2 then (0 : Int32) else (1 : Int32)) → gG M X 3 0 0 81 [(0, .int x0), (1, .int x1), (2, .int x2)] [.int w14] h := by
      intro w14 e_w14
      subst e_w14
      obtain rfl := Option.some.inj hy
      exact hret rfl _ _ _ d_c6_apply_81
    refine g_icmp_le K d_c6_apply_73 (fun c13 => ?_) (fun c13 => ?_)
    · refine g_iconst (v := 0) K d_c6_apply_80 (by decide) ?_
      exact hJ15 _ (by rw [if_pos c13])
    · refine g_iconst (v := 1) K d_c6_apply_76 (by decide) ?_
      refine g_goto K d_c6_apply_77 ?_
      exact hJ15 _ (by rw [if_neg c13])
  rw [if_neg c6] at hy
  refine g_lkD (tgt := 105) [(42 : Int32), (43 : Int32), (45 : Int32), (60 : Int32), (61 : Int32), (62 : Int32)] K d_c6_apply_1 (by decide +kernel) (List.forall_mem_cons.mpr ⟨c1, (List.forall_mem_cons.mpr ⟨c2, (List.forall_mem_cons.mpr ⟨c3, (List.forall_mem_cons.mpr ⟨c4, (List.forall_mem_cons.mpr ⟨c5, (List.forall_mem_cons.mpr ⟨c6, (fun _ h => absurd h List.not_mem_nil)⟩)⟩)⟩)⟩)⟩)⟩) (by decide +kernel) (by decide) ?_
  refine g_iload_n K d_c6_apply_105 2 rfl ?_
  obtain ⟨t17, e_t17, hy⟩ := gBd hy
  have hJ18 : gG M X 3 0 0 116 [] [.int t17] h := by
    obtain rfl := Option.some.inj hy
    exact hret rfl _ _ _ d_c6_apply_116
  refine g_if_ne K d_c6_apply_106 (fun c16 => ?_) (fun c16 => ?_)
  · rw [if_neg c16] at e_t17
    refine g_iload_n K d_c6_apply_113 1 rfl ?_
    refine g_iload_n K d_c6_apply_114 2 rfl ?_
    obtain ⟨u19, e_u19, e_t17⟩ := gBd e_t17
    refine g_idiv K d_c6_apply_115 e_u19 ?_
    refine g_sub (ls2 := []) [] rfl ?_
    obtain rfl := Option.some.inj e_t17
    exact hJ18
  · rw [if_pos c16] at e_t17
    refine g_iconst (v := 0) K d_c6_apply_109 (by decide) ?_
    refine g_goto K d_c6_apply_110 ?_
    refine g_sub (ls2 := []) [] rfl ?_
    obtain rfl := Option.some.inj e_t17
    exact hJ18
-- c6 emit
theorem d_c6_emit_0 : gD b_c6_emit 0 (.aload_n 0) 1 1 := ⟨by decide +kernel, rfl⟩
theorem d_c6_emit_1 : gD b_c6_emit 1 (.getfield 21) 3 4 := ⟨by decide +kernel, rfl⟩
theorem d_c6_emit_4 : gD b_c6_emit 4 (.aload_n 0) 1 5 := ⟨by decide +kernel, rfl⟩
theorem d_c6_emit_5 : gD b_c6_emit 5 (.getfield 9) 3 8 := ⟨by decide +kernel, rfl⟩
theorem d_c6_emit_8 : gD b_c6_emit 8 .arraylength 1 9 := ⟨by decide +kernel, rfl⟩
theorem d_c6_emit_9 : gJ b_c6_emit 9 (.if_icmp .ge 23) 3 23 12 32 := ⟨by decide +kernel, rfl, by decide⟩
theorem d_c6_emit_12 : gD b_c6_emit 12 (.aload_n 0) 1 13 := ⟨by decide +kernel, rfl⟩
theorem d_c6_emit_13 : gD b_c6_emit 13 (.getfield 9) 3 16 := ⟨by decide +kernel, rfl⟩
theorem d_c6_emit_16 : gD b_c6_emit 16 (.aload_n 0) 1 17 := ⟨by decide +kernel, rfl⟩
theorem d_c6_emit_17 : gD b_c6_emit 17 (.getfield 21) 3 20 := ⟨by decide +kernel, rfl⟩
theorem d_c6_emit_20 : gD b_c6_emit 20 (.iload_n 1) 1 21 := ⟨by decide +kernel, rfl⟩
theorem d_c6_emit_21 : gD b_c6_emit 21 .iastore 1 22 := ⟨by decide +kernel, rfl⟩
theorem d_c6_emit_22 : gD b_c6_emit 22 (.aload_n 0) 1 23 := ⟨by decide +kernel, rfl⟩
theorem d_c6_emit_23 : gD b_c6_emit 23 .dup 1 24 := ⟨by decide +kernel, rfl⟩
theorem d_c6_emit_24 : gD b_c6_emit 24 (.getfield 21) 3 27 := ⟨by decide +kernel, rfl⟩
theorem d_c6_emit_27 : gD b_c6_emit 27 (.iconst 1) 1 28 := ⟨by decide +kernel, rfl⟩
theorem d_c6_emit_28 : gD b_c6_emit 28 .iadd 1 29 := ⟨by decide +kernel, rfl⟩
theorem d_c6_emit_29 : gD b_c6_emit 29 (.putfield 21) 3 32 := ⟨by decide +kernel, rfl⟩
theorem d_c6_emit_32 : gD b_c6_emit 32 .return_ 1 33 := ⟨by decide +kernel, rfl⟩
def f_c6_emit (N : Nat) (a0 : Nat) (x1 : Int32) (h : gH) : Option (gH) :=
  (gcl h a0 6).bind fun _ =>
  (gfI h a0 6 3).bind fun v1 =>
    (gfR h a0 6 0).bind fun v2 =>
    (gn h v2).bind fun v3 =>
    (show Option (gH) from if v3 ≤ v1 then
    some h
  else
    (gfR h a0 6 0).bind fun v7 =>
    (gfI h a0 6 3).bind fun v8 =>
    (sa 0 h v7 v8 x1).bind fun h9 =>
    (gfI h9 a0 6 3).bind fun v10 =>
    (sf h9 a0 6 3 (.int (v10 + (1 : Int32)))).bind fun h11 =>
    some h11).bind fun t5 =>
    some t5
set_option maxHeartbeats 4000000 in
set_option maxRecDepth 100000 in
theorem ct_c6_emit (l : Launch) (X : gX) (hx : gEx X = false) (N : Nat) (a0 : Nat) (x1 : Int32) (h : gH) (q : gH) (hy : f_c6_emit N a0 x1 h = some q) : gRc y_c6_emit h a0 ∧ gMv l X y_c6_emit b_c6_emit 2 (1 + N) 0 0 [.ref a0, .int x1] h q := by
  unfold f_c6_emit at hy
  obtain ⟨u0, e_u0, hy⟩ := gBd hy
  cases u0
  refine ⟨Or.inl ⟨6, _, _, e_u0, rfl⟩, gMet_v (lsx := [(0, .ref a0), (1, .int x1)]) (by decide) rfl rfl ?_⟩
  intro M hMl K hret
  subst hMl
  refine g_aload_n K d_c6_emit_0 0 rfl ?_
  obtain ⟨v1, e_v1, hy⟩ := gBd hy
  refine g_getI K fl_c6_21 d_c6_emit_1 e_v1 ?_
  refine g_aload_n K d_c6_emit_4 0 rfl ?_
  obtain ⟨v2, e_v2, hy⟩ := gBd hy
  refine g_getR K fl_c6_9 d_c6_emit_5 e_v2 ?_
  obtain ⟨v3, e_v3, hy⟩ := gBd hy
  refine g_alen K d_c6_emit_8 e_v3 ?_
  obtain ⟨t5, e_t5, hy⟩ := gBd hy
  have hJ6 : gG M X 2 0 0 32 [] [] t5 := by
    obtain rfl := Option.some.inj hy
    exact hret _ _ _ d_c6_emit_32
  refine g_icmp_ge K d_c6_emit_9 (fun c4 => ?_) (fun c4 => ?_)
  · rw [if_pos c4] at e_t5
    refine g_sub (ls2 := []) [] rfl ?_
    obtain rfl := Option.some.inj e_t5
    exact hJ6
  · rw [if_neg c4] at e_t5
    refine g_aload_n K d_c6_emit_12 0 rfl ?_
    obtain ⟨v7, e_v7, e_t5⟩ := gBd e_t5
    refine g_getR K fl_c6_9 d_c6_emit_13 e_v7 ?_
    refine g_aload_n K d_c6_emit_16 0 rfl ?_
    obtain ⟨v8, e_v8, e_t5⟩ := gBd e_t5
    refine g_getI K fl_c6_21 d_c6_emit_17 e_v8 ?_
    refine g_iload_n K d_c6_emit_20 1 rfl ?_
    obtain ⟨h9, e_h9, e_t5⟩ := gBd e_t5
    refine g_iast K d_c6_emit_21 e_h9 ?_
    refine g_aload_n K d_c6_emit_22 0 rfl ?_
    refine g_dup K d_c6_emit_23 rfl ?_
    obtain ⟨v10, e_v10, e_t5⟩ := gBd e_t5
    refine g_getI K fl_c6_21 d_c6_emit_24 e_v10 ?_
    refine g_iconst (v := 1) K d_c6_emit_27 (by decide) ?_
    refine g_iadd K d_c6_emit_28 ?_
    obtain ⟨h11, e_h11, e_t5⟩ := gBd e_t5
    refine g_putI K fp_c6_21 d_c6_emit_29 e_h11 ?_
    refine g_sub (ls2 := []) [] rfl ?_
    obtain rfl := Option.some.inj e_t5
    exact hJ6
-- c6 hold
theorem d_c6_hold_0 : gD b_c6_hold 0 (.aload_n 0) 1 1 := ⟨by decide +kernel, rfl⟩
theorem d_c6_hold_1 : gD b_c6_hold 1 (.getfield 25) 3 4 := ⟨by decide +kernel, rfl⟩
theorem d_c6_hold_4 : gD b_c6_hold 4 (.aload_n 0) 1 5 := ⟨by decide +kernel, rfl⟩
theorem d_c6_hold_5 : gD b_c6_hold 5 (.getfield 15) 3 8 := ⟨by decide +kernel, rfl⟩
theorem d_c6_hold_8 : gD b_c6_hold 8 .arraylength 1 9 := ⟨by decide +kernel, rfl⟩
theorem d_c6_hold_9 : gJ b_c6_hold 9 (.if_icmp .ge 23) 3 23 12 32 := ⟨by decide +kernel, rfl, by decide⟩
theorem d_c6_hold_12 : gD b_c6_hold 12 (.aload_n 0) 1 13 := ⟨by decide +kernel, rfl⟩
theorem d_c6_hold_13 : gD b_c6_hold 13 (.getfield 15) 3 16 := ⟨by decide +kernel, rfl⟩
theorem d_c6_hold_16 : gD b_c6_hold 16 (.aload_n 0) 1 17 := ⟨by decide +kernel, rfl⟩
theorem d_c6_hold_17 : gD b_c6_hold 17 (.getfield 25) 3 20 := ⟨by decide +kernel, rfl⟩
theorem d_c6_hold_20 : gD b_c6_hold 20 (.iload_n 1) 1 21 := ⟨by decide +kernel, rfl⟩
theorem d_c6_hold_21 : gD b_c6_hold 21 .iastore 1 22 := ⟨by decide +kernel, rfl⟩
theorem d_c6_hold_22 : gD b_c6_hold 22 (.aload_n 0) 1 23 := ⟨by decide +kernel, rfl⟩
theorem d_c6_hold_23 : gD b_c6_hold 23 .dup 1 24 := ⟨by decide +kernel, rfl⟩
theorem d_c6_hold_24 : gD b_c6_hold 24 (.getfield 25) 3 27 := ⟨by decide +kernel, rfl⟩
theorem d_c6_hold_27 : gD b_c6_hold 27 (.iconst 1) 1 28 := ⟨by decide +kernel, rfl⟩
theorem d_c6_hold_28 : gD b_c6_hold 28 .iadd 1 29 := ⟨by decide +kernel, rfl⟩
theorem d_c6_hold_29 : gD b_c6_hold 29 (.putfield 25) 3 32 := ⟨by decide +kernel, rfl⟩
theorem d_c6_hold_32 : gD b_c6_hold 32 .return_ 1 33 := ⟨by decide +kernel, rfl⟩
def f_c6_hold (N : Nat) (a0 : Nat) (x1 : Int32) (h : gH) : Option (gH) :=
  (gcl h a0 6).bind fun _ =>
  (gfI h a0 6 4).bind fun v1 =>
    (gfR h a0 6 1).bind fun v2 =>
    (gn h v2).bind fun v3 =>
    (show Option (gH) from if v3 ≤ v1 then
    some h
  else
    (gfR h a0 6 1).bind fun v7 =>
    (gfI h a0 6 4).bind fun v8 =>
    (sa 0 h v7 v8 x1).bind fun h9 =>
    (gfI h9 a0 6 4).bind fun v10 =>
    (sf h9 a0 6 4 (.int (v10 + (1 : Int32)))).bind fun h11 =>
    some h11).bind fun t5 =>
    some t5
set_option maxHeartbeats 4000000 in
set_option maxRecDepth 100000 in
theorem ct_c6_hold (l : Launch) (X : gX) (hx : gEx X = false) (N : Nat) (a0 : Nat) (x1 : Int32) (h : gH) (q : gH) (hy : f_c6_hold N a0 x1 h = some q) : gRc y_c6_hold h a0 ∧ gMv l X y_c6_hold b_c6_hold 2 (1 + N) 0 0 [.ref a0, .int x1] h q := by
  unfold f_c6_hold at hy
  obtain ⟨u0, e_u0, hy⟩ := gBd hy
  cases u0
  refine ⟨Or.inl ⟨6, _, _, e_u0, rfl⟩, gMet_v (lsx := [(0, .ref a0), (1, .int x1)]) (by decide) rfl rfl ?_⟩
  intro M hMl K hret
  subst hMl
  refine g_aload_n K d_c6_hold_0 0 rfl ?_
  obtain ⟨v1, e_v1, hy⟩ := gBd hy
  refine g_getI K fl_c6_25 d_c6_hold_1 e_v1 ?_
  refine g_aload_n K d_c6_hold_4 0 rfl ?_
  obtain ⟨v2, e_v2, hy⟩ := gBd hy
  refine g_getR K fl_c6_15 d_c6_hold_5 e_v2 ?_
  obtain ⟨v3, e_v3, hy⟩ := gBd hy
  refine g_alen K d_c6_hold_8 e_v3 ?_
  obtain ⟨t5, e_t5, hy⟩ := gBd hy
  have hJ6 : gG M X 2 0 0 32 [] [] t5 := by
    obtain rfl := Option.some.inj hy
    exact hret _ _ _ d_c6_hold_32
  refine g_icmp_ge K d_c6_hold_9 (fun c4 => ?_) (fun c4 => ?_)
  · rw [if_pos c4] at e_t5
    refine g_sub (ls2 := []) [] rfl ?_
    obtain rfl := Option.some.inj e_t5
    exact hJ6
  · rw [if_neg c4] at e_t5
    refine g_aload_n K d_c6_hold_12 0 rfl ?_
    obtain ⟨v7, e_v7, e_t5⟩ := gBd e_t5
    refine g_getR K fl_c6_15 d_c6_hold_13 e_v7 ?_
    refine g_aload_n K d_c6_hold_16 0 rfl ?_
    obtain ⟨v8, e_v8, e_t5⟩ := gBd e_t5
    refine g_getI K fl_c6_25 d_c6_hold_17 e_v8 ?_
    refine g_iload_n K d_c6_hold_20 1 rfl ?_
    obtain ⟨h9, e_h9, e_t5⟩ := gBd e_t5
    refine g_iast K d_c6_hold_21 e_h9 ?_
    refine g_aload_n K d_c6_hold_22 0 rfl ?_
    refine g_dup K d_c6_hold_23 rfl ?_
    obtain ⟨v10, e_v10, e_t5⟩ := gBd e_t5
    refine g_getI K fl_c6_25 d_c6_hold_24 e_v10 ?_
    refine g_iconst (v := 1) K d_c6_hold_27 (by decide) ?_
    refine g_iadd K d_c6_hold_28 ?_
    obtain ⟨h11, e_h11, e_t5⟩ := gBd e_t5
    refine g_putI K fp_c6_25 d_c6_hold_29 e_h11 ?_
    refine g_sub (ls2 := []) [] rfl ?_
    obtain rfl := Option.some.inj e_t5
    exact hJ6
-- c6 isThing
theorem d_c6_isThing_0 : gD b_c6_isThing 0 (.iload_n 0) 1 1 := ⟨by decide +kernel, rfl⟩
theorem d_c6_isThing_1 : decode b_c6_isThing 1 = .ok ((.tableswitch 109 97 119 #[107, 109, 109, 107, 109, 109, 109, 109, 109, 109, 109, 107, 107, 107, 109, 109, 109, 109, 109, 109, 109, 107, 107]), 107) := by decide +kernel
theorem d_c6_isThing_108 : gD b_c6_isThing 108 (.iconst 1) 1 109 := ⟨by decide +kernel, rfl⟩
theorem d_c6_isThing_109 : gD b_c6_isThing 109 .ireturn 1 110 := ⟨by decide +kernel, rfl⟩
theorem d_c6_isThing_110 : gD b_c6_isThing 110 (.iconst 0) 1 111 := ⟨by decide +kernel, rfl⟩
theorem d_c6_isThing_111 : gD b_c6_isThing 111 .ireturn 1 112 := ⟨by decide +kernel, rfl⟩
def f_c6_isThing (N : Nat) (x0 : Int32) (h : gH) : Option (Int32) :=
  if x0 = (97 : Int32) then
    (gZ (1 : Int32)).bind fun w8 => some w8
  else
    if x0 = (100 : Int32) then
    (gZ (1 : Int32)).bind fun w9 => some w9
  else
    if x0 = (108 : Int32) then
    (gZ (1 : Int32)).bind fun w10 => some w10
  else
    if x0 = (109 : Int32) then
    (gZ (1 : Int32)).bind fun w11 => some w11
  else
    if x0 = (110 : Int32) then
    (gZ (1 : Int32)).bind fun w12 => some w12
  else
    if x0 = (118 : Int32) then
    (gZ (1 : Int32)).bind fun w13 => some w13
  else
    if x0 = (119 : Int32) then
    (gZ (1 : Int32)).bind fun w14 => some w14
  else
    (gZ (0 : Int32)).bind fun w15 => some w15
set_option maxHeartbeats 4000000 in
set_option maxRecDepth 100000 in
theorem ct_c6_isThing (l : Launch) (X : gX) (hx : gEx X = false) (N : Nat) (x0 : Int32) (h : gH) (q : Int32) (hy : f_c6_isThing N x0 h = some q) : gMi l X y_c6_isThing b_c6_isThing 1 .boolean (1 + N) 0 0 [.int x0] h q h := by
  unfold f_c6_isThing at hy
  refine gMet_i (lsx := [(0, .int x0)]) (by decide) rfl rfl ?_
  intro M hMl K hret
  subst hMl
  refine g_iload_n K d_c6_isThing_0 0 rfl ?_
  by_cases c1 : x0 = (97 : Int32)
  · rw [if_pos c1] at hy
    refine g_tabIn (v := (97 : Int32)) (off := 107) (tgt := 108) K d_c6_isThing_1 c1 (by decide) (by decide) (by decide +kernel) (by decide) ?_
    refine g_iconst (v := 1) K d_c6_isThing_108 (by decide) ?_
    obtain ⟨w8, e_w8, hy⟩ := gBd hy
    obtain ⟨z_w8, n_w8⟩ := gZ_spec e_w8
    rw [z_w8]
    obtain rfl := Option.some.inj hy
    exact hret (gZn n_w8) _ _ _ d_c6_isThing_109
  rw [if_neg c1] at hy
  by_cases c2 : x0 = (100 : Int32)
  · rw [if_pos c2] at hy
    refine g_tabIn (v := (100 : Int32)) (off := 107) (tgt := 108) K d_c6_isThing_1 c2 (by decide) (by decide) (by decide +kernel) (by decide) ?_
    refine g_iconst (v := 1) K d_c6_isThing_108 (by decide) ?_
    obtain ⟨w9, e_w9, hy⟩ := gBd hy
    obtain ⟨z_w9, n_w9⟩ := gZ_spec e_w9
    rw [z_w9]
    obtain rfl := Option.some.inj hy
    exact hret (gZn n_w9) _ _ _ d_c6_isThing_109
  rw [if_neg c2] at hy
  by_cases c3 : x0 = (108 : Int32)
  · rw [if_pos c3] at hy
    refine g_tabIn (v := (108 : Int32)) (off := 107) (tgt := 108) K d_c6_isThing_1 c3 (by decide) (by decide) (by decide +kernel) (by decide) ?_
    refine g_iconst (v := 1) K d_c6_isThing_108 (by decide) ?_
    obtain ⟨w10, e_w10, hy⟩ := gBd hy
    obtain ⟨z_w10, n_w10⟩ := gZ_spec e_w10
    rw [z_w10]
    obtain rfl := Option.some.inj hy
    exact hret (gZn n_w10) _ _ _ d_c6_isThing_109
  rw [if_neg c3] at hy
  by_cases c4 : x0 = (109 : Int32)
  · rw [if_pos c4] at hy
    refine g_tabIn (v := (109 : Int32)) (off := 107) (tgt := 108) K d_c6_isThing_1 c4 (by decide) (by decide) (by decide +kernel) (by decide) ?_
    refine g_iconst (v := 1) K d_c6_isThing_108 (by decide) ?_
    obtain ⟨w11, e_w11, hy⟩ := gBd hy
    obtain ⟨z_w11, n_w11⟩ := gZ_spec e_w11
    rw [z_w11]
    obtain rfl := Option.some.inj hy
    exact hret (gZn n_w11) _ _ _ d_c6_isThing_109
  rw [if_neg c4] at hy
  by_cases c5 : x0 = (110 : Int32)
  · rw [if_pos c5] at hy
    refine g_tabIn (v := (110 : Int32)) (off := 107) (tgt := 108) K d_c6_isThing_1 c5 (by decide) (by decide) (by decide +kernel) (by decide) ?_
    refine g_iconst (v := 1) K d_c6_isThing_108 (by decide) ?_
    obtain ⟨w12, e_w12, hy⟩ := gBd hy
    obtain ⟨z_w12, n_w12⟩ := gZ_spec e_w12
    rw [z_w12]
    obtain rfl := Option.some.inj hy
    exact hret (gZn n_w12) _ _ _ d_c6_isThing_109
  rw [if_neg c5] at hy
  by_cases c6 : x0 = (118 : Int32)
  · rw [if_pos c6] at hy
    refine g_tabIn (v := (118 : Int32)) (off := 107) (tgt := 108) K d_c6_isThing_1 c6 (by decide) (by decide) (by decide +kernel) (by decide) ?_
    refine g_iconst (v := 1) K d_c6_isThing_108 (by decide) ?_
    obtain ⟨w13, e_w13, hy⟩ := gBd hy
    obtain ⟨z_w13, n_w13⟩ := gZ_spec e_w13
    rw [z_w13]
    obtain rfl := Option.some.inj hy
    exact hret (gZn n_w13) _ _ _ d_c6_isThing_109
  rw [if_neg c6] at hy
  by_cases c7 : x0 = (119 : Int32)
  · rw [if_pos c7] at hy
    refine g_tabIn (v := (119 : Int32)) (off := 107) (tgt := 108) K d_c6_isThing_1 c7 (by decide) (by decide) (by decide +kernel) (by decide) ?_
    refine g_iconst (v := 1) K d_c6_isThing_108 (by decide) ?_
    obtain ⟨w14, e_w14, hy⟩ := gBd hy
    obtain ⟨z_w14, n_w14⟩ := gZ_spec e_w14
    rw [z_w14]
    obtain rfl := Option.some.inj hy
    exact hret (gZn n_w14) _ _ _ d_c6_isThing_109
  rw [if_neg c7] at hy
  refine g_tabD (tgt := 110) [(97 : Int32), (100 : Int32), (108 : Int32), (109 : Int32), (110 : Int32), (118 : Int32), (119 : Int32)] K d_c6_isThing_1 (List.forall_mem_cons.mpr ⟨c1, (List.forall_mem_cons.mpr ⟨c2, (List.forall_mem_cons.mpr ⟨c3, (List.forall_mem_cons.mpr ⟨c4, (List.forall_mem_cons.mpr ⟨c5, (List.forall_mem_cons.mpr ⟨c6, (List.forall_mem_cons.mpr ⟨c7, (fun _ h => absurd h List.not_mem_nil)⟩)⟩)⟩)⟩)⟩)⟩)⟩) (by decide +kernel) (by decide) ?_
  refine g_iconst (v := 0) K d_c6_isThing_110 (by decide) ?_
  obtain ⟨w15, e_w15, hy⟩ := gBd hy
  obtain ⟨z_w15, n_w15⟩ := gZ_spec e_w15
  rw [z_w15]
  obtain rfl := Option.some.inj hy
  exact hret (gZn n_w15) _ _ _ d_c6_isThing_111
-- c6 lengthen
theorem d_c6_lengthen_0 : gD b_c6_lengthen 0 (.aload_n 0) 1 1 := ⟨by decide +kernel, rfl⟩
theorem d_c6_lengthen_1 : gD b_c6_lengthen 1 (.getfield 34) 3 4 := ⟨by decide +kernel, rfl⟩
theorem d_c6_lengthen_4 : gD b_c6_lengthen 4 (.iconst 1) 1 5 := ⟨by decide +kernel, rfl⟩
theorem d_c6_lengthen_5 : gJ b_c6_lengthen 5 (.if_icmp .lt 19) 3 19 8 24 := ⟨by decide +kernel, rfl, by decide⟩
theorem d_c6_lengthen_8 : gD b_c6_lengthen 8 (.aload_n 0) 1 9 := ⟨by decide +kernel, rfl⟩
theorem d_c6_lengthen_9 : gD b_c6_lengthen 9 (.getfield 34) 3 12 := ⟨by decide +kernel, rfl⟩
theorem d_c6_lengthen_12 : gD b_c6_lengthen 12 (.iconst 2) 1 13 := ⟨by decide +kernel, rfl⟩
theorem d_c6_lengthen_13 : gJ b_c6_lengthen 13 (.if_icmp .gt 11) 3 11 16 24 := ⟨by decide +kernel, rfl, by decide⟩
theorem d_c6_lengthen_16 : gD b_c6_lengthen 16 (.aload_n 0) 1 17 := ⟨by decide +kernel, rfl⟩
theorem d_c6_lengthen_17 : gD b_c6_lengthen 17 (.getfield 21) 3 20 := ⟨by decide +kernel, rfl⟩
theorem d_c6_lengthen_20 : gD b_c6_lengthen 20 (.iconst 1) 1 21 := ⟨by decide +kernel, rfl⟩
theorem d_c6_lengthen_21 : gJ b_c6_lengthen 21 (.if_icmp .ge 5) 3 5 24 26 := ⟨by decide +kernel, rfl, by decide⟩
theorem d_c6_lengthen_24 : gD b_c6_lengthen 24 (.iconst 0) 1 25 := ⟨by decide +kernel, rfl⟩
theorem d_c6_lengthen_25 : gD b_c6_lengthen 25 .ireturn 1 26 := ⟨by decide +kernel, rfl⟩
theorem d_c6_lengthen_26 : gD b_c6_lengthen 26 (.aload_n 0) 1 27 := ⟨by decide +kernel, rfl⟩
theorem d_c6_lengthen_27 : gD b_c6_lengthen 27 .dup 1 28 := ⟨by decide +kernel, rfl⟩
theorem d_c6_lengthen_28 : gD b_c6_lengthen 28 (.getfield 34) 3 31 := ⟨by decide +kernel, rfl⟩
theorem d_c6_lengthen_31 : gD b_c6_lengthen 31 (.iconst 1) 1 32 := ⟨by decide +kernel, rfl⟩
theorem d_c6_lengthen_32 : gD b_c6_lengthen 32 .iadd 1 33 := ⟨by decide +kernel, rfl⟩
theorem d_c6_lengthen_33 : gD b_c6_lengthen 33 (.putfield 34) 3 36 := ⟨by decide +kernel, rfl⟩
theorem d_c6_lengthen_36 : gD b_c6_lengthen 36 (.aload_n 0) 1 37 := ⟨by decide +kernel, rfl⟩
theorem d_c6_lengthen_37 : gD b_c6_lengthen 37 (.getfield 9) 3 40 := ⟨by decide +kernel, rfl⟩
theorem d_c6_lengthen_40 : gD b_c6_lengthen 40 (.aload_n 0) 1 41 := ⟨by decide +kernel, rfl⟩
theorem d_c6_lengthen_41 : gD b_c6_lengthen 41 (.getfield 21) 3 44 := ⟨by decide +kernel, rfl⟩
theorem d_c6_lengthen_44 : gD b_c6_lengthen 44 (.iconst 1) 1 45 := ⟨by decide +kernel, rfl⟩
theorem d_c6_lengthen_45 : gD b_c6_lengthen 45 .isub 1 46 := ⟨by decide +kernel, rfl⟩
theorem d_c6_lengthen_46 : gD b_c6_lengthen 46 (.aload_n 0) 1 47 := ⟨by decide +kernel, rfl⟩
theorem d_c6_lengthen_47 : gD b_c6_lengthen 47 (.getfield 9) 3 50 := ⟨by decide +kernel, rfl⟩
theorem d_c6_lengthen_50 : gD b_c6_lengthen 50 (.aload_n 0) 1 51 := ⟨by decide +kernel, rfl⟩
theorem d_c6_lengthen_51 : gD b_c6_lengthen 51 (.getfield 21) 3 54 := ⟨by decide +kernel, rfl⟩
theorem d_c6_lengthen_54 : gD b_c6_lengthen 54 (.iconst 1) 1 55 := ⟨by decide +kernel, rfl⟩
theorem d_c6_lengthen_55 : gD b_c6_lengthen 55 .isub 1 56 := ⟨by decide +kernel, rfl⟩
theorem d_c6_lengthen_56 : gD b_c6_lengthen 56 .iaload 1 57 := ⟨by decide +kernel, rfl⟩
theorem d_c6_lengthen_57 : gD b_c6_lengthen 57 (.bipush 10) 2 59 := ⟨by decide +kernel, rfl⟩
theorem d_c6_lengthen_59 : gD b_c6_lengthen 59 .imul 1 60 := ⟨by decide +kernel, rfl⟩
theorem d_c6_lengthen_60 : gD b_c6_lengthen 60 (.iload_n 1) 1 61 := ⟨by decide +kernel, rfl⟩
theorem d_c6_lengthen_61 : gD b_c6_lengthen 61 .iadd 1 62 := ⟨by decide +kernel, rfl⟩
theorem d_c6_lengthen_62 : gD b_c6_lengthen 62 .iastore 1 63 := ⟨by decide +kernel, rfl⟩
theorem d_c6_lengthen_63 : gD b_c6_lengthen 63 (.iconst 1) 1 64 := ⟨by decide +kernel, rfl⟩
theorem d_c6_lengthen_64 : gD b_c6_lengthen 64 .ireturn 1 65 := ⟨by decide +kernel, rfl⟩
def f_c6_lengthen (N : Nat) (a0 : Nat) (x1 : Int32) (h : gH) : Option (Int32 × gH) :=
  (gcl h a0 6).bind fun _ =>
  (gfI h a0 6 7).bind fun v1 =>
    if v1 < (1 : Int32) then
    (gZ (0 : Int32)).bind fun w3 => some (w3, h)
  else
    (gfI h a0 6 7).bind fun v4 =>
    if (2 : Int32) < v4 then
    (gZ (0 : Int32)).bind fun w6 => some (w6, h)
  else
    (gfI h a0 6 3).bind fun v7 =>
    if (1 : Int32) ≤ v7 then
    (gfI h a0 6 7).bind fun v9 =>
    (sf h a0 6 7 (.int (v9 + (1 : Int32)))).bind fun h10 =>
    (gfR h10 a0 6 0).bind fun v11 =>
    (gfI h10 a0 6 3).bind fun v12 =>
    (gfR h10 a0 6 0).bind fun v13 =>
    (gfI h10 a0 6 3).bind fun v14 =>
    (ga 0 h10 v13 (v14 - (1 : Int32))).bind fun v15 =>
    (sa 0 h10 v11 (v12 - (1 : Int32)) ((v15 * (10 : Int32)) + x1)).bind fun h16 =>
    (gZ (1 : Int32)).bind fun w17 => some (w17, h16)
  else
    (gZ (0 : Int32)).bind fun w18 => some (w18, h)
set_option maxHeartbeats 4000000 in
set_option maxRecDepth 100000 in
theorem ct_c6_lengthen (l : Launch) (X : gX) (hx : gEx X = false) (N : Nat) (a0 : Nat) (x1 : Int32) (h : gH) (q : Int32 × gH) (hy : f_c6_lengthen N a0 x1 h = some q) : gRc y_c6_lengthen h a0 ∧ gMi l X y_c6_lengthen b_c6_lengthen 2 .boolean (1 + N) 0 0 [.ref a0, .int x1] h q.1 q.2 := by
  unfold f_c6_lengthen at hy
  obtain ⟨u0, e_u0, hy⟩ := gBd hy
  cases u0
  refine ⟨Or.inl ⟨6, _, _, e_u0, rfl⟩, gMet_i (lsx := [(0, .ref a0), (1, .int x1)]) (by decide) rfl rfl ?_⟩
  intro M hMl K hret
  subst hMl
  refine g_aload_n K d_c6_lengthen_0 0 rfl ?_
  obtain ⟨v1, e_v1, hy⟩ := gBd hy
  refine g_getI K fl_c6_34 d_c6_lengthen_1 e_v1 ?_
  refine g_iconst (v := 1) K d_c6_lengthen_4 (by decide) ?_
  refine g_icmp_lt K d_c6_lengthen_5 (fun c2 => ?_) (fun c2 => ?_)
  · rw [if_pos c2] at hy
    refine g_iconst (v := 0) K d_c6_lengthen_24 (by decide) ?_
    obtain ⟨w3, e_w3, hy⟩ := gBd hy
    obtain ⟨z_w3, n_w3⟩ := gZ_spec e_w3
    rw [z_w3]
    obtain rfl := Option.some.inj hy
    exact hret (gZn n_w3) _ _ _ d_c6_lengthen_25
  · rw [if_neg c2] at hy
    refine g_aload_n K d_c6_lengthen_8 0 rfl ?_
    obtain ⟨v4, e_v4, hy⟩ := gBd hy
    refine g_getI K fl_c6_34 d_c6_lengthen_9 e_v4 ?_
    refine g_iconst (v := 2) K d_c6_lengthen_12 (by decide) ?_
    refine g_icmp_gt K d_c6_lengthen_13 (fun c5 => ?_) (fun c5 => ?_)
    · rw [if_pos c5] at hy
      refine g_iconst (v := 0) K d_c6_lengthen_24 (by decide) ?_
      obtain ⟨w6, e_w6, hy⟩ := gBd hy
      obtain ⟨z_w6, n_w6⟩ := gZ_spec e_w6
      rw [z_w6]
      obtain rfl := Option.some.inj hy
      exact hret (gZn n_w6) _ _ _ d_c6_lengthen_25
    · rw [if_neg c5] at hy
      refine g_aload_n K d_c6_lengthen_16 0 rfl ?_
      obtain ⟨v7, e_v7, hy⟩ := gBd hy
      refine g_getI K fl_c6_21 d_c6_lengthen_17 e_v7 ?_
      refine g_iconst (v := 1) K d_c6_lengthen_20 (by decide) ?_
      refine g_icmp_ge K d_c6_lengthen_21 (fun c8 => ?_) (fun c8 => ?_)
      · rw [if_pos c8] at hy
        refine g_aload_n K d_c6_lengthen_26 0 rfl ?_
        refine g_dup K d_c6_lengthen_27 rfl ?_
        obtain ⟨v9, e_v9, hy⟩ := gBd hy
        refine g_getI K fl_c6_34 d_c6_lengthen_28 e_v9 ?_
        refine g_iconst (v := 1) K d_c6_lengthen_31 (by decide) ?_
        refine g_iadd K d_c6_lengthen_32 ?_
        obtain ⟨h10, e_h10, hy⟩ := gBd hy
        refine g_putI K fp_c6_34 d_c6_lengthen_33 e_h10 ?_
        refine g_aload_n K d_c6_lengthen_36 0 rfl ?_
        obtain ⟨v11, e_v11, hy⟩ := gBd hy
        refine g_getR K fl_c6_9 d_c6_lengthen_37 e_v11 ?_
        refine g_aload_n K d_c6_lengthen_40 0 rfl ?_
        obtain ⟨v12, e_v12, hy⟩ := gBd hy
        refine g_getI K fl_c6_21 d_c6_lengthen_41 e_v12 ?_
        refine g_iconst (v := 1) K d_c6_lengthen_44 (by decide) ?_
        refine g_isub K d_c6_lengthen_45 ?_
        refine g_aload_n K d_c6_lengthen_46 0 rfl ?_
        obtain ⟨v13, e_v13, hy⟩ := gBd hy
        refine g_getR K fl_c6_9 d_c6_lengthen_47 e_v13 ?_
        refine g_aload_n K d_c6_lengthen_50 0 rfl ?_
        obtain ⟨v14, e_v14, hy⟩ := gBd hy
        refine g_getI K fl_c6_21 d_c6_lengthen_51 e_v14 ?_
        refine g_iconst (v := 1) K d_c6_lengthen_54 (by decide) ?_
        refine g_isub K d_c6_lengthen_55 ?_
        obtain ⟨v15, e_v15, hy⟩ := gBd hy
        refine g_iald K d_c6_lengthen_56 e_v15 ?_
        refine g_bipush (v := 10) K d_c6_lengthen_57 (by decide) ?_
        refine g_imul K d_c6_lengthen_59 ?_
        refine g_iload_n K d_c6_lengthen_60 1 rfl ?_
        refine g_iadd K d_c6_lengthen_61 ?_
        obtain ⟨h16, e_h16, hy⟩ := gBd hy
        refine g_iast K d_c6_lengthen_62 e_h16 ?_
        refine g_iconst (v := 1) K d_c6_lengthen_63 (by decide) ?_
        obtain ⟨w17, e_w17, hy⟩ := gBd hy
        obtain ⟨z_w17, n_w17⟩ := gZ_spec e_w17
        rw [z_w17]
        obtain rfl := Option.some.inj hy
        exact hret (gZn n_w17) _ _ _ d_c6_lengthen_64
      · rw [if_neg c8] at hy
        refine g_iconst (v := 0) K d_c6_lengthen_24 (by decide) ?_
        obtain ⟨w18, e_w18, hy⟩ := gBd hy
        obtain ⟨z_w18, n_w18⟩ := gZ_spec e_w18
        rw [z_w18]
        obtain rfl := Option.some.inj hy
        exact hret (gZn n_w18) _ _ _ d_c6_lengthen_25
-- c6 rank
theorem d_c6_rank_0 : gD b_c6_rank 0 (.iload_n 0) 1 1 := ⟨by decide +kernel, rfl⟩
theorem d_c6_rank_1 : decode b_c6_rank 1 = .ok ((.lookupswitch 83 #[(42, 79), (43, 77), (45, 77), (47, 79), (60, 75), (61, 75), (62, 75), (256, 81)]), 75) := by decide +kernel
theorem d_c6_rank_76 : gD b_c6_rank 76 (.iconst 1) 1 77 := ⟨by decide +kernel, rfl⟩
theorem d_c6_rank_77 : gD b_c6_rank 77 .ireturn 1 78 := ⟨by decide +kernel, rfl⟩
theorem d_c6_rank_78 : gD b_c6_rank 78 (.iconst 2) 1 79 := ⟨by decide +kernel, rfl⟩
theorem d_c6_rank_79 : gD b_c6_rank 79 .ireturn 1 80 := ⟨by decide +kernel, rfl⟩
theorem d_c6_rank_80 : gD b_c6_rank 80 (.iconst 3) 1 81 := ⟨by decide +kernel, rfl⟩
theorem d_c6_rank_81 : gD b_c6_rank 81 .ireturn 1 82 := ⟨by decide +kernel, rfl⟩
theorem d_c6_rank_82 : gD b_c6_rank 82 (.iconst 4) 1 83 := ⟨by decide +kernel, rfl⟩
theorem d_c6_rank_83 : gD b_c6_rank 83 .ireturn 1 84 := ⟨by decide +kernel, rfl⟩
theorem d_c6_rank_84 : gD b_c6_rank 84 (.iconst 0) 1 85 := ⟨by decide +kernel, rfl⟩
theorem d_c6_rank_85 : gD b_c6_rank 85 .ireturn 1 86 := ⟨by decide +kernel, rfl⟩
def f_c6_rank (N : Nat) (x0 : Int32) (h : gH) : Option (Int32) :=
  if x0 = (42 : Int32) then
    some (3 : Int32)
  else
    if x0 = (43 : Int32) then
    some (2 : Int32)
  else
    if x0 = (45 : Int32) then
    some (2 : Int32)
  else
    if x0 = (47 : Int32) then
    some (3 : Int32)
  else
    if x0 = (60 : Int32) then
    some (1 : Int32)
  else
    if x0 = (61 : Int32) then
    some (1 : Int32)
  else
    if x0 = (62 : Int32) then
    some (1 : Int32)
  else
    if x0 = (256 : Int32) then
    some (4 : Int32)
  else
    some (0 : Int32)
set_option maxHeartbeats 4000000 in
set_option maxRecDepth 100000 in
theorem ct_c6_rank (l : Launch) (X : gX) (hx : gEx X = false) (N : Nat) (x0 : Int32) (h : gH) (q : Int32) (hy : f_c6_rank N x0 h = some q) : gMi l X y_c6_rank b_c6_rank 1 .int (1 + N) 0 0 [.int x0] h q h := by
  unfold f_c6_rank at hy
  refine gMet_i (lsx := [(0, .int x0)]) (by decide) rfl rfl ?_
  intro M hMl K hret
  subst hMl
  refine g_iload_n K d_c6_rank_0 0 rfl ?_
  by_cases c1 : x0 = (42 : Int32)
  · rw [if_pos c1] at hy
    refine g_lkIn (v := (42 : Int32)) (off := 79) (tgt := 80) K d_c6_rank_1 (by decide +kernel) c1 (by decide +kernel) (by decide) ?_
    refine g_iconst (v := 3) K d_c6_rank_80 (by decide) ?_
    obtain rfl := Option.some.inj hy
    exact hret rfl _ _ _ d_c6_rank_81
  rw [if_neg c1] at hy
  by_cases c2 : x0 = (43 : Int32)
  · rw [if_pos c2] at hy
    refine g_lkIn (v := (43 : Int32)) (off := 77) (tgt := 78) K d_c6_rank_1 (by decide +kernel) c2 (by decide +kernel) (by decide) ?_
    refine g_iconst (v := 2) K d_c6_rank_78 (by decide) ?_
    obtain rfl := Option.some.inj hy
    exact hret rfl _ _ _ d_c6_rank_79
  rw [if_neg c2] at hy
  by_cases c3 : x0 = (45 : Int32)
  · rw [if_pos c3] at hy
    refine g_lkIn (v := (45 : Int32)) (off := 77) (tgt := 78) K d_c6_rank_1 (by decide +kernel) c3 (by decide +kernel) (by decide) ?_
    refine g_iconst (v := 2) K d_c6_rank_78 (by decide) ?_
    obtain rfl := Option.some.inj hy
    exact hret rfl _ _ _ d_c6_rank_79
  rw [if_neg c3] at hy
  by_cases c4 : x0 = (47 : Int32)
  · rw [if_pos c4] at hy
    refine g_lkIn (v := (47 : Int32)) (off := 79) (tgt := 80) K d_c6_rank_1 (by decide +kernel) c4 (by decide +kernel) (by decide) ?_
    refine g_iconst (v := 3) K d_c6_rank_80 (by decide) ?_
    obtain rfl := Option.some.inj hy
    exact hret rfl _ _ _ d_c6_rank_81
  rw [if_neg c4] at hy
  by_cases c5 : x0 = (60 : Int32)
  · rw [if_pos c5] at hy
    refine g_lkIn (v := (60 : Int32)) (off := 75) (tgt := 76) K d_c6_rank_1 (by decide +kernel) c5 (by decide +kernel) (by decide) ?_
    refine g_iconst (v := 1) K d_c6_rank_76 (by decide) ?_
    obtain rfl := Option.some.inj hy
    exact hret rfl _ _ _ d_c6_rank_77
  rw [if_neg c5] at hy
  by_cases c6 : x0 = (61 : Int32)
  · rw [if_pos c6] at hy
    refine g_lkIn (v := (61 : Int32)) (off := 75) (tgt := 76) K d_c6_rank_1 (by decide +kernel) c6 (by decide +kernel) (by decide) ?_
    refine g_iconst (v := 1) K d_c6_rank_76 (by decide) ?_
    obtain rfl := Option.some.inj hy
    exact hret rfl _ _ _ d_c6_rank_77
  rw [if_neg c6] at hy
  by_cases c7 : x0 = (62 : Int32)
  · rw [if_pos c7] at hy
    refine g_lkIn (v := (62 : Int32)) (off := 75) (tgt := 76) K d_c6_rank_1 (by decide +kernel) c7 (by decide +kernel) (by decide) ?_
    refine g_iconst (v := 1) K d_c6_rank_76 (by decide) ?_
    obtain rfl := Option.some.inj hy
    exact hret rfl _ _ _ d_c6_rank_77
  rw [if_neg c7] at hy
  by_cases c8 : x0 = (256 : Int32)
  · rw [if_pos c8] at hy
    refine g_lkIn (v := (256 : Int32)) (off := 81) (tgt := 82) K d_c6_rank_1 (by decide +kernel) c8 (by decide +kernel) (by decide) ?_
    refine g_iconst (v := 4) K d_c6_rank_82 (by decide) ?_
    obtain rfl := Option.some.inj hy
    exact hret rfl _ _ _ d_c6_rank_83
  rw [if_neg c8] at hy
  refine g_lkD (tgt := 84) [(42 : Int32), (43 : Int32), (45 : Int32), (47 : Int32), (60 : Int32), (61 : Int32), (62 : Int32), (256 : Int32)] K d_c6_rank_1 (by decide +kernel) (List.forall_mem_cons.mpr ⟨c1, (List.forall_mem_cons.mpr ⟨c2, (List.forall_mem_cons.mpr ⟨c3, (List.forall_mem_cons.mpr ⟨c4, (List.forall_mem_cons.mpr ⟨c5, (List.forall_mem_cons.mpr ⟨c6, (List.forall_mem_cons.mpr ⟨c7, (List.forall_mem_cons.mpr ⟨c8, (fun _ h => absurd h List.not_mem_nil)⟩)⟩)⟩)⟩)⟩)⟩)⟩)⟩) (by decide +kernel) (by decide) ?_
  refine g_iconst (v := 0) K d_c6_rank_84 (by decide) ?_
  obtain rfl := Option.some.inj hy
  exact hret rfl _ _ _ d_c6_rank_85
-- c7 andsOfAll
theorem d_c7_andsOfAll_0 : gD b_c7_andsOfAll 0 (.iconst 0) 1 1 := ⟨by decide +kernel, rfl⟩
theorem d_c7_andsOfAll_1 : gD b_c7_andsOfAll 1 (.istore_n 1) 1 2 := ⟨by decide +kernel, rfl⟩
theorem d_c7_andsOfAll_2 : gD b_c7_andsOfAll 2 (.iconst 0) 1 3 := ⟨by decide +kernel, rfl⟩
theorem d_c7_andsOfAll_3 : gD b_c7_andsOfAll 3 (.istore_n 2) 1 4 := ⟨by decide +kernel, rfl⟩
theorem d_c7_andsOfAll_4 : gD b_c7_andsOfAll 4 (.iload_n 2) 1 5 := ⟨by decide +kernel, rfl⟩
theorem d_c7_andsOfAll_5 : gD b_c7_andsOfAll 5 (.aload_n 0) 1 6 := ⟨by decide +kernel, rfl⟩
theorem d_c7_andsOfAll_6 : gD b_c7_andsOfAll 6 (.getfield 27) 3 9 := ⟨by decide +kernel, rfl⟩
theorem d_c7_andsOfAll_9 : gJ b_c7_andsOfAll 9 (.if_icmp .ge 18) 3 18 12 27 := ⟨by decide +kernel, rfl, by decide⟩
theorem d_c7_andsOfAll_12 : gD b_c7_andsOfAll 12 (.iload_n 1) 1 13 := ⟨by decide +kernel, rfl⟩
theorem d_c7_andsOfAll_13 : gD b_c7_andsOfAll 13 (.aload_n 0) 1 14 := ⟨by decide +kernel, rfl⟩
theorem d_c7_andsOfAll_14 : gD b_c7_andsOfAll 14 (.getfield 21) 3 17 := ⟨by decide +kernel, rfl⟩
theorem d_c7_andsOfAll_17 : gD b_c7_andsOfAll 17 (.iload_n 2) 1 18 := ⟨by decide +kernel, rfl⟩
theorem d_c7_andsOfAll_18 : gD b_c7_andsOfAll 18 .iaload 1 19 := ⟨by decide +kernel, rfl⟩
theorem d_c7_andsOfAll_19 : gD b_c7_andsOfAll 19 .iadd 1 20 := ⟨by decide +kernel, rfl⟩
theorem d_c7_andsOfAll_20 : gD b_c7_andsOfAll 20 (.istore_n 1) 1 21 := ⟨by decide +kernel, rfl⟩
theorem d_c7_andsOfAll_21 : gD b_c7_andsOfAll 21 (.iinc 2 1) 3 24 := ⟨by decide +kernel, rfl⟩
theorem d_c7_andsOfAll_24 : gJ b_c7_andsOfAll 24 (.goto (-20)) 3 (-20) 27 4 := ⟨by decide +kernel, rfl, by decide⟩
theorem d_c7_andsOfAll_27 : gD b_c7_andsOfAll 27 (.iload_n 1) 1 28 := ⟨by decide +kernel, rfl⟩
theorem d_c7_andsOfAll_28 : gD b_c7_andsOfAll 28 .ireturn 1 29 := ⟨by decide +kernel, rfl⟩
def lp_c7_andsOfAll_4 (N : Nat) (a0 : Nat) (h : gH) : Nat → Int32 → Int32 → Option (Int32)
  | 0, _, _ => none
  | k + 1, x1, x2 =>
  (gfI h a0 7 0).bind fun v1 =>
    if v1 ≤ x2 then
    some x1
  else
    (gfR h a0 7 4).bind fun v3 =>
    (ga 0 h v3 x2).bind fun v4 =>
    lp_c7_andsOfAll_4 N a0 h k (x1 + v4) (x2 + (1 : Int32))
def f_c7_andsOfAll (N : Nat) (a0 : Nat) (h : gH) : Option (Int32) :=
  (gcl h a0 7).bind fun _ =>
  (lp_c7_andsOfAll_4 N a0 h N (0 : Int32) (0 : Int32)).bind fun o5 =>
    some o5
set_option maxHeartbeats 4000000 in
set_option maxRecDepth 100000 in
theorem wlp_c7_andsOfAll_4 {M : gM} {X : gX} {N : Nat} (hx : gEx X = false) (K : gC M X gN7 b_c7_andsOfAll 3 (gRm (1 + N) 0 0)) (a0 : Nat) (h : gH) : ∀ (k : Nat) (x1 : Int32) (x2 : Int32) (o : Int32), lp_c7_andsOfAll_4 N a0 h k x1 x2 = some o → gG M X 3 0 0 27 [(1, .int o)] [] h → gG M X 3 0 0 4 [(0, .ref a0), (1, .int x1), (2, .int x2)] [] h := by
  intro k
  induction k with
  | zero =>
    intro x1 x2 o hy
    rw [lp_c7_andsOfAll_4.eq_1] at hy
    cases hy
  | succ k ih =>
    intro x1 x2 o hy hE
    rw [lp_c7_andsOfAll_4.eq_2] at hy
    refine g_iload_n K d_c7_andsOfAll_4 2 rfl ?_
    refine g_aload_n K d_c7_andsOfAll_5 0 rfl ?_
    obtain ⟨v1, e_v1, hy⟩ := gBd hy
    refine g_getI K fl_c7_27 d_c7_andsOfAll_6 e_v1 ?_
    refine g_icmp_ge K d_c7_andsOfAll_9 (fun c2 => ?_) (fun c2 => ?_)
    · rw [if_pos c2] at hy
      refine g_sub (ls2 := [(1, .int x1)]) [1] rfl ?_
      obtain rfl := Option.some.inj hy
      exact hE
    · rw [if_neg c2] at hy
      refine g_iload_n K d_c7_andsOfAll_12 1 rfl ?_
      refine g_aload_n K d_c7_andsOfAll_13 0 rfl ?_
      obtain ⟨v3, e_v3, hy⟩ := gBd hy
      refine g_getR K fl_c7_21 d_c7_andsOfAll_14 e_v3 ?_
      refine g_iload_n K d_c7_andsOfAll_17 2 rfl ?_
      obtain ⟨v4, e_v4, hy⟩ := gBd hy
      refine g_iald K d_c7_andsOfAll_18 e_v4 ?_
      refine g_iadd K d_c7_andsOfAll_19 ?_
      refine g_istore_n (ls2 := [(1, .int (x1 + v4)), (0, .ref a0), (2, .int x2)]) K d_c7_andsOfAll_20 rfl rfl ?_
      refine g_iinc (ls2 := [(2, .int (x2 + (1 : Int32))), (1, .int (x1 + v4)), (0, .ref a0)]) (v := 1) K d_c7_andsOfAll_21 2 rfl (by decide) rfl rfl ?_
      refine g_goto K d_c7_andsOfAll_24 ?_
      refine g_sub (ls2 := [(0, .ref a0), (1, .int (x1 + v4)), (2, .int (x2 + (1 : Int32)))]) [2, 1, 0] rfl ?_
      exact ih _ _ _ hy hE
set_option maxHeartbeats 4000000 in
set_option maxRecDepth 100000 in
theorem ct_c7_andsOfAll (l : Launch) (X : gX) (hx : gEx X = false) (N : Nat) (a0 : Nat) (h : gH) (q : Int32) (hy : f_c7_andsOfAll N a0 h = some q) : gRc y_c7_andsOfAll h a0 ∧ gMi l X y_c7_andsOfAll b_c7_andsOfAll 3 .int (1 + N) 0 0 [.ref a0] h q h := by
  unfold f_c7_andsOfAll at hy
  obtain ⟨u0, e_u0, hy⟩ := gBd hy
  cases u0
  refine ⟨Or.inl ⟨7, _, _, e_u0, rfl⟩, gMet_i (lsx := [(0, .ref a0)]) (by decide) rfl rfl ?_⟩
  intro M hMl K hret
  subst hMl
  refine g_iconst (v := 0) K d_c7_andsOfAll_0 (by decide) ?_
  refine g_istore_n (ls2 := [(1, .int (0 : Int32)), (0, .ref a0)]) K d_c7_andsOfAll_1 rfl rfl ?_
  refine g_iconst (v := 0) K d_c7_andsOfAll_2 (by decide) ?_
  refine g_istore_n (ls2 := [(2, .int (0 : Int32)), (1, .int (0 : Int32)), (0, .ref a0)]) K d_c7_andsOfAll_3 rfl rfl ?_
  obtain ⟨o5, e_o5, hy⟩ := gBd hy
  refine g_sub (ls2 := [(0, .ref a0), (1, .int (0 : Int32)), (2, .int (0 : Int32))]) [2, 1, 0] rfl ?_
  refine wlp_c7_andsOfAll_4 hx K a0 h N (0 : Int32) (0 : Int32) o5 e_o5 ?_
  refine g_iload_n K d_c7_andsOfAll_27 0 rfl ?_
  obtain rfl := Option.some.inj hy
  exact hret rfl _ _ _ d_c7_andsOfAll_28
-- c7 depth
theorem d_c7_depth_0 : gD b_c7_depth 0 (.aload_n 0) 1 1 := ⟨by decide +kernel, rfl⟩
theorem d_c7_depth_1 : gD b_c7_depth 1 (.getfield 18) 3 4 := ⟨by decide +kernel, rfl⟩
theorem d_c7_depth_4 : gD b_c7_depth 4 (.iload_n 1) 1 5 := ⟨by decide +kernel, rfl⟩
theorem d_c7_depth_5 : gD b_c7_depth 5 .iaload 1 6 := ⟨by decide +kernel, rfl⟩
theorem d_c7_depth_6 : gD b_c7_depth 6 (.iconst 1) 1 7 := ⟨by decide +kernel, rfl⟩
theorem d_c7_depth_7 : gJ b_c7_depth 7 (.if_icmp .ne 15) 3 15 10 22 := ⟨by decide +kernel, rfl, by decide⟩
theorem d_c7_depth_10 : gD b_c7_depth 10 (.bipush 10) 2 12 := ⟨by decide +kernel, rfl⟩
theorem d_c7_depth_12 : gD b_c7_depth 12 (.aload_n 0) 1 13 := ⟨by decide +kernel, rfl⟩
theorem d_c7_depth_13 : gD b_c7_depth 13 (.getfield 15) 3 16 := ⟨by decide +kernel, rfl⟩
theorem d_c7_depth_16 : gD b_c7_depth 16 (.iload_n 1) 1 17 := ⟨by decide +kernel, rfl⟩
theorem d_c7_depth_17 : gD b_c7_depth 17 .iaload 1 18 := ⟨by decide +kernel, rfl⟩
theorem d_c7_depth_18 : gD b_c7_depth 18 .isub 1 19 := ⟨by decide +kernel, rfl⟩
theorem d_c7_depth_19 : gJ b_c7_depth 19 (.goto 4) 3 4 22 23 := ⟨by decide +kernel, rfl, by decide⟩
theorem d_c7_depth_22 : gD b_c7_depth 22 (.iconst 1) 1 23 := ⟨by decide +kernel, rfl⟩
theorem d_c7_depth_23 : gD b_c7_depth 23 .ireturn 1 24 := ⟨by decide +kernel, rfl⟩
def f_c7_depth (N : Nat) (a0 : Nat) (x1 : Int32) (h : gH) : Option (Int32) :=
  (gcl h a0 7).bind fun _ =>
  (gfR h a0 7 3).bind fun v1 =>
    (ga 0 h v1 x1).bind fun v2 =>
    (show Option (Int32) from if v2 = (1 : Int32) then
    (gfR h a0 7 2).bind fun v6 =>
    (ga 0 h v6 x1).bind fun v7 =>
    some ((10 : Int32) - v7)
  else
    some (1 : Int32)).bind fun t4 =>
    some t4
set_option maxHeartbeats 4000000 in
set_option maxRecDepth 100000 in
theorem ct_c7_depth (l : Launch) (X : gX) (hx : gEx X = false) (N : Nat) (a0 : Nat) (x1 : Int32) (h : gH) (q : Int32) (hy : f_c7_depth N a0 x1 h = some q) : gRc y_c7_depth h a0 ∧ gMi l X y_c7_depth b_c7_depth 2 .int (1 + N) 0 0 [.ref a0, .int x1] h q h := by
  unfold f_c7_depth at hy
  obtain ⟨u0, e_u0, hy⟩ := gBd hy
  cases u0
  refine ⟨Or.inl ⟨7, _, _, e_u0, rfl⟩, gMet_i (lsx := [(0, .ref a0), (1, .int x1)]) (by decide) rfl rfl ?_⟩
  intro M hMl K hret
  subst hMl
  refine g_aload_n K d_c7_depth_0 0 rfl ?_
  obtain ⟨v1, e_v1, hy⟩ := gBd hy
  refine g_getR K fl_c7_18 d_c7_depth_1 e_v1 ?_
  refine g_iload_n K d_c7_depth_4 1 rfl ?_
  obtain ⟨v2, e_v2, hy⟩ := gBd hy
  refine g_iald K d_c7_depth_5 e_v2 ?_
  refine g_iconst (v := 1) K d_c7_depth_6 (by decide) ?_
  obtain ⟨t4, e_t4, hy⟩ := gBd hy
  have hJ5 : gG M X 2 0 0 23 [] [.int t4] h := by
    obtain rfl := Option.some.inj hy
    exact hret rfl _ _ _ d_c7_depth_23
  refine g_icmp_ne K d_c7_depth_7 (fun c3 => ?_) (fun c3 => ?_)
  · rw [if_neg c3] at e_t4
    refine g_iconst (v := 1) K d_c7_depth_22 (by decide) ?_
    refine g_sub (ls2 := []) [] rfl ?_
    obtain rfl := Option.some.inj e_t4
    exact hJ5
  · rw [if_pos c3] at e_t4
    refine g_bipush (v := 10) K d_c7_depth_10 (by decide) ?_
    refine g_aload_n K d_c7_depth_12 0 rfl ?_
    obtain ⟨v6, e_v6, e_t4⟩ := gBd e_t4
    refine g_getR K fl_c7_15 d_c7_depth_13 e_v6 ?_
    refine g_iload_n K d_c7_depth_16 1 rfl ?_
    obtain ⟨v7, e_v7, e_t4⟩ := gBd e_t4
    refine g_iald K d_c7_depth_17 e_v7 ?_
    refine g_isub K d_c7_depth_18 ?_
    refine g_goto K d_c7_depth_19 ?_
    refine g_sub (ls2 := []) [] rfl ?_
    obtain rfl := Option.some.inj e_t4
    exact hJ5
-- c7 dryOnes
theorem d_c7_dryOnes_0 : gD b_c7_dryOnes 0 (.iconst 0) 1 1 := ⟨by decide +kernel, rfl⟩
theorem d_c7_dryOnes_1 : gD b_c7_dryOnes 1 (.istore_n 1) 1 2 := ⟨by decide +kernel, rfl⟩
theorem d_c7_dryOnes_2 : gD b_c7_dryOnes 2 (.iconst 0) 1 3 := ⟨by decide +kernel, rfl⟩
theorem d_c7_dryOnes_3 : gD b_c7_dryOnes 3 (.istore_n 2) 1 4 := ⟨by decide +kernel, rfl⟩
theorem d_c7_dryOnes_4 : gD b_c7_dryOnes 4 (.iload_n 2) 1 5 := ⟨by decide +kernel, rfl⟩
theorem d_c7_dryOnes_5 : gD b_c7_dryOnes 5 (.aload_n 0) 1 6 := ⟨by decide +kernel, rfl⟩
theorem d_c7_dryOnes_6 : gD b_c7_dryOnes 6 (.getfield 27) 3 9 := ⟨by decide +kernel, rfl⟩
theorem d_c7_dryOnes_9 : gJ b_c7_dryOnes 9 (.if_icmp .ge 24) 3 24 12 33 := ⟨by decide +kernel, rfl, by decide⟩
theorem d_c7_dryOnes_12 : gD b_c7_dryOnes 12 (.aload_n 0) 1 13 := ⟨by decide +kernel, rfl⟩
theorem d_c7_dryOnes_13 : gD b_c7_dryOnes 13 (.getfield 24) 3 16 := ⟨by decide +kernel, rfl⟩
theorem d_c7_dryOnes_16 : gD b_c7_dryOnes 16 (.iload_n 2) 1 17 := ⟨by decide +kernel, rfl⟩
theorem d_c7_dryOnes_17 : gD b_c7_dryOnes 17 .iaload 1 18 := ⟨by decide +kernel, rfl⟩
theorem d_c7_dryOnes_18 : gJ b_c7_dryOnes 18 (.ifCond .ne 9) 3 9 21 27 := ⟨by decide +kernel, rfl, by decide⟩
theorem d_c7_dryOnes_21 : gD b_c7_dryOnes 21 (.iload_n 1) 1 22 := ⟨by decide +kernel, rfl⟩
theorem d_c7_dryOnes_22 : gD b_c7_dryOnes 22 (.iconst 1) 1 23 := ⟨by decide +kernel, rfl⟩
theorem d_c7_dryOnes_23 : gD b_c7_dryOnes 23 (.iload_n 2) 1 24 := ⟨by decide +kernel, rfl⟩
theorem d_c7_dryOnes_24 : gD b_c7_dryOnes 24 .ishl 1 25 := ⟨by decide +kernel, rfl⟩
theorem d_c7_dryOnes_25 : gD b_c7_dryOnes 25 .ior 1 26 := ⟨by decide +kernel, rfl⟩
theorem d_c7_dryOnes_26 : gD b_c7_dryOnes 26 (.istore_n 1) 1 27 := ⟨by decide +kernel, rfl⟩
theorem d_c7_dryOnes_27 : gD b_c7_dryOnes 27 (.iinc 2 1) 3 30 := ⟨by decide +kernel, rfl⟩
theorem d_c7_dryOnes_30 : gJ b_c7_dryOnes 30 (.goto (-26)) 3 (-26) 33 4 := ⟨by decide +kernel, rfl, by decide⟩
theorem d_c7_dryOnes_33 : gD b_c7_dryOnes 33 (.iload_n 1) 1 34 := ⟨by decide +kernel, rfl⟩
theorem d_c7_dryOnes_34 : gD b_c7_dryOnes 34 .ireturn 1 35 := ⟨by decide +kernel, rfl⟩
def lp_c7_dryOnes_4 (N : Nat) (a0 : Nat) (h : gH) : Nat → Int32 → Int32 → Option (Int32)
  | 0, _, _ => none
  | k + 1, x1, x2 =>
  (gfI h a0 7 0).bind fun v1 =>
    if v1 ≤ x2 then
    some x1
  else
    (gfR h a0 7 5).bind fun v3 =>
    (ga 0 h v3 x2).bind fun v4 =>
    (show Option (Int32) from if v4 = 0 then
    some (x1 ||| ((1 : Int32) <<< (x2 &&& 31)))
  else
    some x1).bind fun t6 =>
    lp_c7_dryOnes_4 N a0 h k t6 (x2 + (1 : Int32))
def f_c7_dryOnes (N : Nat) (a0 : Nat) (h : gH) : Option (Int32) :=
  (gcl h a0 7).bind fun _ =>
  (lp_c7_dryOnes_4 N a0 h N (0 : Int32) (0 : Int32)).bind fun o8 =>
    some o8
set_option maxHeartbeats 4000000 in
set_option maxRecDepth 100000 in
theorem wlp_c7_dryOnes_4 {M : gM} {X : gX} {N : Nat} (hx : gEx X = false) (K : gC M X gN7 b_c7_dryOnes 3 (gRm (1 + N) 0 0)) (a0 : Nat) (h : gH) : ∀ (k : Nat) (x1 : Int32) (x2 : Int32) (o : Int32), lp_c7_dryOnes_4 N a0 h k x1 x2 = some o → gG M X 3 0 0 33 [(1, .int o)] [] h → gG M X 3 0 0 4 [(0, .ref a0), (1, .int x1), (2, .int x2)] [] h := by
  intro k
  induction k with
  | zero =>
    intro x1 x2 o hy
    rw [lp_c7_dryOnes_4.eq_1] at hy
    cases hy
  | succ k ih =>
    intro x1 x2 o hy hE
    rw [lp_c7_dryOnes_4.eq_2] at hy
    refine g_iload_n K d_c7_dryOnes_4 2 rfl ?_
    refine g_aload_n K d_c7_dryOnes_5 0 rfl ?_
    obtain ⟨v1, e_v1, hy⟩ := gBd hy
    refine g_getI K fl_c7_27 d_c7_dryOnes_6 e_v1 ?_
    refine g_icmp_ge K d_c7_dryOnes_9 (fun c2 => ?_) (fun c2 => ?_)
    · rw [if_pos c2] at hy
      refine g_sub (ls2 := [(1, .int x1)]) [1] rfl ?_
      obtain rfl := Option.some.inj hy
      exact hE
    · rw [if_neg c2] at hy
      refine g_aload_n K d_c7_dryOnes_12 0 rfl ?_
      obtain ⟨v3, e_v3, hy⟩ := gBd hy
      refine g_getR K fl_c7_24 d_c7_dryOnes_13 e_v3 ?_
      refine g_iload_n K d_c7_dryOnes_16 2 rfl ?_
      obtain ⟨v4, e_v4, hy⟩ := gBd hy
      refine g_iald K d_c7_dryOnes_17 e_v4 ?_
      obtain ⟨t6, e_t6, hy⟩ := gBd hy
      have hJ7 : gG M X 3 0 0 27 [(0, .ref a0), (1, .int t6), (2, .int x2)] [] h := by
        refine g_iinc (ls2 := [(2, .int (x2 + (1 : Int32))), (0, .ref a0), (1, .int t6)]) (v := 1) K d_c7_dryOnes_27 2 rfl (by decide) rfl rfl ?_
        refine g_goto K d_c7_dryOnes_30 ?_
        refine g_sub (ls2 := [(0, .ref a0), (1, .int t6), (2, .int (x2 + (1 : Int32)))]) [1, 2, 0] rfl ?_
        exact ih _ _ _ hy hE
      refine g_if_ne K d_c7_dryOnes_18 (fun c5 => ?_) (fun c5 => ?_)
      · rw [if_neg c5] at e_t6
        obtain rfl := Option.some.inj e_t6
        exact hJ7
      · rw [if_pos c5] at e_t6
        refine g_iload_n K d_c7_dryOnes_21 1 rfl ?_
        refine g_iconst (v := 1) K d_c7_dryOnes_22 (by decide) ?_
        refine g_iload_n K d_c7_dryOnes_23 2 rfl ?_
        refine g_ishl K d_c7_dryOnes_24 ?_
        refine g_ior K d_c7_dryOnes_25 ?_
        refine g_istore_n (ls2 := [(1, .int (x1 ||| ((1 : Int32) <<< (x2 &&& 31)))), (0, .ref a0), (2, .int x2)]) K d_c7_dryOnes_26 rfl rfl ?_
        refine g_sub (ls2 := [(0, .ref a0), (1, .int (x1 ||| ((1 : Int32) <<< (x2 &&& 31)))), (2, .int x2)]) [1, 0, 2] rfl ?_
        obtain rfl := Option.some.inj e_t6
        exact hJ7
set_option maxHeartbeats 4000000 in
set_option maxRecDepth 100000 in
theorem ct_c7_dryOnes (l : Launch) (X : gX) (hx : gEx X = false) (N : Nat) (a0 : Nat) (h : gH) (q : Int32) (hy : f_c7_dryOnes N a0 h = some q) : gRc y_c7_dryOnes h a0 ∧ gMi l X y_c7_dryOnes b_c7_dryOnes 3 .int (1 + N) 0 0 [.ref a0] h q h := by
  unfold f_c7_dryOnes at hy
  obtain ⟨u0, e_u0, hy⟩ := gBd hy
  cases u0
  refine ⟨Or.inl ⟨7, _, _, e_u0, rfl⟩, gMet_i (lsx := [(0, .ref a0)]) (by decide) rfl rfl ?_⟩
  intro M hMl K hret
  subst hMl
  refine g_iconst (v := 0) K d_c7_dryOnes_0 (by decide) ?_
  refine g_istore_n (ls2 := [(1, .int (0 : Int32)), (0, .ref a0)]) K d_c7_dryOnes_1 rfl rfl ?_
  refine g_iconst (v := 0) K d_c7_dryOnes_2 (by decide) ?_
  refine g_istore_n (ls2 := [(2, .int (0 : Int32)), (1, .int (0 : Int32)), (0, .ref a0)]) K d_c7_dryOnes_3 rfl rfl ?_
  obtain ⟨o8, e_o8, hy⟩ := gBd hy
  refine g_sub (ls2 := [(0, .ref a0), (1, .int (0 : Int32)), (2, .int (0 : Int32))]) [2, 1, 0] rfl ?_
  refine wlp_c7_dryOnes_4 hx K a0 h N (0 : Int32) (0 : Int32) o8 e_o8 ?_
  refine g_iload_n K d_c7_dryOnes_33 0 rfl ?_
  obtain rfl := Option.some.inj hy
  exact hret rfl _ _ _ d_c7_dryOnes_34
-- c7 empty
theorem d_c7_empty_0 : gD b_c7_empty 0 (.aload_n 0) 1 1 := ⟨by decide +kernel, rfl⟩
theorem d_c7_empty_1 : gD b_c7_empty 1 (.iconst 0) 1 2 := ⟨by decide +kernel, rfl⟩
theorem d_c7_empty_2 : gD b_c7_empty 2 (.putfield 27) 3 5 := ⟨by decide +kernel, rfl⟩
theorem d_c7_empty_5 : gD b_c7_empty 5 (.aload_n 0) 1 6 := ⟨by decide +kernel, rfl⟩
theorem d_c7_empty_6 : gD b_c7_empty 6 (.iconst 0) 1 7 := ⟨by decide +kernel, rfl⟩
theorem d_c7_empty_7 : gD b_c7_empty 7 (.putfield 31) 3 10 := ⟨by decide +kernel, rfl⟩
theorem d_c7_empty_10 : gD b_c7_empty 10 (.aload_n 0) 1 11 := ⟨by decide +kernel, rfl⟩
theorem d_c7_empty_11 : gD b_c7_empty 11 (.iconst 0) 1 12 := ⟨by decide +kernel, rfl⟩
theorem d_c7_empty_12 : gD b_c7_empty 12 (.putfield 34) 3 15 := ⟨by decide +kernel, rfl⟩
theorem d_c7_empty_15 : gD b_c7_empty 15 .return_ 1 16 := ⟨by decide +kernel, rfl⟩
def f_c7_empty (N : Nat) (a0 : Nat) (h : gH) : Option (gH) :=
  (gcl h a0 7).bind fun _ =>
  (sf h a0 7 0 (.int (0 : Int32))).bind fun h1 =>
    (sf h1 a0 7 6 (.int (0 : Int32))).bind fun h2 =>
    (sf h2 a0 7 7 (.int (0 : Int32))).bind fun h3 =>
    some h3
set_option maxHeartbeats 4000000 in
set_option maxRecDepth 100000 in
theorem ct_c7_empty (l : Launch) (X : gX) (hx : gEx X = false) (N : Nat) (a0 : Nat) (h : gH) (q : gH) (hy : f_c7_empty N a0 h = some q) : gRc y_c7_empty h a0 ∧ gMv l X y_c7_empty b_c7_empty 1 (1 + N) 0 0 [.ref a0] h q := by
  unfold f_c7_empty at hy
  obtain ⟨u0, e_u0, hy⟩ := gBd hy
  cases u0
  refine ⟨Or.inl ⟨7, _, _, e_u0, rfl⟩, gMet_v (lsx := [(0, .ref a0)]) (by decide) rfl rfl ?_⟩
  intro M hMl K hret
  subst hMl
  refine g_aload_n K d_c7_empty_0 0 rfl ?_
  refine g_iconst (v := 0) K d_c7_empty_1 (by decide) ?_
  obtain ⟨h1, e_h1, hy⟩ := gBd hy
  refine g_putI K fp_c7_27 d_c7_empty_2 e_h1 ?_
  refine g_aload_n K d_c7_empty_5 0 rfl ?_
  refine g_iconst (v := 0) K d_c7_empty_6 (by decide) ?_
  obtain ⟨h2, e_h2, hy⟩ := gBd hy
  refine g_putI K fp_c7_31 d_c7_empty_7 e_h2 ?_
  refine g_aload_n K d_c7_empty_10 0 rfl ?_
  refine g_iconst (v := 0) K d_c7_empty_11 (by decide) ?_
  obtain ⟨h3, e_h3, hy⟩ := gBd hy
  refine g_putI K fp_c7_34 d_c7_empty_12 e_h3 ?_
  obtain rfl := Option.some.inj hy
  exact hret _ _ _ d_c7_empty_15
-- c7 has
theorem d_c7_has_0 : gD b_c7_has 0 (.iload_n 1) 1 1 := ⟨by decide +kernel, rfl⟩
theorem d_c7_has_1 : gJ b_c7_has 1 (.ifCond .lt 15) 3 15 4 16 := ⟨by decide +kernel, rfl, by decide⟩
theorem d_c7_has_4 : gD b_c7_has 4 (.iload_n 1) 1 5 := ⟨by decide +kernel, rfl⟩
theorem d_c7_has_5 : gD b_c7_has 5 (.aload_n 0) 1 6 := ⟨by decide +kernel, rfl⟩
theorem d_c7_has_6 : gD b_c7_has 6 (.getfield 27) 3 9 := ⟨by decide +kernel, rfl⟩
theorem d_c7_has_9 : gJ b_c7_has 9 (.if_icmp .ge 7) 3 7 12 16 := ⟨by decide +kernel, rfl, by decide⟩
theorem d_c7_has_12 : gD b_c7_has 12 (.iconst 1) 1 13 := ⟨by decide +kernel, rfl⟩
theorem d_c7_has_13 : gJ b_c7_has 13 (.goto 4) 3 4 16 17 := ⟨by decide +kernel, rfl, by decide⟩
theorem d_c7_has_16 : gD b_c7_has 16 (.iconst 0) 1 17 := ⟨by decide +kernel, rfl⟩
theorem d_c7_has_17 : gD b_c7_has 17 .ireturn 1 18 := ⟨by decide +kernel, rfl⟩
def f_c7_has (N : Nat) (a0 : Nat) (x1 : Int32) (h : gH) : Option (Int32) :=
  (gcl h a0 7).bind fun _ =>
  (show Option (Int32) from if x1 < 0 then
    some (0 : Int32)
  else
    (gfI h a0 7 0).bind fun v5 =>
    if v5 ≤ x1 then
    some (0 : Int32)
  else
    some (1 : Int32)).bind fun t2 =>
    (gZ t2).bind fun w4 => some w4
set_option maxHeartbeats 4000000 in
set_option maxRecDepth 100000 in
theorem ct_c7_has (l : Launch) (X : gX) (hx : gEx X = false) (N : Nat) (a0 : Nat) (x1 : Int32) (h : gH) (q : Int32) (hy : f_c7_has N a0 x1 h = some q) : gRc y_c7_has h a0 ∧ gMi l X y_c7_has b_c7_has 2 .boolean (1 + N) 0 0 [.ref a0, .int x1] h q h := by
  unfold f_c7_has at hy
  obtain ⟨u0, e_u0, hy⟩ := gBd hy
  cases u0
  refine ⟨Or.inl ⟨7, _, _, e_u0, rfl⟩, gMet_i (lsx := [(0, .ref a0), (1, .int x1)]) (by decide) rfl rfl ?_⟩
  intro M hMl K hret
  subst hMl
  refine g_iload_n K d_c7_has_0 1 rfl ?_
  obtain ⟨t2, e_t2, hy⟩ := gBd hy
  have hJ3 : gG M X 2 0 0 17 [] [.int t2] h := by
    obtain ⟨w4, e_w4, hy⟩ := gBd hy
    obtain ⟨z_w4, n_w4⟩ := gZ_spec e_w4
    rw [z_w4]
    obtain rfl := Option.some.inj hy
    exact hret (gZn n_w4) _ _ _ d_c7_has_17
  refine g_if_lt K d_c7_has_1 (fun c1 => ?_) (fun c1 => ?_)
  · rw [if_pos c1] at e_t2
    refine g_iconst (v := 0) K d_c7_has_16 (by decide) ?_
    refine g_sub (ls2 := []) [] rfl ?_
    obtain rfl := Option.some.inj e_t2
    exact hJ3
  · rw [if_neg c1] at e_t2
    refine g_iload_n K d_c7_has_4 1 rfl ?_
    refine g_aload_n K d_c7_has_5 0 rfl ?_
    obtain ⟨v5, e_v5, e_t2⟩ := gBd e_t2
    refine g_getI K fl_c7_27 d_c7_has_6 e_v5 ?_
    refine g_icmp_ge K d_c7_has_9 (fun c6 => ?_) (fun c6 => ?_)
    · rw [if_pos c6] at e_t2
      refine g_iconst (v := 0) K d_c7_has_16 (by decide) ?_
      refine g_sub (ls2 := []) [] rfl ?_
      obtain rfl := Option.some.inj e_t2
      exact hJ3
    · rw [if_neg c6] at e_t2
      refine g_iconst (v := 1) K d_c7_has_12 (by decide) ?_
      refine g_goto K d_c7_has_13 ?_
      refine g_sub (ls2 := []) [] rfl ?_
      obtain rfl := Option.some.inj e_t2
      exact hJ3
-- c7 setFrom
theorem d_c7_setFrom_0 : gD b_c7_setFrom 0 (.aload_n 0) 1 1 := ⟨by decide +kernel, rfl⟩
theorem d_c7_setFrom_1 : gD b_c7_setFrom 1 (.getfield 9) 3 4 := ⟨by decide +kernel, rfl⟩
theorem d_c7_setFrom_4 : gD b_c7_setFrom 4 (.iload_n 3) 1 5 := ⟨by decide +kernel, rfl⟩
theorem d_c7_setFrom_5 : gD b_c7_setFrom 5 (.aload_n 1) 1 6 := ⟨by decide +kernel, rfl⟩
theorem d_c7_setFrom_6 : gD b_c7_setFrom 6 (.getfield 9) 3 9 := ⟨by decide +kernel, rfl⟩
theorem d_c7_setFrom_9 : gD b_c7_setFrom 9 (.iload_n 2) 1 10 := ⟨by decide +kernel, rfl⟩
theorem d_c7_setFrom_10 : gD b_c7_setFrom 10 .iaload 1 11 := ⟨by decide +kernel, rfl⟩
theorem d_c7_setFrom_11 : gD b_c7_setFrom 11 .iastore 1 12 := ⟨by decide +kernel, rfl⟩
theorem d_c7_setFrom_12 : gD b_c7_setFrom 12 (.aload_n 0) 1 13 := ⟨by decide +kernel, rfl⟩
theorem d_c7_setFrom_13 : gD b_c7_setFrom 13 (.getfield 15) 3 16 := ⟨by decide +kernel, rfl⟩
theorem d_c7_setFrom_16 : gD b_c7_setFrom 16 (.iload_n 3) 1 17 := ⟨by decide +kernel, rfl⟩
theorem d_c7_setFrom_17 : gD b_c7_setFrom 17 (.aload_n 1) 1 18 := ⟨by decide +kernel, rfl⟩
theorem d_c7_setFrom_18 : gD b_c7_setFrom 18 (.getfield 15) 3 21 := ⟨by decide +kernel, rfl⟩
theorem d_c7_setFrom_21 : gD b_c7_setFrom 21 (.iload_n 2) 1 22 := ⟨by decide +kernel, rfl⟩
theorem d_c7_setFrom_22 : gD b_c7_setFrom 22 .iaload 1 23 := ⟨by decide +kernel, rfl⟩
theorem d_c7_setFrom_23 : gD b_c7_setFrom 23 .iastore 1 24 := ⟨by decide +kernel, rfl⟩
theorem d_c7_setFrom_24 : gD b_c7_setFrom 24 (.aload_n 0) 1 25 := ⟨by decide +kernel, rfl⟩
theorem d_c7_setFrom_25 : gD b_c7_setFrom 25 (.getfield 18) 3 28 := ⟨by decide +kernel, rfl⟩
theorem d_c7_setFrom_28 : gD b_c7_setFrom 28 (.iload_n 3) 1 29 := ⟨by decide +kernel, rfl⟩
theorem d_c7_setFrom_29 : gD b_c7_setFrom 29 (.aload_n 1) 1 30 := ⟨by decide +kernel, rfl⟩
theorem d_c7_setFrom_30 : gD b_c7_setFrom 30 (.getfield 18) 3 33 := ⟨by decide +kernel, rfl⟩
theorem d_c7_setFrom_33 : gD b_c7_setFrom 33 (.iload_n 2) 1 34 := ⟨by decide +kernel, rfl⟩
theorem d_c7_setFrom_34 : gD b_c7_setFrom 34 .iaload 1 35 := ⟨by decide +kernel, rfl⟩
theorem d_c7_setFrom_35 : gD b_c7_setFrom 35 .iastore 1 36 := ⟨by decide +kernel, rfl⟩
theorem d_c7_setFrom_36 : gD b_c7_setFrom 36 (.aload_n 0) 1 37 := ⟨by decide +kernel, rfl⟩
theorem d_c7_setFrom_37 : gD b_c7_setFrom 37 (.getfield 21) 3 40 := ⟨by decide +kernel, rfl⟩
theorem d_c7_setFrom_40 : gD b_c7_setFrom 40 (.iload_n 3) 1 41 := ⟨by decide +kernel, rfl⟩
theorem d_c7_setFrom_41 : gD b_c7_setFrom 41 (.aload_n 1) 1 42 := ⟨by decide +kernel, rfl⟩
theorem d_c7_setFrom_42 : gD b_c7_setFrom 42 (.getfield 21) 3 45 := ⟨by decide +kernel, rfl⟩
theorem d_c7_setFrom_45 : gD b_c7_setFrom 45 (.iload_n 2) 1 46 := ⟨by decide +kernel, rfl⟩
theorem d_c7_setFrom_46 : gD b_c7_setFrom 46 .iaload 1 47 := ⟨by decide +kernel, rfl⟩
theorem d_c7_setFrom_47 : gD b_c7_setFrom 47 .iastore 1 48 := ⟨by decide +kernel, rfl⟩
theorem d_c7_setFrom_48 : gD b_c7_setFrom 48 (.aload_n 0) 1 49 := ⟨by decide +kernel, rfl⟩
theorem d_c7_setFrom_49 : gD b_c7_setFrom 49 (.getfield 24) 3 52 := ⟨by decide +kernel, rfl⟩
theorem d_c7_setFrom_52 : gD b_c7_setFrom 52 (.iload_n 3) 1 53 := ⟨by decide +kernel, rfl⟩
theorem d_c7_setFrom_53 : gD b_c7_setFrom 53 (.aload_n 1) 1 54 := ⟨by decide +kernel, rfl⟩
theorem d_c7_setFrom_54 : gD b_c7_setFrom 54 (.getfield 24) 3 57 := ⟨by decide +kernel, rfl⟩
theorem d_c7_setFrom_57 : gD b_c7_setFrom 57 (.iload_n 2) 1 58 := ⟨by decide +kernel, rfl⟩
theorem d_c7_setFrom_58 : gD b_c7_setFrom 58 .iaload 1 59 := ⟨by decide +kernel, rfl⟩
theorem d_c7_setFrom_59 : gD b_c7_setFrom 59 .iastore 1 60 := ⟨by decide +kernel, rfl⟩
theorem d_c7_setFrom_60 : gD b_c7_setFrom 60 .return_ 1 61 := ⟨by decide +kernel, rfl⟩
def f_c7_setFrom (N : Nat) (a0 : Nat) (a1 : Nat) (x2 : Int32) (x3 : Int32) (h : gH) : Option (gH) :=
  (gcl h a0 7).bind fun _ =>
  (gfR h a0 7 1).bind fun v1 =>
    (gfR h a1 7 1).bind fun v2 =>
    (ga 0 h v2 x2).bind fun v3 =>
    (sa 0 h v1 x3 v3).bind fun h4 =>
    (gfR h4 a0 7 2).bind fun v5 =>
    (gfR h4 a1 7 2).bind fun v6 =>
    (ga 0 h4 v6 x2).bind fun v7 =>
    (sa 0 h4 v5 x3 v7).bind fun h8 =>
    (gfR h8 a0 7 3).bind fun v9 =>
    (gfR h8 a1 7 3).bind fun v10 =>
    (ga 0 h8 v10 x2).bind fun v11 =>
    (sa 0 h8 v9 x3 v11).bind fun h12 =>
    (gfR h12 a0 7 4).bind fun v13 =>
    (gfR h12 a1 7 4).bind fun v14 =>
    (ga 0 h12 v14 x2).bind fun v15 =>
    (sa 0 h12 v13 x3 v15).bind fun h16 =>
    (gfR h16 a0 7 5).bind fun v17 =>
    (gfR h16 a1 7 5).bind fun v18 =>
    (ga 0 h16 v18 x2).bind fun v19 =>
    (sa 0 h16 v17 x3 v19).bind fun h20 =>
    some h20
set_option maxHeartbeats 4000000 in
set_option maxRecDepth 100000 in
theorem ct_c7_setFrom (l : Launch) (X : gX) (hx : gEx X = false) (N : Nat) (a0 : Nat) (a1 : Nat) (x2 : Int32) (x3 : Int32) (h : gH) (q : gH) (hy : f_c7_setFrom N a0 a1 x2 x3 h = some q) : gRc y_c7_setFrom h a0 ∧ gMv l X y_c7_setFrom b_c7_setFrom 4 (1 + N) 0 0 [.ref a0, .ref a1, .int x2, .int x3] h q := by
  unfold f_c7_setFrom at hy
  obtain ⟨u0, e_u0, hy⟩ := gBd hy
  cases u0
  refine ⟨Or.inl ⟨7, _, _, e_u0, rfl⟩, gMet_v (lsx := [(0, .ref a0), (1, .ref a1), (2, .int x2), (3, .int x3)]) (by decide) rfl rfl ?_⟩
  intro M hMl K hret
  subst hMl
  refine g_aload_n K d_c7_setFrom_0 0 rfl ?_
  obtain ⟨v1, e_v1, hy⟩ := gBd hy
  refine g_getR K fl_c7_9 d_c7_setFrom_1 e_v1 ?_
  refine g_iload_n K d_c7_setFrom_4 3 rfl ?_
  refine g_aload_n K d_c7_setFrom_5 1 rfl ?_
  obtain ⟨v2, e_v2, hy⟩ := gBd hy
  refine g_getR K fl_c7_9 d_c7_setFrom_6 e_v2 ?_
  refine g_iload_n K d_c7_setFrom_9 2 rfl ?_
  obtain ⟨v3, e_v3, hy⟩ := gBd hy
  refine g_iald K d_c7_setFrom_10 e_v3 ?_
  obtain ⟨h4, e_h4, hy⟩ := gBd hy
  refine g_iast K d_c7_setFrom_11 e_h4 ?_
  refine g_aload_n K d_c7_setFrom_12 0 rfl ?_
  obtain ⟨v5, e_v5, hy⟩ := gBd hy
  refine g_getR K fl_c7_15 d_c7_setFrom_13 e_v5 ?_
  refine g_iload_n K d_c7_setFrom_16 3 rfl ?_
  refine g_aload_n K d_c7_setFrom_17 1 rfl ?_
  obtain ⟨v6, e_v6, hy⟩ := gBd hy
  refine g_getR K fl_c7_15 d_c7_setFrom_18 e_v6 ?_
  refine g_iload_n K d_c7_setFrom_21 2 rfl ?_
  obtain ⟨v7, e_v7, hy⟩ := gBd hy
  refine g_iald K d_c7_setFrom_22 e_v7 ?_
  obtain ⟨h8, e_h8, hy⟩ := gBd hy
  refine g_iast K d_c7_setFrom_23 e_h8 ?_
  refine g_aload_n K d_c7_setFrom_24 0 rfl ?_
  obtain ⟨v9, e_v9, hy⟩ := gBd hy
  refine g_getR K fl_c7_18 d_c7_setFrom_25 e_v9 ?_
  refine g_iload_n K d_c7_setFrom_28 3 rfl ?_
  refine g_aload_n K d_c7_setFrom_29 1 rfl ?_
  obtain ⟨v10, e_v10, hy⟩ := gBd hy
  refine g_getR K fl_c7_18 d_c7_setFrom_30 e_v10 ?_
  refine g_iload_n K d_c7_setFrom_33 2 rfl ?_
  obtain ⟨v11, e_v11, hy⟩ := gBd hy
  refine g_iald K d_c7_setFrom_34 e_v11 ?_
  obtain ⟨h12, e_h12, hy⟩ := gBd hy
  refine g_iast K d_c7_setFrom_35 e_h12 ?_
  refine g_aload_n K d_c7_setFrom_36 0 rfl ?_
  obtain ⟨v13, e_v13, hy⟩ := gBd hy
  refine g_getR K fl_c7_21 d_c7_setFrom_37 e_v13 ?_
  refine g_iload_n K d_c7_setFrom_40 3 rfl ?_
  refine g_aload_n K d_c7_setFrom_41 1 rfl ?_
  obtain ⟨v14, e_v14, hy⟩ := gBd hy
  refine g_getR K fl_c7_21 d_c7_setFrom_42 e_v14 ?_
  refine g_iload_n K d_c7_setFrom_45 2 rfl ?_
  obtain ⟨v15, e_v15, hy⟩ := gBd hy
  refine g_iald K d_c7_setFrom_46 e_v15 ?_
  obtain ⟨h16, e_h16, hy⟩ := gBd hy
  refine g_iast K d_c7_setFrom_47 e_h16 ?_
  refine g_aload_n K d_c7_setFrom_48 0 rfl ?_
  obtain ⟨v17, e_v17, hy⟩ := gBd hy
  refine g_getR K fl_c7_24 d_c7_setFrom_49 e_v17 ?_
  refine g_iload_n K d_c7_setFrom_52 3 rfl ?_
  refine g_aload_n K d_c7_setFrom_53 1 rfl ?_
  obtain ⟨v18, e_v18, hy⟩ := gBd hy
  refine g_getR K fl_c7_24 d_c7_setFrom_54 e_v18 ?_
  refine g_iload_n K d_c7_setFrom_57 2 rfl ?_
  obtain ⟨v19, e_v19, hy⟩ := gBd hy
  refine g_iald K d_c7_setFrom_58 e_v19 ?_
  obtain ⟨h20, e_h20, hy⟩ := gBd hy
  refine g_iast K d_c7_setFrom_59 e_h20 ?_
  obtain rfl := Option.some.inj hy
  exact hret _ _ _ d_c7_setFrom_60
-- c7 waterOfAll
theorem d_c7_waterOfAll_0 : gD b_c7_waterOfAll 0 (.iconst 0) 1 1 := ⟨by decide +kernel, rfl⟩
theorem d_c7_waterOfAll_1 : gD b_c7_waterOfAll 1 (.istore_n 1) 1 2 := ⟨by decide +kernel, rfl⟩
theorem d_c7_waterOfAll_2 : gD b_c7_waterOfAll 2 (.iconst 0) 1 3 := ⟨by decide +kernel, rfl⟩
theorem d_c7_waterOfAll_3 : gD b_c7_waterOfAll 3 (.istore_n 2) 1 4 := ⟨by decide +kernel, rfl⟩
theorem d_c7_waterOfAll_4 : gD b_c7_waterOfAll 4 (.iload_n 2) 1 5 := ⟨by decide +kernel, rfl⟩
theorem d_c7_waterOfAll_5 : gD b_c7_waterOfAll 5 (.aload_n 0) 1 6 := ⟨by decide +kernel, rfl⟩
theorem d_c7_waterOfAll_6 : gD b_c7_waterOfAll 6 (.getfield 27) 3 9 := ⟨by decide +kernel, rfl⟩
theorem d_c7_waterOfAll_9 : gJ b_c7_waterOfAll 9 (.if_icmp .ge 18) 3 18 12 27 := ⟨by decide +kernel, rfl, by decide⟩
theorem d_c7_waterOfAll_12 : gD b_c7_waterOfAll 12 (.iload_n 1) 1 13 := ⟨by decide +kernel, rfl⟩
theorem d_c7_waterOfAll_13 : gD b_c7_waterOfAll 13 (.aload_n 0) 1 14 := ⟨by decide +kernel, rfl⟩
theorem d_c7_waterOfAll_14 : gD b_c7_waterOfAll 14 (.getfield 24) 3 17 := ⟨by decide +kernel, rfl⟩
theorem d_c7_waterOfAll_17 : gD b_c7_waterOfAll 17 (.iload_n 2) 1 18 := ⟨by decide +kernel, rfl⟩
theorem d_c7_waterOfAll_18 : gD b_c7_waterOfAll 18 .iaload 1 19 := ⟨by decide +kernel, rfl⟩
theorem d_c7_waterOfAll_19 : gD b_c7_waterOfAll 19 .iadd 1 20 := ⟨by decide +kernel, rfl⟩
theorem d_c7_waterOfAll_20 : gD b_c7_waterOfAll 20 (.istore_n 1) 1 21 := ⟨by decide +kernel, rfl⟩
theorem d_c7_waterOfAll_21 : gD b_c7_waterOfAll 21 (.iinc 2 1) 3 24 := ⟨by decide +kernel, rfl⟩
theorem d_c7_waterOfAll_24 : gJ b_c7_waterOfAll 24 (.goto (-20)) 3 (-20) 27 4 := ⟨by decide +kernel, rfl, by decide⟩
theorem d_c7_waterOfAll_27 : gD b_c7_waterOfAll 27 (.iload_n 1) 1 28 := ⟨by decide +kernel, rfl⟩
theorem d_c7_waterOfAll_28 : gD b_c7_waterOfAll 28 .ireturn 1 29 := ⟨by decide +kernel, rfl⟩
def lp_c7_waterOfAll_4 (N : Nat) (a0 : Nat) (h : gH) : Nat → Int32 → Int32 → Option (Int32)
  | 0, _, _ => none
  | k + 1, x1, x2 =>
  (gfI h a0 7 0).bind fun v1 =>
    if v1 ≤ x2 then
    some x1
  else
    (gfR h a0 7 5).bind fun v3 =>
    (ga 0 h v3 x2).bind fun v4 =>
    lp_c7_waterOfAll_4 N a0 h k (x1 + v4) (x2 + (1 : Int32))
def f_c7_waterOfAll (N : Nat) (a0 : Nat) (h : gH) : Option (Int32) :=
  (gcl h a0 7).bind fun _ =>
  (lp_c7_waterOfAll_4 N a0 h N (0 : Int32) (0 : Int32)).bind fun o5 =>
    some o5
set_option maxHeartbeats 4000000 in
set_option maxRecDepth 100000 in
theorem wlp_c7_waterOfAll_4 {M : gM} {X : gX} {N : Nat} (hx : gEx X = false) (K : gC M X gN7 b_c7_waterOfAll 3 (gRm (1 + N) 0 0)) (a0 : Nat) (h : gH) : ∀ (k : Nat) (x1 : Int32) (x2 : Int32) (o : Int32), lp_c7_waterOfAll_4 N a0 h k x1 x2 = some o → gG M X 3 0 0 27 [(1, .int o)] [] h → gG M X 3 0 0 4 [(0, .ref a0), (1, .int x1), (2, .int x2)] [] h := by
  intro k
  induction k with
  | zero =>
    intro x1 x2 o hy
    rw [lp_c7_waterOfAll_4.eq_1] at hy
    cases hy
  | succ k ih =>
    intro x1 x2 o hy hE
    rw [lp_c7_waterOfAll_4.eq_2] at hy
    refine g_iload_n K d_c7_waterOfAll_4 2 rfl ?_
    refine g_aload_n K d_c7_waterOfAll_5 0 rfl ?_
    obtain ⟨v1, e_v1, hy⟩ := gBd hy
    refine g_getI K fl_c7_27 d_c7_waterOfAll_6 e_v1 ?_
    refine g_icmp_ge K d_c7_waterOfAll_9 (fun c2 => ?_) (fun c2 => ?_)
    · rw [if_pos c2] at hy
      refine g_sub (ls2 := [(1, .int x1)]) [1] rfl ?_
      obtain rfl := Option.some.inj hy
      exact hE
    · rw [if_neg c2] at hy
      refine g_iload_n K d_c7_waterOfAll_12 1 rfl ?_
      refine g_aload_n K d_c7_waterOfAll_13 0 rfl ?_
      obtain ⟨v3, e_v3, hy⟩ := gBd hy
      refine g_getR K fl_c7_24 d_c7_waterOfAll_14 e_v3 ?_
      refine g_iload_n K d_c7_waterOfAll_17 2 rfl ?_
      obtain ⟨v4, e_v4, hy⟩ := gBd hy
      refine g_iald K d_c7_waterOfAll_18 e_v4 ?_
      refine g_iadd K d_c7_waterOfAll_19 ?_
      refine g_istore_n (ls2 := [(1, .int (x1 + v4)), (0, .ref a0), (2, .int x2)]) K d_c7_waterOfAll_20 rfl rfl ?_
      refine g_iinc (ls2 := [(2, .int (x2 + (1 : Int32))), (1, .int (x1 + v4)), (0, .ref a0)]) (v := 1) K d_c7_waterOfAll_21 2 rfl (by decide) rfl rfl ?_
      refine g_goto K d_c7_waterOfAll_24 ?_
      refine g_sub (ls2 := [(0, .ref a0), (1, .int (x1 + v4)), (2, .int (x2 + (1 : Int32)))]) [2, 1, 0] rfl ?_
      exact ih _ _ _ hy hE
set_option maxHeartbeats 4000000 in
set_option maxRecDepth 100000 in
theorem ct_c7_waterOfAll (l : Launch) (X : gX) (hx : gEx X = false) (N : Nat) (a0 : Nat) (h : gH) (q : Int32) (hy : f_c7_waterOfAll N a0 h = some q) : gRc y_c7_waterOfAll h a0 ∧ gMi l X y_c7_waterOfAll b_c7_waterOfAll 3 .int (1 + N) 0 0 [.ref a0] h q h := by
  unfold f_c7_waterOfAll at hy
  obtain ⟨u0, e_u0, hy⟩ := gBd hy
  cases u0
  refine ⟨Or.inl ⟨7, _, _, e_u0, rfl⟩, gMet_i (lsx := [(0, .ref a0)]) (by decide) rfl rfl ?_⟩
  intro M hMl K hret
  subst hMl
  refine g_iconst (v := 0) K d_c7_waterOfAll_0 (by decide) ?_
  refine g_istore_n (ls2 := [(1, .int (0 : Int32)), (0, .ref a0)]) K d_c7_waterOfAll_1 rfl rfl ?_
  refine g_iconst (v := 0) K d_c7_waterOfAll_2 (by decide) ?_
  refine g_istore_n (ls2 := [(2, .int (0 : Int32)), (1, .int (0 : Int32)), (0, .ref a0)]) K d_c7_waterOfAll_3 rfl rfl ?_
  obtain ⟨o5, e_o5, hy⟩ := gBd hy
  refine g_sub (ls2 := [(0, .ref a0), (1, .int (0 : Int32)), (2, .int (0 : Int32))]) [2, 1, 0] rfl ?_
  refine wlp_c7_waterOfAll_4 hx K a0 h N (0 : Int32) (0 : Int32) o5 e_o5 ?_
  refine g_iload_n K d_c7_waterOfAll_27 0 rfl ?_
  obtain rfl := Option.some.inj hy
  exact hret rfl _ _ _ d_c7_waterOfAll_28
-- c7 wellOn
theorem d_c7_wellOn_0 : gD b_c7_wellOn 0 (.iconst 0) 1 1 := ⟨by decide +kernel, rfl⟩
theorem d_c7_wellOn_1 : gD b_c7_wellOn 1 (.istore_n 2) 1 2 := ⟨by decide +kernel, rfl⟩
theorem d_c7_wellOn_2 : gD b_c7_wellOn 2 (.iload_n 2) 1 3 := ⟨by decide +kernel, rfl⟩
theorem d_c7_wellOn_3 : gD b_c7_wellOn 3 (.aload_n 0) 1 4 := ⟨by decide +kernel, rfl⟩
theorem d_c7_wellOn_4 : gD b_c7_wellOn 4 (.getfield 27) 3 7 := ⟨by decide +kernel, rfl⟩
theorem d_c7_wellOn_7 : gJ b_c7_wellOn 7 (.if_icmp .ge 21) 3 21 10 28 := ⟨by decide +kernel, rfl, by decide⟩
theorem d_c7_wellOn_10 : gD b_c7_wellOn 10 (.aload_n 0) 1 11 := ⟨by decide +kernel, rfl⟩
theorem d_c7_wellOn_11 : gD b_c7_wellOn 11 (.getfield 9) 3 14 := ⟨by decide +kernel, rfl⟩
theorem d_c7_wellOn_14 : gD b_c7_wellOn 14 (.iload_n 2) 1 15 := ⟨by decide +kernel, rfl⟩
theorem d_c7_wellOn_15 : gD b_c7_wellOn 15 .iaload 1 16 := ⟨by decide +kernel, rfl⟩
theorem d_c7_wellOn_16 : gD b_c7_wellOn 16 (.iload_n 1) 1 17 := ⟨by decide +kernel, rfl⟩
theorem d_c7_wellOn_17 : gJ b_c7_wellOn 17 (.if_icmp .ne 5) 3 5 20 22 := ⟨by decide +kernel, rfl, by decide⟩
theorem d_c7_wellOn_20 : gD b_c7_wellOn 20 (.iload_n 2) 1 21 := ⟨by decide +kernel, rfl⟩
theorem d_c7_wellOn_21 : gD b_c7_wellOn 21 .ireturn 1 22 := ⟨by decide +kernel, rfl⟩
theorem d_c7_wellOn_22 : gD b_c7_wellOn 22 (.iinc 2 1) 3 25 := ⟨by decide +kernel, rfl⟩
theorem d_c7_wellOn_25 : gJ b_c7_wellOn 25 (.goto (-23)) 3 (-23) 28 2 := ⟨by decide +kernel, rfl, by decide⟩
theorem d_c7_wellOn_28 : gD b_c7_wellOn 28 (.iconst (-1)) 1 29 := ⟨by decide +kernel, rfl⟩
theorem d_c7_wellOn_29 : gD b_c7_wellOn 29 .ireturn 1 30 := ⟨by decide +kernel, rfl⟩
def lp_c7_wellOn_2 (N : Nat) (a0 : Nat) (x1 : Int32) (h : gH) : Nat → Int32 → Option ((Int32) ⊕ (Unit))
  | 0, _ => none
  | k + 1, x2 =>
  (gfI h a0 7 0).bind fun v1 =>
    if v1 ≤ x2 then
    some (.inr ())
  else
    (gfR h a0 7 1).bind fun v3 =>
    (ga 0 h v3 x2).bind fun v4 =>
    if v4 = x1 then
    some (.inl x2)
  else
    lp_c7_wellOn_2 N a0 x1 h k (x2 + (1 : Int32))
def f_c7_wellOn (N : Nat) (a0 : Nat) (x1 : Int32) (h : gH) : Option (Int32) :=
  (gcl h a0 7).bind fun _ =>
  (lp_c7_wellOn_2 N a0 x1 h N (0 : Int32)).bind fun o6 => Sum.elim (fun r8 => some r8) (fun t7 =>
    some (-1 : Int32)) o6
set_option maxHeartbeats 4000000 in
set_option maxRecDepth 100000 in
theorem wlp_c7_wellOn_2 {M : gM} {X : gX} {N : Nat} (hx : gEx X = false) (K : gC M X gN7 b_c7_wellOn 3 (gRm (1 + N) 0 0)) (a0 : Nat) (x1 : Int32) (h : gH) : ∀ (k : Nat) (x2 : Int32) (o : (Int32) ⊕ (Unit)), lp_c7_wellOn_2 N a0 x1 h k x2 = some o → (∀ t, o = .inr t → gG M X 3 0 0 28 [] [] h) → (∀ r, o = .inl r → (narrow .int (.int r) = .int r → ∀ pc pc' ls, gD b_c7_wellOn pc .ireturn 1 pc' → gG M X 3 0 0 pc ls [.int r] h)) → gG M X 3 0 0 2 [(0, .ref a0), (1, .int x1), (2, .int x2)] [] h := by
  intro k
  induction k with
  | zero =>
    intro x2 o hy
    rw [lp_c7_wellOn_2.eq_1] at hy
    cases hy
  | succ k ih =>
    intro x2 o hy hE hR
    rw [lp_c7_wellOn_2.eq_2] at hy
    refine g_iload_n K d_c7_wellOn_2 2 rfl ?_
    refine g_aload_n K d_c7_wellOn_3 0 rfl ?_
    obtain ⟨v1, e_v1, hy⟩ := gBd hy
    refine g_getI K fl_c7_27 d_c7_wellOn_4 e_v1 ?_
    refine g_icmp_ge K d_c7_wellOn_7 (fun c2 => ?_) (fun c2 => ?_)
    · rw [if_pos c2] at hy
      refine g_sub (ls2 := []) [] rfl ?_
      obtain rfl := Option.some.inj hy
      exact hE _ rfl
    · rw [if_neg c2] at hy
      refine g_aload_n K d_c7_wellOn_10 0 rfl ?_
      obtain ⟨v3, e_v3, hy⟩ := gBd hy
      refine g_getR K fl_c7_9 d_c7_wellOn_11 e_v3 ?_
      refine g_iload_n K d_c7_wellOn_14 2 rfl ?_
      obtain ⟨v4, e_v4, hy⟩ := gBd hy
      refine g_iald K d_c7_wellOn_15 e_v4 ?_
      refine g_iload_n K d_c7_wellOn_16 1 rfl ?_
      refine g_icmp_ne K d_c7_wellOn_17 (fun c5 => ?_) (fun c5 => ?_)
      · rw [if_neg c5] at hy
        refine g_iinc (ls2 := [(2, .int (x2 + (1 : Int32))), (0, .ref a0), (1, .int x1)]) (v := 1) K d_c7_wellOn_22 2 rfl (by decide) rfl rfl ?_
        refine g_goto K d_c7_wellOn_25 ?_
        refine g_sub (ls2 := [(0, .ref a0), (1, .int x1), (2, .int (x2 + (1 : Int32)))]) [1, 2, 0] rfl ?_
        exact ih _ _ hy hE hR
      · rw [if_pos c5] at hy
        refine g_iload_n K d_c7_wellOn_20 2 rfl ?_
        obtain rfl := Option.some.inj hy
        exact hR _ rfl rfl _ _ _ d_c7_wellOn_21
set_option maxHeartbeats 4000000 in
set_option maxRecDepth 100000 in
theorem ct_c7_wellOn (l : Launch) (X : gX) (hx : gEx X = false) (N : Nat) (a0 : Nat) (x1 : Int32) (h : gH) (q : Int32) (hy : f_c7_wellOn N a0 x1 h = some q) : gRc y_c7_wellOn h a0 ∧ gMi l X y_c7_wellOn b_c7_wellOn 3 .int (1 + N) 0 0 [.ref a0, .int x1] h q h := by
  unfold f_c7_wellOn at hy
  obtain ⟨u0, e_u0, hy⟩ := gBd hy
  cases u0
  refine ⟨Or.inl ⟨7, _, _, e_u0, rfl⟩, gMet_i (lsx := [(0, .ref a0), (1, .int x1)]) (by decide) rfl rfl ?_⟩
  intro M hMl K hret
  subst hMl
  refine g_iconst (v := 0) K d_c7_wellOn_0 (by decide) ?_
  refine g_istore_n (ls2 := [(2, .int (0 : Int32)), (0, .ref a0), (1, .int x1)]) K d_c7_wellOn_1 rfl rfl ?_
  obtain ⟨o6, e_o6, hy⟩ := gBd hy
  refine g_sub (ls2 := [(0, .ref a0), (1, .int x1), (2, .int (0 : Int32))]) [1, 2, 0] rfl ?_
  refine wlp_c7_wellOn_2 hx K a0 x1 h N (0 : Int32) o6 e_o6 (fun t7 e_t7 => ?_) (fun r8 e_r8 => ?_)
  · subst e_t7
    simp only [Sum.elim_inr] at hy
    refine g_iconst (v := (-1)) K d_c7_wellOn_28 (by decide) ?_
    obtain rfl := Option.some.inj hy
    exact hret rfl _ _ _ d_c7_wellOn_29
  · subst e_r8
    simp only [Sum.elim_inl] at hy
    intro hn pc9 pc9' ls9 hd9
    obtain rfl := Option.some.inj hy
    exact hret hn _ _ _ hd9
-- c8 addFour
theorem d_c8_addFour_0 : gD b_c8_addFour 0 (.aload_n 0) 1 1 := ⟨by decide +kernel, rfl⟩
theorem d_c8_addFour_1 : gD b_c8_addFour 1 (.getfield 15) 3 4 := ⟨by decide +kernel, rfl⟩
theorem d_c8_addFour_4 : gD b_c8_addFour 4 (.bipush 76) 2 6 := ⟨by decide +kernel, rfl⟩
theorem d_c8_addFour_6 : gJ b_c8_addFour 6 (.if_icmp .le 5) 3 5 9 11 := ⟨by decide +kernel, rfl, by decide⟩
theorem d_c8_addFour_9 : gD b_c8_addFour 9 (.iconst 0) 1 10 := ⟨by decide +kernel, rfl⟩
theorem d_c8_addFour_10 : gD b_c8_addFour 10 .ireturn 1 11 := ⟨by decide +kernel, rfl⟩
theorem d_c8_addFour_11 : gD b_c8_addFour 11 (.bipush 24) 2 13 := ⟨by decide +kernel, rfl⟩
theorem d_c8_addFour_13 : gD b_c8_addFour 13 (.istore_n 2) 1 14 := ⟨by decide +kernel, rfl⟩
theorem d_c8_addFour_14 : gD b_c8_addFour 14 (.iload_n 2) 1 15 := ⟨by decide +kernel, rfl⟩
theorem d_c8_addFour_15 : gJ b_c8_addFour 15 (.ifCond .lt 36) 3 36 18 51 := ⟨by decide +kernel, rfl, by decide⟩
theorem d_c8_addFour_18 : gD b_c8_addFour 18 (.aload_n 0) 1 19 := ⟨by decide +kernel, rfl⟩
theorem d_c8_addFour_19 : gD b_c8_addFour 19 (.getfield 9) 3 22 := ⟨by decide +kernel, rfl⟩
theorem d_c8_addFour_22 : gD b_c8_addFour 22 (.aload_n 0) 1 23 := ⟨by decide +kernel, rfl⟩
theorem d_c8_addFour_23 : gD b_c8_addFour 23 (.getfield 15) 3 26 := ⟨by decide +kernel, rfl⟩
theorem d_c8_addFour_26 : gD b_c8_addFour 26 (.iload_n 1) 1 27 := ⟨by decide +kernel, rfl⟩
theorem d_c8_addFour_27 : gD b_c8_addFour 27 (.iload_n 2) 1 28 := ⟨by decide +kernel, rfl⟩
theorem d_c8_addFour_28 : gD b_c8_addFour 28 .iushr 1 29 := ⟨by decide +kernel, rfl⟩
theorem d_c8_addFour_29 : gD b_c8_addFour 29 (.sipush 255) 3 32 := ⟨by decide +kernel, rfl⟩
theorem d_c8_addFour_32 : gD b_c8_addFour 32 .iand 1 33 := ⟨by decide +kernel, rfl⟩
theorem d_c8_addFour_33 : gD b_c8_addFour 33 .i2c 1 34 := ⟨by decide +kernel, rfl⟩
theorem d_c8_addFour_34 : gD b_c8_addFour 34 .castore 1 35 := ⟨by decide +kernel, rfl⟩
theorem d_c8_addFour_35 : gD b_c8_addFour 35 (.aload_n 0) 1 36 := ⟨by decide +kernel, rfl⟩
theorem d_c8_addFour_36 : gD b_c8_addFour 36 .dup 1 37 := ⟨by decide +kernel, rfl⟩
theorem d_c8_addFour_37 : gD b_c8_addFour 37 (.getfield 15) 3 40 := ⟨by decide +kernel, rfl⟩
theorem d_c8_addFour_40 : gD b_c8_addFour 40 (.iconst 1) 1 41 := ⟨by decide +kernel, rfl⟩
theorem d_c8_addFour_41 : gD b_c8_addFour 41 .iadd 1 42 := ⟨by decide +kernel, rfl⟩
theorem d_c8_addFour_42 : gD b_c8_addFour 42 (.putfield 15) 3 45 := ⟨by decide +kernel, rfl⟩
theorem d_c8_addFour_45 : gD b_c8_addFour 45 (.iinc 2 (-8)) 3 48 := ⟨by decide +kernel, rfl⟩
theorem d_c8_addFour_48 : gJ b_c8_addFour 48 (.goto (-34)) 3 (-34) 51 14 := ⟨by decide +kernel, rfl, by decide⟩
theorem d_c8_addFour_51 : gD b_c8_addFour 51 (.iconst 1) 1 52 := ⟨by decide +kernel, rfl⟩
theorem d_c8_addFour_52 : gD b_c8_addFour 52 .ireturn 1 53 := ⟨by decide +kernel, rfl⟩
def lp_c8_addFour_14 (N : Nat) (a0 : Nat) (x1 : Int32) : Nat → Int32 → gH → Option (gH)
  | 0, _, _ => none
  | k + 1, x2, h =>
  if x2 < 0 then
    some h
  else
    (gfR h a0 8 0).bind fun v4 =>
    (gfI h a0 8 1).bind fun v5 =>
    (sa 3 h v4 v5 (vp_nar .char (((((x1.toUInt32 >>> (x2.toUInt32 &&& Int32.toUInt32 31)).toInt32) &&& (255 : Int32)).toUInt32 % 65536).toInt32))).bind fun h6 =>
    (gfI h6 a0 8 1).bind fun v7 =>
    (sf h6 a0 8 1 (.int (v7 + (1 : Int32)))).bind fun h8 =>
    lp_c8_addFour_14 N a0 x1 k (x2 + (-8 : Int32)) h8
def f_c8_addFour (N : Nat) (a0 : Nat) (x1 : Int32) (h : gH) : Option (Int32 × gH) :=
  (gcl h a0 8).bind fun _ =>
  (gfI h a0 8 1).bind fun v1 =>
    if v1 ≤ (76 : Int32) then
    (lp_c8_addFour_14 N a0 x1 N (24 : Int32) h).bind fun o9 =>
    (gZ (1 : Int32)).bind fun w10 => some (w10, o9)
  else
    (gZ (0 : Int32)).bind fun w11 => some (w11, h)
set_option maxHeartbeats 4000000 in
set_option maxRecDepth 100000 in
theorem wlp_c8_addFour_14 {M : gM} {X : gX} {N : Nat} (hx : gEx X = false) (K : gC M X gN8 b_c8_addFour 3 (gRm (1 + N) 0 0)) (a0 : Nat) (x1 : Int32) : ∀ (k : Nat) (x2 : Int32) (h : gH) (o : gH), lp_c8_addFour_14 N a0 x1 k x2 h = some o → gG M X 3 0 0 51 [] [] o → gG M X 3 0 0 14 [(0, .ref a0), (1, .int x1), (2, .int x2)] [] h := by
  intro k
  induction k with
  | zero =>
    intro x2 h o hy
    rw [lp_c8_addFour_14.eq_1] at hy
    cases hy
  | succ k ih =>
    intro x2 h o hy hE
    rw [lp_c8_addFour_14.eq_2] at hy
    refine g_iload_n K d_c8_addFour_14 2 rfl ?_
    refine g_if_lt K d_c8_addFour_15 (fun c3 => ?_) (fun c3 => ?_)
    · rw [if_pos c3] at hy
      refine g_sub (ls2 := []) [] rfl ?_
      obtain rfl := Option.some.inj hy
      exact hE
    · rw [if_neg c3] at hy
      refine g_aload_n K d_c8_addFour_18 0 rfl ?_
      obtain ⟨v4, e_v4, hy⟩ := gBd hy
      refine g_getR K fl_c8_9 d_c8_addFour_19 e_v4 ?_
      refine g_aload_n K d_c8_addFour_22 0 rfl ?_
      obtain ⟨v5, e_v5, hy⟩ := gBd hy
      refine g_getI K fl_c8_15 d_c8_addFour_23 e_v5 ?_
      refine g_iload_n K d_c8_addFour_26 1 rfl ?_
      refine g_iload_n K d_c8_addFour_27 2 rfl ?_
      refine g_iushr K d_c8_addFour_28 ?_
      refine g_sipush (v := 255) K d_c8_addFour_29 (by decide) ?_
      refine g_iand K d_c8_addFour_32 ?_
      refine g_i2c K d_c8_addFour_33 ?_
      obtain ⟨h6, e_h6, hy⟩ := gBd hy
      refine g_cast K d_c8_addFour_34 e_h6 ?_
      refine g_aload_n K d_c8_addFour_35 0 rfl ?_
      refine g_dup K d_c8_addFour_36 rfl ?_
      obtain ⟨v7, e_v7, hy⟩ := gBd hy
      refine g_getI K fl_c8_15 d_c8_addFour_37 e_v7 ?_
      refine g_iconst (v := 1) K d_c8_addFour_40 (by decide) ?_
      refine g_iadd K d_c8_addFour_41 ?_
      obtain ⟨h8, e_h8, hy⟩ := gBd hy
      refine g_putI K fp_c8_15 d_c8_addFour_42 e_h8 ?_
      refine g_iinc (ls2 := [(2, .int (x2 + (-8 : Int32))), (0, .ref a0), (1, .int x1)]) (v := (-8)) K d_c8_addFour_45 2 rfl (by decide) rfl rfl ?_
      refine g_goto K d_c8_addFour_48 ?_
      refine g_sub (ls2 := [(0, .ref a0), (1, .int x1), (2, .int (x2 + (-8 : Int32)))]) [1, 2, 0] rfl ?_
      exact ih _ _ _ hy hE
set_option maxHeartbeats 4000000 in
set_option maxRecDepth 100000 in
theorem ct_c8_addFour (l : Launch) (X : gX) (hx : gEx X = false) (N : Nat) (a0 : Nat) (x1 : Int32) (h : gH) (q : Int32 × gH) (hy : f_c8_addFour N a0 x1 h = some q) : gRc y_c8_addFour h a0 ∧ gMi l X y_c8_addFour b_c8_addFour 3 .boolean (1 + N) 0 0 [.ref a0, .int x1] h q.1 q.2 := by
  unfold f_c8_addFour at hy
  obtain ⟨u0, e_u0, hy⟩ := gBd hy
  cases u0
  refine ⟨Or.inl ⟨8, _, _, e_u0, rfl⟩, gMet_i (lsx := [(0, .ref a0), (1, .int x1)]) (by decide) rfl rfl ?_⟩
  intro M hMl K hret
  subst hMl
  refine g_aload_n K d_c8_addFour_0 0 rfl ?_
  obtain ⟨v1, e_v1, hy⟩ := gBd hy
  refine g_getI K fl_c8_15 d_c8_addFour_1 e_v1 ?_
  refine g_bipush (v := 76) K d_c8_addFour_4 (by decide) ?_
  refine g_icmp_le K d_c8_addFour_6 (fun c2 => ?_) (fun c2 => ?_)
  · rw [if_pos c2] at hy
    refine g_bipush (v := 24) K d_c8_addFour_11 (by decide) ?_
    refine g_istore_n (ls2 := [(2, .int (24 : Int32)), (0, .ref a0), (1, .int x1)]) K d_c8_addFour_13 rfl rfl ?_
    obtain ⟨o9, e_o9, hy⟩ := gBd hy
    refine g_sub (ls2 := [(0, .ref a0), (1, .int x1), (2, .int (24 : Int32))]) [1, 2, 0] rfl ?_
    refine wlp_c8_addFour_14 hx K a0 x1 N (24 : Int32) h o9 e_o9 ?_
    refine g_iconst (v := 1) K d_c8_addFour_51 (by decide) ?_
    obtain ⟨w10, e_w10, hy⟩ := gBd hy
    obtain ⟨z_w10, n_w10⟩ := gZ_spec e_w10
    rw [z_w10]
    obtain rfl := Option.some.inj hy
    exact hret (gZn n_w10) _ _ _ d_c8_addFour_52
  · rw [if_neg c2] at hy
    refine g_iconst (v := 0) K d_c8_addFour_9 (by decide) ?_
    obtain ⟨w11, e_w11, hy⟩ := gBd hy
    obtain ⟨z_w11, n_w11⟩ := gZ_spec e_w11
    rw [z_w11]
    obtain rfl := Option.some.inj hy
    exact hret (gZn n_w11) _ _ _ d_c8_addFour_10
-- c8 at
theorem d_c8_at_0 : gD b_c8_at 0 (.iload_n 1) 1 1 := ⟨by decide +kernel, rfl⟩
theorem d_c8_at_1 : gJ b_c8_at 1 (.ifCond .lt 25) 3 25 4 26 := ⟨by decide +kernel, rfl, by decide⟩
theorem d_c8_at_4 : gD b_c8_at 4 (.iload_n 1) 1 5 := ⟨by decide +kernel, rfl⟩
theorem d_c8_at_5 : gD b_c8_at 5 (.aload_n 0) 1 6 := ⟨by decide +kernel, rfl⟩
theorem d_c8_at_6 : gD b_c8_at 6 (.getfield 15) 3 9 := ⟨by decide +kernel, rfl⟩
theorem d_c8_at_9 : gJ b_c8_at 9 (.if_icmp .ge 17) 3 17 12 26 := ⟨by decide +kernel, rfl, by decide⟩
theorem d_c8_at_12 : gD b_c8_at 12 (.iload_n 1) 1 13 := ⟨by decide +kernel, rfl⟩
theorem d_c8_at_13 : gD b_c8_at 13 (.iload_n 2) 1 14 := ⟨by decide +kernel, rfl⟩
theorem d_c8_at_14 : gJ b_c8_at 14 (.if_icmp .ge 12) 3 12 17 26 := ⟨by decide +kernel, rfl, by decide⟩
theorem d_c8_at_17 : gD b_c8_at 17 (.aload_n 0) 1 18 := ⟨by decide +kernel, rfl⟩
theorem d_c8_at_18 : gD b_c8_at 18 (.getfield 9) 3 21 := ⟨by decide +kernel, rfl⟩
theorem d_c8_at_21 : gD b_c8_at 21 (.iload_n 1) 1 22 := ⟨by decide +kernel, rfl⟩
theorem d_c8_at_22 : gD b_c8_at 22 .caload 1 23 := ⟨by decide +kernel, rfl⟩
theorem d_c8_at_23 : gJ b_c8_at 23 (.goto 4) 3 4 26 27 := ⟨by decide +kernel, rfl, by decide⟩
theorem d_c8_at_26 : gD b_c8_at 26 (.iconst (-1)) 1 27 := ⟨by decide +kernel, rfl⟩
theorem d_c8_at_27 : gD b_c8_at 27 .ireturn 1 28 := ⟨by decide +kernel, rfl⟩
def f_c8_at (N : Nat) (a0 : Nat) (x1 : Int32) (x2 : Int32) (h : gH) : Option (Int32) :=
  (gcl h a0 8).bind fun _ =>
  (show Option (Int32) from if x1 < 0 then
    some (-1 : Int32)
  else
    (gfI h a0 8 1).bind fun v4 =>
    if v4 ≤ x1 then
    some (-1 : Int32)
  else
    if x2 ≤ x1 then
    some (-1 : Int32)
  else
    (gfR h a0 8 0).bind fun v7 =>
    (gaC h v7 x1).bind fun v8 =>
    some v8).bind fun t2 =>
    some t2
set_option maxHeartbeats 4000000 in
set_option maxRecDepth 100000 in
theorem ct_c8_at (l : Launch) (X : gX) (hx : gEx X = false) (N : Nat) (a0 : Nat) (x1 : Int32) (x2 : Int32) (h : gH) (q : Int32) (hy : f_c8_at N a0 x1 x2 h = some q) : gRc y_c8_at h a0 ∧ gMi l X y_c8_at b_c8_at 3 .int (1 + N) 0 0 [.ref a0, .int x1, .int x2] h q h := by
  unfold f_c8_at at hy
  obtain ⟨u0, e_u0, hy⟩ := gBd hy
  cases u0
  refine ⟨Or.inl ⟨8, _, _, e_u0, rfl⟩, gMet_i (lsx := [(0, .ref a0), (1, .int x1), (2, .int x2)]) (by decide) rfl rfl ?_⟩
  intro M hMl K hret
  subst hMl
  refine g_iload_n K d_c8_at_0 1 rfl ?_
  obtain ⟨t2, e_t2, hy⟩ := gBd hy
  have hJ3 : gG M X 3 0 0 27 [] [.int t2] h := by
    obtain rfl := Option.some.inj hy
    exact hret rfl _ _ _ d_c8_at_27
  refine g_if_lt K d_c8_at_1 (fun c1 => ?_) (fun c1 => ?_)
  · rw [if_pos c1] at e_t2
    refine g_iconst (v := (-1)) K d_c8_at_26 (by decide) ?_
    refine g_sub (ls2 := []) [] rfl ?_
    obtain rfl := Option.some.inj e_t2
    exact hJ3
  · rw [if_neg c1] at e_t2
    refine g_iload_n K d_c8_at_4 1 rfl ?_
    refine g_aload_n K d_c8_at_5 0 rfl ?_
    obtain ⟨v4, e_v4, e_t2⟩ := gBd e_t2
    refine g_getI K fl_c8_15 d_c8_at_6 e_v4 ?_
    refine g_icmp_ge K d_c8_at_9 (fun c5 => ?_) (fun c5 => ?_)
    · rw [if_pos c5] at e_t2
      refine g_iconst (v := (-1)) K d_c8_at_26 (by decide) ?_
      refine g_sub (ls2 := []) [] rfl ?_
      obtain rfl := Option.some.inj e_t2
      exact hJ3
    · rw [if_neg c5] at e_t2
      refine g_iload_n K d_c8_at_12 1 rfl ?_
      refine g_iload_n K d_c8_at_13 2 rfl ?_
      refine g_icmp_ge K d_c8_at_14 (fun c6 => ?_) (fun c6 => ?_)
      · rw [if_pos c6] at e_t2
        refine g_iconst (v := (-1)) K d_c8_at_26 (by decide) ?_
        refine g_sub (ls2 := []) [] rfl ?_
        obtain rfl := Option.some.inj e_t2
        exact hJ3
      · rw [if_neg c6] at e_t2
        refine g_aload_n K d_c8_at_17 0 rfl ?_
        obtain ⟨v7, e_v7, e_t2⟩ := gBd e_t2
        refine g_getR K fl_c8_9 d_c8_at_18 e_v7 ?_
        refine g_iload_n K d_c8_at_21 1 rfl ?_
        obtain ⟨v8, e_v8, e_t2⟩ := gBd e_t2
        refine g_cald K d_c8_at_22 e_v8 ?_
        refine g_goto K d_c8_at_23 ?_
        refine g_sub (ls2 := []) [] rfl ?_
        obtain rfl := Option.some.inj e_t2
        exact hJ3
-- c8 cutTo
theorem d_c8_cutTo_0 : gD b_c8_cutTo 0 (.iload_n 1) 1 1 := ⟨by decide +kernel, rfl⟩
theorem d_c8_cutTo_1 : gJ b_c8_cutTo 1 (.ifCond .lt 11) 3 11 4 12 := ⟨by decide +kernel, rfl, by decide⟩
theorem d_c8_cutTo_4 : gD b_c8_cutTo 4 (.iload_n 1) 1 5 := ⟨by decide +kernel, rfl⟩
theorem d_c8_cutTo_5 : gD b_c8_cutTo 5 (.aload_n 0) 1 6 := ⟨by decide +kernel, rfl⟩
theorem d_c8_cutTo_6 : gD b_c8_cutTo 6 (.getfield 15) 3 9 := ⟨by decide +kernel, rfl⟩
theorem d_c8_cutTo_9 : gJ b_c8_cutTo 9 (.if_icmp .le 5) 3 5 12 14 := ⟨by decide +kernel, rfl, by decide⟩
theorem d_c8_cutTo_12 : gD b_c8_cutTo 12 (.iconst 0) 1 13 := ⟨by decide +kernel, rfl⟩
theorem d_c8_cutTo_13 : gD b_c8_cutTo 13 .ireturn 1 14 := ⟨by decide +kernel, rfl⟩
theorem d_c8_cutTo_14 : gD b_c8_cutTo 14 (.aload_n 0) 1 15 := ⟨by decide +kernel, rfl⟩
theorem d_c8_cutTo_15 : gD b_c8_cutTo 15 (.iload_n 1) 1 16 := ⟨by decide +kernel, rfl⟩
theorem d_c8_cutTo_16 : gD b_c8_cutTo 16 (.putfield 15) 3 19 := ⟨by decide +kernel, rfl⟩
theorem d_c8_cutTo_19 : gD b_c8_cutTo 19 (.iconst 1) 1 20 := ⟨by decide +kernel, rfl⟩
theorem d_c8_cutTo_20 : gD b_c8_cutTo 20 .ireturn 1 21 := ⟨by decide +kernel, rfl⟩
def f_c8_cutTo (N : Nat) (a0 : Nat) (x1 : Int32) (h : gH) : Option (Int32 × gH) :=
  (gcl h a0 8).bind fun _ =>
  if x1 < 0 then
    (gZ (0 : Int32)).bind fun w2 => some (w2, h)
  else
    (gfI h a0 8 1).bind fun v3 =>
    if x1 ≤ v3 then
    (sf h a0 8 1 (.int x1)).bind fun h5 =>
    (gZ (1 : Int32)).bind fun w6 => some (w6, h5)
  else
    (gZ (0 : Int32)).bind fun w7 => some (w7, h)
set_option maxHeartbeats 4000000 in
set_option maxRecDepth 100000 in
theorem ct_c8_cutTo (l : Launch) (X : gX) (hx : gEx X = false) (N : Nat) (a0 : Nat) (x1 : Int32) (h : gH) (q : Int32 × gH) (hy : f_c8_cutTo N a0 x1 h = some q) : gRc y_c8_cutTo h a0 ∧ gMi l X y_c8_cutTo b_c8_cutTo 2 .boolean (1 + N) 0 0 [.ref a0, .int x1] h q.1 q.2 := by
  unfold f_c8_cutTo at hy
  obtain ⟨u0, e_u0, hy⟩ := gBd hy
  cases u0
  refine ⟨Or.inl ⟨8, _, _, e_u0, rfl⟩, gMet_i (lsx := [(0, .ref a0), (1, .int x1)]) (by decide) rfl rfl ?_⟩
  intro M hMl K hret
  subst hMl
  refine g_iload_n K d_c8_cutTo_0 1 rfl ?_
  refine g_if_lt K d_c8_cutTo_1 (fun c1 => ?_) (fun c1 => ?_)
  · rw [if_pos c1] at hy
    refine g_iconst (v := 0) K d_c8_cutTo_12 (by decide) ?_
    obtain ⟨w2, e_w2, hy⟩ := gBd hy
    obtain ⟨z_w2, n_w2⟩ := gZ_spec e_w2
    rw [z_w2]
    obtain rfl := Option.some.inj hy
    exact hret (gZn n_w2) _ _ _ d_c8_cutTo_13
  · rw [if_neg c1] at hy
    refine g_iload_n K d_c8_cutTo_4 1 rfl ?_
    refine g_aload_n K d_c8_cutTo_5 0 rfl ?_
    obtain ⟨v3, e_v3, hy⟩ := gBd hy
    refine g_getI K fl_c8_15 d_c8_cutTo_6 e_v3 ?_
    refine g_icmp_le K d_c8_cutTo_9 (fun c4 => ?_) (fun c4 => ?_)
    · rw [if_pos c4] at hy
      refine g_aload_n K d_c8_cutTo_14 0 rfl ?_
      refine g_iload_n K d_c8_cutTo_15 1 rfl ?_
      obtain ⟨h5, e_h5, hy⟩ := gBd hy
      refine g_putI K fp_c8_15 d_c8_cutTo_16 e_h5 ?_
      refine g_iconst (v := 1) K d_c8_cutTo_19 (by decide) ?_
      obtain ⟨w6, e_w6, hy⟩ := gBd hy
      obtain ⟨z_w6, n_w6⟩ := gZ_spec e_w6
      rw [z_w6]
      obtain rfl := Option.some.inj hy
      exact hret (gZn n_w6) _ _ _ d_c8_cutTo_20
    · rw [if_neg c4] at hy
      refine g_iconst (v := 0) K d_c8_cutTo_12 (by decide) ?_
      obtain ⟨w7, e_w7, hy⟩ := gBd hy
      obtain ⟨z_w7, n_w7⟩ := gZ_spec e_w7
      rw [z_w7]
      obtain rfl := Option.some.inj hy
      exact hret (gZn n_w7) _ _ _ d_c8_cutTo_13
-- c9 covered
theorem d_c9_covered_0 : gD b_c9_covered 0 (.iload_n 1) 1 1 := ⟨by decide +kernel, rfl⟩
theorem d_c9_covered_1 : gJ b_c9_covered 1 (.ifCond .lt 18) 3 18 4 19 := ⟨by decide +kernel, rfl, by decide⟩
theorem d_c9_covered_4 : gD b_c9_covered 4 (.iload_n 1) 1 5 := ⟨by decide +kernel, rfl⟩
theorem d_c9_covered_5 : gD b_c9_covered 5 (.bipush 36) 2 7 := ⟨by decide +kernel, rfl⟩
theorem d_c9_covered_7 : gJ b_c9_covered 7 (.if_icmp .ge 12) 3 12 10 19 := ⟨by decide +kernel, rfl, by decide⟩
theorem d_c9_covered_10 : gD b_c9_covered 10 (.aload_n 0) 1 11 := ⟨by decide +kernel, rfl⟩
theorem d_c9_covered_11 : gD b_c9_covered 11 (.getfield 15) 3 14 := ⟨by decide +kernel, rfl⟩
theorem d_c9_covered_14 : gD b_c9_covered 14 (.iload_n 1) 1 15 := ⟨by decide +kernel, rfl⟩
theorem d_c9_covered_15 : gD b_c9_covered 15 .iaload 1 16 := ⟨by decide +kernel, rfl⟩
theorem d_c9_covered_16 : gJ b_c9_covered 16 (.goto 4) 3 4 19 20 := ⟨by decide +kernel, rfl, by decide⟩
theorem d_c9_covered_19 : gD b_c9_covered 19 (.iconst 0) 1 20 := ⟨by decide +kernel, rfl⟩
theorem d_c9_covered_20 : gD b_c9_covered 20 .ireturn 1 21 := ⟨by decide +kernel, rfl⟩
def f_c9_covered (N : Nat) (a0 : Nat) (x1 : Int32) (h : gH) : Option (Int32) :=
  (gcl h a0 9).bind fun _ =>
  (show Option (Int32) from if x1 < 0 then
    some (0 : Int32)
  else
    if (36 : Int32) ≤ x1 then
    some (0 : Int32)
  else
    (gfR h a0 9 1).bind fun v5 =>
    (ga 0 h v5 x1).bind fun v6 =>
    some v6).bind fun t2 =>
    some t2
set_option maxHeartbeats 4000000 in
set_option maxRecDepth 100000 in
theorem ct_c9_covered (l : Launch) (X : gX) (hx : gEx X = false) (N : Nat) (a0 : Nat) (x1 : Int32) (h : gH) (q : Int32) (hy : f_c9_covered N a0 x1 h = some q) : gRc y_c9_covered h a0 ∧ gMi l X y_c9_covered b_c9_covered 2 .int (1 + N) 0 0 [.ref a0, .int x1] h q h := by
  unfold f_c9_covered at hy
  obtain ⟨u0, e_u0, hy⟩ := gBd hy
  cases u0
  refine ⟨Or.inl ⟨9, _, _, e_u0, rfl⟩, gMet_i (lsx := [(0, .ref a0), (1, .int x1)]) (by decide) rfl rfl ?_⟩
  intro M hMl K hret
  subst hMl
  refine g_iload_n K d_c9_covered_0 1 rfl ?_
  obtain ⟨t2, e_t2, hy⟩ := gBd hy
  have hJ3 : gG M X 2 0 0 20 [] [.int t2] h := by
    obtain rfl := Option.some.inj hy
    exact hret rfl _ _ _ d_c9_covered_20
  refine g_if_lt K d_c9_covered_1 (fun c1 => ?_) (fun c1 => ?_)
  · rw [if_pos c1] at e_t2
    refine g_iconst (v := 0) K d_c9_covered_19 (by decide) ?_
    refine g_sub (ls2 := []) [] rfl ?_
    obtain rfl := Option.some.inj e_t2
    exact hJ3
  · rw [if_neg c1] at e_t2
    refine g_iload_n K d_c9_covered_4 1 rfl ?_
    refine g_bipush (v := 36) K d_c9_covered_5 (by decide) ?_
    refine g_icmp_ge K d_c9_covered_7 (fun c4 => ?_) (fun c4 => ?_)
    · rw [if_pos c4] at e_t2
      refine g_iconst (v := 0) K d_c9_covered_19 (by decide) ?_
      refine g_sub (ls2 := []) [] rfl ?_
      obtain rfl := Option.some.inj e_t2
      exact hJ3
    · rw [if_neg c4] at e_t2
      refine g_aload_n K d_c9_covered_10 0 rfl ?_
      obtain ⟨v5, e_v5, e_t2⟩ := gBd e_t2
      refine g_getR K fl_c9_15 d_c9_covered_11 e_v5 ?_
      refine g_iload_n K d_c9_covered_14 1 rfl ?_
      obtain ⟨v6, e_v6, e_t2⟩ := gBd e_t2
      refine g_iald K d_c9_covered_15 e_v6 ?_
      refine g_goto K d_c9_covered_16 ?_
      refine g_sub (ls2 := []) [] rfl ?_
      obtain rfl := Option.some.inj e_t2
      exact hJ3
-- c9 needed
theorem d_c9_needed_0 : gD b_c9_needed 0 (.iload_n 1) 1 1 := ⟨by decide +kernel, rfl⟩
theorem d_c9_needed_1 : gD b_c9_needed 1 (.bipush 64) 2 3 := ⟨by decide +kernel, rfl⟩
theorem d_c9_needed_3 : gD b_c9_needed 3 .imul 1 4 := ⟨by decide +kernel, rfl⟩
theorem d_c9_needed_4 : gD b_c9_needed 4 (.iload_n 2) 1 5 := ⟨by decide +kernel, rfl⟩
theorem d_c9_needed_5 : gD b_c9_needed 5 .iadd 1 6 := ⟨by decide +kernel, rfl⟩
theorem d_c9_needed_6 : gD b_c9_needed 6 (.istore_n 3) 1 7 := ⟨by decide +kernel, rfl⟩
theorem d_c9_needed_7 : gD b_c9_needed 7 (.iload_n 3) 1 8 := ⟨by decide +kernel, rfl⟩
theorem d_c9_needed_8 : gJ b_c9_needed 8 (.ifCond .lt 21) 3 21 11 29 := ⟨by decide +kernel, rfl, by decide⟩
theorem d_c9_needed_11 : gD b_c9_needed 11 (.iload_n 3) 1 12 := ⟨by decide +kernel, rfl⟩
theorem d_c9_needed_12 : gD b_c9_needed 12 (.aload_n 0) 1 13 := ⟨by decide +kernel, rfl⟩
theorem d_c9_needed_13 : gD b_c9_needed 13 (.getfield 18) 3 16 := ⟨by decide +kernel, rfl⟩
theorem d_c9_needed_16 : gD b_c9_needed 16 .arraylength 1 17 := ⟨by decide +kernel, rfl⟩
theorem d_c9_needed_17 : gJ b_c9_needed 17 (.if_icmp .ge 12) 3 12 20 29 := ⟨by decide +kernel, rfl, by decide⟩
theorem d_c9_needed_20 : gD b_c9_needed 20 (.aload_n 0) 1 21 := ⟨by decide +kernel, rfl⟩
theorem d_c9_needed_21 : gD b_c9_needed 21 (.getfield 18) 3 24 := ⟨by decide +kernel, rfl⟩
theorem d_c9_needed_24 : gD b_c9_needed 24 (.iload_n 3) 1 25 := ⟨by decide +kernel, rfl⟩
theorem d_c9_needed_25 : gD b_c9_needed 25 .iaload 1 26 := ⟨by decide +kernel, rfl⟩
theorem d_c9_needed_26 : gJ b_c9_needed 26 (.goto 5) 3 5 29 31 := ⟨by decide +kernel, rfl, by decide⟩
theorem d_c9_needed_29 : gD b_c9_needed 29 (.bipush 36) 2 31 := ⟨by decide +kernel, rfl⟩
theorem d_c9_needed_31 : gD b_c9_needed 31 .ireturn 1 32 := ⟨by decide +kernel, rfl⟩
def f_c9_needed (N : Nat) (a0 : Nat) (x1 : Int32) (x2 : Int32) (h : gH) : Option (Int32) :=
  (gcl h a0 9).bind fun _ =>
  (show Option (Int32) from if ((x1 * (64 : Int32)) + x2) < 0 then
    some (36 : Int32)
  else
    (gfR h a0 9 2).bind fun v4 =>
    (gn h v4).bind fun v5 =>
    if v5 ≤ ((x1 * (64 : Int32)) + x2) then
    some (36 : Int32)
  else
    (gfR h a0 9 2).bind fun v7 =>
    (ga 0 h v7 ((x1 * (64 : Int32)) + x2)).bind fun v8 =>
    some v8).bind fun t2 =>
    some t2
set_option maxHeartbeats 4000000 in
set_option maxRecDepth 100000 in
theorem ct_c9_needed (l : Launch) (X : gX) (hx : gEx X = false) (N : Nat) (a0 : Nat) (x1 : Int32) (x2 : Int32) (h : gH) (q : Int32) (hy : f_c9_needed N a0 x1 x2 h = some q) : gRc y_c9_needed h a0 ∧ gMi l X y_c9_needed b_c9_needed 4 .int (1 + N) 0 0 [.ref a0, .int x1, .int x2] h q h := by
  unfold f_c9_needed at hy
  obtain ⟨u0, e_u0, hy⟩ := gBd hy
  cases u0
  refine ⟨Or.inl ⟨9, _, _, e_u0, rfl⟩, gMet_i (lsx := [(0, .ref a0), (1, .int x1), (2, .int x2)]) (by decide) rfl rfl ?_⟩
  intro M hMl K hret
  subst hMl
  refine g_iload_n K d_c9_needed_0 1 rfl ?_
  refine g_bipush (v := 64) K d_c9_needed_1 (by decide) ?_
  refine g_imul K d_c9_needed_3 ?_
  refine g_iload_n K d_c9_needed_4 2 rfl ?_
  refine g_iadd K d_c9_needed_5 ?_
  refine g_istore_n (ls2 := [(3, .int ((x1 * (64 : Int32)) + x2)), (0, .ref a0), (1, .int x1), (2, .int x2)]) K d_c9_needed_6 rfl rfl ?_
  refine g_iload_n K d_c9_needed_7 0 rfl ?_
  obtain ⟨t2, e_t2, hy⟩ := gBd hy
  have hJ3 : gG M X 4 0 0 31 [] [.int t2] h := by
    obtain rfl := Option.some.inj hy
    exact hret rfl _ _ _ d_c9_needed_31
  refine g_if_lt K d_c9_needed_8 (fun c1 => ?_) (fun c1 => ?_)
  · rw [if_pos c1] at e_t2
    refine g_bipush (v := 36) K d_c9_needed_29 (by decide) ?_
    refine g_sub (ls2 := []) [] rfl ?_
    obtain rfl := Option.some.inj e_t2
    exact hJ3
  · rw [if_neg c1] at e_t2
    refine g_iload_n K d_c9_needed_11 0 rfl ?_
    refine g_aload_n K d_c9_needed_12 1 rfl ?_
    obtain ⟨v4, e_v4, e_t2⟩ := gBd e_t2
    refine g_getR K fl_c9_18 d_c9_needed_13 e_v4 ?_
    obtain ⟨v5, e_v5, e_t2⟩ := gBd e_t2
    refine g_alen K d_c9_needed_16 e_v5 ?_
    refine g_icmp_ge K d_c9_needed_17 (fun c6 => ?_) (fun c6 => ?_)
    · rw [if_pos c6] at e_t2
      refine g_bipush (v := 36) K d_c9_needed_29 (by decide) ?_
      refine g_sub (ls2 := []) [] rfl ?_
      obtain rfl := Option.some.inj e_t2
      exact hJ3
    · rw [if_neg c6] at e_t2
      refine g_aload_n K d_c9_needed_20 1 rfl ?_
      obtain ⟨v7, e_v7, e_t2⟩ := gBd e_t2
      refine g_getR K fl_c9_18 d_c9_needed_21 e_v7 ?_
      refine g_iload_n K d_c9_needed_24 0 rfl ?_
      obtain ⟨v8, e_v8, e_t2⟩ := gBd e_t2
      refine g_iald K d_c9_needed_25 e_v8 ?_
      refine g_goto K d_c9_needed_26 ?_
      refine g_sub (ls2 := []) [] rfl ?_
      obtain rfl := Option.some.inj e_t2
      exact hJ3
-- jInteger bitCount
theorem d_jInteger_bitCount_0 : gD b_jInteger_bitCount 0 (.iload_n 0) 1 1 := ⟨by decide +kernel, rfl⟩
theorem d_jInteger_bitCount_1 : gD b_jInteger_bitCount 1 (.iload_n 0) 1 2 := ⟨by decide +kernel, rfl⟩
theorem d_jInteger_bitCount_2 : gD b_jInteger_bitCount 2 (.iconst 1) 1 3 := ⟨by decide +kernel, rfl⟩
theorem d_jInteger_bitCount_3 : gD b_jInteger_bitCount 3 .iushr 1 4 := ⟨by decide +kernel, rfl⟩
theorem d_jInteger_bitCount_4 : gD b_jInteger_bitCount 4 (.ldc_w 265) 3 7 := ⟨by decide +kernel, rfl⟩
theorem d_jInteger_bitCount_7 : gD b_jInteger_bitCount 7 .iand 1 8 := ⟨by decide +kernel, rfl⟩
theorem d_jInteger_bitCount_8 : gD b_jInteger_bitCount 8 .isub 1 9 := ⟨by decide +kernel, rfl⟩
theorem d_jInteger_bitCount_9 : gD b_jInteger_bitCount 9 (.istore_n 0) 1 10 := ⟨by decide +kernel, rfl⟩
theorem d_jInteger_bitCount_10 : gD b_jInteger_bitCount 10 (.iload_n 0) 1 11 := ⟨by decide +kernel, rfl⟩
theorem d_jInteger_bitCount_11 : gD b_jInteger_bitCount 11 (.ldc_w 266) 3 14 := ⟨by decide +kernel, rfl⟩
theorem d_jInteger_bitCount_14 : gD b_jInteger_bitCount 14 .iand 1 15 := ⟨by decide +kernel, rfl⟩
theorem d_jInteger_bitCount_15 : gD b_jInteger_bitCount 15 (.iload_n 0) 1 16 := ⟨by decide +kernel, rfl⟩
theorem d_jInteger_bitCount_16 : gD b_jInteger_bitCount 16 (.iconst 2) 1 17 := ⟨by decide +kernel, rfl⟩
theorem d_jInteger_bitCount_17 : gD b_jInteger_bitCount 17 .iushr 1 18 := ⟨by decide +kernel, rfl⟩
theorem d_jInteger_bitCount_18 : gD b_jInteger_bitCount 18 (.ldc_w 266) 3 21 := ⟨by decide +kernel, rfl⟩
theorem d_jInteger_bitCount_21 : gD b_jInteger_bitCount 21 .iand 1 22 := ⟨by decide +kernel, rfl⟩
theorem d_jInteger_bitCount_22 : gD b_jInteger_bitCount 22 .iadd 1 23 := ⟨by decide +kernel, rfl⟩
theorem d_jInteger_bitCount_23 : gD b_jInteger_bitCount 23 (.istore_n 0) 1 24 := ⟨by decide +kernel, rfl⟩
theorem d_jInteger_bitCount_24 : gD b_jInteger_bitCount 24 (.iload_n 0) 1 25 := ⟨by decide +kernel, rfl⟩
theorem d_jInteger_bitCount_25 : gD b_jInteger_bitCount 25 (.iload_n 0) 1 26 := ⟨by decide +kernel, rfl⟩
theorem d_jInteger_bitCount_26 : gD b_jInteger_bitCount 26 (.iconst 4) 1 27 := ⟨by decide +kernel, rfl⟩
theorem d_jInteger_bitCount_27 : gD b_jInteger_bitCount 27 .iushr 1 28 := ⟨by decide +kernel, rfl⟩
theorem d_jInteger_bitCount_28 : gD b_jInteger_bitCount 28 .iadd 1 29 := ⟨by decide +kernel, rfl⟩
theorem d_jInteger_bitCount_29 : gD b_jInteger_bitCount 29 (.ldc_w 267) 3 32 := ⟨by decide +kernel, rfl⟩
theorem d_jInteger_bitCount_32 : gD b_jInteger_bitCount 32 .iand 1 33 := ⟨by decide +kernel, rfl⟩
theorem d_jInteger_bitCount_33 : gD b_jInteger_bitCount 33 (.istore_n 0) 1 34 := ⟨by decide +kernel, rfl⟩
theorem d_jInteger_bitCount_34 : gD b_jInteger_bitCount 34 (.iload_n 0) 1 35 := ⟨by decide +kernel, rfl⟩
theorem d_jInteger_bitCount_35 : gD b_jInteger_bitCount 35 (.iload_n 0) 1 36 := ⟨by decide +kernel, rfl⟩
theorem d_jInteger_bitCount_36 : gD b_jInteger_bitCount 36 (.bipush 8) 2 38 := ⟨by decide +kernel, rfl⟩
theorem d_jInteger_bitCount_38 : gD b_jInteger_bitCount 38 .iushr 1 39 := ⟨by decide +kernel, rfl⟩
theorem d_jInteger_bitCount_39 : gD b_jInteger_bitCount 39 .iadd 1 40 := ⟨by decide +kernel, rfl⟩
theorem d_jInteger_bitCount_40 : gD b_jInteger_bitCount 40 (.istore_n 0) 1 41 := ⟨by decide +kernel, rfl⟩
theorem d_jInteger_bitCount_41 : gD b_jInteger_bitCount 41 (.iload_n 0) 1 42 := ⟨by decide +kernel, rfl⟩
theorem d_jInteger_bitCount_42 : gD b_jInteger_bitCount 42 (.iload_n 0) 1 43 := ⟨by decide +kernel, rfl⟩
theorem d_jInteger_bitCount_43 : gD b_jInteger_bitCount 43 (.bipush 16) 2 45 := ⟨by decide +kernel, rfl⟩
theorem d_jInteger_bitCount_45 : gD b_jInteger_bitCount 45 .iushr 1 46 := ⟨by decide +kernel, rfl⟩
theorem d_jInteger_bitCount_46 : gD b_jInteger_bitCount 46 .iadd 1 47 := ⟨by decide +kernel, rfl⟩
theorem d_jInteger_bitCount_47 : gD b_jInteger_bitCount 47 (.istore_n 0) 1 48 := ⟨by decide +kernel, rfl⟩
theorem d_jInteger_bitCount_48 : gD b_jInteger_bitCount 48 (.iload_n 0) 1 49 := ⟨by decide +kernel, rfl⟩
theorem d_jInteger_bitCount_49 : gD b_jInteger_bitCount 49 (.bipush 63) 2 51 := ⟨by decide +kernel, rfl⟩
theorem d_jInteger_bitCount_51 : gD b_jInteger_bitCount 51 .iand 1 52 := ⟨by decide +kernel, rfl⟩
theorem d_jInteger_bitCount_52 : gD b_jInteger_bitCount 52 .ireturn 1 53 := ⟨by decide +kernel, rfl⟩
def f_jInteger_bitCount (N : Nat) (x0 : Int32) (h : gH) : Option (Int32) :=
  some ((((((((x0 - (((x0.toUInt32 >>> ((1 : Int32).toUInt32 &&& Int32.toUInt32 31)).toInt32) &&& (1431655765 : Int32))) &&& (858993459 : Int32)) + ((((x0 - (((x0.toUInt32 >>> ((1 : Int32).toUInt32 &&& Int32.toUInt32 31)).toInt32) &&& (1431655765 : Int32))).toUInt32 >>> ((2 : Int32).toUInt32 &&& Int32.toUInt32 31)).toInt32) &&& (858993459 : Int32))) + (((((x0 - (((x0.toUInt32 >>> ((1 : Int32).toUInt32 &&& Int32.toUInt32 31)).toInt32) &&& (1431655765 : Int32))) &&& (858993459 : Int32)) + ((((x0 - (((x0.toUInt32 >>> ((1 : Int32).toUInt32 &&& Int32.toUInt32 31)).toInt32) &&& (1431655765 : Int32))).toUInt32 >>> ((2 : Int32).toUInt32 &&& Int32.toUInt32 31)).toInt32) &&& (858993459 : Int32))).toUInt32 >>> ((4 : Int32).toUInt32 &&& Int32.toUInt32 31)).toInt32)) &&& (252645135 : Int32)) + (((((((x0 - (((x0.toUInt32 >>> ((1 : Int32).toUInt32 &&& Int32.toUInt32 31)).toInt32) &&& (1431655765 : Int32))) &&& (858993459 : Int32)) + ((((x0 - (((x0.toUInt32 >>> ((1 : Int32).toUInt32 &&& Int32.toUInt32 31)).toInt32) &&& (1431655765 : Int32))).toUInt32 >>> ((2 : Int32).toUInt32 &&& Int32.toUInt32 31)).toInt32) &&& (858993459 : Int32))) + (((((x0 - (((x0.toUInt32 >>> ((1 : Int32).toUInt32 &&& Int32.toUInt32 31)).toInt32) &&& (1431655765 : Int32))) &&& (858993459 : Int32)) + ((((x0 - (((x0.toUInt32 >>> ((1 : Int32).toUInt32 &&& Int32.toUInt32 31)).toInt32) &&& (1431655765 : Int32))).toUInt32 >>> ((2 : Int32).toUInt32 &&& Int32.toUInt32 31)).toInt32) &&& (858993459 : Int32))).toUInt32 >>> ((4 : Int32).toUInt32 &&& Int32.toUInt32 31)).toInt32)) &&& (252645135 : Int32)).toUInt32 >>> ((8 : Int32).toUInt32 &&& Int32.toUInt32 31)).toInt32)) + ((((((((x0 - (((x0.toUInt32 >>> ((1 : Int32).toUInt32 &&& Int32.toUInt32 31)).toInt32) &&& (1431655765 : Int32))) &&& (858993459 : Int32)) + ((((x0 - (((x0.toUInt32 >>> ((1 : Int32).toUInt32 &&& Int32.toUInt32 31)).toInt32) &&& (1431655765 : Int32))).toUInt32 >>> ((2 : Int32).toUInt32 &&& Int32.toUInt32 31)).toInt32) &&& (858993459 : Int32))) + (((((x0 - (((x0.toUInt32 >>> ((1 : Int32).toUInt32 &&& Int32.toUInt32 31)).toInt32) &&& (1431655765 : Int32))) &&& (858993459 : Int32)) + ((((x0 - (((x0.toUInt32 >>> ((1 : Int32).toUInt32 &&& Int32.toUInt32 31)).toInt32) &&& (1431655765 : Int32))).toUInt32 >>> ((2 : Int32).toUInt32 &&& Int32.toUInt32 31)).toInt32) &&& (858993459 : Int32))).toUInt32 >>> ((4 : Int32).toUInt32 &&& Int32.toUInt32 31)).toInt32)) &&& (252645135 : Int32)) + (((((((x0 - (((x0.toUInt32 >>> ((1 : Int32).toUInt32 &&& Int32.toUInt32 31)).toInt32) &&& (1431655765 : Int32))) &&& (858993459 : Int32)) + ((((x0 - (((x0.toUInt32 >>> ((1 : Int32).toUInt32 &&& Int32.toUInt32 31)).toInt32) &&& (1431655765 : Int32))).toUInt32 >>> ((2 : Int32).toUInt32 &&& Int32.toUInt32 31)).toInt32) &&& (858993459 : Int32))) + (((((x0 - (((x0.toUInt32 >>> ((1 : Int32).toUInt32 &&& Int32.toUInt32 31)).toInt32) &&& (1431655765 : Int32))) &&& (858993459 : Int32)) + ((((x0 - (((x0.toUInt32 >>> ((1 : Int32).toUInt32 &&& Int32.toUInt32 31)).toInt32) &&& (1431655765 : Int32))).toUInt32 >>> ((2 : Int32).toUInt32 &&& Int32.toUInt32 31)).toInt32) &&& (858993459 : Int32))).toUInt32 >>> ((4 : Int32).toUInt32 &&& Int32.toUInt32 31)).toInt32)) &&& (252645135 : Int32)).toUInt32 >>> ((8 : Int32).toUInt32 &&& Int32.toUInt32 31)).toInt32)).toUInt32 >>> ((16 : Int32).toUInt32 &&& Int32.toUInt32 31)).toInt32)) &&& (63 : Int32))
set_option maxHeartbeats 4000000 in
set_option maxRecDepth 100000 in
theorem ct_jInteger_bitCount (l : Launch) (X : gX) (hx : gEx X = false) (N : Nat) (x0 : Int32) (h : gH) (q : Int32) (hy : f_jInteger_bitCount N x0 h = some q) : gMi l X y_jInteger_bitCount b_jInteger_bitCount 1 .int (1 + N) 0 0 [.int x0] h q h := by
  unfold f_jInteger_bitCount at hy
  refine gMet_i (lsx := [(0, .int x0)]) (by decide) rfl rfl ?_
  intro M hMl K hret
  subst hMl
  refine g_iload_n K d_jInteger_bitCount_0 0 rfl ?_
  refine g_iload_n K d_jInteger_bitCount_1 0 rfl ?_
  refine g_iconst (v := 1) K d_jInteger_bitCount_2 (by decide) ?_
  refine g_iushr K d_jInteger_bitCount_3 ?_
  refine g_ldcw (v := 1431655765) K d_jInteger_bitCount_4 (gTk_3 62 rfl rfl) ?_
  refine g_iand K d_jInteger_bitCount_7 ?_
  refine g_isub K d_jInteger_bitCount_8 ?_
  refine g_istore_n (ls2 := [(0, .int (x0 - (((x0.toUInt32 >>> ((1 : Int32).toUInt32 &&& Int32.toUInt32 31)).toInt32) &&& (1431655765 : Int32))))]) K d_jInteger_bitCount_9 rfl rfl ?_
  refine g_iload_n K d_jInteger_bitCount_10 0 rfl ?_
  refine g_ldcw (v := 858993459) K d_jInteger_bitCount_11 (gTk_3 63 rfl rfl) ?_
  refine g_iand K d_jInteger_bitCount_14 ?_
  refine g_iload_n K d_jInteger_bitCount_15 0 rfl ?_
  refine g_iconst (v := 2) K d_jInteger_bitCount_16 (by decide) ?_
  refine g_iushr K d_jInteger_bitCount_17 ?_
  refine g_ldcw (v := 858993459) K d_jInteger_bitCount_18 (gTk_3 63 rfl rfl) ?_
  refine g_iand K d_jInteger_bitCount_21 ?_
  refine g_iadd K d_jInteger_bitCount_22 ?_
  refine g_istore_n (ls2 := [(0, .int (((x0 - (((x0.toUInt32 >>> ((1 : Int32).toUInt32 &&& Int32.toUInt32 31)).toInt32) &&& (1431655765 : Int32))) &&& (858993459 : Int32)) + ((((x0 - (((x0.toUInt32 >>> ((1 : Int32).toUInt32 &&& Int32.toUInt32 31)).toInt32) &&& (1431655765 : Int32))).toUInt32 >>> ((2 : Int32).toUInt32 &&& Int32.toUInt32 31)).toInt32) &&& (858993459 : Int32))))]) K d_jInteger_bitCount_23 rfl rfl ?_
  refine g_iload_n K d_jInteger_bitCount_24 0 rfl ?_
  refine g_iload_n K d_jInteger_bitCount_25 0 rfl ?_
  refine g_iconst (v := 4) K d_jInteger_bitCount_26 (by decide) ?_
  refine g_iushr K d_jInteger_bitCount_27 ?_
  refine g_iadd K d_jInteger_bitCount_28 ?_
  refine g_ldcw (v := 252645135) K d_jInteger_bitCount_29 (gTk_3 64 rfl rfl) ?_
  refine g_iand K d_jInteger_bitCount_32 ?_
  refine g_istore_n (ls2 := [(0, .int (((((x0 - (((x0.toUInt32 >>> ((1 : Int32).toUInt32 &&& Int32.toUInt32 31)).toInt32) &&& (1431655765 : Int32))) &&& (858993459 : Int32)) + ((((x0 - (((x0.toUInt32 >>> ((1 : Int32).toUInt32 &&& Int32.toUInt32 31)).toInt32) &&& (1431655765 : Int32))).toUInt32 >>> ((2 : Int32).toUInt32 &&& Int32.toUInt32 31)).toInt32) &&& (858993459 : Int32))) + (((((x0 - (((x0.toUInt32 >>> ((1 : Int32).toUInt32 &&& Int32.toUInt32 31)).toInt32) &&& (1431655765 : Int32))) &&& (858993459 : Int32)) + ((((x0 - (((x0.toUInt32 >>> ((1 : Int32).toUInt32 &&& Int32.toUInt32 31)).toInt32) &&& (1431655765 : Int32))).toUInt32 >>> ((2 : Int32).toUInt32 &&& Int32.toUInt32 31)).toInt32) &&& (858993459 : Int32))).toUInt32 >>> ((4 : Int32).toUInt32 &&& Int32.toUInt32 31)).toInt32)) &&& (252645135 : Int32)))]) K d_jInteger_bitCount_33 rfl rfl ?_
  refine g_iload_n K d_jInteger_bitCount_34 0 rfl ?_
  refine g_iload_n K d_jInteger_bitCount_35 0 rfl ?_
  refine g_bipush (v := 8) K d_jInteger_bitCount_36 (by decide) ?_
  refine g_iushr K d_jInteger_bitCount_38 ?_
  refine g_iadd K d_jInteger_bitCount_39 ?_
  refine g_istore_n (ls2 := [(0, .int ((((((x0 - (((x0.toUInt32 >>> ((1 : Int32).toUInt32 &&& Int32.toUInt32 31)).toInt32) &&& (1431655765 : Int32))) &&& (858993459 : Int32)) + ((((x0 - (((x0.toUInt32 >>> ((1 : Int32).toUInt32 &&& Int32.toUInt32 31)).toInt32) &&& (1431655765 : Int32))).toUInt32 >>> ((2 : Int32).toUInt32 &&& Int32.toUInt32 31)).toInt32) &&& (858993459 : Int32))) + (((((x0 - (((x0.toUInt32 >>> ((1 : Int32).toUInt32 &&& Int32.toUInt32 31)).toInt32) &&& (1431655765 : Int32))) &&& (858993459 : Int32)) + ((((x0 - (((x0.toUInt32 >>> ((1 : Int32).toUInt32 &&& Int32.toUInt32 31)).toInt32) &&& (1431655765 : Int32))).toUInt32 >>> ((2 : Int32).toUInt32 &&& Int32.toUInt32 31)).toInt32) &&& (858993459 : Int32))).toUInt32 >>> ((4 : Int32).toUInt32 &&& Int32.toUInt32 31)).toInt32)) &&& (252645135 : Int32)) + (((((((x0 - (((x0.toUInt32 >>> ((1 : Int32).toUInt32 &&& Int32.toUInt32 31)).toInt32) &&& (1431655765 : Int32))) &&& (858993459 : Int32)) + ((((x0 - (((x0.toUInt32 >>> ((1 : Int32).toUInt32 &&& Int32.toUInt32 31)).toInt32) &&& (1431655765 : Int32))).toUInt32 >>> ((2 : Int32).toUInt32 &&& Int32.toUInt32 31)).toInt32) &&& (858993459 : Int32))) + (((((x0 - (((x0.toUInt32 >>> ((1 : Int32).toUInt32 &&& Int32.toUInt32 31)).toInt32) &&& (1431655765 : Int32))) &&& (858993459 : Int32)) + ((((x0 - (((x0.toUInt32 >>> ((1 : Int32).toUInt32 &&& Int32.toUInt32 31)).toInt32) &&& (1431655765 : Int32))).toUInt32 >>> ((2 : Int32).toUInt32 &&& Int32.toUInt32 31)).toInt32) &&& (858993459 : Int32))).toUInt32 >>> ((4 : Int32).toUInt32 &&& Int32.toUInt32 31)).toInt32)) &&& (252645135 : Int32)).toUInt32 >>> ((8 : Int32).toUInt32 &&& Int32.toUInt32 31)).toInt32)))]) K d_jInteger_bitCount_40 rfl rfl ?_
  refine g_iload_n K d_jInteger_bitCount_41 0 rfl ?_
  refine g_iload_n K d_jInteger_bitCount_42 0 rfl ?_
  refine g_bipush (v := 16) K d_jInteger_bitCount_43 (by decide) ?_
  refine g_iushr K d_jInteger_bitCount_45 ?_
  refine g_iadd K d_jInteger_bitCount_46 ?_
  refine g_istore_n (ls2 := [(0, .int (((((((x0 - (((x0.toUInt32 >>> ((1 : Int32).toUInt32 &&& Int32.toUInt32 31)).toInt32) &&& (1431655765 : Int32))) &&& (858993459 : Int32)) + ((((x0 - (((x0.toUInt32 >>> ((1 : Int32).toUInt32 &&& Int32.toUInt32 31)).toInt32) &&& (1431655765 : Int32))).toUInt32 >>> ((2 : Int32).toUInt32 &&& Int32.toUInt32 31)).toInt32) &&& (858993459 : Int32))) + (((((x0 - (((x0.toUInt32 >>> ((1 : Int32).toUInt32 &&& Int32.toUInt32 31)).toInt32) &&& (1431655765 : Int32))) &&& (858993459 : Int32)) + ((((x0 - (((x0.toUInt32 >>> ((1 : Int32).toUInt32 &&& Int32.toUInt32 31)).toInt32) &&& (1431655765 : Int32))).toUInt32 >>> ((2 : Int32).toUInt32 &&& Int32.toUInt32 31)).toInt32) &&& (858993459 : Int32))).toUInt32 >>> ((4 : Int32).toUInt32 &&& Int32.toUInt32 31)).toInt32)) &&& (252645135 : Int32)) + (((((((x0 - (((x0.toUInt32 >>> ((1 : Int32).toUInt32 &&& Int32.toUInt32 31)).toInt32) &&& (1431655765 : Int32))) &&& (858993459 : Int32)) + ((((x0 - (((x0.toUInt32 >>> ((1 : Int32).toUInt32 &&& Int32.toUInt32 31)).toInt32) &&& (1431655765 : Int32))).toUInt32 >>> ((2 : Int32).toUInt32 &&& Int32.toUInt32 31)).toInt32) &&& (858993459 : Int32))) + (((((x0 - (((x0.toUInt32 >>> ((1 : Int32).toUInt32 &&& Int32.toUInt32 31)).toInt32) &&& (1431655765 : Int32))) &&& (858993459 : Int32)) + ((((x0 - (((x0.toUInt32 >>> ((1 : Int32).toUInt32 &&& Int32.toUInt32 31)).toInt32) &&& (1431655765 : Int32))).toUInt32 >>> ((2 : Int32).toUInt32 &&& Int32.toUInt32 31)).toInt32) &&& (858993459 : Int32))).toUInt32 >>> ((4 : Int32).toUInt32 &&& Int32.toUInt32 31)).toInt32)) &&& (252645135 : Int32)).toUInt32 >>> ((8 : Int32).toUInt32 &&& Int32.toUInt32 31)).toInt32)) + ((((((((x0 - (((x0.toUInt32 >>> ((1 : Int32).toUInt32 &&& Int32.toUInt32 31)).toInt32) &&& (1431655765 : Int32))) &&& (858993459 : Int32)) + ((((x0 - (((x0.toUInt32 >>> ((1 : Int32).toUInt32 &&& Int32.toUInt32 31)).toInt32) &&& (1431655765 : Int32))).toUInt32 >>> ((2 : Int32).toUInt32 &&& Int32.toUInt32 31)).toInt32) &&& (858993459 : Int32))) + (((((x0 - (((x0.toUInt32 >>> ((1 : Int32).toUInt32 &&& Int32.toUInt32 31)).toInt32) &&& (1431655765 : Int32))) &&& (858993459 : Int32)) + ((((x0 - (((x0.toUInt32 >>> ((1 : Int32).toUInt32 &&& Int32.toUInt32 31)).toInt32) &&& (1431655765 : Int32))).toUInt32 >>> ((2 : Int32).toUInt32 &&& Int32.toUInt32 31)).toInt32) &&& (858993459 : Int32))).toUInt32 >>> ((4 : Int32).toUInt32 &&& Int32.toUInt32 31)).toInt32)) &&& (252645135 : Int32)) + (((((((x0 - (((x0.toUInt32 >>> ((1 : Int32).toUInt32 &&& Int32.toUInt32 31)).toInt32) &&& (1431655765 : Int32))) &&& (858993459 : Int32)) + ((((x0 - (((x0.toUInt32 >>> ((1 : Int32).toUInt32 &&& Int32.toUInt32 31)).toInt32) &&& (1431655765 : Int32))).toUInt32 >>> ((2 : Int32).toUInt32 &&& Int32.toUInt32 31)).toInt32) &&& (858993459 : Int32))) + (((((x0 - (((x0.toUInt32 >>> ((1 : Int32).toUInt32 &&& Int32.toUInt32 31)).toInt32) &&& (1431655765 : Int32))) &&& (858993459 : Int32)) + ((((x0 - (((x0.toUInt32 >>> ((1 : Int32).toUInt32 &&& Int32.toUInt32 31)).toInt32) &&& (1431655765 : Int32))).toUInt32 >>> ((2 : Int32).toUInt32 &&& Int32.toUInt32 31)).toInt32) &&& (858993459 : Int32))).toUInt32 >>> ((4 : Int32).toUInt32 &&& Int32.toUInt32 31)).toInt32)) &&& (252645135 : Int32)).toUInt32 >>> ((8 : Int32).toUInt32 &&& Int32.toUInt32 31)).toInt32)).toUInt32 >>> ((16 : Int32).toUInt32 &&& Int32.toUInt32 31)).toInt32)))]) K d_jInteger_bitCount_47 rfl rfl ?_
  refine g_iload_n K d_jInteger_bitCount_48 0 rfl ?_
  refine g_bipush (v := 63) K d_jInteger_bitCount_49 (by decide) ?_
  refine g_iand K d_jInteger_bitCount_51 ?_
  obtain rfl := Option.some.inj hy
  exact hret rfl _ _ _ d_jInteger_bitCount_52
-- jLong bitCount
theorem d_jLong_bitCount_0 : gD b_jLong_bitCount 0 (.lload_n 0) 1 1 := ⟨by decide +kernel, rfl⟩
theorem d_jLong_bitCount_1 : gD b_jLong_bitCount 1 (.lload_n 0) 1 2 := ⟨by decide +kernel, rfl⟩
theorem d_jLong_bitCount_2 : gD b_jLong_bitCount 2 (.iconst 1) 1 3 := ⟨by decide +kernel, rfl⟩
theorem d_jLong_bitCount_3 : gD b_jLong_bitCount 3 .lushr 1 4 := ⟨by decide +kernel, rfl⟩
theorem d_jLong_bitCount_4 : gD b_jLong_bitCount 4 (.ldc2_w 314) 3 7 := ⟨by decide +kernel, rfl⟩
theorem d_jLong_bitCount_7 : gD b_jLong_bitCount 7 .land 1 8 := ⟨by decide +kernel, rfl⟩
theorem d_jLong_bitCount_8 : gD b_jLong_bitCount 8 .lsub 1 9 := ⟨by decide +kernel, rfl⟩
theorem d_jLong_bitCount_9 : gD b_jLong_bitCount 9 (.lstore_n 0) 1 10 := ⟨by decide +kernel, rfl⟩
theorem d_jLong_bitCount_10 : gD b_jLong_bitCount 10 (.lload_n 0) 1 11 := ⟨by decide +kernel, rfl⟩
theorem d_jLong_bitCount_11 : gD b_jLong_bitCount 11 (.ldc2_w 316) 3 14 := ⟨by decide +kernel, rfl⟩
theorem d_jLong_bitCount_14 : gD b_jLong_bitCount 14 .land 1 15 := ⟨by decide +kernel, rfl⟩
theorem d_jLong_bitCount_15 : gD b_jLong_bitCount 15 (.lload_n 0) 1 16 := ⟨by decide +kernel, rfl⟩
theorem d_jLong_bitCount_16 : gD b_jLong_bitCount 16 (.iconst 2) 1 17 := ⟨by decide +kernel, rfl⟩
theorem d_jLong_bitCount_17 : gD b_jLong_bitCount 17 .lushr 1 18 := ⟨by decide +kernel, rfl⟩
theorem d_jLong_bitCount_18 : gD b_jLong_bitCount 18 (.ldc2_w 316) 3 21 := ⟨by decide +kernel, rfl⟩
theorem d_jLong_bitCount_21 : gD b_jLong_bitCount 21 .land 1 22 := ⟨by decide +kernel, rfl⟩
theorem d_jLong_bitCount_22 : gD b_jLong_bitCount 22 .ladd 1 23 := ⟨by decide +kernel, rfl⟩
theorem d_jLong_bitCount_23 : gD b_jLong_bitCount 23 (.lstore_n 0) 1 24 := ⟨by decide +kernel, rfl⟩
theorem d_jLong_bitCount_24 : gD b_jLong_bitCount 24 (.lload_n 0) 1 25 := ⟨by decide +kernel, rfl⟩
theorem d_jLong_bitCount_25 : gD b_jLong_bitCount 25 (.lload_n 0) 1 26 := ⟨by decide +kernel, rfl⟩
theorem d_jLong_bitCount_26 : gD b_jLong_bitCount 26 (.iconst 4) 1 27 := ⟨by decide +kernel, rfl⟩
theorem d_jLong_bitCount_27 : gD b_jLong_bitCount 27 .lushr 1 28 := ⟨by decide +kernel, rfl⟩
theorem d_jLong_bitCount_28 : gD b_jLong_bitCount 28 .ladd 1 29 := ⟨by decide +kernel, rfl⟩
theorem d_jLong_bitCount_29 : gD b_jLong_bitCount 29 (.ldc2_w 318) 3 32 := ⟨by decide +kernel, rfl⟩
theorem d_jLong_bitCount_32 : gD b_jLong_bitCount 32 .land 1 33 := ⟨by decide +kernel, rfl⟩
theorem d_jLong_bitCount_33 : gD b_jLong_bitCount 33 (.lstore_n 0) 1 34 := ⟨by decide +kernel, rfl⟩
theorem d_jLong_bitCount_34 : gD b_jLong_bitCount 34 (.lload_n 0) 1 35 := ⟨by decide +kernel, rfl⟩
theorem d_jLong_bitCount_35 : gD b_jLong_bitCount 35 (.lload_n 0) 1 36 := ⟨by decide +kernel, rfl⟩
theorem d_jLong_bitCount_36 : gD b_jLong_bitCount 36 (.bipush 8) 2 38 := ⟨by decide +kernel, rfl⟩
theorem d_jLong_bitCount_38 : gD b_jLong_bitCount 38 .lushr 1 39 := ⟨by decide +kernel, rfl⟩
theorem d_jLong_bitCount_39 : gD b_jLong_bitCount 39 .ladd 1 40 := ⟨by decide +kernel, rfl⟩
theorem d_jLong_bitCount_40 : gD b_jLong_bitCount 40 (.lstore_n 0) 1 41 := ⟨by decide +kernel, rfl⟩
theorem d_jLong_bitCount_41 : gD b_jLong_bitCount 41 (.lload_n 0) 1 42 := ⟨by decide +kernel, rfl⟩
theorem d_jLong_bitCount_42 : gD b_jLong_bitCount 42 (.lload_n 0) 1 43 := ⟨by decide +kernel, rfl⟩
theorem d_jLong_bitCount_43 : gD b_jLong_bitCount 43 (.bipush 16) 2 45 := ⟨by decide +kernel, rfl⟩
theorem d_jLong_bitCount_45 : gD b_jLong_bitCount 45 .lushr 1 46 := ⟨by decide +kernel, rfl⟩
theorem d_jLong_bitCount_46 : gD b_jLong_bitCount 46 .ladd 1 47 := ⟨by decide +kernel, rfl⟩
theorem d_jLong_bitCount_47 : gD b_jLong_bitCount 47 (.lstore_n 0) 1 48 := ⟨by decide +kernel, rfl⟩
theorem d_jLong_bitCount_48 : gD b_jLong_bitCount 48 (.lload_n 0) 1 49 := ⟨by decide +kernel, rfl⟩
theorem d_jLong_bitCount_49 : gD b_jLong_bitCount 49 (.lload_n 0) 1 50 := ⟨by decide +kernel, rfl⟩
theorem d_jLong_bitCount_50 : gD b_jLong_bitCount 50 (.bipush 32) 2 52 := ⟨by decide +kernel, rfl⟩
theorem d_jLong_bitCount_52 : gD b_jLong_bitCount 52 .lushr 1 53 := ⟨by decide +kernel, rfl⟩
theorem d_jLong_bitCount_53 : gD b_jLong_bitCount 53 .ladd 1 54 := ⟨by decide +kernel, rfl⟩
theorem d_jLong_bitCount_54 : gD b_jLong_bitCount 54 (.lstore_n 0) 1 55 := ⟨by decide +kernel, rfl⟩
theorem d_jLong_bitCount_55 : gD b_jLong_bitCount 55 (.lload_n 0) 1 56 := ⟨by decide +kernel, rfl⟩
theorem d_jLong_bitCount_56 : gD b_jLong_bitCount 56 .l2i 1 57 := ⟨by decide +kernel, rfl⟩
theorem d_jLong_bitCount_57 : gD b_jLong_bitCount 57 (.bipush 127) 2 59 := ⟨by decide +kernel, rfl⟩
theorem d_jLong_bitCount_59 : gD b_jLong_bitCount 59 .iand 1 60 := ⟨by decide +kernel, rfl⟩
theorem d_jLong_bitCount_60 : gD b_jLong_bitCount 60 .ireturn 1 61 := ⟨by decide +kernel, rfl⟩
def f_jLong_bitCount (N : Nat) (y0 : Int64) (h : gH) : Option (Int32) :=
  some ((((((((((y0 - (((y0.toUInt64 >>> ((1 : Int32).toInt64.toUInt64 &&& Int64.toUInt64 63)).toInt64) &&& (6148914691236517205 : Int64))) &&& (3689348814741910323 : Int64)) + ((((y0 - (((y0.toUInt64 >>> ((1 : Int32).toInt64.toUInt64 &&& Int64.toUInt64 63)).toInt64) &&& (6148914691236517205 : Int64))).toUInt64 >>> ((2 : Int32).toInt64.toUInt64 &&& Int64.toUInt64 63)).toInt64) &&& (3689348814741910323 : Int64))) + (((((y0 - (((y0.toUInt64 >>> ((1 : Int32).toInt64.toUInt64 &&& Int64.toUInt64 63)).toInt64) &&& (6148914691236517205 : Int64))) &&& (3689348814741910323 : Int64)) + ((((y0 - (((y0.toUInt64 >>> ((1 : Int32).toInt64.toUInt64 &&& Int64.toUInt64 63)).toInt64) &&& (6148914691236517205 : Int64))).toUInt64 >>> ((2 : Int32).toInt64.toUInt64 &&& Int64.toUInt64 63)).toInt64) &&& (3689348814741910323 : Int64))).toUInt64 >>> ((4 : Int32).toInt64.toUInt64 &&& Int64.toUInt64 63)).toInt64)) &&& (1085102592571150095 : Int64)) + (((((((y0 - (((y0.toUInt64 >>> ((1 : Int32).toInt64.toUInt64 &&& Int64.toUInt64 63)).toInt64) &&& (6148914691236517205 : Int64))) &&& (3689348814741910323 : Int64)) + ((((y0 - (((y0.toUInt64 >>> ((1 : Int32).toInt64.toUInt64 &&& Int64.toUInt64 63)).toInt64) &&& (6148914691236517205 : Int64))).toUInt64 >>> ((2 : Int32).toInt64.toUInt64 &&& Int64.toUInt64 63)).toInt64) &&& (3689348814741910323 : Int64))) + (((((y0 - (((y0.toUInt64 >>> ((1 : Int32).toInt64.toUInt64 &&& Int64.toUInt64 63)).toInt64) &&& (6148914691236517205 : Int64))) &&& (3689348814741910323 : Int64)) + ((((y0 - (((y0.toUInt64 >>> ((1 : Int32).toInt64.toUInt64 &&& Int64.toUInt64 63)).toInt64) &&& (6148914691236517205 : Int64))).toUInt64 >>> ((2 : Int32).toInt64.toUInt64 &&& Int64.toUInt64 63)).toInt64) &&& (3689348814741910323 : Int64))).toUInt64 >>> ((4 : Int32).toInt64.toUInt64 &&& Int64.toUInt64 63)).toInt64)) &&& (1085102592571150095 : Int64)).toUInt64 >>> ((8 : Int32).toInt64.toUInt64 &&& Int64.toUInt64 63)).toInt64)) + ((((((((y0 - (((y0.toUInt64 >>> ((1 : Int32).toInt64.toUInt64 &&& Int64.toUInt64 63)).toInt64) &&& (6148914691236517205 : Int64))) &&& (3689348814741910323 : Int64)) + ((((y0 - (((y0.toUInt64 >>> ((1 : Int32).toInt64.toUInt64 &&& Int64.toUInt64 63)).toInt64) &&& (6148914691236517205 : Int64))).toUInt64 >>> ((2 : Int32).toInt64.toUInt64 &&& Int64.toUInt64 63)).toInt64) &&& (3689348814741910323 : Int64))) + (((((y0 - (((y0.toUInt64 >>> ((1 : Int32).toInt64.toUInt64 &&& Int64.toUInt64 63)).toInt64) &&& (6148914691236517205 : Int64))) &&& (3689348814741910323 : Int64)) + ((((y0 - (((y0.toUInt64 >>> ((1 : Int32).toInt64.toUInt64 &&& Int64.toUInt64 63)).toInt64) &&& (6148914691236517205 : Int64))).toUInt64 >>> ((2 : Int32).toInt64.toUInt64 &&& Int64.toUInt64 63)).toInt64) &&& (3689348814741910323 : Int64))).toUInt64 >>> ((4 : Int32).toInt64.toUInt64 &&& Int64.toUInt64 63)).toInt64)) &&& (1085102592571150095 : Int64)) + (((((((y0 - (((y0.toUInt64 >>> ((1 : Int32).toInt64.toUInt64 &&& Int64.toUInt64 63)).toInt64) &&& (6148914691236517205 : Int64))) &&& (3689348814741910323 : Int64)) + ((((y0 - (((y0.toUInt64 >>> ((1 : Int32).toInt64.toUInt64 &&& Int64.toUInt64 63)).toInt64) &&& (6148914691236517205 : Int64))).toUInt64 >>> ((2 : Int32).toInt64.toUInt64 &&& Int64.toUInt64 63)).toInt64) &&& (3689348814741910323 : Int64))) + (((((y0 - (((y0.toUInt64 >>> ((1 : Int32).toInt64.toUInt64 &&& Int64.toUInt64 63)).toInt64) &&& (6148914691236517205 : Int64))) &&& (3689348814741910323 : Int64)) + ((((y0 - (((y0.toUInt64 >>> ((1 : Int32).toInt64.toUInt64 &&& Int64.toUInt64 63)).toInt64) &&& (6148914691236517205 : Int64))).toUInt64 >>> ((2 : Int32).toInt64.toUInt64 &&& Int64.toUInt64 63)).toInt64) &&& (3689348814741910323 : Int64))).toUInt64 >>> ((4 : Int32).toInt64.toUInt64 &&& Int64.toUInt64 63)).toInt64)) &&& (1085102592571150095 : Int64)).toUInt64 >>> ((8 : Int32).toInt64.toUInt64 &&& Int64.toUInt64 63)).toInt64)).toUInt64 >>> ((16 : Int32).toInt64.toUInt64 &&& Int64.toUInt64 63)).toInt64)) + (((((((((y0 - (((y0.toUInt64 >>> ((1 : Int32).toInt64.toUInt64 &&& Int64.toUInt64 63)).toInt64) &&& (6148914691236517205 : Int64))) &&& (3689348814741910323 : Int64)) + ((((y0 - (((y0.toUInt64 >>> ((1 : Int32).toInt64.toUInt64 &&& Int64.toUInt64 63)).toInt64) &&& (6148914691236517205 : Int64))).toUInt64 >>> ((2 : Int32).toInt64.toUInt64 &&& Int64.toUInt64 63)).toInt64) &&& (3689348814741910323 : Int64))) + (((((y0 - (((y0.toUInt64 >>> ((1 : Int32).toInt64.toUInt64 &&& Int64.toUInt64 63)).toInt64) &&& (6148914691236517205 : Int64))) &&& (3689348814741910323 : Int64)) + ((((y0 - (((y0.toUInt64 >>> ((1 : Int32).toInt64.toUInt64 &&& Int64.toUInt64 63)).toInt64) &&& (6148914691236517205 : Int64))).toUInt64 >>> ((2 : Int32).toInt64.toUInt64 &&& Int64.toUInt64 63)).toInt64) &&& (3689348814741910323 : Int64))).toUInt64 >>> ((4 : Int32).toInt64.toUInt64 &&& Int64.toUInt64 63)).toInt64)) &&& (1085102592571150095 : Int64)) + (((((((y0 - (((y0.toUInt64 >>> ((1 : Int32).toInt64.toUInt64 &&& Int64.toUInt64 63)).toInt64) &&& (6148914691236517205 : Int64))) &&& (3689348814741910323 : Int64)) + ((((y0 - (((y0.toUInt64 >>> ((1 : Int32).toInt64.toUInt64 &&& Int64.toUInt64 63)).toInt64) &&& (6148914691236517205 : Int64))).toUInt64 >>> ((2 : Int32).toInt64.toUInt64 &&& Int64.toUInt64 63)).toInt64) &&& (3689348814741910323 : Int64))) + (((((y0 - (((y0.toUInt64 >>> ((1 : Int32).toInt64.toUInt64 &&& Int64.toUInt64 63)).toInt64) &&& (6148914691236517205 : Int64))) &&& (3689348814741910323 : Int64)) + ((((y0 - (((y0.toUInt64 >>> ((1 : Int32).toInt64.toUInt64 &&& Int64.toUInt64 63)).toInt64) &&& (6148914691236517205 : Int64))).toUInt64 >>> ((2 : Int32).toInt64.toUInt64 &&& Int64.toUInt64 63)).toInt64) &&& (3689348814741910323 : Int64))).toUInt64 >>> ((4 : Int32).toInt64.toUInt64 &&& Int64.toUInt64 63)).toInt64)) &&& (1085102592571150095 : Int64)).toUInt64 >>> ((8 : Int32).toInt64.toUInt64 &&& Int64.toUInt64 63)).toInt64)) + ((((((((y0 - (((y0.toUInt64 >>> ((1 : Int32).toInt64.toUInt64 &&& Int64.toUInt64 63)).toInt64) &&& (6148914691236517205 : Int64))) &&& (3689348814741910323 : Int64)) + ((((y0 - (((y0.toUInt64 >>> ((1 : Int32).toInt64.toUInt64 &&& Int64.toUInt64 63)).toInt64) &&& (6148914691236517205 : Int64))).toUInt64 >>> ((2 : Int32).toInt64.toUInt64 &&& Int64.toUInt64 63)).toInt64) &&& (3689348814741910323 : Int64))) + (((((y0 - (((y0.toUInt64 >>> ((1 : Int32).toInt64.toUInt64 &&& Int64.toUInt64 63)).toInt64) &&& (6148914691236517205 : Int64))) &&& (3689348814741910323 : Int64)) + ((((y0 - (((y0.toUInt64 >>> ((1 : Int32).toInt64.toUInt64 &&& Int64.toUInt64 63)).toInt64) &&& (6148914691236517205 : Int64))).toUInt64 >>> ((2 : Int32).toInt64.toUInt64 &&& Int64.toUInt64 63)).toInt64) &&& (3689348814741910323 : Int64))).toUInt64 >>> ((4 : Int32).toInt64.toUInt64 &&& Int64.toUInt64 63)).toInt64)) &&& (1085102592571150095 : Int64)) + (((((((y0 - (((y0.toUInt64 >>> ((1 : Int32).toInt64.toUInt64 &&& Int64.toUInt64 63)).toInt64) &&& (6148914691236517205 : Int64))) &&& (3689348814741910323 : Int64)) + ((((y0 - (((y0.toUInt64 >>> ((1 : Int32).toInt64.toUInt64 &&& Int64.toUInt64 63)).toInt64) &&& (6148914691236517205 : Int64))).toUInt64 >>> ((2 : Int32).toInt64.toUInt64 &&& Int64.toUInt64 63)).toInt64) &&& (3689348814741910323 : Int64))) + (((((y0 - (((y0.toUInt64 >>> ((1 : Int32).toInt64.toUInt64 &&& Int64.toUInt64 63)).toInt64) &&& (6148914691236517205 : Int64))) &&& (3689348814741910323 : Int64)) + ((((y0 - (((y0.toUInt64 >>> ((1 : Int32).toInt64.toUInt64 &&& Int64.toUInt64 63)).toInt64) &&& (6148914691236517205 : Int64))).toUInt64 >>> ((2 : Int32).toInt64.toUInt64 &&& Int64.toUInt64 63)).toInt64) &&& (3689348814741910323 : Int64))).toUInt64 >>> ((4 : Int32).toInt64.toUInt64 &&& Int64.toUInt64 63)).toInt64)) &&& (1085102592571150095 : Int64)).toUInt64 >>> ((8 : Int32).toInt64.toUInt64 &&& Int64.toUInt64 63)).toInt64)).toUInt64 >>> ((16 : Int32).toInt64.toUInt64 &&& Int64.toUInt64 63)).toInt64)).toUInt64 >>> ((32 : Int32).toInt64.toUInt64 &&& Int64.toUInt64 63)).toInt64)).toInt32) &&& (127 : Int32))
set_option maxHeartbeats 4000000 in
set_option maxRecDepth 100000 in
theorem ct_jLong_bitCount (l : Launch) (X : gX) (hx : gEx X = false) (N : Nat) (y0 : Int64) (h : gH) (q : Int32) (hy : f_jLong_bitCount N y0 h = some q) : gMi l X y_jLong_bitCount b_jLong_bitCount 2 .int (1 + N) 0 0 [.long y0] h q h := by
  unfold f_jLong_bitCount at hy
  refine gMet_i (lsx := [(0, .long y0)]) (by decide) rfl rfl ?_
  intro M hMl K hret
  subst hMl
  refine g_lload_n K d_jLong_bitCount_0 0 rfl ?_
  refine g_lload_n K d_jLong_bitCount_1 0 rfl ?_
  refine g_iconst (v := 1) K d_jLong_bitCount_2 (by decide) ?_
  refine g_lushr K d_jLong_bitCount_3 ?_
  refine g_ldc2 (v := 6148914691236517205) K d_jLong_bitCount_4 (gTk_7 105 rfl rfl) ?_
  refine g_land K d_jLong_bitCount_7 ?_
  refine g_lsub K d_jLong_bitCount_8 ?_
  refine g_lstore_n (ls2 := [(0, .long (y0 - (((y0.toUInt64 >>> ((1 : Int32).toInt64.toUInt64 &&& Int64.toUInt64 63)).toInt64) &&& (6148914691236517205 : Int64))))]) K d_jLong_bitCount_9 rfl rfl ?_
  refine g_lload_n K d_jLong_bitCount_10 0 rfl ?_
  refine g_ldc2 (v := 3689348814741910323) K d_jLong_bitCount_11 (gTk_7 106 rfl rfl) ?_
  refine g_land K d_jLong_bitCount_14 ?_
  refine g_lload_n K d_jLong_bitCount_15 0 rfl ?_
  refine g_iconst (v := 2) K d_jLong_bitCount_16 (by decide) ?_
  refine g_lushr K d_jLong_bitCount_17 ?_
  refine g_ldc2 (v := 3689348814741910323) K d_jLong_bitCount_18 (gTk_7 106 rfl rfl) ?_
  refine g_land K d_jLong_bitCount_21 ?_
  refine g_ladd K d_jLong_bitCount_22 ?_
  refine g_lstore_n (ls2 := [(0, .long (((y0 - (((y0.toUInt64 >>> ((1 : Int32).toInt64.toUInt64 &&& Int64.toUInt64 63)).toInt64) &&& (6148914691236517205 : Int64))) &&& (3689348814741910323 : Int64)) + ((((y0 - (((y0.toUInt64 >>> ((1 : Int32).toInt64.toUInt64 &&& Int64.toUInt64 63)).toInt64) &&& (6148914691236517205 : Int64))).toUInt64 >>> ((2 : Int32).toInt64.toUInt64 &&& Int64.toUInt64 63)).toInt64) &&& (3689348814741910323 : Int64))))]) K d_jLong_bitCount_23 rfl rfl ?_
  refine g_lload_n K d_jLong_bitCount_24 0 rfl ?_
  refine g_lload_n K d_jLong_bitCount_25 0 rfl ?_
  refine g_iconst (v := 4) K d_jLong_bitCount_26 (by decide) ?_
  refine g_lushr K d_jLong_bitCount_27 ?_
  refine g_ladd K d_jLong_bitCount_28 ?_
  refine g_ldc2 (v := 1085102592571150095) K d_jLong_bitCount_29 (gTk_7 107 rfl rfl) ?_
  refine g_land K d_jLong_bitCount_32 ?_
  refine g_lstore_n (ls2 := [(0, .long (((((y0 - (((y0.toUInt64 >>> ((1 : Int32).toInt64.toUInt64 &&& Int64.toUInt64 63)).toInt64) &&& (6148914691236517205 : Int64))) &&& (3689348814741910323 : Int64)) + ((((y0 - (((y0.toUInt64 >>> ((1 : Int32).toInt64.toUInt64 &&& Int64.toUInt64 63)).toInt64) &&& (6148914691236517205 : Int64))).toUInt64 >>> ((2 : Int32).toInt64.toUInt64 &&& Int64.toUInt64 63)).toInt64) &&& (3689348814741910323 : Int64))) + (((((y0 - (((y0.toUInt64 >>> ((1 : Int32).toInt64.toUInt64 &&& Int64.toUInt64 63)).toInt64) &&& (6148914691236517205 : Int64))) &&& (3689348814741910323 : Int64)) + ((((y0 - (((y0.toUInt64 >>> ((1 : Int32).toInt64.toUInt64 &&& Int64.toUInt64 63)).toInt64) &&& (6148914691236517205 : Int64))).toUInt64 >>> ((2 : Int32).toInt64.toUInt64 &&& Int64.toUInt64 63)).toInt64) &&& (3689348814741910323 : Int64))).toUInt64 >>> ((4 : Int32).toInt64.toUInt64 &&& Int64.toUInt64 63)).toInt64)) &&& (1085102592571150095 : Int64)))]) K d_jLong_bitCount_33 rfl rfl ?_
  refine g_lload_n K d_jLong_bitCount_34 0 rfl ?_
  refine g_lload_n K d_jLong_bitCount_35 0 rfl ?_
  refine g_bipush (v := 8) K d_jLong_bitCount_36 (by decide) ?_
  refine g_lushr K d_jLong_bitCount_38 ?_
  refine g_ladd K d_jLong_bitCount_39 ?_
  refine g_lstore_n (ls2 := [(0, .long ((((((y0 - (((y0.toUInt64 >>> ((1 : Int32).toInt64.toUInt64 &&& Int64.toUInt64 63)).toInt64) &&& (6148914691236517205 : Int64))) &&& (3689348814741910323 : Int64)) + ((((y0 - (((y0.toUInt64 >>> ((1 : Int32).toInt64.toUInt64 &&& Int64.toUInt64 63)).toInt64) &&& (6148914691236517205 : Int64))).toUInt64 >>> ((2 : Int32).toInt64.toUInt64 &&& Int64.toUInt64 63)).toInt64) &&& (3689348814741910323 : Int64))) + (((((y0 - (((y0.toUInt64 >>> ((1 : Int32).toInt64.toUInt64 &&& Int64.toUInt64 63)).toInt64) &&& (6148914691236517205 : Int64))) &&& (3689348814741910323 : Int64)) + ((((y0 - (((y0.toUInt64 >>> ((1 : Int32).toInt64.toUInt64 &&& Int64.toUInt64 63)).toInt64) &&& (6148914691236517205 : Int64))).toUInt64 >>> ((2 : Int32).toInt64.toUInt64 &&& Int64.toUInt64 63)).toInt64) &&& (3689348814741910323 : Int64))).toUInt64 >>> ((4 : Int32).toInt64.toUInt64 &&& Int64.toUInt64 63)).toInt64)) &&& (1085102592571150095 : Int64)) + (((((((y0 - (((y0.toUInt64 >>> ((1 : Int32).toInt64.toUInt64 &&& Int64.toUInt64 63)).toInt64) &&& (6148914691236517205 : Int64))) &&& (3689348814741910323 : Int64)) + ((((y0 - (((y0.toUInt64 >>> ((1 : Int32).toInt64.toUInt64 &&& Int64.toUInt64 63)).toInt64) &&& (6148914691236517205 : Int64))).toUInt64 >>> ((2 : Int32).toInt64.toUInt64 &&& Int64.toUInt64 63)).toInt64) &&& (3689348814741910323 : Int64))) + (((((y0 - (((y0.toUInt64 >>> ((1 : Int32).toInt64.toUInt64 &&& Int64.toUInt64 63)).toInt64) &&& (6148914691236517205 : Int64))) &&& (3689348814741910323 : Int64)) + ((((y0 - (((y0.toUInt64 >>> ((1 : Int32).toInt64.toUInt64 &&& Int64.toUInt64 63)).toInt64) &&& (6148914691236517205 : Int64))).toUInt64 >>> ((2 : Int32).toInt64.toUInt64 &&& Int64.toUInt64 63)).toInt64) &&& (3689348814741910323 : Int64))).toUInt64 >>> ((4 : Int32).toInt64.toUInt64 &&& Int64.toUInt64 63)).toInt64)) &&& (1085102592571150095 : Int64)).toUInt64 >>> ((8 : Int32).toInt64.toUInt64 &&& Int64.toUInt64 63)).toInt64)))]) K d_jLong_bitCount_40 rfl rfl ?_
  refine g_lload_n K d_jLong_bitCount_41 0 rfl ?_
  refine g_lload_n K d_jLong_bitCount_42 0 rfl ?_
  refine g_bipush (v := 16) K d_jLong_bitCount_43 (by decide) ?_
  refine g_lushr K d_jLong_bitCount_45 ?_
  refine g_ladd K d_jLong_bitCount_46 ?_
  refine g_lstore_n (ls2 := [(0, .long (((((((y0 - (((y0.toUInt64 >>> ((1 : Int32).toInt64.toUInt64 &&& Int64.toUInt64 63)).toInt64) &&& (6148914691236517205 : Int64))) &&& (3689348814741910323 : Int64)) + ((((y0 - (((y0.toUInt64 >>> ((1 : Int32).toInt64.toUInt64 &&& Int64.toUInt64 63)).toInt64) &&& (6148914691236517205 : Int64))).toUInt64 >>> ((2 : Int32).toInt64.toUInt64 &&& Int64.toUInt64 63)).toInt64) &&& (3689348814741910323 : Int64))) + (((((y0 - (((y0.toUInt64 >>> ((1 : Int32).toInt64.toUInt64 &&& Int64.toUInt64 63)).toInt64) &&& (6148914691236517205 : Int64))) &&& (3689348814741910323 : Int64)) + ((((y0 - (((y0.toUInt64 >>> ((1 : Int32).toInt64.toUInt64 &&& Int64.toUInt64 63)).toInt64) &&& (6148914691236517205 : Int64))).toUInt64 >>> ((2 : Int32).toInt64.toUInt64 &&& Int64.toUInt64 63)).toInt64) &&& (3689348814741910323 : Int64))).toUInt64 >>> ((4 : Int32).toInt64.toUInt64 &&& Int64.toUInt64 63)).toInt64)) &&& (1085102592571150095 : Int64)) + (((((((y0 - (((y0.toUInt64 >>> ((1 : Int32).toInt64.toUInt64 &&& Int64.toUInt64 63)).toInt64) &&& (6148914691236517205 : Int64))) &&& (3689348814741910323 : Int64)) + ((((y0 - (((y0.toUInt64 >>> ((1 : Int32).toInt64.toUInt64 &&& Int64.toUInt64 63)).toInt64) &&& (6148914691236517205 : Int64))).toUInt64 >>> ((2 : Int32).toInt64.toUInt64 &&& Int64.toUInt64 63)).toInt64) &&& (3689348814741910323 : Int64))) + (((((y0 - (((y0.toUInt64 >>> ((1 : Int32).toInt64.toUInt64 &&& Int64.toUInt64 63)).toInt64) &&& (6148914691236517205 : Int64))) &&& (3689348814741910323 : Int64)) + ((((y0 - (((y0.toUInt64 >>> ((1 : Int32).toInt64.toUInt64 &&& Int64.toUInt64 63)).toInt64) &&& (6148914691236517205 : Int64))).toUInt64 >>> ((2 : Int32).toInt64.toUInt64 &&& Int64.toUInt64 63)).toInt64) &&& (3689348814741910323 : Int64))).toUInt64 >>> ((4 : Int32).toInt64.toUInt64 &&& Int64.toUInt64 63)).toInt64)) &&& (1085102592571150095 : Int64)).toUInt64 >>> ((8 : Int32).toInt64.toUInt64 &&& Int64.toUInt64 63)).toInt64)) + ((((((((y0 - (((y0.toUInt64 >>> ((1 : Int32).toInt64.toUInt64 &&& Int64.toUInt64 63)).toInt64) &&& (6148914691236517205 : Int64))) &&& (3689348814741910323 : Int64)) + ((((y0 - (((y0.toUInt64 >>> ((1 : Int32).toInt64.toUInt64 &&& Int64.toUInt64 63)).toInt64) &&& (6148914691236517205 : Int64))).toUInt64 >>> ((2 : Int32).toInt64.toUInt64 &&& Int64.toUInt64 63)).toInt64) &&& (3689348814741910323 : Int64))) + (((((y0 - (((y0.toUInt64 >>> ((1 : Int32).toInt64.toUInt64 &&& Int64.toUInt64 63)).toInt64) &&& (6148914691236517205 : Int64))) &&& (3689348814741910323 : Int64)) + ((((y0 - (((y0.toUInt64 >>> ((1 : Int32).toInt64.toUInt64 &&& Int64.toUInt64 63)).toInt64) &&& (6148914691236517205 : Int64))).toUInt64 >>> ((2 : Int32).toInt64.toUInt64 &&& Int64.toUInt64 63)).toInt64) &&& (3689348814741910323 : Int64))).toUInt64 >>> ((4 : Int32).toInt64.toUInt64 &&& Int64.toUInt64 63)).toInt64)) &&& (1085102592571150095 : Int64)) + (((((((y0 - (((y0.toUInt64 >>> ((1 : Int32).toInt64.toUInt64 &&& Int64.toUInt64 63)).toInt64) &&& (6148914691236517205 : Int64))) &&& (3689348814741910323 : Int64)) + ((((y0 - (((y0.toUInt64 >>> ((1 : Int32).toInt64.toUInt64 &&& Int64.toUInt64 63)).toInt64) &&& (6148914691236517205 : Int64))).toUInt64 >>> ((2 : Int32).toInt64.toUInt64 &&& Int64.toUInt64 63)).toInt64) &&& (3689348814741910323 : Int64))) + (((((y0 - (((y0.toUInt64 >>> ((1 : Int32).toInt64.toUInt64 &&& Int64.toUInt64 63)).toInt64) &&& (6148914691236517205 : Int64))) &&& (3689348814741910323 : Int64)) + ((((y0 - (((y0.toUInt64 >>> ((1 : Int32).toInt64.toUInt64 &&& Int64.toUInt64 63)).toInt64) &&& (6148914691236517205 : Int64))).toUInt64 >>> ((2 : Int32).toInt64.toUInt64 &&& Int64.toUInt64 63)).toInt64) &&& (3689348814741910323 : Int64))).toUInt64 >>> ((4 : Int32).toInt64.toUInt64 &&& Int64.toUInt64 63)).toInt64)) &&& (1085102592571150095 : Int64)).toUInt64 >>> ((8 : Int32).toInt64.toUInt64 &&& Int64.toUInt64 63)).toInt64)).toUInt64 >>> ((16 : Int32).toInt64.toUInt64 &&& Int64.toUInt64 63)).toInt64)))]) K d_jLong_bitCount_47 rfl rfl ?_
  refine g_lload_n K d_jLong_bitCount_48 0 rfl ?_
  refine g_lload_n K d_jLong_bitCount_49 0 rfl ?_
  refine g_bipush (v := 32) K d_jLong_bitCount_50 (by decide) ?_
  refine g_lushr K d_jLong_bitCount_52 ?_
  refine g_ladd K d_jLong_bitCount_53 ?_
  refine g_lstore_n (ls2 := [(0, .long ((((((((y0 - (((y0.toUInt64 >>> ((1 : Int32).toInt64.toUInt64 &&& Int64.toUInt64 63)).toInt64) &&& (6148914691236517205 : Int64))) &&& (3689348814741910323 : Int64)) + ((((y0 - (((y0.toUInt64 >>> ((1 : Int32).toInt64.toUInt64 &&& Int64.toUInt64 63)).toInt64) &&& (6148914691236517205 : Int64))).toUInt64 >>> ((2 : Int32).toInt64.toUInt64 &&& Int64.toUInt64 63)).toInt64) &&& (3689348814741910323 : Int64))) + (((((y0 - (((y0.toUInt64 >>> ((1 : Int32).toInt64.toUInt64 &&& Int64.toUInt64 63)).toInt64) &&& (6148914691236517205 : Int64))) &&& (3689348814741910323 : Int64)) + ((((y0 - (((y0.toUInt64 >>> ((1 : Int32).toInt64.toUInt64 &&& Int64.toUInt64 63)).toInt64) &&& (6148914691236517205 : Int64))).toUInt64 >>> ((2 : Int32).toInt64.toUInt64 &&& Int64.toUInt64 63)).toInt64) &&& (3689348814741910323 : Int64))).toUInt64 >>> ((4 : Int32).toInt64.toUInt64 &&& Int64.toUInt64 63)).toInt64)) &&& (1085102592571150095 : Int64)) + (((((((y0 - (((y0.toUInt64 >>> ((1 : Int32).toInt64.toUInt64 &&& Int64.toUInt64 63)).toInt64) &&& (6148914691236517205 : Int64))) &&& (3689348814741910323 : Int64)) + ((((y0 - (((y0.toUInt64 >>> ((1 : Int32).toInt64.toUInt64 &&& Int64.toUInt64 63)).toInt64) &&& (6148914691236517205 : Int64))).toUInt64 >>> ((2 : Int32).toInt64.toUInt64 &&& Int64.toUInt64 63)).toInt64) &&& (3689348814741910323 : Int64))) + (((((y0 - (((y0.toUInt64 >>> ((1 : Int32).toInt64.toUInt64 &&& Int64.toUInt64 63)).toInt64) &&& (6148914691236517205 : Int64))) &&& (3689348814741910323 : Int64)) + ((((y0 - (((y0.toUInt64 >>> ((1 : Int32).toInt64.toUInt64 &&& Int64.toUInt64 63)).toInt64) &&& (6148914691236517205 : Int64))).toUInt64 >>> ((2 : Int32).toInt64.toUInt64 &&& Int64.toUInt64 63)).toInt64) &&& (3689348814741910323 : Int64))).toUInt64 >>> ((4 : Int32).toInt64.toUInt64 &&& Int64.toUInt64 63)).toInt64)) &&& (1085102592571150095 : Int64)).toUInt64 >>> ((8 : Int32).toInt64.toUInt64 &&& Int64.toUInt64 63)).toInt64)) + ((((((((y0 - (((y0.toUInt64 >>> ((1 : Int32).toInt64.toUInt64 &&& Int64.toUInt64 63)).toInt64) &&& (6148914691236517205 : Int64))) &&& (3689348814741910323 : Int64)) + ((((y0 - (((y0.toUInt64 >>> ((1 : Int32).toInt64.toUInt64 &&& Int64.toUInt64 63)).toInt64) &&& (6148914691236517205 : Int64))).toUInt64 >>> ((2 : Int32).toInt64.toUInt64 &&& Int64.toUInt64 63)).toInt64) &&& (3689348814741910323 : Int64))) + (((((y0 - (((y0.toUInt64 >>> ((1 : Int32).toInt64.toUInt64 &&& Int64.toUInt64 63)).toInt64) &&& (6148914691236517205 : Int64))) &&& (3689348814741910323 : Int64)) + ((((y0 - (((y0.toUInt64 >>> ((1 : Int32).toInt64.toUInt64 &&& Int64.toUInt64 63)).toInt64) &&& (6148914691236517205 : Int64))).toUInt64 >>> ((2 : Int32).toInt64.toUInt64 &&& Int64.toUInt64 63)).toInt64) &&& (3689348814741910323 : Int64))).toUInt64 >>> ((4 : Int32).toInt64.toUInt64 &&& Int64.toUInt64 63)).toInt64)) &&& (1085102592571150095 : Int64)) + (((((((y0 - (((y0.toUInt64 >>> ((1 : Int32).toInt64.toUInt64 &&& Int64.toUInt64 63)).toInt64) &&& (6148914691236517205 : Int64))) &&& (3689348814741910323 : Int64)) + ((((y0 - (((y0.toUInt64 >>> ((1 : Int32).toInt64.toUInt64 &&& Int64.toUInt64 63)).toInt64) &&& (6148914691236517205 : Int64))).toUInt64 >>> ((2 : Int32).toInt64.toUInt64 &&& Int64.toUInt64 63)).toInt64) &&& (3689348814741910323 : Int64))) + (((((y0 - (((y0.toUInt64 >>> ((1 : Int32).toInt64.toUInt64 &&& Int64.toUInt64 63)).toInt64) &&& (6148914691236517205 : Int64))) &&& (3689348814741910323 : Int64)) + ((((y0 - (((y0.toUInt64 >>> ((1 : Int32).toInt64.toUInt64 &&& Int64.toUInt64 63)).toInt64) &&& (6148914691236517205 : Int64))).toUInt64 >>> ((2 : Int32).toInt64.toUInt64 &&& Int64.toUInt64 63)).toInt64) &&& (3689348814741910323 : Int64))).toUInt64 >>> ((4 : Int32).toInt64.toUInt64 &&& Int64.toUInt64 63)).toInt64)) &&& (1085102592571150095 : Int64)).toUInt64 >>> ((8 : Int32).toInt64.toUInt64 &&& Int64.toUInt64 63)).toInt64)).toUInt64 >>> ((16 : Int32).toInt64.toUInt64 &&& Int64.toUInt64 63)).toInt64)) + (((((((((y0 - (((y0.toUInt64 >>> ((1 : Int32).toInt64.toUInt64 &&& Int64.toUInt64 63)).toInt64) &&& (6148914691236517205 : Int64))) &&& (3689348814741910323 : Int64)) + ((((y0 - (((y0.toUInt64 >>> ((1 : Int32).toInt64.toUInt64 &&& Int64.toUInt64 63)).toInt64) &&& (6148914691236517205 : Int64))).toUInt64 >>> ((2 : Int32).toInt64.toUInt64 &&& Int64.toUInt64 63)).toInt64) &&& (3689348814741910323 : Int64))) + (((((y0 - (((y0.toUInt64 >>> ((1 : Int32).toInt64.toUInt64 &&& Int64.toUInt64 63)).toInt64) &&& (6148914691236517205 : Int64))) &&& (3689348814741910323 : Int64)) + ((((y0 - (((y0.toUInt64 >>> ((1 : Int32).toInt64.toUInt64 &&& Int64.toUInt64 63)).toInt64) &&& (6148914691236517205 : Int64))).toUInt64 >>> ((2 : Int32).toInt64.toUInt64 &&& Int64.toUInt64 63)).toInt64) &&& (3689348814741910323 : Int64))).toUInt64 >>> ((4 : Int32).toInt64.toUInt64 &&& Int64.toUInt64 63)).toInt64)) &&& (1085102592571150095 : Int64)) + (((((((y0 - (((y0.toUInt64 >>> ((1 : Int32).toInt64.toUInt64 &&& Int64.toUInt64 63)).toInt64) &&& (6148914691236517205 : Int64))) &&& (3689348814741910323 : Int64)) + ((((y0 - (((y0.toUInt64 >>> ((1 : Int32).toInt64.toUInt64 &&& Int64.toUInt64 63)).toInt64) &&& (6148914691236517205 : Int64))).toUInt64 >>> ((2 : Int32).toInt64.toUInt64 &&& Int64.toUInt64 63)).toInt64) &&& (3689348814741910323 : Int64))) + (((((y0 - (((y0.toUInt64 >>> ((1 : Int32).toInt64.toUInt64 &&& Int64.toUInt64 63)).toInt64) &&& (6148914691236517205 : Int64))) &&& (3689348814741910323 : Int64)) + ((((y0 - (((y0.toUInt64 >>> ((1 : Int32).toInt64.toUInt64 &&& Int64.toUInt64 63)).toInt64) &&& (6148914691236517205 : Int64))).toUInt64 >>> ((2 : Int32).toInt64.toUInt64 &&& Int64.toUInt64 63)).toInt64) &&& (3689348814741910323 : Int64))).toUInt64 >>> ((4 : Int32).toInt64.toUInt64 &&& Int64.toUInt64 63)).toInt64)) &&& (1085102592571150095 : Int64)).toUInt64 >>> ((8 : Int32).toInt64.toUInt64 &&& Int64.toUInt64 63)).toInt64)) + ((((((((y0 - (((y0.toUInt64 >>> ((1 : Int32).toInt64.toUInt64 &&& Int64.toUInt64 63)).toInt64) &&& (6148914691236517205 : Int64))) &&& (3689348814741910323 : Int64)) + ((((y0 - (((y0.toUInt64 >>> ((1 : Int32).toInt64.toUInt64 &&& Int64.toUInt64 63)).toInt64) &&& (6148914691236517205 : Int64))).toUInt64 >>> ((2 : Int32).toInt64.toUInt64 &&& Int64.toUInt64 63)).toInt64) &&& (3689348814741910323 : Int64))) + (((((y0 - (((y0.toUInt64 >>> ((1 : Int32).toInt64.toUInt64 &&& Int64.toUInt64 63)).toInt64) &&& (6148914691236517205 : Int64))) &&& (3689348814741910323 : Int64)) + ((((y0 - (((y0.toUInt64 >>> ((1 : Int32).toInt64.toUInt64 &&& Int64.toUInt64 63)).toInt64) &&& (6148914691236517205 : Int64))).toUInt64 >>> ((2 : Int32).toInt64.toUInt64 &&& Int64.toUInt64 63)).toInt64) &&& (3689348814741910323 : Int64))).toUInt64 >>> ((4 : Int32).toInt64.toUInt64 &&& Int64.toUInt64 63)).toInt64)) &&& (1085102592571150095 : Int64)) + (((((((y0 - (((y0.toUInt64 >>> ((1 : Int32).toInt64.toUInt64 &&& Int64.toUInt64 63)).toInt64) &&& (6148914691236517205 : Int64))) &&& (3689348814741910323 : Int64)) + ((((y0 - (((y0.toUInt64 >>> ((1 : Int32).toInt64.toUInt64 &&& Int64.toUInt64 63)).toInt64) &&& (6148914691236517205 : Int64))).toUInt64 >>> ((2 : Int32).toInt64.toUInt64 &&& Int64.toUInt64 63)).toInt64) &&& (3689348814741910323 : Int64))) + (((((y0 - (((y0.toUInt64 >>> ((1 : Int32).toInt64.toUInt64 &&& Int64.toUInt64 63)).toInt64) &&& (6148914691236517205 : Int64))) &&& (3689348814741910323 : Int64)) + ((((y0 - (((y0.toUInt64 >>> ((1 : Int32).toInt64.toUInt64 &&& Int64.toUInt64 63)).toInt64) &&& (6148914691236517205 : Int64))).toUInt64 >>> ((2 : Int32).toInt64.toUInt64 &&& Int64.toUInt64 63)).toInt64) &&& (3689348814741910323 : Int64))).toUInt64 >>> ((4 : Int32).toInt64.toUInt64 &&& Int64.toUInt64 63)).toInt64)) &&& (1085102592571150095 : Int64)).toUInt64 >>> ((8 : Int32).toInt64.toUInt64 &&& Int64.toUInt64 63)).toInt64)).toUInt64 >>> ((16 : Int32).toInt64.toUInt64 &&& Int64.toUInt64 63)).toInt64)).toUInt64 >>> ((32 : Int32).toInt64.toUInt64 &&& Int64.toUInt64 63)).toInt64)))]) K d_jLong_bitCount_54 rfl rfl ?_
  refine g_lload_n K d_jLong_bitCount_55 0 rfl ?_
  refine g_l2i K d_jLong_bitCount_56 ?_
  refine g_bipush (v := 127) K d_jLong_bitCount_57 (by decide) ?_
  refine g_iand K d_jLong_bitCount_59 ?_
  obtain rfl := Option.some.inj hy
  exact hret rfl _ _ _ d_jLong_bitCount_60
-- jString coder
theorem d_jString_coder_0 : gD b_jString_coder 0 (.getstatic 38) 3 3 := ⟨by decide +kernel, rfl⟩
theorem d_jString_coder_3 : gJ b_jString_coder 3 (.ifCond .eq 10) 3 10 6 13 := ⟨by decide +kernel, rfl, by decide⟩
theorem d_jString_coder_6 : gD b_jString_coder 6 (.aload_n 0) 1 7 := ⟨by decide +kernel, rfl⟩
theorem d_jString_coder_7 : gD b_jString_coder 7 (.getfield 15) 3 10 := ⟨by decide +kernel, rfl⟩
theorem d_jString_coder_10 : gJ b_jString_coder 10 (.goto 4) 3 4 13 14 := ⟨by decide +kernel, rfl, by decide⟩
theorem d_jString_coder_13 : gD b_jString_coder 13 (.iconst 1) 1 14 := ⟨by decide +kernel, rfl⟩
theorem d_jString_coder_14 : gD b_jString_coder 14 .ireturn 1 15 := ⟨by decide +kernel, rfl⟩
def f_jString_coder (N : Nat) (a0 : Nat) (h : gH) : Option (Int32) :=
  (gclS a0).bind fun _ =>
  (show Option (Int32) from if (1 : Int32) = 0 then
    some (1 : Int32)
  else
    (gclS a0).bind fun v5 =>
    some (0 : Int32)).bind fun t2 =>
    (gNar .byte t2).bind fun w4 => some w4
set_option maxHeartbeats 4000000 in
set_option maxRecDepth 100000 in
theorem ct_jString_coder (l : Launch) (X : gX) (hx : gEx X = false) (N : Nat) (a0 : Nat) (h : gH) (q : Int32) (hy : f_jString_coder N a0 h = some q) : gRc y_jString_coder h a0 ∧ gMi l X y_jString_coder b_jString_coder 1 .byte (1 + N) 0 0 [.ref a0] h q h := by
  unfold f_jString_coder at hy
  obtain ⟨u0, e_u0, hy⟩ := gBd hy
  cases u0
  refine ⟨Or.inr ⟨rfl, (gclS_spec e_u0).1, (gclS_spec e_u0).2⟩, gMet_i (lsx := [(0, .ref a0)]) (by decide) rfl rfl ?_⟩
  intro M hMl K hret
  subst hMl
  refine g_compact K d_jString_coder_0 (gTk_3 157 rfl rfl) ?_
  obtain ⟨t2, e_t2, hy⟩ := gBd hy
  have hJ3 : gG M X 1 0 0 14 [] [.int t2] h := by
    obtain ⟨w4, e_w4, hy⟩ := gBd hy
    obtain ⟨z_w4, n_w4⟩ := gNar_spec e_w4
    rw [z_w4]
    obtain rfl := Option.some.inj hy
    exact hret (gNar_b n_w4) _ _ _ d_jString_coder_14
  refine g_if_eq K d_jString_coder_3 (fun c1 => ?_) (fun c1 => ?_)
  · rw [if_pos c1] at e_t2
    refine g_iconst (v := 1) K d_jString_coder_13 (by decide) ?_
    refine g_sub (ls2 := []) [] rfl ?_
    obtain rfl := Option.some.inj e_t2
    exact hJ3
  · rw [if_neg c1] at e_t2
    refine g_aload_n K d_jString_coder_6 0 rfl ?_
    obtain ⟨v5, e_v5, e_t2⟩ := gBd e_t2
    refine g_strC K (gTk_7 229 rfl rfl) d_jString_coder_7 e_v5 ?_
    refine g_goto K d_jString_coder_10 ?_
    refine g_sub (ls2 := []) [] rfl ?_
    obtain rfl := Option.some.inj e_t2
    exact hJ3
-- jString isEmpty
theorem d_jString_isEmpty_0 : gD b_jString_isEmpty 0 (.aload_n 0) 1 1 := ⟨by decide +kernel, rfl⟩
theorem d_jString_isEmpty_1 : gD b_jString_isEmpty 1 (.getfield 9) 3 4 := ⟨by decide +kernel, rfl⟩
theorem d_jString_isEmpty_4 : gD b_jString_isEmpty 4 .arraylength 1 5 := ⟨by decide +kernel, rfl⟩
theorem d_jString_isEmpty_5 : gJ b_jString_isEmpty 5 (.ifCond .ne 7) 3 7 8 12 := ⟨by decide +kernel, rfl, by decide⟩
theorem d_jString_isEmpty_8 : gD b_jString_isEmpty 8 (.iconst 1) 1 9 := ⟨by decide +kernel, rfl⟩
theorem d_jString_isEmpty_9 : gJ b_jString_isEmpty 9 (.goto 4) 3 4 12 13 := ⟨by decide +kernel, rfl, by decide⟩
theorem d_jString_isEmpty_12 : gD b_jString_isEmpty 12 (.iconst 0) 1 13 := ⟨by decide +kernel, rfl⟩
theorem d_jString_isEmpty_13 : gD b_jString_isEmpty 13 .ireturn 1 14 := ⟨by decide +kernel, rfl⟩
def f_jString_isEmpty (N : Nat) (a0 : Nat) (h : gH) : Option (Int32) :=
  (gclS a0).bind fun _ =>
  (gsV a0).bind fun v1 =>
    (gn h v1).bind fun v2 =>
    (gZ (if v2 = 0 then (1 : Int32) else (0 : Int32))).bind fun w6 => some w6
set_option maxHeartbeats 4000000 in
set_option maxRecDepth 100000 in
theorem ct_jString_isEmpty (l : Launch) (X : gX) (hx : gEx X = false) (N : Nat) (a0 : Nat) (h : gH) (q : Int32) (hy : f_jString_isEmpty N a0 h = some q) : gRc y_jString_isEmpty h a0 ∧ gMi l X y_jString_isEmpty b_jString_isEmpty 1 .boolean (1 + N) 0 0 [.ref a0] h q h := by
  unfold f_jString_isEmpty at hy
  obtain ⟨u0, e_u0, hy⟩ := gBd hy
  cases u0
  refine ⟨Or.inr ⟨rfl, (gclS_spec e_u0).1, (gclS_spec e_u0).2⟩, gMet_i (lsx := [(0, .ref a0)]) (by decide) rfl rfl ?_⟩
  intro M hMl K hret
  subst hMl
  refine g_aload_n K d_jString_isEmpty_0 0 rfl ?_
  obtain ⟨v1, e_v1, hy⟩ := gBd hy
  refine g_strV K (gTk_7 228 rfl rfl) d_jString_isEmpty_1 e_v1 ?_
  obtain ⟨v2, e_v2, hy⟩ := gBd hy
  refine g_alen K d_jString_isEmpty_4 e_v2 ?_
  have hJ5 : ∀ w4 : Int32, w4 = (if v2 = 0 then (1 : Int32) else (0 : Int32)) → gG M X 1 0 0 13 [(0, .ref a0)] [.int w4] h := by
    intro w4 e_w4
    subst e_w4
    obtain ⟨w6, e_w6, hy⟩ := gBd hy
    obtain ⟨z_w6, n_w6⟩ := gZ_spec e_w6
    rw [z_w6]
    obtain rfl := Option.some.inj hy
    exact hret (gZn n_w6) _ _ _ d_jString_isEmpty_13
  refine g_if_ne K d_jString_isEmpty_5 (fun c3 => ?_) (fun c3 => ?_)
  · refine g_iconst (v := 0) K d_jString_isEmpty_12 (by decide) ?_
    exact hJ5 _ (by rw [if_neg c3])
  · refine g_iconst (v := 1) K d_jString_isEmpty_8 (by decide) ?_
    refine g_goto K d_jString_isEmpty_9 ?_
    exact hJ5 _ (by rw [if_pos c3])
-- jString isLatin1
theorem d_jString_isLatin1_0 : gD b_jString_isLatin1 0 (.getstatic 38) 3 3 := ⟨by decide +kernel, rfl⟩
theorem d_jString_isLatin1_3 : gJ b_jString_isLatin1 3 (.ifCond .eq 14) 3 14 6 17 := ⟨by decide +kernel, rfl, by decide⟩
theorem d_jString_isLatin1_6 : gD b_jString_isLatin1 6 (.aload_n 0) 1 7 := ⟨by decide +kernel, rfl⟩
theorem d_jString_isLatin1_7 : gD b_jString_isLatin1 7 (.getfield 15) 3 10 := ⟨by decide +kernel, rfl⟩
theorem d_jString_isLatin1_10 : gJ b_jString_isLatin1 10 (.ifCond .ne 7) 3 7 13 17 := ⟨by decide +kernel, rfl, by decide⟩
theorem d_jString_isLatin1_13 : gD b_jString_isLatin1 13 (.iconst 1) 1 14 := ⟨by decide +kernel, rfl⟩
theorem d_jString_isLatin1_14 : gJ b_jString_isLatin1 14 (.goto 4) 3 4 17 18 := ⟨by decide +kernel, rfl, by decide⟩
theorem d_jString_isLatin1_17 : gD b_jString_isLatin1 17 (.iconst 0) 1 18 := ⟨by decide +kernel, rfl⟩
theorem d_jString_isLatin1_18 : gD b_jString_isLatin1 18 .ireturn 1 19 := ⟨by decide +kernel, rfl⟩
def f_jString_isLatin1 (N : Nat) (a0 : Nat) (h : gH) : Option (Int32) :=
  (gclS a0).bind fun _ =>
  (show Option (Int32) from if (1 : Int32) = 0 then
    some (0 : Int32)
  else
    (gclS a0).bind fun v5 =>
    if (0 : Int32) = 0 then
    some (1 : Int32)
  else
    some (0 : Int32)).bind fun t2 =>
    (gZ t2).bind fun w4 => some w4
set_option maxHeartbeats 4000000 in
set_option maxRecDepth 100000 in
theorem ct_jString_isLatin1 (l : Launch) (X : gX) (hx : gEx X = false) (N : Nat) (a0 : Nat) (h : gH) (q : Int32) (hy : f_jString_isLatin1 N a0 h = some q) : gRc y_jString_isLatin1 h a0 ∧ gMi l X y_jString_isLatin1 b_jString_isLatin1 1 .boolean (1 + N) 0 0 [.ref a0] h q h := by
  unfold f_jString_isLatin1 at hy
  obtain ⟨u0, e_u0, hy⟩ := gBd hy
  cases u0
  refine ⟨Or.inr ⟨rfl, (gclS_spec e_u0).1, (gclS_spec e_u0).2⟩, gMet_i (lsx := [(0, .ref a0)]) (by decide) rfl rfl ?_⟩
  intro M hMl K hret
  subst hMl
  refine g_compact K d_jString_isLatin1_0 (gTk_3 157 rfl rfl) ?_
  obtain ⟨t2, e_t2, hy⟩ := gBd hy
  have hJ3 : gG M X 1 0 0 18 [] [.int t2] h := by
    obtain ⟨w4, e_w4, hy⟩ := gBd hy
    obtain ⟨z_w4, n_w4⟩ := gZ_spec e_w4
    rw [z_w4]
    obtain rfl := Option.some.inj hy
    exact hret (gZn n_w4) _ _ _ d_jString_isLatin1_18
  refine g_if_eq K d_jString_isLatin1_3 (fun c1 => ?_) (fun c1 => ?_)
  · rw [if_pos c1] at e_t2
    refine g_iconst (v := 0) K d_jString_isLatin1_17 (by decide) ?_
    refine g_sub (ls2 := []) [] rfl ?_
    obtain rfl := Option.some.inj e_t2
    exact hJ3
  · rw [if_neg c1] at e_t2
    refine g_aload_n K d_jString_isLatin1_6 0 rfl ?_
    obtain ⟨v5, e_v5, e_t2⟩ := gBd e_t2
    refine g_strC K (gTk_7 229 rfl rfl) d_jString_isLatin1_7 e_v5 ?_
    refine g_if_ne K d_jString_isLatin1_10 (fun c6 => ?_) (fun c6 => ?_)
    · rw [if_neg c6] at e_t2
      refine g_iconst (v := 0) K d_jString_isLatin1_17 (by decide) ?_
      refine g_sub (ls2 := []) [] rfl ?_
      obtain rfl := Option.some.inj e_t2
      exact hJ3
    · rw [if_pos c6] at e_t2
      refine g_iconst (v := 1) K d_jString_isLatin1_13 (by decide) ?_
      refine g_goto K d_jString_isLatin1_14 ?_
      refine g_sub (ls2 := []) [] rfl ?_
      obtain rfl := Option.some.inj e_t2
      exact hJ3
-- c10 count
theorem d_c10_count_0 : gD b_c10_count 0 (.iload_n 1) 1 1 := ⟨by decide +kernel, rfl⟩
theorem d_c10_count_1 : decode b_c10_count 1 = .ok ((.tableswitch 183 0 13 #[71, 79, 87, 95, 103, 111, 119, 127, 135, 143, 151, 159, 167, 175]), 71) := by decide +kernel
theorem d_c10_count_72 : gD b_c10_count 72 (.aload_n 0) 1 73 := ⟨by decide +kernel, rfl⟩
theorem d_c10_count_73 : gD b_c10_count 73 (.getfield 26) 3 76 := ⟨by decide +kernel, rfl⟩
theorem d_c10_count_76 : gD b_c10_count 76 (.getfield 414) 3 79 := ⟨by decide +kernel, rfl⟩
theorem d_c10_count_79 : gD b_c10_count 79 .ireturn 1 80 := ⟨by decide +kernel, rfl⟩
theorem d_c10_count_80 : gD b_c10_count 80 (.aload_n 0) 1 81 := ⟨by decide +kernel, rfl⟩
theorem d_c10_count_81 : gD b_c10_count 81 (.getfield 26) 3 84 := ⟨by decide +kernel, rfl⟩
theorem d_c10_count_84 : gD b_c10_count 84 (.getfield 417) 3 87 := ⟨by decide +kernel, rfl⟩
theorem d_c10_count_87 : gD b_c10_count 87 .ireturn 1 88 := ⟨by decide +kernel, rfl⟩
theorem d_c10_count_88 : gD b_c10_count 88 (.aload_n 0) 1 89 := ⟨by decide +kernel, rfl⟩
theorem d_c10_count_89 : gD b_c10_count 89 (.getfield 26) 3 92 := ⟨by decide +kernel, rfl⟩
theorem d_c10_count_92 : gD b_c10_count 92 (.getfield 274) 3 95 := ⟨by decide +kernel, rfl⟩
theorem d_c10_count_95 : gD b_c10_count 95 .ireturn 1 96 := ⟨by decide +kernel, rfl⟩
theorem d_c10_count_96 : gD b_c10_count 96 (.aload_n 0) 1 97 := ⟨by decide +kernel, rfl⟩
theorem d_c10_count_97 : gD b_c10_count 97 (.getfield 33) 3 100 := ⟨by decide +kernel, rfl⟩
theorem d_c10_count_100 : gD b_c10_count 100 (.getfield 132) 3 103 := ⟨by decide +kernel, rfl⟩
theorem d_c10_count_103 : gD b_c10_count 103 .ireturn 1 104 := ⟨by decide +kernel, rfl⟩
theorem d_c10_count_104 : gD b_c10_count 104 (.aload_n 0) 1 105 := ⟨by decide +kernel, rfl⟩
theorem d_c10_count_105 : gD b_c10_count 105 (.getfield 33) 3 108 := ⟨by decide +kernel, rfl⟩
theorem d_c10_count_108 : gD b_c10_count 108 (.getfield 420) 3 111 := ⟨by decide +kernel, rfl⟩
theorem d_c10_count_111 : gD b_c10_count 111 .ireturn 1 112 := ⟨by decide +kernel, rfl⟩
theorem d_c10_count_112 : gD b_c10_count 112 (.aload_n 0) 1 113 := ⟨by decide +kernel, rfl⟩
theorem d_c10_count_113 : gD b_c10_count 113 (.getfield 33) 3 116 := ⟨by decide +kernel, rfl⟩
theorem d_c10_count_116 : gD b_c10_count 116 (.getfield 404) 3 119 := ⟨by decide +kernel, rfl⟩
theorem d_c10_count_119 : gD b_c10_count 119 .ireturn 1 120 := ⟨by decide +kernel, rfl⟩
theorem d_c10_count_120 : gD b_c10_count 120 (.aload_n 0) 1 121 := ⟨by decide +kernel, rfl⟩
theorem d_c10_count_121 : gD b_c10_count 121 (.getfield 33) 3 124 := ⟨by decide +kernel, rfl⟩
theorem d_c10_count_124 : gD b_c10_count 124 (.invokevirtual 192) 3 127 := ⟨by decide +kernel, rfl⟩
theorem d_c10_count_127 : gD b_c10_count 127 .ireturn 1 128 := ⟨by decide +kernel, rfl⟩
theorem d_c10_count_128 : gD b_c10_count 128 (.aload_n 0) 1 129 := ⟨by decide +kernel, rfl⟩
theorem d_c10_count_129 : gD b_c10_count 129 (.getfield 26) 3 132 := ⟨by decide +kernel, rfl⟩
theorem d_c10_count_132 : gD b_c10_count 132 (.invokevirtual 268) 3 135 := ⟨by decide +kernel, rfl⟩
theorem d_c10_count_135 : gD b_c10_count 135 .ireturn 1 136 := ⟨by decide +kernel, rfl⟩
theorem d_c10_count_136 : gD b_c10_count 136 (.aload_n 0) 1 137 := ⟨by decide +kernel, rfl⟩
theorem d_c10_count_137 : gD b_c10_count 137 (.getfield 33) 3 140 := ⟨by decide +kernel, rfl⟩
theorem d_c10_count_140 : gD b_c10_count 140 (.invokevirtual 423) 3 143 := ⟨by decide +kernel, rfl⟩
theorem d_c10_count_143 : gD b_c10_count 143 .ireturn 1 144 := ⟨by decide +kernel, rfl⟩
theorem d_c10_count_144 : gD b_c10_count 144 (.aload_n 0) 1 145 := ⟨by decide +kernel, rfl⟩
theorem d_c10_count_145 : gD b_c10_count 145 (.getfield 33) 3 148 := ⟨by decide +kernel, rfl⟩
theorem d_c10_count_148 : gD b_c10_count 148 (.invokevirtual 426) 3 151 := ⟨by decide +kernel, rfl⟩
theorem d_c10_count_151 : gD b_c10_count 151 .ireturn 1 152 := ⟨by decide +kernel, rfl⟩
theorem d_c10_count_152 : gD b_c10_count 152 (.aload_n 0) 1 153 := ⟨by decide +kernel, rfl⟩
theorem d_c10_count_153 : gD b_c10_count 153 (.getfield 60) 3 156 := ⟨by decide +kernel, rfl⟩
theorem d_c10_count_156 : gD b_c10_count 156 (.getfield 342) 3 159 := ⟨by decide +kernel, rfl⟩
theorem d_c10_count_159 : gD b_c10_count 159 .ireturn 1 160 := ⟨by decide +kernel, rfl⟩
theorem d_c10_count_160 : gD b_c10_count 160 (.aload_n 0) 1 161 := ⟨by decide +kernel, rfl⟩
theorem d_c10_count_161 : gD b_c10_count 161 (.getfield 53) 3 164 := ⟨by decide +kernel, rfl⟩
theorem d_c10_count_164 : gD b_c10_count 164 (.getfield 429) 3 167 := ⟨by decide +kernel, rfl⟩
theorem d_c10_count_167 : gD b_c10_count 167 .ireturn 1 168 := ⟨by decide +kernel, rfl⟩
theorem d_c10_count_168 : gD b_c10_count 168 (.aload_n 0) 1 169 := ⟨by decide +kernel, rfl⟩
theorem d_c10_count_169 : gD b_c10_count 169 (.getfield 19) 3 172 := ⟨by decide +kernel, rfl⟩
theorem d_c10_count_172 : gD b_c10_count 172 (.getfield 430) 3 175 := ⟨by decide +kernel, rfl⟩
theorem d_c10_count_175 : gD b_c10_count 175 .ireturn 1 176 := ⟨by decide +kernel, rfl⟩
theorem d_c10_count_176 : gD b_c10_count 176 (.aload_n 0) 1 177 := ⟨by decide +kernel, rfl⟩
theorem d_c10_count_177 : gD b_c10_count 177 (.getfield 10) 3 180 := ⟨by decide +kernel, rfl⟩
theorem d_c10_count_180 : gD b_c10_count 180 (.getfield 100) 3 183 := ⟨by decide +kernel, rfl⟩
theorem d_c10_count_183 : gD b_c10_count 183 .ireturn 1 184 := ⟨by decide +kernel, rfl⟩
theorem d_c10_count_184 : gD b_c10_count 184 (.iconst (-1)) 1 185 := ⟨by decide +kernel, rfl⟩
theorem d_c10_count_185 : gD b_c10_count 185 .ireturn 1 186 := ⟨by decide +kernel, rfl⟩
def f_c10_count (N : Nat) (a0 : Nat) (x1 : Int32) (h : gH) : Option (Int32) :=
  (gcl h a0 10).bind fun _ =>
  if x1 = (0 : Int32) then
    (gfR h a0 10 2).bind fun v15 =>
    (gfI h v15 1 0).bind fun v16 =>
    some v16
  else
    if x1 = (1 : Int32) then
    (gfR h a0 10 2).bind fun v17 =>
    (gfI h v17 1 1).bind fun v18 =>
    some v18
  else
    if x1 = (2 : Int32) then
    (gfR h a0 10 2).bind fun v19 =>
    (gfI h v19 1 2).bind fun v20 =>
    some v20
  else
    if x1 = (3 : Int32) then
    (gfR h a0 10 3).bind fun v21 =>
    (gfI h v21 7 0).bind fun v22 =>
    some v22
  else
    if x1 = (4 : Int32) then
    (gfR h a0 10 3).bind fun v23 =>
    (gfI h v23 7 6).bind fun v24 =>
    some v24
  else
    if x1 = (5 : Int32) then
    (gfR h a0 10 3).bind fun v25 =>
    (gfI h v25 7 7).bind fun v26 =>
    some v26
  else
    if x1 = (6 : Int32) then
    (gfR h a0 10 3).bind fun v27 =>
    (f_c7_waterOfAll N v27 h).bind fun q28 =>
    some q28
  else
    if x1 = (7 : Int32) then
    (gfR h a0 10 2).bind fun v29 =>
    (f_c1_thirstOfAll N v29 h).bind fun q30 =>
    some q30
  else
    if x1 = (8 : Int32) then
    (gfR h a0 10 3).bind fun v31 =>
    (f_c7_andsOfAll N v31 h).bind fun q32 =>
    some q32
  else
    if x1 = (9 : Int32) then
    (gfR h a0 10 3).bind fun v33 =>
    (f_c7_dryOnes N v33 h).bind fun q34 =>
    some q34
  else
    if x1 = (10 : Int32) then
    (gfR h a0 10 8).bind fun v35 =>
    (gfI h v35 2 2).bind fun v36 =>
    some v36
  else
    if x1 = (11 : Int32) then
    (gfR h a0 10 7).bind fun v37 =>
    (gfI h v37 5 3).bind fun v38 =>
    some v38
  else
    if x1 = (12 : Int32) then
    (gfR h a0 10 1).bind fun v39 =>
    (gfI h v39 4 1).bind fun v40 =>
    some v40
  else
    if x1 = (13 : Int32) then
    (gfR h a0 10 0).bind fun v41 =>
    (gfI h v41 8 1).bind fun v42 =>
    some v42
  else
    some (-1 : Int32)
set_option maxHeartbeats 4000000 in
set_option maxRecDepth 100000 in
theorem ct_c10_count (l : Launch) (X : gX) (hx : gEx X = false) (N : Nat) (a0 : Nat) (x1 : Int32) (h : gH) (q : Int32) (hy : f_c10_count N a0 x1 h = some q) : gRc y_c10_count h a0 ∧ gMi l X y_c10_count b_c10_count 2 .int (2 + N) 0 0 [.ref a0, .int x1] h q h := by
  unfold f_c10_count at hy
  obtain ⟨u0, e_u0, hy⟩ := gBd hy
  cases u0
  refine ⟨Or.inl ⟨10, _, _, e_u0, rfl⟩, gMet_i (lsx := [(0, .ref a0), (1, .int x1)]) (by decide) rfl rfl ?_⟩
  intro M hMl K hret
  subst hMl
  refine g_iload_n K d_c10_count_0 1 rfl ?_
  by_cases c1 : x1 = (0 : Int32)
  · rw [if_pos c1] at hy
    refine g_tabIn (v := (0 : Int32)) (off := 71) (tgt := 72) K d_c10_count_1 c1 (by decide) (by decide) (by decide +kernel) (by decide) ?_
    refine g_aload_n K d_c10_count_72 0 rfl ?_
    obtain ⟨v15, e_v15, hy⟩ := gBd hy
    refine g_getR K fl_c10_26 d_c10_count_73 e_v15 ?_
    obtain ⟨v16, e_v16, hy⟩ := gBd hy
    refine g_getI K fl_c10_414 d_c10_count_76 e_v16 ?_
    obtain rfl := Option.some.inj hy
    exact hret rfl _ _ _ d_c10_count_79
  rw [if_neg c1] at hy
  by_cases c2 : x1 = (1 : Int32)
  · rw [if_pos c2] at hy
    refine g_tabIn (v := (1 : Int32)) (off := 79) (tgt := 80) K d_c10_count_1 c2 (by decide) (by decide) (by decide +kernel) (by decide) ?_
    refine g_aload_n K d_c10_count_80 0 rfl ?_
    obtain ⟨v17, e_v17, hy⟩ := gBd hy
    refine g_getR K fl_c10_26 d_c10_count_81 e_v17 ?_
    obtain ⟨v18, e_v18, hy⟩ := gBd hy
    refine g_getI K fl_c10_417 d_c10_count_84 e_v18 ?_
    obtain rfl := Option.some.inj hy
    exact hret rfl _ _ _ d_c10_count_87
  rw [if_neg c2] at hy
  by_cases c3 : x1 = (2 : Int32)
  · rw [if_pos c3] at hy
    refine g_tabIn (v := (2 : Int32)) (off := 87) (tgt := 88) K d_c10_count_1 c3 (by decide) (by decide) (by decide +kernel) (by decide) ?_
    refine g_aload_n K d_c10_count_88 0 rfl ?_
    obtain ⟨v19, e_v19, hy⟩ := gBd hy
    refine g_getR K fl_c10_26 d_c10_count_89 e_v19 ?_
    obtain ⟨v20, e_v20, hy⟩ := gBd hy
    refine g_getI K fl_c10_274 d_c10_count_92 e_v20 ?_
    obtain rfl := Option.some.inj hy
    exact hret rfl _ _ _ d_c10_count_95
  rw [if_neg c3] at hy
  by_cases c4 : x1 = (3 : Int32)
  · rw [if_pos c4] at hy
    refine g_tabIn (v := (3 : Int32)) (off := 95) (tgt := 96) K d_c10_count_1 c4 (by decide) (by decide) (by decide +kernel) (by decide) ?_
    refine g_aload_n K d_c10_count_96 0 rfl ?_
    obtain ⟨v21, e_v21, hy⟩ := gBd hy
    refine g_getR K fl_c10_33 d_c10_count_97 e_v21 ?_
    obtain ⟨v22, e_v22, hy⟩ := gBd hy
    refine g_getI K fl_c10_132 d_c10_count_100 e_v22 ?_
    obtain rfl := Option.some.inj hy
    exact hret rfl _ _ _ d_c10_count_103
  rw [if_neg c4] at hy
  by_cases c5 : x1 = (4 : Int32)
  · rw [if_pos c5] at hy
    refine g_tabIn (v := (4 : Int32)) (off := 103) (tgt := 104) K d_c10_count_1 c5 (by decide) (by decide) (by decide +kernel) (by decide) ?_
    refine g_aload_n K d_c10_count_104 0 rfl ?_
    obtain ⟨v23, e_v23, hy⟩ := gBd hy
    refine g_getR K fl_c10_33 d_c10_count_105 e_v23 ?_
    obtain ⟨v24, e_v24, hy⟩ := gBd hy
    refine g_getI K fl_c10_420 d_c10_count_108 e_v24 ?_
    obtain rfl := Option.some.inj hy
    exact hret rfl _ _ _ d_c10_count_111
  rw [if_neg c5] at hy
  by_cases c6 : x1 = (5 : Int32)
  · rw [if_pos c6] at hy
    refine g_tabIn (v := (5 : Int32)) (off := 111) (tgt := 112) K d_c10_count_1 c6 (by decide) (by decide) (by decide +kernel) (by decide) ?_
    refine g_aload_n K d_c10_count_112 0 rfl ?_
    obtain ⟨v25, e_v25, hy⟩ := gBd hy
    refine g_getR K fl_c10_33 d_c10_count_113 e_v25 ?_
    obtain ⟨v26, e_v26, hy⟩ := gBd hy
    refine g_getI K fl_c10_404 d_c10_count_116 e_v26 ?_
    obtain rfl := Option.some.inj hy
    exact hret rfl _ _ _ d_c10_count_119
  rw [if_neg c6] at hy
  by_cases c7 : x1 = (6 : Int32)
  · rw [if_pos c7] at hy
    refine g_tabIn (v := (6 : Int32)) (off := 119) (tgt := 120) K d_c10_count_1 c7 (by decide) (by decide) (by decide +kernel) (by decide) ?_
    refine g_aload_n K d_c10_count_120 0 rfl ?_
    obtain ⟨v27, e_v27, hy⟩ := gBd hy
    refine g_getR K fl_c10_33 d_c10_count_121 e_v27 ?_
    obtain ⟨q28, e_q28, hy⟩ := gBd hy
    refine g_callVi (rest := []) K hx ly_c7_waterOfAll kv_c10_192 d_c10_count_124 (ct_c7_waterOfAll M.2.1 X hx N v27 h q28 e_q28) rfl rfl (Nat.le_of_ble_eq_true rfl) (gDep rfl) ⟨Nat.le_refl 0, Nat.le_refl 0⟩ ?_
    obtain rfl := Option.some.inj hy
    exact hret rfl _ _ _ d_c10_count_127
  rw [if_neg c7] at hy
  by_cases c8 : x1 = (7 : Int32)
  · rw [if_pos c8] at hy
    refine g_tabIn (v := (7 : Int32)) (off := 127) (tgt := 128) K d_c10_count_1 c8 (by decide) (by decide) (by decide +kernel) (by decide) ?_
    refine g_aload_n K d_c10_count_128 0 rfl ?_
    obtain ⟨v29, e_v29, hy⟩ := gBd hy
    refine g_getR K fl_c10_26 d_c10_count_129 e_v29 ?_
    obtain ⟨q30, e_q30, hy⟩ := gBd hy
    refine g_callVi (rest := []) K hx ly_c1_thirstOfAll kv_c10_268 d_c10_count_132 (ct_c1_thirstOfAll M.2.1 X hx N v29 h q30 e_q30) rfl rfl (Nat.le_of_ble_eq_true rfl) (gDep rfl) ⟨Nat.le_refl 0, Nat.le_refl 0⟩ ?_
    obtain rfl := Option.some.inj hy
    exact hret rfl _ _ _ d_c10_count_135
  rw [if_neg c8] at hy
  by_cases c9 : x1 = (8 : Int32)
  · rw [if_pos c9] at hy
    refine g_tabIn (v := (8 : Int32)) (off := 135) (tgt := 136) K d_c10_count_1 c9 (by decide) (by decide) (by decide +kernel) (by decide) ?_
    refine g_aload_n K d_c10_count_136 0 rfl ?_
    obtain ⟨v31, e_v31, hy⟩ := gBd hy
    refine g_getR K fl_c10_33 d_c10_count_137 e_v31 ?_
    obtain ⟨q32, e_q32, hy⟩ := gBd hy
    refine g_callVi (rest := []) K hx ly_c7_andsOfAll kv_c10_423 d_c10_count_140 (ct_c7_andsOfAll M.2.1 X hx N v31 h q32 e_q32) rfl rfl (Nat.le_of_ble_eq_true rfl) (gDep rfl) ⟨Nat.le_refl 0, Nat.le_refl 0⟩ ?_
    obtain rfl := Option.some.inj hy
    exact hret rfl _ _ _ d_c10_count_143
  rw [if_neg c9] at hy
  by_cases c10 : x1 = (9 : Int32)
  · rw [if_pos c10] at hy
    refine g_tabIn (v := (9 : Int32)) (off := 143) (tgt := 144) K d_c10_count_1 c10 (by decide) (by decide) (by decide +kernel) (by decide) ?_
    refine g_aload_n K d_c10_count_144 0 rfl ?_
    obtain ⟨v33, e_v33, hy⟩ := gBd hy
    refine g_getR K fl_c10_33 d_c10_count_145 e_v33 ?_
    obtain ⟨q34, e_q34, hy⟩ := gBd hy
    refine g_callVi (rest := []) K hx ly_c7_dryOnes kv_c10_426 d_c10_count_148 (ct_c7_dryOnes M.2.1 X hx N v33 h q34 e_q34) rfl rfl (Nat.le_of_ble_eq_true rfl) (gDep rfl) ⟨Nat.le_refl 0, Nat.le_refl 0⟩ ?_
    obtain rfl := Option.some.inj hy
    exact hret rfl _ _ _ d_c10_count_151
  rw [if_neg c10] at hy
  by_cases c11 : x1 = (10 : Int32)
  · rw [if_pos c11] at hy
    refine g_tabIn (v := (10 : Int32)) (off := 151) (tgt := 152) K d_c10_count_1 c11 (by decide) (by decide) (by decide +kernel) (by decide) ?_
    refine g_aload_n K d_c10_count_152 0 rfl ?_
    obtain ⟨v35, e_v35, hy⟩ := gBd hy
    refine g_getR K fl_c10_60 d_c10_count_153 e_v35 ?_
    obtain ⟨v36, e_v36, hy⟩ := gBd hy
    refine g_getI K fl_c10_342 d_c10_count_156 e_v36 ?_
    obtain rfl := Option.some.inj hy
    exact hret rfl _ _ _ d_c10_count_159
  rw [if_neg c11] at hy
  by_cases c12 : x1 = (11 : Int32)
  · rw [if_pos c12] at hy
    refine g_tabIn (v := (11 : Int32)) (off := 159) (tgt := 160) K d_c10_count_1 c12 (by decide) (by decide) (by decide +kernel) (by decide) ?_
    refine g_aload_n K d_c10_count_160 0 rfl ?_
    obtain ⟨v37, e_v37, hy⟩ := gBd hy
    refine g_getR K fl_c10_53 d_c10_count_161 e_v37 ?_
    obtain ⟨v38, e_v38, hy⟩ := gBd hy
    refine g_getI K fl_c10_429 d_c10_count_164 e_v38 ?_
    obtain rfl := Option.some.inj hy
    exact hret rfl _ _ _ d_c10_count_167
  rw [if_neg c12] at hy
  by_cases c13 : x1 = (12 : Int32)
  · rw [if_pos c13] at hy
    refine g_tabIn (v := (12 : Int32)) (off := 167) (tgt := 168) K d_c10_count_1 c13 (by decide) (by decide) (by decide +kernel) (by decide) ?_
    refine g_aload_n K d_c10_count_168 0 rfl ?_
    obtain ⟨v39, e_v39, hy⟩ := gBd hy
    refine g_getR K fl_c10_19 d_c10_count_169 e_v39 ?_
    obtain ⟨v40, e_v40, hy⟩ := gBd hy
    refine g_getI K fl_c10_430 d_c10_count_172 e_v40 ?_
    obtain rfl := Option.some.inj hy
    exact hret rfl _ _ _ d_c10_count_175
  rw [if_neg c13] at hy
  by_cases c14 : x1 = (13 : Int32)
  · rw [if_pos c14] at hy
    refine g_tabIn (v := (13 : Int32)) (off := 175) (tgt := 176) K d_c10_count_1 c14 (by decide) (by decide) (by decide +kernel) (by decide) ?_
    refine g_aload_n K d_c10_count_176 0 rfl ?_
    obtain ⟨v41, e_v41, hy⟩ := gBd hy
    refine g_getR K fl_c10_10 d_c10_count_177 e_v41 ?_
    obtain ⟨v42, e_v42, hy⟩ := gBd hy
    refine g_getI K fl_c10_100 d_c10_count_180 e_v42 ?_
    obtain rfl := Option.some.inj hy
    exact hret rfl _ _ _ d_c10_count_183
  rw [if_neg c14] at hy
  refine g_tabD (tgt := 184) [(0 : Int32), (1 : Int32), (2 : Int32), (3 : Int32), (4 : Int32), (5 : Int32), (6 : Int32), (7 : Int32), (8 : Int32), (9 : Int32), (10 : Int32), (11 : Int32), (12 : Int32), (13 : Int32)] K d_c10_count_1 (List.forall_mem_cons.mpr ⟨c1, (List.forall_mem_cons.mpr ⟨c2, (List.forall_mem_cons.mpr ⟨c3, (List.forall_mem_cons.mpr ⟨c4, (List.forall_mem_cons.mpr ⟨c5, (List.forall_mem_cons.mpr ⟨c6, (List.forall_mem_cons.mpr ⟨c7, (List.forall_mem_cons.mpr ⟨c8, (List.forall_mem_cons.mpr ⟨c9, (List.forall_mem_cons.mpr ⟨c10, (List.forall_mem_cons.mpr ⟨c11, (List.forall_mem_cons.mpr ⟨c12, (List.forall_mem_cons.mpr ⟨c13, (List.forall_mem_cons.mpr ⟨c14, (fun _ h => absurd h List.not_mem_nil)⟩)⟩)⟩)⟩)⟩)⟩)⟩)⟩)⟩)⟩)⟩)⟩)⟩)⟩) (by decide +kernel) (by decide) ?_
  refine g_iconst (v := (-1)) K d_c10_count_184 (by decide) ?_
  obtain rfl := Option.some.inj hy
  exact hret rfl _ _ _ d_c10_count_185
