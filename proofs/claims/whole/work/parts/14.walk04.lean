-- c7 turn
theorem d_c7_turn_0 : gD b_c7_turn 0 (.aload_n 0) 1 1 := ⟨by decide +kernel, rfl⟩
theorem d_c7_turn_1 : gD b_c7_turn 1 (.iload_n 1) 1 2 := ⟨by decide +kernel, rfl⟩
theorem d_c7_turn_2 : gD b_c7_turn 2 (.invokevirtual 45) 3 5 := ⟨by decide +kernel, rfl⟩
theorem d_c7_turn_5 : gJ b_c7_turn 5 (.ifCond .ne 5) 3 5 8 10 := ⟨by decide +kernel, rfl, by decide⟩
theorem d_c7_turn_8 : gD b_c7_turn 8 (.iconst (-1)) 1 9 := ⟨by decide +kernel, rfl⟩
theorem d_c7_turn_9 : gD b_c7_turn 9 .ireturn 1 10 := ⟨by decide +kernel, rfl⟩
theorem d_c7_turn_10 : gD b_c7_turn 10 (.aload_n 0) 1 11 := ⟨by decide +kernel, rfl⟩
theorem d_c7_turn_11 : gD b_c7_turn 11 (.getfield 18) 3 14 := ⟨by decide +kernel, rfl⟩
theorem d_c7_turn_14 : gD b_c7_turn 14 (.iload_n 1) 1 15 := ⟨by decide +kernel, rfl⟩
theorem d_c7_turn_15 : gD b_c7_turn 15 (.iconst 1) 1 16 := ⟨by decide +kernel, rfl⟩
theorem d_c7_turn_16 : gD b_c7_turn 16 (.aload_n 0) 1 17 := ⟨by decide +kernel, rfl⟩
theorem d_c7_turn_17 : gD b_c7_turn 17 (.getfield 18) 3 20 := ⟨by decide +kernel, rfl⟩
theorem d_c7_turn_20 : gD b_c7_turn 20 (.iload_n 1) 1 21 := ⟨by decide +kernel, rfl⟩
theorem d_c7_turn_21 : gD b_c7_turn 21 .iaload 1 22 := ⟨by decide +kernel, rfl⟩
theorem d_c7_turn_22 : gD b_c7_turn 22 .isub 1 23 := ⟨by decide +kernel, rfl⟩
theorem d_c7_turn_23 : gD b_c7_turn 23 .iastore 1 24 := ⟨by decide +kernel, rfl⟩
theorem d_c7_turn_24 : gD b_c7_turn 24 (.aload_n 0) 1 25 := ⟨by decide +kernel, rfl⟩
theorem d_c7_turn_25 : gD b_c7_turn 25 (.iload_n 1) 1 26 := ⟨by decide +kernel, rfl⟩
theorem d_c7_turn_26 : gD b_c7_turn 26 (.invokevirtual 49) 3 29 := ⟨by decide +kernel, rfl⟩
theorem d_c7_turn_29 : gD b_c7_turn 29 .ireturn 1 30 := ⟨by decide +kernel, rfl⟩
def f_c7_turn (N : Nat) (a0 : Nat) (x1 : Int32) (h : gH) : Option (Int32 × gH) :=
  (gcl h a0 7).bind fun _ =>
  (f_c7_has N a0 x1 h).bind fun q1 =>
    if q1 = 0 then
    some ((-1 : Int32), h)
  else
    (gfR h a0 7 3).bind fun v3 =>
    (gfR h a0 7 3).bind fun v4 =>
    (ga 0 h v4 x1).bind fun v5 =>
    (sa 0 h v3 x1 ((1 : Int32) - v5)).bind fun h6 =>
    (f_c7_depth N a0 x1 h6).bind fun q7 =>
    some (q7, h6)
set_option maxHeartbeats 4000000 in
set_option maxRecDepth 100000 in
theorem ct_c7_turn (l : Launch) (X : gX) (hx : gEx X = false) (N : Nat) (a0 : Nat) (x1 : Int32) (h : gH) (q : Int32 × gH) (hy : f_c7_turn N a0 x1 h = some q) : gRc y_c7_turn h a0 ∧ gMi l X y_c7_turn b_c7_turn 2 .int (2 + N) 0 0 [.ref a0, .int x1] h q.1 q.2 := by
  unfold f_c7_turn at hy
  obtain ⟨u0, e_u0, hy⟩ := gBd hy
  cases u0
  refine ⟨Or.inl ⟨7, _, _, e_u0, rfl⟩, gMet_i (lsx := [(0, .ref a0), (1, .int x1)]) (by decide) rfl rfl ?_⟩
  intro M hMl K hret
  subst hMl
  refine g_aload_n K d_c7_turn_0 0 rfl ?_
  refine g_iload_n K d_c7_turn_1 1 rfl ?_
  obtain ⟨q1, e_q1, hy⟩ := gBd hy
  refine g_callVi (rest := []) K hx ly_c7_has kv_c7_45 d_c7_turn_2 (ct_c7_has M.2.1 X hx N a0 x1 h q1 e_q1) rfl rfl (Nat.le_of_ble_eq_true rfl) (gDep rfl) ⟨Nat.le_refl 0, Nat.le_refl 0⟩ ?_
  refine g_if_ne K d_c7_turn_5 (fun c2 => ?_) (fun c2 => ?_)
  · rw [if_neg c2] at hy
    refine g_aload_n K d_c7_turn_10 0 rfl ?_
    obtain ⟨v3, e_v3, hy⟩ := gBd hy
    refine g_getR K fl_c7_18 d_c7_turn_11 e_v3 ?_
    refine g_iload_n K d_c7_turn_14 1 rfl ?_
    refine g_iconst (v := 1) K d_c7_turn_15 (by decide) ?_
    refine g_aload_n K d_c7_turn_16 0 rfl ?_
    obtain ⟨v4, e_v4, hy⟩ := gBd hy
    refine g_getR K fl_c7_18 d_c7_turn_17 e_v4 ?_
    refine g_iload_n K d_c7_turn_20 1 rfl ?_
    obtain ⟨v5, e_v5, hy⟩ := gBd hy
    refine g_iald K d_c7_turn_21 e_v5 ?_
    refine g_isub K d_c7_turn_22 ?_
    obtain ⟨h6, e_h6, hy⟩ := gBd hy
    refine g_iast K d_c7_turn_23 e_h6 ?_
    refine g_aload_n K d_c7_turn_24 0 rfl ?_
    refine g_iload_n K d_c7_turn_25 1 rfl ?_
    obtain ⟨q7, e_q7, hy⟩ := gBd hy
    refine g_callVi (rest := []) K hx ly_c7_depth kv_c7_49 d_c7_turn_26 (ct_c7_depth M.2.1 X hx N a0 x1 h6 q7 e_q7) rfl rfl (Nat.le_of_ble_eq_true rfl) (gDep rfl) ⟨Nat.le_refl 0, Nat.le_refl 0⟩ ?_
    obtain rfl := Option.some.inj hy
    exact hret rfl _ _ _ d_c7_turn_29
  · rw [if_pos c2] at hy
    refine g_iconst (v := (-1)) K d_c7_turn_8 (by decide) ?_
    obtain rfl := Option.some.inj hy
    exact hret rfl _ _ _ d_c7_turn_9
-- c8 digit
theorem d_c8_digit_0 : gD b_c8_digit 0 (.aload_n 0) 1 1 := ⟨by decide +kernel, rfl⟩
theorem d_c8_digit_1 : gD b_c8_digit 1 (.iload_n 1) 1 2 := ⟨by decide +kernel, rfl⟩
theorem d_c8_digit_2 : gD b_c8_digit 2 (.iload_n 2) 1 3 := ⟨by decide +kernel, rfl⟩
theorem d_c8_digit_3 : gD b_c8_digit 3 (.invokevirtual 19) 3 6 := ⟨by decide +kernel, rfl⟩
theorem d_c8_digit_6 : gD b_c8_digit 6 (.istore_n 3) 1 7 := ⟨by decide +kernel, rfl⟩
theorem d_c8_digit_7 : gD b_c8_digit 7 (.iload_n 3) 1 8 := ⟨by decide +kernel, rfl⟩
theorem d_c8_digit_8 : gD b_c8_digit 8 (.bipush 48) 2 10 := ⟨by decide +kernel, rfl⟩
theorem d_c8_digit_10 : gJ b_c8_digit 10 (.if_icmp .lt 16) 3 16 13 26 := ⟨by decide +kernel, rfl, by decide⟩
theorem d_c8_digit_13 : gD b_c8_digit 13 (.iload_n 3) 1 14 := ⟨by decide +kernel, rfl⟩
theorem d_c8_digit_14 : gD b_c8_digit 14 (.bipush 57) 2 16 := ⟨by decide +kernel, rfl⟩
theorem d_c8_digit_16 : gJ b_c8_digit 16 (.if_icmp .gt 10) 3 10 19 26 := ⟨by decide +kernel, rfl, by decide⟩
theorem d_c8_digit_19 : gD b_c8_digit 19 (.iload_n 3) 1 20 := ⟨by decide +kernel, rfl⟩
theorem d_c8_digit_20 : gD b_c8_digit 20 (.bipush 48) 2 22 := ⟨by decide +kernel, rfl⟩
theorem d_c8_digit_22 : gD b_c8_digit 22 .isub 1 23 := ⟨by decide +kernel, rfl⟩
theorem d_c8_digit_23 : gJ b_c8_digit 23 (.goto 4) 3 4 26 27 := ⟨by decide +kernel, rfl, by decide⟩
theorem d_c8_digit_26 : gD b_c8_digit 26 (.iconst (-1)) 1 27 := ⟨by decide +kernel, rfl⟩
theorem d_c8_digit_27 : gD b_c8_digit 27 .ireturn 1 28 := ⟨by decide +kernel, rfl⟩
def f_c8_digit (N : Nat) (a0 : Nat) (x1 : Int32) (x2 : Int32) (h : gH) : Option (Int32) :=
  (gcl h a0 8).bind fun _ =>
  (f_c8_at N a0 x1 x2 h).bind fun q1 =>
    some (if q1 < (48 : Int32) then (-1 : Int32) else (if (57 : Int32) < q1 then (-1 : Int32) else q1 - (48 : Int32)))
set_option maxHeartbeats 4000000 in
set_option maxRecDepth 100000 in
theorem ct_c8_digit (l : Launch) (X : gX) (hx : gEx X = false) (N : Nat) (a0 : Nat) (x1 : Int32) (x2 : Int32) (h : gH) (q : Int32) (hy : f_c8_digit N a0 x1 x2 h = some q) : gRc y_c8_digit h a0 ∧ gMi l X y_c8_digit b_c8_digit 4 .int (2 + N) 0 0 [.ref a0, .int x1, .int x2] h q h := by
  unfold f_c8_digit at hy
  obtain ⟨u0, e_u0, hy⟩ := gBd hy
  cases u0
  refine ⟨Or.inl ⟨8, _, _, e_u0, rfl⟩, gMet_i (lsx := [(0, .ref a0), (1, .int x1), (2, .int x2)]) (by decide) rfl rfl ?_⟩
  intro M hMl K hret
  subst hMl
  refine g_aload_n K d_c8_digit_0 0 rfl ?_
  refine g_iload_n K d_c8_digit_1 1 rfl ?_
  refine g_iload_n K d_c8_digit_2 2 rfl ?_
  obtain ⟨q1, e_q1, hy⟩ := gBd hy
  refine g_callVi (rest := []) K hx ly_c8_at kv_c8_19 d_c8_digit_3 (ct_c8_at M.2.1 X hx N a0 x1 x2 h q1 e_q1) rfl rfl (Nat.le_of_ble_eq_true rfl) (gDep rfl) ⟨Nat.le_refl 0, Nat.le_refl 0⟩ ?_
  refine g_istore_n (ls2 := [(3, .int q1), (0, .ref a0), (1, .int x1), (2, .int x2)]) K d_c8_digit_6 rfl rfl ?_
  refine g_iload_n K d_c8_digit_7 0 rfl ?_
  refine g_bipush (v := 48) K d_c8_digit_8 (by decide) ?_
  have hJ4 : ∀ w3 : Int32, w3 = (if q1 < (48 : Int32) then (-1 : Int32) else (if (57 : Int32) < q1 then (-1 : Int32) else q1 - (48 : Int32))) → gG M X 4 0 0 27 [(3, .int q1), (0, .ref a0), (1, .int x1), (2, .int x2)] [.int w3] h := by
    intro w3 e_w3
    subst e_w3
    obtain rfl := Option.some.inj hy
    exact hret rfl _ _ _ d_c8_digit_27
  refine g_icmp_lt K d_c8_digit_10 (fun c2 => ?_) (fun c2 => ?_)
  · refine g_iconst (v := (-1)) K d_c8_digit_26 (by decide) ?_
    exact hJ4 _ (by rw [if_pos c2])
  · refine g_iload_n K d_c8_digit_13 0 rfl ?_
    refine g_bipush (v := 57) K d_c8_digit_14 (by decide) ?_
    refine g_icmp_gt K d_c8_digit_16 (fun c5 => ?_) (fun c5 => ?_)
    · refine g_iconst (v := (-1)) K d_c8_digit_26 (by decide) ?_
      exact hJ4 _ (by rw [if_neg c2, if_pos c5])
    · refine g_iload_n K d_c8_digit_19 0 rfl ?_
      refine g_bipush (v := 48) K d_c8_digit_20 (by decide) ?_
      refine g_isub K d_c8_digit_22 ?_
      refine g_goto K d_c8_digit_23 ?_
      exact hJ4 _ (by rw [if_neg c2, if_neg c5])
-- jString length
theorem d_jString_length_0 : gD b_jString_length 0 (.aload_n 0) 1 1 := ⟨by decide +kernel, rfl⟩
theorem d_jString_length_1 : gD b_jString_length 1 (.getfield 9) 3 4 := ⟨by decide +kernel, rfl⟩
theorem d_jString_length_4 : gD b_jString_length 4 .arraylength 1 5 := ⟨by decide +kernel, rfl⟩
theorem d_jString_length_5 : gD b_jString_length 5 (.aload_n 0) 1 6 := ⟨by decide +kernel, rfl⟩
theorem d_jString_length_6 : gD b_jString_length 6 (.invokevirtual 335) 3 9 := ⟨by decide +kernel, rfl⟩
theorem d_jString_length_9 : gD b_jString_length 9 .ishr 1 10 := ⟨by decide +kernel, rfl⟩
theorem d_jString_length_10 : gD b_jString_length 10 .ireturn 1 11 := ⟨by decide +kernel, rfl⟩
def f_jString_length (N : Nat) (a0 : Nat) (h : gH) : Option (Int32) :=
  (gclS a0).bind fun _ =>
  (gsV a0).bind fun v1 =>
    (gn h v1).bind fun v2 =>
    (f_jString_coder N a0 h).bind fun q3 =>
    some (v2 >>> (q3 &&& 31))
set_option maxHeartbeats 4000000 in
set_option maxRecDepth 100000 in
theorem ct_jString_length (l : Launch) (X : gX) (hx : gEx X = false) (N : Nat) (a0 : Nat) (h : gH) (q : Int32) (hy : f_jString_length N a0 h = some q) : gRc y_jString_length h a0 ∧ gMi l X y_jString_length b_jString_length 1 .int (2 + N) 0 0 [.ref a0] h q h := by
  unfold f_jString_length at hy
  obtain ⟨u0, e_u0, hy⟩ := gBd hy
  cases u0
  refine ⟨Or.inr ⟨rfl, (gclS_spec e_u0).1, (gclS_spec e_u0).2⟩, gMet_i (lsx := [(0, .ref a0)]) (by decide) rfl rfl ?_⟩
  intro M hMl K hret
  subst hMl
  refine g_aload_n K d_jString_length_0 0 rfl ?_
  obtain ⟨v1, e_v1, hy⟩ := gBd hy
  refine g_strV K (gTk_7 228 rfl rfl) d_jString_length_1 e_v1 ?_
  obtain ⟨v2, e_v2, hy⟩ := gBd hy
  refine g_alen K d_jString_length_4 e_v2 ?_
  refine g_aload_n K d_jString_length_5 0 rfl ?_
  obtain ⟨q3, e_q3, hy⟩ := gBd hy
  refine g_callVi (rest := [.int v2]) K hx ly_jString_coder kv_String_335 d_jString_length_6 (ct_jString_coder M.2.1 X hx N a0 h q3 e_q3) rfl rfl (Nat.le_of_ble_eq_true rfl) (gDep rfl) ⟨Nat.le_refl 0, Nat.le_refl 0⟩ ?_
  refine g_ishr K d_jString_length_9 ?_
  obtain rfl := Option.some.inj hy
  exact hret rfl _ _ _ d_jString_length_10
-- c10 faultInOffers
theorem d_c10_faultInOffers_0 : gD b_c10_faultInOffers 0 (.iconst 0) 1 1 := ⟨by decide +kernel, rfl⟩
theorem d_c10_faultInOffers_1 : gD b_c10_faultInOffers 1 (.istore_n 1) 1 2 := ⟨by decide +kernel, rfl⟩
theorem d_c10_faultInOffers_2 : gD b_c10_faultInOffers 2 (.iload_n 1) 1 3 := ⟨by decide +kernel, rfl⟩
theorem d_c10_faultInOffers_3 : gD b_c10_faultInOffers 3 (.aload_n 0) 1 4 := ⟨by decide +kernel, rfl⟩
theorem d_c10_faultInOffers_4 : gD b_c10_faultInOffers 4 (.getfield 10) 3 7 := ⟨by decide +kernel, rfl⟩
theorem d_c10_faultInOffers_7 : gD b_c10_faultInOffers 7 (.getfield 100) 3 10 := ⟨by decide +kernel, rfl⟩
theorem d_c10_faultInOffers_10 : gJ b_c10_faultInOffers 10 (.if_icmp .ge 24) 3 24 13 34 := ⟨by decide +kernel, rfl, by decide⟩
theorem d_c10_faultInOffers_13 : gD b_c10_faultInOffers 13 (.aload_n 0) 1 14 := ⟨by decide +kernel, rfl⟩
theorem d_c10_faultInOffers_14 : gD b_c10_faultInOffers 14 (.getfield 10) 3 17 := ⟨by decide +kernel, rfl⟩
theorem d_c10_faultInOffers_17 : gD b_c10_faultInOffers 17 (.iload_n 1) 1 18 := ⟨by decide +kernel, rfl⟩
theorem d_c10_faultInOffers_18 : gD b_c10_faultInOffers 18 (.bipush 16) 2 20 := ⟨by decide +kernel, rfl⟩
theorem d_c10_faultInOffers_20 : gD b_c10_faultInOffers 20 (.invokevirtual 384) 3 23 := ⟨by decide +kernel, rfl⟩
theorem d_c10_faultInOffers_23 : gJ b_c10_faultInOffers 23 (.ifCond .ge 5) 3 5 26 28 := ⟨by decide +kernel, rfl, by decide⟩
theorem d_c10_faultInOffers_26 : gD b_c10_faultInOffers 26 (.iload_n 1) 1 27 := ⟨by decide +kernel, rfl⟩
theorem d_c10_faultInOffers_27 : gD b_c10_faultInOffers 27 .ireturn 1 28 := ⟨by decide +kernel, rfl⟩
theorem d_c10_faultInOffers_28 : gD b_c10_faultInOffers 28 (.iinc 1 1) 3 31 := ⟨by decide +kernel, rfl⟩
theorem d_c10_faultInOffers_31 : gJ b_c10_faultInOffers 31 (.goto (-29)) 3 (-29) 34 2 := ⟨by decide +kernel, rfl, by decide⟩
theorem d_c10_faultInOffers_34 : gD b_c10_faultInOffers 34 (.aload_n 0) 1 35 := ⟨by decide +kernel, rfl⟩
theorem d_c10_faultInOffers_35 : gD b_c10_faultInOffers 35 (.getfield 10) 3 38 := ⟨by decide +kernel, rfl⟩
theorem d_c10_faultInOffers_38 : gD b_c10_faultInOffers 38 (.getfield 100) 3 41 := ⟨by decide +kernel, rfl⟩
theorem d_c10_faultInOffers_41 : gJ b_c10_faultInOffers 41 (.ifCond .ne 7) 3 7 44 48 := ⟨by decide +kernel, rfl, by decide⟩
theorem d_c10_faultInOffers_44 : gD b_c10_faultInOffers 44 (.iconst 0) 1 45 := ⟨by decide +kernel, rfl⟩
theorem d_c10_faultInOffers_45 : gJ b_c10_faultInOffers 45 (.goto 4) 3 4 48 49 := ⟨by decide +kernel, rfl, by decide⟩
theorem d_c10_faultInOffers_48 : gD b_c10_faultInOffers 48 (.iconst (-1)) 1 49 := ⟨by decide +kernel, rfl⟩
theorem d_c10_faultInOffers_49 : gD b_c10_faultInOffers 49 .ireturn 1 50 := ⟨by decide +kernel, rfl⟩
def lp_c10_faultInOffers_2 (N : Nat) (a0 : Nat) (h : gH) : Nat → Int32 → Option ((Int32) ⊕ (Unit))
  | 0, _ => none
  | k + 1, x1 =>
  (gfR h a0 10 0).bind fun v1 =>
    (gfI h v1 8 1).bind fun v2 =>
    if v2 ≤ x1 then
    some (.inr ())
  else
    (gfR h a0 10 0).bind fun v4 =>
    (f_c8_digit N v4 x1 (16 : Int32) h).bind fun q5 =>
    if 0 ≤ q5 then
    lp_c10_faultInOffers_2 N a0 h k (x1 + (1 : Int32))
  else
    some (.inl x1)
def f_c10_faultInOffers (N : Nat) (a0 : Nat) (h : gH) : Option (Int32) :=
  (gcl h a0 10).bind fun _ =>
  (lp_c10_faultInOffers_2 N a0 h N (0 : Int32)).bind fun o7 => Sum.elim (fun r9 => some r9) (fun t8 =>
    (gfR h a0 10 0).bind fun v11 =>
    (gfI h v11 8 1).bind fun v12 =>
    some (if v12 = 0 then (0 : Int32) else (-1 : Int32))) o7
set_option maxHeartbeats 4000000 in
set_option maxRecDepth 100000 in
theorem wlp_c10_faultInOffers_2 {M : gM} {X : gX} {N : Nat} (hx : gEx X = false) (K : gC M X gN10 b_c10_faultInOffers 2 (gRm (3 + N) 0 0)) (a0 : Nat) (h : gH) : ∀ (k : Nat) (x1 : Int32) (o : (Int32) ⊕ (Unit)), lp_c10_faultInOffers_2 N a0 h k x1 = some o → (∀ t, o = .inr t → gG M X 2 0 0 34 [(0, .ref a0)] [] h) → (∀ r, o = .inl r → (narrow .int (.int r) = .int r → ∀ pc pc' ls, gD b_c10_faultInOffers pc .ireturn 1 pc' → gG M X 2 0 0 pc ls [.int r] h)) → gG M X 2 0 0 2 [(0, .ref a0), (1, .int x1)] [] h := by
  intro k
  induction k with
  | zero =>
    intro x1 o hy
    rw [lp_c10_faultInOffers_2.eq_1] at hy
    cases hy
  | succ k ih =>
    intro x1 o hy hE hR
    rw [lp_c10_faultInOffers_2.eq_2] at hy
    refine g_iload_n K d_c10_faultInOffers_2 1 rfl ?_
    refine g_aload_n K d_c10_faultInOffers_3 0 rfl ?_
    obtain ⟨v1, e_v1, hy⟩ := gBd hy
    refine g_getR K fl_c10_10 d_c10_faultInOffers_4 e_v1 ?_
    obtain ⟨v2, e_v2, hy⟩ := gBd hy
    refine g_getI K fl_c10_100 d_c10_faultInOffers_7 e_v2 ?_
    refine g_icmp_ge K d_c10_faultInOffers_10 (fun c3 => ?_) (fun c3 => ?_)
    · rw [if_pos c3] at hy
      refine g_sub (ls2 := [(0, .ref a0)]) [0] rfl ?_
      obtain rfl := Option.some.inj hy
      exact hE _ rfl
    · rw [if_neg c3] at hy
      refine g_aload_n K d_c10_faultInOffers_13 0 rfl ?_
      obtain ⟨v4, e_v4, hy⟩ := gBd hy
      refine g_getR K fl_c10_10 d_c10_faultInOffers_14 e_v4 ?_
      refine g_iload_n K d_c10_faultInOffers_17 1 rfl ?_
      refine g_bipush (v := 16) K d_c10_faultInOffers_18 (by decide) ?_
      obtain ⟨q5, e_q5, hy⟩ := gBd hy
      refine g_callVi (rest := []) K hx ly_c8_digit kv_c10_384 d_c10_faultInOffers_20 (ct_c8_digit M.2.1 X hx N v4 x1 (16 : Int32) h q5 e_q5) rfl rfl (Nat.le_of_ble_eq_true rfl) (gDep rfl) ⟨Nat.le_refl 0, Nat.le_refl 0⟩ ?_
      refine g_if_ge K d_c10_faultInOffers_23 (fun c6 => ?_) (fun c6 => ?_)
      · rw [if_pos c6] at hy
        refine g_iinc (ls2 := [(1, .int (x1 + (1 : Int32))), (0, .ref a0)]) (v := 1) K d_c10_faultInOffers_28 1 rfl (by decide) rfl rfl ?_
        refine g_goto K d_c10_faultInOffers_31 ?_
        refine g_sub (ls2 := [(0, .ref a0), (1, .int (x1 + (1 : Int32)))]) [1, 0] rfl ?_
        exact ih _ _ hy hE hR
      · rw [if_neg c6] at hy
        refine g_iload_n K d_c10_faultInOffers_26 1 rfl ?_
        obtain rfl := Option.some.inj hy
        exact hR _ rfl rfl _ _ _ d_c10_faultInOffers_27
set_option maxHeartbeats 4000000 in
set_option maxRecDepth 100000 in
theorem ct_c10_faultInOffers (l : Launch) (X : gX) (hx : gEx X = false) (N : Nat) (a0 : Nat) (h : gH) (q : Int32) (hy : f_c10_faultInOffers N a0 h = some q) : gRc y_c10_faultInOffers h a0 ∧ gMi l X y_c10_faultInOffers b_c10_faultInOffers 2 .int (3 + N) 0 0 [.ref a0] h q h := by
  unfold f_c10_faultInOffers at hy
  obtain ⟨u0, e_u0, hy⟩ := gBd hy
  cases u0
  refine ⟨Or.inl ⟨10, _, _, e_u0, rfl⟩, gMet_i (lsx := [(0, .ref a0)]) (by decide) rfl rfl ?_⟩
  intro M hMl K hret
  subst hMl
  refine g_iconst (v := 0) K d_c10_faultInOffers_0 (by decide) ?_
  refine g_istore_n (ls2 := [(1, .int (0 : Int32)), (0, .ref a0)]) K d_c10_faultInOffers_1 rfl rfl ?_
  obtain ⟨o7, e_o7, hy⟩ := gBd hy
  refine g_sub (ls2 := [(0, .ref a0), (1, .int (0 : Int32))]) [1, 0] rfl ?_
  refine wlp_c10_faultInOffers_2 hx K a0 h N (0 : Int32) o7 e_o7 (fun t8 e_t8 => ?_) (fun r9 e_r9 => ?_)
  · subst e_t8
    simp only [Sum.elim_inr] at hy
    refine g_aload_n K d_c10_faultInOffers_34 0 rfl ?_
    obtain ⟨v11, e_v11, hy⟩ := gBd hy
    refine g_getR K fl_c10_10 d_c10_faultInOffers_35 e_v11 ?_
    obtain ⟨v12, e_v12, hy⟩ := gBd hy
    refine g_getI K fl_c10_100 d_c10_faultInOffers_38 e_v12 ?_
    have hJ15 : ∀ w14 : Int32, w14 = (if v12 = 0 then (0 : Int32) else (-1 : Int32)) → gG M X 2 0 0 49 [(0, .ref a0)] [.int w14] h := by
      intro w14 e_w14
      subst e_w14
      obtain rfl := Option.some.inj hy
      exact hret rfl _ _ _ d_c10_faultInOffers_49
    refine g_if_ne K d_c10_faultInOffers_41 (fun c13 => ?_) (fun c13 => ?_)
    · refine g_iconst (v := (-1)) K d_c10_faultInOffers_48 (by decide) ?_
      exact hJ15 _ (by rw [if_neg c13])
    · refine g_iconst (v := 0) K d_c10_faultInOffers_44 (by decide) ?_
      refine g_goto K d_c10_faultInOffers_45 ?_
      exact hJ15 _ (by rw [if_pos c13])
  · subst e_r9
    simp only [Sum.elim_inl] at hy
    intro hn pc9 pc9' ls9 hd9
    obtain rfl := Option.some.inj hy
    exact hret hn _ _ _ hd9
-- c10 heard
theorem d_c10_heard_0 : gD b_c10_heard 0 (.aload_n 0) 1 1 := ⟨by decide +kernel, rfl⟩
theorem d_c10_heard_1 : gD b_c10_heard 1 (.getfield 60) 3 4 := ⟨by decide +kernel, rfl⟩
theorem d_c10_heard_4 : gD b_c10_heard 4 (.iload_n 1) 1 5 := ⟨by decide +kernel, rfl⟩
theorem d_c10_heard_5 : gD b_c10_heard 5 (.iload_n 2) 1 6 := ⟨by decide +kernel, rfl⟩
theorem d_c10_heard_6 : gD b_c10_heard 6 (.invokevirtual 340) 3 9 := ⟨by decide +kernel, rfl⟩
theorem d_c10_heard_9 : gJ b_c10_heard 9 (.ifCond .eq 13) 3 13 12 22 := ⟨by decide +kernel, rfl, by decide⟩
theorem d_c10_heard_12 : gD b_c10_heard 12 (.aload_n 0) 1 13 := ⟨by decide +kernel, rfl⟩
theorem d_c10_heard_13 : gD b_c10_heard 13 (.getfield 60) 3 16 := ⟨by decide +kernel, rfl⟩
theorem d_c10_heard_16 : gD b_c10_heard 16 (.getfield 342) 3 19 := ⟨by decide +kernel, rfl⟩
theorem d_c10_heard_19 : gJ b_c10_heard 19 (.goto 4) 3 4 22 23 := ⟨by decide +kernel, rfl, by decide⟩
theorem d_c10_heard_22 : gD b_c10_heard 22 (.iconst (-1)) 1 23 := ⟨by decide +kernel, rfl⟩
theorem d_c10_heard_23 : gD b_c10_heard 23 .ireturn 1 24 := ⟨by decide +kernel, rfl⟩
def f_c10_heard (N : Nat) (a0 : Nat) (x1 : Int32) (x2 : Int32) (h : gH) : Option (Int32 × gH) :=
  (gcl h a0 10).bind fun _ =>
  (gfR h a0 10 8).bind fun v1 =>
    (f_c2_add N v1 x1 x2 h).bind fun q2 =>
    (show Option (Int32) from if q2.1 = 0 then
    some (-1 : Int32)
  else
    (gfR q2.2 a0 10 8).bind fun v6 =>
    (gfI q2.2 v6 2 2).bind fun v7 =>
    some v7).bind fun t4 =>
    some (t4, q2.2)
set_option maxHeartbeats 4000000 in
set_option maxRecDepth 100000 in
theorem ct_c10_heard (l : Launch) (X : gX) (hx : gEx X = false) (N : Nat) (a0 : Nat) (x1 : Int32) (x2 : Int32) (h : gH) (q : Int32 × gH) (hy : f_c10_heard N a0 x1 x2 h = some q) : gRc y_c10_heard h a0 ∧ gMi l X y_c10_heard b_c10_heard 3 .int (3 + N) 0 0 [.ref a0, .int x1, .int x2] h q.1 q.2 := by
  unfold f_c10_heard at hy
  obtain ⟨u0, e_u0, hy⟩ := gBd hy
  cases u0
  refine ⟨Or.inl ⟨10, _, _, e_u0, rfl⟩, gMet_i (lsx := [(0, .ref a0), (1, .int x1), (2, .int x2)]) (by decide) rfl rfl ?_⟩
  intro M hMl K hret
  subst hMl
  refine g_aload_n K d_c10_heard_0 0 rfl ?_
  obtain ⟨v1, e_v1, hy⟩ := gBd hy
  refine g_getR K fl_c10_60 d_c10_heard_1 e_v1 ?_
  refine g_iload_n K d_c10_heard_4 1 rfl ?_
  refine g_iload_n K d_c10_heard_5 2 rfl ?_
  obtain ⟨q2, e_q2, hy⟩ := gBd hy
  refine g_callVi (rest := []) K hx ly_c2_add kv_c10_340 d_c10_heard_6 (ct_c2_add M.2.1 X hx N v1 x1 x2 h q2 e_q2) rfl rfl (Nat.le_of_ble_eq_true rfl) (gDep rfl) ⟨Nat.le_refl 0, Nat.le_refl 0⟩ ?_
  obtain ⟨t4, e_t4, hy⟩ := gBd hy
  have hJ5 : gG M X 3 0 0 23 [] [.int t4] q2.2 := by
    obtain rfl := Option.some.inj hy
    exact hret rfl _ _ _ d_c10_heard_23
  refine g_if_eq K d_c10_heard_9 (fun c3 => ?_) (fun c3 => ?_)
  · rw [if_pos c3] at e_t4
    refine g_iconst (v := (-1)) K d_c10_heard_22 (by decide) ?_
    refine g_sub (ls2 := []) [] rfl ?_
    obtain rfl := Option.some.inj e_t4
    exact hJ5
  · rw [if_neg c3] at e_t4
    refine g_aload_n K d_c10_heard_12 0 rfl ?_
    obtain ⟨v6, e_v6, e_t4⟩ := gBd e_t4
    refine g_getR K fl_c10_60 d_c10_heard_13 e_v6 ?_
    obtain ⟨v7, e_v7, e_t4⟩ := gBd e_t4
    refine g_getI K fl_c10_342 d_c10_heard_16 e_v7 ?_
    refine g_goto K d_c10_heard_19 ?_
    refine g_sub (ls2 := []) [] rfl ?_
    obtain rfl := Option.some.inj e_t4
    exact hJ5
-- c10 readLines
theorem d_c10_readLines_0 : gD b_c10_readLines 0 (.iconst 0) 1 1 := ⟨by decide +kernel, rfl⟩
theorem d_c10_readLines_1 : gD b_c10_readLines 1 (.istore_n 2) 1 2 := ⟨by decide +kernel, rfl⟩
theorem d_c10_readLines_2 : gD b_c10_readLines 2 (.iconst 0) 1 3 := ⟨by decide +kernel, rfl⟩
theorem d_c10_readLines_3 : gD b_c10_readLines 3 (.istore_n 3) 1 4 := ⟨by decide +kernel, rfl⟩
theorem d_c10_readLines_4 : gD b_c10_readLines 4 (.iload_n 3) 1 5 := ⟨by decide +kernel, rfl⟩
theorem d_c10_readLines_5 : gD b_c10_readLines 5 (.bipush 8) 2 7 := ⟨by decide +kernel, rfl⟩
theorem d_c10_readLines_7 : gJ b_c10_readLines 7 (.if_icmp .ge 207) 3 207 10 214 := ⟨by decide +kernel, rfl, by decide⟩
theorem d_c10_readLines_10 : gD b_c10_readLines 10 (.aload_n 1) 1 11 := ⟨by decide +kernel, rfl⟩
theorem d_c10_readLines_11 : gD b_c10_readLines 11 (.getfield 132) 3 14 := ⟨by decide +kernel, rfl⟩
theorem d_c10_readLines_14 : gD b_c10_readLines 14 (.bipush 8) 2 16 := ⟨by decide +kernel, rfl⟩
theorem d_c10_readLines_16 : gJ b_c10_readLines 16 (.if_icmp .ge 198) 3 198 19 214 := ⟨by decide +kernel, rfl, by decide⟩
theorem d_c10_readLines_19 : gD b_c10_readLines 19 (.aload_n 0) 1 20 := ⟨by decide +kernel, rfl⟩
theorem d_c10_readLines_20 : gD b_c10_readLines 20 (.getfield 10) 3 23 := ⟨by decide +kernel, rfl⟩
theorem d_c10_readLines_23 : gD b_c10_readLines 23 (.iload_n 2) 1 24 := ⟨by decide +kernel, rfl⟩
theorem d_c10_readLines_24 : gD b_c10_readLines 24 (.bipush 39) 2 26 := ⟨by decide +kernel, rfl⟩
theorem d_c10_readLines_26 : gD b_c10_readLines 26 (.invokevirtual 384) 3 29 := ⟨by decide +kernel, rfl⟩
theorem d_c10_readLines_29 : gD b_c10_readLines 29 (.istore 4) 2 31 := ⟨by decide +kernel, rfl⟩
theorem d_c10_readLines_31 : gD b_c10_readLines 31 (.iload 4) 2 33 := ⟨by decide +kernel, rfl⟩
theorem d_c10_readLines_33 : gJ b_c10_readLines 33 (.ifCond .lt 15) 3 15 36 48 := ⟨by decide +kernel, rfl, by decide⟩
theorem d_c10_readLines_36 : gD b_c10_readLines 36 (.iload 4) 2 38 := ⟨by decide +kernel, rfl⟩
theorem d_c10_readLines_38 : gD b_c10_readLines 38 (.aload_n 0) 1 39 := ⟨by decide +kernel, rfl⟩
theorem d_c10_readLines_39 : gD b_c10_readLines 39 (.getfield 26) 3 42 := ⟨by decide +kernel, rfl⟩
theorem d_c10_readLines_42 : gD b_c10_readLines 42 (.getfield 414) 3 45 := ⟨by decide +kernel, rfl⟩
theorem d_c10_readLines_45 : gJ b_c10_readLines 45 (.if_icmp .lt 5) 3 5 48 50 := ⟨by decide +kernel, rfl, by decide⟩
theorem d_c10_readLines_48 : gD b_c10_readLines 48 (.iload_n 2) 1 49 := ⟨by decide +kernel, rfl⟩
theorem d_c10_readLines_49 : gD b_c10_readLines 49 .ireturn 1 50 := ⟨by decide +kernel, rfl⟩
theorem d_c10_readLines_50 : gD b_c10_readLines 50 (.aload_n 0) 1 51 := ⟨by decide +kernel, rfl⟩
theorem d_c10_readLines_51 : gD b_c10_readLines 51 (.getfield 10) 3 54 := ⟨by decide +kernel, rfl⟩
theorem d_c10_readLines_54 : gD b_c10_readLines 54 (.iload_n 2) 1 55 := ⟨by decide +kernel, rfl⟩
theorem d_c10_readLines_55 : gD b_c10_readLines 55 (.iconst 1) 1 56 := ⟨by decide +kernel, rfl⟩
theorem d_c10_readLines_56 : gD b_c10_readLines 56 .iadd 1 57 := ⟨by decide +kernel, rfl⟩
theorem d_c10_readLines_57 : gD b_c10_readLines 57 (.bipush 39) 2 59 := ⟨by decide +kernel, rfl⟩
theorem d_c10_readLines_59 : gD b_c10_readLines 59 (.invokevirtual 384) 3 62 := ⟨by decide +kernel, rfl⟩
theorem d_c10_readLines_62 : gD b_c10_readLines 62 (.istore 5) 2 64 := ⟨by decide +kernel, rfl⟩
theorem d_c10_readLines_64 : gD b_c10_readLines 64 (.aload_n 0) 1 65 := ⟨by decide +kernel, rfl⟩
theorem d_c10_readLines_65 : gD b_c10_readLines 65 (.getfield 26) 3 68 := ⟨by decide +kernel, rfl⟩
theorem d_c10_readLines_68 : gD b_c10_readLines 68 (.iload 4) 2 70 := ⟨by decide +kernel, rfl⟩
theorem d_c10_readLines_70 : gD b_c10_readLines 70 (.iload 5) 2 72 := ⟨by decide +kernel, rfl⟩
theorem d_c10_readLines_72 : gD b_c10_readLines 72 (.invokevirtual 440) 3 75 := ⟨by decide +kernel, rfl⟩
theorem d_c10_readLines_75 : gD b_c10_readLines 75 (.istore 6) 2 77 := ⟨by decide +kernel, rfl⟩
theorem d_c10_readLines_77 : gD b_c10_readLines 77 (.iload 6) 2 79 := ⟨by decide +kernel, rfl⟩
theorem d_c10_readLines_79 : gJ b_c10_readLines 79 (.ifCond .lt 12) 3 12 82 91 := ⟨by decide +kernel, rfl, by decide⟩
theorem d_c10_readLines_82 : gD b_c10_readLines 82 (.aload_n 1) 1 83 := ⟨by decide +kernel, rfl⟩
theorem d_c10_readLines_83 : gD b_c10_readLines 83 (.iload 6) 2 85 := ⟨by decide +kernel, rfl⟩
theorem d_c10_readLines_85 : gD b_c10_readLines 85 (.invokevirtual 297) 3 88 := ⟨by decide +kernel, rfl⟩
theorem d_c10_readLines_88 : gJ b_c10_readLines 88 (.ifCond .lt 7) 3 7 91 95 := ⟨by decide +kernel, rfl, by decide⟩
theorem d_c10_readLines_91 : gD b_c10_readLines 91 (.iload_n 2) 1 92 := ⟨by decide +kernel, rfl⟩
theorem d_c10_readLines_92 : gD b_c10_readLines 92 (.iconst 1) 1 93 := ⟨by decide +kernel, rfl⟩
theorem d_c10_readLines_93 : gD b_c10_readLines 93 .iadd 1 94 := ⟨by decide +kernel, rfl⟩
theorem d_c10_readLines_94 : gD b_c10_readLines 94 .ireturn 1 95 := ⟨by decide +kernel, rfl⟩
theorem d_c10_readLines_95 : gD b_c10_readLines 95 (.aload_n 0) 1 96 := ⟨by decide +kernel, rfl⟩
theorem d_c10_readLines_96 : gD b_c10_readLines 96 (.getfield 10) 3 99 := ⟨by decide +kernel, rfl⟩
theorem d_c10_readLines_99 : gD b_c10_readLines 99 (.iload_n 2) 1 100 := ⟨by decide +kernel, rfl⟩
theorem d_c10_readLines_100 : gD b_c10_readLines 100 (.iconst 2) 1 101 := ⟨by decide +kernel, rfl⟩
theorem d_c10_readLines_101 : gD b_c10_readLines 101 .iadd 1 102 := ⟨by decide +kernel, rfl⟩
theorem d_c10_readLines_102 : gD b_c10_readLines 102 (.bipush 39) 2 104 := ⟨by decide +kernel, rfl⟩
theorem d_c10_readLines_104 : gD b_c10_readLines 104 (.invokevirtual 384) 3 107 := ⟨by decide +kernel, rfl⟩
theorem d_c10_readLines_107 : gD b_c10_readLines 107 (.istore 7) 2 109 := ⟨by decide +kernel, rfl⟩
theorem d_c10_readLines_109 : gD b_c10_readLines 109 (.iload 7) 2 111 := ⟨by decide +kernel, rfl⟩
theorem d_c10_readLines_111 : gD b_c10_readLines 111 (.iconst 1) 1 112 := ⟨by decide +kernel, rfl⟩
theorem d_c10_readLines_112 : gJ b_c10_readLines 112 (.if_icmp .ge 7) 3 7 115 119 := ⟨by decide +kernel, rfl, by decide⟩
theorem d_c10_readLines_115 : gD b_c10_readLines 115 (.iload_n 2) 1 116 := ⟨by decide +kernel, rfl⟩
theorem d_c10_readLines_116 : gD b_c10_readLines 116 (.iconst 2) 1 117 := ⟨by decide +kernel, rfl⟩
theorem d_c10_readLines_117 : gD b_c10_readLines 117 .iadd 1 118 := ⟨by decide +kernel, rfl⟩
theorem d_c10_readLines_118 : gD b_c10_readLines 118 .ireturn 1 119 := ⟨by decide +kernel, rfl⟩
theorem d_c10_readLines_119 : gD b_c10_readLines 119 (.aload_n 0) 1 120 := ⟨by decide +kernel, rfl⟩
theorem d_c10_readLines_120 : gD b_c10_readLines 120 (.getfield 10) 3 123 := ⟨by decide +kernel, rfl⟩
theorem d_c10_readLines_123 : gD b_c10_readLines 123 (.iload_n 2) 1 124 := ⟨by decide +kernel, rfl⟩
theorem d_c10_readLines_124 : gD b_c10_readLines 124 (.iconst 3) 1 125 := ⟨by decide +kernel, rfl⟩
theorem d_c10_readLines_125 : gD b_c10_readLines 125 .iadd 1 126 := ⟨by decide +kernel, rfl⟩
theorem d_c10_readLines_126 : gD b_c10_readLines 126 (.bipush 39) 2 128 := ⟨by decide +kernel, rfl⟩
theorem d_c10_readLines_128 : gD b_c10_readLines 128 (.invokevirtual 237) 3 131 := ⟨by decide +kernel, rfl⟩
theorem d_c10_readLines_131 : gD b_c10_readLines 131 (.istore 8) 2 133 := ⟨by decide +kernel, rfl⟩
theorem d_c10_readLines_133 : gD b_c10_readLines 133 (.iload 8) 2 135 := ⟨by decide +kernel, rfl⟩
theorem d_c10_readLines_135 : gD b_c10_readLines 135 (.bipush 46) 2 137 := ⟨by decide +kernel, rfl⟩
theorem d_c10_readLines_137 : gJ b_c10_readLines 137 (.if_icmp .eq 14) 3 14 140 151 := ⟨by decide +kernel, rfl, by decide⟩
theorem d_c10_readLines_140 : gD b_c10_readLines 140 (.iload 8) 2 142 := ⟨by decide +kernel, rfl⟩
theorem d_c10_readLines_142 : gD b_c10_readLines 142 (.bipush 44) 2 144 := ⟨by decide +kernel, rfl⟩
theorem d_c10_readLines_144 : gJ b_c10_readLines 144 (.if_icmp .eq 7) 3 7 147 151 := ⟨by decide +kernel, rfl, by decide⟩
theorem d_c10_readLines_147 : gD b_c10_readLines 147 (.iload_n 2) 1 148 := ⟨by decide +kernel, rfl⟩
theorem d_c10_readLines_148 : gD b_c10_readLines 148 (.iconst 3) 1 149 := ⟨by decide +kernel, rfl⟩
theorem d_c10_readLines_149 : gD b_c10_readLines 149 .iadd 1 150 := ⟨by decide +kernel, rfl⟩
theorem d_c10_readLines_150 : gD b_c10_readLines 150 .ireturn 1 151 := ⟨by decide +kernel, rfl⟩
theorem d_c10_readLines_151 : gD b_c10_readLines 151 (.aload_n 1) 1 152 := ⟨by decide +kernel, rfl⟩
theorem d_c10_readLines_152 : gD b_c10_readLines 152 (.iload 6) 2 154 := ⟨by decide +kernel, rfl⟩
theorem d_c10_readLines_154 : gD b_c10_readLines 154 (.iload 7) 2 156 := ⟨by decide +kernel, rfl⟩
theorem d_c10_readLines_156 : gD b_c10_readLines 156 (.iload 8) 2 158 := ⟨by decide +kernel, rfl⟩
theorem d_c10_readLines_158 : gD b_c10_readLines 158 (.bipush 46) 2 160 := ⟨by decide +kernel, rfl⟩
theorem d_c10_readLines_160 : gJ b_c10_readLines 160 (.if_icmp .ne 7) 3 7 163 167 := ⟨by decide +kernel, rfl, by decide⟩
theorem d_c10_readLines_163 : gD b_c10_readLines 163 (.iconst 1) 1 164 := ⟨by decide +kernel, rfl⟩
theorem d_c10_readLines_164 : gJ b_c10_readLines 164 (.goto 4) 3 4 167 168 := ⟨by decide +kernel, rfl, by decide⟩
theorem d_c10_readLines_167 : gD b_c10_readLines 167 (.iconst 0) 1 168 := ⟨by decide +kernel, rfl⟩
theorem d_c10_readLines_168 : gD b_c10_readLines 168 (.invokevirtual 212) 3 171 := ⟨by decide +kernel, rfl⟩
theorem d_c10_readLines_171 : gD b_c10_readLines 171 .pop 1 172 := ⟨by decide +kernel, rfl⟩
theorem d_c10_readLines_172 : gD b_c10_readLines 172 (.iinc 2 4) 3 175 := ⟨by decide +kernel, rfl⟩
theorem d_c10_readLines_175 : gD b_c10_readLines 175 (.iload_n 2) 1 176 := ⟨by decide +kernel, rfl⟩
theorem d_c10_readLines_176 : gD b_c10_readLines 176 (.aload_n 0) 1 177 := ⟨by decide +kernel, rfl⟩
theorem d_c10_readLines_177 : gD b_c10_readLines 177 (.getfield 10) 3 180 := ⟨by decide +kernel, rfl⟩
theorem d_c10_readLines_180 : gD b_c10_readLines 180 (.getfield 100) 3 183 := ⟨by decide +kernel, rfl⟩
theorem d_c10_readLines_183 : gJ b_c10_readLines 183 (.if_icmp .lt 5) 3 5 186 188 := ⟨by decide +kernel, rfl, by decide⟩
theorem d_c10_readLines_186 : gD b_c10_readLines 186 (.iconst (-1)) 1 187 := ⟨by decide +kernel, rfl⟩
theorem d_c10_readLines_187 : gD b_c10_readLines 187 .ireturn 1 188 := ⟨by decide +kernel, rfl⟩
theorem d_c10_readLines_188 : gD b_c10_readLines 188 (.aload_n 0) 1 189 := ⟨by decide +kernel, rfl⟩
theorem d_c10_readLines_189 : gD b_c10_readLines 189 (.getfield 10) 3 192 := ⟨by decide +kernel, rfl⟩
theorem d_c10_readLines_192 : gD b_c10_readLines 192 (.iload_n 2) 1 193 := ⟨by decide +kernel, rfl⟩
theorem d_c10_readLines_193 : gD b_c10_readLines 193 (.bipush 39) 2 195 := ⟨by decide +kernel, rfl⟩
theorem d_c10_readLines_195 : gD b_c10_readLines 195 (.invokevirtual 237) 3 198 := ⟨by decide +kernel, rfl⟩
theorem d_c10_readLines_198 : gD b_c10_readLines 198 (.bipush 59) 2 200 := ⟨by decide +kernel, rfl⟩
theorem d_c10_readLines_200 : gJ b_c10_readLines 200 (.if_icmp .eq 5) 3 5 203 205 := ⟨by decide +kernel, rfl, by decide⟩
theorem d_c10_readLines_203 : gD b_c10_readLines 203 (.iload_n 2) 1 204 := ⟨by decide +kernel, rfl⟩
theorem d_c10_readLines_204 : gD b_c10_readLines 204 .ireturn 1 205 := ⟨by decide +kernel, rfl⟩
theorem d_c10_readLines_205 : gD b_c10_readLines 205 (.iinc 2 1) 3 208 := ⟨by decide +kernel, rfl⟩
theorem d_c10_readLines_208 : gD b_c10_readLines 208 (.iinc 3 1) 3 211 := ⟨by decide +kernel, rfl⟩
theorem d_c10_readLines_211 : gJ b_c10_readLines 211 (.goto (-207)) 3 (-207) 214 4 := ⟨by decide +kernel, rfl, by decide⟩
theorem d_c10_readLines_214 : gD b_c10_readLines 214 (.iload_n 2) 1 215 := ⟨by decide +kernel, rfl⟩
theorem d_c10_readLines_215 : gD b_c10_readLines 215 .ireturn 1 216 := ⟨by decide +kernel, rfl⟩
def lp_c10_readLines_4 (N : Nat) (a0 : Nat) (a1 : Nat) : Nat → Int32 → Int32 → gH → Option ((Int32 × gH) ⊕ (Int32 × gH))
  | 0, _, _, _ => none
  | k + 1, x2, x3, h =>
  if (8 : Int32) ≤ x3 then
    some (.inr (x2, h))
  else
    (gfI h a1 7 0).bind fun v2 =>
    if (8 : Int32) ≤ v2 then
    some (.inr (x2, h))
  else
    (gfR h a0 10 0).bind fun v4 =>
    (f_c8_digit N v4 x2 (39 : Int32) h).bind fun q5 =>
    if q5 < 0 then
    some (.inl (x2, h))
  else
    (gfR h a0 10 2).bind fun v7 =>
    (gfI h v7 1 0).bind fun v8 =>
    if q5 < v8 then
    (gfR h a0 10 0).bind fun v10 =>
    (f_c8_digit N v10 (x2 + (1 : Int32)) (39 : Int32) h).bind fun q11 =>
    (gfR h a0 10 2).bind fun v12 =>
    (f_c1_fieldAt N v12 q5 q11 h).bind fun q13 =>
    if q13 < 0 then
    some (.inl (x2 + (1 : Int32), h))
  else
    (f_c7_wellOn N a1 q13 h).bind fun q15 =>
    if q15 < 0 then
    (gfR h a0 10 0).bind fun v17 =>
    (f_c8_digit N v17 (x2 + (2 : Int32)) (39 : Int32) h).bind fun q18 =>
    if (1 : Int32) ≤ q18 then
    (gfR h a0 10 0).bind fun v20 =>
    (f_c8_at N v20 (x2 + (3 : Int32)) (39 : Int32) h).bind fun q21 =>
    if q21 = (46 : Int32) then
    (f_c7_sayOn N a1 q13 q18 (if q21 = (46 : Int32) then (1 : Int32) else (0 : Int32)) h).bind fun q26 =>
    (gfR q26.2 a0 10 0).bind fun v27 =>
    (gfI q26.2 v27 8 1).bind fun v28 =>
    if (x2 + (4 : Int32)) < v28 then
    (gfR q26.2 a0 10 0).bind fun v30 =>
    (f_c8_at N v30 (x2 + (4 : Int32)) (39 : Int32) q26.2).bind fun q31 =>
    if q31 = (59 : Int32) then
    lp_c10_readLines_4 N a0 a1 k ((x2 + (4 : Int32)) + (1 : Int32)) (x3 + (1 : Int32)) q26.2
  else
    some (.inl (x2 + (4 : Int32), q26.2))
  else
    some (.inl ((-1 : Int32), q26.2))
  else
    if q21 = (44 : Int32) then
    (f_c7_sayOn N a1 q13 q18 (if q21 = (46 : Int32) then (1 : Int32) else (0 : Int32)) h).bind fun q37 =>
    (gfR q37.2 a0 10 0).bind fun v38 =>
    (gfI q37.2 v38 8 1).bind fun v39 =>
    if (x2 + (4 : Int32)) < v39 then
    (gfR q37.2 a0 10 0).bind fun v41 =>
    (f_c8_at N v41 (x2 + (4 : Int32)) (39 : Int32) q37.2).bind fun q42 =>
    if q42 = (59 : Int32) then
    lp_c10_readLines_4 N a0 a1 k ((x2 + (4 : Int32)) + (1 : Int32)) (x3 + (1 : Int32)) q37.2
  else
    some (.inl (x2 + (4 : Int32), q37.2))
  else
    some (.inl ((-1 : Int32), q37.2))
  else
    some (.inl (x2 + (3 : Int32), h))
  else
    some (.inl (x2 + (2 : Int32), h))
  else
    some (.inl (x2 + (1 : Int32), h))
  else
    some (.inl (x2, h))
def f_c10_readLines (N : Nat) (a0 : Nat) (a1 : Nat) (h : gH) : Option (Int32 × gH) :=
  (gcl h a0 10).bind fun _ =>
  (lp_c10_readLines_4 N a0 a1 N (0 : Int32) (0 : Int32) h).bind fun o44 => Sum.elim (fun r46 => some r46) (fun t45 =>
    some (t45.1, t45.2)) o44
set_option maxHeartbeats 4000000 in
set_option maxRecDepth 100000 in
theorem wlp_c10_readLines_4 {M : gM} {X : gX} {N : Nat} (hx : gEx X = false) (K : gC M X gN10 b_c10_readLines 9 (gRm (3 + N) 0 0)) (a0 : Nat) (a1 : Nat) : ∀ (k : Nat) (x2 : Int32) (x3 : Int32) (h : gH) (o : (Int32 × gH) ⊕ (Int32 × gH)), lp_c10_readLines_4 N a0 a1 k x2 x3 h = some o → (∀ t, o = .inr t → gG M X 9 0 0 214 [(2, .int t.1)] [] t.2) → (∀ r, o = .inl r → (narrow .int (.int r.1) = .int r.1 → ∀ pc pc' ls, gD b_c10_readLines pc .ireturn 1 pc' → gG M X 9 0 0 pc ls [.int r.1] r.2)) → gG M X 9 0 0 4 [(0, .ref a0), (1, .ref a1), (2, .int x2), (3, .int x3)] [] h := by
  intro k
  induction k with
  | zero =>
    intro x2 x3 h o hy
    rw [lp_c10_readLines_4.eq_1] at hy
    cases hy
  | succ k ih =>
    intro x2 x3 h o hy hE hR
    rw [lp_c10_readLines_4.eq_2] at hy
    refine g_iload_n K d_c10_readLines_4 3 rfl ?_
    refine g_bipush (v := 8) K d_c10_readLines_5 (by decide) ?_
    refine g_icmp_ge K d_c10_readLines_7 (fun c1 => ?_) (fun c1 => ?_)
    · rw [if_pos c1] at hy
      refine g_sub (ls2 := [(2, .int x2)]) [2] rfl ?_
      obtain rfl := Option.some.inj hy
      exact hE _ rfl
    · rw [if_neg c1] at hy
      refine g_aload_n K d_c10_readLines_10 1 rfl ?_
      obtain ⟨v2, e_v2, hy⟩ := gBd hy
      refine g_getI K fl_c10_132 d_c10_readLines_11 e_v2 ?_
      refine g_bipush (v := 8) K d_c10_readLines_14 (by decide) ?_
      refine g_icmp_ge K d_c10_readLines_16 (fun c3 => ?_) (fun c3 => ?_)
      · rw [if_pos c3] at hy
        refine g_sub (ls2 := [(2, .int x2)]) [2] rfl ?_
        obtain rfl := Option.some.inj hy
        exact hE _ rfl
      · rw [if_neg c3] at hy
        refine g_aload_n K d_c10_readLines_19 0 rfl ?_
        obtain ⟨v4, e_v4, hy⟩ := gBd hy
        refine g_getR K fl_c10_10 d_c10_readLines_20 e_v4 ?_
        refine g_iload_n K d_c10_readLines_23 2 rfl ?_
        refine g_bipush (v := 39) K d_c10_readLines_24 (by decide) ?_
        obtain ⟨q5, e_q5, hy⟩ := gBd hy
        refine g_callVi (rest := []) K hx ly_c8_digit kv_c10_384 d_c10_readLines_26 (ct_c8_digit M.2.1 X hx N v4 x2 (39 : Int32) h q5 e_q5) rfl rfl (Nat.le_of_ble_eq_true rfl) (gDep rfl) ⟨Nat.le_refl 0, Nat.le_refl 0⟩ ?_
        refine g_istore (ls2 := [(4, .int q5), (0, .ref a0), (1, .ref a1), (2, .int x2), (3, .int x3)]) K d_c10_readLines_29 rfl rfl ?_
        refine g_iload K d_c10_readLines_31 0 rfl ?_
        refine g_if_lt K d_c10_readLines_33 (fun c6 => ?_) (fun c6 => ?_)
        · rw [if_pos c6] at hy
          refine g_iload_n K d_c10_readLines_48 3 rfl ?_
          obtain rfl := Option.some.inj hy
          exact hR _ rfl rfl _ _ _ d_c10_readLines_49
        · rw [if_neg c6] at hy
          refine g_iload K d_c10_readLines_36 0 rfl ?_
          refine g_aload_n K d_c10_readLines_38 1 rfl ?_
          obtain ⟨v7, e_v7, hy⟩ := gBd hy
          refine g_getR K fl_c10_26 d_c10_readLines_39 e_v7 ?_
          obtain ⟨v8, e_v8, hy⟩ := gBd hy
          refine g_getI K fl_c10_414 d_c10_readLines_42 e_v8 ?_
          refine g_icmp_lt K d_c10_readLines_45 (fun c9 => ?_) (fun c9 => ?_)
          · rw [if_pos c9] at hy
            refine g_aload_n K d_c10_readLines_50 1 rfl ?_
            obtain ⟨v10, e_v10, hy⟩ := gBd hy
            refine g_getR K fl_c10_10 d_c10_readLines_51 e_v10 ?_
            refine g_iload_n K d_c10_readLines_54 3 rfl ?_
            refine g_iconst (v := 1) K d_c10_readLines_55 (by decide) ?_
            refine g_iadd K d_c10_readLines_56 ?_
            refine g_bipush (v := 39) K d_c10_readLines_57 (by decide) ?_
            obtain ⟨q11, e_q11, hy⟩ := gBd hy
            refine g_callVi (rest := []) K hx ly_c8_digit kv_c10_384 d_c10_readLines_59 (ct_c8_digit M.2.1 X hx N v10 (x2 + (1 : Int32)) (39 : Int32) h q11 e_q11) rfl rfl (Nat.le_of_ble_eq_true rfl) (gDep rfl) ⟨Nat.le_refl 0, Nat.le_refl 0⟩ ?_
            refine g_istore (ls2 := [(5, .int q11), (4, .int q5), (0, .ref a0), (1, .ref a1), (2, .int x2), (3, .int x3)]) K d_c10_readLines_62 rfl rfl ?_
            refine g_aload_n K d_c10_readLines_64 2 rfl ?_
            obtain ⟨v12, e_v12, hy⟩ := gBd hy
            refine g_getR K fl_c10_26 d_c10_readLines_65 e_v12 ?_
            refine g_iload K d_c10_readLines_68 1 rfl ?_
            refine g_iload K d_c10_readLines_70 0 rfl ?_
            obtain ⟨q13, e_q13, hy⟩ := gBd hy
            refine g_callVi (rest := []) K hx ly_c1_fieldAt kv_c10_440 d_c10_readLines_72 (ct_c1_fieldAt M.2.1 X hx N v12 q5 q11 h q13 e_q13) rfl rfl (Nat.le_of_ble_eq_true rfl) (gDep rfl) ⟨Nat.le_refl 0, Nat.le_refl 0⟩ ?_
            refine g_istore (ls2 := [(6, .int q13), (5, .int q11), (4, .int q5), (0, .ref a0), (1, .ref a1), (2, .int x2), (3, .int x3)]) K d_c10_readLines_75 rfl rfl ?_
            refine g_iload K d_c10_readLines_77 0 rfl ?_
            refine g_if_lt K d_c10_readLines_79 (fun c14 => ?_) (fun c14 => ?_)
            · rw [if_pos c14] at hy
              refine g_iload_n K d_c10_readLines_91 5 rfl ?_
              refine g_iconst (v := 1) K d_c10_readLines_92 (by decide) ?_
              refine g_iadd K d_c10_readLines_93 ?_
              obtain rfl := Option.some.inj hy
              exact hR _ rfl rfl _ _ _ d_c10_readLines_94
            · rw [if_neg c14] at hy
              refine g_aload_n K d_c10_readLines_82 4 rfl ?_
              refine g_iload K d_c10_readLines_83 0 rfl ?_
              obtain ⟨q15, e_q15, hy⟩ := gBd hy
              refine g_callVi (rest := []) K hx ly_c7_wellOn kv_c10_297 d_c10_readLines_85 (ct_c7_wellOn M.2.1 X hx N a1 q13 h q15 e_q15) rfl rfl (Nat.le_of_ble_eq_true rfl) (gDep rfl) ⟨Nat.le_refl 0, Nat.le_refl 0⟩ ?_
              refine g_if_lt K d_c10_readLines_88 (fun c16 => ?_) (fun c16 => ?_)
              · rw [if_pos c16] at hy
                refine g_aload_n K d_c10_readLines_95 3 rfl ?_
                obtain ⟨v17, e_v17, hy⟩ := gBd hy
                refine g_getR K fl_c10_10 d_c10_readLines_96 e_v17 ?_
                refine g_iload_n K d_c10_readLines_99 5 rfl ?_
                refine g_iconst (v := 2) K d_c10_readLines_100 (by decide) ?_
                refine g_iadd K d_c10_readLines_101 ?_
                refine g_bipush (v := 39) K d_c10_readLines_102 (by decide) ?_
                obtain ⟨q18, e_q18, hy⟩ := gBd hy
                refine g_callVi (rest := []) K hx ly_c8_digit kv_c10_384 d_c10_readLines_104 (ct_c8_digit M.2.1 X hx N v17 (x2 + (2 : Int32)) (39 : Int32) h q18 e_q18) rfl rfl (Nat.le_of_ble_eq_true rfl) (gDep rfl) ⟨Nat.le_refl 0, Nat.le_refl 0⟩ ?_
                refine g_istore (ls2 := [(7, .int q18), (6, .int q13), (5, .int q11), (4, .int q5), (0, .ref a0), (1, .ref a1), (2, .int x2), (3, .int x3)]) K d_c10_readLines_107 rfl rfl ?_
                refine g_iload K d_c10_readLines_109 0 rfl ?_
                refine g_iconst (v := 1) K d_c10_readLines_111 (by decide) ?_
                refine g_icmp_ge K d_c10_readLines_112 (fun c19 => ?_) (fun c19 => ?_)
                · rw [if_pos c19] at hy
                  refine g_aload_n K d_c10_readLines_119 4 rfl ?_
                  obtain ⟨v20, e_v20, hy⟩ := gBd hy
                  refine g_getR K fl_c10_10 d_c10_readLines_120 e_v20 ?_
                  refine g_iload_n K d_c10_readLines_123 6 rfl ?_
                  refine g_iconst (v := 3) K d_c10_readLines_124 (by decide) ?_
                  refine g_iadd K d_c10_readLines_125 ?_
                  refine g_bipush (v := 39) K d_c10_readLines_126 (by decide) ?_
                  obtain ⟨q21, e_q21, hy⟩ := gBd hy
                  refine g_callVi (rest := []) K hx ly_c8_at kv_c10_237 d_c10_readLines_128 (ct_c8_at M.2.1 X hx N v20 (x2 + (3 : Int32)) (39 : Int32) h q21 e_q21) rfl rfl (Nat.le_of_ble_eq_true rfl) (gDep rfl) ⟨Nat.le_refl 0, Nat.le_refl 0⟩ ?_
                  refine g_istore (ls2 := [(8, .int q21), (7, .int q18), (6, .int q13), (5, .int q11), (4, .int q5), (0, .ref a0), (1, .ref a1), (2, .int x2), (3, .int x3)]) K d_c10_readLines_131 rfl rfl ?_
                  refine g_iload K d_c10_readLines_133 0 rfl ?_
                  refine g_bipush (v := 46) K d_c10_readLines_135 (by decide) ?_
                  refine g_icmp_eq K d_c10_readLines_137 (fun c22 => ?_) (fun c22 => ?_)
                  · rw [if_pos c22] at hy
                    refine g_aload_n K d_c10_readLines_151 6 rfl ?_
                    refine g_iload K d_c10_readLines_152 2 rfl ?_
                    refine g_iload K d_c10_readLines_154 1 rfl ?_
                    refine g_iload K d_c10_readLines_156 0 rfl ?_
                    refine g_bipush (v := 46) K d_c10_readLines_158 (by decide) ?_
                    have hJ25 : ∀ w24 : Int32, w24 = (if q21 = (46 : Int32) then (1 : Int32) else (0 : Int32)) → gG M X 9 0 0 168 [(8, .int q21), (7, .int q18), (6, .int q13), (5, .int q11), (4, .int q5), (0, .ref a0), (1, .ref a1), (2, .int x2), (3, .int x3)] [.int w24, .int q18, .int q13, .ref a1] h := by
                      intro w24 e_w24
                      subst e_w24
                      obtain ⟨q26, e_q26, hy⟩ := gBd hy
                      refine g_callVi (rest := []) K hx ly_c7_sayOn kv_c10_212 d_c10_readLines_168 (ct_c7_sayOn M.2.1 X hx N a1 q13 q18 (if q21 = (46 : Int32) then (1 : Int32) else (0 : Int32)) h q26 e_q26) rfl rfl (Nat.le_of_ble_eq_true rfl) (gDep rfl) ⟨Nat.le_refl 0, Nat.le_refl 0⟩ ?_
                      refine g_pop K d_c10_readLines_171 rfl ?_
                      refine g_iinc (ls2 := [(2, .int (x2 + (4 : Int32))), (8, .int q21), (7, .int q18), (6, .int q13), (5, .int q11), (4, .int q5), (0, .ref a0), (1, .ref a1), (3, .int x3)]) (v := 4) K d_c10_readLines_172 7 rfl (by decide) rfl rfl ?_
                      refine g_iload_n K d_c10_readLines_175 0 rfl ?_
                      refine g_aload_n K d_c10_readLines_176 6 rfl ?_
                      obtain ⟨v27, e_v27, hy⟩ := gBd hy
                      refine g_getR K fl_c10_10 d_c10_readLines_177 e_v27 ?_
                      obtain ⟨v28, e_v28, hy⟩ := gBd hy
                      refine g_getI K fl_c10_100 d_c10_readLines_180 e_v28 ?_
                      refine g_icmp_lt K d_c10_readLines_183 (fun c29 => ?_) (fun c29 => ?_)
                      · rw [if_pos c29] at hy
                        refine g_aload_n K d_c10_readLines_188 6 rfl ?_
                        obtain ⟨v30, e_v30, hy⟩ := gBd hy
                        refine g_getR K fl_c10_10 d_c10_readLines_189 e_v30 ?_
                        refine g_iload_n K d_c10_readLines_192 0 rfl ?_
                        refine g_bipush (v := 39) K d_c10_readLines_193 (by decide) ?_
                        obtain ⟨q31, e_q31, hy⟩ := gBd hy
                        refine g_callVi (rest := []) K hx ly_c8_at kv_c10_237 d_c10_readLines_195 (ct_c8_at M.2.1 X hx N v30 (x2 + (4 : Int32)) (39 : Int32) q26.2 q31 e_q31) rfl rfl (Nat.le_of_ble_eq_true rfl) (gDep rfl) ⟨Nat.le_refl 0, Nat.le_refl 0⟩ ?_
                        refine g_bipush (v := 59) K d_c10_readLines_198 (by decide) ?_
                        refine g_icmp_eq K d_c10_readLines_200 (fun c32 => ?_) (fun c32 => ?_)
                        · rw [if_pos c32] at hy
                          refine g_iinc (ls2 := [(2, .int ((x2 + (4 : Int32)) + (1 : Int32))), (8, .int q21), (7, .int q18), (6, .int q13), (5, .int q11), (4, .int q5), (0, .ref a0), (1, .ref a1), (3, .int x3)]) (v := 1) K d_c10_readLines_205 0 rfl (by decide) rfl rfl ?_
                          refine g_iinc (ls2 := [(3, .int (x3 + (1 : Int32))), (2, .int ((x2 + (4 : Int32)) + (1 : Int32))), (8, .int q21), (7, .int q18), (6, .int q13), (5, .int q11), (4, .int q5), (0, .ref a0), (1, .ref a1)]) (v := 1) K d_c10_readLines_208 8 rfl (by decide) rfl rfl ?_
                          refine g_goto K d_c10_readLines_211 ?_
                          refine g_sub (ls2 := [(0, .ref a0), (1, .ref a1), (2, .int ((x2 + (4 : Int32)) + (1 : Int32))), (3, .int (x3 + (1 : Int32)))]) [7, 8, 1, 0] rfl ?_
                          exact ih _ _ _ _ hy hE hR
                        · rw [if_neg c32] at hy
                          refine g_iload_n K d_c10_readLines_203 0 rfl ?_
                          obtain rfl := Option.some.inj hy
                          exact hR _ rfl rfl _ _ _ d_c10_readLines_204
                      · rw [if_neg c29] at hy
                        refine g_iconst (v := (-1)) K d_c10_readLines_186 (by decide) ?_
                        obtain rfl := Option.some.inj hy
                        exact hR _ rfl rfl _ _ _ d_c10_readLines_187
                    refine g_icmp_ne K d_c10_readLines_160 (fun c23 => ?_) (fun c23 => ?_)
                    · refine g_iconst (v := 0) K d_c10_readLines_167 (by decide) ?_
                      exact hJ25 _ (by rw [if_neg c23])
                    · refine g_iconst (v := 1) K d_c10_readLines_163 (by decide) ?_
                      refine g_goto K d_c10_readLines_164 ?_
                      exact hJ25 _ (by rw [if_pos c23])
                  · rw [if_neg c22] at hy
                    refine g_iload K d_c10_readLines_140 0 rfl ?_
                    refine g_bipush (v := 44) K d_c10_readLines_142 (by decide) ?_
                    refine g_icmp_eq K d_c10_readLines_144 (fun c33 => ?_) (fun c33 => ?_)
                    · rw [if_pos c33] at hy
                      refine g_aload_n K d_c10_readLines_151 6 rfl ?_
                      refine g_iload K d_c10_readLines_152 2 rfl ?_
                      refine g_iload K d_c10_readLines_154 1 rfl ?_
                      refine g_iload K d_c10_readLines_156 0 rfl ?_
                      refine g_bipush (v := 46) K d_c10_readLines_158 (by decide) ?_
                      have hJ36 : ∀ w35 : Int32, w35 = (if q21 = (46 : Int32) then (1 : Int32) else (0 : Int32)) → gG M X 9 0 0 168 [(8, .int q21), (7, .int q18), (6, .int q13), (5, .int q11), (4, .int q5), (0, .ref a0), (1, .ref a1), (2, .int x2), (3, .int x3)] [.int w35, .int q18, .int q13, .ref a1] h := by
                        intro w35 e_w35
                        subst e_w35
                        obtain ⟨q37, e_q37, hy⟩ := gBd hy
                        refine g_callVi (rest := []) K hx ly_c7_sayOn kv_c10_212 d_c10_readLines_168 (ct_c7_sayOn M.2.1 X hx N a1 q13 q18 (if q21 = (46 : Int32) then (1 : Int32) else (0 : Int32)) h q37 e_q37) rfl rfl (Nat.le_of_ble_eq_true rfl) (gDep rfl) ⟨Nat.le_refl 0, Nat.le_refl 0⟩ ?_
                        refine g_pop K d_c10_readLines_171 rfl ?_
                        refine g_iinc (ls2 := [(2, .int (x2 + (4 : Int32))), (8, .int q21), (7, .int q18), (6, .int q13), (5, .int q11), (4, .int q5), (0, .ref a0), (1, .ref a1), (3, .int x3)]) (v := 4) K d_c10_readLines_172 7 rfl (by decide) rfl rfl ?_
                        refine g_iload_n K d_c10_readLines_175 0 rfl ?_
                        refine g_aload_n K d_c10_readLines_176 6 rfl ?_
                        obtain ⟨v38, e_v38, hy⟩ := gBd hy
                        refine g_getR K fl_c10_10 d_c10_readLines_177 e_v38 ?_
                        obtain ⟨v39, e_v39, hy⟩ := gBd hy
                        refine g_getI K fl_c10_100 d_c10_readLines_180 e_v39 ?_
                        refine g_icmp_lt K d_c10_readLines_183 (fun c40 => ?_) (fun c40 => ?_)
                        · rw [if_pos c40] at hy
                          refine g_aload_n K d_c10_readLines_188 6 rfl ?_
                          obtain ⟨v41, e_v41, hy⟩ := gBd hy
                          refine g_getR K fl_c10_10 d_c10_readLines_189 e_v41 ?_
                          refine g_iload_n K d_c10_readLines_192 0 rfl ?_
                          refine g_bipush (v := 39) K d_c10_readLines_193 (by decide) ?_
                          obtain ⟨q42, e_q42, hy⟩ := gBd hy
                          refine g_callVi (rest := []) K hx ly_c8_at kv_c10_237 d_c10_readLines_195 (ct_c8_at M.2.1 X hx N v41 (x2 + (4 : Int32)) (39 : Int32) q37.2 q42 e_q42) rfl rfl (Nat.le_of_ble_eq_true rfl) (gDep rfl) ⟨Nat.le_refl 0, Nat.le_refl 0⟩ ?_
                          refine g_bipush (v := 59) K d_c10_readLines_198 (by decide) ?_
                          refine g_icmp_eq K d_c10_readLines_200 (fun c43 => ?_) (fun c43 => ?_)
                          · rw [if_pos c43] at hy
                            refine g_iinc (ls2 := [(2, .int ((x2 + (4 : Int32)) + (1 : Int32))), (8, .int q21), (7, .int q18), (6, .int q13), (5, .int q11), (4, .int q5), (0, .ref a0), (1, .ref a1), (3, .int x3)]) (v := 1) K d_c10_readLines_205 0 rfl (by decide) rfl rfl ?_
                            refine g_iinc (ls2 := [(3, .int (x3 + (1 : Int32))), (2, .int ((x2 + (4 : Int32)) + (1 : Int32))), (8, .int q21), (7, .int q18), (6, .int q13), (5, .int q11), (4, .int q5), (0, .ref a0), (1, .ref a1)]) (v := 1) K d_c10_readLines_208 8 rfl (by decide) rfl rfl ?_
                            refine g_goto K d_c10_readLines_211 ?_
                            refine g_sub (ls2 := [(0, .ref a0), (1, .ref a1), (2, .int ((x2 + (4 : Int32)) + (1 : Int32))), (3, .int (x3 + (1 : Int32)))]) [7, 8, 1, 0] rfl ?_
                            exact ih _ _ _ _ hy hE hR
                          · rw [if_neg c43] at hy
                            refine g_iload_n K d_c10_readLines_203 0 rfl ?_
                            obtain rfl := Option.some.inj hy
                            exact hR _ rfl rfl _ _ _ d_c10_readLines_204
                        · rw [if_neg c40] at hy
                          refine g_iconst (v := (-1)) K d_c10_readLines_186 (by decide) ?_
                          obtain rfl := Option.some.inj hy
                          exact hR _ rfl rfl _ _ _ d_c10_readLines_187
                      refine g_icmp_ne K d_c10_readLines_160 (fun c34 => ?_) (fun c34 => ?_)
                      · refine g_iconst (v := 0) K d_c10_readLines_167 (by decide) ?_
                        exact hJ36 _ (by rw [if_neg c34])
                      · refine g_iconst (v := 1) K d_c10_readLines_163 (by decide) ?_
                        refine g_goto K d_c10_readLines_164 ?_
                        exact hJ36 _ (by rw [if_pos c34])
                    · rw [if_neg c33] at hy
                      refine g_iload_n K d_c10_readLines_147 7 rfl ?_
                      refine g_iconst (v := 3) K d_c10_readLines_148 (by decide) ?_
                      refine g_iadd K d_c10_readLines_149 ?_
                      obtain rfl := Option.some.inj hy
                      exact hR _ rfl rfl _ _ _ d_c10_readLines_150
                · rw [if_neg c19] at hy
                  refine g_iload_n K d_c10_readLines_115 6 rfl ?_
                  refine g_iconst (v := 2) K d_c10_readLines_116 (by decide) ?_
                  refine g_iadd K d_c10_readLines_117 ?_
                  obtain rfl := Option.some.inj hy
                  exact hR _ rfl rfl _ _ _ d_c10_readLines_118
              · rw [if_neg c16] at hy
                refine g_iload_n K d_c10_readLines_91 5 rfl ?_
                refine g_iconst (v := 1) K d_c10_readLines_92 (by decide) ?_
                refine g_iadd K d_c10_readLines_93 ?_
                obtain rfl := Option.some.inj hy
                exact hR _ rfl rfl _ _ _ d_c10_readLines_94
          · rw [if_neg c9] at hy
            refine g_iload_n K d_c10_readLines_48 3 rfl ?_
            obtain rfl := Option.some.inj hy
            exact hR _ rfl rfl _ _ _ d_c10_readLines_49
set_option maxHeartbeats 4000000 in
set_option maxRecDepth 100000 in
theorem ct_c10_readLines (l : Launch) (X : gX) (hx : gEx X = false) (N : Nat) (a0 : Nat) (a1 : Nat) (h : gH) (q : Int32 × gH) (hy : f_c10_readLines N a0 a1 h = some q) : gRc y_c10_readLines h a0 ∧ gMi l X y_c10_readLines b_c10_readLines 9 .int (3 + N) 0 0 [.ref a0, .ref a1] h q.1 q.2 := by
  unfold f_c10_readLines at hy
  obtain ⟨u0, e_u0, hy⟩ := gBd hy
  cases u0
  refine ⟨Or.inl ⟨10, _, _, e_u0, rfl⟩, gMet_i (lsx := [(0, .ref a0), (1, .ref a1)]) (by decide) rfl rfl ?_⟩
  intro M hMl K hret
  subst hMl
  refine g_iconst (v := 0) K d_c10_readLines_0 (by decide) ?_
  refine g_istore_n (ls2 := [(2, .int (0 : Int32)), (0, .ref a0), (1, .ref a1)]) K d_c10_readLines_1 rfl rfl ?_
  refine g_iconst (v := 0) K d_c10_readLines_2 (by decide) ?_
  refine g_istore_n (ls2 := [(3, .int (0 : Int32)), (2, .int (0 : Int32)), (0, .ref a0), (1, .ref a1)]) K d_c10_readLines_3 rfl rfl ?_
  obtain ⟨o44, e_o44, hy⟩ := gBd hy
  refine g_sub (ls2 := [(0, .ref a0), (1, .ref a1), (2, .int (0 : Int32)), (3, .int (0 : Int32))]) [2, 3, 1, 0] rfl ?_
  refine wlp_c10_readLines_4 hx K a0 a1 N (0 : Int32) (0 : Int32) h o44 e_o44 (fun t45 e_t45 => ?_) (fun r46 e_r46 => ?_)
  · subst e_t45
    simp only [Sum.elim_inr] at hy
    refine g_iload_n K d_c10_readLines_214 0 rfl ?_
    obtain rfl := Option.some.inj hy
    exact hret rfl _ _ _ d_c10_readLines_215
  · subst e_r46
    simp only [Sum.elim_inl] at hy
    intro hn pc9 pc9' ls9 hd9
    obtain rfl := Option.some.inj hy
    exact hret hn _ _ _ hd9
-- c10 rests
theorem d_c10_rests_0 : gD b_c10_rests 0 (.iload_n 1) 1 1 := ⟨by decide +kernel, rfl⟩
theorem d_c10_rests_1 : gJ b_c10_rests 1 (.ifCond .lt 9) 3 9 4 10 := ⟨by decide +kernel, rfl, by decide⟩
theorem d_c10_rests_4 : gD b_c10_rests 4 (.iload_n 1) 1 5 := ⟨by decide +kernel, rfl⟩
theorem d_c10_rests_5 : gD b_c10_rests 5 (.bipush 20) 2 7 := ⟨by decide +kernel, rfl⟩
theorem d_c10_rests_7 : gJ b_c10_rests 7 (.if_icmp .le 5) 3 5 10 12 := ⟨by decide +kernel, rfl, by decide⟩
theorem d_c10_rests_10 : gD b_c10_rests 10 (.iconst (-1)) 1 11 := ⟨by decide +kernel, rfl⟩
theorem d_c10_rests_11 : gD b_c10_rests 11 .ireturn 1 12 := ⟨by decide +kernel, rfl⟩
theorem d_c10_rests_12 : gD b_c10_rests 12 (.aload_n 0) 1 13 := ⟨by decide +kernel, rfl⟩
theorem d_c10_rests_13 : gD b_c10_rests 13 (.getfield 19) 3 16 := ⟨by decide +kernel, rfl⟩
theorem d_c10_rests_16 : gD b_c10_rests 16 (.invokevirtual 284) 3 19 := ⟨by decide +kernel, rfl⟩
theorem d_c10_rests_19 : gD b_c10_rests 19 (.iconst 0) 1 20 := ⟨by decide +kernel, rfl⟩
theorem d_c10_rests_20 : gD b_c10_rests 20 (.istore_n 2) 1 21 := ⟨by decide +kernel, rfl⟩
theorem d_c10_rests_21 : gD b_c10_rests 21 (.iconst 0) 1 22 := ⟨by decide +kernel, rfl⟩
theorem d_c10_rests_22 : gD b_c10_rests 22 (.istore_n 3) 1 23 := ⟨by decide +kernel, rfl⟩
theorem d_c10_rests_23 : gD b_c10_rests 23 (.iload_n 3) 1 24 := ⟨by decide +kernel, rfl⟩
theorem d_c10_rests_24 : gD b_c10_rests 24 (.bipush 9) 2 26 := ⟨by decide +kernel, rfl⟩
theorem d_c10_rests_26 : gJ b_c10_rests 26 (.if_icmp .gt 75) 3 75 29 101 := ⟨by decide +kernel, rfl, by decide⟩
theorem d_c10_rests_29 : gD b_c10_rests 29 (.iconst 0) 1 30 := ⟨by decide +kernel, rfl⟩
theorem d_c10_rests_30 : gD b_c10_rests 30 (.istore 4) 2 32 := ⟨by decide +kernel, rfl⟩
theorem d_c10_rests_32 : gD b_c10_rests 32 (.iload 4) 2 34 := ⟨by decide +kernel, rfl⟩
theorem d_c10_rests_34 : gD b_c10_rests 34 (.bipush 9) 2 36 := ⟨by decide +kernel, rfl⟩
theorem d_c10_rests_36 : gJ b_c10_rests 36 (.if_icmp .gt 59) 3 59 39 95 := ⟨by decide +kernel, rfl, by decide⟩
theorem d_c10_rests_39 : gD b_c10_rests 39 (.iload_n 3) 1 40 := ⟨by decide +kernel, rfl⟩
theorem d_c10_rests_40 : gD b_c10_rests 40 (.iload 4) 2 42 := ⟨by decide +kernel, rfl⟩
theorem d_c10_rests_42 : gD b_c10_rests 42 (.iload_n 1) 1 43 := ⟨by decide +kernel, rfl⟩
theorem d_c10_rests_43 : gD b_c10_rests 43 (.invokestatic 394) 3 46 := ⟨by decide +kernel, rfl⟩
theorem d_c10_rests_46 : gJ b_c10_rests 46 (.ifCond .eq 43) 3 43 49 89 := ⟨by decide +kernel, rfl, by decide⟩
theorem d_c10_rests_49 : gD b_c10_rests 49 (.iload 4) 2 51 := ⟨by decide +kernel, rfl⟩
theorem d_c10_rests_51 : gD b_c10_rests 51 (.iload_n 3) 1 52 := ⟨by decide +kernel, rfl⟩
theorem d_c10_rests_52 : gD b_c10_rests 52 (.iload_n 1) 1 53 := ⟨by decide +kernel, rfl⟩
theorem d_c10_rests_53 : gD b_c10_rests 53 (.invokestatic 394) 3 56 := ⟨by decide +kernel, rfl⟩
theorem d_c10_rests_56 : gJ b_c10_rests 56 (.ifCond .ne 6) 3 6 59 62 := ⟨by decide +kernel, rfl, by decide⟩
theorem d_c10_rests_59 : gJ b_c10_rests 59 (.goto 30) 3 30 62 89 := ⟨by decide +kernel, rfl, by decide⟩
theorem d_c10_rests_62 : gD b_c10_rests 62 (.iinc 2 1) 3 65 := ⟨by decide +kernel, rfl⟩
theorem d_c10_rests_65 : gD b_c10_rests 65 (.iload_n 2) 1 66 := ⟨by decide +kernel, rfl⟩
theorem d_c10_rests_66 : gD b_c10_rests 66 (.iconst 1) 1 67 := ⟨by decide +kernel, rfl⟩
theorem d_c10_rests_67 : gJ b_c10_rests 67 (.if_icmp .ne 22) 3 22 70 89 := ⟨by decide +kernel, rfl, by decide⟩
theorem d_c10_rests_70 : gD b_c10_rests 70 (.aload_n 0) 1 71 := ⟨by decide +kernel, rfl⟩
theorem d_c10_rests_71 : gD b_c10_rests 71 (.getfield 19) 3 74 := ⟨by decide +kernel, rfl⟩
theorem d_c10_rests_74 : gD b_c10_rests 74 (.iload_n 3) 1 75 := ⟨by decide +kernel, rfl⟩
theorem d_c10_rests_75 : gD b_c10_rests 75 .i2l 1 76 := ⟨by decide +kernel, rfl⟩
theorem d_c10_rests_76 : gD b_c10_rests 76 (.invokevirtual 290) 3 79 := ⟨by decide +kernel, rfl⟩
theorem d_c10_rests_79 : gD b_c10_rests 79 (.aload_n 0) 1 80 := ⟨by decide +kernel, rfl⟩
theorem d_c10_rests_80 : gD b_c10_rests 80 (.getfield 19) 3 83 := ⟨by decide +kernel, rfl⟩
theorem d_c10_rests_83 : gD b_c10_rests 83 (.iload 4) 2 85 := ⟨by decide +kernel, rfl⟩
theorem d_c10_rests_85 : gD b_c10_rests 85 .i2l 1 86 := ⟨by decide +kernel, rfl⟩
theorem d_c10_rests_86 : gD b_c10_rests 86 (.invokevirtual 290) 3 89 := ⟨by decide +kernel, rfl⟩
theorem d_c10_rests_89 : gD b_c10_rests 89 (.iinc 4 1) 3 92 := ⟨by decide +kernel, rfl⟩
theorem d_c10_rests_92 : gJ b_c10_rests 92 (.goto (-60)) 3 (-60) 95 32 := ⟨by decide +kernel, rfl, by decide⟩
theorem d_c10_rests_95 : gD b_c10_rests 95 (.iinc 3 1) 3 98 := ⟨by decide +kernel, rfl⟩
theorem d_c10_rests_98 : gJ b_c10_rests 98 (.goto (-75)) 3 (-75) 101 23 := ⟨by decide +kernel, rfl, by decide⟩
theorem d_c10_rests_101 : gD b_c10_rests 101 (.iload_n 2) 1 102 := ⟨by decide +kernel, rfl⟩
theorem d_c10_rests_102 : gD b_c10_rests 102 .ireturn 1 103 := ⟨by decide +kernel, rfl⟩
def lp_c10_rests_32 (N : Nat) (a0 : Nat) (x1 : Int32) (x3 : Int32) : Nat → Int32 → Int32 → gH → Option (Int32 × gH)
  | 0, _, _, _ => none
  | k + 1, x2, x4, h =>
  if (9 : Int32) < x4 then
    some (x2, h)
  else
    (f_c10_isBestTalk N x3 x4 x1 h).bind fun q7 =>
    (show Option (Int32 × gH) from if q7 = 0 then
    some (x2, h)
  else
    (f_c10_isBestTalk N x4 x3 x1 h).bind fun q11 =>
    if q11 = 0 then
    some (x2, h)
  else
    if (x2 + (1 : Int32)) = (1 : Int32) then
    (gfR h a0 10 1).bind fun v14 =>
    (f_c4_add N v14 x3.toInt64 h).bind fun q15 =>
    (gfR q15 a0 10 1).bind fun v16 =>
    (f_c4_add N v16 x4.toInt64 q15).bind fun q17 =>
    some (x2 + (1 : Int32), q17)
  else
    some (x2 + (1 : Int32), h)).bind fun t9 =>
    lp_c10_rests_32 N a0 x1 x3 k t9.1 (x4 + (1 : Int32)) t9.2
def lp_c10_rests_23 (N : Nat) (a0 : Nat) (x1 : Int32) : Nat → Int32 → Int32 → gH → Option (Int32 × gH)
  | 0, _, _, _ => none
  | k + 1, x2, x3, h =>
  if (9 : Int32) < x3 then
    some (x2, h)
  else
    (lp_c10_rests_32 N a0 x1 x3 N x2 (0 : Int32) h).bind fun o18 =>
    lp_c10_rests_23 N a0 x1 k o18.1 (x3 + (1 : Int32)) o18.2
def f_c10_rests (N : Nat) (a0 : Nat) (x1 : Int32) (h : gH) : Option (Int32 × gH) :=
  (gcl h a0 10).bind fun _ =>
  if x1 < 0 then
    some ((-1 : Int32), h)
  else
    if x1 ≤ (20 : Int32) then
    (gfR h a0 10 1).bind fun v3 =>
    (f_c4_clear N v3 h).bind fun q4 =>
    (lp_c10_rests_23 N a0 x1 N (0 : Int32) (0 : Int32) q4).bind fun o19 =>
    some (o19.1, o19.2)
  else
    some ((-1 : Int32), h)
set_option maxHeartbeats 4000000 in
set_option maxRecDepth 100000 in
theorem wlp_c10_rests_32 {M : gM} {X : gX} {N : Nat} (hx : gEx X = false) (K : gC M X gN10 b_c10_rests 5 (gRm (3 + N) 0 0)) (a0 : Nat) (x1 : Int32) (x3 : Int32) : ∀ (k : Nat) (x2 : Int32) (x4 : Int32) (h : gH) (o : Int32 × gH), lp_c10_rests_32 N a0 x1 x3 k x2 x4 h = some o → gG M X 5 0 0 95 [(0, .ref a0), (1, .int x1), (2, .int o.1), (3, .int x3)] [] o.2 → gG M X 5 0 0 32 [(0, .ref a0), (1, .int x1), (2, .int x2), (3, .int x3), (4, .int x4)] [] h := by
  intro k
  induction k with
  | zero =>
    intro x2 x4 h o hy
    rw [lp_c10_rests_32.eq_1] at hy
    cases hy
  | succ k ih =>
    intro x2 x4 h o hy hE
    rw [lp_c10_rests_32.eq_2] at hy
    refine g_iload K d_c10_rests_32 4 rfl ?_
    refine g_bipush (v := 9) K d_c10_rests_34 (by decide) ?_
    refine g_icmp_gt K d_c10_rests_36 (fun c6 => ?_) (fun c6 => ?_)
    · rw [if_pos c6] at hy
      refine g_sub (ls2 := [(0, .ref a0), (1, .int x1), (2, .int x2), (3, .int x3)]) [0, 1, 2, 3] rfl ?_
      obtain rfl := Option.some.inj hy
      exact hE
    · rw [if_neg c6] at hy
      refine g_iload_n K d_c10_rests_39 3 rfl ?_
      refine g_iload K d_c10_rests_40 4 rfl ?_
      refine g_iload_n K d_c10_rests_42 1 rfl ?_
      obtain ⟨q7, e_q7, hy⟩ := gBd hy
      refine g_callSi (rest := []) K hx ly_c10_isBestTalk ks_c10_394 d_c10_rests_43 (ct_c10_isBestTalk M.2.1 X hx N x3 x4 x1 h q7 e_q7) rfl rfl (Nat.le_of_ble_eq_true rfl) (gDep rfl) ⟨Nat.le_refl 0, Nat.le_refl 0⟩ ?_
      obtain ⟨t9, e_t9, hy⟩ := gBd hy
      have hJ10 : gG M X 5 0 0 89 [(0, .ref a0), (1, .int x1), (2, .int t9.1), (3, .int x3), (4, .int x4)] [] t9.2 := by
        refine g_iinc (ls2 := [(4, .int (x4 + (1 : Int32))), (0, .ref a0), (1, .int x1), (2, .int t9.1), (3, .int x3)]) (v := 1) K d_c10_rests_89 4 rfl (by decide) rfl rfl ?_
        refine g_goto K d_c10_rests_92 ?_
        refine g_sub (ls2 := [(0, .ref a0), (1, .int x1), (2, .int t9.1), (3, .int x3), (4, .int (x4 + (1 : Int32)))]) [1, 2, 3, 4, 0] rfl ?_
        exact ih _ _ _ _ hy hE
      refine g_if_eq K d_c10_rests_46 (fun c8 => ?_) (fun c8 => ?_)
      · rw [if_pos c8] at e_t9
        obtain rfl := Option.some.inj e_t9
        exact hJ10
      · rw [if_neg c8] at e_t9
        refine g_iload K d_c10_rests_49 4 rfl ?_
        refine g_iload_n K d_c10_rests_51 3 rfl ?_
        refine g_iload_n K d_c10_rests_52 1 rfl ?_
        obtain ⟨q11, e_q11, e_t9⟩ := gBd e_t9
        refine g_callSi (rest := []) K hx ly_c10_isBestTalk ks_c10_394 d_c10_rests_53 (ct_c10_isBestTalk M.2.1 X hx N x4 x3 x1 h q11 e_q11) rfl rfl (Nat.le_of_ble_eq_true rfl) (gDep rfl) ⟨Nat.le_refl 0, Nat.le_refl 0⟩ ?_
        refine g_if_ne K d_c10_rests_56 (fun c12 => ?_) (fun c12 => ?_)
        · rw [if_neg c12] at e_t9
          refine g_iinc (ls2 := [(2, .int (x2 + (1 : Int32))), (0, .ref a0), (1, .int x1), (3, .int x3), (4, .int x4)]) (v := 1) K d_c10_rests_62 2 rfl (by decide) rfl rfl ?_
          refine g_iload_n K d_c10_rests_65 0 rfl ?_
          refine g_iconst (v := 1) K d_c10_rests_66 (by decide) ?_
          refine g_icmp_ne K d_c10_rests_67 (fun c13 => ?_) (fun c13 => ?_)
          · rw [if_neg c13] at e_t9
            refine g_sub (ls2 := [(0, .ref a0), (1, .int x1), (2, .int (x2 + (1 : Int32))), (3, .int x3), (4, .int x4)]) [1, 2, 0, 3, 4] rfl ?_
            obtain rfl := Option.some.inj e_t9
            exact hJ10
          · rw [if_pos c13] at e_t9
            refine g_aload_n K d_c10_rests_70 1 rfl ?_
            obtain ⟨v14, e_v14, e_t9⟩ := gBd e_t9
            refine g_getR K fl_c10_19 d_c10_rests_71 e_v14 ?_
            refine g_iload_n K d_c10_rests_74 3 rfl ?_
            refine g_i2l K d_c10_rests_75 ?_
            obtain ⟨q15, e_q15, e_t9⟩ := gBd e_t9
            refine g_callVv (rest := []) K hx ly_c4_add kv_c10_290 d_c10_rests_76 (ct_c4_add M.2.1 X hx N v14 x3.toInt64 h q15 e_q15) rfl rfl (Nat.le_of_ble_eq_true rfl) (gDep rfl) ⟨Nat.le_refl 0, Nat.le_refl 0⟩ ?_
            refine g_aload_n K d_c10_rests_79 1 rfl ?_
            obtain ⟨v16, e_v16, e_t9⟩ := gBd e_t9
            refine g_getR K fl_c10_19 d_c10_rests_80 e_v16 ?_
            refine g_iload K d_c10_rests_83 4 rfl ?_
            refine g_i2l K d_c10_rests_85 ?_
            obtain ⟨q17, e_q17, e_t9⟩ := gBd e_t9
            refine g_callVv (rest := []) K hx ly_c4_add kv_c10_290 d_c10_rests_86 (ct_c4_add M.2.1 X hx N v16 x4.toInt64 q15 q17 e_q17) rfl rfl (Nat.le_of_ble_eq_true rfl) (gDep rfl) ⟨Nat.le_refl 0, Nat.le_refl 0⟩ ?_
            refine g_sub (ls2 := [(0, .ref a0), (1, .int x1), (2, .int (x2 + (1 : Int32))), (3, .int x3), (4, .int x4)]) [1, 2, 0, 3, 4] rfl ?_
            obtain rfl := Option.some.inj e_t9
            exact hJ10
        · rw [if_pos c12] at e_t9
          refine g_goto K d_c10_rests_59 ?_
          obtain rfl := Option.some.inj e_t9
          exact hJ10
set_option maxHeartbeats 4000000 in
set_option maxRecDepth 100000 in
theorem wlp_c10_rests_23 {M : gM} {X : gX} {N : Nat} (hx : gEx X = false) (K : gC M X gN10 b_c10_rests 5 (gRm (3 + N) 0 0)) (a0 : Nat) (x1 : Int32) : ∀ (k : Nat) (x2 : Int32) (x3 : Int32) (h : gH) (o : Int32 × gH), lp_c10_rests_23 N a0 x1 k x2 x3 h = some o → gG M X 5 0 0 101 [(2, .int o.1)] [] o.2 → gG M X 5 0 0 23 [(0, .ref a0), (1, .int x1), (2, .int x2), (3, .int x3)] [] h := by
  intro k
  induction k with
  | zero =>
    intro x2 x3 h o hy
    rw [lp_c10_rests_23.eq_1] at hy
    cases hy
  | succ k ih =>
    intro x2 x3 h o hy hE
    rw [lp_c10_rests_23.eq_2] at hy
    refine g_iload_n K d_c10_rests_23 3 rfl ?_
    refine g_bipush (v := 9) K d_c10_rests_24 (by decide) ?_
    refine g_icmp_gt K d_c10_rests_26 (fun c5 => ?_) (fun c5 => ?_)
    · rw [if_pos c5] at hy
      refine g_sub (ls2 := [(2, .int x2)]) [2] rfl ?_
      obtain rfl := Option.some.inj hy
      exact hE
    · rw [if_neg c5] at hy
      refine g_iconst (v := 0) K d_c10_rests_29 (by decide) ?_
      refine g_istore (ls2 := [(4, .int (0 : Int32)), (0, .ref a0), (1, .int x1), (2, .int x2), (3, .int x3)]) K d_c10_rests_30 rfl rfl ?_
      obtain ⟨o18, e_o18, hy⟩ := gBd hy
      refine g_sub (ls2 := [(0, .ref a0), (1, .int x1), (2, .int x2), (3, .int x3), (4, .int (0 : Int32))]) [1, 2, 3, 4, 0] rfl ?_
      refine wlp_c10_rests_32 hx K a0 x1 x3 N x2 (0 : Int32) h o18 e_o18 ?_
      refine g_iinc (ls2 := [(3, .int (x3 + (1 : Int32))), (0, .ref a0), (1, .int x1), (2, .int o18.1)]) (v := 1) K d_c10_rests_95 3 rfl (by decide) rfl rfl ?_
      refine g_goto K d_c10_rests_98 ?_
      refine g_sub (ls2 := [(0, .ref a0), (1, .int x1), (2, .int o18.1), (3, .int (x3 + (1 : Int32)))]) [1, 2, 3, 0] rfl ?_
      exact ih _ _ _ _ hy hE
set_option maxHeartbeats 4000000 in
set_option maxRecDepth 100000 in
theorem ct_c10_rests (l : Launch) (X : gX) (hx : gEx X = false) (N : Nat) (a0 : Nat) (x1 : Int32) (h : gH) (q : Int32 × gH) (hy : f_c10_rests N a0 x1 h = some q) : gRc y_c10_rests h a0 ∧ gMi l X y_c10_rests b_c10_rests 5 .int (3 + N) 0 0 [.ref a0, .int x1] h q.1 q.2 := by
  unfold f_c10_rests at hy
  obtain ⟨u0, e_u0, hy⟩ := gBd hy
  cases u0
  refine ⟨Or.inl ⟨10, _, _, e_u0, rfl⟩, gMet_i (lsx := [(0, .ref a0), (1, .int x1)]) (by decide) rfl rfl ?_⟩
  intro M hMl K hret
  subst hMl
  refine g_iload_n K d_c10_rests_0 1 rfl ?_
  refine g_if_lt K d_c10_rests_1 (fun c1 => ?_) (fun c1 => ?_)
  · rw [if_pos c1] at hy
    refine g_iconst (v := (-1)) K d_c10_rests_10 (by decide) ?_
    obtain rfl := Option.some.inj hy
    exact hret rfl _ _ _ d_c10_rests_11
  · rw [if_neg c1] at hy
    refine g_iload_n K d_c10_rests_4 1 rfl ?_
    refine g_bipush (v := 20) K d_c10_rests_5 (by decide) ?_
    refine g_icmp_le K d_c10_rests_7 (fun c2 => ?_) (fun c2 => ?_)
    · rw [if_pos c2] at hy
      refine g_aload_n K d_c10_rests_12 0 rfl ?_
      obtain ⟨v3, e_v3, hy⟩ := gBd hy
      refine g_getR K fl_c10_19 d_c10_rests_13 e_v3 ?_
      obtain ⟨q4, e_q4, hy⟩ := gBd hy
      refine g_callVv (rest := []) K hx ly_c4_clear kv_c10_284 d_c10_rests_16 (ct_c4_clear M.2.1 X hx N v3 h q4 e_q4) rfl rfl (Nat.le_of_ble_eq_true rfl) (gDep rfl) ⟨Nat.le_refl 0, Nat.le_refl 0⟩ ?_
      refine g_iconst (v := 0) K d_c10_rests_19 (by decide) ?_
      refine g_istore_n (ls2 := [(2, .int (0 : Int32)), (0, .ref a0), (1, .int x1)]) K d_c10_rests_20 rfl rfl ?_
      refine g_iconst (v := 0) K d_c10_rests_21 (by decide) ?_
      refine g_istore_n (ls2 := [(3, .int (0 : Int32)), (2, .int (0 : Int32)), (0, .ref a0), (1, .int x1)]) K d_c10_rests_22 rfl rfl ?_
      obtain ⟨o19, e_o19, hy⟩ := gBd hy
      refine g_sub (ls2 := [(0, .ref a0), (1, .int x1), (2, .int (0 : Int32)), (3, .int (0 : Int32))]) [2, 3, 1, 0] rfl ?_
      refine wlp_c10_rests_23 hx K a0 x1 N (0 : Int32) (0 : Int32) q4 o19 e_o19 ?_
      refine g_iload_n K d_c10_rests_101 0 rfl ?_
      obtain rfl := Option.some.inj hy
      exact hret rfl _ _ _ d_c10_rests_102
    · rw [if_neg c2] at hy
      refine g_iconst (v := (-1)) K d_c10_rests_10 (by decide) ?_
      obtain rfl := Option.some.inj hy
      exact hret rfl _ _ _ d_c10_rests_11
-- c10 sheet
theorem d_c10_sheet_0 : gD b_c10_sheet 0 (.iload_n 1) 1 1 := ⟨by decide +kernel, rfl⟩
theorem d_c10_sheet_1 : gJ b_c10_sheet 1 (.ifCond .lt 14) 3 14 4 15 := ⟨by decide +kernel, rfl, by decide⟩
theorem d_c10_sheet_4 : gD b_c10_sheet 4 (.iload_n 1) 1 5 := ⟨by decide +kernel, rfl⟩
theorem d_c10_sheet_5 : gD b_c10_sheet 5 (.iconst 3) 1 6 := ⟨by decide +kernel, rfl⟩
theorem d_c10_sheet_6 : gJ b_c10_sheet 6 (.if_icmp .gt 9) 3 9 9 15 := ⟨by decide +kernel, rfl, by decide⟩
theorem d_c10_sheet_9 : gD b_c10_sheet 9 (.iload_n 2) 1 10 := ⟨by decide +kernel, rfl⟩
theorem d_c10_sheet_10 : gD b_c10_sheet 10 (.bipush 8) 2 12 := ⟨by decide +kernel, rfl⟩
theorem d_c10_sheet_12 : gJ b_c10_sheet 12 (.if_icmp .le 5) 3 5 15 17 := ⟨by decide +kernel, rfl, by decide⟩
theorem d_c10_sheet_15 : gD b_c10_sheet 15 (.iconst (-1)) 1 16 := ⟨by decide +kernel, rfl⟩
theorem d_c10_sheet_16 : gD b_c10_sheet 16 .ireturn 1 17 := ⟨by decide +kernel, rfl⟩
theorem d_c10_sheet_17 : gD b_c10_sheet 17 (.iload_n 1) 1 18 := ⟨by decide +kernel, rfl⟩
theorem d_c10_sheet_18 : gD b_c10_sheet 18 (.iconst 3) 1 19 := ⟨by decide +kernel, rfl⟩
theorem d_c10_sheet_19 : gJ b_c10_sheet 19 (.if_icmp .ge 10) 3 10 22 29 := ⟨by decide +kernel, rfl, by decide⟩
theorem d_c10_sheet_22 : gD b_c10_sheet 22 (.iload_n 2) 1 23 := ⟨by decide +kernel, rfl⟩
theorem d_c10_sheet_23 : gJ b_c10_sheet 23 (.ifCond .ge 6) 3 6 26 29 := ⟨by decide +kernel, rfl, by decide⟩
theorem d_c10_sheet_26 : gD b_c10_sheet 26 (.bipush (-2)) 2 28 := ⟨by decide +kernel, rfl⟩
theorem d_c10_sheet_28 : gD b_c10_sheet 28 .ireturn 1 29 := ⟨by decide +kernel, rfl⟩
theorem d_c10_sheet_29 : gD b_c10_sheet 29 (.iload_n 1) 1 30 := ⟨by decide +kernel, rfl⟩
theorem d_c10_sheet_30 : gD b_c10_sheet 30 (.iconst 3) 1 31 := ⟨by decide +kernel, rfl⟩
theorem d_c10_sheet_31 : gJ b_c10_sheet 31 (.if_icmp .ne 7) 3 7 34 38 := ⟨by decide +kernel, rfl, by decide⟩
theorem d_c10_sheet_34 : gD b_c10_sheet 34 (.iconst 0) 1 35 := ⟨by decide +kernel, rfl⟩
theorem d_c10_sheet_35 : gJ b_c10_sheet 35 (.goto 4) 3 4 38 39 := ⟨by decide +kernel, rfl, by decide⟩
theorem d_c10_sheet_38 : gD b_c10_sheet 38 (.iload_n 2) 1 39 := ⟨by decide +kernel, rfl⟩
theorem d_c10_sheet_39 : gD b_c10_sheet 39 (.istore 5) 2 41 := ⟨by decide +kernel, rfl⟩
theorem d_c10_sheet_41 : gD b_c10_sheet 41 (.iload_n 3) 1 42 := ⟨by decide +kernel, rfl⟩
theorem d_c10_sheet_42 : gD b_c10_sheet 42 (.istore 6) 2 44 := ⟨by decide +kernel, rfl⟩
theorem d_c10_sheet_44 : gD b_c10_sheet 44 (.iconst 0) 1 45 := ⟨by decide +kernel, rfl⟩
theorem d_c10_sheet_45 : gD b_c10_sheet 45 (.istore 7) 2 47 := ⟨by decide +kernel, rfl⟩
theorem d_c10_sheet_47 : gD b_c10_sheet 47 (.iload 7) 2 49 := ⟨by decide +kernel, rfl⟩
theorem d_c10_sheet_49 : gD b_c10_sheet 49 (.aload_n 0) 1 50 := ⟨by decide +kernel, rfl⟩
theorem d_c10_sheet_50 : gD b_c10_sheet 50 (.getfield 33) 3 53 := ⟨by decide +kernel, rfl⟩
theorem d_c10_sheet_53 : gD b_c10_sheet 53 (.getfield 132) 3 56 := ⟨by decide +kernel, rfl⟩
theorem d_c10_sheet_56 : gJ b_c10_sheet 56 (.if_icmp .ge 48) 3 48 59 104 := ⟨by decide +kernel, rfl, by decide⟩
theorem d_c10_sheet_59 : gD b_c10_sheet 59 (.aload_n 0) 1 60 := ⟨by decide +kernel, rfl⟩
theorem d_c10_sheet_60 : gD b_c10_sheet 60 (.getfield 33) 3 63 := ⟨by decide +kernel, rfl⟩
theorem d_c10_sheet_63 : gD b_c10_sheet 63 (.getfield 157) 3 66 := ⟨by decide +kernel, rfl⟩
theorem d_c10_sheet_66 : gD b_c10_sheet 66 (.iload 7) 2 68 := ⟨by decide +kernel, rfl⟩
theorem d_c10_sheet_68 : gD b_c10_sheet 68 (.iload 7) 2 70 := ⟨by decide +kernel, rfl⟩
theorem d_c10_sheet_70 : gD b_c10_sheet 70 (.iload 5) 2 72 := ⟨by decide +kernel, rfl⟩
theorem d_c10_sheet_72 : gJ b_c10_sheet 72 (.if_icmp .ge 17) 3 17 75 89 := ⟨by decide +kernel, rfl, by decide⟩
theorem d_c10_sheet_75 : gD b_c10_sheet 75 (.iload_n 1) 1 76 := ⟨by decide +kernel, rfl⟩
theorem d_c10_sheet_76 : gD b_c10_sheet 76 (.iload 6) 2 78 := ⟨by decide +kernel, rfl⟩
theorem d_c10_sheet_78 : gD b_c10_sheet 78 (.invokestatic 186) 3 81 := ⟨by decide +kernel, rfl⟩
theorem d_c10_sheet_81 : gD b_c10_sheet 81 (.bipush 99) 2 83 := ⟨by decide +kernel, rfl⟩
theorem d_c10_sheet_83 : gD b_c10_sheet 83 (.invokestatic 189) 3 86 := ⟨by decide +kernel, rfl⟩
theorem d_c10_sheet_86 : gJ b_c10_sheet 86 (.goto 4) 3 4 89 90 := ⟨by decide +kernel, rfl, by decide⟩
theorem d_c10_sheet_89 : gD b_c10_sheet 89 (.iconst 0) 1 90 := ⟨by decide +kernel, rfl⟩
theorem d_c10_sheet_90 : gD b_c10_sheet 90 .iastore 1 91 := ⟨by decide +kernel, rfl⟩
theorem d_c10_sheet_91 : gD b_c10_sheet 91 (.iload 6) 2 93 := ⟨by decide +kernel, rfl⟩
theorem d_c10_sheet_93 : gD b_c10_sheet 93 (.iload 4) 2 95 := ⟨by decide +kernel, rfl⟩
theorem d_c10_sheet_95 : gD b_c10_sheet 95 .iadd 1 96 := ⟨by decide +kernel, rfl⟩
theorem d_c10_sheet_96 : gD b_c10_sheet 96 (.istore 6) 2 98 := ⟨by decide +kernel, rfl⟩
theorem d_c10_sheet_98 : gD b_c10_sheet 98 (.iinc 7 1) 3 101 := ⟨by decide +kernel, rfl⟩
theorem d_c10_sheet_101 : gJ b_c10_sheet 101 (.goto (-54)) 3 (-54) 104 47 := ⟨by decide +kernel, rfl, by decide⟩
theorem d_c10_sheet_104 : gD b_c10_sheet 104 (.iload_n 1) 1 105 := ⟨by decide +kernel, rfl⟩
theorem d_c10_sheet_105 : gD b_c10_sheet 105 (.iconst 3) 1 106 := ⟨by decide +kernel, rfl⟩
theorem d_c10_sheet_106 : gJ b_c10_sheet 106 (.if_icmp .ne 8) 3 8 109 114 := ⟨by decide +kernel, rfl, by decide⟩
theorem d_c10_sheet_109 : gD b_c10_sheet 109 (.bipush (-3)) 2 111 := ⟨by decide +kernel, rfl⟩
theorem d_c10_sheet_111 : gJ b_c10_sheet 111 (.goto 10) 3 10 114 121 := ⟨by decide +kernel, rfl, by decide⟩
theorem d_c10_sheet_114 : gD b_c10_sheet 114 (.aload_n 0) 1 115 := ⟨by decide +kernel, rfl⟩
theorem d_c10_sheet_115 : gD b_c10_sheet 115 (.getfield 33) 3 118 := ⟨by decide +kernel, rfl⟩
theorem d_c10_sheet_118 : gD b_c10_sheet 118 (.invokevirtual 192) 3 121 := ⟨by decide +kernel, rfl⟩
theorem d_c10_sheet_121 : gD b_c10_sheet 121 .ireturn 1 122 := ⟨by decide +kernel, rfl⟩
def lp_c10_sheet_47 (N : Nat) (a0 : Nat) (x1 : Int32) (x4 : Int32) (x5 : Int32) : Nat → Int32 → Int32 → gH → Option (gH)
  | 0, _, _, _ => none
  | k + 1, x6, x7, h =>
  (gfR h a0 10 3).bind fun v8 =>
    (gfI h v8 7 0).bind fun v9 =>
    if v9 ≤ x7 then
    some h
  else
    (gfR h a0 10 3).bind fun v11 =>
    (gfR h v11 7 5).bind fun v12 =>
    (show Option (Int32) from if x5 ≤ x7 then
    some (0 : Int32)
  else
    (f_c10_asKind N x1 x6 h).bind fun q17 =>
    (f_c10_put N q17 (99 : Int32) h).bind fun q18 =>
    some q18).bind fun t14 =>
    (sa 0 h v12 x7 t14).bind fun h16 =>
    lp_c10_sheet_47 N a0 x1 x4 x5 k (x6 + x4) (x7 + (1 : Int32)) h16
def f_c10_sheet (N : Nat) (a0 : Nat) (x1 : Int32) (x2 : Int32) (x3 : Int32) (x4 : Int32) (h : gH) : Option (Int32 × gH) :=
  (gcl h a0 10).bind fun _ =>
  if x1 < 0 then
    some ((-1 : Int32), h)
  else
    if (3 : Int32) < x1 then
    some ((-1 : Int32), h)
  else
    if x2 ≤ (8 : Int32) then
    if (3 : Int32) ≤ x1 then
    (lp_c10_sheet_47 N a0 x1 x4 (if x1 = (3 : Int32) then (0 : Int32) else x2) N x3 (0 : Int32) h).bind fun o19 =>
    (show Option (Int32) from if x1 = (3 : Int32) then
    some (-3 : Int32)
  else
    (gfR o19 a0 10 3).bind fun v23 =>
    (f_c7_waterOfAll N v23 o19).bind fun q24 =>
    some q24).bind fun t21 =>
    some (t21, o19)
  else
    if 0 ≤ x2 then
    (lp_c10_sheet_47 N a0 x1 x4 (if x1 = (3 : Int32) then (0 : Int32) else x2) N x3 (0 : Int32) h).bind fun o29 =>
    (show Option (Int32) from if x1 = (3 : Int32) then
    some (-3 : Int32)
  else
    (gfR o29 a0 10 3).bind fun v33 =>
    (f_c7_waterOfAll N v33 o29).bind fun q34 =>
    some q34).bind fun t31 =>
    some (t31, o29)
  else
    some ((-2 : Int32), h)
  else
    some ((-1 : Int32), h)
set_option maxHeartbeats 4000000 in
set_option maxRecDepth 100000 in
theorem wlp_c10_sheet_47 {M : gM} {X : gX} {N : Nat} (hx : gEx X = false) (K : gC M X gN10 b_c10_sheet 8 (gRm (3 + N) 0 0)) (a0 : Nat) (x1 : Int32) (x4 : Int32) (x5 : Int32) : ∀ (k : Nat) (x6 : Int32) (x7 : Int32) (h : gH) (o : gH), lp_c10_sheet_47 N a0 x1 x4 x5 k x6 x7 h = some o → gG M X 8 0 0 104 [(0, .ref a0), (1, .int x1)] [] o → gG M X 8 0 0 47 [(0, .ref a0), (1, .int x1), (4, .int x4), (5, .int x5), (6, .int x6), (7, .int x7)] [] h := by
  intro k
  induction k with
  | zero =>
    intro x6 x7 h o hy
    rw [lp_c10_sheet_47.eq_1] at hy
    cases hy
  | succ k ih =>
    intro x6 x7 h o hy hE
    rw [lp_c10_sheet_47.eq_2] at hy
    refine g_iload K d_c10_sheet_47 5 rfl ?_
    refine g_aload_n K d_c10_sheet_49 0 rfl ?_
    obtain ⟨v8, e_v8, hy⟩ := gBd hy
    refine g_getR K fl_c10_33 d_c10_sheet_50 e_v8 ?_
    obtain ⟨v9, e_v9, hy⟩ := gBd hy
    refine g_getI K fl_c10_132 d_c10_sheet_53 e_v9 ?_
    refine g_icmp_ge K d_c10_sheet_56 (fun c10 => ?_) (fun c10 => ?_)
    · rw [if_pos c10] at hy
      refine g_sub (ls2 := [(0, .ref a0), (1, .int x1)]) [0, 1] rfl ?_
      obtain rfl := Option.some.inj hy
      exact hE
    · rw [if_neg c10] at hy
      refine g_aload_n K d_c10_sheet_59 0 rfl ?_
      obtain ⟨v11, e_v11, hy⟩ := gBd hy
      refine g_getR K fl_c10_33 d_c10_sheet_60 e_v11 ?_
      obtain ⟨v12, e_v12, hy⟩ := gBd hy
      refine g_getR K fl_c10_157 d_c10_sheet_63 e_v12 ?_
      refine g_iload K d_c10_sheet_66 5 rfl ?_
      refine g_iload K d_c10_sheet_68 5 rfl ?_
      refine g_iload K d_c10_sheet_70 3 rfl ?_
      obtain ⟨t14, e_t14, hy⟩ := gBd hy
      have hJ15 : gG M X 8 0 0 90 [(0, .ref a0), (1, .int x1), (4, .int x4), (5, .int x5), (6, .int x6), (7, .int x7)] [.int t14, .int x7, .ref v12] h := by
        obtain ⟨h16, e_h16, hy⟩ := gBd hy
        refine g_iast K d_c10_sheet_90 e_h16 ?_
        refine g_iload K d_c10_sheet_91 4 rfl ?_
        refine g_iload K d_c10_sheet_93 2 rfl ?_
        refine g_iadd K d_c10_sheet_95 ?_
        refine g_istore (ls2 := [(6, .int (x6 + x4)), (0, .ref a0), (1, .int x1), (4, .int x4), (5, .int x5), (7, .int x7)]) K d_c10_sheet_96 rfl rfl ?_
        refine g_iinc (ls2 := [(7, .int (x7 + (1 : Int32))), (6, .int (x6 + x4)), (0, .ref a0), (1, .int x1), (4, .int x4), (5, .int x5)]) (v := 1) K d_c10_sheet_98 5 rfl (by decide) rfl rfl ?_
        refine g_goto K d_c10_sheet_101 ?_
        refine g_sub (ls2 := [(0, .ref a0), (1, .int x1), (4, .int x4), (5, .int x5), (6, .int (x6 + x4)), (7, .int (x7 + (1 : Int32)))]) [2, 3, 4, 5, 1, 0] rfl ?_
        exact ih _ _ _ _ hy hE
      refine g_icmp_ge K d_c10_sheet_72 (fun c13 => ?_) (fun c13 => ?_)
      · rw [if_pos c13] at e_t14
        refine g_iconst (v := 0) K d_c10_sheet_89 (by decide) ?_
        obtain rfl := Option.some.inj e_t14
        exact hJ15
      · rw [if_neg c13] at e_t14
        refine g_iload_n K d_c10_sheet_75 1 rfl ?_
        refine g_iload K d_c10_sheet_76 4 rfl ?_
        obtain ⟨q17, e_q17, e_t14⟩ := gBd e_t14
        refine g_callSi (rest := [.int x7, .ref v12]) K hx ly_c10_asKind ks_c10_186 d_c10_sheet_78 (ct_c10_asKind M.2.1 X hx N x1 x6 h q17 e_q17) rfl rfl (Nat.le_of_ble_eq_true rfl) (gDep rfl) ⟨Nat.le_refl 0, Nat.le_refl 0⟩ ?_
        refine g_bipush (v := 99) K d_c10_sheet_81 (by decide) ?_
        obtain ⟨q18, e_q18, e_t14⟩ := gBd e_t14
        refine g_callSi (rest := [.int x7, .ref v12]) K hx ly_c10_put ks_c10_189 d_c10_sheet_83 (ct_c10_put M.2.1 X hx N q17 (99 : Int32) h q18 e_q18) rfl rfl (Nat.le_of_ble_eq_true rfl) (gDep rfl) ⟨Nat.le_refl 0, Nat.le_refl 0⟩ ?_
        refine g_goto K d_c10_sheet_86 ?_
        obtain rfl := Option.some.inj e_t14
        exact hJ15
set_option maxHeartbeats 4000000 in
set_option maxRecDepth 100000 in
theorem ct_c10_sheet (l : Launch) (X : gX) (hx : gEx X = false) (N : Nat) (a0 : Nat) (x1 : Int32) (x2 : Int32) (x3 : Int32) (x4 : Int32) (h : gH) (q : Int32 × gH) (hy : f_c10_sheet N a0 x1 x2 x3 x4 h = some q) : gRc y_c10_sheet h a0 ∧ gMi l X y_c10_sheet b_c10_sheet 8 .int (3 + N) 0 0 [.ref a0, .int x1, .int x2, .int x3, .int x4] h q.1 q.2 := by
  unfold f_c10_sheet at hy
  obtain ⟨u0, e_u0, hy⟩ := gBd hy
  cases u0
  refine ⟨Or.inl ⟨10, _, _, e_u0, rfl⟩, gMet_i (lsx := [(0, .ref a0), (1, .int x1), (2, .int x2), (3, .int x3), (4, .int x4)]) (by decide) rfl rfl ?_⟩
  intro M hMl K hret
  subst hMl
  refine g_iload_n K d_c10_sheet_0 1 rfl ?_
  refine g_if_lt K d_c10_sheet_1 (fun c1 => ?_) (fun c1 => ?_)
  · rw [if_pos c1] at hy
    refine g_iconst (v := (-1)) K d_c10_sheet_15 (by decide) ?_
    obtain rfl := Option.some.inj hy
    exact hret rfl _ _ _ d_c10_sheet_16
  · rw [if_neg c1] at hy
    refine g_iload_n K d_c10_sheet_4 1 rfl ?_
    refine g_iconst (v := 3) K d_c10_sheet_5 (by decide) ?_
    refine g_icmp_gt K d_c10_sheet_6 (fun c2 => ?_) (fun c2 => ?_)
    · rw [if_pos c2] at hy
      refine g_iconst (v := (-1)) K d_c10_sheet_15 (by decide) ?_
      obtain rfl := Option.some.inj hy
      exact hret rfl _ _ _ d_c10_sheet_16
    · rw [if_neg c2] at hy
      refine g_iload_n K d_c10_sheet_9 2 rfl ?_
      refine g_bipush (v := 8) K d_c10_sheet_10 (by decide) ?_
      refine g_icmp_le K d_c10_sheet_12 (fun c3 => ?_) (fun c3 => ?_)
      · rw [if_pos c3] at hy
        refine g_iload_n K d_c10_sheet_17 1 rfl ?_
        refine g_iconst (v := 3) K d_c10_sheet_18 (by decide) ?_
        refine g_icmp_ge K d_c10_sheet_19 (fun c4 => ?_) (fun c4 => ?_)
        · rw [if_pos c4] at hy
          refine g_iload_n K d_c10_sheet_29 1 rfl ?_
          refine g_iconst (v := 3) K d_c10_sheet_30 (by decide) ?_
          have hJ7 : ∀ w6 : Int32, w6 = (if x1 = (3 : Int32) then (0 : Int32) else x2) → gG M X 8 0 0 39 [(0, .ref a0), (1, .int x1), (2, .int x2), (3, .int x3), (4, .int x4)] [.int w6] h := by
            intro w6 e_w6
            subst e_w6
            refine g_istore (ls2 := [(5, .int (if x1 = (3 : Int32) then (0 : Int32) else x2)), (0, .ref a0), (1, .int x1), (2, .int x2), (3, .int x3), (4, .int x4)]) K d_c10_sheet_39 rfl rfl ?_
            refine g_iload_n K d_c10_sheet_41 4 rfl ?_
            refine g_istore (ls2 := [(6, .int x3), (5, .int (if x1 = (3 : Int32) then (0 : Int32) else x2)), (0, .ref a0), (1, .int x1), (2, .int x2), (3, .int x3), (4, .int x4)]) K d_c10_sheet_42 rfl rfl ?_
            refine g_iconst (v := 0) K d_c10_sheet_44 (by decide) ?_
            refine g_istore (ls2 := [(7, .int (0 : Int32)), (6, .int x3), (5, .int (if x1 = (3 : Int32) then (0 : Int32) else x2)), (0, .ref a0), (1, .int x1), (2, .int x2), (3, .int x3), (4, .int x4)]) K d_c10_sheet_45 rfl rfl ?_
            obtain ⟨o19, e_o19, hy⟩ := gBd hy
            refine g_sub (ls2 := [(0, .ref a0), (1, .int x1), (4, .int x4), (5, .int (if x1 = (3 : Int32) then (0 : Int32) else x2)), (6, .int x3), (7, .int (0 : Int32))]) [3, 4, 7, 2, 1, 0] rfl ?_
            refine wlp_c10_sheet_47 hx K a0 x1 x4 (if x1 = (3 : Int32) then (0 : Int32) else x2) N x3 (0 : Int32) h o19 e_o19 ?_
            refine g_iload_n K d_c10_sheet_104 1 rfl ?_
            refine g_iconst (v := 3) K d_c10_sheet_105 (by decide) ?_
            obtain ⟨t21, e_t21, hy⟩ := gBd hy
            have hJ22 : gG M X 8 0 0 121 [] [.int t21] o19 := by
              obtain rfl := Option.some.inj hy
              exact hret rfl _ _ _ d_c10_sheet_121
            refine g_icmp_ne K d_c10_sheet_106 (fun c20 => ?_) (fun c20 => ?_)
            · rw [if_neg c20] at e_t21
              refine g_aload_n K d_c10_sheet_114 0 rfl ?_
              obtain ⟨v23, e_v23, e_t21⟩ := gBd e_t21
              refine g_getR K fl_c10_33 d_c10_sheet_115 e_v23 ?_
              obtain ⟨q24, e_q24, e_t21⟩ := gBd e_t21
              refine g_callVi (rest := []) K hx ly_c7_waterOfAll kv_c10_192 d_c10_sheet_118 (ct_c7_waterOfAll M.2.1 X hx N v23 o19 q24 e_q24) rfl rfl (Nat.le_of_ble_eq_true rfl) (gDep rfl) ⟨Nat.le_refl 0, Nat.le_refl 0⟩ ?_
              refine g_sub (ls2 := []) [] rfl ?_
              obtain rfl := Option.some.inj e_t21
              exact hJ22
            · rw [if_pos c20] at e_t21
              refine g_bipush (v := (-3)) K d_c10_sheet_109 (by decide) ?_
              refine g_goto K d_c10_sheet_111 ?_
              refine g_sub (ls2 := []) [] rfl ?_
              obtain rfl := Option.some.inj e_t21
              exact hJ22
          refine g_icmp_ne K d_c10_sheet_31 (fun c5 => ?_) (fun c5 => ?_)
          · refine g_iload_n K d_c10_sheet_38 2 rfl ?_
            exact hJ7 _ (by rw [if_neg c5])
          · refine g_iconst (v := 0) K d_c10_sheet_34 (by decide) ?_
            refine g_goto K d_c10_sheet_35 ?_
            exact hJ7 _ (by rw [if_pos c5])
        · rw [if_neg c4] at hy
          refine g_iload_n K d_c10_sheet_22 2 rfl ?_
          refine g_if_ge K d_c10_sheet_23 (fun c25 => ?_) (fun c25 => ?_)
          · rw [if_pos c25] at hy
            refine g_iload_n K d_c10_sheet_29 1 rfl ?_
            refine g_iconst (v := 3) K d_c10_sheet_30 (by decide) ?_
            have hJ28 : ∀ w27 : Int32, w27 = (if x1 = (3 : Int32) then (0 : Int32) else x2) → gG M X 8 0 0 39 [(0, .ref a0), (1, .int x1), (2, .int x2), (3, .int x3), (4, .int x4)] [.int w27] h := by
              intro w27 e_w27
              subst e_w27
              refine g_istore (ls2 := [(5, .int (if x1 = (3 : Int32) then (0 : Int32) else x2)), (0, .ref a0), (1, .int x1), (2, .int x2), (3, .int x3), (4, .int x4)]) K d_c10_sheet_39 rfl rfl ?_
              refine g_iload_n K d_c10_sheet_41 4 rfl ?_
              refine g_istore (ls2 := [(6, .int x3), (5, .int (if x1 = (3 : Int32) then (0 : Int32) else x2)), (0, .ref a0), (1, .int x1), (2, .int x2), (3, .int x3), (4, .int x4)]) K d_c10_sheet_42 rfl rfl ?_
              refine g_iconst (v := 0) K d_c10_sheet_44 (by decide) ?_
              refine g_istore (ls2 := [(7, .int (0 : Int32)), (6, .int x3), (5, .int (if x1 = (3 : Int32) then (0 : Int32) else x2)), (0, .ref a0), (1, .int x1), (2, .int x2), (3, .int x3), (4, .int x4)]) K d_c10_sheet_45 rfl rfl ?_
              obtain ⟨o29, e_o29, hy⟩ := gBd hy
              refine g_sub (ls2 := [(0, .ref a0), (1, .int x1), (4, .int x4), (5, .int (if x1 = (3 : Int32) then (0 : Int32) else x2)), (6, .int x3), (7, .int (0 : Int32))]) [3, 4, 7, 2, 1, 0] rfl ?_
              refine wlp_c10_sheet_47 hx K a0 x1 x4 (if x1 = (3 : Int32) then (0 : Int32) else x2) N x3 (0 : Int32) h o29 e_o29 ?_
              refine g_iload_n K d_c10_sheet_104 1 rfl ?_
              refine g_iconst (v := 3) K d_c10_sheet_105 (by decide) ?_
              obtain ⟨t31, e_t31, hy⟩ := gBd hy
              have hJ32 : gG M X 8 0 0 121 [] [.int t31] o29 := by
                obtain rfl := Option.some.inj hy
                exact hret rfl _ _ _ d_c10_sheet_121
              refine g_icmp_ne K d_c10_sheet_106 (fun c30 => ?_) (fun c30 => ?_)
              · rw [if_neg c30] at e_t31
                refine g_aload_n K d_c10_sheet_114 0 rfl ?_
                obtain ⟨v33, e_v33, e_t31⟩ := gBd e_t31
                refine g_getR K fl_c10_33 d_c10_sheet_115 e_v33 ?_
                obtain ⟨q34, e_q34, e_t31⟩ := gBd e_t31
                refine g_callVi (rest := []) K hx ly_c7_waterOfAll kv_c10_192 d_c10_sheet_118 (ct_c7_waterOfAll M.2.1 X hx N v33 o29 q34 e_q34) rfl rfl (Nat.le_of_ble_eq_true rfl) (gDep rfl) ⟨Nat.le_refl 0, Nat.le_refl 0⟩ ?_
                refine g_sub (ls2 := []) [] rfl ?_
                obtain rfl := Option.some.inj e_t31
                exact hJ32
              · rw [if_pos c30] at e_t31
                refine g_bipush (v := (-3)) K d_c10_sheet_109 (by decide) ?_
                refine g_goto K d_c10_sheet_111 ?_
                refine g_sub (ls2 := []) [] rfl ?_
                obtain rfl := Option.some.inj e_t31
                exact hJ32
            refine g_icmp_ne K d_c10_sheet_31 (fun c26 => ?_) (fun c26 => ?_)
            · refine g_iload_n K d_c10_sheet_38 2 rfl ?_
              exact hJ28 _ (by rw [if_neg c26])
            · refine g_iconst (v := 0) K d_c10_sheet_34 (by decide) ?_
              refine g_goto K d_c10_sheet_35 ?_
              exact hJ28 _ (by rw [if_pos c26])
          · rw [if_neg c25] at hy
            refine g_bipush (v := (-2)) K d_c10_sheet_26 (by decide) ?_
            obtain rfl := Option.some.inj hy
            exact hret rfl _ _ _ d_c10_sheet_28
      · rw [if_neg c3] at hy
        refine g_iconst (v := (-1)) K d_c10_sheet_15 (by decide) ?_
        obtain rfl := Option.some.inj hy
        exact hret rfl _ _ _ d_c10_sheet_16
-- c10 square
theorem d_c10_square_0 : gD b_c10_square 0 (.iconst 0) 1 1 := ⟨by decide +kernel, rfl⟩
theorem d_c10_square_1 : gD b_c10_square 1 (.istore_n 1) 1 2 := ⟨by decide +kernel, rfl⟩
theorem d_c10_square_2 : gD b_c10_square 2 (.iconst 0) 1 3 := ⟨by decide +kernel, rfl⟩
theorem d_c10_square_3 : gD b_c10_square 3 (.istore_n 2) 1 4 := ⟨by decide +kernel, rfl⟩
theorem d_c10_square_4 : gD b_c10_square 4 (.iconst 0) 1 5 := ⟨by decide +kernel, rfl⟩
theorem d_c10_square_5 : gD b_c10_square 5 (.istore_n 3) 1 6 := ⟨by decide +kernel, rfl⟩
theorem d_c10_square_6 : gD b_c10_square 6 (.iload_n 3) 1 7 := ⟨by decide +kernel, rfl⟩
theorem d_c10_square_7 : gD b_c10_square 7 (.aload_n 0) 1 8 := ⟨by decide +kernel, rfl⟩
theorem d_c10_square_8 : gD b_c10_square 8 (.getfield 26) 3 11 := ⟨by decide +kernel, rfl⟩
theorem d_c10_square_11 : gD b_c10_square 11 (.invokevirtual 120) 3 14 := ⟨by decide +kernel, rfl⟩
theorem d_c10_square_14 : gJ b_c10_square 14 (.if_icmp .ge 27) 3 27 17 41 := ⟨by decide +kernel, rfl, by decide⟩
theorem d_c10_square_17 : gD b_c10_square 17 (.aload_n 0) 1 18 := ⟨by decide +kernel, rfl⟩
theorem d_c10_square_18 : gD b_c10_square 18 (.iload_n 3) 1 19 := ⟨by decide +kernel, rfl⟩
theorem d_c10_square_19 : gD b_c10_square 19 (.invokevirtual 331) 3 22 := ⟨by decide +kernel, rfl⟩
theorem d_c10_square_22 : gD b_c10_square 22 (.istore 4) 2 24 := ⟨by decide +kernel, rfl⟩
theorem d_c10_square_24 : gD b_c10_square 24 (.iload 4) 2 26 := ⟨by decide +kernel, rfl⟩
theorem d_c10_square_26 : gD b_c10_square 26 (.iload_n 1) 1 27 := ⟨by decide +kernel, rfl⟩
theorem d_c10_square_27 : gJ b_c10_square 27 (.if_icmp .le 8) 3 8 30 35 := ⟨by decide +kernel, rfl, by decide⟩
theorem d_c10_square_30 : gD b_c10_square 30 (.iload 4) 2 32 := ⟨by decide +kernel, rfl⟩
theorem d_c10_square_32 : gD b_c10_square 32 (.istore_n 1) 1 33 := ⟨by decide +kernel, rfl⟩
theorem d_c10_square_33 : gD b_c10_square 33 (.iload_n 3) 1 34 := ⟨by decide +kernel, rfl⟩
theorem d_c10_square_34 : gD b_c10_square 34 (.istore_n 2) 1 35 := ⟨by decide +kernel, rfl⟩
theorem d_c10_square_35 : gD b_c10_square 35 (.iinc 3 1) 3 38 := ⟨by decide +kernel, rfl⟩
theorem d_c10_square_38 : gJ b_c10_square 38 (.goto (-32)) 3 (-32) 41 6 := ⟨by decide +kernel, rfl, by decide⟩
theorem d_c10_square_41 : gD b_c10_square 41 (.aload_n 0) 1 42 := ⟨by decide +kernel, rfl⟩
theorem d_c10_square_42 : gD b_c10_square 42 (.getfield 19) 3 45 := ⟨by decide +kernel, rfl⟩
theorem d_c10_square_45 : gD b_c10_square 45 (.invokevirtual 284) 3 48 := ⟨by decide +kernel, rfl⟩
theorem d_c10_square_48 : gD b_c10_square 48 (.iload_n 1) 1 49 := ⟨by decide +kernel, rfl⟩
theorem d_c10_square_49 : gJ b_c10_square 49 (.ifCond .le 12) 3 12 52 61 := ⟨by decide +kernel, rfl, by decide⟩
theorem d_c10_square_52 : gD b_c10_square 52 (.aload_n 0) 1 53 := ⟨by decide +kernel, rfl⟩
theorem d_c10_square_53 : gD b_c10_square 53 (.getfield 19) 3 56 := ⟨by decide +kernel, rfl⟩
theorem d_c10_square_56 : gD b_c10_square 56 (.iload_n 2) 1 57 := ⟨by decide +kernel, rfl⟩
theorem d_c10_square_57 : gD b_c10_square 57 .i2l 1 58 := ⟨by decide +kernel, rfl⟩
theorem d_c10_square_58 : gD b_c10_square 58 (.invokevirtual 290) 3 61 := ⟨by decide +kernel, rfl⟩
theorem d_c10_square_61 : gD b_c10_square 61 (.iload_n 1) 1 62 := ⟨by decide +kernel, rfl⟩
theorem d_c10_square_62 : gD b_c10_square 62 .ireturn 1 63 := ⟨by decide +kernel, rfl⟩
def lp_c10_square_6 (N : Nat) (a0 : Nat) (h : gH) : Nat → Int32 → Int32 → Int32 → Option (Int32 × Int32)
  | 0, _, _, _ => none
  | k + 1, x1, x2, x3 =>
  (gfR h a0 10 2).bind fun v1 =>
    (f_c1_fields N v1 h).bind fun q2 =>
    if q2 ≤ x3 then
    some (x1, x2)
  else
    (f_c10_sideFrom N a0 x3 h).bind fun q4 =>
    (show Option (Int32 × Int32) from if q4 ≤ x1 then
    some (x1, x2)
  else
    some (q4, x3)).bind fun t6 =>
    lp_c10_square_6 N a0 h k t6.1 t6.2 (x3 + (1 : Int32))
def f_c10_square (N : Nat) (a0 : Nat) (h : gH) : Option (Int32 × gH) :=
  (gcl h a0 10).bind fun _ =>
  (lp_c10_square_6 N a0 h N (0 : Int32) (0 : Int32) (0 : Int32)).bind fun o8 =>
    (gfR h a0 10 1).bind fun v9 =>
    (f_c4_clear N v9 h).bind fun q10 =>
    (show Option (gH) from if o8.1 ≤ 0 then
    some q10
  else
    (gfR q10 a0 10 1).bind fun v14 =>
    (f_c4_add N v14 o8.2.toInt64 q10).bind fun q15 =>
    some q15).bind fun t12 =>
    some (o8.1, t12)
set_option maxHeartbeats 4000000 in
set_option maxRecDepth 100000 in
theorem wlp_c10_square_6 {M : gM} {X : gX} {N : Nat} (hx : gEx X = false) (K : gC M X gN10 b_c10_square 5 (gRm (3 + N) 0 0)) (a0 : Nat) (h : gH) : ∀ (k : Nat) (x1 : Int32) (x2 : Int32) (x3 : Int32) (o : Int32 × Int32), lp_c10_square_6 N a0 h k x1 x2 x3 = some o → gG M X 5 0 0 41 [(0, .ref a0), (1, .int o.1), (2, .int o.2)] [] h → gG M X 5 0 0 6 [(0, .ref a0), (1, .int x1), (2, .int x2), (3, .int x3)] [] h := by
  intro k
  induction k with
  | zero =>
    intro x1 x2 x3 o hy
    rw [lp_c10_square_6.eq_1] at hy
    cases hy
  | succ k ih =>
    intro x1 x2 x3 o hy hE
    rw [lp_c10_square_6.eq_2] at hy
    refine g_iload_n K d_c10_square_6 3 rfl ?_
    refine g_aload_n K d_c10_square_7 0 rfl ?_
    obtain ⟨v1, e_v1, hy⟩ := gBd hy
    refine g_getR K fl_c10_26 d_c10_square_8 e_v1 ?_
    obtain ⟨q2, e_q2, hy⟩ := gBd hy
    refine g_callVi (rest := [.int x3]) K hx ly_c1_fields kv_c10_120 d_c10_square_11 (ct_c1_fields M.2.1 X hx N v1 h q2 e_q2) rfl rfl (Nat.le_of_ble_eq_true rfl) (gDep rfl) ⟨Nat.le_refl 0, Nat.le_refl 0⟩ ?_
    refine g_icmp_ge K d_c10_square_14 (fun c3 => ?_) (fun c3 => ?_)
    · rw [if_pos c3] at hy
      refine g_sub (ls2 := [(0, .ref a0), (1, .int x1), (2, .int x2)]) [0, 1, 2] rfl ?_
      obtain rfl := Option.some.inj hy
      exact hE
    · rw [if_neg c3] at hy
      refine g_aload_n K d_c10_square_17 0 rfl ?_
      refine g_iload_n K d_c10_square_18 3 rfl ?_
      obtain ⟨q4, e_q4, hy⟩ := gBd hy
      refine g_callVi (rest := []) K hx ly_c10_sideFrom kv_c10_331 d_c10_square_19 (ct_c10_sideFrom M.2.1 X hx N a0 x3 h q4 e_q4) rfl rfl (Nat.le_of_ble_eq_true rfl) (gDep rfl) ⟨Nat.le_refl 0, Nat.le_refl 0⟩ ?_
      refine g_istore (ls2 := [(4, .int q4), (0, .ref a0), (1, .int x1), (2, .int x2), (3, .int x3)]) K d_c10_square_22 rfl rfl ?_
      refine g_iload K d_c10_square_24 0 rfl ?_
      refine g_iload_n K d_c10_square_26 2 rfl ?_
      obtain ⟨t6, e_t6, hy⟩ := gBd hy
      have hJ7 : gG M X 5 0 0 35 [(0, .ref a0), (1, .int t6.1), (2, .int t6.2), (3, .int x3)] [] h := by
        refine g_iinc (ls2 := [(3, .int (x3 + (1 : Int32))), (0, .ref a0), (1, .int t6.1), (2, .int t6.2)]) (v := 1) K d_c10_square_35 3 rfl (by decide) rfl rfl ?_
        refine g_goto K d_c10_square_38 ?_
        refine g_sub (ls2 := [(0, .ref a0), (1, .int t6.1), (2, .int t6.2), (3, .int (x3 + (1 : Int32)))]) [1, 2, 3, 0] rfl ?_
        exact ih _ _ _ _ hy hE
      refine g_icmp_le K d_c10_square_27 (fun c5 => ?_) (fun c5 => ?_)
      · rw [if_pos c5] at e_t6
        refine g_sub (ls2 := [(0, .ref a0), (1, .int x1), (2, .int x2), (3, .int x3)]) [1, 2, 3, 4] rfl ?_
        obtain rfl := Option.some.inj e_t6
        exact hJ7
      · rw [if_neg c5] at e_t6
        refine g_iload K d_c10_square_30 0 rfl ?_
        refine g_istore_n (ls2 := [(1, .int q4), (4, .int q4), (0, .ref a0), (2, .int x2), (3, .int x3)]) K d_c10_square_32 rfl rfl ?_
        refine g_iload_n K d_c10_square_33 4 rfl ?_
        refine g_istore_n (ls2 := [(2, .int x3), (1, .int q4), (4, .int q4), (0, .ref a0), (3, .int x3)]) K d_c10_square_34 rfl rfl ?_
        refine g_sub (ls2 := [(0, .ref a0), (1, .int q4), (2, .int x3), (3, .int x3)]) [3, 1, 0, 4] rfl ?_
        obtain rfl := Option.some.inj e_t6
        exact hJ7
set_option maxHeartbeats 4000000 in
set_option maxRecDepth 100000 in
theorem ct_c10_square (l : Launch) (X : gX) (hx : gEx X = false) (N : Nat) (a0 : Nat) (h : gH) (q : Int32 × gH) (hy : f_c10_square N a0 h = some q) : gRc y_c10_square h a0 ∧ gMi l X y_c10_square b_c10_square 5 .int (3 + N) 0 0 [.ref a0] h q.1 q.2 := by
  unfold f_c10_square at hy
  obtain ⟨u0, e_u0, hy⟩ := gBd hy
  cases u0
  refine ⟨Or.inl ⟨10, _, _, e_u0, rfl⟩, gMet_i (lsx := [(0, .ref a0)]) (by decide) rfl rfl ?_⟩
  intro M hMl K hret
  subst hMl
  refine g_iconst (v := 0) K d_c10_square_0 (by decide) ?_
  refine g_istore_n (ls2 := [(1, .int (0 : Int32)), (0, .ref a0)]) K d_c10_square_1 rfl rfl ?_
  refine g_iconst (v := 0) K d_c10_square_2 (by decide) ?_
  refine g_istore_n (ls2 := [(2, .int (0 : Int32)), (1, .int (0 : Int32)), (0, .ref a0)]) K d_c10_square_3 rfl rfl ?_
  refine g_iconst (v := 0) K d_c10_square_4 (by decide) ?_
  refine g_istore_n (ls2 := [(3, .int (0 : Int32)), (2, .int (0 : Int32)), (1, .int (0 : Int32)), (0, .ref a0)]) K d_c10_square_5 rfl rfl ?_
  obtain ⟨o8, e_o8, hy⟩ := gBd hy
  refine g_sub (ls2 := [(0, .ref a0), (1, .int (0 : Int32)), (2, .int (0 : Int32)), (3, .int (0 : Int32))]) [3, 2, 1, 0] rfl ?_
  refine wlp_c10_square_6 hx K a0 h N (0 : Int32) (0 : Int32) (0 : Int32) o8 e_o8 ?_
  refine g_aload_n K d_c10_square_41 0 rfl ?_
  obtain ⟨v9, e_v9, hy⟩ := gBd hy
  refine g_getR K fl_c10_19 d_c10_square_42 e_v9 ?_
  obtain ⟨q10, e_q10, hy⟩ := gBd hy
  refine g_callVv (rest := []) K hx ly_c4_clear kv_c10_284 d_c10_square_45 (ct_c4_clear M.2.1 X hx N v9 h q10 e_q10) rfl rfl (Nat.le_of_ble_eq_true rfl) (gDep rfl) ⟨Nat.le_refl 0, Nat.le_refl 0⟩ ?_
  refine g_iload_n K d_c10_square_48 1 rfl ?_
  obtain ⟨t12, e_t12, hy⟩ := gBd hy
  have hJ13 : gG M X 5 0 0 61 [(1, .int o8.1)] [] t12 := by
    refine g_iload_n K d_c10_square_61 0 rfl ?_
    obtain rfl := Option.some.inj hy
    exact hret rfl _ _ _ d_c10_square_62
  refine g_if_le K d_c10_square_49 (fun c11 => ?_) (fun c11 => ?_)
  · rw [if_pos c11] at e_t12
    refine g_sub (ls2 := [(1, .int o8.1)]) [1] rfl ?_
    obtain rfl := Option.some.inj e_t12
    exact hJ13
  · rw [if_neg c11] at e_t12
    refine g_aload_n K d_c10_square_52 0 rfl ?_
    obtain ⟨v14, e_v14, e_t12⟩ := gBd e_t12
    refine g_getR K fl_c10_19 d_c10_square_53 e_v14 ?_
    refine g_iload_n K d_c10_square_56 2 rfl ?_
    refine g_i2l K d_c10_square_57 ?_
    obtain ⟨q15, e_q15, e_t12⟩ := gBd e_t12
    refine g_callVv (rest := []) K hx ly_c4_add kv_c10_290 d_c10_square_58 (ct_c4_add M.2.1 X hx N v14 o8.2.toInt64 q10 q15 e_q15) rfl rfl (Nat.le_of_ble_eq_true rfl) (gDep rfl) ⟨Nat.le_refl 0, Nat.le_refl 0⟩ ?_
    refine g_sub (ls2 := [(1, .int o8.1)]) [1] rfl ?_
    obtain rfl := Option.some.inj e_t12
    exact hJ13
-- c10 takenBehind
theorem d_c10_takenBehind_0 : gD b_c10_takenBehind 0 (.iconst (-1)) 1 1 := ⟨by decide +kernel, rfl⟩
theorem d_c10_takenBehind_1 : gD b_c10_takenBehind 1 (.istore_n 2) 1 2 := ⟨by decide +kernel, rfl⟩
theorem d_c10_takenBehind_2 : gD b_c10_takenBehind 2 (.iconst 0) 1 3 := ⟨by decide +kernel, rfl⟩
theorem d_c10_takenBehind_3 : gD b_c10_takenBehind 3 (.istore_n 3) 1 4 := ⟨by decide +kernel, rfl⟩
theorem d_c10_takenBehind_4 : gD b_c10_takenBehind 4 (.iload_n 3) 1 5 := ⟨by decide +kernel, rfl⟩
theorem d_c10_takenBehind_5 : gD b_c10_takenBehind 5 (.aload_n 0) 1 6 := ⟨by decide +kernel, rfl⟩
theorem d_c10_takenBehind_6 : gD b_c10_takenBehind 6 (.getfield 10) 3 9 := ⟨by decide +kernel, rfl⟩
theorem d_c10_takenBehind_9 : gD b_c10_takenBehind 9 (.getfield 100) 3 12 := ⟨by decide +kernel, rfl⟩
theorem d_c10_takenBehind_12 : gJ b_c10_takenBehind 12 (.if_icmp .ge 37) 3 37 15 49 := ⟨by decide +kernel, rfl, by decide⟩
theorem d_c10_takenBehind_15 : gD b_c10_takenBehind 15 (.aload_n 0) 1 16 := ⟨by decide +kernel, rfl⟩
theorem d_c10_takenBehind_16 : gD b_c10_takenBehind 16 (.getfield 10) 3 19 := ⟨by decide +kernel, rfl⟩
theorem d_c10_takenBehind_19 : gD b_c10_takenBehind 19 (.iload_n 3) 1 20 := ⟨by decide +kernel, rfl⟩
theorem d_c10_takenBehind_20 : gD b_c10_takenBehind 20 (.bipush 16) 2 22 := ⟨by decide +kernel, rfl⟩
theorem d_c10_takenBehind_22 : gD b_c10_takenBehind 22 (.invokevirtual 384) 3 25 := ⟨by decide +kernel, rfl⟩
theorem d_c10_takenBehind_25 : gD b_c10_takenBehind 25 (.istore 4) 2 27 := ⟨by decide +kernel, rfl⟩
theorem d_c10_takenBehind_27 : gD b_c10_takenBehind 27 (.iload 4) 2 29 := ⟨by decide +kernel, rfl⟩
theorem d_c10_takenBehind_29 : gD b_c10_takenBehind 29 (.iload_n 2) 1 30 := ⟨by decide +kernel, rfl⟩
theorem d_c10_takenBehind_30 : gJ b_c10_takenBehind 30 (.if_icmp .le 13) 3 13 33 43 := ⟨by decide +kernel, rfl, by decide⟩
theorem d_c10_takenBehind_33 : gD b_c10_takenBehind 33 (.iload_n 3) 1 34 := ⟨by decide +kernel, rfl⟩
theorem d_c10_takenBehind_34 : gD b_c10_takenBehind 34 (.iload_n 1) 1 35 := ⟨by decide +kernel, rfl⟩
theorem d_c10_takenBehind_35 : gJ b_c10_takenBehind 35 (.if_icmp .lt 5) 3 5 38 40 := ⟨by decide +kernel, rfl, by decide⟩
theorem d_c10_takenBehind_38 : gD b_c10_takenBehind 38 (.iload_n 3) 1 39 := ⟨by decide +kernel, rfl⟩
theorem d_c10_takenBehind_39 : gD b_c10_takenBehind 39 .ireturn 1 40 := ⟨by decide +kernel, rfl⟩
theorem d_c10_takenBehind_40 : gD b_c10_takenBehind 40 (.iload 4) 2 42 := ⟨by decide +kernel, rfl⟩
theorem d_c10_takenBehind_42 : gD b_c10_takenBehind 42 (.istore_n 2) 1 43 := ⟨by decide +kernel, rfl⟩
theorem d_c10_takenBehind_43 : gD b_c10_takenBehind 43 (.iinc 3 1) 3 46 := ⟨by decide +kernel, rfl⟩
theorem d_c10_takenBehind_46 : gJ b_c10_takenBehind 46 (.goto (-42)) 3 (-42) 49 4 := ⟨by decide +kernel, rfl, by decide⟩
theorem d_c10_takenBehind_49 : gD b_c10_takenBehind 49 (.aload_n 0) 1 50 := ⟨by decide +kernel, rfl⟩
theorem d_c10_takenBehind_50 : gD b_c10_takenBehind 50 (.getfield 10) 3 53 := ⟨by decide +kernel, rfl⟩
theorem d_c10_takenBehind_53 : gD b_c10_takenBehind 53 (.getfield 100) 3 56 := ⟨by decide +kernel, rfl⟩
theorem d_c10_takenBehind_56 : gD b_c10_takenBehind 56 (.iconst 1) 1 57 := ⟨by decide +kernel, rfl⟩
theorem d_c10_takenBehind_57 : gD b_c10_takenBehind 57 .isub 1 58 := ⟨by decide +kernel, rfl⟩
theorem d_c10_takenBehind_58 : gD b_c10_takenBehind 58 .ireturn 1 59 := ⟨by decide +kernel, rfl⟩
def lp_c10_takenBehind_4 (N : Nat) (a0 : Nat) (x1 : Int32) (h : gH) : Nat → Int32 → Int32 → Option ((Int32) ⊕ (Unit))
  | 0, _, _ => none
  | k + 1, x2, x3 =>
  (gfR h a0 10 0).bind fun v1 =>
    (gfI h v1 8 1).bind fun v2 =>
    if v2 ≤ x3 then
    some (.inr ())
  else
    (gfR h a0 10 0).bind fun v4 =>
    (f_c8_digit N v4 x3 (16 : Int32) h).bind fun q5 =>
    if q5 ≤ x2 then
    lp_c10_takenBehind_4 N a0 x1 h k x2 (x3 + (1 : Int32))
  else
    if x3 < x1 then
    lp_c10_takenBehind_4 N a0 x1 h k q5 (x3 + (1 : Int32))
  else
    some (.inl x3)
def f_c10_takenBehind (N : Nat) (a0 : Nat) (x1 : Int32) (h : gH) : Option (Int32) :=
  (gcl h a0 10).bind fun _ =>
  (lp_c10_takenBehind_4 N a0 x1 h N (-1 : Int32) (0 : Int32)).bind fun o8 => Sum.elim (fun r10 => some r10) (fun t9 =>
    (gfR h a0 10 0).bind fun v12 =>
    (gfI h v12 8 1).bind fun v13 =>
    some (v13 - (1 : Int32))) o8
set_option maxHeartbeats 4000000 in
set_option maxRecDepth 100000 in
theorem wlp_c10_takenBehind_4 {M : gM} {X : gX} {N : Nat} (hx : gEx X = false) (K : gC M X gN10 b_c10_takenBehind 5 (gRm (3 + N) 0 0)) (a0 : Nat) (x1 : Int32) (h : gH) : ∀ (k : Nat) (x2 : Int32) (x3 : Int32) (o : (Int32) ⊕ (Unit)), lp_c10_takenBehind_4 N a0 x1 h k x2 x3 = some o → (∀ t, o = .inr t → gG M X 5 0 0 49 [(0, .ref a0)] [] h) → (∀ r, o = .inl r → (narrow .int (.int r) = .int r → ∀ pc pc' ls, gD b_c10_takenBehind pc .ireturn 1 pc' → gG M X 5 0 0 pc ls [.int r] h)) → gG M X 5 0 0 4 [(0, .ref a0), (1, .int x1), (2, .int x2), (3, .int x3)] [] h := by
  intro k
  induction k with
  | zero =>
    intro x2 x3 o hy
    rw [lp_c10_takenBehind_4.eq_1] at hy
    cases hy
  | succ k ih =>
    intro x2 x3 o hy hE hR
    rw [lp_c10_takenBehind_4.eq_2] at hy
    refine g_iload_n K d_c10_takenBehind_4 3 rfl ?_
    refine g_aload_n K d_c10_takenBehind_5 0 rfl ?_
    obtain ⟨v1, e_v1, hy⟩ := gBd hy
    refine g_getR K fl_c10_10 d_c10_takenBehind_6 e_v1 ?_
    obtain ⟨v2, e_v2, hy⟩ := gBd hy
    refine g_getI K fl_c10_100 d_c10_takenBehind_9 e_v2 ?_
    refine g_icmp_ge K d_c10_takenBehind_12 (fun c3 => ?_) (fun c3 => ?_)
    · rw [if_pos c3] at hy
      refine g_sub (ls2 := [(0, .ref a0)]) [0] rfl ?_
      obtain rfl := Option.some.inj hy
      exact hE _ rfl
    · rw [if_neg c3] at hy
      refine g_aload_n K d_c10_takenBehind_15 0 rfl ?_
      obtain ⟨v4, e_v4, hy⟩ := gBd hy
      refine g_getR K fl_c10_10 d_c10_takenBehind_16 e_v4 ?_
      refine g_iload_n K d_c10_takenBehind_19 3 rfl ?_
      refine g_bipush (v := 16) K d_c10_takenBehind_20 (by decide) ?_
      obtain ⟨q5, e_q5, hy⟩ := gBd hy
      refine g_callVi (rest := []) K hx ly_c8_digit kv_c10_384 d_c10_takenBehind_22 (ct_c8_digit M.2.1 X hx N v4 x3 (16 : Int32) h q5 e_q5) rfl rfl (Nat.le_of_ble_eq_true rfl) (gDep rfl) ⟨Nat.le_refl 0, Nat.le_refl 0⟩ ?_
      refine g_istore (ls2 := [(4, .int q5), (0, .ref a0), (1, .int x1), (2, .int x2), (3, .int x3)]) K d_c10_takenBehind_25 rfl rfl ?_
      refine g_iload K d_c10_takenBehind_27 0 rfl ?_
      refine g_iload_n K d_c10_takenBehind_29 3 rfl ?_
      refine g_icmp_le K d_c10_takenBehind_30 (fun c6 => ?_) (fun c6 => ?_)
      · rw [if_pos c6] at hy
        refine g_iinc (ls2 := [(3, .int (x3 + (1 : Int32))), (4, .int q5), (0, .ref a0), (1, .int x1), (2, .int x2)]) (v := 1) K d_c10_takenBehind_43 4 rfl (by decide) rfl rfl ?_
        refine g_goto K d_c10_takenBehind_46 ?_
        refine g_sub (ls2 := [(0, .ref a0), (1, .int x1), (2, .int x2), (3, .int (x3 + (1 : Int32)))]) [2, 3, 4, 0] rfl ?_
        exact ih _ _ _ hy hE hR
      · rw [if_neg c6] at hy
        refine g_iload_n K d_c10_takenBehind_33 4 rfl ?_
        refine g_iload_n K d_c10_takenBehind_34 2 rfl ?_
        refine g_icmp_lt K d_c10_takenBehind_35 (fun c7 => ?_) (fun c7 => ?_)
        · rw [if_pos c7] at hy
          refine g_iload K d_c10_takenBehind_40 0 rfl ?_
          refine g_istore_n (ls2 := [(2, .int q5), (4, .int q5), (0, .ref a0), (1, .int x1), (3, .int x3)]) K d_c10_takenBehind_42 rfl rfl ?_
          refine g_iinc (ls2 := [(3, .int (x3 + (1 : Int32))), (2, .int q5), (4, .int q5), (0, .ref a0), (1, .int x1)]) (v := 1) K d_c10_takenBehind_43 4 rfl (by decide) rfl rfl ?_
          refine g_goto K d_c10_takenBehind_46 ?_
          refine g_sub (ls2 := [(0, .ref a0), (1, .int x1), (2, .int q5), (3, .int (x3 + (1 : Int32)))]) [3, 4, 1, 0] rfl ?_
          exact ih _ _ _ hy hE hR
        · rw [if_neg c7] at hy
          refine g_iload_n K d_c10_takenBehind_38 4 rfl ?_
          obtain rfl := Option.some.inj hy
          exact hR _ rfl rfl _ _ _ d_c10_takenBehind_39
set_option maxHeartbeats 4000000 in
set_option maxRecDepth 100000 in
theorem ct_c10_takenBehind (l : Launch) (X : gX) (hx : gEx X = false) (N : Nat) (a0 : Nat) (x1 : Int32) (h : gH) (q : Int32) (hy : f_c10_takenBehind N a0 x1 h = some q) : gRc y_c10_takenBehind h a0 ∧ gMi l X y_c10_takenBehind b_c10_takenBehind 5 .int (3 + N) 0 0 [.ref a0, .int x1] h q h := by
  unfold f_c10_takenBehind at hy
  obtain ⟨u0, e_u0, hy⟩ := gBd hy
  cases u0
  refine ⟨Or.inl ⟨10, _, _, e_u0, rfl⟩, gMet_i (lsx := [(0, .ref a0), (1, .int x1)]) (by decide) rfl rfl ?_⟩
  intro M hMl K hret
  subst hMl
  refine g_iconst (v := (-1)) K d_c10_takenBehind_0 (by decide) ?_
  refine g_istore_n (ls2 := [(2, .int (-1 : Int32)), (0, .ref a0), (1, .int x1)]) K d_c10_takenBehind_1 rfl rfl ?_
  refine g_iconst (v := 0) K d_c10_takenBehind_2 (by decide) ?_
  refine g_istore_n (ls2 := [(3, .int (0 : Int32)), (2, .int (-1 : Int32)), (0, .ref a0), (1, .int x1)]) K d_c10_takenBehind_3 rfl rfl ?_
  obtain ⟨o8, e_o8, hy⟩ := gBd hy
  refine g_sub (ls2 := [(0, .ref a0), (1, .int x1), (2, .int (-1 : Int32)), (3, .int (0 : Int32))]) [2, 3, 1, 0] rfl ?_
  refine wlp_c10_takenBehind_4 hx K a0 x1 h N (-1 : Int32) (0 : Int32) o8 e_o8 (fun t9 e_t9 => ?_) (fun r10 e_r10 => ?_)
  · subst e_t9
    simp only [Sum.elim_inr] at hy
    refine g_aload_n K d_c10_takenBehind_49 0 rfl ?_
    obtain ⟨v12, e_v12, hy⟩ := gBd hy
    refine g_getR K fl_c10_10 d_c10_takenBehind_50 e_v12 ?_
    obtain ⟨v13, e_v13, hy⟩ := gBd hy
    refine g_getI K fl_c10_100 d_c10_takenBehind_53 e_v13 ?_
    refine g_iconst (v := 1) K d_c10_takenBehind_56 (by decide) ?_
    refine g_isub K d_c10_takenBehind_57 ?_
    obtain rfl := Option.some.inj hy
    exact hret rfl _ _ _ d_c10_takenBehind_58
  · subst e_r10
    simp only [Sum.elim_inl] at hy
    intro hn pc9 pc9' ls9 hd9
    obtain rfl := Option.some.inj hy
    exact hret hn _ _ _ hd9
-- c10 tellTwo
theorem d_c10_tellTwo_0 : gD b_c10_tellTwo 0 (.aload_n 0) 1 1 := ⟨by decide +kernel, rfl⟩
theorem d_c10_tellTwo_1 : gD b_c10_tellTwo 1 (.iload_n 1) 1 2 := ⟨by decide +kernel, rfl⟩
theorem d_c10_tellTwo_2 : gD b_c10_tellTwo 2 (.lload_n 2) 1 3 := ⟨by decide +kernel, rfl⟩
theorem d_c10_tellTwo_3 : gD b_c10_tellTwo 3 (.invokevirtual 261) 3 6 := ⟨by decide +kernel, rfl⟩
theorem d_c10_tellTwo_6 : gD b_c10_tellTwo 6 .pop 1 7 := ⟨by decide +kernel, rfl⟩
theorem d_c10_tellTwo_7 : gD b_c10_tellTwo 7 (.aload_n 0) 1 8 := ⟨by decide +kernel, rfl⟩
theorem d_c10_tellTwo_8 : gD b_c10_tellTwo 8 (.getfield 19) 3 11 := ⟨by decide +kernel, rfl⟩
theorem d_c10_tellTwo_11 : gD b_c10_tellTwo 11 (.lload 4) 2 13 := ⟨by decide +kernel, rfl⟩
theorem d_c10_tellTwo_13 : gD b_c10_tellTwo 13 (.invokevirtual 290) 3 16 := ⟨by decide +kernel, rfl⟩
theorem d_c10_tellTwo_16 : gD b_c10_tellTwo 16 (.iload_n 1) 1 17 := ⟨by decide +kernel, rfl⟩
theorem d_c10_tellTwo_17 : gD b_c10_tellTwo 17 .ireturn 1 18 := ⟨by decide +kernel, rfl⟩
def f_c10_tellTwo (N : Nat) (a0 : Nat) (x1 : Int32) (y2 : Int64) (y4 : Int64) (h : gH) : Option (Int32 × gH) :=
  (gcl h a0 10).bind fun _ =>
  (f_c10_tellOne N a0 x1 y2 h).bind fun q1 =>
    (gfR q1.2 a0 10 1).bind fun v2 =>
    (f_c4_add N v2 y4 q1.2).bind fun q3 =>
    some (x1, q3)
set_option maxHeartbeats 4000000 in
set_option maxRecDepth 100000 in
theorem ct_c10_tellTwo (l : Launch) (X : gX) (hx : gEx X = false) (N : Nat) (a0 : Nat) (x1 : Int32) (y2 : Int64) (y4 : Int64) (h : gH) (q : Int32 × gH) (hy : f_c10_tellTwo N a0 x1 y2 y4 h = some q) : gRc y_c10_tellTwo h a0 ∧ gMi l X y_c10_tellTwo b_c10_tellTwo 6 .int (3 + N) 0 0 [.ref a0, .int x1, .long y2, .long y4] h q.1 q.2 := by
  unfold f_c10_tellTwo at hy
  obtain ⟨u0, e_u0, hy⟩ := gBd hy
  cases u0
  refine ⟨Or.inl ⟨10, _, _, e_u0, rfl⟩, gMet_i (lsx := [(0, .ref a0), (1, .int x1), (2, .long y2), (4, .long y4)]) (by decide) rfl rfl ?_⟩
  intro M hMl K hret
  subst hMl
  refine g_aload_n K d_c10_tellTwo_0 0 rfl ?_
  refine g_iload_n K d_c10_tellTwo_1 1 rfl ?_
  refine g_lload_n K d_c10_tellTwo_2 2 rfl ?_
  obtain ⟨q1, e_q1, hy⟩ := gBd hy
  refine g_callVi (rest := []) K hx ly_c10_tellOne kv_c10_261 d_c10_tellTwo_3 (ct_c10_tellOne M.2.1 X hx N a0 x1 y2 h q1 e_q1) rfl rfl (Nat.le_of_ble_eq_true rfl) (gDep rfl) ⟨Nat.le_refl 0, Nat.le_refl 0⟩ ?_
  refine g_pop K d_c10_tellTwo_6 rfl ?_
  refine g_aload_n K d_c10_tellTwo_7 0 rfl ?_
  obtain ⟨v2, e_v2, hy⟩ := gBd hy
  refine g_getR K fl_c10_19 d_c10_tellTwo_8 e_v2 ?_
  refine g_lload K d_c10_tellTwo_11 3 rfl ?_
  obtain ⟨q3, e_q3, hy⟩ := gBd hy
  refine g_callVv (rest := []) K hx ly_c4_add kv_c10_290 d_c10_tellTwo_13 (ct_c4_add M.2.1 X hx N v2 y4 q1.2 q3 e_q3) rfl rfl (Nat.le_of_ble_eq_true rfl) (gDep rfl) ⟨Nat.le_refl 0, Nat.le_refl 0⟩ ?_
  refine g_iload_n K d_c10_tellTwo_16 1 rfl ?_
  obtain rfl := Option.some.inj hy
  exact hret rfl _ _ _ d_c10_tellTwo_17
-- c11 ands
theorem d_c11_ands_0 : gD b_c11_ands 0 (.aload_n 0) 1 1 := ⟨by decide +kernel, rfl⟩
theorem d_c11_ands_1 : gD b_c11_ands 1 (.iconst 0) 1 2 := ⟨by decide +kernel, rfl⟩
theorem d_c11_ands_2 : gD b_c11_ands 2 (.putfield 95) 3 5 := ⟨by decide +kernel, rfl⟩
theorem d_c11_ands_5 : gD b_c11_ands 5 (.aload_n 0) 1 6 := ⟨by decide +kernel, rfl⟩
theorem d_c11_ands_6 : gD b_c11_ands 6 (.getfield 9) 3 9 := ⟨by decide +kernel, rfl⟩
theorem d_c11_ands_9 : gD b_c11_ands 9 (.iload_n 1) 1 10 := ⟨by decide +kernel, rfl⟩
theorem d_c11_ands_10 : gD b_c11_ands 10 (.invokestatic 287) 3 13 := ⟨by decide +kernel, rfl⟩
theorem d_c11_ands_13 : gD b_c11_ands 13 (.istore_n 2) 1 14 := ⟨by decide +kernel, rfl⟩
theorem d_c11_ands_14 : gD b_c11_ands 14 (.iload_n 2) 1 15 := ⟨by decide +kernel, rfl⟩
theorem d_c11_ands_15 : gJ b_c11_ands 15 (.ifCond .ge 5) 3 5 18 20 := ⟨by decide +kernel, rfl, by decide⟩
theorem d_c11_ands_18 : gD b_c11_ands 18 (.iload_n 2) 1 19 := ⟨by decide +kernel, rfl⟩
theorem d_c11_ands_19 : gD b_c11_ands 19 .ireturn 1 20 := ⟨by decide +kernel, rfl⟩
theorem d_c11_ands_20 : gD b_c11_ands 20 (.aload_n 0) 1 21 := ⟨by decide +kernel, rfl⟩
theorem d_c11_ands_21 : gD b_c11_ands 21 (.aload_n 0) 1 22 := ⟨by decide +kernel, rfl⟩
theorem d_c11_ands_22 : gD b_c11_ands 22 (.getfield 9) 3 25 := ⟨by decide +kernel, rfl⟩
theorem d_c11_ands_25 : gD b_c11_ands 25 (.invokevirtual 260) 3 28 := ⟨by decide +kernel, rfl⟩
theorem d_c11_ands_28 : gD b_c11_ands 28 (.aload_n 0) 1 29 := ⟨by decide +kernel, rfl⟩
theorem d_c11_ands_29 : gD b_c11_ands 29 (.getfield 9) 3 32 := ⟨by decide +kernel, rfl⟩
theorem d_c11_ands_32 : gD b_c11_ands 32 (.bipush 24) 2 34 := ⟨by decide +kernel, rfl⟩
theorem d_c11_ands_34 : gD b_c11_ands 34 (.iload_n 1) 1 35 := ⟨by decide +kernel, rfl⟩
theorem d_c11_ands_35 : gD b_c11_ands 35 .iadd 1 36 := ⟨by decide +kernel, rfl⟩
theorem d_c11_ands_36 : gD b_c11_ands 36 .dup2 1 37 := ⟨by decide +kernel, rfl⟩
theorem d_c11_ands_37 : gD b_c11_ands 37 .iaload 1 38 := ⟨by decide +kernel, rfl⟩
theorem d_c11_ands_38 : gD b_c11_ands 38 (.iconst 1) 1 39 := ⟨by decide +kernel, rfl⟩
theorem d_c11_ands_39 : gD b_c11_ands 39 .iadd 1 40 := ⟨by decide +kernel, rfl⟩
theorem d_c11_ands_40 : gD b_c11_ands 40 .iastore 1 41 := ⟨by decide +kernel, rfl⟩
theorem d_c11_ands_41 : gD b_c11_ands 41 (.aload_n 0) 1 42 := ⟨by decide +kernel, rfl⟩
theorem d_c11_ands_42 : gD b_c11_ands 42 (.getfield 9) 3 45 := ⟨by decide +kernel, rfl⟩
theorem d_c11_ands_45 : gD b_c11_ands 45 (.bipush 24) 2 47 := ⟨by decide +kernel, rfl⟩
theorem d_c11_ands_47 : gD b_c11_ands 47 (.iload_n 1) 1 48 := ⟨by decide +kernel, rfl⟩
theorem d_c11_ands_48 : gD b_c11_ands 48 .iadd 1 49 := ⟨by decide +kernel, rfl⟩
theorem d_c11_ands_49 : gD b_c11_ands 49 .iaload 1 50 := ⟨by decide +kernel, rfl⟩
theorem d_c11_ands_50 : gD b_c11_ands 50 .ireturn 1 51 := ⟨by decide +kernel, rfl⟩
def f_c11_ands (N : Nat) (a0 : Nat) (x1 : Int32) (h : gH) : Option (Int32 × gH) :=
  (gcl h a0 11).bind fun _ =>
  (sf h a0 11 10 (.int (0 : Int32))).bind fun h1 =>
    (gfR h1 a0 11 0).bind fun v2 =>
    (f_c11_refusesAnd N v2 x1 h1).bind fun q3 =>
    if 0 ≤ q3 then
    (gfR h1 a0 11 0).bind fun v5 =>
    (f_c11_remember N a0 v5 h1).bind fun q6 =>
    (gfR q6 a0 11 0).bind fun v7 =>
    (ga 0 q6 v7 ((24 : Int32) + x1)).bind fun v8 =>
    (sa 0 q6 v7 ((24 : Int32) + x1) (v8 + (1 : Int32))).bind fun h9 =>
    (gfR h9 a0 11 0).bind fun v10 =>
    (ga 0 h9 v10 ((24 : Int32) + x1)).bind fun v11 =>
    some (v11, h9)
  else
    some (q3, h1)
set_option maxHeartbeats 4000000 in
set_option maxRecDepth 100000 in
theorem ct_c11_ands (l : Launch) (X : gX) (hx : gEx X = false) (N : Nat) (a0 : Nat) (x1 : Int32) (h : gH) (q : Int32 × gH) (hy : f_c11_ands N a0 x1 h = some q) : gRc y_c11_ands h a0 ∧ gMi l X y_c11_ands b_c11_ands 3 .int (3 + N) 0 0 [.ref a0, .int x1] h q.1 q.2 := by
  unfold f_c11_ands at hy
  obtain ⟨u0, e_u0, hy⟩ := gBd hy
  cases u0
  refine ⟨Or.inl ⟨11, _, _, e_u0, rfl⟩, gMet_i (lsx := [(0, .ref a0), (1, .int x1)]) (by decide) rfl rfl ?_⟩
  intro M hMl K hret
  subst hMl
  refine g_aload_n K d_c11_ands_0 0 rfl ?_
  refine g_iconst (v := 0) K d_c11_ands_1 (by decide) ?_
  obtain ⟨h1, e_h1, hy⟩ := gBd hy
  refine g_putI K fp_c11_95 d_c11_ands_2 e_h1 ?_
  refine g_aload_n K d_c11_ands_5 0 rfl ?_
  obtain ⟨v2, e_v2, hy⟩ := gBd hy
  refine g_getR K fl_c11_9 d_c11_ands_6 e_v2 ?_
  refine g_iload_n K d_c11_ands_9 1 rfl ?_
  obtain ⟨q3, e_q3, hy⟩ := gBd hy
  refine g_callSi (rest := []) K hx ly_c11_refusesAnd ks_c11_287 d_c11_ands_10 (ct_c11_refusesAnd M.2.1 X hx N v2 x1 h1 q3 e_q3) rfl rfl (Nat.le_of_ble_eq_true rfl) (gDep rfl) ⟨Nat.le_refl 0, Nat.le_refl 0⟩ ?_
  refine g_istore_n (ls2 := [(2, .int q3), (0, .ref a0), (1, .int x1)]) K d_c11_ands_13 rfl rfl ?_
  refine g_iload_n K d_c11_ands_14 0 rfl ?_
  refine g_if_ge K d_c11_ands_15 (fun c4 => ?_) (fun c4 => ?_)
  · rw [if_pos c4] at hy
    refine g_aload_n K d_c11_ands_20 1 rfl ?_
    refine g_aload_n K d_c11_ands_21 1 rfl ?_
    obtain ⟨v5, e_v5, hy⟩ := gBd hy
    refine g_getR K fl_c11_9 d_c11_ands_22 e_v5 ?_
    obtain ⟨q6, e_q6, hy⟩ := gBd hy
    refine g_callVv (rest := []) K hx ly_c11_remember kv_c11_260 d_c11_ands_25 (ct_c11_remember M.2.1 X hx N a0 v5 h1 q6 e_q6) rfl rfl (Nat.le_of_ble_eq_true rfl) (gDep rfl) ⟨Nat.le_refl 0, Nat.le_refl 0⟩ ?_
    refine g_aload_n K d_c11_ands_28 1 rfl ?_
    obtain ⟨v7, e_v7, hy⟩ := gBd hy
    refine g_getR K fl_c11_9 d_c11_ands_29 e_v7 ?_
    refine g_bipush (v := 24) K d_c11_ands_32 (by decide) ?_
    refine g_iload_n K d_c11_ands_34 2 rfl ?_
    refine g_iadd K d_c11_ands_35 ?_
    refine g_dup2 K d_c11_ands_36 rfl rfl ?_
    obtain ⟨v8, e_v8, hy⟩ := gBd hy
    refine g_iald K d_c11_ands_37 e_v8 ?_
    refine g_iconst (v := 1) K d_c11_ands_38 (by decide) ?_
    refine g_iadd K d_c11_ands_39 ?_
    obtain ⟨h9, e_h9, hy⟩ := gBd hy
    refine g_iast K d_c11_ands_40 e_h9 ?_
    refine g_aload_n K d_c11_ands_41 1 rfl ?_
    obtain ⟨v10, e_v10, hy⟩ := gBd hy
    refine g_getR K fl_c11_9 d_c11_ands_42 e_v10 ?_
    refine g_bipush (v := 24) K d_c11_ands_45 (by decide) ?_
    refine g_iload_n K d_c11_ands_47 2 rfl ?_
    refine g_iadd K d_c11_ands_48 ?_
    obtain ⟨v11, e_v11, hy⟩ := gBd hy
    refine g_iald K d_c11_ands_49 e_v11 ?_
    obtain rfl := Option.some.inj hy
    exact hret rfl _ _ _ d_c11_ands_50
  · rw [if_neg c4] at hy
    refine g_iload_n K d_c11_ands_18 0 rfl ?_
    obtain rfl := Option.some.inj hy
    exact hret rfl _ _ _ d_c11_ands_19
-- c11 coveredBy
theorem d_c11_coveredBy_0 : gD b_c11_coveredBy 0 (.iconst 0) 1 1 := ⟨by decide +kernel, rfl⟩
theorem d_c11_coveredBy_1 : gD b_c11_coveredBy 1 (.istore_n 3) 1 2 := ⟨by decide +kernel, rfl⟩
theorem d_c11_coveredBy_2 : gD b_c11_coveredBy 2 (.iconst 0) 1 3 := ⟨by decide +kernel, rfl⟩
theorem d_c11_coveredBy_3 : gD b_c11_coveredBy 3 (.istore 4) 2 5 := ⟨by decide +kernel, rfl⟩
theorem d_c11_coveredBy_5 : gD b_c11_coveredBy 5 (.iload 4) 2 7 := ⟨by decide +kernel, rfl⟩
theorem d_c11_coveredBy_7 : gD b_c11_coveredBy 7 (.aload_n 0) 1 8 := ⟨by decide +kernel, rfl⟩
theorem d_c11_coveredBy_8 : gD b_c11_coveredBy 8 (.getfield 109) 3 11 := ⟨by decide +kernel, rfl⟩
theorem d_c11_coveredBy_11 : gJ b_c11_coveredBy 11 (.if_icmp .ge 36) 3 36 14 47 := ⟨by decide +kernel, rfl, by decide⟩
theorem d_c11_coveredBy_14 : gD b_c11_coveredBy 14 (.iload_n 3) 1 15 := ⟨by decide +kernel, rfl⟩
theorem d_c11_coveredBy_15 : gD b_c11_coveredBy 15 (.aload_n 0) 1 16 := ⟨by decide +kernel, rfl⟩
theorem d_c11_coveredBy_16 : gD b_c11_coveredBy 16 (.aload_n 0) 1 17 := ⟨by decide +kernel, rfl⟩
theorem d_c11_coveredBy_17 : gD b_c11_coveredBy 17 (.getfield 20) 3 20 := ⟨by decide +kernel, rfl⟩
theorem d_c11_coveredBy_20 : gD b_c11_coveredBy 20 (.iload 4) 2 22 := ⟨by decide +kernel, rfl⟩
theorem d_c11_coveredBy_22 : gD b_c11_coveredBy 22 .iaload 1 23 := ⟨by decide +kernel, rfl⟩
theorem d_c11_coveredBy_23 : gD b_c11_coveredBy 23 (.iload_n 1) 1 24 := ⟨by decide +kernel, rfl⟩
theorem d_c11_coveredBy_24 : gD b_c11_coveredBy 24 (.invokevirtual 220) 3 27 := ⟨by decide +kernel, rfl⟩
theorem d_c11_coveredBy_27 : gD b_c11_coveredBy 27 (.iload_n 2) 1 28 := ⟨by decide +kernel, rfl⟩
theorem d_c11_coveredBy_28 : gJ b_c11_coveredBy 28 (.if_icmp .gt 10) 3 10 31 38 := ⟨by decide +kernel, rfl, by decide⟩
theorem d_c11_coveredBy_31 : gD b_c11_coveredBy 31 (.iconst 1) 1 32 := ⟨by decide +kernel, rfl⟩
theorem d_c11_coveredBy_32 : gD b_c11_coveredBy 32 (.iload 4) 2 34 := ⟨by decide +kernel, rfl⟩
theorem d_c11_coveredBy_34 : gD b_c11_coveredBy 34 .ishl 1 35 := ⟨by decide +kernel, rfl⟩
theorem d_c11_coveredBy_35 : gJ b_c11_coveredBy 35 (.goto 4) 3 4 38 39 := ⟨by decide +kernel, rfl, by decide⟩
theorem d_c11_coveredBy_38 : gD b_c11_coveredBy 38 (.iconst 0) 1 39 := ⟨by decide +kernel, rfl⟩
theorem d_c11_coveredBy_39 : gD b_c11_coveredBy 39 .ior 1 40 := ⟨by decide +kernel, rfl⟩
theorem d_c11_coveredBy_40 : gD b_c11_coveredBy 40 (.istore_n 3) 1 41 := ⟨by decide +kernel, rfl⟩
theorem d_c11_coveredBy_41 : gD b_c11_coveredBy 41 (.iinc 4 1) 3 44 := ⟨by decide +kernel, rfl⟩
theorem d_c11_coveredBy_44 : gJ b_c11_coveredBy 44 (.goto (-39)) 3 (-39) 47 5 := ⟨by decide +kernel, rfl, by decide⟩
theorem d_c11_coveredBy_47 : gD b_c11_coveredBy 47 (.iload_n 3) 1 48 := ⟨by decide +kernel, rfl⟩
theorem d_c11_coveredBy_48 : gD b_c11_coveredBy 48 .ireturn 1 49 := ⟨by decide +kernel, rfl⟩
def lp_c11_coveredBy_5 (N : Nat) (a0 : Nat) (x1 : Int32) (x2 : Int32) (h : gH) : Nat → Int32 → Int32 → Option (Int32)
  | 0, _, _ => none
  | k + 1, x3, x4 =>
  (gfI h a0 11 3).bind fun v1 =>
    if v1 ≤ x4 then
    some x3
  else
    (gfR h a0 11 4).bind fun v3 =>
    (ga 0 h v3 x4).bind fun v4 =>
    (f_c11_farOf N a0 v4 x1 h).bind fun q5 =>
    lp_c11_coveredBy_5 N a0 x1 x2 h k (x3 ||| (if x2 < q5 then (0 : Int32) else (1 : Int32) <<< (x4 &&& 31))) (x4 + (1 : Int32))
def f_c11_coveredBy (N : Nat) (a0 : Nat) (x1 : Int32) (x2 : Int32) (h : gH) : Option (Int32) :=
  (gcl h a0 11).bind fun _ =>
  (lp_c11_coveredBy_5 N a0 x1 x2 h N (0 : Int32) (0 : Int32)).bind fun o9 =>
    some o9
set_option maxHeartbeats 4000000 in
set_option maxRecDepth 100000 in
theorem wlp_c11_coveredBy_5 {M : gM} {X : gX} {N : Nat} (hx : gEx X = false) (K : gC M X gN11 b_c11_coveredBy 5 (gRm (3 + N) 0 0)) (a0 : Nat) (x1 : Int32) (x2 : Int32) (h : gH) : ∀ (k : Nat) (x3 : Int32) (x4 : Int32) (o : Int32), lp_c11_coveredBy_5 N a0 x1 x2 h k x3 x4 = some o → gG M X 5 0 0 47 [(3, .int o)] [] h → gG M X 5 0 0 5 [(0, .ref a0), (1, .int x1), (2, .int x2), (3, .int x3), (4, .int x4)] [] h := by
  intro k
  induction k with
  | zero =>
    intro x3 x4 o hy
    rw [lp_c11_coveredBy_5.eq_1] at hy
    cases hy
  | succ k ih =>
    intro x3 x4 o hy hE
    rw [lp_c11_coveredBy_5.eq_2] at hy
    refine g_iload K d_c11_coveredBy_5 4 rfl ?_
    refine g_aload_n K d_c11_coveredBy_7 0 rfl ?_
    obtain ⟨v1, e_v1, hy⟩ := gBd hy
    refine g_getI K fl_c11_109 d_c11_coveredBy_8 e_v1 ?_
    refine g_icmp_ge K d_c11_coveredBy_11 (fun c2 => ?_) (fun c2 => ?_)
    · rw [if_pos c2] at hy
      refine g_sub (ls2 := [(3, .int x3)]) [3] rfl ?_
      obtain rfl := Option.some.inj hy
      exact hE
    · rw [if_neg c2] at hy
      refine g_iload_n K d_c11_coveredBy_14 3 rfl ?_
      refine g_aload_n K d_c11_coveredBy_15 0 rfl ?_
      refine g_aload_n K d_c11_coveredBy_16 0 rfl ?_
      obtain ⟨v3, e_v3, hy⟩ := gBd hy
      refine g_getR K fl_c11_20 d_c11_coveredBy_17 e_v3 ?_
      refine g_iload K d_c11_coveredBy_20 4 rfl ?_
      obtain ⟨v4, e_v4, hy⟩ := gBd hy
      refine g_iald K d_c11_coveredBy_22 e_v4 ?_
      refine g_iload_n K d_c11_coveredBy_23 1 rfl ?_
      obtain ⟨q5, e_q5, hy⟩ := gBd hy
      refine g_callVi (rest := [.int x3]) K hx ly_c11_farOf kv_c11_220 d_c11_coveredBy_24 (ct_c11_farOf M.2.1 X hx N a0 v4 x1 h q5 e_q5) rfl rfl (Nat.le_of_ble_eq_true rfl) (gDep rfl) ⟨Nat.le_refl 0, Nat.le_refl 0⟩ ?_
      refine g_iload_n K d_c11_coveredBy_27 2 rfl ?_
      have hJ8 : ∀ w7 : Int32, w7 = (if x2 < q5 then (0 : Int32) else (1 : Int32) <<< (x4 &&& 31)) → gG M X 5 0 0 39 [(0, .ref a0), (1, .int x1), (2, .int x2), (3, .int x3), (4, .int x4)] [.int w7, .int x3] h := by
        intro w7 e_w7
        subst e_w7
        refine g_ior K d_c11_coveredBy_39 ?_
        refine g_istore_n (ls2 := [(3, .int (x3 ||| (if x2 < q5 then (0 : Int32) else (1 : Int32) <<< (x4 &&& 31)))), (0, .ref a0), (1, .int x1), (2, .int x2), (4, .int x4)]) K d_c11_coveredBy_40 rfl rfl ?_
        refine g_iinc (ls2 := [(4, .int (x4 + (1 : Int32))), (3, .int (x3 ||| (if x2 < q5 then (0 : Int32) else (1 : Int32) <<< (x4 &&& 31)))), (0, .ref a0), (1, .int x1), (2, .int x2)]) (v := 1) K d_c11_coveredBy_41 4 rfl (by decide) rfl rfl ?_
        refine g_goto K d_c11_coveredBy_44 ?_
        refine g_sub (ls2 := [(0, .ref a0), (1, .int x1), (2, .int x2), (3, .int (x3 ||| (if x2 < q5 then (0 : Int32) else (1 : Int32) <<< (x4 &&& 31)))), (4, .int (x4 + (1 : Int32)))]) [2, 3, 4, 1, 0] rfl ?_
        exact ih _ _ _ hy hE
      refine g_icmp_gt K d_c11_coveredBy_28 (fun c6 => ?_) (fun c6 => ?_)
      · refine g_iconst (v := 0) K d_c11_coveredBy_38 (by decide) ?_
        exact hJ8 _ (by rw [if_pos c6])
      · refine g_iconst (v := 1) K d_c11_coveredBy_31 (by decide) ?_
        refine g_iload K d_c11_coveredBy_32 4 rfl ?_
        refine g_ishl K d_c11_coveredBy_34 ?_
        refine g_goto K d_c11_coveredBy_35 ?_
        exact hJ8 _ (by rw [if_neg c6])
set_option maxHeartbeats 4000000 in
set_option maxRecDepth 100000 in
theorem ct_c11_coveredBy (l : Launch) (X : gX) (hx : gEx X = false) (N : Nat) (a0 : Nat) (x1 : Int32) (x2 : Int32) (h : gH) (q : Int32) (hy : f_c11_coveredBy N a0 x1 x2 h = some q) : gRc y_c11_coveredBy h a0 ∧ gMi l X y_c11_coveredBy b_c11_coveredBy 5 .int (3 + N) 0 0 [.ref a0, .int x1, .int x2] h q h := by
  unfold f_c11_coveredBy at hy
  obtain ⟨u0, e_u0, hy⟩ := gBd hy
  cases u0
  refine ⟨Or.inl ⟨11, _, _, e_u0, rfl⟩, gMet_i (lsx := [(0, .ref a0), (1, .int x1), (2, .int x2)]) (by decide) rfl rfl ?_⟩
  intro M hMl K hret
  subst hMl
  refine g_iconst (v := 0) K d_c11_coveredBy_0 (by decide) ?_
  refine g_istore_n (ls2 := [(3, .int (0 : Int32)), (0, .ref a0), (1, .int x1), (2, .int x2)]) K d_c11_coveredBy_1 rfl rfl ?_
  refine g_iconst (v := 0) K d_c11_coveredBy_2 (by decide) ?_
  refine g_istore (ls2 := [(4, .int (0 : Int32)), (3, .int (0 : Int32)), (0, .ref a0), (1, .int x1), (2, .int x2)]) K d_c11_coveredBy_3 rfl rfl ?_
  obtain ⟨o9, e_o9, hy⟩ := gBd hy
  refine g_sub (ls2 := [(0, .ref a0), (1, .int x1), (2, .int x2), (3, .int (0 : Int32)), (4, .int (0 : Int32))]) [2, 3, 4, 1, 0] rfl ?_
  refine wlp_c11_coveredBy_5 hx K a0 x1 x2 h N (0 : Int32) (0 : Int32) o9 e_o9 ?_
  refine g_iload_n K d_c11_coveredBy_47 0 rfl ?_
  obtain rfl := Option.some.inj hy
  exact hret rfl _ _ _ d_c11_coveredBy_48
-- c11 isBest
theorem d_c11_isBest_0 : gD b_c11_isBest 0 (.iconst 0) 1 1 := ⟨by decide +kernel, rfl⟩
theorem d_c11_isBest_1 : gD b_c11_isBest 1 (.istore_n 3) 1 2 := ⟨by decide +kernel, rfl⟩
theorem d_c11_isBest_2 : gD b_c11_isBest 2 (.iload_n 3) 1 3 := ⟨by decide +kernel, rfl⟩
theorem d_c11_isBest_3 : gD b_c11_isBest 3 (.bipush 9) 2 5 := ⟨by decide +kernel, rfl⟩
theorem d_c11_isBest_5 : gJ b_c11_isBest 5 (.if_icmp .gt 26) 3 26 8 31 := ⟨by decide +kernel, rfl, by decide⟩
theorem d_c11_isBest_8 : gD b_c11_isBest 8 (.iload_n 3) 1 9 := ⟨by decide +kernel, rfl⟩
theorem d_c11_isBest_9 : gD b_c11_isBest 9 (.iload_n 1) 1 10 := ⟨by decide +kernel, rfl⟩
theorem d_c11_isBest_10 : gD b_c11_isBest 10 (.iload_n 2) 1 11 := ⟨by decide +kernel, rfl⟩
theorem d_c11_isBest_11 : gD b_c11_isBest 11 (.invokestatic 365) 3 14 := ⟨by decide +kernel, rfl⟩
theorem d_c11_isBest_14 : gD b_c11_isBest 14 (.iload_n 0) 1 15 := ⟨by decide +kernel, rfl⟩
theorem d_c11_isBest_15 : gD b_c11_isBest 15 (.iload_n 1) 1 16 := ⟨by decide +kernel, rfl⟩
theorem d_c11_isBest_16 : gD b_c11_isBest 16 (.iload_n 2) 1 17 := ⟨by decide +kernel, rfl⟩
theorem d_c11_isBest_17 : gD b_c11_isBest 17 (.invokestatic 365) 3 20 := ⟨by decide +kernel, rfl⟩
theorem d_c11_isBest_20 : gJ b_c11_isBest 20 (.if_icmp .le 5) 3 5 23 25 := ⟨by decide +kernel, rfl, by decide⟩
theorem d_c11_isBest_23 : gD b_c11_isBest 23 (.iconst 0) 1 24 := ⟨by decide +kernel, rfl⟩
theorem d_c11_isBest_24 : gD b_c11_isBest 24 .ireturn 1 25 := ⟨by decide +kernel, rfl⟩
theorem d_c11_isBest_25 : gD b_c11_isBest 25 (.iinc 3 1) 3 28 := ⟨by decide +kernel, rfl⟩
theorem d_c11_isBest_28 : gJ b_c11_isBest 28 (.goto (-26)) 3 (-26) 31 2 := ⟨by decide +kernel, rfl, by decide⟩
theorem d_c11_isBest_31 : gD b_c11_isBest 31 (.iconst 1) 1 32 := ⟨by decide +kernel, rfl⟩
theorem d_c11_isBest_32 : gD b_c11_isBest 32 .ireturn 1 33 := ⟨by decide +kernel, rfl⟩
def lp_c11_isBest_2 (N : Nat) (x0 : Int32) (x1 : Int32) (x2 : Int32) (h : gH) : Nat → Int32 → Option ((Int32) ⊕ (Unit))
  | 0, _ => none
  | k + 1, x3 =>
  if (9 : Int32) < x3 then
    some (.inr ())
  else
    (f_c11_gets N x3 x1 x2 h).bind fun q2 =>
    (f_c11_gets N x0 x1 x2 h).bind fun q3 =>
    if q2 ≤ q3 then
    lp_c11_isBest_2 N x0 x1 x2 h k (x3 + (1 : Int32))
  else
    (gZ (0 : Int32)).bind fun w5 => some (.inl w5)
def f_c11_isBest (N : Nat) (x0 : Int32) (x1 : Int32) (x2 : Int32) (h : gH) : Option (Int32) :=
  (lp_c11_isBest_2 N x0 x1 x2 h N (0 : Int32)).bind fun o6 => Sum.elim (fun r8 => some r8) (fun t7 =>
    (gZ (1 : Int32)).bind fun w10 => some w10) o6
set_option maxHeartbeats 4000000 in
set_option maxRecDepth 100000 in
theorem wlp_c11_isBest_2 {M : gM} {X : gX} {N : Nat} (hx : gEx X = false) (K : gC M X gN11 b_c11_isBest 4 (gRm (3 + N) 0 0)) (x0 : Int32) (x1 : Int32) (x2 : Int32) (h : gH) : ∀ (k : Nat) (x3 : Int32) (o : (Int32) ⊕ (Unit)), lp_c11_isBest_2 N x0 x1 x2 h k x3 = some o → (∀ t, o = .inr t → gG M X 4 0 0 31 [] [] h) → (∀ r, o = .inl r → (narrow .boolean (.int r) = .int r → ∀ pc pc' ls, gD b_c11_isBest pc .ireturn 1 pc' → gG M X 4 0 0 pc ls [.int r] h)) → gG M X 4 0 0 2 [(0, .int x0), (1, .int x1), (2, .int x2), (3, .int x3)] [] h := by
  intro k
  induction k with
  | zero =>
    intro x3 o hy
    rw [lp_c11_isBest_2.eq_1] at hy
    cases hy
  | succ k ih =>
    intro x3 o hy hE hR
    rw [lp_c11_isBest_2.eq_2] at hy
    refine g_iload_n K d_c11_isBest_2 3 rfl ?_
    refine g_bipush (v := 9) K d_c11_isBest_3 (by decide) ?_
    refine g_icmp_gt K d_c11_isBest_5 (fun c1 => ?_) (fun c1 => ?_)
    · rw [if_pos c1] at hy
      refine g_sub (ls2 := []) [] rfl ?_
      obtain rfl := Option.some.inj hy
      exact hE _ rfl
    · rw [if_neg c1] at hy
      refine g_iload_n K d_c11_isBest_8 3 rfl ?_
      refine g_iload_n K d_c11_isBest_9 1 rfl ?_
      refine g_iload_n K d_c11_isBest_10 2 rfl ?_
      obtain ⟨q2, e_q2, hy⟩ := gBd hy
      refine g_callSi (rest := []) K hx ly_c11_gets ks_c11_365 d_c11_isBest_11 (ct_c11_gets M.2.1 X hx N x3 x1 x2 h q2 e_q2) rfl rfl (Nat.le_of_ble_eq_true rfl) (gDep rfl) ⟨Nat.le_refl 0, Nat.le_refl 0⟩ ?_
      refine g_iload_n K d_c11_isBest_14 0 rfl ?_
      refine g_iload_n K d_c11_isBest_15 1 rfl ?_
      refine g_iload_n K d_c11_isBest_16 2 rfl ?_
      obtain ⟨q3, e_q3, hy⟩ := gBd hy
      refine g_callSi (rest := [.int q2]) K hx ly_c11_gets ks_c11_365 d_c11_isBest_17 (ct_c11_gets M.2.1 X hx N x0 x1 x2 h q3 e_q3) rfl rfl (Nat.le_of_ble_eq_true rfl) (gDep rfl) ⟨Nat.le_refl 0, Nat.le_refl 0⟩ ?_
      refine g_icmp_le K d_c11_isBest_20 (fun c4 => ?_) (fun c4 => ?_)
      · rw [if_pos c4] at hy
        refine g_iinc (ls2 := [(3, .int (x3 + (1 : Int32))), (0, .int x0), (1, .int x1), (2, .int x2)]) (v := 1) K d_c11_isBest_25 3 rfl (by decide) rfl rfl ?_
        refine g_goto K d_c11_isBest_28 ?_
        refine g_sub (ls2 := [(0, .int x0), (1, .int x1), (2, .int x2), (3, .int (x3 + (1 : Int32)))]) [1, 2, 3, 0] rfl ?_
        exact ih _ _ hy hE hR
      · rw [if_neg c4] at hy
        refine g_iconst (v := 0) K d_c11_isBest_23 (by decide) ?_
        obtain ⟨w5, e_w5, hy⟩ := gBd hy
        obtain ⟨z_w5, n_w5⟩ := gZ_spec e_w5
        rw [z_w5]
        obtain rfl := Option.some.inj hy
        exact hR _ rfl (gZn n_w5) _ _ _ d_c11_isBest_24
set_option maxHeartbeats 4000000 in
set_option maxRecDepth 100000 in
theorem ct_c11_isBest (l : Launch) (X : gX) (hx : gEx X = false) (N : Nat) (x0 : Int32) (x1 : Int32) (x2 : Int32) (h : gH) (q : Int32) (hy : f_c11_isBest N x0 x1 x2 h = some q) : gMi l X y_c11_isBest b_c11_isBest 4 .boolean (3 + N) 0 0 [.int x0, .int x1, .int x2] h q h := by
  unfold f_c11_isBest at hy
  refine gMet_i (lsx := [(0, .int x0), (1, .int x1), (2, .int x2)]) (by decide) rfl rfl ?_
  intro M hMl K hret
  subst hMl
  refine g_iconst (v := 0) K d_c11_isBest_0 (by decide) ?_
  refine g_istore_n (ls2 := [(3, .int (0 : Int32)), (0, .int x0), (1, .int x1), (2, .int x2)]) K d_c11_isBest_1 rfl rfl ?_
  obtain ⟨o6, e_o6, hy⟩ := gBd hy
  refine g_sub (ls2 := [(0, .int x0), (1, .int x1), (2, .int x2), (3, .int (0 : Int32))]) [1, 2, 3, 0] rfl ?_
  refine wlp_c11_isBest_2 hx K x0 x1 x2 h N (0 : Int32) o6 e_o6 (fun t7 e_t7 => ?_) (fun r8 e_r8 => ?_)
  · subst e_t7
    simp only [Sum.elim_inr] at hy
    refine g_iconst (v := 1) K d_c11_isBest_31 (by decide) ?_
    obtain ⟨w10, e_w10, hy⟩ := gBd hy
    obtain ⟨z_w10, n_w10⟩ := gZ_spec e_w10
    rw [z_w10]
    obtain rfl := Option.some.inj hy
    exact hret (gZn n_w10) _ _ _ d_c11_isBest_32
  · subst e_r8
    simp only [Sum.elim_inl] at hy
    intro hn pc9 pc9' ls9 hd9
    obtain rfl := Option.some.inj hy
    exact hret hn _ _ _ hd9
-- c11 isDry
theorem d_c11_isDry_0 : gD b_c11_isDry 0 (.iconst 0) 1 1 := ⟨by decide +kernel, rfl⟩
theorem d_c11_isDry_1 : gD b_c11_isDry 1 (.istore_n 3) 1 2 := ⟨by decide +kernel, rfl⟩
theorem d_c11_isDry_2 : gD b_c11_isDry 2 (.iload_n 3) 1 3 := ⟨by decide +kernel, rfl⟩
theorem d_c11_isDry_3 : gD b_c11_isDry 3 (.aload_n 0) 1 4 := ⟨by decide +kernel, rfl⟩
theorem d_c11_isDry_4 : gD b_c11_isDry 4 (.getfield 9) 3 7 := ⟨by decide +kernel, rfl⟩
theorem d_c11_isDry_7 : gD b_c11_isDry 7 (.bipush 40) 2 9 := ⟨by decide +kernel, rfl⟩
theorem d_c11_isDry_9 : gD b_c11_isDry 9 .iaload 1 10 := ⟨by decide +kernel, rfl⟩
theorem d_c11_isDry_10 : gJ b_c11_isDry 10 (.if_icmp .ge 26) 3 26 13 36 := ⟨by decide +kernel, rfl, by decide⟩
theorem d_c11_isDry_13 : gD b_c11_isDry 13 (.aload_n 0) 1 14 := ⟨by decide +kernel, rfl⟩
theorem d_c11_isDry_14 : gD b_c11_isDry 14 (.aload_n 0) 1 15 := ⟨by decide +kernel, rfl⟩
theorem d_c11_isDry_15 : gD b_c11_isDry 15 (.getfield 9) 3 18 := ⟨by decide +kernel, rfl⟩
theorem d_c11_isDry_18 : gD b_c11_isDry 18 (.iload_n 3) 1 19 := ⟨by decide +kernel, rfl⟩
theorem d_c11_isDry_19 : gD b_c11_isDry 19 .iaload 1 20 := ⟨by decide +kernel, rfl⟩
theorem d_c11_isDry_20 : gD b_c11_isDry 20 (.iload_n 1) 1 21 := ⟨by decide +kernel, rfl⟩
theorem d_c11_isDry_21 : gD b_c11_isDry 21 (.invokevirtual 220) 3 24 := ⟨by decide +kernel, rfl⟩
theorem d_c11_isDry_24 : gD b_c11_isDry 24 (.iload_n 2) 1 25 := ⟨by decide +kernel, rfl⟩
theorem d_c11_isDry_25 : gJ b_c11_isDry 25 (.if_icmp .gt 5) 3 5 28 30 := ⟨by decide +kernel, rfl, by decide⟩
theorem d_c11_isDry_28 : gD b_c11_isDry 28 (.iconst 0) 1 29 := ⟨by decide +kernel, rfl⟩
theorem d_c11_isDry_29 : gD b_c11_isDry 29 .ireturn 1 30 := ⟨by decide +kernel, rfl⟩
theorem d_c11_isDry_30 : gD b_c11_isDry 30 (.iinc 3 1) 3 33 := ⟨by decide +kernel, rfl⟩
theorem d_c11_isDry_33 : gJ b_c11_isDry 33 (.goto (-31)) 3 (-31) 36 2 := ⟨by decide +kernel, rfl, by decide⟩
theorem d_c11_isDry_36 : gD b_c11_isDry 36 (.iconst 1) 1 37 := ⟨by decide +kernel, rfl⟩
theorem d_c11_isDry_37 : gD b_c11_isDry 37 .ireturn 1 38 := ⟨by decide +kernel, rfl⟩
def lp_c11_isDry_2 (N : Nat) (a0 : Nat) (x1 : Int32) (x2 : Int32) (h : gH) : Nat → Int32 → Option ((Int32) ⊕ (Unit))
  | 0, _ => none
  | k + 1, x3 =>
  (gfR h a0 11 0).bind fun v1 =>
    (ga 0 h v1 (40 : Int32)).bind fun v2 =>
    if v2 ≤ x3 then
    some (.inr ())
  else
    (gfR h a0 11 0).bind fun v4 =>
    (ga 0 h v4 x3).bind fun v5 =>
    (f_c11_farOf N a0 v5 x1 h).bind fun q6 =>
    if x2 < q6 then
    lp_c11_isDry_2 N a0 x1 x2 h k (x3 + (1 : Int32))
  else
    (gZ (0 : Int32)).bind fun w8 => some (.inl w8)
def f_c11_isDry (N : Nat) (a0 : Nat) (x1 : Int32) (x2 : Int32) (h : gH) : Option (Int32) :=
  (gcl h a0 11).bind fun _ =>
  (lp_c11_isDry_2 N a0 x1 x2 h N (0 : Int32)).bind fun o9 => Sum.elim (fun r11 => some r11) (fun t10 =>
    (gZ (1 : Int32)).bind fun w13 => some w13) o9
set_option maxHeartbeats 4000000 in
set_option maxRecDepth 100000 in
theorem wlp_c11_isDry_2 {M : gM} {X : gX} {N : Nat} (hx : gEx X = false) (K : gC M X gN11 b_c11_isDry 4 (gRm (3 + N) 0 0)) (a0 : Nat) (x1 : Int32) (x2 : Int32) (h : gH) : ∀ (k : Nat) (x3 : Int32) (o : (Int32) ⊕ (Unit)), lp_c11_isDry_2 N a0 x1 x2 h k x3 = some o → (∀ t, o = .inr t → gG M X 4 0 0 36 [] [] h) → (∀ r, o = .inl r → (narrow .boolean (.int r) = .int r → ∀ pc pc' ls, gD b_c11_isDry pc .ireturn 1 pc' → gG M X 4 0 0 pc ls [.int r] h)) → gG M X 4 0 0 2 [(0, .ref a0), (1, .int x1), (2, .int x2), (3, .int x3)] [] h := by
  intro k
  induction k with
  | zero =>
    intro x3 o hy
    rw [lp_c11_isDry_2.eq_1] at hy
    cases hy
  | succ k ih =>
    intro x3 o hy hE hR
    rw [lp_c11_isDry_2.eq_2] at hy
    refine g_iload_n K d_c11_isDry_2 3 rfl ?_
    refine g_aload_n K d_c11_isDry_3 0 rfl ?_
    obtain ⟨v1, e_v1, hy⟩ := gBd hy
    refine g_getR K fl_c11_9 d_c11_isDry_4 e_v1 ?_
    refine g_bipush (v := 40) K d_c11_isDry_7 (by decide) ?_
    obtain ⟨v2, e_v2, hy⟩ := gBd hy
    refine g_iald K d_c11_isDry_9 e_v2 ?_
    refine g_icmp_ge K d_c11_isDry_10 (fun c3 => ?_) (fun c3 => ?_)
    · rw [if_pos c3] at hy
      refine g_sub (ls2 := []) [] rfl ?_
      obtain rfl := Option.some.inj hy
      exact hE _ rfl
    · rw [if_neg c3] at hy
      refine g_aload_n K d_c11_isDry_13 0 rfl ?_
      refine g_aload_n K d_c11_isDry_14 0 rfl ?_
      obtain ⟨v4, e_v4, hy⟩ := gBd hy
      refine g_getR K fl_c11_9 d_c11_isDry_15 e_v4 ?_
      refine g_iload_n K d_c11_isDry_18 3 rfl ?_
      obtain ⟨v5, e_v5, hy⟩ := gBd hy
      refine g_iald K d_c11_isDry_19 e_v5 ?_
      refine g_iload_n K d_c11_isDry_20 1 rfl ?_
      obtain ⟨q6, e_q6, hy⟩ := gBd hy
      refine g_callVi (rest := []) K hx ly_c11_farOf kv_c11_220 d_c11_isDry_21 (ct_c11_farOf M.2.1 X hx N a0 v5 x1 h q6 e_q6) rfl rfl (Nat.le_of_ble_eq_true rfl) (gDep rfl) ⟨Nat.le_refl 0, Nat.le_refl 0⟩ ?_
      refine g_iload_n K d_c11_isDry_24 2 rfl ?_
      refine g_icmp_gt K d_c11_isDry_25 (fun c7 => ?_) (fun c7 => ?_)
      · rw [if_pos c7] at hy
        refine g_iinc (ls2 := [(3, .int (x3 + (1 : Int32))), (0, .ref a0), (1, .int x1), (2, .int x2)]) (v := 1) K d_c11_isDry_30 3 rfl (by decide) rfl rfl ?_
        refine g_goto K d_c11_isDry_33 ?_
        refine g_sub (ls2 := [(0, .ref a0), (1, .int x1), (2, .int x2), (3, .int (x3 + (1 : Int32)))]) [1, 2, 3, 0] rfl ?_
        exact ih _ _ hy hE hR
      · rw [if_neg c7] at hy
        refine g_iconst (v := 0) K d_c11_isDry_28 (by decide) ?_
        obtain ⟨w8, e_w8, hy⟩ := gBd hy
        obtain ⟨z_w8, n_w8⟩ := gZ_spec e_w8
        rw [z_w8]
        obtain rfl := Option.some.inj hy
        exact hR _ rfl (gZn n_w8) _ _ _ d_c11_isDry_29
set_option maxHeartbeats 4000000 in
set_option maxRecDepth 100000 in
theorem ct_c11_isDry (l : Launch) (X : gX) (hx : gEx X = false) (N : Nat) (a0 : Nat) (x1 : Int32) (x2 : Int32) (h : gH) (q : Int32) (hy : f_c11_isDry N a0 x1 x2 h = some q) : gRc y_c11_isDry h a0 ∧ gMi l X y_c11_isDry b_c11_isDry 4 .boolean (3 + N) 0 0 [.ref a0, .int x1, .int x2] h q h := by
  unfold f_c11_isDry at hy
  obtain ⟨u0, e_u0, hy⟩ := gBd hy
  cases u0
  refine ⟨Or.inl ⟨11, _, _, e_u0, rfl⟩, gMet_i (lsx := [(0, .ref a0), (1, .int x1), (2, .int x2)]) (by decide) rfl rfl ?_⟩
  intro M hMl K hret
  subst hMl
  refine g_iconst (v := 0) K d_c11_isDry_0 (by decide) ?_
  refine g_istore_n (ls2 := [(3, .int (0 : Int32)), (0, .ref a0), (1, .int x1), (2, .int x2)]) K d_c11_isDry_1 rfl rfl ?_
  obtain ⟨o9, e_o9, hy⟩ := gBd hy
  refine g_sub (ls2 := [(0, .ref a0), (1, .int x1), (2, .int x2), (3, .int (0 : Int32))]) [1, 2, 3, 0] rfl ?_
  refine wlp_c11_isDry_2 hx K a0 x1 x2 h N (0 : Int32) o9 e_o9 (fun t10 e_t10 => ?_) (fun r11 e_r11 => ?_)
  · subst e_t10
    simp only [Sum.elim_inr] at hy
    refine g_iconst (v := 1) K d_c11_isDry_36 (by decide) ?_
    obtain ⟨w13, e_w13, hy⟩ := gBd hy
    obtain ⟨z_w13, n_w13⟩ := gZ_spec e_w13
    rw [z_w13]
    obtain rfl := Option.some.inj hy
    exact hret (gZn n_w13) _ _ _ d_c11_isDry_37
  · subst e_r11
    simp only [Sum.elim_inl] at hy
    intro hn pc9 pc9' ls9 hd9
    obtain rfl := Option.some.inj hy
    exact hret hn _ _ _ hd9
-- c11 laySteps
theorem d_c11_laySteps_0 : gD b_c11_laySteps 0 (.iconst 0) 1 1 := ⟨by decide +kernel, rfl⟩
theorem d_c11_laySteps_1 : gD b_c11_laySteps 1 (.istore_n 3) 1 2 := ⟨by decide +kernel, rfl⟩
theorem d_c11_laySteps_2 : gD b_c11_laySteps 2 (.iload_n 3) 1 3 := ⟨by decide +kernel, rfl⟩
theorem d_c11_laySteps_3 : gD b_c11_laySteps 3 (.bipush 8) 2 5 := ⟨by decide +kernel, rfl⟩
theorem d_c11_laySteps_5 : gJ b_c11_laySteps 5 (.if_icmp .ge 18) 3 18 8 23 := ⟨by decide +kernel, rfl, by decide⟩
theorem d_c11_laySteps_8 : gD b_c11_laySteps 8 (.aload_n 0) 1 9 := ⟨by decide +kernel, rfl⟩
theorem d_c11_laySteps_9 : gD b_c11_laySteps 9 (.getfield 70) 3 12 := ⟨by decide +kernel, rfl⟩
theorem d_c11_laySteps_12 : gD b_c11_laySteps 12 (.iload_n 3) 1 13 := ⟨by decide +kernel, rfl⟩
theorem d_c11_laySteps_13 : gD b_c11_laySteps 13 (.ldc_w 311) 3 16 := ⟨by decide +kernel, rfl⟩
theorem d_c11_laySteps_16 : gD b_c11_laySteps 16 .iastore 1 17 := ⟨by decide +kernel, rfl⟩
theorem d_c11_laySteps_17 : gD b_c11_laySteps 17 (.iinc 3 1) 3 20 := ⟨by decide +kernel, rfl⟩
theorem d_c11_laySteps_20 : gJ b_c11_laySteps 20 (.goto (-18)) 3 (-18) 23 2 := ⟨by decide +kernel, rfl, by decide⟩
theorem d_c11_laySteps_23 : gD b_c11_laySteps 23 (.aload_n 0) 1 24 := ⟨by decide +kernel, rfl⟩
theorem d_c11_laySteps_24 : gD b_c11_laySteps 24 (.getfield 70) 3 27 := ⟨by decide +kernel, rfl⟩
theorem d_c11_laySteps_27 : gD b_c11_laySteps 27 (.iload_n 1) 1 28 := ⟨by decide +kernel, rfl⟩
theorem d_c11_laySteps_28 : gD b_c11_laySteps 28 (.iconst 1) 1 29 := ⟨by decide +kernel, rfl⟩
theorem d_c11_laySteps_29 : gD b_c11_laySteps 29 .iastore 1 30 := ⟨by decide +kernel, rfl⟩
theorem d_c11_laySteps_30 : gD b_c11_laySteps 30 (.iconst 0) 1 31 := ⟨by decide +kernel, rfl⟩
theorem d_c11_laySteps_31 : gD b_c11_laySteps 31 (.istore_n 3) 1 32 := ⟨by decide +kernel, rfl⟩
theorem d_c11_laySteps_32 : gD b_c11_laySteps 32 (.iload_n 3) 1 33 := ⟨by decide +kernel, rfl⟩
theorem d_c11_laySteps_33 : gD b_c11_laySteps 33 (.aload_n 0) 1 34 := ⟨by decide +kernel, rfl⟩
theorem d_c11_laySteps_34 : gD b_c11_laySteps 34 (.getfield 9) 3 37 := ⟨by decide +kernel, rfl⟩
theorem d_c11_laySteps_37 : gD b_c11_laySteps 37 (.bipush 40) 2 39 := ⟨by decide +kernel, rfl⟩
theorem d_c11_laySteps_39 : gD b_c11_laySteps 39 .iaload 1 40 := ⟨by decide +kernel, rfl⟩
theorem d_c11_laySteps_40 : gJ b_c11_laySteps 40 (.if_icmp .ge 106) 3 106 43 146 := ⟨by decide +kernel, rfl, by decide⟩
theorem d_c11_laySteps_43 : gD b_c11_laySteps 43 (.iconst 0) 1 44 := ⟨by decide +kernel, rfl⟩
theorem d_c11_laySteps_44 : gD b_c11_laySteps 44 (.istore 4) 2 46 := ⟨by decide +kernel, rfl⟩
theorem d_c11_laySteps_46 : gD b_c11_laySteps 46 (.iload 4) 2 48 := ⟨by decide +kernel, rfl⟩
theorem d_c11_laySteps_48 : gD b_c11_laySteps 48 (.aload_n 0) 1 49 := ⟨by decide +kernel, rfl⟩
theorem d_c11_laySteps_49 : gD b_c11_laySteps 49 (.getfield 9) 3 52 := ⟨by decide +kernel, rfl⟩
theorem d_c11_laySteps_52 : gD b_c11_laySteps 52 (.bipush 40) 2 54 := ⟨by decide +kernel, rfl⟩
theorem d_c11_laySteps_54 : gD b_c11_laySteps 54 .iaload 1 55 := ⟨by decide +kernel, rfl⟩
theorem d_c11_laySteps_55 : gJ b_c11_laySteps 55 (.if_icmp .ge 85) 3 85 58 140 := ⟨by decide +kernel, rfl, by decide⟩
theorem d_c11_laySteps_58 : gD b_c11_laySteps 58 (.iconst 0) 1 59 := ⟨by decide +kernel, rfl⟩
theorem d_c11_laySteps_59 : gD b_c11_laySteps 59 (.istore 5) 2 61 := ⟨by decide +kernel, rfl⟩
theorem d_c11_laySteps_61 : gD b_c11_laySteps 61 (.iload 5) 2 63 := ⟨by decide +kernel, rfl⟩
theorem d_c11_laySteps_63 : gD b_c11_laySteps 63 (.aload_n 0) 1 64 := ⟨by decide +kernel, rfl⟩
theorem d_c11_laySteps_64 : gD b_c11_laySteps 64 (.getfield 9) 3 67 := ⟨by decide +kernel, rfl⟩
theorem d_c11_laySteps_67 : gD b_c11_laySteps 67 (.bipush 40) 2 69 := ⟨by decide +kernel, rfl⟩
theorem d_c11_laySteps_69 : gD b_c11_laySteps 69 .iaload 1 70 := ⟨by decide +kernel, rfl⟩
theorem d_c11_laySteps_70 : gJ b_c11_laySteps 70 (.if_icmp .ge 64) 3 64 73 134 := ⟨by decide +kernel, rfl, by decide⟩
theorem d_c11_laySteps_73 : gD b_c11_laySteps 73 (.iload 4) 2 75 := ⟨by decide +kernel, rfl⟩
theorem d_c11_laySteps_75 : gD b_c11_laySteps 75 (.iload 5) 2 77 := ⟨by decide +kernel, rfl⟩
theorem d_c11_laySteps_77 : gJ b_c11_laySteps 77 (.if_icmp .eq 51) 3 51 80 128 := ⟨by decide +kernel, rfl, by decide⟩
theorem d_c11_laySteps_80 : gD b_c11_laySteps 80 (.aload_n 0) 1 81 := ⟨by decide +kernel, rfl⟩
theorem d_c11_laySteps_81 : gD b_c11_laySteps 81 (.aload_n 0) 1 82 := ⟨by decide +kernel, rfl⟩
theorem d_c11_laySteps_82 : gD b_c11_laySteps 82 (.getfield 9) 3 85 := ⟨by decide +kernel, rfl⟩
theorem d_c11_laySteps_85 : gD b_c11_laySteps 85 (.iload 4) 2 87 := ⟨by decide +kernel, rfl⟩
theorem d_c11_laySteps_87 : gD b_c11_laySteps 87 .iaload 1 88 := ⟨by decide +kernel, rfl⟩
theorem d_c11_laySteps_88 : gD b_c11_laySteps 88 (.aload_n 0) 1 89 := ⟨by decide +kernel, rfl⟩
theorem d_c11_laySteps_89 : gD b_c11_laySteps 89 (.getfield 9) 3 92 := ⟨by decide +kernel, rfl⟩
theorem d_c11_laySteps_92 : gD b_c11_laySteps 92 (.iload 5) 2 94 := ⟨by decide +kernel, rfl⟩
theorem d_c11_laySteps_94 : gD b_c11_laySteps 94 .iaload 1 95 := ⟨by decide +kernel, rfl⟩
theorem d_c11_laySteps_95 : gD b_c11_laySteps 95 (.invokevirtual 220) 3 98 := ⟨by decide +kernel, rfl⟩
theorem d_c11_laySteps_98 : gD b_c11_laySteps 98 (.iload_n 2) 1 99 := ⟨by decide +kernel, rfl⟩
theorem d_c11_laySteps_99 : gJ b_c11_laySteps 99 (.if_icmp .gt 29) 3 29 102 128 := ⟨by decide +kernel, rfl, by decide⟩
theorem d_c11_laySteps_102 : gD b_c11_laySteps 102 (.aload_n 0) 1 103 := ⟨by decide +kernel, rfl⟩
theorem d_c11_laySteps_103 : gD b_c11_laySteps 103 (.getfield 70) 3 106 := ⟨by decide +kernel, rfl⟩
theorem d_c11_laySteps_106 : gD b_c11_laySteps 106 (.iload 4) 2 108 := ⟨by decide +kernel, rfl⟩
theorem d_c11_laySteps_108 : gD b_c11_laySteps 108 (.aload_n 0) 1 109 := ⟨by decide +kernel, rfl⟩
theorem d_c11_laySteps_109 : gD b_c11_laySteps 109 (.getfield 70) 3 112 := ⟨by decide +kernel, rfl⟩
theorem d_c11_laySteps_112 : gD b_c11_laySteps 112 (.iload 4) 2 114 := ⟨by decide +kernel, rfl⟩
theorem d_c11_laySteps_114 : gD b_c11_laySteps 114 .iaload 1 115 := ⟨by decide +kernel, rfl⟩
theorem d_c11_laySteps_115 : gD b_c11_laySteps 115 (.aload_n 0) 1 116 := ⟨by decide +kernel, rfl⟩
theorem d_c11_laySteps_116 : gD b_c11_laySteps 116 (.getfield 70) 3 119 := ⟨by decide +kernel, rfl⟩
theorem d_c11_laySteps_119 : gD b_c11_laySteps 119 (.iload 5) 2 121 := ⟨by decide +kernel, rfl⟩
theorem d_c11_laySteps_121 : gD b_c11_laySteps 121 .iaload 1 122 := ⟨by decide +kernel, rfl⟩
theorem d_c11_laySteps_122 : gD b_c11_laySteps 122 (.iconst 1) 1 123 := ⟨by decide +kernel, rfl⟩
theorem d_c11_laySteps_123 : gD b_c11_laySteps 123 .iadd 1 124 := ⟨by decide +kernel, rfl⟩
theorem d_c11_laySteps_124 : gD b_c11_laySteps 124 (.invokestatic 224) 3 127 := ⟨by decide +kernel, rfl⟩
theorem d_c11_laySteps_127 : gD b_c11_laySteps 127 .iastore 1 128 := ⟨by decide +kernel, rfl⟩
theorem d_c11_laySteps_128 : gD b_c11_laySteps 128 (.iinc 5 1) 3 131 := ⟨by decide +kernel, rfl⟩
theorem d_c11_laySteps_131 : gJ b_c11_laySteps 131 (.goto (-70)) 3 (-70) 134 61 := ⟨by decide +kernel, rfl, by decide⟩
theorem d_c11_laySteps_134 : gD b_c11_laySteps 134 (.iinc 4 1) 3 137 := ⟨by decide +kernel, rfl⟩
theorem d_c11_laySteps_137 : gJ b_c11_laySteps 137 (.goto (-91)) 3 (-91) 140 46 := ⟨by decide +kernel, rfl, by decide⟩
theorem d_c11_laySteps_140 : gD b_c11_laySteps 140 (.iinc 3 1) 3 143 := ⟨by decide +kernel, rfl⟩
theorem d_c11_laySteps_143 : gJ b_c11_laySteps 143 (.goto (-111)) 3 (-111) 146 32 := ⟨by decide +kernel, rfl, by decide⟩
theorem d_c11_laySteps_146 : gD b_c11_laySteps 146 .return_ 1 147 := ⟨by decide +kernel, rfl⟩
def lp_c11_laySteps_2 (N : Nat) (a0 : Nat) : Nat → Int32 → gH → Option (gH)
  | 0, _, _ => none
  | k + 1, x3, h =>
  if (8 : Int32) ≤ x3 then
    some h
  else
    (gfR h a0 11 31).bind fun v2 =>
    (sa 0 h v2 x3 (1000000 : Int32)).bind fun h3 =>
    lp_c11_laySteps_2 N a0 k (x3 + (1 : Int32)) h3
def lp_c11_laySteps_61 (N : Nat) (a0 : Nat) (x2 : Int32) (x4 : Int32) : Nat → Int32 → gH → Option (gH)
  | 0, _, _ => none
  | k + 1, x5, h =>
  (gfR h a0 11 0).bind fun v13 =>
    (ga 0 h v13 (40 : Int32)).bind fun v14 =>
    if v14 ≤ x5 then
    some h
  else
    (show Option (gH) from if x4 = x5 then
    some h
  else
    (gfR h a0 11 0).bind fun v19 =>
    (ga 0 h v19 x4).bind fun v20 =>
    (gfR h a0 11 0).bind fun v21 =>
    (ga 0 h v21 x5).bind fun v22 =>
    (f_c11_farOf N a0 v20 v22 h).bind fun q23 =>
    if x2 < q23 then
    some h
  else
    (gfR h a0 11 31).bind fun v25 =>
    (gfR h a0 11 31).bind fun v26 =>
    (ga 0 h v26 x4).bind fun v27 =>
    (gfR h a0 11 31).bind fun v28 =>
    (ga 0 h v28 x5).bind fun v29 =>
    (sa 0 h v25 x4 (gmin v27 (v29 + (1 : Int32)))).bind fun h30 =>
    some h30).bind fun t17 =>
    lp_c11_laySteps_61 N a0 x2 x4 k (x5 + (1 : Int32)) t17
def lp_c11_laySteps_46 (N : Nat) (a0 : Nat) (x2 : Int32) : Nat → Int32 → gH → Option (gH)
  | 0, _, _ => none
  | k + 1, x4, h =>
  (gfR h a0 11 0).bind fun v10 =>
    (ga 0 h v10 (40 : Int32)).bind fun v11 =>
    if v11 ≤ x4 then
    some h
  else
    (lp_c11_laySteps_61 N a0 x2 x4 N (0 : Int32) h).bind fun o31 =>
    lp_c11_laySteps_46 N a0 x2 k (x4 + (1 : Int32)) o31
def lp_c11_laySteps_32 (N : Nat) (a0 : Nat) (x2 : Int32) : Nat → Int32 → gH → Option (gH)
  | 0, _, _ => none
  | k + 1, x3, h =>
  (gfR h a0 11 0).bind fun v7 =>
    (ga 0 h v7 (40 : Int32)).bind fun v8 =>
    if v8 ≤ x3 then
    some h
  else
    (lp_c11_laySteps_46 N a0 x2 N (0 : Int32) h).bind fun o32 =>
    lp_c11_laySteps_32 N a0 x2 k (x3 + (1 : Int32)) o32
def f_c11_laySteps (N : Nat) (a0 : Nat) (x1 : Int32) (x2 : Int32) (h : gH) : Option (gH) :=
  (gcl h a0 11).bind fun _ =>
  (lp_c11_laySteps_2 N a0 N (0 : Int32) h).bind fun o4 =>
    (gfR o4 a0 11 31).bind fun v5 =>
    (sa 0 o4 v5 x1 (1 : Int32)).bind fun h6 =>
    (lp_c11_laySteps_32 N a0 x2 N (0 : Int32) h6).bind fun o33 =>
    some o33
set_option maxHeartbeats 4000000 in
set_option maxRecDepth 100000 in
theorem wlp_c11_laySteps_2 {M : gM} {X : gX} {N : Nat} (hx : gEx X = false) (K : gC M X gN11 b_c11_laySteps 6 (gRm (3 + N) 0 0)) (a0 : Nat) (x1 : Int32) (x2 : Int32) : ∀ (k : Nat) (x3 : Int32) (h : gH) (o : gH), lp_c11_laySteps_2 N a0 k x3 h = some o → gG M X 6 0 0 23 [(0, .ref a0), (1, .int x1), (2, .int x2)] [] o → gG M X 6 0 0 2 [(0, .ref a0), (1, .int x1), (2, .int x2), (3, .int x3)] [] h := by
  intro k
  induction k with
  | zero =>
    intro x3 h o hy
    rw [lp_c11_laySteps_2.eq_1] at hy
    cases hy
  | succ k ih =>
    intro x3 h o hy hE
    rw [lp_c11_laySteps_2.eq_2] at hy
    refine g_iload_n K d_c11_laySteps_2 3 rfl ?_
    refine g_bipush (v := 8) K d_c11_laySteps_3 (by decide) ?_
    refine g_icmp_ge K d_c11_laySteps_5 (fun c1 => ?_) (fun c1 => ?_)
    · rw [if_pos c1] at hy
      refine g_sub (ls2 := [(0, .ref a0), (1, .int x1), (2, .int x2)]) [0, 1, 2] rfl ?_
      obtain rfl := Option.some.inj hy
      exact hE
    · rw [if_neg c1] at hy
      refine g_aload_n K d_c11_laySteps_8 0 rfl ?_
      obtain ⟨v2, e_v2, hy⟩ := gBd hy
      refine g_getR K fl_c11_70 d_c11_laySteps_9 e_v2 ?_
      refine g_iload_n K d_c11_laySteps_12 3 rfl ?_
      refine g_ldcw (v := 1000000) K d_c11_laySteps_13 (gTk_7 44 rfl rfl) ?_
      obtain ⟨h3, e_h3, hy⟩ := gBd hy
      refine g_iast K d_c11_laySteps_16 e_h3 ?_
      refine g_iinc (ls2 := [(3, .int (x3 + (1 : Int32))), (0, .ref a0), (1, .int x1), (2, .int x2)]) (v := 1) K d_c11_laySteps_17 3 rfl (by decide) rfl rfl ?_
      refine g_goto K d_c11_laySteps_20 ?_
      refine g_sub (ls2 := [(0, .ref a0), (1, .int x1), (2, .int x2), (3, .int (x3 + (1 : Int32)))]) [1, 2, 3, 0] rfl ?_
      exact ih _ _ _ hy hE
set_option maxHeartbeats 4000000 in
set_option maxRecDepth 100000 in
theorem wlp_c11_laySteps_61 {M : gM} {X : gX} {N : Nat} (hx : gEx X = false) (K : gC M X gN11 b_c11_laySteps 6 (gRm (3 + N) 0 0)) (a0 : Nat) (x2 : Int32) (x4 : Int32) (x3 : Int32) : ∀ (k : Nat) (x5 : Int32) (h : gH) (o : gH), lp_c11_laySteps_61 N a0 x2 x4 k x5 h = some o → gG M X 6 0 0 134 [(0, .ref a0), (2, .int x2), (3, .int x3), (4, .int x4)] [] o → gG M X 6 0 0 61 [(0, .ref a0), (2, .int x2), (3, .int x3), (4, .int x4), (5, .int x5)] [] h := by
  intro k
  induction k with
  | zero =>
    intro x5 h o hy
    rw [lp_c11_laySteps_61.eq_1] at hy
    cases hy
  | succ k ih =>
    intro x5 h o hy hE
    rw [lp_c11_laySteps_61.eq_2] at hy
    refine g_iload K d_c11_laySteps_61 4 rfl ?_
    refine g_aload_n K d_c11_laySteps_63 0 rfl ?_
    obtain ⟨v13, e_v13, hy⟩ := gBd hy
    refine g_getR K fl_c11_9 d_c11_laySteps_64 e_v13 ?_
    refine g_bipush (v := 40) K d_c11_laySteps_67 (by decide) ?_
    obtain ⟨v14, e_v14, hy⟩ := gBd hy
    refine g_iald K d_c11_laySteps_69 e_v14 ?_
    refine g_icmp_ge K d_c11_laySteps_70 (fun c15 => ?_) (fun c15 => ?_)
    · rw [if_pos c15] at hy
      refine g_sub (ls2 := [(0, .ref a0), (2, .int x2), (3, .int x3), (4, .int x4)]) [0, 1, 2, 3] rfl ?_
      obtain rfl := Option.some.inj hy
      exact hE
    · rw [if_neg c15] at hy
      refine g_iload K d_c11_laySteps_73 3 rfl ?_
      refine g_iload K d_c11_laySteps_75 4 rfl ?_
      obtain ⟨t17, e_t17, hy⟩ := gBd hy
      have hJ18 : gG M X 6 0 0 128 [(0, .ref a0), (2, .int x2), (3, .int x3), (4, .int x4), (5, .int x5)] [] t17 := by
        refine g_iinc (ls2 := [(5, .int (x5 + (1 : Int32))), (0, .ref a0), (2, .int x2), (3, .int x3), (4, .int x4)]) (v := 1) K d_c11_laySteps_128 4 rfl (by decide) rfl rfl ?_
        refine g_goto K d_c11_laySteps_131 ?_
        refine g_sub (ls2 := [(0, .ref a0), (2, .int x2), (3, .int x3), (4, .int x4), (5, .int (x5 + (1 : Int32)))]) [1, 2, 3, 4, 0] rfl ?_
        exact ih _ _ _ hy hE
      refine g_icmp_eq K d_c11_laySteps_77 (fun c16 => ?_) (fun c16 => ?_)
      · rw [if_pos c16] at e_t17
        obtain rfl := Option.some.inj e_t17
        exact hJ18
      · rw [if_neg c16] at e_t17
        refine g_aload_n K d_c11_laySteps_80 0 rfl ?_
        refine g_aload_n K d_c11_laySteps_81 0 rfl ?_
        obtain ⟨v19, e_v19, e_t17⟩ := gBd e_t17
        refine g_getR K fl_c11_9 d_c11_laySteps_82 e_v19 ?_
        refine g_iload K d_c11_laySteps_85 3 rfl ?_
        obtain ⟨v20, e_v20, e_t17⟩ := gBd e_t17
        refine g_iald K d_c11_laySteps_87 e_v20 ?_
        refine g_aload_n K d_c11_laySteps_88 0 rfl ?_
        obtain ⟨v21, e_v21, e_t17⟩ := gBd e_t17
        refine g_getR K fl_c11_9 d_c11_laySteps_89 e_v21 ?_
        refine g_iload K d_c11_laySteps_92 4 rfl ?_
        obtain ⟨v22, e_v22, e_t17⟩ := gBd e_t17
        refine g_iald K d_c11_laySteps_94 e_v22 ?_
        obtain ⟨q23, e_q23, e_t17⟩ := gBd e_t17
        refine g_callVi (rest := []) K hx ly_c11_farOf kv_c11_220 d_c11_laySteps_95 (ct_c11_farOf M.2.1 X hx N a0 v20 v22 h q23 e_q23) rfl rfl (Nat.le_of_ble_eq_true rfl) (gDep rfl) ⟨Nat.le_refl 0, Nat.le_refl 0⟩ ?_
        refine g_iload_n K d_c11_laySteps_98 1 rfl ?_
        refine g_icmp_gt K d_c11_laySteps_99 (fun c24 => ?_) (fun c24 => ?_)
        · rw [if_pos c24] at e_t17
          obtain rfl := Option.some.inj e_t17
          exact hJ18
        · rw [if_neg c24] at e_t17
          refine g_aload_n K d_c11_laySteps_102 0 rfl ?_
          obtain ⟨v25, e_v25, e_t17⟩ := gBd e_t17
          refine g_getR K fl_c11_70 d_c11_laySteps_103 e_v25 ?_
          refine g_iload K d_c11_laySteps_106 3 rfl ?_
          refine g_aload_n K d_c11_laySteps_108 0 rfl ?_
          obtain ⟨v26, e_v26, e_t17⟩ := gBd e_t17
          refine g_getR K fl_c11_70 d_c11_laySteps_109 e_v26 ?_
          refine g_iload K d_c11_laySteps_112 3 rfl ?_
          obtain ⟨v27, e_v27, e_t17⟩ := gBd e_t17
          refine g_iald K d_c11_laySteps_114 e_v27 ?_
          refine g_aload_n K d_c11_laySteps_115 0 rfl ?_
          obtain ⟨v28, e_v28, e_t17⟩ := gBd e_t17
          refine g_getR K fl_c11_70 d_c11_laySteps_116 e_v28 ?_
          refine g_iload K d_c11_laySteps_119 4 rfl ?_
          obtain ⟨v29, e_v29, e_t17⟩ := gBd e_t17
          refine g_iald K d_c11_laySteps_121 e_v29 ?_
          refine g_iconst (v := 1) K d_c11_laySteps_122 (by decide) ?_
          refine g_iadd K d_c11_laySteps_123 ?_
          refine g_mmin K d_c11_laySteps_124 (gTk_6 130 rfl rfl) (gTk_2 41 rfl rfl) (gTk_1 12 rfl rfl) (gTk_2 42 rfl rfl) (gDep1 rfl) (Nat.le_of_ble_eq_true rfl) ⟨Nat.le_refl 0, Nat.le_refl 0⟩ ?_
          obtain ⟨h30, e_h30, e_t17⟩ := gBd e_t17
          refine g_iast K d_c11_laySteps_127 e_h30 ?_
          obtain rfl := Option.some.inj e_t17
          exact hJ18
set_option maxHeartbeats 4000000 in
set_option maxRecDepth 100000 in
theorem wlp_c11_laySteps_46 {M : gM} {X : gX} {N : Nat} (hx : gEx X = false) (K : gC M X gN11 b_c11_laySteps 6 (gRm (3 + N) 0 0)) (a0 : Nat) (x2 : Int32) (x3 : Int32) : ∀ (k : Nat) (x4 : Int32) (h : gH) (o : gH), lp_c11_laySteps_46 N a0 x2 k x4 h = some o → gG M X 6 0 0 140 [(0, .ref a0), (2, .int x2), (3, .int x3)] [] o → gG M X 6 0 0 46 [(0, .ref a0), (2, .int x2), (3, .int x3), (4, .int x4)] [] h := by
  intro k
  induction k with
  | zero =>
    intro x4 h o hy
    rw [lp_c11_laySteps_46.eq_1] at hy
    cases hy
  | succ k ih =>
    intro x4 h o hy hE
    rw [lp_c11_laySteps_46.eq_2] at hy
    refine g_iload K d_c11_laySteps_46 3 rfl ?_
    refine g_aload_n K d_c11_laySteps_48 0 rfl ?_
    obtain ⟨v10, e_v10, hy⟩ := gBd hy
    refine g_getR K fl_c11_9 d_c11_laySteps_49 e_v10 ?_
    refine g_bipush (v := 40) K d_c11_laySteps_52 (by decide) ?_
    obtain ⟨v11, e_v11, hy⟩ := gBd hy
    refine g_iald K d_c11_laySteps_54 e_v11 ?_
    refine g_icmp_ge K d_c11_laySteps_55 (fun c12 => ?_) (fun c12 => ?_)
    · rw [if_pos c12] at hy
      refine g_sub (ls2 := [(0, .ref a0), (2, .int x2), (3, .int x3)]) [0, 1, 2] rfl ?_
      obtain rfl := Option.some.inj hy
      exact hE
    · rw [if_neg c12] at hy
      refine g_iconst (v := 0) K d_c11_laySteps_58 (by decide) ?_
      refine g_istore (ls2 := [(5, .int (0 : Int32)), (0, .ref a0), (2, .int x2), (3, .int x3), (4, .int x4)]) K d_c11_laySteps_59 rfl rfl ?_
      obtain ⟨o31, e_o31, hy⟩ := gBd hy
      refine g_sub (ls2 := [(0, .ref a0), (2, .int x2), (3, .int x3), (4, .int x4), (5, .int (0 : Int32))]) [1, 2, 3, 4, 0] rfl ?_
      refine wlp_c11_laySteps_61 hx K a0 x2 x4 x3 N (0 : Int32) h o31 e_o31 ?_
      refine g_iinc (ls2 := [(4, .int (x4 + (1 : Int32))), (0, .ref a0), (2, .int x2), (3, .int x3)]) (v := 1) K d_c11_laySteps_134 3 rfl (by decide) rfl rfl ?_
      refine g_goto K d_c11_laySteps_137 ?_
      refine g_sub (ls2 := [(0, .ref a0), (2, .int x2), (3, .int x3), (4, .int (x4 + (1 : Int32)))]) [1, 2, 3, 0] rfl ?_
      exact ih _ _ _ hy hE
set_option maxHeartbeats 4000000 in
set_option maxRecDepth 100000 in
theorem wlp_c11_laySteps_32 {M : gM} {X : gX} {N : Nat} (hx : gEx X = false) (K : gC M X gN11 b_c11_laySteps 6 (gRm (3 + N) 0 0)) (a0 : Nat) (x2 : Int32) : ∀ (k : Nat) (x3 : Int32) (h : gH) (o : gH), lp_c11_laySteps_32 N a0 x2 k x3 h = some o → gG M X 6 0 0 146 [] [] o → gG M X 6 0 0 32 [(0, .ref a0), (2, .int x2), (3, .int x3)] [] h := by
  intro k
  induction k with
  | zero =>
    intro x3 h o hy
    rw [lp_c11_laySteps_32.eq_1] at hy
    cases hy
  | succ k ih =>
    intro x3 h o hy hE
    rw [lp_c11_laySteps_32.eq_2] at hy
    refine g_iload_n K d_c11_laySteps_32 2 rfl ?_
    refine g_aload_n K d_c11_laySteps_33 0 rfl ?_
    obtain ⟨v7, e_v7, hy⟩ := gBd hy
    refine g_getR K fl_c11_9 d_c11_laySteps_34 e_v7 ?_
    refine g_bipush (v := 40) K d_c11_laySteps_37 (by decide) ?_
    obtain ⟨v8, e_v8, hy⟩ := gBd hy
    refine g_iald K d_c11_laySteps_39 e_v8 ?_
    refine g_icmp_ge K d_c11_laySteps_40 (fun c9 => ?_) (fun c9 => ?_)
    · rw [if_pos c9] at hy
      refine g_sub (ls2 := []) [] rfl ?_
      obtain rfl := Option.some.inj hy
      exact hE
    · rw [if_neg c9] at hy
      refine g_iconst (v := 0) K d_c11_laySteps_43 (by decide) ?_
      refine g_istore (ls2 := [(4, .int (0 : Int32)), (0, .ref a0), (2, .int x2), (3, .int x3)]) K d_c11_laySteps_44 rfl rfl ?_
      obtain ⟨o32, e_o32, hy⟩ := gBd hy
      refine g_sub (ls2 := [(0, .ref a0), (2, .int x2), (3, .int x3), (4, .int (0 : Int32))]) [1, 2, 3, 0] rfl ?_
      refine wlp_c11_laySteps_46 hx K a0 x2 x3 N (0 : Int32) h o32 e_o32 ?_
      refine g_iinc (ls2 := [(3, .int (x3 + (1 : Int32))), (0, .ref a0), (2, .int x2)]) (v := 1) K d_c11_laySteps_140 2 rfl (by decide) rfl rfl ?_
      refine g_goto K d_c11_laySteps_143 ?_
      refine g_sub (ls2 := [(0, .ref a0), (2, .int x2), (3, .int (x3 + (1 : Int32)))]) [1, 2, 0] rfl ?_
      exact ih _ _ _ hy hE
set_option maxHeartbeats 4000000 in
set_option maxRecDepth 100000 in
theorem ct_c11_laySteps (l : Launch) (X : gX) (hx : gEx X = false) (N : Nat) (a0 : Nat) (x1 : Int32) (x2 : Int32) (h : gH) (q : gH) (hy : f_c11_laySteps N a0 x1 x2 h = some q) : gRc y_c11_laySteps h a0 ∧ gMv l X y_c11_laySteps b_c11_laySteps 6 (3 + N) 0 0 [.ref a0, .int x1, .int x2] h q := by
  unfold f_c11_laySteps at hy
  obtain ⟨u0, e_u0, hy⟩ := gBd hy
  cases u0
  refine ⟨Or.inl ⟨11, _, _, e_u0, rfl⟩, gMet_v (lsx := [(0, .ref a0), (1, .int x1), (2, .int x2)]) (by decide) rfl rfl ?_⟩
  intro M hMl K hret
  subst hMl
  refine g_iconst (v := 0) K d_c11_laySteps_0 (by decide) ?_
  refine g_istore_n (ls2 := [(3, .int (0 : Int32)), (0, .ref a0), (1, .int x1), (2, .int x2)]) K d_c11_laySteps_1 rfl rfl ?_
  obtain ⟨o4, e_o4, hy⟩ := gBd hy
  refine g_sub (ls2 := [(0, .ref a0), (1, .int x1), (2, .int x2), (3, .int (0 : Int32))]) [1, 2, 3, 0] rfl ?_
  refine wlp_c11_laySteps_2 hx K a0 x1 x2 N (0 : Int32) h o4 e_o4 ?_
  refine g_aload_n K d_c11_laySteps_23 0 rfl ?_
  obtain ⟨v5, e_v5, hy⟩ := gBd hy
  refine g_getR K fl_c11_70 d_c11_laySteps_24 e_v5 ?_
  refine g_iload_n K d_c11_laySteps_27 1 rfl ?_
  refine g_iconst (v := 1) K d_c11_laySteps_28 (by decide) ?_
  obtain ⟨h6, e_h6, hy⟩ := gBd hy
  refine g_iast K d_c11_laySteps_29 e_h6 ?_
  refine g_iconst (v := 0) K d_c11_laySteps_30 (by decide) ?_
  refine g_istore_n (ls2 := [(3, .int (0 : Int32)), (0, .ref a0), (1, .int x1), (2, .int x2)]) K d_c11_laySteps_31 rfl rfl ?_
  obtain ⟨o33, e_o33, hy⟩ := gBd hy
  refine g_sub (ls2 := [(0, .ref a0), (2, .int x2), (3, .int (0 : Int32))]) [1, 3, 0] rfl ?_
  refine wlp_c11_laySteps_32 hx K a0 x2 N (0 : Int32) h6 o33 e_o33 ?_
  obtain rfl := Option.some.inj hy
  exact hret _ _ _ d_c11_laySteps_146
-- c11 nearest
theorem d_c11_nearest_0 : gD b_c11_nearest 0 (.iconst (-1)) 1 1 := ⟨by decide +kernel, rfl⟩
theorem d_c11_nearest_1 : gD b_c11_nearest 1 (.istore_n 3) 1 2 := ⟨by decide +kernel, rfl⟩
theorem d_c11_nearest_2 : gD b_c11_nearest 2 (.iconst 0) 1 3 := ⟨by decide +kernel, rfl⟩
theorem d_c11_nearest_3 : gD b_c11_nearest 3 (.istore 4) 2 5 := ⟨by decide +kernel, rfl⟩
theorem d_c11_nearest_5 : gD b_c11_nearest 5 (.iload 4) 2 7 := ⟨by decide +kernel, rfl⟩
theorem d_c11_nearest_7 : gD b_c11_nearest 7 (.aload_n 1) 1 8 := ⟨by decide +kernel, rfl⟩
theorem d_c11_nearest_8 : gD b_c11_nearest 8 (.bipush 40) 2 10 := ⟨by decide +kernel, rfl⟩
theorem d_c11_nearest_10 : gD b_c11_nearest 10 .iaload 1 11 := ⟨by decide +kernel, rfl⟩
theorem d_c11_nearest_11 : gJ b_c11_nearest 11 (.if_icmp .ge 60) 3 60 14 71 := ⟨by decide +kernel, rfl, by decide⟩
theorem d_c11_nearest_14 : gD b_c11_nearest 14 (.aload_n 1) 1 15 := ⟨by decide +kernel, rfl⟩
theorem d_c11_nearest_15 : gD b_c11_nearest 15 (.bipush 32) 2 17 := ⟨by decide +kernel, rfl⟩
theorem d_c11_nearest_17 : gD b_c11_nearest 17 (.iload 4) 2 19 := ⟨by decide +kernel, rfl⟩
theorem d_c11_nearest_19 : gD b_c11_nearest 19 .iadd 1 20 := ⟨by decide +kernel, rfl⟩
theorem d_c11_nearest_20 : gD b_c11_nearest 20 .iaload 1 21 := ⟨by decide +kernel, rfl⟩
theorem d_c11_nearest_21 : gJ b_c11_nearest 21 (.ifCond .ne 6) 3 6 24 27 := ⟨by decide +kernel, rfl, by decide⟩
theorem d_c11_nearest_24 : gJ b_c11_nearest 24 (.goto 41) 3 41 27 65 := ⟨by decide +kernel, rfl, by decide⟩
theorem d_c11_nearest_27 : gD b_c11_nearest 27 (.iload_n 3) 1 28 := ⟨by decide +kernel, rfl⟩
theorem d_c11_nearest_28 : gD b_c11_nearest 28 (.iconst (-1)) 1 29 := ⟨by decide +kernel, rfl⟩
theorem d_c11_nearest_29 : gJ b_c11_nearest 29 (.if_icmp .eq 33) 3 33 32 62 := ⟨by decide +kernel, rfl, by decide⟩
theorem d_c11_nearest_32 : gD b_c11_nearest 32 (.aload_n 0) 1 33 := ⟨by decide +kernel, rfl⟩
theorem d_c11_nearest_33 : gD b_c11_nearest 33 (.aload_n 1) 1 34 := ⟨by decide +kernel, rfl⟩
theorem d_c11_nearest_34 : gD b_c11_nearest 34 (.iload 4) 2 36 := ⟨by decide +kernel, rfl⟩
theorem d_c11_nearest_36 : gD b_c11_nearest 36 .iaload 1 37 := ⟨by decide +kernel, rfl⟩
theorem d_c11_nearest_37 : gD b_c11_nearest 37 (.aload_n 0) 1 38 := ⟨by decide +kernel, rfl⟩
theorem d_c11_nearest_38 : gD b_c11_nearest 38 (.getfield 20) 3 41 := ⟨by decide +kernel, rfl⟩
theorem d_c11_nearest_41 : gD b_c11_nearest 41 (.iload_n 2) 1 42 := ⟨by decide +kernel, rfl⟩
theorem d_c11_nearest_42 : gD b_c11_nearest 42 .iaload 1 43 := ⟨by decide +kernel, rfl⟩
theorem d_c11_nearest_43 : gD b_c11_nearest 43 (.invokevirtual 220) 3 46 := ⟨by decide +kernel, rfl⟩
theorem d_c11_nearest_46 : gD b_c11_nearest 46 (.aload_n 0) 1 47 := ⟨by decide +kernel, rfl⟩
theorem d_c11_nearest_47 : gD b_c11_nearest 47 (.aload_n 1) 1 48 := ⟨by decide +kernel, rfl⟩
theorem d_c11_nearest_48 : gD b_c11_nearest 48 (.iload_n 3) 1 49 := ⟨by decide +kernel, rfl⟩
theorem d_c11_nearest_49 : gD b_c11_nearest 49 .iaload 1 50 := ⟨by decide +kernel, rfl⟩
theorem d_c11_nearest_50 : gD b_c11_nearest 50 (.aload_n 0) 1 51 := ⟨by decide +kernel, rfl⟩
theorem d_c11_nearest_51 : gD b_c11_nearest 51 (.getfield 20) 3 54 := ⟨by decide +kernel, rfl⟩
theorem d_c11_nearest_54 : gD b_c11_nearest 54 (.iload_n 2) 1 55 := ⟨by decide +kernel, rfl⟩
theorem d_c11_nearest_55 : gD b_c11_nearest 55 .iaload 1 56 := ⟨by decide +kernel, rfl⟩
theorem d_c11_nearest_56 : gD b_c11_nearest 56 (.invokevirtual 220) 3 59 := ⟨by decide +kernel, rfl⟩
theorem d_c11_nearest_59 : gJ b_c11_nearest 59 (.if_icmp .ge 6) 3 6 62 65 := ⟨by decide +kernel, rfl, by decide⟩
theorem d_c11_nearest_62 : gD b_c11_nearest 62 (.iload 4) 2 64 := ⟨by decide +kernel, rfl⟩
theorem d_c11_nearest_64 : gD b_c11_nearest 64 (.istore_n 3) 1 65 := ⟨by decide +kernel, rfl⟩
theorem d_c11_nearest_65 : gD b_c11_nearest 65 (.iinc 4 1) 3 68 := ⟨by decide +kernel, rfl⟩
theorem d_c11_nearest_68 : gJ b_c11_nearest 68 (.goto (-63)) 3 (-63) 71 5 := ⟨by decide +kernel, rfl, by decide⟩
theorem d_c11_nearest_71 : gD b_c11_nearest 71 (.iload_n 3) 1 72 := ⟨by decide +kernel, rfl⟩
theorem d_c11_nearest_72 : gD b_c11_nearest 72 .ireturn 1 73 := ⟨by decide +kernel, rfl⟩
def lp_c11_nearest_5 (N : Nat) (a0 : Nat) (a1 : Nat) (x2 : Int32) (h : gH) : Nat → Int32 → Int32 → Option (Int32)
  | 0, _, _ => none
  | k + 1, x3, x4 =>
  (ga 0 h a1 (40 : Int32)).bind fun v1 =>
    if v1 ≤ x4 then
    some x3
  else
    (ga 0 h a1 ((32 : Int32) + x4)).bind fun v3 =>
    (show Option (Int32) from if v3 = 0 then
    some x3
  else
    if x3 = (-1 : Int32) then
    some x4
  else
    (ga 0 h a1 x4).bind fun v8 =>
    (gfR h a0 11 4).bind fun v9 =>
    (ga 0 h v9 x2).bind fun v10 =>
    (f_c11_farOf N a0 v8 v10 h).bind fun q11 =>
    (ga 0 h a1 x3).bind fun v12 =>
    (gfR h a0 11 4).bind fun v13 =>
    (ga 0 h v13 x2).bind fun v14 =>
    (f_c11_farOf N a0 v12 v14 h).bind fun q15 =>
    if q15 ≤ q11 then
    some x3
  else
    some x4).bind fun t5 =>
    lp_c11_nearest_5 N a0 a1 x2 h k t5 (x4 + (1 : Int32))
def f_c11_nearest (N : Nat) (a0 : Nat) (a1 : Nat) (x2 : Int32) (h : gH) : Option (Int32) :=
  (gcl h a0 11).bind fun _ =>
  (lp_c11_nearest_5 N a0 a1 x2 h N (-1 : Int32) (0 : Int32)).bind fun o17 =>
    some o17
set_option maxHeartbeats 4000000 in
set_option maxRecDepth 100000 in
theorem wlp_c11_nearest_5 {M : gM} {X : gX} {N : Nat} (hx : gEx X = false) (K : gC M X gN11 b_c11_nearest 5 (gRm (3 + N) 0 0)) (a0 : Nat) (a1 : Nat) (x2 : Int32) (h : gH) : ∀ (k : Nat) (x3 : Int32) (x4 : Int32) (o : Int32), lp_c11_nearest_5 N a0 a1 x2 h k x3 x4 = some o → gG M X 5 0 0 71 [(3, .int o)] [] h → gG M X 5 0 0 5 [(0, .ref a0), (1, .ref a1), (2, .int x2), (3, .int x3), (4, .int x4)] [] h := by
  intro k
  induction k with
  | zero =>
    intro x3 x4 o hy
    rw [lp_c11_nearest_5.eq_1] at hy
    cases hy
  | succ k ih =>
    intro x3 x4 o hy hE
    rw [lp_c11_nearest_5.eq_2] at hy
    refine g_iload K d_c11_nearest_5 4 rfl ?_
    refine g_aload_n K d_c11_nearest_7 1 rfl ?_
    refine g_bipush (v := 40) K d_c11_nearest_8 (by decide) ?_
    obtain ⟨v1, e_v1, hy⟩ := gBd hy
    refine g_iald K d_c11_nearest_10 e_v1 ?_
    refine g_icmp_ge K d_c11_nearest_11 (fun c2 => ?_) (fun c2 => ?_)
    · rw [if_pos c2] at hy
      refine g_sub (ls2 := [(3, .int x3)]) [3] rfl ?_
      obtain rfl := Option.some.inj hy
      exact hE
    · rw [if_neg c2] at hy
      refine g_aload_n K d_c11_nearest_14 1 rfl ?_
      refine g_bipush (v := 32) K d_c11_nearest_15 (by decide) ?_
      refine g_iload K d_c11_nearest_17 4 rfl ?_
      refine g_iadd K d_c11_nearest_19 ?_
      obtain ⟨v3, e_v3, hy⟩ := gBd hy
      refine g_iald K d_c11_nearest_20 e_v3 ?_
      obtain ⟨t5, e_t5, hy⟩ := gBd hy
      have hJ6 : gG M X 5 0 0 65 [(0, .ref a0), (1, .ref a1), (2, .int x2), (3, .int t5), (4, .int x4)] [] h := by
        refine g_iinc (ls2 := [(4, .int (x4 + (1 : Int32))), (0, .ref a0), (1, .ref a1), (2, .int x2), (3, .int t5)]) (v := 1) K d_c11_nearest_65 4 rfl (by decide) rfl rfl ?_
        refine g_goto K d_c11_nearest_68 ?_
        refine g_sub (ls2 := [(0, .ref a0), (1, .ref a1), (2, .int x2), (3, .int t5), (4, .int (x4 + (1 : Int32)))]) [1, 2, 3, 4, 0] rfl ?_
        exact ih _ _ _ hy hE
      refine g_if_ne K d_c11_nearest_21 (fun c4 => ?_) (fun c4 => ?_)
      · rw [if_neg c4] at e_t5
        refine g_iload_n K d_c11_nearest_27 3 rfl ?_
        refine g_iconst (v := (-1)) K d_c11_nearest_28 (by decide) ?_
        refine g_icmp_eq K d_c11_nearest_29 (fun c7 => ?_) (fun c7 => ?_)
        · rw [if_pos c7] at e_t5
          refine g_iload K d_c11_nearest_62 4 rfl ?_
          refine g_istore_n (ls2 := [(3, .int x4), (0, .ref a0), (1, .ref a1), (2, .int x2), (4, .int x4)]) K d_c11_nearest_64 rfl rfl ?_
          refine g_sub (ls2 := [(0, .ref a0), (1, .ref a1), (2, .int x2), (3, .int x4), (4, .int x4)]) [1, 2, 3, 0, 4] rfl ?_
          obtain rfl := Option.some.inj e_t5
          exact hJ6
        · rw [if_neg c7] at e_t5
          refine g_aload_n K d_c11_nearest_32 0 rfl ?_
          refine g_aload_n K d_c11_nearest_33 1 rfl ?_
          refine g_iload K d_c11_nearest_34 4 rfl ?_
          obtain ⟨v8, e_v8, e_t5⟩ := gBd e_t5
          refine g_iald K d_c11_nearest_36 e_v8 ?_
          refine g_aload_n K d_c11_nearest_37 0 rfl ?_
          obtain ⟨v9, e_v9, e_t5⟩ := gBd e_t5
          refine g_getR K fl_c11_20 d_c11_nearest_38 e_v9 ?_
          refine g_iload_n K d_c11_nearest_41 2 rfl ?_
          obtain ⟨v10, e_v10, e_t5⟩ := gBd e_t5
          refine g_iald K d_c11_nearest_42 e_v10 ?_
          obtain ⟨q11, e_q11, e_t5⟩ := gBd e_t5
          refine g_callVi (rest := []) K hx ly_c11_farOf kv_c11_220 d_c11_nearest_43 (ct_c11_farOf M.2.1 X hx N a0 v8 v10 h q11 e_q11) rfl rfl (Nat.le_of_ble_eq_true rfl) (gDep rfl) ⟨Nat.le_refl 0, Nat.le_refl 0⟩ ?_
          refine g_aload_n K d_c11_nearest_46 0 rfl ?_
          refine g_aload_n K d_c11_nearest_47 1 rfl ?_
          refine g_iload_n K d_c11_nearest_48 3 rfl ?_
          obtain ⟨v12, e_v12, e_t5⟩ := gBd e_t5
          refine g_iald K d_c11_nearest_49 e_v12 ?_
          refine g_aload_n K d_c11_nearest_50 0 rfl ?_
          obtain ⟨v13, e_v13, e_t5⟩ := gBd e_t5
          refine g_getR K fl_c11_20 d_c11_nearest_51 e_v13 ?_
          refine g_iload_n K d_c11_nearest_54 2 rfl ?_
          obtain ⟨v14, e_v14, e_t5⟩ := gBd e_t5
          refine g_iald K d_c11_nearest_55 e_v14 ?_
          obtain ⟨q15, e_q15, e_t5⟩ := gBd e_t5
          refine g_callVi (rest := [.int q11]) K hx ly_c11_farOf kv_c11_220 d_c11_nearest_56 (ct_c11_farOf M.2.1 X hx N a0 v12 v14 h q15 e_q15) rfl rfl (Nat.le_of_ble_eq_true rfl) (gDep rfl) ⟨Nat.le_refl 0, Nat.le_refl 0⟩ ?_
          refine g_icmp_ge K d_c11_nearest_59 (fun c16 => ?_) (fun c16 => ?_)
          · rw [if_pos c16] at e_t5
            obtain rfl := Option.some.inj e_t5
            exact hJ6
          · rw [if_neg c16] at e_t5
            refine g_iload K d_c11_nearest_62 4 rfl ?_
            refine g_istore_n (ls2 := [(3, .int x4), (0, .ref a0), (1, .ref a1), (2, .int x2), (4, .int x4)]) K d_c11_nearest_64 rfl rfl ?_
            refine g_sub (ls2 := [(0, .ref a0), (1, .ref a1), (2, .int x2), (3, .int x4), (4, .int x4)]) [1, 2, 3, 0, 4] rfl ?_
            obtain rfl := Option.some.inj e_t5
            exact hJ6
      · rw [if_pos c4] at e_t5
        refine g_goto K d_c11_nearest_24 ?_
        obtain rfl := Option.some.inj e_t5
        exact hJ6
set_option maxHeartbeats 4000000 in
set_option maxRecDepth 100000 in
theorem ct_c11_nearest (l : Launch) (X : gX) (hx : gEx X = false) (N : Nat) (a0 : Nat) (a1 : Nat) (x2 : Int32) (h : gH) (q : Int32) (hy : f_c11_nearest N a0 a1 x2 h = some q) : gRc y_c11_nearest h a0 ∧ gMi l X y_c11_nearest b_c11_nearest 5 .int (3 + N) 0 0 [.ref a0, .ref a1, .int x2] h q h := by
  unfold f_c11_nearest at hy
  obtain ⟨u0, e_u0, hy⟩ := gBd hy
  cases u0
  refine ⟨Or.inl ⟨11, _, _, e_u0, rfl⟩, gMet_i (lsx := [(0, .ref a0), (1, .ref a1), (2, .int x2)]) (by decide) rfl rfl ?_⟩
  intro M hMl K hret
  subst hMl
  refine g_iconst (v := (-1)) K d_c11_nearest_0 (by decide) ?_
  refine g_istore_n (ls2 := [(3, .int (-1 : Int32)), (0, .ref a0), (1, .ref a1), (2, .int x2)]) K d_c11_nearest_1 rfl rfl ?_
  refine g_iconst (v := 0) K d_c11_nearest_2 (by decide) ?_
  refine g_istore (ls2 := [(4, .int (0 : Int32)), (3, .int (-1 : Int32)), (0, .ref a0), (1, .ref a1), (2, .int x2)]) K d_c11_nearest_3 rfl rfl ?_
  obtain ⟨o17, e_o17, hy⟩ := gBd hy
  refine g_sub (ls2 := [(0, .ref a0), (1, .ref a1), (2, .int x2), (3, .int (-1 : Int32)), (4, .int (0 : Int32))]) [2, 3, 4, 1, 0] rfl ?_
  refine wlp_c11_nearest_5 hx K a0 a1 x2 h N (-1 : Int32) (0 : Int32) o17 e_o17 ?_
  refine g_iload_n K d_c11_nearest_71 0 rfl ?_
  obtain rfl := Option.some.inj hy
  exact hret rfl _ _ _ d_c11_nearest_72
-- c11 need
theorem d_c11_need_0 : gD b_c11_need 0 (.aload_n 0) 1 1 := ⟨by decide +kernel, rfl⟩
theorem d_c11_need_1 : gD b_c11_need 1 (.iload_n 1) 1 2 := ⟨by decide +kernel, rfl⟩
theorem d_c11_need_2 : gD b_c11_need 2 (.invokevirtual 147) 3 5 := ⟨by decide +kernel, rfl⟩
theorem d_c11_need_5 : gJ b_c11_need 5 (.ifCond .ne 11) 3 11 8 16 := ⟨by decide +kernel, rfl, by decide⟩
theorem d_c11_need_8 : gD b_c11_need 8 (.aload_n 0) 1 9 := ⟨by decide +kernel, rfl⟩
theorem d_c11_need_9 : gD b_c11_need 9 (.aload_n 0) 1 10 := ⟨by decide +kernel, rfl⟩
theorem d_c11_need_10 : gD b_c11_need 10 (.getfield 130) 3 13 := ⟨by decide +kernel, rfl⟩
theorem d_c11_need_13 : gD b_c11_need 13 (.invokevirtual 151) 3 16 := ⟨by decide +kernel, rfl⟩
theorem d_c11_need_16 : gD b_c11_need 16 .return_ 1 17 := ⟨by decide +kernel, rfl⟩
def f_c11_need (N : Nat) (a0 : Nat) (x1 : Int32) (h : gH) : Option (gH) :=
  (gcl h a0 11).bind fun _ =>
  (f_c11_passes N a0 x1 h).bind fun q1 =>
    (show Option (gH) from if q1.1 = 0 then
    (gfI q1.2 a0 11 14).bind fun v5 =>
    (f_c11_fault N a0 v5 q1.2).bind fun q6 =>
    some q6
  else
    some q1.2).bind fun t3 =>
    some t3
set_option maxHeartbeats 4000000 in
set_option maxRecDepth 100000 in
theorem ct_c11_need (l : Launch) (X : gX) (hx : gEx X = false) (N : Nat) (a0 : Nat) (x1 : Int32) (h : gH) (q : gH) (hy : f_c11_need N a0 x1 h = some q) : gRc y_c11_need h a0 ∧ gMv l X y_c11_need b_c11_need 2 (3 + N) 0 0 [.ref a0, .int x1] h q := by
  unfold f_c11_need at hy
  obtain ⟨u0, e_u0, hy⟩ := gBd hy
  cases u0
  refine ⟨Or.inl ⟨11, _, _, e_u0, rfl⟩, gMet_v (lsx := [(0, .ref a0), (1, .int x1)]) (by decide) rfl rfl ?_⟩
  intro M hMl K hret
  subst hMl
  refine g_aload_n K d_c11_need_0 0 rfl ?_
  refine g_iload_n K d_c11_need_1 1 rfl ?_
  obtain ⟨q1, e_q1, hy⟩ := gBd hy
  refine g_callVi (rest := []) K hx ly_c11_passes kv_c11_147 d_c11_need_2 (ct_c11_passes M.2.1 X hx N a0 x1 h q1 e_q1) rfl rfl (Nat.le_of_ble_eq_true rfl) (gDep rfl) ⟨Nat.le_refl 0, Nat.le_refl 0⟩ ?_
  obtain ⟨t3, e_t3, hy⟩ := gBd hy
  have hJ4 : gG M X 2 0 0 16 [] [] t3 := by
    obtain rfl := Option.some.inj hy
    exact hret _ _ _ d_c11_need_16
  refine g_if_ne K d_c11_need_5 (fun c2 => ?_) (fun c2 => ?_)
  · rw [if_neg c2] at e_t3
    refine g_sub (ls2 := []) [] rfl ?_
    obtain rfl := Option.some.inj e_t3
    exact hJ4
  · rw [if_pos c2] at e_t3
    refine g_aload_n K d_c11_need_8 0 rfl ?_
    refine g_aload_n K d_c11_need_9 0 rfl ?_
    obtain ⟨v5, e_v5, e_t3⟩ := gBd e_t3
    refine g_getI K fl_c11_130 d_c11_need_10 e_v5 ?_
    obtain ⟨q6, e_q6, e_t3⟩ := gBd e_t3
    refine g_callVv (rest := []) K hx ly_c11_fault kv_c11_151 d_c11_need_13 (ct_c11_fault M.2.1 X hx N a0 v5 q1.2 q6 e_q6) rfl rfl (Nat.le_of_ble_eq_true rfl) (gDep rfl) ⟨Nat.le_refl 0, Nat.le_refl 0⟩ ?_
    refine g_sub (ls2 := []) [] rfl ?_
    obtain rfl := Option.some.inj e_t3
    exact hJ4
-- c11 oneOf
theorem d_c11_oneOf_0 : gD b_c11_oneOf 0 (.aload_n 0) 1 1 := ⟨by decide +kernel, rfl⟩
theorem d_c11_oneOf_1 : gD b_c11_oneOf 1 (.invokevirtual 140) 3 4 := ⟨by decide +kernel, rfl⟩
theorem d_c11_oneOf_4 : gJ b_c11_oneOf 4 (.ifCond .ne 5) 3 5 7 9 := ⟨by decide +kernel, rfl, by decide⟩
theorem d_c11_oneOf_7 : gD b_c11_oneOf 7 (.iconst 0) 1 8 := ⟨by decide +kernel, rfl⟩
theorem d_c11_oneOf_8 : gD b_c11_oneOf 8 .ireturn 1 9 := ⟨by decide +kernel, rfl⟩
theorem d_c11_oneOf_9 : gD b_c11_oneOf 9 (.aload_n 0) 1 10 := ⟨by decide +kernel, rfl⟩
theorem d_c11_oneOf_10 : gD b_c11_oneOf 10 (.invokevirtual 144) 3 13 := ⟨by decide +kernel, rfl⟩
theorem d_c11_oneOf_13 : gD b_c11_oneOf 13 (.iload_n 1) 1 14 := ⟨by decide +kernel, rfl⟩
theorem d_c11_oneOf_14 : gD b_c11_oneOf 14 (.iload_n 1) 1 15 := ⟨by decide +kernel, rfl⟩
theorem d_c11_oneOf_15 : gD b_c11_oneOf 15 (.iload_n 2) 1 16 := ⟨by decide +kernel, rfl⟩
theorem d_c11_oneOf_16 : gD b_c11_oneOf 16 .iadd 1 17 := ⟨by decide +kernel, rfl⟩
theorem d_c11_oneOf_17 : gD b_c11_oneOf 17 (.iconst 1) 1 18 := ⟨by decide +kernel, rfl⟩
theorem d_c11_oneOf_18 : gD b_c11_oneOf 18 .isub 1 19 := ⟨by decide +kernel, rfl⟩
theorem d_c11_oneOf_19 : gD b_c11_oneOf 19 (.invokestatic 105) 3 22 := ⟨by decide +kernel, rfl⟩
theorem d_c11_oneOf_22 : gJ b_c11_oneOf 22 (.ifCond .ne 13) 3 13 25 35 := ⟨by decide +kernel, rfl, by decide⟩
theorem d_c11_oneOf_25 : gD b_c11_oneOf 25 (.aload_n 0) 1 26 := ⟨by decide +kernel, rfl⟩
theorem d_c11_oneOf_26 : gD b_c11_oneOf 26 (.aload_n 0) 1 27 := ⟨by decide +kernel, rfl⟩
theorem d_c11_oneOf_27 : gD b_c11_oneOf 27 (.getfield 130) 3 30 := ⟨by decide +kernel, rfl⟩
theorem d_c11_oneOf_30 : gD b_c11_oneOf 30 (.invokevirtual 151) 3 33 := ⟨by decide +kernel, rfl⟩
theorem d_c11_oneOf_33 : gD b_c11_oneOf 33 (.iconst 0) 1 34 := ⟨by decide +kernel, rfl⟩
theorem d_c11_oneOf_34 : gD b_c11_oneOf 34 .ireturn 1 35 := ⟨by decide +kernel, rfl⟩
theorem d_c11_oneOf_35 : gD b_c11_oneOf 35 (.aload_n 0) 1 36 := ⟨by decide +kernel, rfl⟩
theorem d_c11_oneOf_36 : gD b_c11_oneOf 36 .dup 1 37 := ⟨by decide +kernel, rfl⟩
theorem d_c11_oneOf_37 : gD b_c11_oneOf 37 (.getfield 130) 3 40 := ⟨by decide +kernel, rfl⟩
theorem d_c11_oneOf_40 : gD b_c11_oneOf 40 (.iconst 1) 1 41 := ⟨by decide +kernel, rfl⟩
theorem d_c11_oneOf_41 : gD b_c11_oneOf 41 .iadd 1 42 := ⟨by decide +kernel, rfl⟩
theorem d_c11_oneOf_42 : gD b_c11_oneOf 42 (.putfield 130) 3 45 := ⟨by decide +kernel, rfl⟩
theorem d_c11_oneOf_45 : gD b_c11_oneOf 45 (.aload_n 0) 1 46 := ⟨by decide +kernel, rfl⟩
theorem d_c11_oneOf_46 : gD b_c11_oneOf 46 (.getfield 121) 3 49 := ⟨by decide +kernel, rfl⟩
theorem d_c11_oneOf_49 : gD b_c11_oneOf 49 (.aload_n 0) 1 50 := ⟨by decide +kernel, rfl⟩
theorem d_c11_oneOf_50 : gD b_c11_oneOf 50 (.getfield 130) 3 53 := ⟨by decide +kernel, rfl⟩
theorem d_c11_oneOf_53 : gD b_c11_oneOf 53 (.iconst 1) 1 54 := ⟨by decide +kernel, rfl⟩
theorem d_c11_oneOf_54 : gD b_c11_oneOf 54 .isub 1 55 := ⟨by decide +kernel, rfl⟩
theorem d_c11_oneOf_55 : gD b_c11_oneOf 55 .baload 1 56 := ⟨by decide +kernel, rfl⟩
theorem d_c11_oneOf_56 : gD b_c11_oneOf 56 (.iload_n 1) 1 57 := ⟨by decide +kernel, rfl⟩
theorem d_c11_oneOf_57 : gD b_c11_oneOf 57 .isub 1 58 := ⟨by decide +kernel, rfl⟩
theorem d_c11_oneOf_58 : gD b_c11_oneOf 58 .ireturn 1 59 := ⟨by decide +kernel, rfl⟩
def f_c11_oneOf (N : Nat) (a0 : Nat) (x1 : Int32) (x2 : Int32) (h : gH) : Option (Int32 × gH) :=
  (gcl h a0 11).bind fun _ =>
  (f_c11_fine N a0 h).bind fun q1 =>
    if q1 = 0 then
    some ((0 : Int32), h)
  else
    (f_c11_here N a0 h).bind fun q3 =>
    (f_c11_in N q3 x1 ((x1 + x2) - (1 : Int32)) h).bind fun q4 =>
    if q4 = 0 then
    (gfI h a0 11 14).bind fun v11 =>
    (f_c11_fault N a0 v11 h).bind fun q12 =>
    some ((0 : Int32), q12)
  else
    (gfI h a0 11 14).bind fun v6 =>
    (sf h a0 11 14 (.int (v6 + (1 : Int32)))).bind fun h7 =>
    (gfR h7 a0 11 11).bind fun v8 =>
    (gfI h7 a0 11 14).bind fun v9 =>
    (gaB h7 v8 (v9 - (1 : Int32))).bind fun v10 =>
    some (v10 - x1, h7)
set_option maxHeartbeats 4000000 in
set_option maxRecDepth 100000 in
theorem ct_c11_oneOf (l : Launch) (X : gX) (hx : gEx X = false) (N : Nat) (a0 : Nat) (x1 : Int32) (x2 : Int32) (h : gH) (q : Int32 × gH) (hy : f_c11_oneOf N a0 x1 x2 h = some q) : gRc y_c11_oneOf h a0 ∧ gMi l X y_c11_oneOf b_c11_oneOf 3 .int (3 + N) 0 0 [.ref a0, .int x1, .int x2] h q.1 q.2 := by
  unfold f_c11_oneOf at hy
  obtain ⟨u0, e_u0, hy⟩ := gBd hy
  cases u0
  refine ⟨Or.inl ⟨11, _, _, e_u0, rfl⟩, gMet_i (lsx := [(0, .ref a0), (1, .int x1), (2, .int x2)]) (by decide) rfl rfl ?_⟩
  intro M hMl K hret
  subst hMl
  refine g_aload_n K d_c11_oneOf_0 0 rfl ?_
  obtain ⟨q1, e_q1, hy⟩ := gBd hy
  refine g_callVi (rest := []) K hx ly_c11_fine kv_c11_140 d_c11_oneOf_1 (ct_c11_fine M.2.1 X hx N a0 h q1 e_q1) rfl rfl (Nat.le_of_ble_eq_true rfl) (gDep rfl) ⟨Nat.le_refl 0, Nat.le_refl 0⟩ ?_
  refine g_if_ne K d_c11_oneOf_4 (fun c2 => ?_) (fun c2 => ?_)
  · rw [if_neg c2] at hy
    refine g_aload_n K d_c11_oneOf_9 0 rfl ?_
    obtain ⟨q3, e_q3, hy⟩ := gBd hy
    refine g_callVi (rest := []) K hx ly_c11_here kv_c11_144 d_c11_oneOf_10 (ct_c11_here M.2.1 X hx N a0 h q3 e_q3) rfl rfl (Nat.le_of_ble_eq_true rfl) (gDep rfl) ⟨Nat.le_refl 0, Nat.le_refl 0⟩ ?_
    refine g_iload_n K d_c11_oneOf_13 1 rfl ?_
    refine g_iload_n K d_c11_oneOf_14 1 rfl ?_
    refine g_iload_n K d_c11_oneOf_15 2 rfl ?_
    refine g_iadd K d_c11_oneOf_16 ?_
    refine g_iconst (v := 1) K d_c11_oneOf_17 (by decide) ?_
    refine g_isub K d_c11_oneOf_18 ?_
    obtain ⟨q4, e_q4, hy⟩ := gBd hy
    refine g_callSi (rest := []) K hx ly_c11_in ks_c11_105 d_c11_oneOf_19 (ct_c11_in M.2.1 X hx N q3 x1 ((x1 + x2) - (1 : Int32)) h q4 e_q4) rfl rfl (Nat.le_of_ble_eq_true rfl) (gDep rfl) ⟨Nat.le_refl 0, Nat.le_refl 0⟩ ?_
    refine g_if_ne K d_c11_oneOf_22 (fun c5 => ?_) (fun c5 => ?_)
    · rw [if_neg c5] at hy
      refine g_aload_n K d_c11_oneOf_35 0 rfl ?_
      refine g_dup K d_c11_oneOf_36 rfl ?_
      obtain ⟨v6, e_v6, hy⟩ := gBd hy
      refine g_getI K fl_c11_130 d_c11_oneOf_37 e_v6 ?_
      refine g_iconst (v := 1) K d_c11_oneOf_40 (by decide) ?_
      refine g_iadd K d_c11_oneOf_41 ?_
      obtain ⟨h7, e_h7, hy⟩ := gBd hy
      refine g_putI K fp_c11_130 d_c11_oneOf_42 e_h7 ?_
      refine g_aload_n K d_c11_oneOf_45 0 rfl ?_
      obtain ⟨v8, e_v8, hy⟩ := gBd hy
      refine g_getR K fl_c11_121 d_c11_oneOf_46 e_v8 ?_
      refine g_aload_n K d_c11_oneOf_49 0 rfl ?_
      obtain ⟨v9, e_v9, hy⟩ := gBd hy
      refine g_getI K fl_c11_130 d_c11_oneOf_50 e_v9 ?_
      refine g_iconst (v := 1) K d_c11_oneOf_53 (by decide) ?_
      refine g_isub K d_c11_oneOf_54 ?_
      obtain ⟨v10, e_v10, hy⟩ := gBd hy
      refine g_bald K d_c11_oneOf_55 e_v10 ?_
      refine g_iload_n K d_c11_oneOf_56 1 rfl ?_
      refine g_isub K d_c11_oneOf_57 ?_
      obtain rfl := Option.some.inj hy
      exact hret rfl _ _ _ d_c11_oneOf_58
    · rw [if_pos c5] at hy
      refine g_aload_n K d_c11_oneOf_25 0 rfl ?_
      refine g_aload_n K d_c11_oneOf_26 0 rfl ?_
      obtain ⟨v11, e_v11, hy⟩ := gBd hy
      refine g_getI K fl_c11_130 d_c11_oneOf_27 e_v11 ?_
      obtain ⟨q12, e_q12, hy⟩ := gBd hy
      refine g_callVv (rest := []) K hx ly_c11_fault kv_c11_151 d_c11_oneOf_30 (ct_c11_fault M.2.1 X hx N a0 v11 h q12 e_q12) rfl rfl (Nat.le_of_ble_eq_true rfl) (gDep rfl) ⟨Nat.le_refl 0, Nat.le_refl 0⟩ ?_
      refine g_iconst (v := 0) K d_c11_oneOf_33 (by decide) ?_
      obtain rfl := Option.some.inj hy
      exact hret rfl _ _ _ d_c11_oneOf_34
  · rw [if_pos c2] at hy
    refine g_iconst (v := 0) K d_c11_oneOf_7 (by decide) ?_
    obtain rfl := Option.some.inj hy
    exact hret rfl _ _ _ d_c11_oneOf_8
-- c11 refusesClearing
theorem d_c11_refusesClearing_0 : gD b_c11_refusesClearing 0 (.aload_n 0) 1 1 := ⟨by decide +kernel, rfl⟩
theorem d_c11_refusesClearing_1 : gD b_c11_refusesClearing 1 (.iload_n 1) 1 2 := ⟨by decide +kernel, rfl⟩
theorem d_c11_refusesClearing_2 : gD b_c11_refusesClearing 2 (.invokevirtual 233) 3 5 := ⟨by decide +kernel, rfl⟩
theorem d_c11_refusesClearing_5 : gJ b_c11_refusesClearing 5 (.ifCond .ne 5) 3 5 8 10 := ⟨by decide +kernel, rfl, by decide⟩
theorem d_c11_refusesClearing_8 : gD b_c11_refusesClearing 8 (.iconst (-1)) 1 9 := ⟨by decide +kernel, rfl⟩
theorem d_c11_refusesClearing_9 : gD b_c11_refusesClearing 9 .ireturn 1 10 := ⟨by decide +kernel, rfl⟩
theorem d_c11_refusesClearing_10 : gD b_c11_refusesClearing 10 (.aload_n 0) 1 11 := ⟨by decide +kernel, rfl⟩
theorem d_c11_refusesClearing_11 : gD b_c11_refusesClearing 11 (.getfield 9) 3 14 := ⟨by decide +kernel, rfl⟩
theorem d_c11_refusesClearing_14 : gD b_c11_refusesClearing 14 (.bipush 24) 2 16 := ⟨by decide +kernel, rfl⟩
theorem d_c11_refusesClearing_16 : gD b_c11_refusesClearing 16 (.iload_n 1) 1 17 := ⟨by decide +kernel, rfl⟩
theorem d_c11_refusesClearing_17 : gD b_c11_refusesClearing 17 .iadd 1 18 := ⟨by decide +kernel, rfl⟩
theorem d_c11_refusesClearing_18 : gD b_c11_refusesClearing 18 .iaload 1 19 := ⟨by decide +kernel, rfl⟩
theorem d_c11_refusesClearing_19 : gJ b_c11_refusesClearing 19 (.ifCond .ne 8) 3 8 22 27 := ⟨by decide +kernel, rfl, by decide⟩
theorem d_c11_refusesClearing_22 : gD b_c11_refusesClearing 22 (.bipush (-2)) 2 24 := ⟨by decide +kernel, rfl⟩
theorem d_c11_refusesClearing_24 : gJ b_c11_refusesClearing 24 (.goto 4) 3 4 27 28 := ⟨by decide +kernel, rfl, by decide⟩
theorem d_c11_refusesClearing_27 : gD b_c11_refusesClearing 27 (.iconst 0) 1 28 := ⟨by decide +kernel, rfl⟩
theorem d_c11_refusesClearing_28 : gD b_c11_refusesClearing 28 .ireturn 1 29 := ⟨by decide +kernel, rfl⟩
def f_c11_refusesClearing (N : Nat) (a0 : Nat) (x1 : Int32) (h : gH) : Option (Int32) :=
  (gcl h a0 11).bind fun _ =>
  (f_c11_isWell N a0 x1 h).bind fun q1 =>
    if q1 = 0 then
    some (-1 : Int32)
  else
    (gfR h a0 11 0).bind fun v3 =>
    (ga 0 h v3 ((24 : Int32) + x1)).bind fun v4 =>
    some (if v4 = 0 then (-2 : Int32) else (0 : Int32))
set_option maxHeartbeats 4000000 in
set_option maxRecDepth 100000 in
theorem ct_c11_refusesClearing (l : Launch) (X : gX) (hx : gEx X = false) (N : Nat) (a0 : Nat) (x1 : Int32) (h : gH) (q : Int32) (hy : f_c11_refusesClearing N a0 x1 h = some q) : gRc y_c11_refusesClearing h a0 ∧ gMi l X y_c11_refusesClearing b_c11_refusesClearing 2 .int (3 + N) 0 0 [.ref a0, .int x1] h q h := by
  unfold f_c11_refusesClearing at hy
  obtain ⟨u0, e_u0, hy⟩ := gBd hy
  cases u0
  refine ⟨Or.inl ⟨11, _, _, e_u0, rfl⟩, gMet_i (lsx := [(0, .ref a0), (1, .int x1)]) (by decide) rfl rfl ?_⟩
  intro M hMl K hret
  subst hMl
  refine g_aload_n K d_c11_refusesClearing_0 0 rfl ?_
  refine g_iload_n K d_c11_refusesClearing_1 1 rfl ?_
  obtain ⟨q1, e_q1, hy⟩ := gBd hy
  refine g_callVi (rest := []) K hx ly_c11_isWell kv_c11_233 d_c11_refusesClearing_2 (ct_c11_isWell M.2.1 X hx N a0 x1 h q1 e_q1) rfl rfl (Nat.le_of_ble_eq_true rfl) (gDep rfl) ⟨Nat.le_refl 0, Nat.le_refl 0⟩ ?_
  refine g_if_ne K d_c11_refusesClearing_5 (fun c2 => ?_) (fun c2 => ?_)
  · rw [if_neg c2] at hy
    refine g_aload_n K d_c11_refusesClearing_10 0 rfl ?_
    obtain ⟨v3, e_v3, hy⟩ := gBd hy
    refine g_getR K fl_c11_9 d_c11_refusesClearing_11 e_v3 ?_
    refine g_bipush (v := 24) K d_c11_refusesClearing_14 (by decide) ?_
    refine g_iload_n K d_c11_refusesClearing_16 1 rfl ?_
    refine g_iadd K d_c11_refusesClearing_17 ?_
    obtain ⟨v4, e_v4, hy⟩ := gBd hy
    refine g_iald K d_c11_refusesClearing_18 e_v4 ?_
    have hJ7 : ∀ w6 : Int32, w6 = (if v4 = 0 then (-2 : Int32) else (0 : Int32)) → gG M X 2 0 0 28 [(0, .ref a0), (1, .int x1)] [.int w6] h := by
      intro w6 e_w6
      subst e_w6
      obtain rfl := Option.some.inj hy
      exact hret rfl _ _ _ d_c11_refusesClearing_28
    refine g_if_ne K d_c11_refusesClearing_19 (fun c5 => ?_) (fun c5 => ?_)
    · refine g_iconst (v := 0) K d_c11_refusesClearing_27 (by decide) ?_
      exact hJ7 _ (by rw [if_neg c5])
    · refine g_bipush (v := (-2)) K d_c11_refusesClearing_22 (by decide) ?_
      refine g_goto K d_c11_refusesClearing_24 ?_
      exact hJ7 _ (by rw [if_pos c5])
  · rw [if_pos c2] at hy
    refine g_iconst (v := (-1)) K d_c11_refusesClearing_8 (by decide) ?_
    obtain rfl := Option.some.inj hy
    exact hret rfl _ _ _ d_c11_refusesClearing_9
-- c11 refusesDraught
theorem d_c11_refusesDraught_0 : gD b_c11_refusesDraught 0 (.aload_n 0) 1 1 := ⟨by decide +kernel, rfl⟩
theorem d_c11_refusesDraught_1 : gD b_c11_refusesDraught 1 (.iload_n 1) 1 2 := ⟨by decide +kernel, rfl⟩
theorem d_c11_refusesDraught_2 : gD b_c11_refusesDraught 2 (.invokevirtual 233) 3 5 := ⟨by decide +kernel, rfl⟩
theorem d_c11_refusesDraught_5 : gJ b_c11_refusesDraught 5 (.ifCond .eq 13) 3 13 8 18 := ⟨by decide +kernel, rfl, by decide⟩
theorem d_c11_refusesDraught_8 : gD b_c11_refusesDraught 8 (.iload_n 2) 1 9 := ⟨by decide +kernel, rfl⟩
theorem d_c11_refusesDraught_9 : gD b_c11_refusesDraught 9 (.iconst 1) 1 10 := ⟨by decide +kernel, rfl⟩
theorem d_c11_refusesDraught_10 : gD b_c11_refusesDraught 10 (.bipush 99) 2 12 := ⟨by decide +kernel, rfl⟩
theorem d_c11_refusesDraught_12 : gD b_c11_refusesDraught 12 (.invokestatic 105) 3 15 := ⟨by decide +kernel, rfl⟩
theorem d_c11_refusesDraught_15 : gJ b_c11_refusesDraught 15 (.ifCond .ne 5) 3 5 18 20 := ⟨by decide +kernel, rfl, by decide⟩
theorem d_c11_refusesDraught_18 : gD b_c11_refusesDraught 18 (.iconst (-1)) 1 19 := ⟨by decide +kernel, rfl⟩
theorem d_c11_refusesDraught_19 : gD b_c11_refusesDraught 19 .ireturn 1 20 := ⟨by decide +kernel, rfl⟩
theorem d_c11_refusesDraught_20 : gD b_c11_refusesDraught 20 (.aload_n 0) 1 21 := ⟨by decide +kernel, rfl⟩
theorem d_c11_refusesDraught_21 : gD b_c11_refusesDraught 21 (.getfield 9) 3 24 := ⟨by decide +kernel, rfl⟩
theorem d_c11_refusesDraught_24 : gD b_c11_refusesDraught 24 (.bipush 32) 2 26 := ⟨by decide +kernel, rfl⟩
theorem d_c11_refusesDraught_26 : gD b_c11_refusesDraught 26 (.iload_n 1) 1 27 := ⟨by decide +kernel, rfl⟩
theorem d_c11_refusesDraught_27 : gD b_c11_refusesDraught 27 .iadd 1 28 := ⟨by decide +kernel, rfl⟩
theorem d_c11_refusesDraught_28 : gD b_c11_refusesDraught 28 .iaload 1 29 := ⟨by decide +kernel, rfl⟩
theorem d_c11_refusesDraught_29 : gD b_c11_refusesDraught 29 (.iload_n 2) 1 30 := ⟨by decide +kernel, rfl⟩
theorem d_c11_refusesDraught_30 : gJ b_c11_refusesDraught 30 (.if_icmp .ge 8) 3 8 33 38 := ⟨by decide +kernel, rfl, by decide⟩
theorem d_c11_refusesDraught_33 : gD b_c11_refusesDraught 33 (.bipush (-2)) 2 35 := ⟨by decide +kernel, rfl⟩
theorem d_c11_refusesDraught_35 : gJ b_c11_refusesDraught 35 (.goto 4) 3 4 38 39 := ⟨by decide +kernel, rfl, by decide⟩
theorem d_c11_refusesDraught_38 : gD b_c11_refusesDraught 38 (.iconst 0) 1 39 := ⟨by decide +kernel, rfl⟩
theorem d_c11_refusesDraught_39 : gD b_c11_refusesDraught 39 .ireturn 1 40 := ⟨by decide +kernel, rfl⟩
def f_c11_refusesDraught (N : Nat) (a0 : Nat) (x1 : Int32) (x2 : Int32) (h : gH) : Option (Int32) :=
  (gcl h a0 11).bind fun _ =>
  (f_c11_isWell N a0 x1 h).bind fun q1 =>
    if q1 = 0 then
    some (-1 : Int32)
  else
    (f_c11_in N x2 (1 : Int32) (99 : Int32) h).bind fun q3 =>
    if q3 = 0 then
    some (-1 : Int32)
  else
    (gfR h a0 11 0).bind fun v5 =>
    (ga 0 h v5 ((32 : Int32) + x1)).bind fun v6 =>
    some (if x2 ≤ v6 then (0 : Int32) else (-2 : Int32))
set_option maxHeartbeats 4000000 in
set_option maxRecDepth 100000 in
theorem ct_c11_refusesDraught (l : Launch) (X : gX) (hx : gEx X = false) (N : Nat) (a0 : Nat) (x1 : Int32) (x2 : Int32) (h : gH) (q : Int32) (hy : f_c11_refusesDraught N a0 x1 x2 h = some q) : gRc y_c11_refusesDraught h a0 ∧ gMi l X y_c11_refusesDraught b_c11_refusesDraught 3 .int (3 + N) 0 0 [.ref a0, .int x1, .int x2] h q h := by
  unfold f_c11_refusesDraught at hy
  obtain ⟨u0, e_u0, hy⟩ := gBd hy
  cases u0
  refine ⟨Or.inl ⟨11, _, _, e_u0, rfl⟩, gMet_i (lsx := [(0, .ref a0), (1, .int x1), (2, .int x2)]) (by decide) rfl rfl ?_⟩
  intro M hMl K hret
  subst hMl
  refine g_aload_n K d_c11_refusesDraught_0 0 rfl ?_
  refine g_iload_n K d_c11_refusesDraught_1 1 rfl ?_
  obtain ⟨q1, e_q1, hy⟩ := gBd hy
  refine g_callVi (rest := []) K hx ly_c11_isWell kv_c11_233 d_c11_refusesDraught_2 (ct_c11_isWell M.2.1 X hx N a0 x1 h q1 e_q1) rfl rfl (Nat.le_of_ble_eq_true rfl) (gDep rfl) ⟨Nat.le_refl 0, Nat.le_refl 0⟩ ?_
  refine g_if_eq K d_c11_refusesDraught_5 (fun c2 => ?_) (fun c2 => ?_)
  · rw [if_pos c2] at hy
    refine g_iconst (v := (-1)) K d_c11_refusesDraught_18 (by decide) ?_
    obtain rfl := Option.some.inj hy
    exact hret rfl _ _ _ d_c11_refusesDraught_19
  · rw [if_neg c2] at hy
    refine g_iload_n K d_c11_refusesDraught_8 2 rfl ?_
    refine g_iconst (v := 1) K d_c11_refusesDraught_9 (by decide) ?_
    refine g_bipush (v := 99) K d_c11_refusesDraught_10 (by decide) ?_
    obtain ⟨q3, e_q3, hy⟩ := gBd hy
    refine g_callSi (rest := []) K hx ly_c11_in ks_c11_105 d_c11_refusesDraught_12 (ct_c11_in M.2.1 X hx N x2 (1 : Int32) (99 : Int32) h q3 e_q3) rfl rfl (Nat.le_of_ble_eq_true rfl) (gDep rfl) ⟨Nat.le_refl 0, Nat.le_refl 0⟩ ?_
    refine g_if_ne K d_c11_refusesDraught_15 (fun c4 => ?_) (fun c4 => ?_)
    · rw [if_neg c4] at hy
      refine g_aload_n K d_c11_refusesDraught_20 0 rfl ?_
      obtain ⟨v5, e_v5, hy⟩ := gBd hy
      refine g_getR K fl_c11_9 d_c11_refusesDraught_21 e_v5 ?_
      refine g_bipush (v := 32) K d_c11_refusesDraught_24 (by decide) ?_
      refine g_iload_n K d_c11_refusesDraught_26 1 rfl ?_
      refine g_iadd K d_c11_refusesDraught_27 ?_
      obtain ⟨v6, e_v6, hy⟩ := gBd hy
      refine g_iald K d_c11_refusesDraught_28 e_v6 ?_
      refine g_iload_n K d_c11_refusesDraught_29 2 rfl ?_
      have hJ9 : ∀ w8 : Int32, w8 = (if x2 ≤ v6 then (0 : Int32) else (-2 : Int32)) → gG M X 3 0 0 39 [(0, .ref a0), (1, .int x1), (2, .int x2)] [.int w8] h := by
        intro w8 e_w8
        subst e_w8
        obtain rfl := Option.some.inj hy
        exact hret rfl _ _ _ d_c11_refusesDraught_39
      refine g_icmp_ge K d_c11_refusesDraught_30 (fun c7 => ?_) (fun c7 => ?_)
      · refine g_iconst (v := 0) K d_c11_refusesDraught_38 (by decide) ?_
        exact hJ9 _ (by rw [if_pos c7])
      · refine g_bipush (v := (-2)) K d_c11_refusesDraught_33 (by decide) ?_
        refine g_goto K d_c11_refusesDraught_35 ?_
        exact hJ9 _ (by rw [if_neg c7])
    · rw [if_pos c4] at hy
      refine g_iconst (v := (-1)) K d_c11_refusesDraught_18 (by decide) ?_
      obtain rfl := Option.some.inj hy
      exact hret rfl _ _ _ d_c11_refusesDraught_19
