-- c10 end
theorem d_c10_end_0 : gD b_c10_end 0 (.aload_n 0) 1 1 := ⟨by decide +kernel, rfl⟩
theorem d_c10_end_1 : gD b_c10_end 1 (.getfield 10) 3 4 := ⟨by decide +kernel, rfl⟩
theorem d_c10_end_4 : gD b_c10_end 4 (.iload_n 1) 1 5 := ⟨by decide +kernel, rfl⟩
theorem d_c10_end_5 : gD b_c10_end 5 (.invokevirtual 104) 3 8 := ⟨by decide +kernel, rfl⟩
theorem d_c10_end_8 : gD b_c10_end 8 .ireturn 1 9 := ⟨by decide +kernel, rfl⟩
def f_c10_end (N : Nat) (a0 : Nat) (x1 : Int32) (h : gH) : Option (Int32 × gH) :=
  (gcl h a0 10).bind fun _ =>
  (gfR h a0 10 0).bind fun v1 =>
    (f_c8_cutTo N v1 x1 h).bind fun q2 =>
    (gZ q2.1).bind fun w3 => some (w3, q2.2)
set_option maxHeartbeats 4000000 in
set_option maxRecDepth 100000 in
theorem ct_c10_end (l : Launch) (X : gX) (hx : gEx X = false) (N : Nat) (a0 : Nat) (x1 : Int32) (h : gH) (q : Int32 × gH) (hy : f_c10_end N a0 x1 h = some q) : gRc y_c10_end h a0 ∧ gMi l X y_c10_end b_c10_end 2 .boolean (2 + N) 0 0 [.ref a0, .int x1] h q.1 q.2 := by
  unfold f_c10_end at hy
  obtain ⟨u0, e_u0, hy⟩ := gBd hy
  cases u0
  refine ⟨Or.inl ⟨10, _, _, e_u0, rfl⟩, gMet_i (lsx := [(0, .ref a0), (1, .int x1)]) (by decide) rfl rfl ?_⟩
  intro M hMl K hret
  subst hMl
  refine g_aload_n K d_c10_end_0 0 rfl ?_
  obtain ⟨v1, e_v1, hy⟩ := gBd hy
  refine g_getR K fl_c10_10 d_c10_end_1 e_v1 ?_
  refine g_iload_n K d_c10_end_4 1 rfl ?_
  obtain ⟨q2, e_q2, hy⟩ := gBd hy
  refine g_callVi (rest := []) K hx ly_c8_cutTo kv_c10_104 d_c10_end_5 (ct_c8_cutTo M.2.1 X hx N v1 x1 h q2 e_q2) rfl rfl (Nat.le_of_ble_eq_true rfl) (gDep rfl) ⟨Nat.le_refl 0, Nat.le_refl 0⟩ ?_
  obtain ⟨w3, e_w3, hy⟩ := gBd hy
  obtain ⟨z_w3, n_w3⟩ := gZ_spec e_w3
  rw [z_w3]
  obtain rfl := Option.some.inj hy
  exact hret (gZn n_w3) _ _ _ d_c10_end_8
-- c10 isBestTalk
theorem d_c10_isBestTalk_0 : gD b_c10_isBestTalk 0 (.iload_n 0) 1 1 := ⟨by decide +kernel, rfl⟩
theorem d_c10_isBestTalk_1 : gD b_c10_isBestTalk 1 (.iload_n 1) 1 2 := ⟨by decide +kernel, rfl⟩
theorem d_c10_isBestTalk_2 : gD b_c10_isBestTalk 2 (.iload_n 2) 1 3 := ⟨by decide +kernel, rfl⟩
theorem d_c10_isBestTalk_3 : gD b_c10_isBestTalk 3 (.invokestatic 469) 3 6 := ⟨by decide +kernel, rfl⟩
theorem d_c10_isBestTalk_6 : gD b_c10_isBestTalk 6 (.istore_n 3) 1 7 := ⟨by decide +kernel, rfl⟩
theorem d_c10_isBestTalk_7 : gD b_c10_isBestTalk 7 (.iconst 0) 1 8 := ⟨by decide +kernel, rfl⟩
theorem d_c10_isBestTalk_8 : gD b_c10_isBestTalk 8 (.istore 4) 2 10 := ⟨by decide +kernel, rfl⟩
theorem d_c10_isBestTalk_10 : gD b_c10_isBestTalk 10 (.iload 4) 2 12 := ⟨by decide +kernel, rfl⟩
theorem d_c10_isBestTalk_12 : gD b_c10_isBestTalk 12 (.bipush 9) 2 14 := ⟨by decide +kernel, rfl⟩
theorem d_c10_isBestTalk_14 : gJ b_c10_isBestTalk 14 (.if_icmp .gt 22) 3 22 17 36 := ⟨by decide +kernel, rfl, by decide⟩
theorem d_c10_isBestTalk_17 : gD b_c10_isBestTalk 17 (.iload 4) 2 19 := ⟨by decide +kernel, rfl⟩
theorem d_c10_isBestTalk_19 : gD b_c10_isBestTalk 19 (.iload_n 1) 1 20 := ⟨by decide +kernel, rfl⟩
theorem d_c10_isBestTalk_20 : gD b_c10_isBestTalk 20 (.iload_n 2) 1 21 := ⟨by decide +kernel, rfl⟩
theorem d_c10_isBestTalk_21 : gD b_c10_isBestTalk 21 (.invokestatic 469) 3 24 := ⟨by decide +kernel, rfl⟩
theorem d_c10_isBestTalk_24 : gD b_c10_isBestTalk 24 (.iload_n 3) 1 25 := ⟨by decide +kernel, rfl⟩
theorem d_c10_isBestTalk_25 : gJ b_c10_isBestTalk 25 (.if_icmp .le 5) 3 5 28 30 := ⟨by decide +kernel, rfl, by decide⟩
theorem d_c10_isBestTalk_28 : gD b_c10_isBestTalk 28 (.iconst 0) 1 29 := ⟨by decide +kernel, rfl⟩
theorem d_c10_isBestTalk_29 : gD b_c10_isBestTalk 29 .ireturn 1 30 := ⟨by decide +kernel, rfl⟩
theorem d_c10_isBestTalk_30 : gD b_c10_isBestTalk 30 (.iinc 4 1) 3 33 := ⟨by decide +kernel, rfl⟩
theorem d_c10_isBestTalk_33 : gJ b_c10_isBestTalk 33 (.goto (-23)) 3 (-23) 36 10 := ⟨by decide +kernel, rfl, by decide⟩
theorem d_c10_isBestTalk_36 : gD b_c10_isBestTalk 36 (.iconst 1) 1 37 := ⟨by decide +kernel, rfl⟩
theorem d_c10_isBestTalk_37 : gD b_c10_isBestTalk 37 .ireturn 1 38 := ⟨by decide +kernel, rfl⟩
def lp_c10_isBestTalk_10 (N : Nat) (x1 : Int32) (x2 : Int32) (x3 : Int32) (h : gH) : Nat → Int32 → Option ((Int32) ⊕ (Unit))
  | 0, _ => none
  | k + 1, x4 =>
  if (9 : Int32) < x4 then
    some (.inr ())
  else
    (f_c10_talkIsWorth N x4 x1 x2 h).bind fun q3 =>
    if q3 ≤ x3 then
    lp_c10_isBestTalk_10 N x1 x2 x3 h k (x4 + (1 : Int32))
  else
    (gZ (0 : Int32)).bind fun w5 => some (.inl w5)
def f_c10_isBestTalk (N : Nat) (x0 : Int32) (x1 : Int32) (x2 : Int32) (h : gH) : Option (Int32) :=
  (f_c10_talkIsWorth N x0 x1 x2 h).bind fun q1 =>
    (lp_c10_isBestTalk_10 N x1 x2 q1 h N (0 : Int32)).bind fun o6 => Sum.elim (fun r8 => some r8) (fun t7 =>
    (gZ (1 : Int32)).bind fun w10 => some w10) o6
set_option maxHeartbeats 4000000 in
set_option maxRecDepth 100000 in
theorem wlp_c10_isBestTalk_10 {M : gM} {X : gX} {N : Nat} (hx : gEx X = false) (K : gC M X gN10 b_c10_isBestTalk 5 (gRm (2 + N) 0 0)) (x1 : Int32) (x2 : Int32) (x3 : Int32) (h : gH) : ∀ (k : Nat) (x4 : Int32) (o : (Int32) ⊕ (Unit)), lp_c10_isBestTalk_10 N x1 x2 x3 h k x4 = some o → (∀ t, o = .inr t → gG M X 5 0 0 36 [] [] h) → (∀ r, o = .inl r → (narrow .boolean (.int r) = .int r → ∀ pc pc' ls, gD b_c10_isBestTalk pc .ireturn 1 pc' → gG M X 5 0 0 pc ls [.int r] h)) → gG M X 5 0 0 10 [(1, .int x1), (2, .int x2), (3, .int x3), (4, .int x4)] [] h := by
  intro k
  induction k with
  | zero =>
    intro x4 o hy
    rw [lp_c10_isBestTalk_10.eq_1] at hy
    cases hy
  | succ k ih =>
    intro x4 o hy hE hR
    rw [lp_c10_isBestTalk_10.eq_2] at hy
    refine g_iload K d_c10_isBestTalk_10 3 rfl ?_
    refine g_bipush (v := 9) K d_c10_isBestTalk_12 (by decide) ?_
    refine g_icmp_gt K d_c10_isBestTalk_14 (fun c2 => ?_) (fun c2 => ?_)
    · rw [if_pos c2] at hy
      refine g_sub (ls2 := []) [] rfl ?_
      obtain rfl := Option.some.inj hy
      exact hE _ rfl
    · rw [if_neg c2] at hy
      refine g_iload K d_c10_isBestTalk_17 3 rfl ?_
      refine g_iload_n K d_c10_isBestTalk_19 0 rfl ?_
      refine g_iload_n K d_c10_isBestTalk_20 1 rfl ?_
      obtain ⟨q3, e_q3, hy⟩ := gBd hy
      refine g_callSi (rest := []) K hx ly_c10_talkIsWorth ks_c10_469 d_c10_isBestTalk_21 (ct_c10_talkIsWorth M.2.1 X hx N x4 x1 x2 h q3 e_q3) rfl rfl (Nat.le_of_ble_eq_true rfl) (gDep rfl) ⟨Nat.le_refl 0, Nat.le_refl 0⟩ ?_
      refine g_iload_n K d_c10_isBestTalk_24 2 rfl ?_
      refine g_icmp_le K d_c10_isBestTalk_25 (fun c4 => ?_) (fun c4 => ?_)
      · rw [if_pos c4] at hy
        refine g_iinc (ls2 := [(4, .int (x4 + (1 : Int32))), (1, .int x1), (2, .int x2), (3, .int x3)]) (v := 1) K d_c10_isBestTalk_30 3 rfl (by decide) rfl rfl ?_
        refine g_goto K d_c10_isBestTalk_33 ?_
        refine g_sub (ls2 := [(1, .int x1), (2, .int x2), (3, .int x3), (4, .int (x4 + (1 : Int32)))]) [1, 2, 3, 0] rfl ?_
        exact ih _ _ hy hE hR
      · rw [if_neg c4] at hy
        refine g_iconst (v := 0) K d_c10_isBestTalk_28 (by decide) ?_
        obtain ⟨w5, e_w5, hy⟩ := gBd hy
        obtain ⟨z_w5, n_w5⟩ := gZ_spec e_w5
        rw [z_w5]
        obtain rfl := Option.some.inj hy
        exact hR _ rfl (gZn n_w5) _ _ _ d_c10_isBestTalk_29
set_option maxHeartbeats 4000000 in
set_option maxRecDepth 100000 in
theorem ct_c10_isBestTalk (l : Launch) (X : gX) (hx : gEx X = false) (N : Nat) (x0 : Int32) (x1 : Int32) (x2 : Int32) (h : gH) (q : Int32) (hy : f_c10_isBestTalk N x0 x1 x2 h = some q) : gMi l X y_c10_isBestTalk b_c10_isBestTalk 5 .boolean (2 + N) 0 0 [.int x0, .int x1, .int x2] h q h := by
  unfold f_c10_isBestTalk at hy
  refine gMet_i (lsx := [(0, .int x0), (1, .int x1), (2, .int x2)]) (by decide) rfl rfl ?_
  intro M hMl K hret
  subst hMl
  refine g_iload_n K d_c10_isBestTalk_0 0 rfl ?_
  refine g_iload_n K d_c10_isBestTalk_1 1 rfl ?_
  refine g_iload_n K d_c10_isBestTalk_2 2 rfl ?_
  obtain ⟨q1, e_q1, hy⟩ := gBd hy
  refine g_callSi (rest := []) K hx ly_c10_talkIsWorth ks_c10_469 d_c10_isBestTalk_3 (ct_c10_talkIsWorth M.2.1 X hx N x0 x1 x2 h q1 e_q1) rfl rfl (Nat.le_of_ble_eq_true rfl) (gDep rfl) ⟨Nat.le_refl 0, Nat.le_refl 0⟩ ?_
  refine g_istore_n (ls2 := [(3, .int q1), (0, .int x0), (1, .int x1), (2, .int x2)]) K d_c10_isBestTalk_6 rfl rfl ?_
  refine g_iconst (v := 0) K d_c10_isBestTalk_7 (by decide) ?_
  refine g_istore (ls2 := [(4, .int (0 : Int32)), (3, .int q1), (0, .int x0), (1, .int x1), (2, .int x2)]) K d_c10_isBestTalk_8 rfl rfl ?_
  obtain ⟨o6, e_o6, hy⟩ := gBd hy
  refine g_sub (ls2 := [(1, .int x1), (2, .int x2), (3, .int q1), (4, .int (0 : Int32))]) [3, 4, 1, 0] rfl ?_
  refine wlp_c10_isBestTalk_10 hx K x1 x2 q1 h N (0 : Int32) o6 e_o6 (fun t7 e_t7 => ?_) (fun r8 e_r8 => ?_)
  · subst e_t7
    simp only [Sum.elim_inr] at hy
    refine g_iconst (v := 1) K d_c10_isBestTalk_36 (by decide) ?_
    obtain ⟨w10, e_w10, hy⟩ := gBd hy
    obtain ⟨z_w10, n_w10⟩ := gZ_spec e_w10
    rw [z_w10]
    obtain rfl := Option.some.inj hy
    exact hret (gZn n_w10) _ _ _ d_c10_isBestTalk_37
  · subst e_r8
    simp only [Sum.elim_inl] at hy
    intro hn pc9 pc9' ls9 hd9
    obtain rfl := Option.some.inj hy
    exact hret hn _ _ _ hd9
-- c10 put
theorem d_c10_put_0 : gD b_c10_put 0 (.iconst 0) 1 1 := ⟨by decide +kernel, rfl⟩
theorem d_c10_put_1 : gD b_c10_put 1 (.iload_n 1) 1 2 := ⟨by decide +kernel, rfl⟩
theorem d_c10_put_2 : gD b_c10_put 2 (.iload_n 0) 1 3 := ⟨by decide +kernel, rfl⟩
theorem d_c10_put_3 : gD b_c10_put 3 (.invokestatic 434) 3 6 := ⟨by decide +kernel, rfl⟩
theorem d_c10_put_6 : gD b_c10_put 6 (.invokestatic 362) 3 9 := ⟨by decide +kernel, rfl⟩
theorem d_c10_put_9 : gD b_c10_put 9 .ireturn 1 10 := ⟨by decide +kernel, rfl⟩
def f_c10_put (N : Nat) (x0 : Int32) (x1 : Int32) (h : gH) : Option (Int32) :=
  some (gmax (0 : Int32) (gmin x1 x0))
set_option maxHeartbeats 4000000 in
set_option maxRecDepth 100000 in
theorem ct_c10_put (l : Launch) (X : gX) (hx : gEx X = false) (N : Nat) (x0 : Int32) (x1 : Int32) (h : gH) (q : Int32) (hy : f_c10_put N x0 x1 h = some q) : gMi l X y_c10_put b_c10_put 2 .int (2 + N) 0 0 [.int x0, .int x1] h q h := by
  unfold f_c10_put at hy
  refine gMet_i (lsx := [(0, .int x0), (1, .int x1)]) (by decide) rfl rfl ?_
  intro M hMl K hret
  subst hMl
  refine g_iconst (v := 0) K d_c10_put_0 (by decide) ?_
  refine g_iload_n K d_c10_put_1 1 rfl ?_
  refine g_iload_n K d_c10_put_2 0 rfl ?_
  refine g_mmin K d_c10_put_3 (gTk_3 2 rfl rfl) (gTk_2 41 rfl rfl) (gTk_1 12 rfl rfl) (gTk_2 42 rfl rfl) (gDep1 rfl) (Nat.le_of_ble_eq_true rfl) ⟨Nat.le_refl 0, Nat.le_refl 0⟩ ?_
  refine g_mmax K d_c10_put_6 (gTk_3 3 rfl rfl) (gTk_2 82 rfl rfl) (gTk_1 12 rfl rfl) (gTk_2 83 rfl rfl) (gDep1 rfl) (Nat.le_of_ble_eq_true rfl) ⟨Nat.le_refl 0, Nat.le_refl 0⟩ ?_
  obtain rfl := Option.some.inj hy
  exact hret rfl _ _ _ d_c10_put_9
-- c10 row
theorem d_c10_row_0 : gD b_c10_row 0 (.iload_n 1) 1 1 := ⟨by decide +kernel, rfl⟩
theorem d_c10_row_1 : gJ b_c10_row 1 (.ifCond .lt 14) 3 14 4 15 := ⟨by decide +kernel, rfl, by decide⟩
theorem d_c10_row_4 : gD b_c10_row 4 (.iload_n 1) 1 5 := ⟨by decide +kernel, rfl⟩
theorem d_c10_row_5 : gD b_c10_row 5 (.aload_n 0) 1 6 := ⟨by decide +kernel, rfl⟩
theorem d_c10_row_6 : gD b_c10_row 6 (.getfield 19) 3 9 := ⟨by decide +kernel, rfl⟩
theorem d_c10_row_9 : gD b_c10_row 9 (.getfield 430) 3 12 := ⟨by decide +kernel, rfl⟩
theorem d_c10_row_12 : gJ b_c10_row 12 (.if_icmp .lt 11) 3 11 15 23 := ⟨by decide +kernel, rfl, by decide⟩
theorem d_c10_row_23 : gD b_c10_row 23 (.aload_n 0) 1 24 := ⟨by decide +kernel, rfl⟩
theorem d_c10_row_24 : gD b_c10_row 24 (.getfield 19) 3 27 := ⟨by decide +kernel, rfl⟩
theorem d_c10_row_27 : gD b_c10_row 27 (.getfield 431) 3 30 := ⟨by decide +kernel, rfl⟩
theorem d_c10_row_30 : gD b_c10_row 30 (.iload_n 1) 1 31 := ⟨by decide +kernel, rfl⟩
theorem d_c10_row_31 : gD b_c10_row 31 .laload 1 32 := ⟨by decide +kernel, rfl⟩
theorem d_c10_row_32 : gD b_c10_row 32 .lreturn 1 33 := ⟨by decide +kernel, rfl⟩
def f_c10_row (N : Nat) (a0 : Nat) (x1 : Int32) (h : gH) : Option (Int64) :=
  (gcl h a0 10).bind fun _ =>
  if x1 < 0 then
    none
  else
    (gfR h a0 10 1).bind fun v2 =>
    (gfI h v2 4 1).bind fun v3 =>
    if x1 < v3 then
    (gfR h a0 10 1).bind fun v5 =>
    (gfR h v5 4 0).bind fun v6 =>
    (gaL h v6 x1).bind fun v7 =>
    some v7
  else
    none
set_option maxHeartbeats 4000000 in
set_option maxRecDepth 100000 in
theorem ct_c10_row (l : Launch) (X : gX) (hx : gEx X = false) (N : Nat) (a0 : Nat) (x1 : Int32) (h : gH) (q : Int64) (hy : f_c10_row N a0 x1 h = some q) : gRc y_c10_row h a0 ∧ gMl l X y_c10_row b_c10_row 2 (2 + N) 0 0 [.ref a0, .int x1] h q h := by
  unfold f_c10_row at hy
  obtain ⟨u0, e_u0, hy⟩ := gBd hy
  cases u0
  refine ⟨Or.inl ⟨10, _, _, e_u0, rfl⟩, gMet_l (lsx := [(0, .ref a0), (1, .int x1)]) (by decide) rfl rfl ?_⟩
  intro M hMl K hret
  subst hMl
  refine g_iload_n K d_c10_row_0 1 rfl ?_
  refine g_if_lt K d_c10_row_1 (fun c1 => ?_) (fun c1 => ?_)
  · rw [if_pos c1] at hy
    cases hy
  · rw [if_neg c1] at hy
    refine g_iload_n K d_c10_row_4 1 rfl ?_
    refine g_aload_n K d_c10_row_5 0 rfl ?_
    obtain ⟨v2, e_v2, hy⟩ := gBd hy
    refine g_getR K fl_c10_19 d_c10_row_6 e_v2 ?_
    obtain ⟨v3, e_v3, hy⟩ := gBd hy
    refine g_getI K fl_c10_430 d_c10_row_9 e_v3 ?_
    refine g_icmp_lt K d_c10_row_12 (fun c4 => ?_) (fun c4 => ?_)
    · rw [if_pos c4] at hy
      refine g_aload_n K d_c10_row_23 0 rfl ?_
      obtain ⟨v5, e_v5, hy⟩ := gBd hy
      refine g_getR K fl_c10_19 d_c10_row_24 e_v5 ?_
      obtain ⟨v6, e_v6, hy⟩ := gBd hy
      refine g_getR K fl_c10_431 d_c10_row_27 e_v6 ?_
      refine g_iload_n K d_c10_row_30 1 rfl ?_
      obtain ⟨v7, e_v7, hy⟩ := gBd hy
      refine g_lald K d_c10_row_31 e_v7 ?_
      obtain rfl := Option.some.inj hy
      exact hret _ _ _ d_c10_row_32
    · rw [if_neg c4] at hy
      cases hy
-- c10 shares
theorem d_c10_shares_0 : gD b_c10_shares 0 (.iload_n 1) 1 1 := ⟨by decide +kernel, rfl⟩
theorem d_c10_shares_1 : gJ b_c10_shares 1 (.ifCond .lt 9) 3 9 4 10 := ⟨by decide +kernel, rfl, by decide⟩
theorem d_c10_shares_4 : gD b_c10_shares 4 (.iload_n 1) 1 5 := ⟨by decide +kernel, rfl⟩
theorem d_c10_shares_5 : gD b_c10_shares 5 (.bipush 99) 2 7 := ⟨by decide +kernel, rfl⟩
theorem d_c10_shares_7 : gJ b_c10_shares 7 (.if_icmp .le 5) 3 5 10 12 := ⟨by decide +kernel, rfl, by decide⟩
theorem d_c10_shares_10 : gD b_c10_shares 10 (.iconst (-1)) 1 11 := ⟨by decide +kernel, rfl⟩
theorem d_c10_shares_11 : gD b_c10_shares 11 .ireturn 1 12 := ⟨by decide +kernel, rfl⟩
theorem d_c10_shares_12 : gD b_c10_shares 12 (.aload_n 0) 1 13 := ⟨by decide +kernel, rfl⟩
theorem d_c10_shares_13 : gD b_c10_shares 13 (.getfield 19) 3 16 := ⟨by decide +kernel, rfl⟩
theorem d_c10_shares_16 : gD b_c10_shares 16 (.invokevirtual 284) 3 19 := ⟨by decide +kernel, rfl⟩
theorem d_c10_shares_19 : gD b_c10_shares 19 (.iconst 0) 1 20 := ⟨by decide +kernel, rfl⟩
theorem d_c10_shares_20 : gD b_c10_shares 20 (.istore_n 2) 1 21 := ⟨by decide +kernel, rfl⟩
theorem d_c10_shares_21 : gD b_c10_shares 21 (.iload_n 2) 1 22 := ⟨by decide +kernel, rfl⟩
theorem d_c10_shares_22 : gD b_c10_shares 22 (.aload_n 0) 1 23 := ⟨by decide +kernel, rfl⟩
theorem d_c10_shares_23 : gD b_c10_shares 23 (.getfield 26) 3 26 := ⟨by decide +kernel, rfl⟩
theorem d_c10_shares_26 : gD b_c10_shares 26 (.getfield 274) 3 29 := ⟨by decide +kernel, rfl⟩
theorem d_c10_shares_29 : gJ b_c10_shares 29 (.if_icmp .ge 17) 3 17 32 46 := ⟨by decide +kernel, rfl, by decide⟩
theorem d_c10_shares_32 : gD b_c10_shares 32 (.aload_n 0) 1 33 := ⟨by decide +kernel, rfl⟩
theorem d_c10_shares_33 : gD b_c10_shares 33 (.getfield 19) 3 36 := ⟨by decide +kernel, rfl⟩
theorem d_c10_shares_36 : gD b_c10_shares 36 (.lconst 0) 1 37 := ⟨by decide +kernel, rfl⟩
theorem d_c10_shares_37 : gD b_c10_shares 37 (.invokevirtual 290) 3 40 := ⟨by decide +kernel, rfl⟩
theorem d_c10_shares_40 : gD b_c10_shares 40 (.iinc 2 1) 3 43 := ⟨by decide +kernel, rfl⟩
theorem d_c10_shares_43 : gJ b_c10_shares 43 (.goto (-22)) 3 (-22) 46 21 := ⟨by decide +kernel, rfl, by decide⟩
theorem d_c10_shares_46 : gD b_c10_shares 46 (.iload_n 1) 1 47 := ⟨by decide +kernel, rfl⟩
theorem d_c10_shares_47 : gD b_c10_shares 47 (.istore_n 2) 1 48 := ⟨by decide +kernel, rfl⟩
theorem d_c10_shares_48 : gD b_c10_shares 48 (.iconst 1) 1 49 := ⟨by decide +kernel, rfl⟩
theorem d_c10_shares_49 : gD b_c10_shares 49 (.istore_n 3) 1 50 := ⟨by decide +kernel, rfl⟩
theorem d_c10_shares_50 : gD b_c10_shares 50 (.iload_n 3) 1 51 := ⟨by decide +kernel, rfl⟩
theorem d_c10_shares_51 : gD b_c10_shares 51 (.bipush 6) 2 53 := ⟨by decide +kernel, rfl⟩
theorem d_c10_shares_53 : gJ b_c10_shares 53 (.if_icmp .gt 62) 3 62 56 115 := ⟨by decide +kernel, rfl, by decide⟩
theorem d_c10_shares_56 : gD b_c10_shares 56 (.iconst 0) 1 57 := ⟨by decide +kernel, rfl⟩
theorem d_c10_shares_57 : gD b_c10_shares 57 (.istore 4) 2 59 := ⟨by decide +kernel, rfl⟩
theorem d_c10_shares_59 : gD b_c10_shares 59 (.iload 4) 2 61 := ⟨by decide +kernel, rfl⟩
theorem d_c10_shares_61 : gD b_c10_shares 61 (.aload_n 0) 1 62 := ⟨by decide +kernel, rfl⟩
theorem d_c10_shares_62 : gD b_c10_shares 62 (.getfield 26) 3 65 := ⟨by decide +kernel, rfl⟩
theorem d_c10_shares_65 : gD b_c10_shares 65 (.getfield 274) 3 68 := ⟨by decide +kernel, rfl⟩
theorem d_c10_shares_68 : gJ b_c10_shares 68 (.if_icmp .ge 41) 3 41 71 109 := ⟨by decide +kernel, rfl, by decide⟩
theorem d_c10_shares_71 : gD b_c10_shares 71 (.iload_n 2) 1 72 := ⟨by decide +kernel, rfl⟩
theorem d_c10_shares_72 : gJ b_c10_shares 72 (.ifCond .le 37) 3 37 75 109 := ⟨by decide +kernel, rfl, by decide⟩
theorem d_c10_shares_75 : gD b_c10_shares 75 (.aload_n 0) 1 76 := ⟨by decide +kernel, rfl⟩
theorem d_c10_shares_76 : gD b_c10_shares 76 (.getfield 26) 3 79 := ⟨by decide +kernel, rfl⟩
theorem d_c10_shares_79 : gD b_c10_shares 79 (.getfield 175) 3 82 := ⟨by decide +kernel, rfl⟩
theorem d_c10_shares_82 : gD b_c10_shares 82 (.iload 4) 2 84 := ⟨by decide +kernel, rfl⟩
theorem d_c10_shares_84 : gD b_c10_shares 84 .iaload 1 85 := ⟨by decide +kernel, rfl⟩
theorem d_c10_shares_85 : gD b_c10_shares 85 (.iload_n 3) 1 86 := ⟨by decide +kernel, rfl⟩
theorem d_c10_shares_86 : gJ b_c10_shares 86 (.if_icmp .lt 17) 3 17 89 103 := ⟨by decide +kernel, rfl, by decide⟩
theorem d_c10_shares_89 : gD b_c10_shares 89 (.aload_n 0) 1 90 := ⟨by decide +kernel, rfl⟩
theorem d_c10_shares_90 : gD b_c10_shares 90 (.getfield 19) 3 93 := ⟨by decide +kernel, rfl⟩
theorem d_c10_shares_93 : gD b_c10_shares 93 (.iload 4) 2 95 := ⟨by decide +kernel, rfl⟩
theorem d_c10_shares_95 : gD b_c10_shares 95 (.iload_n 3) 1 96 := ⟨by decide +kernel, rfl⟩
theorem d_c10_shares_96 : gD b_c10_shares 96 .i2l 1 97 := ⟨by decide +kernel, rfl⟩
theorem d_c10_shares_97 : gD b_c10_shares 97 (.invokevirtual 387) 3 100 := ⟨by decide +kernel, rfl⟩
theorem d_c10_shares_100 : gD b_c10_shares 100 (.iinc 2 (-1)) 3 103 := ⟨by decide +kernel, rfl⟩
theorem d_c10_shares_103 : gD b_c10_shares 103 (.iinc 4 1) 3 106 := ⟨by decide +kernel, rfl⟩
theorem d_c10_shares_106 : gJ b_c10_shares 106 (.goto (-47)) 3 (-47) 109 59 := ⟨by decide +kernel, rfl, by decide⟩
theorem d_c10_shares_109 : gD b_c10_shares 109 (.iinc 3 1) 3 112 := ⟨by decide +kernel, rfl⟩
theorem d_c10_shares_112 : gJ b_c10_shares 112 (.goto (-62)) 3 (-62) 115 50 := ⟨by decide +kernel, rfl, by decide⟩
theorem d_c10_shares_115 : gD b_c10_shares 115 (.iload_n 1) 1 116 := ⟨by decide +kernel, rfl⟩
theorem d_c10_shares_116 : gD b_c10_shares 116 (.iload_n 2) 1 117 := ⟨by decide +kernel, rfl⟩
theorem d_c10_shares_117 : gD b_c10_shares 117 .isub 1 118 := ⟨by decide +kernel, rfl⟩
theorem d_c10_shares_118 : gD b_c10_shares 118 .ireturn 1 119 := ⟨by decide +kernel, rfl⟩
def lp_c10_shares_21 (N : Nat) (a0 : Nat) : Nat → Int32 → gH → Option (gH)
  | 0, _, _ => none
  | k + 1, x2, h =>
  (gfR h a0 10 2).bind fun v5 =>
    (gfI h v5 1 2).bind fun v6 =>
    if v6 ≤ x2 then
    some h
  else
    (gfR h a0 10 1).bind fun v8 =>
    (f_c4_add N v8 (0 : Int64) h).bind fun q9 =>
    lp_c10_shares_21 N a0 k (x2 + (1 : Int32)) q9
def lp_c10_shares_59 (N : Nat) (a0 : Nat) (x3 : Int32) : Nat → Int32 → Int32 → gH → Option (Int32 × gH)
  | 0, _, _, _ => none
  | k + 1, x2, x4, h =>
  (gfR h a0 10 2).bind fun v12 =>
    (gfI h v12 1 2).bind fun v13 =>
    if v13 ≤ x4 then
    some (x2, h)
  else
    if x2 ≤ 0 then
    some (x2, h)
  else
    (gfR h a0 10 2).bind fun v16 =>
    (gfR h v16 1 4).bind fun v17 =>
    (ga 0 h v17 x4).bind fun v18 =>
    (show Option (Int32 × gH) from if v18 < x3 then
    some (x2, h)
  else
    (gfR h a0 10 1).bind fun v22 =>
    (f_c4_set N v22 x4 x3.toInt64 h).bind fun q23 =>
    some (x2 + (-1 : Int32), q23)).bind fun t20 =>
    lp_c10_shares_59 N a0 x3 k t20.1 (x4 + (1 : Int32)) t20.2
def lp_c10_shares_50 (N : Nat) (a0 : Nat) : Nat → Int32 → Int32 → gH → Option (Int32 × gH)
  | 0, _, _, _ => none
  | k + 1, x2, x3, h =>
  if (6 : Int32) < x3 then
    some (x2, h)
  else
    (lp_c10_shares_59 N a0 x3 N x2 (0 : Int32) h).bind fun o24 =>
    lp_c10_shares_50 N a0 k o24.1 (x3 + (1 : Int32)) o24.2
def f_c10_shares (N : Nat) (a0 : Nat) (x1 : Int32) (h : gH) : Option (Int32 × gH) :=
  (gcl h a0 10).bind fun _ =>
  if x1 < 0 then
    some ((-1 : Int32), h)
  else
    if x1 ≤ (99 : Int32) then
    (gfR h a0 10 1).bind fun v3 =>
    (f_c4_clear N v3 h).bind fun q4 =>
    (lp_c10_shares_21 N a0 N (0 : Int32) q4).bind fun o10 =>
    (lp_c10_shares_50 N a0 N x1 (1 : Int32) o10).bind fun o25 =>
    some (x1 - o25.1, o25.2)
  else
    some ((-1 : Int32), h)
set_option maxHeartbeats 4000000 in
set_option maxRecDepth 100000 in
theorem wlp_c10_shares_21 {M : gM} {X : gX} {N : Nat} (hx : gEx X = false) (K : gC M X gN10 b_c10_shares 5 (gRm (2 + N) 0 0)) (a0 : Nat) (x1 : Int32) : ∀ (k : Nat) (x2 : Int32) (h : gH) (o : gH), lp_c10_shares_21 N a0 k x2 h = some o → gG M X 5 0 0 46 [(0, .ref a0), (1, .int x1)] [] o → gG M X 5 0 0 21 [(0, .ref a0), (1, .int x1), (2, .int x2)] [] h := by
  intro k
  induction k with
  | zero =>
    intro x2 h o hy
    rw [lp_c10_shares_21.eq_1] at hy
    cases hy
  | succ k ih =>
    intro x2 h o hy hE
    rw [lp_c10_shares_21.eq_2] at hy
    refine g_iload_n K d_c10_shares_21 2 rfl ?_
    refine g_aload_n K d_c10_shares_22 0 rfl ?_
    obtain ⟨v5, e_v5, hy⟩ := gBd hy
    refine g_getR K fl_c10_26 d_c10_shares_23 e_v5 ?_
    obtain ⟨v6, e_v6, hy⟩ := gBd hy
    refine g_getI K fl_c10_274 d_c10_shares_26 e_v6 ?_
    refine g_icmp_ge K d_c10_shares_29 (fun c7 => ?_) (fun c7 => ?_)
    · rw [if_pos c7] at hy
      refine g_sub (ls2 := [(0, .ref a0), (1, .int x1)]) [0, 1] rfl ?_
      obtain rfl := Option.some.inj hy
      exact hE
    · rw [if_neg c7] at hy
      refine g_aload_n K d_c10_shares_32 0 rfl ?_
      obtain ⟨v8, e_v8, hy⟩ := gBd hy
      refine g_getR K fl_c10_19 d_c10_shares_33 e_v8 ?_
      refine g_lconst (v := 0) K d_c10_shares_36 (by decide) ?_
      obtain ⟨q9, e_q9, hy⟩ := gBd hy
      refine g_callVv (rest := []) K hx ly_c4_add kv_c10_290 d_c10_shares_37 (ct_c4_add M.2.1 X hx N v8 (0 : Int64) h q9 e_q9) rfl rfl (Nat.le_of_ble_eq_true rfl) (gDep rfl) ⟨Nat.le_refl 0, Nat.le_refl 0⟩ ?_
      refine g_iinc (ls2 := [(2, .int (x2 + (1 : Int32))), (0, .ref a0), (1, .int x1)]) (v := 1) K d_c10_shares_40 2 rfl (by decide) rfl rfl ?_
      refine g_goto K d_c10_shares_43 ?_
      refine g_sub (ls2 := [(0, .ref a0), (1, .int x1), (2, .int (x2 + (1 : Int32)))]) [1, 2, 0] rfl ?_
      exact ih _ _ _ hy hE
set_option maxHeartbeats 4000000 in
set_option maxRecDepth 100000 in
theorem wlp_c10_shares_59 {M : gM} {X : gX} {N : Nat} (hx : gEx X = false) (K : gC M X gN10 b_c10_shares 5 (gRm (2 + N) 0 0)) (a0 : Nat) (x3 : Int32) (x1 : Int32) : ∀ (k : Nat) (x2 : Int32) (x4 : Int32) (h : gH) (o : Int32 × gH), lp_c10_shares_59 N a0 x3 k x2 x4 h = some o → gG M X 5 0 0 109 [(0, .ref a0), (1, .int x1), (2, .int o.1), (3, .int x3)] [] o.2 → gG M X 5 0 0 59 [(0, .ref a0), (1, .int x1), (2, .int x2), (3, .int x3), (4, .int x4)] [] h := by
  intro k
  induction k with
  | zero =>
    intro x2 x4 h o hy
    rw [lp_c10_shares_59.eq_1] at hy
    cases hy
  | succ k ih =>
    intro x2 x4 h o hy hE
    rw [lp_c10_shares_59.eq_2] at hy
    refine g_iload K d_c10_shares_59 4 rfl ?_
    refine g_aload_n K d_c10_shares_61 0 rfl ?_
    obtain ⟨v12, e_v12, hy⟩ := gBd hy
    refine g_getR K fl_c10_26 d_c10_shares_62 e_v12 ?_
    obtain ⟨v13, e_v13, hy⟩ := gBd hy
    refine g_getI K fl_c10_274 d_c10_shares_65 e_v13 ?_
    refine g_icmp_ge K d_c10_shares_68 (fun c14 => ?_) (fun c14 => ?_)
    · rw [if_pos c14] at hy
      refine g_sub (ls2 := [(0, .ref a0), (1, .int x1), (2, .int x2), (3, .int x3)]) [0, 1, 2, 3] rfl ?_
      obtain rfl := Option.some.inj hy
      exact hE
    · rw [if_neg c14] at hy
      refine g_iload_n K d_c10_shares_71 2 rfl ?_
      refine g_if_le K d_c10_shares_72 (fun c15 => ?_) (fun c15 => ?_)
      · rw [if_pos c15] at hy
        refine g_sub (ls2 := [(0, .ref a0), (1, .int x1), (2, .int x2), (3, .int x3)]) [0, 1, 2, 3] rfl ?_
        obtain rfl := Option.some.inj hy
        exact hE
      · rw [if_neg c15] at hy
        refine g_aload_n K d_c10_shares_75 0 rfl ?_
        obtain ⟨v16, e_v16, hy⟩ := gBd hy
        refine g_getR K fl_c10_26 d_c10_shares_76 e_v16 ?_
        obtain ⟨v17, e_v17, hy⟩ := gBd hy
        refine g_getR K fl_c10_175 d_c10_shares_79 e_v17 ?_
        refine g_iload K d_c10_shares_82 4 rfl ?_
        obtain ⟨v18, e_v18, hy⟩ := gBd hy
        refine g_iald K d_c10_shares_84 e_v18 ?_
        refine g_iload_n K d_c10_shares_85 3 rfl ?_
        obtain ⟨t20, e_t20, hy⟩ := gBd hy
        have hJ21 : gG M X 5 0 0 103 [(0, .ref a0), (1, .int x1), (2, .int t20.1), (3, .int x3), (4, .int x4)] [] t20.2 := by
          refine g_iinc (ls2 := [(4, .int (x4 + (1 : Int32))), (0, .ref a0), (1, .int x1), (2, .int t20.1), (3, .int x3)]) (v := 1) K d_c10_shares_103 4 rfl (by decide) rfl rfl ?_
          refine g_goto K d_c10_shares_106 ?_
          refine g_sub (ls2 := [(0, .ref a0), (1, .int x1), (2, .int t20.1), (3, .int x3), (4, .int (x4 + (1 : Int32)))]) [1, 2, 3, 4, 0] rfl ?_
          exact ih _ _ _ _ hy hE
        refine g_icmp_lt K d_c10_shares_86 (fun c19 => ?_) (fun c19 => ?_)
        · rw [if_pos c19] at e_t20
          obtain rfl := Option.some.inj e_t20
          exact hJ21
        · rw [if_neg c19] at e_t20
          refine g_aload_n K d_c10_shares_89 0 rfl ?_
          obtain ⟨v22, e_v22, e_t20⟩ := gBd e_t20
          refine g_getR K fl_c10_19 d_c10_shares_90 e_v22 ?_
          refine g_iload K d_c10_shares_93 4 rfl ?_
          refine g_iload_n K d_c10_shares_95 3 rfl ?_
          refine g_i2l K d_c10_shares_96 ?_
          obtain ⟨q23, e_q23, e_t20⟩ := gBd e_t20
          refine g_callVv (rest := []) K hx ly_c4_set kv_c10_387 d_c10_shares_97 (ct_c4_set M.2.1 X hx N v22 x4 x3.toInt64 h q23 e_q23) rfl rfl (Nat.le_of_ble_eq_true rfl) (gDep rfl) ⟨Nat.le_refl 0, Nat.le_refl 0⟩ ?_
          refine g_iinc (ls2 := [(2, .int (x2 + (-1 : Int32))), (0, .ref a0), (1, .int x1), (3, .int x3), (4, .int x4)]) (v := (-1)) K d_c10_shares_100 2 rfl (by decide) rfl rfl ?_
          refine g_sub (ls2 := [(0, .ref a0), (1, .int x1), (2, .int (x2 + (-1 : Int32))), (3, .int x3), (4, .int x4)]) [1, 2, 0, 3, 4] rfl ?_
          obtain rfl := Option.some.inj e_t20
          exact hJ21
set_option maxHeartbeats 4000000 in
set_option maxRecDepth 100000 in
theorem wlp_c10_shares_50 {M : gM} {X : gX} {N : Nat} (hx : gEx X = false) (K : gC M X gN10 b_c10_shares 5 (gRm (2 + N) 0 0)) (a0 : Nat) (x1 : Int32) : ∀ (k : Nat) (x2 : Int32) (x3 : Int32) (h : gH) (o : Int32 × gH), lp_c10_shares_50 N a0 k x2 x3 h = some o → gG M X 5 0 0 115 [(1, .int x1), (2, .int o.1)] [] o.2 → gG M X 5 0 0 50 [(0, .ref a0), (1, .int x1), (2, .int x2), (3, .int x3)] [] h := by
  intro k
  induction k with
  | zero =>
    intro x2 x3 h o hy
    rw [lp_c10_shares_50.eq_1] at hy
    cases hy
  | succ k ih =>
    intro x2 x3 h o hy hE
    rw [lp_c10_shares_50.eq_2] at hy
    refine g_iload_n K d_c10_shares_50 3 rfl ?_
    refine g_bipush (v := 6) K d_c10_shares_51 (by decide) ?_
    refine g_icmp_gt K d_c10_shares_53 (fun c11 => ?_) (fun c11 => ?_)
    · rw [if_pos c11] at hy
      refine g_sub (ls2 := [(1, .int x1), (2, .int x2)]) [1, 2] rfl ?_
      obtain rfl := Option.some.inj hy
      exact hE
    · rw [if_neg c11] at hy
      refine g_iconst (v := 0) K d_c10_shares_56 (by decide) ?_
      refine g_istore (ls2 := [(4, .int (0 : Int32)), (0, .ref a0), (1, .int x1), (2, .int x2), (3, .int x3)]) K d_c10_shares_57 rfl rfl ?_
      obtain ⟨o24, e_o24, hy⟩ := gBd hy
      refine g_sub (ls2 := [(0, .ref a0), (1, .int x1), (2, .int x2), (3, .int x3), (4, .int (0 : Int32))]) [1, 2, 3, 4, 0] rfl ?_
      refine wlp_c10_shares_59 hx K a0 x3 x1 N x2 (0 : Int32) h o24 e_o24 ?_
      refine g_iinc (ls2 := [(3, .int (x3 + (1 : Int32))), (0, .ref a0), (1, .int x1), (2, .int o24.1)]) (v := 1) K d_c10_shares_109 3 rfl (by decide) rfl rfl ?_
      refine g_goto K d_c10_shares_112 ?_
      refine g_sub (ls2 := [(0, .ref a0), (1, .int x1), (2, .int o24.1), (3, .int (x3 + (1 : Int32)))]) [1, 2, 3, 0] rfl ?_
      exact ih _ _ _ _ hy hE
set_option maxHeartbeats 4000000 in
set_option maxRecDepth 100000 in
theorem ct_c10_shares (l : Launch) (X : gX) (hx : gEx X = false) (N : Nat) (a0 : Nat) (x1 : Int32) (h : gH) (q : Int32 × gH) (hy : f_c10_shares N a0 x1 h = some q) : gRc y_c10_shares h a0 ∧ gMi l X y_c10_shares b_c10_shares 5 .int (2 + N) 0 0 [.ref a0, .int x1] h q.1 q.2 := by
  unfold f_c10_shares at hy
  obtain ⟨u0, e_u0, hy⟩ := gBd hy
  cases u0
  refine ⟨Or.inl ⟨10, _, _, e_u0, rfl⟩, gMet_i (lsx := [(0, .ref a0), (1, .int x1)]) (by decide) rfl rfl ?_⟩
  intro M hMl K hret
  subst hMl
  refine g_iload_n K d_c10_shares_0 1 rfl ?_
  refine g_if_lt K d_c10_shares_1 (fun c1 => ?_) (fun c1 => ?_)
  · rw [if_pos c1] at hy
    refine g_iconst (v := (-1)) K d_c10_shares_10 (by decide) ?_
    obtain rfl := Option.some.inj hy
    exact hret rfl _ _ _ d_c10_shares_11
  · rw [if_neg c1] at hy
    refine g_iload_n K d_c10_shares_4 1 rfl ?_
    refine g_bipush (v := 99) K d_c10_shares_5 (by decide) ?_
    refine g_icmp_le K d_c10_shares_7 (fun c2 => ?_) (fun c2 => ?_)
    · rw [if_pos c2] at hy
      refine g_aload_n K d_c10_shares_12 0 rfl ?_
      obtain ⟨v3, e_v3, hy⟩ := gBd hy
      refine g_getR K fl_c10_19 d_c10_shares_13 e_v3 ?_
      obtain ⟨q4, e_q4, hy⟩ := gBd hy
      refine g_callVv (rest := []) K hx ly_c4_clear kv_c10_284 d_c10_shares_16 (ct_c4_clear M.2.1 X hx N v3 h q4 e_q4) rfl rfl (Nat.le_of_ble_eq_true rfl) (gDep rfl) ⟨Nat.le_refl 0, Nat.le_refl 0⟩ ?_
      refine g_iconst (v := 0) K d_c10_shares_19 (by decide) ?_
      refine g_istore_n (ls2 := [(2, .int (0 : Int32)), (0, .ref a0), (1, .int x1)]) K d_c10_shares_20 rfl rfl ?_
      obtain ⟨o10, e_o10, hy⟩ := gBd hy
      refine g_sub (ls2 := [(0, .ref a0), (1, .int x1), (2, .int (0 : Int32))]) [1, 2, 0] rfl ?_
      refine wlp_c10_shares_21 hx K a0 x1 N (0 : Int32) q4 o10 e_o10 ?_
      refine g_iload_n K d_c10_shares_46 1 rfl ?_
      refine g_istore_n (ls2 := [(2, .int x1), (0, .ref a0), (1, .int x1)]) K d_c10_shares_47 rfl rfl ?_
      refine g_iconst (v := 1) K d_c10_shares_48 (by decide) ?_
      refine g_istore_n (ls2 := [(3, .int (1 : Int32)), (2, .int x1), (0, .ref a0), (1, .int x1)]) K d_c10_shares_49 rfl rfl ?_
      obtain ⟨o25, e_o25, hy⟩ := gBd hy
      refine g_sub (ls2 := [(0, .ref a0), (1, .int x1), (2, .int x1), (3, .int (1 : Int32))]) [2, 3, 1, 0] rfl ?_
      refine wlp_c10_shares_50 hx K a0 x1 N x1 (1 : Int32) o10 o25 e_o25 ?_
      refine g_iload_n K d_c10_shares_115 0 rfl ?_
      refine g_iload_n K d_c10_shares_116 1 rfl ?_
      refine g_isub K d_c10_shares_117 ?_
      obtain rfl := Option.some.inj hy
      exact hret rfl _ _ _ d_c10_shares_118
    · rw [if_neg c2] at hy
      refine g_iconst (v := (-1)) K d_c10_shares_10 (by decide) ?_
      obtain rfl := Option.some.inj hy
      exact hret rfl _ _ _ d_c10_shares_11
-- c10 sideFrom
theorem d_c10_sideFrom_0 : gD b_c10_sideFrom 0 (.aload_n 0) 1 1 := ⟨by decide +kernel, rfl⟩
theorem d_c10_sideFrom_1 : gD b_c10_sideFrom 1 (.getfield 26) 3 4 := ⟨by decide +kernel, rfl⟩
theorem d_c10_sideFrom_4 : gD b_c10_sideFrom 4 (.iload_n 1) 1 5 := ⟨by decide +kernel, rfl⟩
theorem d_c10_sideFrom_5 : gD b_c10_sideFrom 5 (.invokevirtual 463) 3 8 := ⟨by decide +kernel, rfl⟩
theorem d_c10_sideFrom_8 : gD b_c10_sideFrom 8 (.istore_n 2) 1 9 := ⟨by decide +kernel, rfl⟩
theorem d_c10_sideFrom_9 : gD b_c10_sideFrom 9 (.aload_n 0) 1 10 := ⟨by decide +kernel, rfl⟩
theorem d_c10_sideFrom_10 : gD b_c10_sideFrom 10 (.getfield 26) 3 13 := ⟨by decide +kernel, rfl⟩
theorem d_c10_sideFrom_13 : gD b_c10_sideFrom 13 (.iload_n 1) 1 14 := ⟨by decide +kernel, rfl⟩
theorem d_c10_sideFrom_14 : gD b_c10_sideFrom 14 (.invokevirtual 466) 3 17 := ⟨by decide +kernel, rfl⟩
theorem d_c10_sideFrom_17 : gD b_c10_sideFrom 17 (.istore_n 3) 1 18 := ⟨by decide +kernel, rfl⟩
theorem d_c10_sideFrom_18 : gD b_c10_sideFrom 18 (.aload_n 0) 1 19 := ⟨by decide +kernel, rfl⟩
theorem d_c10_sideFrom_19 : gD b_c10_sideFrom 19 (.getfield 26) 3 22 := ⟨by decide +kernel, rfl⟩
theorem d_c10_sideFrom_22 : gD b_c10_sideFrom 22 (.getfield 414) 3 25 := ⟨by decide +kernel, rfl⟩
theorem d_c10_sideFrom_25 : gD b_c10_sideFrom 25 (.iload_n 2) 1 26 := ⟨by decide +kernel, rfl⟩
theorem d_c10_sideFrom_26 : gD b_c10_sideFrom 26 .isub 1 27 := ⟨by decide +kernel, rfl⟩
theorem d_c10_sideFrom_27 : gD b_c10_sideFrom 27 (.aload_n 0) 1 28 := ⟨by decide +kernel, rfl⟩
theorem d_c10_sideFrom_28 : gD b_c10_sideFrom 28 (.getfield 26) 3 31 := ⟨by decide +kernel, rfl⟩
theorem d_c10_sideFrom_31 : gD b_c10_sideFrom 31 (.getfield 417) 3 34 := ⟨by decide +kernel, rfl⟩
theorem d_c10_sideFrom_34 : gD b_c10_sideFrom 34 (.iload_n 3) 1 35 := ⟨by decide +kernel, rfl⟩
theorem d_c10_sideFrom_35 : gD b_c10_sideFrom 35 .isub 1 36 := ⟨by decide +kernel, rfl⟩
theorem d_c10_sideFrom_36 : gD b_c10_sideFrom 36 (.invokestatic 434) 3 39 := ⟨by decide +kernel, rfl⟩
theorem d_c10_sideFrom_39 : gD b_c10_sideFrom 39 (.istore 4) 2 41 := ⟨by decide +kernel, rfl⟩
theorem d_c10_sideFrom_41 : gD b_c10_sideFrom 41 (.iconst 0) 1 42 := ⟨by decide +kernel, rfl⟩
theorem d_c10_sideFrom_42 : gD b_c10_sideFrom 42 (.istore 5) 2 44 := ⟨by decide +kernel, rfl⟩
theorem d_c10_sideFrom_44 : gD b_c10_sideFrom 44 (.iload 5) 2 46 := ⟨by decide +kernel, rfl⟩
theorem d_c10_sideFrom_46 : gD b_c10_sideFrom 46 (.aload_n 0) 1 47 := ⟨by decide +kernel, rfl⟩
theorem d_c10_sideFrom_47 : gD b_c10_sideFrom 47 (.getfield 33) 3 50 := ⟨by decide +kernel, rfl⟩
theorem d_c10_sideFrom_50 : gD b_c10_sideFrom 50 (.getfield 132) 3 53 := ⟨by decide +kernel, rfl⟩
theorem d_c10_sideFrom_53 : gJ b_c10_sideFrom 53 (.if_icmp .ge 75) 3 75 56 128 := ⟨by decide +kernel, rfl, by decide⟩
theorem d_c10_sideFrom_56 : gD b_c10_sideFrom 56 (.aload_n 0) 1 57 := ⟨by decide +kernel, rfl⟩
theorem d_c10_sideFrom_57 : gD b_c10_sideFrom 57 (.getfield 26) 3 60 := ⟨by decide +kernel, rfl⟩
theorem d_c10_sideFrom_60 : gD b_c10_sideFrom 60 (.aload_n 0) 1 61 := ⟨by decide +kernel, rfl⟩
theorem d_c10_sideFrom_61 : gD b_c10_sideFrom 61 (.getfield 33) 3 64 := ⟨by decide +kernel, rfl⟩
theorem d_c10_sideFrom_64 : gD b_c10_sideFrom 64 (.getfield 144) 3 67 := ⟨by decide +kernel, rfl⟩
theorem d_c10_sideFrom_67 : gD b_c10_sideFrom 67 (.iload 5) 2 69 := ⟨by decide +kernel, rfl⟩
theorem d_c10_sideFrom_69 : gD b_c10_sideFrom 69 .iaload 1 70 := ⟨by decide +kernel, rfl⟩
theorem d_c10_sideFrom_70 : gD b_c10_sideFrom 70 (.invokevirtual 463) 3 73 := ⟨by decide +kernel, rfl⟩
theorem d_c10_sideFrom_73 : gD b_c10_sideFrom 73 (.iload_n 2) 1 74 := ⟨by decide +kernel, rfl⟩
theorem d_c10_sideFrom_74 : gD b_c10_sideFrom 74 .isub 1 75 := ⟨by decide +kernel, rfl⟩
theorem d_c10_sideFrom_75 : gD b_c10_sideFrom 75 (.istore 6) 2 77 := ⟨by decide +kernel, rfl⟩
theorem d_c10_sideFrom_77 : gD b_c10_sideFrom 77 (.aload_n 0) 1 78 := ⟨by decide +kernel, rfl⟩
theorem d_c10_sideFrom_78 : gD b_c10_sideFrom 78 (.getfield 26) 3 81 := ⟨by decide +kernel, rfl⟩
theorem d_c10_sideFrom_81 : gD b_c10_sideFrom 81 (.aload_n 0) 1 82 := ⟨by decide +kernel, rfl⟩
theorem d_c10_sideFrom_82 : gD b_c10_sideFrom 82 (.getfield 33) 3 85 := ⟨by decide +kernel, rfl⟩
theorem d_c10_sideFrom_85 : gD b_c10_sideFrom 85 (.getfield 144) 3 88 := ⟨by decide +kernel, rfl⟩
theorem d_c10_sideFrom_88 : gD b_c10_sideFrom 88 (.iload 5) 2 90 := ⟨by decide +kernel, rfl⟩
theorem d_c10_sideFrom_90 : gD b_c10_sideFrom 90 .iaload 1 91 := ⟨by decide +kernel, rfl⟩
theorem d_c10_sideFrom_91 : gD b_c10_sideFrom 91 (.invokevirtual 466) 3 94 := ⟨by decide +kernel, rfl⟩
theorem d_c10_sideFrom_94 : gD b_c10_sideFrom 94 (.iload_n 3) 1 95 := ⟨by decide +kernel, rfl⟩
theorem d_c10_sideFrom_95 : gD b_c10_sideFrom 95 .isub 1 96 := ⟨by decide +kernel, rfl⟩
theorem d_c10_sideFrom_96 : gD b_c10_sideFrom 96 (.istore 7) 2 98 := ⟨by decide +kernel, rfl⟩
theorem d_c10_sideFrom_98 : gD b_c10_sideFrom 98 (.iload 6) 2 100 := ⟨by decide +kernel, rfl⟩
theorem d_c10_sideFrom_100 : gJ b_c10_sideFrom 100 (.ifCond .lt 22) 3 22 103 122 := ⟨by decide +kernel, rfl, by decide⟩
theorem d_c10_sideFrom_103 : gD b_c10_sideFrom 103 (.iload 7) 2 105 := ⟨by decide +kernel, rfl⟩
theorem d_c10_sideFrom_105 : gJ b_c10_sideFrom 105 (.ifCond .lt 17) 3 17 108 122 := ⟨by decide +kernel, rfl, by decide⟩
theorem d_c10_sideFrom_108 : gD b_c10_sideFrom 108 (.iload 4) 2 110 := ⟨by decide +kernel, rfl⟩
theorem d_c10_sideFrom_110 : gD b_c10_sideFrom 110 (.iload 6) 2 112 := ⟨by decide +kernel, rfl⟩
theorem d_c10_sideFrom_112 : gD b_c10_sideFrom 112 (.iload 7) 2 114 := ⟨by decide +kernel, rfl⟩
theorem d_c10_sideFrom_114 : gD b_c10_sideFrom 114 (.invokestatic 362) 3 117 := ⟨by decide +kernel, rfl⟩
theorem d_c10_sideFrom_117 : gD b_c10_sideFrom 117 (.invokestatic 434) 3 120 := ⟨by decide +kernel, rfl⟩
theorem d_c10_sideFrom_120 : gD b_c10_sideFrom 120 (.istore 4) 2 122 := ⟨by decide +kernel, rfl⟩
theorem d_c10_sideFrom_122 : gD b_c10_sideFrom 122 (.iinc 5 1) 3 125 := ⟨by decide +kernel, rfl⟩
theorem d_c10_sideFrom_125 : gJ b_c10_sideFrom 125 (.goto (-81)) 3 (-81) 128 44 := ⟨by decide +kernel, rfl, by decide⟩
theorem d_c10_sideFrom_128 : gD b_c10_sideFrom 128 (.iload 4) 2 130 := ⟨by decide +kernel, rfl⟩
theorem d_c10_sideFrom_130 : gD b_c10_sideFrom 130 .ireturn 1 131 := ⟨by decide +kernel, rfl⟩
def lp_c10_sideFrom_44 (N : Nat) (a0 : Nat) (x2 : Int32) (x3 : Int32) (h : gH) : Nat → Int32 → Int32 → Option (Int32)
  | 0, _, _ => none
  | k + 1, x4, x5 =>
  (gfR h a0 10 3).bind fun v9 =>
    (gfI h v9 7 0).bind fun v10 =>
    if v10 ≤ x5 then
    some x4
  else
    (gfR h a0 10 2).bind fun v12 =>
    (gfR h a0 10 3).bind fun v13 =>
    (gfR h v13 7 1).bind fun v14 =>
    (ga 0 h v14 x5).bind fun v15 =>
    (f_c1_rowOf N v12 v15 h).bind fun q16 =>
    (gfR h a0 10 2).bind fun v17 =>
    (gfR h a0 10 3).bind fun v18 =>
    (gfR h v18 7 1).bind fun v19 =>
    (ga 0 h v19 x5).bind fun v20 =>
    (f_c1_columnOf N v17 v20 h).bind fun q21 =>
    (show Option (Int32) from if (q16 - x2) < 0 then
    some x4
  else
    if (q21 - x3) < 0 then
    some x4
  else
    some (gmin x4 (gmax (q16 - x2) (q21 - x3)))).bind fun t23 =>
    lp_c10_sideFrom_44 N a0 x2 x3 h k t23 (x5 + (1 : Int32))
def f_c10_sideFrom (N : Nat) (a0 : Nat) (x1 : Int32) (h : gH) : Option (Int32) :=
  (gcl h a0 10).bind fun _ =>
  (gfR h a0 10 2).bind fun v1 =>
    (f_c1_rowOf N v1 x1 h).bind fun q2 =>
    (gfR h a0 10 2).bind fun v3 =>
    (f_c1_columnOf N v3 x1 h).bind fun q4 =>
    (gfR h a0 10 2).bind fun v5 =>
    (gfI h v5 1 0).bind fun v6 =>
    (gfR h a0 10 2).bind fun v7 =>
    (gfI h v7 1 1).bind fun v8 =>
    (lp_c10_sideFrom_44 N a0 q2 q4 h N (gmin (v6 - q2) (v8 - q4)) (0 : Int32)).bind fun o26 =>
    some o26
set_option maxHeartbeats 4000000 in
set_option maxRecDepth 100000 in
theorem wlp_c10_sideFrom_44 {M : gM} {X : gX} {N : Nat} (hx : gEx X = false) (K : gC M X gN10 b_c10_sideFrom 8 (gRm (2 + N) 0 0)) (a0 : Nat) (x2 : Int32) (x3 : Int32) (h : gH) : ∀ (k : Nat) (x4 : Int32) (x5 : Int32) (o : Int32), lp_c10_sideFrom_44 N a0 x2 x3 h k x4 x5 = some o → gG M X 8 0 0 128 [(4, .int o)] [] h → gG M X 8 0 0 44 [(0, .ref a0), (2, .int x2), (3, .int x3), (4, .int x4), (5, .int x5)] [] h := by
  intro k
  induction k with
  | zero =>
    intro x4 x5 o hy
    rw [lp_c10_sideFrom_44.eq_1] at hy
    cases hy
  | succ k ih =>
    intro x4 x5 o hy hE
    rw [lp_c10_sideFrom_44.eq_2] at hy
    refine g_iload K d_c10_sideFrom_44 4 rfl ?_
    refine g_aload_n K d_c10_sideFrom_46 0 rfl ?_
    obtain ⟨v9, e_v9, hy⟩ := gBd hy
    refine g_getR K fl_c10_33 d_c10_sideFrom_47 e_v9 ?_
    obtain ⟨v10, e_v10, hy⟩ := gBd hy
    refine g_getI K fl_c10_132 d_c10_sideFrom_50 e_v10 ?_
    refine g_icmp_ge K d_c10_sideFrom_53 (fun c11 => ?_) (fun c11 => ?_)
    · rw [if_pos c11] at hy
      refine g_sub (ls2 := [(4, .int x4)]) [3] rfl ?_
      obtain rfl := Option.some.inj hy
      exact hE
    · rw [if_neg c11] at hy
      refine g_aload_n K d_c10_sideFrom_56 0 rfl ?_
      obtain ⟨v12, e_v12, hy⟩ := gBd hy
      refine g_getR K fl_c10_26 d_c10_sideFrom_57 e_v12 ?_
      refine g_aload_n K d_c10_sideFrom_60 0 rfl ?_
      obtain ⟨v13, e_v13, hy⟩ := gBd hy
      refine g_getR K fl_c10_33 d_c10_sideFrom_61 e_v13 ?_
      obtain ⟨v14, e_v14, hy⟩ := gBd hy
      refine g_getR K fl_c10_144 d_c10_sideFrom_64 e_v14 ?_
      refine g_iload K d_c10_sideFrom_67 4 rfl ?_
      obtain ⟨v15, e_v15, hy⟩ := gBd hy
      refine g_iald K d_c10_sideFrom_69 e_v15 ?_
      obtain ⟨q16, e_q16, hy⟩ := gBd hy
      refine g_callVi (rest := []) K hx ly_c1_rowOf kv_c10_463 d_c10_sideFrom_70 (ct_c1_rowOf M.2.1 X hx N v12 v15 h q16 e_q16) rfl rfl (Nat.le_of_ble_eq_true rfl) (gDep rfl) ⟨Nat.le_refl 0, Nat.le_refl 0⟩ ?_
      refine g_iload_n K d_c10_sideFrom_73 1 rfl ?_
      refine g_isub K d_c10_sideFrom_74 ?_
      refine g_istore (ls2 := [(6, .int (q16 - x2)), (0, .ref a0), (2, .int x2), (3, .int x3), (4, .int x4), (5, .int x5)]) K d_c10_sideFrom_75 rfl rfl ?_
      refine g_aload_n K d_c10_sideFrom_77 1 rfl ?_
      obtain ⟨v17, e_v17, hy⟩ := gBd hy
      refine g_getR K fl_c10_26 d_c10_sideFrom_78 e_v17 ?_
      refine g_aload_n K d_c10_sideFrom_81 1 rfl ?_
      obtain ⟨v18, e_v18, hy⟩ := gBd hy
      refine g_getR K fl_c10_33 d_c10_sideFrom_82 e_v18 ?_
      obtain ⟨v19, e_v19, hy⟩ := gBd hy
      refine g_getR K fl_c10_144 d_c10_sideFrom_85 e_v19 ?_
      refine g_iload K d_c10_sideFrom_88 5 rfl ?_
      obtain ⟨v20, e_v20, hy⟩ := gBd hy
      refine g_iald K d_c10_sideFrom_90 e_v20 ?_
      obtain ⟨q21, e_q21, hy⟩ := gBd hy
      refine g_callVi (rest := []) K hx ly_c1_columnOf kv_c10_466 d_c10_sideFrom_91 (ct_c1_columnOf M.2.1 X hx N v17 v20 h q21 e_q21) rfl rfl (Nat.le_of_ble_eq_true rfl) (gDep rfl) ⟨Nat.le_refl 0, Nat.le_refl 0⟩ ?_
      refine g_iload_n K d_c10_sideFrom_94 3 rfl ?_
      refine g_isub K d_c10_sideFrom_95 ?_
      refine g_istore (ls2 := [(7, .int (q21 - x3)), (6, .int (q16 - x2)), (0, .ref a0), (2, .int x2), (3, .int x3), (4, .int x4), (5, .int x5)]) K d_c10_sideFrom_96 rfl rfl ?_
      refine g_iload K d_c10_sideFrom_98 1 rfl ?_
      obtain ⟨t23, e_t23, hy⟩ := gBd hy
      have hJ24 : gG M X 8 0 0 122 [(0, .ref a0), (2, .int x2), (3, .int x3), (4, .int t23), (5, .int x5)] [] h := by
        refine g_iinc (ls2 := [(5, .int (x5 + (1 : Int32))), (0, .ref a0), (2, .int x2), (3, .int x3), (4, .int t23)]) (v := 1) K d_c10_sideFrom_122 4 rfl (by decide) rfl rfl ?_
        refine g_goto K d_c10_sideFrom_125 ?_
        refine g_sub (ls2 := [(0, .ref a0), (2, .int x2), (3, .int x3), (4, .int t23), (5, .int (x5 + (1 : Int32)))]) [1, 2, 3, 4, 0] rfl ?_
        exact ih _ _ _ hy hE
      refine g_if_lt K d_c10_sideFrom_100 (fun c22 => ?_) (fun c22 => ?_)
      · rw [if_pos c22] at e_t23
        refine g_sub (ls2 := [(0, .ref a0), (2, .int x2), (3, .int x3), (4, .int x4), (5, .int x5)]) [2, 3, 4, 5, 6] rfl ?_
        obtain rfl := Option.some.inj e_t23
        exact hJ24
      · rw [if_neg c22] at e_t23
        refine g_iload K d_c10_sideFrom_103 0 rfl ?_
        refine g_if_lt K d_c10_sideFrom_105 (fun c25 => ?_) (fun c25 => ?_)
        · rw [if_pos c25] at e_t23
          refine g_sub (ls2 := [(0, .ref a0), (2, .int x2), (3, .int x3), (4, .int x4), (5, .int x5)]) [2, 3, 4, 5, 6] rfl ?_
          obtain rfl := Option.some.inj e_t23
          exact hJ24
        · rw [if_neg c25] at e_t23
          refine g_iload K d_c10_sideFrom_108 5 rfl ?_
          refine g_iload K d_c10_sideFrom_110 1 rfl ?_
          refine g_iload K d_c10_sideFrom_112 0 rfl ?_
          refine g_mmax K d_c10_sideFrom_114 (gTk_3 3 rfl rfl) (gTk_2 82 rfl rfl) (gTk_1 12 rfl rfl) (gTk_2 83 rfl rfl) (gDep1 rfl) (Nat.le_of_ble_eq_true rfl) ⟨Nat.le_refl 0, Nat.le_refl 0⟩ ?_
          refine g_mmin K d_c10_sideFrom_117 (gTk_3 2 rfl rfl) (gTk_2 41 rfl rfl) (gTk_1 12 rfl rfl) (gTk_2 42 rfl rfl) (gDep1 rfl) (Nat.le_of_ble_eq_true rfl) ⟨Nat.le_refl 0, Nat.le_refl 0⟩ ?_
          refine g_istore (ls2 := [(4, .int (gmin x4 (gmax (q16 - x2) (q21 - x3)))), (7, .int (q21 - x3)), (6, .int (q16 - x2)), (0, .ref a0), (2, .int x2), (3, .int x3), (5, .int x5)]) K d_c10_sideFrom_120 rfl rfl ?_
          refine g_sub (ls2 := [(0, .ref a0), (2, .int x2), (3, .int x3), (4, .int (gmin x4 (gmax (q16 - x2) (q21 - x3)))), (5, .int x5)]) [3, 4, 5, 0, 6] rfl ?_
          obtain rfl := Option.some.inj e_t23
          exact hJ24
set_option maxHeartbeats 4000000 in
set_option maxRecDepth 100000 in
theorem ct_c10_sideFrom (l : Launch) (X : gX) (hx : gEx X = false) (N : Nat) (a0 : Nat) (x1 : Int32) (h : gH) (q : Int32) (hy : f_c10_sideFrom N a0 x1 h = some q) : gRc y_c10_sideFrom h a0 ∧ gMi l X y_c10_sideFrom b_c10_sideFrom 8 .int (2 + N) 0 0 [.ref a0, .int x1] h q h := by
  unfold f_c10_sideFrom at hy
  obtain ⟨u0, e_u0, hy⟩ := gBd hy
  cases u0
  refine ⟨Or.inl ⟨10, _, _, e_u0, rfl⟩, gMet_i (lsx := [(0, .ref a0), (1, .int x1)]) (by decide) rfl rfl ?_⟩
  intro M hMl K hret
  subst hMl
  refine g_aload_n K d_c10_sideFrom_0 0 rfl ?_
  obtain ⟨v1, e_v1, hy⟩ := gBd hy
  refine g_getR K fl_c10_26 d_c10_sideFrom_1 e_v1 ?_
  refine g_iload_n K d_c10_sideFrom_4 1 rfl ?_
  obtain ⟨q2, e_q2, hy⟩ := gBd hy
  refine g_callVi (rest := []) K hx ly_c1_rowOf kv_c10_463 d_c10_sideFrom_5 (ct_c1_rowOf M.2.1 X hx N v1 x1 h q2 e_q2) rfl rfl (Nat.le_of_ble_eq_true rfl) (gDep rfl) ⟨Nat.le_refl 0, Nat.le_refl 0⟩ ?_
  refine g_istore_n (ls2 := [(2, .int q2), (0, .ref a0), (1, .int x1)]) K d_c10_sideFrom_8 rfl rfl ?_
  refine g_aload_n K d_c10_sideFrom_9 1 rfl ?_
  obtain ⟨v3, e_v3, hy⟩ := gBd hy
  refine g_getR K fl_c10_26 d_c10_sideFrom_10 e_v3 ?_
  refine g_iload_n K d_c10_sideFrom_13 2 rfl ?_
  obtain ⟨q4, e_q4, hy⟩ := gBd hy
  refine g_callVi (rest := []) K hx ly_c1_columnOf kv_c10_466 d_c10_sideFrom_14 (ct_c1_columnOf M.2.1 X hx N v3 x1 h q4 e_q4) rfl rfl (Nat.le_of_ble_eq_true rfl) (gDep rfl) ⟨Nat.le_refl 0, Nat.le_refl 0⟩ ?_
  refine g_istore_n (ls2 := [(3, .int q4), (2, .int q2), (0, .ref a0), (1, .int x1)]) K d_c10_sideFrom_17 rfl rfl ?_
  refine g_aload_n K d_c10_sideFrom_18 2 rfl ?_
  obtain ⟨v5, e_v5, hy⟩ := gBd hy
  refine g_getR K fl_c10_26 d_c10_sideFrom_19 e_v5 ?_
  obtain ⟨v6, e_v6, hy⟩ := gBd hy
  refine g_getI K fl_c10_414 d_c10_sideFrom_22 e_v6 ?_
  refine g_iload_n K d_c10_sideFrom_25 1 rfl ?_
  refine g_isub K d_c10_sideFrom_26 ?_
  refine g_aload_n K d_c10_sideFrom_27 2 rfl ?_
  obtain ⟨v7, e_v7, hy⟩ := gBd hy
  refine g_getR K fl_c10_26 d_c10_sideFrom_28 e_v7 ?_
  obtain ⟨v8, e_v8, hy⟩ := gBd hy
  refine g_getI K fl_c10_417 d_c10_sideFrom_31 e_v8 ?_
  refine g_iload_n K d_c10_sideFrom_34 0 rfl ?_
  refine g_isub K d_c10_sideFrom_35 ?_
  refine g_mmin K d_c10_sideFrom_36 (gTk_3 2 rfl rfl) (gTk_2 41 rfl rfl) (gTk_1 12 rfl rfl) (gTk_2 42 rfl rfl) (gDep1 rfl) (Nat.le_of_ble_eq_true rfl) ⟨Nat.le_refl 0, Nat.le_refl 0⟩ ?_
  refine g_istore (ls2 := [(4, .int (gmin (v6 - q2) (v8 - q4))), (3, .int q4), (2, .int q2), (0, .ref a0), (1, .int x1)]) K d_c10_sideFrom_39 rfl rfl ?_
  refine g_iconst (v := 0) K d_c10_sideFrom_41 (by decide) ?_
  refine g_istore (ls2 := [(5, .int (0 : Int32)), (4, .int (gmin (v6 - q2) (v8 - q4))), (3, .int q4), (2, .int q2), (0, .ref a0), (1, .int x1)]) K d_c10_sideFrom_42 rfl rfl ?_
  obtain ⟨o26, e_o26, hy⟩ := gBd hy
  refine g_sub (ls2 := [(0, .ref a0), (2, .int q2), (3, .int q4), (4, .int (gmin (v6 - q2) (v8 - q4))), (5, .int (0 : Int32))]) [4, 3, 2, 1, 0] rfl ?_
  refine wlp_c10_sideFrom_44 hx K a0 q2 q4 h N (gmin (v6 - q2) (v8 - q4)) (0 : Int32) o26 e_o26 ?_
  refine g_iload K d_c10_sideFrom_128 0 rfl ?_
  obtain rfl := Option.some.inj hy
  exact hret rfl _ _ _ d_c10_sideFrom_130
-- c10 sign
theorem d_c10_sign_0 : gD b_c10_sign 0 (.aload_n 0) 1 1 := ⟨by decide +kernel, rfl⟩
theorem d_c10_sign_1 : gD b_c10_sign 1 (.getfield 10) 3 4 := ⟨by decide +kernel, rfl⟩
theorem d_c10_sign_4 : gD b_c10_sign 4 (.iload_n 1) 1 5 := ⟨by decide +kernel, rfl⟩
theorem d_c10_sign_5 : gD b_c10_sign 5 (.invokevirtual 96) 3 8 := ⟨by decide +kernel, rfl⟩
theorem d_c10_sign_8 : gJ b_c10_sign 8 (.ifCond .eq 13) 3 13 11 21 := ⟨by decide +kernel, rfl, by decide⟩
theorem d_c10_sign_11 : gD b_c10_sign 11 (.aload_n 0) 1 12 := ⟨by decide +kernel, rfl⟩
theorem d_c10_sign_12 : gD b_c10_sign 12 (.getfield 10) 3 15 := ⟨by decide +kernel, rfl⟩
theorem d_c10_sign_15 : gD b_c10_sign 15 (.getfield 100) 3 18 := ⟨by decide +kernel, rfl⟩
theorem d_c10_sign_18 : gJ b_c10_sign 18 (.goto 4) 3 4 21 22 := ⟨by decide +kernel, rfl, by decide⟩
theorem d_c10_sign_21 : gD b_c10_sign 21 (.iconst (-1)) 1 22 := ⟨by decide +kernel, rfl⟩
theorem d_c10_sign_22 : gD b_c10_sign 22 .ireturn 1 23 := ⟨by decide +kernel, rfl⟩
def f_c10_sign (N : Nat) (a0 : Nat) (x1 : Int32) (h : gH) : Option (Int32 × gH) :=
  (gcl h a0 10).bind fun _ =>
  (gfR h a0 10 0).bind fun v1 =>
    (f_c8_addFour N v1 x1 h).bind fun q2 =>
    (show Option (Int32) from if q2.1 = 0 then
    some (-1 : Int32)
  else
    (gfR q2.2 a0 10 0).bind fun v6 =>
    (gfI q2.2 v6 8 1).bind fun v7 =>
    some v7).bind fun t4 =>
    some (t4, q2.2)
set_option maxHeartbeats 4000000 in
set_option maxRecDepth 100000 in
theorem ct_c10_sign (l : Launch) (X : gX) (hx : gEx X = false) (N : Nat) (a0 : Nat) (x1 : Int32) (h : gH) (q : Int32 × gH) (hy : f_c10_sign N a0 x1 h = some q) : gRc y_c10_sign h a0 ∧ gMi l X y_c10_sign b_c10_sign 2 .int (2 + N) 0 0 [.ref a0, .int x1] h q.1 q.2 := by
  unfold f_c10_sign at hy
  obtain ⟨u0, e_u0, hy⟩ := gBd hy
  cases u0
  refine ⟨Or.inl ⟨10, _, _, e_u0, rfl⟩, gMet_i (lsx := [(0, .ref a0), (1, .int x1)]) (by decide) rfl rfl ?_⟩
  intro M hMl K hret
  subst hMl
  refine g_aload_n K d_c10_sign_0 0 rfl ?_
  obtain ⟨v1, e_v1, hy⟩ := gBd hy
  refine g_getR K fl_c10_10 d_c10_sign_1 e_v1 ?_
  refine g_iload_n K d_c10_sign_4 1 rfl ?_
  obtain ⟨q2, e_q2, hy⟩ := gBd hy
  refine g_callVi (rest := []) K hx ly_c8_addFour kv_c10_96 d_c10_sign_5 (ct_c8_addFour M.2.1 X hx N v1 x1 h q2 e_q2) rfl rfl (Nat.le_of_ble_eq_true rfl) (gDep rfl) ⟨Nat.le_refl 0, Nat.le_refl 0⟩ ?_
  obtain ⟨t4, e_t4, hy⟩ := gBd hy
  have hJ5 : gG M X 2 0 0 22 [] [.int t4] q2.2 := by
    obtain rfl := Option.some.inj hy
    exact hret rfl _ _ _ d_c10_sign_22
  refine g_if_eq K d_c10_sign_8 (fun c3 => ?_) (fun c3 => ?_)
  · rw [if_pos c3] at e_t4
    refine g_iconst (v := (-1)) K d_c10_sign_21 (by decide) ?_
    refine g_sub (ls2 := []) [] rfl ?_
    obtain rfl := Option.some.inj e_t4
    exact hJ5
  · rw [if_neg c3] at e_t4
    refine g_aload_n K d_c10_sign_11 0 rfl ?_
    obtain ⟨v6, e_v6, e_t4⟩ := gBd e_t4
    refine g_getR K fl_c10_10 d_c10_sign_12 e_v6 ?_
    obtain ⟨v7, e_v7, e_t4⟩ := gBd e_t4
    refine g_getI K fl_c10_100 d_c10_sign_15 e_v7 ?_
    refine g_goto K d_c10_sign_18 ?_
    refine g_sub (ls2 := []) [] rfl ?_
    obtain rfl := Option.some.inj e_t4
    exact hJ5
-- c10 squares
theorem d_c10_squares_0 : gD b_c10_squares 0 (.iload_n 1) 1 1 := ⟨by decide +kernel, rfl⟩
theorem d_c10_squares_1 : gJ b_c10_squares 1 (.ifCond .lt 9) 3 9 4 10 := ⟨by decide +kernel, rfl, by decide⟩
theorem d_c10_squares_4 : gD b_c10_squares 4 (.iload_n 1) 1 5 := ⟨by decide +kernel, rfl⟩
theorem d_c10_squares_5 : gD b_c10_squares 5 (.bipush 60) 2 7 := ⟨by decide +kernel, rfl⟩
theorem d_c10_squares_7 : gJ b_c10_squares 7 (.if_icmp .le 5) 3 5 10 12 := ⟨by decide +kernel, rfl, by decide⟩
theorem d_c10_squares_10 : gD b_c10_squares 10 (.iconst (-1)) 1 11 := ⟨by decide +kernel, rfl⟩
theorem d_c10_squares_11 : gD b_c10_squares 11 .ireturn 1 12 := ⟨by decide +kernel, rfl⟩
theorem d_c10_squares_12 : gD b_c10_squares 12 (.lconst 0) 1 13 := ⟨by decide +kernel, rfl⟩
theorem d_c10_squares_13 : gD b_c10_squares 13 (.lstore_n 2) 1 14 := ⟨by decide +kernel, rfl⟩
theorem d_c10_squares_14 : gD b_c10_squares 14 (.iconst 0) 1 15 := ⟨by decide +kernel, rfl⟩
theorem d_c10_squares_15 : gD b_c10_squares 15 (.istore 4) 2 17 := ⟨by decide +kernel, rfl⟩
theorem d_c10_squares_17 : gD b_c10_squares 17 (.iload 4) 2 19 := ⟨by decide +kernel, rfl⟩
theorem d_c10_squares_19 : gD b_c10_squares 19 (.iload_n 1) 1 20 := ⟨by decide +kernel, rfl⟩
theorem d_c10_squares_20 : gJ b_c10_squares 20 (.if_icmp .gt 25) 3 25 23 45 := ⟨by decide +kernel, rfl, by decide⟩
theorem d_c10_squares_23 : gD b_c10_squares 23 (.iload 4) 2 25 := ⟨by decide +kernel, rfl⟩
theorem d_c10_squares_25 : gD b_c10_squares 25 (.lload_n 2) 1 26 := ⟨by decide +kernel, rfl⟩
theorem d_c10_squares_26 : gD b_c10_squares 26 (.invokestatic 391) 3 29 := ⟨by decide +kernel, rfl⟩
theorem d_c10_squares_29 : gJ b_c10_squares 29 (.ifCond .ne 10) 3 10 32 39 := ⟨by decide +kernel, rfl, by decide⟩
theorem d_c10_squares_32 : gD b_c10_squares 32 (.lload_n 2) 1 33 := ⟨by decide +kernel, rfl⟩
theorem d_c10_squares_33 : gD b_c10_squares 33 (.lconst 1) 1 34 := ⟨by decide +kernel, rfl⟩
theorem d_c10_squares_34 : gD b_c10_squares 34 (.iload 4) 2 36 := ⟨by decide +kernel, rfl⟩
theorem d_c10_squares_36 : gD b_c10_squares 36 .lshl 1 37 := ⟨by decide +kernel, rfl⟩
theorem d_c10_squares_37 : gD b_c10_squares 37 .lor 1 38 := ⟨by decide +kernel, rfl⟩
theorem d_c10_squares_38 : gD b_c10_squares 38 (.lstore_n 2) 1 39 := ⟨by decide +kernel, rfl⟩
theorem d_c10_squares_39 : gD b_c10_squares 39 (.iinc 4 1) 3 42 := ⟨by decide +kernel, rfl⟩
theorem d_c10_squares_42 : gJ b_c10_squares 42 (.goto (-25)) 3 (-25) 45 17 := ⟨by decide +kernel, rfl, by decide⟩
theorem d_c10_squares_45 : gD b_c10_squares 45 (.iload_n 1) 1 46 := ⟨by decide +kernel, rfl⟩
theorem d_c10_squares_46 : gD b_c10_squares 46 (.lload_n 2) 1 47 := ⟨by decide +kernel, rfl⟩
theorem d_c10_squares_47 : gD b_c10_squares 47 (.invokestatic 391) 3 50 := ⟨by decide +kernel, rfl⟩
theorem d_c10_squares_50 : gD b_c10_squares 50 (.istore 4) 2 52 := ⟨by decide +kernel, rfl⟩
theorem d_c10_squares_52 : gD b_c10_squares 52 (.aload_n 0) 1 53 := ⟨by decide +kernel, rfl⟩
theorem d_c10_squares_53 : gD b_c10_squares 53 (.getfield 19) 3 56 := ⟨by decide +kernel, rfl⟩
theorem d_c10_squares_56 : gD b_c10_squares 56 (.invokevirtual 284) 3 59 := ⟨by decide +kernel, rfl⟩
theorem d_c10_squares_59 : gD b_c10_squares 59 (.iload 4) 2 61 := ⟨by decide +kernel, rfl⟩
theorem d_c10_squares_61 : gJ b_c10_squares 61 (.ifCond .ne 5) 3 5 64 66 := ⟨by decide +kernel, rfl, by decide⟩
theorem d_c10_squares_64 : gD b_c10_squares 64 (.iconst 0) 1 65 := ⟨by decide +kernel, rfl⟩
theorem d_c10_squares_65 : gD b_c10_squares 65 .ireturn 1 66 := ⟨by decide +kernel, rfl⟩
theorem d_c10_squares_66 : gD b_c10_squares 66 (.aload_n 0) 1 67 := ⟨by decide +kernel, rfl⟩
theorem d_c10_squares_67 : gD b_c10_squares 67 (.getfield 19) 3 70 := ⟨by decide +kernel, rfl⟩
theorem d_c10_squares_70 : gD b_c10_squares 70 (.iload 4) 2 72 := ⟨by decide +kernel, rfl⟩
theorem d_c10_squares_72 : gD b_c10_squares 72 .i2l 1 73 := ⟨by decide +kernel, rfl⟩
theorem d_c10_squares_73 : gD b_c10_squares 73 (.invokevirtual 290) 3 76 := ⟨by decide +kernel, rfl⟩
theorem d_c10_squares_76 : gD b_c10_squares 76 (.iconst 1) 1 77 := ⟨by decide +kernel, rfl⟩
theorem d_c10_squares_77 : gD b_c10_squares 77 .ireturn 1 78 := ⟨by decide +kernel, rfl⟩
def lp_c10_squares_17 (N : Nat) (x1 : Int32) (h : gH) : Nat → Int64 → Int32 → Option (Int64)
  | 0, _, _ => none
  | k + 1, y2, x4 =>
  if x1 < x4 then
    some y2
  else
    (f_c10_winningSquare N x4 y2 h).bind fun q4 =>
    (show Option (Int64) from if q4 = 0 then
    some (y2 ||| ((1 : Int64) <<< (x4.toInt64 &&& 63)))
  else
    some y2).bind fun t6 =>
    lp_c10_squares_17 N x1 h k t6 (x4 + (1 : Int32))
def f_c10_squares (N : Nat) (a0 : Nat) (x1 : Int32) (h : gH) : Option (Int32 × gH) :=
  (gcl h a0 10).bind fun _ =>
  if x1 < 0 then
    some ((-1 : Int32), h)
  else
    if x1 ≤ (60 : Int32) then
    (lp_c10_squares_17 N x1 h N (0 : Int64) (0 : Int32)).bind fun o8 =>
    (f_c10_winningSquare N x1 o8 h).bind fun q9 =>
    (gfR h a0 10 1).bind fun v10 =>
    (f_c4_clear N v10 h).bind fun q11 =>
    if q9 = 0 then
    some ((0 : Int32), q11)
  else
    (gfR q11 a0 10 1).bind fun v13 =>
    (f_c4_add N v13 q9.toInt64 q11).bind fun q14 =>
    some ((1 : Int32), q14)
  else
    some ((-1 : Int32), h)
set_option maxHeartbeats 4000000 in
set_option maxRecDepth 100000 in
theorem wlp_c10_squares_17 {M : gM} {X : gX} {N : Nat} (hx : gEx X = false) (K : gC M X gN10 b_c10_squares 5 (gRm (2 + N) 0 0)) (x1 : Int32) (a0 : Nat) (h : gH) : ∀ (k : Nat) (y2 : Int64) (x4 : Int32) (o : Int64), lp_c10_squares_17 N x1 h k y2 x4 = some o → gG M X 5 0 0 45 [(0, .ref a0), (1, .int x1), (2, .long o)] [] h → gG M X 5 0 0 17 [(0, .ref a0), (1, .int x1), (2, .long y2), (4, .int x4)] [] h := by
  intro k
  induction k with
  | zero =>
    intro y2 x4 o hy
    rw [lp_c10_squares_17.eq_1] at hy
    cases hy
  | succ k ih =>
    intro y2 x4 o hy hE
    rw [lp_c10_squares_17.eq_2] at hy
    refine g_iload K d_c10_squares_17 3 rfl ?_
    refine g_iload_n K d_c10_squares_19 1 rfl ?_
    refine g_icmp_gt K d_c10_squares_20 (fun c3 => ?_) (fun c3 => ?_)
    · rw [if_pos c3] at hy
      refine g_sub (ls2 := [(0, .ref a0), (1, .int x1), (2, .long y2)]) [0, 1, 2] rfl ?_
      obtain rfl := Option.some.inj hy
      exact hE
    · rw [if_neg c3] at hy
      refine g_iload K d_c10_squares_23 3 rfl ?_
      refine g_lload_n K d_c10_squares_25 2 rfl ?_
      obtain ⟨q4, e_q4, hy⟩ := gBd hy
      refine g_callSi (rest := []) K hx ly_c10_winningSquare ks_c10_391 d_c10_squares_26 (ct_c10_winningSquare M.2.1 X hx N x4 y2 h q4 e_q4) rfl rfl (Nat.le_of_ble_eq_true rfl) (gDep rfl) ⟨Nat.le_refl 0, Nat.le_refl 0⟩ ?_
      obtain ⟨t6, e_t6, hy⟩ := gBd hy
      have hJ7 : gG M X 5 0 0 39 [(0, .ref a0), (1, .int x1), (2, .long t6), (4, .int x4)] [] h := by
        refine g_iinc (ls2 := [(4, .int (x4 + (1 : Int32))), (0, .ref a0), (1, .int x1), (2, .long t6)]) (v := 1) K d_c10_squares_39 3 rfl (by decide) rfl rfl ?_
        refine g_goto K d_c10_squares_42 ?_
        refine g_sub (ls2 := [(0, .ref a0), (1, .int x1), (2, .long t6), (4, .int (x4 + (1 : Int32)))]) [1, 2, 3, 0] rfl ?_
        exact ih _ _ _ hy hE
      refine g_if_ne K d_c10_squares_29 (fun c5 => ?_) (fun c5 => ?_)
      · rw [if_neg c5] at e_t6
        obtain rfl := Option.some.inj e_t6
        exact hJ7
      · rw [if_pos c5] at e_t6
        refine g_lload_n K d_c10_squares_32 2 rfl ?_
        refine g_lconst (v := 1) K d_c10_squares_33 (by decide) ?_
        refine g_iload K d_c10_squares_34 3 rfl ?_
        refine g_lshl K d_c10_squares_36 ?_
        refine g_lor K d_c10_squares_37 ?_
        refine g_lstore_n (ls2 := [(2, .long (y2 ||| ((1 : Int64) <<< (x4.toInt64 &&& 63)))), (0, .ref a0), (1, .int x1), (4, .int x4)]) K d_c10_squares_38 rfl rfl ?_
        refine g_sub (ls2 := [(0, .ref a0), (1, .int x1), (2, .long (y2 ||| ((1 : Int64) <<< (x4.toInt64 &&& 63)))), (4, .int x4)]) [1, 2, 0, 3] rfl ?_
        obtain rfl := Option.some.inj e_t6
        exact hJ7
set_option maxHeartbeats 4000000 in
set_option maxRecDepth 100000 in
theorem ct_c10_squares (l : Launch) (X : gX) (hx : gEx X = false) (N : Nat) (a0 : Nat) (x1 : Int32) (h : gH) (q : Int32 × gH) (hy : f_c10_squares N a0 x1 h = some q) : gRc y_c10_squares h a0 ∧ gMi l X y_c10_squares b_c10_squares 5 .int (2 + N) 0 0 [.ref a0, .int x1] h q.1 q.2 := by
  unfold f_c10_squares at hy
  obtain ⟨u0, e_u0, hy⟩ := gBd hy
  cases u0
  refine ⟨Or.inl ⟨10, _, _, e_u0, rfl⟩, gMet_i (lsx := [(0, .ref a0), (1, .int x1)]) (by decide) rfl rfl ?_⟩
  intro M hMl K hret
  subst hMl
  refine g_iload_n K d_c10_squares_0 1 rfl ?_
  refine g_if_lt K d_c10_squares_1 (fun c1 => ?_) (fun c1 => ?_)
  · rw [if_pos c1] at hy
    refine g_iconst (v := (-1)) K d_c10_squares_10 (by decide) ?_
    obtain rfl := Option.some.inj hy
    exact hret rfl _ _ _ d_c10_squares_11
  · rw [if_neg c1] at hy
    refine g_iload_n K d_c10_squares_4 1 rfl ?_
    refine g_bipush (v := 60) K d_c10_squares_5 (by decide) ?_
    refine g_icmp_le K d_c10_squares_7 (fun c2 => ?_) (fun c2 => ?_)
    · rw [if_pos c2] at hy
      refine g_lconst (v := 0) K d_c10_squares_12 (by decide) ?_
      refine g_lstore_n (ls2 := [(2, .long (0 : Int64)), (0, .ref a0), (1, .int x1)]) K d_c10_squares_13 rfl rfl ?_
      refine g_iconst (v := 0) K d_c10_squares_14 (by decide) ?_
      refine g_istore (ls2 := [(4, .int (0 : Int32)), (2, .long (0 : Int64)), (0, .ref a0), (1, .int x1)]) K d_c10_squares_15 rfl rfl ?_
      obtain ⟨o8, e_o8, hy⟩ := gBd hy
      refine g_sub (ls2 := [(0, .ref a0), (1, .int x1), (2, .long (0 : Int64)), (4, .int (0 : Int32))]) [2, 3, 1, 0] rfl ?_
      refine wlp_c10_squares_17 hx K x1 a0 h N (0 : Int64) (0 : Int32) o8 e_o8 ?_
      refine g_iload_n K d_c10_squares_45 1 rfl ?_
      refine g_lload_n K d_c10_squares_46 2 rfl ?_
      obtain ⟨q9, e_q9, hy⟩ := gBd hy
      refine g_callSi (rest := []) K hx ly_c10_winningSquare ks_c10_391 d_c10_squares_47 (ct_c10_winningSquare M.2.1 X hx N x1 o8 h q9 e_q9) rfl rfl (Nat.le_of_ble_eq_true rfl) (gDep rfl) ⟨Nat.le_refl 0, Nat.le_refl 0⟩ ?_
      refine g_istore (ls2 := [(4, .int q9), (0, .ref a0), (1, .int x1), (2, .long o8)]) K d_c10_squares_50 rfl rfl ?_
      refine g_aload_n K d_c10_squares_52 1 rfl ?_
      obtain ⟨v10, e_v10, hy⟩ := gBd hy
      refine g_getR K fl_c10_19 d_c10_squares_53 e_v10 ?_
      obtain ⟨q11, e_q11, hy⟩ := gBd hy
      refine g_callVv (rest := []) K hx ly_c4_clear kv_c10_284 d_c10_squares_56 (ct_c4_clear M.2.1 X hx N v10 h q11 e_q11) rfl rfl (Nat.le_of_ble_eq_true rfl) (gDep rfl) ⟨Nat.le_refl 0, Nat.le_refl 0⟩ ?_
      refine g_iload K d_c10_squares_59 0 rfl ?_
      refine g_if_ne K d_c10_squares_61 (fun c12 => ?_) (fun c12 => ?_)
      · rw [if_neg c12] at hy
        refine g_aload_n K d_c10_squares_66 1 rfl ?_
        obtain ⟨v13, e_v13, hy⟩ := gBd hy
        refine g_getR K fl_c10_19 d_c10_squares_67 e_v13 ?_
        refine g_iload K d_c10_squares_70 0 rfl ?_
        refine g_i2l K d_c10_squares_72 ?_
        obtain ⟨q14, e_q14, hy⟩ := gBd hy
        refine g_callVv (rest := []) K hx ly_c4_add kv_c10_290 d_c10_squares_73 (ct_c4_add M.2.1 X hx N v13 q9.toInt64 q11 q14 e_q14) rfl rfl (Nat.le_of_ble_eq_true rfl) (gDep rfl) ⟨Nat.le_refl 0, Nat.le_refl 0⟩ ?_
        refine g_iconst (v := 1) K d_c10_squares_76 (by decide) ?_
        obtain rfl := Option.some.inj hy
        exact hret rfl _ _ _ d_c10_squares_77
      · rw [if_pos c12] at hy
        refine g_iconst (v := 0) K d_c10_squares_64 (by decide) ?_
        obtain rfl := Option.some.inj hy
        exact hret rfl _ _ _ d_c10_squares_65
    · rw [if_neg c2] at hy
      refine g_iconst (v := (-1)) K d_c10_squares_10 (by decide) ?_
      obtain rfl := Option.some.inj hy
      exact hret rfl _ _ _ d_c10_squares_11
-- c10 tellOne
theorem d_c10_tellOne_0 : gD b_c10_tellOne 0 (.aload_n 0) 1 1 := ⟨by decide +kernel, rfl⟩
theorem d_c10_tellOne_1 : gD b_c10_tellOne 1 (.getfield 19) 3 4 := ⟨by decide +kernel, rfl⟩
theorem d_c10_tellOne_4 : gD b_c10_tellOne 4 (.invokevirtual 284) 3 7 := ⟨by decide +kernel, rfl⟩
theorem d_c10_tellOne_7 : gD b_c10_tellOne 7 (.aload_n 0) 1 8 := ⟨by decide +kernel, rfl⟩
theorem d_c10_tellOne_8 : gD b_c10_tellOne 8 (.getfield 19) 3 11 := ⟨by decide +kernel, rfl⟩
theorem d_c10_tellOne_11 : gD b_c10_tellOne 11 (.lload_n 2) 1 12 := ⟨by decide +kernel, rfl⟩
theorem d_c10_tellOne_12 : gD b_c10_tellOne 12 (.invokevirtual 290) 3 15 := ⟨by decide +kernel, rfl⟩
theorem d_c10_tellOne_15 : gD b_c10_tellOne 15 (.iload_n 1) 1 16 := ⟨by decide +kernel, rfl⟩
theorem d_c10_tellOne_16 : gD b_c10_tellOne 16 .ireturn 1 17 := ⟨by decide +kernel, rfl⟩
def f_c10_tellOne (N : Nat) (a0 : Nat) (x1 : Int32) (y2 : Int64) (h : gH) : Option (Int32 × gH) :=
  (gcl h a0 10).bind fun _ =>
  (gfR h a0 10 1).bind fun v1 =>
    (f_c4_clear N v1 h).bind fun q2 =>
    (gfR q2 a0 10 1).bind fun v3 =>
    (f_c4_add N v3 y2 q2).bind fun q4 =>
    some (x1, q4)
set_option maxHeartbeats 4000000 in
set_option maxRecDepth 100000 in
theorem ct_c10_tellOne (l : Launch) (X : gX) (hx : gEx X = false) (N : Nat) (a0 : Nat) (x1 : Int32) (y2 : Int64) (h : gH) (q : Int32 × gH) (hy : f_c10_tellOne N a0 x1 y2 h = some q) : gRc y_c10_tellOne h a0 ∧ gMi l X y_c10_tellOne b_c10_tellOne 4 .int (2 + N) 0 0 [.ref a0, .int x1, .long y2] h q.1 q.2 := by
  unfold f_c10_tellOne at hy
  obtain ⟨u0, e_u0, hy⟩ := gBd hy
  cases u0
  refine ⟨Or.inl ⟨10, _, _, e_u0, rfl⟩, gMet_i (lsx := [(0, .ref a0), (1, .int x1), (2, .long y2)]) (by decide) rfl rfl ?_⟩
  intro M hMl K hret
  subst hMl
  refine g_aload_n K d_c10_tellOne_0 0 rfl ?_
  obtain ⟨v1, e_v1, hy⟩ := gBd hy
  refine g_getR K fl_c10_19 d_c10_tellOne_1 e_v1 ?_
  obtain ⟨q2, e_q2, hy⟩ := gBd hy
  refine g_callVv (rest := []) K hx ly_c4_clear kv_c10_284 d_c10_tellOne_4 (ct_c4_clear M.2.1 X hx N v1 h q2 e_q2) rfl rfl (Nat.le_of_ble_eq_true rfl) (gDep rfl) ⟨Nat.le_refl 0, Nat.le_refl 0⟩ ?_
  refine g_aload_n K d_c10_tellOne_7 0 rfl ?_
  obtain ⟨v3, e_v3, hy⟩ := gBd hy
  refine g_getR K fl_c10_19 d_c10_tellOne_8 e_v3 ?_
  refine g_lload_n K d_c10_tellOne_11 2 rfl ?_
  obtain ⟨q4, e_q4, hy⟩ := gBd hy
  refine g_callVv (rest := []) K hx ly_c4_add kv_c10_290 d_c10_tellOne_12 (ct_c4_add M.2.1 X hx N v3 y2 q2 q4 e_q4) rfl rfl (Nat.le_of_ble_eq_true rfl) (gDep rfl) ⟨Nat.le_refl 0, Nat.le_refl 0⟩ ?_
  refine g_iload_n K d_c10_tellOne_15 1 rfl ?_
  obtain rfl := Option.some.inj hy
  exact hret rfl _ _ _ d_c10_tellOne_16
-- c11 again
theorem d_c11_again_0 : gD b_c11_again 0 (.aload_n 0) 1 1 := ⟨by decide +kernel, rfl⟩
theorem d_c11_again_1 : gD b_c11_again 1 (.iconst 0) 1 2 := ⟨by decide +kernel, rfl⟩
theorem d_c11_again_2 : gD b_c11_again 2 (.putfield 95) 3 5 := ⟨by decide +kernel, rfl⟩
theorem d_c11_again_5 : gD b_c11_again 5 (.iload_n 1) 1 6 := ⟨by decide +kernel, rfl⟩
theorem d_c11_again_6 : gD b_c11_again 6 (.iconst 0) 1 7 := ⟨by decide +kernel, rfl⟩
theorem d_c11_again_7 : gD b_c11_again 7 (.iconst 1) 1 8 := ⟨by decide +kernel, rfl⟩
theorem d_c11_again_8 : gD b_c11_again 8 (.invokestatic 105) 3 11 := ⟨by decide +kernel, rfl⟩
theorem d_c11_again_11 : gJ b_c11_again 11 (.ifCond .eq 25) 3 25 14 36 := ⟨by decide +kernel, rfl, by decide⟩
theorem d_c11_again_14 : gD b_c11_again 14 (.aload_n 0) 1 15 := ⟨by decide +kernel, rfl⟩
theorem d_c11_again_15 : gD b_c11_again 15 (.getfield 89) 3 18 := ⟨by decide +kernel, rfl⟩
theorem d_c11_again_18 : gD b_c11_again 18 (.iload_n 1) 1 19 := ⟨by decide +kernel, rfl⟩
theorem d_c11_again_19 : gD b_c11_again 19 .baload 1 20 := ⟨by decide +kernel, rfl⟩
theorem d_c11_again_20 : gJ b_c11_again 20 (.ifCond .eq 16) 3 16 23 36 := ⟨by decide +kernel, rfl, by decide⟩
theorem d_c11_again_23 : gD b_c11_again 23 (.aload_n 0) 1 24 := ⟨by decide +kernel, rfl⟩
theorem d_c11_again_24 : gD b_c11_again 24 (.getfield 92) 3 27 := ⟨by decide +kernel, rfl⟩
theorem d_c11_again_27 : gD b_c11_again 27 (.iload_n 1) 1 28 := ⟨by decide +kernel, rfl⟩
theorem d_c11_again_28 : gD b_c11_again 28 .iaload 1 29 := ⟨by decide +kernel, rfl⟩
theorem d_c11_again_29 : gD b_c11_again 29 (.aload_n 0) 1 30 := ⟨by decide +kernel, rfl⟩
theorem d_c11_again_30 : gD b_c11_again 30 (.getfield 162) 3 33 := ⟨by decide +kernel, rfl⟩
theorem d_c11_again_33 : gJ b_c11_again 33 (.if_icmp .eq 5) 3 5 36 38 := ⟨by decide +kernel, rfl, by decide⟩
theorem d_c11_again_36 : gD b_c11_again 36 (.iconst 0) 1 37 := ⟨by decide +kernel, rfl⟩
theorem d_c11_again_37 : gD b_c11_again 37 .ireturn 1 38 := ⟨by decide +kernel, rfl⟩
theorem d_c11_again_38 : gD b_c11_again 38 (.iconst 0) 1 39 := ⟨by decide +kernel, rfl⟩
theorem d_c11_again_39 : gD b_c11_again 39 (.istore_n 2) 1 40 := ⟨by decide +kernel, rfl⟩
theorem d_c11_again_40 : gD b_c11_again 40 (.iload_n 2) 1 41 := ⟨by decide +kernel, rfl⟩
theorem d_c11_again_41 : gD b_c11_again 41 (.bipush 43) 2 43 := ⟨by decide +kernel, rfl⟩
theorem d_c11_again_43 : gJ b_c11_again 43 (.if_icmp .ge 26) 3 26 46 69 := ⟨by decide +kernel, rfl, by decide⟩
theorem d_c11_again_46 : gD b_c11_again 46 (.aload_n 0) 1 47 := ⟨by decide +kernel, rfl⟩
theorem d_c11_again_47 : gD b_c11_again 47 (.getfield 9) 3 50 := ⟨by decide +kernel, rfl⟩
theorem d_c11_again_50 : gD b_c11_again 50 (.iload_n 2) 1 51 := ⟨by decide +kernel, rfl⟩
theorem d_c11_again_51 : gD b_c11_again 51 (.aload_n 0) 1 52 := ⟨by decide +kernel, rfl⟩
theorem d_c11_again_52 : gD b_c11_again 52 (.getfield 86) 3 55 := ⟨by decide +kernel, rfl⟩
theorem d_c11_again_55 : gD b_c11_again 55 (.bipush 43) 2 57 := ⟨by decide +kernel, rfl⟩
theorem d_c11_again_57 : gD b_c11_again 57 (.iload_n 1) 1 58 := ⟨by decide +kernel, rfl⟩
theorem d_c11_again_58 : gD b_c11_again 58 .imul 1 59 := ⟨by decide +kernel, rfl⟩
theorem d_c11_again_59 : gD b_c11_again 59 (.iload_n 2) 1 60 := ⟨by decide +kernel, rfl⟩
theorem d_c11_again_60 : gD b_c11_again 60 .iadd 1 61 := ⟨by decide +kernel, rfl⟩
theorem d_c11_again_61 : gD b_c11_again 61 .iaload 1 62 := ⟨by decide +kernel, rfl⟩
theorem d_c11_again_62 : gD b_c11_again 62 .iastore 1 63 := ⟨by decide +kernel, rfl⟩
theorem d_c11_again_63 : gD b_c11_again 63 (.iinc 2 1) 3 66 := ⟨by decide +kernel, rfl⟩
theorem d_c11_again_66 : gJ b_c11_again 66 (.goto (-26)) 3 (-26) 69 40 := ⟨by decide +kernel, rfl, by decide⟩
theorem d_c11_again_69 : gD b_c11_again 69 (.aload_n 0) 1 70 := ⟨by decide +kernel, rfl⟩
theorem d_c11_again_70 : gD b_c11_again 70 (.iconst 0) 1 71 := ⟨by decide +kernel, rfl⟩
theorem d_c11_again_71 : gD b_c11_again 71 (.putfield 159) 3 74 := ⟨by decide +kernel, rfl⟩
theorem d_c11_again_74 : gD b_c11_again 74 (.iconst 1) 1 75 := ⟨by decide +kernel, rfl⟩
theorem d_c11_again_75 : gD b_c11_again 75 .ireturn 1 76 := ⟨by decide +kernel, rfl⟩
def lp_c11_again_40 (N : Nat) (a0 : Nat) (x1 : Int32) : Nat → Int32 → gH → Option (gH)
  | 0, _, _ => none
  | k + 1, x2, h =>
  if (43 : Int32) ≤ x2 then
    some h
  else
    (gfR h a0 11 0).bind fun v14 =>
    (gfR h a0 11 39).bind fun v15 =>
    (ga 0 h v15 (((43 : Int32) * x1) + x2)).bind fun v16 =>
    (sa 0 h v14 x2 v16).bind fun h17 =>
    lp_c11_again_40 N a0 x1 k (x2 + (1 : Int32)) h17
def f_c11_again (N : Nat) (a0 : Nat) (x1 : Int32) (h : gH) : Option (Int32 × gH) :=
  (gcl h a0 11).bind fun _ =>
  (sf h a0 11 10 (.int (0 : Int32))).bind fun h1 =>
    (f_c11_in N x1 (0 : Int32) (1 : Int32) h1).bind fun q2 =>
    if q2 = 0 then
    (gZ (0 : Int32)).bind fun w4 => some (w4, h1)
  else
    (gfR h1 a0 11 40).bind fun v5 =>
    (gaB h1 v5 x1).bind fun v6 =>
    if v6 = 0 then
    (gZ (0 : Int32)).bind fun w8 => some (w8, h1)
  else
    (gfR h1 a0 11 41).bind fun v9 =>
    (ga 0 h1 v9 x1).bind fun v10 =>
    (gfI h1 a0 11 38).bind fun v11 =>
    if v10 = v11 then
    (lp_c11_again_40 N a0 x1 N (0 : Int32) h1).bind fun o18 =>
    (sf o18 a0 11 23 (.int (0 : Int32))).bind fun h19 =>
    (gZ (1 : Int32)).bind fun w20 => some (w20, h19)
  else
    (gZ (0 : Int32)).bind fun w21 => some (w21, h1)
set_option maxHeartbeats 4000000 in
set_option maxRecDepth 100000 in
theorem wlp_c11_again_40 {M : gM} {X : gX} {N : Nat} (hx : gEx X = false) (K : gC M X gN11 b_c11_again 3 (gRm (2 + N) 0 0)) (a0 : Nat) (x1 : Int32) : ∀ (k : Nat) (x2 : Int32) (h : gH) (o : gH), lp_c11_again_40 N a0 x1 k x2 h = some o → gG M X 3 0 0 69 [(0, .ref a0)] [] o → gG M X 3 0 0 40 [(0, .ref a0), (1, .int x1), (2, .int x2)] [] h := by
  intro k
  induction k with
  | zero =>
    intro x2 h o hy
    rw [lp_c11_again_40.eq_1] at hy
    cases hy
  | succ k ih =>
    intro x2 h o hy hE
    rw [lp_c11_again_40.eq_2] at hy
    refine g_iload_n K d_c11_again_40 2 rfl ?_
    refine g_bipush (v := 43) K d_c11_again_41 (by decide) ?_
    refine g_icmp_ge K d_c11_again_43 (fun c13 => ?_) (fun c13 => ?_)
    · rw [if_pos c13] at hy
      refine g_sub (ls2 := [(0, .ref a0)]) [0] rfl ?_
      obtain rfl := Option.some.inj hy
      exact hE
    · rw [if_neg c13] at hy
      refine g_aload_n K d_c11_again_46 0 rfl ?_
      obtain ⟨v14, e_v14, hy⟩ := gBd hy
      refine g_getR K fl_c11_9 d_c11_again_47 e_v14 ?_
      refine g_iload_n K d_c11_again_50 2 rfl ?_
      refine g_aload_n K d_c11_again_51 0 rfl ?_
      obtain ⟨v15, e_v15, hy⟩ := gBd hy
      refine g_getR K fl_c11_86 d_c11_again_52 e_v15 ?_
      refine g_bipush (v := 43) K d_c11_again_55 (by decide) ?_
      refine g_iload_n K d_c11_again_57 1 rfl ?_
      refine g_imul K d_c11_again_58 ?_
      refine g_iload_n K d_c11_again_59 2 rfl ?_
      refine g_iadd K d_c11_again_60 ?_
      obtain ⟨v16, e_v16, hy⟩ := gBd hy
      refine g_iald K d_c11_again_61 e_v16 ?_
      obtain ⟨h17, e_h17, hy⟩ := gBd hy
      refine g_iast K d_c11_again_62 e_h17 ?_
      refine g_iinc (ls2 := [(2, .int (x2 + (1 : Int32))), (0, .ref a0), (1, .int x1)]) (v := 1) K d_c11_again_63 2 rfl (by decide) rfl rfl ?_
      refine g_goto K d_c11_again_66 ?_
      refine g_sub (ls2 := [(0, .ref a0), (1, .int x1), (2, .int (x2 + (1 : Int32)))]) [1, 2, 0] rfl ?_
      exact ih _ _ _ hy hE
set_option maxHeartbeats 4000000 in
set_option maxRecDepth 100000 in
theorem ct_c11_again (l : Launch) (X : gX) (hx : gEx X = false) (N : Nat) (a0 : Nat) (x1 : Int32) (h : gH) (q : Int32 × gH) (hy : f_c11_again N a0 x1 h = some q) : gRc y_c11_again h a0 ∧ gMi l X y_c11_again b_c11_again 3 .boolean (2 + N) 0 0 [.ref a0, .int x1] h q.1 q.2 := by
  unfold f_c11_again at hy
  obtain ⟨u0, e_u0, hy⟩ := gBd hy
  cases u0
  refine ⟨Or.inl ⟨11, _, _, e_u0, rfl⟩, gMet_i (lsx := [(0, .ref a0), (1, .int x1)]) (by decide) rfl rfl ?_⟩
  intro M hMl K hret
  subst hMl
  refine g_aload_n K d_c11_again_0 0 rfl ?_
  refine g_iconst (v := 0) K d_c11_again_1 (by decide) ?_
  obtain ⟨h1, e_h1, hy⟩ := gBd hy
  refine g_putI K fp_c11_95 d_c11_again_2 e_h1 ?_
  refine g_iload_n K d_c11_again_5 1 rfl ?_
  refine g_iconst (v := 0) K d_c11_again_6 (by decide) ?_
  refine g_iconst (v := 1) K d_c11_again_7 (by decide) ?_
  obtain ⟨q2, e_q2, hy⟩ := gBd hy
  refine g_callSi (rest := []) K hx ly_c11_in ks_c11_105 d_c11_again_8 (ct_c11_in M.2.1 X hx N x1 (0 : Int32) (1 : Int32) h1 q2 e_q2) rfl rfl (Nat.le_of_ble_eq_true rfl) (gDep rfl) ⟨Nat.le_refl 0, Nat.le_refl 0⟩ ?_
  refine g_if_eq K d_c11_again_11 (fun c3 => ?_) (fun c3 => ?_)
  · rw [if_pos c3] at hy
    refine g_iconst (v := 0) K d_c11_again_36 (by decide) ?_
    obtain ⟨w4, e_w4, hy⟩ := gBd hy
    obtain ⟨z_w4, n_w4⟩ := gZ_spec e_w4
    rw [z_w4]
    obtain rfl := Option.some.inj hy
    exact hret (gZn n_w4) _ _ _ d_c11_again_37
  · rw [if_neg c3] at hy
    refine g_aload_n K d_c11_again_14 0 rfl ?_
    obtain ⟨v5, e_v5, hy⟩ := gBd hy
    refine g_getR K fl_c11_89 d_c11_again_15 e_v5 ?_
    refine g_iload_n K d_c11_again_18 1 rfl ?_
    obtain ⟨v6, e_v6, hy⟩ := gBd hy
    refine g_bald K d_c11_again_19 e_v6 ?_
    refine g_if_eq K d_c11_again_20 (fun c7 => ?_) (fun c7 => ?_)
    · rw [if_pos c7] at hy
      refine g_iconst (v := 0) K d_c11_again_36 (by decide) ?_
      obtain ⟨w8, e_w8, hy⟩ := gBd hy
      obtain ⟨z_w8, n_w8⟩ := gZ_spec e_w8
      rw [z_w8]
      obtain rfl := Option.some.inj hy
      exact hret (gZn n_w8) _ _ _ d_c11_again_37
    · rw [if_neg c7] at hy
      refine g_aload_n K d_c11_again_23 0 rfl ?_
      obtain ⟨v9, e_v9, hy⟩ := gBd hy
      refine g_getR K fl_c11_92 d_c11_again_24 e_v9 ?_
      refine g_iload_n K d_c11_again_27 1 rfl ?_
      obtain ⟨v10, e_v10, hy⟩ := gBd hy
      refine g_iald K d_c11_again_28 e_v10 ?_
      refine g_aload_n K d_c11_again_29 0 rfl ?_
      obtain ⟨v11, e_v11, hy⟩ := gBd hy
      refine g_getI K fl_c11_162 d_c11_again_30 e_v11 ?_
      refine g_icmp_eq K d_c11_again_33 (fun c12 => ?_) (fun c12 => ?_)
      · rw [if_pos c12] at hy
        refine g_iconst (v := 0) K d_c11_again_38 (by decide) ?_
        refine g_istore_n (ls2 := [(2, .int (0 : Int32)), (0, .ref a0), (1, .int x1)]) K d_c11_again_39 rfl rfl ?_
        obtain ⟨o18, e_o18, hy⟩ := gBd hy
        refine g_sub (ls2 := [(0, .ref a0), (1, .int x1), (2, .int (0 : Int32))]) [1, 2, 0] rfl ?_
        refine wlp_c11_again_40 hx K a0 x1 N (0 : Int32) h1 o18 e_o18 ?_
        refine g_aload_n K d_c11_again_69 0 rfl ?_
        refine g_iconst (v := 0) K d_c11_again_70 (by decide) ?_
        obtain ⟨h19, e_h19, hy⟩ := gBd hy
        refine g_putI K fp_c11_159 d_c11_again_71 e_h19 ?_
        refine g_iconst (v := 1) K d_c11_again_74 (by decide) ?_
        obtain ⟨w20, e_w20, hy⟩ := gBd hy
        obtain ⟨z_w20, n_w20⟩ := gZ_spec e_w20
        rw [z_w20]
        obtain rfl := Option.some.inj hy
        exact hret (gZn n_w20) _ _ _ d_c11_again_75
      · rw [if_neg c12] at hy
        refine g_iconst (v := 0) K d_c11_again_36 (by decide) ?_
        obtain ⟨w21, e_w21, hy⟩ := gBd hy
        obtain ⟨z_w21, n_w21⟩ := gZ_spec e_w21
        rw [z_w21]
        obtain rfl := Option.some.inj hy
        exact hret (gZn n_w21) _ _ _ d_c11_again_37
-- c11 beginText
theorem d_c11_beginText_0 : gD b_c11_beginText 0 (.aload_n 0) 1 1 := ⟨by decide +kernel, rfl⟩
theorem d_c11_beginText_1 : gD b_c11_beginText 1 (.aload_n 0) 1 2 := ⟨by decide +kernel, rfl⟩
theorem d_c11_beginText_2 : gD b_c11_beginText 2 (.getfield 26) 3 5 := ⟨by decide +kernel, rfl⟩
theorem d_c11_beginText_5 : gD b_c11_beginText 5 (.aload_n 0) 1 6 := ⟨by decide +kernel, rfl⟩
theorem d_c11_beginText_6 : gD b_c11_beginText 6 (.getfield 118) 3 9 := ⟨by decide +kernel, rfl⟩
theorem d_c11_beginText_9 : gD b_c11_beginText 9 (.iload_n 1) 1 10 := ⟨by decide +kernel, rfl⟩
theorem d_c11_beginText_10 : gD b_c11_beginText 10 (.invokevirtual 136) 3 13 := ⟨by decide +kernel, rfl⟩
theorem d_c11_beginText_13 : gD b_c11_beginText 13 (.aload_n 0) 1 14 := ⟨by decide +kernel, rfl⟩
theorem d_c11_beginText_14 : gD b_c11_beginText 14 (.iconst 0) 1 15 := ⟨by decide +kernel, rfl⟩
theorem d_c11_beginText_15 : gD b_c11_beginText 15 (.putfield 118) 3 18 := ⟨by decide +kernel, rfl⟩
theorem d_c11_beginText_18 : gD b_c11_beginText 18 .return_ 1 19 := ⟨by decide +kernel, rfl⟩
def f_c11_beginText (N : Nat) (a0 : Nat) (x1 : Int32) (h : gH) : Option (gH) :=
  (gcl h a0 11).bind fun _ =>
  (gfR h a0 11 6).bind fun v1 =>
    (gfI h a0 11 7).bind fun v2 =>
    (f_c11_begin N a0 v1 v2 x1 h).bind fun q3 =>
    (sf q3 a0 11 7 (.int (0 : Int32))).bind fun h4 =>
    some h4
set_option maxHeartbeats 4000000 in
set_option maxRecDepth 100000 in
theorem ct_c11_beginText (l : Launch) (X : gX) (hx : gEx X = false) (N : Nat) (a0 : Nat) (x1 : Int32) (h : gH) (q : gH) (hy : f_c11_beginText N a0 x1 h = some q) : gRc y_c11_beginText h a0 ∧ gMv l X y_c11_beginText b_c11_beginText 2 (2 + N) 0 0 [.ref a0, .int x1] h q := by
  unfold f_c11_beginText at hy
  obtain ⟨u0, e_u0, hy⟩ := gBd hy
  cases u0
  refine ⟨Or.inl ⟨11, _, _, e_u0, rfl⟩, gMet_v (lsx := [(0, .ref a0), (1, .int x1)]) (by decide) rfl rfl ?_⟩
  intro M hMl K hret
  subst hMl
  refine g_aload_n K d_c11_beginText_0 0 rfl ?_
  refine g_aload_n K d_c11_beginText_1 0 rfl ?_
  obtain ⟨v1, e_v1, hy⟩ := gBd hy
  refine g_getR K fl_c11_26 d_c11_beginText_2 e_v1 ?_
  refine g_aload_n K d_c11_beginText_5 0 rfl ?_
  obtain ⟨v2, e_v2, hy⟩ := gBd hy
  refine g_getI K fl_c11_118 d_c11_beginText_6 e_v2 ?_
  refine g_iload_n K d_c11_beginText_9 1 rfl ?_
  obtain ⟨q3, e_q3, hy⟩ := gBd hy
  refine g_callVv (rest := []) K hx ly_c11_begin kv_c11_136 d_c11_beginText_10 (ct_c11_begin M.2.1 X hx N a0 v1 v2 x1 h q3 e_q3) rfl rfl (Nat.le_of_ble_eq_true rfl) (gDep rfl) ⟨Nat.le_refl 0, Nat.le_refl 0⟩ ?_
  refine g_aload_n K d_c11_beginText_13 0 rfl ?_
  refine g_iconst (v := 0) K d_c11_beginText_14 (by decide) ?_
  obtain ⟨h4, e_h4, hy⟩ := gBd hy
  refine g_putI K fp_c11_118 d_c11_beginText_15 e_h4 ?_
  obtain rfl := Option.some.inj hy
  exact hret _ _ _ d_c11_beginText_18
-- c11 count
theorem d_c11_count_0 : gD b_c11_count 0 (.aload_n 0) 1 1 := ⟨by decide +kernel, rfl⟩
theorem d_c11_count_1 : gD b_c11_count 1 (.iconst 0) 1 2 := ⟨by decide +kernel, rfl⟩
theorem d_c11_count_2 : gD b_c11_count 2 (.putfield 95) 3 5 := ⟨by decide +kernel, rfl⟩
theorem d_c11_count_5 : gD b_c11_count 5 (.iload_n 1) 1 6 := ⟨by decide +kernel, rfl⟩
theorem d_c11_count_6 : decode b_c11_count 6 = .ok ((.tableswitch 155 0 13 #[70, 75, 80, 85, 93, 101, 109, 117, 122, 127, 135, 140, 145, 150]), 70) := by decide +kernel
theorem d_c11_count_76 : gD b_c11_count 76 (.aload_n 0) 1 77 := ⟨by decide +kernel, rfl⟩
theorem d_c11_count_77 : gD b_c11_count 77 (.getfield 13) 3 80 := ⟨by decide +kernel, rfl⟩
theorem d_c11_count_80 : gD b_c11_count 80 .ireturn 1 81 := ⟨by decide +kernel, rfl⟩
theorem d_c11_count_81 : gD b_c11_count 81 (.aload_n 0) 1 82 := ⟨by decide +kernel, rfl⟩
theorem d_c11_count_82 : gD b_c11_count 82 (.getfield 17) 3 85 := ⟨by decide +kernel, rfl⟩
theorem d_c11_count_85 : gD b_c11_count 85 .ireturn 1 86 := ⟨by decide +kernel, rfl⟩
theorem d_c11_count_86 : gD b_c11_count 86 (.aload_n 0) 1 87 := ⟨by decide +kernel, rfl⟩
theorem d_c11_count_87 : gD b_c11_count 87 (.getfield 109) 3 90 := ⟨by decide +kernel, rfl⟩
theorem d_c11_count_90 : gD b_c11_count 90 .ireturn 1 91 := ⟨by decide +kernel, rfl⟩
theorem d_c11_count_91 : gD b_c11_count 91 (.aload_n 0) 1 92 := ⟨by decide +kernel, rfl⟩
theorem d_c11_count_92 : gD b_c11_count 92 (.getfield 9) 3 95 := ⟨by decide +kernel, rfl⟩
theorem d_c11_count_95 : gD b_c11_count 95 (.bipush 40) 2 97 := ⟨by decide +kernel, rfl⟩
theorem d_c11_count_97 : gD b_c11_count 97 .iaload 1 98 := ⟨by decide +kernel, rfl⟩
theorem d_c11_count_98 : gD b_c11_count 98 .ireturn 1 99 := ⟨by decide +kernel, rfl⟩
theorem d_c11_count_99 : gD b_c11_count 99 (.aload_n 0) 1 100 := ⟨by decide +kernel, rfl⟩
theorem d_c11_count_100 : gD b_c11_count 100 (.getfield 9) 3 103 := ⟨by decide +kernel, rfl⟩
theorem d_c11_count_103 : gD b_c11_count 103 (.bipush 41) 2 105 := ⟨by decide +kernel, rfl⟩
theorem d_c11_count_105 : gD b_c11_count 105 .iaload 1 106 := ⟨by decide +kernel, rfl⟩
theorem d_c11_count_106 : gD b_c11_count 106 .ireturn 1 107 := ⟨by decide +kernel, rfl⟩
theorem d_c11_count_107 : gD b_c11_count 107 (.aload_n 0) 1 108 := ⟨by decide +kernel, rfl⟩
theorem d_c11_count_108 : gD b_c11_count 108 (.getfield 9) 3 111 := ⟨by decide +kernel, rfl⟩
theorem d_c11_count_111 : gD b_c11_count 111 (.bipush 42) 2 113 := ⟨by decide +kernel, rfl⟩
theorem d_c11_count_113 : gD b_c11_count 113 .iaload 1 114 := ⟨by decide +kernel, rfl⟩
theorem d_c11_count_114 : gD b_c11_count 114 .ireturn 1 115 := ⟨by decide +kernel, rfl⟩
theorem d_c11_count_115 : gD b_c11_count 115 (.aload_n 0) 1 116 := ⟨by decide +kernel, rfl⟩
theorem d_c11_count_116 : gD b_c11_count 116 (.getfield 9) 3 119 := ⟨by decide +kernel, rfl⟩
theorem d_c11_count_119 : gD b_c11_count 119 (.invokestatic 249) 3 122 := ⟨by decide +kernel, rfl⟩
theorem d_c11_count_122 : gD b_c11_count 122 .ireturn 1 123 := ⟨by decide +kernel, rfl⟩
theorem d_c11_count_123 : gD b_c11_count 123 (.aload_n 0) 1 124 := ⟨by decide +kernel, rfl⟩
theorem d_c11_count_124 : gD b_c11_count 124 (.invokevirtual 302) 3 127 := ⟨by decide +kernel, rfl⟩
theorem d_c11_count_127 : gD b_c11_count 127 .ireturn 1 128 := ⟨by decide +kernel, rfl⟩
theorem d_c11_count_128 : gD b_c11_count 128 (.aload_n 0) 1 129 := ⟨by decide +kernel, rfl⟩
theorem d_c11_count_129 : gD b_c11_count 129 (.invokevirtual 382) 3 132 := ⟨by decide +kernel, rfl⟩
theorem d_c11_count_132 : gD b_c11_count 132 .ireturn 1 133 := ⟨by decide +kernel, rfl⟩
theorem d_c11_count_133 : gD b_c11_count 133 (.aload_n 0) 1 134 := ⟨by decide +kernel, rfl⟩
theorem d_c11_count_134 : gD b_c11_count 134 (.getfield 9) 3 137 := ⟨by decide +kernel, rfl⟩
theorem d_c11_count_137 : gD b_c11_count 137 (.invokestatic 272) 3 140 := ⟨by decide +kernel, rfl⟩
theorem d_c11_count_140 : gD b_c11_count 140 .ireturn 1 141 := ⟨by decide +kernel, rfl⟩
theorem d_c11_count_141 : gD b_c11_count 141 (.aload_n 0) 1 142 := ⟨by decide +kernel, rfl⟩
theorem d_c11_count_142 : gD b_c11_count 142 (.getfield 339) 3 145 := ⟨by decide +kernel, rfl⟩
theorem d_c11_count_145 : gD b_c11_count 145 .ireturn 1 146 := ⟨by decide +kernel, rfl⟩
theorem d_c11_count_146 : gD b_c11_count 146 (.aload_n 0) 1 147 := ⟨by decide +kernel, rfl⟩
theorem d_c11_count_147 : gD b_c11_count 147 (.getfield 159) 3 150 := ⟨by decide +kernel, rfl⟩
theorem d_c11_count_150 : gD b_c11_count 150 .ireturn 1 151 := ⟨by decide +kernel, rfl⟩
theorem d_c11_count_151 : gD b_c11_count 151 (.aload_n 0) 1 152 := ⟨by decide +kernel, rfl⟩
theorem d_c11_count_152 : gD b_c11_count 152 (.getfield 98) 3 155 := ⟨by decide +kernel, rfl⟩
theorem d_c11_count_155 : gD b_c11_count 155 .ireturn 1 156 := ⟨by decide +kernel, rfl⟩
theorem d_c11_count_156 : gD b_c11_count 156 (.aload_n 0) 1 157 := ⟨by decide +kernel, rfl⟩
theorem d_c11_count_157 : gD b_c11_count 157 (.getfield 118) 3 160 := ⟨by decide +kernel, rfl⟩
theorem d_c11_count_160 : gD b_c11_count 160 .ireturn 1 161 := ⟨by decide +kernel, rfl⟩
theorem d_c11_count_161 : gD b_c11_count 161 (.iconst (-1)) 1 162 := ⟨by decide +kernel, rfl⟩
theorem d_c11_count_162 : gD b_c11_count 162 .ireturn 1 163 := ⟨by decide +kernel, rfl⟩
def f_c11_count (N : Nat) (a0 : Nat) (x1 : Int32) (h : gH) : Option (Int32 × gH) :=
  (gcl h a0 11).bind fun _ =>
  (sf h a0 11 10 (.int (0 : Int32))).bind fun h1 =>
    if x1 = (0 : Int32) then
    (gfI h1 a0 11 1).bind fun v16 =>
    some (v16, h1)
  else
    if x1 = (1 : Int32) then
    (gfI h1 a0 11 2).bind fun v17 =>
    some (v17, h1)
  else
    if x1 = (2 : Int32) then
    (gfI h1 a0 11 3).bind fun v18 =>
    some (v18, h1)
  else
    if x1 = (3 : Int32) then
    (gfR h1 a0 11 0).bind fun v19 =>
    (ga 0 h1 v19 (40 : Int32)).bind fun v20 =>
    some (v20, h1)
  else
    if x1 = (4 : Int32) then
    (gfR h1 a0 11 0).bind fun v21 =>
    (ga 0 h1 v21 (41 : Int32)).bind fun v22 =>
    some (v22, h1)
  else
    if x1 = (5 : Int32) then
    (gfR h1 a0 11 0).bind fun v23 =>
    (ga 0 h1 v23 (42 : Int32)).bind fun v24 =>
    some (v24, h1)
  else
    if x1 = (6 : Int32) then
    (gfR h1 a0 11 0).bind fun v25 =>
    (f_c11_waters N v25 h1).bind fun q26 =>
    some (q26, h1)
  else
    if x1 = (7 : Int32) then
    (f_c11_thirsts N a0 h1).bind fun q27 =>
    some (q27, h1)
  else
    if x1 = (8 : Int32) then
    (f_c11_allAnds N a0 h1).bind fun q28 =>
    some (q28, h1)
  else
    if x1 = (9 : Int32) then
    (gfR h1 a0 11 0).bind fun v29 =>
    (f_c11_dryOnes N v29 h1).bind fun q30 =>
    some (q30, h1)
  else
    if x1 = (10 : Int32) then
    (gfI h1 a0 11 34).bind fun v31 =>
    some (v31, h1)
  else
    if x1 = (11 : Int32) then
    (gfI h1 a0 11 23).bind fun v32 =>
    some (v32, h1)
  else
    if x1 = (12 : Int32) then
    (gfI h1 a0 11 9).bind fun v33 =>
    some (v33, h1)
  else
    if x1 = (13 : Int32) then
    (gfI h1 a0 11 7).bind fun v34 =>
    some (v34, h1)
  else
    some ((-1 : Int32), h1)
set_option maxHeartbeats 4000000 in
set_option maxRecDepth 100000 in
theorem ct_c11_count (l : Launch) (X : gX) (hx : gEx X = false) (N : Nat) (a0 : Nat) (x1 : Int32) (h : gH) (q : Int32 × gH) (hy : f_c11_count N a0 x1 h = some q) : gRc y_c11_count h a0 ∧ gMi l X y_c11_count b_c11_count 2 .int (2 + N) 0 0 [.ref a0, .int x1] h q.1 q.2 := by
  unfold f_c11_count at hy
  obtain ⟨u0, e_u0, hy⟩ := gBd hy
  cases u0
  refine ⟨Or.inl ⟨11, _, _, e_u0, rfl⟩, gMet_i (lsx := [(0, .ref a0), (1, .int x1)]) (by decide) rfl rfl ?_⟩
  intro M hMl K hret
  subst hMl
  refine g_aload_n K d_c11_count_0 0 rfl ?_
  refine g_iconst (v := 0) K d_c11_count_1 (by decide) ?_
  obtain ⟨h1, e_h1, hy⟩ := gBd hy
  refine g_putI K fp_c11_95 d_c11_count_2 e_h1 ?_
  refine g_iload_n K d_c11_count_5 1 rfl ?_
  by_cases c2 : x1 = (0 : Int32)
  · rw [if_pos c2] at hy
    refine g_tabIn (v := (0 : Int32)) (off := 70) (tgt := 76) K d_c11_count_6 c2 (by decide) (by decide) (by decide +kernel) (by decide) ?_
    refine g_aload_n K d_c11_count_76 0 rfl ?_
    obtain ⟨v16, e_v16, hy⟩ := gBd hy
    refine g_getI K fl_c11_13 d_c11_count_77 e_v16 ?_
    obtain rfl := Option.some.inj hy
    exact hret rfl _ _ _ d_c11_count_80
  rw [if_neg c2] at hy
  by_cases c3 : x1 = (1 : Int32)
  · rw [if_pos c3] at hy
    refine g_tabIn (v := (1 : Int32)) (off := 75) (tgt := 81) K d_c11_count_6 c3 (by decide) (by decide) (by decide +kernel) (by decide) ?_
    refine g_aload_n K d_c11_count_81 0 rfl ?_
    obtain ⟨v17, e_v17, hy⟩ := gBd hy
    refine g_getI K fl_c11_17 d_c11_count_82 e_v17 ?_
    obtain rfl := Option.some.inj hy
    exact hret rfl _ _ _ d_c11_count_85
  rw [if_neg c3] at hy
  by_cases c4 : x1 = (2 : Int32)
  · rw [if_pos c4] at hy
    refine g_tabIn (v := (2 : Int32)) (off := 80) (tgt := 86) K d_c11_count_6 c4 (by decide) (by decide) (by decide +kernel) (by decide) ?_
    refine g_aload_n K d_c11_count_86 0 rfl ?_
    obtain ⟨v18, e_v18, hy⟩ := gBd hy
    refine g_getI K fl_c11_109 d_c11_count_87 e_v18 ?_
    obtain rfl := Option.some.inj hy
    exact hret rfl _ _ _ d_c11_count_90
  rw [if_neg c4] at hy
  by_cases c5 : x1 = (3 : Int32)
  · rw [if_pos c5] at hy
    refine g_tabIn (v := (3 : Int32)) (off := 85) (tgt := 91) K d_c11_count_6 c5 (by decide) (by decide) (by decide +kernel) (by decide) ?_
    refine g_aload_n K d_c11_count_91 0 rfl ?_
    obtain ⟨v19, e_v19, hy⟩ := gBd hy
    refine g_getR K fl_c11_9 d_c11_count_92 e_v19 ?_
    refine g_bipush (v := 40) K d_c11_count_95 (by decide) ?_
    obtain ⟨v20, e_v20, hy⟩ := gBd hy
    refine g_iald K d_c11_count_97 e_v20 ?_
    obtain rfl := Option.some.inj hy
    exact hret rfl _ _ _ d_c11_count_98
  rw [if_neg c5] at hy
  by_cases c6 : x1 = (4 : Int32)
  · rw [if_pos c6] at hy
    refine g_tabIn (v := (4 : Int32)) (off := 93) (tgt := 99) K d_c11_count_6 c6 (by decide) (by decide) (by decide +kernel) (by decide) ?_
    refine g_aload_n K d_c11_count_99 0 rfl ?_
    obtain ⟨v21, e_v21, hy⟩ := gBd hy
    refine g_getR K fl_c11_9 d_c11_count_100 e_v21 ?_
    refine g_bipush (v := 41) K d_c11_count_103 (by decide) ?_
    obtain ⟨v22, e_v22, hy⟩ := gBd hy
    refine g_iald K d_c11_count_105 e_v22 ?_
    obtain rfl := Option.some.inj hy
    exact hret rfl _ _ _ d_c11_count_106
  rw [if_neg c6] at hy
  by_cases c7 : x1 = (5 : Int32)
  · rw [if_pos c7] at hy
    refine g_tabIn (v := (5 : Int32)) (off := 101) (tgt := 107) K d_c11_count_6 c7 (by decide) (by decide) (by decide +kernel) (by decide) ?_
    refine g_aload_n K d_c11_count_107 0 rfl ?_
    obtain ⟨v23, e_v23, hy⟩ := gBd hy
    refine g_getR K fl_c11_9 d_c11_count_108 e_v23 ?_
    refine g_bipush (v := 42) K d_c11_count_111 (by decide) ?_
    obtain ⟨v24, e_v24, hy⟩ := gBd hy
    refine g_iald K d_c11_count_113 e_v24 ?_
    obtain rfl := Option.some.inj hy
    exact hret rfl _ _ _ d_c11_count_114
  rw [if_neg c7] at hy
  by_cases c8 : x1 = (6 : Int32)
  · rw [if_pos c8] at hy
    refine g_tabIn (v := (6 : Int32)) (off := 109) (tgt := 115) K d_c11_count_6 c8 (by decide) (by decide) (by decide +kernel) (by decide) ?_
    refine g_aload_n K d_c11_count_115 0 rfl ?_
    obtain ⟨v25, e_v25, hy⟩ := gBd hy
    refine g_getR K fl_c11_9 d_c11_count_116 e_v25 ?_
    obtain ⟨q26, e_q26, hy⟩ := gBd hy
    refine g_callSi (rest := []) K hx ly_c11_waters ks_c11_249 d_c11_count_119 (ct_c11_waters M.2.1 X hx N v25 h1 q26 e_q26) rfl rfl (Nat.le_of_ble_eq_true rfl) (gDep rfl) ⟨Nat.le_refl 0, Nat.le_refl 0⟩ ?_
    obtain rfl := Option.some.inj hy
    exact hret rfl _ _ _ d_c11_count_122
  rw [if_neg c8] at hy
  by_cases c9 : x1 = (7 : Int32)
  · rw [if_pos c9] at hy
    refine g_tabIn (v := (7 : Int32)) (off := 117) (tgt := 123) K d_c11_count_6 c9 (by decide) (by decide) (by decide +kernel) (by decide) ?_
    refine g_aload_n K d_c11_count_123 0 rfl ?_
    obtain ⟨q27, e_q27, hy⟩ := gBd hy
    refine g_callVi (rest := []) K hx ly_c11_thirsts kv_c11_302 d_c11_count_124 (ct_c11_thirsts M.2.1 X hx N a0 h1 q27 e_q27) rfl rfl (Nat.le_of_ble_eq_true rfl) (gDep rfl) ⟨Nat.le_refl 0, Nat.le_refl 0⟩ ?_
    obtain rfl := Option.some.inj hy
    exact hret rfl _ _ _ d_c11_count_127
  rw [if_neg c9] at hy
  by_cases c10 : x1 = (8 : Int32)
  · rw [if_pos c10] at hy
    refine g_tabIn (v := (8 : Int32)) (off := 122) (tgt := 128) K d_c11_count_6 c10 (by decide) (by decide) (by decide +kernel) (by decide) ?_
    refine g_aload_n K d_c11_count_128 0 rfl ?_
    obtain ⟨q28, e_q28, hy⟩ := gBd hy
    refine g_callVi (rest := []) K hx ly_c11_allAnds kv_c11_382 d_c11_count_129 (ct_c11_allAnds M.2.1 X hx N a0 h1 q28 e_q28) rfl rfl (Nat.le_of_ble_eq_true rfl) (gDep rfl) ⟨Nat.le_refl 0, Nat.le_refl 0⟩ ?_
    obtain rfl := Option.some.inj hy
    exact hret rfl _ _ _ d_c11_count_132
  rw [if_neg c10] at hy
  by_cases c11 : x1 = (9 : Int32)
  · rw [if_pos c11] at hy
    refine g_tabIn (v := (9 : Int32)) (off := 127) (tgt := 133) K d_c11_count_6 c11 (by decide) (by decide) (by decide +kernel) (by decide) ?_
    refine g_aload_n K d_c11_count_133 0 rfl ?_
    obtain ⟨v29, e_v29, hy⟩ := gBd hy
    refine g_getR K fl_c11_9 d_c11_count_134 e_v29 ?_
    obtain ⟨q30, e_q30, hy⟩ := gBd hy
    refine g_callSi (rest := []) K hx ly_c11_dryOnes ks_c11_272 d_c11_count_137 (ct_c11_dryOnes M.2.1 X hx N v29 h1 q30 e_q30) rfl rfl (Nat.le_of_ble_eq_true rfl) (gDep rfl) ⟨Nat.le_refl 0, Nat.le_refl 0⟩ ?_
    obtain rfl := Option.some.inj hy
    exact hret rfl _ _ _ d_c11_count_140
  rw [if_neg c11] at hy
  by_cases c12 : x1 = (10 : Int32)
  · rw [if_pos c12] at hy
    refine g_tabIn (v := (10 : Int32)) (off := 135) (tgt := 141) K d_c11_count_6 c12 (by decide) (by decide) (by decide +kernel) (by decide) ?_
    refine g_aload_n K d_c11_count_141 0 rfl ?_
    obtain ⟨v31, e_v31, hy⟩ := gBd hy
    refine g_getI K fl_c11_339 d_c11_count_142 e_v31 ?_
    obtain rfl := Option.some.inj hy
    exact hret rfl _ _ _ d_c11_count_145
  rw [if_neg c12] at hy
  by_cases c13 : x1 = (11 : Int32)
  · rw [if_pos c13] at hy
    refine g_tabIn (v := (11 : Int32)) (off := 140) (tgt := 146) K d_c11_count_6 c13 (by decide) (by decide) (by decide +kernel) (by decide) ?_
    refine g_aload_n K d_c11_count_146 0 rfl ?_
    obtain ⟨v32, e_v32, hy⟩ := gBd hy
    refine g_getI K fl_c11_159 d_c11_count_147 e_v32 ?_
    obtain rfl := Option.some.inj hy
    exact hret rfl _ _ _ d_c11_count_150
  rw [if_neg c13] at hy
  by_cases c14 : x1 = (12 : Int32)
  · rw [if_pos c14] at hy
    refine g_tabIn (v := (12 : Int32)) (off := 145) (tgt := 151) K d_c11_count_6 c14 (by decide) (by decide) (by decide +kernel) (by decide) ?_
    refine g_aload_n K d_c11_count_151 0 rfl ?_
    obtain ⟨v33, e_v33, hy⟩ := gBd hy
    refine g_getI K fl_c11_98 d_c11_count_152 e_v33 ?_
    obtain rfl := Option.some.inj hy
    exact hret rfl _ _ _ d_c11_count_155
  rw [if_neg c14] at hy
  by_cases c15 : x1 = (13 : Int32)
  · rw [if_pos c15] at hy
    refine g_tabIn (v := (13 : Int32)) (off := 150) (tgt := 156) K d_c11_count_6 c15 (by decide) (by decide) (by decide +kernel) (by decide) ?_
    refine g_aload_n K d_c11_count_156 0 rfl ?_
    obtain ⟨v34, e_v34, hy⟩ := gBd hy
    refine g_getI K fl_c11_118 d_c11_count_157 e_v34 ?_
    obtain rfl := Option.some.inj hy
    exact hret rfl _ _ _ d_c11_count_160
  rw [if_neg c15] at hy
  refine g_tabD (tgt := 161) [(0 : Int32), (1 : Int32), (2 : Int32), (3 : Int32), (4 : Int32), (5 : Int32), (6 : Int32), (7 : Int32), (8 : Int32), (9 : Int32), (10 : Int32), (11 : Int32), (12 : Int32), (13 : Int32)] K d_c11_count_6 (List.forall_mem_cons.mpr ⟨c2, (List.forall_mem_cons.mpr ⟨c3, (List.forall_mem_cons.mpr ⟨c4, (List.forall_mem_cons.mpr ⟨c5, (List.forall_mem_cons.mpr ⟨c6, (List.forall_mem_cons.mpr ⟨c7, (List.forall_mem_cons.mpr ⟨c8, (List.forall_mem_cons.mpr ⟨c9, (List.forall_mem_cons.mpr ⟨c10, (List.forall_mem_cons.mpr ⟨c11, (List.forall_mem_cons.mpr ⟨c12, (List.forall_mem_cons.mpr ⟨c13, (List.forall_mem_cons.mpr ⟨c14, (List.forall_mem_cons.mpr ⟨c15, (fun _ h => absurd h List.not_mem_nil)⟩)⟩)⟩)⟩)⟩)⟩)⟩)⟩)⟩)⟩)⟩)⟩)⟩)⟩) (by decide +kernel) (by decide) ?_
  refine g_iconst (v := (-1)) K d_c11_count_161 (by decide) ?_
  obtain rfl := Option.some.inj hy
  exact hret rfl _ _ _ d_c11_count_162
-- c11 end
theorem d_c11_end_0 : gD b_c11_end 0 (.aload_n 0) 1 1 := ⟨by decide +kernel, rfl⟩
theorem d_c11_end_1 : gD b_c11_end 1 (.iconst 0) 1 2 := ⟨by decide +kernel, rfl⟩
theorem d_c11_end_2 : gD b_c11_end 2 (.putfield 95) 3 5 := ⟨by decide +kernel, rfl⟩
theorem d_c11_end_5 : gD b_c11_end 5 (.iload_n 1) 1 6 := ⟨by decide +kernel, rfl⟩
theorem d_c11_end_6 : gD b_c11_end 6 (.iconst 0) 1 7 := ⟨by decide +kernel, rfl⟩
theorem d_c11_end_7 : gD b_c11_end 7 (.aload_n 0) 1 8 := ⟨by decide +kernel, rfl⟩
theorem d_c11_end_8 : gD b_c11_end 8 (.getfield 118) 3 11 := ⟨by decide +kernel, rfl⟩
theorem d_c11_end_11 : gD b_c11_end 11 (.invokestatic 105) 3 14 := ⟨by decide +kernel, rfl⟩
theorem d_c11_end_14 : gJ b_c11_end 14 (.ifCond .ne 5) 3 5 17 19 := ⟨by decide +kernel, rfl, by decide⟩
theorem d_c11_end_17 : gD b_c11_end 17 (.iconst 0) 1 18 := ⟨by decide +kernel, rfl⟩
theorem d_c11_end_18 : gD b_c11_end 18 .ireturn 1 19 := ⟨by decide +kernel, rfl⟩
theorem d_c11_end_19 : gD b_c11_end 19 (.aload_n 0) 1 20 := ⟨by decide +kernel, rfl⟩
theorem d_c11_end_20 : gD b_c11_end 20 (.iload_n 1) 1 21 := ⟨by decide +kernel, rfl⟩
theorem d_c11_end_21 : gD b_c11_end 21 (.putfield 118) 3 24 := ⟨by decide +kernel, rfl⟩
theorem d_c11_end_24 : gD b_c11_end 24 (.iconst 1) 1 25 := ⟨by decide +kernel, rfl⟩
theorem d_c11_end_25 : gD b_c11_end 25 .ireturn 1 26 := ⟨by decide +kernel, rfl⟩
def f_c11_end (N : Nat) (a0 : Nat) (x1 : Int32) (h : gH) : Option (Int32 × gH) :=
  (gcl h a0 11).bind fun _ =>
  (sf h a0 11 10 (.int (0 : Int32))).bind fun h1 =>
    (gfI h1 a0 11 7).bind fun v2 =>
    (f_c11_in N x1 (0 : Int32) v2 h1).bind fun q3 =>
    if q3 = 0 then
    (gZ (0 : Int32)).bind fun w7 => some (w7, h1)
  else
    (sf h1 a0 11 7 (.int x1)).bind fun h5 =>
    (gZ (1 : Int32)).bind fun w6 => some (w6, h5)
set_option maxHeartbeats 4000000 in
set_option maxRecDepth 100000 in
theorem ct_c11_end (l : Launch) (X : gX) (hx : gEx X = false) (N : Nat) (a0 : Nat) (x1 : Int32) (h : gH) (q : Int32 × gH) (hy : f_c11_end N a0 x1 h = some q) : gRc y_c11_end h a0 ∧ gMi l X y_c11_end b_c11_end 2 .boolean (2 + N) 0 0 [.ref a0, .int x1] h q.1 q.2 := by
  unfold f_c11_end at hy
  obtain ⟨u0, e_u0, hy⟩ := gBd hy
  cases u0
  refine ⟨Or.inl ⟨11, _, _, e_u0, rfl⟩, gMet_i (lsx := [(0, .ref a0), (1, .int x1)]) (by decide) rfl rfl ?_⟩
  intro M hMl K hret
  subst hMl
  refine g_aload_n K d_c11_end_0 0 rfl ?_
  refine g_iconst (v := 0) K d_c11_end_1 (by decide) ?_
  obtain ⟨h1, e_h1, hy⟩ := gBd hy
  refine g_putI K fp_c11_95 d_c11_end_2 e_h1 ?_
  refine g_iload_n K d_c11_end_5 1 rfl ?_
  refine g_iconst (v := 0) K d_c11_end_6 (by decide) ?_
  refine g_aload_n K d_c11_end_7 0 rfl ?_
  obtain ⟨v2, e_v2, hy⟩ := gBd hy
  refine g_getI K fl_c11_118 d_c11_end_8 e_v2 ?_
  obtain ⟨q3, e_q3, hy⟩ := gBd hy
  refine g_callSi (rest := []) K hx ly_c11_in ks_c11_105 d_c11_end_11 (ct_c11_in M.2.1 X hx N x1 (0 : Int32) v2 h1 q3 e_q3) rfl rfl (Nat.le_of_ble_eq_true rfl) (gDep rfl) ⟨Nat.le_refl 0, Nat.le_refl 0⟩ ?_
  refine g_if_ne K d_c11_end_14 (fun c4 => ?_) (fun c4 => ?_)
  · rw [if_neg c4] at hy
    refine g_aload_n K d_c11_end_19 0 rfl ?_
    refine g_iload_n K d_c11_end_20 1 rfl ?_
    obtain ⟨h5, e_h5, hy⟩ := gBd hy
    refine g_putI K fp_c11_118 d_c11_end_21 e_h5 ?_
    refine g_iconst (v := 1) K d_c11_end_24 (by decide) ?_
    obtain ⟨w6, e_w6, hy⟩ := gBd hy
    obtain ⟨z_w6, n_w6⟩ := gZ_spec e_w6
    rw [z_w6]
    obtain rfl := Option.some.inj hy
    exact hret (gZn n_w6) _ _ _ d_c11_end_25
  · rw [if_pos c4] at hy
    refine g_iconst (v := 0) K d_c11_end_17 (by decide) ?_
    obtain ⟨w7, e_w7, hy⟩ := gBd hy
    obtain ⟨z_w7, n_w7⟩ := gZ_spec e_w7
    rw [z_w7]
    obtain rfl := Option.some.inj hy
    exact hret (gZn n_w7) _ _ _ d_c11_end_18
-- c11 farOf
theorem d_c11_farOf_0 : gD b_c11_farOf 0 (.iload_n 1) 1 1 := ⟨by decide +kernel, rfl⟩
theorem d_c11_farOf_1 : gD b_c11_farOf 1 (.aload_n 0) 1 2 := ⟨by decide +kernel, rfl⟩
theorem d_c11_farOf_2 : gD b_c11_farOf 2 (.getfield 17) 3 5 := ⟨by decide +kernel, rfl⟩
theorem d_c11_farOf_5 : gD b_c11_farOf 5 .idiv 1 6 := ⟨by decide +kernel, rfl⟩
theorem d_c11_farOf_6 : gD b_c11_farOf 6 (.iload_n 2) 1 7 := ⟨by decide +kernel, rfl⟩
theorem d_c11_farOf_7 : gD b_c11_farOf 7 (.aload_n 0) 1 8 := ⟨by decide +kernel, rfl⟩
theorem d_c11_farOf_8 : gD b_c11_farOf 8 (.getfield 17) 3 11 := ⟨by decide +kernel, rfl⟩
theorem d_c11_farOf_11 : gD b_c11_farOf 11 .idiv 1 12 := ⟨by decide +kernel, rfl⟩
theorem d_c11_farOf_12 : gD b_c11_farOf 12 .isub 1 13 := ⟨by decide +kernel, rfl⟩
theorem d_c11_farOf_13 : gD b_c11_farOf 13 (.invokestatic 112) 3 16 := ⟨by decide +kernel, rfl⟩
theorem d_c11_farOf_16 : gD b_c11_farOf 16 (.iload_n 1) 1 17 := ⟨by decide +kernel, rfl⟩
theorem d_c11_farOf_17 : gD b_c11_farOf 17 (.aload_n 0) 1 18 := ⟨by decide +kernel, rfl⟩
theorem d_c11_farOf_18 : gD b_c11_farOf 18 (.getfield 17) 3 21 := ⟨by decide +kernel, rfl⟩
theorem d_c11_farOf_21 : gD b_c11_farOf 21 .irem 1 22 := ⟨by decide +kernel, rfl⟩
theorem d_c11_farOf_22 : gD b_c11_farOf 22 (.iload_n 2) 1 23 := ⟨by decide +kernel, rfl⟩
theorem d_c11_farOf_23 : gD b_c11_farOf 23 (.aload_n 0) 1 24 := ⟨by decide +kernel, rfl⟩
theorem d_c11_farOf_24 : gD b_c11_farOf 24 (.getfield 17) 3 27 := ⟨by decide +kernel, rfl⟩
theorem d_c11_farOf_27 : gD b_c11_farOf 27 .irem 1 28 := ⟨by decide +kernel, rfl⟩
theorem d_c11_farOf_28 : gD b_c11_farOf 28 .isub 1 29 := ⟨by decide +kernel, rfl⟩
theorem d_c11_farOf_29 : gD b_c11_farOf 29 (.invokestatic 112) 3 32 := ⟨by decide +kernel, rfl⟩
theorem d_c11_farOf_32 : gD b_c11_farOf 32 .iadd 1 33 := ⟨by decide +kernel, rfl⟩
theorem d_c11_farOf_33 : gD b_c11_farOf 33 .ireturn 1 34 := ⟨by decide +kernel, rfl⟩
def f_c11_farOf (N : Nat) (a0 : Nat) (x1 : Int32) (x2 : Int32) (h : gH) : Option (Int32) :=
  (gcl h a0 11).bind fun _ =>
  (gfI h a0 11 2).bind fun v1 =>
    (gNZ v1).bind fun u2 =>
    (gfI h a0 11 2).bind fun v3 =>
    (gNZ v3).bind fun u4 =>
    (gfI h a0 11 2).bind fun v5 =>
    (gNZ v5).bind fun u6 =>
    (gfI h a0 11 2).bind fun v7 =>
    (gNZ v7).bind fun u8 =>
    some ((gabs ((x1 / v1) - (x2 / v3))) + (gabs ((x1 - x1 / v5 * v5) - (x2 - x2 / v7 * v7))))
set_option maxHeartbeats 4000000 in
set_option maxRecDepth 100000 in
theorem ct_c11_farOf (l : Launch) (X : gX) (hx : gEx X = false) (N : Nat) (a0 : Nat) (x1 : Int32) (x2 : Int32) (h : gH) (q : Int32) (hy : f_c11_farOf N a0 x1 x2 h = some q) : gRc y_c11_farOf h a0 ∧ gMi l X y_c11_farOf b_c11_farOf 3 .int (2 + N) 0 0 [.ref a0, .int x1, .int x2] h q h := by
  unfold f_c11_farOf at hy
  obtain ⟨u0, e_u0, hy⟩ := gBd hy
  cases u0
  refine ⟨Or.inl ⟨11, _, _, e_u0, rfl⟩, gMet_i (lsx := [(0, .ref a0), (1, .int x1), (2, .int x2)]) (by decide) rfl rfl ?_⟩
  intro M hMl K hret
  subst hMl
  refine g_iload_n K d_c11_farOf_0 1 rfl ?_
  refine g_aload_n K d_c11_farOf_1 0 rfl ?_
  obtain ⟨v1, e_v1, hy⟩ := gBd hy
  refine g_getI K fl_c11_17 d_c11_farOf_2 e_v1 ?_
  obtain ⟨u2, e_u2, hy⟩ := gBd hy
  refine g_idiv K d_c11_farOf_5 e_u2 ?_
  refine g_iload_n K d_c11_farOf_6 2 rfl ?_
  refine g_aload_n K d_c11_farOf_7 0 rfl ?_
  obtain ⟨v3, e_v3, hy⟩ := gBd hy
  refine g_getI K fl_c11_17 d_c11_farOf_8 e_v3 ?_
  obtain ⟨u4, e_u4, hy⟩ := gBd hy
  refine g_idiv K d_c11_farOf_11 e_u4 ?_
  refine g_isub K d_c11_farOf_12 ?_
  refine g_mabs K d_c11_farOf_13 (gTk_6 129 rfl rfl) (gTk_2 178 rfl rfl) (gTk_1 12 rfl rfl) (gTk_2 179 rfl rfl) (gDep1 rfl) (Nat.le_of_ble_eq_true rfl) ⟨Nat.le_refl 0, Nat.le_refl 0⟩ ?_
  refine g_iload_n K d_c11_farOf_16 1 rfl ?_
  refine g_aload_n K d_c11_farOf_17 0 rfl ?_
  obtain ⟨v5, e_v5, hy⟩ := gBd hy
  refine g_getI K fl_c11_17 d_c11_farOf_18 e_v5 ?_
  obtain ⟨u6, e_u6, hy⟩ := gBd hy
  refine g_irem K d_c11_farOf_21 e_u6 ?_
  refine g_iload_n K d_c11_farOf_22 2 rfl ?_
  refine g_aload_n K d_c11_farOf_23 0 rfl ?_
  obtain ⟨v7, e_v7, hy⟩ := gBd hy
  refine g_getI K fl_c11_17 d_c11_farOf_24 e_v7 ?_
  obtain ⟨u8, e_u8, hy⟩ := gBd hy
  refine g_irem K d_c11_farOf_27 e_u8 ?_
  refine g_isub K d_c11_farOf_28 ?_
  refine g_mabs K d_c11_farOf_29 (gTk_6 129 rfl rfl) (gTk_2 178 rfl rfl) (gTk_1 12 rfl rfl) (gTk_2 179 rfl rfl) (gDep1 rfl) (Nat.le_of_ble_eq_true rfl) ⟨Nat.le_refl 0, Nat.le_refl 0⟩ ?_
  refine g_iadd K d_c11_farOf_32 ?_
  obtain rfl := Option.some.inj hy
  exact hret rfl _ _ _ d_c11_farOf_33
-- c11 fault
theorem d_c11_fault_0 : gD b_c11_fault 0 (.aload_n 0) 1 1 := ⟨by decide +kernel, rfl⟩
theorem d_c11_fault_1 : gD b_c11_fault 1 (.invokevirtual 140) 3 4 := ⟨by decide +kernel, rfl⟩
theorem d_c11_fault_4 : gJ b_c11_fault 4 (.ifCond .eq 8) 3 8 7 12 := ⟨by decide +kernel, rfl, by decide⟩
theorem d_c11_fault_7 : gD b_c11_fault 7 (.aload_n 0) 1 8 := ⟨by decide +kernel, rfl⟩
theorem d_c11_fault_8 : gD b_c11_fault 8 (.iload_n 1) 1 9 := ⟨by decide +kernel, rfl⟩
theorem d_c11_fault_9 : gD b_c11_fault 9 (.putfield 133) 3 12 := ⟨by decide +kernel, rfl⟩
theorem d_c11_fault_12 : gD b_c11_fault 12 .return_ 1 13 := ⟨by decide +kernel, rfl⟩
def f_c11_fault (N : Nat) (a0 : Nat) (x1 : Int32) (h : gH) : Option (gH) :=
  (gcl h a0 11).bind fun _ =>
  (f_c11_fine N a0 h).bind fun q1 =>
    (show Option (gH) from if q1 = 0 then
    some h
  else
    (sf h a0 11 15 (.int x1)).bind fun h5 =>
    some h5).bind fun t3 =>
    some t3
set_option maxHeartbeats 4000000 in
set_option maxRecDepth 100000 in
theorem ct_c11_fault (l : Launch) (X : gX) (hx : gEx X = false) (N : Nat) (a0 : Nat) (x1 : Int32) (h : gH) (q : gH) (hy : f_c11_fault N a0 x1 h = some q) : gRc y_c11_fault h a0 ∧ gMv l X y_c11_fault b_c11_fault 2 (2 + N) 0 0 [.ref a0, .int x1] h q := by
  unfold f_c11_fault at hy
  obtain ⟨u0, e_u0, hy⟩ := gBd hy
  cases u0
  refine ⟨Or.inl ⟨11, _, _, e_u0, rfl⟩, gMet_v (lsx := [(0, .ref a0), (1, .int x1)]) (by decide) rfl rfl ?_⟩
  intro M hMl K hret
  subst hMl
  refine g_aload_n K d_c11_fault_0 0 rfl ?_
  obtain ⟨q1, e_q1, hy⟩ := gBd hy
  refine g_callVi (rest := []) K hx ly_c11_fine kv_c11_140 d_c11_fault_1 (ct_c11_fine M.2.1 X hx N a0 h q1 e_q1) rfl rfl (Nat.le_of_ble_eq_true rfl) (gDep rfl) ⟨Nat.le_refl 0, Nat.le_refl 0⟩ ?_
  obtain ⟨t3, e_t3, hy⟩ := gBd hy
  have hJ4 : gG M X 2 0 0 12 [] [] t3 := by
    obtain rfl := Option.some.inj hy
    exact hret _ _ _ d_c11_fault_12
  refine g_if_eq K d_c11_fault_4 (fun c2 => ?_) (fun c2 => ?_)
  · rw [if_pos c2] at e_t3
    refine g_sub (ls2 := []) [] rfl ?_
    obtain rfl := Option.some.inj e_t3
    exact hJ4
  · rw [if_neg c2] at e_t3
    refine g_aload_n K d_c11_fault_7 0 rfl ?_
    refine g_iload_n K d_c11_fault_8 1 rfl ?_
    obtain ⟨h5, e_h5, e_t3⟩ := gBd e_t3
    refine g_putI K fp_c11_133 d_c11_fault_9 e_h5 ?_
    refine g_sub (ls2 := []) [] rfl ?_
    obtain rfl := Option.some.inj e_t3
    exact hJ4
-- c11 gets
theorem d_c11_gets_0 : gD b_c11_gets 0 (.iload_n 0) 1 1 := ⟨by decide +kernel, rfl⟩
theorem d_c11_gets_1 : gD b_c11_gets 1 (.iload_n 1) 1 2 := ⟨by decide +kernel, rfl⟩
theorem d_c11_gets_2 : gJ b_c11_gets 2 (.if_icmp .ge 7) 3 7 5 9 := ⟨by decide +kernel, rfl, by decide⟩
theorem d_c11_gets_5 : gD b_c11_gets 5 (.iload_n 2) 1 6 := ⟨by decide +kernel, rfl⟩
theorem d_c11_gets_6 : gJ b_c11_gets 6 (.goto 15) 3 15 9 21 := ⟨by decide +kernel, rfl, by decide⟩
theorem d_c11_gets_9 : gD b_c11_gets 9 (.iload_n 0) 1 10 := ⟨by decide +kernel, rfl⟩
theorem d_c11_gets_10 : gD b_c11_gets 10 (.iload_n 1) 1 11 := ⟨by decide +kernel, rfl⟩
theorem d_c11_gets_11 : gJ b_c11_gets 11 (.if_icmp .ne 9) 3 9 14 20 := ⟨by decide +kernel, rfl, by decide⟩
theorem d_c11_gets_14 : gD b_c11_gets 14 (.iload_n 2) 1 15 := ⟨by decide +kernel, rfl⟩
theorem d_c11_gets_15 : gD b_c11_gets 15 (.iconst 2) 1 16 := ⟨by decide +kernel, rfl⟩
theorem d_c11_gets_16 : gD b_c11_gets 16 .idiv 1 17 := ⟨by decide +kernel, rfl⟩
theorem d_c11_gets_17 : gJ b_c11_gets 17 (.goto 4) 3 4 20 21 := ⟨by decide +kernel, rfl, by decide⟩
theorem d_c11_gets_20 : gD b_c11_gets 20 (.iconst 0) 1 21 := ⟨by decide +kernel, rfl⟩
theorem d_c11_gets_21 : gD b_c11_gets 21 (.bipush 6) 2 23 := ⟨by decide +kernel, rfl⟩
theorem d_c11_gets_23 : gD b_c11_gets 23 (.iload_n 0) 1 24 := ⟨by decide +kernel, rfl⟩
theorem d_c11_gets_24 : gD b_c11_gets 24 (.invokestatic 224) 3 27 := ⟨by decide +kernel, rfl⟩
theorem d_c11_gets_27 : gD b_c11_gets 27 .iadd 1 28 := ⟨by decide +kernel, rfl⟩
theorem d_c11_gets_28 : gD b_c11_gets 28 (.iconst 0) 1 29 := ⟨by decide +kernel, rfl⟩
theorem d_c11_gets_29 : gD b_c11_gets 29 (.iload_n 0) 1 30 := ⟨by decide +kernel, rfl⟩
theorem d_c11_gets_30 : gD b_c11_gets 30 (.bipush 6) 2 32 := ⟨by decide +kernel, rfl⟩
theorem d_c11_gets_32 : gD b_c11_gets 32 .isub 1 33 := ⟨by decide +kernel, rfl⟩
theorem d_c11_gets_33 : gD b_c11_gets 33 (.invokestatic 227) 3 36 := ⟨by decide +kernel, rfl⟩
theorem d_c11_gets_36 : gD b_c11_gets 36 .isub 1 37 := ⟨by decide +kernel, rfl⟩
theorem d_c11_gets_37 : gD b_c11_gets 37 .ireturn 1 38 := ⟨by decide +kernel, rfl⟩
def f_c11_gets (N : Nat) (x0 : Int32) (x1 : Int32) (x2 : Int32) (h : gH) : Option (Int32) :=
  (show Option (Int32) from if x1 ≤ x0 then
    if x0 = x1 then
    (gNZ (2 : Int32)).bind fun u5 =>
    some (x2 / (2 : Int32))
  else
    some (0 : Int32)
  else
    some x2).bind fun t2 =>
    some ((t2 + (gmin (6 : Int32) x0)) - (gmax (0 : Int32) (x0 - (6 : Int32))))
set_option maxHeartbeats 4000000 in
set_option maxRecDepth 100000 in
theorem ct_c11_gets (l : Launch) (X : gX) (hx : gEx X = false) (N : Nat) (x0 : Int32) (x1 : Int32) (x2 : Int32) (h : gH) (q : Int32) (hy : f_c11_gets N x0 x1 x2 h = some q) : gMi l X y_c11_gets b_c11_gets 3 .int (2 + N) 0 0 [.int x0, .int x1, .int x2] h q h := by
  unfold f_c11_gets at hy
  refine gMet_i (lsx := [(0, .int x0), (1, .int x1), (2, .int x2)]) (by decide) rfl rfl ?_
  intro M hMl K hret
  subst hMl
  refine g_iload_n K d_c11_gets_0 0 rfl ?_
  refine g_iload_n K d_c11_gets_1 1 rfl ?_
  obtain ⟨t2, e_t2, hy⟩ := gBd hy
  have hJ3 : gG M X 3 0 0 21 [(0, .int x0)] [.int t2] h := by
    refine g_bipush (v := 6) K d_c11_gets_21 (by decide) ?_
    refine g_iload_n K d_c11_gets_23 0 rfl ?_
    refine g_mmin K d_c11_gets_24 (gTk_6 130 rfl rfl) (gTk_2 41 rfl rfl) (gTk_1 12 rfl rfl) (gTk_2 42 rfl rfl) (gDep1 rfl) (Nat.le_of_ble_eq_true rfl) ⟨Nat.le_refl 0, Nat.le_refl 0⟩ ?_
    refine g_iadd K d_c11_gets_27 ?_
    refine g_iconst (v := 0) K d_c11_gets_28 (by decide) ?_
    refine g_iload_n K d_c11_gets_29 0 rfl ?_
    refine g_bipush (v := 6) K d_c11_gets_30 (by decide) ?_
    refine g_isub K d_c11_gets_32 ?_
    refine g_mmax K d_c11_gets_33 (gTk_6 131 rfl rfl) (gTk_2 82 rfl rfl) (gTk_1 12 rfl rfl) (gTk_2 83 rfl rfl) (gDep1 rfl) (Nat.le_of_ble_eq_true rfl) ⟨Nat.le_refl 0, Nat.le_refl 0⟩ ?_
    refine g_isub K d_c11_gets_36 ?_
    obtain rfl := Option.some.inj hy
    exact hret rfl _ _ _ d_c11_gets_37
  refine g_icmp_ge K d_c11_gets_2 (fun c1 => ?_) (fun c1 => ?_)
  · rw [if_pos c1] at e_t2
    refine g_iload_n K d_c11_gets_9 0 rfl ?_
    refine g_iload_n K d_c11_gets_10 1 rfl ?_
    refine g_icmp_ne K d_c11_gets_11 (fun c4 => ?_) (fun c4 => ?_)
    · rw [if_neg c4] at e_t2
      refine g_iconst (v := 0) K d_c11_gets_20 (by decide) ?_
      refine g_sub (ls2 := [(0, .int x0)]) [0] rfl ?_
      obtain rfl := Option.some.inj e_t2
      exact hJ3
    · rw [if_pos c4] at e_t2
      refine g_iload_n K d_c11_gets_14 2 rfl ?_
      refine g_iconst (v := 2) K d_c11_gets_15 (by decide) ?_
      obtain ⟨u5, e_u5, e_t2⟩ := gBd e_t2
      refine g_idiv K d_c11_gets_16 e_u5 ?_
      refine g_goto K d_c11_gets_17 ?_
      refine g_sub (ls2 := [(0, .int x0)]) [0] rfl ?_
      obtain rfl := Option.some.inj e_t2
      exact hJ3
  · rw [if_neg c1] at e_t2
    refine g_iload_n K d_c11_gets_5 2 rfl ?_
    refine g_goto K d_c11_gets_6 ?_
    refine g_sub (ls2 := [(0, .int x0)]) [0] rfl ?_
    obtain rfl := Option.some.inj e_t2
    exact hJ3
-- c11 heard
theorem d_c11_heard_0 : gD b_c11_heard 0 (.aload_n 0) 1 1 := ⟨by decide +kernel, rfl⟩
theorem d_c11_heard_1 : gD b_c11_heard 1 (.iconst 0) 1 2 := ⟨by decide +kernel, rfl⟩
theorem d_c11_heard_2 : gD b_c11_heard 2 (.putfield 95) 3 5 := ⟨by decide +kernel, rfl⟩
theorem d_c11_heard_5 : gD b_c11_heard 5 (.iload_n 1) 1 6 := ⟨by decide +kernel, rfl⟩
theorem d_c11_heard_6 : gJ b_c11_heard 6 (.ifCond .ne 8) 3 8 9 14 := ⟨by decide +kernel, rfl, by decide⟩
theorem d_c11_heard_9 : gD b_c11_heard 9 (.bipush 9) 2 11 := ⟨by decide +kernel, rfl⟩
theorem d_c11_heard_11 : gJ b_c11_heard 11 (.goto 23) 3 23 14 34 := ⟨by decide +kernel, rfl, by decide⟩
theorem d_c11_heard_14 : gD b_c11_heard 14 (.iload_n 1) 1 15 := ⟨by decide +kernel, rfl⟩
theorem d_c11_heard_15 : gD b_c11_heard 15 (.iconst 1) 1 16 := ⟨by decide +kernel, rfl⟩
theorem d_c11_heard_16 : gJ b_c11_heard 16 (.if_icmp .ne 7) 3 7 19 23 := ⟨by decide +kernel, rfl, by decide⟩
theorem d_c11_heard_19 : gD b_c11_heard 19 (.iconst 1) 1 20 := ⟨by decide +kernel, rfl⟩
theorem d_c11_heard_20 : gJ b_c11_heard 20 (.goto 14) 3 14 23 34 := ⟨by decide +kernel, rfl, by decide⟩
theorem d_c11_heard_23 : gD b_c11_heard 23 (.iload_n 1) 1 24 := ⟨by decide +kernel, rfl⟩
theorem d_c11_heard_24 : gD b_c11_heard 24 (.iconst 2) 1 25 := ⟨by decide +kernel, rfl⟩
theorem d_c11_heard_25 : gJ b_c11_heard 25 (.if_icmp .ne 8) 3 8 28 33 := ⟨by decide +kernel, rfl, by decide⟩
theorem d_c11_heard_28 : gD b_c11_heard 28 (.bipush 99) 2 30 := ⟨by decide +kernel, rfl⟩
theorem d_c11_heard_30 : gJ b_c11_heard 30 (.goto 4) 3 4 33 34 := ⟨by decide +kernel, rfl, by decide⟩
theorem d_c11_heard_33 : gD b_c11_heard 33 (.iconst 5) 1 34 := ⟨by decide +kernel, rfl⟩
theorem d_c11_heard_34 : gD b_c11_heard 34 (.istore_n 3) 1 35 := ⟨by decide +kernel, rfl⟩
theorem d_c11_heard_35 : gD b_c11_heard 35 (.iload_n 1) 1 36 := ⟨by decide +kernel, rfl⟩
theorem d_c11_heard_36 : gD b_c11_heard 36 (.iconst 0) 1 37 := ⟨by decide +kernel, rfl⟩
theorem d_c11_heard_37 : gD b_c11_heard 37 (.iconst 4) 1 38 := ⟨by decide +kernel, rfl⟩
theorem d_c11_heard_38 : gD b_c11_heard 38 (.invokestatic 105) 3 41 := ⟨by decide +kernel, rfl⟩
theorem d_c11_heard_41 : gJ b_c11_heard 41 (.ifCond .eq 29) 3 29 44 70 := ⟨by decide +kernel, rfl, by decide⟩
theorem d_c11_heard_44 : gD b_c11_heard 44 (.iload_n 2) 1 45 := ⟨by decide +kernel, rfl⟩
theorem d_c11_heard_45 : gD b_c11_heard 45 (.iload_n 1) 1 46 := ⟨by decide +kernel, rfl⟩
theorem d_c11_heard_46 : gJ b_c11_heard 46 (.ifCond .ne 7) 3 7 49 53 := ⟨by decide +kernel, rfl, by decide⟩
theorem d_c11_heard_49 : gD b_c11_heard 49 (.iconst 1) 1 50 := ⟨by decide +kernel, rfl⟩
theorem d_c11_heard_50 : gJ b_c11_heard 50 (.goto 4) 3 4 53 54 := ⟨by decide +kernel, rfl, by decide⟩
theorem d_c11_heard_53 : gD b_c11_heard 53 (.iconst 0) 1 54 := ⟨by decide +kernel, rfl⟩
theorem d_c11_heard_54 : gD b_c11_heard 54 (.iload_n 3) 1 55 := ⟨by decide +kernel, rfl⟩
theorem d_c11_heard_55 : gD b_c11_heard 55 (.invokestatic 105) 3 58 := ⟨by decide +kernel, rfl⟩
theorem d_c11_heard_58 : gJ b_c11_heard 58 (.ifCond .eq 12) 3 12 61 70 := ⟨by decide +kernel, rfl, by decide⟩
theorem d_c11_heard_61 : gD b_c11_heard 61 (.aload_n 0) 1 62 := ⟨by decide +kernel, rfl⟩
theorem d_c11_heard_62 : gD b_c11_heard 62 (.getfield 339) 3 65 := ⟨by decide +kernel, rfl⟩
theorem d_c11_heard_65 : gD b_c11_heard 65 (.bipush 12) 2 67 := ⟨by decide +kernel, rfl⟩
theorem d_c11_heard_67 : gJ b_c11_heard 67 (.if_icmp .ne 5) 3 5 70 72 := ⟨by decide +kernel, rfl, by decide⟩
theorem d_c11_heard_70 : gD b_c11_heard 70 (.iconst (-1)) 1 71 := ⟨by decide +kernel, rfl⟩
theorem d_c11_heard_71 : gD b_c11_heard 71 .ireturn 1 72 := ⟨by decide +kernel, rfl⟩
theorem d_c11_heard_72 : gD b_c11_heard 72 (.aload_n 0) 1 73 := ⟨by decide +kernel, rfl⟩
theorem d_c11_heard_73 : gD b_c11_heard 73 (.getfield 73) 3 76 := ⟨by decide +kernel, rfl⟩
theorem d_c11_heard_76 : gD b_c11_heard 76 (.aload_n 0) 1 77 := ⟨by decide +kernel, rfl⟩
theorem d_c11_heard_77 : gD b_c11_heard 77 (.getfield 339) 3 80 := ⟨by decide +kernel, rfl⟩
theorem d_c11_heard_80 : gD b_c11_heard 80 (.iload_n 1) 1 81 := ⟨by decide +kernel, rfl⟩
theorem d_c11_heard_81 : gD b_c11_heard 81 .iastore 1 82 := ⟨by decide +kernel, rfl⟩
theorem d_c11_heard_82 : gD b_c11_heard 82 (.aload_n 0) 1 83 := ⟨by decide +kernel, rfl⟩
theorem d_c11_heard_83 : gD b_c11_heard 83 (.getfield 76) 3 86 := ⟨by decide +kernel, rfl⟩
theorem d_c11_heard_86 : gD b_c11_heard 86 (.aload_n 0) 1 87 := ⟨by decide +kernel, rfl⟩
theorem d_c11_heard_87 : gD b_c11_heard 87 (.getfield 339) 3 90 := ⟨by decide +kernel, rfl⟩
theorem d_c11_heard_90 : gD b_c11_heard 90 (.iload_n 2) 1 91 := ⟨by decide +kernel, rfl⟩
theorem d_c11_heard_91 : gD b_c11_heard 91 .iastore 1 92 := ⟨by decide +kernel, rfl⟩
theorem d_c11_heard_92 : gD b_c11_heard 92 (.aload_n 0) 1 93 := ⟨by decide +kernel, rfl⟩
theorem d_c11_heard_93 : gD b_c11_heard 93 .dup 1 94 := ⟨by decide +kernel, rfl⟩
theorem d_c11_heard_94 : gD b_c11_heard 94 (.getfield 339) 3 97 := ⟨by decide +kernel, rfl⟩
theorem d_c11_heard_97 : gD b_c11_heard 97 (.iconst 1) 1 98 := ⟨by decide +kernel, rfl⟩
theorem d_c11_heard_98 : gD b_c11_heard 98 .iadd 1 99 := ⟨by decide +kernel, rfl⟩
theorem d_c11_heard_99 : gD b_c11_heard 99 (.putfield 339) 3 102 := ⟨by decide +kernel, rfl⟩
theorem d_c11_heard_102 : gD b_c11_heard 102 (.aload_n 0) 1 103 := ⟨by decide +kernel, rfl⟩
theorem d_c11_heard_103 : gD b_c11_heard 103 (.getfield 339) 3 106 := ⟨by decide +kernel, rfl⟩
theorem d_c11_heard_106 : gD b_c11_heard 106 .ireturn 1 107 := ⟨by decide +kernel, rfl⟩
def f_c11_heard (N : Nat) (a0 : Nat) (x1 : Int32) (x2 : Int32) (h : gH) : Option (Int32 × gH) :=
  (gcl h a0 11).bind fun _ =>
  (sf h a0 11 10 (.int (0 : Int32))).bind fun h1 =>
    (f_c11_in N x1 (0 : Int32) (4 : Int32) h1).bind fun q5 =>
    if q5 = 0 then
    some ((-1 : Int32), h1)
  else
    (f_c11_in N x2 (if x1 = 0 then (1 : Int32) else (0 : Int32)) (if x1 = 0 then (9 : Int32) else (if x1 = (1 : Int32) then (1 : Int32) else (if x1 = (2 : Int32) then (99 : Int32) else (5 : Int32)))) h1).bind fun q10 =>
    if q10 = 0 then
    some ((-1 : Int32), h1)
  else
    (gfI h1 a0 11 34).bind fun v12 =>
    if v12 = (12 : Int32) then
    some ((-1 : Int32), h1)
  else
    (gfR h1 a0 11 32).bind fun v14 =>
    (gfI h1 a0 11 34).bind fun v15 =>
    (sa 0 h1 v14 v15 x1).bind fun h16 =>
    (gfR h16 a0 11 33).bind fun v17 =>
    (gfI h16 a0 11 34).bind fun v18 =>
    (sa 0 h16 v17 v18 x2).bind fun h19 =>
    (gfI h19 a0 11 34).bind fun v20 =>
    (sf h19 a0 11 34 (.int (v20 + (1 : Int32)))).bind fun h21 =>
    (gfI h21 a0 11 34).bind fun v22 =>
    some (v22, h21)
set_option maxHeartbeats 4000000 in
set_option maxRecDepth 100000 in
theorem ct_c11_heard (l : Launch) (X : gX) (hx : gEx X = false) (N : Nat) (a0 : Nat) (x1 : Int32) (x2 : Int32) (h : gH) (q : Int32 × gH) (hy : f_c11_heard N a0 x1 x2 h = some q) : gRc y_c11_heard h a0 ∧ gMi l X y_c11_heard b_c11_heard 4 .int (2 + N) 0 0 [.ref a0, .int x1, .int x2] h q.1 q.2 := by
  unfold f_c11_heard at hy
  obtain ⟨u0, e_u0, hy⟩ := gBd hy
  cases u0
  refine ⟨Or.inl ⟨11, _, _, e_u0, rfl⟩, gMet_i (lsx := [(0, .ref a0), (1, .int x1), (2, .int x2)]) (by decide) rfl rfl ?_⟩
  intro M hMl K hret
  subst hMl
  refine g_aload_n K d_c11_heard_0 0 rfl ?_
  refine g_iconst (v := 0) K d_c11_heard_1 (by decide) ?_
  obtain ⟨h1, e_h1, hy⟩ := gBd hy
  refine g_putI K fp_c11_95 d_c11_heard_2 e_h1 ?_
  refine g_iload_n K d_c11_heard_5 1 rfl ?_
  have hJ4 : ∀ w3 : Int32, w3 = (if x1 = 0 then (9 : Int32) else (if x1 = (1 : Int32) then (1 : Int32) else (if x1 = (2 : Int32) then (99 : Int32) else (5 : Int32)))) → gG M X 4 0 0 34 [(0, .ref a0), (1, .int x1), (2, .int x2)] [.int w3] h1 := by
    intro w3 e_w3
    subst e_w3
    refine g_istore_n (ls2 := [(3, .int (if x1 = 0 then (9 : Int32) else (if x1 = (1 : Int32) then (1 : Int32) else (if x1 = (2 : Int32) then (99 : Int32) else (5 : Int32))))), (0, .ref a0), (1, .int x1), (2, .int x2)]) K d_c11_heard_34 rfl rfl ?_
    refine g_iload_n K d_c11_heard_35 2 rfl ?_
    refine g_iconst (v := 0) K d_c11_heard_36 (by decide) ?_
    refine g_iconst (v := 4) K d_c11_heard_37 (by decide) ?_
    obtain ⟨q5, e_q5, hy⟩ := gBd hy
    refine g_callSi (rest := []) K hx ly_c11_in ks_c11_105 d_c11_heard_38 (ct_c11_in M.2.1 X hx N x1 (0 : Int32) (4 : Int32) h1 q5 e_q5) rfl rfl (Nat.le_of_ble_eq_true rfl) (gDep rfl) ⟨Nat.le_refl 0, Nat.le_refl 0⟩ ?_
    refine g_if_eq K d_c11_heard_41 (fun c6 => ?_) (fun c6 => ?_)
    · rw [if_pos c6] at hy
      refine g_iconst (v := (-1)) K d_c11_heard_70 (by decide) ?_
      obtain rfl := Option.some.inj hy
      exact hret rfl _ _ _ d_c11_heard_71
    · rw [if_neg c6] at hy
      refine g_iload_n K d_c11_heard_44 3 rfl ?_
      refine g_iload_n K d_c11_heard_45 2 rfl ?_
      have hJ9 : ∀ w8 : Int32, w8 = (if x1 = 0 then (1 : Int32) else (0 : Int32)) → gG M X 4 0 0 54 [(3, .int (if x1 = 0 then (9 : Int32) else (if x1 = (1 : Int32) then (1 : Int32) else (if x1 = (2 : Int32) then (99 : Int32) else (5 : Int32))))), (0, .ref a0), (1, .int x1), (2, .int x2)] [.int w8, .int x2] h1 := by
        intro w8 e_w8
        subst e_w8
        refine g_iload_n K d_c11_heard_54 0 rfl ?_
        obtain ⟨q10, e_q10, hy⟩ := gBd hy
        refine g_callSi (rest := []) K hx ly_c11_in ks_c11_105 d_c11_heard_55 (ct_c11_in M.2.1 X hx N x2 (if x1 = 0 then (1 : Int32) else (0 : Int32)) (if x1 = 0 then (9 : Int32) else (if x1 = (1 : Int32) then (1 : Int32) else (if x1 = (2 : Int32) then (99 : Int32) else (5 : Int32)))) h1 q10 e_q10) rfl rfl (Nat.le_of_ble_eq_true rfl) (gDep rfl) ⟨Nat.le_refl 0, Nat.le_refl 0⟩ ?_
        refine g_if_eq K d_c11_heard_58 (fun c11 => ?_) (fun c11 => ?_)
        · rw [if_pos c11] at hy
          refine g_iconst (v := (-1)) K d_c11_heard_70 (by decide) ?_
          obtain rfl := Option.some.inj hy
          exact hret rfl _ _ _ d_c11_heard_71
        · rw [if_neg c11] at hy
          refine g_aload_n K d_c11_heard_61 1 rfl ?_
          obtain ⟨v12, e_v12, hy⟩ := gBd hy
          refine g_getI K fl_c11_339 d_c11_heard_62 e_v12 ?_
          refine g_bipush (v := 12) K d_c11_heard_65 (by decide) ?_
          refine g_icmp_ne K d_c11_heard_67 (fun c13 => ?_) (fun c13 => ?_)
          · rw [if_neg c13] at hy
            refine g_aload_n K d_c11_heard_72 1 rfl ?_
            obtain ⟨v14, e_v14, hy⟩ := gBd hy
            refine g_getR K fl_c11_73 d_c11_heard_73 e_v14 ?_
            refine g_aload_n K d_c11_heard_76 1 rfl ?_
            obtain ⟨v15, e_v15, hy⟩ := gBd hy
            refine g_getI K fl_c11_339 d_c11_heard_77 e_v15 ?_
            refine g_iload_n K d_c11_heard_80 2 rfl ?_
            obtain ⟨h16, e_h16, hy⟩ := gBd hy
            refine g_iast K d_c11_heard_81 e_h16 ?_
            refine g_aload_n K d_c11_heard_82 1 rfl ?_
            obtain ⟨v17, e_v17, hy⟩ := gBd hy
            refine g_getR K fl_c11_76 d_c11_heard_83 e_v17 ?_
            refine g_aload_n K d_c11_heard_86 1 rfl ?_
            obtain ⟨v18, e_v18, hy⟩ := gBd hy
            refine g_getI K fl_c11_339 d_c11_heard_87 e_v18 ?_
            refine g_iload_n K d_c11_heard_90 3 rfl ?_
            obtain ⟨h19, e_h19, hy⟩ := gBd hy
            refine g_iast K d_c11_heard_91 e_h19 ?_
            refine g_aload_n K d_c11_heard_92 1 rfl ?_
            refine g_dup K d_c11_heard_93 rfl ?_
            obtain ⟨v20, e_v20, hy⟩ := gBd hy
            refine g_getI K fl_c11_339 d_c11_heard_94 e_v20 ?_
            refine g_iconst (v := 1) K d_c11_heard_97 (by decide) ?_
            refine g_iadd K d_c11_heard_98 ?_
            obtain ⟨h21, e_h21, hy⟩ := gBd hy
            refine g_putI K fp_c11_339 d_c11_heard_99 e_h21 ?_
            refine g_aload_n K d_c11_heard_102 1 rfl ?_
            obtain ⟨v22, e_v22, hy⟩ := gBd hy
            refine g_getI K fl_c11_339 d_c11_heard_103 e_v22 ?_
            obtain rfl := Option.some.inj hy
            exact hret rfl _ _ _ d_c11_heard_106
          · rw [if_pos c13] at hy
            refine g_iconst (v := (-1)) K d_c11_heard_70 (by decide) ?_
            obtain rfl := Option.some.inj hy
            exact hret rfl _ _ _ d_c11_heard_71
      refine g_if_ne K d_c11_heard_46 (fun c7 => ?_) (fun c7 => ?_)
      · refine g_iconst (v := 0) K d_c11_heard_53 (by decide) ?_
        exact hJ9 _ (by rw [if_neg c7])
      · refine g_iconst (v := 1) K d_c11_heard_49 (by decide) ?_
        refine g_goto K d_c11_heard_50 ?_
        exact hJ9 _ (by rw [if_pos c7])
  refine g_if_ne K d_c11_heard_6 (fun c2 => ?_) (fun c2 => ?_)
  · refine g_iload_n K d_c11_heard_14 1 rfl ?_
    refine g_iconst (v := 1) K d_c11_heard_15 (by decide) ?_
    refine g_icmp_ne K d_c11_heard_16 (fun c23 => ?_) (fun c23 => ?_)
    · refine g_iload_n K d_c11_heard_23 1 rfl ?_
      refine g_iconst (v := 2) K d_c11_heard_24 (by decide) ?_
      refine g_icmp_ne K d_c11_heard_25 (fun c24 => ?_) (fun c24 => ?_)
      · refine g_iconst (v := 5) K d_c11_heard_33 (by decide) ?_
        exact hJ4 _ (by rw [if_neg c2, if_neg c23, if_neg c24])
      · refine g_bipush (v := 99) K d_c11_heard_28 (by decide) ?_
        refine g_goto K d_c11_heard_30 ?_
        exact hJ4 _ (by rw [if_neg c2, if_neg c23, if_pos c24])
    · refine g_iconst (v := 1) K d_c11_heard_19 (by decide) ?_
      refine g_goto K d_c11_heard_20 ?_
      exact hJ4 _ (by rw [if_neg c2, if_pos c23])
  · refine g_bipush (v := 9) K d_c11_heard_9 (by decide) ?_
    refine g_goto K d_c11_heard_11 ?_
    exact hJ4 _ (by rw [if_pos c2])
-- c11 isClear
theorem d_c11_isClear_0 : gD b_c11_isClear 0 (.iload_n 1) 1 1 := ⟨by decide +kernel, rfl⟩
theorem d_c11_isClear_1 : gD b_c11_isClear 1 (.aload_n 0) 1 2 := ⟨by decide +kernel, rfl⟩
theorem d_c11_isClear_2 : gD b_c11_isClear 2 (.getfield 17) 3 5 := ⟨by decide +kernel, rfl⟩
theorem d_c11_isClear_5 : gD b_c11_isClear 5 .idiv 1 6 := ⟨by decide +kernel, rfl⟩
theorem d_c11_isClear_6 : gD b_c11_isClear 6 (.istore_n 3) 1 7 := ⟨by decide +kernel, rfl⟩
theorem d_c11_isClear_7 : gD b_c11_isClear 7 (.iload_n 1) 1 8 := ⟨by decide +kernel, rfl⟩
theorem d_c11_isClear_8 : gD b_c11_isClear 8 (.aload_n 0) 1 9 := ⟨by decide +kernel, rfl⟩
theorem d_c11_isClear_9 : gD b_c11_isClear 9 (.getfield 17) 3 12 := ⟨by decide +kernel, rfl⟩
theorem d_c11_isClear_12 : gD b_c11_isClear 12 .irem 1 13 := ⟨by decide +kernel, rfl⟩
theorem d_c11_isClear_13 : gD b_c11_isClear 13 (.istore 4) 2 15 := ⟨by decide +kernel, rfl⟩
theorem d_c11_isClear_15 : gD b_c11_isClear 15 (.iload_n 3) 1 16 := ⟨by decide +kernel, rfl⟩
theorem d_c11_isClear_16 : gD b_c11_isClear 16 (.iload_n 2) 1 17 := ⟨by decide +kernel, rfl⟩
theorem d_c11_isClear_17 : gD b_c11_isClear 17 .iadd 1 18 := ⟨by decide +kernel, rfl⟩
theorem d_c11_isClear_18 : gD b_c11_isClear 18 (.aload_n 0) 1 19 := ⟨by decide +kernel, rfl⟩
theorem d_c11_isClear_19 : gD b_c11_isClear 19 (.getfield 13) 3 22 := ⟨by decide +kernel, rfl⟩
theorem d_c11_isClear_22 : gJ b_c11_isClear 22 (.if_icmp .gt 14) 3 14 25 36 := ⟨by decide +kernel, rfl, by decide⟩
theorem d_c11_isClear_25 : gD b_c11_isClear 25 (.iload 4) 2 27 := ⟨by decide +kernel, rfl⟩
theorem d_c11_isClear_27 : gD b_c11_isClear 27 (.iload_n 2) 1 28 := ⟨by decide +kernel, rfl⟩
theorem d_c11_isClear_28 : gD b_c11_isClear 28 .iadd 1 29 := ⟨by decide +kernel, rfl⟩
theorem d_c11_isClear_29 : gD b_c11_isClear 29 (.aload_n 0) 1 30 := ⟨by decide +kernel, rfl⟩
theorem d_c11_isClear_30 : gD b_c11_isClear 30 (.getfield 17) 3 33 := ⟨by decide +kernel, rfl⟩
theorem d_c11_isClear_33 : gJ b_c11_isClear 33 (.if_icmp .le 5) 3 5 36 38 := ⟨by decide +kernel, rfl, by decide⟩
theorem d_c11_isClear_36 : gD b_c11_isClear 36 (.iconst 0) 1 37 := ⟨by decide +kernel, rfl⟩
theorem d_c11_isClear_37 : gD b_c11_isClear 37 .ireturn 1 38 := ⟨by decide +kernel, rfl⟩
theorem d_c11_isClear_38 : gD b_c11_isClear 38 (.iconst 0) 1 39 := ⟨by decide +kernel, rfl⟩
theorem d_c11_isClear_39 : gD b_c11_isClear 39 (.istore 5) 2 41 := ⟨by decide +kernel, rfl⟩
theorem d_c11_isClear_41 : gD b_c11_isClear 41 (.iload 5) 2 43 := ⟨by decide +kernel, rfl⟩
theorem d_c11_isClear_43 : gD b_c11_isClear 43 (.aload_n 0) 1 44 := ⟨by decide +kernel, rfl⟩
theorem d_c11_isClear_44 : gD b_c11_isClear 44 (.getfield 9) 3 47 := ⟨by decide +kernel, rfl⟩
theorem d_c11_isClear_47 : gD b_c11_isClear 47 (.bipush 40) 2 49 := ⟨by decide +kernel, rfl⟩
theorem d_c11_isClear_49 : gD b_c11_isClear 49 .iaload 1 50 := ⟨by decide +kernel, rfl⟩
theorem d_c11_isClear_50 : gJ b_c11_isClear 50 (.if_icmp .ge 61) 3 61 53 111 := ⟨by decide +kernel, rfl, by decide⟩
theorem d_c11_isClear_53 : gD b_c11_isClear 53 (.aload_n 0) 1 54 := ⟨by decide +kernel, rfl⟩
theorem d_c11_isClear_54 : gD b_c11_isClear 54 (.getfield 9) 3 57 := ⟨by decide +kernel, rfl⟩
theorem d_c11_isClear_57 : gD b_c11_isClear 57 (.iload 5) 2 59 := ⟨by decide +kernel, rfl⟩
theorem d_c11_isClear_59 : gD b_c11_isClear 59 .iaload 1 60 := ⟨by decide +kernel, rfl⟩
theorem d_c11_isClear_60 : gD b_c11_isClear 60 (.aload_n 0) 1 61 := ⟨by decide +kernel, rfl⟩
theorem d_c11_isClear_61 : gD b_c11_isClear 61 (.getfield 17) 3 64 := ⟨by decide +kernel, rfl⟩
theorem d_c11_isClear_64 : gD b_c11_isClear 64 .idiv 1 65 := ⟨by decide +kernel, rfl⟩
theorem d_c11_isClear_65 : gD b_c11_isClear 65 (.iload_n 3) 1 66 := ⟨by decide +kernel, rfl⟩
theorem d_c11_isClear_66 : gD b_c11_isClear 66 (.iload_n 3) 1 67 := ⟨by decide +kernel, rfl⟩
theorem d_c11_isClear_67 : gD b_c11_isClear 67 (.iload_n 2) 1 68 := ⟨by decide +kernel, rfl⟩
theorem d_c11_isClear_68 : gD b_c11_isClear 68 .iadd 1 69 := ⟨by decide +kernel, rfl⟩
theorem d_c11_isClear_69 : gD b_c11_isClear 69 (.iconst 1) 1 70 := ⟨by decide +kernel, rfl⟩
theorem d_c11_isClear_70 : gD b_c11_isClear 70 .isub 1 71 := ⟨by decide +kernel, rfl⟩
theorem d_c11_isClear_71 : gD b_c11_isClear 71 (.invokestatic 105) 3 74 := ⟨by decide +kernel, rfl⟩
theorem d_c11_isClear_74 : gJ b_c11_isClear 74 (.ifCond .eq 31) 3 31 77 105 := ⟨by decide +kernel, rfl, by decide⟩
theorem d_c11_isClear_77 : gD b_c11_isClear 77 (.aload_n 0) 1 78 := ⟨by decide +kernel, rfl⟩
theorem d_c11_isClear_78 : gD b_c11_isClear 78 (.getfield 9) 3 81 := ⟨by decide +kernel, rfl⟩
theorem d_c11_isClear_81 : gD b_c11_isClear 81 (.iload 5) 2 83 := ⟨by decide +kernel, rfl⟩
theorem d_c11_isClear_83 : gD b_c11_isClear 83 .iaload 1 84 := ⟨by decide +kernel, rfl⟩
theorem d_c11_isClear_84 : gD b_c11_isClear 84 (.aload_n 0) 1 85 := ⟨by decide +kernel, rfl⟩
theorem d_c11_isClear_85 : gD b_c11_isClear 85 (.getfield 17) 3 88 := ⟨by decide +kernel, rfl⟩
theorem d_c11_isClear_88 : gD b_c11_isClear 88 .irem 1 89 := ⟨by decide +kernel, rfl⟩
theorem d_c11_isClear_89 : gD b_c11_isClear 89 (.iload 4) 2 91 := ⟨by decide +kernel, rfl⟩
theorem d_c11_isClear_91 : gD b_c11_isClear 91 (.iload 4) 2 93 := ⟨by decide +kernel, rfl⟩
theorem d_c11_isClear_93 : gD b_c11_isClear 93 (.iload_n 2) 1 94 := ⟨by decide +kernel, rfl⟩
theorem d_c11_isClear_94 : gD b_c11_isClear 94 .iadd 1 95 := ⟨by decide +kernel, rfl⟩
theorem d_c11_isClear_95 : gD b_c11_isClear 95 (.iconst 1) 1 96 := ⟨by decide +kernel, rfl⟩
theorem d_c11_isClear_96 : gD b_c11_isClear 96 .isub 1 97 := ⟨by decide +kernel, rfl⟩
theorem d_c11_isClear_97 : gD b_c11_isClear 97 (.invokestatic 105) 3 100 := ⟨by decide +kernel, rfl⟩
theorem d_c11_isClear_100 : gJ b_c11_isClear 100 (.ifCond .eq 5) 3 5 103 105 := ⟨by decide +kernel, rfl, by decide⟩
theorem d_c11_isClear_103 : gD b_c11_isClear 103 (.iconst 0) 1 104 := ⟨by decide +kernel, rfl⟩
theorem d_c11_isClear_104 : gD b_c11_isClear 104 .ireturn 1 105 := ⟨by decide +kernel, rfl⟩
theorem d_c11_isClear_105 : gD b_c11_isClear 105 (.iinc 5 1) 3 108 := ⟨by decide +kernel, rfl⟩
theorem d_c11_isClear_108 : gJ b_c11_isClear 108 (.goto (-67)) 3 (-67) 111 41 := ⟨by decide +kernel, rfl, by decide⟩
theorem d_c11_isClear_111 : gD b_c11_isClear 111 (.iconst 1) 1 112 := ⟨by decide +kernel, rfl⟩
theorem d_c11_isClear_112 : gD b_c11_isClear 112 .ireturn 1 113 := ⟨by decide +kernel, rfl⟩
def lp_c11_isClear_41 (N : Nat) (a0 : Nat) (x2 : Int32) (x3 : Int32) (x4 : Int32) (h : gH) : Nat → Int32 → Option ((Int32) ⊕ (Unit))
  | 0, _ => none
  | k + 1, x5 =>
  (gfR h a0 11 0).bind fun v10 =>
    (ga 0 h v10 (40 : Int32)).bind fun v11 =>
    if v11 ≤ x5 then
    some (.inr ())
  else
    (gfR h a0 11 0).bind fun v13 =>
    (ga 0 h v13 x5).bind fun v14 =>
    (gfI h a0 11 2).bind fun v15 =>
    (gNZ v15).bind fun u16 =>
    (f_c11_in N (v14 / v15) x3 ((x3 + x2) - (1 : Int32)) h).bind fun q17 =>
    if q17 = 0 then
    lp_c11_isClear_41 N a0 x2 x3 x4 h k (x5 + (1 : Int32))
  else
    (gfR h a0 11 0).bind fun v19 =>
    (ga 0 h v19 x5).bind fun v20 =>
    (gfI h a0 11 2).bind fun v21 =>
    (gNZ v21).bind fun u22 =>
    (f_c11_in N (v20 - v20 / v21 * v21) x4 ((x4 + x2) - (1 : Int32)) h).bind fun q23 =>
    if q23 = 0 then
    lp_c11_isClear_41 N a0 x2 x3 x4 h k (x5 + (1 : Int32))
  else
    (gZ (0 : Int32)).bind fun w25 => some (.inl w25)
def f_c11_isClear (N : Nat) (a0 : Nat) (x1 : Int32) (x2 : Int32) (h : gH) : Option (Int32) :=
  (gcl h a0 11).bind fun _ =>
  (gfI h a0 11 2).bind fun v1 =>
    (gNZ v1).bind fun u2 =>
    (gfI h a0 11 2).bind fun v3 =>
    (gNZ v3).bind fun u4 =>
    (gfI h a0 11 1).bind fun v5 =>
    if v5 < ((x1 / v1) + x2) then
    (gZ (0 : Int32)).bind fun w7 => some w7
  else
    (gfI h a0 11 2).bind fun v8 =>
    if ((x1 - x1 / v3 * v3) + x2) ≤ v8 then
    (lp_c11_isClear_41 N a0 x2 (x1 / v1) (x1 - x1 / v3 * v3) h N (0 : Int32)).bind fun o26 => Sum.elim (fun r28 => some r28) (fun t27 =>
    (gZ (1 : Int32)).bind fun w30 => some w30) o26
  else
    (gZ (0 : Int32)).bind fun w31 => some w31
set_option maxHeartbeats 4000000 in
set_option maxRecDepth 100000 in
theorem wlp_c11_isClear_41 {M : gM} {X : gX} {N : Nat} (hx : gEx X = false) (K : gC M X gN11 b_c11_isClear 6 (gRm (2 + N) 0 0)) (a0 : Nat) (x2 : Int32) (x3 : Int32) (x4 : Int32) (h : gH) : ∀ (k : Nat) (x5 : Int32) (o : (Int32) ⊕ (Unit)), lp_c11_isClear_41 N a0 x2 x3 x4 h k x5 = some o → (∀ t, o = .inr t → gG M X 6 0 0 111 [] [] h) → (∀ r, o = .inl r → (narrow .boolean (.int r) = .int r → ∀ pc pc' ls, gD b_c11_isClear pc .ireturn 1 pc' → gG M X 6 0 0 pc ls [.int r] h)) → gG M X 6 0 0 41 [(0, .ref a0), (2, .int x2), (3, .int x3), (4, .int x4), (5, .int x5)] [] h := by
  intro k
  induction k with
  | zero =>
    intro x5 o hy
    rw [lp_c11_isClear_41.eq_1] at hy
    cases hy
  | succ k ih =>
    intro x5 o hy hE hR
    rw [lp_c11_isClear_41.eq_2] at hy
    refine g_iload K d_c11_isClear_41 4 rfl ?_
    refine g_aload_n K d_c11_isClear_43 0 rfl ?_
    obtain ⟨v10, e_v10, hy⟩ := gBd hy
    refine g_getR K fl_c11_9 d_c11_isClear_44 e_v10 ?_
    refine g_bipush (v := 40) K d_c11_isClear_47 (by decide) ?_
    obtain ⟨v11, e_v11, hy⟩ := gBd hy
    refine g_iald K d_c11_isClear_49 e_v11 ?_
    refine g_icmp_ge K d_c11_isClear_50 (fun c12 => ?_) (fun c12 => ?_)
    · rw [if_pos c12] at hy
      refine g_sub (ls2 := []) [] rfl ?_
      obtain rfl := Option.some.inj hy
      exact hE _ rfl
    · rw [if_neg c12] at hy
      refine g_aload_n K d_c11_isClear_53 0 rfl ?_
      obtain ⟨v13, e_v13, hy⟩ := gBd hy
      refine g_getR K fl_c11_9 d_c11_isClear_54 e_v13 ?_
      refine g_iload K d_c11_isClear_57 4 rfl ?_
      obtain ⟨v14, e_v14, hy⟩ := gBd hy
      refine g_iald K d_c11_isClear_59 e_v14 ?_
      refine g_aload_n K d_c11_isClear_60 0 rfl ?_
      obtain ⟨v15, e_v15, hy⟩ := gBd hy
      refine g_getI K fl_c11_17 d_c11_isClear_61 e_v15 ?_
      obtain ⟨u16, e_u16, hy⟩ := gBd hy
      refine g_idiv K d_c11_isClear_64 e_u16 ?_
      refine g_iload_n K d_c11_isClear_65 2 rfl ?_
      refine g_iload_n K d_c11_isClear_66 2 rfl ?_
      refine g_iload_n K d_c11_isClear_67 1 rfl ?_
      refine g_iadd K d_c11_isClear_68 ?_
      refine g_iconst (v := 1) K d_c11_isClear_69 (by decide) ?_
      refine g_isub K d_c11_isClear_70 ?_
      obtain ⟨q17, e_q17, hy⟩ := gBd hy
      refine g_callSi (rest := []) K hx ly_c11_in ks_c11_105 d_c11_isClear_71 (ct_c11_in M.2.1 X hx N (v14 / v15) x3 ((x3 + x2) - (1 : Int32)) h q17 e_q17) rfl rfl (Nat.le_of_ble_eq_true rfl) (gDep rfl) ⟨Nat.le_refl 0, Nat.le_refl 0⟩ ?_
      refine g_if_eq K d_c11_isClear_74 (fun c18 => ?_) (fun c18 => ?_)
      · rw [if_pos c18] at hy
        refine g_iinc (ls2 := [(5, .int (x5 + (1 : Int32))), (0, .ref a0), (2, .int x2), (3, .int x3), (4, .int x4)]) (v := 1) K d_c11_isClear_105 4 rfl (by decide) rfl rfl ?_
        refine g_goto K d_c11_isClear_108 ?_
        refine g_sub (ls2 := [(0, .ref a0), (2, .int x2), (3, .int x3), (4, .int x4), (5, .int (x5 + (1 : Int32)))]) [1, 2, 3, 4, 0] rfl ?_
        exact ih _ _ hy hE hR
      · rw [if_neg c18] at hy
        refine g_aload_n K d_c11_isClear_77 0 rfl ?_
        obtain ⟨v19, e_v19, hy⟩ := gBd hy
        refine g_getR K fl_c11_9 d_c11_isClear_78 e_v19 ?_
        refine g_iload K d_c11_isClear_81 4 rfl ?_
        obtain ⟨v20, e_v20, hy⟩ := gBd hy
        refine g_iald K d_c11_isClear_83 e_v20 ?_
        refine g_aload_n K d_c11_isClear_84 0 rfl ?_
        obtain ⟨v21, e_v21, hy⟩ := gBd hy
        refine g_getI K fl_c11_17 d_c11_isClear_85 e_v21 ?_
        obtain ⟨u22, e_u22, hy⟩ := gBd hy
        refine g_irem K d_c11_isClear_88 e_u22 ?_
        refine g_iload K d_c11_isClear_89 3 rfl ?_
        refine g_iload K d_c11_isClear_91 3 rfl ?_
        refine g_iload_n K d_c11_isClear_93 1 rfl ?_
        refine g_iadd K d_c11_isClear_94 ?_
        refine g_iconst (v := 1) K d_c11_isClear_95 (by decide) ?_
        refine g_isub K d_c11_isClear_96 ?_
        obtain ⟨q23, e_q23, hy⟩ := gBd hy
        refine g_callSi (rest := []) K hx ly_c11_in ks_c11_105 d_c11_isClear_97 (ct_c11_in M.2.1 X hx N (v20 - v20 / v21 * v21) x4 ((x4 + x2) - (1 : Int32)) h q23 e_q23) rfl rfl (Nat.le_of_ble_eq_true rfl) (gDep rfl) ⟨Nat.le_refl 0, Nat.le_refl 0⟩ ?_
        refine g_if_eq K d_c11_isClear_100 (fun c24 => ?_) (fun c24 => ?_)
        · rw [if_pos c24] at hy
          refine g_iinc (ls2 := [(5, .int (x5 + (1 : Int32))), (0, .ref a0), (2, .int x2), (3, .int x3), (4, .int x4)]) (v := 1) K d_c11_isClear_105 4 rfl (by decide) rfl rfl ?_
          refine g_goto K d_c11_isClear_108 ?_
          refine g_sub (ls2 := [(0, .ref a0), (2, .int x2), (3, .int x3), (4, .int x4), (5, .int (x5 + (1 : Int32)))]) [1, 2, 3, 4, 0] rfl ?_
          exact ih _ _ hy hE hR
        · rw [if_neg c24] at hy
          refine g_iconst (v := 0) K d_c11_isClear_103 (by decide) ?_
          obtain ⟨w25, e_w25, hy⟩ := gBd hy
          obtain ⟨z_w25, n_w25⟩ := gZ_spec e_w25
          rw [z_w25]
          obtain rfl := Option.some.inj hy
          exact hR _ rfl (gZn n_w25) _ _ _ d_c11_isClear_104
set_option maxHeartbeats 4000000 in
set_option maxRecDepth 100000 in
theorem ct_c11_isClear (l : Launch) (X : gX) (hx : gEx X = false) (N : Nat) (a0 : Nat) (x1 : Int32) (x2 : Int32) (h : gH) (q : Int32) (hy : f_c11_isClear N a0 x1 x2 h = some q) : gRc y_c11_isClear h a0 ∧ gMi l X y_c11_isClear b_c11_isClear 6 .boolean (2 + N) 0 0 [.ref a0, .int x1, .int x2] h q h := by
  unfold f_c11_isClear at hy
  obtain ⟨u0, e_u0, hy⟩ := gBd hy
  cases u0
  refine ⟨Or.inl ⟨11, _, _, e_u0, rfl⟩, gMet_i (lsx := [(0, .ref a0), (1, .int x1), (2, .int x2)]) (by decide) rfl rfl ?_⟩
  intro M hMl K hret
  subst hMl
  refine g_iload_n K d_c11_isClear_0 1 rfl ?_
  refine g_aload_n K d_c11_isClear_1 0 rfl ?_
  obtain ⟨v1, e_v1, hy⟩ := gBd hy
  refine g_getI K fl_c11_17 d_c11_isClear_2 e_v1 ?_
  obtain ⟨u2, e_u2, hy⟩ := gBd hy
  refine g_idiv K d_c11_isClear_5 e_u2 ?_
  refine g_istore_n (ls2 := [(3, .int (x1 / v1)), (0, .ref a0), (1, .int x1), (2, .int x2)]) K d_c11_isClear_6 rfl rfl ?_
  refine g_iload_n K d_c11_isClear_7 2 rfl ?_
  refine g_aload_n K d_c11_isClear_8 1 rfl ?_
  obtain ⟨v3, e_v3, hy⟩ := gBd hy
  refine g_getI K fl_c11_17 d_c11_isClear_9 e_v3 ?_
  obtain ⟨u4, e_u4, hy⟩ := gBd hy
  refine g_irem K d_c11_isClear_12 e_u4 ?_
  refine g_istore (ls2 := [(4, .int (x1 - x1 / v3 * v3)), (3, .int (x1 / v1)), (0, .ref a0), (1, .int x1), (2, .int x2)]) K d_c11_isClear_13 rfl rfl ?_
  refine g_iload_n K d_c11_isClear_15 1 rfl ?_
  refine g_iload_n K d_c11_isClear_16 4 rfl ?_
  refine g_iadd K d_c11_isClear_17 ?_
  refine g_aload_n K d_c11_isClear_18 2 rfl ?_
  obtain ⟨v5, e_v5, hy⟩ := gBd hy
  refine g_getI K fl_c11_13 d_c11_isClear_19 e_v5 ?_
  refine g_icmp_gt K d_c11_isClear_22 (fun c6 => ?_) (fun c6 => ?_)
  · rw [if_pos c6] at hy
    refine g_iconst (v := 0) K d_c11_isClear_36 (by decide) ?_
    obtain ⟨w7, e_w7, hy⟩ := gBd hy
    obtain ⟨z_w7, n_w7⟩ := gZ_spec e_w7
    rw [z_w7]
    obtain rfl := Option.some.inj hy
    exact hret (gZn n_w7) _ _ _ d_c11_isClear_37
  · rw [if_neg c6] at hy
    refine g_iload K d_c11_isClear_25 0 rfl ?_
    refine g_iload_n K d_c11_isClear_27 4 rfl ?_
    refine g_iadd K d_c11_isClear_28 ?_
    refine g_aload_n K d_c11_isClear_29 2 rfl ?_
    obtain ⟨v8, e_v8, hy⟩ := gBd hy
    refine g_getI K fl_c11_17 d_c11_isClear_30 e_v8 ?_
    refine g_icmp_le K d_c11_isClear_33 (fun c9 => ?_) (fun c9 => ?_)
    · rw [if_pos c9] at hy
      refine g_iconst (v := 0) K d_c11_isClear_38 (by decide) ?_
      refine g_istore (ls2 := [(5, .int (0 : Int32)), (4, .int (x1 - x1 / v3 * v3)), (3, .int (x1 / v1)), (0, .ref a0), (1, .int x1), (2, .int x2)]) K d_c11_isClear_39 rfl rfl ?_
      obtain ⟨o26, e_o26, hy⟩ := gBd hy
      refine g_sub (ls2 := [(0, .ref a0), (2, .int x2), (3, .int (x1 / v1)), (4, .int (x1 - x1 / v3 * v3)), (5, .int (0 : Int32))]) [3, 5, 2, 1, 0] rfl ?_
      refine wlp_c11_isClear_41 hx K a0 x2 (x1 / v1) (x1 - x1 / v3 * v3) h N (0 : Int32) o26 e_o26 (fun t27 e_t27 => ?_) (fun r28 e_r28 => ?_)
      · subst e_t27
        simp only [Sum.elim_inr] at hy
        refine g_iconst (v := 1) K d_c11_isClear_111 (by decide) ?_
        obtain ⟨w30, e_w30, hy⟩ := gBd hy
        obtain ⟨z_w30, n_w30⟩ := gZ_spec e_w30
        rw [z_w30]
        obtain rfl := Option.some.inj hy
        exact hret (gZn n_w30) _ _ _ d_c11_isClear_112
      · subst e_r28
        simp only [Sum.elim_inl] at hy
        intro hn pc9 pc9' ls9 hd9
        obtain rfl := Option.some.inj hy
        exact hret hn _ _ _ hd9
    · rw [if_neg c9] at hy
      refine g_iconst (v := 0) K d_c11_isClear_36 (by decide) ?_
      obtain ⟨w31, e_w31, hy⟩ := gBd hy
      obtain ⟨z_w31, n_w31⟩ := gZ_spec e_w31
      rw [z_w31]
      obtain rfl := Option.some.inj hy
      exact hret (gZn n_w31) _ _ _ d_c11_isClear_37
-- c11 isField
theorem d_c11_isField_0 : gD b_c11_isField 0 (.iload_n 1) 1 1 := ⟨by decide +kernel, rfl⟩
theorem d_c11_isField_1 : gD b_c11_isField 1 (.iconst 0) 1 2 := ⟨by decide +kernel, rfl⟩
theorem d_c11_isField_2 : gD b_c11_isField 2 (.aload_n 0) 1 3 := ⟨by decide +kernel, rfl⟩
theorem d_c11_isField_3 : gD b_c11_isField 3 (.invokevirtual 101) 3 6 := ⟨by decide +kernel, rfl⟩
theorem d_c11_isField_6 : gD b_c11_isField 6 (.iconst 1) 1 7 := ⟨by decide +kernel, rfl⟩
theorem d_c11_isField_7 : gD b_c11_isField 7 .isub 1 8 := ⟨by decide +kernel, rfl⟩
theorem d_c11_isField_8 : gD b_c11_isField 8 (.invokestatic 105) 3 11 := ⟨by decide +kernel, rfl⟩
theorem d_c11_isField_11 : gD b_c11_isField 11 .ireturn 1 12 := ⟨by decide +kernel, rfl⟩
def f_c11_isField (N : Nat) (a0 : Nat) (x1 : Int32) (h : gH) : Option (Int32) :=
  (gcl h a0 11).bind fun _ =>
  (f_c11_fields N a0 h).bind fun q1 =>
    (f_c11_in N x1 (0 : Int32) (q1 - (1 : Int32)) h).bind fun q2 =>
    (gZ q2).bind fun w3 => some w3
set_option maxHeartbeats 4000000 in
set_option maxRecDepth 100000 in
theorem ct_c11_isField (l : Launch) (X : gX) (hx : gEx X = false) (N : Nat) (a0 : Nat) (x1 : Int32) (h : gH) (q : Int32) (hy : f_c11_isField N a0 x1 h = some q) : gRc y_c11_isField h a0 ∧ gMi l X y_c11_isField b_c11_isField 2 .boolean (2 + N) 0 0 [.ref a0, .int x1] h q h := by
  unfold f_c11_isField at hy
  obtain ⟨u0, e_u0, hy⟩ := gBd hy
  cases u0
  refine ⟨Or.inl ⟨11, _, _, e_u0, rfl⟩, gMet_i (lsx := [(0, .ref a0), (1, .int x1)]) (by decide) rfl rfl ?_⟩
  intro M hMl K hret
  subst hMl
  refine g_iload_n K d_c11_isField_0 1 rfl ?_
  refine g_iconst (v := 0) K d_c11_isField_1 (by decide) ?_
  refine g_aload_n K d_c11_isField_2 0 rfl ?_
  obtain ⟨q1, e_q1, hy⟩ := gBd hy
  refine g_callVi (rest := [.int (0 : Int32), .int x1]) K hx ly_c11_fields kv_c11_101 d_c11_isField_3 (ct_c11_fields M.2.1 X hx N a0 h q1 e_q1) rfl rfl (Nat.le_of_ble_eq_true rfl) (gDep rfl) ⟨Nat.le_refl 0, Nat.le_refl 0⟩ ?_
  refine g_iconst (v := 1) K d_c11_isField_6 (by decide) ?_
  refine g_isub K d_c11_isField_7 ?_
  obtain ⟨q2, e_q2, hy⟩ := gBd hy
  refine g_callSi (rest := []) K hx ly_c11_in ks_c11_105 d_c11_isField_8 (ct_c11_in M.2.1 X hx N x1 (0 : Int32) (q1 - (1 : Int32)) h q2 e_q2) rfl rfl (Nat.le_of_ble_eq_true rfl) (gDep rfl) ⟨Nat.le_refl 0, Nat.le_refl 0⟩ ?_
  obtain ⟨w3, e_w3, hy⟩ := gBd hy
  obtain ⟨z_w3, n_w3⟩ := gZ_spec e_w3
  rw [z_w3]
  obtain rfl := Option.some.inj hy
  exact hret (gZn n_w3) _ _ _ d_c11_isField_11
-- c11 isSpan
theorem d_c11_isSpan_0 : gD b_c11_isSpan 0 (.iload_n 0) 1 1 := ⟨by decide +kernel, rfl⟩
theorem d_c11_isSpan_1 : gD b_c11_isSpan 1 (.iconst 1) 1 2 := ⟨by decide +kernel, rfl⟩
theorem d_c11_isSpan_2 : gD b_c11_isSpan 2 (.bipush 30) 2 4 := ⟨by decide +kernel, rfl⟩
theorem d_c11_isSpan_4 : gD b_c11_isSpan 4 (.invokestatic 105) 3 7 := ⟨by decide +kernel, rfl⟩
theorem d_c11_isSpan_7 : gD b_c11_isSpan 7 .ireturn 1 8 := ⟨by decide +kernel, rfl⟩
def f_c11_isSpan (N : Nat) (x0 : Int32) (h : gH) : Option (Int32) :=
  (f_c11_in N x0 (1 : Int32) (30 : Int32) h).bind fun q1 =>
    (gZ q1).bind fun w2 => some w2
set_option maxHeartbeats 4000000 in
set_option maxRecDepth 100000 in
theorem ct_c11_isSpan (l : Launch) (X : gX) (hx : gEx X = false) (N : Nat) (x0 : Int32) (h : gH) (q : Int32) (hy : f_c11_isSpan N x0 h = some q) : gMi l X y_c11_isSpan b_c11_isSpan 1 .boolean (2 + N) 0 0 [.int x0] h q h := by
  unfold f_c11_isSpan at hy
  refine gMet_i (lsx := [(0, .int x0)]) (by decide) rfl rfl ?_
  intro M hMl K hret
  subst hMl
  refine g_iload_n K d_c11_isSpan_0 0 rfl ?_
  refine g_iconst (v := 1) K d_c11_isSpan_1 (by decide) ?_
  refine g_bipush (v := 30) K d_c11_isSpan_2 (by decide) ?_
  obtain ⟨q1, e_q1, hy⟩ := gBd hy
  refine g_callSi (rest := []) K hx ly_c11_in ks_c11_105 d_c11_isSpan_4 (ct_c11_in M.2.1 X hx N x0 (1 : Int32) (30 : Int32) h q1 e_q1) rfl rfl (Nat.le_of_ble_eq_true rfl) (gDep rfl) ⟨Nat.le_refl 0, Nat.le_refl 0⟩ ?_
  obtain ⟨w2, e_w2, hy⟩ := gBd hy
  obtain ⟨z_w2, n_w2⟩ := gZ_spec e_w2
  rw [z_w2]
  obtain rfl := Option.some.inj hy
  exact hret (gZn n_w2) _ _ _ d_c11_isSpan_7
-- c11 isVillage
theorem d_c11_isVillage_0 : gD b_c11_isVillage 0 (.iload_n 1) 1 1 := ⟨by decide +kernel, rfl⟩
theorem d_c11_isVillage_1 : gD b_c11_isVillage 1 (.iconst 0) 1 2 := ⟨by decide +kernel, rfl⟩
theorem d_c11_isVillage_2 : gD b_c11_isVillage 2 (.aload_n 0) 1 3 := ⟨by decide +kernel, rfl⟩
theorem d_c11_isVillage_3 : gD b_c11_isVillage 3 (.getfield 109) 3 6 := ⟨by decide +kernel, rfl⟩
theorem d_c11_isVillage_6 : gD b_c11_isVillage 6 (.iconst 1) 1 7 := ⟨by decide +kernel, rfl⟩
theorem d_c11_isVillage_7 : gD b_c11_isVillage 7 .isub 1 8 := ⟨by decide +kernel, rfl⟩
theorem d_c11_isVillage_8 : gD b_c11_isVillage 8 (.invokestatic 105) 3 11 := ⟨by decide +kernel, rfl⟩
theorem d_c11_isVillage_11 : gD b_c11_isVillage 11 .ireturn 1 12 := ⟨by decide +kernel, rfl⟩
def f_c11_isVillage (N : Nat) (a0 : Nat) (x1 : Int32) (h : gH) : Option (Int32) :=
  (gcl h a0 11).bind fun _ =>
  (gfI h a0 11 3).bind fun v1 =>
    (f_c11_in N x1 (0 : Int32) (v1 - (1 : Int32)) h).bind fun q2 =>
    (gZ q2).bind fun w3 => some w3
set_option maxHeartbeats 4000000 in
set_option maxRecDepth 100000 in
theorem ct_c11_isVillage (l : Launch) (X : gX) (hx : gEx X = false) (N : Nat) (a0 : Nat) (x1 : Int32) (h : gH) (q : Int32) (hy : f_c11_isVillage N a0 x1 h = some q) : gRc y_c11_isVillage h a0 ∧ gMi l X y_c11_isVillage b_c11_isVillage 2 .boolean (2 + N) 0 0 [.ref a0, .int x1] h q h := by
  unfold f_c11_isVillage at hy
  obtain ⟨u0, e_u0, hy⟩ := gBd hy
  cases u0
  refine ⟨Or.inl ⟨11, _, _, e_u0, rfl⟩, gMet_i (lsx := [(0, .ref a0), (1, .int x1)]) (by decide) rfl rfl ?_⟩
  intro M hMl K hret
  subst hMl
  refine g_iload_n K d_c11_isVillage_0 1 rfl ?_
  refine g_iconst (v := 0) K d_c11_isVillage_1 (by decide) ?_
  refine g_aload_n K d_c11_isVillage_2 0 rfl ?_
  obtain ⟨v1, e_v1, hy⟩ := gBd hy
  refine g_getI K fl_c11_109 d_c11_isVillage_3 e_v1 ?_
  refine g_iconst (v := 1) K d_c11_isVillage_6 (by decide) ?_
  refine g_isub K d_c11_isVillage_7 ?_
  obtain ⟨q2, e_q2, hy⟩ := gBd hy
  refine g_callSi (rest := []) K hx ly_c11_in ks_c11_105 d_c11_isVillage_8 (ct_c11_in M.2.1 X hx N x1 (0 : Int32) (v1 - (1 : Int32)) h q2 e_q2) rfl rfl (Nat.le_of_ble_eq_true rfl) (gDep rfl) ⟨Nat.le_refl 0, Nat.le_refl 0⟩ ?_
  obtain ⟨w3, e_w3, hy⟩ := gBd hy
  obtain ⟨z_w3, n_w3⟩ := gZ_spec e_w3
  rw [z_w3]
  obtain rfl := Option.some.inj hy
  exact hret (gZn n_w3) _ _ _ d_c11_isVillage_11
-- c11 isWell
theorem d_c11_isWell_0 : gD b_c11_isWell 0 (.iload_n 1) 1 1 := ⟨by decide +kernel, rfl⟩
theorem d_c11_isWell_1 : gD b_c11_isWell 1 (.iconst 0) 1 2 := ⟨by decide +kernel, rfl⟩
theorem d_c11_isWell_2 : gD b_c11_isWell 2 (.aload_n 0) 1 3 := ⟨by decide +kernel, rfl⟩
theorem d_c11_isWell_3 : gD b_c11_isWell 3 (.getfield 9) 3 6 := ⟨by decide +kernel, rfl⟩
theorem d_c11_isWell_6 : gD b_c11_isWell 6 (.bipush 40) 2 8 := ⟨by decide +kernel, rfl⟩
theorem d_c11_isWell_8 : gD b_c11_isWell 8 .iaload 1 9 := ⟨by decide +kernel, rfl⟩
theorem d_c11_isWell_9 : gD b_c11_isWell 9 (.iconst 1) 1 10 := ⟨by decide +kernel, rfl⟩
theorem d_c11_isWell_10 : gD b_c11_isWell 10 .isub 1 11 := ⟨by decide +kernel, rfl⟩
theorem d_c11_isWell_11 : gD b_c11_isWell 11 (.invokestatic 105) 3 14 := ⟨by decide +kernel, rfl⟩
theorem d_c11_isWell_14 : gD b_c11_isWell 14 .ireturn 1 15 := ⟨by decide +kernel, rfl⟩
def f_c11_isWell (N : Nat) (a0 : Nat) (x1 : Int32) (h : gH) : Option (Int32) :=
  (gcl h a0 11).bind fun _ =>
  (gfR h a0 11 0).bind fun v1 =>
    (ga 0 h v1 (40 : Int32)).bind fun v2 =>
    (f_c11_in N x1 (0 : Int32) (v2 - (1 : Int32)) h).bind fun q3 =>
    (gZ q3).bind fun w4 => some w4
set_option maxHeartbeats 4000000 in
set_option maxRecDepth 100000 in
theorem ct_c11_isWell (l : Launch) (X : gX) (hx : gEx X = false) (N : Nat) (a0 : Nat) (x1 : Int32) (h : gH) (q : Int32) (hy : f_c11_isWell N a0 x1 h = some q) : gRc y_c11_isWell h a0 ∧ gMi l X y_c11_isWell b_c11_isWell 2 .boolean (2 + N) 0 0 [.ref a0, .int x1] h q h := by
  unfold f_c11_isWell at hy
  obtain ⟨u0, e_u0, hy⟩ := gBd hy
  cases u0
  refine ⟨Or.inl ⟨11, _, _, e_u0, rfl⟩, gMet_i (lsx := [(0, .ref a0), (1, .int x1)]) (by decide) rfl rfl ?_⟩
  intro M hMl K hret
  subst hMl
  refine g_iload_n K d_c11_isWell_0 1 rfl ?_
  refine g_iconst (v := 0) K d_c11_isWell_1 (by decide) ?_
  refine g_aload_n K d_c11_isWell_2 0 rfl ?_
  obtain ⟨v1, e_v1, hy⟩ := gBd hy
  refine g_getR K fl_c11_9 d_c11_isWell_3 e_v1 ?_
  refine g_bipush (v := 40) K d_c11_isWell_6 (by decide) ?_
  obtain ⟨v2, e_v2, hy⟩ := gBd hy
  refine g_iald K d_c11_isWell_8 e_v2 ?_
  refine g_iconst (v := 1) K d_c11_isWell_9 (by decide) ?_
  refine g_isub K d_c11_isWell_10 ?_
  obtain ⟨q3, e_q3, hy⟩ := gBd hy
  refine g_callSi (rest := []) K hx ly_c11_in ks_c11_105 d_c11_isWell_11 (ct_c11_in M.2.1 X hx N x1 (0 : Int32) (v2 - (1 : Int32)) h q3 e_q3) rfl rfl (Nat.le_of_ble_eq_true rfl) (gDep rfl) ⟨Nat.le_refl 0, Nat.le_refl 0⟩ ?_
  obtain ⟨w4, e_w4, hy⟩ := gBd hy
  obtain ⟨z_w4, n_w4⟩ := gZ_spec e_w4
  rw [z_w4]
  obtain rfl := Option.some.inj hy
  exact hret (gZn n_w4) _ _ _ d_c11_isWell_14
-- c11 keep
theorem d_c11_keep_0 : gD b_c11_keep 0 (.aload_n 0) 1 1 := ⟨by decide +kernel, rfl⟩
theorem d_c11_keep_1 : gD b_c11_keep 1 (.iconst 0) 1 2 := ⟨by decide +kernel, rfl⟩
theorem d_c11_keep_2 : gD b_c11_keep 2 (.putfield 95) 3 5 := ⟨by decide +kernel, rfl⟩
theorem d_c11_keep_5 : gD b_c11_keep 5 (.iload_n 1) 1 6 := ⟨by decide +kernel, rfl⟩
theorem d_c11_keep_6 : gD b_c11_keep 6 (.iconst 0) 1 7 := ⟨by decide +kernel, rfl⟩
theorem d_c11_keep_7 : gD b_c11_keep 7 (.iconst 1) 1 8 := ⟨by decide +kernel, rfl⟩
theorem d_c11_keep_8 : gD b_c11_keep 8 (.invokestatic 105) 3 11 := ⟨by decide +kernel, rfl⟩
theorem d_c11_keep_11 : gJ b_c11_keep 11 (.ifCond .ne 5) 3 5 14 16 := ⟨by decide +kernel, rfl, by decide⟩
theorem d_c11_keep_14 : gD b_c11_keep 14 (.iconst 0) 1 15 := ⟨by decide +kernel, rfl⟩
theorem d_c11_keep_15 : gD b_c11_keep 15 .ireturn 1 16 := ⟨by decide +kernel, rfl⟩
theorem d_c11_keep_16 : gD b_c11_keep 16 (.aload_n 0) 1 17 := ⟨by decide +kernel, rfl⟩
theorem d_c11_keep_17 : gD b_c11_keep 17 (.getfield 89) 3 20 := ⟨by decide +kernel, rfl⟩
theorem d_c11_keep_20 : gD b_c11_keep 20 (.iload_n 1) 1 21 := ⟨by decide +kernel, rfl⟩
theorem d_c11_keep_21 : gD b_c11_keep 21 (.iconst 1) 1 22 := ⟨by decide +kernel, rfl⟩
theorem d_c11_keep_22 : gD b_c11_keep 22 .bastore 1 23 := ⟨by decide +kernel, rfl⟩
theorem d_c11_keep_23 : gD b_c11_keep 23 (.aload_n 0) 1 24 := ⟨by decide +kernel, rfl⟩
theorem d_c11_keep_24 : gD b_c11_keep 24 (.getfield 92) 3 27 := ⟨by decide +kernel, rfl⟩
theorem d_c11_keep_27 : gD b_c11_keep 27 (.iload_n 1) 1 28 := ⟨by decide +kernel, rfl⟩
theorem d_c11_keep_28 : gD b_c11_keep 28 (.aload_n 0) 1 29 := ⟨by decide +kernel, rfl⟩
theorem d_c11_keep_29 : gD b_c11_keep 29 (.getfield 162) 3 32 := ⟨by decide +kernel, rfl⟩
theorem d_c11_keep_32 : gD b_c11_keep 32 .iastore 1 33 := ⟨by decide +kernel, rfl⟩
theorem d_c11_keep_33 : gD b_c11_keep 33 (.aload_n 0) 1 34 := ⟨by decide +kernel, rfl⟩
theorem d_c11_keep_34 : gD b_c11_keep 34 (.getfield 9) 3 37 := ⟨by decide +kernel, rfl⟩
theorem d_c11_keep_37 : gD b_c11_keep 37 (.aload_n 0) 1 38 := ⟨by decide +kernel, rfl⟩
theorem d_c11_keep_38 : gD b_c11_keep 38 (.getfield 86) 3 41 := ⟨by decide +kernel, rfl⟩
theorem d_c11_keep_41 : gD b_c11_keep 41 (.bipush 43) 2 43 := ⟨by decide +kernel, rfl⟩
theorem d_c11_keep_43 : gD b_c11_keep 43 (.iload_n 1) 1 44 := ⟨by decide +kernel, rfl⟩
theorem d_c11_keep_44 : gD b_c11_keep 44 .imul 1 45 := ⟨by decide +kernel, rfl⟩
theorem d_c11_keep_45 : gD b_c11_keep 45 (.invokestatic 253) 3 48 := ⟨by decide +kernel, rfl⟩
theorem d_c11_keep_48 : gD b_c11_keep 48 (.iconst 1) 1 49 := ⟨by decide +kernel, rfl⟩
theorem d_c11_keep_49 : gD b_c11_keep 49 .ireturn 1 50 := ⟨by decide +kernel, rfl⟩
def f_c11_keep (N : Nat) (a0 : Nat) (x1 : Int32) (h : gH) : Option (Int32 × gH) :=
  (gcl h a0 11).bind fun _ =>
  (sf h a0 11 10 (.int (0 : Int32))).bind fun h1 =>
    (f_c11_in N x1 (0 : Int32) (1 : Int32) h1).bind fun q2 =>
    if q2 = 0 then
    (gZ (0 : Int32)).bind fun w13 => some (w13, h1)
  else
    (gfR h1 a0 11 40).bind fun v4 =>
    (saB h1 v4 x1 (1 : Int32)).bind fun h5 =>
    (gfR h5 a0 11 41).bind fun v6 =>
    (gfI h5 a0 11 38).bind fun v7 =>
    (sa 0 h5 v6 x1 v7).bind fun h8 =>
    (gfR h8 a0 11 0).bind fun v9 =>
    (gfR h8 a0 11 39).bind fun v10 =>
    (f_c11_lay N v9 v10 ((43 : Int32) * x1) h8).bind fun q11 =>
    (gZ (1 : Int32)).bind fun w12 => some (w12, q11)
set_option maxHeartbeats 4000000 in
set_option maxRecDepth 100000 in
theorem ct_c11_keep (l : Launch) (X : gX) (hx : gEx X = false) (N : Nat) (a0 : Nat) (x1 : Int32) (h : gH) (q : Int32 × gH) (hy : f_c11_keep N a0 x1 h = some q) : gRc y_c11_keep h a0 ∧ gMi l X y_c11_keep b_c11_keep 2 .boolean (2 + N) 0 0 [.ref a0, .int x1] h q.1 q.2 := by
  unfold f_c11_keep at hy
  obtain ⟨u0, e_u0, hy⟩ := gBd hy
  cases u0
  refine ⟨Or.inl ⟨11, _, _, e_u0, rfl⟩, gMet_i (lsx := [(0, .ref a0), (1, .int x1)]) (by decide) rfl rfl ?_⟩
  intro M hMl K hret
  subst hMl
  refine g_aload_n K d_c11_keep_0 0 rfl ?_
  refine g_iconst (v := 0) K d_c11_keep_1 (by decide) ?_
  obtain ⟨h1, e_h1, hy⟩ := gBd hy
  refine g_putI K fp_c11_95 d_c11_keep_2 e_h1 ?_
  refine g_iload_n K d_c11_keep_5 1 rfl ?_
  refine g_iconst (v := 0) K d_c11_keep_6 (by decide) ?_
  refine g_iconst (v := 1) K d_c11_keep_7 (by decide) ?_
  obtain ⟨q2, e_q2, hy⟩ := gBd hy
  refine g_callSi (rest := []) K hx ly_c11_in ks_c11_105 d_c11_keep_8 (ct_c11_in M.2.1 X hx N x1 (0 : Int32) (1 : Int32) h1 q2 e_q2) rfl rfl (Nat.le_of_ble_eq_true rfl) (gDep rfl) ⟨Nat.le_refl 0, Nat.le_refl 0⟩ ?_
  refine g_if_ne K d_c11_keep_11 (fun c3 => ?_) (fun c3 => ?_)
  · rw [if_neg c3] at hy
    refine g_aload_n K d_c11_keep_16 0 rfl ?_
    obtain ⟨v4, e_v4, hy⟩ := gBd hy
    refine g_getR K fl_c11_89 d_c11_keep_17 e_v4 ?_
    refine g_iload_n K d_c11_keep_20 1 rfl ?_
    refine g_iconst (v := 1) K d_c11_keep_21 (by decide) ?_
    obtain ⟨h5, e_h5, hy⟩ := gBd hy
    refine g_bast K d_c11_keep_22 e_h5 ?_
    refine g_aload_n K d_c11_keep_23 0 rfl ?_
    obtain ⟨v6, e_v6, hy⟩ := gBd hy
    refine g_getR K fl_c11_92 d_c11_keep_24 e_v6 ?_
    refine g_iload_n K d_c11_keep_27 1 rfl ?_
    refine g_aload_n K d_c11_keep_28 0 rfl ?_
    obtain ⟨v7, e_v7, hy⟩ := gBd hy
    refine g_getI K fl_c11_162 d_c11_keep_29 e_v7 ?_
    obtain ⟨h8, e_h8, hy⟩ := gBd hy
    refine g_iast K d_c11_keep_32 e_h8 ?_
    refine g_aload_n K d_c11_keep_33 0 rfl ?_
    obtain ⟨v9, e_v9, hy⟩ := gBd hy
    refine g_getR K fl_c11_9 d_c11_keep_34 e_v9 ?_
    refine g_aload_n K d_c11_keep_37 0 rfl ?_
    obtain ⟨v10, e_v10, hy⟩ := gBd hy
    refine g_getR K fl_c11_86 d_c11_keep_38 e_v10 ?_
    refine g_bipush (v := 43) K d_c11_keep_41 (by decide) ?_
    refine g_iload_n K d_c11_keep_43 1 rfl ?_
    refine g_imul K d_c11_keep_44 ?_
    obtain ⟨q11, e_q11, hy⟩ := gBd hy
    refine g_callSv (rest := []) K hx ly_c11_lay ks_c11_253 d_c11_keep_45 (ct_c11_lay M.2.1 X hx N v9 v10 ((43 : Int32) * x1) h8 q11 e_q11) rfl rfl (Nat.le_of_ble_eq_true rfl) (gDep rfl) ⟨Nat.le_refl 0, Nat.le_refl 0⟩ ?_
    refine g_iconst (v := 1) K d_c11_keep_48 (by decide) ?_
    obtain ⟨w12, e_w12, hy⟩ := gBd hy
    obtain ⟨z_w12, n_w12⟩ := gZ_spec e_w12
    rw [z_w12]
    obtain rfl := Option.some.inj hy
    exact hret (gZn n_w12) _ _ _ d_c11_keep_49
  · rw [if_pos c3] at hy
    refine g_iconst (v := 0) K d_c11_keep_14 (by decide) ?_
    obtain ⟨w13, e_w13, hy⟩ := gBd hy
    obtain ⟨z_w13, n_w13⟩ := gZ_spec e_w13
    rw [z_w13]
    obtain rfl := Option.some.inj hy
    exact hret (gZn n_w13) _ _ _ d_c11_keep_15
-- c11 meant
theorem d_c11_meant_0 : gD b_c11_meant 0 (.aload_n 0) 1 1 := ⟨by decide +kernel, rfl⟩
theorem d_c11_meant_1 : gD b_c11_meant 1 (.iconst 0) 1 2 := ⟨by decide +kernel, rfl⟩
theorem d_c11_meant_2 : gD b_c11_meant 2 (.putfield 95) 3 5 := ⟨by decide +kernel, rfl⟩
theorem d_c11_meant_5 : gD b_c11_meant 5 (.iload_n 1) 1 6 := ⟨by decide +kernel, rfl⟩
theorem d_c11_meant_6 : gD b_c11_meant 6 (.iconst 0) 1 7 := ⟨by decide +kernel, rfl⟩
theorem d_c11_meant_7 : gD b_c11_meant 7 (.bipush 10) 2 9 := ⟨by decide +kernel, rfl⟩
theorem d_c11_meant_9 : gD b_c11_meant 9 (.invokestatic 105) 3 12 := ⟨by decide +kernel, rfl⟩
theorem d_c11_meant_12 : gJ b_c11_meant 12 (.ifCond .eq 45) 3 45 15 57 := ⟨by decide +kernel, rfl, by decide⟩
theorem d_c11_meant_15 : gD b_c11_meant 15 (.iload_n 2) 1 16 := ⟨by decide +kernel, rfl⟩
theorem d_c11_meant_16 : gD b_c11_meant 16 (.iconst 0) 1 17 := ⟨by decide +kernel, rfl⟩
theorem d_c11_meant_17 : gD b_c11_meant 17 (.bipush 10) 2 19 := ⟨by decide +kernel, rfl⟩
theorem d_c11_meant_19 : gD b_c11_meant 19 (.invokestatic 105) 3 22 := ⟨by decide +kernel, rfl⟩
theorem d_c11_meant_22 : gJ b_c11_meant 22 (.ifCond .eq 35) 3 35 25 57 := ⟨by decide +kernel, rfl, by decide⟩
theorem d_c11_meant_25 : gD b_c11_meant 25 (.iload_n 3) 1 26 := ⟨by decide +kernel, rfl⟩
theorem d_c11_meant_26 : gD b_c11_meant 26 (.iconst 0) 1 27 := ⟨by decide +kernel, rfl⟩
theorem d_c11_meant_27 : gD b_c11_meant 27 (.bipush 10) 2 29 := ⟨by decide +kernel, rfl⟩
theorem d_c11_meant_29 : gD b_c11_meant 29 (.invokestatic 105) 3 32 := ⟨by decide +kernel, rfl⟩
theorem d_c11_meant_32 : gJ b_c11_meant 32 (.ifCond .eq 25) 3 25 35 57 := ⟨by decide +kernel, rfl, by decide⟩
theorem d_c11_meant_35 : gD b_c11_meant 35 (.iload 4) 2 37 := ⟨by decide +kernel, rfl⟩
theorem d_c11_meant_37 : gD b_c11_meant 37 (.iconst 0) 1 38 := ⟨by decide +kernel, rfl⟩
theorem d_c11_meant_38 : gD b_c11_meant 38 (.bipush 7) 2 40 := ⟨by decide +kernel, rfl⟩
theorem d_c11_meant_40 : gD b_c11_meant 40 (.invokestatic 105) 3 43 := ⟨by decide +kernel, rfl⟩
theorem d_c11_meant_43 : gJ b_c11_meant 43 (.ifCond .eq 14) 3 14 46 57 := ⟨by decide +kernel, rfl, by decide⟩
theorem d_c11_meant_46 : gD b_c11_meant 46 (.iload 5) 2 48 := ⟨by decide +kernel, rfl⟩
theorem d_c11_meant_48 : gD b_c11_meant 48 (.iconst 0) 1 49 := ⟨by decide +kernel, rfl⟩
theorem d_c11_meant_49 : gD b_c11_meant 49 (.iload 4) 2 51 := ⟨by decide +kernel, rfl⟩
theorem d_c11_meant_51 : gD b_c11_meant 51 (.invokestatic 105) 3 54 := ⟨by decide +kernel, rfl⟩
theorem d_c11_meant_54 : gJ b_c11_meant 54 (.ifCond .ne 5) 3 5 57 59 := ⟨by decide +kernel, rfl, by decide⟩
theorem d_c11_meant_57 : gD b_c11_meant 57 (.iconst (-1)) 1 58 := ⟨by decide +kernel, rfl⟩
theorem d_c11_meant_58 : gD b_c11_meant 58 .ireturn 1 59 := ⟨by decide +kernel, rfl⟩
theorem d_c11_meant_59 : gD b_c11_meant 59 (.iload_n 1) 1 60 := ⟨by decide +kernel, rfl⟩
theorem d_c11_meant_60 : gD b_c11_meant 60 .i2l 1 61 := ⟨by decide +kernel, rfl⟩
theorem d_c11_meant_61 : gD b_c11_meant 61 (.iload_n 2) 1 62 := ⟨by decide +kernel, rfl⟩
theorem d_c11_meant_62 : gD b_c11_meant 62 .i2l 1 63 := ⟨by decide +kernel, rfl⟩
theorem d_c11_meant_63 : gD b_c11_meant 63 (.iload 5) 2 65 := ⟨by decide +kernel, rfl⟩
theorem d_c11_meant_65 : gD b_c11_meant 65 (.invokestatic 355) 3 68 := ⟨by decide +kernel, rfl⟩
theorem d_c11_meant_68 : gD b_c11_meant 68 .lmul 1 69 := ⟨by decide +kernel, rfl⟩
theorem d_c11_meant_69 : gD b_c11_meant 69 (.bipush 10) 2 71 := ⟨by decide +kernel, rfl⟩
theorem d_c11_meant_71 : gD b_c11_meant 71 (.iload_n 2) 1 72 := ⟨by decide +kernel, rfl⟩
theorem d_c11_meant_72 : gD b_c11_meant 72 .isub 1 73 := ⟨by decide +kernel, rfl⟩
theorem d_c11_meant_73 : gD b_c11_meant 73 .i2l 1 74 := ⟨by decide +kernel, rfl⟩
theorem d_c11_meant_74 : gD b_c11_meant 74 (.iload 4) 2 76 := ⟨by decide +kernel, rfl⟩
theorem d_c11_meant_76 : gD b_c11_meant 76 (.iload 5) 2 78 := ⟨by decide +kernel, rfl⟩
theorem d_c11_meant_78 : gD b_c11_meant 78 .isub 1 79 := ⟨by decide +kernel, rfl⟩
theorem d_c11_meant_79 : gD b_c11_meant 79 (.invokestatic 355) 3 82 := ⟨by decide +kernel, rfl⟩
theorem d_c11_meant_82 : gD b_c11_meant 82 .lmul 1 83 := ⟨by decide +kernel, rfl⟩
theorem d_c11_meant_83 : gD b_c11_meant 83 (.lstore 6) 2 85 := ⟨by decide +kernel, rfl⟩
theorem d_c11_meant_85 : gD b_c11_meant 85 (.bipush 10) 2 87 := ⟨by decide +kernel, rfl⟩
theorem d_c11_meant_87 : gD b_c11_meant 87 (.iload_n 1) 1 88 := ⟨by decide +kernel, rfl⟩
theorem d_c11_meant_88 : gD b_c11_meant 88 .isub 1 89 := ⟨by decide +kernel, rfl⟩
theorem d_c11_meant_89 : gD b_c11_meant 89 .i2l 1 90 := ⟨by decide +kernel, rfl⟩
theorem d_c11_meant_90 : gD b_c11_meant 90 (.iload_n 3) 1 91 := ⟨by decide +kernel, rfl⟩
theorem d_c11_meant_91 : gD b_c11_meant 91 .i2l 1 92 := ⟨by decide +kernel, rfl⟩
theorem d_c11_meant_92 : gD b_c11_meant 92 (.iload 5) 2 94 := ⟨by decide +kernel, rfl⟩
theorem d_c11_meant_94 : gD b_c11_meant 94 (.invokestatic 355) 3 97 := ⟨by decide +kernel, rfl⟩
theorem d_c11_meant_97 : gD b_c11_meant 97 .lmul 1 98 := ⟨by decide +kernel, rfl⟩
theorem d_c11_meant_98 : gD b_c11_meant 98 (.bipush 10) 2 100 := ⟨by decide +kernel, rfl⟩
theorem d_c11_meant_100 : gD b_c11_meant 100 (.iload_n 3) 1 101 := ⟨by decide +kernel, rfl⟩
theorem d_c11_meant_101 : gD b_c11_meant 101 .isub 1 102 := ⟨by decide +kernel, rfl⟩
theorem d_c11_meant_102 : gD b_c11_meant 102 .i2l 1 103 := ⟨by decide +kernel, rfl⟩
theorem d_c11_meant_103 : gD b_c11_meant 103 (.iload 4) 2 105 := ⟨by decide +kernel, rfl⟩
theorem d_c11_meant_105 : gD b_c11_meant 105 (.iload 5) 2 107 := ⟨by decide +kernel, rfl⟩
theorem d_c11_meant_107 : gD b_c11_meant 107 .isub 1 108 := ⟨by decide +kernel, rfl⟩
theorem d_c11_meant_108 : gD b_c11_meant 108 (.invokestatic 355) 3 111 := ⟨by decide +kernel, rfl⟩
theorem d_c11_meant_111 : gD b_c11_meant 111 .lmul 1 112 := ⟨by decide +kernel, rfl⟩
theorem d_c11_meant_112 : gD b_c11_meant 112 (.lstore 8) 2 114 := ⟨by decide +kernel, rfl⟩
theorem d_c11_meant_114 : gD b_c11_meant 114 (.lload 6) 2 116 := ⟨by decide +kernel, rfl⟩
theorem d_c11_meant_116 : gD b_c11_meant 116 (.lload 8) 2 118 := ⟨by decide +kernel, rfl⟩
theorem d_c11_meant_118 : gD b_c11_meant 118 .ladd 1 119 := ⟨by decide +kernel, rfl⟩
theorem d_c11_meant_119 : gD b_c11_meant 119 (.lconst 0) 1 120 := ⟨by decide +kernel, rfl⟩
theorem d_c11_meant_120 : gD b_c11_meant 120 .lcmp 1 121 := ⟨by decide +kernel, rfl⟩
theorem d_c11_meant_121 : gJ b_c11_meant 121 (.ifCond .ne 6) 3 6 124 127 := ⟨by decide +kernel, rfl, by decide⟩
theorem d_c11_meant_124 : gD b_c11_meant 124 (.bipush (-2)) 2 126 := ⟨by decide +kernel, rfl⟩
theorem d_c11_meant_126 : gD b_c11_meant 126 .ireturn 1 127 := ⟨by decide +kernel, rfl⟩
theorem d_c11_meant_127 : gD b_c11_meant 127 (.lload 6) 2 129 := ⟨by decide +kernel, rfl⟩
theorem d_c11_meant_129 : gD b_c11_meant 129 (.lload 6) 2 131 := ⟨by decide +kernel, rfl⟩
theorem d_c11_meant_131 : gD b_c11_meant 131 (.lload 8) 2 133 := ⟨by decide +kernel, rfl⟩
theorem d_c11_meant_133 : gD b_c11_meant 133 .ladd 1 134 := ⟨by decide +kernel, rfl⟩
theorem d_c11_meant_134 : gD b_c11_meant 134 (.invokestatic 351) 3 137 := ⟨by decide +kernel, rfl⟩
theorem d_c11_meant_137 : gD b_c11_meant 137 (.lstore 10) 2 139 := ⟨by decide +kernel, rfl⟩
theorem d_c11_meant_139 : gD b_c11_meant 139 (.aload_n 0) 1 140 := ⟨by decide +kernel, rfl⟩
theorem d_c11_meant_140 : gD b_c11_meant 140 (.iconst 0) 1 141 := ⟨by decide +kernel, rfl⟩
theorem d_c11_meant_141 : gD b_c11_meant 141 (.putfield 98) 3 144 := ⟨by decide +kernel, rfl⟩
theorem d_c11_meant_144 : gD b_c11_meant 144 (.aload_n 0) 1 145 := ⟨by decide +kernel, rfl⟩
theorem d_c11_meant_145 : gD b_c11_meant 145 (.lload 6) 2 147 := ⟨by decide +kernel, rfl⟩
theorem d_c11_meant_147 : gD b_c11_meant 147 (.lload 10) 2 149 := ⟨by decide +kernel, rfl⟩
theorem d_c11_meant_149 : gD b_c11_meant 149 .ldiv 1 150 := ⟨by decide +kernel, rfl⟩
theorem d_c11_meant_150 : gD b_c11_meant 150 (.invokevirtual 268) 3 153 := ⟨by decide +kernel, rfl⟩
theorem d_c11_meant_153 : gD b_c11_meant 153 (.aload_n 0) 1 154 := ⟨by decide +kernel, rfl⟩
theorem d_c11_meant_154 : gD b_c11_meant 154 (.lload 6) 2 156 := ⟨by decide +kernel, rfl⟩
theorem d_c11_meant_156 : gD b_c11_meant 156 (.lload 8) 2 158 := ⟨by decide +kernel, rfl⟩
theorem d_c11_meant_158 : gD b_c11_meant 158 .ladd 1 159 := ⟨by decide +kernel, rfl⟩
theorem d_c11_meant_159 : gD b_c11_meant 159 (.lload 10) 2 161 := ⟨by decide +kernel, rfl⟩
theorem d_c11_meant_161 : gD b_c11_meant 161 .ldiv 1 162 := ⟨by decide +kernel, rfl⟩
theorem d_c11_meant_162 : gD b_c11_meant 162 (.invokevirtual 268) 3 165 := ⟨by decide +kernel, rfl⟩
theorem d_c11_meant_165 : gD b_c11_meant 165 (.iconst 0) 1 166 := ⟨by decide +kernel, rfl⟩
theorem d_c11_meant_166 : gD b_c11_meant 166 .ireturn 1 167 := ⟨by decide +kernel, rfl⟩
def f_c11_meant (N : Nat) (a0 : Nat) (x1 : Int32) (x2 : Int32) (x3 : Int32) (x4 : Int32) (x5 : Int32) (h : gH) : Option (Int32 × gH) :=
  (gcl h a0 11).bind fun _ =>
  (sf h a0 11 10 (.int (0 : Int32))).bind fun h1 =>
    (f_c11_in N x1 (0 : Int32) (10 : Int32) h1).bind fun q2 =>
    if q2 = 0 then
    some ((-1 : Int32), h1)
  else
    (f_c11_in N x2 (0 : Int32) (10 : Int32) h1).bind fun q4 =>
    if q4 = 0 then
    some ((-1 : Int32), h1)
  else
    (f_c11_in N x3 (0 : Int32) (10 : Int32) h1).bind fun q6 =>
    if q6 = 0 then
    some ((-1 : Int32), h1)
  else
    (f_c11_in N x4 (0 : Int32) (7 : Int32) h1).bind fun q8 =>
    if q8 = 0 then
    some ((-1 : Int32), h1)
  else
    (f_c11_in N x5 (0 : Int32) x4 h1).bind fun q10 =>
    if q10 = 0 then
    some ((-1 : Int32), h1)
  else
    (f_c11_power N x2.toInt64 x5 h1).bind fun q12 =>
    (f_c11_power N (((10 : Int32) - x2).toInt64) (x4 - x5) h1).bind fun q13 =>
    (f_c11_power N x3.toInt64 x5 h1).bind fun q14 =>
    (f_c11_power N (((10 : Int32) - x3).toInt64) (x4 - x5) h1).bind fun q15 =>
    if (lg_cmp (((x1.toInt64 * q12) * q13) + (((((10 : Int32) - x1).toInt64) * q14) * q15)) (0 : Int64)) = 0 then
    some ((-2 : Int32), h1)
  else
    (f_c11_common N ((x1.toInt64 * q12) * q13) (((x1.toInt64 * q12) * q13) + (((((10 : Int32) - x1).toInt64) * q14) * q15)) h1).bind fun q17 =>
    (sf h1 a0 11 9 (.int (0 : Int32))).bind fun h18 =>
    (gNZL q17).bind fun u19 =>
    (f_c11_tell N a0 (((x1.toInt64 * q12) * q13) / q17) h18).bind fun q20 =>
    (gNZL q17).bind fun u21 =>
    (f_c11_tell N a0 ((((x1.toInt64 * q12) * q13) + (((((10 : Int32) - x1).toInt64) * q14) * q15)) / q17) q20).bind fun q22 =>
    some ((0 : Int32), q22)
set_option maxHeartbeats 4000000 in
set_option maxRecDepth 100000 in
theorem ct_c11_meant (l : Launch) (X : gX) (hx : gEx X = false) (N : Nat) (a0 : Nat) (x1 : Int32) (x2 : Int32) (x3 : Int32) (x4 : Int32) (x5 : Int32) (h : gH) (q : Int32 × gH) (hy : f_c11_meant N a0 x1 x2 x3 x4 x5 h = some q) : gRc y_c11_meant h a0 ∧ gMi l X y_c11_meant b_c11_meant 12 .int (2 + N) 0 0 [.ref a0, .int x1, .int x2, .int x3, .int x4, .int x5] h q.1 q.2 := by
  unfold f_c11_meant at hy
  obtain ⟨u0, e_u0, hy⟩ := gBd hy
  cases u0
  refine ⟨Or.inl ⟨11, _, _, e_u0, rfl⟩, gMet_i (lsx := [(0, .ref a0), (1, .int x1), (2, .int x2), (3, .int x3), (4, .int x4), (5, .int x5)]) (by decide) rfl rfl ?_⟩
  intro M hMl K hret
  subst hMl
  refine g_aload_n K d_c11_meant_0 0 rfl ?_
  refine g_iconst (v := 0) K d_c11_meant_1 (by decide) ?_
  obtain ⟨h1, e_h1, hy⟩ := gBd hy
  refine g_putI K fp_c11_95 d_c11_meant_2 e_h1 ?_
  refine g_iload_n K d_c11_meant_5 1 rfl ?_
  refine g_iconst (v := 0) K d_c11_meant_6 (by decide) ?_
  refine g_bipush (v := 10) K d_c11_meant_7 (by decide) ?_
  obtain ⟨q2, e_q2, hy⟩ := gBd hy
  refine g_callSi (rest := []) K hx ly_c11_in ks_c11_105 d_c11_meant_9 (ct_c11_in M.2.1 X hx N x1 (0 : Int32) (10 : Int32) h1 q2 e_q2) rfl rfl (Nat.le_of_ble_eq_true rfl) (gDep rfl) ⟨Nat.le_refl 0, Nat.le_refl 0⟩ ?_
  refine g_if_eq K d_c11_meant_12 (fun c3 => ?_) (fun c3 => ?_)
  · rw [if_pos c3] at hy
    refine g_iconst (v := (-1)) K d_c11_meant_57 (by decide) ?_
    obtain rfl := Option.some.inj hy
    exact hret rfl _ _ _ d_c11_meant_58
  · rw [if_neg c3] at hy
    refine g_iload_n K d_c11_meant_15 2 rfl ?_
    refine g_iconst (v := 0) K d_c11_meant_16 (by decide) ?_
    refine g_bipush (v := 10) K d_c11_meant_17 (by decide) ?_
    obtain ⟨q4, e_q4, hy⟩ := gBd hy
    refine g_callSi (rest := []) K hx ly_c11_in ks_c11_105 d_c11_meant_19 (ct_c11_in M.2.1 X hx N x2 (0 : Int32) (10 : Int32) h1 q4 e_q4) rfl rfl (Nat.le_of_ble_eq_true rfl) (gDep rfl) ⟨Nat.le_refl 0, Nat.le_refl 0⟩ ?_
    refine g_if_eq K d_c11_meant_22 (fun c5 => ?_) (fun c5 => ?_)
    · rw [if_pos c5] at hy
      refine g_iconst (v := (-1)) K d_c11_meant_57 (by decide) ?_
      obtain rfl := Option.some.inj hy
      exact hret rfl _ _ _ d_c11_meant_58
    · rw [if_neg c5] at hy
      refine g_iload_n K d_c11_meant_25 3 rfl ?_
      refine g_iconst (v := 0) K d_c11_meant_26 (by decide) ?_
      refine g_bipush (v := 10) K d_c11_meant_27 (by decide) ?_
      obtain ⟨q6, e_q6, hy⟩ := gBd hy
      refine g_callSi (rest := []) K hx ly_c11_in ks_c11_105 d_c11_meant_29 (ct_c11_in M.2.1 X hx N x3 (0 : Int32) (10 : Int32) h1 q6 e_q6) rfl rfl (Nat.le_of_ble_eq_true rfl) (gDep rfl) ⟨Nat.le_refl 0, Nat.le_refl 0⟩ ?_
      refine g_if_eq K d_c11_meant_32 (fun c7 => ?_) (fun c7 => ?_)
      · rw [if_pos c7] at hy
        refine g_iconst (v := (-1)) K d_c11_meant_57 (by decide) ?_
        obtain rfl := Option.some.inj hy
        exact hret rfl _ _ _ d_c11_meant_58
      · rw [if_neg c7] at hy
        refine g_iload K d_c11_meant_35 4 rfl ?_
        refine g_iconst (v := 0) K d_c11_meant_37 (by decide) ?_
        refine g_bipush (v := 7) K d_c11_meant_38 (by decide) ?_
        obtain ⟨q8, e_q8, hy⟩ := gBd hy
        refine g_callSi (rest := []) K hx ly_c11_in ks_c11_105 d_c11_meant_40 (ct_c11_in M.2.1 X hx N x4 (0 : Int32) (7 : Int32) h1 q8 e_q8) rfl rfl (Nat.le_of_ble_eq_true rfl) (gDep rfl) ⟨Nat.le_refl 0, Nat.le_refl 0⟩ ?_
        refine g_if_eq K d_c11_meant_43 (fun c9 => ?_) (fun c9 => ?_)
        · rw [if_pos c9] at hy
          refine g_iconst (v := (-1)) K d_c11_meant_57 (by decide) ?_
          obtain rfl := Option.some.inj hy
          exact hret rfl _ _ _ d_c11_meant_58
        · rw [if_neg c9] at hy
          refine g_iload K d_c11_meant_46 5 rfl ?_
          refine g_iconst (v := 0) K d_c11_meant_48 (by decide) ?_
          refine g_iload K d_c11_meant_49 4 rfl ?_
          obtain ⟨q10, e_q10, hy⟩ := gBd hy
          refine g_callSi (rest := []) K hx ly_c11_in ks_c11_105 d_c11_meant_51 (ct_c11_in M.2.1 X hx N x5 (0 : Int32) x4 h1 q10 e_q10) rfl rfl (Nat.le_of_ble_eq_true rfl) (gDep rfl) ⟨Nat.le_refl 0, Nat.le_refl 0⟩ ?_
          refine g_if_ne K d_c11_meant_54 (fun c11 => ?_) (fun c11 => ?_)
          · rw [if_neg c11] at hy
            refine g_iload_n K d_c11_meant_59 1 rfl ?_
            refine g_i2l K d_c11_meant_60 ?_
            refine g_iload_n K d_c11_meant_61 2 rfl ?_
            refine g_i2l K d_c11_meant_62 ?_
            refine g_iload K d_c11_meant_63 5 rfl ?_
            obtain ⟨q12, e_q12, hy⟩ := gBd hy
            refine g_callSl (rest := [.long x1.toInt64]) K hx ly_c11_power ks_c11_355 d_c11_meant_65 (ct_c11_power M.2.1 X hx N x2.toInt64 x5 h1 q12 e_q12) rfl rfl (Nat.le_of_ble_eq_true rfl) (gDep rfl) ⟨Nat.le_refl 0, Nat.le_refl 0⟩ ?_
            refine g_lmul K d_c11_meant_68 ?_
            refine g_bipush (v := 10) K d_c11_meant_69 (by decide) ?_
            refine g_iload_n K d_c11_meant_71 2 rfl ?_
            refine g_isub K d_c11_meant_72 ?_
            refine g_i2l K d_c11_meant_73 ?_
            refine g_iload K d_c11_meant_74 4 rfl ?_
            refine g_iload K d_c11_meant_76 5 rfl ?_
            refine g_isub K d_c11_meant_78 ?_
            obtain ⟨q13, e_q13, hy⟩ := gBd hy
            refine g_callSl (rest := [.long (x1.toInt64 * q12)]) K hx ly_c11_power ks_c11_355 d_c11_meant_79 (ct_c11_power M.2.1 X hx N (((10 : Int32) - x2).toInt64) (x4 - x5) h1 q13 e_q13) rfl rfl (Nat.le_of_ble_eq_true rfl) (gDep rfl) ⟨Nat.le_refl 0, Nat.le_refl 0⟩ ?_
            refine g_lmul K d_c11_meant_82 ?_
            refine g_lstore (ls2 := [(6, .long ((x1.toInt64 * q12) * q13)), (0, .ref a0), (1, .int x1), (2, .int x2), (3, .int x3), (4, .int x4), (5, .int x5)]) K d_c11_meant_83 rfl rfl ?_
            refine g_bipush (v := 10) K d_c11_meant_85 (by decide) ?_
            refine g_iload_n K d_c11_meant_87 2 rfl ?_
            refine g_isub K d_c11_meant_88 ?_
            refine g_i2l K d_c11_meant_89 ?_
            refine g_iload_n K d_c11_meant_90 4 rfl ?_
            refine g_i2l K d_c11_meant_91 ?_
            refine g_iload K d_c11_meant_92 6 rfl ?_
            obtain ⟨q14, e_q14, hy⟩ := gBd hy
            refine g_callSl (rest := [.long (((10 : Int32) - x1).toInt64)]) K hx ly_c11_power ks_c11_355 d_c11_meant_94 (ct_c11_power M.2.1 X hx N x3.toInt64 x5 h1 q14 e_q14) rfl rfl (Nat.le_of_ble_eq_true rfl) (gDep rfl) ⟨Nat.le_refl 0, Nat.le_refl 0⟩ ?_
            refine g_lmul K d_c11_meant_97 ?_
            refine g_bipush (v := 10) K d_c11_meant_98 (by decide) ?_
            refine g_iload_n K d_c11_meant_100 4 rfl ?_
            refine g_isub K d_c11_meant_101 ?_
            refine g_i2l K d_c11_meant_102 ?_
            refine g_iload K d_c11_meant_103 5 rfl ?_
            refine g_iload K d_c11_meant_105 6 rfl ?_
            refine g_isub K d_c11_meant_107 ?_
            obtain ⟨q15, e_q15, hy⟩ := gBd hy
            refine g_callSl (rest := [.long ((((10 : Int32) - x1).toInt64) * q14)]) K hx ly_c11_power ks_c11_355 d_c11_meant_108 (ct_c11_power M.2.1 X hx N (((10 : Int32) - x3).toInt64) (x4 - x5) h1 q15 e_q15) rfl rfl (Nat.le_of_ble_eq_true rfl) (gDep rfl) ⟨Nat.le_refl 0, Nat.le_refl 0⟩ ?_
            refine g_lmul K d_c11_meant_111 ?_
            refine g_lstore (ls2 := [(8, .long (((((10 : Int32) - x1).toInt64) * q14) * q15)), (6, .long ((x1.toInt64 * q12) * q13)), (0, .ref a0), (1, .int x1), (2, .int x2), (3, .int x3), (4, .int x4), (5, .int x5)]) K d_c11_meant_112 rfl rfl ?_
            refine g_lload K d_c11_meant_114 1 rfl ?_
            refine g_lload K d_c11_meant_116 0 rfl ?_
            refine g_ladd K d_c11_meant_118 ?_
            refine g_lconst (v := 0) K d_c11_meant_119 (by decide) ?_
            refine g_lcmp K d_c11_meant_120 ?_
            refine g_if_ne K d_c11_meant_121 (fun c16 => ?_) (fun c16 => ?_)
            · rw [if_neg c16] at hy
              refine g_lload K d_c11_meant_127 1 rfl ?_
              refine g_lload K d_c11_meant_129 1 rfl ?_
              refine g_lload K d_c11_meant_131 0 rfl ?_
              refine g_ladd K d_c11_meant_133 ?_
              obtain ⟨q17, e_q17, hy⟩ := gBd hy
              refine g_callSl (rest := []) K hx ly_c11_common ks_c11_351 d_c11_meant_134 (ct_c11_common M.2.1 X hx N ((x1.toInt64 * q12) * q13) (((x1.toInt64 * q12) * q13) + (((((10 : Int32) - x1).toInt64) * q14) * q15)) h1 q17 e_q17) rfl rfl (Nat.le_of_ble_eq_true rfl) (gDep rfl) ⟨Nat.le_refl 0, Nat.le_refl 0⟩ ?_
              refine g_lstore (ls2 := [(10, .long q17), (8, .long (((((10 : Int32) - x1).toInt64) * q14) * q15)), (6, .long ((x1.toInt64 * q12) * q13)), (0, .ref a0), (1, .int x1), (2, .int x2), (3, .int x3), (4, .int x4), (5, .int x5)]) K d_c11_meant_137 rfl rfl ?_
              refine g_aload_n K d_c11_meant_139 3 rfl ?_
              refine g_iconst (v := 0) K d_c11_meant_140 (by decide) ?_
              obtain ⟨h18, e_h18, hy⟩ := gBd hy
              refine g_putI K fp_c11_98 d_c11_meant_141 e_h18 ?_
              refine g_aload_n K d_c11_meant_144 3 rfl ?_
              refine g_lload K d_c11_meant_145 2 rfl ?_
              refine g_lload K d_c11_meant_147 0 rfl ?_
              obtain ⟨u19, e_u19, hy⟩ := gBd hy
              refine g_ldiv K d_c11_meant_149 e_u19 ?_
              obtain ⟨q20, e_q20, hy⟩ := gBd hy
              refine g_callVv (rest := []) K hx ly_c11_tell kv_c11_268 d_c11_meant_150 (ct_c11_tell M.2.1 X hx N a0 (((x1.toInt64 * q12) * q13) / q17) h18 q20 e_q20) rfl rfl (Nat.le_of_ble_eq_true rfl) (gDep rfl) ⟨Nat.le_refl 0, Nat.le_refl 0⟩ ?_
              refine g_aload_n K d_c11_meant_153 3 rfl ?_
              refine g_lload K d_c11_meant_154 2 rfl ?_
              refine g_lload K d_c11_meant_156 1 rfl ?_
              refine g_ladd K d_c11_meant_158 ?_
              refine g_lload K d_c11_meant_159 0 rfl ?_
              obtain ⟨u21, e_u21, hy⟩ := gBd hy
              refine g_ldiv K d_c11_meant_161 e_u21 ?_
              obtain ⟨q22, e_q22, hy⟩ := gBd hy
              refine g_callVv (rest := []) K hx ly_c11_tell kv_c11_268 d_c11_meant_162 (ct_c11_tell M.2.1 X hx N a0 ((((x1.toInt64 * q12) * q13) + (((((10 : Int32) - x1).toInt64) * q14) * q15)) / q17) q20 q22 e_q22) rfl rfl (Nat.le_of_ble_eq_true rfl) (gDep rfl) ⟨Nat.le_refl 0, Nat.le_refl 0⟩ ?_
              refine g_iconst (v := 0) K d_c11_meant_165 (by decide) ?_
              obtain rfl := Option.some.inj hy
              exact hret rfl _ _ _ d_c11_meant_166
            · rw [if_pos c16] at hy
              refine g_bipush (v := (-2)) K d_c11_meant_124 (by decide) ?_
              obtain rfl := Option.some.inj hy
              exact hret rfl _ _ _ d_c11_meant_126
          · rw [if_pos c11] at hy
            refine g_iconst (v := (-1)) K d_c11_meant_57 (by decide) ?_
            obtain rfl := Option.some.inj hy
            exact hret rfl _ _ _ d_c11_meant_58
