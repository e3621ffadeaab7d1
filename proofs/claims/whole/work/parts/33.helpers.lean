theorem kv_FullStopWellsLaw_15 : gLV "FullStopWellsLaw" 15 y_c10_village := ⟨Or.inl (gTk_5 97 rfl rfl), gTk_5 98 rfl rfl, gTk_5 99 rfl rfl⟩
theorem kv_FullStopWellsLaw_18 : gLV "FullStopWellsLaw" 18 y_c10_row := ⟨Or.inl (gTk_5 105 rfl rfl), gTk_5 106 rfl rfl, gTk_5 107 rfl rfl⟩
theorem kv_FullStopWellsLaw_7 : gLV "FullStopWellsLaw" 7 y_c10_well := ⟨Or.inl (gTk_5 23 rfl rfl), gTk_5 24 rfl rfl, gTk_5 25 rfl rfl⟩
theorem d_c10_well_21 : gD b_c10_well 21 (.new 141) 3 24 := ⟨by decide +kernel, rfl⟩
theorem d_c10_well_24 : gD b_c10_well 24 .dup 1 25 := ⟨by decide +kernel, rfl⟩
theorem d_c10_well_25 : gD b_c10_well 25 (.invokespecial 143) 3 28 := ⟨by decide +kernel, rfl⟩
theorem d_c10_well_28 : gD b_c10_well 28 .athrow 1 29 := ⟨by decide +kernel, rfl⟩
def t_c10_well (N : Nat) (a0 : Nat) (x1 : Int32) (x2 : Int32) (h : gH) : Option Unit :=
  (gcl h a0 10).bind fun _ =>
  (gfR h a0 10 3).bind fun v1 =>
    (f_c7_has N v1 x1 h).bind fun q2 =>
    if q2 = 0 then
    some ()
  else
    if x2 < 0 then
    some ()
  else
    if x2 ≤ (7 : Int32) then
    none
  else
    some ()
set_option maxHeartbeats 4000000 in
set_option maxRecDepth 100000 in
theorem tx_c10_well (l : Launch) (hfl : l.stackTraces = false) (X : gX) (hx : gEx X = false) (N : Nat) (hN : 6 ≤ N) (a0 : Nat) (x1 : Int32) (x2 : Int32) (h : gH) (u : Unit) (Qc : Array Value → State → Outcome → State → Prop) (hy : t_c10_well N a0 x1 x2 h = some u) : gRc y_c10_well h a0 ∧ gMx l X y_c10_well b_c10_well 3 (some .int) (5 + N) [.ref a0, .int x1, .int x2] h Qc := by
  unfold t_c10_well at hy
  obtain ⟨u0, e_u0, hy⟩ := gBd hy
  cases u0
  refine ⟨Or.inl ⟨10, _, _, e_u0, rfl⟩, gMet_x hfl hx (lsx := [(0, .ref a0), (1, .int x1), (2, .int x2)]) (by omega) (by decide) rfl rfl rfl ?_⟩
  intro M hMl K hthrow
  subst hMl
  refine g_aload_n K d_c10_well_0 0 rfl ?_
  obtain ⟨v1, e_v1, hy⟩ := gBd hy
  refine g_getR K fl_c10_33 d_c10_well_1 e_v1 ?_
  refine g_iload_n K d_c10_well_4 1 rfl ?_
  obtain ⟨q2, e_q2, hy⟩ := gBd hy
  refine g_callVi (rest := []) K hx ly_c7_has kv_c10_138 d_c10_well_5 (ct_c7_has M.2.1 X hx N v1 x1 h q2 e_q2) rfl rfl (Nat.le_of_ble_eq_true rfl) (gDep rfl) ⟨Nat.zero_le _, Nat.zero_le _⟩ ?_
  refine g_if_eq K d_c10_well_8 (fun c3 => ?_) (fun c3 => ?_)
  · rw [if_pos c3] at hy
    exact hthrow _ _ d_c10_well_21.1 d_c10_well_24.1 d_c10_well_25.1 d_c10_well_28.1
  · rw [if_neg c3] at hy
    refine g_iload_n K d_c10_well_11 2 rfl ?_
    refine g_if_lt K d_c10_well_12 (fun c4 => ?_) (fun c4 => ?_)
    · rw [if_pos c4] at hy
      exact hthrow _ _ d_c10_well_21.1 d_c10_well_24.1 d_c10_well_25.1 d_c10_well_28.1
    · rw [if_neg c4] at hy
      refine g_iload_n K d_c10_well_15 2 rfl ?_
      refine g_bipush (v := 7) K d_c10_well_16 (by decide) ?_
      refine g_icmp_le K d_c10_well_18 (fun c5 => ?_) (fun c5 => ?_)
      · rw [if_pos c5] at hy
        cases hy
      · rw [if_neg c5] at hy
        exact hthrow _ _ d_c10_well_21.1 d_c10_well_24.1 d_c10_well_25.1 d_c10_well_28.1
theorem d_c10_village_20 : gD b_c10_village 20 (.new 141) 3 23 := ⟨by decide +kernel, rfl⟩
theorem d_c10_village_23 : gD b_c10_village 23 .dup 1 24 := ⟨by decide +kernel, rfl⟩
theorem d_c10_village_24 : gD b_c10_village 24 (.invokespecial 143) 3 27 := ⟨by decide +kernel, rfl⟩
theorem d_c10_village_27 : gD b_c10_village 27 .athrow 1 28 := ⟨by decide +kernel, rfl⟩
def t_c10_village (N : Nat) (a0 : Nat) (x1 : Int32) (x2 : Int32) (h : gH) : Option Unit :=
  (gcl h a0 10).bind fun _ =>
  (gfR h a0 10 2).bind fun v1 =>
    (f_c1_has N v1 x1 h).bind fun q2 =>
    if q2 = 0 then
    some ()
  else
    if x2 < 0 then
    some ()
  else
    if x2 ≤ (3 : Int32) then
    none
  else
    some ()
set_option maxHeartbeats 4000000 in
set_option maxRecDepth 100000 in
theorem tx_c10_village (l : Launch) (hfl : l.stackTraces = false) (X : gX) (hx : gEx X = false) (N : Nat) (hN : 6 ≤ N) (a0 : Nat) (x1 : Int32) (x2 : Int32) (h : gH) (u : Unit) (Qc : Array Value → State → Outcome → State → Prop) (hy : t_c10_village N a0 x1 x2 h = some u) : gRc y_c10_village h a0 ∧ gMx l X y_c10_village b_c10_village 5 (some .int) (4 + N) [.ref a0, .int x1, .int x2] h Qc := by
  unfold t_c10_village at hy
  obtain ⟨u0, e_u0, hy⟩ := gBd hy
  cases u0
  refine ⟨Or.inl ⟨10, _, _, e_u0, rfl⟩, gMet_x hfl hx (lsx := [(0, .ref a0), (1, .int x1), (2, .int x2)]) (by omega) (by decide) rfl rfl rfl ?_⟩
  intro M hMl K hthrow
  subst hMl
  refine g_aload_n K d_c10_village_0 0 rfl ?_
  obtain ⟨v1, e_v1, hy⟩ := gBd hy
  refine g_getR K fl_c10_26 d_c10_village_1 e_v1 ?_
  refine g_iload_n K d_c10_village_4 1 rfl ?_
  obtain ⟨q2, e_q2, hy⟩ := gBd hy
  refine g_callVi (rest := []) K hx ly_c1_has kv_c10_171 d_c10_village_5 (ct_c1_has M.2.1 X hx N v1 x1 h q2 e_q2) rfl rfl (Nat.le_of_ble_eq_true rfl) (gDep rfl) ⟨Nat.zero_le _, Nat.zero_le _⟩ ?_
  refine g_if_eq K d_c10_village_8 (fun c3 => ?_) (fun c3 => ?_)
  · rw [if_pos c3] at hy
    exact hthrow _ _ d_c10_village_20.1 d_c10_village_23.1 d_c10_village_24.1 d_c10_village_27.1
  · rw [if_neg c3] at hy
    refine g_iload_n K d_c10_village_11 2 rfl ?_
    refine g_if_lt K d_c10_village_12 (fun c4 => ?_) (fun c4 => ?_)
    · rw [if_pos c4] at hy
      exact hthrow _ _ d_c10_village_20.1 d_c10_village_23.1 d_c10_village_24.1 d_c10_village_27.1
    · rw [if_neg c4] at hy
      refine g_iload_n K d_c10_village_15 2 rfl ?_
      refine g_iconst (v := 3) K d_c10_village_16 (by decide) ?_
      refine g_icmp_le K d_c10_village_17 (fun c5 => ?_) (fun c5 => ?_)
      · rw [if_pos c5] at hy
        cases hy
      · rw [if_neg c5] at hy
        exact hthrow _ _ d_c10_village_20.1 d_c10_village_23.1 d_c10_village_24.1 d_c10_village_27.1
theorem d_c10_row_15 : gD b_c10_row 15 (.new 141) 3 18 := ⟨by decide +kernel, rfl⟩
theorem d_c10_row_18 : gD b_c10_row 18 .dup 1 19 := ⟨by decide +kernel, rfl⟩
theorem d_c10_row_19 : gD b_c10_row 19 (.invokespecial 143) 3 22 := ⟨by decide +kernel, rfl⟩
theorem d_c10_row_22 : gD b_c10_row 22 .athrow 1 23 := ⟨by decide +kernel, rfl⟩
def t_c10_row (N : Nat) (a0 : Nat) (x1 : Int32) (h : gH) : Option Unit :=
  (gcl h a0 10).bind fun _ =>
  if x1 < 0 then
    some ()
  else
    (gfR h a0 10 1).bind fun v2 =>
    (gfI h v2 4 1).bind fun v3 =>
    if x1 < v3 then
    none
  else
    some ()
set_option maxHeartbeats 4000000 in
set_option maxRecDepth 100000 in
theorem tx_c10_row (l : Launch) (hfl : l.stackTraces = false) (X : gX) (hx : gEx X = false) (N : Nat) (hN : 6 ≤ N) (a0 : Nat) (x1 : Int32) (h : gH) (u : Unit) (Qc : Array Value → State → Outcome → State → Prop) (hy : t_c10_row N a0 x1 h = some u) : gRc y_c10_row h a0 ∧ gMx l X y_c10_row b_c10_row 2 (some .long) (2 + N) [.ref a0, .int x1] h Qc := by
  unfold t_c10_row at hy
  obtain ⟨u0, e_u0, hy⟩ := gBd hy
  cases u0
  refine ⟨Or.inl ⟨10, _, _, e_u0, rfl⟩, gMet_x hfl hx (lsx := [(0, .ref a0), (1, .int x1)]) (by omega) (by decide) rfl rfl rfl ?_⟩
  intro M hMl K hthrow
  subst hMl
  refine g_iload_n K d_c10_row_0 1 rfl ?_
  refine g_if_lt K d_c10_row_1 (fun c1 => ?_) (fun c1 => ?_)
  · rw [if_pos c1] at hy
    exact hthrow _ _ d_c10_row_15.1 d_c10_row_18.1 d_c10_row_19.1 d_c10_row_22.1
  · rw [if_neg c1] at hy
    refine g_iload_n K d_c10_row_4 1 rfl ?_
    refine g_aload_n K d_c10_row_5 0 rfl ?_
    obtain ⟨v2, e_v2, hy⟩ := gBd hy
    refine g_getR K fl_c10_19 d_c10_row_6 e_v2 ?_
    obtain ⟨v3, e_v3, hy⟩ := gBd hy
    refine g_getI K fl_c10_430 d_c10_row_9 e_v3 ?_
    refine g_icmp_lt K d_c10_row_12 (fun c4 => ?_) (fun c4 => ?_)
    · rw [if_pos c4] at hy
      cases hy
    · rw [if_neg c4] at hy
      exact hthrow _ _ d_c10_row_15.1 d_c10_row_18.1 d_c10_row_19.1 d_c10_row_22.1
abbrev b_lw_well : ByteArray := method_3_code
abbrev y_lw_well : MethodName := ⟨"FullStopWellsLaw", "well", "(LFullStopWells;II[J)I"⟩
theorem kv_lw_7 : gLV "FullStopWellsLaw" 7 y_c10_well := ⟨Or.inl (gTk_5 23 rfl rfl), gTk_5 24 rfl rfl, gTk_5 25 rfl rfl⟩
theorem d_lw_well_0 : gD b_lw_well 0 (.aload_n 3) 1 1 := ⟨by decide +kernel, rfl⟩
theorem d_lw_well_1 : gD b_lw_well 1 (.iconst 0) 1 2 := ⟨by decide +kernel, rfl⟩
theorem d_lw_well_2 : gD b_lw_well 2 (.aload_n 0) 1 3 := ⟨by decide +kernel, rfl⟩
theorem d_lw_well_3 : gD b_lw_well 3 (.iload_n 1) 1 4 := ⟨by decide +kernel, rfl⟩
theorem d_lw_well_4 : gD b_lw_well 4 (.iload_n 2) 1 5 := ⟨by decide +kernel, rfl⟩
theorem d_lw_well_5 : gD b_lw_well 5 (.invokevirtual 7) 3 8 := ⟨by decide +kernel, rfl⟩
theorem d_lw_well_8 : gD b_lw_well 8 .i2l 1 9 := ⟨by decide +kernel, rfl⟩
theorem d_lw_well_9 : gD b_lw_well 9 .lastore 1 10 := ⟨by decide +kernel, rfl⟩
theorem d_lw_well_10 : gJ b_lw_well 10 (.goto 7) 3 7 13 17 := ⟨by decide +kernel, rfl, by decide⟩
theorem d_lw_well_13 : gD b_lw_well 13 (.astore 4) 2 15 := ⟨by decide +kernel, rfl⟩
theorem d_lw_well_15 : gD b_lw_well 15 (.iconst 1) 1 16 := ⟨by decide +kernel, rfl⟩
theorem d_lw_well_16 : gD b_lw_well 16 .ireturn 1 17 := ⟨by decide +kernel, rfl⟩
theorem d_lw_well_17 : gD b_lw_well 17 (.iconst 0) 1 18 := ⟨by decide +kernel, rfl⟩
theorem d_lw_well_18 : gD b_lw_well 18 .ireturn 1 19 := ⟨by decide +kernel, rfl⟩
def g_lw_well (N : Nat) (a0 : Nat) (x1 : Int32) (x2 : Int32) (a3 : Nat) (h : gH) : Option (Int32 × gH) :=
  (f_c10_well N a0 x1 x2 h).bind fun q1 =>
    (saL q1.2 a3 (0 : Int32) q1.1.toInt64).bind fun h2 =>
    some ((0 : Int32), h2)
def f_lw_well (N : Nat) (a0 : Nat) (x1 : Int32) (x2 : Int32) (a3 : Nat) (h : gH) : Option (Int32 × gH) := match t_c10_well N a0 x1 x2 h with
  | some _ => some (1, h)
  | none => g_lw_well N a0 x1 x2 a3 h
set_option maxHeartbeats 4000000 in
set_option maxRecDepth 100000 in
theorem cg_lw_well (l : Launch) (X : gX) (hx : gEx X = false) (N : Nat) (a0 : Nat) (x1 : Int32) (x2 : Int32) (a3 : Nat) (h : gH) (q : Int32 × gH) (hy : g_lw_well N a0 x1 x2 a3 h = some q) : gMiW l X y_lw_well b_lw_well 5 [(0, 10, 13, 13)] (6 + N) [.ref a0, .int x1, .int x2, .ref a3] h q.1 q.2 := by
  unfold g_lw_well at hy
  refine gMet_iW (lsx := [(0, .ref a0), (1, .int x1), (2, .int x2), (3, .ref a3)]) (by decide) rfl rfl ?_
  intro M hMl K htab hret
  subst hMl
  refine g_aload_n K d_lw_well_0 3 rfl ?_
  refine g_iconst (v := 0) K d_lw_well_1 (by decide) ?_
  refine g_aload_n K d_lw_well_2 0 rfl ?_
  refine g_iload_n K d_lw_well_3 1 rfl ?_
  refine g_iload_n K d_lw_well_4 2 rfl ?_
  obtain ⟨q1, e_q1, hy⟩ := gBd hy
  refine g_callVi (rest := [.int (0 : Int32), .ref a3]) K hx ly_c10_well kv_FullStopWellsLaw_7 d_lw_well_5 (ct_c10_well M.2.1 X hx N a0 x1 x2 h q1 e_q1) rfl rfl (Nat.le_of_ble_eq_true rfl) (gDep rfl) ⟨Nat.zero_le _, Nat.zero_le _⟩ ?_
  refine g_i2l K d_lw_well_8 ?_
  obtain ⟨h2, e_h2, hy⟩ := gBd hy
  refine g_last K d_lw_well_9 e_h2 ?_
  refine g_goto K d_lw_well_10 ?_
  refine g_iconst (v := 0) K d_lw_well_17 (by decide) ?_
  obtain rfl := Option.some.inj hy
  exact hret 0 0 (Nat.zero_le _) (Nat.zero_le _) _ _ _ d_lw_well_18
set_option maxHeartbeats 4000000 in
set_option maxRecDepth 100000 in
theorem cx_lw_well (l : Launch) (hfl : l.stackTraces = false) (X : gX) (hx : gEx X = false) (N : Nat) (hN : 6 ≤ N) (a0 : Nat) (x1 : Int32) (x2 : Int32) (a3 : Nat) (h : gH) (u : Unit) (hy : t_c10_well N a0 x1 x2 h = some u) : gMiW l X y_lw_well b_lw_well 5 [(0, 10, 13, 13)] (6 + N) [.ref a0, .int x1, .int x2, .ref a3] h 1 h := by
  refine gMet_iW (lsx := [(0, .ref a0), (1, .int x1), (2, .int x2), (3, .ref a3)]) (by decide) rfl rfl ?_
  intro M hMl K htab hret
  subst hMl
  have hM := tx_c10_well M.2.1 hfl X hx N hN a0 x1 x2 h u (va_Qi (fun _ (_ : Unit) => False) (fun _ _ => False) (gA X)) hy
  refine g_aload_n K d_lw_well_0 3 rfl ?_
  refine g_iconst (v := 0) K d_lw_well_1 (by decide) ?_
  refine g_aload_n K d_lw_well_2 0 rfl ?_
  refine g_iload_n K d_lw_well_3 1 rfl ?_
  refine g_iload_n K d_lw_well_4 2 rfl ?_
  obtain ⟨p, l, e, R, s, m, args, below, meth, c, Q⟩ := M
  intro H locs ls' hR hl
  have K0 := K
  obtain ⟨hx1, hb1, hml, hown, hts, hK, hbase, hlk, hRR, hSt⟩ := K
  dsimp only at *
  subst hRR
  have hp : PreV s H y_c10_well.cls (gAd X a0) (va_Pc (gVs X (.ref a0 :: [.int x1, .int x2])) (gPre X h)) (gVs X [.int x1, .int x2]) := by
    refine ⟨gPre_blind, ?_, fun U hU hW => ⟨rfl, gR_pre hx hbase hK hSt hR hU hW⟩⟩
    rcases hM.1 with ⟨ci, T, N9, hci, hcl⟩ | ⟨hcs, h2, h6⟩
    · obtain ⟨fs, hfs⟩ := gcl_spec hci
      exact va_recv hK hR.1 hcl (gWs_at (X := X) hfs (gSp_2o hR.2.2.2 hfs))
    · exact absurd hcs (by decide)
  refine vx_calli (vx_runV (As := [.int x1, .int x2]) (rest := [.int 0, .ref (gAd X a3)]) ⟨hx1, hb1, hml, hown, hts⟩ hM.2 ⟨callB_of 2 hts (gGood ly_c10_well.2.1) rfl rfl rfl (hts _ ly_c10_well.1) (hts _ (gTk_5 23 rfl rfl)) ly_c10_well.2.2.2 (gRoom ly_c10_well.2.2.1 (gDep rfl)), hts _ kv_lw_7.2.1, hts _ kv_lw_7.2.2⟩ hp rfl rfl hl.1 rfl (lv_room (Nat.le_of_ble_eq_true rfl)) d_lw_well_5.1 ⟨Nat.le_refl 1, Nat.le_refl 6⟩) hR.2.1 (fun q _ h => h) (fun q h => h) (fun q _ h => h) (fun E ce q9 u9 t H1 locs1 ht hvm hu hBX hz hk hS hcell hcv hcls => ?_) (fun r9 u9 t H1 locs1 ht hvm hw hB hz hk hS => hw.elim)
  obtain ⟨rfl, hBX⟩ := hBX
  refine vx_catch hown [] { startPc := 0, endPc := 10, handlerPc := 13, catchType := 13 } [] (by rw [htab]; rfl) (fun z hz9 => by cases hz9) rfl (by decide) (hts _ (gTk_5 22 rfl rfl)) (va_Nw.use rfl (hSt.2.2.2.2.2.2.2.2.2.2.2.2 (.castable gXE gXE) (by decide +kernel))) hcell hcv hcls ?_
  refine lv_astore hx1 hb1 d_lw_well_13.1 hl (by decide) rfl (fun ls2 hl2 => ?_)
  refine lv_iconst (v := 1) hx1 hb1 d_lw_well_15.1 (by decide) ?_
  exact hret 1 6 (Nat.le_refl 1) (Nat.le_refl 6) _ _ [] d_lw_well_16 H1 locs1 ls2 (gR_post hx ht hBX hS) (lv_sub hl2 [] rfl)
theorem ct_lw_well (l : Launch) (hfl : l.stackTraces = false) (X : gX) (hx : gEx X = false) (N : Nat) (hN : 6 ≤ N) (a0 : Nat) (x1 : Int32) (x2 : Int32) (a3 : Nat) (h : gH) (q : Int32 × gH) (hy : f_lw_well N a0 x1 x2 a3 h = some q) : gMiW l X y_lw_well b_lw_well 5 [(0, 10, 13, 13)] (6 + N) [.ref a0, .int x1, .int x2, .ref a3] h q.1 q.2 := by
  unfold f_lw_well at hy
  split at hy
  · rename_i u hu
    obtain rfl := Option.some.inj hy
    exact cx_lw_well l hfl X hx N hN a0 x1 x2 a3 h u hu
  · exact cg_lw_well l X hx N a0 x1 x2 a3 h q hy
abbrev b_lw_village : ByteArray := method_4_code
abbrev y_lw_village : MethodName := ⟨"FullStopWellsLaw", "village", "(LFullStopWells;II[J)I"⟩
theorem kv_lw_15 : gLV "FullStopWellsLaw" 15 y_c10_village := ⟨Or.inl (gTk_5 97 rfl rfl), gTk_5 98 rfl rfl, gTk_5 99 rfl rfl⟩
theorem d_lw_village_0 : gD b_lw_village 0 (.aload_n 3) 1 1 := ⟨by decide +kernel, rfl⟩
theorem d_lw_village_1 : gD b_lw_village 1 (.iconst 0) 1 2 := ⟨by decide +kernel, rfl⟩
theorem d_lw_village_2 : gD b_lw_village 2 (.aload_n 0) 1 3 := ⟨by decide +kernel, rfl⟩
theorem d_lw_village_3 : gD b_lw_village 3 (.iload_n 1) 1 4 := ⟨by decide +kernel, rfl⟩
theorem d_lw_village_4 : gD b_lw_village 4 (.iload_n 2) 1 5 := ⟨by decide +kernel, rfl⟩
theorem d_lw_village_5 : gD b_lw_village 5 (.invokevirtual 15) 3 8 := ⟨by decide +kernel, rfl⟩
theorem d_lw_village_8 : gD b_lw_village 8 .i2l 1 9 := ⟨by decide +kernel, rfl⟩
theorem d_lw_village_9 : gD b_lw_village 9 .lastore 1 10 := ⟨by decide +kernel, rfl⟩
theorem d_lw_village_10 : gJ b_lw_village 10 (.goto 7) 3 7 13 17 := ⟨by decide +kernel, rfl, by decide⟩
theorem d_lw_village_13 : gD b_lw_village 13 (.astore 4) 2 15 := ⟨by decide +kernel, rfl⟩
theorem d_lw_village_15 : gD b_lw_village 15 (.iconst 1) 1 16 := ⟨by decide +kernel, rfl⟩
theorem d_lw_village_16 : gD b_lw_village 16 .ireturn 1 17 := ⟨by decide +kernel, rfl⟩
theorem d_lw_village_17 : gD b_lw_village 17 (.iconst 0) 1 18 := ⟨by decide +kernel, rfl⟩
theorem d_lw_village_18 : gD b_lw_village 18 .ireturn 1 19 := ⟨by decide +kernel, rfl⟩
def g_lw_village (N : Nat) (a0 : Nat) (x1 : Int32) (x2 : Int32) (a3 : Nat) (h : gH) : Option (Int32 × gH) :=
  (f_c10_village N a0 x1 x2 h).bind fun q1 =>
    (saL h a3 (0 : Int32) q1.toInt64).bind fun h2 =>
    some ((0 : Int32), h2)
def f_lw_village (N : Nat) (a0 : Nat) (x1 : Int32) (x2 : Int32) (a3 : Nat) (h : gH) : Option (Int32 × gH) := match t_c10_village N a0 x1 x2 h with
  | some _ => some (1, h)
  | none => g_lw_village N a0 x1 x2 a3 h
set_option maxHeartbeats 4000000 in
set_option maxRecDepth 100000 in
theorem cg_lw_village (l : Launch) (X : gX) (hx : gEx X = false) (N : Nat) (a0 : Nat) (x1 : Int32) (x2 : Int32) (a3 : Nat) (h : gH) (q : Int32 × gH) (hy : g_lw_village N a0 x1 x2 a3 h = some q) : gMiW l X y_lw_village b_lw_village 5 [(0, 10, 13, 13)] (5 + N) [.ref a0, .int x1, .int x2, .ref a3] h q.1 q.2 := by
  unfold g_lw_village at hy
  refine gMet_iW (lsx := [(0, .ref a0), (1, .int x1), (2, .int x2), (3, .ref a3)]) (by decide) rfl rfl ?_
  intro M hMl K htab hret
  subst hMl
  refine g_aload_n K d_lw_village_0 3 rfl ?_
  refine g_iconst (v := 0) K d_lw_village_1 (by decide) ?_
  refine g_aload_n K d_lw_village_2 0 rfl ?_
  refine g_iload_n K d_lw_village_3 1 rfl ?_
  refine g_iload_n K d_lw_village_4 2 rfl ?_
  obtain ⟨q1, e_q1, hy⟩ := gBd hy
  refine g_callVi (rest := [.int (0 : Int32), .ref a3]) K hx ly_c10_village kv_FullStopWellsLaw_15 d_lw_village_5 (ct_c10_village M.2.1 X hx N a0 x1 x2 h q1 e_q1) rfl rfl (Nat.le_of_ble_eq_true rfl) (gDep rfl) ⟨Nat.zero_le _, Nat.zero_le _⟩ ?_
  refine g_i2l K d_lw_village_8 ?_
  obtain ⟨h2, e_h2, hy⟩ := gBd hy
  refine g_last K d_lw_village_9 e_h2 ?_
  refine g_goto K d_lw_village_10 ?_
  refine g_iconst (v := 0) K d_lw_village_17 (by decide) ?_
  obtain rfl := Option.some.inj hy
  exact hret 0 0 (Nat.zero_le _) (Nat.zero_le _) _ _ _ d_lw_village_18
set_option maxHeartbeats 4000000 in
set_option maxRecDepth 100000 in
theorem cx_lw_village (l : Launch) (hfl : l.stackTraces = false) (X : gX) (hx : gEx X = false) (N : Nat) (hN : 6 ≤ N) (a0 : Nat) (x1 : Int32) (x2 : Int32) (a3 : Nat) (h : gH) (u : Unit) (hy : t_c10_village N a0 x1 x2 h = some u) : gMiW l X y_lw_village b_lw_village 5 [(0, 10, 13, 13)] (5 + N) [.ref a0, .int x1, .int x2, .ref a3] h 1 h := by
  refine gMet_iW (lsx := [(0, .ref a0), (1, .int x1), (2, .int x2), (3, .ref a3)]) (by decide) rfl rfl ?_
  intro M hMl K htab hret
  subst hMl
  have hM := tx_c10_village M.2.1 hfl X hx N hN a0 x1 x2 h u (va_Qi (fun _ (_ : Unit) => False) (fun _ _ => False) (gA X)) hy
  refine g_aload_n K d_lw_village_0 3 rfl ?_
  refine g_iconst (v := 0) K d_lw_village_1 (by decide) ?_
  refine g_aload_n K d_lw_village_2 0 rfl ?_
  refine g_iload_n K d_lw_village_3 1 rfl ?_
  refine g_iload_n K d_lw_village_4 2 rfl ?_
  obtain ⟨p, l, e, R, s, m, args, below, meth, c, Q⟩ := M
  intro H locs ls' hR hl
  have K0 := K
  obtain ⟨hx1, hb1, hml, hown, hts, hK, hbase, hlk, hRR, hSt⟩ := K
  dsimp only at *
  subst hRR
  have hp : PreV s H y_c10_village.cls (gAd X a0) (va_Pc (gVs X (.ref a0 :: [.int x1, .int x2])) (gPre X h)) (gVs X [.int x1, .int x2]) := by
    refine ⟨gPre_blind, ?_, fun U hU hW => ⟨rfl, gR_pre hx hbase hK hSt hR hU hW⟩⟩
    rcases hM.1 with ⟨ci, T, N9, hci, hcl⟩ | ⟨hcs, h2, h6⟩
    · obtain ⟨fs, hfs⟩ := gcl_spec hci
      exact va_recv hK hR.1 hcl (gWs_at (X := X) hfs (gSp_2o hR.2.2.2 hfs))
    · exact absurd hcs (by decide)
  refine vx_calli (vx_runV (As := [.int x1, .int x2]) (rest := [.int 0, .ref (gAd X a3)]) ⟨hx1, hb1, hml, hown, hts⟩ hM.2 ⟨callB_of 2 hts (gGood ly_c10_village.2.1) rfl rfl rfl (hts _ ly_c10_village.1) (hts _ (gTk_5 97 rfl rfl)) ly_c10_village.2.2.2 (gRoom ly_c10_village.2.2.1 (gDep rfl)), hts _ kv_lw_15.2.1, hts _ kv_lw_15.2.2⟩ hp rfl rfl hl.1 rfl (lv_room (Nat.le_of_ble_eq_true rfl)) d_lw_village_5.1 ⟨Nat.le_refl 1, Nat.le_refl 6⟩) hR.2.1 (fun q _ h => h) (fun q h => h) (fun q _ h => h) (fun E ce q9 u9 t H1 locs1 ht hvm hu hBX hz hk hS hcell hcv hcls => ?_) (fun r9 u9 t H1 locs1 ht hvm hw hB hz hk hS => hw.elim)
  obtain ⟨rfl, hBX⟩ := hBX
  refine vx_catch hown [] { startPc := 0, endPc := 10, handlerPc := 13, catchType := 13 } [] (by rw [htab]; rfl) (fun z hz9 => by cases hz9) rfl (by decide) (hts _ (gTk_5 22 rfl rfl)) (va_Nw.use rfl (hSt.2.2.2.2.2.2.2.2.2.2.2.2 (.castable gXE gXE) (by decide +kernel))) hcell hcv hcls ?_
  refine lv_astore hx1 hb1 d_lw_village_13.1 hl (by decide) rfl (fun ls2 hl2 => ?_)
  refine lv_iconst (v := 1) hx1 hb1 d_lw_village_15.1 (by decide) ?_
  exact hret 1 6 (Nat.le_refl 1) (Nat.le_refl 6) _ _ [] d_lw_village_16 H1 locs1 ls2 (gR_post hx ht hBX hS) (lv_sub hl2 [] rfl)
theorem ct_lw_village (l : Launch) (hfl : l.stackTraces = false) (X : gX) (hx : gEx X = false) (N : Nat) (hN : 6 ≤ N) (a0 : Nat) (x1 : Int32) (x2 : Int32) (a3 : Nat) (h : gH) (q : Int32 × gH) (hy : f_lw_village N a0 x1 x2 a3 h = some q) : gMiW l X y_lw_village b_lw_village 5 [(0, 10, 13, 13)] (5 + N) [.ref a0, .int x1, .int x2, .ref a3] h q.1 q.2 := by
  unfold f_lw_village at hy
  split at hy
  · rename_i u hu
    obtain rfl := Option.some.inj hy
    exact cx_lw_village l hfl X hx N hN a0 x1 x2 a3 h u hu
  · exact cg_lw_village l X hx N a0 x1 x2 a3 h q hy
abbrev b_lw_row : ByteArray := method_5_code
abbrev y_lw_row : MethodName := ⟨"FullStopWellsLaw", "row", "(LFullStopWells;I[J)I"⟩
theorem kv_lw_18 : gLV "FullStopWellsLaw" 18 y_c10_row := ⟨Or.inl (gTk_5 105 rfl rfl), gTk_5 106 rfl rfl, gTk_5 107 rfl rfl⟩
theorem d_lw_row_0 : gD b_lw_row 0 (.aload_n 2) 1 1 := ⟨by decide +kernel, rfl⟩
theorem d_lw_row_1 : gD b_lw_row 1 (.iconst 0) 1 2 := ⟨by decide +kernel, rfl⟩
theorem d_lw_row_2 : gD b_lw_row 2 (.aload_n 0) 1 3 := ⟨by decide +kernel, rfl⟩
theorem d_lw_row_3 : gD b_lw_row 3 (.iload_n 1) 1 4 := ⟨by decide +kernel, rfl⟩
theorem d_lw_row_4 : gD b_lw_row 4 (.invokevirtual 18) 3 7 := ⟨by decide +kernel, rfl⟩
theorem d_lw_row_7 : gD b_lw_row 7 .lastore 1 8 := ⟨by decide +kernel, rfl⟩
theorem d_lw_row_8 : gJ b_lw_row 8 (.goto 6) 3 6 11 14 := ⟨by decide +kernel, rfl, by decide⟩
theorem d_lw_row_11 : gD b_lw_row 11 (.astore_n 3) 1 12 := ⟨by decide +kernel, rfl⟩
theorem d_lw_row_12 : gD b_lw_row 12 (.iconst 1) 1 13 := ⟨by decide +kernel, rfl⟩
theorem d_lw_row_13 : gD b_lw_row 13 .ireturn 1 14 := ⟨by decide +kernel, rfl⟩
theorem d_lw_row_14 : gD b_lw_row 14 (.iconst 0) 1 15 := ⟨by decide +kernel, rfl⟩
theorem d_lw_row_15 : gD b_lw_row 15 .ireturn 1 16 := ⟨by decide +kernel, rfl⟩
def g_lw_row (N : Nat) (a0 : Nat) (x1 : Int32) (a2 : Nat) (h : gH) : Option (Int32 × gH) :=
  (f_c10_row N a0 x1 h).bind fun q1 =>
    (saL h a2 (0 : Int32) q1).bind fun h2 =>
    some ((0 : Int32), h2)
def f_lw_row (N : Nat) (a0 : Nat) (x1 : Int32) (a2 : Nat) (h : gH) : Option (Int32 × gH) := match t_c10_row N a0 x1 h with
  | some _ => some (1, h)
  | none => g_lw_row N a0 x1 a2 h
set_option maxHeartbeats 4000000 in
set_option maxRecDepth 100000 in
theorem cg_lw_row (l : Launch) (X : gX) (hx : gEx X = false) (N : Nat) (a0 : Nat) (x1 : Int32) (a2 : Nat) (h : gH) (q : Int32 × gH) (hy : g_lw_row N a0 x1 a2 h = some q) : gMiW l X y_lw_row b_lw_row 4 [(0, 8, 11, 13)] (3 + N) [.ref a0, .int x1, .ref a2] h q.1 q.2 := by
  unfold g_lw_row at hy
  refine gMet_iW (lsx := [(0, .ref a0), (1, .int x1), (2, .ref a2)]) (by decide) rfl rfl ?_
  intro M hMl K htab hret
  subst hMl
  refine g_aload_n K d_lw_row_0 2 rfl ?_
  refine g_iconst (v := 0) K d_lw_row_1 (by decide) ?_
  refine g_aload_n K d_lw_row_2 0 rfl ?_
  refine g_iload_n K d_lw_row_3 1 rfl ?_
  obtain ⟨q1, e_q1, hy⟩ := gBd hy
  refine g_callVl (rest := [.int (0 : Int32), .ref a2]) K hx ly_c10_row kv_FullStopWellsLaw_18 d_lw_row_4 (ct_c10_row M.2.1 X hx N a0 x1 h q1 e_q1) rfl rfl (Nat.le_of_ble_eq_true rfl) (gDep rfl) ⟨Nat.zero_le _, Nat.zero_le _⟩ ?_
  obtain ⟨h2, e_h2, hy⟩ := gBd hy
  refine g_last K d_lw_row_7 e_h2 ?_
  refine g_goto K d_lw_row_8 ?_
  refine g_iconst (v := 0) K d_lw_row_14 (by decide) ?_
  obtain rfl := Option.some.inj hy
  exact hret 0 0 (Nat.zero_le _) (Nat.zero_le _) _ _ _ d_lw_row_15
set_option maxHeartbeats 4000000 in
set_option maxRecDepth 100000 in
theorem cx_lw_row (l : Launch) (hfl : l.stackTraces = false) (X : gX) (hx : gEx X = false) (N : Nat) (hN : 6 ≤ N) (a0 : Nat) (x1 : Int32) (a2 : Nat) (h : gH) (u : Unit) (hy : t_c10_row N a0 x1 h = some u) : gMiW l X y_lw_row b_lw_row 4 [(0, 8, 11, 13)] (3 + N) [.ref a0, .int x1, .ref a2] h 1 h := by
  refine gMet_iW (lsx := [(0, .ref a0), (1, .int x1), (2, .ref a2)]) (by decide) rfl rfl ?_
  intro M hMl K htab hret
  subst hMl
  have hM := tx_c10_row M.2.1 hfl X hx N hN a0 x1 h u (va_Ql (fun _ (_ : Unit) => False) (fun _ _ => False) (gA X)) hy
  refine g_aload_n K d_lw_row_0 2 rfl ?_
  refine g_iconst (v := 0) K d_lw_row_1 (by decide) ?_
  refine g_aload_n K d_lw_row_2 0 rfl ?_
  refine g_iload_n K d_lw_row_3 1 rfl ?_
  obtain ⟨p, l, e, R, s, m, args, below, meth, c, Q⟩ := M
  intro H locs ls' hR hl
  have K0 := K
  obtain ⟨hx1, hb1, hml, hown, hts, hK, hbase, hlk, hRR, hSt⟩ := K
  dsimp only at *
  subst hRR
  have hp : PreV s H y_c10_row.cls (gAd X a0) (va_Pc (gVs X (.ref a0 :: [.int x1])) (gPre X h)) (gVs X [.int x1]) := by
    refine ⟨gPre_blind, ?_, fun U hU hW => ⟨rfl, gR_pre hx hbase hK hSt hR hU hW⟩⟩
    rcases hM.1 with ⟨ci, T, N9, hci, hcl⟩ | ⟨hcs, h2, h6⟩
    · obtain ⟨fs, hfs⟩ := gcl_spec hci
      exact va_recv hK hR.1 hcl (gWs_at (X := X) hfs (gSp_2o hR.2.2.2 hfs))
    · exact absurd hcs (by decide)
  refine vx_calll (vx_runV (As := [.int x1]) (rest := [.int 0, .ref (gAd X a2)]) ⟨hx1, hb1, hml, hown, hts⟩ hM.2 ⟨callB_of 1 hts (gGood ly_c10_row.2.1) rfl rfl rfl (hts _ ly_c10_row.1) (hts _ (gTk_5 105 rfl rfl)) ly_c10_row.2.2.2 (gRoom ly_c10_row.2.2.1 (gDep rfl)), hts _ kv_lw_18.2.1, hts _ kv_lw_18.2.2⟩ hp rfl rfl hl.1 rfl (lv_room (Nat.le_of_ble_eq_true rfl)) d_lw_row_4.1 ⟨Nat.le_refl 1, Nat.le_refl 6⟩) hR.2.1 (fun q _ h => h) (fun q h => h) (fun q _ h => h) (fun E ce q9 u9 t H1 locs1 ht hvm hu hBX hz hk hS hcell hcv hcls => ?_) (fun r9 u9 t H1 locs1 ht hvm hw hB hz hk hS => hw.elim)
  obtain ⟨rfl, hBX⟩ := hBX
  refine vx_catch hown [] { startPc := 0, endPc := 8, handlerPc := 11, catchType := 13 } [] (by rw [htab]; rfl) (fun z hz9 => by cases hz9) rfl (by decide) (hts _ (gTk_5 22 rfl rfl)) (va_Nw.use rfl (hSt.2.2.2.2.2.2.2.2.2.2.2.2 (.castable gXE gXE) (by decide +kernel))) hcell hcv hcls ?_
  refine lv_astore_n hx1 hb1 d_lw_row_11.1 rfl hl (by decide) rfl (fun ls2 hl2 => ?_)
  refine lv_iconst (v := 1) hx1 hb1 d_lw_row_12.1 (by decide) ?_
  exact hret 1 6 (Nat.le_refl 1) (Nat.le_refl 6) _ _ [] d_lw_row_13 H1 locs1 ls2 (gR_post hx ht hBX hS) (lv_sub hl2 [] rfl)
theorem ct_lw_row (l : Launch) (hfl : l.stackTraces = false) (X : gX) (hx : gEx X = false) (N : Nat) (hN : 6 ≤ N) (a0 : Nat) (x1 : Int32) (a2 : Nat) (h : gH) (q : Int32 × gH) (hy : f_lw_row N a0 x1 a2 h = some q) : gMiW l X y_lw_row b_lw_row 4 [(0, 8, 11, 13)] (3 + N) [.ref a0, .int x1, .ref a2] h q.1 q.2 := by
  unfold f_lw_row at hy
  split at hy
  · rename_i u hu
    obtain rfl := Option.some.inj hy
    exact cx_lw_row l hfl X hx N hN a0 x1 a2 h u hu
  · exact cg_lw_row l X hx N a0 x1 a2 h q hy
