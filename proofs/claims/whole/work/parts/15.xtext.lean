-- the JDK's own check of an index into a text
def f_jString_checkIndex (N : Nat) (x0 x1 : Int32) (h : gH) : Option Unit := if x0 < 0 then none else if x0 < x1 then some () else none
abbrev y_chk : MethodName := ⟨"jdk/internal/util/Preconditions", "checkIndex", "(IILjava/util/function/BiFunction;)I"⟩
theorem d_chk_0 : decode prog_29_method_11_code 0 = .ok (.iload_n 0, 1) := by decide +kernel
theorem d_chk_1 : decode prog_29_method_11_code 1 = .ok (.ifCond .lt 8, 3) := by decide +kernel
theorem d_chk_4 : decode prog_29_method_11_code 4 = .ok (.iload_n 0, 1) := by decide +kernel
theorem d_chk_5 : decode prog_29_method_11_code 5 = .ok (.iload_n 1, 1) := by decide +kernel
theorem d_chk_6 : decode prog_29_method_11_code 6 = .ok (.if_icmp .lt 10, 3) := by decide +kernel
theorem d_chk_16 : decode prog_29_method_11_code 16 = .ok (.iload_n 0, 1) := by decide +kernel
theorem d_chk_17 : decode prog_29_method_11_code 17 = .ok (.ireturn, 1) := by decide +kernel
theorem lg_chk (v : Value) (hv : v = .null ∨ ∃ q, v = .ref q) (x0 x1 : Int32) : lv_args 0 [.int x0, .int x1, v] = [(0, .int x0), (1, .int x1), (2, v)] ∧ (lg_sl [.int x0, .int x1, v]).length ≤ 3 := by
  rcases hv with rfl | ⟨q, rfl⟩
  · exact ⟨rfl, Nat.le_of_ble_eq_true rfl⟩
  · exact ⟨rfl, Nat.le_of_ble_eq_true rfl⟩
set_option maxHeartbeats 4000000 in
theorem chk_met (l : Launch) (X : gX) (hx : gEx X = false) (x0 x1 : Int32) (v : Value) (hv : v = .null ∨ ∃ q, v = .ref q) (h0 : ¬ x0 < 0) (h1 : x0 < x1) (h : gH) (d : Nat) :
    Met l y_chk (.code y_chk prog_29_method_11_code 3 (some .int) :: gTk) (gRm d 0 0) (va_Pc [.int x0, .int x1, v] (gPre X h)) (va_Qi (fun r (_ : Unit) => r = x0) (fun _ t => gBs X h t) (gA X)) 0 0 (gA X) := by
  refine Met.ofW (cc := prog_29_method_11_code) (maxL := 3) (ret := some .int) (by decide) rfl ?_
  intro p e s m args below meth c s₁ B hml hq
  obtain ⟨rfl, hbase, hB0, hK, hSt, hSh⟩ := hq
  obtain ⟨la, lb⟩ := lg_chk v hv x0 x1
  have hl := lv_entry ([.int x0, .int x1, v]) (n := 3) lb
  rw [lg_entry_eq]
  generalize (lg_sl [.int x0, .int x1, v] ++ List.replicate (3 - (lg_sl [.int x0, .int x1, v]).length) Slot.unset).toArray = ls at hl ⊢
  rw [la] at hl
  refine lv_iload_n B.exec B.bytes d_chk_0 rfl (lv_at hl 0 rfl) ?_
  refine lv_if_lt (tgt := 9) B.exec B.bytes d_chk_1 (by decide) (fun q => absurd q h0) (fun _ => ?_)
  refine lv_iload_n B.exec B.bytes d_chk_4 rfl (lv_at hl 0 rfl) ?_
  refine lv_iload_n B.exec B.bytes d_chk_5 rfl (lv_at hl 1 rfl) ?_
  refine lv_icmp_lt (tgt := 16) B.exec B.bytes d_chk_6 (by decide) (fun _ => ?_) (fun q => absurd h1 q)
  refine lv_iload_n B.exec B.bytes d_chk_16 rfl (lv_at hl 0 rfl) ?_
  have hR : gR X s 0 h s.heap [] := ⟨hB0.1, va_S.rf, fun q => (by rw [hx] at q; cases q), hSh⟩
  exact W.iret B.exec B.bytes B.returns (fun t ht hW => ⟨⟨x0, (), rfl, rfl, gBs_of hR (fun q => (by rw [hx] at q; cases q)) ht⟩, hR.2.1.F ht⟩) hR.2.1.2.2 d_chk_17 B.notSynchronized
theorem d_sck_0 : gD b_jString_checkIndex 0 (.iload_n 0) 1 1 := ⟨by decide +kernel, rfl⟩
theorem d_sck_1 : gD b_jString_checkIndex 1 (.iload_n 1) 1 2 := ⟨by decide +kernel, rfl⟩
theorem d_sck_2 : decode b_jString_checkIndex 2 = .ok (.getstatic 1053, 3) := by decide +kernel
theorem d_sck_5 : decode b_jString_checkIndex 5 = .ok (.invokestatic 1059, 3) := by decide +kernel
theorem d_sck_8 : decode b_jString_checkIndex 8 = .ok (.pop, 1) := by decide +kernel
theorem d_sck_9 : gD b_jString_checkIndex 9 .return_ 1 10 := ⟨by decide +kernel, rfl⟩
theorem m_chk_link : Cond.methodLink "java/lang/String" 1059 y_chk ∈ gTk := gTk_3 175 rfl rfl
theorem m_chk_stat : Cond.static y_chk ∈ gTk := gTk_3 176 rfl rfl
theorem m_chk_code : Cond.code y_chk prog_29_method_11_code 3 (some .int) ∈ gTk := gTk_3 177 rfl rfl
theorem m_chk_fld : Cond.fieldLink "java/lang/String" 1053 "jdk/internal/util/Preconditions" "SIOOBE_FORMATTER" "Ljava/util/function/BiFunction;" ∈ gTk := gTk_3 173 rfl rfl
set_option maxHeartbeats 4000000 in
theorem ct_jString_checkIndex (l : Launch) (X : gX) (hx : gEx X = false) (N : Nat) (x0 : Int32) (x1 : Int32) (h : gH) (q : Unit) (hy : f_jString_checkIndex N x0 x1 h = some q) : gMv l X y_jString_checkIndex b_jString_checkIndex 2 (2 + N) 0 0 [.int x0, .int x1] h h := by
  unfold f_jString_checkIndex at hy
  have h0 : ¬ x0 < 0 := by
    intro z
    rw [if_pos z] at hy
    cases hy
  rw [if_neg h0] at hy
  have h1 : x0 < x1 := by
    rcases Classical.em (x0 < x1) with z | z
    · exact z
    · rw [if_neg z] at hy
      cases hy
  refine gMet_v (lsx := [(0, .int x0), (1, .int x1)]) (by decide) rfl rfl ?_
  intro M hMl K hret
  subst hMl
  refine g_iload_n K d_sck_0 0 rfl ?_
  refine g_iload_n K d_sck_1 1 rfl ?_
  obtain ⟨p, l, e, R, s, m, args, below, meth, c, Q⟩ := M
  intro H locs ls' hR hl
  have K0 := K
  obtain ⟨hx1, hb1, hml, hown, hts, hK, hbase, hlk, hRR, hSt⟩ := K
  dsimp only at *
  subst hRR
  have key : ∀ v : Value, (v = .null ∨ ∃ q, v = .ref q) → W p l e (gRm (2 + N) 0 0) s m args below meth c H locs 0 0 Q (F0 m 5 ls' (v :: .int x1 :: .int x0 :: [])) := by
    intro v hv
    refine va_calli (va_runS (As := [.int x0, .int x1, v]) (rest := []) ⟨hx1, hb1, hml, hown, hts⟩ (chk_met l X hx x0 x1 v hv h0 h1 h (1 + N)) ⟨callB_of 3 hts (gGood m_chk_code) rfl rfl rfl (hts _ (gTk_1 21 rfl rfl)) (hts _ m_chk_link) (by decide +kernel) (gRoom rfl (by omega)), hts _ m_chk_stat⟩ ⟨gPre_blind, fun U hU hW => ⟨rfl, gR_pre hx hbase hK hSt hR hU hW⟩⟩ rfl rfl hl.1 rfl (lv_room (Nat.le_of_ble_eq_true rfl)) d_sck_5 ⟨Nat.le_refl 0, Nat.le_refl 0⟩) hR.2.1 (fun q _ h => h) (fun q h => h) (fun r u t H1 locs1 ht hvm hw hB hz1 hk1 hS => ?_)
    refine lv_pop hx1 hb1 d_sck_8 rfl ?_
    exact hret _ _ _ d_sck_9 H1 locs1 ls' (gR_post hx ht hB hS) hl
  rcases hSt.2.2.2.2.2.2.2.2.1 with hZ | ⟨t, hZ⟩
  · exact va_gets hx1 hb1 hZ hR.2.1 hown (hts _ m_chk_fld) (fun _ h => h) d_sck_2 (key _ (Or.inl rfl))
  · exact va_gets hx1 hb1 hZ hR.2.1 hown (hts _ m_chk_fld) (fun _ h => h) d_sck_2 (key _ (Or.inr ⟨t, rfl⟩))
