/-! LEAVES of the class: the plain, a State -/
theorem m1lt : ((-1 : Int32) < 0) = True := by decide
theorem m1ge : ((0 : Int32) ≤ -1) = False := by decide
theorem m1z : ((-1 : Int32) = 0) = False := by decide
theorem WV.F {g : pG} {v : pV} {w : Nat} (hg : WG g) (hv : WV g v) (hw : w < vN v) : vF v w < 36 := Nat.lt_of_lt_of_le (hv.2.2 w hw).1 hg.f.2
theorem WG.H {g : pG} {i : Nat} (hg : WG g) (hi : i < gVm g) : gHm g i < 36 := Nat.lt_of_lt_of_le (hg.2.2.2.2.2 i hi).1 hg.f.2
theorem sFar_comm (g : pG) (a b : Nat) : sFar g a b = sFar g b a := by unfold sFar; rw [ndist_comm (a / gCo g), ndist_comm (a % gCo g)]
theorem sFar_le (g : pG) (a b : Nat) : sFar g a b ≤ 2 * (a + b) := by
  unfold sFar ndist
  have h1 : a / gCo g ≤ a := Nat.div_le_self _ _
  have h2 : b / gCo g ≤ b := Nat.div_le_self _ _
  have h3 : a % gCo g ≤ a := Nat.mod_le _ _
  have h4 : b % gCo g ≤ b := Nat.mod_le _ _
  generalize a / gCo g = p at *
  generalize b / gCo g = q at *
  generalize a % gCo g = r at *
  generalize b % gCo g = s at *
  omega
section CLEAF
variable {L N a : Nat} {S : gS} {g : pG} {v : pV}
-- the plain
theorem C_rowOf {f : Nat} (h : CG S g) (hg : WG g) (hf : f < 1000) : f_c1_rowOf N 15 (nI f) (mk L S) = some (nI (f / gCo g)) := by
  have := hg.2.2
  simp (disch := omega) only [Option.bind_some, ↓ile_t, ↓ile_f, ↓ilt_t, ↓ilt_f, ↓ieq_t, ↓ieq_f, ↓iz_t, ↓iz_f, ↓iltz, ↓izle, ↓ilez_t, ↓ilez_f, ↓im1, gZ_0, gZ_1, e10, e00, ↓reduceIte, Sum.elim_inl, Sum.elim_inr, nI_1, nI_add, Int32.sub_zero, f_c1_rowOf, zc15, zi15_0, zs15_0, zi15_1, zs15_1, zi15_2, zs15_2, zr15_3, zr15_4, zr15_5, h.2.1, gNZ_nI, nI_div]
theorem C_colOf {f : Nat} (h : CG S g) (hg : WG g) (hf : f < 1000) : f_c1_columnOf N 15 (nI f) (mk L S) = some (nI (f % gCo g)) := by
  have := hg.2.2
  simp (disch := omega) only [Option.bind_some, ↓ile_t, ↓ile_f, ↓ilt_t, ↓ilt_f, ↓ieq_t, ↓ieq_f, ↓iz_t, ↓iz_f, ↓iltz, ↓izle, ↓ilez_t, ↓ilez_f, ↓im1, gZ_0, gZ_1, e10, e00, ↓reduceIte, Sum.elim_inl, Sum.elim_inr, nI_1, nI_add, Int32.sub_zero, f_c1_columnOf, zc15, zi15_0, zs15_0, zi15_1, zs15_1, zi15_2, zs15_2, zr15_3, zr15_4, zr15_5, h.2.1, gNZ_nI, nI_rem]
theorem C_far {x y : Nat} (h : CG S g) (hg : WG g) (hx : x < 1000) (hy : y < 1000) : f_c1_far N 15 (nI x) (nI y) (mk L S) = some (nI (sFar g x y)) := by
  have h1 : x / gCo g ≤ x := Nat.div_le_self _ _
  have h2 : y / gCo g ≤ y := Nat.div_le_self _ _
  have h3 : x % gCo g ≤ x := Nat.mod_le _ _
  have h4 : y % gCo g ≤ y := Nat.mod_le _ _
  simp (disch := omega) only [Option.bind_some, ↓ile_t, ↓ile_f, ↓ilt_t, ↓ilt_f, ↓ieq_t, ↓ieq_f, ↓iz_t, ↓iz_f, ↓iltz, ↓izle, ↓ilez_t, ↓ilez_f, ↓im1, gZ_0, gZ_1, e10, e00, ↓reduceIte, Sum.elim_inl, Sum.elim_inr, nI_1, nI_add, Int32.sub_zero, f_c1_far, zc15, zi15_0, zs15_0, zi15_1, zs15_1, zi15_2, zs15_2, zr15_3, zr15_4, zr15_5, C_rowOf h hg hx, C_rowOf h hg hy, C_colOf h hg hx, C_colOf h hg hy, gabs_sub, sFar]
theorem C_fields (h : CG S g) : f_c1_fields N 15 (mk L S) = some (nI (gRw g * gCo g)) := by
  simp (disch := omega) only [Option.bind_some, ↓ile_t, ↓ile_f, ↓ilt_t, ↓ilt_f, ↓ieq_t, ↓ieq_f, ↓iz_t, ↓iz_f, ↓iltz, ↓izle, ↓ilez_t, ↓ilez_f, ↓im1, gZ_0, gZ_1, e10, e00, ↓reduceIte, Sum.elim_inl, Sum.elim_inr, nI_1, nI_add, Int32.sub_zero, f_c1_fields, zc15, zi15_0, zs15_0, zi15_1, zs15_1, zi15_2, zs15_2, zr15_3, zr15_4, zr15_5, h.1, h.2.1, nI_mul]
theorem C_hasField_t {f : Nat} (h : CG S g) (hg : WG g) (hf : f < gRw g * gCo g) : f_c1_hasField N 15 (nI f) (mk L S) = some 1 := by
  have := hg.f
  simp (disch := omega) only [Option.bind_some, ↓ile_t, ↓ile_f, ↓ilt_t, ↓ilt_f, ↓ieq_t, ↓ieq_f, ↓iz_t, ↓iz_f, ↓iltz, ↓izle, ↓ilez_t, ↓ilez_f, ↓im1, gZ_0, gZ_1, e10, e00, ↓reduceIte, Sum.elim_inl, Sum.elim_inr, nI_1, nI_add, Int32.sub_zero, f_c1_hasField, zc15, zi15_0, zs15_0, zi15_1, zs15_1, zi15_2, zs15_2, zr15_3, zr15_4, zr15_5, C_fields h]
theorem C_hasField_f {x : Int32} (h : CG S g) (hx : x < 0 ∨ (¬ x < 0 ∧ nI (gRw g * gCo g) ≤ x)) : f_c1_hasField N 15 x (mk L S) = some 0 := by
  rcases hx with hx | ⟨h0, hx⟩
  · simp (disch := omega) only [Option.bind_some, ↓ile_t, ↓ile_f, ↓ilt_t, ↓ilt_f, ↓ieq_t, ↓ieq_f, ↓iz_t, ↓iz_f, ↓iltz, ↓izle, ↓ilez_t, ↓ilez_f, ↓im1, gZ_0, gZ_1, e10, e00, ↓reduceIte, Sum.elim_inl, Sum.elim_inr, nI_1, nI_add, Int32.sub_zero, f_c1_hasField, zc15, zi15_0, zs15_0, zi15_1, zs15_1, zi15_2, zs15_2, zr15_3, zr15_4, zr15_5, hx]
  · simp (disch := omega) only [Option.bind_some, ↓ile_t, ↓ile_f, ↓ilt_t, ↓ilt_f, ↓ieq_t, ↓ieq_f, ↓iz_t, ↓iz_f, ↓iltz, ↓izle, ↓ilez_t, ↓ilez_f, ↓im1, gZ_0, gZ_1, e10, e00, ↓reduceIte, Sum.elim_inl, Sum.elim_inr, nI_1, nI_add, Int32.sub_zero, f_c1_hasField, zc15, zi15_0, zs15_0, zi15_1, zs15_1, zi15_2, zs15_2, zr15_3, zr15_4, zr15_5, C_fields h, hx, h0]
theorem C_hasV_t {i : Nat} (h : CG S g) (hg : WG g) (hi : i < gVm g) : f_c1_has N 15 (nI i) (mk L S) = some 1 := by
  have := hg.2.2.2.2.1
  simp (disch := omega) only [Option.bind_some, ↓ile_t, ↓ile_f, ↓ilt_t, ↓ilt_f, ↓ieq_t, ↓ieq_f, ↓iz_t, ↓iz_f, ↓iltz, ↓izle, ↓ilez_t, ↓ilez_f, ↓im1, gZ_0, gZ_1, e10, e00, ↓reduceIte, Sum.elim_inl, Sum.elim_inr, nI_1, nI_add, Int32.sub_zero, f_c1_has, zc15, zi15_0, zs15_0, zi15_1, zs15_1, zi15_2, zs15_2, zr15_3, zr15_4, zr15_5, h.2.2.1]
theorem C_hasV_f {x : Int32} (h : CG S g) (hx : x < 0 ∨ (¬ x < 0 ∧ nI (gVm g) ≤ x)) : f_c1_has N 15 x (mk L S) = some 0 := by
  rcases hx with hx | ⟨h0, hx⟩
  · simp (disch := omega) only [Option.bind_some, ↓ile_t, ↓ile_f, ↓ilt_t, ↓ilt_f, ↓ieq_t, ↓ieq_f, ↓iz_t, ↓iz_f, ↓iltz, ↓izle, ↓ilez_t, ↓ilez_f, ↓im1, gZ_0, gZ_1, e10, e00, ↓reduceIte, Sum.elim_inl, Sum.elim_inr, nI_1, nI_add, Int32.sub_zero, f_c1_has, zc15, zi15_0, zs15_0, zi15_1, zs15_1, zi15_2, zs15_2, zr15_3, zr15_4, zr15_5, hx]
  · simp (disch := omega) only [Option.bind_some, ↓ile_t, ↓ile_f, ↓ilt_t, ↓ilt_f, ↓ieq_t, ↓ieq_f, ↓iz_t, ↓iz_f, ↓iltz, ↓izle, ↓ilez_t, ↓ilez_f, ↓im1, gZ_0, gZ_1, e10, e00, ↓reduceIte, Sum.elim_inl, Sum.elim_inr, nI_1, nI_add, Int32.sub_zero, f_c1_has, zc15, zi15_0, zs15_0, zi15_1, zs15_1, zi15_2, zs15_2, zr15_3, zr15_4, zr15_5, h.2.2.1, hx, h0]
theorem C_fieldAt_t {r c : Nat} (h : CG S g) (hg : WG g) (hr : r < gRw g) (hc : c < gCo g) : f_c1_fieldAt N 15 (nI r) (nI c) (mk L S) = some (nI (r * gCo g + c)) := by
  have h1 := hg.2.1
  have h2 := hg.2.2.2.1
  simp (disch := omega) only [Option.bind_some, ↓ile_t, ↓ile_f, ↓ilt_t, ↓ilt_f, ↓ieq_t, ↓ieq_f, ↓iz_t, ↓iz_f, ↓iltz, ↓izle, ↓ilez_t, ↓ilez_f, ↓im1, gZ_0, gZ_1, e10, e00, ↓reduceIte, Sum.elim_inl, Sum.elim_inr, nI_1, nI_add, Int32.sub_zero, f_c1_fieldAt, zc15, zi15_0, zs15_0, zi15_1, zs15_1, zi15_2, zs15_2, zr15_3, zr15_4, zr15_5, h.1, h.2.1, nI_mul]
theorem C_thirsts (h : CG S g) (hg : WG g) (hN : 900 ≤ N) : f_c1_thirstOfAll N 15 (mk L S) = some (nI (sumN (gTh g) (gVm g))) := by
  have h6 := hg.2.2.2.2.1
  have e : lp_c1_thirstOfAll_4 N 15 (mk L S) N (nI 0) (nI 0) = some (nI (sumN (gTh g) (gVm g))) := by
    refine lp_seq (Lp := fun k (s : Int32) i => lp_c1_thirstOfAll_4 N 15 (mk L S) k s (nI i)) (sp := fun i => nI (sumN (gTh g) i)) (n := gVm g) (fun k i hi => ?_) (fun k => ?_) (by omega)
    · show lp_c1_thirstOfAll_4 N 15 (mk L S) (k + 1) _ _ = _
      rw [lp_c1_thirstOfAll_4.eq_2]
      simp (disch := omega) only [Option.bind_some, ↓ile_t, ↓ile_f, ↓ilt_t, ↓ilt_f, ↓ieq_t, ↓ieq_f, ↓iz_t, ↓iz_f, ↓iltz, ↓izle, ↓ilez_t, ↓ilez_f, ↓im1, gZ_0, gZ_1, e10, e00, ↓reduceIte, Sum.elim_inl, Sum.elim_inr, nI_1, nI_add, Int32.sub_zero, zc15, zi15_0, zs15_0, zi15_1, zs15_1, zi15_2, zs15_2, zr15_3, zr15_4, zr15_5, h.2.2.1, zg17, (h.2.2.2.1 i hi).2, sumN]
    · show lp_c1_thirstOfAll_4 N 15 (mk L S) (k + 1) _ _ = _
      rw [lp_c1_thirstOfAll_4.eq_2]
      simp (disch := omega) only [Option.bind_some, ↓ile_t, ↓ile_f, ↓ilt_t, ↓ilt_f, ↓ieq_t, ↓ieq_f, ↓iz_t, ↓iz_f, ↓iltz, ↓izle, ↓ilez_t, ↓ilez_f, ↓im1, gZ_0, gZ_1, e10, e00, ↓reduceIte, Sum.elim_inl, Sum.elim_inr, nI_1, nI_add, Int32.sub_zero, zc15, zi15_0, zs15_0, zi15_1, zs15_1, zi15_2, zs15_2, zr15_3, zr15_4, zr15_5, h.2.2.1]
  simp (disch := omega) only [Option.bind_some, ↓ile_t, ↓ile_f, ↓ilt_t, ↓ilt_f, ↓ieq_t, ↓ieq_f, ↓iz_t, ↓iz_f, ↓iltz, ↓izle, ↓ilez_t, ↓ilez_f, ↓im1, gZ_0, gZ_1, e10, e00, ↓reduceIte, Sum.elim_inl, Sum.elim_inr, nI_1, nI_add, Int32.sub_zero, f_c1_thirstOfAll, zc15, zi15_0, zs15_0, zi15_1, zs15_1, zi15_2, zs15_2, zr15_3, zr15_4, zr15_5, k0, e]
theorem C_crowdAt {f : Nat} (h : CG S g) (hg : WG g) (hf : f < gRw g * gCo g) : f_c1_crowdAt N 15 (nI f) (mk L S) = some (nI (sCrowd g f)) := by
  have := hg.f
  simp (disch := omega) only [Option.bind_some, ↓ile_t, ↓ile_f, ↓ilt_t, ↓ilt_f, ↓ieq_t, ↓ieq_f, ↓iz_t, ↓iz_f, ↓iltz, ↓izle, ↓ilez_t, ↓ilez_f, ↓im1, gZ_0, gZ_1, e10, e00, ↓reduceIte, Sum.elim_inl, Sum.elim_inr, nI_1, nI_add, Int32.sub_zero, f_c1_crowdAt, zc15, zi15_0, zs15_0, zi15_1, zs15_1, zi15_2, zs15_2, zr15_3, zr15_4, zr15_5, k36, zg18, h.2.2.2.2 f hf]
-- a State
theorem C_has_t {w : Nat} (ha : SA a) (h : CV S a v) (hw : w < vN v) (h8 : vN v ≤ 8) : f_c7_has N a (nI w) (mk L S) = some 1 := by
  simp (disch := omega) only [Option.bind_some, ↓ile_t, ↓ile_f, ↓ilt_t, ↓ilt_f, ↓ieq_t, ↓ieq_f, ↓iz_t, ↓iz_f, ↓iltz, ↓izle, ↓ilez_t, ↓ilez_f, ↓im1, gZ_0, gZ_1, e10, e00, ↓reduceIte, Sum.elim_inl, Sum.elim_inr, nI_1, nI_add, Int32.sub_zero, f_c7_has, qc ha, qi0 ha, qs0 ha, qr1 ha, qr2 ha, qr3 ha, qr4 ha, qr5 ha, qi6 ha, qs6 ha, qi7 ha, qs7 ha, h.1]
theorem C_has_f {x : Int32} (ha : SA a) (h : CV S a v) (hx : x < 0 ∨ (¬ x < 0 ∧ nI (vN v) ≤ x)) : f_c7_has N a x (mk L S) = some 0 := by
  rcases hx with hx | ⟨h0, hx⟩
  · simp (disch := omega) only [Option.bind_some, ↓ile_t, ↓ile_f, ↓ilt_t, ↓ilt_f, ↓ieq_t, ↓ieq_f, ↓iz_t, ↓iz_f, ↓iltz, ↓izle, ↓ilez_t, ↓ilez_f, ↓im1, gZ_0, gZ_1, e10, e00, ↓reduceIte, Sum.elim_inl, Sum.elim_inr, nI_1, nI_add, Int32.sub_zero, f_c7_has, qc ha, qi0 ha, qs0 ha, qr1 ha, qr2 ha, qr3 ha, qr4 ha, qr5 ha, qi6 ha, qs6 ha, qi7 ha, qs7 ha, h.1, hx]
  · simp (disch := omega) only [Option.bind_some, ↓ile_t, ↓ile_f, ↓ilt_t, ↓ilt_f, ↓ieq_t, ↓ieq_f, ↓iz_t, ↓iz_f, ↓iltz, ↓izle, ↓ilez_t, ↓ilez_f, ↓im1, gZ_0, gZ_1, e10, e00, ↓reduceIte, Sum.elim_inl, Sum.elim_inr, nI_1, nI_add, Int32.sub_zero, f_c7_has, qc ha, qi0 ha, qs0 ha, qr1 ha, qr2 ha, qr3 ha, qr4 ha, qr5 ha, qi6 ha, qs6 ha, qi7 ha, qs7 ha, h.1, hx, h0]
theorem C_waters (ha : SA a) (h : CV S a v) (h8 : vN v ≤ 8) (hN : 900 ≤ N) : f_c7_waterOfAll N a (mk L S) = some (nI (sumN (vT v) (vN v))) := by
  have e : lp_c7_waterOfAll_4 N a (mk L S) N (nI 0) (nI 0) = some (nI (sumN (vT v) (vN v))) := by
    refine lp_seq (Lp := fun k (s : Int32) i => lp_c7_waterOfAll_4 N a (mk L S) k s (nI i)) (sp := fun i => nI (sumN (vT v) i)) (n := vN v) (fun k i hi => ?_) (fun k => ?_) (by omega)
    · show lp_c7_waterOfAll_4 N a (mk L S) (k + 1) _ _ = _
      rw [lp_c7_waterOfAll_4.eq_2]
      simp (disch := omega) only [Option.bind_some, ↓ile_t, ↓ile_f, ↓ilt_t, ↓ilt_f, ↓ieq_t, ↓ieq_f, ↓iz_t, ↓iz_f, ↓iltz, ↓izle, ↓ilez_t, ↓ilez_f, ↓im1, gZ_0, gZ_1, e10, e00, ↓reduceIte, Sum.elim_inl, Sum.elim_inr, nI_1, nI_add, Int32.sub_zero, qc ha, qi0 ha, qs0 ha, qr1 ha, qr2 ha, qr3 ha, qr4 ha, qr5 ha, qi6 ha, qs6 ha, qi7 ha, qs7 ha, h.1, qg5 ha, (h.2.2.2 i hi).2.2.2.2, sumN]
    · show lp_c7_waterOfAll_4 N a (mk L S) (k + 1) _ _ = _
      rw [lp_c7_waterOfAll_4.eq_2]
      simp (disch := omega) only [Option.bind_some, ↓ile_t, ↓ile_f, ↓ilt_t, ↓ilt_f, ↓ieq_t, ↓ieq_f, ↓iz_t, ↓iz_f, ↓iltz, ↓izle, ↓ilez_t, ↓ilez_f, ↓im1, gZ_0, gZ_1, e10, e00, ↓reduceIte, Sum.elim_inl, Sum.elim_inr, nI_1, nI_add, Int32.sub_zero, qc ha, qi0 ha, qs0 ha, qr1 ha, qr2 ha, qr3 ha, qr4 ha, qr5 ha, qi6 ha, qs6 ha, qi7 ha, qs7 ha, h.1]
  simp (disch := omega) only [Option.bind_some, ↓ile_t, ↓ile_f, ↓ilt_t, ↓ilt_f, ↓ieq_t, ↓ieq_f, ↓iz_t, ↓iz_f, ↓iltz, ↓izle, ↓ilez_t, ↓ilez_f, ↓im1, gZ_0, gZ_1, e10, e00, ↓reduceIte, Sum.elim_inl, Sum.elim_inr, nI_1, nI_add, Int32.sub_zero, f_c7_waterOfAll, qc ha, k0, e]
theorem C_ands (ha : SA a) (h : CV S a v) (h8 : vN v ≤ 8) (hN : 900 ≤ N) : f_c7_andsOfAll N a (mk L S) = some (nI (sumN (vA v) (vN v))) := by
  have e : lp_c7_andsOfAll_4 N a (mk L S) N (nI 0) (nI 0) = some (nI (sumN (vA v) (vN v))) := by
    refine lp_seq (Lp := fun k (s : Int32) i => lp_c7_andsOfAll_4 N a (mk L S) k s (nI i)) (sp := fun i => nI (sumN (vA v) i)) (n := vN v) (fun k i hi => ?_) (fun k => ?_) (by omega)
    · show lp_c7_andsOfAll_4 N a (mk L S) (k + 1) _ _ = _
      rw [lp_c7_andsOfAll_4.eq_2]
      simp (disch := omega) only [Option.bind_some, ↓ile_t, ↓ile_f, ↓ilt_t, ↓ilt_f, ↓ieq_t, ↓ieq_f, ↓iz_t, ↓iz_f, ↓iltz, ↓izle, ↓ilez_t, ↓ilez_f, ↓im1, gZ_0, gZ_1, e10, e00, ↓reduceIte, Sum.elim_inl, Sum.elim_inr, nI_1, nI_add, Int32.sub_zero, qc ha, qi0 ha, qs0 ha, qr1 ha, qr2 ha, qr3 ha, qr4 ha, qr5 ha, qi6 ha, qs6 ha, qi7 ha, qs7 ha, h.1, qg4 ha, (h.2.2.2 i hi).2.2.2.1, sumN]
    · show lp_c7_andsOfAll_4 N a (mk L S) (k + 1) _ _ = _
      rw [lp_c7_andsOfAll_4.eq_2]
      simp (disch := omega) only [Option.bind_some, ↓ile_t, ↓ile_f, ↓ilt_t, ↓ilt_f, ↓ieq_t, ↓ieq_f, ↓iz_t, ↓iz_f, ↓iltz, ↓izle, ↓ilez_t, ↓ilez_f, ↓im1, gZ_0, gZ_1, e10, e00, ↓reduceIte, Sum.elim_inl, Sum.elim_inr, nI_1, nI_add, Int32.sub_zero, qc ha, qi0 ha, qs0 ha, qr1 ha, qr2 ha, qr3 ha, qr4 ha, qr5 ha, qi6 ha, qs6 ha, qi7 ha, qs7 ha, h.1]
  simp (disch := omega) only [Option.bind_some, ↓ile_t, ↓ile_f, ↓ilt_t, ↓ilt_f, ↓ieq_t, ↓ieq_f, ↓iz_t, ↓iz_f, ↓iltz, ↓izle, ↓ilez_t, ↓ilez_f, ↓im1, gZ_0, gZ_1, e10, e00, ↓reduceIte, Sum.elim_inl, Sum.elim_inr, nI_1, nI_add, Int32.sub_zero, f_c7_andsOfAll, qc ha, k0, e]
theorem C_dry (ha : SA a) (h : CV S a v) (hv : WV g v) (hN : 900 ≤ N) : f_c7_dryOnes N a (mk L S) = some (sDry v (vN v)) := by
  have h8 := hv.1
  have e : lp_c7_dryOnes_4 N a (mk L S) N 0 (nI 0) = some (sDry v (vN v)) := by
    refine lp_seq (Lp := fun k (s : Int32) i => lp_c7_dryOnes_4 N a (mk L S) k s (nI i)) (sp := fun i => sDry v i) (n := vN v) (fun k i hi => ?_) (fun k => ?_) (by omega)
    · show lp_c7_dryOnes_4 N a (mk L S) (k + 1) _ _ = _
      rw [lp_c7_dryOnes_4.eq_2]
      have ht := (hv.2.2 i hi).2.2.2.2.2
      by_cases q : vT v i = 0
      · simp (disch := omega) only [Option.bind_some, ↓ile_t, ↓ile_f, ↓ilt_t, ↓ilt_f, ↓ieq_t, ↓ieq_f, ↓iz_t, ↓iz_f, ↓iltz, ↓izle, ↓ilez_t, ↓ilez_f, ↓im1, gZ_0, gZ_1, e10, e00, ↓reduceIte, Sum.elim_inl, Sum.elim_inr, nI_1, nI_add, Int32.sub_zero, qc ha, qi0 ha, qs0 ha, qr1 ha, qr2 ha, qr3 ha, qr4 ha, qr5 ha, qi6 ha, qs6 ha, qi7 ha, qs7 ha, h.1, qg5 ha, (h.2.2.2 i hi).2.2.2.2, sDry, q, nI_0, eq_self_iff_true]
      · simp (disch := omega) only [Option.bind_some, ↓ile_t, ↓ile_f, ↓ilt_t, ↓ilt_f, ↓ieq_t, ↓ieq_f, ↓iz_t, ↓iz_f, ↓iltz, ↓izle, ↓ilez_t, ↓ilez_f, ↓im1, gZ_0, gZ_1, e10, e00, ↓reduceIte, Sum.elim_inl, Sum.elim_inr, nI_1, nI_add, Int32.sub_zero, qc ha, qi0 ha, qs0 ha, qr1 ha, qr2 ha, qr3 ha, qr4 ha, qr5 ha, qi6 ha, qs6 ha, qi7 ha, qs7 ha, h.1, qg5 ha, (h.2.2.2 i hi).2.2.2.2, sDry, q]
    · show lp_c7_dryOnes_4 N a (mk L S) (k + 1) _ _ = _
      rw [lp_c7_dryOnes_4.eq_2]
      simp (disch := omega) only [Option.bind_some, ↓ile_t, ↓ile_f, ↓ilt_t, ↓ilt_f, ↓ieq_t, ↓ieq_f, ↓iz_t, ↓iz_f, ↓iltz, ↓izle, ↓ilez_t, ↓ilez_f, ↓im1, gZ_0, gZ_1, e10, e00, ↓reduceIte, Sum.elim_inl, Sum.elim_inr, nI_1, nI_add, Int32.sub_zero, qc ha, qi0 ha, qs0 ha, qr1 ha, qr2 ha, qr3 ha, qr4 ha, qr5 ha, qi6 ha, qs6 ha, qi7 ha, qs7 ha, h.1]
  rw [nI_0] at e
  simp (disch := omega) only [Option.bind_some, ↓ile_t, ↓ile_f, ↓ilt_t, ↓ilt_f, ↓ieq_t, ↓ieq_f, ↓iz_t, ↓iz_f, ↓iltz, ↓izle, ↓ilez_t, ↓ilez_f, ↓im1, gZ_0, gZ_1, e10, e00, ↓reduceIte, Sum.elim_inl, Sum.elim_inr, nI_1, nI_add, Int32.sub_zero, f_c7_dryOnes, qc ha, e]
theorem C_depth {w : Nat} (ha : SA a) (h : CV S a v) (hv : WV g v) (hw : w < vN v) : f_c7_depth N a (nI w) (mk L S) = some (nI (sDepth v w)) := by
  have h8 := hv.1
  have hr := hv.2.2 w hw
  by_cases q : vM v w = 1
  · simp (disch := omega) only [Option.bind_some, ↓ile_t, ↓ile_f, ↓ilt_t, ↓ilt_f, ↓ieq_t, ↓ieq_f, ↓iz_t, ↓iz_f, ↓iltz, ↓izle, ↓ilez_t, ↓ilez_f, ↓im1, gZ_0, gZ_1, e10, e00, ↓reduceIte, Sum.elim_inl, Sum.elim_inr, nI_1, nI_add, Int32.sub_zero, f_c7_depth, qc ha, qi0 ha, qs0 ha, qr1 ha, qr2 ha, qr3 ha, qr4 ha, qr5 ha, qi6 ha, qs6 ha, qi7 ha, qs7 ha, qg3 ha, qg2 ha, (h.2.2.2 w hw).2.2.1, (h.2.2.2 w hw).2.1, k1, k10, sDepth, q, nI_sub]
  · simp (disch := omega) only [Option.bind_some, ↓ile_t, ↓ile_f, ↓ilt_t, ↓ilt_f, ↓ieq_t, ↓ieq_f, ↓iz_t, ↓iz_f, ↓iltz, ↓izle, ↓ilez_t, ↓ilez_f, ↓im1, gZ_0, gZ_1, e10, e00, ↓reduceIte, Sum.elim_inl, Sum.elim_inr, nI_1, nI_add, Int32.sub_zero, f_c7_depth, qc ha, qi0 ha, qs0 ha, qr1 ha, qr2 ha, qr3 ha, qr4 ha, qr5 ha, qi6 ha, qs6 ha, qi7 ha, qs7 ha, qg3 ha, qg2 ha, (h.2.2.2 w hw).2.2.1, (h.2.2.2 w hw).2.1, k1, sDepth, q]
theorem C_wellOn {f : Nat} (ha : SA a) (h : CV S a v) (hg : WG g) (hv : WV g v) (hN : 900 ≤ N) (hf : f < 1000) : f_c7_wellOn N a (nI f) (mk L S) = some (oI (sOn v f)) := by
  have h8 := hv.1
  have e : lp_c7_wellOn_2 N a (nI f) (mk L S) N (nI 0) = some ((fun o : Option Nat => match o with | some i => Sum.inl (nI i) | none => Sum.inr ()) (sOn v f)) := by
    refine lp_fst (Lp := fun k i => lp_c7_wellOn_2 N a (nI f) (mk L S) k (nI i)) (o := fun o => match o with | some i => Sum.inl (nI i) | none => Sum.inr ()) (n := vN v) (fun k i hi hp => ?_) (fun k i hi hp => ?_) (fun k => ?_) (vN v) N 0 (by omega) (by omega)
    · show lp_c7_wellOn_2 N a (nI f) (mk L S) (k + 1) _ = _
      rw [lp_c7_wellOn_2.eq_2]
      have hp := of_decide_eq_false hp
      have := hv.F hg hi
      simp (disch := omega) only [Option.bind_some, ↓ile_t, ↓ile_f, ↓ilt_t, ↓ilt_f, ↓ieq_t, ↓ieq_f, ↓iz_t, ↓iz_f, ↓iltz, ↓izle, ↓ilez_t, ↓ilez_f, ↓im1, gZ_0, gZ_1, e10, e00, ↓reduceIte, Sum.elim_inl, Sum.elim_inr, nI_1, nI_add, Int32.sub_zero, qc ha, qi0 ha, qs0 ha, qr1 ha, qr2 ha, qr3 ha, qr4 ha, qr5 ha, qi6 ha, qs6 ha, qi7 ha, qs7 ha, h.1, qg1 ha, (h.2.2.2 i hi).1]
    · show lp_c7_wellOn_2 N a (nI f) (mk L S) (k + 1) _ = _
      rw [lp_c7_wellOn_2.eq_2]
      have hp := of_decide_eq_true hp
      simp (disch := omega) only [Option.bind_some, ↓ile_t, ↓ile_f, ↓ilt_t, ↓ilt_f, ↓ieq_t, ↓ieq_f, ↓iz_t, ↓iz_f, ↓iltz, ↓izle, ↓ilez_t, ↓ilez_f, ↓im1, gZ_0, gZ_1, e10, e00, ↓reduceIte, Sum.elim_inl, Sum.elim_inr, nI_1, nI_add, Int32.sub_zero, qc ha, qi0 ha, qs0 ha, qr1 ha, qr2 ha, qr3 ha, qr4 ha, qr5 ha, qi6 ha, qs6 ha, qi7 ha, qs7 ha, h.1, qg1 ha, (h.2.2.2 i hi).1]
    · show lp_c7_wellOn_2 N a (nI f) (mk L S) (k + 1) _ = _
      rw [lp_c7_wellOn_2.eq_2]
      simp (disch := omega) only [Option.bind_some, ↓ile_t, ↓ile_f, ↓ilt_t, ↓ilt_f, ↓ieq_t, ↓ieq_f, ↓iz_t, ↓iz_f, ↓iltz, ↓izle, ↓ilez_t, ↓ilez_f, ↓im1, gZ_0, gZ_1, e10, e00, ↓reduceIte, Sum.elim_inl, Sum.elim_inr, nI_1, nI_add, Int32.sub_zero, qc ha, qi0 ha, qs0 ha, qr1 ha, qr2 ha, qr3 ha, qr4 ha, qr5 ha, qi6 ha, qs6 ha, qi7 ha, qs7 ha, h.1]
  cases hs : sOn v f with
  | none =>
    rw [hs] at e
    simp (disch := omega) only [Option.bind_some, ↓ile_t, ↓ile_f, ↓ilt_t, ↓ilt_f, ↓ieq_t, ↓ieq_f, ↓iz_t, ↓iz_f, ↓iltz, ↓izle, ↓ilez_t, ↓ilez_f, ↓im1, gZ_0, gZ_1, e10, e00, ↓reduceIte, Sum.elim_inl, Sum.elim_inr, nI_1, nI_add, Int32.sub_zero, f_c7_wellOn, qc ha, k0, e, oI]
  | some i =>
    rw [hs] at e
    simp (disch := omega) only [Option.bind_some, ↓ile_t, ↓ile_f, ↓ilt_t, ↓ilt_f, ↓ieq_t, ↓ieq_f, ↓iz_t, ↓iz_f, ↓iltz, ↓izle, ↓ilez_t, ↓ilez_f, ↓im1, gZ_0, gZ_1, e10, e00, ↓reduceIte, Sum.elim_inl, Sum.elim_inr, nI_1, nI_add, Int32.sub_zero, f_c7_wellOn, qc ha, k0, e, oI]
theorem sNear_lt {i b : Nat} {f : Nat} (h : sNear g v f i = some b) : b < i := by
  induction i generalizing b with
  | zero => cases h
  | succ i ih =>
    unfold sNear at h
    split at h
    · have := ih h; omega
    · split at h
      · cases h; omega
      · rename_i c hc
        split at h
        · cases h; omega
        · cases h; have := ih hc; omega
theorem C_near {f : Nat} (ha : SA a) (h : CV S a v) (hc : CG S g) (hg : WG g) (hv : WV g v) (hf : f < 1000) (hN : 900 ≤ N) : f_c7_nearestWater N a 15 (nI f) (mk L S) = some (oI (sNear g v f (vN v))) := by
  have h8 := hv.1
  have e : ∃ r, lp_c7_nearestWater_8 N a 15 (nI f) (mk L S) N (-1) 0 (nI 0) = some r ∧ r = oI (sNear g v f (vN v)) := by
    refine lp_inv (Lp := fun k (s : Int32 × Int32) i => lp_c7_nearestWater_8 N a 15 (nI f) (mk L S) k s.1 s.2 (nI i)) (P := fun i s => s.1 = oI (sNear g v f i) ∧ ∀ b, sNear g v f i = some b → s.2 = nI (sFar g f (vF v b))) (n := vN v) (fun k i s hi hs => Or.inr ?_) (fun k s hs => ?_) (vN v) N 0 (-1, 0) (by omega) (by omega) ⟨rfl, fun b q => by cases q⟩
    · show ∃ s', lp_c7_nearestWater_8 N a 15 (nI f) (mk L S) (k + 1) _ _ _ = _ ∧ _
      rw [lp_c7_nearestWater_8.eq_2]
      have ht := (hv.2.2 i hi).2.2.2.2.2
      have hF := hv.F hg hi
      obtain ⟨s1, s2⟩ := s
      obtain ⟨hs1, hs2⟩ := hs
      dsimp only at hs1 hs2
      by_cases q : vT v i = 0
      · refine ⟨(s1, s2), ?_, ?_⟩
        · simp (disch := omega) only [Option.bind_some, ↓ile_t, ↓ile_f, ↓ilt_t, ↓ilt_f, ↓ieq_t, ↓ieq_f, ↓iz_t, ↓iz_f, ↓iltz, ↓izle, ↓ilez_t, ↓ilez_f, ↓im1, gZ_0, gZ_1, e10, e00, ↓reduceIte, Sum.elim_inl, Sum.elim_inr, nI_1, nI_add, Int32.sub_zero, qc ha, qi0 ha, qs0 ha, qr1 ha, qr2 ha, qr3 ha, qr4 ha, qr5 ha, qi6 ha, qs6 ha, qi7 ha, qs7 ha, h.1, qg5 ha, (h.2.2.2 i hi).2.2.2.2]
        · show s1 = oI (sNear g v f (i + 1)) ∧ _
          rw [show sNear g v f (i + 1) = sNear g v f i by rw [sNear, if_pos q]]
          exact ⟨hs1, hs2⟩
      · cases hn : sNear g v f i with
        | none =>
          have e1 : sNear g v f (i + 1) = some i := by rw [sNear, if_neg q, hn]
          refine ⟨(nI i, nI (sFar g f (vF v i))), ?_, ?_, ?_⟩
          · rw [hn] at hs1
            subst hs1
            simp (disch := omega) only [Option.bind_some, ↓ile_t, ↓ile_f, ↓ilt_t, ↓ilt_f, ↓ieq_t, ↓ieq_f, ↓iz_t, ↓iz_f, ↓iltz, ↓izle, ↓ilez_t, ↓ilez_f, ↓im1, gZ_0, gZ_1, e10, e00, ↓reduceIte, Sum.elim_inl, Sum.elim_inr, nI_1, nI_add, Int32.sub_zero, qc ha, qi0 ha, qs0 ha, qr1 ha, qr2 ha, qr3 ha, qr4 ha, qr5 ha, qi6 ha, qs6 ha, qi7 ha, qs7 ha, h.1, qg5 ha, qg1 ha, (h.2.2.2 i hi).2.2.2.2, (h.2.2.2 i hi).1, C_far hc hg, oI, m1lt]
          · rw [e1]; rfl
          · intro b hb; rw [e1] at hb; cases hb; rfl
        | some b =>
          rw [hn] at hs1
          have hs3 := hs2 b hn
          have hb := sNear_lt hn
          have hFb := hv.F hg (w := b) (by omega)
          have l2 := sFar_le g f (vF v i)
          have l3 := sFar_le g f (vF v b)
          subst hs1
          subst hs3
          by_cases q2 : sFar g f (vF v i) < sFar g f (vF v b)
          · have e1 : sNear g v f (i + 1) = some i := by rw [sNear, if_neg q, hn]; exact if_pos q2
            refine ⟨(nI i, nI (sFar g f (vF v i))), ?_, ?_, ?_⟩
            · simp (disch := omega) only [Option.bind_some, ↓ile_t, ↓ile_f, ↓ilt_t, ↓ilt_f, ↓ieq_t, ↓ieq_f, ↓iz_t, ↓iz_f, ↓iltz, ↓izle, ↓ilez_t, ↓ilez_f, ↓im1, gZ_0, gZ_1, e10, e00, ↓reduceIte, Sum.elim_inl, Sum.elim_inr, nI_1, nI_add, Int32.sub_zero, qc ha, qi0 ha, qs0 ha, qr1 ha, qr2 ha, qr3 ha, qr4 ha, qr5 ha, qi6 ha, qs6 ha, qi7 ha, qs7 ha, h.1, qg5 ha, qg1 ha, (h.2.2.2 i hi).2.2.2.2, (h.2.2.2 i hi).1, C_far hc hg, oI]
            · rw [e1]; rfl
            · intro b hb; rw [e1] at hb; cases hb; rfl
          · have e1 : sNear g v f (i + 1) = some b := by rw [sNear, if_neg q, hn]; exact if_neg q2
            refine ⟨(nI b, nI (sFar g f (vF v b))), ?_, ?_, ?_⟩
            · simp (disch := omega) only [Option.bind_some, ↓ile_t, ↓ile_f, ↓ilt_t, ↓ilt_f, ↓ieq_t, ↓ieq_f, ↓iz_t, ↓iz_f, ↓iltz, ↓izle, ↓ilez_t, ↓ilez_f, ↓im1, gZ_0, gZ_1, e10, e00, ↓reduceIte, Sum.elim_inl, Sum.elim_inr, nI_1, nI_add, Int32.sub_zero, qc ha, qi0 ha, qs0 ha, qr1 ha, qr2 ha, qr3 ha, qr4 ha, qr5 ha, qi6 ha, qs6 ha, qi7 ha, qs7 ha, h.1, qg5 ha, qg1 ha, (h.2.2.2 i hi).2.2.2.2, (h.2.2.2 i hi).1, C_far hc hg, oI]
            · rw [e1]; rfl
            · intro b hb; rw [e1] at hb; cases hb; rfl
    · show ∃ r, lp_c7_nearestWater_8 N a 15 (nI f) (mk L S) (k + 1) _ _ _ = _ ∧ _
      rw [lp_c7_nearestWater_8.eq_2]
      refine ⟨s.1, ?_, hs.1⟩
      simp (disch := omega) only [Option.bind_some, ↓ile_t, ↓ile_f, ↓ilt_t, ↓ilt_f, ↓ieq_t, ↓ieq_f, ↓iz_t, ↓iz_f, ↓iltz, ↓izle, ↓ilez_t, ↓ilez_f, ↓im1, gZ_0, gZ_1, e10, e00, ↓reduceIte, Sum.elim_inl, Sum.elim_inr, nI_1, nI_add, Int32.sub_zero, qc ha, qi0 ha, qs0 ha, qr1 ha, qr2 ha, qr3 ha, qr4 ha, qr5 ha, qi6 ha, qs6 ha, qi7 ha, qs7 ha, h.1]
  obtain ⟨r, e, rfl⟩ := e
  rw [nI_0] at e
  simp (disch := omega) only [Option.bind_some, ↓ile_t, ↓ile_f, ↓ilt_t, ↓ilt_f, ↓ieq_t, ↓ieq_f, ↓iz_t, ↓iz_f, ↓iltz, ↓izle, ↓ilez_t, ↓ilez_f, ↓im1, gZ_0, gZ_1, e10, e00, ↓reduceIte, Sum.elim_inl, Sum.elim_inr, nI_1, nI_add, Int32.sub_zero, f_c7_nearestWater, qc ha, e]
theorem C_farApart {i j : Nat} (ha : SA a) (h : CV S a v) (hc : CG S g) (hg : WG g) (hv : WV g v) (hi : i < vN v) (hj : j < vN v) : f_c7_farApart N a 15 (nI i) (nI j) (mk L S) = some (nI (sFar g (vF v i) (vF v j))) := by
  have h8 := hv.1
  have h1 := hv.F hg hi
  have h2 := hv.F hg hj
  simp (disch := omega) only [Option.bind_some, ↓ile_t, ↓ile_f, ↓ilt_t, ↓ilt_f, ↓ieq_t, ↓ieq_f, ↓iz_t, ↓iz_f, ↓iltz, ↓izle, ↓ilez_t, ↓ilez_f, ↓im1, gZ_0, gZ_1, e10, e00, ↓reduceIte, Sum.elim_inl, Sum.elim_inr, nI_1, nI_add, Int32.sub_zero, f_c7_farApart, qc ha, qi0 ha, qs0 ha, qr1 ha, qr2 ha, qr3 ha, qr4 ha, qr5 ha, qi6 ha, qs6 ha, qi7 ha, qs7 ha, qg1 ha, (h.2.2.2 i hi).1, (h.2.2.2 j hj).1, C_far hc hg]
end CLEAF
