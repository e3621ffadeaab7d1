/-! LEAVES of the class -/
section CLEAF
variable {L N a : Nat} {S : gS} {g : pG} {v : pV}
theorem C_has_t {w : Nat} (ha : SA a) (h : CV S a v) (hw : w < vN v) (h8 : vN v ≤ 8) : f_c7_has N a (nI w) (mk L S) = some 1 := by
  simp (disch := omega) only [Option.bind_some, ↓ile_t, ↓ile_f, ↓ilt_t, ↓ilt_f, ↓ieq_t, ↓ieq_f, ↓iz_t, ↓iz_f, ↓iltz, ↓izle, ↓ilez_t, ↓ilez_f, ↓im1, gZ_0, gZ_1, e10, e00, ↓reduceIte, Sum.elim_inl, Sum.elim_inr, nI_1, nI_add, Int32.sub_zero, f_c7_has, qc ha, qi0 ha, qs0 ha, qr1 ha, qr2 ha, qr3 ha, qr4 ha, qr5 ha, qi6 ha, qs6 ha, qi7 ha, qs7 ha, h.1]
theorem C_has_f {x : Int32} (ha : SA a) (h : CV S a v) (hx : x < 0 ∨ (¬ x < 0 ∧ nI (vN v) ≤ x)) : f_c7_has N a x (mk L S) = some 0 := by
  rcases hx with hx | ⟨h0, hx⟩
  · simp (disch := omega) only [Option.bind_some, ↓ile_t, ↓ile_f, ↓ilt_t, ↓ilt_f, ↓ieq_t, ↓ieq_f, ↓iz_t, ↓iz_f, ↓iltz, ↓izle, ↓ilez_t, ↓ilez_f, ↓im1, gZ_0, gZ_1, e10, e00, ↓reduceIte, Sum.elim_inl, Sum.elim_inr, nI_1, nI_add, Int32.sub_zero, f_c7_has, qc ha, qi0 ha, qs0 ha, qr1 ha, qr2 ha, qr3 ha, qr4 ha, qr5 ha, qi6 ha, qs6 ha, qi7 ha, qs7 ha, h.1, hx]
  · simp (disch := omega) only [Option.bind_some, ↓ile_t, ↓ile_f, ↓ilt_t, ↓ilt_f, ↓ieq_t, ↓ieq_f, ↓iz_t, ↓iz_f, ↓iltz, ↓izle, ↓ilez_t, ↓ilez_f, ↓im1, gZ_0, gZ_1, e10, e00, ↓reduceIte, Sum.elim_inl, Sum.elim_inr, nI_1, nI_add, Int32.sub_zero, f_c7_has, qc ha, qi0 ha, qs0 ha, qr1 ha, qr2 ha, qr3 ha, qr4 ha, qr5 ha, qi6 ha, qs6 ha, qi7 ha, qs7 ha, h.1, hx, h0]
theorem C_waters (ha : SA a) (h : CV S a v) (h8 : vN v ≤ 8) (hN : 900 ≤ N) : f_c7_waterOfAll N a (mk L S) = some (nI (sumN (vT v) (vN v))) := by
  have e : lp_c7_waterOfAll_4 N a (mk L S) N (nI 0) (nI 0) = some (nI (sumN (vT v) (vN v))) := by
    refine lp_seq (Lp := fun k (s : Int32) i => lp_c7_waterOfAll_4 N a (mk L S) k s (nI i)) (sp := fun i => nI (sumN (vT v) i)) (n := vN v) (fun k i hi => ?_) (fun k => ?_) (by omega)
    · show lp_c7_waterOfAll_4 N a (mk L S) (k + 1) _ _ = _
      rw [lp_c7_waterOfAll_4.eq_2]
      simp (disch := omega) only [Option.bind_some, ↓ile_t, ↓ile_f, ↓ilt_t, ↓ilt_f, ↓ieq_t, ↓ieq_f, ↓iz_t, ↓iz_f, ↓iltz, ↓izle, ↓ilez_t, ↓ilez_f, ↓im1, gZ_0, gZ_1, e10, e00, ↓reduceIte, Sum.elim_inl, Sum.elim_inr, nI_1, nI_add, Int32.sub_zero, qc ha, qi0 ha, qs0 ha, qr1 ha, qr2 ha, qr3 ha, qr4 ha, qr5 ha, qi6 ha, qs6 ha, qi7 ha, qs7 ha, h.1, qg5 ha, (h.2.2.2 i hi).2.2.2.2, sumN]
    · show lp_c7_waterOfAll_4 N a (mk L S) (k + 1) _ _ = _
      rw [lp_c7_waterOfAll_4.eq_2]
      simp (disch := omega) only [Option.bind_some, ↓ile_t, ↓ile_f, ↓ilt_t, ↓ilt_f, ↓ieq_t, ↓ieq_f, ↓iz_t, ↓iz_f, ↓iltz, ↓izle, ↓ilez_t, ↓ilez_f, ↓im1, gZ_0, gZ_1, e10, e00, ↓reduceIte, Sum.elim_inl, Sum.elim_inr, nI_1, nI_add, Int32.sub_zero, qc ha, qi0 ha, qs0 ha, qr1 ha, qr2 ha, qr3 ha, qr4 ha, qr5 ha, qi6 ha, qs6 ha, qi7 ha, qs7 ha, h.1]
  unfold f_c7_waterOfAll
  rw [qc ha, Option.bind_some, k0, e, Option.bind_some]
end CLEAF
