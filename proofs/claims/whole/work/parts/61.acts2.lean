/-! CALLS that do one thing to a well, the others -/
section ACTS2
variable {L N : Nat} {S T : gS} {c : Nat} {A : pA}
theorem vSetA_id {v : pV} {i : Nat} (h : vA v i = 0) : vSetA v i 0 = v := by
  have e : nup (vA v) i 0 = vA v := by
    funext j
    unfold nup
    by_cases q : j = i
    · rw [if_pos q, q, h]
    · rw [if_neg q]
  unfold vSetA
  rw [e]
  rfl
theorem rng {y : Int32} {lo hi : Nat} (h1 : ¬ y < nI lo) (h2 : ¬ nI hi < y) (hl : lo < 2147483648) (hh : hi < 2147483648) : ∃ d, y = nI d ∧ lo ≤ d ∧ d ≤ hi := by
  rw [i32_lt, nI_toInt hl] at h1
  rw [i32_lt, nI_toInt hh] at h2
  obtain ⟨d, hd, rfl⟩ := nI_of (x := y) (fun z => by rw [i32_lt, i32_0] at z; omega)
  rw [nI_toInt hd] at h1 h2
  exact ⟨d, rfl, by omega, by omega⟩
-- clears
theorem A_clears {p : Int32} (w : WA A) (q : CA S A) (m : MA S A c) (hN : 900 ≤ N) : Agr L S c (f_c10_clears N 10 p) (f_c11_clears N 144 p) := by
  obtain ⟨g, v, x, l, u, n, k, h⟩ := A
  obtain ⟨S1, e1, q1, b1, f1⟩ := C_before (L := L) (N := N) q w hN
  have h8 := w.2.1.1
  change vN v ≤ 8 at h8
  have hV1 : CV S1 19 v := q1.2.1
  rcases in_or (n := vN v) p (by omega) with ⟨i, hi, rfl⟩ | hp
  · have hA := (w.2.1.2.2 i hi).2.2.2.2.1
    change vA v i ≤ 9 at hA
    obtain ⟨S2, e2, f2, v2⟩ := C_takeAnds (L := L) (N := N) SA_19 hV1 w.2.1 hi
    by_cases h0 : vA v i = 0
    · rw [if_pos h0] at e2
      rw [vSetA_id h0] at v2
      have q2 : CA S2 (g, v, x, l, u, n, k, h) := q1.now (f2.mono (fun y hy => by show _ ∨ _; omega)) v2
      refine AgrI (r := -2) (c' := c) m (S1 := S2) ?_ (lowTr f1 (f2.low (fun y hy => by omega))) q2 w (by omega) (fun T mt => ⟨stI T 144 10 0, ?_, thrH, mt.thr⟩)
      · simp (disch := omega) only [Option.bind_some, ↓ile_t, ↓ile_f, ↓ilt_t, ↓ilt_f, ↓ieq_t, ↓ieq_f, ↓iz_t, ↓iz_f, ↓iltz, ↓izle, ↓ilez_t, ↓ilez_f, ↓im1, ile_t, ile_f, ilt_t, ilt_f, ieq_t, ieq_f, iz_t, iz_f, iltz, izle, ilez_t, ilez_f, im1, gZ_0, gZ_1, e10, e00, ↓reduceIte, Sum.elim_inl, Sum.elim_inr, nI_1, nI_add, Int32.sub_zero, f_c10_clears, zc10, zr10_0, zr10_1, zr10_2, zr10_3, zr10_4, zr10_5, zr10_6, zr10_7, zr10_8, zr10_9, zr10_10, zs10_11, zs10_12, e1, e2, C_pid n2lt0]
      · have t1 := mt.thr
        simp (disch := omega) only [Option.bind_some, ↓ile_t, ↓ile_f, ↓ilt_t, ↓ilt_f, ↓ieq_t, ↓ieq_f, ↓iz_t, ↓iz_f, ↓iltz, ↓izle, ↓ilez_t, ↓ilez_f, ↓im1, ile_t, ile_f, ilt_t, ilt_f, ieq_t, ieq_f, iz_t, iz_f, iltz, izle, ilez_t, ilez_f, im1, gZ_0, gZ_1, e10, e00, ↓reduceIte, Sum.elim_inl, Sum.elim_inr, nI_1, nI_add, Int32.sub_zero, f_c11_clears, zc144, zs144_10, zr144_0, f_c11_refusesClearing, M_isWell_t t1.2.1 h8 hi, zg145, k24, (t1.2.1.2.2.2 i hi).2.2.2.1, h0]
        rw [if_neg n2le0]
    · rw [if_neg h0] at e2
      have hv' : WV g (vSetA v i 0) := w.2.1.setA (by omega)
      obtain ⟨S3, e3, q3, f3⟩ := C_done (L := L) (N := N) q1 w b1 (f2.mono (fun y hy => by omega)) v2 (r := nI (vA v i)) (nI_pos (by omega)) hN
      refine AgrI (r := nI (vA v i)) (c' := c) m (S1 := S3) ?_ (lowTr f1 f3) q3 (w.act hv') (by omega) (fun T mt => ?_)
      · simp (disch := omega) only [Option.bind_some, ↓ile_t, ↓ile_f, ↓ilt_t, ↓ilt_f, ↓ieq_t, ↓ieq_f, ↓iz_t, ↓iz_f, ↓iltz, ↓izle, ↓ilez_t, ↓ilez_f, ↓im1, ile_t, ile_f, ilt_t, ilt_f, ieq_t, ieq_f, iz_t, iz_f, iltz, izle, ilez_t, ilez_f, im1, gZ_0, gZ_1, e10, e00, ↓reduceIte, Sum.elim_inl, Sum.elim_inr, nI_1, nI_add, Int32.sub_zero, f_c10_clears, zc10, zr10_0, zr10_1, zr10_2, zr10_3, zr10_4, zr10_5, zr10_6, zr10_7, zr10_8, zr10_9, zr10_10, zs10_11, zs10_12, e1, e2, e3]
      · have t1 := mt.thr
        obtain ⟨T1, g1, g2, g3⟩ := M_rem (L := L) (N := N) t1 w hN
        have eA : T1.1 145 (24 + i) = nI (vA v i) := (g2.2.1.2.2.2 i hi).2.2.2.1
        refine ⟨stI T1 145 (24 + i) (nI 0), ?_, highTr thrH (highTr g3 (Fr.stI (by unfold highM; omega))), M_now (r := 0) g2 (MW_A g2.2.1 h8 (by omega))⟩
        simp (disch := omega) only [Option.bind_some, ↓ile_t, ↓ile_f, ↓ilt_t, ↓ilt_f, ↓ieq_t, ↓ieq_f, ↓iz_t, ↓iz_f, ↓iltz, ↓izle, ↓ilez_t, ↓ilez_f, ↓im1, ile_t, ile_f, ilt_t, ilt_f, ieq_t, ieq_f, iz_t, iz_f, iltz, izle, ilez_t, ilez_f, im1, gZ_0, gZ_1, e10, e00, ↓reduceIte, Sum.elim_inl, Sum.elim_inr, nI_1, nI_add, Int32.sub_zero, f_c11_clears, zc144, zs144_10, zr144_0, f_c11_refusesClearing, M_isWell_t t1.2.1 h8 hi, zg145, k24, (t1.2.1.2.2.2 i hi).2.2.2.1]
        rw [if_pos z0le0]
        simp (disch := omega) only [Option.bind_some, ↓ile_t, ↓ile_f, ↓ilt_t, ↓ilt_f, ↓ieq_t, ↓ieq_f, ↓iz_t, ↓iz_f, ↓iltz, ↓izle, ↓ilez_t, ↓ilez_f, ↓im1, ile_t, ile_f, ilt_t, ilt_f, ieq_t, ieq_f, iz_t, iz_f, iltz, izle, ilez_t, ilez_f, im1, gZ_0, gZ_1, e10, e00, ↓reduceIte, Sum.elim_inl, Sum.elim_inr, nI_1, nI_add, Int32.sub_zero, g1, zr144_0, zg145, zp145, eA, nI_0]
  · refine AgrI (r := -1) (A' := (g, v, x, l, u, n, k, h)) (c' := c) m (S1 := S1) ?_ f1 q1 w (by omega) (fun T mt => ⟨stI T 144 10 0, ?_, thrH, mt.thr⟩)
    · simp (disch := omega) only [Option.bind_some, ↓ile_t, ↓ile_f, ↓ilt_t, ↓ilt_f, ↓ieq_t, ↓ieq_f, ↓iz_t, ↓iz_f, ↓iltz, ↓izle, ↓ilez_t, ↓ilez_f, ↓im1, ile_t, ile_f, ilt_t, ilt_f, ieq_t, ieq_f, iz_t, iz_f, iltz, izle, ilez_t, ilez_f, im1, gZ_0, gZ_1, e10, e00, ↓reduceIte, Sum.elim_inl, Sum.elim_inr, nI_1, nI_add, Int32.sub_zero, f_c10_clears, zc10, zr10_0, zr10_1, zr10_2, zr10_3, zr10_4, zr10_5, zr10_6, zr10_7, zr10_8, zr10_9, zr10_10, zs10_11, zs10_12, e1, C_takeAnds_no (L := L) (N := N) SA_19 hV1 hp, C_pid n1lt0]
    · have t1 := mt.thr
      simp (disch := omega) only [Option.bind_some, ↓ile_t, ↓ile_f, ↓ilt_t, ↓ilt_f, ↓ieq_t, ↓ieq_f, ↓iz_t, ↓iz_f, ↓iltz, ↓izle, ↓ilez_t, ↓ilez_f, ↓im1, ile_t, ile_f, ilt_t, ilt_f, ieq_t, ieq_f, iz_t, iz_f, iltz, izle, ilez_t, ilez_f, im1, gZ_0, gZ_1, e10, e00, ↓reduceIte, Sum.elim_inl, Sum.elim_inr, nI_1, nI_add, Int32.sub_zero, f_c11_clears, zc144, zs144_10, zr144_0, f_c11_refusesClearing, M_isWell_f t1.2.1 h8 hp, eq_self_iff_true]
      rw [if_neg n1le0]
-- draws
theorem A_draws {p y : Int32} (w : WA A) (q : CA S A) (m : MA S A c) (hN : 900 ≤ N) : Agr L S c (f_c10_draws N 10 p y) (f_c11_draws N 144 p y) := by
  obtain ⟨g, v, x, l, u, n, k, h⟩ := A
  obtain ⟨S1, e1, q1, b1, f1⟩ := C_before (L := L) (N := N) q w hN
  have h8 := w.2.1.1
  change vN v ≤ 8 at h8
  have hV1 : CV S1 19 v := q1.2.1
  rcases in_or (n := vN v) p (by omega) with ⟨i, hi, rfl⟩ | hp
  · have hT := (w.2.1.2.2 i hi).2.2.2.2.2
    change vT v i ≤ 99 at hT
    by_cases hy : y < 1 ∨ (¬ y < 1 ∧ ¬ y ≤ 99)
    · refine AgrI (r := -1) (A' := (g, v, x, l, u, n, k, h)) (c' := c) m (S1 := S1) ?_ f1 q1 w (by omega) (fun T mt => ⟨stI T 144 10 0, ?_, thrH, mt.thr⟩)
      · simp (disch := omega) only [Option.bind_some, ↓ile_t, ↓ile_f, ↓ilt_t, ↓ilt_f, ↓ieq_t, ↓ieq_f, ↓iz_t, ↓iz_f, ↓iltz, ↓izle, ↓ilez_t, ↓ilez_f, ↓im1, ile_t, ile_f, ilt_t, ilt_f, ieq_t, ieq_f, iz_t, iz_f, iltz, izle, ilez_t, ilez_f, im1, gZ_0, gZ_1, e10, e00, ↓reduceIte, Sum.elim_inl, Sum.elim_inr, nI_1, nI_add, Int32.sub_zero, f_c10_draws, zc10, zr10_0, zr10_1, zr10_2, zr10_3, zr10_4, zr10_5, zr10_6, zr10_7, zr10_8, zr10_9, zr10_10, zs10_11, zs10_12, e1, C_drawFrom_no2 (L := L) (N := N) SA_19 hV1 h8 hi hy, C_pid n1lt0]
      · have t1 := mt.thr
        have ei : ∀ h : gH, f_c11_in N y 1 99 h = some 0 := fun h => M_in_n (hy.elim Or.inl (fun z => Or.inr (by
          rw [i32_lt]
          have := z.2
          rw [i32_le] at this
          omega)))
        simp (disch := omega) only [Option.bind_some, ↓ile_t, ↓ile_f, ↓ilt_t, ↓ilt_f, ↓ieq_t, ↓ieq_f, ↓iz_t, ↓iz_f, ↓iltz, ↓izle, ↓ilez_t, ↓ilez_f, ↓im1, ile_t, ile_f, ilt_t, ilt_f, ieq_t, ieq_f, iz_t, iz_f, iltz, izle, ilez_t, ilez_f, im1, gZ_0, gZ_1, e10, e00, ↓reduceIte, Sum.elim_inl, Sum.elim_inr, nI_1, nI_add, Int32.sub_zero, f_c11_draws, zc144, zs144_10, zr144_0, f_c11_refusesDraught, M_isWell_t t1.2.1 h8 hi, ei, eq_self_iff_true]
        rw [if_neg n1le0]
    · have hy1 : ¬ y < 1 := fun z => hy (Or.inl z)
      have hy2 : y ≤ 99 := Classical.byContradiction (fun z => hy (Or.inr ⟨hy1, z⟩))
      obtain ⟨d, rfl, d1, d2⟩ := rng (y := y) (lo := 1) (hi := 99) hy1 (fun z => by rw [i32_le] at hy2; rw [i32_lt] at z; exact absurd (Int.lt_of_lt_of_le z hy2) (Int.lt_irrefl _)) (by omega) (by omega)
      have ei : ∀ h : gH, f_c11_in N (nI d) 1 99 h = some 1 := fun h => M_in_t hy1 (nI_nlt (a := 99) d2 (by omega))
      by_cases hs : vT v i < d
      · refine AgrI (r := -2) (A' := (g, v, x, l, u, n, k, h)) (c' := c) m (S1 := S1) ?_ f1 q1 w (by omega) (fun T mt => ⟨stI T 144 10 0, ?_, thrH, mt.thr⟩)
        · simp (disch := omega) only [Option.bind_some, ↓ile_t, ↓ile_f, ↓ilt_t, ↓ilt_f, ↓ieq_t, ↓ieq_f, ↓iz_t, ↓iz_f, ↓iltz, ↓izle, ↓ilez_t, ↓ilez_f, ↓im1, ile_t, ile_f, ilt_t, ilt_f, ieq_t, ieq_f, iz_t, iz_f, iltz, izle, ilez_t, ilez_f, im1, gZ_0, gZ_1, e10, e00, ↓reduceIte, Sum.elim_inl, Sum.elim_inr, nI_1, nI_add, Int32.sub_zero, f_c10_draws, zc10, zr10_0, zr10_1, zr10_2, zr10_3, zr10_4, zr10_5, zr10_6, zr10_7, zr10_8, zr10_9, zr10_10, zs10_11, zs10_12, e1, C_drawFrom_few (L := L) (N := N) SA_19 hV1 w.2.1 hi d1 d2 hs, C_pid n2lt0]
        · have t1 := mt.thr
          simp (disch := omega) only [Option.bind_some, ↓ile_t, ↓ile_f, ↓ilt_t, ↓ilt_f, ↓ieq_t, ↓ieq_f, ↓iz_t, ↓iz_f, ↓iltz, ↓izle, ↓ilez_t, ↓ilez_f, ↓im1, ile_t, ile_f, ilt_t, ilt_f, ieq_t, ieq_f, iz_t, iz_f, iltz, izle, ilez_t, ilez_f, im1, gZ_0, gZ_1, e10, e00, ↓reduceIte, Sum.elim_inl, Sum.elim_inr, nI_1, nI_add, Int32.sub_zero, f_c11_draws, zc144, zs144_10, zr144_0, f_c11_refusesDraught, M_isWell_t t1.2.1 h8 hi, ei, zg145, k32, (t1.2.1.2.2.2 i hi).2.2.2.2]
          rw [if_neg n2le0]
      · obtain ⟨S2, e2, f2, v2⟩ := C_drawFrom_ok (L := L) (N := N) SA_19 hV1 w.2.1 hi d1 d2 (by omega)
        have hv' : WV g (vSetT v i (vT v i - d)) := w.2.1.setT (by omega)
        obtain ⟨S3, e3, q3, f3⟩ := C_done (L := L) (N := N) q1 w b1 (f2.mono (fun y hy => by omega)) v2 (r := nI (vT v i - d)) (nI_pos (by omega)) hN
        refine AgrI (r := nI (vT v i - d)) (c' := c) m (S1 := S3) ?_ (lowTr f1 f3) q3 (w.act hv') (by omega) (fun T mt => ?_)
        · simp (disch := omega) only [Option.bind_some, ↓ile_t, ↓ile_f, ↓ilt_t, ↓ilt_f, ↓ieq_t, ↓ieq_f, ↓iz_t, ↓iz_f, ↓iltz, ↓izle, ↓ilez_t, ↓ilez_f, ↓im1, ile_t, ile_f, ilt_t, ilt_f, ieq_t, ieq_f, iz_t, iz_f, iltz, izle, ilez_t, ilez_f, im1, gZ_0, gZ_1, e10, e00, ↓reduceIte, Sum.elim_inl, Sum.elim_inr, nI_1, nI_add, Int32.sub_zero, f_c10_draws, zc10, zr10_0, zr10_1, zr10_2, zr10_3, zr10_4, zr10_5, zr10_6, zr10_7, zr10_8, zr10_9, zr10_10, zs10_11, zs10_12, e1, e2, e3]
        · have t1 := mt.thr
          obtain ⟨T1, g1, g2, g3⟩ := M_rem (L := L) (N := N) t1 w hN
          have eA : T1.1 145 (32 + i) = nI (vT v i) := (g2.2.1.2.2.2 i hi).2.2.2.2
          refine ⟨stI T1 145 (32 + i) (nI (vT v i - d)), ?_, highTr thrH (highTr g3 (Fr.stI (by unfold highM; omega))), M_now (r := 0) g2 (MW_T g2.2.1 h8 (by omega))⟩
          simp (disch := omega) only [Option.bind_some, ↓ile_t, ↓ile_f, ↓ilt_t, ↓ilt_f, ↓ieq_t, ↓ieq_f, ↓iz_t, ↓iz_f, ↓iltz, ↓izle, ↓ilez_t, ↓ilez_f, ↓im1, ile_t, ile_f, ilt_t, ilt_f, ieq_t, ieq_f, iz_t, iz_f, iltz, izle, ilez_t, ilez_f, im1, gZ_0, gZ_1, e10, e00, ↓reduceIte, Sum.elim_inl, Sum.elim_inr, nI_1, nI_add, Int32.sub_zero, f_c11_draws, zc144, zs144_10, zr144_0, f_c11_refusesDraught, M_isWell_t t1.2.1 h8 hi, ei, zg145, k32, (t1.2.1.2.2.2 i hi).2.2.2.2]
          rw [if_pos z0le0]
          simp (disch := omega) only [Option.bind_some, ↓ile_t, ↓ile_f, ↓ilt_t, ↓ilt_f, ↓ieq_t, ↓ieq_f, ↓iz_t, ↓iz_f, ↓iltz, ↓izle, ↓ilez_t, ↓ilez_f, ↓im1, ile_t, ile_f, ilt_t, ilt_f, ieq_t, ieq_f, iz_t, iz_f, iltz, izle, ilez_t, ilez_f, im1, gZ_0, gZ_1, e10, e00, ↓reduceIte, Sum.elim_inl, Sum.elim_inr, nI_1, nI_add, Int32.sub_zero, g1, zr144_0, zg145, zp145, eA, nI_sub, rdI_eq]
  · refine AgrI (r := -1) (A' := (g, v, x, l, u, n, k, h)) (c' := c) m (S1 := S1) ?_ f1 q1 w (by omega) (fun T mt => ⟨stI T 144 10 0, ?_, thrH, mt.thr⟩)
    · simp (disch := omega) only [Option.bind_some, ↓ile_t, ↓ile_f, ↓ilt_t, ↓ilt_f, ↓ieq_t, ↓ieq_f, ↓iz_t, ↓iz_f, ↓iltz, ↓izle, ↓ilez_t, ↓ilez_f, ↓im1, ile_t, ile_f, ilt_t, ilt_f, ieq_t, ieq_f, iz_t, iz_f, iltz, izle, ilez_t, ilez_f, im1, gZ_0, gZ_1, e10, e00, ↓reduceIte, Sum.elim_inl, Sum.elim_inr, nI_1, nI_add, Int32.sub_zero, f_c10_draws, zc10, zr10_0, zr10_1, zr10_2, zr10_3, zr10_4, zr10_5, zr10_6, zr10_7, zr10_8, zr10_9, zr10_10, zs10_11, zs10_12, e1, C_drawFrom_no (L := L) (N := N) SA_19 hV1 hp, C_pid n1lt0]
    · have t1 := mt.thr
      simp (disch := omega) only [Option.bind_some, ↓ile_t, ↓ile_f, ↓ilt_t, ↓ilt_f, ↓ieq_t, ↓ieq_f, ↓iz_t, ↓iz_f, ↓iltz, ↓izle, ↓ilez_t, ↓ilez_f, ↓im1, ile_t, ile_f, ilt_t, ilt_f, ieq_t, ieq_f, iz_t, iz_f, iltz, izle, ilez_t, ilez_f, im1, gZ_0, gZ_1, e10, e00, ↓reduceIte, Sum.elim_inl, Sum.elim_inr, nI_1, nI_add, Int32.sub_zero, f_c11_draws, zc144, zs144_10, zr144_0, f_c11_refusesDraught, M_isWell_f t1.2.1 h8 hp, eq_self_iff_true]
      rw [if_neg n1le0]
-- repents
theorem A_repents {p : Int32} (w : WA A) (q : CA S A) (m : MA S A c) (hN : 900 ≤ N) : Agr L S c (f_c10_repents N 10 p) (f_c11_repents N 144 p) := by
  obtain ⟨g, v, x, l, u, n, k, h⟩ := A
  obtain ⟨S1, e1, q1, b1, f1⟩ := C_before (L := L) (N := N) q w hN
  have h8 := w.2.1.1
  change vN v ≤ 8 at h8
  have hV1 : CV S1 19 v := q1.2.1
  rcases in_or (n := vN v) p (by omega) with ⟨i, hi, rfl⟩ | hp
  · have hM := (w.2.1.2.2 i hi).2.2.2.1
    change vM v i ≤ 1 at hM
    have hv' : WV g (vSetM v i (1 - vM v i)) := w.2.1.setM (by omega)
    obtain ⟨S2, e2, f2, v2⟩ := C_turn (L := L) (N := N) SA_19 hV1 w.2.1 hi
    have hd : sDepth (vSetM v i (1 - vM v i)) i < 100 := by
      unfold sDepth
      split <;> omega
    obtain ⟨S3, e3, q3, f3⟩ := C_done (L := L) (N := N) q1 w b1 (f2.mono (fun y hy => by omega)) v2 (r := nI (sDepth (vSetM v i (1 - vM v i)) i)) (nI_pos (by omega)) hN
    refine AgrI (r := nI (sDepth (vSetM v i (1 - vM v i)) i)) (c' := c) m (S1 := S3) ?_ (lowTr f1 f3) q3 (w.act hv') (by omega) (fun T mt => ?_)
    · simp (disch := omega) only [Option.bind_some, ↓ile_t, ↓ile_f, ↓ilt_t, ↓ilt_f, ↓ieq_t, ↓ieq_f, ↓iz_t, ↓iz_f, ↓iltz, ↓izle, ↓ilez_t, ↓ilez_f, ↓im1, ile_t, ile_f, ilt_t, ilt_f, ieq_t, ieq_f, iz_t, iz_f, iltz, izle, ilez_t, ilez_f, im1, gZ_0, gZ_1, e10, e00, ↓reduceIte, Sum.elim_inl, Sum.elim_inr, nI_1, nI_add, Int32.sub_zero, f_c10_repents, zc10, zr10_0, zr10_1, zr10_2, zr10_3, zr10_4, zr10_5, zr10_6, zr10_7, zr10_8, zr10_9, zr10_10, zs10_11, zs10_12, e1, e2, e3]
    · have t1 := mt.thr
      obtain ⟨T1, g1, g2, g3⟩ := M_rem (L := L) (N := N) t1 w hN
      have eA : T1.1 145 (16 + i) = nI (vM v i) := (g2.2.1.2.2.2 i hi).2.2.1
      have hW := MW_M (w := i) (x := 1 - vM v i) g2.2.1 h8 (by omega)
      have e1m : (1 : Int32) - nI (vM v i) = nI (1 - vM v i) := nI_sub (a := 1) hM
      refine ⟨stI T1 145 (16 + i) (nI (1 - vM v i)), ?_, highTr thrH (highTr g3 (Fr.stI (by unfold highM; omega))), M_now (r := 0) g2 hW⟩
      have hD := M_depth (L := L) (N := N) MA_145 hW hv' hi
      simp (disch := omega) only [Option.bind_some, ↓ile_t, ↓ile_f, ↓ilt_t, ↓ilt_f, ↓ieq_t, ↓ieq_f, ↓iz_t, ↓iz_f, ↓iltz, ↓izle, ↓ilez_t, ↓ilez_f, ↓im1, ile_t, ile_f, ilt_t, ilt_f, ieq_t, ieq_f, iz_t, iz_f, iltz, izle, ilez_t, ilez_f, im1, gZ_0, gZ_1, e10, e00, ↓reduceIte, Sum.elim_inl, Sum.elim_inr, nI_1, nI_add, Int32.sub_zero, f_c11_repents, zc144, zs144_10, zr144_0, M_isWell_t t1.2.1 h8 hi, g1, zg145, k16, zp145, eA, e1m, hD]
  · refine AgrI (r := -1) (A' := (g, v, x, l, u, n, k, h)) (c' := c) m (S1 := S1) ?_ f1 q1 w (by omega) (fun T mt => ⟨stI T 144 10 0, ?_, thrH, mt.thr⟩)
    · simp (disch := omega) only [Option.bind_some, ↓ile_t, ↓ile_f, ↓ilt_t, ↓ilt_f, ↓ieq_t, ↓ieq_f, ↓iz_t, ↓iz_f, ↓iltz, ↓izle, ↓ilez_t, ↓ilez_f, ↓im1, ile_t, ile_f, ilt_t, ilt_f, ieq_t, ieq_f, iz_t, iz_f, iltz, izle, ilez_t, ilez_f, im1, gZ_0, gZ_1, e10, e00, ↓reduceIte, Sum.elim_inl, Sum.elim_inr, nI_1, nI_add, Int32.sub_zero, f_c10_repents, zc10, zr10_0, zr10_1, zr10_2, zr10_3, zr10_4, zr10_5, zr10_6, zr10_7, zr10_8, zr10_9, zr10_10, zs10_11, zs10_12, e1, C_turn_no (L := L) (N := N) SA_19 hV1 hp, C_pid n1lt0]
    · have t1 := mt.thr
      simp (disch := omega) only [Option.bind_some, ↓ile_t, ↓ile_f, ↓ilt_t, ↓ilt_f, ↓ieq_t, ↓ieq_f, ↓iz_t, ↓iz_f, ↓iltz, ↓izle, ↓ilez_t, ↓ilez_f, ↓im1, ile_t, ile_f, ilt_t, ilt_f, ieq_t, ieq_f, iz_t, iz_f, iltz, izle, ilez_t, ilez_f, im1, gZ_0, gZ_1, e10, e00, ↓reduceIte, Sum.elim_inl, Sum.elim_inr, nI_1, nI_add, Int32.sub_zero, f_c11_repents, zc144, zs144_10, zr144_0, M_isWell_f t1.2.1 h8 hp, eq_self_iff_true]
/-- the reference's refusal of a saying -/
theorem M_refuse {r : Nat} {f w m : Int32} {g : pG} {v : pV} (hr : kA r = some (0, 43)) (hm : MW T r v) (hM : MG T g) (hg : WG g) (hv : WV g v) (hN : 900 ≤ N) :
    ((f < 0 ∨ (¬ f < 0 ∧ nI (gRw g * gCo g) ≤ f)) ∨ (w < 1 ∨ 9 < w) ∨ (m < 0 ∨ 1 < m)) ∧ f_c11_refusesSaying N 144 r f w m (mk L T) = some (-1) ∨
    ∃ f' w' m', f = nI f' ∧ w = nI w' ∧ m = nI m' ∧ f' < gRw g * gCo g ∧ 1 ≤ w' ∧ w' ≤ 9 ∧ m' ≤ 1 ∧ f_c11_refusesSaying N 144 r f w m (mk L T) = some (match sOn v f' with | some _ => -2 | none => if vN v = 8 then -3 else 0) := by
  have h8 := hv.1
  have h36 := hg.f
  rcases in_or (n := gRw g * gCo g) f (by omega) with ⟨f', hf, rfl⟩ | hf
  · have e1 := M_isField_t (L := L) (N := N) hM hg hf
    by_cases hw : w < 1 ∨ 9 < w
    · refine Or.inl ⟨Or.inr (Or.inl hw), ?_⟩
      simp (disch := omega) only [Option.bind_some, ↓ile_t, ↓ile_f, ↓ilt_t, ↓ilt_f, ↓ieq_t, ↓ieq_f, ↓iz_t, ↓iz_f, ↓iltz, ↓izle, ↓ilez_t, ↓ilez_f, ↓im1, ile_t, ile_f, ilt_t, ilt_f, ieq_t, ieq_f, iz_t, iz_f, iltz, izle, ilez_t, ilez_f, im1, gZ_0, gZ_1, e10, e00, ↓reduceIte, Sum.elim_inl, Sum.elim_inr, nI_1, nI_add, Int32.sub_zero, f_c11_refusesSaying, zc144, e1, M_in_n (N := N) (h := mk L T) hw, eq_self_iff_true]
    · have hw1 : ¬ w < 1 := fun z => hw (Or.inl z)
      have hw9 : ¬ 9 < w := fun z => hw (Or.inr z)
      obtain ⟨w', rfl, d1, d2⟩ := rng (y := w) (lo := 1) (hi := 9) hw1 hw9 (by omega) (by omega)
      have e2 := M_in_t (N := N) (h := mk L T) hw1 hw9
      by_cases hm0 : m < 0 ∨ 1 < m
      · refine Or.inl ⟨Or.inr (Or.inr hm0), ?_⟩
        simp (disch := omega) only [Option.bind_some, ↓ile_t, ↓ile_f, ↓ilt_t, ↓ilt_f, ↓ieq_t, ↓ieq_f, ↓iz_t, ↓iz_f, ↓iltz, ↓izle, ↓ilez_t, ↓ilez_f, ↓im1, ile_t, ile_f, ilt_t, ilt_f, ieq_t, ieq_f, iz_t, iz_f, iltz, izle, ilez_t, ilez_f, im1, gZ_0, gZ_1, e10, e00, ↓reduceIte, Sum.elim_inl, Sum.elim_inr, nI_1, nI_add, Int32.sub_zero, f_c11_refusesSaying, zc144, e1, e2, M_in_n (N := N) (h := mk L T) hm0, eq_self_iff_true]
      · have hm1 : ¬ m < 0 := fun z => hm0 (Or.inl z)
        have hm9 : ¬ 1 < m := fun z => hm0 (Or.inr z)
        obtain ⟨m', rfl, -, d3⟩ := rng (y := m) (lo := 0) (hi := 1) hm1 hm9 (by omega) (by omega)
        have e3 := M_in_t (N := N) (h := mk L T) hm1 hm9
        refine Or.inr ⟨f', w', m', rfl, rfl, rfl, hf, d1, d2, d3, ?_⟩
        have e4 := M_wellOn (L := L) (N := N) (f := f') hr hm hg hv hN (by omega)
        have e5 : ga 0 (mk L T) r 40 = some (nI (vN v)) := by
          have := mg (L := L) (S := T) (j := 40) hr (by omega)
          rw [hm.1] at this
          exact this
        cases ho : sOn v f' with
        | some i =>
          have hi := fstN_some _ _ _ ho
          rw [ho] at e4
          have m1 : ¬ nI i = -1 := nI_m1 (by omega)
          simp (disch := omega) only [Option.bind_some, ↓ile_t, ↓ile_f, ↓ilt_t, ↓ilt_f, ↓ieq_t, ↓ieq_f, ↓iz_t, ↓iz_f, ↓iltz, ↓izle, ↓ilez_t, ↓ilez_f, ↓im1, ile_t, ile_f, ilt_t, ilt_f, ieq_t, ieq_f, iz_t, iz_f, iltz, izle, ilez_t, ilez_f, im1, gZ_0, gZ_1, e10, e00, ↓reduceIte, Sum.elim_inl, Sum.elim_inr, nI_1, nI_add, Int32.sub_zero, f_c11_refusesSaying, zc144, e1, e2, e3, e4, oI, if_neg m1]
        | none =>
          rw [ho] at e4
          have m1 : ((-1 : Int32) = -1) = True := eq_self _
          by_cases z : vN v = 8
          · have p8 : nI (vN v) = 8 := by rw [z]; rfl
            simp (disch := omega) only [Option.bind_some, ↓ile_t, ↓ile_f, ↓ilt_t, ↓ilt_f, ↓ieq_t, ↓ieq_f, ↓iz_t, ↓iz_f, ↓iltz, ↓izle, ↓ilez_t, ↓ilez_f, ↓im1, ile_t, ile_f, ilt_t, ilt_f, ieq_t, ieq_f, iz_t, iz_f, iltz, izle, ilez_t, ilez_f, im1, gZ_0, gZ_1, e10, e00, ↓reduceIte, Sum.elim_inl, Sum.elim_inr, nI_1, nI_add, Int32.sub_zero, f_c11_refusesSaying, zc144, e1, e2, e3, e4, oI, m1, e5, if_pos p8, if_pos z]
          · have p8 : ¬ nI (vN v) = 8 := fun e => z ((nI_eq (b := 8) (by omega) (by omega)).mp e)
            simp (disch := omega) only [Option.bind_some, ↓ile_t, ↓ile_f, ↓ilt_t, ↓ilt_f, ↓ieq_t, ↓ieq_f, ↓iz_t, ↓iz_f, ↓iltz, ↓izle, ↓ilez_t, ↓ilez_f, ↓im1, ile_t, ile_f, ilt_t, ilt_f, ieq_t, ieq_f, iz_t, iz_f, iltz, izle, ilez_t, ilez_f, im1, gZ_0, gZ_1, e10, e00, ↓reduceIte, Sum.elim_inl, Sum.elim_inr, nI_1, nI_add, Int32.sub_zero, f_c11_refusesSaying, zc144, e1, e2, e3, e4, oI, m1, e5, if_neg p8, if_neg z]
  · refine Or.inl ⟨Or.inl hf, ?_⟩
    simp (disch := omega) only [Option.bind_some, ↓ile_t, ↓ile_f, ↓ilt_t, ↓ilt_f, ↓ieq_t, ↓ieq_f, ↓iz_t, ↓iz_f, ↓iltz, ↓izle, ↓ilez_t, ↓ilez_f, ↓im1, ile_t, ile_f, ilt_t, ilt_f, ieq_t, ieq_f, iz_t, iz_f, iltz, izle, ilez_t, ilez_f, im1, gZ_0, gZ_1, e10, e00, ↓reduceIte, Sum.elim_inl, Sum.elim_inr, nI_1, nI_add, Int32.sub_zero, f_c11_refusesSaying, zc144, M_isField_f (L := L) (N := N) hM hg hf, eq_self_iff_true]
-- says
theorem A_says {p y z : Int32} (w : WA A) (q : CA S A) (m : MA S A c) (hN : 900 ≤ N) : Agr L S c (f_c10_says N 10 p y z) (f_c11_says N 144 p y z) := by
  obtain ⟨g, v, x, l, u, n, k, h⟩ := A
  obtain ⟨S1, e1, q1, b1, f1⟩ := C_before (L := L) (N := N) q w hN
  have h8 := w.2.1.1
  change vN v ≤ 8 at h8
  have wg : WG g := w.1
  have wv : WV g v := w.2.1
  have h36 := wg.f
  have hV1 : CV S1 19 v := q1.2.1
  rcases M_refuse (L := L) (N := N) (f := p) (w := y) (m := z) (g := g) (v := v) MA_145 m.2.1 m.1 wg wv hN with ⟨hc, -⟩ | ⟨f', w', m', rfl, rfl, rfl, hf, d1, d2, d3, -⟩
  · have eM : ∀ T, MA T (g, v, x, l, u, n, k, h) c → f_c11_refusesSaying N 144 145 p y z (mk L T) = some (-1) := by
      intro T mt
      rcases M_refuse (L := L) (N := N) (f := p) (w := y) (m := z) (g := g) (v := v) MA_145 mt.2.1 mt.1 wg wv hN with ⟨-, e⟩ | ⟨f', w', m', rfl, rfl, rfl, hf, d1, d2, d3, -⟩
      · exact e
      · exfalso
        rcases hc with (hc | ⟨_, hc⟩) | (hc | hc) | (hc | hc)
        · exact nI_pos (by omega) hc
        · exact nI_ge hf (by omega) hc
        · exact nI_nlt (b := 1) (a := w') d1 (by omega) hc
        · exact nI_nlt (a := 9) (b := w') d2 (by omega) hc
        · exact nI_pos (by omega) hc
        · exact nI_nlt (a := 1) (b := m') d3 (by omega) hc
    refine AgrI (r := -1) (A' := (g, v, x, l, u, n, k, h)) (c' := c) m (S1 := S) ?_ Fr.refl q w (by omega) (fun T mt => ⟨stI T 144 10 0, ?_, thrH, mt.thr⟩)
    · by_cases c1 : p < 0 ∨ (¬ p < 0 ∧ nI (gRw g * gCo g) ≤ p)
      · simp (disch := omega) only [Option.bind_some, ↓ile_t, ↓ile_f, ↓ilt_t, ↓ilt_f, ↓ieq_t, ↓ieq_f, ↓iz_t, ↓iz_f, ↓iltz, ↓izle, ↓ilez_t, ↓ilez_f, ↓im1, ile_t, ile_f, ilt_t, ilt_f, ieq_t, ieq_f, iz_t, iz_f, iltz, izle, ilez_t, ilez_f, im1, gZ_0, gZ_1, e10, e00, ↓reduceIte, Sum.elim_inl, Sum.elim_inr, nI_1, nI_add, Int32.sub_zero, f_c10_says, zc10, zr10_0, zr10_1, zr10_2, zr10_3, zr10_4, zr10_5, zr10_6, zr10_7, zr10_8, zr10_9, zr10_10, zs10_11, zs10_12, C_hasField_f (L := L) (N := N) (g := g) q.1 c1, eq_self_iff_true]
      · have hc2 := hc.resolve_left c1
        rcases in_or (n := gRw g * gCo g) p (by omega) with ⟨f', hf, rfl⟩ | hf
        · have eF := C_hasField_t (L := L) (N := N) (g := g) q.1 wg hf
          by_cases c2 : y < 1
          · simp (disch := omega) only [Option.bind_some, ↓ile_t, ↓ile_f, ↓ilt_t, ↓ilt_f, ↓ieq_t, ↓ieq_f, ↓iz_t, ↓iz_f, ↓iltz, ↓izle, ↓ilez_t, ↓ilez_f, ↓im1, ile_t, ile_f, ilt_t, ilt_f, ieq_t, ieq_f, iz_t, iz_f, iltz, izle, ilez_t, ilez_f, im1, gZ_0, gZ_1, e10, e00, ↓reduceIte, Sum.elim_inl, Sum.elim_inr, nI_1, nI_add, Int32.sub_zero, f_c10_says, zc10, zr10_0, zr10_1, zr10_2, zr10_3, zr10_4, zr10_5, zr10_6, zr10_7, zr10_8, zr10_9, zr10_10, zs10_11, zs10_12, eF, if_pos c2]
          · by_cases c3 : 9 < y
            · simp (disch := omega) only [Option.bind_some, ↓ile_t, ↓ile_f, ↓ilt_t, ↓ilt_f, ↓ieq_t, ↓ieq_f, ↓iz_t, ↓iz_f, ↓iltz, ↓izle, ↓ilez_t, ↓ilez_f, ↓im1, ile_t, ile_f, ilt_t, ilt_f, ieq_t, ieq_f, iz_t, iz_f, iltz, izle, ilez_t, ilez_f, im1, gZ_0, gZ_1, e10, e00, ↓reduceIte, Sum.elim_inl, Sum.elim_inr, nI_1, nI_add, Int32.sub_zero, f_c10_says, zc10, zr10_0, zr10_1, zr10_2, zr10_3, zr10_4, zr10_5, zr10_6, zr10_7, zr10_8, zr10_9, zr10_10, zs10_11, zs10_12, eF, if_neg c2, if_pos c3]
            · have hc3 := hc2.resolve_left (fun z => z.elim c2 c3)
              by_cases c4 : z < 0
              · simp (disch := omega) only [Option.bind_some, ↓ile_t, ↓ile_f, ↓ilt_t, ↓ilt_f, ↓ieq_t, ↓ieq_f, ↓iz_t, ↓iz_f, ↓iltz, ↓izle, ↓ilez_t, ↓ilez_f, ↓im1, ile_t, ile_f, ilt_t, ilt_f, ieq_t, ieq_f, iz_t, iz_f, iltz, izle, ilez_t, ilez_f, im1, gZ_0, gZ_1, e10, e00, ↓reduceIte, Sum.elim_inl, Sum.elim_inr, nI_1, nI_add, Int32.sub_zero, f_c10_says, zc10, zr10_0, zr10_1, zr10_2, zr10_3, zr10_4, zr10_5, zr10_6, zr10_7, zr10_8, zr10_9, zr10_10, zs10_11, zs10_12, eF, if_neg c2, if_neg c3, if_pos c4]
              · have c5 : ¬ z ≤ 1 := by
                  have := hc3.resolve_left c4
                  rw [i32_le]
                  rw [i32_lt] at this
                  omega
                simp (disch := omega) only [Option.bind_some, ↓ile_t, ↓ile_f, ↓ilt_t, ↓ilt_f, ↓ieq_t, ↓ieq_f, ↓iz_t, ↓iz_f, ↓iltz, ↓izle, ↓ilez_t, ↓ilez_f, ↓im1, ile_t, ile_f, ilt_t, ilt_f, ieq_t, ieq_f, iz_t, iz_f, iltz, izle, ilez_t, ilez_f, im1, gZ_0, gZ_1, e10, e00, ↓reduceIte, Sum.elim_inl, Sum.elim_inr, nI_1, nI_add, Int32.sub_zero, f_c10_says, zc10, zr10_0, zr10_1, zr10_2, zr10_3, zr10_4, zr10_5, zr10_6, zr10_7, zr10_8, zr10_9, zr10_10, zs10_11, zs10_12, eF, if_neg c2, if_neg c3, if_neg c4, if_neg c5]
        · exact absurd hf c1
    · simp (disch := omega) only [Option.bind_some, ↓ile_t, ↓ile_f, ↓ilt_t, ↓ilt_f, ↓ieq_t, ↓ieq_f, ↓iz_t, ↓iz_f, ↓iltz, ↓izle, ↓ilez_t, ↓ilez_f, ↓im1, ile_t, ile_f, ilt_t, ilt_f, ieq_t, ieq_f, iz_t, iz_f, iltz, izle, ilez_t, ilez_f, im1, gZ_0, gZ_1, e10, e00, ↓reduceIte, Sum.elim_inl, Sum.elim_inr, nI_1, nI_add, Int32.sub_zero, f_c11_says, zc144, zs144_10, zr144_0, eM _ mt.thr]
      rw [if_neg n1le0]
  · have eM : ∀ T, MA T (g, v, x, l, u, n, k, h) c → f_c11_refusesSaying N 144 145 (nI f') (nI w') (nI m') (mk L T) = some (match sOn v f' with | some _ => -2 | none => if vN v = 8 then -3 else 0) := by
      intro T mt
      rcases M_refuse (L := L) (N := N) (f := nI f') (w := nI w') (m := nI m') (g := g) (v := v) MA_145 mt.2.1 mt.1 wg wv hN with ⟨hc, -⟩ | ⟨f2, w2, m2, h1, h2, h3, hf2, -, -, -, e⟩
      · exfalso
        rcases hc with (hc | ⟨_, hc⟩) | (hc | hc) | (hc | hc)
        · exact nI_pos (by omega) hc
        · exact nI_ge hf (by omega) hc
        · exact nI_nlt (b := 1) (a := w') d1 (by omega) hc
        · exact nI_nlt (a := 9) (b := w') d2 (by omega) hc
        · exact nI_pos (by omega) hc
        · exact nI_nlt (a := 1) (b := m') d3 (by omega) hc
      · have : f' = f2 := (nI_eq (by omega) (by omega)).mp h1
        subst this
        exact e
    have eF := C_hasField_t (L := L) (N := N) (g := g) q.1 wg hf
    have c2 : ¬ nI w' < 1 := nI_nlt (b := 1) d1 (by omega)
    have c3 : ¬ (9 : Int32) < nI w' := nI_nlt (a := 9) d2 (by omega)
    have c4 : ¬ nI m' < 0 := nI_pos (by omega)
    have c5 : nI m' ≤ 1 := nI_le (b := 1) d3 (by omega)
    cases ho : sOn v f' with
    | some i =>
      refine AgrI (r := -2) (A' := (g, v, x, l, u, n, k, h)) (c' := c) m (S1 := S1) ?_ f1 q1 w (by omega) (fun T mt => ⟨stI T 144 10 0, ?_, thrH, mt.thr⟩)
      · simp (disch := omega) only [Option.bind_some, ↓ile_t, ↓ile_f, ↓ilt_t, ↓ilt_f, ↓ieq_t, ↓ieq_f, ↓iz_t, ↓iz_f, ↓iltz, ↓izle, ↓ilez_t, ↓ilez_f, ↓im1, ile_t, ile_f, ilt_t, ilt_f, ieq_t, ieq_f, iz_t, iz_f, iltz, izle, ilez_t, ilez_f, im1, gZ_0, gZ_1, e10, e00, ↓reduceIte, Sum.elim_inl, Sum.elim_inr, nI_1, nI_add, Int32.sub_zero, f_c10_says, zc10, zr10_0, zr10_1, zr10_2, zr10_3, zr10_4, zr10_5, zr10_6, zr10_7, zr10_8, zr10_9, zr10_10, zs10_11, zs10_12, eF, if_neg c2, if_neg c3, if_neg c4, if_pos c5, e1, C_sayOn_on (L := L) (N := N) SA_19 hV1 wg wv hN (by omega) ho, C_pid n2lt0]
      · have := eM _ mt.thr
        rw [ho] at this
        simp (disch := omega) only [Option.bind_some, ↓ile_t, ↓ile_f, ↓ilt_t, ↓ilt_f, ↓ieq_t, ↓ieq_f, ↓iz_t, ↓iz_f, ↓iltz, ↓izle, ↓ilez_t, ↓ilez_f, ↓im1, ile_t, ile_f, ilt_t, ilt_f, ieq_t, ieq_f, iz_t, iz_f, iltz, izle, ilez_t, ilez_f, im1, gZ_0, gZ_1, e10, e00, ↓reduceIte, Sum.elim_inl, Sum.elim_inr, nI_1, nI_add, Int32.sub_zero, f_c11_says, zc144, zs144_10, zr144_0, this]
        rw [if_neg n2le0]
    | none =>
      by_cases z8 : vN v = 8
      · refine AgrI (r := -3) (A' := (g, v, x, l, u, n, k, h)) (c' := c) m (S1 := S1) ?_ f1 q1 w (by omega) (fun T mt => ⟨stI T 144 10 0, ?_, thrH, mt.thr⟩)
        · simp (disch := omega) only [Option.bind_some, ↓ile_t, ↓ile_f, ↓ilt_t, ↓ilt_f, ↓ieq_t, ↓ieq_f, ↓iz_t, ↓iz_f, ↓iltz, ↓izle, ↓ilez_t, ↓ilez_f, ↓im1, ile_t, ile_f, ilt_t, ilt_f, ieq_t, ieq_f, iz_t, iz_f, iltz, izle, ilez_t, ilez_f, im1, gZ_0, gZ_1, e10, e00, ↓reduceIte, Sum.elim_inl, Sum.elim_inr, nI_1, nI_add, Int32.sub_zero, f_c10_says, zc10, zr10_0, zr10_1, zr10_2, zr10_3, zr10_4, zr10_5, zr10_6, zr10_7, zr10_8, zr10_9, zr10_10, zs10_11, zs10_12, eF, if_neg c2, if_neg c3, if_neg c4, if_pos c5, e1, C_sayOn_full (L := L) (N := N) SA_19 hV1 wg wv hN (by omega) ho z8, C_pid n3lt0]
        · have := eM _ mt.thr
          rw [ho] at this
          dsimp only at this
          rw [if_pos z8] at this
          simp (disch := omega) only [Option.bind_some, ↓ile_t, ↓ile_f, ↓ilt_t, ↓ilt_f, ↓ieq_t, ↓ieq_f, ↓iz_t, ↓iz_f, ↓iltz, ↓izle, ↓ilez_t, ↓ilez_f, ↓im1, ile_t, ile_f, ilt_t, ilt_f, ieq_t, ieq_f, iz_t, iz_f, iltz, izle, ilez_t, ilez_f, im1, gZ_0, gZ_1, e10, e00, ↓reduceIte, Sum.elim_inl, Sum.elim_inr, nI_1, nI_add, Int32.sub_zero, f_c11_says, zc144, zs144_10, zr144_0, this]
          rw [if_neg n3le0]
      · obtain ⟨S2, e2, f2, v2⟩ := C_sayOn_ok (L := L) (N := N) (w := w') (m := m') SA_19 hV1 wg wv hN (f := f') (by omega) ho (by omega)
        have hv' : WV g (vAdd v f' w' m') := wv.add (by omega) hf ⟨d1, d2⟩ d3 ho
        obtain ⟨S3, e3, q3, f3⟩ := C_done (L := L) (N := N) q1 w b1 (f2.mono (fun y hy => by omega)) v2 (r := nI (vN v)) (nI_pos (by omega)) hN
        refine AgrI (r := nI (vN v)) (c' := c) m (S1 := S3) ?_ (lowTr f1 f3) q3 (w.act hv') (by omega) (fun T mt => ?_)
        · simp (disch := omega) only [Option.bind_some, ↓ile_t, ↓ile_f, ↓ilt_t, ↓ilt_f, ↓ieq_t, ↓ieq_f, ↓iz_t, ↓iz_f, ↓iltz, ↓izle, ↓ilez_t, ↓ilez_f, ↓im1, ile_t, ile_f, ilt_t, ilt_f, ieq_t, ieq_f, iz_t, iz_f, iltz, izle, ilez_t, ilez_f, im1, gZ_0, gZ_1, e10, e00, ↓reduceIte, Sum.elim_inl, Sum.elim_inr, nI_1, nI_add, Int32.sub_zero, f_c10_says, zc10, zr10_0, zr10_1, zr10_2, zr10_3, zr10_4, zr10_5, zr10_6, zr10_7, zr10_8, zr10_9, zr10_10, zs10_11, zs10_12, eF, if_neg c2, if_neg c3, if_neg c4, if_pos c5, e1, e2, e3]
        · have t1 := mt.thr
          have eR := eM _ t1
          rw [ho] at eR
          dsimp only at eR
          rw [if_neg z8] at eR
          obtain ⟨T1, g1, g2, g3⟩ := M_rem (L := L) (N := N) t1 w hN
          obtain ⟨T2, a1, a2, a3⟩ := M_add (L := L) (N := N) (f := f') (w := w') (m := m') MA_145 (by omega) g2.2.1 (by change vN v < 8; omega)
          refine ⟨T2, ?_, highTr thrH (highTr g3 (a2.high (fun y hy => by omega))), g2.now (a2.mono (fun y hy => Or.inr hy) (fun _ z => z.elim)) a3⟩
          have eN : T2.1 145 40 = nI (vN v + 1) := a3.1
          simp (disch := omega) only [Option.bind_some, ↓ile_t, ↓ile_f, ↓ilt_t, ↓ilt_f, ↓ieq_t, ↓ieq_f, ↓iz_t, ↓iz_f, ↓iltz, ↓izle, ↓ilez_t, ↓ilez_f, ↓im1, ile_t, ile_f, ilt_t, ilt_f, ieq_t, ieq_f, iz_t, iz_f, iltz, izle, ilez_t, ilez_f, im1, gZ_0, gZ_1, e10, e00, ↓reduceIte, Sum.elim_inl, Sum.elim_inr, nI_1, nI_add, Int32.sub_zero, f_c11_says, zc144, zs144_10, zr144_0, eR]
          rw [if_pos z0le0]
          simp (disch := omega) only [Option.bind_some, ↓ile_t, ↓ile_f, ↓ilt_t, ↓ilt_f, ↓ieq_t, ↓ieq_f, ↓iz_t, ↓iz_f, ↓iltz, ↓izle, ↓ilez_t, ↓ilez_f, ↓im1, ile_t, ile_f, ilt_t, ilt_f, ieq_t, ieq_f, iz_t, iz_f, iltz, izle, ilez_t, ilez_f, im1, gZ_0, gZ_1, e10, e00, ↓reduceIte, Sum.elim_inl, Sum.elim_inr, nI_1, nI_add, Int32.sub_zero, g1, zr144_0, a1, k40, zg145, eN, nI_sub1, Nat.add_sub_cancel]
end ACTS2
