/-! CALLS: a well, a village, the text's end -/
section WELLS
variable {L N : Nat} {S T : gS} {c : Nat} {A : pA}
theorem hiL {v : Int32} {T : gS} : (stI T 144 10 v).2.1 170 0 = T.2.1 170 0 := rfl
theorem A_well {p y : Int32} (w : WA A) (q : CA S A) (m : MA S A c) (hN : 900 ≤ N) : AgrT L S c Int32.toInt64 (f_lw_well N 10 p y 170) (f_c11_well N 144 p y) := by
  obtain ⟨g, v, x, l, u, n, k, h⟩ := A
  have wv : WV g v := w.2.1
  have wg : WG g := w.1
  have h8 := wv.1
  obtain ⟨code, hc⟩ : ∃ code, ruleCode u.2 u.1 = .inl code := w.2.2.2.2.1.2
  rcases in_or (n := vN v) p (by omega) with ⟨i, hi, rfl⟩ | hp
  · have e0 := C_has_t (L := L) (N := N) SA_19 q.2.1 hi h8
    obtain ⟨b1, b2, b3, b4, b5⟩ := q.2.1.2.2.2 i hi
    change S.1 20 i = nI (vF v i) at b1
    change S.1 21 i = nI (vW v i) at b2
    change S.1 22 i = nI (vM v i) at b3
    change S.1 23 i = nI (vA v i) at b4
    change S.1 24 i = nI (vT v i) at b5
    rcases (show (y < 0 ∨ (¬ y < 0 ∧ ¬ y ≤ 7)) ∨ ∃ d, 0 ≤ d ∧ d ≤ 7 ∧ y = nI d from cas y 0 7 (by omega) (by omega)) with hy | ⟨d, -, hd, hyd⟩
    · refine lostT (r := 0) w q m ?_ ?_
      · have et : t_c10_well N 10 (nI i) y (mk L S) = some () := by
          rcases hy with hy | ⟨h1, hy⟩
          · simp (disch := omega) only [Option.bind_some, ↓ile_t, ↓ile_f, ↓ilt_t, ↓ilt_f, ↓ieq_t, ↓ieq_f, ↓iz_t, ↓iz_f, ↓iltz, ↓izle, ↓ilez_t, ↓ilez_f, ↓im1, ile_t, ile_f, ilt_t, ilt_f, ieq_t, ieq_f, iz_t, iz_f, iltz, izle, ilez_t, ilez_f, im1, gZ_0, gZ_1, e10, e00, ↓reduceIte, Sum.elim_inl, Sum.elim_inr, nI_1, nI_add, Int32.sub_zero, t_c10_well, zc10, zr10_0, zr10_1, zr10_2, zr10_3, zr10_4, zr10_5, zr10_6, zr10_7, zr10_8, zr10_9, zr10_10, zs10_11, zs10_12, e0, if_pos hy]
          · simp (disch := omega) only [Option.bind_some, ↓ile_t, ↓ile_f, ↓ilt_t, ↓ilt_f, ↓ieq_t, ↓ieq_f, ↓iz_t, ↓iz_f, ↓iltz, ↓izle, ↓ilez_t, ↓ilez_f, ↓im1, ile_t, ile_f, ilt_t, ilt_f, ieq_t, ieq_f, iz_t, iz_f, iltz, izle, ilez_t, ilez_f, im1, gZ_0, gZ_1, e10, e00, ↓reduceIte, Sum.elim_inl, Sum.elim_inr, nI_1, nI_add, Int32.sub_zero, t_c10_well, zc10, zr10_0, zr10_1, zr10_2, zr10_3, zr10_4, zr10_5, zr10_6, zr10_7, zr10_8, zr10_9, zr10_10, zs10_11, zs10_12, e0, if_neg h1, if_neg hy]
        unfold f_lw_well
        rw [et]
      · have t1 := m.thr
        simp (disch := omega) only [Option.bind_some, ↓ile_t, ↓ile_f, ↓ilt_t, ↓ilt_f, ↓ieq_t, ↓ieq_f, ↓iz_t, ↓iz_f, ↓iltz, ↓izle, ↓ilez_t, ↓ilez_f, ↓im1, ile_t, ile_f, ilt_t, ilt_f, ieq_t, ieq_f, iz_t, iz_f, iltz, izle, ilez_t, ilez_f, im1, gZ_0, gZ_1, e10, e00, ↓reduceIte, Sum.elim_inl, Sum.elim_inr, nI_1, nI_add, Int32.sub_zero, f_c11_well, zc144, zs144_10, M_isWell_t t1.2.1 h8 hi, M_inF (N := N) hy, f_c11_lost, eq_self_iff_true]
    · have y0 : ¬ y < 0 := by rw [hyd]; exact nI_pos (by omega)
      have y7 : y ≤ 7 := by rw [hyd]; exact nI_le (b := 7) hd (by omega)
      have et : t_c10_well N 10 (nI i) y (mk L S) = none := by
        simp (disch := omega) only [Option.bind_some, ↓ile_t, ↓ile_f, ↓ilt_t, ↓ilt_f, ↓ieq_t, ↓ieq_f, ↓iz_t, ↓iz_f, ↓iltz, ↓izle, ↓ilez_t, ↓ilez_f, ↓im1, ile_t, ile_f, ilt_t, ilt_f, ieq_t, ieq_f, iz_t, iz_f, iltz, izle, ilez_t, ilez_f, im1, gZ_0, gZ_1, e10, e00, ↓reduceIte, Sum.elim_inl, Sum.elim_inr, nI_1, nI_add, Int32.sub_zero, t_c10_well, zc10, zr10_0, zr10_1, zr10_2, zr10_3, zr10_4, zr10_5, zr10_6, zr10_7, zr10_8, zr10_9, zr10_10, zs10_11, zs10_12, e0, if_neg y0, if_pos y7]
      have ei : ∀ T : gS, f_c11_in N y 0 7 (mk L T) = some 1 := fun T => by rw [hyd]; exact M_inT (lo := 0) (hi := 7) (by omega) hd (by omega)
      have go : ∀ (r : Int32) (S1 : gS), f_c10_well N 10 (nI i) y (mk L S) = some (r, mk L S1) → CA S1 (g, v, x, l, u, n, k, h) → Fr lowC S S1 → (∀ T, MA T (g, v, x, l, u, n, k, h) c → ∃ T', f_c11_well N 144 (nI i) y (mk L T) = some (r, mk L T') ∧ Fr highM T T' ∧ T'.1 144 10 = 0 ∧ T'.2.1 170 0 = T.2.1 170 0 ∧ MA T' (g, v, x, l, u, n, k, h) c) → AgrT L S c Int32.toInt64 (f_lw_well N 10 (nI i) y 170) (f_c11_well N 144 (nI i) y) := by
        intro r S1 eC q1 f1 hM
        refine wentT (r := r) (S1 := S1) (S2 := S1) w q1 ?_ f1 m (fun T mt hT => ?_)
        · unfold f_lw_well
          rw [et]
          show g_lw_well N 10 (nI i) y 170 (mk L S) = _
          unfold g_lw_well
          rw [eC, Option.bind_some, zp170', Option.bind_some]
        · obtain ⟨T', a1, a2, a3, a4, a5⟩ := hM T mt
          exact ⟨T', a1, a2, a3, a4.trans hT, a5⟩
      have hS : f_c10_well N 10 (nI i) y (mk L S) = (if y = (0 : Int32) then some (nI (vF v i), mk L S) else if y = 1 then some (nI (vW v i), mk L S) else if y = 2 then some (nI (vM v i), mk L S) else if y = 3 then some (nI (vA v i), mk L S) else if y = 4 then some (nI (vT v i), mk L S) else if y = 5 then some (nI (sDepth v i), mk L S) else if y = 6 then ((gfR (mk L S) 10 10 11).bind fun v30 => (f_c6_flow N v30 19 (nI i) 15 (mk L S)).bind fun q33 => some (q33.1, q33.2)) else some (sDrw g v (nI i) (gVm g), mk L S)) := by
        unfold f_c10_well
        rw [zc10, Option.bind_some, zr10_3, Option.bind_some, e0, Option.bind_some, if_neg n10, if_neg y0, if_pos y7]
        by_cases z0 : y = 0
        · rw [if_pos z0, if_pos z0]
          simp (disch := omega) only [Option.bind_some, ↓ile_t, ↓ile_f, ↓ilt_t, ↓ilt_f, ↓ieq_t, ↓ieq_f, ↓iz_t, ↓iz_f, ↓iltz, ↓izle, ↓ilez_t, ↓ilez_f, ↓im1, ile_t, ile_f, ilt_t, ilt_f, ieq_t, ieq_f, iz_t, iz_f, iltz, izle, ilez_t, ilez_f, im1, gZ_0, gZ_1, e10, e00, ↓reduceIte, Sum.elim_inl, Sum.elim_inr, nI_1, nI_add, Int32.sub_zero, zr10_3, qc SA_19, qi0 SA_19, qs0 SA_19, qr1 SA_19, qr2 SA_19, qr3 SA_19, qr4 SA_19, qr5 SA_19, qi6 SA_19, qs6 SA_19, qi7 SA_19, qs7 SA_19, qg1 SA_19, b1]
        rw [if_neg z0, if_neg z0]
        by_cases z1 : y = 1
        · rw [if_pos z1, if_pos z1]
          simp (disch := omega) only [Option.bind_some, ↓ile_t, ↓ile_f, ↓ilt_t, ↓ilt_f, ↓ieq_t, ↓ieq_f, ↓iz_t, ↓iz_f, ↓iltz, ↓izle, ↓ilez_t, ↓ilez_f, ↓im1, ile_t, ile_f, ilt_t, ilt_f, ieq_t, ieq_f, iz_t, iz_f, iltz, izle, ilez_t, ilez_f, im1, gZ_0, gZ_1, e10, e00, ↓reduceIte, Sum.elim_inl, Sum.elim_inr, nI_1, nI_add, Int32.sub_zero, zr10_3, qc SA_19, qi0 SA_19, qs0 SA_19, qr1 SA_19, qr2 SA_19, qr3 SA_19, qr4 SA_19, qr5 SA_19, qi6 SA_19, qs6 SA_19, qi7 SA_19, qs7 SA_19, qg2 SA_19, b2]
        rw [if_neg z1, if_neg z1]
        by_cases z2 : y = 2
        · rw [if_pos z2, if_pos z2]
          simp (disch := omega) only [Option.bind_some, ↓ile_t, ↓ile_f, ↓ilt_t, ↓ilt_f, ↓ieq_t, ↓ieq_f, ↓iz_t, ↓iz_f, ↓iltz, ↓izle, ↓ilez_t, ↓ilez_f, ↓im1, ile_t, ile_f, ilt_t, ilt_f, ieq_t, ieq_f, iz_t, iz_f, iltz, izle, ilez_t, ilez_f, im1, gZ_0, gZ_1, e10, e00, ↓reduceIte, Sum.elim_inl, Sum.elim_inr, nI_1, nI_add, Int32.sub_zero, zr10_3, qc SA_19, qi0 SA_19, qs0 SA_19, qr1 SA_19, qr2 SA_19, qr3 SA_19, qr4 SA_19, qr5 SA_19, qi6 SA_19, qs6 SA_19, qi7 SA_19, qs7 SA_19, qg3 SA_19, b3]
        rw [if_neg z2, if_neg z2]
        by_cases z3 : y = 3
        · rw [if_pos z3, if_pos z3]
          simp (disch := omega) only [Option.bind_some, ↓ile_t, ↓ile_f, ↓ilt_t, ↓ilt_f, ↓ieq_t, ↓ieq_f, ↓iz_t, ↓iz_f, ↓iltz, ↓izle, ↓ilez_t, ↓ilez_f, ↓im1, ile_t, ile_f, ilt_t, ilt_f, ieq_t, ieq_f, iz_t, iz_f, iltz, izle, ilez_t, ilez_f, im1, gZ_0, gZ_1, e10, e00, ↓reduceIte, Sum.elim_inl, Sum.elim_inr, nI_1, nI_add, Int32.sub_zero, zr10_3, qc SA_19, qi0 SA_19, qs0 SA_19, qr1 SA_19, qr2 SA_19, qr3 SA_19, qr4 SA_19, qr5 SA_19, qi6 SA_19, qs6 SA_19, qi7 SA_19, qs7 SA_19, qg4 SA_19, b4]
        rw [if_neg z3, if_neg z3]
        by_cases z4 : y = 4
        · rw [if_pos z4, if_pos z4]
          simp (disch := omega) only [Option.bind_some, ↓ile_t, ↓ile_f, ↓ilt_t, ↓ilt_f, ↓ieq_t, ↓ieq_f, ↓iz_t, ↓iz_f, ↓iltz, ↓izle, ↓ilez_t, ↓ilez_f, ↓im1, ile_t, ile_f, ilt_t, ilt_f, ieq_t, ieq_f, iz_t, iz_f, iltz, izle, ilez_t, ilez_f, im1, gZ_0, gZ_1, e10, e00, ↓reduceIte, Sum.elim_inl, Sum.elim_inr, nI_1, nI_add, Int32.sub_zero, zr10_3, qc SA_19, qi0 SA_19, qs0 SA_19, qr1 SA_19, qr2 SA_19, qr3 SA_19, qr4 SA_19, qr5 SA_19, qi6 SA_19, qs6 SA_19, qi7 SA_19, qs7 SA_19, qg5 SA_19, b5]
        rw [if_neg z4, if_neg z4]
        by_cases z5 : y = 5
        · rw [if_pos z5, if_pos z5]
          simp (disch := omega) only [Option.bind_some, ↓ile_t, ↓ile_f, ↓ilt_t, ↓ilt_f, ↓ieq_t, ↓ieq_f, ↓iz_t, ↓iz_f, ↓iltz, ↓izle, ↓ilez_t, ↓ilez_f, ↓im1, ile_t, ile_f, ilt_t, ilt_f, ieq_t, ieq_f, iz_t, iz_f, iltz, izle, ilez_t, ilez_f, im1, gZ_0, gZ_1, e10, e00, ↓reduceIte, Sum.elim_inl, Sum.elim_inr, nI_1, nI_add, Int32.sub_zero, zr10_3, C_depth SA_19 q.2.1 wv hi]
        rw [if_neg z5, if_neg z5]
        by_cases z6 : y = 6
        · rw [if_pos z6, if_pos z6]
          simp (disch := omega) only [Option.bind_some, ↓ile_t, ↓ile_f, ↓ilt_t, ↓ilt_f, ↓ieq_t, ↓ieq_f, ↓iz_t, ↓iz_f, ↓iltz, ↓izle, ↓ilez_t, ↓ilez_f, ↓im1, ile_t, ile_f, ilt_t, ilt_f, ieq_t, ieq_f, iz_t, iz_f, iltz, izle, ilez_t, ilez_f, im1, gZ_0, gZ_1, e10, e00, ↓reduceIte, Sum.elim_inl, Sum.elim_inr, nI_1, nI_add, Int32.sub_zero, zr10_3, zr10_2]
        rw [if_neg z6, if_neg z6]
        simp (disch := omega) only [Option.bind_some, ↓ile_t, ↓ile_f, ↓ilt_t, ↓ilt_f, ↓ieq_t, ↓ieq_f, ↓iz_t, ↓iz_f, ↓iltz, ↓izle, ↓ilez_t, ↓ilez_f, ↓im1, ile_t, ile_f, ilt_t, ilt_f, ieq_t, ieq_f, iz_t, iz_f, iltz, izle, ilez_t, ilez_f, im1, gZ_0, gZ_1, e10, e00, ↓reduceIte, Sum.elim_inl, Sum.elim_inr, nI_1, nI_add, Int32.sub_zero, C_drw q.1 q.2.1 wg wv hN]
      -- what the reference reads straight
      have hMr : ∀ (d : Nat) (r : Int32), d < 5 → y = nI d → (∀ T, MA T (g, v, x, l, u, n, k, h) c → (stI T 144 10 0).1 145 (8 * d + i) = r) → ∀ T, MA T (g, v, x, l, u, n, k, h) c → ∃ T', f_c11_well N 144 (nI i) y (mk L T) = some (r, mk L T') ∧ Fr highM T T' ∧ T'.1 144 10 = 0 ∧ T'.2.1 170 0 = T.2.1 170 0 ∧ MA T' (g, v, x, l, u, n, k, h) c := by
        intro d r hd5 hyd hr T mt
        have t1 := mt.thr
        have y5 : ¬ (5 : Int32) ≤ y := by rw [hyd]; exact nI_ge (b := 5) hd5 (by omega)
        refine ⟨stI T 144 10 0, ?_, thrH, rdI_eq, rfl, t1⟩
        have e := hr T mt
        simp (disch := omega) only [Option.bind_some, ↓ile_t, ↓ile_f, ↓ilt_t, ↓ilt_f, ↓ieq_t, ↓ieq_f, ↓iz_t, ↓iz_f, ↓iltz, ↓izle, ↓ilez_t, ↓ilez_f, ↓im1, ile_t, ile_f, ilt_t, ilt_f, ieq_t, ieq_f, iz_t, iz_f, iltz, izle, ilez_t, ilez_f, im1, gZ_0, gZ_1, e10, e00, ↓reduceIte, Sum.elim_inl, Sum.elim_inr, nI_1, nI_add, Int32.sub_zero, f_c11_well, zc144, zs144_10, M_isWell_t t1.2.1 h8 hi, ei, if_neg y5, zr144_0]
        rw [hyd]
        simp (disch := omega) only [Option.bind_some, ↓ile_t, ↓ile_f, ↓ilt_t, ↓ilt_f, ↓ieq_t, ↓ieq_f, ↓iz_t, ↓iz_f, ↓iltz, ↓izle, ↓ilez_t, ↓ilez_f, ↓im1, ile_t, ile_f, ilt_t, ilt_f, ieq_t, ieq_f, iz_t, iz_f, iltz, izle, ilez_t, ilez_f, im1, gZ_0, gZ_1, e10, e00, ↓reduceIte, Sum.elim_inl, Sum.elim_inr, nI_1, nI_add, Int32.sub_zero, k8, nI_mul, zg145, e]
      match d, hd, hyd with
      | 0, _, hyd => exact go _ S (by rw [hS, if_pos (by rw [hyd]; rfl)]) q Fr.refl (hMr 0 _ (by omega) hyd (fun T mt => by rw [Nat.mul_zero, Nat.zero_add]; exact (mt.thr.2.1.2.2.2 i hi).1))
      | 1, _, hyd => exact go _ S (by rw [hS, if_neg (by rw [hyd]; decide), if_pos (by rw [hyd]; rfl)]) q Fr.refl (hMr 1 _ (by omega) hyd (fun T mt => (mt.thr.2.1.2.2.2 i hi).2.1))
      | 2, _, hyd => exact go _ S (by rw [hS, if_neg (by rw [hyd]; decide), if_neg (by rw [hyd]; decide), if_pos (by rw [hyd]; rfl)]) q Fr.refl (hMr 2 _ (by omega) hyd (fun T mt => (mt.thr.2.1.2.2.2 i hi).2.2.1))
      | 3, _, hyd => exact go _ S (by rw [hS, if_neg (by rw [hyd]; decide), if_neg (by rw [hyd]; decide), if_neg (by rw [hyd]; decide), if_pos (by rw [hyd]; rfl)]) q Fr.refl (hMr 3 _ (by omega) hyd (fun T mt => (mt.thr.2.1.2.2.2 i hi).2.2.2.1))
      | 4, _, hyd => exact go _ S (by rw [hS, if_neg (by rw [hyd]; decide), if_neg (by rw [hyd]; decide), if_neg (by rw [hyd]; decide), if_neg (by rw [hyd]; decide), if_pos (by rw [hyd]; rfl)]) q Fr.refl (hMr 4 _ (by omega) hyd (fun T mt => (mt.thr.2.1.2.2.2 i hi).2.2.2.2))
      | 5, _, hyd =>
        have y5 : (5 : Int32) ≤ y := by rw [hyd]; decide
        have y5' : y = 5 := hyd
        refine go _ S (by rw [hS, if_neg (by rw [hyd]; decide), if_neg (by rw [hyd]; decide), if_neg (by rw [hyd]; decide), if_neg (by rw [hyd]; decide), if_neg (by rw [hyd]; decide), if_pos (by rw [hyd]; rfl)]) q Fr.refl (fun T mt => ⟨stI T 144 10 0, ?_, thrH, rdI_eq, rfl, mt.thr⟩)
        have t1 := mt.thr
        simp (disch := omega) only [Option.bind_some, ↓ile_t, ↓ile_f, ↓ilt_t, ↓ilt_f, ↓ieq_t, ↓ieq_f, ↓iz_t, ↓iz_f, ↓iltz, ↓izle, ↓ilez_t, ↓ilez_f, ↓im1, ile_t, ile_f, ilt_t, ilt_f, ieq_t, ieq_f, iz_t, iz_f, iltz, izle, ilez_t, ilez_f, im1, gZ_0, gZ_1, e10, e00, ↓reduceIte, Sum.elim_inl, Sum.elim_inr, nI_1, nI_add, Int32.sub_zero, f_c11_well, zc144, zs144_10, M_isWell_t t1.2.1 h8 hi, ei, if_pos y5, if_pos y5', zr144_0, M_depth MA_145 t1.2.1 wv hi]
      | 6, _, hyd =>
        have y5 : (5 : Int32) ≤ y := by rw [hyd]; decide
        have y5' : ¬ y = 5 := by rw [hyd]; decide
        have y6' : y = 6 := hyd
        obtain ⟨a, a1, a2, a3⟩ := q.ru hc
        have hra : RA a := by rcases a2 with rfl | rfl; exact RA_136; exact RA_140
        obtain ⟨S1, e1, f1⟩ := C_flow (L := L) (N := N) (w := i) hra SA_19 (by omega) (by omega) q.2.1 q.1 wg wv hi a3 (w.good hc) hN
        refine go (nI (sFlow code g v i)) S1 ?_ (q.fr f1 (fun y hy => by unfold sC; omega)) (f1.low (fun y hy => by omega)) (fun T mt => ?_)
        · rw [hS, if_neg (by rw [hyd]; decide), if_neg (by rw [hyd]; decide), if_neg (by rw [hyd]; decide), if_neg (by rw [hyd]; decide), if_neg (by rw [hyd]; decide), if_neg (by rw [hyd]; decide), if_pos (by rw [hyd]; rfl), zr10_11 a1, Option.bind_some, e1, Option.bind_some]
        · have t1 := mt.thr
          obtain ⟨T', b1, b2⟩ := M_flowOf (L := L) (N := N) (w := i) MA_145 (by omega) (by omega) t1.2.1 t1.1 wg wv hi t1.2.2.2.2.1.1 hc hN
          refine ⟨T', ?_, highTr thrH (b2.high (fun y hy => by omega)), ?_, ?_, t1.fm b2 (fun y hy => by unfold sM; omega) (fun y hy => by unfold sK; omega)⟩
          · simp (disch := omega) only [Option.bind_some, ↓ile_t, ↓ile_f, ↓ilt_t, ↓ilt_f, ↓ieq_t, ↓ieq_f, ↓iz_t, ↓iz_f, ↓iltz, ↓izle, ↓ilez_t, ↓ilez_f, ↓im1, ile_t, ile_f, ilt_t, ilt_f, ieq_t, ieq_f, iz_t, iz_f, iltz, izle, ilez_t, ilez_f, im1, gZ_0, gZ_1, e10, e00, ↓reduceIte, Sum.elim_inl, Sum.elim_inr, nI_1, nI_add, Int32.sub_zero, f_c11_well, zc144, zs144_10, M_isWell_t t1.2.1 h8 hi, ei, if_pos y5, if_neg y5', if_pos y6', zr144_0, b1]
          · exact (b2.k (by omega)).trans rdI_eq
          · exact b2.l (by omega) (by omega) 0
      | 7, _, hyd =>
        have y5 : (5 : Int32) ≤ y := by rw [hyd]; decide
        have y5' : ¬ y = 5 := by rw [hyd]; decide
        have y6' : ¬ y = 6 := by rw [hyd]; decide
        refine go _ S (by rw [hS, if_neg (by rw [hyd]; decide), if_neg (by rw [hyd]; decide), if_neg (by rw [hyd]; decide), if_neg (by rw [hyd]; decide), if_neg (by rw [hyd]; decide), if_neg (by rw [hyd]; decide), if_neg (by rw [hyd]; decide)]) q Fr.refl (fun T mt => ⟨stI T 144 10 0, ?_, thrH, rdI_eq, rfl, mt.thr⟩)
        have t1 := mt.thr
        simp (disch := omega) only [Option.bind_some, ↓ile_t, ↓ile_f, ↓ilt_t, ↓ilt_f, ↓ieq_t, ↓ieq_f, ↓iz_t, ↓iz_f, ↓iltz, ↓izle, ↓ilez_t, ↓ilez_f, ↓im1, ile_t, ile_f, ilt_t, ilt_f, ieq_t, ieq_f, iz_t, iz_f, iltz, izle, ilez_t, ilez_f, im1, gZ_0, gZ_1, e10, e00, ↓reduceIte, Sum.elim_inl, Sum.elim_inr, nI_1, nI_add, Int32.sub_zero, f_c11_well, zc144, zs144_10, M_isWell_t t1.2.1 h8 hi, ei, if_pos y5, if_neg y5', if_neg y6', M_drw t1.1 t1.2.1 wg wv hN]
      | d + 8, hd, _ => omega
  · refine lostT (r := 0) w q m ?_ ?_
    · have et : t_c10_well N 10 p y (mk L S) = some () := by
        simp (disch := omega) only [Option.bind_some, ↓ile_t, ↓ile_f, ↓ilt_t, ↓ilt_f, ↓ieq_t, ↓ieq_f, ↓iz_t, ↓iz_f, ↓iltz, ↓izle, ↓ilez_t, ↓ilez_f, ↓im1, ile_t, ile_f, ilt_t, ilt_f, ieq_t, ieq_f, iz_t, iz_f, iltz, izle, ilez_t, ilez_f, im1, gZ_0, gZ_1, e10, e00, ↓reduceIte, Sum.elim_inl, Sum.elim_inr, nI_1, nI_add, Int32.sub_zero, t_c10_well, zc10, zr10_0, zr10_1, zr10_2, zr10_3, zr10_4, zr10_5, zr10_6, zr10_7, zr10_8, zr10_9, zr10_10, zs10_11, zs10_12, C_has_f (L := L) (N := N) SA_19 q.2.1 hp]
      unfold f_lw_well
      rw [et]
    · have t1 := m.thr
      simp (disch := omega) only [Option.bind_some, ↓ile_t, ↓ile_f, ↓ilt_t, ↓ilt_f, ↓ieq_t, ↓ieq_f, ↓iz_t, ↓iz_f, ↓iltz, ↓izle, ↓ilez_t, ↓ilez_f, ↓im1, ile_t, ile_f, ilt_t, ilt_f, ieq_t, ieq_f, iz_t, iz_f, iltz, izle, ilez_t, ilez_f, im1, gZ_0, gZ_1, e10, e00, ↓reduceIte, Sum.elim_inl, Sum.elim_inr, nI_1, nI_add, Int32.sub_zero, f_c11_well, zc144, zs144_10, M_isWell_f t1.2.1 h8 hp, f_c11_lost, eq_self_iff_true]
theorem A_village {p y : Int32} (w : WA A) (q : CA S A) (m : MA S A c) (hN : 900 ≤ N) : AgrT L S c Int32.toInt64 (f_lw_village N 10 p y 170) (f_c11_village N 144 p y) := by
  obtain ⟨g, v, x, l, u, n, k, h⟩ := A
  have wv : WV g v := w.2.1
  have wg : WG g := w.1
  have h8 := wv.1
  have h6 := wg.2.2.2.2.1
  rcases in_or (n := gVm g) p (by omega) with ⟨i, hi, rfl⟩ | hp
  · have e0 := C_hasV_t (L := L) (N := N) (g := g) q.1 wg hi
    have hH := wg.H hi
    obtain ⟨b1, b2⟩ := q.1.2.2.2.1 i hi
    change S.1 16 i = nI (gHm g i) at b1
    change S.1 17 i = nI (gTh g i) at b2
    have en := C_near (L := L) (N := N) (f := gHm g i) SA_19 q.2.1 q.1 wg wv (by omega) hN
    rcases (show (y < 0 ∨ (¬ y < 0 ∧ ¬ y ≤ 3)) ∨ ∃ d, 0 ≤ d ∧ d ≤ 3 ∧ y = nI d from cas y 0 3 (by omega) (by omega)) with hy | ⟨d, -, hd, hyd⟩
    · refine lostT (r := 0) w q m ?_ ?_
      · have et : t_c10_village N 10 (nI i) y (mk L S) = some () := by
          rcases hy with hy | ⟨h1, hy⟩
          · simp (disch := omega) only [Option.bind_some, ↓ile_t, ↓ile_f, ↓ilt_t, ↓ilt_f, ↓ieq_t, ↓ieq_f, ↓iz_t, ↓iz_f, ↓iltz, ↓izle, ↓ilez_t, ↓ilez_f, ↓im1, ile_t, ile_f, ilt_t, ilt_f, ieq_t, ieq_f, iz_t, iz_f, iltz, izle, ilez_t, ilez_f, im1, gZ_0, gZ_1, e10, e00, ↓reduceIte, Sum.elim_inl, Sum.elim_inr, nI_1, nI_add, Int32.sub_zero, t_c10_village, zc10, zr10_0, zr10_1, zr10_2, zr10_3, zr10_4, zr10_5, zr10_6, zr10_7, zr10_8, zr10_9, zr10_10, zs10_11, zs10_12, e0, if_pos hy]
          · simp (disch := omega) only [Option.bind_some, ↓ile_t, ↓ile_f, ↓ilt_t, ↓ilt_f, ↓ieq_t, ↓ieq_f, ↓iz_t, ↓iz_f, ↓iltz, ↓izle, ↓ilez_t, ↓ilez_f, ↓im1, ile_t, ile_f, ilt_t, ilt_f, ieq_t, ieq_f, iz_t, iz_f, iltz, izle, ilez_t, ilez_f, im1, gZ_0, gZ_1, e10, e00, ↓reduceIte, Sum.elim_inl, Sum.elim_inr, nI_1, nI_add, Int32.sub_zero, t_c10_village, zc10, zr10_0, zr10_1, zr10_2, zr10_3, zr10_4, zr10_5, zr10_6, zr10_7, zr10_8, zr10_9, zr10_10, zs10_11, zs10_12, e0, if_neg h1, if_neg hy]
        unfold f_lw_village
        rw [et]
      · have t1 := m.thr
        simp (disch := omega) only [Option.bind_some, ↓ile_t, ↓ile_f, ↓ilt_t, ↓ilt_f, ↓ieq_t, ↓ieq_f, ↓iz_t, ↓iz_f, ↓iltz, ↓izle, ↓ilez_t, ↓ilez_f, ↓im1, ile_t, ile_f, ilt_t, ilt_f, ieq_t, ieq_f, iz_t, iz_f, iltz, izle, ilez_t, ilez_f, im1, gZ_0, gZ_1, e10, e00, ↓reduceIte, Sum.elim_inl, Sum.elim_inr, nI_1, nI_add, Int32.sub_zero, f_c11_village, zc144, zs144_10, M_isVillage_t t1.1 wg hi, M_inF (N := N) hy, f_c11_lost, eq_self_iff_true]
    · have y0 : ¬ y < 0 := by rw [hyd]; exact nI_pos (by omega)
      have y3 : y ≤ 3 := by rw [hyd]; exact nI_le (b := 3) hd (by omega)
      have et : t_c10_village N 10 (nI i) y (mk L S) = none := by
        simp (disch := omega) only [Option.bind_some, ↓ile_t, ↓ile_f, ↓ilt_t, ↓ilt_f, ↓ieq_t, ↓ieq_f, ↓iz_t, ↓iz_f, ↓iltz, ↓izle, ↓ilez_t, ↓ilez_f, ↓im1, ile_t, ile_f, ilt_t, ilt_f, ieq_t, ieq_f, iz_t, iz_f, iltz, izle, ilez_t, ilez_f, im1, gZ_0, gZ_1, e10, e00, ↓reduceIte, Sum.elim_inl, Sum.elim_inr, nI_1, nI_add, Int32.sub_zero, t_c10_village, zc10, zr10_0, zr10_1, zr10_2, zr10_3, zr10_4, zr10_5, zr10_6, zr10_7, zr10_8, zr10_9, zr10_10, zs10_11, zs10_12, e0, if_neg y0, if_pos y3]
      have ei : ∀ T : gS, f_c11_in N y 0 3 (mk L T) = some 1 := fun T => by rw [hyd]; exact M_inT (lo := 0) (hi := 3) (by omega) hd (by omega)
      have go : ∀ r : Int32, f_c10_village N 10 (nI i) y (mk L S) = some r → (∀ T, MA T (g, v, x, l, u, n, k, h) c → f_c11_village N 144 (nI i) y (mk L T) = some (r, mk L (stI T 144 10 0))) → AgrT L S c Int32.toInt64 (f_lw_village N 10 (nI i) y 170) (f_c11_village N 144 (nI i) y) := by
        intro r eC hM
        refine wentT (r := r) (S1 := S) (S2 := S) w q ?_ Fr.refl m (fun T mt hT => ⟨_, hM T mt, thrH, rdI_eq, hT, mt.thr⟩)
        unfold f_lw_village
        rw [et]
        show g_lw_village N 10 (nI i) y 170 (mk L S) = _
        unfold g_lw_village
        rw [eC, Option.bind_some, zp170', Option.bind_some]
      match d, hd, hyd with
      | 0, _, hyd =>
        have z0 : y = 0 := hyd
        refine go (nI (gHm g i)) ?_ (fun T mt => ?_)
        · simp (disch := omega) only [Option.bind_some, ↓ile_t, ↓ile_f, ↓ilt_t, ↓ilt_f, ↓ieq_t, ↓ieq_f, ↓iz_t, ↓iz_f, ↓iltz, ↓izle, ↓ilez_t, ↓ilez_f, ↓im1, ile_t, ile_f, ilt_t, ilt_f, ieq_t, ieq_f, iz_t, iz_f, iltz, izle, ilez_t, ilez_f, im1, gZ_0, gZ_1, e10, e00, ↓reduceIte, Sum.elim_inl, Sum.elim_inr, nI_1, nI_add, Int32.sub_zero, f_c10_village, zc10, zr10_0, zr10_1, zr10_2, zr10_3, zr10_4, zr10_5, zr10_6, zr10_7, zr10_8, zr10_9, zr10_10, zs10_11, zs10_12, e0, if_neg y0, if_pos y3, zc15, zi15_0, zs15_0, zi15_1, zs15_1, zi15_2, zs15_2, zr15_3, zr15_4, zr15_5, zg16, b1, if_pos z0]
        · have t1 := mt.thr
          simp (disch := omega) only [Option.bind_some, ↓ile_t, ↓ile_f, ↓ilt_t, ↓ilt_f, ↓ieq_t, ↓ieq_f, ↓iz_t, ↓iz_f, ↓iltz, ↓izle, ↓ilez_t, ↓ilez_f, ↓im1, ile_t, ile_f, ilt_t, ilt_f, ieq_t, ieq_f, iz_t, iz_f, iltz, izle, ilez_t, ilez_f, im1, gZ_0, gZ_1, e10, e00, ↓reduceIte, Sum.elim_inl, Sum.elim_inr, nI_1, nI_add, Int32.sub_zero, f_c11_village, zc144, zs144_10, M_isVillage_t t1.1 wg hi, ei, zr144_0, M_near MA_145 t1.2.1 t1.1 wg wv hi hN, if_pos z0, zr144_4, zg146, (t1.1.2.2.2 i hi).1]
      | 1, _, hyd =>
        have z0 : ¬ y = 0 := by rw [hyd]; decide
        have z1 : y = 1 := hyd
        refine go (nI (gTh g i)) ?_ (fun T mt => ?_)
        · simp (disch := omega) only [Option.bind_some, ↓ile_t, ↓ile_f, ↓ilt_t, ↓ilt_f, ↓ieq_t, ↓ieq_f, ↓iz_t, ↓iz_f, ↓iltz, ↓izle, ↓ilez_t, ↓ilez_f, ↓im1, ile_t, ile_f, ilt_t, ilt_f, ieq_t, ieq_f, iz_t, iz_f, iltz, izle, ilez_t, ilez_f, im1, gZ_0, gZ_1, e10, e00, ↓reduceIte, Sum.elim_inl, Sum.elim_inr, nI_1, nI_add, Int32.sub_zero, f_c10_village, zc10, zr10_0, zr10_1, zr10_2, zr10_3, zr10_4, zr10_5, zr10_6, zr10_7, zr10_8, zr10_9, zr10_10, zs10_11, zs10_12, e0, if_neg y0, if_pos y3, zc15, zi15_0, zs15_0, zi15_1, zs15_1, zi15_2, zs15_2, zr15_3, zr15_4, zr15_5, zg16, b1, if_neg z0, if_pos z1, zg17, b2]
        · have t1 := mt.thr
          simp (disch := omega) only [Option.bind_some, ↓ile_t, ↓ile_f, ↓ilt_t, ↓ilt_f, ↓ieq_t, ↓ieq_f, ↓iz_t, ↓iz_f, ↓iltz, ↓izle, ↓ilez_t, ↓ilez_f, ↓im1, ile_t, ile_f, ilt_t, ilt_f, ieq_t, ieq_f, iz_t, iz_f, iltz, izle, ilez_t, ilez_f, im1, gZ_0, gZ_1, e10, e00, ↓reduceIte, Sum.elim_inl, Sum.elim_inr, nI_1, nI_add, Int32.sub_zero, f_c11_village, zc144, zs144_10, M_isVillage_t t1.1 wg hi, ei, zr144_0, M_near MA_145 t1.2.1 t1.1 wg wv hi hN, if_neg z0, if_pos z1, zr144_5, zg147, (t1.1.2.2.2 i hi).2]
      | 2, _, hyd =>
        have z0 : ¬ y = 0 := by rw [hyd]; decide
        have z1 : ¬ y = 1 := by rw [hyd]; decide
        have z2 : y = 2 := hyd
        refine go (oI (sNear g v (gHm g i) (vN v))) ?_ (fun T mt => ?_)
        · simp (disch := omega) only [Option.bind_some, ↓ile_t, ↓ile_f, ↓ilt_t, ↓ilt_f, ↓ieq_t, ↓ieq_f, ↓iz_t, ↓iz_f, ↓iltz, ↓izle, ↓ilez_t, ↓ilez_f, ↓im1, ile_t, ile_f, ilt_t, ilt_f, ieq_t, ieq_f, iz_t, iz_f, iltz, izle, ilez_t, ilez_f, im1, gZ_0, gZ_1, e10, e00, ↓reduceIte, Sum.elim_inl, Sum.elim_inr, nI_1, nI_add, Int32.sub_zero, f_c10_village, zc10, zr10_0, zr10_1, zr10_2, zr10_3, zr10_4, zr10_5, zr10_6, zr10_7, zr10_8, zr10_9, zr10_10, zs10_11, zs10_12, e0, if_neg y0, if_pos y3, zc15, zi15_0, zs15_0, zi15_1, zs15_1, zi15_2, zs15_2, zr15_3, zr15_4, zr15_5, zg16, b1, if_neg z0, if_neg z1, en, if_pos z2]
        · have t1 := mt.thr
          simp (disch := omega) only [Option.bind_some, ↓ile_t, ↓ile_f, ↓ilt_t, ↓ilt_f, ↓ieq_t, ↓ieq_f, ↓iz_t, ↓iz_f, ↓iltz, ↓izle, ↓ilez_t, ↓ilez_f, ↓im1, ile_t, ile_f, ilt_t, ilt_f, ieq_t, ieq_f, iz_t, iz_f, iltz, izle, ilez_t, ilez_f, im1, gZ_0, gZ_1, e10, e00, ↓reduceIte, Sum.elim_inl, Sum.elim_inr, nI_1, nI_add, Int32.sub_zero, f_c11_village, zc144, zs144_10, M_isVillage_t t1.1 wg hi, ei, zr144_0, M_near MA_145 t1.2.1 t1.1 wg wv hi hN, if_neg z0, if_neg z1, if_pos z2]
      | 3, _, hyd =>
        have z0 : ¬ y = 0 := by rw [hyd]; decide
        have z1 : ¬ y = 1 := by rw [hyd]; decide
        have z2 : ¬ y = 2 := by rw [hyd]; decide
        cases hs : sNear g v (gHm g i) (vN v) with
        | none =>
          rw [hs] at en
          have m1 : ((-1 : Int32) = -1) = True := eq_self _
          refine go (-1) ?_ (fun T mt => ?_)
          · simp (disch := omega) only [Option.bind_some, ↓ile_t, ↓ile_f, ↓ilt_t, ↓ilt_f, ↓ieq_t, ↓ieq_f, ↓iz_t, ↓iz_f, ↓iltz, ↓izle, ↓ilez_t, ↓ilez_f, ↓im1, ile_t, ile_f, ilt_t, ilt_f, ieq_t, ieq_f, iz_t, iz_f, iltz, izle, ilez_t, ilez_f, im1, gZ_0, gZ_1, e10, e00, ↓reduceIte, Sum.elim_inl, Sum.elim_inr, nI_1, nI_add, Int32.sub_zero, f_c10_village, zc10, zr10_0, zr10_1, zr10_2, zr10_3, zr10_4, zr10_5, zr10_6, zr10_7, zr10_8, zr10_9, zr10_10, zs10_11, zs10_12, e0, if_neg y0, if_pos y3, zc15, zi15_0, zs15_0, zi15_1, zs15_1, zi15_2, zs15_2, zr15_3, zr15_4, zr15_5, zg16, b1, if_neg z0, if_neg z1, en, if_neg z2, oI]
            rw [if_neg n1le0]
          · have t1 := mt.thr
            have e := M_near (L := L) (N := N) MA_145 t1.2.1 t1.1 wg wv hi hN
            rw [hs] at e
            simp (disch := omega) only [Option.bind_some, ↓ile_t, ↓ile_f, ↓ilt_t, ↓ilt_f, ↓ieq_t, ↓ieq_f, ↓iz_t, ↓iz_f, ↓iltz, ↓izle, ↓ilez_t, ↓ilez_f, ↓im1, ile_t, ile_f, ilt_t, ilt_f, ieq_t, ieq_f, iz_t, iz_f, iltz, izle, ilez_t, ilez_f, im1, gZ_0, gZ_1, e10, e00, ↓reduceIte, Sum.elim_inl, Sum.elim_inr, nI_1, nI_add, Int32.sub_zero, f_c11_village, zc144, zs144_10, M_isVillage_t t1.1 wg hi, ei, zr144_0, e, if_neg z0, if_neg z1, if_neg z2, oI, m1]
        | some j =>
          rw [hs] at en
          have hj := sNear_lt hs
          have hF := wv.F wg hj
          have m1 : ¬ nI j = -1 := nI_m1 (by omega)
          have bj : S.1 20 j = nI (vF v j) := (q.2.1.2.2.2 j hj).1
          refine go (nI (sFar g (gHm g i) (vF v j))) ?_ (fun T mt => ?_)
          · simp (disch := omega) only [Option.bind_some, ↓ile_t, ↓ile_f, ↓ilt_t, ↓ilt_f, ↓ieq_t, ↓ieq_f, ↓iz_t, ↓iz_f, ↓iltz, ↓izle, ↓ilez_t, ↓ilez_f, ↓im1, ile_t, ile_f, ilt_t, ilt_f, ieq_t, ieq_f, iz_t, iz_f, iltz, izle, ilez_t, ilez_f, im1, gZ_0, gZ_1, e10, e00, ↓reduceIte, Sum.elim_inl, Sum.elim_inr, nI_1, nI_add, Int32.sub_zero, f_c10_village, zc10, zr10_0, zr10_1, zr10_2, zr10_3, zr10_4, zr10_5, zr10_6, zr10_7, zr10_8, zr10_9, zr10_10, zs10_11, zs10_12, e0, if_neg y0, if_pos y3, zc15, zi15_0, zs15_0, zi15_1, zs15_1, zi15_2, zs15_2, zr15_3, zr15_4, zr15_5, zg16, b1, if_neg z0, if_neg z1, en, if_neg z2, oI, qc SA_19, qi0 SA_19, qs0 SA_19, qr1 SA_19, qr2 SA_19, qr3 SA_19, qr4 SA_19, qr5 SA_19, qi6 SA_19, qs6 SA_19, qi7 SA_19, qs7 SA_19, qg1 SA_19, bj, C_far q.1 wg]
          · have t1 := mt.thr
            have e := M_near (L := L) (N := N) MA_145 t1.2.1 t1.1 wg wv hi hN
            rw [hs] at e
            simp (disch := omega) only [Option.bind_some, ↓ile_t, ↓ile_f, ↓ilt_t, ↓ilt_f, ↓ieq_t, ↓ieq_f, ↓iz_t, ↓iz_f, ↓iltz, ↓izle, ↓ilez_t, ↓ilez_f, ↓im1, ile_t, ile_f, ilt_t, ilt_f, ieq_t, ieq_f, iz_t, iz_f, iltz, izle, ilez_t, ilez_f, im1, gZ_0, gZ_1, e10, e00, ↓reduceIte, Sum.elim_inl, Sum.elim_inr, nI_1, nI_add, Int32.sub_zero, f_c11_village, zc144, zs144_10, M_isVillage_t t1.1 wg hi, ei, zr144_0, e, if_neg z0, if_neg z1, if_neg z2, oI, if_neg m1, zg145, (t1.2.1.2.2.2 j hj).1, zr144_4, zg146, (t1.1.2.2.2 i hi).1, M_farOf t1.1 wg, sFar_comm g (vF v j) (gHm g i)]
      | d + 4, hd, _ => omega
  · refine lostT (r := 0) w q m ?_ ?_
    · have et : t_c10_village N 10 p y (mk L S) = some () := by
        simp (disch := omega) only [Option.bind_some, ↓ile_t, ↓ile_f, ↓ilt_t, ↓ilt_f, ↓ieq_t, ↓ieq_f, ↓iz_t, ↓iz_f, ↓iltz, ↓izle, ↓ilez_t, ↓ilez_f, ↓im1, ile_t, ile_f, ilt_t, ilt_f, ieq_t, ieq_f, iz_t, iz_f, iltz, izle, ilez_t, ilez_f, im1, gZ_0, gZ_1, e10, e00, ↓reduceIte, Sum.elim_inl, Sum.elim_inr, nI_1, nI_add, Int32.sub_zero, t_c10_village, zc10, zr10_0, zr10_1, zr10_2, zr10_3, zr10_4, zr10_5, zr10_6, zr10_7, zr10_8, zr10_9, zr10_10, zs10_11, zs10_12, C_hasV_f (L := L) (N := N) q.1 hp]
      unfold f_lw_village
      rw [et]
    · have t1 := m.thr
      simp (disch := omega) only [Option.bind_some, ↓ile_t, ↓ile_f, ↓ilt_t, ↓ilt_f, ↓ieq_t, ↓ieq_f, ↓iz_t, ↓iz_f, ↓iltz, ↓izle, ↓ilez_t, ↓ilez_f, ↓im1, ile_t, ile_f, ilt_t, ilt_f, ieq_t, ieq_f, iz_t, iz_f, iltz, izle, ilez_t, ilez_f, im1, gZ_0, gZ_1, e10, e00, ↓reduceIte, Sum.elim_inl, Sum.elim_inr, nI_1, nI_add, Int32.sub_zero, f_c11_village, zc144, zs144_10, M_isVillage_f t1.1 wg hp, f_c11_lost, eq_self_iff_true]
-- the text cut
theorem C_cut {x : pX} {g : pG} {v : pV} {l : List Int64} {u : pX} {n : pN} {k : Nat → Option pV} {h : pH} {d : Nat} (q : CA S (g, v, x, l, u, n, k, h)) (hx : x.1 ≤ 80) (hd : d ≤ x.1) : f_c8_cutTo N 11 (nI d) (mk L S) = some (1, mk L (stI S 11 1 (nI d))) ∧ CA (stI S 11 1 (nI d)) (g, v, (d, x.2), l, u, n, k, h) := by
  have e : S.1 11 1 = nI x.1 := q.2.2.1.1
  refine ⟨?_, q.text (Fr.stI (by show _ ∨ _; omega)) ⟨rdI_eq, fun j hj => ?_⟩⟩
  · simp (disch := omega) only [Option.bind_some, ↓ile_t, ↓ile_f, ↓ilt_t, ↓ilt_f, ↓ieq_t, ↓ieq_f, ↓iz_t, ↓iz_f, ↓iltz, ↓izle, ↓ilez_t, ↓ilez_f, ↓im1, ile_t, ile_f, ilt_t, ilt_f, ieq_t, ieq_f, iz_t, iz_f, iltz, izle, ilez_t, ilez_f, im1, gZ_0, gZ_1, e10, e00, ↓reduceIte, Sum.elim_inl, Sum.elim_inr, nI_1, nI_add, Int32.sub_zero, f_c8_cutTo, zc11, zr11_0, zi11_1, zs11_1, e]
  · have hj2 : j < d := hj
    rw [rdI_ne (by omega)]
    exact q.2.2.1.2 j (by show j < x.1; omega)
theorem A_end {p : Int32} (w : WA A) (q : CA S A) (m : MA S A c) : Agr L S c (f_c10_end N 10 p) (f_c11_end N 144 p) := by
  obtain ⟨g, v, x, l, u, n, k, h⟩ := A
  have hx : x.1 ≤ 80 := w.2.2.1.1
  have hb : ∀ j, j < x.1 → x.2 j < 256 := w.2.2.1.2
  have e : S.1 11 1 = nI x.1 := q.2.2.1.1
  rcases (show (p < 0 ∨ (¬ p < 0 ∧ ¬ p ≤ nI x.1)) ∨ ∃ d, 0 ≤ d ∧ d ≤ x.1 ∧ p = nI d from cas p 0 x.1 (by omega) (by omega)) with hp | ⟨d, -, hd, rfl⟩
  · refine AgrR w q m (r := 0) ?_ (fun T _ t1 => ?_)
    · rcases hp with hp | ⟨h1, hp⟩
      · simp (disch := omega) only [Option.bind_some, ↓ile_t, ↓ile_f, ↓ilt_t, ↓ilt_f, ↓ieq_t, ↓ieq_f, ↓iz_t, ↓iz_f, ↓iltz, ↓izle, ↓ilez_t, ↓ilez_f, ↓im1, ile_t, ile_f, ilt_t, ilt_f, ieq_t, ieq_f, iz_t, iz_f, iltz, izle, ilez_t, ilez_f, im1, gZ_0, gZ_1, e10, e00, ↓reduceIte, Sum.elim_inl, Sum.elim_inr, nI_1, nI_add, Int32.sub_zero, f_c10_end, zc10, zr10_0, zr10_1, zr10_2, zr10_3, zr10_4, zr10_5, zr10_6, zr10_7, zr10_8, zr10_9, zr10_10, zs10_11, zs10_12, f_c8_cutTo, zc11, if_pos hp]
      · simp (disch := omega) only [Option.bind_some, ↓ile_t, ↓ile_f, ↓ilt_t, ↓ilt_f, ↓ieq_t, ↓ieq_f, ↓iz_t, ↓iz_f, ↓iltz, ↓izle, ↓ilez_t, ↓ilez_f, ↓im1, ile_t, ile_f, ilt_t, ilt_f, ieq_t, ieq_f, iz_t, iz_f, iltz, izle, ilez_t, ilez_f, im1, gZ_0, gZ_1, e10, e00, ↓reduceIte, Sum.elim_inl, Sum.elim_inr, nI_1, nI_add, Int32.sub_zero, f_c10_end, zc10, zr10_0, zr10_1, zr10_2, zr10_3, zr10_4, zr10_5, zr10_6, zr10_7, zr10_8, zr10_9, zr10_10, zs10_11, zs10_12, f_c8_cutTo, zc11, zr11_0, zi11_1, zs11_1, if_neg h1, e, if_neg hp]
    · have e7 : (stI T 144 10 0).1 144 7 = nI x.1 := t1.2.2.1.1
      simp (disch := omega) only [Option.bind_some, ↓ile_t, ↓ile_f, ↓ilt_t, ↓ilt_f, ↓ieq_t, ↓ieq_f, ↓iz_t, ↓iz_f, ↓iltz, ↓izle, ↓ilez_t, ↓ilez_f, ↓im1, ile_t, ile_f, ilt_t, ilt_f, ieq_t, ieq_f, iz_t, iz_f, iltz, izle, ilez_t, ilez_f, im1, gZ_0, gZ_1, e10, e00, ↓reduceIte, Sum.elim_inl, Sum.elim_inr, nI_1, nI_add, Int32.sub_zero, f_c11_end, zc144, zs144_10, zi144_7, e7, M_inF (N := N) hp, eq_self_iff_true]
  · obtain ⟨e1, q1⟩ := C_cut (L := L) (N := N) q hx hd
    refine AgrI (c' := c) m (r := 1) (S1 := stI S 11 1 (nI d)) ?_ (Fr.stI (by unfold lowC; omega)) q1 ⟨w.1, w.2.1, ⟨by show d ≤ 80; omega, fun j hj => hb j (by have hj2 : j < d := hj; omega)⟩, w.2.2.2⟩ (by omega) (fun T mt => ?_)
    · simp (disch := omega) only [Option.bind_some, ↓ile_t, ↓ile_f, ↓ilt_t, ↓ilt_f, ↓ieq_t, ↓ieq_f, ↓iz_t, ↓iz_f, ↓iltz, ↓izle, ↓ilez_t, ↓ilez_f, ↓im1, ile_t, ile_f, ilt_t, ilt_f, ieq_t, ieq_f, iz_t, iz_f, iltz, izle, ilez_t, ilez_f, im1, gZ_0, gZ_1, e10, e00, ↓reduceIte, Sum.elim_inl, Sum.elim_inr, nI_1, nI_add, Int32.sub_zero, f_c10_end, zc10, zr10_0, zr10_1, zr10_2, zr10_3, zr10_4, zr10_5, zr10_6, zr10_7, zr10_8, zr10_9, zr10_10, zs10_11, zs10_12, e1]
    · have t1 := mt.thr
      have e7 : (stI T 144 10 0).1 144 7 = nI x.1 := t1.2.2.1.1
      have ei : f_c11_in N (nI d) 0 (nI x.1) (mk L (stI T 144 10 0)) = some 1 := M_inT (lo := 0) (hi := x.1) (by omega) hd (by omega)
      refine ⟨stI (stI T 144 10 0) 144 7 (nI d), ?_, highTr thrH (Fr.stI (by unfold highM; omega)), t1.text (FM.stK (by show _ ∨ _; omega)) ⟨rdI_eq, fun j hj => ?_⟩⟩
      · simp (disch := omega) only [Option.bind_some, ↓ile_t, ↓ile_f, ↓ilt_t, ↓ilt_f, ↓ieq_t, ↓ieq_f, ↓iz_t, ↓iz_f, ↓iltz, ↓izle, ↓ilez_t, ↓ilez_f, ↓im1, ile_t, ile_f, ilt_t, ilt_f, ieq_t, ieq_f, iz_t, iz_f, iltz, izle, ilez_t, ilez_f, im1, gZ_0, gZ_1, e10, e00, ↓reduceIte, Sum.elim_inl, Sum.elim_inr, nI_1, nI_add, Int32.sub_zero, f_c11_end, zc144, zs144_10, zi144_7, e7, ei, zs144_7]
      · have hj2 : j < d := hj
        rw [rdI_ne (by omega)]
        exact t1.2.2.1.2 j (by show j < x.1; omega)
end WELLS
