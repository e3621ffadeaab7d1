/-! CALLS: dry -/
section DRY
variable {L N : Nat} {S T : gS} {c : Nat} {g : pG} {v : pV} {x : pX} {l : List Int64} {u : pX} {n : pN} {k : Nat → Option pV} {h : pH} {A : pA}
def sDy (g : pG) (v : pV) (r f : Nat) : Bool := (fstN (fun w => decide (sFar g f (vF v w) ≤ r)) 0 (vN v)).isNone
def sDyV (g : pG) (v : pV) (r : Nat) (i : Nat) : Nat := sumN (fun i => if sDy g v r (gHm g i) then 1 else 0) i
theorem C_isFar_f {y : Int32} {hh : gH} (hy : y < 0 ∨ (¬ y < 0 ∧ ¬ y ≤ 10)) : f_c10_isFar N y hh = some 0 := by
  unfold f_c10_isFar
  rcases hy with hy | ⟨h1, hy⟩
  · rw [if_pos hy]; rfl
  · rw [if_neg h1, if_pos (i32_nle hy)]; rfl
theorem C_isFar_t {d : Nat} {hh : gH} (h2 : d ≤ 10) : f_c10_isFar N (nI d) hh = some 1 := by
  have c1 : ¬ nI d < 0 := nI_pos (by omega)
  have c2 : ¬ (10 : Int32) < nI d := nI_nlt (a := 10) h2 (by omega)
  unfold f_c10_isFar
  rw [if_neg c1, if_neg c2]; rfl
theorem C_hasNear {f r : Nat} (cg : CG S g) (cv : CV S 19 v) (wg : WG g) (wv : WV g v) (hf : f < 1000) (hr : r < 1000) (hN : 900 ≤ N) : f_c7_hasWellNear N 19 15 (nI f) (nI r) (mk L S) = some (if sDy g v r f then 0 else 1) := by
  have h8 := wv.1
  have e : lp_c7_hasWellNear_3 N 19 15 (nI f) (nI r) (mk L S) N (nI 0) = some ((fun o : Option Nat => match o with | some _ => Sum.inl (1 : Int32) | none => Sum.inr ()) (fstN (fun w => decide (sFar g f (vF v w) ≤ r)) 0 (vN v))) := by
    refine lp_fst (Lp := fun k i => lp_c7_hasWellNear_3 N 19 15 (nI f) (nI r) (mk L S) k (nI i)) (o := fun o => match o with | some _ => Sum.inl (1 : Int32) | none => Sum.inr ()) (n := vN v) (fun k i hi hp => ?_) (fun k i hi hp => ?_) (fun k => ?_) (vN v) N 0 (by omega) (by omega)
    · show lp_c7_hasWellNear_3 N 19 15 (nI f) (nI r) (mk L S) (k + 1) _ = _
      rw [lp_c7_hasWellNear_3.eq_2]
      have hp := of_decide_eq_false hp
      have hF := wv.F wg hi
      have l2 := sFar_le g f (vF v i)
      simp (disch := omega) only [Option.bind_some, ↓ile_t, ↓ile_f, ↓ilt_t, ↓ilt_f, ↓ieq_t, ↓ieq_f, ↓iz_t, ↓iz_f, ↓iltz, ↓izle, ↓ilez_t, ↓ilez_f, ↓im1, ile_t, ile_f, ilt_t, ilt_f, ieq_t, ieq_f, iz_t, iz_f, iltz, izle, ilez_t, ilez_f, im1, gZ_0, gZ_1, e10, e00, ↓reduceIte, Sum.elim_inl, Sum.elim_inr, nI_1, nI_add, Int32.sub_zero, qc SA_19, qi0 SA_19, qs0 SA_19, qr1 SA_19, qr2 SA_19, qr3 SA_19, qr4 SA_19, qr5 SA_19, qi6 SA_19, qs6 SA_19, qi7 SA_19, qs7 SA_19, cv.1, qg1 SA_19, (cv.2.2.2 i hi).1, C_far cg wg]
    · show lp_c7_hasWellNear_3 N 19 15 (nI f) (nI r) (mk L S) (k + 1) _ = _
      rw [lp_c7_hasWellNear_3.eq_2]
      have hp := of_decide_eq_true hp
      have hF := wv.F wg hi
      simp (disch := omega) only [Option.bind_some, ↓ile_t, ↓ile_f, ↓ilt_t, ↓ilt_f, ↓ieq_t, ↓ieq_f, ↓iz_t, ↓iz_f, ↓iltz, ↓izle, ↓ilez_t, ↓ilez_f, ↓im1, ile_t, ile_f, ilt_t, ilt_f, ieq_t, ieq_f, iz_t, iz_f, iltz, izle, ilez_t, ilez_f, im1, gZ_0, gZ_1, e10, e00, ↓reduceIte, Sum.elim_inl, Sum.elim_inr, nI_1, nI_add, Int32.sub_zero, qc SA_19, qi0 SA_19, qs0 SA_19, qr1 SA_19, qr2 SA_19, qr3 SA_19, qr4 SA_19, qr5 SA_19, qi6 SA_19, qs6 SA_19, qi7 SA_19, qs7 SA_19, cv.1, qg1 SA_19, (cv.2.2.2 i hi).1, C_far cg wg]
    · show lp_c7_hasWellNear_3 N 19 15 (nI f) (nI r) (mk L S) (k + 1) _ = _
      rw [lp_c7_hasWellNear_3.eq_2]
      simp (disch := omega) only [Option.bind_some, ↓ile_t, ↓ile_f, ↓ilt_t, ↓ilt_f, ↓ieq_t, ↓ieq_f, ↓iz_t, ↓iz_f, ↓iltz, ↓izle, ↓ilez_t, ↓ilez_f, ↓im1, ile_t, ile_f, ilt_t, ilt_f, ieq_t, ieq_f, iz_t, iz_f, iltz, izle, ilez_t, ilez_f, im1, gZ_0, gZ_1, e10, e00, ↓reduceIte, Sum.elim_inl, Sum.elim_inr, nI_1, nI_add, Int32.sub_zero, qc SA_19, qi0 SA_19, qs0 SA_19, qr1 SA_19, qr2 SA_19, qr3 SA_19, qr4 SA_19, qr5 SA_19, qi6 SA_19, qs6 SA_19, qi7 SA_19, qs7 SA_19, cv.1]
  unfold sDy
  unfold f_c7_hasWellNear
  rw [qc SA_19, Option.bind_some, ← nI_0, e]
  cases fstN (fun w => decide (sFar g f (vF v w) ≤ r)) 0 (vN v) with
  | none => rfl
  | some i => rfl
theorem M_isDry {f r : Nat} (cg : MG T g) (cv : MW T 145 v) (wg : WG g) (wv : WV g v) (hf : f < 1000) (hr : r < 1000) (hN : 900 ≤ N) : f_c11_isDry N 144 (nI f) (nI r) (mk L T) = some (if sDy g v r f then 1 else 0) := by
  have h8 := wv.1
  have e : lp_c11_isDry_2 N 144 (nI f) (nI r) (mk L T) N (nI 0) = some ((fun o : Option Nat => match o with | some _ => Sum.inl (0 : Int32) | none => Sum.inr ()) (fstN (fun w => decide (sFar g f (vF v w) ≤ r)) 0 (vN v))) := by
    refine lp_fst (Lp := fun k i => lp_c11_isDry_2 N 144 (nI f) (nI r) (mk L T) k (nI i)) (o := fun o => match o with | some _ => Sum.inl (0 : Int32) | none => Sum.inr ()) (n := vN v) (fun k i hi hp => ?_) (fun k i hi hp => ?_) (fun k => ?_) (vN v) N 0 (by omega) (by omega)
    · show lp_c11_isDry_2 N 144 (nI f) (nI r) (mk L T) (k + 1) _ = _
      rw [lp_c11_isDry_2.eq_2]
      have hp := of_decide_eq_false hp
      have hF := wv.F wg hi
      have l2 := sFar_le g f (vF v i)
      simp (disch := omega) only [Option.bind_some, ↓ile_t, ↓ile_f, ↓ilt_t, ↓ilt_f, ↓ieq_t, ↓ieq_f, ↓iz_t, ↓iz_f, ↓iltz, ↓izle, ↓ilez_t, ↓ilez_f, ↓im1, ile_t, ile_f, ilt_t, ilt_f, ieq_t, ieq_f, iz_t, iz_f, iltz, izle, ilez_t, ilez_f, im1, gZ_0, gZ_1, e10, e00, ↓reduceIte, Sum.elim_inl, Sum.elim_inr, nI_1, nI_add, Int32.sub_zero, zr144_0, k40, zg145, cv.1, (cv.2.2.2 i hi).1, M_farOf cg wg, sFar_comm g (vF v i) f]
    · show lp_c11_isDry_2 N 144 (nI f) (nI r) (mk L T) (k + 1) _ = _
      rw [lp_c11_isDry_2.eq_2]
      have hp := of_decide_eq_true hp
      have hF := wv.F wg hi
      simp (disch := omega) only [Option.bind_some, ↓ile_t, ↓ile_f, ↓ilt_t, ↓ilt_f, ↓ieq_t, ↓ieq_f, ↓iz_t, ↓iz_f, ↓iltz, ↓izle, ↓ilez_t, ↓ilez_f, ↓im1, ile_t, ile_f, ilt_t, ilt_f, ieq_t, ieq_f, iz_t, iz_f, iltz, izle, ilez_t, ilez_f, im1, gZ_0, gZ_1, e10, e00, ↓reduceIte, Sum.elim_inl, Sum.elim_inr, nI_1, nI_add, Int32.sub_zero, zr144_0, k40, zg145, cv.1, (cv.2.2.2 i hi).1, M_farOf cg wg, sFar_comm g (vF v i) f]
    · show lp_c11_isDry_2 N 144 (nI f) (nI r) (mk L T) (k + 1) _ = _
      rw [lp_c11_isDry_2.eq_2]
      simp (disch := omega) only [Option.bind_some, ↓ile_t, ↓ile_f, ↓ilt_t, ↓ilt_f, ↓ieq_t, ↓ieq_f, ↓iz_t, ↓iz_f, ↓iltz, ↓izle, ↓ilez_t, ↓ilez_f, ↓im1, ile_t, ile_f, ilt_t, ilt_f, ieq_t, ieq_f, iz_t, iz_f, iltz, izle, ilez_t, ilez_f, im1, gZ_0, gZ_1, e10, e00, ↓reduceIte, Sum.elim_inl, Sum.elim_inr, nI_1, nI_add, Int32.sub_zero, zr144_0, k40, zg145, cv.1]
  unfold sDy
  unfold f_c11_isDry
  rw [zc144, Option.bind_some, ← nI_0, e]
  cases fstN (fun w => decide (sFar g f (vF v w) ≤ r)) 0 (vN v) with
  | none => rfl
  | some i => rfl
theorem C_dry19 {r : Nat} (cg : CG S g) (cv : CV S 19 v) (wg : WG g) (wv : WV g v) (hr : r < 1000) (hN : 900 ≤ N) : lp_c10_dry_19 N 10 (nI r) (mk L S) N 0 0 0 = some (lN (lM (sDy g v r) (gRw g * gCo g)), nI (lC (sDy g v r) (gRw g * gCo g))) := by
  have h36 := wg.f
  have e : lp_c10_dry_19 N 10 (nI r) (mk L S) N (lN (lM (sDy g v r) 0)) (nI (lC (sDy g v r) 0)) (nI 0) = some (lN (lM (sDy g v r) (gRw g * gCo g)), nI (lC (sDy g v r) (gRw g * gCo g))) := by
    refine lp_seq (Lp := fun kk (s : Int64 × Int32) i => lp_c10_dry_19 N 10 (nI r) (mk L S) kk s.1 s.2 (nI i)) (sp := fun i => (lN (lM (sDy g v r) i), nI (lC (sDy g v r) i))) (n := gRw g * gCo g) (fun kk i hi => ?_) (fun kk => ?_) (by omega)
    · show lp_c10_dry_19 N 10 (nI r) (mk L S) (kk + 1) (lN (lM (sDy g v r) i)) (nI (lC (sDy g v r) i)) (nI i) = lp_c10_dry_19 N 10 (nI r) (mk L S) kk (lN (lM (sDy g v r) (i + 1))) (nI (lC (sDy g v r) (i + 1))) (nI (i + 1))
      rw [lp_c10_dry_19.eq_2, zr10_2, Option.bind_some, C_fields cg, Option.bind_some, ile_f hi (by omega), zr10_3, Option.bind_some, Option.bind_some, C_hasNear cg cv wg wv (by omega) hr hN, Option.bind_some]
      cases z : sDy g v r i with
      | true => rw [bfT, i00, Option.bind_some, lM_or (by omega) z, lC_t z, nI_1, nI_1]
      | false => rw [bfF, i10, Option.bind_some, lM_f z, lC_f z, nI_1]
    · show lp_c10_dry_19 N 10 (nI r) (mk L S) (kk + 1) _ _ _ = _
      rw [lp_c10_dry_19.eq_2, zr10_2, Option.bind_some, C_fields cg, Option.bind_some, ile_t (Nat.le_refl _) (by omega)]
  exact e
theorem C_dry70 {r : Nat} (cg : CG S g) (wg : WG g) (hN : 900 ≤ N) : lp_c10_dry_70 N 10 (lN (lM (sDy g v r) (gRw g * gCo g))) (mk L S) N 0 0 = some (nI (sDyV g v r (gVm g))) := by
  have h36 := wg.f
  have h6 := wg.2.2.2.2.1
  have e : lp_c10_dry_70 N 10 (lN (lM (sDy g v r) (gRw g * gCo g))) (mk L S) N (nI (sDyV g v r 0)) (nI 0) = some (nI (sDyV g v r (gVm g))) := by
    refine lp_seq (Lp := fun kk (s : Int32) i => lp_c10_dry_70 N 10 (lN (lM (sDy g v r) (gRw g * gCo g))) (mk L S) kk s (nI i)) (sp := fun i => nI (sDyV g v r i)) (n := gVm g) (fun kk i hi => ?_) (fun kk => ?_) (by omega)
    · show lp_c10_dry_70 N 10 (lN (lM (sDy g v r) (gRw g * gCo g))) (mk L S) (kk + 1) _ _ = lp_c10_dry_70 N 10 (lN (lM (sDy g v r) (gRw g * gCo g))) (mk L S) kk (nI (sDyV g v r i + (if sDy g v r (gHm g i) then 1 else 0))) (nI (i + 1))
      rw [lp_c10_dry_70.eq_2, zr10_2, Option.bind_some, zi15_2, Option.bind_some, cg.2.2.1, ile_f hi (by omega), Option.bind_some, zr15_3, Option.bind_some, zg16 (by omega), Option.bind_some, (cg.2.2.2.1 i hi).1, lM_get (by omega) (wg.2.2.2.2.2 i hi).1, lN_i, nI_add, nI_1]
    · show lp_c10_dry_70 N 10 (lN (lM (sDy g v r) (gRw g * gCo g))) (mk L S) (kk + 1) _ _ = _
      rw [lp_c10_dry_70.eq_2, zr10_2, Option.bind_some, zi15_2, Option.bind_some, cg.2.2.1, ile_t (Nat.le_refl _) (by omega)]
  exact e
theorem M_dry27 {r : Nat} (cg : MG T g) (cv : MW T 145 v) (wg : WG g) (wv : WV g v) (hr : r < 1000) (hN : 900 ≤ N) : lp_c11_dry_27 N 144 (nI r) (mk L T) N 0 0 = some (lN (lM (sDy g v r) (gRw g * gCo g))) := by
  have h36 := wg.f
  have e : lp_c11_dry_27 N 144 (nI r) (mk L T) N (lN (lM (sDy g v r) 0)) (nI 0) = some (lN (lM (sDy g v r) (gRw g * gCo g))) := by
    refine lp_seq (Lp := fun kk (s : Int64) i => lp_c11_dry_27 N 144 (nI r) (mk L T) kk s (nI i)) (sp := fun i => lN (lM (sDy g v r) i)) (n := gRw g * gCo g) (fun kk i hi => ?_) (fun kk => ?_) (by omega)
    · show lp_c11_dry_27 N 144 (nI r) (mk L T) (kk + 1) (lN (lM (sDy g v r) i)) (nI i) = lp_c11_dry_27 N 144 (nI r) (mk L T) kk (lN (lM (sDy g v r) (i + 1))) (nI (i + 1))
      rw [lp_c11_dry_27.eq_2, M_fields cg, Option.bind_some, ile_f hi (by omega), M_isDry cg cv wg wv (by omega) hr hN, Option.bind_some]
      cases z : sDy g v r i with
      | true => rw [bfT, i10, lM_or (by omega) z, nI_1]
      | false => rw [bfF, i00, lM_f z, nI_1, Int64.or_zero]
    · show lp_c11_dry_27 N 144 (nI r) (mk L T) (kk + 1) _ _ = _
      rw [lp_c11_dry_27.eq_2, M_fields cg, Option.bind_some, ile_t (Nat.le_refl _) (by omega)]
  exact e
theorem M_dry66 {r : Nat} (cg : MG T g) (cv : MW T 145 v) (wg : WG g) (wv : WV g v) (hr : r < 1000) (hN : 900 ≤ N) : lp_c11_dry_66 N 144 (nI r) (mk L T) N 0 0 = some (nI (sDyV g v r (gVm g))) := by
  have h36 := wg.f
  have h6 := wg.2.2.2.2.1
  have e : lp_c11_dry_66 N 144 (nI r) (mk L T) N (nI (sDyV g v r 0)) (nI 0) = some (nI (sDyV g v r (gVm g))) := by
    refine lp_seq (Lp := fun kk (s : Int32) i => lp_c11_dry_66 N 144 (nI r) (mk L T) kk s (nI i)) (sp := fun i => nI (sDyV g v r i)) (n := gVm g) (fun kk i hi => ?_) (fun kk => ?_) (by omega)
    · show lp_c11_dry_66 N 144 (nI r) (mk L T) (kk + 1) _ _ = lp_c11_dry_66 N 144 (nI r) (mk L T) kk (nI (sDyV g v r i + (if sDy g v r (gHm g i) then 1 else 0))) (nI (i + 1))
      have hH := wg.H hi
      rw [lp_c11_dry_66.eq_2, zi144_3, Option.bind_some, cg.2.2.1, ile_f hi (by omega), zr144_4, Option.bind_some, zg146 (by omega), Option.bind_some, (cg.2.2.2 i hi).1, M_isDry cg cv wg wv (by omega) hr hN, Option.bind_some]
      cases z : sDy g v r (gHm g i) with
      | true => rw [bfT, i10, bfT, nI_1, nI_1]
      | false =>
        rw [bfF, i00, bfF, nI_1, Int32.add_zero]
        rfl
    · show lp_c11_dry_66 N 144 (nI r) (mk L T) (kk + 1) _ _ = _
      rw [lp_c11_dry_66.eq_2, zi144_3, Option.bind_some, cg.2.2.1, ile_t (Nat.le_refl _) (by omega)]
  exact e
theorem A_dry {y : Int32} (w : WA A) (q : CA S A) (m : MA S A c) (hN : 900 ≤ N) : Agr L S c (f_c10_dry N 10 y) (f_c11_dry N 144 y) := by
  obtain ⟨g, v, x, l, u, n, k, h⟩ := A
  have wv : WV g v := w.2.1
  have wg : WG g := w.1
  have h36 := wg.f
  rcases (show (y < 0 ∨ (¬ y < 0 ∧ ¬ y ≤ 10)) ∨ ∃ d, 0 ≤ d ∧ d ≤ 10 ∧ y = nI d from cas y 0 10 (by omega) (by omega)) with hy | ⟨d, -, d2, rfl⟩
  · refine AgrR w q m (r := -1) ?_ (fun T _ t1 => ?_)
    · unfold f_c10_dry
      rw [zc10, Option.bind_some, C_isFar_f hy, Option.bind_some, if_pos rfl]
    · unfold f_c11_dry
      rw [zc144, Option.bind_some, zs144_10, Option.bind_some, M_inF (N := N) hy, Option.bind_some, if_pos rfl]
  · obtain ⟨S2, e2, q2, f2⟩ := C_tell2A (L := L) (N := N) (r := 0) (y := (nI (lC (sDy g v d) (gRw g * gCo g))).toInt64) (z := (nI (sDyV g v d (gVm g))).toInt64) q
    refine AgrI (c' := c) m (r := lN (lM (sDy g v d) (gRw g * gCo g))) (S1 := S2) ?_ f2 q2 (w.rw (by show 2 ≤ 8; omega)) (by omega) (fun T mt => ?_)
    · unfold f_c10_dry
      rw [zc10, Option.bind_some, C_isFar_t d2, Option.bind_some, if_neg (show ¬ (1 : Int32) = 0 by decide), C_dry19 q.1 q.2.1 wg wv (by omega) hN, Option.bind_some, C_dry70 q.1 wg hN, Option.bind_some, e2, Option.bind_some]
    · have t1 := mt.thr
      have ei : ∀ T : gS, f_c11_in N (nI d) 0 10 (mk L T) = some 1 := fun T => M_inT (lo := 0) (hi := 10) (by omega) d2 (by omega)
      obtain ⟨T1, g1, t2, h1, k1'⟩ := M_t1 (L := L) (N := N) (y := (nI (lC (sDy g v d) (gRw g * gCo g))).toInt64) t1
      obtain ⟨T2, g2, t3, h2, k2'⟩ := M_t2 (L := L) (N := N) (z := (nI (sDyV g v d (gVm g))).toInt64) t2
      refine ⟨T2, ?_, highTr thrH (highTr h1 h2), t3⟩
      unfold f_c11_dry
      rw [zc144, Option.bind_some, zs144_10, Option.bind_some, ei, Option.bind_some, if_neg (show ¬ (1 : Int32) = 0 by decide), M_dry27 t1.1 t1.2.1 wg wv (by omega) hN, Option.bind_some, M_dry66 t1.1 t1.2.1 wg wv (by omega) hN, Option.bind_some, zs144_9, Option.bind_some, j_n (n := gRw g * gCo g) (by omega), Option.bind_some, g1, Option.bind_some, g2, Option.bind_some]
end DRY
