/-! CALLS: fits -/
def hAll (g : pG) (v : pV) (h : pH) (i w : Nat) : Prop := ∀ j, j < i → hFit g v (h.2.1 j) (h.2.2 j) w
section FITSE
variable {L N : Nat} {S T : gS} {c : Nat} {g : pG} {v : pV} {x : pX} {l : List Int64} {u : pX} {n : pN} {k : Nat → Option pV} {h : pH} {A : pA}
theorem C_narrow {p : Nat → Prop} {t y : Nat} (cg : CG S g) (cv : CV S 19 v) (wg : WG g) (wv : WV g v) (ht : t ≤ 4) (hy : y < 1000) (hN : 900 ≤ N) : f_c2_narrow N 128 (bMask p (vN v)) (nI t) (nI y) 19 15 (mk L S) = some (bMask (fun w => p w ∧ hFit g v t y w) (vN v)) := by
  have h8 := wv.1
  have e : lp_c2_narrow_6 N 128 (bMask p (vN v)) (nI t) (nI y) 19 15 (mk L S) N 0 (nI 0) = some (bMask (fun w => p w ∧ hFit g v t y w) (vN v)) := by
    refine lp_seq (Lp := fun kk (s : Int32) i => lp_c2_narrow_6 N 128 (bMask p (vN v)) (nI t) (nI y) 19 15 (mk L S) kk s (nI i)) (sp := fun i => bMask (fun w => p w ∧ hFit g v t y w) i) (n := vN v) (fun kk i hi => ?_) (fun kk => ?_) (by omega)
    · show lp_c2_narrow_6 N 128 (bMask p (vN v)) (nI t) (nI y) 19 15 (mk L S) (kk + 1) _ _ = _
      obtain ⟨r, er, hr⟩ := C_isSo (L := L) (N := N) (t := t) (y := y) cg cv wg wv ht hy hi hN
      have hb := bMask_bit (p := p) (n := vN v) (j := i) (by omega) (by omega)
      rw [lp_c2_narrow_6.eq_2, qi0 SA_19, cv.1, Option.bind_some, ile_f hi (by omega)]
      by_cases z : p i
      · rw [if_pos (hb.mpr ⟨hi, z⟩), er]
        rcases hr with ⟨h1, h2⟩ | ⟨h1, h2⟩
        · rw [bMask_t (p := fun w => p w ∧ hFit g v t y w) ⟨z, h1⟩]
          simp (disch := omega) only [Option.bind_some, ↓ile_t, ↓ile_f, ↓ilt_t, ↓ilt_f, ↓ieq_t, ↓ieq_f, ↓iz_t, ↓iz_f, ↓iltz, ↓izle, ↓ilez_t, ↓ilez_f, ↓im1, ile_t, ile_f, ilt_t, ilt_f, ieq_t, ieq_f, iz_t, iz_f, iltz, izle, ilez_t, ilez_f, im1, gZ_0, gZ_1, e10, e00, ↓reduceIte, Sum.elim_inl, Sum.elim_inr, nI_1, nI_add, Int32.sub_zero, h2]
        · rw [bMask_f (p := fun w => p w ∧ hFit g v t y w) (fun q => h1 q.2)]
          simp (disch := omega) only [Option.bind_some, ↓ile_t, ↓ile_f, ↓ilt_t, ↓ilt_f, ↓ieq_t, ↓ieq_f, ↓iz_t, ↓iz_f, ↓iltz, ↓izle, ↓ilez_t, ↓ilez_f, ↓im1, ile_t, ile_f, ilt_t, ilt_f, ieq_t, ieq_f, iz_t, iz_f, iltz, izle, ilez_t, ilez_f, im1, gZ_0, gZ_1, e10, e00, ↓reduceIte, Sum.elim_inl, Sum.elim_inr, nI_1, nI_add, Int32.sub_zero, h2, eq_self_iff_true]
      · rw [if_neg (fun q => z (hb.mp q).2), bMask_f (p := fun w => p w ∧ hFit g v t y w) (fun q => z q.1)]
        simp (disch := omega) only [Option.bind_some, ↓ile_t, ↓ile_f, ↓ilt_t, ↓ilt_f, ↓ieq_t, ↓ieq_f, ↓iz_t, ↓iz_f, ↓iltz, ↓izle, ↓ilez_t, ↓ilez_f, ↓im1, ile_t, ile_f, ilt_t, ilt_f, ieq_t, ieq_f, iz_t, iz_f, iltz, izle, ilez_t, ilez_f, im1, gZ_0, gZ_1, e10, e00, ↓reduceIte, Sum.elim_inl, Sum.elim_inr, nI_1, nI_add, Int32.sub_zero, ]
    · show lp_c2_narrow_6 N 128 (bMask p (vN v)) (nI t) (nI y) 19 15 (mk L S) (kk + 1) _ _ = _
      rw [lp_c2_narrow_6.eq_2, qi0 SA_19, cv.1, Option.bind_some, ile_t (Nat.le_refl _) (by omega)]
  rw [nI_0] at e
  unfold f_c2_narrow
  rw [zc128, Option.bind_some, e, Option.bind_some]
theorem hOk_y {t y : Nat} (q : hOk t y) : t ≤ 4 ∧ y < 1000 ∧ (t = 4 → y < 32) := by
  obtain ⟨h1, h2, h3, h4, h5⟩ := q
  refine ⟨h1, ?_, fun e => by have := h5 (by omega); omega⟩
  rcases (show t = 0 ∨ t = 1 ∨ t = 2 ∨ 3 ≤ t by omega) with z | z | z | z
  · have := h2 z; omega
  · have := h3 z; omega
  · have := h4 z; omega
  · have := h5 z; omega
theorem C_fitting (q : CA S (g, v, x, l, u, n, k, h)) (w : WA (g, v, x, l, u, n, k, h)) (hN : 900 ≤ N) : f_c2_fitting N 128 19 15 (mk L S) = some (bMask (hAll g v h h.1) (vN v)) := by
  have wv : WV g v := w.2.1
  have wg : WG g := w.1
  have h8 := wv.1
  have wh : HOk h := w.2.2.2.2.2.2.2
  have h12 := wh.1
  have cv : CV S 19 v := q.2.1
  have ch : CH S h := q.2.2.2.2.2.2.2
  have e : lp_c2_fitting_12 N 128 19 15 (mk L S) N (bMask (hAll g v h 0) (vN v)) (nI 0) = some (bMask (hAll g v h h.1) (vN v)) := by
    refine lp_seq (Lp := fun kk (s : Int32) i => lp_c2_fitting_12 N 128 19 15 (mk L S) kk s (nI i)) (sp := fun i => bMask (hAll g v h i) (vN v)) (n := h.1) (fun kk i hi => ?_) (fun kk => ?_) (by omega)
    · show lp_c2_fitting_12 N 128 19 15 (mk L S) (kk + 1) _ _ = _
      obtain ⟨a1, a2, -⟩ := hOk_y (wh.2 i hi)
      obtain ⟨b1, b2⟩ := ch.2 i hi
      rw [lp_c2_fitting_12.eq_2, zi128_2, Option.bind_some, ch.1, ile_f hi (by omega), zr128_0, Option.bind_some, zg129 (by omega), b1, Option.bind_some, zr128_1, Option.bind_some, zg130 (by omega), b2, Option.bind_some, C_narrow q.1 cv wg wv a1 a2 hN, Option.bind_some, nI_1]
      rw [bMask_ext (p := fun w => hAll g v h i w ∧ hFit g v (h.2.1 i) (h.2.2 i) w) (p' := hAll g v h (i + 1)) _ (fun j _ => ⟨fun z t ht => by
        by_cases y : t = i
        · rw [y]; exact z.2
        · exact z.1 t (by omega), fun z => ⟨fun t ht => z t (by omega), z i (by omega)⟩⟩)]
    · show lp_c2_fitting_12 N 128 19 15 (mk L S) (kk + 1) _ _ = _
      rw [lp_c2_fitting_12.eq_2, zi128_2, Option.bind_some, ch.1, ile_t (Nat.le_refl _) (by omega)]
  have e0 : bMask (hAll g v h 0) (vN v) = bMask (fun _ => True) (vN v) := bMask_ext _ (fun j _ => ⟨fun _ => trivial, fun _ t ht => by omega⟩)
  rw [e0, ← bMask_all (by exact h8), nI_0] at e
  unfold f_c2_fitting
  rw [zc128, Option.bind_some, qi0 SA_19, cv.1, Option.bind_some, e, Option.bind_some]
theorem M_fitting (q : MA T (g, v, x, l, u, n, k, h) c) (w : WA (g, v, x, l, u, n, k, h)) (hN : 900 ≤ N) : f_c11_fitting N 144 (mk L T) = some (bMask (hAll g v h h.1) (vN v)) := by
  have wv : WV g v := w.2.1
  have wg : WG g := w.1
  have h8 := wv.1
  have wh : HOk h := w.2.2.2.2.2.2.2
  have h12 := wh.1
  have cv : MW T 145 v := q.2.1
  have ch : MH T h := q.2.2.2.2.2.2.2
  have inner : ∀ i, i < vN v → ∃ r, lp_c11_fitting_20 N 144 (nI i) (mk L T) N 1 (nI 0) = some r ∧ isB r (hAll g v h h.1 i) := by
    intro i hi
    refine lp_inv (Lp := fun kk (s : Int32) j => lp_c11_fitting_20 N 144 (nI i) (mk L T) kk s (nI j)) (n := h.1) (P := fun j s => isB s (hAll g v h j i)) (fun kk j s hj hs => Or.inr ?_) (fun kk s hs => ⟨s, ?_, hs⟩) h.1 N 0 1 (by omega) (by omega) (Or.inl ⟨fun t ht => by omega, rfl⟩)
    · show ∃ s', lp_c11_fitting_20 N 144 (nI i) (mk L T) (kk + 1) s (nI j) = lp_c11_fitting_20 N 144 (nI i) (mk L T) kk s' (nI (j + 1)) ∧ _
      obtain ⟨a1, a2, a3⟩ := hOk_y (wh.2 j hj)
      obtain ⟨b1, b2⟩ := ch.2 j hj
      obtain ⟨r, er, hr⟩ := M_fits (L := L) (N := N) q.1 cv wg wv a1 a2 a3 hi hN
      rw [lp_c11_fitting_20.eq_2, zi144_34, Option.bind_some, ch.1, ile_f hj (by omega)]
      rcases hs with ⟨s1, s2⟩ | ⟨s1, s2⟩
      · rw [s2, if_neg (show ¬ (1 : Int32) = 0 by decide), zr144_32, Option.bind_some, zg163 (by omega), b1, Option.bind_some, zr144_33, Option.bind_some, zg164 (by omega), b2, Option.bind_some, er, Option.bind_some]
        rcases hr with ⟨h1, h2⟩ | ⟨h1, h2⟩
        · refine ⟨1, ?_, Or.inl ⟨fun t ht => ?_, rfl⟩⟩
          · simp (disch := omega) only [Option.bind_some, ↓ile_t, ↓ile_f, ↓ilt_t, ↓ilt_f, ↓ieq_t, ↓ieq_f, ↓iz_t, ↓iz_f, ↓iltz, ↓izle, ↓ilez_t, ↓ilez_f, ↓im1, ile_t, ile_f, ilt_t, ilt_f, ieq_t, ieq_f, iz_t, iz_f, iltz, izle, ilez_t, ilez_f, im1, gZ_0, gZ_1, e10, e00, ↓reduceIte, Sum.elim_inl, Sum.elim_inr, nI_1, nI_add, Int32.sub_zero, h2]
          · by_cases y : t = j
            · rw [y]; exact h1
            · exact s1 t (by omega)
        · refine ⟨0, ?_, Or.inr ⟨fun f => h1 (f j (by omega)), rfl⟩⟩
          simp (disch := omega) only [Option.bind_some, ↓ile_t, ↓ile_f, ↓ilt_t, ↓ilt_f, ↓ieq_t, ↓ieq_f, ↓iz_t, ↓iz_f, ↓iltz, ↓izle, ↓ilez_t, ↓ilez_f, ↓im1, ile_t, ile_f, ilt_t, ilt_f, ieq_t, ieq_f, iz_t, iz_f, iltz, izle, ilez_t, ilez_f, im1, gZ_0, gZ_1, e10, e00, ↓reduceIte, Sum.elim_inl, Sum.elim_inr, nI_1, nI_add, Int32.sub_zero, h2, eq_self_iff_true]
      · refine ⟨0, ?_, Or.inr ⟨fun f => s1 (fun t ht => f t (by omega)), rfl⟩⟩
        rw [s2, if_pos (show (0 : Int32) = 0 from rfl)]
        simp (disch := omega) only [Option.bind_some, ↓ile_t, ↓ile_f, ↓ilt_t, ↓ilt_f, ↓ieq_t, ↓ieq_f, ↓iz_t, ↓iz_f, ↓iltz, ↓izle, ↓ilez_t, ↓ilez_f, ↓im1, ile_t, ile_f, ilt_t, ilt_f, ieq_t, ieq_f, iz_t, iz_f, iltz, izle, ilez_t, ilez_f, im1, gZ_0, gZ_1, e10, e00, ↓reduceIte, Sum.elim_inl, Sum.elim_inr, nI_1, nI_add, Int32.sub_zero, ]
    · show lp_c11_fitting_20 N 144 (nI i) (mk L T) (kk + 1) s (nI h.1) = _
      rw [lp_c11_fitting_20.eq_2, zi144_34, Option.bind_some, ch.1, ile_t (Nat.le_refl _) (by omega)]
  have e : lp_c11_fitting_4 N 144 (mk L T) N 0 (nI 0) = some (bMask (hAll g v h h.1) (vN v)) := by
    refine lp_seq (Lp := fun kk (s : Int32) i => lp_c11_fitting_4 N 144 (mk L T) kk s (nI i)) (sp := fun i => bMask (hAll g v h h.1) i) (n := vN v) (fun kk i hi => ?_) (fun kk => ?_) (by omega)
    · show lp_c11_fitting_4 N 144 (mk L T) (kk + 1) _ _ = _
      obtain ⟨r, er, hr⟩ := inner i hi
      rw [nI_0] at er
      rw [lp_c11_fitting_4.eq_2, zr144_0, Option.bind_some, k40, zg145 (by omega), cv.1, Option.bind_some, ile_f hi (by omega), er, Option.bind_some, nI_1]
      rcases hr with ⟨h1, h2⟩ | ⟨h1, h2⟩
      · rw [h2, if_neg (show ¬ (1 : Int32) = 0 by decide), bMask_t h1]
      · rw [h2, if_pos (show (0 : Int32) = 0 from rfl), bMask_f h1, Int32.or_zero]
    · show lp_c11_fitting_4 N 144 (mk L T) (kk + 1) _ _ = _
      rw [lp_c11_fitting_4.eq_2, zr144_0, Option.bind_some, k40, zg145 (by omega), cv.1, Option.bind_some, ile_t (Nat.le_refl _) (by omega)]
  rw [nI_0] at e
  unfold f_c11_fitting
  rw [zc144, Option.bind_some, e, Option.bind_some]
theorem A_fits (w : WA A) (q : CA S A) (m : MA S A c) (hN : 900 ≤ N) : Agr L S c (f_c10_fits N 10) (f_c11_fits2 N 144) := by
  obtain ⟨g, v, x, l, u, n, k, h⟩ := A
  have eC := C_fitting (L := L) (N := N) q w hN
  obtain ⟨S2, e2, q2, f2⟩ := C_tell1A (L := L) (N := N) (r := bMask (hAll g v h h.1) (vN v)) (y := (bitC (bMask (hAll g v h h.1) (vN v))).toInt64) q
  refine AgrI (c' := c) m (r := bMask (hAll g v h h.1) (vN v)) (S1 := S2) ?_ f2 q2 (w.rw (by show 1 ≤ 8; omega)) (by omega) (fun T mt => ?_)
  · unfold f_c10_fits
    simp (disch := omega) only [Option.bind_some, ↓ile_t, ↓ile_f, ↓ilt_t, ↓ilt_f, ↓ieq_t, ↓ieq_f, ↓iz_t, ↓iz_f, ↓iltz, ↓izle, ↓ilez_t, ↓ilez_f, ↓im1, ile_t, ile_f, ilt_t, ilt_f, ieq_t, ieq_f, iz_t, iz_f, iltz, izle, ilez_t, ilez_f, im1, gZ_0, gZ_1, e10, e00, ↓reduceIte, Sum.elim_inl, Sum.elim_inr, nI_1, nI_add, Int32.sub_zero, zc10, zr10_0, zr10_1, zr10_2, zr10_3, zr10_4, zr10_5, zr10_6, zr10_7, zr10_8, zr10_9, zr10_10, zs10_11, zs10_12, eC, bitC_e, e2]
  · have t1 := mt.thr
    have eM := M_fitting (L := L) (N := N) t1 w hN
    obtain ⟨T1, g1, t2, h1, k1'⟩ := M_t1 (L := L) (N := N) (y := (bitC (bMask (hAll g v h h.1) (vN v))).toInt64) t1
    refine ⟨T1, ?_, highTr thrH h1, t2⟩
    unfold f_c11_fits2
    rw [zc144, Option.bind_some, zs144_10, Option.bind_some, eM, Option.bind_some, zs144_9, Option.bind_some, bitC_e, Option.bind_some, g1, Option.bind_some]
end FITSE
