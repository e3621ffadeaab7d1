/-! CALLS that look at seasons to come -/
section TRIALS2
variable {L N : Nat} {S T : gS} {c : Nat} {A : pA}
theorem oI_lt {o : Option Nat} : oI o = -1 ∨ ∃ i, o = some i := by
  cases o with
  | none => exact Or.inl rfl
  | some i => exact Or.inr ⟨i, rfl⟩
-- drinks
theorem A_drinks {p y : Int32} (w : WA A) (q : CA S A) (m : MA S A c) (hN : 900 ≤ N) : Agr L S c (f_c10_drinks N 10 p y) (f_c11_drinks N 144 p y) := by
  obtain ⟨g, v, x, l, u, n, k, h⟩ := A
  have wv : WV g v := w.2.1
  have wg : WG g := w.1
  have h6 := wg.2.2.2.2.1
  obtain ⟨code, hc⟩ : ∃ code, ruleCode u.2 u.1 = .inl code := w.2.2.2.2.1.2
  rcases in_or (n := gVm g) p (by omega) with ⟨i, hi, rfl⟩ | hp
  · have e0 := C_hasV_t (L := L) (N := N) q.1 wg hi
    rcases (show (y < 1 ∨ (¬ y < 1 ∧ ¬ y ≤ 99)) ∨ ∃ d, 1 ≤ d ∧ d ≤ 99 ∧ y = nI d from cas y 1 99 (by omega) (by omega)) with hy | ⟨d, hd1, hd, rfl⟩
    · refine AgrR w q m (r := -1) ?_ (fun T _ t1 => ?_)
      · rcases hy with hy | ⟨h1, hy⟩
        · simp (disch := omega) only [Option.bind_some, ↓ile_t, ↓ile_f, ↓ilt_t, ↓ilt_f, ↓ieq_t, ↓ieq_f, ↓iz_t, ↓iz_f, ↓iltz, ↓izle, ↓ilez_t, ↓ilez_f, ↓im1, ile_t, ile_f, ilt_t, ilt_f, ieq_t, ieq_f, iz_t, iz_f, iltz, izle, ilez_t, ilez_f, im1, gZ_0, gZ_1, e10, e00, ↓reduceIte, Sum.elim_inl, Sum.elim_inr, nI_1, nI_add, Int32.sub_zero, f_c10_drinks, zc10, zr10_0, zr10_1, zr10_2, zr10_3, zr10_4, zr10_5, zr10_6, zr10_7, zr10_8, zr10_9, zr10_10, zs10_11, zs10_12, e0, if_pos hy]
        · simp (disch := omega) only [Option.bind_some, ↓ile_t, ↓ile_f, ↓ilt_t, ↓ilt_f, ↓ieq_t, ↓ieq_f, ↓iz_t, ↓iz_f, ↓iltz, ↓izle, ↓ilez_t, ↓ilez_f, ↓im1, ile_t, ile_f, ilt_t, ilt_f, ieq_t, ieq_f, iz_t, iz_f, iltz, izle, ilez_t, ilez_f, im1, gZ_0, gZ_1, e10, e00, ↓reduceIte, Sum.elim_inl, Sum.elim_inr, nI_1, nI_add, Int32.sub_zero, f_c10_drinks, zc10, zr10_0, zr10_1, zr10_2, zr10_3, zr10_4, zr10_5, zr10_6, zr10_7, zr10_8, zr10_9, zr10_10, zs10_11, zs10_12, e0, if_neg h1, if_neg hy]
      · simp (disch := omega) only [Option.bind_some, ↓ile_t, ↓ile_f, ↓ilt_t, ↓ilt_f, ↓ieq_t, ↓ieq_f, ↓iz_t, ↓iz_f, ↓iltz, ↓izle, ↓ilez_t, ↓ilez_f, ↓im1, ile_t, ile_f, ilt_t, ilt_f, ieq_t, ieq_f, iz_t, iz_f, iltz, izle, ilez_t, ilez_f, im1, gZ_0, gZ_1, e10, e00, ↓reduceIte, Sum.elim_inl, Sum.elim_inr, nI_1, nI_add, Int32.sub_zero, f_c11_drinks, zc144, zs144_10, M_isVillage_t t1.1 wg hi, M_inF (N := N) hy, eq_self_iff_true]
    · have c1 : nI d ≤ 99 := nI_le (b := 99) hd (by omega)
      have c2 : ¬ nI d < 1 := nI_nlt (b := 1) hd1 (by omega)
      obtain ⟨S1, e1, q1, s1, f1, d1⟩ := C_try (L := L) (N := N) (d := d) q w hc (by omega) hN
      obtain ⟨x1, x2⟩ := d1 (d - 1) (by omega) i hi
      obtain ⟨S2, e2, q2, f2⟩ := C_tell1A (L := L) (N := N) (r := nI (sDrew code g (vSeas code g v (d - 1)) i)) (y := (oI (sDrFr code g (vSeas code g v (d - 1)) i)).toInt64) q1
      have wr := w.rw (l' := [(oI (sDrFr code g (vSeas code g v (d - 1)) i)).toInt64]) (by show 1 ≤ 8; omega)
      refine AgrI (c' := c) m (S1 := S2) (r := nI (sDrew code g (vSeas code g v (d - 1)) i)) ?_ (lowTr f1 f2) q2 wr (by omega) (fun T mt => ?_)
      · simp (disch := omega) only [Option.bind_some, ↓ile_t, ↓ile_f, ↓ilt_t, ↓ilt_f, ↓ieq_t, ↓ieq_f, ↓iz_t, ↓iz_f, ↓iltz, ↓izle, ↓ilez_t, ↓ilez_f, ↓im1, ile_t, ile_f, ilt_t, ilt_f, ieq_t, ieq_f, iz_t, iz_f, iltz, izle, ilez_t, ilez_f, im1, gZ_0, gZ_1, e10, e00, ↓reduceIte, Sum.elim_inl, Sum.elim_inr, nI_1, nI_add, Int32.sub_zero, f_c10_drinks, zc10, zr10_0, zr10_1, zr10_2, zr10_3, zr10_4, zr10_5, zr10_6, zr10_7, zr10_8, zr10_9, zr10_10, zs10_11, zs10_12, e0, if_neg c2, if_pos c1, e1, zc37, zr37_0, zr37_1, zg38, x1, zg39, x2, e2]
      · have t1 := mt.thr
        obtain ⟨T1, a1, t2, m1, g1⟩ := M_then (L := L) (N := N) t1 w hN
        obtain ⟨T2, a2, t3, m2, g2, d2⟩ := M_go156 (L := L) (N := N) (d := d) t2 w hc m1 wv (by omega) hN
        obtain ⟨y1, y2⟩ := d2 (d - 1) (by omega) i hi
        obtain ⟨T3, a3, t4, g3, k3⟩ := M_t1 (L := L) (N := N) (y := (oI (sDrFr code g (vSeas code g v (d - 1)) i)).toInt64) t3
        have y1' : T3.1 158 i = nI (sDrew code g (vSeas code g v (d - 1)) i) := (k3.i (by omega) (by show ¬ _ = _; omega) i).trans ((rdI_ne (by omega)).trans y1)
        have ei : f_c11_in N (nI d) 1 99 (mk L (stI T 144 10 0)) = some 1 := M_inT (lo := 1) (hi := 99) hd1 hd (by omega)
        refine ⟨T3, ?_, highTr thrH (highTr g1 (highTr g2 g3)), t4⟩
        simp (disch := omega) only [Option.bind_some, ↓ile_t, ↓ile_f, ↓ilt_t, ↓ilt_f, ↓ieq_t, ↓ieq_f, ↓iz_t, ↓iz_f, ↓iltz, ↓izle, ↓ilez_t, ↓ilez_f, ↓im1, ile_t, ile_f, ilt_t, ilt_f, ieq_t, ieq_f, iz_t, iz_f, iltz, izle, ilez_t, ilez_f, im1, gZ_0, gZ_1, e10, e00, ↓reduceIte, Sum.elim_inl, Sum.elim_inr, nI_1, nI_add, Int32.sub_zero, f_c11_drinks, zc144, zs144_10, M_isVillage_t t1.1 wg hi, ei, zr144_0, zr144_25, a1, a2, zs144_9, zr144_28, zg159, rdI_ne, y2, a3, zr144_27, zg158, y1']
  · refine AgrR w q m (r := -1) ?_ (fun T _ t1 => ?_)
    · simp (disch := omega) only [Option.bind_some, ↓ile_t, ↓ile_f, ↓ilt_t, ↓ilt_f, ↓ieq_t, ↓ieq_f, ↓iz_t, ↓iz_f, ↓iltz, ↓izle, ↓ilez_t, ↓ilez_f, ↓im1, ile_t, ile_f, ilt_t, ilt_f, ieq_t, ieq_f, iz_t, iz_f, iltz, izle, ilez_t, ilez_f, im1, gZ_0, gZ_1, e10, e00, ↓reduceIte, Sum.elim_inl, Sum.elim_inr, nI_1, nI_add, Int32.sub_zero, f_c10_drinks, zc10, zr10_0, zr10_1, zr10_2, zr10_3, zr10_4, zr10_5, zr10_6, zr10_7, zr10_8, zr10_9, zr10_10, zs10_11, zs10_12, C_hasV_f (L := L) (N := N) q.1 hp]
    · simp (disch := omega) only [Option.bind_some, ↓ile_t, ↓ile_f, ↓ilt_t, ↓ilt_f, ↓ieq_t, ↓ieq_f, ↓iz_t, ↓iz_f, ↓iltz, ↓izle, ↓ilez_t, ↓ilez_f, ↓im1, ile_t, ile_f, ilt_t, ilt_f, ieq_t, ieq_f, iz_t, iz_f, iltz, izle, ilez_t, ilez_f, im1, gZ_0, gZ_1, e10, e00, ↓reduceIte, Sum.elim_inl, Sum.elim_inr, nI_1, nI_add, Int32.sub_zero, f_c11_drinks, zc144, zs144_10, M_isVillage_f t1.1 wg hp, eq_self_iff_true]
-- richest
def sRich (v : pV) : Nat → Nat
  | 0 => 0
  | i + 1 => if vT v (i + 1) ≤ vT v (sRich v i) then sRich v i else i + 1
theorem sRich_le {v : pV} : ∀ i, sRich v i ≤ i := by
  intro i
  induction i with
  | zero => exact Nat.le_refl _
  | succ i ih =>
    unfold sRich
    split <;> omega
theorem C_rich {g : pG} {v : pV} (hs : CV S 31 v) (hv : WV g v) (h0 : vN v ≠ 0) (hN : 900 ≤ N) : lp_c10_richest_35 N 10 (mk L S) N 0 1 = some (nI (sRich v (vN v - 1))) := by
  have h8 := hv.1
  obtain ⟨r, e, er⟩ := lp_inv (Lp := fun k (s : Int32) i => lp_c10_richest_35 N 10 (mk L S) k s (nI i)) (n := vN v) (P := fun i s => 1 ≤ i ∧ s = nI (sRich v (i - 1))) (Q := fun r => r = nI (sRich v (vN v - 1)))
    (fun k i s hi hs' => Or.inr (by
      obtain ⟨h1, rfl⟩ := hs'
      refine ⟨nI (sRich v i), ?_, by omega, by rw [Nat.add_sub_cancel]⟩
      have hl := sRich_le (v := v) (i - 1)
      have eR : sRich v i = if vT v i ≤ vT v (sRich v (i - 1)) then sRich v (i - 1) else i := by
        obtain ⟨j, rfl⟩ : ∃ j, i = j + 1 := ⟨i - 1, by omega⟩
        rfl
      have t1 := (hv.2.2 i hi).2.2.2.2.2
      have t2 := (hv.2.2 (sRich v (i - 1)) (by omega)).2.2.2.2.2
      have x1 : S.1 36 i = nI (vT v i) := (hs.2.2.2 i hi).2.2.2.2
      have x2 : S.1 36 (sRich v (i - 1)) = nI (vT v (sRich v (i - 1))) := (hs.2.2.2 _ (by omega)).2.2.2.2
      show lp_c10_richest_35 N 10 (mk L S) (k + 1) _ _ = _
      rw [lp_c10_richest_35.eq_2]
      by_cases z : vT v i ≤ vT v (sRich v (i - 1))
      · rw [eR, if_pos z]
        simp (disch := omega) only [Option.bind_some, ↓ile_t, ↓ile_f, ↓ilt_t, ↓ilt_f, ↓ieq_t, ↓ieq_f, ↓iz_t, ↓iz_f, ↓iltz, ↓izle, ↓ilez_t, ↓ilez_f, ↓im1, ile_t, ile_f, ilt_t, ilt_f, ieq_t, ieq_f, iz_t, iz_f, iltz, izle, ilez_t, ilez_f, im1, gZ_0, gZ_1, e10, e00, ↓reduceIte, Sum.elim_inl, Sum.elim_inr, nI_1, nI_add, Int32.sub_zero, zc10, zr10_0, zr10_1, zr10_2, zr10_3, zr10_4, zr10_5, zr10_6, zr10_7, zr10_8, zr10_9, zr10_10, zs10_11, zs10_12, qc SA_31, qi0 SA_31, qs0 SA_31, qr1 SA_31, qr2 SA_31, qr3 SA_31, qr4 SA_31, qr5 SA_31, qi6 SA_31, qs6 SA_31, qi7 SA_31, qs7 SA_31, hs.1, qg5 SA_31, x1, x2]
      · rw [eR, if_neg z]
        simp (disch := omega) only [Option.bind_some, ↓ile_t, ↓ile_f, ↓ilt_t, ↓ilt_f, ↓ieq_t, ↓ieq_f, ↓iz_t, ↓iz_f, ↓iltz, ↓izle, ↓ilez_t, ↓ilez_f, ↓im1, ile_t, ile_f, ilt_t, ilt_f, ieq_t, ieq_f, iz_t, iz_f, iltz, izle, ilez_t, ilez_f, im1, gZ_0, gZ_1, e10, e00, ↓reduceIte, Sum.elim_inl, Sum.elim_inr, nI_1, nI_add, Int32.sub_zero, zc10, zr10_0, zr10_1, zr10_2, zr10_3, zr10_4, zr10_5, zr10_6, zr10_7, zr10_8, zr10_9, zr10_10, zs10_11, zs10_12, qc SA_31, qi0 SA_31, qs0 SA_31, qr1 SA_31, qr2 SA_31, qr3 SA_31, qr4 SA_31, qr5 SA_31, qi6 SA_31, qs6 SA_31, qi7 SA_31, qs7 SA_31, hs.1, qg5 SA_31, x1, x2]))
    (fun k s hs' => by
      refine ⟨s, ?_, hs'.2⟩
      show lp_c10_richest_35 N 10 (mk L S) (k + 1) _ _ = _
      rw [lp_c10_richest_35.eq_2]
      simp (disch := omega) only [Option.bind_some, ↓ile_t, ↓ile_f, ↓ilt_t, ↓ilt_f, ↓ieq_t, ↓ieq_f, ↓iz_t, ↓iz_f, ↓iltz, ↓izle, ↓ilez_t, ↓ilez_f, ↓im1, ile_t, ile_f, ilt_t, ilt_f, ieq_t, ieq_f, iz_t, iz_f, iltz, izle, ilez_t, ilez_f, im1, gZ_0, gZ_1, e10, e00, ↓reduceIte, Sum.elim_inl, Sum.elim_inr, nI_1, nI_add, Int32.sub_zero, zc10, zr10_0, zr10_1, zr10_2, zr10_3, zr10_4, zr10_5, zr10_6, zr10_7, zr10_8, zr10_9, zr10_10, zs10_11, zs10_12, qc SA_31, qi0 SA_31, qs0 SA_31, qr1 SA_31, qr2 SA_31, qr3 SA_31, qr4 SA_31, qr5 SA_31, qi6 SA_31, qs6 SA_31, qi7 SA_31, qs7 SA_31, hs.1]) (vN v - 1) N 1 0 (by omega) (by omega) ⟨Nat.le_refl _, rfl⟩
  rw [er] at e
  exact e
theorem M_rich {g : pG} {v : pV} (hs : MW S 156 v) (hv : WV g v) (h0 : vN v ≠ 0) (hN : 900 ≤ N) : lp_c11_richest_55 N 144 (mk L S) N 0 1 = some (nI (sRich v (vN v - 1))) := by
  have h8 := hv.1
  obtain ⟨r, e, er⟩ := lp_inv (Lp := fun k (s : Int32) i => lp_c11_richest_55 N 144 (mk L S) k s (nI i)) (n := vN v) (P := fun i s => 1 ≤ i ∧ s = nI (sRich v (i - 1))) (Q := fun r => r = nI (sRich v (vN v - 1)))
    (fun k i s hi hs' => Or.inr (by
      obtain ⟨h1, rfl⟩ := hs'
      refine ⟨nI (sRich v i), ?_, by omega, by rw [Nat.add_sub_cancel]⟩
      have hl := sRich_le (v := v) (i - 1)
      have eR : sRich v i = if vT v i ≤ vT v (sRich v (i - 1)) then sRich v (i - 1) else i := by
        obtain ⟨j, rfl⟩ : ∃ j, i = j + 1 := ⟨i - 1, by omega⟩
        rfl
      have t1 := (hv.2.2 i hi).2.2.2.2.2
      have t2 := (hv.2.2 (sRich v (i - 1)) (by omega)).2.2.2.2.2
      have x1 : S.1 156 (32 + i) = nI (vT v i) := (hs.2.2.2 i hi).2.2.2.2
      have x2 : S.1 156 (32 + sRich v (i - 1)) = nI (vT v (sRich v (i - 1))) := (hs.2.2.2 _ (by omega)).2.2.2.2
      show lp_c11_richest_55 N 144 (mk L S) (k + 1) _ _ = _
      rw [lp_c11_richest_55.eq_2]
      by_cases z : vT v i ≤ vT v (sRich v (i - 1))
      · rw [eR, if_pos z]
        simp (disch := omega) only [Option.bind_some, ↓ile_t, ↓ile_f, ↓ilt_t, ↓ilt_f, ↓ieq_t, ↓ieq_f, ↓iz_t, ↓iz_f, ↓iltz, ↓izle, ↓ilez_t, ↓ilez_f, ↓im1, ile_t, ile_f, ilt_t, ilt_f, ieq_t, ieq_f, iz_t, iz_f, iltz, izle, ilez_t, ilez_f, im1, gZ_0, gZ_1, e10, e00, ↓reduceIte, Sum.elim_inl, Sum.elim_inr, nI_1, nI_add, Int32.sub_zero, zr144_25, k40, k32, zg156, hs.1, x1, x2]
      · rw [eR, if_neg z]
        simp (disch := omega) only [Option.bind_some, ↓ile_t, ↓ile_f, ↓ilt_t, ↓ilt_f, ↓ieq_t, ↓ieq_f, ↓iz_t, ↓iz_f, ↓iltz, ↓izle, ↓ilez_t, ↓ilez_f, ↓im1, ile_t, ile_f, ilt_t, ilt_f, ieq_t, ieq_f, iz_t, iz_f, iltz, izle, ilez_t, ilez_f, im1, gZ_0, gZ_1, e10, e00, ↓reduceIte, Sum.elim_inl, Sum.elim_inr, nI_1, nI_add, Int32.sub_zero, zr144_25, k40, k32, zg156, hs.1, x1, x2]))
    (fun k s hs' => by
      refine ⟨s, ?_, hs'.2⟩
      show lp_c11_richest_55 N 144 (mk L S) (k + 1) _ _ = _
      rw [lp_c11_richest_55.eq_2]
      simp (disch := omega) only [Option.bind_some, ↓ile_t, ↓ile_f, ↓ilt_t, ↓ilt_f, ↓ieq_t, ↓ieq_f, ↓iz_t, ↓iz_f, ↓iltz, ↓izle, ↓ilez_t, ↓ilez_f, ↓im1, ile_t, ile_f, ilt_t, ilt_f, ieq_t, ieq_f, iz_t, iz_f, iltz, izle, ilez_t, ilez_f, im1, gZ_0, gZ_1, e10, e00, ↓reduceIte, Sum.elim_inl, Sum.elim_inr, nI_1, nI_add, Int32.sub_zero, zr144_25, k40, zg156, hs.1]) (vN v - 1) N 1 0 (by omega) (by omega) ⟨Nat.le_refl _, rfl⟩
  rw [er] at e
  exact e
theorem A_richest {p : Int32} (w : WA A) (q : CA S A) (m : MA S A c) (hN : 900 ≤ N) : Agr L S c (f_c10_richest N 10 p) (f_c11_richest N 144 p) := by
  obtain ⟨g, v, x, l, u, n, k, h⟩ := A
  have wv : WV g v := w.2.1
  have h8 := wv.1
  obtain ⟨code, hc⟩ : ∃ code, ruleCode u.2 u.1 = .inl code := w.2.2.2.2.1.2
  rcases (show (p < 0 ∨ (¬ p < 0 ∧ ¬ p ≤ 99)) ∨ ∃ d, 0 ≤ d ∧ d ≤ 99 ∧ p = nI d from cas p 0 99 (by omega) (by omega)) with hp | ⟨d, -, hd, rfl⟩
  · refine AgrR w q m (r := -1) ?_ (fun T _ t1 => ?_)
    · rcases hp with hp | ⟨h1, hp⟩
      · simp (disch := omega) only [Option.bind_some, ↓ile_t, ↓ile_f, ↓ilt_t, ↓ilt_f, ↓ieq_t, ↓ieq_f, ↓iz_t, ↓iz_f, ↓iltz, ↓izle, ↓ilez_t, ↓ilez_f, ↓im1, ile_t, ile_f, ilt_t, ilt_f, ieq_t, ieq_f, iz_t, iz_f, iltz, izle, ilez_t, ilez_f, im1, gZ_0, gZ_1, e10, e00, ↓reduceIte, Sum.elim_inl, Sum.elim_inr, nI_1, nI_add, Int32.sub_zero, f_c10_richest, zc10, zr10_0, zr10_1, zr10_2, zr10_3, zr10_4, zr10_5, zr10_6, zr10_7, zr10_8, zr10_9, zr10_10, zs10_11, zs10_12, if_pos hp]
      · simp (disch := omega) only [Option.bind_some, ↓ile_t, ↓ile_f, ↓ilt_t, ↓ilt_f, ↓ieq_t, ↓ieq_f, ↓iz_t, ↓iz_f, ↓iltz, ↓izle, ↓ilez_t, ↓ilez_f, ↓im1, ile_t, ile_f, ilt_t, ilt_f, ieq_t, ieq_f, iz_t, iz_f, iltz, izle, ilez_t, ilez_f, im1, gZ_0, gZ_1, e10, e00, ↓reduceIte, Sum.elim_inl, Sum.elim_inr, nI_1, nI_add, Int32.sub_zero, f_c10_richest, zc10, zr10_0, zr10_1, zr10_2, zr10_3, zr10_4, zr10_5, zr10_6, zr10_7, zr10_8, zr10_9, zr10_10, zs10_11, zs10_12, if_neg h1, if_neg hp]
    · simp (disch := omega) only [Option.bind_some, ↓ile_t, ↓ile_f, ↓ilt_t, ↓ilt_f, ↓ieq_t, ↓ieq_f, ↓iz_t, ↓iz_f, ↓iltz, ↓izle, ↓ilez_t, ↓ilez_f, ↓im1, ile_t, ile_f, ilt_t, ilt_f, ieq_t, ieq_f, iz_t, iz_f, iltz, izle, ilez_t, ilez_f, im1, gZ_0, gZ_1, e10, e00, ↓reduceIte, Sum.elim_inl, Sum.elim_inr, nI_1, nI_add, Int32.sub_zero, f_c11_richest, zc144, zs144_10, M_inF (N := N) hp, eq_self_iff_true]
  · have c1 : nI d ≤ 99 := nI_le (b := 99) hd (by omega)
    have ei : ∀ T : gS, f_c11_in N (nI d) 0 99 (mk L T) = some 1 := fun T => M_inT (lo := 0) (hi := 99) (by omega) hd (by omega)
    have eN : S.1 19 0 = nI (vN v) := q.2.1.1
    by_cases h0 : vN v = 0
    · refine AgrR w q m (r := -2) ?_ (fun T _ t1 => ?_)
      · simp (disch := omega) only [Option.bind_some, ↓ile_t, ↓ile_f, ↓ilt_t, ↓ilt_f, ↓ieq_t, ↓ieq_f, ↓iz_t, ↓iz_f, ↓iltz, ↓izle, ↓ilez_t, ↓ilez_f, ↓im1, ile_t, ile_f, ilt_t, ilt_f, ieq_t, ieq_f, iz_t, iz_f, iltz, izle, ilez_t, ilez_f, im1, gZ_0, gZ_1, e10, e00, ↓reduceIte, Sum.elim_inl, Sum.elim_inr, nI_1, nI_add, Int32.sub_zero, f_c10_richest, zc10, zr10_0, zr10_1, zr10_2, zr10_3, zr10_4, zr10_5, zr10_6, zr10_7, zr10_8, zr10_9, zr10_10, zs10_11, zs10_12, if_pos c1, qc SA_19, qi0 SA_19, qs0 SA_19, qr1 SA_19, qr2 SA_19, qr3 SA_19, qr4 SA_19, qr5 SA_19, qi6 SA_19, qs6 SA_19, qi7 SA_19, qs7 SA_19, eN]
      · have eN' : (stI T 144 10 0).1 145 40 = nI (vN v) := t1.2.1.1
        simp (disch := omega) only [Option.bind_some, ↓ile_t, ↓ile_f, ↓ilt_t, ↓ilt_f, ↓ieq_t, ↓ieq_f, ↓iz_t, ↓iz_f, ↓iltz, ↓izle, ↓ilez_t, ↓ilez_f, ↓im1, ile_t, ile_f, ilt_t, ilt_f, ieq_t, ieq_f, iz_t, iz_f, iltz, izle, ilez_t, ilez_f, im1, gZ_0, gZ_1, e10, e00, ↓reduceIte, Sum.elim_inl, Sum.elim_inr, nI_1, nI_add, Int32.sub_zero, f_c11_richest, zc144, zs144_10, ei, zr144_0, k40, zg145, eN']
    · obtain ⟨S1, e1, q1, s1, f1, -⟩ := C_try (L := L) (N := N) (d := d) q w hc (by omega) hN
      have wv' := wv.seas (code := code) d
      have n' : vN (vSeas code g v d) = vN v := vSeas_N d
      have eR := C_rich (L := L) (N := N) s1 wv' (by omega) hN
      have hl := sRich_le (v := vSeas code g v d) (vN (vSeas code g v d) - 1)
      generalize hR : sRich (vSeas code g v d) (vN (vSeas code g v d) - 1) = R at *
      have eT : S1.1 36 R = nI (vT (vSeas code g v d) R) := (s1.2.2.2 R (by omega)).2.2.2.2
      obtain ⟨S2, e2, q2, f2⟩ := C_tell2A (L := L) (N := N) (r := nI R) (y := (nI (vT (vSeas code g v d) R)).toInt64) (z := (bitC (sDry (vSeas code g v d) (vN (vSeas code g v d)))).toInt64) q1
      have wr := w.rw (l' := [(nI (vT (vSeas code g v d) R)).toInt64, (bitC (sDry (vSeas code g v d) (vN (vSeas code g v d)))).toInt64]) (by show 2 ≤ 8; omega)
      refine AgrI (c' := c) m (S1 := S2) (r := nI R) ?_ (lowTr f1 f2) q2 wr (by omega) (fun T mt => ?_)
      · simp (disch := omega) only [Option.bind_some, ↓ile_t, ↓ile_f, ↓ilt_t, ↓ilt_f, ↓ieq_t, ↓ieq_f, ↓iz_t, ↓iz_f, ↓iltz, ↓izle, ↓ilez_t, ↓ilez_f, ↓im1, ile_t, ile_f, ilt_t, ilt_f, ieq_t, ieq_f, iz_t, iz_f, iltz, izle, ilez_t, ilez_f, im1, gZ_0, gZ_1, e10, e00, ↓reduceIte, Sum.elim_inl, Sum.elim_inr, nI_1, nI_add, Int32.sub_zero, f_c10_richest, zc10, zr10_0, zr10_1, zr10_2, zr10_3, zr10_4, zr10_5, zr10_6, zr10_7, zr10_8, zr10_9, zr10_10, zs10_11, zs10_12, if_pos c1, qc SA_19, qi0 SA_19, qs0 SA_19, qr1 SA_19, qr2 SA_19, qr3 SA_19, qr4 SA_19, qr5 SA_19, qi6 SA_19, qs6 SA_19, qi7 SA_19, qs7 SA_19, eN, e1, eR, qr5 SA_31, qg5 SA_31, eT, f_c7_howManyDry, qc SA_31, C_dry SA_31 s1 wv' hN, bitC_e, e2]
      · have t1 := mt.thr
        have eN' : (stI T 144 10 0).1 145 40 = nI (vN v) := t1.2.1.1
        obtain ⟨T1, a1, t2, m1, g1⟩ := M_then (L := L) (N := N) t1 w hN
        obtain ⟨T2, a2, t3, m2, g2, -⟩ := M_go156 (L := L) (N := N) (d := d) t2 w hc m1 wv (by omega) hN
        have eR' := M_rich (L := L) (N := N) m2 wv' (by omega) hN
        rw [hR] at eR'
        obtain ⟨T3, a3, t4, g3, k3⟩ := M_t1 (L := L) (N := N) (y := (nI (vT (vSeas code g v d) R)).toInt64) t3
        have m2' : MW (stI T2 144 9 0) 156 (vSeas code g v d) := clrW (by omega) m2
        have m3 : MW T3 156 (vSeas code g v d) := tellW k3 (by omega) m2'
        obtain ⟨T4, a4, t5, g4, k4⟩ := M_t2 (L := L) (N := N) (z := (bitC (sDry (vSeas code g v d) (vN (vSeas code g v d)))).toInt64) t4
        have eT' : (stI T2 144 9 0).1 156 (32 + R) = nI (vT (vSeas code g v d) R) := (m2'.2.2.2 R (by omega)).2.2.2.2
        refine ⟨T4, ?_, highTr thrH (highTr g1 (highTr g2 (highTr g3 g4))), t5⟩
        simp (disch := omega) only [Option.bind_some, ↓ile_t, ↓ile_f, ↓ilt_t, ↓ilt_f, ↓ieq_t, ↓ieq_f, ↓iz_t, ↓iz_f, ↓iltz, ↓izle, ↓ilez_t, ↓ilez_f, ↓im1, ile_t, ile_f, ilt_t, ilt_f, ieq_t, ieq_f, iz_t, iz_f, iltz, izle, ilez_t, ilez_f, im1, gZ_0, gZ_1, e10, e00, ↓reduceIte, Sum.elim_inl, Sum.elim_inr, nI_1, nI_add, Int32.sub_zero, f_c11_richest, zc144, zs144_10, ei, zr144_0, k40, zg145, eN', zr144_25, a1, a2, eR', zs144_9, k32, zg156, eT', a3, M_dry MA_156 m3 wv' hN, bitC_e, a4]
-- balance
theorem A_balance (w : WA A) (q : CA S A) (m : MA S A c) (hN : 900 ≤ N) : Agr L S c (f_c10_balance N 10) (f_c11_balance N 144) := by
  obtain ⟨g, v, x, l, u, n, k, h⟩ := A
  have wv : WV g v := w.2.1
  have wg : WG g := w.1
  have h8 := wv.1
  obtain ⟨code, hc⟩ : ∃ code, ruleCode u.2 u.1 = .inl code := w.2.2.2.2.1.2
  obtain ⟨a, a1, a2, a3⟩ := q.ru hc
  have hra : RA a := by rcases a2 with rfl | rfl; exact RA_136; exact RA_140
  have hC : ∃ r, lp_c10_balance_4 N 10 N (nI 0) (nI 0) (mk L S) = some r ∧ ∃ S', r = (nI (sumN (fun w => sFlow code g v w) (vN v)), mk L S') ∧ Fr (fun y => y = 139 ∨ y = 143) S S' := by
    refine lp_inv (Lp := fun k (s : Int32 × gS) i => lp_c10_balance_4 N 10 k s.1 (nI i) (mk L s.2)) (n := vN v) (P := fun i s => s.1 = nI (sumN (fun w => sFlow code g v w) i) ∧ Fr (fun y => y = 139 ∨ y = 143) S s.2) (fun k i s hi hs => Or.inr ?_) (fun k s hs => ?_) (vN v) N 0 (nI 0, S) (by omega) (by omega) ⟨rfl, Fr.refl⟩
    · obtain ⟨s0, s⟩ := s
      obtain ⟨rfl, hF⟩ := hs
      have v19 : CV s 19 v := q.2.1.fr hF (fun y h1 h2 => by omega)
      have cg : CG s g := q.1.fr hF (fun y h1 h2 => by omega)
      have cr : CRu s a code := a3.fr hF ⟨by omega, by omega⟩
      obtain ⟨s1, e1, e2⟩ := C_flow (L := L) (N := N) (w := i) hra SA_19 (by omega) (by omega) v19 cg wg wv hi cr (w.good hc) hN
      have a1' : s.2.2 10 11 = some a := (hF.p (by omega) 11).trans a1
      refine ⟨(nI (sumN (fun w => sFlow code g v w) (i + 1)), s1), ?_, rfl, hF.trans e2 (fun _ z => z) (fun y z => by omega)⟩
      show lp_c10_balance_4 N 10 (k + 1) _ _ _ = _
      rw [lp_c10_balance_4.eq_2]
      simp (disch := omega) only [Option.bind_some, ↓ile_t, ↓ile_f, ↓ilt_t, ↓ilt_f, ↓ieq_t, ↓ieq_f, ↓iz_t, ↓iz_f, ↓iltz, ↓izle, ↓ilez_t, ↓ilez_f, ↓im1, ile_t, ile_f, ilt_t, ilt_f, ieq_t, ieq_f, iz_t, iz_f, iltz, izle, ilez_t, ilez_f, im1, gZ_0, gZ_1, e10, e00, ↓reduceIte, Sum.elim_inl, Sum.elim_inr, nI_1, nI_add, Int32.sub_zero, zc10, zr10_0, zr10_1, zr10_2, zr10_3, zr10_4, zr10_5, zr10_6, zr10_7, zr10_8, zr10_9, zr10_10, zs10_11, zs10_12, qc SA_19, qi0 SA_19, qs0 SA_19, qr1 SA_19, qr2 SA_19, qr3 SA_19, qr4 SA_19, qr5 SA_19, qi6 SA_19, qs6 SA_19, qi7 SA_19, qs7 SA_19, v19.1, zr10_11 a1', e1, sumN]
    · obtain ⟨s0, s⟩ := s
      obtain ⟨rfl, hF⟩ := hs
      have v19 : CV s 19 v := q.2.1.fr hF (fun y h1 h2 => by omega)
      refine ⟨_, ?_, s, rfl, hF⟩
      show lp_c10_balance_4 N 10 (k + 1) _ _ _ = _
      rw [lp_c10_balance_4.eq_2]
      simp (disch := omega) only [Option.bind_some, ↓ile_t, ↓ile_f, ↓ilt_t, ↓ilt_f, ↓ieq_t, ↓ieq_f, ↓iz_t, ↓iz_f, ↓iltz, ↓izle, ↓ilez_t, ↓ilez_f, ↓im1, ile_t, ile_f, ilt_t, ilt_f, ieq_t, ieq_f, iz_t, iz_f, iltz, izle, ilez_t, ilez_f, im1, gZ_0, gZ_1, e10, e00, ↓reduceIte, Sum.elim_inl, Sum.elim_inr, nI_1, nI_add, Int32.sub_zero, zc10, zr10_0, zr10_1, zr10_2, zr10_3, zr10_4, zr10_5, zr10_6, zr10_7, zr10_8, zr10_9, zr10_10, zs10_11, zs10_12, qc SA_19, qi0 SA_19, qs0 SA_19, qr1 SA_19, qr2 SA_19, qr3 SA_19, qr4 SA_19, qr5 SA_19, qi6 SA_19, qs6 SA_19, qi7 SA_19, qs7 SA_19, v19.1]
  obtain ⟨r, eC, S1, er, f1⟩ := hC
  rw [er, nI_0] at eC
  have q1 : CA S1 (g, v, x, l, u, n, k, h) := q.fr f1 (fun y hy => by unfold sC; omega)
  obtain ⟨S2, e2, q2, f2⟩ := C_tell2A (L := L) (N := N) (r := nI (sumN (fun w => sFlow code g v w) (vN v)) - nI (sumN (gTh g) (gVm g)) + 1000) (y := (nI (sumN (fun w => sFlow code g v w) (vN v))).toInt64) (z := (nI (sumN (gTh g) (gVm g))).toInt64) q1
  have wr := w.rw (l' := [(nI (sumN (fun w => sFlow code g v w) (vN v))).toInt64, (nI (sumN (gTh g) (gVm g))).toInt64]) (by show 2 ≤ 8; omega)
  refine AgrI (r := nI (sumN (fun w => sFlow code g v w) (vN v)) - nI (sumN (gTh g) (gVm g)) + 1000) (c' := c) m (S1 := S2) ?_ (lowTr (f1.low (fun y hy => by omega)) f2) q2 wr (by omega) (fun T mt => ?_)
  · simp (disch := omega) only [Option.bind_some, ↓ile_t, ↓ile_f, ↓ilt_t, ↓ilt_f, ↓ieq_t, ↓ieq_f, ↓iz_t, ↓iz_f, ↓iltz, ↓izle, ↓ilez_t, ↓ilez_f, ↓im1, ile_t, ile_f, ilt_t, ilt_f, ieq_t, ieq_f, iz_t, iz_f, iltz, izle, ilez_t, ilez_f, im1, gZ_0, gZ_1, e10, e00, ↓reduceIte, Sum.elim_inl, Sum.elim_inr, nI_1, nI_add, Int32.sub_zero, f_c10_balance, zc10, zr10_0, zr10_1, zr10_2, zr10_3, zr10_4, zr10_5, zr10_6, zr10_7, zr10_8, zr10_9, zr10_10, zs10_11, zs10_12, eC, C_thirsts q1.1 wg hN, e2]
  · have t1 := mt.thr
    have hM : ∃ r, lp_c11_balance_9 N 144 N (nI 0) (nI 0) (mk L (stI T 144 10 0)) = some r ∧ ∃ S', r = (nI (sumN (fun w => sFlow code g v w) (vN v)), mk L S') ∧ FM (fun y => y = 153) qK (stI T 144 10 0) S' := by
      refine lp_inv (Lp := fun k (s : Int32 × gS) i => lp_c11_balance_9 N 144 k s.1 (nI i) (mk L s.2)) (n := vN v) (P := fun i s => s.1 = nI (sumN (fun w => sFlow code g v w) i) ∧ FM (fun y => y = 153) qK (stI T 144 10 0) s.2) (fun kk i s hi hs => Or.inr ?_) (fun kk s hs => ?_) (vN v) N 0 (nI 0, stI T 144 10 0) (by omega) (by omega) ⟨rfl, FM.refl⟩
      · obtain ⟨s0, s⟩ := s
        obtain ⟨rfl, hF⟩ := hs
        have tt : MA s (g, v, x, l, u, n, k, h) c := t1.fm hF (fun y hy => by unfold sM; omega) (fun y hy => by have z : y = 20 ∨ (11 ≤ y ∧ y ≤ 15) := hy; unfold sK; omega)
        obtain ⟨s1, e1, e2⟩ := M_flowOf (L := L) (N := N) (w := i) MA_145 (by omega) (by omega) tt.2.1 tt.1 wg wv hi tt.2.2.2.2.1.1 hc hN
        refine ⟨(nI (sumN (fun w => sFlow code g v w) (i + 1)), s1), ?_, rfl, hF.tr e2⟩
        show lp_c11_balance_9 N 144 (_ + 1) _ _ _ = _
        rw [lp_c11_balance_9.eq_2]
        simp (disch := omega) only [Option.bind_some, ↓ile_t, ↓ile_f, ↓ilt_t, ↓ilt_f, ↓ieq_t, ↓ieq_f, ↓iz_t, ↓iz_f, ↓iltz, ↓izle, ↓ilez_t, ↓ilez_f, ↓im1, ile_t, ile_f, ilt_t, ilt_f, ieq_t, ieq_f, iz_t, iz_f, iltz, izle, ilez_t, ilez_f, im1, gZ_0, gZ_1, e10, e00, ↓reduceIte, Sum.elim_inl, Sum.elim_inr, nI_1, nI_add, Int32.sub_zero, zr144_0, k40, zg145, tt.2.1.1, e1, sumN]
      · obtain ⟨s0, s⟩ := s
        obtain ⟨rfl, hF⟩ := hs
        have tt : MA s (g, v, x, l, u, n, k, h) c := t1.fm hF (fun y hy => by unfold sM; omega) (fun y hy => by have z : y = 20 ∨ (11 ≤ y ∧ y ≤ 15) := hy; unfold sK; omega)
        refine ⟨_, ?_, s, rfl, hF⟩
        show lp_c11_balance_9 N 144 (_ + 1) _ _ _ = _
        rw [lp_c11_balance_9.eq_2]
        simp (disch := omega) only [Option.bind_some, ↓ile_t, ↓ile_f, ↓ilt_t, ↓ilt_f, ↓ieq_t, ↓ieq_f, ↓iz_t, ↓iz_f, ↓iltz, ↓izle, ↓ilez_t, ↓ilez_f, ↓im1, ile_t, ile_f, ilt_t, ilt_f, ieq_t, ieq_f, iz_t, iz_f, iltz, izle, ilez_t, ilez_f, im1, gZ_0, gZ_1, e10, e00, ↓reduceIte, Sum.elim_inl, Sum.elim_inr, nI_1, nI_add, Int32.sub_zero, zr144_0, k40, zg145, tt.2.1.1]
    obtain ⟨r, eM, T1, er, f3⟩ := hM
    rw [er, nI_0] at eM
    have t2 : MA T1 (g, v, x, l, u, n, k, h) c := t1.fm f3 (fun y hy => by unfold sM; omega) (fun y hy => by have z : y = 20 ∨ (11 ≤ y ∧ y ≤ 15) := hy; unfold sK; omega)
    obtain ⟨T3, b3, t4, g3, k3⟩ := M_t1 (L := L) (N := N) (y := (nI (sumN (fun w => sFlow code g v w) (vN v))).toInt64) t2
    obtain ⟨T4, b4, t5, g4, k4⟩ := M_t2 (L := L) (N := N) (z := (nI (sumN (gTh g) (gVm g))).toInt64) t4
    refine ⟨T4, ?_, highTr thrH (highTr (f3.high (fun y hy => by omega)) (highTr g3 g4)), t5⟩
    have eA : ∀ a b : Int32, (1000 : Int32) + a - b = a - b + 1000 := fun a b => by
      rw [Int32.sub_eq_add_neg, Int32.sub_eq_add_neg, Int32.add_comm 1000 a, Int32.add_assoc, Int32.add_comm 1000, ← Int32.add_assoc]
    simp (disch := omega) only [Option.bind_some, ↓ile_t, ↓ile_f, ↓ilt_t, ↓ilt_f, ↓ieq_t, ↓ieq_f, ↓iz_t, ↓iz_f, ↓iltz, ↓izle, ↓ilez_t, ↓ilez_f, ↓im1, ile_t, ile_f, ilt_t, ilt_f, ieq_t, ieq_f, iz_t, iz_f, iltz, izle, ilez_t, ilez_f, im1, gZ_0, gZ_1, e10, e00, ↓reduceIte, Sum.elim_inl, Sum.elim_inr, nI_1, nI_add, Int32.sub_zero, f_c11_balance, zc144, zs144_10, eM, zs144_9, b3, M_thirsts t4.1 wg hN, b4, M_thirsts t5.1 wg hN, eA]
end TRIALS2
