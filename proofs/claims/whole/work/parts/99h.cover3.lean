/-! CALLS: covers, the end -/
section COVERA
variable {L N : Nat} {S T : gS} {c : Nat} {g : pG} {v : pV} {x : pX} {l : List Int64} {u : pX} {n : pN} {k : Nat → Option pV} {h : pH} {A : pA} {r f : Nat}
theorem cvF_len (wg : WG g) (hf : f ≤ gRw g * gCo g) : (cvF g r f).2.length ≤ 6 ∧ cW g r (gRw g * gCo g - f) (cvF g r f).1 ≤ 6 := by
  have h1 := (cvF_ok (r := r) wg f hf).2
  have pp := Nat.two_pow_pos (gVm g)
  have h2 := cW_all (r := r) wg (s := 2 ^ gVm g - 1) (by omega)
  omega
theorem C_cov53 (q : CA S (g, v, x, [], u, n, k, h)) (wg : WG g) (hn : ndT S g r 0) (hd : rdT S g r 0) (hN : 900 ≤ N) : ∃ S1, lp_c10_covers_53 N 10 N (nI (2 ^ gVm g - 1)) 0 (mk L S) = some (mk L S1) ∧ CA S1 (g, v, x, (cvF g r (gRw g * gCo g)).2, u, n, k, h) ∧ Fr lowC S S1 := by
  have h36 := wg.f
  have h6 := wg.2.2.2.2.1
  have p6 := pw6 h6
  have e : ∃ z, lp_c10_covers_53 N 10 N (nI (cvF g r 0).1) (nI 0) (mk L S) = some z ∧ ∃ S1, z = mk L S1 ∧ CA S1 (g, v, x, (cvF g r (gRw g * gCo g)).2, u, n, k, h) ∧ Fr lowC S S1 := by
    refine lp_inv (Lp := fun kk (s : Int32 × gS) i => lp_c10_covers_53 N 10 kk s.1 (nI i) (mk L s.2)) (n := gRw g * gCo g) (P := fun i s => s.1 = nI (cvF g r i).1 ∧ CA s.2 (g, v, x, (cvF g r i).2, u, n, k, h) ∧ Fr pRow S s.2) (fun kk i s hi hs => Or.inr ?_) (fun kk s hs => ?_) (gRw g * gCo g) N 0 (nI (cvF g r 0).1, S) (by omega) (by omega) ⟨rfl, q, Fr.refl⟩
    · obtain ⟨s1, s⟩ := s
      obtain ⟨rfl, qs, fs⟩ := hs
      dsimp only at qs fs
      have cg : CG s g := qs.1
      obtain ⟨o1, o2⟩ := cvF_ok (r := r) wg i (by omega)
      obtain ⟨o3, o4⟩ := cvF_len (r := r) wg (show i ≤ gRw g * gCo g by omega)
      have ev := cW_e (g := g) (r := r) (s := (cvF g r i).1) hi
      have cb := cBy_lt (g := g) (r := r) (f := i)
      have hcm : cm (cvF g r i).1 (cBy g r i) < 2 ^ gVm g := Nat.lt_of_le_of_lt cm_le o1
      have e133 : s.1 133 i = nI (cBy g r i) := (fs.i (by show ¬ (133 = 13 ∨ 133 = 14); omega) i).trans (hd i (by omega) hi)
      have e1 : s.1 134 ((i + 1) * 64 + cm (cvF g r i).1 (cBy g r i)) = nI (min 36 (cW g r (gRw g * gCo g - (i + 1)) (cm (cvF g r i).1 (cBy g r i)))) := (fs.i (by show ¬ (134 = 13 ∨ 134 = 14); omega) _).trans (hn (i + 1) (by omega) (by omega) _ hcm)
      have e2 : s.1 134 (i * 64 + (cvF g r i).1) = nI (min 36 (cW g r (gRw g * gCo g - i) (cvF g r i).1)) := (fs.i (by show ¬ (134 = 13 ∨ 134 = 14); omega) _).trans (hn i (by omega) (by omega) _ o1)
      have eS : cvF g r (i + 1) = cvN g r i (cvF g r i) := rfl
      have eC : f_c9_covered N 131 (nI i) (mk L s) = some (nI (cBy g r i)) := by
        unfold f_c9_covered
        rw [zc131, Option.bind_some, iltz (by omega), k36, ile_f (by omega) (by omega), zr131_1, Option.bind_some, zg133 (by omega), Option.bind_some, e133, Option.bind_some]
      show ∃ s' : Int32 × gS, lp_c10_covers_53 N 10 (kk + 1) (nI (cvF g r i).1) (nI i) (mk L s) = lp_c10_covers_53 N 10 kk s'.1 (nI (i + 1)) (mk L s'.2) ∧ s'.1 = nI (cvF g r (i + 1)).1 ∧ CA s'.2 (g, v, x, (cvF g r (i + 1)).2, u, n, k, h) ∧ Fr pRow S s'.2
      rw [eS]
      generalize cvF g r i = st at *
      rw [lp_c10_covers_53.eq_2, zr10_2, Option.bind_some, C_fields cg, Option.bind_some, ile_f hi (by omega), zr10_9, Option.bind_some, eC, Option.bind_some, Option.bind_some, nI_1, cm_I st.1 (by omega) (cBy g r i) (by omega), C_needed (by omega) (by omega), Option.bind_some, Option.bind_some, C_needed (by omega) (by omega), Option.bind_some, e1, e2]
      unfold cvN
      by_cases z : cW g r (gRw g * gCo g - i) st.1 = 1 + cW g r (gRw g * gCo g - (i + 1)) (cm st.1 (cBy g r i))
      · obtain ⟨s2, e3, q2, p2, f2⟩ := C_addB (L := L) (N := N) (y := (nI i).toInt64) qs (by omega)
        rw [ile_f (by omega) (by omega), zr10_1, Option.bind_some, e3, Option.bind_some, if_pos z]
        exact ⟨(nI (cm st.1 (cBy g r i)), s2), by rw [Option.bind_some], rfl, q2, pRow_tr fs p2⟩
      · rw [ile_t (by omega) (by omega), if_neg z]
        exact ⟨(nI st.1, s), by rw [Option.bind_some], rfl, qs, fs⟩
    · obtain ⟨s1, s⟩ := s
      obtain ⟨rfl, qs, fs⟩ := hs
      have cg : CG s g := qs.1
      refine ⟨mk L s, ?_, s, rfl, qs, fs.low (fun y hy => by have hy2 : y = 13 ∨ y = 14 := hy; omega)⟩
      show lp_c10_covers_53 N 10 (kk + 1) _ (nI (gRw g * gCo g)) (mk L s) = _
      rw [lp_c10_covers_53.eq_2, zr10_2, Option.bind_some, C_fields cg, Option.bind_some, ile_t (Nat.le_refl _) (by omega)]
  obtain ⟨z, e, S1, er, e2, e3⟩ := e
  rw [er] at e
  exact ⟨S1, e, e2, e3⟩
theorem M_cov172 (q : MA T (g, v, x, [], u, n, k, h) c) (wg : WG g) (hr : r < 1000) (hn : mdT T g r 0) (hN : 900 ≤ N) : ∃ T1, lp_c11_covers_172 N 144 (nI r) (nI (cW g r (gRw g * gCo g) (2 ^ gVm g - 1))) N (nI (2 ^ gVm g - 1)) 0 (mk L T) = some (mk L T1) ∧ MA T1 (g, v, x, (cvF g r (gRw g * gCo g)).2, u, n, k, h) c ∧ Fr highM T T1 := by
  have h36 := wg.f
  have h6 := wg.2.2.2.2.1
  have p6 := pw6 h6
  have pp := Nat.two_pow_pos (gVm g)
  have hL := cW_all (r := r) wg (s := 2 ^ gVm g - 1) (by omega)
  have e : ∃ z, lp_c11_covers_172 N 144 (nI r) (nI (cW g r (gRw g * gCo g) (2 ^ gVm g - 1))) N (nI (cvF g r 0).1) (nI 0) (mk L T) = some z ∧ ∃ T1, z = mk L T1 ∧ MA T1 (g, v, x, (cvF g r (gRw g * gCo g)).2, u, n, k, h) c ∧ Fr highM T T1 := by
    refine lp_inv (Lp := fun kk (s : Int32 × gS) i => lp_c11_covers_172 N 144 (nI r) (nI (cW g r (gRw g * gCo g) (2 ^ gVm g - 1))) kk s.1 (nI i) (mk L s.2)) (n := gRw g * gCo g) (P := fun i s => s.1 = nI (cvF g r i).1 ∧ MA s.2 (g, v, x, (cvF g r i).2, u, n, k, h) c ∧ FM mRow kRow T s.2 ∧ Fr highM T s.2) (fun kk i s hi hs => ?_) (fun kk s hs => ?_) (gRw g * gCo g) N 0 (nI (cvF g r 0).1, T) (by omega) (by omega) ⟨rfl, q, FM.refl, Fr.refl⟩
    · obtain ⟨s1, s⟩ := s
      obtain ⟨rfl, qs, ms, fs⟩ := hs
      dsimp only at qs ms fs
      have mg : MG s g := qs.1
      obtain ⟨o1, o2⟩ := cvF_ok (r := r) wg i (by omega)
      obtain ⟨o3, o4⟩ := cvF_len (r := r) wg (show i ≤ gRw g * gCo g by omega)
      have e9 : s.1 144 9 = nI (cvF g r i).2.length := qs.2.2.2.1.1
      by_cases st0 : (cvF g r i).2.length = cW g r (gRw g * gCo g) (2 ^ gVm g - 1)
      · left
        have es := cvF_stop (r := r) wg st0 (gRw g * gCo g - i) (by omega)
        rw [show i + (gRw g * gCo g - i) = gRw g * gCo g by omega] at es
        rw [es]
        refine ⟨mk L s, ?_, s, rfl, qs, fs⟩
        show lp_c11_covers_172 N 144 (nI r) (nI (cW g r (gRw g * gCo g) (2 ^ gVm g - 1))) (kk + 1) (nI (cvF g r i).1) (nI i) (mk L s) = _
        rw [lp_c11_covers_172.eq_2, M_fields mg, Option.bind_some, ile_f hi (by omega), zi144_9, Option.bind_some, e9, ile_t (by omega) (by omega)]
      · right
        have ev := cW_e (g := g) (r := r) (s := (cvF g r i).1) hi
        have cb := cBy_lt (g := g) (r := r) (f := i)
        have hcm : cm (cvF g r i).1 (cBy g r i) < 2 ^ gVm g := Nat.lt_of_le_of_lt cm_le o1
        have b2 := cW_le (g := g) (r := r) (gRw g * gCo g - (i + 1)) (cm (cvF g r i).1 (cBy g r i))
        have e1 : s.1 161 ((i + 1) * 64 + cm (cvF g r i).1 (cBy g r i)) = nI (cW g r (gRw g * gCo g - (i + 1)) (cm (cvF g r i).1 (cBy g r i))) := (ms.i (by omega) (by show ¬ (161 = 149); omega) _).trans (hn (i + 1) (by omega) (by omega) _ hcm)
        have eS : cvF g r (i + 1) = cvN g r i (cvF g r i) := rfl
        show ∃ s' : Int32 × gS, lp_c11_covers_172 N 144 (nI r) (nI (cW g r (gRw g * gCo g) (2 ^ gVm g - 1))) (kk + 1) (nI (cvF g r i).1) (nI i) (mk L s) = lp_c11_covers_172 N 144 (nI r) (nI (cW g r (gRw g * gCo g) (2 ^ gVm g - 1))) kk s'.1 (nI (i + 1)) (mk L s'.2) ∧ s'.1 = nI (cvF g r (i + 1)).1 ∧ MA s'.2 (g, v, x, (cvF g r (i + 1)).2, u, n, k, h) c ∧ FM mRow kRow T s'.2 ∧ Fr highM T s'.2
        rw [eS]
        generalize cvF g r i = st at *
        rw [lp_c11_covers_172.eq_2, M_fields mg, Option.bind_some, ile_f hi (by omega), zi144_9, Option.bind_some, e9, ile_f (by omega) (by omega), M_cBy mg wg hi hr hN, Option.bind_some, zr144_30, Option.bind_some, nI_1, cm_I st.1 (by omega) (cBy g r i) (by omega), ixI (by omega) (by omega), zg161 (by omega), Option.bind_some, Option.bind_some, e1, show (1 : Int32) = nI 1 from rfl, nI_add, nI_sub (by omega)]
        unfold cvN
        by_cases z : cW g r (gRw g * gCo g - i) st.1 = 1 + cW g r (gRw g * gCo g - (i + 1)) (cm st.1 (cBy g r i))
        · obtain ⟨s2, e3, q2, m2, f2⟩ := M_tellA (L := L) (N := N) (y := (nI i).toInt64) qs (by omega)
          rw [ieq_t (by omega), e3, Option.bind_some, if_pos z]
          exact ⟨(nI (cm st.1 (cBy g r i)), s2), by rw [Option.bind_some], rfl, q2, ms.tr m2, highTr fs f2⟩
        · rw [ieq_f (by omega) (by omega) (by omega), if_neg z]
          exact ⟨(nI st.1, s), by rw [Option.bind_some], rfl, qs, ms, fs⟩
    · obtain ⟨s1, s⟩ := s
      obtain ⟨rfl, qs, ms, fs⟩ := hs
      have mg : MG s g := qs.1
      refine ⟨mk L s, ?_, s, rfl, qs, fs⟩
      show lp_c11_covers_172 N 144 (nI r) (nI (cW g r (gRw g * gCo g) (2 ^ gVm g - 1))) (kk + 1) _ (nI (gRw g * gCo g)) (mk L s) = _
      rw [lp_c11_covers_172.eq_2, M_fields mg, Option.bind_some, ile_t (Nat.le_refl _) (by omega)]
  obtain ⟨z, e, S1, er, e2, e3⟩ := e
  rw [er] at e
  exact ⟨S1, e, e2, e3⟩
theorem A_covers {y : Int32} (w : WA A) (q : CA S A) (m : MA S A c) (hN : 900 ≤ N) : Agr L S c (f_c10_covers N 10 y) (f_c11_covers N 144 y) := by
  obtain ⟨g, v, x, l, u, n, k, h⟩ := A
  have wg : WG g := w.1
  have h36 := wg.f
  have h6 := wg.2.2.2.2.1
  have p6 := pw6 h6
  have pp := Nat.two_pow_pos (gVm g)
  have cg : CG S g := q.1
  rcases (show (y < 0 ∨ (¬ y < 0 ∧ ¬ y ≤ 10)) ∨ ∃ d, 0 ≤ d ∧ d ≤ 10 ∧ y = nI d from cas y 0 10 (by omega) (by omega)) with hy | ⟨r, -, r2, rfl⟩
  · refine AgrR w q m (r := -1) ?_ (fun T _ t1 => ?_)
    · unfold f_c10_covers
      rw [zc10, Option.bind_some, C_isFar_f hy, Option.bind_some, i00]
    · unfold f_c11_covers
      rw [zc144, Option.bind_some, zs144_10, Option.bind_some, M_inF (N := N) hy, Option.bind_some, i00]
  · have ei : ∀ T : gS, f_c11_in N (nI r) 0 10 (mk L T) = some 1 := fun T => M_inT (lo := 0) (hi := 10) (by omega) r2 (by omega)
    have hL := cW_all (r := r) wg (s := 2 ^ gVm g - 1) (by omega)
    obtain ⟨S1, e1, f1, n1, d1⟩ := C_cover (L := L) (N := N) (r := r) cg wg (by omega) hN
    have q1 : CA S1 (g, v, x, l, u, n, k, h) := q.fr f1 (fun y hy => by unfold sC; omega)
    obtain ⟨S2, e2, f2, r2'⟩ := C_clear (L := L) (N := N) (S := S1)
    have q2 : CA S2 (g, v, x, [], u, n, k, h) := q1.row (f2.mono (fun y hy => Or.inr hy)) r2'
    have n2 : ndT S2 g r 0 := fun f h1 h2 s hs => (f2.i (by show ¬ (134 = 13 ∨ 134 = 14); omega) _).trans (n1 f h1 h2 s hs)
    have d2 : rdT S2 g r 0 := fun f h1 h2 => (f2.i (by show ¬ (133 = 13 ∨ 133 = 14); omega) _).trans (d1 f h1 h2)
    obtain ⟨S3, e3, q3, l3⟩ := C_cov53 (L := L) (N := N) q2 wg n2 d2 hN
    have e4 : S1.1 134 (0 * 64 + (2 ^ gVm g - 1)) = nI (cW g r (gRw g * gCo g) (2 ^ gVm g - 1)) := by
      have := n1 0 (by omega) (by omega) (2 ^ gVm g - 1) (by omega)
      rw [Nat.sub_zero, Nat.min_eq_right (by omega)] at this
      exact this
    have sI : (1 : Int32) <<< (nI (gVm g) &&& 31) - 1 = nI (2 ^ gVm g - 1) := by
      rw [sh1 (gVm g) (by omega), nI_sub1 (by omega)]
    have ol := (cvF_len (r := r) wg (Nat.le_refl (gRw g * gCo g))).1
    refine AgrI (c' := c) m (r := nI (cW g r (gRw g * gCo g) (2 ^ gVm g - 1))) (S1 := S3) ?_ (lowTr (f1.low (fun y hy => by omega)) (lowTr (f2.low (fun y hy => by have hy2 : y = 13 ∨ y = 14 := hy; omega)) l3)) q3 (w.rw (by omega)) (by omega) (fun T mt => ?_)
    · unfold f_c10_covers
      rw [zc10, Option.bind_some, C_isFar_t r2, Option.bind_some, i10, zr10_2, Option.bind_some, zi15_2, Option.bind_some, cg.2.2.1, zr10_9, Option.bind_some, Option.bind_some, e1, Option.bind_some, zr10_9, Option.bind_some, sI, show f_c9_needed N 131 0 (nI (2 ^ gVm g - 1)) (mk L S1) = _ from C_needed (f := 0) (by omega) (by omega), Option.bind_some, e4, zr10_1, Option.bind_some, e2, Option.bind_some, e3, Option.bind_some]
    · have t1 := mt.thr
      have mg : MG (stI T 144 10 0) g := t1.1
      obtain ⟨T1, g1, g2, g3⟩ := M_cov28 (L := L) (N := N) (r := r) mg wg hN
      have mg1 : MG T1 g := mg.fm g2 ⟨fun z => z, fun z => z, fun z => z⟩ ⟨by omega, by omega⟩
      obtain ⟨T2, g4, g5, g6⟩ := M_cov71 (L := L) (N := N) (r := r) mg1 wg (by omega) g3 hN
      have t2 : MA T1 (g, v, x, l, u, n, k, h) c := t1.fm g2 (fun y hy => by unfold sM; omega) (fun _ z => z.elim)
      have t3 : MA T2 (g, v, x, l, u, n, k, h) c := t2.fm g5 (fun y hy => by unfold sM; omega) (fun _ z => z.elim)
      have g7 : T2.1 161 (0 * 64 + (2 ^ gVm g - 1)) = nI (cW g r (gRw g * gCo g) (2 ^ gVm g - 1)) := by
        have := g6 0 (by omega) (by omega) (2 ^ gVm g - 1) (by omega)
        rw [Nat.sub_zero] at this
        exact this
      rw [show 0 * 64 + (2 ^ gVm g - 1) = 2 ^ gVm g - 1 by omega] at g7
      have g8 : mdT (stI T2 144 9 0) g r 0 := fun f h1 h2 s hs => (rdI_ne (by omega)).trans (g6 f h1 h2 s hs)
      obtain ⟨T3, g9, t4, h3⟩ := M_cov172 (L := L) (N := N) (r := r) t3.clr wg (by omega) g8 hN
      refine ⟨T3, ?_, highTr thrH (highTr (g2.high (fun y hy => by omega)) (highTr (g5.high (fun y hy => by omega)) (highTr clrH h3))), t4⟩
      unfold f_c11_covers
      rw [zc144, Option.bind_some, zs144_10, Option.bind_some, ei, Option.bind_some, i10, zi144_3, Option.bind_some, mg.2.2.1, sI, g1, Option.bind_some, M_fields mg1, Option.bind_some, g4, Option.bind_some, zr144_30, Option.bind_some, zg161 (by omega), Option.bind_some, g7, zs144_9, Option.bind_some, g9, Option.bind_some]
end COVERA
