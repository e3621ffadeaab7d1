/-! CALLS: what was is again; what was heard; how much there is -/
section KEPT
variable {L N : Nat} {S T : gS} {c : Nat} {A : pA}
/-- a row laid back from a place of an array -/
theorem M_back {d m o : Nat} {v : pV} {Lp : Nat → Int32 → gH → Option gH} (hd : kA d = some (0, m)) (hd2 : d ≠ 145 ∧ d ≠ 144) (ho : o + 43 ≤ m) (h8 : vN v ≤ 8) (hv : MV T d o v) (hN : 900 ≤ N)
    (hs : ∀ k i (s : gS), i < 43 → FM (fun x => x = 145) (fun _ => False) T s → Lp (k + 1) (nI i) (mk L s) = Lp k (nI (i + 1)) (mk L (stI s 145 i (s.1 d (o + i)))))
    (he : ∀ k (s : gS), Lp (k + 1) (nI 43) (mk L s) = some (mk L s)) :
    ∃ T', Lp N 0 (mk L T) = some (mk L T') ∧ FM (fun x => x = 145) (fun _ => False) T T' ∧ MW T' 145 v := by
  have h00 : ∃ q, Lp N (nI 0) (mk L T) = some q ∧ ∃ T', q = mk L T' ∧ FM (fun x => x = 145) (fun _ => False) T T' ∧ ∀ j, j < 43 → T'.1 145 j = T.1 d (o + j) := by
    refine lp_inv (Lp := fun k (s : gS) i => Lp k (nI i) (mk L s)) (n := 43) (P := fun i s => FM (fun x => x = 145) (fun _ => False) T s ∧ ∀ j, j < i → s.1 145 j = T.1 d (o + j)) (fun k i s hi hs' => Or.inr ⟨_, hs k i s hi hs'.1, hs'.1.tr (FM.stA rfl (by omega)), fun j hj => ?_⟩) (fun k s hs' => ⟨_, he k s, s, rfl, hs'⟩) 43 N 0 T (by omega) (by omega) ⟨FM.refl, fun j hj => by omega⟩
    by_cases q : j = i
    · subst q
      rw [rdI_eq]
      exact hs'.1.i hd2.2 hd2.1 _
    · rw [rdI_ne (by omega)]
      exact hs'.2 j (by omega)
  obtain ⟨q, e, T', er, h1, h2⟩ := h00
  rw [er] at e
  rw [nI_0] at e
  exact ⟨T', e, h1, MW.of h8 h2 hv⟩
theorem A_undo (w : WA A) (q : CA S A) (m : MA S A c) (hN : 900 ≤ N) : Agr L S c (f_c10_undo N 10) (f_c11_undo N 144) := by
  obtain ⟨g, v, x, l, u, n, k, h⟩ := A
  obtain ⟨⟨u0, u12⟩, π, u1, u2, u3⟩ := q.2.2.2.2.2.1
  change S.1 40 3 = nI n.1 at u0
  change n.1 ≤ 12 at u12
  by_cases z : n.1 = 0
  · refine AgrI (r := -1) (A' := (g, v, x, l, u, n, k, h)) (c' := c) m (S1 := S) ?_ Fr.refl q w (by omega) (fun T mt => ⟨stI T 144 10 0, ?_, thrH, mt.thr⟩)
    · have n1 : ¬ (1 : Int32) ≤ nI n.1 := nI_ge (b := 1) (by omega) (by omega)
      simp (disch := omega) only [Option.bind_some, ↓ile_t, ↓ile_f, ↓ilt_t, ↓ilt_f, ↓ieq_t, ↓ieq_f, ↓iz_t, ↓iz_f, ↓iltz, ↓izle, ↓ilez_t, ↓ilez_f, ↓im1, ile_t, ile_f, ilt_t, ilt_f, ieq_t, ieq_f, iz_t, iz_f, iltz, izle, ilez_t, ilez_f, im1, gZ_0, gZ_1, e10, e00, ↓reduceIte, Sum.elim_inl, Sum.elim_inr, nI_1, nI_add, Int32.sub_zero, f_c10_undo, zc10, zr10_0, zr10_1, zr10_2, zr10_3, zr10_4, zr10_5, zr10_6, zr10_7, zr10_8, zr10_9, zr10_10, zs10_11, zs10_12, f_c5_pop, zc40, zr40_0, zr40_1, zr40_2, zi40_3, zs40_3, u0, if_neg n1]
    · have e23 : (stI T 144 10 0).1 144 23 = nI n.1 := mt.thr.2.2.2.2.2.1.1
      simp (disch := omega) only [Option.bind_some, ↓ile_t, ↓ile_f, ↓ilt_t, ↓ilt_f, ↓ieq_t, ↓ieq_f, ↓iz_t, ↓iz_f, ↓iltz, ↓izle, ↓ilez_t, ↓ilez_f, ↓im1, ile_t, ile_f, ilt_t, ilt_f, ieq_t, ieq_f, iz_t, iz_f, iltz, izle, ilez_t, ilez_f, im1, gZ_0, gZ_1, e10, e00, ↓reduceIte, Sum.elim_inl, Sum.elim_inr, nI_1, nI_add, Int32.sub_zero, f_c11_undo, zc144, zs144_10, zi144_23, e23]
  · obtain ⟨p1, p2⟩ := u1 (n.1 - 1) (by omega)
    have hv' := w.2.2.2.2.2.1.2 (n.1 - 1) (by show n.1 - 1 < n.1; omega)
    have cv' := u3 (n.1 - 1) (by show n.1 - 1 < n.1; omega)
    change CV S (44 + 6 * π (n.1 - 1)) (n.2 (n.1 - 1)) at cv'
    have cv1 : CV (stI S 40 3 (nI (n.1 - 1))) (44 + 6 * π (n.1 - 1)) (n.2 (n.1 - 1)) := cv'.fr (Fr.stI (A := fun x => x = 40) rfl) (fun x h1 h2 => by omega)
    obtain ⟨S1, e1, e2, e3⟩ := C_take (L := L) (N := N) SA_19 (SA_u (π (n.1 - 1)) p1) (by omega) cv1 hv'.1 hN
    have qn : CN (stI S 40 3 (nI (n.1 - 1))) (n.1 - 1, n.2) := by
      refine ⟨⟨rdI_eq, by show n.1 - 1 ≤ 12; omega⟩, π, u1, u2, fun i hi => ?_⟩
      have hi2 : i < n.1 - 1 := hi
      exact (u3 i (by show i < n.1; omega)).fr (Fr.stI (A := fun x => x = 40) rfl) (fun x h1 h2 => by omega)
    have q1 : CA (stI S 40 3 (nI (n.1 - 1))) (g, v, x, l, u, (n.1 - 1, n.2), k, h) := q.undo (Fr.stI (by show _ ∨ _; omega)) qn
    have q2 : CA S1 (g, n.2 (n.1 - 1), x, l, u, (n.1 - 1, n.2), k, h) := q1.now (e2.mono (fun y hy => by show _ ∨ _; omega)) e3
    have e40 : S1.1 40 3 = nI (n.1 - 1) := q2.2.2.2.2.2.1.1.1
    refine AgrI (r := nI (n.1 - 1)) (c' := c) m (S1 := S1) ?_ (lowTr (Fr.stI (by unfold lowC; omega)) (e2.low (fun y hy => by omega))) q2 ⟨w.1, hv', w.2.2.1, w.2.2.2.1, w.2.2.2.2.1, ⟨by show n.1 - 1 ≤ 12; omega, fun i hi => w.2.2.2.2.2.1.2 i (by have hi2 : i < n.1 - 1 := hi; show i < n.1; omega)⟩, w.2.2.2.2.2.2⟩ (by omega) (fun T mt => ?_)
    · have n1 : (1 : Int32) ≤ nI n.1 := nI_le (a := 1) (by omega) (by omega)
      simp (disch := omega) only [Option.bind_some, ↓ile_t, ↓ile_f, ↓ilt_t, ↓ilt_f, ↓ieq_t, ↓ieq_f, ↓iz_t, ↓iz_f, ↓iltz, ↓izle, ↓ilez_t, ↓ilez_f, ↓im1, ile_t, ile_f, ilt_t, ilt_f, ieq_t, ieq_f, iz_t, iz_f, iltz, izle, ilez_t, ilez_f, im1, gZ_0, gZ_1, e10, e00, ↓reduceIte, Sum.elim_inl, Sum.elim_inr, nI_1, nI_add, Int32.sub_zero, f_c10_undo, zc10, zr10_0, zr10_1, zr10_2, zr10_3, zr10_4, zr10_5, zr10_6, zr10_7, zr10_8, zr10_9, zr10_10, zs10_11, zs10_12, f_c5_pop, zc40, zr40_0, zr40_1, zr40_2, zi40_3, zs40_3, u0, if_pos n1, nI_sub1, rdI_eq, zg41, show (stI S 40 3 (nI (n.1 - 1))).2.2 41 (n.1 - 1) = some (44 + 6 * π (n.1 - 1)) from p2, e1, e40]
    · have t1 := mt.thr
      have e23 : (stI T 144 10 0).1 144 23 = nI n.1 := t1.2.2.2.2.2.1.1
      have mn : MN (stI (stI T 144 10 0) 144 23 (nI (n.1 - 1))) (n.1 - 1, n.2) := by
        refine ⟨rdI_eq, fun i hi => ?_⟩
        have hi2 : i < n.1 - 1 := hi
        exact (t1.2.2.2.2.2.1.2 i (by show i < n.1; omega)).fr (Fr.stI (A := fun x => x = 144) rfl) (by omega)
      have t2 : MA (stI (stI T 144 10 0) 144 23 (nI (n.1 - 1))) (g, v, x, l, u, (n.1 - 1, n.2), k, h) c := t1.undo (FM.stK (by show _ ∨ _; omega)) mn
      have mv : MV (stI (stI T 144 10 0) 144 23 (nI (n.1 - 1))) 154 (43 * (n.1 - 1)) (n.2 (n.1 - 1)) := (t1.2.2.2.2.2.1.2 (n.1 - 1) (by show n.1 - 1 < n.1; omega)).fr (Fr.stI (A := fun x => x = 144) rfl) (by omega)
      obtain ⟨T1, f1, f2, f3⟩ := M_back (L := L) (N := N) (T := stI (stI T 144 10 0) 144 23 (nI (n.1 - 1))) (d := 154) (m := 516) (o := 43 * (n.1 - 1)) (Lp := lp_c11_undo_26 N 144) (by rfl) (by omega) (by omega) hv'.1 mv hN
        (fun k i s hi hs => by
          have es : s.1 144 23 = nI (n.1 - 1) := (hs.k (fun z => z)).trans rdI_eq
          rw [lp_c11_undo_26.eq_2]
          simp (disch := omega) only [Option.bind_some, ↓ile_t, ↓ile_f, ↓ilt_t, ↓ilt_f, ↓ieq_t, ↓ieq_f, ↓iz_t, ↓iz_f, ↓iltz, ↓izle, ↓ilez_t, ↓ilez_f, ↓im1, ile_t, ile_f, ilt_t, ilt_f, ieq_t, ieq_f, iz_t, iz_f, iltz, izle, ilez_t, ilez_f, im1, gZ_0, gZ_1, e10, e00, ↓reduceIte, Sum.elim_inl, Sum.elim_inr, nI_1, nI_add, Int32.sub_zero, k43, zr144_0, zr144_22, zi144_23, es, nI_mul, zg154, zp145])
        (fun k s => by
          rw [lp_c11_undo_26.eq_2]
          simp (disch := omega) only [Option.bind_some, ↓ile_t, ↓ile_f, ↓ilt_t, ↓ilt_f, ↓ieq_t, ↓ieq_f, ↓iz_t, ↓iz_f, ↓iltz, ↓izle, ↓ilez_t, ↓ilez_f, ↓im1, ile_t, ile_f, ilt_t, ilt_f, ieq_t, ieq_f, iz_t, iz_f, iltz, izle, ilez_t, ilez_f, im1, gZ_0, gZ_1, e10, e00, ↓reduceIte, Sum.elim_inl, Sum.elim_inr, nI_1, nI_add, Int32.sub_zero, k43])
      have e23' : T1.1 144 23 = nI (n.1 - 1) := (f2.k (fun z => z)).trans rdI_eq
      refine ⟨T1, ?_, highTr thrH (highTr (Fr.stI (by unfold highM; omega)) (f2.high (fun y hy => by omega))), t2.now (f2.mono (fun y hy => Or.inr hy) (fun _ z => z.elim)) f3⟩
      simp (disch := omega) only [Option.bind_some, ↓ile_t, ↓ile_f, ↓ilt_t, ↓ilt_f, ↓ieq_t, ↓ieq_f, ↓iz_t, ↓iz_f, ↓iltz, ↓izle, ↓ilez_t, ↓ilez_f, ↓im1, ile_t, ile_f, ilt_t, ilt_f, ieq_t, ieq_f, iz_t, iz_f, iltz, izle, ilez_t, ilez_f, im1, gZ_0, gZ_1, e10, e00, ↓reduceIte, Sum.elim_inl, Sum.elim_inr, nI_1, nI_add, Int32.sub_zero, f_c11_undo, zc144, zs144_10, zi144_23, e23, nI_sub1, zs144_23, f1, e23']
theorem nar1 : vp_nar .boolean 1 = 1 := by decide
theorem nar0 : vp_nar .boolean 0 = 0 := by decide
theorem M_in01 {p : Int32} {h : gH} (hp : p < 0 ∨ (¬ p < 0 ∧ nI 2 ≤ p)) : f_c11_in N p 0 1 h = some 0 := M_in_out (n := 2) (by omega) hp
theorem A_keep {p : Int32} (w : WA A) (q : CA S A) (m : MA S A c) (hN : 900 ≤ N) : Agr L S c (f_c10_keep N 10 p) (f_c11_keep N 144 p) := by
  obtain ⟨g, v, x, l, u, n, k, h⟩ := A
  have h8 := w.2.1.1
  change vN v ≤ 8 at h8
  have hK := q.2.2.2.2.2.2.1
  rcases in_or (n := 2) p (by omega) with ⟨i, hi, rfl⟩ | hp
  · have hs : SA (116 + 6 * i) := by
      match i, hi with
      | 0, _ => exact SA_116
      | 1, _ => exact SA_122
    obtain ⟨S1, e1, e2, e3⟩ := C_take (L := L) (N := N) hs SA_19 (by omega) q.2.1 h8 hN
    have qk : CK (stI S1 43 i 1) (fun j => if j = i then some v else k j) := by
      intro j hj
      obtain ⟨k1', k2', k3'⟩ := hK j hj
      refine ⟨?_, fun hn => ?_, fun w' hw' => ?_⟩
      · show S1.2.2 42 j = _
        rw [e2.p (by omega)]
        exact k1'
      · have hn2 : (if j = i then some v else k j) = none := hn
        by_cases z : j = i
        · rw [if_pos z] at hn2; cases hn2
        · rw [if_neg z] at hn2
          rw [rdI_ne (by omega), e2.i (by omega)]
          exact k2' hn2
      · have hn2 : (if j = i then some v else k j) = some w' := hw'
        by_cases z : j = i
        · rw [if_pos z] at hn2
          cases hn2
          subst z
          exact ⟨rdI_eq, e3.fr (Fr.stI (A := fun x => x = 43) rfl) (fun x h1 h2 => by omega)⟩
        · rw [if_neg z] at hn2
          refine ⟨by rw [rdI_ne (by omega), e2.i (by omega)]; exact (k3' w' hn2).1, ?_⟩
          refine CV.fr (Fr.stI (A := fun x => x = 43) rfl) (fun x h1 h2 => by omega) ?_
          exact (k3' w' hn2).2.fr e2 (fun x h1 h2 => by omega)
    have q2 : CA (stI S1 43 i 1) (g, v, x, l, u, n, (fun j => if j = i then some v else k j), h) := q.kept ((e2.mono (fun y hy => by show _ ∨ _; omega)).trans (Fr.stI (A := fun y => sC y ∨ y = 43 ∨ (116 ≤ y ∧ y ≤ 127)) (by omega)) (fun _ z => z) (fun _ z => z)) qk
    have w2 : WA (g, v, x, l, u, n, (fun j => if j = i then some v else k j), h) := by
      refine ⟨w.1, w.2.1, w.2.2.1, w.2.2.2.1, w.2.2.2.2.1, w.2.2.2.2.2.1, fun j hj w' hw' => ?_, w.2.2.2.2.2.2.2⟩
      have hn2 : (if j = i then some v else k j) = some w' := hw'
      by_cases z : j = i
      · rw [if_pos z] at hn2; cases hn2; exact w.2.1
      · rw [if_neg z] at hn2; exact w.2.2.2.2.2.2.1 j hj w' hn2
    have p0 : ¬ nI i < 0 := nI_pos (by omega)
    refine AgrI (r := 1) (c' := c) m (S1 := stI S1 43 i 1) ?_ (lowTr (e2.low (fun y hy => by omega)) (Fr.stI (by unfold lowC; omega))) q2 w2 (by omega) (fun T mt => ?_)
    · have eg : gaR (mk L S) 42 (nI i) = some (116 + 6 * i) := by rw [zg42 hi]; exact (hK i hi).1
      simp (disch := omega) only [Option.bind_some, ↓ile_t, ↓ile_f, ↓ilt_t, ↓ilt_f, ↓ieq_t, ↓ieq_f, ↓iz_t, ↓iz_f, ↓iltz, ↓izle, ↓ilez_t, ↓ilez_f, ↓im1, ile_t, ile_f, ilt_t, ilt_f, ieq_t, ieq_f, iz_t, iz_f, iltz, izle, ilez_t, ilez_f, im1, gZ_0, gZ_1, e10, e00, ↓reduceIte, Sum.elim_inl, Sum.elim_inr, nI_1, nI_add, Int32.sub_zero, f_c10_keep, zc10, zr10_0, zr10_1, zr10_2, zr10_3, zr10_4, zr10_5, zr10_6, zr10_7, zr10_8, zr10_9, zr10_10, zs10_11, zs10_12, f_c5_store, zc40, zr40_0, zr40_1, zr40_2, zi40_3, zs40_3, k2, eg, e1, zp43, nar1]
    · have t1 := mt.thr
      have hc38 : (stI T 144 10 0).1 144 38 = nI c := t1.2.2.2.2.2.2.1.1
      have m1 : MW (stI (stI (stI T 144 10 0) 168 i 1) 169 i (nI c)) 145 v := t1.2.1.fr ((Fr.stI (A := fun x => x = 168 ∨ x = 169) (Or.inl rfl)).trans (Fr.stI (A := fun x => x = 168 ∨ x = 169) (Or.inr rfl)) (fun _ z => z) (fun _ z => z)) (by omega)
      obtain ⟨T1, f1, f2, f3, f4⟩ := M_lay (L := L) (N := N) (S := stI (stI (stI T 144 10 0) 168 i 1) 169 i (nI c)) (o := 43 * i) (d := 167) (m := 86) MA_145 (by rfl) (by omega) (by omega) (by omega) (by omega) hN
      have mk' : MK T1 (fun j => if j = i then some v else k j) c := by
        refine ⟨(f2.k (fun z => z)).trans ((rdI_ne (by omega)).trans ((rdI_ne (by omega)).trans hc38)), fun j hj => ?_⟩
        have e168 : ∀ j, T1.1 168 j = (stI (stI (stI T 144 10 0) 168 i 1) 169 i (nI c)).1 168 j := fun j => f2.i (by omega) (by omega) j
        have e169 : ∀ j, T1.1 169 j = (stI (stI (stI T 144 10 0) 168 i 1) 169 i (nI c)).1 169 j := fun j => f2.i (by omega) (by omega) j
        obtain ⟨k1', k2'⟩ := t1.2.2.2.2.2.2.1.2 j hj
        by_cases z : j = i
        · subst z
          refine ⟨fun hn => ?_, fun w' hw' => ?_⟩
          · have hn2 : (if j = j then some v else k j) = none := hn
            rw [if_pos rfl] at hn2; cases hn2
          · have hn2 : (if j = j then some v else k j) = some w' := hw'
            rw [if_pos rfl] at hn2
            cases hn2
            refine ⟨by rw [e168, rdI_ne (by omega), rdI_eq], by rw [e169, rdI_eq], MV.of h8 f3 m1⟩
        · have x168 : T1.1 168 j = (stI T 144 10 0).1 168 j := by rw [e168, rdI_ne (by omega), rdI_ne (by omega)]
          have x169 : T1.1 169 j = (stI T 144 10 0).1 169 j := by rw [e169, rdI_ne (by omega), rdI_ne (by omega)]
          refine ⟨fun hn => ?_, fun w' hw' => ?_⟩
          · have hn2 : (if j = i then some v else k j) = none := hn
            rw [if_neg z] at hn2
            rw [x168, x169]
            exact k1' hn2
          · have hn2 : (if j = i then some v else k j) = some w' := hw'
            rw [if_neg z] at hn2
            rw [x168, x169]
            refine ⟨(k2' w' hn2).1, (k2' w' hn2).2.1, MV.cp (w.2.2.2.2.2.2.1 j hj w' hn2).1 (fun r hr => ?_) (k2' w' hn2).2.2⟩
            rw [f4 _ (by omega), rdI_ne (by omega), rdI_ne (by omega)]
      refine ⟨T1, ?_, highTr thrH (highTr (Fr.stI (by unfold highM; omega)) (highTr (Fr.stI (by unfold highM; omega)) (f2.high (fun y hy => by omega)))), t1.kept (((FM.stA (A := fun y => sM y ∨ (167 ≤ y ∧ y ≤ 169)) (K := fun y => sK y ∨ y = 38) (by omega) (by omega)).tr (FM.stA (by omega) (by omega))).tr (f2.mono (fun y hy => by show _ ∨ _; omega) (fun _ z => z.elim))) mk'⟩
      have ei : f_c11_in N (nI i) 0 1 (mk L (stI T 144 10 0)) = some 1 := M_in_t p0 (nI_nlt (a := 1) (by omega) (by omega))
      have hc0 : T.1 144 38 = nI c := mt.2.2.2.2.2.2.1.1
      simp (disch := omega) only [Option.bind_some, ↓ile_t, ↓ile_f, ↓ilt_t, ↓ilt_f, ↓ieq_t, ↓ieq_f, ↓iz_t, ↓iz_f, ↓iltz, ↓izle, ↓ilez_t, ↓ilez_f, ↓im1, ile_t, ile_f, ilt_t, ilt_f, ieq_t, ieq_f, iz_t, iz_f, iltz, izle, ilez_t, ilez_f, im1, gZ_0, gZ_1, e10, e00, ↓reduceIte, Sum.elim_inl, Sum.elim_inr, nI_1, nI_add, Int32.sub_zero, f_c11_keep, zc144, zs144_10, ei, zr144_40, zp168, nar1, zr144_41, zi144_38, rdI_ne, hc0, zp169, zr144_0, zr144_39, k43, nI_mul, f1]
  · refine AgrI (r := 0) (A' := (g, v, x, l, u, n, k, h)) (c' := c) m (S1 := S) ?_ Fr.refl q w (by omega) (fun T mt => ⟨stI T 144 10 0, ?_, thrH, mt.thr⟩)
    · rcases hp with hp | ⟨hp, hp2⟩
      · simp (disch := omega) only [Option.bind_some, ↓ile_t, ↓ile_f, ↓ilt_t, ↓ilt_f, ↓ieq_t, ↓ieq_f, ↓iz_t, ↓iz_f, ↓iltz, ↓izle, ↓ilez_t, ↓ilez_f, ↓im1, ile_t, ile_f, ilt_t, ilt_f, ieq_t, ieq_f, iz_t, iz_f, iltz, izle, ilez_t, ilez_f, im1, gZ_0, gZ_1, e10, e00, ↓reduceIte, Sum.elim_inl, Sum.elim_inr, nI_1, nI_add, Int32.sub_zero, f_c10_keep, zc10, zr10_0, zr10_1, zr10_2, zr10_3, zr10_4, zr10_5, zr10_6, zr10_7, zr10_8, zr10_9, zr10_10, zs10_11, zs10_12, f_c5_store, zc40, zr40_0, zr40_1, zr40_2, zi40_3, zs40_3, if_pos hp]
      · have p2 : ¬ p < 2 := by
          rw [i32_lt]
          rw [i32_le] at hp2
          exact fun z => absurd (Int.lt_of_le_of_lt hp2 z) (Int.lt_irrefl _)
        simp (disch := omega) only [Option.bind_some, ↓ile_t, ↓ile_f, ↓ilt_t, ↓ilt_f, ↓ieq_t, ↓ieq_f, ↓iz_t, ↓iz_f, ↓iltz, ↓izle, ↓ilez_t, ↓ilez_f, ↓im1, ile_t, ile_f, ilt_t, ilt_f, ieq_t, ieq_f, iz_t, iz_f, iltz, izle, ilez_t, ilez_f, im1, gZ_0, gZ_1, e10, e00, ↓reduceIte, Sum.elim_inl, Sum.elim_inr, nI_1, nI_add, Int32.sub_zero, f_c10_keep, zc10, zr10_0, zr10_1, zr10_2, zr10_3, zr10_4, zr10_5, zr10_6, zr10_7, zr10_8, zr10_9, zr10_10, zs10_11, zs10_12, f_c5_store, zc40, zr40_0, zr40_1, zr40_2, zi40_3, zs40_3, if_neg hp, if_neg p2]
    · simp (disch := omega) only [Option.bind_some, ↓ile_t, ↓ile_f, ↓ilt_t, ↓ilt_f, ↓ieq_t, ↓ieq_f, ↓iz_t, ↓iz_f, ↓iltz, ↓izle, ↓ilez_t, ↓ilez_f, ↓im1, ile_t, ile_f, ilt_t, ilt_f, ieq_t, ieq_f, iz_t, iz_f, iltz, izle, ilez_t, ilez_f, im1, gZ_0, gZ_1, e10, e00, ↓reduceIte, Sum.elim_inl, Sum.elim_inr, nI_1, nI_add, Int32.sub_zero, f_c11_keep, zc144, zs144_10, M_in01 (N := N) hp, eq_self_iff_true]
theorem A_again {p : Int32} (w : WA A) (q : CA S A) (m : MA S A c) (hc : c < 2000000) (hN : 900 ≤ N) : Agr L S c (f_c10_again N 10 p) (f_c11_again N 144 p) := by
  obtain ⟨g, v, x, l, u, n, k, h⟩ := A
  have hK := q.2.2.2.2.2.2.1
  rcases in_or (n := 2) p (by omega) with ⟨i, hi, rfl⟩ | hp
  · have hs : SA (116 + 6 * i) := by
      match i, hi with
      | 0, _ => exact SA_116
      | 1, _ => exact SA_122
    obtain ⟨k1', k2', k3'⟩ := hK i hi
    have p0 : ¬ nI i < 0 := nI_pos (by omega)
    have p2 : ¬ (2 : Int32) ≤ nI i := nI_ge (b := 2) hi (by omega)
    have ei : ∀ T : gS, f_c11_in N (nI i) 0 1 (mk L T) = some 1 := fun T => M_in_t p0 (nI_nlt (a := 1) (by omega) (by omega))
    cases hk : k i with
    | none =>
      refine AgrI (r := 0) (A' := (g, v, x, l, u, n, k, h)) (c' := c) m (S1 := S) ?_ Fr.refl q w (by omega) (fun T mt => ⟨stI T 144 10 0, ?_, thrH, mt.thr⟩)
      · have e43 := k2' hk
        simp (disch := omega) only [Option.bind_some, ↓ile_t, ↓ile_f, ↓ilt_t, ↓ilt_f, ↓ieq_t, ↓ieq_f, ↓iz_t, ↓iz_f, ↓iltz, ↓izle, ↓ilez_t, ↓ilez_f, ↓im1, ile_t, ile_f, ilt_t, ilt_f, ieq_t, ieq_f, iz_t, iz_f, iltz, izle, ilez_t, ilez_f, im1, gZ_0, gZ_1, e10, e00, ↓reduceIte, Sum.elim_inl, Sum.elim_inr, nI_1, nI_add, Int32.sub_zero, f_c10_again, zc10, zr10_0, zr10_1, zr10_2, zr10_3, zr10_4, zr10_5, zr10_6, zr10_7, zr10_8, zr10_9, zr10_10, zs10_11, zs10_12, f_c5_bring, zc40, zr40_0, zr40_1, zr40_2, zi40_3, zs40_3, if_neg p2, zg43, e43, eq_self_iff_true]
      · have t1 := mt.thr
        have hc38 : (stI T 144 10 0).1 144 38 = nI c := t1.2.2.2.2.2.2.1.1
        rcases (t1.2.2.2.2.2.2.1.2 i hi).1 hk with z | ⟨z1, d, hd, z2⟩
        · simp (disch := omega) only [Option.bind_some, ↓ile_t, ↓ile_f, ↓ilt_t, ↓ilt_f, ↓ieq_t, ↓ieq_f, ↓iz_t, ↓iz_f, ↓iltz, ↓izle, ↓ilez_t, ↓ilez_f, ↓im1, ile_t, ile_f, ilt_t, ilt_f, ieq_t, ieq_f, iz_t, iz_f, iltz, izle, ilez_t, ilez_f, im1, gZ_0, gZ_1, e10, e00, ↓reduceIte, Sum.elim_inl, Sum.elim_inr, nI_1, nI_add, Int32.sub_zero, f_c11_again, zc144, zs144_10, ei, zr144_40, zg168, z, eq_self_iff_true]
        · simp (disch := omega) only [Option.bind_some, ↓ile_t, ↓ile_f, ↓ilt_t, ↓ilt_f, ↓ieq_t, ↓ieq_f, ↓iz_t, ↓iz_f, ↓iltz, ↓izle, ↓ilez_t, ↓ilez_f, ↓im1, ile_t, ile_f, ilt_t, ilt_f, ieq_t, ieq_f, iz_t, iz_f, iltz, izle, ilez_t, ilez_f, im1, gZ_0, gZ_1, e10, e00, ↓reduceIte, Sum.elim_inl, Sum.elim_inr, nI_1, nI_add, Int32.sub_zero, f_c11_again, zc144, zs144_10, ei, zr144_40, zg168, z1, e10, zr144_41, zg169, z2, zi144_38, hc38]
    | some v' =>
      obtain ⟨e43, cv'⟩ := k3' v' hk
      have hv' := w.2.2.2.2.2.2.1 i hi v' hk
      obtain ⟨S1, e1, e2, e3⟩ := C_take (L := L) (N := N) SA_19 hs (by omega) cv' hv'.1 hN
      have q1 : CA S1 (g, v', x, l, u, n, k, h) := q.now (e2.mono (fun y hy => by show _ ∨ _; omega)) e3
      have q2 : CA (stI S1 40 3 0) (g, v', x, l, u, (0, n.2), k, h) := by
        obtain ⟨_, π, u1, u2, u3⟩ := q1.2.2.2.2.2.1
        exact q1.undo (Fr.stI (by show _ ∨ _; omega)) ⟨⟨rdI_eq, by show 0 ≤ 12; omega⟩, π, u1, u2, fun i hi => by cases (show i < 0 from hi)⟩
      refine AgrI (r := 1) (c' := c) m (S1 := stI S1 40 3 0) ?_ (lowTr (e2.low (fun y hy => by omega)) (Fr.stI (by unfold lowC; omega))) q2 ⟨w.1, hv', w.2.2.1, w.2.2.2.1, w.2.2.2.2.1, ⟨by show 0 ≤ 12; omega, fun i hi => by cases (show i < 0 from hi)⟩, w.2.2.2.2.2.2⟩ (by omega) (fun T mt => ?_)
      · have eg : gaR (mk L S) 42 (nI i) = some (116 + 6 * i) := by rw [zg42 hi]; exact k1'
        simp (disch := omega) only [Option.bind_some, ↓ile_t, ↓ile_f, ↓ilt_t, ↓ilt_f, ↓ieq_t, ↓ieq_f, ↓iz_t, ↓iz_f, ↓iltz, ↓izle, ↓ilez_t, ↓ilez_f, ↓im1, ile_t, ile_f, ilt_t, ilt_f, ieq_t, ieq_f, iz_t, iz_f, iltz, izle, ilez_t, ilez_f, im1, gZ_0, gZ_1, e10, e00, ↓reduceIte, Sum.elim_inl, Sum.elim_inr, nI_1, nI_add, Int32.sub_zero, f_c10_again, zc10, zr10_0, zr10_1, zr10_2, zr10_3, zr10_4, zr10_5, zr10_6, zr10_7, zr10_8, zr10_9, zr10_10, zs10_11, zs10_12, f_c5_bring, zc40, zr40_0, zr40_1, zr40_2, zi40_3, zs40_3, if_neg p2, zg43, e43, e10, eg, e1]
      · have t1 := mt.thr
        have hc38 : (stI T 144 10 0).1 144 38 = nI c := t1.2.2.2.2.2.2.1.1
        obtain ⟨z1, z2, z3⟩ := (t1.2.2.2.2.2.2.1.2 i hi).2 v' hk
        obtain ⟨T1, f1, f2, f3⟩ := M_back (L := L) (N := N) (T := stI T 144 10 0) (d := 167) (m := 86) (o := 43 * i) (Lp := lp_c11_again_40 N 144 (nI i)) (by rfl) (by omega) (by omega) hv'.1 z3 hN
          (fun k j s hj hs => by
            rw [lp_c11_again_40.eq_2]
            simp (disch := omega) only [Option.bind_some, ↓ile_t, ↓ile_f, ↓ilt_t, ↓ilt_f, ↓ieq_t, ↓ieq_f, ↓iz_t, ↓iz_f, ↓iltz, ↓izle, ↓ilez_t, ↓ilez_f, ↓im1, ile_t, ile_f, ilt_t, ilt_f, ieq_t, ieq_f, iz_t, iz_f, iltz, izle, ilez_t, ilez_f, im1, gZ_0, gZ_1, e10, e00, ↓reduceIte, Sum.elim_inl, Sum.elim_inr, nI_1, nI_add, Int32.sub_zero, k43, zr144_0, zr144_39, nI_mul, zg167, zp145])
          (fun k s => by
            rw [lp_c11_again_40.eq_2]
            simp (disch := omega) only [Option.bind_some, ↓ile_t, ↓ile_f, ↓ilt_t, ↓ilt_f, ↓ieq_t, ↓ieq_f, ↓iz_t, ↓iz_f, ↓iltz, ↓izle, ↓ilez_t, ↓ilez_f, ↓im1, ile_t, ile_f, ilt_t, ilt_f, ieq_t, ieq_f, iz_t, iz_f, iltz, izle, ilez_t, ilez_f, im1, gZ_0, gZ_1, e10, e00, ↓reduceIte, Sum.elim_inl, Sum.elim_inr, nI_1, nI_add, Int32.sub_zero, k43])
        have t2 : MA T1 (g, v', x, l, u, n, k, h) c := t1.now (f2.mono (fun y hy => Or.inr hy) (fun _ z => z.elim)) f3
        have t3 : MA (stI T1 144 23 0) (g, v', x, l, u, (0, n.2), k, h) c := t2.undo (FM.stK (by show _ ∨ _; omega)) ⟨rdI_eq, fun i hi => by cases (show i < 0 from hi)⟩
        refine ⟨stI T1 144 23 0, ?_, highTr thrH (highTr (f2.high (fun y hy => by omega)) (Fr.stI (by unfold highM; omega))), t3⟩
        simp (disch := omega) only [Option.bind_some, ↓ile_t, ↓ile_f, ↓ilt_t, ↓ilt_f, ↓ieq_t, ↓ieq_f, ↓iz_t, ↓iz_f, ↓iltz, ↓izle, ↓ilez_t, ↓ilez_f, ↓im1, ile_t, ile_f, ilt_t, ilt_f, ieq_t, ieq_f, iz_t, iz_f, iltz, izle, ilez_t, ilez_f, im1, gZ_0, gZ_1, e10, e00, ↓reduceIte, Sum.elim_inl, Sum.elim_inr, nI_1, nI_add, Int32.sub_zero, f_c11_again, zc144, zs144_10, ei, zr144_40, zg168, z1, e10, zr144_41, zg169, z2, zi144_38, hc38, f1, zs144_23]
  · refine AgrI (r := 0) (A' := (g, v, x, l, u, n, k, h)) (c' := c) m (S1 := S) ?_ Fr.refl q w (by omega) (fun T mt => ⟨stI T 144 10 0, ?_, thrH, mt.thr⟩)
    · rcases hp with hp | ⟨hp, hp2⟩
      · simp (disch := omega) only [Option.bind_some, ↓ile_t, ↓ile_f, ↓ilt_t, ↓ilt_f, ↓ieq_t, ↓ieq_f, ↓iz_t, ↓iz_f, ↓iltz, ↓izle, ↓ilez_t, ↓ilez_f, ↓im1, ile_t, ile_f, ilt_t, ilt_f, ieq_t, ieq_f, iz_t, iz_f, iltz, izle, ilez_t, ilez_f, im1, gZ_0, gZ_1, e10, e00, ↓reduceIte, Sum.elim_inl, Sum.elim_inr, nI_1, nI_add, Int32.sub_zero, f_c10_again, zc10, zr10_0, zr10_1, zr10_2, zr10_3, zr10_4, zr10_5, zr10_6, zr10_7, zr10_8, zr10_9, zr10_10, zs10_11, zs10_12, f_c5_bring, zc40, zr40_0, zr40_1, zr40_2, zi40_3, zs40_3, if_pos hp]
      · have p2 : (2 : Int32) ≤ p := hp2
        simp (disch := omega) only [Option.bind_some, ↓ile_t, ↓ile_f, ↓ilt_t, ↓ilt_f, ↓ieq_t, ↓ieq_f, ↓iz_t, ↓iz_f, ↓iltz, ↓izle, ↓ilez_t, ↓ilez_f, ↓im1, ile_t, ile_f, ilt_t, ilt_f, ieq_t, ieq_f, iz_t, iz_f, iltz, izle, ilez_t, ilez_f, im1, gZ_0, gZ_1, e10, e00, ↓reduceIte, Sum.elim_inl, Sum.elim_inr, nI_1, nI_add, Int32.sub_zero, f_c10_again, zc10, zr10_0, zr10_1, zr10_2, zr10_3, zr10_4, zr10_5, zr10_6, zr10_7, zr10_8, zr10_9, zr10_10, zs10_11, zs10_12, f_c5_bring, zc40, zr40_0, zr40_1, zr40_2, zi40_3, zs40_3, if_neg hp, if_pos p2]
    · simp (disch := omega) only [Option.bind_some, ↓ile_t, ↓ile_f, ↓ilt_t, ↓ilt_f, ↓ieq_t, ↓ieq_f, ↓iz_t, ↓iz_f, ↓iltz, ↓izle, ↓ilez_t, ↓ilez_f, ↓im1, ile_t, ile_f, ilt_t, ilt_f, ieq_t, ieq_f, iz_t, iz_f, iltz, izle, ilez_t, ilez_f, im1, gZ_0, gZ_1, e10, e00, ↓reduceIte, Sum.elim_inl, Sum.elim_inr, nI_1, nI_add, Int32.sub_zero, f_c11_again, zc144, zs144_10, M_in01 (N := N) hp, eq_self_iff_true]
theorem A_forget (w : WA A) (q : CA S A) (m : MA S A c) : Agr L S c (f_c10_forget N 10) (f_c11_forget N 144) := by
  obtain ⟨g, v, x, l, u, n, k, h⟩ := A
  have e128 : S.1 128 2 = nI h.1 := q.2.2.2.2.2.2.2.1
  have q2 : CA (stI S 128 2 0) (g, v, x, l, u, n, k, (0, h.2)) := q.hear (Fr.stI (by show _ ∨ _; omega)) ⟨rdI_eq, fun j hj => by cases (show j < 0 from hj)⟩
  refine AgrI (r := nI h.1) (c' := c) m (S1 := stI S 128 2 0) ?_ (Fr.stI (by unfold lowC; omega)) q2 ⟨w.1, w.2.1, w.2.2.1, w.2.2.2.1, w.2.2.2.2.1, w.2.2.2.2.2.1, w.2.2.2.2.2.2.1, ⟨by show 0 ≤ 12; omega, fun j hj => by cases (show j < 0 from hj)⟩⟩ (by omega) (fun T mt => ?_)
  · simp (disch := omega) only [Option.bind_some, ↓ile_t, ↓ile_f, ↓ilt_t, ↓ilt_f, ↓ieq_t, ↓ieq_f, ↓iz_t, ↓iz_f, ↓iltz, ↓izle, ↓ilez_t, ↓ilez_f, ↓im1, ile_t, ile_f, ilt_t, ilt_f, ieq_t, ieq_f, iz_t, iz_f, iltz, izle, ilez_t, ilez_f, im1, gZ_0, gZ_1, e10, e00, ↓reduceIte, Sum.elim_inl, Sum.elim_inr, nI_1, nI_add, Int32.sub_zero, f_c10_forget, zc10, zr10_0, zr10_1, zr10_2, zr10_3, zr10_4, zr10_5, zr10_6, zr10_7, zr10_8, zr10_9, zr10_10, zs10_11, zs10_12, zc128, zr128_0, zr128_1, zi128_2, zs128_2, e128]
  · have t1 := mt.thr
    have e34 : (stI T 144 10 0).1 144 34 = nI h.1 := t1.2.2.2.2.2.2.2.1
    refine ⟨stI (stI T 144 10 0) 144 34 0, ?_, highTr thrH (Fr.stI (by unfold highM; omega)), t1.hear (FM.stK (by show _ ∨ _; omega)) ⟨rdI_eq, fun j hj => by cases (show j < 0 from hj)⟩⟩
    simp (disch := omega) only [Option.bind_some, ↓ile_t, ↓ile_f, ↓ilt_t, ↓ilt_f, ↓ieq_t, ↓ieq_f, ↓iz_t, ↓iz_f, ↓iltz, ↓izle, ↓ilez_t, ↓ilez_f, ↓im1, ile_t, ile_f, ilt_t, ilt_f, ieq_t, ieq_f, iz_t, iz_f, iltz, izle, ilez_t, ilez_f, im1, gZ_0, gZ_1, e10, e00, ↓reduceIte, Sum.elim_inl, Sum.elim_inr, nI_1, nI_add, Int32.sub_zero, f_c11_forget, zc144, zs144_10, zi144_34, e34, zs144_34]
end KEPT
