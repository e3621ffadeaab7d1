/-! CALLS: the dearest well, what a well bears -/
section DEARS
variable {L N : Nat} {S T : gS} {c : Nat} {g : pG} {v v' : pV} {x : pX} {l : List Int64} {u : pX} {n : pN} {k : Nat → Option pV} {h : pH} {A : pA} {code : List Int32}
theorem M_shift {kd i b : Nat} (hk : kd < 5) (hi : i < b) (hb : b ≤ 8) (h40 : T.1 156 40 = nI b) (hN : 900 ≤ N) : ∃ T', lp_c11_takeAway_9 N 144 (nI kd) N (nI i) (mk L T) = some (mk L T') ∧ FM (fun y => y = 156) (fun _ => False) T T' ∧ ∀ t, (8 * kd + i ≤ t → t < 8 * kd + (b - 1) → T'.1 156 t = T.1 156 (t + 1)) ∧ (t < 8 * kd + i ∨ 8 * kd + (b - 1) ≤ t → T'.1 156 t = T.1 156 t) := by
  obtain ⟨r, e, T', er, h1, h2⟩ := lp_inv (Lp := fun kk (s : gS) j => lp_c11_takeAway_9 N 144 (nI kd) kk (nI j) (mk L s)) (n := b - 1) (P := fun j s => i ≤ j ∧ FM (fun y => y = 156) (fun _ => False) T s ∧ ∀ t, (8 * kd + i ≤ t → t < 8 * kd + j → s.1 156 t = T.1 156 (t + 1)) ∧ (t < 8 * kd + i ∨ 8 * kd + j ≤ t → s.1 156 t = T.1 156 t)) (Q := fun r => ∃ T', r = mk L T' ∧ FM (fun y => y = 156) (fun _ => False) T T' ∧ ∀ t, (8 * kd + i ≤ t → t < 8 * kd + (b - 1) → T'.1 156 t = T.1 156 (t + 1)) ∧ (t < 8 * kd + i ∨ 8 * kd + (b - 1) ≤ t → T'.1 156 t = T.1 156 t))
    (fun kk j s hj hs => Or.inr (by
      obtain ⟨hij, hF, hs⟩ := hs
      have e40 : s.1 156 40 = nI b := ((hs 40).2 (by omega)).trans h40
      have e1 : s.1 156 (8 * kd + j + 1) = T.1 156 (8 * kd + j + 1) := (hs _).2 (by omega)
      refine ⟨stI s 156 (8 * kd + j) (T.1 156 (8 * kd + j + 1)), ?_, by omega, hF.tr (FM.stA rfl (by omega)), fun t => ⟨fun h1 h2 => ?_, fun h1 => ?_⟩⟩
      · show lp_c11_takeAway_9 N 144 (nI kd) (kk + 1) _ _ = _
        rw [lp_c11_takeAway_9.eq_2]
        simp (disch := omega) only [Option.bind_some, ↓ile_t, ↓ile_f, ↓ilt_t, ↓ilt_f, ↓ieq_t, ↓ieq_f, ↓iz_t, ↓iz_f, ↓iltz, ↓izle, ↓ilez_t, ↓ilez_f, ↓im1, ile_t, ile_f, ilt_t, ilt_f, ieq_t, ieq_f, iz_t, iz_f, iltz, izle, ilez_t, ilez_f, im1, gZ_0, gZ_1, e10, e00, ↓reduceIte, Sum.elim_inl, Sum.elim_inr, nI_1, nI_add, Int32.sub_zero, zr144_25, k40, zg156, e40, nI_sub1, k8, nI_mul, e1, zp156]
      · by_cases z : t = 8 * kd + j
        · subst z; rw [rdI_eq]
        · rw [rdI_ne (by omega)]; exact (hs t).1 h1 (by omega)
      · rw [rdI_ne (by omega)]; exact (hs t).2 (by omega)))
    (fun kk s hs => by
      obtain ⟨hij, hF, hs⟩ := hs
      have e40 : s.1 156 40 = nI b := ((hs 40).2 (by omega)).trans h40
      refine ⟨mk L s, ?_, s, rfl, hF, hs⟩
      show lp_c11_takeAway_9 N 144 (nI kd) (kk + 1) _ _ = _
      rw [lp_c11_takeAway_9.eq_2]
      simp (disch := omega) only [Option.bind_some, ↓ile_t, ↓ile_f, ↓ilt_t, ↓ilt_f, ↓ieq_t, ↓ieq_f, ↓iz_t, ↓iz_f, ↓iltz, ↓izle, ↓ilez_t, ↓ilez_f, ↓im1, ile_t, ile_f, ilt_t, ilt_f, ieq_t, ieq_f, iz_t, iz_f, iltz, izle, ilez_t, ilez_f, im1, gZ_0, gZ_1, e10, e00, ↓reduceIte, Sum.elim_inl, Sum.elim_inr, nI_1, nI_add, Int32.sub_zero, zr144_25, k40, zg156, e40, nI_sub1]) (b - 1 - i) N i T (by omega) (by omega) ⟨Nat.le_refl _, FM.refl, fun t => ⟨fun h1 h2 => by omega, fun _ => rfl⟩⟩
  rw [er] at e
  exact ⟨T', e, h1, h2⟩
theorem M_take {i : Nat} (hm : MW T 156 v) (h8 : vN v ≤ 8) (hi : i < vN v) (hN : 900 ≤ N) : ∃ T', f_c11_takeAway N 144 (nI i) (mk L T) = some (mk L T') ∧ FM (fun y => y = 156) (fun _ => False) T T' ∧ MW T' 156 (vDrop v i) := by
  obtain ⟨r, e, T', er, h1, h2, h3⟩ := lp_inv (Lp := fun kk (s : gS) q => lp_c11_takeAway_2 N 144 (nI i) kk (nI q) (mk L s)) (n := 5) (P := fun q s => FM (fun y => y = 156) (fun _ => False) T s ∧ (∀ t, 40 ≤ t → s.1 156 t = T.1 156 t) ∧ ∀ z, z < 5 → ∀ j, (q ≤ z → j < 8 → s.1 156 (8 * z + j) = T.1 156 (8 * z + j)) ∧ (z < q → j < vN v - 1 → s.1 156 (8 * z + j) = T.1 156 (8 * z + (if j < i then j else j + 1)))) (Q := fun r => ∃ T', r = mk L T' ∧ FM (fun y => y = 156) (fun _ => False) T T' ∧ (∀ t, 40 ≤ t → T'.1 156 t = T.1 156 t) ∧ ∀ z, z < 5 → ∀ j, j < vN v - 1 → T'.1 156 (8 * z + j) = T.1 156 (8 * z + (if j < i then j else j + 1)))
    (fun kk q s hq hs => Or.inr (by
      obtain ⟨hF, h40, hs⟩ := hs
      have e40 : s.1 156 40 = nI (vN v) := (h40 40 (by omega)).trans hm.1
      obtain ⟨s1, a1, a2, a3⟩ := M_shift (L := L) (N := N) (kd := q) (i := i) (b := vN v) hq hi h8 e40 hN
      refine ⟨s1, ?_, hF.tr a2, fun t ht => ((a3 t).2 (by omega)).trans (h40 t ht), fun z hz j => ⟨fun h1 h2 => ?_, fun h1 h2 => ?_⟩⟩
      · show lp_c11_takeAway_2 N 144 (nI i) (kk + 1) _ _ = _
        rw [lp_c11_takeAway_2.eq_2]
        simp (disch := omega) only [Option.bind_some, ↓ile_t, ↓ile_f, ↓ilt_t, ↓ilt_f, ↓ieq_t, ↓ieq_f, ↓iz_t, ↓iz_f, ↓iltz, ↓izle, ↓ilez_t, ↓ilez_f, ↓im1, ile_t, ile_f, ilt_t, ilt_f, ieq_t, ieq_f, iz_t, iz_f, iltz, izle, ilez_t, ilez_f, im1, gZ_0, gZ_1, e10, e00, ↓reduceIte, Sum.elim_inl, Sum.elim_inr, nI_1, nI_add, Int32.sub_zero, k5, a1]
      · rw [(a3 _).2 (by omega)]
        exact (hs z hz j).1 (by omega) h2
      · by_cases e : z = q
        · subst e
          by_cases e2 : j < i
          · rw [if_pos e2, (a3 _).2 (by omega)]
            exact (hs z hz j).1 (by omega) (by omega)
          · rw [if_neg e2, (a3 _).1 (by omega) (by omega)]
            have := (hs z hz (j + 1)).1 (by omega) (by omega)
            exact this
        · rw [(a3 _).2 (by omega)]
          exact (hs z hz j).2 (by omega) h2))
    (fun kk s hs => by
      refine ⟨mk L s, ?_, s, rfl, hs.1, hs.2.1, fun z hz j hj => (hs.2.2 z hz j).2 hz hj⟩
      show lp_c11_takeAway_2 N 144 (nI i) (kk + 1) _ _ = _
      rw [lp_c11_takeAway_2.eq_2]
      simp (disch := omega) only [Option.bind_some, ↓ile_t, ↓ile_f, ↓ilt_t, ↓ilt_f, ↓ieq_t, ↓ieq_f, ↓iz_t, ↓iz_f, ↓iltz, ↓izle, ↓ilez_t, ↓ilez_f, ↓im1, ile_t, ile_f, ilt_t, ilt_f, ieq_t, ieq_f, iz_t, iz_f, iltz, izle, ilez_t, ilez_f, im1, gZ_0, gZ_1, e10, e00, ↓reduceIte, Sum.elim_inl, Sum.elim_inr, nI_1, nI_add, Int32.sub_zero, k5]) 5 N 0 T (by omega) (by omega) ⟨FM.refl, fun _ _ => rfl, fun z hz j => ⟨fun _ _ => rfl, fun h => by omega⟩⟩
  rw [er, nI_0] at e
  have e40 : T'.1 156 40 = nI (vN v) := (h2 40 (by omega)).trans hm.1
  refine ⟨stI T' 156 40 (nI (vN v - 1)), ?_, h1.tr (FM.stA rfl (by omega)), rdI_eq, ?_, ?_, fun w hw => ?_⟩
  · simp (disch := omega) only [Option.bind_some, ↓ile_t, ↓ile_f, ↓ilt_t, ↓ilt_f, ↓ieq_t, ↓ieq_f, ↓iz_t, ↓iz_f, ↓iltz, ↓izle, ↓ilez_t, ↓ilez_f, ↓im1, ile_t, ile_f, ilt_t, ilt_f, ieq_t, ieq_f, iz_t, iz_f, iltz, izle, ilez_t, ilez_f, im1, gZ_0, gZ_1, e10, e00, ↓reduceIte, Sum.elim_inl, Sum.elim_inr, nI_1, nI_add, Int32.sub_zero, f_c11_takeAway, zc144, e, zr144_25, k40, zg156, zp156, e40, nI_sub1]
  · rw [rdI_ne (by omega), h2 41 (by omega)]; exact hm.2.1
  · rw [rdI_ne (by omega), h2 42 (by omega)]; exact hm.2.2.1
  · have hw2 : w < vN v - 1 := hw
    have q0 := h3 0 (by omega) w hw2
    have q1 := h3 1 (by omega) w hw2
    have q2 := h3 2 (by omega) w hw2
    have q3 := h3 3 (by omega) w hw2
    have q4 := h3 4 (by omega) w hw2
    rw [Nat.mul_zero, Nat.zero_add, Nat.zero_add] at q0
    refine ⟨?_, ?_, ?_, ?_, ?_⟩
    all_goals rw [rdI_ne (by omega)]
    all_goals show _ = nI (if w < i then _ else _)
    all_goals by_cases z : w < i
    all_goals first | rw [if_pos z] at q0 q1 q2 q3 q4 ⊢ | rw [if_neg z] at q0 q1 q2 q3 q4 ⊢
    · rw [q0]; exact (hm.2.2.2 w (by omega)).1
    · rw [q0]; exact (hm.2.2.2 (w + 1) (by omega)).1
    · exact q1.trans (hm.2.2.2 w (by omega)).2.1
    · exact q1.trans (hm.2.2.2 (w + 1) (by omega)).2.1
    · exact q2.trans (hm.2.2.2 w (by omega)).2.2.1
    · exact q2.trans (hm.2.2.2 (w + 1) (by omega)).2.2.1
    · exact q3.trans (hm.2.2.2 w (by omega)).2.2.2.1
    · exact q3.trans (hm.2.2.2 (w + 1) (by omega)).2.2.2.1
    · exact q4.trans (hm.2.2.2 w (by omega)).2.2.2.2
    · exact q4.trans (hm.2.2.2 (w + 1) (by omega)).2.2.2.2
-- dearest
theorem A_dearest {y : Int32} (w : WA A) (q : CA S A) (m : MA S A c) (hN : 900 ≤ N) : Agr L S c (f_c10_dearest N 10 y) (f_c11_dearest N 144 y) := by
  obtain ⟨g, v, x, l, u, n, k, h⟩ := A
  have wv : WV g v := w.2.1
  have wg : WG g := w.1
  have h8 := wv.1
  obtain ⟨code, hc⟩ : ∃ code, ruleCode u.2 u.1 = .inl code := w.2.2.2.2.1.2
  rcases (show (y < 1 ∨ (¬ y < 1 ∧ ¬ y ≤ 30)) ∨ ∃ d, 1 ≤ d ∧ d ≤ 30 ∧ y = nI d from cas y 1 30 (by omega) (by omega)) with hy | ⟨d, d1, d2, rfl⟩
  · refine AgrR w q m (r := -1) ?_ (fun T _ t1 => ?_)
    · simp (disch := omega) only [Option.bind_some, ↓ile_t, ↓ile_f, ↓ilt_t, ↓ilt_f, ↓ieq_t, ↓ieq_f, ↓iz_t, ↓iz_f, ↓iltz, ↓izle, ↓ilez_t, ↓ilez_f, ↓im1, ile_t, ile_f, ilt_t, ilt_f, ieq_t, ieq_f, iz_t, iz_f, iltz, izle, ilez_t, ilez_f, im1, gZ_0, gZ_1, e10, e00, ↓reduceIte, Sum.elim_inl, Sum.elim_inr, nI_1, nI_add, Int32.sub_zero, f_c10_dearest, zc10, zr10_0, zr10_1, zr10_2, zr10_3, zr10_4, zr10_5, zr10_6, zr10_7, zr10_8, zr10_9, zr10_10, zs10_11, zs10_12, C_tried_f hy, eq_self_iff_true]
    · simp (disch := omega) only [Option.bind_some, ↓ile_t, ↓ile_f, ↓ilt_t, ↓ilt_f, ↓ieq_t, ↓ieq_f, ↓iz_t, ↓iz_f, ↓iltz, ↓izle, ↓ilez_t, ↓ilez_f, ↓im1, ile_t, ile_f, ilt_t, ilt_f, ieq_t, ieq_f, iz_t, iz_f, iltz, izle, ilez_t, ilez_f, im1, gZ_0, gZ_1, e10, e00, ↓reduceIte, Sum.elim_inl, Sum.elim_inr, nI_1, nI_add, Int32.sub_zero, f_c11_dearest, zc144, zs144_10, M_span_f hy, eq_self_iff_true]
  · have eN : S.1 19 0 = nI (vN v) := q.2.1.1
    by_cases z0 : vN v = 0
    · refine AgrR w q m (r := -2) ?_ (fun T _ t1 => ?_)
      · simp (disch := omega) only [Option.bind_some, ↓ile_t, ↓ile_f, ↓ilt_t, ↓ilt_f, ↓ieq_t, ↓ieq_f, ↓iz_t, ↓iz_f, ↓iltz, ↓izle, ↓ilez_t, ↓ilez_f, ↓im1, ile_t, ile_f, ilt_t, ilt_f, ieq_t, ieq_f, iz_t, iz_f, iltz, izle, ilez_t, ilez_f, im1, gZ_0, gZ_1, e10, e00, ↓reduceIte, Sum.elim_inl, Sum.elim_inr, nI_1, nI_add, Int32.sub_zero, f_c10_dearest, zc10, zr10_0, zr10_1, zr10_2, zr10_3, zr10_4, zr10_5, zr10_6, zr10_7, zr10_8, zr10_9, zr10_10, zs10_11, zs10_12, C_tried_t d1 d2, qc SA_19, qi0 SA_19, qs0 SA_19, qr1 SA_19, qr2 SA_19, qr3 SA_19, qr4 SA_19, qr5 SA_19, qi6 SA_19, qs6 SA_19, qi7 SA_19, qs7 SA_19, eN]
      · have eN' : (stI T 144 10 0).1 145 40 = nI (vN v) := t1.2.1.1
        simp (disch := omega) only [Option.bind_some, ↓ile_t, ↓ile_f, ↓ilt_t, ↓ilt_f, ↓ieq_t, ↓ieq_f, ↓iz_t, ↓iz_f, ↓iltz, ↓izle, ↓ilez_t, ↓ilez_f, ↓im1, ile_t, ile_f, ilt_t, ilt_f, ieq_t, ieq_f, iz_t, iz_f, iltz, izle, ilez_t, ilez_f, im1, gZ_0, gZ_1, e10, e00, ↓reduceIte, Sum.elim_inl, Sum.elim_inr, nI_1, nI_add, Int32.sub_zero, f_c11_dearest, zc144, zs144_10, M_span_t d1 d2, zr144_0, k40, zg145, eN']
    · have hB' : ∀ f, sMore code g (vDrop v f) d ≤ 9999 := fun f => sMore_le wv.drop
      generalize hV : (fun f => sMore code g (vDrop v f) d) = val
      have hval : ∀ f, sMore code g (vDrop v f) d = val f := fun f => by rw [← hV]
      have hB : ∀ f, val f ≤ 9999 := fun f => by rw [← hval]; exact hB' f
      have hC : ∃ r, lp_c10_dearest_29 N 10 (nI d) N (-1) 0 (nI 0) (mk L S) = some r ∧ ∃ S', r = (aX (sArg (fun _ => true) val (fun a b => decide (b < a)) (vN v)), aY 0 (sArg (fun _ => true) val (fun a b => decide (b < a)) (vN v)), mk L S') ∧ CA S' (g, v, x, l, u, n, k, h) ∧ Fr lowC S S' := by
        refine lp_inv (Lp := fun kk (s : Int32 × Int32 × gS) i => lp_c10_dearest_29 N 10 (nI d) kk s.1 s.2.1 (nI i) (mk L s.2.2)) (n := vN v) (P := fun i s => s.1 = aX (sArg (fun _ => true) val (fun a b => decide (b < a)) i) ∧ s.2.1 = aY 0 (sArg (fun _ => true) val (fun a b => decide (b < a)) i) ∧ CA s.2.2 (g, v, x, l, u, n, k, h) ∧ Fr lowC S s.2.2) (fun kk i s hi hs => Or.inr ?_) (fun kk s hs => ?_) (vN v) N 0 (-1, 0, S) (by omega) (by omega) ⟨rfl, rfl, q, Fr.refl⟩
        · obtain ⟨x1, x2, s⟩ := s
          obtain ⟨rfl, rfl, qs, fs⟩ := hs
          dsimp only at qs fs
          have eNs : s.1 19 0 = nI (vN v) := qs.2.1.1
          obtain ⟨s1, a1, b1, b2, b3⟩ := C_to31 (L := L) (N := N) qs w hN
          obtain ⟨s2, a2, b4, b5⟩ := C_drop (L := L) (N := N) SA_31 b2 h8 hi hN
          have b6 := b1.tri (b4.mono (fun y hy => by omega))
          obtain ⟨a, r1, r2, r3⟩ := b6.1.ru hc
          obtain ⟨s3, a3, b7, -, b8, -⟩ := C_pass31 (L := L) (N := N) (d := d) b6.1 w hc r2 r3 b5 wv.drop (by omega) hN
          rw [hval i] at a3
          have hVi := hB i
          refine ⟨(aX (sArg (fun _ => true) val (fun a b => decide (b < a)) (i + 1)), aY 0 (sArg (fun _ => true) val (fun a b => decide (b < a)) (i + 1)), s3), ?_, rfl, rfl, b7, lowTr fs (lowTr b3 (lowTr b6.2 b8))⟩
          cases hs : sArg (fun _ => true) val (fun a b => decide (b < a)) i with
          | none =>
            rw [sArg_tn rfl hs]
            show lp_c10_dearest_29 N 10 (nI d) (kk + 1) (-1) 0 (nI i) (mk L s) = lp_c10_dearest_29 N 10 (nI d) kk (nI i) (nI (val i)) (nI (i + 1)) (mk L s3)
            rw [lp_c10_dearest_29.eq_2]
            simp (disch := omega) only [Option.bind_some, ↓ile_t, ↓ile_f, ↓ilt_t, ↓ilt_f, ↓ieq_t, ↓ieq_f, ↓iz_t, ↓iz_f, ↓iltz, ↓izle, ↓ilez_t, ↓ilez_f, ↓im1, ile_t, ile_f, ilt_t, ilt_f, ieq_t, ieq_f, iz_t, iz_f, iltz, izle, ilez_t, ilez_f, im1, gZ_0, gZ_1, e10, e00, ↓reduceIte, Sum.elim_inl, Sum.elim_inr, nI_1, nI_add, Int32.sub_zero, zc10, zr10_0, zr10_1, zr10_2, zr10_3, zr10_4, zr10_5, zr10_6, zr10_7, zr10_8, zr10_9, zr10_10, zs10_11, zs10_12, qc SA_19, qi0 SA_19, qs0 SA_19, qr1 SA_19, qr2 SA_19, qr3 SA_19, qr4 SA_19, qr5 SA_19, qi6 SA_19, qs6 SA_19, qi7 SA_19, qs7 SA_19, eNs, m1lt, a1, a2, zr10_11 r1, a3]
          | some jm =>
            obtain ⟨j, mm⟩ := jm
            have hj := sArg_lt hB i j mm hs
            by_cases z : mm < val i
            · rw [sArg_ts rfl hs (decide_eq_true z)]
              show lp_c10_dearest_29 N 10 (nI d) (kk + 1) (nI j) (nI mm) (nI i) (mk L s) = lp_c10_dearest_29 N 10 (nI d) kk (nI i) (nI (val i)) (nI (i + 1)) (mk L s3)
              rw [lp_c10_dearest_29.eq_2]
              simp (disch := omega) only [Option.bind_some, ↓ile_t, ↓ile_f, ↓ilt_t, ↓ilt_f, ↓ieq_t, ↓ieq_f, ↓iz_t, ↓iz_f, ↓iltz, ↓izle, ↓ilez_t, ↓ilez_f, ↓im1, ile_t, ile_f, ilt_t, ilt_f, ieq_t, ieq_f, iz_t, iz_f, iltz, izle, ilez_t, ilez_f, im1, gZ_0, gZ_1, e10, e00, ↓reduceIte, Sum.elim_inl, Sum.elim_inr, nI_1, nI_add, Int32.sub_zero, zc10, zr10_0, zr10_1, zr10_2, zr10_3, zr10_4, zr10_5, zr10_6, zr10_7, zr10_8, zr10_9, zr10_10, zs10_11, zs10_12, qc SA_19, qi0 SA_19, qs0 SA_19, qr1 SA_19, qr2 SA_19, qr3 SA_19, qr4 SA_19, qr5 SA_19, qi6 SA_19, qs6 SA_19, qi7 SA_19, qs7 SA_19, eNs, m1lt, a1, a2, zr10_11 r1, a3]
            · rw [sArg_to rfl hs (decide_eq_false z)]
              show lp_c10_dearest_29 N 10 (nI d) (kk + 1) (nI j) (nI mm) (nI i) (mk L s) = lp_c10_dearest_29 N 10 (nI d) kk (nI j) (nI mm) (nI (i + 1)) (mk L s3)
              rw [lp_c10_dearest_29.eq_2]
              simp (disch := omega) only [Option.bind_some, ↓ile_t, ↓ile_f, ↓ilt_t, ↓ilt_f, ↓ieq_t, ↓ieq_f, ↓iz_t, ↓iz_f, ↓iltz, ↓izle, ↓ilez_t, ↓ilez_f, ↓im1, ile_t, ile_f, ilt_t, ilt_f, ieq_t, ieq_f, iz_t, iz_f, iltz, izle, ilez_t, ilez_f, im1, gZ_0, gZ_1, e10, e00, ↓reduceIte, Sum.elim_inl, Sum.elim_inr, nI_1, nI_add, Int32.sub_zero, zc10, zr10_0, zr10_1, zr10_2, zr10_3, zr10_4, zr10_5, zr10_6, zr10_7, zr10_8, zr10_9, zr10_10, zs10_11, zs10_12, qc SA_19, qi0 SA_19, qs0 SA_19, qr1 SA_19, qr2 SA_19, qr3 SA_19, qr4 SA_19, qr5 SA_19, qi6 SA_19, qs6 SA_19, qi7 SA_19, qs7 SA_19, eNs, m1lt, a1, a2, zr10_11 r1, a3]
        · obtain ⟨x1, x2, s⟩ := s
          obtain ⟨rfl, rfl, qs, fs⟩ := hs
          have eNs : s.1 19 0 = nI (vN v) := qs.2.1.1
          refine ⟨_, ?_, s, rfl, qs, fs⟩
          show lp_c10_dearest_29 N 10 (nI d) (kk + 1) _ _ _ _ = _
          rw [lp_c10_dearest_29.eq_2]
          simp (disch := omega) only [Option.bind_some, ↓ile_t, ↓ile_f, ↓ilt_t, ↓ilt_f, ↓ieq_t, ↓ieq_f, ↓iz_t, ↓iz_f, ↓iltz, ↓izle, ↓ilez_t, ↓ilez_f, ↓im1, ile_t, ile_f, ilt_t, ilt_f, ieq_t, ieq_f, iz_t, iz_f, iltz, izle, ilez_t, ilez_f, im1, gZ_0, gZ_1, e10, e00, ↓reduceIte, Sum.elim_inl, Sum.elim_inr, nI_1, nI_add, Int32.sub_zero, zc10, zr10_0, zr10_1, zr10_2, zr10_3, zr10_4, zr10_5, zr10_6, zr10_7, zr10_8, zr10_9, zr10_10, zs10_11, zs10_12, qc SA_19, qi0 SA_19, qs0 SA_19, qr1 SA_19, qr2 SA_19, qr3 SA_19, qr4 SA_19, qr5 SA_19, qi6 SA_19, qs6 SA_19, qi7 SA_19, qs7 SA_19, eNs]
      have hM : ∀ T1 : gS, MA T1 (g, v, x, l, u, n, k, h) c → ∃ r, lp_c11_dearest_34 N 144 (nI d) N (-1) (-1) (nI 0) (mk L T1) = some r ∧ ∃ S', r = (aX (sArg (fun _ => true) val (fun a b => decide (b < a)) (vN v)), aY (-1) (sArg (fun _ => true) val (fun a b => decide (b < a)) (vN v)), mk L S') ∧ MA S' (g, v, x, l, u, n, k, h) c ∧ Fr highM T1 S' := by
        intro T1 t1
        refine lp_inv (Lp := fun kk (s : Int32 × Int32 × gS) i => lp_c11_dearest_34 N 144 (nI d) kk s.1 s.2.1 (nI i) (mk L s.2.2)) (n := vN v) (P := fun i s => s.1 = aX (sArg (fun _ => true) val (fun a b => decide (b < a)) i) ∧ s.2.1 = aY (-1) (sArg (fun _ => true) val (fun a b => decide (b < a)) i) ∧ MA s.2.2 (g, v, x, l, u, n, k, h) c ∧ Fr highM T1 s.2.2) (fun kk i s hi hs => Or.inr ?_) (fun kk s hs => ?_) (vN v) N 0 (-1, -1, T1) (by omega) (by omega) ⟨rfl, rfl, t1, Fr.refl⟩
        · obtain ⟨x1, x2, s⟩ := s
          obtain ⟨rfl, rfl, qs, fs⟩ := hs
          dsimp only at qs fs
          have eNs : s.1 145 40 = nI (vN v) := qs.2.1.1
          obtain ⟨s1, a1, b1, b2, b3⟩ := M_then (L := L) (N := N) qs w hN
          obtain ⟨s2, a2, b4, b5⟩ := M_take (L := L) (N := N) b2 h8 hi hN
          have b6 := b1.tri b4
          obtain ⟨s3, a3, b7, -, b8⟩ := M_pin (L := L) (N := N) (d := d) b6.1 w hc b5 wv.drop (by omega) hN
          rw [hval i] at a3
          have hVi := hB i
          refine ⟨(aX (sArg (fun _ => true) val (fun a b => decide (b < a)) (i + 1)), aY (-1) (sArg (fun _ => true) val (fun a b => decide (b < a)) (i + 1)), s3), ?_, rfl, rfl, b7, highTr fs (highTr b3 (highTr b6.2 b8))⟩
          cases hs : sArg (fun _ => true) val (fun a b => decide (b < a)) i with
          | none =>
            have c9 : (-1 : Int32) < nI (val i) := by
              rw [i32_lt, nI_toInt (by omega)]
              have : (-1 : Int32).toInt = -1 := by decide
              omega
            rw [sArg_tn rfl hs]
            show lp_c11_dearest_34 N 144 (nI d) (kk + 1) (-1) (-1) (nI i) (mk L s) = lp_c11_dearest_34 N 144 (nI d) kk (nI i) (nI (val i)) (nI (i + 1)) (mk L s3)
            rw [lp_c11_dearest_34.eq_2]
            simp (disch := omega) only [Option.bind_some, ↓ile_t, ↓ile_f, ↓ilt_t, ↓ilt_f, ↓ieq_t, ↓ieq_f, ↓iz_t, ↓iz_f, ↓iltz, ↓izle, ↓ilez_t, ↓ilez_f, ↓im1, ile_t, ile_f, ilt_t, ilt_f, ieq_t, ieq_f, iz_t, iz_f, iltz, izle, ilez_t, ilez_f, im1, gZ_0, gZ_1, e10, e00, ↓reduceIte, Sum.elim_inl, Sum.elim_inr, nI_1, nI_add, Int32.sub_zero, zr144_0, k40, zg145, eNs, zr144_25, a1, a2, a3, if_pos c9]
          | some jm =>
            obtain ⟨j, mm⟩ := jm
            have hj := sArg_lt hB i j mm hs
            by_cases z : mm < val i
            · rw [sArg_ts rfl hs (decide_eq_true z)]
              show lp_c11_dearest_34 N 144 (nI d) (kk + 1) (nI j) (nI mm) (nI i) (mk L s) = lp_c11_dearest_34 N 144 (nI d) kk (nI i) (nI (val i)) (nI (i + 1)) (mk L s3)
              rw [lp_c11_dearest_34.eq_2]
              simp (disch := omega) only [Option.bind_some, ↓ile_t, ↓ile_f, ↓ilt_t, ↓ilt_f, ↓ieq_t, ↓ieq_f, ↓iz_t, ↓iz_f, ↓iltz, ↓izle, ↓ilez_t, ↓ilez_f, ↓im1, ile_t, ile_f, ilt_t, ilt_f, ieq_t, ieq_f, iz_t, iz_f, iltz, izle, ilez_t, ilez_f, im1, gZ_0, gZ_1, e10, e00, ↓reduceIte, Sum.elim_inl, Sum.elim_inr, nI_1, nI_add, Int32.sub_zero, zr144_0, k40, zg145, eNs, zr144_25, a1, a2, a3]
            · rw [sArg_to rfl hs (decide_eq_false z)]
              show lp_c11_dearest_34 N 144 (nI d) (kk + 1) (nI j) (nI mm) (nI i) (mk L s) = lp_c11_dearest_34 N 144 (nI d) kk (nI j) (nI mm) (nI (i + 1)) (mk L s3)
              rw [lp_c11_dearest_34.eq_2]
              simp (disch := omega) only [Option.bind_some, ↓ile_t, ↓ile_f, ↓ilt_t, ↓ilt_f, ↓ieq_t, ↓ieq_f, ↓iz_t, ↓iz_f, ↓iltz, ↓izle, ↓ilez_t, ↓ilez_f, ↓im1, ile_t, ile_f, ilt_t, ilt_f, ieq_t, ieq_f, iz_t, iz_f, iltz, izle, ilez_t, ilez_f, im1, gZ_0, gZ_1, e10, e00, ↓reduceIte, Sum.elim_inl, Sum.elim_inr, nI_1, nI_add, Int32.sub_zero, zr144_0, k40, zg145, eNs, zr144_25, a1, a2, a3]
        · obtain ⟨x1, x2, s⟩ := s
          obtain ⟨rfl, rfl, qs, fs⟩ := hs
          have eNs : s.1 145 40 = nI (vN v) := qs.2.1.1
          refine ⟨_, ?_, s, rfl, qs, fs⟩
          show lp_c11_dearest_34 N 144 (nI d) (kk + 1) _ _ _ _ = _
          rw [lp_c11_dearest_34.eq_2]
          simp (disch := omega) only [Option.bind_some, ↓ile_t, ↓ile_f, ↓ilt_t, ↓ilt_f, ↓ieq_t, ↓ieq_f, ↓iz_t, ↓iz_f, ↓iltz, ↓izle, ↓ilez_t, ↓ilez_f, ↓im1, ile_t, ile_f, ilt_t, ilt_f, ieq_t, ieq_f, iz_t, iz_f, iltz, izle, ilez_t, ilez_f, im1, gZ_0, gZ_1, e10, e00, ↓reduceIte, Sum.elim_inl, Sum.elim_inr, nI_1, nI_add, Int32.sub_zero, zr144_0, k40, zg145, eNs]
      obtain ⟨⟨j, mm⟩, hs⟩ := sArg_some (p := fun _ => true) (val := val) (bt := fun a b => decide (b < a)) (vN v) 0 (by omega) rfl
      have hj := sArg_lt hB _ j mm hs
      obtain ⟨r, er, S1, er2, q1, f1⟩ := hC
      rw [er2, hs, nI_0] at er
      change lp_c10_dearest_29 N 10 (nI d) N (-1) 0 0 (mk L S) = some (nI j, nI mm, mk L S1) at er
      obtain ⟨S2, e2, q2, s2, f2, -⟩ := C_try (L := L) (N := N) (d := d) q1 w hc (by omega) hN
      obtain ⟨S3, e3, q3, f3⟩ := C_tell2A (L := L) (N := N) (r := nI j) (y := (nI mm).toInt64) (z := (nI (sMore code g v d)).toInt64) q2
      refine AgrI (c' := c) m (S1 := S3) (r := nI j) ?_ (lowTr f1 (lowTr f2 f3)) q3 (w.rw (by show 2 ≤ 8; omega)) (by omega) (fun T mt => ?_)
      · simp (disch := omega) only [Option.bind_some, ↓ile_t, ↓ile_f, ↓ilt_t, ↓ilt_f, ↓ieq_t, ↓ieq_f, ↓iz_t, ↓iz_f, ↓iltz, ↓izle, ↓ilez_t, ↓ilez_f, ↓im1, ile_t, ile_f, ilt_t, ilt_f, ieq_t, ieq_f, iz_t, iz_f, iltz, izle, ilez_t, ilez_f, im1, gZ_0, gZ_1, e10, e00, ↓reduceIte, Sum.elim_inl, Sum.elim_inr, nI_1, nI_add, Int32.sub_zero, f_c10_dearest, zc10, zr10_0, zr10_1, zr10_2, zr10_3, zr10_4, zr10_5, zr10_6, zr10_7, zr10_8, zr10_9, zr10_10, zs10_11, zs10_12, C_tried_t d1 d2, qc SA_19, qi0 SA_19, qs0 SA_19, qr1 SA_19, qr2 SA_19, qr3 SA_19, qr4 SA_19, qr5 SA_19, qi6 SA_19, qs6 SA_19, qi7 SA_19, qs7 SA_19, eN, er, e2, e3]
      · have t1 := mt.thr
        have eN' : (stI T 144 10 0).1 145 40 = nI (vN v) := t1.2.1.1
        obtain ⟨r', er', T1, er2', t2, g1⟩ := hM _ t1
        rw [er2', hs, nI_0] at er'
        change lp_c11_dearest_34 N 144 (nI d) N (-1) (-1) 0 (mk L (stI T 144 10 0)) = some (nI j, nI mm, mk L T1) at er'
        obtain ⟨T2, a2, t3, m2, g2⟩ := M_then (L := L) (N := N) t2 w hN
        obtain ⟨T3, a3, t4, g3, k3⟩ := M_t1 (L := L) (N := N) (y := (nI mm).toInt64) t3
        have m3 : MW T3 156 v := tellW k3 (by omega) (clrW (by omega) m2)
        have w3 : WA (g, v, x, [(nI mm).toInt64], u, n, k, h) := w.rw (by show 1 ≤ 8; omega)
        obtain ⟨T4, a4, t5, -, g4⟩ := M_pin (L := L) (N := N) (d := d) t4 w3 hc m3 wv (by omega) hN
        obtain ⟨T5, a5, t6, g5, -⟩ := M_t2 (L := L) (N := N) (z := (nI (sMore code g v d)).toInt64) t5
        refine ⟨T5, ?_, highTr thrH (highTr g1 (highTr g2 (highTr g3 (highTr g4 g5)))), t6⟩
        simp (disch := omega) only [Option.bind_some, ↓ile_t, ↓ile_f, ↓ilt_t, ↓ilt_f, ↓ieq_t, ↓ieq_f, ↓iz_t, ↓iz_f, ↓iltz, ↓izle, ↓ilez_t, ↓ilez_f, ↓im1, ile_t, ile_f, ilt_t, ilt_f, ieq_t, ieq_f, iz_t, iz_f, iltz, izle, ilez_t, ilez_f, im1, gZ_0, gZ_1, e10, e00, ↓reduceIte, Sum.elim_inl, Sum.elim_inr, nI_1, nI_add, Int32.sub_zero, f_c11_dearest, zc144, zs144_10, M_span_t d1 d2, zr144_0, k40, zg145, eN', er', zr144_25, a2, zs144_9, a3, a4, a5]
end DEARS
