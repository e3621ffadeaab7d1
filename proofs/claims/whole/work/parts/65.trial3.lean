/-! CALLS that let seasons go by, or wait for something in them -/
section TRIALS3
variable {L N : Nat} {S T : gS} {c : Nat} {A : pA}
theorem fstN_s {p : Nat → Bool} {i n : Nat} (hi : i < n) (h : p i = false) : fstN p i (n - i) = fstN p (i + 1) (n - (i + 1)) := by
  rw [show n - i = (n - (i + 1)) + 1 by omega]
  show (if p i then some i else fstN p (i + 1) (n - (i + 1))) = _
  rw [h]
  rfl
theorem fstN_h {p : Nat → Bool} {i n : Nat} (hi : i < n) (h : p i = true) : fstN p i (n - i) = some i := by
  rw [show n - i = (n - (i + 1)) + 1 by omega]
  show (if p i then some i else fstN p (i + 1) (n - (i + 1))) = _
  rw [h]
  rfl
-- rises
theorem A_rises {p y : Int32} (w : WA A) (q : CA S A) (m : MA S A c) (hN : 900 ≤ N) : Agr L S c (f_c10_rises N 10 p y) (f_c11_rises N 144 p y) := by
  obtain ⟨g, v, x, l, u, n, k, h⟩ := A
  have wv : WV g v := w.2.1
  have h8 := wv.1
  obtain ⟨code, hc⟩ : ∃ code, ruleCode u.2 u.1 = .inl code := w.2.2.2.2.1.2
  rcases in_or (n := vN v) p (by omega) with ⟨i, hi, rfl⟩ | hp
  · have e0 := C_has_t (L := L) (N := N) SA_19 q.2.1 hi h8
    rcases (show (y < 0 ∨ (¬ y < 0 ∧ ¬ y ≤ 99)) ∨ ∃ d, 0 ≤ d ∧ d ≤ 99 ∧ y = nI d from cas y 0 99 (by omega) (by omega)) with hy | ⟨d, -, hd, rfl⟩
    · refine AgrR w q m (r := -1) ?_ (fun T _ t1 => ?_)
      · rcases hy with hy | ⟨h1, hy⟩
        · simp (disch := omega) only [Option.bind_some, ↓ile_t, ↓ile_f, ↓ilt_t, ↓ilt_f, ↓ieq_t, ↓ieq_f, ↓iz_t, ↓iz_f, ↓iltz, ↓izle, ↓ilez_t, ↓ilez_f, ↓im1, ile_t, ile_f, ilt_t, ilt_f, ieq_t, ieq_f, iz_t, iz_f, iltz, izle, ilez_t, ilez_f, im1, gZ_0, gZ_1, e10, e00, ↓reduceIte, Sum.elim_inl, Sum.elim_inr, nI_1, nI_add, Int32.sub_zero, f_c10_rises, zc10, zr10_0, zr10_1, zr10_2, zr10_3, zr10_4, zr10_5, zr10_6, zr10_7, zr10_8, zr10_9, zr10_10, zs10_11, zs10_12, e0, if_pos hy]
        · simp (disch := omega) only [Option.bind_some, ↓ile_t, ↓ile_f, ↓ilt_t, ↓ilt_f, ↓ieq_t, ↓ieq_f, ↓iz_t, ↓iz_f, ↓iltz, ↓izle, ↓ilez_t, ↓ilez_f, ↓im1, ile_t, ile_f, ilt_t, ilt_f, ieq_t, ieq_f, iz_t, iz_f, iltz, izle, ilez_t, ilez_f, im1, gZ_0, gZ_1, e10, e00, ↓reduceIte, Sum.elim_inl, Sum.elim_inr, nI_1, nI_add, Int32.sub_zero, f_c10_rises, zc10, zr10_0, zr10_1, zr10_2, zr10_3, zr10_4, zr10_5, zr10_6, zr10_7, zr10_8, zr10_9, zr10_10, zs10_11, zs10_12, e0, if_neg h1, if_neg hy]
      · simp (disch := omega) only [Option.bind_some, ↓ile_t, ↓ile_f, ↓ilt_t, ↓ilt_f, ↓ieq_t, ↓ieq_f, ↓iz_t, ↓iz_f, ↓iltz, ↓izle, ↓ilez_t, ↓ilez_f, ↓im1, ile_t, ile_f, ilt_t, ilt_f, ieq_t, ieq_f, iz_t, iz_f, iltz, izle, ilez_t, ilez_f, im1, gZ_0, gZ_1, e10, e00, ↓reduceIte, Sum.elim_inl, Sum.elim_inr, nI_1, nI_add, Int32.sub_zero, f_c11_rises, zc144, zs144_10, M_isWell_t t1.2.1 h8 hi, M_inF (N := N) hy, eq_self_iff_true]
    · have c1 : nI d ≤ 99 := nI_le (b := 99) hd (by omega)
      have ei : ∀ T : gS, f_c11_in N (nI d) 0 99 (mk L T) = some 1 := fun T => M_inT (lo := 0) (hi := 99) (by omega) hd (by omega)
      -- the class's loop
      have hC : ∀ S1 : gS, CA S1 (g, v, x, l, u, n, k, h) → CV S1 31 v → ∃ r, lp_c10_rises_36 N 10 (nI i) (nI d) N (nI 0) (mk L S1) = some r ∧ match fstN (fun j => decide (d ≤ vT (vSeas code g v j) i)) 0 100 with
          | some j => ∃ S2, r = .inl (nI j, mk L S2) ∧ CA S2 (g, v, x, [(nI (vT (vSeas code g v j) i)).toInt64], u, n, k, h) ∧ Fr lowC S1 S2
          | none => ∃ S2, r = .inr (mk L S2) ∧ CA S2 (g, v, x, l, u, n, k, h) ∧ Fr lowC S1 S2 := by
        intro S1 q1 s1
        refine lp_inv (Lp := fun k (s : gS) j => lp_c10_rises_36 N 10 (nI i) (nI d) k (nI j) (mk L s)) (n := 100) (P := fun j s => CA s (g, v, x, l, u, n, k, h) ∧ CV s 31 (vSeas code g v j) ∧ Fr lowC S1 s ∧ fstN (fun j => decide (d ≤ vT (vSeas code g v j) i)) 0 100 = fstN (fun j => decide (d ≤ vT (vSeas code g v j) i)) j (100 - j)) (fun k j s hj hs => ?_) (fun k s hs => ?_) 100 N 0 S1 (by omega) (by omega) ⟨q1, s1, Fr.refl, rfl⟩
        · obtain ⟨qs, ss, fs, hf⟩ := hs
          have wj := wv.seas (code := code) j
          have nj : vN (vSeas code g v j) = vN v := vSeas_N j
          have tj := (wj.2.2 i (by omega)).2.2.2.2.2
          have eT : s.1 36 i = nI (vT (vSeas code g v j) i) := (ss.2.2.2 i (by omega)).2.2.2.2
          have n99 : ¬ (99 : Int32) < nI j := nI_nlt (a := 99) (by omega) (by omega)
          by_cases z : d ≤ vT (vSeas code g v j) i
          · left
            obtain ⟨s2, e2, q2, f2⟩ := C_tell1A (L := L) (N := N) (r := nI j) (y := (nI (vT (vSeas code g v j) i)).toInt64) qs
            refine ⟨.inl (nI j, mk L s2), ?_, ?_⟩
            · show lp_c10_rises_36 N 10 (nI i) (nI d) (_ + 1) _ _ = _
              rw [lp_c10_rises_36.eq_2]
              simp (disch := omega) only [Option.bind_some, ↓ile_t, ↓ile_f, ↓ilt_t, ↓ilt_f, ↓ieq_t, ↓ieq_f, ↓iz_t, ↓iz_f, ↓iltz, ↓izle, ↓ilez_t, ↓ilez_f, ↓im1, ile_t, ile_f, ilt_t, ilt_f, ieq_t, ieq_f, iz_t, iz_f, iltz, izle, ilez_t, ilez_f, im1, gZ_0, gZ_1, e10, e00, ↓reduceIte, Sum.elim_inl, Sum.elim_inr, nI_1, nI_add, Int32.sub_zero, if_neg n99, zc10, zr10_0, zr10_1, zr10_2, zr10_3, zr10_4, zr10_5, zr10_6, zr10_7, zr10_8, zr10_9, zr10_10, zs10_11, zs10_12, qr5 SA_31, qg5 SA_31, eT, e2]
            · rw [hf, fstN_h hj (decide_eq_true z)]
              exact ⟨s2, rfl, q2, lowTr fs f2⟩
          · right
            obtain ⟨a, a1, a2, a3⟩ := qs.ru hc
            obtain ⟨s2, e2, q2, v2, f2, -⟩ := C_one31 (L := L) (N := N) qs w hc a2 a3 ss wj hN
            refine ⟨s2, ?_, q2, v2, lowTr fs f2, ?_⟩
            · show lp_c10_rises_36 N 10 (nI i) (nI d) (_ + 1) _ _ = _
              rw [lp_c10_rises_36.eq_2]
              simp (disch := omega) only [Option.bind_some, ↓ile_t, ↓ile_f, ↓ilt_t, ↓ilt_f, ↓ieq_t, ↓ieq_f, ↓iz_t, ↓iz_f, ↓iltz, ↓izle, ↓ilez_t, ↓ilez_f, ↓im1, ile_t, ile_f, ilt_t, ilt_f, ieq_t, ieq_f, iz_t, iz_f, iltz, izle, ilez_t, ilez_f, im1, gZ_0, gZ_1, e10, e00, ↓reduceIte, Sum.elim_inl, Sum.elim_inr, nI_1, nI_add, Int32.sub_zero, if_neg n99, zc10, zr10_0, zr10_1, zr10_2, zr10_3, zr10_4, zr10_5, zr10_6, zr10_7, zr10_8, zr10_9, zr10_10, zs10_11, zs10_12, qr5 SA_31, qg5 SA_31, eT, zr10_11 a1, e2]
            · rw [hf]
              exact fstN_s hj (decide_eq_false z)
        · obtain ⟨qs, ss, fs, hf⟩ := hs
          have n99 : (99 : Int32) < nI 100 := by decide
          refine ⟨.inr (mk L s), ?_, ?_⟩
          · show lp_c10_rises_36 N 10 (nI i) (nI d) (_ + 1) _ _ = _
            rw [lp_c10_rises_36.eq_2]
            rw [if_pos n99]
          · rw [hf]
            exact ⟨s, rfl, qs, fs⟩
      have hM : ∀ T1 : gS, MA T1 (g, v, x, l, u, n, k, h) c → MW T1 156 v → ∃ r, lp_c11_rises_39 N 144 (nI i) (nI d) N (nI 0) (mk L T1) = some r ∧ match fstN (fun j => decide (d ≤ vT (vSeas code g v j) i)) 0 100 with
          | some j => ∃ S2, r = .inl (nI j, mk L S2) ∧ MA S2 (g, v, x, [(nI (vT (vSeas code g v j) i)).toInt64], u, n, k, h) c ∧ Fr highM T1 S2
          | none => ∃ S2, r = .inr (mk L S2) ∧ MA S2 (g, v, x, l, u, n, k, h) c ∧ Fr highM T1 S2 := by
        intro T1 q1 s1
        refine lp_inv (Lp := fun k (s : gS) j => lp_c11_rises_39 N 144 (nI i) (nI d) k (nI j) (mk L s)) (n := 100) (P := fun j s => MA s (g, v, x, l, u, n, k, h) c ∧ MW s 156 (vSeas code g v j) ∧ Fr highM T1 s ∧ fstN (fun j => decide (d ≤ vT (vSeas code g v j) i)) 0 100 = fstN (fun j => decide (d ≤ vT (vSeas code g v j) i)) j (100 - j)) (fun k j s hj hs => ?_) (fun k s hs => ?_) 100 N 0 T1 (by omega) (by omega) ⟨q1, s1, Fr.refl, rfl⟩
        · obtain ⟨qs, ss, fs, hf⟩ := hs
          have wj := wv.seas (code := code) j
          have nj : vN (vSeas code g v j) = vN v := vSeas_N j
          have tj := (wj.2.2 i (by omega)).2.2.2.2.2
          have eT : s.1 156 (32 + i) = nI (vT (vSeas code g v j) i) := (ss.2.2.2 i (by omega)).2.2.2.2
          have n99 : ¬ (99 : Int32) < nI j := nI_nlt (a := 99) (by omega) (by omega)
          by_cases z : d ≤ vT (vSeas code g v j) i
          · left
            obtain ⟨s2, e2, q2, f2, -⟩ := M_t1 (L := L) (N := N) (y := (nI (vT (vSeas code g v j) i)).toInt64) qs
            refine ⟨.inl (nI j, mk L s2), ?_, ?_⟩
            · show lp_c11_rises_39 N 144 (nI i) (nI d) (_ + 1) _ _ = _
              rw [lp_c11_rises_39.eq_2]
              simp (disch := omega) only [Option.bind_some, ↓ile_t, ↓ile_f, ↓ilt_t, ↓ilt_f, ↓ieq_t, ↓ieq_f, ↓iz_t, ↓iz_f, ↓iltz, ↓izle, ↓ilez_t, ↓ilez_f, ↓im1, ile_t, ile_f, ilt_t, ilt_f, ieq_t, ieq_f, iz_t, iz_f, iltz, izle, ilez_t, ilez_f, im1, gZ_0, gZ_1, e10, e00, ↓reduceIte, Sum.elim_inl, Sum.elim_inr, nI_1, nI_add, Int32.sub_zero, if_neg n99, zr144_25, k32, zg156, eT, zs144_9, rdI_ne, e2]
            · rw [hf, fstN_h hj (decide_eq_true z)]
              exact ⟨s2, rfl, q2, highTr fs f2⟩
          · right
            obtain ⟨s2, y2, e2, q2, v2, f2, -⟩ := M_one156 (L := L) (N := N) qs w hc ss wj hN
            refine ⟨s2, ?_, q2, v2, highTr fs f2, ?_⟩
            · show lp_c11_rises_39 N 144 (nI i) (nI d) (_ + 1) _ _ = _
              rw [lp_c11_rises_39.eq_2]
              simp (disch := omega) only [Option.bind_some, ↓ile_t, ↓ile_f, ↓ilt_t, ↓ilt_f, ↓ieq_t, ↓ieq_f, ↓iz_t, ↓iz_f, ↓iltz, ↓izle, ↓ilez_t, ↓ilez_f, ↓im1, ile_t, ile_f, ilt_t, ilt_f, ieq_t, ieq_f, iz_t, iz_f, iltz, izle, ilez_t, ilez_f, im1, gZ_0, gZ_1, e10, e00, ↓reduceIte, Sum.elim_inl, Sum.elim_inr, nI_1, nI_add, Int32.sub_zero, if_neg n99, zr144_25, k32, zg156, eT, e2]
            · rw [hf]
              exact fstN_s hj (decide_eq_false z)
        · obtain ⟨qs, ss, fs, hf⟩ := hs
          have n99 : (99 : Int32) < nI 100 := by decide
          refine ⟨.inr (mk L s), ?_, ?_⟩
          · show lp_c11_rises_39 N 144 (nI i) (nI d) (_ + 1) _ _ = _
            rw [lp_c11_rises_39.eq_2]
            rw [if_pos n99]
          · rw [hf]
            exact ⟨s, rfl, qs, fs⟩
      obtain ⟨S1, e1, q1, s1, f1⟩ := C_to31 (L := L) (N := N) q w hN
      obtain ⟨r, er, hr⟩ := hC S1 q1 s1
      rw [nI_0] at er
      cases hf : fstN (fun j => decide (d ≤ vT (vSeas code g v j) i)) 0 100 with
      | some j =>
        rw [hf] at hr
        obtain ⟨S2, rfl, q2, f2⟩ := hr
        refine AgrI (c' := c) m (S1 := S2) (r := nI j) ?_ (lowTr f1 f2) q2 (w.rw (by show 1 ≤ 8; omega)) (by omega) (fun T mt => ?_)
        · simp (disch := omega) only [Option.bind_some, ↓ile_t, ↓ile_f, ↓ilt_t, ↓ilt_f, ↓ieq_t, ↓ieq_f, ↓iz_t, ↓iz_f, ↓iltz, ↓izle, ↓ilez_t, ↓ilez_f, ↓im1, ile_t, ile_f, ilt_t, ilt_f, ieq_t, ieq_f, iz_t, iz_f, iltz, izle, ilez_t, ilez_f, im1, gZ_0, gZ_1, e10, e00, ↓reduceIte, Sum.elim_inl, Sum.elim_inr, nI_1, nI_add, Int32.sub_zero, f_c10_rises, zc10, zr10_0, zr10_1, zr10_2, zr10_3, zr10_4, zr10_5, zr10_6, zr10_7, zr10_8, zr10_9, zr10_10, zs10_11, zs10_12, e0, if_pos c1, e1, er]
        · have t1 := mt.thr
          obtain ⟨T1, a1, t2, m1, g1⟩ := M_then (L := L) (N := N) t1 w hN
          obtain ⟨r', er', hr'⟩ := hM T1 t2 m1
          rw [hf] at hr'
          obtain ⟨T2, rfl, q3, f3⟩ := hr'
          rw [nI_0] at er'
          refine ⟨T2, ?_, highTr thrH (highTr g1 f3), q3⟩
          simp (disch := omega) only [Option.bind_some, ↓ile_t, ↓ile_f, ↓ilt_t, ↓ilt_f, ↓ieq_t, ↓ieq_f, ↓iz_t, ↓iz_f, ↓iltz, ↓izle, ↓ilez_t, ↓ilez_f, ↓im1, ile_t, ile_f, ilt_t, ilt_f, ieq_t, ieq_f, iz_t, iz_f, iltz, izle, ilez_t, ilez_f, im1, gZ_0, gZ_1, e10, e00, ↓reduceIte, Sum.elim_inl, Sum.elim_inr, nI_1, nI_add, Int32.sub_zero, f_c11_rises, zc144, zs144_10, M_isWell_t t1.2.1 h8 hi, ei, zr144_0, zr144_25, a1, er']
      | none =>
        rw [hf] at hr
        obtain ⟨S2, rfl, q2, f2⟩ := hr
        refine AgrI (c' := c) m (S1 := S2) (r := -2) ?_ (lowTr f1 f2) q2 w (by omega) (fun T mt => ?_)
        · simp (disch := omega) only [Option.bind_some, ↓ile_t, ↓ile_f, ↓ilt_t, ↓ilt_f, ↓ieq_t, ↓ieq_f, ↓iz_t, ↓iz_f, ↓iltz, ↓izle, ↓ilez_t, ↓ilez_f, ↓im1, ile_t, ile_f, ilt_t, ilt_f, ieq_t, ieq_f, iz_t, iz_f, iltz, izle, ilez_t, ilez_f, im1, gZ_0, gZ_1, e10, e00, ↓reduceIte, Sum.elim_inl, Sum.elim_inr, nI_1, nI_add, Int32.sub_zero, f_c10_rises, zc10, zr10_0, zr10_1, zr10_2, zr10_3, zr10_4, zr10_5, zr10_6, zr10_7, zr10_8, zr10_9, zr10_10, zs10_11, zs10_12, e0, if_pos c1, e1, er]
        · have t1 := mt.thr
          obtain ⟨T1, a1, t2, m1, g1⟩ := M_then (L := L) (N := N) t1 w hN
          obtain ⟨r', er', hr'⟩ := hM T1 t2 m1
          rw [hf] at hr'
          obtain ⟨T2, rfl, q3, f3⟩ := hr'
          rw [nI_0] at er'
          refine ⟨T2, ?_, highTr thrH (highTr g1 f3), q3⟩
          simp (disch := omega) only [Option.bind_some, ↓ile_t, ↓ile_f, ↓ilt_t, ↓ilt_f, ↓ieq_t, ↓ieq_f, ↓iz_t, ↓iz_f, ↓iltz, ↓izle, ↓ilez_t, ↓ilez_f, ↓im1, ile_t, ile_f, ilt_t, ilt_f, ieq_t, ieq_f, iz_t, iz_f, iltz, izle, ilez_t, ilez_f, im1, gZ_0, gZ_1, e10, e00, ↓reduceIte, Sum.elim_inl, Sum.elim_inr, nI_1, nI_add, Int32.sub_zero, f_c11_rises, zc144, zs144_10, M_isWell_t t1.2.1 h8 hi, ei, zr144_0, zr144_25, a1, er']
  · refine AgrR w q m (r := -1) ?_ (fun T _ t1 => ?_)
    · simp (disch := omega) only [Option.bind_some, ↓ile_t, ↓ile_f, ↓ilt_t, ↓ilt_f, ↓ieq_t, ↓ieq_f, ↓iz_t, ↓iz_f, ↓iltz, ↓izle, ↓ilez_t, ↓ilez_f, ↓im1, ile_t, ile_f, ilt_t, ilt_f, ieq_t, ieq_f, iz_t, iz_f, iltz, izle, ilez_t, ilez_f, im1, gZ_0, gZ_1, e10, e00, ↓reduceIte, Sum.elim_inl, Sum.elim_inr, nI_1, nI_add, Int32.sub_zero, f_c10_rises, zc10, zr10_0, zr10_1, zr10_2, zr10_3, zr10_4, zr10_5, zr10_6, zr10_7, zr10_8, zr10_9, zr10_10, zs10_11, zs10_12, C_has_f (L := L) (N := N) SA_19 q.2.1 hp]
    · simp (disch := omega) only [Option.bind_some, ↓ile_t, ↓ile_f, ↓ilt_t, ↓ilt_f, ↓ieq_t, ↓ieq_f, ↓iz_t, ↓iz_f, ↓iltz, ↓izle, ↓ilez_t, ↓ilez_f, ↓im1, ile_t, ile_f, ilt_t, ilt_f, ieq_t, ieq_f, iz_t, iz_f, iltz, izle, ilez_t, ilez_f, im1, gZ_0, gZ_1, e10, e00, ↓reduceIte, Sum.elim_inl, Sum.elim_inr, nI_1, nI_add, Int32.sub_zero, f_c11_rises, zc144, zs144_10, M_isWell_f t1.2.1 h8 hp, eq_self_iff_true]
-- parched
def sPar (code : List Int32) (g : pG) (v : pV) (w : Nat) : Nat → Nat × Nat
  | 0 => (0, 0)
  | i + 1 => if gTh g w ≤ sDrew code g (vSeas code g v i) w then sPar code g v w i else ((if (sPar code g v w i).2 = 0 then i + 1 else (sPar code g v w i).1), (sPar code g v w i).2 + 1)
def sPa1 (s : Nat × Nat) : Int32 := if s.2 = 0 then -2 else nI s.1
theorem sPar_le {code : List Int32} {g : pG} {v : pV} {w : Nat} : ∀ i, (sPar code g v w i).1 ≤ i ∧ (sPar code g v w i).2 ≤ i := by
  intro i
  induction i with
  | zero => exact ⟨Nat.le_refl _, Nat.le_refl _⟩
  | succ i ih =>
    unfold sPar
    split
    · omega
    · dsimp only
      split <;> omega
theorem A_parched {p : Int32} (w : WA A) (q : CA S A) (m : MA S A c) (hN : 900 ≤ N) : Agr L S c (f_c10_parched N 10 p) (f_c11_parched N 144 p) := by
  obtain ⟨g, v, x, l, u, n, k, h⟩ := A
  have wv : WV g v := w.2.1
  have wg : WG g := w.1
  have h6 := wg.2.2.2.2.1
  obtain ⟨code, hc⟩ : ∃ code, ruleCode u.2 u.1 = .inl code := w.2.2.2.2.1.2
  rcases in_or (n := gVm g) p (by omega) with ⟨i, hi, rfl⟩ | hp
  · have e0 := C_hasV_t (L := L) (N := N) q.1 wg hi
    have hth := wg.2.2.2.2.2 i hi
    have hC : ∀ S1 : gS, CA S1 (g, v, x, l, u, n, k, h) → CV S1 31 v → ∃ r, lp_c10_parched_32 N 10 (nI i) N (-2) (nI 0) (nI 1) (mk L S1) = some r ∧ ∃ S2, r = (sPa1 (sPar code g v i 99), nI (sPar code g v i 99).2, mk L S2) ∧ CA S2 (g, v, x, l, u, n, k, h) ∧ Fr lowC S1 S2 := by
      intro S1 q1 s1
      refine lp_inv (Lp := fun k (s : Int32 × Int32 × gS) j => lp_c10_parched_32 N 10 (nI i) k s.1 s.2.1 (nI j) (mk L s.2.2)) (n := 100) (P := fun j s => 1 ≤ j ∧ s.1 = sPa1 (sPar code g v i (j - 1)) ∧ s.2.1 = nI (sPar code g v i (j - 1)).2 ∧ CA s.2.2 (g, v, x, l, u, n, k, h) ∧ CV s.2.2 31 (vSeas code g v (j - 1)) ∧ Fr lowC S1 s.2.2) (fun k j s hj hs => Or.inr ?_) (fun k s hs => ?_) 99 N 1 (-2, nI 0, S1) (by omega) (by omega) ⟨Nat.le_refl _, rfl, rfl, q1, s1, Fr.refl⟩
      · obtain ⟨x1, x2, s⟩ := s
        obtain ⟨h1, rfl, rfl, qs, ss, fs⟩ := hs
        obtain ⟨j, rfl⟩ : ∃ j', j = j' + 1 := ⟨j - 1, by omega⟩
        rw [Nat.add_sub_cancel] at *
        dsimp only at qs ss fs
        have wj := wv.seas (code := code) j
        obtain ⟨a, a1, a2, a3⟩ := qs.ru hc
        obtain ⟨s2, e2, q2, v2, f2, d2⟩ := C_one31 (L := L) (N := N) qs w hc a2 a3 ss wj hN
        have n99 : ¬ (99 : Int32) < nI (j + 1) := nI_nlt (a := 99) (by omega) (by omega)
        have x38 := (d2 i hi).1
        have x17 : s2.1 17 i = nI (gTh g i) := (q2.1.2.2.2.1 i hi).2
        have hle := sPar_le (code := code) (g := g) (v := v) (w := i) j
        refine ⟨(sPa1 (sPar code g v i (j + 1)), nI (sPar code g v i (j + 1)).2, s2), ?_, by omega, by rw [Nat.add_sub_cancel], by rw [Nat.add_sub_cancel], q2, by rw [Nat.add_sub_cancel]; exact v2, lowTr fs f2⟩
        show lp_c10_parched_32 N 10 (nI i) (k + 1) _ _ _ _ = lp_c10_parched_32 N 10 (nI i) k _ _ _ _
        rw [lp_c10_parched_32.eq_2]
        have dl : sDrew code g (vSeas code g v j) i ≤ gTh g i := sMu_le
        by_cases z : gTh g i ≤ sDrew code g (vSeas code g v j) i
        · have eS : sPar code g v i (j + 1) = sPar code g v i j := by rw [sPar, if_pos z]
          rw [eS]
          simp (disch := omega) only [Option.bind_some, ↓ile_t, ↓ile_f, ↓ilt_t, ↓ilt_f, ↓ieq_t, ↓ieq_f, ↓iz_t, ↓iz_f, ↓iltz, ↓izle, ↓ilez_t, ↓ilez_f, ↓im1, ile_t, ile_f, ilt_t, ilt_f, ieq_t, ieq_f, iz_t, iz_f, iltz, izle, ilez_t, ilez_f, im1, gZ_0, gZ_1, e10, e00, ↓reduceIte, Sum.elim_inl, Sum.elim_inr, nI_1, nI_add, Int32.sub_zero, if_neg n99, zc10, zr10_0, zr10_1, zr10_2, zr10_3, zr10_4, zr10_5, zr10_6, zr10_7, zr10_8, zr10_9, zr10_10, zs10_11, zs10_12, zr10_11 a1, e2, zc37, zr37_0, zr37_1, zg38, x38, zc15, zi15_0, zs15_0, zi15_1, zs15_1, zi15_2, zs15_2, zr15_3, zr15_4, zr15_5, zg17, x17]
        · have eS : sPar code g v i (j + 1) = ((if (sPar code g v i j).2 = 0 then j + 1 else (sPar code g v i j).1), (sPar code g v i j).2 + 1) := by rw [sPar, if_neg z]
          have eP : (if nI (sPar code g v i j).2 + 1 = 1 then nI (j + 1) else sPa1 (sPar code g v i j)) = sPa1 (sPar code g v i (j + 1)) := by
            rw [eS]
            unfold sPa1
            rw [nI_1]
            by_cases y : (sPar code g v i j).2 = 0
            · rw [if_pos (by rw [y]; rfl), if_neg (by show ¬ _ + 1 = 0; omega), if_pos y]
            · rw [if_neg (fun e => y (by have := (nI_eq (a := (sPar code g v i j).2 + 1) (b := 1) (by omega) (by omega)).mp e; omega)), if_neg y, if_neg (by show ¬ _ + 1 = 0; omega), if_neg y]
          have eQ : nI (sPar code g v i (j + 1)).2 = nI (sPar code g v i j).2 + 1 := by rw [eS, nI_1]
          rw [← eP, eQ]
          simp (disch := omega) only [Option.bind_some, ↓ile_t, ↓ile_f, ↓ilt_t, ↓ilt_f, ↓ieq_t, ↓ieq_f, ↓iz_t, ↓iz_f, ↓iltz, ↓izle, ↓ilez_t, ↓ilez_f, ↓im1, ile_t, ile_f, ilt_t, ilt_f, ieq_t, ieq_f, iz_t, iz_f, iltz, izle, ilez_t, ilez_f, im1, gZ_0, gZ_1, e10, e00, ↓reduceIte, Sum.elim_inl, Sum.elim_inr, nI_1, nI_add, Int32.sub_zero, if_neg n99, zc10, zr10_0, zr10_1, zr10_2, zr10_3, zr10_4, zr10_5, zr10_6, zr10_7, zr10_8, zr10_9, zr10_10, zs10_11, zs10_12, zr10_11 a1, e2, zc37, zr37_0, zr37_1, zg38, x38, zc15, zi15_0, zs15_0, zi15_1, zs15_1, zi15_2, zs15_2, zr15_3, zr15_4, zr15_5, zg17, x17]
      · obtain ⟨x1, x2, s⟩ := s
        obtain ⟨h1, rfl, rfl, qs, ss, fs⟩ := hs
        have n99 : (99 : Int32) < nI 100 := by decide
        refine ⟨_, ?_, s, rfl, qs, fs⟩
        show lp_c10_parched_32 N 10 (nI i) (k + 1) _ _ _ _ = _
        rw [lp_c10_parched_32.eq_2]
        rw [if_pos n99]
    have hM : ∀ T1 : gS, MA T1 (g, v, x, l, u, n, k, h) c → MW T1 156 v → ∃ r, lp_c11_parched_35 N 144 (nI i) N (-2) (nI 0) (nI 1) (mk L T1) = some r ∧ ∃ S2, r = (sPa1 (sPar code g v i 99), nI (sPar code g v i 99).2, mk L S2) ∧ MA S2 (g, v, x, l, u, n, k, h) c ∧ Fr highM T1 S2 := by
      intro S1 q1 s1
      refine lp_inv (Lp := fun k (s : Int32 × Int32 × gS) j => lp_c11_parched_35 N 144 (nI i) k s.1 s.2.1 (nI j) (mk L s.2.2)) (n := 100) (P := fun j s => 1 ≤ j ∧ s.1 = sPa1 (sPar code g v i (j - 1)) ∧ s.2.1 = nI (sPar code g v i (j - 1)).2 ∧ MA s.2.2 (g, v, x, l, u, n, k, h) c ∧ MW s.2.2 156 (vSeas code g v (j - 1)) ∧ Fr highM S1 s.2.2) (fun k j s hj hs => Or.inr ?_) (fun k s hs => ?_) 99 N 1 (-2, nI 0, S1) (by omega) (by omega) ⟨Nat.le_refl _, rfl, rfl, q1, s1, Fr.refl⟩
      · obtain ⟨x1, x2, s⟩ := s
        obtain ⟨h1, rfl, rfl, qs, ss, fs⟩ := hs
        obtain ⟨j, rfl⟩ : ∃ j', j = j' + 1 := ⟨j - 1, by omega⟩
        rw [Nat.add_sub_cancel] at *
        dsimp only at qs ss fs
        have wj := wv.seas (code := code) j
        obtain ⟨s2, y2, e2, q2, v2, f2, d2⟩ := M_one156 (L := L) (N := N) qs w hc ss wj hN
        have n99 : ¬ (99 : Int32) < nI (j + 1) := nI_nlt (a := 99) (by omega) (by omega)
        have x38 := (d2 i hi).1
        have x17 : s2.1 147 i = nI (gTh g i) := (q2.1.2.2.2 i hi).2
        have hle := sPar_le (code := code) (g := g) (v := v) (w := i) j
        refine ⟨(sPa1 (sPar code g v i (j + 1)), nI (sPar code g v i (j + 1)).2, s2), ?_, by omega, by rw [Nat.add_sub_cancel], by rw [Nat.add_sub_cancel], q2, by rw [Nat.add_sub_cancel]; exact v2, highTr fs f2⟩
        show lp_c11_parched_35 N 144 (nI i) (_ + 1) _ _ _ _ = lp_c11_parched_35 N 144 (nI i) _ _ _ _ _
        rw [lp_c11_parched_35.eq_2]
        have dl : sDrew code g (vSeas code g v j) i ≤ gTh g i := sMu_le
        by_cases z : gTh g i ≤ sDrew code g (vSeas code g v j) i
        · have eS : sPar code g v i (j + 1) = sPar code g v i j := by rw [sPar, if_pos z]
          rw [eS]
          simp (disch := omega) only [Option.bind_some, ↓ile_t, ↓ile_f, ↓ilt_t, ↓ilt_f, ↓ieq_t, ↓ieq_f, ↓iz_t, ↓iz_f, ↓iltz, ↓izle, ↓ilez_t, ↓ilez_f, ↓im1, ile_t, ile_f, ilt_t, ilt_f, ieq_t, ieq_f, iz_t, iz_f, iltz, izle, ilez_t, ilez_f, im1, gZ_0, gZ_1, e10, e00, ↓reduceIte, Sum.elim_inl, Sum.elim_inr, nI_1, nI_add, Int32.sub_zero, if_neg n99, zr144_25, e2, zr144_27, zg158, x38, zr144_5, zg147, x17]
        · have eS : sPar code g v i (j + 1) = ((if (sPar code g v i j).2 = 0 then j + 1 else (sPar code g v i j).1), (sPar code g v i j).2 + 1) := by rw [sPar, if_neg z]
          have eP : (if sPa1 (sPar code g v i j) = -2 then nI (j + 1) else sPa1 (sPar code g v i j)) = sPa1 (sPar code g v i (j + 1)) := by
            rw [eS]
            unfold sPa1
            by_cases y : (sPar code g v i j).2 = 0
            · rw [if_pos y, if_pos rfl, if_neg (by show ¬ _ + 1 = 0; omega), if_pos y]
            · rw [if_neg y, if_neg (fun e => by
                have h1 := nI_toInt (show (sPar code g v i j).1 < 2147483648 by omega)
                rw [e] at h1
                have h2 : (-2 : Int32).toInt = -2 := by decide
                omega), if_neg (by show ¬ _ + 1 = 0; omega), if_neg y]
          have eQ : nI (sPar code g v i (j + 1)).2 = nI (sPar code g v i j).2 + 1 := by rw [eS, nI_1]
          rw [← eP, eQ]
          simp (disch := omega) only [Option.bind_some, ↓ile_t, ↓ile_f, ↓ilt_t, ↓ilt_f, ↓ieq_t, ↓ieq_f, ↓iz_t, ↓iz_f, ↓iltz, ↓izle, ↓ilez_t, ↓ilez_f, ↓im1, ile_t, ile_f, ilt_t, ilt_f, ieq_t, ieq_f, iz_t, iz_f, iltz, izle, ilez_t, ilez_f, im1, gZ_0, gZ_1, e10, e00, ↓reduceIte, Sum.elim_inl, Sum.elim_inr, nI_1, nI_add, Int32.sub_zero, if_neg n99, zr144_25, e2, zr144_27, zg158, x38, zr144_5, zg147, x17]
      · obtain ⟨x1, x2, s⟩ := s
        obtain ⟨h1, rfl, rfl, qs, ss, fs⟩ := hs
        have n99 : (99 : Int32) < nI 100 := by decide
        refine ⟨_, ?_, s, rfl, qs, fs⟩
        show lp_c11_parched_35 N 144 (nI i) (_ + 1) _ _ _ _ = _
        rw [lp_c11_parched_35.eq_2]
        rw [if_pos n99]
    obtain ⟨S1, e1, q1, s1, f1⟩ := C_to31 (L := L) (N := N) q w hN
    obtain ⟨r, er, S2, er2, q2, f2⟩ := hC S1 q1 s1
    rw [er2, nI_0, ← k1] at er
    have hle := sPar_le (code := code) (g := g) (v := v) (w := i) 99
    by_cases z : (sPar code g v i 99).2 = 0
    · have eP : sPa1 (sPar code g v i 99) = -2 := by unfold sPa1; rw [if_pos z]
      refine AgrI (c' := c) m (S1 := S2) (r := -2) ?_ (lowTr f1 f2) q2 w (by omega) (fun T mt => ?_)
      · simp (disch := omega) only [Option.bind_some, ↓ile_t, ↓ile_f, ↓ilt_t, ↓ilt_f, ↓ieq_t, ↓ieq_f, ↓iz_t, ↓iz_f, ↓iltz, ↓izle, ↓ilez_t, ↓ilez_f, ↓im1, ile_t, ile_f, ilt_t, ilt_f, ieq_t, ieq_f, iz_t, iz_f, iltz, izle, ilez_t, ilez_f, im1, gZ_0, gZ_1, e10, e00, ↓reduceIte, Sum.elim_inl, Sum.elim_inr, nI_1, nI_add, Int32.sub_zero, f_c10_parched, zc10, zr10_0, zr10_1, zr10_2, zr10_3, zr10_4, zr10_5, zr10_6, zr10_7, zr10_8, zr10_9, zr10_10, zs10_11, zs10_12, e0, e1, er]
      · have t1 := mt.thr
        obtain ⟨T1, a1, t2, m1, g1⟩ := M_then (L := L) (N := N) t1 w hN
        obtain ⟨r', er', T2, er2', q3, f3⟩ := hM T1 t2 m1
        rw [er2', nI_0, ← k1, eP] at er'
        have m22 : ((-2 : Int32) = -2) = True := eq_self _
        refine ⟨T2, ?_, highTr thrH (highTr g1 f3), q3⟩
        simp (disch := omega) only [Option.bind_some, ↓ile_t, ↓ile_f, ↓ilt_t, ↓ilt_f, ↓ieq_t, ↓ieq_f, ↓iz_t, ↓iz_f, ↓iltz, ↓izle, ↓ilez_t, ↓ilez_f, ↓im1, ile_t, ile_f, ilt_t, ilt_f, ieq_t, ieq_f, iz_t, iz_f, iltz, izle, ilez_t, ilez_f, im1, gZ_0, gZ_1, e10, e00, ↓reduceIte, Sum.elim_inl, Sum.elim_inr, nI_1, nI_add, Int32.sub_zero, f_c11_parched, zc144, zs144_10, M_isVillage_t t1.1 wg hi, zr144_0, zr144_25, a1, er', m22]
    · have eP : sPa1 (sPar code g v i 99) = nI (sPar code g v i 99).1 := by unfold sPa1; rw [if_neg z]
      rw [eP] at er
      obtain ⟨S3, e3, q3, f3⟩ := C_tell1A (L := L) (N := N) (r := nI (sPar code g v i 99).1) (y := (nI (sPar code g v i 99).2).toInt64) q2
      refine AgrI (c' := c) m (S1 := S3) (r := nI (sPar code g v i 99).1) ?_ (lowTr f1 (lowTr f2 f3)) q3 (w.rw (by show 1 ≤ 8; omega)) (by omega) (fun T mt => ?_)
      · simp (disch := omega) only [Option.bind_some, ↓ile_t, ↓ile_f, ↓ilt_t, ↓ilt_f, ↓ieq_t, ↓ieq_f, ↓iz_t, ↓iz_f, ↓iltz, ↓izle, ↓ilez_t, ↓ilez_f, ↓im1, ile_t, ile_f, ilt_t, ilt_f, ieq_t, ieq_f, iz_t, iz_f, iltz, izle, ilez_t, ilez_f, im1, gZ_0, gZ_1, e10, e00, ↓reduceIte, Sum.elim_inl, Sum.elim_inr, nI_1, nI_add, Int32.sub_zero, f_c10_parched, zc10, zr10_0, zr10_1, zr10_2, zr10_3, zr10_4, zr10_5, zr10_6, zr10_7, zr10_8, zr10_9, zr10_10, zs10_11, zs10_12, e0, e1, er, e3]
      · have t1 := mt.thr
        obtain ⟨T1, a1, t2, m1, g1⟩ := M_then (L := L) (N := N) t1 w hN
        obtain ⟨r', er', T2, er2', q4, f4⟩ := hM T1 t2 m1
        rw [er2', nI_0, ← k1, eP] at er'
        have m22 : ¬ nI (sPar code g v i 99).1 = -2 := fun e => by
          have h1 := nI_toInt (show (sPar code g v i 99).1 < 2147483648 by omega)
          rw [e] at h1
          have h2 : (-2 : Int32).toInt = -2 := by decide
          omega
        obtain ⟨T3, a3, t4, g3, -⟩ := M_t1 (L := L) (N := N) (y := (nI (sPar code g v i 99).2).toInt64) q4
        refine ⟨T3, ?_, highTr thrH (highTr g1 (highTr f4 g3)), t4⟩
        simp (disch := omega) only [Option.bind_some, ↓ile_t, ↓ile_f, ↓ilt_t, ↓ilt_f, ↓ieq_t, ↓ieq_f, ↓iz_t, ↓iz_f, ↓iltz, ↓izle, ↓ilez_t, ↓ilez_f, ↓im1, ile_t, ile_f, ilt_t, ilt_f, ieq_t, ieq_f, iz_t, iz_f, iltz, izle, ilez_t, ilez_f, im1, gZ_0, gZ_1, e10, e00, ↓reduceIte, Sum.elim_inl, Sum.elim_inr, nI_1, nI_add, Int32.sub_zero, f_c11_parched, zc144, zs144_10, M_isVillage_t t1.1 wg hi, zr144_0, zr144_25, a1, er', if_neg m22, zs144_9, a3]
  · refine AgrR w q m (r := -1) ?_ (fun T _ t1 => ?_)
    · simp (disch := omega) only [Option.bind_some, ↓ile_t, ↓ile_f, ↓ilt_t, ↓ilt_f, ↓ieq_t, ↓ieq_f, ↓iz_t, ↓iz_f, ↓iltz, ↓izle, ↓ilez_t, ↓ilez_f, ↓im1, ile_t, ile_f, ilt_t, ilt_f, ieq_t, ieq_f, iz_t, iz_f, iltz, izle, ilez_t, ilez_f, im1, gZ_0, gZ_1, e10, e00, ↓reduceIte, Sum.elim_inl, Sum.elim_inr, nI_1, nI_add, Int32.sub_zero, f_c10_parched, zc10, zr10_0, zr10_1, zr10_2, zr10_3, zr10_4, zr10_5, zr10_6, zr10_7, zr10_8, zr10_9, zr10_10, zs10_11, zs10_12, C_hasV_f (L := L) (N := N) q.1 hp]
    · simp (disch := omega) only [Option.bind_some, ↓ile_t, ↓ile_f, ↓ilt_t, ↓ilt_f, ↓ieq_t, ↓ieq_f, ↓iz_t, ↓iz_f, ↓iltz, ↓izle, ↓ilez_t, ↓ilez_f, ↓im1, ile_t, ile_f, ilt_t, ilt_f, ieq_t, ieq_f, iz_t, iz_f, iltz, izle, ilez_t, ilez_f, im1, gZ_0, gZ_1, e10, e00, ↓reduceIte, Sum.elim_inl, Sum.elim_inr, nI_1, nI_add, Int32.sub_zero, f_c11_parched, zc144, zs144_10, M_isVillage_f t1.1 wg hp, eq_self_iff_true]
end TRIALS3
