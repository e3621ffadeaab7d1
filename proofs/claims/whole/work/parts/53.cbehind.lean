/-! A RULE of the class read: a sign behind a thing -/
section CBEHIND
variable {L N a : Nat} {S : gS}
theorem C_tb {c : Nat} (ha : RA a) (hc : c < 256) (hd : ¬ (48 ≤ c ∧ c ≤ 57)) : f_c6_takeBehind N a (nI c) (mk L S) =
    (sf (mk L S) a 6 7 (.int (0 : Int32))).bind fun h2 =>
    if (nI c) = (41 : Int32) then
    (f_c6_close N a h2).bind fun q34 =>
    (gZ q34.1).bind fun w35 => some (w35, q34.2)
  else
    (f_c6_rank N (nI c) h2).bind fun q4 =>
    if q4 = 0 then
    (gZ (0 : Int32)).bind fun w6 => some (w6, h2)
  else
    if q4 = (1 : Int32) then
    (gfI h2 a 6 6).bind fun v19 =>
    (gfI h2 a 6 5).bind fun v20 =>
    if ((v19 >>> (v20 &&& 31)) &&& (1 : Int32)) = (1 : Int32) then
    (gZ (0 : Int32)).bind fun w33 => some (w33, h2)
  else
    (show Option (gH) from if q4 = (1 : Int32) then
    (gfI h2 a 6 6).bind fun v30 =>
    (gfI h2 a 6 5).bind fun v31 =>
    (sf h2 a 6 6 (.int (v30 ||| ((1 : Int32) <<< (v31 &&& 31))))).bind fun h32 =>
    some h32
  else
    some h2).bind fun t23 =>
    (f_c6_release N a q4 t23).bind fun q25 =>
    (f_c6_hold N a (nI c) q25).bind fun q26 =>
    (gZ (1 : Int32)).bind fun w27 =>
    (sf q26 a 6 8 (.int w27)).bind fun h28 =>
    (gZ (1 : Int32)).bind fun w29 => some (w29, h28)
  else
    (show Option (gH) from if q4 = (1 : Int32) then
    (gfI h2 a 6 6).bind fun v16 =>
    (gfI h2 a 6 5).bind fun v17 =>
    (sf h2 a 6 6 (.int (v16 ||| ((1 : Int32) <<< (v17 &&& 31))))).bind fun h18 =>
    some h18
  else
    some h2).bind fun t9 =>
    (f_c6_release N a q4 t9).bind fun q11 =>
    (f_c6_hold N a (nI c) q11).bind fun q12 =>
    (gZ (1 : Int32)).bind fun w13 =>
    (sf q12 a 6 8 (.int w13)).bind fun h14 =>
    (gZ (1 : Int32)).bind fun w15 => some (w15, h14) := by
  unfold f_c6_takeBehind
  rw [yc ha, Option.bind_some]
  by_cases q : c < 48
  · rw [if_pos (show nI c < 48 from nI_lt (b := 48) q (by omega))]
  · rw [if_neg (show ¬ nI c < 48 from nI_nlt (b := 48) (by omega) (by omega)), if_pos (show (57 : Int32) < nI c from nI_lt (a := 57) (by omega) (by omega))]
theorem C_takeBehind {O : List Int32} {W : List Nat} {n d c : Nat} {m : Nat → Bool} (ha : RA a) (q : RS S a (O, W, n, m, d, false)) (hl : O.length + W.length < 40) (hc : c < 256) (hN : 900 ≤ N) : StepR L S a (O, W, n, m, d, false) (f_c6_takeBehind N a (nI c) (mk L S)) (cStep (O, W, n, m, d, false) c) := by
  have q0 : RQ S a O W := q.1
  have q1 : S.1 a 5 = nI n := q.2.1
  have q2 : n ≤ 4 := q.2.2.1
  have q3 : S.1 a 6 = cM m := q.2.2.2.1
  have q4 : S.1 a 7 = nI d := q.2.2.2.2.1
  have q5 : d ≤ 3 := q.2.2.2.2.2.1
  rw [cStep_f]
  by_cases yd : 48 ≤ c ∧ c ≤ 57
  · rw [if_pos (cDig_t yd)]
    have n1 : ¬ nI c < 48 := nI_nlt (b := 48) (by omega) (by omega)
    have n2 : ¬ (57 : Int32) < nI c := nI_nlt (a := 57) (by omega) (by omega)
    have e48 : nI c - 48 = nI (c - 48) := nI_sub yd.1
    by_cases y1 : d < 1 ∨ 2 < d
    · rw [if_pos y1]
      refine ⟨S, ?_, Fr.refl⟩
      rcases y1 with y1 | y1
      · have e1 : f_c6_lengthen N a (nI (c - 48)) (mk L S) = some (0, mk L S) := by
          simp (disch := omega) only [Option.bind_some, ↓ile_t, ↓ile_f, ↓ilt_t, ↓ilt_f, ↓ieq_t, ↓ieq_f, ↓iz_t, ↓iz_f, ↓iltz, ↓izle, ↓ilez_t, ↓ilez_f, ↓im1, ile_t, ile_f, ilt_t, ilt_f, ieq_t, ieq_f, iz_t, iz_f, iltz, izle, ilez_t, ilez_f, im1, gZ_0, gZ_1, e10, e00, ↓reduceIte, Sum.elim_inl, Sum.elim_inr, nI_1, nI_add, Int32.sub_zero, f_c6_lengthen, yc ha, yr0 ha, yr1 ha, yr2 ha, yi3 ha, ys3 ha, yi4 ha, ys4 ha, yi5 ha, ys5 ha, yi6 ha, ys6 ha, yi7 ha, ys7 ha, yi8 ha, ys8 ha, q4, k1]
        simp (disch := omega) only [Option.bind_some, ↓ile_t, ↓ile_f, ↓ilt_t, ↓ilt_f, ↓ieq_t, ↓ieq_f, ↓iz_t, ↓iz_f, ↓iltz, ↓izle, ↓ilez_t, ↓ilez_f, ↓im1, ile_t, ile_f, ilt_t, ilt_f, ieq_t, ieq_f, iz_t, iz_f, iltz, izle, ilez_t, ilez_f, im1, gZ_0, gZ_1, e10, e00, ↓reduceIte, Sum.elim_inl, Sum.elim_inr, nI_1, nI_add, Int32.sub_zero, f_c6_takeBehind, yc ha, if_neg n1, if_neg n2, e48, e1]
      · have e1 : f_c6_lengthen N a (nI (c - 48)) (mk L S) = some (0, mk L S) := by
          have e2 : ¬ nI d < 1 := nI_nlt (b := 1) (by omega) (by omega)
          simp (disch := omega) only [Option.bind_some, ↓ile_t, ↓ile_f, ↓ilt_t, ↓ilt_f, ↓ieq_t, ↓ieq_f, ↓iz_t, ↓iz_f, ↓iltz, ↓izle, ↓ilez_t, ↓ilez_f, ↓im1, ile_t, ile_f, ilt_t, ilt_f, ieq_t, ieq_f, iz_t, iz_f, iltz, izle, ilez_t, ilez_f, im1, gZ_0, gZ_1, e10, e00, ↓reduceIte, Sum.elim_inl, Sum.elim_inr, nI_1, nI_add, Int32.sub_zero, f_c6_lengthen, yc ha, yr0 ha, yr1 ha, yr2 ha, yi3 ha, ys3 ha, yi4 ha, ys4 ha, yi5 ha, ys5 ha, yi6 ha, ys6 ha, yi7 ha, ys7 ha, yi8 ha, ys8 ha, q4, if_neg e2, k2]
        simp (disch := omega) only [Option.bind_some, ↓ile_t, ↓ile_f, ↓ilt_t, ↓ilt_f, ↓ieq_t, ↓ieq_f, ↓iz_t, ↓iz_f, ↓iltz, ↓izle, ↓ilez_t, ↓ilez_f, ↓im1, ile_t, ile_f, ilt_t, ilt_f, ieq_t, ieq_f, iz_t, iz_f, iltz, izle, ilez_t, ilez_f, im1, gZ_0, gZ_1, e10, e00, ↓reduceIte, Sum.elim_inl, Sum.elim_inr, nI_1, nI_add, Int32.sub_zero, f_c6_takeBehind, yc ha, if_neg n1, if_neg n2, e48, e1]
    · rw [if_neg y1]
      have e2 : ¬ nI d < 1 := nI_nlt (b := 1) (by omega) (by omega)
      have e3 : ¬ (2 : Int32) < nI d := nI_nlt (a := 2) (by omega) (by omega)
      cases O with
      | nil =>
        have e0 : S.1 a 3 = 0 := q0.1
        have e00 : ¬ (1 : Int32) ≤ 0 := by decide
        refine ⟨S, ?_, Fr.refl⟩
        have e1 : f_c6_lengthen N a (nI (c - 48)) (mk L S) = some (0, mk L S) := by
          simp (disch := omega) only [Option.bind_some, ↓ile_t, ↓ile_f, ↓ilt_t, ↓ilt_f, ↓ieq_t, ↓ieq_f, ↓iz_t, ↓iz_f, ↓iltz, ↓izle, ↓ilez_t, ↓ilez_f, ↓im1, ile_t, ile_f, ilt_t, ilt_f, ieq_t, ieq_f, iz_t, iz_f, iltz, izle, ilez_t, ilez_f, im1, gZ_0, gZ_1, e10, e00, ↓reduceIte, Sum.elim_inl, Sum.elim_inr, nI_1, nI_add, Int32.sub_zero, f_c6_lengthen, yc ha, yr0 ha, yr1 ha, yr2 ha, yi3 ha, ys3 ha, yi4 ha, ys4 ha, yi5 ha, ys5 ha, yi6 ha, ys6 ha, yi7 ha, ys7 ha, yi8 ha, ys8 ha, q4, if_neg e2, if_neg e3, e0, if_neg e00]
        simp (disch := omega) only [Option.bind_some, ↓ile_t, ↓ile_f, ↓ilt_t, ↓ilt_f, ↓ieq_t, ↓ieq_f, ↓iz_t, ↓iz_f, ↓iltz, ↓izle, ↓ilez_t, ↓ilez_f, ↓im1, ile_t, ile_f, ilt_t, ilt_f, ieq_t, ieq_f, iz_t, iz_f, iltz, izle, ilez_t, ilez_f, im1, gZ_0, gZ_1, e10, e00, ↓reduceIte, Sum.elim_inl, Sum.elim_inr, nI_1, nI_add, Int32.sub_zero, f_c6_takeBehind, yc ha, if_neg n1, if_neg n2, e48, e1]
      | cons x O =>
        rw [List.length_cons] at hl
        have e0 : S.1 a 3 = nI (O.length + 1) := q0.1
        have e4 : (1 : Int32) ≤ nI (O.length + 1) := nI_le (a := 1) (by omega) (by omega)
        have e5 : S.1 (a + 1) O.length = x := q0.2.1.1
        have r1 := q.fr7 (v := d + 1) (by omega)
        refine ⟨stI (stI S a 7 (nI (d + 1))) (a + 1) O.length (x * 10 + nI (c - 48)), ?_, pR_tr pR_st (Fr.stI (Or.inr (Or.inl rfl))), ?_, by show (_ :: O).length + W.length ≤ (x :: O).length + W.length + 1; rw [List.length_cons, List.length_cons]; omega⟩
        · have e1 : f_c6_lengthen N a (nI (c - 48)) (mk L S) = some (1, mk L (stI (stI S a 7 (nI (d + 1))) (a + 1) O.length (x * 10 + nI (c - 48)))) := by
            simp (disch := omega) only [Option.bind_some, ↓ile_t, ↓ile_f, ↓ilt_t, ↓ilt_f, ↓ieq_t, ↓ieq_f, ↓iz_t, ↓iz_f, ↓iltz, ↓izle, ↓ilez_t, ↓ilez_f, ↓im1, ile_t, ile_f, ilt_t, ilt_f, ieq_t, ieq_f, iz_t, iz_f, iltz, izle, ilez_t, ilez_f, im1, gZ_0, gZ_1, e10, e00, ↓reduceIte, Sum.elim_inl, Sum.elim_inr, nI_1, nI_add, Int32.sub_zero, f_c6_lengthen, yc ha, yr0 ha, yr1 ha, yr2 ha, yi3 ha, ys3 ha, yi4 ha, ys4 ha, yi5 ha, ys5 ha, yi6 ha, ys6 ha, yi7 ha, ys7 ha, yi8 ha, ys8 ha, q4, if_neg e2, if_neg e3, e0, if_pos e4, rdI_ne, nI_sub1, Nat.add_sub_cancel, yg1 ha, yp1 ha, e5]
          simp (disch := omega) only [Option.bind_some, ↓ile_t, ↓ile_f, ↓ilt_t, ↓ilt_f, ↓ieq_t, ↓ieq_f, ↓iz_t, ↓iz_f, ↓iltz, ↓izle, ↓ilez_t, ↓ilez_f, ↓im1, ile_t, ile_f, ilt_t, ilt_f, ieq_t, ieq_f, iz_t, iz_f, iltz, izle, ilez_t, ilez_f, im1, gZ_0, gZ_1, e10, e00, ↓reduceIte, Sum.elim_inl, Sum.elim_inr, nI_1, nI_add, Int32.sub_zero, f_c6_takeBehind, yc ha, if_neg n1, if_neg n2, e48, e1]
        · obtain ⟨p0, p1, p2, p3, p4, p5, p6⟩ := r1
          refine ⟨⟨?_, ⟨rdI_eq, ?_⟩, ?_, ?_, p0.2.2.2.2⟩, ?_, p2, ?_, ?_, p5, ?_⟩
          · rw [rdI_ne (by omega)]; exact p0.1
          · exact p0.2.1.2.congr (fun j hj => by simp (disch := omega) only [rdI_ne])
          · rw [rdI_ne (by omega)]; exact p0.2.2.1
          · exact p0.2.2.2.1.congr (fun j hj => by simp (disch := omega) only [rdI_ne])
          · rw [rdI_ne (by omega)]; exact p1
          · rw [rdI_ne (by omega)]; exact p3
          · rw [rdI_ne (by omega)]; exact p4
          · rw [rdI_ne (by omega)]; exact p6
  · rw [if_neg (by rw [cDig_f yd]; decide), C_tb ha hc yd]
    have r1 := q.fr7 (v := 0) (by omega)
    rw [nI_0] at r1
    have hc4 := cRank_4 c
    by_cases y41 : c = 41
    · rw [if_pos y41]
      by_cases y1 : n < 1
      · rw [if_pos y1]
        have e1 : f_c6_close N a (mk L (stI S a 7 0)) = some (0, mk L (stI S a 7 0)) := by
          have e8 : ¬ (1 : Int32) ≤ nI n := nI_ge (b := 1) y1 (by omega)
          simp (disch := omega) only [Option.bind_some, ↓ile_t, ↓ile_f, ↓ilt_t, ↓ilt_f, ↓ieq_t, ↓ieq_f, ↓iz_t, ↓iz_f, ↓iltz, ↓izle, ↓ilez_t, ↓ilez_f, ↓im1, ile_t, ile_f, ilt_t, ilt_f, ieq_t, ieq_f, iz_t, iz_f, iltz, izle, ilez_t, ilez_f, im1, gZ_0, gZ_1, e10, e00, ↓reduceIte, Sum.elim_inl, Sum.elim_inr, nI_1, nI_add, Int32.sub_zero, f_c6_close, yc ha, yr0 ha, yr1 ha, yr2 ha, yi3 ha, ys3 ha, yi4 ha, ys4 ha, yi5 ha, ys5 ha, yi6 ha, ys6 ha, yi7 ha, ys7 ha, yi8 ha, ys8 ha, q1, rdI_ne, if_neg e8]
        refine ⟨stI S a 7 0, ?_, pR_st⟩
        simp (disch := omega) only [Option.bind_some, ↓ile_t, ↓ile_f, ↓ilt_t, ↓ilt_f, ↓ieq_t, ↓ieq_f, ↓iz_t, ↓iz_f, ↓iltz, ↓izle, ↓ilez_t, ↓ilez_f, ↓im1, ile_t, ile_f, ilt_t, ilt_f, ieq_t, ieq_f, iz_t, iz_f, iltz, izle, ilez_t, ilez_f, im1, gZ_0, gZ_1, e10, e00, ↓reduceIte, Sum.elim_inl, Sum.elim_inr, nI_1, nI_add, Int32.sub_zero, yc ha, yr0 ha, yr1 ha, yr2 ha, yi3 ha, ys3 ha, yi4 ha, ys4 ha, yi5 ha, ys5 ha, yi6 ha, ys6 ha, yi7 ha, ys7 ha, yi8 ha, ys8 ha, k41, e1]
      · rw [if_neg y1]
        obtain ⟨S1, e1, e2, e3⟩ := C_release (L := L) (N := N) (r := 1) ha r1.1 (by show O.length + W.length ≤ 40; omega) (by omega) hN
        have r2 := r1.of e2 e3
        have hlen := cRel_len (k := 1) W O
        have e4 : S1.1 a 4 = nI (cRel 1 W O).2.length := e2.2.2.1
        have e5 : S1.1 a 5 = nI n := r2.2.1
        have e6 : gmax 0 (nI (cRel 1 W O).2.length - 1) = nI ((cRel 1 W O).2.tail.length) := by
          rw [List.length_tail]
          by_cases z : (cRel 1 W O).2.length = 0
          · rw [z]; decide
          · rw [nI_sub1 (by omega), gmax_0 (by omega)]
        have r3 : RS (stI S1 a 4 (nI ((cRel 1 W O).2.tail.length))) a ((cRel 1 W O).1, (cRel 1 W O).2.tail, n, m, 0, false) := by
          obtain ⟨p0, p1, p2, p3, p4, p5, p6⟩ := r2
          refine ⟨⟨?_, ?_, rdI_eq, ?_, ?_⟩, ?_, p2, ?_, ?_, p5, ?_⟩
          · rw [rdI_ne (by omega)]; exact p0.1
          · exact p0.2.1.congr (fun j hj => by simp (disch := omega) only [rdI_ne])
          · have h1 : Stk (S1.1 (a + 2)) ((cRel 1 W O).2.map nI) := p0.2.2.2.1
            have h2 : Stk (S1.1 (a + 2)) ((cRel 1 W O).2.tail.map nI) := by
              cases hw : (cRel 1 W O).2 with
              | nil => trivial
              | cons y W' => rw [hw] at h1; exact h1.2
            exact h2.congr (fun j hj => by simp (disch := omega) only [rdI_ne])
          · intro x hx
            exact p0.2.2.2.2 x (List.mem_of_mem_tail hx)
          · rw [rdI_ne (by omega)]; exact p1
          · rw [rdI_ne (by omega)]; exact p3
          · rw [rdI_ne (by omega)]; exact p4
          · rw [rdI_ne (by omega)]; exact p6
        refine ⟨stI (stI S1 a 4 (nI ((cRel 1 W O).2.tail.length))) a 5 (nI (n - 1)), ?_, pR_tr (pR_tr (pR_tr pR_st e3.1) pR_st) pR_st, r3.fr5 (by omega), ?_⟩
        · have e7 : f_c6_close N a (mk L (stI S a 7 0)) = some (1, mk L (stI (stI S1 a 4 (nI ((cRel 1 W O).2.tail.length))) a 5 (nI (n - 1)))) := by
            rw [← k1] at e1
            have e8 : (1 : Int32) ≤ nI n := nI_le (a := 1) (by omega) (by omega)
            simp (disch := omega) only [Option.bind_some, ↓ile_t, ↓ile_f, ↓ilt_t, ↓ilt_f, ↓ieq_t, ↓ieq_f, ↓iz_t, ↓iz_f, ↓iltz, ↓izle, ↓ilez_t, ↓ilez_f, ↓im1, ile_t, ile_f, ilt_t, ilt_f, ieq_t, ieq_f, iz_t, iz_f, iltz, izle, ilez_t, ilez_f, im1, gZ_0, gZ_1, e10, e00, ↓reduceIte, Sum.elim_inl, Sum.elim_inr, nI_1, nI_add, Int32.sub_zero, f_c6_close, yc ha, yr0 ha, yr1 ha, yr2 ha, yi3 ha, ys3 ha, yi4 ha, ys4 ha, yi5 ha, ys5 ha, yi6 ha, ys6 ha, yi7 ha, ys7 ha, yi8 ha, ys8 ha, q1, rdI_ne, if_pos e8, e1, e4, e6, e5, nI_sub1]
          simp (disch := omega) only [Option.bind_some, ↓ile_t, ↓ile_f, ↓ilt_t, ↓ilt_f, ↓ieq_t, ↓ieq_f, ↓iz_t, ↓iz_f, ↓iltz, ↓izle, ↓ilez_t, ↓ilez_f, ↓im1, ile_t, ile_f, ilt_t, ilt_f, ieq_t, ieq_f, iz_t, iz_f, iltz, izle, ilez_t, ilez_f, im1, gZ_0, gZ_1, e10, e00, ↓reduceIte, Sum.elim_inl, Sum.elim_inr, nI_1, nI_add, Int32.sub_zero, yc ha, yr0 ha, yr1 ha, yr2 ha, yi3 ha, ys3 ha, yi4 ha, ys4 ha, yi5 ha, ys5 ha, yi6 ha, ys6 ha, yi7 ha, ys7 ha, yi8 ha, ys8 ha, k41, e7]
        · show (cRel 1 W O).1.length + (cRel 1 W O).2.tail.length ≤ O.length + W.length + 1
          rw [List.length_tail]; omega
    · rw [if_neg y41]
      by_cases y0 : cRank c = 0
      · rw [if_pos y0]
        refine ⟨stI S a 7 0, ?_, pR_st⟩
        simp (disch := omega) only [Option.bind_some, ↓ile_t, ↓ile_f, ↓ilt_t, ↓ilt_f, ↓ieq_t, ↓ieq_f, ↓iz_t, ↓iz_f, ↓iltz, ↓izle, ↓ilez_t, ↓ilez_f, ↓im1, ile_t, ile_f, ilt_t, ilt_f, ieq_t, ieq_f, iz_t, iz_f, iltz, izle, ilez_t, ilez_f, im1, gZ_0, gZ_1, e10, e00, ↓reduceIte, Sum.elim_inl, Sum.elim_inr, nI_1, nI_add, Int32.sub_zero, yc ha, yr0 ha, yr1 ha, yr2 ha, yi3 ha, ys3 ha, yi4 ha, ys4 ha, yi5 ha, ys5 ha, yi6 ha, ys6 ha, yi7 ha, ys7 ha, yi8 ha, ys8 ha, k41, C_rank (N := N) (c := c) (by omega)]
      · rw [if_neg y0]
        by_cases y1 : cRank c = 1
        · by_cases ym : m n = true
          · rw [if_pos ⟨y1, ym⟩]
            refine ⟨stI S a 7 0, ?_, pR_st⟩
            have e1 : ((cM m >>> (nI n &&& 31)) &&& 1 = 1) := by rw [cM_g (by omega)]; exact ym
            have e2 : (nI (cRank c) = 1) := by rw [y1]; rfl
            simp (disch := omega) only [Option.bind_some, ↓ile_t, ↓ile_f, ↓ilt_t, ↓ilt_f, ↓ieq_t, ↓ieq_f, ↓iz_t, ↓iz_f, ↓iltz, ↓izle, ↓ilez_t, ↓ilez_f, ↓im1, ile_t, ile_f, ilt_t, ilt_f, ieq_t, ieq_f, iz_t, iz_f, iltz, izle, ilez_t, ilez_f, im1, gZ_0, gZ_1, e10, e00, ↓reduceIte, Sum.elim_inl, Sum.elim_inr, nI_1, nI_add, Int32.sub_zero, yc ha, yr0 ha, yr1 ha, yr2 ha, yi3 ha, ys3 ha, yi4 ha, ys4 ha, yi5 ha, ys5 ha, yi6 ha, ys6 ha, yi7 ha, ys7 ha, yi8 ha, ys8 ha, k41, C_rank (N := N) (c := c) (by omega), rdI_ne, q3, q1]
            rw [if_pos e2, if_pos e1]
            (try rfl)
          · rw [if_neg (fun z => ym z.2), if_pos y1]
            have e1 : ¬ ((cM m >>> (nI n &&& 31)) &&& 1 = 1) := by rw [cM_g (by omega)]; exact ym
            have e2 : (nI (cRank c) = 1) := by rw [y1]; rfl
            have r2 := r1.fr6 (n := n) (b := true) (v := cM m ||| ((1 : Int32) <<< (nI n &&& 31))) (by omega) (cM_s (by omega))
            obtain ⟨S1, f1, f2, f3⟩ := C_release (L := L) (N := N) (r := cRank c) ha r2.1 (by show O.length + W.length ≤ 40; omega) (by omega) hN
            have hlen := cRel_len (k := cRank c) W O
            obtain ⟨S2, g1, g2, g3⟩ := C_hold (L := L) (N := N) (c := c) ha f2 (by show (cRel (cRank c) W O).2.length < 40; omega) (by omega)
            have r3 := ((r2.of f2 f3).of g2 g3).fr8 (w := true)
            refine ⟨_, ?_, pR_tr (pR_tr (pR_tr (pR_tr pR_st pR_st) f3.1) g3.1) pR_st, r3, ?_⟩
            · simp (disch := omega) only [Option.bind_some, ↓ile_t, ↓ile_f, ↓ilt_t, ↓ilt_f, ↓ieq_t, ↓ieq_f, ↓iz_t, ↓iz_f, ↓iltz, ↓izle, ↓ilez_t, ↓ilez_f, ↓im1, ile_t, ile_f, ilt_t, ilt_f, ieq_t, ieq_f, iz_t, iz_f, iltz, izle, ilez_t, ilez_f, im1, gZ_0, gZ_1, e10, e00, ↓reduceIte, Sum.elim_inl, Sum.elim_inr, nI_1, nI_add, Int32.sub_zero, yc ha, yr0 ha, yr1 ha, yr2 ha, yi3 ha, ys3 ha, yi4 ha, ys4 ha, yi5 ha, ys5 ha, yi6 ha, ys6 ha, yi7 ha, ys7 ha, yi8 ha, ys8 ha, k41, C_rank (N := N) (c := c) (by omega), rdI_ne, q3, q1]
              rw [if_pos e2, if_neg e1, if_pos e2]
              simp (disch := omega) only [Option.bind_some, ↓ile_t, ↓ile_f, ↓ilt_t, ↓ilt_f, ↓ieq_t, ↓ieq_f, ↓iz_t, ↓iz_f, ↓iltz, ↓izle, ↓ilez_t, ↓ilez_f, ↓im1, ile_t, ile_f, ilt_t, ilt_f, ieq_t, ieq_f, iz_t, iz_f, iltz, izle, ilez_t, ilez_f, im1, gZ_0, gZ_1, e10, e00, ↓reduceIte, Sum.elim_inl, Sum.elim_inr, nI_1, nI_add, Int32.sub_zero, yc ha, yr0 ha, yr1 ha, yr2 ha, yi3 ha, ys3 ha, yi4 ha, ys4 ha, yi5 ha, ys5 ha, yi6 ha, ys6 ha, yi7 ha, ys7 ha, yi8 ha, ys8 ha, rdI_ne, q3, q1, f1, g1]
              (try rfl)
            · show (cRel (cRank c) W O).1.length + (c :: (cRel (cRank c) W O).2).length ≤ O.length + W.length + 1
              rw [List.length_cons]; omega
        · rw [if_neg (fun z => y1 z.1), if_neg y1]
          have e2 : ¬ (nI (cRank c) = 1) := fun z => y1 ((nI_eq (b := 1) (by omega) (by omega)).mp z)
          obtain ⟨S1, f1, f2, f3⟩ := C_release (L := L) (N := N) (r := cRank c) ha r1.1 (by show O.length + W.length ≤ 40; omega) (by omega) hN
          have hlen := cRel_len (k := cRank c) W O
          obtain ⟨S2, g1, g2, g3⟩ := C_hold (L := L) (N := N) (c := c) ha f2 (by show (cRel (cRank c) W O).2.length < 40; omega) (by omega)
          have r3 := ((r1.of f2 f3).of g2 g3).fr8 (w := true)
          refine ⟨_, ?_, pR_tr (pR_tr (pR_tr pR_st f3.1) g3.1) pR_st, r3, ?_⟩
          · simp (disch := omega) only [Option.bind_some, ↓ile_t, ↓ile_f, ↓ilt_t, ↓ilt_f, ↓ieq_t, ↓ieq_f, ↓iz_t, ↓iz_f, ↓iltz, ↓izle, ↓ilez_t, ↓ilez_f, ↓im1, ile_t, ile_f, ilt_t, ilt_f, ieq_t, ieq_f, iz_t, iz_f, iltz, izle, ilez_t, ilez_f, im1, gZ_0, gZ_1, e10, e00, ↓reduceIte, Sum.elim_inl, Sum.elim_inr, nI_1, nI_add, Int32.sub_zero, yc ha, yr0 ha, yr1 ha, yr2 ha, yi3 ha, ys3 ha, yi4 ha, ys4 ha, yi5 ha, ys5 ha, yi6 ha, ys6 ha, yi7 ha, ys7 ha, yi8 ha, ys8 ha, k41, C_rank (N := N) (c := c) (by omega), rdI_ne, q3, q1]
            rw [if_neg e2, if_neg e2]
            simp (disch := omega) only [Option.bind_some, ↓ile_t, ↓ile_f, ↓ilt_t, ↓ilt_f, ↓ieq_t, ↓ieq_f, ↓iz_t, ↓iz_f, ↓iltz, ↓izle, ↓ilez_t, ↓ilez_f, ↓im1, ile_t, ile_f, ilt_t, ilt_f, ieq_t, ieq_f, iz_t, iz_f, iltz, izle, ilez_t, ilez_f, im1, gZ_0, gZ_1, e10, e00, ↓reduceIte, Sum.elim_inl, Sum.elim_inr, nI_1, nI_add, Int32.sub_zero, f1, g1, yc ha, yr0 ha, yr1 ha, yr2 ha, yi3 ha, ys3 ha, yi4 ha, ys4 ha, yi5 ha, ys5 ha, yi6 ha, ys6 ha, yi7 ha, ys7 ha, yi8 ha, ys8 ha]
            (try rfl)
          · show (cRel (cRank c) W O).1.length + (c :: (cRel (cRank c) W O).2).length ≤ O.length + W.length + 1
            rw [List.length_cons]; omega
end CBEHIND
