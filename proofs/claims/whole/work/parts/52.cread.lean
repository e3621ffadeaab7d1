/-! A RULE of the class read: a sign, a text -/
section CREAD
variable {L N a : Nat} {S : gS}
abbrev pR (a : Nat) : Nat → Prop := fun x => x = a ∨ x = a + 1 ∨ x = a + 2
theorem c_dig_lt {c : Nat} (h : ¬ (48 ≤ c ∧ c ≤ 57)) (hc : c < 1000) : (if (if nI c < (48 : Int32) then (0 : Int32) else (if (57 : Int32) < nI c then (0 : Int32) else (1 : Int32))) = 0 then (0 : Int32) else 1) = 0 ∧ (if nI c < (48 : Int32) then (0 : Int32) else (if (57 : Int32) < nI c then (0 : Int32) else (1 : Int32))) = 0 := by
  by_cases q : c < 48
  · rw [k48, k57, if_pos (nI_lt q (by omega))]; exact ⟨rfl, rfl⟩
  · rw [k48, k57, if_neg (nI_nlt (by omega) (by omega)), if_pos (nI_lt (by omega) (by omega))]; exact ⟨rfl, rfl⟩
theorem c_dig_in {c : Nat} (h : 48 ≤ c ∧ c ≤ 57) : (if nI c < (48 : Int32) then (0 : Int32) else (if (57 : Int32) < nI c then (0 : Int32) else (1 : Int32))) = 1 := by
  rw [k48, k57, if_neg (nI_nlt (by omega) (by omega)), if_neg (nI_nlt (by omega) (by omega))]
theorem RS.fr7 {s : cS} {v : Nat} (hv : v ≤ 3) (q : RS S a s) : RS (stI S a 7 (nI v)) a (s.1, s.2.1, s.2.2.1, s.2.2.2.1, v, s.2.2.2.2.2) := by
  obtain ⟨q0, q1, q2, q3, q4, q5, q6⟩ := q
  refine ⟨q0.st (by omega), ?_, q2, ?_, rdI_eq, hv, ?_⟩
  · simp (disch := omega) only [rdI_ne]; exact q1
  · simp (disch := omega) only [rdI_ne]; exact q3
  · simp (disch := omega) only [rdI_ne]; exact q6
theorem RS.of {S' : gS} {s : cS} {O : List Int32} {W : List Nat} (q : RS S a s) (h : RQ S' a O W) (f : FQ a S S') : RS S' a (O, W, s.2.2.1, s.2.2.2.1, s.2.2.2.2.1, s.2.2.2.2.2) :=
  ⟨h, f.2.1.trans q.2.1, q.2.2.1, f.2.2.1.trans q.2.2.2.1, f.2.2.2.1.trans q.2.2.2.2.1, q.2.2.2.2.2.1, f.2.2.2.2.trans q.2.2.2.2.2.2⟩
theorem RS.fr8 {s : cS} {w : Bool} (q : RS S a s) : RS (stI S a 8 (if w then 1 else 0)) a (s.1, s.2.1, s.2.2.1, s.2.2.2.1, s.2.2.2.2.1, w) := by
  obtain ⟨q0, q1, q2, q3, q4, q5, q6⟩ := q
  refine ⟨q0.st (by omega), ?_, q2, ?_, ?_, q5, rdI_eq⟩
  · simp (disch := omega) only [rdI_ne]; exact q1
  · simp (disch := omega) only [rdI_ne]; exact q3
  · simp (disch := omega) only [rdI_ne]; exact q4
theorem RS.fr6 {s : cS} {n : Nat} {b : Bool} (hn : n < 5) (q : RS S a s) {v : Int32} (hv : v = cM (fun j => if j = n then b else s.2.2.2.1 j)) : RS (stI S a 6 v) a (s.1, s.2.1, s.2.2.1, (fun j => if j = n then b else s.2.2.2.1 j), s.2.2.2.2.1, s.2.2.2.2.2) := by
  obtain ⟨q0, q1, q2, q3, q4, q5, q6⟩ := q
  refine ⟨q0.st (by omega), ?_, q2, ?_, ?_, q5, ?_⟩
  · simp (disch := omega) only [rdI_ne]; exact q1
  · rw [rdI_eq]; exact hv
  · simp (disch := omega) only [rdI_ne]; exact q4
  · simp (disch := omega) only [rdI_ne]; exact q6
theorem RS.fr5 {s : cS} {n : Nat} (hn : n ≤ 4) (q : RS S a s) : RS (stI S a 5 (nI n)) a (s.1, s.2.1, n, s.2.2.2.1, s.2.2.2.2.1, s.2.2.2.2.2) := by
  obtain ⟨q0, q1, q2, q3, q4, q5, q6⟩ := q
  refine ⟨q0.st (by omega), rdI_eq, hn, ?_, ?_, q5, ?_⟩
  · simp (disch := omega) only [rdI_ne]; exact q3
  · simp (disch := omega) only [rdI_ne]; exact q4
  · simp (disch := omega) only [rdI_ne]; exact q6
theorem pR_st {k : Nat} {v : Int32} : Fr (pR a) S (stI S a k v) := Fr.stI (Or.inl rfl)
theorem pR_tr {S1 S2 : gS} (h : Fr (pR a) S S1) (k : Fr (pR a) S1 S2) : Fr (pR a) S S2 := h.trans k (fun _ z => z) (fun _ z => z)
def StepR (L : Nat) (S : gS) (a : Nat) (s : cS) (o : Option (Int32 × gH)) (r : Option cS) : Prop := match r with
  | none => ∃ S', o = some (0, mk L S') ∧ Fr (pR a) S S'
  | some s' => ∃ S', o = some (1, mk L S') ∧ Fr (pR a) S S' ∧ RS S' a s' ∧ cSz s' ≤ cSz s + 1
theorem gZ_b {b : Bool} : gZ (if b = true then 1 else 0) = some (if b = true then 1 else 0) := by cases b <;> rfl
theorem C_takeThing {O : List Int32} {W : List Nat} {n d c : Nat} {m : Nat → Bool} (ha : RA a) (q : RS S a (O, W, n, m, d, true)) (hl : O.length + W.length < 40) (hc : c < 256) : StepR L S a (O, W, n, m, d, true) (f_c6_takeThing N a (nI c) (mk L S)) (cStep (O, W, n, m, d, true) c) := by
  have q0 : RQ S a O W := q.1
  have q1 : S.1 a 5 = nI n := q.2.1
  have q2 : n ≤ 4 := q.2.2.1
  have q3 : S.1 a 6 = cM m := q.2.2.2.1
  show StepR L S a _ _ (if c = 45 then _ else if c = 40 then (if n < 4 then _ else _) else if cDig c = true then _ else if cThing c = true then _ else _)
  by_cases y45 : c = 45
  · rw [if_pos y45]
    obtain ⟨S1, e1, e2, e3⟩ := C_hold (L := L) (N := N) (c := 256) ha q0 (by omega) (by omega)
    refine ⟨S1, ?_, e3.1, q.of e2 e3, by show O.length + (256 :: W).length ≤ O.length + W.length + 1; rw [List.length_cons]; omega⟩
    simp (disch := omega) only [Option.bind_some, ↓ile_t, ↓ile_f, ↓ilt_t, ↓ilt_f, ↓ieq_t, ↓ieq_f, ↓iz_t, ↓iz_f, ↓iltz, ↓izle, ↓ilez_t, ↓ilez_f, ↓im1, ile_t, ile_f, ilt_t, ilt_f, ieq_t, ieq_f, iz_t, iz_f, iltz, izle, ilez_t, ilez_f, im1, gZ_0, gZ_1, e10, e00, ↓reduceIte, Sum.elim_inl, Sum.elim_inr, nI_1, nI_add, Int32.sub_zero, f_c6_takeThing, yc ha, k45, k256, e1]
  · rw [if_neg y45]
    by_cases y40 : c = 40
    · rw [if_pos y40]
      by_cases y4 : n < 4
      · rw [if_pos y4]
        have r1 := (q.fr5 (n := n + 1) (by omega)).fr6 (n := n + 1) (b := false) (v := cM m &&& (((1 : Int32) <<< (nI (n + 1) &&& 31)) ^^^ (-1))) (by omega) (cM_c (by omega))
        obtain ⟨S1, e1, e2, e3⟩ := C_hold (L := L) (N := N) (c := 40) ha r1.1 (by show W.length < 40; omega) (by omega)
        refine ⟨S1, ?_, pR_tr (pR_tr pR_st pR_st) e3.1, r1.of e2 e3, by show O.length + (40 :: W).length ≤ O.length + W.length + 1; rw [List.length_cons]; omega⟩
        have e5 : f_c6_open N a (mk L S) = some (1, mk L S1) := by
          simp (disch := omega) only [Option.bind_some, ↓ile_t, ↓ile_f, ↓ilt_t, ↓ilt_f, ↓ieq_t, ↓ieq_f, ↓iz_t, ↓iz_f, ↓iltz, ↓izle, ↓ilez_t, ↓ilez_f, ↓im1, ile_t, ile_f, ilt_t, ilt_f, ieq_t, ieq_f, iz_t, iz_f, iltz, izle, ilez_t, ilez_f, im1, gZ_0, gZ_1, e10, e00, ↓reduceIte, Sum.elim_inl, Sum.elim_inr, nI_1, nI_add, Int32.sub_zero, f_c6_open, yc ha, yr0 ha, yr1 ha, yr2 ha, yi3 ha, ys3 ha, yi4 ha, ys4 ha, yi5 ha, ys5 ha, yi6 ha, ys6 ha, yi7 ha, ys7 ha, yi8 ha, ys8 ha, q1, k4, rdI_ne, rdI_eq, q3, k40, e1]
        simp (disch := omega) only [Option.bind_some, ↓ile_t, ↓ile_f, ↓ilt_t, ↓ilt_f, ↓ieq_t, ↓ieq_f, ↓iz_t, ↓iz_f, ↓iltz, ↓izle, ↓ilez_t, ↓ilez_f, ↓im1, ile_t, ile_f, ilt_t, ilt_f, ieq_t, ieq_f, iz_t, iz_f, iltz, izle, ilez_t, ilez_f, im1, gZ_0, gZ_1, e10, e00, ↓reduceIte, Sum.elim_inl, Sum.elim_inr, nI_1, nI_add, Int32.sub_zero, f_c6_takeThing, yc ha, k45, k40, e5]
      · rw [if_neg y4]
        have e5 : f_c6_open N a (mk L S) = some (0, mk L S) := by
          simp (disch := omega) only [Option.bind_some, ↓ile_t, ↓ile_f, ↓ilt_t, ↓ilt_f, ↓ieq_t, ↓ieq_f, ↓iz_t, ↓iz_f, ↓iltz, ↓izle, ↓ilez_t, ↓ilez_f, ↓im1, ile_t, ile_f, ilt_t, ilt_f, ieq_t, ieq_f, iz_t, iz_f, iltz, izle, ilez_t, ilez_f, im1, gZ_0, gZ_1, e10, e00, ↓reduceIte, Sum.elim_inl, Sum.elim_inr, nI_1, nI_add, Int32.sub_zero, f_c6_open, yc ha, yr0 ha, yr1 ha, yr2 ha, yi3 ha, ys3 ha, yi4 ha, ys4 ha, yi5 ha, ys5 ha, yi6 ha, ys6 ha, yi7 ha, ys7 ha, yi8 ha, ys8 ha, q1, k4]
        refine ⟨S, ?_, Fr.refl⟩
        simp (disch := omega) only [Option.bind_some, ↓ile_t, ↓ile_f, ↓ilt_t, ↓ilt_f, ↓ieq_t, ↓ieq_f, ↓iz_t, ↓iz_f, ↓iltz, ↓izle, ↓ilez_t, ↓ilez_f, ↓im1, ile_t, ile_f, ilt_t, ilt_f, ieq_t, ieq_f, iz_t, iz_f, iltz, izle, ilez_t, ilez_f, im1, gZ_0, gZ_1, e10, e00, ↓reduceIte, Sum.elim_inl, Sum.elim_inr, nI_1, nI_add, Int32.sub_zero, f_c6_takeThing, yc ha, k45, k40, e5]
    · rw [if_neg y40]
      by_cases yd : 48 ≤ c ∧ c ≤ 57
      · rw [if_pos (cDig_t yd)]
        have r1 := q.fr7 (v := 1) (by omega)
        obtain ⟨S1, e1, e2, e3⟩ := C_emit (L := L) (N := N) (x := nI (c - 48)) ha r1.1 (by show O.length < 40; omega)
        have r2 := (r1.of e2 e3).fr8 (w := false)
        refine ⟨_, ?_, pR_tr (pR_tr pR_st e3.1) pR_st, r2, by show (_ :: O).length + W.length ≤ O.length + W.length + 1; rw [List.length_cons]; omega⟩
        have ed := c_dig_in yd
        have e48 : nI c - 48 = nI (c - 48) := nI_sub yd.1
        rw [← k1] at e1
        simp (disch := omega) only [Option.bind_some, ↓ile_t, ↓ile_f, ↓ilt_t, ↓ilt_f, ↓ieq_t, ↓ieq_f, ↓iz_t, ↓iz_f, ↓iltz, ↓izle, ↓ilez_t, ↓ilez_f, ↓im1, ile_t, ile_f, ilt_t, ilt_f, ieq_t, ieq_f, iz_t, iz_f, iltz, izle, ilez_t, ilez_f, im1, gZ_0, gZ_1, e10, e00, ↓reduceIte, Sum.elim_inl, Sum.elim_inr, nI_1, nI_add, Int32.sub_zero, f_c6_takeThing, yc ha, yr0 ha, yr1 ha, yr2 ha, yi3 ha, ys3 ha, yi4 ha, ys4 ha, yi5 ha, ys5 ha, yi6 ha, ys6 ha, yi7 ha, ys7 ha, yi8 ha, ys8 ha, k45, k40]
        simp (disch := omega) only [Option.bind_some, ↓ile_t, ↓ile_f, ↓ilt_t, ↓ilt_f, ↓ieq_t, ↓ieq_f, ↓iz_t, ↓iz_f, ↓iltz, ↓izle, ↓ilez_t, ↓ilez_f, ↓im1, ile_t, ile_f, ilt_t, ilt_f, ieq_t, ieq_f, iz_t, iz_f, iltz, izle, ilez_t, ilez_f, im1, gZ_0, gZ_1, e10, e00, ↓reduceIte, Sum.elim_inl, Sum.elim_inr, nI_1, nI_add, Int32.sub_zero, ed, e10, e48, e1, yc ha, yr0 ha, yr1 ha, yr2 ha, yi3 ha, ys3 ha, yi4 ha, ys4 ha, yi5 ha, ys5 ha, yi6 ha, ys6 ha, yi7 ha, ys7 ha, yi8 ha, ys8 ha]
        rfl
      · rw [if_neg (by rw [cDig_f yd]; decide)]
        obtain ⟨d1, d2⟩ := c_dig_lt yd (by omega)
        by_cases yl : cThing c = true
        · rw [if_pos yl]
          have r1 := q.fr7 (v := 0) (by omega)
          obtain ⟨S1, e1, e2, e3⟩ := C_emit (L := L) (N := N) (x := -(nI c)) ha r1.1 (by show O.length < 40; omega)
          have r2 := (r1.of e2 e3).fr8 (w := false)
          refine ⟨_, ?_, pR_tr (pR_tr pR_st e3.1) pR_st, r2, by show (_ :: O).length + W.length ≤ O.length + W.length + 1; rw [List.length_cons]; omega⟩
          rw [nI_0] at e1
          have eT := C_isThing (N := N) (h := mk L S) hc
          rw [if_pos yl] at eT
          simp (disch := omega) only [Option.bind_some, ↓ile_t, ↓ile_f, ↓ilt_t, ↓ilt_f, ↓ieq_t, ↓ieq_f, ↓iz_t, ↓iz_f, ↓iltz, ↓izle, ↓ilez_t, ↓ilez_f, ↓im1, ile_t, ile_f, ilt_t, ilt_f, ieq_t, ieq_f, iz_t, iz_f, iltz, izle, ilez_t, ilez_f, im1, gZ_0, gZ_1, e10, e00, ↓reduceIte, Sum.elim_inl, Sum.elim_inr, nI_1, nI_add, Int32.sub_zero, f_c6_takeThing, yc ha, yr0 ha, yr1 ha, yr2 ha, yi3 ha, ys3 ha, yi4 ha, ys4 ha, yi5 ha, ys5 ha, yi6 ha, ys6 ha, yi7 ha, ys7 ha, yi8 ha, ys8 ha, k45, k40]
          simp (disch := omega) only [Option.bind_some, ↓ile_t, ↓ile_f, ↓ilt_t, ↓ilt_f, ↓ieq_t, ↓ieq_f, ↓iz_t, ↓iz_f, ↓iltz, ↓izle, ↓ilez_t, ↓ilez_f, ↓im1, ile_t, ile_f, ilt_t, ilt_f, ieq_t, ieq_f, iz_t, iz_f, iltz, izle, ilez_t, ilez_f, im1, gZ_0, gZ_1, e10, e00, ↓reduceIte, Sum.elim_inl, Sum.elim_inr, nI_1, nI_add, Int32.sub_zero, d1, d2, e00, e10, eT, e1, yc ha, yr0 ha, yr1 ha, yr2 ha, yi3 ha, ys3 ha, yi4 ha, ys4 ha, yi5 ha, ys5 ha, yi6 ha, ys6 ha, yi7 ha, ys7 ha, yi8 ha, ys8 ha]
          rfl
        · rw [if_neg yl]
          have eT := C_isThing (N := N) (h := mk L S) hc
          rw [if_neg yl] at eT
          refine ⟨S, ?_, Fr.refl⟩
          simp (disch := omega) only [Option.bind_some, ↓ile_t, ↓ile_f, ↓ilt_t, ↓ilt_f, ↓ieq_t, ↓ieq_f, ↓iz_t, ↓iz_f, ↓iltz, ↓izle, ↓ilez_t, ↓ilez_f, ↓im1, ile_t, ile_f, ilt_t, ilt_f, ieq_t, ieq_f, iz_t, iz_f, iltz, izle, ilez_t, ilez_f, im1, gZ_0, gZ_1, e10, e00, ↓reduceIte, Sum.elim_inl, Sum.elim_inr, nI_1, nI_add, Int32.sub_zero, f_c6_takeThing, yc ha, yr0 ha, yr1 ha, yr2 ha, yi3 ha, ys3 ha, yi4 ha, ys4 ha, yi5 ha, ys5 ha, yi6 ha, ys6 ha, yi7 ha, ys7 ha, yi8 ha, ys8 ha, k45, k40]
          simp (disch := omega) only [Option.bind_some, ↓ile_t, ↓ile_f, ↓ilt_t, ↓ilt_f, ↓ieq_t, ↓ieq_f, ↓iz_t, ↓iz_f, ↓iltz, ↓izle, ↓ilez_t, ↓ilez_f, ↓im1, ile_t, ile_f, ilt_t, ilt_f, ieq_t, ieq_f, iz_t, iz_f, iltz, izle, ilez_t, ilez_f, im1, gZ_0, gZ_1, e10, e00, ↓reduceIte, Sum.elim_inl, Sum.elim_inr, nI_1, nI_add, Int32.sub_zero, d1, d2, e00, e10, eT]
end CREAD
