/-! CALLS: rests -/
def tW (x y r : Nat) : Nat := (if 6 < x then 12 - x else x) + (if x = y then r / 2 else if x < y then r else 0)
def tB (x y r : Nat) : Bool := (fstN (fun z => decide (tW x y r < tW z y r)) 0 10).isNone
def tS (r x y : Nat) (s : Nat × List Int64) : Nat × List Int64 := if tB x y r = true ∧ tB y x r = true then (s.1 + 1, if s.1 = 0 then [(nI x).toInt64, (nI y).toInt64] else s.2) else s
def tI (r x : Nat) (s : Nat × List Int64) : Nat → Nat × List Int64
  | 0 => s
  | y + 1 => tS r x y (tI r x s y)
def tO (r : Nat) : Nat → Nat × List Int64
  | 0 => (0, [])
  | x + 1 => tI r x (tO r x) 10
def tOk (s : Nat × List Int64) (m : Nat) : Prop := s.1 ≤ m ∧ s.2.length ≤ 2 ∧ (s.1 = 0 → s.2 = [])
theorem tS_ok {r x y m : Nat} {s : Nat × List Int64} (h : tOk s m) : tOk (tS r x y s) (m + 1) := by
  unfold tS
  split
  · refine ⟨by show s.1 + 1 ≤ m + 1; have := h.1; omega, ?_, fun z => by have z2 : s.1 + 1 = 0 := z; omega⟩
    show (if s.1 = 0 then _ else s.2).length ≤ 2
    split
    · exact Nat.le_refl 2
    · exact h.2.1
  · exact ⟨by have := h.1; omega, h.2⟩
theorem tI_ok {r x m : Nat} {s : Nat × List Int64} (h : tOk s m) : ∀ y, tOk (tI r x s y) (m + y) := by
  intro y
  induction y with
  | zero => exact h
  | succ y ih => exact tS_ok ih
theorem tO_ok {r : Nat} : ∀ x, tOk (tO r x) (10 * x) := by
  intro x
  induction x with
  | zero => exact ⟨Nat.le_refl _, by show 0 ≤ 2; omega, fun _ => rfl⟩
  | succ x ih => exact tI_ok ih 10
theorem tW_lt {x y r : Nat} (hx : x ≤ 9) (hr : r ≤ 20) : tW x y r < 100 := by
  unfold tW
  split <;> split <;> (try split) <;> omega
section RESTS
variable {L N : Nat} {S T : gS} {c : Nat} {g : pG} {v : pV} {x : pX} {l : List Int64} {u : pX} {n : pN} {k : Nat → Option pV} {h : pH} {A : pA} {hh : gH}
theorem C_talk {a b r : Nat} (ha : a ≤ 9) (hb : b ≤ 9) (hr : r ≤ 20) : f_c10_talkIsWorth N (nI a) (nI b) (nI r) hh = some (nI (tW a b r)) := by
  have e6 : (if (6 : Int32) < nI a then (12 : Int32) - nI a else nI a) = nI (if 6 < a then 12 - a else a) := by
    by_cases z : 6 < a
    · rw [k6, ilt_t z (by omega), if_pos z, k12, nI_sub (by omega)]
    · rw [k6, ilt_f (by omega) (by omega), if_neg z]
  unfold f_c10_talkIsWorth tW
  rw [e6]
  have g2 : gNZ (2 : Int32) = some () := by rfl
  by_cases z : a = b
  · rw [ieq_t z, g2, Option.bind_some, k2, nI_div (by omega) (by omega), nI_add, if_pos z]
  · rw [ieq_f z (by omega) (by omega), if_neg z]
    by_cases y : a < b
    · rw [ile_f y (by omega), if_pos y, nI_add]
    · rw [ile_t (by omega) (by omega), if_neg y, Nat.add_zero]
theorem gmax6 : ∀ a : Nat, a < 10 → gmax (0 : Int32) (nI a - (6 : Int32)) = nI (a - 6) := by decide +kernel
theorem M_gets {a b r : Nat} (ha : a ≤ 9) (hb : b ≤ 9) (hr : r ≤ 20) : f_c11_gets N (nI a) (nI b) (nI r) hh = some (nI (tW a b r)) := by
  unfold f_c11_gets tW
  have g2 : gNZ (2 : Int32) = some () := by rfl
  by_cases y : a < b
  · rw [ile_f y (by omega), Option.bind_some, gmax6 a (by omega), k6, gmin_nI (by omega) (by omega), nI_add, nI_sub (by omega), if_neg (show ¬ a = b by omega), if_pos y]
    congr 2
    split <;> omega
  · rw [ile_t (show b ≤ a by omega) (by omega)]
    by_cases z : a = b
    · rw [ieq_t z, g2, Option.bind_some, Option.bind_some, gmax6 a (by omega), k6, gmin_nI (by omega) (by omega), k2, nI_div (by omega) (by omega), nI_add, nI_sub (by omega), if_pos z]
      congr 2
      split <;> omega
    · rw [ieq_f z (by omega) (by omega), Option.bind_some, gmax6 a (by omega), k6, gmin_nI (by omega) (by omega), k0, nI_add, nI_sub (by omega), if_neg z, if_neg y]
      congr 2
      split <;> omega
theorem C_bestT {a b r : Nat} (ha : a ≤ 9) (hb : b ≤ 9) (hr : r ≤ 20) (hN : 900 ≤ N) : f_c10_isBestTalk N (nI a) (nI b) (nI r) hh = some (if tB a b r then 1 else 0) := by
  have hw := tW_lt (y := b) ha hr
  have e : lp_c10_isBestTalk_10 N (nI b) (nI r) (nI (tW a b r)) hh N (nI 0) = some ((fun o : Option Nat => match o with | some _ => Sum.inl (0 : Int32) | none => Sum.inr ()) (fstN (fun z => decide (tW a b r < tW z b r)) 0 10)) := by
    refine lp_fst (Lp := fun k i => lp_c10_isBestTalk_10 N (nI b) (nI r) (nI (tW a b r)) hh k (nI i)) (o := fun o => match o with | some _ => Sum.inl (0 : Int32) | none => Sum.inr ()) (n := 10) (fun k i hi hp => ?_) (fun k i hi hp => ?_) (fun k => ?_) 10 N 0 (by omega) (by omega)
    · show lp_c10_isBestTalk_10 N (nI b) (nI r) (nI (tW a b r)) hh (k + 1) (nI i) = lp_c10_isBestTalk_10 N (nI b) (nI r) (nI (tW a b r)) hh k (nI (i + 1))
      have hp := of_decide_eq_false hp
      have hw2 := tW_lt (y := b) (x := i) (by omega) hr
      rw [lp_c10_isBestTalk_10.eq_2, k9, ilt_f (by omega) (by omega), C_talk (by omega) hb hr, Option.bind_some, ile_t (by omega) (by omega), nI_1]
    · show lp_c10_isBestTalk_10 N (nI b) (nI r) (nI (tW a b r)) hh (k + 1) (nI i) = some (Sum.inl 0)
      have hp := of_decide_eq_true hp
      have hw2 := tW_lt (y := b) (x := i) (by omega) hr
      rw [lp_c10_isBestTalk_10.eq_2, k9, ilt_f (by omega) (by omega), C_talk (by omega) hb hr, Option.bind_some, ile_f (by omega) (by omega)]
      rfl
    · show lp_c10_isBestTalk_10 N (nI b) (nI r) (nI (tW a b r)) hh (k + 1) (nI 10) = some (Sum.inr ())
      rw [lp_c10_isBestTalk_10.eq_2, k9, ilt_t (by omega) (by omega)]
  unfold f_c10_isBestTalk tB
  rw [C_talk ha hb hr, Option.bind_some, ← nI_0, e]
  cases fstN (fun z => decide (tW a b r < tW z b r)) 0 10 with
  | none => rfl
  | some i => rfl
theorem M_isBest {a b r : Nat} (ha : a ≤ 9) (hb : b ≤ 9) (hr : r ≤ 20) (hN : 900 ≤ N) : f_c11_isBest N (nI a) (nI b) (nI r) hh = some (if tB a b r then 1 else 0) := by
  have hw := tW_lt (y := b) ha hr
  have e : lp_c11_isBest_2 N (nI a) (nI b) (nI r) hh N (nI 0) = some ((fun o : Option Nat => match o with | some _ => Sum.inl (0 : Int32) | none => Sum.inr ()) (fstN (fun z => decide (tW a b r < tW z b r)) 0 10)) := by
    refine lp_fst (Lp := fun k i => lp_c11_isBest_2 N (nI a) (nI b) (nI r) hh k (nI i)) (o := fun o => match o with | some _ => Sum.inl (0 : Int32) | none => Sum.inr ()) (n := 10) (fun k i hi hp => ?_) (fun k i hi hp => ?_) (fun k => ?_) 10 N 0 (by omega) (by omega)
    · show lp_c11_isBest_2 N (nI a) (nI b) (nI r) hh (k + 1) (nI i) = lp_c11_isBest_2 N (nI a) (nI b) (nI r) hh k (nI (i + 1))
      have hp := of_decide_eq_false hp
      have hw2 := tW_lt (y := b) (x := i) (by omega) hr
      rw [lp_c11_isBest_2.eq_2, k9, ilt_f (by omega) (by omega), M_gets (a := i) (by omega) hb hr, Option.bind_some, M_gets ha hb hr, Option.bind_some, ile_t (by omega) (by omega), nI_1]
    · show lp_c11_isBest_2 N (nI a) (nI b) (nI r) hh (k + 1) (nI i) = some (Sum.inl 0)
      have hp := of_decide_eq_true hp
      have hw2 := tW_lt (y := b) (x := i) (by omega) hr
      rw [lp_c11_isBest_2.eq_2, k9, ilt_f (by omega) (by omega), M_gets (a := i) (by omega) hb hr, Option.bind_some, M_gets ha hb hr, Option.bind_some, ile_f (by omega) (by omega)]
      rfl
    · show lp_c11_isBest_2 N (nI a) (nI b) (nI r) hh (k + 1) (nI 10) = some (Sum.inr ())
      rw [lp_c11_isBest_2.eq_2, k9, ilt_t (by omega) (by omega)]
  unfold f_c11_isBest tB
  rw [← nI_0, e]
  cases fstN (fun z => decide (tW a b r < tW z b r)) 0 10 with
  | none => rfl
  | some i => rfl
theorem C_rest32 {r a m : Nat} {s0 : Nat × List Int64} (q : CA S (g, v, x, s0.2, u, n, k, h)) (ho : tOk s0 m) (hm : m ≤ 1000) (hr : r ≤ 20) (ha : a ≤ 9) (hN : 900 ≤ N) : ∃ S1, lp_c10_rests_32 N 10 (nI r) (nI a) N (nI s0.1) 0 (mk L S) = some (nI (tI r a s0 10).1, mk L S1) ∧ CA S1 (g, v, x, (tI r a s0 10).2, u, n, k, h) ∧ Fr lowC S S1 := by
  have e : ∃ z, lp_c10_rests_32 N 10 (nI r) (nI a) N (nI s0.1) (nI 0) (mk L S) = some z ∧ ∃ S1, z = (nI (tI r a s0 10).1, mk L S1) ∧ CA S1 (g, v, x, (tI r a s0 10).2, u, n, k, h) ∧ Fr lowC S S1 := by
    refine lp_inv (Lp := fun kk (s : Int32 × gS) i => lp_c10_rests_32 N 10 (nI r) (nI a) kk s.1 (nI i) (mk L s.2)) (n := 10) (P := fun i s => s.1 = nI (tI r a s0 i).1 ∧ CA s.2 (g, v, x, (tI r a s0 i).2, u, n, k, h) ∧ Fr lowC S s.2) (fun kk i s hi hs => Or.inr ?_) (fun kk s hs => ?_) 10 N 0 (nI s0.1, S) (by omega) (by omega) ⟨rfl, q, Fr.refl⟩
    · obtain ⟨s1, s⟩ := s
      obtain ⟨rfl, qs, fs⟩ := hs
      dsimp only at qs fs
      obtain ⟨o1, o2, o3⟩ := tI_ok (r := r) (x := a) ho i
      generalize hst : tI r a s0 i = st at *
      have eS : tI r a s0 (i + 1) = tS r a i st := by rw [← hst]; rfl
      show ∃ s' : Int32 × gS, lp_c10_rests_32 N 10 (nI r) (nI a) (kk + 1) (nI st.1) (nI i) (mk L s) = lp_c10_rests_32 N 10 (nI r) (nI a) kk s'.1 (nI (i + 1)) (mk L s'.2) ∧ s'.1 = nI (tI r a s0 (i + 1)).1 ∧ CA s'.2 (g, v, x, (tI r a s0 (i + 1)).2, u, n, k, h) ∧ Fr lowC S s'.2
      rw [eS, lp_c10_rests_32.eq_2, k9, ilt_f (by omega) (by omega), C_bestT ha (by omega) hr hN, Option.bind_some]
      unfold tS
      by_cases z1 : tB a i r = true
      · rw [if_pos z1, if_neg (show ¬ (1 : Int32) = 0 by decide), C_bestT (by omega) ha hr hN, Option.bind_some]
        by_cases z2 : tB i a r = true
        · rw [if_pos z2, if_neg (show ¬ (1 : Int32) = 0 by decide), if_pos (show tB a i r = true ∧ tB i a r = true from ⟨z1, z2⟩)]
          by_cases z3 : st.1 = 0
          · have l0 := o3 z3
            rw [l0] at qs
            obtain ⟨s2, e2, q2, f2⟩ := C_addA (L := L) (N := N) (y := (nI a).toInt64) qs (by show 0 < 8; omega)
            obtain ⟨s3, e3, q3, f3⟩ := C_addA (L := L) (N := N) (y := (nI i).toInt64) q2 (by show 1 < 8; omega)
            refine ⟨(nI (st.1 + 1), s3), ?_, rfl, ?_, lowTr fs (lowTr f2 f3)⟩
            · rw [nI_1, z3, if_pos (show nI (0 + 1) = 1 from rfl), zr10_1, Option.bind_some, e2, Option.bind_some, zr10_1, Option.bind_some, e3, Option.bind_some, Option.bind_some, nI_1]
            · show CA s3 (g, v, x, (if st.1 = 0 then _ else st.2), u, n, k, h)
              rw [if_pos z3]
              exact q3
          · refine ⟨(nI (st.1 + 1), s), ?_, rfl, ?_, fs⟩
            · have n1 : ¬ nI (st.1 + 1) = 1 := fun e => z3 (by have := (nI_eq (b := 1) (by omega) (by omega)).mp e; omega)
              rw [nI_1, if_neg n1, Option.bind_some, nI_1]
            · show CA s (g, v, x, (if st.1 = 0 then _ else st.2), u, n, k, h)
              rw [if_neg z3]
              exact qs
        · rw [if_neg z2, if_pos (show (0 : Int32) = 0 from rfl), if_neg (fun f => z2 f.2)]
          exact ⟨(nI st.1, s), by rw [Option.bind_some, nI_1], rfl, qs, fs⟩
      · rw [if_neg z1, if_pos (show (0 : Int32) = 0 from rfl), if_neg (fun f => z1 f.1)]
        exact ⟨(nI st.1, s), by rw [Option.bind_some, nI_1], rfl, qs, fs⟩
    · obtain ⟨s1, s⟩ := s
      obtain ⟨rfl, qs, fs⟩ := hs
      refine ⟨_, ?_, s, rfl, qs, fs⟩
      show lp_c10_rests_32 N 10 (nI r) (nI a) (kk + 1) _ _ _ = _
      rw [lp_c10_rests_32.eq_2, k9, ilt_t (by omega) (by omega)]
  obtain ⟨z, e, S1, er, e2, e3⟩ := e
  rw [er] at e
  exact ⟨S1, e, e2, e3⟩
theorem C_rest23 {r : Nat} (q : CA S (g, v, x, [], u, n, k, h)) (hr : r ≤ 20) (hN : 900 ≤ N) : ∃ S1, lp_c10_rests_23 N 10 (nI r) N 0 0 (mk L S) = some (nI (tO r 10).1, mk L S1) ∧ CA S1 (g, v, x, (tO r 10).2, u, n, k, h) ∧ Fr lowC S S1 := by
  have e : ∃ z, lp_c10_rests_23 N 10 (nI r) N (nI 0) (nI 0) (mk L S) = some z ∧ ∃ S1, z = (nI (tO r 10).1, mk L S1) ∧ CA S1 (g, v, x, (tO r 10).2, u, n, k, h) ∧ Fr lowC S S1 := by
    refine lp_inv (Lp := fun kk (s : Int32 × gS) i => lp_c10_rests_23 N 10 (nI r) kk s.1 (nI i) (mk L s.2)) (n := 10) (P := fun i s => s.1 = nI (tO r i).1 ∧ CA s.2 (g, v, x, (tO r i).2, u, n, k, h) ∧ Fr lowC S s.2) (fun kk i s hi hs => Or.inr ?_) (fun kk s hs => ?_) 10 N 0 (nI 0, S) (by omega) (by omega) ⟨rfl, q, Fr.refl⟩
    · obtain ⟨s1, s⟩ := s
      obtain ⟨rfl, qs, fs⟩ := hs
      dsimp only at qs fs
      obtain ⟨s2, e2, q2, f2⟩ := C_rest32 (L := L) (N := N) (a := i) qs (tO_ok (r := r) i) (by omega) hr (by omega) hN
      refine ⟨(nI (tO r (i + 1)).1, s2), ?_, rfl, q2, lowTr fs f2⟩
      show lp_c10_rests_23 N 10 (nI r) (kk + 1) (nI (tO r i).1) (nI i) (mk L s) = lp_c10_rests_23 N 10 (nI r) kk (nI (tI r i (tO r i) 10).1) (nI (i + 1)) (mk L s2)
      rw [lp_c10_rests_23.eq_2, k9, ilt_f (by omega) (by omega), e2, Option.bind_some, nI_1]
    · obtain ⟨s1, s⟩ := s
      obtain ⟨rfl, qs, fs⟩ := hs
      refine ⟨_, ?_, s, rfl, qs, fs⟩
      show lp_c10_rests_23 N 10 (nI r) (kk + 1) _ _ _ = _
      rw [lp_c10_rests_23.eq_2, k9, ilt_t (by omega) (by omega)]
  obtain ⟨z, e, S1, er, e2, e3⟩ := e
  rw [er] at e
  exact ⟨S1, e, e2, e3⟩
theorem M_rest35 {r a m : Nat} {s0 : Nat × List Int64} (q : MA T (g, v, x, s0.2, u, n, k, h) c) (ho : tOk s0 m) (hm : m ≤ 1000) (hr : r ≤ 20) (ha : a ≤ 9) (hN : 900 ≤ N) : ∃ S1, lp_c11_rests_35 N 144 (nI r) (nI a) N (nI s0.1) 0 (mk L T) = some (nI (tI r a s0 10).1, mk L S1) ∧ MA S1 (g, v, x, (tI r a s0 10).2, u, n, k, h) c ∧ Fr highM T S1 := by
  have e : ∃ z, lp_c11_rests_35 N 144 (nI r) (nI a) N (nI s0.1) (nI 0) (mk L T) = some z ∧ ∃ S1, z = (nI (tI r a s0 10).1, mk L S1) ∧ MA S1 (g, v, x, (tI r a s0 10).2, u, n, k, h) c ∧ Fr highM T S1 := by
    refine lp_inv (Lp := fun kk (s : Int32 × gS) i => lp_c11_rests_35 N 144 (nI r) (nI a) kk s.1 (nI i) (mk L s.2)) (n := 10) (P := fun i s => s.1 = nI (tI r a s0 i).1 ∧ MA s.2 (g, v, x, (tI r a s0 i).2, u, n, k, h) c ∧ Fr highM T s.2) (fun kk i s hi hs => Or.inr ?_) (fun kk s hs => ?_) 10 N 0 (nI s0.1, T) (by omega) (by omega) ⟨rfl, q, Fr.refl⟩
    · obtain ⟨s1, s⟩ := s
      obtain ⟨rfl, qs, fs⟩ := hs
      dsimp only at qs fs
      obtain ⟨o1, o2, o3⟩ := tI_ok (r := r) (x := a) ho i
      generalize hst : tI r a s0 i = st at *
      have eS : tI r a s0 (i + 1) = tS r a i st := by rw [← hst]; rfl
      show ∃ s' : Int32 × gS, lp_c11_rests_35 N 144 (nI r) (nI a) (kk + 1) (nI st.1) (nI i) (mk L s) = lp_c11_rests_35 N 144 (nI r) (nI a) kk s'.1 (nI (i + 1)) (mk L s'.2) ∧ s'.1 = nI (tI r a s0 (i + 1)).1 ∧ MA s'.2 (g, v, x, (tI r a s0 (i + 1)).2, u, n, k, h) c ∧ Fr highM T s'.2
      rw [eS, lp_c11_rests_35.eq_2, k9, ilt_f (by omega) (by omega), M_isBest ha (by omega) hr hN, Option.bind_some]
      unfold tS
      by_cases z1 : tB a i r = true
      · rw [if_pos z1, if_neg (show ¬ (1 : Int32) = 0 by decide), M_isBest (by omega) ha hr hN, Option.bind_some]
        by_cases z2 : tB i a r = true
        · rw [if_pos z2, if_neg (show ¬ (1 : Int32) = 0 by decide), if_pos (show tB a i r = true ∧ tB i a r = true from ⟨z1, z2⟩)]
          by_cases z3 : st.1 = 0
          · have l0 := o3 z3
            rw [l0] at qs
            obtain ⟨s2, e2, q2, -, f2⟩ := M_tellA (L := L) (N := N) (y := (nI a).toInt64) qs (by show 0 < 8; omega)
            obtain ⟨s3, e3, q3, -, f3⟩ := M_tellA (L := L) (N := N) (y := (nI i).toInt64) q2 (by show 1 < 8; omega)
            refine ⟨(nI (st.1 + 1), s3), ?_, rfl, ?_, highTr fs (highTr f2 f3)⟩
            · rw [iz_t z3, e2, Option.bind_some, e3, Option.bind_some, Option.bind_some, Option.bind_some, nI_1, nI_1]
            · show MA s3 (g, v, x, (if st.1 = 0 then _ else st.2), u, n, k, h) c
              rw [if_pos z3]
              exact q3
          · refine ⟨(nI (st.1 + 1), s), ?_, rfl, ?_, fs⟩
            · rw [iz_f (by omega) (by omega), Option.bind_some, Option.bind_some, nI_1, nI_1]
            · show MA s (g, v, x, (if st.1 = 0 then _ else st.2), u, n, k, h) c
              rw [if_neg z3]
              exact qs
        · rw [if_neg z2, if_pos (show (0 : Int32) = 0 from rfl), if_neg (fun f => z2 f.2)]
          exact ⟨(nI st.1, s), by rw [Option.bind_some, nI_1], rfl, qs, fs⟩
      · rw [if_neg z1, if_pos (show (0 : Int32) = 0 from rfl), if_neg (fun f => z1 f.1)]
        exact ⟨(nI st.1, s), by rw [Option.bind_some, nI_1], rfl, qs, fs⟩
    · obtain ⟨s1, s⟩ := s
      obtain ⟨rfl, qs, fs⟩ := hs
      refine ⟨_, ?_, s, rfl, qs, fs⟩
      show lp_c11_rests_35 N 144 (nI r) (nI a) (kk + 1) _ _ _ = _
      rw [lp_c11_rests_35.eq_2, k9, ilt_t (by omega) (by omega)]
  obtain ⟨z, e, S1, er, e2, e3⟩ := e
  rw [er] at e
  exact ⟨S1, e, e2, e3⟩
theorem M_rest26 {r : Nat} (q : MA T (g, v, x, [], u, n, k, h) c) (hr : r ≤ 20) (hN : 900 ≤ N) : ∃ S1, lp_c11_rests_26 N 144 (nI r) N 0 0 (mk L T) = some (nI (tO r 10).1, mk L S1) ∧ MA S1 (g, v, x, (tO r 10).2, u, n, k, h) c ∧ Fr highM T S1 := by
  have e : ∃ z, lp_c11_rests_26 N 144 (nI r) N (nI 0) (nI 0) (mk L T) = some z ∧ ∃ S1, z = (nI (tO r 10).1, mk L S1) ∧ MA S1 (g, v, x, (tO r 10).2, u, n, k, h) c ∧ Fr highM T S1 := by
    refine lp_inv (Lp := fun kk (s : Int32 × gS) i => lp_c11_rests_26 N 144 (nI r) kk s.1 (nI i) (mk L s.2)) (n := 10) (P := fun i s => s.1 = nI (tO r i).1 ∧ MA s.2 (g, v, x, (tO r i).2, u, n, k, h) c ∧ Fr highM T s.2) (fun kk i s hi hs => Or.inr ?_) (fun kk s hs => ?_) 10 N 0 (nI 0, T) (by omega) (by omega) ⟨rfl, q, Fr.refl⟩
    · obtain ⟨s1, s⟩ := s
      obtain ⟨rfl, qs, fs⟩ := hs
      dsimp only at qs fs
      obtain ⟨s2, e2, q2, f2⟩ := M_rest35 (L := L) (N := N) (a := i) qs (tO_ok (r := r) i) (by omega) hr (by omega) hN
      refine ⟨(nI (tO r (i + 1)).1, s2), ?_, rfl, q2, highTr fs f2⟩
      show lp_c11_rests_26 N 144 (nI r) (kk + 1) (nI (tO r i).1) (nI i) (mk L s) = lp_c11_rests_26 N 144 (nI r) kk (nI (tI r i (tO r i) 10).1) (nI (i + 1)) (mk L s2)
      rw [lp_c11_rests_26.eq_2, k9, ilt_f (by omega) (by omega), e2, Option.bind_some, nI_1]
    · obtain ⟨s1, s⟩ := s
      obtain ⟨rfl, qs, fs⟩ := hs
      refine ⟨_, ?_, s, rfl, qs, fs⟩
      show lp_c11_rests_26 N 144 (nI r) (kk + 1) _ _ _ = _
      rw [lp_c11_rests_26.eq_2, k9, ilt_t (by omega) (by omega)]
  obtain ⟨z, e, S1, er, e2, e3⟩ := e
  rw [er] at e
  exact ⟨S1, e, e2, e3⟩
theorem A_rests {y : Int32} (w : WA A) (q : CA S A) (m : MA S A c) (hN : 900 ≤ N) : Agr L S c (f_c10_rests N 10 y) (f_c11_rests N 144 y) := by
  obtain ⟨g, v, x, l, u, n, k, h⟩ := A
  rcases (show (y < 0 ∨ (¬ y < 0 ∧ ¬ y ≤ 20)) ∨ ∃ d, 0 ≤ d ∧ d ≤ 20 ∧ y = nI d from cas y 0 20 (by omega) (by omega)) with hy | ⟨d, -, d2, rfl⟩
  · refine AgrR w q m (r := -1) ?_ (fun T _ t1 => ?_)
    · unfold f_c10_rests
      rcases hy with hy | ⟨h1, hy⟩
      · rw [zc10, Option.bind_some, if_pos hy]
      · rw [zc10, Option.bind_some, if_neg h1, if_neg hy]
    · unfold f_c11_rests
      rw [zc144, Option.bind_some, zs144_10, Option.bind_some, M_inF (N := N) hy, Option.bind_some, if_pos rfl]
  · have c1 : ¬ nI d < 0 := nI_pos (by omega)
    have c2 : nI d ≤ 20 := nI_le (b := 20) d2 (by omega)
    have ei : ∀ T : gS, f_c11_in N (nI d) 0 20 (mk L T) = some 1 := fun T => M_inT (lo := 0) (hi := 20) (by omega) d2 (by omega)
    obtain ⟨S1, e1, q1, f1⟩ := C_clearA (L := L) (N := N) q
    obtain ⟨S2, e2, q2, f2⟩ := C_rest23 (L := L) (N := N) q1 d2 hN
    have ol := (tO_ok (r := d) 10).2.1
    refine AgrI (c' := c) m (r := nI (tO d 10).1) (S1 := S2) ?_ (lowTr f1 f2) q2 (w.rw (by omega)) (by omega) (fun T mt => ?_)
    · unfold f_c10_rests
      rw [zc10, Option.bind_some, if_neg c1, if_pos c2, zr10_1, Option.bind_some, e1, Option.bind_some, e2, Option.bind_some]
    · have t1 := mt.thr
      obtain ⟨T1, g1, t2, h1⟩ := M_rest26 (L := L) (N := N) t1.clr d2 hN
      refine ⟨T1, ?_, highTr thrH (highTr clrH h1), t2⟩
      unfold f_c11_rests
      rw [zc144, Option.bind_some, zs144_10, Option.bind_some, ei, Option.bind_some, if_neg (show ¬ (1 : Int32) = 0 by decide), zs144_9, Option.bind_some, g1, Option.bind_some]
end RESTS
