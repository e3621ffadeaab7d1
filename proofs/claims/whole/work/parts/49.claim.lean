/-! THE REFERENCE'S WAY THROUGH A RULE against the class's -/
def cLt (c : Nat) : Nat := if c = 119 then 0 else if c = 100 then 1 else if c = 97 then 2 else if c = 109 then 3 else if c = 118 then 4 else if c = 108 then 5 else 6
theorem M_letter_t {N c : Nat} {h : gH} (hc : cThing c = true) : f_c11_letterOf N (nI c) h = some (nI (cLt c)) ∧ cLt c < 7 ∧ ∀ ask : Nat → Int32, pThing ask (nI c) = ask (cLt c) := by
  have h1 := of_decide_eq_true hc
  rcases h1 with rfl | rfl | rfl | rfl | rfl | rfl | rfl
  all_goals exact ⟨by unfold f_c11_letterOf cLt; decide, by decide, fun ask => by unfold pThing cLt; rfl⟩
theorem M_letter_f {N c : Nat} {h : gH} (hc : cThing c = false) (h2 : c < 256) : f_c11_letterOf N (nI c) h = some (-1) := by
  have h1 := of_decide_eq_false hc
  unfold f_c11_letterOf
  rw [k119, k100, k97, k109, k118, k108, k110, if_neg (fun z => h1 (by have := (nI_eq (by omega) (by omega)).mp z; omega)), if_neg (fun z => h1 (by have := (nI_eq (by omega) (by omega)).mp z; omega)), if_neg (fun z => h1 (by have := (nI_eq (by omega) (by omega)).mp z; omega)), if_neg (fun z => h1 (by have := (nI_eq (by omega) (by omega)).mp z; omega)), if_neg (fun z => h1 (by have := (nI_eq (by omega) (by omega)).mp z; omega)), if_neg (fun z => h1 (by have := (nI_eq (by omega) (by omega)).mp z; omega)), if_neg (fun z => h1 (by have := (nI_eq (by omega) (by omega)).mp z; omega))]
theorem M_letter_m {N : Nat} {h : gH} : f_c11_letterOf N (-1) h = some (-1) := by unfold f_c11_letterOf; decide
theorem M_in_dig_t {N c : Nat} {h : gH} (h1 : 48 ≤ c) (h2 : c ≤ 57) : f_c11_in N (nI c) (nI 48) (nI 57) h = some 1 := M_in_t (nI_nlt (by omega) (by omega)) (nI_nlt (by omega) (by omega))
theorem M_in_dig_f {N c : Nat} {h : gH} (h1 : c < 48 ∨ 57 < c) (h2 : c < 1000) : f_c11_in N (nI c) (nI 48) (nI 57) h = some 0 :=
  M_in_n (h1.elim (fun q => Or.inl (nI_lt q (by omega))) (fun q => Or.inr (nI_lt (by omega) (by omega))))
theorem M_in_dig_m {N : Nat} {h : gH} : f_c11_in N (-1) (nI 48) (nI 57) h = some 0 := M_in_l (by decide)
theorem m1_40 : ((-1 : Int32) = nI 40) = False := by decide
def Po (ask : Nat → Int32) (t : Nat → Nat) (n kind p' deep : Nat) (c : List Int32) (pend : List Nat) (m m' : Nat → Bool) (d' : Nat) (v : Int32) : Prop :=
  (∀ x, x ∈ pend → kind + 1 ≤ cRank x) ∧ (∀ st, pev ask (c.reverse ++ pend.map cNeg) st = some (v :: st)) ∧ (∀ j, j < deep → m' j = m j) ∧ (kind ≠ 0 → m' deep = m deep) ∧ (d' = 0 ∨ 2 < d' ∨ ¬ (p' < n ∧ cDig (t p') = true)) ∧ (kind ≤ 2 → p' < n → t p' ≠ 42 ∧ t p' ≠ 47) ∧ (kind ≤ 1 → p' < n → t p' ≠ 43 ∧ t p' ≠ 45) ∧ (kind = 0 → m' deep = true ∨ (p' < n → t p' ≠ 60 ∧ t p' ≠ 61 ∧ t p' ≠ 62))
def Res (L : Nat) (S : gS) (t : Nat → Nat) (n : Nat) (over : Bool) (ask : Nat → Int32) (o : Option (Int32 × gH)) (kind p deep : Nat) (O : List Int32) (W : List Nat) (m : Nat → Bool) (d : Nat) : Prop :=
  (∃ (v x : Int32) (q : Nat), o = some (v, mk L (ms S x (nI q))) ∧ q ≤ n ∧ cFin t over p (n - p) (O, W, deep, m, d, true) = .inr q) ∨
  (∃ (v : Int32) (p' : Nat) (c : List Int32) (pend : List Nat) (m' : Nat → Bool) (d' : Nat), o = some (v, mk L (ms S (nI p') (-1))) ∧ p < p' ∧ p' ≤ n ∧ cFin t over p (n - p) (O, W, deep, m, d, true) = cFin t over p' (n - p') (c ++ O, pend ++ W, deep, m', d', false) ∧ Po ask t n kind p' deep c pend m m' d' v)
def Cl (L : Nat) (S : gS) (t : Nat → Nat) (n : Nat) (over : Bool) (ask : Nat → Int32) (N : Nat) : Prop :=
  ∀ (kind p deep : Nat) (O : List Int32) (W : List Nat) (m : Nat → Bool) (d : Nat), kind ≤ 3 → p ≤ n → deep ≤ 4 → 4 * (n - p) + (4 - kind) ≤ N → (kind ≠ 3 → cLow (kind + 1) W) → (kind = 0 → m deep = false) → Res L S t n over ask (F_rule N kind 144 (nI deep) (mk L (ms S (nI p) (-1)))) kind p deep O W m d
theorem cStep_f {O : List Int32} {W : List Nat} {n d c : Nat} {m : Nat → Bool} : cStep (O, W, n, m, d, false) c = if cDig c = true then (if d < 1 ∨ 2 < d then none else match O with | x :: O' => some ((x * 10 + nI (c - 48)) :: O', W, n, m, d + 1, false) | [] => none) else if c = 41 then (if n < 1 then none else some ((cRel 1 W O).1, (cRel 1 W O).2.tail, n - 1, m, 0, false)) else if cRank c = 0 then none else if cRank c = 1 ∧ m n = true then none else some ((cRel (cRank c) W O).1, c :: (cRel (cRank c) W O).2, n, (if cRank c = 1 then (fun j => if j = n then true else m j) else m), 0, true) := rfl
section CLAIM
variable {L N id len : Nat} {S : gS} {t : Nat → Nat} {over : Bool} {ask : Nat → Int32}
/-- a number's further digits -/
theorem T_num (h : RC S id len 40 t) : ∀ (e k j v p : Nat) (O : List Int32) (W : List Nat) (deep : Nat) (m : Nat → Bool), j + e = 3 → e < k → 1 ≤ j → v < 10 ^ j → p ≤ min len 40 →
    ∃ (v' p' d' : Nat), lp_c11_number_11 N 144 (nI 3) k (nI v) (nI j) (mk L (ms S (nI p) (-1))) = some (nI v', mk L (ms S (nI p') (-1))) ∧ p ≤ p' ∧ p' ≤ min len 40 ∧ v' < 1000 ∧ cFin t over p (min len 40 - p) (nI v :: O, W, deep, m, j, false) = cFin t over p' (min len 40 - p') (nI v' :: O, W, deep, m, d', false) ∧ (2 < d' ∨ ¬ (p' < min len 40 ∧ cDig (t p') = true)) := by
  intro e
  induction e with
  | zero =>
    intro k j v p O W deep m hj hk h1 hv hp
    obtain ⟨k, rfl⟩ : ∃ i, k = i + 1 := ⟨k - 1, by omega⟩
    obtain rfl : j = 3 := by omega
    refine ⟨v, p, 3, ?_, Nat.le_refl _, hp, by omega, rfl, Or.inl (by omega)⟩
    rw [lp_c11_number_11.eq_2]
    simp (disch := omega) only [Option.bind_some, ↓ile_t, ↓ile_f, ↓ilt_t, ↓ilt_f, ↓ieq_t, ↓ieq_f, ↓iz_t, ↓iz_f, ↓iltz, ↓izle, ↓ilez_t, ↓ilez_f, ↓im1, gZ_0, gZ_1, e10, e00, ↓reduceIte, Sum.elim_inl, Sum.elim_inr, nI_1, nI_add, Int32.sub_zero, ]
  | succ e ih =>
    intro k j v p O W deep m hj hk h1 hv hp
    obtain ⟨k, rfl⟩ : ∃ i, k = i + 1 := ⟨k - 1, by omega⟩
    rw [lp_c11_number_11.eq_2]
    have hlen := h.2.2.2.1
    by_cases z : p < min len 40
    · have ht := (h.2.2.2.2.2.2.2 p (by omega)).1
      by_cases y : 48 ≤ t p ∧ t p ≤ 57
      · have hv2 : 10 * v + (t p - 48) < 10 ^ (j + 1) := by
          rw [Nat.pow_succ]; omega
        obtain ⟨v', p', d', e1, e2, e3, e4, e5, e6⟩ := ih k (j + 1) (10 * v + (t p - 48)) (p + 1) O W deep m (by omega) (by omega) (by omega) hv2 (by omega)
        refine ⟨v', p', d', ?_, by omega, e3, e4, ?_, e6⟩
        · simp (disch := omega) only [Option.bind_some, ↓ile_t, ↓ile_f, ↓ilt_t, ↓ilt_f, ↓ieq_t, ↓ieq_f, ↓iz_t, ↓iz_f, ↓iltz, ↓izle, ↓ilez_t, ↓ilez_f, ↓im1, gZ_0, gZ_1, e10, e00, ↓reduceIte, Sum.elim_inl, Sum.elim_inr, nI_1, nI_add, Int32.sub_zero, M_fine_t, M_here_t h z, k48, k57, k10, M_in_dig_t y.1 y.2, M_oneOf_t h z y.1 (m := 10), nI_mul, e1]
        · rw [← e5]
          refine cFin_s z ?_
          show (if cDig (t p) = true then (if j < 1 ∨ 2 < j then none else some ((nI v * 10 + nI (t p - 48)) :: O, W, deep, m, j + 1, false)) else _) = _
          rw [if_pos (cDig_t y), if_neg (by omega), k10, nI_mul, nI_add, Nat.mul_comm]
      · refine ⟨v, p, j, ?_, Nat.le_refl _, hp, ?_, rfl, Or.inr ?_⟩
        · simp (disch := omega) only [Option.bind_some, ↓ile_t, ↓ile_f, ↓ilt_t, ↓ilt_f, ↓ieq_t, ↓ieq_f, ↓iz_t, ↓iz_f, ↓iltz, ↓izle, ↓ilez_t, ↓ilez_f, ↓im1, gZ_0, gZ_1, e10, e00, ↓reduceIte, Sum.elim_inl, Sum.elim_inr, nI_1, nI_add, Int32.sub_zero, M_fine_t, M_here_t h z, k48, k57, k10, M_in_dig_f (c := t p) (by omega) (by omega)]
        · have : 10 ^ j ≤ 10 ^ 3 := Nat.pow_le_pow_right (by omega) (by omega)
          omega
        · rintro ⟨-, q⟩
          rw [cDig_f y] at q
          cases q
    · refine ⟨v, p, j, ?_, Nat.le_refl _, hp, ?_, rfl, Or.inr (fun q => z q.1)⟩
      · simp (disch := omega) only [Option.bind_some, ↓ile_t, ↓ile_f, ↓ilt_t, ↓ilt_f, ↓ieq_t, ↓ieq_f, ↓iz_t, ↓iz_f, ↓iltz, ↓izle, ↓ilez_t, ↓ilez_f, ↓im1, gZ_0, gZ_1, e10, e00, ↓reduceIte, Sum.elim_inl, Sum.elim_inr, nI_1, nI_add, Int32.sub_zero, M_fine_t, M_here_f (p := p) h (by omega) (by omega), k48, k57, k10, M_in_dig_m]
      · have : 10 ^ j ≤ 10 ^ 3 := Nat.pow_le_pow_right (by omega) (by omega)
        omega
theorem T_number {p : Nat} {O : List Int32} {W : List Nat} {deep : Nat} {m : Nat → Bool} {d : Nat} (h : RC S id len 40 t) (hp : p < min len 40) (y : 48 ≤ t p ∧ t p ≤ 57) (hN : 3 ≤ N) :
    ∃ (v' p' d' : Nat), f_c11_number N 144 (nI 3) (mk L (ms S (nI p) (-1))) = some (nI v', mk L (ms S (nI p') (-1))) ∧ p < p' ∧ p' ≤ min len 40 ∧ v' < 1000 ∧ cFin t over p (min len 40 - p) (O, W, deep, m, d, true) = cFin t over p' (min len 40 - p') (nI v' :: O, W, deep, m, d', false) ∧ (2 < d' ∨ ¬ (p' < min len 40 ∧ cDig (t p') = true)) := by
  have ht := (h.2.2.2.2.2.2.2 p (by omega)).1
  obtain ⟨v', p', d', e1, e2, e3, e4, e5, e6⟩ := T_num (L := L) (N := N) (over := over) h 2 N 1 (t p - 48) (p + 1) O W deep m (by omega) (by omega) (by omega) (by omega) (by omega)
  refine ⟨v', p', d', ?_, by omega, e3, e4, ?_, e6⟩
  · have e1' : lp_c11_number_11 N 144 (nI 3) N (nI (t p - 48)) 1 (mk L (ms S (nI (p + 1)) (-1))) = some (nI v', mk L (ms S (nI p') (-1))) := e1
    simp (disch := omega) only [Option.bind_some, ↓ile_t, ↓ile_f, ↓ilt_t, ↓ilt_f, ↓ieq_t, ↓ieq_f, ↓iz_t, ↓iz_f, ↓iltz, ↓izle, ↓ilez_t, ↓ilez_f, ↓im1, gZ_0, gZ_1, e10, e00, ↓reduceIte, Sum.elim_inl, Sum.elim_inr, nI_1, nI_add, Int32.sub_zero, f_c11_number, zc144, k48, k10, M_oneOf_t h hp y.1 (m := 10), e1']
  · rw [← e5]
    refine cFin_s hp ?_
    show (if t p = 45 then _ else if t p = 40 then _ else if cDig (t p) = true then some (nI (t p - 48) :: O, W, deep, m, 1, false) else _) = _
    rw [if_neg (by omega), if_neg (by omega), if_pos (cDig_t y)]
def AskOk (S : gS) (ask : Nat → Int32) : Prop := (S.1 144 20 = 1 ∧ ∀ k, k < 7 → S.1 153 k = ask k) ∨ (S.1 144 20 = 0 ∧ ask = fun _ => 0)
theorem T_thing {p deep : Nat} {O : List Int32} {W : List Nat} {m : Nat → Bool} {d : Nat} (h : RC S id len 40 t) (ha : AskOk S ask) (hp : p ≤ min len 40) (hd : deep ≤ 4) (hN : 4 * (min len 40 - p) ≤ N)
    (ih : Cl L S t (min len 40) over ask N) : Res L S t (min len 40) over ask (b_fn_c11_thing N (F_rule N) 144 (nI deep) (mk L (ms S (nI p) (-1)))) 3 p deep O W m d := by
  have hlen := h.2.2.2.1
  by_cases z : p < min len 40
  · have ht := (h.2.2.2.2.2.2.2 p (by omega)).1
    by_cases y45 : t p = 45
    · -- a minus ahead of a thing
      have e0 : cFin t over p (min len 40 - p) (O, W, deep, m, d, true) = cFin t over (p + 1) (min len 40 - (p + 1)) (O, 256 :: W, deep, m, d, true) := cFin_s z (by show (if t p = 45 then _ else _) = _; rw [if_pos y45])
      rcases ih 3 (p + 1) deep O (256 :: W) m d (by omega) (by omega) hd (by omega) (fun q => absurd rfl q) (fun q => by omega) with ⟨v, x, q, e1, e2, e3⟩ | ⟨v, p', c, pend, m', d', e1, e2, e3, e4, q1, q2, q3, q4, q5, q6⟩
      · refine Or.inl ⟨-v, x, q, ?_, e2, by rw [e0]; exact e3⟩
        unfold b_fn_c11_thing
        simp (disch := omega) only [Option.bind_some, ↓ile_t, ↓ile_f, ↓ilt_t, ↓ilt_f, ↓ieq_t, ↓ieq_f, ↓iz_t, ↓iz_f, ↓iltz, ↓izle, ↓ilez_t, ↓ilez_f, ↓im1, gZ_0, gZ_1, e10, e00, ↓reduceIte, Sum.elim_inl, Sum.elim_inr, nI_1, nI_add, Int32.sub_zero, zc144, k45, M_passes_t h z y45, e1]
      · refine Or.inr ⟨-v, p', c, pend ++ [256], m', d', ?_, by omega, e3, ?_, ?_, ?_, q3, q4, q5, fun q => by omega, fun q => by omega, fun q => by omega⟩
        · unfold b_fn_c11_thing
          simp (disch := omega) only [Option.bind_some, ↓ile_t, ↓ile_f, ↓ilt_t, ↓ilt_f, ↓ieq_t, ↓ieq_f, ↓iz_t, ↓iz_f, ↓iltz, ↓izle, ↓ilez_t, ↓ilez_f, ↓im1, gZ_0, gZ_1, e10, e00, ↓reduceIte, Sum.elim_inl, Sum.elim_inr, nI_1, nI_add, Int32.sub_zero, zc144, k45, M_passes_t h z y45, e1]
        · rw [e0, e4, List.append_assoc]; rfl
        · intro x hx
          rcases List.mem_append.mp hx with hx | hx
          · exact q1 x hx
          · rw [List.mem_singleton.mp hx]; decide
        · intro st
          rw [List.map_append, ← List.append_assoc, pev_app, q2]
          show (pst ask (cNeg 256) (v :: st)).bind (fun s => some s) = _
          rw [pNEG]
          rfl
    · by_cases y40 : t p = 40
      · by_cases y4 : deep < 4
        · -- a bracket
          have e0 : cFin t over p (min len 40 - p) (O, W, deep, m, d, true) = cFin t over (p + 1) (min len 40 - (p + 1)) (O, 40 :: W, deep + 1, (fun j => if j = deep + 1 then false else m j), d, true) := cFin_s z (by show (if t p = 45 then _ else if t p = 40 then (if deep < 4 then _ else _) else _) = _; rw [if_neg y45, if_pos y40, if_pos y4])
          rcases ih 0 (p + 1) (deep + 1) O (40 :: W) (fun j => if j = deep + 1 then false else m j) d (by omega) (by omega) (by omega) (by omega) (fun _ => by show cRank 40 < 1; decide) (fun _ => if_pos rfl) with ⟨v, x, q, e1, e2, e3⟩ | ⟨v, p', c, pend, m', d', e1, e2, e3, e4, q1, q2, q3, q4, q5, q6, q7, q8⟩
          · refine Or.inl ⟨v, x, q, ?_, e2, by rw [e0]; exact e3⟩
            have e5 : f_c11_need N 144 (nI 41) (mk L (ms S x (nI q))) = some (mk L (ms S x (nI q))) := by
              simp (disch := omega) only [Option.bind_some, ↓ile_t, ↓ile_f, ↓ilt_t, ↓ilt_f, ↓ieq_t, ↓ieq_f, ↓iz_t, ↓iz_f, ↓iltz, ↓izle, ↓ilez_t, ↓ilez_f, ↓im1, gZ_0, gZ_1, e10, e00, ↓reduceIte, Sum.elim_inl, Sum.elim_inr, nI_1, nI_add, Int32.sub_zero, f_c11_need, zc144, M_passes_f (L := L) (N := N) (S := S) (q := q) (w := x) (x := nI 41) (by omega), zi144_14, M_fault_f (L := L) (N := N) (S := S) (q := q) (w := x) (by omega)]
            unfold b_fn_c11_thing
            simp (disch := omega) only [Option.bind_some, ↓ile_t, ↓ile_f, ↓ilt_t, ↓ilt_f, ↓ieq_t, ↓ieq_f, ↓iz_t, ↓iz_f, ↓iltz, ↓izle, ↓ilez_t, ↓ilez_f, ↓im1, gZ_0, gZ_1, e10, e00, ↓reduceIte, Sum.elim_inl, Sum.elim_inr, nI_1, nI_add, Int32.sub_zero, zc144, k45, M_passes_n h (by omega) (fun _ => y45), M_fine_t, M_here_t h z, y40, k40, k4, zi144_14, zs144_14, ms_p, ms_14, e1, k41, e5]
          · have hC : cFin t over p' (min len 40 - p') (c ++ O, pend ++ 40 :: W, deep + 1, m', d', false) = cFin t over p (min len 40 - p) (O, W, deep, m, d, true) := by rw [e0, e4]
            by_cases y41 : p' < min len 40 ∧ t p' = 41
            · refine Or.inr ⟨v, p' + 1, (pend.map cNeg).reverse ++ c, [], m', 0, ?_, by omega, by omega, ?_, ?_, ?_, ?_, ?_, Or.inl rfl, fun q => by omega, fun q => by omega, fun q => by omega⟩
              · unfold b_fn_c11_thing
                simp (disch := omega) only [Option.bind_some, ↓ile_t, ↓ile_f, ↓ilt_t, ↓ilt_f, ↓ieq_t, ↓ieq_f, ↓iz_t, ↓iz_f, ↓iltz, ↓izle, ↓ilez_t, ↓ilez_f, ↓im1, gZ_0, gZ_1, e10, e00, ↓reduceIte, Sum.elim_inl, Sum.elim_inr, nI_1, nI_add, Int32.sub_zero, zc144, k45, M_passes_n h (by omega) (fun _ => y45), M_fine_t, M_here_t h z, y40, k40, k4, zi144_14, zs144_14, ms_p, ms_14, e1, k41, M_need_t h y41.1 y41.2]
              · rw [← hC]
                refine cFin_s y41.1 ?_
                rw [cStep_f, y41.2, if_neg (by decide), if_pos rfl, if_neg (by omega), cRel_low (k := 1) (W := 40 :: W) (by show cRank 40 < 1; decide) pend (c ++ O) q1, ← List.append_assoc]
                rfl
              · intro x hx; cases hx
              · intro st
                rw [List.reverse_append, List.reverse_reverse]
                show pev ask ((c.reverse ++ pend.map cNeg) ++ []) st = _
                rw [List.append_nil]
                exact q2 st
              · intro j hj
                rw [q3 j (by omega)]
                exact if_neg (by omega)
              · intro _
                rw [q3 deep (by omega)]
                exact if_neg (by omega)
            · refine Or.inl ⟨v, nI p', p', ?_, e3, ?_⟩
              · unfold b_fn_c11_thing
                simp (disch := omega) only [Option.bind_some, ↓ile_t, ↓ile_f, ↓ilt_t, ↓ilt_f, ↓ieq_t, ↓ieq_f, ↓iz_t, ↓iz_f, ↓iltz, ↓izle, ↓ilez_t, ↓ilez_f, ↓im1, gZ_0, gZ_1, e10, e00, ↓reduceIte, Sum.elim_inl, Sum.elim_inr, nI_1, nI_add, Int32.sub_zero, zc144, k45, M_passes_n h (by omega) (fun _ => y45), M_fine_t, M_here_t h z, y40, k40, k4, zi144_14, zs144_14, ms_p, ms_14, e1, k41, M_need_n (c := 41) h (show p' < 1000 by omega) (fun q1 q2 => y41 ⟨q1, q2⟩) (by omega)]
              · rw [← hC]
                by_cases z' : p' < min len 40
                · refine cFin_n z' ?_
                  have ht' := (h.2.2.2.2.2.2.2 p' (by omega)).1
                  have n41 : t p' ≠ 41 := fun q => y41 ⟨z', q⟩
                  have h6 := q6 (by omega) z'
                  have h7 := q7 (by omega) z'
                  have h8 := q8 rfl
                  rw [cStep_f]
                  by_cases yd : cDig (t p') = true
                  · rw [if_pos yd, if_pos (by rcases q5 with q5 | q5 | q5; exact Or.inl (by omega); exact Or.inr q5; exact absurd ⟨z', yd⟩ q5)]
                  · rw [if_neg yd, if_neg n41]
                    by_cases yr : t p' = 60 ∨ t p' = 61 ∨ t p' = 62
                    · have hm : m' (deep + 1) = true := h8.resolve_right (fun q => by have := q z'; omega)
                      have hr : cRank (t p') = 1 := by unfold cRank; rw [if_pos yr]
                      rw [hr, if_neg (by decide), if_pos ⟨rfl, hm⟩]
                    · have hr : cRank (t p') = 0 := by unfold cRank; rw [if_neg yr, if_neg (by omega), if_neg (by omega), if_neg (by omega)]
                      rw [if_pos hr]
                · obtain rfl : p' = min len 40 := by omega
                  exact cFin_e (Or.inr (by show 0 < deep + 1; omega))
        · -- too deep
          refine Or.inl ⟨0, nI p, p, ?_, hp, cFin_n z ?_⟩
          · have hl : cThing 40 = false := by decide
            unfold b_fn_c11_thing
            simp (disch := omega) only [Option.bind_some, ↓ile_t, ↓ile_f, ↓ilt_t, ↓ilt_f, ↓ieq_t, ↓ieq_f, ↓iz_t, ↓iz_f, ↓iltz, ↓izle, ↓ilez_t, ↓ilez_f, ↓im1, gZ_0, gZ_1, e10, e00, ↓reduceIte, Sum.elim_inl, Sum.elim_inr, nI_1, nI_add, Int32.sub_zero, zc144, k45, M_passes_n h (by omega) (fun _ => y45), M_fine_t, M_here_t h z, y40, k40, k4, k48, k57, M_in_dig_f (c := 40) (by omega) (by omega), M_letter_f hl, eq_self_iff_true, zi144_14, ms_p, M_fault_t]
          · show (if t p = 45 then _ else if t p = 40 then (if deep < 4 then _ else none) else _) = _
            rw [if_neg y45, if_pos y40, if_neg y4]
      · by_cases yd : 48 ≤ t p ∧ t p ≤ 57
        · -- a number
          obtain ⟨v', p', d', e1, e2, e3, e4, e5, e6⟩ := T_number (L := L) (N := N) (O := O) (W := W) (deep := deep) (m := m) (d := d) (over := over) h z yd (by omega)
          refine Or.inr ⟨nI v', p', [nI v'], [], m, d', ?_, e2, e3, ?_, ?_, ?_, fun _ _ => rfl, fun _ => rfl, Or.inr e6, fun q => by omega, fun q => by omega, fun q => by omega⟩
          · unfold b_fn_c11_thing
            simp (disch := omega) only [Option.bind_some, ↓ile_t, ↓ile_f, ↓ilt_t, ↓ilt_f, ↓ieq_t, ↓ieq_f, ↓iz_t, ↓iz_f, ↓iltz, ↓izle, ↓ilez_t, ↓ilez_f, ↓im1, gZ_0, gZ_1, e10, e00, ↓reduceIte, Sum.elim_inl, Sum.elim_inr, nI_1, nI_add, Int32.sub_zero, zc144, k45, M_passes_n h (by omega) (fun _ => y45), M_fine_t, M_here_t h z, k40, k48, k57, M_in_dig_t yd.1 yd.2, k3, e1]
          · rw [e5]; rfl
          · intro x hx; cases hx
          · intro st
            show (pst ask (nI v') st).bind (fun s => some s) = _
            rw [pNum (by omega)]
            rfl
        · by_cases yl : cThing (t p) = true
          · -- a letter
            obtain ⟨l1, l2, l3⟩ := M_letter_t (N := N) (h := mk L (ms S (nI p) (-1))) yl
            have l1' := (M_letter_t (N := N) (h := mk L (ms S (nI (p + 1)) (-1))) yl).1
            refine Or.inr ⟨ask (cLt (t p)), p + 1, [cNeg (t p)], [], m, 0, ?_, by omega, by omega, ?_, ?_, ?_, fun _ _ => rfl, fun _ => rfl, Or.inl rfl, fun q => by omega, fun q => by omega, fun q => by omega⟩
            · rcases ha with ⟨a1, a2⟩ | ⟨a1, a2⟩
              · unfold b_fn_c11_thing
                simp (disch := omega) only [Option.bind_some, ↓ile_t, ↓ile_f, ↓ilt_t, ↓ilt_f, ↓ieq_t, ↓ieq_f, ↓iz_t, ↓iz_f, ↓iltz, ↓izle, ↓ilez_t, ↓ilez_f, ↓im1, gZ_0, gZ_1, e10, e00, ↓reduceIte, Sum.elim_inl, Sum.elim_inr, nI_1, nI_add, Int32.sub_zero, zc144, k45, M_passes_n h (by omega) (fun _ => y45), M_fine_t, M_here_t h z, k40, k48, k57, M_in_dig_f (c := t p) (by omega) (by omega), l1, l1', zi144_14, zs144_14, ms_p, ms_14, zi144_20, ms_o, a1, zr144_21, zg153, a2]
              · unfold b_fn_c11_thing
                simp (disch := omega) only [Option.bind_some, ↓ile_t, ↓ile_f, ↓ilt_t, ↓ilt_f, ↓ieq_t, ↓ieq_f, ↓iz_t, ↓iz_f, ↓iltz, ↓izle, ↓ilez_t, ↓ilez_f, ↓im1, gZ_0, gZ_1, e10, e00, ↓reduceIte, Sum.elim_inl, Sum.elim_inr, nI_1, nI_add, Int32.sub_zero, zc144, k45, M_passes_n h (by omega) (fun _ => y45), M_fine_t, M_here_t h z, k40, k48, k57, M_in_dig_f (c := t p) (by omega) (by omega), l1, l1', zi144_14, zs144_14, ms_p, ms_14, zi144_20, ms_o, a1, a2]
            · refine cFin_s z ?_
              show (if t p = 45 then _ else if t p = 40 then _ else if cDig (t p) = true then _ else if cThing (t p) = true then some (cNeg (t p) :: O, W, deep, m, 0, false) else _) = _
              rw [if_neg y45, if_neg y40, if_neg (by rw [cDig_f yd]; decide), if_pos yl]
              rfl
            · intro x hx; cases hx
            · intro st
              show (pst ask (cNeg (t p)) st).bind (fun s => some s) = _
              rw [pTH yl, l3]
              rfl
          · -- no thing
            have yl := Bool.eq_false_iff.mpr yl
            refine Or.inl ⟨0, nI p, p, ?_, hp, cFin_n z ?_⟩
            · unfold b_fn_c11_thing
              simp (disch := omega) only [Option.bind_some, ↓ile_t, ↓ile_f, ↓ilt_t, ↓ilt_f, ↓ieq_t, ↓ieq_f, ↓iz_t, ↓iz_f, ↓iltz, ↓izle, ↓ilez_t, ↓ilez_f, ↓im1, gZ_0, gZ_1, e10, e00, ↓reduceIte, Sum.elim_inl, Sum.elim_inr, nI_1, nI_add, Int32.sub_zero, zc144, k45, M_passes_n h (by omega) (fun _ => y45), M_fine_t, M_here_t h z, k40, k4, k48, k57, M_in_dig_f (c := t p) (by omega) (by omega), M_letter_f yl, eq_self_iff_true, zi144_14, ms_p, M_fault_t]
            · show (if t p = 45 then _ else if t p = 40 then _ else if cDig (t p) = true then _ else if cThing (t p) = true then _ else none) = _
              rw [if_neg y45, if_neg y40, if_neg (by rw [cDig_f yd]; decide), if_neg (by rw [yl]; decide)]
  · obtain rfl : p = min len 40 := by omega
    refine Or.inl ⟨0, nI (min len 40), min len 40, ?_, hp, cFin_e (Or.inl rfl)⟩
    unfold b_fn_c11_thing
    simp (disch := omega) only [Option.bind_some, ↓ile_t, ↓ile_f, ↓ilt_t, ↓ilt_f, ↓ieq_t, ↓ieq_f, ↓iz_t, ↓iz_f, ↓iltz, ↓izle, ↓ilez_t, ↓ilez_f, ↓im1, gZ_0, gZ_1, e10, e00, ↓reduceIte, Sum.elim_inl, Sum.elim_inr, nI_1, nI_add, Int32.sub_zero, zc144, k45, M_passes_n (c := 45) h (show min len 40 < 1000 by omega) (fun q => absurd q (by omega)), M_fine_t, M_here_f h (Nat.le_refl _) (show min len 40 < 1000 by omega), k40, m1_40, k48, k57, M_in_dig_m, M_letter_m, eq_self_iff_true, zi144_14, ms_p, M_fault_t]
end CLAIM
