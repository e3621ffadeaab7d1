/-! CALLS: year: one act -/
section YEARO
variable {L N : Nat} {S T X : gS} {c : Nat} {g : pG} {v v0 v' : pV} {x x' : pX} {l : List Int64} {u : pX} {n : pN} {k : Nat → Option pV} {h : pH} {A : pA} {code : List Int32}
def yFd (g : pG) (x : pX) (p : Nat) : Nat := (x.2 (p + 1) - 48) * gCo g + (x.2 (p + 2) - 48)
def yMk (x : pX) (p : Nat) : Nat := if x.2 (p + 4) = 46 then 1 else 0
def yAct (code : List Int32) (g : pG) (v : pV) (x : pX) (p : Nat) : Option pV :=
  if x.2 p = 97 then (if x.2 (p + 1) - 48 < vN v ∧ vA v (x.2 (p + 1) - 48) < 9 then some (vSetA v (x.2 (p + 1) - 48) (vA v (x.2 (p + 1) - 48) + 1)) else none)
  else if x.2 p = 99 then (if x.2 (p + 1) - 48 < vN v ∧ 0 < vA v (x.2 (p + 1) - 48) then some (vSetA v (x.2 (p + 1) - 48) 0) else none)
  else if x.2 p = 100 then (if x.2 (p + 1) - 48 < vN v ∧ x.2 (p + 2) - 48 ≤ vT v (x.2 (p + 1) - 48) then some (vSetT v (x.2 (p + 1) - 48) (vT v (x.2 (p + 1) - 48) - (x.2 (p + 2) - 48))) else none)
  else if x.2 p = 110 then some (vSeas code g v (x.2 (p + 1) - 48))
  else if x.2 p = 115 then (if (x.2 (p + 1) - 48 < gRw g ∧ x.2 (p + 2) - 48 < gCo g) ∧ sOn v (yFd g x p) = none ∧ vN v < 8 then some (vAdd v (yFd g x p) (x.2 (p + 3) - 48) (yMk x p)) else none)
  else (if x.2 (p + 1) - 48 < vN v then some (vSetM v (x.2 (p + 1) - 48) (1 - vM v (x.2 (p + 1) - 48))) else none)
theorem C_dg_ex {i : Nat} (ct : CT S x) (hx : XOk x 80) (hi : i < 1000) : ∃ y, f_c8_digit N 11 (nI i) (nI 60) (mk L S) = some y := by
  by_cases y : i < x.1 ∧ i < 60 ∧ 48 ≤ x.2 i ∧ x.2 i ≤ 57
  · exact ⟨_, C_dgc_t (cap := 60) ct hx y.1 y.2.1 (by omega) y.2.2.1 y.2.2.2⟩
  · exact ⟨_, C_dgc_f (cap := 60) ct hx (fun a b => by omega) hi (by omega)⟩
theorem C_dg48 {i c : Nat} (ct : CT S x) (hx : XOk x 80) (hy : ySt x i c) (hc : c = 48 ∨ c = 49) : f_c8_digit N 11 (nI i) (nI 60) (mk L S) = some (nI (x.2 i - 48)) ∧ i < min x.1 60 ∧ c ≤ x.2 i ∧ x.2 i ≤ 57 := by
  rcases hy.2 with ⟨y, -⟩ | ⟨-, y1, y2⟩
  · omega
  · have h1 := hy.1
    exact ⟨C_dgc_t (cap := 60) ct hx (by omega) (by omega) (by omega) (by omega) y2, h1, y1, y2⟩
theorem C_fieldAt_f2 {r : Nat} {y : Int32} (cg : CG S g) (wg : WG g) (hr : gRw g ≤ r) (hr2 : r < 1000) : f_c1_fieldAt N 15 (nI r) y (mk L S) = some (-1) := by
  have h1 := wg.2.1
  unfold f_c1_fieldAt
  rw [zc15, Option.bind_some, iltz (by omega), zi15_0, Option.bind_some, cg.1, ile_t hr (by omega), Option.bind_some, i00, Option.bind_some]
theorem yMk_le {p : Nat} : yMk x p ≤ 1 := by unfold yMk; split <;> omega
theorem nI_0le {a : Nat} (h : a < 2147483648) : (0 : Int32) ≤ nI a := nI_le (a := 0) (by omega) h
theorem i0le {α : Type} {A B : α} {a : Nat} (h : a < 2147483648) : (if (0 : Int32) ≤ nI a then A else B) = A := if_pos (nI_0le h)
theorem sumN_99 {f : Nat → Nat} : ∀ n, (∀ i, i < n → f i ≤ 99) → sumN f n ≤ 99 * n := by
  intro n
  induction n with
  | zero => exact fun _ => Nat.zero_le _
  | succ n ih =>
    intro hf
    have h1 := ih (fun i hi => hf i (by omega))
    have h2 := hf n (by omega)
    show sumN f n + f n ≤ _
    omega
/-- what an act may come to, for both sides -/
def yRes (code : List Int32) (g : pG) (v : pV) (x : pX) (p : Nat) (P : pV → Prop) (ok no : Prop) : Prop := (∃ v', yAct code g v x p = some v' ∧ ok ∧ WV g v' ∧ P v') ∨ (yAct code g v x p = none ∧ no ∧ P v)
theorem C_act {p : Nat} (q : CA S (g, v, x, l, u, n, k, h)) (w : WA (g, v, x, l, u, n, k, h)) (hc : ruleCode u.2 u.1 = .inl code) (hp : acOk x p) (hN : 900 ≤ N) : ∃ S' r, f_c10_act N 10 (nI p) (mk L S) = some (r, mk L S') ∧ Fr (pS 19) S S' ∧ yRes code g v x p (fun v' => CA S' (g, v', x, l, u, n, k, h)) (0 ≤ r) (¬ 0 ≤ r) := by
  have wg : WG g := w.1
  have wv : WV g v := w.2.1
  have cg : CG S g := q.1
  have cv : CV S 19 v := q.2.1
  have ct : CT S x := q.2.2.1
  have hx : XOk x 80 := w.2.2.1
  have h8 := wv.1
  have h36 := wg.f
  have hx80 := hx.1
  obtain ⟨p1, p2, p3⟩ := hp
  have hb := hx.2 p (by omega)
  have y0 : ySt x (p + 1) 48 := by
    have := p3 0 (by omega)
    rw [yP_0] at this
    exact this
  obtain ⟨d1, d1a, d1b, d1c⟩ := C_dg48 (L := L) (N := N) ct hx y0 (by omega)
  obtain ⟨d, d2⟩ := C_dg_ex (L := L) (N := N) (i := p + 2) ct hx (by omega)
  have ne : ∀ m : Nat, m < 256 → x.2 p ≠ m → ¬ nI (x.2 p) = nI m := fun m hm h z => h ((nI_eq (by omega) (by omega)).mp z)
  have now : ∀ {S' : gS} {v' : pV}, Fr (fun y => 19 ≤ y ∧ y ≤ 19 + 5) S S' → CV S' 19 v' → Fr (pS 19) S S' ∧ CA S' (g, v', x, l, u, n, k, h) := fun f e => ⟨f.mono (fun y hy => Or.inl hy), q.now (f.mono (fun y hy => by show _ ∨ _; omega)) e⟩
  have head : ∀ R : Option (Int32 × gH), ((if nI (x.2 p) = (97 : Int32) then
    (gfR (mk L S) 10 10 3).bind fun v13 =>
    (f_c7_throwAnd N v13 (nI (x.2 (p + 1) - 48)) (mk L S)).bind fun q14 =>
    some (q14.1, q14.2)
  else
    if nI (x.2 p) = (99 : Int32) then
    (gfR (mk L S) 10 10 3).bind fun v15 =>
    (f_c7_takeAnds N v15 (nI (x.2 (p + 1) - 48)) (mk L S)).bind fun q16 =>
    some (q16.1, q16.2)
  else
    if nI (x.2 p) = (100 : Int32) then
    (gfR (mk L S) 10 10 3).bind fun v17 =>
    (f_c7_drawFrom N v17 (nI (x.2 (p + 1) - 48)) d (mk L S)).bind fun q18 =>
    some (q18.1, q18.2)
  else
    if nI (x.2 p) = (110 : Int32) then
    (gfR (mk L S) 10 10 6).bind fun v19 =>
    (gfR (mk L S) 10 10 3).bind fun v20 =>
    (gfR (mk L S) 10 10 2).bind fun v21 =>
    (gfR (mk L S) 10 10 11).bind fun v22 =>
    (f_c0_pass N v19 v20 v21 v22 (nI (x.2 (p + 1) - 48)) (mk L S)).bind fun q23 =>
    (gfR q23.2 10 10 3).bind fun v24 =>
    (f_c7_waterOfAll N v24 q23.2).bind fun q25 =>
    some (q25, q23.2)
  else
    if nI (x.2 p) = (114 : Int32) then
    (gfR (mk L S) 10 10 3).bind fun v26 =>
    (f_c7_turn N v26 (nI (x.2 (p + 1) - 48)) (mk L S)).bind fun q27 =>
    some (q27.1, q27.2)
  else
    if nI (x.2 p) = (115 : Int32) then
    (gfR (mk L S) 10 10 2).bind fun v28 =>
    (f_c1_fieldAt N v28 (nI (x.2 (p + 1) - 48)) d (mk L S)).bind fun q29 =>
    (some 11).bind fun v30 =>
    (f_c8_digit N v30 (nI (p + 3)) (nI 60) (mk L S)).bind fun q31 =>
    (some 11).bind fun v32 =>
    (f_c8_at N v32 (nI (p + 4)) (nI 60) (mk L S)).bind fun q33 =>
    (show Option (Int32 × gH) from if 0 ≤ q29 then
    (gfR (mk L S) 10 10 3).bind fun v37 =>
    (f_c7_sayOn N v37 q29 q31 (if q33 = (46 : Int32) then (1 : Int32) else (0 : Int32)) (mk L S)).bind fun q41 =>
    some (q41.1, q41.2)
  else
    some ((-1 : Int32), (mk L S))).bind fun t35 =>
    some (t35.1, t35.2)
  else
    some ((-1 : Int32), (mk L S))) = R) → f_c10_act N 10 (nI p) (mk L S) = R := by
    intro R hR
    unfold f_c10_act
    rw [zc10, Option.bind_some, zr10_0, Option.bind_some, nI_1, k60, d1, Option.bind_some, Option.bind_some, k2, nI_add, d2, Option.bind_some, Option.bind_some, C_atc_t (cap := 60) ct hx (by omega) (by omega) (by omega), Option.bind_some, k3, k4, nI_add, nI_add]
    exact hR
  by_cases z1 : x.2 p = 97
  · have eP : (if nI (x.2 p) = (97 : Int32) then 0 else 1) = 0 := if_pos (show nI (x.2 p) = 97 by rw [z1]; rfl)
    have e97 : nI (x.2 p) = 97 := by rw [z1]; rfl
    have eY : yAct code g v x p = (if x.2 (p + 1) - 48 < vN v ∧ vA v (x.2 (p + 1) - 48) < 9 then some (vSetA v (x.2 (p + 1) - 48) (vA v (x.2 (p + 1) - 48) + 1)) else none) := if_pos z1
    by_cases a1 : x.2 (p + 1) - 48 < vN v
    · have hA : vA v (x.2 (p + 1) - 48) ≤ 9 := (wv.2.2 _ a1).2.2.2.2.1
      by_cases a2 : vA v (x.2 (p + 1) - 48) < 9
      · obtain ⟨S2, e2, f2, v2⟩ := C_throwAnd_ok (L := L) (N := N) SA_19 cv wv a1 a2
        refine ⟨S2, _, head _ ?_, (now f2 v2).1, Or.inl ⟨_, eY.trans (if_pos ⟨a1, a2⟩), nI_0le (show vA v (x.2 (p + 1) - 48) + 1 < 2147483648 by omega), wv.setA (by omega), (now f2 v2).2⟩⟩
        rw [if_pos e97, zr10_3, Option.bind_some, e2, Option.bind_some]
      · refine ⟨S, -2, head _ ?_, Fr.refl, Or.inr ⟨eY.trans (if_neg (fun z => a2 z.2)), n2le0, q⟩⟩
        rw [if_pos e97, zr10_3, Option.bind_some, C_throwAnd_full (L := L) (N := N) SA_19 cv wv a1 (by omega), Option.bind_some]
    · refine ⟨S, -1, head _ ?_, Fr.refl, Or.inr ⟨eY.trans (if_neg (fun z => a1 z.1)), n1le0, q⟩⟩
      rw [if_pos e97, zr10_3, Option.bind_some, C_throwAnd_no (L := L) (N := N) SA_19 cv (Or.inr ⟨nI_pos (by omega), nI_le (by omega) (by omega)⟩), Option.bind_some]
  have f97 : ¬ nI (x.2 p) = 97 := ne 97 (by omega) z1
  by_cases z2 : x.2 p = 99
  · have e99 : nI (x.2 p) = 99 := by rw [z2]; rfl
    have eY : yAct code g v x p = (if x.2 (p + 1) - 48 < vN v ∧ 0 < vA v (x.2 (p + 1) - 48) then some (vSetA v (x.2 (p + 1) - 48) 0) else none) := (if_neg z1).trans (if_pos z2)
    by_cases a1 : x.2 (p + 1) - 48 < vN v
    · have hA : vA v (x.2 (p + 1) - 48) ≤ 9 := (wv.2.2 _ a1).2.2.2.2.1
      obtain ⟨S2, e2, f2, v2⟩ := C_takeAnds (L := L) (N := N) SA_19 cv wv a1
      by_cases a2 : vA v (x.2 (p + 1) - 48) = 0
      · rw [if_pos a2] at e2
        rw [vSetA_id a2] at v2
        refine ⟨S2, -2, head _ ?_, (now f2 v2).1, Or.inr ⟨eY.trans (if_neg (fun z => by omega)), n2le0, (now f2 v2).2⟩⟩
        rw [if_neg f97, if_pos e99, zr10_3, Option.bind_some, e2, Option.bind_some]
      · rw [if_neg a2] at e2
        refine ⟨S2, _, head _ ?_, (now f2 v2).1, Or.inl ⟨_, eY.trans (if_pos ⟨a1, by omega⟩), nI_0le (show vA v (x.2 (p + 1) - 48) < 2147483648 by omega), wv.setA (by omega), (now f2 v2).2⟩⟩
        rw [if_neg f97, if_pos e99, zr10_3, Option.bind_some, e2, Option.bind_some]
    · refine ⟨S, -1, head _ ?_, Fr.refl, Or.inr ⟨eY.trans (if_neg (fun z => a1 z.1)), n1le0, q⟩⟩
      rw [if_neg f97, if_pos e99, zr10_3, Option.bind_some, C_takeAnds_no (L := L) (N := N) SA_19 cv (Or.inr ⟨nI_pos (by omega), nI_le (by omega) (by omega)⟩), Option.bind_some]
  have f99 : ¬ nI (x.2 p) = 99 := ne 99 (by omega) z2
  by_cases z3 : x.2 p = 100
  · have e100 : nI (x.2 p) = 100 := by rw [z3]; rfl
    have eY : yAct code g v x p = (if x.2 (p + 1) - 48 < vN v ∧ x.2 (p + 2) - 48 ≤ vT v (x.2 (p + 1) - 48) then some (vSetT v (x.2 (p + 1) - 48) (vT v (x.2 (p + 1) - 48) - (x.2 (p + 2) - 48))) else none) := (if_neg z1).trans ((if_neg z2).trans (if_pos z3))
    have y1 : ySt x (p + 2) 49 := by
      have := p3 1 (by rw [z3]; decide)
      rw [z3] at this
      exact this
    obtain ⟨d3, d3a, d3b, d3c⟩ := C_dg48 (L := L) (N := N) ct hx y1 (by omega)
    have hd : d = nI (x.2 (p + 2) - 48) := Option.some.inj (d2.symm.trans d3)
    rw [hd] at head
    by_cases a1 : x.2 (p + 1) - 48 < vN v
    · have hT : vT v (x.2 (p + 1) - 48) ≤ 99 := (wv.2.2 _ a1).2.2.2.2.2
      by_cases a2 : x.2 (p + 2) - 48 ≤ vT v (x.2 (p + 1) - 48)
      · obtain ⟨S2, e2, f2, v2⟩ := C_drawFrom_ok (L := L) (N := N) SA_19 cv wv a1 (show 1 ≤ x.2 (p + 2) - 48 by omega) (by omega) a2
        refine ⟨S2, _, head _ ?_, (now f2 v2).1, Or.inl ⟨_, eY.trans (if_pos ⟨a1, a2⟩), nI_0le (show vT v (x.2 (p + 1) - 48) - (x.2 (p + 2) - 48) < 2147483648 by omega), wv.setT (by omega), (now f2 v2).2⟩⟩
        rw [if_neg f97, if_neg f99, if_pos e100, zr10_3, Option.bind_some, e2, Option.bind_some]
      · refine ⟨S, -2, head _ ?_, Fr.refl, Or.inr ⟨eY.trans (if_neg (fun z => a2 z.2)), n2le0, q⟩⟩
        rw [if_neg f97, if_neg f99, if_pos e100, zr10_3, Option.bind_some, C_drawFrom_few (L := L) (N := N) SA_19 cv wv a1 (show 1 ≤ x.2 (p + 2) - 48 by omega) (by omega) (by omega), Option.bind_some]
    · refine ⟨S, -1, head _ ?_, Fr.refl, Or.inr ⟨eY.trans (if_neg (fun z => a1 z.1)), n1le0, q⟩⟩
      rw [if_neg f97, if_neg f99, if_pos e100, zr10_3, Option.bind_some, C_drawFrom_no (L := L) (N := N) SA_19 cv (Or.inr ⟨nI_pos (by omega), nI_le (by omega) (by omega)⟩), Option.bind_some]
  have f100 : ¬ nI (x.2 p) = 100 := ne 100 (by omega) z3
  by_cases z4 : x.2 p = 110
  · have e110 : nI (x.2 p) = 110 := by rw [z4]; rfl
    have eY : yAct code g v x p = some (vSeas code g v (x.2 (p + 1) - 48)) := (if_neg z1).trans ((if_neg z2).trans ((if_neg z3).trans (if_pos z4)))
    obtain ⟨a, a1, a2, a3⟩ := q.ru hc
    obtain ⟨S2, e2, f2, v2, -⟩ := C_pass (L := L) (N := N) (n := x.2 (p + 1) - 48) a2 SA_19 (by omega) cv cg wg wv a3 (w.good hc) (by omega) hN
    have wv' := wv.seas (code := code) (x.2 (p + 1) - 48)
    have q2 : CA S2 (g, vSeas code g v (x.2 (p + 1) - 48), x, l, u, n, k, h) := q.now (f2.mono (fun y hy => by have z : (19 ≤ y ∧ y ≤ 19 + 5) ∨ y = 38 ∨ y = 39 ∨ y = 139 ∨ y = 143 := hy; show _ ∨ _; unfold sC; omega)) v2
    refine ⟨S2, nI (sumN (vT (vSeas code g v (x.2 (p + 1) - 48))) (vN (vSeas code g v (x.2 (p + 1) - 48)))), head _ ?_, f2, Or.inl ⟨_, eY, nI_0le ?_, wv', q2⟩⟩
    · rw [if_neg f97, if_neg f99, if_neg f100, if_pos e110, zr10_6, Option.bind_some, zr10_3, Option.bind_some, zr10_2, Option.bind_some, zr10_11 a1, Option.bind_some, e2, Option.bind_some]
      dsimp only
      rw [zr10_3, Option.bind_some, C_waters SA_19 v2 wv'.1 hN, Option.bind_some]
    · have h3 := sumN_99 (f := vT (vSeas code g v (x.2 (p + 1) - 48))) _ (fun i hi => (wv'.2.2 i hi).2.2.2.2.2)
      have h4 := wv'.1
      omega
  have f110 : ¬ nI (x.2 p) = 110 := ne 110 (by omega) z4
  by_cases z5 : x.2 p = 115
  · have e115 : nI (x.2 p) = 115 := by rw [z5]; rfl
    have f114 : ¬ nI (x.2 p) = 114 := ne 114 (by omega) (by omega)
    have eY : yAct code g v x p = (if (x.2 (p + 1) - 48 < gRw g ∧ x.2 (p + 2) - 48 < gCo g) ∧ sOn v (yFd g x p) = none ∧ vN v < 8 then some (vAdd v (yFd g x p) (x.2 (p + 3) - 48) (yMk x p)) else none) := (if_neg z1).trans ((if_neg z2).trans ((if_neg z3).trans ((if_neg z4).trans (if_pos z5))))
    have pp : ∀ j, j < 4 → ySt x (p + 1 + j) (yP 115 j) := fun j hj => by
      have := p3 j (by rw [z5]; exact hj)
      rw [z5] at this
      exact this
    have y1 : ySt x (p + 2) 48 := pp 1 (by omega)
    have y2 : ySt x (p + 3) 49 := pp 2 (by omega)
    have y3 : ySt x (p + 4) 46 := pp 3 (by omega)
    obtain ⟨d3, d3a, d3b, d3c⟩ := C_dg48 (L := L) (N := N) ct hx y1 (by omega)
    obtain ⟨d4, d4a, d4b, d4c⟩ := C_dg48 (L := L) (N := N) ct hx y2 (by omega)
    have y31 := y3.1
    have hb4 := hx.2 (p + 4) (by omega)
    have hd : d = nI (x.2 (p + 2) - 48) := Option.some.inj (d2.symm.trans d3)
    rw [hd] at head
    have eA : f_c8_at N 11 (nI (p + 4)) (nI 60) (mk L S) = some (nI (x.2 (p + 4))) := C_atc_t (cap := 60) ct hx (by omega) (by omega) (by omega)
    have eM : (if nI (x.2 (p + 4)) = 46 then (1 : Int32) else 0) = nI (yMk x p) := by
      unfold yMk
      by_cases y : x.2 (p + 4) = 46
      · rw [if_pos y, if_pos (show nI (x.2 (p + 4)) = 46 by rw [y]; rfl)]; rfl
      · rw [if_neg y, if_neg (show ¬ nI (x.2 (p + 4)) = 46 from fun e => y ((nI_eq (b := 46) (by omega) (by omega)).mp e))]; rfl
    by_cases a1 : x.2 (p + 1) - 48 < gRw g ∧ x.2 (p + 2) - 48 < gCo g
    · have g2 := wg.2.2.2.1
      have g1 := wg.2.1
      have hF : yFd g x p < gRw g * gCo g := by
        have h3 : (x.2 (p + 1) - 48 + 1) * gCo g ≤ gRw g * gCo g := Nat.mul_le_mul_right _ a1.1
        rw [Nat.add_mul, Nat.one_mul] at h3
        unfold yFd
        omega
      have eF : f_c1_fieldAt N 15 (nI (x.2 (p + 1) - 48)) (nI (x.2 (p + 2) - 48)) (mk L S) = some (nI (yFd g x p)) := C_fieldAt_t cg wg a1.1 a1.2
      cases ho : sOn v (yFd g x p) with
      | some w' =>
        refine ⟨S, -2, head _ ?_, Fr.refl, Or.inr ⟨eY.trans (if_neg (fun z => by rw [ho] at z; cases z.2.1)), n2le0, q⟩⟩
        rw [if_neg f97, if_neg f99, if_neg f100, if_neg f110, if_neg f114, if_pos e115, zr10_2, Option.bind_some, eF, Option.bind_some, Option.bind_some, d4, Option.bind_some, Option.bind_some, eA, Option.bind_some, i0le (by omega), zr10_3, Option.bind_some, eM, C_sayOn_on (L := L) (N := N) SA_19 cv wg wv hN (by omega) ho, Option.bind_some, Option.bind_some]
      | none =>
        by_cases a3 : vN v < 8
        · obtain ⟨S2, e2, f2, v2⟩ := C_sayOn_ok (L := L) (N := N) (w := x.2 (p + 3) - 48) (m := yMk x p) SA_19 cv wg wv hN (f := yFd g x p) (by omega) ho a3
          refine ⟨S2, _, head _ ?_, (now f2 v2).1, Or.inl ⟨_, eY.trans (if_pos ⟨a1, ho, a3⟩), nI_0le (show vN v < 2147483648 by omega), wv.add a3 hF ⟨by omega, by omega⟩ yMk_le ho, (now f2 v2).2⟩⟩
          rw [if_neg f97, if_neg f99, if_neg f100, if_neg f110, if_neg f114, if_pos e115, zr10_2, Option.bind_some, eF, Option.bind_some, Option.bind_some, d4, Option.bind_some, Option.bind_some, eA, Option.bind_some, i0le (by omega), zr10_3, Option.bind_some, eM, e2, Option.bind_some, Option.bind_some]
        · refine ⟨S, -3, head _ ?_, Fr.refl, Or.inr ⟨eY.trans (if_neg (fun z => a3 z.2.2)), n3le0, q⟩⟩
          rw [if_neg f97, if_neg f99, if_neg f100, if_neg f110, if_neg f114, if_pos e115, zr10_2, Option.bind_some, eF, Option.bind_some, Option.bind_some, d4, Option.bind_some, Option.bind_some, eA, Option.bind_some, i0le (by omega), zr10_3, Option.bind_some, eM, C_sayOn_full (L := L) (N := N) SA_19 cv wg wv hN (by omega) ho (by omega), Option.bind_some, Option.bind_some]
    · have eF : f_c1_fieldAt N 15 (nI (x.2 (p + 1) - 48)) (nI (x.2 (p + 2) - 48)) (mk L S) = some (-1) := by
        by_cases b1 : x.2 (p + 1) - 48 < gRw g
        · exact C_fieldAt_f cg wg b1 (Or.inr ⟨nI_pos (by omega), nI_le (show gCo g ≤ x.2 (p + 2) - 48 by
            rcases Nat.lt_or_ge (x.2 (p + 2) - 48) (gCo g) with y | y
            · exact absurd ⟨b1, y⟩ a1
            · exact y) (by omega)⟩)
        · exact C_fieldAt_f2 cg wg (by omega) (by omega)
      refine ⟨S, -1, head _ ?_, Fr.refl, Or.inr ⟨eY.trans (if_neg (fun z => a1 z.1)), n1le0, q⟩⟩
      rw [if_neg f97, if_neg f99, if_neg f100, if_neg f110, if_neg f114, if_pos e115, zr10_2, Option.bind_some, eF, Option.bind_some, Option.bind_some, d4, Option.bind_some, Option.bind_some, eA, Option.bind_some, if_neg n1le0, Option.bind_some]
  have f115 : ¬ nI (x.2 p) = 115 := ne 115 (by omega) z5
  have z6 : x.2 p = 114 := by
    unfold yK at p2
    rw [if_neg z5, if_neg z3] at p2
    by_cases z : x.2 p = 97 ∨ x.2 p = 99 ∨ x.2 p = 110 ∨ x.2 p = 114
    · omega
    · rw [if_neg z] at p2
      omega
  have e114 : nI (x.2 p) = 114 := by rw [z6]; rfl
  have eY : yAct code g v x p = (if x.2 (p + 1) - 48 < vN v then some (vSetM v (x.2 (p + 1) - 48) (1 - vM v (x.2 (p + 1) - 48))) else none) := (if_neg z1).trans ((if_neg z2).trans ((if_neg z3).trans ((if_neg z4).trans (if_neg z5))))
  by_cases a1 : x.2 (p + 1) - 48 < vN v
  · have hM : vM v (x.2 (p + 1) - 48) ≤ 1 := (wv.2.2 _ a1).2.2.2.1
    obtain ⟨S2, e2, f2, v2⟩ := C_turn (L := L) (N := N) SA_19 cv wv a1
    have hd : sDepth (vSetM v (x.2 (p + 1) - 48) (1 - vM v (x.2 (p + 1) - 48))) (x.2 (p + 1) - 48) < 100 := by
      unfold sDepth
      split <;> omega
    refine ⟨S2, _, head _ ?_, (now f2 v2).1, Or.inl ⟨_, eY.trans (if_pos a1), nI_0le (show sDepth (vSetM v (x.2 (p + 1) - 48) (1 - vM v (x.2 (p + 1) - 48))) (x.2 (p + 1) - 48) < 2147483648 by omega), wv.setM (by omega), (now f2 v2).2⟩⟩
    rw [if_neg f97, if_neg f99, if_neg f100, if_neg f110, if_pos e114, zr10_3, Option.bind_some, e2, Option.bind_some]
  · refine ⟨S, -1, head _ ?_, Fr.refl, Or.inr ⟨eY.trans (if_neg a1), n1le0, q⟩⟩
    rw [if_neg f97, if_neg f99, if_neg f100, if_neg f110, if_pos e114, zr10_3, Option.bind_some, C_turn_no (L := L) (N := N) SA_19 cv (Or.inr ⟨nI_pos (by omega), nI_le (by omega) (by omega)⟩), Option.bind_some]
end YEARO
