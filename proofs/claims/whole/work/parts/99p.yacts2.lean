/-! CALLS: year: one act, the reference -/
section YEARP
variable {L N : Nat} {S T X : gS} {c : Nat} {g : pG} {v v0 v' : pV} {x x' : pX} {l : List Int64} {u : pX} {n : pN} {k : Nat → Option pV} {h : pH} {A : pA} {code : List Int32}
theorem M_rAnd {a : Nat} (mv : MW T 145 v) (wv : WV g v) (ha : a < 1000) : (a < vN v ∧ vA v a < 9 → f_c11_refusesAnd N 145 (nI a) (mk L T) = some 0) ∧ (¬ (a < vN v ∧ vA v a < 9) → ∃ r, f_c11_refusesAnd N 145 (nI a) (mk L T) = some r ∧ ¬ 0 ≤ r) := by
  have h8 := wv.1
  have m1 := mv.1
  refine ⟨fun ⟨hi, h9⟩ => ?_, fun hn => ?_⟩
  · have n9 : ¬ nI (vA v a) = 9 := fun e => by have := (nI_eq (b := 9) (by omega) (by omega)).mp e; omega
    unfold f_c11_refusesAnd
    rw [k40, zg145 (by omega), Option.bind_some, m1, M_in_nI hi (by omega), Option.bind_some, i10, k24, nI_add, zg145 (by omega), Option.bind_some, (mv.2.2.2 a hi).2.2.2.1, if_neg n9]
  · by_cases hi : a < vN v
    · have hA := (wv.2.2 a hi).2.2.2.2.1
      have h9 : vA v a = 9 := by
        rcases Nat.lt_or_ge (vA v a) 9 with y | y
        · exact absurd ⟨hi, y⟩ hn
        · omega
      refine ⟨-2, ?_, n2le0⟩
      unfold f_c11_refusesAnd
      rw [k40, zg145 (by omega), Option.bind_some, m1, M_in_nI hi (by omega), Option.bind_some, i10, k24, nI_add, zg145 (by omega), Option.bind_some, (mv.2.2.2 a hi).2.2.2.1, if_pos (show nI (vA v a) = 9 by rw [h9]; rfl)]
    · refine ⟨-1, ?_, n1le0⟩
      unfold f_c11_refusesAnd
      rw [k40, zg145 (by omega), Option.bind_some, m1, M_in_out (by omega) (Or.inr ⟨nI_pos (by omega), nI_le (by omega) (by omega)⟩), Option.bind_some, i00]
theorem M_rClr {a : Nat} (mv : MW T 145 v) (wv : WV g v) (ha : a < 1000) : (a < vN v ∧ 0 < vA v a → f_c11_refusesClearing N 144 (nI a) (mk L T) = some 0) ∧ (¬ (a < vN v ∧ 0 < vA v a) → ∃ r, f_c11_refusesClearing N 144 (nI a) (mk L T) = some r ∧ ¬ 0 ≤ r) := by
  have h8 := wv.1
  refine ⟨fun ⟨hi, h9⟩ => ?_, fun hn => ?_⟩
  · have hA := (wv.2.2 a hi).2.2.2.2.1
    unfold f_c11_refusesClearing
    rw [zc144, Option.bind_some, M_isWell_t mv h8 hi, Option.bind_some, i10, zr144_0, Option.bind_some, k24, nI_add, zg145 (by omega), Option.bind_some, (mv.2.2.2 a hi).2.2.2.1, iz_f (by omega) (by omega)]
  · by_cases hi : a < vN v
    · have h9 : vA v a = 0 := by
        rcases Nat.eq_zero_or_pos (vA v a) with y | y
        · exact y
        · exact absurd ⟨hi, y⟩ hn
      refine ⟨-2, ?_, n2le0⟩
      unfold f_c11_refusesClearing
      rw [zc144, Option.bind_some, M_isWell_t mv h8 hi, Option.bind_some, i10, zr144_0, Option.bind_some, k24, nI_add, zg145 (by omega), Option.bind_some, (mv.2.2.2 a hi).2.2.2.1, iz_t h9]
    · refine ⟨-1, ?_, n1le0⟩
      unfold f_c11_refusesClearing
      rw [zc144, Option.bind_some, M_isWell_f mv h8 (Or.inr ⟨nI_pos (by omega), nI_le (by omega) (by omega)⟩), Option.bind_some, i00]
theorem M_rDraw {a b : Nat} (mv : MW T 145 v) (wv : WV g v) (ha : a < 1000) (b1 : 1 ≤ b) (b9 : b ≤ 9) : (a < vN v ∧ b ≤ vT v a → f_c11_refusesDraught N 144 (nI a) (nI b) (mk L T) = some 0) ∧ (¬ (a < vN v ∧ b ≤ vT v a) → ∃ r, f_c11_refusesDraught N 144 (nI a) (nI b) (mk L T) = some r ∧ ¬ 0 ≤ r) := by
  have h8 := wv.1
  have ei : f_c11_in N (nI b) 1 99 (mk L T) = some 1 := M_in_t (nI_nlt (b := 1) b1 (by omega)) (nI_nlt (a := 99) (by omega) (by omega))
  refine ⟨fun ⟨hi, h9⟩ => ?_, fun hn => ?_⟩
  · have hT := (wv.2.2 a hi).2.2.2.2.2
    unfold f_c11_refusesDraught
    rw [zc144, Option.bind_some, M_isWell_t mv h8 hi, Option.bind_some, i10, ei, Option.bind_some, i10, zr144_0, Option.bind_some, k32, nI_add, zg145 (by omega), Option.bind_some, (mv.2.2.2 a hi).2.2.2.2, ile_t h9 (by omega)]
  · by_cases hi : a < vN v
    · have hT := (wv.2.2 a hi).2.2.2.2.2
      refine ⟨-2, ?_, n2le0⟩
      unfold f_c11_refusesDraught
      rw [zc144, Option.bind_some, M_isWell_t mv h8 hi, Option.bind_some, i10, ei, Option.bind_some, i10, zr144_0, Option.bind_some, k32, nI_add, zg145 (by omega), Option.bind_some, (mv.2.2.2 a hi).2.2.2.2, ile_f (show vT v a < b by
        rcases Nat.lt_or_ge (vT v a) b with y | y
        · exact y
        · exact absurd ⟨hi, y⟩ hn) (by omega)]
    · refine ⟨-1, ?_, n1le0⟩
      unfold f_c11_refusesDraught
      rw [zc144, Option.bind_some, M_isWell_f mv h8 (Or.inr ⟨nI_pos (by omega), nI_le (by omega) (by omega)⟩), Option.bind_some, i00]
theorem M_act {p i : Nat} (mt : MA T (g, v, x', l, u, n, k, h) c) (wg : WG g) (wv : WV g v) (hc : ruleCode u.2 u.1 = .inl code) (hp : acOk x p) (hx : XOk x 80) (hi : i < 79) (ha : acC g x T i p) (hN : 900 ≤ N) : ∃ T' r, f_c11_act N 144 (nI (4 * i)) (mk L T) = some (r, mk L T') ∧ FM (fun y => y = 145 ∨ y = 153 ∨ (157 ≤ y ∧ y ≤ 159)) (fun k => k = 20 ∨ (11 ≤ k ∧ k ≤ 15)) T T' ∧ yRes code g v x p (fun v' => MA T' (g, v', x', l, u, n, k, h) c) (r = 1) (r = 0) := by
  have mg : MG T g := mt.1
  have mv : MW T 145 v := mt.2.1
  have h8 := wv.1
  have h36 := wg.f
  obtain ⟨p1, p2, p3⟩ := hp
  have hb := hx.2 p (by omega)
  have y0 : ySt x (p + 1) 48 := by
    have := p3 0 (by omega)
    rw [yP_0] at this
    exact this
  have dA := (ySt48 y0).2.2
  obtain ⟨c0, c1, c2, c3⟩ := ha
  have ne : ∀ m : Nat, m < 256 → x.2 p ≠ m → ¬ nI (x.2 p) = nI m := fun m hm h z => h ((nI_eq (by omega) (by omega)).mp z)
  have fA : ∀ {j : Nat} {y : Int32}, FM (fun y => y = 145 ∨ y = 153 ∨ (157 ≤ y ∧ y ≤ 159)) (fun k => k = 20 ∨ (11 ≤ k ∧ k ≤ 15)) T (stI T 145 j y) := fun {j y} => FM.stA (Or.inl rfl) (by omega)
  by_cases z1 : x.2 p = 97
  · have e97 : nI (x.2 p) = 97 := by rw [z1]; rfl
    have c1 := c1 (by omega)
    have eY : yAct code g v x p = (if x.2 (p + 1) - 48 < vN v ∧ vA v (x.2 (p + 1) - 48) < 9 then some (vSetA v (x.2 (p + 1) - 48) (vA v (x.2 (p + 1) - 48) + 1)) else none) := if_pos z1
    obtain ⟨r1, r2⟩ := M_rAnd (L := L) (N := N) (a := x.2 (p + 1) - 48) mv wv (by omega)
    by_cases a1 : x.2 (p + 1) - 48 < vN v ∧ vA v (x.2 (p + 1) - 48) < 9
    · have eA : T.1 145 (24 + (x.2 (p + 1) - 48)) = nI (vA v (x.2 (p + 1) - 48)) := (mv.2.2.2 _ a1.1).2.2.2.1
      refine ⟨_, 1, ?_, fA, Or.inl ⟨_, eY.trans (if_pos a1), rfl, wv.setA (by omega), M_now (r := 0) mt (MW_A mv h8 (by omega))⟩⟩
      unfold f_c11_act
      rw [zc144, Option.bind_some, zr144_29, Option.bind_some, nI_1, zg160 (by omega), Option.bind_some, Option.bind_some, k2, nI_add, zg160 (by omega), Option.bind_some, Option.bind_some, zg160 (by omega), Option.bind_some, c0, c1, if_pos e97, zr144_0, Option.bind_some, r1 a1, Option.bind_some, if_pos z0le0, Option.bind_some, k24, nI_add, zg145 (by omega), Option.bind_some, eA, nI_1, zp145 (by omega), Option.bind_some, gZ_1, Option.bind_some]
    · obtain ⟨r, e, hr⟩ := r2 a1
      refine ⟨T, 0, ?_, FM.refl, Or.inr ⟨eY.trans (if_neg a1), rfl, mt⟩⟩
      unfold f_c11_act
      rw [zc144, Option.bind_some, zr144_29, Option.bind_some, nI_1, zg160 (by omega), Option.bind_some, Option.bind_some, k2, nI_add, zg160 (by omega), Option.bind_some, Option.bind_some, zg160 (by omega), Option.bind_some, c0, c1, if_pos e97, zr144_0, Option.bind_some, e, Option.bind_some, if_neg hr, gZ_0, Option.bind_some]
  have f97 : ¬ nI (x.2 p) = 97 := ne 97 (by omega) z1
  by_cases z2 : x.2 p = 99
  · have e99 : nI (x.2 p) = 99 := by rw [z2]; rfl
    have c1 := c1 (by omega)
    have eY : yAct code g v x p = (if x.2 (p + 1) - 48 < vN v ∧ 0 < vA v (x.2 (p + 1) - 48) then some (vSetA v (x.2 (p + 1) - 48) 0) else none) := (if_neg z1).trans (if_pos z2)
    obtain ⟨r1, r2⟩ := M_rClr (L := L) (N := N) (a := x.2 (p + 1) - 48) mv wv (by omega)
    by_cases a1 : x.2 (p + 1) - 48 < vN v ∧ 0 < vA v (x.2 (p + 1) - 48)
    · refine ⟨_, 1, ?_, fA, Or.inl ⟨_, eY.trans (if_pos a1), rfl, wv.setA (by omega), M_now (r := 0) mt (MW_A (x := 0) mv h8 (by omega))⟩⟩
      unfold f_c11_act
      rw [zc144, Option.bind_some, zr144_29, Option.bind_some, nI_1, zg160 (by omega), Option.bind_some, Option.bind_some, k2, nI_add, zg160 (by omega), Option.bind_some, Option.bind_some, zg160 (by omega), Option.bind_some, c0, c1, if_neg f97, if_pos e99, r1 a1, Option.bind_some, if_pos z0le0, zr144_0, Option.bind_some, k24, nI_add, zp145 (by omega), Option.bind_some, gZ_1, Option.bind_some]
      rfl
    · obtain ⟨r, e, hr⟩ := r2 a1
      refine ⟨T, 0, ?_, FM.refl, Or.inr ⟨eY.trans (if_neg a1), rfl, mt⟩⟩
      unfold f_c11_act
      rw [zc144, Option.bind_some, zr144_29, Option.bind_some, nI_1, zg160 (by omega), Option.bind_some, Option.bind_some, k2, nI_add, zg160 (by omega), Option.bind_some, Option.bind_some, zg160 (by omega), Option.bind_some, c0, c1, if_neg f97, if_pos e99, e, Option.bind_some, if_neg hr, gZ_0, Option.bind_some]
  have f99 : ¬ nI (x.2 p) = 99 := ne 99 (by omega) z2
  by_cases z3 : x.2 p = 100
  · have e100 : nI (x.2 p) = 100 := by rw [z3]; rfl
    have c1 := c1 (by omega)
    have c2 := c2 z3
    have eY : yAct code g v x p = (if x.2 (p + 1) - 48 < vN v ∧ x.2 (p + 2) - 48 ≤ vT v (x.2 (p + 1) - 48) then some (vSetT v (x.2 (p + 1) - 48) (vT v (x.2 (p + 1) - 48) - (x.2 (p + 2) - 48))) else none) := (if_neg z1).trans ((if_neg z2).trans (if_pos z3))
    have y1 : ySt x (p + 2) 49 := by
      have := p3 1 (by rw [z3]; decide)
      rw [z3] at this
      exact this
    have y1a : 49 ≤ x.2 (p + 2) ∧ x.2 (p + 2) ≤ 57 := by
      rcases y1.2 with ⟨y, -⟩ | ⟨-, y, y2⟩
      · omega
      · exact ⟨y, y2⟩
    obtain ⟨r1, r2⟩ := M_rDraw (L := L) (N := N) (a := x.2 (p + 1) - 48) (b := x.2 (p + 2) - 48) mv wv (by omega) (by omega) (by omega)
    by_cases a1 : x.2 (p + 1) - 48 < vN v ∧ x.2 (p + 2) - 48 ≤ vT v (x.2 (p + 1) - 48)
    · have hT := (wv.2.2 _ a1.1).2.2.2.2.2
      have eA : T.1 145 (32 + (x.2 (p + 1) - 48)) = nI (vT v (x.2 (p + 1) - 48)) := (mv.2.2.2 _ a1.1).2.2.2.2
      refine ⟨_, 1, ?_, fA, Or.inl ⟨_, eY.trans (if_pos a1), rfl, wv.setT (by omega), M_now (r := 0) mt (MW_T mv h8 (by omega))⟩⟩
      unfold f_c11_act
      rw [zc144, Option.bind_some, zr144_29, Option.bind_some, nI_1, zg160 (by omega), Option.bind_some, Option.bind_some, k2, nI_add, zg160 (by omega), Option.bind_some, Option.bind_some, zg160 (by omega), Option.bind_some, c0, c1, c2, if_neg f97, if_neg f99, if_pos e100, r1 a1, Option.bind_some, if_pos z0le0, zr144_0, Option.bind_some, k32, nI_add, zg145 (by omega), Option.bind_some, eA, nI_sub a1.2, zp145 (by omega), Option.bind_some, gZ_1, Option.bind_some]
    · obtain ⟨r, e, hr⟩ := r2 a1
      refine ⟨T, 0, ?_, FM.refl, Or.inr ⟨eY.trans (if_neg a1), rfl, mt⟩⟩
      unfold f_c11_act
      rw [zc144, Option.bind_some, zr144_29, Option.bind_some, nI_1, zg160 (by omega), Option.bind_some, Option.bind_some, k2, nI_add, zg160 (by omega), Option.bind_some, Option.bind_some, zg160 (by omega), Option.bind_some, c0, c1, c2, if_neg f97, if_neg f99, if_pos e100, e, Option.bind_some, if_neg hr, gZ_0, Option.bind_some]
  have f100 : ¬ nI (x.2 p) = 100 := ne 100 (by omega) z3
  by_cases z4 : x.2 p = 110
  · have e110 : nI (x.2 p) = 110 := by rw [z4]; rfl
    have c1 := c1 (by omega)
    have eY : yAct code g v x p = some (vSeas code g v (x.2 (p + 1) - 48)) := (if_neg z1).trans ((if_neg z2).trans ((if_neg z3).trans (if_pos z4)))
    obtain ⟨T2, a2', f4, m2, -⟩ := M_seasons (L := L) (N := N) (k0 := x.2 (p + 1) - 48) MA_145 (by omega) (by omega) mv mg wg wv mt.2.2.2.2.1.1 hc (by omega) hN
    have wv' := wv.seas (code := code) (x.2 (p + 1) - 48)
    have f5 : FM (fun y => y = 145 ∨ y = 153 ∨ (157 ≤ y ∧ y ≤ 159)) (fun k => k = 20 ∨ (11 ≤ k ∧ k ≤ 15)) T T2 := f4.mono (fun y hy => by have z : y = 145 ∨ y = 153 ∨ (157 ≤ y ∧ y ≤ 159) := hy; exact z) (fun y hy => by have z : y = 20 ∨ (11 ≤ y ∧ y ≤ 15) := hy; exact z)
    refine ⟨T2, 1, ?_, f5, Or.inl ⟨_, eY, rfl, wv', mt.now (f5.mono (fun y hy => by show _ ∨ _; unfold sM; omega) (fun y hy => by unfold sK; omega)) m2⟩⟩
    unfold f_c11_act
    rw [zc144, Option.bind_some, zr144_29, Option.bind_some, nI_1, zg160 (by omega), Option.bind_some, Option.bind_some, k2, nI_add, zg160 (by omega), Option.bind_some, Option.bind_some, zg160 (by omega), Option.bind_some, c0, c1, if_neg f97, if_neg f99, if_neg f100, if_pos e110, zr144_0, Option.bind_some, a2', Option.bind_some, gZ_1, Option.bind_some]
  have f110 : ¬ nI (x.2 p) = 110 := ne 110 (by omega) z4
  by_cases z5 : x.2 p = 115
  · have e115 : nI (x.2 p) = 115 := by rw [z5]; rfl
    obtain ⟨c1, c2, c3⟩ := c3 z5
    have eY : yAct code g v x p = (if (x.2 (p + 1) - 48 < gRw g ∧ x.2 (p + 2) - 48 < gCo g) ∧ sOn v (yFd g x p) = none ∧ vN v < 8 then some (vAdd v (yFd g x p) (x.2 (p + 3) - 48) (yMk x p)) else none) := (if_neg z1).trans ((if_neg z2).trans ((if_neg z3).trans ((if_neg z4).trans (if_pos z5))))
    have pp : ∀ j, j < 4 → ySt x (p + 1 + j) (yP 115 j) := fun j hj => by
      have := p3 j (by rw [z5]; exact hj)
      rw [z5] at this
      exact this
    have y1 : ySt x (p + 2) 48 := pp 1 (by omega)
    have y2 : ySt x (p + 3) 49 := pp 2 (by omega)
    have dB := (ySt48 y1).2.2
    have y2a : 49 ≤ x.2 (p + 3) ∧ x.2 (p + 3) ≤ 57 := by
      rcases y2.2 with ⟨y, -⟩ | ⟨-, y, y2⟩
      · omega
      · exact ⟨y, y2⟩
    have hmk : yMk x p ≤ 1 := yMk_le
    have c3 : T.1 160 (4 * i + 3) = nI (yMk x p) := c3
    have g1 := wg.2.1
    have g2 := wg.2.2.2.1
    have start : ∀ r, f_c11_refusesSaying N 144 145 (yF g (x.2 (p + 1) - 48) (x.2 (p + 2) - 48)) (nI (x.2 (p + 3) - 48)) (nI (yMk x p)) (mk L T) = some r → ∀ R, (if 0 ≤ r then
    (some 145).bind fun v41 =>
    (some 160).bind fun v42 =>
    (ga 0 (mk L T) v42 (nI (4 * i + 3))).bind fun v43 =>
    (f_c11_add N v41 (yF g (x.2 (p + 1) - 48) (x.2 (p + 2) - 48)) (nI (x.2 (p + 3) - 48)) v43 (mk L T)).bind fun q44 =>
    (gZ (1 : Int32)).bind fun w45 => some (w45, q44)
  else
    (gZ (0 : Int32)).bind fun w46 => some (w46, (mk L T))) = R → f_c11_act N 144 (nI (4 * i)) (mk L T) = R := by
      intro r er R hR
      unfold f_c11_act
      rw [zc144, Option.bind_some, zr144_29, Option.bind_some, nI_1, zg160 (by omega), Option.bind_some, Option.bind_some, k2, nI_add, zg160 (by omega), Option.bind_some, Option.bind_some, zg160 (by omega), Option.bind_some, c0, c1, c2, if_neg f97, if_neg f99, if_neg f100, if_neg f110, if_pos e115, zr144_0, Option.bind_some, Option.bind_some, k3, nI_add, zg160 (by omega), Option.bind_some, c3, er, Option.bind_some]
      exact hR
    by_cases a1 : x.2 (p + 1) - 48 < gRw g ∧ x.2 (p + 2) - 48 < gCo g
    · have eF : yF g (x.2 (p + 1) - 48) (x.2 (p + 2) - 48) = nI (yFd g x p) := by
        unfold yF yFd
        rw [if_pos a1, Nat.mul_comm]
      have hF : yFd g x p < gRw g * gCo g := by
        have h3 : (x.2 (p + 1) - 48 + 1) * gCo g ≤ gRw g * gCo g := Nat.mul_le_mul_right _ a1.1
        rw [Nat.add_mul, Nat.one_mul] at h3
        unfold yFd
        omega
      have eS : f_c11_refusesSaying N 144 145 (yF g (x.2 (p + 1) - 48) (x.2 (p + 2) - 48)) (nI (x.2 (p + 3) - 48)) (nI (yMk x p)) (mk L T) = some (match sOn v (yFd g x p) with | some _ => -2 | none => if vN v = 8 then -3 else 0) := by
        rcases M_refuse (L := L) (N := N) (f := nI (yFd g x p)) (w := nI (x.2 (p + 3) - 48)) (m := nI (yMk x p)) (g := g) (v := v) MA_145 mv mg wg wv hN with ⟨hc, -⟩ | ⟨f2, w2, m2, h1, h2, h3, hf2, -, -, -, e⟩
        · exfalso
          rcases hc with (hc | ⟨_, hc⟩) | (hc | hc) | (hc | hc)
          · exact nI_pos (by omega) hc
          · exact nI_ge hF (by omega) hc
          · exact nI_nlt (b := 1) (a := x.2 (p + 3) - 48) (by omega) (by omega) hc
          · exact nI_nlt (a := 9) (b := x.2 (p + 3) - 48) (by omega) (by omega) hc
          · exact nI_pos (by omega) hc
          · exact nI_nlt (a := 1) (b := yMk x p) (by omega) (by omega) hc
        · have : yFd g x p = f2 := (nI_eq (by omega) (by omega)).mp h1
          rw [← this] at e
          rw [eF]
          exact e
      cases ho : sOn v (yFd g x p) with
      | some w' =>
        rw [ho] at eS
        refine ⟨T, 0, start _ eS _ ?_, FM.refl, Or.inr ⟨eY.trans (if_neg (fun z => by rw [ho] at z; cases z.2.1)), rfl, mt⟩⟩
        dsimp only
        rw [if_neg n2le0, gZ_0, Option.bind_some]
      | none =>
        rw [ho] at eS
        dsimp only at eS
        by_cases a3 : vN v < 8
        · rw [if_neg (show ¬ vN v = 8 by omega)] at eS
          obtain ⟨s2, e2, f2, m2⟩ := M_add (L := L) (N := N) (f := yFd g x p) (w := x.2 (p + 3) - 48) (m := yMk x p) MA_145 (by omega) mv a3
          have f5 : FM (fun y => y = 145 ∨ y = 153 ∨ (157 ≤ y ∧ y ≤ 159)) (fun k => k = 20 ∨ (11 ≤ k ∧ k ≤ 15)) T s2 := f2.mono (fun y hy => Or.inl hy) (fun _ z => z.elim)
          refine ⟨s2, 1, start _ eS _ ?_, f5, Or.inl ⟨_, eY.trans (if_pos ⟨a1, ho, a3⟩), rfl, wv.add a3 hF ⟨by omega, by omega⟩ hmk ho, mt.now (f5.mono (fun y hy => by show _ ∨ _; unfold sM; omega) (fun y hy => by unfold sK; omega)) m2⟩⟩
          rw [if_pos z0le0, Option.bind_some, Option.bind_some, zg160 (by omega), Option.bind_some, c3, eF, e2, Option.bind_some, gZ_1, Option.bind_some]
        · rw [if_pos (show vN v = 8 by omega)] at eS
          refine ⟨T, 0, start _ eS _ ?_, FM.refl, Or.inr ⟨eY.trans (if_neg (fun z => a3 z.2.2)), rfl, mt⟩⟩
          rw [if_neg n3le0, gZ_0, Option.bind_some]
    · have eF : yF g (x.2 (p + 1) - 48) (x.2 (p + 2) - 48) = -1 := by
        unfold yF
        rw [if_neg a1]
      have eS : f_c11_refusesSaying N 144 145 (yF g (x.2 (p + 1) - 48) (x.2 (p + 2) - 48)) (nI (x.2 (p + 3) - 48)) (nI (yMk x p)) (mk L T) = some (-1) := by
        rw [eF]
        rcases M_refuse (L := L) (N := N) (f := -1) (w := nI (x.2 (p + 3) - 48)) (m := nI (yMk x p)) (g := g) (v := v) MA_145 mv mg wg wv hN with ⟨-, e⟩ | ⟨f2, w2, m2, h1, h2, h3, hf2, -, -, -, e⟩
        · exact e
        · exfalso
          have : (-1 : Int32) < 0 := by decide
          rw [h1] at this
          exact nI_pos (by omega) this
      refine ⟨T, 0, start _ eS _ ?_, FM.refl, Or.inr ⟨eY.trans (if_neg (fun z => a1 z.1)), rfl, mt⟩⟩
      rw [if_neg n1le0, gZ_0, Option.bind_some]
  have f115 : ¬ nI (x.2 p) = 115 := ne 115 (by omega) z5
  have c1 := c1 z5
  have eY : yAct code g v x p = (if x.2 (p + 1) - 48 < vN v then some (vSetM v (x.2 (p + 1) - 48) (1 - vM v (x.2 (p + 1) - 48))) else none) := (if_neg z1).trans ((if_neg z2).trans ((if_neg z3).trans ((if_neg z4).trans (if_neg z5))))
  by_cases a1 : x.2 (p + 1) - 48 < vN v
  · have hM : vM v (x.2 (p + 1) - 48) ≤ 1 := (wv.2.2 _ a1).2.2.2.1
    have eA : T.1 145 (16 + (x.2 (p + 1) - 48)) = nI (vM v (x.2 (p + 1) - 48)) := (mv.2.2.2 _ a1).2.2.1
    have e1m : (1 : Int32) - nI (vM v (x.2 (p + 1) - 48)) = nI (1 - vM v (x.2 (p + 1) - 48)) := nI_sub (a := 1) hM
    refine ⟨_, 1, ?_, fA, Or.inl ⟨_, eY.trans (if_pos a1), rfl, wv.setM (by omega), M_now (r := 0) mt (MW_M mv h8 (by omega))⟩⟩
    unfold f_c11_act
    rw [zc144, Option.bind_some, zr144_29, Option.bind_some, nI_1, zg160 (by omega), Option.bind_some, Option.bind_some, k2, nI_add, zg160 (by omega), Option.bind_some, Option.bind_some, zg160 (by omega), Option.bind_some, c0, c1, if_neg f97, if_neg f99, if_neg f100, if_neg f110, if_neg f115, M_isWell_t mv h8 a1, Option.bind_some, i10, zr144_0, Option.bind_some, Option.bind_some, k16, nI_add, zg145 (by omega), Option.bind_some, eA, e1m, zp145 (by omega), Option.bind_some, gZ_1, Option.bind_some]
  · refine ⟨T, 0, ?_, FM.refl, Or.inr ⟨eY.trans (if_neg a1), rfl, mt⟩⟩
    unfold f_c11_act
    rw [zc144, Option.bind_some, zr144_29, Option.bind_some, nI_1, zg160 (by omega), Option.bind_some, Option.bind_some, k2, nI_add, zg160 (by omega), Option.bind_some, Option.bind_some, zg160 (by omega), Option.bind_some, c0, c1, if_neg f97, if_neg f99, if_neg f100, if_neg f110, if_neg f115, M_isWell_f mv h8 (Or.inr ⟨nI_pos (by omega), nI_le (by omega) (by omega)⟩), Option.bind_some, i00, gZ_0, Option.bind_some]
end YEARP
