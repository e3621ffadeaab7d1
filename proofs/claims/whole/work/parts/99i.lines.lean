/-! CALLS: wells: what a text tells; the class reads it -/
def lnR (g : pG) (x : pX) (p : Nat) : Prop := p < min x.1 39 ∧ 48 ≤ x.2 p ∧ x.2 p < 48 + gRw g
def lnC (g : pG) (x : pX) (p : Nat) : Prop := p + 1 < min x.1 39 ∧ 48 ≤ x.2 (p + 1) ∧ x.2 (p + 1) < 48 + gCo g
def lnW (x : pX) (p : Nat) : Prop := p + 2 < min x.1 39 ∧ 49 ≤ x.2 (p + 2) ∧ x.2 (p + 2) ≤ 57
def lnM (x : pX) (p : Nat) : Prop := p + 3 < min x.1 39 ∧ (x.2 (p + 3) = 46 ∨ x.2 (p + 3) = 44)
def lnS (x : pX) (p : Nat) : Prop := p + 4 < min x.1 39 ∧ x.2 (p + 4) = 59
def lnFd (g : pG) (x : pX) (p : Nat) : Nat := (x.2 p - 48) * gCo g + (x.2 (p + 1) - 48)
def lnMe (x : pX) (p : Nat) : Nat := if x.2 (p + 3) = 46 then 1 else 0
def lnV (g : pG) (x : pX) (v : pV) (p : Nat) : pV := vAdd v (lnFd g x p) (x.2 (p + 2) - 48) (lnMe x p)
def lnOk (g : pG) (x : pX) (v : pV) (p : Nat) : Prop := vN v < 8 ∧ lnR g x p ∧ (lnC g x p ∧ sOn v (lnFd g x p) = none) ∧ lnW x p ∧ lnM x p
def lnQ (g : pG) (x : pX) (v : pV) (p q : Nat) : Prop := (vN v = 8 ∧ q = p) ∨ (vN v < 8 ∧ ¬ lnR g x p ∧ q = p) ∨ (vN v < 8 ∧ lnR g x p ∧ ¬ (lnC g x p ∧ sOn v (lnFd g x p) = none) ∧ q = p + 1) ∨ (vN v < 8 ∧ lnR g x p ∧ (lnC g x p ∧ sOn v (lnFd g x p) = none) ∧ ¬ lnW x p ∧ q = p + 2) ∨ (vN v < 8 ∧ lnR g x p ∧ (lnC g x p ∧ sOn v (lnFd g x p) = none) ∧ lnW x p ∧ ¬ lnM x p ∧ q = p + 3)
theorem ln_or {g : pG} {x : pX} {v : pV} {p : Nat} (h8 : vN v ≤ 8) : lnOk g x v p ∨ ∃ q, lnQ g x v p q := by
  rcases Classical.em (vN v = 8) with z0 | z0
  · exact Or.inr ⟨p, Or.inl ⟨z0, rfl⟩⟩
  have z0 : vN v < 8 := by omega
  rcases Classical.em (lnR g x p) with z1 | z1
  · rcases Classical.em (lnC g x p ∧ sOn v (lnFd g x p) = none) with z2 | z2
    · rcases Classical.em (lnW x p) with z3 | z3
      · rcases Classical.em (lnM x p) with z4 | z4
        · exact Or.inl ⟨z0, z1, z2, z3, z4⟩
        · exact Or.inr ⟨_, Or.inr (Or.inr (Or.inr (Or.inr ⟨z0, z1, z2, z3, z4, rfl⟩)))⟩
      · exact Or.inr ⟨_, Or.inr (Or.inr (Or.inr (Or.inl ⟨z0, z1, z2, z3, rfl⟩)))⟩
    · exact Or.inr ⟨_, Or.inr (Or.inr (Or.inl ⟨z0, z1, z2, rfl⟩))⟩
  · exact Or.inr ⟨_, Or.inr (Or.inl ⟨z0, z1, rfl⟩)⟩
def wlB (g : pG) (x : pX) : Nat → Nat → pV → Nat → Prop
  | 0, p, v, q => lnQ g x v p q ∨ (lnOk g x v p ∧ p + 4 < x.1 ∧ ¬ lnS x p ∧ q = p + 4)
  | d + 1, p, v, q => lnOk g x v p ∧ lnS x p ∧ wlB g x d (p + 5) (lnV g x v p) q
def wlG (g : pG) (x : pX) : Nat → Nat → pV → pV → Prop
  | 0, p, v, v' => lnOk g x v p ∧ x.1 ≤ p + 4 ∧ v' = lnV g x v p
  | d + 1, p, v, v' => lnOk g x v p ∧ lnS x p ∧ wlG g x d (p + 5) (lnV g x v p) v'
theorem wl_or {g : pG} {x : pX} : ∀ (e p : Nat) (v : pV), vN v + e = 8 → (∃ d q, d ≤ e ∧ wlB g x d p v q) ∨ ∃ d v', d ≤ e ∧ wlG g x d p v v' := by
  intro e
  induction e with
  | zero =>
    intro p v hv
    exact Or.inl ⟨0, p, Nat.le_refl _, Or.inl (Or.inl ⟨by omega, rfl⟩)⟩
  | succ e ih =>
    intro p v hv
    rcases ln_or (g := g) (x := x) (v := v) (p := p) (by omega) with z | ⟨q, z⟩
    · by_cases y : x.1 ≤ p + 4
      · exact Or.inr ⟨0, _, by omega, z, y, rfl⟩
      · rcases Classical.em (lnS x p) with y2 | y2
        · have hN : vN (lnV g x v p) = vN v + 1 := rfl
          rcases ih (p + 5) (lnV g x v p) (by omega) with ⟨d, q, h1, h2⟩ | ⟨d, v', h1, h2⟩
          · exact Or.inl ⟨d + 1, q, by omega, z, y2, h2⟩
          · exact Or.inr ⟨d + 1, v', by omega, z, y2, h2⟩
        · exact Or.inl ⟨0, p + 4, by omega, Or.inr ⟨z, by omega, y2, rfl⟩⟩
    · exact Or.inl ⟨0, q, by omega, Or.inl z⟩
theorem lnFd_lt {g : pG} {x : pX} {p : Nat} (h1 : lnR g x p) (h2 : lnC g x p) : lnFd g x p < gRw g * gCo g := by
  obtain ⟨-, a1, a2⟩ := h1
  obtain ⟨-, b1, b2⟩ := h2
  have h3 : (x.2 p - 48 + 1) * gCo g ≤ gRw g * gCo g := Nat.mul_le_mul_right _ (by omega)
  rw [Nat.add_mul, Nat.one_mul] at h3
  unfold lnFd
  omega
theorem lnV_ok {g : pG} {x : pX} {v : pV} {p : Nat} (wv : WV g v) (h : lnOk g x v p) : WV g (lnV g x v p) := by
  obtain ⟨h0, h1, ⟨h2, h3⟩, h4, h5⟩ := h
  have := h4.2
  exact wv.add h0 (lnFd_lt h1 h2) ⟨by omega, by omega⟩ (by unfold lnMe; split <;> omega) h3
theorem lnQ_lt {g : pG} {x : pX} {v : pV} {p q : Nat} (h : lnQ g x v p q) (hp : p ≤ 50) : q < 100 := by
  rcases h with h | h | h | h | h <;> omega
section WELLSC
variable {L N : Nat} {S T : gS} {c : Nat} {g : pG} {v v' : pV} {x : pX} {l : List Int64} {u : pX} {n : pN} {k : Nat → Option pV} {h : pH} {A : pA}
theorem C_fieldAt_f {r : Nat} {y : Int32} (cg : CG S g) (wg : WG g) (hr : r < gRw g) (hy : y < 0 ∨ (¬ y < 0 ∧ nI (gCo g) ≤ y)) : f_c1_fieldAt N 15 (nI r) y (mk L S) = some (-1) := by
  have h1 := wg.2.1
  unfold f_c1_fieldAt
  rw [zc15, Option.bind_some, iltz (by omega), zi15_0, Option.bind_some, cg.1, ile_f hr (by omega)]
  rcases hy with hy | ⟨h0, hy⟩
  · rw [if_pos hy, Option.bind_some, i00, Option.bind_some]
  · rw [if_neg h0, zi15_1, Option.bind_some, cg.2.1, if_pos hy, Option.bind_some, i00, Option.bind_some]
theorem C_lnQ {p q i kk : Nat} (cg : CG S g) (ct : CT S x) (hx : XOk x 80) (cv : CV S 25 v) (wg : WG g) (wv : WV g v) (hi : i ≤ vN v) (hp : p ≤ 50) (hq : lnQ g x v p q) (hN : 900 ≤ N) :
    lp_c10_readLines_4 N 10 25 (kk + 1) (nI p) (nI i) (mk L S) = some (.inl (nI q, mk L S)) ∨ lp_c10_readLines_4 N 10 25 (kk + 1) (nI p) (nI i) (mk L S) = some (.inr (nI q, mk L S)) := by
  have h8 := wv.1
  rcases Classical.em (vN v = 8) with z8 | z8
  · right
    have hqp : q = p := by
      rcases hq with h | h | h | h | h <;> omega
    rw [lp_c10_readLines_4.eq_2, k8, hqp]
    by_cases y : 8 ≤ i
    · rw [ile_t y (by omega)]
    · rw [ile_f (by omega) (by omega), qi0 SA_25, Option.bind_some, cv.1, ile_t (by omega) (by omega)]
  · left
    have z8 : vN v < 8 := by omega
    have hq2 : (¬ lnR g x p ∧ q = p) ∨ (lnR g x p ∧ ¬ (lnC g x p ∧ sOn v (lnFd g x p) = none) ∧ q = p + 1) ∨ (lnR g x p ∧ (lnC g x p ∧ sOn v (lnFd g x p) = none) ∧ ¬ lnW x p ∧ q = p + 2) ∨ (lnR g x p ∧ (lnC g x p ∧ sOn v (lnFd g x p) = none) ∧ lnW x p ∧ ¬ lnM x p ∧ q = p + 3) := by
      rcases hq with h | h | h | h | h
      · omega
      · exact Or.inl h.2
      · exact Or.inr (Or.inl h.2)
      · exact Or.inr (Or.inr (Or.inl h.2))
      · exact Or.inr (Or.inr (Or.inr h.2))
    have g1 := wg.2.1
    have g2 := wg.2.2.2.1
    rw [lp_c10_readLines_4.eq_2, k8, ile_f (by omega) (by omega), qi0 SA_25, Option.bind_some, cv.1, ile_f (by omega) (by omega), zr10_0, Option.bind_some, k39]
    rcases hq2 with ⟨hr, rfl⟩ | ⟨hr, hc, rfl⟩ | ⟨hr, hc, hw, rfl⟩ | ⟨hr, hc, hw, hm, rfl⟩
    · -- the row
      rcases Classical.em (q < x.1 ∧ q < 39 ∧ 48 ≤ x.2 q ∧ x.2 q ≤ 57) with y | y
      · have nr : ¬ (x.2 q < 48 + gRw g) := fun e => hr ⟨by omega, by omega, e⟩
        rw [C_dgc_t (cap := 39) ct hx y.1 y.2.1 (by omega) y.2.2.1 y.2.2.2, Option.bind_some, iltz (by omega), zr10_2, Option.bind_some, zi15_0, Option.bind_some, cg.1, ilt_f (by omega) (by omega)]
      · rw [C_dgc_f (cap := 39) ct hx (fun a b => by omega) (by omega) (by omega), Option.bind_some, if_pos (show (-1 : Int32) < 0 by decide)]
    all_goals
      have r1 := hr.1
      have r2 := hr.2.1
      have r3 := hr.2.2
      rw [C_dgc_t (i := p) (cap := 39) ct hx (by omega) (by omega) (by omega) (by omega) (by omega), Option.bind_some, iltz (by omega), zr10_2, Option.bind_some, zi15_0, Option.bind_some, cg.1, ilt_t (by omega) (by omega), Option.bind_some, nI_1]
    · -- the column, or a well there
      rcases Classical.em (lnC g x p) with y | y
      · have c1 := y.1
        have c2 := y.2.1
        have c3 := y.2.2
        have hF := lnFd_lt hr y
        have h36 := wg.f
        cases ho : sOn v (lnFd g x p) with
        | none => exact absurd ⟨y, ho⟩ hc
        | some w =>
          have hw := fstN_some _ _ _ ho
          have eO := C_wellOn (L := L) (N := N) (f := lnFd g x p) SA_25 cv wg wv hN (by omega)
          rw [ho] at eO
          rw [C_dgc_t (i := p + 1) (cap := 39) ct hx (by omega) (by omega) (by omega) (by omega) (by omega), Option.bind_some, Option.bind_some, C_fieldAt_t cg wg (by omega) (by omega), Option.bind_some, iltz (by show (x.2 p - 48) * gCo g + (x.2 (p + 1) - 48) < 2147483648; have := hF; unfold lnFd at this; omega), show nI ((x.2 p - 48) * gCo g + (x.2 (p + 1) - 48)) = nI (lnFd g x p) from rfl, eO, Option.bind_some, show oI (some w) = nI w from rfl, iltz (by omega)]
      · rcases Classical.em (p + 1 < x.1 ∧ p + 1 < 39 ∧ 48 ≤ x.2 (p + 1) ∧ x.2 (p + 1) ≤ 57) with y2 | y2
        · have nc : ¬ (x.2 (p + 1) < 48 + gCo g) := fun e => y ⟨by omega, by omega, e⟩
          rw [C_dgc_t (i := p + 1) (cap := 39) ct hx y2.1 y2.2.1 (by omega) y2.2.2.1 y2.2.2.2, Option.bind_some, Option.bind_some, C_fieldAt_f cg wg (by omega) (Or.inr ⟨nI_pos (by omega), nI_le (by omega) (by omega)⟩), Option.bind_some, if_pos (show (-1 : Int32) < 0 by decide)]
        · rw [C_dgc_f (i := p + 1) (cap := 39) ct hx (fun a b => by omega) (by omega) (by omega), Option.bind_some, Option.bind_some, C_fieldAt_f cg wg (by omega) (Or.inl (by decide)), Option.bind_some, if_pos (show (-1 : Int32) < 0 by decide)]
    all_goals
      have c1 := hc.1.1
      have c2 := hc.1.2.1
      have c3 := hc.1.2.2
      have hF := lnFd_lt hr hc.1
      have h36 := wg.f
      have eO := C_wellOn (L := L) (N := N) (f := lnFd g x p) SA_25 cv wg wv hN (by omega)
      rw [hc.2] at eO
      rw [C_dgc_t (i := p + 1) (cap := 39) ct hx (by omega) (by omega) (by omega) (by omega) (by omega), Option.bind_some, Option.bind_some, C_fieldAt_t cg wg (by omega) (by omega), Option.bind_some, iltz (by show (x.2 p - 48) * gCo g + (x.2 (p + 1) - 48) < 2147483648; have := hF; unfold lnFd at this; omega), show nI ((x.2 p - 48) * gCo g + (x.2 (p + 1) - 48)) = nI (lnFd g x p) from rfl, eO, Option.bind_some, show oI (none : Option Nat) = -1 from rfl, if_pos (show (-1 : Int32) < 0 by decide), Option.bind_some, k2, nI_add]
    · -- the words
      rcases Classical.em (p + 2 < x.1 ∧ p + 2 < 39 ∧ 48 ≤ x.2 (p + 2) ∧ x.2 (p + 2) ≤ 57) with y2 | y2
      · have n0 : x.2 (p + 2) - 48 = 0 := by
          rcases Nat.lt_or_ge (x.2 (p + 2)) 49 with e | e
          · omega
          · exact absurd ⟨by omega, e, y2.2.2.2⟩ hw
        rw [C_dgc_t (i := p + 2) (cap := 39) ct hx y2.1 y2.2.1 (by omega) y2.2.2.1 y2.2.2.2, Option.bind_some, n0, if_neg (show ¬ (1 : Int32) ≤ nI 0 by decide)]
      · rw [C_dgc_f (i := p + 2) (cap := 39) ct hx (fun a b => by omega) (by omega) (by omega), Option.bind_some, if_neg (show ¬ (1 : Int32) ≤ -1 by decide)]
    · -- the mark
      have w1 := hw.1
      have w2 := hw.2.1
      have w3 := hw.2.2
      rw [C_dgc_t (i := p + 2) (cap := 39) ct hx (by omega) (by omega) (by omega) (by omega) (by omega), Option.bind_some, if_pos (show (1 : Int32) ≤ nI (x.2 (p + 2) - 48) from nI_le (a := 1) (by omega) (by omega)), Option.bind_some, k3, nI_add]
      rcases Classical.em (p + 3 < x.1 ∧ p + 3 < 39) with y2 | y2
      · have hb := hx.2 (p + 3) y2.1
        have m1 : ¬ nI (x.2 (p + 3)) = 46 := fun e => hm ⟨by omega, Or.inl ((nI_eq (b := 46) (by omega) (by omega)).mp e)⟩
        have m2 : ¬ nI (x.2 (p + 3)) = 44 := fun e => hm ⟨by omega, Or.inr ((nI_eq (b := 44) (by omega) (by omega)).mp e)⟩
        rw [C_atc_t (i := p + 3) (cap := 39) ct hx y2.1 y2.2 (by omega), Option.bind_some, if_neg m1, if_neg m2]
      · rw [C_atc_f (i := p + 3) (cap := 39) ct hx (by omega) (by omega), Option.bind_some, if_neg (show ¬ (-1 : Int32) = 46 by decide), if_neg (show ¬ (-1 : Int32) = 44 by decide)]
theorem C_lnOk {p i kk : Nat} (cg : CG S g) (ct : CT S x) (hx : XOk x 80) (cv : CV S 25 v) (wg : WG g) (wv : WV g v) (hi : i ≤ vN v) (hp : p ≤ 50) (hq : lnOk g x v p) (hN : 900 ≤ N) :
    ∃ S', Fr (fun y => 25 ≤ y ∧ y ≤ 30) S S' ∧ CV S' 25 (lnV g x v p) ∧ (x.1 ≤ p + 4 → lp_c10_readLines_4 N 10 25 (kk + 1) (nI p) (nI i) (mk L S) = some (.inl (-1, mk L S'))) ∧ (lnS x p → lp_c10_readLines_4 N 10 25 (kk + 1) (nI p) (nI i) (mk L S) = lp_c10_readLines_4 N 10 25 kk (nI (p + 5)) (nI (i + 1)) (mk L S')) ∧ (p + 4 < x.1 → ¬ lnS x p → lp_c10_readLines_4 N 10 25 (kk + 1) (nI p) (nI i) (mk L S) = some (.inl (nI (p + 4), mk L S'))) := by
  have h8 := wv.1
  have h36 := wg.f
  have g1 := wg.2.1
  have g2 := wg.2.2.2.1
  obtain ⟨z8, hr, hc, hw, hm⟩ := hq
  have r1 := hr.1
  have r2 := hr.2.1
  have r3 := hr.2.2
  have c1 := hc.1.1
  have c2 := hc.1.2.1
  have c3 := hc.1.2.2
  have w1 := hw.1
  have w2 := hw.2.1
  have w3 := hw.2.2
  have m1 := hm.1
  have hb3 := hx.2 (p + 3) (by omega)
  have hF := lnFd_lt hr hc.1
  have eO := C_wellOn (L := L) (N := N) (f := lnFd g x p) SA_25 cv wg wv hN (by omega)
  rw [hc.2] at eO
  obtain ⟨S', e1, f1, v1⟩ := C_sayOn_ok (L := L) (N := N) (w := x.2 (p + 2) - 48) (m := lnMe x p) SA_25 cv wg wv hN (f := lnFd g x p) (by omega) hc.2 (by omega)
  have f1 : Fr (fun y => 25 ≤ y ∧ y ≤ 30) S S' := f1.mono (fun y hy => by omega)
  have ct1 : CT S' x := ct.fr f1 ⟨by omega, by omega⟩
  have eM : nI (lnMe x p) = if nI (x.2 (p + 3)) = 46 then (1 : Int32) else 0 := by
    unfold lnMe
    by_cases y : x.2 (p + 3) = 46
    · rw [if_pos y, if_pos (show nI (x.2 (p + 3)) = 46 by rw [y]; rfl)]; rfl
    · rw [if_neg y, if_neg (show ¬ nI (x.2 (p + 3)) = 46 from fun e => y ((nI_eq (b := 46) (by omega) (by omega)).mp e))]; rfl
  -- behind the saying
  have behind : ∀ (r : Option ((Int32 × gH) ⊕ (Int32 × gH))), ((gfR (mk L S') 10 10 0).bind fun v27 => (gfI (mk L S') v27 8 1).bind fun v28 => if nI (p + 4) < v28 then (gfR (mk L S') 10 10 0).bind fun v30 => (f_c8_at N v30 (nI (p + 4)) (nI 39) (mk L S')).bind fun q31 => if q31 = (59 : Int32) then lp_c10_readLines_4 N 10 25 kk (nI (p + 4) + 1) (nI i + 1) (mk L S') else some (.inl (nI (p + 4), mk L S')) else some (.inl ((-1 : Int32), mk L S'))) = r → lp_c10_readLines_4 N 10 25 (kk + 1) (nI p) (nI i) (mk L S) = r := by
    intro r hr2
    rw [lp_c10_readLines_4.eq_2, k8, ile_f (by omega) (by omega), qi0 SA_25, Option.bind_some, cv.1, ile_f (by omega) (by omega), zr10_0, Option.bind_some, k39, C_dgc_t (i := p) (cap := 39) ct hx (by omega) (by omega) (by omega) (by omega) (by omega), Option.bind_some, iltz (by omega), zr10_2, Option.bind_some, zi15_0, Option.bind_some, cg.1, ilt_t (by omega) (by omega), Option.bind_some, nI_1, C_dgc_t (i := p + 1) (cap := 39) ct hx (by omega) (by omega) (by omega) (by omega) (by omega), Option.bind_some, Option.bind_some, C_fieldAt_t cg wg (by omega) (by omega), Option.bind_some, iltz (by show (x.2 p - 48) * gCo g + (x.2 (p + 1) - 48) < 2147483648; have := hF; unfold lnFd at this; omega), show nI ((x.2 p - 48) * gCo g + (x.2 (p + 1) - 48)) = nI (lnFd g x p) from rfl, eO, Option.bind_some, show oI (none : Option Nat) = -1 from rfl, if_pos (show (-1 : Int32) < 0 by decide), Option.bind_some, k2, nI_add, C_dgc_t (i := p + 2) (cap := 39) ct hx (by omega) (by omega) (by omega) (by omega) (by omega), Option.bind_some, if_pos (show (1 : Int32) ≤ nI (x.2 (p + 2) - 48) from nI_le (a := 1) (by omega) (by omega)), Option.bind_some, k3, nI_add, C_atc_t (i := p + 3) (cap := 39) ct hx (by omega) (by omega) (by omega), Option.bind_some, ← eM, e1, Option.bind_some, k4, nI_add]
    rcases hm.2 with y | y
    · rw [if_pos (show nI (x.2 (p + 3)) = 46 by rw [y]; rfl)]
      dsimp only
      exact hr2
    · rw [if_neg (show ¬ nI (x.2 (p + 3)) = 46 by rw [y]; decide), if_pos (show nI (x.2 (p + 3)) = 44 by rw [y]; rfl)]
      dsimp only
      exact hr2
  have e11 : S'.1 11 1 = nI x.1 := ct1.1
  have hx80 := hx.1
  refine ⟨S', f1, v1, fun y => behind _ ?_, fun y => behind _ ?_, fun y y2 => behind _ ?_⟩
  · rw [zr10_0, Option.bind_some, zi11_1, Option.bind_some, e11, ilt_f y (by omega)]
  · have y1 := y.1
    rw [zr10_0, Option.bind_some, zi11_1, Option.bind_some, e11, ilt_t (by omega) (by omega), Option.bind_some, C_atc_t (i := p + 4) (cap := 39) ct1 hx (by omega) (by omega) (by omega), Option.bind_some, if_pos (show nI (x.2 (p + 4)) = 59 by rw [y.2]; rfl), nI_1, nI_1]
  · rw [zr10_0, Option.bind_some, zi11_1, Option.bind_some, e11, ilt_t (by omega) (by omega), Option.bind_some]
    by_cases y3 : p + 4 < 39
    · have hb4 := hx.2 (p + 4) y
      rw [C_atc_t (i := p + 4) (cap := 39) ct1 hx (by omega) (by omega) (by omega), Option.bind_some, if_neg (show ¬ nI (x.2 (p + 4)) = 59 from fun e => y2 ⟨by omega, (nI_eq (b := 59) (by omega) (by omega)).mp e⟩)]
    · rw [C_atc_f (i := p + 4) (cap := 39) ct1 hx (by omega) (by omega), Option.bind_some, if_neg (show ¬ (-1 : Int32) = 59 by decide)]
theorem C_wlB : ∀ (d p i : Nat) (v : pV) (S : gS) (q kk : Nat), CG S g → CT S x → XOk x 80 → CV S 25 v → WG g → WV g v → i ≤ vN v → p = 5 * i → wlB g x d p v q → 900 ≤ N → ∃ S', Fr (fun y => 25 ≤ y ∧ y ≤ 30) S S' ∧ q < 100 ∧ (lp_c10_readLines_4 N 10 25 (kk + d + 1) (nI p) (nI i) (mk L S) = some (.inl (nI q, mk L S')) ∨ lp_c10_readLines_4 N 10 25 (kk + d + 1) (nI p) (nI i) (mk L S) = some (.inr (nI q, mk L S'))) := by
  intro d
  induction d with
  | zero =>
    intro p i v S q kk cg ct hx cv wg wv hi hp hq hN
    have h8 := wv.1
    rcases hq with hq | ⟨h1, h2, h3, h4⟩
    · exact ⟨S, Fr.refl, lnQ_lt hq (by omega), C_lnQ cg ct hx cv wg wv hi (by omega) hq hN⟩
    · obtain ⟨S', f1, -, -, -, e⟩ := C_lnOk (L := L) (N := N) (kk := kk) cg ct hx cv wg wv hi (by omega) h1 hN
      exact ⟨S', f1, by omega, Or.inl (by rw [h4]; exact e h2 h3)⟩
  | succ d ih =>
    intro p i v S q kk cg ct hx cv wg wv hi hp hq hN
    have h8 := wv.1
    obtain ⟨h1, h2, h3⟩ := hq
    obtain ⟨S1, f1, v1, -, e, -⟩ := C_lnOk (L := L) (N := N) (kk := kk + d + 1) cg ct hx cv wg wv hi (by omega) h1 hN
    have hNN : vN (lnV g x v p) = vN v + 1 := rfl
    obtain ⟨S2, f2, hq2, e2⟩ := ih (p + 5) (i + 1) (lnV g x v p) S1 q kk (cg.fr f1 (fun y a b => by omega)) (ct.fr f1 ⟨by omega, by omega⟩) hx v1 wg (lnV_ok wv h1) (by omega) (by omega) h3 hN
    refine ⟨S2, f1.trans f2 (fun _ z => z) (fun _ z => z), hq2, ?_⟩
    rw [show kk + (d + 1) + 1 = kk + d + 1 + 1 by omega, e h2]
    exact e2
theorem C_wlG : ∀ (d p i : Nat) (v : pV) (S : gS) (v' : pV) (kk : Nat), CG S g → CT S x → XOk x 80 → CV S 25 v → WG g → WV g v → i ≤ vN v → p = 5 * i → wlG g x d p v v' → 900 ≤ N → ∃ S', Fr (fun y => 25 ≤ y ∧ y ≤ 30) S S' ∧ CV S' 25 v' ∧ WV g v' ∧ vN v ≤ vN v' ∧ lp_c10_readLines_4 N 10 25 (kk + d + 1) (nI p) (nI i) (mk L S) = some (.inl (-1, mk L S')) := by
  intro d
  induction d with
  | zero =>
    intro p i v S v' kk cg ct hx cv wg wv hi hp hq hN
    have h8 := wv.1
    obtain ⟨h1, h2, h3⟩ := hq
    obtain ⟨S', f1, v1, e, -, -⟩ := C_lnOk (L := L) (N := N) (kk := kk) cg ct hx cv wg wv hi (by omega) h1 hN
    rw [h3]
    exact ⟨S', f1, v1, lnV_ok wv h1, Nat.le_succ _, e h2⟩
  | succ d ih =>
    intro p i v S v' kk cg ct hx cv wg wv hi hp hq hN
    have h8 := wv.1
    obtain ⟨h1, h2, h3⟩ := hq
    obtain ⟨S1, f1, v1, -, e, -⟩ := C_lnOk (L := L) (N := N) (kk := kk + d + 1) cg ct hx cv wg wv hi (by omega) h1 hN
    have hNN : vN (lnV g x v p) = vN v + 1 := rfl
    obtain ⟨S2, f2, v2, w2, n2, e2⟩ := ih (p + 5) (i + 1) (lnV g x v p) S1 v' kk (cg.fr f1 (fun y a b => by omega)) (ct.fr f1 ⟨by omega, by omega⟩) hx v1 wg (lnV_ok wv h1) (by omega) (by omega) h3 hN
    refine ⟨S2, f1.trans f2 (fun _ z => z) (fun _ z => z), v2, w2, by omega, ?_⟩
    rw [show kk + (d + 1) + 1 = kk + d + 1 + 1 by omega, e h2]
    exact e2
end WELLSC
