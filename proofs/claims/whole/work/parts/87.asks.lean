/-! CALLS: asks -/
section ASKS
variable {L N : Nat} {S T : gS} {c : Nat} {g : pG} {v : pV} {x : pX} {l : List Int64} {u : pX} {n : pN} {k : Nat → Option pV} {h : pH} {A : pA} {p : Nat → Prop}
noncomputable def aC (g : pG) (v : pV) (p : Nat → Prop) (t y : Nat) : Nat := bCn (fun w => p w ∧ hFit g v t y w) (vN v)
noncomputable def aV (g : pG) (v : pV) (p : Nat → Prop) (t y : Nat) : Nat := max (aC g v p t y) (bCn p (vN v) - aC g v p t y)
/-- the best code (first) and its value (second), one more looked at -/
noncomputable def aT (g : pG) (v : pV) (p : Nat → Prop) (t y : Nat) (s : Nat × Nat) : Nat × Nat := if s.2 ≤ aV g v p t y then s else (10 * t + y, aV g v p t y)
theorem bCn_le {p p' : Nat → Prop} : ∀ n, (∀ w, p' w → p w) → bCn p' n ≤ bCn p n := by
  intro n hp
  induction n with
  | zero => exact Nat.le_refl _
  | succ n ih =>
    by_cases z : p' n
    · rw [bCn_t z, bCn_t (hp n z)]; omega
    · rw [bCn_f z]
      by_cases y : p n
      · rw [bCn_t y]; omega
      · rw [bCn_f y]; exact ih
theorem bCn_n {p : Nat → Prop} : ∀ n, bCn p n ≤ n := by
  intro n
  induction n with
  | zero => exact Nat.le_refl _
  | succ n ih =>
    by_cases z : p n
    · rw [bCn_t z]; omega
    · rw [bCn_f z]; omega
theorem C_ask1 {t y kk : Nat} {s : Nat × Nat} (cg : CG S g) (cv : CV S 19 v) (wg : WG g) (wv : WV g v) (ht : t ≤ 3) (h2 : t ≠ 2) (hy : y ≤ (if t = 0 then 9 else if t = 1 then 1 else 5)) (hs : s.2 < 100) (hN : 900 ≤ N) :
    lp_c10_asks_55 N 10 (bMask p (vN v)) (nI (bCn p (vN v))) (nI t) (mk L S) (kk + 1) (nI s.1) (nI s.2) (nI y) = lp_c10_asks_55 N 10 (bMask p (vN v)) (nI (bCn p (vN v))) (nI t) (mk L S) kk (nI (aT g v p t y s).1) (nI (aT g v p t y s).2) (nI (y + 1)) := by
  have h8 : vN v ≤ 8 := wv.1
  have c2 : ¬ nI t = 2 := fun e => h2 ((nI_eq (b := 2) (by omega) (by omega)).mp e)
  have hy9 : y ≤ 9 := by
    by_cases z0 : t = 0
    · rw [if_pos z0] at hy; exact hy
    · rw [if_neg z0] at hy
      by_cases z1 : t = 1
      · rw [if_pos z1] at hy; omega
      · rw [if_neg z1] at hy; omega
  have eG : ∃ m, f_c2_greatest N 128 (nI t) (mk L S) = some (nI m) ∧ y ≤ m ∧ m < 100 := by
    unfold f_c2_greatest
    rw [zc128, Option.bind_some]
    rcases (show t = 0 ∨ t = 1 ∨ t = 3 by omega) with rfl | rfl | rfl
    · exact ⟨9, rfl, hy9, by omega⟩
    · exact ⟨1, rfl, by simpa using hy, by omega⟩
    · exact ⟨5, rfl, by simpa using hy, by omega⟩
  obtain ⟨m, e1, m1, m2⟩ := eG
  have a1 := bCn_le (p := p) (p' := fun w => p w ∧ hFit g v t y w) (vN v) (fun w z => z.1)
  have a2 := bCn_n (p := p) (vN v)
  have eM : gmax (nI (aC g v p t y)) (nI (bCn p (vN v)) - nI (aC g v p t y)) = nI (aV g v p t y) := by
    unfold aV aC
    rw [nI_sub a1, gmax_nI (by omega) (by omega)]
  have eV : aV g v p t y < 100 := by unfold aV aC; omega
  rw [lp_c10_asks_55.eq_2, if_neg c2, zr10_8, Option.bind_some, e1, Option.bind_some, ilt_f m1 (by omega), Option.bind_some, zr10_3, Option.bind_some, zr10_2, Option.bind_some, C_narrow cg cv wg wv (by omega) (by omega) hN, Option.bind_some, bitC_e, Option.bind_some, bitC_n h8]
  show ((if nI s.2 ≤ gmax (nI (aC g v p t y)) (nI (bCn p (vN v)) - nI (aC g v p t y)) then some (nI s.1, nI s.2) else some ((10 : Int32) * nI t + nI y, gmax (nI (aC g v p t y)) (nI (bCn p (vN v)) - nI (aC g v p t y)))).bind fun t20 => lp_c10_asks_55 N 10 (bMask p (vN v)) (nI (bCn p (vN v))) (nI t) (mk L S) kk t20.1 t20.2 (nI y + 1)) = _
  rw [eM, nI_1]
  unfold aT
  by_cases z : s.2 ≤ aV g v p t y
  · rw [ile_t z (by omega), if_pos z, Option.bind_some]
  · rw [ile_f (by omega) (by omega), if_neg z, Option.bind_some, k10, nI_mul, nI_add]
end ASKS
