/-! CALLS: asks, all of it -/
section ASKSE
variable {L N : Nat} {S T : gS} {c : Nat} {g : pG} {v : pV} {x : pX} {l : List Int64} {u : pX} {n : pN} {k : Nat → Option pV} {h : pH} {A : pA} {p : Nat → Prop}
noncomputable def aW (g : pG) (v : pV) (p : Nat → Prop) (t lo : Nat) : Nat → Nat × Nat → Nat × Nat
  | 0, s => s
  | d + 1, s => aT g v p t (lo + d) (aW g v p t lo d s)
def aH (t : Nat) : Nat := if t = 0 then 9 else if t = 1 then 1 else 5
theorem aV_lt {t y : Nat} (h8 : vN v ≤ 8) : aV g v p t y ≤ bCn p (vN v) ∧ bCn p (vN v) ≤ 8 := by
  have a1 := bCn_le (p := p) (p' := fun w => p w ∧ hFit g v t y w) (vN v) (fun w z => z.1)
  have a2 := bCn_n (p := p) (vN v)
  unfold aV aC
  omega
theorem aT_lt {t y : Nat} {s : Nat × Nat} (h8 : vN v ≤ 8) (hs : s.2 < 100 ∧ s.1 < 100) (ht : t ≤ 3) (hy : y ≤ 9) : (aT g v p t y s).2 < 100 ∧ (aT g v p t y s).1 < 100 := by
  have := aV_lt (g := g) (p := p) (t := t) (y := y) h8
  unfold aT
  split
  · exact hs
  · exact ⟨by show aV g v p t y < 100; omega, by show 10 * t + y < 100; omega⟩
theorem aW_lt {t lo : Nat} {s : Nat × Nat} (h8 : vN v ≤ 8) (hs : s.2 < 100 ∧ s.1 < 100) (ht : t ≤ 3) : ∀ d, lo + d ≤ 10 → (aW g v p t lo d s).2 < 100 ∧ (aW g v p t lo d s).1 < 100 := by
  intro d
  induction d with
  | zero => exact fun _ => hs
  | succ d ih => exact fun hd => aT_lt h8 (ih (by omega)) ht (by omega)
theorem C_ask55 {t lo : Nat} {s : Nat × Nat} (cg : CG S g) (cv : CV S 19 v) (wg : WG g) (wv : WV g v) (ht : t ≤ 3) (h2 : t ≠ 2) (hs : s.2 < 100 ∧ s.1 < 100) (hl : lo ≤ aH t + 1) (hN : 900 ≤ N) :
    lp_c10_asks_55 N 10 (bMask p (vN v)) (nI (bCn p (vN v))) (nI t) (mk L S) N (nI s.1) (nI s.2) (nI lo) = some (nI (aW g v p t lo (aH t + 1 - lo) s).1, nI (aW g v p t lo (aH t + 1 - lo) s).2) := by
  have h8 : vN v ≤ 8 := wv.1
  have hH : aH t ≤ 9 := by
    unfold aH
    split
    · omega
    · split <;> omega
  have walk : ∀ d, lo + d ≤ aH t + 1 → ∀ kk, lp_c10_asks_55 N 10 (bMask p (vN v)) (nI (bCn p (vN v))) (nI t) (mk L S) (kk + d) (nI s.1) (nI s.2) (nI lo) = lp_c10_asks_55 N 10 (bMask p (vN v)) (nI (bCn p (vN v))) (nI t) (mk L S) kk (nI (aW g v p t lo d s).1) (nI (aW g v p t lo d s).2) (nI (lo + d)) := by
    intro d
    induction d with
    | zero => exact fun _ _ => rfl
    | succ d ih =>
      intro hd kk
      rw [show kk + (d + 1) = kk + 1 + d by omega, ih (by omega)]
      exact C_ask1 cg cv wg wv ht h2 (by show lo + d ≤ aH t; omega) (aW_lt h8 hs ht d (by omega)).1 hN
  have e := walk (aH t + 1 - lo) (by omega) (N - (aH t + 1 - lo) - 1 + 1)
  rw [show N - (aH t + 1 - lo) - 1 + 1 + (aH t + 1 - lo) = N by omega, show lo + (aH t + 1 - lo) = aH t + 1 by omega] at e
  rw [e, lp_c10_asks_55.eq_2]
  have c2 : ¬ nI t = 2 := fun e => h2 ((nI_eq (b := 2) (by omega) (by omega)).mp e)
  have eG : f_c2_greatest N 128 (nI t) (mk L S) = some (nI (aH t)) := by
    unfold f_c2_greatest
    rw [zc128, Option.bind_some]
    rcases (show t = 0 ∨ t = 1 ∨ t = 3 by omega) with rfl | rfl | rfl
    · rfl
    · rfl
    · rfl
  rw [if_neg c2, zr10_8, Option.bind_some, eG, Option.bind_some, ilt_t (by omega) (by omega)]
noncomputable def aAll (g : pG) (v : pV) (p : Nat → Prop) : Nat × Nat := aW g v p 3 0 6 (aW g v p 1 0 2 (aW g v p 0 1 9 (0, bCn p (vN v) + 1)))
theorem C_asks38 (cg : CG S g) (cv : CV S 19 v) (wg : WG g) (wv : WV g v) (hN : 900 ≤ N) : lp_c10_asks_38 N 10 (bMask p (vN v)) (nI (bCn p (vN v))) (mk L S) N 0 (nI (bCn p (vN v)) + 1) 0 = some (nI (aAll g v p).1, nI (aAll g v p).2) := by
  have h8 : vN v ≤ 8 := wv.1
  have hb := (aV_lt (g := g) (v := v) (p := p) (t := 0) (y := 0) h8).2
  obtain ⟨N', hN'⟩ : ∃ N', N = N' + 5 := ⟨N - 5, by omega⟩
  have s0 : ((0, bCn p (vN v) + 1) : Nat × Nat).2 < 100 ∧ ((0, bCn p (vN v) + 1) : Nat × Nat).1 < 100 := ⟨by show bCn p (vN v) + 1 < 100; omega, by show 0 < 100; omega⟩
  have s1 := aW_lt (g := g) (p := p) (t := 0) (lo := 1) h8 s0 (by omega) 9 (by omega)
  have s2 := aW_lt (g := g) (p := p) (t := 1) (lo := 0) h8 s1 (by omega) 2 (by omega)
  have e0 := C_ask55 (L := L) (N := N) (p := p) (t := 0) (lo := 1) cg cv wg wv (by omega) (by omega) s0 (by unfold aH; omega) hN
  have e1 := C_ask55 (L := L) (N := N) (p := p) (t := 1) (lo := 0) cg cv wg wv (by omega) (by omega) s1 (by omega) hN
  have e3 := C_ask55 (L := L) (N := N) (p := p) (t := 3) (lo := 0) cg cv wg wv (by omega) (by omega) s2 (by omega) hN
  have e2 : ∀ a b d : Int32, lp_c10_asks_55 N 10 (bMask p (vN v)) (nI (bCn p (vN v))) 2 (mk L S) N a b d = some (a, b) := by
    intro a b d
    have : ∀ kk, lp_c10_asks_55 N 10 (bMask p (vN v)) (nI (bCn p (vN v))) 2 (mk L S) (kk + 1) a b d = some (a, b) := fun kk => by
      rw [lp_c10_asks_55.eq_2, if_pos rfl]
    have e := this (N' + 4)
    rw [show N' + 4 + 1 = N by omega] at e
    exact e
  have l0 : f_c2_least N 128 0 (mk L S) = some 1 := by
    unfold f_c2_least; rw [zc128]; rfl
  have l1 : f_c2_least N 128 1 (mk L S) = some 0 := by
    unfold f_c2_least; rw [zc128]; rfl
  have l2 : f_c2_least N 128 2 (mk L S) = some 0 := by
    unfold f_c2_least; rw [zc128]; rfl
  have l3 : f_c2_least N 128 3 (mk L S) = some 0 := by
    unfold f_c2_least; rw [zc128]; rfl
  have q0 : lp_c10_asks_55 N 10 (bMask p (vN v)) (nI (bCn p (vN v))) 0 (mk L S) N 0 (nI (bCn p (vN v)) + 1) 1 = some (nI (aW g v p 0 1 9 (0, bCn p (vN v) + 1)).1, nI (aW g v p 0 1 9 (0, bCn p (vN v) + 1)).2) := by
    rw [nI_1]; exact e0
  have q1 : lp_c10_asks_55 N 10 (bMask p (vN v)) (nI (bCn p (vN v))) 1 (mk L S) N (nI (aW g v p 0 1 9 (0, bCn p (vN v) + 1)).1) (nI (aW g v p 0 1 9 (0, bCn p (vN v) + 1)).2) 0 = some (nI (aW g v p 1 0 2 (aW g v p 0 1 9 (0, bCn p (vN v) + 1))).1, nI (aW g v p 1 0 2 (aW g v p 0 1 9 (0, bCn p (vN v) + 1))).2) := e1
  have q3 : lp_c10_asks_55 N 10 (bMask p (vN v)) (nI (bCn p (vN v))) 3 (mk L S) N (nI (aW g v p 1 0 2 (aW g v p 0 1 9 (0, bCn p (vN v) + 1))).1) (nI (aW g v p 1 0 2 (aW g v p 0 1 9 (0, bCn p (vN v) + 1))).2) 0 = some (nI (aAll g v p).1, nI (aAll g v p).2) := e3
  have gen : lp_c10_asks_38 N 10 (bMask p (vN v)) (nI (bCn p (vN v))) (mk L S) (N' + 5) 0 (nI (bCn p (vN v)) + 1) 0 = some (nI (aAll g v p).1, nI (aAll g v p).2) := by
    rw [lp_c10_asks_38.eq_2, if_neg (by decide), zr10_8, Option.bind_some, l0, Option.bind_some, q0, Option.bind_some, show (0 : Int32) + 1 = 1 by decide]
    dsimp only
    rw [lp_c10_asks_38.eq_2, if_neg (by decide), zr10_8, Option.bind_some, l1, Option.bind_some, q1, Option.bind_some, show (1 : Int32) + 1 = 2 by decide]
    dsimp only
    rw [lp_c10_asks_38.eq_2, if_neg (by decide), zr10_8, Option.bind_some, l2, Option.bind_some, e2, Option.bind_some, show (2 : Int32) + 1 = 3 by decide]
    dsimp only
    rw [lp_c10_asks_38.eq_2, if_neg (by decide), zr10_8, Option.bind_some, l3, Option.bind_some, q3, Option.bind_some, show (3 : Int32) + 1 = 4 by decide]
    dsimp only
    rw [lp_c10_asks_38.eq_2, if_pos (by decide)]
  rw [← hN'] at gen
  exact gen
end ASKSE
