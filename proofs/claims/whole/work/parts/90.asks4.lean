/-! CALLS: asks, the end -/
section ASKSF
variable {L N : Nat} {S T : gS} {c : Nat} {g : pG} {v : pV} {x : pX} {l : List Int64} {u : pX} {n : pN} {k : Nat → Option pV} {h : pH} {A : pA} {p : Nat → Prop}
theorem M_ask0 {t y kk b : Nat} {a : Int32} (cg : MG T g) (cv : MW T 145 v) (wg : WG g) (wv : WV g v) (ht : t ≤ 3) (hy : y ≤ 9) (hz : 10 * t + y < 12 ∨ (29 < 10 * t + y ∧ 10 * t + y < 36)) (hb : b < 2000000) (hN : 900 ≤ N) :
    lp_c11_asks_26 N 144 (bMask p (vN v)) (mk L T) (kk + 1) a (nI b) (nI (10 * t + y)) = lp_c11_asks_26 N 144 (bMask p (vN v)) (mk L T) kk (if b ≤ aV g v p t y then a else nI (10 * t + y)) (nI (if b ≤ aV g v p t y then b else aV g v p t y)) (nI (10 * t + y + 1)) := by
  have h8 : vN v ≤ 8 := wv.1
  have a1 := bCn_le (p := p) (p' := fun w => p w ∧ hFit g v t y w) (vN v) (fun w z => z.1)
  have a2 := bCn_n (p := p) (vN v)
  have eM : gmax (nI (aC g v p t y)) (nI (bCn p (vN v)) - nI (aC g v p t y)) = nI (aV g v p t y) := by
    unfold aV aC
    rw [nI_sub a1, gmax_nI (by omega) (by omega)]
  have eV : aV g v p t y < 100 := by unfold aV aC; omega
  have e0 : f_c11_in N (nI (10 * t + y)) 12 29 (mk L T) = some 0 := by
    rcases hz with hz | ⟨hz, -⟩
    · exact M_in_l (nI_lt (b := 12) hz (by omega))
    · exact M_in_h (nI_lt (a := 29) hz (by omega))
  rw [lp_c11_asks_26.eq_2, k36, ile_f (show 10 * t + y < 36 by omega) (by omega), e0, Option.bind_some, if_pos (show (0 : Int32) = 0 from rfl), M_ask54 cg cv wg wv ht hy hN, Option.bind_some, bitC_e, Option.bind_some, bitC_n h8, eM, nI_1]
  by_cases z : b ≤ aV g v p t y
  · rw [ilt_f z (by omega), Option.bind_some, if_pos z, if_pos z]
  · rw [ilt_t (by omega) (by omega), Option.bind_some, if_neg z, if_neg z]
theorem M_ask1 {t y kk : Nat} {s : Nat × Nat} (cg : MG T g) (cv : MW T 145 v) (wg : WG g) (wv : WV g v) (ht : t ≤ 3) (hy : y ≤ 9) (hz : 10 * t + y < 12 ∨ (29 < 10 * t + y ∧ 10 * t + y < 36)) (hb : s.2 < 100) (hN : 900 ≤ N) :
    lp_c11_asks_26 N 144 (bMask p (vN v)) (mk L T) (kk + 1) (nI s.1) (nI s.2) (nI (10 * t + y)) = lp_c11_asks_26 N 144 (bMask p (vN v)) (mk L T) kk (nI (aT g v p t y s).1) (nI (aT g v p t y s).2) (nI (10 * t + y + 1)) := by
  rw [M_ask0 cg cv wg wv ht hy hz (by omega) hN]
  unfold aT
  by_cases z : s.2 ≤ aV g v p t y
  · rw [if_pos z, if_pos z, if_pos z]
  · rw [if_neg z, if_neg z, if_neg z]
theorem M_askW {t lo : Nat} {s : Nat × Nat} (cg : MG T g) (cv : MW T 145 v) (wg : WG g) (wv : WV g v) (ht : t ≤ 3) (hs : s.2 < 100 ∧ s.1 < 100) (hN : 900 ≤ N) : ∀ d, lo + d ≤ 10 → (10 * t + lo + d ≤ 12 ∨ (29 < 10 * t + lo ∧ 10 * t + lo + d ≤ 36)) → ∀ kk,
    lp_c11_asks_26 N 144 (bMask p (vN v)) (mk L T) (kk + d) (nI s.1) (nI s.2) (nI (10 * t + lo)) = lp_c11_asks_26 N 144 (bMask p (vN v)) (mk L T) kk (nI (aW g v p t lo d s).1) (nI (aW g v p t lo d s).2) (nI (10 * t + (lo + d))) := by
  have h8 : vN v ≤ 8 := wv.1
  intro d
  induction d with
  | zero => exact fun _ _ _ => rfl
  | succ d ih =>
    intro h1 h2 kk
    rw [show kk + (d + 1) = kk + 1 + d by omega, ih (by omega) (by omega)]
    exact M_ask1 cg cv wg wv ht (by omega) (by omega) (aW_lt h8 hs ht d (by omega)).1 hN
theorem M_askN {cd kk : Nat} {a b : Int32} (h1 : 12 ≤ cd) (h2 : cd ≤ 29) : lp_c11_asks_26 N 144 (bMask p (vN v)) (mk L T) (kk + 1) a b (nI cd) = lp_c11_asks_26 N 144 (bMask p (vN v)) (mk L T) kk a b (nI (cd + 1)) := by
  have e0 : f_c11_in N (nI cd) 12 29 (mk L T) = some 1 := M_inT (lo := 12) (hi := 29) h1 h2 (by omega)
  rw [lp_c11_asks_26.eq_2, k36, ile_f (show cd < 36 by omega) (by omega), e0, Option.bind_some, if_neg (show ¬ (1 : Int32) = 0 by decide), Option.bind_some, nI_1]
theorem M_askS {a b : Int32} : ∀ d, d ≤ 18 → ∀ kk, lp_c11_asks_26 N 144 (bMask p (vN v)) (mk L T) (kk + d) a b (nI 12) = lp_c11_asks_26 N 144 (bMask p (vN v)) (mk L T) kk a b (nI (12 + d)) := by
  intro d
  induction d with
  | zero => exact fun _ _ => rfl
  | succ d ih =>
    intro h1 kk
    rw [show kk + (d + 1) = kk + 1 + d by omega, ih (by omega)]
    exact M_askN (by omega) (by omega)
theorem M_ask26 (cg : MG T g) (cv : MW T 145 v) (wg : WG g) (wv : WV g v) (hN : 900 ≤ N) : lp_c11_asks_26 N 144 (bMask p (vN v)) (mk L T) N (-1) 1000000 1 = some (nI (aAll g v p).1, nI (aAll g v p).2) := by
  have h8 : vN v ≤ 8 := wv.1
  have hb := (aV_lt (g := g) (v := v) (p := p) (t := 0) (y := 1) h8)
  have s0 : ((0, bCn p (vN v) + 1) : Nat × Nat).2 < 100 ∧ ((0, bCn p (vN v) + 1) : Nat × Nat).1 < 100 := ⟨by show bCn p (vN v) + 1 < 100; omega, by show 0 < 100; omega⟩
  have s1 := aW_lt (g := g) (p := p) (t := 0) (lo := 1) h8 s0 (by omega) 9 (by omega)
  have s2 := aW_lt (g := g) (p := p) (t := 1) (lo := 0) h8 s1 (by omega) 2 (by omega)
  have w0 : ∀ d, d + 1 ≤ 9 → ∀ kk, lp_c11_asks_26 N 144 (bMask p (vN v)) (mk L T) (kk + (d + 1)) (-1) 1000000 1 = lp_c11_asks_26 N 144 (bMask p (vN v)) (mk L T) kk (nI (aW g v p 0 1 (d + 1) (0, bCn p (vN v) + 1)).1) (nI (aW g v p 0 1 (d + 1) (0, bCn p (vN v) + 1)).2) (nI (10 * 0 + (1 + (d + 1)))) := by
    intro d
    induction d with
    | zero =>
      intro _ kk
      have e := M_ask0 (L := L) (N := N) (p := p) (t := 0) (y := 1) (kk := kk) (b := 1000000) (a := -1) cg cv wg wv (by omega) (by omega) (by omega) (by omega) hN
      rw [if_neg (show ¬ 1000000 ≤ aV g v p 0 1 by omega), if_neg (show ¬ 1000000 ≤ aV g v p 0 1 by omega)] at e
      have ea : aW g v p 0 1 (0 + 1) (0, bCn p (vN v) + 1) = (10 * 0 + (1 + 0), aV g v p 0 1) := by
        show aT g v p 0 (1 + 0) (0, bCn p (vN v) + 1) = _
        unfold aT
        rw [if_neg (show ¬ bCn p (vN v) + 1 ≤ aV g v p 0 (1 + 0) by show ¬ bCn p (vN v) + 1 ≤ aV g v p 0 1; omega)]
      rw [ea]
      exact e
    | succ d ih =>
      intro hd kk
      rw [show kk + (d + 1 + 1) = kk + 1 + (d + 1) by omega, ih (by omega)]
      have e := M_ask1 (L := L) (N := N) (p := p) (t := 0) (y := 1 + (d + 1)) (kk := kk) (s := aW g v p 0 1 (d + 1) (0, bCn p (vN v) + 1)) cg cv wg wv (by omega) (by omega) (by omega) (aW_lt h8 s0 (by omega) (d + 1) (by omega)).1 hN
      exact e
  obtain ⟨N', hN'⟩ : ∃ N', N = N' + 1 + 6 + 18 + 2 + 9 := ⟨N - 36, by omega⟩
  have gen : lp_c11_asks_26 N 144 (bMask p (vN v)) (mk L T) (N' + 1 + 6 + 18 + 2 + 9) (-1) 1000000 1 = some (nI (aAll g v p).1, nI (aAll g v p).2) := by
    have e0 := w0 8 (by omega) (N' + 1 + 6 + 18 + 2)
    have e1 := M_askW (L := L) (N := N) (p := p) (t := 1) (lo := 0) cg cv wg wv (by omega) s1 hN 2 (by omega) (by omega) (N' + 1 + 6 + 18)
    have e2 := M_askS (L := L) (N := N) (v := v) (T := T) (p := p) (a := nI (aW g v p 1 0 2 (aW g v p 0 1 9 (0, bCn p (vN v) + 1))).1) (b := nI (aW g v p 1 0 2 (aW g v p 0 1 9 (0, bCn p (vN v) + 1))).2) 18 (by omega) (N' + 1 + 6)
    have e3 := M_askW (L := L) (N := N) (p := p) (t := 3) (lo := 0) cg cv wg wv (by omega) s2 hN 6 (by omega) (by omega) (N' + 1)
    refine e0.trans (e1.trans (e2.trans (e3.trans ?_)))
    show lp_c11_asks_26 N 144 (bMask p (vN v)) (mk L T) (N' + 1) (nI (aAll g v p).1) (nI (aAll g v p).2) (nI 36) = _
    rw [lp_c11_asks_26.eq_2, k36, ile_t (Nat.le_refl _) (by omega)]
  rw [← hN'] at gen
  exact gen
theorem A_asks (w : WA A) (q : CA S A) (m : MA S A c) (hN : 900 ≤ N) : Agr L S c (f_c10_asks N 10) (f_c11_asks N 144) := by
  obtain ⟨g, v, x, l, u, n, k, h⟩ := A
  have wv : WV g v := w.2.1
  have wg : WG g := w.1
  have h8 : vN v ≤ 8 := wv.1
  have eC := C_fitting (L := L) (N := N) q w hN
  by_cases z : bMask (hAll g v h h.1) (vN v) = 0
  · refine AgrR w q m (r := -2) ?_ (fun T _ t1 => ?_)
    · unfold f_c10_asks
      rw [zc10, Option.bind_some, zr10_8, Option.bind_some, zr10_3, Option.bind_some, zr10_2, Option.bind_some, eC, Option.bind_some, if_pos z]
    · unfold f_c11_asks
      rw [zc144, Option.bind_some, zs144_10, Option.bind_some, M_fitting (L := L) (N := N) t1 w hN, Option.bind_some, if_pos z]
  · obtain ⟨S2, e2, q2, f2⟩ := C_tell1A (L := L) (N := N) (r := nI (aAll g v (hAll g v h h.1)).1) (y := (nI (aAll g v (hAll g v h h.1)).2).toInt64) q
    refine AgrI (c' := c) m (r := nI (aAll g v (hAll g v h h.1)).1) (S1 := S2) ?_ f2 q2 (w.rw (by show 1 ≤ 8; omega)) (by omega) (fun T mt => ?_)
    · unfold f_c10_asks
      rw [zc10, Option.bind_some, zr10_8, Option.bind_some, zr10_3, Option.bind_some, zr10_2, Option.bind_some, eC, Option.bind_some, if_neg z, bitC_e, Option.bind_some, bitC_n h8, C_asks38 q.1 q.2.1 wg wv hN, Option.bind_some, e2, Option.bind_some]
    · have t1 := mt.thr
      obtain ⟨T1, g1, t2, h1, k1'⟩ := M_t1 (L := L) (N := N) (y := (nI (aAll g v (hAll g v h h.1)).2).toInt64) t1
      refine ⟨T1, ?_, highTr thrH h1, t2⟩
      unfold f_c11_asks
      rw [zc144, Option.bind_some, zs144_10, Option.bind_some, M_fitting (L := L) (N := N) t1 w hN, Option.bind_some, if_neg z, M_ask26 t1.1 t1.2.1 wg wv hN, Option.bind_some, zs144_9, Option.bind_some, g1, Option.bind_some]
end ASKSF
