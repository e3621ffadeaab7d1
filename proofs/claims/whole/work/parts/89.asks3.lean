/-! CALLS: asks, the reference -/
section ASKSM
variable {L N : Nat} {S T : gS} {c : Nat} {g : pG} {v : pV} {x : pX} {l : List Int64} {u : pX} {n : pN} {k : Nat → Option pV} {h : pH} {A : pA} {p : Nat → Prop}
theorem M_has {m j : Nat} {hh : gH} (hn : m ≤ 32) (hj : j < m) : ∃ r, f_c11_has N (bMask p m) (nI j) hh = some r ∧ isB r (p j) := by
  have hb := bMask_bit (p := p) (n := m) (j := j) hn (by omega)
  unfold f_c11_has
  by_cases z : p j
  · refine ⟨1, ?_, Or.inl ⟨z, rfl⟩⟩
    rw [if_pos (hb.mpr ⟨hj, z⟩)]
    rfl
  · refine ⟨0, ?_, Or.inr ⟨z, rfl⟩⟩
    rw [if_neg (fun q => z (hb.mp q).2)]
    rfl
theorem M_ask54 {t y : Nat} (cg : MG T g) (cv : MW T 145 v) (wg : WG g) (wv : WV g v) (ht : t ≤ 3) (hy : y ≤ 9) (hN : 900 ≤ N) : lp_c11_asks_54 N 144 (bMask p (vN v)) (nI (10 * t + y)) (mk L T) N 0 0 = some (nI (aC g v p t y)) := by
  have h8 : vN v ≤ 8 := wv.1
  have e : lp_c11_asks_54 N 144 (bMask p (vN v)) (nI (10 * t + y)) (mk L T) N (nI (bCn (fun w => p w ∧ hFit g v t y w) 0)) (nI 0) = some (nI (aC g v p t y)) := by
    refine lp_seq (Lp := fun kk (s : Int32) i => lp_c11_asks_54 N 144 (bMask p (vN v)) (nI (10 * t + y)) (mk L T) kk s (nI i)) (sp := fun i => nI (bCn (fun w => p w ∧ hFit g v t y w) i)) (n := vN v) (fun kk i hi => ?_) (fun kk => ?_) (by omega)
    · show lp_c11_asks_54 N 144 (bMask p (vN v)) (nI (10 * t + y)) (mk L T) (kk + 1) _ _ = _
      obtain ⟨r, er, hr⟩ := M_has (N := N) (p := p) (hh := mk L T) (m := vN v) (j := i) (by omega) hi
      obtain ⟨r2, er2, hr2⟩ := M_fits (L := L) (N := N) (t := t) (y := y) cg cv wg wv (by omega) (by omega) (by omega) hi hN
      have d1 : nI (10 * t + y) / 10 = nI t := by
        rw [k10, nI_div (by omega) (by omega), show (10 * t + y) / 10 = t by omega]
      have d2 : nI (10 * t + y) - nI t * 10 = nI y := by
        rw [k10, nI_mul, nI_sub (by omega), show 10 * t + y - t * 10 = y by omega]
      rw [lp_c11_asks_54.eq_2, zr144_0, Option.bind_some, k40, zg145 (by omega), cv.1, Option.bind_some, ile_f hi (by omega), er, Option.bind_some]
      rcases hr with ⟨h1, h2⟩ | ⟨h1, h2⟩
      · rw [h2, if_neg (show ¬ (1 : Int32) = 0 by decide)]
        have g10 : gNZ (10 : Int32) = some () := by rfl
        simp only [g10, Option.bind_some, d1, d2, er2]
        rcases hr2 with ⟨h3, h4⟩ | ⟨h3, h4⟩
        · rw [h4, bCn_t (p := fun w => p w ∧ hFit g v t y w) ⟨h1, h3⟩]
          simp (disch := omega) only [Option.bind_some, ↓ile_t, ↓ile_f, ↓ilt_t, ↓ilt_f, ↓ieq_t, ↓ieq_f, ↓iz_t, ↓iz_f, ↓iltz, ↓izle, ↓ilez_t, ↓ilez_f, ↓im1, ile_t, ile_f, ilt_t, ilt_f, ieq_t, ieq_f, iz_t, iz_f, iltz, izle, ilez_t, ilez_f, im1, gZ_0, gZ_1, e10, e00, ↓reduceIte, Sum.elim_inl, Sum.elim_inr, nI_1, nI_add, Int32.sub_zero, ]
        · rw [h4, bCn_f (p := fun w => p w ∧ hFit g v t y w) (fun q => h3 q.2)]
          simp (disch := omega) only [Option.bind_some, ↓ile_t, ↓ile_f, ↓ilt_t, ↓ilt_f, ↓ieq_t, ↓ieq_f, ↓iz_t, ↓iz_f, ↓iltz, ↓izle, ↓ilez_t, ↓ilez_f, ↓im1, ile_t, ile_f, ilt_t, ilt_f, ieq_t, ieq_f, iz_t, iz_f, iltz, izle, ilez_t, ilez_f, im1, gZ_0, gZ_1, e10, e00, ↓reduceIte, Sum.elim_inl, Sum.elim_inr, nI_1, nI_add, Int32.sub_zero, eq_self_iff_true, Int32.add_zero]
      · rw [h2, if_pos (show (0 : Int32) = 0 from rfl), bCn_f (p := fun w => p w ∧ hFit g v t y w) (fun q => h1 q.1)]
        simp (disch := omega) only [Option.bind_some, ↓ile_t, ↓ile_f, ↓ilt_t, ↓ilt_f, ↓ieq_t, ↓ieq_f, ↓iz_t, ↓iz_f, ↓iltz, ↓izle, ↓ilez_t, ↓ilez_f, ↓im1, ile_t, ile_f, ilt_t, ilt_f, ieq_t, ieq_f, iz_t, iz_f, iltz, izle, ilez_t, ilez_f, im1, gZ_0, gZ_1, e10, e00, ↓reduceIte, Sum.elim_inl, Sum.elim_inr, nI_1, nI_add, Int32.sub_zero, Int32.add_zero]
    · show lp_c11_asks_54 N 144 (bMask p (vN v)) (nI (10 * t + y)) (mk L T) (kk + 1) _ _ = _
      rw [lp_c11_asks_54.eq_2, zr144_0, Option.bind_some, k40, zg145 (by omega), cv.1, Option.bind_some, ile_t (Nat.le_refl _) (by omega)]
      rfl
  exact e
end ASKSM
