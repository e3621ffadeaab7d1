/-! CALLS: twins; the pairs of reach -/
def prS (bt : Nat → Nat → Bool) (d : Nat → Nat → Nat) (i j : Nat) (s : Nat × Nat) : Nat × Nat := if bt (d i j) (d s.1 s.2) = true then (i, j) else s
def pJ (bt : Nat → Nat → Bool) (d : Nat → Nat → Nat) (i : Nat) (s : Nat × Nat) : Nat → Nat × Nat
  | 0 => s
  | e + 1 => prS bt d i (i + 1 + e) (pJ bt d i s e)
def pO (bt : Nat → Nat → Bool) (d : Nat → Nat → Nat) (n : Nat) : Nat → Nat × Nat
  | 0 => (0, 1)
  | i + 1 => pJ bt d i (pO bt d n i) (n - (i + 1))
theorem pJ_ok {bt : Nat → Nat → Bool} {d : Nat → Nat → Nat} {n i : Nat} {s : Nat × Nat} (hs : s.1 < n ∧ s.2 < n) (hi : i < n) : ∀ e, e ≤ n - (i + 1) → (pJ bt d i s e).1 < n ∧ (pJ bt d i s e).2 < n := by
  intro e
  induction e with
  | zero => exact fun _ => hs
  | succ e ih =>
    intro he
    show (prS bt d i (i + 1 + e) (pJ bt d i s e)).1 < n ∧ (prS bt d i (i + 1 + e) (pJ bt d i s e)).2 < n
    unfold prS
    split
    · exact ⟨hi, by show i + 1 + e < n; omega⟩
    · exact ih (by omega)
theorem pO_ok {bt : Nat → Nat → Bool} {d : Nat → Nat → Nat} {n : Nat} (hn : 2 ≤ n) : ∀ i, i ≤ n → (pO bt d n i).1 < n ∧ (pO bt d n i).2 < n := by
  intro i
  induction i with
  | zero => exact fun _ => ⟨by show 0 < n; omega, by show 1 < n; omega⟩
  | succ i ih => exact fun h => pJ_ok (ih (by omega)) (by omega) _ (Nat.le_refl _)
def bLt (a b : Nat) : Bool := decide (a < b)
def bGt (a b : Nat) : Bool := decide (b < a)
def pD (g : pG) (v : pV) (a b : Nat) : Nat := sFar g (vF v a) (vF v b)
section TWINS
variable {L N : Nat} {S T : gS} {c : Nat} {g : pG} {v : pV} {x : pX} {l : List Int64} {u : pX} {n : pN} {k : Nat → Option pV} {h : pH} {A : pA}
theorem pD_lt {a b : Nat} (wg : WG g) (wv : WV g v) (ha : a < vN v) (hb : b < vN v) : pD g v a b < 1000 := by
  have h1 := wv.F wg ha
  have h2 := wv.F wg hb
  have := sFar_le g (vF v a) (vF v b)
  unfold pD
  omega
theorem C_apart {a b : Nat} (cg : CG S g) (cv : CV S 19 v) (wg : WG g) (wv : WV g v) (ha : a < vN v) (hb : b < vN v) : f_c7_farApart N 19 15 (nI a) (nI b) (mk L S) = some (nI (pD g v a b)) := C_farApart SA_19 cv cg wg wv ha hb
theorem M_apart {a b : Nat} (cg : MG T g) (wg : WG g) (wv : WV g v) (ha : a < vN v) (hb : b < vN v) : f_c11_farOf N 144 (nI (vF v a)) (nI (vF v b)) (mk L T) = some (nI (pD g v a b)) := by
  have h1 := wv.F wg ha
  have h2 := wv.F wg hb
  exact M_farOf cg wg (by omega) (by omega)
theorem C_tw36 {i : Nat} {s : Nat × Nat} (cg : CG S g) (cv : CV S 19 v) (wg : WG g) (wv : WV g v) (hi : i < vN v) (hs : s.1 < vN v ∧ s.2 < vN v) (hN : 900 ≤ N) : lp_c10_twins_36 N 10 (nI i) (mk L S) N (nI s.1) (nI s.2) (nI (i + 1)) = some (nI (pJ bLt (pD g v) i s (vN v - (i + 1))).1, nI (pJ bLt (pD g v) i s (vN v - (i + 1))).2) := by
  have h8 := wv.1
  have e : lp_c10_twins_36 N 10 (nI i) (mk L S) N (nI (pJ bLt (pD g v) i s 0).1) (nI (pJ bLt (pD g v) i s 0).2) (nI (i + 1 + 0)) = some (nI (pJ bLt (pD g v) i s (vN v - (i + 1))).1, nI (pJ bLt (pD g v) i s (vN v - (i + 1))).2) := by
    refine lp_seq (Lp := fun kk (t : Int32 × Int32) e => lp_c10_twins_36 N 10 (nI i) (mk L S) kk t.1 t.2 (nI (i + 1 + e))) (sp := fun e => (nI (pJ bLt (pD g v) i s e).1, nI (pJ bLt (pD g v) i s e).2)) (n := vN v - (i + 1)) (fun kk e he => ?_) (fun kk => ?_) (by omega)
    · obtain ⟨o1, o2⟩ := pJ_ok (bt := bLt) (d := pD g v) hs hi e (by omega)
      have eS : pJ bLt (pD g v) i s (e + 1) = prS bLt (pD g v) i (i + 1 + e) (pJ bLt (pD g v) i s e) := rfl
      show lp_c10_twins_36 N 10 (nI i) (mk L S) (kk + 1) (nI (pJ bLt (pD g v) i s e).1) (nI (pJ bLt (pD g v) i s e).2) (nI (i + 1 + e)) = lp_c10_twins_36 N 10 (nI i) (mk L S) kk (nI (pJ bLt (pD g v) i s (e + 1)).1) (nI (pJ bLt (pD g v) i s (e + 1)).2) (nI (i + 1 + e + 1))
      rw [eS]
      generalize pJ bLt (pD g v) i s e = st at *
      have l1 := pD_lt wg wv hi (b := i + 1 + e) (by omega)
      have l2 := pD_lt wg wv o1 o2
      rw [lp_c10_twins_36.eq_2, zr10_3, Option.bind_some, qi0 SA_19, Option.bind_some, cv.1, ile_f (by omega) (by omega), Option.bind_some, zr10_2, Option.bind_some, C_apart cg cv wg wv hi (by omega), Option.bind_some, Option.bind_some, Option.bind_some, C_apart cg cv wg wv o1 o2, Option.bind_some]
      unfold prS bLt
      by_cases z : pD g v i (i + 1 + e) < pD g v st.1 st.2
      · rw [ile_f z (by omega), if_pos (decide_eq_true z), Option.bind_some, nI_1]
      · rw [ile_t (by omega) (by omega), if_neg (show ¬ decide (pD g v i (i + 1 + e) < pD g v st.1 st.2) = true from fun t => z (of_decide_eq_true t)), Option.bind_some, nI_1]
    · show lp_c10_twins_36 N 10 (nI i) (mk L S) (kk + 1) _ _ _ = _
      rw [show i + 1 + (vN v - (i + 1)) = vN v by omega, lp_c10_twins_36.eq_2, zr10_3, Option.bind_some, qi0 SA_19, Option.bind_some, cv.1, ile_t (Nat.le_refl _) (by omega)]
  exact e
theorem C_tw20 (cg : CG S g) (cv : CV S 19 v) (wg : WG g) (wv : WV g v) (h2 : 2 ≤ vN v) (hN : 900 ≤ N) : lp_c10_twins_20 N 10 (mk L S) N 0 1 0 = some (nI (pO bLt (pD g v) (vN v) (vN v)).1, nI (pO bLt (pD g v) (vN v) (vN v)).2) := by
  have h8 := wv.1
  have e : lp_c10_twins_20 N 10 (mk L S) N (nI (pO bLt (pD g v) (vN v) 0).1) (nI (pO bLt (pD g v) (vN v) 0).2) (nI 0) = some (nI (pO bLt (pD g v) (vN v) (vN v)).1, nI (pO bLt (pD g v) (vN v) (vN v)).2) := by
    refine lp_seq (Lp := fun kk (t : Int32 × Int32) i => lp_c10_twins_20 N 10 (mk L S) kk t.1 t.2 (nI i)) (sp := fun i => (nI (pO bLt (pD g v) (vN v) i).1, nI (pO bLt (pD g v) (vN v) i).2)) (n := vN v) (fun kk i hi => ?_) (fun kk => ?_) (by omega)
    · have o := pO_ok (bt := bLt) (d := pD g v) h2 i (by omega)
      show lp_c10_twins_20 N 10 (mk L S) (kk + 1) (nI (pO bLt (pD g v) (vN v) i).1) (nI (pO bLt (pD g v) (vN v) i).2) (nI i) = lp_c10_twins_20 N 10 (mk L S) kk (nI (pJ bLt (pD g v) i (pO bLt (pD g v) (vN v) i) (vN v - (i + 1))).1) (nI (pJ bLt (pD g v) i (pO bLt (pD g v) (vN v) i) (vN v - (i + 1))).2) (nI (i + 1))
      rw [lp_c10_twins_20.eq_2, zr10_3, Option.bind_some, qi0 SA_19, Option.bind_some, cv.1, ile_f (by omega) (by omega), nI_1, C_tw36 cg cv wg wv hi o hN, Option.bind_some]
    · show lp_c10_twins_20 N 10 (mk L S) (kk + 1) _ _ _ = _
      rw [lp_c10_twins_20.eq_2, zr10_3, Option.bind_some, qi0 SA_19, Option.bind_some, cv.1, ile_t (Nat.le_refl _) (by omega)]
  exact e
theorem C_re36 {i : Nat} {s : Nat × Nat} (cg : CG S g) (cv : CV S 19 v) (wg : WG g) (wv : WV g v) (hi : i < vN v) (hs : s.1 < vN v ∧ s.2 < vN v) (hN : 900 ≤ N) : lp_c10_reach_36 N 10 (nI i) (mk L S) N (nI s.1) (nI s.2) (nI (i + 1)) = some (nI (pJ bGt (pD g v) i s (vN v - (i + 1))).1, nI (pJ bGt (pD g v) i s (vN v - (i + 1))).2) := by
  have h8 := wv.1
  have e : lp_c10_reach_36 N 10 (nI i) (mk L S) N (nI (pJ bGt (pD g v) i s 0).1) (nI (pJ bGt (pD g v) i s 0).2) (nI (i + 1 + 0)) = some (nI (pJ bGt (pD g v) i s (vN v - (i + 1))).1, nI (pJ bGt (pD g v) i s (vN v - (i + 1))).2) := by
    refine lp_seq (Lp := fun kk (t : Int32 × Int32) e => lp_c10_reach_36 N 10 (nI i) (mk L S) kk t.1 t.2 (nI (i + 1 + e))) (sp := fun e => (nI (pJ bGt (pD g v) i s e).1, nI (pJ bGt (pD g v) i s e).2)) (n := vN v - (i + 1)) (fun kk e he => ?_) (fun kk => ?_) (by omega)
    · obtain ⟨o1, o2⟩ := pJ_ok (bt := bGt) (d := pD g v) hs hi e (by omega)
      have eS : pJ bGt (pD g v) i s (e + 1) = prS bGt (pD g v) i (i + 1 + e) (pJ bGt (pD g v) i s e) := rfl
      show lp_c10_reach_36 N 10 (nI i) (mk L S) (kk + 1) (nI (pJ bGt (pD g v) i s e).1) (nI (pJ bGt (pD g v) i s e).2) (nI (i + 1 + e)) = lp_c10_reach_36 N 10 (nI i) (mk L S) kk (nI (pJ bGt (pD g v) i s (e + 1)).1) (nI (pJ bGt (pD g v) i s (e + 1)).2) (nI (i + 1 + e + 1))
      rw [eS]
      generalize pJ bGt (pD g v) i s e = st at *
      have l1 := pD_lt wg wv hi (b := i + 1 + e) (by omega)
      have l2 := pD_lt wg wv o1 o2
      rw [lp_c10_reach_36.eq_2, zr10_3, Option.bind_some, qi0 SA_19, Option.bind_some, cv.1, ile_f (by omega) (by omega), Option.bind_some, zr10_2, Option.bind_some, C_apart cg cv wg wv hi (by omega), Option.bind_some, Option.bind_some, Option.bind_some, C_apart cg cv wg wv o1 o2, Option.bind_some]
      unfold prS bGt
      by_cases z : pD g v st.1 st.2 < pD g v i (i + 1 + e)
      · rw [ile_f z (by omega), if_pos (decide_eq_true z), Option.bind_some, nI_1]
      · rw [ile_t (by omega) (by omega), if_neg (show ¬ decide (pD g v st.1 st.2 < pD g v i (i + 1 + e)) = true from fun t => z (of_decide_eq_true t)), Option.bind_some, nI_1]
    · show lp_c10_reach_36 N 10 (nI i) (mk L S) (kk + 1) _ _ _ = _
      rw [show i + 1 + (vN v - (i + 1)) = vN v by omega, lp_c10_reach_36.eq_2, zr10_3, Option.bind_some, qi0 SA_19, Option.bind_some, cv.1, ile_t (Nat.le_refl _) (by omega)]
  exact e
theorem C_re20 (cg : CG S g) (cv : CV S 19 v) (wg : WG g) (wv : WV g v) (h2 : 2 ≤ vN v) (hN : 900 ≤ N) : lp_c10_reach_20 N 10 (mk L S) N 0 1 0 = some (nI (pO bGt (pD g v) (vN v) (vN v)).1, nI (pO bGt (pD g v) (vN v) (vN v)).2) := by
  have h8 := wv.1
  have e : lp_c10_reach_20 N 10 (mk L S) N (nI (pO bGt (pD g v) (vN v) 0).1) (nI (pO bGt (pD g v) (vN v) 0).2) (nI 0) = some (nI (pO bGt (pD g v) (vN v) (vN v)).1, nI (pO bGt (pD g v) (vN v) (vN v)).2) := by
    refine lp_seq (Lp := fun kk (t : Int32 × Int32) i => lp_c10_reach_20 N 10 (mk L S) kk t.1 t.2 (nI i)) (sp := fun i => (nI (pO bGt (pD g v) (vN v) i).1, nI (pO bGt (pD g v) (vN v) i).2)) (n := vN v) (fun kk i hi => ?_) (fun kk => ?_) (by omega)
    · have o := pO_ok (bt := bGt) (d := pD g v) h2 i (by omega)
      show lp_c10_reach_20 N 10 (mk L S) (kk + 1) (nI (pO bGt (pD g v) (vN v) i).1) (nI (pO bGt (pD g v) (vN v) i).2) (nI i) = lp_c10_reach_20 N 10 (mk L S) kk (nI (pJ bGt (pD g v) i (pO bGt (pD g v) (vN v) i) (vN v - (i + 1))).1) (nI (pJ bGt (pD g v) i (pO bGt (pD g v) (vN v) i) (vN v - (i + 1))).2) (nI (i + 1))
      rw [lp_c10_reach_20.eq_2, zr10_3, Option.bind_some, qi0 SA_19, Option.bind_some, cv.1, ile_f (by omega) (by omega), nI_1, C_re36 cg cv wg wv hi o hN, Option.bind_some]
    · show lp_c10_reach_20 N 10 (mk L S) (kk + 1) _ _ _ = _
      rw [lp_c10_reach_20.eq_2, zr10_3, Option.bind_some, qi0 SA_19, Option.bind_some, cv.1, ile_t (Nat.le_refl _) (by omega)]
  exact e
theorem M_re108 {i : Nat} {s : Nat × Nat} (cg : MG T g) (cv : MW T 145 v) (wg : WG g) (wv : WV g v) (hi : i < vN v) (hs : s.1 < vN v ∧ s.2 < vN v) (hN : 900 ≤ N) : lp_c11_reach_108 N 144 (nI i) (mk L T) N (nI s.1) (nI s.2) (nI (i + 1)) = some (nI (pJ bGt (pD g v) i s (vN v - (i + 1))).1, nI (pJ bGt (pD g v) i s (vN v - (i + 1))).2) := by
  have h8 := wv.1
  have e : lp_c11_reach_108 N 144 (nI i) (mk L T) N (nI (pJ bGt (pD g v) i s 0).1) (nI (pJ bGt (pD g v) i s 0).2) (nI (i + 1 + 0)) = some (nI (pJ bGt (pD g v) i s (vN v - (i + 1))).1, nI (pJ bGt (pD g v) i s (vN v - (i + 1))).2) := by
    refine lp_seq (Lp := fun kk (t : Int32 × Int32) e => lp_c11_reach_108 N 144 (nI i) (mk L T) kk t.1 t.2 (nI (i + 1 + e))) (sp := fun e => (nI (pJ bGt (pD g v) i s e).1, nI (pJ bGt (pD g v) i s e).2)) (n := vN v - (i + 1)) (fun kk e he => ?_) (fun kk => ?_) (by omega)
    · obtain ⟨o1, o2⟩ := pJ_ok (bt := bGt) (d := pD g v) hs hi e (by omega)
      have eS : pJ bGt (pD g v) i s (e + 1) = prS bGt (pD g v) i (i + 1 + e) (pJ bGt (pD g v) i s e) := rfl
      show lp_c11_reach_108 N 144 (nI i) (mk L T) (kk + 1) (nI (pJ bGt (pD g v) i s e).1) (nI (pJ bGt (pD g v) i s e).2) (nI (i + 1 + e)) = lp_c11_reach_108 N 144 (nI i) (mk L T) kk (nI (pJ bGt (pD g v) i s (e + 1)).1) (nI (pJ bGt (pD g v) i s (e + 1)).2) (nI (i + 1 + (e + 1)))
      rw [eS]
      generalize pJ bGt (pD g v) i s e = st at *
      have l1 := pD_lt wg wv hi (b := i + 1 + e) (by omega)
      have l2 := pD_lt wg wv o1 o2
      rw [lp_c11_reach_108.eq_2]
      simp (disch := omega) only [Option.bind_some, ↓ile_t, ↓ile_f, ↓ilt_t, ↓ilt_f, ↓ieq_t, ↓ieq_f, ↓iz_t, ↓iz_f, ↓iltz, ↓izle, ↓ilez_t, ↓ilez_f, ↓im1, ile_t, ile_f, ilt_t, ilt_f, ieq_t, ieq_f, iz_t, iz_f, iltz, izle, ilez_t, ilez_f, im1, gZ_0, gZ_1, e10, e00, ↓reduceIte, Sum.elim_inl, Sum.elim_inr, nI_1, nI_add, Int32.sub_zero, zr144_0, k40, zg145, cv.1, (cv.2.2.2 i hi).1, (cv.2.2.2 (i + 1 + e) (by omega)).1, (cv.2.2.2 st.1 o1).1, (cv.2.2.2 st.2 o2).1, M_apart cg wg wv hi (show i + 1 + e < vN v by omega), M_apart cg wg wv o1 o2]
      unfold prS bGt
      by_cases z : pD g v st.1 st.2 < pD g v i (i + 1 + e)
      · rw [ilt_t z (by omega), if_pos (decide_eq_true z), Option.bind_some]
        rfl
      · rw [ilt_f (by omega) (by omega), if_neg (show ¬ decide (pD g v st.1 st.2 < pD g v i (i + 1 + e)) = true from fun t => z (of_decide_eq_true t)), Option.bind_some]
        rfl
    · show lp_c11_reach_108 N 144 (nI i) (mk L T) (kk + 1) _ _ _ = _
      rw [show i + 1 + (vN v - (i + 1)) = vN v by omega, lp_c11_reach_108.eq_2, zr144_0, Option.bind_some, k40, zg145 (by omega), Option.bind_some, cv.1, ile_t (Nat.le_refl _) (by omega)]
  exact e
theorem M_re90 (cg : MG T g) (cv : MW T 145 v) (wg : WG g) (wv : WV g v) (h2 : 2 ≤ vN v) (hN : 900 ≤ N) : lp_c11_reach_90 N 144 (mk L T) N 0 1 0 = some (nI (pO bGt (pD g v) (vN v) (vN v)).1, nI (pO bGt (pD g v) (vN v) (vN v)).2) := by
  have h8 := wv.1
  have e : lp_c11_reach_90 N 144 (mk L T) N (nI (pO bGt (pD g v) (vN v) 0).1) (nI (pO bGt (pD g v) (vN v) 0).2) (nI 0) = some (nI (pO bGt (pD g v) (vN v) (vN v)).1, nI (pO bGt (pD g v) (vN v) (vN v)).2) := by
    refine lp_seq (Lp := fun kk (t : Int32 × Int32) i => lp_c11_reach_90 N 144 (mk L T) kk t.1 t.2 (nI i)) (sp := fun i => (nI (pO bGt (pD g v) (vN v) i).1, nI (pO bGt (pD g v) (vN v) i).2)) (n := vN v) (fun kk i hi => ?_) (fun kk => ?_) (by omega)
    · have o := pO_ok (bt := bGt) (d := pD g v) h2 i (by omega)
      show lp_c11_reach_90 N 144 (mk L T) (kk + 1) (nI (pO bGt (pD g v) (vN v) i).1) (nI (pO bGt (pD g v) (vN v) i).2) (nI i) = lp_c11_reach_90 N 144 (mk L T) kk (nI (pJ bGt (pD g v) i (pO bGt (pD g v) (vN v) i) (vN v - (i + 1))).1) (nI (pJ bGt (pD g v) i (pO bGt (pD g v) (vN v) i) (vN v - (i + 1))).2) (nI (i + 1))
      rw [lp_c11_reach_90.eq_2, zr144_0, Option.bind_some, k40, zg145 (by omega), Option.bind_some, cv.1, ile_f (by omega) (by omega), nI_1, M_re108 cg cv wg wv hi o hN, Option.bind_some]
    · show lp_c11_reach_90 N 144 (mk L T) (kk + 1) _ _ _ = _
      rw [lp_c11_reach_90.eq_2, zr144_0, Option.bind_some, k40, zg145 (by omega), Option.bind_some, cv.1, ile_t (Nat.le_refl _) (by omega)]
  exact e
/-- what the reference of twins holds: nothing yet, or a pair and how far -/
def twR (g : pG) (v : pV) (b : Prop) (s : Int32 × Int32 × Int32) (st : Nat × Nat) : Prop := (b ∧ s = (nI (pD g v st.1 st.2), nI st.1, nI st.2)) ∨ (¬ b ∧ s = (1000000, -1, -1) ∧ st = (0, 1))
theorem M_tw34 {i : Nat} {s : Int32 × Int32 × Int32} {st0 : Nat × Nat} (cg : MG T g) (cv : MW T 145 v) (wg : WG g) (wv : WV g v) (hi : i < vN v) (h2 : 2 ≤ vN v) (hs : st0.1 < vN v ∧ st0.2 < vN v) (hq : twR g v (0 < i) s st0) (hN : 900 ≤ N) : ∃ r, lp_c11_twins_34 N 144 (nI i) (mk L T) N s.1 s.2.1 s.2.2 (nI (i + 1)) = some r ∧ r = (nI (pD g v (pJ bLt (pD g v) i st0 (vN v - (i + 1))).1 (pJ bLt (pD g v) i st0 (vN v - (i + 1))).2), nI (pJ bLt (pD g v) i st0 (vN v - (i + 1))).1, nI (pJ bLt (pD g v) i st0 (vN v - (i + 1))).2) := by
  have h8 := wv.1
  refine lp_inv (Lp := fun kk (t : Int32 × Int32 × Int32) e => lp_c11_twins_34 N 144 (nI i) (mk L T) kk t.1 t.2.1 t.2.2 (nI (i + 1 + e))) (n := vN v - (i + 1)) (P := fun e t => twR g v (0 < i ∨ 0 < e) t (pJ bLt (pD g v) i st0 e)) (fun kk e t he ht => Or.inr ?_) (fun kk t ht => ?_) (vN v - (i + 1)) N 0 s (by omega) (by omega) ?_
  · obtain ⟨o1, o2⟩ := pJ_ok (bt := bLt) (d := pD g v) hs hi e (by omega)
    have eS : pJ bLt (pD g v) i st0 (e + 1) = prS bLt (pD g v) i (i + 1 + e) (pJ bLt (pD g v) i st0 e) := rfl
    show ∃ t' : Int32 × Int32 × Int32, lp_c11_twins_34 N 144 (nI i) (mk L T) (kk + 1) t.1 t.2.1 t.2.2 (nI (i + 1 + e)) = lp_c11_twins_34 N 144 (nI i) (mk L T) kk t'.1 t'.2.1 t'.2.2 (nI (i + 1 + (e + 1))) ∧ twR g v (0 < i ∨ 0 < e + 1) t' (pJ bLt (pD g v) i st0 (e + 1))
    rw [eS]
    have ht2 : twR g v (0 < i ∨ 0 < e) t (pJ bLt (pD g v) i st0 e) := ht
    generalize pJ bLt (pD g v) i st0 e = st at *
    have l1 := pD_lt wg wv hi (b := i + 1 + e) (by omega)
    have l2 := pD_lt wg wv o1 o2
    rcases ht2 with ⟨hb, rfl⟩ | ⟨hb, rfl, hst⟩
    · by_cases z : pD g v i (i + 1 + e) < pD g v st.1 st.2
      · refine ⟨(nI (pD g v i (i + 1 + e)), nI i, nI (i + 1 + e)), ?_, Or.inl ⟨by omega, ?_⟩⟩
        · rw [lp_c11_twins_34.eq_2]
          simp (disch := omega) only [Option.bind_some, ↓ile_t, ↓ile_f, ↓ilt_t, ↓ilt_f, ↓ieq_t, ↓ieq_f, ↓iz_t, ↓iz_f, ↓iltz, ↓izle, ↓ilez_t, ↓ilez_f, ↓im1, ile_t, ile_f, ilt_t, ilt_f, ieq_t, ieq_f, iz_t, iz_f, iltz, izle, ilez_t, ilez_f, im1, gZ_0, gZ_1, e10, e00, ↓reduceIte, Sum.elim_inl, Sum.elim_inr, nI_1, nI_add, Int32.sub_zero, zr144_0, k40, zg145, cv.1, (cv.2.2.2 i hi).1, (cv.2.2.2 (i + 1 + e) (by omega)).1, M_apart cg wg wv hi (show i + 1 + e < vN v by omega)]
          rfl
        · unfold prS bLt
          rw [if_pos (decide_eq_true z)]
      · refine ⟨(nI (pD g v st.1 st.2), nI st.1, nI st.2), ?_, Or.inl ⟨by omega, ?_⟩⟩
        · rw [lp_c11_twins_34.eq_2]
          simp (disch := omega) only [Option.bind_some, ↓ile_t, ↓ile_f, ↓ilt_t, ↓ilt_f, ↓ieq_t, ↓ieq_f, ↓iz_t, ↓iz_f, ↓iltz, ↓izle, ↓ilez_t, ↓ilez_f, ↓im1, ile_t, ile_f, ilt_t, ilt_f, ieq_t, ieq_f, iz_t, iz_f, iltz, izle, ilez_t, ilez_f, im1, gZ_0, gZ_1, e10, e00, ↓reduceIte, Sum.elim_inl, Sum.elim_inr, nI_1, nI_add, Int32.sub_zero, zr144_0, k40, zg145, cv.1, (cv.2.2.2 i hi).1, (cv.2.2.2 (i + 1 + e) (by omega)).1, M_apart cg wg wv hi (show i + 1 + e < vN v by omega)]
          rfl
        · unfold prS bLt
          rw [if_neg (show ¬ decide (pD g v i (i + 1 + e) < pD g v st.1 st.2) = true from fun t => z (of_decide_eq_true t))]
    · have i0 : i = 0 := by omega
      have e0 : e = 0 := by omega
      subst i0 e0
      subst hst
      have c1 : nI (pD g v 0 (0 + 1 + 0)) < 1000000 := nI_lt (b := 1000000) (by omega) (by omega)
      refine ⟨(nI (pD g v 0 (0 + 1 + 0)), nI 0, nI (0 + 1 + 0)), ?_, Or.inl ⟨by omega, ?_⟩⟩
      · rw [lp_c11_twins_34.eq_2]
        simp (disch := omega) only [Option.bind_some, ↓ile_t, ↓ile_f, ↓ilt_t, ↓ilt_f, ↓ieq_t, ↓ieq_f, ↓iz_t, ↓iz_f, ↓iltz, ↓izle, ↓ilez_t, ↓ilez_f, ↓im1, ile_t, ile_f, ilt_t, ilt_f, ieq_t, ieq_f, iz_t, iz_f, iltz, izle, ilez_t, ilez_f, im1, gZ_0, gZ_1, e10, e00, ↓reduceIte, Sum.elim_inl, Sum.elim_inr, nI_1, nI_add, Int32.sub_zero, zr144_0, k40, zg145, cv.1, (cv.2.2.2 0 hi).1, (cv.2.2.2 (0 + 1 + 0) (by omega)).1, M_apart cg wg wv hi (show 0 + 1 + 0 < vN v by omega), if_pos c1]
      · unfold prS bLt
        rw [if_neg (show ¬ decide (pD g v 0 (0 + 1 + 0) < pD g v 0 1) = true from fun t => Nat.lt_irrefl _ (of_decide_eq_true t))]
  · have ht2 : twR g v (0 < i ∨ 0 < vN v - (i + 1)) t (pJ bLt (pD g v) i st0 (vN v - (i + 1))) := ht
    rcases ht2 with ⟨hb, rfl⟩ | ⟨hb, -, -⟩
    · refine ⟨_, ?_, rfl⟩
      show lp_c11_twins_34 N 144 (nI i) (mk L T) (kk + 1) _ _ _ (nI (i + 1 + (vN v - (i + 1)))) = _
      rw [show i + 1 + (vN v - (i + 1)) = vN v by omega, lp_c11_twins_34.eq_2, zr144_0, Option.bind_some, k40, zg145 (by omega), Option.bind_some, cv.1, ile_t (Nat.le_refl _) (by omega)]
    · omega
  · rcases hq with ⟨a, b⟩ | ⟨a, b⟩
    · exact Or.inl ⟨Or.inl a, b⟩
    · exact Or.inr ⟨by omega, b⟩
theorem M_tw16 (cg : MG T g) (cv : MW T 145 v) (wg : WG g) (wv : WV g v) (h2 : 2 ≤ vN v) (hN : 900 ≤ N) : ∃ r, lp_c11_twins_16 N 144 (mk L T) N 1000000 (-1) (-1) (nI 0) = some r ∧ r = (nI (pD g v (pO bLt (pD g v) (vN v) (vN v)).1 (pO bLt (pD g v) (vN v) (vN v)).2), nI (pO bLt (pD g v) (vN v) (vN v)).1, nI (pO bLt (pD g v) (vN v) (vN v)).2) := by
  have h8 := wv.1
  refine lp_inv (Lp := fun kk (t : Int32 × Int32 × Int32) i => lp_c11_twins_16 N 144 (mk L T) kk t.1 t.2.1 t.2.2 (nI i)) (n := vN v) (P := fun i t => twR g v (0 < i) t (pO bLt (pD g v) (vN v) i)) (fun kk i t hi ht => Or.inr ?_) (fun kk t ht => ?_) (vN v) N 0 (1000000, -1, -1) (by omega) (by omega) (Or.inr ⟨by omega, rfl, rfl⟩)
  · have o := pO_ok (bt := bLt) (d := pD g v) h2 i (by omega)
    obtain ⟨r, er, hr⟩ := M_tw34 (L := L) (N := N) cg cv wg wv hi h2 o ht hN
    refine ⟨r, ?_, Or.inl ⟨by omega, hr⟩⟩
    show lp_c11_twins_16 N 144 (mk L T) (kk + 1) t.1 t.2.1 t.2.2 (nI i) = lp_c11_twins_16 N 144 (mk L T) kk r.1 r.2.1 r.2.2 (nI (i + 1))
    rw [lp_c11_twins_16.eq_2, zr144_0, Option.bind_some, k40, zg145 (by omega), Option.bind_some, cv.1, ile_f (by omega) (by omega), nI_1, er, Option.bind_some]
  · rcases ht with ⟨hb, rfl⟩ | ⟨hb, -, -⟩
    · refine ⟨_, ?_, rfl⟩
      show lp_c11_twins_16 N 144 (mk L T) (kk + 1) _ _ _ (nI (vN v)) = _
      rw [lp_c11_twins_16.eq_2, zr144_0, Option.bind_some, k40, zg145 (by omega), Option.bind_some, cv.1, ile_t (Nat.le_refl _) (by omega)]
    · omega
/-- fewer than two: no pair is met -/
theorem M_tw16n (cv : MW T 145 v) (h2 : vN v < 2) (hN : 900 ≤ N) : lp_c11_twins_16 N 144 (mk L T) N 1000000 (-1) (-1) 0 = some (1000000, -1, -1) := by
  have e : lp_c11_twins_16 N 144 (mk L T) N 1000000 (-1) (-1) (nI 0) = some (1000000, -1, -1) := by
    refine lp_seq (Lp := fun kk (_ : Unit) i => lp_c11_twins_16 N 144 (mk L T) kk 1000000 (-1) (-1) (nI i)) (sp := fun _ => ()) (n := vN v) (fun kk i hi => ?_) (fun kk => ?_) (by omega)
    · obtain ⟨N', hN'⟩ : ∃ N', N = N' + 1 := ⟨N - 1, by omega⟩
      have e1 : lp_c11_twins_34 N 144 (nI i) (mk L T) N 1000000 (-1) (-1) (nI (i + 1)) = some (1000000, -1, -1) := by
        have : ∀ kk, lp_c11_twins_34 N 144 (nI i) (mk L T) (kk + 1) 1000000 (-1) (-1) (nI (i + 1)) = some (1000000, -1, -1) := fun kk => by
          rw [lp_c11_twins_34.eq_2, zr144_0, Option.bind_some, k40, zg145 (by omega), Option.bind_some, cv.1, ile_t (by omega) (by omega)]
        have := this N'
        rw [← hN'] at this
        exact this
      show lp_c11_twins_16 N 144 (mk L T) (kk + 1) 1000000 (-1) (-1) (nI i) = lp_c11_twins_16 N 144 (mk L T) kk 1000000 (-1) (-1) (nI (i + 1))
      rw [lp_c11_twins_16.eq_2, zr144_0, Option.bind_some, k40, zg145 (by omega), Option.bind_some, cv.1, ile_f (by omega) (by omega), nI_1, e1, Option.bind_some]
    · show lp_c11_twins_16 N 144 (mk L T) (kk + 1) 1000000 (-1) (-1) (nI (vN v)) = _
      rw [lp_c11_twins_16.eq_2, zr144_0, Option.bind_some, k40, zg145 (by omega), Option.bind_some, cv.1, ile_t (Nat.le_refl _) (by omega)]
  exact e
theorem A_twins (w : WA A) (q : CA S A) (m : MA S A c) (hN : 900 ≤ N) : Agr L S c (f_c10_twins N 10) (f_c11_twins N 144) := by
  obtain ⟨g, v, x, l, u, n, k, h⟩ := A
  have wv : WV g v := w.2.1
  have wg : WG g := w.1
  have h8 := wv.1
  have cv : CV S 19 v := q.2.1
  have cg : CG S g := q.1
  by_cases z2 : 2 ≤ vN v
  · obtain ⟨o1, o2⟩ := pO_ok (bt := bLt) (d := pD g v) z2 (vN v) (Nat.le_refl _)
    have eC := C_tw20 (L := L) (N := N) cg cv wg wv z2 hN
    have eM := fun (T : gS) (a : MG T g) (b : MW T 145 v) => M_tw16 (L := L) (N := N) a b wg wv z2 hN
    generalize pO bLt (pD g v) (vN v) (vN v) = st at *
    have l1 := pD_lt wg wv o1 o2
    have c2 : (2 : Int32) ≤ nI (vN v) := nI_le (a := 2) z2 (by omega)
    obtain ⟨S2, e2, q2, f2⟩ := C_tell2A (L := L) (N := N) (r := nI (pD g v st.1 st.2)) (y := (nI st.1).toInt64) (z := (nI st.2).toInt64) q
    refine AgrI (c' := c) m (r := nI (pD g v st.1 st.2)) (S1 := S2) ?_ f2 q2 (w.rw (by show 2 ≤ 8; omega)) (by omega) (fun T mt => ?_)
    · unfold f_c10_twins
      rw [zc10, Option.bind_some, zr10_3, Option.bind_some, qi0 SA_19, Option.bind_some, cv.1, if_pos c2, eC, Option.bind_some, Option.bind_some, zr10_2, Option.bind_some, C_apart cg cv wg wv o1 o2, Option.bind_some, e2, Option.bind_some]
    · have t1 := mt.thr
      obtain ⟨r, er, hr⟩ := eM _ t1.1 t1.2.1
      rw [hr] at er
      obtain ⟨T1, g1, t2, h1, k1'⟩ := M_t1 (L := L) (N := N) (y := (nI st.1).toInt64) t1
      obtain ⟨T2, g2, t3, h2, k2'⟩ := M_t2 (L := L) (N := N) (z := (nI st.2).toInt64) t2
      have n9 : ¬ nI (pD g v st.1 st.2) = 1000000 := fun e => by
        have := (nI_eq (b := 1000000) (by omega) (by omega)).mp e
        omega
      refine ⟨T2, ?_, highTr thrH (highTr h1 h2), t3⟩
      unfold f_c11_twins
      rw [zc144, Option.bind_some, zs144_10, Option.bind_some, show lp_c11_twins_16 N 144 (mk L (stI T 144 10 0)) N 1000000 (-1) (-1) 0 = _ from er, Option.bind_some, if_neg n9, zs144_9, Option.bind_some, g1, Option.bind_some, g2, Option.bind_some]
  · have c2 : ¬ (2 : Int32) ≤ nI (vN v) := nI_ge (b := 2) (by omega) (by omega)
    refine AgrR w q m (r := -2) ?_ (fun T _ t1 => ?_)
    · unfold f_c10_twins
      rw [zc10, Option.bind_some, zr10_3, Option.bind_some, qi0 SA_19, Option.bind_some, cv.1, if_neg c2]
    · have mv : MW (stI T 144 10 0) 145 v := t1.2.1
      unfold f_c11_twins
      rw [zc144, Option.bind_some, zs144_10, Option.bind_some, M_tw16n mv (by omega) hN, Option.bind_some, if_pos rfl]
end TWINS
