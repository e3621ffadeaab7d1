/-! CALLS: reach -/
section REACH
variable {L N : Nat} {S T : gS} {c : Nat} {g : pG} {v : pV} {x : pX} {l : List Int64} {u : pX} {n : pN} {k : Nat → Option pV} {h : pH} {A : pA} {r t : Nat}
def allR (g : pG) (v : pV) (r : Nat) : Prop := ∀ i, i < vN v → ∃ m, rL (vN v) (pD g v) r 0 m i
theorem least_ex {P : Nat → Prop} : ∀ k, P k → ∃ m, m ≤ k ∧ P m ∧ ∀ j, j < m → ¬ P j := by
  intro k
  induction k using Nat.strongRecOn with
  | _ k ih =>
    intro hk
    rcases Classical.em (∃ j, j < k ∧ P j) with ⟨j, h1, h2⟩ | y
    · obtain ⟨m, m1, m2⟩ := ih j h1 h2
      exact ⟨m, by omega, m2⟩
    · exact ⟨k, Nat.le_refl _, hk, fun j hj z => y ⟨j, hj, z⟩⟩
theorem sFar_10 {a b : Nat} (wg : WG g) (ha : a < gRw g * gCo g) (hb : b < gRw g * gCo g) : sFar g a b ≤ 10 := by
  have a1 : a / gCo g < gRw g := (Nat.div_lt_iff_lt_mul (by have := wg.2.2.1; omega)).mpr ha
  have a2 : a % gCo g < gCo g := Nat.mod_lt _ (by have := wg.2.2.1; omega)
  have b1 : b / gCo g < gRw g := (Nat.div_lt_iff_lt_mul (by have := wg.2.2.1; omega)).mpr hb
  have b2 : b % gCo g < gCo g := Nat.mod_lt _ (by have := wg.2.2.1; omega)
  have g1 := wg.2.1
  have g2 := wg.2.2.2.1
  unfold sFar ndist
  generalize a / gCo g = p at *
  generalize b / gCo g = q at *
  generalize a % gCo g = p' at *
  generalize b % gCo g = q' at *
  omega
theorem sFar_0 {a b : Nat} (h : sFar g a b = 0) : a = b := by
  unfold sFar ndist at h
  have h1 : a / gCo g = b / gCo g := by
    generalize a / gCo g = p at *
    generalize b / gCo g = q at *
    omega
  have h2 : a % gCo g = b % gCo g := by
    generalize a % gCo g = p at *
    generalize b % gCo g = q at *
    omega
  have e1 := Nat.div_add_mod a (gCo g)
  have e2 := Nat.div_add_mod b (gCo g)
  rw [← e1, ← e2, h1, h2]
theorem allR_10 (wg : WG g) (wv : WV g v) (h2 : 2 ≤ vN v) : allR g v 10 := by
  intro i hi
  obtain ⟨m, -, hm⟩ := rL_ex (n := vN v) (d := pD g v) (r := 10) (t := 0) (i := i) 1 (Or.inr ⟨0, by omega, sFar_10 wg (wv.2.2 i hi).1 (wv.2.2 0 (by omega)).1, rfl⟩)
  exact ⟨m, hm⟩
theorem allR_0 (wv : WV g v) (h2 : 2 ≤ vN v) : ¬ allR g v 0 := by
  intro z
  obtain ⟨m, hm⟩ := z 1 (by omega)
  cases m with
  | zero =>
    have e : (1 : Nat) = 0 := hm.1
    omega
  | succ m =>
    obtain ⟨j, h1, h3, h4⟩ := rL_down hm
    have e := sFar_0 (g := g) (show sFar g (vF v 1) (vF v j) = 0 from Nat.le_zero.mp h3)
    have : j = 1 := by
      rcases Nat.lt_trichotomy j 1 with y | y | y
      · exact absurd e.symm (wv.2.1.2 j 1 y (by omega))
      · exact y
      · exact absurd e (wv.2.1.2 1 j y h1)
    rw [this] at h4
    have := rL_uni h4 hm
    omega
theorem C_allR (cg : CG S g) (cv : CV S 19 v) (wg : WG g) (wv : WV g v) (hr : r < 1000) (h2 : 2 ≤ vN v) (hN : 900 ≤ N) : ∃ S' b, f_c9_allReached N 131 19 15 (nI r) (mk L S) = some (b, mk L S') ∧ Fr (fun y => y = 132) S S' ∧ isB b (allR g v r) := by
  have h8 := wv.1
  obtain ⟨S1, e1, f1, d1⟩ := C_count (L := L) (N := N) (r := r) (t := 0) cg cv wg wv hr (by omega) hN
  have cv1 : CV S1 19 v := cv.fr f1 (fun y h1 h2 => by omega)
  have e : lp_c9_allReached_11 N 131 19 (mk L S1) N (nI 0) = some ((fun o : Option Nat => match o with | some _ => Sum.inl ((0 : Int32), mk L S1) | none => Sum.inr ()) (fstN (fun i => decide (¬ 0 ≤ S1.1 132 i)) 0 (vN v))) := by
    refine lp_fst (Lp := fun kk i => lp_c9_allReached_11 N 131 19 (mk L S1) kk (nI i)) (o := fun o => match o with | some _ => Sum.inl ((0 : Int32), mk L S1) | none => Sum.inr ()) (n := vN v) (fun kk i hi hp => ?_) (fun kk i hi hp => ?_) (fun kk => ?_) (vN v) N 0 (by omega) (by omega)
    · have hp := Decidable.of_not_not (of_decide_eq_false hp)
      show lp_c9_allReached_11 N 131 19 (mk L S1) (kk + 1) (nI i) = lp_c9_allReached_11 N 131 19 (mk L S1) kk (nI (i + 1))
      rw [lp_c9_allReached_11.eq_2, qi0 SA_19, Option.bind_some, cv1.1, ile_f hi (by omega), zr131_0, Option.bind_some, zg132 (by omega), Option.bind_some, if_pos hp, nI_1]
    · have hp := of_decide_eq_true hp
      show lp_c9_allReached_11 N 131 19 (mk L S1) (kk + 1) (nI i) = some (Sum.inl (0, mk L S1))
      rw [lp_c9_allReached_11.eq_2, qi0 SA_19, Option.bind_some, cv1.1, ile_f hi (by omega), zr131_0, Option.bind_some, zg132 (by omega), Option.bind_some, if_neg hp]
      rfl
    · show lp_c9_allReached_11 N 131 19 (mk L S1) (kk + 1) (nI (vN v)) = some (Sum.inr ())
      rw [lp_c9_allReached_11.eq_2, qi0 SA_19, Option.bind_some, cv1.1, ile_t (Nat.le_refl _) (by omega)]
  rw [nI_0] at e
  cases hs : fstN (fun i => decide (¬ 0 ≤ S1.1 132 i)) 0 (vN v) with
  | none =>
    rw [hs] at e
    refine ⟨S1, 1, ?_, f1, Or.inl ⟨fun i hi => ?_, rfl⟩⟩
    · unfold f_c9_allReached
      rw [zc131, Option.bind_some, show f_c9_countSteps N 131 19 15 0 (nI r) (mk L S) = _ from e1, Option.bind_some, e]
      rfl
    · have hp := Decidable.of_not_not (of_decide_eq_false (fstN_none _ _ hs i (by omega) (by omega)))
      rcases Classical.em (∃ m, rL (vN v) (pD g v) r 0 m i) with y | y
      · exact y
      · have := (d1 i hi).2 (fun m hm => y ⟨m, hm⟩)
        rw [this] at hp
        exact absurd hp (by decide)
  | some i =>
    rw [hs] at e
    obtain ⟨-, w1, w2, -⟩ := fstN_some _ _ _ hs
    have w2 := of_decide_eq_true w2
    refine ⟨S1, 0, ?_, f1, Or.inr ⟨fun z => ?_, rfl⟩⟩
    · unfold f_c9_allReached
      rw [zc131, Option.bind_some, show f_c9_countSteps N 131 19 15 0 (nI r) (mk L S) = _ from e1, Option.bind_some, e]
      rfl
    · obtain ⟨m, hm⟩ := z i (by omega)
      have h3 := rL_lt (show i < vN v by omega) hm
      rw [(d1 i (by omega)).1 m hm] at w2
      exact w2 (nI_pos' (by omega))
theorem C_re97 (cg : CG S g) (cv : CV S 19 v) (wg : WG g) (wv : WV g v) (h2 : 2 ≤ vN v) (hN : 900 ≤ N) : ∃ S' V, lp_c10_reach_97 N 10 N 0 (mk L S) = some (nI V, mk L S') ∧ Fr (fun y => y = 132) S S' ∧ V ≤ 10 ∧ (∀ r, r < V → ¬ allR g v r) ∧ (V < 10 → allR g v V) := by
  have e : ∃ z, lp_c10_reach_97 N 10 N (nI 0) (mk L S) = some z ∧ ∃ S' V, z = (nI V, mk L S') ∧ Fr (fun y => y = 132) S S' ∧ V ≤ 10 ∧ (∀ r, r < V → ¬ allR g v r) ∧ (V < 10 → allR g v V) := by
    refine lp_inv (Lp := fun kk (s : gS) i => lp_c10_reach_97 N 10 kk (nI i) (mk L s)) (n := 10) (P := fun i s => Fr (fun y => y = 132) S s ∧ ∀ r, r < i → ¬ allR g v r) (fun kk i s hi hs => ?_) (fun kk s hs => ?_) 10 N 0 S (by omega) (by omega) ⟨Fr.refl, fun r hr => by omega⟩
    · obtain ⟨f, hQ⟩ := hs
      have cg1 : CG s g := cg.fr f (fun y h1 h2 => by omega)
      have cv1 : CV s 19 v := cv.fr f (fun y h1 h2 => by omega)
      obtain ⟨s2, b, e2, f2, hb⟩ := C_allR (L := L) (N := N) (r := i) cg1 cv1 wg wv (by omega) h2 hN
      rcases hb with ⟨hb, rfl⟩ | ⟨hb, rfl⟩
      · left
        refine ⟨(nI i, mk L s2), ?_, s2, i, rfl, f.trans f2 (fun _ z => z) (fun _ z => z), by omega, hQ, fun _ => hb⟩
        show lp_c10_reach_97 N 10 (kk + 1) (nI i) (mk L s) = _
        rw [lp_c10_reach_97.eq_2, k10, ile_f hi (by omega), zr10_9, Option.bind_some, zr10_3, Option.bind_some, zr10_2, Option.bind_some, e2, Option.bind_some, i10]
      · right
        refine ⟨s2, ?_, f.trans f2 (fun _ z => z) (fun _ z => z), fun r hr => ?_⟩
        · show lp_c10_reach_97 N 10 (kk + 1) (nI i) (mk L s) = lp_c10_reach_97 N 10 kk (nI (i + 1)) (mk L s2)
          rw [lp_c10_reach_97.eq_2, k10, ile_f hi (by omega), zr10_9, Option.bind_some, zr10_3, Option.bind_some, zr10_2, Option.bind_some, e2, Option.bind_some, i00, nI_1]
        · by_cases y : r = i
          · rw [y]; exact hb
          · exact hQ r (by omega)
    · obtain ⟨f, hQ⟩ := hs
      refine ⟨(nI 10, mk L s), ?_, s, 10, rfl, f, Nat.le_refl _, hQ, fun z => by omega⟩
      show lp_c10_reach_97 N 10 (kk + 1) (nI 10) (mk L s) = _
      rw [lp_c10_reach_97.eq_2, k10, ile_t (Nat.le_refl _) (by omega)]
  obtain ⟨z, e, S', V, er, e2⟩ := e
  rw [er] at e
  exact ⟨S', V, e, e2⟩
theorem M_re40 (cv : MW T 145 v) (h8 : vN v ≤ 8) (hD : lyD T g v r 0) (hN : 900 ≤ N) : ∃ b, lp_c11_reach_40 N 144 (mk L T) N 1 0 = some b ∧ isB b (allR g v r) := by
  have e : ∃ b, lp_c11_reach_40 N 144 (mk L T) N 1 (nI 0) = some b ∧ isB b (allR g v r) := by
    refine lp_inv (Lp := fun kk (s : Int32) i => lp_c11_reach_40 N 144 (mk L T) kk s (nI i)) (n := vN v) (P := fun i s => isB s (∀ j, j < i → ∃ m, rL (vN v) (pD g v) r 0 m j)) (fun kk i s hi hs => Or.inr ?_) (fun kk s hs => ⟨s, ?_, hs⟩) (vN v) N 0 1 (by omega) (by omega) (Or.inl ⟨fun j hj => by omega, rfl⟩)
    · show ∃ s', lp_c11_reach_40 N 144 (mk L T) (kk + 1) s (nI i) = lp_c11_reach_40 N 144 (mk L T) kk s' (nI (i + 1)) ∧ isB s' (∀ j, j < i + 1 → ∃ m, rL (vN v) (pD g v) r 0 m j)
      rw [lp_c11_reach_40.eq_2, zr144_0, Option.bind_some, k40, zg145 (by omega), Option.bind_some, cv.1, ile_f hi (by omega)]
      rcases hs with ⟨s1, rfl⟩ | ⟨s1, rfl⟩
      · rw [i10, zr144_31, Option.bind_some, zg162 (by omega), Option.bind_some]
        rcases Classical.em (∃ m, rL (vN v) (pD g v) r 0 m i) with ⟨m, hm⟩ | y
        · have h3 := rL_lt hi hm
          refine ⟨1, ?_, Or.inl ⟨fun j hj => ?_, rfl⟩⟩
          · rw [(hD i hi).1 m hm, if_neg (show ¬ (1000000 : Int32) ≤ nI (m + 1) from nI_ge (b := 1000000) (by omega) (by omega)), Option.bind_some, nI_1]
          · by_cases z : j = i
            · rw [z]; exact ⟨m, hm⟩
            · exact s1 j (by omega)
        · refine ⟨0, ?_, Or.inr ⟨fun f => y (f i (by omega)), rfl⟩⟩
          rw [(hD i hi).2 (fun m hm => y ⟨m, hm⟩), if_pos (show (1000000 : Int32) ≤ nI 1000000 by decide), Option.bind_some, nI_1]
      · rw [i00]
        exact ⟨0, by rw [Option.bind_some, nI_1], Or.inr ⟨fun f => s1 (fun j hj => f j (by omega)), rfl⟩⟩
    · show lp_c11_reach_40 N 144 (mk L T) (kk + 1) s (nI (vN v)) = _
      rw [lp_c11_reach_40.eq_2, zr144_0, Option.bind_some, k40, zg145 (by omega), Option.bind_some, cv.1, ile_t (Nat.le_refl _) (by omega)]
  exact e
theorem M_re23 {V : Nat} (cg : MG T g) (cv : MW T 145 v) (wg : WG g) (wv : WV g v) (h2 : 2 ≤ vN v) (hV0 : 0 < V) (hV : V ≤ 10) (hA : allR g v V) (hB : ∀ r, r < V → ¬ allR g v r) (hN : 900 ≤ N) : ∃ T', lp_c11_reach_23 N 144 N 0 0 (mk L T) = some (nI V, mk L T') ∧ FM (fun y => y = 162) (fun _ => False) T T' := by
  have h8 := wv.1
  have e : ∃ z, lp_c11_reach_23 N 144 N (nI 0) 0 (mk L T) = some z ∧ ∃ T', z = (nI V, mk L T') ∧ FM (fun y => y = 162) (fun _ => False) T T' := by
    refine lp_inv (Lp := fun kk (s : Int32 × gS) i => lp_c11_reach_23 N 144 kk (nI i) s.1 (mk L s.2)) (n := V) (P := fun i s => FM (fun y => y = 162) (fun _ => False) T s.2 ∧ (i < V → s.1 = 0) ∧ (i = V → s.1 = 1)) (fun kk i s hi hs => Or.inr ?_) (fun kk s hs => ?_) V N 0 (0, T) (by omega) (by omega) ⟨FM.refl, fun _ => rfl, fun z => by omega⟩
    · obtain ⟨b, s⟩ := s
      obtain ⟨f, hb, -⟩ := hs
      dsimp only at f hb
      have hb := hb hi
      subst hb
      have mg : MG s g := cg.fm f ⟨fun z => z, fun z => z, fun z => z⟩ ⟨by omega, by omega⟩
      have mv : MW s 145 v := cv.fm f (by omega) (by omega)
      obtain ⟨s2, e2, f2, d2⟩ := M_layS (L := L) (N := N) (r := i + 1) (t := 0) mg mv wg wv (by omega) (by omega) hN
      have mv2 : MW s2 145 v := mv.fm f2 (by omega) (by omega)
      obtain ⟨b2, e3, hb2⟩ := M_re40 (L := L) (N := N) mv2 h8 d2 hN
      refine ⟨(b2, s2), ?_, f.tr f2, fun z => ?_, fun z => ?_⟩
      · show lp_c11_reach_23 N 144 (kk + 1) (nI i) 0 (mk L s) = lp_c11_reach_23 N 144 kk (nI (i + 1)) b2 (mk L s2)
        rw [lp_c11_reach_23.eq_2, i00, nI_1, show f_c11_laySteps N 144 0 (nI (i + 1)) (mk L s) = _ from e2, Option.bind_some, e3, Option.bind_some]
      · rcases hb2 with ⟨y, -⟩ | ⟨-, y⟩
        · exact absurd y (hB (i + 1) z)
        · exact y
      · rcases hb2 with ⟨-, y⟩ | ⟨y, -⟩
        · exact y
        · rw [z] at y
          exact absurd hA y
    · obtain ⟨b, s⟩ := s
      obtain ⟨f, -, hb⟩ := hs
      dsimp only at f hb
      have hb := hb rfl
      subst hb
      refine ⟨(nI V, mk L s), ?_, s, rfl, f⟩
      show lp_c11_reach_23 N 144 (kk + 1) (nI V) 1 (mk L s) = _
      rw [lp_c11_reach_23.eq_2, i10]
  obtain ⟨z, e, T', er, e2⟩ := e
  rw [er] at e
  exact ⟨T', e, e2⟩
theorem A_reach (w : WA A) (q : CA S A) (m : MA S A c) (hN : 900 ≤ N) : Agr L S c (f_c10_reach N 10) (f_c11_reach N 144) := by
  obtain ⟨g, v, x, l, u, n, k, h⟩ := A
  have wv : WV g v := w.2.1
  have wg : WG g := w.1
  have h8 : vN v ≤ 8 := wv.1
  have cv : CV S 19 v := q.2.1
  have cg : CG S g := q.1
  by_cases z2 : 2 ≤ vN v
  · have c2 : (2 : Int32) ≤ nI (vN v) := nI_le (a := 2) z2 (by omega)
    obtain ⟨V, hV, hA, hB⟩ := least_ex (P := allR g v) 10 (allR_10 wg wv z2)
    have hV0 : 0 < V := by
      rcases Nat.eq_zero_or_pos V with y | y
      · rw [y] at hA; exact absurd hA (allR_0 wv z2)
      · exact y
    obtain ⟨S1, V', e1, f1, v1, v2, v3⟩ := C_re97 (L := L) (N := N) cg cv wg wv z2 hN
    have eV : V' = V := by
      rcases Nat.lt_trichotomy V' V with y | y | y
      · exact absurd (v3 (by omega)) (hB V' y)
      · exact y
      · exact absurd hA (v2 V y)
    rw [eV] at e1
    have q1 : CA S1 (g, v, x, l, u, n, k, h) := q.fr f1 (fun y hy => by unfold sC; omega)
    have cv1 : CV S1 19 v := q1.2.1
    have cg1 : CG S1 g := q1.1
    have l1 : Fr lowC S S1 := f1.low (fun y hy => by omega)
    obtain ⟨o1, o2⟩ := pO_ok (bt := bGt) (d := pD g v) z2 (vN v) (Nat.le_refl _)
    have eC := C_re20 (L := L) (N := N) cg cv wg wv z2 hN
    have eM := fun (T : gS) (a : MG T g) (b : MW T 145 v) => M_re90 (L := L) (N := N) a b wg wv z2 hN
    generalize pO bGt (pD g v) (vN v) (vN v) = st at *
    obtain ⟨S2, e2, q2, f2⟩ := C_tell3A (L := L) (N := N) (r := nI V) (y := (nI st.1).toInt64) (z := (nI st.2).toInt64) (b := (nI (pD g v st.1 st.2)).toInt64) q1
    refine AgrI (c' := c) m (r := nI V) (S1 := S2) ?_ (lowTr l1 f2) q2 (w.rw (by show 3 ≤ 8; omega)) (by omega) (fun T mt => ?_)
    · unfold f_c10_reach
      rw [zc10, Option.bind_some, zr10_3, Option.bind_some, qi0 SA_19, Option.bind_some, cv.1, if_pos c2, eC, Option.bind_some, e1, Option.bind_some, zr10_3, Option.bind_some, zr10_2, Option.bind_some, C_apart cg1 cv1 wg wv o1 o2, Option.bind_some, e2, Option.bind_some]
    · have t1 := mt.thr
      have mg1 : MG (stI T 144 10 0) g := t1.1
      have mv1 : MW (stI T 144 10 0) 145 v := t1.2.1
      obtain ⟨T1, g1, g2⟩ := M_re23 (L := L) (N := N) mg1 mv1 wg wv z2 hV0 hV hA hB hN
      have t2 : MA T1 (g, v, x, l, u, n, k, h) c := t1.fm g2 (fun y hy => by unfold sM; omega) (fun _ z => z.elim)
      obtain ⟨T2, g3, t3, h3, -⟩ := M_t1 (L := L) (N := N) (y := (nI st.1).toInt64) t2
      obtain ⟨T3, g4, t4, h4, -⟩ := M_t2 (L := L) (N := N) (z := (nI st.2).toInt64) t3
      obtain ⟨T4, g5, t5, h5, -⟩ := M_t3 (L := L) (N := N) (b := (nI (pD g v st.1 st.2)).toInt64) t4
      have mg4 : MG T3 g := t4.1
      have mv4 : MW T3 145 v := t4.2.1
      have eN : (stI T 144 10 0).1 145 40 = nI (vN v) := mv1.1
      refine ⟨T4, ?_, highTr thrH (highTr (g2.high (fun y hy => by omega)) (highTr h3 (highTr h4 h5))), t5⟩
      unfold f_c11_reach
      rw [zc144, Option.bind_some, zs144_10, Option.bind_some, zr144_0, Option.bind_some, k40, zg145 (by omega), Option.bind_some, eN, if_pos c2, g1, Option.bind_some, eM T1 t2.1 t2.2.1, Option.bind_some, zs144_9, Option.bind_some, g3, Option.bind_some, g4, Option.bind_some, zr144_0, Option.bind_some, zg145 (by omega), Option.bind_some, Option.bind_some, zg145 (by omega), Option.bind_some, (mv4.2.2.2 st.1 o1).1, (mv4.2.2.2 st.2 o2).1, M_apart mg4 wg wv o1 o2, Option.bind_some, g5, Option.bind_some]
  · have c2 : ¬ (2 : Int32) ≤ nI (vN v) := nI_ge (b := 2) (by omega) (by omega)
    refine AgrR w q m (r := -2) ?_ (fun T _ t1 => ?_)
    · unfold f_c10_reach
      rw [zc10, Option.bind_some, zr10_3, Option.bind_some, qi0 SA_19, Option.bind_some, cv.1, if_neg c2]
    · have eN : (stI T 144 10 0).1 145 40 = nI (vN v) := t1.2.1.1
      unfold f_c11_reach
      rw [zc144, Option.bind_some, zs144_10, Option.bind_some, zr144_0, Option.bind_some, k40, zg145 (by omega), Option.bind_some, eN, if_neg c2]
end REACH
