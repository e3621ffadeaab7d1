/-! STEPS from well to well: how many to one, in class and reference -/
def rP (n : Nat) (d : Nat → Nat → Nat) (r t : Nat) : Nat → Nat → Prop
  | 0, i => i = t
  | k + 1, i => rP n d r t k i ∨ ∃ j, j < n ∧ d i j ≤ r ∧ rP n d r t k j
def rL (n : Nat) (d : Nat → Nat → Nat) (r t m i : Nat) : Prop := rP n d r t m i ∧ ∀ k, k < m → ¬ rP n d r t k i
section LEVELS
variable {n : Nat} {d : Nat → Nat → Nat} {r t : Nat}
theorem rP_add {i k : Nat} (h : rP n d r t k i) : ∀ e, rP n d r t (k + e) i := by
  intro e
  induction e with
  | zero => exact h
  | succ e ih => exact Or.inl ih
theorem rP_mono {i k k' : Nat} (h : rP n d r t k i) (hk : k ≤ k') : rP n d r t k' i := by
  obtain ⟨e, rfl⟩ : ∃ e, k' = k + e := ⟨k' - k, by omega⟩
  exact rP_add h e
theorem rL_ex {i : Nat} : ∀ k, rP n d r t k i → ∃ m, m ≤ k ∧ rL n d r t m i := by
  intro k
  induction k with
  | zero => exact fun h => ⟨0, Nat.le_refl _, h, fun k hk => by omega⟩
  | succ k ih =>
    intro h
    rcases Classical.em (rP n d r t k i) with y | y
    · obtain ⟨m, h1, h2⟩ := ih y
      exact ⟨m, by omega, h2⟩
    · exact ⟨k + 1, Nat.le_refl _, h, fun j hj z => y (rP_mono z (by omega))⟩
theorem rL_uni {i m m' : Nat} (h : rL n d r t m i) (h' : rL n d r t m' i) : m = m' := by
  rcases Nat.lt_trichotomy m m' with y | y | y
  · exact absurd h.1 (h'.2 m y)
  · exact y
  · exact absurd h'.1 (h.2 m' y)
theorem rL_down {i m : Nat} (h : rL n d r t (m + 1) i) : ∃ j, j < n ∧ d i j ≤ r ∧ rL n d r t m j := by
  rcases h.1 with y | ⟨j, h1, h2, h3⟩
  · exact absurd y (h.2 m (by omega))
  · refine ⟨j, h1, h2, h3, fun k hk z => ?_⟩
    exact h.2 (k + 1) (by omega) (Or.inr ⟨j, h1, h2, z⟩)
theorem rL_at {i m : Nat} (hi : i < n) (h : rL n d r t m i) : ∀ e, e ≤ m → ∃ j, j < n ∧ rL n d r t (m - e) j := by
  intro e
  induction e with
  | zero => exact fun _ => ⟨i, hi, h⟩
  | succ e ih =>
    intro he
    obtain ⟨j, h1, h2⟩ := ih (by omega)
    obtain ⟨b, hb⟩ : ∃ b, m - e = b + 1 := ⟨m - e - 1, by omega⟩
    rw [hb] at h2
    obtain ⟨j', h3, -, h4⟩ := rL_down h2
    exact ⟨j', h3, by rw [show m - (e + 1) = b by omega]; exact h4⟩
theorem rL_lt {i m : Nat} (hi : i < n) (h : rL n d r t m i) : m < n := by
  have hf : ∃ f : Nat → Nat, ∀ w m, rL n d r t m w → f w = m := by
    refine ⟨fun w => @dite Nat (∃ m, rL n d r t m w) (Classical.propDecidable _) (fun z => z.choose) (fun _ => 0), fun w m hm => ?_⟩
    have z : ∃ m, rL n d r t m w := ⟨m, hm⟩
    show @dite Nat (∃ m, rL n d r t m w) (Classical.propDecidable _) (fun z => z.choose) (fun _ => 0) = m
    rw [dif_pos z]
    exact rL_uni z.choose_spec hm
  obtain ⟨f, hf⟩ := hf
  obtain ⟨x, hx, h1⟩ := pig n f
  rcases Nat.lt_or_ge m x with y | y
  · omega
  · obtain ⟨j, h2, h3⟩ := rL_at hi h (m - x) (by omega)
    rw [show m - (m - x) = x by omega] at h3
    exact absurd (hf j x h3) (h1 j h2)
theorem rL_up {i j m : Nat} (hj : j < n) (h1 : d i j ≤ r) (h : rL n d r t m j) (hn : ∀ k, k ≤ m → ¬ rL n d r t k i) : rL n d r t (m + 1) i := by
  refine ⟨Or.inr ⟨j, hj, h1, h.1⟩, fun k hk z => ?_⟩
  obtain ⟨m', h2, h3⟩ := rL_ex k z
  exact hn m' (by omega) h3
end LEVELS
theorem fstN_ext {p p' : Nat → Bool} : ∀ (e i : Nat), (∀ u, i ≤ u → u < i + e → p u = p' u) → fstN p i e = fstN p' i e := by
  intro e
  induction e with
  | zero => exact fun _ _ => rfl
  | succ e ih =>
    intro i h
    unfold fstN
    rw [h i (by omega) (by omega), ih (i + 1) (fun u h1 h2 => h u (by omega) (by omega))]
section STEPS
variable {L N : Nat} {S T : gS} {c : Nat} {g : pG} {v : pV} {x : pX} {l : List Int64} {u : pX} {n : pN} {k : Nat → Option pV} {h : pH} {A : pA} {r t : Nat}
theorem C_next {i R : Nat} (cg : CG S g) (cv : CV S 19 v) (wg : WG g) (wv : WV g v) (hi : i < vN v) (hr : r < 1000) (hN : 900 ≤ N) : f_c9_nextOne N 131 19 15 (nI i) (nI r) (nI R) (mk L S) = some (oI (fstN (fun j => decide (S.1 132 j = nI R ∧ pD g v i j ≤ r)) 0 (vN v))) := by
  have h8 := wv.1
  have e : lp_c9_nextOne_3 N 131 19 15 (nI i) (nI r) (nI R) (mk L S) N (nI 0) = some ((fun o : Option Nat => match o with | some j => Sum.inl (nI j) | none => Sum.inr ()) (fstN (fun j => decide (S.1 132 j = nI R ∧ pD g v i j ≤ r)) 0 (vN v))) := by
    refine lp_fst (Lp := fun kk j => lp_c9_nextOne_3 N 131 19 15 (nI i) (nI r) (nI R) (mk L S) kk (nI j)) (o := fun o => match o with | some j => Sum.inl (nI j) | none => Sum.inr ()) (n := vN v) (fun kk j hj hp => ?_) (fun kk j hj hp => ?_) (fun kk => ?_) (vN v) N 0 (by omega) (by omega)
    · have hp := of_decide_eq_false hp
      have l1 := pD_lt wg wv hi hj
      show lp_c9_nextOne_3 N 131 19 15 (nI i) (nI r) (nI R) (mk L S) (kk + 1) (nI j) = lp_c9_nextOne_3 N 131 19 15 (nI i) (nI r) (nI R) (mk L S) kk (nI (j + 1))
      rw [lp_c9_nextOne_3.eq_2, qi0 SA_19, Option.bind_some, cv.1, ile_f hj (by omega), zr131_0, Option.bind_some, zg132 (by omega), Option.bind_some]
      by_cases z : S.1 132 j = nI R
      · rw [if_pos z, C_apart cg cv wg wv hi hj, Option.bind_some, ilt_t (show r < pD g v i j by
          rcases Nat.lt_or_ge r (pD g v i j) with y | y
          · exact y
          · exact absurd ⟨z, y⟩ hp) (by omega), nI_1]
      · rw [if_neg z, nI_1]
    · have hp := of_decide_eq_true hp
      show lp_c9_nextOne_3 N 131 19 15 (nI i) (nI r) (nI R) (mk L S) (kk + 1) (nI j) = some (Sum.inl (nI j))
      rw [lp_c9_nextOne_3.eq_2, qi0 SA_19, Option.bind_some, cv.1, ile_f hj (by omega), zr131_0, Option.bind_some, zg132 (by omega), Option.bind_some, if_pos hp.1, C_apart cg cv wg wv hi hj, Option.bind_some, ilt_f hp.2 (by omega)]
    · show lp_c9_nextOne_3 N 131 19 15 (nI i) (nI r) (nI R) (mk L S) (kk + 1) (nI (vN v)) = some (Sum.inr ())
      rw [lp_c9_nextOne_3.eq_2, qi0 SA_19, Option.bind_some, cv.1, ile_t (Nat.le_refl _) (by omega)]
  unfold f_c9_nextOne
  rw [zc131, Option.bind_some, ← nI_0, e]
  cases fstN (fun j => decide (S.1 132 j = nI R ∧ pD g v i j ≤ r)) 0 (vN v) with
  | none => rfl
  | some j => rfl
/-- the cell of one well, where all that are R steps away or less are found -/
def scV (S : gS) (g : pG) (v : pV) (r t R i : Nat) : Prop := (∀ m, m ≤ R → rL (vN v) (pD g v) r t m i → S.1 132 i = nI m) ∧ ((∀ m, m ≤ R → ¬ rL (vN v) (pD g v) r t m i) → S.1 132 i = -1)
theorem scV_iff {R R' i : Nat} (hR : R < 1000) (h1 : R ≤ R') (hR2 : R' < 1000) (h : scV S g v r t R' i) : S.1 132 i = nI R ↔ rL (vN v) (pD g v) r t R i := by
  constructor
  · intro e
    rcases Classical.em (∃ m, m ≤ R' ∧ rL (vN v) (pD g v) r t m i) with ⟨m, y1, y2⟩ | y
    · have := h.1 m y1 y2
      rw [this] at e
      have := (nI_eq (by omega) (by omega)).mp e
      rw [← this]
      exact y2
    · have := h.2 (fun m h1 h2 => y ⟨m, h1, h2⟩)
      rw [this] at e
      exact absurd e.symm (nI_m1 (by omega))
  · intro e
    exact h.1 R h1 e
theorem scV_fr {S' : gS} {R i : Nat} (e : S'.1 132 i = S.1 132 i) (h : scV S g v r t R i) : scV S' g v r t R i := ⟨fun m h1 h2 => e.trans (h.1 m h1 h2), fun h1 => e.trans (h.2 h1)⟩
theorem C_cs3 (ht : t < 8) (hN : 900 ≤ N) : ∃ S', lp_c9_countSteps_3 N 131 (nI t) N 0 (mk L S) = some (mk L S') ∧ Fr (fun y => y = 132) S S' ∧ ∀ i, i < 8 → S'.1 132 i = if i = t then 0 else -1 := by
  have e : ∃ z, lp_c9_countSteps_3 N 131 (nI t) N (nI 0) (mk L S) = some z ∧ ∃ S', z = mk L S' ∧ Fr (fun y => y = 132) S S' ∧ ∀ i, i < 8 → S'.1 132 i = if i = t then 0 else -1 := by
    refine lp_inv (Lp := fun kk (s : gS) i => lp_c9_countSteps_3 N 131 (nI t) kk (nI i) (mk L s)) (n := 8) (P := fun i s => Fr (fun y => y = 132) S s ∧ ∀ j, j < i → s.1 132 j = if j = t then 0 else -1) (fun kk i s hi hs => Or.inr ?_) (fun kk s hs => ⟨mk L s, ?_, s, rfl, hs.1, hs.2⟩) 8 N 0 S (by omega) (by omega) ⟨Fr.refl, fun j hj => by omega⟩
    · refine ⟨stI s 132 i (if i = t then 0 else -1), ?_, hs.1.trans (Fr.stI (A := fun y => y = 132) rfl) (fun _ z => z) (fun _ z => z), fun j hj => ?_⟩
      · show lp_c9_countSteps_3 N 131 (nI t) (kk + 1) (nI i) (mk L s) = lp_c9_countSteps_3 N 131 (nI t) kk (nI (i + 1)) _
        rw [lp_c9_countSteps_3.eq_2, k8, ile_f hi (by omega), zr131_0, Option.bind_some]
        by_cases z : i = t
        · rw [ieq_t z, if_pos z, zp132 (by omega), Option.bind_some, nI_1]
        · rw [ieq_f z (by omega) (by omega), if_neg z, zp132 (by omega), Option.bind_some, nI_1]
      · by_cases z : j = i
        · rw [z, rdI_eq]
        · rw [rdI_ne (by omega)]; exact hs.2 j (by omega)
    · show lp_c9_countSteps_3 N 131 (nI t) (kk + 1) (nI 8) _ = _
      rw [lp_c9_countSteps_3.eq_2, k8, ile_t (Nat.le_refl _) (by omega)]
  obtain ⟨z, e, S1, er, e2, e3⟩ := e
  rw [er] at e
  exact ⟨S1, e, e2, e3⟩
theorem C_cs49 {R : Nat} (cg : CG S g) (cv : CV S 19 v) (wg : WG g) (wv : WV g v) (hr : r < 1000) (hR : R < 900) (h0 : ∀ i, i < vN v → scV S g v r t R i) (hN : 900 ≤ N) : ∃ S', lp_c9_countSteps_49 N 131 19 15 (nI r) (nI R) N 0 (mk L S) = some (mk L S') ∧ Fr (fun y => y = 132) S S' ∧ ∀ i, i < vN v → scV S' g v r t (R + 1) i := by
  have h8 := wv.1
  have e : ∃ z, lp_c9_countSteps_49 N 131 19 15 (nI r) (nI R) N (nI 0) (mk L S) = some z ∧ ∃ S', z = mk L S' ∧ Fr (fun y => y = 132) S S' ∧ ∀ i, i < vN v → scV S' g v r t (R + 1) i := by
    refine lp_inv (Lp := fun kk (s : gS) i => lp_c9_countSteps_49 N 131 19 15 (nI r) (nI R) kk (nI i) (mk L s)) (n := vN v) (P := fun i s => Fr (fun y => y = 132) S s ∧ ∀ j, j < vN v → (j < i → scV s g v r t (R + 1) j) ∧ (i ≤ j → scV s g v r t R j)) (fun kk i s hi hs => Or.inr ?_) (fun kk s hs => ?_) (vN v) N 0 S (by omega) (by omega) ⟨Fr.refl, fun j hj => ⟨fun z => by omega, fun _ => h0 j hj⟩⟩
    · obtain ⟨f, hQ⟩ := hs
      have cg1 : CG s g := cg.fr f (fun y h1 h2 => by omega)
      have cv1 : CV s 19 v := cv.fr f (fun y h1 h2 => by omega)
      have hc : ∀ j, j < vN v → (s.1 132 j = nI R ↔ rL (vN v) (pD g v) r t R j) := fun j hj => by
        rcases Nat.lt_or_ge j i with y | y
        · exact scV_iff (by omega) (by omega) (by omega) ((hQ j hj).1 y)
        · exact scV_iff (by omega) (by omega) (by omega) ((hQ j hj).2 y)
      have hq := (hQ i hi).2 (Nat.le_refl _)
      have eN := C_next (L := L) (N := N) (r := r) (R := R) cg1 cv1 wg wv hi hr hN
      -- keep: the cell stays
      have keep : scV s g v r t (R + 1) i → ∃ s', lp_c9_countSteps_49 N 131 19 15 (nI r) (nI R) kk (nI (i + 1)) (mk L s) = lp_c9_countSteps_49 N 131 19 15 (nI r) (nI R) kk (nI (i + 1)) (mk L s') ∧ (Fr (fun y => y = 132) S s' ∧ ∀ j, j < vN v → (j < i + 1 → scV s' g v r t (R + 1) j) ∧ (i + 1 ≤ j → scV s' g v r t R j)) := fun z => ⟨s, rfl, f, fun j hj => ⟨fun y => by
        by_cases y2 : j = i
        · rw [y2]; exact z
        · exact (hQ j hj).1 (by omega), fun y => (hQ j hj).2 (by omega)⟩⟩
      show ∃ s', lp_c9_countSteps_49 N 131 19 15 (nI r) (nI R) (kk + 1) (nI i) (mk L s) = lp_c9_countSteps_49 N 131 19 15 (nI r) (nI R) kk (nI (i + 1)) (mk L s') ∧ (Fr (fun y => y = 132) S s' ∧ ∀ j, j < vN v → (j < i + 1 → scV s' g v r t (R + 1) j) ∧ (i + 1 ≤ j → scV s' g v r t R j))
      rw [lp_c9_countSteps_49.eq_2, qi0 SA_19, Option.bind_some, cv1.1, ile_f hi (by omega), zr131_0, Option.bind_some, zg132 (by omega), Option.bind_some]
      rcases Classical.em (∃ m, m ≤ R ∧ rL (vN v) (pD g v) r t m i) with ⟨m, y1, y2⟩ | y
      · have e1 := hq.1 m y1 y2
        rw [e1, izle (by omega), Option.bind_some, nI_1]
        exact keep ⟨fun m' h1 h2 => by rw [e1, rL_uni y2 h2], fun h => absurd y2 (h m (by omega))⟩
      · have hno : ∀ m, m ≤ R → ¬ rL (vN v) (pD g v) r t m i := fun m h1 h2 => y ⟨m, h1, h2⟩
        have e1 := hq.2 hno
        rw [e1, if_neg (show ¬ (0 : Int32) ≤ -1 by decide), eN, Option.bind_some]
        cases hs : fstN (fun j => decide (s.1 132 j = nI R ∧ pD g v i j ≤ r)) 0 (vN v) with
        | none =>
          rw [show oI (none : Option Nat) = -1 from rfl, if_pos (show (-1 : Int32) < 0 by decide), Option.bind_some, nI_1]
          refine keep ⟨fun m' h1 h2 => ?_, fun _ => e1⟩
          exfalso
          by_cases w : m' ≤ R
          · exact hno m' w h2
          · have : m' = R + 1 := by omega
            rw [this] at h2
            obtain ⟨j, w1, w2, w3⟩ := rL_down h2
            have := of_decide_eq_false (fstN_none _ _ hs j (by omega) (by omega))
            exact this ⟨(hc j w1).mpr w3, w2⟩
        | some j =>
          obtain ⟨-, w1, w2, -⟩ := fstN_some _ _ _ hs
          have w2 := of_decide_eq_true w2
          have up := rL_up (n := vN v) (by omega) w2.2 ((hc j (by omega)).mp w2.1) hno
          rw [show oI (some j) = nI j from rfl, iltz (by omega), Option.bind_some, nI_1, zp132 (by omega), Option.bind_some, Option.bind_some, nI_1]
          refine ⟨stI s 132 i (nI (R + 1)), rfl, f.trans (Fr.stI (A := fun y => y = 132) rfl) (fun _ z => z) (fun _ z => z), fun j' hj => ⟨fun y1 => ?_, fun y1 => ?_⟩⟩
          · by_cases y2 : j' = i
            · rw [y2]
              exact ⟨fun m' h1 h2 => by rw [rdI_eq, rL_uni up h2], fun h => absurd up (h (R + 1) (Nat.le_refl _))⟩
            · exact scV_fr (rdI_ne (by omega)) ((hQ j' hj).1 (by omega))
          · exact scV_fr (rdI_ne (by omega)) ((hQ j' hj).2 (by omega))
    · obtain ⟨f, hQ⟩ := hs
      have cv1 : CV s 19 v := cv.fr f (fun y h1 h2 => by omega)
      refine ⟨mk L s, ?_, s, rfl, f, fun i hi => (hQ i hi).1 hi⟩
      show lp_c9_countSteps_49 N 131 19 15 (nI r) (nI R) (kk + 1) (nI (vN v)) (mk L s) = _
      rw [lp_c9_countSteps_49.eq_2, qi0 SA_19, Option.bind_some, cv1.1, ile_t (Nat.le_refl _) (by omega)]
  obtain ⟨z, e, S1, er, e2, e3⟩ := e
  rw [er] at e
  exact ⟨S1, e, e2, e3⟩
/-- all cells, at the end -/
def scD (S : gS) (g : pG) (v : pV) (r t : Nat) : Prop := ∀ i, i < vN v → (∀ m, rL (vN v) (pD g v) r t m i → S.1 132 i = nI m) ∧ ((∀ m, ¬ rL (vN v) (pD g v) r t m i) → S.1 132 i = -1)
theorem C_count (cg : CG S g) (cv : CV S 19 v) (wg : WG g) (wv : WV g v) (hr : r < 1000) (ht : t < vN v) (hN : 900 ≤ N) : ∃ S', f_c9_countSteps N 131 19 15 (nI t) (nI r) (mk L S) = some (mk L S') ∧ Fr (fun y => y = 132) S S' ∧ scD S' g v r t := by
  have h8 := wv.1
  obtain ⟨S1, e1, f1, q1⟩ := C_cs3 (L := L) (N := N) (S := S) (t := t) (by omega) hN
  have hz : ∀ i, i < vN v → scV S1 g v r t 0 i := fun i hi => by
    have := q1 i (by omega)
    by_cases z : i = t
    · rw [if_pos z] at this
      exact ⟨fun m h1 _ => by rw [this, show m = 0 by omega]; rfl, fun h => absurd (show rL (vN v) (pD g v) r t 0 i from ⟨z, fun k hk => by omega⟩) (h 0 (Nat.le_refl _))⟩
    · rw [if_neg z] at this
      refine ⟨fun m h1 h2 => ?_, fun _ => this⟩
      rw [show m = 0 by omega] at h2
      exact absurd h2.1 z
  have e : ∃ z, lp_c9_countSteps_37 N 131 19 15 (nI r) N (nI 0) (mk L S1) = some z ∧ ∃ S', z = mk L S' ∧ Fr (fun y => y = 132) S S' ∧ ∀ i, i < vN v → scV S' g v r t (vN v) i := by
    refine lp_inv (Lp := fun kk (s : gS) i => lp_c9_countSteps_37 N 131 19 15 (nI r) kk (nI i) (mk L s)) (n := vN v) (P := fun i s => Fr (fun y => y = 132) S s ∧ ∀ j, j < vN v → scV s g v r t i j) (fun kk i s hi hs => Or.inr ?_) (fun kk s hs => ?_) (vN v) N 0 S1 (by omega) (by omega) ⟨f1, hz⟩
    · obtain ⟨f, hQ⟩ := hs
      have cg1 : CG s g := cg.fr f (fun y h1 h2 => by omega)
      have cv1 : CV s 19 v := cv.fr f (fun y h1 h2 => by omega)
      obtain ⟨s2, e2, f2, q2⟩ := C_cs49 (L := L) (N := N) (R := i) cg1 cv1 wg wv hr (by omega) hQ hN
      refine ⟨s2, ?_, f.trans f2 (fun _ z => z) (fun _ z => z), q2⟩
      show lp_c9_countSteps_37 N 131 19 15 (nI r) (kk + 1) (nI i) (mk L s) = lp_c9_countSteps_37 N 131 19 15 (nI r) kk (nI (i + 1)) (mk L s2)
      rw [lp_c9_countSteps_37.eq_2, qi0 SA_19, Option.bind_some, cv1.1, ile_f hi (by omega), e2, Option.bind_some, nI_1]
    · obtain ⟨f, hQ⟩ := hs
      have cv1 : CV s 19 v := cv.fr f (fun y h1 h2 => by omega)
      refine ⟨mk L s, ?_, s, rfl, f, hQ⟩
      show lp_c9_countSteps_37 N 131 19 15 (nI r) (kk + 1) (nI (vN v)) (mk L s) = _
      rw [lp_c9_countSteps_37.eq_2, qi0 SA_19, Option.bind_some, cv1.1, ile_t (Nat.le_refl _) (by omega)]
  obtain ⟨z, e, S2, er, e2, e3⟩ := e
  rw [er, nI_0] at e
  refine ⟨S2, ?_, e2, fun i hi => ⟨fun m hm => (e3 i hi).1 m (by have := rL_lt hi hm; omega) hm, fun h => (e3 i hi).2 (fun m _ => h m)⟩⟩
  unfold f_c9_countSteps
  rw [zc131, Option.bind_some, e1, Option.bind_some, e, Option.bind_some]
end STEPS
