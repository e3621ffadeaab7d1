/-! CALLS: square -/
def sSd (g : pG) (v : pV) (f : Nat) : Nat → Nat
  | 0 => min (gRw g - f / gCo g) (gCo g - f % gCo g)
  | i + 1 => if f / gCo g ≤ vF v i / gCo g ∧ f % gCo g ≤ vF v i % gCo g then min (sSd g v f i) (max (vF v i / gCo g - f / gCo g) (vF v i % gCo g - f % gCo g)) else sSd g v f i
def sHit (g : pG) (v : pV) (f d i : Nat) : Bool := decide (f / gCo g ≤ vF v i / gCo g ∧ vF v i / gCo g ≤ f / gCo g + d - 1 ∧ f % gCo g ≤ vF v i % gCo g ∧ vF v i % gCo g ≤ f % gCo g + d - 1)
theorem sSd_le {g : pG} {v : pV} {f : Nat} : ∀ n, sSd g v f n ≤ min (gRw g) (gCo g) := by
  intro n
  induction n with
  | zero =>
    have h1 : gRw g - f / gCo g ≤ gRw g := Nat.sub_le _ _
    have h2 : gCo g - f % gCo g ≤ gCo g := Nat.sub_le _ _
    show min (gRw g - f / gCo g) (gCo g - f % gCo g) ≤ _
    generalize gRw g - f / gCo g = a at *
    generalize gCo g - f % gCo g = b at *
    omega
  | succ n ih =>
    unfold sSd
    split
    · omega
    · exact ih
theorem sSd_iff {g : pG} {v : pV} {f d : Nat} (h1 : 1 ≤ d) : ∀ n, (d ≤ sSd g v f n ↔ (f / gCo g + d ≤ gRw g ∧ f % gCo g + d ≤ gCo g ∧ ∀ i, i < n → sHit g v f d i = false)) := by
  intro n
  induction n with
  | zero =>
    show d ≤ min (gRw g - f / gCo g) (gCo g - f % gCo g) ↔ _
    constructor
    · intro h; exact ⟨by omega, by omega, fun i hi => by omega⟩
    · intro h; have := h.1; have := h.2.1; omega
  | succ n ih =>
    have key : d ≤ sSd g v f (n + 1) ↔ d ≤ sSd g v f n ∧ sHit g v f d n = false := by
      unfold sHit
      rw [decide_eq_false_iff_not]
      generalize hA : vF v n / gCo g = a
      generalize hB : vF v n % gCo g = b
      generalize hR : f / gCo g = r
      generalize hC : f % gCo g = c
      have es : sSd g v f (n + 1) = if r ≤ a ∧ c ≤ b then min (sSd g v f n) (max (a - r) (b - c)) else sSd g v f n := by
        rw [← hA, ← hB, ← hR, ← hC]; rfl
      rw [es]
      generalize sSd g v f n = s
      by_cases z : r ≤ a ∧ c ≤ b
      · rw [if_pos z]
        obtain ⟨z1, z2⟩ := z
        constructor
        · intro h; exact ⟨by omega, fun t => by omega⟩
        · intro h
          by_cases y1 : a ≤ r + d - 1
          · by_cases y2 : b ≤ c + d - 1
            · exact absurd ⟨z1, y1, z2, y2⟩ h.2
            · omega
          · omega
      · rw [if_neg z]
        exact ⟨fun h => ⟨h, fun t => z ⟨t.1, t.2.2.1⟩⟩, fun h => h.1⟩
    rw [key, ih]
    constructor
    · intro h
      refine ⟨h.1.1, h.1.2.1, fun i hi => ?_⟩
      by_cases y : i = n
      · rw [y]; exact h.2
      · exact h.1.2.2 i (by omega)
    · intro h
      exact ⟨⟨h.1, h.2.1, fun i hi => h.2.2 i (by omega)⟩, h.2.2 n (by omega)⟩
/-- the greatest (first), and where it is first (second) -/
def cQm (s : Nat → Nat) : Nat → Nat × Nat
  | 0 => (0, 0)
  | i + 1 => if s i ≤ (cQm s i).1 then cQm s i else (s i, i)
theorem cQm_ok {s : Nat → Nat} : ∀ n, (∀ j, j < n → s j ≤ (cQm s n).1) ∧ (0 < (cQm s n).1 → (cQm s n).2 < n ∧ s (cQm s n).2 = (cQm s n).1 ∧ ∀ j, j < (cQm s n).2 → s j < (cQm s n).1) := by
  intro n
  induction n with
  | zero => exact ⟨fun j hj => by omega, fun h => absurd h (Nat.lt_irrefl 0)⟩
  | succ n ih =>
    obtain ⟨i1, i2⟩ := ih
    unfold cQm
    by_cases z : s n ≤ (cQm s n).1
    · rw [if_pos z]
      refine ⟨fun j hj => ?_, fun h => ⟨by have := (i2 h).1; omega, (i2 h).2⟩⟩
      by_cases y : j = n
      · rw [y]; exact z
      · exact i1 j (by omega)
    · rw [if_neg z]
      refine ⟨fun j hj => ?_, fun _ => ⟨by show n < n + 1; omega, rfl, fun j hj => ?_⟩⟩
      · show s j ≤ s n
        by_cases y : j = n
        · rw [y]; exact Nat.le_refl _
        · have := i1 j (by omega); omega
      · have hj2 : j < n := hj
        have := i1 j hj2
        show s j < s n
        omega
section SQUARE
variable {L N : Nat} {S T : gS} {c : Nat} {g : pG} {v : pV} {x : pX} {l : List Int64} {u : pX} {n : pN} {k : Nat → Option pV} {h : pH} {A : pA}
theorem C_sideFrom {f : Nat} (cg : CG S g) (cv : CV S 19 v) (wg : WG g) (wv : WV g v) (hf : f < gRw g * gCo g) (hN : 900 ≤ N) : f_c10_sideFrom N 10 (nI f) (mk L S) = some (nI (sSd g v f (vN v))) := by
  have h36 := wg.f
  have h8 := wv.1
  have hr : f / gCo g < gRw g := (Nat.div_lt_iff_lt_mul (by have := wg.2.2.1; omega)).mpr hf
  have hc : f % gCo g < gCo g := Nat.mod_lt _ (by have := wg.2.2.1; omega)
  have g1 := wg.2.1
  have g2 := wg.2.2.2.1
  have hS0 : ∀ i, sSd g v f i ≤ 6 := fun i => by have := sSd_le (g := g) (v := v) (f := f) i; omega
  have es0 : sSd g v f 0 = min (gRw g - f / gCo g) (gCo g - f % gCo g) := rfl
  have es : ∀ i, sSd g v f (i + 1) = if f / gCo g ≤ vF v i / gCo g ∧ f % gCo g ≤ vF v i % gCo g then min (sSd g v f i) (max (vF v i / gCo g - f / gCo g) (vF v i % gCo g - f % gCo g)) else sSd g v f i := fun _ => rfl
  have eR := C_rowOf (L := L) (N := N) (f := f) cg wg (by omega)
  have eK := C_colOf (L := L) (N := N) (f := f) cg wg (by omega)
  generalize f / gCo g = fr at *
  generalize f % gCo g = fc at *
  have e : lp_c10_sideFrom_44 N 10 (nI fr) (nI fc) (mk L S) N (nI (sSd g v f 0)) (nI 0) = some (nI (sSd g v f (vN v))) := by
    refine lp_seq (Lp := fun kk (s : Int32) i => lp_c10_sideFrom_44 N 10 (nI fr) (nI fc) (mk L S) kk s (nI i)) (sp := fun i => nI (sSd g v f i)) (n := vN v) (fun kk i hi => ?_) (fun kk => ?_) (by omega)
    · show lp_c10_sideFrom_44 N 10 (nI fr) (nI fc) (mk L S) (kk + 1) (nI (sSd g v f i)) (nI i) = lp_c10_sideFrom_44 N 10 (nI fr) (nI fc) (mk L S) kk (nI (sSd g v f (i + 1))) (nI (i + 1))
      have hF := wv.F wg hi
      have d1 : vF v i / gCo g ≤ vF v i := Nat.div_le_self _ _
      have d2 : vF v i % gCo g ≤ vF v i := Nat.mod_le _ _
      have hs := hS0 i
      rw [lp_c10_sideFrom_44.eq_2, zr10_3, Option.bind_some, qi0 SA_19, Option.bind_some, cv.1, ile_f hi (by omega), zr10_2, Option.bind_some, Option.bind_some, qr1 SA_19, Option.bind_some, qg1 SA_19 (by omega), Option.bind_some, (cv.2.2.2 i hi).1, C_rowOf cg wg (by omega), Option.bind_some, Option.bind_some, Option.bind_some, qr1 SA_19, Option.bind_some, qg1 SA_19 (by omega), Option.bind_some, (cv.2.2.2 i hi).1, C_colOf cg wg (by omega), Option.bind_some, es i]
      generalize sSd g v f i = ss at *
      generalize vF v i / gCo g = a at *
      generalize vF v i % gCo g = b at *
      by_cases z1 : fr ≤ a
      · rw [nI_sub z1, iltz (by omega)]
        by_cases z2 : fc ≤ b
        · rw [nI_sub z2, iltz (by omega), gmax_nI (by omega) (by omega), gmin_nI (by omega) (by omega), Option.bind_some, if_pos (show fr ≤ a ∧ fc ≤ b from ⟨z1, z2⟩), nI_1]
        · rw [if_pos (pk_sneg (by omega) (by omega)), Option.bind_some, if_neg (show ¬ (fr ≤ a ∧ fc ≤ b) from fun t => z2 t.2), nI_1]
      · rw [if_pos (pk_sneg (by omega) (by omega)), Option.bind_some, if_neg (show ¬ (fr ≤ a ∧ fc ≤ b) from fun t => z1 t.1), nI_1]
    · show lp_c10_sideFrom_44 N 10 (nI fr) (nI fc) (mk L S) (kk + 1) _ _ = _
      rw [lp_c10_sideFrom_44.eq_2, zr10_3, Option.bind_some, qi0 SA_19, Option.bind_some, cv.1, ile_t (Nat.le_refl _) (by omega)]
  rw [nI_0, es0] at e
  unfold f_c10_sideFrom
  rw [zc10, Option.bind_some, zr10_2, Option.bind_some, eR, Option.bind_some, Option.bind_some, eK, Option.bind_some, Option.bind_some, zi15_0, Option.bind_some, Option.bind_some, zi15_1, Option.bind_some, cg.1, cg.2.1, nI_sub (by omega), nI_sub (by omega), gmin_nI (by omega) (by omega), e, Option.bind_some]
theorem C_sq6 (cg : CG S g) (cv : CV S 19 v) (wg : WG g) (wv : WV g v) (hN : 900 ≤ N) : lp_c10_square_6 N 10 (mk L S) N 0 0 0 = some (nI (cQm (fun f => sSd g v f (vN v)) (gRw g * gCo g)).1, nI (cQm (fun f => sSd g v f (vN v)) (gRw g * gCo g)).2) := by
  have h36 := wg.f
  have g1 := wg.2.1
  have bd : ∀ i, (cQm (fun f => sSd g v f (vN v)) i).1 ≤ 6 := by
    intro i
    induction i with
    | zero => exact Nat.zero_le _
    | succ i ih =>
      unfold cQm
      split
      · exact ih
      · have := sSd_le (g := g) (v := v) (f := i) (vN v)
        show sSd g v i (vN v) ≤ 6
        omega
  have e : lp_c10_square_6 N 10 (mk L S) N (nI (cQm (fun f => sSd g v f (vN v)) 0).1) (nI (cQm (fun f => sSd g v f (vN v)) 0).2) (nI 0) = some (nI (cQm (fun f => sSd g v f (vN v)) (gRw g * gCo g)).1, nI (cQm (fun f => sSd g v f (vN v)) (gRw g * gCo g)).2) := by
    refine lp_seq (Lp := fun kk (s : Int32 × Int32) i => lp_c10_square_6 N 10 (mk L S) kk s.1 s.2 (nI i)) (sp := fun i => (nI (cQm (fun f => sSd g v f (vN v)) i).1, nI (cQm (fun f => sSd g v f (vN v)) i).2)) (n := gRw g * gCo g) (fun kk i hi => ?_) (fun kk => ?_) (by omega)
    · show lp_c10_square_6 N 10 (mk L S) (kk + 1) (nI (cQm (fun f => sSd g v f (vN v)) i).1) (nI (cQm (fun f => sSd g v f (vN v)) i).2) (nI i) = lp_c10_square_6 N 10 (mk L S) kk (nI (cQm (fun f => sSd g v f (vN v)) (i + 1)).1) (nI (cQm (fun f => sSd g v f (vN v)) (i + 1)).2) (nI (i + 1))
      have b1 := bd i
      have b2 := sSd_le (g := g) (v := v) (f := i) (vN v)
      rw [lp_c10_square_6.eq_2, zr10_2, Option.bind_some, C_fields cg, Option.bind_some, ile_f hi (by omega), C_sideFrom cg cv wg wv hi hN, Option.bind_some]
      have es : cQm (fun f => sSd g v f (vN v)) (i + 1) = if sSd g v i (vN v) ≤ (cQm (fun f => sSd g v f (vN v)) i).1 then cQm (fun f => sSd g v f (vN v)) i else (sSd g v i (vN v), i) := rfl
      rw [es]
      by_cases z : sSd g v i (vN v) ≤ (cQm (fun f => sSd g v f (vN v)) i).1
      · rw [ile_t z (by omega), if_pos z, Option.bind_some, nI_1]
      · rw [ile_f (by omega) (by omega), if_neg z, Option.bind_some, nI_1]
    · show lp_c10_square_6 N 10 (mk L S) (kk + 1) _ _ _ = _
      rw [lp_c10_square_6.eq_2, zr10_2, Option.bind_some, C_fields cg, Option.bind_some, ile_t (Nat.le_refl _) (by omega)]
  exact e
theorem M_isClear {f d : Nat} (cg : MG T g) (cv : MW T 145 v) (wg : WG g) (wv : WV g v) (hf : f < gRw g * gCo g) (h1 : 1 ≤ d) (h6 : d ≤ 6) (hN : 900 ≤ N) : f_c11_isClear N 144 (nI f) (nI d) (mk L T) = some (if d ≤ sSd g v f (vN v) then 1 else 0) := by
  have h36 := wg.f
  have h8 := wv.1
  have hr : f / gCo g < gRw g := (Nat.div_lt_iff_lt_mul (by have := wg.2.2.1; omega)).mpr hf
  have hc : f % gCo g < gCo g := Nat.mod_lt _ (by have := wg.2.2.1; omega)
  have g1 := wg.2.1
  have g2 := wg.2.2.2.1
  have g3 := wg.2.2.1
  have nz : gNZ (nI (gCo g)) = some () := gNZ_nI (by omega) (by omega)
  have iff := sSd_iff (g := g) (v := v) (f := f) h1 (vN v)
  have hH : ∀ i, sHit g v f d i = decide (f / gCo g ≤ vF v i / gCo g ∧ vF v i / gCo g ≤ f / gCo g + d - 1 ∧ f % gCo g ≤ vF v i % gCo g ∧ vF v i % gCo g ≤ f % gCo g + d - 1) := fun _ => rfl
  have eR : nI f / nI (gCo g) = nI (f / gCo g) := nI_div (by omega) (by omega)
  have eK : nI f - nI (f / gCo g) * nI (gCo g) = nI (f % gCo g) := by rw [← eR]; exact nI_rem (by omega) (by omega)
  generalize f / gCo g = fr at *
  generalize f % gCo g = fc at *
  have e : lp_c11_isClear_41 N 144 (nI d) (nI fr) (nI fc) (mk L T) N (nI 0) = some ((fun o : Option Nat => match o with | some _ => Sum.inl (0 : Int32) | none => Sum.inr ()) (fstN (sHit g v f d) 0 (vN v))) := by
    have st : ∀ kk i, i < vN v → lp_c11_isClear_41 N 144 (nI d) (nI fr) (nI fc) (mk L T) (kk + 1) (nI i) = if sHit g v f d i = true then some (Sum.inl 0) else lp_c11_isClear_41 N 144 (nI d) (nI fr) (nI fc) (mk L T) kk (nI (i + 1)) := by
      intro kk i hi
      have hF := wv.F wg hi
      have d1 : vF v i / gCo g ≤ vF v i := Nat.div_le_self _ _
      have d2 : vF v i % gCo g ≤ vF v i := Nat.mod_le _ _
      have wR : nI (vF v i) / nI (gCo g) = nI (vF v i / gCo g) := nI_div (by omega) (by omega)
      have wK : nI (vF v i) - nI (vF v i / gCo g) * nI (gCo g) = nI (vF v i % gCo g) := by rw [← wR]; exact nI_rem (by omega) (by omega)
      rw [lp_c11_isClear_41.eq_2, zr144_0, Option.bind_some, k40, zg145 (by omega), Option.bind_some, cv.1, ile_f hi (by omega), Option.bind_some, zg145 (by omega), Option.bind_some, (cv.2.2.2 i hi).1, zi144_2, Option.bind_some, cg.2.1, nz, Option.bind_some, wR, nI_add, nI_sub1 (by omega), hH i]
      generalize vF v i / gCo g = a at *
      generalize vF v i % gCo g = b at *
      by_cases z1 : fr ≤ a ∧ a ≤ fr + d - 1
      · rw [M_inT z1.1 z1.2 (by omega), Option.bind_some, i10, Option.bind_some, zg145 (by omega), Option.bind_some, (cv.2.2.2 i hi).1, Option.bind_some, nz, Option.bind_some, wR, wK, nI_add, nI_sub1 (by omega)]
        by_cases z2 : fc ≤ b ∧ b ≤ fc + d - 1
        · rw [M_inT z2.1 z2.2 (by omega), Option.bind_some, i10, if_pos (decide_eq_true ⟨z1.1, z1.2, z2.1, z2.2⟩)]
          rfl
        · have e0 : f_c11_in N (nI b) (nI fc) (nI (fc + d - 1)) (mk L T) = some 0 := by
            by_cases y : fc ≤ b
            · exact M_in_h (nI_lt (by omega) (by omega))
            · exact M_in_l (nI_lt (by omega) (by omega))
          rw [e0, Option.bind_some, i00, if_neg (show ¬ decide (fr ≤ a ∧ a ≤ fr + d - 1 ∧ fc ≤ b ∧ b ≤ fc + d - 1) = true from fun t => by
            have := of_decide_eq_true t
            exact z2 ⟨this.2.2.1, this.2.2.2⟩), nI_1]
      · have e0 : f_c11_in N (nI a) (nI fr) (nI (fr + d - 1)) (mk L T) = some 0 := by
          by_cases y : fr ≤ a
          · exact M_in_h (nI_lt (by omega) (by omega))
          · exact M_in_l (nI_lt (by omega) (by omega))
        rw [e0, Option.bind_some, i00, if_neg (show ¬ decide (fr ≤ a ∧ a ≤ fr + d - 1 ∧ fc ≤ b ∧ b ≤ fc + d - 1) = true from fun t => by
          have := of_decide_eq_true t
          exact z1 ⟨this.1, this.2.1⟩), nI_1]
    refine lp_fst (Lp := fun k i => lp_c11_isClear_41 N 144 (nI d) (nI fr) (nI fc) (mk L T) k (nI i)) (o := fun o => match o with | some _ => Sum.inl (0 : Int32) | none => Sum.inr ()) (n := vN v) (fun k i hi hp => ?_) (fun k i hi hp => ?_) (fun k => ?_) (vN v) N 0 (by omega) (by omega)
    · show lp_c11_isClear_41 N 144 (nI d) (nI fr) (nI fc) (mk L T) (k + 1) (nI i) = lp_c11_isClear_41 N 144 (nI d) (nI fr) (nI fc) (mk L T) k (nI (i + 1))
      rw [st k i hi, hp, bfF]
    · show lp_c11_isClear_41 N 144 (nI d) (nI fr) (nI fc) (mk L T) (k + 1) (nI i) = some (Sum.inl 0)
      rw [st k i hi, hp, bfT]
    · show lp_c11_isClear_41 N 144 (nI d) (nI fr) (nI fc) (mk L T) (k + 1) (nI (vN v)) = some (Sum.inr ())
      rw [lp_c11_isClear_41.eq_2, zr144_0, Option.bind_some, k40, zg145 (by omega), Option.bind_some, cv.1, ile_t (Nat.le_refl _) (by omega)]
  unfold f_c11_isClear
  rw [zc144, Option.bind_some, zi144_2, Option.bind_some, cg.2.1, nz, Option.bind_some, Option.bind_some, nz, Option.bind_some, zi144_1, Option.bind_some, cg.1, eR, nI_add]
  by_cases z1 : fr + d ≤ gRw g
  · rw [ilt_f (by omega) (by omega), Option.bind_some, eK, nI_add]
    by_cases z2 : fc + d ≤ gCo g
    · rw [ile_t z2 (by omega), ← nI_0, e]
      cases hs : fstN (sHit g v f d) 0 (vN v) with
      | none =>
        have : d ≤ sSd g v f (vN v) := iff.mpr ⟨z1, z2, fun i hi => fstN_none _ _ hs i (by omega) (by omega)⟩
        rw [if_pos this]
        rfl
      | some i =>
        have hi := fstN_some _ _ _ hs
        have : ¬ d ≤ sSd g v f (vN v) := fun t => by
          have := (iff.mp t).2.2 i (by omega)
          rw [hi.2.2.1] at this
          cases this
        rw [if_neg this]
        rfl
    · rw [ile_f (by omega) (by omega), if_neg (fun t => z2 (iff.mp t).2.1)]
      rfl
  · rw [ilt_t (by omega) (by omega), if_neg (fun t => z1 (iff.mp t).1)]
    rfl
theorem A_square (w : WA A) (q : CA S A) (m : MA S A c) (hN : 900 ≤ N) : Agr L S c (f_c10_square N 10) (f_c11_square N 144) := by
  obtain ⟨g, v, x, l, u, n, k, h⟩ := A
  have wv : WV g v := w.2.1
  have wg : WG g := w.1
  have h36 := wg.f
  have g1 := wg.2.1
  have g2 := wg.2.2.2.1
  have eC := C_sq6 (L := L) (N := N) q.1 q.2.1 wg wv hN
  obtain ⟨o1, o2⟩ := cQm_ok (s := fun f => sSd g v f (vN v)) (gRw g * gCo g)
  generalize hst : cQm (fun f => sSd g v f (vN v)) (gRw g * gCo g) = st at *
  obtain ⟨bs, bf⟩ := st
  dsimp only at o1 o2 eC
  obtain ⟨S1, e1, q1, f1⟩ := C_clearA (L := L) (N := N) q
  have hmin : ∀ T : gS, MA T (g, v, x, [], u, n, k, h) c → gmin (T.1 144 1) (T.1 144 2) = nI (min (gRw g) (gCo g)) := fun T t => by
    have mg : MG T g := t.1
    rw [mg.1, mg.2.1, gmin_nI (by omega) (by omega)]
  -- one side looked at, where none is as great
  have no28 : ∀ (T : gS) (d : Nat), MA T (g, v, x, [], u, n, k, h) c → 1 ≤ d → d ≤ 6 → bs < d → lp_c11_square_28 N 144 (nI d) N 0 (mk L T) = some (.inr (mk L T)) := by
    intro T d t h1 h6 hb
    have mg : MG T g := t.1
    have mv : MW T 145 v := t.2.1
    have e : lp_c11_square_28 N 144 (nI d) N (nI 0) (mk L T) = some (.inr (mk L T)) := by
      refine lp_seq (Lp := fun kk (_ : Unit) i => lp_c11_square_28 N 144 (nI d) kk (nI i) (mk L T)) (sp := fun _ => ()) (n := gRw g * gCo g) (fun kk i hi => ?_) (fun kk => ?_) (by omega)
      · show lp_c11_square_28 N 144 (nI d) (kk + 1) (nI i) (mk L T) = lp_c11_square_28 N 144 (nI d) kk (nI (i + 1)) (mk L T)
        have := o1 i hi
        rw [lp_c11_square_28.eq_2, M_fields mg, Option.bind_some, ile_f hi (by omega), M_isClear mg mv wg wv hi h1 h6 hN, if_neg (by omega), Option.bind_some, if_pos rfl, nI_1]
      · show lp_c11_square_28 N 144 (nI d) (kk + 1) (nI (gRw g * gCo g)) (mk L T) = _
        rw [lp_c11_square_28.eq_2, M_fields mg, Option.bind_some, ile_t (Nat.le_refl _) (by omega)]
    exact e
  by_cases z0 : bs = 0
  · subst z0
    refine AgrI (c' := c) m (r := 0) (S1 := S1) ?_ f1 q1 (w.rw (by show 0 ≤ 8; omega)) (by omega) (fun T mt => ?_)
    · unfold f_c10_square
      rw [zc10, Option.bind_some, eC, Option.bind_some, zr10_1, Option.bind_some, e1, Option.bind_some, ilez_t rfl, Option.bind_some]
      rfl
    · have t1 := mt.thr
      have t2 := t1.clr
      refine ⟨stI (stI T 144 10 0) 144 9 0, ?_, highTr thrH clrH, t2⟩
      have e22 : lp_c11_square_22 N 144 N (nI (min (gRw g) (gCo g) - 0)) (mk L (stI (stI T 144 10 0) 144 9 0)) = some (.inr (mk L (stI (stI T 144 10 0) 144 9 0))) := by
        refine lp_seq (Lp := fun kk (_ : Unit) i => lp_c11_square_22 N 144 kk (nI (min (gRw g) (gCo g) - i)) (mk L (stI (stI T 144 10 0) 144 9 0))) (sp := fun _ => ()) (n := min (gRw g) (gCo g)) (fun kk i hi => ?_) (fun kk => ?_) (by omega)
        · show lp_c11_square_22 N 144 (kk + 1) (nI (min (gRw g) (gCo g) - i)) _ = lp_c11_square_22 N 144 kk (nI (min (gRw g) (gCo g) - (i + 1))) _
          rw [lp_c11_square_22.eq_2, ilez_f (by omega) (by omega), no28 _ _ t2 (by omega) (by omega) (by omega), Option.bind_some, show min (gRw g) (gCo g) - i = (min (gRw g) (gCo g) - (i + 1)) + 1 by omega, nI_dec]
          rfl
        · show lp_c11_square_22 N 144 (kk + 1) (nI (min (gRw g) (gCo g) - min (gRw g) (gCo g))) _ = _
          rw [lp_c11_square_22.eq_2, ilez_t (by omega)]
      rw [Nat.sub_zero] at e22
      unfold f_c11_square
      rw [zc144, Option.bind_some, zs144_10, Option.bind_some, zs144_9, Option.bind_some, zi144_1, Option.bind_some, zi144_2, Option.bind_some, hmin _ t2, e22]
      rfl
  · obtain ⟨b1, b2, b3⟩ := o2 (by omega)
    have bm : bs ≤ min (gRw g) (gCo g) := by rw [← b2]; exact sSd_le (vN v)
    obtain ⟨S2, e2, q2, f2⟩ := C_addA (L := L) (N := N) (y := (nI bf).toInt64) q1 (by show 0 < 8; omega)
    refine AgrI (c' := c) m (r := nI bs) (S1 := S2) ?_ (lowTr f1 f2) q2 (w.rw (by show 1 ≤ 8; omega)) (by omega) (fun T mt => ?_)
    · unfold f_c10_square
      rw [zc10, Option.bind_some, eC, Option.bind_some, zr10_1, Option.bind_some, e1, Option.bind_some, ilez_f (by omega) (by omega), zr10_1, Option.bind_some, e2, Option.bind_some, Option.bind_some]
    · have t1 := mt.thr
      have t2 := t1.clr
      have mg : MG (stI (stI T 144 10 0) 144 9 0) g := t2.1
      have mv : MW (stI (stI T 144 10 0) 144 9 0) 145 v := t2.2.1
      obtain ⟨T2, g4, t3, -, h3⟩ := M_tellA (L := L) (N := N) (y := (nI bf).toInt64) t2 (by show 0 < 8; omega)
      refine ⟨T2, ?_, highTr thrH (highTr clrH h3), t3⟩
      have e28 : lp_c11_square_28 N 144 (nI bs) N (nI 0) (mk L (stI (stI T 144 10 0) 144 9 0)) = some (.inl (nI bs, mk L T2)) := by
        refine lp_seq (Lp := fun kk (_ : Unit) i => lp_c11_square_28 N 144 (nI bs) kk (nI i) (mk L (stI (stI T 144 10 0) 144 9 0))) (sp := fun _ => ()) (n := bf) (fun kk i hi => ?_) (fun kk => ?_) (by omega)
        · show lp_c11_square_28 N 144 (nI bs) (kk + 1) (nI i) _ = lp_c11_square_28 N 144 (nI bs) kk (nI (i + 1)) _
          have := b3 i hi
          rw [lp_c11_square_28.eq_2, M_fields mg, Option.bind_some, ile_f (by omega) (by omega), M_isClear mg mv wg wv (by omega) (by omega) (by omega) hN, if_neg (by omega), Option.bind_some, if_pos rfl, nI_1]
        · show lp_c11_square_28 N 144 (nI bs) (kk + 1) (nI bf) _ = _
          rw [lp_c11_square_28.eq_2, M_fields mg, Option.bind_some, ile_f (by omega) (by omega), M_isClear mg mv wg wv (by omega) (by omega) (by omega) hN, if_pos (by omega), Option.bind_some, if_neg (by decide), g4, Option.bind_some]
      have e22 : lp_c11_square_22 N 144 N (nI (min (gRw g) (gCo g) - 0)) (mk L (stI (stI T 144 10 0) 144 9 0)) = some (.inl (nI bs, mk L T2)) := by
        refine lp_seq (Lp := fun kk (_ : Unit) i => lp_c11_square_22 N 144 kk (nI (min (gRw g) (gCo g) - i)) (mk L (stI (stI T 144 10 0) 144 9 0))) (sp := fun _ => ()) (n := min (gRw g) (gCo g) - bs) (fun kk i hi => ?_) (fun kk => ?_) (by omega)
        · show lp_c11_square_22 N 144 (kk + 1) (nI (min (gRw g) (gCo g) - i)) _ = lp_c11_square_22 N 144 kk (nI (min (gRw g) (gCo g) - (i + 1))) _
          rw [lp_c11_square_22.eq_2, ilez_f (by omega) (by omega), no28 _ _ t2 (by omega) (by omega) (by omega), Option.bind_some, show min (gRw g) (gCo g) - i = (min (gRw g) (gCo g) - (i + 1)) + 1 by omega, nI_dec]
          rfl
        · show lp_c11_square_22 N 144 (kk + 1) (nI (min (gRw g) (gCo g) - (min (gRw g) (gCo g) - bs))) _ = _
          rw [show min (gRw g) (gCo g) - (min (gRw g) (gCo g) - bs) = bs by omega, lp_c11_square_22.eq_2, ilez_f (by omega) (by omega), show lp_c11_square_28 N 144 (nI bs) N 0 (mk L (stI (stI T 144 10 0) 144 9 0)) = _ from e28]
          rfl
      rw [Nat.sub_zero] at e22
      unfold f_c11_square
      rw [zc144, Option.bind_some, zs144_10, Option.bind_some, zs144_9, Option.bind_some, zi144_1, Option.bind_some, zi144_2, Option.bind_some, hmin _ t2, e22]
      rfl
end SQUARE
