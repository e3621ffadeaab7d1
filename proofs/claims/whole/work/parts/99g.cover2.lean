/-! CALLS: covers, the tables -/
section COVERT
variable {L N : Nat} {S T : gS} {c : Nat} {g : pG} {v : pV} {x : pX} {l : List Int64} {u : pX} {n : pN} {k : Nat → Option pV} {h : pH} {A : pA} {r f : Nat}
theorem sh1 : ∀ n : Nat, n < 7 → (1 : Int32) <<< (nI n &&& 31) = nI (2 ^ n) := by decide +kernel
theorem lM_orI {b : Nat → Bool} {i : Nat} (hi : i < 7) (h : b i = true) : nI (lM b i) ||| ((1 : Int32) <<< (nI i &&& 31)) = nI (lM b (i + 1)) := by
  have h1 := lM_lt (b := b) i
  have e := Nat.two_pow_add_eq_or_of_lt h1 1
  rw [Nat.mul_one] at e
  rw [sh1 i hi, fa_or, lM_t h, Nat.or_comm, ← e, Nat.add_comm]
theorem shl6 : ∀ n : Nat, n < 37 → nI n <<< ((6 : Int32) &&& 31) = nI (n * 64) := by decide +kernel
theorem ixI {f s : Nat} (hf : f < 37) (hs : s < 64) : (nI f <<< ((6 : Int32) &&& 31)) ||| nI s = nI (f * 64 + s) := by
  have e := Nat.two_pow_add_eq_or_of_lt (i := 6) (b := s) hs f
  rw [show (2 : Nat) ^ 6 = 64 from rfl] at e
  rw [shl6 f hf, fa_or, show f * 64 = 64 * f by omega, ← e]
-- ===== the class =====
theorem C_cov73 (cg : CG S g) (wg : WG g) (hf : f < gRw g * gCo g) (hr : r < 1000) (h0 : S.1 133 f = nI 0) (hN : 900 ≤ N) : ∃ S', lp_c9_needFields_73 N 131 15 (nI r) (nI f) N 0 (mk L S) = some (mk L S') ∧ Fr (fun y => y = 133) S S' ∧ (∀ j, j ≠ f → S'.1 133 j = S.1 133 j) ∧ S'.1 133 f = nI (cBy g r f) := by
  have h36 := wg.f
  have h6 := wg.2.2.2.2.1
  have e : ∃ z, lp_c9_needFields_73 N 131 15 (nI r) (nI f) N (nI 0) (mk L S) = some z ∧ ∃ S', z = mk L S' ∧ Fr (fun y => y = 133) S S' ∧ (∀ j, j ≠ f → S'.1 133 j = S.1 133 j) ∧ S'.1 133 f = nI (cBy g r f) := by
    refine lp_inv (Lp := fun kk (s : gS) i => lp_c9_needFields_73 N 131 15 (nI r) (nI f) kk (nI i) (mk L s)) (n := gVm g) (P := fun i s => Fr (fun y => y = 133) S s ∧ (∀ j, j ≠ f → s.1 133 j = S.1 133 j) ∧ s.1 133 f = nI (lM (fun k => decide (sFar g f (gHm g k) ≤ r)) i)) (fun kk i s hi hs => Or.inr ?_) (fun kk s hs => ?_) (gVm g) N 0 S (by omega) (by omega) ⟨Fr.refl, fun _ _ => rfl, h0⟩
    · obtain ⟨fr, hO, hQ⟩ := hs
      have cg1 : CG s g := cg.fr fr (fun y h1 h2 => by omega)
      have hH := wg.H hi
      have l2 := sFar_le g f (gHm g i)
      refine ⟨stI s 133 f (nI (lM (fun k => decide (sFar g f (gHm g k) ≤ r)) (i + 1))), ?_, fr.trans (Fr.stI (A := fun y => y = 133) rfl) (fun _ z => z) (fun _ z => z), fun j hj => (rdI_ne (by omega)).trans (hO j hj), rdI_eq⟩
      show lp_c9_needFields_73 N 131 15 (nI r) (nI f) (kk + 1) (nI i) (mk L s) = lp_c9_needFields_73 N 131 15 (nI r) (nI f) kk (nI (i + 1)) _
      rw [lp_c9_needFields_73.eq_2, zi15_2, Option.bind_some, cg1.2.2.1, ile_f hi (by omega), zr131_1, Option.bind_some, zg133 (by omega), Option.bind_some, zr15_3, Option.bind_some, zg16 (by omega), Option.bind_some, (cg1.2.2.2.1 i hi).1, C_far cg1 wg (by omega) (by omega), Option.bind_some, hQ]
      by_cases z : sFar g f (gHm g i) ≤ r
      · rw [ilt_f z (by omega), lM_orI (b := fun k => decide (sFar g f (gHm g k) ≤ r)) (by omega) (decide_eq_true z), zp133 (by omega), Option.bind_some, nI_1]
      · rw [ilt_t (by omega) (by omega), Int32.or_zero, lM_f (b := fun k => decide (sFar g f (gHm g k) ≤ r)) (decide_eq_false z), zp133 (by omega), Option.bind_some, nI_1]
    · obtain ⟨fr, hO, hQ⟩ := hs
      have cg1 : CG s g := cg.fr fr (fun y h1 h2 => by omega)
      refine ⟨mk L s, ?_, s, rfl, fr, hO, hQ⟩
      show lp_c9_needFields_73 N 131 15 (nI r) (nI f) (kk + 1) (nI (gVm g)) (mk L s) = _
      rw [lp_c9_needFields_73.eq_2, zi15_2, Option.bind_some, cg1.2.2.1, ile_t (Nat.le_refl _) (by omega)]
  obtain ⟨z, e, S1, er, e2⟩ := e
  rw [er] at e
  exact ⟨S1, e, e2⟩
theorem C_needed {s : Nat} (hf : f < 37) (hs : s < 64) : f_c9_needed N 131 (nI f) (nI s) (mk L S) = some (S.1 134 (f * 64 + s)) := by
  unfold f_c9_needed
  rw [zc131, Option.bind_some, k64, nI_mul, nI_add, iltz (by omega), zr131_2, Option.bind_some, zn134, Option.bind_some, ile_f (by omega) (by omega), Option.bind_some, zg134 (by omega), Option.bind_some, Option.bind_some]
/-- the table of the class from a field on; the bits of the fields from one on -/
def ndT (S : gS) (g : pG) (r f0 : Nat) : Prop := ∀ f, f0 ≤ f → f ≤ gRw g * gCo g → ∀ s, s < 2 ^ gVm g → S.1 134 (f * 64 + s) = nI (min 36 (cW g r (gRw g * gCo g - f) s))
def rdT (S : gS) (g : pG) (r f0 : Nat) : Prop := ∀ f, f0 ≤ f → f < gRw g * gCo g → S.1 133 f = nI (cBy g r f)
theorem C_cov126 (wg : WG g) (hf : f < gRw g * gCo g) (hnd : ndT S g r (f + 1)) (hrd : S.1 133 f = nI (cBy g r f)) (hN : 900 ≤ N) : ∃ S', lp_c9_needFields_126 N 131 (nI (2 ^ gVm g)) (nI f) N 0 (mk L S) = some (mk L S') ∧ Fr (fun y => y = 134) S S' ∧ ndT S' g r f := by
  have h36 := wg.f
  have h6 := wg.2.2.2.2.1
  have p6 := pw6 h6
  have cb := cBy_lt (g := g) (r := r) (f := f)
  have e : ∃ z, lp_c9_needFields_126 N 131 (nI (2 ^ gVm g)) (nI f) N (nI 0) (mk L S) = some z ∧ ∃ S', z = mk L S' ∧ Fr (fun y => y = 134) S S' ∧ ndT S' g r f := by
    refine lp_inv (Lp := fun kk (s : gS) i => lp_c9_needFields_126 N 131 (nI (2 ^ gVm g)) (nI f) kk (nI i) (mk L s)) (n := 2 ^ gVm g) (P := fun i s => Fr (fun y => y = 134) S s ∧ ndT s g r (f + 1) ∧ ∀ j, j < i → s.1 134 (f * 64 + j) = nI (min 36 (cW g r (gRw g * gCo g - f) j))) (fun kk i s hi hs => Or.inr ?_) (fun kk s hs => ?_) (2 ^ gVm g) N 0 S (by omega) (by omega) ⟨Fr.refl, hnd, fun j hj => by omega⟩
    · obtain ⟨fr, hn, hQ⟩ := hs
      have hcm : cm i (cBy g r f) < 2 ^ gVm g := Nat.lt_of_le_of_lt cm_le hi
      have e133 : s.1 133 f = nI (cBy g r f) := (fr.i (by omega) f).trans hrd
      have n1 := hn (f + 1) (Nat.le_refl _) (by omega) i hi
      have n2 := hn (f + 1) (Nat.le_refl _) (by omega) (cm i (cBy g r f)) hcm
      have b1 := cW_le (g := g) (r := r) (gRw g * gCo g - (f + 1)) i
      have b2 := cW_le (g := g) (r := r) (gRw g * gCo g - (f + 1)) (cm i (cBy g r f))
      have ev := cW_e (g := g) (r := r) (s := i) hf
      have ev2 : min (min 36 (cW g r (gRw g * gCo g - (f + 1)) i)) (1 + min 36 (cW g r (gRw g * gCo g - (f + 1)) (cm i (cBy g r f)))) = min 36 (cW g r (gRw g * gCo g - f) i) := by omega
      refine ⟨stI s 134 (f * 64 + i) (nI (min 36 (cW g r (gRw g * gCo g - f) i))), ?_, fr.trans (Fr.stI (A := fun y => y = 134) rfl) (fun _ z => z) (fun _ z => z), fun f' h1 h2 s' hs' => ?_, fun j hj => ?_⟩
      · show lp_c9_needFields_126 N 131 (nI (2 ^ gVm g)) (nI f) (kk + 1) (nI i) (mk L s) = lp_c9_needFields_126 N 131 (nI (2 ^ gVm g)) (nI f) kk (nI (i + 1)) _
        rw [lp_c9_needFields_126.eq_2, ile_f hi (by omega), zr131_1, Option.bind_some, zg133 (by omega), Option.bind_some, e133, cm_I i (by omega) (cBy g r f) (by omega), nI_1, C_needed (by omega) (by omega), Option.bind_some, zr131_2, Option.bind_some, C_needed (by omega) (by omega), Option.bind_some, n1, n2, show (1 : Int32) = nI 1 from rfl, nI_add, gmin_nI (by omega) (by omega), ev2, k64, nI_mul, nI_add, zp134 (by omega), Option.bind_some, nI_add]
      · rw [rdI_ne (by omega)]
        exact hn f' h1 h2 s' hs'
      · by_cases z : j = i
        · rw [z, rdI_eq]
        · rw [rdI_ne (by omega)]
          exact hQ j (by omega)
    · obtain ⟨fr, hn, hQ⟩ := hs
      refine ⟨mk L s, ?_, s, rfl, fr, fun f' h1 h2 s' hs' => ?_⟩
      · show lp_c9_needFields_126 N 131 (nI (2 ^ gVm g)) (nI f) (kk + 1) (nI (2 ^ gVm g)) (mk L s) = _
        rw [lp_c9_needFields_126.eq_2, ile_t (Nat.le_refl _) (by omega)]
      · by_cases z : f' = f
        · rw [z]; exact hQ s' hs'
        · exact hn f' (by omega) h2 s' hs'
  obtain ⟨z, e, S1, er, e2⟩ := e
  rw [er] at e
  exact ⟨S1, e, e2⟩
theorem C_cov16 (wg : WG g) (hN : 900 ≤ N) : ∃ S', lp_c9_needFields_16 N 131 (nI (gRw g * gCo g)) (nI (2 ^ gVm g)) N 0 (mk L S) = some (mk L S') ∧ Fr (fun y => y = 134) S S' ∧ ndT S' g r (gRw g * gCo g) := by
  have h36 := wg.f
  have h6 := wg.2.2.2.2.1
  have p6 := pw6 h6
  have e : ∃ z, lp_c9_needFields_16 N 131 (nI (gRw g * gCo g)) (nI (2 ^ gVm g)) N (nI 0) (mk L S) = some z ∧ ∃ S', z = mk L S' ∧ Fr (fun y => y = 134) S S' ∧ ndT S' g r (gRw g * gCo g) := by
    refine lp_inv (Lp := fun kk (s : gS) i => lp_c9_needFields_16 N 131 (nI (gRw g * gCo g)) (nI (2 ^ gVm g)) kk (nI i) (mk L s)) (n := 2 ^ gVm g) (P := fun i s => Fr (fun y => y = 134) S s ∧ ∀ j, j < i → s.1 134 (gRw g * gCo g * 64 + j) = if j = 0 then 0 else nI 36) (fun kk i s hi hs => Or.inr ?_) (fun kk s hs => ?_) (2 ^ gVm g) N 0 S (by omega) (by omega) ⟨Fr.refl, fun j hj => by omega⟩
    · obtain ⟨fr, hQ⟩ := hs
      refine ⟨stI s 134 (gRw g * gCo g * 64 + i) (if i = 0 then 0 else nI 36), ?_, fr.trans (Fr.stI (A := fun y => y = 134) rfl) (fun _ z => z) (fun _ z => z), fun j hj => ?_⟩
      · show lp_c9_needFields_16 N 131 (nI (gRw g * gCo g)) (nI (2 ^ gVm g)) (kk + 1) (nI i) (mk L s) = lp_c9_needFields_16 N 131 (nI (gRw g * gCo g)) (nI (2 ^ gVm g)) kk (nI (i + 1)) _
        rw [lp_c9_needFields_16.eq_2, ile_f hi (by omega), zr131_2, Option.bind_some, k64, nI_mul, nI_add]
        by_cases z : i = 0
        · rw [iz_t z, if_pos z, zp134 (by omega), Option.bind_some, nI_1]
        · rw [iz_f (by omega) (by omega), if_neg z, zp134 (by omega), Option.bind_some, nI_1]
          rfl
      · by_cases z : j = i
        · rw [z, rdI_eq]
        · rw [rdI_ne (by omega)]
          exact hQ j (by omega)
    · obtain ⟨fr, hQ⟩ := hs
      refine ⟨mk L s, ?_, s, rfl, fr, fun f' h1 h2 s' hs' => ?_⟩
      · show lp_c9_needFields_16 N 131 (nI (gRw g * gCo g)) (nI (2 ^ gVm g)) (kk + 1) (nI (2 ^ gVm g)) (mk L s) = _
        rw [lp_c9_needFields_16.eq_2, ile_t (Nat.le_refl _) (by omega)]
      · rw [show f' = gRw g * gCo g by omega, hQ s' hs', Nat.sub_self]
        show _ = nI (min 36 (if s' = 0 then 0 else 1000000))
        by_cases z : s' = 0
        · rw [if_pos z, if_pos z]; rfl
        · rw [if_neg z, if_neg z]; rfl
  obtain ⟨z, e, S1, er, e2⟩ := e
  rw [er] at e
  exact ⟨S1, e, e2⟩
theorem C_cover (cg : CG S g) (wg : WG g) (hr : r < 1000) (hN : 900 ≤ N) : ∃ S', f_c9_needFields N 131 15 (nI r) (mk L S) = some (mk L S') ∧ Fr (fun y => y = 133 ∨ y = 134) S S' ∧ ndT S' g r 0 ∧ rdT S' g r 0 := by
  have h36 := wg.f
  have h6 := wg.2.2.2.2.1
  obtain ⟨S1, e1, f1, q1⟩ := C_cov16 (L := L) (N := N) (S := S) (r := r) wg hN
  have e : ∃ z, lp_c9_needFields_57 N 131 15 (nI r) (nI (2 ^ gVm g)) N (nI (gRw g * gCo g - 0) + -1) (mk L S1) = some z ∧ ∃ S', z = mk L S' ∧ Fr (fun y => y = 133 ∨ y = 134) S S' ∧ ndT S' g r 0 ∧ rdT S' g r 0 := by
    refine lp_inv (Lp := fun kk (s : gS) i => lp_c9_needFields_57 N 131 15 (nI r) (nI (2 ^ gVm g)) kk (nI (gRw g * gCo g - i) + -1) (mk L s)) (n := gRw g * gCo g) (P := fun i s => Fr (fun y => y = 133 ∨ y = 134) S s ∧ ndT s g r (gRw g * gCo g - i) ∧ rdT s g r (gRw g * gCo g - i)) (fun kk i s hi hs => Or.inr ?_) (fun kk s hs => ?_) (gRw g * gCo g) N 0 S1 (by omega) (by omega) ⟨f1.mono (fun y hy => Or.inr hy), q1, fun f h1 h2 => by omega⟩
    · obtain ⟨fr, hn, hd⟩ := hs
      obtain ⟨fd, hfd⟩ : ∃ fd, gRw g * gCo g - i = fd + 1 := ⟨gRw g * gCo g - i - 1, by omega⟩
      rw [hfd] at hn hd
      have cg0 : CG (stI s 133 fd 0) g := cg.fr (fr.trans (Fr.stI (A := fun y => y = 133 ∨ y = 134) (Or.inl rfl)) (fun _ z => z) (fun _ z => z)) (fun y h1 h2 => by omega)
      obtain ⟨s2, e2, f2, o2, b2⟩ := C_cov73 (L := L) (N := N) (f := fd) (r := r) cg0 wg (by omega) hr (by rw [rdI_eq]; rfl) hN
      have hn2 : ndT s2 g r (fd + 1) := fun f' h1 h2 s' hs' => by
        rw [f2.i (by omega), rdI_ne (by omega)]
        exact hn f' h1 h2 s' hs'
      obtain ⟨s3, e3, f3, n3⟩ := C_cov126 (L := L) (N := N) (f := fd) wg (by omega) hn2 b2 hN
      refine ⟨s3, ?_, ?_, ?_, ?_⟩
      · show lp_c9_needFields_57 N 131 15 (nI r) (nI (2 ^ gVm g)) (kk + 1) (nI (gRw g * gCo g - i) + -1) (mk L s) = lp_c9_needFields_57 N 131 15 (nI r) (nI (2 ^ gVm g)) kk (nI (gRw g * gCo g - (i + 1)) + -1) (mk L s3)
        rw [hfd, nI_dec, show gRw g * gCo g - (i + 1) = fd by omega, lp_c9_needFields_57.eq_2, iltz (by omega), zr131_1, Option.bind_some, zp133 (by omega), Option.bind_some, e2, Option.bind_some, e3, Option.bind_some]
      · exact fr.trans ((Fr.stI (A := fun y => y = 133 ∨ y = 134) (Or.inl rfl)).trans (f2.trans f3 (fun _ z => Or.inl z) (fun _ z => Or.inr z)) (fun _ z => z) (fun _ z => z)) (fun _ z => z) (fun _ z => z)
      · rw [show gRw g * gCo g - (i + 1) = fd by omega]; exact n3
      · rw [show gRw g * gCo g - (i + 1) = fd by omega]
        intro f' h1 h2
        rw [f3.i (by omega)]
        by_cases z : f' = fd
        · rw [z]; exact b2
        · rw [o2 f' z, rdI_ne (by omega)]
          exact hd f' (by omega) h2
    · obtain ⟨fr, hn, hd⟩ := hs
      rw [Nat.sub_self] at hn hd
      refine ⟨mk L s, ?_, s, rfl, fr, hn, hd⟩
      show lp_c9_needFields_57 N 131 15 (nI r) (nI (2 ^ gVm g)) (kk + 1) (nI (gRw g * gCo g - gRw g * gCo g) + -1) (mk L s) = _
      rw [Nat.sub_self, lp_c9_needFields_57.eq_2, if_pos (show nI 0 + -1 < 0 by decide)]
  obtain ⟨z, e, S2, er, e2⟩ := e
  rw [er, Nat.sub_zero] at e
  refine ⟨S2, ?_, e2⟩
  unfold f_c9_needFields
  rw [zc131, Option.bind_some, C_fields cg, Option.bind_some, zi15_2, Option.bind_some, cg.2.2.1, sh1 (gVm g) (by omega), e1, Option.bind_some, show nI (gRw g * gCo g) - 1 = nI (gRw g * gCo g) + -1 from Int32.sub_eq_add_neg _ _, e, Option.bind_some]
-- ===== the reference =====
theorem M_cBy (cg : MG T g) (wg : WG g) (hf : f < gRw g * gCo g) (hr : r < 1000) (hN : 900 ≤ N) : f_c11_coveredBy N 144 (nI f) (nI r) (mk L T) = some (nI (cBy g r f)) := by
  have h36 := wg.f
  have h6 := wg.2.2.2.2.1
  have e : lp_c11_coveredBy_5 N 144 (nI f) (nI r) (mk L T) N (nI (lM (fun k => decide (sFar g f (gHm g k) ≤ r)) 0)) (nI 0) = some (nI (cBy g r f)) := by
    refine lp_seq (Lp := fun kk (s : Int32) i => lp_c11_coveredBy_5 N 144 (nI f) (nI r) (mk L T) kk s (nI i)) (sp := fun i => nI (lM (fun k => decide (sFar g f (gHm g k) ≤ r)) i)) (n := gVm g) (fun kk i hi => ?_) (fun kk => ?_) (by omega)
    · have hH := wg.H hi
      have l2 := sFar_le g f (gHm g i)
      show lp_c11_coveredBy_5 N 144 (nI f) (nI r) (mk L T) (kk + 1) (nI (lM (fun k => decide (sFar g f (gHm g k) ≤ r)) i)) (nI i) = lp_c11_coveredBy_5 N 144 (nI f) (nI r) (mk L T) kk (nI (lM (fun k => decide (sFar g f (gHm g k) ≤ r)) (i + 1))) (nI (i + 1))
      rw [lp_c11_coveredBy_5.eq_2, zi144_3, Option.bind_some, cg.2.2.1, ile_f hi (by omega), zr144_4, Option.bind_some, zg146 (by omega), Option.bind_some, (cg.2.2.2 i hi).1, M_farOf cg wg (by omega) (by omega), Option.bind_some, sFar_comm g (gHm g i) f]
      by_cases z : sFar g f (gHm g i) ≤ r
      · rw [ilt_f z (by omega), lM_orI (b := fun k => decide (sFar g f (gHm g k) ≤ r)) (by omega) (decide_eq_true z), nI_1]
      · rw [ilt_t (by omega) (by omega), Int32.or_zero, lM_f (b := fun k => decide (sFar g f (gHm g k) ≤ r)) (decide_eq_false z), nI_1]
    · show lp_c11_coveredBy_5 N 144 (nI f) (nI r) (mk L T) (kk + 1) _ (nI (gVm g)) = _
      rw [lp_c11_coveredBy_5.eq_2, zi144_3, Option.bind_some, cg.2.2.1, ile_t (Nat.le_refl _) (by omega)]
      rfl
  unfold f_c11_coveredBy
  rw [zc144, Option.bind_some, show lp_c11_coveredBy_5 N 144 (nI f) (nI r) (mk L T) N 0 0 = _ from e, Option.bind_some]
def mdT (T : gS) (g : pG) (r f0 : Nat) : Prop := ∀ f, f0 ≤ f → f ≤ gRw g * gCo g → ∀ s, s < 2 ^ gVm g → T.1 161 (f * 64 + s) = nI (cW g r (gRw g * gCo g - f) s)
theorem M_cov86 (cg : MG T g) (wg : WG g) (hf : f < gRw g * gCo g) (hnd : mdT T g r (f + 1)) (hN : 900 ≤ N) : ∃ T', lp_c11_covers_86 N 144 (nI (2 ^ gVm g - 1)) (nI f) (nI (cBy g r f)) N 0 (mk L T) = some (mk L T') ∧ FM (fun y => y = 161) (fun _ => False) T T' ∧ mdT T' g r f := by
  have h36 := wg.f
  have h6 := wg.2.2.2.2.1
  have p6 := pw6 h6
  have pp := Nat.two_pow_pos (gVm g)
  have cb := cBy_lt (g := g) (r := r) (f := f)
  have e : ∃ z, lp_c11_covers_86 N 144 (nI (2 ^ gVm g - 1)) (nI f) (nI (cBy g r f)) N (nI 0) (mk L T) = some z ∧ ∃ T', z = mk L T' ∧ FM (fun y => y = 161) (fun _ => False) T T' ∧ mdT T' g r f := by
    refine lp_inv (Lp := fun kk (s : gS) i => lp_c11_covers_86 N 144 (nI (2 ^ gVm g - 1)) (nI f) (nI (cBy g r f)) kk (nI i) (mk L s)) (n := 2 ^ gVm g) (P := fun i s => FM (fun y => y = 161) (fun _ => False) T s ∧ mdT s g r (f + 1) ∧ ∀ j, j < i → s.1 161 (f * 64 + j) = nI (cW g r (gRw g * gCo g - f) j)) (fun kk i s hi hs => Or.inr ?_) (fun kk s hs => ?_) (2 ^ gVm g) N 0 T (by omega) (by omega) ⟨FM.refl, hnd, fun j hj => by omega⟩
    · obtain ⟨fr, hn, hQ⟩ := hs
      have hcm : cm i (cBy g r f) < 2 ^ gVm g := Nat.lt_of_le_of_lt cm_le hi
      have n1 := hn (f + 1) (Nat.le_refl _) (by omega) i hi
      have n2 := hn (f + 1) (Nat.le_refl _) (by omega) (cm i (cBy g r f)) hcm
      have b1 := cW_le (g := g) (r := r) (gRw g * gCo g - (f + 1)) i
      have b2 := cW_le (g := g) (r := r) (gRw g * gCo g - (f + 1)) (cm i (cBy g r f))
      have ev := cW_e (g := g) (r := r) (s := i) hf
      refine ⟨stI s 161 (f * 64 + i) (nI (cW g r (gRw g * gCo g - f) i)), ?_, fr.tr (FM.stA rfl (by omega)), fun f' h1 h2 s' hs' => ?_, fun j hj => ?_⟩
      · show lp_c11_covers_86 N 144 (nI (2 ^ gVm g - 1)) (nI f) (nI (cBy g r f)) (kk + 1) (nI i) (mk L s) = lp_c11_covers_86 N 144 (nI (2 ^ gVm g - 1)) (nI f) (nI (cBy g r f)) kk (nI (i + 1)) _
        rw [lp_c11_covers_86.eq_2, ilt_f (by omega) (by omega), zr144_30, Option.bind_some, Option.bind_some, nI_1, ixI (by omega) (by omega), zg161 (by omega), Option.bind_some, Option.bind_some, cm_I i (by omega) (cBy g r f) (by omega), ixI (by omega) (by omega), zg161 (by omega), Option.bind_some, n1, n2, show (1 : Int32) = nI 1 from rfl, nI_add, gmin_nI (by omega) (by omega), ← ev, ixI (by omega) (by omega), zp161 (by omega), Option.bind_some, nI_add]
      · rw [rdI_ne (by omega)]
        exact hn f' h1 h2 s' hs'
      · by_cases z : j = i
        · rw [z, rdI_eq]
        · rw [rdI_ne (by omega)]
          exact hQ j (by omega)
    · obtain ⟨fr, hn, hQ⟩ := hs
      refine ⟨mk L s, ?_, s, rfl, fr, fun f' h1 h2 s' hs' => ?_⟩
      · show lp_c11_covers_86 N 144 (nI (2 ^ gVm g - 1)) (nI f) (nI (cBy g r f)) (kk + 1) (nI (2 ^ gVm g)) (mk L s) = _
        rw [lp_c11_covers_86.eq_2, ilt_t (by omega) (by omega)]
      · by_cases z : f' = f
        · rw [z]; exact hQ s' hs'
        · exact hn f' (by omega) h2 s' hs'
  obtain ⟨z, e, S1, er, e2⟩ := e
  rw [er] at e
  exact ⟨S1, e, e2⟩
theorem M_cov28 (cg : MG T g) (wg : WG g) (hN : 900 ≤ N) : ∃ T', lp_c11_covers_28 N 144 (nI (2 ^ gVm g - 1)) N 0 (mk L T) = some (mk L T') ∧ FM (fun y => y = 161) (fun _ => False) T T' ∧ mdT T' g r (gRw g * gCo g) := by
  have h36 := wg.f
  have h6 := wg.2.2.2.2.1
  have p6 := pw6 h6
  have pp := Nat.two_pow_pos (gVm g)
  have e : ∃ z, lp_c11_covers_28 N 144 (nI (2 ^ gVm g - 1)) N (nI 0) (mk L T) = some z ∧ ∃ T', z = mk L T' ∧ FM (fun y => y = 161) (fun _ => False) T T' ∧ mdT T' g r (gRw g * gCo g) := by
    refine lp_inv (Lp := fun kk (s : gS) i => lp_c11_covers_28 N 144 (nI (2 ^ gVm g - 1)) kk (nI i) (mk L s)) (n := 2 ^ gVm g) (P := fun i s => FM (fun y => y = 161) (fun _ => False) T s ∧ ∀ j, j < i → s.1 161 (gRw g * gCo g * 64 + j) = if j = 0 then 0 else nI 1000000) (fun kk i s hi hs => Or.inr ?_) (fun kk s hs => ?_) (2 ^ gVm g) N 0 T (by omega) (by omega) ⟨FM.refl, fun j hj => by omega⟩
    · obtain ⟨fr, hQ⟩ := hs
      have mg : MG s g := cg.fm fr ⟨fun z => z, fun z => z, fun z => z⟩ ⟨by omega, by omega⟩
      refine ⟨stI s 161 (gRw g * gCo g * 64 + i) (if i = 0 then 0 else nI 1000000), ?_, fr.tr (FM.stA rfl (by omega)), fun j hj => ?_⟩
      · show lp_c11_covers_28 N 144 (nI (2 ^ gVm g - 1)) (kk + 1) (nI i) (mk L s) = lp_c11_covers_28 N 144 (nI (2 ^ gVm g - 1)) kk (nI (i + 1)) _
        rw [lp_c11_covers_28.eq_2, ilt_f (by omega) (by omega), zr144_30, Option.bind_some, M_fields mg, Option.bind_some, ixI (by omega) (by omega)]
        by_cases z : i = 0
        · rw [iz_t z, if_pos z, zp161 (by omega), Option.bind_some, nI_1]
        · rw [iz_f (by omega) (by omega), if_neg z, zp161 (by omega), Option.bind_some, nI_1]
          rfl
      · by_cases z : j = i
        · rw [z, rdI_eq]
        · rw [rdI_ne (by omega)]
          exact hQ j (by omega)
    · obtain ⟨fr, hQ⟩ := hs
      refine ⟨mk L s, ?_, s, rfl, fr, fun f' h1 h2 s' hs' => ?_⟩
      · show lp_c11_covers_28 N 144 (nI (2 ^ gVm g - 1)) (kk + 1) (nI (2 ^ gVm g)) (mk L s) = _
        rw [lp_c11_covers_28.eq_2, ilt_t (by omega) (by omega)]
      · rw [show f' = gRw g * gCo g by omega, hQ s' hs', Nat.sub_self]
        show _ = nI (if s' = 0 then 0 else 1000000)
        by_cases z : s' = 0
        · rw [if_pos z, if_pos z]; rfl
        · rw [if_neg z, if_neg z]
  obtain ⟨z, e, S1, er, e2⟩ := e
  rw [er] at e
  exact ⟨S1, e, e2⟩
theorem M_cov71 (cg : MG T g) (wg : WG g) (hr : r < 1000) (h0 : mdT T g r (gRw g * gCo g)) (hN : 900 ≤ N) : ∃ T', lp_c11_covers_71 N 144 (nI r) (nI (2 ^ gVm g - 1)) N (nI (gRw g * gCo g) - 1) (mk L T) = some (mk L T') ∧ FM (fun y => y = 161) (fun _ => False) T T' ∧ mdT T' g r 0 := by
  have h36 := wg.f
  have h6 := wg.2.2.2.2.1
  have e : ∃ z, lp_c11_covers_71 N 144 (nI r) (nI (2 ^ gVm g - 1)) N (nI (gRw g * gCo g - 0) + -1) (mk L T) = some z ∧ ∃ T', z = mk L T' ∧ FM (fun y => y = 161) (fun _ => False) T T' ∧ mdT T' g r 0 := by
    refine lp_inv (Lp := fun kk (s : gS) i => lp_c11_covers_71 N 144 (nI r) (nI (2 ^ gVm g - 1)) kk (nI (gRw g * gCo g - i) + -1) (mk L s)) (n := gRw g * gCo g) (P := fun i s => FM (fun y => y = 161) (fun _ => False) T s ∧ mdT s g r (gRw g * gCo g - i)) (fun kk i s hi hs => Or.inr ?_) (fun kk s hs => ?_) (gRw g * gCo g) N 0 T (by omega) (by omega) ⟨FM.refl, h0⟩
    · obtain ⟨fr, hn⟩ := hs
      obtain ⟨fd, hfd⟩ : ∃ fd, gRw g * gCo g - i = fd + 1 := ⟨gRw g * gCo g - i - 1, by omega⟩
      rw [hfd] at hn
      have mg : MG s g := cg.fm fr ⟨fun z => z, fun z => z, fun z => z⟩ ⟨by omega, by omega⟩
      obtain ⟨s3, e3, f3, n3⟩ := M_cov86 (L := L) (N := N) (f := fd) mg wg (by omega) hn hN
      refine ⟨s3, ?_, fr.tr f3, ?_⟩
      · show lp_c11_covers_71 N 144 (nI r) (nI (2 ^ gVm g - 1)) (kk + 1) (nI (gRw g * gCo g - i) + -1) (mk L s) = lp_c11_covers_71 N 144 (nI r) (nI (2 ^ gVm g - 1)) kk (nI (gRw g * gCo g - (i + 1)) + -1) (mk L s3)
        rw [hfd, nI_dec, show gRw g * gCo g - (i + 1) = fd by omega, lp_c11_covers_71.eq_2, iltz (by omega), M_cBy mg wg (by omega) hr hN, Option.bind_some, e3, Option.bind_some]
      · rw [show gRw g * gCo g - (i + 1) = fd by omega]; exact n3
    · obtain ⟨fr, hn⟩ := hs
      rw [Nat.sub_self] at hn
      refine ⟨mk L s, ?_, s, rfl, fr, hn⟩
      show lp_c11_covers_71 N 144 (nI r) (nI (2 ^ gVm g - 1)) (kk + 1) (nI (gRw g * gCo g - gRw g * gCo g) + -1) (mk L s) = _
      rw [Nat.sub_self, lp_c11_covers_71.eq_2, if_pos (show nI 0 + -1 < 0 by decide)]
  obtain ⟨z, e, S2, er, e2⟩ := e
  rw [er, Nat.sub_zero] at e
  refine ⟨S2, ?_, e2⟩
  rw [show nI (gRw g * gCo g) - 1 = nI (gRw g * gCo g) + -1 from Int32.sub_eq_add_neg _ _]
  exact e
end COVERT
