/-! CALLS: plain: the class takes it -/
section PLAINC2
variable {L N : Nat} {S T : gS} {c : Nat} {g g' : pG} {v v' : pV} {x : pX} {l : List Int64} {u : pX} {n : pN} {k : Nat → Option pV} {h : pH} {A : pA}
theorem C_far0 {a b : Nat} (e : S.1 15 1 = nI (gCo g)) (h3 : 3 ≤ gCo g ∧ gCo g ≤ 6) (hx : a < 1000) (hy : b < 1000) : f_c1_far N 15 (nI a) (nI b) (mk L S) = some (nI (sFar g a b)) := by
  have h1 : a / gCo g ≤ a := Nat.div_le_self _ _
  have h2 : b / gCo g ≤ b := Nat.div_le_self _ _
  have h5 : a % gCo g ≤ a := Nat.mod_le _ _
  have h4 : b % gCo g ≤ b := Nat.mod_le _ _
  have r1 : ∀ f, f < 1000 → f_c1_rowOf N 15 (nI f) (mk L S) = some (nI (f / gCo g)) := by
    intro f hf
    simp (disch := omega) only [Option.bind_some, ↓ile_t, ↓ile_f, ↓ilt_t, ↓ilt_f, ↓ieq_t, ↓ieq_f, ↓iz_t, ↓iz_f, ↓iltz, ↓izle, ↓ilez_t, ↓ilez_f, ↓im1, ile_t, ile_f, ilt_t, ilt_f, ieq_t, ieq_f, iz_t, iz_f, iltz, izle, ilez_t, ilez_f, im1, gZ_0, gZ_1, e10, e00, ↓reduceIte, Sum.elim_inl, Sum.elim_inr, nI_1, nI_add, Int32.sub_zero, f_c1_rowOf, zc15, zi15_0, zs15_0, zi15_1, zs15_1, zi15_2, zs15_2, zr15_3, zr15_4, zr15_5, e, gNZ_nI, nI_div]
  have r2 : ∀ f, f < 1000 → f_c1_columnOf N 15 (nI f) (mk L S) = some (nI (f % gCo g)) := by
    intro f hf
    simp (disch := omega) only [Option.bind_some, ↓ile_t, ↓ile_f, ↓ilt_t, ↓ilt_f, ↓ieq_t, ↓ieq_f, ↓iz_t, ↓iz_f, ↓iltz, ↓izle, ↓ilez_t, ↓ilez_f, ↓im1, ile_t, ile_f, ilt_t, ilt_f, ieq_t, ieq_f, iz_t, iz_f, iltz, izle, ilez_t, ilez_f, im1, gZ_0, gZ_1, e10, e00, ↓reduceIte, Sum.elim_inl, Sum.elim_inr, nI_1, nI_add, Int32.sub_zero, f_c1_columnOf, zc15, zi15_0, zs15_0, zi15_1, zs15_1, zi15_2, zs15_2, zr15_3, zr15_4, zr15_5, e, gNZ_nI, nI_rem]
  simp (disch := omega) only [Option.bind_some, ↓ile_t, ↓ile_f, ↓ilt_t, ↓ilt_f, ↓ieq_t, ↓ieq_f, ↓iz_t, ↓iz_f, ↓iltz, ↓izle, ↓ilez_t, ↓ilez_f, ↓im1, ile_t, ile_f, ilt_t, ilt_f, ieq_t, ieq_f, iz_t, iz_f, iltz, izle, ilez_t, ilez_f, im1, gZ_0, gZ_1, e10, e00, ↓reduceIte, Sum.elim_inl, Sum.elim_inr, nI_1, nI_add, Int32.sub_zero, f_c1_far, zc15, zi15_0, zs15_0, zi15_1, zs15_1, zi15_2, zs15_2, zr15_3, zr15_4, zr15_5, r1 a hx, r1 b hy, r2 a hx, r2 b hy, gabs_sub, sFar]
theorem C_crowd {f : Nat} (hg : WG g) (e1 : S.1 15 1 = nI (gCo g)) (e2 : S.1 15 2 = nI (gVm g)) (e3 : ∀ i, i < gVm g → S.1 16 i = nI (gHm g i)) (hf : f < 1000) (hN : 900 ≤ N) : f_c1_villagesNear N 15 (nI f) 2 (mk L S) = some (nI (sCrowd g f)) := by
  have h6 := hg.2.2.2.2.1
  have h3 := hg.2.2
  obtain ⟨r, er, hr⟩ := lp_inv (Lp := fun kk (s : Int32) i => lp_c1_villagesNear_5 N 15 (nI f) 2 (mk L S) kk s (nI i)) (n := gVm g) (P := fun i s => s = nI (sumN (fun i => if sFar g (gHm g i) f ≤ 2 then 1 else 0) i)) (Q := fun r => r = nI (sCrowd g f))
    (fun kk i s hi hs => Or.inr (by
      have hH := hg.H hi
      have hle := sFar_le g (gHm g i) f
      refine ⟨_, ?_, rfl⟩
      show lp_c1_villagesNear_5 N 15 (nI f) 2 (mk L S) (kk + 1) s (nI i) = _
      rw [lp_c1_villagesNear_5.eq_2]
      simp (disch := omega) only [Option.bind_some, ↓ile_t, ↓ile_f, ↓ilt_t, ↓ilt_f, ↓ieq_t, ↓ieq_f, ↓iz_t, ↓iz_f, ↓iltz, ↓izle, ↓ilez_t, ↓ilez_f, ↓im1, ile_t, ile_f, ilt_t, ilt_f, ieq_t, ieq_f, iz_t, iz_f, iltz, izle, ilez_t, ilez_f, im1, gZ_0, gZ_1, e10, e00, ↓reduceIte, Sum.elim_inl, Sum.elim_inr, nI_1, nI_add, Int32.sub_zero, zc15, zi15_0, zs15_0, zi15_1, zs15_1, zi15_2, zs15_2, zr15_3, zr15_4, zr15_5, e2, zg16, e3 i hi, C_far0 (g := g) (L := L) (N := N) (S := S) e1 ⟨h3.1, h3.2.1⟩]
      rw [if2 (by omega), hs, nI_add, sumN])) 
    (fun kk s hs => by
      refine ⟨_, ?_, hs⟩
      show lp_c1_villagesNear_5 N 15 (nI f) 2 (mk L S) (kk + 1) s _ = _
      rw [lp_c1_villagesNear_5.eq_2]
      simp (disch := omega) only [Option.bind_some, ↓ile_t, ↓ile_f, ↓ilt_t, ↓ilt_f, ↓ieq_t, ↓ieq_f, ↓iz_t, ↓iz_f, ↓iltz, ↓izle, ↓ilez_t, ↓ilez_f, ↓im1, ile_t, ile_f, ilt_t, ilt_f, ieq_t, ieq_f, iz_t, iz_f, iltz, izle, ilez_t, ilez_f, im1, gZ_0, gZ_1, e10, e00, ↓reduceIte, Sum.elim_inl, Sum.elim_inr, nI_1, nI_add, Int32.sub_zero, zc15, zi15_0, zs15_0, zi15_1, zs15_1, zi15_2, zs15_2, zr15_3, zr15_4, zr15_5, e2]) (gVm g) N 0 0 (by omega) (by omega) rfl
  rw [nI_0] at er
  have er2 : lp_c1_villagesNear_5 N 15 (nI f) 2 (mk L S) N 0 0 = some r := er
  unfold f_c1_villagesNear
  rw [zc15, Option.bind_some, er2, hr]
  rfl
def plF (y : Nat) : Prop := 15 ≤ y ∧ y ≤ 18
theorem C_readPlain (q : CT S x) (hx : XOk x 80) (hp : plGood x) (hN : 900 ≤ N) : ∃ S', f_c1_read N 15 11 (mk L S) = some (mk L S') ∧ Fr plF S S' ∧ CG S' (plP x) := by
  have wg := WG_plP hp
  obtain ⟨h0, h1, i2, i3⟩ := hp
  have hm := plM_le h0 h1
  have eF : gRw (plP x) * gCo (plP x) = plM x := rfl
  obtain ⟨r, er, S1, er1, f1, a0, a1, a2, a3⟩ := lp_inv (Lp := fun kk (s : gS) i => lp_c1_read_29 N 15 11 kk (nI (2 + i)) (mk L s)) (n := plM x) (P := fun i s => Fr plF S s ∧ s.1 15 0 = nI (x.2 0 - 48) ∧ s.1 15 1 = nI (x.2 1 - 48) ∧ s.1 15 2 = nI (plN x.2 i) ∧ ∀ j, j < plN x.2 i → s.1 16 j = nI ((plG x.2 i).2.1 j) ∧ s.1 17 j = nI ((plG x.2 i).2.2 j)) (Q := fun r => ∃ s, r = mk L s ∧ Fr plF S s ∧ s.1 15 0 = nI (x.2 0 - 48) ∧ s.1 15 1 = nI (x.2 1 - 48) ∧ s.1 15 2 = nI (plN x.2 (plM x)) ∧ ∀ j, j < plN x.2 (plM x) → s.1 16 j = nI ((plG x.2 (plM x)).2.1 j) ∧ s.1 17 j = nI ((plG x.2 (plM x)).2.2 j))
    (fun kk i s hi hs => Or.inr (by
      obtain ⟨b1, b2, b3, b4, b5⟩ := hs
      have qs : CT s x := q.fr b1 ⟨by unfold plF; omega, by unfold plF; omega⟩
      have hok := i2 i hi
      show ∃ s', lp_c1_read_29 N 15 11 (kk + 1) (nI (2 + i)) (mk L s) = lp_c1_read_29 N 15 11 kk (nI (2 + (i + 1))) (mk L s') ∧ _
      rw [lp_c1_read_29.eq_2]
      by_cases z : plV x.2 i
      · have hn : plN x.2 i < 6 := by
          rcases hok.2 with y | y
          · exact y.2
          · have := z.1; omega
        have z1 := z.1
        have z2 := z.2
        have c6 : ¬ (6 : Int32) ≤ nI (plN x.2 i) := nI_ge (b := 6) hn (by omega)
        refine ⟨stI (stI (stI s 16 (plN x.2 i) (nI i)) 17 (plN x.2 i) (nI (x.2 (2 + i) - 48))) 15 2 (nI (plN x.2 i + 1)), ?_, ?_, ?_, ?_, ?_, fun j hj => ?_⟩
        · have e12 : (stI s 16 (plN x.2 i) (nI i)).1 15 2 = nI (plN x.2 i) := (rdI_ne (by omega)).trans b4
          have e13 : (stI (stI s 16 (plN x.2 i) (nI i)) 17 (plN x.2 i) (nI (x.2 (2 + i) - 48))).1 15 2 = nI (plN x.2 i) := (rdI_ne (by omega)).trans e12
          have em : nI (2 + i) - 2 = nI i := by rw [k2, nI_sub (by omega), Nat.add_sub_cancel_left]
          simp (disch := omega) only [Option.bind_some, ↓ile_t, ↓ile_f, ↓ilt_t, ↓ilt_f, ↓ieq_t, ↓ieq_f, ↓iz_t, ↓iz_f, ↓iltz, ↓izle, ↓ilez_t, ↓ilez_f, ↓im1, ile_t, ile_f, ilt_t, ilt_f, ieq_t, ieq_f, iz_t, iz_f, iltz, izle, ilez_t, ilez_f, im1, gZ_0, gZ_1, e10, e00, ↓reduceIte, Sum.elim_inl, Sum.elim_inr, nI_1, nI_add, Int32.sub_zero, zc11, zr11_0, zi11_1, zs11_1, zc15, zi15_0, zs15_0, zi15_1, zs15_1, zi15_2, zs15_2, zr15_3, zr15_4, zr15_5, qs.1, i3, C_dg_t qs hx hok.1 (show 48 ≤ x.2 (2 + i) by omega) (show x.2 (2 + i) ≤ 57 by omega), b4, if_neg c6, em, zp16, zp17, e12, e13]
          rfl
        · exact ((b1.trans (Fr.stI (A := fun y => y = 16) rfl) (fun _ z => z) (fun y hy => by unfold plF; omega)).trans (Fr.stI (A := fun y => y = 17) rfl) (fun _ z => z) (fun y hy => by unfold plF; omega)).trans (Fr.stI (A := fun y => y = 15) rfl) (fun _ z => z) (fun y hy => by unfold plF; omega)
        · rw [rdI_ne (by omega), rdI_ne (by omega), rdI_ne (by omega)]; exact b2
        · rw [rdI_ne (by omega), rdI_ne (by omega), rdI_ne (by omega)]; exact b3
        · rw [rdI_eq, plN_t z]
        · rw [plN_t z] at hj
          unfold plG
          rw [if_pos z]
          show _ = nI (if j = plN x.2 i then i else (plG x.2 i).2.1 j) ∧ _ = nI (if j = plN x.2 i then x.2 (2 + i) - 48 else (plG x.2 i).2.2 j)
          by_cases e : j = plN x.2 i
          · rw [if_pos e, if_pos e, e, rdI_ne (by omega), rdI_ne (by omega), rdI_eq, rdI_ne (by omega), rdI_eq]
            exact ⟨rfl, rfl⟩
          · rw [if_neg e, if_neg e, rdI_ne (by omega), rdI_ne (by omega), rdI_ne (by omega), rdI_ne (by omega), rdI_ne (by omega), rdI_ne (by omega)]
            exact b5 j (by omega)
      · have h46 : x.2 (2 + i) = 46 := hok.2.elim (fun y => absurd y.1 z) id
        refine ⟨s, ?_, b1, b2, b3, ?_, ?_⟩
        · have cm : (-1 : Int32) ≤ 0 := by decide
          simp (disch := omega) only [Option.bind_some, ↓ile_t, ↓ile_f, ↓ilt_t, ↓ilt_f, ↓ieq_t, ↓ieq_f, ↓iz_t, ↓iz_f, ↓iltz, ↓izle, ↓ilez_t, ↓ilez_f, ↓im1, ile_t, ile_f, ilt_t, ilt_f, ieq_t, ieq_f, iz_t, iz_f, iltz, izle, ilez_t, ilez_f, im1, gZ_0, gZ_1, e10, e00, ↓reduceIte, Sum.elim_inl, Sum.elim_inr, nI_1, nI_add, Int32.sub_zero, zc11, zr11_0, zi11_1, zs11_1, zc15, zi15_0, zs15_0, zi15_1, zs15_1, zi15_2, zs15_2, zr15_3, zr15_4, zr15_5, qs.1, i3, C_dg_f (L := L) (N := N) (i := 2 + i) qs hx (fun _ => by omega) (by omega), if_pos cm]
          rfl
        · unfold plN; rw [plN_f z]; exact b4
        · unfold plN; rw [plN_f z]; exact b5))
    (fun kk s hs => by
      have qs : CT s x := q.fr hs.1 ⟨by unfold plF; omega, by unfold plF; omega⟩
      refine ⟨mk L s, ?_, s, rfl, hs⟩
      show lp_c1_read_29 N 15 11 (kk + 1) _ (mk L s) = _
      rw [lp_c1_read_29.eq_2]
      simp (disch := omega) only [Option.bind_some, ↓ile_t, ↓ile_f, ↓ilt_t, ↓ilt_f, ↓ieq_t, ↓ieq_f, ↓iz_t, ↓iz_f, ↓iltz, ↓izle, ↓ilez_t, ↓ilez_f, ↓im1, ile_t, ile_f, ilt_t, ilt_f, ieq_t, ieq_f, iz_t, iz_f, iltz, izle, ilez_t, ilez_f, im1, gZ_0, gZ_1, e10, e00, ↓reduceIte, Sum.elim_inl, Sum.elim_inr, nI_1, nI_add, Int32.sub_zero, zc11, zr11_0, zi11_1, zs11_1, qs.1, i3]) (plM x) N 0 (stI (stI (stI S 15 0 (nI (x.2 0 - 48))) 15 1 (nI (x.2 1 - 48))) 15 2 0) (by omega) (by omega) ⟨((Fr.stI (A := plF) (by unfold plF; omega)).trans (Fr.stI (A := plF) (by unfold plF; omega)) (fun _ z => z) (fun _ z => z)).trans (Fr.stI (A := plF) (by unfold plF; omega)) (fun _ z => z) (fun _ z => z), by rw [rdI_ne (by omega), rdI_ne (by omega), rdI_eq], by rw [rdI_ne (by omega), rdI_eq], rdI_eq, fun j hj => by cases (show j < 0 from hj)⟩
  rw [er1] at er
  have g0 : gRw (plP x) = x.2 0 - 48 := rfl
  obtain ⟨r', er', S2, er2, f2, d1⟩ := lp_inv (Lp := fun kk (s : gS) i => lp_c1_read_98 N 15 kk (nI i) (mk L s)) (n := plM x) (P := fun i s => Fr (fun y => y = 18) S1 s ∧ ∀ j, j < i → s.1 18 j = nI (sCrowd (plP x) j)) (Q := fun r => ∃ s, r = mk L s ∧ Fr (fun y => y = 18) S1 s ∧ ∀ j, j < plM x → s.1 18 j = nI (sCrowd (plP x) j))
    (fun kk i s hi hs => Or.inr (by
      obtain ⟨b1, b2⟩ := hs
      have e0 : s.1 15 0 = nI (gRw (plP x)) := (b1.i (by omega) _).trans a0
      have e1 : s.1 15 1 = nI (gCo (plP x)) := (b1.i (by omega) _).trans a1
      have e2 : s.1 15 2 = nI (gVm (plP x)) := (b1.i (by omega) _).trans a2
      have eFd : f_c1_fields N 15 (mk L s) = some (nI (plM x)) := by
        simp (disch := omega) only [Option.bind_some, ↓ile_t, ↓ile_f, ↓ilt_t, ↓ilt_f, ↓ieq_t, ↓ieq_f, ↓iz_t, ↓iz_f, ↓iltz, ↓izle, ↓ilez_t, ↓ilez_f, ↓im1, ile_t, ile_f, ilt_t, ilt_f, ieq_t, ieq_f, iz_t, iz_f, iltz, izle, ilez_t, ilez_f, im1, gZ_0, gZ_1, e10, e00, ↓reduceIte, Sum.elim_inl, Sum.elim_inr, nI_1, nI_add, Int32.sub_zero, f_c1_fields, zc15, zi15_0, zs15_0, zi15_1, zs15_1, zi15_2, zs15_2, zr15_3, zr15_4, zr15_5, e0, e1, nI_mul, eF]
      have eC := C_crowd (L := L) (N := N) (S := s) (g := plP x) (f := i) wg e1 e2 (fun j hj => (b1.i (by omega) _).trans (a3 j hj).1) (by omega) hN
      refine ⟨stI s 18 i (nI (sCrowd (plP x) i)), ?_, b1.trans (Fr.stI (A := fun y => y = 18) rfl) (fun _ z => z) (fun _ z => z), fun j hj => ?_⟩
      · show lp_c1_read_98 N 15 (kk + 1) (nI i) (mk L s) = _
        rw [lp_c1_read_98.eq_2]
        simp (disch := omega) only [Option.bind_some, ↓ile_t, ↓ile_f, ↓ilt_t, ↓ilt_f, ↓ieq_t, ↓ieq_f, ↓iz_t, ↓iz_f, ↓iltz, ↓izle, ↓ilez_t, ↓ilez_f, ↓im1, ile_t, ile_f, ilt_t, ilt_f, ieq_t, ieq_f, iz_t, iz_f, iltz, izle, ilez_t, ilez_f, im1, gZ_0, gZ_1, e10, e00, ↓reduceIte, Sum.elim_inl, Sum.elim_inr, nI_1, nI_add, Int32.sub_zero, eFd, zc15, zi15_0, zs15_0, zi15_1, zs15_1, zi15_2, zs15_2, zr15_3, zr15_4, zr15_5, eC, zp18]
      · by_cases z : j = i
        · rw [z, rdI_eq]
        · rw [rdI_ne (by omega)]; exact b2 j (by omega)))
    (fun kk s hs => by
      obtain ⟨b1, b2⟩ := hs
      have e0 : s.1 15 0 = nI (gRw (plP x)) := (b1.i (by omega) _).trans a0
      have e1 : s.1 15 1 = nI (gCo (plP x)) := (b1.i (by omega) _).trans a1
      have eFd : f_c1_fields N 15 (mk L s) = some (nI (plM x)) := by
        simp (disch := omega) only [Option.bind_some, ↓ile_t, ↓ile_f, ↓ilt_t, ↓ilt_f, ↓ieq_t, ↓ieq_f, ↓iz_t, ↓iz_f, ↓iltz, ↓izle, ↓ilez_t, ↓ilez_f, ↓im1, ile_t, ile_f, ilt_t, ilt_f, ieq_t, ieq_f, iz_t, iz_f, iltz, izle, ilez_t, ilez_f, im1, gZ_0, gZ_1, e10, e00, ↓reduceIte, Sum.elim_inl, Sum.elim_inr, nI_1, nI_add, Int32.sub_zero, f_c1_fields, zc15, zi15_0, zs15_0, zi15_1, zs15_1, zi15_2, zs15_2, zr15_3, zr15_4, zr15_5, e0, e1, nI_mul, eF]
      refine ⟨mk L s, ?_, s, rfl, b1, b2⟩
      show lp_c1_read_98 N 15 (kk + 1) (nI (plM x)) (mk L s) = _
      rw [lp_c1_read_98.eq_2]
      simp (disch := omega) only [Option.bind_some, ↓ile_t, ↓ile_f, ↓ilt_t, ↓ilt_f, ↓ieq_t, ↓ieq_f, ↓iz_t, ↓iz_f, ↓iltz, ↓izle, ↓ilez_t, ↓ilez_f, ↓im1, ile_t, ile_f, ilt_t, ilt_f, ieq_t, ieq_f, iz_t, iz_f, iltz, izle, ilez_t, ilez_f, im1, gZ_0, gZ_1, e10, e00, ↓reduceIte, Sum.elim_inl, Sum.elim_inr, nI_1, nI_add, Int32.sub_zero, eFd]) (plM x) N 0 S1 (by omega) (by omega) ⟨Fr.refl, fun j hj => by omega⟩
  rw [er2, nI_0] at er'
  refine ⟨S2, ?_, f1.trans f2 (fun _ z => z) (fun y hy => by unfold plF; omega), (f2.i (by omega) _).trans a0, (f2.i (by omega) _).trans a1, (f2.i (by omega) _).trans a2, fun i hi => ⟨(f2.i (by omega) _).trans (a3 i hi).1, (f2.i (by omega) _).trans (a3 i hi).2⟩, fun f hf => d1 f hf⟩
  have dg : ∀ (s : gS) (i : Nat), Fr plF S s → plD x i → f_c8_digit N 11 (nI i) 80 (mk L s) = some (nI (x.2 i - 48)) := fun s i hs hd => C_dg_t (q.fr hs ⟨by unfold plF; omega, by unfold plF; omega⟩) hx hd.1 (by have := hd.2; omega) (by have := hd.2; omega)
  have d0 := dg S 0 Fr.refl h0
  have d1' := dg (stI S 15 0 (nI (x.2 0 - 48))) 1 (Fr.stI (by unfold plF; omega)) h1
  have er3 : lp_c1_read_29 N 15 11 N 2 (mk L (stI (stI (stI S 15 0 (nI (x.2 0 - 48))) 15 1 (nI (x.2 1 - 48))) 15 2 0)) = some (mk L S1) := er
  unfold f_c1_read
  rw [zc15, Option.bind_some, ← nI_0, d0, Option.bind_some, zs15_0, Option.bind_some, k1, d1', Option.bind_some, zs15_1, Option.bind_some, nI_0, zs15_2, Option.bind_some, er3, Option.bind_some, er', Option.bind_some]
end PLAINC2
