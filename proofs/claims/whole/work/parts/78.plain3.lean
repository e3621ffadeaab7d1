/-! CALLS: plain: forgotten, told; the reference -/
section PLAINC3
variable {L N : Nat} {S S' T : gS} {c : Nat} {g g' : pG} {v v' : pV} {x : pX} {l : List Int64} {u : pX} {n : pN} {k : Nat → Option pV} {h : pH} {A : pA}
def kNo : Nat → Option pV := fun _ => none
theorem C_forgetAll (hN : 900 ≤ N) : f_c5_forgetAll N 40 (mk L S) = some (mk L (stI (stI (stI S 40 3 0) 43 0 0) 43 1 0)) := by
  obtain ⟨N', rfl⟩ : ∃ N', N = N' + 3 := ⟨N - 3, by omega⟩
  have e2 : lp_c5_forgetAll_7 (N' + 3) 40 (N' + 3) 0 (mk L (stI S 40 3 0)) = some (mk L (stI (stI (stI S 40 3 0) 43 0 0) 43 1 0)) := by
    have c0 : ¬ (2 : Int32) ≤ 0 := by decide
    have c1 : ¬ (2 : Int32) ≤ 1 := by decide
    have z0 : ∀ s : gS, saB (mk L s) 43 0 0 = some (mk L (stI s 43 0 0)) := fun s => by
      have := zp43 (L := L) (S := s) (j := 0) (v := 0) (by omega)
      rw [nar0] at this
      exact this
    have z1 : ∀ s : gS, saB (mk L s) 43 1 0 = some (mk L (stI s 43 1 0)) := fun s => by
      have := zp43 (L := L) (S := s) (j := 1) (v := 0) (by omega)
      rw [nar0] at this
      exact this
    rw [lp_c5_forgetAll_7.eq_2, if_neg c0, zr40_2, Option.bind_some, z0, Option.bind_some, show (0 : Int32) + 1 = 1 by decide, lp_c5_forgetAll_7.eq_2, if_neg c1, zr40_2, Option.bind_some, z1, Option.bind_some, show (1 : Int32) + 1 = 2 by decide, lp_c5_forgetAll_7.eq_2, if_pos (by decide)]
  unfold f_c5_forgetAll
  rw [zc40, Option.bind_some, zs40_3, Option.bind_some, e2, Option.bind_some]
def plI (y : Nat) : Prop := y = 11 ∨ (15 ≤ y ∧ y ≤ 24) ∨ y = 40 ∨ y = 43
def plH (y : Nat) : Prop := y = 11 ∨ (15 ≤ y ∧ y ≤ 24) ∨ y = 40 ∨ y = 43 ∨ sC y
theorem C_newCA (q : CA S (g, v, x, l, u, n, k, h)) (f : Fr plH S S') (hg : CG S' g') (hv : CV S' 19 v') (h11 : S'.1 11 1 = 0) (h40 : S'.1 40 3 = 0) (h43 : S'.1 43 0 = 0 ∧ S'.1 43 1 = 0) : CA S' (g', v', (0, x.2), l, u, (0, n.2), kNo, h) := by
  obtain ⟨q1, q2, q3, q4, ⟨q5, q0⟩, ⟨q6a, π, u1, u2, u3⟩, q7, q8⟩ := q
  have nf : ∀ y, ¬ plH y → ¬ plH y := fun _ z => z
  refine ⟨hg, hv, ⟨h11, fun j hj => by cases (show j < 0 from hj)⟩, q4.fr f ⟨?_, ?_⟩, ⟨q5.fr f ⟨?_, ⟨?_, ?_⟩, ⟨?_, ?_⟩⟩, q0.fr f ⟨?_, ?_, ?_, ?_⟩⟩, ⟨⟨h40, by show 0 ≤ 12; omega⟩, π, fun i hi => ⟨(u1 i hi).1, (f.p ?_ i).trans (u1 i hi).2⟩, u2, fun i hi => by cases (show i < 0 from hi)⟩, fun i hi => ⟨(f.p ?_ i).trans (q7 i hi).1, fun _ => ?_, fun w hw => by cases hw⟩, q8.fr f ⟨?_, ?_, ?_⟩⟩
  all_goals first | (unfold plH sC; omega) | skip
  match i, hi with
  | 0, _ => exact h43.1
  | 1, _ => exact h43.2
theorem WA.plain (w : WA (g, v, x, l, u, n, k, h)) (hg : WG g') (hv : WV g' v') : WA (g', v', (0, x.2), l, u, (0, n.2), kNo, h) :=
  ⟨hg, hv, ⟨by show 0 ≤ 80; omega, fun j hj => by cases (show j < 0 from hj)⟩, w.2.2.2.1, w.2.2.2.2.1, ⟨by show 0 ≤ 12; omega, fun i hi => by cases (show i < 0 from hi)⟩, fun i _ y hy => (by cases hy), w.2.2.2.2.2.2.2⟩
theorem WV_emp : WV g (vEmp v) := ⟨by show 0 ≤ 8; omega, ⟨by show 0 ≤ 9999; omega, fun i j _ hj => by cases (show j < 0 from hj)⟩, fun w hw => by cases (show w < 0 from hw)⟩
theorem C_plain_f {p : Nat} (q : CA S (g, v, x, l, u, n, k, h)) (w : WA (g, v, x, l, u, n, k, h)) (hp : plBad x p) (h2 : p < 100) (hN : 900 ≤ N) : f_c10_plain N 10 (mk L S) = some (-1 - nI p, mk L (stI S 11 1 (nI 0))) ∧ CA (stI S 11 1 (nI 0)) (g, v, (0, x.2), l, u, n, k, h) := by
  obtain ⟨e1, q1⟩ := C_cut (L := L) (N := N) (d := 0) q w.2.2.1.1 (by omega)
  refine ⟨?_, q1⟩
  rw [nI_0] at e1 ⊢
  have e0 := C_faultIn_t (L := L) (N := N) q.2.2.1 w.2.2.1 hp hN
  simp (disch := omega) only [Option.bind_some, ↓ile_t, ↓ile_f, ↓ilt_t, ↓ilt_f, ↓ieq_t, ↓ieq_f, ↓iz_t, ↓iz_f, ↓iltz, ↓izle, ↓ilez_t, ↓ilez_f, ↓im1, ile_t, ile_f, ilt_t, ilt_f, ieq_t, ieq_f, iz_t, iz_f, iltz, izle, ilez_t, ilez_f, im1, gZ_0, gZ_1, e10, e00, ↓reduceIte, Sum.elim_inl, Sum.elim_inr, nI_1, nI_add, Int32.sub_zero, f_c10_plain, zc10, zr10_0, zr10_1, zr10_2, zr10_3, zr10_4, zr10_5, zr10_6, zr10_7, zr10_8, zr10_9, zr10_10, zs10_11, zs10_12, e0, e1]
theorem C_plain_t (q : CA S (g, v, x, l, u, n, k, h)) (w : WA (g, v, x, l, u, n, k, h)) (hp : plGood x) (hN : 900 ≤ N) : ∃ S', f_c10_plain N 10 (mk L S) = some (nI (plM x), mk L S') ∧ CA S' (plP x, vEmp v, (0, x.2), l, u, (0, n.2), kNo, h) ∧ Fr lowC S S' := by
  have e0 := C_faultIn_f (L := L) (N := N) q.2.2.1 w.2.2.1 hp hN
  obtain ⟨S1, e1, f1, g1⟩ := C_readPlain (L := L) (N := N) q.2.2.1 w.2.2.1 hp hN
  obtain ⟨S2, e2, f2, v2⟩ := C_empty (L := L) (N := N) (S := S1) (a := 19) (v := v) SA_19
  have e3 := C_forgetAll (L := L) (N := N) (S := S2) hN
  have hF : Fr plI S (stI (stI (stI (stI S2 40 3 0) 43 0 0) 43 1 0) 11 1 0) := (((((f1.trans f2 (C := plI) (fun y hy => by unfold plF at hy; unfold plI; omega) (fun y hy => by unfold plI; omega)).trans (Fr.stI (A := plI) (by unfold plI; omega)) (fun _ z => z) (fun _ z => z)).trans (Fr.stI (A := plI) (by unfold plI; omega)) (fun _ z => z) (fun _ z => z)).trans (Fr.stI (A := plI) (by unfold plI; omega)) (fun _ z => z) (fun _ z => z)).trans (Fr.stI (A := plI) (by unfold plI; omega)) (fun _ z => z) (fun _ z => z))
  have fL : Fr (fun y => y = 40 ∨ y = 43 ∨ y = 11) S2 (stI (stI (stI (stI S2 40 3 0) 43 0 0) 43 1 0) 11 1 0) := (((Fr.stI (A := fun y => y = 40 ∨ y = 43 ∨ y = 11) (by omega)).trans (Fr.stI (A := fun y => y = 40 ∨ y = 43 ∨ y = 11) (by omega)) (fun _ z => z) (fun _ z => z)).trans (Fr.stI (A := fun y => y = 40 ∨ y = 43 ∨ y = 11) (by omega)) (fun _ z => z) (fun _ z => z)).trans (Fr.stI (A := fun y => y = 40 ∨ y = 43 ∨ y = 11) (by omega)) (fun _ z => z) (fun _ z => z)
  have hG : CG (stI (stI (stI (stI S2 40 3 0) 43 0 0) 43 1 0) 11 1 0) (plP x) := (g1.fr f2 (fun y h1 h2 => by omega)).fr fL (fun y h1 h2 => by omega)
  have hV : CV (stI (stI (stI (stI S2 40 3 0) 43 0 0) 43 1 0) 11 1 0) 19 (vEmp v) := v2.fr fL (fun y h1 h2 => by omega)
  have hm := WG_plP hp
  have e11 : (stI (stI (stI S2 40 3 0) 43 0 0) 43 1 0).1 11 1 = nI x.1 := by
    rw [rdI_ne (by omega), rdI_ne (by omega), rdI_ne (by omega), f2.i (by omega), f1.i (by unfold plF; omega)]
    exact q.2.2.1.1
  have ec : f_c8_cutTo N 11 0 (mk L (stI (stI (stI S2 40 3 0) 43 0 0) 43 1 0)) = some (1, mk L (stI (stI (stI (stI S2 40 3 0) 43 0 0) 43 1 0) 11 1 0)) := by
    have hx := w.2.2.1.1
    have hx2 : x.1 ≤ 80 := hx
    have c0 : ¬ (0 : Int32) < 0 := by decide
    simp (disch := omega) only [Option.bind_some, ↓ile_t, ↓ile_f, ↓ilt_t, ↓ilt_f, ↓ieq_t, ↓ieq_f, ↓iz_t, ↓iz_f, ↓iltz, ↓izle, ↓ilez_t, ↓ilez_f, ↓im1, ile_t, ile_f, ilt_t, ilt_f, ieq_t, ieq_f, iz_t, iz_f, iltz, izle, ilez_t, ilez_f, im1, gZ_0, gZ_1, e10, e00, ↓reduceIte, Sum.elim_inl, Sum.elim_inr, nI_1, nI_add, Int32.sub_zero, f_c8_cutTo, zc11, zr11_0, zi11_1, zs11_1, e11, if_neg c0]
  have eF := C_fields (L := L) (N := N) hG
  refine ⟨_, ?_, C_newCA q (hF.mono (fun y hy => by unfold plI at hy; unfold plH; omega)) hG hV rdI_eq ?_ ⟨?_, ?_⟩, hF.mono (fun y hy => by unfold plI at hy; unfold lowC; omega)⟩
  · have c1 : ¬ (0 : Int32) ≤ -1 := n1le0
    unfold f_c10_plain
    simp (disch := omega) only [Option.bind_some, ↓ile_t, ↓ile_f, ↓ilt_t, ↓ilt_f, ↓ieq_t, ↓ieq_f, ↓iz_t, ↓iz_f, ↓iltz, ↓izle, ↓ilez_t, ↓ilez_f, ↓im1, ile_t, ile_f, ilt_t, ilt_f, ieq_t, ieq_f, iz_t, iz_f, iltz, izle, ilez_t, ilez_f, im1, gZ_0, gZ_1, e10, e00, ↓reduceIte, Sum.elim_inl, Sum.elim_inr, nI_1, nI_add, Int32.sub_zero, zc10, zr10_0, zr10_1, zr10_2, zr10_3, zr10_4, zr10_5, zr10_6, zr10_7, zr10_8, zr10_9, zr10_10, zs10_11, zs10_12, e0, if_neg c1, e1, e2, e3, ec, eF]
    rfl
  · rw [rdI_ne (by omega), rdI_ne (by omega), rdI_ne (by omega), rdI_eq]
  · rw [rdI_ne (by omega), rdI_ne (by omega), rdI_eq]
  · rw [rdI_ne (by omega), rdI_eq]
end PLAINC3
