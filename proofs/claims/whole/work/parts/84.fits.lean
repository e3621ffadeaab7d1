/-! CALLS: fits: what was heard fits a well -/
def hFit (g : pG) (v : pV) (t y w : Nat) : Prop := (t = 0 ∧ y ≤ vW v w) ∨ (t = 1 ∧ vM v w = y) ∨ (t = 2 ∧ y ≤ vT v w) ∨ (t = 3 ∧ vF v w / gCo g = y) ∨ (t = 4 ∧ y < gVm g ∧ oI (sNear g v (gHm g y) (vN v)) = nI w)
def isB (r : Int32) (P : Prop) : Prop := (P ∧ r = 1) ∨ (¬ P ∧ r = 0)
section FITS
variable {L N : Nat} {S T : gS} {c : Nat} {g : pG} {v : pV} {x : pX} {l : List Int64} {u : pX} {n : pN} {k : Nat → Option pV} {h : pH} {A : pA}
theorem C_isSo {t y w : Nat} (cg : CG S g) (cv : CV S 19 v) (wg : WG g) (wv : WV g v) (ht : t ≤ 4) (hy : y < 1000) (hw : w < vN v) (hN : 900 ≤ N) : ∃ r, f_c2_isSo N 128 (nI t) (nI y) (nI w) 19 15 (mk L S) = some r ∧ isB r (hFit g v t y w) := by
  have h8 := wv.1
  have w8 : w < 8 := by omega
  obtain ⟨b1, b2, b3, b4, b5, b6⟩ := wv.2.2 w hw
  obtain ⟨c1, c2, c3, c4, c5⟩ := cv.2.2.2 w hw
  have hF := wv.F wg hw
  unfold f_c2_isSo
  rw [zc128, Option.bind_some]
  rcases (show t = 0 ∨ t = 1 ∨ t = 2 ∨ t = 3 ∨ t = 4 by omega) with rfl | rfl | rfl | rfl | rfl
  · rw [if_pos (show nI 0 = (0 : Int32) from rfl)]
    by_cases z : y ≤ vW v w
    · refine ⟨1, ?_, Or.inl ⟨Or.inl ⟨rfl, z⟩, rfl⟩⟩
      simp (disch := omega) only [Option.bind_some, ↓ile_t, ↓ile_f, ↓ilt_t, ↓ilt_f, ↓ieq_t, ↓ieq_f, ↓iz_t, ↓iz_f, ↓iltz, ↓izle, ↓ilez_t, ↓ilez_f, ↓im1, ile_t, ile_f, ilt_t, ilt_f, ieq_t, ieq_f, iz_t, iz_f, iltz, izle, ilez_t, ilez_f, im1, gZ_0, gZ_1, e10, e00, ↓reduceIte, Sum.elim_inl, Sum.elim_inr, nI_1, nI_add, Int32.sub_zero, qc SA_19, qi0 SA_19, qs0 SA_19, qr1 SA_19, qr2 SA_19, qr3 SA_19, qr4 SA_19, qr5 SA_19, qi6 SA_19, qs6 SA_19, qi7 SA_19, qs7 SA_19, qg2 SA_19, c2]
    · refine ⟨0, ?_, Or.inr ⟨fun f => ?_, rfl⟩⟩
      · simp (disch := omega) only [Option.bind_some, ↓ile_t, ↓ile_f, ↓ilt_t, ↓ilt_f, ↓ieq_t, ↓ieq_f, ↓iz_t, ↓iz_f, ↓iltz, ↓izle, ↓ilez_t, ↓ilez_f, ↓im1, ile_t, ile_f, ilt_t, ilt_f, ieq_t, ieq_f, iz_t, iz_f, iltz, izle, ilez_t, ilez_f, im1, gZ_0, gZ_1, e10, e00, ↓reduceIte, Sum.elim_inl, Sum.elim_inr, nI_1, nI_add, Int32.sub_zero, qc SA_19, qi0 SA_19, qs0 SA_19, qr1 SA_19, qr2 SA_19, qr3 SA_19, qr4 SA_19, qr5 SA_19, qi6 SA_19, qs6 SA_19, qi7 SA_19, qs7 SA_19, qg2 SA_19, c2]
      · unfold hFit at f; omega
  · rw [if_neg (show ¬ nI 1 = (0 : Int32) by decide), if_pos (show nI 1 = (1 : Int32) from rfl)]
    by_cases z : vM v w = y
    · refine ⟨1, ?_, Or.inl ⟨Or.inr (Or.inl ⟨rfl, z⟩), rfl⟩⟩
      simp (disch := omega) only [Option.bind_some, ↓ile_t, ↓ile_f, ↓ilt_t, ↓ilt_f, ↓ieq_t, ↓ieq_f, ↓iz_t, ↓iz_f, ↓iltz, ↓izle, ↓ilez_t, ↓ilez_f, ↓im1, ile_t, ile_f, ilt_t, ilt_f, ieq_t, ieq_f, iz_t, iz_f, iltz, izle, ilez_t, ilez_f, im1, gZ_0, gZ_1, e10, e00, ↓reduceIte, Sum.elim_inl, Sum.elim_inr, nI_1, nI_add, Int32.sub_zero, qc SA_19, qi0 SA_19, qs0 SA_19, qr1 SA_19, qr2 SA_19, qr3 SA_19, qr4 SA_19, qr5 SA_19, qi6 SA_19, qs6 SA_19, qi7 SA_19, qs7 SA_19, qg3 SA_19, c3]
    · refine ⟨0, ?_, Or.inr ⟨fun f => ?_, rfl⟩⟩
      · simp (disch := omega) only [Option.bind_some, ↓ile_t, ↓ile_f, ↓ilt_t, ↓ilt_f, ↓ieq_t, ↓ieq_f, ↓iz_t, ↓iz_f, ↓iltz, ↓izle, ↓ilez_t, ↓ilez_f, ↓im1, ile_t, ile_f, ilt_t, ilt_f, ieq_t, ieq_f, iz_t, iz_f, iltz, izle, ilez_t, ilez_f, im1, gZ_0, gZ_1, e10, e00, ↓reduceIte, Sum.elim_inl, Sum.elim_inr, nI_1, nI_add, Int32.sub_zero, qc SA_19, qi0 SA_19, qs0 SA_19, qr1 SA_19, qr2 SA_19, qr3 SA_19, qr4 SA_19, qr5 SA_19, qi6 SA_19, qs6 SA_19, qi7 SA_19, qs7 SA_19, qg3 SA_19, c3]
      · unfold hFit at f; omega
  · rw [if_neg (show ¬ nI 2 = (0 : Int32) by decide), if_neg (show ¬ nI 2 = (1 : Int32) by decide), if_pos (show nI 2 = (2 : Int32) from rfl)]
    by_cases z : y ≤ vT v w
    · refine ⟨1, ?_, Or.inl ⟨Or.inr (Or.inr (Or.inl ⟨rfl, z⟩)), rfl⟩⟩
      simp (disch := omega) only [Option.bind_some, ↓ile_t, ↓ile_f, ↓ilt_t, ↓ilt_f, ↓ieq_t, ↓ieq_f, ↓iz_t, ↓iz_f, ↓iltz, ↓izle, ↓ilez_t, ↓ilez_f, ↓im1, ile_t, ile_f, ilt_t, ilt_f, ieq_t, ieq_f, iz_t, iz_f, iltz, izle, ilez_t, ilez_f, im1, gZ_0, gZ_1, e10, e00, ↓reduceIte, Sum.elim_inl, Sum.elim_inr, nI_1, nI_add, Int32.sub_zero, qc SA_19, qi0 SA_19, qs0 SA_19, qr1 SA_19, qr2 SA_19, qr3 SA_19, qr4 SA_19, qr5 SA_19, qi6 SA_19, qs6 SA_19, qi7 SA_19, qs7 SA_19, qg5 SA_19, c5]
    · refine ⟨0, ?_, Or.inr ⟨fun f => ?_, rfl⟩⟩
      · simp (disch := omega) only [Option.bind_some, ↓ile_t, ↓ile_f, ↓ilt_t, ↓ilt_f, ↓ieq_t, ↓ieq_f, ↓iz_t, ↓iz_f, ↓iltz, ↓izle, ↓ilez_t, ↓ilez_f, ↓im1, ile_t, ile_f, ilt_t, ilt_f, ieq_t, ieq_f, iz_t, iz_f, iltz, izle, ilez_t, ilez_f, im1, gZ_0, gZ_1, e10, e00, ↓reduceIte, Sum.elim_inl, Sum.elim_inr, nI_1, nI_add, Int32.sub_zero, qc SA_19, qi0 SA_19, qs0 SA_19, qr1 SA_19, qr2 SA_19, qr3 SA_19, qr4 SA_19, qr5 SA_19, qi6 SA_19, qs6 SA_19, qi7 SA_19, qs7 SA_19, qg5 SA_19, c5]
      · unfold hFit at f; omega
  · rw [if_neg (show ¬ nI 3 = (0 : Int32) by decide), if_neg (show ¬ nI 3 = (1 : Int32) by decide), if_neg (show ¬ nI 3 = (2 : Int32) by decide), if_pos (show nI 3 = (3 : Int32) from rfl)]
    have hd : vF v w / gCo g ≤ vF v w := Nat.div_le_self _ _
    by_cases z : vF v w / gCo g = y
    · refine ⟨1, ?_, Or.inl ⟨Or.inr (Or.inr (Or.inr (Or.inl ⟨rfl, z⟩))), rfl⟩⟩
      simp (disch := omega) only [Option.bind_some, ↓ile_t, ↓ile_f, ↓ilt_t, ↓ilt_f, ↓ieq_t, ↓ieq_f, ↓iz_t, ↓iz_f, ↓iltz, ↓izle, ↓ilez_t, ↓ilez_f, ↓im1, ile_t, ile_f, ilt_t, ilt_f, ieq_t, ieq_f, iz_t, iz_f, iltz, izle, ilez_t, ilez_f, im1, gZ_0, gZ_1, e10, e00, ↓reduceIte, Sum.elim_inl, Sum.elim_inr, nI_1, nI_add, Int32.sub_zero, qc SA_19, qi0 SA_19, qs0 SA_19, qr1 SA_19, qr2 SA_19, qr3 SA_19, qr4 SA_19, qr5 SA_19, qi6 SA_19, qs6 SA_19, qi7 SA_19, qs7 SA_19, qg1 SA_19, c1, C_rowOf cg wg]
    · refine ⟨0, ?_, Or.inr ⟨fun f => ?_, rfl⟩⟩
      · simp (disch := omega) only [Option.bind_some, ↓ile_t, ↓ile_f, ↓ilt_t, ↓ilt_f, ↓ieq_t, ↓ieq_f, ↓iz_t, ↓iz_f, ↓iltz, ↓izle, ↓ilez_t, ↓ilez_f, ↓im1, ile_t, ile_f, ilt_t, ilt_f, ieq_t, ieq_f, iz_t, iz_f, iltz, izle, ilez_t, ilez_f, im1, gZ_0, gZ_1, e10, e00, ↓reduceIte, Sum.elim_inl, Sum.elim_inr, nI_1, nI_add, Int32.sub_zero, qc SA_19, qi0 SA_19, qs0 SA_19, qr1 SA_19, qr2 SA_19, qr3 SA_19, qr4 SA_19, qr5 SA_19, qi6 SA_19, qs6 SA_19, qi7 SA_19, qs7 SA_19, qg1 SA_19, c1, C_rowOf cg wg]
      · unfold hFit at f; omega
  · rw [if_neg (show ¬ nI 4 = (0 : Int32) by decide), if_neg (show ¬ nI 4 = (1 : Int32) by decide), if_neg (show ¬ nI 4 = (2 : Int32) by decide), if_neg (show ¬ nI 4 = (3 : Int32) by decide)]
    by_cases z0 : y < gVm g
    · have hH := wg.H z0
      have h6 := wg.2.2.2.2.1
      have en := C_near (L := L) (N := N) (f := gHm g y) SA_19 cv cg wg wv (by omega) hN
      have eh := C_hasV_t (L := L) (N := N) cg wg z0
      by_cases z : oI (sNear g v (gHm g y) (vN v)) = nI w
      · refine ⟨1, ?_, Or.inl ⟨Or.inr (Or.inr (Or.inr (Or.inr ⟨rfl, z0, z⟩))), rfl⟩⟩
        simp (disch := omega) only [Option.bind_some, ↓ile_t, ↓ile_f, ↓ilt_t, ↓ilt_f, ↓ieq_t, ↓ieq_f, ↓iz_t, ↓iz_f, ↓iltz, ↓izle, ↓ilez_t, ↓ilez_f, ↓im1, ile_t, ile_f, ilt_t, ilt_f, ieq_t, ieq_f, iz_t, iz_f, iltz, izle, ilez_t, ilez_f, im1, gZ_0, gZ_1, e10, e00, ↓reduceIte, Sum.elim_inl, Sum.elim_inr, nI_1, nI_add, Int32.sub_zero, eh, zc15, zi15_0, zs15_0, zi15_1, zs15_1, zi15_2, zs15_2, zr15_3, zr15_4, zr15_5, zg16, (cg.2.2.2.1 y z0).1, en, if_pos z]
      · refine ⟨0, ?_, Or.inr ⟨fun f => ?_, rfl⟩⟩
        · simp (disch := omega) only [Option.bind_some, ↓ile_t, ↓ile_f, ↓ilt_t, ↓ilt_f, ↓ieq_t, ↓ieq_f, ↓iz_t, ↓iz_f, ↓iltz, ↓izle, ↓ilez_t, ↓ilez_f, ↓im1, ile_t, ile_f, ilt_t, ilt_f, ieq_t, ieq_f, iz_t, iz_f, iltz, izle, ilez_t, ilez_f, im1, gZ_0, gZ_1, e10, e00, ↓reduceIte, Sum.elim_inl, Sum.elim_inr, nI_1, nI_add, Int32.sub_zero, eh, zc15, zi15_0, zs15_0, zi15_1, zs15_1, zi15_2, zs15_2, zr15_3, zr15_4, zr15_5, zg16, (cg.2.2.2.1 y z0).1, en, if_neg z]
        · rcases f with f | f | f | f | f
          · omega
          · omega
          · omega
          · omega
          · exact z f.2.2
    · have h6 := wg.2.2.2.2.1
      have eh := C_hasV_f (L := L) (N := N) (x := nI y) cg (Or.inr ⟨nI_pos (by omega), nI_le (by omega) (by omega)⟩)
      refine ⟨0, ?_, Or.inr ⟨fun f => ?_, rfl⟩⟩
      · simp (disch := omega) only [Option.bind_some, ↓ile_t, ↓ile_f, ↓ilt_t, ↓ilt_f, ↓ieq_t, ↓ieq_f, ↓iz_t, ↓iz_f, ↓iltz, ↓izle, ↓ilez_t, ↓ilez_f, ↓im1, ile_t, ile_f, ilt_t, ilt_f, ieq_t, ieq_f, iz_t, iz_f, iltz, izle, ilez_t, ilez_f, im1, gZ_0, gZ_1, e10, e00, ↓reduceIte, Sum.elim_inl, Sum.elim_inr, nI_1, nI_add, Int32.sub_zero, eh, eq_self_iff_true]
      · rcases f with f | f | f | f | f
        · omega
        · omega
        · omega
        · omega
        · exact z0 f.2.1
theorem sDrw_b {p : Int32} : ∀ i, sDrw g v p i = bMask (fun j => oI (sNear g v (gHm g j) (vN v)) = p) i := by
  intro i
  induction i with
  | zero => rfl
  | succ i ih =>
    by_cases z : oI (sNear g v (gHm g i) (vN v)) = p
    · rw [bMask_t (p := fun j => oI (sNear g v (gHm g j) (vN v)) = p) z, sDrw, if_pos z, ih]
    · rw [bMask_f (p := fun j => oI (sNear g v (gHm g j) (vN v)) = p) z, sDrw, if_neg z, ih]
theorem M_fits {t y w : Nat} (cg : MG T g) (cv : MW T 145 v) (wg : WG g) (wv : WV g v) (ht : t ≤ 4) (hy : y < 1000) (hy4 : t = 4 → y < 32) (hw : w < vN v) (hN : 900 ≤ N) : ∃ r, f_c11_fits N 144 (nI w) (nI t) (nI y) (mk L T) = some r ∧ isB r (hFit g v t y w) := by
  have h8 := wv.1
  obtain ⟨b1, b2, b3, b4, b5, b6⟩ := wv.2.2 w hw
  obtain ⟨c1, c2, c3, c4, c5⟩ := cv.2.2.2 w hw
  have hF := wv.F wg hw
  have e2 : T.1 144 2 = nI (gCo g) := cg.2.1
  have g3 := wg.2.2
  unfold f_c11_fits
  rw [zc144, Option.bind_some]
  rcases (show t = 0 ∨ t = 1 ∨ t = 2 ∨ t = 3 ∨ t = 4 by omega) with rfl | rfl | rfl | rfl | rfl
  · rw [if_pos (show nI 0 = (0 : Int32) from rfl)]
    by_cases z : y ≤ vW v w
    · refine ⟨1, ?_, Or.inl ⟨Or.inl ⟨rfl, z⟩, rfl⟩⟩
      simp (disch := omega) only [Option.bind_some, ↓ile_t, ↓ile_f, ↓ilt_t, ↓ilt_f, ↓ieq_t, ↓ieq_f, ↓iz_t, ↓iz_f, ↓iltz, ↓izle, ↓ilez_t, ↓ilez_f, ↓im1, ile_t, ile_f, ilt_t, ilt_f, ieq_t, ieq_f, iz_t, iz_f, iltz, izle, ilez_t, ilez_f, im1, gZ_0, gZ_1, e10, e00, ↓reduceIte, Sum.elim_inl, Sum.elim_inr, nI_1, nI_add, Int32.sub_zero, zr144_0, k8, zg145, c2]
    · refine ⟨0, ?_, Or.inr ⟨fun f => ?_, rfl⟩⟩
      · simp (disch := omega) only [Option.bind_some, ↓ile_t, ↓ile_f, ↓ilt_t, ↓ilt_f, ↓ieq_t, ↓ieq_f, ↓iz_t, ↓iz_f, ↓iltz, ↓izle, ↓ilez_t, ↓ilez_f, ↓im1, ile_t, ile_f, ilt_t, ilt_f, ieq_t, ieq_f, iz_t, iz_f, iltz, izle, ilez_t, ilez_f, im1, gZ_0, gZ_1, e10, e00, ↓reduceIte, Sum.elim_inl, Sum.elim_inr, nI_1, nI_add, Int32.sub_zero, zr144_0, k8, zg145, c2]
      · unfold hFit at f; omega
  · rw [if_neg (show ¬ nI 1 = (0 : Int32) by decide), if_pos (show nI 1 = (1 : Int32) from rfl)]
    by_cases z : vM v w = y
    · refine ⟨1, ?_, Or.inl ⟨Or.inr (Or.inl ⟨rfl, z⟩), rfl⟩⟩
      simp (disch := omega) only [Option.bind_some, ↓ile_t, ↓ile_f, ↓ilt_t, ↓ilt_f, ↓ieq_t, ↓ieq_f, ↓iz_t, ↓iz_f, ↓iltz, ↓izle, ↓ilez_t, ↓ilez_f, ↓im1, ile_t, ile_f, ilt_t, ilt_f, ieq_t, ieq_f, iz_t, iz_f, iltz, izle, ilez_t, ilez_f, im1, gZ_0, gZ_1, e10, e00, ↓reduceIte, Sum.elim_inl, Sum.elim_inr, nI_1, nI_add, Int32.sub_zero, zr144_0, k16, zg145, c3]
    · refine ⟨0, ?_, Or.inr ⟨fun f => ?_, rfl⟩⟩
      · simp (disch := omega) only [Option.bind_some, ↓ile_t, ↓ile_f, ↓ilt_t, ↓ilt_f, ↓ieq_t, ↓ieq_f, ↓iz_t, ↓iz_f, ↓iltz, ↓izle, ↓ilez_t, ↓ilez_f, ↓im1, ile_t, ile_f, ilt_t, ilt_f, ieq_t, ieq_f, iz_t, iz_f, iltz, izle, ilez_t, ilez_f, im1, gZ_0, gZ_1, e10, e00, ↓reduceIte, Sum.elim_inl, Sum.elim_inr, nI_1, nI_add, Int32.sub_zero, zr144_0, k16, zg145, c3]
      · unfold hFit at f; omega
  · rw [if_neg (show ¬ nI 2 = (0 : Int32) by decide), if_neg (show ¬ nI 2 = (1 : Int32) by decide), if_pos (show nI 2 = (2 : Int32) from rfl)]
    by_cases z : y ≤ vT v w
    · refine ⟨1, ?_, Or.inl ⟨Or.inr (Or.inr (Or.inl ⟨rfl, z⟩)), rfl⟩⟩
      simp (disch := omega) only [Option.bind_some, ↓ile_t, ↓ile_f, ↓ilt_t, ↓ilt_f, ↓ieq_t, ↓ieq_f, ↓iz_t, ↓iz_f, ↓iltz, ↓izle, ↓ilez_t, ↓ilez_f, ↓im1, ile_t, ile_f, ilt_t, ilt_f, ieq_t, ieq_f, iz_t, iz_f, iltz, izle, ilez_t, ilez_f, im1, gZ_0, gZ_1, e10, e00, ↓reduceIte, Sum.elim_inl, Sum.elim_inr, nI_1, nI_add, Int32.sub_zero, zr144_0, k32, zg145, c5]
    · refine ⟨0, ?_, Or.inr ⟨fun f => ?_, rfl⟩⟩
      · simp (disch := omega) only [Option.bind_some, ↓ile_t, ↓ile_f, ↓ilt_t, ↓ilt_f, ↓ieq_t, ↓ieq_f, ↓iz_t, ↓iz_f, ↓iltz, ↓izle, ↓ilez_t, ↓ilez_f, ↓im1, ile_t, ile_f, ilt_t, ilt_f, ieq_t, ieq_f, iz_t, iz_f, iltz, izle, ilez_t, ilez_f, im1, gZ_0, gZ_1, e10, e00, ↓reduceIte, Sum.elim_inl, Sum.elim_inr, nI_1, nI_add, Int32.sub_zero, zr144_0, k32, zg145, c5]
      · unfold hFit at f; omega
  · rw [if_neg (show ¬ nI 3 = (0 : Int32) by decide), if_neg (show ¬ nI 3 = (1 : Int32) by decide), if_neg (show ¬ nI 3 = (2 : Int32) by decide), if_pos (show nI 3 = (3 : Int32) from rfl)]
    have hd : vF v w / gCo g ≤ vF v w := Nat.div_le_self _ _
    by_cases z : vF v w / gCo g = y
    · refine ⟨1, ?_, Or.inl ⟨Or.inr (Or.inr (Or.inr (Or.inl ⟨rfl, z⟩))), rfl⟩⟩
      simp (disch := omega) only [Option.bind_some, ↓ile_t, ↓ile_f, ↓ilt_t, ↓ilt_f, ↓ieq_t, ↓ieq_f, ↓iz_t, ↓iz_f, ↓iltz, ↓izle, ↓ilez_t, ↓ilez_f, ↓im1, ile_t, ile_f, ilt_t, ilt_f, ieq_t, ieq_f, iz_t, iz_f, iltz, izle, ilez_t, ilez_f, im1, gZ_0, gZ_1, e10, e00, ↓reduceIte, Sum.elim_inl, Sum.elim_inr, nI_1, nI_add, Int32.sub_zero, zr144_0, zg145, c1, zi144_2, e2, gNZ_nI, nI_div]
    · refine ⟨0, ?_, Or.inr ⟨fun f => ?_, rfl⟩⟩
      · simp (disch := omega) only [Option.bind_some, ↓ile_t, ↓ile_f, ↓ilt_t, ↓ilt_f, ↓ieq_t, ↓ieq_f, ↓iz_t, ↓iz_f, ↓iltz, ↓izle, ↓ilez_t, ↓ilez_f, ↓im1, ile_t, ile_f, ilt_t, ilt_f, ieq_t, ieq_f, iz_t, iz_f, iltz, izle, ilez_t, ilez_f, im1, gZ_0, gZ_1, e10, e00, ↓reduceIte, Sum.elim_inl, Sum.elim_inr, nI_1, nI_add, Int32.sub_zero, zr144_0, zg145, c1, zi144_2, e2, gNZ_nI, nI_div]
      · unfold hFit at f; omega
  · rw [if_neg (show ¬ nI 4 = (0 : Int32) by decide), if_neg (show ¬ nI 4 = (1 : Int32) by decide), if_neg (show ¬ nI 4 = (2 : Int32) by decide), if_neg (show ¬ nI 4 = (3 : Int32) by decide), M_drw cg cv wg wv hN, Option.bind_some, sDrw_b]
    have h6 := wg.2.2.2.2.1
    have hb := bMask_bit (p := fun j => oI (sNear g v (gHm g j) (vN v)) = nI w) (n := gVm g) (j := y) (by omega) (hy4 rfl)
    unfold f_c11_has
    by_cases z : y < gVm g ∧ oI (sNear g v (gHm g y) (vN v)) = nI w
    · refine ⟨1, ?_, Or.inl ⟨Or.inr (Or.inr (Or.inr (Or.inr ⟨rfl, z.1, z.2⟩))), rfl⟩⟩
      rw [if_pos (hb.mpr z)]
      rfl
    · refine ⟨0, ?_, Or.inr ⟨fun f => ?_, rfl⟩⟩
      · rw [if_neg (fun e => z (hb.mp e))]
        rfl
      · rcases f with f | f | f | f | f
        · omega
        · omega
        · omega
        · omega
        · exact z f.2
end FITS
