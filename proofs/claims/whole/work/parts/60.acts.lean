/-! CALLS that do one thing to a well -/
def Agr {α : Type} (L : Nat) (S : gS) (c : Nat) (C M : gH → Option (α × gH)) : Prop := ∃ (r : α) (S1 S2 : gS) (c' : Nat), C (mk L S) = some (r, mk L S1) ∧ S1.1 0 = S.1 0 ∧ M (mk L S1) = some (r, mk L S2) ∧ S2.1 0 = S.1 0 ∧ c' ≤ c + 1 ∧ Rl S2 c'
theorem AgrI {α : Type} {L : Nat} {S S1 : gS} {c c' : Nat} {C M : gH → Option (α × gH)} {A A' : pA} {r : α} (q : MA S A c) (e : C (mk L S) = some (r, mk L S1)) (f : Fr lowC S S1) (a : CA S1 A') (w : WA A') (hc : c' ≤ c + 1) (m : ∀ T, MA T A c → ∃ T', M (mk L T) = some (r, mk L T') ∧ Fr highM T T' ∧ MA T' A' c') : Agr L S c C M := by
  obtain ⟨S2, m1, m2, m3⟩ := m S1 (q.low f)
  have e1 := (f 0 (by unfold lowC; omega)).1
  have e2 := (m2 0 (by unfold highM; omega)).1
  exact ⟨r, S1, S2, c', e, e1, m1, e2.trans e1, hc, A', w, a.high m2, m3⟩
section ACTS
variable {L N : Nat} {S T : gS} {c : Nat} {g : pG} {v v' : pV} {x : pX} {l : List Int64} {u : pX} {n : pN} {k : Nat → Option pV} {h : pH} {A : pA}
theorem lowTr {S1 S2 : gS} (a : Fr lowC S S1) (b : Fr lowC S1 S2) : Fr lowC S S2 := a.trans b (fun _ z => z) (fun _ z => z)
theorem highTr {S1 S2 : gS} (a : Fr highM S S1) (b : Fr highM S1 S2) : Fr highM S S2 := a.trans b (fun _ z => z) (fun _ z => z)
theorem MA.thr (q : MA T A c) : MA (stI T 144 10 0) A c := q.fm (FM.stK (A := fun _ => False) (K := fun k => k = 10) rfl) (fun _ z => z.elim) (fun k z => by unfold sK; omega)
theorem thrH {w : Int32} : Fr highM T (stI T 144 10 w) := Fr.stI (by unfold highM; omega)
theorem C_before (q : CA S (g, v, x, l, u, n, k, h)) (w : WA (g, v, x, l, u, n, k, h)) (hN : 900 ≤ N) : ∃ S1, f_c7_take N 25 19 (mk L S) = some (mk L S1) ∧ CA S1 (g, v, x, l, u, n, k, h) ∧ CV S1 25 v ∧ Fr lowC S S1 := by
  obtain ⟨S1, e1, e2, e3⟩ := C_take (L := L) (N := N) SA_25 SA_19 (by omega) q.2.1 w.2.1.1 hN
  exact ⟨S1, e1, q.fr e2 (fun y hy => by unfold sC; omega), e3, e2.low (fun y hy => by omega)⟩
theorem C_done {S1 S2 : gS} {r : Int32} (q : CA S1 (g, v, x, l, u, n, k, h)) (w : WA (g, v, x, l, u, n, k, h)) (b : CV S1 25 v) (f : Fr (fun y => 19 ≤ y ∧ y ≤ 24) S1 S2) (e : CV S2 19 v') (hr : ¬ r < 0) (hN : 900 ≤ N) : ∃ S3, f_c10_pushIfDone N 10 r (mk L S2) = some (r, mk L S3) ∧ CA S3 (g, v', x, l, u, uPush n v, k, h) ∧ Fr lowC S1 S3 := by
  have q2 : CA S2 (g, v', x, l, u, n, k, h) := q.now (f.mono (fun y hy => by show _ ∨ _; omega)) e
  have b2 : CV S2 25 v := b.fr f (fun y h1 h2 => by omega)
  obtain ⟨S3, e1, e2, e3⟩ := C_pid_t (L := L) (N := N) hr q2.2.2.2.2.2.1 b2 w.2.1.1 hN
  exact ⟨S3, e1, q2.undo (e2.mono (fun y hy => by have hy2 : y = 40 ∨ y = 41 ∨ (44 ≤ y ∧ y ≤ 115) := hy; show _ ∨ _; omega)) e3, lowTr (f.low (fun y hy => by omega)) (e2.low (fun y hy => by have hy2 : y = 40 ∨ y = 41 ∨ (44 ≤ y ∧ y ≤ 115) := hy; omega))⟩
theorem M_rem (q : MA T (g, v, x, l, u, n, k, h) c) (w : WA (g, v, x, l, u, n, k, h)) (hN : 900 ≤ N) : ∃ T1, f_c11_remember N 144 145 (mk L T) = some (mk L T1) ∧ MA T1 (g, v, x, l, u, uPush n v, k, h) c ∧ Fr highM T T1 := by
  obtain ⟨T1, e1, e2, e3⟩ := M_remember (L := L) (N := N) MA_145 (by omega) q.2.2.2.2.2.1 w.2.2.2.2.2.1.1 (fun i hi => (w.2.2.2.2.2.1.2 i hi).1) q.2.1 w.2.1.1 hN
  exact ⟨T1, e1, q.undo (e2.mono (fun y hy => by show _ ∨ _; omega) (fun y hy => by show _ ∨ _; omega)) e3, e2.high (fun y hy => by omega)⟩
theorem M_now {r j : Nat} {y : Int32} (q : MA T (g, v, x, l, u, n, k, h) c) (e : MW (stI T 145 j y) 145 v') : MA (stI T 145 j y) (g, v', x, l, u, n, k, h) c :=
  q.now (FM.stA (by show _ ∨ _; omega) (by omega)) e
theorem WA.act (w : WA (g, v, x, l, u, n, k, h)) (hv : WV g v') : WA (g, v', x, l, u, uPush n v, k, h) :=
  ⟨w.1, hv, w.2.2.1, w.2.2.2.1, w.2.2.2.2.1, w.2.2.2.2.2.1.push w.2.1, w.2.2.2.2.2.2⟩
theorem n1lt0 : ((-1 : Int32) < 0) := by decide
theorem n2lt0 : ((-2 : Int32) < 0) := by decide
theorem n3lt0 : ((-3 : Int32) < 0) := by decide
theorem n1le0 : ¬ ((0 : Int32) ≤ -1) := by decide
theorem n2le0 : ¬ ((0 : Int32) ≤ -2) := by decide
theorem n3le0 : ¬ ((0 : Int32) ≤ -3) := by decide
theorem z0le0 : ((0 : Int32) ≤ 0) := by decide
-- ands
theorem A_ands {p : Int32} (w : WA A) (q : CA S A) (m : MA S A c) (hN : 900 ≤ N) : Agr L S c (f_c10_ands N 10 p) (f_c11_ands N 144 p) := by
  obtain ⟨g, v, x, l, u, n, k, h⟩ := A
  obtain ⟨S1, e1, q1, b1, f1⟩ := C_before (L := L) (N := N) q w hN
  have h8 := w.2.1.1
  change vN v ≤ 8 at h8
  have hV1 : CV S1 19 v := q1.2.1
  rcases in_or (n := vN v) p (by omega) with ⟨i, hi, rfl⟩ | hp
  · have hA := (w.2.1.2.2 i hi).2.2.2.2.1
    change vA v i ≤ 9 at hA
    by_cases h9 : vA v i = 9
    · refine AgrI (r := -2) (A' := (g, v, x, l, u, n, k, h)) (c' := c) m (S1 := S1) ?_ f1 q1 w (by omega) (fun T mt => ⟨stI T 144 10 0, ?_, thrH, mt.thr⟩)
      · simp (disch := omega) only [Option.bind_some, ↓ile_t, ↓ile_f, ↓ilt_t, ↓ilt_f, ↓ieq_t, ↓ieq_f, ↓iz_t, ↓iz_f, ↓iltz, ↓izle, ↓ilez_t, ↓ilez_f, ↓im1, ile_t, ile_f, ilt_t, ilt_f, ieq_t, ieq_f, iz_t, iz_f, iltz, izle, ilez_t, ilez_f, im1, gZ_0, gZ_1, e10, e00, ↓reduceIte, Sum.elim_inl, Sum.elim_inr, nI_1, nI_add, Int32.sub_zero, f_c10_ands, zc10, zr10_0, zr10_1, zr10_2, zr10_3, zr10_4, zr10_5, zr10_6, zr10_7, zr10_8, zr10_9, zr10_10, zs10_11, zs10_12, e1, C_throwAnd_full (L := L) (N := N) SA_19 hV1 w.2.1 hi h9, C_pid n2lt0]
      · have t1 := mt.thr
        simp (disch := omega) only [Option.bind_some, ↓ile_t, ↓ile_f, ↓ilt_t, ↓ilt_f, ↓ieq_t, ↓ieq_f, ↓iz_t, ↓iz_f, ↓iltz, ↓izle, ↓ilez_t, ↓ilez_f, ↓im1, ile_t, ile_f, ilt_t, ilt_f, ieq_t, ieq_f, iz_t, iz_f, iltz, izle, ilez_t, ilez_f, im1, gZ_0, gZ_1, e10, e00, ↓reduceIte, Sum.elim_inl, Sum.elim_inr, nI_1, nI_add, Int32.sub_zero, f_c11_ands, zc144, zs144_10, zr144_0, f_c11_refusesAnd, k40, zg145, t1.2.1.1, M_in_nI hi, k24, (t1.2.1.2.2.2 i hi).2.2.2.1, h9, k9]
        rw [if_neg n2le0]
    · obtain ⟨S2, e2, f2, v2⟩ := C_throwAnd_ok (L := L) (N := N) SA_19 hV1 w.2.1 hi (by omega)
      have hv' : WV g (vSetA v i (vA v i + 1)) := w.2.1.setA (by omega)
      obtain ⟨S3, e3, q3, f3⟩ := C_done (L := L) (N := N) q1 w b1 (f2.mono (fun y hy => by omega)) v2 (r := nI (vA v i + 1)) (nI_pos (by omega)) hN
      refine AgrI (r := nI (vA v i + 1)) (c' := c) m (S1 := S3) ?_ (lowTr f1 f3) q3 (w.act hv') (by omega) (fun T mt => ?_)
      · simp (disch := omega) only [Option.bind_some, ↓ile_t, ↓ile_f, ↓ilt_t, ↓ilt_f, ↓ieq_t, ↓ieq_f, ↓iz_t, ↓iz_f, ↓iltz, ↓izle, ↓ilez_t, ↓ilez_f, ↓im1, ile_t, ile_f, ilt_t, ilt_f, ieq_t, ieq_f, iz_t, iz_f, iltz, izle, ilez_t, ilez_f, im1, gZ_0, gZ_1, e10, e00, ↓reduceIte, Sum.elim_inl, Sum.elim_inr, nI_1, nI_add, Int32.sub_zero, f_c10_ands, zc10, zr10_0, zr10_1, zr10_2, zr10_3, zr10_4, zr10_5, zr10_6, zr10_7, zr10_8, zr10_9, zr10_10, zs10_11, zs10_12, e1, e2, e3]
      · have t1 := mt.thr
        obtain ⟨T1, g1, g2, g3⟩ := M_rem (L := L) (N := N) t1 w hN
        have eA : T1.1 145 (24 + i) = nI (vA v i) := (g2.2.1.2.2.2 i hi).2.2.2.1
        refine ⟨stI T1 145 (24 + i) (nI (vA v i + 1)), ?_, highTr thrH (highTr g3 (Fr.stI (by unfold highM; omega))), M_now (r := 0) g2 (MW_A g2.2.1 h8 (by omega))⟩
        have n9 : ¬ nI (vA v i) = 9 := fun e => h9 ((nI_eq (b := 9) (by omega) (by omega)).mp e)
        simp (disch := omega) only [Option.bind_some, ↓ile_t, ↓ile_f, ↓ilt_t, ↓ilt_f, ↓ieq_t, ↓ieq_f, ↓iz_t, ↓iz_f, ↓iltz, ↓izle, ↓ilez_t, ↓ilez_f, ↓im1, ile_t, ile_f, ilt_t, ilt_f, ieq_t, ieq_f, iz_t, iz_f, iltz, izle, ilez_t, ilez_f, im1, gZ_0, gZ_1, e10, e00, ↓reduceIte, Sum.elim_inl, Sum.elim_inr, nI_1, nI_add, Int32.sub_zero, f_c11_ands, zc144, zs144_10, zr144_0, f_c11_refusesAnd, k40, zg145, t1.2.1.1, M_in_nI hi, k24, (t1.2.1.2.2.2 i hi).2.2.2.1, if_neg n9]
        rw [if_pos z0le0]
        simp (disch := omega) only [Option.bind_some, ↓ile_t, ↓ile_f, ↓ilt_t, ↓ilt_f, ↓ieq_t, ↓ieq_f, ↓iz_t, ↓iz_f, ↓iltz, ↓izle, ↓ilez_t, ↓ilez_f, ↓im1, ile_t, ile_f, ilt_t, ilt_f, ieq_t, ieq_f, iz_t, iz_f, iltz, izle, ilez_t, ilez_f, im1, gZ_0, gZ_1, e10, e00, ↓reduceIte, Sum.elim_inl, Sum.elim_inr, nI_1, nI_add, Int32.sub_zero, g1, zr144_0, zg145, zp145, eA, rdI_eq]
  · refine AgrI (r := -1) (A' := (g, v, x, l, u, n, k, h)) (c' := c) m (S1 := S1) ?_ f1 q1 w (by omega) (fun T mt => ⟨stI T 144 10 0, ?_, thrH, mt.thr⟩)
    · simp (disch := omega) only [Option.bind_some, ↓ile_t, ↓ile_f, ↓ilt_t, ↓ilt_f, ↓ieq_t, ↓ieq_f, ↓iz_t, ↓iz_f, ↓iltz, ↓izle, ↓ilez_t, ↓ilez_f, ↓im1, ile_t, ile_f, ilt_t, ilt_f, ieq_t, ieq_f, iz_t, iz_f, iltz, izle, ilez_t, ilez_f, im1, gZ_0, gZ_1, e10, e00, ↓reduceIte, Sum.elim_inl, Sum.elim_inr, nI_1, nI_add, Int32.sub_zero, f_c10_ands, zc10, zr10_0, zr10_1, zr10_2, zr10_3, zr10_4, zr10_5, zr10_6, zr10_7, zr10_8, zr10_9, zr10_10, zs10_11, zs10_12, e1, C_throwAnd_no (L := L) (N := N) SA_19 hV1 hp, C_pid n1lt0]
    · have t1 := mt.thr
      simp (disch := omega) only [Option.bind_some, ↓ile_t, ↓ile_f, ↓ilt_t, ↓ilt_f, ↓ieq_t, ↓ieq_f, ↓iz_t, ↓iz_f, ↓iltz, ↓izle, ↓ilez_t, ↓ilez_f, ↓im1, ile_t, ile_f, ilt_t, ilt_f, ieq_t, ieq_f, iz_t, iz_f, iltz, izle, ilez_t, ilez_f, im1, gZ_0, gZ_1, e10, e00, ↓reduceIte, Sum.elim_inl, Sum.elim_inr, nI_1, nI_add, Int32.sub_zero, f_c11_ands, zc144, zs144_10, zr144_0, f_c11_refusesAnd, k40, zg145, t1.2.1.1, M_in_out (n := vN v) (by omega) hp, eq_self_iff_true]
      rw [if_neg n1le0]
end ACTS
